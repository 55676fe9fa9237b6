section
-- ===== PART A: goes FIRST, ahead of the names: the tables' words, and 'selects' of the private methods out of them =====
/-- a private method of a class that the tables say can be made, by its rows of tables_1 -/
def lw_okq (q : MethodName × Nat) : Prop := (q.1.cls ≠ "java/lang/invoke/MethodHandle" ∧ q.1.cls ≠ "java/lang/invoke/VarHandle") ∧ Cond.instantiable q.1.cls q.2 ∈ tables_1 ∧ Cond.privateMethod q.1 ∈ tables_1 ∧ Cond.instanceMethod q.1 ∈ tables_1
theorem lw_p0 : lw_okq (⟨"OdometerRing$Story", "signHere", "()I"⟩, 9) := ⟨⟨by decide +kernel, by decide +kernel⟩, List.mem_of_getElem? (i := 26) (by decide +kernel), List.mem_of_getElem? (i := 269) (by decide +kernel), List.mem_of_getElem? (i := 270) (by decide +kernel)⟩
theorem lw_p1 : lw_okq (⟨"OdometerRing$Story", "readNumber", "(III)I"⟩, 9) := ⟨⟨by decide +kernel, by decide +kernel⟩, List.mem_of_getElem? (i := 26) (by decide +kernel), List.mem_of_getElem? (i := 274) (by decide +kernel), List.mem_of_getElem? (i := 275) (by decide +kernel)⟩
theorem lw_p2 : lw_okq (⟨"java/lang/Throwable", "fillInStackTrace", "(I)Ljava/lang/Throwable;"⟩, 6) := ⟨⟨by decide +kernel, by decide +kernel⟩, List.mem_of_getElem? (i := 351) (by decide +kernel), List.mem_of_getElem? (i := 349) (by decide +kernel), List.mem_of_getElem? (i := 350) (by decide +kernel)⟩
theorem lw_p3 : lw_okq (⟨"OdometerRing$Odometer", "writeSlot", "(II)V"⟩, 17) := ⟨⟨by decide +kernel, by decide +kernel⟩, List.mem_of_getElem? (i := 68) (by decide +kernel), List.mem_of_getElem? (i := 440) (by decide +kernel), List.mem_of_getElem? (i := 441) (by decide +kernel)⟩
theorem lw_p4 : lw_okq (⟨"OdometerRing$Odometer", "leftByCut", "(I)I"⟩, 17) := ⟨⟨by decide +kernel, by decide +kernel⟩, List.mem_of_getElem? (i := 68) (by decide +kernel), List.mem_of_getElem? (i := 449) (by decide +kernel), List.mem_of_getElem? (i := 450) (by decide +kernel)⟩
theorem lw_p5 : lw_okq (⟨"OdometerRing$Odometer", "losePower", "(III)V"⟩, 17) := ⟨⟨by decide +kernel, by decide +kernel⟩, List.mem_of_getElem? (i := 68) (by decide +kernel), List.mem_of_getElem? (i := 457) (by decide +kernel), List.mem_of_getElem? (i := 458) (by decide +kernel)⟩
theorem lw_p6 : lw_okq (⟨"OdometerRing$Services", "put", "(III)V"⟩, 3) := ⟨⟨by decide +kernel, by decide +kernel⟩, List.mem_of_getElem? (i := 96) (by decide +kernel), List.mem_of_getElem? (i := 504) (by decide +kernel), List.mem_of_getElem? (i := 505) (by decide +kernel)⟩
theorem lw_p7 : lw_okq (⟨"OdometerRing", "toldAfterCut", "(II)I"⟩, 5) := ⟨⟨by decide +kernel, by decide +kernel⟩, List.mem_of_getElem? (i := 18) (by decide +kernel), List.mem_of_getElem? (i := 749) (by decide +kernel), List.mem_of_getElem? (i := 750) (by decide +kernel)⟩
theorem lw_p8 : lw_okq (⟨"OdometerRing$Odometer", "takeStep", "(I)Z"⟩, 17) := ⟨⟨by decide +kernel, by decide +kernel⟩, List.mem_of_getElem? (i := 68) (by decide +kernel), List.mem_of_getElem? (i := 799) (by decide +kernel), List.mem_of_getElem? (i := 800) (by decide +kernel)⟩
theorem lw_p9 : lw_okq (⟨"OdometerRingModel", "refused", "(I)Z"⟩, 14) := ⟨⟨by decide +kernel, by decide +kernel⟩, List.mem_of_getElem? (i := 840) (by decide +kernel), List.mem_of_getElem? (i := 905) (by decide +kernel), List.mem_of_getElem? (i := 906) (by decide +kernel)⟩
theorem lw_p10 : lw_okq (⟨"OdometerRingModel", "readText", "()I"⟩, 14) := ⟨⟨by decide +kernel, by decide +kernel⟩, List.mem_of_getElem? (i := 840) (by decide +kernel), List.mem_of_getElem? (i := 917) (by decide +kernel), List.mem_of_getElem? (i := 918) (by decide +kernel)⟩
theorem lw_p11 : lw_okq (⟨"OdometerRingModel", "head", "()V"⟩, 14) := ⟨⟨by decide +kernel, by decide +kernel⟩, List.mem_of_getElem? (i := 840) (by decide +kernel), List.mem_of_getElem? (i := 921) (by decide +kernel), List.mem_of_getElem? (i := 922) (by decide +kernel)⟩
theorem lw_p12 : lw_okq (⟨"OdometerRingModel", "isNext", "(I)Z"⟩, 14) := ⟨⟨by decide +kernel, by decide +kernel⟩, List.mem_of_getElem? (i := 840) (by decide +kernel), List.mem_of_getElem? (i := 925) (by decide +kernel), List.mem_of_getElem? (i := 926) (by decide +kernel)⟩
theorem lw_p13 : lw_okq (⟨"OdometerRingModel", "accept", "(Z)V"⟩, 14) := ⟨⟨by decide +kernel, by decide +kernel⟩, List.mem_of_getElem? (i := 840) (by decide +kernel), List.mem_of_getElem? (i := 929) (by decide +kernel), List.mem_of_getElem? (i := 930) (by decide +kernel)⟩
theorem lw_p14 : lw_okq (⟨"OdometerRingModel", "two", "(II)I"⟩, 14) := ⟨⟨by decide +kernel, by decide +kernel⟩, List.mem_of_getElem? (i := 840) (by decide +kernel), List.mem_of_getElem? (i := 933) (by decide +kernel), List.mem_of_getElem? (i := 934) (by decide +kernel)⟩
theorem lw_p15 : lw_okq (⟨"OdometerRingModel", "digit", "(II)I"⟩, 14) := ⟨⟨by decide +kernel, by decide +kernel⟩, List.mem_of_getElem? (i := 840) (by decide +kernel), List.mem_of_getElem? (i := 937) (by decide +kernel), List.mem_of_getElem? (i := 938) (by decide +kernel)⟩
def lw_privs_1 : List (MethodName × Nat) := [(⟨"OdometerRing$Story", "signHere", "()I"⟩, 9), (⟨"OdometerRing$Story", "readNumber", "(III)I"⟩, 9), (⟨"java/lang/Throwable", "fillInStackTrace", "(I)Ljava/lang/Throwable;"⟩, 6), (⟨"OdometerRing$Odometer", "writeSlot", "(II)V"⟩, 17), (⟨"OdometerRing$Odometer", "leftByCut", "(I)I"⟩, 17), (⟨"OdometerRing$Odometer", "losePower", "(III)V"⟩, 17), (⟨"OdometerRing$Services", "put", "(III)V"⟩, 3), (⟨"OdometerRing", "toldAfterCut", "(II)I"⟩, 5), (⟨"OdometerRing$Odometer", "takeStep", "(I)Z"⟩, 17), (⟨"OdometerRingModel", "refused", "(I)Z"⟩, 14), (⟨"OdometerRingModel", "readText", "()I"⟩, 14), (⟨"OdometerRingModel", "head", "()V"⟩, 14), (⟨"OdometerRingModel", "isNext", "(I)Z"⟩, 14), (⟨"OdometerRingModel", "accept", "(Z)V"⟩, 14), (⟨"OdometerRingModel", "two", "(II)I"⟩, 14), (⟨"OdometerRingModel", "digit", "(II)I"⟩, 14)]
theorem lw_r1 : ∀ q ∈ lw_privs_1, lw_okq q := List.forall_mem_cons.mpr ⟨lw_p0, List.forall_mem_cons.mpr ⟨lw_p1, List.forall_mem_cons.mpr ⟨lw_p2, List.forall_mem_cons.mpr ⟨lw_p3, List.forall_mem_cons.mpr ⟨lw_p4, List.forall_mem_cons.mpr ⟨lw_p5, List.forall_mem_cons.mpr ⟨lw_p6, List.forall_mem_cons.mpr ⟨lw_p7, List.forall_mem_cons.mpr ⟨lw_p8, List.forall_mem_cons.mpr ⟨lw_p9, List.forall_mem_cons.mpr ⟨lw_p10, List.forall_mem_cons.mpr ⟨lw_p11, List.forall_mem_cons.mpr ⟨lw_p12, List.forall_mem_cons.mpr ⟨lw_p13, List.forall_mem_cons.mpr ⟨lw_p14, List.forall_mem_cons.mpr ⟨lw_p15, fun _ h => absurd h List.not_mem_nil⟩⟩⟩⟩⟩⟩⟩⟩⟩⟩⟩⟩⟩⟩⟩⟩
theorem lw_p16 : lw_okq (⟨"OdometerRingModel", "three", "(I)I"⟩, 14) := ⟨⟨by decide +kernel, by decide +kernel⟩, List.mem_of_getElem? (i := 840) (by decide +kernel), List.mem_of_getElem? (i := 942) (by decide +kernel), List.mem_of_getElem? (i := 943) (by decide +kernel)⟩
theorem lw_p17 : lw_okq (⟨"OdometerRingModel", "command", "(Z)Z"⟩, 14) := ⟨⟨by decide +kernel, by decide +kernel⟩, List.mem_of_getElem? (i := 840) (by decide +kernel), List.mem_of_getElem? (i := 946) (by decide +kernel), List.mem_of_getElem? (i := 947) (by decide +kernel)⟩
theorem lw_p18 : lw_okq (⟨"OdometerRingModel", "isSlot", "(I)Z"⟩, 14) := ⟨⟨by decide +kernel, by decide +kernel⟩, List.mem_of_getElem? (i := 840) (by decide +kernel), List.mem_of_getElem? (i := 1023) (by decide +kernel), List.mem_of_getElem? (i := 1024) (by decide +kernel)⟩
theorem lw_p19 : lw_okq (⟨"OdometerRingModel", "note", "()V"⟩, 14) := ⟨⟨by decide +kernel, by decide +kernel⟩, List.mem_of_getElem? (i := 840) (by decide +kernel), List.mem_of_getElem? (i := 1054) (by decide +kernel), List.mem_of_getElem? (i := 1055) (by decide +kernel)⟩
theorem lw_p20 : lw_okq (⟨"OdometerRingModel", "isBroken", "()Z"⟩, 14) := ⟨⟨by decide +kernel, by decide +kernel⟩, List.mem_of_getElem? (i := 840) (by decide +kernel), List.mem_of_getElem? (i := 1104) (by decide +kernel), List.mem_of_getElem? (i := 1105) (by decide +kernel)⟩
theorem lw_p21 : lw_okq (⟨"OdometerRingModel", "found", "(II)I"⟩, 14) := ⟨⟨by decide +kernel, by decide +kernel⟩, List.mem_of_getElem? (i := 840) (by decide +kernel), List.mem_of_getElem? (i := 1108) (by decide +kernel), List.mem_of_getElem? (i := 1109) (by decide +kernel)⟩
theorem lw_p22 : lw_okq (⟨"OdometerRingModel", "begin", "()V"⟩, 14) := ⟨⟨by decide +kernel, by decide +kernel⟩, List.mem_of_getElem? (i := 840) (by decide +kernel), List.mem_of_getElem? (i := 1112) (by decide +kernel), List.mem_of_getElem? (i := 1113) (by decide +kernel)⟩
theorem lw_p23 : lw_okq (⟨"OdometerRingModel", "does", "(I)Z"⟩, 14) := ⟨⟨by decide +kernel, by decide +kernel⟩, List.mem_of_getElem? (i := 840) (by decide +kernel), List.mem_of_getElem? (i := 1143) (by decide +kernel), List.mem_of_getElem? (i := 1144) (by decide +kernel)⟩
theorem lw_p24 : lw_okq (⟨"OdometerRingModel", "round", "(I)V"⟩, 14) := ⟨⟨by decide +kernel, by decide +kernel⟩, List.mem_of_getElem? (i := 840) (by decide +kernel), List.mem_of_getElem? (i := 1153) (by decide +kernel), List.mem_of_getElem? (i := 1154) (by decide +kernel)⟩
def lw_privs_2 : List (MethodName × Nat) := [(⟨"OdometerRingModel", "three", "(I)I"⟩, 14), (⟨"OdometerRingModel", "command", "(Z)Z"⟩, 14), (⟨"OdometerRingModel", "isSlot", "(I)Z"⟩, 14), (⟨"OdometerRingModel", "note", "()V"⟩, 14), (⟨"OdometerRingModel", "isBroken", "()Z"⟩, 14), (⟨"OdometerRingModel", "found", "(II)I"⟩, 14), (⟨"OdometerRingModel", "begin", "()V"⟩, 14), (⟨"OdometerRingModel", "does", "(I)Z"⟩, 14), (⟨"OdometerRingModel", "round", "(I)V"⟩, 14)]
theorem lw_r2 : ∀ q ∈ lw_privs_2, lw_okq q := List.forall_mem_cons.mpr ⟨lw_p16, List.forall_mem_cons.mpr ⟨lw_p17, List.forall_mem_cons.mpr ⟨lw_p18, List.forall_mem_cons.mpr ⟨lw_p19, List.forall_mem_cons.mpr ⟨lw_p20, List.forall_mem_cons.mpr ⟨lw_p21, List.forall_mem_cons.mpr ⟨lw_p22, List.forall_mem_cons.mpr ⟨lw_p23, List.forall_mem_cons.mpr ⟨lw_p24, fun _ h => absurd h List.not_mem_nil⟩⟩⟩⟩⟩⟩⟩⟩⟩
def lw_privs : List (MethodName × Nat) := lw_privs_1 ++ (lw_privs_2)
def lw_tbl : List Cond := k2_sels lw_privs ++ tables_1
theorem lw_privs_ok : ∀ q ∈ lw_privs, lw_okq q := by
  show ∀ q ∈ lw_privs_1 ++ (lw_privs_2), lw_okq q
  exact List.forall_mem_append.mpr ⟨lw_r1, lw_r2⟩
-- ===== end of PART A; then your names; then what follows =====
/-! ===== BEGIN words of one list among another's, by their places ===== -/
theorem goodIn_r {big : List Cond} (ws : List Cond) (ps : List Nat) (hp : ws = ps.filterMap (fun i => big[i]?)) (h : ws.all goodWord = true) : GoodIn big ws := by
  intro w hw
  have h1 := List.all_eq_true.mp h w hw
  rw [hp] at hw
  obtain ⟨i, -, hi⟩ := List.mem_filterMap.mp hw
  have hm : w ∈ big := by first | exact List.mem_of_getElem? hi | exact List.getElem?_mem hi
  exact ⟨hm, good_of_word h1⟩
theorem goodIn_app {big a b : List Cond} (ha : GoodIn big a) (hb : GoodIn big b) : GoodIn big (a ++ b) := fun w h => (List.mem_append.mp h).elim (ha w) (hb w)
theorem goodIn_ca {big a b : List Cond} {c : Cond} (ha : GoodIn big (c :: a)) (hb : GoodIn big b) : GoodIn big (c :: (a ++ b)) := fun w h => (List.mem_cons.mp h).elim (fun e => ha w (List.mem_cons.mpr (Or.inl e))) (fun h => (List.mem_append.mp h).elim (fun h => ha w (List.mem_cons.mpr (Or.inr h))) (hb w))
theorem goodIn_sub {big ws : List Cond} (hm : ∀ w ∈ ws, w ∈ big) (h : ws.all goodWord = true) : GoodIn big ws := fun w hw => ⟨hm w hw, good_of_word (List.all_eq_true.mp h w hw)⟩
/-! ===== END ===== -/

/-! ===== BEGIN exceptions that leave a method, and their catching by the caller (launches without stack traces) ===== -/
section VXA
/-! The laws vx_back, vx_callV, vx_callS, vx_callSW, vx_throw0, vx_throwS follow proofs of the library, with one case more: JvmDerived/Free/Laws.lean (Back.of_free), Shelf42/LK1.lean (callV, callS), Shelf/KitTraced.lean (throwNew0V, throwNewS). -/
/-- where a method has thrown q: the class by its name, the cell, what was written, the world -/
def vx_T (XC : String → State → State → Prop) (st : State) (q : Addr) (t : State) (mc ms : Nat) (free : Addr → Prop) : Prop :=
  ∃ (E : String) (ce : Cell) (L : List Loc), XC E st t ∧ t.heap[q]? = some ce ∧ ce.vm = .none ∧ st.vm.findClass E = some ce.cls ∧ st.WarmedH t.vm ∧ st.sameButNew ({ t with vm := st.vm } : State) L mc ms ∧ ∀ z ∈ L, free z.base
def vx_Q (Qc : Array Value → State → Outcome → State → Prop) (XC : String → State → State → Prop) (mc ms : Nat) (free : Addr → Prop) : Array Value → State → Outcome → State → Prop := fun a st o t =>
  (Qc a st o t ∧ ∃ L, FrameEnd st o t L mc ms ∧ ∀ q ∈ L, free q.base) ∨ ∃ q, o = .threw q ∧ vx_T XC st q t mc ms free
/-- a callee that returns or throws -/
def vx_Met (l : Launch) (y : MethodName) (ws : List Cond) (rm : Room) (Pc : Array Value → State → Prop) (Qc : Array Value → State → Outcome → State → Prop) (XC : String → State → State → Prop) (mc ms : Nat) (free : Addr → Prop) : Prop :=
  MetFree l y (headSpec ws rm) Pc (fun _ _ _ _ _ => True) (vx_Q Qc XC mc ms free)
def vx_Post (XC : String → State → State → Prop) (mc ms : Nat) (free : Addr → Prop) : Pt → Array Value → Addr → Pt → Prop := fun A a q B =>
  ∃ (g : JFrame) (mk : MethodId) (t : State) (L : List Loc) (E : String) (ce : Cell), B.U.heap = t.heap ∧ B.U.vm = t.vm ∧ XC E (A.U.calling g mk a) t ∧ t.heap[q]? = some ce ∧ ce.vm = .none ∧ A.U.vm.findClass E = some ce.cls ∧ B.locs = A.locs ++ L ∧ (∀ z ∈ L, free z.base) ∧ B.cells = A.cells + mc ∧ B.slots = A.slots + ms
def vx_Back (l : Launch) (R : Room) (p : Program) (e : Env) (below : List Frame) (s : State) (sargs : Array Value) (y : MethodName) (len W9 : Nat)
    (Pre : Pt → Array Value → Prop) (Post : Pt → Array Value → Option Value → Pt → Prop) (PostX : Pt → Array Value → Addr → Pt → Prop) : Prop :=
  ∀ (m : MethodId) (meth : Method) (c : Code) (A : Pt) (g : JFrame) (ig : Instr) (mk : MethodId) (a : Array Value),
    Stand p l e R s m sargs below meth c A.U A.locs A.cells A.slots → g.method = m → g.locals.size = c.maxLocals → decode c.code g.pc = .ok (ig, len) →
    2 * g.monitorRoom + (g.stack.map fun v => v.category).sum ≤ W9 → A.U.methodNamed? y = some mk → Pre A a →
    (∃ (v : Option Value) (B : Pt), Stand p l e R s m sargs below meth c B.U B.locs B.cells B.slots ∧ Post A a v B ∧
      Steps p.tables e below (doInvoke e (A.U.setTop g) [] mk a).1 (B.U.setTop { g with pc := g.pc + len, stack := v.toList ++ g.stack })) ∨
    (∃ (q : Addr) (B : Pt), Stand p l e R s m sargs below meth c B.U B.locs B.cells B.slots ∧ PostX A a q B ∧
      Steps p.tables e below (doInvoke e (A.U.setTop g) [] mk a).1 ((B.U.setTop g).pushFrame (.throwing q)))
section Payer
variable {l : Launch} {R : Room} {p : Program} {e : Env} {below : List Frame} {s : State} {sargs : Array Value} {y : MethodName} {len W9 : Nat}
theorem vx_back {ws : List Cond} {rm : Room} {Pc : Array Value → State → Prop} {Qc : Array Value → State → Outcome → State → Prop} {XC : String → State → State → Prop} {mc ms : Nat} {free : Addr → Prop} {bytes : ByteArray} {maxL : Nat} {ret : Option FieldType}
    (hM : vx_Met l y ws rm Pc Qc XC mc ms free) (hblind : FrameBlind Pc) (hrc : rm.cells = mc) (hrs : rm.slots = ms)
    (hframes : rm.frames + 1 ≤ R.frames) (hlocals : W9 + (maxL + 11) + rm.locals ≤ R.locals)
    (hws : ∀ w ∈ ws, ∀ a' U, s.WarmedH U.vm → w.before a' U = true) (hcode : Cond.code y bytes maxL ret ∈ ws) (hinit : ∀ a' U, s.WarmedH U.vm → (Cond.initialized y.cls).before a' U = true) :
    vx_Back l R p e below s sargs y len W9 (PreOf R mc ms Pc) (PostOf Qc mc ms free) (vx_Post XC mc ms free) := by
  intro m meth c A g ig mk a X hg hsize hdg hW hn hp
  have h1 : (headSpec ws rm).pre.before a A.U = true := atoms_intro fun w hw => hws w hw _ _ X.warmed
  have h2 : (Cond.code y bytes maxL ret).before a A.U = true := hws _ hcode _ _ X.warmed
  have h3 : (Cond.initialized y.cls).before a A.U = true := hinit _ _ X.warmed
  have h4 : A.cells + (headSpec ws rm).room.cells ≤ R.cells := by rw [show (headSpec ws rm).room.cells = mc from hrc]; exact hp.1
  have h5 : A.slots + (headSpec ws rm).room.slots ≤ R.slots := by rw [show (headSpec ws rm).room.slots = ms from hrs]; exact hp.2.1
  have hPc : Pc a (A.U.calling g mk a) := hblind _ _ _ _ hp.2.2
  obtain ⟨U, Ls, c0, s0⟩ := A
  dsimp only [Pt.U, Pt.locs, Pt.cells, Pt.slots] at h1 h2 h3 h4 h5 X hn hPc ⊢
  obtain ⟨methY, cY, hmY, hcY, -, hlY, -, -, -, -⟩ := Cond.code_spec hn h2
  obtain ⟨kY, hkY, -⟩ := className_of_methodNamed hn
  have hinitY : kY.init = .initialized := Cond.initialized_spec (findClass_of_methodNamed hn) hkY h3
  have h : At U g.method c below := by rw [hg]; exact X.here
  have hlocals9 : W9 + (maxL + 11) + (headSpec ws rm).room.locals ≤ R.locals := hlocals
  have happ : (headSpec ws rm).appliesLoose y e.platform (U.calling g mk a) = true :=
    Spec.appliesLoose_calling (g := g) h hdg hn hkY hinitY
      (X.room_calling (g := g) (R' := (headSpec ws rm).room) hsize hmY hcY hframes (by rw [hlY]; omega) h4 h5) h1
  obtain ⟨mid, hmid⟩ := h.above
  have hfr : (U.setTop g).frames = (.java g :: mid) ++ below := by rw [State.frames_setTop' g h.top, hmid]; rfl
  obtain ⟨o, s₂, hsteps, -, hend, hq⟩ := Steps.callFree hM p X.admits X.cas X.clock (acts := []) hfr happ hPc trivial
  have hq' : vx_Q Qc XC mc ms free a (U.calling g mk a) o s₂ := hq
  rw [State.frames_setTop' g h.top] at hend
  obtain ⟨g₀, hg0⟩ := Option.isSome_iff_exists.mp h.top
  obtain ⟨r, hr⟩ := State.topJava?_eq_some.mp hg0
  have hr' : (({ U with heap := s₂.heap, slotsUsed := s₂.slotsUsed } : State).setVm s₂.vm).frames = .java g₀ :: r := hr
  rcases hq' with ⟨hqc, L, hfe, hL⟩ | ⟨q, rfl, E, ce, L, hx, hce, hcv, hcl, hW₂, hsm, hL⟩
  · obtain ⟨⟨v, rfl⟩, hW₂, e2, q2, q3, q4, q5, q6⟩ := id hfe
    have e3 : s₂ = ({ (U.calling g mk a).setFrames s₂.frames with heap := s₂.heap, slotsUsed := s₂.slotsUsed } : State).setVm s₂.vm := by
      have : s₂ = ({ s₂ with vm := (U.calling g mk a).vm } : State).setVm s₂.vm := rfl
      rw [e2] at this
      exact this
    obtain ⟨c₂, i₂, len₂, hc₂, hd₂, hf₂⟩ := hend
    have hW' : U.WarmedH s₂.vm := hW₂
    have hcc : c₂ = c := by
      have h1 : s₂.code? g.method = U.code? g.method := by
        rw [State.code?_eq, State.code?_eq, hW'.alike.method?]
      exact Option.some.inj (hc₂.symm.trans (h1.trans h.code))
    subst hcc
    have hlen : len₂ = len := by rw [hdg] at hd₂; cases hd₂; rfl
    subst hlen
    have hs₂ : s₂ = (({ U with heap := s₂.heap, slotsUsed := s₂.slotsUsed } : State).setVm s₂.vm).setTop { g with pc := g.pc + len₂, stack := v.toList ++ g.stack } := by
      refine e3.trans ?_
      rw [hf₂, State.calling_eq h.top, State.setFrames_setFrames, State.setTop_of_frames _ hr', hr]
      rfl
    have hsame : U.sameButNew ({ U with heap := s₂.heap, slotsUsed := s₂.slotsUsed } : State) L mc ms := by
      refine ⟨?_, q2, q3, q4, q5, q6⟩
      obtain ⟨t, ht, -⟩ := State.frames_cons hr
      show ({ U with heap := s₂.heap, slotsUsed := s₂.slotsUsed } : State) = { U.setFrames U.frames with heap := s₂.heap, slotsUsed := s₂.slotsUsed }
      rw [State.setFrames_self ht]
    subst hg
    refine Or.inl ⟨v, ⟨(({ U with heap := s₂.heap, slotsUsed := s₂.slotsUsed } : State).setVm s₂.vm), Ls ++ L, c0 + mc, s0 + ms⟩,
      ⟨X.admits, X.cas, X.clock, X.frames, X.room, X.hears, X.method, X.code, (X.here.setHeapUsed s₂.heap s₂.slotsUsed).setVm hW'.alike, X.tail, State.WarmedH.trans X.warmed hW', X.limits, X.bytes, X.same.trans (hsame.setVm s.vm)⟩,
      ⟨g, mk, s₂, L, rfl, rfl, hqc, rfl, hL, rfl, rfl⟩, ?_⟩
    show Steps p.tables e below _ ((({ U with heap := s₂.heap, slotsUsed := s₂.slotsUsed } : State).setVm s₂.vm).setTop { g with pc := g.pc + len₂, stack := v.toList ++ g.stack })
    rw [← hs₂]
    exact hsteps
  · obtain ⟨e2, q2, q3, q4, q5, q6⟩ := id hsm
    have e3 : s₂ = ({ (U.calling g mk a).setFrames s₂.frames with heap := s₂.heap, slotsUsed := s₂.slotsUsed } : State).setVm s₂.vm := by
      have : s₂ = ({ s₂ with vm := (U.calling g mk a).vm } : State).setVm s₂.vm := rfl
      rw [e2] at this
      exact this
    have hf₂ : s₂.frames = .throwing q :: .java g :: U.frames.tail := hend
    have hW' : U.WarmedH s₂.vm := hW₂
    have hs₂ : s₂ = ((({ U with heap := s₂.heap, slotsUsed := s₂.slotsUsed } : State).setVm s₂.vm).setTop g).pushFrame (.throwing q) := by
      refine e3.trans ?_
      rw [hf₂, State.calling_eq h.top, State.setFrames_setFrames, State.pushFrame, State.frames_setTop _ hr', State.setTop_of_frames _ hr', State.setFrames_setFrames, hr]
      rfl
    have hsame : U.sameButNew ({ U with heap := s₂.heap, slotsUsed := s₂.slotsUsed } : State) L mc ms := by
      refine ⟨?_, q2, q3, q4, q5, q6⟩
      obtain ⟨t, ht, -⟩ := State.frames_cons hr
      show ({ U with heap := s₂.heap, slotsUsed := s₂.slotsUsed } : State) = { U.setFrames U.frames with heap := s₂.heap, slotsUsed := s₂.slotsUsed }
      rw [State.setFrames_self ht]
    subst hg
    refine Or.inr ⟨q, ⟨(({ U with heap := s₂.heap, slotsUsed := s₂.slotsUsed } : State).setVm s₂.vm), Ls ++ L, c0 + mc, s0 + ms⟩,
      ⟨X.admits, X.cas, X.clock, X.frames, X.room, X.hears, X.method, X.code, (X.here.setHeapUsed s₂.heap s₂.slotsUsed).setVm hW'.alike, X.tail, State.WarmedH.trans X.warmed hW', X.limits, X.bytes, X.same.trans (hsame.setVm s.vm)⟩,
      ⟨g, mk, s₂, L, E, ce, rfl, rfl, hx, hce, hcv, hcl, rfl, hL, rfl, rfl⟩, ?_⟩
    show Steps p.tables e below _ (((({ U with heap := s₂.heap, slotsUsed := s₂.slotsUsed } : State).setVm s₂.vm).setTop g).pushFrame (.throwing q))
    rw [← hs₂]
    exact hsteps
end Payer
section Calls
variable {p : Program} {l : Launch} {e : Env} {R : Room} {s : State} {m : MethodId} {args : Array Value} {below : List Frame} {meth : Method} {c : Code} {T : State} {locs : List Loc} {cells slots : Nat}
theorem vx_callV (X : Stand p l e R s m args below meth c T locs cells slots) (hexec : p.tables.exec = Jvm.exec) {own C : String} {index : Nat} {y : MethodName} {bytes : ByteArray} {maxL : Nat} {ret : Option FieldType}
    (hown : s.vm.findClass own = some m.cls) (hlink : (Cond.methodLink own index y).before args s = true) (hinst : (Cond.instanceMethod y).before args s = true) (hsel : (Cond.selects C y y).before args s = true)
    (hcode : (Cond.code y bytes maxL ret).before args s = true) (hy : y.cls ≠ "java/lang/invoke/MethodHandle" ∧ y.cls ≠ "java/lang/invoke/VarHandle")
    {W9 : Nat} {Pre : Pt → Array Value → Prop} {Post : Pt → Array Value → Option Value → Pt → Prop} {PostX : Pt → Array Value → Addr → Pt → Prop} (hK : vx_Back l R p e below s args y 3 W9 Pre Post PostX)
    {b : Addr} {cellB : Cell} (hcell : T.heap[b]? = some cellB) (hobj : cellB.vm.isStatics = false) (hcls : s.vm.findClass C = some cellB.cls)
    {g : JFrame} (hg : g.method = m) (hsize : g.locals.size = c.maxLocals) {argsL rest : List Value} (hlen : ∀ sig, parseMethodDescriptor y.desc = some sig → argsL.length = sig.parameters.length)
    (hstack : g.stack = argsL.reverse ++ .ref b :: rest) (hW : 2 * g.monitorRoom + (rest.map fun v => v.category).sum ≤ W9) (hdg : decode c.code g.pc = .ok (.invokevirtual index, 3))
    (hpre : ∀ vm₁, s.WarmedH vm₁ → Pre ⟨T.setVm vm₁, locs, cells, slots⟩ (Value.ref b :: argsL).toArray) :
    (∃ (v : Option Value) (vm₁ : Vm) (B : Pt), s.WarmedH vm₁ ∧ Stand p l e R s m args below meth c B.U B.locs B.cells B.slots ∧ Post ⟨T.setVm vm₁, locs, cells, slots⟩ (Value.ref b :: argsL).toArray v B ∧
      ∀ target, Steps p.tables e below (B.U.setTop { g with pc := g.pc + 3, stack := v.toList ++ rest }) target → Steps p.tables e below (T.setTop g) target) ∨
    (∃ (q : Addr) (vm₁ : Vm) (B : Pt), s.WarmedH vm₁ ∧ Stand p l e R s m args below meth c B.U B.locs B.cells B.slots ∧ PostX ⟨T.setVm vm₁, locs, cells, slots⟩ (Value.ref b :: argsL).toArray q B ∧
      Steps p.tables e below (T.setTop g) ((B.U.setTop { g with stack := rest }).pushFrame (.throwing q))) := by
  obtain ⟨mk, methM, hnamed, hmethM, hstM, habM⟩ := Cond.instanceMethod_spec hinst
  obtain ⟨methM', cM, hmethM', -, -, -, -, -, -, hsigM⟩ := Cond.code_spec hnamed hcode
  cases hmethM.symm.trans hmethM'
  obtain ⟨c2, r2, m2, q1, q2, q3, q4, kP, hkP, hkPi⟩ := Cond.selects_spec hsel
  cases hcls.symm.trans q1
  cases (State.methodFound?_of_named hnamed hy).symm.trans q2
  cases hnamed.symm.trans q3
  have hselP : selectMethod e.platform s.vm cellB.cls mk = .method mk := by rw [Launch.admits_selectMethod X.admits]; exact q4
  obtain ⟨vm₁, X₁, hstep₁⟩ := X.invokevirtual hexec hown hlink hnamed hmethM hstM hkP hkPi hy (a := b) (cell := cellB) hcell
    (fun z h => by rw [h] at hobj; cases hobj) hselP hmethM habM hkP hkPi (g := g) hg (argsL := argsL) (rest := rest) (hlen _ hsigM) hstack hdg
  rcases hK m meth c ⟨T.setVm vm₁, locs, cells, slots⟩ { g with stack := rest } (.invokevirtual index) mk (Value.ref b :: argsL).toArray X₁ hg hsize hdg hW (X₁.named hnamed) (hpre vm₁ X₁.warmed) with ⟨v, B, X', hpost, hsteps⟩ | ⟨q, B, X', hpost, hsteps⟩
  · exact Or.inl ⟨v, vm₁, B, X₁.warmed, X', hpost, fun target h => hstep₁ _ fun acts => by rw [doInvoke_state]; exact hsteps.trans h⟩
  · exact Or.inr ⟨q, vm₁, B, X₁.warmed, X', hpost, hstep₁ _ fun acts => by rw [doInvoke_state]; exact hsteps⟩
theorem vx_callS (X : Stand p l e R s m args below meth c T locs cells slots) (hexec : p.tables.exec = Jvm.exec) {own : String} {index : Nat} {y : MethodName} {bytes : ByteArray} {maxL : Nat} {ret : Option FieldType}
    (hown : s.vm.findClass own = some m.cls) (hlink : (Cond.methodLink own index y).before args s = true) (hstat : (Cond.static y).before args s = true) (hinit : (Cond.initialized y.cls).before args s = true)
    (hcode : (Cond.code y bytes maxL ret).before args s = true) (hy : y.cls ≠ "java/lang/invoke/MethodHandle" ∧ y.cls ≠ "java/lang/invoke/VarHandle")
    {W9 : Nat} {Pre : Pt → Array Value → Prop} {Post : Pt → Array Value → Option Value → Pt → Prop} {PostX : Pt → Array Value → Addr → Pt → Prop} (hK : vx_Back l R p e below s args y 3 W9 Pre Post PostX)
    {g : JFrame} (hg : g.method = m) (hsize : g.locals.size = c.maxLocals) {argsL rest : List Value} (hlen : ∀ sig, parseMethodDescriptor y.desc = some sig → argsL.length = sig.parameters.length)
    (hstack : g.stack = argsL.reverse ++ rest) (hW : 2 * g.monitorRoom + (rest.map fun v => v.category).sum ≤ W9) (hdg : decode c.code g.pc = .ok (.invokestatic index, 3))
    (hpre : ∀ vm₁, s.WarmedH vm₁ → Pre ⟨T.setVm vm₁, locs, cells, slots⟩ argsL.toArray) :
    (∃ (v : Option Value) (vm₁ : Vm) (B : Pt), s.WarmedH vm₁ ∧ Stand p l e R s m args below meth c B.U B.locs B.cells B.slots ∧ Post ⟨T.setVm vm₁, locs, cells, slots⟩ argsL.toArray v B ∧
      ∀ target, Steps p.tables e below (B.U.setTop { g with pc := g.pc + 3, stack := v.toList ++ rest }) target → Steps p.tables e below (T.setTop g) target) ∨
    (∃ (q : Addr) (vm₁ : Vm) (B : Pt), s.WarmedH vm₁ ∧ Stand p l e R s m args below meth c B.U B.locs B.cells B.slots ∧ PostX ⟨T.setVm vm₁, locs, cells, slots⟩ argsL.toArray q B ∧
      Steps p.tables e below (T.setTop g) ((B.U.setTop { g with stack := rest }).pushFrame (.throwing q))) := by
  obtain ⟨mk, hnamed⟩ := Cond.code_named hcode
  obtain ⟨methM, cM, hmethM, -, -, -, -, -, -, hsigM⟩ := Cond.code_spec hnamed hcode
  have hstatic : methM.isStatic = true := Cond.static_spec hnamed hmethM hstat
  obtain ⟨kP, hkP, -⟩ := className_of_methodNamed hnamed
  have hinitP : kP.init = .initialized := Cond.initialized_spec (findClass_of_methodNamed hnamed) hkP hinit
  obtain ⟨vm₁, X₁, hstep₁⟩ := X.invokestatic hexec hown hlink hnamed hmethM hstatic hkP hinitP hy (g := g) hg (argsL := argsL) (rest := rest) (hlen _ hsigM) hstack hdg
  rcases hK m meth c ⟨T.setVm vm₁, locs, cells, slots⟩ { g with stack := rest } (.invokestatic index) mk argsL.toArray X₁ hg hsize hdg hW (X₁.named hnamed) (hpre vm₁ X₁.warmed) with ⟨v, B, X', hpost, hsteps⟩ | ⟨q, B, X', hpost, hsteps⟩
  · exact Or.inl ⟨v, vm₁, B, X₁.warmed, X', hpost, fun target h => hstep₁ _ fun acts => by rw [doInvoke_state]; exact hsteps.trans h⟩
  · exact Or.inr ⟨q, vm₁, B, X₁.warmed, X', hpost, hstep₁ _ fun acts => by rw [doInvoke_state]; exact hsteps⟩
end Calls
theorem vx_cls {s : State} {T : State} {vm₁ : Vm} {E : String} {k : ClassId} (hW : s.WarmedH vm₁) (h : (T.setVm vm₁).vm.findClass E = some k) : s.vm.findClass E = some k := by
  have h1 : vm₁.findClass E = some k := h
  rw [hW.alike.findClass] at h1
  exact h1
/-- the method's frame g, with q thrown over it -/
def vx_W (p : Program) (l : Launch) (e : Env) (R : Room) (s : State) (m : MethodId) (args : Array Value) (below : List Frame) (meth : Method) (c : Code) (H : Heap) (locs : List Loc) (cells slots : Nat) (Q : State → Prop) (g : JFrame) (q : Addr) : Prop :=
  ∀ T : State, T.heap = H → Stand p l e R s m args below meth c T locs cells slots → ∃ t, Steps p.tables e below ((T.setTop g).pushFrame (.throwing q)) t ∧ Q t
def vx_Run (p : Program) (l : Launch) (e : Env) (R : Room) (s : State) (m : MethodId) (args : Array Value) (below : List Frame) (meth : Method) (c : Code) (H : Heap) (locs : List Loc) (cells slots mc ms : Nat) (g : JFrame) (rest : List Value) (Qa : State → Outcome → State → Prop) (XC : String → State → State → Prop) (free : Addr → Prop) : Prop :=
  ∀ T : State, T.heap = H → Stand p l e R s m args below meth c T locs cells slots →
    (∃ (v : Option Value) (st₀ t T' : State) (L : List Loc), st₀.heap = H ∧ Stand p l e R s m args below meth c T' (locs ++ L) (cells + mc) (slots + ms) ∧ (∀ q ∈ L, free q.base) ∧ T'.heap = t.heap ∧ T'.vm = t.vm ∧ Qa st₀ (.returned v) t ∧
      Goes p e below T g T' { g with pc := g.pc + 3, stack := v.toList ++ rest }) ∨
    (∃ (q : Addr) (st₀ t T' : State) (L : List Loc) (E : String) (ce : Cell), st₀.heap = H ∧ Stand p l e R s m args below meth c T' (locs ++ L) (cells + mc) (slots + ms) ∧ (∀ z ∈ L, free z.base) ∧ T'.heap = t.heap ∧ T'.vm = t.vm ∧ XC E st₀ t ∧ t.heap[q]? = some ce ∧ ce.vm = .none ∧ s.vm.findClass E = some ce.cls ∧
      Steps p.tables e below (T.setTop g) ((T'.setTop { g with stack := rest }).pushFrame (.throwing q)))
def vx_X {S : Type} (px : S → Prop) (B : String → S → State → Prop) (A : Nat → Prop) : String → State → State → Prop := fun E st t => ∃ u : S, px u ∧ B E u t ∧ va_F A st t
section Runs
variable {p : Program} {l : Launch} {e : Env} {R : Room} {s : State} {m : MethodId} {args : Array Value} {below : List Frame} {meth : Method} {c : Code} {H : Heap} {locs : List Loc} {cells slots : Nat}
variable {y : MethodName} {bytes cc : ByteArray} {maxL nL mc ms n index : Nat} {ret : Option FieldType} {ws : List Cond} {rm : Room} {Pc : Array Value → State → Prop} {Qc : Array Value → State → Outcome → State → Prop} {XC : String → State → State → Prop} {free : Addr → Prop} {Ts : List Cond} {own C : String} {b : Addr} {As rest : List Value} {g : JFrame}
theorem vx_callBack (cb : CallB R s args own index y bytes maxL ret ws rm mc ms n) (hM : vx_Met l y ws rm Pc Qc XC mc ms free) (hbl : FrameBlind Pc) : vx_Back l R p e below s args y 3 8 (PreOf R mc ms Pc) (PostOf Qc mc ms free) (vx_Post XC mc ms free) := by
  obtain ⟨hrc, hrs, hfr, hlo, hws, hcw, -, hini, -⟩ := cb
  exact vx_back (bytes := bytes) (maxL := maxL) (ret := ret) hM hbl hrc hrs hfr hlo hws hcw (fun a' U hW => word_at hW (Or.inl (by first | rfl | simp [Cond.onTables, Cond.keeps, Cond.steady])) hini)
theorem vx_runV (S : CallFix p m c cc nL s args Ts own) (hM : vx_Met l y ws rm Pc Qc XC mc ms free) (cw : CallW R s args own C index y bytes maxL ret ws rm mc ms n) (hp : PreV s H C b Pc As)
    (hg : g.method = m) (hn : As.length = n) (hsize : g.locals.size = nL) (hstack : g.stack = As.reverse ++ .ref b :: rest) (hW : 2 * g.monitorRoom + (rest.map fun v => v.category).sum ≤ 8) (hdg : decode cc g.pc = .ok (.invokevirtual index, 3)) (hf : cells + mc ≤ R.cells ∧ slots + ms ≤ R.slots) :
    vx_Run p l e R s m args below meth c H locs cells slots mc ms g rest (Qc (Value.ref b :: As).toArray) XC free := by
  have hK : vx_Back l R p e below s args y 3 8 (PreOf R mc ms Pc) (PostOf Qc mc ms free) (vx_Post XC mc ms free) := vx_callBack cw.1 hM hp.1
  obtain ⟨⟨-, -, -, -, -, -, hcode, -, hy, hlen, hl⟩, hin, hse⟩ := cw
  obtain ⟨hx, hb, hml, ho, -⟩ := S
  obtain ⟨-, ⟨cellB, hcB, hoB, hclB⟩, hPc⟩ := hp
  intro T hT X
  rcases vx_callV X hx (C := C) (bytes := bytes) (maxL := maxL) (ret := ret) ho hl hin hse hcode hy hK (by rw [hT]; exact hcB) hoB hclB hg (hsize.trans hml.symm) (argsL := As) (rest := rest) (fun sig h => hn.trans (hlen sig h)) hstack hW (by rw [hb]; exact hdg)
    (fun vm₁ hW₁ => ⟨hf.1, hf.2, hPc (T.setVm vm₁) hT hW₁⟩) with ⟨v, vm₁, ⟨U', l2, c2, s2⟩, hW₁, X', ⟨g', mk, t, L, e1, e2, hq, h1, hL, h2, h3⟩, st⟩ | ⟨q, vm₁, ⟨U', l2, c2, s2⟩, hW₁, X', ⟨g', mk, t, L, E, ce, e1, e2, hq, hce, hcv, hcl, h1, hL, h2, h3⟩, st⟩
  · dsimp only [Pt.U, Pt.locs, Pt.cells, Pt.slots] at X' e1 e2 h1 h2 h3 st
    subst h1; subst h2; subst h3
    exact Or.inl ⟨v, (T.setVm vm₁).calling g' mk (Value.ref b :: As).toArray, t, U', L, hT, X', hL, e1, e2, hq, st⟩
  · dsimp only [Pt.U, Pt.locs, Pt.cells, Pt.slots] at X' e1 e2 h1 h2 h3 st hcl
    subst h1; subst h2; subst h3
    exact Or.inr ⟨q, (T.setVm vm₁).calling g' mk (Value.ref b :: As).toArray, t, U', L, E, ce, hT, X', hL, e1, e2, hq, hce, hcv, vx_cls hW₁ hcl, st⟩
theorem vx_runS (S : CallFix p m c cc nL s args Ts own) (hM : vx_Met l y ws rm Pc Qc XC mc ms free) (cw : CallB R s args own index y bytes maxL ret ws rm mc ms n ∧ (Cond.static y).before args s = true) (hp : PreS s H Pc As)
    (hg : g.method = m) (hn : As.length = n) (hsize : g.locals.size = nL) (hstack : g.stack = As.reverse ++ rest) (hW : 2 * g.monitorRoom + (rest.map fun v => v.category).sum ≤ 8) (hdg : decode cc g.pc = .ok (.invokestatic index, 3)) (hf : cells + mc ≤ R.cells ∧ slots + ms ≤ R.slots) :
    vx_Run p l e R s m args below meth c H locs cells slots mc ms g rest (Qc As.toArray) XC free := by
  have hK : vx_Back l R p e below s args y 3 8 (PreOf R mc ms Pc) (PostOf Qc mc ms free) (vx_Post XC mc ms free) := vx_callBack cw.1 hM hp.1
  obtain ⟨⟨-, -, -, -, -, -, hcode, hini, hy, hlen, hl⟩, hstt⟩ := cw
  obtain ⟨hx, hb, hml, ho, -⟩ := S
  intro T hT X
  rcases vx_callS X hx (bytes := bytes) (maxL := maxL) (ret := ret) ho hl hstt hini hcode hy hK hg (hsize.trans hml.symm) (argsL := As) (rest := rest) (fun sig h => hn.trans (hlen sig h)) hstack hW (by rw [hb]; exact hdg)
    (fun vm₁ hW₁ => ⟨hf.1, hf.2, hp.2 (T.setVm vm₁) hT hW₁⟩) with ⟨v, vm₁, ⟨U', l2, c2, s2⟩, hW₁, X', ⟨g', mk, t, L, e1, e2, hq, h1, hL, h2, h3⟩, st⟩ | ⟨q, vm₁, ⟨U', l2, c2, s2⟩, hW₁, X', ⟨g', mk, t, L, E, ce, e1, e2, hq, hce, hcv, hcl, h1, hL, h2, h3⟩, st⟩
  · dsimp only [Pt.U, Pt.locs, Pt.cells, Pt.slots] at X' e1 e2 h1 h2 h3 st
    subst h1; subst h2; subst h3
    exact Or.inl ⟨v, (T.setVm vm₁).calling g' mk As.toArray, t, U', L, hT, X', hL, e1, e2, hq, st⟩
  · dsimp only [Pt.U, Pt.locs, Pt.cells, Pt.slots] at X' e1 e2 h1 h2 h3 st hcl
    subst h1; subst h2; subst h3
    exact Or.inr ⟨q, (T.setVm vm₁).calling g' mk As.toArray, t, U', L, E, ce, hT, X', hL, e1, e2, hq, hce, hcv, vx_cls hW₁ hcl, st⟩
end Runs
section Rows
variable {p : Program} {l : Launch} {e : Env} {R : Room} {s : State} {m : MethodId} {args : Array Value} {below : List Frame} {meth : Method} {c : Code} {H : Heap} {locs : List Loc} {cells slots : Nat} {Q : State → Prop}
variable {mc ms : Nat} {free : Addr → Prop} {A0 A1 : Nat → Prop} {H0 : Heap} {a : Array Value} {pc : Nat} {ls : Array Slot} {st0 rest : List Value}
theorem vx_keep {st₀ t T' : State} {L : List Loc} (h0 : st₀.heap = H) (e1 : T'.heap = t.heap) (hS : va_S A0 H0 H locs) (hA : ∀ q, q < H.size → A1 q → A0 q) (hf : ∀ q, free q → A0 q) (hL : ∀ q ∈ L, free q.base) (hF : va_F A1 st₀ t) :
    H.size ≤ T'.heap.size ∧ (∀ q : Nat, q < H.size → ¬ A1 q → T'.heap[q]? = H[q]?) ∧ va_S A0 H0 T'.heap (locs ++ L) := by
  obtain ⟨hz, hk⟩ := hF
  rw [h0] at hz hk
  exact ⟨by rw [e1]; exact hz, fun q h1 h2 => by rw [e1]; exact hk q h1 h2,
    ⟨Nat.le_trans hS.1 (by rw [e1]; exact hz), fun q h1 h2 => by rw [e1, hk q (Nat.lt_of_lt_of_le h1 hS.1) (fun z => h2 (hA q (Nat.lt_of_lt_of_le h1 hS.1) z))]; exact hS.2.1 q h1 h2, fun q hq => by
      rcases List.mem_append.mp hq with h | h
      · exact hS.2.2 q h
      · exact hf _ (hL q h)⟩⟩
theorem vx_calli {S SX : Type} {post : Int32 → S → Prop} {px : SX → Prop} {B : S → State → Prop} {BX : String → SX → State → Prop} {AX : Nat → Prop} (hr : vx_Run p l e R s m args below meth c H locs cells slots mc ms (F0 m pc ls st0) rest (va_Qi post B A1 a) (vx_X px BX AX) free) (hS : va_S A0 H0 H locs) (hA : ∀ q, q < H.size → A1 q → A0 q) (hf : ∀ q, free q → A0 q) (hAX : ∀ q, q < H.size → AX q → A0 q)
    (kx : ∀ (E : String) (ce : Cell) (q9 : Addr) (u : SX) (t : State) (H1 : Heap) (locs1 : List Loc), t.heap = H1 → s.vm.Alike t.vm → px u → BX E u t → H.size ≤ H1.size → (∀ q : Nat, q < H.size → ¬ AX q → H1[q]? = H[q]?) → va_S A0 H0 H1 locs1 → H1[q9]? = some ce → ce.vm = .none → s.vm.findClass E = some ce.cls → vx_W p l e R s m args below meth c H1 locs1 (cells + mc) (slots + ms) Q (F0 m pc ls rest) q9)
    (kk : ∀ (r : Int32) (u : S) (t : State) (H1 : Heap) (locs1 : List Loc), t.heap = H1 → s.vm.Alike t.vm → post r u → B u t → H.size ≤ H1.size → (∀ q : Nat, q < H.size → ¬ A1 q → H1[q]? = H[q]?) → va_S A0 H0 H1 locs1 → W p l e R s m args below meth c H1 locs1 (cells + mc) (slots + ms) Q (F0 m (pc + 3) ls (.int r :: rest))) : W p l e R s m args below meth c H locs cells slots Q (F0 m pc ls st0) := by
  intro T hT X
  rcases hr T hT X with ⟨v, st₀, t, T', L, h0, X', hL, e1, e2, ⟨⟨r, u, hv, hp, hb⟩, hF⟩, st⟩ | ⟨q, st₀, t, T', L, E, ce, h0, X', hL, e1, e2, ⟨u, hp, hb, hF⟩, hce, hcv, hcl, st⟩
  · cases hv
    obtain ⟨k1, k2, k3⟩ := vx_keep h0 e1 hS hA hf hL hF
    obtain ⟨t2, a1, b1⟩ := kk r u t T'.heap (locs ++ L) e1.symm (by rw [← e2]; exact X'.warmed.alike) hp hb k1 k2 k3 T' rfl X'
    exact ⟨t2, st t2 a1, b1⟩
  · obtain ⟨k1, k2, k3⟩ := vx_keep h0 e1 hS hAX hf hL hF
    obtain ⟨t2, a1, b1⟩ := kx E ce q u t T'.heap (locs ++ L) e1.symm (by rw [← e2]; exact X'.warmed.alike) hp hb k1 k2 k3 (by rw [e1]; exact hce) hcv hcl T' rfl X'
    exact ⟨t2, st.trans a1, b1⟩
theorem vx_calll {S SX : Type} {post : Int64 → S → Prop} {px : SX → Prop} {B : S → State → Prop} {BX : String → SX → State → Prop} {AX : Nat → Prop} (hr : vx_Run p l e R s m args below meth c H locs cells slots mc ms (F0 m pc ls st0) rest (va_Ql post B A1 a) (vx_X px BX AX) free) (hS : va_S A0 H0 H locs) (hA : ∀ q, q < H.size → A1 q → A0 q) (hf : ∀ q, free q → A0 q) (hAX : ∀ q, q < H.size → AX q → A0 q)
    (kx : ∀ (E : String) (ce : Cell) (q9 : Addr) (u : SX) (t : State) (H1 : Heap) (locs1 : List Loc), t.heap = H1 → s.vm.Alike t.vm → px u → BX E u t → H.size ≤ H1.size → (∀ q : Nat, q < H.size → ¬ AX q → H1[q]? = H[q]?) → va_S A0 H0 H1 locs1 → H1[q9]? = some ce → ce.vm = .none → s.vm.findClass E = some ce.cls → vx_W p l e R s m args below meth c H1 locs1 (cells + mc) (slots + ms) Q (F0 m pc ls rest) q9)
    (kk : ∀ (r : Int64) (u : S) (t : State) (H1 : Heap) (locs1 : List Loc), t.heap = H1 → s.vm.Alike t.vm → post r u → B u t → H.size ≤ H1.size → (∀ q : Nat, q < H.size → ¬ A1 q → H1[q]? = H[q]?) → va_S A0 H0 H1 locs1 → W p l e R s m args below meth c H1 locs1 (cells + mc) (slots + ms) Q (F0 m (pc + 3) ls (.long r :: rest))) : W p l e R s m args below meth c H locs cells slots Q (F0 m pc ls st0) := by
  intro T hT X
  rcases hr T hT X with ⟨v, st₀, t, T', L, h0, X', hL, e1, e2, ⟨⟨r, u, hv, hp, hb⟩, hF⟩, st⟩ | ⟨q, st₀, t, T', L, E, ce, h0, X', hL, e1, e2, ⟨u, hp, hb, hF⟩, hce, hcv, hcl, st⟩
  · cases hv
    obtain ⟨k1, k2, k3⟩ := vx_keep h0 e1 hS hA hf hL hF
    obtain ⟨t2, a1, b1⟩ := kk r u t T'.heap (locs ++ L) e1.symm (by rw [← e2]; exact X'.warmed.alike) hp hb k1 k2 k3 T' rfl X'
    exact ⟨t2, st t2 a1, b1⟩
  · obtain ⟨k1, k2, k3⟩ := vx_keep h0 e1 hS hAX hf hL hF
    obtain ⟨t2, a1, b1⟩ := kx E ce q u t T'.heap (locs ++ L) e1.symm (by rw [← e2]; exact X'.warmed.alike) hp hb k1 k2 k3 (by rw [e1]; exact hce) hcv hcl T' rfl X'
    exact ⟨t2, st.trans a1, b1⟩
theorem vx_callf {S SX : Type} {post : UInt32 → S → Prop} {px : SX → Prop} {B : S → State → Prop} {BX : String → SX → State → Prop} {AX : Nat → Prop} (hr : vx_Run p l e R s m args below meth c H locs cells slots mc ms (F0 m pc ls st0) rest (va_Qf post B A1 a) (vx_X px BX AX) free) (hS : va_S A0 H0 H locs) (hA : ∀ q, q < H.size → A1 q → A0 q) (hf : ∀ q, free q → A0 q) (hAX : ∀ q, q < H.size → AX q → A0 q)
    (kx : ∀ (E : String) (ce : Cell) (q9 : Addr) (u : SX) (t : State) (H1 : Heap) (locs1 : List Loc), t.heap = H1 → s.vm.Alike t.vm → px u → BX E u t → H.size ≤ H1.size → (∀ q : Nat, q < H.size → ¬ AX q → H1[q]? = H[q]?) → va_S A0 H0 H1 locs1 → H1[q9]? = some ce → ce.vm = .none → s.vm.findClass E = some ce.cls → vx_W p l e R s m args below meth c H1 locs1 (cells + mc) (slots + ms) Q (F0 m pc ls rest) q9)
    (kk : ∀ (r : UInt32) (u : S) (t : State) (H1 : Heap) (locs1 : List Loc), t.heap = H1 → s.vm.Alike t.vm → post r u → B u t → H.size ≤ H1.size → (∀ q : Nat, q < H.size → ¬ A1 q → H1[q]? = H[q]?) → va_S A0 H0 H1 locs1 → W p l e R s m args below meth c H1 locs1 (cells + mc) (slots + ms) Q (F0 m (pc + 3) ls (.float r :: rest))) : W p l e R s m args below meth c H locs cells slots Q (F0 m pc ls st0) := by
  intro T hT X
  rcases hr T hT X with ⟨v, st₀, t, T', L, h0, X', hL, e1, e2, ⟨⟨r, u, hv, hp, hb⟩, hF⟩, st⟩ | ⟨q, st₀, t, T', L, E, ce, h0, X', hL, e1, e2, ⟨u, hp, hb, hF⟩, hce, hcv, hcl, st⟩
  · cases hv
    obtain ⟨k1, k2, k3⟩ := vx_keep h0 e1 hS hA hf hL hF
    obtain ⟨t2, a1, b1⟩ := kk r u t T'.heap (locs ++ L) e1.symm (by rw [← e2]; exact X'.warmed.alike) hp hb k1 k2 k3 T' rfl X'
    exact ⟨t2, st t2 a1, b1⟩
  · obtain ⟨k1, k2, k3⟩ := vx_keep h0 e1 hS hAX hf hL hF
    obtain ⟨t2, a1, b1⟩ := kx E ce q u t T'.heap (locs ++ L) e1.symm (by rw [← e2]; exact X'.warmed.alike) hp hb k1 k2 k3 (by rw [e1]; exact hce) hcv hcl T' rfl X'
    exact ⟨t2, st.trans a1, b1⟩
theorem vx_calld {S SX : Type} {post : UInt64 → S → Prop} {px : SX → Prop} {B : S → State → Prop} {BX : String → SX → State → Prop} {AX : Nat → Prop} (hr : vx_Run p l e R s m args below meth c H locs cells slots mc ms (F0 m pc ls st0) rest (va_Qd post B A1 a) (vx_X px BX AX) free) (hS : va_S A0 H0 H locs) (hA : ∀ q, q < H.size → A1 q → A0 q) (hf : ∀ q, free q → A0 q) (hAX : ∀ q, q < H.size → AX q → A0 q)
    (kx : ∀ (E : String) (ce : Cell) (q9 : Addr) (u : SX) (t : State) (H1 : Heap) (locs1 : List Loc), t.heap = H1 → s.vm.Alike t.vm → px u → BX E u t → H.size ≤ H1.size → (∀ q : Nat, q < H.size → ¬ AX q → H1[q]? = H[q]?) → va_S A0 H0 H1 locs1 → H1[q9]? = some ce → ce.vm = .none → s.vm.findClass E = some ce.cls → vx_W p l e R s m args below meth c H1 locs1 (cells + mc) (slots + ms) Q (F0 m pc ls rest) q9)
    (kk : ∀ (r : UInt64) (u : S) (t : State) (H1 : Heap) (locs1 : List Loc), t.heap = H1 → s.vm.Alike t.vm → post r u → B u t → H.size ≤ H1.size → (∀ q : Nat, q < H.size → ¬ A1 q → H1[q]? = H[q]?) → va_S A0 H0 H1 locs1 → W p l e R s m args below meth c H1 locs1 (cells + mc) (slots + ms) Q (F0 m (pc + 3) ls (.double r :: rest))) : W p l e R s m args below meth c H locs cells slots Q (F0 m pc ls st0) := by
  intro T hT X
  rcases hr T hT X with ⟨v, st₀, t, T', L, h0, X', hL, e1, e2, ⟨⟨r, u, hv, hp, hb⟩, hF⟩, st⟩ | ⟨q, st₀, t, T', L, E, ce, h0, X', hL, e1, e2, ⟨u, hp, hb, hF⟩, hce, hcv, hcl, st⟩
  · cases hv
    obtain ⟨k1, k2, k3⟩ := vx_keep h0 e1 hS hA hf hL hF
    obtain ⟨t2, a1, b1⟩ := kk r u t T'.heap (locs ++ L) e1.symm (by rw [← e2]; exact X'.warmed.alike) hp hb k1 k2 k3 T' rfl X'
    exact ⟨t2, st t2 a1, b1⟩
  · obtain ⟨k1, k2, k3⟩ := vx_keep h0 e1 hS hAX hf hL hF
    obtain ⟨t2, a1, b1⟩ := kx E ce q u t T'.heap (locs ++ L) e1.symm (by rw [← e2]; exact X'.warmed.alike) hp hb k1 k2 k3 (by rw [e1]; exact hce) hcv hcl T' rfl X'
    exact ⟨t2, st.trans a1, b1⟩
theorem vx_callv {S SX : Type} {post : S → Prop} {px : SX → Prop} {B : S → State → Prop} {BX : String → SX → State → Prop} {AX : Nat → Prop} (hr : vx_Run p l e R s m args below meth c H locs cells slots mc ms (F0 m pc ls st0) rest (va_Qv post B A1 a) (vx_X px BX AX) free) (hS : va_S A0 H0 H locs) (hA : ∀ q, q < H.size → A1 q → A0 q) (hf : ∀ q, free q → A0 q) (hAX : ∀ q, q < H.size → AX q → A0 q)
    (kx : ∀ (E : String) (ce : Cell) (q9 : Addr) (u : SX) (t : State) (H1 : Heap) (locs1 : List Loc), t.heap = H1 → s.vm.Alike t.vm → px u → BX E u t → H.size ≤ H1.size → (∀ q : Nat, q < H.size → ¬ AX q → H1[q]? = H[q]?) → va_S A0 H0 H1 locs1 → H1[q9]? = some ce → ce.vm = .none → s.vm.findClass E = some ce.cls → vx_W p l e R s m args below meth c H1 locs1 (cells + mc) (slots + ms) Q (F0 m pc ls rest) q9)
    (kk : ∀ (u : S) (t : State) (H1 : Heap) (locs1 : List Loc), t.heap = H1 → s.vm.Alike t.vm → post u → B u t → H.size ≤ H1.size → (∀ q : Nat, q < H.size → ¬ A1 q → H1[q]? = H[q]?) → va_S A0 H0 H1 locs1 → W p l e R s m args below meth c H1 locs1 (cells + mc) (slots + ms) Q (F0 m (pc + 3) ls (rest))) : W p l e R s m args below meth c H locs cells slots Q (F0 m pc ls st0) := by
  intro T hT X
  rcases hr T hT X with ⟨v, st₀, t, T', L, h0, X', hL, e1, e2, ⟨⟨u, hv, hp, hb⟩, hF⟩, st⟩ | ⟨q, st₀, t, T', L, E, ce, h0, X', hL, e1, e2, ⟨u, hp, hb, hF⟩, hce, hcv, hcl, st⟩
  · cases hv
    obtain ⟨k1, k2, k3⟩ := vx_keep h0 e1 hS hA hf hL hF
    obtain ⟨t2, a1, b1⟩ := kk u t T'.heap (locs ++ L) e1.symm (by rw [← e2]; exact X'.warmed.alike) hp hb k1 k2 k3 T' rfl X'
    exact ⟨t2, st t2 a1, b1⟩
  · obtain ⟨k1, k2, k3⟩ := vx_keep h0 e1 hS hAX hf hL hF
    obtain ⟨t2, a1, b1⟩ := kx E ce q u t T'.heap (locs ++ L) e1.symm (by rw [← e2]; exact X'.warmed.alike) hp hb k1 k2 k3 (by rw [e1]; exact hce) hcv hcl T' rfl X'
    exact ⟨t2, st.trans a1, b1⟩
/-- caught by the row x of this method's table; the rows ahead don't take it -/
theorem vx_catch {own name : String} {E : String} {ce : Cell} {q : Addr} (hown : s.vm.findClass own = some m.cls) (pre : List ExceptionTableEntry) (x : ExceptionTableEntry) (suf : List ExceptionTableEntry) (hsplit : c.exceptionTable.toList = pre ++ x :: suf)
    (hpass : ∀ z ∈ pre, covers z pc = false ∨ (z.catchType ≠ 0 ∧ ∃ nm : String, (Cond.classLink own z.catchType nm).before args s = true ∧ va_Nc E nm s)) (hx : covers x pc = true) (h0 : x.catchType ≠ 0)
    (hlink : (Cond.classLink own x.catchType name).before args s = true) (hcast : (Cond.castable E name).before args s = true) (hcell : H[q]? = some ce) (hv : ce.vm = .none) (hcl : s.vm.findClass E = some ce.cls)
    (kk : W p l e R s m args below meth c H locs cells slots Q (F0 m x.handlerPc ls [.ref q])) : vx_W p l e R s m args below meth c H locs cells slots Q (F0 m pc ls rest) q := by
  intro T hT X
  have hpl : e.platform.magicAccessors = ({} : Platform).magicAccessors := by rw [X.admits.platform]
  obtain ⟨c3, c4, hc3, hc4, hasg⟩ := Cond.castable_spec hcast
  cases Option.some.inj (hc3.symm.trans hcl)
  obtain ⟨c5, hc5, hcl5⟩ := Cond.classLink_spec hown hlink e.platform hpl
  cases Option.some.inj (hc4.symm.trans hc5)
  obtain ⟨vm', X', st⟩ := X.thenCaughtThrough q (g := F0 m pc ls rest) rfl (Steps.refl _) (by rw [hT]; exact hcell) (by rw [hv]; rfl) (by obtain ⟨k9, h9, -⟩ := Vm.findClass_spec hcl; exact ⟨k9, h9⟩) pre x suf hsplit
    (fun z hz => by
      rcases hpass z hz with h | ⟨hz0, nm, hl1, hn1⟩
      · exact Or.inl h
      · obtain ⟨c6, hc6, hcl6⟩ := Cond.classLink_spec hown hl1 e.platform hpl
        obtain ⟨a8, b8, h1, h2, h3⟩ := hn1
        cases Option.some.inj (h1.symm.trans hcl)
        cases Option.some.inj (h2.symm.trans hc6)
        exact Or.inr ⟨hz0, _, hcl6, h3⟩) hx (Or.inr ⟨h0, c4, hcl5, hasg⟩)
  obtain ⟨t, a1, b1⟩ := kk (T.setVm vm') hT X'
  exact ⟨t, st.trans a1, b1⟩
end Rows
section Ends
variable {p : Program} {l : Launch} {e : Env} {R : Room} {s : State} {m : MethodId} {args : Array Value} {below : List Frame} {meth : Method} {c : Code} {H : Heap} {locs : List Loc} {cells slots : Nat} {Q : State → Prop}
variable {mc ms : Nat} {free : Addr → Prop} {A0 A1 : Nat → Prop} {H0 : Heap} {a : Array Value} {ls : Array Slot} {st0 rest : List Value}
variable {Qc : Array Value → State → Outcome → State → Prop} {XC : String → State → State → Prop}
/-- what a body that may throw owes at its end -/
def vx_MQ (below : List Frame) (Qc : Array Value → State → Outcome → State → Prop) (XC : String → State → State → Prop) (a : Array Value) (s : State) (mc ms : Nat) (free : Addr → Prop) : State → Prop := fun t =>
  ∃ o, t.status = .running ∧ Ended t below o ∧ vx_Q Qc XC mc ms free a s o t
theorem vx_ret {g : JFrame} {mc ms : Nat} (k : W p l e R s m args below meth c H locs cells slots (MQ below Qc args s mc ms free) g) : W p l e R s m args below meth c H locs cells slots (vx_MQ below Qc XC args s mc ms free) g := by
  intro T hT X
  obtain ⟨t, a1, o, b1, b2, b3, b4⟩ := k T hT X
  exact ⟨t, a1, o, b1, b2, Or.inl ⟨b3, b4⟩⟩
/-- not caught here: it goes on to the caller -/
theorem vx_widen {g : JFrame} {q : Addr} {k n : Nat} (h1 : cells ≤ k) (h2 : slots ≤ n) (kk : vx_W p l e R s m args below meth c H locs k n Q g q) : vx_W p l e R s m args below meth c H locs cells slots Q g q := fun T hT X => kk T hT (stand_widen X h1 h2)
theorem vx_out {pc : Nat} {E : String} {ce : Cell} {q : Addr} {mc ms : Nat} (hout : ∀ x ∈ c.exceptionTable.toList, covers x pc = false) (hlocks : meth.locks = false) (hcell : H[q]? = some ce) (hv : ce.vm = .none) (hcl : s.vm.findClass E = some ce.cls)
    (hx : ∀ t : State, t.heap = H → s.vm.Alike t.vm → XC E s t) (hf : ∀ z ∈ locs, free z.base) (hc : cells ≤ mc) (hs : slots ≤ ms) :
    vx_W p l e R s m args below meth c H locs cells slots (vx_MQ below Qc XC args s mc ms free) (F0 m pc ls rest) q := by
  intro T hT X
  obtain ⟨st1, hrun, hend, hW, hsm⟩ := X.leaveThrown q (g := F0 m pc ls rest) rfl rfl rfl hout hlocks
  have hcell9 : (T.setFrames (.throwing q :: below)).heap[q]? = some ce := by
    show T.heap[q]? = some ce
    rw [hT]; exact hcell
  exact ⟨_, st1, .threw q, hrun, hend, Or.inr ⟨q, rfl, E, ce, locs, hx _ hT hW.alike, hcell9, hv, hcl, hW, hsm.mono hc hs, hf⟩⟩
theorem vx_frame {U : State} {k n : Nat} (h : s.sameButNew ({ U with vm := s.vm } : State) locs k n) : s.heap.size ≤ U.heap.size ∧ ∀ q : Nat, q < s.heap.size → (∀ z ∈ locs, z.base ≠ q) → U.heap[q]? = s.heap[q]? := by
  obtain ⟨-, h2, -, -, -, h6⟩ := h
  refine ⟨h2, fun q hq hz => ?_⟩
  obtain ⟨c9, e1, e2, e3, e4⟩ := h6 q _ (Array.getElem?_eq_getElem hq)
  have hs : c9.slots = (s.heap[q]).slots := Array.ext_getElem? fun i => e4 i fun hm => hz _ hm rfl
  have h9 : c9 = s.heap[q] := by
    rw [hs] at e2
    exact e2
  have e5 : U.heap[q]? = some c9 := e1
  rw [e5, h9, Array.getElem?_eq_getElem hq]
/-- the words of a throw but the four that speak of the heap -/
def vx_no (w : Cond) : Bool := decide (w ≠ .isRef (.static Bundle.tN "UNASSIGNED_STACK" Bundle.steD)) && decide (w ≠ .isRef (.static Bundle.tN "SUPPRESSED_SENTINEL" Bundle.listD)) && decide (w ≠ .laysStatic Bundle.tN "UNASSIGNED_STACK" Bundle.steD) && decide (w ≠ .laysStatic Bundle.tN "SUPPRESSED_SENTINEL" Bundle.listD)
def vx_at0 (own : String) (ic : Nat) (X : String) (names : List String) : List Cond := (Bundle.ownAtoms0 own ic X names).filter vx_no
def vx_atS (own : String) (ic : Nat) (X : String) (names : List String) : List Cond := (Bundle.ownAtoms own ic X names).filter vx_no
/-- a word that the tables alone decide, or a good one -/
def vx_ot (w : Cond) : Bool := w.onTables || goodWord w
theorem vx_ot_at {args a' : Array Value} {s U : State} {w : Cond} (hW : s.WarmedH U.vm) (hvm : s.vm = U.vm) (hg : vx_ot w = true) (h : w.before args s = true) : w.before a' U = true := by
  simp only [vx_ot, Bool.or_eq_true] at hg
  rcases hg with hg | hg
  · exact va_tabs hg hvm h
  · exact word_at hW (good_of_word hg) h
/-- a list's words: the good ones out of the method's own list, the others by premises of their own -/
theorem vx_hat {args : Array Value} {s : State} {L B : List Cond} (h1 : ∀ w ∈ L.filter goodWord, w.before args s = true) (h2 : ∀ w ∈ L.filter (fun w => !goodWord w), w ∈ B) (h3 : ∀ w ∈ B, w.before args s = true) : ∀ w ∈ L, w.before args s = true := by
  intro w hw
  by_cases g : goodWord w = true
  · exact h1 w (List.mem_filter.mpr ⟨hw, g⟩)
  · refine h3 w (h2 w (List.mem_filter.mpr ⟨hw, ?_⟩))
    show (!goodWord w) = true
    cases hgw : goodWord w
    · rfl
    · exact absurd hgw g
theorem vx_c {args : Array Value} {s : State} {w : Cond} {B : List Cond} (h : w.before args s = true) (t : ∀ w ∈ B, w.before args s = true) : ∀ w' ∈ w :: B, w'.before args s = true := fun w' h' => (List.mem_cons.mp h').elim (fun e => by rw [e]; exact h) (t w')
theorem vx_n {args : Array Value} {s : State} : ∀ w ∈ ([] : List Cond), w.before args s = true := fun _ h => nomatch h
theorem vx_own {args : Array Value} {s : State} {L : List Cond} (h1 : ∀ w ∈ L.filter vx_no, w.before args s = true)
    (hU : (Cond.isRef (.static Bundle.tN "UNASSIGNED_STACK" Bundle.steD)).before args s = true) (hN : (Cond.isRef (.static Bundle.tN "SUPPRESSED_SENTINEL" Bundle.listD)).before args s = true)
    (lU : (Cond.laysStatic Bundle.tN "UNASSIGNED_STACK" Bundle.steD).before args s = true) (lN : (Cond.laysStatic Bundle.tN "SUPPRESSED_SENTINEL" Bundle.listD).before args s = true) : ∀ w ∈ L, w.before args s = true := by
  intro w hw
  by_cases e1 : w = .isRef (.static Bundle.tN "UNASSIGNED_STACK" Bundle.steD)
  · rw [e1]; exact hU
  · by_cases e2 : w = .isRef (.static Bundle.tN "SUPPRESSED_SENTINEL" Bundle.listD)
    · rw [e2]; exact hN
    · by_cases e3 : w = .laysStatic Bundle.tN "UNASSIGNED_STACK" Bundle.steD
      · rw [e3]; exact lU
      · by_cases e4 : w = .laysStatic Bundle.tN "SUPPRESSED_SENTINEL" Bundle.listD
        · rw [e4]; exact lN
        · exact h1 w (List.mem_filter.mpr ⟨hw, by unfold vx_no; rw [decide_eq_true e1, decide_eq_true e2, decide_eq_true e3, decide_eq_true e4]; rfl⟩)
/-- where a static field lies, its class's statics cell in H -/
def vx_L (C n d : String) (A : Nat → Prop) (U : State) (H : Heap) : Prop := ∃ (c : ClassId) (k : Class) (i : Nat) (f : Field) (a : Nat) (cell : Cell), U.vm.findClass C = some c ∧ U.fieldFound? C n d = some (c, k, i, f) ∧ f.isStatic = true ∧ k.statics = some a ∧ H[a]? = some cell ∧ cell.vm.isStatics = true ∧ cell.cls = c ∧ f.slot < cell.slots.size ∧ k.staticTypes[f.slot]? = some f.type ∧ ¬ A a
theorem vx_L.moved {C n d : String} {A : Nat → Prop} {u U : State} {H : Heap} (hvm : u.vm.Alike U.vm) (h : vx_L C n d A u H) : vx_L C n d A U H := by
  obtain ⟨c, k, i, f, a, cell, h1, h2, h3, h4, h5, h6, h7, h8, h9, h10⟩ := h
  obtain ⟨k', hi', he⟩ := State.fieldFound?_setVm hvm h2
  exact ⟨c, k', i, f, a, cell, by rw [hvm.findClass]; exact h1, hi', h3, by rw [he]; exact h4, h5, h6, h7, h8, by rw [he]; exact h9, h10⟩
theorem vx_L.kept {C n d : String} {A : Nat → Prop} {U : State} {H H1 : Heap} (h : vx_L C n d A U H) (hq : ∀ a : Nat, a < H.size → ¬ A a → H1[a]? = H[a]?) : vx_L C n d A U H1 := by
  obtain ⟨c, k, i, f, a, cell, h1, h2, h3, h4, h5, h6, h7, h8, h9, h10⟩ := h
  exact ⟨c, k, i, f, a, cell, h1, h2, h3, h4, by rw [hq a (Array.getElem?_eq_some_iff.mp h5).1 h10]; exact h5, h6, h7, h8, h9, h10⟩
theorem vx_L.narrow {C n d : String} {A B : Nat → Prop} {U : State} {H : Heap} (h : vx_L C n d A U H) (hAB : ∀ q, B q → A q) : vx_L C n d B U H := by
  obtain ⟨c, k, i, f, a, cell, h1, h2, h3, h4, h5, h6, h7, h8, h9, h10⟩ := h
  exact ⟨c, k, i, f, a, cell, h1, h2, h3, h4, h5, h6, h7, h8, h9, fun z => h10 (hAB _ z)⟩
theorem vx_L.word {C n d : String} {A : Nat → Prop} {s : State} {args : Array Value} (h : vx_L C n d A s s.heap) : (Cond.laysStatic C n d).before args s = true := by
  obtain ⟨c, k, i, f, a, cell, h1, h2, h3, h4, h5, h6, h7, h8, h9, -⟩ := h
  show (Cond.laysStatic C n d).holds args s none s [] = true
  exact Cond.laysStatic_of h1 h2 h3 h4 h5 h6 h7 h8 h9
/-- .. and what it holds: null or some reference -/
def vx_Zq (C n d : String) (A : Nat → Prop) (U : State) (H : Heap) : Prop := va_Zq C n d A U H ∧ vx_L C n d A U H
theorem vx_Zq.moved {C n d : String} {A : Nat → Prop} {u U : State} {H : Heap} (hvm : u.vm.Alike U.vm) (h : vx_Zq C n d A u H) : vx_Zq C n d A U H := ⟨va_Zq.moved hvm h.1, vx_L.moved hvm h.2⟩
theorem vx_Zq.kept {C n d : String} {A : Nat → Prop} {U : State} {H H1 : Heap} (h : vx_Zq C n d A U H) (hq : ∀ a : Nat, a < H.size → ¬ A a → H1[a]? = H[a]?) : vx_Zq C n d A U H1 := ⟨va_Zq.kept h.1 hq, vx_L.kept h.2 hq⟩
theorem vx_Zq.narrow {C n d : String} {A B : Nat → Prop} {U : State} {H : Heap} (h : vx_Zq C n d A U H) (hAB : ∀ q, B q → A q) : vx_Zq C n d B U H := ⟨va_Zq.narrow h.1 hAB, vx_L.narrow h.2 hAB⟩
theorem vx_Zqof {args : Array Value} {s : State} {C n d : String} {A : Nat → Prop} (hl : (Cond.laysStatic C n d).before args s = true) (hini : (Cond.initialized C).before args s = true) (h : (Cond.isRef (.static C n d)).before args s = true) (hA : ∀ a : Nat, a < s.heap.size → ¬ A a) : vx_Zq C n d A s s.heap := by
  refine ⟨va_Zqof hl hini h hA, ?_⟩
  obtain ⟨c, k, i, f, a, cell, h1, h2, h3, h4, h5, h6, h7, h8, h9⟩ := Cond.laysStatic_spec hl
  exact ⟨c, k, i, f, a, cell, h1, h2, h3, h4, h5, h6, h7, h8, h9, hA a (Array.getElem?_eq_some_iff.mp h5).1⟩
theorem vx_isRef {C n d : String} {v : Value} {A : Nat → Prop} {s : State} {args : Array Value} (h : va_Z C n d v A s s.heap) (hv : v.isRef = true) : (Cond.isRef (.static C n d)).before args s = true := by
  obtain ⟨cf, kf, fi, f, a, cell, h1, h2, h3, h4, h5, h6, h7, -⟩ := h
  have he : (Term.static C n d).eval args s none [] s = some v := by
    simp [Term.eval, State.fieldNamed?, h1, h2, h4, h5, h6, h7]
  simp only [Cond.before, Cond.holds, Cond.value, he]
  cases v <;> simp_all [Value.isRef]
theorem vx_isRefq {C n d : String} {A : Nat → Prop} {s : State} {args : Array Value} (h : va_Zq C n d A s s.heap) : (Cond.isRef (.static C n d)).before args s = true := by
  rcases h with h | ⟨t, h⟩
  · exact vx_isRef h rfl
  · exact vx_isRef h rfl
/-- the same frame, seen from here: as if the method were called anew in this heap -/
theorem vx_rebase {T : State} (X : Stand p l e R s m args below meth c T locs cells slots) {R' : Room} (hf : R'.frames ≤ R.frames) (hl : R'.locals ≤ R.locals) (hc : cells + R'.cells ≤ R.cells) (hs : slots + R'.slots ≤ R.slots) :
    Stand p l e R' ((T.setVm s.vm).setFrames (.invoking m args :: below)) m args below meth c T [] 0 0 := by
  have htop : (T.setVm s.vm).topJava?.isSome := X.here.top
  have hF : ((T.setVm s.vm).setFrames (.invoking m args :: below)).frames = .invoking m args :: below := State.frames_setFrames _ (State.cur_lt_of_top htop)
  obtain ⟨g₀, hg0⟩ := Option.isSome_iff_exists.mp htop
  obtain ⟨r, hr⟩ := State.topJava?_eq_some.mp hg0
  have hl9 : e.platform.stackLimits (T.setVm s.vm).me = e.platform.stackLimits s.me := X.limits
  have hb9 : (T.setVm s.vm).me.stackBytes = s.me.stackBytes := X.bytes
  refine ⟨X.admits, X.cas, X.clock, hF, ?_, X.hears, X.method, X.code, X.here, X.tail, X.warmed, ?_, ?_, ?_⟩
  · have h := X.room
    have hU : ((T.setVm s.vm).setFrames (.invoking m args :: below)).localsInUse = s.localsInUse := by
      rw [State.localsInUse_invoking hF (meth := meth) (c := c) X.method X.code, State.localsInUse_invoking X.frames X.method X.code]
    simp only [State.hasRoom, Bool.and_eq_true, decide_eq_true_eq] at h ⊢
    obtain ⟨⟨⟨⟨h1, h2, h3, h4, h5, h6⟩, h7⟩, h8⟩, h9⟩ := h
    rw [X.frames, List.length_cons] at h2 h3
    have q1 := X.heapSize
    have q2 := X.used
    simp only [hF, hU, List.length_cons, State.stackLimits_setFrames, State.stackBytes_setFrames, hl9, hb9]
    refine ⟨⟨⟨⟨by omega, by omega, by omega, by omega, by omega, h6⟩, ?_⟩, ?_⟩, X.book⟩
    · show T.heap.size + R'.cells ≤ e.platform.maxCells
      omega
    · show T.slotsUsed + R'.slots ≤ e.platform.maxSlots
      omega
  · rw [State.stackLimits_setFrames]; rfl
  · rw [State.stackBytes_setFrames]; rfl
  · refine ⟨?_, Nat.le_refl _, Nat.le_refl _, ?_, ?_, fun a c9 h9 => ⟨c9, h9, rfl, rfl, fun _ _ => rfl⟩⟩
    · obtain ⟨t, ht, -⟩ := State.frames_cons hr
      show T.setVm s.vm = { ((T.setVm s.vm).setFrames (.invoking m args :: below)).setFrames (T.setVm s.vm).frames with heap := T.heap, slotsUsed := T.slotsUsed }
      rw [State.setFrames_setFrames, State.setFrames_self ht]
      rfl
    · show T.slotsUsed = T.slotsUsed + ((T.heap.toList.drop T.heap.size).map (·.slots.size)).sum
      rw [List.drop_eq_nil_of_le (Nat.le_of_eq Array.length_toList)]
      rfl
    · show ((T.heap.toList.drop T.heap.size).map (·.slots.size)).sum ≤ 0
      rw [List.drop_eq_nil_of_le (Nat.le_of_eq Array.length_toList)]
      exact Nat.le_refl _
/-- 'throw new E()': new; dup; invokespecial; athrow -/
theorem vx_throw0 {cc : ByteArray} {pc : Nat} (hexec : p.tables.exec = Jvm.exec) (hb : c.code = cc) (hl : l.stackTraces = false) {own cls : String} {names : List String} {ik ic mc ms : Nat} {A : Nat → Prop}
    (hown : s.vm.findClass own = some m.cls) (hcls : Bundle.fit cls = true) (hnames : ∀ n ∈ names, Bundle.fit n = true)
    (hk : (Cond.classLink own ik cls).before args s = true) (hini : (Cond.initialized cls).before args s = true) (hat : ∀ w ∈ vx_at0 own ic cls names, w.before args s = true)
    (hgood : ∀ w ∈ Cond.classLink own ik cls :: Cond.initialized cls :: vx_at0 own ic cls names, vx_ot w = true)
    (hU : vx_Zq Bundle.tN "UNASSIGNED_STACK" Bundle.steD A s s.heap) (hN : vx_Zq Bundle.tN "SUPPRESSED_SENTINEL" Bundle.listD A s s.heap) (hS : va_S A s.heap H locs) (hsize : ls.size = c.maxLocals)
    (d0 : decode cc pc = .ok (.new ik, 3)) (d3 : decode cc (pc + 3) = .ok (.dup, 1)) (d4 : decode cc (pc + 4) = .ok (.invokespecial ic, 3)) (d7 : decode cc (pc + 7) = .ok (.athrow, 1))
    (hout : ∀ x ∈ c.exceptionTable.toList, covers x (pc + 7) = false)
    (hRframes : names.length + 3 < R.frames) (hRlocals : (rest.map fun v => v.category).sum + (13 * (names.length + 1) + 42) ≤ R.locals) (hRcells : cells + 1 ≤ R.cells) (hRslots : slots + 6 ≤ R.slots) (hlocks : meth.locks = false)
    (hx : ∀ t : State, s.vm.Alike t.vm → H.size ≤ t.heap.size → (∀ q : Nat, q < H.size → t.heap[q]? = H[q]?) → XC cls s t)
    (hf : ∀ z ∈ locs, free z.base) (hc : cells + 1 ≤ mc) (hs : slots + 6 ≤ ms) :
    W p l e R s m args below meth c H locs cells slots (vx_MQ below Qc XC args s mc ms free) (F0 m pc ls rest) := by
  intro T hT X
  have htr : e.platform.stackTraces = false := (show e.platform.stackTraces = l.stackTraces by rw [X.admits.platform]).trans hl
  have Y := vx_rebase X (R' := { frames := R.frames, locals := R.locals, cells := 1, slots := 6 }) (Nat.le_refl _) (Nat.le_refl _) hRcells hRslots
  obtain ⟨s', hA⟩ : ∃ z, z = (T.setVm s.vm).setFrames (.invoking m args :: below) := ⟨_, rfl⟩
  rw [← hA] at Y
  have hvm : s'.vm = s.vm := by rw [hA]; rfl
  have hhp : s'.heap = H := by rw [hA]; exact hT
  have hW0 : s.WarmedH s'.vm := by rw [hvm]; exact State.WarmedH.refl s
  have hat' : ∀ w ∈ vx_at0 own ic cls names, w.before args s' = true := fun w hw => vx_ot_at hW0 hvm.symm (hgood w (List.mem_cons_of_mem _ (List.mem_cons_of_mem _ hw))) (hat w hw)
  have hk' : (Cond.classLink own ik cls).before args s' = true := vx_ot_at hW0 hvm.symm (hgood _ List.mem_cons_self) hk
  have hini' : (Cond.initialized cls).before args s' = true := vx_ot_at hW0 hvm.symm (hgood _ (List.mem_cons_of_mem _ List.mem_cons_self)) hini
  have hU' : vx_Zq Bundle.tN "UNASSIGNED_STACK" Bundle.steD A s' s'.heap := by rw [hhp]; exact vx_Zq.moved hW0.alike (hU.kept hS.2.1)
  have hN' : vx_Zq Bundle.tN "SUPPRESSED_SENTINEL" Bundle.listD A s' s'.heap := by rw [hhp]; exact vx_Zq.moved hW0.alike (hN.kept hS.2.1)
  have h : ∀ w ∈ Bundle.ownAtoms0 own ic cls names, w.before args s' = true := vx_own hat' (vx_isRefq hU'.1) (vx_isRefq hN'.1) hU'.2.word hN'.2.word
  have hown' : s'.vm.findClass own = some m.cls := by rw [hvm]; exact hown
  have hins : (Cond.instantiable cls 6).before args s' = true := h _ (by simp [Bundle.ownAtoms0])
  obtain ⟨vm₁, cX, kX, hfX, hkX, -, -, X₁, st1⟩ := Y.newCold hexec (own := own) (C := cls) (index := ik) (n := 6) hown' hk' hins hini'
    (g := F0 m pc ls rest) rfl (by rw [hb]; exact d0) (Nat.le_refl _) (Nat.le_refl _)
  generalize hT1 : (T.setVm vm₁).pushCell { cls := cX, slots := kX.instanceTypes.map defaultValue, vm := .none } = T1 at X₁ st1
  have hcat : (Value.ref T.heap.size).category = 1 := rfl
  have hcellA : T1.heap[T.heap.size]? = some (freshCell cX kX) := by rw [← hT1]; exact State.heap_pushCell_size _ _
  have d3' : decode c.code (pc + 3) = .ok (.dup, 1) := by rw [hb]; exact d3
  obtain ⟨U, hsteps, hrun, hend, hW, hsame, ce, hce, hO⟩ := X₁.ctorThrow0 hexec htr (own := own) (cls := cls) (names := names) (ic := ic) hown' hcls hnames h (fun x hx => nomatch hx) hfX hkX hcellA (by rw [hhp, hT]; exact Nat.le_refl _)
    (g := { method := m, pc := pc + 4, locals := ls, stack := .ref T.heap.size :: .ref T.heap.size :: rest, locked := none }) rfl hsize rfl rfl (rest := rest) rfl
    (by rw [hb]; exact d4) (by rw [hb]; exact d7) hout hRframes (by simp only [List.map_cons, List.sum_cons, hcat]; omega) hlocks
  obtain ⟨f1, f2⟩ := vx_frame hsame
  rw [hhp] at f1 f2
  have hWs : s.WarmedH U.vm := State.WarmedH.trans hW0 hW
  have hcl : s.vm.findClass cls = some ce.cls := by
    have h9 := hO.cls
    rw [hvm] at h9
    exact h9
  have hall : s.sameButNew ({ U with vm := s.vm } : State) locs mc ms := by
    subst hA
    obtain ⟨e1, e2⟩ := hsame
    rw [State.setFrames_setFrames] at e1
    have h2 : (T.setVm s.vm).sameButNew ({ U with vm := s.vm } : State) [] (0 + 1) (0 + 6) := ⟨e1, e2⟩
    have h3 := X.same.trans h2
    rw [List.append_nil] at h3
    exact h3.mono hc hs
  refine ⟨U, ?_, .threw T.heap.size, hrun, hend, Or.inr ⟨T.heap.size, rfl, cls, ce, locs, hx U hWs.alike f1 (fun q hq => f2 q hq (fun z hz => nomatch hz)), hce, hO.vm, hcl, hWs, hall, hf⟩⟩
  refine st1 _ ?_
  show Steps p.tables e below (T1.setTop { method := m, pc := pc + 3, locals := ls, stack := .ref T.heap.size :: rest, locked := none }) _
  jvm_step X₁.here [X₁.here.top, hexec, d3', Value.category]
  exact hsteps
/-- 'throw new E("text")': new; dup; ldc; invokespecial; athrow -/
theorem vx_throwS {cc : ByteArray} {pc : Nat} (hexec : p.tables.exec = Jvm.exec) (hb : c.code = cc) (hl : l.stackTraces = false) {own cls text : String} {names : List String} {ik is ic mc ms sa : Nat} {A : Nat → Prop}
    (hown : s.vm.findClass own = some m.cls) (hcls : Bundle.fit cls = true) (hnames : ∀ n ∈ names, Bundle.fit n = true)
    (hk : (Cond.classLink own ik cls).before args s = true) (hini : (Cond.initialized cls).before args s = true) (hstr : vk_R own is text sa s) (hat : ∀ w ∈ vx_atS own ic cls names, w.before args s = true)
    (hgood : ∀ w ∈ Cond.classLink own ik cls :: Cond.initialized cls :: vx_atS own ic cls names, vx_ot w = true)
    (hU : vx_Zq Bundle.tN "UNASSIGNED_STACK" Bundle.steD A s s.heap) (hN : vx_Zq Bundle.tN "SUPPRESSED_SENTINEL" Bundle.listD A s s.heap) (hS : va_S A s.heap H locs) (hsize : ls.size = c.maxLocals)
    (d0 : decode cc pc = .ok (.new ik, 3)) (d3 : decode cc (pc + 3) = .ok (.dup, 1)) (d4 : decode cc (pc + 4) = .ok (.ldc is, 2)) (d6 : decode cc (pc + 6) = .ok (.invokespecial ic, 3)) (d9 : decode cc (pc + 9) = .ok (.athrow, 1))
    (hout : ∀ x ∈ c.exceptionTable.toList, covers x (pc + 9) = false)
    (hRframes : names.length + 3 < R.frames) (hRlocals : (rest.map fun v => v.category).sum + (13 * (names.length + 1) + 43) ≤ R.locals) (hRcells : cells + 1 ≤ R.cells) (hRslots : slots + 6 ≤ R.slots) (hlocks : meth.locks = false)
    (hx : ∀ t : State, s.vm.Alike t.vm → H.size ≤ t.heap.size → (∀ q : Nat, q < H.size → t.heap[q]? = H[q]?) → XC cls s t)
    (hf : ∀ z ∈ locs, free z.base) (hc : cells + 1 ≤ mc) (hs : slots + 6 ≤ ms) :
    W p l e R s m args below meth c H locs cells slots (vx_MQ below Qc XC args s mc ms free) (F0 m pc ls rest) := by
  intro T hT X
  have htr : e.platform.stackTraces = false := (show e.platform.stackTraces = l.stackTraces by rw [X.admits.platform]).trans hl
  have Y := vx_rebase X (R' := { frames := R.frames, locals := R.locals, cells := 1, slots := 6 }) (Nat.le_refl _) (Nat.le_refl _) hRcells hRslots
  obtain ⟨s', hA⟩ : ∃ z, z = (T.setVm s.vm).setFrames (.invoking m args :: below) := ⟨_, rfl⟩
  rw [← hA] at Y
  have hvm : s'.vm = s.vm := by rw [hA]; rfl
  have hhp : s'.heap = H := by rw [hA]; exact hT
  have hW0 : s.WarmedH s'.vm := by rw [hvm]; exact State.WarmedH.refl s
  have hat' : ∀ w ∈ vx_atS own ic cls names, w.before args s' = true := fun w hw => vx_ot_at hW0 hvm.symm (hgood w (List.mem_cons_of_mem _ (List.mem_cons_of_mem _ hw))) (hat w hw)
  have hk' : (Cond.classLink own ik cls).before args s' = true := vx_ot_at hW0 hvm.symm (hgood _ List.mem_cons_self) hk
  have hini' : (Cond.initialized cls).before args s' = true := vx_ot_at hW0 hvm.symm (hgood _ (List.mem_cons_of_mem _ List.mem_cons_self)) hini
  have hU' : vx_Zq Bundle.tN "UNASSIGNED_STACK" Bundle.steD A s' s'.heap := by rw [hhp]; exact vx_Zq.moved hW0.alike (hU.kept hS.2.1)
  have hN' : vx_Zq Bundle.tN "SUPPRESSED_SENTINEL" Bundle.listD A s' s'.heap := by rw [hhp]; exact vx_Zq.moved hW0.alike (hN.kept hS.2.1)
  have h : ∀ w ∈ Bundle.ownAtoms own ic cls names, w.before args s' = true := vx_own hat' (vx_isRefq hU'.1) (vx_isRefq hN'.1) hU'.2.word hN'.2.word
  have hown' : s'.vm.findClass own = some m.cls := by rw [hvm]; exact hown
  have hins : (Cond.instantiable cls 6).before args s' = true := h _ (by simp [Bundle.ownAtoms])
  obtain ⟨vm₁, cX, kX, hfX, hkX, -, -, X₁, st1⟩ := Y.newCold hexec (own := own) (C := cls) (index := ik) (n := 6) hown' hk' hins hini'
    (g := F0 m pc ls rest) rfl (by rw [hb]; exact d0) (Nat.le_refl _) (Nat.le_refl _)
  generalize hT1 : (T.setVm vm₁).pushCell { cls := cX, slots := kX.instanceTypes.map defaultValue, vm := .none } = T1 at X₁ st1
  have hcat : (Value.ref T.heap.size).category = 1 := rfl
  have hcellA : T1.heap[T.heap.size]? = some (freshCell cX kX) := by rw [← hT1]; exact State.heap_pushCell_size _ _
  have d3' : decode c.code (pc + 3) = .ok (.dup, 1) := by rw [hb]; exact d3
  have d4' : decode c.code (pc + 4) = .ok (.ldc is, 2) := by rw [hb]; exact d4
  have hstr' : vk_R own is text sa s' := vk_R.warm hW0 hstr
  obtain ⟨U, hsteps, hrun, hend, hW, hsame, ce, hce, hO⟩ := X₁.ctorThrowS hexec htr (own := own) (cls := cls) (names := names) (ic := ic) hown' hcls hnames h (fun x hx => nomatch hx) hfX hkX hcellA (by rw [hhp, hT]; exact Nat.le_refl _) (msg := .ref sa) rfl
    (g := { method := m, pc := pc + 6, locals := ls, stack := .ref sa :: .ref T.heap.size :: .ref T.heap.size :: rest, locked := none }) rfl hsize rfl rfl (rest := rest) rfl
    (by rw [hb]; exact d6) (by rw [hb]; exact d9) hout hRframes (by simp only [List.map_cons, List.sum_cons, hcat]; omega) hlocks
  obtain ⟨f1, f2⟩ := vx_frame hsame
  rw [hhp] at f1 f2
  have hWs : s.WarmedH U.vm := State.WarmedH.trans hW0 hW
  have hcl : s.vm.findClass cls = some ce.cls := by
    have h9 := hO.cls
    rw [hvm] at h9
    exact h9
  have hall : s.sameButNew ({ U with vm := s.vm } : State) locs mc ms := by
    subst hA
    obtain ⟨e1, e2⟩ := hsame
    rw [State.setFrames_setFrames] at e1
    have h2 : (T.setVm s.vm).sameButNew ({ U with vm := s.vm } : State) [] (0 + 1) (0 + 6) := ⟨e1, e2⟩
    have h3 := X.same.trans h2
    rw [List.append_nil] at h3
    exact h3.mono hc hs
  refine ⟨U, ?_, .threw T.heap.size, hrun, hend, Or.inr ⟨T.heap.size, rfl, cls, ce, locs, hx U hWs.alike f1 (fun q hq => f2 q hq (fun z hz => nomatch hz)), hce, hO.vm, hcl, hWs, hall, hf⟩⟩
  refine st1 _ ?_
  show Steps p.tables e below (T1.setTop { method := m, pc := pc + 3, locals := ls, stack := .ref T.heap.size :: rest, locked := none }) _
  jvm_step X₁.here [X₁.here.top, hexec, d3', Value.category]
  exact X₁.ldcString hexec (own := own) (text := text) (index := is) (a := sa) hown' hstr'.1 hstr'.2
    (g := { method := m, pc := pc + 4, locals := ls, stack := .ref T.heap.size :: .ref T.heap.size :: rest, locked := none }) rfl d4' _ hsteps
/-- 'throw new E("text")', the text by a wide index -/
theorem vx_throwSW {cc : ByteArray} {pc : Nat} (hexec : p.tables.exec = Jvm.exec) (hb : c.code = cc) (hl : l.stackTraces = false) {own cls text : String} {names : List String} {ik is ic mc ms sa : Nat} {A : Nat → Prop}
    (hown : s.vm.findClass own = some m.cls) (hcls : Bundle.fit cls = true) (hnames : ∀ n ∈ names, Bundle.fit n = true)
    (hk : (Cond.classLink own ik cls).before args s = true) (hini : (Cond.initialized cls).before args s = true) (hstr : vk_R own is text sa s) (hat : ∀ w ∈ vx_atS own ic cls names, w.before args s = true)
    (hgood : ∀ w ∈ Cond.classLink own ik cls :: Cond.initialized cls :: vx_atS own ic cls names, vx_ot w = true)
    (hU : vx_Zq Bundle.tN "UNASSIGNED_STACK" Bundle.steD A s s.heap) (hN : vx_Zq Bundle.tN "SUPPRESSED_SENTINEL" Bundle.listD A s s.heap) (hS : va_S A s.heap H locs) (hsize : ls.size = c.maxLocals)
    (d0 : decode cc pc = .ok (.new ik, 3)) (d3 : decode cc (pc + 3) = .ok (.dup, 1)) (d4 : decode cc (pc + 4) = .ok (.ldc_w is, 3)) (d7 : decode cc (pc + 7) = .ok (.invokespecial ic, 3)) (d10 : decode cc (pc + 10) = .ok (.athrow, 1))
    (hout : ∀ x ∈ c.exceptionTable.toList, covers x (pc + 10) = false)
    (hRframes : names.length + 3 < R.frames) (hRlocals : (rest.map fun v => v.category).sum + (13 * (names.length + 1) + 43) ≤ R.locals) (hRcells : cells + 1 ≤ R.cells) (hRslots : slots + 6 ≤ R.slots) (hlocks : meth.locks = false)
    (hx : ∀ t : State, s.vm.Alike t.vm → H.size ≤ t.heap.size → (∀ q : Nat, q < H.size → t.heap[q]? = H[q]?) → XC cls s t)
    (hf : ∀ z ∈ locs, free z.base) (hc : cells + 1 ≤ mc) (hs : slots + 6 ≤ ms) :
    W p l e R s m args below meth c H locs cells slots (vx_MQ below Qc XC args s mc ms free) (F0 m pc ls rest) := by
  intro T hT X
  have htr : e.platform.stackTraces = false := (show e.platform.stackTraces = l.stackTraces by rw [X.admits.platform]).trans hl
  have Y := vx_rebase X (R' := { frames := R.frames, locals := R.locals, cells := 1, slots := 6 }) (Nat.le_refl _) (Nat.le_refl _) hRcells hRslots
  obtain ⟨s', hA⟩ : ∃ z, z = (T.setVm s.vm).setFrames (.invoking m args :: below) := ⟨_, rfl⟩
  rw [← hA] at Y
  have hvm : s'.vm = s.vm := by rw [hA]; rfl
  have hhp : s'.heap = H := by rw [hA]; exact hT
  have hW0 : s.WarmedH s'.vm := by rw [hvm]; exact State.WarmedH.refl s
  have hat' : ∀ w ∈ vx_atS own ic cls names, w.before args s' = true := fun w hw => vx_ot_at hW0 hvm.symm (hgood w (List.mem_cons_of_mem _ (List.mem_cons_of_mem _ hw))) (hat w hw)
  have hk' : (Cond.classLink own ik cls).before args s' = true := vx_ot_at hW0 hvm.symm (hgood _ List.mem_cons_self) hk
  have hini' : (Cond.initialized cls).before args s' = true := vx_ot_at hW0 hvm.symm (hgood _ (List.mem_cons_of_mem _ List.mem_cons_self)) hini
  have hU' : vx_Zq Bundle.tN "UNASSIGNED_STACK" Bundle.steD A s' s'.heap := by rw [hhp]; exact vx_Zq.moved hW0.alike (hU.kept hS.2.1)
  have hN' : vx_Zq Bundle.tN "SUPPRESSED_SENTINEL" Bundle.listD A s' s'.heap := by rw [hhp]; exact vx_Zq.moved hW0.alike (hN.kept hS.2.1)
  have h : ∀ w ∈ Bundle.ownAtoms own ic cls names, w.before args s' = true := vx_own hat' (vx_isRefq hU'.1) (vx_isRefq hN'.1) hU'.2.word hN'.2.word
  have hown' : s'.vm.findClass own = some m.cls := by rw [hvm]; exact hown
  have hins : (Cond.instantiable cls 6).before args s' = true := h _ (by simp [Bundle.ownAtoms])
  obtain ⟨vm₁, cX, kX, hfX, hkX, -, -, X₁, st1⟩ := Y.newCold hexec (own := own) (C := cls) (index := ik) (n := 6) hown' hk' hins hini'
    (g := F0 m pc ls rest) rfl (by rw [hb]; exact d0) (Nat.le_refl _) (Nat.le_refl _)
  generalize hT1 : (T.setVm vm₁).pushCell { cls := cX, slots := kX.instanceTypes.map defaultValue, vm := .none } = T1 at X₁ st1
  have hcat : (Value.ref T.heap.size).category = 1 := rfl
  have hcellA : T1.heap[T.heap.size]? = some (freshCell cX kX) := by rw [← hT1]; exact State.heap_pushCell_size _ _
  have d3' : decode c.code (pc + 3) = .ok (.dup, 1) := by rw [hb]; exact d3
  have d4' : decode c.code (pc + 4) = .ok (.ldc_w is, 3) := by rw [hb]; exact d4
  have hstr' : vk_R own is text sa s' := vk_R.warm hW0 hstr
  obtain ⟨U, hsteps, hrun, hend, hW, hsame, ce, hce, hO⟩ := X₁.ctorThrowS hexec htr (own := own) (cls := cls) (names := names) (ic := ic) hown' hcls hnames h (fun x hx => nomatch hx) hfX hkX hcellA (by rw [hhp, hT]; exact Nat.le_refl _) (msg := .ref sa) rfl
    (g := { method := m, pc := pc + 7, locals := ls, stack := .ref sa :: .ref T.heap.size :: .ref T.heap.size :: rest, locked := none }) rfl hsize rfl rfl (rest := rest) rfl
    (by rw [hb]; exact d7) (by rw [hb]; exact d10) hout hRframes (by simp only [List.map_cons, List.sum_cons, hcat]; omega) hlocks
  obtain ⟨f1, f2⟩ := vx_frame hsame
  rw [hhp] at f1 f2
  have hWs : s.WarmedH U.vm := State.WarmedH.trans hW0 hW
  have hcl : s.vm.findClass cls = some ce.cls := by
    have h9 := hO.cls
    rw [hvm] at h9
    exact h9
  have hall : s.sameButNew ({ U with vm := s.vm } : State) locs mc ms := by
    subst hA
    obtain ⟨e1, e2⟩ := hsame
    rw [State.setFrames_setFrames] at e1
    have h2 : (T.setVm s.vm).sameButNew ({ U with vm := s.vm } : State) [] (0 + 1) (0 + 6) := ⟨e1, e2⟩
    have h3 := X.same.trans h2
    rw [List.append_nil] at h3
    exact h3.mono hc hs
  refine ⟨U, ?_, .threw T.heap.size, hrun, hend, Or.inr ⟨T.heap.size, rfl, cls, ce, locs, hx U hWs.alike f1 (fun q hq => f2 q hq (fun z hz => nomatch hz)), hce, hO.vm, hcl, hWs, hall, hf⟩⟩
  refine st1 _ ?_
  show Steps p.tables e below (T1.setTop { method := m, pc := pc + 3, locals := ls, stack := .ref T.heap.size :: rest, locked := none }) _
  jvm_step X₁.here [X₁.here.top, hexec, d3', Value.category]
  exact X₁.ldcStringW hexec (own := own) (text := text) (index := is) (a := sa) hown' hstr'.1 hstr'.2
    (g := { method := m, pc := pc + 4, locals := ls, stack := .ref T.heap.size :: .ref T.heap.size :: rest, locked := none }) rfl d4' _ hsteps
end Ends
section Bodies
variable {l : Launch}
theorem vx_ofW {y : MethodName} {ws ws' : List Cond} {rm : Room} {Pc : Array Value → State → Prop} {Qc : Array Value → State → Outcome → State → Prop} {XC : String → State → State → Prop} {mc ms : Nat} {free : Addr → Prop} {cc : ByteArray} {maxL : Nat} {ret : Option FieldType}
    (hy : plainName y.cls = true) (hw : ws = Cond.code y cc maxL ret :: ws')
    (body : ∀ p e s m args below meth c s₁, BodyLoose p l y (headSpec ws rm) cc maxL ret e s m args below meth c s₁ → c.maxLocals = maxL → (∀ x ∈ c.exceptionTable.toList, False) → Pc args s →
      W p l e (headSpec ws rm).room s m args below meth c s.heap [] 0 0 (vx_MQ below Qc XC args s mc ms free) (entryFrame m args maxL)) : vx_Met l y ws rm Pc Qc XC mc ms free := by
  refine MetFree.of_bodyS (code := cc) (maxLocals := maxL) (ret := ret) hy ?_ ?_
  · intro args s m h hn
    obtain ⟨meth, c, h1, h2, h3, h4, h5, h6, -, -⟩ := Cond.code_spec hn (atoms_spec (ws := ws) h _ (by rw [hw]; exact List.mem_cons_self))
    exact ⟨meth, c, h1, h2, h3, h4, h5, h6⟩
  · intro p e s m args below meth c s₁ B hml hP _
    have hh0 : s₁.heap = s.heap := by rw [B.state]; rfl
    have ht : ∀ x ∈ c.exceptionTable.toList, False := by
      obtain ⟨meth9, c9, h1, h2, -, -, -, -, h7, -⟩ := Cond.code_spec B.named (atoms_spec (ws := ws) B.pre _ (by rw [hw]; exact List.mem_cons_self))
      cases Option.some.inj (h1.symm.trans B.method)
      cases Option.some.inj (h2.symm.trans (Stand.of_body B).code)
      intro x hx
      rw [Array.isEmpty_iff.mp h7] at hx
      cases hx
    obtain ⟨t, a1, o, b1, b2, b3⟩ := body p e s m args below meth c s₁ B hml ht hP s₁ hh0 (Stand.of_body B)
    exact ⟨t, o, a1, b1, b2, b3⟩
/-- the table of a body with handlers -/
theorem vx_table {p : Program} {x y : MethodName} {S : Spec} {cc bytes : ByteArray} {maxL maxL' : Nat} {ret ret' : Option FieldType} {e : Env} {s s₁ : State} {m : MethodId} {args : Array Value} {below : List Frame} {meth : Method} {c : Code} {hh : List (Nat × Nat × Nat × Nat)}
    (B : BodyLoose p l y S cc maxL ret e s m args below meth c s₁) (h : (Cond.codeWith y bytes maxL' ret' hh).before args s = true) : c.exceptionTable.toList = tableOf hh := by
  obtain ⟨m9, meth9, c9, hn9, h1, h2, -, -, h6, -⟩ := Cond.codeWith_spec h
  cases Option.some.inj (hn9.symm.trans B.named)
  cases Option.some.inj (h1.symm.trans B.method)
  cases Option.some.inj (h2.symm.trans (Stand.of_body B).code)
  rw [← h6, table_eq]
end Bodies
end VXA
/-! ===== END ===== -/
/-! ===== BEGIN a static call of a method with an exception table ===== -/
section VXS
variable {p : Program} {l : Launch} {e : Env} {R : Room} {s : State} {m : MethodId} {args : Array Value} {below : List Frame} {meth : Method} {c : Code} {T : State} {H : Heap} {locs : List Loc} {cells slots : Nat}
abbrev vx_CSW (R : Room) (s : State) (args : Array Value) (own : String) (index : Nat) (y : MethodName) (bytes : ByteArray) (maxL : Nat) (ret : Option FieldType) (hh : List (Nat × Nat × Nat × Nat)) (ws : List Cond) (rm : Room) (mc ms n : Nat) : Prop :=
  (rm.cells = mc ∧ rm.slots = ms ∧ rm.frames + 1 ≤ R.frames ∧ 8 + (maxL + 11) + rm.locals ≤ R.locals ∧ (∀ w ∈ ws, ∀ (a' : Array Value) (U : State), s.WarmedH U.vm → w.before a' U = true) ∧ Cond.codeWith y bytes maxL ret hh ∈ ws) ∧
  (Cond.codeWith y bytes maxL ret hh).before args s = true ∧ (Cond.initialized y.cls).before args s = true ∧ (y.cls ≠ "java/lang/invoke/MethodHandle" ∧ y.cls ≠ "java/lang/invoke/VarHandle") ∧
  (∀ sig, parseMethodDescriptor y.desc = some sig → n = sig.parameters.length) ∧ (Cond.methodLink own index y).before args s = true ∧ (Cond.static y).before args s = true
theorem vx_cwSW {own : String} {index maxL mc ms : Nat} {y : MethodName} {bytes : ByteArray} {ret : Option FieldType} {hh : List (Nat × Nat × Nat × Nat)} {Ts ws ws' : List Cond} {rm : Room} (n : Nat) (ht : ∀ w ∈ Ts, w.before args s = true) (hT : GoodIn Ts (va_wsS own index y ws)) (hw : ws = Cond.codeWith y bytes maxL ret hh :: ws') (hrc : rm.cells = mc) (hrs : rm.slots = ms)
    (hd : y.cls ≠ "java/lang/invoke/MethodHandle" ∧ y.cls ≠ "java/lang/invoke/VarHandle" ∧ (parseMethodDescriptor y.desc).map (fun d => d.parameters.length) = some n) (hR : rm.frames + 1 ≤ R.frames ∧ 8 + (maxL + 11) + rm.locals ≤ R.locals) :
    vx_CSW R s args own index y bytes maxL ret hh ws rm mc ms n := by
  have ok : ∀ w ∈ va_wsS own index y ws, w.before args s = true := fun w h => ht w (hT w h).1
  have hG : GoodIn Ts ws := fun w h => hT w (by unfold va_wsS; exact List.mem_append_right _ h)
  have hc : Cond.codeWith y bytes maxL ret hh ∈ ws := by rw [hw]; exact List.mem_cons_self
  refine ⟨⟨hrc, hrs, hR.1, hR.2, pay_in ht hG, hc⟩, ht _ (hG _ hc).1, ok _ (by simp [va_wsS]), ⟨hd.1, hd.2.1⟩, fun sig h => ?_, ok _ (by simp [va_wsS]), ok _ (by simp [va_wsS])⟩
  have h2 := hd.2.2
  rw [h] at h2
  exact (Option.some.inj h2).symm
theorem vx_callSW (X : Stand p l e R s m args below meth c T locs cells slots) (hexec : p.tables.exec = Jvm.exec) {own : String} {index : Nat} {y : MethodName} {bytes : ByteArray} {maxL : Nat} {ret : Option FieldType} {hh : List (Nat × Nat × Nat × Nat)}
    (hown : s.vm.findClass own = some m.cls) (hlink : (Cond.methodLink own index y).before args s = true) (hstat : (Cond.static y).before args s = true) (hinit : (Cond.initialized y.cls).before args s = true)
    (hcode : (Cond.codeWith y bytes maxL ret hh).before args s = true) (hy : y.cls ≠ "java/lang/invoke/MethodHandle" ∧ y.cls ≠ "java/lang/invoke/VarHandle")
    {W9 : Nat} {Pre : Pt → Array Value → Prop} {Post : Pt → Array Value → Option Value → Pt → Prop} (hK : Back l R p e below s args y 3 W9 Pre Post)
    {g : JFrame} (hg : g.method = m) (hsize : g.locals.size = c.maxLocals) {argsL rest : List Value} (hlen : ∀ sig, parseMethodDescriptor y.desc = some sig → argsL.length = sig.parameters.length)
    (hstack : g.stack = argsL.reverse ++ rest) (hW : 2 * g.monitorRoom + (rest.map fun v => v.category).sum ≤ W9) (hdg : decode c.code g.pc = .ok (.invokestatic index, 3))
    (hpre : ∀ vm₁, s.WarmedH vm₁ → Pre ⟨T.setVm vm₁, locs, cells, slots⟩ argsL.toArray) :
    ∃ (v : Option Value) (vm₁ : Vm) (B : Pt), s.WarmedH vm₁ ∧ Stand p l e R s m args below meth c B.U B.locs B.cells B.slots ∧ Post ⟨T.setVm vm₁, locs, cells, slots⟩ argsL.toArray v B ∧
      ∀ target, Steps p.tables e below (B.U.setTop { g with pc := g.pc + 3, stack := v.toList ++ rest }) target → Steps p.tables e below (T.setTop g) target := by
  obtain ⟨mk, methM, cM, hnamed, hmethM, -, -, -, -, -, -, hsigM⟩ := Cond.codeWith_spec hcode
  have hstatic : methM.isStatic = true := Cond.static_spec hnamed hmethM hstat
  obtain ⟨kP, hkP, -⟩ := className_of_methodNamed hnamed
  have hinitP : kP.init = .initialized := Cond.initialized_spec (findClass_of_methodNamed hnamed) hkP hinit
  obtain ⟨vm₁, X₁, hstep₁⟩ := X.invokestatic hexec hown hlink hnamed hmethM hstatic hkP hinitP hy (g := g) hg (argsL := argsL) (rest := rest) (hlen _ hsigM) hstack hdg
  obtain ⟨v, B, X', hpost, hsteps⟩ := hK m meth c ⟨T.setVm vm₁, locs, cells, slots⟩ { g with stack := rest } (.invokestatic index) mk argsL.toArray X₁ hg hsize hdg hW (X₁.named hnamed) (hpre vm₁ X₁.warmed)
  exact ⟨v, vm₁, B, X₁.warmed, X', hpost, fun target h => hstep₁ _ fun acts => by rw [doInvoke_state]; exact hsteps.trans h⟩
theorem vx_runSW {y : MethodName} {bytes cc : ByteArray} {maxL nL mc ms n index : Nat} {ret : Option FieldType} {hh : List (Nat × Nat × Nat × Nat)} {ws : List Cond} {rm : Room} {Pc : Array Value → State → Prop} {Qc : Array Value → State → Outcome → State → Prop} {free : Addr → Prop} {Ts : List Cond} {own : String} {As rest : List Value} {g : JFrame}
    (S : CallFix p m c cc nL s args Ts own) (hM : Met l y ws rm Pc Qc mc ms free) (cw : vx_CSW R s args own index y bytes maxL ret hh ws rm mc ms n) (hp : PreS s H Pc As)
    (hg : g.method = m) (hn : As.length = n) (hsize : g.locals.size = nL) (hstack : g.stack = As.reverse ++ rest) (hW : 2 * g.monitorRoom + (rest.map fun v => v.category).sum ≤ 8) (hdg : decode cc g.pc = .ok (.invokestatic index, 3)) (hf : cells + mc ≤ R.cells ∧ slots + ms ≤ R.slots) :
    va_Run p l e R s m args below meth c H locs cells slots mc ms g rest (Qc As.toArray) (free) := by
  obtain ⟨⟨hrc, hrs, hfr, hlo, hws, hcw⟩, hcode, hini, hy, hlen, hl, hstt⟩ := cw
  have hK : Back l R p e below s args y 3 8 (PreOf R mc ms Pc) (PostOf Qc mc ms free) := va_backW (hh := hh) (bytes := bytes) (maxL := maxL) (ret := ret) hM hp.1 hrc hrs hfr hlo hws hcw (fun a' U hW => word_at hW (Or.inl (by first | rfl | simp [Cond.onTables, Cond.keeps, Cond.steady])) hini)
  obtain ⟨hx, hb, hml, ho, -⟩ := S
  intro T hT X
  obtain ⟨v, vm₁, ⟨U', l2, c2, s2⟩, hW₁, X', ⟨g', mk, t, L, e1, e2, hq, h1, hL, h2, h3⟩, st⟩ := vx_callSW X hx (hh := hh) (bytes := bytes) (maxL := maxL) (ret := ret) ho hl hstt hini hcode hy hK hg (hsize.trans hml.symm) (argsL := As) (rest := rest) (fun sig h => hn.trans (hlen sig h)) hstack hW (by rw [hb]; exact hdg)
    (fun vm₁ hW₁ => ⟨hf.1, hf.2, hp.2 (T.setVm vm₁) hT hW₁⟩)
  dsimp only [Pt.U, Pt.locs, Pt.cells, Pt.slots] at X' e1 e2 h1 h2 h3 st
  subst h1; subst h2; subst h3
  exact ⟨v, (T.setVm vm₁).calling g' mk As.toArray, t, U', L, hT, X', hL, e1, e2, hq, st⟩
/-- not caught here, past rows that name other classes: it goes on to the caller -/
theorem vx_outP {p : Program} {l : Launch} {e : Env} {R : Room} {s : State} {m : MethodId} {args : Array Value} {below : List Frame} {meth : Method} {c : Code} {H : Heap} {locs : List Loc} {cells slots : Nat} {free : Addr → Prop} {ls : Array Slot} {rest : List Value} {Qc : Array Value → State → Outcome → State → Prop} {XC : String → State → State → Prop}
    {pc : Nat} {own E : String} {ce : Cell} {q : Addr} {mc ms : Nat} (hown : s.vm.findClass own = some m.cls) (hlocks : meth.locks = false)
    (hpass : ∀ z ∈ c.exceptionTable.toList, covers z pc = false ∨ (z.catchType ≠ 0 ∧ ∃ nm : String, (Cond.classLink own z.catchType nm).before args s = true ∧ va_Nc E nm s)) (hcell : H[q]? = some ce) (hv : ce.vm = .none) (hcl : s.vm.findClass E = some ce.cls)
    (hx : ∀ t : State, t.heap = H → s.vm.Alike t.vm → XC E s t) (hf : ∀ z ∈ locs, free z.base) (hc : cells ≤ mc) (hs : slots ≤ ms) :
    vx_W p l e R s m args below meth c H locs cells slots (vx_MQ below Qc XC args s mc ms free) (F0 m pc ls rest) q := by
  intro T hT X
  have hpl : e.platform.magicAccessors = ({} : Platform).magicAccessors := by rw [X.admits.platform]
  obtain ⟨vm', hW', X', st⟩ := X.outThrough hlocks q (g := F0 m pc ls rest) rfl rfl rfl (cell := ce) (by rw [hT]; exact hcell) (by rw [hv]; rfl)
    (by obtain ⟨k9, h9, -⟩ := Vm.findClass_spec hcl; exact ⟨k9, h9⟩) (fun z hz => by
      rcases hpass z hz with h | ⟨hz0, nm, hl1, hn1⟩
      · exact Or.inl h
      · obtain ⟨c6, hc6, hcl6⟩ := Cond.classLink_spec hown hl1 e.platform hpl
        obtain ⟨a8, b8, h1, h2, h3⟩ := hn1
        cases Option.some.inj (h1.symm.trans hcl)
        cases Option.some.inj (h2.symm.trans hc6)
        exact Or.inr ⟨hz0, _, hcl6, h3⟩)
  obtain ⟨g₀, hfr⟩ := X'.frames_eq
  have hcell9 : ((T.setVm vm').setFrames (.throwing q :: below)).heap[q]? = some ce := by
    show T.heap[q]? = some ce
    rw [hT]; exact hcell
  have hend : Ended ((T.setVm vm').setFrames (.throwing q :: below)) below (.threw q) := State.frames_setFrames _ (State.cur_lt_of_frames hfr)
  refine ⟨(T.setVm vm').setFrames (.throwing q :: below), ?_, .threw q, X'.here.running, hend, Or.inr ⟨q, rfl, E, ce, locs, hx _ hT (X'.ends _).1.alike, hcell9, hv, hcl, (X'.ends _).1, (X'.ends _).2.mono hc hs, hf⟩⟩
  rw [X.pushThrowing_eq]
  exact st
/-- a thing of a world lies in the heap -/
theorem vx_lt {D : va_G} {cl : List vw_C} {ws : va_W} {H1 : Heap} (h : va_P D cl ws H1) {k : Nat} {q : Nat × va_E} (hk : ws[k]? = some q) : q.1 < H1.size := (h k q hk).lt
end VXS
/-! ===== END ===== -/
/-! ===== BEGIN methods with a table of their own: called by a name, returning or throwing ===== -/
section VXH
/-! vx_backW, vx_callVX, vx_callSX, vx_callVW, vx_runVW, vx_runVX, vx_runSX, vx_ofWH follow the same proofs as their sisters above (Free/Laws.lean, Shelf42/LK1.lean); vx_outP calls Shelf42/NT130.lean (outThrough). -/
section
variable {l : Launch} {R : Room} {p : Program} {e : Env} {below : List Frame} {s : State} {sargs : Array Value} {y : MethodName} {len W9 : Nat}
theorem vx_backW {ws : List Cond} {rm : Room} {Pc : Array Value → State → Prop} {Qc : Array Value → State → Outcome → State → Prop} {XC : String → State → State → Prop} {mc ms : Nat} {free : Addr → Prop} {bytes : ByteArray} {maxL : Nat} {ret : Option FieldType} {hh : List (Nat × Nat × Nat × Nat)}
    (hM : vx_Met l y ws rm Pc Qc XC mc ms free) (hblind : FrameBlind Pc) (hrc : rm.cells = mc) (hrs : rm.slots = ms)
    (hframes : rm.frames + 1 ≤ R.frames) (hlocals : W9 + (maxL + 11) + rm.locals ≤ R.locals)
    (hws : ∀ w ∈ ws, ∀ a' U, s.WarmedH U.vm → w.before a' U = true) (hcode : Cond.codeWith y bytes maxL ret hh ∈ ws) (hinit : ∀ a' U, s.WarmedH U.vm → (Cond.initialized y.cls).before a' U = true) :
    vx_Back l R p e below s sargs y len W9 (PreOf R mc ms Pc) (PostOf Qc mc ms free) (vx_Post XC mc ms free) := by
  intro m meth c A g ig mk a X hg hsize hdg hW hn hp
  have h1 : (headSpec ws rm).pre.before a A.U = true := atoms_intro fun w hw => hws w hw _ _ X.warmed
  have h2 : (Cond.codeWith y bytes maxL ret hh).before a A.U = true := hws _ hcode _ _ X.warmed
  have h3 : (Cond.initialized y.cls).before a A.U = true := hinit _ _ X.warmed
  have h4 : A.cells + (headSpec ws rm).room.cells ≤ R.cells := by rw [show (headSpec ws rm).room.cells = mc from hrc]; exact hp.1
  have h5 : A.slots + (headSpec ws rm).room.slots ≤ R.slots := by rw [show (headSpec ws rm).room.slots = ms from hrs]; exact hp.2.1
  have hPc : Pc a (A.U.calling g mk a) := hblind _ _ _ _ hp.2.2
  obtain ⟨U, Ls, c0, s0⟩ := A
  dsimp only [Pt.U, Pt.locs, Pt.cells, Pt.slots] at h1 h2 h3 h4 h5 X hn hPc ⊢
  obtain ⟨m9, methY, cY, hn9, hmY, hcY, -, hlY, -⟩ := Cond.codeWith_spec h2
  cases Option.some.inj (hn9.symm.trans hn)
  obtain ⟨kY, hkY, -⟩ := className_of_methodNamed hn
  have hinitY : kY.init = .initialized := Cond.initialized_spec (findClass_of_methodNamed hn) hkY h3
  have h : At U g.method c below := by rw [hg]; exact X.here
  have hlocals9 : W9 + (maxL + 11) + (headSpec ws rm).room.locals ≤ R.locals := hlocals
  have happ : (headSpec ws rm).appliesLoose y e.platform (U.calling g mk a) = true :=
    Spec.appliesLoose_calling (g := g) h hdg hn hkY hinitY
      (X.room_calling (g := g) (R' := (headSpec ws rm).room) hsize hmY hcY hframes (by rw [hlY]; omega) h4 h5) h1
  obtain ⟨mid, hmid⟩ := h.above
  have hfr : (U.setTop g).frames = (.java g :: mid) ++ below := by rw [State.frames_setTop' g h.top, hmid]; rfl
  obtain ⟨o, s₂, hsteps, -, hend, hq⟩ := Steps.callFree hM p X.admits X.cas X.clock (acts := []) hfr happ hPc trivial
  have hq' : vx_Q Qc XC mc ms free a (U.calling g mk a) o s₂ := hq
  rw [State.frames_setTop' g h.top] at hend
  obtain ⟨g₀, hg0⟩ := Option.isSome_iff_exists.mp h.top
  obtain ⟨r, hr⟩ := State.topJava?_eq_some.mp hg0
  have hr' : (({ U with heap := s₂.heap, slotsUsed := s₂.slotsUsed } : State).setVm s₂.vm).frames = .java g₀ :: r := hr
  rcases hq' with ⟨hqc, L, hfe, hL⟩ | ⟨q, rfl, E, ce, L, hx, hce, hcv, hcl, hW₂, hsm, hL⟩
  · obtain ⟨⟨v, rfl⟩, hW₂, e2, q2, q3, q4, q5, q6⟩ := id hfe
    have e3 : s₂ = ({ (U.calling g mk a).setFrames s₂.frames with heap := s₂.heap, slotsUsed := s₂.slotsUsed } : State).setVm s₂.vm := by
      have : s₂ = ({ s₂ with vm := (U.calling g mk a).vm } : State).setVm s₂.vm := rfl
      rw [e2] at this
      exact this
    obtain ⟨c₂, i₂, len₂, hc₂, hd₂, hf₂⟩ := hend
    have hW' : U.WarmedH s₂.vm := hW₂
    have hcc : c₂ = c := by
      have h1 : s₂.code? g.method = U.code? g.method := by
        rw [State.code?_eq, State.code?_eq, hW'.alike.method?]
      exact Option.some.inj (hc₂.symm.trans (h1.trans h.code))
    subst hcc
    have hlen : len₂ = len := by rw [hdg] at hd₂; cases hd₂; rfl
    subst hlen
    have hs₂ : s₂ = (({ U with heap := s₂.heap, slotsUsed := s₂.slotsUsed } : State).setVm s₂.vm).setTop { g with pc := g.pc + len₂, stack := v.toList ++ g.stack } := by
      refine e3.trans ?_
      rw [hf₂, State.calling_eq h.top, State.setFrames_setFrames, State.setTop_of_frames _ hr', hr]
      rfl
    have hsame : U.sameButNew ({ U with heap := s₂.heap, slotsUsed := s₂.slotsUsed } : State) L mc ms := by
      refine ⟨?_, q2, q3, q4, q5, q6⟩
      obtain ⟨t, ht, -⟩ := State.frames_cons hr
      show ({ U with heap := s₂.heap, slotsUsed := s₂.slotsUsed } : State) = { U.setFrames U.frames with heap := s₂.heap, slotsUsed := s₂.slotsUsed }
      rw [State.setFrames_self ht]
    subst hg
    refine Or.inl ⟨v, ⟨(({ U with heap := s₂.heap, slotsUsed := s₂.slotsUsed } : State).setVm s₂.vm), Ls ++ L, c0 + mc, s0 + ms⟩,
      ⟨X.admits, X.cas, X.clock, X.frames, X.room, X.hears, X.method, X.code, (X.here.setHeapUsed s₂.heap s₂.slotsUsed).setVm hW'.alike, X.tail, State.WarmedH.trans X.warmed hW', X.limits, X.bytes, X.same.trans (hsame.setVm s.vm)⟩,
      ⟨g, mk, s₂, L, rfl, rfl, hqc, rfl, hL, rfl, rfl⟩, ?_⟩
    show Steps p.tables e below _ ((({ U with heap := s₂.heap, slotsUsed := s₂.slotsUsed } : State).setVm s₂.vm).setTop { g with pc := g.pc + len₂, stack := v.toList ++ g.stack })
    rw [← hs₂]
    exact hsteps
  · obtain ⟨e2, q2, q3, q4, q5, q6⟩ := id hsm
    have e3 : s₂ = ({ (U.calling g mk a).setFrames s₂.frames with heap := s₂.heap, slotsUsed := s₂.slotsUsed } : State).setVm s₂.vm := by
      have : s₂ = ({ s₂ with vm := (U.calling g mk a).vm } : State).setVm s₂.vm := rfl
      rw [e2] at this
      exact this
    have hf₂ : s₂.frames = .throwing q :: .java g :: U.frames.tail := hend
    have hW' : U.WarmedH s₂.vm := hW₂
    have hs₂ : s₂ = ((({ U with heap := s₂.heap, slotsUsed := s₂.slotsUsed } : State).setVm s₂.vm).setTop g).pushFrame (.throwing q) := by
      refine e3.trans ?_
      rw [hf₂, State.calling_eq h.top, State.setFrames_setFrames, State.pushFrame, State.frames_setTop _ hr', State.setTop_of_frames _ hr', State.setFrames_setFrames, hr]
      rfl
    have hsame : U.sameButNew ({ U with heap := s₂.heap, slotsUsed := s₂.slotsUsed } : State) L mc ms := by
      refine ⟨?_, q2, q3, q4, q5, q6⟩
      obtain ⟨t, ht, -⟩ := State.frames_cons hr
      show ({ U with heap := s₂.heap, slotsUsed := s₂.slotsUsed } : State) = { U.setFrames U.frames with heap := s₂.heap, slotsUsed := s₂.slotsUsed }
      rw [State.setFrames_self ht]
    subst hg
    refine Or.inr ⟨q, ⟨(({ U with heap := s₂.heap, slotsUsed := s₂.slotsUsed } : State).setVm s₂.vm), Ls ++ L, c0 + mc, s0 + ms⟩,
      ⟨X.admits, X.cas, X.clock, X.frames, X.room, X.hears, X.method, X.code, (X.here.setHeapUsed s₂.heap s₂.slotsUsed).setVm hW'.alike, X.tail, State.WarmedH.trans X.warmed hW', X.limits, X.bytes, X.same.trans (hsame.setVm s.vm)⟩,
      ⟨g, mk, s₂, L, E, ce, rfl, rfl, hx, hce, hcv, hcl, rfl, hL, rfl, rfl⟩, ?_⟩
    show Steps p.tables e below _ (((({ U with heap := s₂.heap, slotsUsed := s₂.slotsUsed } : State).setVm s₂.vm).setTop g).pushFrame (.throwing q))
    rw [← hs₂]
    exact hsteps
end
variable {p : Program} {l : Launch} {e : Env} {R : Room} {s : State} {m : MethodId} {args : Array Value} {below : List Frame} {meth : Method} {c : Code} {T : State} {H : Heap} {locs : List Loc} {cells slots : Nat}
theorem vx_callVX (X : Stand p l e R s m args below meth c T locs cells slots) (hexec : p.tables.exec = Jvm.exec) {own C : String} {index : Nat} {y : MethodName} {bytes : ByteArray} {maxL : Nat} {ret : Option FieldType} {hh : List (Nat × Nat × Nat × Nat)}
    (hown : s.vm.findClass own = some m.cls) (hlink : (Cond.methodLink own index y).before args s = true) (hinst : (Cond.instanceMethod y).before args s = true) (hsel : (Cond.selects C y y).before args s = true)
    (hcode : (Cond.codeWith y bytes maxL ret hh).before args s = true) (hy : y.cls ≠ "java/lang/invoke/MethodHandle" ∧ y.cls ≠ "java/lang/invoke/VarHandle")
    {W9 : Nat} {Pre : Pt → Array Value → Prop} {Post : Pt → Array Value → Option Value → Pt → Prop} {PostX : Pt → Array Value → Addr → Pt → Prop} (hK : vx_Back l R p e below s args y 3 W9 Pre Post PostX)
    {b : Addr} {cellB : Cell} (hcell : T.heap[b]? = some cellB) (hobj : cellB.vm.isStatics = false) (hcls : s.vm.findClass C = some cellB.cls)
    {g : JFrame} (hg : g.method = m) (hsize : g.locals.size = c.maxLocals) {argsL rest : List Value} (hlen : ∀ sig, parseMethodDescriptor y.desc = some sig → argsL.length = sig.parameters.length)
    (hstack : g.stack = argsL.reverse ++ .ref b :: rest) (hW : 2 * g.monitorRoom + (rest.map fun v => v.category).sum ≤ W9) (hdg : decode c.code g.pc = .ok (.invokevirtual index, 3))
    (hpre : ∀ vm₁, s.WarmedH vm₁ → Pre ⟨T.setVm vm₁, locs, cells, slots⟩ (Value.ref b :: argsL).toArray) :
    (∃ (v : Option Value) (vm₁ : Vm) (B : Pt), s.WarmedH vm₁ ∧ Stand p l e R s m args below meth c B.U B.locs B.cells B.slots ∧ Post ⟨T.setVm vm₁, locs, cells, slots⟩ (Value.ref b :: argsL).toArray v B ∧
      ∀ target, Steps p.tables e below (B.U.setTop { g with pc := g.pc + 3, stack := v.toList ++ rest }) target → Steps p.tables e below (T.setTop g) target) ∨
    (∃ (q : Addr) (vm₁ : Vm) (B : Pt), s.WarmedH vm₁ ∧ Stand p l e R s m args below meth c B.U B.locs B.cells B.slots ∧ PostX ⟨T.setVm vm₁, locs, cells, slots⟩ (Value.ref b :: argsL).toArray q B ∧
      Steps p.tables e below (T.setTop g) ((B.U.setTop { g with stack := rest }).pushFrame (.throwing q))) := by
  obtain ⟨mk, methM, hnamed, hmethM, hstM, habM⟩ := Cond.instanceMethod_spec hinst
  obtain ⟨m8, methM', cM, hn8, hmethM', -, -, -, -, -, -, hsigM⟩ := Cond.codeWith_spec hcode
  cases Option.some.inj (hn8.symm.trans hnamed)
  cases hmethM.symm.trans hmethM'
  obtain ⟨c2, r2, m2, q1, q2, q3, q4, kP, hkP, hkPi⟩ := Cond.selects_spec hsel
  cases hcls.symm.trans q1
  cases (State.methodFound?_of_named hnamed hy).symm.trans q2
  cases hnamed.symm.trans q3
  have hselP : selectMethod e.platform s.vm cellB.cls mk = .method mk := by rw [Launch.admits_selectMethod X.admits]; exact q4
  obtain ⟨vm₁, X₁, hstep₁⟩ := X.invokevirtual hexec hown hlink hnamed hmethM hstM hkP hkPi hy (a := b) (cell := cellB) hcell
    (fun z h => by rw [h] at hobj; cases hobj) hselP hmethM habM hkP hkPi (g := g) hg (argsL := argsL) (rest := rest) (hlen _ hsigM) hstack hdg
  rcases hK m meth c ⟨T.setVm vm₁, locs, cells, slots⟩ { g with stack := rest } (.invokevirtual index) mk (Value.ref b :: argsL).toArray X₁ hg hsize hdg hW (X₁.named hnamed) (hpre vm₁ X₁.warmed) with ⟨v, B, X', hpost, hsteps⟩ | ⟨q, B, X', hpost, hsteps⟩
  · exact Or.inl ⟨v, vm₁, B, X₁.warmed, X', hpost, fun target h => hstep₁ _ fun acts => by rw [doInvoke_state]; exact hsteps.trans h⟩
  · exact Or.inr ⟨q, vm₁, B, X₁.warmed, X', hpost, hstep₁ _ fun acts => by rw [doInvoke_state]; exact hsteps⟩
theorem vx_callSX (X : Stand p l e R s m args below meth c T locs cells slots) (hexec : p.tables.exec = Jvm.exec) {own : String} {index : Nat} {y : MethodName} {bytes : ByteArray} {maxL : Nat} {ret : Option FieldType} {hh : List (Nat × Nat × Nat × Nat)}
    (hown : s.vm.findClass own = some m.cls) (hlink : (Cond.methodLink own index y).before args s = true) (hstat : (Cond.static y).before args s = true) (hinit : (Cond.initialized y.cls).before args s = true)
    (hcode : (Cond.codeWith y bytes maxL ret hh).before args s = true) (hy : y.cls ≠ "java/lang/invoke/MethodHandle" ∧ y.cls ≠ "java/lang/invoke/VarHandle")
    {W9 : Nat} {Pre : Pt → Array Value → Prop} {Post : Pt → Array Value → Option Value → Pt → Prop} {PostX : Pt → Array Value → Addr → Pt → Prop} (hK : vx_Back l R p e below s args y 3 W9 Pre Post PostX)
    {g : JFrame} (hg : g.method = m) (hsize : g.locals.size = c.maxLocals) {argsL rest : List Value} (hlen : ∀ sig, parseMethodDescriptor y.desc = some sig → argsL.length = sig.parameters.length)
    (hstack : g.stack = argsL.reverse ++ rest) (hW : 2 * g.monitorRoom + (rest.map fun v => v.category).sum ≤ W9) (hdg : decode c.code g.pc = .ok (.invokestatic index, 3))
    (hpre : ∀ vm₁, s.WarmedH vm₁ → Pre ⟨T.setVm vm₁, locs, cells, slots⟩ argsL.toArray) :
    (∃ (v : Option Value) (vm₁ : Vm) (B : Pt), s.WarmedH vm₁ ∧ Stand p l e R s m args below meth c B.U B.locs B.cells B.slots ∧ Post ⟨T.setVm vm₁, locs, cells, slots⟩ argsL.toArray v B ∧
      ∀ target, Steps p.tables e below (B.U.setTop { g with pc := g.pc + 3, stack := v.toList ++ rest }) target → Steps p.tables e below (T.setTop g) target) ∨
    (∃ (q : Addr) (vm₁ : Vm) (B : Pt), s.WarmedH vm₁ ∧ Stand p l e R s m args below meth c B.U B.locs B.cells B.slots ∧ PostX ⟨T.setVm vm₁, locs, cells, slots⟩ argsL.toArray q B ∧
      Steps p.tables e below (T.setTop g) ((B.U.setTop { g with stack := rest }).pushFrame (.throwing q))) := by
  obtain ⟨mk, methM, cM, hnamed, hmethM, -, -, -, -, -, -, hsigM⟩ := Cond.codeWith_spec hcode
  have hstatic : methM.isStatic = true := Cond.static_spec hnamed hmethM hstat
  obtain ⟨kP, hkP, -⟩ := className_of_methodNamed hnamed
  have hinitP : kP.init = .initialized := Cond.initialized_spec (findClass_of_methodNamed hnamed) hkP hinit
  obtain ⟨vm₁, X₁, hstep₁⟩ := X.invokestatic hexec hown hlink hnamed hmethM hstatic hkP hinitP hy (g := g) hg (argsL := argsL) (rest := rest) (hlen _ hsigM) hstack hdg
  rcases hK m meth c ⟨T.setVm vm₁, locs, cells, slots⟩ { g with stack := rest } (.invokestatic index) mk argsL.toArray X₁ hg hsize hdg hW (X₁.named hnamed) (hpre vm₁ X₁.warmed) with ⟨v, B, X', hpost, hsteps⟩ | ⟨q, B, X', hpost, hsteps⟩
  · exact Or.inl ⟨v, vm₁, B, X₁.warmed, X', hpost, fun target h => hstep₁ _ fun acts => by rw [doInvoke_state]; exact hsteps.trans h⟩
  · exact Or.inr ⟨q, vm₁, B, X₁.warmed, X', hpost, hstep₁ _ fun acts => by rw [doInvoke_state]; exact hsteps⟩
theorem vx_callVW (X : Stand p l e R s m args below meth c T locs cells slots) (hexec : p.tables.exec = Jvm.exec) {own C : String} {index : Nat} {y : MethodName} {bytes : ByteArray} {maxL : Nat} {ret : Option FieldType} {hh : List (Nat × Nat × Nat × Nat)}
    (hown : s.vm.findClass own = some m.cls) (hlink : (Cond.methodLink own index y).before args s = true) (hinst : (Cond.instanceMethod y).before args s = true) (hsel : (Cond.selects C y y).before args s = true)
    (hcode : (Cond.codeWith y bytes maxL ret hh).before args s = true) (hy : y.cls ≠ "java/lang/invoke/MethodHandle" ∧ y.cls ≠ "java/lang/invoke/VarHandle")
    {W9 : Nat} {Pre : Pt → Array Value → Prop} {Post : Pt → Array Value → Option Value → Pt → Prop} (hK : Back l R p e below s args y 3 W9 Pre Post)
    {b : Addr} {cellB : Cell} (hcell : T.heap[b]? = some cellB) (hobj : cellB.vm.isStatics = false) (hcls : s.vm.findClass C = some cellB.cls)
    {g : JFrame} (hg : g.method = m) (hsize : g.locals.size = c.maxLocals) {argsL rest : List Value} (hlen : ∀ sig, parseMethodDescriptor y.desc = some sig → argsL.length = sig.parameters.length)
    (hstack : g.stack = argsL.reverse ++ .ref b :: rest) (hW : 2 * g.monitorRoom + (rest.map fun v => v.category).sum ≤ W9) (hdg : decode c.code g.pc = .ok (.invokevirtual index, 3))
    (hpre : ∀ vm₁, s.WarmedH vm₁ → Pre ⟨T.setVm vm₁, locs, cells, slots⟩ (Value.ref b :: argsL).toArray) :
    ∃ (v : Option Value) (vm₁ : Vm) (B : Pt), s.WarmedH vm₁ ∧ Stand p l e R s m args below meth c B.U B.locs B.cells B.slots ∧ Post ⟨T.setVm vm₁, locs, cells, slots⟩ (Value.ref b :: argsL).toArray v B ∧
      ∀ target, Steps p.tables e below (B.U.setTop { g with pc := g.pc + 3, stack := v.toList ++ rest }) target → Steps p.tables e below (T.setTop g) target := by
  obtain ⟨mk, methM, hnamed, hmethM, hstM, habM⟩ := Cond.instanceMethod_spec hinst
  obtain ⟨m8, methM', cM, hn8, hmethM', -, -, -, -, -, -, hsigM⟩ := Cond.codeWith_spec hcode
  cases Option.some.inj (hn8.symm.trans hnamed)
  cases hmethM.symm.trans hmethM'
  obtain ⟨c2, r2, m2, q1, q2, q3, q4, kP, hkP, hkPi⟩ := Cond.selects_spec hsel
  cases hcls.symm.trans q1
  cases (State.methodFound?_of_named hnamed hy).symm.trans q2
  cases hnamed.symm.trans q3
  have hselP : selectMethod e.platform s.vm cellB.cls mk = .method mk := by rw [Launch.admits_selectMethod X.admits]; exact q4
  obtain ⟨vm₁, X₁, hstep₁⟩ := X.invokevirtual hexec hown hlink hnamed hmethM hstM hkP hkPi hy (a := b) (cell := cellB) hcell
    (fun z h => by rw [h] at hobj; cases hobj) hselP hmethM habM hkP hkPi (g := g) hg (argsL := argsL) (rest := rest) (hlen _ hsigM) hstack hdg
  obtain ⟨v, B, X', hpost, hsteps⟩ := hK m meth c ⟨T.setVm vm₁, locs, cells, slots⟩ { g with stack := rest } (.invokevirtual index) mk (Value.ref b :: argsL).toArray X₁ hg hsize hdg hW (X₁.named hnamed) (hpre vm₁ X₁.warmed)
  exact ⟨v, vm₁, B, X₁.warmed, X', hpost, fun target h => hstep₁ _ fun acts => by rw [doInvoke_state]; exact hsteps.trans h⟩
abbrev vx_CVW (R : Room) (s : State) (args : Array Value) (own C : String) (index : Nat) (y : MethodName) (bytes : ByteArray) (maxL : Nat) (ret : Option FieldType) (hh : List (Nat × Nat × Nat × Nat)) (ws : List Cond) (rm : Room) (mc ms n : Nat) : Prop :=
  (rm.cells = mc ∧ rm.slots = ms ∧ rm.frames + 1 ≤ R.frames ∧ 8 + (maxL + 11) + rm.locals ≤ R.locals ∧ (∀ w ∈ ws, ∀ (a' : Array Value) (U : State), s.WarmedH U.vm → w.before a' U = true) ∧ Cond.codeWith y bytes maxL ret hh ∈ ws) ∧
  (Cond.codeWith y bytes maxL ret hh).before args s = true ∧ (Cond.initialized y.cls).before args s = true ∧ (y.cls ≠ "java/lang/invoke/MethodHandle" ∧ y.cls ≠ "java/lang/invoke/VarHandle") ∧
  (∀ sig, parseMethodDescriptor y.desc = some sig → n = sig.parameters.length) ∧ (Cond.methodLink own index y).before args s = true ∧ (Cond.instanceMethod y).before args s = true ∧ (Cond.selects C y y).before args s = true
theorem vx_cwVW {own C : String} {index maxL mc ms : Nat} {y : MethodName} {bytes : ByteArray} {ret : Option FieldType} {hh : List (Nat × Nat × Nat × Nat)} {Ts ws ws' : List Cond} {rm : Room} (n : Nat) (ht : ∀ w ∈ Ts, w.before args s = true) (hT : GoodIn Ts (wsV own index C y ws)) (hw : ws = Cond.codeWith y bytes maxL ret hh :: ws') (hrc : rm.cells = mc) (hrs : rm.slots = ms)
    (hd : y.cls = C ∧ y.cls ≠ "java/lang/invoke/MethodHandle" ∧ y.cls ≠ "java/lang/invoke/VarHandle" ∧ (parseMethodDescriptor y.desc).map (fun d => d.parameters.length) = some n) (hR : rm.frames + 1 ≤ R.frames ∧ 8 + (maxL + 11) + rm.locals ≤ R.locals) :
    vx_CVW R s args own C index y bytes maxL ret hh ws rm mc ms n := by
  obtain ⟨hC, hd⟩ := hd
  subst hC
  have ok : ∀ w ∈ wsV own index y.cls y ws, w.before args s = true := fun w h => ht w (hT w h).1
  have hG : GoodIn Ts ws := fun w h => hT w (by unfold wsV; exact List.mem_append_right _ h)
  have hc : Cond.codeWith y bytes maxL ret hh ∈ ws := by rw [hw]; exact List.mem_cons_self
  refine ⟨⟨hrc, hrs, hR.1, hR.2, pay_in ht hG, hc⟩, ht _ (hG _ hc).1, ok _ (by simp [wsV]), ⟨hd.1, hd.2.1⟩, fun sig h => ?_, ok _ (by simp [wsV]), ok _ (by simp [wsV]), ok _ (by simp [wsV])⟩
  have h2 := hd.2.2
  rw [h] at h2
  exact (Option.some.inj h2).symm
theorem vx_runVW {y : MethodName} {bytes cc : ByteArray} {maxL nL mc ms n index : Nat} {ret : Option FieldType} {hh : List (Nat × Nat × Nat × Nat)} {ws : List Cond} {rm : Room} {Pc : Array Value → State → Prop} {Qc : Array Value → State → Outcome → State → Prop} {free : Addr → Prop} {Ts : List Cond} {own C : String} {b : Addr} {As rest : List Value} {g : JFrame}
    (S : CallFix p m c cc nL s args Ts own) (hM : Met l y ws rm Pc Qc mc ms free) (cw : vx_CVW R s args own C index y bytes maxL ret hh ws rm mc ms n) (hp : PreV s H C b Pc As)
    (hg : g.method = m) (hn : As.length = n) (hsize : g.locals.size = nL) (hstack : g.stack = As.reverse ++ .ref b :: rest) (hW : 2 * g.monitorRoom + (rest.map fun v => v.category).sum ≤ 8) (hdg : decode cc g.pc = .ok (.invokevirtual index, 3)) (hf : cells + mc ≤ R.cells ∧ slots + ms ≤ R.slots) :
    va_Run p l e R s m args below meth c H locs cells slots mc ms g rest (Qc (Value.ref b :: As).toArray) free := by
  obtain ⟨⟨hrc, hrs, hfr, hlo, hws, hcw⟩, hcode, hini, hy, hlen, hl, hin, hse⟩ := cw
  have hK : Back l R p e below s args y 3 8 (PreOf R mc ms Pc) (PostOf Qc mc ms free) := va_backW (hh := hh) (bytes := bytes) (maxL := maxL) (ret := ret) hM hp.1 hrc hrs hfr hlo hws hcw (fun a' U hW => word_at hW (Or.inl (by first | rfl | simp [Cond.onTables, Cond.keeps, Cond.steady])) hini)
  obtain ⟨hx, hb, hml, ho, -⟩ := S
  obtain ⟨-, ⟨cellB, hcB, hoB, hclB⟩, hPc⟩ := hp
  intro T hT X
  obtain ⟨v, vm₁, ⟨U', l2, c2, s2⟩, hW₁, X', ⟨g', mk, t, L, e1, e2, hq, h1, hL, h2, h3⟩, st⟩ := vx_callVW X hx (C := C) (hh := hh) (bytes := bytes) (maxL := maxL) (ret := ret) ho hl hin hse hcode hy hK (by rw [hT]; exact hcB) hoB hclB hg (hsize.trans hml.symm) (argsL := As) (rest := rest) (fun sig h => hn.trans (hlen sig h)) hstack hW (by rw [hb]; exact hdg)
    (fun vm₁ hW₁ => ⟨hf.1, hf.2, hPc (T.setVm vm₁) hT hW₁⟩)
  dsimp only [Pt.U, Pt.locs, Pt.cells, Pt.slots] at X' e1 e2 h1 h2 h3 st
  subst h1; subst h2; subst h3
  exact ⟨v, (T.setVm vm₁).calling g' mk (Value.ref b :: As).toArray, t, U', L, hT, X', hL, e1, e2, hq, st⟩
section
variable {y : MethodName} {bytes cc : ByteArray} {maxL nL mc ms n index : Nat} {ret : Option FieldType} {ws : List Cond} {rm : Room} {Pc : Array Value → State → Prop} {Qc : Array Value → State → Outcome → State → Prop} {XC : String → State → State → Prop} {free : Addr → Prop} {Ts : List Cond} {own C : String} {b : Addr} {As rest : List Value} {g : JFrame}
theorem vx_runVX {hh : List (Nat × Nat × Nat × Nat)} (S : CallFix p m c cc nL s args Ts own) (hM : vx_Met l y ws rm Pc Qc XC mc ms free) (cw : vx_CVW R s args own C index y bytes maxL ret hh ws rm mc ms n) (hp : PreV s H C b Pc As)
    (hg : g.method = m) (hn : As.length = n) (hsize : g.locals.size = nL) (hstack : g.stack = As.reverse ++ .ref b :: rest) (hW : 2 * g.monitorRoom + (rest.map fun v => v.category).sum ≤ 8) (hdg : decode cc g.pc = .ok (.invokevirtual index, 3)) (hf : cells + mc ≤ R.cells ∧ slots + ms ≤ R.slots) :
    vx_Run p l e R s m args below meth c H locs cells slots mc ms g rest (Qc (Value.ref b :: As).toArray) XC free := by
  obtain ⟨⟨hrc, hrs, hfr, hlo, hws, hcw⟩, hcode, hini, hy, hlen, hl, hin, hse⟩ := cw
  have hK : vx_Back l R p e below s args y 3 8 (PreOf R mc ms Pc) (PostOf Qc mc ms free) (vx_Post XC mc ms free) := vx_backW (hh := hh) (bytes := bytes) (maxL := maxL) (ret := ret) hM hp.1 hrc hrs hfr hlo hws hcw (fun a' U hW => word_at hW (Or.inl (by first | rfl | simp [Cond.onTables, Cond.keeps, Cond.steady])) hini)
  obtain ⟨hx, hb, hml, ho, -⟩ := S
  obtain ⟨-, ⟨cellB, hcB, hoB, hclB⟩, hPc⟩ := hp
  intro T hT X
  rcases vx_callVX X hx (C := C) (hh := hh) (bytes := bytes) (maxL := maxL) (ret := ret) ho hl hin hse hcode hy hK (by rw [hT]; exact hcB) hoB hclB hg (hsize.trans hml.symm) (argsL := As) (rest := rest) (fun sig h => hn.trans (hlen sig h)) hstack hW (by rw [hb]; exact hdg)
    (fun vm₁ hW₁ => ⟨hf.1, hf.2, hPc (T.setVm vm₁) hT hW₁⟩) with ⟨v, vm₁, ⟨U', l2, c2, s2⟩, hW₁, X', ⟨g', mk, t, L, e1, e2, hq, h1, hL, h2, h3⟩, st⟩ | ⟨q, vm₁, ⟨U', l2, c2, s2⟩, hW₁, X', ⟨g', mk, t, L, E, ce, e1, e2, hq, hce, hcv, hcl, h1, hL, h2, h3⟩, st⟩
  · dsimp only [Pt.U, Pt.locs, Pt.cells, Pt.slots] at X' e1 e2 h1 h2 h3 st
    subst h1; subst h2; subst h3
    exact Or.inl ⟨v, (T.setVm vm₁).calling g' mk (Value.ref b :: As).toArray, t, U', L, hT, X', hL, e1, e2, hq, st⟩
  · dsimp only [Pt.U, Pt.locs, Pt.cells, Pt.slots] at X' e1 e2 h1 h2 h3 st hcl
    subst h1; subst h2; subst h3
    exact Or.inr ⟨q, (T.setVm vm₁).calling g' mk (Value.ref b :: As).toArray, t, U', L, E, ce, hT, X', hL, e1, e2, hq, hce, hcv, vx_cls hW₁ hcl, st⟩
theorem vx_runSX {hh : List (Nat × Nat × Nat × Nat)} (S : CallFix p m c cc nL s args Ts own) (hM : vx_Met l y ws rm Pc Qc XC mc ms free) (cw : vx_CSW R s args own index y bytes maxL ret hh ws rm mc ms n) (hp : PreS s H Pc As)
    (hg : g.method = m) (hn : As.length = n) (hsize : g.locals.size = nL) (hstack : g.stack = As.reverse ++ rest) (hW : 2 * g.monitorRoom + (rest.map fun v => v.category).sum ≤ 8) (hdg : decode cc g.pc = .ok (.invokestatic index, 3)) (hf : cells + mc ≤ R.cells ∧ slots + ms ≤ R.slots) :
    vx_Run p l e R s m args below meth c H locs cells slots mc ms g rest (Qc As.toArray) XC free := by
  obtain ⟨⟨hrc, hrs, hfr, hlo, hws, hcw⟩, hcode, hini, hy, hlen, hl, hstt⟩ := cw
  have hK : vx_Back l R p e below s args y 3 8 (PreOf R mc ms Pc) (PostOf Qc mc ms free) (vx_Post XC mc ms free) := vx_backW (hh := hh) (bytes := bytes) (maxL := maxL) (ret := ret) hM hp.1 hrc hrs hfr hlo hws hcw (fun a' U hW => word_at hW (Or.inl (by first | rfl | simp [Cond.onTables, Cond.keeps, Cond.steady])) hini)
  obtain ⟨hx, hb, hml, ho, -⟩ := S
  intro T hT X
  rcases vx_callSX X hx (hh := hh) (bytes := bytes) (maxL := maxL) (ret := ret) ho hl hstt hini hcode hy hK hg (hsize.trans hml.symm) (argsL := As) (rest := rest) (fun sig h => hn.trans (hlen sig h)) hstack hW (by rw [hb]; exact hdg)
    (fun vm₁ hW₁ => ⟨hf.1, hf.2, hp.2 (T.setVm vm₁) hT hW₁⟩) with ⟨v, vm₁, ⟨U', l2, c2, s2⟩, hW₁, X', ⟨g', mk, t, L, e1, e2, hq, h1, hL, h2, h3⟩, st⟩ | ⟨q, vm₁, ⟨U', l2, c2, s2⟩, hW₁, X', ⟨g', mk, t, L, E, ce, e1, e2, hq, hce, hcv, hcl, h1, hL, h2, h3⟩, st⟩
  · dsimp only [Pt.U, Pt.locs, Pt.cells, Pt.slots] at X' e1 e2 h1 h2 h3 st
    subst h1; subst h2; subst h3
    exact Or.inl ⟨v, (T.setVm vm₁).calling g' mk As.toArray, t, U', L, hT, X', hL, e1, e2, hq, st⟩
  · dsimp only [Pt.U, Pt.locs, Pt.cells, Pt.slots] at X' e1 e2 h1 h2 h3 st hcl
    subst h1; subst h2; subst h3
    exact Or.inr ⟨q, (T.setVm vm₁).calling g' mk As.toArray, t, U', L, E, ce, hT, X', hL, e1, e2, hq, hce, hcv, vx_cls hW₁ hcl, st⟩
end
end VXH
theorem vx_ofWH {l : Launch} {y : MethodName} {ws ws' : List Cond} {rm : Room} {Pc : Array Value → State → Prop} {Qc : Array Value → State → Outcome → State → Prop} {XC : String → State → State → Prop} {mc ms : Nat} {free : Addr → Prop} {cc : ByteArray} {maxL : Nat} {ret : Option FieldType} {hh : List (Nat × Nat × Nat × Nat)}
    (hy : plainName y.cls = true) (hw : ws = Cond.codeWith y cc maxL ret hh :: ws')
    (body : ∀ p e s m args below meth c s₁, BodyLoose p l y (headSpec ws rm) cc maxL ret e s m args below meth c s₁ → c.maxLocals = maxL → Pc args s →
      W p l e (headSpec ws rm).room s m args below meth c s.heap [] 0 0 (vx_MQ below Qc XC args s mc ms free) (entryFrame m args maxL)) : vx_Met l y ws rm Pc Qc XC mc ms free := by
  refine MetFree.of_bodyS (code := cc) (maxLocals := maxL) (ret := ret) hy ?_ ?_
  · intro args s m h hn
    obtain ⟨m9, meth, c, hn9, h1, h2, h3, h4, -, h5, h6, -⟩ := Cond.codeWith_spec (atoms_spec (ws := ws) h _ (by rw [hw]; exact List.mem_cons_self))
    cases hn.symm.trans hn9
    exact ⟨meth, c, h1, h2, h3, h4, h5, h6⟩
  · intro p e s m args below meth c s₁ B hml hP _
    have hh0 : s₁.heap = s.heap := by rw [B.state]; rfl
    obtain ⟨t, a1, o, b1, b2, b3⟩ := body p e s m args below meth c s₁ B hml hP s₁ hh0 (Stand.of_body B)
    exact ⟨t, o, a1, b1, b2, b3⟩
/-! ===== END ===== -/
end
section
/-! ===== BEGIN printed: names, fields, word lists, decode rows ===== -/
def RX0 : String := "OdometerRing$Cells"
def TX0 : u_T := fun k => match k with
  | 0 => ("OdometerRing$Cells", "slots", "I", false)
  | 1 => ("OdometerRing$Cells", "limit", "I", false)
  | 2 => ("OdometerRing$Cells", "numbers", "[I", true)
  | _ => ("OdometerRing$Cells", "wears", "[I", true)
def tyX0 : Nat → FieldType := fun k => match k with
  | 0 => .int
  | 1 => .int
  | 2 => .array .int
  | _ => .array .int
abbrev wsX00 : List Cond := u_ws RX0 TX0 4
theorem nmX0 : ∀ a, a < 4 → ∀ b, b < 4 → a ≠ b → (TX0 a).2.1 ≠ (TX0 b).2.1 := by decide +kernel
theorem tyX0_ok : ∀ k, k < 4 → parseFieldDescriptor (TX0 k).2.2.1 = some (tyX0 k) := by decide +kernel
abbrev cX0_init : ByteArray := prog_2_method_1_code
def yX0_init : MethodName := ⟨RX0, "<init>", "()V"⟩
abbrev cX0_makeNew : ByteArray := prog_2_method_2_code
def yX0_makeNew : MethodName := ⟨RX0, "makeNew", "(II)V"⟩
abbrev cX0_becomeLike : ByteArray := prog_2_method_3_code
def yX0_becomeLike : MethodName := ⟨RX0, "becomeLike", "(LOdometerRing$Cells;)V"⟩
abbrev cX0_hasSlot : ByteArray := prog_2_method_4_code
def yX0_hasSlot : MethodName := ⟨RX0, "hasSlot", "(I)Z"⟩
abbrev cX0_slotBehind : ByteArray := prog_2_method_5_code
def yX0_slotBehind : MethodName := ⟨RX0, "slotBehind", "(I)I"⟩
abbrev cX0_numberIn : ByteArray := prog_2_method_6_code
def yX0_numberIn : MethodName := ⟨RX0, "numberIn", "(II)I"⟩
abbrev cX0_wearOf : ByteArray := prog_2_method_7_code
def yX0_wearOf : MethodName := ⟨RX0, "wearOf", "(II)I"⟩
abbrev cX0_isStuck : ByteArray := prog_2_method_8_code
def yX0_isStuck : MethodName := ⟨RX0, "isStuck", "(II)Z"⟩
abbrev cX0_wearOfSlot : ByteArray := prog_2_method_9_code
def yX0_wearOfSlot : MethodName := ⟨RX0, "wearOfSlot", "(I)I"⟩
abbrev cX0_spokenBy : ByteArray := prog_2_method_10_code
def yX0_spokenBy : MethodName := ⟨RX0, "spokenBy", "(I)I"⟩
abbrev cX0_readableIn : ByteArray := prog_2_method_11_code
def yX0_readableIn : MethodName := ⟨RX0, "readableIn", "(I)I"⟩
abbrev cX0_write : ByteArray := prog_2_method_12_code
def yX0_write : MethodName := ⟨RX0, "write", "(III)V"⟩
abbrev cX0_renew : ByteArray := prog_2_method_13_code
def yX0_renew : MethodName := ⟨RX0, "renew", "(I)I"⟩
abbrev cX0_wearGap : ByteArray := prog_2_method_14_code
def yX0_wearGap : MethodName := ⟨RX0, "wearGap", "()I"⟩
abbrev cX0_slotOfGreatest : ByteArray := prog_2_method_15_code
def yX0_slotOfGreatest : MethodName := ⟨RX0, "slotOfGreatest", "()I"⟩
def RX1 : String := "OdometerRing$History"
def TX1 : u_T := fun k => match k with
  | 0 => ("OdometerRing$History", "count", "I", false)
  | 1 => ("OdometerRing$History", "next", "I", false)
  | _ => ("OdometerRing$History", "shelf", "LOdometerRing$Shelf;", true)
def tyX1 : Nat → FieldType := fun k => match k with
  | 0 => .int
  | 1 => .int
  | _ => .object "OdometerRing$Shelf"
abbrev wsX10 : List Cond := u_ws RX1 TX1 3
theorem nmX1 : ∀ a, a < 3 → ∀ b, b < 3 → a ≠ b → (TX1 a).2.1 ≠ (TX1 b).2.1 := by decide +kernel
theorem tyX1_ok : ∀ k, k < 3 → parseFieldDescriptor (TX1 k).2.2.1 = some (tyX1 k) := by decide +kernel
abbrev cX1_init : ByteArray := prog_3_method_1_code
def yX1_init : MethodName := ⟨RX1, "<init>", "()V"⟩
abbrev cX1_remember : ByteArray := prog_3_method_2_code
def yX1_remember : MethodName := ⟨RX1, "remember", "(LOdometerRing$Odometer;)V"⟩
abbrev cX1_takeBack : ByteArray := prog_3_method_3_code
def yX1_takeBack : MethodName := ⟨RX1, "takeBack", "(LOdometerRing$Odometer;)I"⟩
abbrev cX1_forgetAll : ByteArray := prog_3_method_4_code
def yX1_forgetAll : MethodName := ⟨RX1, "forgetAll", "()V"⟩
def RX2 : String := "OdometerRing$Odometer"
def TX2 : u_T := fun k => match k with
  | 0 => ("OdometerRing$Odometer", "cells", "LOdometerRing$Cells;", true)
  | 1 => ("OdometerRing$Odometer", "services", "LOdometerRing$Services;", true)
  | 2 => ("OdometerRing$Odometer", "step", "I", false)
  | 3 => ("OdometerRing$Odometer", "on", "Z", false)
  | 4 => ("OdometerRing$Odometer", "dead", "Z", false)
  | 5 => ("OdometerRing$Odometer", "distance", "I", false)
  | 6 => ("OdometerRing$Odometer", "stored", "I", false)
  | 7 => ("OdometerRing$Odometer", "current", "I", false)
  | 8 => ("OdometerRing$Odometer", "travelled", "I", false)
  | 9 => ("OdometerRing$Odometer", "writes", "I", false)
  | 10 => ("OdometerRing$Odometer", "cuts", "I", false)
  | 11 => ("OdometerRing$Odometer", "cutIn", "I", false)
  | 12 => ("OdometerRing$Odometer", "cutKind", "I", false)
  | 13 => ("OdometerRing$Odometer", "lastSlot", "I", false)
  | 14 => ("OdometerRing$Odometer", "lastCell", "I", false)
  | 15 => ("OdometerRing$Odometer", "lastKind", "I", false)
  | _ => ("OdometerRing$Odometer", "lastTried", "I", false)
def tyX2 : Nat → FieldType := fun k => match k with
  | 0 => .object "OdometerRing$Cells"
  | 1 => .object "OdometerRing$Services"
  | 2 => .int
  | 3 => .boolean
  | 4 => .boolean
  | 5 => .int
  | 6 => .int
  | 7 => .int
  | 8 => .int
  | 9 => .int
  | 10 => .int
  | 11 => .int
  | 12 => .int
  | 13 => .int
  | 14 => .int
  | 15 => .int
  | _ => .int
abbrev wsX20 : List Cond := u_ws RX2 TX2 17
theorem nmX2 : ∀ a, a < 17 → ∀ b, b < 17 → a ≠ b → (TX2 a).2.1 ≠ (TX2 b).2.1 := by decide +kernel
theorem tyX2_ok : ∀ k, k < 17 → parseFieldDescriptor (TX2 k).2.2.1 = some (tyX2 k) := by decide +kernel
abbrev cX2_init : ByteArray := prog_4_method_1_code
def yX2_init : MethodName := ⟨RX2, "<init>", "()V"⟩
abbrev cX2_makeNew : ByteArray := prog_4_method_2_code
def yX2_makeNew : MethodName := ⟨RX2, "makeNew", "(III)V"⟩
abbrev cX2_becomeLike : ByteArray := prog_4_method_3_code
def yX2_becomeLike : MethodName := ⟨RX2, "becomeLike", "(LOdometerRing$Odometer;)V"⟩
abbrev cX2_tellOfDriving : ByteArray := prog_4_method_4_code
def yX2_tellOfDriving : MethodName := ⟨RX2, "tellOfDriving", "(I)I"⟩
abbrev cX2_tellOfMemory : ByteArray := prog_4_method_5_code
def yX2_tellOfMemory : MethodName := ⟨RX2, "tellOfMemory", "(I)I"⟩
abbrev cX2_driveOn : ByteArray := prog_4_method_6_code
def yX2_driveOn : MethodName := ⟨RX2, "driveOn", "(I)I"⟩
abbrev cX2_driveTillDead : ByteArray := prog_4_method_7_code
def yX2_driveTillDead : MethodName := ⟨RX2, "driveTillDead", "()I"⟩
abbrev cX2_storeDistance : ByteArray := prog_4_method_8_code
def yX2_storeDistance : MethodName := ⟨RX2, "storeDistance", "()V"⟩
abbrev cX2_writeSlot : ByteArray := prog_4_method_9_code
def yX2_writeSlot : MethodName := ⟨RX2, "writeSlot", "(II)V"⟩
abbrev cX2_leftByCut : ByteArray := prog_4_method_10_code
def yX2_leftByCut : MethodName := ⟨RX2, "leftByCut", "(I)I"⟩
abbrev cX2_losePower : ByteArray := prog_4_method_11_code
def yX2_losePower : MethodName := ⟨RX2, "losePower", "(III)V"⟩
abbrev cX2_switchOn : ByteArray := prog_4_method_12_code
def yX2_switchOn : MethodName := ⟨RX2, "switchOn", "()I"⟩
abbrev cX2_setCut : ByteArray := prog_4_method_13_code
def yX2_setCut : MethodName := ⟨RX2, "setCut", "(II)I"⟩
abbrev cX2_noteService : ByteArray := prog_4_method_14_code
def yX2_noteService : MethodName := ⟨RX2, "noteService", "(II)I"⟩
abbrev cX2_canReplace : ByteArray := prog_4_method_15_code
def yX2_canReplace : MethodName := ⟨RX2, "canReplace", "(I)Z"⟩
abbrev cX2_obey : ByteArray := prog_4_method_16_code
def yX2_obey : MethodName := ⟨RX2, "obey", "(III)Z"⟩
abbrev cX2_obeyGroup : ByteArray := prog_4_method_17_code
def yX2_obeyGroup : MethodName := ⟨RX2, "obeyGroup", "(I)Z"⟩
abbrev cX2_takeStep : ByteArray := prog_4_method_18_code
def yX2_takeStep : MethodName := ⟨RX2, "takeStep", "(I)Z"⟩
abbrev cX2_playRound : ByteArray := prog_4_method_19_code
def yX2_playRound : MethodName := ⟨RX2, "playRound", "(I)V"⟩
def RX3 : String := "OdometerRing$Services"
def TX3 : u_T := fun k => match k with
  | 0 => ("OdometerRing$Services", "count", "I", false)
  | 1 => ("OdometerRing$Services", "codes", "[I", true)
  | _ => ("OdometerRing$Services", "noted", "[I", true)
def tyX3 : Nat → FieldType := fun k => match k with
  | 0 => .int
  | 1 => .array .int
  | _ => .array .int
abbrev wsX30 : List Cond := u_ws RX3 TX3 3
theorem nmX3 : ∀ a, a < 3 → ∀ b, b < 3 → a ≠ b → (TX3 a).2.1 ≠ (TX3 b).2.1 := by decide +kernel
theorem tyX3_ok : ∀ k, k < 3 → parseFieldDescriptor (TX3 k).2.2.1 = some (tyX3 k) := by decide +kernel
abbrev cX3_init : ByteArray := prog_5_method_1_code
def yX3_init : MethodName := ⟨RX3, "<init>", "()V"⟩
abbrev cX3_becomeLike : ByteArray := prog_5_method_2_code
def yX3_becomeLike : MethodName := ⟨RX3, "becomeLike", "(LOdometerRing$Services;)V"⟩
abbrev cX3_codeAt : ByteArray := prog_5_method_3_code
def yX3_codeAt : MethodName := ⟨RX3, "codeAt", "(I)I"⟩
abbrev cX3_notedAt : ByteArray := prog_5_method_4_code
def yX3_notedAt : MethodName := ⟨RX3, "notedAt", "(I)I"⟩
abbrev cX3_placeOf : ByteArray := prog_5_method_5_code
def yX3_placeOf : MethodName := ⟨RX3, "placeOf", "(II)I"⟩
abbrev cX3_hasRoomFor : ByteArray := prog_5_method_6_code
def yX3_hasRoomFor : MethodName := ⟨RX3, "hasRoomFor", "(II)Z"⟩
abbrev cX3_addLast : ByteArray := prog_5_method_7_code
def yX3_addLast : MethodName := ⟨RX3, "addLast", "(III)V"⟩
abbrev cX3_takeOut : ByteArray := prog_5_method_8_code
def yX3_takeOut : MethodName := ⟨RX3, "takeOut", "(I)I"⟩
abbrev cX3_placeOfSmallest : ByteArray := prog_5_method_9_code
def yX3_placeOfSmallest : MethodName := ⟨RX3, "placeOfSmallest", "()I"⟩
abbrev cX3_put : ByteArray := prog_5_method_10_code
def yX3_put : MethodName := ⟨RX3, "put", "(III)V"⟩
def RX4 : String := "OdometerRing$Shelf"
def TX4 : u_T := fun k => match k with
  | 0 => ("OdometerRing$Shelf", "states", "[LOdometerRing$Odometer;", true)
  | _ => ("OdometerRing$Shelf", "full", "[Z", true)
def tyX4 : Nat → FieldType := fun k => match k with
  | 0 => .array (.object "OdometerRing$Odometer")
  | _ => .array .boolean
abbrev wsX40 : List Cond := u_ws RX4 TX4 2
theorem nmX4 : ∀ a, a < 2 → ∀ b, b < 2 → a ≠ b → (TX4 a).2.1 ≠ (TX4 b).2.1 := by decide +kernel
theorem tyX4_ok : ∀ k, k < 2 → parseFieldDescriptor (TX4 k).2.2.1 = some (tyX4 k) := by decide +kernel
abbrev cX4_init : ByteArray := prog_6_method_1_code
def yX4_init : MethodName := ⟨RX4, "<init>", "(I)V"⟩
abbrev cX4_isFull : ByteArray := prog_6_method_2_code
def yX4_isFull : MethodName := ⟨RX4, "isFull", "(I)Z"⟩
abbrev cX4_emptyAll : ByteArray := prog_6_method_3_code
def yX4_emptyAll : MethodName := ⟨RX4, "emptyAll", "()V"⟩
abbrev cX4_put : ByteArray := prog_6_method_4_code
def yX4_put : MethodName := ⟨RX4, "put", "(ILOdometerRing$Odometer;)V"⟩
abbrev cX4_take : ByteArray := prog_6_method_5_code
def yX4_take : MethodName := ⟨RX4, "take", "(ILOdometerRing$Odometer;)V"⟩
def RX5 : String := "OdometerRing$Story"
def TX5 : u_T := fun k => match k with
  | 0 => ("OdometerRing$Story", "length", "I", false)
  | 1 => ("OdometerRing$Story", "slots", "I", false)
  | 2 => ("OdometerRing$Story", "step", "I", false)
  | 3 => ("OdometerRing$Story", "limit", "I", false)
  | 4 => ("OdometerRing$Story", "letter", "I", false)
  | 5 => ("OdometerRing$Story", "first", "I", false)
  | 6 => ("OdometerRing$Story", "second", "I", false)
  | 7 => ("OdometerRing$Story", "cursor", "I", false)
  | _ => ("OdometerRing$Story", "signs", "[I", true)
def tyX5 : Nat → FieldType := fun k => match k with
  | 0 => .int
  | 1 => .int
  | 2 => .int
  | 3 => .int
  | 4 => .int
  | 5 => .int
  | 6 => .int
  | 7 => .int
  | _ => .array .int
abbrev wsX50 : List Cond := u_ws RX5 TX5 9
theorem nmX5 : ∀ a, a < 9 → ∀ b, b < 9 → a ≠ b → (TX5 a).2.1 ≠ (TX5 b).2.1 := by decide +kernel
theorem tyX5_ok : ∀ k, k < 9 → parseFieldDescriptor (TX5 k).2.2.1 = some (tyX5 k) := by decide +kernel
abbrev cX5_init : ByteArray := prog_7_method_1_code
def yX5_init : MethodName := ⟨RX5, "<init>", "()V"⟩
abbrev cX5_add : ByteArray := prog_7_method_2_code
def yX5_add : MethodName := ⟨RX5, "add", "(I)I"⟩
abbrev cX5_empty : ByteArray := prog_7_method_3_code
def yX5_empty : MethodName := ⟨RX5, "empty", "()I"⟩
abbrev cX5_errorAt : ByteArray := prog_7_method_4_code
def yX5_errorAt : MethodName := ⟨RX5, "errorAt", "()I"⟩
abbrev cX5_isAtEnd : ByteArray := prog_7_method_5_code
def yX5_isAtEnd : MethodName := ⟨RX5, "isAtEnd", "()Z"⟩
abbrev cX5_readHead : ByteArray := prog_7_method_6_code
def yX5_readHead : MethodName := ⟨RX5, "readHead", "()Z"⟩
abbrev cX5_readCommand : ByteArray := prog_7_method_7_code
def yX5_readCommand : MethodName := ⟨RX5, "readCommand", "()Z"⟩
abbrev cX5_readNumber : ByteArray := prog_7_method_8_code
def yX5_readNumber : MethodName := ⟨RX5, "readNumber", "(III)I"⟩
abbrev cX5_signHere : ByteArray := prog_7_method_9_code
def yX5_signHere : MethodName := ⟨RX5, "signHere", "()I"⟩
def RX6 : String := "OdometerRing"
def TX6 : u_T := fun k => match k with
  | 0 => ("OdometerRing", "story", "LOdometerRing$Story;", true)
  | 1 => ("OdometerRing", "state", "LOdometerRing$Odometer;", true)
  | 2 => ("OdometerRing", "trial", "LOdometerRing$Odometer;", true)
  | 3 => ("OdometerRing", "history", "LOdometerRing$History;", true)
  | _ => ("OdometerRing", "saved", "LOdometerRing$Shelf;", true)
def tyX6 : Nat → FieldType := fun k => match k with
  | 0 => .object "OdometerRing$Story"
  | 1 => .object "OdometerRing$Odometer"
  | 2 => .object "OdometerRing$Odometer"
  | 3 => .object "OdometerRing$History"
  | _ => .object "OdometerRing$Shelf"
abbrev wsX60 : List Cond := u_ws RX6 TX6 5
theorem nmX6 : ∀ a, a < 5 → ∀ b, b < 5 → a ≠ b → (TX6 a).2.1 ≠ (TX6 b).2.1 := by decide +kernel
theorem tyX6_ok : ∀ k, k < 5 → parseFieldDescriptor (TX6 k).2.2.1 = some (tyX6 k) := by decide +kernel
abbrev cX6_init : ByteArray := prog_1_method_1_code
def yX6_init : MethodName := ⟨RX6, "<init>", "()V"⟩
abbrev cX6_append : ByteArray := prog_1_method_2_code
def yX6_append : MethodName := ⟨RX6, "append", "(I)I"⟩
abbrev cX6_clearText : ByteArray := prog_1_method_3_code
def yX6_clearText : MethodName := ⟨RX6, "clearText", "()I"⟩
abbrev cX6_errorPosition : ByteArray := prog_1_method_4_code
def yX6_errorPosition : MethodName := ⟨RX6, "errorPosition", "()I"⟩
abbrev cX6_load : ByteArray := prog_1_method_5_code
def yX6_load : MethodName := ⟨RX6, "load", "()I"⟩
abbrev cX6_about : ByteArray := prog_1_method_6_code
def yX6_about : MethodName := ⟨RX6, "about", "(I)I"⟩
abbrev cX6_cell : ByteArray := prog_1_method_7_code
def yX6_cell : MethodName := ⟨RX6, "cell", "(III)I"⟩
abbrev cX6_says : ByteArray := prog_1_method_8_code
def yX6_says : MethodName := ⟨RX6, "says", "(I)I"⟩
abbrev cX6_whySilent : ByteArray := prog_1_method_9_code
def yX6_whySilent : MethodName := ⟨RX6, "whySilent", "(I)I"⟩
abbrev cX6_share : ByteArray := prog_1_method_10_code
def yX6_share : MethodName := ⟨RX6, "share", "(I)I"⟩
abbrev cX6_serviceAt : ByteArray := prog_1_method_11_code
def yX6_serviceAt : MethodName := ⟨RX6, "serviceAt", "(II)I"⟩
abbrev cX6_lastCut : ByteArray := prog_1_method_12_code
def yX6_lastCut : MethodName := ⟨RX6, "lastCut", "(I)I"⟩
abbrev cX6_drive : ByteArray := prog_1_method_13_code
def yX6_drive : MethodName := ⟨RX6, "drive", "(I)I"⟩
abbrev cX6_cut : ByteArray := prog_1_method_14_code
def yX6_cut : MethodName := ⟨RX6, "cut", "(II)I"⟩
abbrev cX6_start : ByteArray := prog_1_method_15_code
def yX6_start : MethodName := ⟨RX6, "start", "()I"⟩
abbrev cX6_service : ByteArray := prog_1_method_16_code
def yX6_service : MethodName := ⟨RX6, "service", "(II)I"⟩
abbrev cX6_forget : ByteArray := prog_1_method_17_code
def yX6_forget : MethodName := ⟨RX6, "forget", "(II)I"⟩
abbrev cX6_setStep : ByteArray := prog_1_method_18_code
def yX6_setStep : MethodName := ⟨RX6, "setStep", "(I)I"⟩
abbrev cX6_replace : ByteArray := prog_1_method_19_code
def yX6_replace : MethodName := ⟨RX6, "replace", "(I)I"⟩
abbrev cX6_undo : ByteArray := prog_1_method_20_code
def yX6_undo : MethodName := ⟨RX6, "undo", "()I"⟩
abbrev cX6_afterCut : ByteArray := prog_1_method_21_code
def yX6_afterCut : MethodName := ⟨RX6, "afterCut", "(II)I"⟩
abbrev cX6_worstLoss : ByteArray := prog_1_method_22_code
def yX6_worstLoss : MethodName := ⟨RX6, "worstLoss", "()I"⟩
abbrev cX6_lasts : ByteArray := prog_1_method_23_code
def yX6_lasts : MethodName := ⟨RX6, "lasts", "(I)I"⟩
abbrev cX6_dueIn : ByteArray := prog_1_method_24_code
def yX6_dueIn : MethodName := ⟨RX6, "dueIn", "(III)I"⟩
abbrev cX6_dueFirst : ByteArray := prog_1_method_25_code
def yX6_dueFirst : MethodName := ⟨RX6, "dueFirst", "()I"⟩
abbrev cX6_runScript : ByteArray := prog_1_method_26_code
def yX6_runScript : MethodName := ⟨RX6, "runScript", "(IJ)I"⟩
abbrev cX6_simulate : ByteArray := prog_1_method_27_code
def yX6_simulate : MethodName := ⟨RX6, "simulate", "(JI)I"⟩
abbrev cX6_save : ByteArray := prog_1_method_28_code
def yX6_save : MethodName := ⟨RX6, "save", "(I)I"⟩
abbrev cX6_restore : ByteArray := prog_1_method_29_code
def yX6_restore : MethodName := ⟨RX6, "restore", "(I)I"⟩
abbrev cX6_toldAfterCut : ByteArray := prog_1_method_30_code
def yX6_toldAfterCut : MethodName := ⟨RX6, "toldAfterCut", "(II)I"⟩
abbrev cX6_isTenths : ByteArray := prog_1_method_31_code
def yX6_isTenths : MethodName := ⟨RX6, "isTenths", "(I)Z"⟩
abbrev cX6_isCut : ByteArray := prog_1_method_32_code
def yX6_isCut : MethodName := ⟨RX6, "isCut", "(II)Z"⟩
abbrev cX6_isService : ByteArray := prog_1_method_33_code
def yX6_isService : MethodName := ⟨RX6, "isService", "(II)Z"⟩
abbrev cX6_isStep : ByteArray := prog_1_method_34_code
def yX6_isStep : MethodName := ⟨RX6, "isStep", "(I)Z"⟩
abbrev cX6_lessGroups : ByteArray := prog_1_method_35_code
def yX6_lessGroups : MethodName := ⟨RX6, "lessGroups", "(JI)J"⟩
def RX7 : String := "OdometerRingModel"
def TX7 : u_T := fun k => match k with
  | 0 => ("OdometerRingModel", "refusal", "I", false)
  | 1 => ("OdometerRingModel", "script", "[I", true)
  | 2 => ("OdometerRingModel", "scriptSize", "I", false)
  | 3 => ("OdometerRingModel", "spot", "I", false)
  | 4 => ("OdometerRingModel", "isGood", "Z", false)
  | 5 => ("OdometerRingModel", "readMany", "I", false)
  | 6 => ("OdometerRingModel", "readStep", "I", false)
  | 7 => ("OdometerRingModel", "readLimit", "I", false)
  | 8 => ("OdometerRingModel", "now", "[I", true)
  | 9 => ("OdometerRingModel", "trial", "[I", true)
  | 10 => ("OdometerRingModel", "diary", "[I", true)
  | 11 => ("OdometerRingModel", "acts", "I", false)
  | 12 => ("OdometerRingModel", "kept", "[I", true)
  | _ => ("OdometerRingModel", "isKept", "[Z", true)
def tyX7 : Nat → FieldType := fun k => match k with
  | 0 => .int
  | 1 => .array .int
  | 2 => .int
  | 3 => .int
  | 4 => .boolean
  | 5 => .int
  | 6 => .int
  | 7 => .int
  | 8 => .array .int
  | 9 => .array .int
  | 10 => .array .int
  | 11 => .int
  | 12 => .array .int
  | _ => .array .boolean
abbrev wsX70 : List Cond := u_ws RX7 TX7 14
theorem nmX7 : ∀ a, a < 14 → ∀ b, b < 14 → a ≠ b → (TX7 a).2.1 ≠ (TX7 b).2.1 := by decide +kernel
theorem tyX7_ok : ∀ k, k < 14 → parseFieldDescriptor (TX7 k).2.2.1 = some (tyX7 k) := by decide +kernel
abbrev cX7_init : ByteArray := prog_9_method_1_code
def yX7_init : MethodName := ⟨RX7, "<init>", "()V"⟩
abbrev cX7_thrown : ByteArray := prog_9_method_2_code
def yX7_thrown : MethodName := ⟨RX7, "thrown", "()I"⟩
abbrev cX7_refused : ByteArray := prog_9_method_3_code
def yX7_refused : MethodName := ⟨RX7, "refused", "(I)Z"⟩
abbrev cX7_in : ByteArray := prog_9_method_4_code
def yX7_in : MethodName := ⟨RX7, "in", "(JJJ)Z"⟩
abbrev cX7_copy : ByteArray := prog_9_method_5_code
def yX7_copy : MethodName := ⟨RX7, "copy", "([II[III)V"⟩
abbrev cX7_tenTo : ByteArray := prog_9_method_6_code
def yX7_tenTo : MethodName := ⟨RX7, "tenTo", "(I)J"⟩
abbrev cX7_clean : ByteArray := prog_9_method_7_code
def yX7_clean : MethodName := ⟨RX7, "clean", "([IIII)V"⟩
abbrev cX7_note : ByteArray := prog_9_method_8_code
def yX7_note : MethodName := ⟨RX7, "note", "()V"⟩
abbrev cX7_begin : ByteArray := prog_9_method_9_code
def yX7_begin : MethodName := ⟨RX7, "begin", "()V"⟩
abbrev cX7_at : ByteArray := prog_9_method_10_code
def yX7_at : MethodName := ⟨RX7, "at", "(II)I"⟩
abbrev cX7_saysOf : ByteArray := prog_9_method_11_code
def yX7_saysOf : MethodName := ⟨RX7, "saysOf", "([II)I"⟩
abbrev cX7_isStuck : ByteArray := prog_9_method_12_code
def yX7_isStuck : MethodName := ⟨RX7, "isStuck", "([III)Z"⟩
abbrev cX7_wearOf : ByteArray := prog_9_method_13_code
def yX7_wearOf : MethodName := ⟨RX7, "wearOf", "([II)I"⟩
abbrev cX7_wearApart : ByteArray := prog_9_method_14_code
def yX7_wearApart : MethodName := ⟨RX7, "wearApart", "([I)I"⟩
abbrev cX7_writes : ByteArray := prog_9_method_15_code
def yX7_writes : MethodName := ⟨RX7, "writes", "([IIIII)Z"⟩
abbrev cX7_store : ByteArray := prog_9_method_16_code
def yX7_store : MethodName := ⟨RX7, "store", "([I)V"⟩
abbrev cX7_go : ByteArray := prog_9_method_17_code
def yX7_go : MethodName := ⟨RX7, "go", "([II)I"⟩
abbrev cX7_powerUp : ByteArray := prog_9_method_18_code
def yX7_powerUp : MethodName := ⟨RX7, "powerUp", "([I)V"⟩
abbrev cX7_serviceOf : ByteArray := prog_9_method_19_code
def yX7_serviceOf : MethodName := ⟨RX7, "serviceOf", "([III)I"⟩
abbrev cX7_drop : ByteArray := prog_9_method_20_code
def yX7_drop : MethodName := ⟨RX7, "drop", "([II)V"⟩
abbrev cX7_canServe : ByteArray := prog_9_method_21_code
def yX7_canServe : MethodName := ⟨RX7, "canServe", "([III)Z"⟩
abbrev cX7_serve : ByteArray := prog_9_method_22_code
def yX7_serve : MethodName := ⟨RX7, "serve", "([III)I"⟩
abbrev cX7_canReplace : ByteArray := prog_9_method_23_code
def yX7_canReplace : MethodName := ⟨RX7, "canReplace", "([II)Z"⟩
abbrev cX7_renew : ByteArray := prog_9_method_24_code
def yX7_renew : MethodName := ⟨RX7, "renew", "([II)I"⟩
abbrev cX7_append : ByteArray := prog_9_method_25_code
def yX7_append : MethodName := ⟨RX7, "append", "(I)I"⟩
abbrev cX7_clearText : ByteArray := prog_9_method_26_code
def yX7_clearText : MethodName := ⟨RX7, "clearText", "()I"⟩
abbrev cX7_isNext : ByteArray := prog_9_method_27_code
def yX7_isNext : MethodName := ⟨RX7, "isNext", "(I)Z"⟩
abbrev cX7_accept : ByteArray := prog_9_method_28_code
def yX7_accept : MethodName := ⟨RX7, "accept", "(Z)V"⟩
abbrev cX7_digit : ByteArray := prog_9_method_29_code
def yX7_digit : MethodName := ⟨RX7, "digit", "(II)I"⟩
abbrev cX7_two : ByteArray := prog_9_method_30_code
def yX7_two : MethodName := ⟨RX7, "two", "(II)I"⟩
abbrev cX7_three : ByteArray := prog_9_method_31_code
def yX7_three : MethodName := ⟨RX7, "three", "(I)I"⟩
abbrev cX7_head : ByteArray := prog_9_method_32_code
def yX7_head : MethodName := ⟨RX7, "head", "()V"⟩
abbrev cX7_command : ByteArray := prog_9_method_33_code
def yX7_command : MethodName := ⟨RX7, "command", "(Z)Z"⟩
abbrev cX7_readText : ByteArray := prog_9_method_34_code
def yX7_readText : MethodName := ⟨RX7, "readText", "()I"⟩
abbrev cX7_doDrive : ByteArray := prog_9_method_35_code
def yX7_doDrive : MethodName := ⟨RX7, "doDrive", "([II)Z"⟩
abbrev cX7_doCut : ByteArray := prog_9_method_36_code
def yX7_doCut : MethodName := ⟨RX7, "doCut", "([III)Z"⟩
abbrev cX7_doStart : ByteArray := prog_9_method_37_code
def yX7_doStart : MethodName := ⟨RX7, "doStart", "([I)Z"⟩
abbrev cX7_doServe : ByteArray := prog_9_method_38_code
def yX7_doServe : MethodName := ⟨RX7, "doServe", "([III)Z"⟩
abbrev cX7_doReplace : ByteArray := prog_9_method_39_code
def yX7_doReplace : MethodName := ⟨RX7, "doReplace", "([II)Z"⟩
abbrev cX7_errorPosition : ByteArray := prog_9_method_40_code
def yX7_errorPosition : MethodName := ⟨RX7, "errorPosition", "()I"⟩
abbrev cX7_load : ByteArray := prog_9_method_41_code
def yX7_load : MethodName := ⟨RX7, "load", "()I"⟩
abbrev cX7_about : ByteArray := prog_9_method_42_code
def yX7_about : MethodName := ⟨RX7, "about", "(I)I"⟩
abbrev cX7_isSlot : ByteArray := prog_9_method_43_code
def yX7_isSlot : MethodName := ⟨RX7, "isSlot", "(I)Z"⟩
abbrev cX7_cell : ByteArray := prog_9_method_44_code
def yX7_cell : MethodName := ⟨RX7, "cell", "(III)I"⟩
abbrev cX7_says : ByteArray := prog_9_method_45_code
def yX7_says : MethodName := ⟨RX7, "says", "(I)I"⟩
abbrev cX7_whySilent : ByteArray := prog_9_method_46_code
def yX7_whySilent : MethodName := ⟨RX7, "whySilent", "(I)I"⟩
abbrev cX7_share : ByteArray := prog_9_method_47_code
def yX7_share : MethodName := ⟨RX7, "share", "(I)I"⟩
abbrev cX7_serviceAt : ByteArray := prog_9_method_48_code
def yX7_serviceAt : MethodName := ⟨RX7, "serviceAt", "(II)I"⟩
abbrev cX7_lastCut : ByteArray := prog_9_method_49_code
def yX7_lastCut : MethodName := ⟨RX7, "lastCut", "(I)I"⟩
abbrev cX7_drive : ByteArray := prog_9_method_50_code
def yX7_drive : MethodName := ⟨RX7, "drive", "(I)I"⟩
abbrev cX7_isCut : ByteArray := prog_9_method_51_code
def yX7_isCut : MethodName := ⟨RX7, "isCut", "(II)Z"⟩
abbrev cX7_cut : ByteArray := prog_9_method_52_code
def yX7_cut : MethodName := ⟨RX7, "cut", "(II)I"⟩
abbrev cX7_start : ByteArray := prog_9_method_53_code
def yX7_start : MethodName := ⟨RX7, "start", "()I"⟩
abbrev cX7_isService : ByteArray := prog_9_method_54_code
def yX7_isService : MethodName := ⟨RX7, "isService", "(II)Z"⟩
abbrev cX7_service : ByteArray := prog_9_method_55_code
def yX7_service : MethodName := ⟨RX7, "service", "(II)I"⟩
abbrev cX7_forget : ByteArray := prog_9_method_56_code
def yX7_forget : MethodName := ⟨RX7, "forget", "(II)I"⟩
abbrev cX7_isStep : ByteArray := prog_9_method_57_code
def yX7_isStep : MethodName := ⟨RX7, "isStep", "(I)Z"⟩
abbrev cX7_setStep : ByteArray := prog_9_method_58_code
def yX7_setStep : MethodName := ⟨RX7, "setStep", "(I)I"⟩
abbrev cX7_replace : ByteArray := prog_9_method_59_code
def yX7_replace : MethodName := ⟨RX7, "replace", "(I)I"⟩
abbrev cX7_undo : ByteArray := prog_9_method_60_code
def yX7_undo : MethodName := ⟨RX7, "undo", "()I"⟩
abbrev cX7_isBroken : ByteArray := prog_9_method_61_code
def yX7_isBroken : MethodName := ⟨RX7, "isBroken", "()Z"⟩
abbrev cX7_found : ByteArray := prog_9_method_62_code
def yX7_found : MethodName := ⟨RX7, "found", "(II)I"⟩
abbrev cX7_afterCut : ByteArray := prog_9_method_63_code
def yX7_afterCut : MethodName := ⟨RX7, "afterCut", "(II)I"⟩
abbrev cX7_worstLoss : ByteArray := prog_9_method_64_code
def yX7_worstLoss : MethodName := ⟨RX7, "worstLoss", "()I"⟩
abbrev cX7_lasts : ByteArray := prog_9_method_65_code
def yX7_lasts : MethodName := ⟨RX7, "lasts", "(I)I"⟩
abbrev cX7_dueIn : ByteArray := prog_9_method_66_code
def yX7_dueIn : MethodName := ⟨RX7, "dueIn", "(III)I"⟩
abbrev cX7_dueFirst : ByteArray := prog_9_method_67_code
def yX7_dueFirst : MethodName := ⟨RX7, "dueFirst", "()I"⟩
abbrev cX7_does : ByteArray := prog_9_method_68_code
def yX7_does : MethodName := ⟨RX7, "does", "(I)Z"⟩
abbrev cX7_runScript : ByteArray := prog_9_method_69_code
def yX7_runScript : MethodName := ⟨RX7, "runScript", "(IJ)I"⟩
abbrev cX7_round : ByteArray := prog_9_method_70_code
def yX7_round : MethodName := ⟨RX7, "round", "(I)V"⟩
abbrev cX7_simulate : ByteArray := prog_9_method_71_code
def yX7_simulate : MethodName := ⟨RX7, "simulate", "(JI)I"⟩
abbrev cX7_save : ByteArray := prog_9_method_72_code
def yX7_save : MethodName := ⟨RX7, "save", "(I)I"⟩
abbrev cX7_restore : ByteArray := prog_9_method_73_code
def yX7_restore : MethodName := ⟨RX7, "restore", "(I)I"⟩
def RL : String := "OdometerRingLaw"
abbrev cL_append : ByteArray := method_3_code
def yL_append : MethodName := ⟨RL, "append", "(LOdometerRing;I[J)I"⟩
abbrev cL_load : ByteArray := method_4_code
def yL_load : MethodName := ⟨RL, "load", "(LOdometerRing;[J)I"⟩
abbrev cL_about : ByteArray := method_5_code
def yL_about : MethodName := ⟨RL, "about", "(LOdometerRing;I[J)I"⟩
abbrev cL_cell : ByteArray := method_6_code
def yL_cell : MethodName := ⟨RL, "cell", "(LOdometerRing;III[J)I"⟩
abbrev cL_says : ByteArray := method_7_code
def yL_says : MethodName := ⟨RL, "says", "(LOdometerRing;I[J)I"⟩
abbrev cL_whySilent : ByteArray := method_8_code
def yL_whySilent : MethodName := ⟨RL, "whySilent", "(LOdometerRing;I[J)I"⟩
abbrev cL_share : ByteArray := method_9_code
def yL_share : MethodName := ⟨RL, "share", "(LOdometerRing;I[J)I"⟩
abbrev cL_serviceAt : ByteArray := method_10_code
def yL_serviceAt : MethodName := ⟨RL, "serviceAt", "(LOdometerRing;II[J)I"⟩
abbrev cL_lastCut : ByteArray := method_11_code
def yL_lastCut : MethodName := ⟨RL, "lastCut", "(LOdometerRing;I[J)I"⟩
abbrev cL_drive : ByteArray := method_12_code
def yL_drive : MethodName := ⟨RL, "drive", "(LOdometerRing;I[J)I"⟩
abbrev cL_cut : ByteArray := method_13_code
def yL_cut : MethodName := ⟨RL, "cut", "(LOdometerRing;II[J)I"⟩
abbrev cL_start : ByteArray := method_14_code
def yL_start : MethodName := ⟨RL, "start", "(LOdometerRing;[J)I"⟩
abbrev cL_service : ByteArray := method_15_code
def yL_service : MethodName := ⟨RL, "service", "(LOdometerRing;II[J)I"⟩
abbrev cL_forget : ByteArray := method_16_code
def yL_forget : MethodName := ⟨RL, "forget", "(LOdometerRing;II[J)I"⟩
abbrev cL_setStep : ByteArray := method_17_code
def yL_setStep : MethodName := ⟨RL, "setStep", "(LOdometerRing;I[J)I"⟩
abbrev cL_replace : ByteArray := method_18_code
def yL_replace : MethodName := ⟨RL, "replace", "(LOdometerRing;I[J)I"⟩
abbrev cL_undo : ByteArray := method_19_code
def yL_undo : MethodName := ⟨RL, "undo", "(LOdometerRing;[J)I"⟩
abbrev cL_afterCut : ByteArray := method_20_code
def yL_afterCut : MethodName := ⟨RL, "afterCut", "(LOdometerRing;II[J)I"⟩
abbrev cL_worstLoss : ByteArray := method_21_code
def yL_worstLoss : MethodName := ⟨RL, "worstLoss", "(LOdometerRing;[J)I"⟩
abbrev cL_lasts : ByteArray := method_22_code
def yL_lasts : MethodName := ⟨RL, "lasts", "(LOdometerRing;I[J)I"⟩
abbrev cL_dueIn : ByteArray := method_23_code
def yL_dueIn : MethodName := ⟨RL, "dueIn", "(LOdometerRing;III[J)I"⟩
abbrev cL_runScript : ByteArray := method_24_code
def yL_runScript : MethodName := ⟨RL, "runScript", "(LOdometerRing;IJ[J)I"⟩
abbrev cL_simulate : ByteArray := method_25_code
def yL_simulate : MethodName := ⟨RL, "simulate", "(LOdometerRing;JI[J)I"⟩
abbrev cL_save : ByteArray := method_26_code
def yL_save : MethodName := ⟨RL, "save", "(LOdometerRing;I[J)I"⟩
abbrev cL_restore : ByteArray := method_27_code
def yL_restore : MethodName := ⟨RL, "restore", "(LOdometerRing;I[J)I"⟩
abbrev cL_law : ByteArray := code
def yL_law : MethodName := ⟨RL, "law", "([I)Z"⟩
abbrev vwCl : List vw_C := [(RX0, TX0, 4), (RX1, TX1, 3), (RX2, TX2, 17), (RX3, TX3, 3), (RX4, TX4, 2), (RX5, TX5, 9), (RX6, TX6, 5), (RX7, TX7, 14)]
end
section
/-! THE ABSTRACT MACHINE. Cells are numbered from 1 (0 is null); a world: how many cells, each cell's kind (0..7 an object of that class of vwCl, 8 int[], 9 boolean[], 10 long[], 11 an array of Odometers), the arrays' lengths, the reference fields, the ints, the longs. -/
abbrev Row : Type := Instr × Nat × List Nat × Int32 × Int64
abbrev Sc : Type := Nat × (Nat → Nat) × (Nat → Nat) × (Nat → Nat → Nat)
abbrev Wd : Type := Sc × (Nat → Nat → Int32) × (Nat → Nat → Int64)
abbrev Res : Type := Option Value ⊕ String
abbrev Fr : Type := Nat × List (Nat × Value) × List Value × Wd × Nat × Nat
abbrev Cal : Type := Nat → List Value → Wd → (Res → Wd → Prop) → Prop
def lkp {α : Type} : List (Nat × α) → Nat → Option α
  | [], _ => none
  | (a, x) :: t, k => match Nat.beq a k with
    | true => some x
    | false => lkp t k
theorem lkp_mem {α : Type} : ∀ (l : List (Nat × α)) (k : Nat) (x : α), lkp l k = some x → ∃ i : Nat, l[i]? = some (k, x)
  | [], _, _, h => by cases h
  | (a, y) :: t, k, x, h => by
    unfold lkp at h
    cases hb : Nat.beq a k with
    | true =>
      rw [hb] at h
      have ha : a = k := Nat.eq_of_beq_eq_true hb
      cases h
      exact ⟨0, by rw [← ha]; rfl⟩
    | false =>
      rw [hb] at h
      obtain ⟨i, hi⟩ := lkp_mem t k x h
      exact ⟨i + 1, hi⟩
def upA {α : Type} (f : Nat → α) (a : Nat) (v : α) : Nat → α := fun j => if j = a then v else f j
theorem upA_s {α : Type} (f : Nat → α) (a : Nat) (v : α) : upA f a v a = v := by simp [upA]
theorem upA_n {α : Type} (f : Nat → α) {a j : Nat} (v : α) (h : j ≠ a) : upA f a v j = f j := by simp [upA, h]
/-- a new cell of kind k and length N -/
def wAl (w : Wd) (k N : Nat) : Wd :=
  ((w.1.1 + 1, upA w.1.2.1 (w.1.1 + 1) k, upA w.1.2.2.1 (w.1.1 + 1) N, upA w.1.2.2.2 (w.1.1 + 1) (fun _ => 0)), upA w.2.1 (w.1.1 + 1) (fun _ => 0), upA w.2.2 (w.1.1 + 1) (fun _ => 0))
/-- the row of ints of cell a becomes g -/
def wI (w : Wd) (a : Nat) (g : Nat → Int32) : Wd := (w.1, upA w.2.1 a g, w.2.2)
def wJ (w : Wd) (a : Nat) (g : Nat → Int64) : Wd := (w.1, w.2.1, upA w.2.2 a g)
def wR (w : Wd) (a : Nat) (g : Nat → Nat) : Wd := ((w.1.1, w.1.2.1, w.1.2.2.1, upA w.1.2.2.2 a g), w.2.1, w.2.2)
def stI (i : Nat) (v : Value) (ls : List (Nat × Value)) : List (Nat × Value) := (i, v) :: ls.filter (fun q => !(q.1 == i) && !(q.1 + 1 == i && q.2.category == 2))
def stL (i : Nat) (v : Value) (ls : List (Nat × Value)) : List (Nat × Value) := (i, v) :: ls.filter (fun q => !(q.1 == i) && (!(q.1 == i + 1) && !(q.1 + 1 == i && q.2.category == 2)))
/-- the first n of the stack, the last pushed last -/
def popN : Nat → List Value → List Value → Option (List Value × List Value)
  | 0, st, acc => some (acc, st)
  | _ + 1, [], _ => none
  | n + 1, v :: st, acc => popN n st (v :: acc)
theorem popN_spec : ∀ (n : Nat) (st acc as rest : List Value), popN n st acc = some (as, rest) → ∃ l : List Value, l.length = n ∧ as = l ++ acc ∧ st = l.reverse ++ rest
  | 0, st, acc, as, rest, h => by
    cases h
    exact ⟨[], rfl, rfl, rfl⟩
  | n + 1, [], acc, as, rest, h => by cases h
  | n + 1, v :: st, acc, as, rest, h => by
    obtain ⟨l, h1, h2, h3⟩ := popN_spec n st (v :: acc) as rest h
    exact ⟨l ++ [v], by simp [h1], by simp [h2], by simp [h3]⟩
def catS : List Value → Nat
  | [] => 0
  | v :: t => v.category + catS t
/-- a switch: key, target, key, target .. -/
def swC (x : Int32) : List Nat → Nat → (Nat → Prop) → Prop
  | k :: t :: r, d, f => (x = Int32.ofNat k → f t) ∧ (¬ x = Int32.ofNat k → swC x r d f)
  | _, d, f => f d
/-- fields of a class -/
def nF : Nat → Nat
  | 0 => 4
  | 1 => 3
  | 2 => 17
  | 3 => 3
  | 4 => 2
  | 5 => 9
  | 6 => 5
  | 7 => 14
  | _ => 0
/-- how a field holds: 0 int, 1 reference, 2 boolean -/
def fK : Nat → Nat → Nat
  | 0, 2 => 1
  | 0, 3 => 1
  | 1, 2 => 1
  | 2, 0 => 1
  | 2, 1 => 1
  | 2, 3 => 2
  | 2, 4 => 2
  | 3, 1 => 1
  | 3, 2 => 1
  | 4, 0 => 1
  | 4, 1 => 1
  | 5, 8 => 1
  | 6, _ => 1
  | 7, 1 => 1
  | 7, 4 => 2
  | 7, 8 => 1
  | 7, 9 => 1
  | 7, 10 => 1
  | 7, 12 => 1
  | 7, 13 => 1
  | _, _ => 0
def excN : Nat → String
  | 0 => "java/lang/IllegalArgumentException"
  | 1 => "java/lang/IllegalStateException"
  | _ => "java/lang/IndexOutOfBoundsException"
/-- no reference of the frame lies behind n, up to n' -/
def frB (n n' : Nat) (st : List Value) (ls : List (Nat × Value)) : Prop := (∀ v ∈ st, ∀ x, v = .ref x → x ≤ n ∨ n' < x) ∧ ∀ q ∈ ls, ∀ x, q.2 = .ref x → x ≤ n ∨ n' < x
def pI (st : List Value) (F : Int32 → List Value → Prop) : Prop := match st with
  | .int x :: r => F x r
  | _ => False
theorem pI_s {st : List Value} {F : Int32 → List Value → Prop} (h : pI st F) : ∃ x r, st = .int x :: r ∧ F x r := by
  unfold pI at h
  split at h
  · exact ⟨_, _, rfl, h⟩
  · exact h.elim
def pL (st : List Value) (F : Int64 → List Value → Prop) : Prop := match st with
  | .long x :: r => F x r
  | _ => False
theorem pL_s {st : List Value} {F : Int64 → List Value → Prop} (h : pL st F) : ∃ x r, st = .long x :: r ∧ F x r := by
  unfold pL at h
  split at h
  · exact ⟨_, _, rfl, h⟩
  · exact h.elim
def pR (st : List Value) (F : Nat → List Value → Prop) : Prop := match st with
  | .ref x :: r => F x r
  | _ => False
theorem pR_s {st : List Value} {F : Nat → List Value → Prop} (h : pR st F) : ∃ x r, st = .ref x :: r ∧ F x r := by
  unfold pR at h
  split at h
  · exact ⟨_, _, rfl, h⟩
  · exact h.elim
def pN (st : List Value) (F : Prop) : Prop := match st with
  | [] => F
  | _ => False
theorem pN_s {st : List Value} {F : Prop} (h : pN st F) : st = [] ∧ F := by
  unfold pN at h
  split at h
  · exact ⟨rfl, h⟩
  · exact h.elim
/-- the top: an int or a reference, not looked at -/
def p1 (st : List Value) (F : Value → List Value → Prop) : Prop := match st with
  | .int x :: r => F (.int x) r
  | .ref x :: r => F (.ref x) r
  | _ => False
theorem p1_s {st : List Value} {F : Value → List Value → Prop} (h : p1 st F) : ∃ v r, st = v :: r ∧ v.category = 1 ∧ F v r := by
  unfold p1 at h
  split at h
  · exact ⟨_, _, rfl, rfl, h⟩
  · exact ⟨_, _, rfl, rfl, h⟩
  · exact h.elim
def gI (ls : List (Nat × Value)) (aux : List Nat) (F : Nat → Int32 → Prop) : Prop := match aux with
  | [i] => match lkp ls i with
    | some (.int x) => F i x
    | _ => False
  | _ => False
theorem gI_s {ls : List (Nat × Value)} {aux : List Nat} {F : Nat → Int32 → Prop} (h : gI ls aux F) : ∃ i x, aux = [i] ∧ lkp ls i = some (.int x) ∧ F i x := by
  unfold gI at h
  split at h
  · split at h
    · exact ⟨_, _, rfl, by assumption, h⟩
    · exact h.elim
  · exact h.elim
def gL (ls : List (Nat × Value)) (aux : List Nat) (F : Nat → Int64 → Prop) : Prop := match aux with
  | [i] => match lkp ls i with
    | some (.long x) => F i x
    | _ => False
  | _ => False
theorem gL_s {ls : List (Nat × Value)} {aux : List Nat} {F : Nat → Int64 → Prop} (h : gL ls aux F) : ∃ i x, aux = [i] ∧ lkp ls i = some (.long x) ∧ F i x := by
  unfold gL at h
  split at h
  · split at h
    · exact ⟨_, _, rfl, by assumption, h⟩
    · exact h.elim
  · exact h.elim
def gR (ls : List (Nat × Value)) (aux : List Nat) (F : Nat → Nat → Prop) : Prop := match aux with
  | [i] => match lkp ls i with
    | some (.ref x) => F i x
    | _ => False
  | _ => False
theorem gR_s {ls : List (Nat × Value)} {aux : List Nat} {F : Nat → Nat → Prop} (h : gR ls aux F) : ∃ i x, aux = [i] ∧ lkp ls i = some (.ref x) ∧ F i x := by
  unfold gR at h
  split at h
  · split at h
    · exact ⟨_, _, rfl, by assumption, h⟩
    · exact h.elim
  · exact h.elim
def a1 (aux : List Nat) (F : Nat → Prop) : Prop := match aux with
  | [i] => F i
  | _ => False
theorem a1_s {aux : List Nat} {F : Nat → Prop} (h : a1 aux F) : ∃ i, aux = [i] ∧ F i := by
  unfold a1 at h
  split at h
  · exact ⟨_, rfl, h⟩
  · exact h.elim
def aC (aux : List Nat) (F : Nat → List Nat → Prop) : Prop := match aux with
  | i :: r => F i r
  | _ => False
theorem aC_s {aux : List Nat} {F : Nat → List Nat → Prop} (h : aC aux F) : ∃ i r, aux = i :: r ∧ F i r := by
  unfold aC at h
  split at h
  · exact ⟨_, _, rfl, h⟩
  · exact h.elim
/-- of a field: its class, its place, how it holds -/
def aF (aux : List Nat) (F : Nat → Nat → Nat → Prop) : Prop := match aux with
  | ci :: k :: t :: _ => F ci k t
  | _ => False
theorem aF_s {aux : List Nat} {F : Nat → Nat → Nat → Prop} (h : aF aux F) : ∃ ci k t r, aux = ci :: k :: t :: r ∧ F ci k t := by
  unfold aF at h
  split at h
  · exact ⟨_, _, _, _, rfl, h⟩
  · exact h.elim
/-- a choice by a written number -/
def nI1 {α : Sort _} (n k : Nat) (a b : α) : α := match Nat.beq n k with
  | true => a
  | false => b
theorem nI1_s {n k : Nat} {a b : Prop} (h : nI1 n k a b) : (n = k ∧ a) ∨ (n ≠ k ∧ b) := by
  unfold nI1 at h
  cases hb : Nat.beq n k with
  | true =>
    rw [hb] at h
    exact Or.inl ⟨Nat.eq_of_beq_eq_true hb, h⟩
  | false =>
    rw [hb] at h
    exact Or.inr ⟨Nat.ne_of_beq_eq_false hb, h⟩
/-- the arguments of a call -/
def pA (n : Nat) (st : List Value) (F : List Value → List Value → Prop) : Prop := match popN n st [] with
  | some (as, r) => F as r
  | none => False
theorem pA_s {n : Nat} {st : List Value} {F : List Value → List Value → Prop} (h : pA n st F) : ∃ as r, as.length = n ∧ st = as.reverse ++ r ∧ F as r := by
  unfold pA at h
  split at h
  · rename_i as r hp
    obtain ⟨l, h1, h2, h3⟩ := popN_spec _ _ _ _ _ hp
    rw [List.append_nil] at h2
    subst h2
    exact ⟨_, _, h1, h3, h⟩
  · exact h.elim
def pB (as : List Value) (F : Nat → List Value → Prop) : Prop := match as with
  | .ref b :: r => F b r
  | _ => False
theorem pB_s {as : List Value} {F : Nat → List Value → Prop} (h : pB as F) : ∃ b r, as = .ref b :: r ∧ F b r := by
  unfold pB at h
  split at h
  · exact ⟨_, _, rfl, h⟩
  · exact h.elim
/-- what follows a call -/
def aftC (hn : Nat → String → Option Nat) (nx pc : Nat) (ls : List (Nat × Value)) (r : List Value) (w : Wd) (nc ns : Nat) (X : Fr → Prop) (rs : Res) (w' : Wd) : Prop := (w'.1.1 = w.1.1 ∨ frB w.1.1 w'.1.1 r ls) ∧ match rs with
  | .inl (some v) => X (nx, ls, v :: r, w', nc, ns)
  | .inl none => X (nx, ls, r, w', nc, ns)
  | .inr E => match hn pc E with
    | some h => (∀ q ∈ ls, q.2 ≠ .ref 1000000) ∧ X (h, ls, [.ref 1000000], w', nc, ns)
    | none => False
def brE (o : ClassFile.Cond) (x y : Int32) (T F : Prop) : Prop := match o with
  | .eq => (x = y → T) ∧ (¬ x = y → F)
  | .ne => (¬ x = y → T) ∧ (x = y → F)
  | .lt => (x < y → T) ∧ (¬ x < y → F)
  | .ge => (y ≤ x → T) ∧ (¬ y ≤ x → F)
  | .gt => (y < x → T) ∧ (¬ y < x → F)
  | .le => (x ≤ y → T) ∧ (¬ x ≤ y → F)
/-- what one instruction does: X is what is wanted of the next frame -/
def stepI (C : Cal) (mj : Nat → Nat × Nat) (kj : Nat → Nat) (nj : Nat → Nat) (SX : Option (Nat × (Nat → Int32))) (mxc mxs : Nat) (hn : Nat → String → Option Nat) (Rt : Option Value → Wd → Nat → Nat → Prop) (Th : String → Wd → Nat → Nat → Prop)
    (ins : Instr) (nx : Nat) (aux : List Nat) (kc : Int32) (kl : Int64) (pc : Nat) (ls : List (Nat × Value)) (st : List Value) (w : Wd) (nc ns : Nat) (X : Fr → Prop) : Prop :=
  match ins with
  | .iconst _ => X (nx, ls, .int kc :: st, w, nc, ns)
  | .bipush _ => X (nx, ls, .int kc :: st, w, nc, ns)
  | .sipush _ => X (nx, ls, .int kc :: st, w, nc, ns)
  | .ldc _ => X (nx, ls, .int kc :: st, w, nc, ns)
  | .ldc_w _ => X (nx, ls, .int kc :: st, w, nc, ns)
  | .lconst _ => X (nx, ls, .long kl :: st, w, nc, ns)
  | .ldc2_w _ => X (nx, ls, .long kl :: st, w, nc, ns)
  | .iload_n _ => gI ls aux (fun _ x => X (nx, ls, .int x :: st, w, nc, ns))
  | .iload _ => gI ls aux (fun _ x => X (nx, ls, .int x :: st, w, nc, ns))
  | .lload_n _ => gL ls aux (fun _ x => X (nx, ls, .long x :: st, w, nc, ns))
  | .lload _ => gL ls aux (fun _ x => X (nx, ls, .long x :: st, w, nc, ns))
  | .aload_n _ => gR ls aux (fun _ x => X (nx, ls, .ref x :: st, w, nc, ns))
  | .aload _ => gR ls aux (fun _ x => X (nx, ls, .ref x :: st, w, nc, ns))
  | .istore_n _ => a1 aux (fun i => pI st (fun x r => X (nx, stI i (.int x) ls, r, w, nc, ns)))
  | .istore _ => a1 aux (fun i => pI st (fun x r => X (nx, stI i (.int x) ls, r, w, nc, ns)))
  | .lstore_n _ => a1 aux (fun i => pL st (fun x r => X (nx, stL i (.long x) ls, r, w, nc, ns)))
  | .lstore _ => a1 aux (fun i => pL st (fun x r => X (nx, stL i (.long x) ls, r, w, nc, ns)))
  | .astore_n _ => a1 aux (fun i => pR st (fun x r => X (nx, stI i (.ref x) ls, r, w, nc, ns)))
  | .astore _ => a1 aux (fun i => pR st (fun x r => X (nx, stI i (.ref x) ls, r, w, nc, ns)))
  | .iinc _ _ => gI ls aux (fun i x => X (nx, stI i (.int (x + kc)) ls, st, w, nc, ns))
  | .iadd => pI st (fun y r1 => pI r1 (fun x r => X (nx, ls, .int (x + y) :: r, w, nc, ns)))
  | .isub => pI st (fun y r1 => pI r1 (fun x r => X (nx, ls, .int (x - y) :: r, w, nc, ns)))
  | .imul => pI st (fun y r1 => pI r1 (fun x r => X (nx, ls, .int (x * y) :: r, w, nc, ns)))
  | .iand => pI st (fun y r1 => pI r1 (fun x r => X (nx, ls, .int (x &&& y) :: r, w, nc, ns)))
  | .idiv => pI st (fun y r1 => pI r1 (fun x r => (¬ y = 0) ∧ X (nx, ls, .int (x / y) :: r, w, nc, ns)))
  | .irem => pI st (fun y r1 => pI r1 (fun x r => (¬ y = 0) ∧ X (nx, ls, .int (x - x / y * y) :: r, w, nc, ns)))
  | .ladd => pL st (fun y r1 => pL r1 (fun x r => X (nx, ls, .long (x + y) :: r, w, nc, ns)))
  | .lsub => pL st (fun y r1 => pL r1 (fun x r => X (nx, ls, .long (x - y) :: r, w, nc, ns)))
  | .lmul => pL st (fun y r1 => pL r1 (fun x r => X (nx, ls, .long (x * y) :: r, w, nc, ns)))
  | .land => pL st (fun y r1 => pL r1 (fun x r => X (nx, ls, .long (x &&& y) :: r, w, nc, ns)))
  | .lor => pL st (fun y r1 => pL r1 (fun x r => X (nx, ls, .long (x ||| y) :: r, w, nc, ns)))
  | .ldiv => pL st (fun y r1 => pL r1 (fun x r => (¬ y = 0) ∧ X (nx, ls, .long (x / y) :: r, w, nc, ns)))
  | .lrem => pL st (fun y r1 => pL r1 (fun x r => (¬ y = 0) ∧ X (nx, ls, .long (x - x / y * y) :: r, w, nc, ns)))
  | .lushr => pI st (fun y r1 => pL r1 (fun x r => X (nx, ls, .long (x.toUInt64 >>> (y.toInt64.toUInt64 &&& Int64.toUInt64 63)).toInt64 :: r, w, nc, ns)))
  | .lshl => pI st (fun y r1 => pL r1 (fun x r => X (nx, ls, .long (x <<< (y.toInt64 &&& 63)) :: r, w, nc, ns)))
  | .i2l => pI st (fun x r => X (nx, ls, .long x.toInt64 :: r, w, nc, ns))
  | .l2i => pL st (fun x r => X (nx, ls, .int x.toInt32 :: r, w, nc, ns))
  | .lcmp => pL st (fun y r1 => pL r1 (fun x r => X (nx, ls, .int (lg_cmp x y) :: r, w, nc, ns)))
  | .dup => p1 st (fun v r => X (nx, ls, v :: v :: r, w, nc, ns))
  | .dup2 => p1 st (fun v r1 => p1 r1 (fun u r => X (nx, ls, v :: u :: v :: u :: r, w, nc, ns)))
  | .pop => p1 st (fun _ r => X (nx, ls, r, w, nc, ns))
  | .ifCond o _ => a1 aux (fun t => pI st (fun x r => brE o x 0 (X (t, ls, r, w, nc, ns)) (X (nx, ls, r, w, nc, ns))))
  | .if_icmp o _ => a1 aux (fun t => pI st (fun y r1 => pI r1 (fun x r => brE o x y (X (t, ls, r, w, nc, ns)) (X (nx, ls, r, w, nc, ns)))))
  | .goto _ => a1 aux (fun t => X (t, ls, st, w, nc, ns))
  | .ifnull _ => a1 aux (fun t => pR st (fun x r => (x = 0 → X (t, ls, r, w, nc, ns)) ∧ (¬ x = 0 → X (nx, ls, r, w, nc, ns))))
  | .tableswitch _ _ _ _ => aC aux (fun d ks => pI st (fun x r => swC x ks d (fun t => X (t, ls, r, w, nc, ns))))
  | .lookupswitch _ _ => aC aux (fun d ks => pI st (fun x r => swC x ks d (fun t => X (t, ls, r, w, nc, ns))))
  | .getfield _ => aF aux (fun ci k t => pR st (fun a r => w.1.2.1 a = ci ∧ nI1 t 1 (X (nx, ls, .ref (w.1.2.2.2 a k) :: r, w, nc, ns)) (X (nx, ls, .int (w.2.1 a k) :: r, w, nc, ns))))
  | .putfield _ => aF aux (fun ci k t => nI1 t 1 (pR st (fun x r1 => pR r1 (fun a r => w.1.2.1 a = ci ∧ x ≤ w.1.1 ∧ X (nx, ls, r, wR w a (upA (w.1.2.2.2 a) k x), nc, ns)))) (pI st (fun x r1 => pR r1 (fun a r => w.1.2.1 a = ci ∧ nI1 t 2 (x = 0 ∨ x = 1) True ∧ X (nx, ls, r, wI w a (upd (w.2.1 a) k x), nc, ns)))))
  | .iaload => pI st (fun i r1 => pR r1 (fun a r => match SX with
    | some (L, xs) => nI1 a 1000001 (vp_in i L ∧ X (nx, ls, .int (xs i.toNatClampNeg) :: r, w, nc, ns)) (w.1.2.1 a = 8 ∧ vp_in i (w.1.2.2.1 a) ∧ X (nx, ls, .int (w.2.1 a i.toNatClampNeg) :: r, w, nc, ns))
    | none => w.1.2.1 a = 8 ∧ vp_in i (w.1.2.2.1 a) ∧ X (nx, ls, .int (w.2.1 a i.toNatClampNeg) :: r, w, nc, ns)))
  | .iastore => pI st (fun x r2 => pI r2 (fun i r1 => pR r1 (fun a r => w.1.2.1 a = 8 ∧ vp_in i (w.1.2.2.1 a) ∧ X (nx, ls, r, wI w a (upd (w.2.1 a) i.toNatClampNeg x), nc, ns))))
  | .baload => pI st (fun i r1 => pR r1 (fun a r => w.1.2.1 a = 9 ∧ vp_in i (w.1.2.2.1 a) ∧ X (nx, ls, .int (w.2.1 a i.toNatClampNeg) :: r, w, nc, ns)))
  | .bastore => pI st (fun x r2 => pI r2 (fun i r1 => pR r1 (fun a r => w.1.2.1 a = 9 ∧ vp_in i (w.1.2.2.1 a) ∧ X (nx, ls, r, wI w a (upd (w.2.1 a) i.toNatClampNeg (vp_nar .boolean x)), nc, ns))))
  | .laload => pI st (fun i r1 => pR r1 (fun a r => w.1.2.1 a = 10 ∧ vp_in i (w.1.2.2.1 a) ∧ X (nx, ls, .long (w.2.2 a i.toNatClampNeg) :: r, w, nc, ns)))
  | .lastore => pL st (fun x r2 => pI r2 (fun i r1 => pR r1 (fun a r => w.1.2.1 a = 10 ∧ vp_in i (w.1.2.2.1 a) ∧ X (nx, ls, r, wJ w a (vp_updL (w.2.2 a) i.toNatClampNeg x), nc, ns))))
  | .aaload => pI st (fun i r1 => pR r1 (fun a r => w.1.2.1 a = 11 ∧ vp_in i (w.1.2.2.1 a) ∧ X (nx, ls, .ref (w.1.2.2.2 a i.toNatClampNeg) :: r, w, nc, ns)))
  | .aastore => pR st (fun x r2 => pI r2 (fun i r1 => pR r1 (fun a r => w.1.2.1 a = 11 ∧ w.1.2.1 x = 2 ∧ vp_in i (w.1.2.2.1 a) ∧ X (nx, ls, r, wR w a (upA (w.1.2.2.2 a) i.toNatClampNeg x), nc, ns))))
  | .arraylength => pR st (fun a r => match SX with
    | some (L, _) => nI1 a 1000001 (X (nx, ls, .int (Int32.ofNat L) :: r, w, nc, ns)) (w.1.2.1 a = 8 ∧ X (nx, ls, .int (Int32.ofNat (w.1.2.2.1 a)) :: r, w, nc, ns))
    | none => (8 ≤ w.1.2.1 a ∧ w.1.2.1 a ≤ 11) ∧ X (nx, ls, .int (Int32.ofNat (w.1.2.2.1 a)) :: r, w, nc, ns))
  | .newarray _ => aC aux (fun k _ => pI st (fun n r => (¬ n < 0 ∧ n.toNatClampNeg ≤ 2000 ∧ nc + 1 ≤ mxc ∧ ns + n.toNatClampNeg ≤ mxs ∧ w.1.1 + 1 < 1000000 ∧ frB w.1.1 (w.1.1 + 1) r ls) ∧ X (nx, ls, .ref (w.1.1 + 1) :: r, wAl w k n.toNatClampNeg, nc + 1, ns + n.toNatClampNeg)))
  | .anewarray _ => pI st (fun n r => (¬ n < 0 ∧ n.toNatClampNeg ≤ 2000 ∧ nc + 1 ≤ mxc ∧ ns + n.toNatClampNeg ≤ mxs ∧ w.1.1 + 1 < 1000000 ∧ frB w.1.1 (w.1.1 + 1) r ls) ∧ X (nx, ls, .ref (w.1.1 + 1) :: r, wAl w 11 n.toNatClampNeg, nc + 1, ns + n.toNatClampNeg))
  | .new _ => aC aux (fun t r => aC r (fun ci _ => nI1 t 0 ((nc + 1 ≤ mxc ∧ ns + nF ci ≤ mxs ∧ w.1.1 + 1 < 1000000 ∧ frB w.1.1 (w.1.1 + 1) st ls) ∧ X (nx, ls, .ref (w.1.1 + 1) :: st, wAl w ci 0, nc + 1, ns + nF ci)) (catS st ≤ 8 ∧ Th (excN ci) w nc ns)))
  | .invokespecial _ => aC aux (fun t q => nI1 t 0 (pR st (fun a r => 1 ≤ a ∧ catS r ≤ 8 ∧ X (nx, ls, r, w, nc, ns))) (aC q (fun j _ => pA (nj j + 1) st (fun ba r => pB ba (fun b as => (catS r ≤ 8 ∧ nc + (mj j).1 ≤ mxc ∧ ns + (mj j).2 ≤ mxs) ∧ w.1.2.1 b = kj j ∧ ∃ P : Res → Wd → Prop, C j (.ref b :: as) w P ∧ ∀ (rs : Res) (w' : Wd), P rs w' → aftC hn nx pc ls r w (nc + (mj j).1) (ns + (mj j).2) X rs w')))))
  | .invokevirtual _ => aC aux (fun j _ => pA (nj j + 1) st (fun ba r => pB ba (fun b as => (catS r ≤ 8 ∧ nc + (mj j).1 ≤ mxc ∧ ns + (mj j).2 ≤ mxs) ∧ w.1.2.1 b = kj j ∧ ∃ P : Res → Wd → Prop, C j (.ref b :: as) w P ∧ ∀ (rs : Res) (w' : Wd), P rs w' → aftC hn nx pc ls r w (nc + (mj j).1) (ns + (mj j).2) X rs w')))
  | .invokestatic _ => aC aux (fun t q => nI1 t 1 (pI st (fun y r1 => pI r1 (fun x r => (catS r ≤ 8 ∧ nc ≤ mxc ∧ ns ≤ mxs) ∧ X (nx, ls, .int (if y < x then y else x) :: r, w, nc, ns))))
      (nI1 t 2 (pI st (fun y r1 => pI r1 (fun x r => (catS r ≤ 8 ∧ nc ≤ mxc ∧ ns ≤ mxs) ∧ X (nx, ls, .int (if x < y then y else x) :: r, w, nc, ns))))
      (nI1 t 3 (pI st (fun n r4 => pI r4 (fun dp r3 => pR r3 (fun a r2 => pI r2 (fun sp r1 => pR r1 (fun a0 r => (catS r ≤ 8 ∧ w.1.2.1 a0 = 8 ∧ w.1.2.1 a = 8 ∧ ¬ sp < 0 ∧ ¬ dp < 0 ∧ ¬ n < 0 ∧ sp.toNatClampNeg + n.toNatClampNeg ≤ w.1.2.2.1 a0 ∧ dp.toNatClampNeg + n.toNatClampNeg ≤ w.1.2.2.1 a) ∧
        X (nx, ls, r, wI w a (va_cpy (w.2.1 a0) (w.2.1 a) sp.toNatClampNeg dp.toNatClampNeg n.toNatClampNeg), nc, ns)))))))
      (aC q (fun j _ => pA (nj j) st (fun as r => (catS r ≤ 8 ∧ nc + (mj j).1 ≤ mxc ∧ ns + (mj j).2 ≤ mxs) ∧ ∃ P : Res → Wd → Prop, C j as w P ∧ ∀ (rs : Res) (w' : Wd), P rs w' → aftC hn nx pc ls r w (nc + (mj j).1) (ns + (mj j).2) X rs w'))))))
  | .ireturn => pI st (fun x r => pN r (Rt (some (.int x)) w nc ns))
  | .lreturn => pL st (fun x r => pN r (Rt (some (.long x)) w nc ns))
  | .return_ => pN st (Rt none w nc ns)
  | _ => False
end
section
/-! tables of the methods: written by wip/whole/gen.py -/
/-- OdometerRing$Cells.<init>()V -/
def cd0 : List (Nat × Row) := [(0, .aload_n 0, 1, [0], 0, 0),
  (1, .invokespecial 3, 4, [0, 103, 48, 49], 0, 0),
  (4, .aload_n 0, 5, [0], 0, 0),
  (5, .bipush 36, 7, [], 36, 0),
  (7, .newarray .int, 9, [8, 91], 0, 0),
  (9, .putfield 9, 12, [0, 2, 1, 1, 109], 0, 0),
  (12, .aload_n 0, 13, [0], 0, 0),
  (13, .bipush 36, 15, [], 36, 0),
  (15, .newarray .int, 17, [8, 91], 0, 0),
  (17, .putfield 15, 20, [0, 3, 1, 1, 110], 0, 0),
  (20, .return_, 21, [], 0, 0)]
/-- OdometerRing$Cells.makeNew(II)V -/
def cd1 : List (Nat × Row) := [(0, .aload_n 0, 1, [0], 0, 0),
  (1, .iload_n 1, 2, [1], 0, 0),
  (2, .bipush 12, 4, [], 12, 0),
  (4, .invokestatic 18, 7, [1, 146, 147, 31, 148], 0, 0),
  (7, .putfield 24, 10, [0, 0, 0, 0, 104], 0, 0),
  (10, .aload_n 0, 11, [0], 0, 0),
  (11, .iload_n 2, 12, [2], 0, 0),
  (12, .putfield 28, 15, [0, 1, 0, 0, 107], 0, 0),
  (15, .iconst 0, 16, [], 0, 0),
  (16, .istore_n 3, 17, [3], 0, 0),
  (17, .iload_n 3, 18, [3], 0, 0),
  (18, .bipush 12, 20, [], 12, 0),
  (20, .if_icmp .ge 15, 23, [35], 0, 0),
  (23, .aload_n 0, 24, [0], 0, 0),
  (24, .iload_n 3, 25, [3], 0, 0),
  (25, .invokevirtual 31, 28, [12, 149, 150, 151, 29, 152], 0, 0),
  (28, .pop, 29, [], 0, 0),
  (29, .iinc 3 1, 32, [3], 1, 0),
  (32, .goto (-15), 35, [17], 0, 0),
  (35, .return_, 36, [], 0, 0)]
/-- OdometerRing$Cells.becomeLike(LOdometerRing$Cells;)V -/
def cd2 : List (Nat × Row) := [(0, .aload_n 0, 1, [0], 0, 0),
  (1, .aload_n 1, 2, [1], 0, 0),
  (2, .getfield 24, 5, [0, 0, 0, 104], 0, 0),
  (5, .putfield 24, 8, [0, 0, 0, 0, 104], 0, 0),
  (8, .aload_n 0, 9, [0], 0, 0),
  (9, .aload_n 1, 10, [1], 0, 0),
  (10, .getfield 28, 13, [0, 1, 0, 107], 0, 0),
  (13, .putfield 28, 16, [0, 1, 0, 0, 107], 0, 0),
  (16, .aload_n 1, 17, [1], 0, 0),
  (17, .getfield 9, 20, [0, 2, 1, 109], 0, 0),
  (20, .iconst 0, 21, [], 0, 0),
  (21, .aload_n 0, 22, [0], 0, 0),
  (22, .getfield 9, 25, [0, 2, 1, 109], 0, 0),
  (25, .iconst 0, 26, [], 0, 0),
  (26, .aload_n 1, 27, [1], 0, 0),
  (27, .getfield 9, 30, [0, 2, 1, 109], 0, 0),
  (30, .arraylength, 31, [], 0, 0),
  (31, .aload_n 0, 32, [0], 0, 0),
  (32, .getfield 9, 35, [0, 2, 1, 109], 0, 0),
  (35, .arraylength, 36, [], 0, 0),
  (36, .invokestatic 18, 39, [1, 146, 147, 31, 148], 0, 0),
  (39, .invokestatic 35, 42, [3, 676, 678, 677, 41], 0, 0),
  (42, .aload_n 1, 43, [1], 0, 0),
  (43, .getfield 15, 46, [0, 3, 1, 110], 0, 0),
  (46, .iconst 0, 47, [], 0, 0),
  (47, .aload_n 0, 48, [0], 0, 0),
  (48, .getfield 15, 51, [0, 3, 1, 110], 0, 0),
  (51, .iconst 0, 52, [], 0, 0),
  (52, .aload_n 1, 53, [1], 0, 0),
  (53, .getfield 15, 56, [0, 3, 1, 110], 0, 0),
  (56, .arraylength, 57, [], 0, 0),
  (57, .aload_n 0, 58, [0], 0, 0),
  (58, .getfield 15, 61, [0, 3, 1, 110], 0, 0),
  (61, .arraylength, 62, [], 0, 0),
  (62, .invokestatic 18, 65, [1, 146, 147, 31, 148], 0, 0),
  (65, .invokestatic 35, 68, [3, 676, 678, 677, 41], 0, 0),
  (68, .return_, 69, [], 0, 0)]
/-- OdometerRing$Cells.hasSlot(I)Z -/
def cd3 : List (Nat × Row) := [(0, .iload_n 1, 1, [1], 0, 0),
  (1, .ifCond .lt 15, 4, [16], 0, 0),
  (4, .iload_n 1, 5, [1], 0, 0),
  (5, .aload_n 0, 6, [0], 0, 0),
  (6, .getfield 24, 9, [0, 0, 0, 104], 0, 0),
  (9, .if_icmp .ge 7, 12, [16], 0, 0),
  (12, .iconst 1, 13, [], 1, 0),
  (13, .goto 4, 16, [17], 0, 0),
  (16, .iconst 0, 17, [], 0, 0),
  (17, .ireturn, 18, [], 0, 0)]
/-- OdometerRing$Cells.slotBehind(I)I -/
def cd4 : List (Nat × Row) := [(0, .iload_n 1, 1, [1], 0, 0),
  (1, .iconst 1, 2, [], 1, 0),
  (2, .iadd, 3, [], 0, 0),
  (3, .aload_n 0, 4, [0], 0, 0),
  (4, .getfield 24, 7, [0, 0, 0, 104], 0, 0),
  (7, .if_icmp .ge 9, 10, [16], 0, 0),
  (10, .iload_n 1, 11, [1], 0, 0),
  (11, .iconst 1, 12, [], 1, 0),
  (12, .iadd, 13, [], 0, 0),
  (13, .goto 4, 16, [17], 0, 0),
  (16, .iconst 0, 17, [], 0, 0),
  (17, .ireturn, 18, [], 0, 0)]
/-- OdometerRing$Cells.numberIn(II)I -/
def cd5 : List (Nat × Row) := [(0, .iload_n 1, 1, [1], 0, 0),
  (1, .iconst 3, 2, [], 3, 0),
  (2, .imul, 3, [], 0, 0),
  (3, .iload_n 2, 4, [2], 0, 0),
  (4, .iadd, 5, [], 0, 0),
  (5, .istore_n 3, 6, [3], 0, 0),
  (6, .iload_n 3, 7, [3], 0, 0),
  (7, .ifCond .lt 21, 10, [28], 0, 0),
  (10, .iload_n 3, 11, [3], 0, 0),
  (11, .aload_n 0, 12, [0], 0, 0),
  (12, .getfield 9, 15, [0, 2, 1, 109], 0, 0),
  (15, .arraylength, 16, [], 0, 0),
  (16, .if_icmp .ge 12, 19, [28], 0, 0),
  (19, .aload_n 0, 20, [0], 0, 0),
  (20, .getfield 9, 23, [0, 2, 1, 109], 0, 0),
  (23, .iload_n 3, 24, [3], 0, 0),
  (24, .iaload, 25, [], 0, 0),
  (25, .goto 5, 28, [30], 0, 0),
  (28, .ldc 41, 30, [472], (-99999), 0),
  (30, .ireturn, 31, [], 0, 0)]
/-- OdometerRing$Cells.wearOf(II)I -/
def cd6 : List (Nat × Row) := [(0, .iload_n 1, 1, [1], 0, 0),
  (1, .iconst 3, 2, [], 3, 0),
  (2, .imul, 3, [], 0, 0),
  (3, .iload_n 2, 4, [2], 0, 0),
  (4, .iadd, 5, [], 0, 0),
  (5, .istore_n 3, 6, [3], 0, 0),
  (6, .iload_n 3, 7, [3], 0, 0),
  (7, .ifCond .lt 21, 10, [28], 0, 0),
  (10, .iload_n 3, 11, [3], 0, 0),
  (11, .aload_n 0, 12, [0], 0, 0),
  (12, .getfield 15, 15, [0, 3, 1, 110], 0, 0),
  (15, .arraylength, 16, [], 0, 0),
  (16, .if_icmp .ge 12, 19, [28], 0, 0),
  (19, .aload_n 0, 20, [0], 0, 0),
  (20, .getfield 15, 23, [0, 3, 1, 110], 0, 0),
  (23, .iload_n 3, 24, [3], 0, 0),
  (24, .iaload, 25, [], 0, 0),
  (25, .goto 4, 28, [29], 0, 0),
  (28, .iconst 0, 29, [], 0, 0),
  (29, .ireturn, 30, [], 0, 0)]
/-- OdometerRing$Cells.isStuck(II)Z -/
def cd7 : List (Nat × Row) := [(0, .aload_n 0, 1, [0], 0, 0),
  (1, .iload_n 1, 2, [1], 0, 0),
  (2, .iload_n 2, 3, [2], 0, 0),
  (3, .invokevirtual 42, 6, [6, 565, 566, 567, 29, 568], 0, 0),
  (6, .aload_n 0, 7, [0], 0, 0),
  (7, .getfield 28, 10, [0, 1, 0, 107], 0, 0),
  (10, .if_icmp .lt 7, 13, [17], 0, 0),
  (13, .iconst 1, 14, [], 1, 0),
  (14, .goto 4, 17, [18], 0, 0),
  (17, .iconst 0, 18, [], 0, 0),
  (18, .ireturn, 19, [], 0, 0)]
/-- OdometerRing$Cells.wearOfSlot(I)I -/
def cd8 : List (Nat × Row) := [(0, .aload_n 0, 1, [0], 0, 0),
  (1, .iload_n 1, 2, [1], 0, 0),
  (2, .iconst 0, 3, [], 0, 0),
  (3, .invokevirtual 42, 6, [6, 565, 566, 567, 29, 568], 0, 0),
  (6, .aload_n 0, 7, [0], 0, 0),
  (7, .iload_n 1, 8, [1], 0, 0),
  (8, .iconst 1, 9, [], 1, 0),
  (9, .invokevirtual 42, 12, [6, 565, 566, 567, 29, 568], 0, 0),
  (12, .iadd, 13, [], 0, 0),
  (13, .aload_n 0, 14, [0], 0, 0),
  (14, .iload_n 1, 15, [1], 0, 0),
  (15, .iconst 2, 16, [], 2, 0),
  (16, .invokevirtual 42, 19, [6, 565, 566, 567, 29, 568], 0, 0),
  (19, .iadd, 20, [], 0, 0),
  (20, .ireturn, 21, [], 0, 0)]
/-- OdometerRing$Cells.spokenBy(I)I -/
def cd9 : List (Nat × Row) := [(0, .aload_n 0, 1, [0], 0, 0),
  (1, .iload_n 1, 2, [1], 0, 0),
  (2, .iconst 0, 3, [], 0, 0),
  (3, .invokevirtual 45, 6, [5, 490, 469, 470, 29, 471], 0, 0),
  (6, .istore_n 2, 7, [2], 0, 0),
  (7, .aload_n 0, 8, [0], 0, 0),
  (8, .iload_n 1, 9, [1], 0, 0),
  (9, .iconst 1, 10, [], 1, 0),
  (10, .invokevirtual 45, 13, [5, 490, 469, 470, 29, 471], 0, 0),
  (13, .istore_n 3, 14, [3], 0, 0),
  (14, .aload_n 0, 15, [0], 0, 0),
  (15, .iload_n 1, 16, [1], 0, 0),
  (16, .iconst 2, 17, [], 2, 0),
  (17, .invokevirtual 45, 20, [5, 490, 469, 470, 29, 471], 0, 0),
  (20, .istore 4, 22, [4], 0, 0),
  (22, .iload_n 2, 23, [2], 0, 0),
  (23, .iload_n 3, 24, [3], 0, 0),
  (24, .if_icmp .eq 9, 27, [33], 0, 0),
  (27, .iload_n 2, 28, [2], 0, 0),
  (28, .iload 4, 30, [4], 0, 0),
  (30, .if_icmp .ne 7, 33, [37], 0, 0),
  (33, .iload_n 2, 34, [2], 0, 0),
  (34, .goto 15, 37, [49], 0, 0),
  (37, .iload_n 3, 38, [3], 0, 0),
  (38, .iload 4, 40, [4], 0, 0),
  (40, .if_icmp .ne 7, 43, [47], 0, 0),
  (43, .iload_n 3, 44, [3], 0, 0),
  (44, .goto 5, 47, [49], 0, 0),
  (47, .ldc 41, 49, [472], (-99999), 0),
  (49, .ireturn, 50, [], 0, 0)]
/-- OdometerRing$Cells.readableIn(I)I -/
def cd10 : List (Nat × Row) := [(0, .iconst 0, 1, [], 0, 0),
  (1, .istore_n 2, 2, [2], 0, 0),
  (2, .iconst 0, 3, [], 0, 0),
  (3, .istore_n 3, 4, [3], 0, 0),
  (4, .iload_n 3, 5, [3], 0, 0),
  (5, .iconst 3, 6, [], 3, 0),
  (6, .if_icmp .ge 23, 9, [29], 0, 0),
  (9, .aload_n 0, 10, [0], 0, 0),
  (10, .iload_n 1, 11, [1], 0, 0),
  (11, .iload_n 3, 12, [3], 0, 0),
  (12, .invokevirtual 45, 15, [5, 490, 469, 470, 29, 471], 0, 0),
  (15, .ldc 41, 17, [472], (-99999), 0),
  (17, .if_icmp .eq 6, 20, [23], 0, 0),
  (20, .iinc 2 1, 23, [2], 1, 0),
  (23, .iinc 3 1, 26, [3], 1, 0),
  (26, .goto (-22), 29, [4], 0, 0),
  (29, .iload_n 2, 30, [2], 0, 0),
  (30, .ireturn, 31, [], 0, 0)]
/-- OdometerRing$Cells.write(III)V -/
def cd11 : List (Nat × Row) := [(0, .iload_n 1, 1, [1], 0, 0),
  (1, .iconst 3, 2, [], 3, 0),
  (2, .imul, 3, [], 0, 0),
  (3, .iload_n 2, 4, [2], 0, 0),
  (4, .iadd, 5, [], 0, 0),
  (5, .istore 4, 7, [4], 0, 0),
  (7, .iload 4, 9, [4], 0, 0),
  (9, .ifCond .lt 37, 12, [46], 0, 0),
  (12, .iload 4, 14, [4], 0, 0),
  (14, .aload_n 0, 15, [0], 0, 0),
  (15, .getfield 9, 18, [0, 2, 1, 109], 0, 0),
  (18, .arraylength, 19, [], 0, 0),
  (19, .if_icmp .ge 27, 22, [46], 0, 0),
  (22, .iload 4, 24, [4], 0, 0),
  (24, .aload_n 0, 25, [0], 0, 0),
  (25, .getfield 15, 28, [0, 3, 1, 110], 0, 0),
  (28, .arraylength, 29, [], 0, 0),
  (29, .if_icmp .ge 17, 32, [46], 0, 0),
  (32, .aload_n 0, 33, [0], 0, 0),
  (33, .getfield 15, 36, [0, 3, 1, 110], 0, 0),
  (36, .iload 4, 38, [4], 0, 0),
  (38, .iaload, 39, [], 0, 0),
  (39, .aload_n 0, 40, [0], 0, 0),
  (40, .getfield 28, 43, [0, 1, 0, 107], 0, 0),
  (43, .if_icmp .lt 4, 46, [47], 0, 0),
  (46, .return_, 47, [], 0, 0),
  (47, .aload_n 0, 48, [0], 0, 0),
  (48, .getfield 15, 51, [0, 3, 1, 110], 0, 0),
  (51, .iload 4, 53, [4], 0, 0),
  (53, .dup2, 54, [], 0, 0),
  (54, .iaload, 55, [], 0, 0),
  (55, .iconst 1, 56, [], 1, 0),
  (56, .iadd, 57, [], 0, 0),
  (57, .iastore, 58, [], 0, 0),
  (58, .aload_n 0, 59, [0], 0, 0),
  (59, .getfield 9, 62, [0, 2, 1, 109], 0, 0),
  (62, .iload 4, 64, [4], 0, 0),
  (64, .iload_n 3, 65, [3], 0, 0),
  (65, .iastore, 66, [], 0, 0),
  (66, .return_, 67, [], 0, 0)]
/-- OdometerRing$Cells.renew(I)I -/
def cd12 : List (Nat × Row) := [(0, .iconst 0, 1, [], 0, 0),
  (1, .istore_n 2, 2, [2], 0, 0),
  (2, .iconst 0, 3, [], 0, 0),
  (3, .istore_n 3, 4, [3], 0, 0),
  (4, .iload_n 3, 5, [3], 0, 0),
  (5, .iconst 3, 6, [], 3, 0),
  (6, .if_icmp .ge 67, 9, [73], 0, 0),
  (9, .iload_n 1, 10, [1], 0, 0),
  (10, .iconst 3, 11, [], 3, 0),
  (11, .imul, 12, [], 0, 0),
  (12, .iload_n 3, 13, [3], 0, 0),
  (13, .iadd, 14, [], 0, 0),
  (14, .istore 4, 16, [4], 0, 0),
  (16, .iload 4, 18, [4], 0, 0),
  (18, .ifCond .lt 49, 21, [67], 0, 0),
  (21, .iload 4, 23, [4], 0, 0),
  (23, .aload_n 0, 24, [0], 0, 0),
  (24, .getfield 9, 27, [0, 2, 1, 109], 0, 0),
  (27, .arraylength, 28, [], 0, 0),
  (28, .if_icmp .ge 39, 31, [67], 0, 0),
  (31, .iload 4, 33, [4], 0, 0),
  (33, .aload_n 0, 34, [0], 0, 0),
  (34, .getfield 15, 37, [0, 3, 1, 110], 0, 0),
  (37, .arraylength, 38, [], 0, 0),
  (38, .if_icmp .ge 29, 41, [67], 0, 0),
  (41, .iload_n 2, 42, [2], 0, 0),
  (42, .aload_n 0, 43, [0], 0, 0),
  (43, .getfield 15, 46, [0, 3, 1, 110], 0, 0),
  (46, .iload 4, 48, [4], 0, 0),
  (48, .iaload, 49, [], 0, 0),
  (49, .iadd, 50, [], 0, 0),
  (50, .istore_n 2, 51, [2], 0, 0),
  (51, .aload_n 0, 52, [0], 0, 0),
  (52, .getfield 15, 55, [0, 3, 1, 110], 0, 0),
  (55, .iload 4, 57, [4], 0, 0),
  (57, .iconst 0, 58, [], 0, 0),
  (58, .iastore, 59, [], 0, 0),
  (59, .aload_n 0, 60, [0], 0, 0),
  (60, .getfield 9, 63, [0, 2, 1, 109], 0, 0),
  (63, .iload 4, 65, [4], 0, 0),
  (65, .iconst 0, 66, [], 0, 0),
  (66, .iastore, 67, [], 0, 0),
  (67, .iinc 3 1, 70, [3], 1, 0),
  (70, .goto (-66), 73, [4], 0, 0),
  (73, .iload_n 2, 74, [2], 0, 0),
  (74, .ireturn, 75, [], 0, 0)]
/-- OdometerRing$Cells.wearGap()I -/
def cd13 : List (Nat × Row) := [(0, .iconst 0, 1, [], 0, 0),
  (1, .istore_n 1, 2, [1], 0, 0),
  (2, .sipush 999, 5, [], 999, 0),
  (5, .istore_n 2, 6, [2], 0, 0),
  (6, .iconst 0, 7, [], 0, 0),
  (7, .istore_n 3, 8, [3], 0, 0),
  (8, .iload_n 3, 9, [3], 0, 0),
  (9, .aload_n 0, 10, [0], 0, 0),
  (10, .getfield 24, 13, [0, 0, 0, 104], 0, 0),
  (13, .if_icmp .ge 48, 16, [61], 0, 0),
  (16, .iconst 0, 17, [], 0, 0),
  (17, .istore 4, 19, [4], 0, 0),
  (19, .iload 4, 21, [4], 0, 0),
  (21, .iconst 3, 22, [], 3, 0),
  (22, .if_icmp .ge 33, 25, [55], 0, 0),
  (25, .iload_n 1, 26, [1], 0, 0),
  (26, .aload_n 0, 27, [0], 0, 0),
  (27, .iload_n 3, 28, [3], 0, 0),
  (28, .iload 4, 30, [4], 0, 0),
  (30, .invokevirtual 42, 33, [6, 565, 566, 567, 29, 568], 0, 0),
  (33, .invokestatic 48, 36, [2, 569, 231, 31, 232], 0, 0),
  (36, .istore_n 1, 37, [1], 0, 0),
  (37, .iload_n 2, 38, [2], 0, 0),
  (38, .aload_n 0, 39, [0], 0, 0),
  (39, .iload_n 3, 40, [3], 0, 0),
  (40, .iload 4, 42, [4], 0, 0),
  (42, .invokevirtual 42, 45, [6, 565, 566, 567, 29, 568], 0, 0),
  (45, .invokestatic 18, 48, [1, 146, 147, 31, 148], 0, 0),
  (48, .istore_n 2, 49, [2], 0, 0),
  (49, .iinc 4 1, 52, [4], 1, 0),
  (52, .goto (-33), 55, [19], 0, 0),
  (55, .iinc 3 1, 58, [3], 1, 0),
  (58, .goto (-50), 61, [8], 0, 0),
  (61, .iload_n 1, 62, [1], 0, 0),
  (62, .iload_n 2, 63, [2], 0, 0),
  (63, .isub, 64, [], 0, 0),
  (64, .ireturn, 65, [], 0, 0)]
/-- OdometerRing$Cells.slotOfGreatest()I -/
def cd14 : List (Nat × Row) := [(0, .ldc 41, 2, [472], (-99999), 0),
  (2, .istore_n 1, 3, [1], 0, 0),
  (3, .ldc 41, 5, [472], (-99999), 0),
  (5, .istore_n 2, 6, [2], 0, 0),
  (6, .iconst 0, 7, [], 0, 0),
  (7, .istore_n 3, 8, [3], 0, 0),
  (8, .iload_n 3, 9, [3], 0, 0),
  (9, .aload_n 0, 10, [0], 0, 0),
  (10, .getfield 24, 13, [0, 0, 0, 104], 0, 0),
  (13, .if_icmp .ge 26, 16, [39], 0, 0),
  (16, .aload_n 0, 17, [0], 0, 0),
  (17, .iload_n 3, 18, [3], 0, 0),
  (18, .invokevirtual 51, 21, [9, 506, 487, 488, 29, 489], 0, 0),
  (21, .iload_n 2, 22, [2], 0, 0),
  (22, .if_icmp .le 11, 25, [33], 0, 0),
  (25, .aload_n 0, 26, [0], 0, 0),
  (26, .iload_n 3, 27, [3], 0, 0),
  (27, .invokevirtual 51, 30, [9, 506, 487, 488, 29, 489], 0, 0),
  (30, .istore_n 2, 31, [2], 0, 0),
  (31, .iload_n 3, 32, [3], 0, 0),
  (32, .istore_n 1, 33, [1], 0, 0),
  (33, .iinc 3 1, 36, [3], 1, 0),
  (36, .goto (-28), 39, [8], 0, 0),
  (39, .iload_n 1, 40, [1], 0, 0),
  (40, .ireturn, 41, [], 0, 0)]
/-- OdometerRing$History.<init>()V -/
def cd15 : List (Nat × Row) := [(0, .aload_n 0, 1, [0], 0, 0),
  (1, .invokespecial 3, 4, [0, 223, 48, 49], 0, 0),
  (4, .aload_n 0, 5, [0], 0, 0),
  (5, .new 9, 8, [0, 4, 224, 225, 33], 0, 0),
  (8, .dup, 9, [], 0, 0),
  (9, .bipush 14, 11, [], 14, 0),
  (11, .invokespecial 11, 14, [1, 48, 227, 33, 228, 226], 0, 0),
  (14, .putfield 14, 17, [1, 2, 1, 1, 247], 0, 0),
  (17, .return_, 18, [], 0, 0)]
/-- OdometerRing$History.remember(LOdometerRing$Odometer;)V -/
def cd16 : List (Nat × Row) := [(0, .aload_n 0, 1, [0], 0, 0),
  (1, .getfield 14, 4, [1, 2, 1, 247], 0, 0),
  (4, .aload_n 0, 5, [0], 0, 0),
  (5, .getfield 20, 8, [1, 1, 0, 246], 0, 0),
  (8, .aload_n 1, 9, [1], 0, 0),
  (9, .invokevirtual 24, 12, [51, 664, 665, 666, 33, 667], 0, 0),
  (12, .aload_n 0, 13, [0], 0, 0),
  (13, .aload_n 0, 14, [0], 0, 0),
  (14, .getfield 20, 17, [1, 1, 0, 246], 0, 0),
  (17, .iconst 1, 18, [], 1, 0),
  (18, .iadd, 19, [], 0, 0),
  (19, .bipush 14, 21, [], 14, 0),
  (21, .irem, 22, [], 0, 0),
  (22, .putfield 20, 25, [1, 1, 0, 0, 246], 0, 0),
  (25, .aload_n 0, 26, [0], 0, 0),
  (26, .aload_n 0, 27, [0], 0, 0),
  (27, .getfield 28, 30, [1, 0, 0, 244], 0, 0),
  (30, .iconst 1, 31, [], 1, 0),
  (31, .iadd, 32, [], 0, 0),
  (32, .bipush 14, 34, [], 14, 0),
  (34, .invokestatic 31, 37, [1, 685, 147, 31, 148], 0, 0),
  (37, .putfield 28, 40, [1, 0, 0, 0, 244], 0, 0),
  (40, .return_, 41, [], 0, 0)]
/-- OdometerRing$History.takeBack(LOdometerRing$Odometer;)I -/
def cd17 : List (Nat × Row) := [(0, .aload_n 0, 1, [0], 0, 0),
  (1, .aload_n 0, 2, [0], 0, 0),
  (2, .getfield 20, 5, [1, 1, 0, 246], 0, 0),
  (5, .bipush 14, 7, [], 14, 0),
  (7, .iadd, 8, [], 0, 0),
  (8, .iconst 1, 9, [], 1, 0),
  (9, .isub, 10, [], 0, 0),
  (10, .bipush 14, 12, [], 14, 0),
  (12, .irem, 13, [], 0, 0),
  (13, .putfield 20, 16, [1, 1, 0, 0, 246], 0, 0),
  (16, .aload_n 0, 17, [0], 0, 0),
  (17, .getfield 14, 20, [1, 2, 1, 247], 0, 0),
  (20, .aload_n 0, 21, [0], 0, 0),
  (21, .getfield 20, 24, [1, 1, 0, 246], 0, 0),
  (24, .aload_n 1, 25, [1], 0, 0),
  (25, .invokevirtual 37, 28, [52, 761, 762, 763, 33, 764], 0, 0),
  (28, .aload_n 0, 29, [0], 0, 0),
  (29, .dup, 30, [], 0, 0),
  (30, .getfield 28, 33, [1, 0, 0, 244], 0, 0),
  (33, .iconst 1, 34, [], 1, 0),
  (34, .isub, 35, [], 0, 0),
  (35, .putfield 28, 38, [1, 0, 0, 0, 244], 0, 0),
  (38, .aload_n 0, 39, [0], 0, 0),
  (39, .getfield 28, 42, [1, 0, 0, 244], 0, 0),
  (42, .ireturn, 43, [], 0, 0)]
/-- OdometerRing$History.forgetAll()V -/
def cd18 : List (Nat × Row) := [(0, .aload_n 0, 1, [0], 0, 0),
  (1, .iconst 0, 2, [], 0, 0),
  (2, .putfield 28, 5, [1, 0, 0, 0, 244], 0, 0),
  (5, .return_, 6, [], 0, 0)]
/-- OdometerRing$Odometer.<init>()V -/
def cd19 : List (Nat × Row) := [(0, .aload_n 0, 1, [0], 0, 0),
  (1, .invokespecial 3, 4, [0, 97, 48, 49], 0, 0),
  (4, .aload_n 0, 5, [0], 0, 0),
  (5, .new 9, 8, [0, 0, 98, 99, 29], 0, 0),
  (8, .dup, 9, [], 0, 0),
  (9, .invokespecial 11, 12, [2, 0, 101, 29, 102, 1], 0, 0),
  (12, .putfield 12, 15, [2, 0, 1, 1, 154], 0, 0),
  (15, .aload_n 0, 16, [0], 0, 0),
  (16, .new 18, 19, [0, 3, 120, 121, 30], 0, 0),
  (19, .dup, 20, [], 0, 0),
  (20, .invokespecial 20, 23, [2, 38, 123, 30, 124, 2], 0, 0),
  (23, .putfield 21, 26, [2, 1, 1, 1, 156], 0, 0),
  (26, .aload_n 0, 27, [0], 0, 0),
  (27, .iconst 4, 28, [], 4, 0),
  (28, .bipush 10, 30, [], 10, 0),
  (30, .bipush 100, 32, [], 100, 0),
  (32, .invokevirtual 25, 35, [20, 138, 139, 140, 28, 141], 0, 0),
  (35, .return_, 36, [], 0, 0)]
/-- OdometerRing$Odometer.makeNew(III)V -/
def cd20 : List (Nat × Row) := [(0, .aload_n 0, 1, [0], 0, 0),
  (1, .getfield 12, 4, [2, 0, 1, 154], 0, 0),
  (4, .iload_n 1, 5, [1], 0, 0),
  (5, .iload_n 3, 6, [3], 0, 0),
  (6, .invokevirtual 29, 9, [1, 142, 143, 144, 29, 145], 0, 0),
  (9, .aload_n 0, 10, [0], 0, 0),
  (10, .getfield 21, 13, [2, 1, 1, 156], 0, 0),
  (13, .iconst 0, 14, [], 0, 0),
  (14, .putfield 32, 17, [3, 0, 0, 0, 127], 0, 0),
  (17, .aload_n 0, 18, [0], 0, 0),
  (18, .iload_n 2, 19, [2], 0, 0),
  (19, .putfield 36, 22, [2, 2, 0, 0, 158], 0, 0),
  (22, .aload_n 0, 23, [0], 0, 0),
  (23, .iconst 1, 24, [], 1, 0),
  (24, .putfield 39, 27, [2, 3, 2, 0, 160], 0, 0),
  (27, .aload_n 0, 28, [0], 0, 0),
  (28, .iconst 0, 29, [], 0, 0),
  (29, .putfield 43, 32, [2, 4, 2, 0, 162], 0, 0),
  (32, .aload_n 0, 33, [0], 0, 0),
  (33, .iconst 0, 34, [], 0, 0),
  (34, .putfield 46, 37, [2, 5, 0, 0, 164], 0, 0),
  (37, .aload_n 0, 38, [0], 0, 0),
  (38, .iconst 0, 39, [], 0, 0),
  (39, .putfield 49, 42, [2, 6, 0, 0, 166], 0, 0),
  (42, .aload_n 0, 43, [0], 0, 0),
  (43, .iconst 0, 44, [], 0, 0),
  (44, .putfield 52, 47, [2, 7, 0, 0, 167], 0, 0),
  (47, .aload_n 0, 48, [0], 0, 0),
  (48, .iconst 0, 49, [], 0, 0),
  (49, .putfield 55, 52, [2, 8, 0, 0, 168], 0, 0),
  (52, .aload_n 0, 53, [0], 0, 0),
  (53, .iconst 0, 54, [], 0, 0),
  (54, .putfield 58, 57, [2, 9, 0, 0, 170], 0, 0),
  (57, .aload_n 0, 58, [0], 0, 0),
  (58, .iconst 0, 59, [], 0, 0),
  (59, .putfield 61, 62, [2, 10, 0, 0, 171], 0, 0),
  (62, .aload_n 0, 63, [0], 0, 0),
  (63, .iconst 0, 64, [], 0, 0),
  (64, .putfield 64, 67, [2, 11, 0, 0, 172], 0, 0),
  (67, .aload_n 0, 68, [0], 0, 0),
  (68, .ldc 67, 70, [153], (-99999), 0),
  (70, .putfield 68, 73, [2, 12, 0, 0, 174], 0, 0),
  (73, .aload_n 0, 74, [0], 0, 0),
  (74, .ldc 67, 76, [153], (-99999), 0),
  (76, .putfield 71, 79, [2, 13, 0, 0, 175], 0, 0),
  (79, .aload_n 0, 80, [0], 0, 0),
  (80, .ldc 67, 82, [153], (-99999), 0),
  (82, .putfield 74, 85, [2, 14, 0, 0, 177], 0, 0),
  (85, .aload_n 0, 86, [0], 0, 0),
  (86, .ldc 67, 88, [153], (-99999), 0),
  (88, .putfield 77, 91, [2, 15, 0, 0, 179], 0, 0),
  (91, .aload_n 0, 92, [0], 0, 0),
  (92, .ldc 67, 94, [153], (-99999), 0),
  (94, .putfield 80, 97, [2, 16, 0, 0, 181], 0, 0),
  (97, .return_, 98, [], 0, 0)]
/-- OdometerRing$Odometer.becomeLike(LOdometerRing$Odometer;)V -/
def cd21 : List (Nat × Row) := [(0, .aload_n 0, 1, [0], 0, 0),
  (1, .getfield 12, 4, [2, 0, 1, 154], 0, 0),
  (4, .aload_n 1, 5, [1], 0, 0),
  (5, .getfield 12, 8, [2, 0, 1, 154], 0, 0),
  (8, .invokevirtual 83, 11, [2, 672, 673, 674, 29, 675], 0, 0),
  (11, .aload_n 0, 12, [0], 0, 0),
  (12, .getfield 21, 15, [2, 1, 1, 156], 0, 0),
  (15, .aload_n 1, 16, [1], 0, 0),
  (16, .getfield 21, 19, [2, 1, 1, 156], 0, 0),
  (19, .invokevirtual 87, 22, [39, 679, 680, 681, 30, 682], 0, 0),
  (22, .aload_n 0, 23, [0], 0, 0),
  (23, .aload_n 1, 24, [1], 0, 0),
  (24, .getfield 36, 27, [2, 2, 0, 158], 0, 0),
  (27, .putfield 36, 30, [2, 2, 0, 0, 158], 0, 0),
  (30, .aload_n 0, 31, [0], 0, 0),
  (31, .aload_n 1, 32, [1], 0, 0),
  (32, .getfield 39, 35, [2, 3, 2, 160], 0, 0),
  (35, .putfield 39, 38, [2, 3, 2, 0, 160], 0, 0),
  (38, .aload_n 0, 39, [0], 0, 0),
  (39, .aload_n 1, 40, [1], 0, 0),
  (40, .getfield 43, 43, [2, 4, 2, 162], 0, 0),
  (43, .putfield 43, 46, [2, 4, 2, 0, 162], 0, 0),
  (46, .aload_n 0, 47, [0], 0, 0),
  (47, .aload_n 1, 48, [1], 0, 0),
  (48, .getfield 46, 51, [2, 5, 0, 164], 0, 0),
  (51, .putfield 46, 54, [2, 5, 0, 0, 164], 0, 0),
  (54, .aload_n 0, 55, [0], 0, 0),
  (55, .aload_n 1, 56, [1], 0, 0),
  (56, .getfield 49, 59, [2, 6, 0, 166], 0, 0),
  (59, .putfield 49, 62, [2, 6, 0, 0, 166], 0, 0),
  (62, .aload_n 0, 63, [0], 0, 0),
  (63, .aload_n 1, 64, [1], 0, 0),
  (64, .getfield 52, 67, [2, 7, 0, 167], 0, 0),
  (67, .putfield 52, 70, [2, 7, 0, 0, 167], 0, 0),
  (70, .aload_n 0, 71, [0], 0, 0),
  (71, .aload_n 1, 72, [1], 0, 0),
  (72, .getfield 55, 75, [2, 8, 0, 168], 0, 0),
  (75, .putfield 55, 78, [2, 8, 0, 0, 168], 0, 0),
  (78, .aload_n 0, 79, [0], 0, 0),
  (79, .aload_n 1, 80, [1], 0, 0),
  (80, .getfield 58, 83, [2, 9, 0, 170], 0, 0),
  (83, .putfield 58, 86, [2, 9, 0, 0, 170], 0, 0),
  (86, .aload_n 0, 87, [0], 0, 0),
  (87, .aload_n 1, 88, [1], 0, 0),
  (88, .getfield 61, 91, [2, 10, 0, 171], 0, 0),
  (91, .putfield 61, 94, [2, 10, 0, 0, 171], 0, 0),
  (94, .aload_n 0, 95, [0], 0, 0),
  (95, .aload_n 1, 96, [1], 0, 0),
  (96, .getfield 64, 99, [2, 11, 0, 172], 0, 0),
  (99, .putfield 64, 102, [2, 11, 0, 0, 172], 0, 0),
  (102, .aload_n 0, 103, [0], 0, 0),
  (103, .aload_n 1, 104, [1], 0, 0),
  (104, .getfield 68, 107, [2, 12, 0, 174], 0, 0),
  (107, .putfield 68, 110, [2, 12, 0, 0, 174], 0, 0),
  (110, .aload_n 0, 111, [0], 0, 0),
  (111, .aload_n 1, 112, [1], 0, 0),
  (112, .getfield 71, 115, [2, 13, 0, 175], 0, 0),
  (115, .putfield 71, 118, [2, 13, 0, 0, 175], 0, 0),
  (118, .aload_n 0, 119, [0], 0, 0),
  (119, .aload_n 1, 120, [1], 0, 0),
  (120, .getfield 74, 123, [2, 14, 0, 177], 0, 0),
  (123, .putfield 74, 126, [2, 14, 0, 0, 177], 0, 0),
  (126, .aload_n 0, 127, [0], 0, 0),
  (127, .aload_n 1, 128, [1], 0, 0),
  (128, .getfield 77, 131, [2, 15, 0, 179], 0, 0),
  (131, .putfield 77, 134, [2, 15, 0, 0, 179], 0, 0),
  (134, .aload_n 0, 135, [0], 0, 0),
  (135, .aload_n 1, 136, [1], 0, 0),
  (136, .getfield 80, 139, [2, 16, 0, 181], 0, 0),
  (139, .putfield 80, 142, [2, 16, 0, 0, 181], 0, 0),
  (142, .return_, 143, [], 0, 0)]
/-- OdometerRing$Odometer.tellOfDriving(I)I -/
def cd22 : List (Nat × Row) := [(0, .iload_n 1, 1, [1], 0, 0),
  (1, .tableswitch 137 0 7 #[47, 55, 60, 68, 81, 98, 103, 120], 48, [138, 0, 48, 1, 56, 2, 61, 3, 69, 4, 82, 5, 99, 6, 104, 7, 121], 0, 0),
  (48, .aload_n 0, 49, [0], 0, 0),
  (49, .getfield 12, 52, [2, 0, 1, 154], 0, 0),
  (52, .getfield 90, 55, [0, 0, 0, 105], 0, 0),
  (55, .ireturn, 56, [], 0, 0),
  (56, .aload_n 0, 57, [0], 0, 0),
  (57, .getfield 36, 60, [2, 2, 0, 158], 0, 0),
  (60, .ireturn, 61, [], 0, 0),
  (61, .aload_n 0, 62, [0], 0, 0),
  (62, .getfield 12, 65, [2, 0, 1, 154], 0, 0),
  (65, .getfield 93, 68, [0, 1, 0, 108], 0, 0),
  (68, .ireturn, 69, [], 0, 0),
  (69, .aload_n 0, 70, [0], 0, 0),
  (70, .getfield 39, 73, [2, 3, 2, 160], 0, 0),
  (73, .ifCond .eq 7, 76, [80], 0, 0),
  (76, .iconst 1, 77, [], 1, 0),
  (77, .goto 4, 80, [81], 0, 0),
  (80, .iconst 0, 81, [], 0, 0),
  (81, .ireturn, 82, [], 0, 0),
  (82, .aload_n 0, 83, [0], 0, 0),
  (83, .getfield 39, 86, [2, 3, 2, 160], 0, 0),
  (86, .ifCond .eq 10, 89, [96], 0, 0),
  (89, .aload_n 0, 90, [0], 0, 0),
  (90, .getfield 46, 93, [2, 5, 0, 164], 0, 0),
  (93, .goto 5, 96, [98], 0, 0),
  (96, .ldc 67, 98, [153], (-99999), 0),
  (98, .ireturn, 99, [], 0, 0),
  (99, .aload_n 0, 100, [0], 0, 0),
  (100, .getfield 55, 103, [2, 8, 0, 168], 0, 0),
  (103, .ireturn, 104, [], 0, 0),
  (104, .aload_n 0, 105, [0], 0, 0),
  (105, .getfield 39, 108, [2, 3, 2, 160], 0, 0),
  (108, .ifCond .eq 10, 111, [118], 0, 0),
  (111, .aload_n 0, 112, [0], 0, 0),
  (112, .getfield 49, 115, [2, 6, 0, 166], 0, 0),
  (115, .goto 5, 118, [120], 0, 0),
  (118, .ldc 67, 120, [153], (-99999), 0),
  (120, .ireturn, 121, [], 0, 0),
  (121, .aload_n 0, 122, [0], 0, 0),
  (122, .getfield 39, 125, [2, 3, 2, 160], 0, 0),
  (125, .ifCond .eq 10, 128, [135], 0, 0),
  (128, .aload_n 0, 129, [0], 0, 0),
  (129, .getfield 52, 132, [2, 7, 0, 167], 0, 0),
  (132, .goto 5, 135, [137], 0, 0),
  (135, .ldc 67, 137, [153], (-99999), 0),
  (137, .ireturn, 138, [], 0, 0),
  (138, .ldc 67, 140, [153], (-99999), 0),
  (140, .ireturn, 141, [], 0, 0)]
/-- OdometerRing$Odometer.tellOfMemory(I)I -/
def cd23 : List (Nat × Row) := [(0, .iload_n 1, 1, [1], 0, 0),
  (1, .tableswitch 111 8 14 #[43, 48, 53, 58, 75, 95, 103], 44, [112, 8, 44, 9, 49, 10, 54, 11, 59, 12, 76, 13, 96, 14, 104], 0, 0),
  (44, .aload_n 0, 45, [0], 0, 0),
  (45, .getfield 58, 48, [2, 9, 0, 170], 0, 0),
  (48, .ireturn, 49, [], 0, 0),
  (49, .aload_n 0, 50, [0], 0, 0),
  (50, .getfield 61, 53, [2, 10, 0, 171], 0, 0),
  (53, .ireturn, 54, [], 0, 0),
  (54, .aload_n 0, 55, [0], 0, 0),
  (55, .getfield 64, 58, [2, 11, 0, 172], 0, 0),
  (58, .ireturn, 59, [], 0, 0),
  (59, .aload_n 0, 60, [0], 0, 0),
  (60, .getfield 64, 63, [2, 11, 0, 172], 0, 0),
  (63, .ifCond .ne 8, 66, [71], 0, 0),
  (66, .ldc 67, 68, [153], (-99999), 0),
  (68, .goto 7, 71, [75], 0, 0),
  (71, .aload_n 0, 72, [0], 0, 0),
  (72, .getfield 68, 75, [2, 12, 0, 174], 0, 0),
  (75, .ireturn, 76, [], 0, 0),
  (76, .aload_n 0, 77, [0], 0, 0),
  (77, .getfield 39, 80, [2, 3, 2, 160], 0, 0),
  (80, .ifCond .eq 14, 83, [94], 0, 0),
  (83, .aload_n 0, 84, [0], 0, 0),
  (84, .getfield 43, 87, [2, 4, 2, 162], 0, 0),
  (87, .ifCond .eq 7, 90, [94], 0, 0),
  (90, .iconst 1, 91, [], 1, 0),
  (91, .goto 4, 94, [95], 0, 0),
  (94, .iconst 0, 95, [], 0, 0),
  (95, .ireturn, 96, [], 0, 0),
  (96, .aload_n 0, 97, [0], 0, 0),
  (97, .getfield 12, 100, [2, 0, 1, 154], 0, 0),
  (100, .invokevirtual 96, 103, [13, 561, 562, 563, 29, 564], 0, 0),
  (103, .ireturn, 104, [], 0, 0),
  (104, .aload_n 0, 105, [0], 0, 0),
  (105, .getfield 21, 108, [2, 1, 1, 156], 0, 0),
  (108, .getfield 32, 111, [3, 0, 0, 127], 0, 0),
  (111, .ireturn, 112, [], 0, 0),
  (112, .ldc 67, 114, [153], (-99999), 0),
  (114, .ireturn, 115, [], 0, 0)]
/-- OdometerRing$Odometer.driveOn(I)I -/
def cd24 : List (Nat × Row) := [(0, .iconst 0, 1, [], 0, 0),
  (1, .istore_n 2, 2, [2], 0, 0),
  (2, .iload_n 2, 3, [2], 0, 0),
  (3, .iload_n 1, 4, [1], 0, 0),
  (4, .if_icmp .ge 63, 7, [67], 0, 0),
  (7, .aload_n 0, 8, [0], 0, 0),
  (8, .getfield 39, 11, [2, 3, 2, 160], 0, 0),
  (11, .ifCond .eq 56, 14, [67], 0, 0),
  (14, .iinc 2 1, 17, [2], 1, 0),
  (17, .aload_n 0, 18, [0], 0, 0),
  (18, .dup, 19, [], 0, 0),
  (19, .getfield 55, 22, [2, 8, 0, 168], 0, 0),
  (22, .iconst 1, 23, [], 1, 0),
  (23, .iadd, 24, [], 0, 0),
  (24, .putfield 55, 27, [2, 8, 0, 0, 168], 0, 0),
  (27, .aload_n 0, 28, [0], 0, 0),
  (28, .dup, 29, [], 0, 0),
  (29, .getfield 46, 32, [2, 5, 0, 164], 0, 0),
  (32, .iconst 1, 33, [], 1, 0),
  (33, .iadd, 34, [], 0, 0),
  (34, .putfield 46, 37, [2, 5, 0, 0, 164], 0, 0),
  (37, .aload_n 0, 38, [0], 0, 0),
  (38, .getfield 43, 41, [2, 4, 2, 162], 0, 0),
  (41, .ifCond .ne (-39), 44, [2], 0, 0),
  (44, .aload_n 0, 45, [0], 0, 0),
  (45, .getfield 46, 48, [2, 5, 0, 164], 0, 0),
  (48, .aload_n 0, 49, [0], 0, 0),
  (49, .getfield 49, 52, [2, 6, 0, 166], 0, 0),
  (52, .aload_n 0, 53, [0], 0, 0),
  (53, .getfield 36, 56, [2, 2, 0, 158], 0, 0),
  (56, .iadd, 57, [], 0, 0),
  (57, .if_icmp .lt (-55), 60, [2], 0, 0),
  (60, .aload_n 0, 61, [0], 0, 0),
  (61, .invokevirtual 100, 64, [26, 456, 457, 458, 28, 459], 0, 0),
  (64, .goto (-62), 67, [2], 0, 0),
  (67, .iload_n 2, 68, [2], 0, 0),
  (68, .ireturn, 69, [], 0, 0)]
/-- OdometerRing$Odometer.driveTillDead()I -/
def cd25 : List (Nat × Row) := [(0, .iconst 0, 1, [], 0, 0),
  (1, .istore_n 1, 2, [1], 0, 0),
  (2, .iload_n 1, 3, [1], 0, 0),
  (3, .sipush 9999, 6, [], 9999, 0),
  (6, .if_icmp .gt 50, 9, [56], 0, 0),
  (9, .aload_n 0, 10, [0], 0, 0),
  (10, .getfield 43, 13, [2, 4, 2, 162], 0, 0),
  (13, .ifCond .ne 43, 16, [56], 0, 0),
  (16, .iconst 1, 17, [], 1, 0),
  (17, .aload_n 0, 18, [0], 0, 0),
  (18, .getfield 49, 21, [2, 6, 0, 166], 0, 0),
  (21, .aload_n 0, 22, [0], 0, 0),
  (22, .getfield 36, 25, [2, 2, 0, 158], 0, 0),
  (25, .iadd, 26, [], 0, 0),
  (26, .aload_n 0, 27, [0], 0, 0),
  (27, .getfield 46, 30, [2, 5, 0, 164], 0, 0),
  (30, .isub, 31, [], 0, 0),
  (31, .invokestatic 103, 34, [2, 485, 231, 31, 232], 0, 0),
  (34, .istore_n 2, 35, [2], 0, 0),
  (35, .iload_n 1, 36, [1], 0, 0),
  (36, .iload_n 2, 37, [2], 0, 0),
  (37, .iadd, 38, [], 0, 0),
  (38, .istore_n 1, 39, [1], 0, 0),
  (39, .aload_n 0, 40, [0], 0, 0),
  (40, .dup, 41, [], 0, 0),
  (41, .getfield 46, 44, [2, 5, 0, 164], 0, 0),
  (44, .iload_n 2, 45, [2], 0, 0),
  (45, .iadd, 46, [], 0, 0),
  (46, .putfield 46, 49, [2, 5, 0, 0, 164], 0, 0),
  (49, .aload_n 0, 50, [0], 0, 0),
  (50, .invokevirtual 100, 53, [26, 456, 457, 458, 28, 459], 0, 0),
  (53, .goto (-51), 56, [2], 0, 0),
  (56, .iload_n 1, 57, [1], 0, 0),
  (57, .sipush 9999, 60, [], 9999, 0),
  (60, .if_icmp .gt 7, 63, [67], 0, 0),
  (63, .iload_n 1, 64, [1], 0, 0),
  (64, .goto 5, 67, [69], 0, 0),
  (67, .ldc 67, 69, [153], (-99999), 0),
  (69, .ireturn, 70, [], 0, 0)]
/-- OdometerRing$Odometer.storeDistance()V -/
def cd26 : List (Nat × Row) := [(0, .aload_n 0, 1, [0], 0, 0),
  (1, .getfield 52, 4, [2, 7, 0, 167], 0, 0),
  (4, .istore_n 1, 5, [1], 0, 0),
  (5, .iconst 0, 6, [], 0, 0),
  (6, .istore_n 2, 7, [2], 0, 0),
  (7, .iload_n 2, 8, [2], 0, 0),
  (8, .aload_n 0, 9, [0], 0, 0),
  (9, .getfield 12, 12, [2, 0, 1, 154], 0, 0),
  (12, .getfield 90, 15, [0, 0, 0, 105], 0, 0),
  (15, .iconst 1, 16, [], 1, 0),
  (16, .isub, 17, [], 0, 0),
  (17, .if_icmp .ge 61, 20, [78], 0, 0),
  (20, .aload_n 0, 21, [0], 0, 0),
  (21, .getfield 12, 24, [2, 0, 1, 154], 0, 0),
  (24, .iload_n 1, 25, [1], 0, 0),
  (25, .invokevirtual 109, 28, [4, 460, 461, 462, 29, 463], 0, 0),
  (28, .istore_n 1, 29, [1], 0, 0),
  (29, .aload_n 0, 30, [0], 0, 0),
  (30, .iload_n 1, 31, [1], 0, 0),
  (31, .iload_n 2, 32, [2], 0, 0),
  (32, .invokevirtual 113, 35, [27, 464, 466, 3, 28, 467], 0, 0),
  (35, .aload_n 0, 36, [0], 0, 0),
  (36, .getfield 39, 39, [2, 3, 2, 160], 0, 0),
  (39, .ifCond .ne 4, 42, [43], 0, 0),
  (42, .return_, 43, [], 0, 0),
  (43, .aload_n 0, 44, [0], 0, 0),
  (44, .getfield 12, 47, [2, 0, 1, 154], 0, 0),
  (47, .iload_n 1, 48, [1], 0, 0),
  (48, .invokevirtual 116, 51, [9, 486, 487, 488, 29, 489], 0, 0),
  (51, .aload_n 0, 52, [0], 0, 0),
  (52, .getfield 46, 55, [2, 5, 0, 164], 0, 0),
  (55, .if_icmp .ne 17, 58, [72], 0, 0),
  (58, .aload_n 0, 59, [0], 0, 0),
  (59, .iload_n 1, 60, [1], 0, 0),
  (60, .putfield 52, 63, [2, 7, 0, 0, 167], 0, 0),
  (63, .aload_n 0, 64, [0], 0, 0),
  (64, .aload_n 0, 65, [0], 0, 0),
  (65, .getfield 46, 68, [2, 5, 0, 164], 0, 0),
  (68, .putfield 49, 71, [2, 6, 0, 0, 166], 0, 0),
  (71, .return_, 72, [], 0, 0),
  (72, .iinc 2 1, 75, [2], 1, 0),
  (75, .goto (-68), 78, [7], 0, 0),
  (78, .aload_n 0, 79, [0], 0, 0),
  (79, .iconst 1, 80, [], 1, 0),
  (80, .putfield 43, 83, [2, 4, 2, 0, 162], 0, 0),
  (83, .return_, 84, [], 0, 0)]
/-- OdometerRing$Odometer.writeSlot(II)V -/
def cd27 : List (Nat × Row) := [(0, .iconst 0, 1, [], 0, 0),
  (1, .istore_n 3, 2, [3], 0, 0),
  (2, .iload_n 3, 3, [3], 0, 0),
  (3, .iconst 3, 4, [], 3, 0),
  (4, .if_icmp .ge 93, 7, [97], 0, 0),
  (7, .aload_n 0, 8, [0], 0, 0),
  (8, .getfield 39, 11, [2, 3, 2, 160], 0, 0),
  (11, .ifCond .eq 86, 14, [97], 0, 0),
  (14, .aload_n 0, 15, [0], 0, 0),
  (15, .dup, 16, [], 0, 0),
  (16, .getfield 58, 19, [2, 9, 0, 170], 0, 0),
  (19, .iconst 1, 20, [], 1, 0),
  (20, .iadd, 21, [], 0, 0),
  (21, .putfield 58, 24, [2, 9, 0, 0, 170], 0, 0),
  (24, .aload_n 0, 25, [0], 0, 0),
  (25, .getfield 64, 28, [2, 11, 0, 172], 0, 0),
  (28, .iconst 1, 29, [], 1, 0),
  (29, .if_icmp .ne 35, 32, [64], 0, 0),
  (32, .aload_n 0, 33, [0], 0, 0),
  (33, .getfield 12, 36, [2, 0, 1, 154], 0, 0),
  (36, .iload_n 1, 37, [1], 0, 0),
  (37, .iload_n 3, 38, [3], 0, 0),
  (38, .aload_n 0, 39, [0], 0, 0),
  (39, .aload_n 0, 40, [0], 0, 0),
  (40, .getfield 12, 43, [2, 0, 1, 154], 0, 0),
  (43, .iload_n 1, 44, [1], 0, 0),
  (44, .iload_n 3, 45, [3], 0, 0),
  (45, .invokevirtual 119, 48, [5, 468, 469, 470, 29, 471], 0, 0),
  (48, .invokevirtual 122, 51, [28, 473, 475, 4, 28, 476], 0, 0),
  (51, .invokevirtual 125, 54, [11, 477, 478, 479, 29, 480], 0, 0),
  (54, .aload_n 0, 55, [0], 0, 0),
  (55, .iload_n 1, 56, [1], 0, 0),
  (56, .iload_n 3, 57, [3], 0, 0),
  (57, .iload_n 2, 58, [2], 0, 0),
  (58, .invokevirtual 128, 61, [29, 481, 483, 5, 28, 484], 0, 0),
  (61, .goto 30, 64, [91], 0, 0),
  (64, .aload_n 0, 65, [0], 0, 0),
  (65, .iconst 0, 66, [], 0, 0),
  (66, .aload_n 0, 67, [0], 0, 0),
  (67, .getfield 64, 70, [2, 11, 0, 172], 0, 0),
  (70, .iconst 1, 71, [], 1, 0),
  (71, .isub, 72, [], 0, 0),
  (72, .invokestatic 103, 75, [2, 485, 231, 31, 232], 0, 0),
  (75, .putfield 64, 78, [2, 11, 0, 0, 172], 0, 0),
  (78, .aload_n 0, 79, [0], 0, 0),
  (79, .getfield 12, 82, [2, 0, 1, 154], 0, 0),
  (82, .iload_n 1, 83, [1], 0, 0),
  (83, .iload_n 3, 84, [3], 0, 0),
  (84, .aload_n 0, 85, [0], 0, 0),
  (85, .getfield 46, 88, [2, 5, 0, 164], 0, 0),
  (88, .invokevirtual 125, 91, [11, 477, 478, 479, 29, 480], 0, 0),
  (91, .iinc 3 1, 94, [3], 1, 0),
  (94, .goto (-92), 97, [2], 0, 0),
  (97, .return_, 98, [], 0, 0)]
/-- OdometerRing$Odometer.leftByCut(I)I -/
def cd28 : List (Nat × Row) := [(0, .aload_n 0, 1, [0], 0, 0),
  (1, .getfield 68, 4, [2, 12, 0, 174], 0, 0),
  (4, .ifCond .ne 5, 7, [9], 0, 0),
  (7, .iload_n 1, 8, [1], 0, 0),
  (8, .ireturn, 9, [], 0, 0),
  (9, .aload_n 0, 10, [0], 0, 0),
  (10, .getfield 68, 13, [2, 12, 0, 174], 0, 0),
  (13, .iconst 1, 14, [], 1, 0),
  (14, .if_icmp .ne 8, 17, [22], 0, 0),
  (17, .ldc 67, 19, [153], (-99999), 0),
  (19, .goto 13, 22, [32], 0, 0),
  (22, .aload_n 0, 23, [0], 0, 0),
  (23, .getfield 46, 26, [2, 5, 0, 164], 0, 0),
  (26, .bipush 100, 28, [], 100, 0),
  (28, .idiv, 29, [], 0, 0),
  (29, .bipush 100, 31, [], 100, 0),
  (31, .imul, 32, [], 0, 0),
  (32, .ireturn, 33, [], 0, 0)]
/-- OdometerRing$Odometer.losePower(III)V -/
def cd29 : List (Nat × Row) := [(0, .aload_n 0, 1, [0], 0, 0),
  (1, .iconst 0, 2, [], 0, 0),
  (2, .putfield 39, 5, [2, 3, 2, 0, 160], 0, 0),
  (5, .aload_n 0, 6, [0], 0, 0),
  (6, .iload_n 1, 7, [1], 0, 0),
  (7, .putfield 71, 10, [2, 13, 0, 0, 175], 0, 0),
  (10, .aload_n 0, 11, [0], 0, 0),
  (11, .iload_n 2, 12, [2], 0, 0),
  (12, .putfield 74, 15, [2, 14, 0, 0, 177], 0, 0),
  (15, .aload_n 0, 16, [0], 0, 0),
  (16, .aload_n 0, 17, [0], 0, 0),
  (17, .getfield 68, 20, [2, 12, 0, 174], 0, 0),
  (20, .putfield 77, 23, [2, 15, 0, 0, 179], 0, 0),
  (23, .aload_n 0, 24, [0], 0, 0),
  (24, .iload_n 3, 25, [3], 0, 0),
  (25, .putfield 80, 28, [2, 16, 0, 0, 181], 0, 0),
  (28, .aload_n 0, 29, [0], 0, 0),
  (29, .dup, 30, [], 0, 0),
  (30, .getfield 61, 33, [2, 10, 0, 171], 0, 0),
  (33, .iconst 1, 34, [], 1, 0),
  (34, .iadd, 35, [], 0, 0),
  (35, .putfield 61, 38, [2, 10, 0, 0, 171], 0, 0),
  (38, .aload_n 0, 39, [0], 0, 0),
  (39, .iconst 0, 40, [], 0, 0),
  (40, .putfield 64, 43, [2, 11, 0, 0, 172], 0, 0),
  (43, .aload_n 0, 44, [0], 0, 0),
  (44, .ldc 67, 46, [153], (-99999), 0),
  (46, .putfield 68, 49, [2, 12, 0, 0, 174], 0, 0),
  (49, .return_, 50, [], 0, 0)]
/-- OdometerRing$Odometer.switchOn()I -/
def cd30 : List (Nat × Row) := [(0, .aload_n 0, 1, [0], 0, 0),
  (1, .getfield 12, 4, [2, 0, 1, 154], 0, 0),
  (4, .invokevirtual 131, 7, [14, 502, 503, 504, 29, 505], 0, 0),
  (7, .istore_n 1, 8, [1], 0, 0),
  (8, .aload_n 0, 9, [0], 0, 0),
  (9, .iload_n 1, 10, [1], 0, 0),
  (10, .ldc 67, 12, [153], (-99999), 0),
  (12, .if_icmp .ne 7, 15, [19], 0, 0),
  (15, .iconst 0, 16, [], 0, 0),
  (16, .goto 4, 19, [20], 0, 0),
  (19, .iload_n 1, 20, [1], 0, 0),
  (20, .putfield 52, 23, [2, 7, 0, 0, 167], 0, 0),
  (23, .aload_n 0, 24, [0], 0, 0),
  (24, .iload_n 1, 25, [1], 0, 0),
  (25, .ldc 67, 27, [153], (-99999), 0),
  (27, .if_icmp .ne 7, 30, [34], 0, 0),
  (30, .iconst 0, 31, [], 0, 0),
  (31, .goto 11, 34, [42], 0, 0),
  (34, .aload_n 0, 35, [0], 0, 0),
  (35, .getfield 12, 38, [2, 0, 1, 154], 0, 0),
  (38, .iload_n 1, 39, [1], 0, 0),
  (39, .invokevirtual 116, 42, [9, 486, 487, 488, 29, 489], 0, 0),
  (42, .putfield 46, 45, [2, 5, 0, 0, 164], 0, 0),
  (45, .aload_n 0, 46, [0], 0, 0),
  (46, .aload_n 0, 47, [0], 0, 0),
  (47, .getfield 46, 50, [2, 5, 0, 164], 0, 0),
  (50, .putfield 49, 53, [2, 6, 0, 0, 166], 0, 0),
  (53, .aload_n 0, 54, [0], 0, 0),
  (54, .iconst 0, 55, [], 0, 0),
  (55, .putfield 43, 58, [2, 4, 2, 0, 162], 0, 0),
  (58, .aload_n 0, 59, [0], 0, 0),
  (59, .iconst 1, 60, [], 1, 0),
  (60, .putfield 39, 63, [2, 3, 2, 0, 160], 0, 0),
  (63, .aload_n 0, 64, [0], 0, 0),
  (64, .getfield 46, 67, [2, 5, 0, 164], 0, 0),
  (67, .ireturn, 68, [], 0, 0)]
/-- OdometerRing$Odometer.setCut(II)I -/
def cd31 : List (Nat × Row) := [(0, .aload_n 0, 1, [0], 0, 0),
  (1, .getfield 64, 4, [2, 11, 0, 172], 0, 0),
  (4, .istore_n 3, 5, [3], 0, 0),
  (5, .aload_n 0, 6, [0], 0, 0),
  (6, .iload_n 1, 7, [1], 0, 0),
  (7, .putfield 64, 10, [2, 11, 0, 0, 172], 0, 0),
  (10, .aload_n 0, 11, [0], 0, 0),
  (11, .iload_n 2, 12, [2], 0, 0),
  (12, .putfield 68, 15, [2, 12, 0, 0, 174], 0, 0),
  (15, .iload_n 3, 16, [3], 0, 0),
  (16, .ireturn, 17, [], 0, 0)]
/-- OdometerRing$Odometer.noteService(II)I -/
def cd32 : List (Nat × Row) := [(0, .aload_n 0, 1, [0], 0, 0),
  (1, .getfield 21, 4, [2, 1, 1, 156], 0, 0),
  (4, .iload_n 1, 5, [1], 0, 0),
  (5, .iload_n 2, 6, [2], 0, 0),
  (6, .invokevirtual 134, 9, [42, 523, 515, 516, 30, 517], 0, 0),
  (9, .istore_n 3, 10, [3], 0, 0),
  (10, .iload_n 3, 11, [3], 0, 0),
  (11, .ldc 67, 13, [153], (-99999), 0),
  (13, .if_icmp .ne 8, 16, [21], 0, 0),
  (16, .ldc 67, 18, [153], (-99999), 0),
  (18, .goto 16, 21, [34], 0, 0),
  (21, .aload_n 0, 22, [0], 0, 0),
  (22, .getfield 46, 25, [2, 5, 0, 164], 0, 0),
  (25, .aload_n 0, 26, [0], 0, 0),
  (26, .getfield 21, 29, [2, 1, 1, 156], 0, 0),
  (29, .iload_n 3, 30, [3], 0, 0),
  (30, .invokevirtual 137, 33, [45, 524, 525, 526, 30, 527], 0, 0),
  (33, .isub, 34, [], 0, 0),
  (34, .istore 4, 36, [4], 0, 0),
  (36, .aload_n 0, 37, [0], 0, 0),
  (37, .getfield 21, 40, [2, 1, 1, 156], 0, 0),
  (40, .iload_n 1, 41, [1], 0, 0),
  (41, .iload_n 2, 42, [2], 0, 0),
  (42, .aload_n 0, 43, [0], 0, 0),
  (43, .getfield 46, 46, [2, 5, 0, 164], 0, 0),
  (46, .invokevirtual 140, 49, [44, 532, 533, 534, 30, 535], 0, 0),
  (49, .iload 4, 51, [4], 0, 0),
  (51, .ireturn, 52, [], 0, 0)]
/-- OdometerRing$Odometer.canReplace(I)Z -/
def cd33 : List (Nat × Row) := [(0, .aload_n 0, 1, [0], 0, 0),
  (1, .getfield 39, 4, [2, 3, 2, 160], 0, 0),
  (4, .ifCond .eq 26, 7, [30], 0, 0),
  (7, .aload_n 0, 8, [0], 0, 0),
  (8, .getfield 12, 11, [2, 0, 1, 154], 0, 0),
  (11, .iload_n 1, 12, [1], 0, 0),
  (12, .invokevirtual 143, 15, [3, 540, 541, 542, 29, 543], 0, 0),
  (15, .ifCond .eq 15, 18, [30], 0, 0),
  (18, .iload_n 1, 19, [1], 0, 0),
  (19, .aload_n 0, 20, [0], 0, 0),
  (20, .getfield 52, 23, [2, 7, 0, 167], 0, 0),
  (23, .if_icmp .eq 7, 26, [30], 0, 0),
  (26, .iconst 1, 27, [], 1, 0),
  (27, .goto 4, 30, [31], 0, 0),
  (30, .iconst 0, 31, [], 0, 0),
  (31, .ireturn, 32, [], 0, 0)]
/-- OdometerRing$Odometer.obey(III)Z -/
def cd34 : List (Nat × Row) := [(0, .iload_n 1, 1, [1], 0, 0),
  (1, .lookupswitch 176 #[(99, 75), (100, 51), (109, 117), (114, 155), (115, 101)], 52, [177, 99, 76, 100, 52, 109, 118, 114, 156, 115, 102], 0, 0),
  (52, .aload_n 0, 53, [0], 0, 0),
  (53, .getfield 39, 56, [2, 3, 2, 160], 0, 0),
  (56, .ifCond .eq 10, 59, [66], 0, 0),
  (59, .iload_n 2, 60, [2], 0, 0),
  (60, .invokestatic 147, 63, [4, 92, 4, 450, 26, 451], 0, 0),
  (63, .ifCond .ne 5, 66, [68], 0, 0),
  (66, .iconst 0, 67, [], 0, 0),
  (67, .ireturn, 68, [], 0, 0),
  (68, .aload_n 0, 69, [0], 0, 0),
  (69, .iload_n 2, 70, [2], 0, 0),
  (70, .invokevirtual 150, 73, [24, 452, 453, 454, 28, 455], 0, 0),
  (73, .pop, 74, [], 0, 0),
  (74, .iconst 1, 75, [], 1, 0),
  (75, .ireturn, 76, [], 0, 0),
  (76, .aload_n 0, 77, [0], 0, 0),
  (77, .getfield 39, 80, [2, 3, 2, 160], 0, 0),
  (80, .ifCond .eq 11, 83, [91], 0, 0),
  (83, .iload_n 2, 84, [2], 0, 0),
  (84, .iload_n 3, 85, [3], 0, 0),
  (85, .invokestatic 153, 88, [4, 93, 5, 492, 26, 493], 0, 0),
  (88, .ifCond .ne 5, 91, [93], 0, 0),
  (91, .iconst 0, 92, [], 0, 0),
  (92, .ireturn, 93, [], 0, 0),
  (93, .aload_n 0, 94, [0], 0, 0),
  (94, .iload_n 2, 95, [2], 0, 0),
  (95, .iload_n 3, 96, [3], 0, 0),
  (96, .invokevirtual 157, 99, [31, 494, 495, 496, 28, 497], 0, 0),
  (99, .pop, 100, [], 0, 0),
  (100, .iconst 1, 101, [], 1, 0),
  (101, .ireturn, 102, [], 0, 0),
  (102, .aload_n 0, 103, [0], 0, 0),
  (103, .getfield 39, 106, [2, 3, 2, 160], 0, 0),
  (106, .ifCond .eq 5, 109, [111], 0, 0),
  (109, .iconst 0, 110, [], 0, 0),
  (110, .ireturn, 111, [], 0, 0),
  (111, .aload_n 0, 112, [0], 0, 0),
  (112, .invokevirtual 160, 115, [30, 498, 499, 500, 28, 501], 0, 0),
  (115, .pop, 116, [], 0, 0),
  (116, .iconst 1, 117, [], 1, 0),
  (117, .ireturn, 118, [], 0, 0),
  (118, .aload_n 0, 119, [0], 0, 0),
  (119, .getfield 39, 122, [2, 3, 2, 160], 0, 0),
  (122, .ifCond .eq 23, 125, [145], 0, 0),
  (125, .iload_n 2, 126, [2], 0, 0),
  (126, .iload_n 3, 127, [3], 0, 0),
  (127, .invokestatic 163, 130, [4, 94, 6, 508, 26, 509], 0, 0),
  (130, .ifCond .eq 15, 133, [145], 0, 0),
  (133, .aload_n 0, 134, [0], 0, 0),
  (134, .getfield 21, 137, [2, 1, 1, 156], 0, 0),
  (137, .iload_n 2, 138, [2], 0, 0),
  (138, .iload_n 3, 139, [3], 0, 0),
  (139, .invokevirtual 166, 142, [43, 510, 511, 512, 30, 513], 0, 0),
  (142, .ifCond .ne 5, 145, [147], 0, 0),
  (145, .iconst 0, 146, [], 0, 0),
  (146, .ireturn, 147, [], 0, 0),
  (147, .aload_n 0, 148, [0], 0, 0),
  (148, .iload_n 2, 149, [2], 0, 0),
  (149, .iload_n 3, 150, [3], 0, 0),
  (150, .invokevirtual 169, 153, [32, 519, 520, 521, 28, 522], 0, 0),
  (153, .pop, 154, [], 0, 0),
  (154, .iconst 1, 155, [], 1, 0),
  (155, .ireturn, 156, [], 0, 0),
  (156, .aload_n 0, 157, [0], 0, 0),
  (157, .iload_n 2, 158, [2], 0, 0),
  (158, .invokevirtual 172, 161, [33, 536, 537, 538, 28, 539], 0, 0),
  (161, .ifCond .ne 5, 164, [166], 0, 0),
  (164, .iconst 0, 165, [], 0, 0),
  (165, .ireturn, 166, [], 0, 0),
  (166, .aload_n 0, 167, [0], 0, 0),
  (167, .getfield 12, 170, [2, 0, 1, 154], 0, 0),
  (170, .iload_n 2, 171, [2], 0, 0),
  (171, .invokevirtual 175, 174, [12, 544, 150, 151, 29, 152], 0, 0),
  (174, .pop, 175, [], 0, 0),
  (175, .iconst 1, 176, [], 1, 0),
  (176, .ireturn, 177, [], 0, 0),
  (177, .iconst 0, 178, [], 0, 0),
  (178, .ireturn, 179, [], 0, 0)]
/-- OdometerRing$Odometer.obeyGroup(I)Z -/
def cd35 : List (Nat × Row) := [(0, .iload_n 1, 1, [1], 0, 0),
  (1, .bipush 100, 3, [], 100, 0),
  (3, .idiv, 4, [], 0, 0),
  (4, .bipush 10, 6, [], 10, 0),
  (6, .irem, 7, [], 0, 0),
  (7, .istore_n 2, 8, [2], 0, 0),
  (8, .iload_n 1, 9, [1], 0, 0),
  (9, .bipush 10, 11, [], 10, 0),
  (11, .idiv, 12, [], 0, 0),
  (12, .bipush 10, 14, [], 10, 0),
  (14, .irem, 15, [], 0, 0),
  (15, .istore_n 3, 16, [3], 0, 0),
  (16, .iload_n 1, 17, [1], 0, 0),
  (17, .bipush 10, 19, [], 10, 0),
  (19, .irem, 20, [], 0, 0),
  (20, .istore 4, 22, [4], 0, 0),
  (22, .iload_n 1, 23, [1], 0, 0),
  (23, .sipush 1000, 26, [], 1000, 0),
  (26, .idiv, 27, [], 0, 0),
  (27, .tableswitch 261 1 9 #[49, 62, 84, 108, 130, 155, 176, 213, 237], 76, [288, 1, 76, 2, 89, 3, 111, 4, 135, 5, 157, 6, 182, 7, 203, 8, 240, 9, 264], 0, 0),
  (76, .aload_n 0, 77, [0], 0, 0),
  (77, .bipush 100, 79, [], 100, 0),
  (79, .iload_n 1, 80, [1], 0, 0),
  (80, .sipush 1000, 83, [], 1000, 0),
  (83, .irem, 84, [], 0, 0),
  (84, .iconst 0, 85, [], 0, 0),
  (85, .invokevirtual 178, 88, [34, 822, 446, 447, 28, 448], 0, 0),
  (88, .ireturn, 89, [], 0, 0),
  (89, .iload_n 2, 90, [2], 0, 0),
  (90, .ifCond .ne 19, 93, [109], 0, 0),
  (93, .aload_n 0, 94, [0], 0, 0),
  (94, .bipush 99, 96, [], 99, 0),
  (96, .iload_n 3, 97, [3], 0, 0),
  (97, .iload 4, 99, [4], 0, 0),
  (99, .invokevirtual 178, 102, [34, 822, 446, 447, 28, 448], 0, 0),
  (102, .ifCond .eq 7, 105, [109], 0, 0),
  (105, .iconst 1, 106, [], 1, 0),
  (106, .goto 4, 109, [110], 0, 0),
  (109, .iconst 0, 110, [], 0, 0),
  (110, .ireturn, 111, [], 0, 0),
  (111, .iload_n 1, 112, [1], 0, 0),
  (112, .sipush 3000, 115, [], 3000, 0),
  (115, .if_icmp .ne 18, 118, [133], 0, 0),
  (118, .aload_n 0, 119, [0], 0, 0),
  (119, .bipush 115, 121, [], 115, 0),
  (121, .iconst 0, 122, [], 0, 0),
  (122, .iconst 0, 123, [], 0, 0),
  (123, .invokevirtual 178, 126, [34, 822, 446, 447, 28, 448], 0, 0),
  (126, .ifCond .eq 7, 129, [133], 0, 0),
  (129, .iconst 1, 130, [], 1, 0),
  (130, .goto 4, 133, [134], 0, 0),
  (133, .iconst 0, 134, [], 0, 0),
  (134, .ireturn, 135, [], 0, 0),
  (135, .iload 4, 137, [4], 0, 0),
  (137, .ifCond .ne 18, 140, [155], 0, 0),
  (140, .aload_n 0, 141, [0], 0, 0),
  (141, .bipush 109, 143, [], 109, 0),
  (143, .iload_n 2, 144, [2], 0, 0),
  (144, .iload_n 3, 145, [3], 0, 0),
  (145, .invokevirtual 178, 148, [34, 822, 446, 447, 28, 448], 0, 0),
  (148, .ifCond .eq 7, 151, [155], 0, 0),
  (151, .iconst 1, 152, [], 1, 0),
  (152, .goto 4, 155, [156], 0, 0),
  (155, .iconst 0, 156, [], 0, 0),
  (156, .ireturn, 157, [], 0, 0),
  (157, .aload_n 0, 158, [0], 0, 0),
  (158, .getfield 39, 161, [2, 3, 2, 160], 0, 0),
  (161, .ifCond .eq 19, 164, [180], 0, 0),
  (164, .aload_n 0, 165, [0], 0, 0),
  (165, .getfield 46, 168, [2, 5, 0, 164], 0, 0),
  (168, .iload_n 1, 169, [1], 0, 0),
  (169, .sipush 1000, 172, [], 1000, 0),
  (172, .irem, 173, [], 0, 0),
  (173, .if_icmp .lt 7, 176, [180], 0, 0),
  (176, .iconst 1, 177, [], 1, 0),
  (177, .goto 4, 180, [181], 0, 0),
  (180, .iconst 0, 181, [], 0, 0),
  (181, .ireturn, 182, [], 0, 0),
  (182, .iload_n 2, 183, [2], 0, 0),
  (183, .ifCond .ne 18, 186, [201], 0, 0),
  (186, .aload_n 0, 187, [0], 0, 0),
  (187, .iload_n 1, 188, [1], 0, 0),
  (188, .bipush 100, 190, [], 100, 0),
  (190, .irem, 191, [], 0, 0),
  (191, .invokevirtual 182, 194, [36, 823, 825, 8, 28, 826], 0, 0),
  (194, .ifCond .eq 7, 197, [201], 0, 0),
  (197, .iconst 1, 198, [], 1, 0),
  (198, .goto 4, 201, [202], 0, 0),
  (201, .iconst 0, 202, [], 0, 0),
  (202, .ireturn, 203, [], 0, 0),
  (203, .iload_n 1, 204, [1], 0, 0),
  (204, .bipush 100, 206, [], 100, 0),
  (206, .irem, 207, [], 0, 0),
  (207, .ifCond .ne 31, 210, [238], 0, 0),
  (210, .aload_n 0, 211, [0], 0, 0),
  (211, .getfield 12, 214, [2, 0, 1, 154], 0, 0),
  (214, .iload_n 2, 215, [2], 0, 0),
  (215, .invokevirtual 143, 218, [3, 540, 541, 542, 29, 543], 0, 0),
  (218, .ifCond .eq 20, 221, [238], 0, 0),
  (221, .aload_n 0, 222, [0], 0, 0),
  (222, .getfield 12, 225, [2, 0, 1, 154], 0, 0),
  (225, .iload_n 2, 226, [2], 0, 0),
  (226, .invokevirtual 116, 229, [9, 486, 487, 488, 29, 489], 0, 0),
  (229, .ldc 67, 231, [153], (-99999), 0),
  (231, .if_icmp .eq 7, 234, [238], 0, 0),
  (234, .iconst 1, 235, [], 1, 0),
  (235, .goto 4, 238, [239], 0, 0),
  (238, .iconst 0, 239, [], 0, 0),
  (239, .ireturn, 240, [], 0, 0),
  (240, .iload_n 2, 241, [2], 0, 0),
  (241, .ifCond .ne 21, 244, [262], 0, 0),
  (244, .aload_n 0, 245, [0], 0, 0),
  (245, .getfield 12, 248, [2, 0, 1, 154], 0, 0),
  (248, .invokevirtual 96, 251, [13, 561, 562, 563, 29, 564], 0, 0),
  (251, .iload_n 1, 252, [1], 0, 0),
  (252, .bipush 100, 254, [], 100, 0),
  (254, .irem, 255, [], 0, 0),
  (255, .if_icmp .gt 7, 258, [262], 0, 0),
  (258, .iconst 1, 259, [], 1, 0),
  (259, .goto 4, 262, [263], 0, 0),
  (262, .iconst 0, 263, [], 0, 0),
  (263, .ireturn, 264, [], 0, 0),
  (264, .iload_n 1, 265, [1], 0, 0),
  (265, .bipush 100, 267, [], 100, 0),
  (267, .irem, 268, [], 0, 0),
  (268, .ifCond .ne 18, 271, [286], 0, 0),
  (271, .aload_n 0, 272, [0], 0, 0),
  (272, .bipush 114, 274, [], 114, 0),
  (274, .iload_n 2, 275, [2], 0, 0),
  (275, .iconst 0, 276, [], 0, 0),
  (276, .invokevirtual 178, 279, [34, 822, 446, 447, 28, 448], 0, 0),
  (279, .ifCond .eq 7, 282, [286], 0, 0),
  (282, .iconst 1, 283, [], 1, 0),
  (283, .goto 4, 286, [287], 0, 0),
  (286, .iconst 0, 287, [], 0, 0),
  (287, .ireturn, 288, [], 0, 0),
  (288, .iconst 0, 289, [], 0, 0),
  (289, .ireturn, 290, [], 0, 0)]
/-- OdometerRing$Odometer.takeStep(I)Z -/
def cd36 : List (Nat × Row) := [(0, .iload_n 1, 1, [1], 0, 0),
  (1, .invokestatic 185, 4, [4, 95, 7, 736, 26, 737], 0, 0),
  (4, .ifCond .ne 5, 7, [9], 0, 0),
  (7, .iconst 0, 8, [], 0, 0),
  (8, .ireturn, 9, [], 0, 0),
  (9, .aload_n 0, 10, [0], 0, 0),
  (10, .iload_n 1, 11, [1], 0, 0),
  (11, .putfield 36, 14, [2, 2, 0, 0, 158], 0, 0),
  (14, .iconst 1, 15, [], 1, 0),
  (15, .ireturn, 16, [], 0, 0)]
/-- OdometerRing$Odometer.playRound(I)V -/
def cd37 : List (Nat × Row) := [(0, .aload_n 0, 1, [0], 0, 0),
  (1, .getfield 39, 4, [2, 3, 2, 160], 0, 0),
  (4, .ifCond .ne 8, 7, [12], 0, 0),
  (7, .aload_n 0, 8, [0], 0, 0),
  (8, .invokevirtual 160, 11, [30, 498, 499, 500, 28, 501], 0, 0),
  (11, .pop, 12, [], 0, 0),
  (12, .iload_n 1, 13, [1], 0, 0),
  (13, .iconst 4, 14, [], 4, 0),
  (14, .irem, 15, [], 0, 0),
  (15, .ifCond .ne 22, 18, [37], 0, 0),
  (18, .aload_n 0, 19, [0], 0, 0),
  (19, .iconst 1, 20, [], 1, 0),
  (20, .iload_n 1, 21, [1], 0, 0),
  (21, .iconst 4, 22, [], 4, 0),
  (22, .idiv, 23, [], 0, 0),
  (23, .bipush 9, 25, [], 9, 0),
  (25, .irem, 26, [], 0, 0),
  (26, .iadd, 27, [], 0, 0),
  (27, .iload_n 1, 28, [1], 0, 0),
  (28, .bipush 64, 30, [], 64, 0),
  (30, .idiv, 31, [], 0, 0),
  (31, .iconst 3, 32, [], 3, 0),
  (32, .irem, 33, [], 0, 0),
  (33, .invokevirtual 157, 36, [31, 494, 495, 496, 28, 497], 0, 0),
  (36, .pop, 37, [], 0, 0),
  (37, .aload_n 0, 38, [0], 0, 0),
  (38, .iconst 1, 39, [], 1, 0),
  (39, .iload_n 1, 40, [1], 0, 0),
  (40, .sipush 256, 43, [], 256, 0),
  (43, .idiv, 44, [], 0, 0),
  (44, .bipush 50, 46, [], 50, 0),
  (46, .irem, 47, [], 0, 0),
  (47, .iadd, 48, [], 0, 0),
  (48, .invokevirtual 150, 51, [24, 452, 453, 454, 28, 455], 0, 0),
  (51, .pop, 52, [], 0, 0),
  (52, .return_, 53, [], 0, 0)]
/-- OdometerRing$Services.<init>()V -/
def cd38 : List (Nat × Row) := [(0, .aload_n 0, 1, [0], 0, 0),
  (1, .invokespecial 3, 4, [0, 125, 48, 49], 0, 0),
  (4, .aload_n 0, 5, [0], 0, 0),
  (5, .bipush 12, 7, [], 12, 0),
  (7, .newarray .int, 9, [8, 91], 0, 0),
  (9, .putfield 9, 12, [3, 1, 1, 1, 129], 0, 0),
  (12, .aload_n 0, 13, [0], 0, 0),
  (13, .bipush 12, 15, [], 12, 0),
  (15, .newarray .int, 17, [8, 91], 0, 0),
  (17, .putfield 15, 20, [3, 2, 1, 1, 130], 0, 0),
  (20, .return_, 21, [], 0, 0)]
/-- OdometerRing$Services.becomeLike(LOdometerRing$Services;)V -/
def cd39 : List (Nat × Row) := [(0, .aload_n 0, 1, [0], 0, 0),
  (1, .aload_n 1, 2, [1], 0, 0),
  (2, .getfield 18, 5, [3, 0, 0, 126], 0, 0),
  (5, .putfield 18, 8, [3, 0, 0, 0, 126], 0, 0),
  (8, .aload_n 1, 9, [1], 0, 0),
  (9, .getfield 9, 12, [3, 1, 1, 129], 0, 0),
  (12, .iconst 0, 13, [], 0, 0),
  (13, .aload_n 0, 14, [0], 0, 0),
  (14, .getfield 9, 17, [3, 1, 1, 129], 0, 0),
  (17, .iconst 0, 18, [], 0, 0),
  (18, .aload_n 1, 19, [1], 0, 0),
  (19, .getfield 9, 22, [3, 1, 1, 129], 0, 0),
  (22, .arraylength, 23, [], 0, 0),
  (23, .aload_n 0, 24, [0], 0, 0),
  (24, .getfield 9, 27, [3, 1, 1, 129], 0, 0),
  (27, .arraylength, 28, [], 0, 0),
  (28, .invokestatic 22, 31, [1, 683, 147, 31, 148], 0, 0),
  (31, .invokestatic 28, 34, [3, 684, 678, 677, 41], 0, 0),
  (34, .aload_n 1, 35, [1], 0, 0),
  (35, .getfield 15, 38, [3, 2, 1, 130], 0, 0),
  (38, .iconst 0, 39, [], 0, 0),
  (39, .aload_n 0, 40, [0], 0, 0),
  (40, .getfield 15, 43, [3, 2, 1, 130], 0, 0),
  (43, .iconst 0, 44, [], 0, 0),
  (44, .aload_n 1, 45, [1], 0, 0),
  (45, .getfield 15, 48, [3, 2, 1, 130], 0, 0),
  (48, .arraylength, 49, [], 0, 0),
  (49, .aload_n 0, 50, [0], 0, 0),
  (50, .getfield 15, 53, [3, 2, 1, 130], 0, 0),
  (53, .arraylength, 54, [], 0, 0),
  (54, .invokestatic 22, 57, [1, 683, 147, 31, 148], 0, 0),
  (57, .invokestatic 28, 60, [3, 684, 678, 677, 41], 0, 0),
  (60, .return_, 61, [], 0, 0)]
/-- OdometerRing$Services.codeAt(I)I -/
def cd40 : List (Nat × Row) := [(0, .iload_n 1, 1, [1], 0, 0),
  (1, .ifCond .lt 21, 4, [22], 0, 0),
  (4, .iload_n 1, 5, [1], 0, 0),
  (5, .aload_n 0, 6, [0], 0, 0),
  (6, .getfield 9, 9, [3, 1, 1, 129], 0, 0),
  (9, .arraylength, 10, [], 0, 0),
  (10, .if_icmp .ge 12, 13, [22], 0, 0),
  (13, .aload_n 0, 14, [0], 0, 0),
  (14, .getfield 9, 17, [3, 1, 1, 129], 0, 0),
  (17, .iload_n 1, 18, [1], 0, 0),
  (18, .iaload, 19, [], 0, 0),
  (19, .goto 5, 22, [24], 0, 0),
  (22, .ldc 34, 24, [318], (-99999), 0),
  (24, .ireturn, 25, [], 0, 0)]
/-- OdometerRing$Services.notedAt(I)I -/
def cd41 : List (Nat × Row) := [(0, .iload_n 1, 1, [1], 0, 0),
  (1, .ifCond .lt 21, 4, [22], 0, 0),
  (4, .iload_n 1, 5, [1], 0, 0),
  (5, .aload_n 0, 6, [0], 0, 0),
  (6, .getfield 15, 9, [3, 2, 1, 130], 0, 0),
  (9, .arraylength, 10, [], 0, 0),
  (10, .if_icmp .ge 12, 13, [22], 0, 0),
  (13, .aload_n 0, 14, [0], 0, 0),
  (14, .getfield 15, 17, [3, 2, 1, 130], 0, 0),
  (17, .iload_n 1, 18, [1], 0, 0),
  (18, .iaload, 19, [], 0, 0),
  (19, .goto 5, 22, [24], 0, 0),
  (22, .ldc 34, 24, [318], (-99999), 0),
  (24, .ireturn, 25, [], 0, 0)]
/-- OdometerRing$Services.placeOf(II)I -/
def cd42 : List (Nat × Row) := [(0, .iconst 0, 1, [], 0, 0),
  (1, .istore_n 3, 2, [3], 0, 0),
  (2, .iload_n 3, 3, [3], 0, 0),
  (3, .aload_n 0, 4, [0], 0, 0),
  (4, .getfield 18, 7, [3, 0, 0, 126], 0, 0),
  (7, .if_icmp .ge 25, 10, [32], 0, 0),
  (10, .aload_n 0, 11, [0], 0, 0),
  (11, .iload_n 3, 12, [3], 0, 0),
  (12, .invokevirtual 35, 15, [40, 518, 325, 326, 30, 327], 0, 0),
  (15, .bipush 10, 17, [], 10, 0),
  (17, .iload_n 1, 18, [1], 0, 0),
  (18, .imul, 19, [], 0, 0),
  (19, .iload_n 2, 20, [2], 0, 0),
  (20, .iadd, 21, [], 0, 0),
  (21, .if_icmp .ne 5, 24, [26], 0, 0),
  (24, .iload_n 3, 25, [3], 0, 0),
  (25, .ireturn, 26, [], 0, 0),
  (26, .iinc 3 1, 29, [3], 1, 0),
  (29, .goto (-27), 32, [2], 0, 0),
  (32, .ldc 34, 34, [318], (-99999), 0),
  (34, .ireturn, 35, [], 0, 0)]
/-- OdometerRing$Services.hasRoomFor(II)Z -/
def cd43 : List (Nat × Row) := [(0, .aload_n 0, 1, [0], 0, 0),
  (1, .getfield 18, 4, [3, 0, 0, 126], 0, 0),
  (4, .bipush 12, 6, [], 12, 0),
  (6, .if_icmp .lt 14, 9, [20], 0, 0),
  (9, .aload_n 0, 10, [0], 0, 0),
  (10, .iload_n 1, 11, [1], 0, 0),
  (11, .iload_n 2, 12, [2], 0, 0),
  (12, .invokevirtual 39, 15, [42, 514, 515, 516, 30, 517], 0, 0),
  (15, .ldc 34, 17, [318], (-99999), 0),
  (17, .if_icmp .eq 7, 20, [24], 0, 0),
  (20, .iconst 1, 21, [], 1, 0),
  (21, .goto 4, 24, [25], 0, 0),
  (24, .iconst 0, 25, [], 0, 0),
  (25, .ireturn, 26, [], 0, 0)]
/-- OdometerRing$Services.addLast(III)V -/
def cd44 : List (Nat × Row) := [(0, .aload_n 0, 1, [0], 0, 0),
  (1, .aload_n 0, 2, [0], 0, 0),
  (2, .getfield 18, 5, [3, 0, 0, 126], 0, 0),
  (5, .bipush 10, 7, [], 10, 0),
  (7, .iload_n 1, 8, [1], 0, 0),
  (8, .imul, 9, [], 0, 0),
  (9, .iload_n 2, 10, [2], 0, 0),
  (10, .iadd, 11, [], 0, 0),
  (11, .iload_n 3, 12, [3], 0, 0),
  (12, .invokevirtual 42, 15, [47, 528, 530, 6, 30, 531], 0, 0),
  (15, .aload_n 0, 16, [0], 0, 0),
  (16, .dup, 17, [], 0, 0),
  (17, .getfield 18, 20, [3, 0, 0, 126], 0, 0),
  (20, .iconst 1, 21, [], 1, 0),
  (21, .iadd, 22, [], 0, 0),
  (22, .putfield 18, 25, [3, 0, 0, 0, 126], 0, 0),
  (25, .return_, 26, [], 0, 0)]
/-- OdometerRing$Services.takeOut(I)I -/
def cd45 : List (Nat × Row) := [(0, .aload_n 0, 1, [0], 0, 0),
  (1, .iload_n 1, 2, [1], 0, 0),
  (2, .invokevirtual 46, 5, [41, 319, 320, 321, 30, 322], 0, 0),
  (5, .istore_n 2, 6, [2], 0, 0),
  (6, .iload_n 1, 7, [1], 0, 0),
  (7, .iconst 1, 8, [], 1, 0),
  (8, .iadd, 9, [], 0, 0),
  (9, .istore_n 3, 10, [3], 0, 0),
  (10, .iload_n 3, 11, [3], 0, 0),
  (11, .aload_n 0, 12, [0], 0, 0),
  (12, .getfield 18, 15, [3, 0, 0, 126], 0, 0),
  (15, .if_icmp .ge 26, 18, [41], 0, 0),
  (18, .aload_n 0, 19, [0], 0, 0),
  (19, .iload_n 3, 20, [3], 0, 0),
  (20, .iconst 1, 21, [], 1, 0),
  (21, .isub, 22, [], 0, 0),
  (22, .aload_n 0, 23, [0], 0, 0),
  (23, .iload_n 3, 24, [3], 0, 0),
  (24, .invokevirtual 35, 27, [40, 518, 325, 326, 30, 327], 0, 0),
  (27, .aload_n 0, 28, [0], 0, 0),
  (28, .iload_n 3, 29, [3], 0, 0),
  (29, .invokevirtual 46, 32, [41, 319, 320, 321, 30, 322], 0, 0),
  (32, .invokevirtual 42, 35, [47, 528, 530, 6, 30, 531], 0, 0),
  (35, .iinc 3 1, 38, [3], 1, 0),
  (38, .goto (-28), 41, [10], 0, 0),
  (41, .aload_n 0, 42, [0], 0, 0),
  (42, .dup, 43, [], 0, 0),
  (43, .getfield 18, 46, [3, 0, 0, 126], 0, 0),
  (46, .iconst 1, 47, [], 1, 0),
  (47, .isub, 48, [], 0, 0),
  (48, .putfield 18, 51, [3, 0, 0, 0, 126], 0, 0),
  (51, .iload_n 2, 52, [2], 0, 0),
  (52, .ireturn, 53, [], 0, 0)]
/-- OdometerRing$Services.placeOfSmallest()I -/
def cd46 : List (Nat × Row) := [(0, .ldc 34, 2, [318], (-99999), 0),
  (2, .istore_n 1, 3, [1], 0, 0),
  (3, .iconst 0, 4, [], 0, 0),
  (4, .istore_n 2, 5, [2], 0, 0),
  (5, .iload_n 2, 6, [2], 0, 0),
  (6, .aload_n 0, 7, [0], 0, 0),
  (7, .getfield 18, 10, [3, 0, 0, 126], 0, 0),
  (10, .if_icmp .ge 30, 13, [40], 0, 0),
  (13, .iload_n 1, 14, [1], 0, 0),
  (14, .ldc 34, 16, [318], (-99999), 0),
  (16, .if_icmp .eq 16, 19, [32], 0, 0),
  (19, .aload_n 0, 20, [0], 0, 0),
  (20, .iload_n 2, 21, [2], 0, 0),
  (21, .invokevirtual 46, 24, [41, 319, 320, 321, 30, 322], 0, 0),
  (24, .aload_n 0, 25, [0], 0, 0),
  (25, .iload_n 1, 26, [1], 0, 0),
  (26, .invokevirtual 46, 29, [41, 319, 320, 321, 30, 322], 0, 0),
  (29, .if_icmp .ge 5, 32, [34], 0, 0),
  (32, .iload_n 2, 33, [2], 0, 0),
  (33, .istore_n 1, 34, [1], 0, 0),
  (34, .iinc 2 1, 37, [2], 1, 0),
  (37, .goto (-32), 40, [5], 0, 0),
  (40, .iload_n 1, 41, [1], 0, 0),
  (41, .ireturn, 42, [], 0, 0)]
/-- OdometerRing$Services.put(III)V -/
def cd47 : List (Nat × Row) := [(0, .iload_n 1, 1, [1], 0, 0),
  (1, .ifCond .lt 35, 4, [36], 0, 0),
  (4, .iload_n 1, 5, [1], 0, 0),
  (5, .aload_n 0, 6, [0], 0, 0),
  (6, .getfield 9, 9, [3, 1, 1, 129], 0, 0),
  (9, .arraylength, 10, [], 0, 0),
  (10, .if_icmp .ge 26, 13, [36], 0, 0),
  (13, .iload_n 1, 14, [1], 0, 0),
  (14, .aload_n 0, 15, [0], 0, 0),
  (15, .getfield 15, 18, [3, 2, 1, 130], 0, 0),
  (18, .arraylength, 19, [], 0, 0),
  (19, .if_icmp .ge 17, 22, [36], 0, 0),
  (22, .aload_n 0, 23, [0], 0, 0),
  (23, .getfield 9, 26, [3, 1, 1, 129], 0, 0),
  (26, .iload_n 1, 27, [1], 0, 0),
  (27, .iload_n 2, 28, [2], 0, 0),
  (28, .iastore, 29, [], 0, 0),
  (29, .aload_n 0, 30, [0], 0, 0),
  (30, .getfield 15, 33, [3, 2, 1, 130], 0, 0),
  (33, .iload_n 1, 34, [1], 0, 0),
  (34, .iload_n 3, 35, [3], 0, 0),
  (35, .iastore, 36, [], 0, 0),
  (36, .return_, 37, [], 0, 0)]
/-- OdometerRing$Shelf.<init>(I)V -/
def cd48 : List (Nat × Row) := [(0, .aload_n 0, 1, [0], 0, 0),
  (1, .invokespecial 1, 4, [0, 229, 48, 49], 0, 0),
  (4, .iconst 0, 5, [], 0, 0),
  (5, .iload_n 1, 6, [1], 0, 0),
  (6, .invokestatic 7, 9, [2, 230, 231, 31, 232], 0, 0),
  (9, .istore_n 2, 10, [2], 0, 0),
  (10, .aload_n 0, 11, [0], 0, 0),
  (11, .iload_n 2, 12, [2], 0, 0),
  (12, .anewarray 13, 15, [233], 0, 0),
  (15, .putfield 15, 18, [4, 0, 1, 1, 236], 0, 0),
  (18, .aload_n 0, 19, [0], 0, 0),
  (19, .iload_n 2, 20, [2], 0, 0),
  (20, .newarray .boolean, 22, [9, 243], 0, 0),
  (22, .putfield 21, 25, [4, 1, 1, 1, 237], 0, 0),
  (25, .iconst 0, 26, [], 0, 0),
  (26, .istore_n 3, 27, [3], 0, 0),
  (27, .iload_n 3, 28, [3], 0, 0),
  (28, .aload_n 0, 29, [0], 0, 0),
  (29, .getfield 15, 32, [4, 0, 1, 236], 0, 0),
  (32, .arraylength, 33, [], 0, 0),
  (33, .if_icmp .ge 22, 36, [55], 0, 0),
  (36, .aload_n 0, 37, [0], 0, 0),
  (37, .getfield 15, 40, [4, 0, 1, 236], 0, 0),
  (40, .iload_n 3, 41, [3], 0, 0),
  (41, .new 13, 44, [0, 2, 233, 93, 28], 0, 0),
  (44, .dup, 45, [], 0, 0),
  (45, .invokespecial 25, 48, [1, 19, 95, 28, 96, 235], 0, 0),
  (48, .aastore, 49, [], 0, 0),
  (49, .iinc 3 1, 52, [3], 1, 0),
  (52, .goto (-25), 55, [27], 0, 0),
  (55, .return_, 56, [], 0, 0)]
/-- OdometerRing$Shelf.isFull(I)Z -/
def cd49 : List (Nat × Row) := [(0, .iload_n 1, 1, [1], 0, 0),
  (1, .ifCond .lt 25, 4, [26], 0, 0),
  (4, .iload_n 1, 5, [1], 0, 0),
  (5, .aload_n 0, 6, [0], 0, 0),
  (6, .getfield 21, 9, [4, 1, 1, 237], 0, 0),
  (9, .arraylength, 10, [], 0, 0),
  (10, .if_icmp .ge 16, 13, [26], 0, 0),
  (13, .aload_n 0, 14, [0], 0, 0),
  (14, .getfield 21, 17, [4, 1, 1, 237], 0, 0),
  (17, .iload_n 1, 18, [1], 0, 0),
  (18, .baload, 19, [], 0, 0),
  (19, .ifCond .eq 7, 22, [26], 0, 0),
  (22, .iconst 1, 23, [], 1, 0),
  (23, .goto 4, 26, [27], 0, 0),
  (26, .iconst 0, 27, [], 0, 0),
  (27, .ireturn, 28, [], 0, 0)]
/-- OdometerRing$Shelf.emptyAll()V -/
def cd50 : List (Nat × Row) := [(0, .iconst 0, 1, [], 0, 0),
  (1, .istore_n 1, 2, [1], 0, 0),
  (2, .iload_n 1, 3, [1], 0, 0),
  (3, .aload_n 0, 4, [0], 0, 0),
  (4, .getfield 21, 7, [4, 1, 1, 237], 0, 0),
  (7, .arraylength, 8, [], 0, 0),
  (8, .if_icmp .ge 16, 11, [24], 0, 0),
  (11, .aload_n 0, 12, [0], 0, 0),
  (12, .getfield 21, 15, [4, 1, 1, 237], 0, 0),
  (15, .iload_n 1, 16, [1], 0, 0),
  (16, .iconst 0, 17, [], 0, 0),
  (17, .bastore, 18, [], 0, 0),
  (18, .iinc 1 1, 21, [1], 1, 0),
  (21, .goto (-19), 24, [2], 0, 0),
  (24, .return_, 25, [], 0, 0)]
/-- OdometerRing$Shelf.put(ILOdometerRing$Odometer;)V -/
def cd51 : List (Nat × Row) := [(0, .iload_n 1, 1, [1], 0, 0),
  (1, .ifCond .lt 21, 4, [22], 0, 0),
  (4, .iload_n 1, 5, [1], 0, 0),
  (5, .aload_n 0, 6, [0], 0, 0),
  (6, .getfield 15, 9, [4, 0, 1, 236], 0, 0),
  (9, .arraylength, 10, [], 0, 0),
  (10, .if_icmp .ge 12, 13, [22], 0, 0),
  (13, .iload_n 1, 14, [1], 0, 0),
  (14, .aload_n 0, 15, [0], 0, 0),
  (15, .getfield 21, 18, [4, 1, 1, 237], 0, 0),
  (18, .arraylength, 19, [], 0, 0),
  (19, .if_icmp .lt 4, 22, [23], 0, 0),
  (22, .return_, 23, [], 0, 0),
  (23, .aload_n 0, 24, [0], 0, 0),
  (24, .getfield 15, 27, [4, 0, 1, 236], 0, 0),
  (27, .iload_n 1, 28, [1], 0, 0),
  (28, .aaload, 29, [], 0, 0),
  (29, .astore_n 3, 30, [3], 0, 0),
  (30, .aload_n 3, 31, [3], 0, 0),
  (31, .ifnull 15, 34, [46], 0, 0),
  (34, .aload_n 3, 35, [3], 0, 0),
  (35, .aload_n 2, 36, [2], 0, 0),
  (36, .invokevirtual 26, 39, [21, 668, 669, 670, 28, 671], 0, 0),
  (39, .aload_n 0, 40, [0], 0, 0),
  (40, .getfield 21, 43, [4, 1, 1, 237], 0, 0),
  (43, .iload_n 1, 44, [1], 0, 0),
  (44, .iconst 1, 45, [], 1, 0),
  (45, .bastore, 46, [], 0, 0),
  (46, .return_, 47, [], 0, 0)]
/-- OdometerRing$Shelf.take(ILOdometerRing$Odometer;)V -/
def cd52 : List (Nat × Row) := [(0, .iload_n 1, 1, [1], 0, 0),
  (1, .ifCond .lt 12, 4, [13], 0, 0),
  (4, .iload_n 1, 5, [1], 0, 0),
  (5, .aload_n 0, 6, [0], 0, 0),
  (6, .getfield 15, 9, [4, 0, 1, 236], 0, 0),
  (9, .arraylength, 10, [], 0, 0),
  (10, .if_icmp .lt 4, 13, [14], 0, 0),
  (13, .return_, 14, [], 0, 0),
  (14, .aload_n 0, 15, [0], 0, 0),
  (15, .getfield 15, 18, [4, 0, 1, 236], 0, 0),
  (18, .iload_n 1, 19, [1], 0, 0),
  (19, .aaload, 20, [], 0, 0),
  (20, .astore_n 3, 21, [3], 0, 0),
  (21, .aload_n 3, 22, [3], 0, 0),
  (22, .ifnull 8, 25, [30], 0, 0),
  (25, .aload_n 2, 26, [2], 0, 0),
  (26, .aload_n 3, 27, [3], 0, 0),
  (27, .invokevirtual 26, 30, [21, 668, 669, 670, 28, 671], 0, 0),
  (30, .return_, 31, [], 0, 0)]
/-- OdometerRing$Story.<init>()V -/
def cd53 : List (Nat × Row) := [(0, .aload_n 0, 1, [0], 0, 0),
  (1, .invokespecial 3, 4, [0, 55, 48, 49], 0, 0),
  (4, .aload_n 0, 5, [0], 0, 0),
  (5, .bipush 90, 7, [], 90, 0),
  (7, .newarray .int, 9, [8, 91], 0, 0),
  (9, .putfield 9, 12, [5, 8, 1, 1, 71], 0, 0),
  (12, .return_, 13, [], 0, 0)]
/-- OdometerRing$Story.add(I)I -/
def cd54 : List (Nat × Row) := [(0, .aload_n 0, 1, [0], 0, 0),
  (1, .getfield 15, 4, [5, 0, 0, 56], 0, 0),
  (4, .ifCond .lt 35, 7, [39], 0, 0),
  (7, .aload_n 0, 8, [0], 0, 0),
  (8, .getfield 15, 11, [5, 0, 0, 56], 0, 0),
  (11, .aload_n 0, 12, [0], 0, 0),
  (12, .getfield 9, 15, [5, 8, 1, 71], 0, 0),
  (15, .arraylength, 16, [], 0, 0),
  (16, .if_icmp .ge 23, 19, [39], 0, 0),
  (19, .aload_n 0, 20, [0], 0, 0),
  (20, .getfield 9, 23, [5, 8, 1, 71], 0, 0),
  (23, .aload_n 0, 24, [0], 0, 0),
  (24, .getfield 15, 27, [5, 0, 0, 56], 0, 0),
  (27, .iload_n 1, 28, [1], 0, 0),
  (28, .iastore, 29, [], 0, 0),
  (29, .aload_n 0, 30, [0], 0, 0),
  (30, .dup, 31, [], 0, 0),
  (31, .getfield 15, 34, [5, 0, 0, 56], 0, 0),
  (34, .iconst 1, 35, [], 1, 0),
  (35, .iadd, 36, [], 0, 0),
  (36, .putfield 15, 39, [5, 0, 0, 0, 56], 0, 0),
  (39, .aload_n 0, 40, [0], 0, 0),
  (40, .getfield 15, 43, [5, 0, 0, 56], 0, 0),
  (43, .ireturn, 44, [], 0, 0)]
/-- OdometerRing$Story.empty()I -/
def cd55 : List (Nat × Row) := [(0, .aload_n 0, 1, [0], 0, 0),
  (1, .getfield 15, 4, [5, 0, 0, 56], 0, 0),
  (4, .istore_n 1, 5, [1], 0, 0),
  (5, .aload_n 0, 6, [0], 0, 0),
  (6, .iconst 0, 7, [], 0, 0),
  (7, .putfield 15, 10, [5, 0, 0, 0, 56], 0, 0),
  (10, .iload_n 1, 11, [1], 0, 0),
  (11, .ireturn, 12, [], 0, 0)]
/-- OdometerRing$Story.errorAt()I -/
def cd56 : List (Nat × Row) := [(0, .aload_n 0, 1, [0], 0, 0),
  (1, .invokevirtual 19, 4, [58, 289, 290, 291, 27, 292], 0, 0),
  (4, .ifCond .ne 8, 7, [12], 0, 0),
  (7, .aload_n 0, 8, [0], 0, 0),
  (8, .getfield 23, 11, [5, 7, 0, 70], 0, 0),
  (11, .ireturn, 12, [], 0, 0),
  (12, .iconst 0, 13, [], 0, 0),
  (13, .istore_n 1, 14, [1], 0, 0),
  (14, .iload_n 1, 15, [1], 0, 0),
  (15, .bipush 90, 17, [], 90, 0),
  (17, .if_icmp .ge 28, 20, [45], 0, 0),
  (20, .aload_n 0, 21, [0], 0, 0),
  (21, .invokevirtual 26, 24, [57, 302, 303, 304, 27, 305], 0, 0),
  (24, .ifCond .ne 21, 27, [45], 0, 0),
  (27, .aload_n 0, 28, [0], 0, 0),
  (28, .invokevirtual 29, 31, [59, 306, 307, 308, 27, 309], 0, 0),
  (31, .ifCond .ne 8, 34, [39], 0, 0),
  (34, .aload_n 0, 35, [0], 0, 0),
  (35, .getfield 23, 38, [5, 7, 0, 70], 0, 0),
  (38, .ireturn, 39, [], 0, 0),
  (39, .iinc 1 1, 42, [1], 1, 0),
  (42, .goto (-28), 45, [14], 0, 0),
  (45, .ldc 32, 47, [297], (-99999), 0),
  (47, .ireturn, 48, [], 0, 0)]
/-- OdometerRing$Story.isAtEnd()Z -/
def cd57 : List (Nat × Row) := [(0, .aload_n 0, 1, [0], 0, 0),
  (1, .getfield 23, 4, [5, 7, 0, 70], 0, 0),
  (4, .aload_n 0, 5, [0], 0, 0),
  (5, .getfield 15, 8, [5, 0, 0, 56], 0, 0),
  (8, .if_icmp .lt 7, 11, [15], 0, 0),
  (11, .iconst 1, 12, [], 1, 0),
  (12, .goto 4, 15, [16], 0, 0),
  (15, .iconst 0, 16, [], 0, 0),
  (16, .ireturn, 17, [], 0, 0)]
/-- OdometerRing$Story.readHead()Z -/
def cd58 : List (Nat × Row) := [(0, .aload_n 0, 1, [0], 0, 0),
  (1, .iconst 0, 2, [], 0, 0),
  (2, .putfield 23, 5, [5, 7, 0, 0, 70], 0, 0),
  (5, .aload_n 0, 6, [0], 0, 0),
  (6, .invokevirtual 33, 9, [61, 293, 295, 0, 27, 296], 0, 0),
  (9, .bipush 79, 11, [], 79, 0),
  (11, .if_icmp .eq 5, 14, [16], 0, 0),
  (14, .iconst 0, 15, [], 0, 0),
  (15, .ireturn, 16, [], 0, 0),
  (16, .aload_n 0, 17, [0], 0, 0),
  (17, .dup, 18, [], 0, 0),
  (18, .getfield 23, 21, [5, 7, 0, 70], 0, 0),
  (21, .iconst 1, 22, [], 1, 0),
  (22, .iadd, 23, [], 0, 0),
  (23, .putfield 23, 26, [5, 7, 0, 0, 70], 0, 0),
  (26, .aload_n 0, 27, [0], 0, 0),
  (27, .aload_n 0, 28, [0], 0, 0),
  (28, .iconst 2, 29, [], 2, 0),
  (29, .iconst 3, 30, [], 3, 0),
  (30, .bipush 12, 32, [], 12, 0),
  (32, .invokevirtual 37, 35, [60, 298, 300, 1, 27, 301], 0, 0),
  (35, .putfield 41, 38, [5, 1, 0, 0, 59], 0, 0),
  (38, .aload_n 0, 39, [0], 0, 0),
  (39, .aload_n 0, 40, [0], 0, 0),
  (40, .getfield 41, 43, [5, 1, 0, 59], 0, 0),
  (43, .ldc 32, 45, [297], (-99999), 0),
  (45, .if_icmp .ne 8, 48, [53], 0, 0),
  (48, .ldc 32, 50, [297], (-99999), 0),
  (50, .goto 11, 53, [61], 0, 0),
  (53, .aload_n 0, 54, [0], 0, 0),
  (54, .iconst 2, 55, [], 2, 0),
  (55, .iconst 1, 56, [], 1, 0),
  (56, .bipush 99, 58, [], 99, 0),
  (58, .invokevirtual 37, 61, [60, 298, 300, 1, 27, 301], 0, 0),
  (61, .putfield 44, 64, [5, 2, 0, 0, 61], 0, 0),
  (64, .aload_n 0, 65, [0], 0, 0),
  (65, .aload_n 0, 66, [0], 0, 0),
  (66, .getfield 44, 69, [5, 2, 0, 61], 0, 0),
  (69, .ldc 32, 71, [297], (-99999), 0),
  (71, .if_icmp .ne 8, 74, [79], 0, 0),
  (74, .ldc 32, 76, [297], (-99999), 0),
  (76, .goto 13, 79, [89], 0, 0),
  (79, .aload_n 0, 80, [0], 0, 0),
  (80, .iconst 3, 81, [], 3, 0),
  (81, .bipush 10, 83, [], 10, 0),
  (83, .sipush 999, 86, [], 999, 0),
  (86, .invokevirtual 37, 89, [60, 298, 300, 1, 27, 301], 0, 0),
  (89, .putfield 47, 92, [5, 3, 0, 0, 63], 0, 0),
  (92, .aload_n 0, 93, [0], 0, 0),
  (93, .getfield 47, 96, [5, 3, 0, 63], 0, 0),
  (96, .ldc 32, 98, [297], (-99999), 0),
  (98, .if_icmp .eq 7, 101, [105], 0, 0),
  (101, .iconst 1, 102, [], 1, 0),
  (102, .goto 4, 105, [106], 0, 0),
  (105, .iconst 0, 106, [], 0, 0),
  (106, .ireturn, 107, [], 0, 0)]
/-- OdometerRing$Story.readCommand()Z -/
def cd59 : List (Nat × Row) := [(0, .aload_n 0, 1, [0], 0, 0),
  (1, .aload_n 0, 2, [0], 0, 0),
  (2, .invokevirtual 33, 5, [61, 293, 295, 0, 27, 296], 0, 0),
  (5, .putfield 50, 8, [5, 4, 0, 0, 65], 0, 0),
  (8, .aload_n 0, 9, [0], 0, 0),
  (9, .iconst 0, 10, [], 0, 0),
  (10, .putfield 53, 13, [5, 5, 0, 0, 67], 0, 0),
  (13, .aload_n 0, 14, [0], 0, 0),
  (14, .iconst 0, 15, [], 0, 0),
  (15, .putfield 56, 18, [5, 6, 0, 0, 69], 0, 0),
  (18, .aload_n 0, 19, [0], 0, 0),
  (19, .getfield 50, 22, [5, 4, 0, 65], 0, 0),
  (22, .lookupswitch 219 #[(99, 76), (100, 50), (109, 139), (114, 190), (115, 126)], 72, [241, 99, 98, 100, 72, 109, 161, 114, 212, 115, 148], 0, 0),
  (72, .aload_n 0, 73, [0], 0, 0),
  (73, .dup, 74, [], 0, 0),
  (74, .getfield 23, 77, [5, 7, 0, 70], 0, 0),
  (77, .iconst 1, 78, [], 1, 0),
  (78, .iadd, 79, [], 0, 0),
  (79, .putfield 23, 82, [5, 7, 0, 0, 70], 0, 0),
  (82, .aload_n 0, 83, [0], 0, 0),
  (83, .aload_n 0, 84, [0], 0, 0),
  (84, .iconst 3, 85, [], 3, 0),
  (85, .iconst 1, 86, [], 1, 0),
  (86, .sipush 999, 89, [], 999, 0),
  (89, .invokevirtual 37, 92, [60, 298, 300, 1, 27, 301], 0, 0),
  (92, .putfield 53, 95, [5, 5, 0, 0, 67], 0, 0),
  (95, .goto 148, 98, [243], 0, 0),
  (98, .aload_n 0, 99, [0], 0, 0),
  (99, .dup, 100, [], 0, 0),
  (100, .getfield 23, 103, [5, 7, 0, 70], 0, 0),
  (103, .iconst 1, 104, [], 1, 0),
  (104, .iadd, 105, [], 0, 0),
  (105, .putfield 23, 108, [5, 7, 0, 0, 70], 0, 0),
  (108, .aload_n 0, 109, [0], 0, 0),
  (109, .aload_n 0, 110, [0], 0, 0),
  (110, .iconst 2, 111, [], 2, 0),
  (111, .iconst 1, 112, [], 1, 0),
  (112, .bipush 36, 114, [], 36, 0),
  (114, .invokevirtual 37, 117, [60, 298, 300, 1, 27, 301], 0, 0),
  (117, .putfield 53, 120, [5, 5, 0, 0, 67], 0, 0),
  (120, .aload_n 0, 121, [0], 0, 0),
  (121, .aload_n 0, 122, [0], 0, 0),
  (122, .getfield 53, 125, [5, 5, 0, 67], 0, 0),
  (125, .ldc 32, 127, [297], (-99999), 0),
  (127, .if_icmp .ne 8, 130, [135], 0, 0),
  (130, .ldc 32, 132, [297], (-99999), 0),
  (132, .goto 10, 135, [142], 0, 0),
  (135, .aload_n 0, 136, [0], 0, 0),
  (136, .iconst 1, 137, [], 1, 0),
  (137, .iconst 0, 138, [], 0, 0),
  (138, .iconst 2, 139, [], 2, 0),
  (139, .invokevirtual 37, 142, [60, 298, 300, 1, 27, 301], 0, 0),
  (142, .putfield 56, 145, [5, 6, 0, 0, 69], 0, 0),
  (145, .goto 98, 148, [243], 0, 0),
  (148, .aload_n 0, 149, [0], 0, 0),
  (149, .dup, 150, [], 0, 0),
  (150, .getfield 23, 153, [5, 7, 0, 70], 0, 0),
  (153, .iconst 1, 154, [], 1, 0),
  (154, .iadd, 155, [], 0, 0),
  (155, .putfield 23, 158, [5, 7, 0, 0, 70], 0, 0),
  (158, .goto 85, 161, [243], 0, 0),
  (161, .aload_n 0, 162, [0], 0, 0),
  (162, .dup, 163, [], 0, 0),
  (163, .getfield 23, 166, [5, 7, 0, 70], 0, 0),
  (166, .iconst 1, 167, [], 1, 0),
  (167, .iadd, 168, [], 0, 0),
  (168, .putfield 23, 171, [5, 7, 0, 0, 70], 0, 0),
  (171, .aload_n 0, 172, [0], 0, 0),
  (172, .aload_n 0, 173, [0], 0, 0),
  (173, .iconst 1, 174, [], 1, 0),
  (174, .iconst 0, 175, [], 0, 0),
  (175, .bipush 9, 177, [], 9, 0),
  (177, .invokevirtual 37, 180, [60, 298, 300, 1, 27, 301], 0, 0),
  (180, .putfield 53, 183, [5, 5, 0, 0, 67], 0, 0),
  (183, .aload_n 0, 184, [0], 0, 0),
  (184, .aload_n 0, 185, [0], 0, 0),
  (185, .getfield 53, 188, [5, 5, 0, 67], 0, 0),
  (188, .ldc 32, 190, [297], (-99999), 0),
  (190, .if_icmp .ne 8, 193, [198], 0, 0),
  (193, .ldc 32, 195, [297], (-99999), 0),
  (195, .goto 11, 198, [206], 0, 0),
  (198, .aload_n 0, 199, [0], 0, 0),
  (199, .iconst 1, 200, [], 1, 0),
  (200, .iconst 0, 201, [], 0, 0),
  (201, .bipush 9, 203, [], 9, 0),
  (203, .invokevirtual 37, 206, [60, 298, 300, 1, 27, 301], 0, 0),
  (206, .putfield 56, 209, [5, 6, 0, 0, 69], 0, 0),
  (209, .goto 34, 212, [243], 0, 0),
  (212, .aload_n 0, 213, [0], 0, 0),
  (213, .dup, 214, [], 0, 0),
  (214, .getfield 23, 217, [5, 7, 0, 70], 0, 0),
  (217, .iconst 1, 218, [], 1, 0),
  (218, .iadd, 219, [], 0, 0),
  (219, .putfield 23, 222, [5, 7, 0, 0, 70], 0, 0),
  (222, .aload_n 0, 223, [0], 0, 0),
  (223, .aload_n 0, 224, [0], 0, 0),
  (224, .iconst 2, 225, [], 2, 0),
  (225, .iconst 0, 226, [], 0, 0),
  (226, .aload_n 0, 227, [0], 0, 0),
  (227, .getfield 41, 230, [5, 1, 0, 59], 0, 0),
  (230, .iconst 1, 231, [], 1, 0),
  (231, .isub, 232, [], 0, 0),
  (232, .invokevirtual 37, 235, [60, 298, 300, 1, 27, 301], 0, 0),
  (235, .putfield 53, 238, [5, 5, 0, 0, 67], 0, 0),
  (238, .goto 5, 241, [243], 0, 0),
  (241, .iconst 0, 242, [], 0, 0),
  (242, .ireturn, 243, [], 0, 0),
  (243, .aload_n 0, 244, [0], 0, 0),
  (244, .getfield 53, 247, [5, 5, 0, 67], 0, 0),
  (247, .ldc 32, 249, [297], (-99999), 0),
  (249, .if_icmp .eq 16, 252, [265], 0, 0),
  (252, .aload_n 0, 253, [0], 0, 0),
  (253, .getfield 56, 256, [5, 6, 0, 69], 0, 0),
  (256, .ldc 32, 258, [297], (-99999), 0),
  (258, .if_icmp .eq 7, 261, [265], 0, 0),
  (261, .iconst 1, 262, [], 1, 0),
  (262, .goto 4, 265, [266], 0, 0),
  (265, .iconst 0, 266, [], 0, 0),
  (266, .ireturn, 267, [], 0, 0)]
/-- OdometerRing$Story.readNumber(III)I -/
def cd60 : List (Nat × Row) := [(0, .iconst 1, 1, [], 1, 0),
  (1, .istore 4, 3, [4], 0, 0),
  (3, .iconst 0, 4, [], 0, 0),
  (4, .istore 5, 6, [5], 0, 0),
  (6, .iload 5, 8, [5], 0, 0),
  (8, .iload_n 1, 9, [1], 0, 0),
  (9, .if_icmp .ge 16, 12, [25], 0, 0),
  (12, .iload 4, 14, [4], 0, 0),
  (14, .bipush 10, 16, [], 10, 0),
  (16, .imul, 17, [], 0, 0),
  (17, .istore 4, 19, [4], 0, 0),
  (19, .iinc 5 1, 22, [5], 1, 0),
  (22, .goto (-16), 25, [6], 0, 0),
  (25, .iconst 0, 26, [], 0, 0),
  (26, .istore 5, 28, [5], 0, 0),
  (28, .iconst 0, 29, [], 0, 0),
  (29, .istore 6, 31, [6], 0, 0),
  (31, .iload 6, 33, [6], 0, 0),
  (33, .iload_n 1, 34, [1], 0, 0),
  (34, .if_icmp .ge 79, 37, [113], 0, 0),
  (37, .iload 4, 39, [4], 0, 0),
  (39, .bipush 10, 41, [], 10, 0),
  (41, .idiv, 42, [], 0, 0),
  (42, .istore 4, 44, [4], 0, 0),
  (44, .aload_n 0, 45, [0], 0, 0),
  (45, .invokevirtual 33, 48, [61, 293, 295, 0, 27, 296], 0, 0),
  (48, .bipush 48, 50, [], 48, 0),
  (50, .isub, 51, [], 0, 0),
  (51, .istore 7, 53, [7], 0, 0),
  (53, .iload 5, 55, [5], 0, 0),
  (55, .iload 7, 57, [7], 0, 0),
  (57, .iload 4, 59, [4], 0, 0),
  (59, .imul, 60, [], 0, 0),
  (60, .iadd, 61, [], 0, 0),
  (61, .istore 8, 63, [8], 0, 0),
  (63, .iload 7, 65, [7], 0, 0),
  (65, .ifCond .lt 25, 68, [90], 0, 0),
  (68, .iload 7, 70, [7], 0, 0),
  (70, .bipush 9, 72, [], 9, 0),
  (72, .if_icmp .gt 18, 75, [90], 0, 0),
  (75, .iload 8, 77, [8], 0, 0),
  (77, .iload_n 3, 78, [3], 0, 0),
  (78, .if_icmp .gt 12, 81, [90], 0, 0),
  (81, .iload 8, 83, [8], 0, 0),
  (83, .iload 4, 85, [4], 0, 0),
  (85, .iadd, 86, [], 0, 0),
  (86, .iload_n 2, 87, [2], 0, 0),
  (87, .if_icmp .gt 6, 90, [93], 0, 0),
  (90, .ldc 32, 92, [297], (-99999), 0),
  (92, .ireturn, 93, [], 0, 0),
  (93, .iload 8, 95, [8], 0, 0),
  (95, .istore 5, 97, [5], 0, 0),
  (97, .aload_n 0, 98, [0], 0, 0),
  (98, .dup, 99, [], 0, 0),
  (99, .getfield 23, 102, [5, 7, 0, 70], 0, 0),
  (102, .iconst 1, 103, [], 1, 0),
  (103, .iadd, 104, [], 0, 0),
  (104, .putfield 23, 107, [5, 7, 0, 0, 70], 0, 0),
  (107, .iinc 6 1, 110, [6], 1, 0),
  (110, .goto (-79), 113, [31], 0, 0),
  (113, .iload 5, 115, [5], 0, 0),
  (115, .ireturn, 116, [], 0, 0)]
/-- OdometerRing$Story.signHere()I -/
def cd61 : List (Nat × Row) := [(0, .aload_n 0, 1, [0], 0, 0),
  (1, .getfield 23, 4, [5, 7, 0, 70], 0, 0),
  (4, .ifCond .lt 38, 7, [42], 0, 0),
  (7, .aload_n 0, 8, [0], 0, 0),
  (8, .getfield 23, 11, [5, 7, 0, 70], 0, 0),
  (11, .aload_n 0, 12, [0], 0, 0),
  (12, .getfield 15, 15, [5, 0, 0, 56], 0, 0),
  (15, .if_icmp .ge 27, 18, [42], 0, 0),
  (18, .aload_n 0, 19, [0], 0, 0),
  (19, .getfield 23, 22, [5, 7, 0, 70], 0, 0),
  (22, .aload_n 0, 23, [0], 0, 0),
  (23, .getfield 9, 26, [5, 8, 1, 71], 0, 0),
  (26, .arraylength, 27, [], 0, 0),
  (27, .if_icmp .ge 15, 30, [42], 0, 0),
  (30, .aload_n 0, 31, [0], 0, 0),
  (31, .getfield 9, 34, [5, 8, 1, 71], 0, 0),
  (34, .aload_n 0, 35, [0], 0, 0),
  (35, .getfield 23, 38, [5, 7, 0, 70], 0, 0),
  (38, .iaload, 39, [], 0, 0),
  (39, .goto 5, 42, [44], 0, 0),
  (42, .ldc 32, 44, [297], (-99999), 0),
  (44, .ireturn, 45, [], 0, 0)]
/-- OdometerRing.<init>()V -/
def cd62 : List (Nat × Row) := [(0, .aload_n 0, 1, [0], 0, 0),
  (1, .invokespecial 1, 4, [0, 47, 48, 49], 0, 0),
  (4, .aload_n 0, 5, [0], 0, 0),
  (5, .new 7, 8, [0, 5, 50, 51, 27], 0, 0),
  (8, .dup, 9, [], 0, 0),
  (9, .invokespecial 9, 12, [2, 53, 53, 27, 54, 0], 0, 0),
  (12, .putfield 10, 15, [6, 0, 1, 1, 257], 0, 0),
  (15, .aload_n 0, 16, [0], 0, 0),
  (16, .new 16, 19, [0, 2, 92, 93, 28], 0, 0),
  (19, .dup, 20, [], 0, 0),
  (20, .invokespecial 18, 23, [1, 19, 95, 28, 96, 94], 0, 0),
  (23, .putfield 19, 26, [6, 1, 1, 1, 258], 0, 0),
  (26, .aload_n 0, 27, [0], 0, 0),
  (27, .new 16, 30, [0, 2, 92, 93, 28], 0, 0),
  (30, .dup, 31, [], 0, 0),
  (31, .invokespecial 18, 34, [1, 19, 95, 28, 96, 94], 0, 0),
  (34, .putfield 23, 37, [6, 2, 1, 1, 259], 0, 0),
  (37, .aload_n 0, 38, [0], 0, 0),
  (38, .new 26, 41, [0, 1, 218, 219, 32], 0, 0),
  (41, .dup, 42, [], 0, 0),
  (42, .invokespecial 28, 45, [2, 15, 221, 32, 222, 3], 0, 0),
  (45, .putfield 29, 48, [6, 3, 1, 1, 260], 0, 0),
  (48, .aload_n 0, 49, [0], 0, 0),
  (49, .new 33, 52, [0, 4, 255, 225, 33], 0, 0),
  (52, .dup, 53, [], 0, 0),
  (53, .iconst 2, 54, [], 2, 0),
  (54, .invokespecial 35, 57, [1, 48, 227, 33, 228, 256], 0, 0),
  (57, .putfield 38, 60, [6, 4, 1, 1, 261], 0, 0),
  (60, .return_, 61, [], 0, 0)]
/-- OdometerRing.append(I)I -/
def cd63 : List (Nat × Row) := [(0, .iload_n 1, 1, [1], 0, 0),
  (1, .ifCond .lt 10, 4, [11], 0, 0),
  (4, .iload_n 1, 5, [1], 0, 0),
  (5, .sipush 255, 8, [], 255, 0),
  (8, .if_icmp .le 13, 11, [21], 0, 0),
  (11, .new 42, 21, [1, 0, 0, 44, 46, 0, 337, 38], 0, 0),
  (21, .aload_n 0, 22, [0], 0, 0),
  (22, .getfield 10, 25, [6, 0, 1, 257], 0, 0),
  (25, .getfield 49, 28, [5, 0, 0, 57], 0, 0),
  (28, .bipush 90, 30, [], 90, 0),
  (30, .if_icmp .lt 13, 33, [43], 0, 0),
  (33, .new 53, 43, [1, 1, 0, 55, 57, 1, 405, 39], 0, 0),
  (43, .aload_n 0, 44, [0], 0, 0),
  (44, .getfield 10, 47, [6, 0, 1, 257], 0, 0),
  (47, .iload_n 1, 48, [1], 0, 0),
  (48, .invokevirtual 58, 51, [54, 421, 422, 423, 27, 424], 0, 0),
  (51, .ireturn, 52, [], 0, 0)]
/-- OdometerRing.clearText()I -/
def cd64 : List (Nat × Row) := [(0, .aload_n 0, 1, [0], 0, 0),
  (1, .getfield 10, 4, [6, 0, 1, 257], 0, 0),
  (4, .invokevirtual 62, 7, [55, 277, 278, 279, 27, 280], 0, 0),
  (7, .ireturn, 8, [], 0, 0)]
/-- OdometerRing.errorPosition()I -/
def cd65 : List (Nat × Row) := [(0, .aload_n 0, 1, [0], 0, 0),
  (1, .getfield 10, 4, [6, 0, 1, 257], 0, 0),
  (4, .invokevirtual 66, 7, [56, 285, 286, 287, 27, 288], 0, 0),
  (7, .ireturn, 8, [], 0, 0)]
/-- OdometerRing.load()I -/
def cd66 : List (Nat × Row) := [(0, .aload_n 0, 1, [0], 0, 0),
  (1, .getfield 10, 4, [6, 0, 1, 257], 0, 0),
  (4, .invokevirtual 66, 7, [56, 285, 286, 287, 27, 288], 0, 0),
  (7, .ldc 69, 9, [323], (-99999), 0),
  (9, .if_icmp .ne 13, 12, [22], 0, 0),
  (12, .aload_n 0, 13, [0], 0, 0),
  (13, .getfield 10, 16, [6, 0, 1, 257], 0, 0),
  (16, .invokevirtual 70, 19, [58, 432, 290, 291, 27, 292], 0, 0),
  (19, .ifCond .ne 13, 22, [32], 0, 0),
  (22, .new 53, 32, [1, 1, 0, 74, 57, 2, 405, 39], 0, 0),
  (32, .aload_n 0, 33, [0], 0, 0),
  (33, .getfield 19, 36, [6, 1, 1, 258], 0, 0),
  (36, .aload_n 0, 37, [0], 0, 0),
  (37, .getfield 10, 40, [6, 0, 1, 257], 0, 0),
  (40, .getfield 76, 43, [5, 1, 0, 58], 0, 0),
  (43, .aload_n 0, 44, [0], 0, 0),
  (44, .getfield 10, 47, [6, 0, 1, 257], 0, 0),
  (47, .getfield 79, 50, [5, 2, 0, 60], 0, 0),
  (50, .aload_n 0, 51, [0], 0, 0),
  (51, .getfield 10, 54, [6, 0, 1, 257], 0, 0),
  (54, .getfield 82, 57, [5, 3, 0, 62], 0, 0),
  (57, .invokevirtual 85, 60, [20, 434, 139, 140, 28, 141], 0, 0),
  (60, .aload_n 0, 61, [0], 0, 0),
  (61, .getfield 29, 64, [6, 3, 1, 260], 0, 0),
  (64, .invokevirtual 89, 67, [18, 435, 436, 437, 32, 438], 0, 0),
  (67, .aload_n 0, 68, [0], 0, 0),
  (68, .getfield 38, 71, [6, 4, 1, 261], 0, 0),
  (71, .invokevirtual 92, 74, [50, 439, 440, 441, 33, 442], 0, 0),
  (74, .iconst 0, 75, [], 0, 0),
  (75, .istore_n 1, 76, [1], 0, 0),
  (76, .iconst 0, 77, [], 0, 0),
  (77, .istore_n 2, 78, [2], 0, 0),
  (78, .iload_n 2, 79, [2], 0, 0),
  (79, .bipush 90, 81, [], 90, 0),
  (81, .if_icmp .ge 63, 84, [144], 0, 0),
  (84, .aload_n 0, 85, [0], 0, 0),
  (85, .getfield 10, 88, [6, 0, 1, 257], 0, 0),
  (88, .invokevirtual 95, 91, [57, 443, 303, 304, 27, 305], 0, 0),
  (91, .ifCond .ne 53, 94, [144], 0, 0),
  (94, .aload_n 0, 95, [0], 0, 0),
  (95, .getfield 10, 98, [6, 0, 1, 257], 0, 0),
  (98, .invokevirtual 98, 101, [59, 444, 307, 308, 27, 309], 0, 0),
  (101, .ifCond .eq 34, 104, [135], 0, 0),
  (104, .aload_n 0, 105, [0], 0, 0),
  (105, .getfield 19, 108, [6, 1, 1, 258], 0, 0),
  (108, .aload_n 0, 109, [0], 0, 0),
  (109, .getfield 10, 112, [6, 0, 1, 257], 0, 0),
  (112, .getfield 101, 115, [5, 4, 0, 64], 0, 0),
  (115, .aload_n 0, 116, [0], 0, 0),
  (116, .getfield 10, 119, [6, 0, 1, 257], 0, 0),
  (119, .getfield 104, 122, [5, 5, 0, 66], 0, 0),
  (122, .aload_n 0, 123, [0], 0, 0),
  (123, .getfield 10, 126, [6, 0, 1, 257], 0, 0),
  (126, .getfield 107, 129, [5, 6, 0, 68], 0, 0),
  (129, .invokevirtual 110, 132, [34, 445, 446, 447, 28, 448], 0, 0),
  (132, .ifCond .ne 6, 135, [138], 0, 0),
  (135, .iinc 1 1, 138, [1], 1, 0),
  (138, .iinc 2 1, 141, [2], 1, 0),
  (141, .goto (-63), 144, [78], 0, 0),
  (144, .iload_n 1, 145, [1], 0, 0),
  (145, .ireturn, 146, [], 0, 0)]
/-- OdometerRing.about(I)I -/
def cd67 : List (Nat × Row) := [(0, .iload_n 1, 1, [1], 0, 0),
  (1, .ifCond .lt 9, 4, [10], 0, 0),
  (4, .iload_n 1, 5, [1], 0, 0),
  (5, .bipush 14, 7, [], 14, 0),
  (7, .if_icmp .le 13, 10, [20], 0, 0),
  (10, .new 42, 20, [1, 0, 0, 114, 46, 3, 337, 38], 0, 0),
  (20, .iload_n 1, 21, [1], 0, 0),
  (21, .bipush 8, 23, [], 8, 0),
  (23, .if_icmp .ge 14, 26, [37], 0, 0),
  (26, .aload_n 0, 27, [0], 0, 0),
  (27, .getfield 19, 30, [6, 1, 1, 258], 0, 0),
  (30, .iload_n 1, 31, [1], 0, 0),
  (31, .invokevirtual 116, 34, [22, 553, 554, 555, 28, 556], 0, 0),
  (34, .goto 11, 37, [45], 0, 0),
  (37, .aload_n 0, 38, [0], 0, 0),
  (38, .getfield 19, 41, [6, 1, 1, 258], 0, 0),
  (41, .iload_n 1, 42, [1], 0, 0),
  (42, .invokevirtual 119, 45, [23, 557, 558, 559, 28, 560], 0, 0),
  (45, .ireturn, 46, [], 0, 0)]
/-- OdometerRing.cell(III)I -/
def cd68 : List (Nat × Row) := [(0, .aload_n 0, 1, [0], 0, 0),
  (1, .getfield 19, 4, [6, 1, 1, 258], 0, 0),
  (4, .getfield 122, 7, [2, 0, 1, 155], 0, 0),
  (7, .iload_n 1, 8, [1], 0, 0),
  (8, .invokevirtual 126, 11, [3, 578, 541, 542, 29, 543], 0, 0),
  (11, .ifCond .eq 12, 14, [23], 0, 0),
  (14, .iload_n 2, 15, [2], 0, 0),
  (15, .ifCond .lt 8, 18, [23], 0, 0),
  (18, .iload_n 2, 19, [2], 0, 0),
  (19, .iconst 3, 20, [], 3, 0),
  (20, .if_icmp .lt 13, 23, [33], 0, 0),
  (23, .new 132, 33, [1, 2, 0, 134, 136, 4, 579, 40], 0, 0),
  (33, .iload_n 3, 34, [3], 0, 0),
  (34, .ifCond .lt 8, 37, [42], 0, 0),
  (37, .iload_n 3, 38, [3], 0, 0),
  (38, .iconst 2, 39, [], 2, 0),
  (39, .if_icmp .le 13, 42, [52], 0, 0),
  (42, .new 42, 52, [1, 0, 0, 137, 46, 5, 337, 38], 0, 0),
  (52, .iload_n 3, 53, [3], 0, 0),
  (53, .ifCond .ne 16, 56, [69], 0, 0),
  (56, .aload_n 0, 57, [0], 0, 0),
  (57, .getfield 19, 60, [6, 1, 1, 258], 0, 0),
  (60, .getfield 122, 63, [2, 0, 1, 155], 0, 0),
  (63, .iload_n 1, 64, [1], 0, 0),
  (64, .iload_n 2, 65, [2], 0, 0),
  (65, .invokevirtual 139, 68, [5, 596, 469, 470, 29, 471], 0, 0),
  (68, .ireturn, 69, [], 0, 0),
  (69, .iload_n 3, 70, [3], 0, 0),
  (70, .iconst 1, 71, [], 1, 0),
  (71, .if_icmp .ne 16, 74, [87], 0, 0),
  (74, .aload_n 0, 75, [0], 0, 0),
  (75, .getfield 19, 78, [6, 1, 1, 258], 0, 0),
  (78, .getfield 122, 81, [2, 0, 1, 155], 0, 0),
  (81, .iload_n 1, 82, [1], 0, 0),
  (82, .iload_n 2, 83, [2], 0, 0),
  (83, .invokevirtual 143, 86, [6, 597, 566, 567, 29, 568], 0, 0),
  (86, .ireturn, 87, [], 0, 0),
  (87, .aload_n 0, 88, [0], 0, 0),
  (88, .getfield 19, 91, [6, 1, 1, 258], 0, 0),
  (91, .getfield 122, 94, [2, 0, 1, 155], 0, 0),
  (94, .iload_n 1, 95, [1], 0, 0),
  (95, .iload_n 2, 96, [2], 0, 0),
  (96, .invokevirtual 146, 99, [7, 598, 599, 600, 29, 601], 0, 0),
  (99, .ifCond .eq 7, 102, [106], 0, 0),
  (102, .iconst 1, 103, [], 1, 0),
  (103, .goto 4, 106, [107], 0, 0),
  (106, .iconst 0, 107, [], 0, 0),
  (107, .ireturn, 108, [], 0, 0)]
/-- OdometerRing.says(I)I -/
def cd69 : List (Nat × Row) := [(0, .aload_n 0, 1, [0], 0, 0),
  (1, .getfield 19, 4, [6, 1, 1, 258], 0, 0),
  (4, .getfield 122, 7, [2, 0, 1, 155], 0, 0),
  (7, .iload_n 1, 8, [1], 0, 0),
  (8, .invokevirtual 126, 11, [3, 578, 541, 542, 29, 543], 0, 0),
  (11, .ifCond .ne 13, 14, [24], 0, 0),
  (14, .new 132, 24, [1, 2, 0, 150, 136, 6, 579, 40], 0, 0),
  (24, .aload_n 0, 25, [0], 0, 0),
  (25, .getfield 19, 28, [6, 1, 1, 258], 0, 0),
  (28, .getfield 122, 31, [2, 0, 1, 155], 0, 0),
  (31, .iload_n 1, 32, [1], 0, 0),
  (32, .invokevirtual 152, 35, [9, 610, 487, 488, 29, 489], 0, 0),
  (35, .ireturn, 36, [], 0, 0)]
/-- OdometerRing.whySilent(I)I -/
def cd70 : List (Nat × Row) := [(0, .aload_n 0, 1, [0], 0, 0),
  (1, .getfield 19, 4, [6, 1, 1, 258], 0, 0),
  (4, .getfield 122, 7, [2, 0, 1, 155], 0, 0),
  (7, .iload_n 1, 8, [1], 0, 0),
  (8, .invokevirtual 126, 11, [3, 578, 541, 542, 29, 543], 0, 0),
  (11, .ifCond .ne 13, 14, [24], 0, 0),
  (14, .new 132, 24, [1, 2, 0, 150, 136, 6, 579, 40], 0, 0),
  (24, .aload_n 0, 25, [0], 0, 0),
  (25, .getfield 19, 28, [6, 1, 1, 258], 0, 0),
  (28, .getfield 122, 31, [2, 0, 1, 155], 0, 0),
  (31, .iload_n 1, 32, [1], 0, 0),
  (32, .invokevirtual 152, 35, [9, 610, 487, 488, 29, 489], 0, 0),
  (35, .ldc 69, 37, [323], (-99999), 0),
  (37, .if_icmp .eq 5, 40, [42], 0, 0),
  (40, .iconst 0, 41, [], 0, 0),
  (41, .ireturn, 42, [], 0, 0),
  (42, .aload_n 0, 43, [0], 0, 0),
  (43, .getfield 19, 46, [6, 1, 1, 258], 0, 0),
  (46, .getfield 122, 49, [2, 0, 1, 155], 0, 0),
  (49, .iload_n 1, 50, [1], 0, 0),
  (50, .invokevirtual 155, 53, [10, 618, 619, 620, 29, 621], 0, 0),
  (53, .iconst 2, 54, [], 2, 0),
  (54, .if_icmp .ge 7, 57, [61], 0, 0),
  (57, .iconst 1, 58, [], 1, 0),
  (58, .goto 4, 61, [62], 0, 0),
  (61, .iconst 2, 62, [], 2, 0),
  (62, .ireturn, 63, [], 0, 0)]
/-- OdometerRing.share(I)I -/
def cd71 : List (Nat × Row) := [(0, .aload_n 0, 1, [0], 0, 0),
  (1, .getfield 19, 4, [6, 1, 1, 258], 0, 0),
  (4, .getfield 122, 7, [2, 0, 1, 155], 0, 0),
  (7, .iload_n 1, 8, [1], 0, 0),
  (8, .invokevirtual 126, 11, [3, 578, 541, 542, 29, 543], 0, 0),
  (11, .ifCond .ne 13, 14, [24], 0, 0),
  (14, .new 132, 24, [1, 2, 0, 150, 136, 6, 579, 40], 0, 0),
  (24, .iconst 0, 25, [], 0, 0),
  (25, .istore_n 2, 26, [2], 0, 0),
  (26, .iconst 0, 27, [], 0, 0),
  (27, .istore_n 3, 28, [3], 0, 0),
  (28, .iload_n 3, 29, [3], 0, 0),
  (29, .aload_n 0, 30, [0], 0, 0),
  (30, .getfield 19, 33, [6, 1, 1, 258], 0, 0),
  (33, .getfield 122, 36, [2, 0, 1, 155], 0, 0),
  (36, .getfield 158, 39, [0, 0, 0, 106], 0, 0),
  (39, .if_icmp .ge 23, 42, [62], 0, 0),
  (42, .iload_n 2, 43, [2], 0, 0),
  (43, .aload_n 0, 44, [0], 0, 0),
  (44, .getfield 19, 47, [6, 1, 1, 258], 0, 0),
  (47, .getfield 122, 50, [2, 0, 1, 155], 0, 0),
  (50, .iload_n 3, 51, [3], 0, 0),
  (51, .invokevirtual 159, 54, [8, 629, 630, 631, 29, 632], 0, 0),
  (54, .iadd, 55, [], 0, 0),
  (55, .istore_n 2, 56, [2], 0, 0),
  (56, .iinc 3 1, 59, [3], 1, 0),
  (59, .goto (-31), 62, [28], 0, 0),
  (62, .iload_n 2, 63, [2], 0, 0),
  (63, .ifCond .ne 7, 66, [70], 0, 0),
  (66, .iconst 0, 67, [], 0, 0),
  (67, .goto 19, 70, [86], 0, 0),
  (70, .bipush 100, 72, [], 100, 0),
  (72, .aload_n 0, 73, [0], 0, 0),
  (73, .getfield 19, 76, [6, 1, 1, 258], 0, 0),
  (76, .getfield 122, 79, [2, 0, 1, 155], 0, 0),
  (79, .iload_n 1, 80, [1], 0, 0),
  (80, .invokevirtual 159, 83, [8, 629, 630, 631, 29, 632], 0, 0),
  (83, .imul, 84, [], 0, 0),
  (84, .iload_n 2, 85, [2], 0, 0),
  (85, .idiv, 86, [], 0, 0),
  (86, .ireturn, 87, [], 0, 0)]
/-- OdometerRing.serviceAt(II)I -/
def cd72 : List (Nat × Row) := [(0, .iload_n 1, 1, [1], 0, 0),
  (1, .ifCond .lt 12, 4, [13], 0, 0),
  (4, .iload_n 2, 5, [2], 0, 0),
  (5, .ifCond .lt 8, 8, [13], 0, 0),
  (8, .iload_n 2, 9, [2], 0, 0),
  (9, .iconst 2, 10, [], 2, 0),
  (10, .if_icmp .le 13, 13, [23], 0, 0),
  (13, .new 42, 23, [1, 0, 0, 162, 46, 7, 337, 38], 0, 0),
  (23, .iload_n 1, 24, [1], 0, 0),
  (24, .aload_n 0, 25, [0], 0, 0),
  (25, .getfield 19, 28, [6, 1, 1, 258], 0, 0),
  (28, .getfield 164, 31, [2, 1, 1, 157], 0, 0),
  (31, .getfield 168, 34, [3, 0, 0, 128], 0, 0),
  (34, .if_icmp .lt 6, 37, [40], 0, 0),
  (37, .ldc 69, 39, [323], (-99999), 0),
  (39, .ireturn, 40, [], 0, 0),
  (40, .iload_n 2, 41, [2], 0, 0),
  (41, .iconst 2, 42, [], 2, 0),
  (42, .if_icmp .ne 15, 45, [57], 0, 0),
  (45, .aload_n 0, 46, [0], 0, 0),
  (46, .getfield 19, 49, [6, 1, 1, 258], 0, 0),
  (49, .getfield 164, 52, [2, 1, 1, 157], 0, 0),
  (52, .iload_n 1, 53, [1], 0, 0),
  (53, .invokevirtual 173, 56, [41, 641, 320, 321, 30, 322], 0, 0),
  (56, .ireturn, 57, [], 0, 0),
  (57, .aload_n 0, 58, [0], 0, 0),
  (58, .getfield 19, 61, [6, 1, 1, 258], 0, 0),
  (61, .getfield 164, 64, [2, 1, 1, 157], 0, 0),
  (64, .iload_n 1, 65, [1], 0, 0),
  (65, .invokevirtual 176, 68, [40, 324, 325, 326, 30, 327], 0, 0),
  (68, .istore_n 3, 69, [3], 0, 0),
  (69, .iload_n 2, 70, [2], 0, 0),
  (70, .ifCond .ne 10, 73, [80], 0, 0),
  (73, .iload_n 3, 74, [3], 0, 0),
  (74, .bipush 10, 76, [], 10, 0),
  (76, .idiv, 77, [], 0, 0),
  (77, .goto 7, 80, [84], 0, 0),
  (80, .iload_n 3, 81, [3], 0, 0),
  (81, .bipush 10, 83, [], 10, 0),
  (83, .irem, 84, [], 0, 0),
  (84, .ireturn, 85, [], 0, 0)]
/-- OdometerRing.lastCut(I)I -/
def cd73 : List (Nat × Row) := [(0, .iload_n 1, 1, [1], 0, 0),
  (1, .tableswitch 63 0 3 #[31, 39, 47, 55], 32, [64, 0, 32, 1, 40, 2, 48, 3, 56], 0, 0),
  (32, .aload_n 0, 33, [0], 0, 0),
  (33, .getfield 19, 36, [6, 1, 1, 258], 0, 0),
  (36, .getfield 179, 39, [2, 13, 0, 176], 0, 0),
  (39, .ireturn, 40, [], 0, 0),
  (40, .aload_n 0, 41, [0], 0, 0),
  (41, .getfield 19, 44, [6, 1, 1, 258], 0, 0),
  (44, .getfield 182, 47, [2, 14, 0, 178], 0, 0),
  (47, .ireturn, 48, [], 0, 0),
  (48, .aload_n 0, 49, [0], 0, 0),
  (49, .getfield 19, 52, [6, 1, 1, 258], 0, 0),
  (52, .getfield 185, 55, [2, 15, 0, 180], 0, 0),
  (55, .ireturn, 56, [], 0, 0),
  (56, .aload_n 0, 57, [0], 0, 0),
  (57, .getfield 19, 60, [6, 1, 1, 258], 0, 0),
  (60, .getfield 188, 63, [2, 16, 0, 182], 0, 0),
  (63, .ireturn, 64, [], 0, 0),
  (64, .new 42, 74, [1, 0, 0, 191, 46, 8, 337, 38], 0, 0)]
/-- OdometerRing.drive(I)I -/
def cd74 : List (Nat × Row) := [(0, .iload_n 1, 1, [1], 0, 0),
  (1, .invokestatic 193, 4, [0, 92, 657, 450, 26, 451], 0, 0),
  (4, .ifCond .ne 13, 7, [17], 0, 0),
  (7, .new 42, 17, [1, 0, 0, 196, 46, 9, 337, 38], 0, 0),
  (17, .aload_n 0, 18, [0], 0, 0),
  (18, .getfield 19, 21, [6, 1, 1, 258], 0, 0),
  (21, .getfield 198, 24, [2, 3, 2, 161], 0, 0),
  (24, .ifCond .ne 13, 27, [37], 0, 0),
  (27, .new 53, 37, [1, 1, 0, 202, 57, 10, 405, 39], 0, 0),
  (37, .aload_n 0, 38, [0], 0, 0),
  (38, .getfield 29, 41, [6, 3, 1, 260], 0, 0),
  (41, .aload_n 0, 42, [0], 0, 0),
  (42, .getfield 19, 45, [6, 1, 1, 258], 0, 0),
  (45, .invokevirtual 204, 48, [16, 660, 661, 662, 32, 663], 0, 0),
  (48, .aload_n 0, 49, [0], 0, 0),
  (49, .getfield 19, 52, [6, 1, 1, 258], 0, 0),
  (52, .iload_n 1, 53, [1], 0, 0),
  (53, .invokevirtual 208, 56, [24, 686, 453, 454, 28, 455], 0, 0),
  (56, .ireturn, 57, [], 0, 0)]
/-- OdometerRing.cut(II)I -/
def cd75 : List (Nat × Row) := [(0, .iload_n 1, 1, [1], 0, 0),
  (1, .iload_n 2, 2, [2], 0, 0),
  (2, .invokestatic 211, 5, [0, 93, 694, 492, 26, 493], 0, 0),
  (5, .ifCond .ne 13, 8, [18], 0, 0),
  (8, .new 42, 18, [1, 0, 0, 214, 46, 11, 337, 38], 0, 0),
  (18, .aload_n 0, 19, [0], 0, 0),
  (19, .getfield 19, 22, [6, 1, 1, 258], 0, 0),
  (22, .getfield 198, 25, [2, 3, 2, 161], 0, 0),
  (25, .ifCond .ne 13, 28, [38], 0, 0),
  (28, .new 53, 38, [1, 1, 0, 202, 57, 10, 405, 39], 0, 0),
  (38, .aload_n 0, 39, [0], 0, 0),
  (39, .getfield 29, 42, [6, 3, 1, 260], 0, 0),
  (42, .aload_n 0, 43, [0], 0, 0),
  (43, .getfield 19, 46, [6, 1, 1, 258], 0, 0),
  (46, .invokevirtual 204, 49, [16, 660, 661, 662, 32, 663], 0, 0),
  (49, .aload_n 0, 50, [0], 0, 0),
  (50, .getfield 19, 53, [6, 1, 1, 258], 0, 0),
  (53, .iload_n 1, 54, [1], 0, 0),
  (54, .iload_n 2, 55, [2], 0, 0),
  (55, .invokevirtual 216, 58, [31, 696, 495, 496, 28, 497], 0, 0),
  (58, .ireturn, 59, [], 0, 0)]
/-- OdometerRing.start()I -/
def cd76 : List (Nat × Row) := [(0, .aload_n 0, 1, [0], 0, 0),
  (1, .getfield 19, 4, [6, 1, 1, 258], 0, 0),
  (4, .getfield 198, 7, [2, 3, 2, 161], 0, 0),
  (7, .ifCond .eq 13, 10, [20], 0, 0),
  (10, .new 53, 20, [1, 1, 0, 219, 57, 12, 405, 39], 0, 0),
  (20, .aload_n 0, 21, [0], 0, 0),
  (21, .getfield 29, 24, [6, 3, 1, 260], 0, 0),
  (24, .aload_n 0, 25, [0], 0, 0),
  (25, .getfield 19, 28, [6, 1, 1, 258], 0, 0),
  (28, .invokevirtual 204, 31, [16, 660, 661, 662, 32, 663], 0, 0),
  (31, .aload_n 0, 32, [0], 0, 0),
  (32, .getfield 19, 35, [6, 1, 1, 258], 0, 0),
  (35, .invokevirtual 221, 38, [30, 705, 499, 500, 28, 501], 0, 0),
  (38, .ireturn, 39, [], 0, 0)]
/-- OdometerRing.service(II)I -/
def cd77 : List (Nat × Row) := [(0, .iload_n 1, 1, [1], 0, 0),
  (1, .iload_n 2, 2, [2], 0, 0),
  (2, .invokestatic 224, 5, [0, 94, 713, 508, 26, 509], 0, 0),
  (5, .ifCond .ne 13, 8, [18], 0, 0),
  (8, .new 42, 18, [1, 0, 0, 227, 46, 13, 337, 38], 0, 0),
  (18, .aload_n 0, 19, [0], 0, 0),
  (19, .getfield 19, 22, [6, 1, 1, 258], 0, 0),
  (22, .getfield 198, 25, [2, 3, 2, 161], 0, 0),
  (25, .ifCond .eq 18, 28, [43], 0, 0),
  (28, .aload_n 0, 29, [0], 0, 0),
  (29, .getfield 19, 32, [6, 1, 1, 258], 0, 0),
  (32, .getfield 164, 35, [2, 1, 1, 157], 0, 0),
  (35, .iload_n 1, 36, [1], 0, 0),
  (36, .iload_n 2, 37, [2], 0, 0),
  (37, .invokevirtual 229, 40, [43, 715, 511, 512, 30, 513], 0, 0),
  (40, .ifCond .ne 13, 43, [53], 0, 0),
  (43, .new 53, 53, [1, 1, 0, 232, 57, 14, 405, 39], 0, 0),
  (53, .aload_n 0, 54, [0], 0, 0),
  (54, .getfield 29, 57, [6, 3, 1, 260], 0, 0),
  (57, .aload_n 0, 58, [0], 0, 0),
  (58, .getfield 19, 61, [6, 1, 1, 258], 0, 0),
  (61, .invokevirtual 204, 64, [16, 660, 661, 662, 32, 663], 0, 0),
  (64, .aload_n 0, 65, [0], 0, 0),
  (65, .getfield 19, 68, [6, 1, 1, 258], 0, 0),
  (68, .iload_n 1, 69, [1], 0, 0),
  (69, .iload_n 2, 70, [2], 0, 0),
  (70, .invokevirtual 234, 73, [32, 717, 520, 521, 28, 522], 0, 0),
  (73, .ireturn, 74, [], 0, 0)]
/-- OdometerRing.forget(II)I -/
def cd78 : List (Nat × Row) := [(0, .iload_n 1, 1, [1], 0, 0),
  (1, .iload_n 2, 2, [2], 0, 0),
  (2, .invokestatic 224, 5, [0, 94, 713, 508, 26, 509], 0, 0),
  (5, .ifCond .ne 13, 8, [18], 0, 0),
  (8, .new 42, 18, [1, 0, 0, 227, 46, 13, 337, 38], 0, 0),
  (18, .aload_n 0, 19, [0], 0, 0),
  (19, .getfield 19, 22, [6, 1, 1, 258], 0, 0),
  (22, .getfield 164, 25, [2, 1, 1, 157], 0, 0),
  (25, .iload_n 1, 26, [1], 0, 0),
  (26, .iload_n 2, 27, [2], 0, 0),
  (27, .invokevirtual 237, 30, [42, 725, 515, 516, 30, 517], 0, 0),
  (30, .istore_n 3, 31, [3], 0, 0),
  (31, .iload_n 3, 32, [3], 0, 0),
  (32, .ldc 69, 34, [323], (-99999), 0),
  (34, .if_icmp .ne 13, 37, [47], 0, 0),
  (37, .new 53, 47, [1, 1, 0, 240, 57, 15, 405, 39], 0, 0),
  (47, .aload_n 0, 48, [0], 0, 0),
  (48, .getfield 29, 51, [6, 3, 1, 260], 0, 0),
  (51, .aload_n 0, 52, [0], 0, 0),
  (52, .getfield 19, 55, [6, 1, 1, 258], 0, 0),
  (55, .invokevirtual 204, 58, [16, 660, 661, 662, 32, 663], 0, 0),
  (58, .aload_n 0, 59, [0], 0, 0),
  (59, .getfield 19, 62, [6, 1, 1, 258], 0, 0),
  (62, .getfield 164, 65, [2, 1, 1, 157], 0, 0),
  (65, .iload_n 3, 66, [3], 0, 0),
  (66, .invokevirtual 242, 69, [45, 727, 525, 526, 30, 527], 0, 0),
  (69, .ireturn, 70, [], 0, 0)]
/-- OdometerRing.setStep(I)I -/
def cd79 : List (Nat × Row) := [(0, .iload_n 1, 1, [1], 0, 0),
  (1, .invokestatic 245, 4, [0, 95, 735, 736, 26, 737], 0, 0),
  (4, .ifCond .ne 13, 7, [17], 0, 0),
  (7, .new 42, 17, [1, 0, 0, 248, 46, 16, 337, 38], 0, 0),
  (17, .aload_n 0, 18, [0], 0, 0),
  (18, .getfield 29, 21, [6, 3, 1, 260], 0, 0),
  (21, .aload_n 0, 22, [0], 0, 0),
  (22, .getfield 19, 25, [6, 1, 1, 258], 0, 0),
  (25, .invokevirtual 204, 28, [16, 660, 661, 662, 32, 663], 0, 0),
  (28, .aload_n 0, 29, [0], 0, 0),
  (29, .getfield 19, 32, [6, 1, 1, 258], 0, 0),
  (32, .getfield 250, 35, [2, 2, 0, 159], 0, 0),
  (35, .istore_n 2, 36, [2], 0, 0),
  (36, .aload_n 0, 37, [0], 0, 0),
  (37, .getfield 19, 40, [6, 1, 1, 258], 0, 0),
  (40, .iload_n 1, 41, [1], 0, 0),
  (41, .putfield 250, 44, [2, 2, 0, 0, 159], 0, 0),
  (44, .iload_n 2, 45, [2], 0, 0),
  (45, .ireturn, 46, [], 0, 0)]
/-- OdometerRing.replace(I)I -/
def cd80 : List (Nat × Row) := [(0, .aload_n 0, 1, [0], 0, 0),
  (1, .getfield 19, 4, [6, 1, 1, 258], 0, 0),
  (4, .getfield 122, 7, [2, 0, 1, 155], 0, 0),
  (7, .iload_n 1, 8, [1], 0, 0),
  (8, .invokevirtual 126, 11, [3, 578, 541, 542, 29, 543], 0, 0),
  (11, .ifCond .ne 13, 14, [24], 0, 0),
  (14, .new 132, 24, [1, 2, 0, 150, 136, 6, 579, 40], 0, 0),
  (24, .aload_n 0, 25, [0], 0, 0),
  (25, .getfield 19, 28, [6, 1, 1, 258], 0, 0),
  (28, .iload_n 1, 29, [1], 0, 0),
  (29, .invokevirtual 251, 32, [33, 746, 537, 538, 28, 539], 0, 0),
  (32, .ifCond .ne 13, 35, [45], 0, 0),
  (35, .new 53, 45, [1, 1, 0, 254, 57, 17, 405, 39], 0, 0),
  (45, .aload_n 0, 46, [0], 0, 0),
  (46, .getfield 29, 49, [6, 3, 1, 260], 0, 0),
  (49, .aload_n 0, 50, [0], 0, 0),
  (50, .getfield 19, 53, [6, 1, 1, 258], 0, 0),
  (53, .invokevirtual 204, 56, [16, 660, 661, 662, 32, 663], 0, 0),
  (56, .aload_n 0, 57, [0], 0, 0),
  (57, .getfield 19, 60, [6, 1, 1, 258], 0, 0),
  (60, .getfield 122, 63, [2, 0, 1, 155], 0, 0),
  (63, .iload_n 1, 64, [1], 0, 0),
  (64, .invokevirtual 256, 67, [12, 748, 150, 151, 29, 152], 0, 0),
  (67, .ireturn, 68, [], 0, 0)]
/-- OdometerRing.undo()I -/
def cd81 : List (Nat × Row) := [(0, .aload_n 0, 1, [0], 0, 0),
  (1, .getfield 29, 4, [6, 3, 1, 260], 0, 0),
  (4, .getfield 259, 7, [1, 0, 0, 245], 0, 0),
  (7, .ifCond .ne 14, 10, [21], 0, 0),
  (10, .new 53, 21, [1, 1, 1, 260, 57, 18, 405, 39], 0, 0),
  (21, .aload_n 0, 22, [0], 0, 0),
  (22, .getfield 29, 25, [6, 3, 1, 260], 0, 0),
  (25, .aload_n 0, 26, [0], 0, 0),
  (26, .getfield 19, 29, [6, 1, 1, 258], 0, 0),
  (29, .invokevirtual 262, 32, [17, 757, 758, 759, 32, 760], 0, 0),
  (32, .ireturn, 33, [], 0, 0)]
/-- OdometerRing.afterCut(II)I -/
def cd82 : List (Nat × Row) := [(0, .iload_n 1, 1, [1], 0, 0),
  (1, .iload_n 2, 2, [2], 0, 0),
  (2, .invokestatic 211, 5, [0, 93, 694, 492, 26, 493], 0, 0),
  (5, .ifCond .ne 13, 8, [18], 0, 0),
  (8, .new 42, 18, [1, 0, 0, 214, 46, 11, 337, 38], 0, 0),
  (18, .aload_n 0, 19, [0], 0, 0),
  (19, .getfield 19, 22, [6, 1, 1, 258], 0, 0),
  (22, .getfield 198, 25, [2, 3, 2, 161], 0, 0),
  (25, .ifCond .eq 13, 28, [38], 0, 0),
  (28, .aload_n 0, 29, [0], 0, 0),
  (29, .getfield 19, 32, [6, 1, 1, 258], 0, 0),
  (32, .getfield 266, 35, [2, 4, 2, 163], 0, 0),
  (35, .ifCond .eq 14, 38, [49], 0, 0),
  (38, .new 53, 49, [1, 1, 1, 269, 57, 19, 405, 39], 0, 0),
  (49, .aload_n 0, 50, [0], 0, 0),
  (50, .iload_n 1, 51, [1], 0, 0),
  (51, .iload_n 2, 52, [2], 0, 0),
  (52, .invokevirtual 271, 55, [91, 773, 775, 7, 26, 776], 0, 0),
  (55, .ireturn, 56, [], 0, 0)]
/-- OdometerRing.worstLoss()I -/
def cd83 : List (Nat × Row) := [(0, .aload_n 0, 1, [0], 0, 0),
  (1, .getfield 19, 4, [6, 1, 1, 258], 0, 0),
  (4, .getfield 198, 7, [2, 3, 2, 161], 0, 0),
  (7, .ifCond .eq 13, 10, [20], 0, 0),
  (10, .aload_n 0, 11, [0], 0, 0),
  (11, .getfield 19, 14, [6, 1, 1, 258], 0, 0),
  (14, .getfield 266, 17, [2, 4, 2, 163], 0, 0),
  (17, .ifCond .eq 14, 20, [31], 0, 0),
  (20, .new 53, 31, [1, 1, 1, 269, 57, 19, 405, 39], 0, 0),
  (31, .aload_n 0, 32, [0], 0, 0),
  (32, .getfield 19, 35, [6, 1, 1, 258], 0, 0),
  (35, .getfield 274, 38, [2, 5, 0, 165], 0, 0),
  (38, .istore_n 1, 39, [1], 0, 0),
  (39, .iconst 1, 40, [], 1, 0),
  (40, .istore_n 2, 41, [2], 0, 0),
  (41, .iload_n 2, 42, [2], 0, 0),
  (42, .bipush 36, 44, [], 36, 0),
  (44, .if_icmp .gt 33, 47, [77], 0, 0),
  (47, .iconst 0, 48, [], 0, 0),
  (48, .istore_n 3, 49, [3], 0, 0),
  (49, .iload_n 3, 50, [3], 0, 0),
  (50, .iconst 2, 51, [], 2, 0),
  (51, .if_icmp .gt 20, 54, [71], 0, 0),
  (54, .iload_n 1, 55, [1], 0, 0),
  (55, .aload_n 0, 56, [0], 0, 0),
  (56, .iload_n 2, 57, [2], 0, 0),
  (57, .iload_n 3, 58, [3], 0, 0),
  (58, .invokevirtual 271, 61, [91, 773, 775, 7, 26, 776], 0, 0),
  (61, .invokestatic 277, 64, [1, 786, 147, 31, 148], 0, 0),
  (64, .istore_n 1, 65, [1], 0, 0),
  (65, .iinc 3 1, 68, [3], 1, 0),
  (68, .goto (-19), 71, [49], 0, 0),
  (71, .iinc 2 1, 74, [2], 1, 0),
  (74, .goto (-33), 77, [41], 0, 0),
  (77, .aload_n 0, 78, [0], 0, 0),
  (78, .getfield 19, 81, [6, 1, 1, 258], 0, 0),
  (81, .getfield 274, 84, [2, 5, 0, 165], 0, 0),
  (84, .iload_n 1, 85, [1], 0, 0),
  (85, .isub, 86, [], 0, 0),
  (86, .ireturn, 87, [], 0, 0)]
/-- OdometerRing.lasts(I)I -/
def cd84 : List (Nat × Row) := [(0, .iload_n 1, 1, [1], 0, 0),
  (1, .invokestatic 245, 4, [0, 95, 735, 736, 26, 737], 0, 0),
  (4, .ifCond .ne 13, 7, [17], 0, 0),
  (7, .new 42, 17, [1, 0, 0, 248, 46, 16, 337, 38], 0, 0),
  (17, .aload_n 0, 18, [0], 0, 0),
  (18, .getfield 19, 21, [6, 1, 1, 258], 0, 0),
  (21, .getfield 198, 24, [2, 3, 2, 161], 0, 0),
  (24, .ifCond .ne 13, 27, [37], 0, 0),
  (27, .new 53, 37, [1, 1, 0, 202, 57, 10, 405, 39], 0, 0),
  (37, .aload_n 0, 38, [0], 0, 0),
  (38, .getfield 23, 41, [6, 2, 1, 259], 0, 0),
  (41, .aload_n 0, 42, [0], 0, 0),
  (42, .getfield 19, 45, [6, 1, 1, 258], 0, 0),
  (45, .invokevirtual 282, 48, [21, 777, 669, 670, 28, 671], 0, 0),
  (48, .aload_n 0, 49, [0], 0, 0),
  (49, .getfield 23, 52, [6, 2, 1, 259], 0, 0),
  (52, .iload_n 1, 53, [1], 0, 0),
  (53, .putfield 250, 56, [2, 2, 0, 0, 159], 0, 0),
  (56, .aload_n 0, 57, [0], 0, 0),
  (57, .getfield 23, 60, [6, 2, 1, 259], 0, 0),
  (60, .iconst 0, 61, [], 0, 0),
  (61, .putfield 285, 64, [2, 11, 0, 0, 173], 0, 0),
  (64, .aload_n 0, 65, [0], 0, 0),
  (65, .getfield 23, 68, [6, 2, 1, 259], 0, 0),
  (68, .invokevirtual 288, 71, [25, 794, 795, 796, 28, 797], 0, 0),
  (71, .ireturn, 72, [], 0, 0)]
/-- OdometerRing.dueIn(III)I -/
def cd85 : List (Nat × Row) := [(0, .iload_n 1, 1, [1], 0, 0),
  (1, .iload_n 2, 2, [2], 0, 0),
  (2, .invokestatic 224, 5, [0, 94, 713, 508, 26, 509], 0, 0),
  (5, .ifCond .eq 15, 8, [20], 0, 0),
  (8, .iload_n 3, 9, [3], 0, 0),
  (9, .iconst 1, 10, [], 1, 0),
  (10, .if_icmp .lt 10, 13, [20], 0, 0),
  (13, .iload_n 3, 14, [3], 0, 0),
  (14, .sipush 9999, 17, [], 9999, 0),
  (17, .if_icmp .le 14, 20, [31], 0, 0),
  (20, .new 42, 31, [1, 0, 1, 291, 46, 20, 337, 38], 0, 0),
  (31, .aload_n 0, 32, [0], 0, 0),
  (32, .getfield 19, 35, [6, 1, 1, 258], 0, 0),
  (35, .getfield 198, 38, [2, 3, 2, 161], 0, 0),
  (38, .ifCond .ne 13, 41, [51], 0, 0),
  (41, .new 53, 51, [1, 1, 0, 202, 57, 10, 405, 39], 0, 0),
  (51, .aload_n 0, 52, [0], 0, 0),
  (52, .getfield 19, 55, [6, 1, 1, 258], 0, 0),
  (55, .getfield 164, 58, [2, 1, 1, 157], 0, 0),
  (58, .iload_n 1, 59, [1], 0, 0),
  (59, .iload_n 2, 60, [2], 0, 0),
  (60, .invokevirtual 237, 63, [42, 725, 515, 516, 30, 517], 0, 0),
  (63, .istore 4, 65, [4], 0, 0),
  (65, .iload 4, 67, [4], 0, 0),
  (67, .ldc 69, 69, [323], (-99999), 0),
  (69, .if_icmp .ne 8, 72, [77], 0, 0),
  (72, .ldc 69, 74, [323], (-99999), 0),
  (74, .goto 25, 77, [99], 0, 0),
  (77, .aload_n 0, 78, [0], 0, 0),
  (78, .getfield 19, 81, [6, 1, 1, 258], 0, 0),
  (81, .getfield 164, 84, [2, 1, 1, 157], 0, 0),
  (84, .iload 4, 86, [4], 0, 0),
  (86, .invokevirtual 173, 89, [41, 641, 320, 321, 30, 322], 0, 0),
  (89, .iload_n 3, 90, [3], 0, 0),
  (90, .iadd, 91, [], 0, 0),
  (91, .aload_n 0, 92, [0], 0, 0),
  (92, .getfield 19, 95, [6, 1, 1, 258], 0, 0),
  (95, .getfield 274, 98, [2, 5, 0, 165], 0, 0),
  (98, .isub, 99, [], 0, 0),
  (99, .ireturn, 100, [], 0, 0)]
/-- OdometerRing.dueFirst()I -/
def cd86 : List (Nat × Row) := [(0, .aload_n 0, 1, [0], 0, 0),
  (1, .getfield 19, 4, [6, 1, 1, 258], 0, 0),
  (4, .getfield 164, 7, [2, 1, 1, 157], 0, 0),
  (7, .invokevirtual 293, 10, [46, 314, 315, 316, 30, 317], 0, 0),
  (10, .istore_n 1, 11, [1], 0, 0),
  (11, .iload_n 1, 12, [1], 0, 0),
  (12, .ldc 69, 14, [323], (-99999), 0),
  (14, .if_icmp .ne 8, 17, [22], 0, 0),
  (17, .ldc 69, 19, [323], (-99999), 0),
  (19, .goto 14, 22, [33], 0, 0),
  (22, .aload_n 0, 23, [0], 0, 0),
  (23, .getfield 19, 26, [6, 1, 1, 258], 0, 0),
  (26, .getfield 164, 29, [2, 1, 1, 157], 0, 0),
  (29, .iload_n 1, 30, [1], 0, 0),
  (30, .invokevirtual 176, 33, [40, 324, 325, 326, 30, 327], 0, 0),
  (33, .ireturn, 34, [], 0, 0)]
/-- OdometerRing.runScript(IJ)I -/
def cd87 : List (Nat × Row) := [(0, .iload_n 1, 1, [1], 0, 0),
  (1, .iconst 1, 2, [], 1, 0),
  (2, .if_icmp .lt 24, 5, [26], 0, 0),
  (5, .iload_n 1, 6, [1], 0, 0),
  (6, .iconst 4, 7, [], 4, 0),
  (7, .if_icmp .gt 19, 10, [26], 0, 0),
  (10, .lload_n 2, 11, [2], 0, 0),
  (11, .lconst 0, 12, [], 0, 0),
  (12, .lcmp, 13, [], 0, 0),
  (13, .ifCond .lt 13, 16, [26], 0, 0),
  (16, .lload_n 2, 17, [2], 0, 0),
  (17, .iload_n 1, 18, [1], 0, 0),
  (18, .invokestatic 296, 21, [0, 96, 813, 814, 26, 815], 0, 0),
  (21, .lconst 0, 22, [], 0, 0),
  (22, .lcmp, 23, [], 0, 0),
  (23, .ifCond .eq 14, 26, [37], 0, 0),
  (26, .new 42, 37, [1, 0, 1, 300, 46, 21, 337, 38], 0, 0),
  (37, .aload_n 0, 38, [0], 0, 0),
  (38, .getfield 23, 41, [6, 2, 1, 259], 0, 0),
  (41, .aload_n 0, 42, [0], 0, 0),
  (42, .getfield 19, 45, [6, 1, 1, 258], 0, 0),
  (45, .invokevirtual 282, 48, [21, 777, 669, 670, 28, 671], 0, 0),
  (48, .iconst 0, 49, [], 0, 0),
  (49, .istore 4, 51, [4], 0, 0),
  (51, .iload 4, 53, [4], 0, 0),
  (53, .iload_n 1, 54, [1], 0, 0),
  (54, .if_icmp .ge 41, 57, [95], 0, 0),
  (57, .lload_n 2, 58, [2], 0, 0),
  (58, .iload_n 1, 59, [1], 0, 0),
  (59, .iconst 1, 60, [], 1, 0),
  (60, .isub, 61, [], 0, 0),
  (61, .iload 4, 63, [4], 0, 0),
  (63, .isub, 64, [], 0, 0),
  (64, .invokestatic 296, 67, [0, 96, 813, 814, 26, 815], 0, 0),
  (67, .ldc2_w 302, 70, [816], 0, 10000),
  (70, .lrem, 71, [], 0, 0),
  (71, .l2i, 72, [], 0, 0),
  (72, .istore 5, 74, [5], 0, 0),
  (74, .aload_n 0, 75, [0], 0, 0),
  (75, .getfield 23, 78, [6, 2, 1, 259], 0, 0),
  (78, .iload 5, 80, [5], 0, 0),
  (80, .invokevirtual 304, 83, [35, 818, 819, 820, 28, 821], 0, 0),
  (83, .ifCond .ne 6, 86, [89], 0, 0),
  (86, .iload 4, 88, [4], 0, 0),
  (88, .ireturn, 89, [], 0, 0),
  (89, .iinc 4 1, 92, [4], 1, 0),
  (92, .goto (-41), 95, [51], 0, 0),
  (95, .ldc 69, 97, [323], (-99999), 0),
  (97, .ireturn, 98, [], 0, 0)]
/-- OdometerRing.simulate(JI)I -/
def cd88 : List (Nat × Row) := [(0, .iload_n 3, 1, [3], 0, 0),
  (1, .iconst 1, 2, [], 1, 0),
  (2, .if_icmp .lt 9, 5, [11], 0, 0),
  (5, .iload_n 3, 6, [3], 0, 0),
  (6, .bipush 99, 8, [], 99, 0),
  (8, .if_icmp .le 14, 11, [22], 0, 0),
  (11, .new 42, 22, [1, 0, 1, 307, 46, 22, 337, 38], 0, 0),
  (22, .aload_n 0, 23, [0], 0, 0),
  (23, .getfield 23, 26, [6, 2, 1, 259], 0, 0),
  (26, .aload_n 0, 27, [0], 0, 0),
  (27, .getfield 19, 30, [6, 1, 1, 258], 0, 0),
  (30, .invokevirtual 282, 33, [21, 777, 669, 670, 28, 671], 0, 0),
  (33, .lload_n 1, 34, [1], 0, 0),
  (34, .lstore 4, 36, [4], 0, 0),
  (36, .iconst 0, 37, [], 0, 0),
  (37, .istore 6, 39, [6], 0, 0),
  (39, .iload 6, 41, [6], 0, 0),
  (41, .iload_n 3, 42, [3], 0, 0),
  (42, .if_icmp .ge 34, 45, [76], 0, 0),
  (45, .lload 4, 47, [4], 0, 0),
  (47, .ldc2_w 309, 50, [836], 0, 6364136223846793005),
  (50, .lmul, 51, [], 0, 0),
  (51, .ldc2_w 311, 54, [837], 0, 1442695040888963407),
  (54, .ladd, 55, [], 0, 0),
  (55, .lstore 4, 57, [4], 0, 0),
  (57, .aload_n 0, 58, [0], 0, 0),
  (58, .getfield 23, 61, [6, 2, 1, 259], 0, 0),
  (61, .lload 4, 63, [4], 0, 0),
  (63, .bipush 33, 65, [], 33, 0),
  (65, .lushr, 66, [], 0, 0),
  (66, .l2i, 67, [], 0, 0),
  (67, .invokevirtual 313, 70, [37, 838, 839, 840, 28, 841], 0, 0),
  (70, .iinc 6 1, 73, [6], 1, 0),
  (73, .goto (-34), 76, [39], 0, 0),
  (76, .aload_n 0, 77, [0], 0, 0),
  (77, .getfield 23, 80, [6, 2, 1, 259], 0, 0),
  (80, .getfield 198, 83, [2, 3, 2, 161], 0, 0),
  (83, .ifCond .ne 11, 86, [94], 0, 0),
  (86, .aload_n 0, 87, [0], 0, 0),
  (87, .getfield 23, 90, [6, 2, 1, 259], 0, 0),
  (90, .invokevirtual 221, 93, [30, 705, 499, 500, 28, 501], 0, 0),
  (93, .pop, 94, [], 0, 0),
  (94, .aload_n 0, 95, [0], 0, 0),
  (95, .getfield 23, 98, [6, 2, 1, 259], 0, 0),
  (98, .getfield 316, 101, [2, 8, 0, 169], 0, 0),
  (101, .aload_n 0, 102, [0], 0, 0),
  (102, .getfield 23, 105, [6, 2, 1, 259], 0, 0),
  (105, .getfield 274, 108, [2, 5, 0, 165], 0, 0),
  (108, .isub, 109, [], 0, 0),
  (109, .istore 6, 111, [6], 0, 0),
  (111, .sipush 10000, 114, [], 10000, 0),
  (114, .aload_n 0, 115, [0], 0, 0),
  (115, .getfield 23, 118, [6, 2, 1, 259], 0, 0),
  (118, .getfield 316, 121, [2, 8, 0, 169], 0, 0),
  (121, .aload_n 0, 122, [0], 0, 0),
  (122, .getfield 19, 125, [6, 1, 1, 258], 0, 0),
  (125, .getfield 316, 128, [2, 8, 0, 169], 0, 0),
  (128, .isub, 129, [], 0, 0),
  (129, .imul, 130, [], 0, 0),
  (130, .iload 6, 132, [6], 0, 0),
  (132, .sipush 9999, 135, [], 9999, 0),
  (135, .invokestatic 277, 138, [1, 786, 147, 31, 148], 0, 0),
  (138, .iadd, 139, [], 0, 0),
  (139, .ireturn, 140, [], 0, 0)]
/-- OdometerRing.save(I)I -/
def cd89 : List (Nat × Row) := [(0, .iload_n 1, 1, [1], 0, 0),
  (1, .ifCond .lt 8, 4, [9], 0, 0),
  (4, .iload_n 1, 5, [1], 0, 0),
  (5, .iconst 2, 6, [], 2, 0),
  (6, .if_icmp .lt 14, 9, [20], 0, 0),
  (9, .new 132, 20, [1, 2, 1, 319, 136, 23, 579, 40], 0, 0),
  (20, .aload_n 0, 21, [0], 0, 0),
  (21, .getfield 38, 24, [6, 4, 1, 261], 0, 0),
  (24, .iload_n 1, 25, [1], 0, 0),
  (25, .aload_n 0, 26, [0], 0, 0),
  (26, .getfield 19, 29, [6, 1, 1, 258], 0, 0),
  (29, .invokevirtual 321, 32, [51, 850, 665, 666, 33, 667], 0, 0),
  (32, .aload_n 0, 33, [0], 0, 0),
  (33, .getfield 19, 36, [6, 1, 1, 258], 0, 0),
  (36, .getfield 316, 39, [2, 8, 0, 169], 0, 0),
  (39, .ireturn, 40, [], 0, 0)]
/-- OdometerRing.restore(I)I -/
def cd90 : List (Nat × Row) := [(0, .iload_n 1, 1, [1], 0, 0),
  (1, .ifCond .lt 8, 4, [9], 0, 0),
  (4, .iload_n 1, 5, [1], 0, 0),
  (5, .iconst 2, 6, [], 2, 0),
  (6, .if_icmp .lt 14, 9, [20], 0, 0),
  (9, .new 132, 20, [1, 2, 1, 319, 136, 23, 579, 40], 0, 0),
  (20, .aload_n 0, 21, [0], 0, 0),
  (21, .getfield 38, 24, [6, 4, 1, 261], 0, 0),
  (24, .iload_n 1, 25, [1], 0, 0),
  (25, .invokevirtual 325, 28, [49, 858, 859, 860, 33, 861], 0, 0),
  (28, .ifCond .ne 14, 31, [42], 0, 0),
  (31, .new 53, 42, [1, 1, 1, 328, 57, 24, 405, 39], 0, 0),
  (42, .aload_n 0, 43, [0], 0, 0),
  (43, .getfield 38, 46, [6, 4, 1, 261], 0, 0),
  (46, .iload_n 1, 47, [1], 0, 0),
  (47, .aload_n 0, 48, [0], 0, 0),
  (48, .getfield 19, 51, [6, 1, 1, 258], 0, 0),
  (51, .invokevirtual 330, 54, [52, 863, 762, 763, 33, 764], 0, 0),
  (54, .aload_n 0, 55, [0], 0, 0),
  (55, .getfield 29, 58, [6, 3, 1, 260], 0, 0),
  (58, .invokevirtual 89, 61, [18, 435, 436, 437, 32, 438], 0, 0),
  (61, .aload_n 0, 62, [0], 0, 0),
  (62, .getfield 19, 65, [6, 1, 1, 258], 0, 0),
  (65, .getfield 316, 68, [2, 8, 0, 169], 0, 0),
  (68, .ireturn, 69, [], 0, 0)]
/-- OdometerRing.toldAfterCut(II)I -/
def cd91 : List (Nat × Row) := [(0, .aload_n 0, 1, [0], 0, 0),
  (1, .getfield 23, 4, [6, 2, 1, 259], 0, 0),
  (4, .aload_n 0, 5, [0], 0, 0),
  (5, .getfield 19, 8, [6, 1, 1, 258], 0, 0),
  (8, .invokevirtual 282, 11, [21, 777, 669, 670, 28, 671], 0, 0),
  (11, .aload_n 0, 12, [0], 0, 0),
  (12, .getfield 23, 15, [6, 2, 1, 259], 0, 0),
  (15, .iload_n 1, 16, [1], 0, 0),
  (16, .iload_n 2, 17, [2], 0, 0),
  (17, .invokevirtual 216, 20, [31, 696, 495, 496, 28, 497], 0, 0),
  (20, .pop, 21, [], 0, 0),
  (21, .aload_n 0, 22, [0], 0, 0),
  (22, .getfield 23, 25, [6, 2, 1, 259], 0, 0),
  (25, .invokevirtual 333, 28, [26, 778, 457, 458, 28, 459], 0, 0),
  (28, .aload_n 0, 29, [0], 0, 0),
  (29, .getfield 23, 32, [6, 2, 1, 259], 0, 0),
  (32, .getfield 198, 35, [2, 3, 2, 161], 0, 0),
  (35, .ifCond .eq 13, 38, [48], 0, 0),
  (38, .aload_n 0, 39, [0], 0, 0),
  (39, .getfield 23, 42, [6, 2, 1, 259], 0, 0),
  (42, .getfield 274, 45, [2, 5, 0, 165], 0, 0),
  (45, .goto 10, 48, [55], 0, 0),
  (48, .aload_n 0, 49, [0], 0, 0),
  (49, .getfield 23, 52, [6, 2, 1, 259], 0, 0),
  (52, .invokevirtual 221, 55, [30, 705, 499, 500, 28, 501], 0, 0),
  (55, .ireturn, 56, [], 0, 0)]
/-- OdometerRing.isTenths(I)Z -/
def cd92 : List (Nat × Row) := [(0, .iload_n 0, 1, [0], 0, 0),
  (1, .iconst 1, 2, [], 1, 0),
  (2, .if_icmp .lt 14, 5, [16], 0, 0),
  (5, .iload_n 0, 6, [0], 0, 0),
  (6, .sipush 999, 9, [], 999, 0),
  (9, .if_icmp .gt 7, 12, [16], 0, 0),
  (12, .iconst 1, 13, [], 1, 0),
  (13, .goto 4, 16, [17], 0, 0),
  (16, .iconst 0, 17, [], 0, 0),
  (17, .ireturn, 18, [], 0, 0)]
/-- OdometerRing.isCut(II)Z -/
def cd93 : List (Nat × Row) := [(0, .iload_n 0, 1, [0], 0, 0),
  (1, .iconst 1, 2, [], 1, 0),
  (2, .if_icmp .lt 22, 5, [24], 0, 0),
  (5, .iload_n 0, 6, [0], 0, 0),
  (6, .bipush 36, 8, [], 36, 0),
  (8, .if_icmp .gt 16, 11, [24], 0, 0),
  (11, .iload_n 1, 12, [1], 0, 0),
  (12, .ifCond .lt 12, 15, [24], 0, 0),
  (15, .iload_n 1, 16, [1], 0, 0),
  (16, .iconst 2, 17, [], 2, 0),
  (17, .if_icmp .gt 7, 20, [24], 0, 0),
  (20, .iconst 1, 21, [], 1, 0),
  (21, .goto 4, 24, [25], 0, 0),
  (24, .iconst 0, 25, [], 0, 0),
  (25, .ireturn, 26, [], 0, 0)]
/-- OdometerRing.isService(II)Z -/
def cd94 : List (Nat × Row) := [(0, .iload_n 0, 1, [0], 0, 0),
  (1, .ifCond .lt 23, 4, [24], 0, 0),
  (4, .iload_n 0, 5, [0], 0, 0),
  (5, .bipush 9, 7, [], 9, 0),
  (7, .if_icmp .gt 17, 10, [24], 0, 0),
  (10, .iload_n 1, 11, [1], 0, 0),
  (11, .ifCond .lt 13, 14, [24], 0, 0),
  (14, .iload_n 1, 15, [1], 0, 0),
  (15, .bipush 9, 17, [], 9, 0),
  (17, .if_icmp .gt 7, 20, [24], 0, 0),
  (20, .iconst 1, 21, [], 1, 0),
  (21, .goto 4, 24, [25], 0, 0),
  (24, .iconst 0, 25, [], 0, 0),
  (25, .ireturn, 26, [], 0, 0)]
/-- OdometerRing.isStep(I)Z -/
def cd95 : List (Nat × Row) := [(0, .iload_n 0, 1, [0], 0, 0),
  (1, .iconst 1, 2, [], 1, 0),
  (2, .if_icmp .lt 13, 5, [15], 0, 0),
  (5, .iload_n 0, 6, [0], 0, 0),
  (6, .bipush 99, 8, [], 99, 0),
  (8, .if_icmp .gt 7, 11, [15], 0, 0),
  (11, .iconst 1, 12, [], 1, 0),
  (12, .goto 4, 15, [16], 0, 0),
  (15, .iconst 0, 16, [], 0, 0),
  (16, .ireturn, 17, [], 0, 0)]
/-- OdometerRing.lessGroups(JI)J -/
def cd96 : List (Nat × Row) := [(0, .lload_n 0, 1, [0], 0, 0),
  (1, .lstore_n 3, 2, [3], 0, 0),
  (2, .iconst 0, 3, [], 0, 0),
  (3, .istore 5, 5, [5], 0, 0),
  (5, .iload 5, 7, [5], 0, 0),
  (7, .iload_n 2, 8, [2], 0, 0),
  (8, .if_icmp .ge 15, 11, [23], 0, 0),
  (11, .lload_n 3, 12, [3], 0, 0),
  (12, .ldc2_w 302, 15, [816], 0, 10000),
  (15, .ldiv, 16, [], 0, 0),
  (16, .lstore_n 3, 17, [3], 0, 0),
  (17, .iinc 5 1, 20, [5], 1, 0),
  (20, .goto (-15), 23, [5], 0, 0),
  (23, .lload_n 3, 24, [3], 0, 0),
  (24, .lreturn, 25, [], 0, 0)]
/-- OdometerRingModel.<init>()V -/
def cd97 : List (Nat × Row) := [(0, .aload_n 0, 1, [0], 0, 0),
  (1, .invokespecial 1, 4, [0, 869, 48, 49], 0, 0),
  (4, .aload_n 0, 5, [0], 0, 0),
  (5, .bipush 90, 7, [], 90, 0),
  (7, .newarray .int, 9, [8, 91], 0, 0),
  (9, .putfield 7, 12, [7, 1, 1, 1, 875], 0, 0),
  (12, .aload_n 0, 13, [0], 0, 0),
  (13, .bipush 114, 15, [], 114, 0),
  (15, .newarray .int, 17, [8, 91], 0, 0),
  (17, .putfield 13, 20, [7, 8, 1, 1, 882], 0, 0),
  (20, .aload_n 0, 21, [0], 0, 0),
  (21, .bipush 114, 23, [], 114, 0),
  (23, .newarray .int, 25, [8, 91], 0, 0),
  (25, .putfield 16, 28, [7, 9, 1, 1, 883], 0, 0),
  (28, .aload_n 0, 29, [0], 0, 0),
  (29, .sipush 1596, 32, [], 1596, 0),
  (32, .newarray .int, 34, [8, 91], 0, 0),
  (34, .putfield 19, 37, [7, 10, 1, 1, 884], 0, 0),
  (37, .aload_n 0, 38, [0], 0, 0),
  (38, .sipush 228, 41, [], 228, 0),
  (41, .newarray .int, 43, [8, 91], 0, 0),
  (43, .putfield 22, 46, [7, 12, 1, 1, 886], 0, 0),
  (46, .aload_n 0, 47, [0], 0, 0),
  (47, .iconst 2, 48, [], 2, 0),
  (48, .newarray .boolean, 50, [9, 243], 0, 0),
  (50, .putfield 25, 53, [7, 13, 1, 1, 887], 0, 0),
  (53, .aload_n 0, 54, [0], 0, 0),
  (54, .getfield 13, 57, [7, 8, 1, 882], 0, 0),
  (57, .iconst 4, 58, [], 4, 0),
  (58, .bipush 10, 60, [], 10, 0),
  (60, .bipush 100, 62, [], 100, 0),
  (62, .invokestatic 29, 65, [0, 103, 870, 871, 34, 872], 0, 0),
  (65, .return_, 66, [], 0, 0)]
/-- OdometerRingModel.thrown()I -/
def cd98 : List (Nat × Row) := [(0, .aload_n 0, 1, [0], 0, 0),
  (1, .getfield 33, 4, [7, 0, 0, 874], 0, 0),
  (4, .ireturn, 5, [], 0, 0)]
/-- OdometerRingModel.refused(I)Z -/
def cd99 : List (Nat × Row) := [(0, .aload_n 0, 1, [0], 0, 0),
  (1, .iload_n 1, 2, [1], 0, 0),
  (2, .putfield 33, 5, [7, 0, 0, 0, 874], 0, 0),
  (5, .iload_n 1, 6, [1], 0, 0),
  (6, .ifCond .le 7, 9, [13], 0, 0),
  (9, .iconst 1, 10, [], 1, 0),
  (10, .goto 4, 13, [14], 0, 0),
  (13, .iconst 0, 14, [], 0, 0),
  (14, .ireturn, 15, [], 0, 0)]
/-- OdometerRingModel.in(JJJ)Z -/
def cd100 : List (Nat × Row) := [(0, .lload_n 0, 1, [0], 0, 0),
  (1, .lload_n 2, 2, [2], 0, 0),
  (2, .lcmp, 3, [], 0, 0),
  (3, .ifCond .lt 14, 6, [17], 0, 0),
  (6, .lload_n 0, 7, [0], 0, 0),
  (7, .lload 4, 9, [4], 0, 0),
  (9, .lcmp, 10, [], 0, 0),
  (10, .ifCond .gt 7, 13, [17], 0, 0),
  (13, .iconst 1, 14, [], 1, 0),
  (14, .goto 4, 17, [18], 0, 0),
  (17, .iconst 0, 18, [], 0, 0),
  (18, .ireturn, 19, [], 0, 0)]
/-- OdometerRingModel.copy([II[III)V -/
def cd101 : List (Nat × Row) := [(0, .iconst 0, 1, [], 0, 0),
  (1, .istore 5, 3, [5], 0, 0),
  (3, .iload 5, 5, [5], 0, 0),
  (5, .iload 4, 7, [4], 0, 0),
  (7, .if_icmp .ge 21, 10, [28], 0, 0),
  (10, .aload_n 2, 11, [2], 0, 0),
  (11, .iload_n 3, 12, [3], 0, 0),
  (12, .iload 5, 14, [5], 0, 0),
  (14, .iadd, 15, [], 0, 0),
  (15, .aload_n 0, 16, [0], 0, 0),
  (16, .iload_n 1, 17, [1], 0, 0),
  (17, .iload 5, 19, [5], 0, 0),
  (19, .iadd, 20, [], 0, 0),
  (20, .iaload, 21, [], 0, 0),
  (21, .iastore, 22, [], 0, 0),
  (22, .iinc 5 1, 25, [5], 1, 0),
  (25, .goto (-22), 28, [3], 0, 0),
  (28, .return_, 29, [], 0, 0)]
/-- OdometerRingModel.tenTo(I)J -/
def cd102 : List (Nat × Row) := [(0, .lconst 1, 1, [], 0, 1),
  (1, .lstore_n 1, 2, [1], 0, 0),
  (2, .iconst 0, 3, [], 0, 0),
  (3, .istore_n 3, 4, [3], 0, 0),
  (4, .iload_n 3, 5, [3], 0, 0),
  (5, .iload_n 0, 6, [0], 0, 0),
  (6, .if_icmp .ge 15, 9, [21], 0, 0),
  (9, .lload_n 1, 10, [1], 0, 0),
  (10, .ldc2_w 37, 13, [1165], 0, 10),
  (13, .lmul, 14, [], 0, 0),
  (14, .lstore_n 1, 15, [1], 0, 0),
  (15, .iinc 3 1, 18, [3], 1, 0),
  (18, .goto (-14), 21, [4], 0, 0),
  (21, .lload_n 1, 22, [1], 0, 0),
  (22, .lreturn, 23, [], 0, 0)]
/-- OdometerRingModel.clean([IIII)V -/
def cd103 : List (Nat × Row) := [(0, .iconst 0, 1, [], 0, 0),
  (1, .istore 4, 3, [4], 0, 0),
  (3, .iload 4, 5, [4], 0, 0),
  (5, .bipush 114, 7, [], 114, 0),
  (7, .if_icmp .ge 14, 10, [21], 0, 0),
  (10, .aload_n 0, 11, [0], 0, 0),
  (11, .iload 4, 13, [4], 0, 0),
  (13, .iconst 0, 14, [], 0, 0),
  (14, .iastore, 15, [], 0, 0),
  (15, .iinc 4 1, 18, [4], 1, 0),
  (18, .goto (-15), 21, [3], 0, 0),
  (21, .aload_n 0, 22, [0], 0, 0),
  (22, .iconst 0, 23, [], 0, 0),
  (23, .iload_n 1, 24, [1], 0, 0),
  (24, .iastore, 25, [], 0, 0),
  (25, .aload_n 0, 26, [0], 0, 0),
  (26, .iconst 1, 27, [], 1, 0),
  (27, .iload_n 2, 28, [2], 0, 0),
  (28, .iastore, 29, [], 0, 0),
  (29, .aload_n 0, 30, [0], 0, 0),
  (30, .iconst 2, 31, [], 2, 0),
  (31, .iload_n 3, 32, [3], 0, 0),
  (32, .iastore, 33, [], 0, 0),
  (33, .aload_n 0, 34, [0], 0, 0),
  (34, .iconst 3, 35, [], 3, 0),
  (35, .iconst 1, 36, [], 1, 0),
  (36, .iastore, 37, [], 0, 0),
  (37, .aload_n 0, 38, [0], 0, 0),
  (38, .bipush 11, 40, [], 11, 0),
  (40, .ldc 39, 42, [873], (-99999), 0),
  (42, .iastore, 43, [], 0, 0),
  (43, .iconst 0, 44, [], 0, 0),
  (44, .istore 4, 46, [4], 0, 0),
  (46, .iload 4, 48, [4], 0, 0),
  (48, .iconst 4, 49, [], 4, 0),
  (49, .if_icmp .ge 18, 52, [67], 0, 0),
  (52, .aload_n 0, 53, [0], 0, 0),
  (53, .bipush 13, 55, [], 13, 0),
  (55, .iload 4, 57, [4], 0, 0),
  (57, .iadd, 58, [], 0, 0),
  (58, .ldc 39, 60, [873], (-99999), 0),
  (60, .iastore, 61, [], 0, 0),
  (61, .iinc 4 1, 64, [4], 1, 0),
  (64, .goto (-18), 67, [46], 0, 0),
  (67, .return_, 68, [], 0, 0)]
/-- OdometerRingModel.note()V -/
def cd104 : List (Nat × Row) := [(0, .aload_n 0, 1, [0], 0, 0),
  (1, .getfield 40, 4, [7, 11, 0, 885], 0, 0),
  (4, .bipush 14, 6, [], 14, 0),
  (6, .if_icmp .ne 30, 9, [36], 0, 0),
  (9, .aload_n 0, 10, [0], 0, 0),
  (10, .getfield 19, 13, [7, 10, 1, 884], 0, 0),
  (13, .bipush 114, 15, [], 114, 0),
  (15, .aload_n 0, 16, [0], 0, 0),
  (16, .getfield 19, 19, [7, 10, 1, 884], 0, 0),
  (19, .iconst 0, 20, [], 0, 0),
  (20, .sipush 1482, 23, [], 1482, 0),
  (23, .invokestatic 43, 26, [0, 101, 1082, 1083, 34, 1084], 0, 0),
  (26, .aload_n 0, 27, [0], 0, 0),
  (27, .dup, 28, [], 0, 0),
  (28, .getfield 40, 31, [7, 11, 0, 885], 0, 0),
  (31, .iconst 1, 32, [], 1, 0),
  (32, .isub, 33, [], 0, 0),
  (33, .putfield 40, 36, [7, 11, 0, 0, 885], 0, 0),
  (36, .aload_n 0, 37, [0], 0, 0),
  (37, .getfield 13, 40, [7, 8, 1, 882], 0, 0),
  (40, .iconst 0, 41, [], 0, 0),
  (41, .aload_n 0, 42, [0], 0, 0),
  (42, .getfield 19, 45, [7, 10, 1, 884], 0, 0),
  (45, .bipush 114, 47, [], 114, 0),
  (47, .aload_n 0, 48, [0], 0, 0),
  (48, .getfield 40, 51, [7, 11, 0, 885], 0, 0),
  (51, .imul, 52, [], 0, 0),
  (52, .bipush 114, 54, [], 114, 0),
  (54, .invokestatic 43, 57, [0, 101, 1082, 1083, 34, 1084], 0, 0),
  (57, .aload_n 0, 58, [0], 0, 0),
  (58, .dup, 59, [], 0, 0),
  (59, .getfield 40, 62, [7, 11, 0, 885], 0, 0),
  (62, .iconst 1, 63, [], 1, 0),
  (63, .iadd, 64, [], 0, 0),
  (64, .putfield 40, 67, [7, 11, 0, 0, 885], 0, 0),
  (67, .return_, 68, [], 0, 0)]
/-- OdometerRingModel.begin()V -/
def cd105 : List (Nat × Row) := [(0, .aload_n 0, 1, [0], 0, 0),
  (1, .getfield 13, 4, [7, 8, 1, 882], 0, 0),
  (4, .iconst 0, 5, [], 0, 0),
  (5, .aload_n 0, 6, [0], 0, 0),
  (6, .getfield 16, 9, [7, 9, 1, 883], 0, 0),
  (9, .iconst 0, 10, [], 0, 0),
  (10, .bipush 114, 12, [], 114, 0),
  (12, .invokestatic 43, 15, [0, 101, 1082, 1083, 34, 1084], 0, 0),
  (15, .return_, 16, [], 0, 0)]
/-- OdometerRingModel.at(II)I -/
def cd106 : List (Nat × Row) := [(0, .bipush 42, 2, [], 42, 0),
  (2, .iconst 2, 3, [], 2, 0),
  (3, .iconst 3, 4, [], 3, 0),
  (4, .iload_n 0, 5, [0], 0, 0),
  (5, .imul, 6, [], 0, 0),
  (6, .iload_n 1, 7, [1], 0, 0),
  (7, .iadd, 8, [], 0, 0),
  (8, .imul, 9, [], 0, 0),
  (9, .iadd, 10, [], 0, 0),
  (10, .ireturn, 11, [], 0, 0)]
/-- OdometerRingModel.saysOf([II)I -/
def cd107 : List (Nat × Row) := [(0, .aload_n 0, 1, [0], 0, 0),
  (1, .iload_n 1, 2, [1], 0, 0),
  (2, .iconst 0, 3, [], 0, 0),
  (3, .invokestatic 47, 6, [0, 106, 986, 987, 34, 988], 0, 0),
  (6, .iaload, 7, [], 0, 0),
  (7, .istore_n 2, 8, [2], 0, 0),
  (8, .aload_n 0, 9, [0], 0, 0),
  (9, .iload_n 1, 10, [1], 0, 0),
  (10, .iconst 1, 11, [], 1, 0),
  (11, .invokestatic 47, 14, [0, 106, 986, 987, 34, 988], 0, 0),
  (14, .iaload, 15, [], 0, 0),
  (15, .istore_n 3, 16, [3], 0, 0),
  (16, .aload_n 0, 17, [0], 0, 0),
  (17, .iload_n 1, 18, [1], 0, 0),
  (18, .iconst 2, 19, [], 2, 0),
  (19, .invokestatic 47, 22, [0, 106, 986, 987, 34, 988], 0, 0),
  (22, .iaload, 23, [], 0, 0),
  (23, .istore 4, 25, [4], 0, 0),
  (25, .iload_n 2, 26, [2], 0, 0),
  (26, .ldc 39, 28, [873], (-99999), 0),
  (28, .if_icmp .eq 16, 31, [44], 0, 0),
  (31, .iload_n 2, 32, [2], 0, 0),
  (32, .iload_n 3, 33, [3], 0, 0),
  (33, .if_icmp .eq 9, 36, [42], 0, 0),
  (36, .iload_n 2, 37, [2], 0, 0),
  (37, .iload 4, 39, [4], 0, 0),
  (39, .if_icmp .ne 5, 42, [44], 0, 0),
  (42, .iload_n 2, 43, [2], 0, 0),
  (43, .ireturn, 44, [], 0, 0),
  (44, .iload_n 3, 45, [3], 0, 0),
  (45, .ldc 39, 47, [873], (-99999), 0),
  (47, .if_icmp .eq 13, 50, [60], 0, 0),
  (50, .iload_n 3, 51, [3], 0, 0),
  (51, .iload 4, 53, [4], 0, 0),
  (53, .if_icmp .ne 7, 56, [60], 0, 0),
  (56, .iload_n 3, 57, [3], 0, 0),
  (57, .goto 5, 60, [62], 0, 0),
  (60, .ldc 39, 62, [873], (-99999), 0),
  (62, .ireturn, 63, [], 0, 0)]
/-- OdometerRingModel.isStuck([III)Z -/
def cd108 : List (Nat × Row) := [(0, .aload_n 0, 1, [0], 0, 0),
  (1, .iload_n 1, 2, [1], 0, 0),
  (2, .iload_n 2, 3, [2], 0, 0),
  (3, .invokestatic 47, 6, [0, 106, 986, 987, 34, 988], 0, 0),
  (6, .iconst 1, 7, [], 1, 0),
  (7, .iadd, 8, [], 0, 0),
  (8, .iaload, 9, [], 0, 0),
  (9, .aload_n 0, 10, [0], 0, 0),
  (10, .iconst 2, 11, [], 2, 0),
  (11, .iaload, 12, [], 0, 0),
  (12, .if_icmp .lt 7, 15, [19], 0, 0),
  (15, .iconst 1, 16, [], 1, 0),
  (16, .goto 4, 19, [20], 0, 0),
  (19, .iconst 0, 20, [], 0, 0),
  (20, .ireturn, 21, [], 0, 0)]
/-- OdometerRingModel.wearOf([II)I -/
def cd109 : List (Nat × Row) := [(0, .iconst 0, 1, [], 0, 0),
  (1, .istore_n 2, 2, [2], 0, 0),
  (2, .iconst 0, 3, [], 0, 0),
  (3, .istore_n 3, 4, [3], 0, 0),
  (4, .iload_n 3, 5, [3], 0, 0),
  (5, .iconst 3, 6, [], 3, 0),
  (6, .if_icmp .ge 21, 9, [27], 0, 0),
  (9, .iload_n 2, 10, [2], 0, 0),
  (10, .aload_n 0, 11, [0], 0, 0),
  (11, .iload_n 1, 12, [1], 0, 0),
  (12, .iload_n 3, 13, [3], 0, 0),
  (13, .invokestatic 47, 16, [0, 106, 986, 987, 34, 988], 0, 0),
  (16, .iconst 1, 17, [], 1, 0),
  (17, .iadd, 18, [], 0, 0),
  (18, .iaload, 19, [], 0, 0),
  (19, .iadd, 20, [], 0, 0),
  (20, .istore_n 2, 21, [2], 0, 0),
  (21, .iinc 3 1, 24, [3], 1, 0),
  (24, .goto (-20), 27, [4], 0, 0),
  (27, .iload_n 2, 28, [2], 0, 0),
  (28, .ireturn, 29, [], 0, 0)]
/-- OdometerRingModel.wearApart([I)I -/
def cd110 : List (Nat × Row) := [(0, .aload_n 0, 1, [0], 0, 0),
  (1, .bipush 43, 3, [], 43, 0),
  (3, .iaload, 4, [], 0, 0),
  (4, .istore_n 1, 5, [1], 0, 0),
  (5, .iload_n 1, 6, [1], 0, 0),
  (6, .istore_n 2, 7, [2], 0, 0),
  (7, .iconst 0, 8, [], 0, 0),
  (8, .istore_n 3, 9, [3], 0, 0),
  (9, .iload_n 3, 10, [3], 0, 0),
  (10, .iconst 3, 11, [], 3, 0),
  (11, .aload_n 0, 12, [0], 0, 0),
  (12, .iconst 0, 13, [], 0, 0),
  (13, .iaload, 14, [], 0, 0),
  (14, .imul, 15, [], 0, 0),
  (15, .if_icmp .ge 47, 18, [62], 0, 0),
  (18, .aload_n 0, 19, [0], 0, 0),
  (19, .bipush 42, 21, [], 42, 0),
  (21, .iconst 2, 22, [], 2, 0),
  (22, .iload_n 3, 23, [3], 0, 0),
  (23, .imul, 24, [], 0, 0),
  (24, .iadd, 25, [], 0, 0),
  (25, .iconst 1, 26, [], 1, 0),
  (26, .iadd, 27, [], 0, 0),
  (27, .iaload, 28, [], 0, 0),
  (28, .istore 4, 30, [4], 0, 0),
  (30, .iload 4, 32, [4], 0, 0),
  (32, .iload_n 1, 33, [1], 0, 0),
  (33, .if_icmp .ge 8, 36, [41], 0, 0),
  (36, .iload 4, 38, [4], 0, 0),
  (38, .goto 4, 41, [42], 0, 0),
  (41, .iload_n 1, 42, [1], 0, 0),
  (42, .istore_n 1, 43, [1], 0, 0),
  (43, .iload 4, 45, [4], 0, 0),
  (45, .iload_n 2, 46, [2], 0, 0),
  (46, .if_icmp .le 8, 49, [54], 0, 0),
  (49, .iload 4, 51, [4], 0, 0),
  (51, .goto 4, 54, [55], 0, 0),
  (54, .iload_n 2, 55, [2], 0, 0),
  (55, .istore_n 2, 56, [2], 0, 0),
  (56, .iinc 3 1, 59, [3], 1, 0),
  (59, .goto (-50), 62, [9], 0, 0),
  (62, .iload_n 2, 63, [2], 0, 0),
  (63, .iload_n 1, 64, [1], 0, 0),
  (64, .isub, 65, [], 0, 0),
  (65, .ireturn, 66, [], 0, 0)]
/-- OdometerRingModel.writes([IIIII)Z -/
def cd111 : List (Nat × Row) := [(0, .aload_n 0, 1, [0], 0, 0),
  (1, .bipush 8, 3, [], 8, 0),
  (3, .dup2, 4, [], 0, 0),
  (4, .iaload, 5, [], 0, 0),
  (5, .iconst 1, 6, [], 1, 0),
  (6, .iadd, 7, [], 0, 0),
  (7, .iastore, 8, [], 0, 0),
  (8, .aload_n 0, 9, [0], 0, 0),
  (9, .bipush 10, 11, [], 10, 0),
  (11, .iaload, 12, [], 0, 0),
  (12, .iconst 1, 13, [], 1, 0),
  (13, .if_icmp .ne 7, 16, [20], 0, 0),
  (16, .iconst 1, 17, [], 1, 0),
  (17, .goto 4, 20, [21], 0, 0),
  (20, .iconst 0, 21, [], 0, 0),
  (21, .istore 5, 23, [5], 0, 0),
  (23, .aload_n 0, 24, [0], 0, 0),
  (24, .bipush 10, 26, [], 10, 0),
  (26, .dup2, 27, [], 0, 0),
  (27, .iaload, 28, [], 0, 0),
  (28, .aload_n 0, 29, [0], 0, 0),
  (29, .bipush 10, 31, [], 10, 0),
  (31, .iaload, 32, [], 0, 0),
  (32, .ifCond .le 7, 35, [39], 0, 0),
  (35, .iconst 1, 36, [], 1, 0),
  (36, .goto 4, 39, [40], 0, 0),
  (39, .iconst 0, 40, [], 0, 0),
  (40, .isub, 41, [], 0, 0),
  (41, .iastore, 42, [], 0, 0),
  (42, .aload_n 0, 43, [0], 0, 0),
  (43, .bipush 11, 45, [], 11, 0),
  (45, .iaload, 46, [], 0, 0),
  (46, .istore 6, 48, [6], 0, 0),
  (48, .iload_n 1, 49, [1], 0, 0),
  (49, .iload_n 2, 50, [2], 0, 0),
  (50, .invokestatic 47, 53, [0, 106, 986, 987, 34, 988], 0, 0),
  (53, .istore 7, 55, [7], 0, 0),
  (55, .aload_n 0, 56, [0], 0, 0),
  (56, .iload_n 1, 57, [1], 0, 0),
  (57, .iload_n 2, 58, [2], 0, 0),
  (58, .invokestatic 51, 61, [0, 108, 989, 990, 34, 991], 0, 0),
  (61, .ifCond .ne 52, 64, [113], 0, 0),
  (64, .aload_n 0, 65, [0], 0, 0),
  (65, .iload 7, 67, [7], 0, 0),
  (67, .iconst 1, 68, [], 1, 0),
  (68, .iadd, 69, [], 0, 0),
  (69, .dup2, 70, [], 0, 0),
  (70, .iaload, 71, [], 0, 0),
  (71, .iconst 1, 72, [], 1, 0),
  (72, .iadd, 73, [], 0, 0),
  (73, .iastore, 74, [], 0, 0),
  (74, .iload 5, 76, [5], 0, 0),
  (76, .ifCond .ne 11, 79, [87], 0, 0),
  (79, .aload_n 0, 80, [0], 0, 0),
  (80, .iload 7, 82, [7], 0, 0),
  (82, .iload_n 3, 83, [3], 0, 0),
  (83, .iastore, 84, [], 0, 0),
  (84, .goto 29, 87, [113], 0, 0),
  (87, .iload 6, 89, [6], 0, 0),
  (89, .ifCond .le 24, 92, [113], 0, 0),
  (92, .aload_n 0, 93, [0], 0, 0),
  (93, .iload 7, 95, [7], 0, 0),
  (95, .iload 6, 97, [6], 0, 0),
  (97, .iconst 1, 98, [], 1, 0),
  (98, .if_icmp .ne 8, 101, [106], 0, 0),
  (101, .ldc 39, 103, [873], (-99999), 0),
  (103, .goto 9, 106, [112], 0, 0),
  (106, .iload_n 3, 107, [3], 0, 0),
  (107, .iload_n 3, 108, [3], 0, 0),
  (108, .bipush 100, 110, [], 100, 0),
  (110, .irem, 111, [], 0, 0),
  (111, .isub, 112, [], 0, 0),
  (112, .iastore, 113, [], 0, 0),
  (113, .iload 5, 115, [5], 0, 0),
  (115, .ifCond .eq 48, 118, [163], 0, 0),
  (118, .aload_n 0, 119, [0], 0, 0),
  (119, .iconst 3, 120, [], 3, 0),
  (120, .iconst 0, 121, [], 0, 0),
  (121, .iastore, 122, [], 0, 0),
  (122, .aload_n 0, 123, [0], 0, 0),
  (123, .bipush 12, 125, [], 12, 0),
  (125, .iconst 0, 126, [], 0, 0),
  (126, .iastore, 127, [], 0, 0),
  (127, .aload_n 0, 128, [0], 0, 0),
  (128, .bipush 11, 130, [], 11, 0),
  (130, .ldc 39, 132, [873], (-99999), 0),
  (132, .iastore, 133, [], 0, 0),
  (133, .aload_n 0, 134, [0], 0, 0),
  (134, .bipush 9, 136, [], 9, 0),
  (136, .dup2, 137, [], 0, 0),
  (137, .iaload, 138, [], 0, 0),
  (138, .iconst 1, 139, [], 1, 0),
  (139, .iadd, 140, [], 0, 0),
  (140, .iastore, 141, [], 0, 0),
  (141, .aload_n 0, 142, [0], 0, 0),
  (142, .bipush 13, 144, [], 13, 0),
  (144, .iload_n 1, 145, [1], 0, 0),
  (145, .iastore, 146, [], 0, 0),
  (146, .aload_n 0, 147, [0], 0, 0),
  (147, .bipush 14, 149, [], 14, 0),
  (149, .iload_n 2, 150, [2], 0, 0),
  (150, .iastore, 151, [], 0, 0),
  (151, .aload_n 0, 152, [0], 0, 0),
  (152, .bipush 15, 154, [], 15, 0),
  (154, .iload 6, 156, [6], 0, 0),
  (156, .iastore, 157, [], 0, 0),
  (157, .aload_n 0, 158, [0], 0, 0),
  (158, .bipush 16, 160, [], 16, 0),
  (160, .iload 4, 162, [4], 0, 0),
  (162, .iastore, 163, [], 0, 0),
  (163, .iload 5, 165, [5], 0, 0),
  (165, .ifCond .ne 7, 168, [172], 0, 0),
  (168, .iconst 1, 169, [], 1, 0),
  (169, .goto 4, 172, [173], 0, 0),
  (172, .iconst 0, 173, [], 0, 0),
  (173, .ireturn, 174, [], 0, 0)]
/-- OdometerRingModel.store([I)V -/
def cd112 : List (Nat × Row) := [(0, .iconst 0, 1, [], 0, 0),
  (1, .istore_n 1, 2, [1], 0, 0),
  (2, .iload_n 1, 3, [1], 0, 0),
  (3, .aload_n 0, 4, [0], 0, 0),
  (4, .iconst 0, 5, [], 0, 0),
  (5, .iaload, 6, [], 0, 0),
  (6, .iconst 1, 7, [], 1, 0),
  (7, .isub, 8, [], 0, 0),
  (8, .if_icmp .ge 73, 11, [81], 0, 0),
  (11, .aload_n 0, 12, [0], 0, 0),
  (12, .bipush 7, 14, [], 7, 0),
  (14, .iaload, 15, [], 0, 0),
  (15, .iconst 1, 16, [], 1, 0),
  (16, .iadd, 17, [], 0, 0),
  (17, .iload_n 1, 18, [1], 0, 0),
  (18, .iadd, 19, [], 0, 0),
  (19, .aload_n 0, 20, [0], 0, 0),
  (20, .iconst 0, 21, [], 0, 0),
  (21, .iaload, 22, [], 0, 0),
  (22, .irem, 23, [], 0, 0),
  (23, .istore_n 2, 24, [2], 0, 0),
  (24, .iconst 0, 25, [], 0, 0),
  (25, .istore_n 3, 26, [3], 0, 0),
  (26, .iload_n 3, 27, [3], 0, 0),
  (27, .iconst 3, 28, [], 3, 0),
  (28, .if_icmp .ge 23, 31, [51], 0, 0),
  (31, .aload_n 0, 32, [0], 0, 0),
  (32, .iload_n 2, 33, [2], 0, 0),
  (33, .iload_n 3, 34, [3], 0, 0),
  (34, .aload_n 0, 35, [0], 0, 0),
  (35, .iconst 4, 36, [], 4, 0),
  (36, .iaload, 37, [], 0, 0),
  (37, .iload_n 1, 38, [1], 0, 0),
  (38, .invokestatic 55, 41, [0, 111, 983, 984, 34, 985], 0, 0),
  (41, .ifCond .ne 4, 44, [45], 0, 0),
  (44, .return_, 45, [], 0, 0),
  (45, .iinc 3 1, 48, [3], 1, 0),
  (48, .goto (-22), 51, [26], 0, 0),
  (51, .aload_n 0, 52, [0], 0, 0),
  (52, .iload_n 2, 53, [2], 0, 0),
  (53, .invokestatic 59, 56, [0, 107, 992, 993, 34, 994], 0, 0),
  (56, .aload_n 0, 57, [0], 0, 0),
  (57, .iconst 4, 58, [], 4, 0),
  (58, .iaload, 59, [], 0, 0),
  (59, .if_icmp .ne 16, 62, [75], 0, 0),
  (62, .aload_n 0, 63, [0], 0, 0),
  (63, .bipush 7, 65, [], 7, 0),
  (65, .iload_n 2, 66, [2], 0, 0),
  (66, .iastore, 67, [], 0, 0),
  (67, .aload_n 0, 68, [0], 0, 0),
  (68, .bipush 6, 70, [], 6, 0),
  (70, .aload_n 0, 71, [0], 0, 0),
  (71, .iconst 4, 72, [], 4, 0),
  (72, .iaload, 73, [], 0, 0),
  (73, .iastore, 74, [], 0, 0),
  (74, .return_, 75, [], 0, 0),
  (75, .iinc 1 1, 78, [1], 1, 0),
  (78, .goto (-76), 81, [2], 0, 0),
  (81, .aload_n 0, 82, [0], 0, 0),
  (82, .bipush 12, 84, [], 12, 0),
  (84, .iconst 1, 85, [], 1, 0),
  (85, .iastore, 86, [], 0, 0),
  (86, .return_, 87, [], 0, 0)]
/-- OdometerRingModel.go([II)I -/
def cd113 : List (Nat × Row) := [(0, .iconst 0, 1, [], 0, 0),
  (1, .istore_n 2, 2, [2], 0, 0),
  (2, .iload_n 2, 3, [2], 0, 0),
  (3, .iload_n 1, 4, [1], 0, 0),
  (4, .if_icmp .ge 55, 7, [59], 0, 0),
  (7, .aload_n 0, 8, [0], 0, 0),
  (8, .iconst 3, 9, [], 3, 0),
  (9, .iaload, 10, [], 0, 0),
  (10, .iconst 1, 11, [], 1, 0),
  (11, .if_icmp .ne 48, 14, [59], 0, 0),
  (14, .aload_n 0, 15, [0], 0, 0),
  (15, .iconst 5, 16, [], 5, 0),
  (16, .dup2, 17, [], 0, 0),
  (17, .iaload, 18, [], 0, 0),
  (18, .iconst 1, 19, [], 1, 0),
  (19, .iadd, 20, [], 0, 0),
  (20, .iastore, 21, [], 0, 0),
  (21, .aload_n 0, 22, [0], 0, 0),
  (22, .iconst 4, 23, [], 4, 0),
  (23, .dup2, 24, [], 0, 0),
  (24, .iaload, 25, [], 0, 0),
  (25, .iconst 1, 26, [], 1, 0),
  (26, .iadd, 27, [], 0, 0),
  (27, .iastore, 28, [], 0, 0),
  (28, .iinc 2 1, 31, [2], 1, 0),
  (31, .aload_n 0, 32, [0], 0, 0),
  (32, .bipush 12, 34, [], 12, 0),
  (34, .iaload, 35, [], 0, 0),
  (35, .ifCond .ne (-33), 38, [2], 0, 0),
  (38, .aload_n 0, 39, [0], 0, 0),
  (39, .iconst 4, 40, [], 4, 0),
  (40, .iaload, 41, [], 0, 0),
  (41, .aload_n 0, 42, [0], 0, 0),
  (42, .bipush 6, 44, [], 6, 0),
  (44, .iaload, 45, [], 0, 0),
  (45, .aload_n 0, 46, [0], 0, 0),
  (46, .iconst 1, 47, [], 1, 0),
  (47, .iaload, 48, [], 0, 0),
  (48, .iadd, 49, [], 0, 0),
  (49, .if_icmp .lt (-47), 52, [2], 0, 0),
  (52, .aload_n 0, 53, [0], 0, 0),
  (53, .invokestatic 63, 56, [0, 112, 980, 981, 34, 982], 0, 0),
  (56, .goto (-54), 59, [2], 0, 0),
  (59, .iload_n 2, 60, [2], 0, 0),
  (60, .ireturn, 61, [], 0, 0)]
/-- OdometerRingModel.powerUp([I)V -/
def cd114 : List (Nat × Row) := [(0, .iconst 0, 1, [], 0, 0),
  (1, .istore_n 1, 2, [1], 0, 0),
  (2, .iconst 1, 3, [], 1, 0),
  (3, .istore_n 2, 4, [2], 0, 0),
  (4, .iload_n 2, 5, [2], 0, 0),
  (5, .aload_n 0, 6, [0], 0, 0),
  (6, .iconst 0, 7, [], 0, 0),
  (7, .iaload, 8, [], 0, 0),
  (8, .if_icmp .ge 28, 11, [36], 0, 0),
  (11, .aload_n 0, 12, [0], 0, 0),
  (12, .iload_n 2, 13, [2], 0, 0),
  (13, .invokestatic 59, 16, [0, 107, 992, 993, 34, 994], 0, 0),
  (16, .aload_n 0, 17, [0], 0, 0),
  (17, .iload_n 1, 18, [1], 0, 0),
  (18, .invokestatic 59, 21, [0, 107, 992, 993, 34, 994], 0, 0),
  (21, .if_icmp .le 7, 24, [28], 0, 0),
  (24, .iload_n 2, 25, [2], 0, 0),
  (25, .goto 4, 28, [29], 0, 0),
  (28, .iload_n 1, 29, [1], 0, 0),
  (29, .istore_n 1, 30, [1], 0, 0),
  (30, .iinc 2 1, 33, [2], 1, 0),
  (33, .goto (-29), 36, [4], 0, 0),
  (36, .aload_n 0, 37, [0], 0, 0),
  (37, .iload_n 1, 38, [1], 0, 0),
  (38, .invokestatic 59, 41, [0, 107, 992, 993, 34, 994], 0, 0),
  (41, .istore_n 2, 42, [2], 0, 0),
  (42, .aload_n 0, 43, [0], 0, 0),
  (43, .bipush 7, 45, [], 7, 0),
  (45, .iload_n 2, 46, [2], 0, 0),
  (46, .ldc 39, 48, [873], (-99999), 0),
  (48, .if_icmp .ne 7, 51, [55], 0, 0),
  (51, .iconst 0, 52, [], 0, 0),
  (52, .goto 4, 55, [56], 0, 0),
  (55, .iload_n 1, 56, [1], 0, 0),
  (56, .iastore, 57, [], 0, 0),
  (57, .aload_n 0, 58, [0], 0, 0),
  (58, .iconst 4, 59, [], 4, 0),
  (59, .iload_n 2, 60, [2], 0, 0),
  (60, .ldc 39, 62, [873], (-99999), 0),
  (62, .if_icmp .ne 7, 65, [69], 0, 0),
  (65, .iconst 0, 66, [], 0, 0),
  (66, .goto 4, 69, [70], 0, 0),
  (69, .iload_n 2, 70, [2], 0, 0),
  (70, .iastore, 71, [], 0, 0),
  (71, .aload_n 0, 72, [0], 0, 0),
  (72, .bipush 6, 74, [], 6, 0),
  (74, .aload_n 0, 75, [0], 0, 0),
  (75, .iconst 4, 76, [], 4, 0),
  (76, .iaload, 77, [], 0, 0),
  (77, .iastore, 78, [], 0, 0),
  (78, .aload_n 0, 79, [0], 0, 0),
  (79, .iconst 3, 80, [], 3, 0),
  (80, .iconst 1, 81, [], 1, 0),
  (81, .iastore, 82, [], 0, 0),
  (82, .aload_n 0, 83, [0], 0, 0),
  (83, .bipush 12, 85, [], 12, 0),
  (85, .iconst 0, 86, [], 0, 0),
  (86, .iastore, 87, [], 0, 0),
  (87, .return_, 88, [], 0, 0)]
/-- OdometerRingModel.serviceOf([III)I -/
def cd115 : List (Nat × Row) := [(0, .ldc 39, 2, [873], (-99999), 0),
  (2, .istore_n 3, 3, [3], 0, 0),
  (3, .iconst 0, 4, [], 0, 0),
  (4, .istore 4, 6, [4], 0, 0),
  (6, .iload 4, 8, [4], 0, 0),
  (8, .aload_n 0, 9, [0], 0, 0),
  (9, .bipush 17, 11, [], 17, 0),
  (11, .iaload, 12, [], 0, 0),
  (12, .if_icmp .ge 34, 15, [46], 0, 0),
  (15, .aload_n 0, 16, [0], 0, 0),
  (16, .bipush 18, 18, [], 18, 0),
  (18, .iconst 2, 19, [], 2, 0),
  (19, .iload 4, 21, [4], 0, 0),
  (21, .imul, 22, [], 0, 0),
  (22, .iadd, 23, [], 0, 0),
  (23, .iaload, 24, [], 0, 0),
  (24, .bipush 10, 26, [], 10, 0),
  (26, .iload_n 1, 27, [1], 0, 0),
  (27, .imul, 28, [], 0, 0),
  (28, .iload_n 2, 29, [2], 0, 0),
  (29, .iadd, 30, [], 0, 0),
  (30, .if_icmp .ne 8, 33, [38], 0, 0),
  (33, .iload 4, 35, [4], 0, 0),
  (35, .goto 4, 38, [39], 0, 0),
  (38, .iload_n 3, 39, [3], 0, 0),
  (39, .istore_n 3, 40, [3], 0, 0),
  (40, .iinc 4 1, 43, [4], 1, 0),
  (43, .goto (-37), 46, [6], 0, 0),
  (46, .iload_n 3, 47, [3], 0, 0),
  (47, .ireturn, 48, [], 0, 0)]
/-- OdometerRingModel.drop([II)V -/
def cd116 : List (Nat × Row) := [(0, .bipush 18, 2, [], 18, 0),
  (2, .iconst 2, 3, [], 2, 0),
  (3, .iload_n 1, 4, [1], 0, 0),
  (4, .imul, 5, [], 0, 0),
  (5, .iadd, 6, [], 0, 0),
  (6, .istore_n 2, 7, [2], 0, 0),
  (7, .iload_n 2, 8, [2], 0, 0),
  (8, .bipush 18, 10, [], 18, 0),
  (10, .iconst 2, 11, [], 2, 0),
  (11, .aload_n 0, 12, [0], 0, 0),
  (12, .bipush 17, 14, [], 17, 0),
  (14, .iaload, 15, [], 0, 0),
  (15, .imul, 16, [], 0, 0),
  (16, .iadd, 17, [], 0, 0),
  (17, .iconst 2, 18, [], 2, 0),
  (18, .isub, 19, [], 0, 0),
  (19, .if_icmp .ge 17, 22, [36], 0, 0),
  (22, .aload_n 0, 23, [0], 0, 0),
  (23, .iload_n 2, 24, [2], 0, 0),
  (24, .aload_n 0, 25, [0], 0, 0),
  (25, .iload_n 2, 26, [2], 0, 0),
  (26, .iconst 2, 27, [], 2, 0),
  (27, .iadd, 28, [], 0, 0),
  (28, .iaload, 29, [], 0, 0),
  (29, .iastore, 30, [], 0, 0),
  (30, .iinc 2 1, 33, [2], 1, 0),
  (33, .goto (-26), 36, [7], 0, 0),
  (36, .aload_n 0, 37, [0], 0, 0),
  (37, .bipush 17, 39, [], 17, 0),
  (39, .dup2, 40, [], 0, 0),
  (40, .iaload, 41, [], 0, 0),
  (41, .iconst 1, 42, [], 1, 0),
  (42, .isub, 43, [], 0, 0),
  (43, .iastore, 44, [], 0, 0),
  (44, .return_, 45, [], 0, 0)]
/-- OdometerRingModel.canServe([III)Z -/
def cd117 : List (Nat × Row) := [(0, .aload_n 0, 1, [0], 0, 0),
  (1, .iconst 3, 2, [], 3, 0),
  (2, .iaload, 3, [], 0, 0),
  (3, .iconst 1, 4, [], 1, 0),
  (4, .if_icmp .ne 27, 7, [31], 0, 0),
  (7, .aload_n 0, 8, [0], 0, 0),
  (8, .bipush 17, 10, [], 17, 0),
  (10, .iaload, 11, [], 0, 0),
  (11, .bipush 12, 13, [], 12, 0),
  (13, .if_icmp .lt 14, 16, [27], 0, 0),
  (16, .aload_n 0, 17, [0], 0, 0),
  (17, .iload_n 1, 18, [1], 0, 0),
  (18, .iload_n 2, 19, [2], 0, 0),
  (19, .invokestatic 67, 22, [0, 115, 1004, 1005, 34, 1006], 0, 0),
  (22, .ldc 39, 24, [873], (-99999), 0),
  (24, .if_icmp .eq 7, 27, [31], 0, 0),
  (27, .iconst 1, 28, [], 1, 0),
  (28, .goto 4, 31, [32], 0, 0),
  (31, .iconst 0, 32, [], 0, 0),
  (32, .ireturn, 33, [], 0, 0)]
/-- OdometerRingModel.serve([III)I -/
def cd118 : List (Nat × Row) := [(0, .aload_n 0, 1, [0], 0, 0),
  (1, .iload_n 1, 2, [1], 0, 0),
  (2, .iload_n 2, 3, [2], 0, 0),
  (3, .invokestatic 67, 6, [0, 115, 1004, 1005, 34, 1006], 0, 0),
  (6, .istore_n 3, 7, [3], 0, 0),
  (7, .ldc 39, 9, [873], (-99999), 0),
  (9, .istore 4, 11, [4], 0, 0),
  (11, .iload_n 3, 12, [3], 0, 0),
  (12, .ldc 39, 14, [873], (-99999), 0),
  (14, .if_icmp .eq 24, 17, [38], 0, 0),
  (17, .aload_n 0, 18, [0], 0, 0),
  (18, .iconst 4, 19, [], 4, 0),
  (19, .iaload, 20, [], 0, 0),
  (20, .aload_n 0, 21, [0], 0, 0),
  (21, .bipush 18, 23, [], 18, 0),
  (23, .iconst 2, 24, [], 2, 0),
  (24, .iload_n 3, 25, [3], 0, 0),
  (25, .imul, 26, [], 0, 0),
  (26, .iadd, 27, [], 0, 0),
  (27, .iconst 1, 28, [], 1, 0),
  (28, .iadd, 29, [], 0, 0),
  (29, .iaload, 30, [], 0, 0),
  (30, .isub, 31, [], 0, 0),
  (31, .istore 4, 33, [4], 0, 0),
  (33, .aload_n 0, 34, [0], 0, 0),
  (34, .iload_n 3, 35, [3], 0, 0),
  (35, .invokestatic 71, 38, [0, 116, 1010, 1011, 34, 1012], 0, 0),
  (38, .aload_n 0, 39, [0], 0, 0),
  (39, .bipush 18, 41, [], 18, 0),
  (41, .iconst 2, 42, [], 2, 0),
  (42, .aload_n 0, 43, [0], 0, 0),
  (43, .bipush 17, 45, [], 17, 0),
  (45, .iaload, 46, [], 0, 0),
  (46, .imul, 47, [], 0, 0),
  (47, .iadd, 48, [], 0, 0),
  (48, .bipush 10, 50, [], 10, 0),
  (50, .iload_n 1, 51, [1], 0, 0),
  (51, .imul, 52, [], 0, 0),
  (52, .iload_n 2, 53, [2], 0, 0),
  (53, .iadd, 54, [], 0, 0),
  (54, .iastore, 55, [], 0, 0),
  (55, .aload_n 0, 56, [0], 0, 0),
  (56, .bipush 18, 58, [], 18, 0),
  (58, .iconst 2, 59, [], 2, 0),
  (59, .aload_n 0, 60, [0], 0, 0),
  (60, .bipush 17, 62, [], 17, 0),
  (62, .iaload, 63, [], 0, 0),
  (63, .imul, 64, [], 0, 0),
  (64, .iadd, 65, [], 0, 0),
  (65, .iconst 1, 66, [], 1, 0),
  (66, .iadd, 67, [], 0, 0),
  (67, .aload_n 0, 68, [0], 0, 0),
  (68, .iconst 4, 69, [], 4, 0),
  (69, .iaload, 70, [], 0, 0),
  (70, .iastore, 71, [], 0, 0),
  (71, .aload_n 0, 72, [0], 0, 0),
  (72, .bipush 17, 74, [], 17, 0),
  (74, .dup2, 75, [], 0, 0),
  (75, .iaload, 76, [], 0, 0),
  (76, .iconst 1, 77, [], 1, 0),
  (77, .iadd, 78, [], 0, 0),
  (78, .iastore, 79, [], 0, 0),
  (79, .iload 4, 81, [4], 0, 0),
  (81, .ireturn, 82, [], 0, 0)]
/-- OdometerRingModel.canReplace([II)Z -/
def cd119 : List (Nat × Row) := [(0, .aload_n 0, 1, [0], 0, 0),
  (1, .iconst 3, 2, [], 3, 0),
  (2, .iaload, 3, [], 0, 0),
  (3, .iconst 1, 4, [], 1, 0),
  (4, .if_icmp .ne 15, 7, [19], 0, 0),
  (7, .iload_n 1, 8, [1], 0, 0),
  (8, .aload_n 0, 9, [0], 0, 0),
  (9, .bipush 7, 11, [], 7, 0),
  (11, .iaload, 12, [], 0, 0),
  (12, .if_icmp .eq 7, 15, [19], 0, 0),
  (15, .iconst 1, 16, [], 1, 0),
  (16, .goto 4, 19, [20], 0, 0),
  (19, .iconst 0, 20, [], 0, 0),
  (20, .ireturn, 21, [], 0, 0)]
/-- OdometerRingModel.renew([II)I -/
def cd120 : List (Nat × Row) := [(0, .aload_n 0, 1, [0], 0, 0),
  (1, .iload_n 1, 2, [1], 0, 0),
  (2, .invokestatic 75, 5, [0, 109, 1022, 1023, 34, 1024], 0, 0),
  (5, .istore_n 2, 6, [2], 0, 0),
  (6, .iconst 0, 7, [], 0, 0),
  (7, .istore_n 3, 8, [3], 0, 0),
  (8, .iload_n 3, 9, [3], 0, 0),
  (9, .iconst 3, 10, [], 3, 0),
  (10, .if_icmp .ge 27, 13, [37], 0, 0),
  (13, .aload_n 0, 14, [0], 0, 0),
  (14, .iload_n 1, 15, [1], 0, 0),
  (15, .iload_n 3, 16, [3], 0, 0),
  (16, .invokestatic 47, 19, [0, 106, 986, 987, 34, 988], 0, 0),
  (19, .iconst 0, 20, [], 0, 0),
  (20, .iastore, 21, [], 0, 0),
  (21, .aload_n 0, 22, [0], 0, 0),
  (22, .iload_n 1, 23, [1], 0, 0),
  (23, .iload_n 3, 24, [3], 0, 0),
  (24, .invokestatic 47, 27, [0, 106, 986, 987, 34, 988], 0, 0),
  (27, .iconst 1, 28, [], 1, 0),
  (28, .iadd, 29, [], 0, 0),
  (29, .iconst 0, 30, [], 0, 0),
  (30, .iastore, 31, [], 0, 0),
  (31, .iinc 3 1, 34, [3], 1, 0),
  (34, .goto (-26), 37, [8], 0, 0),
  (37, .iload_n 2, 38, [2], 0, 0),
  (38, .ireturn, 39, [], 0, 0)]
/-- OdometerRingModel.append(I)I -/
def cd121 : List (Nat × Row) := [(0, .aload_n 0, 1, [0], 0, 0),
  (1, .iload_n 1, 2, [1], 0, 0),
  (2, .i2l, 3, [], 0, 0),
  (3, .lconst 0, 4, [], 0, 0),
  (4, .ldc2_w 78, 7, [925], 0, 255),
  (7, .invokestatic 80, 10, [0, 100, 926, 927, 34, 928], 0, 0),
  (10, .ifCond .ne 7, 13, [17], 0, 0),
  (13, .iconst 1, 14, [], 1, 0),
  (14, .goto 17, 17, [31], 0, 0),
  (17, .aload_n 0, 18, [0], 0, 0),
  (18, .getfield 84, 21, [7, 2, 0, 876], 0, 0),
  (21, .bipush 90, 23, [], 90, 0),
  (23, .if_icmp .ne 7, 26, [30], 0, 0),
  (26, .iconst 2, 27, [], 2, 0),
  (27, .goto 4, 30, [31], 0, 0),
  (30, .iconst 0, 31, [], 0, 0),
  (31, .invokevirtual 87, 34, [99, 929, 931, 9, 34, 932], 0, 0),
  (34, .ifCond .eq 5, 37, [39], 0, 0),
  (37, .iconst 0, 38, [], 0, 0),
  (38, .ireturn, 39, [], 0, 0),
  (39, .aload_n 0, 40, [0], 0, 0),
  (40, .getfield 7, 43, [7, 1, 1, 875], 0, 0),
  (43, .aload_n 0, 44, [0], 0, 0),
  (44, .getfield 84, 47, [7, 2, 0, 876], 0, 0),
  (47, .iload_n 1, 48, [1], 0, 0),
  (48, .iastore, 49, [], 0, 0),
  (49, .aload_n 0, 50, [0], 0, 0),
  (50, .dup, 51, [], 0, 0),
  (51, .getfield 84, 54, [7, 2, 0, 876], 0, 0),
  (54, .iconst 1, 55, [], 1, 0),
  (55, .iadd, 56, [], 0, 0),
  (56, .putfield 84, 59, [7, 2, 0, 0, 876], 0, 0),
  (59, .aload_n 0, 60, [0], 0, 0),
  (60, .getfield 84, 63, [7, 2, 0, 876], 0, 0),
  (63, .ireturn, 64, [], 0, 0)]
/-- OdometerRingModel.clearText()I -/
def cd122 : List (Nat × Row) := [(0, .aload_n 0, 1, [0], 0, 0),
  (1, .iconst 0, 2, [], 0, 0),
  (2, .putfield 33, 5, [7, 0, 0, 0, 874], 0, 0),
  (5, .aload_n 0, 6, [0], 0, 0),
  (6, .getfield 84, 9, [7, 2, 0, 876], 0, 0),
  (9, .istore_n 1, 10, [1], 0, 0),
  (10, .aload_n 0, 11, [0], 0, 0),
  (11, .iconst 0, 12, [], 0, 0),
  (12, .putfield 84, 15, [7, 2, 0, 0, 876], 0, 0),
  (15, .iload_n 1, 16, [1], 0, 0),
  (16, .ireturn, 17, [], 0, 0)]
/-- OdometerRingModel.isNext(I)Z -/
def cd123 : List (Nat × Row) := [(0, .aload_n 0, 1, [0], 0, 0),
  (1, .getfield 91, 4, [7, 3, 0, 877], 0, 0),
  (4, .aload_n 0, 5, [0], 0, 0),
  (5, .getfield 84, 8, [7, 2, 0, 876], 0, 0),
  (8, .if_icmp .ge 20, 11, [28], 0, 0),
  (11, .aload_n 0, 12, [0], 0, 0),
  (12, .getfield 7, 15, [7, 1, 1, 875], 0, 0),
  (15, .aload_n 0, 16, [0], 0, 0),
  (16, .getfield 91, 19, [7, 3, 0, 877], 0, 0),
  (19, .iaload, 20, [], 0, 0),
  (20, .iload_n 1, 21, [1], 0, 0),
  (21, .if_icmp .ne 7, 24, [28], 0, 0),
  (24, .iconst 1, 25, [], 1, 0),
  (25, .goto 4, 28, [29], 0, 0),
  (28, .iconst 0, 29, [], 0, 0),
  (29, .ireturn, 30, [], 0, 0)]
/-- OdometerRingModel.accept(Z)V -/
def cd124 : List (Nat × Row) := [(0, .aload_n 0, 1, [0], 0, 0),
  (1, .aload_n 0, 2, [0], 0, 0),
  (2, .getfield 94, 5, [7, 4, 2, 878], 0, 0),
  (5, .ifCond .eq 11, 8, [16], 0, 0),
  (8, .iload_n 1, 9, [1], 0, 0),
  (9, .ifCond .eq 7, 12, [16], 0, 0),
  (12, .iconst 1, 13, [], 1, 0),
  (13, .goto 4, 16, [17], 0, 0),
  (16, .iconst 0, 17, [], 0, 0),
  (17, .putfield 94, 20, [7, 4, 2, 0, 878], 0, 0),
  (20, .aload_n 0, 21, [0], 0, 0),
  (21, .dup, 22, [], 0, 0),
  (22, .getfield 91, 25, [7, 3, 0, 877], 0, 0),
  (25, .aload_n 0, 26, [0], 0, 0),
  (26, .getfield 94, 29, [7, 4, 2, 878], 0, 0),
  (29, .ifCond .eq 7, 32, [36], 0, 0),
  (32, .iconst 1, 33, [], 1, 0),
  (33, .goto 4, 36, [37], 0, 0),
  (36, .iconst 0, 37, [], 0, 0),
  (37, .iadd, 38, [], 0, 0),
  (38, .putfield 91, 41, [7, 3, 0, 0, 877], 0, 0),
  (41, .return_, 42, [], 0, 0)]
/-- OdometerRingModel.digit(II)I -/
def cd125 : List (Nat × Row) := [(0, .aload_n 0, 1, [0], 0, 0),
  (1, .getfield 91, 4, [7, 3, 0, 877], 0, 0),
  (4, .aload_n 0, 5, [0], 0, 0),
  (5, .getfield 84, 8, [7, 2, 0, 876], 0, 0),
  (8, .if_icmp .ge 18, 11, [26], 0, 0),
  (11, .aload_n 0, 12, [0], 0, 0),
  (12, .getfield 7, 15, [7, 1, 1, 875], 0, 0),
  (15, .aload_n 0, 16, [0], 0, 0),
  (16, .getfield 91, 19, [7, 3, 0, 877], 0, 0),
  (19, .iaload, 20, [], 0, 0),
  (20, .bipush 48, 22, [], 48, 0),
  (22, .isub, 23, [], 0, 0),
  (23, .goto 5, 26, [28], 0, 0),
  (26, .ldc 39, 28, [873], (-99999), 0),
  (28, .istore_n 3, 29, [3], 0, 0),
  (29, .aload_n 0, 30, [0], 0, 0),
  (30, .iload_n 3, 31, [3], 0, 0),
  (31, .i2l, 32, [], 0, 0),
  (32, .lconst 0, 33, [], 0, 0),
  (33, .ldc2_w 98, 36, [965], 0, 9),
  (36, .invokestatic 80, 39, [0, 100, 926, 927, 34, 928], 0, 0),
  (39, .ifCond .eq 19, 42, [58], 0, 0),
  (42, .iload_n 3, 43, [3], 0, 0),
  (43, .i2l, 44, [], 0, 0),
  (44, .iload_n 1, 45, [1], 0, 0),
  (45, .i2l, 46, [], 0, 0),
  (46, .iload_n 2, 47, [2], 0, 0),
  (47, .i2l, 48, [], 0, 0),
  (48, .invokestatic 80, 51, [0, 100, 926, 927, 34, 928], 0, 0),
  (51, .ifCond .eq 7, 54, [58], 0, 0),
  (54, .iconst 1, 55, [], 1, 0),
  (55, .goto 4, 58, [59], 0, 0),
  (58, .iconst 0, 59, [], 0, 0),
  (59, .invokevirtual 100, 62, [124, 953, 955, 13, 34, 956], 0, 0),
  (62, .aload_n 0, 63, [0], 0, 0),
  (63, .getfield 94, 66, [7, 4, 2, 878], 0, 0),
  (66, .ifCond .eq 7, 69, [73], 0, 0),
  (69, .iload_n 3, 70, [3], 0, 0),
  (70, .goto 4, 73, [74], 0, 0),
  (73, .iload_n 1, 74, [1], 0, 0),
  (74, .ireturn, 75, [], 0, 0)]
/-- OdometerRingModel.two(II)I -/
def cd126 : List (Nat × Row) := [(0, .aload_n 0, 1, [0], 0, 0),
  (1, .iload_n 1, 2, [1], 0, 0),
  (2, .bipush 10, 4, [], 10, 0),
  (4, .idiv, 5, [], 0, 0),
  (5, .iload_n 2, 6, [2], 0, 0),
  (6, .bipush 10, 8, [], 10, 0),
  (8, .idiv, 9, [], 0, 0),
  (9, .invokevirtual 104, 12, [125, 961, 963, 15, 34, 964], 0, 0),
  (12, .istore_n 3, 13, [3], 0, 0),
  (13, .iload_n 1, 14, [1], 0, 0),
  (14, .bipush 10, 16, [], 10, 0),
  (16, .iload_n 3, 17, [3], 0, 0),
  (17, .imul, 18, [], 0, 0),
  (18, .isub, 19, [], 0, 0),
  (19, .istore 4, 21, [4], 0, 0),
  (21, .iload_n 2, 22, [2], 0, 0),
  (22, .bipush 10, 24, [], 10, 0),
  (24, .iload_n 3, 25, [3], 0, 0),
  (25, .imul, 26, [], 0, 0),
  (26, .isub, 27, [], 0, 0),
  (27, .istore 5, 29, [5], 0, 0),
  (29, .bipush 10, 31, [], 10, 0),
  (31, .iload_n 3, 32, [3], 0, 0),
  (32, .imul, 33, [], 0, 0),
  (33, .aload_n 0, 34, [0], 0, 0),
  (34, .iload 4, 36, [4], 0, 0),
  (36, .ifCond .ge 7, 39, [43], 0, 0),
  (39, .iconst 0, 40, [], 0, 0),
  (40, .goto 5, 43, [45], 0, 0),
  (43, .iload 4, 45, [4], 0, 0),
  (45, .iload 5, 47, [5], 0, 0),
  (47, .bipush 9, 49, [], 9, 0),
  (49, .if_icmp .le 8, 52, [57], 0, 0),
  (52, .bipush 9, 54, [], 9, 0),
  (54, .goto 5, 57, [59], 0, 0),
  (57, .iload 5, 59, [5], 0, 0),
  (59, .invokevirtual 104, 62, [125, 961, 963, 15, 34, 964], 0, 0),
  (62, .iadd, 63, [], 0, 0),
  (63, .ireturn, 64, [], 0, 0)]
/-- OdometerRingModel.three(I)I -/
def cd127 : List (Nat × Row) := [(0, .aload_n 0, 1, [0], 0, 0),
  (1, .iconst 0, 2, [], 0, 0),
  (2, .bipush 9, 4, [], 9, 0),
  (4, .invokevirtual 104, 7, [125, 961, 963, 15, 34, 964], 0, 0),
  (7, .istore_n 2, 8, [2], 0, 0),
  (8, .iload_n 1, 9, [1], 0, 0),
  (9, .bipush 100, 11, [], 100, 0),
  (11, .iload_n 2, 12, [2], 0, 0),
  (12, .imul, 13, [], 0, 0),
  (13, .isub, 14, [], 0, 0),
  (14, .istore_n 3, 15, [3], 0, 0),
  (15, .bipush 100, 17, [], 100, 0),
  (17, .iload_n 2, 18, [2], 0, 0),
  (18, .imul, 19, [], 0, 0),
  (19, .aload_n 0, 20, [0], 0, 0),
  (20, .iload_n 3, 21, [3], 0, 0),
  (21, .ifCond .ge 7, 24, [28], 0, 0),
  (24, .iconst 0, 25, [], 0, 0),
  (25, .goto 4, 28, [29], 0, 0),
  (28, .iload_n 3, 29, [3], 0, 0),
  (29, .bipush 99, 31, [], 99, 0),
  (31, .invokevirtual 107, 34, [126, 957, 959, 14, 34, 960], 0, 0),
  (34, .iadd, 35, [], 0, 0),
  (35, .ireturn, 36, [], 0, 0)]
/-- OdometerRingModel.head()V -/
def cd128 : List (Nat × Row) := [(0, .aload_n 0, 1, [0], 0, 0),
  (1, .iconst 0, 2, [], 0, 0),
  (2, .putfield 91, 5, [7, 3, 0, 0, 877], 0, 0),
  (5, .aload_n 0, 6, [0], 0, 0),
  (6, .iconst 1, 7, [], 1, 0),
  (7, .putfield 94, 10, [7, 4, 2, 0, 878], 0, 0),
  (10, .aload_n 0, 11, [0], 0, 0),
  (11, .aload_n 0, 12, [0], 0, 0),
  (12, .bipush 79, 14, [], 79, 0),
  (14, .invokevirtual 110, 17, [123, 949, 951, 12, 34, 952], 0, 0),
  (17, .invokevirtual 100, 20, [124, 953, 955, 13, 34, 956], 0, 0),
  (20, .aload_n 0, 21, [0], 0, 0),
  (21, .aload_n 0, 22, [0], 0, 0),
  (22, .iconst 3, 23, [], 3, 0),
  (23, .bipush 12, 25, [], 12, 0),
  (25, .invokevirtual 107, 28, [126, 957, 959, 14, 34, 960], 0, 0),
  (28, .putfield 113, 31, [7, 5, 0, 0, 879], 0, 0),
  (31, .aload_n 0, 32, [0], 0, 0),
  (32, .aload_n 0, 33, [0], 0, 0),
  (33, .iconst 1, 34, [], 1, 0),
  (34, .bipush 99, 36, [], 99, 0),
  (36, .invokevirtual 107, 39, [126, 957, 959, 14, 34, 960], 0, 0),
  (39, .putfield 116, 42, [7, 6, 0, 0, 880], 0, 0),
  (42, .aload_n 0, 43, [0], 0, 0),
  (43, .aload_n 0, 44, [0], 0, 0),
  (44, .bipush 10, 46, [], 10, 0),
  (46, .invokevirtual 119, 49, [127, 966, 968, 16, 34, 969], 0, 0),
  (49, .putfield 123, 52, [7, 7, 0, 0, 881], 0, 0),
  (52, .return_, 53, [], 0, 0)]
/-- OdometerRingModel.command(Z)Z -/
def cd129 : List (Nat × Row) := [(0, .aload_n 0, 1, [0], 0, 0),
  (1, .bipush 100, 3, [], 100, 0),
  (3, .invokevirtual 110, 6, [123, 949, 951, 12, 34, 952], 0, 0),
  (6, .ifCond .eq 35, 9, [41], 0, 0),
  (9, .aload_n 0, 10, [0], 0, 0),
  (10, .iconst 1, 11, [], 1, 0),
  (11, .invokevirtual 100, 14, [124, 953, 955, 13, 34, 956], 0, 0),
  (14, .aload_n 0, 15, [0], 0, 0),
  (15, .iconst 1, 16, [], 1, 0),
  (16, .invokevirtual 119, 19, [127, 966, 968, 16, 34, 969], 0, 0),
  (19, .istore_n 2, 20, [2], 0, 0),
  (20, .iload_n 1, 21, [1], 0, 0),
  (21, .ifCond .eq 18, 24, [39], 0, 0),
  (24, .aload_n 0, 25, [0], 0, 0),
  (25, .getfield 13, 28, [7, 8, 1, 882], 0, 0),
  (28, .iload_n 2, 29, [2], 0, 0),
  (29, .invokestatic 126, 32, [0, 131, 974, 975, 34, 976], 0, 0),
  (32, .ifCond .ne 7, 35, [39], 0, 0),
  (35, .iconst 1, 36, [], 1, 0),
  (36, .goto 4, 39, [40], 0, 0),
  (39, .iconst 0, 40, [], 0, 0),
  (40, .ireturn, 41, [], 0, 0),
  (41, .aload_n 0, 42, [0], 0, 0),
  (42, .bipush 99, 44, [], 99, 0),
  (44, .invokevirtual 110, 47, [123, 949, 951, 12, 34, 952], 0, 0),
  (47, .ifCond .eq 45, 50, [92], 0, 0),
  (50, .aload_n 0, 51, [0], 0, 0),
  (51, .iconst 1, 52, [], 1, 0),
  (52, .invokevirtual 100, 55, [124, 953, 955, 13, 34, 956], 0, 0),
  (55, .aload_n 0, 56, [0], 0, 0),
  (56, .iconst 1, 57, [], 1, 0),
  (57, .bipush 36, 59, [], 36, 0),
  (59, .invokevirtual 107, 62, [126, 957, 959, 14, 34, 960], 0, 0),
  (62, .istore_n 2, 63, [2], 0, 0),
  (63, .aload_n 0, 64, [0], 0, 0),
  (64, .iconst 0, 65, [], 0, 0),
  (65, .iconst 2, 66, [], 2, 0),
  (66, .invokevirtual 104, 69, [125, 961, 963, 15, 34, 964], 0, 0),
  (69, .istore_n 3, 70, [3], 0, 0),
  (70, .iload_n 1, 71, [1], 0, 0),
  (71, .ifCond .eq 19, 74, [90], 0, 0),
  (74, .aload_n 0, 75, [0], 0, 0),
  (75, .getfield 13, 78, [7, 8, 1, 882], 0, 0),
  (78, .iload_n 2, 79, [2], 0, 0),
  (79, .iload_n 3, 80, [3], 0, 0),
  (80, .invokestatic 130, 83, [0, 132, 995, 996, 34, 997], 0, 0),
  (83, .ifCond .ne 7, 86, [90], 0, 0),
  (86, .iconst 1, 87, [], 1, 0),
  (87, .goto 4, 90, [91], 0, 0),
  (90, .iconst 0, 91, [], 0, 0),
  (91, .ireturn, 92, [], 0, 0),
  (92, .aload_n 0, 93, [0], 0, 0),
  (93, .bipush 109, 95, [], 109, 0),
  (95, .invokevirtual 110, 98, [123, 949, 951, 12, 34, 952], 0, 0),
  (98, .ifCond .eq 46, 101, [144], 0, 0),
  (101, .aload_n 0, 102, [0], 0, 0),
  (102, .iconst 1, 103, [], 1, 0),
  (103, .invokevirtual 100, 106, [124, 953, 955, 13, 34, 956], 0, 0),
  (106, .aload_n 0, 107, [0], 0, 0),
  (107, .iconst 0, 108, [], 0, 0),
  (108, .bipush 9, 110, [], 9, 0),
  (110, .invokevirtual 104, 113, [125, 961, 963, 15, 34, 964], 0, 0),
  (113, .istore_n 2, 114, [2], 0, 0),
  (114, .aload_n 0, 115, [0], 0, 0),
  (115, .iconst 0, 116, [], 0, 0),
  (116, .bipush 9, 118, [], 9, 0),
  (118, .invokevirtual 104, 121, [125, 961, 963, 15, 34, 964], 0, 0),
  (121, .istore_n 3, 122, [3], 0, 0),
  (122, .iload_n 1, 123, [1], 0, 0),
  (123, .ifCond .eq 19, 126, [142], 0, 0),
  (126, .aload_n 0, 127, [0], 0, 0),
  (127, .getfield 13, 130, [7, 8, 1, 882], 0, 0),
  (130, .iload_n 2, 131, [2], 0, 0),
  (131, .iload_n 3, 132, [3], 0, 0),
  (132, .invokestatic 133, 135, [0, 134, 998, 999, 34, 1000], 0, 0),
  (135, .ifCond .ne 7, 138, [142], 0, 0),
  (138, .iconst 1, 139, [], 1, 0),
  (139, .goto 4, 142, [143], 0, 0),
  (142, .iconst 0, 143, [], 0, 0),
  (143, .ireturn, 144, [], 0, 0),
  (144, .aload_n 0, 145, [0], 0, 0),
  (145, .bipush 114, 147, [], 114, 0),
  (147, .invokevirtual 110, 150, [123, 949, 951, 12, 34, 952], 0, 0),
  (150, .ifCond .eq 41, 153, [191], 0, 0),
  (153, .aload_n 0, 154, [0], 0, 0),
  (154, .iconst 1, 155, [], 1, 0),
  (155, .invokevirtual 100, 158, [124, 953, 955, 13, 34, 956], 0, 0),
  (158, .aload_n 0, 159, [0], 0, 0),
  (159, .iconst 0, 160, [], 0, 0),
  (160, .aload_n 0, 161, [0], 0, 0),
  (161, .getfield 113, 164, [7, 5, 0, 879], 0, 0),
  (164, .iconst 1, 165, [], 1, 0),
  (165, .isub, 166, [], 0, 0),
  (166, .invokevirtual 107, 169, [126, 957, 959, 14, 34, 960], 0, 0),
  (169, .istore_n 2, 170, [2], 0, 0),
  (170, .iload_n 1, 171, [1], 0, 0),
  (171, .ifCond .eq 18, 174, [189], 0, 0),
  (174, .aload_n 0, 175, [0], 0, 0),
  (175, .getfield 13, 178, [7, 8, 1, 882], 0, 0),
  (178, .iload_n 2, 179, [2], 0, 0),
  (179, .invokestatic 136, 182, [0, 135, 1013, 1014, 34, 1015], 0, 0),
  (182, .ifCond .ne 7, 185, [189], 0, 0),
  (185, .iconst 1, 186, [], 1, 0),
  (186, .goto 4, 189, [190], 0, 0),
  (189, .iconst 0, 190, [], 0, 0),
  (190, .ireturn, 191, [], 0, 0),
  (191, .aload_n 0, 192, [0], 0, 0),
  (192, .aload_n 0, 193, [0], 0, 0),
  (193, .bipush 115, 195, [], 115, 0),
  (195, .invokevirtual 110, 198, [123, 949, 951, 12, 34, 952], 0, 0),
  (198, .invokevirtual 100, 201, [124, 953, 955, 13, 34, 956], 0, 0),
  (201, .iload_n 1, 202, [1], 0, 0),
  (202, .ifCond .eq 17, 205, [219], 0, 0),
  (205, .aload_n 0, 206, [0], 0, 0),
  (206, .getfield 13, 209, [7, 8, 1, 882], 0, 0),
  (209, .invokestatic 139, 212, [0, 133, 1025, 1026, 34, 1027], 0, 0),
  (212, .ifCond .ne 7, 215, [219], 0, 0),
  (215, .iconst 1, 216, [], 1, 0),
  (216, .goto 4, 219, [220], 0, 0),
  (219, .iconst 0, 220, [], 0, 0),
  (220, .ireturn, 221, [], 0, 0)]
/-- OdometerRingModel.readText()I -/
def cd130 : List (Nat × Row) := [(0, .aload_n 0, 1, [0], 0, 0),
  (1, .invokevirtual 143, 4, [128, 945, 947, 11, 34, 948], 0, 0),
  (4, .aload_n 0, 5, [0], 0, 0),
  (5, .getfield 94, 8, [7, 4, 2, 878], 0, 0),
  (8, .ifCond .eq 23, 11, [31], 0, 0),
  (11, .aload_n 0, 12, [0], 0, 0),
  (12, .getfield 91, 15, [7, 3, 0, 877], 0, 0),
  (15, .aload_n 0, 16, [0], 0, 0),
  (16, .getfield 84, 19, [7, 2, 0, 876], 0, 0),
  (19, .if_icmp .ge 12, 22, [31], 0, 0),
  (22, .aload_n 0, 23, [0], 0, 0),
  (23, .iconst 0, 24, [], 0, 0),
  (24, .invokevirtual 146, 27, [129, 970, 972, 17, 34, 973], 0, 0),
  (27, .pop, 28, [], 0, 0),
  (28, .goto (-24), 31, [4], 0, 0),
  (31, .aload_n 0, 32, [0], 0, 0),
  (32, .getfield 94, 35, [7, 4, 2, 878], 0, 0),
  (35, .ifCond .eq 8, 38, [43], 0, 0),
  (38, .ldc 39, 40, [873], (-99999), 0),
  (40, .goto 7, 43, [47], 0, 0),
  (43, .aload_n 0, 44, [0], 0, 0),
  (44, .getfield 91, 47, [7, 3, 0, 877], 0, 0),
  (47, .ireturn, 48, [], 0, 0)]
/-- OdometerRingModel.doDrive([II)Z -/
def cd131 : List (Nat × Row) := [(0, .aload_n 0, 1, [0], 0, 0),
  (1, .iconst 3, 2, [], 3, 0),
  (2, .iaload, 3, [], 0, 0),
  (3, .ifCond .ne 5, 6, [8], 0, 0),
  (6, .iconst 0, 7, [], 0, 0),
  (7, .ireturn, 8, [], 0, 0),
  (8, .aload_n 0, 9, [0], 0, 0),
  (9, .iload_n 1, 10, [1], 0, 0),
  (10, .invokestatic 150, 13, [0, 113, 977, 978, 34, 979], 0, 0),
  (13, .pop, 14, [], 0, 0),
  (14, .iconst 1, 15, [], 1, 0),
  (15, .ireturn, 16, [], 0, 0)]
/-- OdometerRingModel.doCut([III)Z -/
def cd132 : List (Nat × Row) := [(0, .aload_n 0, 1, [0], 0, 0),
  (1, .iconst 3, 2, [], 3, 0),
  (2, .iaload, 3, [], 0, 0),
  (3, .ifCond .ne 5, 6, [8], 0, 0),
  (6, .iconst 0, 7, [], 0, 0),
  (7, .ireturn, 8, [], 0, 0),
  (8, .aload_n 0, 9, [0], 0, 0),
  (9, .bipush 10, 11, [], 10, 0),
  (11, .iload_n 1, 12, [1], 0, 0),
  (12, .iastore, 13, [], 0, 0),
  (13, .aload_n 0, 14, [0], 0, 0),
  (14, .bipush 11, 16, [], 11, 0),
  (16, .iload_n 2, 17, [2], 0, 0),
  (17, .iastore, 18, [], 0, 0),
  (18, .iconst 1, 19, [], 1, 0),
  (19, .ireturn, 20, [], 0, 0)]
/-- OdometerRingModel.doStart([I)Z -/
def cd133 : List (Nat × Row) := [(0, .aload_n 0, 1, [0], 0, 0),
  (1, .iconst 3, 2, [], 3, 0),
  (2, .iaload, 3, [], 0, 0),
  (3, .iconst 1, 4, [], 1, 0),
  (4, .if_icmp .ne 5, 7, [9], 0, 0),
  (7, .iconst 0, 8, [], 0, 0),
  (8, .ireturn, 9, [], 0, 0),
  (9, .aload_n 0, 10, [0], 0, 0),
  (10, .invokestatic 153, 13, [0, 114, 1028, 1029, 34, 1030], 0, 0),
  (13, .iconst 1, 14, [], 1, 0),
  (14, .ireturn, 15, [], 0, 0)]
/-- OdometerRingModel.doServe([III)Z -/
def cd134 : List (Nat × Row) := [(0, .aload_n 0, 1, [0], 0, 0),
  (1, .iload_n 1, 2, [1], 0, 0),
  (2, .iload_n 2, 3, [2], 0, 0),
  (3, .invokestatic 156, 6, [0, 117, 1001, 1002, 34, 1003], 0, 0),
  (6, .ifCond .ne 5, 9, [11], 0, 0),
  (9, .iconst 0, 10, [], 0, 0),
  (10, .ireturn, 11, [], 0, 0),
  (11, .aload_n 0, 12, [0], 0, 0),
  (12, .iload_n 1, 13, [1], 0, 0),
  (13, .iload_n 2, 14, [2], 0, 0),
  (14, .invokestatic 159, 17, [0, 118, 1007, 1008, 34, 1009], 0, 0),
  (17, .pop, 18, [], 0, 0),
  (18, .iconst 1, 19, [], 1, 0),
  (19, .ireturn, 20, [], 0, 0)]
/-- OdometerRingModel.doReplace([II)Z -/
def cd135 : List (Nat × Row) := [(0, .aload_n 0, 1, [0], 0, 0),
  (1, .iload_n 1, 2, [1], 0, 0),
  (2, .invokestatic 162, 5, [0, 119, 1016, 1017, 34, 1018], 0, 0),
  (5, .ifCond .ne 5, 8, [10], 0, 0),
  (8, .iconst 0, 9, [], 0, 0),
  (9, .ireturn, 10, [], 0, 0),
  (10, .aload_n 0, 11, [0], 0, 0),
  (11, .iload_n 1, 12, [1], 0, 0),
  (12, .invokestatic 165, 15, [0, 120, 1019, 1020, 34, 1021], 0, 0),
  (15, .pop, 16, [], 0, 0),
  (16, .iconst 1, 17, [], 1, 0),
  (17, .ireturn, 18, [], 0, 0)]
/-- OdometerRingModel.errorPosition()I -/
def cd136 : List (Nat × Row) := [(0, .aload_n 0, 1, [0], 0, 0),
  (1, .iconst 0, 2, [], 0, 0),
  (2, .putfield 33, 5, [7, 0, 0, 0, 874], 0, 0),
  (5, .aload_n 0, 6, [0], 0, 0),
  (6, .invokevirtual 168, 9, [130, 941, 943, 10, 34, 944], 0, 0),
  (9, .ireturn, 10, [], 0, 0)]
/-- OdometerRingModel.load()I -/
def cd137 : List (Nat × Row) := [(0, .aload_n 0, 1, [0], 0, 0),
  (1, .aload_n 0, 2, [0], 0, 0),
  (2, .invokevirtual 168, 5, [130, 941, 943, 10, 34, 944], 0, 0),
  (5, .ldc 39, 7, [873], (-99999), 0),
  (7, .if_icmp .ne 7, 10, [14], 0, 0),
  (10, .iconst 0, 11, [], 0, 0),
  (11, .goto 4, 14, [15], 0, 0),
  (14, .iconst 1, 15, [], 1, 0),
  (15, .invokevirtual 87, 18, [99, 929, 931, 9, 34, 932], 0, 0),
  (18, .ifCond .eq 5, 21, [23], 0, 0),
  (21, .iconst 0, 22, [], 0, 0),
  (22, .ireturn, 23, [], 0, 0),
  (23, .aload_n 0, 24, [0], 0, 0),
  (24, .invokevirtual 143, 27, [128, 945, 947, 11, 34, 948], 0, 0),
  (27, .aload_n 0, 28, [0], 0, 0),
  (28, .getfield 13, 31, [7, 8, 1, 882], 0, 0),
  (31, .aload_n 0, 32, [0], 0, 0),
  (32, .getfield 113, 35, [7, 5, 0, 879], 0, 0),
  (35, .aload_n 0, 36, [0], 0, 0),
  (36, .getfield 116, 39, [7, 6, 0, 880], 0, 0),
  (39, .aload_n 0, 40, [0], 0, 0),
  (40, .getfield 123, 43, [7, 7, 0, 881], 0, 0),
  (43, .invokestatic 29, 46, [0, 103, 870, 871, 34, 872], 0, 0),
  (46, .iconst 0, 47, [], 0, 0),
  (47, .istore_n 1, 48, [1], 0, 0),
  (48, .aload_n 0, 49, [0], 0, 0),
  (49, .getfield 91, 52, [7, 3, 0, 877], 0, 0),
  (52, .aload_n 0, 53, [0], 0, 0),
  (53, .getfield 84, 56, [7, 2, 0, 876], 0, 0),
  (56, .if_icmp .ge 22, 59, [78], 0, 0),
  (59, .iload_n 1, 60, [1], 0, 0),
  (60, .aload_n 0, 61, [0], 0, 0),
  (61, .iconst 1, 62, [], 1, 0),
  (62, .invokevirtual 146, 65, [129, 970, 972, 17, 34, 973], 0, 0),
  (65, .ifCond .eq 7, 68, [72], 0, 0),
  (68, .iconst 1, 69, [], 1, 0),
  (69, .goto 4, 72, [73], 0, 0),
  (72, .iconst 0, 73, [], 0, 0),
  (73, .iadd, 74, [], 0, 0),
  (74, .istore_n 1, 75, [1], 0, 0),
  (75, .goto (-27), 78, [48], 0, 0),
  (78, .aload_n 0, 79, [0], 0, 0),
  (79, .iconst 0, 80, [], 0, 0),
  (80, .putfield 40, 83, [7, 11, 0, 0, 885], 0, 0),
  (83, .aload_n 0, 84, [0], 0, 0),
  (84, .getfield 25, 87, [7, 13, 1, 887], 0, 0),
  (87, .iconst 0, 88, [], 0, 0),
  (88, .iconst 0, 89, [], 0, 0),
  (89, .bastore, 90, [], 0, 0),
  (90, .aload_n 0, 91, [0], 0, 0),
  (91, .getfield 25, 94, [7, 13, 1, 887], 0, 0),
  (94, .iconst 1, 95, [], 1, 0),
  (95, .iconst 0, 96, [], 0, 0),
  (96, .bastore, 97, [], 0, 0),
  (97, .iload_n 1, 98, [1], 0, 0),
  (98, .ireturn, 99, [], 0, 0)]
/-- OdometerRingModel.about(I)I -/
def cd138 : List (Nat × Row) := [(0, .aload_n 0, 1, [0], 0, 0),
  (1, .iload_n 1, 2, [1], 0, 0),
  (2, .i2l, 3, [], 0, 0),
  (3, .lconst 0, 4, [], 0, 0),
  (4, .ldc2_w 172, 7, [1039], 0, 14),
  (7, .invokestatic 80, 10, [0, 100, 926, 927, 34, 928], 0, 0),
  (10, .ifCond .eq 7, 13, [17], 0, 0),
  (13, .iconst 0, 14, [], 0, 0),
  (14, .goto 4, 17, [18], 0, 0),
  (17, .iconst 1, 18, [], 1, 0),
  (18, .invokevirtual 87, 21, [99, 929, 931, 9, 34, 932], 0, 0),
  (21, .ifCond .eq 5, 24, [26], 0, 0),
  (24, .iconst 0, 25, [], 0, 0),
  (25, .ireturn, 26, [], 0, 0),
  (26, .aload_n 0, 27, [0], 0, 0),
  (27, .getfield 13, 30, [7, 8, 1, 882], 0, 0),
  (30, .iconst 3, 31, [], 3, 0),
  (31, .iaload, 32, [], 0, 0),
  (32, .ifCond .ne 7, 35, [39], 0, 0),
  (35, .iconst 1, 36, [], 1, 0),
  (36, .goto 4, 39, [40], 0, 0),
  (39, .iconst 0, 40, [], 0, 0),
  (40, .istore_n 2, 41, [2], 0, 0),
  (41, .iload_n 1, 42, [1], 0, 0),
  (42, .tableswitch 90 4 14 #[58, 90, 58, 58, 90, 90, 90, 90, 90, 74, 82], 100, [132, 4, 100, 5, 132, 6, 100, 7, 100, 8, 132, 9, 132, 10, 132, 11, 132, 12, 132, 13, 116, 14, 124], 0, 0),
  (100, .iload_n 2, 101, [2], 0, 0),
  (101, .ifCond .eq 8, 104, [109], 0, 0),
  (104, .ldc 39, 106, [873], (-99999), 0),
  (106, .goto 9, 109, [115], 0, 0),
  (109, .aload_n 0, 110, [0], 0, 0),
  (110, .getfield 13, 113, [7, 8, 1, 882], 0, 0),
  (113, .iload_n 1, 114, [1], 0, 0),
  (114, .iaload, 115, [], 0, 0),
  (115, .ireturn, 116, [], 0, 0),
  (116, .aload_n 0, 117, [0], 0, 0),
  (117, .getfield 13, 120, [7, 8, 1, 882], 0, 0),
  (120, .invokestatic 174, 123, [0, 110, 1040, 1041, 34, 1042], 0, 0),
  (123, .ireturn, 124, [], 0, 0),
  (124, .aload_n 0, 125, [0], 0, 0),
  (125, .getfield 13, 128, [7, 8, 1, 882], 0, 0),
  (128, .bipush 17, 130, [], 17, 0),
  (130, .iaload, 131, [], 0, 0),
  (131, .ireturn, 132, [], 0, 0),
  (132, .aload_n 0, 133, [0], 0, 0),
  (133, .getfield 13, 136, [7, 8, 1, 882], 0, 0),
  (136, .iload_n 1, 137, [1], 0, 0),
  (137, .iaload, 138, [], 0, 0),
  (138, .ireturn, 139, [], 0, 0)]
/-- OdometerRingModel.isSlot(I)Z -/
def cd139 : List (Nat × Row) := [(0, .iload_n 1, 1, [1], 0, 0),
  (1, .i2l, 2, [], 0, 0),
  (2, .lconst 0, 3, [], 0, 0),
  (3, .aload_n 0, 4, [0], 0, 0),
  (4, .getfield 13, 7, [7, 8, 1, 882], 0, 0),
  (7, .iconst 0, 8, [], 0, 0),
  (8, .iaload, 9, [], 0, 0),
  (9, .iconst 1, 10, [], 1, 0),
  (10, .isub, 11, [], 0, 0),
  (11, .i2l, 12, [], 0, 0),
  (12, .invokestatic 80, 15, [0, 100, 926, 927, 34, 928], 0, 0),
  (15, .ireturn, 16, [], 0, 0)]
/-- OdometerRingModel.cell(III)I -/
def cd140 : List (Nat × Row) := [(0, .aload_n 0, 1, [0], 0, 0),
  (1, .aload_n 0, 2, [0], 0, 0),
  (2, .iload_n 1, 3, [1], 0, 0),
  (3, .invokevirtual 178, 6, [139, 1047, 1049, 18, 34, 1050], 0, 0),
  (6, .ifCond .eq 15, 9, [21], 0, 0),
  (9, .iload_n 2, 10, [2], 0, 0),
  (10, .i2l, 11, [], 0, 0),
  (11, .lconst 0, 12, [], 0, 0),
  (12, .ldc2_w 181, 15, [1051], 0, 2),
  (15, .invokestatic 80, 18, [0, 100, 926, 927, 34, 928], 0, 0),
  (18, .ifCond .ne 7, 21, [25], 0, 0),
  (21, .iconst 1, 22, [], 1, 0),
  (22, .goto 20, 25, [42], 0, 0),
  (25, .iload_n 3, 26, [3], 0, 0),
  (26, .i2l, 27, [], 0, 0),
  (27, .lconst 0, 28, [], 0, 0),
  (28, .ldc2_w 181, 31, [1051], 0, 2),
  (31, .invokestatic 80, 34, [0, 100, 926, 927, 34, 928], 0, 0),
  (34, .ifCond .eq 7, 37, [41], 0, 0),
  (37, .iconst 0, 38, [], 0, 0),
  (38, .goto 4, 41, [42], 0, 0),
  (41, .iconst 2, 42, [], 2, 0),
  (42, .invokevirtual 87, 45, [99, 929, 931, 9, 34, 932], 0, 0),
  (45, .ifCond .eq 5, 48, [50], 0, 0),
  (48, .iconst 0, 49, [], 0, 0),
  (49, .ireturn, 50, [], 0, 0),
  (50, .iload_n 3, 51, [3], 0, 0),
  (51, .iconst 2, 52, [], 2, 0),
  (52, .if_icmp .ge 18, 55, [70], 0, 0),
  (55, .aload_n 0, 56, [0], 0, 0),
  (56, .getfield 13, 59, [7, 8, 1, 882], 0, 0),
  (59, .iload_n 1, 60, [1], 0, 0),
  (60, .iload_n 2, 61, [2], 0, 0),
  (61, .invokestatic 47, 64, [0, 106, 986, 987, 34, 988], 0, 0),
  (64, .iload_n 3, 65, [3], 0, 0),
  (65, .iadd, 66, [], 0, 0),
  (66, .iaload, 67, [], 0, 0),
  (67, .goto 20, 70, [87], 0, 0),
  (70, .aload_n 0, 71, [0], 0, 0),
  (71, .getfield 13, 74, [7, 8, 1, 882], 0, 0),
  (74, .iload_n 1, 75, [1], 0, 0),
  (75, .iload_n 2, 76, [2], 0, 0),
  (76, .invokestatic 51, 79, [0, 108, 989, 990, 34, 991], 0, 0),
  (79, .ifCond .eq 7, 82, [86], 0, 0),
  (82, .iconst 1, 83, [], 1, 0),
  (83, .goto 4, 86, [87], 0, 0),
  (86, .iconst 0, 87, [], 0, 0),
  (87, .ireturn, 88, [], 0, 0)]
/-- OdometerRingModel.says(I)I -/
def cd141 : List (Nat × Row) := [(0, .aload_n 0, 1, [0], 0, 0),
  (1, .aload_n 0, 2, [0], 0, 0),
  (2, .iload_n 1, 3, [1], 0, 0),
  (3, .invokevirtual 178, 6, [139, 1047, 1049, 18, 34, 1050], 0, 0),
  (6, .ifCond .eq 7, 9, [13], 0, 0),
  (9, .iconst 0, 10, [], 0, 0),
  (10, .goto 4, 13, [14], 0, 0),
  (13, .iconst 1, 14, [], 1, 0),
  (14, .invokevirtual 87, 17, [99, 929, 931, 9, 34, 932], 0, 0),
  (17, .ifCond .eq 7, 20, [24], 0, 0),
  (20, .iconst 0, 21, [], 0, 0),
  (21, .goto 11, 24, [32], 0, 0),
  (24, .aload_n 0, 25, [0], 0, 0),
  (25, .getfield 13, 28, [7, 8, 1, 882], 0, 0),
  (28, .iload_n 1, 29, [1], 0, 0),
  (29, .invokestatic 59, 32, [0, 107, 992, 993, 34, 994], 0, 0),
  (32, .ireturn, 33, [], 0, 0)]
/-- OdometerRingModel.whySilent(I)I -/
def cd142 : List (Nat × Row) := [(0, .aload_n 0, 1, [0], 0, 0),
  (1, .aload_n 0, 2, [0], 0, 0),
  (2, .iload_n 1, 3, [1], 0, 0),
  (3, .invokevirtual 178, 6, [139, 1047, 1049, 18, 34, 1050], 0, 0),
  (6, .ifCond .eq 7, 9, [13], 0, 0),
  (9, .iconst 0, 10, [], 0, 0),
  (10, .goto 4, 13, [14], 0, 0),
  (13, .iconst 1, 14, [], 1, 0),
  (14, .invokevirtual 87, 17, [99, 929, 931, 9, 34, 932], 0, 0),
  (17, .ifCond .eq 5, 20, [22], 0, 0),
  (20, .iconst 0, 21, [], 0, 0),
  (21, .ireturn, 22, [], 0, 0),
  (22, .iconst 0, 23, [], 0, 0),
  (23, .istore_n 2, 24, [2], 0, 0),
  (24, .iconst 0, 25, [], 0, 0),
  (25, .istore_n 3, 26, [3], 0, 0),
  (26, .iload_n 3, 27, [3], 0, 0),
  (27, .iconst 3, 28, [], 3, 0),
  (28, .if_icmp .ge 32, 31, [60], 0, 0),
  (31, .iload_n 2, 32, [2], 0, 0),
  (32, .aload_n 0, 33, [0], 0, 0),
  (33, .getfield 13, 36, [7, 8, 1, 882], 0, 0),
  (36, .iload_n 1, 37, [1], 0, 0),
  (37, .iload_n 3, 38, [3], 0, 0),
  (38, .invokestatic 47, 41, [0, 106, 986, 987, 34, 988], 0, 0),
  (41, .iaload, 42, [], 0, 0),
  (42, .ldc 39, 44, [873], (-99999), 0),
  (44, .if_icmp .ne 7, 47, [51], 0, 0),
  (47, .iconst 0, 48, [], 0, 0),
  (48, .goto 4, 51, [52], 0, 0),
  (51, .iconst 1, 52, [], 1, 0),
  (52, .iadd, 53, [], 0, 0),
  (53, .istore_n 2, 54, [2], 0, 0),
  (54, .iinc 3 1, 57, [3], 1, 0),
  (57, .goto (-31), 60, [26], 0, 0),
  (60, .aload_n 0, 61, [0], 0, 0),
  (61, .getfield 13, 64, [7, 8, 1, 882], 0, 0),
  (64, .iload_n 1, 65, [1], 0, 0),
  (65, .invokestatic 59, 68, [0, 107, 992, 993, 34, 994], 0, 0),
  (68, .ldc 39, 70, [873], (-99999), 0),
  (70, .if_icmp .eq 7, 73, [77], 0, 0),
  (73, .iconst 0, 74, [], 0, 0),
  (74, .goto 13, 77, [87], 0, 0),
  (77, .iload_n 2, 78, [2], 0, 0),
  (78, .iconst 2, 79, [], 2, 0),
  (79, .if_icmp .ge 7, 82, [86], 0, 0),
  (82, .iconst 1, 83, [], 1, 0),
  (83, .goto 4, 86, [87], 0, 0),
  (86, .iconst 2, 87, [], 2, 0),
  (87, .ireturn, 88, [], 0, 0)]
/-- OdometerRingModel.share(I)I -/
def cd143 : List (Nat × Row) := [(0, .aload_n 0, 1, [0], 0, 0),
  (1, .aload_n 0, 2, [0], 0, 0),
  (2, .iload_n 1, 3, [1], 0, 0),
  (3, .invokevirtual 178, 6, [139, 1047, 1049, 18, 34, 1050], 0, 0),
  (6, .ifCond .eq 7, 9, [13], 0, 0),
  (9, .iconst 0, 10, [], 0, 0),
  (10, .goto 4, 13, [14], 0, 0),
  (13, .iconst 1, 14, [], 1, 0),
  (14, .invokevirtual 87, 17, [99, 929, 931, 9, 34, 932], 0, 0),
  (17, .ifCond .eq 5, 20, [22], 0, 0),
  (20, .iconst 0, 21, [], 0, 0),
  (21, .ireturn, 22, [], 0, 0),
  (22, .iconst 0, 23, [], 0, 0),
  (23, .istore_n 2, 24, [2], 0, 0),
  (24, .iconst 0, 25, [], 0, 0),
  (25, .istore_n 3, 26, [3], 0, 0),
  (26, .iload_n 3, 27, [3], 0, 0),
  (27, .aload_n 0, 28, [0], 0, 0),
  (28, .getfield 13, 31, [7, 8, 1, 882], 0, 0),
  (31, .iconst 0, 32, [], 0, 0),
  (32, .iaload, 33, [], 0, 0),
  (33, .if_icmp .ge 20, 36, [53], 0, 0),
  (36, .iload_n 2, 37, [2], 0, 0),
  (37, .aload_n 0, 38, [0], 0, 0),
  (38, .getfield 13, 41, [7, 8, 1, 882], 0, 0),
  (41, .iload_n 3, 42, [3], 0, 0),
  (42, .invokestatic 75, 45, [0, 109, 1022, 1023, 34, 1024], 0, 0),
  (45, .iadd, 46, [], 0, 0),
  (46, .istore_n 2, 47, [2], 0, 0),
  (47, .iinc 3 1, 50, [3], 1, 0),
  (50, .goto (-24), 53, [26], 0, 0),
  (53, .iload_n 2, 54, [2], 0, 0),
  (54, .ifCond .ne 7, 57, [61], 0, 0),
  (57, .iconst 0, 58, [], 0, 0),
  (58, .goto 16, 61, [74], 0, 0),
  (61, .bipush 100, 63, [], 100, 0),
  (63, .aload_n 0, 64, [0], 0, 0),
  (64, .getfield 13, 67, [7, 8, 1, 882], 0, 0),
  (67, .iload_n 1, 68, [1], 0, 0),
  (68, .invokestatic 75, 71, [0, 109, 1022, 1023, 34, 1024], 0, 0),
  (71, .imul, 72, [], 0, 0),
  (72, .iload_n 2, 73, [2], 0, 0),
  (73, .idiv, 74, [], 0, 0),
  (74, .ireturn, 75, [], 0, 0)]
/-- OdometerRingModel.serviceAt(II)I -/
def cd144 : List (Nat × Row) := [(0, .aload_n 0, 1, [0], 0, 0),
  (1, .iload_n 1, 2, [1], 0, 0),
  (2, .ifCond .lt 15, 5, [17], 0, 0),
  (5, .iload_n 2, 6, [2], 0, 0),
  (6, .i2l, 7, [], 0, 0),
  (7, .lconst 0, 8, [], 0, 0),
  (8, .ldc2_w 181, 11, [1051], 0, 2),
  (11, .invokestatic 80, 14, [0, 100, 926, 927, 34, 928], 0, 0),
  (14, .ifCond .ne 7, 17, [21], 0, 0),
  (17, .iconst 1, 18, [], 1, 0),
  (18, .goto 4, 21, [22], 0, 0),
  (21, .iconst 0, 22, [], 0, 0),
  (22, .invokevirtual 87, 25, [99, 929, 931, 9, 34, 932], 0, 0),
  (25, .ifCond .eq 5, 28, [30], 0, 0),
  (28, .iconst 0, 29, [], 0, 0),
  (29, .ireturn, 30, [], 0, 0),
  (30, .iload_n 1, 31, [1], 0, 0),
  (31, .aload_n 0, 32, [0], 0, 0),
  (32, .getfield 13, 35, [7, 8, 1, 882], 0, 0),
  (35, .bipush 17, 37, [], 17, 0),
  (37, .iaload, 38, [], 0, 0),
  (38, .if_icmp .lt 6, 41, [44], 0, 0),
  (41, .ldc 39, 43, [873], (-99999), 0),
  (43, .ireturn, 44, [], 0, 0),
  (44, .aload_n 0, 45, [0], 0, 0),
  (45, .getfield 13, 48, [7, 8, 1, 882], 0, 0),
  (48, .bipush 18, 50, [], 18, 0),
  (50, .iconst 2, 51, [], 2, 0),
  (51, .iload_n 1, 52, [1], 0, 0),
  (52, .imul, 53, [], 0, 0),
  (53, .iadd, 54, [], 0, 0),
  (54, .iaload, 55, [], 0, 0),
  (55, .istore_n 3, 56, [3], 0, 0),
  (56, .iload_n 2, 57, [2], 0, 0),
  (57, .ifCond .ne 10, 60, [67], 0, 0),
  (60, .iload_n 3, 61, [3], 0, 0),
  (61, .bipush 10, 63, [], 10, 0),
  (63, .idiv, 64, [], 0, 0),
  (64, .goto 28, 67, [92], 0, 0),
  (67, .iload_n 2, 68, [2], 0, 0),
  (68, .iconst 1, 69, [], 1, 0),
  (69, .if_icmp .ne 10, 72, [79], 0, 0),
  (72, .iload_n 3, 73, [3], 0, 0),
  (73, .bipush 10, 75, [], 10, 0),
  (75, .irem, 76, [], 0, 0),
  (76, .goto 16, 79, [92], 0, 0),
  (79, .aload_n 0, 80, [0], 0, 0),
  (80, .getfield 13, 83, [7, 8, 1, 882], 0, 0),
  (83, .bipush 18, 85, [], 18, 0),
  (85, .iconst 2, 86, [], 2, 0),
  (86, .iload_n 1, 87, [1], 0, 0),
  (87, .imul, 88, [], 0, 0),
  (88, .iadd, 89, [], 0, 0),
  (89, .iconst 1, 90, [], 1, 0),
  (90, .iadd, 91, [], 0, 0),
  (91, .iaload, 92, [], 0, 0),
  (92, .ireturn, 93, [], 0, 0)]
/-- OdometerRingModel.lastCut(I)I -/
def cd145 : List (Nat × Row) := [(0, .aload_n 0, 1, [0], 0, 0),
  (1, .iload_n 1, 2, [1], 0, 0),
  (2, .i2l, 3, [], 0, 0),
  (3, .lconst 0, 4, [], 0, 0),
  (4, .ldc2_w 183, 7, [1072], 0, 3),
  (7, .invokestatic 80, 10, [0, 100, 926, 927, 34, 928], 0, 0),
  (10, .ifCond .eq 7, 13, [17], 0, 0),
  (13, .iconst 0, 14, [], 0, 0),
  (14, .goto 4, 17, [18], 0, 0),
  (17, .iconst 1, 18, [], 1, 0),
  (18, .invokevirtual 87, 21, [99, 929, 931, 9, 34, 932], 0, 0),
  (21, .ifCond .eq 7, 24, [28], 0, 0),
  (24, .iconst 0, 25, [], 0, 0),
  (25, .goto 12, 28, [37], 0, 0),
  (28, .aload_n 0, 29, [0], 0, 0),
  (29, .getfield 13, 32, [7, 8, 1, 882], 0, 0),
  (32, .bipush 13, 34, [], 13, 0),
  (34, .iload_n 1, 35, [1], 0, 0),
  (35, .iadd, 36, [], 0, 0),
  (36, .iaload, 37, [], 0, 0),
  (37, .ireturn, 38, [], 0, 0)]
/-- OdometerRingModel.drive(I)I -/
def cd146 : List (Nat × Row) := [(0, .aload_n 0, 1, [0], 0, 0),
  (1, .iload_n 1, 2, [1], 0, 0),
  (2, .i2l, 3, [], 0, 0),
  (3, .lconst 1, 4, [], 0, 1),
  (4, .ldc2_w 185, 7, [1077], 0, 999),
  (7, .invokestatic 80, 10, [0, 100, 926, 927, 34, 928], 0, 0),
  (10, .ifCond .ne 7, 13, [17], 0, 0),
  (13, .iconst 1, 14, [], 1, 0),
  (14, .goto 17, 17, [31], 0, 0),
  (17, .aload_n 0, 18, [0], 0, 0),
  (18, .getfield 13, 21, [7, 8, 1, 882], 0, 0),
  (21, .iconst 3, 22, [], 3, 0),
  (22, .iaload, 23, [], 0, 0),
  (23, .ifCond .ne 7, 26, [30], 0, 0),
  (26, .iconst 2, 27, [], 2, 0),
  (27, .goto 4, 30, [31], 0, 0),
  (30, .iconst 0, 31, [], 0, 0),
  (31, .invokevirtual 87, 34, [99, 929, 931, 9, 34, 932], 0, 0),
  (34, .ifCond .eq 5, 37, [39], 0, 0),
  (37, .iconst 0, 38, [], 0, 0),
  (38, .ireturn, 39, [], 0, 0),
  (39, .aload_n 0, 40, [0], 0, 0),
  (40, .invokevirtual 187, 43, [104, 1078, 1080, 19, 34, 1081], 0, 0),
  (43, .aload_n 0, 44, [0], 0, 0),
  (44, .getfield 13, 47, [7, 8, 1, 882], 0, 0),
  (47, .iload_n 1, 48, [1], 0, 0),
  (48, .invokestatic 150, 51, [0, 113, 977, 978, 34, 979], 0, 0),
  (51, .ireturn, 52, [], 0, 0)]
/-- OdometerRingModel.isCut(II)Z -/
def cd147 : List (Nat × Row) := [(0, .iload_n 0, 1, [0], 0, 0),
  (1, .i2l, 2, [], 0, 0),
  (2, .lconst 1, 3, [], 0, 1),
  (3, .ldc2_w 190, 6, [1092], 0, 36),
  (6, .invokestatic 80, 9, [0, 100, 926, 927, 34, 928], 0, 0),
  (9, .ifCond .eq 19, 12, [28], 0, 0),
  (12, .iload_n 1, 13, [1], 0, 0),
  (13, .i2l, 14, [], 0, 0),
  (14, .lconst 0, 15, [], 0, 0),
  (15, .ldc2_w 181, 18, [1051], 0, 2),
  (18, .invokestatic 80, 21, [0, 100, 926, 927, 34, 928], 0, 0),
  (21, .ifCond .eq 7, 24, [28], 0, 0),
  (24, .iconst 1, 25, [], 1, 0),
  (25, .goto 4, 28, [29], 0, 0),
  (28, .iconst 0, 29, [], 0, 0),
  (29, .ireturn, 30, [], 0, 0)]
/-- OdometerRingModel.cut(II)I -/
def cd148 : List (Nat × Row) := [(0, .aload_n 0, 1, [0], 0, 0),
  (1, .iload_n 1, 2, [1], 0, 0),
  (2, .iload_n 2, 3, [2], 0, 0),
  (3, .invokestatic 192, 6, [0, 147, 1089, 1090, 34, 1091], 0, 0),
  (6, .ifCond .ne 7, 9, [13], 0, 0),
  (9, .iconst 1, 10, [], 1, 0),
  (10, .goto 17, 13, [27], 0, 0),
  (13, .aload_n 0, 14, [0], 0, 0),
  (14, .getfield 13, 17, [7, 8, 1, 882], 0, 0),
  (17, .iconst 3, 18, [], 3, 0),
  (18, .iaload, 19, [], 0, 0),
  (19, .ifCond .ne 7, 22, [26], 0, 0),
  (22, .iconst 2, 23, [], 2, 0),
  (23, .goto 4, 26, [27], 0, 0),
  (26, .iconst 0, 27, [], 0, 0),
  (27, .invokevirtual 87, 30, [99, 929, 931, 9, 34, 932], 0, 0),
  (30, .ifCond .eq 5, 33, [35], 0, 0),
  (33, .iconst 0, 34, [], 0, 0),
  (34, .ireturn, 35, [], 0, 0),
  (35, .aload_n 0, 36, [0], 0, 0),
  (36, .invokevirtual 187, 39, [104, 1078, 1080, 19, 34, 1081], 0, 0),
  (39, .aload_n 0, 40, [0], 0, 0),
  (40, .getfield 13, 43, [7, 8, 1, 882], 0, 0),
  (43, .bipush 10, 45, [], 10, 0),
  (45, .iaload, 46, [], 0, 0),
  (46, .istore_n 3, 47, [3], 0, 0),
  (47, .aload_n 0, 48, [0], 0, 0),
  (48, .getfield 13, 51, [7, 8, 1, 882], 0, 0),
  (51, .iload_n 1, 52, [1], 0, 0),
  (52, .iload_n 2, 53, [2], 0, 0),
  (53, .invokestatic 130, 56, [0, 132, 995, 996, 34, 997], 0, 0),
  (56, .pop, 57, [], 0, 0),
  (57, .iload_n 3, 58, [3], 0, 0),
  (58, .ireturn, 59, [], 0, 0)]
/-- OdometerRingModel.start()I -/
def cd149 : List (Nat × Row) := [(0, .aload_n 0, 1, [0], 0, 0),
  (1, .aload_n 0, 2, [0], 0, 0),
  (2, .getfield 13, 5, [7, 8, 1, 882], 0, 0),
  (5, .iconst 3, 6, [], 3, 0),
  (6, .iaload, 7, [], 0, 0),
  (7, .iconst 1, 8, [], 1, 0),
  (8, .if_icmp .ne 7, 11, [15], 0, 0),
  (11, .iconst 1, 12, [], 1, 0),
  (12, .goto 4, 15, [16], 0, 0),
  (15, .iconst 0, 16, [], 0, 0),
  (16, .invokevirtual 87, 19, [99, 929, 931, 9, 34, 932], 0, 0),
  (19, .ifCond .eq 5, 22, [24], 0, 0),
  (22, .iconst 0, 23, [], 0, 0),
  (23, .ireturn, 24, [], 0, 0),
  (24, .aload_n 0, 25, [0], 0, 0),
  (25, .invokevirtual 187, 28, [104, 1078, 1080, 19, 34, 1081], 0, 0),
  (28, .aload_n 0, 29, [0], 0, 0),
  (29, .getfield 13, 32, [7, 8, 1, 882], 0, 0),
  (32, .invokestatic 153, 35, [0, 114, 1028, 1029, 34, 1030], 0, 0),
  (35, .aload_n 0, 36, [0], 0, 0),
  (36, .getfield 13, 39, [7, 8, 1, 882], 0, 0),
  (39, .iconst 4, 40, [], 4, 0),
  (40, .iaload, 41, [], 0, 0),
  (41, .ireturn, 42, [], 0, 0)]
/-- OdometerRingModel.isService(II)Z -/
def cd150 : List (Nat × Row) := [(0, .iload_n 0, 1, [0], 0, 0),
  (1, .i2l, 2, [], 0, 0),
  (2, .lconst 0, 3, [], 0, 0),
  (3, .ldc2_w 98, 6, [965], 0, 9),
  (6, .invokestatic 80, 9, [0, 100, 926, 927, 34, 928], 0, 0),
  (9, .ifCond .eq 19, 12, [28], 0, 0),
  (12, .iload_n 1, 13, [1], 0, 0),
  (13, .i2l, 14, [], 0, 0),
  (14, .lconst 0, 15, [], 0, 0),
  (15, .ldc2_w 98, 18, [965], 0, 9),
  (18, .invokestatic 80, 21, [0, 100, 926, 927, 34, 928], 0, 0),
  (21, .ifCond .eq 7, 24, [28], 0, 0),
  (24, .iconst 1, 25, [], 1, 0),
  (25, .goto 4, 28, [29], 0, 0),
  (28, .iconst 0, 29, [], 0, 0),
  (29, .ireturn, 30, [], 0, 0)]
/-- OdometerRingModel.service(II)I -/
def cd151 : List (Nat × Row) := [(0, .aload_n 0, 1, [0], 0, 0),
  (1, .iload_n 1, 2, [1], 0, 0),
  (2, .iload_n 2, 3, [2], 0, 0),
  (3, .invokestatic 196, 6, [0, 150, 1101, 1102, 34, 1103], 0, 0),
  (6, .ifCond .ne 7, 9, [13], 0, 0),
  (9, .iconst 1, 10, [], 1, 0),
  (10, .goto 20, 13, [30], 0, 0),
  (13, .aload_n 0, 14, [0], 0, 0),
  (14, .getfield 13, 17, [7, 8, 1, 882], 0, 0),
  (17, .iload_n 1, 18, [1], 0, 0),
  (18, .iload_n 2, 19, [2], 0, 0),
  (19, .invokestatic 156, 22, [0, 117, 1001, 1002, 34, 1003], 0, 0),
  (22, .ifCond .eq 7, 25, [29], 0, 0),
  (25, .iconst 0, 26, [], 0, 0),
  (26, .goto 4, 29, [30], 0, 0),
  (29, .iconst 2, 30, [], 2, 0),
  (30, .invokevirtual 87, 33, [99, 929, 931, 9, 34, 932], 0, 0),
  (33, .ifCond .eq 5, 36, [38], 0, 0),
  (36, .iconst 0, 37, [], 0, 0),
  (37, .ireturn, 38, [], 0, 0),
  (38, .aload_n 0, 39, [0], 0, 0),
  (39, .invokevirtual 187, 42, [104, 1078, 1080, 19, 34, 1081], 0, 0),
  (42, .aload_n 0, 43, [0], 0, 0),
  (43, .getfield 13, 46, [7, 8, 1, 882], 0, 0),
  (46, .iload_n 1, 47, [1], 0, 0),
  (47, .iload_n 2, 48, [2], 0, 0),
  (48, .invokestatic 159, 51, [0, 118, 1007, 1008, 34, 1009], 0, 0),
  (51, .ireturn, 52, [], 0, 0)]
/-- OdometerRingModel.forget(II)I -/
def cd152 : List (Nat × Row) := [(0, .aload_n 0, 1, [0], 0, 0),
  (1, .iload_n 1, 2, [1], 0, 0),
  (2, .iload_n 2, 3, [2], 0, 0),
  (3, .invokestatic 196, 6, [0, 150, 1101, 1102, 34, 1103], 0, 0),
  (6, .ifCond .ne 7, 9, [13], 0, 0),
  (9, .iconst 1, 10, [], 1, 0),
  (10, .goto 22, 13, [32], 0, 0),
  (13, .aload_n 0, 14, [0], 0, 0),
  (14, .getfield 13, 17, [7, 8, 1, 882], 0, 0),
  (17, .iload_n 1, 18, [1], 0, 0),
  (18, .iload_n 2, 19, [2], 0, 0),
  (19, .invokestatic 67, 22, [0, 115, 1004, 1005, 34, 1006], 0, 0),
  (22, .ldc 39, 24, [873], (-99999), 0),
  (24, .if_icmp .ne 7, 27, [31], 0, 0),
  (27, .iconst 2, 28, [], 2, 0),
  (28, .goto 4, 31, [32], 0, 0),
  (31, .iconst 0, 32, [], 0, 0),
  (32, .invokevirtual 87, 35, [99, 929, 931, 9, 34, 932], 0, 0),
  (35, .ifCond .eq 5, 38, [40], 0, 0),
  (38, .iconst 0, 39, [], 0, 0),
  (39, .ireturn, 40, [], 0, 0),
  (40, .aload_n 0, 41, [0], 0, 0),
  (41, .invokevirtual 187, 44, [104, 1078, 1080, 19, 34, 1081], 0, 0),
  (44, .aload_n 0, 45, [0], 0, 0),
  (45, .getfield 13, 48, [7, 8, 1, 882], 0, 0),
  (48, .iload_n 1, 49, [1], 0, 0),
  (49, .iload_n 2, 50, [2], 0, 0),
  (50, .invokestatic 67, 53, [0, 115, 1004, 1005, 34, 1006], 0, 0),
  (53, .istore_n 3, 54, [3], 0, 0),
  (54, .aload_n 0, 55, [0], 0, 0),
  (55, .getfield 13, 58, [7, 8, 1, 882], 0, 0),
  (58, .bipush 18, 60, [], 18, 0),
  (60, .iconst 2, 61, [], 2, 0),
  (61, .iload_n 3, 62, [3], 0, 0),
  (62, .imul, 63, [], 0, 0),
  (63, .iadd, 64, [], 0, 0),
  (64, .iconst 1, 65, [], 1, 0),
  (65, .iadd, 66, [], 0, 0),
  (66, .iaload, 67, [], 0, 0),
  (67, .istore 4, 69, [4], 0, 0),
  (69, .aload_n 0, 70, [0], 0, 0),
  (70, .getfield 13, 73, [7, 8, 1, 882], 0, 0),
  (73, .iload_n 3, 74, [3], 0, 0),
  (74, .invokestatic 71, 77, [0, 116, 1010, 1011, 34, 1012], 0, 0),
  (77, .iload 4, 79, [4], 0, 0),
  (79, .ireturn, 80, [], 0, 0)]
/-- OdometerRingModel.isStep(I)Z -/
def cd153 : List (Nat × Row) := [(0, .iload_n 0, 1, [0], 0, 0),
  (1, .i2l, 2, [], 0, 0),
  (2, .lconst 1, 3, [], 0, 1),
  (3, .ldc2_w 199, 6, [1115], 0, 99),
  (6, .invokestatic 80, 9, [0, 100, 926, 927, 34, 928], 0, 0),
  (9, .ireturn, 10, [], 0, 0)]
/-- OdometerRingModel.setStep(I)I -/
def cd154 : List (Nat × Row) := [(0, .aload_n 0, 1, [0], 0, 0),
  (1, .iload_n 1, 2, [1], 0, 0),
  (2, .invokestatic 201, 5, [0, 153, 1112, 1113, 34, 1114], 0, 0),
  (5, .ifCond .eq 7, 8, [12], 0, 0),
  (8, .iconst 0, 9, [], 0, 0),
  (9, .goto 4, 12, [13], 0, 0),
  (12, .iconst 1, 13, [], 1, 0),
  (13, .invokevirtual 87, 16, [99, 929, 931, 9, 34, 932], 0, 0),
  (16, .ifCond .eq 5, 19, [21], 0, 0),
  (19, .iconst 0, 20, [], 0, 0),
  (20, .ireturn, 21, [], 0, 0),
  (21, .aload_n 0, 22, [0], 0, 0),
  (22, .invokevirtual 187, 25, [104, 1078, 1080, 19, 34, 1081], 0, 0),
  (25, .aload_n 0, 26, [0], 0, 0),
  (26, .getfield 13, 29, [7, 8, 1, 882], 0, 0),
  (29, .iconst 1, 30, [], 1, 0),
  (30, .iaload, 31, [], 0, 0),
  (31, .istore_n 2, 32, [2], 0, 0),
  (32, .aload_n 0, 33, [0], 0, 0),
  (33, .getfield 13, 36, [7, 8, 1, 882], 0, 0),
  (36, .iconst 1, 37, [], 1, 0),
  (37, .iload_n 1, 38, [1], 0, 0),
  (38, .iastore, 39, [], 0, 0),
  (39, .iload_n 2, 40, [2], 0, 0),
  (40, .ireturn, 41, [], 0, 0)]
/-- OdometerRingModel.replace(I)I -/
def cd155 : List (Nat × Row) := [(0, .aload_n 0, 1, [0], 0, 0),
  (1, .aload_n 0, 2, [0], 0, 0),
  (2, .iload_n 1, 3, [1], 0, 0),
  (3, .invokevirtual 178, 6, [139, 1047, 1049, 18, 34, 1050], 0, 0),
  (6, .ifCond .ne 7, 9, [13], 0, 0),
  (9, .iconst 1, 10, [], 1, 0),
  (10, .goto 19, 13, [29], 0, 0),
  (13, .aload_n 0, 14, [0], 0, 0),
  (14, .getfield 13, 17, [7, 8, 1, 882], 0, 0),
  (17, .iload_n 1, 18, [1], 0, 0),
  (18, .invokestatic 162, 21, [0, 119, 1016, 1017, 34, 1018], 0, 0),
  (21, .ifCond .eq 7, 24, [28], 0, 0),
  (24, .iconst 0, 25, [], 0, 0),
  (25, .goto 4, 28, [29], 0, 0),
  (28, .iconst 2, 29, [], 2, 0),
  (29, .invokevirtual 87, 32, [99, 929, 931, 9, 34, 932], 0, 0),
  (32, .ifCond .eq 5, 35, [37], 0, 0),
  (35, .iconst 0, 36, [], 0, 0),
  (36, .ireturn, 37, [], 0, 0),
  (37, .aload_n 0, 38, [0], 0, 0),
  (38, .invokevirtual 187, 41, [104, 1078, 1080, 19, 34, 1081], 0, 0),
  (41, .aload_n 0, 42, [0], 0, 0),
  (42, .getfield 13, 45, [7, 8, 1, 882], 0, 0),
  (45, .iload_n 1, 46, [1], 0, 0),
  (46, .invokestatic 165, 49, [0, 120, 1019, 1020, 34, 1021], 0, 0),
  (49, .ireturn, 50, [], 0, 0)]
/-- OdometerRingModel.undo()I -/
def cd156 : List (Nat × Row) := [(0, .aload_n 0, 1, [0], 0, 0),
  (1, .aload_n 0, 2, [0], 0, 0),
  (2, .getfield 40, 5, [7, 11, 0, 885], 0, 0),
  (5, .ifCond .ne 7, 8, [12], 0, 0),
  (8, .iconst 1, 9, [], 1, 0),
  (9, .goto 4, 12, [13], 0, 0),
  (12, .iconst 0, 13, [], 0, 0),
  (13, .invokevirtual 87, 16, [99, 929, 931, 9, 34, 932], 0, 0),
  (16, .ifCond .eq 5, 19, [21], 0, 0),
  (19, .iconst 0, 20, [], 0, 0),
  (20, .ireturn, 21, [], 0, 0),
  (21, .aload_n 0, 22, [0], 0, 0),
  (22, .dup, 23, [], 0, 0),
  (23, .getfield 40, 26, [7, 11, 0, 885], 0, 0),
  (26, .iconst 1, 27, [], 1, 0),
  (27, .isub, 28, [], 0, 0),
  (28, .putfield 40, 31, [7, 11, 0, 0, 885], 0, 0),
  (31, .aload_n 0, 32, [0], 0, 0),
  (32, .getfield 19, 35, [7, 10, 1, 884], 0, 0),
  (35, .bipush 114, 37, [], 114, 0),
  (37, .aload_n 0, 38, [0], 0, 0),
  (38, .getfield 40, 41, [7, 11, 0, 885], 0, 0),
  (41, .imul, 42, [], 0, 0),
  (42, .aload_n 0, 43, [0], 0, 0),
  (43, .getfield 13, 46, [7, 8, 1, 882], 0, 0),
  (46, .iconst 0, 47, [], 0, 0),
  (47, .bipush 114, 49, [], 114, 0),
  (49, .invokestatic 43, 52, [0, 101, 1082, 1083, 34, 1084], 0, 0),
  (52, .aload_n 0, 53, [0], 0, 0),
  (53, .getfield 40, 56, [7, 11, 0, 885], 0, 0),
  (56, .ireturn, 57, [], 0, 0)]
/-- OdometerRingModel.isBroken()Z -/
def cd157 : List (Nat × Row) := [(0, .aload_n 0, 1, [0], 0, 0),
  (1, .getfield 13, 4, [7, 8, 1, 882], 0, 0),
  (4, .iconst 3, 5, [], 3, 0),
  (5, .iaload, 6, [], 0, 0),
  (6, .ifCond .eq 14, 9, [20], 0, 0),
  (9, .aload_n 0, 10, [0], 0, 0),
  (10, .getfield 13, 13, [7, 8, 1, 882], 0, 0),
  (13, .bipush 12, 15, [], 12, 0),
  (15, .iaload, 16, [], 0, 0),
  (16, .iconst 1, 17, [], 1, 0),
  (17, .if_icmp .ne 7, 20, [24], 0, 0),
  (20, .iconst 1, 21, [], 1, 0),
  (21, .goto 4, 24, [25], 0, 0),
  (24, .iconst 0, 25, [], 0, 0),
  (25, .ireturn, 26, [], 0, 0)]
/-- OdometerRingModel.found(II)I -/
def cd158 : List (Nat × Row) := [(0, .aload_n 0, 1, [0], 0, 0),
  (1, .invokevirtual 204, 4, [105, 1136, 1138, 22, 34, 1139], 0, 0),
  (4, .aload_n 0, 5, [0], 0, 0),
  (5, .getfield 16, 8, [7, 9, 1, 883], 0, 0),
  (8, .iload_n 1, 9, [1], 0, 0),
  (9, .iload_n 2, 10, [2], 0, 0),
  (10, .invokestatic 130, 13, [0, 132, 995, 996, 34, 997], 0, 0),
  (13, .pop, 14, [], 0, 0),
  (14, .aload_n 0, 15, [0], 0, 0),
  (15, .getfield 16, 18, [7, 9, 1, 883], 0, 0),
  (18, .invokestatic 63, 21, [0, 112, 980, 981, 34, 982], 0, 0),
  (21, .aload_n 0, 22, [0], 0, 0),
  (22, .getfield 16, 25, [7, 9, 1, 883], 0, 0),
  (25, .iconst 3, 26, [], 3, 0),
  (26, .iaload, 27, [], 0, 0),
  (27, .iconst 1, 28, [], 1, 0),
  (28, .if_icmp .ne 10, 31, [38], 0, 0),
  (31, .aload_n 0, 32, [0], 0, 0),
  (32, .getfield 13, 35, [7, 8, 1, 882], 0, 0),
  (35, .iconst 4, 36, [], 4, 0),
  (36, .iaload, 37, [], 0, 0),
  (37, .ireturn, 38, [], 0, 0),
  (38, .aload_n 0, 39, [0], 0, 0),
  (39, .getfield 16, 42, [7, 9, 1, 883], 0, 0),
  (42, .invokestatic 153, 45, [0, 114, 1028, 1029, 34, 1030], 0, 0),
  (45, .aload_n 0, 46, [0], 0, 0),
  (46, .getfield 16, 49, [7, 9, 1, 883], 0, 0),
  (49, .iconst 4, 50, [], 4, 0),
  (50, .iaload, 51, [], 0, 0),
  (51, .ireturn, 52, [], 0, 0)]
/-- OdometerRingModel.afterCut(II)I -/
def cd159 : List (Nat × Row) := [(0, .aload_n 0, 1, [0], 0, 0),
  (1, .iload_n 1, 2, [1], 0, 0),
  (2, .iload_n 2, 3, [2], 0, 0),
  (3, .invokestatic 192, 6, [0, 147, 1089, 1090, 34, 1091], 0, 0),
  (6, .ifCond .ne 7, 9, [13], 0, 0),
  (9, .iconst 1, 10, [], 1, 0),
  (10, .goto 15, 13, [25], 0, 0),
  (13, .aload_n 0, 14, [0], 0, 0),
  (14, .invokevirtual 207, 17, [157, 1128, 1130, 20, 34, 1131], 0, 0),
  (17, .ifCond .eq 7, 20, [24], 0, 0),
  (20, .iconst 2, 21, [], 2, 0),
  (21, .goto 4, 24, [25], 0, 0),
  (24, .iconst 0, 25, [], 0, 0),
  (25, .invokevirtual 87, 28, [99, 929, 931, 9, 34, 932], 0, 0),
  (28, .ifCond .eq 7, 31, [35], 0, 0),
  (31, .iconst 0, 32, [], 0, 0),
  (32, .goto 9, 35, [41], 0, 0),
  (35, .aload_n 0, 36, [0], 0, 0),
  (36, .iload_n 1, 37, [1], 0, 0),
  (37, .iload_n 2, 38, [2], 0, 0),
  (38, .invokevirtual 211, 41, [158, 1132, 1134, 21, 34, 1135], 0, 0),
  (41, .ireturn, 42, [], 0, 0)]
/-- OdometerRingModel.worstLoss()I -/
def cd160 : List (Nat × Row) := [(0, .aload_n 0, 1, [0], 0, 0),
  (1, .aload_n 0, 2, [0], 0, 0),
  (2, .invokevirtual 207, 5, [157, 1128, 1130, 20, 34, 1131], 0, 0),
  (5, .ifCond .eq 7, 8, [12], 0, 0),
  (8, .iconst 1, 9, [], 1, 0),
  (9, .goto 4, 12, [13], 0, 0),
  (12, .iconst 0, 13, [], 0, 0),
  (13, .invokevirtual 87, 16, [99, 929, 931, 9, 34, 932], 0, 0),
  (16, .ifCond .eq 5, 19, [21], 0, 0),
  (19, .iconst 0, 20, [], 0, 0),
  (20, .ireturn, 21, [], 0, 0),
  (21, .aload_n 0, 22, [0], 0, 0),
  (22, .getfield 13, 25, [7, 8, 1, 882], 0, 0),
  (25, .iconst 4, 26, [], 4, 0),
  (26, .iaload, 27, [], 0, 0),
  (27, .istore_n 1, 28, [1], 0, 0),
  (28, .iconst 0, 29, [], 0, 0),
  (29, .istore_n 2, 30, [2], 0, 0),
  (30, .iload_n 2, 31, [2], 0, 0),
  (31, .bipush 108, 33, [], 108, 0),
  (33, .if_icmp .ge 33, 36, [66], 0, 0),
  (36, .aload_n 0, 37, [0], 0, 0),
  (37, .iconst 1, 38, [], 1, 0),
  (38, .iload_n 2, 39, [2], 0, 0),
  (39, .iconst 3, 40, [], 3, 0),
  (40, .idiv, 41, [], 0, 0),
  (41, .iadd, 42, [], 0, 0),
  (42, .iload_n 2, 43, [2], 0, 0),
  (43, .iconst 3, 44, [], 3, 0),
  (44, .irem, 45, [], 0, 0),
  (45, .invokevirtual 211, 48, [158, 1132, 1134, 21, 34, 1135], 0, 0),
  (48, .istore_n 3, 49, [3], 0, 0),
  (49, .iload_n 3, 50, [3], 0, 0),
  (50, .iload_n 1, 51, [1], 0, 0),
  (51, .if_icmp .ge 7, 54, [58], 0, 0),
  (54, .iload_n 3, 55, [3], 0, 0),
  (55, .goto 4, 58, [59], 0, 0),
  (58, .iload_n 1, 59, [1], 0, 0),
  (59, .istore_n 1, 60, [1], 0, 0),
  (60, .iinc 2 1, 63, [2], 1, 0),
  (63, .goto (-33), 66, [30], 0, 0),
  (66, .aload_n 0, 67, [0], 0, 0),
  (67, .getfield 13, 70, [7, 8, 1, 882], 0, 0),
  (70, .iconst 4, 71, [], 4, 0),
  (71, .iaload, 72, [], 0, 0),
  (72, .iload_n 1, 73, [1], 0, 0),
  (73, .isub, 74, [], 0, 0),
  (74, .ireturn, 75, [], 0, 0)]
/-- OdometerRingModel.lasts(I)I -/
def cd161 : List (Nat × Row) := [(0, .aload_n 0, 1, [0], 0, 0),
  (1, .iload_n 1, 2, [1], 0, 0),
  (2, .invokestatic 201, 5, [0, 153, 1112, 1113, 34, 1114], 0, 0),
  (5, .ifCond .ne 7, 8, [12], 0, 0),
  (8, .iconst 1, 9, [], 1, 0),
  (9, .goto 17, 12, [26], 0, 0),
  (12, .aload_n 0, 13, [0], 0, 0),
  (13, .getfield 13, 16, [7, 8, 1, 882], 0, 0),
  (16, .iconst 3, 17, [], 3, 0),
  (17, .iaload, 18, [], 0, 0),
  (18, .ifCond .ne 7, 21, [25], 0, 0),
  (21, .iconst 2, 22, [], 2, 0),
  (22, .goto 4, 25, [26], 0, 0),
  (25, .iconst 0, 26, [], 0, 0),
  (26, .invokevirtual 87, 29, [99, 929, 931, 9, 34, 932], 0, 0),
  (29, .ifCond .eq 5, 32, [34], 0, 0),
  (32, .iconst 0, 33, [], 0, 0),
  (33, .ireturn, 34, [], 0, 0),
  (34, .aload_n 0, 35, [0], 0, 0),
  (35, .invokevirtual 204, 38, [105, 1136, 1138, 22, 34, 1139], 0, 0),
  (38, .aload_n 0, 39, [0], 0, 0),
  (39, .getfield 16, 42, [7, 9, 1, 883], 0, 0),
  (42, .iconst 1, 43, [], 1, 0),
  (43, .iload_n 1, 44, [1], 0, 0),
  (44, .iastore, 45, [], 0, 0),
  (45, .aload_n 0, 46, [0], 0, 0),
  (46, .getfield 16, 49, [7, 9, 1, 883], 0, 0),
  (49, .bipush 10, 51, [], 10, 0),
  (51, .iconst 0, 52, [], 0, 0),
  (52, .iastore, 53, [], 0, 0),
  (53, .iconst 0, 54, [], 0, 0),
  (54, .istore_n 2, 55, [2], 0, 0),
  (55, .iload_n 2, 56, [2], 0, 0),
  (56, .sipush 9999, 59, [], 9999, 0),
  (59, .if_icmp .ge 27, 62, [86], 0, 0),
  (62, .aload_n 0, 63, [0], 0, 0),
  (63, .getfield 16, 66, [7, 9, 1, 883], 0, 0),
  (66, .bipush 12, 68, [], 12, 0),
  (68, .iaload, 69, [], 0, 0),
  (69, .ifCond .ne 17, 72, [86], 0, 0),
  (72, .iload_n 2, 73, [2], 0, 0),
  (73, .aload_n 0, 74, [0], 0, 0),
  (74, .getfield 16, 77, [7, 9, 1, 883], 0, 0),
  (77, .iconst 1, 78, [], 1, 0),
  (78, .invokestatic 150, 81, [0, 113, 977, 978, 34, 979], 0, 0),
  (81, .iadd, 82, [], 0, 0),
  (82, .istore_n 2, 83, [2], 0, 0),
  (83, .goto (-28), 86, [55], 0, 0),
  (86, .aload_n 0, 87, [0], 0, 0),
  (87, .getfield 16, 90, [7, 9, 1, 883], 0, 0),
  (90, .bipush 12, 92, [], 12, 0),
  (92, .iaload, 93, [], 0, 0),
  (93, .iconst 1, 94, [], 1, 0),
  (94, .if_icmp .ne 7, 97, [101], 0, 0),
  (97, .iload_n 2, 98, [2], 0, 0),
  (98, .goto 5, 101, [103], 0, 0),
  (101, .ldc 39, 103, [873], (-99999), 0),
  (103, .ireturn, 104, [], 0, 0)]
/-- OdometerRingModel.dueIn(III)I -/
def cd162 : List (Nat × Row) := [(0, .iload_n 1, 1, [1], 0, 0),
  (1, .iload_n 2, 2, [2], 0, 0),
  (2, .invokestatic 196, 5, [0, 150, 1101, 1102, 34, 1103], 0, 0),
  (5, .ifCond .eq 19, 8, [24], 0, 0),
  (8, .iload_n 3, 9, [3], 0, 0),
  (9, .i2l, 10, [], 0, 0),
  (10, .lconst 1, 11, [], 0, 1),
  (11, .ldc2_w 214, 14, [1152], 0, 9999),
  (14, .invokestatic 80, 17, [0, 100, 926, 927, 34, 928], 0, 0),
  (17, .ifCond .eq 7, 20, [24], 0, 0),
  (20, .iconst 1, 21, [], 1, 0),
  (21, .goto 4, 24, [25], 0, 0),
  (24, .iconst 0, 25, [], 0, 0),
  (25, .istore 4, 27, [4], 0, 0),
  (27, .aload_n 0, 28, [0], 0, 0),
  (28, .iload 4, 30, [4], 0, 0),
  (30, .ifCond .ne 7, 33, [37], 0, 0),
  (33, .iconst 1, 34, [], 1, 0),
  (34, .goto 17, 37, [51], 0, 0),
  (37, .aload_n 0, 38, [0], 0, 0),
  (38, .getfield 13, 41, [7, 8, 1, 882], 0, 0),
  (41, .iconst 3, 42, [], 3, 0),
  (42, .iaload, 43, [], 0, 0),
  (43, .ifCond .ne 7, 46, [50], 0, 0),
  (46, .iconst 2, 47, [], 2, 0),
  (47, .goto 4, 50, [51], 0, 0),
  (50, .iconst 0, 51, [], 0, 0),
  (51, .invokevirtual 87, 54, [99, 929, 931, 9, 34, 932], 0, 0),
  (54, .ifCond .eq 5, 57, [59], 0, 0),
  (57, .iconst 0, 58, [], 0, 0),
  (58, .ireturn, 59, [], 0, 0),
  (59, .aload_n 0, 60, [0], 0, 0),
  (60, .getfield 13, 63, [7, 8, 1, 882], 0, 0),
  (63, .iload_n 1, 64, [1], 0, 0),
  (64, .iload_n 2, 65, [2], 0, 0),
  (65, .invokestatic 67, 68, [0, 115, 1004, 1005, 34, 1006], 0, 0),
  (68, .istore 5, 70, [5], 0, 0),
  (70, .iload 5, 72, [5], 0, 0),
  (72, .ldc 39, 74, [873], (-99999), 0),
  (74, .if_icmp .ne 8, 77, [82], 0, 0),
  (77, .ldc 39, 79, [873], (-99999), 0),
  (79, .goto 26, 82, [105], 0, 0),
  (82, .aload_n 0, 83, [0], 0, 0),
  (83, .getfield 13, 86, [7, 8, 1, 882], 0, 0),
  (86, .bipush 18, 88, [], 18, 0),
  (88, .iconst 2, 89, [], 2, 0),
  (89, .iload 5, 91, [5], 0, 0),
  (91, .imul, 92, [], 0, 0),
  (92, .iadd, 93, [], 0, 0),
  (93, .iconst 1, 94, [], 1, 0),
  (94, .iadd, 95, [], 0, 0),
  (95, .iaload, 96, [], 0, 0),
  (96, .iload_n 3, 97, [3], 0, 0),
  (97, .iadd, 98, [], 0, 0),
  (98, .aload_n 0, 99, [0], 0, 0),
  (99, .getfield 13, 102, [7, 8, 1, 882], 0, 0),
  (102, .iconst 4, 103, [], 4, 0),
  (103, .iaload, 104, [], 0, 0),
  (104, .isub, 105, [], 0, 0),
  (105, .ireturn, 106, [], 0, 0)]
/-- OdometerRingModel.dueFirst()I -/
def cd163 : List (Nat × Row) := [(0, .aload_n 0, 1, [0], 0, 0),
  (1, .iconst 0, 2, [], 0, 0),
  (2, .putfield 33, 5, [7, 0, 0, 0, 874], 0, 0),
  (5, .ldc 39, 7, [873], (-99999), 0),
  (7, .istore_n 1, 8, [1], 0, 0),
  (8, .iconst 0, 9, [], 0, 0),
  (9, .istore_n 2, 10, [2], 0, 0),
  (10, .iload_n 2, 11, [2], 0, 0),
  (11, .aload_n 0, 12, [0], 0, 0),
  (12, .getfield 13, 15, [7, 8, 1, 882], 0, 0),
  (15, .bipush 17, 17, [], 17, 0),
  (17, .iaload, 18, [], 0, 0),
  (18, .if_icmp .ge 50, 21, [68], 0, 0),
  (21, .iload_n 1, 22, [1], 0, 0),
  (22, .ldc 39, 24, [873], (-99999), 0),
  (24, .if_icmp .eq 32, 27, [56], 0, 0),
  (27, .aload_n 0, 28, [0], 0, 0),
  (28, .getfield 13, 31, [7, 8, 1, 882], 0, 0),
  (31, .bipush 18, 33, [], 18, 0),
  (33, .iconst 2, 34, [], 2, 0),
  (34, .iload_n 2, 35, [2], 0, 0),
  (35, .imul, 36, [], 0, 0),
  (36, .iadd, 37, [], 0, 0),
  (37, .iconst 1, 38, [], 1, 0),
  (38, .iadd, 39, [], 0, 0),
  (39, .iaload, 40, [], 0, 0),
  (40, .aload_n 0, 41, [0], 0, 0),
  (41, .getfield 13, 44, [7, 8, 1, 882], 0, 0),
  (44, .bipush 18, 46, [], 18, 0),
  (46, .iconst 2, 47, [], 2, 0),
  (47, .iload_n 1, 48, [1], 0, 0),
  (48, .imul, 49, [], 0, 0),
  (49, .iadd, 50, [], 0, 0),
  (50, .iconst 1, 51, [], 1, 0),
  (51, .iadd, 52, [], 0, 0),
  (52, .iaload, 53, [], 0, 0),
  (53, .if_icmp .ge 7, 56, [60], 0, 0),
  (56, .iload_n 2, 57, [2], 0, 0),
  (57, .goto 4, 60, [61], 0, 0),
  (60, .iload_n 1, 61, [1], 0, 0),
  (61, .istore_n 1, 62, [1], 0, 0),
  (62, .iinc 2 1, 65, [2], 1, 0),
  (65, .goto (-55), 68, [10], 0, 0),
  (68, .iload_n 1, 69, [1], 0, 0),
  (69, .ldc 39, 71, [873], (-99999), 0),
  (71, .if_icmp .ne 8, 74, [79], 0, 0),
  (74, .ldc 39, 76, [873], (-99999), 0),
  (76, .goto 14, 79, [90], 0, 0),
  (79, .aload_n 0, 80, [0], 0, 0),
  (80, .getfield 13, 83, [7, 8, 1, 882], 0, 0),
  (83, .bipush 18, 85, [], 18, 0),
  (85, .iconst 2, 86, [], 2, 0),
  (86, .iload_n 1, 87, [1], 0, 0),
  (87, .imul, 88, [], 0, 0),
  (88, .iadd, 89, [], 0, 0),
  (89, .iaload, 90, [], 0, 0),
  (90, .ireturn, 91, [], 0, 0)]
/-- OdometerRingModel.does(I)Z -/
def cd164 : List (Nat × Row) := [(0, .iload_n 1, 1, [1], 0, 0),
  (1, .sipush 1000, 4, [], 1000, 0),
  (4, .idiv, 5, [], 0, 0),
  (5, .istore_n 2, 6, [2], 0, 0),
  (6, .iload_n 1, 7, [1], 0, 0),
  (7, .bipush 100, 9, [], 100, 0),
  (9, .idiv, 10, [], 0, 0),
  (10, .bipush 10, 12, [], 10, 0),
  (12, .irem, 13, [], 0, 0),
  (13, .istore_n 3, 14, [3], 0, 0),
  (14, .iload_n 1, 15, [1], 0, 0),
  (15, .bipush 10, 17, [], 10, 0),
  (17, .idiv, 18, [], 0, 0),
  (18, .bipush 10, 20, [], 10, 0),
  (20, .irem, 21, [], 0, 0),
  (21, .istore 4, 23, [4], 0, 0),
  (23, .iload_n 1, 24, [1], 0, 0),
  (24, .bipush 10, 26, [], 10, 0),
  (26, .irem, 27, [], 0, 0),
  (27, .istore 5, 29, [5], 0, 0),
  (29, .bipush 10, 31, [], 10, 0),
  (31, .iload 4, 33, [4], 0, 0),
  (33, .imul, 34, [], 0, 0),
  (34, .iload 5, 36, [5], 0, 0),
  (36, .iadd, 37, [], 0, 0),
  (37, .istore 6, 39, [6], 0, 0),
  (39, .iload_n 1, 40, [1], 0, 0),
  (40, .sipush 1000, 43, [], 1000, 0),
  (43, .irem, 44, [], 0, 0),
  (44, .istore 7, 46, [7], 0, 0),
  (46, .iload_n 2, 47, [2], 0, 0),
  (47, .tableswitch 286 1 9 #[49, 72, 106, 127, 151, 178, 202, 234, 256], 96, [333, 1, 96, 2, 119, 3, 153, 4, 174, 5, 198, 6, 225, 7, 249, 8, 281, 9, 303], 0, 0),
  (96, .iload 7, 98, [7], 0, 0),
  (98, .ifCond .le 19, 101, [117], 0, 0),
  (101, .aload_n 0, 102, [0], 0, 0),
  (102, .getfield 16, 105, [7, 9, 1, 883], 0, 0),
  (105, .iload 7, 107, [7], 0, 0),
  (107, .invokestatic 126, 110, [0, 131, 974, 975, 34, 976], 0, 0),
  (110, .ifCond .eq 7, 113, [117], 0, 0),
  (113, .iconst 1, 114, [], 1, 0),
  (114, .goto 4, 117, [118], 0, 0),
  (117, .iconst 0, 118, [], 0, 0),
  (118, .ireturn, 119, [], 0, 0),
  (119, .iload_n 3, 120, [3], 0, 0),
  (120, .ifCond .ne 31, 123, [151], 0, 0),
  (123, .iload 4, 125, [4], 0, 0),
  (125, .iload 5, 127, [5], 0, 0),
  (127, .invokestatic 192, 130, [0, 147, 1089, 1090, 34, 1091], 0, 0),
  (130, .ifCond .eq 21, 133, [151], 0, 0),
  (133, .aload_n 0, 134, [0], 0, 0),
  (134, .getfield 16, 137, [7, 9, 1, 883], 0, 0),
  (137, .iload 4, 139, [4], 0, 0),
  (139, .iload 5, 141, [5], 0, 0),
  (141, .invokestatic 130, 144, [0, 132, 995, 996, 34, 997], 0, 0),
  (144, .ifCond .eq 7, 147, [151], 0, 0),
  (147, .iconst 1, 148, [], 1, 0),
  (148, .goto 4, 151, [152], 0, 0),
  (151, .iconst 0, 152, [], 0, 0),
  (152, .ireturn, 153, [], 0, 0),
  (153, .iload 7, 155, [7], 0, 0),
  (155, .ifCond .ne 17, 158, [172], 0, 0),
  (158, .aload_n 0, 159, [0], 0, 0),
  (159, .getfield 16, 162, [7, 9, 1, 883], 0, 0),
  (162, .invokestatic 139, 165, [0, 133, 1025, 1026, 34, 1027], 0, 0),
  (165, .ifCond .eq 7, 168, [172], 0, 0),
  (168, .iconst 1, 169, [], 1, 0),
  (169, .goto 4, 172, [173], 0, 0),
  (172, .iconst 0, 173, [], 0, 0),
  (173, .ireturn, 174, [], 0, 0),
  (174, .iload 5, 176, [5], 0, 0),
  (176, .ifCond .ne 20, 179, [196], 0, 0),
  (179, .aload_n 0, 180, [0], 0, 0),
  (180, .getfield 16, 183, [7, 9, 1, 883], 0, 0),
  (183, .iload_n 3, 184, [3], 0, 0),
  (184, .iload 4, 186, [4], 0, 0),
  (186, .invokestatic 133, 189, [0, 134, 998, 999, 34, 1000], 0, 0),
  (189, .ifCond .eq 7, 192, [196], 0, 0),
  (192, .iconst 1, 193, [], 1, 0),
  (193, .goto 4, 196, [197], 0, 0),
  (196, .iconst 0, 197, [], 0, 0),
  (197, .ireturn, 198, [], 0, 0),
  (198, .aload_n 0, 199, [0], 0, 0),
  (199, .getfield 16, 202, [7, 9, 1, 883], 0, 0),
  (202, .iconst 3, 203, [], 3, 0),
  (203, .iaload, 204, [], 0, 0),
  (204, .iconst 1, 205, [], 1, 0),
  (205, .if_icmp .ne 18, 208, [223], 0, 0),
  (208, .aload_n 0, 209, [0], 0, 0),
  (209, .getfield 16, 212, [7, 9, 1, 883], 0, 0),
  (212, .iconst 4, 213, [], 4, 0),
  (213, .iaload, 214, [], 0, 0),
  (214, .iload 7, 216, [7], 0, 0),
  (216, .if_icmp .lt 7, 219, [223], 0, 0),
  (219, .iconst 1, 220, [], 1, 0),
  (220, .goto 4, 223, [224], 0, 0),
  (223, .iconst 0, 224, [], 0, 0),
  (224, .ireturn, 225, [], 0, 0),
  (225, .iload_n 3, 226, [3], 0, 0),
  (226, .ifCond .ne 11, 229, [237], 0, 0),
  (229, .iload 6, 231, [6], 0, 0),
  (231, .invokestatic 201, 234, [0, 153, 1112, 1113, 34, 1114], 0, 0),
  (234, .ifCond .ne 5, 237, [239], 0, 0),
  (237, .iconst 0, 238, [], 0, 0),
  (238, .ireturn, 239, [], 0, 0),
  (239, .aload_n 0, 240, [0], 0, 0),
  (240, .getfield 16, 243, [7, 9, 1, 883], 0, 0),
  (243, .iconst 1, 244, [], 1, 0),
  (244, .iload 6, 246, [6], 0, 0),
  (246, .iastore, 247, [], 0, 0),
  (247, .iconst 1, 248, [], 1, 0),
  (248, .ireturn, 249, [], 0, 0),
  (249, .aload_n 0, 250, [0], 0, 0),
  (250, .iload_n 3, 251, [3], 0, 0),
  (251, .invokevirtual 178, 254, [139, 1047, 1049, 18, 34, 1050], 0, 0),
  (254, .ifCond .eq 25, 257, [279], 0, 0),
  (257, .iload 6, 259, [6], 0, 0),
  (259, .ifCond .ne 20, 262, [279], 0, 0),
  (262, .aload_n 0, 263, [0], 0, 0),
  (263, .getfield 16, 266, [7, 9, 1, 883], 0, 0),
  (266, .iload_n 3, 267, [3], 0, 0),
  (267, .invokestatic 59, 270, [0, 107, 992, 993, 34, 994], 0, 0),
  (270, .ldc 39, 272, [873], (-99999), 0),
  (272, .if_icmp .eq 7, 275, [279], 0, 0),
  (275, .iconst 1, 276, [], 1, 0),
  (276, .goto 4, 279, [280], 0, 0),
  (279, .iconst 0, 280, [], 0, 0),
  (280, .ireturn, 281, [], 0, 0),
  (281, .iload_n 3, 282, [3], 0, 0),
  (282, .ifCond .ne 19, 285, [301], 0, 0),
  (285, .aload_n 0, 286, [0], 0, 0),
  (286, .getfield 16, 289, [7, 9, 1, 883], 0, 0),
  (289, .invokestatic 174, 292, [0, 110, 1040, 1041, 34, 1042], 0, 0),
  (292, .iload 6, 294, [6], 0, 0),
  (294, .if_icmp .gt 7, 297, [301], 0, 0),
  (297, .iconst 1, 298, [], 1, 0),
  (298, .goto 4, 301, [302], 0, 0),
  (301, .iconst 0, 302, [], 0, 0),
  (302, .ireturn, 303, [], 0, 0),
  (303, .aload_n 0, 304, [0], 0, 0),
  (304, .iload_n 3, 305, [3], 0, 0),
  (305, .invokevirtual 178, 308, [139, 1047, 1049, 18, 34, 1050], 0, 0),
  (308, .ifCond .eq 23, 311, [331], 0, 0),
  (311, .iload 6, 313, [6], 0, 0),
  (313, .ifCond .ne 18, 316, [331], 0, 0),
  (316, .aload_n 0, 317, [0], 0, 0),
  (317, .getfield 16, 320, [7, 9, 1, 883], 0, 0),
  (320, .iload_n 3, 321, [3], 0, 0),
  (321, .invokestatic 136, 324, [0, 135, 1013, 1014, 34, 1015], 0, 0),
  (324, .ifCond .eq 7, 327, [331], 0, 0),
  (327, .iconst 1, 328, [], 1, 0),
  (328, .goto 4, 331, [332], 0, 0),
  (331, .iconst 0, 332, [], 0, 0),
  (332, .ireturn, 333, [], 0, 0),
  (333, .iconst 0, 334, [], 0, 0),
  (334, .ireturn, 335, [], 0, 0)]
/-- OdometerRingModel.runScript(IJ)I -/
def cd165 : List (Nat × Row) := [(0, .iload_n 1, 1, [1], 0, 0),
  (1, .i2l, 2, [], 0, 0),
  (2, .lconst 1, 3, [], 0, 1),
  (3, .ldc2_w 216, 6, [1161], 0, 4),
  (6, .invokestatic 80, 9, [0, 100, 926, 927, 34, 928], 0, 0),
  (9, .istore 4, 11, [4], 0, 0),
  (11, .aload_n 0, 12, [0], 0, 0),
  (12, .iload 4, 14, [4], 0, 0),
  (14, .ifCond .eq 32, 17, [46], 0, 0),
  (17, .lload_n 2, 18, [2], 0, 0),
  (18, .lconst 0, 19, [], 0, 0),
  (19, .iload 4, 21, [4], 0, 0),
  (21, .ifCond .eq 9, 24, [30], 0, 0),
  (24, .iconst 4, 25, [], 4, 0),
  (25, .iload_n 1, 26, [1], 0, 0),
  (26, .imul, 27, [], 0, 0),
  (27, .goto 4, 30, [31], 0, 0),
  (30, .iconst 0, 31, [], 0, 0),
  (31, .invokestatic 218, 34, [0, 102, 1162, 1163, 34, 1164], 0, 0),
  (34, .lconst 1, 35, [], 0, 1),
  (35, .lsub, 36, [], 0, 0),
  (36, .invokestatic 80, 39, [0, 100, 926, 927, 34, 928], 0, 0),
  (39, .ifCond .eq 7, 42, [46], 0, 0),
  (42, .iconst 0, 43, [], 0, 0),
  (43, .goto 4, 46, [47], 0, 0),
  (46, .iconst 1, 47, [], 1, 0),
  (47, .invokevirtual 87, 50, [99, 929, 931, 9, 34, 932], 0, 0),
  (50, .ifCond .eq 5, 53, [55], 0, 0),
  (53, .iconst 0, 54, [], 0, 0),
  (54, .ireturn, 55, [], 0, 0),
  (55, .aload_n 0, 56, [0], 0, 0),
  (56, .invokevirtual 204, 59, [105, 1136, 1138, 22, 34, 1139], 0, 0),
  (59, .iconst 0, 60, [], 0, 0),
  (60, .istore 5, 62, [5], 0, 0),
  (62, .iload 5, 64, [5], 0, 0),
  (64, .iload_n 1, 65, [1], 0, 0),
  (65, .if_icmp .ge 37, 68, [102], 0, 0),
  (68, .aload_n 0, 69, [0], 0, 0),
  (69, .lload_n 2, 70, [2], 0, 0),
  (70, .iconst 4, 71, [], 4, 0),
  (71, .iload_n 1, 72, [1], 0, 0),
  (72, .iconst 1, 73, [], 1, 0),
  (73, .isub, 74, [], 0, 0),
  (74, .iload 5, 76, [5], 0, 0),
  (76, .isub, 77, [], 0, 0),
  (77, .imul, 78, [], 0, 0),
  (78, .invokestatic 218, 81, [0, 102, 1162, 1163, 34, 1164], 0, 0),
  (81, .ldiv, 82, [], 0, 0),
  (82, .ldc2_w 222, 85, [1166], 0, 10000),
  (85, .lrem, 86, [], 0, 0),
  (86, .l2i, 87, [], 0, 0),
  (87, .invokevirtual 224, 90, [164, 1167, 1169, 23, 34, 1170], 0, 0),
  (90, .ifCond .ne 6, 93, [96], 0, 0),
  (93, .iload 5, 95, [5], 0, 0),
  (95, .ireturn, 96, [], 0, 0),
  (96, .iinc 5 1, 99, [5], 1, 0),
  (99, .goto (-37), 102, [62], 0, 0),
  (102, .ldc 39, 104, [873], (-99999), 0),
  (104, .ireturn, 105, [], 0, 0)]
/-- OdometerRingModel.round(I)V -/
def cd166 : List (Nat × Row) := [(0, .aload_n 0, 1, [0], 0, 0),
  (1, .getfield 16, 4, [7, 9, 1, 883], 0, 0),
  (4, .iconst 3, 5, [], 3, 0),
  (5, .iaload, 6, [], 0, 0),
  (6, .ifCond .ne 10, 9, [16], 0, 0),
  (9, .aload_n 0, 10, [0], 0, 0),
  (10, .getfield 16, 13, [7, 9, 1, 883], 0, 0),
  (13, .invokestatic 153, 16, [0, 114, 1028, 1029, 34, 1030], 0, 0),
  (16, .iload_n 1, 17, [1], 0, 0),
  (17, .iconst 4, 18, [], 4, 0),
  (18, .irem, 19, [], 0, 0),
  (19, .ifCond .ne 25, 22, [44], 0, 0),
  (22, .aload_n 0, 23, [0], 0, 0),
  (23, .getfield 16, 26, [7, 9, 1, 883], 0, 0),
  (26, .iconst 1, 27, [], 1, 0),
  (27, .iload_n 1, 28, [1], 0, 0),
  (28, .iconst 4, 29, [], 4, 0),
  (29, .idiv, 30, [], 0, 0),
  (30, .bipush 9, 32, [], 9, 0),
  (32, .irem, 33, [], 0, 0),
  (33, .iadd, 34, [], 0, 0),
  (34, .iload_n 1, 35, [1], 0, 0),
  (35, .bipush 64, 37, [], 64, 0),
  (37, .idiv, 38, [], 0, 0),
  (38, .iconst 3, 39, [], 3, 0),
  (39, .irem, 40, [], 0, 0),
  (40, .invokestatic 130, 43, [0, 132, 995, 996, 34, 997], 0, 0),
  (43, .pop, 44, [], 0, 0),
  (44, .aload_n 0, 45, [0], 0, 0),
  (45, .getfield 16, 48, [7, 9, 1, 883], 0, 0),
  (48, .iconst 1, 49, [], 1, 0),
  (49, .iload_n 1, 50, [1], 0, 0),
  (50, .sipush 256, 53, [], 256, 0),
  (53, .idiv, 54, [], 0, 0),
  (54, .bipush 50, 56, [], 50, 0),
  (56, .irem, 57, [], 0, 0),
  (57, .iadd, 58, [], 0, 0),
  (58, .invokestatic 150, 61, [0, 113, 977, 978, 34, 979], 0, 0),
  (61, .pop, 62, [], 0, 0),
  (62, .return_, 63, [], 0, 0)]
/-- OdometerRingModel.simulate(JI)I -/
def cd167 : List (Nat × Row) := [(0, .aload_n 0, 1, [0], 0, 0),
  (1, .iload_n 3, 2, [3], 0, 0),
  (2, .i2l, 3, [], 0, 0),
  (3, .lconst 1, 4, [], 0, 1),
  (4, .ldc2_w 199, 7, [1115], 0, 99),
  (7, .invokestatic 80, 10, [0, 100, 926, 927, 34, 928], 0, 0),
  (10, .ifCond .eq 7, 13, [17], 0, 0),
  (13, .iconst 0, 14, [], 0, 0),
  (14, .goto 4, 17, [18], 0, 0),
  (17, .iconst 1, 18, [], 1, 0),
  (18, .invokevirtual 87, 21, [99, 929, 931, 9, 34, 932], 0, 0),
  (21, .ifCond .eq 5, 24, [26], 0, 0),
  (24, .iconst 0, 25, [], 0, 0),
  (25, .ireturn, 26, [], 0, 0),
  (26, .aload_n 0, 27, [0], 0, 0),
  (27, .invokevirtual 204, 30, [105, 1136, 1138, 22, 34, 1139], 0, 0),
  (30, .lload_n 1, 31, [1], 0, 0),
  (31, .lstore 4, 33, [4], 0, 0),
  (33, .iconst 0, 34, [], 0, 0),
  (34, .istore 6, 36, [6], 0, 0),
  (36, .iload 6, 38, [6], 0, 0),
  (38, .iload_n 3, 39, [3], 0, 0),
  (39, .if_icmp .ge 31, 42, [70], 0, 0),
  (42, .lload 4, 44, [4], 0, 0),
  (44, .ldc2_w 227, 47, [1175], 0, 6364136223846793005),
  (47, .lmul, 48, [], 0, 0),
  (48, .ldc2_w 229, 51, [1176], 0, 1442695040888963407),
  (51, .ladd, 52, [], 0, 0),
  (52, .lstore 4, 54, [4], 0, 0),
  (54, .aload_n 0, 55, [0], 0, 0),
  (55, .lload 4, 57, [4], 0, 0),
  (57, .bipush 33, 59, [], 33, 0),
  (59, .lushr, 60, [], 0, 0),
  (60, .l2i, 61, [], 0, 0),
  (61, .invokevirtual 231, 64, [166, 1177, 1179, 24, 34, 1180], 0, 0),
  (64, .iinc 6 1, 67, [6], 1, 0),
  (67, .goto (-31), 70, [36], 0, 0),
  (70, .aload_n 0, 71, [0], 0, 0),
  (71, .getfield 16, 74, [7, 9, 1, 883], 0, 0),
  (74, .iconst 5, 75, [], 5, 0),
  (75, .iaload, 76, [], 0, 0),
  (76, .aload_n 0, 77, [0], 0, 0),
  (77, .getfield 13, 80, [7, 8, 1, 882], 0, 0),
  (80, .iconst 5, 81, [], 5, 0),
  (81, .iaload, 82, [], 0, 0),
  (82, .isub, 83, [], 0, 0),
  (83, .istore 6, 85, [6], 0, 0),
  (85, .aload_n 0, 86, [0], 0, 0),
  (86, .getfield 16, 89, [7, 9, 1, 883], 0, 0),
  (89, .iconst 3, 90, [], 3, 0),
  (90, .iaload, 91, [], 0, 0),
  (91, .ifCond .ne 10, 94, [101], 0, 0),
  (94, .aload_n 0, 95, [0], 0, 0),
  (95, .getfield 16, 98, [7, 9, 1, 883], 0, 0),
  (98, .invokestatic 153, 101, [0, 114, 1028, 1029, 34, 1030], 0, 0),
  (101, .aload_n 0, 102, [0], 0, 0),
  (102, .getfield 16, 105, [7, 9, 1, 883], 0, 0),
  (105, .iconst 5, 106, [], 5, 0),
  (106, .iaload, 107, [], 0, 0),
  (107, .aload_n 0, 108, [0], 0, 0),
  (108, .getfield 16, 111, [7, 9, 1, 883], 0, 0),
  (111, .iconst 4, 112, [], 4, 0),
  (112, .iaload, 113, [], 0, 0),
  (113, .isub, 114, [], 0, 0),
  (114, .istore 7, 116, [7], 0, 0),
  (116, .sipush 10000, 119, [], 10000, 0),
  (119, .iload 6, 121, [6], 0, 0),
  (121, .imul, 122, [], 0, 0),
  (122, .iload 7, 124, [7], 0, 0),
  (124, .sipush 9999, 127, [], 9999, 0),
  (127, .if_icmp .le 9, 130, [136], 0, 0),
  (130, .sipush 9999, 133, [], 9999, 0),
  (133, .goto 5, 136, [138], 0, 0),
  (136, .iload 7, 138, [7], 0, 0),
  (138, .iadd, 139, [], 0, 0),
  (139, .ireturn, 140, [], 0, 0)]
/-- OdometerRingModel.save(I)I -/
def cd168 : List (Nat × Row) := [(0, .aload_n 0, 1, [0], 0, 0),
  (1, .iload_n 1, 2, [1], 0, 0),
  (2, .i2l, 3, [], 0, 0),
  (3, .lconst 0, 4, [], 0, 0),
  (4, .lconst 1, 5, [], 0, 1),
  (5, .invokestatic 80, 8, [0, 100, 926, 927, 34, 928], 0, 0),
  (8, .ifCond .eq 7, 11, [15], 0, 0),
  (11, .iconst 0, 12, [], 0, 0),
  (12, .goto 4, 15, [16], 0, 0),
  (15, .iconst 1, 16, [], 1, 0),
  (16, .invokevirtual 87, 19, [99, 929, 931, 9, 34, 932], 0, 0),
  (19, .ifCond .eq 5, 22, [24], 0, 0),
  (22, .iconst 0, 23, [], 0, 0),
  (23, .ireturn, 24, [], 0, 0),
  (24, .aload_n 0, 25, [0], 0, 0),
  (25, .getfield 13, 28, [7, 8, 1, 882], 0, 0),
  (28, .iconst 0, 29, [], 0, 0),
  (29, .aload_n 0, 30, [0], 0, 0),
  (30, .getfield 22, 33, [7, 12, 1, 886], 0, 0),
  (33, .bipush 114, 35, [], 114, 0),
  (35, .iload_n 1, 36, [1], 0, 0),
  (36, .imul, 37, [], 0, 0),
  (37, .bipush 114, 39, [], 114, 0),
  (39, .invokestatic 43, 42, [0, 101, 1082, 1083, 34, 1084], 0, 0),
  (42, .aload_n 0, 43, [0], 0, 0),
  (43, .getfield 25, 46, [7, 13, 1, 887], 0, 0),
  (46, .iload_n 1, 47, [1], 0, 0),
  (47, .iconst 1, 48, [], 1, 0),
  (48, .bastore, 49, [], 0, 0),
  (49, .aload_n 0, 50, [0], 0, 0),
  (50, .getfield 13, 53, [7, 8, 1, 882], 0, 0),
  (53, .iconst 5, 54, [], 5, 0),
  (54, .iaload, 55, [], 0, 0),
  (55, .ireturn, 56, [], 0, 0)]
/-- OdometerRingModel.restore(I)I -/
def cd169 : List (Nat × Row) := [(0, .aload_n 0, 1, [0], 0, 0),
  (1, .iload_n 1, 2, [1], 0, 0),
  (2, .i2l, 3, [], 0, 0),
  (3, .lconst 0, 4, [], 0, 0),
  (4, .lconst 1, 5, [], 0, 1),
  (5, .invokestatic 80, 8, [0, 100, 926, 927, 34, 928], 0, 0),
  (8, .ifCond .ne 7, 11, [15], 0, 0),
  (11, .iconst 1, 12, [], 1, 0),
  (12, .goto 17, 15, [29], 0, 0),
  (15, .aload_n 0, 16, [0], 0, 0),
  (16, .getfield 25, 19, [7, 13, 1, 887], 0, 0),
  (19, .iload_n 1, 20, [1], 0, 0),
  (20, .baload, 21, [], 0, 0),
  (21, .ifCond .eq 7, 24, [28], 0, 0),
  (24, .iconst 0, 25, [], 0, 0),
  (25, .goto 4, 28, [29], 0, 0),
  (28, .iconst 2, 29, [], 2, 0),
  (29, .invokevirtual 87, 32, [99, 929, 931, 9, 34, 932], 0, 0),
  (32, .ifCond .eq 5, 35, [37], 0, 0),
  (35, .iconst 0, 36, [], 0, 0),
  (36, .ireturn, 37, [], 0, 0),
  (37, .aload_n 0, 38, [0], 0, 0),
  (38, .getfield 22, 41, [7, 12, 1, 886], 0, 0),
  (41, .bipush 114, 43, [], 114, 0),
  (43, .iload_n 1, 44, [1], 0, 0),
  (44, .imul, 45, [], 0, 0),
  (45, .aload_n 0, 46, [0], 0, 0),
  (46, .getfield 13, 49, [7, 8, 1, 882], 0, 0),
  (49, .iconst 0, 50, [], 0, 0),
  (50, .bipush 114, 52, [], 114, 0),
  (52, .invokestatic 43, 55, [0, 101, 1082, 1083, 34, 1084], 0, 0),
  (55, .aload_n 0, 56, [0], 0, 0),
  (56, .iconst 0, 57, [], 0, 0),
  (57, .putfield 40, 60, [7, 11, 0, 0, 885], 0, 0),
  (60, .aload_n 0, 61, [0], 0, 0),
  (61, .getfield 13, 64, [7, 8, 1, 882], 0, 0),
  (64, .iconst 5, 65, [], 5, 0),
  (65, .iaload, 66, [], 0, 0),
  (66, .ireturn, 67, [], 0, 0)]
/-- OdometerRingLaw.append(LOdometerRing;I[J)I -/
def cd170 : List (Nat × Row) := [(0, .aload_n 2, 1, [2], 0, 0),
  (1, .iconst 0, 2, [], 0, 0),
  (2, .aload_n 0, 3, [0], 0, 0),
  (3, .iload_n 1, 4, [1], 0, 0),
  (4, .invokevirtual 7, 7, [63, 333, 334, 335, 26, 336], 0, 0),
  (7, .i2l, 8, [], 0, 0),
  (8, .lastore, 9, [], 0, 0),
  (9, .goto 9, 12, [18], 0, 0),
  (12, .astore_n 3, 13, [3], 0, 0),
  (13, .iconst 1, 14, [], 1, 0),
  (14, .ireturn, 15, [], 0, 0),
  (15, .astore_n 3, 16, [3], 0, 0),
  (16, .iconst 2, 17, [], 2, 0),
  (17, .ireturn, 18, [], 0, 0),
  (18, .iconst 0, 19, [], 0, 0),
  (19, .ireturn, 20, [], 0, 0)]
/-- OdometerRingLaw.load(LOdometerRing;[J)I -/
def cd171 : List (Nat × Row) := [(0, .aload_n 1, 1, [1], 0, 0),
  (1, .iconst 0, 2, [], 0, 0),
  (2, .aload_n 0, 3, [0], 0, 0),
  (3, .invokevirtual 17, 6, [66, 428, 429, 430, 26, 431], 0, 0),
  (6, .i2l, 7, [], 0, 0),
  (7, .lastore, 8, [], 0, 0),
  (8, .goto 6, 11, [14], 0, 0),
  (11, .astore_n 2, 12, [2], 0, 0),
  (12, .iconst 1, 13, [], 1, 0),
  (13, .ireturn, 14, [], 0, 0),
  (14, .iconst 0, 15, [], 0, 0),
  (15, .ireturn, 16, [], 0, 0)]
/-- OdometerRingLaw.about(LOdometerRing;I[J)I -/
def cd172 : List (Nat × Row) := [(0, .aload_n 2, 1, [2], 0, 0),
  (1, .iconst 0, 2, [], 0, 0),
  (2, .aload_n 0, 3, [0], 0, 0),
  (3, .iload_n 1, 4, [1], 0, 0),
  (4, .invokevirtual 21, 7, [67, 548, 549, 550, 26, 551], 0, 0),
  (7, .i2l, 8, [], 0, 0),
  (8, .lastore, 9, [], 0, 0),
  (9, .goto 6, 12, [15], 0, 0),
  (12, .astore_n 3, 13, [3], 0, 0),
  (13, .iconst 1, 14, [], 1, 0),
  (14, .ireturn, 15, [], 0, 0),
  (15, .iconst 0, 16, [], 0, 0),
  (16, .ireturn, 17, [], 0, 0)]
/-- OdometerRingLaw.cell(LOdometerRing;III[J)I -/
def cd173 : List (Nat × Row) := [(0, .aload 4, 2, [4], 0, 0),
  (2, .iconst 0, 3, [], 0, 0),
  (3, .aload_n 0, 4, [0], 0, 0),
  (4, .iload_n 1, 5, [1], 0, 0),
  (5, .iload_n 2, 6, [2], 0, 0),
  (6, .iload_n 3, 7, [3], 0, 0),
  (7, .invokevirtual 24, 10, [68, 574, 575, 576, 26, 577], 0, 0),
  (10, .i2l, 11, [], 0, 0),
  (11, .lastore, 12, [], 0, 0),
  (12, .goto 11, 15, [23], 0, 0),
  (15, .astore 5, 17, [5], 0, 0),
  (17, .iconst 1, 18, [], 1, 0),
  (18, .ireturn, 19, [], 0, 0),
  (19, .astore 5, 21, [5], 0, 0),
  (21, .iconst 2, 22, [], 2, 0),
  (22, .ireturn, 23, [], 0, 0),
  (23, .iconst 0, 24, [], 0, 0),
  (24, .ireturn, 25, [], 0, 0)]
/-- OdometerRingLaw.says(LOdometerRing;I[J)I -/
def cd174 : List (Nat × Row) := [(0, .aload_n 2, 1, [2], 0, 0),
  (1, .iconst 0, 2, [], 0, 0),
  (2, .aload_n 0, 3, [0], 0, 0),
  (3, .iload_n 1, 4, [1], 0, 0),
  (4, .invokevirtual 30, 7, [69, 605, 606, 607, 26, 608], 0, 0),
  (7, .i2l, 8, [], 0, 0),
  (8, .lastore, 9, [], 0, 0),
  (9, .goto 6, 12, [15], 0, 0),
  (12, .astore_n 3, 13, [3], 0, 0),
  (13, .iconst 1, 14, [], 1, 0),
  (14, .ireturn, 15, [], 0, 0),
  (15, .iconst 0, 16, [], 0, 0),
  (16, .ireturn, 17, [], 0, 0)]
/-- OdometerRingLaw.whySilent(LOdometerRing;I[J)I -/
def cd175 : List (Nat × Row) := [(0, .aload_n 2, 1, [2], 0, 0),
  (1, .iconst 0, 2, [], 0, 0),
  (2, .aload_n 0, 3, [0], 0, 0),
  (3, .iload_n 1, 4, [1], 0, 0),
  (4, .invokevirtual 33, 7, [70, 614, 615, 616, 26, 617], 0, 0),
  (7, .i2l, 8, [], 0, 0),
  (8, .lastore, 9, [], 0, 0),
  (9, .goto 6, 12, [15], 0, 0),
  (12, .astore_n 3, 13, [3], 0, 0),
  (13, .iconst 1, 14, [], 1, 0),
  (14, .ireturn, 15, [], 0, 0),
  (15, .iconst 0, 16, [], 0, 0),
  (16, .ireturn, 17, [], 0, 0)]
/-- OdometerRingLaw.share(LOdometerRing;I[J)I -/
def cd176 : List (Nat × Row) := [(0, .aload_n 2, 1, [2], 0, 0),
  (1, .iconst 0, 2, [], 0, 0),
  (2, .aload_n 0, 3, [0], 0, 0),
  (3, .iload_n 1, 4, [1], 0, 0),
  (4, .invokevirtual 36, 7, [71, 625, 626, 627, 26, 628], 0, 0),
  (7, .i2l, 8, [], 0, 0),
  (8, .lastore, 9, [], 0, 0),
  (9, .goto 6, 12, [15], 0, 0),
  (12, .astore_n 3, 13, [3], 0, 0),
  (13, .iconst 1, 14, [], 1, 0),
  (14, .ireturn, 15, [], 0, 0),
  (15, .iconst 0, 16, [], 0, 0),
  (16, .ireturn, 17, [], 0, 0)]
/-- OdometerRingLaw.serviceAt(LOdometerRing;II[J)I -/
def cd177 : List (Nat × Row) := [(0, .aload_n 3, 1, [3], 0, 0),
  (1, .iconst 0, 2, [], 0, 0),
  (2, .aload_n 0, 3, [0], 0, 0),
  (3, .iload_n 1, 4, [1], 0, 0),
  (4, .iload_n 2, 5, [2], 0, 0),
  (5, .invokevirtual 39, 8, [72, 636, 637, 638, 26, 639], 0, 0),
  (8, .i2l, 9, [], 0, 0),
  (9, .lastore, 10, [], 0, 0),
  (10, .goto 7, 13, [17], 0, 0),
  (13, .astore 4, 15, [4], 0, 0),
  (15, .iconst 1, 16, [], 1, 0),
  (16, .ireturn, 17, [], 0, 0),
  (17, .iconst 0, 18, [], 0, 0),
  (18, .ireturn, 19, [], 0, 0)]
/-- OdometerRingLaw.lastCut(LOdometerRing;I[J)I -/
def cd178 : List (Nat × Row) := [(0, .aload_n 2, 1, [2], 0, 0),
  (1, .iconst 0, 2, [], 0, 0),
  (2, .aload_n 0, 3, [0], 0, 0),
  (3, .iload_n 1, 4, [1], 0, 0),
  (4, .invokevirtual 43, 7, [73, 645, 646, 647, 26, 648], 0, 0),
  (7, .i2l, 8, [], 0, 0),
  (8, .lastore, 9, [], 0, 0),
  (9, .goto 6, 12, [15], 0, 0),
  (12, .astore_n 3, 13, [3], 0, 0),
  (13, .iconst 1, 14, [], 1, 0),
  (14, .ireturn, 15, [], 0, 0),
  (15, .iconst 0, 16, [], 0, 0),
  (16, .ireturn, 17, [], 0, 0)]
/-- OdometerRingLaw.drive(LOdometerRing;I[J)I -/
def cd179 : List (Nat × Row) := [(0, .aload_n 2, 1, [2], 0, 0),
  (1, .iconst 0, 2, [], 0, 0),
  (2, .aload_n 0, 3, [0], 0, 0),
  (3, .iload_n 1, 4, [1], 0, 0),
  (4, .invokevirtual 46, 7, [74, 653, 654, 655, 26, 656], 0, 0),
  (7, .i2l, 8, [], 0, 0),
  (8, .lastore, 9, [], 0, 0),
  (9, .goto 9, 12, [18], 0, 0),
  (12, .astore_n 3, 13, [3], 0, 0),
  (13, .iconst 1, 14, [], 1, 0),
  (14, .ireturn, 15, [], 0, 0),
  (15, .astore_n 3, 16, [3], 0, 0),
  (16, .iconst 2, 17, [], 2, 0),
  (17, .ireturn, 18, [], 0, 0),
  (18, .iconst 0, 19, [], 0, 0),
  (19, .ireturn, 20, [], 0, 0)]
/-- OdometerRingLaw.cut(LOdometerRing;II[J)I -/
def cd180 : List (Nat × Row) := [(0, .aload_n 3, 1, [3], 0, 0),
  (1, .iconst 0, 2, [], 0, 0),
  (2, .aload_n 0, 3, [0], 0, 0),
  (3, .iload_n 1, 4, [1], 0, 0),
  (4, .iload_n 2, 5, [2], 0, 0),
  (5, .invokevirtual 49, 8, [75, 690, 691, 692, 26, 693], 0, 0),
  (8, .i2l, 9, [], 0, 0),
  (9, .lastore, 10, [], 0, 0),
  (10, .goto 11, 13, [21], 0, 0),
  (13, .astore 4, 15, [4], 0, 0),
  (15, .iconst 1, 16, [], 1, 0),
  (16, .ireturn, 17, [], 0, 0),
  (17, .astore 4, 19, [4], 0, 0),
  (19, .iconst 2, 20, [], 2, 0),
  (20, .ireturn, 21, [], 0, 0),
  (21, .iconst 0, 22, [], 0, 0),
  (22, .ireturn, 23, [], 0, 0)]
/-- OdometerRingLaw.start(LOdometerRing;[J)I -/
def cd181 : List (Nat × Row) := [(0, .aload_n 1, 1, [1], 0, 0),
  (1, .iconst 0, 2, [], 0, 0),
  (2, .aload_n 0, 3, [0], 0, 0),
  (3, .invokevirtual 52, 6, [76, 700, 701, 702, 26, 703], 0, 0),
  (6, .i2l, 7, [], 0, 0),
  (7, .lastore, 8, [], 0, 0),
  (8, .goto 6, 11, [14], 0, 0),
  (11, .astore_n 2, 12, [2], 0, 0),
  (12, .iconst 1, 13, [], 1, 0),
  (13, .ireturn, 14, [], 0, 0),
  (14, .iconst 0, 15, [], 0, 0),
  (15, .ireturn, 16, [], 0, 0)]
/-- OdometerRingLaw.service(LOdometerRing;II[J)I -/
def cd182 : List (Nat × Row) := [(0, .aload_n 3, 1, [3], 0, 0),
  (1, .iconst 0, 2, [], 0, 0),
  (2, .aload_n 0, 3, [0], 0, 0),
  (3, .iload_n 1, 4, [1], 0, 0),
  (4, .iload_n 2, 5, [2], 0, 0),
  (5, .invokevirtual 55, 8, [77, 709, 710, 711, 26, 712], 0, 0),
  (8, .i2l, 9, [], 0, 0),
  (9, .lastore, 10, [], 0, 0),
  (10, .goto 11, 13, [21], 0, 0),
  (13, .astore 4, 15, [4], 0, 0),
  (15, .iconst 1, 16, [], 1, 0),
  (16, .ireturn, 17, [], 0, 0),
  (17, .astore 4, 19, [4], 0, 0),
  (19, .iconst 2, 20, [], 2, 0),
  (20, .ireturn, 21, [], 0, 0),
  (21, .iconst 0, 22, [], 0, 0),
  (22, .ireturn, 23, [], 0, 0)]
/-- OdometerRingLaw.forget(LOdometerRing;II[J)I -/
def cd183 : List (Nat × Row) := [(0, .aload_n 3, 1, [3], 0, 0),
  (1, .iconst 0, 2, [], 0, 0),
  (2, .aload_n 0, 3, [0], 0, 0),
  (3, .iload_n 1, 4, [1], 0, 0),
  (4, .iload_n 2, 5, [2], 0, 0),
  (5, .invokevirtual 58, 8, [78, 721, 722, 723, 26, 724], 0, 0),
  (8, .i2l, 9, [], 0, 0),
  (9, .lastore, 10, [], 0, 0),
  (10, .goto 11, 13, [21], 0, 0),
  (13, .astore 4, 15, [4], 0, 0),
  (15, .iconst 1, 16, [], 1, 0),
  (16, .ireturn, 17, [], 0, 0),
  (17, .astore 4, 19, [4], 0, 0),
  (19, .iconst 2, 20, [], 2, 0),
  (20, .ireturn, 21, [], 0, 0),
  (21, .iconst 0, 22, [], 0, 0),
  (22, .ireturn, 23, [], 0, 0)]
/-- OdometerRingLaw.setStep(LOdometerRing;I[J)I -/
def cd184 : List (Nat × Row) := [(0, .aload_n 2, 1, [2], 0, 0),
  (1, .iconst 0, 2, [], 0, 0),
  (2, .aload_n 0, 3, [0], 0, 0),
  (3, .iload_n 1, 4, [1], 0, 0),
  (4, .invokevirtual 61, 7, [79, 731, 732, 733, 26, 734], 0, 0),
  (7, .i2l, 8, [], 0, 0),
  (8, .lastore, 9, [], 0, 0),
  (9, .goto 6, 12, [15], 0, 0),
  (12, .astore_n 3, 13, [3], 0, 0),
  (13, .iconst 1, 14, [], 1, 0),
  (14, .ireturn, 15, [], 0, 0),
  (15, .iconst 0, 16, [], 0, 0),
  (16, .ireturn, 17, [], 0, 0)]
/-- OdometerRingLaw.replace(LOdometerRing;I[J)I -/
def cd185 : List (Nat × Row) := [(0, .aload_n 2, 1, [2], 0, 0),
  (1, .iconst 0, 2, [], 0, 0),
  (2, .aload_n 0, 3, [0], 0, 0),
  (3, .iload_n 1, 4, [1], 0, 0),
  (4, .invokevirtual 64, 7, [80, 742, 743, 744, 26, 745], 0, 0),
  (7, .i2l, 8, [], 0, 0),
  (8, .lastore, 9, [], 0, 0),
  (9, .goto 9, 12, [18], 0, 0),
  (12, .astore_n 3, 13, [3], 0, 0),
  (13, .iconst 1, 14, [], 1, 0),
  (14, .ireturn, 15, [], 0, 0),
  (15, .astore_n 3, 16, [3], 0, 0),
  (16, .iconst 2, 17, [], 2, 0),
  (17, .ireturn, 18, [], 0, 0),
  (18, .iconst 0, 19, [], 0, 0),
  (19, .ireturn, 20, [], 0, 0)]
/-- OdometerRingLaw.undo(LOdometerRing;[J)I -/
def cd186 : List (Nat × Row) := [(0, .aload_n 1, 1, [1], 0, 0),
  (1, .iconst 0, 2, [], 0, 0),
  (2, .aload_n 0, 3, [0], 0, 0),
  (3, .invokevirtual 67, 6, [81, 752, 753, 754, 26, 755], 0, 0),
  (6, .i2l, 7, [], 0, 0),
  (7, .lastore, 8, [], 0, 0),
  (8, .goto 6, 11, [14], 0, 0),
  (11, .astore_n 2, 12, [2], 0, 0),
  (12, .iconst 1, 13, [], 1, 0),
  (13, .ireturn, 14, [], 0, 0),
  (14, .iconst 0, 15, [], 0, 0),
  (15, .ireturn, 16, [], 0, 0)]
/-- OdometerRingLaw.afterCut(LOdometerRing;II[J)I -/
def cd187 : List (Nat × Row) := [(0, .aload_n 3, 1, [3], 0, 0),
  (1, .iconst 0, 2, [], 0, 0),
  (2, .aload_n 0, 3, [0], 0, 0),
  (3, .iload_n 1, 4, [1], 0, 0),
  (4, .iload_n 2, 5, [2], 0, 0),
  (5, .invokevirtual 70, 8, [82, 768, 769, 770, 26, 771], 0, 0),
  (8, .i2l, 9, [], 0, 0),
  (9, .lastore, 10, [], 0, 0),
  (10, .goto 11, 13, [21], 0, 0),
  (13, .astore 4, 15, [4], 0, 0),
  (15, .iconst 1, 16, [], 1, 0),
  (16, .ireturn, 17, [], 0, 0),
  (17, .astore 4, 19, [4], 0, 0),
  (19, .iconst 2, 20, [], 2, 0),
  (20, .ireturn, 21, [], 0, 0),
  (21, .iconst 0, 22, [], 0, 0),
  (22, .ireturn, 23, [], 0, 0)]
/-- OdometerRingLaw.worstLoss(LOdometerRing;[J)I -/
def cd188 : List (Nat × Row) := [(0, .aload_n 1, 1, [1], 0, 0),
  (1, .iconst 0, 2, [], 0, 0),
  (2, .aload_n 0, 3, [0], 0, 0),
  (3, .invokevirtual 73, 6, [83, 782, 783, 784, 26, 785], 0, 0),
  (6, .i2l, 7, [], 0, 0),
  (7, .lastore, 8, [], 0, 0),
  (8, .goto 6, 11, [14], 0, 0),
  (11, .astore_n 2, 12, [2], 0, 0),
  (12, .iconst 1, 13, [], 1, 0),
  (13, .ireturn, 14, [], 0, 0),
  (14, .iconst 0, 15, [], 0, 0),
  (15, .ireturn, 16, [], 0, 0)]
/-- OdometerRingLaw.lasts(LOdometerRing;I[J)I -/
def cd189 : List (Nat × Row) := [(0, .aload_n 2, 1, [2], 0, 0),
  (1, .iconst 0, 2, [], 0, 0),
  (2, .aload_n 0, 3, [0], 0, 0),
  (3, .iload_n 1, 4, [1], 0, 0),
  (4, .invokevirtual 76, 7, [84, 790, 791, 792, 26, 793], 0, 0),
  (7, .i2l, 8, [], 0, 0),
  (8, .lastore, 9, [], 0, 0),
  (9, .goto 9, 12, [18], 0, 0),
  (12, .astore_n 3, 13, [3], 0, 0),
  (13, .iconst 1, 14, [], 1, 0),
  (14, .ireturn, 15, [], 0, 0),
  (15, .astore_n 3, 16, [3], 0, 0),
  (16, .iconst 2, 17, [], 2, 0),
  (17, .ireturn, 18, [], 0, 0),
  (18, .iconst 0, 19, [], 0, 0),
  (19, .ireturn, 20, [], 0, 0)]
/-- OdometerRingLaw.dueIn(LOdometerRing;III[J)I -/
def cd190 : List (Nat × Row) := [(0, .aload 4, 2, [4], 0, 0),
  (2, .iconst 0, 3, [], 0, 0),
  (3, .aload_n 0, 4, [0], 0, 0),
  (4, .iload_n 1, 5, [1], 0, 0),
  (5, .iload_n 2, 6, [2], 0, 0),
  (6, .iload_n 3, 7, [3], 0, 0),
  (7, .invokevirtual 79, 10, [85, 801, 802, 803, 26, 804], 0, 0),
  (10, .i2l, 11, [], 0, 0),
  (11, .lastore, 12, [], 0, 0),
  (12, .goto 11, 15, [23], 0, 0),
  (15, .astore 5, 17, [5], 0, 0),
  (17, .iconst 1, 18, [], 1, 0),
  (18, .ireturn, 19, [], 0, 0),
  (19, .astore 5, 21, [5], 0, 0),
  (21, .iconst 2, 22, [], 2, 0),
  (22, .ireturn, 23, [], 0, 0),
  (23, .iconst 0, 24, [], 0, 0),
  (24, .ireturn, 25, [], 0, 0)]
/-- OdometerRingLaw.runScript(LOdometerRing;IJ[J)I -/
def cd191 : List (Nat × Row) := [(0, .aload 4, 2, [4], 0, 0),
  (2, .iconst 0, 3, [], 0, 0),
  (3, .aload_n 0, 4, [0], 0, 0),
  (4, .iload_n 1, 5, [1], 0, 0),
  (5, .lload_n 2, 6, [2], 0, 0),
  (6, .invokevirtual 82, 9, [87, 809, 810, 811, 26, 812], 0, 0),
  (9, .i2l, 10, [], 0, 0),
  (10, .lastore, 11, [], 0, 0),
  (11, .goto 7, 14, [18], 0, 0),
  (14, .astore 5, 16, [5], 0, 0),
  (16, .iconst 1, 17, [], 1, 0),
  (17, .ireturn, 18, [], 0, 0),
  (18, .iconst 0, 19, [], 0, 0),
  (19, .ireturn, 20, [], 0, 0)]
/-- OdometerRingLaw.simulate(LOdometerRing;JI[J)I -/
def cd192 : List (Nat × Row) := [(0, .aload 4, 2, [4], 0, 0),
  (2, .iconst 0, 3, [], 0, 0),
  (3, .aload_n 0, 4, [0], 0, 0),
  (4, .lload_n 1, 5, [1], 0, 0),
  (5, .iload_n 3, 6, [3], 0, 0),
  (6, .invokevirtual 86, 9, [88, 831, 832, 833, 26, 834], 0, 0),
  (9, .i2l, 10, [], 0, 0),
  (10, .lastore, 11, [], 0, 0),
  (11, .goto 7, 14, [18], 0, 0),
  (14, .astore 5, 16, [5], 0, 0),
  (16, .iconst 1, 17, [], 1, 0),
  (17, .ireturn, 18, [], 0, 0),
  (18, .iconst 0, 19, [], 0, 0),
  (19, .ireturn, 20, [], 0, 0)]
/-- OdometerRingLaw.save(LOdometerRing;I[J)I -/
def cd193 : List (Nat × Row) := [(0, .aload_n 2, 1, [2], 0, 0),
  (1, .iconst 0, 2, [], 0, 0),
  (2, .aload_n 0, 3, [0], 0, 0),
  (3, .iload_n 1, 4, [1], 0, 0),
  (4, .invokevirtual 90, 7, [89, 845, 846, 847, 26, 848], 0, 0),
  (7, .i2l, 8, [], 0, 0),
  (8, .lastore, 9, [], 0, 0),
  (9, .goto 6, 12, [15], 0, 0),
  (12, .astore_n 3, 13, [3], 0, 0),
  (13, .iconst 1, 14, [], 1, 0),
  (14, .ireturn, 15, [], 0, 0),
  (15, .iconst 0, 16, [], 0, 0),
  (16, .ireturn, 17, [], 0, 0)]
/-- OdometerRingLaw.restore(LOdometerRing;I[J)I -/
def cd194 : List (Nat × Row) := [(0, .aload_n 2, 1, [2], 0, 0),
  (1, .iconst 0, 2, [], 0, 0),
  (2, .aload_n 0, 3, [0], 0, 0),
  (3, .iload_n 1, 4, [1], 0, 0),
  (4, .invokevirtual 93, 7, [90, 854, 855, 856, 26, 857], 0, 0),
  (7, .i2l, 8, [], 0, 0),
  (8, .lastore, 9, [], 0, 0),
  (9, .goto 9, 12, [18], 0, 0),
  (12, .astore_n 3, 13, [3], 0, 0),
  (13, .iconst 1, 14, [], 1, 0),
  (14, .ireturn, 15, [], 0, 0),
  (15, .astore_n 3, 16, [3], 0, 0),
  (16, .iconst 2, 17, [], 2, 0),
  (17, .ireturn, 18, [], 0, 0),
  (18, .iconst 0, 19, [], 0, 0),
  (19, .ireturn, 20, [], 0, 0)]
/-- OdometerRingLaw.law([I)Z -/
def cd195_0 : List (Nat × Row) := [(0, .new 8, 3, [0, 6, 42, 43, 26], 0, 0),
  (3, .dup, 4, [], 0, 0),
  (4, .invokespecial 96, 7, [1, 62, 45, 26, 46, 44], 0, 0),
  (7, .astore_n 1, 8, [1], 0, 0),
  (8, .new 97, 11, [0, 7, 864, 865, 34], 0, 0),
  (11, .dup, 12, [], 0, 0),
  (12, .invokespecial 99, 15, [1, 97, 867, 34, 868, 866], 0, 0),
  (15, .astore_n 2, 16, [2], 0, 0),
  (16, .iconst 1, 17, [], 1, 0),
  (17, .newarray .long, 19, [10, 1190], 0, 0),
  (19, .astore_n 3, 20, [3], 0, 0),
  (20, .iconst 0, 21, [], 0, 0),
  (21, .istore 4, 23, [4], 0, 0),
  (23, .iload 4, 25, [4], 0, 0),
  (25, .aload_n 0, 26, [0], 0, 0),
  (26, .arraylength, 27, [], 0, 0),
  (27, .iconst 4, 28, [], 4, 0),
  (28, .isub, 29, [], 0, 0),
  (29, .if_icmp .gt 1728, 32, [1757], 0, 0),
  (32, .aload_n 0, 33, [0], 0, 0),
  (33, .iload 4, 35, [4], 0, 0),
  (35, .iaload, 36, [], 0, 0),
  (36, .bipush 31, 38, [], 31, 0),
  (38, .iand, 39, [], 0, 0),
  (39, .tableswitch 1712 0 27 #[125, 181, 194, 207, 251, 307, 387, 443, 499, 555, 623, 679, 735, 803, 847, 915, 983, 1039, 1095, 1139, 1207, 1251, 1307, 1387, 1400, 1500, 1600, 1656], 164, [1751, 0, 164, 1, 220, 2, 233, 3, 246, 4, 290, 5, 346, 6, 426, 7, 482, 8, 538, 9, 594, 10, 662, 11, 718, 12, 774, 13, 842, 14, 886, 15, 954, 16, 1022, 17, 1078, 18, 1134, 19, 1178, 20, 1246, 21, 1290, 22, 1346, 23, 1426, 24, 1439, 25, 1539, 26, 1639, 27, 1695], 0, 0),
  (164, .aload_n 1, 165, [1], 0, 0),
  (165, .aload_n 0, 166, [0], 0, 0),
  (166, .iload 4, 168, [4], 0, 0),
  (168, .iconst 1, 169, [], 1, 0),
  (169, .iadd, 170, [], 0, 0),
  (170, .iaload, 171, [], 0, 0),
  (171, .aload_n 3, 172, [3], 0, 0),
  (172, .invokestatic 100, 175, [0, 170, 328, 329, 25, 330], 0, 0),
  (175, .istore 5, 177, [5], 0, 0),
  (177, .aload_n 2, 178, [2], 0, 0),
  (178, .aload_n 0, 179, [0], 0, 0),
  (179, .iload 4, 181, [4], 0, 0),
  (181, .iconst 1, 182, [], 1, 0),
  (182, .iadd, 183, [], 0, 0),
  (183, .iaload, 184, [], 0, 0),
  (184, .invokevirtual 105, 187, [121, 921, 922, 923, 34, 924], 0, 0),
  (187, .istore 6, 189, [6], 0, 0),
  (189, .aload_n 2, 190, [2], 0, 0),
  (190, .invokevirtual 106, 193, [98, 917, 918, 919, 34, 920], 0, 0),
  (193, .iload 5, 195, [5], 0, 0),
  (195, .if_icmp .eq 5, 198, [200], 0, 0),
  (198, .iconst 0, 199, [], 0, 0),
  (199, .ireturn, 200, [], 0, 0),
  (200, .iload 5, 202, [5], 0, 0),
  (202, .ifCond .ne 15, 205, [217], 0, 0),
  (205, .aload_n 3, 206, [3], 0, 0),
  (206, .iconst 0, 207, [], 0, 0),
  (207, .laload, 208, [], 0, 0),
  (208, .iload 6, 210, [6], 0, 0),
  (210, .i2l, 211, [], 0, 0),
  (211, .lcmp, 212, [], 0, 0),
  (212, .ifCond .eq 5, 215, [217], 0, 0),
  (215, .iconst 0, 216, [], 0, 0),
  (216, .ireturn, 217, [], 0, 0),
  (217, .goto 1534, 220, [1751], 0, 0),
  (220, .aload_n 1, 221, [1], 0, 0),
  (221, .invokevirtual 109, 224, [64, 273, 274, 275, 26, 276], 0, 0),
  (224, .aload_n 2, 225, [2], 0, 0),
  (225, .invokevirtual 112, 228, [122, 933, 934, 935, 34, 936], 0, 0),
  (228, .if_icmp .eq 1523, 231, [1751], 0, 0),
  (231, .iconst 0, 232, [], 0, 0),
  (232, .ireturn, 233, [], 0, 0),
  (233, .aload_n 1, 234, [1], 0, 0),
  (234, .invokevirtual 113, 237, [65, 281, 282, 283, 26, 284], 0, 0),
  (237, .aload_n 2, 238, [2], 0, 0),
  (238, .invokevirtual 116, 241, [136, 937, 938, 939, 34, 940], 0, 0),
  (241, .if_icmp .eq 1510, 244, [1751], 0, 0),
  (244, .iconst 0, 245, [], 0, 0),
  (245, .ireturn, 246, [], 0, 0),
  (246, .aload_n 1, 247, [1], 0, 0),
  (247, .aload_n 3, 248, [3], 0, 0),
  (248, .invokestatic 117, 251, [0, 171, 425, 426, 25, 427], 0, 0),
  (251, .istore 5, 253, [5], 0, 0),
  (253, .aload_n 2, 254, [2], 0, 0),
  (254, .invokevirtual 120, 257, [137, 1031, 1032, 1033, 34, 1034], 0, 0)]
def cd195_1 : List (Nat × Row) := [(257, .istore 6, 259, [6], 0, 0),
  (259, .aload_n 2, 260, [2], 0, 0),
  (260, .invokevirtual 106, 263, [98, 917, 918, 919, 34, 920], 0, 0),
  (263, .iload 5, 265, [5], 0, 0),
  (265, .if_icmp .eq 5, 268, [270], 0, 0),
  (268, .iconst 0, 269, [], 0, 0),
  (269, .ireturn, 270, [], 0, 0),
  (270, .iload 5, 272, [5], 0, 0),
  (272, .ifCond .ne 15, 275, [287], 0, 0),
  (275, .aload_n 3, 276, [3], 0, 0),
  (276, .iconst 0, 277, [], 0, 0),
  (277, .laload, 278, [], 0, 0),
  (278, .iload 6, 280, [6], 0, 0),
  (280, .i2l, 281, [], 0, 0),
  (281, .lcmp, 282, [], 0, 0),
  (282, .ifCond .eq 5, 285, [287], 0, 0),
  (285, .iconst 0, 286, [], 0, 0),
  (286, .ireturn, 287, [], 0, 0),
  (287, .goto 1464, 290, [1751], 0, 0),
  (290, .aload_n 1, 291, [1], 0, 0),
  (291, .aload_n 0, 292, [0], 0, 0),
  (292, .iload 4, 294, [4], 0, 0),
  (294, .iconst 1, 295, [], 1, 0),
  (295, .iadd, 296, [], 0, 0),
  (296, .iaload, 297, [], 0, 0),
  (297, .aload_n 3, 298, [3], 0, 0),
  (298, .invokestatic 121, 301, [0, 172, 545, 546, 25, 547], 0, 0),
  (301, .istore 5, 303, [5], 0, 0),
  (303, .aload_n 2, 304, [2], 0, 0),
  (304, .aload_n 0, 305, [0], 0, 0),
  (305, .iload 4, 307, [4], 0, 0),
  (307, .iconst 1, 308, [], 1, 0),
  (308, .iadd, 309, [], 0, 0),
  (309, .iaload, 310, [], 0, 0),
  (310, .invokevirtual 123, 313, [138, 1035, 1036, 1037, 34, 1038], 0, 0),
  (313, .istore 6, 315, [6], 0, 0),
  (315, .aload_n 2, 316, [2], 0, 0),
  (316, .invokevirtual 106, 319, [98, 917, 918, 919, 34, 920], 0, 0),
  (319, .iload 5, 321, [5], 0, 0),
  (321, .if_icmp .eq 5, 324, [326], 0, 0),
  (324, .iconst 0, 325, [], 0, 0),
  (325, .ireturn, 326, [], 0, 0),
  (326, .iload 5, 328, [5], 0, 0),
  (328, .ifCond .ne 15, 331, [343], 0, 0),
  (331, .aload_n 3, 332, [3], 0, 0),
  (332, .iconst 0, 333, [], 0, 0),
  (333, .laload, 334, [], 0, 0),
  (334, .iload 6, 336, [6], 0, 0),
  (336, .i2l, 337, [], 0, 0),
  (337, .lcmp, 338, [], 0, 0),
  (338, .ifCond .eq 5, 341, [343], 0, 0),
  (341, .iconst 0, 342, [], 0, 0),
  (342, .ireturn, 343, [], 0, 0),
  (343, .goto 1408, 346, [1751], 0, 0),
  (346, .aload_n 1, 347, [1], 0, 0),
  (347, .aload_n 0, 348, [0], 0, 0),
  (348, .iload 4, 350, [4], 0, 0),
  (350, .iconst 1, 351, [], 1, 0),
  (351, .iadd, 352, [], 0, 0),
  (352, .iaload, 353, [], 0, 0),
  (353, .aload_n 0, 354, [0], 0, 0),
  (354, .iload 4, 356, [4], 0, 0),
  (356, .iconst 2, 357, [], 2, 0),
  (357, .iadd, 358, [], 0, 0),
  (358, .iaload, 359, [], 0, 0),
  (359, .aload_n 0, 360, [0], 0, 0),
  (360, .iload 4, 362, [4], 0, 0),
  (362, .iconst 3, 363, [], 3, 0),
  (363, .iadd, 364, [], 0, 0),
  (364, .iaload, 365, [], 0, 0),
  (365, .aload_n 3, 366, [3], 0, 0),
  (366, .invokestatic 124, 369, [0, 173, 570, 571, 25, 572], 0, 0),
  (369, .istore 5, 371, [5], 0, 0),
  (371, .aload_n 2, 372, [2], 0, 0),
  (372, .aload_n 0, 373, [0], 0, 0),
  (373, .iload 4, 375, [4], 0, 0),
  (375, .iconst 1, 376, [], 1, 0),
  (376, .iadd, 377, [], 0, 0),
  (377, .iaload, 378, [], 0, 0),
  (378, .aload_n 0, 379, [0], 0, 0)]
def cd195_2 : List (Nat × Row) := [(379, .iload 4, 381, [4], 0, 0),
  (381, .iconst 2, 382, [], 2, 0),
  (382, .iadd, 383, [], 0, 0),
  (383, .iaload, 384, [], 0, 0),
  (384, .aload_n 0, 385, [0], 0, 0),
  (385, .iload 4, 387, [4], 0, 0),
  (387, .iconst 3, 388, [], 3, 0),
  (388, .iadd, 389, [], 0, 0),
  (389, .iaload, 390, [], 0, 0),
  (390, .invokevirtual 127, 393, [140, 1043, 1044, 1045, 34, 1046], 0, 0),
  (393, .istore 6, 395, [6], 0, 0),
  (395, .aload_n 2, 396, [2], 0, 0),
  (396, .invokevirtual 106, 399, [98, 917, 918, 919, 34, 920], 0, 0),
  (399, .iload 5, 401, [5], 0, 0),
  (401, .if_icmp .eq 5, 404, [406], 0, 0),
  (404, .iconst 0, 405, [], 0, 0),
  (405, .ireturn, 406, [], 0, 0),
  (406, .iload 5, 408, [5], 0, 0),
  (408, .ifCond .ne 15, 411, [423], 0, 0),
  (411, .aload_n 3, 412, [3], 0, 0),
  (412, .iconst 0, 413, [], 0, 0),
  (413, .laload, 414, [], 0, 0),
  (414, .iload 6, 416, [6], 0, 0),
  (416, .i2l, 417, [], 0, 0),
  (417, .lcmp, 418, [], 0, 0),
  (418, .ifCond .eq 5, 421, [423], 0, 0),
  (421, .iconst 0, 422, [], 0, 0),
  (422, .ireturn, 423, [], 0, 0),
  (423, .goto 1328, 426, [1751], 0, 0),
  (426, .aload_n 1, 427, [1], 0, 0),
  (427, .aload_n 0, 428, [0], 0, 0),
  (428, .iload 4, 430, [4], 0, 0),
  (430, .iconst 1, 431, [], 1, 0),
  (431, .iadd, 432, [], 0, 0),
  (432, .iaload, 433, [], 0, 0),
  (433, .aload_n 3, 434, [3], 0, 0),
  (434, .invokestatic 128, 437, [0, 174, 602, 603, 25, 604], 0, 0),
  (437, .istore 5, 439, [5], 0, 0),
  (439, .aload_n 2, 440, [2], 0, 0),
  (440, .aload_n 0, 441, [0], 0, 0),
  (441, .iload 4, 443, [4], 0, 0),
  (443, .iconst 1, 444, [], 1, 0),
  (444, .iadd, 445, [], 0, 0),
  (445, .iaload, 446, [], 0, 0),
  (446, .invokevirtual 130, 449, [141, 1052, 1053, 1054, 34, 1055], 0, 0),
  (449, .istore 6, 451, [6], 0, 0),
  (451, .aload_n 2, 452, [2], 0, 0),
  (452, .invokevirtual 106, 455, [98, 917, 918, 919, 34, 920], 0, 0),
  (455, .iload 5, 457, [5], 0, 0),
  (457, .if_icmp .eq 5, 460, [462], 0, 0),
  (460, .iconst 0, 461, [], 0, 0),
  (461, .ireturn, 462, [], 0, 0),
  (462, .iload 5, 464, [5], 0, 0),
  (464, .ifCond .ne 15, 467, [479], 0, 0),
  (467, .aload_n 3, 468, [3], 0, 0),
  (468, .iconst 0, 469, [], 0, 0),
  (469, .laload, 470, [], 0, 0),
  (470, .iload 6, 472, [6], 0, 0),
  (472, .i2l, 473, [], 0, 0),
  (473, .lcmp, 474, [], 0, 0),
  (474, .ifCond .eq 5, 477, [479], 0, 0),
  (477, .iconst 0, 478, [], 0, 0),
  (478, .ireturn, 479, [], 0, 0),
  (479, .goto 1272, 482, [1751], 0, 0),
  (482, .aload_n 1, 483, [1], 0, 0),
  (483, .aload_n 0, 484, [0], 0, 0),
  (484, .iload 4, 486, [4], 0, 0),
  (486, .iconst 1, 487, [], 1, 0),
  (487, .iadd, 488, [], 0, 0),
  (488, .iaload, 489, [], 0, 0),
  (489, .aload_n 3, 490, [3], 0, 0),
  (490, .invokestatic 131, 493, [0, 175, 611, 612, 25, 613], 0, 0),
  (493, .istore 5, 495, [5], 0, 0),
  (495, .aload_n 2, 496, [2], 0, 0),
  (496, .aload_n 0, 497, [0], 0, 0),
  (497, .iload 4, 499, [4], 0, 0),
  (499, .iconst 1, 500, [], 1, 0),
  (500, .iadd, 501, [], 0, 0),
  (501, .iaload, 502, [], 0, 0),
  (502, .invokevirtual 133, 505, [142, 1056, 1057, 1058, 34, 1059], 0, 0)]
def cd195_3 : List (Nat × Row) := [(505, .istore 6, 507, [6], 0, 0),
  (507, .aload_n 2, 508, [2], 0, 0),
  (508, .invokevirtual 106, 511, [98, 917, 918, 919, 34, 920], 0, 0),
  (511, .iload 5, 513, [5], 0, 0),
  (513, .if_icmp .eq 5, 516, [518], 0, 0),
  (516, .iconst 0, 517, [], 0, 0),
  (517, .ireturn, 518, [], 0, 0),
  (518, .iload 5, 520, [5], 0, 0),
  (520, .ifCond .ne 15, 523, [535], 0, 0),
  (523, .aload_n 3, 524, [3], 0, 0),
  (524, .iconst 0, 525, [], 0, 0),
  (525, .laload, 526, [], 0, 0),
  (526, .iload 6, 528, [6], 0, 0),
  (528, .i2l, 529, [], 0, 0),
  (529, .lcmp, 530, [], 0, 0),
  (530, .ifCond .eq 5, 533, [535], 0, 0),
  (533, .iconst 0, 534, [], 0, 0),
  (534, .ireturn, 535, [], 0, 0),
  (535, .goto 1216, 538, [1751], 0, 0),
  (538, .aload_n 1, 539, [1], 0, 0),
  (539, .aload_n 0, 540, [0], 0, 0),
  (540, .iload 4, 542, [4], 0, 0),
  (542, .iconst 1, 543, [], 1, 0),
  (543, .iadd, 544, [], 0, 0),
  (544, .iaload, 545, [], 0, 0),
  (545, .aload_n 3, 546, [3], 0, 0),
  (546, .invokestatic 134, 549, [0, 176, 622, 623, 25, 624], 0, 0),
  (549, .istore 5, 551, [5], 0, 0),
  (551, .aload_n 2, 552, [2], 0, 0),
  (552, .aload_n 0, 553, [0], 0, 0),
  (553, .iload 4, 555, [4], 0, 0),
  (555, .iconst 1, 556, [], 1, 0),
  (556, .iadd, 557, [], 0, 0),
  (557, .iaload, 558, [], 0, 0),
  (558, .invokevirtual 136, 561, [143, 1060, 1061, 1062, 34, 1063], 0, 0),
  (561, .istore 6, 563, [6], 0, 0),
  (563, .aload_n 2, 564, [2], 0, 0),
  (564, .invokevirtual 106, 567, [98, 917, 918, 919, 34, 920], 0, 0),
  (567, .iload 5, 569, [5], 0, 0),
  (569, .if_icmp .eq 5, 572, [574], 0, 0),
  (572, .iconst 0, 573, [], 0, 0),
  (573, .ireturn, 574, [], 0, 0),
  (574, .iload 5, 576, [5], 0, 0),
  (576, .ifCond .ne 15, 579, [591], 0, 0),
  (579, .aload_n 3, 580, [3], 0, 0),
  (580, .iconst 0, 581, [], 0, 0),
  (581, .laload, 582, [], 0, 0),
  (582, .iload 6, 584, [6], 0, 0),
  (584, .i2l, 585, [], 0, 0),
  (585, .lcmp, 586, [], 0, 0),
  (586, .ifCond .eq 5, 589, [591], 0, 0),
  (589, .iconst 0, 590, [], 0, 0),
  (590, .ireturn, 591, [], 0, 0),
  (591, .goto 1160, 594, [1751], 0, 0),
  (594, .aload_n 1, 595, [1], 0, 0),
  (595, .aload_n 0, 596, [0], 0, 0),
  (596, .iload 4, 598, [4], 0, 0),
  (598, .iconst 1, 599, [], 1, 0),
  (599, .iadd, 600, [], 0, 0),
  (600, .iaload, 601, [], 0, 0),
  (601, .aload_n 0, 602, [0], 0, 0),
  (602, .iload 4, 604, [4], 0, 0),
  (604, .iconst 2, 605, [], 2, 0),
  (605, .iadd, 606, [], 0, 0),
  (606, .iaload, 607, [], 0, 0),
  (607, .aload_n 3, 608, [3], 0, 0),
  (608, .invokestatic 137, 611, [0, 177, 633, 634, 25, 635], 0, 0),
  (611, .istore 5, 613, [5], 0, 0),
  (613, .aload_n 2, 614, [2], 0, 0),
  (614, .aload_n 0, 615, [0], 0, 0),
  (615, .iload 4, 617, [4], 0, 0),
  (617, .iconst 1, 618, [], 1, 0),
  (618, .iadd, 619, [], 0, 0),
  (619, .iaload, 620, [], 0, 0),
  (620, .aload_n 0, 621, [0], 0, 0),
  (621, .iload 4, 623, [4], 0, 0),
  (623, .iconst 2, 624, [], 2, 0),
  (624, .iadd, 625, [], 0, 0),
  (625, .iaload, 626, [], 0, 0),
  (626, .invokevirtual 140, 629, [144, 1064, 1065, 1066, 34, 1067], 0, 0)]
def cd195_4 : List (Nat × Row) := [(629, .istore 6, 631, [6], 0, 0),
  (631, .aload_n 2, 632, [2], 0, 0),
  (632, .invokevirtual 106, 635, [98, 917, 918, 919, 34, 920], 0, 0),
  (635, .iload 5, 637, [5], 0, 0),
  (637, .if_icmp .eq 5, 640, [642], 0, 0),
  (640, .iconst 0, 641, [], 0, 0),
  (641, .ireturn, 642, [], 0, 0),
  (642, .iload 5, 644, [5], 0, 0),
  (644, .ifCond .ne 15, 647, [659], 0, 0),
  (647, .aload_n 3, 648, [3], 0, 0),
  (648, .iconst 0, 649, [], 0, 0),
  (649, .laload, 650, [], 0, 0),
  (650, .iload 6, 652, [6], 0, 0),
  (652, .i2l, 653, [], 0, 0),
  (653, .lcmp, 654, [], 0, 0),
  (654, .ifCond .eq 5, 657, [659], 0, 0),
  (657, .iconst 0, 658, [], 0, 0),
  (658, .ireturn, 659, [], 0, 0),
  (659, .goto 1092, 662, [1751], 0, 0),
  (662, .aload_n 1, 663, [1], 0, 0),
  (663, .aload_n 0, 664, [0], 0, 0),
  (664, .iload 4, 666, [4], 0, 0),
  (666, .iconst 1, 667, [], 1, 0),
  (667, .iadd, 668, [], 0, 0),
  (668, .iaload, 669, [], 0, 0),
  (669, .aload_n 3, 670, [3], 0, 0),
  (670, .invokestatic 141, 673, [0, 178, 642, 643, 25, 644], 0, 0),
  (673, .istore 5, 675, [5], 0, 0),
  (675, .aload_n 2, 676, [2], 0, 0),
  (676, .aload_n 0, 677, [0], 0, 0),
  (677, .iload 4, 679, [4], 0, 0),
  (679, .iconst 1, 680, [], 1, 0),
  (680, .iadd, 681, [], 0, 0),
  (681, .iaload, 682, [], 0, 0),
  (682, .invokevirtual 143, 685, [145, 1068, 1069, 1070, 34, 1071], 0, 0),
  (685, .istore 6, 687, [6], 0, 0),
  (687, .aload_n 2, 688, [2], 0, 0),
  (688, .invokevirtual 106, 691, [98, 917, 918, 919, 34, 920], 0, 0),
  (691, .iload 5, 693, [5], 0, 0),
  (693, .if_icmp .eq 5, 696, [698], 0, 0),
  (696, .iconst 0, 697, [], 0, 0),
  (697, .ireturn, 698, [], 0, 0),
  (698, .iload 5, 700, [5], 0, 0),
  (700, .ifCond .ne 15, 703, [715], 0, 0),
  (703, .aload_n 3, 704, [3], 0, 0),
  (704, .iconst 0, 705, [], 0, 0),
  (705, .laload, 706, [], 0, 0),
  (706, .iload 6, 708, [6], 0, 0),
  (708, .i2l, 709, [], 0, 0),
  (709, .lcmp, 710, [], 0, 0),
  (710, .ifCond .eq 5, 713, [715], 0, 0),
  (713, .iconst 0, 714, [], 0, 0),
  (714, .ireturn, 715, [], 0, 0),
  (715, .goto 1036, 718, [1751], 0, 0),
  (718, .aload_n 1, 719, [1], 0, 0),
  (719, .aload_n 0, 720, [0], 0, 0),
  (720, .iload 4, 722, [4], 0, 0),
  (722, .iconst 1, 723, [], 1, 0),
  (723, .iadd, 724, [], 0, 0),
  (724, .iaload, 725, [], 0, 0),
  (725, .aload_n 3, 726, [3], 0, 0),
  (726, .invokestatic 144, 729, [0, 179, 650, 651, 25, 652], 0, 0),
  (729, .istore 5, 731, [5], 0, 0),
  (731, .aload_n 2, 732, [2], 0, 0),
  (732, .aload_n 0, 733, [0], 0, 0),
  (733, .iload 4, 735, [4], 0, 0),
  (735, .iconst 1, 736, [], 1, 0),
  (736, .iadd, 737, [], 0, 0),
  (737, .iaload, 738, [], 0, 0),
  (738, .invokevirtual 146, 741, [146, 1073, 1074, 1075, 34, 1076], 0, 0),
  (741, .istore 6, 743, [6], 0, 0),
  (743, .aload_n 2, 744, [2], 0, 0),
  (744, .invokevirtual 106, 747, [98, 917, 918, 919, 34, 920], 0, 0),
  (747, .iload 5, 749, [5], 0, 0),
  (749, .if_icmp .eq 5, 752, [754], 0, 0),
  (752, .iconst 0, 753, [], 0, 0),
  (753, .ireturn, 754, [], 0, 0),
  (754, .iload 5, 756, [5], 0, 0),
  (756, .ifCond .ne 15, 759, [771], 0, 0),
  (759, .aload_n 3, 760, [3], 0, 0)]
def cd195_5 : List (Nat × Row) := [(760, .iconst 0, 761, [], 0, 0),
  (761, .laload, 762, [], 0, 0),
  (762, .iload 6, 764, [6], 0, 0),
  (764, .i2l, 765, [], 0, 0),
  (765, .lcmp, 766, [], 0, 0),
  (766, .ifCond .eq 5, 769, [771], 0, 0),
  (769, .iconst 0, 770, [], 0, 0),
  (770, .ireturn, 771, [], 0, 0),
  (771, .goto 980, 774, [1751], 0, 0),
  (774, .aload_n 1, 775, [1], 0, 0),
  (775, .aload_n 0, 776, [0], 0, 0),
  (776, .iload 4, 778, [4], 0, 0),
  (778, .iconst 1, 779, [], 1, 0),
  (779, .iadd, 780, [], 0, 0),
  (780, .iaload, 781, [], 0, 0),
  (781, .aload_n 0, 782, [0], 0, 0),
  (782, .iload 4, 784, [4], 0, 0),
  (784, .iconst 2, 785, [], 2, 0),
  (785, .iadd, 786, [], 0, 0),
  (786, .iaload, 787, [], 0, 0),
  (787, .aload_n 3, 788, [3], 0, 0),
  (788, .invokestatic 147, 791, [0, 180, 687, 688, 25, 689], 0, 0),
  (791, .istore 5, 793, [5], 0, 0),
  (793, .aload_n 2, 794, [2], 0, 0),
  (794, .aload_n 0, 795, [0], 0, 0),
  (795, .iload 4, 797, [4], 0, 0),
  (797, .iconst 1, 798, [], 1, 0),
  (798, .iadd, 799, [], 0, 0),
  (799, .iaload, 800, [], 0, 0),
  (800, .aload_n 0, 801, [0], 0, 0),
  (801, .iload 4, 803, [4], 0, 0),
  (803, .iconst 2, 804, [], 2, 0),
  (804, .iadd, 805, [], 0, 0),
  (805, .iaload, 806, [], 0, 0),
  (806, .invokevirtual 149, 809, [148, 1085, 1086, 1087, 34, 1088], 0, 0),
  (809, .istore 6, 811, [6], 0, 0),
  (811, .aload_n 2, 812, [2], 0, 0),
  (812, .invokevirtual 106, 815, [98, 917, 918, 919, 34, 920], 0, 0),
  (815, .iload 5, 817, [5], 0, 0),
  (817, .if_icmp .eq 5, 820, [822], 0, 0),
  (820, .iconst 0, 821, [], 0, 0),
  (821, .ireturn, 822, [], 0, 0),
  (822, .iload 5, 824, [5], 0, 0),
  (824, .ifCond .ne 15, 827, [839], 0, 0),
  (827, .aload_n 3, 828, [3], 0, 0),
  (828, .iconst 0, 829, [], 0, 0),
  (829, .laload, 830, [], 0, 0),
  (830, .iload 6, 832, [6], 0, 0),
  (832, .i2l, 833, [], 0, 0),
  (833, .lcmp, 834, [], 0, 0),
  (834, .ifCond .eq 5, 837, [839], 0, 0),
  (837, .iconst 0, 838, [], 0, 0),
  (838, .ireturn, 839, [], 0, 0),
  (839, .goto 912, 842, [1751], 0, 0),
  (842, .aload_n 1, 843, [1], 0, 0),
  (843, .aload_n 3, 844, [3], 0, 0),
  (844, .invokestatic 150, 847, [0, 181, 697, 698, 25, 699], 0, 0),
  (847, .istore 5, 849, [5], 0, 0),
  (849, .aload_n 2, 850, [2], 0, 0),
  (850, .invokevirtual 152, 853, [149, 1093, 1094, 1095, 34, 1096], 0, 0),
  (853, .istore 6, 855, [6], 0, 0),
  (855, .aload_n 2, 856, [2], 0, 0),
  (856, .invokevirtual 106, 859, [98, 917, 918, 919, 34, 920], 0, 0),
  (859, .iload 5, 861, [5], 0, 0),
  (861, .if_icmp .eq 5, 864, [866], 0, 0),
  (864, .iconst 0, 865, [], 0, 0),
  (865, .ireturn, 866, [], 0, 0),
  (866, .iload 5, 868, [5], 0, 0),
  (868, .ifCond .ne 15, 871, [883], 0, 0),
  (871, .aload_n 3, 872, [3], 0, 0),
  (872, .iconst 0, 873, [], 0, 0),
  (873, .laload, 874, [], 0, 0),
  (874, .iload 6, 876, [6], 0, 0),
  (876, .i2l, 877, [], 0, 0),
  (877, .lcmp, 878, [], 0, 0),
  (878, .ifCond .eq 5, 881, [883], 0, 0),
  (881, .iconst 0, 882, [], 0, 0),
  (882, .ireturn, 883, [], 0, 0),
  (883, .goto 868, 886, [1751], 0, 0),
  (886, .aload_n 1, 887, [1], 0, 0)]
def cd195_6 : List (Nat × Row) := [(887, .aload_n 0, 888, [0], 0, 0),
  (888, .iload 4, 890, [4], 0, 0),
  (890, .iconst 1, 891, [], 1, 0),
  (891, .iadd, 892, [], 0, 0),
  (892, .iaload, 893, [], 0, 0),
  (893, .aload_n 0, 894, [0], 0, 0),
  (894, .iload 4, 896, [4], 0, 0),
  (896, .iconst 2, 897, [], 2, 0),
  (897, .iadd, 898, [], 0, 0),
  (898, .iaload, 899, [], 0, 0),
  (899, .aload_n 3, 900, [3], 0, 0),
  (900, .invokestatic 153, 903, [0, 182, 706, 707, 25, 708], 0, 0),
  (903, .istore 5, 905, [5], 0, 0),
  (905, .aload_n 2, 906, [2], 0, 0),
  (906, .aload_n 0, 907, [0], 0, 0),
  (907, .iload 4, 909, [4], 0, 0),
  (909, .iconst 1, 910, [], 1, 0),
  (910, .iadd, 911, [], 0, 0),
  (911, .iaload, 912, [], 0, 0),
  (912, .aload_n 0, 913, [0], 0, 0),
  (913, .iload 4, 915, [4], 0, 0),
  (915, .iconst 2, 916, [], 2, 0),
  (916, .iadd, 917, [], 0, 0),
  (917, .iaload, 918, [], 0, 0),
  (918, .invokevirtual 155, 921, [151, 1097, 1098, 1099, 34, 1100], 0, 0),
  (921, .istore 6, 923, [6], 0, 0),
  (923, .aload_n 2, 924, [2], 0, 0),
  (924, .invokevirtual 106, 927, [98, 917, 918, 919, 34, 920], 0, 0),
  (927, .iload 5, 929, [5], 0, 0),
  (929, .if_icmp .eq 5, 932, [934], 0, 0),
  (932, .iconst 0, 933, [], 0, 0),
  (933, .ireturn, 934, [], 0, 0),
  (934, .iload 5, 936, [5], 0, 0),
  (936, .ifCond .ne 15, 939, [951], 0, 0),
  (939, .aload_n 3, 940, [3], 0, 0),
  (940, .iconst 0, 941, [], 0, 0),
  (941, .laload, 942, [], 0, 0),
  (942, .iload 6, 944, [6], 0, 0),
  (944, .i2l, 945, [], 0, 0),
  (945, .lcmp, 946, [], 0, 0),
  (946, .ifCond .eq 5, 949, [951], 0, 0),
  (949, .iconst 0, 950, [], 0, 0),
  (950, .ireturn, 951, [], 0, 0),
  (951, .goto 800, 954, [1751], 0, 0),
  (954, .aload_n 1, 955, [1], 0, 0),
  (955, .aload_n 0, 956, [0], 0, 0),
  (956, .iload 4, 958, [4], 0, 0),
  (958, .iconst 1, 959, [], 1, 0),
  (959, .iadd, 960, [], 0, 0),
  (960, .iaload, 961, [], 0, 0),
  (961, .aload_n 0, 962, [0], 0, 0),
  (962, .iload 4, 964, [4], 0, 0),
  (964, .iconst 2, 965, [], 2, 0),
  (965, .iadd, 966, [], 0, 0),
  (966, .iaload, 967, [], 0, 0),
  (967, .aload_n 3, 968, [3], 0, 0),
  (968, .invokestatic 156, 971, [0, 183, 718, 719, 25, 720], 0, 0),
  (971, .istore 5, 973, [5], 0, 0),
  (973, .aload_n 2, 974, [2], 0, 0),
  (974, .aload_n 0, 975, [0], 0, 0),
  (975, .iload 4, 977, [4], 0, 0),
  (977, .iconst 1, 978, [], 1, 0),
  (978, .iadd, 979, [], 0, 0),
  (979, .iaload, 980, [], 0, 0),
  (980, .aload_n 0, 981, [0], 0, 0),
  (981, .iload 4, 983, [4], 0, 0),
  (983, .iconst 2, 984, [], 2, 0),
  (984, .iadd, 985, [], 0, 0),
  (985, .iaload, 986, [], 0, 0),
  (986, .invokevirtual 158, 989, [152, 1104, 1105, 1106, 34, 1107], 0, 0),
  (989, .istore 6, 991, [6], 0, 0),
  (991, .aload_n 2, 992, [2], 0, 0),
  (992, .invokevirtual 106, 995, [98, 917, 918, 919, 34, 920], 0, 0),
  (995, .iload 5, 997, [5], 0, 0),
  (997, .if_icmp .eq 5, 1000, [1002], 0, 0),
  (1000, .iconst 0, 1001, [], 0, 0),
  (1001, .ireturn, 1002, [], 0, 0),
  (1002, .iload 5, 1004, [5], 0, 0),
  (1004, .ifCond .ne 15, 1007, [1019], 0, 0),
  (1007, .aload_n 3, 1008, [3], 0, 0)]
def cd195_7 : List (Nat × Row) := [(1008, .iconst 0, 1009, [], 0, 0),
  (1009, .laload, 1010, [], 0, 0),
  (1010, .iload 6, 1012, [6], 0, 0),
  (1012, .i2l, 1013, [], 0, 0),
  (1013, .lcmp, 1014, [], 0, 0),
  (1014, .ifCond .eq 5, 1017, [1019], 0, 0),
  (1017, .iconst 0, 1018, [], 0, 0),
  (1018, .ireturn, 1019, [], 0, 0),
  (1019, .goto 732, 1022, [1751], 0, 0),
  (1022, .aload_n 1, 1023, [1], 0, 0),
  (1023, .aload_n 0, 1024, [0], 0, 0),
  (1024, .iload 4, 1026, [4], 0, 0),
  (1026, .iconst 1, 1027, [], 1, 0),
  (1027, .iadd, 1028, [], 0, 0),
  (1028, .iaload, 1029, [], 0, 0),
  (1029, .aload_n 3, 1030, [3], 0, 0),
  (1030, .invokestatic 159, 1033, [0, 184, 728, 729, 25, 730], 0, 0),
  (1033, .istore 5, 1035, [5], 0, 0),
  (1035, .aload_n 2, 1036, [2], 0, 0),
  (1036, .aload_n 0, 1037, [0], 0, 0),
  (1037, .iload 4, 1039, [4], 0, 0),
  (1039, .iconst 1, 1040, [], 1, 0),
  (1040, .iadd, 1041, [], 0, 0),
  (1041, .iaload, 1042, [], 0, 0),
  (1042, .invokevirtual 161, 1045, [154, 1108, 1109, 1110, 34, 1111], 0, 0),
  (1045, .istore 6, 1047, [6], 0, 0),
  (1047, .aload_n 2, 1048, [2], 0, 0),
  (1048, .invokevirtual 106, 1051, [98, 917, 918, 919, 34, 920], 0, 0),
  (1051, .iload 5, 1053, [5], 0, 0),
  (1053, .if_icmp .eq 5, 1056, [1058], 0, 0),
  (1056, .iconst 0, 1057, [], 0, 0),
  (1057, .ireturn, 1058, [], 0, 0),
  (1058, .iload 5, 1060, [5], 0, 0),
  (1060, .ifCond .ne 15, 1063, [1075], 0, 0),
  (1063, .aload_n 3, 1064, [3], 0, 0),
  (1064, .iconst 0, 1065, [], 0, 0),
  (1065, .laload, 1066, [], 0, 0),
  (1066, .iload 6, 1068, [6], 0, 0),
  (1068, .i2l, 1069, [], 0, 0),
  (1069, .lcmp, 1070, [], 0, 0),
  (1070, .ifCond .eq 5, 1073, [1075], 0, 0),
  (1073, .iconst 0, 1074, [], 0, 0),
  (1074, .ireturn, 1075, [], 0, 0),
  (1075, .goto 676, 1078, [1751], 0, 0),
  (1078, .aload_n 1, 1079, [1], 0, 0),
  (1079, .aload_n 0, 1080, [0], 0, 0),
  (1080, .iload 4, 1082, [4], 0, 0),
  (1082, .iconst 1, 1083, [], 1, 0),
  (1083, .iadd, 1084, [], 0, 0),
  (1084, .iaload, 1085, [], 0, 0),
  (1085, .aload_n 3, 1086, [3], 0, 0),
  (1086, .invokestatic 162, 1089, [0, 185, 739, 740, 25, 741], 0, 0),
  (1089, .istore 5, 1091, [5], 0, 0),
  (1091, .aload_n 2, 1092, [2], 0, 0),
  (1092, .aload_n 0, 1093, [0], 0, 0),
  (1093, .iload 4, 1095, [4], 0, 0),
  (1095, .iconst 1, 1096, [], 1, 0),
  (1096, .iadd, 1097, [], 0, 0),
  (1097, .iaload, 1098, [], 0, 0),
  (1098, .invokevirtual 164, 1101, [155, 1116, 1117, 1118, 34, 1119], 0, 0),
  (1101, .istore 6, 1103, [6], 0, 0),
  (1103, .aload_n 2, 1104, [2], 0, 0),
  (1104, .invokevirtual 106, 1107, [98, 917, 918, 919, 34, 920], 0, 0),
  (1107, .iload 5, 1109, [5], 0, 0),
  (1109, .if_icmp .eq 5, 1112, [1114], 0, 0),
  (1112, .iconst 0, 1113, [], 0, 0),
  (1113, .ireturn, 1114, [], 0, 0),
  (1114, .iload 5, 1116, [5], 0, 0),
  (1116, .ifCond .ne 15, 1119, [1131], 0, 0),
  (1119, .aload_n 3, 1120, [3], 0, 0),
  (1120, .iconst 0, 1121, [], 0, 0),
  (1121, .laload, 1122, [], 0, 0),
  (1122, .iload 6, 1124, [6], 0, 0),
  (1124, .i2l, 1125, [], 0, 0),
  (1125, .lcmp, 1126, [], 0, 0),
  (1126, .ifCond .eq 5, 1129, [1131], 0, 0),
  (1129, .iconst 0, 1130, [], 0, 0),
  (1130, .ireturn, 1131, [], 0, 0),
  (1131, .goto 620, 1134, [1751], 0, 0),
  (1134, .aload_n 1, 1135, [1], 0, 0)]
def cd195_8 : List (Nat × Row) := [(1135, .aload_n 3, 1136, [3], 0, 0),
  (1136, .invokestatic 165, 1139, [0, 186, 749, 750, 25, 751], 0, 0),
  (1139, .istore 5, 1141, [5], 0, 0),
  (1141, .aload_n 2, 1142, [2], 0, 0),
  (1142, .invokevirtual 167, 1145, [156, 1120, 1121, 1122, 34, 1123], 0, 0),
  (1145, .istore 6, 1147, [6], 0, 0),
  (1147, .aload_n 2, 1148, [2], 0, 0),
  (1148, .invokevirtual 106, 1151, [98, 917, 918, 919, 34, 920], 0, 0),
  (1151, .iload 5, 1153, [5], 0, 0),
  (1153, .if_icmp .eq 5, 1156, [1158], 0, 0),
  (1156, .iconst 0, 1157, [], 0, 0),
  (1157, .ireturn, 1158, [], 0, 0),
  (1158, .iload 5, 1160, [5], 0, 0),
  (1160, .ifCond .ne 15, 1163, [1175], 0, 0),
  (1163, .aload_n 3, 1164, [3], 0, 0),
  (1164, .iconst 0, 1165, [], 0, 0),
  (1165, .laload, 1166, [], 0, 0),
  (1166, .iload 6, 1168, [6], 0, 0),
  (1168, .i2l, 1169, [], 0, 0),
  (1169, .lcmp, 1170, [], 0, 0),
  (1170, .ifCond .eq 5, 1173, [1175], 0, 0),
  (1173, .iconst 0, 1174, [], 0, 0),
  (1174, .ireturn, 1175, [], 0, 0),
  (1175, .goto 576, 1178, [1751], 0, 0),
  (1178, .aload_n 1, 1179, [1], 0, 0),
  (1179, .aload_n 0, 1180, [0], 0, 0),
  (1180, .iload 4, 1182, [4], 0, 0),
  (1182, .iconst 1, 1183, [], 1, 0),
  (1183, .iadd, 1184, [], 0, 0),
  (1184, .iaload, 1185, [], 0, 0),
  (1185, .aload_n 0, 1186, [0], 0, 0),
  (1186, .iload 4, 1188, [4], 0, 0),
  (1188, .iconst 2, 1189, [], 2, 0),
  (1189, .iadd, 1190, [], 0, 0),
  (1190, .iaload, 1191, [], 0, 0),
  (1191, .aload_n 3, 1192, [3], 0, 0),
  (1192, .invokestatic 168, 1195, [0, 187, 765, 766, 25, 767], 0, 0),
  (1195, .istore 5, 1197, [5], 0, 0),
  (1197, .aload_n 2, 1198, [2], 0, 0),
  (1198, .aload_n 0, 1199, [0], 0, 0),
  (1199, .iload 4, 1201, [4], 0, 0),
  (1201, .iconst 1, 1202, [], 1, 0),
  (1202, .iadd, 1203, [], 0, 0),
  (1203, .iaload, 1204, [], 0, 0),
  (1204, .aload_n 0, 1205, [0], 0, 0),
  (1205, .iload 4, 1207, [4], 0, 0),
  (1207, .iconst 2, 1208, [], 2, 0),
  (1208, .iadd, 1209, [], 0, 0),
  (1209, .iaload, 1210, [], 0, 0),
  (1210, .invokevirtual 170, 1213, [159, 1124, 1125, 1126, 34, 1127], 0, 0),
  (1213, .istore 6, 1215, [6], 0, 0),
  (1215, .aload_n 2, 1216, [2], 0, 0),
  (1216, .invokevirtual 106, 1219, [98, 917, 918, 919, 34, 920], 0, 0),
  (1219, .iload 5, 1221, [5], 0, 0),
  (1221, .if_icmp .eq 5, 1224, [1226], 0, 0),
  (1224, .iconst 0, 1225, [], 0, 0),
  (1225, .ireturn, 1226, [], 0, 0),
  (1226, .iload 5, 1228, [5], 0, 0),
  (1228, .ifCond .ne 15, 1231, [1243], 0, 0),
  (1231, .aload_n 3, 1232, [3], 0, 0),
  (1232, .iconst 0, 1233, [], 0, 0),
  (1233, .laload, 1234, [], 0, 0),
  (1234, .iload 6, 1236, [6], 0, 0),
  (1236, .i2l, 1237, [], 0, 0),
  (1237, .lcmp, 1238, [], 0, 0),
  (1238, .ifCond .eq 5, 1241, [1243], 0, 0),
  (1241, .iconst 0, 1242, [], 0, 0),
  (1242, .ireturn, 1243, [], 0, 0),
  (1243, .goto 508, 1246, [1751], 0, 0),
  (1246, .aload_n 1, 1247, [1], 0, 0),
  (1247, .aload_n 3, 1248, [3], 0, 0),
  (1248, .invokestatic 171, 1251, [0, 188, 779, 780, 25, 781], 0, 0),
  (1251, .istore 5, 1253, [5], 0, 0),
  (1253, .aload_n 2, 1254, [2], 0, 0),
  (1254, .invokevirtual 173, 1257, [160, 1140, 1141, 1142, 34, 1143], 0, 0),
  (1257, .istore 6, 1259, [6], 0, 0),
  (1259, .aload_n 2, 1260, [2], 0, 0),
  (1260, .invokevirtual 106, 1263, [98, 917, 918, 919, 34, 920], 0, 0),
  (1263, .iload 5, 1265, [5], 0, 0),
  (1265, .if_icmp .eq 5, 1268, [1270], 0, 0)]
def cd195_9 : List (Nat × Row) := [(1268, .iconst 0, 1269, [], 0, 0),
  (1269, .ireturn, 1270, [], 0, 0),
  (1270, .iload 5, 1272, [5], 0, 0),
  (1272, .ifCond .ne 15, 1275, [1287], 0, 0),
  (1275, .aload_n 3, 1276, [3], 0, 0),
  (1276, .iconst 0, 1277, [], 0, 0),
  (1277, .laload, 1278, [], 0, 0),
  (1278, .iload 6, 1280, [6], 0, 0),
  (1280, .i2l, 1281, [], 0, 0),
  (1281, .lcmp, 1282, [], 0, 0),
  (1282, .ifCond .eq 5, 1285, [1287], 0, 0),
  (1285, .iconst 0, 1286, [], 0, 0),
  (1286, .ireturn, 1287, [], 0, 0),
  (1287, .goto 464, 1290, [1751], 0, 0),
  (1290, .aload_n 1, 1291, [1], 0, 0),
  (1291, .aload_n 0, 1292, [0], 0, 0),
  (1292, .iload 4, 1294, [4], 0, 0),
  (1294, .iconst 1, 1295, [], 1, 0),
  (1295, .iadd, 1296, [], 0, 0),
  (1296, .iaload, 1297, [], 0, 0),
  (1297, .aload_n 3, 1298, [3], 0, 0),
  (1298, .invokestatic 174, 1301, [0, 189, 787, 788, 25, 789], 0, 0),
  (1301, .istore 5, 1303, [5], 0, 0),
  (1303, .aload_n 2, 1304, [2], 0, 0),
  (1304, .aload_n 0, 1305, [0], 0, 0),
  (1305, .iload 4, 1307, [4], 0, 0),
  (1307, .iconst 1, 1308, [], 1, 0),
  (1308, .iadd, 1309, [], 0, 0),
  (1309, .iaload, 1310, [], 0, 0),
  (1310, .invokevirtual 176, 1313, [161, 1144, 1145, 1146, 34, 1147], 0, 0),
  (1313, .istore 6, 1315, [6], 0, 0),
  (1315, .aload_n 2, 1316, [2], 0, 0),
  (1316, .invokevirtual 106, 1319, [98, 917, 918, 919, 34, 920], 0, 0),
  (1319, .iload 5, 1321, [5], 0, 0),
  (1321, .if_icmp .eq 5, 1324, [1326], 0, 0),
  (1324, .iconst 0, 1325, [], 0, 0),
  (1325, .ireturn, 1326, [], 0, 0),
  (1326, .iload 5, 1328, [5], 0, 0),
  (1328, .ifCond .ne 15, 1331, [1343], 0, 0),
  (1331, .aload_n 3, 1332, [3], 0, 0),
  (1332, .iconst 0, 1333, [], 0, 0),
  (1333, .laload, 1334, [], 0, 0),
  (1334, .iload 6, 1336, [6], 0, 0),
  (1336, .i2l, 1337, [], 0, 0),
  (1337, .lcmp, 1338, [], 0, 0),
  (1338, .ifCond .eq 5, 1341, [1343], 0, 0),
  (1341, .iconst 0, 1342, [], 0, 0),
  (1342, .ireturn, 1343, [], 0, 0),
  (1343, .goto 408, 1346, [1751], 0, 0),
  (1346, .aload_n 1, 1347, [1], 0, 0),
  (1347, .aload_n 0, 1348, [0], 0, 0),
  (1348, .iload 4, 1350, [4], 0, 0),
  (1350, .iconst 1, 1351, [], 1, 0),
  (1351, .iadd, 1352, [], 0, 0),
  (1352, .iaload, 1353, [], 0, 0),
  (1353, .aload_n 0, 1354, [0], 0, 0),
  (1354, .iload 4, 1356, [4], 0, 0),
  (1356, .iconst 2, 1357, [], 2, 0),
  (1357, .iadd, 1358, [], 0, 0),
  (1358, .iaload, 1359, [], 0, 0),
  (1359, .aload_n 0, 1360, [0], 0, 0),
  (1360, .iload 4, 1362, [4], 0, 0),
  (1362, .iconst 3, 1363, [], 3, 0),
  (1363, .iadd, 1364, [], 0, 0),
  (1364, .iaload, 1365, [], 0, 0),
  (1365, .aload_n 3, 1366, [3], 0, 0),
  (1366, .invokestatic 177, 1369, [0, 190, 798, 799, 25, 800], 0, 0),
  (1369, .istore 5, 1371, [5], 0, 0),
  (1371, .aload_n 2, 1372, [2], 0, 0),
  (1372, .aload_n 0, 1373, [0], 0, 0),
  (1373, .iload 4, 1375, [4], 0, 0),
  (1375, .iconst 1, 1376, [], 1, 0),
  (1376, .iadd, 1377, [], 0, 0),
  (1377, .iaload, 1378, [], 0, 0),
  (1378, .aload_n 0, 1379, [0], 0, 0),
  (1379, .iload 4, 1381, [4], 0, 0),
  (1381, .iconst 2, 1382, [], 2, 0),
  (1382, .iadd, 1383, [], 0, 0),
  (1383, .iaload, 1384, [], 0, 0),
  (1384, .aload_n 0, 1385, [0], 0, 0)]
def cd195_10 : List (Nat × Row) := [(1385, .iload 4, 1387, [4], 0, 0),
  (1387, .iconst 3, 1388, [], 3, 0),
  (1388, .iadd, 1389, [], 0, 0),
  (1389, .iaload, 1390, [], 0, 0),
  (1390, .invokevirtual 179, 1393, [162, 1148, 1149, 1150, 34, 1151], 0, 0),
  (1393, .istore 6, 1395, [6], 0, 0),
  (1395, .aload_n 2, 1396, [2], 0, 0),
  (1396, .invokevirtual 106, 1399, [98, 917, 918, 919, 34, 920], 0, 0),
  (1399, .iload 5, 1401, [5], 0, 0),
  (1401, .if_icmp .eq 5, 1404, [1406], 0, 0),
  (1404, .iconst 0, 1405, [], 0, 0),
  (1405, .ireturn, 1406, [], 0, 0),
  (1406, .iload 5, 1408, [5], 0, 0),
  (1408, .ifCond .ne 15, 1411, [1423], 0, 0),
  (1411, .aload_n 3, 1412, [3], 0, 0),
  (1412, .iconst 0, 1413, [], 0, 0),
  (1413, .laload, 1414, [], 0, 0),
  (1414, .iload 6, 1416, [6], 0, 0),
  (1416, .i2l, 1417, [], 0, 0),
  (1417, .lcmp, 1418, [], 0, 0),
  (1418, .ifCond .eq 5, 1421, [1423], 0, 0),
  (1421, .iconst 0, 1422, [], 0, 0),
  (1422, .ireturn, 1423, [], 0, 0),
  (1423, .goto 328, 1426, [1751], 0, 0),
  (1426, .aload_n 1, 1427, [1], 0, 0),
  (1427, .invokevirtual 180, 1430, [86, 310, 311, 312, 26, 313], 0, 0),
  (1430, .aload_n 2, 1431, [2], 0, 0),
  (1431, .invokevirtual 183, 1434, [163, 1153, 1154, 1155, 34, 1156], 0, 0),
  (1434, .if_icmp .eq 317, 1437, [1751], 0, 0),
  (1437, .iconst 0, 1438, [], 0, 0),
  (1438, .ireturn, 1439, [], 0, 0),
  (1439, .aload_n 1, 1440, [1], 0, 0),
  (1440, .aload_n 0, 1441, [0], 0, 0),
  (1441, .iload 4, 1443, [4], 0, 0),
  (1443, .iconst 1, 1444, [], 1, 0),
  (1444, .iadd, 1445, [], 0, 0),
  (1445, .iaload, 1446, [], 0, 0),
  (1446, .aload_n 0, 1447, [0], 0, 0),
  (1447, .iload 4, 1449, [4], 0, 0),
  (1449, .iconst 2, 1450, [], 2, 0),
  (1450, .iadd, 1451, [], 0, 0),
  (1451, .iaload, 1452, [], 0, 0),
  (1452, .i2l, 1453, [], 0, 0),
  (1453, .bipush 32, 1455, [], 32, 0),
  (1455, .lshl, 1456, [], 0, 0),
  (1456, .aload_n 0, 1457, [0], 0, 0),
  (1457, .iload 4, 1459, [4], 0, 0),
  (1459, .iconst 3, 1460, [], 3, 0),
  (1460, .iadd, 1461, [], 0, 0),
  (1461, .iaload, 1462, [], 0, 0),
  (1462, .i2l, 1463, [], 0, 0),
  (1463, .ldc2_w 184, 1466, [1189], 0, 4294967295),
  (1466, .land, 1467, [], 0, 0),
  (1467, .lor, 1468, [], 0, 0),
  (1468, .aload_n 3, 1469, [3], 0, 0),
  (1469, .invokestatic 186, 1472, [0, 191, 806, 807, 25, 808], 0, 0),
  (1472, .istore 5, 1474, [5], 0, 0),
  (1474, .aload_n 2, 1475, [2], 0, 0),
  (1475, .aload_n 0, 1476, [0], 0, 0),
  (1476, .iload 4, 1478, [4], 0, 0),
  (1478, .iconst 1, 1479, [], 1, 0),
  (1479, .iadd, 1480, [], 0, 0),
  (1480, .iaload, 1481, [], 0, 0),
  (1481, .aload_n 0, 1482, [0], 0, 0),
  (1482, .iload 4, 1484, [4], 0, 0),
  (1484, .iconst 2, 1485, [], 2, 0),
  (1485, .iadd, 1486, [], 0, 0),
  (1486, .iaload, 1487, [], 0, 0),
  (1487, .i2l, 1488, [], 0, 0),
  (1488, .bipush 32, 1490, [], 32, 0),
  (1490, .lshl, 1491, [], 0, 0),
  (1491, .aload_n 0, 1492, [0], 0, 0),
  (1492, .iload 4, 1494, [4], 0, 0),
  (1494, .iconst 3, 1495, [], 3, 0),
  (1495, .iadd, 1496, [], 0, 0),
  (1496, .iaload, 1497, [], 0, 0),
  (1497, .i2l, 1498, [], 0, 0),
  (1498, .ldc2_w 184, 1501, [1189], 0, 4294967295),
  (1501, .land, 1502, [], 0, 0),
  (1502, .lor, 1503, [], 0, 0)]
def cd195_11 : List (Nat × Row) := [(1503, .invokevirtual 189, 1506, [165, 1157, 1158, 1159, 34, 1160], 0, 0),
  (1506, .istore 6, 1508, [6], 0, 0),
  (1508, .aload_n 2, 1509, [2], 0, 0),
  (1509, .invokevirtual 106, 1512, [98, 917, 918, 919, 34, 920], 0, 0),
  (1512, .iload 5, 1514, [5], 0, 0),
  (1514, .if_icmp .eq 5, 1517, [1519], 0, 0),
  (1517, .iconst 0, 1518, [], 0, 0),
  (1518, .ireturn, 1519, [], 0, 0),
  (1519, .iload 5, 1521, [5], 0, 0),
  (1521, .ifCond .ne 15, 1524, [1536], 0, 0),
  (1524, .aload_n 3, 1525, [3], 0, 0),
  (1525, .iconst 0, 1526, [], 0, 0),
  (1526, .laload, 1527, [], 0, 0),
  (1527, .iload 6, 1529, [6], 0, 0),
  (1529, .i2l, 1530, [], 0, 0),
  (1530, .lcmp, 1531, [], 0, 0),
  (1531, .ifCond .eq 5, 1534, [1536], 0, 0),
  (1534, .iconst 0, 1535, [], 0, 0),
  (1535, .ireturn, 1536, [], 0, 0),
  (1536, .goto 215, 1539, [1751], 0, 0),
  (1539, .aload_n 1, 1540, [1], 0, 0),
  (1540, .aload_n 0, 1541, [0], 0, 0),
  (1541, .iload 4, 1543, [4], 0, 0),
  (1543, .iconst 1, 1544, [], 1, 0),
  (1544, .iadd, 1545, [], 0, 0),
  (1545, .iaload, 1546, [], 0, 0),
  (1546, .i2l, 1547, [], 0, 0),
  (1547, .bipush 32, 1549, [], 32, 0),
  (1549, .lshl, 1550, [], 0, 0),
  (1550, .aload_n 0, 1551, [0], 0, 0),
  (1551, .iload 4, 1553, [4], 0, 0),
  (1553, .iconst 2, 1554, [], 2, 0),
  (1554, .iadd, 1555, [], 0, 0),
  (1555, .iaload, 1556, [], 0, 0),
  (1556, .i2l, 1557, [], 0, 0),
  (1557, .ldc2_w 184, 1560, [1189], 0, 4294967295),
  (1560, .land, 1561, [], 0, 0),
  (1561, .lor, 1562, [], 0, 0),
  (1562, .aload_n 0, 1563, [0], 0, 0),
  (1563, .iload 4, 1565, [4], 0, 0),
  (1565, .iconst 3, 1566, [], 3, 0),
  (1566, .iadd, 1567, [], 0, 0),
  (1567, .iaload, 1568, [], 0, 0),
  (1568, .aload_n 3, 1569, [3], 0, 0),
  (1569, .invokestatic 190, 1572, [0, 192, 828, 829, 25, 830], 0, 0),
  (1572, .istore 5, 1574, [5], 0, 0),
  (1574, .aload_n 2, 1575, [2], 0, 0),
  (1575, .aload_n 0, 1576, [0], 0, 0),
  (1576, .iload 4, 1578, [4], 0, 0),
  (1578, .iconst 1, 1579, [], 1, 0),
  (1579, .iadd, 1580, [], 0, 0),
  (1580, .iaload, 1581, [], 0, 0),
  (1581, .i2l, 1582, [], 0, 0),
  (1582, .bipush 32, 1584, [], 32, 0),
  (1584, .lshl, 1585, [], 0, 0),
  (1585, .aload_n 0, 1586, [0], 0, 0),
  (1586, .iload 4, 1588, [4], 0, 0),
  (1588, .iconst 2, 1589, [], 2, 0),
  (1589, .iadd, 1590, [], 0, 0),
  (1590, .iaload, 1591, [], 0, 0),
  (1591, .i2l, 1592, [], 0, 0),
  (1592, .ldc2_w 184, 1595, [1189], 0, 4294967295),
  (1595, .land, 1596, [], 0, 0),
  (1596, .lor, 1597, [], 0, 0),
  (1597, .aload_n 0, 1598, [0], 0, 0),
  (1598, .iload 4, 1600, [4], 0, 0),
  (1600, .iconst 3, 1601, [], 3, 0),
  (1601, .iadd, 1602, [], 0, 0),
  (1602, .iaload, 1603, [], 0, 0),
  (1603, .invokevirtual 193, 1606, [167, 1171, 1172, 1173, 34, 1174], 0, 0),
  (1606, .istore 6, 1608, [6], 0, 0),
  (1608, .aload_n 2, 1609, [2], 0, 0),
  (1609, .invokevirtual 106, 1612, [98, 917, 918, 919, 34, 920], 0, 0),
  (1612, .iload 5, 1614, [5], 0, 0),
  (1614, .if_icmp .eq 5, 1617, [1619], 0, 0),
  (1617, .iconst 0, 1618, [], 0, 0),
  (1618, .ireturn, 1619, [], 0, 0),
  (1619, .iload 5, 1621, [5], 0, 0),
  (1621, .ifCond .ne 15, 1624, [1636], 0, 0),
  (1624, .aload_n 3, 1625, [3], 0, 0)]
def cd195_12 : List (Nat × Row) := [(1625, .iconst 0, 1626, [], 0, 0),
  (1626, .laload, 1627, [], 0, 0),
  (1627, .iload 6, 1629, [6], 0, 0),
  (1629, .i2l, 1630, [], 0, 0),
  (1630, .lcmp, 1631, [], 0, 0),
  (1631, .ifCond .eq 5, 1634, [1636], 0, 0),
  (1634, .iconst 0, 1635, [], 0, 0),
  (1635, .ireturn, 1636, [], 0, 0),
  (1636, .goto 115, 1639, [1751], 0, 0),
  (1639, .aload_n 1, 1640, [1], 0, 0),
  (1640, .aload_n 0, 1641, [0], 0, 0),
  (1641, .iload 4, 1643, [4], 0, 0),
  (1643, .iconst 1, 1644, [], 1, 0),
  (1644, .iadd, 1645, [], 0, 0),
  (1645, .iaload, 1646, [], 0, 0),
  (1646, .aload_n 3, 1647, [3], 0, 0),
  (1647, .invokestatic 194, 1650, [0, 193, 842, 843, 25, 844], 0, 0),
  (1650, .istore 5, 1652, [5], 0, 0),
  (1652, .aload_n 2, 1653, [2], 0, 0),
  (1653, .aload_n 0, 1654, [0], 0, 0),
  (1654, .iload 4, 1656, [4], 0, 0),
  (1656, .iconst 1, 1657, [], 1, 0),
  (1657, .iadd, 1658, [], 0, 0),
  (1658, .iaload, 1659, [], 0, 0),
  (1659, .invokevirtual 196, 1662, [168, 1181, 1182, 1183, 34, 1184], 0, 0),
  (1662, .istore 6, 1664, [6], 0, 0),
  (1664, .aload_n 2, 1665, [2], 0, 0),
  (1665, .invokevirtual 106, 1668, [98, 917, 918, 919, 34, 920], 0, 0),
  (1668, .iload 5, 1670, [5], 0, 0),
  (1670, .if_icmp .eq 5, 1673, [1675], 0, 0),
  (1673, .iconst 0, 1674, [], 0, 0),
  (1674, .ireturn, 1675, [], 0, 0),
  (1675, .iload 5, 1677, [5], 0, 0),
  (1677, .ifCond .ne 15, 1680, [1692], 0, 0),
  (1680, .aload_n 3, 1681, [3], 0, 0),
  (1681, .iconst 0, 1682, [], 0, 0),
  (1682, .laload, 1683, [], 0, 0),
  (1683, .iload 6, 1685, [6], 0, 0),
  (1685, .i2l, 1686, [], 0, 0),
  (1686, .lcmp, 1687, [], 0, 0),
  (1687, .ifCond .eq 5, 1690, [1692], 0, 0),
  (1690, .iconst 0, 1691, [], 0, 0),
  (1691, .ireturn, 1692, [], 0, 0),
  (1692, .goto 59, 1695, [1751], 0, 0),
  (1695, .aload_n 1, 1696, [1], 0, 0),
  (1696, .aload_n 0, 1697, [0], 0, 0),
  (1697, .iload 4, 1699, [4], 0, 0),
  (1699, .iconst 1, 1700, [], 1, 0),
  (1700, .iadd, 1701, [], 0, 0),
  (1701, .iaload, 1702, [], 0, 0),
  (1702, .aload_n 3, 1703, [3], 0, 0),
  (1703, .invokestatic 197, 1706, [0, 194, 851, 852, 25, 853], 0, 0),
  (1706, .istore 5, 1708, [5], 0, 0),
  (1708, .aload_n 2, 1709, [2], 0, 0),
  (1709, .aload_n 0, 1710, [0], 0, 0),
  (1710, .iload 4, 1712, [4], 0, 0),
  (1712, .iconst 1, 1713, [], 1, 0),
  (1713, .iadd, 1714, [], 0, 0),
  (1714, .iaload, 1715, [], 0, 0),
  (1715, .invokevirtual 199, 1718, [169, 1185, 1186, 1187, 34, 1188], 0, 0),
  (1718, .istore 6, 1720, [6], 0, 0),
  (1720, .aload_n 2, 1721, [2], 0, 0),
  (1721, .invokevirtual 106, 1724, [98, 917, 918, 919, 34, 920], 0, 0),
  (1724, .iload 5, 1726, [5], 0, 0),
  (1726, .if_icmp .eq 5, 1729, [1731], 0, 0),
  (1729, .iconst 0, 1730, [], 0, 0),
  (1730, .ireturn, 1731, [], 0, 0),
  (1731, .iload 5, 1733, [5], 0, 0),
  (1733, .ifCond .ne 15, 1736, [1748], 0, 0),
  (1736, .aload_n 3, 1737, [3], 0, 0),
  (1737, .iconst 0, 1738, [], 0, 0),
  (1738, .laload, 1739, [], 0, 0),
  (1739, .iload 6, 1741, [6], 0, 0),
  (1741, .i2l, 1742, [], 0, 0),
  (1742, .lcmp, 1743, [], 0, 0),
  (1743, .ifCond .eq 5, 1746, [1748], 0, 0),
  (1746, .iconst 0, 1747, [], 0, 0),
  (1747, .ireturn, 1748, [], 0, 0),
  (1748, .goto 3, 1751, [1751], 0, 0),
  (1751, .iinc 4 4, 1754, [4], 4, 0)]
def cd195_13 : List (Nat × Row) := [(1754, .goto (-1731), 1757, [23], 0, 0),
  (1757, .iconst 1, 1758, [], 1, 0),
  (1758, .ireturn, 1759, [], 0, 0)]
def cd195 : List (Nat × Row) := cd195_0 ++ (cd195_1 ++ (cd195_2 ++ (cd195_3 ++ (cd195_4 ++ (cd195_5 ++ (cd195_6 ++ (cd195_7 ++ (cd195_8 ++ (cd195_9 ++ (cd195_10 ++ (cd195_11 ++ (cd195_12 ++ (cd195_13)))))))))))))
def cdT : Nat → List (Nat × Row)
  | 0 => cd0
  | 1 => cd1
  | 2 => cd2
  | 3 => cd3
  | 4 => cd4
  | 5 => cd5
  | 6 => cd6
  | 7 => cd7
  | 8 => cd8
  | 9 => cd9
  | 10 => cd10
  | 11 => cd11
  | 12 => cd12
  | 13 => cd13
  | 14 => cd14
  | 15 => cd15
  | 16 => cd16
  | 17 => cd17
  | 18 => cd18
  | 19 => cd19
  | 20 => cd20
  | 21 => cd21
  | 22 => cd22
  | 23 => cd23
  | 24 => cd24
  | 25 => cd25
  | 26 => cd26
  | 27 => cd27
  | 28 => cd28
  | 29 => cd29
  | 30 => cd30
  | 31 => cd31
  | 32 => cd32
  | 33 => cd33
  | 34 => cd34
  | 35 => cd35
  | 36 => cd36
  | 37 => cd37
  | 38 => cd38
  | 39 => cd39
  | 40 => cd40
  | 41 => cd41
  | 42 => cd42
  | 43 => cd43
  | 44 => cd44
  | 45 => cd45
  | 46 => cd46
  | 47 => cd47
  | 48 => cd48
  | 49 => cd49
  | 50 => cd50
  | 51 => cd51
  | 52 => cd52
  | 53 => cd53
  | 54 => cd54
  | 55 => cd55
  | 56 => cd56
  | 57 => cd57
  | 58 => cd58
  | 59 => cd59
  | 60 => cd60
  | 61 => cd61
  | 62 => cd62
  | 63 => cd63
  | 64 => cd64
  | 65 => cd65
  | 66 => cd66
  | 67 => cd67
  | 68 => cd68
  | 69 => cd69
  | 70 => cd70
  | 71 => cd71
  | 72 => cd72
  | 73 => cd73
  | 74 => cd74
  | 75 => cd75
  | 76 => cd76
  | 77 => cd77
  | 78 => cd78
  | 79 => cd79
  | 80 => cd80
  | 81 => cd81
  | 82 => cd82
  | 83 => cd83
  | 84 => cd84
  | 85 => cd85
  | 86 => cd86
  | 87 => cd87
  | 88 => cd88
  | 89 => cd89
  | 90 => cd90
  | 91 => cd91
  | 92 => cd92
  | 93 => cd93
  | 94 => cd94
  | 95 => cd95
  | 96 => cd96
  | 97 => cd97
  | 98 => cd98
  | 99 => cd99
  | 100 => cd100
  | 101 => cd101
  | 102 => cd102
  | 103 => cd103
  | 104 => cd104
  | 105 => cd105
  | 106 => cd106
  | 107 => cd107
  | 108 => cd108
  | 109 => cd109
  | 110 => cd110
  | 111 => cd111
  | 112 => cd112
  | 113 => cd113
  | 114 => cd114
  | 115 => cd115
  | 116 => cd116
  | 117 => cd117
  | 118 => cd118
  | 119 => cd119
  | 120 => cd120
  | 121 => cd121
  | 122 => cd122
  | 123 => cd123
  | 124 => cd124
  | 125 => cd125
  | 126 => cd126
  | 127 => cd127
  | 128 => cd128
  | 129 => cd129
  | 130 => cd130
  | 131 => cd131
  | 132 => cd132
  | 133 => cd133
  | 134 => cd134
  | 135 => cd135
  | 136 => cd136
  | 137 => cd137
  | 138 => cd138
  | 139 => cd139
  | 140 => cd140
  | 141 => cd141
  | 142 => cd142
  | 143 => cd143
  | 144 => cd144
  | 145 => cd145
  | 146 => cd146
  | 147 => cd147
  | 148 => cd148
  | 149 => cd149
  | 150 => cd150
  | 151 => cd151
  | 152 => cd152
  | 153 => cd153
  | 154 => cd154
  | 155 => cd155
  | 156 => cd156
  | 157 => cd157
  | 158 => cd158
  | 159 => cd159
  | 160 => cd160
  | 161 => cd161
  | 162 => cd162
  | 163 => cd163
  | 164 => cd164
  | 165 => cd165
  | 166 => cd166
  | 167 => cd167
  | 168 => cd168
  | 169 => cd169
  | 170 => cd170
  | 171 => cd171
  | 172 => cd172
  | 173 => cd173
  | 174 => cd174
  | 175 => cd175
  | 176 => cd176
  | 177 => cd177
  | 178 => cd178
  | 179 => cd179
  | 180 => cd180
  | 181 => cd181
  | 182 => cd182
  | 183 => cd183
  | 184 => cd184
  | 185 => cd185
  | 186 => cd186
  | 187 => cd187
  | 188 => cd188
  | 189 => cd189
  | 190 => cd190
  | 191 => cd191
  | 192 => cd192
  | 193 => cd193
  | 194 => cd194
  | 195 => cd195
  | _ => []
def yN : Nat → MethodName
  | 0 => yX0_init
  | 1 => yX0_makeNew
  | 2 => yX0_becomeLike
  | 3 => yX0_hasSlot
  | 4 => yX0_slotBehind
  | 5 => yX0_numberIn
  | 6 => yX0_wearOf
  | 7 => yX0_isStuck
  | 8 => yX0_wearOfSlot
  | 9 => yX0_spokenBy
  | 10 => yX0_readableIn
  | 11 => yX0_write
  | 12 => yX0_renew
  | 13 => yX0_wearGap
  | 14 => yX0_slotOfGreatest
  | 15 => yX1_init
  | 16 => yX1_remember
  | 17 => yX1_takeBack
  | 18 => yX1_forgetAll
  | 19 => yX2_init
  | 20 => yX2_makeNew
  | 21 => yX2_becomeLike
  | 22 => yX2_tellOfDriving
  | 23 => yX2_tellOfMemory
  | 24 => yX2_driveOn
  | 25 => yX2_driveTillDead
  | 26 => yX2_storeDistance
  | 27 => yX2_writeSlot
  | 28 => yX2_leftByCut
  | 29 => yX2_losePower
  | 30 => yX2_switchOn
  | 31 => yX2_setCut
  | 32 => yX2_noteService
  | 33 => yX2_canReplace
  | 34 => yX2_obey
  | 35 => yX2_obeyGroup
  | 36 => yX2_takeStep
  | 37 => yX2_playRound
  | 38 => yX3_init
  | 39 => yX3_becomeLike
  | 40 => yX3_codeAt
  | 41 => yX3_notedAt
  | 42 => yX3_placeOf
  | 43 => yX3_hasRoomFor
  | 44 => yX3_addLast
  | 45 => yX3_takeOut
  | 46 => yX3_placeOfSmallest
  | 47 => yX3_put
  | 48 => yX4_init
  | 49 => yX4_isFull
  | 50 => yX4_emptyAll
  | 51 => yX4_put
  | 52 => yX4_take
  | 53 => yX5_init
  | 54 => yX5_add
  | 55 => yX5_empty
  | 56 => yX5_errorAt
  | 57 => yX5_isAtEnd
  | 58 => yX5_readHead
  | 59 => yX5_readCommand
  | 60 => yX5_readNumber
  | 61 => yX5_signHere
  | 62 => yX6_init
  | 63 => yX6_append
  | 64 => yX6_clearText
  | 65 => yX6_errorPosition
  | 66 => yX6_load
  | 67 => yX6_about
  | 68 => yX6_cell
  | 69 => yX6_says
  | 70 => yX6_whySilent
  | 71 => yX6_share
  | 72 => yX6_serviceAt
  | 73 => yX6_lastCut
  | 74 => yX6_drive
  | 75 => yX6_cut
  | 76 => yX6_start
  | 77 => yX6_service
  | 78 => yX6_forget
  | 79 => yX6_setStep
  | 80 => yX6_replace
  | 81 => yX6_undo
  | 82 => yX6_afterCut
  | 83 => yX6_worstLoss
  | 84 => yX6_lasts
  | 85 => yX6_dueIn
  | 86 => yX6_dueFirst
  | 87 => yX6_runScript
  | 88 => yX6_simulate
  | 89 => yX6_save
  | 90 => yX6_restore
  | 91 => yX6_toldAfterCut
  | 92 => yX6_isTenths
  | 93 => yX6_isCut
  | 94 => yX6_isService
  | 95 => yX6_isStep
  | 96 => yX6_lessGroups
  | 97 => yX7_init
  | 98 => yX7_thrown
  | 99 => yX7_refused
  | 100 => yX7_in
  | 101 => yX7_copy
  | 102 => yX7_tenTo
  | 103 => yX7_clean
  | 104 => yX7_note
  | 105 => yX7_begin
  | 106 => yX7_at
  | 107 => yX7_saysOf
  | 108 => yX7_isStuck
  | 109 => yX7_wearOf
  | 110 => yX7_wearApart
  | 111 => yX7_writes
  | 112 => yX7_store
  | 113 => yX7_go
  | 114 => yX7_powerUp
  | 115 => yX7_serviceOf
  | 116 => yX7_drop
  | 117 => yX7_canServe
  | 118 => yX7_serve
  | 119 => yX7_canReplace
  | 120 => yX7_renew
  | 121 => yX7_append
  | 122 => yX7_clearText
  | 123 => yX7_isNext
  | 124 => yX7_accept
  | 125 => yX7_digit
  | 126 => yX7_two
  | 127 => yX7_three
  | 128 => yX7_head
  | 129 => yX7_command
  | 130 => yX7_readText
  | 131 => yX7_doDrive
  | 132 => yX7_doCut
  | 133 => yX7_doStart
  | 134 => yX7_doServe
  | 135 => yX7_doReplace
  | 136 => yX7_errorPosition
  | 137 => yX7_load
  | 138 => yX7_about
  | 139 => yX7_isSlot
  | 140 => yX7_cell
  | 141 => yX7_says
  | 142 => yX7_whySilent
  | 143 => yX7_share
  | 144 => yX7_serviceAt
  | 145 => yX7_lastCut
  | 146 => yX7_drive
  | 147 => yX7_isCut
  | 148 => yX7_cut
  | 149 => yX7_start
  | 150 => yX7_isService
  | 151 => yX7_service
  | 152 => yX7_forget
  | 153 => yX7_isStep
  | 154 => yX7_setStep
  | 155 => yX7_replace
  | 156 => yX7_undo
  | 157 => yX7_isBroken
  | 158 => yX7_found
  | 159 => yX7_afterCut
  | 160 => yX7_worstLoss
  | 161 => yX7_lasts
  | 162 => yX7_dueIn
  | 163 => yX7_dueFirst
  | 164 => yX7_does
  | 165 => yX7_runScript
  | 166 => yX7_round
  | 167 => yX7_simulate
  | 168 => yX7_save
  | 169 => yX7_restore
  | 170 => yL_append
  | 171 => yL_load
  | 172 => yL_about
  | 173 => yL_cell
  | 174 => yL_says
  | 175 => yL_whySilent
  | 176 => yL_share
  | 177 => yL_serviceAt
  | 178 => yL_lastCut
  | 179 => yL_drive
  | 180 => yL_cut
  | 181 => yL_start
  | 182 => yL_service
  | 183 => yL_forget
  | 184 => yL_setStep
  | 185 => yL_replace
  | 186 => yL_undo
  | 187 => yL_afterCut
  | 188 => yL_worstLoss
  | 189 => yL_lasts
  | 190 => yL_dueIn
  | 191 => yL_runScript
  | 192 => yL_simulate
  | 193 => yL_save
  | 194 => yL_restore
  | 195 => yL_law
  | _ => ⟨"", "", ""⟩
def bC : Nat → ByteArray
  | 0 => cX0_init
  | 1 => cX0_makeNew
  | 2 => cX0_becomeLike
  | 3 => cX0_hasSlot
  | 4 => cX0_slotBehind
  | 5 => cX0_numberIn
  | 6 => cX0_wearOf
  | 7 => cX0_isStuck
  | 8 => cX0_wearOfSlot
  | 9 => cX0_spokenBy
  | 10 => cX0_readableIn
  | 11 => cX0_write
  | 12 => cX0_renew
  | 13 => cX0_wearGap
  | 14 => cX0_slotOfGreatest
  | 15 => cX1_init
  | 16 => cX1_remember
  | 17 => cX1_takeBack
  | 18 => cX1_forgetAll
  | 19 => cX2_init
  | 20 => cX2_makeNew
  | 21 => cX2_becomeLike
  | 22 => cX2_tellOfDriving
  | 23 => cX2_tellOfMemory
  | 24 => cX2_driveOn
  | 25 => cX2_driveTillDead
  | 26 => cX2_storeDistance
  | 27 => cX2_writeSlot
  | 28 => cX2_leftByCut
  | 29 => cX2_losePower
  | 30 => cX2_switchOn
  | 31 => cX2_setCut
  | 32 => cX2_noteService
  | 33 => cX2_canReplace
  | 34 => cX2_obey
  | 35 => cX2_obeyGroup
  | 36 => cX2_takeStep
  | 37 => cX2_playRound
  | 38 => cX3_init
  | 39 => cX3_becomeLike
  | 40 => cX3_codeAt
  | 41 => cX3_notedAt
  | 42 => cX3_placeOf
  | 43 => cX3_hasRoomFor
  | 44 => cX3_addLast
  | 45 => cX3_takeOut
  | 46 => cX3_placeOfSmallest
  | 47 => cX3_put
  | 48 => cX4_init
  | 49 => cX4_isFull
  | 50 => cX4_emptyAll
  | 51 => cX4_put
  | 52 => cX4_take
  | 53 => cX5_init
  | 54 => cX5_add
  | 55 => cX5_empty
  | 56 => cX5_errorAt
  | 57 => cX5_isAtEnd
  | 58 => cX5_readHead
  | 59 => cX5_readCommand
  | 60 => cX5_readNumber
  | 61 => cX5_signHere
  | 62 => cX6_init
  | 63 => cX6_append
  | 64 => cX6_clearText
  | 65 => cX6_errorPosition
  | 66 => cX6_load
  | 67 => cX6_about
  | 68 => cX6_cell
  | 69 => cX6_says
  | 70 => cX6_whySilent
  | 71 => cX6_share
  | 72 => cX6_serviceAt
  | 73 => cX6_lastCut
  | 74 => cX6_drive
  | 75 => cX6_cut
  | 76 => cX6_start
  | 77 => cX6_service
  | 78 => cX6_forget
  | 79 => cX6_setStep
  | 80 => cX6_replace
  | 81 => cX6_undo
  | 82 => cX6_afterCut
  | 83 => cX6_worstLoss
  | 84 => cX6_lasts
  | 85 => cX6_dueIn
  | 86 => cX6_dueFirst
  | 87 => cX6_runScript
  | 88 => cX6_simulate
  | 89 => cX6_save
  | 90 => cX6_restore
  | 91 => cX6_toldAfterCut
  | 92 => cX6_isTenths
  | 93 => cX6_isCut
  | 94 => cX6_isService
  | 95 => cX6_isStep
  | 96 => cX6_lessGroups
  | 97 => cX7_init
  | 98 => cX7_thrown
  | 99 => cX7_refused
  | 100 => cX7_in
  | 101 => cX7_copy
  | 102 => cX7_tenTo
  | 103 => cX7_clean
  | 104 => cX7_note
  | 105 => cX7_begin
  | 106 => cX7_at
  | 107 => cX7_saysOf
  | 108 => cX7_isStuck
  | 109 => cX7_wearOf
  | 110 => cX7_wearApart
  | 111 => cX7_writes
  | 112 => cX7_store
  | 113 => cX7_go
  | 114 => cX7_powerUp
  | 115 => cX7_serviceOf
  | 116 => cX7_drop
  | 117 => cX7_canServe
  | 118 => cX7_serve
  | 119 => cX7_canReplace
  | 120 => cX7_renew
  | 121 => cX7_append
  | 122 => cX7_clearText
  | 123 => cX7_isNext
  | 124 => cX7_accept
  | 125 => cX7_digit
  | 126 => cX7_two
  | 127 => cX7_three
  | 128 => cX7_head
  | 129 => cX7_command
  | 130 => cX7_readText
  | 131 => cX7_doDrive
  | 132 => cX7_doCut
  | 133 => cX7_doStart
  | 134 => cX7_doServe
  | 135 => cX7_doReplace
  | 136 => cX7_errorPosition
  | 137 => cX7_load
  | 138 => cX7_about
  | 139 => cX7_isSlot
  | 140 => cX7_cell
  | 141 => cX7_says
  | 142 => cX7_whySilent
  | 143 => cX7_share
  | 144 => cX7_serviceAt
  | 145 => cX7_lastCut
  | 146 => cX7_drive
  | 147 => cX7_isCut
  | 148 => cX7_cut
  | 149 => cX7_start
  | 150 => cX7_isService
  | 151 => cX7_service
  | 152 => cX7_forget
  | 153 => cX7_isStep
  | 154 => cX7_setStep
  | 155 => cX7_replace
  | 156 => cX7_undo
  | 157 => cX7_isBroken
  | 158 => cX7_found
  | 159 => cX7_afterCut
  | 160 => cX7_worstLoss
  | 161 => cX7_lasts
  | 162 => cX7_dueIn
  | 163 => cX7_dueFirst
  | 164 => cX7_does
  | 165 => cX7_runScript
  | 166 => cX7_round
  | 167 => cX7_simulate
  | 168 => cX7_save
  | 169 => cX7_restore
  | 170 => cL_append
  | 171 => cL_load
  | 172 => cL_about
  | 173 => cL_cell
  | 174 => cL_says
  | 175 => cL_whySilent
  | 176 => cL_share
  | 177 => cL_serviceAt
  | 178 => cL_lastCut
  | 179 => cL_drive
  | 180 => cL_cut
  | 181 => cL_start
  | 182 => cL_service
  | 183 => cL_forget
  | 184 => cL_setStep
  | 185 => cL_replace
  | 186 => cL_undo
  | 187 => cL_afterCut
  | 188 => cL_worstLoss
  | 189 => cL_lasts
  | 190 => cL_dueIn
  | 191 => cL_runScript
  | 192 => cL_simulate
  | 193 => cL_save
  | 194 => cL_restore
  | 195 => cL_law
  | _ => ⟨#[]⟩
def mL : Nat → Nat
  | 0 => 1
  | 1 => 4
  | 2 => 2
  | 3 => 2
  | 4 => 2
  | 5 => 4
  | 6 => 4
  | 7 => 3
  | 8 => 2
  | 9 => 5
  | 10 => 4
  | 11 => 5
  | 12 => 5
  | 13 => 5
  | 14 => 4
  | 15 => 1
  | 16 => 2
  | 17 => 2
  | 18 => 1
  | 19 => 1
  | 20 => 4
  | 21 => 2
  | 22 => 2
  | 23 => 2
  | 24 => 3
  | 25 => 3
  | 26 => 3
  | 27 => 4
  | 28 => 2
  | 29 => 4
  | 30 => 2
  | 31 => 4
  | 32 => 5
  | 33 => 2
  | 34 => 4
  | 35 => 5
  | 36 => 2
  | 37 => 2
  | 38 => 1
  | 39 => 2
  | 40 => 2
  | 41 => 2
  | 42 => 4
  | 43 => 3
  | 44 => 4
  | 45 => 4
  | 46 => 3
  | 47 => 4
  | 48 => 4
  | 49 => 2
  | 50 => 2
  | 51 => 4
  | 52 => 4
  | 53 => 1
  | 54 => 2
  | 55 => 2
  | 56 => 2
  | 57 => 1
  | 58 => 1
  | 59 => 1
  | 60 => 9
  | 61 => 1
  | 62 => 1
  | 63 => 2
  | 64 => 1
  | 65 => 1
  | 66 => 3
  | 67 => 2
  | 68 => 4
  | 69 => 2
  | 70 => 2
  | 71 => 4
  | 72 => 4
  | 73 => 2
  | 74 => 2
  | 75 => 3
  | 76 => 1
  | 77 => 3
  | 78 => 4
  | 79 => 3
  | 80 => 2
  | 81 => 1
  | 82 => 3
  | 83 => 4
  | 84 => 2
  | 85 => 5
  | 86 => 2
  | 87 => 6
  | 88 => 7
  | 89 => 2
  | 90 => 2
  | 91 => 3
  | 92 => 1
  | 93 => 2
  | 94 => 2
  | 95 => 1
  | 96 => 6
  | 97 => 1
  | 98 => 1
  | 99 => 2
  | 100 => 6
  | 101 => 6
  | 102 => 4
  | 103 => 5
  | 104 => 1
  | 105 => 1
  | 106 => 2
  | 107 => 5
  | 108 => 3
  | 109 => 4
  | 110 => 5
  | 111 => 8
  | 112 => 4
  | 113 => 3
  | 114 => 3
  | 115 => 5
  | 116 => 3
  | 117 => 3
  | 118 => 5
  | 119 => 2
  | 120 => 4
  | 121 => 2
  | 122 => 2
  | 123 => 2
  | 124 => 2
  | 125 => 4
  | 126 => 6
  | 127 => 4
  | 128 => 1
  | 129 => 4
  | 130 => 1
  | 131 => 2
  | 132 => 3
  | 133 => 1
  | 134 => 3
  | 135 => 2
  | 136 => 1
  | 137 => 2
  | 138 => 3
  | 139 => 2
  | 140 => 4
  | 141 => 2
  | 142 => 4
  | 143 => 4
  | 144 => 4
  | 145 => 2
  | 146 => 2
  | 147 => 2
  | 148 => 4
  | 149 => 1
  | 150 => 2
  | 151 => 3
  | 152 => 5
  | 153 => 1
  | 154 => 3
  | 155 => 2
  | 156 => 1
  | 157 => 1
  | 158 => 3
  | 159 => 3
  | 160 => 4
  | 161 => 3
  | 162 => 6
  | 163 => 3
  | 164 => 8
  | 165 => 6
  | 166 => 2
  | 167 => 8
  | 168 => 2
  | 169 => 2
  | 170 => 4
  | 171 => 3
  | 172 => 4
  | 173 => 6
  | 174 => 4
  | 175 => 4
  | 176 => 4
  | 177 => 5
  | 178 => 4
  | 179 => 4
  | 180 => 5
  | 181 => 3
  | 182 => 5
  | 183 => 5
  | 184 => 4
  | 185 => 4
  | 186 => 3
  | 187 => 5
  | 188 => 3
  | 189 => 4
  | 190 => 6
  | 191 => 6
  | 192 => 6
  | 193 => 4
  | 194 => 4
  | 195 => 7
  | _ => 0
def rT : Nat → Option FieldType
  | 0 => none
  | 1 => none
  | 2 => none
  | 3 => (some .boolean)
  | 4 => (some .int)
  | 5 => (some .int)
  | 6 => (some .int)
  | 7 => (some .boolean)
  | 8 => (some .int)
  | 9 => (some .int)
  | 10 => (some .int)
  | 11 => none
  | 12 => (some .int)
  | 13 => (some .int)
  | 14 => (some .int)
  | 15 => none
  | 16 => none
  | 17 => (some .int)
  | 18 => none
  | 19 => none
  | 20 => none
  | 21 => none
  | 22 => (some .int)
  | 23 => (some .int)
  | 24 => (some .int)
  | 25 => (some .int)
  | 26 => none
  | 27 => none
  | 28 => (some .int)
  | 29 => none
  | 30 => (some .int)
  | 31 => (some .int)
  | 32 => (some .int)
  | 33 => (some .boolean)
  | 34 => (some .boolean)
  | 35 => (some .boolean)
  | 36 => (some .boolean)
  | 37 => none
  | 38 => none
  | 39 => none
  | 40 => (some .int)
  | 41 => (some .int)
  | 42 => (some .int)
  | 43 => (some .boolean)
  | 44 => none
  | 45 => (some .int)
  | 46 => (some .int)
  | 47 => none
  | 48 => none
  | 49 => (some .boolean)
  | 50 => none
  | 51 => none
  | 52 => none
  | 53 => none
  | 54 => (some .int)
  | 55 => (some .int)
  | 56 => (some .int)
  | 57 => (some .boolean)
  | 58 => (some .boolean)
  | 59 => (some .boolean)
  | 60 => (some .int)
  | 61 => (some .int)
  | 62 => none
  | 63 => (some .int)
  | 64 => (some .int)
  | 65 => (some .int)
  | 66 => (some .int)
  | 67 => (some .int)
  | 68 => (some .int)
  | 69 => (some .int)
  | 70 => (some .int)
  | 71 => (some .int)
  | 72 => (some .int)
  | 73 => (some .int)
  | 74 => (some .int)
  | 75 => (some .int)
  | 76 => (some .int)
  | 77 => (some .int)
  | 78 => (some .int)
  | 79 => (some .int)
  | 80 => (some .int)
  | 81 => (some .int)
  | 82 => (some .int)
  | 83 => (some .int)
  | 84 => (some .int)
  | 85 => (some .int)
  | 86 => (some .int)
  | 87 => (some .int)
  | 88 => (some .int)
  | 89 => (some .int)
  | 90 => (some .int)
  | 91 => (some .int)
  | 92 => (some .boolean)
  | 93 => (some .boolean)
  | 94 => (some .boolean)
  | 95 => (some .boolean)
  | 96 => (some .long)
  | 97 => none
  | 98 => (some .int)
  | 99 => (some .boolean)
  | 100 => (some .boolean)
  | 101 => none
  | 102 => (some .long)
  | 103 => none
  | 104 => none
  | 105 => none
  | 106 => (some .int)
  | 107 => (some .int)
  | 108 => (some .boolean)
  | 109 => (some .int)
  | 110 => (some .int)
  | 111 => (some .boolean)
  | 112 => none
  | 113 => (some .int)
  | 114 => none
  | 115 => (some .int)
  | 116 => none
  | 117 => (some .boolean)
  | 118 => (some .int)
  | 119 => (some .boolean)
  | 120 => (some .int)
  | 121 => (some .int)
  | 122 => (some .int)
  | 123 => (some .boolean)
  | 124 => none
  | 125 => (some .int)
  | 126 => (some .int)
  | 127 => (some .int)
  | 128 => none
  | 129 => (some .boolean)
  | 130 => (some .int)
  | 131 => (some .boolean)
  | 132 => (some .boolean)
  | 133 => (some .boolean)
  | 134 => (some .boolean)
  | 135 => (some .boolean)
  | 136 => (some .int)
  | 137 => (some .int)
  | 138 => (some .int)
  | 139 => (some .boolean)
  | 140 => (some .int)
  | 141 => (some .int)
  | 142 => (some .int)
  | 143 => (some .int)
  | 144 => (some .int)
  | 145 => (some .int)
  | 146 => (some .int)
  | 147 => (some .boolean)
  | 148 => (some .int)
  | 149 => (some .int)
  | 150 => (some .boolean)
  | 151 => (some .int)
  | 152 => (some .int)
  | 153 => (some .boolean)
  | 154 => (some .int)
  | 155 => (some .int)
  | 156 => (some .int)
  | 157 => (some .boolean)
  | 158 => (some .int)
  | 159 => (some .int)
  | 160 => (some .int)
  | 161 => (some .int)
  | 162 => (some .int)
  | 163 => (some .int)
  | 164 => (some .boolean)
  | 165 => (some .int)
  | 166 => none
  | 167 => (some .int)
  | 168 => (some .int)
  | 169 => (some .int)
  | 170 => (some .int)
  | 171 => (some .int)
  | 172 => (some .int)
  | 173 => (some .int)
  | 174 => (some .int)
  | 175 => (some .int)
  | 176 => (some .int)
  | 177 => (some .int)
  | 178 => (some .int)
  | 179 => (some .int)
  | 180 => (some .int)
  | 181 => (some .int)
  | 182 => (some .int)
  | 183 => (some .int)
  | 184 => (some .int)
  | 185 => (some .int)
  | 186 => (some .int)
  | 187 => (some .int)
  | 188 => (some .int)
  | 189 => (some .int)
  | 190 => (some .int)
  | 191 => (some .int)
  | 192 => (some .int)
  | 193 => (some .int)
  | 194 => (some .int)
  | 195 => (some .boolean)
  | _ => none
def nA : Nat → Nat
  | 0 => 0
  | 1 => 2
  | 2 => 1
  | 3 => 1
  | 4 => 1
  | 5 => 2
  | 6 => 2
  | 7 => 2
  | 8 => 1
  | 9 => 1
  | 10 => 1
  | 11 => 3
  | 12 => 1
  | 13 => 0
  | 14 => 0
  | 15 => 0
  | 16 => 1
  | 17 => 1
  | 18 => 0
  | 19 => 0
  | 20 => 3
  | 21 => 1
  | 22 => 1
  | 23 => 1
  | 24 => 1
  | 25 => 0
  | 26 => 0
  | 27 => 2
  | 28 => 1
  | 29 => 3
  | 30 => 0
  | 31 => 2
  | 32 => 2
  | 33 => 1
  | 34 => 3
  | 35 => 1
  | 36 => 1
  | 37 => 1
  | 38 => 0
  | 39 => 1
  | 40 => 1
  | 41 => 1
  | 42 => 2
  | 43 => 2
  | 44 => 3
  | 45 => 1
  | 46 => 0
  | 47 => 3
  | 48 => 1
  | 49 => 1
  | 50 => 0
  | 51 => 2
  | 52 => 2
  | 53 => 0
  | 54 => 1
  | 55 => 0
  | 56 => 0
  | 57 => 0
  | 58 => 0
  | 59 => 0
  | 60 => 3
  | 61 => 0
  | 62 => 0
  | 63 => 1
  | 64 => 0
  | 65 => 0
  | 66 => 0
  | 67 => 1
  | 68 => 3
  | 69 => 1
  | 70 => 1
  | 71 => 1
  | 72 => 2
  | 73 => 1
  | 74 => 1
  | 75 => 2
  | 76 => 0
  | 77 => 2
  | 78 => 2
  | 79 => 1
  | 80 => 1
  | 81 => 0
  | 82 => 2
  | 83 => 0
  | 84 => 1
  | 85 => 3
  | 86 => 0
  | 87 => 2
  | 88 => 2
  | 89 => 1
  | 90 => 1
  | 91 => 2
  | 92 => 1
  | 93 => 2
  | 94 => 2
  | 95 => 1
  | 96 => 2
  | 97 => 0
  | 98 => 0
  | 99 => 1
  | 100 => 3
  | 101 => 5
  | 102 => 1
  | 103 => 4
  | 104 => 0
  | 105 => 0
  | 106 => 2
  | 107 => 2
  | 108 => 3
  | 109 => 2
  | 110 => 1
  | 111 => 5
  | 112 => 1
  | 113 => 2
  | 114 => 1
  | 115 => 3
  | 116 => 2
  | 117 => 3
  | 118 => 3
  | 119 => 2
  | 120 => 2
  | 121 => 1
  | 122 => 0
  | 123 => 1
  | 124 => 1
  | 125 => 2
  | 126 => 2
  | 127 => 1
  | 128 => 0
  | 129 => 1
  | 130 => 0
  | 131 => 2
  | 132 => 3
  | 133 => 1
  | 134 => 3
  | 135 => 2
  | 136 => 0
  | 137 => 0
  | 138 => 1
  | 139 => 1
  | 140 => 3
  | 141 => 1
  | 142 => 1
  | 143 => 1
  | 144 => 2
  | 145 => 1
  | 146 => 1
  | 147 => 2
  | 148 => 2
  | 149 => 0
  | 150 => 2
  | 151 => 2
  | 152 => 2
  | 153 => 1
  | 154 => 1
  | 155 => 1
  | 156 => 0
  | 157 => 0
  | 158 => 2
  | 159 => 2
  | 160 => 0
  | 161 => 1
  | 162 => 3
  | 163 => 0
  | 164 => 1
  | 165 => 2
  | 166 => 1
  | 167 => 2
  | 168 => 1
  | 169 => 1
  | 170 => 3
  | 171 => 2
  | 172 => 3
  | 173 => 5
  | 174 => 3
  | 175 => 3
  | 176 => 3
  | 177 => 4
  | 178 => 3
  | 179 => 3
  | 180 => 4
  | 181 => 2
  | 182 => 4
  | 183 => 4
  | 184 => 3
  | 185 => 3
  | 186 => 2
  | 187 => 4
  | 188 => 2
  | 189 => 3
  | 190 => 5
  | 191 => 4
  | 192 => 4
  | 193 => 3
  | 194 => 3
  | 195 => 1
  | _ => 0
def hhT : Nat → List (Nat × Nat × Nat × Nat)
  | 170 => [(0, 9, 12, 13), (0, 9, 15, 15)] 
  | 171 => [(0, 8, 11, 15)] 
  | 172 => [(0, 9, 12, 13)] 
  | 173 => [(0, 12, 15, 28), (0, 12, 19, 13)] 
  | 174 => [(0, 9, 12, 28)] 
  | 175 => [(0, 9, 12, 28)] 
  | 176 => [(0, 9, 12, 28)] 
  | 177 => [(0, 10, 13, 13)] 
  | 178 => [(0, 9, 12, 13)] 
  | 179 => [(0, 9, 12, 13), (0, 9, 15, 15)] 
  | 180 => [(0, 10, 13, 13), (0, 10, 17, 15)] 
  | 181 => [(0, 8, 11, 15)] 
  | 182 => [(0, 10, 13, 13), (0, 10, 17, 15)] 
  | 183 => [(0, 10, 13, 13), (0, 10, 17, 15)] 
  | 184 => [(0, 9, 12, 13)] 
  | 185 => [(0, 9, 12, 28), (0, 9, 15, 15)] 
  | 186 => [(0, 8, 11, 15)] 
  | 187 => [(0, 10, 13, 13), (0, 10, 17, 15)] 
  | 188 => [(0, 8, 11, 15)] 
  | 189 => [(0, 9, 12, 13), (0, 9, 15, 15)] 
  | 190 => [(0, 12, 15, 13), (0, 12, 19, 15)] 
  | 191 => [(0, 11, 14, 13)] 
  | 192 => [(0, 11, 14, 13)] 
  | 193 => [(0, 9, 12, 28)] 
  | 194 => [(0, 9, 12, 28), (0, 9, 15, 15)] 
  | _ => []
def kO : Nat → Nat
  | 0 => 0
  | 1 => 0
  | 2 => 0
  | 3 => 0
  | 4 => 0
  | 5 => 0
  | 6 => 0
  | 7 => 0
  | 8 => 0
  | 9 => 0
  | 10 => 0
  | 11 => 0
  | 12 => 0
  | 13 => 0
  | 14 => 0
  | 15 => 1
  | 16 => 1
  | 17 => 1
  | 18 => 1
  | 19 => 2
  | 20 => 2
  | 21 => 2
  | 22 => 2
  | 23 => 2
  | 24 => 2
  | 25 => 2
  | 26 => 2
  | 27 => 2
  | 28 => 2
  | 29 => 2
  | 30 => 2
  | 31 => 2
  | 32 => 2
  | 33 => 2
  | 34 => 2
  | 35 => 2
  | 36 => 2
  | 37 => 2
  | 38 => 3
  | 39 => 3
  | 40 => 3
  | 41 => 3
  | 42 => 3
  | 43 => 3
  | 44 => 3
  | 45 => 3
  | 46 => 3
  | 47 => 3
  | 48 => 4
  | 49 => 4
  | 50 => 4
  | 51 => 4
  | 52 => 4
  | 53 => 5
  | 54 => 5
  | 55 => 5
  | 56 => 5
  | 57 => 5
  | 58 => 5
  | 59 => 5
  | 60 => 5
  | 61 => 5
  | 62 => 6
  | 63 => 6
  | 64 => 6
  | 65 => 6
  | 66 => 6
  | 67 => 6
  | 68 => 6
  | 69 => 6
  | 70 => 6
  | 71 => 6
  | 72 => 6
  | 73 => 6
  | 74 => 6
  | 75 => 6
  | 76 => 6
  | 77 => 6
  | 78 => 6
  | 79 => 6
  | 80 => 6
  | 81 => 6
  | 82 => 6
  | 83 => 6
  | 84 => 6
  | 85 => 6
  | 86 => 6
  | 87 => 6
  | 88 => 6
  | 89 => 6
  | 90 => 6
  | 91 => 6
  | 92 => 6
  | 93 => 6
  | 94 => 6
  | 95 => 6
  | 96 => 6
  | 97 => 7
  | 98 => 7
  | 99 => 7
  | 100 => 7
  | 101 => 7
  | 102 => 7
  | 103 => 7
  | 104 => 7
  | 105 => 7
  | 106 => 7
  | 107 => 7
  | 108 => 7
  | 109 => 7
  | 110 => 7
  | 111 => 7
  | 112 => 7
  | 113 => 7
  | 114 => 7
  | 115 => 7
  | 116 => 7
  | 117 => 7
  | 118 => 7
  | 119 => 7
  | 120 => 7
  | 121 => 7
  | 122 => 7
  | 123 => 7
  | 124 => 7
  | 125 => 7
  | 126 => 7
  | 127 => 7
  | 128 => 7
  | 129 => 7
  | 130 => 7
  | 131 => 7
  | 132 => 7
  | 133 => 7
  | 134 => 7
  | 135 => 7
  | 136 => 7
  | 137 => 7
  | 138 => 7
  | 139 => 7
  | 140 => 7
  | 141 => 7
  | 142 => 7
  | 143 => 7
  | 144 => 7
  | 145 => 7
  | 146 => 7
  | 147 => 7
  | 148 => 7
  | 149 => 7
  | 150 => 7
  | 151 => 7
  | 152 => 7
  | 153 => 7
  | 154 => 7
  | 155 => 7
  | 156 => 7
  | 157 => 7
  | 158 => 7
  | 159 => 7
  | 160 => 7
  | 161 => 7
  | 162 => 7
  | 163 => 7
  | 164 => 7
  | 165 => 7
  | 166 => 7
  | 167 => 7
  | 168 => 7
  | 169 => 7
  | _ => 99
/-- cells and slots a call may make -/
def mkT : List (Nat × Nat × Nat) := [(0, 2, 72), (15, 101, 1710), (19, 6, 103), (38, 2, 24), (48, 100, 1708), (53, 1, 90), (62, 220, 3800), (63, 1, 6), (66, 1, 6), (67, 1, 6), (68, 1, 6), (69, 1, 6), (70, 1, 6), (71, 1, 6), (72, 1, 6), (73, 1, 6), (74, 1, 6), (75, 1, 6), (76, 1, 6), (77, 1, 6), (78, 1, 6), (79, 1, 6), (80, 1, 6), (81, 1, 6), (82, 1, 6), (83, 1, 6), (84, 1, 6), (85, 1, 6), (87, 1, 6), (88, 1, 6), (89, 1, 6), (90, 1, 6), (97, 6, 2144), (170, 1, 6), (171, 1, 6), (172, 1, 6), (173, 1, 6), (174, 1, 6), (175, 1, 6), (176, 1, 6), (177, 1, 6), (178, 1, 6), (179, 1, 6), (180, 1, 6), (181, 1, 6), (182, 1, 6), (183, 1, 6), (184, 1, 6), (185, 1, 6), (186, 1, 6), (187, 1, 6), (188, 1, 6), (189, 1, 6), (190, 1, 6), (191, 1, 6), (192, 1, 6), (193, 1, 6), (194, 1, 6)]
def hxT : List (Nat × Nat × Nat × List (String × Nat)) := [(170, 0, 9, [("java/lang/IllegalArgumentException", 12), ("java/lang/IllegalStateException", 15)]),
  (171, 0, 8, [("java/lang/IllegalStateException", 11)]),
  (172, 0, 9, [("java/lang/IllegalArgumentException", 12)]),
  (173, 0, 12, [("java/lang/IndexOutOfBoundsException", 15), ("java/lang/IllegalArgumentException", 19)]),
  (174, 0, 9, [("java/lang/IndexOutOfBoundsException", 12)]),
  (175, 0, 9, [("java/lang/IndexOutOfBoundsException", 12)]),
  (176, 0, 9, [("java/lang/IndexOutOfBoundsException", 12)]),
  (177, 0, 10, [("java/lang/IllegalArgumentException", 13)]),
  (178, 0, 9, [("java/lang/IllegalArgumentException", 12)]),
  (179, 0, 9, [("java/lang/IllegalArgumentException", 12), ("java/lang/IllegalStateException", 15)]),
  (180, 0, 10, [("java/lang/IllegalArgumentException", 13), ("java/lang/IllegalStateException", 17)]),
  (181, 0, 8, [("java/lang/IllegalStateException", 11)]),
  (182, 0, 10, [("java/lang/IllegalArgumentException", 13), ("java/lang/IllegalStateException", 17)]),
  (183, 0, 10, [("java/lang/IllegalArgumentException", 13), ("java/lang/IllegalStateException", 17)]),
  (184, 0, 9, [("java/lang/IllegalArgumentException", 12)]),
  (185, 0, 9, [("java/lang/IndexOutOfBoundsException", 12), ("java/lang/IllegalStateException", 15)]),
  (186, 0, 8, [("java/lang/IllegalStateException", 11)]),
  (187, 0, 10, [("java/lang/IllegalArgumentException", 13), ("java/lang/IllegalStateException", 17)]),
  (188, 0, 8, [("java/lang/IllegalStateException", 11)]),
  (189, 0, 9, [("java/lang/IllegalArgumentException", 12), ("java/lang/IllegalStateException", 15)]),
  (190, 0, 12, [("java/lang/IllegalArgumentException", 15), ("java/lang/IllegalStateException", 19)]),
  (191, 0, 11, [("java/lang/IllegalArgumentException", 14)]),
  (192, 0, 11, [("java/lang/IllegalArgumentException", 14)]),
  (193, 0, 9, [("java/lang/IndexOutOfBoundsException", 12)]),
  (194, 0, 9, [("java/lang/IndexOutOfBoundsException", 12), ("java/lang/IllegalStateException", 15)])]
/-- loop heads, and the locals that live there -/
def nzT : Nat → List (Nat × List Nat)
  | 1 => [(17, [0, 3])]
  | 10 => [(4, [0, 1, 2, 3])]
  | 12 => [(4, [0, 1, 2, 3])]
  | 13 => [(8, [0, 1, 2, 3]), (19, [0, 1, 2, 3, 4])]
  | 14 => [(8, [0, 1, 2, 3])]
  | 24 => [(2, [0, 1, 2])]
  | 25 => [(2, [0, 1])]
  | 26 => [(7, [0, 1, 2])]
  | 27 => [(2, [0, 1, 2, 3])]
  | 42 => [(2, [0, 1, 2, 3])]
  | 45 => [(10, [0, 2, 3])]
  | 46 => [(5, [0, 1, 2])]
  | 48 => [(27, [0, 3])]
  | 50 => [(2, [0, 1])]
  | 56 => [(14, [0, 1])]
  | 60 => [(6, [0, 1, 2, 3, 4, 5]), (31, [0, 1, 2, 3, 4, 5, 6])]
  | 66 => [(78, [0, 1, 2])]
  | 71 => [(28, [0, 1, 2, 3])]
  | 83 => [(41, [0, 1, 2]), (49, [0, 1, 2, 3])]
  | 87 => [(51, [0, 1, 2, 4])]
  | 88 => [(39, [0, 3, 4, 6])]
  | 96 => [(5, [2, 3, 5])]
  | 101 => [(3, [0, 1, 2, 3, 4, 5])]
  | 102 => [(4, [0, 1, 3])]
  | 103 => [(3, [0, 1, 2, 3, 4]), (46, [0, 4])]
  | 109 => [(4, [0, 1, 2, 3])]
  | 110 => [(9, [0, 1, 2, 3])]
  | 112 => [(2, [0, 1]), (26, [0, 1, 2, 3])]
  | 113 => [(2, [0, 1, 2])]
  | 114 => [(4, [0, 1, 2])]
  | 115 => [(6, [0, 1, 2, 3, 4])]
  | 116 => [(7, [0, 2])]
  | 120 => [(8, [0, 1, 2, 3])]
  | 130 => [(4, [0])]
  | 137 => [(48, [0, 1])]
  | 142 => [(26, [0, 1, 2, 3])]
  | 143 => [(26, [0, 1, 2, 3])]
  | 160 => [(30, [0, 1, 2])]
  | 161 => [(55, [0, 2])]
  | 163 => [(10, [0, 1, 2])]
  | 165 => [(62, [0, 1, 2, 5])]
  | 167 => [(36, [0, 3, 4, 6])]
  | 195 => [(23, [0, 1, 2, 3, 4])]
  | _ => []
def nestW : List Cond := [.methodLinkNest "OdometerRing" 9 ⟨"OdometerRing$Story", "<init>", "()V"⟩ "OdometerRing", .methodLinkNest "OdometerRing$Odometer" 11 ⟨"OdometerRing$Cells", "<init>", "()V"⟩ "OdometerRing", .methodLinkNest "OdometerRing$Odometer" 20 ⟨"OdometerRing$Services", "<init>", "()V"⟩ "OdometerRing", .methodLinkNest "OdometerRing" 28 ⟨"OdometerRing$History", "<init>", "()V"⟩ "OdometerRing", .methodLinkNest "OdometerRing$Odometer" 147 ⟨"OdometerRing", "isTenths", "(I)Z"⟩ "OdometerRing", .methodLinkNest "OdometerRing$Odometer" 153 ⟨"OdometerRing", "isCut", "(II)Z"⟩ "OdometerRing", .methodLinkNest "OdometerRing$Odometer" 163 ⟨"OdometerRing", "isService", "(II)Z"⟩ "OdometerRing", .methodLinkNest "OdometerRing$Odometer" 185 ⟨"OdometerRing", "isStep", "(I)Z"⟩ "OdometerRing"]
def nestH : List String := ["OdometerRing", "OdometerRing", "OdometerRing", "OdometerRing", "OdometerRing", "OdometerRing", "OdometerRing", "OdometerRing"]
def strT : List (String × Nat × String) := [("OdometerRing", 44, "c is not 0 to 255"), ("OdometerRing", 55, "the text is full"), ("OdometerRing", 74, "the text is not a story"), ("OdometerRing", 114, "what is not 0 to 14"), ("OdometerRing", 134, "there is no such slot or cell"), ("OdometerRing", 137, "what is not 0 to 2"), ("OdometerRing", 150, "there is no such slot"), ("OdometerRing", 162, "i is negative, or what is not 0 to 2"), ("OdometerRing", 191, "what is not 0 to 3"), ("OdometerRing", 196, "tenths is not 1 to 999"), ("OdometerRing", 202, "the power is off"), ("OdometerRing", 214, "n is not 1 to 36, or kind is not 0 to 2"), ("OdometerRing", 219, "the power is on"), ("OdometerRing", 227, "kind or part is not 0 to 9"), ("OdometerRing", 232, "the power is off, or there are 12 other services"), ("OdometerRing", 240, "the service is not noted"), ("OdometerRing", 248, "step is not 1 to 99"), ("OdometerRing", 254, "the power is off, or it is the current slot"), ("OdometerRing", 260, "no state is remembered"), ("OdometerRing", 269, "the power is off, or the memory is dead"), ("OdometerRing", 291, "kind or part is not 0 to 9, or interval is not 1 to 9999"), ("OdometerRing", 300, "n is not 1 to 4, or script has not 0 to 4 * n digits"), ("OdometerRing", 307, "m is not 1 to 99"), ("OdometerRing", 319, "there is no such save slot"), ("OdometerRing", 328, "nothing has been saved in it")]
end
section
/-! WHAT A METHOD DOES, over the abstract machine: the least predicate that is closed under its steps. -/
/-- the locals ks of a frame, in this order -/
def nz (ks : List Nat) (ls : List (Nat × Value)) : List (Nat × Value) := ks.filterMap (fun k => match lkp ls k with
  | some v => some (k, v)
  | none => none)
def nzA (nt : List (Nat × List Nat)) (pc : Nat) (ls : List (Nat × Value)) : List (Nat × Value) := match lkp nt pc with
  | some ks => nz ks ls
  | none => ls
def stepF (nt : List (Nat × List Nat)) (cd : List (Nat × Row)) (C : Cal) (mj : Nat → Nat × Nat) (kj : Nat → Nat) (nj : Nat → Nat) (SX : Option (Nat × (Nat → Int32))) (mxc mxs : Nat) (hn : Nat → String → Option Nat) (Rt : Option Value → Wd → Nat → Nat → Prop) (Th : String → Wd → Nat → Nat → Prop) (f : Fr) (X : Fr → Prop) : Prop :=
  match f with
  | (pc, ls, st, w, nc, ns) => match lkp cd pc with
    | some (ins, nx, aux, kc, kl) => stepI C mj kj nj SX mxc mxs hn Rt Th ins nx aux kc kl pc (nzA nt pc ls) st w nc ns X
    | none => False
/-- the steps of method j -/
abbrev SF : Type := Fr → (Fr → Prop) → Prop
def EE (S : SF) (f : Fr) : Prop := ∀ X : Fr → Prop, (∀ (g : Fr) (Y : Fr → Prop), S g Y → (∀ h, Y h → X h) → X g) → X f
theorem EE.step {S : SF} {f : Fr} (h : S f (EE S)) : EE S f := fun X hX => hX f (EE S) h (fun _ hg => hg X hX)
theorem EE.stepY {S : SF} {f : Fr} {Y : Fr → Prop} (h : S f Y) (hY : ∀ g, Y g → EE S g) : EE S f := fun X hX => hX f Y h (fun g hg => hY g hg X hX)
/-- n steps at once, up to the stops -/
def runN (S : SF) (stop : Nat → Bool) : Nat → Fr → (Fr → Prop) → Prop
  | 0, f, X => X f
  | n + 1, f, X => S f (fun g => match stop g.1 with
    | true => X g
    | false => runN S stop n g X)
theorem EE.runN {S : SF} {stop : Nat → Bool} : ∀ (n : Nat) (f : Fr), runN S stop n f (EE S) → EE S f
  | 0, _, h => h
  | n + 1, f, h => by
    refine EE.stepY h (fun g hg => ?_)
    revert hg
    cases stop g.1 with
    | true => exact fun hg => hg
    | false => exact fun hg => EE.runN n g hg
def noStop : Nat → Bool := fun _ => false
def atPc : List Nat → Nat → Bool
  | [], _ => false
  | a :: l, k => match Nat.beq a k with
    | true => true
    | false => atPc l k
/-- cells and slots that a call of a method may make -/
def mjT : Nat → Nat × Nat := fun j => match lkp mkT j with
  | some x => x
  | none => (0, 0)
def hnT (j : Nat) (pc : Nat) (E : String) : Option Nat := match lkp hxT j with
  | some (lo, hi, l) => match Nat.ble lo pc && Nat.blt pc hi with
    | true => (l.find? (fun q => q.1 == E)).map Prod.snd
    | false => none
  | none => none
/-- a return of method j -/
def RtJ (j : Nat) (Q : Res → Wd → Prop) (v : Option Value) (w : Wd) (nc ns : Nat) : Prop :=
  (nc ≤ (mjT j).1 ∧ ns ≤ (mjT j).2) ∧ match rT j, v with
    | some .int, some (.int x) => Q (.inl (some (.int x))) w
    | some .boolean, some (.int x) => (x = 0 ∨ x = 1) ∧ Q (.inl (some (.int x))) w
    | some .long, some (.long x) => Q (.inl (some (.long x))) w
    | none, none => Q (.inl none) w
    | _, _ => False
def ThJ (d j : Nat) (Q : Res → Wd → Prop) (E : String) (w : Wd) (nc ns : Nat) : Prop := (6 ≤ d ∧ nc + 1 ≤ (mjT j).1 ∧ ns + 6 ≤ (mjT j).2 ∧ hhT j = []) ∧ Q (.inr E) w
def SJ (d j : Nat) (C : Cal) (Q : Res → Wd → Prop) : SF := stepF (nzT j) (cdT j) C mjT kO nA none (mjT j).1 (mjT j).2 (hnT j) (RtJ j Q) (ThJ d j Q)
/-- method j, at depth d, from these arguments in this world, comes to an end with Q -/
def Wp : Nat → Cal
  | 0 => fun _ _ _ _ => False
  | d + 1 => fun j as w Q => Nat.ble (catS as) (mL j) = true ∧ EE (SJ (d + 1) j (Wp d) Q) (0, lv_args 0 as, [], w, 0, 0)
end
section
/-! THE ABSTRACT WORLD AND THE HEAP -/
def RXc : Nat → String
  | 0 => RX0
  | 1 => RX1
  | 2 => RX2
  | 3 => RX3
  | 4 => RX4
  | 5 => RX5
  | 6 => RX6
  | _ => RX7
def TXc : Nat → u_T
  | 0 => TX0
  | 1 => TX1
  | 2 => TX2
  | 3 => TX3
  | 4 => TX4
  | 5 => TX5
  | 6 => TX6
  | _ => TX7
def tyXc : Nat → Nat → FieldType
  | 0 => tyX0
  | 1 => tyX1
  | 2 => tyX2
  | 3 => tyX3
  | 4 => tyX4
  | 5 => tyX5
  | 6 => tyX6
  | _ => tyX7
/-- a value: an abstract reference is the address that ad gives it, 0 is null -/
def cv (ad : Nat → Nat) : Value → Value
  | .ref 0 => .null
  | .ref (i + 1) => .ref (ad (i + 1))
  | v => v
theorem cv_cat (ad : Nat → Nat) (v : Value) : (cv ad v).category = v.category := by
  cases v with
  | ref a => cases a <;> rfl
  | _ => rfl
theorem cv_int (ad : Nat → Nat) (x : Int32) : cv ad (.int x) = .int x := rfl
theorem cv_long (ad : Nat → Nat) (x : Int64) : cv ad (.long x) = .long x := rfl
theorem cv_pos (ad : Nat → Nat) {a : Nat} (h : 1 ≤ a) : cv ad (.ref a) = .ref (ad a) := by
  cases a with
  | zero => omega
  | succ i => rfl
def rfo (ad : Nat → Nat) : Nat → Option Nat
  | 0 => none
  | i + 1 => some (ad (i + 1))
theorem va_rfo (ad : Nat → Nat) (a : Nat) : va_rf (rfo ad a) = cv ad (.ref a) := by
  cases a <;> rfl
def fldV (ad : Nat → Nat) (w : Wd) (ci a k : Nat) : Value := if fK ci k = 1 then cv ad (.ref (w.1.2.2.2 a k)) else .int (w.2.1 a k)
def cellW (K : Nat → ClassId) (ad : Nat → Nat) (w : Wd) (a : Nat) : va_E :=
  if w.1.2.1 a = 8 then .inl (K 8, w.1.2.2.1 a, .inl (w.2.1 a))
  else if w.1.2.1 a = 9 then .inl (K 9, w.1.2.2.1 a, .inl (w.2.1 a))
  else if w.1.2.1 a = 10 then .inl (K 10, w.1.2.2.1 a, .inr (.inl (w.2.2 a)))
  else if w.1.2.1 a = 11 then .inl (K 11, w.1.2.2.1 a, .inr (.inr (.inr (.inr (fun k => rfo ad (w.1.2.2.2 a k))))))
  else .inr (w.1.2.1 a, (List.range (nF (w.1.2.1 a))).map (fldV ad w (w.1.2.1 a) a))
def wsW (K : Nat → ClassId) (ad : Nat → Nat) (w : Wd) : va_W := (List.range w.1.1).map (fun i => (ad (i + 1), cellW K ad w (i + 1)))
def WFw (w : Wd) : Prop := (∀ i : Nat, w.1.2.1 i < 20 → 1 ≤ i ∧ i ≤ w.1.1) ∧ (∀ i k : Nat, w.1.2.2.2 i k ≤ w.1.1) ∧ w.1.1 < 1000000
theorem wsW_at (K : Nat → ClassId) (ad : Nat → Nat) (w : Wd) {a : Nat} (h1 : 1 ≤ a) (h2 : a ≤ w.1.1) : (wsW K ad w)[a - 1]? = some (ad a, cellW K ad w a) := by
  obtain ⟨i, rfl⟩ : ∃ i, a = i + 1 := ⟨a - 1, by omega⟩
  simp [wsW, List.getElem?_map, List.getElem?_range (show i < w.1.1 by omega)]
theorem wsW_len (K : Nat → ClassId) (ad : Nat → Nat) (w : Wd) : (wsW K ad w).length = w.1.1 := by simp [wsW]
theorem wsW_set (K : Nat → ClassId) (ad : Nat → Nat) (w w' : Wd) {a : Nat} {e : va_E} (h1 : 1 ≤ a) (h2 : a ≤ w.1.1) (hn : w'.1.1 = w.1.1) (ho : ∀ i, i ≠ a → cellW K ad w' i = cellW K ad w i) (he : cellW K ad w' a = e) : (wsW K ad w).set (a - 1) (ad a, e) = wsW K ad w' := by
  apply List.ext_getElem?
  intro i
  by_cases hi : i < w.1.1
  · rw [List.getElem?_set]
    by_cases hia : a - 1 = i
    · have e1 : a = i + 1 := by omega
      subst e1
      have := wsW_at K ad w' (a := i + 1) (by omega) (by rw [hn]; omega)
      simp only [Nat.add_sub_cancel] at this
      rw [this, he]
      simp [wsW_len, hi]
    · rw [if_neg hia]
      have h3 := wsW_at K ad w (a := i + 1) (by omega) (by omega)
      have h4 := wsW_at K ad w' (a := i + 1) (by omega) (by rw [hn]; omega)
      simp only [Nat.add_sub_cancel] at h3 h4
      rw [h3, h4, ho (i + 1) (by omega)]
  · rw [List.getElem?_eq_none (by rw [List.length_set, wsW_len]; omega), List.getElem?_eq_none (by rw [wsW_len, hn]; omega)]
theorem cellW_obj (K : Nat → ClassId) (ad : Nat → Nat) (w : Wd) {a ci : Nat} (h : w.1.2.1 a = ci) (hc : ci < 8) : cellW K ad w a = .inr (ci, (List.range (nF ci)).map (fldV ad w ci a)) := by
  unfold cellW
  rw [h, if_neg (by omega), if_neg (by omega), if_neg (by omega), if_neg (by omega)]
theorem cellW_8 (K : Nat → ClassId) (ad : Nat → Nat) (w : Wd) {a : Nat} (h : w.1.2.1 a = 8) : cellW K ad w a = .inl (K 8, w.1.2.2.1 a, .inl (w.2.1 a)) := by
  unfold cellW
  rw [if_pos h]
theorem cellW_9 (K : Nat → ClassId) (ad : Nat → Nat) (w : Wd) {a : Nat} (h : w.1.2.1 a = 9) : cellW K ad w a = .inl (K 9, w.1.2.2.1 a, .inl (w.2.1 a)) := by
  unfold cellW
  rw [if_neg (by omega), if_pos h]
theorem cellW_10 (K : Nat → ClassId) (ad : Nat → Nat) (w : Wd) {a : Nat} (h : w.1.2.1 a = 10) : cellW K ad w a = .inl (K 10, w.1.2.2.1 a, .inr (.inl (w.2.2 a))) := by
  unfold cellW
  rw [if_neg (by omega), if_neg (by omega), if_pos h]
theorem cellW_11 (K : Nat → ClassId) (ad : Nat → Nat) (w : Wd) {a : Nat} (h : w.1.2.1 a = 11) : cellW K ad w a = .inl (K 11, w.1.2.2.1 a, .inr (.inr (.inr (.inr (fun k => rfo ad (w.1.2.2.2 a k)))))) := by
  unfold cellW
  rw [if_neg (by omega), if_neg (by omega), if_neg (by omega), if_pos h]
theorem cellW_wI_n (K : Nat → ClassId) (ad : Nat → Nat) (w : Wd) {a i : Nat} (g : Nat → Int32) (h : i ≠ a) : cellW K ad (wI w a g) i = cellW K ad w i := by
  have e : (wI w a g).2.1 i = w.2.1 i := upA_n _ _ h
  have e2 : ∀ ci, fldV ad (wI w a g) ci i = fldV ad w ci i := fun ci => by
    funext k
    unfold fldV
    rw [e]
    rfl
  unfold cellW
  rw [e, e2]
  rfl
theorem cellW_wJ_n (K : Nat → ClassId) (ad : Nat → Nat) (w : Wd) {a i : Nat} (g : Nat → Int64) (h : i ≠ a) : cellW K ad (wJ w a g) i = cellW K ad w i := by
  have e : (wJ w a g).2.2 i = w.2.2 i := upA_n _ _ h
  unfold cellW
  rw [e]
  rfl
theorem cellW_wR_n (K : Nat → ClassId) (ad : Nat → Nat) (w : Wd) {a i : Nat} (g : Nat → Nat) (h : i ≠ a) : cellW K ad (wR w a g) i = cellW K ad w i := by
  have e : (wR w a g).1.2.2.2 i = w.1.2.2.2 i := upA_n _ _ h
  have e2 : ∀ ci, fldV ad (wR w a g) ci i = fldV ad w ci i := fun ci => by
    funext k
    unfold fldV
    rw [e]
    rfl
  unfold cellW
  rw [e, e2]
  rfl
theorem fld_set (ad : Nat → Nat) (w w' : Wd) {ci a k : Nat} {v : Value} (ho : ∀ j, j ≠ k → fldV ad w' ci a j = fldV ad w ci a j) (hv : fldV ad w' ci a k = v) : ((List.range (nF ci)).map (fldV ad w ci a)).set k v = (List.range (nF ci)).map (fldV ad w' ci a) := by
  apply List.ext_getElem?
  intro i
  rw [List.getElem?_set]
  by_cases hi : i < nF ci
  · by_cases hk : k = i
    · subst hk
      simp [List.getElem?_map, List.getElem?_range hi, hv, hi]
    · rw [if_neg hk]
      simp [List.getElem?_map, List.getElem?_range hi, ho i (Ne.symm hk)]
  · by_cases hk : k = i
    · subst hk
      simp [hi]
    · rw [if_neg hk]
      simp [List.getElem?_map, List.getElem?_eq_none, hi]
theorem cellW_congr (K : Nat → ClassId) (ad ad' : Nat → Nat) (w : Wd) (hw : WFw w) (h1 : ∀ i, i ≤ w.1.1 → ad' i = ad i) (i : Nat) : cellW K ad' w i = cellW K ad w i := by
  have cvr : ∀ x, x ≤ w.1.1 → cv ad' (.ref x) = cv ad (.ref x) := by
    intro x hx
    cases x with
    | zero => rfl
    | succ x => show Value.ref _ = Value.ref _; rw [h1 _ hx]
  have e1 : ∀ ci, fldV ad' w ci i = fldV ad w ci i := by
    intro ci
    funext k'
    unfold fldV
    rw [cvr _ (hw.2.1 i k')]
  have e2 : (fun k' => rfo ad' (w.1.2.2.2 i k')) = fun k' => rfo ad (w.1.2.2.2 i k') := by
    funext k'
    have h9 := hw.2.1 i k'
    revert h9
    cases w.1.2.2.2 i k' with
    | zero => intro _; rfl
    | succ x => intro h9; show some _ = some _; rw [h1 _ h9]
  unfold cellW
  rw [e1, e2]
theorem wsW_congr (K : Nat → ClassId) (ad ad' : Nat → Nat) (w : Wd) (hw : WFw w) (h1 : ∀ i, i ≤ w.1.1 → ad' i = ad i) : wsW K ad' w = wsW K ad w := by
  unfold wsW
  apply List.map_congr_left
  intro i hi
  have hi := List.mem_range.mp hi
  rw [h1 (i + 1) (by omega), cellW_congr K ad ad' w hw h1]
theorem cellW_wAl_n (K : Nat → ClassId) (ad : Nat → Nat) (w : Wd) (k N : Nat) {i : Nat} (hne : i ≠ w.1.1 + 1) : cellW K ad (wAl w k N) i = cellW K ad w i := by
  have a1 : (wAl w k N).1.2.1 i = w.1.2.1 i := upA_n _ _ hne
  have a2 : (wAl w k N).1.2.2.1 i = w.1.2.2.1 i := upA_n _ _ hne
  have a3 : (wAl w k N).1.2.2.2 i = w.1.2.2.2 i := upA_n _ _ hne
  have a4 : (wAl w k N).2.1 i = w.2.1 i := upA_n _ _ hne
  have a5 : (wAl w k N).2.2 i = w.2.2 i := upA_n _ _ hne
  have e1 : ∀ ci, fldV ad (wAl w k N) ci i = fldV ad w ci i := by
    intro ci
    funext k'
    unfold fldV
    rw [a3, a4]
  unfold cellW
  rw [a1, a2, a3, a4, a5, e1]
theorem wAl_wf (w : Wd) (k N : Nat) (hw : WFw w) (hn : w.1.1 + 1 < 1000000) : WFw (wAl w k N) := by
  obtain ⟨h1, h2, h3⟩ := hw
  refine ⟨fun i hi => ?_, fun i k' => ?_, hn⟩
  · show 1 ≤ i ∧ i ≤ w.1.1 + 1
    by_cases he : i = w.1.1 + 1
    · omega
    · have a1 : (wAl w k N).1.2.1 i = w.1.2.1 i := upA_n _ _ he
      rw [a1] at hi
      have := h1 i hi
      omega
  · show _ ≤ w.1.1 + 1
    by_cases he : i = w.1.1 + 1
    · have a3 : (wAl w k N).1.2.2.2 i = fun _ => 0 := by rw [he]; exact upA_s _ _ _
      rw [a3]
      exact Nat.zero_le _
    · have a3 : (wAl w k N).1.2.2.2 i = w.1.2.2.2 i := upA_n _ _ he
      rw [a3]
      have := h2 i k'
      omega
/-- a new cell behind the others -/
theorem wsW_push (K : Nat → ClassId) (ad ad' : Nat → Nat) (w : Wd) (k N q : Nat) (hw : WFw w) (h1 : ∀ i, i ≤ w.1.1 → ad' i = ad i) (h2 : ad' (w.1.1 + 1) = q) : wsW K ad' (wAl w k N) = wsW K ad w ++ [(q, cellW K ad' (wAl w k N) (w.1.1 + 1))] := by
  rw [← wsW_congr K ad ad' w hw h1]
  unfold wsW
  rw [show (wAl w k N).1.1 = w.1.1 + 1 from rfl, List.range_succ, List.map_append]
  congr 1
  · apply List.map_congr_left
    intro i hi
    have hi := List.mem_range.mp hi
    rw [cellW_wAl_n K ad' w k N (by omega)]
  · simp [h2]
end
section
/-! WHAT A ROW OF THE TABLES MUST BE, decided by program -/
def GG : List Cond := lw_tbl.filter goodWord
def wAt (i : Nat) (w : Cond) : Bool := decide (lw_tbl[i]? = some w) && goodWord w
theorem wAt_in {i : Nat} {w : Cond} (h : wAt i w = true) : w ∈ GG := by
  simp only [wAt, Bool.and_eq_true, decide_eq_true_eq] at h
  exact List.mem_filter.mpr ⟨List.mem_of_getElem? h.1, h.2⟩
def ownO (j : Nat) : String := (yN j).cls
def hdW (j : Nat) : Cond := match hhT j with
  | [] => .code (yN j) (bC j) (mL j) (rT j)
  | hh => .codeWith (yN j) (bC j) (mL j) (rT j) hh
def dOk (j pc : Nat) (ins : Instr) (nx L : Nat) : Bool := decide (decode (bC j) pc = .ok (ins, L)) && decide (nx = pc + L)
def tOk (pc : Nat) (off : Int) (aux : List Nat) : Bool := match aux with
  | [t] => decide ((pc : Int) + off = (t : Int))
  | _ => false
def swOK (pc : Nat) : Int → List Nat → List Int → Bool
  | lo, k :: t :: r, o :: os => decide ((k : Int) = lo) && (decide ((pc : Int) + o = (t : Int)) && swOK pc (lo + 1) r os)
  | _, [], [] => true
  | _, _, _ => false
def swOL (pc : Nat) : List Nat → List (Int × Int) → Bool
  | k :: t :: r, (a, o) :: os => decide ((k : Int) = a) && (decide (k < 2147483648) && (decide ((pc : Int) + o = (t : Int)) && swOL pc r os))
  | [], [] => true
  | _, _ => false
/-- a callee: its head's word, its class, how many arguments -/
def cOk (j ph pi : Nat) : Bool := wAt ph (hdW j) && (wAt pi (.initialized (yN j).cls) && (decide ((yN j).cls ≠ "java/lang/invoke/MethodHandle") && (decide ((yN j).cls ≠ "java/lang/invoke/VarHandle") && (decide ((parseMethodDescriptor (yN j).desc).map (fun d => d.parameters.length) = some (nA j)) && (plainName (yN j).cls && decide (mL j ≤ 12))))))
def nestOk (i own : Nat) (idx : Nat) (y : MethodName) (o : String) : Bool := decide (nestW[i]? = some (.methodLinkNest o idx y ((nestH[i]?).getD "")))
def okRow (j pc : Nat) (r : Row) : Bool := match r with
  | (ins, nx, aux, kc, kl) => match ins with
    | .iconst n => dOk j pc ins nx 1 && decide (Int32.ofInt n = kc)
    | .bipush n => dOk j pc ins nx 2 && decide ((Int8.ofInt n).toInt32 = kc)
    | .sipush n => dOk j pc ins nx 3 && decide ((Int16.ofInt n).toInt32 = kc)
    | .ldc i => dOk j pc ins nx 2 && (match aux with
      | [p] => wAt p (.constant (ownO j) i kc)
      | _ => false)
    | .ldc_w i => dOk j pc ins nx 3 && (match aux with
      | [p] => wAt p (.constant (ownO j) i kc)
      | _ => false)
    | .lconst n => dOk j pc ins nx 1 && decide (Int64.ofNat (n : Nat) = kl)
    | .ldc2_w i => dOk j pc ins nx 3 && (match aux with
      | [p] => wAt p (.constantLong (ownO j) i kl)
      | _ => false)
    | .iload_n k => dOk j pc ins nx 1 && decide (aux = [(k : Nat)])
    | .lload_n k => dOk j pc ins nx 1 && decide (aux = [(k : Nat)])
    | .aload_n k => dOk j pc ins nx 1 && decide (aux = [(k : Nat)])
    | .iload i => dOk j pc ins nx 2 && decide (aux = [i])
    | .lload i => dOk j pc ins nx 2 && decide (aux = [i])
    | .aload i => dOk j pc ins nx 2 && decide (aux = [i])
    | .istore_n k => dOk j pc ins nx 1 && (decide (aux = [(k : Nat)]) && decide ((k : Nat) < mL j))
    | .astore_n k => dOk j pc ins nx 1 && (decide (aux = [(k : Nat)]) && decide ((k : Nat) < mL j))
    | .lstore_n k => dOk j pc ins nx 1 && (decide (aux = [(k : Nat)]) && decide ((k : Nat) + 1 < mL j))
    | .istore i => dOk j pc ins nx 2 && (decide (aux = [i]) && decide (i < mL j))
    | .astore i => dOk j pc ins nx 2 && (decide (aux = [i]) && decide (i < mL j))
    | .lstore i => dOk j pc ins nx 2 && (decide (aux = [i]) && decide (i + 1 < mL j))
    | .iinc i n => dOk j pc ins nx 3 && (decide (aux = [i]) && (decide (Int32.ofInt n = kc) && decide (i < mL j)))
    | .ifCond _ off => dOk j pc ins nx 3 && tOk pc off aux
    | .if_icmp _ off => dOk j pc ins nx 3 && tOk pc off aux
    | .goto off => dOk j pc ins nx 3 && tOk pc off aux
    | .ifnull off => dOk j pc ins nx 3 && tOk pc off aux
    | .tableswitch d lo hi offs => decide (decode (bC j) pc = .ok (ins, nx - pc)) && (match aux with
      | dt :: ks => decide ((pc : Int) + d = (dt : Int)) && (swOK pc lo ks offs.toList && (decide (hi = lo + offs.toList.length - 1) && (decide (0 ≤ lo) && decide (lo + offs.toList.length < 2147483648))))
      | _ => false)
    | .lookupswitch d ps => decide (decode (bC j) pc = .ok (ins, nx - pc)) && (match aux with
      | dt :: ks => decide ((pc : Int) + d = (dt : Int)) && (swOL pc ks ps.toList && (ps.toList.zip (ps.toList.drop 1)).all (fun (a, next) => a.1 < next.1))
      | _ => false)
    | .getfield i => dOk j pc ins nx 3 && (match aux with
      | [ci, k, t, p] => decide (ci < 8) && (decide (k < nF ci) && (wAt p (.fieldLink (ownO j) i (RXc ci) (TXc ci k).2.1 (TXc ci k).2.2.1) && (decide ((TXc ci k).1 = RXc ci) && decide (t = 1 ↔ fK ci k = 1))))
      | _ => false)
    | .putfield i => dOk j pc ins nx 3 && (match aux with
      | [ci, k, t, fin, p] => decide (ci < 8) && (decide (k < nF ci) && (wAt p (.fieldLink (ownO j) i (RXc ci) (TXc ci k).2.1 (TXc ci k).2.2.1) && (decide ((TXc ci k).1 = RXc ci) && (decide (t = 1 ↔ fK ci k = 1) &&
          ((match t with
            | 0 => decide (tyXc ci k = .int)
            | 1 => refKind (tyXc ci k)
            | 2 => decide (tyXc ci k = .boolean)
            | _ => false) &&
          (match fin with
            | 0 => decide ((TXc ci k).2.2.2 = false)
            | _ => decide ((TXc ci k).2.2.2 = true) && (decide ((yN j).name = "<init>") && decide ((TXc ci k).1 = ownO j))))))))
      | _ => false)
    | .newarray a => dOk j pc ins nx 2 && (match aux with
      | [k, p] => wAt p (.arrayClass (newarray.typeOf a)) && ((decide (k = 8) && decide (a = .int)) || ((decide (k = 9) && decide (a = .boolean)) || (decide (k = 10) && decide (a = .long))))
      | _ => false)
    | .anewarray i => dOk j pc ins nx 3 && (match aux with
      | [p] => wAt p (.classLink (ownO j) i "OdometerRing$Odometer")
      | _ => false)
    | .new i => match aux with
      | [0, ci, p1, p2, p3] => dOk j pc ins nx 3 && (decide (ci < 8) && (wAt p1 (.classLink (ownO j) i (RXc ci)) && (wAt p2 (.instantiable (RXc ci) (nF ci)) && wAt p3 (.initialized (RXc ci)))))
      | [1, e, wd, is, ic, sx, p1, p2] => decide (decode (bC j) pc = .ok (ins, 3)) && (decide (decode (bC j) (pc + 3) = .ok (.dup, 1)) && (wAt p1 (.classLink (ownO j) i (excN e)) && (wAt p2 (.initialized (excN e)) && (decide (ownO j = "OdometerRing") && (decide ((strT[sx]?).map (fun q => (q.1, q.2.1)) = some (ownO j, is)) && (decide ((e = 0 ∧ ic = 46) ∨ (e = 1 ∧ ic = 57) ∨ (e = 2 ∧ ic = 136)) &&
          (match wd with
            | 0 => decide (decode (bC j) (pc + 4) = .ok (.ldc is, 2)) && (decide (decode (bC j) (pc + 6) = .ok (.invokespecial ic, 3)) && decide (decode (bC j) (pc + 9) = .ok (.athrow, 1)))
            | _ => decide (decode (bC j) (pc + 4) = .ok (.ldc_w is, 3)) && (decide (decode (bC j) (pc + 7) = .ok (.invokespecial ic, 3)) && decide (decode (bC j) (pc + 10) = .ok (.athrow, 1))))))))))
      | _ => false
    | .invokespecial i => dOk j pc ins nx 3 && (match aux with
      | [0, p1, p2, p3] => wAt p1 (.methodLink (ownO j) i objectInit) && (wAt p2 (.instanceMethod objectInit) && wAt p3 (.code objectInit ⟨#[0xb1]⟩ 1 none))
      | [1, jc, p1, p2, p3, p4] => cOk jc p3 p2 && (wAt p1 (.instanceMethod (yN jc)) && (wAt p4 (.methodLink (ownO j) i (yN jc)) && (decide ((yN jc).name = "<init>") && (decide (rT jc = none) && decide (hhT jc = [])))))
      | [2, jc, p1, p2, p3, q] => cOk jc p3 p2 && (wAt p1 (.instanceMethod (yN jc)) && (nestOk q j i (yN jc) (ownO j) && (decide ((yN jc).name = "<init>") && (decide (rT jc = none) && decide (hhT jc = [])))))
      | _ => false)
    | .invokevirtual i => dOk j pc ins nx 3 && (match aux with
      | [jc, p1, p2, p3, p4, p5] => cOk jc p5 p4 && (wAt p1 (.methodLink (ownO j) i (yN jc)) && (wAt p2 (.instanceMethod (yN jc)) && (wAt p3 (.selects (yN jc).cls (yN jc) (yN jc)) && (decide (hhT jc = []) && (decide (kO jc < 8) && decide (RXc (kO jc) = (yN jc).cls))))))
      | _ => false)
    | .invokestatic i => dOk j pc ins nx 3 && (match aux with
      | [0, jc, p1, p2, p3, p4] => cOk jc p4 p3 && (wAt p1 (.methodLink (ownO j) i (yN jc)) && wAt p2 (.static (yN jc)))
      | [4, jc, q, p2, p3, p4] => cOk jc p4 p3 && (nestOk q j i (yN jc) (ownO j) && (wAt p2 (.static (yN jc)) && decide (hhT jc = [])))
      | [1, p1, p2, p3, p4] => wAt p1 (.methodLink (ownO j) i Lib.Math.min.name) && (wAt p2 (.static Lib.Math.min.name) && (wAt p3 (.initialized "java/lang/Math") && wAt p4 (.code Lib.Math.min.name Lib.Math.min.code 2 (some .int))))
      | [2, p1, p2, p3, p4] => wAt p1 (.methodLink (ownO j) i Lib.Math.max.name) && (wAt p2 (.static Lib.Math.max.name) && (wAt p3 (.initialized "java/lang/Math") && wAt p4 (.code Lib.Math.max.name Lib.Math.max.code 2 (some .int))))
      | [3, p1, p2, p3, p4] => wAt p1 (.methodLink (ownO j) i arraycopyName) && (wAt p2 (.native arraycopyName) && (wAt p3 (.static arraycopyName) && wAt p4 (.initialized "java/lang/System")))
      | _ => false)
    | _ => dOk j pc ins nx 1
def okM (j : Nat) : Bool := (cdT j).all (fun q => okRow j q.1 q.2)
theorem okM_at {j pc : Nat} {r : Row} (h : okM j = true) (hr : lkp (cdT j) pc = some r) : okRow j pc r = true := by
  obtain ⟨i, hi⟩ := lkp_mem _ _ _ hr
  exact List.all_eq_true.mp h (pc, r) (List.mem_of_getElem? hi)
end
section
/-! SOUNDNESS OF ONE STEP: written by wip/whole/snd.py -/
def tysK (K : Nat → ClassId) : List (ClassId × FieldType) := [(K 8, .int), (K 9, .boolean), (K 10, .long), (K 11, .object "OdometerRing$Odometer")]
def WPd (D : va_G) (K : Nat → ClassId) (A : Nat → Prop) (ad : Nat → Nat) (w : Wd) (H : Heap) : Prop := va_P D vwCl (wsW K ad w) H ∧ va_D A (wsW K ad w) ∧ WFw w
def cvl (ad : Nat → Nat) (al : List (Nat × Value)) : List (Nat × Value) := al.map (fun q => (q.1, cv ad q.2))
theorem lv_lkp {ad : Nat → Nat} {ls : Array Slot} {nL : Nat} {al : List (Nat × Value)} {i : Nat} {v : Value} (h : lv_has ls nL (cvl ad al)) (hl : lkp al i = some v) : ls[i]? = some (.val (cv ad v)) := by
  obtain ⟨k, hk⟩ := lkp_mem _ _ _ hl
  exact lv_at h k (by simp [cvl, List.getElem?_map, hk])
theorem lkp_cvl {ad : Nat → Nat} {al : List (Nat × Value)} {i : Nat} {v : Value} (hl : lkp al i = some v) : ∃ k : Nat, (cvl ad al)[k]? = some (i, cv ad v) := by
  obtain ⟨k, hk⟩ := lkp_mem _ _ _ hl
  exact ⟨k, by simp [cvl, List.getElem?_map, hk]⟩
theorem cvl_stI (ad : Nat → Nat) (i : Nat) (v : Value) (al : List (Nat × Value)) : (i, cv ad v) :: (cvl ad al).filter (fun q => !(q.1 == i) && !(q.1 + 1 == i && q.2.category == 2)) = cvl ad (stI i v al) := by
  simp [stI, cvl, List.filter_map, Function.comp_def, cv_cat]
theorem cvl_stL (ad : Nat → Nat) (i : Nat) (v : Value) (al : List (Nat × Value)) : (i, cv ad v) :: (cvl ad al).filter (fun q => !(q.1 == i) && (!(q.1 == i + 1) && !(q.1 + 1 == i && q.2.category == 2))) = cvl ad (stL i v al) := by
  simp [stL, cvl, List.filter_map, Function.comp_def, cv_cat]
theorem catS_map (ad : Nat → Nat) : ∀ l : List Value, ((l.map (cv ad)).map fun v => v.category).sum = catS l
  | [] => rfl
  | v :: t => by
    have := catS_map ad t
    simp only [List.map_cons, List.sum_cons, catS, cv_cat]
    rw [this]
theorem wI_wf {w : Wd} {a : Nat} {g : Nat → Int32} (h : WFw w) : WFw (wI w a g) := h
theorem wJ_wf {w : Wd} {a : Nat} {g : Nat → Int64} (h : WFw w) : WFw (wJ w a g) := h
theorem wR_wf {w : Wd} {a k x : Nat} (h : WFw w) (hx : x ≤ w.1.1) : WFw (wR w a (upA (w.1.2.2.2 a) k x)) := by
  refine ⟨h.1, fun i k' => ?_, h.2.2⟩
  show upA w.1.2.2.2 a (upA (w.1.2.2.2 a) k x) i k' ≤ w.1.1
  by_cases hi : i = a
  · subst hi
    rw [upA_s]
    by_cases hk : k' = k
    · subst hk; rw [upA_s]; exact hx
    · rw [upA_n _ _ hk]; exact h.2.1 _ _
  · rw [upA_n _ _ hi]; exact h.2.1 _ _
/-- what is wanted at a frame -/
def MW (p : Program) (l : Launch) (e : Env) (R : Room) (s : State) (m : MethodId) (args : Array Value) (below : List Frame) (meth : Method) (c : Code) (D : va_G) (K : Nat → ClassId) (A : Nat → Prop) (ad0 : Nat → Nat) (n0 nL : Nat) (Sx : (Nat → Nat) → Prop) (Qm : State → Prop) (f : Fr) : Prop :=
  ∀ (ad : Nat → Nat) (H : Heap) (locs : List Loc) (ls : Array Slot), WPd D K A ad f.2.2.2.1 H → va_S A s.heap H locs → (∀ i, i ≤ n0 → ad i = ad0 i) → n0 ≤ f.2.2.2.1.1.1 → Sx ad → lv_has ls nL (cvl ad f.2.1) → W p l e R s m args below meth c H locs f.2.2.2.2.1 f.2.2.2.2.2 Qm (F0 m f.1 ls (f.2.2.1.map (cv ad)))
theorem swT {pc : Nat} {x : Int32} {d : Nat} {f : Nat → Prop} : ∀ (ks : List Nat) (lo : Int) (os : List Int), swOK pc lo ks os = true → 0 ≤ lo → lo + os.length < 2147483648 → swC x ks d f →
    ((x.toInt < lo ∨ lo + os.length ≤ x.toInt) → f d) ∧ (∀ (i : Nat) (o : Int), os[i]? = some o → x.toInt = lo + i → ∃ t : Nat, (pc : Int) + o = (t : Int) ∧ f t)
  | [], lo, [], _, _, _, h => ⟨fun _ => h, fun i o ho => by simp at ho⟩
  | k :: t :: r, lo, o :: os, hk, h0, hl, h => by
    simp only [swOK, Bool.and_eq_true, decide_eq_true_eq] at hk
    obtain ⟨h1, h2, h3⟩ := hk
    simp only [List.length_cons] at hl ⊢
    have hb : k < 2147483648 := by omega
    have hkx : x = Int32.ofNat k ↔ x.toInt = lo := by
      have e : (Int32.ofNat k).toInt = (k : Int) := Int32.toInt_ofNat_of_lt hb
      constructor
      · intro q; rw [q, e]; exact h1
      · intro q; exact Int32.toInt_inj.mp (by rw [e, q]; exact h1.symm)
    by_cases hx : x = Int32.ofNat k
    · refine ⟨fun q => ?_, fun i o' ho hi => ?_⟩
      · have := hkx.mp hx; omega
      · have := hkx.mp hx
        have hi0 : i = 0 := by omega
        subst hi0
        cases ho
        exact ⟨t, h2, h.1 hx⟩
    · have ih := swT r (lo + 1) os h3 (by omega) (by omega) (h.2 hx)
      have hne : ¬ x.toInt = lo := fun q => hx (hkx.mpr q)
      refine ⟨fun q => ih.1 (by omega), fun i o' ho hi => ?_⟩
      cases i with
      | zero => exact absurd (by omega) hne
      | succ i => exact ih.2 i o' ho (by omega)
  | [], _, _ :: _, hk, _, _, _ => by simp [swOK] at hk
  | [_], _, _, hk, _, _, _ => by simp [swOK] at hk
  | _ :: _ :: _, _, [], hk, _, _, _ => by simp [swOK] at hk
theorem swL {pc : Nat} {x : Int32} {d : Nat} {dd : Int} {f : Nat → Prop} (hd : (pc : Int) + dd = (d : Int)) : ∀ (ks : List Nat) (os : List (Int × Int)), swOL pc ks os = true → swC x ks d f → ∃ t : Nat, (pc : Int) + Op.lookupswitch.offset os dd x.toInt = (t : Int) ∧ f t
  | [], [], _, h => ⟨d, hd, h⟩
  | k :: t :: r, (a, o) :: os, hk, h => by
    simp only [swOL, Bool.and_eq_true, decide_eq_true_eq] at hk
    obtain ⟨h1, hb, h2, h3⟩ := hk
    have e : (Int32.ofNat k).toInt = (k : Int) := Int32.toInt_ofNat_of_lt hb
    rw [Op.lookupswitch.offset_cons]
    by_cases hx : x = Int32.ofNat k
    · rw [if_pos (by rw [hx, e]; exact h1.symm)]
      exact ⟨t, h2, h.1 hx⟩
    · rw [if_neg (fun q => hx (Int32.toInt_inj.mp (by rw [e, ← q]; exact h1.symm)))]
      exact swL hd r os h3 (h.2 hx)
  | [], _ :: _, hk, _ => by simp [swOL] at hk
  | [_], _, hk, _ => by simp [swOL] at hk
  | _ :: _ :: _, [], hk, _ => by simp [swOL] at hk
end
section
/-! SOUNDNESS OF ONE STEP: written by wip/whole/snd.py -/
def decW : List Cond := [.declares (Bundle.initS "java/lang/RuntimeException"), .declares (Bundle.initS "java/lang/Exception"), .declares (Bundle.initS Bundle.tN)]
/-- what the method's own state says beside its world: calls between nest mates, the texts, arrays of Odometers, which exceptions are which -/
def EnvT (U : State) : Prop := (∀ w ∈ nestW, va_Nw w U) ∧ (∀ q ∈ strT, ∃ a : Nat, vk_R q.1 q.2.1 q.2.2 a U) ∧ va_AO "OdometerRing$Odometer" U ∧ (∀ k, k < 3 → va_Nw (.castable (excN k) (excN k)) U) ∧ (∀ k k', k < 3 → k' < 3 → k ≠ k' → va_Nc (excN k) (excN k') U) ∧ (∀ w ∈ decW, va_Nw w U)
def EnvZ (A : Nat → Prop) (U : State) (H : Heap) : Prop := vx_Zq Bundle.tN "UNASSIGNED_STACK" Bundle.steD A U H ∧ vx_Zq Bundle.tN "SUPPRESSED_SENTINEL" Bundle.listD A U H
/-- cells and slots at depth d -/
def rmO (d j : Nat) : Room := { frames := d, cells := (mjT j).1, slots := (mjT j).2, locals := 34 * d }
/-- behind a method: the world that it leaves, where its cells lie -/
def BW (D : va_G) (K : Nat → ClassId) (A : Nat → Prop) (ad : Nat → Nat) (w : Wd) (u : Wd × (Nat → Nat)) (t : State) : Prop := WPd D K A u.2 u.1 t.heap ∧ (∀ i, i ≤ w.1.1 ∨ u.1.1.1 < i → u.2 i = ad i) ∧ w.1.1 ≤ u.1.1.1
def QcO (rt : Option FieldType) (D : va_G) (K : Nat → ClassId) (A : Nat → Prop) (ad : Nat → Nat) (w : Wd) (P : Res → Wd → Prop) : Array Value → State → Outcome → State → Prop := match rt with
  | none => va_Qv (fun u : Wd × (Nat → Nat) => P (.inl none) u.1) (BW D K A ad w) A
  | some .long => va_Ql (fun (r : Int64) (u : Wd × (Nat → Nat)) => P (.inl (some (.long r))) u.1) (BW D K A ad w) A
  | some _ => va_Qi (fun (r : Int32) (u : Wd × (Nat → Nat)) => P (.inl (some (.int r))) u.1) (BW D K A ad w) A
def XcO (D : va_G) (K : Nat → ClassId) (A : Nat → Prop) (ad : Nat → Nat) (w : Wd) (P : Res → Wd → Prop) : String → State → State → Prop := vx_X (fun _ : Wd × (Nat → Nat) => True) (fun E u t => P (.inr E) u.1 ∧ BW D K A ad w u t) A
def PcO (D : va_G) (K : Nat → ClassId) (ad : Nat → Nat) (sz : Nat) (as : List Value) (w : Wd) : Array Value → State → Prop := va_Pc (as.map (cv ad)) (fun U => U.heap.size = sz ∧ va_P D vwCl (wsW K ad w) U.heap ∧ va_D (fun _ => True) (wsW K ad w) ∧ WFw w ∧ va_K D vwCl (tysK K) U ∧ EnvT U ∧ EnvZ (va_A (wsW K ad w) sz) U U.heap)
/-- method j's contract for these arguments in this world -/
def Ctr (l : Launch) (d j : Nat) (as : List Value) (w : Wd) (P : Res → Wd → Prop) : Prop :=
  ∀ (D : va_G) (K : Nat → ClassId) (ad : Nat → Nat) (sz : Nat), vx_Met l (yN j) (hdW j :: GG) (rmO d j) (PcO D K ad sz as w) (QcO (rT j) D K (va_A (wsW K ad w) sz) ad w P) (XcO D K (va_A (wsW K ad w) sz) ad w P) (mjT j).1 (mjT j).2 (va_A (wsW K ad w) sz)
theorem brE_s {o : ClassFile.Cond} {x y : Int32} {T F : Prop} {G : Prop} (h : brE o x y T F) (k : ∀ (P : Prop), (P → T) → (¬ P → F) → True → G) : G := by
  cases o <;> exact k _ h.1 (fun q => h.2 (by first | exact q | exact Classical.not_not.mp q)) trivial
theorem clsF : ∀ ci, ci < 8 → vwCl[ci]? = some (RXc ci, TXc ci, nF ci) ∧ (∀ w ∈ u_ws (RXc ci) (TXc ci) (nF ci), w ∈ GG) ∧ (∀ k, k < nF ci → parseFieldDescriptor (TXc ci k).2.2.1 = some (tyXc ci k)) ∧ (∀ a, a < nF ci → ∀ b, b < nF ci → a ≠ b → (TXc ci a).2.1 ≠ (TXc ci b).2.1) := by
  have key : ∀ {C : String} {T : u_T} {N : Nat}, ((u_ws C T N).all (fun w => decide (w ∈ lw_tbl) && goodWord w)) = true → ∀ w ∈ u_ws C T N, w ∈ GG := fun h w hw => by
    have := List.all_eq_true.mp h w hw
    simp only [Bool.and_eq_true, decide_eq_true_eq] at this
    exact List.mem_filter.mpr this
  intro ci h
  match ci, h with
  | 0, _ => exact ⟨rfl, key (by decide +kernel), tyX0_ok, nmX0⟩
  | 1, _ => exact ⟨rfl, key (by decide +kernel), tyX1_ok, nmX1⟩
  | 2, _ => exact ⟨rfl, key (by decide +kernel), tyX2_ok, nmX2⟩
  | 3, _ => exact ⟨rfl, key (by decide +kernel), tyX3_ok, nmX3⟩
  | 4, _ => exact ⟨rfl, key (by decide +kernel), tyX4_ok, nmX4⟩
  | 5, _ => exact ⟨rfl, key (by decide +kernel), tyX5_ok, nmX5⟩
  | 6, _ => exact ⟨rfl, key (by decide +kernel), tyX6_ok, nmX6⟩
  | 7, _ => exact ⟨rfl, key (by decide +kernel), tyX7_ok, nmX7⟩
end
section
def isS : Instr → Bool
  | .iconst .. => true
  | .bipush .. => true
  | .sipush .. => true
  | .lconst .. => true
  | .ldc .. => true
  | .ldc_w .. => true
  | .ldc2_w .. => true
  | .iload_n .. => true
  | .iload .. => true
  | .lload_n .. => true
  | .lload .. => true
  | .aload_n .. => true
  | .aload .. => true
  | .istore_n .. => true
  | .istore .. => true
  | .lstore_n .. => true
  | .lstore .. => true
  | .astore_n .. => true
  | .astore .. => true
  | .iinc .. => true
  | .iadd .. => true
  | .isub .. => true
  | .imul .. => true
  | .iand .. => true
  | .idiv .. => true
  | .irem .. => true
  | .ladd .. => true
  | .lsub .. => true
  | .lmul .. => true
  | .land .. => true
  | .lor .. => true
  | .ldiv .. => true
  | .lrem .. => true
  | .lushr .. => true
  | .lshl .. => true
  | .i2l .. => true
  | .l2i .. => true
  | .lcmp .. => true
  | .dup .. => true
  | .dup2 .. => true
  | .pop .. => true
  | .ifCond .. => true
  | .if_icmp .. => true
  | .goto .. => true
  | .ifnull .. => true
  | .tableswitch .. => true
  | .lookupswitch .. => true
  | _ => false
set_option maxHeartbeats 4000000 in
theorem so_simple {p : Program} {l : Launch} {e : Env} {R : Room} {s : State} {m : MethodId} {args : Array Value} {below : List Frame} {meth : Method} {c : Code} {D : va_G} {K : Nat → ClassId} {A : Nat → Prop} {ad0 : Nat → Nat} {n0 nL : Nat} {Sx : (Nat → Nat) → Prop} {Qm : State → Prop} {j : Nat}
  (hx : p.tables.exec = Jvm.exec) (hb : c.code = bC j) (hml : c.maxLocals = nL) (hnL : nL = mL j) (hown : s.vm.findClass (ownO j) = some m.cls) (hts : ∀ w ∈ GG, w.before args s = true)
  {C : Cal} {SX : Option (Nat × (Nat → Int32))} {mxc mxs : Nat} {hn : Nat → String → Option Nat} {Rt : Option Value → Wd → Nat → Nat → Prop} {Th : String → Wd → Nat → Nat → Prop} {ins : Instr} {nx : Nat} {aux : List Nat} {kc : Int32} {kl : Int64} {pc : Nat} {ls : List (Nat × Value)} {st : List Value} {w : Wd} {nc ns : Nat}
  (hs : isS ins = true) (hrow : okRow j pc (ins, nx, aux, kc, kl) = true) (h : stepI C mjT kO nA SX mxc mxs hn Rt Th ins nx aux kc kl pc ls st w nc ns (MW p l e R s m args below meth c D K A ad0 n0 nL Sx Qm)) : MW p l e R s m args below meth c D K A ad0 n0 nL Sx Qm (pc, ls, st, w, nc, ns) := by
  cases ins with
  | iconst n => 
    have h : MW p l e R s m args below meth c D K A ad0 n0 nL Sx Qm (nx, ls, .int kc :: st, w, nc, ns) := h
    simp only [okRow, dOk, Bool.and_eq_true, decide_eq_true_eq] at hrow
    obtain ⟨⟨hd, rfl⟩, hk⟩ := hrow
    intro ad H locs lsx hW hS hag hn0 hsx hl
    obtain ⟨hP, hD, hwf⟩ := hW
    exact lv_iconst hx hb hd hk (h ad H locs lsx ⟨hP, hD, hwf⟩ hS hag hn0 hsx hl)
  | bipush n => 
    have h : MW p l e R s m args below meth c D K A ad0 n0 nL Sx Qm (nx, ls, .int kc :: st, w, nc, ns) := h
    simp only [okRow, dOk, Bool.and_eq_true, decide_eq_true_eq] at hrow
    obtain ⟨⟨hd, rfl⟩, hk⟩ := hrow
    intro ad H locs lsx hW hS hag hn0 hsx hl
    obtain ⟨hP, hD, hwf⟩ := hW
    exact lv_bipush hx hb hd hk (h ad H locs lsx ⟨hP, hD, hwf⟩ hS hag hn0 hsx hl)
  | sipush n => 
    have h : MW p l e R s m args below meth c D K A ad0 n0 nL Sx Qm (nx, ls, .int kc :: st, w, nc, ns) := h
    simp only [okRow, dOk, Bool.and_eq_true, decide_eq_true_eq] at hrow
    obtain ⟨⟨hd, rfl⟩, hk⟩ := hrow
    intro ad H locs lsx hW hS hag hn0 hsx hl
    obtain ⟨hP, hD, hwf⟩ := hW
    exact lv_sipush hx hb hd hk (h ad H locs lsx ⟨hP, hD, hwf⟩ hS hag hn0 hsx hl)
  | lconst n => 
    have h : MW p l e R s m args below meth c D K A ad0 n0 nL Sx Qm (nx, ls, .long kl :: st, w, nc, ns) := h
    simp only [okRow, dOk, Bool.and_eq_true, decide_eq_true_eq] at hrow
    obtain ⟨⟨hd, rfl⟩, hk⟩ := hrow
    intro ad H locs lsx hW hS hag hn0 hsx hl
    obtain ⟨hP, hD, hwf⟩ := hW
    exact lv_lconst hx hb hd hk (h ad H locs lsx ⟨hP, hD, hwf⟩ hS hag hn0 hsx hl)
  | ldc n => 
    have h : MW p l e R s m args below meth c D K A ad0 n0 nL Sx Qm (nx, ls, .int kc :: st, w, nc, ns) := h
    simp only [okRow, dOk, Bool.and_eq_true, decide_eq_true_eq] at hrow
    obtain ⟨⟨hd, rfl⟩, hk⟩ := hrow
    split at hk
    · intro ad H locs lsx hW hS hag hn0 hsx hl
      obtain ⟨hP, hD, hwf⟩ := hW
      exact lv_ldc hx hb hown (hts _ (wAt_in hk)) hd (h ad H locs lsx ⟨hP, hD, hwf⟩ hS hag hn0 hsx hl)
    · exact absurd hk (by simp)
  | ldc_w n => 
    have h : MW p l e R s m args below meth c D K A ad0 n0 nL Sx Qm (nx, ls, .int kc :: st, w, nc, ns) := h
    simp only [okRow, dOk, Bool.and_eq_true, decide_eq_true_eq] at hrow
    obtain ⟨⟨hd, rfl⟩, hk⟩ := hrow
    split at hk
    · intro ad H locs lsx hW hS hag hn0 hsx hl
      obtain ⟨hP, hD, hwf⟩ := hW
      exact lv_ldcw hx hb hown (hts _ (wAt_in hk)) hd (h ad H locs lsx ⟨hP, hD, hwf⟩ hS hag hn0 hsx hl)
    · exact absurd hk (by simp)
  | ldc2_w n => 
    have h : MW p l e R s m args below meth c D K A ad0 n0 nL Sx Qm (nx, ls, .long kl :: st, w, nc, ns) := h
    simp only [okRow, dOk, Bool.and_eq_true, decide_eq_true_eq] at hrow
    obtain ⟨⟨hd, rfl⟩, hk⟩ := hrow
    split at hk
    · intro ad H locs lsx hW hS hag hn0 hsx hl
      obtain ⟨hP, hD, hwf⟩ := hW
      exact lv_ldc2 hx hb hown (hts _ (wAt_in hk)) hd (h ad H locs lsx ⟨hP, hD, hwf⟩ hS hag hn0 hsx hl)
    · exact absurd hk (by simp)
  | iload_n k => 
    obtain ⟨i, x, rfl, hlk, h9⟩ := gI_s (F := fun _ x => MW p l e R s m args below meth c D K A ad0 n0 nL Sx Qm (nx, ls, .int x :: st, w, nc, ns)) h
    simp only [okRow, dOk, Bool.and_eq_true, decide_eq_true_eq] at hrow
    obtain ⟨⟨hd, rfl⟩, hk⟩ := hrow
    intro ad H locs lsx hW hS hag hn0 hsx hl
    obtain ⟨hP, hD, hwf⟩ := hW
    exact lv_iload_n hx hb hd (List.cons.inj hk).1.symm (lv_lkp hl hlk) (h9 ad H locs lsx ⟨hP, hD, hwf⟩ hS hag hn0 hsx hl)
  | iload k => 
    obtain ⟨i, x, rfl, hlk, h9⟩ := gI_s (F := fun _ x => MW p l e R s m args below meth c D K A ad0 n0 nL Sx Qm (nx, ls, .int x :: st, w, nc, ns)) h
    simp only [okRow, dOk, Bool.and_eq_true, decide_eq_true_eq] at hrow
    obtain ⟨⟨hd, rfl⟩, hk⟩ := hrow
    have hk := (List.cons.inj hk).1
    subst hk
    intro ad H locs lsx hW hS hag hn0 hsx hl
    obtain ⟨hP, hD, hwf⟩ := hW
    exact lv_iload hx hb hd (lv_lkp hl hlk) (h9 ad H locs lsx ⟨hP, hD, hwf⟩ hS hag hn0 hsx hl)
  | lload_n k => 
    obtain ⟨i, x, rfl, hlk, h9⟩ := gL_s (F := fun _ x => MW p l e R s m args below meth c D K A ad0 n0 nL Sx Qm (nx, ls, .long x :: st, w, nc, ns)) h
    simp only [okRow, dOk, Bool.and_eq_true, decide_eq_true_eq] at hrow
    obtain ⟨⟨hd, rfl⟩, hk⟩ := hrow
    intro ad H locs lsx hW hS hag hn0 hsx hl
    obtain ⟨hP, hD, hwf⟩ := hW
    exact lv_lload_n hx hb hd (List.cons.inj hk).1.symm (lv_lkp hl hlk) (h9 ad H locs lsx ⟨hP, hD, hwf⟩ hS hag hn0 hsx hl)
  | lload k => 
    obtain ⟨i, x, rfl, hlk, h9⟩ := gL_s (F := fun _ x => MW p l e R s m args below meth c D K A ad0 n0 nL Sx Qm (nx, ls, .long x :: st, w, nc, ns)) h
    simp only [okRow, dOk, Bool.and_eq_true, decide_eq_true_eq] at hrow
    obtain ⟨⟨hd, rfl⟩, hk⟩ := hrow
    have hk := (List.cons.inj hk).1
    subst hk
    intro ad H locs lsx hW hS hag hn0 hsx hl
    obtain ⟨hP, hD, hwf⟩ := hW
    exact lv_lload hx hb hd (lv_lkp hl hlk) (h9 ad H locs lsx ⟨hP, hD, hwf⟩ hS hag hn0 hsx hl)
  | aload_n k => 
    obtain ⟨i, x, rfl, hlk, h9⟩ := gR_s (F := fun _ x => MW p l e R s m args below meth c D K A ad0 n0 nL Sx Qm (nx, ls, .ref x :: st, w, nc, ns)) h
    simp only [okRow, dOk, Bool.and_eq_true, decide_eq_true_eq] at hrow
    obtain ⟨⟨hd, rfl⟩, hk⟩ := hrow
    intro ad H locs lsx hW hS hag hn0 hsx hl
    obtain ⟨hP, hD, hwf⟩ := hW
    have h1 := h9 ad H locs lsx ⟨hP, hD, hwf⟩ hS hag hn0 hsx hl
    have h2 := lv_lkp hl hlk
    cases x with
    | zero => exact lv_aload_nN hx hb hd (List.cons.inj hk).1.symm h2 h1
    | succ x => exact lv_aload_n hx hb hd (List.cons.inj hk).1.symm h2 h1
  | aload k => 
    obtain ⟨i, x, rfl, hlk, h9⟩ := gR_s (F := fun _ x => MW p l e R s m args below meth c D K A ad0 n0 nL Sx Qm (nx, ls, .ref x :: st, w, nc, ns)) h
    simp only [okRow, dOk, Bool.and_eq_true, decide_eq_true_eq] at hrow
    obtain ⟨⟨hd, rfl⟩, hk⟩ := hrow
    have hk := (List.cons.inj hk).1
    subst hk
    intro ad H locs lsx hW hS hag hn0 hsx hl
    obtain ⟨hP, hD, hwf⟩ := hW
    have h1 := h9 ad H locs lsx ⟨hP, hD, hwf⟩ hS hag hn0 hsx hl
    have h2 := lv_lkp hl hlk
    cases x with
    | zero => exact lv_aloadN hx hb hd h2 h1
    | succ x => exact lv_aload hx hb hd h2 h1
  | istore_n k => 
    obtain ⟨i, rfl, h⟩ := a1_s (F := fun i => pI st (fun x r => MW p l e R s m args below meth c D K A ad0 n0 nL Sx Qm (nx, stI i (.int x) ls, r, w, nc, ns))) h
    obtain ⟨x, r, rfl, h⟩ := pI_s h
    simp only [okRow, dOk, Bool.and_eq_true, decide_eq_true_eq] at hrow
    obtain ⟨⟨hd, rfl⟩, hk, hlt⟩ := hrow
    have hk := (List.cons.inj hk).1
    subst hk
    intro ad H locs lsx hW hS hag hn0 hsx hl
    obtain ⟨hP, hD, hwf⟩ := hW
    exact lv_istore_n hx hb hd rfl hl (by rw [hnL]; exact hlt) (cvl_stI ad _ (.int x) ls) (fun lsy hly => h ad H locs lsy ⟨hP, hD, hwf⟩ hS hag hn0 hsx hly)
  | istore k => 
    obtain ⟨i, rfl, h⟩ := a1_s (F := fun i => pI st (fun x r => MW p l e R s m args below meth c D K A ad0 n0 nL Sx Qm (nx, stI i (.int x) ls, r, w, nc, ns))) h
    obtain ⟨x, r, rfl, h⟩ := pI_s h
    simp only [okRow, dOk, Bool.and_eq_true, decide_eq_true_eq] at hrow
    obtain ⟨⟨hd, rfl⟩, hk, hlt⟩ := hrow
    have hk := (List.cons.inj hk).1
    subst hk
    intro ad H locs lsx hW hS hag hn0 hsx hl
    obtain ⟨hP, hD, hwf⟩ := hW
    exact lv_istore hx hb hd hl (by rw [hnL]; exact hlt) (cvl_stI ad _ (.int x) ls) (fun lsy hly => h ad H locs lsy ⟨hP, hD, hwf⟩ hS hag hn0 hsx hly)
  | lstore_n k => 
    obtain ⟨i, rfl, h⟩ := a1_s (F := fun i => pL st (fun x r => MW p l e R s m args below meth c D K A ad0 n0 nL Sx Qm (nx, stL i (.long x) ls, r, w, nc, ns))) h
    obtain ⟨x, r, rfl, h⟩ := pL_s h
    simp only [okRow, dOk, Bool.and_eq_true, decide_eq_true_eq] at hrow
    obtain ⟨⟨hd, rfl⟩, hk, hlt⟩ := hrow
    have hk := (List.cons.inj hk).1
    subst hk
    intro ad H locs lsx hW hS hag hn0 hsx hl
    obtain ⟨hP, hD, hwf⟩ := hW
    exact lv_lstore_n hx hb hd rfl hl (by rw [hnL]; exact hlt) (cvl_stL ad _ (.long x) ls) (fun lsy hly => h ad H locs lsy ⟨hP, hD, hwf⟩ hS hag hn0 hsx hly)
  | lstore k => 
    obtain ⟨i, rfl, h⟩ := a1_s (F := fun i => pL st (fun x r => MW p l e R s m args below meth c D K A ad0 n0 nL Sx Qm (nx, stL i (.long x) ls, r, w, nc, ns))) h
    obtain ⟨x, r, rfl, h⟩ := pL_s h
    simp only [okRow, dOk, Bool.and_eq_true, decide_eq_true_eq] at hrow
    obtain ⟨⟨hd, rfl⟩, hk, hlt⟩ := hrow
    have hk := (List.cons.inj hk).1
    subst hk
    intro ad H locs lsx hW hS hag hn0 hsx hl
    obtain ⟨hP, hD, hwf⟩ := hW
    exact lv_lstore hx hb hd hl (by rw [hnL]; exact hlt) (cvl_stL ad _ (.long x) ls) (fun lsy hly => h ad H locs lsy ⟨hP, hD, hwf⟩ hS hag hn0 hsx hly)
  | astore_n k => 
    obtain ⟨i, rfl, h⟩ := a1_s (F := fun i => pR st (fun x r => MW p l e R s m args below meth c D K A ad0 n0 nL Sx Qm (nx, stI i (.ref x) ls, r, w, nc, ns))) h
    obtain ⟨x, r, rfl, h⟩ := pR_s h
    simp only [okRow, dOk, Bool.and_eq_true, decide_eq_true_eq] at hrow
    obtain ⟨⟨hd, rfl⟩, hk, hlt⟩ := hrow
    have hk := (List.cons.inj hk).1
    subst hk
    intro ad H locs lsx hW hS hag hn0 hsx hl
    obtain ⟨hP, hD, hwf⟩ := hW
    cases x with
    | zero => exact lv_astore_nN hx hb hd rfl hl (by rw [hnL]; exact hlt) (cvl_stI ad _ (.ref 0) ls) (fun lsy hly => h ad H locs lsy ⟨hP, hD, hwf⟩ hS hag hn0 hsx hly)
    | succ x => exact lv_astore_n hx hb hd rfl hl (by rw [hnL]; exact hlt) (cvl_stI ad _ (.ref (x + 1)) ls) (fun lsy hly => h ad H locs lsy ⟨hP, hD, hwf⟩ hS hag hn0 hsx hly)
  | astore k => 
    obtain ⟨i, rfl, h⟩ := a1_s (F := fun i => pR st (fun x r => MW p l e R s m args below meth c D K A ad0 n0 nL Sx Qm (nx, stI i (.ref x) ls, r, w, nc, ns))) h
    obtain ⟨x, r, rfl, h⟩ := pR_s h
    simp only [okRow, dOk, Bool.and_eq_true, decide_eq_true_eq] at hrow
    obtain ⟨⟨hd, rfl⟩, hk, hlt⟩ := hrow
    have hk := (List.cons.inj hk).1
    subst hk
    intro ad H locs lsx hW hS hag hn0 hsx hl
    obtain ⟨hP, hD, hwf⟩ := hW
    cases x with
    | zero => exact lv_astoreN hx hb hd hl (by rw [hnL]; exact hlt) (cvl_stI ad _ (.ref 0) ls) (fun lsy hly => h ad H locs lsy ⟨hP, hD, hwf⟩ hS hag hn0 hsx hly)
    | succ x => exact lv_astore hx hb hd hl (by rw [hnL]; exact hlt) (cvl_stI ad _ (.ref (x + 1)) ls) (fun lsy hly => h ad H locs lsy ⟨hP, hD, hwf⟩ hS hag hn0 hsx hly)
  | iinc i0 n => 
    obtain ⟨i, x, rfl, hlk, h9⟩ := gI_s (F := fun i x => MW p l e R s m args below meth c D K A ad0 n0 nL Sx Qm (nx, stI i (.int (x + kc)) ls, st, w, nc, ns)) h
    simp only [okRow, dOk, Bool.and_eq_true, decide_eq_true_eq] at hrow
    obtain ⟨⟨hd, rfl⟩, hk, hkc, hlt⟩ := hrow
    have hk := (List.cons.inj hk).1
    subst hk
    intro ad H locs lsx hW hS hag hn0 hsx hl
    obtain ⟨hP, hD, hwf⟩ := hW
    obtain ⟨q, hq⟩ := lkp_cvl (ad := ad) hlk
    exact lv_iinc hx hb hd hl hq (by rw [hkc]) (by rw [hnL]; exact hlt) (cvl_stI ad _ (.int (x + kc)) ls) (fun lsy hly => h9 ad H locs lsy ⟨hP, hD, hwf⟩ hS hag hn0 hsx hly)
  | iadd  => 
    obtain ⟨y, r1, rfl, h⟩ := pI_s (F := fun y r1 => pI r1 (fun x r => MW p l e R s m args below meth c D K A ad0 n0 nL Sx Qm (nx, ls, .int (x + y) :: r, w, nc, ns))) h
    obtain ⟨x, r, rfl, h⟩ := pI_s h
    simp only [okRow, dOk, Bool.and_eq_true, decide_eq_true_eq] at hrow
    obtain ⟨hd, rfl⟩ := hrow
    intro ad H locs lsx hW hS hag hn0 hsx hl
    obtain ⟨hP, hD, hwf⟩ := hW
    exact lv_iadd hx hb hd (h ad H locs lsx ⟨hP, hD, hwf⟩ hS hag hn0 hsx hl)
  | isub  => 
    obtain ⟨y, r1, rfl, h⟩ := pI_s (F := fun y r1 => pI r1 (fun x r => MW p l e R s m args below meth c D K A ad0 n0 nL Sx Qm (nx, ls, .int (x - y) :: r, w, nc, ns))) h
    obtain ⟨x, r, rfl, h⟩ := pI_s h
    simp only [okRow, dOk, Bool.and_eq_true, decide_eq_true_eq] at hrow
    obtain ⟨hd, rfl⟩ := hrow
    intro ad H locs lsx hW hS hag hn0 hsx hl
    obtain ⟨hP, hD, hwf⟩ := hW
    exact lv_isub hx hb hd (h ad H locs lsx ⟨hP, hD, hwf⟩ hS hag hn0 hsx hl)
  | imul  => 
    obtain ⟨y, r1, rfl, h⟩ := pI_s (F := fun y r1 => pI r1 (fun x r => MW p l e R s m args below meth c D K A ad0 n0 nL Sx Qm (nx, ls, .int (x * y) :: r, w, nc, ns))) h
    obtain ⟨x, r, rfl, h⟩ := pI_s h
    simp only [okRow, dOk, Bool.and_eq_true, decide_eq_true_eq] at hrow
    obtain ⟨hd, rfl⟩ := hrow
    intro ad H locs lsx hW hS hag hn0 hsx hl
    obtain ⟨hP, hD, hwf⟩ := hW
    exact lv_imul hx hb hd (h ad H locs lsx ⟨hP, hD, hwf⟩ hS hag hn0 hsx hl)
  | iand  => 
    obtain ⟨y, r1, rfl, h⟩ := pI_s (F := fun y r1 => pI r1 (fun x r => MW p l e R s m args below meth c D K A ad0 n0 nL Sx Qm (nx, ls, .int (x &&& y) :: r, w, nc, ns))) h
    obtain ⟨x, r, rfl, h⟩ := pI_s h
    simp only [okRow, dOk, Bool.and_eq_true, decide_eq_true_eq] at hrow
    obtain ⟨hd, rfl⟩ := hrow
    intro ad H locs lsx hW hS hag hn0 hsx hl
    obtain ⟨hP, hD, hwf⟩ := hW
    exact lv_iand hx hb hd (h ad H locs lsx ⟨hP, hD, hwf⟩ hS hag hn0 hsx hl)
  | idiv  => 
    obtain ⟨y, r1, rfl, h⟩ := pI_s (F := fun y r1 => pI r1 (fun x r => (¬ y = 0) ∧ MW p l e R s m args below meth c D K A ad0 n0 nL Sx Qm (nx, ls, .int (x / y) :: r, w, nc, ns))) h
    obtain ⟨x, r, rfl, h⟩ := pI_s h
    obtain ⟨hne, h⟩ := h
    simp only [okRow, dOk, Bool.and_eq_true, decide_eq_true_eq] at hrow
    obtain ⟨hd, rfl⟩ := hrow
    intro ad H locs lsx hW hS hag hn0 hsx hl
    obtain ⟨hP, hD, hwf⟩ := hW
    exact lv_idiv hx hb hd hne (h ad H locs lsx ⟨hP, hD, hwf⟩ hS hag hn0 hsx hl)
  | irem  => 
    obtain ⟨y, r1, rfl, h⟩ := pI_s (F := fun y r1 => pI r1 (fun x r => (¬ y = 0) ∧ MW p l e R s m args below meth c D K A ad0 n0 nL Sx Qm (nx, ls, .int (x - x / y * y) :: r, w, nc, ns))) h
    obtain ⟨x, r, rfl, h⟩ := pI_s h
    obtain ⟨hne, h⟩ := h
    simp only [okRow, dOk, Bool.and_eq_true, decide_eq_true_eq] at hrow
    obtain ⟨hd, rfl⟩ := hrow
    intro ad H locs lsx hW hS hag hn0 hsx hl
    obtain ⟨hP, hD, hwf⟩ := hW
    exact lv_irem hx hb hd hne (h ad H locs lsx ⟨hP, hD, hwf⟩ hS hag hn0 hsx hl)
  | ladd  => 
    obtain ⟨y, r1, rfl, h⟩ := pL_s (F := fun y r1 => pL r1 (fun x r => MW p l e R s m args below meth c D K A ad0 n0 nL Sx Qm (nx, ls, .long (x + y) :: r, w, nc, ns))) h
    obtain ⟨x, r, rfl, h⟩ := pL_s h
    simp only [okRow, dOk, Bool.and_eq_true, decide_eq_true_eq] at hrow
    obtain ⟨hd, rfl⟩ := hrow
    intro ad H locs lsx hW hS hag hn0 hsx hl
    obtain ⟨hP, hD, hwf⟩ := hW
    exact lv_ladd hx hb hd (h ad H locs lsx ⟨hP, hD, hwf⟩ hS hag hn0 hsx hl)
  | lsub  => 
    obtain ⟨y, r1, rfl, h⟩ := pL_s (F := fun y r1 => pL r1 (fun x r => MW p l e R s m args below meth c D K A ad0 n0 nL Sx Qm (nx, ls, .long (x - y) :: r, w, nc, ns))) h
    obtain ⟨x, r, rfl, h⟩ := pL_s h
    simp only [okRow, dOk, Bool.and_eq_true, decide_eq_true_eq] at hrow
    obtain ⟨hd, rfl⟩ := hrow
    intro ad H locs lsx hW hS hag hn0 hsx hl
    obtain ⟨hP, hD, hwf⟩ := hW
    exact lv_lsub hx hb hd (h ad H locs lsx ⟨hP, hD, hwf⟩ hS hag hn0 hsx hl)
  | lmul  => 
    obtain ⟨y, r1, rfl, h⟩ := pL_s (F := fun y r1 => pL r1 (fun x r => MW p l e R s m args below meth c D K A ad0 n0 nL Sx Qm (nx, ls, .long (x * y) :: r, w, nc, ns))) h
    obtain ⟨x, r, rfl, h⟩ := pL_s h
    simp only [okRow, dOk, Bool.and_eq_true, decide_eq_true_eq] at hrow
    obtain ⟨hd, rfl⟩ := hrow
    intro ad H locs lsx hW hS hag hn0 hsx hl
    obtain ⟨hP, hD, hwf⟩ := hW
    exact lv_lmul hx hb hd (h ad H locs lsx ⟨hP, hD, hwf⟩ hS hag hn0 hsx hl)
  | land  => 
    obtain ⟨y, r1, rfl, h⟩ := pL_s (F := fun y r1 => pL r1 (fun x r => MW p l e R s m args below meth c D K A ad0 n0 nL Sx Qm (nx, ls, .long (x &&& y) :: r, w, nc, ns))) h
    obtain ⟨x, r, rfl, h⟩ := pL_s h
    simp only [okRow, dOk, Bool.and_eq_true, decide_eq_true_eq] at hrow
    obtain ⟨hd, rfl⟩ := hrow
    intro ad H locs lsx hW hS hag hn0 hsx hl
    obtain ⟨hP, hD, hwf⟩ := hW
    exact lv_land hx hb hd (h ad H locs lsx ⟨hP, hD, hwf⟩ hS hag hn0 hsx hl)
  | lor  => 
    obtain ⟨y, r1, rfl, h⟩ := pL_s (F := fun y r1 => pL r1 (fun x r => MW p l e R s m args below meth c D K A ad0 n0 nL Sx Qm (nx, ls, .long (x ||| y) :: r, w, nc, ns))) h
    obtain ⟨x, r, rfl, h⟩ := pL_s h
    simp only [okRow, dOk, Bool.and_eq_true, decide_eq_true_eq] at hrow
    obtain ⟨hd, rfl⟩ := hrow
    intro ad H locs lsx hW hS hag hn0 hsx hl
    obtain ⟨hP, hD, hwf⟩ := hW
    exact lv_lor hx hb hd (h ad H locs lsx ⟨hP, hD, hwf⟩ hS hag hn0 hsx hl)
  | ldiv  => 
    obtain ⟨y, r1, rfl, h⟩ := pL_s (F := fun y r1 => pL r1 (fun x r => (¬ y = 0) ∧ MW p l e R s m args below meth c D K A ad0 n0 nL Sx Qm (nx, ls, .long (x / y) :: r, w, nc, ns))) h
    obtain ⟨x, r, rfl, h⟩ := pL_s h
    obtain ⟨hne, h⟩ := h
    simp only [okRow, dOk, Bool.and_eq_true, decide_eq_true_eq] at hrow
    obtain ⟨hd, rfl⟩ := hrow
    intro ad H locs lsx hW hS hag hn0 hsx hl
    obtain ⟨hP, hD, hwf⟩ := hW
    exact lv_ldiv hx hb hd hne (h ad H locs lsx ⟨hP, hD, hwf⟩ hS hag hn0 hsx hl)
  | lrem  => 
    obtain ⟨y, r1, rfl, h⟩ := pL_s (F := fun y r1 => pL r1 (fun x r => (¬ y = 0) ∧ MW p l e R s m args below meth c D K A ad0 n0 nL Sx Qm (nx, ls, .long (x - x / y * y) :: r, w, nc, ns))) h
    obtain ⟨x, r, rfl, h⟩ := pL_s h
    obtain ⟨hne, h⟩ := h
    simp only [okRow, dOk, Bool.and_eq_true, decide_eq_true_eq] at hrow
    obtain ⟨hd, rfl⟩ := hrow
    intro ad H locs lsx hW hS hag hn0 hsx hl
    obtain ⟨hP, hD, hwf⟩ := hW
    exact lv_lrem hx hb hd hne (h ad H locs lsx ⟨hP, hD, hwf⟩ hS hag hn0 hsx hl)
  | lushr  => 
    obtain ⟨y, r1, rfl, h⟩ := pI_s (F := fun y r1 => pL r1 (fun x r => MW p l e R s m args below meth c D K A ad0 n0 nL Sx Qm (nx, ls, .long ((x.toUInt64 >>> (y.toInt64.toUInt64 &&& Int64.toUInt64 63)).toInt64) :: r, w, nc, ns))) h
    obtain ⟨x, r, rfl, h⟩ := pL_s h
    simp only [okRow, dOk, Bool.and_eq_true, decide_eq_true_eq] at hrow
    obtain ⟨hd, rfl⟩ := hrow
    intro ad H locs lsx hW hS hag hn0 hsx hl
    obtain ⟨hP, hD, hwf⟩ := hW
    exact lv_lushr hx hb hd rfl (h ad H locs lsx ⟨hP, hD, hwf⟩ hS hag hn0 hsx hl)
  | lshl  => 
    obtain ⟨y, r1, rfl, h⟩ := pI_s (F := fun y r1 => pL r1 (fun x r => MW p l e R s m args below meth c D K A ad0 n0 nL Sx Qm (nx, ls, .long (x <<< (y.toInt64 &&& 63)) :: r, w, nc, ns))) h
    obtain ⟨x, r, rfl, h⟩ := pL_s h
    simp only [okRow, dOk, Bool.and_eq_true, decide_eq_true_eq] at hrow
    obtain ⟨hd, rfl⟩ := hrow
    intro ad H locs lsx hW hS hag hn0 hsx hl
    obtain ⟨hP, hD, hwf⟩ := hW
    exact lv_lshl hx hb hd rfl (h ad H locs lsx ⟨hP, hD, hwf⟩ hS hag hn0 hsx hl)
  | i2l  => 
    obtain ⟨x, r, rfl, h⟩ := pI_s (F := fun x r => MW p l e R s m args below meth c D K A ad0 n0 nL Sx Qm (nx, ls, .long x.toInt64 :: r, w, nc, ns)) h
    simp only [okRow, dOk, Bool.and_eq_true, decide_eq_true_eq] at hrow
    obtain ⟨hd, rfl⟩ := hrow
    intro ad H locs lsx hW hS hag hn0 hsx hl
    obtain ⟨hP, hD, hwf⟩ := hW
    exact lv_i2l hx hb hd rfl (h ad H locs lsx ⟨hP, hD, hwf⟩ hS hag hn0 hsx hl)
  | l2i  => 
    obtain ⟨x, r, rfl, h⟩ := pL_s (F := fun x r => MW p l e R s m args below meth c D K A ad0 n0 nL Sx Qm (nx, ls, .int x.toInt32 :: r, w, nc, ns)) h
    simp only [okRow, dOk, Bool.and_eq_true, decide_eq_true_eq] at hrow
    obtain ⟨hd, rfl⟩ := hrow
    intro ad H locs lsx hW hS hag hn0 hsx hl
    obtain ⟨hP, hD, hwf⟩ := hW
    exact lv_l2i hx hb hd rfl (h ad H locs lsx ⟨hP, hD, hwf⟩ hS hag hn0 hsx hl)
  | lcmp  => 
    obtain ⟨y, r1, rfl, h⟩ := pL_s (F := fun y r1 => pL r1 (fun x r => MW p l e R s m args below meth c D K A ad0 n0 nL Sx Qm (nx, ls, .int (lg_cmp x y) :: r, w, nc, ns))) h
    obtain ⟨x, r, rfl, h⟩ := pL_s h
    simp only [okRow, dOk, Bool.and_eq_true, decide_eq_true_eq] at hrow
    obtain ⟨hd, rfl⟩ := hrow
    intro ad H locs lsx hW hS hag hn0 hsx hl
    obtain ⟨hP, hD, hwf⟩ := hW
    exact W.lcmp hx hb hd (h ad H locs lsx ⟨hP, hD, hwf⟩ hS hag hn0 hsx hl)
  | dup  => 
    obtain ⟨v, r, rfl, hv, h⟩ := p1_s (F := fun v r => MW p l e R s m args below meth c D K A ad0 n0 nL Sx Qm (nx, ls, v :: v :: r, w, nc, ns)) h
    simp only [okRow, dOk, Bool.and_eq_true, decide_eq_true_eq] at hrow
    obtain ⟨hd, rfl⟩ := hrow
    intro ad H locs lsx hW hS hag hn0 hsx hl
    obtain ⟨hP, hD, hwf⟩ := hW
    exact lv_dup hx hb hd ((cv_cat ad v).trans hv) (h ad H locs lsx ⟨hP, hD, hwf⟩ hS hag hn0 hsx hl)
  | dup2  => 
    obtain ⟨v, r1, rfl, hv, h⟩ := p1_s (F := fun v r1 => p1 r1 (fun u r => MW p l e R s m args below meth c D K A ad0 n0 nL Sx Qm (nx, ls, v :: u :: v :: u :: r, w, nc, ns))) h
    obtain ⟨u, r, rfl, hu, h⟩ := p1_s h
    simp only [okRow, dOk, Bool.and_eq_true, decide_eq_true_eq] at hrow
    obtain ⟨hd, rfl⟩ := hrow
    intro ad H locs lsx hW hS hag hn0 hsx hl
    obtain ⟨hP, hD, hwf⟩ := hW
    exact lv_dup2_11 hx hb hd ((cv_cat ad v).trans hv) ((cv_cat ad u).trans hu) (h ad H locs lsx ⟨hP, hD, hwf⟩ hS hag hn0 hsx hl)
  | pop  => 
    obtain ⟨v, r, rfl, hv, h⟩ := p1_s (F := fun _ r => MW p l e R s m args below meth c D K A ad0 n0 nL Sx Qm (nx, ls, r, w, nc, ns)) h
    simp only [okRow, dOk, Bool.and_eq_true, decide_eq_true_eq] at hrow
    obtain ⟨hd, rfl⟩ := hrow
    intro ad H locs lsx hW hS hag hn0 hsx hl
    obtain ⟨hP, hD, hwf⟩ := hW
    exact lv_pop hx hb hd ((cv_cat ad v).trans hv) (h ad H locs lsx ⟨hP, hD, hwf⟩ hS hag hn0 hsx hl)
  | ifCond o off => 
    obtain ⟨t, rfl, h⟩ := a1_s (F := fun t => pI st (fun x r => brE o x 0 (MW p l e R s m args below meth c D K A ad0 n0 nL Sx Qm (t, ls, r, w, nc, ns)) (MW p l e R s m args below meth c D K A ad0 n0 nL Sx Qm (nx, ls, r, w, nc, ns)))) h
    obtain ⟨x, r, rfl, h⟩ := pI_s h
    simp only [okRow, dOk, Bool.and_eq_true, decide_eq_true_eq] at hrow
    obtain ⟨⟨hd, rfl⟩, ht⟩ := hrow
    simp only [tOk, decide_eq_true_eq] at ht
    intro ad H locs lsx hW hS hag hn0 hsx hl
    obtain ⟨hP, hD, hwf⟩ := hW
    cases o with
    | eq => exact lv_if_eq hx hb hd ht (fun q => h.1 q ad H locs lsx ⟨hP, hD, hwf⟩ hS hag hn0 hsx hl) (fun q => h.2 q ad H locs lsx ⟨hP, hD, hwf⟩ hS hag hn0 hsx hl)
    | ne => exact lv_if_ne hx hb hd ht (fun q => h.1 q ad H locs lsx ⟨hP, hD, hwf⟩ hS hag hn0 hsx hl) (fun q => h.2 q ad H locs lsx ⟨hP, hD, hwf⟩ hS hag hn0 hsx hl)
    | lt => exact lv_if_lt hx hb hd ht (fun q => h.1 q ad H locs lsx ⟨hP, hD, hwf⟩ hS hag hn0 hsx hl) (fun q => h.2 q ad H locs lsx ⟨hP, hD, hwf⟩ hS hag hn0 hsx hl)
    | ge => exact lv_if_ge hx hb hd ht (fun q => h.1 q ad H locs lsx ⟨hP, hD, hwf⟩ hS hag hn0 hsx hl) (fun q => h.2 q ad H locs lsx ⟨hP, hD, hwf⟩ hS hag hn0 hsx hl)
    | gt => exact lv_if_gt hx hb hd ht (fun q => h.1 q ad H locs lsx ⟨hP, hD, hwf⟩ hS hag hn0 hsx hl) (fun q => h.2 q ad H locs lsx ⟨hP, hD, hwf⟩ hS hag hn0 hsx hl)
    | le => exact lv_if_le hx hb hd ht (fun q => h.1 q ad H locs lsx ⟨hP, hD, hwf⟩ hS hag hn0 hsx hl) (fun q => h.2 q ad H locs lsx ⟨hP, hD, hwf⟩ hS hag hn0 hsx hl)
  | if_icmp o off => 
    obtain ⟨t, rfl, h⟩ := a1_s (F := fun t => pI st (fun y r1 => pI r1 (fun x r => brE o x y (MW p l e R s m args below meth c D K A ad0 n0 nL Sx Qm (t, ls, r, w, nc, ns)) (MW p l e R s m args below meth c D K A ad0 n0 nL Sx Qm (nx, ls, r, w, nc, ns))))) h
    obtain ⟨y, r1, rfl, h⟩ := pI_s h
    obtain ⟨x, r, rfl, h⟩ := pI_s h
    simp only [okRow, dOk, Bool.and_eq_true, decide_eq_true_eq] at hrow
    obtain ⟨⟨hd, rfl⟩, ht⟩ := hrow
    simp only [tOk, decide_eq_true_eq] at ht
    intro ad H locs lsx hW hS hag hn0 hsx hl
    obtain ⟨hP, hD, hwf⟩ := hW
    cases o with
    | eq => exact lv_icmp_eq hx hb hd ht (fun q => h.1 q ad H locs lsx ⟨hP, hD, hwf⟩ hS hag hn0 hsx hl) (fun q => h.2 q ad H locs lsx ⟨hP, hD, hwf⟩ hS hag hn0 hsx hl)
    | ne => exact lv_icmp_ne hx hb hd ht (fun q => h.1 q ad H locs lsx ⟨hP, hD, hwf⟩ hS hag hn0 hsx hl) (fun q => h.2 q ad H locs lsx ⟨hP, hD, hwf⟩ hS hag hn0 hsx hl)
    | lt => exact lv_icmp_lt hx hb hd ht (fun q => h.1 q ad H locs lsx ⟨hP, hD, hwf⟩ hS hag hn0 hsx hl) (fun q => h.2 q ad H locs lsx ⟨hP, hD, hwf⟩ hS hag hn0 hsx hl)
    | ge => exact lv_icmp_ge hx hb hd ht (fun q => h.1 q ad H locs lsx ⟨hP, hD, hwf⟩ hS hag hn0 hsx hl) (fun q => h.2 q ad H locs lsx ⟨hP, hD, hwf⟩ hS hag hn0 hsx hl)
    | gt => exact lv_icmp_gt hx hb hd ht (fun q => h.1 q ad H locs lsx ⟨hP, hD, hwf⟩ hS hag hn0 hsx hl) (fun q => h.2 q ad H locs lsx ⟨hP, hD, hwf⟩ hS hag hn0 hsx hl)
    | le => exact lv_icmp_le hx hb hd ht (fun q => h.1 q ad H locs lsx ⟨hP, hD, hwf⟩ hS hag hn0 hsx hl) (fun q => h.2 q ad H locs lsx ⟨hP, hD, hwf⟩ hS hag hn0 hsx hl)
  | goto off => 
    obtain ⟨t, rfl, h⟩ := a1_s (F := fun t => MW p l e R s m args below meth c D K A ad0 n0 nL Sx Qm (t, ls, st, w, nc, ns)) h
    simp only [okRow, dOk, Bool.and_eq_true, decide_eq_true_eq] at hrow
    obtain ⟨⟨hd, rfl⟩, ht⟩ := hrow
    simp only [tOk, decide_eq_true_eq] at ht
    intro ad H locs lsx hW hS hag hn0 hsx hl
    obtain ⟨hP, hD, hwf⟩ := hW
    exact lv_goto hx hb hd ht (h ad H locs lsx ⟨hP, hD, hwf⟩ hS hag hn0 hsx hl)
  | ifnull off => 
    obtain ⟨t, rfl, h⟩ := a1_s (F := fun t => pR st (fun x r => (x = 0 → MW p l e R s m args below meth c D K A ad0 n0 nL Sx Qm (t, ls, r, w, nc, ns)) ∧ (¬ x = 0 → MW p l e R s m args below meth c D K A ad0 n0 nL Sx Qm (nx, ls, r, w, nc, ns)))) h
    obtain ⟨x, r, rfl, h⟩ := pR_s h
    simp only [okRow, dOk, Bool.and_eq_true, decide_eq_true_eq] at hrow
    obtain ⟨⟨hd, rfl⟩, ht⟩ := hrow
    simp only [tOk, decide_eq_true_eq] at ht
    intro ad H locs lsx hW hS hag hn0 hsx hl
    obtain ⟨hP, hD, hwf⟩ := hW
    cases x with
    | zero => exact lv_ifnullN hx hb hd ht (h.1 rfl ad H locs lsx ⟨hP, hD, hwf⟩ hS hag hn0 hsx hl)
    | succ x => exact lv_ifnull hx hb hd (h.2 (by omega) ad H locs lsx ⟨hP, hD, hwf⟩ hS hag hn0 hsx hl)
  | tableswitch d lo hi offs => 
    obtain ⟨dt, ks, rfl, h⟩ := aC_s (F := fun d ks => pI st (fun x r => swC x ks d (fun t => MW p l e R s m args below meth c D K A ad0 n0 nL Sx Qm (t, ls, r, w, nc, ns)))) h
    obtain ⟨x, r, rfl, h⟩ := pI_s h
    simp only [okRow, dOk, Bool.and_eq_true, decide_eq_true_eq] at hrow
    obtain ⟨hd, hdt, hsw, hhi, hlo, hln⟩ := hrow
    have hq := swT ks lo offs.toList hsw hlo hln h
    intro ad H locs lsx hW hS hag hn0 hsx hl
    obtain ⟨hP, hD, hwf⟩ := hW
    by_cases hout : x.toInt < lo ∨ hi < x.toInt
    · exact lv_tableOut hx hb hd hout hdt (hq.1 (by omega) ad H locs lsx ⟨hP, hD, hwf⟩ hS hag hn0 hsx hl)
    · have hi1 : (x.toInt - lo).toNat < offs.toList.length := by omega
      obtain ⟨t, ht, hX⟩ := hq.2 (x.toInt - lo).toNat (offs.toList[(x.toInt - lo).toNat]) (List.getElem?_eq_getElem hi1) (by omega)
      exact lv_tableIn hx hb hd (fun q => hout (Or.inl q)) (fun q => hout (Or.inr q)) (by rw [← Array.getElem?_toList]; exact List.getElem?_eq_getElem hi1) ht (hX ad H locs lsx ⟨hP, hD, hwf⟩ hS hag hn0 hsx hl)
  | lookupswitch d ps => 
    obtain ⟨dt, ks, rfl, h⟩ := aC_s (F := fun d ks => pI st (fun x r => swC x ks d (fun t => MW p l e R s m args below meth c D K A ad0 n0 nL Sx Qm (t, ls, r, w, nc, ns)))) h
    obtain ⟨x, r, rfl, h⟩ := pI_s h
    simp only [okRow, dOk, Bool.and_eq_true, decide_eq_true_eq] at hrow
    obtain ⟨hd, hdt, hsw, hso⟩ := hrow
    obtain ⟨t, ht, hX⟩ := swL hdt ks ps.toList hsw h
    intro ad H locs lsx hW hS hag hn0 hsx hl
    obtain ⟨hP, hD, hwf⟩ := hW
    exact lv_lookup hx hb hd hso rfl ht (hX ad H locs lsx ⟨hP, hD, hwf⟩ hS hag hn0 hsx hl)
  | _ => exact absurd hs (by simp [isS])
end
section
/-! SOUNDNESS OF ONE STEP: fields, arrays, new cells -/
theorem wf_in {w : Wd} (h : WFw w) {a ci : Nat} (hk : w.1.2.1 a = ci) (hc : ci < 20) : 1 ≤ a ∧ a ≤ w.1.1 := h.1 a (by rw [hk]; exact hc)
theorem tysK_8 (K : Nat → ClassId) : (tysK K)[0]? = some (K 8, .int) := rfl
theorem tysK_9 (K : Nat → ClassId) : (tysK K)[1]? = some (K 9, .boolean) := rfl
theorem tysK_10 (K : Nat → ClassId) : (tysK K)[2]? = some (K 10, .long) := rfl
theorem tysK_11 (K : Nat → ClassId) : (tysK K)[3]? = some (K 11, .object "OdometerRing$Odometer") := rfl
theorem ws_obj {K : Nat → ClassId} {ad : Nat → Nat} {w : Wd} (hwf : WFw w) {a ci : Nat} (hk : w.1.2.1 a = ci) (hc : ci < 8) : (wsW K ad w)[a - 1]? = some (ad a, .inr (ci, (List.range (nF ci)).map (fldV ad w ci a))) := by
  obtain ⟨h1, h2⟩ := wf_in hwf hk (by omega)
  rw [wsW_at K ad w h1 h2, cellW_obj K ad w hk hc]
theorem ws_8 {K : Nat → ClassId} {ad : Nat → Nat} {w : Wd} (hwf : WFw w) {a : Nat} (hk : w.1.2.1 a = 8) : (wsW K ad w)[a - 1]? = some (ad a, .inl (K 8, w.1.2.2.1 a, .inl (w.2.1 a))) := by
  obtain ⟨h1, h2⟩ := wf_in hwf hk (by omega)
  rw [wsW_at K ad w h1 h2, cellW_8 K ad w hk]
theorem ws_9 {K : Nat → ClassId} {ad : Nat → Nat} {w : Wd} (hwf : WFw w) {a : Nat} (hk : w.1.2.1 a = 9) : (wsW K ad w)[a - 1]? = some (ad a, .inl (K 9, w.1.2.2.1 a, .inl (w.2.1 a))) := by
  obtain ⟨h1, h2⟩ := wf_in hwf hk (by omega)
  rw [wsW_at K ad w h1 h2, cellW_9 K ad w hk]
theorem ws_10 {K : Nat → ClassId} {ad : Nat → Nat} {w : Wd} (hwf : WFw w) {a : Nat} (hk : w.1.2.1 a = 10) : (wsW K ad w)[a - 1]? = some (ad a, .inl (K 10, w.1.2.2.1 a, .inr (.inl (w.2.2 a)))) := by
  obtain ⟨h1, h2⟩ := wf_in hwf hk (by omega)
  rw [wsW_at K ad w h1 h2, cellW_10 K ad w hk]
theorem ws_11 {K : Nat → ClassId} {ad : Nat → Nat} {w : Wd} (hwf : WFw w) {a : Nat} (hk : w.1.2.1 a = 11) : (wsW K ad w)[a - 1]? = some (ad a, .inl (K 11, w.1.2.2.1 a, .inr (.inr (.inr (.inr (fun k => rfo ad (w.1.2.2.2 a k))))))) := by
  obtain ⟨h1, h2⟩ := wf_in hwf hk (by omega)
  rw [wsW_at K ad w h1 h2, cellW_11 K ad w hk]
theorem fs_at (ad : Nat → Nat) (w : Wd) {ci a k : Nat} (hk : k < nF ci) : ((List.range (nF ci)).map (fldV ad w ci a))[k]? = some (fldV ad w ci a k) := by
  simp [List.getElem?_map, List.getElem?_range hk]
theorem fld_ref {ad : Nat → Nat} {w : Wd} {ci a k : Nat} (h : fK ci k = 1) : fldV ad w ci a k = cv ad (.ref (w.1.2.2.2 a k)) := if_pos h
theorem fld_int {ad : Nat → Nat} {w : Wd} {ci a k : Nat} (h : ¬ fK ci k = 1) : fldV ad w ci a k = .int (w.2.1 a k) := if_neg h
/-- an object's field of ints is written -/
theorem ws_putI {K : Nat → ClassId} {ad : Nat → Nat} {w : Wd} (hwf : WFw w) {a ci k : Nat} (hk : w.1.2.1 a = ci) (hc : ci < 8) (hf : ¬ fK ci k = 1) (x : Int32) : (wsW K ad w).set (a - 1) (ad a, .inr (ci, ((List.range (nF ci)).map (fldV ad w ci a)).set k (.int x))) = wsW K ad (wI w a (upd (w.2.1 a) k x)) := by
  obtain ⟨h1, h2⟩ := wf_in hwf hk (by omega)
  refine wsW_set K ad w _ h1 h2 rfl (fun i hi => cellW_wI_n K ad w _ hi) ?_
  rw [cellW_obj K ad _ (show (wI w a (upd (w.2.1 a) k x)).1.2.1 a = ci from hk) hc]
  congr 2
  refine (fld_set ad w (wI w a (upd (w.2.1 a) k x)) (fun q hq => ?_) ?_).symm
  · unfold fldV
    have e : (wI w a (upd (w.2.1 a) k x)).2.1 a q = w.2.1 a q := by
      show upA w.2.1 a _ a q = _
      rw [upA_s]
      simp [upd, hq]
    rw [e]
    rfl
  · rw [fld_int hf]
    show Value.int (upA w.2.1 a _ a k) = _
    rw [upA_s]
    simp [upd]
theorem ws_putR {K : Nat → ClassId} {ad : Nat → Nat} {w : Wd} (hwf : WFw w) {a ci k : Nat} (hk : w.1.2.1 a = ci) (hc : ci < 8) (hf : fK ci k = 1) (x : Nat) : (wsW K ad w).set (a - 1) (ad a, .inr (ci, ((List.range (nF ci)).map (fldV ad w ci a)).set k (cv ad (.ref x)))) = wsW K ad (wR w a (upA (w.1.2.2.2 a) k x)) := by
  obtain ⟨h1, h2⟩ := wf_in hwf hk (by omega)
  refine wsW_set K ad w _ h1 h2 rfl (fun i hi => cellW_wR_n K ad w _ hi) ?_
  rw [cellW_obj K ad _ (show (wR w a (upA (w.1.2.2.2 a) k x)).1.2.1 a = ci from hk) hc]
  congr 2
  refine (fld_set ad w (wR w a (upA (w.1.2.2.2 a) k x)) (fun q hq => ?_) ?_).symm
  · unfold fldV
    have e : (wR w a (upA (w.1.2.2.2 a) k x)).1.2.2.2 a q = w.1.2.2.2 a q := by
      show upA w.1.2.2.2 a _ a q = _
      rw [upA_s, upA_n _ _ hq]
    rw [e]
    rfl
  · rw [fld_ref hf]
    show cv ad (.ref (upA w.1.2.2.2 a _ a k)) = _
    rw [upA_s, upA_s]
theorem ws_setI {K : Nat → ClassId} {ad : Nat → Nat} {w : Wd} (hwf : WFw w) {a : Nat} (g : Nat → Int32) (hk : w.1.2.1 a = 8) : (wsW K ad w).set (a - 1) (ad a, .inl (K 8, w.1.2.2.1 a, .inl g)) = wsW K ad (wI w a g) := by
  obtain ⟨h1, h2⟩ := wf_in hwf hk (by omega)
  refine wsW_set K ad w _ h1 h2 rfl (fun i hi => cellW_wI_n K ad w _ hi) ?_
  rw [cellW_8 K ad _ (show (wI w a g).1.2.1 a = 8 from hk)]
  have e : (wI w a g).2.1 a = g := upA_s _ _ _
  rw [e]
  rfl
theorem ws_setZ {K : Nat → ClassId} {ad : Nat → Nat} {w : Wd} (hwf : WFw w) {a : Nat} (g : Nat → Int32) (hk : w.1.2.1 a = 9) : (wsW K ad w).set (a - 1) (ad a, .inl (K 9, w.1.2.2.1 a, .inl g)) = wsW K ad (wI w a g) := by
  obtain ⟨h1, h2⟩ := wf_in hwf hk (by omega)
  refine wsW_set K ad w _ h1 h2 rfl (fun i hi => cellW_wI_n K ad w _ hi) ?_
  rw [cellW_9 K ad _ (show (wI w a g).1.2.1 a = 9 from hk)]
  have e : (wI w a g).2.1 a = g := upA_s _ _ _
  rw [e]
  rfl
theorem ws_setJ {K : Nat → ClassId} {ad : Nat → Nat} {w : Wd} (hwf : WFw w) {a : Nat} (g : Nat → Int64) (hk : w.1.2.1 a = 10) : (wsW K ad w).set (a - 1) (ad a, .inl (K 10, w.1.2.2.1 a, .inr (.inl g))) = wsW K ad (wJ w a g) := by
  obtain ⟨h1, h2⟩ := wf_in hwf hk (by omega)
  refine wsW_set K ad w _ h1 h2 rfl (fun i hi => cellW_wJ_n K ad w _ hi) ?_
  rw [cellW_10 K ad _ (show (wJ w a g).1.2.1 a = 10 from hk)]
  have e : (wJ w a g).2.2 a = g := upA_s _ _ _
  rw [e]
  rfl
theorem ws_setQ {K : Nat → ClassId} {ad : Nat → Nat} {w : Wd} (hwf : WFw w) {a i x : Nat} (hx : 1 ≤ x) (hk : w.1.2.1 a = 11) : (wsW K ad w).set (a - 1) (ad a, .inl (K 11, w.1.2.2.1 a, .inr (.inr (.inr (.inr (va_up (fun k => rfo ad (w.1.2.2.2 a k)) i (some (ad x)))))))) = wsW K ad (wR w a (upA (w.1.2.2.2 a) i x)) := by
  obtain ⟨h1, h2⟩ := wf_in hwf hk (by omega)
  refine wsW_set K ad w _ h1 h2 rfl (fun i hi => cellW_wR_n K ad w _ hi) ?_
  rw [cellW_11 K ad _ (show (wR w a (upA (w.1.2.2.2 a) i x)).1.2.1 a = 11 from hk)]
  have e : (wR w a (upA (w.1.2.2.2 a) i x)).1.2.2.2 a = upA (w.1.2.2.2 a) i x := upA_s _ _ _
  rw [e]
  have e2 : (fun k => rfo ad (upA (w.1.2.2.2 a) i x k)) = va_up (fun k => rfo ad (w.1.2.2.2 a k)) i (some (ad x)) := by
    funext k
    by_cases hk : k = i
    · subst hk
      obtain ⟨y, rfl⟩ : ∃ y, x = y + 1 := ⟨x - 1, by omega⟩
      simp [upA_s, va_up, rfo]
    · simp [upA_n _ _ hk, va_up, hk]
  rw [e2]
  rfl
theorem frB_map {n n' : Nat} {st : List Value} {ls : List (Nat × Value)} {ad ad' : Nat → Nat} (h : frB n n' st ls) (ha : ∀ x, (x ≤ n ∨ n' < x) → ad' x = ad x) : st.map (cv ad') = st.map (cv ad) ∧ cvl ad' ls = cvl ad ls := by
  have key : ∀ v : Value, (∀ x, v = .ref x → x ≤ n ∨ n' < x) → cv ad' v = cv ad v := by
    intro v hv
    cases v with
    | ref a => cases a with
      | zero => rfl
      | succ a => show Value.ref _ = Value.ref _; rw [ha _ (hv _ rfl)]
    | _ => rfl
  refine ⟨List.map_congr_left (fun v hv => key v (h.1 v hv)), ?_⟩
  unfold cvl
  refine List.map_congr_left (fun q hq => ?_)
  rw [key q.2 (h.2 q hq)]
theorem dflt : ∀ ci, ci < 8 → ∀ k, k < nF ci → defaultValue (tyXc ci k) = if fK ci k = 1 then .null else .int 0 := by decide +kernel
end
section
/-! SOUNDNESS OF ONE STEP: fields, arrays, new cells, the steps -/
def isW : Instr → List Nat → Bool
  | .getfield .., _ => true
  | .putfield .., _ => true
  | .iaload, _ => true
  | .iastore, _ => true
  | .baload, _ => true
  | .bastore, _ => true
  | .laload, _ => true
  | .lastore, _ => true
  | .aaload, _ => true
  | .aastore, _ => true
  | .arraylength, _ => true
  | .newarray .., _ => true
  | .anewarray .., _ => true
  | .new .., t :: _ => decide (t = 0)
  | _, _ => false
set_option maxHeartbeats 4000000 in
theorem so_world {p : Program} {l : Launch} {e : Env} {R : Room} {s : State} {m : MethodId} {args : Array Value} {below : List Frame} {meth : Method} {c : Code} {D : va_G} {K : Nat → ClassId} {A : Nat → Prop} {ad0 : Nat → Nat} {n0 nL : Nat} {Sx : (Nat → Nat) → Prop} {Qm : State → Prop} {j : Nat}
  (hx : p.tables.exec = Jvm.exec) (hb : c.code = bC j) (hml : c.maxLocals = nL) (hnL : nL = mL j) (hown : s.vm.findClass (ownO j) = some m.cls) (hts : ∀ w ∈ GG, w.before args s = true)
  {C : Cal} {SX : Option (Nat × (Nat → Int32))} {mxc mxs : Nat} {hn : Nat → String → Option Nat} {Rt : Option Value → Wd → Nat → Nat → Prop} {Th : String → Wd → Nat → Nat → Prop} {ins : Instr} {nx : Nat} {aux : List Nat} {kc : Int32} {kl : Int64} {pc : Nat} {ls : List (Nat × Value)} {st : List Value} {w : Wd} {nc ns : Nat}
  (hin : (yN j).name = "<init>" → meth.name = "<init>") (hK : va_K D vwCl (tysK K) s) (hAO : va_AO "OdometerRing$Odometer" s) (hA : ∀ q, s.heap.size ≤ q → A q) (hSx : ∀ ad ad', Sx ad → ad' 1000001 = ad 1000001 → Sx ad') (hRc : R.cells = mxc) (hRs : R.slots = mxs)
  (hSc : ∀ L xs, SX = some (L, xs) → ∀ ad, Sx ad → va_X (ad 1000001) L xs s s.heap ∧ ad 1000001 < s.heap.size ∧ ¬ A (ad 1000001))
  (hs : isW ins aux = true) (hrow : okRow j pc (ins, nx, aux, kc, kl) = true) (h : stepI C mjT kO nA SX mxc mxs hn Rt Th ins nx aux kc kl pc ls st w nc ns (MW p l e R s m args below meth c D K A ad0 n0 nL Sx Qm)) : MW p l e R s m args below meth c D K A ad0 n0 nL Sx Qm (pc, ls, st, w, nc, ns) := by
  have cvp : ∀ (ad : Nat → Nat) {a ci : Nat}, WFw w → w.1.2.1 a = ci → ci < 20 → cv ad (.ref a) = .ref (ad a) := fun ad a ci hw hk hc => cv_pos ad (wf_in hw hk hc).1
  cases ins with
  | getfield i =>
    obtain ⟨ci, k, t, r0, rfl, h⟩ := aF_s h
    obtain ⟨a, r, rfl, hk, h9⟩ := pR_s h
    simp only [okRow, dOk, Bool.and_eq_true, decide_eq_true_eq] at hrow
    obtain ⟨⟨hd, rfl⟩, hq⟩ := hrow
    rcases r0 with _ | ⟨p9, _ | ⟨p8, r0⟩⟩
    · simp at hq
    · simp only [Bool.and_eq_true, decide_eq_true_eq] at hq
      obtain ⟨hci, hkk, hw9, hdecl, hti⟩ := hq
      have hF := clsF ci hci
      intro ad H locs lsx hW hS hag hn0 hsx hl
      obtain ⟨hP, hD, hwf⟩ := hW
      show W p l e R s m args below meth c H locs nc ns Qm (F0 m pc lsx (cv ad (.ref a) :: r.map (cv ad)))
      rw [cvp ad hwf hk (by omega)]
      refine va_get (ref := RXc ci) hx hb hts hF.2.1 hown hK hP (a - 1) (ws_obj hwf hk hci) hF.1 k hkk (hts _ (wAt_in hw9)) (fun x9 h9 => by rw [hdecl] at h9; exact h9) (fs_at ad w hkk) hd ?_
      rcases nI1_s h9 with ⟨ht, h⟩ | ⟨ht, h⟩
      · rw [fld_ref (hti.mp ht)]
        exact h ad H locs lsx ⟨hP, hD, hwf⟩ hS hag hn0 hsx hl
      · rw [fld_int (fun q => ht (hti.mpr q))]
        exact h ad H locs lsx ⟨hP, hD, hwf⟩ hS hag hn0 hsx hl
    · simp at hq
  | putfield i =>
    obtain ⟨ci, k, t, r0, rfl, h⟩ := aF_s h
    simp only [okRow, dOk, Bool.and_eq_true, decide_eq_true_eq] at hrow
    obtain ⟨⟨hd, rfl⟩, hq⟩ := hrow
    rcases r0 with _ | ⟨fin, _ | ⟨p9, _ | ⟨p8, r0⟩⟩⟩
    · simp at hq
    · simp at hq
    · simp only [Bool.and_eq_true, decide_eq_true_eq] at hq
      obtain ⟨hci, hkk, hw9, hdecl, hti, hty, hfin⟩ := hq
      have hF := clsF ci hci
      -- a value that is stored into the field
      have put : ∀ (v : Value) (a : Nat) (r : List Value) (w' : Wd) (ad : Nat → Nat) (H : Heap) (locs : List Loc) (lsx : Array Slot), w.1.2.1 a = ci → narrow (tyXc ci k) (cv ad v) = cv ad v → fits (tyXc ci k) (cv ad v) = true → (WFw w → WFw w') → w'.1.1 = w.1.1 →
          (WFw w → (wsW K ad w).set (a - 1) (ad a, .inr (ci, ((List.range (nF ci)).map (fldV ad w ci a)).set k (cv ad v))) = wsW K ad w') → MW p l e R s m args below meth c D K A ad0 n0 nL Sx Qm (pc + 3, ls, r, w', nc, ns) →
          WPd D K A ad w H → va_S A s.heap H locs → (∀ i, i ≤ n0 → ad i = ad0 i) → n0 ≤ w.1.1 → Sx ad → lv_has lsx nL (cvl ad ls) → W p l e R s m args below meth c H locs nc ns Qm (F0 m pc lsx ((v :: .ref a :: r).map (cv ad))) := by
        intro v a r w' ad H locs lsx hk hn hf hwf' hnn hset h hW hS hag hn0 hsx hl
        obtain ⟨hP, hD, hwf⟩ := hW
        show W p l e R s m args below meth c H locs nc ns Qm (F0 m pc lsx (cv ad v :: cv ad (.ref a) :: r.map (cv ad)))
        rw [cvp ad hwf hk (by omega)]
        have kk : ∀ (H1 : Heap) (locs1 : List Loc), va_P D vwCl ((wsW K ad w).set (a - 1) (ad a, .inr (ci, ((List.range (nF ci)).map (fldV ad w ci a)).set k (cv ad v)))) H1 → va_D A ((wsW K ad w).set (a - 1) (ad a, .inr (ci, ((List.range (nF ci)).map (fldV ad w ci a)).set k (cv ad v)))) → va_S A s.heap H1 locs1 → W p l e R s m args below meth c H1 locs1 nc ns Qm (F0 m (pc + 3) lsx (r.map (cv ad))) := by
          intro H1 locs1 hP1 hD1 hS1
          rw [hset hwf] at hP1 hD1
          exact h ad H1 locs1 lsx ⟨hP1, hD1, hwf' hwf⟩ hS1 hag (by rw [hnn]; exact hn0) hsx hl
        cases fin with
        | zero =>
          simp only [decide_eq_true_eq] at hfin
          exact va_put (ref := RXc ci) hx hb hts hF.2.1 (tyXc ci) hF.2.2.1 hF.2.2.2 hown hK hP hD hS (a - 1) (ws_obj hwf hk hci) hF.1 k hkk (hts _ (wAt_in hw9)) (fun x9 h9 => by rw [hdecl] at h9; exact h9) hfin (hF.2.2.1 k hkk) hn hf (by simpa using hkk) hd kk
        | succ fin =>
          simp only [Bool.and_eq_true, decide_eq_true_eq] at hfin
          exact va_putF (ref := RXc ci) hx hb hts hF.2.1 (tyXc ci) hF.2.2.1 hF.2.2.2 hown hK hP hD hS (a - 1) (ws_obj hwf hk hci) hF.1 k hkk (hts _ (wAt_in hw9)) (fun x9 h9 => by rw [hdecl] at h9; exact h9) hfin.1 (hin hfin.2.1) hfin.2.2 (hF.2.2.1 k hkk) hn hf (by simpa using hkk) hd kk
      rcases nI1_s h with ⟨ht, h⟩ | ⟨ht, h⟩
      · subst ht
        obtain ⟨x, r1, rfl, h⟩ := pR_s h
        obtain ⟨a, r, rfl, hk, hxn, h⟩ := pR_s h
        have hty : refKind (tyXc ci k) = true := hty
        intro ad H locs lsx hW hS hag hn0 hsx hl
        refine put (.ref x) a r _ ad H locs lsx hk ?_ ?_ (fun q => wR_wf q hxn) rfl (fun q => ws_putR q hk hci (hti.mp rfl) x) h hW hS hag hn0 hsx hl
        · revert hty
          cases tyXc ci k <;> cases x <;> intro hty <;> first | rfl | cases hty
        · revert hty
          cases tyXc ci k <;> cases x <;> intro hty <;> first | rfl | cases hty
      · obtain ⟨x, r1, rfl, h⟩ := pI_s h
        obtain ⟨a, r, rfl, hk, h01, h⟩ := pR_s h
        intro ad H locs lsx hW hS hag hn0 hsx hl
        refine put (.int x) a r _ ad H locs lsx hk ?_ ?_ (fun q => wI_wf q) rfl (fun q => ws_putI q hk hci (fun z => ht (hti.mpr z)) x) h hW hS hag hn0 hsx hl
        · rcases t with _ | _ | _ | t
          · have hty : tyXc ci k = .int := of_decide_eq_true hty
            rw [hty]; rfl
          · exact absurd rfl ht
          · have hty : tyXc ci k = .boolean := of_decide_eq_true hty
            rw [hty]
            rcases (show x = 0 ∨ x = 1 from h01) with rfl | rfl <;> rfl
          · exact absurd hty (by simp)
        · rcases t with _ | _ | _ | t
          · have hty : tyXc ci k = .int := of_decide_eq_true hty
            rw [hty]; rfl
          · exact absurd rfl ht
          · have hty : tyXc ci k = .boolean := of_decide_eq_true hty
            rw [hty]
            rcases (show x = 0 ∨ x = 1 from h01) with rfl | rfl <;> rfl
          · exact absurd hty (by simp)
    · simp at hq
  | iaload =>
    obtain ⟨i, r1, rfl, h⟩ := pI_s h
    obtain ⟨a, r, rfl, h⟩ := pR_s h
    simp only [okRow, dOk, Bool.and_eq_true, decide_eq_true_eq] at hrow
    obtain ⟨hd, rfl⟩ := hrow
    have wld : (w.1.2.1 a = 8 ∧ vp_in i (w.1.2.2.1 a) ∧ MW p l e R s m args below meth c D K A ad0 n0 nL Sx Qm (pc + 1, ls, .int (w.2.1 a i.toNatClampNeg) :: r, w, nc, ns)) → MW p l e R s m args below meth c D K A ad0 n0 nL Sx Qm (pc, ls, .int i :: .ref a :: r, w, nc, ns) := by
      intro h
      obtain ⟨hk, hi, h⟩ := h
      intro ad H locs lsx hW hS hag hn0 hsx hl
      obtain ⟨hP, hD, hwf⟩ := hW
      show W p l e R s m args below meth c H locs nc ns Qm (F0 m pc lsx (.int i :: cv ad (.ref a) :: r.map (cv ad)))
      rw [cvp ad hwf hk (by omega)]
      exact va_iald hx hb hK hP (a - 1) 0 (ws_8 hwf hk) (tysK_8 K) hi hd (h ad H locs lsx ⟨hP, hD, hwf⟩ hS hag hn0 hsx hl)
    cases SX with
    | none => exact wld h
    | some q =>
      obtain ⟨L, xs⟩ := q
      rcases nI1_s h with ⟨ha, h⟩ | ⟨ha, h⟩
      · subst ha
        obtain ⟨hi, h⟩ := h
        intro ad H locs lsx hW hS hag hn0 hsx hl
        obtain ⟨hP, hD, hwf⟩ := hW
        obtain ⟨hX, hbl, hbA⟩ := hSc L xs rfl ad hsx
        exact va_sld hx hb hX hbl hbA hS hi hd (h ad H locs lsx ⟨hP, hD, hwf⟩ hS hag hn0 hsx hl)
      · exact wld h
  | iastore =>
    obtain ⟨x, r2, rfl, h⟩ := pI_s h
    obtain ⟨i, r1, rfl, h⟩ := pI_s h
    obtain ⟨a, r, rfl, hk, hi, h⟩ := pR_s h
    simp only [okRow, dOk, Bool.and_eq_true, decide_eq_true_eq] at hrow
    obtain ⟨hd, rfl⟩ := hrow
    intro ad H locs lsx hW hS hag hn0 hsx hl
    obtain ⟨hP, hD, hwf⟩ := hW
    show W p l e R s m args below meth c H locs nc ns Qm (F0 m pc lsx (.int x :: .int i :: cv ad (.ref a) :: r.map (cv ad)))
    rw [cvp ad hwf hk (by omega)]
    refine va_iast hx hb hK hP hD hS (a - 1) 0 (ws_8 hwf hk) (tysK_8 K) hi hd (fun H1 locs1 hP1 hD1 hS1 => ?_)
    rw [ws_setI hwf _ hk] at hP1 hD1
    exact h ad H1 locs1 lsx ⟨hP1, hD1, hwf⟩ hS1 hag hn0 hsx hl
  | baload =>
    obtain ⟨i, r1, rfl, h⟩ := pI_s h
    obtain ⟨a, r, rfl, hk, hi, h⟩ := pR_s h
    simp only [okRow, dOk, Bool.and_eq_true, decide_eq_true_eq] at hrow
    obtain ⟨hd, rfl⟩ := hrow
    intro ad H locs lsx hW hS hag hn0 hsx hl
    obtain ⟨hP, hD, hwf⟩ := hW
    show W p l e R s m args below meth c H locs nc ns Qm (F0 m pc lsx (.int i :: cv ad (.ref a) :: r.map (cv ad)))
    rw [cvp ad hwf hk (by omega)]
    exact va_zald hx hb hK hP (a - 1) 1 (ws_9 hwf hk) (tysK_9 K) hi hd (h ad H locs lsx ⟨hP, hD, hwf⟩ hS hag hn0 hsx hl)
  | bastore =>
    obtain ⟨x, r2, rfl, h⟩ := pI_s h
    obtain ⟨i, r1, rfl, h⟩ := pI_s h
    obtain ⟨a, r, rfl, hk, hi, h⟩ := pR_s h
    simp only [okRow, dOk, Bool.and_eq_true, decide_eq_true_eq] at hrow
    obtain ⟨hd, rfl⟩ := hrow
    intro ad H locs lsx hW hS hag hn0 hsx hl
    obtain ⟨hP, hD, hwf⟩ := hW
    show W p l e R s m args below meth c H locs nc ns Qm (F0 m pc lsx (.int x :: .int i :: cv ad (.ref a) :: r.map (cv ad)))
    rw [cvp ad hwf hk (by omega)]
    refine va_zast hx hb hK hP hD hS (a - 1) 1 (ws_9 hwf hk) (tysK_9 K) hi hd (fun H1 locs1 hP1 hD1 hS1 => ?_)
    rw [ws_setZ hwf _ hk] at hP1 hD1
    exact h ad H1 locs1 lsx ⟨hP1, hD1, hwf⟩ hS1 hag hn0 hsx hl
  | laload =>
    obtain ⟨i, r1, rfl, h⟩ := pI_s h
    obtain ⟨a, r, rfl, hk, hi, h⟩ := pR_s h
    simp only [okRow, dOk, Bool.and_eq_true, decide_eq_true_eq] at hrow
    obtain ⟨hd, rfl⟩ := hrow
    intro ad H locs lsx hW hS hag hn0 hsx hl
    obtain ⟨hP, hD, hwf⟩ := hW
    show W p l e R s m args below meth c H locs nc ns Qm (F0 m pc lsx (.int i :: cv ad (.ref a) :: r.map (cv ad)))
    rw [cvp ad hwf hk (by omega)]
    exact va_lald hx hb hK hP (a - 1) 2 (ws_10 hwf hk) (tysK_10 K) hi hd (h ad H locs lsx ⟨hP, hD, hwf⟩ hS hag hn0 hsx hl)
  | lastore =>
    obtain ⟨x, r2, rfl, h⟩ := pL_s h
    obtain ⟨i, r1, rfl, h⟩ := pI_s h
    obtain ⟨a, r, rfl, hk, hi, h⟩ := pR_s h
    simp only [okRow, dOk, Bool.and_eq_true, decide_eq_true_eq] at hrow
    obtain ⟨hd, rfl⟩ := hrow
    intro ad H locs lsx hW hS hag hn0 hsx hl
    obtain ⟨hP, hD, hwf⟩ := hW
    show W p l e R s m args below meth c H locs nc ns Qm (F0 m pc lsx (.long x :: .int i :: cv ad (.ref a) :: r.map (cv ad)))
    rw [cvp ad hwf hk (by omega)]
    refine va_last hx hb hK hP hD hS (a - 1) 2 (ws_10 hwf hk) (tysK_10 K) hi hd (fun H1 locs1 hP1 hD1 hS1 => ?_)
    rw [ws_setJ hwf _ hk] at hP1 hD1
    exact h ad H1 locs1 lsx ⟨hP1, hD1, hwf⟩ hS1 hag hn0 hsx hl
  | aaload =>
    obtain ⟨i, r1, rfl, h⟩ := pI_s h
    obtain ⟨a, r, rfl, hk, hi, h⟩ := pR_s h
    simp only [okRow, dOk, Bool.and_eq_true, decide_eq_true_eq] at hrow
    obtain ⟨hd, rfl⟩ := hrow
    intro ad H locs lsx hW hS hag hn0 hsx hl
    obtain ⟨hP, hD, hwf⟩ := hW
    show W p l e R s m args below meth c H locs nc ns Qm (F0 m pc lsx (.int i :: cv ad (.ref a) :: r.map (cv ad)))
    rw [cvp ad hwf hk (by omega)]
    refine va_aldq hx hb hK hP (a - 1) 3 (ws_11 hwf hk) (tysK_11 K) hi hd ?_
    rw [va_rfo]
    exact h ad H locs lsx ⟨hP, hD, hwf⟩ hS hag hn0 hsx hl
  | aastore =>
    obtain ⟨x, r2, rfl, h⟩ := pR_s h
    obtain ⟨i, r1, rfl, h⟩ := pI_s h
    obtain ⟨a, r, rfl, hk, hkx, hi, h⟩ := pR_s h
    simp only [okRow, dOk, Bool.and_eq_true, decide_eq_true_eq] at hrow
    obtain ⟨hd, rfl⟩ := hrow
    intro ad H locs lsx hW hS hag hn0 hsx hl
    obtain ⟨hP, hD, hwf⟩ := hW
    show W p l e R s m args below meth c H locs nc ns Qm (F0 m pc lsx (cv ad (.ref x) :: .int i :: cv ad (.ref a) :: r.map (cv ad)))
    rw [cvp ad hwf hk (by omega), cvp ad hwf hkx (by omega)]
    have hxb := wf_in hwf hkx (by omega)
    refine va_astq (r := (RX2, TX2, 17)) hx hb hK hP hD hS (a - 1) 3 (x - 1) 2 (ws_11 hwf hk) (tysK_11 K) (ws_obj hwf hkx (by omega)) rfl hi hd (fun H1 locs1 hP1 hD1 hS1 => ?_)
    rw [ws_setQ hwf hxb.1 hk] at hP1 hD1
    exact h ad H1 locs1 lsx ⟨hP1, hD1, wR_wf hwf hxb.2⟩ hS1 hag hn0 hsx hl
  | arraylength =>
    obtain ⟨a, r, rfl, h⟩ := pR_s h
    simp only [okRow, dOk, Bool.and_eq_true, decide_eq_true_eq] at hrow
    obtain ⟨hd, rfl⟩ := hrow
    have wld : ((8 ≤ w.1.2.1 a ∧ w.1.2.1 a ≤ 11) ∧ MW p l e R s m args below meth c D K A ad0 n0 nL Sx Qm (pc + 1, ls, .int (Int32.ofNat (w.1.2.2.1 a)) :: r, w, nc, ns)) → MW p l e R s m args below meth c D K A ad0 n0 nL Sx Qm (pc, ls, .ref a :: r, w, nc, ns) := by
      intro h
      obtain ⟨⟨hk1, hk2⟩, h⟩ := h
      intro ad H locs lsx hW hS hag hn0 hsx hl
      obtain ⟨hP, hD, hwf⟩ := hW
      show W p l e R s m args below meth c H locs nc ns Qm (F0 m pc lsx (cv ad (.ref a) :: r.map (cv ad)))
      rw [cvp ad hwf rfl (by omega)]
      rcases (show w.1.2.1 a = 8 ∨ w.1.2.1 a = 9 ∨ w.1.2.1 a = 10 ∨ w.1.2.1 a = 11 by omega) with hk | hk | hk | hk
      · exact va_alen hx hb hK hP (a - 1) 0 (ws_8 hwf hk) (tysK_8 K) rfl hd (h ad H locs lsx ⟨hP, hD, hwf⟩ hS hag hn0 hsx hl)
      · exact va_alen hx hb hK hP (a - 1) 1 (ws_9 hwf hk) (tysK_9 K) rfl hd (h ad H locs lsx ⟨hP, hD, hwf⟩ hS hag hn0 hsx hl)
      · exact va_alen hx hb hK hP (a - 1) 2 (ws_10 hwf hk) (tysK_10 K) rfl hd (h ad H locs lsx ⟨hP, hD, hwf⟩ hS hag hn0 hsx hl)
      · exact va_alen hx hb hK hP (a - 1) 3 (ws_11 hwf hk) (tysK_11 K) rfl hd (h ad H locs lsx ⟨hP, hD, hwf⟩ hS hag hn0 hsx hl)
    cases SX with
    | none => exact wld h
    | some q =>
      obtain ⟨L, xs⟩ := q
      rcases nI1_s h with ⟨ha, h⟩ | ⟨ha, h⟩
      · subst ha
        intro ad H locs lsx hW hS hag hn0 hsx hl
        obtain ⟨hP, hD, hwf⟩ := hW
        obtain ⟨hX, hbl, hbA⟩ := hSc L xs rfl ad hsx
        exact va_slen hx hb hX hbl hbA hS hd (h ad H locs lsx ⟨hP, hD, hwf⟩ hS hag hn0 hsx hl)
      · exact wld ⟨by omega, h.2⟩
  | newarray at9 =>
    obtain ⟨k, r0, rfl, h⟩ := aC_s h
    obtain ⟨n, r, rfl, ⟨hn9, hbig, hc1, hc2, hlim, hfr⟩, h9⟩ := pI_s h
    simp only [okRow, dOk, Bool.and_eq_true, decide_eq_true_eq] at hrow
    obtain ⟨⟨hd, rfl⟩, hq⟩ := hrow
    rcases r0 with _ | ⟨p9, _ | ⟨p8, r0⟩⟩
    · simp at hq
    · simp only [Bool.and_eq_true, Bool.or_eq_true, decide_eq_true_eq] at hq
      obtain ⟨hw9, hkk⟩ := hq
      intro ad H locs lsx hW hS hag hn0 hsx hl
      obtain ⟨hP, hD, hwf⟩ := hW
      -- behind the making
      have fin : ∀ (q : Nat) (cA : ClassId) (H1 : Heap) (a0 : vp_A), cellW K (upA ad (w.1.1 + 1) q) (wAl w k n.toNatClampNeg) (w.1.1 + 1) = .inl (cA, a0) → va_P D vwCl (wsW K ad w ++ [(q, .inl (cA, a0))]) H1 → va_D A (wsW K ad w ++ [(q, .inl (cA, a0))]) → va_S A s.heap H1 locs → W p l e R s m args below meth c H1 locs (nc + 1) (ns + n.toNatClampNeg) Qm (F0 m (pc + 2) lsx (.ref q :: r.map (cv ad))) := by
        intro q cA H1 a0 hcell hP1 hD1 hS1
        have hpush := wsW_push K ad (upA ad (w.1.1 + 1) q) w k n.toNatClampNeg q hwf (fun i hi => upA_n _ _ (by omega)) (upA_s _ _ _)
        rw [hcell] at hpush
        rw [← hpush] at hP1 hD1
        have hm := frB_map (ad := ad) (ad' := upA ad (w.1.1 + 1) q) hfr (fun x hx => upA_n _ _ (by omega))
        have := h9 (upA ad (w.1.1 + 1) q) H1 locs lsx ⟨hP1, hD1, wAl_wf w k _ hwf hlim⟩ hS1 (fun i hi => (upA_n _ _ (by have : n0 ≤ w.1.1 := hn0; omega)).trans (hag i hi)) (Nat.le_trans hn0 (Nat.le_succ _)) (hSx ad _ hsx (upA_n _ _ (by omega))) (by rw [hm.2]; exact hl)
        have e1 : (.ref q :: r.map (cv ad)) = (Value.ref (w.1.1 + 1) :: r).map (cv (upA ad (w.1.1 + 1) q)) := by
          rw [List.map_cons, hm.1, cv_pos _ (by omega), upA_s]
        rw [e1]
        exact this
      have uniq : ∀ (t : FieldType) (i0 : Nat) (cA cB : ClassId), va_K D vwCl (tysK K ++ [(cA, t)]) s → (tysK K)[i0]? = some (cB, t) → (∀ C, t ≠ .object C) → cA = cB := by
        intro t i0 cA cB hK1 hi0 hno
        have e1 := (hK1.2 4 (cA, t) rfl).2
        have e2 := (hK.2 i0 (cB, t) hi0).2
        cases t with
        | object C => exact absurd rfl (hno C)
        | _ => exact Option.some.inj (e1.symm.trans e2)
      have kd : (wAl w k n.toNatClampNeg).1.2.1 (w.1.1 + 1) = k := upA_s _ _ _
      have ln : (wAl w k n.toNatClampNeg).1.2.2.1 (w.1.1 + 1) = n.toNatClampNeg := upA_s _ _ _
      have mi : (wAl w k n.toNatClampNeg).2.1 (w.1.1 + 1) = fun _ => 0 := upA_s _ _ _
      have mj : (wAl w k n.toNatClampNeg).2.2 (w.1.1 + 1) = fun _ => 0 := upA_s _ _ _
      rcases hkk with ⟨rfl, rfl⟩ | ⟨rfl, rfl⟩ | ⟨rfl, rfl⟩
      · refine va_newa (atype := .int) (a0 := (n.toNatClampNeg, .inl (fun _ => 0))) hx hb (hts _ (wAt_in hw9)) rfl hK hP hD hS hA (fun cA => rfl) hn9 rfl (by show _ * 4 ≤ _; omega) (by rw [hRc]; exact hc1) (by rw [hRs]; exact hc2) hd (fun q cA H1 hK1 hP1 hD1 hS1 => ?_)
        refine fin q cA H1 _ ?_ hP1 hD1 hS1
        rw [cellW_8 K _ _ kd, ln, mi, uniq .int 0 cA (K 8) hK1 rfl (fun C h => by cases h)]
      · refine va_newa (atype := .boolean) (a0 := (n.toNatClampNeg, .inl (fun _ => 0))) hx hb (hts _ (wAt_in hw9)) rfl hK hP hD hS hA (fun cA => rfl) hn9 rfl (by show _ * 1 ≤ _; omega) (by rw [hRc]; exact hc1) (by rw [hRs]; exact hc2) hd (fun q cA H1 hK1 hP1 hD1 hS1 => ?_)
        refine fin q cA H1 _ ?_ hP1 hD1 hS1
        rw [cellW_9 K _ _ kd, ln, mi, uniq .boolean 1 cA (K 9) hK1 rfl (fun C h => by cases h)]
      · refine va_newa (atype := .long) (a0 := (n.toNatClampNeg, .inr (.inl (fun _ => 0)))) hx hb (hts _ (wAt_in hw9)) rfl hK hP hD hS hA (fun cA => rfl) hn9 rfl (by show _ * 8 ≤ _; omega) (by rw [hRc]; exact hc1) (by rw [hRs]; exact hc2) hd (fun q cA H1 hK1 hP1 hD1 hS1 => ?_)
        refine fin q cA H1 _ ?_ hP1 hD1 hS1
        rw [cellW_10 K _ _ kd, ln, mj, uniq .long 2 cA (K 10) hK1 rfl (fun C h => by cases h)]
    · simp at hq
  | anewarray i =>
    obtain ⟨n, r, rfl, ⟨hn9, hbig, hc1, hc2, hlim, hfr⟩, h9⟩ := pI_s h
    simp only [okRow, dOk, Bool.and_eq_true, decide_eq_true_eq] at hrow
    obtain ⟨⟨hd, rfl⟩, hq⟩ := hrow
    split at hq
    · intro ad H locs lsx hW hS hag hn0 hsx hl
      obtain ⟨hP, hD, hwf⟩ := hW
      refine va_newq hx hb hown (hts _ (wAt_in hq)) hAO hK hP hD hS hA hn9 rfl (by omega) (by rw [hRc]; exact hc1) (by rw [hRs]; exact hc2) hd (fun q cA H1 hK1 hP1 hD1 hS1 => ?_)
      have hcA : cA = K 11 := by
        obtain ⟨k1, c1, -, -, -, e1⟩ := (hK1.2 4 (cA, .object "OdometerRing$Odometer") rfl).2
        obtain ⟨k2, c2, -, -, -, e2⟩ := (hK.2 3 (K 11, .object "OdometerRing$Odometer") rfl).2
        exact Option.some.inj (e1.symm.trans e2)
      have kd : (wAl w 11 n.toNatClampNeg).1.2.1 (w.1.1 + 1) = 11 := upA_s _ _ _
      have ln : (wAl w 11 n.toNatClampNeg).1.2.2.1 (w.1.1 + 1) = n.toNatClampNeg := upA_s _ _ _
      have mr : (wAl w 11 n.toNatClampNeg).1.2.2.2 (w.1.1 + 1) = fun _ => 0 := upA_s _ _ _
      have hcell : cellW K (upA ad (w.1.1 + 1) q) (wAl w 11 n.toNatClampNeg) (w.1.1 + 1) = .inl (cA, n.toNatClampNeg, .inr (.inr (.inr (.inr (fun _ => none))))) := by
        rw [cellW_11 K _ _ kd, ln, mr, hcA]
        rfl
      have hpush := wsW_push K ad (upA ad (w.1.1 + 1) q) w 11 n.toNatClampNeg q hwf (fun i hi => upA_n _ _ (by omega)) (upA_s _ _ _)
      rw [hcell] at hpush
      rw [← hpush] at hP1 hD1
      have hm := frB_map (ad := ad) (ad' := upA ad (w.1.1 + 1) q) hfr (fun x hx => upA_n _ _ (by omega))
      have := h9 (upA ad (w.1.1 + 1) q) H1 locs lsx ⟨hP1, hD1, wAl_wf w 11 _ hwf hlim⟩ hS1 (fun i hi => (upA_n _ _ (by have : n0 ≤ w.1.1 := hn0; omega)).trans (hag i hi)) (Nat.le_trans hn0 (Nat.le_succ _)) (hSx ad _ hsx (upA_n _ _ (by omega))) (by rw [hm.2]; exact hl)
      have e1 : (.ref q :: r.map (cv ad)) = (Value.ref (w.1.1 + 1) :: r).map (cv (upA ad (w.1.1 + 1) q)) := by
        rw [List.map_cons, hm.1, cv_pos _ (by omega), upA_s]
      rw [e1]
      exact this
    · exact absurd hq (by simp)
  | new i =>
    obtain ⟨t, r0, rfl, h⟩ := aC_s h
    obtain ⟨ci, r1, rfl, h⟩ := aC_s h
    rcases nI1_s h with ⟨rfl, ⟨hc1, hc2, hlim, hfr⟩, h9⟩ | ⟨ht, -⟩
    · rcases r1 with _ | ⟨p1, _ | ⟨p2, _ | ⟨p3, _ | ⟨p4, r1⟩⟩⟩⟩
      · simp [okRow] at hrow
      · simp [okRow] at hrow
      · simp [okRow] at hrow
      · simp only [okRow, dOk, Bool.and_eq_true, decide_eq_true_eq] at hrow
        obtain ⟨⟨hd, rfl⟩, hci, hw1, hw2, hw3⟩ := hrow
        have hF := clsF ci hci
        intro ad H locs lsx hW hS hag hn0 hsx hl
        obtain ⟨hP, hD, hwf⟩ := hW
        have kd : (wAl w ci 0).1.2.1 (w.1.1 + 1) = ci := upA_s _ _ _
        have mi : (wAl w ci 0).2.1 (w.1.1 + 1) = fun _ => 0 := upA_s _ _ _
        have mr : (wAl w ci 0).1.2.2.2 (w.1.1 + 1) = fun _ => 0 := upA_s _ _ _
        have fe : ∀ ad9 : Nat → Nat, fldV ad9 (wAl w ci 0) ci (w.1.1 + 1) = fun k => if fK ci k = 1 then .null else .int 0 := by
          intro ad9
          funext k
          unfold fldV
          rw [mi, mr]
          rfl
        refine va_new (fs := (List.range (nF ci)).map (fun k => if fK ci k = 1 then Value.null else .int 0)) hx hb hts hF.2.1 (tyXc ci) hF.2.2.1 hown (hts _ (wAt_in hw1)) (hts _ (wAt_in hw2)) (hts _ (wAt_in hw3)) hK hP hD hS hA hF.1 (fun k hk => ?_) (by rw [hRc]; exact hc1) (by rw [hRs]; exact hc2) hd (fun q H1 hP1 hD1 hS1 => ?_)
        · rw [dflt ci hci k hk]
          simp [vp_V, List.getD, List.getElem?_map, List.getElem?_range hk]
        · have hcell : cellW K (upA ad (w.1.1 + 1) q) (wAl w ci 0) (w.1.1 + 1) = .inr (ci, (List.range (nF ci)).map (fun k => if fK ci k = 1 then Value.null else .int 0)) := by
            rw [cellW_obj K _ _ kd hci, fe]
          have hpush := wsW_push K ad (upA ad (w.1.1 + 1) q) w ci 0 q hwf (fun i hi => upA_n _ _ (by omega)) (upA_s _ _ _)
          rw [hcell] at hpush
          rw [← hpush] at hP1 hD1
          have hm := frB_map (ad := ad) (ad' := upA ad (w.1.1 + 1) q) hfr (fun x hx => upA_n _ _ (by omega))
          have := h9 (upA ad (w.1.1 + 1) q) H1 locs lsx ⟨hP1, hD1, wAl_wf w ci _ hwf hlim⟩ hS1 (fun i hi => (upA_n _ _ (by have : n0 ≤ w.1.1 := hn0; omega)).trans (hag i hi)) (Nat.le_trans hn0 (Nat.le_succ _)) (hSx ad _ hsx (upA_n _ _ (by omega))) (by rw [hm.2]; exact hl)
          have e1 : (.ref q :: st.map (cv ad)) = (Value.ref (w.1.1 + 1) :: st).map (cv (upA ad (w.1.1 + 1) q)) := by
            rw [List.map_cons, hm.1, cv_pos _ (by omega), upA_s]
          rw [e1]
          exact this
      · simp [okRow] at hrow
    · exact absurd hs (by simp [isW, ht])
  | _ => exact absurd hs (by simp [isW])
end
section
/-! ===== BEGIN a constructor that throws (launches without stack traces) ===== -/
section VXIA
variable {p : Program} {l : Launch} {e : Env} {R : Room} {s : State} {m : MethodId} {args : Array Value} {below : List Frame} {meth : Method} {c : Code} {T : State} {locs : List Loc} {cells slots : Nat}
theorem vx_callI (X : Stand p l e R s m args below meth c T locs cells slots) (hexec : p.tables.exec = Jvm.exec) {own : String} {index : Nat} {y : MethodName} {bytes : ByteArray} {maxL : Nat}
    (hown : s.vm.findClass own = some m.cls) (hy1 : y.name = "<init>") (hlink : (Cond.methodLink own index y).before args s = true) (hinst : (Cond.instanceMethod y).before args s = true)
    (hcode : (Cond.code y bytes maxL none).before args s = true) (hy : y.cls ≠ "java/lang/invoke/MethodHandle" ∧ y.cls ≠ "java/lang/invoke/VarHandle")
    {W9 : Nat} {Pre : Pt → Array Value → Prop} {Post : Pt → Array Value → Option Value → Pt → Prop} {PostX : Pt → Array Value → Addr → Pt → Prop} (hK : vx_Back l R p e below s args y 3 W9 Pre Post PostX)
    {g : JFrame} (hg : g.method = m) (hsize : g.locals.size = c.maxLocals) {a : Addr} {argsL rest : List Value} (hlen : ∀ sig, parseMethodDescriptor y.desc = some sig → argsL.length = sig.parameters.length)
    (hstack : g.stack = argsL.reverse ++ .ref a :: rest) (hW : 2 * g.monitorRoom + (rest.map fun v => v.category).sum ≤ W9) (hdg : decode c.code g.pc = .ok (.invokespecial index, 3))
    (hpre : ∀ vm₁, s.WarmedH vm₁ → Pre ⟨T.setVm vm₁, locs, cells, slots⟩ (Value.ref a :: argsL).toArray) :
    (∃ (v : Option Value) (vm₁ : Vm) (B : Pt), s.WarmedH vm₁ ∧ Stand p l e R s m args below meth c B.U B.locs B.cells B.slots ∧ Post ⟨T.setVm vm₁, locs, cells, slots⟩ (Value.ref a :: argsL).toArray v B ∧
      ∀ target, Steps p.tables e below (B.U.setTop { g with pc := g.pc + 3, stack := v.toList ++ rest }) target → Steps p.tables e below (T.setTop g) target) ∨
    (∃ (q : Addr) (vm₁ : Vm) (B : Pt), s.WarmedH vm₁ ∧ Stand p l e R s m args below meth c B.U B.locs B.cells B.slots ∧ PostX ⟨T.setVm vm₁, locs, cells, slots⟩ (Value.ref a :: argsL).toArray q B ∧
      Steps p.tables e below (T.setTop g) ((B.U.setTop { g with stack := rest }).pushFrame (.throwing q))) := by
  subst hg
  have hpl : e.platform.magicAccessors = ({} : Platform).magicAccessors := by rw [X.admits.platform]
  obtain ⟨mk, methM, cM, kP, vm₁, hnamed, hmethM, hcodeM, -, hlocalsM, -, hkP, -, hW₁, hstep₁⟩ := Steps.initColdArgs (e := e) X.here hexec X.warmed hpl hown hy1 hy hlink hinst hcode (f := g) rfl hlen hstack hdg
  have X₁ := X.noted hW₁
  rcases hK g.method meth c ⟨T.setVm vm₁, locs, cells, slots⟩ { g with stack := rest } (.invokespecial index) mk (Value.ref a :: argsL).toArray X₁ rfl hsize hdg hW (X₁.named hnamed) (hpre vm₁ X₁.warmed) with ⟨v, B, X', hpost, hsteps⟩ | ⟨q, B, X', hpost, hsteps⟩
  · exact Or.inl ⟨v, vm₁, B, X₁.warmed, X', hpost, fun target h => hstep₁ _ fun acts => by rw [doInvoke_state]; exact hsteps.trans h⟩
  · exact Or.inr ⟨q, vm₁, B, X₁.warmed, X', hpost, hstep₁ _ fun acts => by rw [doInvoke_state]; exact hsteps⟩
end VXIA
section VXIB
variable {p : Program} {l : Launch} {e : Env} {R : Room} {s : State} {m : MethodId} {args : Array Value} {below : List Frame} {meth : Method} {c : Code} {H : Heap} {locs : List Loc} {cells slots : Nat}
variable {y : MethodName} {bytes cc : ByteArray} {maxL nL mc ms n index : Nat} {ret : Option FieldType} {ws : List Cond} {rm : Room} {Pc : Array Value → State → Prop} {Qc : Array Value → State → Outcome → State → Prop} {XC : String → State → State → Prop} {free : Addr → Prop} {Ts : List Cond} {own C : String} {b : Addr} {As rest : List Value} {g : JFrame}
theorem vx_runI (S : CallFix p m c cc nL s args Ts own) (hM : vx_Met l y ws rm Pc Qc XC mc ms free) (cw : CallB R s args own index y bytes maxL none ws rm mc ms n ∧ y.name = "<init>" ∧ (Cond.instanceMethod y).before args s = true) (hp : PreS s H Pc (.ref b :: As))
    (hg : g.method = m) (hn : As.length = n) (hsize : g.locals.size = nL) (hstack : g.stack = As.reverse ++ .ref b :: rest) (hW : 2 * g.monitorRoom + (rest.map fun v => v.category).sum ≤ 8) (hdg : decode cc g.pc = .ok (.invokespecial index, 3)) (hf : cells + mc ≤ R.cells ∧ slots + ms ≤ R.slots) :
    vx_Run p l e R s m args below meth c H locs cells slots mc ms g rest (Qc (Value.ref b :: As).toArray) XC free := by
  have hK : vx_Back l R p e below s args y 3 8 (PreOf R mc ms Pc) (PostOf Qc mc ms free) (vx_Post XC mc ms free) := vx_callBack cw.1 hM hp.1
  obtain ⟨⟨-, -, -, -, -, -, hcode, -, hy, hlen, hl⟩, hy1, hin⟩ := cw
  obtain ⟨hx, hb, hml, ho, -⟩ := S
  have hPc := hp.2
  intro T hT X
  rcases vx_callI X hx (bytes := bytes) (maxL := maxL) ho hy1 hl hin hcode hy hK hg (hsize.trans hml.symm) (a := b) (argsL := As) (rest := rest) (fun sig h => hn.trans (hlen sig h)) hstack hW (by rw [hb]; exact hdg)
    (fun vm₁ hW₁ => ⟨hf.1, hf.2, hPc (T.setVm vm₁) hT hW₁⟩) with ⟨v, vm₁, ⟨U', l2, c2, s2⟩, hW₁, X', ⟨g', mk, t, L, e1, e2, hq, h1, hL, h2, h3⟩, st⟩ | ⟨q, vm₁, ⟨U', l2, c2, s2⟩, hW₁, X', ⟨g', mk, t, L, E, ce, e1, e2, hq, hce, hcv, hcl, h1, hL, h2, h3⟩, st⟩
  · dsimp only [Pt.U, Pt.locs, Pt.cells, Pt.slots] at X' e1 e2 h1 h2 h3 st
    subst h1; subst h2; subst h3
    exact Or.inl ⟨v, (T.setVm vm₁).calling g' mk (Value.ref b :: As).toArray, t, U', L, hT, X', hL, e1, e2, hq, st⟩
  · dsimp only [Pt.U, Pt.locs, Pt.cells, Pt.slots] at X' e1 e2 h1 h2 h3 st hcl
    subst h1; subst h2; subst h3
    exact Or.inr ⟨q, (T.setVm vm₁).calling g' mk (Value.ref b :: As).toArray, t, U', L, E, ce, hT, X', hL, e1, e2, hq, hce, hcv, vx_cls hW₁ hcl, st⟩
end VXIB
/-! ===== END ===== -/
/-! ===== BEGIN a private constructor of a nest mate that throws ===== -/
section VXIC
variable {p : Program} {l : Launch} {e : Env} {R : Room} {s : State} {m : MethodId} {args : Array Value} {below : List Frame} {meth : Method} {c : Code} {T : State} {locs : List Loc} {cells slots : Nat}
theorem vx_callIN (X : Stand p l e R s m args below meth c T locs cells slots) (hexec : p.tables.exec = Jvm.exec) {own : String} {index : Nat} {host : String} {y : MethodName} {bytes : ByteArray} {maxL : Nat}
    (hown : s.vm.findClass own = some m.cls) (hy1 : y.name = "<init>") (hlink : (Cond.methodLinkNest own index y host).before args s = true) (hinst : (Cond.instanceMethod y).before args s = true)
    (hcode : (Cond.code y bytes maxL none).before args s = true) (hy : y.cls ≠ "java/lang/invoke/MethodHandle" ∧ y.cls ≠ "java/lang/invoke/VarHandle")
    {W9 : Nat} {Pre : Pt → Array Value → Prop} {Post : Pt → Array Value → Option Value → Pt → Prop} {PostX : Pt → Array Value → Addr → Pt → Prop} (hK : vx_Back l R p e below s args y 3 W9 Pre Post PostX)
    {g : JFrame} (hg : g.method = m) (hsize : g.locals.size = c.maxLocals) {a : Addr} {argsL rest : List Value} (hlen : ∀ sig, parseMethodDescriptor y.desc = some sig → argsL.length = sig.parameters.length)
    (hstack : g.stack = argsL.reverse ++ .ref a :: rest) (hW : 2 * g.monitorRoom + (rest.map fun v => v.category).sum ≤ W9) (hdg : decode c.code g.pc = .ok (.invokespecial index, 3))
    (hpre : ∀ vm₁, s.WarmedH vm₁ → Pre ⟨T.setVm vm₁, locs, cells, slots⟩ (Value.ref a :: argsL).toArray) :
    (∃ (v : Option Value) (vm₁ : Vm) (B : Pt), s.WarmedH vm₁ ∧ Stand p l e R s m args below meth c B.U B.locs B.cells B.slots ∧ Post ⟨T.setVm vm₁, locs, cells, slots⟩ (Value.ref a :: argsL).toArray v B ∧
      ∀ target, Steps p.tables e below (B.U.setTop { g with pc := g.pc + 3, stack := v.toList ++ rest }) target → Steps p.tables e below (T.setTop g) target) ∨
    (∃ (q : Addr) (vm₁ : Vm) (B : Pt), s.WarmedH vm₁ ∧ Stand p l e R s m args below meth c B.U B.locs B.cells B.slots ∧ PostX ⟨T.setVm vm₁, locs, cells, slots⟩ (Value.ref a :: argsL).toArray q B ∧
      Steps p.tables e below (T.setTop g) ((B.U.setTop { g with stack := rest }).pushFrame (.throwing q))) := by
  subst hg
  have hpl : e.platform.magicAccessors = ({} : Platform).magicAccessors := by rw [X.admits.platform]
  obtain ⟨mk, methM, cM, kP, vm₁, hnamed, hmethM, hcodeM, -, hlocalsM, -, hkP, -, hW₁, hstep₁⟩ := Steps.initColdArgsNest (e := e) X.here hexec X.warmed hpl hown hy1 hy hlink hinst hcode (f := g) rfl hlen hstack hdg
  have X₁ := X.noted hW₁
  rcases hK g.method meth c ⟨T.setVm vm₁, locs, cells, slots⟩ { g with stack := rest } (.invokespecial index) mk (Value.ref a :: argsL).toArray X₁ rfl hsize hdg hW (X₁.named hnamed) (hpre vm₁ X₁.warmed) with ⟨v, B, X', hpost, hsteps⟩ | ⟨q, B, X', hpost, hsteps⟩
  · exact Or.inl ⟨v, vm₁, B, X₁.warmed, X', hpost, fun target h => hstep₁ _ fun acts => by rw [doInvoke_state]; exact hsteps.trans h⟩
  · exact Or.inr ⟨q, vm₁, B, X₁.warmed, X', hpost, hstep₁ _ fun acts => by rw [doInvoke_state]; exact hsteps⟩
end VXIC
section VXID
variable {p : Program} {l : Launch} {e : Env} {R : Room} {s : State} {m : MethodId} {args : Array Value} {below : List Frame} {meth : Method} {c : Code} {H : Heap} {locs : List Loc} {cells slots : Nat}
theorem vx_runIN {y : MethodName} {bytes cc : ByteArray} {maxL nL mc ms n index : Nat} {ws : List Cond} {rm : Room} {Pc : Array Value → State → Prop} {Qc : Array Value → State → Outcome → State → Prop} {XC : String → State → State → Prop} {free : Addr → Prop} {Ts : List Cond} {own host : String} {b : Addr} {As rest : List Value} {g : JFrame}
    (S : CallFix p m c cc nL s args Ts own) (hM : vx_Met l y ws rm Pc Qc XC mc ms free) (cw : va_CN R s args own index y host bytes maxL none ws rm mc ms n ∧ y.name = "<init>" ∧ (Cond.instanceMethod y).before args s = true) (hp : PreS s H Pc (.ref b :: As))
    (hg : g.method = m) (hn : As.length = n) (hsize : g.locals.size = nL) (hstack : g.stack = As.reverse ++ .ref b :: rest) (hW : 2 * g.monitorRoom + (rest.map fun v => v.category).sum ≤ 8) (hdg : decode cc g.pc = .ok (.invokespecial index, 3)) (hf : cells + mc ≤ R.cells ∧ slots + ms ≤ R.slots) :
    vx_Run p l e R s m args below meth c H locs cells slots mc ms g rest (Qc (Value.ref b :: As).toArray) XC free := by
  obtain ⟨⟨⟨hrc, hrs, hfr, hlo, hws, hcw⟩, hcode, hini, hy, hlen, hl⟩, hx1, hx2⟩ := cw
  have hK : vx_Back l R p e below s args y 3 8 (PreOf R mc ms Pc) (PostOf Qc mc ms free) (vx_Post XC mc ms free) := vx_back (bytes := bytes) (maxL := maxL) (ret := none) hM hp.1 hrc hrs hfr hlo hws hcw (fun a' U hW => word_at hW (Or.inl (by first | rfl | simp [Cond.onTables, Cond.keeps, Cond.steady])) hini)
  obtain ⟨hx, hb, hml, ho, -⟩ := S
  have hPc := hp.2
  intro T hT X
  rcases vx_callIN X hx (bytes := bytes) (maxL := maxL) ho hx1 hl hx2 hcode hy hK hg (hsize.trans hml.symm) (a := b) (argsL := As) (rest := rest) (fun sig h => hn.trans (hlen sig h)) hstack hW (by rw [hb]; exact hdg)
    (fun vm₁ hW₁ => ⟨hf.1, hf.2, hPc (T.setVm vm₁) hT hW₁⟩) with ⟨v, vm₁, ⟨U', l2, c2, s2⟩, hW₁, X', ⟨g', mk, t, L, e1, e2, hq, h1, hL, h2, h3⟩, st⟩ | ⟨q, vm₁, ⟨U', l2, c2, s2⟩, hW₁, X', ⟨g', mk, t, L, E, ce, e1, e2, hq, hce, hcv, hcl, h1, hL, h2, h3⟩, st⟩
  · dsimp only [Pt.U, Pt.locs, Pt.cells, Pt.slots] at X' e1 e2 h1 h2 h3 st
    subst h1; subst h2; subst h3
    exact Or.inl ⟨v, (T.setVm vm₁).calling g' mk (Value.ref b :: As).toArray, t, U', L, hT, X', hL, e1, e2, hq, st⟩
  · dsimp only [Pt.U, Pt.locs, Pt.cells, Pt.slots] at X' e1 e2 h1 h2 h3 st hcl
    subst h1; subst h2; subst h3
    exact Or.inr ⟨q, (T.setVm vm₁).calling g' mk (Value.ref b :: As).toArray, t, U', L, E, ce, hT, X', hL, e1, e2, hq, hce, hcv, vx_cls hW₁ hcl, st⟩
end VXID
/-! ===== END ===== -/
/-! ===== BEGIN a private method of a nest mate that may throw (follows va_callVN, va_callSN, va_runVN, va_runSN) ===== -/
section
variable {p : Program} {l : Launch} {e : Env} {R : Room} {s : State} {m : MethodId} {args : Array Value} {below : List Frame} {meth : Method} {c : Code} {H : Heap} {locs : List Loc} {cells slots : Nat}
variable {T : State}
theorem vx_callVN (X : Stand p l e R s m args below meth c T locs cells slots) (hexec : p.tables.exec = Jvm.exec) {own C : String} {index : Nat} {host : String} {y : MethodName} {bytes : ByteArray} {maxL : Nat} {ret : Option FieldType}
    (hown : s.vm.findClass own = some m.cls) (hlink : (Cond.methodLinkNest own index y host).before args s = true) (hinst : (Cond.instanceMethod y).before args s = true) (hsel : (Cond.selects C y y).before args s = true)
    (hcode : (Cond.code y bytes maxL ret).before args s = true) (hy : y.cls ≠ "java/lang/invoke/MethodHandle" ∧ y.cls ≠ "java/lang/invoke/VarHandle")
    {W : Nat} {Pre : Pt → Array Value → Prop} {Post : Pt → Array Value → Option Value → Pt → Prop} {PostX : Pt → Array Value → Addr → Pt → Prop} (hK : vx_Back l R p e below s args y 3 W Pre Post PostX)
    {b : Addr} {cellB : Cell} (hcell : T.heap[b]? = some cellB) (hobj : cellB.vm.isStatics = false) (hcls : s.vm.findClass C = some cellB.cls)
    {g : JFrame} (hg : g.method = m) (hsize : g.locals.size = c.maxLocals) {argsL rest : List Value} (hlen : ∀ sig, parseMethodDescriptor y.desc = some sig → argsL.length = sig.parameters.length)
    (hstack : g.stack = argsL.reverse ++ .ref b :: rest) (hW : 2 * g.monitorRoom + (rest.map fun v => v.category).sum ≤ W) (hdg : decode c.code g.pc = .ok (.invokevirtual index, 3))
    (hpre : ∀ vm₁, s.WarmedH vm₁ → Pre ⟨T.setVm vm₁, locs, cells, slots⟩ (Value.ref b :: argsL).toArray) :
    (∃ (v : Option Value) (vm₁ : Vm) (B : Pt), s.WarmedH vm₁ ∧ Stand p l e R s m args below meth c B.U B.locs B.cells B.slots ∧ Post ⟨T.setVm vm₁, locs, cells, slots⟩ (Value.ref b :: argsL).toArray v B ∧
      ∀ target, Steps p.tables e below (B.U.setTop { g with pc := g.pc + 3, stack := v.toList ++ rest }) target → Steps p.tables e below (T.setTop g) target) ∨
    (∃ (q : Addr) (vm₁ : Vm) (B : Pt), s.WarmedH vm₁ ∧ Stand p l e R s m args below meth c B.U B.locs B.cells B.slots ∧ PostX ⟨T.setVm vm₁, locs, cells, slots⟩ (Value.ref b :: argsL).toArray q B ∧
      Steps p.tables e below (T.setTop g) ((B.U.setTop { g with stack := rest }).pushFrame (.throwing q))) := by
  obtain ⟨mk, methM, hnamed, hmethM, hstM, habM⟩ := Cond.instanceMethod_spec hinst
  obtain ⟨methM', cM, hmethM', -, -, -, -, -, -, hsigM⟩ := Cond.code_spec hnamed hcode
  cases hmethM.symm.trans hmethM'
  obtain ⟨c2, r2, m2, q1, q2, q3, q4, kP, hkP, hkPi⟩ := Cond.selects_spec hsel
  cases hcls.symm.trans q1
  cases (State.methodFound?_of_named hnamed hy).symm.trans q2
  cases hnamed.symm.trans q3
  have hselP : selectMethod e.platform s.vm cellB.cls mk = .method mk := by rw [Launch.admits_selectMethod X.admits]; exact q4
  obtain ⟨vm₁, X₁, hstep₁⟩ := X.invokevirtualNest hexec hown hlink hnamed hmethM hstM hkP hkPi hy (a := b) (cell := cellB) hcell
    (fun z h => by rw [h] at hobj; cases hobj) hselP hmethM habM hkP hkPi (g := g) hg (argsL := argsL) (rest := rest) (hlen _ hsigM) hstack hdg
  rcases hK m meth c ⟨T.setVm vm₁, locs, cells, slots⟩ { g with stack := rest } (.invokevirtual index) mk (Value.ref b :: argsL).toArray X₁ hg hsize hdg hW (X₁.named hnamed) (hpre vm₁ X₁.warmed) with ⟨v, B, X', hpost, hsteps⟩ | ⟨q, B, X', hpost, hsteps⟩
  · exact Or.inl ⟨v, vm₁, B, X₁.warmed, X', hpost, fun target h => hstep₁ _ fun acts => by rw [doInvoke_state]; exact hsteps.trans h⟩
  · exact Or.inr ⟨q, vm₁, B, X₁.warmed, X', hpost, hstep₁ _ fun acts => by rw [doInvoke_state]; exact hsteps⟩
theorem vx_callSN (X : Stand p l e R s m args below meth c T locs cells slots) (hexec : p.tables.exec = Jvm.exec) {own : String} {index : Nat} {host : String} {y : MethodName} {bytes : ByteArray} {maxL : Nat} {ret : Option FieldType}
    (hown : s.vm.findClass own = some m.cls) (hlink : (Cond.methodLinkNest own index y host).before args s = true) (hstat : (Cond.static y).before args s = true) (hinit : (Cond.initialized y.cls).before args s = true)
    (hcode : (Cond.code y bytes maxL ret).before args s = true) (hy : y.cls ≠ "java/lang/invoke/MethodHandle" ∧ y.cls ≠ "java/lang/invoke/VarHandle")
    {W : Nat} {Pre : Pt → Array Value → Prop} {Post : Pt → Array Value → Option Value → Pt → Prop} {PostX : Pt → Array Value → Addr → Pt → Prop} (hK : vx_Back l R p e below s args y 3 W Pre Post PostX)
    {g : JFrame} (hg : g.method = m) (hsize : g.locals.size = c.maxLocals) {argsL rest : List Value} (hlen : ∀ sig, parseMethodDescriptor y.desc = some sig → argsL.length = sig.parameters.length)
    (hstack : g.stack = argsL.reverse ++ rest) (hW : 2 * g.monitorRoom + (rest.map fun v => v.category).sum ≤ W) (hdg : decode c.code g.pc = .ok (.invokestatic index, 3))
    (hpre : ∀ vm₁, s.WarmedH vm₁ → Pre ⟨T.setVm vm₁, locs, cells, slots⟩ argsL.toArray) :
    (∃ (v : Option Value) (vm₁ : Vm) (B : Pt), s.WarmedH vm₁ ∧ Stand p l e R s m args below meth c B.U B.locs B.cells B.slots ∧ Post ⟨T.setVm vm₁, locs, cells, slots⟩ argsL.toArray v B ∧
      ∀ target, Steps p.tables e below (B.U.setTop { g with pc := g.pc + 3, stack := v.toList ++ rest }) target → Steps p.tables e below (T.setTop g) target) ∨
    (∃ (q : Addr) (vm₁ : Vm) (B : Pt), s.WarmedH vm₁ ∧ Stand p l e R s m args below meth c B.U B.locs B.cells B.slots ∧ PostX ⟨T.setVm vm₁, locs, cells, slots⟩ argsL.toArray q B ∧
      Steps p.tables e below (T.setTop g) ((B.U.setTop { g with stack := rest }).pushFrame (.throwing q))) := by
  obtain ⟨mk, hnamed⟩ := Cond.code_named hcode
  obtain ⟨methM, cM, hmethM, -, -, -, -, -, -, hsigM⟩ := Cond.code_spec hnamed hcode
  have hstatic : methM.isStatic = true := Cond.static_spec hnamed hmethM hstat
  obtain ⟨kP, hkP, -⟩ := className_of_methodNamed hnamed
  have hinitP : kP.init = .initialized := Cond.initialized_spec (findClass_of_methodNamed hnamed) hkP hinit
  obtain ⟨vm₁, X₁, hstep₁⟩ := X.invokestaticNest hexec hown hlink hnamed hmethM hstatic hkP hinitP hy (g := g) hg (argsL := argsL) (rest := rest) (hlen _ hsigM) hstack hdg
  rcases hK m meth c ⟨T.setVm vm₁, locs, cells, slots⟩ { g with stack := rest } (.invokestatic index) mk argsL.toArray X₁ hg hsize hdg hW (X₁.named hnamed) (hpre vm₁ X₁.warmed) with ⟨v, B, X', hpost, hsteps⟩ | ⟨q, B, X', hpost, hsteps⟩
  · exact Or.inl ⟨v, vm₁, B, X₁.warmed, X', hpost, fun target h => hstep₁ _ fun acts => by rw [doInvoke_state]; exact hsteps.trans h⟩
  · exact Or.inr ⟨q, vm₁, B, X₁.warmed, X', hpost, hstep₁ _ fun acts => by rw [doInvoke_state]; exact hsteps⟩
theorem vx_runVN {y : MethodName} {bytes cc : ByteArray} {maxL nL mc ms n index : Nat} {ret : Option FieldType} {ws : List Cond} {rm : Room} {Pc : Array Value → State → Prop} {Qc : Array Value → State → Outcome → State → Prop} {XC : String → State → State → Prop} {free : Addr → Prop} {Ts : List Cond} {own C host : String} {b : Addr} {As rest : List Value} {g : JFrame}
    (S : CallFix p m c cc nL s args Ts own) (hM : vx_Met l y ws rm Pc Qc XC mc ms free) (cw : va_CN R s args own index y host bytes maxL ret ws rm mc ms n ∧ (Cond.instanceMethod y).before args s = true ∧ (Cond.selects C y y).before args s = true) (hp : PreV s H C b Pc As)
    (hg : g.method = m) (hn : As.length = n) (hsize : g.locals.size = nL) (hstack : g.stack = As.reverse ++ .ref b :: rest) (hW : 2 * g.monitorRoom + (rest.map fun v => v.category).sum ≤ 8) (hdg : decode cc g.pc = .ok (.invokevirtual index, 3)) (hf : cells + mc ≤ R.cells ∧ slots + ms ≤ R.slots) :
    vx_Run p l e R s m args below meth c H locs cells slots mc ms g rest (Qc (Value.ref b :: As).toArray) XC free := by
  obtain ⟨⟨⟨hrc, hrs, hfr, hlo, hws, hcw⟩, hcode, hini, hy, hlen, hl⟩, hx1, hx2⟩ := cw
  have hK : vx_Back l R p e below s args y 3 8 (PreOf R mc ms Pc) (PostOf Qc mc ms free) (vx_Post XC mc ms free) := vx_back (bytes := bytes) (maxL := maxL) (ret := ret) hM hp.1 hrc hrs hfr hlo hws hcw (fun a' U hW => word_at hW (Or.inl (by first | rfl | simp [Cond.onTables, Cond.keeps, Cond.steady])) hini)
  obtain ⟨hx, hb, hml, ho, -⟩ := S
  obtain ⟨-, ⟨cellB, hcB, hoB, hclB⟩, hPc⟩ := hp
  intro T hT X
  rcases vx_callVN X hx (C := C) (bytes := bytes) (maxL := maxL) (ret := ret) ho hl hx1 hx2 hcode hy hK (by rw [hT]; exact hcB) hoB hclB hg (hsize.trans hml.symm) (argsL := As) (rest := rest) (fun sig h => hn.trans (hlen sig h)) hstack hW (by rw [hb]; exact hdg)
    (fun vm₁ hW₁ => ⟨hf.1, hf.2, hPc (T.setVm vm₁) hT hW₁⟩) with ⟨v, vm₁, ⟨U', l2, c2, s2⟩, hW₁, X', ⟨g', mk, t, L, e1, e2, hq, h1, hL, h2, h3⟩, st⟩ | ⟨q, vm₁, ⟨U', l2, c2, s2⟩, hW₁, X', ⟨g', mk, t, L, E, ce, e1, e2, hq, hce, hcv, hcl, h1, hL, h2, h3⟩, st⟩
  · dsimp only [Pt.U, Pt.locs, Pt.cells, Pt.slots] at X' e1 e2 h1 h2 h3 st
    subst h1; subst h2; subst h3
    exact Or.inl ⟨v, (T.setVm vm₁).calling g' mk (Value.ref b :: As).toArray, t, U', L, hT, X', hL, e1, e2, hq, st⟩
  · dsimp only [Pt.U, Pt.locs, Pt.cells, Pt.slots] at X' e1 e2 h1 h2 h3 st hcl
    subst h1; subst h2; subst h3
    exact Or.inr ⟨q, (T.setVm vm₁).calling g' mk (Value.ref b :: As).toArray, t, U', L, E, ce, hT, X', hL, e1, e2, hq, hce, hcv, vx_cls hW₁ hcl, st⟩
theorem vx_runSN {y : MethodName} {bytes cc : ByteArray} {maxL nL mc ms n index : Nat} {ret : Option FieldType} {ws : List Cond} {rm : Room} {Pc : Array Value → State → Prop} {Qc : Array Value → State → Outcome → State → Prop} {XC : String → State → State → Prop} {free : Addr → Prop} {Ts : List Cond} {own host : String} {As rest : List Value} {g : JFrame}
    (S : CallFix p m c cc nL s args Ts own) (hM : vx_Met l y ws rm Pc Qc XC mc ms free) (cw : va_CN R s args own index y host bytes maxL ret ws rm mc ms n ∧ (Cond.static y).before args s = true ∧ True) (hp : PreS s H Pc As)
    (hg : g.method = m) (hn : As.length = n) (hsize : g.locals.size = nL) (hstack : g.stack = As.reverse ++ rest) (hW : 2 * g.monitorRoom + (rest.map fun v => v.category).sum ≤ 8) (hdg : decode cc g.pc = .ok (.invokestatic index, 3)) (hf : cells + mc ≤ R.cells ∧ slots + ms ≤ R.slots) :
    vx_Run p l e R s m args below meth c H locs cells slots mc ms g rest (Qc As.toArray) XC free := by
  obtain ⟨⟨⟨hrc, hrs, hfr, hlo, hws, hcw⟩, hcode, hini, hy, hlen, hl⟩, hx1, hx2⟩ := cw
  have hK : vx_Back l R p e below s args y 3 8 (PreOf R mc ms Pc) (PostOf Qc mc ms free) (vx_Post XC mc ms free) := vx_back (bytes := bytes) (maxL := maxL) (ret := ret) hM hp.1 hrc hrs hfr hlo hws hcw (fun a' U hW => word_at hW (Or.inl (by first | rfl | simp [Cond.onTables, Cond.keeps, Cond.steady])) hini)
  obtain ⟨hx, hb, hml, ho, -⟩ := S
  have hPc := hp.2
  intro T hT X
  rcases vx_callSN X hx (bytes := bytes) (maxL := maxL) (ret := ret) ho hl hx1 hini hcode hy hK hg (hsize.trans hml.symm) (argsL := As) (rest := rest) (fun sig h => hn.trans (hlen sig h)) hstack hW (by rw [hb]; exact hdg)
    (fun vm₁ hW₁ => ⟨hf.1, hf.2, hPc (T.setVm vm₁) hT hW₁⟩) with ⟨v, vm₁, ⟨U', l2, c2, s2⟩, hW₁, X', ⟨g', mk, t, L, e1, e2, hq, h1, hL, h2, h3⟩, st⟩ | ⟨q, vm₁, ⟨U', l2, c2, s2⟩, hW₁, X', ⟨g', mk, t, L, E, ce, e1, e2, hq, hce, hcv, hcl, h1, hL, h2, h3⟩, st⟩
  · dsimp only [Pt.U, Pt.locs, Pt.cells, Pt.slots] at X' e1 e2 h1 h2 h3 st
    subst h1; subst h2; subst h3
    exact Or.inl ⟨v, (T.setVm vm₁).calling g' mk As.toArray, t, U', L, hT, X', hL, e1, e2, hq, st⟩
  · dsimp only [Pt.U, Pt.locs, Pt.cells, Pt.slots] at X' e1 e2 h1 h2 h3 st hcl
    subst h1; subst h2; subst h3
    exact Or.inr ⟨q, (T.setVm vm₁).calling g' mk As.toArray, t, U', L, E, ce, hT, X', hL, e1, e2, hq, hce, hcv, vx_cls hW₁ hcl, st⟩
end
/-! ===== END ===== -/
end
section
/-! SOUNDNESS OF ONE STEP: behind a call -/
theorem EnvT.warm {s U : State} (hW : s.WarmedH U.vm) (h : EnvT s) : EnvT U := by
  obtain ⟨h1, h2, h3, h4, h5, h6⟩ := h
  refine ⟨fun w hw => ?_, fun q hq => ?_, va_AO.moved hW.alike h3, fun k hk => va_Nw.warmC hW (h4 k hk), fun k k' hk hk' hne => va_Nc.moved hW.alike (h5 k k' hk hk' hne), fun w hw => ?_⟩
  · have h9 := h1 w hw
    simp only [nestW, List.mem_cons, List.not_mem_nil, or_false] at hw
    rcases hw with rfl | rfl | rfl | rfl | rfl | rfl | rfl | rfl <;> exact va_Nw.warmM hW h9
  · obtain ⟨a, ha⟩ := h2 q hq
    exact ⟨a, vk_R.warm hW ha⟩
  · have h9 := h6 w hw
    simp only [decW, List.mem_cons, List.not_mem_nil, or_false] at hw
    rcases hw with rfl | rfl | rfl <;> exact va_Nw.warmD hW h9
theorem EnvT.same {s U : State} (hv : U.vm = s.vm) (h : EnvT s) : EnvT U := by
  have hal : s.vm.Alike U.vm := by rw [hv]; exact Vm.Alike.refl _
  obtain ⟨h1, h2, h3, h4, h5, h6⟩ := h
  refine ⟨fun w hw => ?_, fun q hq => ?_, va_AO.moved hal h3, fun k hk => va_Nw.same rfl hv.symm (h4 k hk), fun k k' hk hk' hne => va_Nc.moved hal (h5 k k' hk hk' hne), fun w hw => ?_⟩
  · have h9 := h1 w hw
    simp only [nestW, List.mem_cons, List.not_mem_nil, or_false] at hw
    rcases hw with rfl | rfl | rfl | rfl | rfl | rfl | rfl | rfl <;> exact va_Nw.same rfl hv.symm h9
  · obtain ⟨a, ha⟩ := h2 q hq
    exact ⟨a, vk_R.same hv ha⟩
  · have h9 := h6 w hw
    simp only [decW, List.mem_cons, List.not_mem_nil, or_false] at hw
    rcases hw with rfl | rfl | rfl <;> exact va_Nw.same rfl hv.symm h9
theorem EnvZ.moved {A : Nat → Prop} {s U : State} {H : Heap} (hvm : s.vm.Alike U.vm) (h : EnvZ A s H) : EnvZ A U H := ⟨vx_Zq.moved hvm h.1, vx_Zq.moved hvm h.2⟩
theorem EnvZ.kept {A : Nat → Prop} {s : State} {H H1 : Heap} (h : EnvZ A s H) (hq : ∀ a : Nat, a < H.size → ¬ A a → H1[a]? = H[a]?) : EnvZ A s H1 := ⟨vx_Zq.kept h.1 hq, vx_Zq.kept h.2 hq⟩
theorem EnvZ.narrow {A B : Nat → Prop} {s : State} {H : Heap} (h : EnvZ A s H) (hAB : ∀ q, B q → A q) : EnvZ B s H := ⟨vx_Zq.narrow h.1 hAB, vx_Zq.narrow h.2 hAB⟩
theorem PcO.blind (D : va_G) (K : Nat → ClassId) (ad : Nat → Nat) (sz : Nat) (as : List Value) (w : Wd) : FrameBlind (PcO D K ad sz as w) := by
  intro a U g mk q
  obtain ⟨q0, q1, q2, q3, q4, q5, q6, q7⟩ := q
  exact ⟨q0, q1, q2, q3, q4, va_K.moved (u := U) (U := U.calling g mk a) (Vm.Alike.refl U.vm) q5, EnvT.same (s := U) (U := U.calling g mk a) rfl q6, EnvZ.moved (s := U) (U := U.calling g mk a) (Vm.Alike.refl U.vm) q7⟩
/-- what a call asks of the caller's state -/
theorem PcO.of {p : Program} {s : State} {D : va_G} {K : Nat → ClassId} {A : Nat → Prop} {ad : Nat → Nat} {w : Wd} {as : List Value} {H : Heap} {locs : List Loc} (hK : va_K D vwCl (tysK K) s) (hT : EnvT s) (hZ : EnvZ A s s.heap) (hA1 : ∀ q, va_A (wsW K ad w) H.size q → A q) (hW : WPd D K A ad w H) (hS : va_S A s.heap H locs) :
    ∀ U : State, U.heap = H → s.WarmedH U.vm → PcO D K ad H.size as w (as.map (cv ad)).toArray U := by
  intro U hU hWm
  obtain ⟨hP, hD, hwf⟩ := hW
  exact ⟨rfl, by rw [hU], by rw [hU]; exact hP, hD.weaken (fun _ _ _ _ => trivial), hwf, va_K.moved hWm.alike hK, hT.warm hWm, by rw [hU]; exact EnvZ.moved hWm.alike ((hZ.kept hS.2.1).narrow hA1)⟩
theorem vaA_in {D : va_G} {K : Nat → ClassId} {A : Nat → Prop} {ad : Nat → Nat} {w : Wd} {s : State} {H : Heap} {locs : List Loc} (hD : va_D A (wsW K ad w)) (hS : va_S A s.heap H locs) (hA : ∀ q, s.heap.size ≤ q → A q) : ∀ q, va_A (wsW K ad w) H.size q → A q := by
  intro q h
  rcases h with ⟨k, e, h⟩ | h
  · exact hD.2 k (q, e) h
  · exact hA q (Nat.le_trans hS.1 h)
set_option maxHeartbeats 2000000 in
theorem so_aft {p : Program} {l : Launch} {e : Env} {R : Room} {s : State} {m : MethodId} {args : Array Value} {below : List Frame} {meth : Method} {c : Code} {D : va_G} {K : Nat → ClassId} {A : Nat → Prop} {ad0 : Nat → Nat} {n0 nL : Nat} {Sx : (Nat → Nat) → Prop} {Qm : State → Prop} {hn : Nat → String → Option Nat} {pc : Nat} {ls : List (Nat × Value)} {r : List Value} {w : Wd} {nc ns mc ms : Nat} {rt : Option FieldType} {P : Res → Wd → Prop} {a : Array Value} {st0 : List Value} {ad : Nat → Nat} {H : Heap} {locs : List Loc} {lsx : Array Slot}
    (hSx : ∀ ad ad', Sx ad → ad' 1000001 = ad 1000001 → Sx ad') (hA : ∀ q, s.heap.size ≤ q → A q)
    (hCat : ∀ (E : String) (h9 : Nat) (ce : Cell) (q9 : Addr) (H1 : Heap) (locs1 : List Loc) (rest : List Value), hn pc E = some h9 → H1[q9]? = some ce → ce.vm = .none → s.vm.findClass E = some ce.cls → W p l e R s m args below meth c H1 locs1 (nc + mc) (ns + ms) Qm (F0 m h9 lsx [.ref q9]) → vx_W p l e R s m args below meth c H1 locs1 (nc + mc) (ns + ms) Qm (F0 m pc lsx rest) q9)
    (hr : vx_Run p l e R s m args below meth c H locs nc ns mc ms (F0 m pc lsx st0) (r.map (cv ad)) (QcO rt D K (va_A (wsW K ad w) H.size) ad w P a) (XcO D K (va_A (wsW K ad w) H.size) ad w P) (va_A (wsW K ad w) H.size))
    (hW : WPd D K A ad w H) (hS : va_S A s.heap H locs) (hag : ∀ i, i ≤ n0 → ad i = ad0 i) (hn0 : n0 ≤ w.1.1) (hsx : Sx ad) (hl : lv_has lsx nL (cvl ad ls))
    (h : ∀ (rs : Res) (w' : Wd), P rs w' → aftC hn (pc + 3) pc ls r w (nc + mc) (ns + ms) (MW p l e R s m args below meth c D K A ad0 n0 nL Sx Qm) rs w') :
    W p l e R s m args below meth c H locs nc ns Qm (F0 m pc lsx st0) := by
  have hA1 := vaA_in (D := D) hW.2.1 hS hA
  have conv : ∀ (u : Wd × (Nat → Nat)) (t : State), BW D K (va_A (wsW K ad w) H.size) ad w u t → (u.1.1.1 = w.1.1 ∨ frB w.1.1 u.1.1.1 r ls) → r.map (cv u.2) = r.map (cv ad) ∧ cvl u.2 ls = cvl ad ls := by
    intro u t hB hfr
    rcases hfr with hfr | hfr
    · have : u.2 = ad := funext fun i => hB.2.1 i (by omega)
      rw [this]
      exact ⟨rfl, rfl⟩
    · exact frB_map hfr (fun x hx => hB.2.1 x hx)
  have done : ∀ (v : Option Value) (vs : List Value), (∀ ad' : Nat → Nat, v.toList.map (cv ad') = vs) → ∀ (u : Wd × (Nat → Nat)) (t : State) (H1 : Heap) (locs1 : List Loc), t.heap = H1 → P (.inl v) u.1 → BW D K (va_A (wsW K ad w) H.size) ad w u t → va_S A s.heap H1 locs1 → W p l e R s m args below meth c H1 locs1 (nc + mc) (ns + ms) Qm (F0 m (pc + 3) lsx (vs ++ r.map (cv ad))) := by
    intro v vs hvs u t H1 locs1 ht hp hB hS1
    obtain ⟨hfr, hX⟩ := h (.inl v) u.1 hp
    obtain ⟨c1, c2⟩ := conv u t hB hfr
    obtain ⟨⟨b1, b2, b3⟩, b4, b5⟩ := id hB
    rw [ht] at b1
    have hX' : MW p l e R s m args below meth c D K A ad0 n0 nL Sx Qm (pc + 3, ls, v.toList ++ r, u.1, nc + mc, ns + ms) := by
      cases v with
      | none => exact hX
      | some v => exact hX
    have := hX' u.2 H1 locs1 lsx ⟨b1, b2.weaken (fun _ _ _ q => hA1 _ q), b3⟩ hS1 (fun i hi => (b4 i (Or.inl (Nat.le_trans hi hn0))).trans (hag i hi)) (Nat.le_trans hn0 b5) (hSx ad _ hsx (b4 _ (Or.inr (by have := b3.2.2; omega)))) (by rw [c2]; exact hl)
    rw [List.map_append, c1, hvs] at this
    exact this
  have kx : ∀ (E : String) (ce : Cell) (q9 : Addr) (u : Wd × (Nat → Nat)) (t : State) (H1 : Heap) (locs1 : List Loc), t.heap = H1 → s.vm.Alike t.vm → True → (P (.inr E) u.1 ∧ BW D K (va_A (wsW K ad w) H.size) ad w u t) → H.size ≤ H1.size → (∀ q : Nat, q < H.size → ¬ va_A (wsW K ad w) H.size q → H1[q]? = H[q]?) → va_S A s.heap H1 locs1 → H1[q9]? = some ce → ce.vm = .none → s.vm.findClass E = some ce.cls → vx_W p l e R s m args below meth c H1 locs1 (nc + mc) (ns + ms) Qm (F0 m pc lsx (r.map (cv ad))) q9 := by
    intro E ce q9 u t H1 locs1 ht hvm _ hPB _ _ hS1 hce hcv hcl
    obtain ⟨hp, hB⟩ := hPB
    obtain ⟨hfr, hX⟩ := h (.inr E) u.1 hp
    obtain ⟨c1, c2⟩ := conv u t hB hfr
    obtain ⟨⟨b1, b2, b3⟩, b4, b5⟩ := id hB
    rw [ht] at b1
    cases hh : hn pc E with
    | none =>
      dsimp only at hX
      rw [hh] at hX
      exact hX.elim
    | some h9 =>
      dsimp only at hX
      rw [hh] at hX
      obtain ⟨hno, hX⟩ := hX
      refine hCat E h9 ce q9 H1 locs1 _ hh hce hcv hcl ?_
      have hws : wsW K (upA u.2 1000000 q9) u.1 = wsW K u.2 u.1 := wsW_congr K u.2 _ u.1 b3 (fun i hi => upA_n _ _ (by have := b3.2.2; omega))
      have hcl2 : cvl (upA u.2 1000000 q9) ls = cvl u.2 ls := by
        unfold cvl
        refine List.map_congr_left (fun q hq => ?_)
        have hqn := hno q hq
        obtain ⟨i, v⟩ := q
        show (i, cv _ v) = (i, cv _ v)
        cases v with
        | ref a => cases a with
          | zero => rfl
          | succ a =>
            have : a + 1 ≠ 1000000 := fun z => hqn (congrArg Value.ref z)
            show (i, Value.ref _) = (i, Value.ref _)
            rw [upA_n _ _ this]
        | _ => rfl
      have := hX (upA u.2 1000000 q9) H1 locs1 lsx ⟨by rw [hws]; exact b1, by rw [hws]; exact b2.weaken (fun _ _ _ q => hA1 _ q), b3⟩ hS1 (fun i hi => (upA_n _ _ (by have := b3.2.2; omega)).trans ((b4 i (Or.inl (Nat.le_trans hi hn0))).trans (hag i hi))) (Nat.le_trans hn0 b5) (hSx ad _ hsx ((upA_n _ _ (by omega)).trans (b4 _ (Or.inr (by have := b3.2.2; omega))))) (by rw [hcl2, c2]; exact hl)
      have e1 : [Value.ref 1000000].map (cv (upA u.2 1000000 q9)) = [Value.ref q9] := by
        show [cv _ (.ref 1000000)] = _
        rw [cv_pos _ (by omega), upA_s]
      rw [← e1]
      exact this
  cases rt with
  | none => exact vx_callv (a := a) hr hS (fun q _ hq => hA1 q hq) hA1 (fun q _ hq => hA1 q hq) kx (fun u t H1 locs1 ht hvm hp hB hz hk hS1 => done none [] (fun _ => rfl) u t H1 locs1 ht hp hB hS1)
  | some ty =>
    cases ty with
    | long => exact vx_calll (a := a) hr hS (fun q _ hq => hA1 q hq) hA1 (fun q _ hq => hA1 q hq) kx (fun x u t H1 locs1 ht hvm hp hB hz hk hS1 => done (some (.long x)) [.long x] (fun _ => rfl) u t H1 locs1 ht hp hB hS1)
    | _ => exact vx_calli (a := a) hr hS (fun q _ hq => hA1 q hq) hA1 (fun q _ hq => hA1 q hq) kx (fun x u t H1 locs1 ht hvm hp hB hz hk hS1 => done (some (.int x)) [.int x] (fun _ => rfl) u t H1 locs1 ht hp hB hS1)
end
section
def isC : Instr → Bool
  | .invokespecial .. => true
  | .invokevirtual .. => true
  | .invokestatic .. => true
  | _ => false
/-! SOUNDNESS OF ONE STEP: calls -/
theorem GG_in {ws : List Cond} (h : ∀ w ∈ ws, w ∈ GG) : GoodIn GG ws := fun w hw => ⟨h w hw, good_of_word (List.mem_filter.mp (h w hw)).2⟩
theorem hdW_code {j : Nat} (h : hhT j = []) : hdW j = .code (yN j) (bC j) (mL j) (rT j) := by
  unfold hdW
  rw [h]
theorem hdW_with {j : Nat} {q : Nat × Nat × Nat × Nat} {r : List (Nat × Nat × Nat × Nat)} (h : hhT j = q :: r) : hdW j = .codeWith (yN j) (bC j) (mL j) (rT j) (q :: r) := by
  unfold hdW
  rw [h]
theorem nestOk_in {i own idx : Nat} {y : MethodName} {o : String} (h : nestOk i own idx y o = true) : ∃ host : String, Cond.methodLinkNest o idx y host ∈ nestW := by
  simp only [nestOk, decide_eq_true_eq] at h
  exact ⟨_, List.mem_of_getElem? h⟩
theorem kO_lt : ∀ j, (yN j).name = "<init>" → kO j < 8 := by
  have key : (List.range 196).all (fun j => decide ((yN j).name = "<init>" → kO j < 8)) = true := by decide +kernel
  intro j h
  by_cases hj : j < 196
  · exact of_decide_eq_true (List.all_eq_true.mp key j (List.mem_range.mpr hj)) h
  · obtain ⟨k, rfl⟩ : ∃ k, j = k + 196 := ⟨j - 196, by omega⟩
    exact absurd (show ("" : String) = "<init>" from h) (by decide)
set_option maxHeartbeats 4000000 in
theorem so_call {p : Program} {l : Launch} {e : Env} {R : Room} {s : State} {m : MethodId} {args : Array Value} {below : List Frame} {meth : Method} {c : Code} {D : va_G} {K : Nat → ClassId} {A : Nat → Prop} {ad0 : Nat → Nat} {n0 nL : Nat} {Sx : (Nat → Nat) → Prop} {Qm : State → Prop} {j : Nat}
  (hx : p.tables.exec = Jvm.exec) (hb : c.code = bC j) (hml : c.maxLocals = nL) (hnL : nL = mL j) (hown : s.vm.findClass (ownO j) = some m.cls) (hts : ∀ w ∈ GG, w.before args s = true)
  {C : Cal} {SX : Option (Nat × (Nat → Int32))} {mxc mxs d1 : Nat} {hn : Nat → String → Option Nat} {Rt : Option Value → Wd → Nat → Nat → Prop} {Th : String → Wd → Nat → Nat → Prop} {ins : Instr} {nx : Nat} {aux : List Nat} {kc : Int32} {kl : Int64} {pc : Nat} {ls : List (Nat × Value)} {st : List Value} {w : Wd} {nc ns : Nat}
  (hK : va_K D vwCl (tysK K) s) (hT : EnvT s) (hZ : EnvZ A s s.heap) (hA : ∀ q, s.heap.size ≤ q → A q) (hSx : ∀ ad ad', Sx ad → ad' 1000001 = ad 1000001 → Sx ad') (hRc : R.cells = mxc) (hRs : R.slots = mxs) (hRf : d1 + 1 ≤ R.frames) (hRl : 31 + 34 * d1 ≤ R.locals)
  (hC : ∀ (jc : Nat) (as : List Value) (w : Wd) (P : Res → Wd → Prop), C jc as w P → Ctr l d1 jc as w P)
  (hCat : ∀ (E : String) (h9 : Nat) (ce : Cell) (q9 : Addr) (H1 : Heap) (locs1 : List Loc) (lsx : Array Slot) (rest : List Value) (c9 s9 : Nat), hn pc E = some h9 → H1[q9]? = some ce → ce.vm = .none → s.vm.findClass E = some ce.cls → W p l e R s m args below meth c H1 locs1 c9 s9 Qm (F0 m h9 lsx [.ref q9]) → vx_W p l e R s m args below meth c H1 locs1 c9 s9 Qm (F0 m pc lsx rest) q9)
  (hs : isC ins = true) (hrow : okRow j pc (ins, nx, aux, kc, kl) = true) (h : stepI C mjT kO nA SX mxc mxs hn Rt Th ins nx aux kc kl pc ls st w nc ns (MW p l e R s m args below meth c D K A ad0 n0 nL Sx Qm)) : MW p l e R s m args below meth c D K A ad0 n0 nL Sx Qm (pc, ls, st, w, nc, ns) := by
  have room : ∀ {lsx : Array Slot} {H : Heap} {ad : Nat → Nat} {r : List Value}, catS r ≤ 8 → 2 * (F0 m pc lsx (r.map (cv ad))).monitorRoom + ((r.map (cv ad)).map fun v => v.category).sum ≤ 8 := by
    intro lsx H ad r hr
    exact lv_room (by rw [catS_map]; exact hr)
  have bound : ∀ {jc : Nat}, mL jc ≤ 12 → 8 + (mL jc + 11) + (rmO d1 jc).locals ≤ R.locals := by
    intro jc h9
    show 8 + (mL jc + 11) + 34 * d1 ≤ R.locals
    omega
  -- the words of a callee
  have wds : ∀ {jc ph pi : Nat}, cOk jc ph pi = true → hdW jc ∈ GG ∧ Cond.initialized (yN jc).cls ∈ GG ∧ ((yN jc).cls ≠ "java/lang/invoke/MethodHandle" ∧ (yN jc).cls ≠ "java/lang/invoke/VarHandle" ∧ (parseMethodDescriptor (yN jc).desc).map (fun d => d.parameters.length) = some (nA jc)) ∧ mL jc ≤ 12 := by
    intro jc ph pi h9
    simp only [cOk, Bool.and_eq_true, decide_eq_true_eq] at h9
    obtain ⟨q1, q2, q3, q4, q5, q6, q7⟩ := h9
    exact ⟨wAt_in q1, wAt_in q2, ⟨q3, q4, q5⟩, q7⟩
  have inW : ∀ {jc : Nat} {L : List Cond}, hdW jc ∈ GG → (∀ w ∈ L, w ∈ GG) → ∀ w ∈ L ++ (hdW jc :: GG), w ∈ GG := by
    intro jc L h1 h2 w hw
    rcases List.mem_append.mp hw with hw | hw
    · exact h2 w hw
    · rcases List.mem_cons.mp hw with hw | hw
      · rw [hw]; exact h1
      · exact hw
  have go : ∀ (jc : Nat) (as r st9 : List Value) (P : Res → Wd → Prop), (∀ (rs : Res) (w' : Wd), P rs w' → aftC hn (pc + 3) pc ls r w (nc + (mjT jc).1) (ns + (mjT jc).2) (MW p l e R s m args below meth c D K A ad0 n0 nL Sx Qm) rs w') → (∀ (ad : Nat → Nat) (H : Heap) (locs : List Loc) (lsx : Array Slot), WPd D K A ad w H → va_S A s.heap H locs → lv_has lsx nL (cvl ad ls) → vx_Run p l e R s m args below meth c H locs nc ns (mjT jc).1 (mjT jc).2 (F0 m pc lsx (st9.map (cv ad))) (r.map (cv ad)) (QcO (rT jc) D K (va_A (wsW K ad w) H.size) ad w P (as.map (cv ad)).toArray) (XcO D K (va_A (wsW K ad w) H.size) ad w P) (va_A (wsW K ad w) H.size)) → MW p l e R s m args below meth c D K A ad0 n0 nL Sx Qm (pc, ls, st9, w, nc, ns) := by
    intro jc as r st9 P hk q ad H locs lsx hW hS hag hn0 hsx hl
    exact so_aft hSx hA (fun E h9 ce q9 H1 locs1 rest => hCat E h9 ce q9 H1 locs1 lsx rest _ _) (q ad H locs lsx hW hS hl) hW hS hag hn0 hsx hl hk
  have mapb : ∀ (ad : Nat → Nat) (b : Nat) (as : List Value), 1 ≤ b → (Value.ref b :: as).map (cv ad) = Value.ref (ad b) :: as.map (cv ad) := fun ad b as hb1 => by rw [List.map_cons, cv_pos ad hb1]
  have stb : ∀ (ad : Nat → Nat) (b : Nat) (as r : List Value), 1 ≤ b → ((Value.ref b :: as).reverse ++ r).map (cv ad) = (as.map (cv ad)).reverse ++ Value.ref (ad b) :: r.map (cv ad) := fun ad b as r hb1 => by simp [cv_pos ad hb1]
  cases ins with
  | invokespecial i =>
    obtain ⟨t, r0, rfl, h1⟩ := aC_s h
    simp only [okRow, dOk, Bool.and_eq_true, decide_eq_true_eq] at hrow
    obtain ⟨⟨hd, rfl⟩, hq⟩ := hrow
    rcases nI1_s h1 with ⟨rfl, h2⟩ | ⟨ht, h2⟩
    · obtain ⟨a, r, rfl, ha, hcat, h9⟩ := pR_s h2
      split at hq
      · rename_i p1 p2 p3 heq
        simp only [Bool.and_eq_true] at hq
        obtain ⟨q1, q2, q3⟩ := hq
        intro ad H locs lsx hW hS hag hn0 hsx hl
        obtain ⟨hP, hD, hwf⟩ := hW
        show W p l e R s m args below meth c H locs nc ns Qm (F0 m pc lsx (cv ad (.ref a) :: r.map (cv ad)))
        rw [cv_pos ad ha]
        refine W.objInit hx hb hown (hts _ (wAt_in q1)) (hts _ (wAt_in q2)) (hts _ (wAt_in q3)) rfl (by rw [hml]; exact hl.1) rfl hd (by omega) ?_ ?_
        · have := room (lsx := lsx) (H := H) (ad := ad) hcat
          have e1 : 2 * (F0 m pc lsx (Value.ref (ad a) :: r.map (cv ad))).monitorRoom = 2 * (F0 m pc lsx (r.map (cv ad))).monitorRoom := rfl
          rw [e1]
          omega
        · exact h9 ad H locs lsx ⟨hP, hD, hwf⟩ hS hag hn0 hsx hl
      · rename_i heq
        simp at heq
      · rename_i heq
        simp at heq
      · simp at hq
    · obtain ⟨jc, r1, rfl, h3⟩ := aC_s h2
      obtain ⟨ba, r, hlen, rfl, h4⟩ := pA_s h3
      obtain ⟨b, as, rfl, ⟨hcat, hc1, hc2⟩, hkb, P, hCP, hk⟩ := pB_s h4
      refine go jc (.ref b :: as) r _ P hk (fun ad H locs lsx hW hS hl => ?_)
      have hM := hC jc _ w P hCP D K ad H.size
      have hA1 := vaA_in (D := D) hW.2.1 hS hA
      have hpc := PcO.of (p := p) (as := .ref b :: as) hK hT hZ hA1 hW hS
      have hlen' : as.length = nA jc := by simpa using hlen
      split at hq
      · rename_i heq
        simp only [List.cons.injEq] at heq
        exact absurd heq.1 ht
      · rename_i p1 p2 p3 p4 heq
        simp only [List.cons.injEq] at heq
        obtain ⟨rfl, rfl, rfl⟩ := heq
        simp only [Bool.and_eq_true, decide_eq_true_eq] at hq
        obtain ⟨c1, c2, c3, c4, c5, c6⟩ := hq
        obtain ⟨g1, g2, g3, g4⟩ := wds c1
        have hb1 : 1 ≤ b := (wf_in hW.2.2 hkb (by have := kO_lt jc c4; omega)).1
        rw [mapb ad b as hb1] at hpc ⊢
        rw [stb ad b as r hb1]
        exact vx_runI ⟨hx, hb, hml, hown, hts⟩ hM (cwI (maxL := mL jc) (bytes := bC jc) (nA jc) hts (GG_in (inW (L := []) g1 (fun _ h => nomatch h))) (by rw [hdW_code c6, c5]) rfl rfl (hts _ g2) (hts _ (wAt_in c3)) (hts _ (wAt_in c2)) c4 g3 ⟨hRf, bound g4⟩) ⟨PcO.blind D K ad H.size _ w, hpc⟩ rfl (by simpa using hlen') hl.1 rfl (room (lsx := lsx) (H := H) (ad := ad) hcat) hd (by rw [hRc, hRs]; exact ⟨hc1, hc2⟩)
      · rename_i p1 p2 p3 q9 heq
        simp only [List.cons.injEq] at heq
        obtain ⟨rfl, rfl, rfl⟩ := heq
        simp only [Bool.and_eq_true, decide_eq_true_eq] at hq
        obtain ⟨c1, c2, c3, c4, c5, c6⟩ := hq
        obtain ⟨g1, g2, g3, g4⟩ := wds c1
        obtain ⟨host, hho⟩ := nestOk_in c3
        have hb1 : 1 ≤ b := (wf_in hW.2.2 hkb (by have := kO_lt jc c4; omega)).1
        rw [mapb ad b as hb1] at hpc ⊢
        rw [stb ad b as r hb1]
        exact vx_runIN ⟨hx, hb, hml, hown, hts⟩ hM ⟨va_cnB (maxL := mL jc) (bytes := bC jc) (nA jc) hts (GG_in (inW (L := []) g1 (fun _ h => nomatch h))) (by rw [hdW_code c6, c5]) rfl rfl (hT.1 _ hho) (hts _ g2) g3 ⟨hRf, bound g4⟩, c4, hts _ (wAt_in c2)⟩ ⟨PcO.blind D K ad H.size _ w, hpc⟩ rfl (by simpa using hlen') hl.1 rfl (room (lsx := lsx) (H := H) (ad := ad) hcat) hd (by rw [hRc, hRs]; exact ⟨hc1, hc2⟩)
      · simp at hq
  | invokevirtual i =>
    obtain ⟨jc, r1, rfl, h2⟩ := aC_s h
    simp only [okRow, dOk, Bool.and_eq_true, decide_eq_true_eq] at hrow
    obtain ⟨⟨hd, rfl⟩, hq⟩ := hrow
    obtain ⟨ba, r, hlen, rfl, h4⟩ := pA_s h2
    obtain ⟨b, as, rfl, ⟨hcat, hc1, hc2⟩, hkb, P, hCP, hk⟩ := pB_s h4
    refine go jc (.ref b :: as) r _ P hk (fun ad H locs lsx hW hS hl => ?_)
    have hM := hC jc _ w P hCP D K ad H.size
    have hA1 := vaA_in (D := D) hW.2.1 hS hA
    have hpc := PcO.of (p := p) (as := .ref b :: as) hK hT hZ hA1 hW hS
    have hlen' : as.length = nA jc := by simpa using hlen
    split at hq
    · rename_i p1 p2 p3 p4 p5 heq
      simp only [List.cons.injEq] at heq
      obtain ⟨rfl, rfl⟩ := heq
      simp only [Bool.and_eq_true, decide_eq_true_eq] at hq
      obtain ⟨c1, c2, c3, c4, c5, c6, c7⟩ := hq
      obtain ⟨g1, g2, g3, g4⟩ := wds c1
      have hb1 : 1 ≤ b := (wf_in hW.2.2 hkb (by omega)).1
      rw [mapb ad b as hb1] at hpc ⊢
      rw [stb ad b as r hb1]
      have hrecv := va_recv hK hW.1 (clsF (kO jc) c6).1 (ws_obj hW.2.2 hkb c6)
      rw [show ((RXc (kO jc), TXc (kO jc), nF (kO jc)) : vw_C).1 = (yN jc).cls from c7] at hrecv
      exact vx_runV ⟨hx, hb, hml, hown, hts⟩ hM (cwV (maxL := mL jc) (bytes := bC jc) (ret := rT jc) (nA jc) hts (GG_in (inW (L := [.methodLink (ownO j) i (yN jc), .instanceMethod (yN jc), .selects (yN jc).cls (yN jc) (yN jc), .initialized (yN jc).cls]) g1 (fun w hw => by
          simp only [List.mem_cons, List.not_mem_nil, or_false] at hw
          rcases hw with rfl | rfl | rfl | rfl
          · exact wAt_in c2
          · exact wAt_in c3
          · exact wAt_in c4
          · exact g2))) (by rw [hdW_code c5]) rfl rfl ⟨rfl, g3⟩ ⟨hRf, bound g4⟩) ⟨PcO.blind D K ad H.size _ w, hrecv, hpc⟩ rfl (by simpa using hlen') hl.1 rfl (room (lsx := lsx) (H := H) (ad := ad) hcat) hd (by rw [hRc, hRs]; exact ⟨hc1, hc2⟩)
    · simp at hq
  | invokestatic i =>
    obtain ⟨t, r0, rfl, h1⟩ := aC_s h
    simp only [okRow, dOk, Bool.and_eq_true, decide_eq_true_eq] at hrow
    obtain ⟨⟨hd, rfl⟩, hq⟩ := hrow
    rcases nI1_s h1 with ⟨rfl, h2⟩ | ⟨ht1, h2⟩
    · obtain ⟨y, r1, rfl, h3⟩ := pI_s h2
      obtain ⟨x, r, rfl, ⟨hcat, hnc, hns⟩, h9⟩ := pI_s h3
      split at hq
      · rename_i heq
        simp at heq
      · rename_i heq
        simp at heq
      · simp only [Bool.and_eq_true] at hq
        obtain ⟨q1, q2, q3, q4⟩ := hq
        intro ad H locs lsx hW hS hag hn0 hsx hl
        obtain ⟨hP, hD, hwf⟩ := hW
        exact va_mmin hx hb (by rw [hml]; exact hl.1.symm) hown (hts _ (wAt_in q1)) (hts _ (wAt_in q2)) (hts _ (wAt_in q3)) (hts _ (wAt_in q4)) (by omega) (by rw [catS_map]; omega) (by rw [hRc]; exact hnc) (by rw [hRs]; exact hns) hd (h9 ad H locs lsx ⟨hP, hD, hwf⟩ hS hag hn0 hsx hl)
      · rename_i heq
        simp at heq
      · rename_i heq
        simp at heq
      · simp at hq
    · rcases nI1_s h2 with ⟨rfl, h3⟩ | ⟨ht2, h3⟩
      · obtain ⟨y, r1, rfl, h4⟩ := pI_s h3
        obtain ⟨x, r, rfl, ⟨hcat, hnc, hns⟩, h9⟩ := pI_s h4
        split at hq
        · rename_i heq
          simp at heq
        · rename_i heq
          simp at heq
        · rename_i heq
          simp at heq
        · simp only [Bool.and_eq_true] at hq
          obtain ⟨q1, q2, q3, q4⟩ := hq
          intro ad H locs lsx hW hS hag hn0 hsx hl
          obtain ⟨hP, hD, hwf⟩ := hW
          exact va_mmax hx hb (by rw [hml]; exact hl.1.symm) hown (hts _ (wAt_in q1)) (hts _ (wAt_in q2)) (hts _ (wAt_in q3)) (hts _ (wAt_in q4)) (by omega) (by rw [catS_map]; omega) (by rw [hRc]; exact hnc) (by rw [hRs]; exact hns) hd (h9 ad H locs lsx ⟨hP, hD, hwf⟩ hS hag hn0 hsx hl)
        · rename_i heq
          simp at heq
        · simp at hq
      · rcases nI1_s h3 with ⟨rfl, h4⟩ | ⟨ht3, h4⟩
        · obtain ⟨n, r4, rfl, h5⟩ := pI_s h4
          obtain ⟨dp, r3, rfl, h6⟩ := pI_s h5
          obtain ⟨a, r2, rfl, h7⟩ := pR_s h6
          obtain ⟨sp, r1, rfl, h8⟩ := pI_s h7
          obtain ⟨a0, r, rfl, ⟨hcat, k0, k1, n1, n2, n3, b1, b2⟩, h9⟩ := pR_s h8
          split at hq
          · rename_i heq
            simp at heq
          · rename_i heq
            simp at heq
          · rename_i heq
            simp at heq
          · rename_i heq
            simp at heq
          · simp only [Bool.and_eq_true] at hq
            obtain ⟨q1, q2, q3, q4⟩ := hq
            intro ad H locs lsx hW hS hag hn0 hsx hl
            obtain ⟨hP, hD, hwf⟩ := hW
            show W p l e R s m args below meth c H locs nc ns Qm (F0 m pc lsx (.int n :: .int dp :: cv ad (.ref a) :: .int sp :: cv ad (.ref a0) :: r.map (cv ad)))
            rw [cv_pos ad (wf_in hwf k0 (by omega)).1, cv_pos ad (wf_in hwf k1 (by omega)).1]
            refine va_copyi hx hb (by rw [hml]; exact hl.1.symm) hown (hts _ (wAt_in q1)) (hts _ (wAt_in q2)) (hts _ (wAt_in q3)) (hts _ (wAt_in q4)) hK hP hD hS (a0 - 1) (a - 1) 0 0 (ws_8 hwf k0) (ws_8 hwf k1) (tysK_8 K) (tysK_8 K) rfl n1 n2 n3 b1 b2 (fun _ _ => rfl) (by omega) (by rw [catS_map]; show catS r + (7 + 11) ≤ _; omega) hd (fun H1 locs1 hP1 hD1 hS1 => ?_)
            rw [ws_setI hwf _ k1] at hP1 hD1
            exact h9 ad H1 locs1 lsx ⟨hP1, hD1, hwf⟩ hS1 hag hn0 hsx hl
          · simp at hq
        · obtain ⟨jc, r1, rfl, h5⟩ := aC_s h4
          obtain ⟨as, r, hlen, rfl, ⟨hcat, hc1, hc2⟩, P, hCP, hk⟩ := pA_s h5
          refine go jc as r _ P hk (fun ad H locs lsx hW hS hl => ?_)
          have hM := hC jc _ w P hCP D K ad H.size
          have hA1 := vaA_in (D := D) hW.2.1 hS hA
          have hpc := PcO.of (p := p) (as := as) hK hT hZ hA1 hW hS
          have hst : (as.reverse ++ r).map (cv ad) = (as.map (cv ad)).reverse ++ r.map (cv ad) := by simp
          rw [hst]
          have inS : ∀ {L : List Cond}, (∀ w ∈ L, w ∈ GG) → ∀ w ∈ ([.methodLink (ownO j) i (yN jc), .static (yN jc), .initialized (yN jc).cls] : List Cond), Cond.methodLink (ownO j) i (yN jc) ∈ GG → Cond.static (yN jc) ∈ GG → Cond.initialized (yN jc).cls ∈ GG → w ∈ GG := by
            intro L _ w hw e1 e2 e3
            simp only [List.mem_cons, List.not_mem_nil, or_false] at hw
            rcases hw with rfl | rfl | rfl
            · exact e1
            · exact e2
            · exact e3
          split at hq
          · rename_i p1 p2 p3 p4 heq
            simp only [List.cons.injEq] at heq
            obtain ⟨rfl, rfl, rfl⟩ := heq
            simp only [Bool.and_eq_true] at hq
            obtain ⟨c1, c2, c3⟩ := hq
            obtain ⟨g1, g2, g3, g4⟩ := wds c1
            have hG : GoodIn GG (va_wsS (ownO j) i (yN jc) (hdW jc :: GG)) := GG_in (inW (L := [.methodLink (ownO j) i (yN jc), .static (yN jc), .initialized (yN jc).cls]) g1 (fun w hw => inS (L := []) (fun _ h => nomatch h) w hw (wAt_in c2) (wAt_in c3) g2))
            cases hh : hhT jc with
            | nil => exact vx_runS ⟨hx, hb, hml, hown, hts⟩ hM (va_cwS (maxL := mL jc) (bytes := bC jc) (ret := rT jc) (nA jc) hts hG (by rw [hdW_code hh]) rfl rfl g3 ⟨hRf, bound g4⟩) ⟨PcO.blind D K ad H.size _ w, hpc⟩ rfl (by simpa using hlen) hl.1 rfl (room (lsx := lsx) (H := H) (ad := ad) hcat) hd (by rw [hRc, hRs]; exact ⟨hc1, hc2⟩)
            | cons q0 q1 => exact vx_runSX (hh := q0 :: q1) ⟨hx, hb, hml, hown, hts⟩ hM (vx_cwSW (maxL := mL jc) (bytes := bC jc) (ret := rT jc) (nA jc) hts hG (by rw [hdW_with hh]) rfl rfl g3 ⟨hRf, bound g4⟩) ⟨PcO.blind D K ad H.size _ w, hpc⟩ rfl (by simpa using hlen) hl.1 rfl (room (lsx := lsx) (H := H) (ad := ad) hcat) hd (by rw [hRc, hRs]; exact ⟨hc1, hc2⟩)
          · rename_i q9 p2 p3 p4 heq
            simp only [List.cons.injEq] at heq
            obtain ⟨rfl, rfl, rfl⟩ := heq
            simp only [Bool.and_eq_true, decide_eq_true_eq] at hq
            obtain ⟨c1, c2, c3, c4⟩ := hq
            obtain ⟨g1, g2, g3, g4⟩ := wds c1
            obtain ⟨host, hho⟩ := nestOk_in c2
            exact vx_runSN ⟨hx, hb, hml, hown, hts⟩ hM ⟨va_cnB (maxL := mL jc) (bytes := bC jc) (ret := rT jc) (nA jc) hts (GG_in (inW (L := []) g1 (fun _ h => nomatch h))) (by rw [hdW_code c4]) rfl rfl (hT.1 _ hho) (hts _ g2) g3 ⟨hRf, bound g4⟩, hts _ (wAt_in c3), trivial⟩ ⟨PcO.blind D K ad H.size _ w, hpc⟩ rfl (by simpa using hlen) hl.1 rfl (room (lsx := lsx) (H := H) (ad := ad) hcat) hd (by rw [hRc, hRs]; exact ⟨hc1, hc2⟩)
          · rename_i heq
            simp only [List.cons.injEq] at heq
            exact absurd heq.1 ht1
          · rename_i heq
            simp only [List.cons.injEq] at heq
            exact absurd heq.1 ht2
          · rename_i heq
            simp only [List.cons.injEq] at heq
            exact absurd heq.1 ht3
          · simp at hq
  | _ => exact absurd hs (by simp [isC])
end
section
/-! A STEP FOR MORE IS A STEP FOR LESS: written by wip/whole/mono.py -/
theorem pI_m {st : List Value} {F G : Int32 → List Value → Prop} (k : ∀ x r, F x r → G x r) (h : pI st F) : pI st G := by
  obtain ⟨x, r, rfl, h⟩ := pI_s h
  exact k _ _ h
theorem pL_m {st : List Value} {F G : Int64 → List Value → Prop} (k : ∀ x r, F x r → G x r) (h : pL st F) : pL st G := by
  obtain ⟨x, r, rfl, h⟩ := pL_s h
  exact k _ _ h
theorem pR_m {st : List Value} {F G : Nat → List Value → Prop} (k : ∀ x r, F x r → G x r) (h : pR st F) : pR st G := by
  obtain ⟨x, r, rfl, h⟩ := pR_s h
  exact k _ _ h
theorem p1_m {st : List Value} {F G : Value → List Value → Prop} (k : ∀ x r, F x r → G x r) (h : p1 st F) : p1 st G := by
  unfold p1 at h ⊢
  split at h
  · exact k _ _ h
  · exact k _ _ h
  · exact h.elim
theorem gI_m {ls : List (Nat × Value)} {aux : List Nat} {F G : Nat → Int32 → Prop} (k : ∀ i x, F i x → G i x) (h : gI ls aux F) : gI ls aux G := by
  obtain ⟨i, x, rfl, hl, h⟩ := gI_s h
  show (match lkp ls i with
    | some (.int x) => G i x
    | _ => False)
  rw [hl]
  exact k _ _ h
theorem gL_m {ls : List (Nat × Value)} {aux : List Nat} {F G : Nat → Int64 → Prop} (k : ∀ i x, F i x → G i x) (h : gL ls aux F) : gL ls aux G := by
  obtain ⟨i, x, rfl, hl, h⟩ := gL_s h
  show (match lkp ls i with
    | some (.long x) => G i x
    | _ => False)
  rw [hl]
  exact k _ _ h
theorem gR_m {ls : List (Nat × Value)} {aux : List Nat} {F G : Nat → Nat → Prop} (k : ∀ i x, F i x → G i x) (h : gR ls aux F) : gR ls aux G := by
  obtain ⟨i, x, rfl, hl, h⟩ := gR_s h
  show (match lkp ls i with
    | some (.ref x) => G i x
    | _ => False)
  rw [hl]
  exact k _ _ h
theorem a1_m {aux : List Nat} {F G : Nat → Prop} (k : ∀ i, F i → G i) (h : a1 aux F) : a1 aux G := by
  obtain ⟨i, rfl, h⟩ := a1_s h
  exact k _ h
theorem aC_m {aux : List Nat} {F G : Nat → List Nat → Prop} (k : ∀ i r, F i r → G i r) (h : aC aux F) : aC aux G := by
  obtain ⟨i, r, rfl, h⟩ := aC_s h
  exact k _ _ h
theorem aF_m {aux : List Nat} {F G : Nat → Nat → Nat → Prop} (k : ∀ a b t, F a b t → G a b t) (h : aF aux F) : aF aux G := by
  obtain ⟨a, b, t, r, rfl, h⟩ := aF_s h
  exact k _ _ _ h
theorem nI1_m {n k : Nat} {a b a' b' : Prop} (ha : a → a') (hb : b → b') (h : nI1 n k a b) : nI1 n k a' b' := by
  unfold nI1 at h ⊢
  revert h
  cases Nat.beq n k with
  | true => exact ha
  | false => exact hb
theorem pA_m {n : Nat} {st : List Value} {F G : List Value → List Value → Prop} (k : ∀ as r, F as r → G as r) (h : pA n st F) : pA n st G := by
  unfold pA at h ⊢
  revert h
  cases popN n st [] with
  | none => exact fun h => h
  | some q => exact fun h => k _ _ h
theorem pB_m {as : List Value} {F G : Nat → List Value → Prop} (k : ∀ b r, F b r → G b r) (h : pB as F) : pB as G := by
  obtain ⟨b, r, rfl, h⟩ := pB_s h
  exact k _ _ h
theorem brE_m {o : ClassFile.Cond} {x y : Int32} {T F T' F' : Prop} (ht : T → T') (hf : F → F') (h : brE o x y T F) : brE o x y T' F' := by
  cases o <;> exact ⟨fun q => ht (h.1 q), fun q => hf (h.2 q)⟩
theorem swC_m {x : Int32} {f g : Nat → Prop} (k : ∀ t, f t → g t) : ∀ (ks : List Nat) (d : Nat), swC x ks d f → swC x ks d g
  | [], _, h => k _ h
  | [_], _, h => k _ h
  | _ :: _ :: r, d, h => ⟨fun q => k _ (h.1 q), fun q => swC_m k r d (h.2 q)⟩
theorem aftC_m {hn : Nat → String → Option Nat} {nx pc : Nat} {ls : List (Nat × Value)} {r : List Value} {w : Wd} {nc ns : Nat} {X Y : Fr → Prop} (hY : ∀ g, Y g → X g) {rs : Res} {w' : Wd} (h : aftC hn nx pc ls r w nc ns Y rs w') : aftC hn nx pc ls r w nc ns X rs w' := by
  obtain ⟨h1, h2⟩ := h
  refine ⟨h1, ?_⟩
  rcases rs with (_ | v) | E
  · exact hY _ h2
  · exact hY _ h2
  · revert h2
    dsimp only
    cases hn pc E with
    | none => exact fun h => h
    | some h9 => exact fun h => ⟨h.1, hY _ h.2⟩
set_option maxHeartbeats 4000000 in
theorem stepI_m {C : Cal} {mj : Nat → Nat × Nat} {kj nj : Nat → Nat} {SX : Option (Nat × (Nat → Int32))} {mxc mxs : Nat} {hn : Nat → String → Option Nat} {Rt : Option Value → Wd → Nat → Nat → Prop} {Th : String → Wd → Nat → Nat → Prop} {ins : Instr} {nx : Nat} {aux : List Nat} {kc : Int32} {kl : Int64} {pc : Nat} {ls : List (Nat × Value)} {st : List Value} {w : Wd} {nc ns : Nat} {X Y : Fr → Prop}
    (hY : ∀ g, Y g → X g) (h : stepI C mj kj nj SX mxc mxs hn Rt Th ins nx aux kc kl pc ls st w nc ns Y) : stepI C mj kj nj SX mxc mxs hn Rt Th ins nx aux kc kl pc ls st w nc ns X := by
  cases ins with
  | iconst _ => exact hY _ h
  | bipush _ => exact hY _ h
  | sipush _ => exact hY _ h
  | ldc _ => exact hY _ h
  | ldc_w _ => exact hY _ h
  | lconst _ => exact hY _ h
  | ldc2_w _ => exact hY _ h
  | iload_n _ => exact gI_m (fun _ _ => hY _) h
  | iload _ => exact gI_m (fun _ _ => hY _) h
  | lload_n _ => exact gL_m (fun _ _ => hY _) h
  | lload _ => exact gL_m (fun _ _ => hY _) h
  | aload_n _ => exact gR_m (fun _ _ => hY _) h
  | aload _ => exact gR_m (fun _ _ => hY _) h
  | istore_n _ => exact a1_m (fun _ => pI_m (fun _ _ => hY _)) h
  | istore _ => exact a1_m (fun _ => pI_m (fun _ _ => hY _)) h
  | lstore_n _ => exact a1_m (fun _ => pL_m (fun _ _ => hY _)) h
  | lstore _ => exact a1_m (fun _ => pL_m (fun _ _ => hY _)) h
  | astore_n _ => exact a1_m (fun _ => pR_m (fun _ _ => hY _)) h
  | astore _ => exact a1_m (fun _ => pR_m (fun _ _ => hY _)) h
  | iinc _ _ => exact gI_m (fun _ _ => hY _) h
  | iadd => exact pI_m (fun _ _ => pI_m (fun _ _ => hY _)) h
  | isub => exact pI_m (fun _ _ => pI_m (fun _ _ => hY _)) h
  | imul => exact pI_m (fun _ _ => pI_m (fun _ _ => hY _)) h
  | iand => exact pI_m (fun _ _ => pI_m (fun _ _ => hY _)) h
  | idiv => exact pI_m (fun _ _ => pI_m (fun _ _ q => ⟨q.1, hY _ q.2⟩)) h
  | irem => exact pI_m (fun _ _ => pI_m (fun _ _ q => ⟨q.1, hY _ q.2⟩)) h
  | ladd => exact pL_m (fun _ _ => pL_m (fun _ _ => hY _)) h
  | lsub => exact pL_m (fun _ _ => pL_m (fun _ _ => hY _)) h
  | lmul => exact pL_m (fun _ _ => pL_m (fun _ _ => hY _)) h
  | land => exact pL_m (fun _ _ => pL_m (fun _ _ => hY _)) h
  | lor => exact pL_m (fun _ _ => pL_m (fun _ _ => hY _)) h
  | lcmp => exact pL_m (fun _ _ => pL_m (fun _ _ => hY _)) h
  | ldiv => exact pL_m (fun _ _ => pL_m (fun _ _ q => ⟨q.1, hY _ q.2⟩)) h
  | lrem => exact pL_m (fun _ _ => pL_m (fun _ _ q => ⟨q.1, hY _ q.2⟩)) h
  | lushr => exact pI_m (fun _ _ => pL_m (fun _ _ => hY _)) h
  | lshl => exact pI_m (fun _ _ => pL_m (fun _ _ => hY _)) h
  | i2l => exact pI_m (fun _ _ => hY _) h
  | l2i => exact pL_m (fun _ _ => hY _) h
  | dup => exact p1_m (F := fun v r => Y (nx, ls, v :: v :: r, w, nc, ns)) (fun _ _ => hY _) h
  | pop => exact p1_m (F := fun _ r => Y (nx, ls, r, w, nc, ns)) (fun _ _ => hY _) h
  | dup2 => exact p1_m (F := fun v r1 => p1 r1 (fun u r => Y (nx, ls, v :: u :: v :: u :: r, w, nc, ns))) (fun _ _ => p1_m (fun _ _ => hY _)) h
  | ifCond _ _ => exact a1_m (fun _ => pI_m (fun _ _ => brE_m (hY _) (hY _))) h
  | if_icmp _ _ => exact a1_m (fun _ => pI_m (fun _ _ => pI_m (fun _ _ => brE_m (hY _) (hY _)))) h
  | goto _ => exact a1_m (fun _ => hY _) h
  | ifnull _ => exact a1_m (fun _ => pR_m (fun _ _ q => ⟨fun z => hY _ (q.1 z), fun z => hY _ (q.2 z)⟩)) h
  | tableswitch _ _ _ _ => exact aC_m (fun _ _ => pI_m (fun _ _ => swC_m (fun _ => hY _) _ _)) h
  | lookupswitch _ _ => exact aC_m (fun _ _ => pI_m (fun _ _ => swC_m (fun _ => hY _) _ _)) h
  | getfield _ => exact aF_m (fun _ _ _ => pR_m (fun _ _ q => ⟨q.1, nI1_m (hY _) (hY _) q.2⟩)) h
  | putfield _ => exact aF_m (fun _ _ _ => nI1_m (pR_m (fun _ _ => pR_m (fun _ _ q => ⟨q.1, q.2.1, hY _ q.2.2⟩))) (pI_m (fun _ _ => pR_m (fun _ _ q => ⟨q.1, q.2.1, hY _ q.2.2⟩)))) h
  | iaload =>
    refine pI_m (fun i _ => pR_m (fun a r => ?_)) h
    cases SX with
    | none => exact fun q => ⟨q.1, q.2.1, hY _ q.2.2⟩
    | some q9 => exact fun q => nI1_m (fun q => ⟨q.1, hY _ q.2⟩) (fun q => ⟨q.1, q.2.1, hY _ q.2.2⟩) q
  | arraylength =>
    refine pR_m (fun a r => ?_) h
    cases SX with
    | none => exact fun q => ⟨q.1, hY _ q.2⟩
    | some q9 => exact fun q => nI1_m (hY _) (fun q => ⟨q.1, hY _ q.2⟩) q
  | iastore => exact pI_m (fun _ _ => pI_m (fun _ _ => pR_m (fun _ _ q => ⟨q.1, q.2.1, hY _ q.2.2⟩))) h
  | bastore => exact pI_m (fun _ _ => pI_m (fun _ _ => pR_m (fun _ _ q => ⟨q.1, q.2.1, hY _ q.2.2⟩))) h
  | lastore => exact pL_m (fun _ _ => pI_m (fun _ _ => pR_m (fun _ _ q => ⟨q.1, q.2.1, hY _ q.2.2⟩))) h
  | baload => exact pI_m (fun _ _ => pR_m (fun _ _ q => ⟨q.1, q.2.1, hY _ q.2.2⟩)) h
  | laload => exact pI_m (fun _ _ => pR_m (fun _ _ q => ⟨q.1, q.2.1, hY _ q.2.2⟩)) h
  | aaload => exact pI_m (fun _ _ => pR_m (fun _ _ q => ⟨q.1, q.2.1, hY _ q.2.2⟩)) h
  | aastore => exact pR_m (fun _ _ => pI_m (fun _ _ => pR_m (fun _ _ q => ⟨q.1, q.2.1, q.2.2.1, hY _ q.2.2.2⟩))) h
  | newarray _ => exact aC_m (fun _ _ => pI_m (fun _ _ q => ⟨q.1, hY _ q.2⟩)) h
  | anewarray _ => exact pI_m (fun _ _ q => ⟨q.1, hY _ q.2⟩) h
  | new _ => exact aC_m (fun _ _ => aC_m (fun _ _ => nI1_m (fun q => ⟨q.1, hY _ q.2⟩) (fun q => q))) h
  | invokespecial _ => exact aC_m (fun _ _ => nI1_m (pR_m (fun _ _ q => ⟨q.1, q.2.1, hY _ q.2.2⟩)) (aC_m (fun _ _ => pA_m (fun _ _ => pB_m (fun _ _ q => ⟨q.1, q.2.1, by obtain ⟨P, hP, hk⟩ := q.2.2; exact ⟨P, hP, fun rs w9 z => aftC_m hY (hk rs w9 z)⟩⟩))))) h
  | invokevirtual _ => exact aC_m (fun _ _ => pA_m (fun _ _ => pB_m (fun _ _ q => ⟨q.1, q.2.1, by obtain ⟨P, hP, hk⟩ := q.2.2; exact ⟨P, hP, fun rs w9 z => aftC_m hY (hk rs w9 z)⟩⟩))) h
  | invokestatic _ => exact aC_m (fun _ _ => nI1_m (pI_m (fun _ _ => pI_m (fun _ _ q => ⟨q.1, hY _ q.2⟩))) (nI1_m (pI_m (fun _ _ => pI_m (fun _ _ q => ⟨q.1, hY _ q.2⟩))) (nI1_m (pI_m (fun _ _ => pI_m (fun _ _ => pR_m (fun _ _ => pI_m (fun _ _ => pR_m (fun _ _ q => ⟨q.1, hY _ q.2⟩)))))) (aC_m (fun _ _ => pA_m (fun _ _ q => ⟨q.1, by obtain ⟨P, hP, hk⟩ := q.2; exact ⟨P, hP, fun rs w9 z => aftC_m hY (hk rs w9 z)⟩⟩)))))) h
  | ireturn => exact h
  | lreturn => exact h
  | return_ => exact h
  | _ => exact h
end
section
/-! SOUNDNESS: a method's end -/
def exNames : List String := ["java/lang/RuntimeException", "java/lang/Exception"]
theorem atS_ok {e ic : Nat} (h : (e = 0 ∧ ic = 46) ∨ (e = 1 ∧ ic = 57) ∨ (e = 2 ∧ ic = 136)) : ∀ w ∈ vx_atS "OdometerRing" ic (excN e) exNames, (w ∈ GG ∨ w ∈ decW ∨ w = .castable (excN e) (excN e)) ∧ vx_ot w = true := by
  have key : ∀ {L : List Cond} {x : Cond}, (L.all (fun w => ((decide (w ∈ lw_tbl) && goodWord w) || (decide (w ∈ decW) || decide (w = x))) && vx_ot w)) = true → ∀ w ∈ L, (w ∈ GG ∨ w ∈ decW ∨ w = x) ∧ vx_ot w = true := by
    intro L x h w hw
    have := List.all_eq_true.mp h w hw
    simp only [Bool.and_eq_true, Bool.or_eq_true, decide_eq_true_eq] at this
    obtain ⟨h1, h2⟩ := this
    refine ⟨?_, h2⟩
    rcases h1 with h1 | h1 | h1
    · exact Or.inl (List.mem_filter.mpr h1)
    · exact Or.inr (Or.inl h1)
    · exact Or.inr (Or.inr h1)
  rcases h with ⟨rfl, rfl⟩ | ⟨rfl, rfl⟩ | ⟨rfl, rfl⟩
  · exact key (by decide +kernel)
  · exact key (by decide +kernel)
  · exact key (by decide +kernel)
/-- the addresses behind a method: its own cells where they lie, else as they were -/
theorem BW_of {D : va_G} {K : Nat → ClassId} {A : Nat → Prop} {ad ad0 : Nat → Nat} {w w0 : Wd} {H : Heap} (hW : WPd D K A ad w H) (hag : ∀ i, i ≤ w0.1.1 → ad i = ad0 i) (hn0 : w0.1.1 ≤ w.1.1) {t : State} (hk : ∀ q : Nat, q < H.size → t.heap[q]? = H[q]?) : BW D K A ad0 w0 (w, fun i => if i ≤ w.1.1 then ad i else ad0 i) t := by
  obtain ⟨hP, hD, hwf⟩ := hW
  have hws : wsW K (fun i => if i ≤ w.1.1 then ad i else ad0 i) w = wsW K ad w := wsW_congr K ad _ w hwf (fun i hi => if_pos hi)
  refine ⟨⟨?_, ?_, hwf⟩, fun i hi => ?_, hn0⟩
  · show va_P D vwCl (wsW K _ w) t.heap
    rw [hws]
    exact hP.kept (fun k q hq => hk q.1 ((hP k q hq).lt))
  · show va_D A (wsW K _ w)
    rw [hws]
    exact hD
  · show (if i ≤ w.1.1 then ad i else ad0 i) = ad0 i
    by_cases h : i ≤ w.1.1
    · rw [if_pos h]
      have hi : i ≤ w0.1.1 ∨ w.1.1 < i := hi
      exact hag i (by rcases hi with hi | hi <;> omega)
    · rw [if_neg h]
theorem vaF_of {A : Nat → Prop} {s t : State} {H : Heap} {locs : List Loc} (hS : va_S A s.heap H locs) (hz : H.size ≤ t.heap.size) (hk : ∀ q : Nat, q < H.size → t.heap[q]? = H[q]?) : va_F A s t :=
  ⟨Nat.le_trans hS.1 hz, fun q h1 h2 => (hk q (Nat.lt_of_lt_of_le h1 hS.1)).trans (hS.2.1 q h1 h2)⟩
set_option maxHeartbeats 2000000 in
theorem so_throw {p : Program} {l : Launch} {e : Env} {R : Room} {s : State} {m : MethodId} {args : Array Value} {below : List Frame} {meth : Method} {c : Code} {D : va_G} {K : Nat → ClassId} {A : Nat → Prop} {ad0 : Nat → Nat} {n0 nL : Nat} {Sx : (Nat → Nat) → Prop} {Qm : State → Prop} {j : Nat}
  (hx : p.tables.exec = Jvm.exec) (hb : c.code = bC j) (hml : c.maxLocals = nL) (hnL : nL = mL j) (hown : s.vm.findClass (ownO j) = some m.cls) (hts : ∀ w ∈ GG, w.before args s = true)
  (hl0 : l.stackTraces = false) (hT : EnvT s) (hZ : EnvZ A s s.heap) (hlocks : meth.locks = false) (hnoh : ∀ x ∈ c.exceptionTable.toList, False) {i e9 nx : Nat} {r9 : List Nat} {kc : Int32} {kl : Int64} {pc : Nat}
  (hrow : okRow j pc (.new i, nx, 1 :: e9 :: r9, kc, kl) = true) {w w0 : Wd} {Q : Res → Wd → Prop} {mc ms : Nat} {ad : Nat → Nat} {H : Heap} {locs : List Loc} {lsx : Array Slot} {st : List Value} {nc ns : Nat}
  (hW : WPd D K A ad w H) (hS : va_S A s.heap H locs) (hag : ∀ i, i ≤ w0.1.1 → ad i = ad0 i) (hn0 : w0.1.1 ≤ w.1.1) (hsize : lsx.size = c.maxLocals) (hcat : catS st ≤ 8) (hRf : 6 ≤ R.frames) (hRl : 90 ≤ R.locals) (hRc : nc + 1 ≤ R.cells) (hRs : ns + 6 ≤ R.slots) (hc : nc + 1 ≤ mc) (hs : ns + 6 ≤ ms) (hQ : Q (.inr (excN e9)) w) :
  W p l e R s m args below meth c H locs nc ns (vx_MQ below (QcO (rT j) D K A ad0 w0 Q) (XcO D K A ad0 w0 Q) args s mc ms A) (F0 m pc lsx (st.map (cv ad))) := by
  rcases r9 with _ | ⟨wd, _ | ⟨is9, _ | ⟨ic, _ | ⟨sx, _ | ⟨p1, _ | ⟨p2, _ | ⟨p3, r9⟩⟩⟩⟩⟩⟩⟩
  · simp [okRow] at hrow
  · simp [okRow] at hrow
  · simp [okRow] at hrow
  · simp [okRow] at hrow
  · simp [okRow] at hrow
  · simp [okRow] at hrow
  · simp only [okRow, Bool.and_eq_true, decide_eq_true_eq] at hrow
    obtain ⟨d0, d3, hw1, hw2, hown9, hstr, hic, hdd⟩ := hrow
    have hat := atS_ok hic
    rw [← hown9] at hat
    have hatB : ∀ w ∈ vx_atS (ownO j) ic (excN e9) exNames, w.before args s = true := by
      intro w hw
      rcases (hat w hw).1 with h1 | h1 | h1
      · exact hts w h1
      · have h2 := hT.2.2.2.2.2 w h1
        simp only [decW, List.mem_cons, List.not_mem_nil, or_false] at h1
        rcases h1 with rfl | rfl | rfl <;> exact va_Nw.use rfl h2
      · rw [h1]
        exact va_Nw.use rfl (hT.2.2.2.1 e9 (by omega))
    have hgood : ∀ w ∈ Cond.classLink (ownO j) i (excN e9) :: Cond.initialized (excN e9) :: vx_atS (ownO j) ic (excN e9) exNames, vx_ot w = true := by
      intro w hw
      rcases List.mem_cons.mp hw with rfl | hw
      · rfl
      · rcases List.mem_cons.mp hw with rfl | hw
        · rfl
        · exact (hat w hw).2
    have hfit : Bundle.fit (excN e9) = true := by
      rcases hic with ⟨rfl, -⟩ | ⟨rfl, -⟩ | ⟨rfl, -⟩ <;> decide +kernel
    have hfitN : ∀ n ∈ exNames, Bundle.fit n = true := by decide +kernel
    obtain ⟨q, hq1, hq2⟩ : ∃ q : String × Nat × String, strT[sx]? = some q ∧ (q.1, q.2.1) = (ownO j, is9) := by
      cases hqq : strT[sx]? with
      | none => rw [hqq] at hstr; cases hstr
      | some q => rw [hqq] at hstr; exact ⟨q, rfl, Option.some.inj hstr⟩
    obtain ⟨sa, hsa⟩ := hT.2.1 q (List.mem_of_getElem? hq1)
    have e1 : q.1 = ownO j := congrArg Prod.fst hq2
    have e2 : q.2.1 = is9 := congrArg Prod.snd hq2
    rw [e1, e2] at hsa
    have hx9 : ∀ t : State, s.vm.Alike t.vm → H.size ≤ t.heap.size → (∀ q : Nat, q < H.size → t.heap[q]? = H[q]?) → XcO D K A ad0 w0 Q (excN e9) s t := fun t hal hz hk => ⟨(w, fun i => if i ≤ w.1.1 then ad i else ad0 i), trivial, ⟨hQ, BW_of hW hag hn0 hk⟩, vaF_of hS hz hk⟩
    have hlen : exNames.length + 3 < R.frames := hRf
    have hlo : ((st.map (cv ad)).map fun v => v.category).sum + (13 * (exNames.length + 1) + 43) ≤ R.locals := by
      rw [catS_map]
      show catS st + (13 * 3 + 43) ≤ _
      omega
    cases wd with
    | zero =>
      simp only [Bool.and_eq_true, decide_eq_true_eq] at hdd
      exact vx_throwS hx hb hl0 hown hfit hfitN (hts _ (wAt_in hw1)) (hts _ (wAt_in hw2)) hsa hatB hgood hZ.1 hZ.2 hS hsize d0 d3 hdd.1 hdd.2.1 hdd.2.2 (fun x hx => (hnoh x hx).elim) hlen hlo hRc hRs hlocks hx9 (fun z hz => hS.2.2 z hz) hc hs
    | succ wd =>
      simp only [Bool.and_eq_true, decide_eq_true_eq] at hdd
      exact vx_throwSW hx hb hl0 hown hfit hfitN (hts _ (wAt_in hw1)) (hts _ (wAt_in hw2)) hsa hatB hgood hZ.1 hZ.2 hS hsize d0 d3 hdd.1 hdd.2.1 hdd.2.2 (fun x hx => (hnoh x hx).elim) hlen hlo hRc hRs hlocks hx9 (fun z hz => hS.2.2 z hz) hc hs
  · simp [okRow] at hrow
/-- a method's return -/
theorem RtJ_c {j : Nat} {Q : Res → Wd → Prop} {v : Option Value} {w : Wd} {nc ns : Nat} (h : RtJ j Q v w nc ns) : (nc ≤ (mjT j).1 ∧ ns ≤ (mjT j).2) ∧ ((rT j = none ∧ v = none ∧ Q (.inl none) w) ∨ (rT j = some .int ∧ ∃ x, v = some (.int x) ∧ Q (.inl (some (.int x))) w) ∨ (rT j = some .boolean ∧ ∃ x, v = some (.int x) ∧ (x = 0 ∨ x = 1) ∧ Q (.inl (some (.int x))) w) ∨ (rT j = some .long ∧ ∃ x, v = some (.long x) ∧ Q (.inl (some (.long x))) w)) := by
  obtain ⟨h1, h2⟩ := h
  refine ⟨h1, ?_⟩
  split at h2
  · rename_i x e1
    exact Or.inr (Or.inl ⟨e1, x, rfl, h2⟩)
  · rename_i x e1
    exact Or.inr (Or.inr (Or.inl ⟨e1, x, rfl, h2⟩))
  · rename_i x e1
    exact Or.inr (Or.inr (Or.inr ⟨e1, x, rfl, h2⟩))
  · rename_i e1
    exact Or.inl ⟨e1, rfl, h2⟩
  · exact h2.elim
theorem so_ret {p : Program} {l : Launch} {e : Env} {R : Room} {s : State} {m : MethodId} {args : Array Value} {below : List Frame} {meth : Method} {c : Code} {D : va_G} {K : Nat → ClassId} {A : Nat → Prop} {ad0 : Nat → Nat} {n0 nL : Nat} {Sx : (Nat → Nat) → Prop} {Qm : State → Prop} {j : Nat}
  (hx : p.tables.exec = Jvm.exec) (hb : c.code = bC j) (hml : c.maxLocals = nL) (hnL : nL = mL j) (hown : s.vm.findClass (ownO j) = some m.cls) (hts : ∀ w ∈ GG, w.before args s = true)
  (hr : meth.sig.returnType = rT j) (hlocks : meth.locks = false) {pc : Nat} {w w0 : Wd} {Q : Res → Wd → Prop} {ad : Nat → Nat} {H : Heap} {locs : List Loc} {lsx : Array Slot} {nc ns : Nat} {v : Option Value}
  (hW : WPd D K A ad w H) (hS : va_S A s.heap H locs) (hag : ∀ i, i ≤ w0.1.1 → ad i = ad0 i) (hn0 : w0.1.1 ≤ w.1.1) (h : RtJ j Q v w nc ns)
  (hd : decode (bC j) pc = .ok (match v with | some (.int _) => .ireturn | some (.long _) => .lreturn | _ => .return_, 1)) :
  W p l e R s m args below meth c H locs nc ns (vx_MQ below (QcO (rT j) D K A ad0 w0 Q) (XcO D K A ad0 w0 Q) args s (mjT j).1 (mjT j).2 A) (F0 m pc lsx v.toList) := by
  obtain ⟨⟨h1, h2⟩, h3⟩ := RtJ_c h
  have hB : ∀ t : State, t.heap = H → BW D K A ad0 w0 (w, fun i => if i ≤ w.1.1 then ad i else ad0 i) t := fun t ht => BW_of hW hag hn0 (fun q _ => by rw [ht])
  have hF : ∀ t : State, t.heap = H → va_F A s t := fun t ht => hS.F ht
  refine W.widen h1 h2 (vx_ret ?_)
  have hloc : ∀ q ∈ locs, A q.base := fun q hq => hS.2.2 q hq
  rcases h3 with ⟨e1, rfl, h3⟩ | ⟨e1, x, rfl, h3⟩ | ⟨e1, x, rfl, h01, h3⟩ | ⟨e1, x, rfl, h3⟩
  · rw [e1] at hr ⊢
    exact W.vret hx hb hr (fun t ht _ => ⟨⟨_, rfl, h3, hB t ht⟩, hF t ht⟩) hloc hd hlocks
  · rw [e1] at hr ⊢
    exact W.iret hx hb hr (fun t ht _ => ⟨⟨x, _, rfl, h3, hB t ht⟩, hF t ht⟩) hloc hd hlocks
  · rw [e1] at hr ⊢
    exact W.zret hx hb hr (by rcases h01 with rfl | rfl <;> rfl) (fun t ht _ => ⟨⟨x, _, rfl, h3, hB t ht⟩, hF t ht⟩) hloc hd hlocks
  · rw [e1] at hr ⊢
    exact W.lret hx hb hr (fun t ht _ => ⟨⟨x, _, rfl, h3, hB t ht⟩, hF t ht⟩) hloc hd hlocks
end
section
/-! SOUNDNESS: the methods -/
def okX (j : Nat) : Bool := match lkp hxT j, hhT j with
  | none, [] => true
  | some (lo, hi, [(n1, h1)]), [(a, b, h, ct)] => decide (a = lo) && (decide (b = hi) && (decide (h = h1) && (decide (ct ≠ 0) && (decide (Cond.classLink (ownO j) ct n1 ∈ lw_tbl) && (goodWord (Cond.classLink (ownO j) ct n1) && decide (n1 = excN 0 ∨ n1 = excN 1 ∨ n1 = excN 2))))))
  | some (lo, hi, [(n1, h1), (n2, h2)]), [(a, b, h, ct), (a', b', h', ct')] => decide (a = lo) && (decide (b = hi) && (decide (h = h1) && (decide (ct ≠ 0) && (decide (Cond.classLink (ownO j) ct n1 ∈ lw_tbl) && (goodWord (Cond.classLink (ownO j) ct n1) && (decide (n1 = excN 0 ∨ n1 = excN 1 ∨ n1 = excN 2) &&
      (decide (a' = lo) && (decide (b' = hi) && (decide (h' = h2) && (decide (ct' ≠ 0) && (decide (Cond.classLink (ownO j) ct' n2 ∈ lw_tbl) && (goodWord (Cond.classLink (ownO j) ct' n2) && decide (n2 = excN 0 ∨ n2 = excN 1 ∨ n2 = excN 2)))))))))))))
  | _, _ => false
theorem okX_all : (List.range 196).all (fun j => okX j && plainName (yN j).cls) = true := by decide +kernel
theorem excN_ix {n : String} (h : n = excN 0 ∨ n = excN 1 ∨ n = excN 2) : ∃ k, k < 3 ∧ n = excN k := by
  rcases h with h | h | h
  · exact ⟨0, by omega, h⟩
  · exact ⟨1, by omega, h⟩
  · exact ⟨2, by omega, h⟩
theorem lgsl_len : ∀ vs : List Value, (lg_sl vs).length = catS vs
  | [] => rfl
  | v :: t => by
    have ih := lgsl_len t
    unfold lg_sl at ih ⊢
    rw [List.flatMap_cons, List.length_append, ih]
    show _ = v.category + catS t
    rcases lv_cat v with h | h <;> simp [h]
theorem lv_args_cvl (ad : Nat → Nat) : ∀ (as : List Value) (i : Nat), lv_args i (as.map (cv ad)) = cvl ad (lv_args i as)
  | [], _ => rfl
  | v :: t, i => by
    show (i, cv ad v) :: lv_args (if (cv ad v).category = 2 then i + 2 else i + 1) (t.map (cv ad)) = (i, cv ad v) :: cvl ad (lv_args (if v.category = 2 then i + 2 else i + 1) t)
    rw [cv_cat, lv_args_cvl ad t]
theorem catS_cv (ad : Nat → Nat) : ∀ l : List Value, catS (l.map (cv ad)) = catS l
  | [] => rfl
  | v :: t => by
    show (cv ad v).category + catS (t.map (cv ad)) = _
    rw [cv_cat, catS_cv ad t]
    rfl
/-- what a method's own table of handlers takes -/
theorem so_catch {p : Program} {l : Launch} {e : Env} {R : Room} {s : State} {m : MethodId} {args : Array Value} {below : List Frame} {meth : Method} {c : Code} {Qm : State → Prop} {j pc : Nat}
    (hown : s.vm.findClass (ownO j) = some m.cls) (hts : ∀ w ∈ GG, w.before args s = true) (hT : EnvT s) (hok : okX j = true) (htab : hhT j = [] ∨ c.exceptionTable.toList.map (fun h => (h.startPc, h.endPc, h.handlerPc, h.catchType)) = hhT j) :
    ∀ (E : String) (h9 : Nat) (ce : Cell) (q9 : Addr) (H1 : Heap) (locs1 : List Loc) (lsx : Array Slot) (rest : List Value) (c9 s9 : Nat), hnT j pc E = some h9 → H1[q9]? = some ce → ce.vm = .none → s.vm.findClass E = some ce.cls → W p l e R s m args below meth c H1 locs1 c9 s9 Qm (F0 m h9 lsx [.ref q9]) → vx_W p l e R s m args below meth c H1 locs1 c9 s9 Qm (F0 m pc lsx rest) q9 := by
  intro E h9 ce q9 H1 locs1 lsx rest c9 s9 hn hce hcv hcl hW
  have gin : ∀ {w : Jvm.Cond}, w ∈ lw_tbl → goodWord w = true → w.before args s = true := fun h1 h2 => hts _ (List.mem_filter.mpr ⟨h1, h2⟩)
  unfold okX at hok
  split at hok
  · rename_i e1 e2
    unfold hnT at hn
    rw [e1] at hn
    cases hn
  · rename_i lo hi n1 h1 a b h ct e1 e2
    simp only [Bool.and_eq_true, decide_eq_true_eq] at hok
    obtain ⟨rfl, rfl, rfl, hct, hw1, hg1, hn1⟩ := hok
    unfold hnT at hn
    rw [e1] at hn
    dsimp only at hn
    cases hpc : (Nat.ble a pc && Nat.blt pc b) with
    | false => rw [hpc] at hn; cases hn
    | true =>
      rw [hpc] at hn
      simp only [Bool.and_eq_true] at hpc
      rcases htab with htab | htab
      · rw [htab] at e2; cases e2
      rw [e2] at htab
      obtain ⟨x, hx1, hx2⟩ := List.map_eq_singleton_iff.mp htab
      simp only [Prod.mk.injEq] at hx2
      obtain ⟨x1, x2, x3, x4⟩ := hx2
      have hcov : covers x pc = true := by
        simp only [covers, Bool.and_eq_true, decide_eq_true_eq]
        exact ⟨by rw [x1]; exact Nat.le_of_ble_eq_true hpc.1, by rw [x2]; exact Nat.le_of_ble_eq_true hpc.2⟩
      by_cases hE : n1 = E
      · subst hE
        simp at hn
        subst hn
        obtain ⟨k, hk, hnk⟩ := excN_ix hn1
        refine vx_catch (name := n1) hown [] x [] (by rw [hx1]; rfl) (fun z hz => nomatch hz) hcov (by rw [x4]; exact hct) (by rw [x4]; exact gin hw1 hg1) (by rw [hnk]; exact va_Nw.use rfl (hT.2.2.2.1 k hk)) hce hcv hcl (by rw [x3]; exact hW)
      · simp [hE] at hn
  · rename_i lo hi n1 h1 n2 h2 a b h ct a' b' h' ct' e1 e2
    simp only [Bool.and_eq_true, decide_eq_true_eq] at hok
    obtain ⟨rfl, rfl, rfl, hct, hw1, hg1, hn1, ha', hb', rfl, hct', hw2, hg2, hn2⟩ := hok
    unfold hnT at hn
    rw [e1] at hn
    dsimp only at hn
    cases hpc : (Nat.ble a pc && Nat.blt pc b) with
    | false => rw [hpc] at hn; cases hn
    | true =>
      rw [hpc] at hn
      simp only [Bool.and_eq_true] at hpc
      rcases htab with htab | htab
      · rw [htab] at e2; cases e2
      rw [e2] at htab
      obtain ⟨x, y, hx1, hx2, hy2⟩ : ∃ x y, c.exceptionTable.toList = [x, y] ∧ (x.startPc, x.endPc, x.handlerPc, x.catchType) = (a, b, h, ct) ∧ (y.startPc, y.endPc, y.handlerPc, y.catchType) = (a', b', h', ct') := by
        cases hl : c.exceptionTable.toList with
        | nil => rw [hl] at htab; cases htab
        | cons x t => cases t with
          | nil => rw [hl] at htab; simp at htab
          | cons y t => cases t with
            | nil => rw [hl] at htab; simp only [List.map_cons, List.map_nil, List.cons.injEq, and_true] at htab; exact ⟨x, y, rfl, htab.1, htab.2⟩
            | cons z t => rw [hl] at htab; simp at htab
      simp only [Prod.mk.injEq] at hx2 hy2
      obtain ⟨x1, x2, x3, x4⟩ := hx2
      obtain ⟨y1, y2, y3, y4⟩ := hy2
      have hcov : covers x pc = true := by
        simp only [covers, Bool.and_eq_true, decide_eq_true_eq]
        exact ⟨by rw [x1]; exact Nat.le_of_ble_eq_true hpc.1, by rw [x2]; exact Nat.le_of_ble_eq_true hpc.2⟩
      have hcov2 : covers y pc = true := by
        simp only [covers, Bool.and_eq_true, decide_eq_true_eq]
        exact ⟨by rw [y1, ha']; exact Nat.le_of_ble_eq_true hpc.1, by rw [y2, hb']; exact Nat.le_of_ble_eq_true hpc.2⟩
      by_cases hE : n1 = E
      · subst hE
        simp at hn
        subst hn
        obtain ⟨k, hk, hnk⟩ := excN_ix hn1
        refine vx_catch (name := n1) hown [] x [y] (by rw [hx1]; rfl) (fun z hz => nomatch hz) hcov (by rw [x4]; exact hct) (by rw [x4]; exact gin hw1 hg1) (by rw [hnk]; exact va_Nw.use rfl (hT.2.2.2.1 k hk)) hce hcv hcl (by rw [x3]; exact hW)
      · by_cases hE2 : n2 = E
        · subst hE2
          simp [hE] at hn
          subst hn
          obtain ⟨k, hk, hnk⟩ := excN_ix hn1
          obtain ⟨k2, hk2, hnk2⟩ := excN_ix hn2
          have hne : k2 ≠ k := fun q => hE (by rw [hnk, hnk2, q])
          refine vx_catch (name := n2) hown [x] y [] (by rw [hx1]; rfl) (fun z hz => ?_) hcov2 (by rw [y4]; exact hct') (by rw [y4]; exact gin hw2 hg2) (by rw [hnk2]; exact va_Nw.use rfl (hT.2.2.2.1 k2 hk2)) hce hcv hcl (by rw [y3]; exact hW)
          rw [List.mem_singleton.mp hz]
          exact Or.inr ⟨by rw [x4]; exact hct, n1, by rw [x4]; exact gin hw1 hg1, by rw [hnk, hnk2]; exact hT.2.2.2.2.1 k2 k hk2 hk hne⟩
        · simp [hE, hE2] at hn
  · cases hok
theorem nzA_has {ad : Nat → Nat} {lsx : Array Slot} {nL : Nat} {nt : List (Nat × List Nat)} {pc : Nat} {ls : List (Nat × Value)} (h : lv_has lsx nL (cvl ad ls)) : lv_has lsx nL (cvl ad (nzA nt pc ls)) := by
  unfold nzA
  cases lkp nt pc with
  | none => exact h
  | some ks =>
    refine ⟨h.1, h.2.1, fun q hq => ?_⟩
    unfold cvl at hq
    obtain ⟨q0, hq0, rfl⟩ := List.mem_map.mp hq
    unfold nz at hq0
    obtain ⟨k, -, hk⟩ := List.mem_filterMap.mp hq0
    cases hl : lkp ls k with
    | none => rw [hl] at hk; cases hk
    | some v =>
      rw [hl] at hk
      cases hk
      exact lv_lkp h hl
theorem MW_nz {p : Program} {l : Launch} {e : Env} {R : Room} {s : State} {m : MethodId} {args : Array Value} {below : List Frame} {meth : Method} {c : Code} {D : va_G} {K : Nat → ClassId} {A : Nat → Prop} {ad0 : Nat → Nat} {n0 nL : Nat} {Sx : (Nat → Nat) → Prop} {Qm : State → Prop} {nt : List (Nat × List Nat)} {pc : Nat} {ls : List (Nat × Value)} {st : List Value} {w : Wd} {nc ns : Nat}
    (h : MW p l e R s m args below meth c D K A ad0 n0 nL Sx Qm (pc, nzA nt pc ls, st, w, nc, ns)) : MW p l e R s m args below meth c D K A ad0 n0 nL Sx Qm (pc, ls, st, w, nc, ns) :=
  fun ad H locs lsx hW hS hag hn0 hsx hl => h ad H locs lsx hW hS hag hn0 hsx (nzA_has hl)
set_option maxHeartbeats 4000000 in
theorem sound (l : Launch) (hl0 : l.stackTraces = false) (okAll : ∀ j, j < 196 → okM j = true) : ∀ (d j : Nat) (as : List Value) (w : Wd) (Q : Res → Wd → Prop), Wp d j as w Q → Ctr l d j as w Q := by
  intro d
  induction d with
  | zero => intro j as w Q h; exact h.elim
  | succ d ih =>
    intro j as w Q h
    obtain ⟨hcat, hE⟩ := h
    by_cases hj : j < 196
    case neg =>
      exfalso
      obtain ⟨k, rfl⟩ : ∃ k, j = k + 196 := ⟨j - 196, by omega⟩
      exact hE (fun _ => False) (fun g Y hg _ => hg)
    intro D K ad sz
    have hlen : catS as ≤ mL j := Nat.le_of_ble_eq_true hcat
    have hall := List.all_eq_true.mp okX_all j (List.mem_range.mpr hj)
    simp only [Bool.and_eq_true] at hall
    obtain ⟨hokx, pl⟩ := hall
    have body : ∀ p e s m args below meth c s₁, BodyLoose p l (yN j) (headSpec (hdW j :: GG) (rmO (d + 1) j)) (bC j) (mL j) (rT j) e s m args below meth c s₁ → c.maxLocals = mL j → PcO D K ad sz as w args s → (hhT j = [] → ∀ x ∈ c.exceptionTable.toList, False) → (hhT j = [] ∨ c.exceptionTable.toList.map (fun h => (h.startPc, h.endPc, h.handlerPc, h.catchType)) = hhT j) →
        W p l e (headSpec (hdW j :: GG) (rmO (d + 1) j)).room s m args below meth c s.heap [] 0 0 (vx_MQ below (QcO (rT j) D K (va_A (wsW K ad w) sz) ad w Q) (XcO D K (va_A (wsW K ad w) sz) ad w Q) args s (mjT j).1 (mjT j).2 (va_A (wsW K ad w) sz)) (entryFrame m args (mL j)) := by
      intro p e s m args below meth c s₁ B hml hpc hnoh htab
      obtain ⟨rfl, hsz, hP, hD0, hwf, hK, hT, hZ⟩ := hpc
      subst hsz
      have hx := B.exec
      have hb := B.bytes
      have hr := B.returns
      have hlocks := B.notSynchronized
      have hin : meth.name = (yN j).name := (name_of_methodNamed B.named B.method).1
      have hown : s.vm.findClass (ownO j) = some m.cls := findClass_of_methodNamed B.named
      have hts0 := atoms_spec (ws := hdW j :: GG) B.pre
      have hts : ∀ w ∈ GG, w.before (as.map (cv ad)).toArray s = true := fun w h => hts0 w (List.mem_cons_of_mem _ h)
      have hD := hD0.self (sz := s.heap.size)
      have hA : ∀ q : Nat, s.heap.size ≤ q → va_A (wsW K ad w) s.heap.size q := fun q h => Or.inr h
      have key : MW p l e (rmO (d + 1) j) s m (as.map (cv ad)).toArray below meth c D K (va_A (wsW K ad w) s.heap.size) ad w.1.1 (mL j) (fun _ => True) (vx_MQ below (QcO (rT j) D K (va_A (wsW K ad w) s.heap.size) ad w Q) (XcO D K (va_A (wsW K ad w) s.heap.size) ad w Q) (as.map (cv ad)).toArray s (mjT j).1 (mjT j).2 (va_A (wsW K ad w) s.heap.size)) (0, lv_args 0 as, [], w, 0, 0) := by
        refine hE _ (fun g Y hg hY => ?_)
        obtain ⟨pc, ls, st, w1, nc, ns⟩ := g
        have hg : (match lkp (cdT j) pc with
          | some (ins, nx, aux, kc, kl) => stepI (Wp d) mjT kO nA none (mjT j).1 (mjT j).2 (hnT j) (RtJ j Q) (ThJ (d + 1) j Q) ins nx aux kc kl pc (nzA (nzT j) pc ls) st w1 nc ns Y
          | none => False) := hg
        cases hrow : lkp (cdT j) pc with
        | none => rw [hrow] at hg; exact hg.elim
        | some row =>
          obtain ⟨ins, nx, aux, kc, kl⟩ := row
          rw [hrow] at hg
          have hok := okM_at (okAll j hj) hrow
          have h := stepI_m hY hg
          refine MW_nz (nt := nzT j) ?_
          generalize nzA (nzT j) pc ls = ls at h ⊢
          by_cases hs1 : isS ins = true
          · exact so_simple hx hb hml rfl hown hts hs1 hok h
          by_cases hs2 : isW ins aux = true
          · exact so_world hx hb hml rfl hown hts (fun q => hin.trans q) hK hT.2.2.1 hA (fun _ _ _ _ => trivial) rfl rfl (fun L xs q => by cases q) hs2 hok h
          by_cases hs3 : isC ins = true
          · exact so_call (d1 := d) hx hb hml rfl hown hts hK hT hZ hA (fun _ _ _ _ => trivial) rfl rfl (Nat.le_refl _) (by show 31 + 34 * d ≤ 34 * (d + 1); omega) (fun jc as w P q => ih jc as w P q) (so_catch hown hts hT hokx htab) hs3 hok h
          cases ins with
          | ireturn =>
            obtain ⟨x, r, rfl, h1⟩ := pI_s h
            obtain ⟨rfl, h2⟩ := pN_s h1
            simp only [okRow, dOk, Bool.and_eq_true, decide_eq_true_eq] at hok
            intro ad1 H locs lsx hW hS hag hn0 _ hl
            exact so_ret (n0 := 0) (Sx := fun _ => True) (Qm := fun _ => True) (v := some (.int x)) hx hb hml rfl hown hts hr hlocks hW hS hag hn0 h2 hok.1
          | lreturn =>
            obtain ⟨x, r, rfl, h1⟩ := pL_s h
            obtain ⟨rfl, h2⟩ := pN_s h1
            simp only [okRow, dOk, Bool.and_eq_true, decide_eq_true_eq] at hok
            intro ad1 H locs lsx hW hS hag hn0 _ hl
            exact so_ret (n0 := 0) (Sx := fun _ => True) (Qm := fun _ => True) (v := some (.long x)) hx hb hml rfl hown hts hr hlocks hW hS hag hn0 h2 hok.1
          | return_ =>
            obtain ⟨rfl, h2⟩ := pN_s h
            simp only [okRow, dOk, Bool.and_eq_true, decide_eq_true_eq] at hok
            intro ad1 H locs lsx hW hS hag hn0 _ hl
            exact so_ret (n0 := 0) (Sx := fun _ => True) (Qm := fun _ => True) (v := none) hx hb hml rfl hown hts hr hlocks hW hS hag hn0 h2 hok.1
          | new i =>
            obtain ⟨t, r0, rfl, h1⟩ := aC_s h
            obtain ⟨ci, r1, rfl, h2⟩ := aC_s h1
            rcases nI1_s h2 with ⟨rfl, -⟩ | ⟨ht, hcat9, hth⟩
            · exact absurd rfl hs2
            · obtain ⟨⟨t1, t2, t3, t4⟩, hQ⟩ := hth
              rcases t with _ | _ | t
              · exact absurd rfl ht
              · intro ad1 H locs lsx hW hS hag hn0 _ hl
                exact so_throw (n0 := 0) (Sx := fun _ => True) (Qm := fun _ => True) hx hb hml rfl hown hts hl0 hT hZ hlocks (hnoh t4) hok hW hS hag hn0 (hl.1.trans hml.symm) hcat9 t1 (by show 90 ≤ 34 * (d + 1); omega) t2 t3 t2 t3 hQ
              · simp [okRow] at hok
          | _ => first | exact absurd rfl hs1 | exact absurd rfl hs2 | exact absurd rfl hs3 | exact h.elim
      have hl := lv_entry (as.map (cv ad)) (n := mL j) (by rw [lgsl_len, catS_cv]; exact hlen)
      rw [lv_args_cvl] at hl
      rw [lg_entry_eq]
      exact key ad s.heap [] _ ⟨hP, hD, hwf⟩ va_S.rf (fun _ _ => rfl) (Nat.le_refl _) trivial hl
    cases hh : hhT j with
    | nil =>
      refine vx_ofW (cc := bC j) (maxL := mL j) (ret := rT j) pl (by rw [hdW_code hh]) (fun p e s m args below meth c s₁ B hml hno hpc => ?_)
      exact body p e s m args below meth c s₁ B hml hpc (fun _ => hno) (Or.inl hh)
    | cons q0 q1 =>
      refine vx_ofWH (hh := q0 :: q1) (cc := bC j) (maxL := mL j) (ret := rT j) pl (by rw [hdW_with hh]) (fun p e s m args below meth c s₁ B hml hpc => ?_)
      refine body p e s m args below meth c s₁ B hml hpc (fun q => by rw [hh] at q; cases q) (Or.inr ?_)
      have hw := atoms_spec (ws := hdW j :: GG) B.pre _ List.mem_cons_self
      rw [hdW_with hh] at hw
      obtain ⟨m9, meth9, c9, hn9, h1, h2, -, -, h5, -, -, -⟩ := Cond.codeWith_spec hw
      cases Option.some.inj (hn9.symm.trans B.named)
      cases Option.some.inj (h1.symm.trans B.method)
      cases Option.some.inj (h2.symm.trans (Stand.of_body B).code)
      rw [hh]
      exact h5
end
section
theorem okAll (j : Nat) (h : j < 196) : okM j = true := sorry
end
section
-- ===== end of PART A; then your names; then what follows =====
/-! THE CLAIM OUT OF ONE WALK OF THE LAW'S BODY. Your part is whole_start (and what it stands on); all else here is the same for every law, but numbers. -/
def R_law : String := "OdometerRingLaw"
def lw_P (b : Addr) (xs : List Int32) (args : Array Value) (s : State) : Prop := args = #[.ref b] ∧ s.IntsAt b xs ∧ xs.length ≤ 2048 ∧ (Jvm.Cond.and given_1 narrow_1).before args s = true
def lw_Q (_ : Array Value) (s : State) (o : Outcome) (t : State) : Prop := o = .returned (some (.int 1)) ∧ Framed s o t [] 601024 7293034
def lw_Z (below : List Frame) (a : Array Value) (s : State) : State → Prop := fun t => ∃ o, t.status = .running ∧ Ended t below o ∧ lw_Q a s o t
/-- the law's own end, with 1 on the stack, nothing written that was there before, its room as the claim has it -/
theorem lw_ret {p : Program} {l : Launch} {e : Env} {s : State} {m : MethodId} {below : List Frame} {meth : Method} {c : Code} {b : Nat} (hx : p.tables.exec = Jvm.exec) (hb : c.code = code) (hr : meth.sig.returnType = ret) (hlocks : meth.locks = false) {pc : Nat} {H : Heap} {ls : Array Slot} (hdg : decode code pc = .ok (.ireturn, 1)) : W p l e room_1 s m #[Value.ref b] below meth c H [] 601024 7293034 (lw_Z below #[Value.ref b] s) (F0 m pc ls [.int 1]) := by
  intro T hT X
  obtain ⟨fs, hret, hrun, hended, hW, hframe⟩ := X.leave (v := some (.int 1)) (hlocks := hlocks) (fun h => by rw [hr] at h; cases h)
  have hmeth' : T.vm.method? m = some meth := X.method'
  refine ⟨T.setFrames fs, ?_, .returned (some (.int 1)), hrun, hended, rfl, ⟨_, rfl⟩, hW, hframe⟩
  jvm_step X.here [X.here.top, hx, hb, hdg, hmeth', hr, ret, narrow_b1]
  (try refine ⟨rfl, ?_⟩); (try refine ⟨rfl, ?_⟩)
  first | (intro acts; rw [hret _ acts rfl rfl rfl]) | rw [hret _ _ rfl rfl rfl]
  exact Steps.refl _
/-- what holds at the law's entry: the machine, the code, the tables' words (any of lw_tbl by 'hts w (by decide +kernel)'), the script of L ints xs at the cell b, what the Statement gives of the start (any of its parts by flat_of_before) -/
def lw_At (p : Program) (s : State) (m : MethodId) (meth : Method) (c : Code) (b L : Nat) (xs : Nat → Int32) : Prop :=
  p.tables.exec = Jvm.exec ∧ c.code = code ∧ meth.sig.returnType = ret ∧ c.maxLocals = 7 ∧ s.vm.findClass R_law = some m.cls ∧ (∀ w ∈ lw_tbl, w.before #[Value.ref b] s = true) ∧ va_X b L xs s s.heap ∧ b < s.heap.size ∧ meth.locks = false ∧ (Jvm.Cond.and given_1 narrow_1).before #[Value.ref b] s = true
end
section
/-! THE LAW, OUT OF ITS RUN ON THE ABSTRACT MACHINE -/
def w00 : Wd := ((0, fun _ => 99, fun _ => 0, fun _ _ => 0), fun _ _ => 0, fun _ _ => 0)
def SL (xs : Nat → Int32) (L : Nat) : SF := stepF (nzT 195) cd195 (Wp 10) mjT kO nA (some (L, xs)) 601024 7293034 (fun _ _ => none) (fun v _ nc ns => (nc ≤ 601024 ∧ ns ≤ 7293034) ∧ v = some (.int 1)) (fun _ _ _ _ => False)
/-- the law's run on the abstract machine ends with true -/
def LawOk (xs : Nat → Int32) (L : Nat) : Prop := EE (SL xs L) (0, [(0, .ref 1000001)], [], w00, 0, 0)
theorem nest_tbl : ∀ w ∈ nestW, w ∈ lw_tbl := by decide +kernel
theorem dec_tbl : ∀ w ∈ decW, w ∈ lw_tbl := by decide +kernel
theorem str_tbl : ∀ q ∈ strT, (Cond.stringRef q.1 q.2.1 q.2.2) ∈ lw_tbl := by decide +kernel
theorem str_nar : ∀ q ∈ strT, (Cond.exactly (.string q.1 q.2.1) "java/lang/String") ∈ flatC (Jvm.Cond.and given_1 narrow_1) := by decide +kernel
theorem cast_tbl : ∀ k, k < 3 → (Cond.castable (excN k) (excN k)) ∈ lw_tbl := by decide +kernel
theorem ncast_nar : ∀ k, k < 3 → ∀ k', k' < 3 → k ≠ k' → (Cond.not (Cond.castable (excN k) (excN k'))) ∈ flatC (Jvm.Cond.and given_1 narrow_1) := by decide +kernel
theorem K_at {s : State} {args : Array Value} (t : FieldType) (h : (Cond.arrayClass t).before args s = true) (ht : ∀ C, t ≠ .object C) : ∃ cA : ClassId, ArrOfT s cA t ∧ va_RA s cA t := by
  obtain ⟨cA, kA, comp, h1, h2, h3⟩ := Cond.arrayClass_spec h
  refine ⟨cA, fun n z => ⟨fun k h => (by cases h), kA, h2, comp, h3⟩, ?_⟩
  cases t with
  | object C => exact absurd rfl (ht C)
  | _ => exact h1
set_option maxHeartbeats 4000000 in
theorem law_start {p : Program} {e : Env} {s : State} {m : MethodId} {below : List Frame} {meth : Method} {c : Code} (l : Launch) (hflags : l.flags = flags0) {b L : Nat} {xs : Nat → Int32} (C0 : lw_At p s m meth c b L xs) (hE : LawOk xs L) : W p l e room_1 s m #[Value.ref b] below meth c s.heap [] 0 0 (lw_Z below #[Value.ref b] s) (entryFrame m ([Value.ref b] : List Value).toArray 7) := by
  obtain ⟨hx, hb, hr, hml, hown, hts0, hX, hbl, hlocks, hgv⟩ := id C0
  have hl0 : l.stackTraces = false := by
    unfold Launch.stackTraces
    rw [hflags]
    decide +kernel
  have hfl := flat_of_before _ hgv
  have hts : ∀ w ∈ GG, w.before #[Value.ref b] s = true := fun w h => hts0 w (List.mem_filter.mp h).1
  have hA : ∀ q : Nat, s.heap.size ≤ q → (fun q : Nat => s.heap.size ≤ q) q := fun _ h => h
  -- classes
  have kn : ∀ ci, ci < 8 → ∃ (cC : ClassId) (iS : Nat → Nat), u_Kn s (RXc ci) (TXc ci) (nF ci) cC iS := by
    intro ci hci
    have hF := clsF ci hci
    exact u_known hts hF.2.1 (hts0 (.instantiable (RXc ci) (nF ci)) (by
      match ci, hci with
      | 0, _ => decide +kernel
      | 1, _ => decide +kernel
      | 2, _ => decide +kernel
      | 3, _ => decide +kernel
      | 4, _ => decide +kernel
      | 5, _ => decide +kernel
      | 6, _ => decide +kernel
      | 7, _ => decide +kernel))
  obtain ⟨D, hD0⟩ : ∃ D : va_G, ∀ (k : Nat) (q : vw_C), vwCl[k]? = some q → u_Kn s q.1 q.2.1 q.2.2 (D.1 k) (D.2 k) := by
    have kn' : ∀ ci, ∃ (cI : ClassId × (Nat → Nat)), ci < 8 → u_Kn s (RXc ci) (TXc ci) (nF ci) cI.1 cI.2 := by
      intro ci
      by_cases h : ci < 8
      · obtain ⟨a1, a2, a3⟩ := kn ci h
        exact ⟨(a1, a2), fun _ => a3⟩
      · exact ⟨(0, fun _ => 0), fun q => absurd q h⟩
    refine ⟨(fun k => (Classical.choose (kn' k)).1, fun k => (Classical.choose (kn' k)).2), fun k q hq => ?_⟩
    have hk : k < 8 := (List.getElem?_eq_some_iff.mp hq).1
    have := Classical.choose_spec (kn' k) hk
    rw [(clsF k hk).1] at hq
    cases hq
    exact this
  obtain ⟨k8, hk8⟩ := K_at (s := s) .int (hts0 (.arrayClass .int) (by decide +kernel)) (fun C h => by cases h)
  obtain ⟨k9, hk9⟩ := K_at (s := s) .boolean (hts0 (.arrayClass .boolean) (by decide +kernel)) (fun C h => by cases h)
  obtain ⟨k10, hk10⟩ := K_at (s := s) .long (hts0 (.arrayClass .long) (by decide +kernel)) (fun C h => by cases h)
  have hAO : va_AO "OdometerRing$Odometer" s := va_AO.of (hts0 (.arrayOver (.object "OdometerRing$Odometer")) (by decide +kernel))
  obtain ⟨comp, k11, kc, f1, f2, f3, f4, f5⟩ := Cond.arrayOver_spec (va_AO.use (A := #[]) hAO)
  have hk11 : ArrOfT s k11 (.object "OdometerRing$Odometer") ∧ va_RA s k11 (.object "OdometerRing$Odometer") := ⟨fun N z => ⟨(fun k h => by cases h), kc, f3, comp, f4⟩, kc, comp, f3, f4, f1, f5⟩
  obtain ⟨K, e8, e9, e10, e11⟩ : ∃ K : Nat → ClassId, K 8 = k8 ∧ K 9 = k9 ∧ K 10 = k10 ∧ K 11 = k11 := ⟨fun k => if k = 8 then k8 else if k = 9 then k9 else if k = 10 then k10 else k11, rfl, rfl, rfl, rfl⟩
  have hK : va_K D vwCl (tysK K) s := by
    refine ⟨hD0, fun k q hq => ?_⟩
    unfold tysK at hq
    match k, hq with
    | 0, hq => cases hq; rw [e8]; exact hk8
    | 1, hq => cases hq; rw [e9]; exact hk9
    | 2, hq => cases hq; rw [e10]; exact hk10
    | 3, hq => cases hq; rw [e11]; exact hk11
    | k + 4, hq => simp at hq
  have hT : EnvT s := by
    refine ⟨fun w hw => ?_, fun q hq => ?_, hAO, fun k hk => va_Nw.of rfl (hts0 _ (cast_tbl k hk)), fun k k' hk hk' hne => va_Nc.of (hfl _ (ncast_nar k hk k' hk' hne)), fun w hw => ?_⟩
    · have h9 := hts0 _ (nest_tbl w hw)
      simp only [nestW, List.mem_cons, List.not_mem_nil, or_false] at hw
      rcases hw with rfl | rfl | rfl | rfl | rfl | rfl | rfl | rfl <;> exact va_Nw.of rfl h9
    · obtain ⟨a, c1, cell, k, h1, -⟩ := Cond.exactly_spec (hfl _ (str_nar q hq))
      exact ⟨a, vk_R.of (A := #[Value.ref b]) (hts0 _ (str_tbl q hq)) h1⟩
    · have h9 := hts0 _ (dec_tbl w hw)
      simp only [decW, List.mem_cons, List.not_mem_nil, or_false] at hw
      rcases hw with rfl | rfl | rfl <;> exact va_Nw.of rfl h9
  have hZ : EnvZ (fun q : Nat => s.heap.size ≤ q) s s.heap :=
    ⟨vx_Zqof (hts0 _ (by decide +kernel)) (hts0 _ (by decide +kernel)) (hfl _ (by decide +kernel)) (fun a h => Nat.not_le.mpr h), vx_Zqof (hts0 _ (by decide +kernel)) (hts0 _ (by decide +kernel)) (hfl _ (by decide +kernel)) (fun a h => Nat.not_le.mpr h)⟩
  obtain ⟨ad, had⟩ : ∃ ad : Nat → Nat, ad 1000001 = b := ⟨fun _ => b, rfl⟩
  have key : MW p l e room_1 s m #[Value.ref b] below meth c D K (fun q : Nat => s.heap.size ≤ q) ad 0 7 (fun ad => ad 1000001 = b) (lw_Z below #[Value.ref b] s) (0, [(0, .ref 1000001)], [], w00, 0, 0) := by
    refine hE _ (fun g Y hg hY => ?_)
    obtain ⟨pc, ls, st, w1, nc, ns⟩ := g
    have hg : (match lkp cd195 pc with
      | some (ins, nx, aux, kc, kl) => stepI (Wp 10) mjT kO nA (some (L, xs)) 601024 7293034 (fun _ _ => none) (fun v _ nc ns => (nc ≤ 601024 ∧ ns ≤ 7293034) ∧ v = some (.int 1)) (fun _ _ _ _ => False) ins nx aux kc kl pc (nzA (nzT 195) pc ls) st w1 nc ns Y
      | none => False) := hg
    cases hrow : lkp cd195 pc with
    | none => rw [hrow] at hg; exact hg.elim
    | some row =>
      obtain ⟨ins, nx, aux, kc, kl⟩ := row
      rw [hrow] at hg
      have hok := okM_at (j := 195) (okAll 195 (by omega)) hrow
      have h := stepI_m hY hg
      refine MW_nz (nt := nzT 195) ?_
      generalize nzA (nzT 195) pc ls = ls at h ⊢
      by_cases hs1 : isS ins = true
      · exact so_simple (j := 195) hx hb hml rfl hown hts hs1 hok h
      by_cases hs2 : isW ins aux = true
      · exact so_world (j := 195) hx hb hml rfl hown hts (fun q => absurd (show ("law" : String) = "<init>" from q) (by decide)) hK hAO hA (fun ad ad' h1 h2 => h2.trans h1) rfl rfl (fun L' xs' q ad' h9 => by
          cases q
          rw [h9]
          exact ⟨hX, hbl, Nat.not_le.mpr hbl⟩) hs2 hok h
      by_cases hs3 : isC ins = true
      · exact so_call (j := 195) (d1 := 10) hx hb hml rfl hown hts hK hT hZ hA (fun ad ad' h1 h2 => h2.trans h1) rfl rfl (Nat.le_refl _) (by decide) (fun jc as w P q => sound l hl0 okAll 10 jc as w P q) (fun E h9 ce q9 H1 locs1 lsx rest c9 s9 hn => by cases hn) hs3 hok h
      cases ins with
      | ireturn =>
        obtain ⟨x, r, rfl, h1⟩ := pI_s h
        obtain ⟨rfl, ⟨b1, b2⟩, h2⟩ := pN_s h1
        cases h2
        simp only [okRow, dOk, Bool.and_eq_true, decide_eq_true_eq] at hok
        intro ad1 H locs lsx hW hS hag hn0 _ hl
        refine va_forget (fun q hq => hS.2.2 q hq) (W.widen b1 b2 ?_)
        exact lw_ret hx hb hr hlocks hok.1
      | lreturn =>
        obtain ⟨x, r, rfl, h1⟩ := pL_s h
        obtain ⟨rfl, -, h2⟩ := pN_s h1
        cases h2
      | return_ =>
        obtain ⟨rfl, -, h2⟩ := pN_s h
        cases h2
      | new i =>
        obtain ⟨t, r0, rfl, h1⟩ := aC_s h
        obtain ⟨ci, r1, rfl, h2⟩ := aC_s h1
        rcases nI1_s h2 with ⟨rfl, -⟩ | ⟨ht, hcat9, hth⟩
        · exact absurd rfl hs2
        · exact hth.elim
      | _ => first | exact absurd rfl hs1 | exact absurd rfl hs2 | exact absurd rfl hs3 | exact h.elim
  have hl := lv_entry ([.ref b]) (n := 7) (Nat.le_of_ble_eq_true rfl)
  rw [lg_entry_eq]
  exact key ad s.heap [] _ ⟨fun k q h => by simp [wsW, w00] at h, ⟨fun i j p q h => by simp [wsW, w00] at h, fun k q h => by simp [wsW, w00] at h⟩, ⟨fun i h => absurd h (by show ¬ 99 < 20; omega), fun _ _ => Nat.le_refl _, by show 0 < 1000000; omega⟩⟩ va_S.rf (fun _ _ => rfl) (Nat.le_refl _) had (by
    have : cvl ad [(0, .ref 1000001)] = [(0, .ref b)] := by
      show [(0, cv ad (.ref 1000001))] = _
      rw [cv_pos ad (by omega), had]
    rw [this]
    exact hl)
end
section
/-! TOOLS OF THE PURE PART -/
theorem stepF_m {nt : List (Nat × List Nat)} {cd : List (Nat × Row)} {C : Cal} {mj : Nat → Nat × Nat} {kj nj : Nat → Nat} {SX : Option (Nat × (Nat → Int32))} {mxc mxs : Nat} {hn : Nat → String → Option Nat} {Rt : Option Value → Wd → Nat → Nat → Prop} {Th : String → Wd → Nat → Nat → Prop} (f : Fr) (X Y : Fr → Prop) (hY : ∀ g, Y g → X g) (h : stepF nt cd C mj kj nj SX mxc mxs hn Rt Th f Y) : stepF nt cd C mj kj nj SX mxc mxs hn Rt Th f X := by
  obtain ⟨pc, ls, st, w, nc, ns⟩ := f
  unfold stepF at h ⊢
  dsimp only at h ⊢
  revert h
  cases lkp cd pc with
  | none => exact fun h => h
  | some r => exact fun h => stepI_m hY h
theorem EE.inv {S : SF} (hm : ∀ (f : Fr) (X Y : Fr → Prop), (∀ g, Y g → X g) → S f Y → S f X) {f : Fr} (h : EE S f) : S f (EE S) :=
  h (fun g => S g (EE S)) (fun g _ hg hY => hm g _ _ (fun g' hg' => EE.step (hY g' hg')) hg)
/-- at a loop's head only the living locals count -/
theorem EE.nz {nt : List (Nat × List Nat)} {cd : List (Nat × Row)} {C : Cal} {mj : Nat → Nat × Nat} {kj nj : Nat → Nat} {SX : Option (Nat × (Nat → Int32))} {mxc mxs : Nat} {hn : Nat → String → Option Nat} {Rt : Option Value → Wd → Nat → Nat → Prop} {Th : String → Wd → Nat → Nat → Prop} {pc : Nat} {ks : List Nat} {ls ls' : List (Nat × Value)} {st : List Value} {w : Wd} {nc ns : Nat}
    (hk : lkp nt pc = some ks) (he : nz ks ls = nz ks ls') (h : EE (stepF nt cd C mj kj nj SX mxc mxs hn Rt Th) (pc, ls', st, w, nc, ns)) : EE (stepF nt cd C mj kj nj SX mxc mxs hn Rt Th) (pc, ls, st, w, nc, ns) := by
  have h1 := EE.inv stepF_m h
  refine EE.step ?_
  have e : nzA nt pc ls = nzA nt pc ls' := by
    unfold nzA
    rw [hk]
    exact he
  unfold stepF at h1 ⊢
  dsimp only at h1 ⊢
  rw [e]
  exact h1
abbrev Rw : Type := Nat → Int32
def bI (c : Prop) [Decidable c] : Int32 := if c then 1 else 0
theorem bI_t {c : Prop} [Decidable c] (h : c) : bI c = 1 := if_pos h
theorem bI_f {c : Prop} [Decidable c] (h : ¬ c) : bI c = 0 := if_neg h
theorem bI_01 (c : Prop) [Decidable c] : bI c = 0 ∨ bI c = 1 := by
  unfold bI
  split
  · exact Or.inr rfl
  · exact Or.inl rfl
theorem bI_e0 {c : Prop} [Decidable c] : bI c = 0 ↔ ¬ c := by
  unfold bI
  split
  · exact ⟨fun h => absurd h (by decide), fun h => absurd ‹c› h⟩
  · exact ⟨fun _ => ‹¬ c›, fun _ => rfl⟩
theorem bI_e1 {c : Prop} [Decidable c] : bI c = 1 ↔ c := by
  unfold bI
  split
  · exact ⟨fun _ => ‹c›, fun _ => rfl⟩
  · exact ⟨fun h => absurd h (by decide), fun h => absurd h ‹¬ c›⟩
theorem vpC {x : Int32} {n : Nat} (h : ¬ x < 0) (h2 : ¬ Int32.ofNat n ≤ x) (hn : n < 2147483648) : vp_in x n := by
  intro h3
  rcases h3 with h3 | h3
  · exact h h3
  · apply h2
    rw [Int32.le_iff_toInt_le]
    have h0 : 0 ≤ x.toInt := by
      rw [Int32.lt_iff_toInt_lt] at h
      simpa using h
    have e : (Int32.ofNat n).toInt = (n : Int) := Int32.toInt_ofNat_of_lt hn
    rw [e]
    have : x.toNatClampNeg = x.toInt.toNat := rfl
    omega
/-- a row of 114 numbers -/
def RowS (S : Sc) (r : Nat) : Prop := S.2.1 r = 8 ∧ S.2.2.1 r = 114
theorem RowS.vp {S : Sc} {r k : Nat} (h : RowS S r) (hk : k < 114) : vp_in (nI k) (S.2.2.1 r) := by
  rw [h.2]
  exact vp_in_nI hk (by omega)
theorem ck {k : Nat} (h : k < 2147483648) : (nI k).toNatClampNeg = k := nI_clamp h
theorem i_at (s i : Nat) : (42 : Int32) + 2 * (3 * nI s + nI i) = nI (42 + 2 * (3 * s + i)) := by
  rw [show (42 : Int32) = nI 42 from rfl, show (2 : Int32) = nI 2 from rfl, show (3 : Int32) = nI 3 from rfl, pk_mul, nI_add, pk_mul, nI_add]
theorem tk_0 : (0 : Int32).toNatClampNeg = 0 := rfl
theorem tk_1 : (1 : Int32).toNatClampNeg = 1 := rfl
theorem tk_2 : (2 : Int32).toNatClampNeg = 2 := rfl
theorem tk_3 : (3 : Int32).toNatClampNeg = 3 := rfl
theorem tk_4 : (4 : Int32).toNatClampNeg = 4 := rfl
theorem tk_5 : (5 : Int32).toNatClampNeg = 5 := rfl
theorem tk_6 : (6 : Int32).toNatClampNeg = 6 := rfl
theorem tk_7 : (7 : Int32).toNatClampNeg = 7 := rfl
theorem tk_8 : (8 : Int32).toNatClampNeg = 8 := rfl
theorem tk_9 : (9 : Int32).toNatClampNeg = 9 := rfl
theorem tk_10 : (10 : Int32).toNatClampNeg = 10 := rfl
theorem tk_11 : (11 : Int32).toNatClampNeg = 11 := rfl
theorem tk_12 : (12 : Int32).toNatClampNeg = 12 := rfl
theorem tk_13 : (13 : Int32).toNatClampNeg = 13 := rfl
theorem tk_14 : (14 : Int32).toNatClampNeg = 14 := rfl
theorem tk_15 : (15 : Int32).toNatClampNeg = 15 := rfl
theorem tk_16 : (16 : Int32).toNatClampNeg = 16 := rfl
theorem tk_17 : (17 : Int32).toNatClampNeg = 17 := rfl
theorem tk_18 : (18 : Int32).toNatClampNeg = 18 := rfl
theorem tk_42 : (42 : Int32).toNatClampNeg = 42 := rfl
theorem tk_43 : (43 : Int32).toNatClampNeg = 43 := rfl
theorem wI_M (w : Wd) (a : Nat) (g : Nat → Int32) : (wI w a g).2.1 = upA w.2.1 a g := rfl
theorem wI_1 (w : Wd) (a : Nat) (g : Nat → Int32) : (wI w a g).1 = w.1 := rfl
theorem upA_uu {α : Type} (f : Nat → α) (a : Nat) (x y : α) : upA (upA f a x) a y = upA f a y := by
  funext i
  by_cases h : i = a
  · subst h
    rw [upA_s, upA_s]
  · rw [upA_n _ _ h, upA_n _ _ h, upA_n _ _ h]
theorem upA_id {α : Type} (f : Nat → α) (a : Nat) : upA f a (f a) = f := by
  funext i
  by_cases h : i = a
  · subst h
    rw [upA_s]
  · rw [upA_n _ _ h]
end
section
/-! THE REFERENCE, rows of numbers: written by wip/whole/pure2.py -/
set_option maxHeartbeats 1000000 in
theorem T_in {d : Nat} {S : Sc} {M : Nat → Nat → Int32} {J : Nat → Nat → Int64} {v a b : Int64} : Wp (d + 1) 100 [.long v, .long a, .long b] (S, M, J) (fun rs w' => rs = .inl (some (.int (bI (¬ v < a ∧ ¬ b < v)))) ∧ w' = (S, M, J)) := by
  refine ⟨rfl, ?_⟩
  refine EE.runN (stop := noStop) 60 _ ?_
  refine ⟨fun h1 => ?_, fun h1 => ?_⟩
  · refine ⟨⟨Nat.zero_le _, Nat.zero_le _⟩, by decide, ?_, rfl⟩
    simp only [lg_cmp_lt, lg_cmp_gt] at h1; simp [bI, h1]
  · refine ⟨fun h2 => ?_, fun h2 => ?_⟩
    · refine ⟨⟨Nat.zero_le _, Nat.zero_le _⟩, by decide, ?_, rfl⟩
      simp only [lg_cmp_lt, lg_cmp_gt] at h1 h2; simp [bI, h1, h2]
    · refine ⟨⟨Nat.zero_le _, Nat.zero_le _⟩, by decide, ?_, rfl⟩
      simp only [lg_cmp_lt, lg_cmp_gt] at h1 h2; simp [bI, h1, h2]
set_option maxHeartbeats 1000000 in
theorem T_at {d : Nat} {S : Sc} {M : Nat → Nat → Int32} {J : Nat → Nat → Int64} {s i : Nat} : Wp (d + 1) 106 [.int (nI s), .int (nI i)] (S, M, J) (fun rs w' => rs = .inl (some (.int (nI (42 + 2 * (3 * s + i))))) ∧ w' = (S, M, J)) := by
  refine ⟨rfl, ?_⟩
  refine EE.runN (stop := noStop) 60 _ ?_
  refine ⟨⟨Nat.zero_le _, Nat.zero_le _⟩, ?_, rfl⟩
  exact congrArg (fun x => Sum.inl (some (Value.int x))) (i_at s i)
def rSays (ρ : Rw) (s : Nat) : Int32 := if ¬ ρ (42 + 2 * (3 * s + 0)) = -99999 ∧ (ρ (42 + 2 * (3 * s + 0)) = ρ (42 + 2 * (3 * s + 1)) ∨ ρ (42 + 2 * (3 * s + 0)) = ρ (42 + 2 * (3 * s + 2))) then ρ (42 + 2 * (3 * s + 0)) else if ¬ ρ (42 + 2 * (3 * s + 1)) = -99999 ∧ ρ (42 + 2 * (3 * s + 1)) = ρ (42 + 2 * (3 * s + 2)) then ρ (42 + 2 * (3 * s + 1)) else -99999
set_option maxHeartbeats 1000000 in
theorem T_saysOf {d : Nat} {S : Sc} {M : Nat → Nat → Int32} {J : Nat → Nat → Int64} {r s : Nat} (hR : RowS S r) (hs : s < 12) : Wp (d + 2) 107 [.ref r, .int (nI s)] (S, M, J) (fun rs w' => rs = .inl (some (.int (rSays (M r) s))) ∧ w' = (S, M, J)) := by
  have c0 := ck (k := 42 + 2 * (3 * s + 0)) (by omega)
  have c1 := ck (k := 42 + 2 * (3 * s + 1)) (by omega)
  have c2 := ck (k := 42 + 2 * (3 * s + 2)) (by omega)
  refine ⟨rfl, ?_⟩
  refine EE.runN (stop := noStop) 60 _ ?_
  refine ⟨⟨Nat.le_of_ble_eq_true rfl, Nat.le_of_ble_eq_true rfl, Nat.le_of_ble_eq_true rfl⟩, _, T_at (s := s) (i := 0), ?_⟩
  rintro _ _ ⟨rfl, rfl⟩
  refine ⟨Or.inl rfl, ?_⟩
  refine ⟨by exact hR.1, hR.vp (by omega), ?_⟩
  refine ⟨⟨Nat.le_of_ble_eq_true rfl, Nat.le_of_ble_eq_true rfl, Nat.le_of_ble_eq_true rfl⟩, _, T_at (s := s) (i := 1), ?_⟩
  rintro _ _ ⟨rfl, rfl⟩
  refine ⟨Or.inl rfl, ?_⟩
  refine ⟨by exact hR.1, hR.vp (by omega), ?_⟩
  refine ⟨⟨Nat.le_of_ble_eq_true rfl, Nat.le_of_ble_eq_true rfl, Nat.le_of_ble_eq_true rfl⟩, _, T_at (s := s) (i := 2), ?_⟩
  rintro _ _ ⟨rfl, rfl⟩
  refine ⟨Or.inl rfl, ?_⟩
  refine ⟨by exact hR.1, hR.vp (by omega), ?_⟩
  refine ⟨fun h1 => ?_, fun h1 => ?_⟩
  · refine ⟨fun h2 => ?_, fun h2 => ?_⟩
    · refine ⟨⟨Nat.zero_le _, Nat.zero_le _⟩, ?_, rfl⟩
      simp only [c0, c1, c2] at h1 h2 ⊢; simp_all [rSays]
    · refine ⟨fun h3 => ?_, fun h3 => ?_⟩
      · refine ⟨⟨Nat.zero_le _, Nat.zero_le _⟩, ?_, rfl⟩
        simp only [c0, c1, c2] at h1 h2 h3 ⊢; simp_all [rSays]
      · refine ⟨⟨Nat.zero_le _, Nat.zero_le _⟩, ?_, rfl⟩
        simp only [c0, c1, c2] at h1 h2 h3 ⊢; simp_all [rSays]
  · refine ⟨fun h4 => ?_, fun h4 => ?_⟩
    · refine ⟨⟨Nat.zero_le _, Nat.zero_le _⟩, ?_, rfl⟩
      simp only [c0, c1, c2] at h1 h4 ⊢; simp_all [rSays]
    · refine ⟨fun h5 => ?_, fun h5 => ?_⟩
      · refine ⟨fun h6 => ?_, fun h6 => ?_⟩
        · refine ⟨⟨Nat.zero_le _, Nat.zero_le _⟩, ?_, rfl⟩
          simp only [c0, c1, c2] at h1 h4 h5 h6 ⊢; simp_all [rSays]
        · refine ⟨fun h7 => ?_, fun h7 => ?_⟩
          · refine ⟨⟨Nat.zero_le _, Nat.zero_le _⟩, ?_, rfl⟩
            simp only [c0, c1, c2] at h1 h4 h5 h6 h7 ⊢; simp_all [rSays]
          · refine ⟨⟨Nat.zero_le _, Nat.zero_le _⟩, ?_, rfl⟩
            simp only [c0, c1, c2] at h1 h4 h5 h6 h7 ⊢; simp_all [rSays]
      · refine ⟨⟨Nat.zero_le _, Nat.zero_le _⟩, ?_, rfl⟩
        simp only [c0, c1, c2] at h1 h4 h5 ⊢; simp_all [rSays]
set_option maxHeartbeats 1000000 in
theorem T_rStuck {d : Nat} {S : Sc} {M : Nat → Nat → Int32} {J : Nat → Nat → Int64} {r s i : Nat} (hR : RowS S r) (hs : s < 12) (hi : i < 3) : Wp (d + 2) 108 [.ref r, .int (nI s), .int (nI i)] (S, M, J) (fun rs w' => rs = .inl (some (.int (bI (¬ M r (43 + 2 * (3 * s + i)) < M r 2)))) ∧ w' = (S, M, J)) := by
  have e1 : nI (42 + 2 * (3 * s + i)) + 1 = nI (43 + 2 * (3 * s + i)) := by rw [nI_1]; congr 1; omega
  have c0 := ck (k := 43 + 2 * (3 * s + i)) (by omega)
  have c2 : (2 : Int32).toNatClampNeg = 2 := rfl
  refine ⟨rfl, ?_⟩
  refine EE.runN (stop := noStop) 60 _ ?_
  refine ⟨⟨Nat.le_of_ble_eq_true rfl, Nat.le_of_ble_eq_true rfl, Nat.le_of_ble_eq_true rfl⟩, _, T_at (s := s) (i := i), ?_⟩
  rintro _ _ ⟨rfl, rfl⟩
  refine ⟨Or.inl rfl, ?_⟩
  refine ⟨by exact hR.1, (by first | exact hR.vp (k := 2) (by omega) | (rw [e1]; exact hR.vp (by omega))), ?_⟩
  refine ⟨by exact hR.1, (by first | exact hR.vp (k := 2) (by omega) | (rw [e1]; exact hR.vp (by omega))), ?_⟩
  refine ⟨fun h1 => ?_, fun h1 => ?_⟩
  · refine ⟨⟨Nat.zero_le _, Nat.zero_le _⟩, by decide, ?_, rfl⟩
    simp only [e1, c0, c2] at h1; simp [bI, h1]
  · refine ⟨⟨Nat.zero_le _, Nat.zero_le _⟩, by decide, ?_, rfl⟩
    simp only [e1, c0, c2] at h1; simp [bI, h1]
end
section
/-! THE REFERENCE, loops over rows of numbers: written by wip/whole/pure2.py -/
theorem cpy_step {M : Nat → Nat → Int32} {f t fa ta k : Nat} (hne : f ≠ t ∨ ta ≤ fa) : upA (upA M t (va_cpy (M f) (M t) fa ta k)) t (upd (upA M t (va_cpy (M f) (M t) fa ta k) t) (ta + k) (upA M t (va_cpy (M f) (M t) fa ta k) f (fa + k))) = upA M t (va_cpy (M f) (M t) fa ta (k + 1)) := by
  have e : upA M t (va_cpy (M f) (M t) fa ta k) f (fa + k) = M f (fa + k) := by
    by_cases h : f = t
    · subst h
      rw [upA_s]
      unfold va_cpy
      rw [if_neg (by rcases hne with h | h
                     · exact absurd rfl h
                     · omega)]
    · rw [upA_n _ _ h]
  rw [e, upA_s]
  funext i
  by_cases hi : i = t
  · subst hi
    rw [upA_s, upA_s]
    funext q
    unfold upd va_cpy
    by_cases hq : q = ta + k
    · subst hq
      rw [if_pos rfl, if_pos (by omega)]
      congr 1
      omega
    · rw [if_neg hq]
      by_cases h2 : ta ≤ q ∧ q < ta + k
      · rw [if_pos h2, if_pos (by omega)]
      · rw [if_neg h2, if_neg (by omega)]
  · rw [upA_n _ _ hi, upA_n _ _ hi, upA_n _ _ hi]
theorem cpy_0 (M : Nat → Nat → Int32) (f t fa ta : Nat) : upA M t (va_cpy (M f) (M t) fa ta 0) = M := by
  funext i
  by_cases hi : i = t
  · subst hi
    rw [upA_s]
    funext q
    unfold va_cpy
    rw [if_neg (by omega)]
  · rw [upA_n _ _ hi]
set_option maxHeartbeats 1000000 in
theorem L_copy {d : Nat} {C : Cal} {Q : Res → Wd → Prop} {S : Sc} {M : Nat → Nat → Int32} {J : Nat → Nat → Int64} {f t fa ta n : Nat} (hf : S.2.1 f = 8) (ht : S.2.1 t = 8) (hfl : fa + n ≤ S.2.2.1 f) (htl : ta + n ≤ S.2.2.1 t) (hfm : S.2.2.1 f < 2147483648) (htm : S.2.2.1 t < 2147483648) (hne : f ≠ t ∨ ta ≤ fa) (hQ : Q (.inl none) (S, upA M t (va_cpy (M f) (M t) fa ta n), J)) :
    ∀ m k, k + m = n → EE (SJ d 101 C Q) (3, [(0, .ref f), (1, .int (nI fa)), (2, .ref t), (3, .int (nI ta)), (4, .int (nI n)), (5, .int (nI k))], [], (S, upA M t (va_cpy (M f) (M t) fa ta k), J), 0, 0) := by
  intro m
  induction m with
  | zero =>
    intro k hk
    have hk : k = n := by omega
    subst hk
    refine EE.runN (stop := atPc [3]) 40 _ ?_
    refine ⟨fun h1 => ?_, fun h1 => ?_⟩
    · exact ⟨⟨Nat.zero_le _, Nat.zero_le _⟩, hQ⟩
    · exact absurd (Int32.le_refl _) h1
  | succ m ih =>
    intro k hk
    refine EE.runN (stop := atPc [3]) 40 _ ?_
    refine ⟨fun h1 => ?_, fun h1 => ?_⟩
    · exact absurd h1 (nI_ge (by omega) (by omega))
    · refine ⟨by first | exact hf | exact ht, (by rw [nI_add]; first | exact vp_in_nI (show _ < S.2.2.1 f by omega) (by omega) | exact vp_in_nI (show _ < S.2.2.1 t by omega) (by omega)), ?_⟩
      refine ⟨by first | exact hf | exact ht, (by rw [nI_add]; first | exact vp_in_nI (show _ < S.2.2.1 f by omega) (by omega) | exact vp_in_nI (show _ < S.2.2.1 t by omega) (by omega)), ?_⟩
      refine EE.nz (nt := nzT 101) (ls' := [(0, .ref f), (1, .int (nI fa)), (2, .ref t), (3, .int (nI ta)), (4, .int (nI n)), (5, .int (nI (k + 1)))]) rfl (by rw [← nI_1 k]; rfl) ?_
      show EE _ (3, _, [], (S, upA (upA M t (va_cpy (M f) (M t) fa ta k)) t (upd (upA M t (va_cpy (M f) (M t) fa ta k) t) (nI ta + nI k).toNatClampNeg (upA M t (va_cpy (M f) (M t) fa ta k) f (nI fa + nI k).toNatClampNeg)), J), 0, 0)
      rw [nI_add, nI_add, ck (by omega), ck (by omega), cpy_step hne]
      exact ih (k + 1) (by omega)
theorem T_copy {d : Nat} {S : Sc} {M : Nat → Nat → Int32} {J : Nat → Nat → Int64} {f t fa ta n : Nat} (hf : S.2.1 f = 8) (ht : S.2.1 t = 8) (hfl : fa + n ≤ S.2.2.1 f) (htl : ta + n ≤ S.2.2.1 t) (hfm : S.2.2.1 f < 2147483648) (htm : S.2.2.1 t < 2147483648) (hne : f ≠ t ∨ ta ≤ fa) : Wp (d + 1) 101 [.ref f, .int (nI fa), .ref t, .int (nI ta), .int (nI n)] (S, M, J) (fun rs w' => rs = .inl none ∧ w' = (S, upA M t (va_cpy (M f) (M t) fa ta n), J)) := by
  refine ⟨rfl, ?_⟩
  refine EE.runN (stop := atPc [3]) 2 _ ?_
  refine EE.nz (nt := nzT 101) (ls' := [(0, .ref f), (1, .int (nI fa)), (2, .ref t), (3, .int (nI ta)), (4, .int (nI n)), (5, .int (nI 0))]) rfl rfl ?_
  have := L_copy (d := d + 1) (C := Wp d) (Q := fun rs w' => rs = .inl none ∧ w' = (S, upA M t (va_cpy (M f) (M t) fa ta n), J)) (S := S) (M := M) (J := J) hf ht hfl htl hfm htm hne ⟨rfl, rfl⟩ n 0 (by omega)
  rw [cpy_0] at this
  exact this
def rWear (ρ : Rw) (s : Nat) : Int32 := 0 + ρ (43 + 2 * (3 * s + 0)) + ρ (43 + 2 * (3 * s + 1)) + ρ (43 + 2 * (3 * s + 2))
set_option maxHeartbeats 1000000 in
theorem T_rWear {d : Nat} {S : Sc} {M : Nat → Nat → Int32} {J : Nat → Nat → Int64} {r s : Nat} (hR : RowS S r) (hs : s < 12) : Wp (d + 2) 109 [.ref r, .int (nI s)] (S, M, J) (fun rs w' => rs = .inl (some (.int (rWear (M r) s))) ∧ w' = (S, M, J)) := by
  have f0 : nI (42 + 2 * (3 * s + 0)) + 1 = nI (43 + 2 * (3 * s + 0)) := by rw [nI_1]; congr 1; omega
  have f1 : nI (42 + 2 * (3 * s + 1)) + 1 = nI (43 + 2 * (3 * s + 1)) := by rw [nI_1]; congr 1; omega
  have f2 : nI (42 + 2 * (3 * s + 2)) + 1 = nI (43 + 2 * (3 * s + 2)) := by rw [nI_1]; congr 1; omega
  have c0 := ck (k := 43 + 2 * (3 * s + 0)) (by omega)
  have c1 := ck (k := 43 + 2 * (3 * s + 1)) (by omega)
  have c2 := ck (k := 43 + 2 * (3 * s + 2)) (by omega)
  refine ⟨rfl, ?_⟩
  refine EE.runN (stop := atPc [4]) 60 _ ?_
  refine EE.nz (nt := nzT 109) (ls' := [(0, .ref r), (1, .int (nI s)), (2, .int (0)), (3, .int 0)]) rfl rfl ?_
  refine EE.runN (stop := atPc [4]) 80 _ ?_
  refine ⟨fun h1 => ?_, fun h1 => ?_⟩
  · exact absurd h1 (by decide)
  · refine ⟨⟨Nat.le_of_ble_eq_true rfl, Nat.le_of_ble_eq_true rfl, Nat.le_of_ble_eq_true rfl⟩, _, T_at (s := s) (i := 0), ?_⟩
    rintro _ _ ⟨rfl, rfl⟩
    refine ⟨Or.inl rfl, ?_⟩
    refine ⟨by exact hR.1, (by first | (rw [f0]; exact hR.vp (by omega)) | (rw [f1]; exact hR.vp (by omega)) | (rw [f2]; exact hR.vp (by omega))), ?_⟩
    refine EE.nz (nt := nzT 109) (ls' := [(0, .ref r), (1, .int (nI s)), (2, .int (0 + M r (nI (42 + 2 * (3 * s + 0)) + 1).toNatClampNeg)), (3, .int 1)]) rfl rfl ?_
    refine EE.runN (stop := atPc [4]) 80 _ ?_
    refine ⟨fun h2 => ?_, fun h2 => ?_⟩
    · exact absurd h2 (by decide)
    · refine ⟨⟨Nat.le_of_ble_eq_true rfl, Nat.le_of_ble_eq_true rfl, Nat.le_of_ble_eq_true rfl⟩, _, T_at (s := s) (i := 1), ?_⟩
      rintro _ _ ⟨rfl, rfl⟩
      refine ⟨Or.inl rfl, ?_⟩
      refine ⟨by exact hR.1, (by first | (rw [f0]; exact hR.vp (by omega)) | (rw [f1]; exact hR.vp (by omega)) | (rw [f2]; exact hR.vp (by omega))), ?_⟩
      refine EE.nz (nt := nzT 109) (ls' := [(0, .ref r), (1, .int (nI s)), (2, .int (0 + M r (nI (42 + 2 * (3 * s + 0)) + 1).toNatClampNeg + M r (nI (42 + 2 * (3 * s + 1)) + 1).toNatClampNeg)), (3, .int 2)]) rfl rfl ?_
      refine EE.runN (stop := atPc [4]) 80 _ ?_
      refine ⟨fun h3 => ?_, fun h3 => ?_⟩
      · exact absurd h3 (by decide)
      · refine ⟨⟨Nat.le_of_ble_eq_true rfl, Nat.le_of_ble_eq_true rfl, Nat.le_of_ble_eq_true rfl⟩, _, T_at (s := s) (i := 2), ?_⟩
        rintro _ _ ⟨rfl, rfl⟩
        refine ⟨Or.inl rfl, ?_⟩
        refine ⟨by exact hR.1, (by first | (rw [f0]; exact hR.vp (by omega)) | (rw [f1]; exact hR.vp (by omega)) | (rw [f2]; exact hR.vp (by omega))), ?_⟩
        refine EE.nz (nt := nzT 109) (ls' := [(0, .ref r), (1, .int (nI s)), (2, .int (0 + M r (nI (42 + 2 * (3 * s + 0)) + 1).toNatClampNeg + M r (nI (42 + 2 * (3 * s + 1)) + 1).toNatClampNeg + M r (nI (42 + 2 * (3 * s + 2)) + 1).toNatClampNeg)), (3, .int 3)]) rfl rfl ?_
        refine EE.runN (stop := atPc [4]) 80 _ ?_
        refine ⟨fun h4 => ?_, fun h4 => ?_⟩
        · refine ⟨⟨Nat.zero_le _, Nat.zero_le _⟩, ?_, rfl⟩
          rw [f0, f1, f2, c0, c1, c2]; rfl
        · exact absurd h4 (by decide)
end
section
/-! THE REFERENCE: a write, a storing, driving, power: written by wip/whole/pure2.py -/
def rCut (ρ : Rw) : Rw := upd (upd ρ 8 (ρ 8 + 1)) 10 (ρ 10 - (if ρ 10 ≤ 0 then 0 else 1))
def rCel (s i : Nat) : Nat := 42 + 2 * (3 * s + i)
/-- what the write does to the cell -/
def rPut (ρ : Rw) (cut : Prop) [Decidable cut] (s i : Nat) (v : Int32) : Rw :=
  if ¬ ρ (43 + 2 * (3 * s + i)) < ρ 2 then ρ
  else if cut then (if ρ 11 ≤ 0 then upd ρ (43 + 2 * (3 * s + i)) (ρ (43 + 2 * (3 * s + i)) + 1) else upd (upd ρ (43 + 2 * (3 * s + i)) (ρ (43 + 2 * (3 * s + i)) + 1)) (42 + 2 * (3 * s + i)) (if ρ 11 = 1 then -99999 else v - (v - v / 100 * 100)))
  else upd (upd ρ (43 + 2 * (3 * s + i)) (ρ (43 + 2 * (3 * s + i)) + 1)) (42 + 2 * (3 * s + i)) v
def rOff (ρ : Rw) (s i : Int32) (kind vain : Int32) : Rw := upd (upd (upd (upd (upd (upd (upd (upd ρ 3 0) 12 0) 11 (-99999)) 9 (ρ 9 + 1)) 13 s) 14 i) 15 kind) 16 vain
def rWr (ρ : Rw) (s i : Nat) (v vain : Int32) : Rw := if ρ 10 = 1 then rOff (rPut (rCut ρ) True s i v) (nI s) (nI i) (ρ 11) vain else rPut (rCut ρ) False s i v
set_option maxHeartbeats 1000000 in
theorem T_writes {d : Nat} {S : Sc} {M : Nat → Nat → Int32} {J : Nat → Nat → Int64} {r s i : Nat} {v vain : Int32} (hR : RowS S r) (hs : s < 12) (hi : i < 3) : Wp (d + 3) 111 [.ref r, .int (nI s), .int (nI i), .int v, .int vain] (S, M, J) (fun rs w' => rs = .inl (some (.int (bI (¬ M r 10 = 1)))) ∧ w' = (S, upA M r (rWr (M r) s i v vain), J)) := by
  have e1 : nI (42 + 2 * (3 * s + i)) + 1 = nI (43 + 2 * (3 * s + i)) := by rw [nI_1]; congr 1; omega
  have c0 := ck (k := 42 + 2 * (3 * s + i)) (by omega)
  have c1 := ck (k := 43 + 2 * (3 * s + i)) (by omega)
  have n42_2 : 42 + 2 * (3 * s + i) ≠ 2 := by omega
  have n42_3 : 42 + 2 * (3 * s + i) ≠ 3 := by omega
  have n42_8 : 42 + 2 * (3 * s + i) ≠ 8 := by omega
  have n42_9 : 42 + 2 * (3 * s + i) ≠ 9 := by omega
  have n42_10 : 42 + 2 * (3 * s + i) ≠ 10 := by omega
  have n42_11 : 42 + 2 * (3 * s + i) ≠ 11 := by omega
  have n42_12 : 42 + 2 * (3 * s + i) ≠ 12 := by omega
  have n42_13 : 42 + 2 * (3 * s + i) ≠ 13 := by omega
  have n42_14 : 42 + 2 * (3 * s + i) ≠ 14 := by omega
  have n42_15 : 42 + 2 * (3 * s + i) ≠ 15 := by omega
  have n42_16 : 42 + 2 * (3 * s + i) ≠ 16 := by omega
  have n43_2 : 43 + 2 * (3 * s + i) ≠ 2 := by omega
  have n43_3 : 43 + 2 * (3 * s + i) ≠ 3 := by omega
  have n43_8 : 43 + 2 * (3 * s + i) ≠ 8 := by omega
  have n43_9 : 43 + 2 * (3 * s + i) ≠ 9 := by omega
  have n43_10 : 43 + 2 * (3 * s + i) ≠ 10 := by omega
  have n43_11 : 43 + 2 * (3 * s + i) ≠ 11 := by omega
  have n43_12 : 43 + 2 * (3 * s + i) ≠ 12 := by omega
  have n43_13 : 43 + 2 * (3 * s + i) ≠ 13 := by omega
  have n43_14 : 43 + 2 * (3 * s + i) ≠ 14 := by omega
  have n43_15 : 43 + 2 * (3 * s + i) ≠ 15 := by omega
  have n43_16 : 43 + 2 * (3 * s + i) ≠ 16 := by omega
  have m42_2 : 2 ≠ 42 + 2 * (3 * s + i) := by omega
  have m42_3 : 3 ≠ 42 + 2 * (3 * s + i) := by omega
  have m42_8 : 8 ≠ 42 + 2 * (3 * s + i) := by omega
  have m42_9 : 9 ≠ 42 + 2 * (3 * s + i) := by omega
  have m42_10 : 10 ≠ 42 + 2 * (3 * s + i) := by omega
  have m42_11 : 11 ≠ 42 + 2 * (3 * s + i) := by omega
  have m42_12 : 12 ≠ 42 + 2 * (3 * s + i) := by omega
  have m42_13 : 13 ≠ 42 + 2 * (3 * s + i) := by omega
  have m42_14 : 14 ≠ 42 + 2 * (3 * s + i) := by omega
  have m42_15 : 15 ≠ 42 + 2 * (3 * s + i) := by omega
  have m42_16 : 16 ≠ 42 + 2 * (3 * s + i) := by omega
  have m43_2 : 2 ≠ 43 + 2 * (3 * s + i) := by omega
  have m43_3 : 3 ≠ 43 + 2 * (3 * s + i) := by omega
  have m43_8 : 8 ≠ 43 + 2 * (3 * s + i) := by omega
  have m43_9 : 9 ≠ 43 + 2 * (3 * s + i) := by omega
  have m43_10 : 10 ≠ 43 + 2 * (3 * s + i) := by omega
  have m43_11 : 11 ≠ 43 + 2 * (3 * s + i) := by omega
  have m43_12 : 12 ≠ 43 + 2 * (3 * s + i) := by omega
  have m43_13 : 13 ≠ 43 + 2 * (3 * s + i) := by omega
  have m43_14 : 14 ≠ 43 + 2 * (3 * s + i) := by omega
  have m43_15 : 15 ≠ 43 + 2 * (3 * s + i) := by omega
  have m43_16 : 16 ≠ 43 + 2 * (3 * s + i) := by omega
  have q1 : 42 + 2 * (3 * s + i) ≠ 43 + 2 * (3 * s + i) := by omega
  have q2 : 43 + 2 * (3 * s + i) ≠ 42 + 2 * (3 * s + i) := by omega
  have g1 : ∀ (ρ : Rw) (k : Nat) (x : Int32), upd ρ k x k = x := fun ρ k x => pk_us
  have g2 : ∀ (ρ : Rw) (k q : Nat) (x : Int32), q ≠ k → upd ρ k x q = ρ q := fun ρ k q x h => pk_un h
  refine ⟨rfl, ?_⟩
  refine EE.runN (stop := noStop) 140 _ ?_
  refine ⟨by exact hR.1, hR.vp (k := 8) (by omega), ?_⟩
  refine ⟨by exact hR.1, hR.vp (k := 8) (by omega), ?_⟩
  refine ⟨by exact hR.1, hR.vp (k := 10) (by omega), ?_⟩
  refine ⟨fun h1 => ?_, fun h1 => ?_⟩
  · refine ⟨by exact hR.1, hR.vp (k := 10) (by omega), ?_⟩
    refine ⟨by exact hR.1, hR.vp (k := 10) (by omega), ?_⟩
    refine ⟨fun h2 => ?_, fun h2 => ?_⟩
    · refine ⟨by exact hR.1, hR.vp (k := 10) (by omega), ?_⟩
      refine ⟨by exact hR.1, hR.vp (k := 11) (by omega), ?_⟩
      refine ⟨⟨Nat.le_of_ble_eq_true rfl, Nat.le_of_ble_eq_true rfl, Nat.le_of_ble_eq_true rfl⟩, _, T_at (s := s) (i := i), ?_⟩
      rintro _ _ ⟨rfl, rfl⟩
      refine ⟨Or.inl rfl, ?_⟩
      refine ⟨⟨Nat.le_of_ble_eq_true rfl, Nat.le_of_ble_eq_true rfl, Nat.le_of_ble_eq_true rfl⟩, _, T_rStuck (s := s) (i := i) hR hs hi, ?_⟩
      rintro _ _ ⟨rfl, rfl⟩
      refine ⟨Or.inl rfl, ?_⟩
      refine ⟨fun h3 => ?_, fun h3 => ?_⟩
      · refine ⟨fun h4 => ?_, fun h4 => ?_⟩
        · refine ⟨fun h5 => ?_, fun h5 => ?_⟩
          · exact absurd h5 (by decide)
          · simp only [wI_M, wI_1, upA_s, upA_uu, tk_0, tk_1, tk_2, tk_3, tk_4, tk_5, tk_6, tk_7, tk_8, tk_9, tk_10, tk_11, tk_12, tk_13, tk_14, tk_15, tk_16, tk_17, tk_18, tk_42, tk_43, e1, c0, c1, bI_e0] at h1 h2 h3 h4 h5
            refine ⟨⟨Nat.zero_le _, Nat.zero_le _⟩, by decide, ?_, ?_⟩
            · simp_all [-Int32.not_le, -Int32.not_lt, bI, upd]
            · show (S, _, J) = (S, _, J)
              simp only [wI_M, wI_1, upA_s, upA_uu, tk_0, tk_1, tk_2, tk_3, tk_4, tk_5, tk_6, tk_7, tk_8, tk_9, tk_10, tk_11, tk_12, tk_13, tk_14, tk_15, tk_16, tk_17, tk_18, tk_42, tk_43, e1, c0, c1]
              simp_all [-Int32.not_le, -Int32.not_lt, rWr, rOff, rPut, rCut, upd]
        · exact absurd h4 (by decide)
      · refine ⟨by exact hR.1, (by rw [e1]; exact hR.vp (by omega)), ?_⟩
        refine ⟨by exact hR.1, (by rw [e1]; exact hR.vp (by omega)), ?_⟩
        refine ⟨fun h6 => ?_, fun h6 => ?_⟩
        · exact absurd h6 (by decide)
        · refine ⟨by exact hR.1, hR.vp (k := 42 + 2 * (3 * s + i)) (by omega), ?_⟩
          refine ⟨fun h7 => ?_, fun h7 => ?_⟩
          · refine ⟨fun h8 => ?_, fun h8 => ?_⟩
            · exact absurd h8 (by decide)
            · simp only [wI_M, wI_1, upA_s, upA_uu, tk_0, tk_1, tk_2, tk_3, tk_4, tk_5, tk_6, tk_7, tk_8, tk_9, tk_10, tk_11, tk_12, tk_13, tk_14, tk_15, tk_16, tk_17, tk_18, tk_42, tk_43, e1, c0, c1, bI_e0] at h1 h2 h3 h6 h7 h8
              refine ⟨⟨Nat.zero_le _, Nat.zero_le _⟩, by decide, ?_, ?_⟩
              · simp_all [-Int32.not_le, -Int32.not_lt, bI, upd]
              · show (S, _, J) = (S, _, J)
                simp only [wI_M, wI_1, upA_s, upA_uu, tk_0, tk_1, tk_2, tk_3, tk_4, tk_5, tk_6, tk_7, tk_8, tk_9, tk_10, tk_11, tk_12, tk_13, tk_14, tk_15, tk_16, tk_17, tk_18, tk_42, tk_43, e1, c0, c1]
                simp_all [-Int32.not_le, -Int32.not_lt, rWr, rOff, rPut, rCut, upd]
          · exact absurd h7 (by decide)
    · refine ⟨by exact hR.1, hR.vp (k := 10) (by omega), ?_⟩
      refine ⟨by exact hR.1, hR.vp (k := 11) (by omega), ?_⟩
      refine ⟨⟨Nat.le_of_ble_eq_true rfl, Nat.le_of_ble_eq_true rfl, Nat.le_of_ble_eq_true rfl⟩, _, T_at (s := s) (i := i), ?_⟩
      rintro _ _ ⟨rfl, rfl⟩
      refine ⟨Or.inl rfl, ?_⟩
      refine ⟨⟨Nat.le_of_ble_eq_true rfl, Nat.le_of_ble_eq_true rfl, Nat.le_of_ble_eq_true rfl⟩, _, T_rStuck (s := s) (i := i) hR hs hi, ?_⟩
      rintro _ _ ⟨rfl, rfl⟩
      refine ⟨Or.inl rfl, ?_⟩
      refine ⟨fun h9 => ?_, fun h9 => ?_⟩
      · refine ⟨fun h10 => ?_, fun h10 => ?_⟩
        · refine ⟨fun h11 => ?_, fun h11 => ?_⟩
          · exact absurd h11 (by decide)
          · simp only [wI_M, wI_1, upA_s, upA_uu, tk_0, tk_1, tk_2, tk_3, tk_4, tk_5, tk_6, tk_7, tk_8, tk_9, tk_10, tk_11, tk_12, tk_13, tk_14, tk_15, tk_16, tk_17, tk_18, tk_42, tk_43, e1, c0, c1, bI_e0] at h1 h2 h9 h10 h11
            refine ⟨⟨Nat.zero_le _, Nat.zero_le _⟩, by decide, ?_, ?_⟩
            · simp_all [-Int32.not_le, -Int32.not_lt, bI, upd]
            · show (S, _, J) = (S, _, J)
              simp only [wI_M, wI_1, upA_s, upA_uu, tk_0, tk_1, tk_2, tk_3, tk_4, tk_5, tk_6, tk_7, tk_8, tk_9, tk_10, tk_11, tk_12, tk_13, tk_14, tk_15, tk_16, tk_17, tk_18, tk_42, tk_43, e1, c0, c1]
              simp_all [-Int32.not_le, -Int32.not_lt, rWr, rOff, rPut, rCut, upd]
        · exact absurd h10 (by decide)
      · refine ⟨by exact hR.1, (by rw [e1]; exact hR.vp (by omega)), ?_⟩
        refine ⟨by exact hR.1, (by rw [e1]; exact hR.vp (by omega)), ?_⟩
        refine ⟨fun h12 => ?_, fun h12 => ?_⟩
        · exact absurd h12 (by decide)
        · refine ⟨by exact hR.1, hR.vp (k := 42 + 2 * (3 * s + i)) (by omega), ?_⟩
          refine ⟨fun h13 => ?_, fun h13 => ?_⟩
          · refine ⟨fun h14 => ?_, fun h14 => ?_⟩
            · exact absurd h14 (by decide)
            · simp only [wI_M, wI_1, upA_s, upA_uu, tk_0, tk_1, tk_2, tk_3, tk_4, tk_5, tk_6, tk_7, tk_8, tk_9, tk_10, tk_11, tk_12, tk_13, tk_14, tk_15, tk_16, tk_17, tk_18, tk_42, tk_43, e1, c0, c1, bI_e0] at h1 h2 h9 h12 h13 h14
              refine ⟨⟨Nat.zero_le _, Nat.zero_le _⟩, by decide, ?_, ?_⟩
              · simp_all [-Int32.not_le, -Int32.not_lt, bI, upd]
              · show (S, _, J) = (S, _, J)
                simp only [wI_M, wI_1, upA_s, upA_uu, tk_0, tk_1, tk_2, tk_3, tk_4, tk_5, tk_6, tk_7, tk_8, tk_9, tk_10, tk_11, tk_12, tk_13, tk_14, tk_15, tk_16, tk_17, tk_18, tk_42, tk_43, e1, c0, c1]
                simp_all [-Int32.not_le, -Int32.not_lt, rWr, rOff, rPut, rCut, upd]
          · exact absurd h13 (by decide)
  · refine ⟨by exact hR.1, hR.vp (k := 10) (by omega), ?_⟩
    refine ⟨by exact hR.1, hR.vp (k := 10) (by omega), ?_⟩
    refine ⟨fun h15 => ?_, fun h15 => ?_⟩
    · refine ⟨by exact hR.1, hR.vp (k := 10) (by omega), ?_⟩
      refine ⟨by exact hR.1, hR.vp (k := 11) (by omega), ?_⟩
      refine ⟨⟨Nat.le_of_ble_eq_true rfl, Nat.le_of_ble_eq_true rfl, Nat.le_of_ble_eq_true rfl⟩, _, T_at (s := s) (i := i), ?_⟩
      rintro _ _ ⟨rfl, rfl⟩
      refine ⟨Or.inl rfl, ?_⟩
      refine ⟨⟨Nat.le_of_ble_eq_true rfl, Nat.le_of_ble_eq_true rfl, Nat.le_of_ble_eq_true rfl⟩, _, T_rStuck (s := s) (i := i) hR hs hi, ?_⟩
      rintro _ _ ⟨rfl, rfl⟩
      refine ⟨Or.inl rfl, ?_⟩
      refine ⟨fun h16 => ?_, fun h16 => ?_⟩
      · refine ⟨fun h17 => ?_, fun h17 => ?_⟩
        · exact absurd h17 (by decide)
        · refine ⟨by exact hR.1, hR.vp (k := 3) (by omega), ?_⟩
          refine ⟨by exact hR.1, hR.vp (k := 12) (by omega), ?_⟩
          refine ⟨by exact hR.1, hR.vp (k := 11) (by omega), ?_⟩
          refine ⟨by exact hR.1, hR.vp (k := 9) (by omega), ?_⟩
          refine ⟨by exact hR.1, hR.vp (k := 9) (by omega), ?_⟩
          refine ⟨by exact hR.1, hR.vp (k := 13) (by omega), ?_⟩
          refine ⟨by exact hR.1, hR.vp (k := 14) (by omega), ?_⟩
          refine ⟨by exact hR.1, hR.vp (k := 15) (by omega), ?_⟩
          refine ⟨by exact hR.1, hR.vp (k := 16) (by omega), ?_⟩
          refine ⟨fun h18 => ?_, fun h18 => ?_⟩
          · simp only [wI_M, wI_1, upA_s, upA_uu, tk_0, tk_1, tk_2, tk_3, tk_4, tk_5, tk_6, tk_7, tk_8, tk_9, tk_10, tk_11, tk_12, tk_13, tk_14, tk_15, tk_16, tk_17, tk_18, tk_42, tk_43, e1, c0, c1, bI_e0] at h1 h15 h16 h17 h18
            refine ⟨⟨Nat.zero_le _, Nat.zero_le _⟩, by decide, ?_, ?_⟩
            · simp_all [-Int32.not_le, -Int32.not_lt, bI, upd]
            · show (S, _, J) = (S, _, J)
              simp only [wI_M, wI_1, upA_s, upA_uu, tk_0, tk_1, tk_2, tk_3, tk_4, tk_5, tk_6, tk_7, tk_8, tk_9, tk_10, tk_11, tk_12, tk_13, tk_14, tk_15, tk_16, tk_17, tk_18, tk_42, tk_43, e1, c0, c1]
              simp_all [-Int32.not_le, -Int32.not_lt, rWr, rOff, rPut, rCut, upd]
          · exact absurd h18 (by decide)
      · refine ⟨by exact hR.1, (by rw [e1]; exact hR.vp (by omega)), ?_⟩
        refine ⟨by exact hR.1, (by rw [e1]; exact hR.vp (by omega)), ?_⟩
        refine ⟨fun h19 => ?_, fun h19 => ?_⟩
        · refine ⟨fun h20 => ?_, fun h20 => ?_⟩
          · refine ⟨fun h21 => ?_, fun h21 => ?_⟩
            · exact absurd h21 (by decide)
            · refine ⟨by exact hR.1, hR.vp (k := 3) (by omega), ?_⟩
              refine ⟨by exact hR.1, hR.vp (k := 12) (by omega), ?_⟩
              refine ⟨by exact hR.1, hR.vp (k := 11) (by omega), ?_⟩
              refine ⟨by exact hR.1, hR.vp (k := 9) (by omega), ?_⟩
              refine ⟨by exact hR.1, hR.vp (k := 9) (by omega), ?_⟩
              refine ⟨by exact hR.1, hR.vp (k := 13) (by omega), ?_⟩
              refine ⟨by exact hR.1, hR.vp (k := 14) (by omega), ?_⟩
              refine ⟨by exact hR.1, hR.vp (k := 15) (by omega), ?_⟩
              refine ⟨by exact hR.1, hR.vp (k := 16) (by omega), ?_⟩
              refine ⟨fun h22 => ?_, fun h22 => ?_⟩
              · simp only [wI_M, wI_1, upA_s, upA_uu, tk_0, tk_1, tk_2, tk_3, tk_4, tk_5, tk_6, tk_7, tk_8, tk_9, tk_10, tk_11, tk_12, tk_13, tk_14, tk_15, tk_16, tk_17, tk_18, tk_42, tk_43, e1, c0, c1, bI_e0] at h1 h15 h16 h19 h20 h21 h22
                refine ⟨⟨Nat.zero_le _, Nat.zero_le _⟩, by decide, ?_, ?_⟩
                · simp_all [-Int32.not_le, -Int32.not_lt, bI, upd]
                · show (S, _, J) = (S, _, J)
                  simp only [wI_M, wI_1, upA_s, upA_uu, tk_0, tk_1, tk_2, tk_3, tk_4, tk_5, tk_6, tk_7, tk_8, tk_9, tk_10, tk_11, tk_12, tk_13, tk_14, tk_15, tk_16, tk_17, tk_18, tk_42, tk_43, e1, c0, c1]
                  simp_all [-Int32.not_le, -Int32.not_lt, rWr, rOff, rPut, rCut, upd]
              · exact absurd h22 (by decide)
          · refine ⟨fun h23 => ?_, fun h23 => ?_⟩
            · refine ⟨by first | decide | exact hR.1, ?_⟩
              refine ⟨by exact hR.1, hR.vp (k := 42 + 2 * (3 * s + i)) (by omega), ?_⟩
              refine ⟨fun h24 => ?_, fun h24 => ?_⟩
              · exact absurd h24 (by decide)
              · refine ⟨by exact hR.1, hR.vp (k := 3) (by omega), ?_⟩
                refine ⟨by exact hR.1, hR.vp (k := 12) (by omega), ?_⟩
                refine ⟨by exact hR.1, hR.vp (k := 11) (by omega), ?_⟩
                refine ⟨by exact hR.1, hR.vp (k := 9) (by omega), ?_⟩
                refine ⟨by exact hR.1, hR.vp (k := 9) (by omega), ?_⟩
                refine ⟨by exact hR.1, hR.vp (k := 13) (by omega), ?_⟩
                refine ⟨by exact hR.1, hR.vp (k := 14) (by omega), ?_⟩
                refine ⟨by exact hR.1, hR.vp (k := 15) (by omega), ?_⟩
                refine ⟨by exact hR.1, hR.vp (k := 16) (by omega), ?_⟩
                refine ⟨fun h25 => ?_, fun h25 => ?_⟩
                · simp only [wI_M, wI_1, upA_s, upA_uu, tk_0, tk_1, tk_2, tk_3, tk_4, tk_5, tk_6, tk_7, tk_8, tk_9, tk_10, tk_11, tk_12, tk_13, tk_14, tk_15, tk_16, tk_17, tk_18, tk_42, tk_43, e1, c0, c1, bI_e0] at h1 h15 h16 h19 h20 h23 h24 h25
                  refine ⟨⟨Nat.zero_le _, Nat.zero_le _⟩, by decide, ?_, ?_⟩
                  · simp_all [-Int32.not_le, -Int32.not_lt, bI, upd]
                  · show (S, _, J) = (S, _, J)
                    simp only [wI_M, wI_1, upA_s, upA_uu, tk_0, tk_1, tk_2, tk_3, tk_4, tk_5, tk_6, tk_7, tk_8, tk_9, tk_10, tk_11, tk_12, tk_13, tk_14, tk_15, tk_16, tk_17, tk_18, tk_42, tk_43, e1, c0, c1]
                    simp_all [-Int32.not_le, -Int32.not_lt, rWr, rOff, rPut, rCut, upd]
                · exact absurd h25 (by decide)
            · refine ⟨by exact hR.1, hR.vp (k := 42 + 2 * (3 * s + i)) (by omega), ?_⟩
              refine ⟨fun h26 => ?_, fun h26 => ?_⟩
              · exact absurd h26 (by decide)
              · refine ⟨by exact hR.1, hR.vp (k := 3) (by omega), ?_⟩
                refine ⟨by exact hR.1, hR.vp (k := 12) (by omega), ?_⟩
                refine ⟨by exact hR.1, hR.vp (k := 11) (by omega), ?_⟩
                refine ⟨by exact hR.1, hR.vp (k := 9) (by omega), ?_⟩
                refine ⟨by exact hR.1, hR.vp (k := 9) (by omega), ?_⟩
                refine ⟨by exact hR.1, hR.vp (k := 13) (by omega), ?_⟩
                refine ⟨by exact hR.1, hR.vp (k := 14) (by omega), ?_⟩
                refine ⟨by exact hR.1, hR.vp (k := 15) (by omega), ?_⟩
                refine ⟨by exact hR.1, hR.vp (k := 16) (by omega), ?_⟩
                refine ⟨fun h27 => ?_, fun h27 => ?_⟩
                · simp only [wI_M, wI_1, upA_s, upA_uu, tk_0, tk_1, tk_2, tk_3, tk_4, tk_5, tk_6, tk_7, tk_8, tk_9, tk_10, tk_11, tk_12, tk_13, tk_14, tk_15, tk_16, tk_17, tk_18, tk_42, tk_43, e1, c0, c1, bI_e0] at h1 h15 h16 h19 h20 h23 h26 h27
                  refine ⟨⟨Nat.zero_le _, Nat.zero_le _⟩, by decide, ?_, ?_⟩
                  · simp_all [-Int32.not_le, -Int32.not_lt, bI, upd]
                  · show (S, _, J) = (S, _, J)
                    simp only [wI_M, wI_1, upA_s, upA_uu, tk_0, tk_1, tk_2, tk_3, tk_4, tk_5, tk_6, tk_7, tk_8, tk_9, tk_10, tk_11, tk_12, tk_13, tk_14, tk_15, tk_16, tk_17, tk_18, tk_42, tk_43, e1, c0, c1]
                    simp_all [-Int32.not_le, -Int32.not_lt, rWr, rOff, rPut, rCut, upd]
                · exact absurd h27 (by decide)
        · exact absurd h19 (by decide)
    · refine ⟨by exact hR.1, hR.vp (k := 10) (by omega), ?_⟩
      refine ⟨by exact hR.1, hR.vp (k := 11) (by omega), ?_⟩
      refine ⟨⟨Nat.le_of_ble_eq_true rfl, Nat.le_of_ble_eq_true rfl, Nat.le_of_ble_eq_true rfl⟩, _, T_at (s := s) (i := i), ?_⟩
      rintro _ _ ⟨rfl, rfl⟩
      refine ⟨Or.inl rfl, ?_⟩
      refine ⟨⟨Nat.le_of_ble_eq_true rfl, Nat.le_of_ble_eq_true rfl, Nat.le_of_ble_eq_true rfl⟩, _, T_rStuck (s := s) (i := i) hR hs hi, ?_⟩
      rintro _ _ ⟨rfl, rfl⟩
      refine ⟨Or.inl rfl, ?_⟩
      refine ⟨fun h28 => ?_, fun h28 => ?_⟩
      · refine ⟨fun h29 => ?_, fun h29 => ?_⟩
        · exact absurd h29 (by decide)
        · refine ⟨by exact hR.1, hR.vp (k := 3) (by omega), ?_⟩
          refine ⟨by exact hR.1, hR.vp (k := 12) (by omega), ?_⟩
          refine ⟨by exact hR.1, hR.vp (k := 11) (by omega), ?_⟩
          refine ⟨by exact hR.1, hR.vp (k := 9) (by omega), ?_⟩
          refine ⟨by exact hR.1, hR.vp (k := 9) (by omega), ?_⟩
          refine ⟨by exact hR.1, hR.vp (k := 13) (by omega), ?_⟩
          refine ⟨by exact hR.1, hR.vp (k := 14) (by omega), ?_⟩
          refine ⟨by exact hR.1, hR.vp (k := 15) (by omega), ?_⟩
          refine ⟨by exact hR.1, hR.vp (k := 16) (by omega), ?_⟩
          refine ⟨fun h30 => ?_, fun h30 => ?_⟩
          · simp only [wI_M, wI_1, upA_s, upA_uu, tk_0, tk_1, tk_2, tk_3, tk_4, tk_5, tk_6, tk_7, tk_8, tk_9, tk_10, tk_11, tk_12, tk_13, tk_14, tk_15, tk_16, tk_17, tk_18, tk_42, tk_43, e1, c0, c1, bI_e0] at h1 h15 h28 h29 h30
            refine ⟨⟨Nat.zero_le _, Nat.zero_le _⟩, by decide, ?_, ?_⟩
            · simp_all [-Int32.not_le, -Int32.not_lt, bI, upd]
            · show (S, _, J) = (S, _, J)
              simp only [wI_M, wI_1, upA_s, upA_uu, tk_0, tk_1, tk_2, tk_3, tk_4, tk_5, tk_6, tk_7, tk_8, tk_9, tk_10, tk_11, tk_12, tk_13, tk_14, tk_15, tk_16, tk_17, tk_18, tk_42, tk_43, e1, c0, c1]
              simp_all [-Int32.not_le, -Int32.not_lt, rWr, rOff, rPut, rCut, upd]
          · exact absurd h30 (by decide)
      · refine ⟨by exact hR.1, (by rw [e1]; exact hR.vp (by omega)), ?_⟩
        refine ⟨by exact hR.1, (by rw [e1]; exact hR.vp (by omega)), ?_⟩
        refine ⟨fun h31 => ?_, fun h31 => ?_⟩
        · refine ⟨fun h32 => ?_, fun h32 => ?_⟩
          · refine ⟨fun h33 => ?_, fun h33 => ?_⟩
            · exact absurd h33 (by decide)
            · refine ⟨by exact hR.1, hR.vp (k := 3) (by omega), ?_⟩
              refine ⟨by exact hR.1, hR.vp (k := 12) (by omega), ?_⟩
              refine ⟨by exact hR.1, hR.vp (k := 11) (by omega), ?_⟩
              refine ⟨by exact hR.1, hR.vp (k := 9) (by omega), ?_⟩
              refine ⟨by exact hR.1, hR.vp (k := 9) (by omega), ?_⟩
              refine ⟨by exact hR.1, hR.vp (k := 13) (by omega), ?_⟩
              refine ⟨by exact hR.1, hR.vp (k := 14) (by omega), ?_⟩
              refine ⟨by exact hR.1, hR.vp (k := 15) (by omega), ?_⟩
              refine ⟨by exact hR.1, hR.vp (k := 16) (by omega), ?_⟩
              refine ⟨fun h34 => ?_, fun h34 => ?_⟩
              · simp only [wI_M, wI_1, upA_s, upA_uu, tk_0, tk_1, tk_2, tk_3, tk_4, tk_5, tk_6, tk_7, tk_8, tk_9, tk_10, tk_11, tk_12, tk_13, tk_14, tk_15, tk_16, tk_17, tk_18, tk_42, tk_43, e1, c0, c1, bI_e0] at h1 h15 h28 h31 h32 h33 h34
                refine ⟨⟨Nat.zero_le _, Nat.zero_le _⟩, by decide, ?_, ?_⟩
                · simp_all [-Int32.not_le, -Int32.not_lt, bI, upd]
                · show (S, _, J) = (S, _, J)
                  simp only [wI_M, wI_1, upA_s, upA_uu, tk_0, tk_1, tk_2, tk_3, tk_4, tk_5, tk_6, tk_7, tk_8, tk_9, tk_10, tk_11, tk_12, tk_13, tk_14, tk_15, tk_16, tk_17, tk_18, tk_42, tk_43, e1, c0, c1]
                  simp_all [-Int32.not_le, -Int32.not_lt, rWr, rOff, rPut, rCut, upd]
              · exact absurd h34 (by decide)
          · refine ⟨fun h35 => ?_, fun h35 => ?_⟩
            · refine ⟨by first | decide | exact hR.1, ?_⟩
              refine ⟨by exact hR.1, hR.vp (k := 42 + 2 * (3 * s + i)) (by omega), ?_⟩
              refine ⟨fun h36 => ?_, fun h36 => ?_⟩
              · exact absurd h36 (by decide)
              · refine ⟨by exact hR.1, hR.vp (k := 3) (by omega), ?_⟩
                refine ⟨by exact hR.1, hR.vp (k := 12) (by omega), ?_⟩
                refine ⟨by exact hR.1, hR.vp (k := 11) (by omega), ?_⟩
                refine ⟨by exact hR.1, hR.vp (k := 9) (by omega), ?_⟩
                refine ⟨by exact hR.1, hR.vp (k := 9) (by omega), ?_⟩
                refine ⟨by exact hR.1, hR.vp (k := 13) (by omega), ?_⟩
                refine ⟨by exact hR.1, hR.vp (k := 14) (by omega), ?_⟩
                refine ⟨by exact hR.1, hR.vp (k := 15) (by omega), ?_⟩
                refine ⟨by exact hR.1, hR.vp (k := 16) (by omega), ?_⟩
                refine ⟨fun h37 => ?_, fun h37 => ?_⟩
                · simp only [wI_M, wI_1, upA_s, upA_uu, tk_0, tk_1, tk_2, tk_3, tk_4, tk_5, tk_6, tk_7, tk_8, tk_9, tk_10, tk_11, tk_12, tk_13, tk_14, tk_15, tk_16, tk_17, tk_18, tk_42, tk_43, e1, c0, c1, bI_e0] at h1 h15 h28 h31 h32 h35 h36 h37
                  refine ⟨⟨Nat.zero_le _, Nat.zero_le _⟩, by decide, ?_, ?_⟩
                  · simp_all [-Int32.not_le, -Int32.not_lt, bI, upd]
                  · show (S, _, J) = (S, _, J)
                    simp only [wI_M, wI_1, upA_s, upA_uu, tk_0, tk_1, tk_2, tk_3, tk_4, tk_5, tk_6, tk_7, tk_8, tk_9, tk_10, tk_11, tk_12, tk_13, tk_14, tk_15, tk_16, tk_17, tk_18, tk_42, tk_43, e1, c0, c1]
                    simp_all [-Int32.not_le, -Int32.not_lt, rWr, rOff, rPut, rCut, upd]
                · exact absurd h37 (by decide)
            · refine ⟨by exact hR.1, hR.vp (k := 42 + 2 * (3 * s + i)) (by omega), ?_⟩
              refine ⟨fun h38 => ?_, fun h38 => ?_⟩
              · exact absurd h38 (by decide)
              · refine ⟨by exact hR.1, hR.vp (k := 3) (by omega), ?_⟩
                refine ⟨by exact hR.1, hR.vp (k := 12) (by omega), ?_⟩
                refine ⟨by exact hR.1, hR.vp (k := 11) (by omega), ?_⟩
                refine ⟨by exact hR.1, hR.vp (k := 9) (by omega), ?_⟩
                refine ⟨by exact hR.1, hR.vp (k := 9) (by omega), ?_⟩
                refine ⟨by exact hR.1, hR.vp (k := 13) (by omega), ?_⟩
                refine ⟨by exact hR.1, hR.vp (k := 14) (by omega), ?_⟩
                refine ⟨by exact hR.1, hR.vp (k := 15) (by omega), ?_⟩
                refine ⟨by exact hR.1, hR.vp (k := 16) (by omega), ?_⟩
                refine ⟨fun h39 => ?_, fun h39 => ?_⟩
                · simp only [wI_M, wI_1, upA_s, upA_uu, tk_0, tk_1, tk_2, tk_3, tk_4, tk_5, tk_6, tk_7, tk_8, tk_9, tk_10, tk_11, tk_12, tk_13, tk_14, tk_15, tk_16, tk_17, tk_18, tk_42, tk_43, e1, c0, c1, bI_e0] at h1 h15 h28 h31 h32 h35 h38 h39
                  refine ⟨⟨Nat.zero_le _, Nat.zero_le _⟩, by decide, ?_, ?_⟩
                  · simp_all [-Int32.not_le, -Int32.not_lt, bI, upd]
                  · show (S, _, J) = (S, _, J)
                    simp only [wI_M, wI_1, upA_s, upA_uu, tk_0, tk_1, tk_2, tk_3, tk_4, tk_5, tk_6, tk_7, tk_8, tk_9, tk_10, tk_11, tk_12, tk_13, tk_14, tk_15, tk_16, tk_17, tk_18, tk_42, tk_43, e1, c0, c1]
                    simp_all [-Int32.not_le, -Int32.not_lt, rWr, rOff, rPut, rCut, upd]
                · exact absurd h39 (by decide)
        · exact absurd h31 (by decide)
end
section
/-! THE REFERENCE: storing the distance: written by wip/whole/pure2.py -/
/-- three writes; whether the power stays on -/
def rW3 (ρ : Rw) (s : Nat) (vain : Int32) : Rw × Bool :=
  if ρ 10 = 1 then (rWr ρ s 0 (ρ 4) vain, false)
  else if rWr ρ s 0 (ρ 4) vain 10 = 1 then (rWr (rWr ρ s 0 (ρ 4) vain) s 1 (rWr ρ s 0 (ρ 4) vain 4) vain, false)
  else if rWr (rWr ρ s 0 (ρ 4) vain) s 1 (rWr ρ s 0 (ρ 4) vain 4) vain 10 = 1 then (rWr (rWr (rWr ρ s 0 (ρ 4) vain) s 1 (rWr ρ s 0 (ρ 4) vain 4) vain) s 2 (rWr (rWr ρ s 0 (ρ 4) vain) s 1 (rWr ρ s 0 (ρ 4) vain 4) vain 4) vain, false)
  else (rWr (rWr (rWr ρ s 0 (ρ 4) vain) s 1 (rWr ρ s 0 (ρ 4) vain 4) vain) s 2 (rWr (rWr ρ s 0 (ρ 4) vain) s 1 (rWr ρ s 0 (ρ 4) vain 4) vain 4) vain, true)
def rSt (n cur : Nat) : Nat → Nat → Rw → Rw
  | 0, _, ρ => upd ρ 12 1
  | f + 1, vain, ρ => if (rW3 ρ ((cur + 1 + vain) % n) (nI vain)).2 = false then (rW3 ρ ((cur + 1 + vain) % n) (nI vain)).1
    else if rSays (rW3 ρ ((cur + 1 + vain) % n) (nI vain)).1 ((cur + 1 + vain) % n) = (rW3 ρ ((cur + 1 + vain) % n) (nI vain)).1 4 then upd (upd (rW3 ρ ((cur + 1 + vain) % n) (nI vain)).1 7 (nI ((cur + 1 + vain) % n))) 6 (upd (rW3 ρ ((cur + 1 + vain) % n) (nI vain)).1 7 (nI ((cur + 1 + vain) % n)) 4)
    else rSt n cur f (vain + 1) (rW3 ρ ((cur + 1 + vain) % n) (nI vain)).1
theorem rWr_keep {ρ : Rw} {s i : Nat} {v vain : Int32} {k : Nat} (h : k = 0 ∨ k = 1 ∨ k = 2 ∨ k = 4 ∨ k = 5 ∨ k = 6 ∨ k = 7 ∨ (17 ≤ k ∧ k < 42)) : rWr ρ s i v vain k = ρ k := by
  have h1 : k ≠ 42 + 2 * (3 * s + i) := by omega
  have h2 : k ≠ 43 + 2 * (3 * s + i) := by omega
  have h3 : k ≠ 8 ∧ k ≠ 10 ∧ k ≠ 3 ∧ k ≠ 12 ∧ k ≠ 11 ∧ k ≠ 9 ∧ k ≠ 13 ∧ k ≠ 14 ∧ k ≠ 15 ∧ k ≠ 16 := by omega
  obtain ⟨a1, a2, a3, a4, a5, a6, a7, a8, a9, a10⟩ := h3
  unfold rWr rOff rPut rCut
  split <;> (repeat' split) <;> simp [upd, h1, h2, a1, a2, a3, a4, a5, a6, a7, a8, a9, a10]
theorem rW3_keep {ρ : Rw} {s : Nat} {vain : Int32} {k : Nat} (h : k = 0 ∨ k = 1 ∨ k = 2 ∨ k = 4 ∨ k = 5 ∨ k = 6 ∨ k = 7 ∨ (17 ≤ k ∧ k < 42)) : (rW3 ρ s vain).1 k = ρ k := by
  unfold rW3
  (repeat' split) <;> simp only [rWr_keep h]
theorem i_slot {n cur vain : Nat} (hn : 0 < n) (hb : n < 1000) (hc : cur < 1000) (hv : vain < 1000) : nI cur + 1 + nI vain - (nI cur + 1 + nI vain) / nI n * nI n = nI ((cur + 1 + vain) % n) := by
  rw [nI_1, nI_add, pk_rem (by omega) hn (by omega)]
set_option maxHeartbeats 4000000 in
theorem L_store {d : Nat} {Q : Res → Wd → Prop} {S : Sc} {M : Nat → Nat → Int32} {J : Nat → Nat → Int64} {r n cur : Nat} (hR : RowS S r) (hn3 : 3 ≤ n) (hn : n ≤ 12) (hcur : cur < n) : ∀ (f vain : Nat) (ρ : Rw), vain + f + 1 = n → ρ 0 = nI n → ρ 7 = nI cur → Q (.inl none) (S, upA M r (rSt n cur f vain ρ), J) → EE (SJ (d + 4) 112 (Wp (d + 3)) Q) (2, [(0, .ref r), (1, .int (nI vain))], [], (S, upA M r ρ, J), 0, 0) := by
  intro f
  induction f with
  | zero =>
    intro vain ρ hf z0 z7 hQ
    have hn1 : nI n - 1 = nI (n - 1) := by rw [show (1 : Int32) = nI 1 from rfl, pk_sub (by omega)]
    refine EE.runN (stop := atPc [2, 26]) 80 _ ?_
    refine ⟨by exact hR.1, hR.vp (k := 0) (by omega), ?_⟩
    refine ⟨fun h1 => ?_, fun h1 => ?_⟩
    · refine ⟨by exact hR.1, hR.vp (k := 12) (by omega), ?_⟩
      refine ⟨⟨Nat.zero_le _, Nat.zero_le _⟩, ?_⟩
      show Q (.inl none) (S, upA (upA M r ρ) r (upd (upA M r ρ r) 12 1), J)
      rw [upA_s, upA_uu]
      exact hQ
    · refine absurd ?_ h1
      show upA M r ρ r 0 - 1 ≤ nI vain
      rw [upA_s, z0, hn1]
      exact nI_le (by omega) (by omega)
  | succ f ih =>
    intro vain ρ hf z0 z7 hQ
    have hn1 : nI n - 1 = nI (n - 1) := by rw [show (1 : Int32) = nI 1 from rfl, pk_sub (by omega)]
    have hslot : upA M r ρ r 7 + 1 + nI vain - (upA M r ρ r 7 + 1 + nI vain) / (upA M r ρ r 0) * (upA M r ρ r 0) = nI ((cur + 1 + vain) % n) := by rw [upA_s, z0, z7]; exact i_slot (by omega) (by omega) (by omega) (by omega)
    have hsl : ((cur + 1 + vain) % n) < 12 := Nat.lt_of_lt_of_le (Nat.mod_lt _ (by omega)) hn
    refine EE.runN (stop := atPc [2, 26]) 80 _ ?_
    refine ⟨by first | exact hR.1 | (show ¬ upA M r ρ r 0 = 0; rw [upA_s, z0]; exact nI_ne0 (by omega) (by omega)), hR.vp (k := 0) (by omega), ?_⟩
    refine ⟨fun h1 => ?_, fun h1 => ?_⟩
    · refine absurd (show upA M r ρ r 0 - 1 ≤ nI vain from h1) ?_
      rw [upA_s, z0, hn1]
      exact nI_ge (by omega) (by omega)
    · refine ⟨by first | exact hR.1 | (show ¬ upA M r ρ r 0 = 0; rw [upA_s, z0]; exact nI_ne0 (by omega) (by omega)), hR.vp (k := 7) (by omega), ?_⟩
      refine ⟨by first | exact hR.1 | (show ¬ upA M r ρ r 0 = 0; rw [upA_s, z0]; exact nI_ne0 (by omega) (by omega)), hR.vp (k := 0) (by omega), ?_⟩
      refine ⟨by first | decide | first | exact hR.1 | (show ¬ upA M r ρ r 0 = 0; rw [upA_s, z0]; exact nI_ne0 (by omega) (by omega)), ?_⟩
      refine EE.nz (nt := nzT 112) (ls' := [(0, .ref r), (1, .int (nI vain)), (2, .int (nI ((cur + 1 + vain) % n))), (3, .int 0)]) rfl (by rw [← hslot]; rfl) ?_
      refine EE.runN (stop := atPc [2, 26]) 80 _ ?_
      refine ⟨fun h2 => ?_, fun h2 => ?_⟩
      · exact absurd h2 (by decide)
      · refine ⟨by first | exact hR.1 | (show ¬ upA M r ρ r 0 = 0; rw [upA_s, z0]; exact nI_ne0 (by omega) (by omega)), hR.vp (k := 4) (by omega), ?_⟩
        refine ⟨⟨Nat.le_of_ble_eq_true rfl, Nat.le_of_ble_eq_true rfl, Nat.le_of_ble_eq_true rfl⟩, _, T_writes (s := ((cur + 1 + vain) % n)) (i := 0) hR hsl (by omega), ?_⟩
        rintro _ w1 ⟨rfl, hw⟩
        simp only [upA_s, upA_uu, tk_4] at hw
        subst hw
        refine ⟨Or.inl rfl, ?_⟩
        refine ⟨fun h3 => ?_, fun h3 => ?_⟩
        · refine EE.nz (nt := nzT 112) (ls' := [(0, .ref r), (1, .int (nI vain)), (2, .int (nI ((cur + 1 + vain) % n))), (3, .int 1)]) rfl rfl ?_
          refine EE.runN (stop := atPc [2, 26]) 80 _ ?_
          refine ⟨fun h4 => ?_, fun h4 => ?_⟩
          · exact absurd h4 (by decide)
          · refine ⟨by first | exact hR.1 | (show ¬ upA M r ρ r 0 = 0; rw [upA_s, z0]; exact nI_ne0 (by omega) (by omega)), hR.vp (k := 4) (by omega), ?_⟩
            refine ⟨⟨Nat.le_of_ble_eq_true rfl, Nat.le_of_ble_eq_true rfl, Nat.le_of_ble_eq_true rfl⟩, _, T_writes (s := ((cur + 1 + vain) % n)) (i := 1) hR hsl (by omega), ?_⟩
            rintro _ w1 ⟨rfl, hw⟩
            simp only [upA_s, upA_uu, tk_4] at hw
            subst hw
            refine ⟨Or.inl rfl, ?_⟩
            refine ⟨fun h5 => ?_, fun h5 => ?_⟩
            · refine EE.nz (nt := nzT 112) (ls' := [(0, .ref r), (1, .int (nI vain)), (2, .int (nI ((cur + 1 + vain) % n))), (3, .int 2)]) rfl rfl ?_
              refine EE.runN (stop := atPc [2, 26]) 80 _ ?_
              refine ⟨fun h6 => ?_, fun h6 => ?_⟩
              · exact absurd h6 (by decide)
              · refine ⟨by first | exact hR.1 | (show ¬ upA M r ρ r 0 = 0; rw [upA_s, z0]; exact nI_ne0 (by omega) (by omega)), hR.vp (k := 4) (by omega), ?_⟩
                refine ⟨⟨Nat.le_of_ble_eq_true rfl, Nat.le_of_ble_eq_true rfl, Nat.le_of_ble_eq_true rfl⟩, _, T_writes (s := ((cur + 1 + vain) % n)) (i := 2) hR hsl (by omega), ?_⟩
                rintro _ w1 ⟨rfl, hw⟩
                simp only [upA_s, upA_uu, tk_4] at hw
                subst hw
                refine ⟨Or.inl rfl, ?_⟩
                refine ⟨fun h7 => ?_, fun h7 => ?_⟩
                · refine EE.nz (nt := nzT 112) (ls' := [(0, .ref r), (1, .int (nI vain)), (2, .int (nI ((cur + 1 + vain) % n))), (3, .int 3)]) rfl rfl ?_
                  refine EE.runN (stop := atPc [2, 26]) 80 _ ?_
                  refine ⟨fun h8 => ?_, fun h8 => ?_⟩
                  · refine ⟨⟨Nat.le_of_ble_eq_true rfl, Nat.le_of_ble_eq_true rfl, Nat.le_of_ble_eq_true rfl⟩, _, T_saysOf (s := ((cur + 1 + vain) % n)) hR hsl, ?_⟩
                    rintro _ w1 ⟨rfl, rfl⟩
                    refine ⟨Or.inl rfl, ?_⟩
                    refine ⟨by first | exact hR.1 | (show ¬ upA M r ρ r 0 = 0; rw [upA_s, z0]; exact nI_ne0 (by omega) (by omega)), hR.vp (k := 4) (by omega), ?_⟩
                    refine ⟨fun h9 => ?_, fun h9 => ?_⟩
                    · simp only [upA_s, upA_uu, tk_0, tk_4, tk_6, tk_7, tk_10, tk_12, bI_e0, Classical.not_not] at h1 h2 h3 h4 h5 h6 h7 h8 h9
                      refine EE.nz (nt := nzT 112) (ls' := [(0, .ref r), (1, .int (nI (vain + 1)))]) rfl (by rw [← nI_1 vain]; rfl) ?_
                      have e3 : (rW3 ρ ((cur + 1 + vain) % n) (nI vain)) = ((rWr (rWr (rWr ρ ((cur + 1 + vain) % n) 0 (ρ 4) (nI vain)) ((cur + 1 + vain) % n) 1 ((rWr ρ ((cur + 1 + vain) % n) 0 (ρ 4) (nI vain)) 4) (nI vain)) ((cur + 1 + vain) % n) 2 ((rWr (rWr ρ ((cur + 1 + vain) % n) 0 (ρ 4) (nI vain)) ((cur + 1 + vain) % n) 1 ((rWr ρ ((cur + 1 + vain) % n) 0 (ρ 4) (nI vain)) 4) (nI vain)) 4) (nI vain)), true) := by unfold rW3; simp [h1, h2, h3, h4, h5, h6, h7, h8, h9]
                      refine ih (vain + 1) (rWr (rWr (rWr ρ ((cur + 1 + vain) % n) 0 (ρ 4) (nI vain)) ((cur + 1 + vain) % n) 1 ((rWr ρ ((cur + 1 + vain) % n) 0 (ρ 4) (nI vain)) 4) (nI vain)) ((cur + 1 + vain) % n) 2 ((rWr (rWr ρ ((cur + 1 + vain) % n) 0 (ρ 4) (nI vain)) ((cur + 1 + vain) % n) 1 ((rWr ρ ((cur + 1 + vain) % n) 0 (ρ 4) (nI vain)) 4) (nI vain)) 4) (nI vain)) (by omega) (by rw [rWr_keep (by omega), rWr_keep (by omega), rWr_keep (by omega)]; exact z0) (by rw [rWr_keep (by omega), rWr_keep (by omega), rWr_keep (by omega)]; exact z7) ?_
                      refine (congrArg (fun ρ9 => Q (.inl none) (S, upA M r ρ9, J)) ?_).mp hQ
                      rw [rSt, e3]
                      simp [h1, h2, h3, h4, h5, h6, h7, h8, h9]
                    · refine ⟨by first | exact hR.1 | (show ¬ upA M r ρ r 0 = 0; rw [upA_s, z0]; exact nI_ne0 (by omega) (by omega)), hR.vp (k := 7) (by omega), ?_⟩
                      refine ⟨by first | exact hR.1 | (show ¬ upA M r ρ r 0 = 0; rw [upA_s, z0]; exact nI_ne0 (by omega) (by omega)), hR.vp (k := 4) (by omega), ?_⟩
                      refine ⟨by first | exact hR.1 | (show ¬ upA M r ρ r 0 = 0; rw [upA_s, z0]; exact nI_ne0 (by omega) (by omega)), hR.vp (k := 6) (by omega), ?_⟩
                      simp only [upA_s, upA_uu, tk_0, tk_4, tk_6, tk_7, tk_10, tk_12, bI_e0, Classical.not_not] at h1 h2 h3 h4 h5 h6 h7 h8 h9
                      refine ⟨⟨Nat.zero_le _, Nat.zero_le _⟩, ?_⟩
                      show Q (.inl none) _
                      refine (congrArg (Q (.inl none)) ?_).mp hQ
                      show (S, _, J) = (S, _, J)
                      refine congrArg (fun m => (S, m, J)) ?_
                      try simp only [wI_M, wI_1, upA_s, upA_uu, tk_0, tk_4, tk_6, tk_7, tk_10, tk_12]
                      refine congrArg (upA M r) ?_
                      unfold rSt rW3
                      simp [h1, h2, h3, h4, h5, h6, h7, h8, h9]
                  · exact absurd h8 (by decide)
                · simp only [upA_s, upA_uu, tk_0, tk_4, tk_6, tk_7, tk_10, tk_12, bI_e0, Classical.not_not] at h1 h2 h3 h4 h5 h6 h7
                  refine ⟨⟨Nat.zero_le _, Nat.zero_le _⟩, ?_⟩
                  show Q (.inl none) _
                  refine (congrArg (Q (.inl none)) ?_).mp hQ
                  show (S, _, J) = (S, _, J)
                  refine congrArg (fun m => (S, m, J)) ?_
                  try simp only [wI_M, wI_1, upA_s, upA_uu, tk_0, tk_4, tk_6, tk_7, tk_10, tk_12]
                  refine congrArg (upA M r) ?_
                  unfold rSt rW3
                  simp [h1, h2, h3, h4, h5, h6, h7]
            · simp only [upA_s, upA_uu, tk_0, tk_4, tk_6, tk_7, tk_10, tk_12, bI_e0, Classical.not_not] at h1 h2 h3 h4 h5
              refine ⟨⟨Nat.zero_le _, Nat.zero_le _⟩, ?_⟩
              show Q (.inl none) _
              refine (congrArg (Q (.inl none)) ?_).mp hQ
              show (S, _, J) = (S, _, J)
              refine congrArg (fun m => (S, m, J)) ?_
              try simp only [wI_M, wI_1, upA_s, upA_uu, tk_0, tk_4, tk_6, tk_7, tk_10, tk_12]
              refine congrArg (upA M r) ?_
              unfold rSt rW3
              simp [h1, h2, h3, h4, h5]
        · simp only [upA_s, upA_uu, tk_0, tk_4, tk_6, tk_7, tk_10, tk_12, bI_e0, Classical.not_not] at h1 h2 h3
          refine ⟨⟨Nat.zero_le _, Nat.zero_le _⟩, ?_⟩
          show Q (.inl none) _
          refine (congrArg (Q (.inl none)) ?_).mp hQ
          show (S, _, J) = (S, _, J)
          refine congrArg (fun m => (S, m, J)) ?_
          try simp only [wI_M, wI_1, upA_s, upA_uu, tk_0, tk_4, tk_6, tk_7, tk_10, tk_12]
          refine congrArg (upA M r) ?_
          unfold rSt rW3
          simp [h1, h2, h3]
/-- storing the distance -/
def rStore (ρ : Rw) : Rw := rSt (ρ 0).toNatClampNeg (ρ 7).toNatClampNeg ((ρ 0).toNatClampNeg - 1) 0 ρ
theorem T_store {d : Nat} {S : Sc} {M : Nat → Nat → Int32} {J : Nat → Nat → Int64} {r n cur : Nat} (hR : RowS S r) (hn3 : 3 ≤ n) (hn : n ≤ 12) (hcur : cur < n) (h0 : M r 0 = nI n) (h7 : M r 7 = nI cur) : Wp (d + 4) 112 [.ref r] (S, M, J) (fun rs w' => rs = .inl none ∧ w' = (S, upA M r (rStore (M r)), J)) := by
  refine ⟨rfl, ?_⟩
  refine EE.runN (stop := atPc [2]) 2 _ ?_
  refine EE.nz (nt := nzT 112) (ls' := [(0, .ref r), (1, .int (nI 0))]) rfl rfl ?_
  have e : rStore (M r) = rSt n cur (n - 1) 0 (M r) := by
    unfold rStore
    rw [h0, h7, ck (by omega), ck (by omega)]
  have := L_store (d := d) (Q := fun rs w' => rs = .inl none ∧ w' = (S, upA M r (rStore (M r)), J)) (S := S) (M := M) (J := J) hR hn3 hn hcur (n - 1) 0 (M r) (by omega) h0 h7 ⟨rfl, by rw [e]⟩
  rw [upA_id] at this
  exact this
end
section
/-! MORE TOOLS: loop heads -/
theorem ee_at {nt : List (Nat × List Nat)} {cd : List (Nat × Row)} {C : Cal} {mj : Nat → Nat × Nat} {kj nj : Nat → Nat} {SX : Option (Nat × (Nat → Int32))} {mxc mxs : Nat} {hn : Nat → String → Option Nat} {Rt : Option Value → Wd → Nat → Nat → Prop} {Th : String → Wd → Nat → Nat → Prop} {pc : Nat} {ks : List Nat} {ls : List (Nat × Value)} (ls' : List (Nat × Value)) {st : List Value} {w : Wd} (w' : Wd) {nc ns : Nat}
    (hk : lkp nt pc = some ks) (he : nz ks ls = nz ks ls') (hw : w = w') (h : EE (stepF nt cd C mj kj nj SX mxc mxs hn Rt Th) (pc, ls', st, w', nc, ns)) : EE (stepF nt cd C mj kj nj SX mxc mxs hn Rt Th) (pc, ls, st, w, nc, ns) := by
  subst hw
  exact EE.nz hk he h
theorem ee_loop {S : SF} (I : Nat → Fr) (n : Nat) (hs : ∀ k, k < n → EE S (I (k + 1)) → EE S (I k)) (he : EE S (I n)) : EE S (I 0) := by
  have key : ∀ m, m ≤ n → EE S (I (n - m)) := by
    intro m
    induction m with
    | zero => exact fun _ => he
    | succ m ih =>
      intro hm
      have := ih (by omega)
      have e : n - m = n - (m + 1) + 1 := by omega
      rw [e] at this
      exact hs _ (by omega) this
  have := key n (Nat.le_refl n)
  rw [Nat.sub_self] at this
  exact this
theorem i_1 (k : Nat) : nI k + 1 = nI (k + 1) := nI_1 k
theorem upd_same {α : Type} (f : Nat → α) (k : Nat) : (fun j => if j = k then f k else f j) = f := by
  funext j
  by_cases h : j = k
  · rw [if_pos h, h]
  · rw [if_neg h]
theorem o_0 : (0 : Int32) = nI 0 := rfl
theorem o_1 : (1 : Int32) = nI 1 := rfl
theorem o_2 : (2 : Int32) = nI 2 := rfl
theorem o_3 : (3 : Int32) = nI 3 := rfl
theorem o_4 : (4 : Int32) = nI 4 := rfl
theorem o_5 : (5 : Int32) = nI 5 := rfl
theorem o_6 : (6 : Int32) = nI 6 := rfl
theorem o_7 : (7 : Int32) = nI 7 := rfl
theorem o_8 : (8 : Int32) = nI 8 := rfl
theorem o_9 : (9 : Int32) = nI 9 := rfl
theorem o_10 : (10 : Int32) = nI 10 := rfl
theorem o_11 : (11 : Int32) = nI 11 := rfl
theorem o_12 : (12 : Int32) = nI 12 := rfl
theorem o_13 : (13 : Int32) = nI 13 := rfl
theorem o_14 : (14 : Int32) = nI 14 := rfl
theorem o_15 : (15 : Int32) = nI 15 := rfl
theorem o_16 : (16 : Int32) = nI 16 := rfl
theorem o_17 : (17 : Int32) = nI 17 := rfl
theorem o_18 : (18 : Int32) = nI 18 := rfl
theorem o_36 : (36 : Int32) = nI 36 := rfl
theorem o_42 : (42 : Int32) = nI 42 := rfl
theorem o_43 : (43 : Int32) = nI 43 := rfl
theorem o_48 : (48 : Int32) = nI 48 := rfl
theorem o_60 : (60 : Int32) = nI 60 := rfl
theorem o_90 : (90 : Int32) = nI 90 := rfl
theorem o_100 : (100 : Int32) = nI 100 := rfl
theorem o_114 : (114 : Int32) = nI 114 := rfl
theorem o_999 : (999 : Int32) = nI 999 := rfl
theorem o_1000 : (1000 : Int32) = nI 1000 := rfl
theorem o_1482 : (1482 : Int32) = nI 1482 := rfl
theorem o_9999 : (9999 : Int32) = nI 9999 := rfl
end
section
/-! THE REFERENCE: clearing, driving, power, services: written by wip/whole/pure3.py -/
def rClear (ρ : Rw) (k : Nat) : Rw := fun q => if q < k then 0 else ρ q
def rLasts (ρ : Rw) : Nat → Rw
  | 0 => ρ
  | k + 1 => upd (rLasts ρ k) (13 + k) (-99999)
def rHead (ρ : Rw) (a b c : Int32) : Rw := upd (upd (upd (upd (upd (rClear ρ 114) 0 a) 1 b) 2 c) 3 1) 11 (-99999)
def rClean (ρ : Rw) (a b c : Int32) : Rw := rLasts (rHead ρ a b c) 4
theorem rClear_s (ρ : Rw) (k : Nat) : upd (rClear ρ k) k 0 = rClear ρ (k + 1) := by
  funext q
  unfold rClear
  by_cases h : q = k
  · subst h
    rw [pk_us, if_pos (by omega)]
  · rw [pk_un h]
    by_cases h2 : q < k
    · rw [if_pos h2, if_pos (by omega)]
    · rw [if_neg h2, if_neg (by omega)]
set_option maxHeartbeats 1000000 in
theorem T_clean {d : Nat} {S : Sc} {M : Nat → Nat → Int32} {J : Nat → Nat → Int64} {r : Nat} {a b c : Int32} (hR : RowS S r) : Wp (d + 1) 103 [.ref r, .int a, .int b, .int c] (S, M, J) (fun rs w' => rs = .inl none ∧ w' = (S, upA M r (rClean (M r) a b c), J)) := by
  refine ⟨rfl, ?_⟩
  refine EE.runN (stop := atPc [3, 46]) 80 _ ?_
  refine ee_at (nt := nzT 103) [(0, .ref r), (1, .int a), (2, .int b), (3, .int c), (4, .int (nI 0))] (S, upA M r (rClear (M r) 0), J) rfl (by rfl) (by show (S, M, J) = (S, _, J); rw [show rClear (M r) 0 = M r from rfl, upA_id]) ?_
  refine ee_loop (fun k => (3, [(0, .ref r), (1, .int a), (2, .int b), (3, .int c), (4, .int (nI k))], [], (S, upA M r (rClear (M r) k), J), 0, 0)) (114) (fun k h_k ih_k => ?_) ?_
  · refine EE.runN (stop := atPc [3, 46]) 80 _ ?_
    refine ⟨fun h1 => ?_, fun h1 => ?_⟩
    · exact absurd h1 (nI_ge (b := 114) h_k (by omega))
    · refine ⟨by exact hR.1, hR.vp (k := k) (by omega), ?_⟩
      refine ee_at (nt := nzT 103) [(0, .ref r), (1, .int a), (2, .int b), (3, .int c), (4, .int (nI (k + 1)))] (S, upA M r (rClear (M r) (k + 1)), J) rfl (by rw [← nI_1 k]; rfl) (by show (S, _, J) = (S, _, J); simp only [wI_M, wI_1, upA_s, upA_uu, tk_0, tk_1, tk_2, tk_3, tk_4, tk_5, tk_6, tk_7, tk_8, tk_9, tk_10, tk_11, tk_12, tk_13, tk_14, tk_15, tk_16, tk_17]; rw [ck (by omega), rClear_s]) ?_
      exact ih_k
  · refine EE.runN (stop := atPc [3, 46]) 80 _ ?_
    refine ⟨fun h2 => ?_, fun h2 => ?_⟩
    · refine ⟨by exact hR.1, hR.vp (k := 0) (by omega), ?_⟩
      refine ⟨by exact hR.1, hR.vp (k := 1) (by omega), ?_⟩
      refine ⟨by exact hR.1, hR.vp (k := 2) (by omega), ?_⟩
      refine ⟨by exact hR.1, hR.vp (k := 3) (by omega), ?_⟩
      refine ⟨by exact hR.1, hR.vp (k := 11) (by omega), ?_⟩
      refine ee_at (nt := nzT 103) [(0, .ref r), (4, .int (nI 0))] (S, upA M r (rLasts (rHead (M r) a b c) 0), J) rfl (by rfl) (by show (S, _, J) = (S, _, J); simp only [wI_M, wI_1, upA_s, upA_uu, tk_0, tk_1, tk_2, tk_3, tk_4, tk_5, tk_6, tk_7, tk_8, tk_9, tk_10, tk_11, tk_12, tk_13, tk_14, tk_15, tk_16, tk_17]; rfl) ?_
      refine ee_loop (fun k => (46, [(0, .ref r), (4, .int (nI k))], [], (S, upA M r (rLasts (rHead (M r) a b c) k), J), 0, 0)) (4) (fun k h_k ih_k => ?_) ?_
      · refine EE.runN (stop := atPc [3, 46]) 80 _ ?_
        refine ⟨fun h3 => ?_, fun h3 => ?_⟩
        · exact absurd h3 (nI_ge (b := 4) h_k (by omega))
        · refine ⟨by exact hR.1, (by rw [o_13, nI_add]; exact hR.vp (by omega)), ?_⟩
          refine ee_at (nt := nzT 103) [(0, .ref r), (4, .int (nI (k + 1)))] (S, upA M r (rLasts (rHead (M r) a b c) (k + 1)), J) rfl (by rw [← nI_1 k]; rfl) (by show (S, _, J) = (S, _, J); simp only [wI_M, wI_1, upA_s, upA_uu, tk_0, tk_1, tk_2, tk_3, tk_4, tk_5, tk_6, tk_7, tk_8, tk_9, tk_10, tk_11, tk_12, tk_13, tk_14, tk_15, tk_16, tk_17]; rw [o_13, nI_add, ck (by omega)]; rfl) ?_
          exact ih_k
      · refine EE.runN (stop := atPc [3, 46]) 80 _ ?_
        refine ⟨fun h4 => ?_, fun h4 => ?_⟩
        · exact ⟨⟨Nat.zero_le _, Nat.zero_le _⟩, rfl, rfl⟩
        · exact absurd (nI_le (Nat.le_refl 4) (by omega)) h4
    · exact absurd (nI_le (Nat.le_refl 114) (by omega)) h2
def p10 : Nat → Int64
  | 0 => 1
  | k + 1 => p10 k * 10
set_option maxHeartbeats 1000000 in
theorem T_tenTo {d : Nat} {w : Wd} {n : Nat} (hn : n < 1000) : Wp (d + 1) 102 [.int (nI n)] w (fun rs w' => rs = .inl (some (.long (p10 n))) ∧ w' = w) := by
  refine ⟨rfl, ?_⟩
  refine EE.runN (stop := atPc [4]) 80 _ ?_
  refine ee_at (nt := nzT 102) [(0, .int (nI n)), (1, .long (p10 0)), (3, .int (nI 0))] w rfl (by rfl) (by rfl) ?_
  refine ee_loop (fun k => (4, [(0, .int (nI n)), (1, .long (p10 k)), (3, .int (nI k))], [], w, 0, 0)) (n) (fun k h_k ih_k => ?_) ?_
  · refine EE.runN (stop := atPc [4]) 80 _ ?_
    refine ⟨fun h1 => ?_, fun h1 => ?_⟩
    · exact absurd h1 (nI_ge h_k (by omega))
    · refine ee_at (nt := nzT 102) [(0, .int (nI n)), (1, .long (p10 (k + 1))), (3, .int (nI (k + 1)))] w rfl (by rw [← nI_1 k]; rfl) (by rfl) ?_
      exact ih_k
  · refine EE.runN (stop := atPc [4]) 80 _ ?_
    refine ⟨fun h2 => ?_, fun h2 => ?_⟩
    · exact ⟨⟨Nat.zero_le _, Nat.zero_le _⟩, rfl, rfl⟩
    · exact absurd (nI_le (Nat.le_refl n) (by omega)) h2
def rFnd (ρ : Rw) (c : Int32) : Nat → Int32
  | 0 => -99999
  | k + 1 => if ρ (18 + 2 * k) = c then nI k else rFnd ρ c k
set_option maxHeartbeats 1000000 in
theorem T_serviceOf {d : Nat} {S : Sc} {M : Nat → Nat → Int32} {J : Nat → Nat → Int64} {r n : Nat} {x y : Int32} (hR : RowS S r) (hn : n ≤ 12) (h17 : M r 17 = nI n) : Wp (d + 1) 115 [.ref r, .int x, .int y] (S, M, J) (fun rs w' => rs = .inl (some (.int (rFnd (M r) (10 * x + y) n))) ∧ w' = (S, M, J)) := by
  refine ⟨rfl, ?_⟩
  refine EE.runN (stop := atPc [6]) 80 _ ?_
  refine ee_at (nt := nzT 115) [(0, .ref r), (1, .int x), (2, .int y), (3, .int (rFnd (M r) (10 * x + y) 0)), (4, .int (nI 0))] (S, M, J) rfl (by rfl) (by rfl) ?_
  refine ee_loop (fun k => (6, [(0, .ref r), (1, .int x), (2, .int y), (3, .int (rFnd (M r) (10 * x + y) k)), (4, .int (nI k))], [], (S, M, J), 0, 0)) (n) (fun k h_k ih_k => ?_) ?_
  · refine EE.runN (stop := atPc [6]) 80 _ ?_
    have ix : (18 + 2 * nI k : Int32) = nI (18 + 2 * k) := by rw [o_18, o_2, pk_mul, nI_add]
    refine ⟨by exact hR.1, hR.vp (k := 17) (by omega), ?_⟩
    refine ⟨fun h1 => ?_, fun h1 => ?_⟩
    · (simp only [upA_s, tk_17, h17] at h1; exact absurd h1 (nI_ge h_k (by omega)))
    · refine ⟨by exact hR.1, (by rw [ix]; exact hR.vp (by omega)), ?_⟩
      refine ⟨fun h2 => ?_, fun h2 => ?_⟩
      · simp only [ix, ck (show 18 + 2 * k < 2147483648 by omega)] at h2
        refine ee_at (nt := nzT 115) [(0, .ref r), (1, .int x), (2, .int y), (3, .int (rFnd (M r) (10 * x + y) (k + 1))), (4, .int (nI (k + 1)))] (S, M, J) rfl (by rw [rFnd, if_neg h2, ← nI_1 k]; rfl) (by rfl) ?_
        exact ih_k
      · simp only [ix, ck (show 18 + 2 * k < 2147483648 by omega)] at h2
        refine ee_at (nt := nzT 115) [(0, .ref r), (1, .int x), (2, .int y), (3, .int (rFnd (M r) (10 * x + y) (k + 1))), (4, .int (nI (k + 1)))] (S, M, J) rfl (by rw [rFnd, if_pos h2, ← nI_1 k]; rfl) (by rfl) ?_
        exact ih_k
  · refine EE.runN (stop := atPc [6]) 80 _ ?_
    refine ⟨by exact hR.1, hR.vp (k := 17) (by omega), ?_⟩
    refine ⟨fun h3 => ?_, fun h3 => ?_⟩
    · exact ⟨⟨Nat.zero_le _, Nat.zero_le _⟩, rfl, rfl⟩
    · (simp only [upA_s, tk_17, h17] at h3; exact absurd (nI_le (Nat.le_refl n) (by omega)) h3)
/-- a row whose pairs from i on, k numbers of them, have moved down -/
def rShift (ρ : Rw) (a k : Nat) : Rw := fun q => if a ≤ q ∧ q < a + k then ρ (q + 2) else ρ q
def rDrop (ρ : Rw) (i n : Nat) : Rw := upd (rShift ρ (18 + 2 * i) (2 * (n - 1 - i))) 17 (nI (n - 1))
theorem rShift_s (ρ : Rw) (a k : Nat) : upd (rShift ρ a k) (a + k) (rShift ρ a k (a + k + 2)) = rShift ρ a (k + 1) := by
  funext q
  unfold rShift
  by_cases h : q = a + k
  · subst h
    rw [pk_us, if_neg (by omega), if_pos (by omega)]
  · rw [pk_un h]
    by_cases h2 : a ≤ q ∧ q < a + k
    · rw [if_pos h2, if_pos (by omega)]
    · rw [if_neg h2, if_neg (by omega)]
theorem rShift_0 (ρ : Rw) (a : Nat) : rShift ρ a 0 = ρ := by
  funext q
  unfold rShift
  rw [if_neg (by omega)]
theorem rShift_lo (ρ : Rw) {a k q : Nat} (h : q < a) : rShift ρ a k q = ρ q := by
  unfold rShift
  rw [if_neg (by omega)]
set_option maxHeartbeats 1000000 in
theorem T_drop {d : Nat} {S : Sc} {M : Nat → Nat → Int32} {J : Nat → Nat → Int64} {r n i : Nat} (hR : RowS S r) (hi : i < n) (hn : n ≤ 12) (h17 : M r 17 = nI n) : Wp (d + 1) 116 [.ref r, .int (nI i)] (S, M, J) (fun rs w' => rs = .inl none ∧ w' = (S, upA M r (rDrop (M r) i n), J)) := by
  have hd : ∀ k, (18 + 2 * (upA M r (rShift (M r) (18 + 2 * i) k) r 17) - 2 : Int32) = nI (18 + 2 * i + 2 * (n - 1 - i)) := fun k => by rw [upA_s, rShift_lo _ (by omega), h17, o_18, o_2, pk_mul, nI_add, pk_sub (by omega)]; congr 1; omega
  refine ⟨rfl, ?_⟩
  refine EE.runN (stop := atPc [7]) 80 _ ?_
  refine ee_at (nt := nzT 116) [(0, .ref r), (2, .int (nI (18 + 2 * i + 0)))] (S, upA M r (rShift (M r) (18 + 2 * i) 0), J) rfl (by rw [Nat.add_zero, ← nI_add, ← pk_mul]; rfl) (by show (S, M, J) = (S, _, J); rw [rShift_0, upA_id]) ?_
  refine ee_loop (fun k => (7, [(0, .ref r), (2, .int (nI (18 + 2 * i + k)))], [], (S, upA M r (rShift (M r) (18 + 2 * i) k), J), 0, 0)) (2 * (n - 1 - i)) (fun k h_k ih_k => ?_) ?_
  · refine EE.runN (stop := atPc [7]) 80 _ ?_
    refine ⟨by exact hR.1, hR.vp (k := 17) (by omega), ?_⟩
    refine ⟨fun h1 => ?_, fun h1 => ?_⟩
    · (simp only [tk_17, hd] at h1; exact absurd h1 (nI_ge (by omega) (by omega)))
    · refine ⟨by exact hR.1, (by rw [o_2, nI_add]; exact hR.vp (k := 18 + 2 * i + k + 2) (by omega)), ?_⟩
      refine ⟨by exact hR.1, hR.vp (k := 18 + 2 * i + k) (by omega), ?_⟩
      refine ee_at (nt := nzT 116) [(0, .ref r), (2, .int (nI (18 + 2 * i + (k + 1))))] (S, upA M r (rShift (M r) (18 + 2 * i) (k + 1)), J) rfl (by rw [← Nat.add_assoc, ← nI_1]; rfl) (by show (S, _, J) = (S, _, J); simp only [wI_M, wI_1, upA_s, upA_uu, tk_0, tk_1, tk_2, tk_3, tk_4, tk_5, tk_6, tk_7, tk_8, tk_9, tk_10, tk_11, tk_12, tk_13, tk_14, tk_15, tk_16, tk_17]; rw [o_2, nI_add, ck (by omega), ck (by omega), rShift_s]) ?_
      exact ih_k
  · refine EE.runN (stop := atPc [7]) 80 _ ?_
    refine ⟨by exact hR.1, hR.vp (k := 17) (by omega), ?_⟩
    refine ⟨fun h2 => ?_, fun h2 => ?_⟩
    · refine ⟨by exact hR.1, hR.vp (k := 17) (by omega), ?_⟩
      refine ⟨by exact hR.1, hR.vp (k := 17) (by omega), ?_⟩
      refine ⟨⟨Nat.zero_le _, Nat.zero_le _⟩, rfl, ?_⟩
      show (S, _, J) = (S, _, J)
      simp only [wI_M, wI_1, upA_s, upA_uu, tk_0, tk_1, tk_2, tk_3, tk_4, tk_5, tk_6, tk_7, tk_8, tk_9, tk_10, tk_11, tk_12, tk_13, tk_14, tk_15, tk_16, tk_17]
      rw [rShift_lo _ (by omega), h17, show (1 : Int32) = nI 1 from rfl, pk_sub (by omega)]
      rfl
    · (simp only [tk_17, hd] at h2; exact absurd (nI_le (Nat.le_refl _) (by omega)) h2)
end
section
/-! THE REFERENCE: services, renewing, driving, power: written by wip/whole/pure3.py -/
theorem rFnd_or (ρ : Rw) (c : Int32) : ∀ n, (rFnd ρ c n = -99999) ∨ ∃ i, i < n ∧ rFnd ρ c n = nI i
  | 0 => Or.inl rfl
  | n + 1 => by
    unfold rFnd
    split
    · exact Or.inr ⟨n, by omega, rfl⟩
    · rcases rFnd_or ρ c n with h | ⟨i, h, h2⟩
      · exact Or.inl h
      · exact Or.inr ⟨i, by omega, h2⟩
theorem nN {i : Nat} (h : i < 2147483648) : ¬ nI i = -99999 := by
  intro h2
  have := nI_pos h
  rw [h2] at this
  exact absurd this (by decide)
def rCan (ρ : Rw) (c : Int32) (n : Nat) : Prop := ρ 3 = 1 ∧ (ρ 17 < 12 ∨ ¬ rFnd ρ c n = -99999)
set_option maxHeartbeats 1000000 in
theorem T_canServe {d : Nat} {S : Sc} {M : Nat → Nat → Int32} {J : Nat → Nat → Int64} {r n : Nat} {x y : Int32} (hR : RowS S r) (hn : n ≤ 12) (h17 : M r 17 = nI n) : Wp (d + 2) 117 [.ref r, .int x, .int y] (S, M, J) (fun rs w' => rs = .inl (some (.int (bI (M r 3 = 1 ∧ (M r 17 < 12 ∨ ¬ rFnd (M r) (10 * x + y) n = -99999))))) ∧ w' = (S, M, J)) := by
  refine ⟨rfl, ?_⟩
  refine EE.runN (stop := noStop) 80 _ ?_
  refine ⟨by exact hR.1, hR.vp (k := 3) (by omega), ?_⟩
  refine ⟨fun h1 => ?_, fun h1 => ?_⟩
  · simp only [tk_0, tk_1, tk_2, tk_3, tk_4, tk_5, tk_6, tk_7, tk_8, tk_9, tk_10, tk_11, tk_12, tk_13, tk_14, tk_15, tk_16, tk_17] at h1
    refine ⟨⟨Nat.zero_le _, Nat.zero_le _⟩, by decide, ?_, ?_⟩
    · simp [bI, h1]
    · rfl
  · refine ⟨by exact hR.1, hR.vp (k := 17) (by omega), ?_⟩
    refine ⟨fun h2 => ?_, fun h2 => ?_⟩
    · simp only [tk_0, tk_1, tk_2, tk_3, tk_4, tk_5, tk_6, tk_7, tk_8, tk_9, tk_10, tk_11, tk_12, tk_13, tk_14, tk_15, tk_16, tk_17] at h1 h2
      refine ⟨⟨Nat.zero_le _, Nat.zero_le _⟩, by decide, ?_, ?_⟩
      · simp [bI, h1, h2]
      · rfl
    · refine ⟨⟨Nat.le_of_ble_eq_true rfl, Nat.le_of_ble_eq_true rfl, Nat.le_of_ble_eq_true rfl⟩, _, T_serviceOf (x := x) (y := y) hR hn h17, ?_⟩
      rintro _ _ ⟨rfl, rfl⟩
      refine ⟨Or.inl rfl, ?_⟩
      refine ⟨fun h3 => ?_, fun h3 => ?_⟩
      · simp only [tk_0, tk_1, tk_2, tk_3, tk_4, tk_5, tk_6, tk_7, tk_8, tk_9, tk_10, tk_11, tk_12, tk_13, tk_14, tk_15, tk_16, tk_17] at h1 h2 h3
        refine ⟨⟨Nat.zero_le _, Nat.zero_le _⟩, by decide, ?_, ?_⟩
        · simp [bI, h1, h2, h3]
        · rfl
      · simp only [tk_0, tk_1, tk_2, tk_3, tk_4, tk_5, tk_6, tk_7, tk_8, tk_9, tk_10, tk_11, tk_12, tk_13, tk_14, tk_15, tk_16, tk_17] at h1 h2 h3
        refine ⟨⟨Nat.zero_le _, Nat.zero_le _⟩, by decide, ?_, ?_⟩
        · simp [bI, h1, h2, h3]
        · rfl
def rAdd (ρ : Rw) (c : Int32) (n : Nat) : Rw := upd (upd (upd ρ (18 + 2 * n) c) (19 + 2 * n) (ρ 4)) 17 (nI (n + 1))
def rServe (ρ : Rw) (c : Int32) (n : Nat) : Rw := if rFnd ρ c n = -99999 then rAdd ρ c n else rAdd (rDrop ρ (rFnd ρ c n).toNatClampNeg n) c (n - 1)
def rServed (ρ : Rw) (c : Int32) (n : Nat) : Int32 := if rFnd ρ c n = -99999 then -99999 else ρ 4 - ρ (19 + 2 * (rFnd ρ c n).toNatClampNeg)
theorem rDrop_lo (ρ : Rw) {i n k : Nat} (h : k < 17) : rDrop ρ i n k = ρ k := by
  unfold rDrop
  rw [pk_un (by omega), rShift_lo _ (by omega)]
theorem rDrop_17 (ρ : Rw) {i n : Nat} : rDrop ρ i n 17 = nI (n - 1) := by
  unfold rDrop
  rw [pk_us]
set_option maxHeartbeats 4000000 in
theorem T_serve {d : Nat} {S : Sc} {M : Nat → Nat → Int32} {J : Nat → Nat → Int64} {r n : Nat} {x y : Int32} (hR : RowS S r) (hn : n ≤ 12) (h17 : M r 17 = nI n) : Wp (d + 2) 118 [.ref r, .int x, .int y] (S, M, J) (fun rs w' => rs = .inl (some (.int (rServed (M r) (10 * x + y) n))) ∧ w' = (S, upA M r (rServe (M r) (10 * x + y) n), J)) := by
  have hh : ∃ f, f = rFnd (M r) (10 * x + y) n := ⟨_, rfl⟩
  obtain ⟨f, hf⟩ := hh
  have ixa : ∀ m : Nat, (18 + 2 * nI m : Int32) = nI (18 + 2 * m) := fun m => by rw [o_18, o_2, pk_mul, nI_add]
  have ixb : ∀ m : Nat, (18 + 2 * nI m + 1 : Int32) = nI (19 + 2 * m) := fun m => by rw [ixa, nI_1]; congr 1; omega
  refine ⟨rfl, ?_⟩
  refine EE.runN (stop := noStop) 80 _ ?_
  refine ⟨⟨Nat.le_of_ble_eq_true rfl, Nat.le_of_ble_eq_true rfl, Nat.le_of_ble_eq_true rfl⟩, _, T_serviceOf (x := x) (y := y) hR hn h17, ?_⟩
  rintro _ _ ⟨rfl, rfl⟩
  rw [← hf]
  refine ⟨Or.inl rfl, ?_⟩
  refine ⟨fun h1 => ?_, fun h1 => ?_⟩
  · have hm : M r 17 = nI n := h17
    refine ⟨by exact hR.1, hR.vp (k := 17) (by omega), ?_⟩
    refine ⟨by exact hR.1, (by simp only [wI_M, wI_1, upA_s, upA_uu, tk_0, tk_1, tk_2, tk_3, tk_4, tk_5, tk_6, tk_7, tk_8, tk_9, tk_10, tk_11, tk_12, tk_13, tk_14, tk_15, tk_16, tk_17]; rw [hm, ixa]; exact hR.vp (by omega)), ?_⟩
    refine ⟨by exact hR.1, hR.vp (k := 17) (by omega), ?_⟩
    refine ⟨by exact hR.1, hR.vp (k := 4) (by omega), ?_⟩
    refine ⟨by exact hR.1, (by simp only [wI_M, wI_1, upA_s, upA_uu, tk_0, tk_1, tk_2, tk_3, tk_4, tk_5, tk_6, tk_7, tk_8, tk_9, tk_10, tk_11, tk_12, tk_13, tk_14, tk_15, tk_16, tk_17]; rw [hm, ixa, ck (by omega), pk_un (by omega), hm, ixb]; exact hR.vp (by omega)), ?_⟩
    refine ⟨by exact hR.1, hR.vp (k := 17) (by omega), ?_⟩
    refine ⟨by exact hR.1, hR.vp (k := 17) (by omega), ?_⟩
    refine ⟨⟨Nat.zero_le _, Nat.zero_le _⟩, ?_, ?_⟩
    · unfold rServed
      rw [if_pos (hf ▸ h1)]
    · show (S, _, J) = (S, _, J)
      unfold rServe
      rw [if_pos (hf ▸ h1)]
      simp only [wI_M, wI_1, upA_s, upA_uu, tk_0, tk_1, tk_2, tk_3, tk_4, tk_5, tk_6, tk_7, tk_8, tk_9, tk_10, tk_11, tk_12, tk_13, tk_14, tk_15, tk_16, tk_17, hm]
      rw [ixa, ck (by omega), pk_un (by omega), hm, ixb, ck (by omega), pk_un (by omega), pk_un (by omega), pk_un (by omega), hm, nI_1]
      rfl
  · have hi0 := rFnd_or (M r) (10 * x + y) n
    rw [← hf] at hi0
    obtain ⟨i, hi, hi2⟩ := hi0.resolve_left h1
    have hm : M r 17 = nI n := h17
    refine ⟨by exact hR.1, hR.vp (k := 4) (by omega), ?_⟩
    refine ⟨by exact hR.1, (by rw [hi2, ixb]; exact hR.vp (by omega)), ?_⟩
    refine ⟨⟨Nat.le_of_ble_eq_true rfl, Nat.le_of_ble_eq_true rfl, Nat.le_of_ble_eq_true rfl⟩, _, by rw [hi2]; exact T_drop hR hi hn h17, ?_⟩
    rintro _ _ ⟨rfl, rfl⟩
    have hm : rDrop (M r) i n 17 = nI (n - 1) := rDrop_17 _
    refine ⟨Or.inl rfl, ?_⟩
    refine ⟨by exact hR.1, hR.vp (k := 17) (by omega), ?_⟩
    refine ⟨by exact hR.1, (by simp only [wI_M, wI_1, upA_s, upA_uu, tk_0, tk_1, tk_2, tk_3, tk_4, tk_5, tk_6, tk_7, tk_8, tk_9, tk_10, tk_11, tk_12, tk_13, tk_14, tk_15, tk_16, tk_17]; rw [hm, ixa]; exact hR.vp (by omega)), ?_⟩
    refine ⟨by exact hR.1, hR.vp (k := 17) (by omega), ?_⟩
    refine ⟨by exact hR.1, hR.vp (k := 4) (by omega), ?_⟩
    refine ⟨by exact hR.1, (by simp only [wI_M, wI_1, upA_s, upA_uu, tk_0, tk_1, tk_2, tk_3, tk_4, tk_5, tk_6, tk_7, tk_8, tk_9, tk_10, tk_11, tk_12, tk_13, tk_14, tk_15, tk_16, tk_17]; rw [hm, ixa, ck (by omega), pk_un (by omega), hm, ixb]; exact hR.vp (by omega)), ?_⟩
    refine ⟨by exact hR.1, hR.vp (k := 17) (by omega), ?_⟩
    refine ⟨by exact hR.1, hR.vp (k := 17) (by omega), ?_⟩
    refine ⟨⟨Nat.zero_le _, Nat.zero_le _⟩, ?_, ?_⟩
    · unfold rServed
      rw [if_neg (hf ▸ h1), ← hf, hi2, ck (by omega)]
      refine congrArg (fun v => Sum.inl (some (Value.int (M r 4 - M r v)))) ?_
      rw [ixb, ck (by omega)]
    · show (S, _, J) = (S, _, J)
      unfold rServe
      rw [if_neg (hf ▸ h1), ← hf, hi2, ck (by omega)]
      simp only [wI_M, wI_1, upA_s, upA_uu, tk_0, tk_1, tk_2, tk_3, tk_4, tk_5, tk_6, tk_7, tk_8, tk_9, tk_10, tk_11, tk_12, tk_13, tk_14, tk_15, tk_16, tk_17, rDrop_17]
      rw [ixa, ck (by omega), pk_un (by omega), rDrop_17, ixb, ck (by omega), pk_un (by omega), pk_un (by omega), pk_un (by omega), rDrop_17, nI_1]
      unfold rAdd
      rw [rDrop_lo _ (by omega), show n - 1 + 1 = n from by omega]
set_option maxHeartbeats 1000000 in
theorem T_rCanReplace {d : Nat} {S : Sc} {M : Nat → Nat → Int32} {J : Nat → Nat → Int64} {r : Nat} {s : Int32} (hR : RowS S r) : Wp (d + 1) 119 [.ref r, .int s] (S, M, J) (fun rs w' => rs = .inl (some (.int (bI (M r 3 = 1 ∧ ¬ s = M r 7)))) ∧ w' = (S, M, J)) := by
  refine ⟨rfl, ?_⟩
  refine EE.runN (stop := noStop) 80 _ ?_
  refine ⟨by exact hR.1, hR.vp (k := 3) (by omega), ?_⟩
  refine ⟨fun h1 => ?_, fun h1 => ?_⟩
  · simp only [tk_0, tk_1, tk_2, tk_3, tk_4, tk_5, tk_6, tk_7, tk_8, tk_9, tk_10, tk_11, tk_12, tk_13, tk_14, tk_15, tk_16, tk_17] at h1
    refine ⟨⟨Nat.zero_le _, Nat.zero_le _⟩, by decide, ?_, ?_⟩
    · simp [bI, h1]
    · rfl
  · refine ⟨by exact hR.1, hR.vp (k := 7) (by omega), ?_⟩
    refine ⟨fun h2 => ?_, fun h2 => ?_⟩
    · simp only [tk_0, tk_1, tk_2, tk_3, tk_4, tk_5, tk_6, tk_7, tk_8, tk_9, tk_10, tk_11, tk_12, tk_13, tk_14, tk_15, tk_16, tk_17] at h1 h2
      refine ⟨⟨Nat.zero_le _, Nat.zero_le _⟩, by decide, ?_, ?_⟩
      · simp [bI, h1, h2]
      · rfl
    · simp only [tk_0, tk_1, tk_2, tk_3, tk_4, tk_5, tk_6, tk_7, tk_8, tk_9, tk_10, tk_11, tk_12, tk_13, tk_14, tk_15, tk_16, tk_17] at h1 h2
      refine ⟨⟨Nat.zero_le _, Nat.zero_le _⟩, by decide, ?_, ?_⟩
      · simp [bI, h1, h2]
      · rfl
def rRn (ρ : Rw) (s : Nat) : Nat → Rw
  | 0 => ρ
  | k + 1 => upd (upd (rRn ρ s k) (42 + 2 * (3 * s + k)) 0) (43 + 2 * (3 * s + k)) 0
def rRenew (ρ : Rw) (s : Nat) : Rw := rRn ρ s 3
set_option maxHeartbeats 1000000 in
theorem T_rRenew {d : Nat} {S : Sc} {M : Nat → Nat → Int32} {J : Nat → Nat → Int64} {r s : Nat} (hR : RowS S r) (hs : s < 12) : Wp (d + 3) 120 [.ref r, .int (nI s)] (S, M, J) (fun rs w' => rs = .inl (some (.int (rWear (M r) s))) ∧ w' = (S, upA M r (rRenew (M r) s), J)) := by
  have e1 : ∀ k, nI (42 + 2 * (3 * s + k)) + 1 = nI (43 + 2 * (3 * s + k)) := fun k => by rw [nI_1]; congr 1; omega
  refine ⟨rfl, ?_⟩
  refine EE.runN (stop := atPc [8]) 80 _ ?_
  refine ⟨⟨Nat.le_of_ble_eq_true rfl, Nat.le_of_ble_eq_true rfl, Nat.le_of_ble_eq_true rfl⟩, _, T_rWear hR hs, ?_⟩
  rintro _ _ ⟨rfl, rfl⟩
  refine ⟨Or.inl rfl, ?_⟩
  refine ee_at (nt := nzT 120) [(0, .ref r), (1, .int (nI s)), (2, .int (rWear (M r) s)), (3, .int (nI 0))] (S, upA M r (rRn (M r) s 0), J) rfl (by rfl) (by show (S, M, J) = (S, _, J); rw [show rRn (M r) s 0 = M r from rfl, upA_id]) ?_
  refine ee_loop (fun k => (8, [(0, .ref r), (1, .int (nI s)), (2, .int (rWear (M r) s)), (3, .int (nI k))], [], (S, upA M r (rRn (M r) s k), J), 0, 0)) (3) (fun k h_k ih_k => ?_) ?_
  · refine EE.runN (stop := atPc [8]) 80 _ ?_
    refine ⟨fun h1 => ?_, fun h1 => ?_⟩
    · exact absurd h1 (nI_ge (b := 3) h_k (by omega))
    · refine ⟨⟨Nat.le_of_ble_eq_true rfl, Nat.le_of_ble_eq_true rfl, Nat.le_of_ble_eq_true rfl⟩, _, T_at (s := s) (i := k), ?_⟩
      rintro _ _ ⟨rfl, rfl⟩
      refine ⟨Or.inl rfl, ?_⟩
      refine ⟨by exact hR.1, hR.vp (k := 42 + 2 * (3 * s + k)) (by omega), ?_⟩
      refine ⟨⟨Nat.le_of_ble_eq_true rfl, Nat.le_of_ble_eq_true rfl, Nat.le_of_ble_eq_true rfl⟩, _, T_at (s := s) (i := k), ?_⟩
      rintro _ _ ⟨rfl, rfl⟩
      refine ⟨Or.inl rfl, ?_⟩
      refine ⟨by exact hR.1, (by rw [e1]; exact hR.vp (by omega)), ?_⟩
      refine ee_at (nt := nzT 120) [(0, .ref r), (1, .int (nI s)), (2, .int (rWear (M r) s)), (3, .int (nI (k + 1)))] (S, upA M r (rRn (M r) s (k + 1)), J) rfl (by rw [← nI_1 k]; rfl) (by show (S, _, J) = (S, _, J); simp only [wI_M, wI_1, upA_s, upA_uu, tk_0, tk_1, tk_2, tk_3, tk_4, tk_5, tk_6, tk_7, tk_8, tk_9, tk_10, tk_11, tk_12, tk_13, tk_14, tk_15, tk_16, tk_17, e1]; rw [ck (by omega), ck (by omega)]; rfl) ?_
      exact ih_k
  · refine EE.runN (stop := atPc [8]) 80 _ ?_
    refine ⟨fun h2 => ?_, fun h2 => ?_⟩
    · exact ⟨⟨Nat.zero_le _, Nat.zero_le _⟩, rfl, rfl⟩
    · exact absurd (nI_le (Nat.le_refl 3) (by omega)) h2
def rLeast (ρ : Rw) : Nat → Int32
  | 0 => ρ 43
  | k + 1 => if rLeast ρ k ≤ ρ (43 + 2 * k) then rLeast ρ k else ρ (43 + 2 * k)
def rMost (ρ : Rw) : Nat → Int32
  | 0 => ρ 43
  | k + 1 => if ρ (43 + 2 * k) ≤ rMost ρ k then rMost ρ k else ρ (43 + 2 * k)
set_option maxHeartbeats 1000000 in
theorem T_wearApart {d : Nat} {S : Sc} {M : Nat → Nat → Int32} {J : Nat → Nat → Int64} {r n : Nat} (hR : RowS S r) (hn : n ≤ 12) (h0 : M r 0 = nI n) : Wp (d + 1) 110 [.ref r] (S, M, J) (fun rs w' => rs = .inl (some (.int (rMost (M r) (3 * n) - rLeast (M r) (3 * n)))) ∧ w' = (S, M, J)) := by
  have hc : (3 : Int32) * M r 0 = nI (3 * n) := by rw [h0, o_3, pk_mul]
  refine ⟨rfl, ?_⟩
  refine EE.runN (stop := atPc [9]) 80 _ ?_
  refine ⟨by exact hR.1, hR.vp (k := 43) (by omega), ?_⟩
  refine ee_at (nt := nzT 110) [(0, .ref r), (1, .int (rLeast (M r) 0)), (2, .int (rMost (M r) 0)), (3, .int (nI 0))] (S, M, J) rfl (by rfl) (by rfl) ?_
  refine ee_loop (fun k => (9, [(0, .ref r), (1, .int (rLeast (M r) k)), (2, .int (rMost (M r) k)), (3, .int (nI k))], [], (S, M, J), 0, 0)) (3 * n) (fun k h_k ih_k => ?_) ?_
  · refine EE.runN (stop := atPc [9]) 80 _ ?_
    have ix : (42 + 2 * nI k + 1 : Int32) = nI (43 + 2 * k) := by rw [o_42, o_2, pk_mul, nI_add, nI_1]; congr 1; omega
    refine ⟨by exact hR.1, hR.vp (k := 0) (by omega), ?_⟩
    refine ⟨fun h1 => ?_, fun h1 => ?_⟩
    · (simp only [tk_0, hc] at h1; exact absurd h1 (nI_ge h_k (by omega)))
    · refine ⟨by exact hR.1, (by rw [ix]; exact hR.vp (by omega)), ?_⟩
      refine ⟨fun h2 => ?_, fun h2 => ?_⟩
      · refine ⟨fun h3 => ?_, fun h3 => ?_⟩
        · simp only [ix, ck (show 43 + 2 * k < 2147483648 by omega)] at h2 h3
          refine ee_at (nt := nzT 110) [(0, .ref r), (1, .int (rLeast (M r) (k + 1))), (2, .int (rMost (M r) (k + 1))), (3, .int (nI (k + 1)))] (S, M, J) rfl (by rw [rLeast, rMost, if_pos h2, if_pos h3, ← nI_1 k]; show nz _ _ = nz _ _; simp only [ix, ck (show 43 + 2 * k < 2147483648 by omega)]; rfl) (by rfl) ?_
          exact ih_k
        · simp only [ix, ck (show 43 + 2 * k < 2147483648 by omega)] at h2 h3
          refine ee_at (nt := nzT 110) [(0, .ref r), (1, .int (rLeast (M r) (k + 1))), (2, .int (rMost (M r) (k + 1))), (3, .int (nI (k + 1)))] (S, M, J) rfl (by rw [rLeast, rMost, if_pos h2, if_neg h3, ← nI_1 k]; show nz _ _ = nz _ _; simp only [ix, ck (show 43 + 2 * k < 2147483648 by omega)]; rfl) (by rfl) ?_
          exact ih_k
      · refine ⟨fun h4 => ?_, fun h4 => ?_⟩
        · simp only [ix, ck (show 43 + 2 * k < 2147483648 by omega)] at h2 h4
          refine ee_at (nt := nzT 110) [(0, .ref r), (1, .int (rLeast (M r) (k + 1))), (2, .int (rMost (M r) (k + 1))), (3, .int (nI (k + 1)))] (S, M, J) rfl (by rw [rLeast, rMost, if_neg h2, if_pos h4, ← nI_1 k]; show nz _ _ = nz _ _; simp only [ix, ck (show 43 + 2 * k < 2147483648 by omega)]; rfl) (by rfl) ?_
          exact ih_k
        · simp only [ix, ck (show 43 + 2 * k < 2147483648 by omega)] at h2 h4
          refine ee_at (nt := nzT 110) [(0, .ref r), (1, .int (rLeast (M r) (k + 1))), (2, .int (rMost (M r) (k + 1))), (3, .int (nI (k + 1)))] (S, M, J) rfl (by rw [rLeast, rMost, if_neg h2, if_neg h4, ← nI_1 k]; show nz _ _ = nz _ _; simp only [ix, ck (show 43 + 2 * k < 2147483648 by omega)]; rfl) (by rfl) ?_
          exact ih_k
  · refine EE.runN (stop := atPc [9]) 80 _ ?_
    refine ⟨by exact hR.1, hR.vp (k := 0) (by omega), ?_⟩
    refine ⟨fun h5 => ?_, fun h5 => ?_⟩
    · exact ⟨⟨Nat.zero_le _, Nat.zero_le _⟩, rfl, rfl⟩
    · (simp only [tk_0, hc] at h5; exact absurd (nI_le (Nat.le_refl _) (by omega)) h5)
end
section
/-! THE REFERENCE: driving, power, commands: written by wip/whole/pure3.py -/
theorem rSt_keep {n cur k : Nat} (h : k = 0 ∨ k = 1 ∨ k = 2 ∨ k = 4 ∨ k = 5 ∨ (17 ≤ k ∧ k < 42)) : ∀ (f vain : Nat) (ρ : Rw), rSt n cur f vain ρ k = ρ k
  | 0, vain, ρ => by
    unfold rSt
    rw [pk_un (by omega)]
  | f + 1, vain, ρ => by
    have hk := fun (ρ : Rw) (s : Nat) (v : Int32) => rW3_keep (ρ := ρ) (s := s) (vain := v) (k := k) (by omega)
    unfold rSt
    split
    · exact hk _ _ _
    · split
      · rw [pk_un (by omega), pk_un (by omega)]
        exact hk _ _ _
      · rw [rSt_keep h f]
        exact hk _ _ _
theorem rSt_7 {n cur : Nat} (hc : cur < n) : ∀ (f vain : Nat) (ρ : Rw), ρ 7 = nI cur → ∃ c, c < n ∧ rSt n cur f vain ρ 7 = nI c
  | 0, vain, ρ, h => ⟨cur, hc, by
    unfold rSt
    rw [pk_un (by omega)]
    exact h⟩
  | f + 1, vain, ρ, h => by
    have hk := fun (s : Nat) (v : Int32) => rW3_keep (ρ := ρ) (s := s) (vain := v) (k := 7) (by omega)
    unfold rSt
    split
    · exact ⟨cur, hc, (hk _ _).trans h⟩
    · split
      · exact ⟨_, Nat.mod_lt _ (by omega), by rw [pk_un (by omega), pk_us]⟩
      · exact rSt_7 hc f _ _ ((hk _ _).trans h)
/-- three to twelve slots, the current one among them -/
def Rok (ρ : Rw) : Prop := ∃ n cur, 3 ≤ n ∧ n ≤ 12 ∧ cur < n ∧ ρ 0 = nI n ∧ ρ 7 = nI cur
theorem rStore_keep {ρ : Rw} {k : Nat} (h : k = 0 ∨ k = 1 ∨ k = 2 ∨ k = 4 ∨ k = 5 ∨ (17 ≤ k ∧ k < 42)) : rStore ρ k = ρ k := rSt_keep h _ _ _
theorem rStore_ok {ρ : Rw} (h : Rok ρ) : Rok (rStore ρ) := by
  obtain ⟨n, cur, h3, h12, hc, h0, h7⟩ := h
  have e : rStore ρ = rSt n cur (n - 1) 0 ρ := by
    unfold rStore
    rw [h0, h7, ck (by omega), ck (by omega)]
  obtain ⟨c, hcn, hc7⟩ := rSt_7 hc (n - 1) 0 ρ h7
  exact ⟨n, c, h3, h12, hcn, (rStore_keep (Or.inl rfl)).trans h0, e ▸ hc7⟩
theorem Rok.cg {ρ ρ' : Rw} (h : Rok ρ) (h0 : ρ' 0 = ρ 0) (h7 : ρ' 7 = ρ 7) : Rok ρ' := by
  obtain ⟨n, cur, a, b, c, d, e⟩ := h
  exact ⟨n, cur, a, b, c, h0.trans d, h7.trans e⟩
theorem T_store' {d : Nat} {S : Sc} {M : Nat → Nat → Int32} {J : Nat → Nat → Int64} {r : Nat} (hR : RowS S r) (h : Rok (M r)) : Wp (d + 4) 112 [.ref r] (S, M, J) (fun rs w' => rs = .inl none ∧ w' = (S, upA M r (rStore (M r)), J)) := by
  obtain ⟨n, cur, h3, h12, hc, h0, h7⟩ := h
  exact T_store hR h3 h12 hc h0 h7
/-- a tenth -/
def rTick (ρ : Rw) : Rw := upd (upd ρ 5 (ρ 5 + 1)) 4 (ρ 4 + 1)
def rGo1 (ρ : Rw) : Rw := if ρ 12 = 0 then (if rTick ρ 4 < ρ 6 + ρ 1 then rTick ρ else rStore (rTick ρ)) else rTick ρ
theorem rTick_ok {ρ : Rw} (h : Rok ρ) : Rok (rTick ρ) := h.cg rfl rfl
theorem rGo1_ok {ρ : Rw} (h : Rok ρ) : Rok (rGo1 ρ) := by
  unfold rGo1
  split
  · split
    · exact rTick_ok h
    · exact rStore_ok (rTick_ok h)
  · exact rTick_ok h
def rGo : Nat → Rw → Rw
  | 0, ρ => ρ
  | f + 1, ρ => if ρ 3 = 1 then rGo f (rGo1 ρ) else ρ
def rGone : Nat → Rw → Nat
  | 0, _ => 0
  | f + 1, ρ => if ρ 3 = 1 then rGone f (rGo1 ρ) + 1 else 0
theorem rGo_ok : ∀ (f : Nat) {ρ : Rw}, Rok ρ → Rok (rGo f ρ)
  | 0, _, h => h
  | f + 1, ρ, h => by
    unfold rGo
    split
    · exact rGo_ok f (rGo1_ok h)
    · exact h
theorem rGone_le : ∀ (f : Nat) (ρ : Rw), rGone f ρ ≤ f
  | 0, _ => Nat.le_refl 0
  | f + 1, ρ => by
    unfold rGone
    split
    · have := rGone_le f (rGo1 ρ)
      omega
    · omega
set_option maxHeartbeats 2000000 in
theorem L_go {d : Nat} {Q : Res → Wd → Prop} {S : Sc} {M : Nat → Nat → Int32} {J : Nat → Nat → Int64} {r t : Nat} (hR : RowS S r) (ht : t < 1000000) : ∀ (f k : Nat) (ρ : Rw), k + f = t → Rok ρ → Q (.inl (some (.int (nI (k + rGone f ρ))))) (S, upA M r (rGo f ρ), J) → EE (SJ (d + 5) 113 (Wp (d + 4)) Q) (2, [(0, .ref r), (1, .int (nI t)), (2, .int (nI k))], [], (S, upA M r ρ, J), 0, 0) := by
  intro f
  induction f with
  | zero =>
    intro k ρ hk hok hQ
    refine EE.runN (stop := atPc [2]) 80 _ ?_
    refine ⟨fun h1 => ?_, fun h1 => ?_⟩
    · refine ⟨⟨Nat.zero_le _, Nat.zero_le _⟩, ?_⟩
      exact hQ
    · exact absurd (nI_le (show t ≤ k by omega) (by omega)) h1
  | succ f ih =>
    intro k ρ hk hok hQ
    have upd_n : ∀ (ρ : Rw) (x y : Int32), upd (upd ρ 5 x) 4 y 12 = ρ 12 := fun _ _ _ => rfl
    refine EE.runN (stop := atPc [2]) 80 _ ?_
    refine ⟨fun h1 => ?_, fun h1 => ?_⟩
    · exact absurd h1 (nI_ge (by omega) (by omega))
    · refine ⟨by exact hR.1, hR.vp (k := 3) (by omega), ?_⟩
      refine ⟨fun h2 => ?_, fun h2 => ?_⟩
      · simp only [wI_M, wI_1, upA_s, upA_uu, tk_0, tk_1, tk_2, tk_3, tk_4, tk_5, tk_6, tk_7, tk_8, tk_9, tk_10, tk_11, tk_12, tk_13, tk_14, tk_15, tk_16, tk_17] at h1 h2
        refine ⟨⟨Nat.zero_le _, Nat.zero_le _⟩, ?_⟩
        rw [rGo, rGone, if_neg h2, if_neg h2] at hQ
        exact hQ
      · refine ⟨by exact hR.1, hR.vp (k := 5) (by omega), ?_⟩
        refine ⟨by exact hR.1, hR.vp (k := 5) (by omega), ?_⟩
        refine ⟨by exact hR.1, hR.vp (k := 4) (by omega), ?_⟩
        refine ⟨by exact hR.1, hR.vp (k := 4) (by omega), ?_⟩
        refine ⟨by exact hR.1, hR.vp (k := 12) (by omega), ?_⟩
        refine ⟨fun h3 => ?_, fun h3 => ?_⟩
        · simp only [wI_M, wI_1, upA_s, upA_uu, tk_0, tk_1, tk_2, tk_3, tk_4, tk_5, tk_6, tk_7, tk_8, tk_9, tk_10, tk_11, tk_12, tk_13, tk_14, tk_15, tk_16, tk_17, upd_n] at h1 h2 h3
          refine ee_at (nt := nzT 113) [(0, .ref r), (1, .int (nI t)), (2, .int (nI (k + 1)))] (S, upA M r (rGo1 ρ), J) rfl (by rw [← nI_1 k]; rfl) ?_ (ih (k + 1) (rGo1 ρ) (by omega) (rGo1_ok hok) ?_)
          · show (S, _, J) = (S, _, J)
            try simp only [wI_M, wI_1, upA_s, upA_uu, tk_0, tk_1, tk_2, tk_3, tk_4, tk_5, tk_6, tk_7, tk_8, tk_9, tk_10, tk_11, tk_12, tk_13, tk_14, tk_15, tk_16, tk_17]
            refine congrArg (fun m => (S, upA M r m, J)) ?_
            unfold rGo1
            rw [if_neg (show ¬ ρ 12 = 0 from h3)]
            rfl
          · rw [rGo, rGone, if_pos h2, if_pos h2] at hQ
            rw [show k + 1 + rGone f (rGo1 ρ) = k + (rGone f (rGo1 ρ) + 1) by omega]
            exact hQ
        · refine ⟨by exact hR.1, hR.vp (k := 4) (by omega), ?_⟩
          refine ⟨by exact hR.1, hR.vp (k := 6) (by omega), ?_⟩
          refine ⟨by exact hR.1, hR.vp (k := 1) (by omega), ?_⟩
          refine ⟨fun h4 => ?_, fun h4 => ?_⟩
          · simp only [wI_M, wI_1, upA_s, upA_uu, tk_0, tk_1, tk_2, tk_3, tk_4, tk_5, tk_6, tk_7, tk_8, tk_9, tk_10, tk_11, tk_12, tk_13, tk_14, tk_15, tk_16, tk_17, upd_n] at h1 h2 h3 h4
            refine ee_at (nt := nzT 113) [(0, .ref r), (1, .int (nI t)), (2, .int (nI (k + 1)))] (S, upA M r (rGo1 ρ), J) rfl (by rw [← nI_1 k]; rfl) ?_ (ih (k + 1) (rGo1 ρ) (by omega) (rGo1_ok hok) ?_)
            · show (S, _, J) = (S, _, J)
              try simp only [wI_M, wI_1, upA_s, upA_uu, tk_0, tk_1, tk_2, tk_3, tk_4, tk_5, tk_6, tk_7, tk_8, tk_9, tk_10, tk_11, tk_12, tk_13, tk_14, tk_15, tk_16, tk_17]
              refine congrArg (fun m => (S, upA M r m, J)) ?_
              unfold rGo1
              rw [if_pos (show ρ 12 = 0 from h3)]
              first | rw [if_pos (show rTick ρ 4 < ρ 6 + ρ 1 from h4)] | rw [if_neg (show ¬ rTick ρ 4 < ρ 6 + ρ 1 from h4)]
              rfl
            · rw [rGo, rGone, if_pos h2, if_pos h2] at hQ
              rw [show k + 1 + rGone f (rGo1 ρ) = k + (rGone f (rGo1 ρ) + 1) by omega]
              exact hQ
          · refine ⟨⟨Nat.le_of_ble_eq_true rfl, Nat.le_of_ble_eq_true rfl, Nat.le_of_ble_eq_true rfl⟩, _, T_store' hR (by simp only [wI_M, upA_s, upA_uu]; exact rTick_ok hok), ?_⟩
            rintro _ _ ⟨rfl, rfl⟩
            refine ⟨Or.inl rfl, ?_⟩
            simp only [wI_M, wI_1, upA_s, upA_uu, tk_0, tk_1, tk_2, tk_3, tk_4, tk_5, tk_6, tk_7, tk_8, tk_9, tk_10, tk_11, tk_12, tk_13, tk_14, tk_15, tk_16, tk_17, upd_n] at h1 h2 h3 h4
            refine ee_at (nt := nzT 113) [(0, .ref r), (1, .int (nI t)), (2, .int (nI (k + 1)))] (S, upA M r (rGo1 ρ), J) rfl (by rw [← nI_1 k]; rfl) ?_ (ih (k + 1) (rGo1 ρ) (by omega) (rGo1_ok hok) ?_)
            · show (S, _, J) = (S, _, J)
              try simp only [wI_M, wI_1, upA_s, upA_uu, tk_0, tk_1, tk_2, tk_3, tk_4, tk_5, tk_6, tk_7, tk_8, tk_9, tk_10, tk_11, tk_12, tk_13, tk_14, tk_15, tk_16, tk_17]
              refine congrArg (fun m => (S, upA M r m, J)) ?_
              unfold rGo1
              rw [if_pos (show ρ 12 = 0 from h3)]
              first | rw [if_pos (show rTick ρ 4 < ρ 6 + ρ 1 from h4)] | rw [if_neg (show ¬ rTick ρ 4 < ρ 6 + ρ 1 from h4)]
              rfl
            · rw [rGo, rGone, if_pos h2, if_pos h2] at hQ
              rw [show k + 1 + rGone f (rGo1 ρ) = k + (rGone f (rGo1 ρ) + 1) by omega]
              exact hQ
theorem T_go {d : Nat} {S : Sc} {M : Nat → Nat → Int32} {J : Nat → Nat → Int64} {r t : Nat} (hR : RowS S r) (ht : t < 1000000) (hok : Rok (M r)) : Wp (d + 5) 113 [.ref r, .int (nI t)] (S, M, J) (fun rs w' => rs = .inl (some (.int (nI (rGone t (M r))))) ∧ w' = (S, upA M r (rGo t (M r)), J)) := by
  refine ⟨rfl, ?_⟩
  refine EE.runN (stop := atPc [2]) 2 _ ?_
  refine ee_at (nt := nzT 113) [(0, .ref r), (1, .int (nI t)), (2, .int (nI 0))] (S, upA M r (M r), J) rfl rfl (by rw [upA_id]) ?_
  refine L_go hR ht t 0 (M r) (by omega) hok ?_
  rw [Nat.zero_add]
  exact ⟨rfl, rfl⟩
/-- the first of the slots 0 to k that says the most -/
def rBest (ρ : Rw) : Nat → Nat
  | 0 => 0
  | k + 1 => if rSays ρ (k + 1) ≤ rSays ρ (rBest ρ k) then rBest ρ k else k + 1
theorem rBest_le (ρ : Rw) : ∀ k, rBest ρ k ≤ k
  | 0 => Nat.le_refl 0
  | k + 1 => by
    have := rBest_le ρ k
    unfold rBest
    split <;> omega
def rPow (ρ : Rw) (f : Nat) : Rw := upd (upd (upd (upd (upd ρ 7 (if rSays ρ f = -99999 then 0 else nI f)) 4 (if rSays ρ f = -99999 then 0 else rSays ρ f)) 6 (if rSays ρ f = -99999 then 0 else rSays ρ f)) 3 1) 12 0
def rPower (ρ : Rw) : Rw := rPow ρ (rBest ρ ((ρ 0).toNatClampNeg - 1))
theorem rPower_ok {ρ : Rw} (h : Rok ρ) : Rok (rPower ρ) := by
  obtain ⟨n, cur, a, b, c, h0, h7⟩ := h
  have e : rPower ρ 7 = if rSays ρ (rBest ρ ((ρ 0).toNatClampNeg - 1)) = -99999 then 0 else nI (rBest ρ ((ρ 0).toNatClampNeg - 1)) := rfl
  have hb := rBest_le ρ ((ρ 0).toNatClampNeg - 1)
  rw [h0, ck (by omega)] at hb e
  refine ⟨n, if rSays ρ (rBest ρ (n - 1)) = -99999 then 0 else rBest ρ (n - 1), a, b, ?_, h0, ?_⟩
  · split <;> omega
  · rw [e]
    split <;> rfl
set_option maxHeartbeats 1000000 in
theorem T_power {d : Nat} {S : Sc} {M : Nat → Nat → Int32} {J : Nat → Nat → Int64} {r : Nat} (hR : RowS S r) (hok : Rok (M r)) : Wp (d + 4) 114 [.ref r] (S, M, J) (fun rs w' => rs = .inl none ∧ w' = (S, upA M r (rPower (M r)), J)) := by
  obtain ⟨n, cur, h3_, h12, hc, h0, h7⟩ := hok
  refine ⟨rfl, ?_⟩
  refine EE.runN (stop := atPc [4]) 80 _ ?_
  refine ee_at (nt := nzT 114) [(0, .ref r), (1, .int (nI (rBest (M r) 0))), (2, .int (nI (0 + 1)))] (S, M, J) rfl (by rfl) (by rfl) ?_
  refine ee_loop (fun k => (4, [(0, .ref r), (1, .int (nI (rBest (M r) k))), (2, .int (nI (k + 1)))], [], (S, M, J), 0, 0)) (n - 1) (fun k h_k ih_k => ?_) ?_
  · refine EE.runN (stop := atPc [4]) 80 _ ?_
    refine ⟨by exact hR.1, hR.vp (k := 0) (by omega), ?_⟩
    refine ⟨fun h1 => ?_, fun h1 => ?_⟩
    · (simp only [tk_0, h0] at h1; exact absurd h1 (nI_ge (by omega) (by omega)))
    · refine ⟨⟨Nat.le_of_ble_eq_true rfl, Nat.le_of_ble_eq_true rfl, Nat.le_of_ble_eq_true rfl⟩, _, T_saysOf (s := k + 1) hR (by omega), ?_⟩
      rintro _ _ ⟨rfl, rfl⟩
      refine ⟨Or.inl rfl, ?_⟩
      refine ⟨⟨Nat.le_of_ble_eq_true rfl, Nat.le_of_ble_eq_true rfl, Nat.le_of_ble_eq_true rfl⟩, _, T_saysOf (s := rBest (M r) k) hR (by have := rBest_le (M r) k; omega), ?_⟩
      rintro _ _ ⟨rfl, rfl⟩
      refine ⟨Or.inl rfl, ?_⟩
      refine ⟨fun h2 => ?_, fun h2 => ?_⟩
      · refine ee_at (nt := nzT 114) [(0, .ref r), (1, .int (nI (rBest (M r) (k + 1)))), (2, .int (nI ((k + 1) + 1)))] (S, M, J) rfl (by rw [rBest, if_pos h2, ← nI_1 (k + 1)]; rfl) (by rfl) ?_
        exact ih_k
      · refine ee_at (nt := nzT 114) [(0, .ref r), (1, .int (nI (rBest (M r) (k + 1)))), (2, .int (nI ((k + 1) + 1)))] (S, M, J) rfl (by rw [rBest, if_neg h2, ← nI_1 (k + 1)]; rfl) (by rfl) ?_
        exact ih_k
  · refine EE.runN (stop := atPc [4]) 80 _ ?_
    refine ⟨by exact hR.1, hR.vp (k := 0) (by omega), ?_⟩
    refine ⟨fun h3 => ?_, fun h3 => ?_⟩
    · refine ⟨⟨Nat.le_of_ble_eq_true rfl, Nat.le_of_ble_eq_true rfl, Nat.le_of_ble_eq_true rfl⟩, _, T_saysOf (s := rBest (M r) (n - 1)) hR (by have := rBest_le (M r) (n - 1); omega), ?_⟩
      rintro _ _ ⟨rfl, rfl⟩
      refine ⟨Or.inl rfl, ?_⟩
      refine ⟨fun h4 => ?_, fun h4 => ?_⟩
      · refine ⟨by exact hR.1, hR.vp (k := 7) (by omega), ?_⟩
        refine ⟨fun h5 => ?_, fun h5 => ?_⟩
        · refine ⟨by exact hR.1, hR.vp (k := 4) (by omega), ?_⟩
          refine ⟨by exact hR.1, hR.vp (k := 4) (by omega), ?_⟩
          refine ⟨by exact hR.1, hR.vp (k := 6) (by omega), ?_⟩
          refine ⟨by exact hR.1, hR.vp (k := 3) (by omega), ?_⟩
          refine ⟨by exact hR.1, hR.vp (k := 12) (by omega), ?_⟩
          refine ⟨⟨Nat.zero_le _, Nat.zero_le _⟩, rfl, ?_⟩
          show (S, _, J) = (S, _, J)
          simp only [wI_M, wI_1, upA_s, upA_uu, tk_0, tk_1, tk_2, tk_3, tk_4, tk_5, tk_6, tk_7, tk_8, tk_9, tk_10, tk_11, tk_12, tk_13, tk_14, tk_15, tk_16, tk_17]
          refine congrArg (fun m => (S, upA M r m, J)) ?_
          unfold rPower rPow
          rw [h0, ck (by omega)]
          first | rw [if_neg h4, if_neg h4] | rw [if_pos h4, if_pos h4]
          rfl
        · first | exact absurd h5 h4 | exact absurd h4 h5
      · refine ⟨by exact hR.1, hR.vp (k := 7) (by omega), ?_⟩
        refine ⟨fun h6 => ?_, fun h6 => ?_⟩
        · first | exact absurd h6 h4 | exact absurd h4 h6
        · refine ⟨by exact hR.1, hR.vp (k := 4) (by omega), ?_⟩
          refine ⟨by exact hR.1, hR.vp (k := 4) (by omega), ?_⟩
          refine ⟨by exact hR.1, hR.vp (k := 6) (by omega), ?_⟩
          refine ⟨by exact hR.1, hR.vp (k := 3) (by omega), ?_⟩
          refine ⟨by exact hR.1, hR.vp (k := 12) (by omega), ?_⟩
          refine ⟨⟨Nat.zero_le _, Nat.zero_le _⟩, rfl, ?_⟩
          show (S, _, J) = (S, _, J)
          simp only [wI_M, wI_1, upA_s, upA_uu, tk_0, tk_1, tk_2, tk_3, tk_4, tk_5, tk_6, tk_7, tk_8, tk_9, tk_10, tk_11, tk_12, tk_13, tk_14, tk_15, tk_16, tk_17]
          refine congrArg (fun m => (S, upA M r m, J)) ?_
          unfold rPower rPow
          rw [h0, ck (by omega)]
          first | rw [if_neg h4, if_neg h4] | rw [if_pos h4, if_pos h4]
          rfl
    · (simp only [tk_0, h0] at h3; exact absurd (nI_le (by omega) (by omega)) h3)
end
section
/-! THE REFERENCE: commands: written by wip/whole/pure3.py -/
def rDoDrive (ρ : Rw) (t : Nat) : Rw := if ρ 3 = 0 then ρ else rGo t ρ
def rDoCut (ρ : Rw) (n k : Int32) : Rw := if ρ 3 = 0 then ρ else upd (upd ρ 10 n) 11 k
def rDoStart (ρ : Rw) : Rw := if ρ 3 = 1 then ρ else rPower ρ
def rDoServe (ρ : Rw) (c : Int32) (n : Nat) : Rw := if ρ 3 = 1 ∧ (ρ 17 < 12 ∨ ¬ rFnd ρ c n = -99999) then rServe ρ c n else ρ
def rDoReplace (ρ : Rw) (s : Nat) : Rw := if ρ 3 = 1 ∧ ¬ nI s = ρ 7 then rRenew ρ s else ρ
set_option maxHeartbeats 1000000 in
theorem T_doDrive {d : Nat} {S : Sc} {M : Nat → Nat → Int32} {J : Nat → Nat → Int64} {r t : Nat} (hR : RowS S r) (ht : t < 1000000) (hok : Rok (M r)) : Wp (d + 6) 131 [.ref r, .int (nI t)] (S, M, J) (fun rs w' => rs = .inl (some (.int (bI (¬ M r 3 = 0)))) ∧ w' = (S, upA M r (rDoDrive (M r) t), J)) := by
  refine ⟨rfl, ?_⟩
  refine EE.runN (stop := noStop) 80 _ ?_
  refine ⟨by exact hR.1, hR.vp (k := 3) (by omega), ?_⟩
  refine ⟨fun h1 => ?_, fun h1 => ?_⟩
  · refine ⟨⟨Nat.le_of_ble_eq_true rfl, Nat.le_of_ble_eq_true rfl, Nat.le_of_ble_eq_true rfl⟩, _, T_go hR ht hok, ?_⟩
    rintro _ _ ⟨rfl, rfl⟩
    refine ⟨Or.inl rfl, ?_⟩
    simp only [tk_0, tk_1, tk_2, tk_3, tk_4, tk_5, tk_6, tk_7, tk_8, tk_9, tk_10, tk_11, tk_12, tk_13, tk_14, tk_15, tk_16, tk_17, bI_e0, Classical.not_not] at h1
    refine ⟨⟨Nat.zero_le _, Nat.zero_le _⟩, by decide, ?_, ?_⟩
    · simp [bI, h1]
    · show (S, _, J) = (S, _, J)
      unfold rDoDrive
      first | rw [if_pos h1] | rw [if_neg h1]
      try simp only [wI_M, wI_1, upA_s, upA_uu, tk_0, tk_1, tk_2, tk_3, tk_4, tk_5, tk_6, tk_7, tk_8, tk_9, tk_10, tk_11, tk_12, tk_13, tk_14, tk_15, tk_16, tk_17]
      try rw [upA_id]
  · simp only [tk_0, tk_1, tk_2, tk_3, tk_4, tk_5, tk_6, tk_7, tk_8, tk_9, tk_10, tk_11, tk_12, tk_13, tk_14, tk_15, tk_16, tk_17, bI_e0, Classical.not_not] at h1
    refine ⟨⟨Nat.zero_le _, Nat.zero_le _⟩, by decide, ?_, ?_⟩
    · simp [bI, h1]
    · show (S, _, J) = (S, _, J)
      unfold rDoDrive
      first | rw [if_pos h1] | rw [if_neg h1]
      try simp only [wI_M, wI_1, upA_s, upA_uu, tk_0, tk_1, tk_2, tk_3, tk_4, tk_5, tk_6, tk_7, tk_8, tk_9, tk_10, tk_11, tk_12, tk_13, tk_14, tk_15, tk_16, tk_17]
      try rw [upA_id]
set_option maxHeartbeats 1000000 in
theorem T_doCut {d : Nat} {S : Sc} {M : Nat → Nat → Int32} {J : Nat → Nat → Int64} {r : Nat} {n k : Int32} (hR : RowS S r) : Wp (d + 1) 132 [.ref r, .int n, .int k] (S, M, J) (fun rs w' => rs = .inl (some (.int (bI (¬ M r 3 = 0)))) ∧ w' = (S, upA M r (rDoCut (M r) n k), J)) := by
  refine ⟨rfl, ?_⟩
  refine EE.runN (stop := noStop) 80 _ ?_
  refine ⟨by exact hR.1, hR.vp (k := 3) (by omega), ?_⟩
  refine ⟨fun h1 => ?_, fun h1 => ?_⟩
  · refine ⟨by exact hR.1, hR.vp (k := 10) (by omega), ?_⟩
    refine ⟨by exact hR.1, hR.vp (k := 11) (by omega), ?_⟩
    simp only [tk_0, tk_1, tk_2, tk_3, tk_4, tk_5, tk_6, tk_7, tk_8, tk_9, tk_10, tk_11, tk_12, tk_13, tk_14, tk_15, tk_16, tk_17, bI_e0, Classical.not_not] at h1
    refine ⟨⟨Nat.zero_le _, Nat.zero_le _⟩, by decide, ?_, ?_⟩
    · simp [bI, h1]
    · show (S, _, J) = (S, _, J)
      unfold rDoCut
      first | rw [if_pos h1] | rw [if_neg h1]
      try simp only [wI_M, wI_1, upA_s, upA_uu, tk_0, tk_1, tk_2, tk_3, tk_4, tk_5, tk_6, tk_7, tk_8, tk_9, tk_10, tk_11, tk_12, tk_13, tk_14, tk_15, tk_16, tk_17]
      try rw [upA_id]
  · simp only [tk_0, tk_1, tk_2, tk_3, tk_4, tk_5, tk_6, tk_7, tk_8, tk_9, tk_10, tk_11, tk_12, tk_13, tk_14, tk_15, tk_16, tk_17, bI_e0, Classical.not_not] at h1
    refine ⟨⟨Nat.zero_le _, Nat.zero_le _⟩, by decide, ?_, ?_⟩
    · simp [bI, h1]
    · show (S, _, J) = (S, _, J)
      unfold rDoCut
      first | rw [if_pos h1] | rw [if_neg h1]
      try simp only [wI_M, wI_1, upA_s, upA_uu, tk_0, tk_1, tk_2, tk_3, tk_4, tk_5, tk_6, tk_7, tk_8, tk_9, tk_10, tk_11, tk_12, tk_13, tk_14, tk_15, tk_16, tk_17]
      try rw [upA_id]
set_option maxHeartbeats 1000000 in
theorem T_doStart {d : Nat} {S : Sc} {M : Nat → Nat → Int32} {J : Nat → Nat → Int64} {r : Nat} (hR : RowS S r) (hok : Rok (M r)) : Wp (d + 5) 133 [.ref r] (S, M, J) (fun rs w' => rs = .inl (some (.int (bI (¬ M r 3 = 1)))) ∧ w' = (S, upA M r (rDoStart (M r)), J)) := by
  refine ⟨rfl, ?_⟩
  refine EE.runN (stop := noStop) 80 _ ?_
  refine ⟨by exact hR.1, hR.vp (k := 3) (by omega), ?_⟩
  refine ⟨fun h1 => ?_, fun h1 => ?_⟩
  · refine ⟨⟨Nat.le_of_ble_eq_true rfl, Nat.le_of_ble_eq_true rfl, Nat.le_of_ble_eq_true rfl⟩, _, T_power hR hok, ?_⟩
    rintro _ _ ⟨rfl, rfl⟩
    refine ⟨Or.inl rfl, ?_⟩
    simp only [tk_0, tk_1, tk_2, tk_3, tk_4, tk_5, tk_6, tk_7, tk_8, tk_9, tk_10, tk_11, tk_12, tk_13, tk_14, tk_15, tk_16, tk_17, bI_e0, Classical.not_not] at h1
    refine ⟨⟨Nat.zero_le _, Nat.zero_le _⟩, by decide, ?_, ?_⟩
    · simp [bI, h1]
    · show (S, _, J) = (S, _, J)
      unfold rDoStart
      first | rw [if_pos h1] | rw [if_neg h1]
      try simp only [wI_M, wI_1, upA_s, upA_uu, tk_0, tk_1, tk_2, tk_3, tk_4, tk_5, tk_6, tk_7, tk_8, tk_9, tk_10, tk_11, tk_12, tk_13, tk_14, tk_15, tk_16, tk_17]
      try rw [upA_id]
  · simp only [tk_0, tk_1, tk_2, tk_3, tk_4, tk_5, tk_6, tk_7, tk_8, tk_9, tk_10, tk_11, tk_12, tk_13, tk_14, tk_15, tk_16, tk_17, bI_e0, Classical.not_not] at h1
    refine ⟨⟨Nat.zero_le _, Nat.zero_le _⟩, by decide, ?_, ?_⟩
    · simp [bI, h1]
    · show (S, _, J) = (S, _, J)
      unfold rDoStart
      first | rw [if_pos h1] | rw [if_neg h1]
      try simp only [wI_M, wI_1, upA_s, upA_uu, tk_0, tk_1, tk_2, tk_3, tk_4, tk_5, tk_6, tk_7, tk_8, tk_9, tk_10, tk_11, tk_12, tk_13, tk_14, tk_15, tk_16, tk_17]
      try rw [upA_id]
set_option maxHeartbeats 1000000 in
theorem T_doServe {d : Nat} {S : Sc} {M : Nat → Nat → Int32} {J : Nat → Nat → Int64} {r n : Nat} {x y : Int32} (hR : RowS S r) (hn : n ≤ 12) (h17 : M r 17 = nI n) : Wp (d + 3) 134 [.ref r, .int x, .int y] (S, M, J) (fun rs w' => rs = .inl (some (.int (bI (M r 3 = 1 ∧ (M r 17 < 12 ∨ ¬ rFnd (M r) (10 * x + y) n = -99999))))) ∧ w' = (S, upA M r (rDoServe (M r) (10 * x + y) n), J)) := by
  refine ⟨rfl, ?_⟩
  refine EE.runN (stop := noStop) 80 _ ?_
  refine ⟨⟨Nat.le_of_ble_eq_true rfl, Nat.le_of_ble_eq_true rfl, Nat.le_of_ble_eq_true rfl⟩, _, T_canServe hR hn h17, ?_⟩
  rintro _ _ ⟨rfl, rfl⟩
  refine ⟨Or.inl rfl, ?_⟩
  refine ⟨fun h1 => ?_, fun h1 => ?_⟩
  · refine ⟨⟨Nat.le_of_ble_eq_true rfl, Nat.le_of_ble_eq_true rfl, Nat.le_of_ble_eq_true rfl⟩, _, T_serve hR hn h17, ?_⟩
    rintro _ _ ⟨rfl, rfl⟩
    refine ⟨Or.inl rfl, ?_⟩
    simp only [tk_0, tk_1, tk_2, tk_3, tk_4, tk_5, tk_6, tk_7, tk_8, tk_9, tk_10, tk_11, tk_12, tk_13, tk_14, tk_15, tk_16, tk_17, bI_e0, Classical.not_not] at h1
    refine ⟨⟨Nat.zero_le _, Nat.zero_le _⟩, by decide, ?_, ?_⟩
    · simp [bI, h1]
    · show (S, _, J) = (S, _, J)
      unfold rDoServe
      first | rw [if_pos h1] | rw [if_neg h1]
      try simp only [wI_M, wI_1, upA_s, upA_uu, tk_0, tk_1, tk_2, tk_3, tk_4, tk_5, tk_6, tk_7, tk_8, tk_9, tk_10, tk_11, tk_12, tk_13, tk_14, tk_15, tk_16, tk_17]
      try rw [upA_id]
  · simp only [tk_0, tk_1, tk_2, tk_3, tk_4, tk_5, tk_6, tk_7, tk_8, tk_9, tk_10, tk_11, tk_12, tk_13, tk_14, tk_15, tk_16, tk_17, bI_e0, Classical.not_not] at h1
    refine ⟨⟨Nat.zero_le _, Nat.zero_le _⟩, by decide, ?_, ?_⟩
    · simp [bI, h1]
    · show (S, _, J) = (S, _, J)
      unfold rDoServe
      first | rw [if_pos h1] | rw [if_neg h1]
      try simp only [wI_M, wI_1, upA_s, upA_uu, tk_0, tk_1, tk_2, tk_3, tk_4, tk_5, tk_6, tk_7, tk_8, tk_9, tk_10, tk_11, tk_12, tk_13, tk_14, tk_15, tk_16, tk_17]
      try rw [upA_id]
set_option maxHeartbeats 1000000 in
theorem T_doReplace {d : Nat} {S : Sc} {M : Nat → Nat → Int32} {J : Nat → Nat → Int64} {r s : Nat} (hR : RowS S r) (hs : s < 12) : Wp (d + 4) 135 [.ref r, .int (nI s)] (S, M, J) (fun rs w' => rs = .inl (some (.int (bI (M r 3 = 1 ∧ ¬ nI s = M r 7)))) ∧ w' = (S, upA M r (rDoReplace (M r) s), J)) := by
  refine ⟨rfl, ?_⟩
  refine EE.runN (stop := noStop) 80 _ ?_
  refine ⟨⟨Nat.le_of_ble_eq_true rfl, Nat.le_of_ble_eq_true rfl, Nat.le_of_ble_eq_true rfl⟩, _, T_rCanReplace hR, ?_⟩
  rintro _ _ ⟨rfl, rfl⟩
  refine ⟨Or.inl rfl, ?_⟩
  refine ⟨fun h1 => ?_, fun h1 => ?_⟩
  · refine ⟨⟨Nat.le_of_ble_eq_true rfl, Nat.le_of_ble_eq_true rfl, Nat.le_of_ble_eq_true rfl⟩, _, T_rRenew hR hs, ?_⟩
    rintro _ _ ⟨rfl, rfl⟩
    refine ⟨Or.inl rfl, ?_⟩
    simp only [tk_0, tk_1, tk_2, tk_3, tk_4, tk_5, tk_6, tk_7, tk_8, tk_9, tk_10, tk_11, tk_12, tk_13, tk_14, tk_15, tk_16, tk_17, bI_e0, Classical.not_not] at h1
    refine ⟨⟨Nat.zero_le _, Nat.zero_le _⟩, by decide, ?_, ?_⟩
    · simp [bI, h1]
    · show (S, _, J) = (S, _, J)
      unfold rDoReplace
      first | rw [if_pos h1] | rw [if_neg h1]
      try simp only [wI_M, wI_1, upA_s, upA_uu, tk_0, tk_1, tk_2, tk_3, tk_4, tk_5, tk_6, tk_7, tk_8, tk_9, tk_10, tk_11, tk_12, tk_13, tk_14, tk_15, tk_16, tk_17]
      try rw [upA_id]
  · simp only [tk_0, tk_1, tk_2, tk_3, tk_4, tk_5, tk_6, tk_7, tk_8, tk_9, tk_10, tk_11, tk_12, tk_13, tk_14, tk_15, tk_16, tk_17, bI_e0, Classical.not_not] at h1
    refine ⟨⟨Nat.zero_le _, Nat.zero_le _⟩, by decide, ?_, ?_⟩
    · simp [bI, h1]
    · show (S, _, J) = (S, _, J)
      unfold rDoReplace
      first | rw [if_pos h1] | rw [if_neg h1]
      try simp only [wI_M, wI_1, upA_s, upA_uu, tk_0, tk_1, tk_2, tk_3, tk_4, tk_5, tk_6, tk_7, tk_8, tk_9, tk_10, tk_11, tk_12, tk_13, tk_14, tk_15, tk_16, tk_17]
      try rw [upA_id]
end
section
/-! THE CLASS: an Odometer read as a row of 114 numbers: written by wip/whole/pure3.py -/
def vw0 : Nat → Nat
  | 2 => 1
  | 3 => 3
  | 4 => 12
  | 5 => 4
  | 6 => 6
  | 7 => 7
  | 8 => 5
  | 9 => 8
  | 10 => 9
  | 11 => 10
  | 12 => 11
  | 13 => 13
  | 14 => 14
  | 15 => 15
  | 16 => 16
  | _ => 114
/-- the place in the row of slot k of cell b + o -/
def vw1 : Nat → Nat
  | 0 => 0
  | 1 => 2
  | _ => 114
def vw4 : Nat → Nat
  | 0 => 17
  | _ => 114
def vw (o k : Nat) : Nat := match o with
  | 0 => vw0 k
  | 1 => vw1 k
  | 2 => if k < 36 then 42 + 2 * k else 114
  | 3 => if k < 36 then 43 + 2 * k else 114
  | 4 => vw4 k
  | 5 => if k < 12 then 18 + 2 * k else 114
  | 6 => if k < 12 then 19 + 2 * k else 114
  | _ => 114
def ps0 : Nat → Nat × Nat
  | 0 => (1, 0)
  | 1 => (0, 2)
  | 2 => (1, 1)
  | 3 => (0, 3)
  | 4 => (0, 5)
  | 5 => (0, 8)
  | 6 => (0, 6)
  | 7 => (0, 7)
  | 8 => (0, 9)
  | 9 => (0, 10)
  | 10 => (0, 11)
  | 11 => (0, 12)
  | 12 => (0, 4)
  | 13 => (0, 13)
  | 14 => (0, 14)
  | 15 => (0, 15)
  | 16 => (0, 16)
  | _ => (4, 0)
def ps (q : Nat) : Nat × Nat := if q < 18 then ps0 q else if q < 42 then (5 + (q - 18) % 2, (q - 18) / 2) else (2 + (q - 42) % 2, (q - 42) / 2)
theorem vw0_hi : ∀ k, 17 ≤ k → vw0 k = 114 := by
  intro k h
  unfold vw0
  split <;> first | omega | rfl
theorem ps_vw : ∀ o k, vw o k < 114 → ps (vw o k) = (o, k) := by
  intro o k h
  have h0 : ∀ k, k < 17 → vw0 k < 114 → ps (vw0 k) = (0, k) := by decide
  match o, h with
  | 0, h =>
    have hk : k < 17 := by
      rcases Nat.lt_or_ge k 17 with h1 | h1
      · exact h1
      · have h2 := vw0_hi k h1
        have h3 : vw0 k < 114 := h
        omega
    exact h0 k hk h
  | 1, h => match k, h with
    | 0, _ => rfl
    | 1, _ => rfl
    | k + 2, h => exact absurd (show 114 < 114 from h) (by omega)
  | 4, h => match k, h with
    | 0, _ => rfl
    | k + 1, h => exact absurd (show 114 < 114 from h) (by omega)
  | 2, h =>
    have h : (if k < 36 then 42 + 2 * k else 114) < 114 := h
    show ps (if k < 36 then 42 + 2 * k else 114) = (2, k)
    split at h
    · rename_i h1
      rw [if_pos h1]
      unfold ps
      rw [if_neg (by omega), if_neg (by omega)]
      refine Prod.ext ?_ ?_
      · show 2 + (42 + 2 * k - 42) % 2 = 2
        omega
      · show (42 + 2 * k - 42) / 2 = k
        omega
    · exact absurd h (by omega)
  | 3, h =>
    have h : (if k < 36 then 43 + 2 * k else 114) < 114 := h
    show ps (if k < 36 then 43 + 2 * k else 114) = (3, k)
    split at h
    · rename_i h1
      rw [if_pos h1]
      unfold ps
      rw [if_neg (by omega), if_neg (by omega)]
      refine Prod.ext ?_ ?_
      · show 2 + (43 + 2 * k - 42) % 2 = 3
        omega
      · show (43 + 2 * k - 42) / 2 = k
        omega
    · exact absurd h (by omega)
  | 5, h =>
    have h : (if k < 12 then 18 + 2 * k else 114) < 114 := h
    show ps (if k < 12 then 18 + 2 * k else 114) = (5, k)
    split at h
    · rename_i h1
      rw [if_pos h1]
      unfold ps
      rw [if_neg (by omega), if_pos (by omega)]
      refine Prod.ext ?_ ?_
      · show 5 + (18 + 2 * k - 18) % 2 = 5
        omega
      · show (18 + 2 * k - 18) / 2 = k
        omega
    · exact absurd h (by omega)
  | 6, h =>
    have h : (if k < 12 then 19 + 2 * k else 114) < 114 := h
    show ps (if k < 12 then 19 + 2 * k else 114) = (6, k)
    split at h
    · rename_i h1
      rw [if_pos h1]
      unfold ps
      rw [if_neg (by omega), if_pos (by omega)]
      refine Prod.ext ?_ ?_
      · show 5 + (19 + 2 * k - 18) % 2 = 6
        omega
      · show (19 + 2 * k - 18) / 2 = k
        omega
    · exact absurd h (by omega)
  | o + 7, h => exact absurd (show 114 < 114 from h) (by omega)
theorem vw_ps : ∀ q, q < 114 → vw (ps q).1 (ps q).2 = q := by decide
/-- the world's ints with the row σ in the Odometer at b -/
def sO (M : Nat → Nat → Int32) (b : Nat) (σ : Rw) : Nat → Nat → Int32 := fun c k => if b ≤ c ∧ vw (c - b) k < 114 then σ (vw (c - b) k) else M c k
/-- the row of the Odometer at b -/
def vO (M : Nat → Nat → Int32) (b : Nat) : Rw := fun q => M (b + (ps q).1) (ps q).2
theorem sO_rd (M : Nat → Nat → Int32) (b : Nat) (σ : Rw) (o k : Nat) (h : vw o k < 114) : sO M b σ (b + o) k = σ (vw o k) := by
  unfold sO
  rw [Nat.add_sub_cancel_left, if_pos ⟨Nat.le_add_right _ _, h⟩]
theorem sO_wr (M : Nat → Nat → Int32) (b : Nat) (σ : Rw) (o k : Nat) (x : Int32) (h : vw o k < 114) : upA (sO M b σ) (b + o) (upd (sO M b σ (b + o)) k x) = sO M b (upd σ (vw o k) x) := by
  funext c q
  by_cases hc : c = b + o
  · subst hc
    rw [upA_s]
    by_cases hq : q = k
    · subst hq
      rw [pk_us, sO_rd _ _ _ _ _ h, pk_us]
    · rw [pk_un hq]
      unfold sO
      rw [Nat.add_sub_cancel_left]
      by_cases h2 : vw o q < 114
      · rw [if_pos ⟨Nat.le_add_right _ _, h2⟩, if_pos ⟨Nat.le_add_right _ _, h2⟩, pk_un]
        intro e
        have e1 := ps_vw o q h2
        have e2 := ps_vw o k h
        rw [e] at e1
        rw [e1] at e2
        exact hq (congrArg Prod.snd e2)
      · rw [if_neg (fun h3 => h2 h3.2), if_neg (fun h3 => h2 h3.2)]
  · rw [upA_n _ _ hc]
    unfold sO
    by_cases h2 : b ≤ c ∧ vw (c - b) q < 114
    · rw [if_pos h2, if_pos h2, pk_un]
      intro e
      have e1 := ps_vw _ _ h2.2
      have e2 := ps_vw o k h
      rw [e, e2] at e1
      have : o = c - b := congrArg Prod.fst e1
      omega
    · rw [if_neg h2, if_neg h2]
theorem sO_sO (M : Nat → Nat → Int32) (b : Nat) (σ τ : Rw) : sO (sO M b σ) b τ = sO M b τ := by
  funext c k
  unfold sO
  by_cases h : b ≤ c ∧ vw (c - b) k < 114
  · rw [if_pos h, if_pos h]
  · rw [if_neg h, if_neg h, if_neg h]
theorem sO_vO (M : Nat → Nat → Int32) (b : Nat) : sO M b (vO M b) = M := by
  funext c k
  unfold sO
  by_cases h : b ≤ c ∧ vw (c - b) k < 114
  · rw [if_pos h]
    unfold vO
    rw [ps_vw _ _ h.2]
    show M (b + (c - b)) k = M c k
    rw [show b + (c - b) = c by omega]
  · rw [if_neg h]
theorem vO_sO (M : Nat → Nat → Int32) (b : Nat) (σ : Rw) {q : Nat} (h : q < 114) : vO (sO M b σ) b q = σ q := by
  unfold vO
  have := vw_ps q h
  rw [sO_rd _ _ _ _ _ (by omega), this]
theorem vw_o {o k : Nat} (h : 7 ≤ o) : vw o k = 114 := by
  match o, h with
  | o + 7, _ => rfl
theorem sO_ot (M : Nat → Nat → Int32) (b : Nat) (σ : Rw) {c : Nat} (h : c < b ∨ b + 7 ≤ c) : sO M b σ c = M c := by
  funext k
  unfold sO
  rw [if_neg]
  intro h2
  rcases h with h | h
  · omega
  · have := vw_o (o := c - b) (k := k) (by omega)
    omega
theorem sO_cg (M : Nat → Nat → Int32) (b : Nat) {σ τ : Rw} (h : ∀ q, q < 114 → σ q = τ q) : sO M b σ = sO M b τ := by
  funext c k
  unfold sO
  by_cases h2 : b ≤ c ∧ vw (c - b) k < 114
  · rw [if_pos h2, if_pos h2, h _ h2.2]
  · rw [if_neg h2, if_neg h2]
/-- the shape of an Odometer at b -/
def OdS (S : Sc) (b : Nat) : Prop := (S.2.1 b = 2 ∧ S.2.1 (b + 1) = 0 ∧ S.2.1 (b + 2) = 8 ∧ S.2.1 (b + 3) = 8 ∧ S.2.1 (b + 4) = 3 ∧ S.2.1 (b + 5) = 8 ∧ S.2.1 (b + 6) = 8) ∧ (S.2.2.2 b 0 = b + 1 ∧ S.2.2.2 b 1 = b + 4 ∧ S.2.2.2 (b + 1) 2 = b + 2 ∧ S.2.2.2 (b + 1) 3 = b + 3 ∧ S.2.2.2 (b + 4) 1 = b + 5 ∧ S.2.2.2 (b + 4) 2 = b + 6) ∧ (S.2.2.1 (b + 2) = 36 ∧ S.2.2.1 (b + 3) = 36 ∧ S.2.2.1 (b + 5) = 12 ∧ S.2.2.1 (b + 6) = 12)
theorem rd0_2 (M : Nat → Nat → Int32) (b : Nat) (σ : Rw) : sO M b σ b 2 = σ 1 := sO_rd M b σ 0 2 (by decide)
theorem wr0_2 (M : Nat → Nat → Int32) (b : Nat) (σ : Rw) (x : Int32) : upA (sO M b σ) b (upd (sO M b σ b) 2 x) = sO M b (upd σ 1 x) := sO_wr M b σ 0 2 x (by decide)
theorem rd0_3 (M : Nat → Nat → Int32) (b : Nat) (σ : Rw) : sO M b σ b 3 = σ 3 := sO_rd M b σ 0 3 (by decide)
theorem wr0_3 (M : Nat → Nat → Int32) (b : Nat) (σ : Rw) (x : Int32) : upA (sO M b σ) b (upd (sO M b σ b) 3 x) = sO M b (upd σ 3 x) := sO_wr M b σ 0 3 x (by decide)
theorem rd0_4 (M : Nat → Nat → Int32) (b : Nat) (σ : Rw) : sO M b σ b 4 = σ 12 := sO_rd M b σ 0 4 (by decide)
theorem wr0_4 (M : Nat → Nat → Int32) (b : Nat) (σ : Rw) (x : Int32) : upA (sO M b σ) b (upd (sO M b σ b) 4 x) = sO M b (upd σ 12 x) := sO_wr M b σ 0 4 x (by decide)
theorem rd0_5 (M : Nat → Nat → Int32) (b : Nat) (σ : Rw) : sO M b σ b 5 = σ 4 := sO_rd M b σ 0 5 (by decide)
theorem wr0_5 (M : Nat → Nat → Int32) (b : Nat) (σ : Rw) (x : Int32) : upA (sO M b σ) b (upd (sO M b σ b) 5 x) = sO M b (upd σ 4 x) := sO_wr M b σ 0 5 x (by decide)
theorem rd0_6 (M : Nat → Nat → Int32) (b : Nat) (σ : Rw) : sO M b σ b 6 = σ 6 := sO_rd M b σ 0 6 (by decide)
theorem wr0_6 (M : Nat → Nat → Int32) (b : Nat) (σ : Rw) (x : Int32) : upA (sO M b σ) b (upd (sO M b σ b) 6 x) = sO M b (upd σ 6 x) := sO_wr M b σ 0 6 x (by decide)
theorem rd0_7 (M : Nat → Nat → Int32) (b : Nat) (σ : Rw) : sO M b σ b 7 = σ 7 := sO_rd M b σ 0 7 (by decide)
theorem wr0_7 (M : Nat → Nat → Int32) (b : Nat) (σ : Rw) (x : Int32) : upA (sO M b σ) b (upd (sO M b σ b) 7 x) = sO M b (upd σ 7 x) := sO_wr M b σ 0 7 x (by decide)
theorem rd0_8 (M : Nat → Nat → Int32) (b : Nat) (σ : Rw) : sO M b σ b 8 = σ 5 := sO_rd M b σ 0 8 (by decide)
theorem wr0_8 (M : Nat → Nat → Int32) (b : Nat) (σ : Rw) (x : Int32) : upA (sO M b σ) b (upd (sO M b σ b) 8 x) = sO M b (upd σ 5 x) := sO_wr M b σ 0 8 x (by decide)
theorem rd0_9 (M : Nat → Nat → Int32) (b : Nat) (σ : Rw) : sO M b σ b 9 = σ 8 := sO_rd M b σ 0 9 (by decide)
theorem wr0_9 (M : Nat → Nat → Int32) (b : Nat) (σ : Rw) (x : Int32) : upA (sO M b σ) b (upd (sO M b σ b) 9 x) = sO M b (upd σ 8 x) := sO_wr M b σ 0 9 x (by decide)
theorem rd0_10 (M : Nat → Nat → Int32) (b : Nat) (σ : Rw) : sO M b σ b 10 = σ 9 := sO_rd M b σ 0 10 (by decide)
theorem wr0_10 (M : Nat → Nat → Int32) (b : Nat) (σ : Rw) (x : Int32) : upA (sO M b σ) b (upd (sO M b σ b) 10 x) = sO M b (upd σ 9 x) := sO_wr M b σ 0 10 x (by decide)
theorem rd0_11 (M : Nat → Nat → Int32) (b : Nat) (σ : Rw) : sO M b σ b 11 = σ 10 := sO_rd M b σ 0 11 (by decide)
theorem wr0_11 (M : Nat → Nat → Int32) (b : Nat) (σ : Rw) (x : Int32) : upA (sO M b σ) b (upd (sO M b σ b) 11 x) = sO M b (upd σ 10 x) := sO_wr M b σ 0 11 x (by decide)
theorem rd0_12 (M : Nat → Nat → Int32) (b : Nat) (σ : Rw) : sO M b σ b 12 = σ 11 := sO_rd M b σ 0 12 (by decide)
theorem wr0_12 (M : Nat → Nat → Int32) (b : Nat) (σ : Rw) (x : Int32) : upA (sO M b σ) b (upd (sO M b σ b) 12 x) = sO M b (upd σ 11 x) := sO_wr M b σ 0 12 x (by decide)
theorem rd0_13 (M : Nat → Nat → Int32) (b : Nat) (σ : Rw) : sO M b σ b 13 = σ 13 := sO_rd M b σ 0 13 (by decide)
theorem wr0_13 (M : Nat → Nat → Int32) (b : Nat) (σ : Rw) (x : Int32) : upA (sO M b σ) b (upd (sO M b σ b) 13 x) = sO M b (upd σ 13 x) := sO_wr M b σ 0 13 x (by decide)
theorem rd0_14 (M : Nat → Nat → Int32) (b : Nat) (σ : Rw) : sO M b σ b 14 = σ 14 := sO_rd M b σ 0 14 (by decide)
theorem wr0_14 (M : Nat → Nat → Int32) (b : Nat) (σ : Rw) (x : Int32) : upA (sO M b σ) b (upd (sO M b σ b) 14 x) = sO M b (upd σ 14 x) := sO_wr M b σ 0 14 x (by decide)
theorem rd0_15 (M : Nat → Nat → Int32) (b : Nat) (σ : Rw) : sO M b σ b 15 = σ 15 := sO_rd M b σ 0 15 (by decide)
theorem wr0_15 (M : Nat → Nat → Int32) (b : Nat) (σ : Rw) (x : Int32) : upA (sO M b σ) b (upd (sO M b σ b) 15 x) = sO M b (upd σ 15 x) := sO_wr M b σ 0 15 x (by decide)
theorem rd0_16 (M : Nat → Nat → Int32) (b : Nat) (σ : Rw) : sO M b σ b 16 = σ 16 := sO_rd M b σ 0 16 (by decide)
theorem wr0_16 (M : Nat → Nat → Int32) (b : Nat) (σ : Rw) (x : Int32) : upA (sO M b σ) b (upd (sO M b σ b) 16 x) = sO M b (upd σ 16 x) := sO_wr M b σ 0 16 x (by decide)
theorem rd1_0 (M : Nat → Nat → Int32) (b : Nat) (σ : Rw) : sO M b σ (b + 1) 0 = σ 0 := sO_rd M b σ 1 0 (by decide)
theorem wr1_0 (M : Nat → Nat → Int32) (b : Nat) (σ : Rw) (x : Int32) : upA (sO M b σ) (b + 1) (upd (sO M b σ (b + 1)) 0 x) = sO M b (upd σ 0 x) := sO_wr M b σ 1 0 x (by decide)
theorem rd1_1 (M : Nat → Nat → Int32) (b : Nat) (σ : Rw) : sO M b σ (b + 1) 1 = σ 2 := sO_rd M b σ 1 1 (by decide)
theorem wr1_1 (M : Nat → Nat → Int32) (b : Nat) (σ : Rw) (x : Int32) : upA (sO M b σ) (b + 1) (upd (sO M b σ (b + 1)) 1 x) = sO M b (upd σ 2 x) := sO_wr M b σ 1 1 x (by decide)
theorem rd4_0 (M : Nat → Nat → Int32) (b : Nat) (σ : Rw) : sO M b σ (b + 4) 0 = σ 17 := sO_rd M b σ 4 0 (by decide)
theorem wr4_0 (M : Nat → Nat → Int32) (b : Nat) (σ : Rw) (x : Int32) : upA (sO M b σ) (b + 4) (upd (sO M b σ (b + 4)) 0 x) = sO M b (upd σ 17 x) := sO_wr M b σ 4 0 x (by decide)
theorem rd2 (M : Nat → Nat → Int32) (b : Nat) (σ : Rw) {q : Nat} (h : q < 36) : sO M b σ (b + 2) q = σ (42 + 2 * q) := by
  have e : vw 2 q = 42 + 2 * q := if_pos h
  rw [sO_rd M b σ 2 q (by omega), e]
theorem wr2 (M : Nat → Nat → Int32) (b : Nat) (σ : Rw) (x : Int32) {q : Nat} (h : q < 36) : upA (sO M b σ) (b + 2) (upd (sO M b σ (b + 2)) q x) = sO M b (upd σ (42 + 2 * q) x) := by
  have e : vw 2 q = 42 + 2 * q := if_pos h
  rw [sO_wr M b σ 2 q x (by omega), e]
theorem rd3 (M : Nat → Nat → Int32) (b : Nat) (σ : Rw) {q : Nat} (h : q < 36) : sO M b σ (b + 3) q = σ (43 + 2 * q) := by
  have e : vw 3 q = 43 + 2 * q := if_pos h
  rw [sO_rd M b σ 3 q (by omega), e]
theorem wr3 (M : Nat → Nat → Int32) (b : Nat) (σ : Rw) (x : Int32) {q : Nat} (h : q < 36) : upA (sO M b σ) (b + 3) (upd (sO M b σ (b + 3)) q x) = sO M b (upd σ (43 + 2 * q) x) := by
  have e : vw 3 q = 43 + 2 * q := if_pos h
  rw [sO_wr M b σ 3 q x (by omega), e]
theorem rd5 (M : Nat → Nat → Int32) (b : Nat) (σ : Rw) {q : Nat} (h : q < 12) : sO M b σ (b + 5) q = σ (18 + 2 * q) := by
  have e : vw 5 q = 18 + 2 * q := if_pos h
  rw [sO_rd M b σ 5 q (by omega), e]
theorem wr5 (M : Nat → Nat → Int32) (b : Nat) (σ : Rw) (x : Int32) {q : Nat} (h : q < 12) : upA (sO M b σ) (b + 5) (upd (sO M b σ (b + 5)) q x) = sO M b (upd σ (18 + 2 * q) x) := by
  have e : vw 5 q = 18 + 2 * q := if_pos h
  rw [sO_wr M b σ 5 q x (by omega), e]
theorem rd6 (M : Nat → Nat → Int32) (b : Nat) (σ : Rw) {q : Nat} (h : q < 12) : sO M b σ (b + 6) q = σ (19 + 2 * q) := by
  have e : vw 6 q = 19 + 2 * q := if_pos h
  rw [sO_rd M b σ 6 q (by omega), e]
theorem wr6 (M : Nat → Nat → Int32) (b : Nat) (σ : Rw) (x : Int32) {q : Nat} (h : q < 12) : upA (sO M b σ) (b + 6) (upd (sO M b σ (b + 6)) q x) = sO M b (upd σ (19 + 2 * q) x) := by
  have e : vw 6 q = 19 + 2 * q := if_pos h
  rw [sO_wr M b σ 6 q x (by omega), e]
end
section
/-! THE CLASS: Cells: written by wip/whole/pure3.py -/
set_option maxHeartbeats 1000000 in
theorem T_hasSlot {d : Nat} {S : Sc} {M : Nat → Nat → Int32} {J : Nat → Nat → Int64} {b : Nat} {σ : Rw} (hS : OdS S b) {o : Nat} (ho : o = b + 1) {x : Int32} : Wp (d + 1) 3 [.ref o, .int x] (S, sO M b σ, J) (fun rs w' => rs = .inl (some (.int (bI (¬ x < 0 ∧ ¬ σ 0 ≤ x)))) ∧ w' = (S, sO M b (σ), J)) := by
  subst ho
  obtain ⟨⟨k0, k1, k2, k3, k4, k5, k6⟩, ⟨r0, r1, r12, r13, r41, r42⟩, l2, l3, l5, l6⟩ := id hS
  refine ⟨rfl, ?_⟩
  refine EE.runN (stop := noStop) 100 _ ?_
  refine ⟨fun h1 => ?_, fun h1 => ?_⟩
  · try simp only [wI_M, tk_0, tk_1, tk_2, tk_3, tk_4, tk_5, tk_6, tk_7, tk_8, tk_9, tk_10, tk_11, tk_12, tk_13, tk_14, tk_15, tk_16, tk_17, rd0_2, wr0_2, rd0_3, wr0_3, rd0_4, wr0_4, rd0_5, wr0_5, rd0_6, wr0_6, rd0_7, wr0_7, rd0_8, wr0_8, rd0_9, wr0_9, rd0_10, wr0_10, rd0_11, wr0_11, rd0_12, wr0_12, rd0_13, wr0_13, rd0_14, wr0_14, rd0_15, wr0_15, rd0_16, wr0_16, rd1_0, wr1_0, rd1_1, wr1_1, rd4_0, wr4_0, wI_1, r0, r1, r12, r13, r41, r42] at h1
    refine ⟨⟨Nat.zero_le _, Nat.zero_le _⟩, by decide, ?_, ?_⟩
    · simp [-Int32.not_le, -Int32.not_lt, bI, h1]
    · rfl
  · refine ⟨by simp only [wI_1, r0, r1, r12, r13, r41, r42, k0, k1, k2, k3, k4, k5, k6] <;> first | rfl | decide, ?_⟩
    refine ⟨fun h2 => ?_, fun h2 => ?_⟩
    · try simp only [wI_M, tk_0, tk_1, tk_2, tk_3, tk_4, tk_5, tk_6, tk_7, tk_8, tk_9, tk_10, tk_11, tk_12, tk_13, tk_14, tk_15, tk_16, tk_17, rd0_2, wr0_2, rd0_3, wr0_3, rd0_4, wr0_4, rd0_5, wr0_5, rd0_6, wr0_6, rd0_7, wr0_7, rd0_8, wr0_8, rd0_9, wr0_9, rd0_10, wr0_10, rd0_11, wr0_11, rd0_12, wr0_12, rd0_13, wr0_13, rd0_14, wr0_14, rd0_15, wr0_15, rd0_16, wr0_16, rd1_0, wr1_0, rd1_1, wr1_1, rd4_0, wr4_0, wI_1, r0, r1, r12, r13, r41, r42] at h1 h2
      refine ⟨⟨Nat.zero_le _, Nat.zero_le _⟩, by decide, ?_, ?_⟩
      · simp [-Int32.not_le, -Int32.not_lt, bI, h1, h2]
      · rfl
    · try simp only [wI_M, tk_0, tk_1, tk_2, tk_3, tk_4, tk_5, tk_6, tk_7, tk_8, tk_9, tk_10, tk_11, tk_12, tk_13, tk_14, tk_15, tk_16, tk_17, rd0_2, wr0_2, rd0_3, wr0_3, rd0_4, wr0_4, rd0_5, wr0_5, rd0_6, wr0_6, rd0_7, wr0_7, rd0_8, wr0_8, rd0_9, wr0_9, rd0_10, wr0_10, rd0_11, wr0_11, rd0_12, wr0_12, rd0_13, wr0_13, rd0_14, wr0_14, rd0_15, wr0_15, rd0_16, wr0_16, rd1_0, wr1_0, rd1_1, wr1_1, rd4_0, wr4_0, wI_1, r0, r1, r12, r13, r41, r42] at h1 h2
      refine ⟨⟨Nat.zero_le _, Nat.zero_le _⟩, by decide, ?_, ?_⟩
      · simp [-Int32.not_le, -Int32.not_lt, bI, h1, h2]
      · rfl
set_option maxHeartbeats 1000000 in
theorem T_slotBehind {d : Nat} {S : Sc} {M : Nat → Nat → Int32} {J : Nat → Nat → Int64} {b : Nat} {σ : Rw} (hS : OdS S b) {o : Nat} (ho : o = b + 1) {s n : Nat} (h0 : σ 0 = nI n) (hn : n ≤ 12) (hs : s < n) : Wp (d + 1) 4 [.ref o, .int (nI s)] (S, sO M b σ, J) (fun rs w' => rs = .inl (some (.int (nI (if s + 1 < n then s + 1 else 0)))) ∧ w' = (S, sO M b (σ), J)) := by
  subst ho
  obtain ⟨⟨k0, k1, k2, k3, k4, k5, k6⟩, ⟨r0, r1, r12, r13, r41, r42⟩, l2, l3, l5, l6⟩ := id hS
  refine ⟨rfl, ?_⟩
  refine EE.runN (stop := noStop) 100 _ ?_
  refine ⟨by simp only [wI_1, r0, r1, r12, r13, r41, r42, k0, k1, k2, k3, k4, k5, k6] <;> first | rfl | decide, ?_⟩
  refine ⟨fun h1 => ?_, fun h1 => ?_⟩
  · refine ⟨⟨Nat.zero_le _, Nat.zero_le _⟩, ?_, rfl⟩
    simp only [wI_M, tk_0, tk_1, tk_2, tk_3, tk_4, tk_5, tk_6, tk_7, tk_8, tk_9, tk_10, tk_11, tk_12, tk_13, tk_14, tk_15, tk_16, tk_17, rd0_2, wr0_2, rd0_3, wr0_3, rd0_4, wr0_4, rd0_5, wr0_5, rd0_6, wr0_6, rd0_7, wr0_7, rd0_8, wr0_8, rd0_9, wr0_9, rd0_10, wr0_10, rd0_11, wr0_11, rd0_12, wr0_12, rd0_13, wr0_13, rd0_14, wr0_14, rd0_15, wr0_15, rd0_16, wr0_16, rd1_0, wr1_0, rd1_1, wr1_1, rd4_0, wr4_0, wI_1, r0, r1, r12, r13, r41, r42, h0, nI_1] at h1
    rcases Nat.lt_or_ge (s + 1) n with h | h
    · first | exact absurd h1 (nI_ge h (by omega)) | (rw [if_pos h, ← nI_1])
    · first | exact absurd (nI_le h (by omega)) h1 | (rw [if_neg (by omega)]; rfl)
  · refine ⟨⟨Nat.zero_le _, Nat.zero_le _⟩, ?_, rfl⟩
    simp only [wI_M, tk_0, tk_1, tk_2, tk_3, tk_4, tk_5, tk_6, tk_7, tk_8, tk_9, tk_10, tk_11, tk_12, tk_13, tk_14, tk_15, tk_16, tk_17, rd0_2, wr0_2, rd0_3, wr0_3, rd0_4, wr0_4, rd0_5, wr0_5, rd0_6, wr0_6, rd0_7, wr0_7, rd0_8, wr0_8, rd0_9, wr0_9, rd0_10, wr0_10, rd0_11, wr0_11, rd0_12, wr0_12, rd0_13, wr0_13, rd0_14, wr0_14, rd0_15, wr0_15, rd0_16, wr0_16, rd1_0, wr1_0, rd1_1, wr1_1, rd4_0, wr4_0, wI_1, r0, r1, r12, r13, r41, r42, h0, nI_1] at h1
    rcases Nat.lt_or_ge (s + 1) n with h | h
    · first | exact absurd h1 (nI_ge h (by omega)) | (rw [if_pos h, ← nI_1])
    · first | exact absurd (nI_le h (by omega)) h1 | (rw [if_neg (by omega)]; rfl)
set_option maxHeartbeats 1000000 in
theorem T_numberIn {d : Nat} {S : Sc} {M : Nat → Nat → Int32} {J : Nat → Nat → Int64} {b : Nat} {σ : Rw} (hS : OdS S b) {o : Nat} (ho : o = b + 1) {s i : Nat} (hs : s < 12) (hi : i < 3) : Wp (d + 1) 5 [.ref o, .int (nI s), .int (nI i)] (S, sO M b σ, J) (fun rs w' => rs = .inl (some (.int (σ (42 + 2 * (3 * s + i))))) ∧ w' = (S, sO M b (σ), J)) := by
  subst ho
  obtain ⟨⟨k0, k1, k2, k3, k4, k5, k6⟩, ⟨r0, r1, r12, r13, r41, r42⟩, l2, l3, l5, l6⟩ := id hS
  have e : nI s * 3 + nI i = nI (3 * s + i) := by rw [o_3, pk_mul, nI_add, Nat.mul_comm]
  have c := ck (k := 3 * s + i) (by omega)
  have q36 : 3 * s + i < 36 := by omega
  have d2 := fun (τ : Rw) => rd2 M b τ q36
  have d3 := fun (τ : Rw) => rd3 M b τ q36
  have u2 := fun (τ : Rw) (x : Int32) => wr2 M b τ x q36
  have u3 := fun (τ : Rw) (x : Int32) => wr3 M b τ x q36
  refine ⟨rfl, ?_⟩
  refine EE.runN (stop := noStop) 100 _ ?_
  refine ⟨fun h1 => ?_, fun h1 => ?_⟩
  · exact absurd (show nI s * 3 + nI i < 0 from h1) (by rw [e]; exact nI_pos (by omega))
  · refine ⟨by simp only [wI_1, r0, r1, r12, r13, r41, r42, k0, k1, k2, k3, k4, k5, k6] <;> first | rfl | decide, ?_⟩
    refine ⟨by simp only [wI_1, r0, r1, r12, r13, r41, r42, k0, k1, k2, k3, k4, k5, k6] <;> first | rfl | decide, ?_⟩
    refine ⟨fun h2 => ?_, fun h2 => ?_⟩
    · (have h_ : Int32.ofNat _ ≤ nI s * 3 + nI i := h2; simp only [wI_1, r0, r1, r12, r13, r41, r42, l2, e] at h_; exact absurd h_ (nI_ge (b := 36) (by omega) (by omega)))
    · refine ⟨by simp only [wI_1, r0, r1, r12, r13, r41, r42, k0, k1, k2, k3, k4, k5, k6] <;> first | rfl | decide, ?_⟩
      refine ⟨by simp only [wI_1, r0, r1, r12, r13, r41, r42, k0, k1, k2, k3, k4, k5, k6] <;> first | rfl | decide, (by simp only [wI_1, r0, r1, r12, r13, r41, r42, l2, e]; exact vp_in_nI (by omega) (by omega)), ?_⟩
      refine ⟨⟨Nat.zero_le _, Nat.zero_le _⟩, ?_, rfl⟩
      simp only [wI_M, tk_0, tk_1, tk_2, tk_3, tk_4, tk_5, tk_6, tk_7, tk_8, tk_9, tk_10, tk_11, tk_12, tk_13, tk_14, tk_15, tk_16, tk_17, rd0_2, wr0_2, rd0_3, wr0_3, rd0_4, wr0_4, rd0_5, wr0_5, rd0_6, wr0_6, rd0_7, wr0_7, rd0_8, wr0_8, rd0_9, wr0_9, rd0_10, wr0_10, rd0_11, wr0_11, rd0_12, wr0_12, rd0_13, wr0_13, rd0_14, wr0_14, rd0_15, wr0_15, rd0_16, wr0_16, rd1_0, wr1_0, rd1_1, wr1_1, rd4_0, wr4_0, wI_1, r0, r1, r12, r13, r41, r42, e, c, d2, d3, u2, u3]
set_option maxHeartbeats 1000000 in
theorem T_wearOf {d : Nat} {S : Sc} {M : Nat → Nat → Int32} {J : Nat → Nat → Int64} {b : Nat} {σ : Rw} (hS : OdS S b) {o : Nat} (ho : o = b + 1) {s i : Nat} (hs : s < 12) (hi : i < 3) : Wp (d + 1) 6 [.ref o, .int (nI s), .int (nI i)] (S, sO M b σ, J) (fun rs w' => rs = .inl (some (.int (σ (43 + 2 * (3 * s + i))))) ∧ w' = (S, sO M b (σ), J)) := by
  subst ho
  obtain ⟨⟨k0, k1, k2, k3, k4, k5, k6⟩, ⟨r0, r1, r12, r13, r41, r42⟩, l2, l3, l5, l6⟩ := id hS
  have e : nI s * 3 + nI i = nI (3 * s + i) := by rw [o_3, pk_mul, nI_add, Nat.mul_comm]
  have c := ck (k := 3 * s + i) (by omega)
  have q36 : 3 * s + i < 36 := by omega
  have d2 := fun (τ : Rw) => rd2 M b τ q36
  have d3 := fun (τ : Rw) => rd3 M b τ q36
  have u2 := fun (τ : Rw) (x : Int32) => wr2 M b τ x q36
  have u3 := fun (τ : Rw) (x : Int32) => wr3 M b τ x q36
  refine ⟨rfl, ?_⟩
  refine EE.runN (stop := noStop) 100 _ ?_
  refine ⟨fun h1 => ?_, fun h1 => ?_⟩
  · exact absurd (show nI s * 3 + nI i < 0 from h1) (by rw [e]; exact nI_pos (by omega))
  · refine ⟨by simp only [wI_1, r0, r1, r12, r13, r41, r42, k0, k1, k2, k3, k4, k5, k6] <;> first | rfl | decide, ?_⟩
    refine ⟨by simp only [wI_1, r0, r1, r12, r13, r41, r42, k0, k1, k2, k3, k4, k5, k6] <;> first | rfl | decide, ?_⟩
    refine ⟨fun h2 => ?_, fun h2 => ?_⟩
    · (have h_ : Int32.ofNat _ ≤ nI s * 3 + nI i := h2; simp only [wI_1, r0, r1, r12, r13, r41, r42, l3, e] at h_; exact absurd h_ (nI_ge (b := 36) (by omega) (by omega)))
    · refine ⟨by simp only [wI_1, r0, r1, r12, r13, r41, r42, k0, k1, k2, k3, k4, k5, k6] <;> first | rfl | decide, ?_⟩
      refine ⟨by simp only [wI_1, r0, r1, r12, r13, r41, r42, k0, k1, k2, k3, k4, k5, k6] <;> first | rfl | decide, (by simp only [wI_1, r0, r1, r12, r13, r41, r42, l3, e]; exact vp_in_nI (by omega) (by omega)), ?_⟩
      refine ⟨⟨Nat.zero_le _, Nat.zero_le _⟩, ?_, rfl⟩
      simp only [wI_M, tk_0, tk_1, tk_2, tk_3, tk_4, tk_5, tk_6, tk_7, tk_8, tk_9, tk_10, tk_11, tk_12, tk_13, tk_14, tk_15, tk_16, tk_17, rd0_2, wr0_2, rd0_3, wr0_3, rd0_4, wr0_4, rd0_5, wr0_5, rd0_6, wr0_6, rd0_7, wr0_7, rd0_8, wr0_8, rd0_9, wr0_9, rd0_10, wr0_10, rd0_11, wr0_11, rd0_12, wr0_12, rd0_13, wr0_13, rd0_14, wr0_14, rd0_15, wr0_15, rd0_16, wr0_16, rd1_0, wr1_0, rd1_1, wr1_1, rd4_0, wr4_0, wI_1, r0, r1, r12, r13, r41, r42, e, c, d2, d3, u2, u3]
set_option maxHeartbeats 1000000 in
theorem T_isStuck {d : Nat} {S : Sc} {M : Nat → Nat → Int32} {J : Nat → Nat → Int64} {b : Nat} {σ : Rw} (hS : OdS S b) {o : Nat} (ho : o = b + 1) {s i : Nat} (hs : s < 12) (hi : i < 3) : Wp (d + 2) 7 [.ref o, .int (nI s), .int (nI i)] (S, sO M b σ, J) (fun rs w' => rs = .inl (some (.int (bI (¬ σ (43 + 2 * (3 * s + i)) < σ 2)))) ∧ w' = (S, sO M b (σ), J)) := by
  subst ho
  obtain ⟨⟨k0, k1, k2, k3, k4, k5, k6⟩, ⟨r0, r1, r12, r13, r41, r42⟩, l2, l3, l5, l6⟩ := id hS
  refine ⟨rfl, ?_⟩
  refine EE.runN (stop := noStop) 100 _ ?_
  refine ⟨⟨Nat.le_of_ble_eq_true rfl, Nat.le_of_ble_eq_true rfl, Nat.le_of_ble_eq_true rfl⟩, by simp only [wI_1, r0, r1, r12, r13, r41, r42, k0, k1, k2, k3, k4, k5, k6] <;> first | rfl | decide, _, T_wearOf hS rfl hs hi, ?_⟩
  rintro _ _ ⟨rfl, rfl⟩
  refine ⟨Or.inl rfl, ?_⟩
  refine ⟨by simp only [wI_1, r0, r1, r12, r13, r41, r42, k0, k1, k2, k3, k4, k5, k6] <;> first | rfl | decide, ?_⟩
  refine ⟨fun h1 => ?_, fun h1 => ?_⟩
  · try simp only [wI_M, tk_0, tk_1, tk_2, tk_3, tk_4, tk_5, tk_6, tk_7, tk_8, tk_9, tk_10, tk_11, tk_12, tk_13, tk_14, tk_15, tk_16, tk_17, rd0_2, wr0_2, rd0_3, wr0_3, rd0_4, wr0_4, rd0_5, wr0_5, rd0_6, wr0_6, rd0_7, wr0_7, rd0_8, wr0_8, rd0_9, wr0_9, rd0_10, wr0_10, rd0_11, wr0_11, rd0_12, wr0_12, rd0_13, wr0_13, rd0_14, wr0_14, rd0_15, wr0_15, rd0_16, wr0_16, rd1_0, wr1_0, rd1_1, wr1_1, rd4_0, wr4_0, wI_1, r0, r1, r12, r13, r41, r42] at h1
    refine ⟨⟨Nat.zero_le _, Nat.zero_le _⟩, by decide, ?_, ?_⟩
    · simp [-Int32.not_le, -Int32.not_lt, bI, h1]
    · rfl
  · try simp only [wI_M, tk_0, tk_1, tk_2, tk_3, tk_4, tk_5, tk_6, tk_7, tk_8, tk_9, tk_10, tk_11, tk_12, tk_13, tk_14, tk_15, tk_16, tk_17, rd0_2, wr0_2, rd0_3, wr0_3, rd0_4, wr0_4, rd0_5, wr0_5, rd0_6, wr0_6, rd0_7, wr0_7, rd0_8, wr0_8, rd0_9, wr0_9, rd0_10, wr0_10, rd0_11, wr0_11, rd0_12, wr0_12, rd0_13, wr0_13, rd0_14, wr0_14, rd0_15, wr0_15, rd0_16, wr0_16, rd1_0, wr1_0, rd1_1, wr1_1, rd4_0, wr4_0, wI_1, r0, r1, r12, r13, r41, r42] at h1
    refine ⟨⟨Nat.zero_le _, Nat.zero_le _⟩, by decide, ?_, ?_⟩
    · simp [-Int32.not_le, -Int32.not_lt, bI, h1]
    · rfl
set_option maxHeartbeats 1000000 in
theorem T_wearOfSlot {d : Nat} {S : Sc} {M : Nat → Nat → Int32} {J : Nat → Nat → Int64} {b : Nat} {σ : Rw} (hS : OdS S b) {o : Nat} (ho : o = b + 1) {s : Nat} (hs : s < 12) : Wp (d + 2) 8 [.ref o, .int (nI s)] (S, sO M b σ, J) (fun rs w' => rs = .inl (some (.int (rWear σ s))) ∧ w' = (S, sO M b (σ), J)) := by
  subst ho
  obtain ⟨⟨k0, k1, k2, k3, k4, k5, k6⟩, ⟨r0, r1, r12, r13, r41, r42⟩, l2, l3, l5, l6⟩ := id hS
  refine ⟨rfl, ?_⟩
  refine EE.runN (stop := noStop) 100 _ ?_
  refine ⟨⟨Nat.le_of_ble_eq_true rfl, Nat.le_of_ble_eq_true rfl, Nat.le_of_ble_eq_true rfl⟩, by simp only [wI_1, r0, r1, r12, r13, r41, r42, k0, k1, k2, k3, k4, k5, k6] <;> first | rfl | decide, _, T_wearOf (i := 0) hS rfl hs (by omega), ?_⟩
  rintro _ _ ⟨rfl, rfl⟩
  refine ⟨Or.inl rfl, ?_⟩
  refine ⟨⟨Nat.le_of_ble_eq_true rfl, Nat.le_of_ble_eq_true rfl, Nat.le_of_ble_eq_true rfl⟩, by simp only [wI_1, r0, r1, r12, r13, r41, r42, k0, k1, k2, k3, k4, k5, k6] <;> first | rfl | decide, _, T_wearOf (i := 1) hS rfl hs (by omega), ?_⟩
  rintro _ _ ⟨rfl, rfl⟩
  refine ⟨Or.inl rfl, ?_⟩
  refine ⟨⟨Nat.le_of_ble_eq_true rfl, Nat.le_of_ble_eq_true rfl, Nat.le_of_ble_eq_true rfl⟩, by simp only [wI_1, r0, r1, r12, r13, r41, r42, k0, k1, k2, k3, k4, k5, k6] <;> first | rfl | decide, _, T_wearOf (i := 2) hS rfl hs (by omega), ?_⟩
  rintro _ _ ⟨rfl, rfl⟩
  refine ⟨Or.inl rfl, ?_⟩
  refine ⟨⟨Nat.zero_le _, Nat.zero_le _⟩, ?_, rfl⟩
  rw [rWear, Int32.zero_add]
set_option maxHeartbeats 1000000 in
theorem T_spokenBy {d : Nat} {S : Sc} {M : Nat → Nat → Int32} {J : Nat → Nat → Int64} {b : Nat} {σ : Rw} (hS : OdS S b) {o : Nat} (ho : o = b + 1) {s : Nat} (hs : s < 12) : Wp (d + 2) 9 [.ref o, .int (nI s)] (S, sO M b σ, J) (fun rs w' => rs = .inl (some (.int (rSays σ s))) ∧ w' = (S, sO M b (σ), J)) := by
  subst ho
  obtain ⟨⟨k0, k1, k2, k3, k4, k5, k6⟩, ⟨r0, r1, r12, r13, r41, r42⟩, l2, l3, l5, l6⟩ := id hS
  refine ⟨rfl, ?_⟩
  refine EE.runN (stop := noStop) 100 _ ?_
  refine ⟨⟨Nat.le_of_ble_eq_true rfl, Nat.le_of_ble_eq_true rfl, Nat.le_of_ble_eq_true rfl⟩, by simp only [wI_1, r0, r1, r12, r13, r41, r42, k0, k1, k2, k3, k4, k5, k6] <;> first | rfl | decide, _, T_numberIn (i := 0) hS rfl hs (by omega), ?_⟩
  rintro _ _ ⟨rfl, rfl⟩
  refine ⟨Or.inl rfl, ?_⟩
  refine ⟨⟨Nat.le_of_ble_eq_true rfl, Nat.le_of_ble_eq_true rfl, Nat.le_of_ble_eq_true rfl⟩, by simp only [wI_1, r0, r1, r12, r13, r41, r42, k0, k1, k2, k3, k4, k5, k6] <;> first | rfl | decide, _, T_numberIn (i := 1) hS rfl hs (by omega), ?_⟩
  rintro _ _ ⟨rfl, rfl⟩
  refine ⟨Or.inl rfl, ?_⟩
  refine ⟨⟨Nat.le_of_ble_eq_true rfl, Nat.le_of_ble_eq_true rfl, Nat.le_of_ble_eq_true rfl⟩, by simp only [wI_1, r0, r1, r12, r13, r41, r42, k0, k1, k2, k3, k4, k5, k6] <;> first | rfl | decide, _, T_numberIn (i := 2) hS rfl hs (by omega), ?_⟩
  rintro _ _ ⟨rfl, rfl⟩
  refine ⟨Or.inl rfl, ?_⟩
  refine ⟨fun h1 => ?_, fun h1 => ?_⟩
  · refine ⟨⟨Nat.zero_le _, Nat.zero_le _⟩, ?_, rfl⟩
    refine congrArg (fun v => Sum.inl (some (Value.int v))) ?_
    unfold rSays
    generalize σ (42 + 2 * (3 * s + 0)) = x0 at *
    generalize σ (42 + 2 * (3 * s + 1)) = x1 at *
    generalize σ (42 + 2 * (3 * s + 2)) = x2 at *
    clear hS r0 r1 r12 r13 r41 r42 k0 k1 k2 k3 k4 k5 k6 l2 l3 l5 l6
    by_cases a1 : x0 = -99999 <;> by_cases a2 : x1 = -99999 <;> simp_all
  · refine ⟨fun h2 => ?_, fun h2 => ?_⟩
    · refine ⟨fun h3 => ?_, fun h3 => ?_⟩
      · refine ⟨⟨Nat.zero_le _, Nat.zero_le _⟩, ?_, rfl⟩
        refine congrArg (fun v => Sum.inl (some (Value.int v))) ?_
        unfold rSays
        generalize σ (42 + 2 * (3 * s + 0)) = x0 at *
        generalize σ (42 + 2 * (3 * s + 1)) = x1 at *
        generalize σ (42 + 2 * (3 * s + 2)) = x2 at *
        clear hS r0 r1 r12 r13 r41 r42 k0 k1 k2 k3 k4 k5 k6 l2 l3 l5 l6
        by_cases a1 : x0 = -99999 <;> by_cases a2 : x1 = -99999 <;> simp_all
      · refine ⟨⟨Nat.zero_le _, Nat.zero_le _⟩, ?_, rfl⟩
        refine congrArg (fun v => Sum.inl (some (Value.int v))) ?_
        unfold rSays
        generalize σ (42 + 2 * (3 * s + 0)) = x0 at *
        generalize σ (42 + 2 * (3 * s + 1)) = x1 at *
        generalize σ (42 + 2 * (3 * s + 2)) = x2 at *
        clear hS r0 r1 r12 r13 r41 r42 k0 k1 k2 k3 k4 k5 k6 l2 l3 l5 l6
        by_cases a1 : x0 = -99999 <;> by_cases a2 : x1 = -99999 <;> simp_all
    · refine ⟨⟨Nat.zero_le _, Nat.zero_le _⟩, ?_, rfl⟩
      refine congrArg (fun v => Sum.inl (some (Value.int v))) ?_
      unfold rSays
      generalize σ (42 + 2 * (3 * s + 0)) = x0 at *
      generalize σ (42 + 2 * (3 * s + 1)) = x1 at *
      generalize σ (42 + 2 * (3 * s + 2)) = x2 at *
      clear hS r0 r1 r12 r13 r41 r42 k0 k1 k2 k3 k4 k5 k6 l2 l3 l5 l6
      by_cases a1 : x0 = -99999 <;> by_cases a2 : x1 = -99999 <;> simp_all
def rReadable (σ : Rw) (s : Nat) : Nat → Int32
  | 0 => 0
  | k + 1 => if σ (42 + 2 * (3 * s + k)) = -99999 then rReadable σ s k else rReadable σ s k + 1
set_option maxHeartbeats 1000000 in
theorem T_readableIn {d : Nat} {S : Sc} {M : Nat → Nat → Int32} {J : Nat → Nat → Int64} {b : Nat} {σ : Rw} (hS : OdS S b) {o : Nat} (ho : o = b + 1) {s : Nat} (hs : s < 12) : Wp (d + 2) 10 [.ref o, .int (nI s)] (S, sO M b σ, J) (fun rs w' => rs = .inl (some (.int (rReadable σ s 3))) ∧ w' = (S, sO M b (σ), J)) := by
  subst ho
  obtain ⟨⟨k0, k1, k2, k3, k4, k5, k6⟩, ⟨r0, r1, r12, r13, r41, r42⟩, l2, l3, l5, l6⟩ := id hS
  refine ⟨rfl, ?_⟩
  refine EE.runN (stop := atPc [4]) 100 _ ?_
  refine ee_at (nt := nzT 10) [(0, .ref (b + 1)), (1, .int (nI s)), (2, .int (rReadable σ s 0)), (3, .int (nI 0))] (S, sO M b σ, J) rfl (by rfl) (by rfl) ?_
  refine ee_loop (fun k => (4, [(0, .ref (b + 1)), (1, .int (nI s)), (2, .int (rReadable σ s k)), (3, .int (nI k))], [], (S, sO M b σ, J), 0, 0)) (3) (fun k h_k ih_k => ?_) ?_
  · refine EE.runN (stop := atPc [4]) 80 _ ?_
    refine ⟨fun h1 => ?_, fun h1 => ?_⟩
    · exact absurd h1 (nI_ge (b := 3) h_k (by omega))
    · refine ⟨⟨Nat.le_of_ble_eq_true rfl, Nat.le_of_ble_eq_true rfl, Nat.le_of_ble_eq_true rfl⟩, by simp only [wI_1, r0, r1, r12, r13, r41, r42, k0, k1, k2, k3, k4, k5, k6] <;> first | rfl | decide, _, T_numberIn (i := k) hS rfl hs (by omega), ?_⟩
      rintro _ _ ⟨rfl, rfl⟩
      refine ⟨Or.inl rfl, ?_⟩
      refine ⟨fun h2 => ?_, fun h2 => ?_⟩
      · refine ee_at (nt := nzT 10) [(0, .ref (b + 1)), (1, .int (nI s)), (2, .int (rReadable σ s (k + 1))), (3, .int (nI (k + 1)))] (S, sO M b σ, J) rfl (by rw [rReadable, if_pos h2, ← nI_1 k]; rfl) (by rfl) ?_
        exact ih_k
      · refine ee_at (nt := nzT 10) [(0, .ref (b + 1)), (1, .int (nI s)), (2, .int (rReadable σ s (k + 1))), (3, .int (nI (k + 1)))] (S, sO M b σ, J) rfl (by rw [rReadable, if_neg h2, ← nI_1 k]; rfl) (by rfl) ?_
        exact ih_k
  · refine EE.runN (stop := atPc [4]) 80 _ ?_
    refine ⟨fun h3 => ?_, fun h3 => ?_⟩
    · exact ⟨⟨Nat.zero_le _, Nat.zero_le _⟩, rfl, rfl⟩
    · exact absurd (nI_le (Nat.le_refl 3) (by omega)) h3
/-- a cell's write, unless it is stuck -/
def rCell (σ : Rw) (q : Nat) (v : Int32) : Rw := if σ (43 + 2 * q) < σ 2 then upd (upd σ (43 + 2 * q) (σ (43 + 2 * q) + 1)) (42 + 2 * q) v else σ
set_option maxHeartbeats 1000000 in
theorem T_write {d : Nat} {S : Sc} {M : Nat → Nat → Int32} {J : Nat → Nat → Int64} {b : Nat} {σ : Rw} (hS : OdS S b) {o : Nat} (ho : o = b + 1) {s i : Nat} {v : Int32} (hs : s < 12) (hi : i < 3) : Wp (d + 1) 11 [.ref o, .int (nI s), .int (nI i), .int v] (S, sO M b σ, J) (fun rs w' => rs = .inl none ∧ w' = (S, sO M b (rCell σ (3 * s + i) v), J)) := by
  subst ho
  obtain ⟨⟨k0, k1, k2, k3, k4, k5, k6⟩, ⟨r0, r1, r12, r13, r41, r42⟩, l2, l3, l5, l6⟩ := id hS
  have e : nI s * 3 + nI i = nI (3 * s + i) := by rw [o_3, pk_mul, nI_add, Nat.mul_comm]
  have c := ck (k := 3 * s + i) (by omega)
  have q36 : 3 * s + i < 36 := by omega
  have d2 := fun (τ : Rw) => rd2 M b τ q36
  have d3 := fun (τ : Rw) => rd3 M b τ q36
  have u2 := fun (τ : Rw) (x : Int32) => wr2 M b τ x q36
  have u3 := fun (τ : Rw) (x : Int32) => wr3 M b τ x q36
  refine ⟨rfl, ?_⟩
  refine EE.runN (stop := noStop) 120 _ ?_
  refine ⟨fun h1 => ?_, fun h1 => ?_⟩
  · exact absurd (show nI s * 3 + nI i < 0 from h1) (by rw [e]; exact nI_pos (by omega))
  · refine ⟨by simp only [wI_1, r0, r1, r12, r13, r41, r42, k0, k1, k2, k3, k4, k5, k6] <;> first | rfl | decide, ?_⟩
    refine ⟨by simp only [wI_1, r0, r1, r12, r13, r41, r42, k0, k1, k2, k3, k4, k5, k6] <;> first | rfl | decide, ?_⟩
    refine ⟨fun h2 => ?_, fun h2 => ?_⟩
    · (have h_ : Int32.ofNat _ ≤ nI s * 3 + nI i := h2; simp only [wI_1, r0, r1, r12, r13, r41, r42, l2, e] at h_; exact absurd h_ (nI_ge (b := 36) (by omega) (by omega)))
    · refine ⟨by simp only [wI_1, r0, r1, r12, r13, r41, r42, k0, k1, k2, k3, k4, k5, k6] <;> first | rfl | decide, ?_⟩
      refine ⟨by simp only [wI_1, r0, r1, r12, r13, r41, r42, k0, k1, k2, k3, k4, k5, k6] <;> first | rfl | decide, ?_⟩
      refine ⟨fun h3 => ?_, fun h3 => ?_⟩
      · (have h_ : Int32.ofNat _ ≤ nI s * 3 + nI i := h3; simp only [wI_1, r0, r1, r12, r13, r41, r42, l3, e] at h_; exact absurd h_ (nI_ge (b := 36) (by omega) (by omega)))
      · refine ⟨by simp only [wI_1, r0, r1, r12, r13, r41, r42, k0, k1, k2, k3, k4, k5, k6] <;> first | rfl | decide, ?_⟩
        refine ⟨by simp only [wI_1, r0, r1, r12, r13, r41, r42, k0, k1, k2, k3, k4, k5, k6] <;> first | rfl | decide, (by simp only [wI_1, r0, r1, r12, r13, r41, r42, l3, e]; exact vp_in_nI (by omega) (by omega)), ?_⟩
        refine ⟨by simp only [wI_1, r0, r1, r12, r13, r41, r42, k0, k1, k2, k3, k4, k5, k6] <;> first | rfl | decide, ?_⟩
        refine ⟨fun h4 => ?_, fun h4 => ?_⟩
        · refine ⟨by simp only [wI_1, r0, r1, r12, r13, r41, r42, k0, k1, k2, k3, k4, k5, k6] <;> first | rfl | decide, ?_⟩
          refine ⟨by simp only [wI_1, r0, r1, r12, r13, r41, r42, k0, k1, k2, k3, k4, k5, k6] <;> first | rfl | decide, (by simp only [wI_1, r0, r1, r12, r13, r41, r42, l3, e]; exact vp_in_nI (by omega) (by omega)), ?_⟩
          refine ⟨by simp only [wI_1, r0, r1, r12, r13, r41, r42, k0, k1, k2, k3, k4, k5, k6] <;> first | rfl | decide, (by simp only [wI_1, r0, r1, r12, r13, r41, r42, l3, e]; exact vp_in_nI (by omega) (by omega)), ?_⟩
          refine ⟨by simp only [wI_1, r0, r1, r12, r13, r41, r42, k0, k1, k2, k3, k4, k5, k6] <;> first | rfl | decide, ?_⟩
          refine ⟨by simp only [wI_1, r0, r1, r12, r13, r41, r42, k0, k1, k2, k3, k4, k5, k6] <;> first | rfl | decide, (by simp only [wI_1, r0, r1, r12, r13, r41, r42, l2, e]; exact vp_in_nI (by omega) (by omega)), ?_⟩
          simp only [wI_M, tk_0, tk_1, tk_2, tk_3, tk_4, tk_5, tk_6, tk_7, tk_8, tk_9, tk_10, tk_11, tk_12, tk_13, tk_14, tk_15, tk_16, tk_17, rd0_2, wr0_2, rd0_3, wr0_3, rd0_4, wr0_4, rd0_5, wr0_5, rd0_6, wr0_6, rd0_7, wr0_7, rd0_8, wr0_8, rd0_9, wr0_9, rd0_10, wr0_10, rd0_11, wr0_11, rd0_12, wr0_12, rd0_13, wr0_13, rd0_14, wr0_14, rd0_15, wr0_15, rd0_16, wr0_16, rd1_0, wr1_0, rd1_1, wr1_1, rd4_0, wr4_0, wI_1, r0, r1, r12, r13, r41, r42, e, c, d2, d3, u2, u3] at h4
          refine ⟨⟨Nat.zero_le _, Nat.zero_le _⟩, rfl, ?_⟩
          show (S, _, J) = (S, _, J)
          unfold rCell
          first | rw [if_pos (Int32.not_le.mp h4)] | rw [if_neg (Int32.not_lt.mpr h4)] | rw [if_pos h4] | rw [if_neg h4]
          try simp only [wI_M, tk_0, tk_1, tk_2, tk_3, tk_4, tk_5, tk_6, tk_7, tk_8, tk_9, tk_10, tk_11, tk_12, tk_13, tk_14, tk_15, tk_16, tk_17, rd0_2, wr0_2, rd0_3, wr0_3, rd0_4, wr0_4, rd0_5, wr0_5, rd0_6, wr0_6, rd0_7, wr0_7, rd0_8, wr0_8, rd0_9, wr0_9, rd0_10, wr0_10, rd0_11, wr0_11, rd0_12, wr0_12, rd0_13, wr0_13, rd0_14, wr0_14, rd0_15, wr0_15, rd0_16, wr0_16, rd1_0, wr1_0, rd1_1, wr1_1, rd4_0, wr4_0, wI_1, r0, r1, r12, r13, r41, r42, e, c, d2, d3, u2, u3]
        · simp only [wI_M, tk_0, tk_1, tk_2, tk_3, tk_4, tk_5, tk_6, tk_7, tk_8, tk_9, tk_10, tk_11, tk_12, tk_13, tk_14, tk_15, tk_16, tk_17, rd0_2, wr0_2, rd0_3, wr0_3, rd0_4, wr0_4, rd0_5, wr0_5, rd0_6, wr0_6, rd0_7, wr0_7, rd0_8, wr0_8, rd0_9, wr0_9, rd0_10, wr0_10, rd0_11, wr0_11, rd0_12, wr0_12, rd0_13, wr0_13, rd0_14, wr0_14, rd0_15, wr0_15, rd0_16, wr0_16, rd1_0, wr1_0, rd1_1, wr1_1, rd4_0, wr4_0, wI_1, r0, r1, r12, r13, r41, r42, e, c, d2, d3, u2, u3] at h4
          refine ⟨⟨Nat.zero_le _, Nat.zero_le _⟩, rfl, ?_⟩
          show (S, _, J) = (S, _, J)
          unfold rCell
          first | rw [if_pos (Int32.not_le.mp h4)] | rw [if_neg (Int32.not_lt.mpr h4)] | rw [if_pos h4] | rw [if_neg h4]
          try simp only [wI_M, tk_0, tk_1, tk_2, tk_3, tk_4, tk_5, tk_6, tk_7, tk_8, tk_9, tk_10, tk_11, tk_12, tk_13, tk_14, tk_15, tk_16, tk_17, rd0_2, wr0_2, rd0_3, wr0_3, rd0_4, wr0_4, rd0_5, wr0_5, rd0_6, wr0_6, rd0_7, wr0_7, rd0_8, wr0_8, rd0_9, wr0_9, rd0_10, wr0_10, rd0_11, wr0_11, rd0_12, wr0_12, rd0_13, wr0_13, rd0_14, wr0_14, rd0_15, wr0_15, rd0_16, wr0_16, rd1_0, wr1_0, rd1_1, wr1_1, rd4_0, wr4_0, wI_1, r0, r1, r12, r13, r41, r42, e, c, d2, d3, u2, u3]
def cRn (σ : Rw) (s : Nat) : Nat → Rw
  | 0 => σ
  | k + 1 => upd (upd (cRn σ s k) (43 + 2 * (3 * s + k)) 0) (42 + 2 * (3 * s + k)) 0
theorem upd_cm (f : Rw) {a c : Nat} (x y : Int32) (h : a ≠ c) : upd (upd f a x) c y = upd (upd f c y) a x := by
  funext q
  unfold upd
  split <;> split <;> first | rfl | omega
theorem cRn_e (σ : Rw) (s : Nat) : ∀ k, cRn σ s k = rRn σ s k
  | 0 => rfl
  | k + 1 => by
    rw [cRn, rRn, cRn_e σ s k, upd_cm _ _ _ (by omega)]
def cWn (σ : Rw) (s : Nat) : Nat → Int32
  | 0 => 0
  | k + 1 => cWn σ s k + σ (43 + 2 * (3 * s + k))
theorem cRn_w (σ : Rw) (s : Nat) {q : Nat} : ∀ k, 43 + 2 * (3 * s + k) ≤ q → cRn σ s k q = σ q
  | 0, _ => rfl
  | k + 1, h => by rw [cRn, pk_un (by omega), pk_un (by omega), cRn_w σ s k (by omega)]
set_option maxHeartbeats 1000000 in
theorem T_renew {d : Nat} {S : Sc} {M : Nat → Nat → Int32} {J : Nat → Nat → Int64} {b : Nat} {σ : Rw} (hS : OdS S b) {o : Nat} (ho : o = b + 1) {s : Nat} (hs : s < 12) : Wp (d + 1) 12 [.ref o, .int (nI s)] (S, sO M b σ, J) (fun rs w' => rs = .inl (some (.int (rWear σ s))) ∧ w' = (S, sO M b (rRenew σ s), J)) := by
  subst ho
  obtain ⟨⟨k0, k1, k2, k3, k4, k5, k6⟩, ⟨r0, r1, r12, r13, r41, r42⟩, l2, l3, l5, l6⟩ := id hS
  refine ⟨rfl, ?_⟩
  refine EE.runN (stop := atPc [4]) 120 _ ?_
  refine ee_at (nt := nzT 12) [(0, .ref (b + 1)), (1, .int (nI s)), (2, .int (cWn σ s 0)), (3, .int (nI 0))] (S, sO M b (cRn σ s 0), J) rfl (by rfl) (by rfl) ?_
  refine ee_loop (fun k => (4, [(0, .ref (b + 1)), (1, .int (nI s)), (2, .int (cWn σ s k)), (3, .int (nI k))], [], (S, sO M b (cRn σ s k), J), 0, 0)) (3) (fun k h_k ih_k => ?_) ?_
  · refine EE.runN (stop := atPc [4]) 100 _ ?_
    have e : nI s * 3 + nI k = nI (3 * s + k) := by rw [o_3, pk_mul, nI_add, Nat.mul_comm]
    have c := ck (k := 3 * s + k) (by omega)
    have q36 : 3 * s + k < 36 := by omega
    have d2 := fun (τ : Rw) => rd2 M b τ q36
    have d3 := fun (τ : Rw) => rd3 M b τ q36
    have u2 := fun (τ : Rw) (x : Int32) => wr2 M b τ x q36
    have u3 := fun (τ : Rw) (x : Int32) => wr3 M b τ x q36
    have hv : sO M b (cRn σ s k) (S.2.2.2 (b + 1) 3) (nI s * 3 + nI k).toNatClampNeg = σ (43 + 2 * (3 * s + k)) := by rw [r13, e, c, d3, cRn_w σ s k (Nat.le_refl _)]
    refine ⟨fun h1 => ?_, fun h1 => ?_⟩
    · exact absurd h1 (nI_ge (b := 3) h_k (by omega))
    · refine ⟨fun h2 => ?_, fun h2 => ?_⟩
      · exact absurd (show nI s * 3 + nI k < 0 from h2) (by rw [e]; exact nI_pos (by omega))
      · refine ⟨by simp only [wI_1, r0, r1, r12, r13, r41, r42, k0, k1, k2, k3, k4, k5, k6] <;> first | rfl | decide, ?_⟩
        refine ⟨by simp only [wI_1, r0, r1, r12, r13, r41, r42, k0, k1, k2, k3, k4, k5, k6] <;> first | rfl | decide, ?_⟩
        refine ⟨fun h3 => ?_, fun h3 => ?_⟩
        · (have h_ : Int32.ofNat _ ≤ nI s * 3 + nI k := h3; simp only [wI_1, r0, r1, r12, r13, r41, r42, l2, e] at h_; exact absurd h_ (nI_ge (b := 36) (by omega) (by omega)))
        · refine ⟨by simp only [wI_1, r0, r1, r12, r13, r41, r42, k0, k1, k2, k3, k4, k5, k6] <;> first | rfl | decide, ?_⟩
          refine ⟨by simp only [wI_1, r0, r1, r12, r13, r41, r42, k0, k1, k2, k3, k4, k5, k6] <;> first | rfl | decide, ?_⟩
          refine ⟨fun h4 => ?_, fun h4 => ?_⟩
          · (have h_ : Int32.ofNat _ ≤ nI s * 3 + nI k := h4; simp only [wI_1, r0, r1, r12, r13, r41, r42, l3, e] at h_; exact absurd h_ (nI_ge (b := 36) (by omega) (by omega)))
          · refine ⟨by simp only [wI_1, r0, r1, r12, r13, r41, r42, k0, k1, k2, k3, k4, k5, k6] <;> first | rfl | decide, ?_⟩
            refine ⟨by simp only [wI_1, r0, r1, r12, r13, r41, r42, k0, k1, k2, k3, k4, k5, k6] <;> first | rfl | decide, (by simp only [wI_1, r0, r1, r12, r13, r41, r42, l3, e]; exact vp_in_nI (by omega) (by omega)), ?_⟩
            refine ⟨by simp only [wI_1, r0, r1, r12, r13, r41, r42, k0, k1, k2, k3, k4, k5, k6] <;> first | rfl | decide, ?_⟩
            refine ⟨by simp only [wI_1, r0, r1, r12, r13, r41, r42, k0, k1, k2, k3, k4, k5, k6] <;> first | rfl | decide, (by simp only [wI_1, r0, r1, r12, r13, r41, r42, l3, e]; exact vp_in_nI (by omega) (by omega)), ?_⟩
            refine ⟨by simp only [wI_1, r0, r1, r12, r13, r41, r42, k0, k1, k2, k3, k4, k5, k6] <;> first | rfl | decide, ?_⟩
            refine ⟨by simp only [wI_1, r0, r1, r12, r13, r41, r42, k0, k1, k2, k3, k4, k5, k6] <;> first | rfl | decide, (by simp only [wI_1, r0, r1, r12, r13, r41, r42, l2, e]; exact vp_in_nI (by omega) (by omega)), ?_⟩
            refine ee_at (nt := nzT 12) [(0, .ref (b + 1)), (1, .int (nI s)), (2, .int (cWn σ s (k + 1))), (3, .int (nI (k + 1)))] (S, sO M b (cRn σ s (k + 1)), J) rfl (by rw [cWn, ← hv, ← nI_1 k]; rfl) (by show (S, _, J) = (S, _, J); simp only [wI_M, tk_0, tk_1, tk_2, tk_3, tk_4, tk_5, tk_6, tk_7, tk_8, tk_9, tk_10, tk_11, tk_12, tk_13, tk_14, tk_15, tk_16, tk_17, rd0_2, wr0_2, rd0_3, wr0_3, rd0_4, wr0_4, rd0_5, wr0_5, rd0_6, wr0_6, rd0_7, wr0_7, rd0_8, wr0_8, rd0_9, wr0_9, rd0_10, wr0_10, rd0_11, wr0_11, rd0_12, wr0_12, rd0_13, wr0_13, rd0_14, wr0_14, rd0_15, wr0_15, rd0_16, wr0_16, rd1_0, wr1_0, rd1_1, wr1_1, rd4_0, wr4_0, wI_1, r0, r1, r12, r13, r41, r42, e, c, d2, d3, u2, u3]; rfl) ?_
            exact ih_k
  · refine EE.runN (stop := atPc [4]) 100 _ ?_
    refine ⟨fun h5 => ?_, fun h5 => ?_⟩
    · refine ⟨⟨Nat.zero_le _, Nat.zero_le _⟩, rfl, ?_⟩
      show (S, _, J) = (S, _, J)
      rw [cRn_e]
      rfl
    · exact absurd (nI_le (Nat.le_refl 3) (by omega)) h5
end
section
/-! THE CLASS: Cells on, Services: written by wip/whole/pure3.py -/
theorem ee_loopP {S : SF} (P : Nat → Prop) (I : Nat → Fr) (n : Nat) (h0 : P 0) (hs : ∀ k, k < n → P k → (P (k + 1) → EE S (I (k + 1))) → EE S (I k)) (he : P n → EE S (I n)) : EE S (I 0) := by
  have key : ∀ m, m ≤ n → P (n - m) → EE S (I (n - m)) := by
    intro m
    induction m with
    | zero => exact fun _ => he
    | succ m ih =>
      intro hm hp
      have e : n - m = n - (m + 1) + 1 := by omega
      refine hs _ (by omega) hp ?_
      rw [← e]
      exact ih (by omega)
  have := key n (Nat.le_refl n)
  rw [Nat.sub_self] at this
  exact this h0
theorem sO_row (M : Nat → Nat → Int32) (b : Nat) (σ σ' : Rw) (o : Nat) (g : Nat → Int32) (h1 : ∀ k, vw o k < 114 → g k = σ' (vw o k)) (h2 : ∀ k, ¬ vw o k < 114 → g k = M (b + o) k) (h3 : ∀ o' k, o' ≠ o → vw o' k < 114 → σ' (vw o' k) = σ (vw o' k)) : upA (sO M b σ) (b + o) g = sO M b σ' := by
  funext c q
  by_cases hc : c = b + o
  · subst hc
    rw [upA_s]
    unfold sO
    rw [Nat.add_sub_cancel_left]
    by_cases h : vw o q < 114
    · rw [if_pos ⟨Nat.le_add_right _ _, h⟩, h1 q h]
    · rw [if_neg (fun h' => h h'.2), h2 q h]
  · rw [upA_n _ _ hc]
    unfold sO
    by_cases h : b ≤ c ∧ vw (c - b) q < 114
    · rw [if_pos h, if_pos h, h3 _ _ (by omega) h.2]
    · rw [if_neg h, if_neg h]
def cMx (σ : Rw) : Nat → Int32
  | 0 => 0
  | k + 1 => if cMx σ k < σ (43 + 2 * k) then σ (43 + 2 * k) else cMx σ k
def cMn (σ : Rw) : Nat → Int32
  | 0 => 999
  | k + 1 => if σ (43 + 2 * k) < cMn σ k then σ (43 + 2 * k) else cMn σ k
set_option maxHeartbeats 1000000 in
theorem T_wearGap {d : Nat} {S : Sc} {M : Nat → Nat → Int32} {J : Nat → Nat → Int64} {b : Nat} {σ : Rw} (hS : OdS S b) {o : Nat} (ho : o = b + 1) {n : Nat} (h0 : σ 0 = nI n) (hn : n ≤ 12) : Wp (d + 2) 13 [.ref o] (S, sO M b σ, J) (fun rs w' => rs = .inl (some (.int (cMx σ (3 * n) - cMn σ (3 * n)))) ∧ w' = (S, sO M b (σ), J)) := by
  subst ho
  obtain ⟨⟨k0, k1, k2, k3, k4, k5, k6⟩, ⟨r0, r1, r12, r13, r41, r42⟩, l2, l3, l5, l6⟩ := id hS
  refine ⟨rfl, ?_⟩
  refine EE.runN (stop := atPc [8, 19]) 100 _ ?_
  refine ee_at (nt := nzT 13) [(0, .ref (b + 1)), (1, .int (cMx σ (3 * 0))), (2, .int (cMn σ (3 * 0))), (3, .int (nI 0))] (S, sO M b σ, J) rfl (by rfl) (by rfl) ?_
  refine ee_loop (fun k => (8, [(0, .ref (b + 1)), (1, .int (cMx σ (3 * k))), (2, .int (cMn σ (3 * k))), (3, .int (nI k))], [], (S, sO M b σ, J), 0, 0)) (n) (fun k h_k ih_k => ?_) ?_
  · refine EE.runN (stop := atPc [8, 19]) 80 _ ?_
    refine ⟨by simp only [wI_1, r0, r1, r12, r13, r41, r42, k0, k1, k2, k3, k4, k5, k6] <;> first | rfl | decide, ?_⟩
    refine ⟨fun h1 => ?_, fun h1 => ?_⟩
    · (have h_ := h1; simp only [wI_1, r0, r1, r12, r13, r41, r42, rd1_0, h0] at h_; exact absurd h_ (nI_ge h_k (by omega)))
    · refine ee_at (nt := nzT 13) [(0, .ref (b + 1)), (1, .int (cMx σ (3 * k + 0))), (2, .int (cMn σ (3 * k + 0))), (3, .int (nI k)), (4, .int (nI 0))] (S, sO M b σ, J) rfl (by rfl) (by rfl) ?_
      refine ee_loop (fun i => (19, [(0, .ref (b + 1)), (1, .int (cMx σ (3 * k + i))), (2, .int (cMn σ (3 * k + i))), (3, .int (nI k)), (4, .int (nI i))], [], (S, sO M b σ, J), 0, 0)) (3) (fun i h_i ih_i => ?_) ?_
      · refine EE.runN (stop := atPc [8, 19]) 80 _ ?_
        refine ⟨fun h2 => ?_, fun h2 => ?_⟩
        · exact absurd h2 (nI_ge (b := 3) h_i (by omega))
        · refine ⟨⟨Nat.le_of_ble_eq_true rfl, Nat.le_of_ble_eq_true rfl, Nat.le_of_ble_eq_true rfl⟩, by simp only [wI_1, r0, r1, r12, r13, r41, r42, k0, k1, k2, k3, k4, k5, k6] <;> first | rfl | decide, _, T_wearOf (s := k) (i := i) hS rfl (by omega) h_i, ?_⟩
          rintro _ _ ⟨rfl, rfl⟩
          refine ⟨Or.inl rfl, ?_⟩
          refine ⟨⟨Nat.le_of_ble_eq_true rfl, Nat.zero_le _, Nat.zero_le _⟩, ?_⟩
          refine ⟨⟨Nat.le_of_ble_eq_true rfl, Nat.le_of_ble_eq_true rfl, Nat.le_of_ble_eq_true rfl⟩, by simp only [wI_1, r0, r1, r12, r13, r41, r42, k0, k1, k2, k3, k4, k5, k6] <;> first | rfl | decide, _, T_wearOf (s := k) (i := i) hS rfl (by omega) h_i, ?_⟩
          rintro _ _ ⟨rfl, rfl⟩
          refine ⟨Or.inl rfl, ?_⟩
          refine ⟨⟨Nat.le_of_ble_eq_true rfl, Nat.zero_le _, Nat.zero_le _⟩, ?_⟩
          refine ee_at (nt := nzT 13) [(0, .ref (b + 1)), (1, .int (cMx σ (3 * k + (i + 1)))), (2, .int (cMn σ (3 * k + (i + 1)))), (3, .int (nI k)), (4, .int (nI (i + 1)))] (S, sO M b σ, J) rfl (by rw [show 3 * k + (i + 1) = 3 * k + i + 1 from rfl, cMx, cMn, ← nI_1 i]; rfl) (by rfl) ?_
          exact ih_i
      · refine EE.runN (stop := atPc [8, 19]) 80 _ ?_
        refine ⟨fun h3 => ?_, fun h3 => ?_⟩
        · refine ee_at (nt := nzT 13) [(0, .ref (b + 1)), (1, .int (cMx σ (3 * (k + 1)))), (2, .int (cMn σ (3 * (k + 1)))), (3, .int (nI (k + 1)))] (S, sO M b σ, J) rfl (by rw [show 3 * (k + 1) = 3 * k + 3 by omega, ← nI_1 k]; rfl) (by rfl) ?_
          exact ih_k
        · exact absurd (nI_le (Nat.le_refl 3) (by omega)) h3
  · refine EE.runN (stop := atPc [8, 19]) 80 _ ?_
    refine ⟨by simp only [wI_1, r0, r1, r12, r13, r41, r42, k0, k1, k2, k3, k4, k5, k6] <;> first | rfl | decide, ?_⟩
    refine ⟨fun h4 => ?_, fun h4 => ?_⟩
    · exact ⟨⟨Nat.zero_le _, Nat.zero_le _⟩, rfl, rfl⟩
    · (have h_ := h4; simp only [wI_1, r0, r1, r12, r13, r41, r42, rd1_0, h0] at h_; exact absurd (nI_le (Nat.le_refl n) (by omega)) h_)
def cGr (σ : Rw) : Nat → Int32
  | 0 => -99999
  | k + 1 => if rSays σ k ≤ cGr σ k then cGr σ k else rSays σ k
def cFo (σ : Rw) : Nat → Int32
  | 0 => -99999
  | k + 1 => if rSays σ k ≤ cGr σ k then cFo σ k else nI k
set_option maxHeartbeats 1000000 in
theorem T_slotOfGreatest {d : Nat} {S : Sc} {M : Nat → Nat → Int32} {J : Nat → Nat → Int64} {b : Nat} {σ : Rw} (hS : OdS S b) {o : Nat} (ho : o = b + 1) {n : Nat} (h0 : σ 0 = nI n) (hn : n ≤ 12) : Wp (d + 3) 14 [.ref o] (S, sO M b σ, J) (fun rs w' => rs = .inl (some (.int (cFo σ n))) ∧ w' = (S, sO M b (σ), J)) := by
  subst ho
  obtain ⟨⟨k0, k1, k2, k3, k4, k5, k6⟩, ⟨r0, r1, r12, r13, r41, r42⟩, l2, l3, l5, l6⟩ := id hS
  refine ⟨rfl, ?_⟩
  refine EE.runN (stop := atPc [8]) 100 _ ?_
  refine ee_at (nt := nzT 14) [(0, .ref (b + 1)), (1, .int (cFo σ 0)), (2, .int (cGr σ 0)), (3, .int (nI 0))] (S, sO M b σ, J) rfl (by rfl) (by rfl) ?_
  refine ee_loop (fun k => (8, [(0, .ref (b + 1)), (1, .int (cFo σ k)), (2, .int (cGr σ k)), (3, .int (nI k))], [], (S, sO M b σ, J), 0, 0)) (n) (fun k h_k ih_k => ?_) ?_
  · refine EE.runN (stop := atPc [8]) 80 _ ?_
    refine ⟨by simp only [wI_1, r0, r1, r12, r13, r41, r42, k0, k1, k2, k3, k4, k5, k6] <;> first | rfl | decide, ?_⟩
    refine ⟨fun h1 => ?_, fun h1 => ?_⟩
    · (have h_ := h1; simp only [wI_1, r0, r1, r12, r13, r41, r42, rd1_0, h0] at h_; exact absurd h_ (nI_ge h_k (by omega)))
    · refine ⟨⟨Nat.le_of_ble_eq_true rfl, Nat.le_of_ble_eq_true rfl, Nat.le_of_ble_eq_true rfl⟩, by simp only [wI_1, r0, r1, r12, r13, r41, r42, k0, k1, k2, k3, k4, k5, k6] <;> first | rfl | decide, _, T_spokenBy (s := k) hS rfl (by omega), ?_⟩
      rintro _ _ ⟨rfl, rfl⟩
      refine ⟨Or.inl rfl, ?_⟩
      refine ⟨fun h2 => ?_, fun h2 => ?_⟩
      · refine ee_at (nt := nzT 14) [(0, .ref (b + 1)), (1, .int (cFo σ (k + 1))), (2, .int (cGr σ (k + 1))), (3, .int (nI (k + 1)))] (S, sO M b σ, J) rfl (by rw [cFo, cGr, if_pos h2, if_pos h2, ← nI_1 k]; rfl) (by rfl) ?_
        exact ih_k
      · refine ⟨⟨Nat.le_of_ble_eq_true rfl, Nat.le_of_ble_eq_true rfl, Nat.le_of_ble_eq_true rfl⟩, by simp only [wI_1, r0, r1, r12, r13, r41, r42, k0, k1, k2, k3, k4, k5, k6] <;> first | rfl | decide, _, T_spokenBy (s := k) hS rfl (by omega), ?_⟩
        rintro _ _ ⟨rfl, rfl⟩
        refine ⟨Or.inl rfl, ?_⟩
        refine ee_at (nt := nzT 14) [(0, .ref (b + 1)), (1, .int (cFo σ (k + 1))), (2, .int (cGr σ (k + 1))), (3, .int (nI (k + 1)))] (S, sO M b σ, J) rfl (by rw [cFo, cGr, if_neg h2, if_neg h2, ← nI_1 k]; rfl) (by rfl) ?_
        exact ih_k
  · refine EE.runN (stop := atPc [8]) 80 _ ?_
    refine ⟨by simp only [wI_1, r0, r1, r12, r13, r41, r42, k0, k1, k2, k3, k4, k5, k6] <;> first | rfl | decide, ?_⟩
    refine ⟨fun h3 => ?_, fun h3 => ?_⟩
    · exact ⟨⟨Nat.zero_le _, Nat.zero_le _⟩, rfl, rfl⟩
    · (have h_ := h3; simp only [wI_1, r0, r1, r12, r13, r41, r42, rd1_0, h0] at h_; exact absurd (nI_le (Nat.le_refl n) (by omega)) h_)
def rRenAll (σ : Rw) : Nat → Rw
  | 0 => σ
  | k + 1 => rRenew (rRenAll σ k) k
def cMk (σ : Rw) (a c : Int32) : Rw := rRenAll (upd (upd σ 0 (if 12 < a then 12 else a)) 2 c) 12
set_option maxHeartbeats 1000000 in
theorem T_cMakeNew {d : Nat} {S : Sc} {M : Nat → Nat → Int32} {J : Nat → Nat → Int64} {b : Nat} {σ : Rw} (hS : OdS S b) {o : Nat} (ho : o = b + 1) {a c : Int32} : Wp (d + 2) 1 [.ref o, .int a, .int c] (S, sO M b σ, J) (fun rs w' => rs = .inl none ∧ w' = (S, sO M b (cMk σ a c), J)) := by
  subst ho
  obtain ⟨⟨k0, k1, k2, k3, k4, k5, k6⟩, ⟨r0, r1, r12, r13, r41, r42⟩, l2, l3, l5, l6⟩ := id hS
  refine ⟨rfl, ?_⟩
  refine EE.runN (stop := atPc [17]) 100 _ ?_
  refine ⟨⟨Nat.le_of_ble_eq_true rfl, Nat.zero_le _, Nat.zero_le _⟩, ?_⟩
  refine ⟨by simp only [wI_1, r0, r1, r12, r13, r41, r42, k0, k1, k2, k3, k4, k5, k6] <;> first | rfl | decide, trivial, ?_⟩
  refine ⟨by simp only [wI_1, r0, r1, r12, r13, r41, r42, k0, k1, k2, k3, k4, k5, k6] <;> first | rfl | decide, trivial, ?_⟩
  refine ee_at (nt := nzT 1) [(0, .ref (b + 1)), (3, .int (nI 0))] (S, sO M b (rRenAll (upd (upd σ 0 (if 12 < a then 12 else a)) 2 c) 0), J) rfl (by rfl) (by show (S, _, J) = (S, _, J); simp only [wI_M, tk_0, tk_1, tk_2, tk_3, tk_4, tk_5, tk_6, tk_7, tk_8, tk_9, tk_10, tk_11, tk_12, tk_13, tk_14, tk_15, tk_16, tk_17, rd0_2, wr0_2, rd0_3, wr0_3, rd0_4, wr0_4, rd0_5, wr0_5, rd0_6, wr0_6, rd0_7, wr0_7, rd0_8, wr0_8, rd0_9, wr0_9, rd0_10, wr0_10, rd0_11, wr0_11, rd0_12, wr0_12, rd0_13, wr0_13, rd0_14, wr0_14, rd0_15, wr0_15, rd0_16, wr0_16, rd1_0, wr1_0, rd1_1, wr1_1, rd4_0, wr4_0, wI_1, r0, r1, r12, r13, r41, r42]; rfl) ?_
  refine ee_loop (fun k => (17, [(0, .ref (b + 1)), (3, .int (nI k))], [], (S, sO M b (rRenAll (upd (upd σ 0 (if 12 < a then 12 else a)) 2 c) k), J), 0, 0)) (12) (fun k h_k ih_k => ?_) ?_
  · refine EE.runN (stop := atPc [17]) 80 _ ?_
    refine ⟨fun h1 => ?_, fun h1 => ?_⟩
    · exact absurd h1 (nI_ge (b := 12) h_k (by omega))
    · refine ⟨⟨Nat.le_of_ble_eq_true rfl, Nat.le_of_ble_eq_true rfl, Nat.le_of_ble_eq_true rfl⟩, by simp only [wI_1, r0, r1, r12, r13, r41, r42, k0, k1, k2, k3, k4, k5, k6] <;> first | rfl | decide, _, T_renew (s := k) hS rfl (by omega), ?_⟩
      rintro _ _ ⟨rfl, rfl⟩
      refine ⟨Or.inl rfl, ?_⟩
      refine ee_at (nt := nzT 1) [(0, .ref (b + 1)), (3, .int (nI (k + 1)))] (S, sO M b (rRenAll (upd (upd σ 0 (if 12 < a then 12 else a)) 2 c) (k + 1)), J) rfl (by rw [← nI_1 k]; rfl) (by rfl) ?_
      exact ih_k
  · refine EE.runN (stop := atPc [17]) 80 _ ?_
    refine ⟨fun h2 => ?_, fun h2 => ?_⟩
    · exact ⟨⟨Nat.zero_le _, Nat.zero_le _⟩, rfl, rfl⟩
    · exact absurd (nI_le (Nat.le_refl 12) (by omega)) h2
theorem cp_row (M : Nat → Nat → Int32) (b : Nat) (σ : Rw) (o base N : Nat) (f : Nat → Int32) (ho : o = 2 ∧ base = 42 ∧ N = 36 ∨ o = 3 ∧ base = 43 ∧ N = 36 ∨ o = 5 ∧ base = 18 ∧ N = 12 ∨ o = 6 ∧ base = 19 ∧ N = 12) : upA (sO M b σ) (b + o) (va_cpy f (sO M b σ (b + o)) 0 0 N) = sO M b (fun q => if (ps q).1 = o ∧ (ps q).2 < N then f (ps q).2 else σ q) := by
  have hv : ∀ k, vw o k = if k < N then base + 2 * k else 114 := by
    intro k
    rcases ho with ⟨rfl, rfl, rfl⟩ | ⟨rfl, rfl, rfl⟩ | ⟨rfl, rfl, rfl⟩ | ⟨rfl, rfl, rfl⟩ <;> rfl
  refine sO_row M b σ _ o _ (fun k hk => ?_) (fun k hk => ?_) (fun o' k hne hk => ?_)
  · have e := ps_vw o k hk
    have hkN : k < N := by
      rw [hv] at hk
      split at hk
      · assumption
      · omega
    rw [e]
    rw [if_pos ⟨rfl, hkN⟩]
    unfold va_cpy
    rw [if_pos (by omega)]
    congr 1
    omega
  · have hkN : ¬ k < N := by
      intro h
      rw [hv, if_pos h] at hk
      rcases ho with ⟨rfl, rfl, rfl⟩ | ⟨rfl, rfl, rfl⟩ | ⟨rfl, rfl, rfl⟩ | ⟨rfl, rfl, rfl⟩ <;> omega
    unfold va_cpy
    rw [if_neg (by omega)]
    unfold sO
    rw [Nat.add_sub_cancel_left, if_neg (fun h => hk h.2)]
  · have e := ps_vw o' k hk
    rw [e, if_neg (fun h => hne h.1)]
def cpC (σ τ : Rw) : Rw := fun q => if q = 0 ∨ q = 2 ∨ 42 ≤ q then τ q else σ q
def cpS (σ τ : Rw) : Rw := fun q => if 17 ≤ q ∧ q < 42 then τ q else σ q
theorem ps_hi : ∀ q, q < 114 → ((ps q).1 = 2 ∧ (ps q).2 < 36 ∨ (ps q).1 = 3 ∧ (ps q).2 < 36 ↔ 42 ≤ q) ∧ ((ps q).1 = 5 ∧ (ps q).2 < 12 ∨ (ps q).1 = 6 ∧ (ps q).2 < 12 ↔ 18 ≤ q ∧ q < 42) := by decide
theorem vO_at (M : Nat → Nat → Int32) (b : Nat) {q o k : Nat} (h1 : (ps q).1 = o) (h2 : (ps q).2 = k) : vO M b q = M (b + o) k := by
  unfold vO
  rw [h1, h2]
end
section
/-! THE CLASS: becomeLike: written by wip/whole/pure3.py -/
theorem m36 : ((if Int32.ofNat 36 < Int32.ofNat 36 then Int32.ofNat 36 else Int32.ofNat 36) : Int32).toNatClampNeg = 36 := by decide
theorem m12 : ((if Int32.ofNat 12 < Int32.ofNat 12 then Int32.ofNat 12 else Int32.ofNat 12) : Int32).toNatClampNeg = 12 := by decide
set_option maxHeartbeats 1000000 in
theorem T_cLike {d : Nat} {S : Sc} {M : Nat → Nat → Int32} {J : Nat → Nat → Int64} {b : Nat} {σ : Rw} (hS : OdS S b) {o : Nat} (ho : o = b + 1) {b2 o2 : Nat} (ho2 : o2 = b2 + 1) (hS2 : OdS S b2) (hd : b2 + 7 ≤ b ∨ b + 7 ≤ b2) : Wp (d + 1) 2 [.ref o, .ref o2] (S, sO M b σ, J) (fun rs w' => rs = .inl none ∧ w' = (S, sO M b (cpC σ (vO M b2)), J)) := by
  subst ho
  obtain ⟨⟨k0, k1, k2, k3, k4, k5, k6⟩, ⟨r0, r1, r12, r13, r41, r42⟩, l2, l3, l5, l6⟩ := id hS
  subst ho2
  obtain ⟨⟨y0, y1, y2, y3, y4, y5, y6⟩, ⟨x0, x1, x12, x13, x41, x42⟩, z2, z3, z5, z6⟩ := id hS2
  have ot1 := fun (τ : Rw) => sO_ot M b τ (c := b2 + 1) (by omega)
  have ot2 := fun (τ : Rw) => sO_ot M b τ (c := b2 + 2) (by omega)
  have ot3 := fun (τ : Rw) => sO_ot M b τ (c := b2 + 3) (by omega)
  have ot4 := fun (τ : Rw) => sO_ot M b τ (c := b2 + 4) (by omega)
  have ot5 := fun (τ : Rw) => sO_ot M b τ (c := b2 + 5) (by omega)
  have ot6 := fun (τ : Rw) => sO_ot M b τ (c := b2 + 6) (by omega)
  have ot0 := fun (τ : Rw) => sO_ot M b τ (c := b2) (by omega)
  refine ⟨rfl, ?_⟩
  refine EE.runN (stop := noStop) 100 _ ?_
  refine ⟨by simp only [wI_1, r0, r1, r12, r13, r41, r42, x0, x1, x12, x13, x41, x42, k0, k1, k2, k3, k4, k5, k6, y0, y1, y2, y3, y4, y5, y6] <;> first | rfl | decide, ?_⟩
  refine ⟨by simp only [wI_1, r0, r1, r12, r13, r41, r42, x0, x1, x12, x13, x41, x42, k0, k1, k2, k3, k4, k5, k6, y0, y1, y2, y3, y4, y5, y6] <;> first | rfl | decide, trivial, ?_⟩
  refine ⟨by simp only [wI_1, r0, r1, r12, r13, r41, r42, x0, x1, x12, x13, x41, x42, k0, k1, k2, k3, k4, k5, k6, y0, y1, y2, y3, y4, y5, y6] <;> first | rfl | decide, ?_⟩
  refine ⟨by simp only [wI_1, r0, r1, r12, r13, r41, r42, x0, x1, x12, x13, x41, x42, k0, k1, k2, k3, k4, k5, k6, y0, y1, y2, y3, y4, y5, y6] <;> first | rfl | decide, trivial, ?_⟩
  refine ⟨by simp only [wI_1, r0, r1, r12, r13, r41, r42, x0, x1, x12, x13, x41, x42, k0, k1, k2, k3, k4, k5, k6, y0, y1, y2, y3, y4, y5, y6] <;> first | rfl | decide, ?_⟩
  refine ⟨by simp only [wI_1, r0, r1, r12, r13, r41, r42, x0, x1, x12, x13, x41, x42, k0, k1, k2, k3, k4, k5, k6, y0, y1, y2, y3, y4, y5, y6] <;> first | rfl | decide, ?_⟩
  refine ⟨by simp only [wI_1, r0, r1, r12, r13, r41, r42, x0, x1, x12, x13, x41, x42, k0, k1, k2, k3, k4, k5, k6, y0, y1, y2, y3, y4, y5, y6] <;> first | rfl | decide, ?_⟩
  refine ⟨by simp only [wI_1, r0, r1, r12, r13, r41, r42, x0, x1, x12, x13, x41, x42, k0, k1, k2, k3, k4, k5, k6, y0, y1, y2, y3, y4, y5, y6] <;> first | rfl | decide, ?_⟩
  refine ⟨by simp only [wI_1, r0, r1, r12, r13, r41, r42, x0, x1, x12, x13, x41, x42, k0, k1, k2, k3, k4, k5, k6, y0, y1, y2, y3, y4, y5, y6] <;> first | rfl | decide, ?_⟩
  refine ⟨by simp only [wI_1, r0, r1, r12, r13, r41, r42, x0, x1, x12, x13, x41, x42, k0, k1, k2, k3, k4, k5, k6, y0, y1, y2, y3, y4, y5, y6] <;> first | rfl | decide, ?_⟩
  refine ⟨⟨Nat.le_of_ble_eq_true rfl, Nat.zero_le _, Nat.zero_le _⟩, ?_⟩
  refine ⟨⟨Nat.le_of_ble_eq_true rfl, by simp only [wI_1, r0, r1, r12, r13, r41, r42, x0, x1, x12, x13, x41, x42, k0, k1, k2, k3, k4, k5, k6, y0, y1, y2, y3, y4, y5, y6] <;> first | rfl | decide, by simp only [wI_1, r0, r1, r12, r13, r41, r42, x0, x1, x12, x13, x41, x42, k0, k1, k2, k3, k4, k5, k6, y0, y1, y2, y3, y4, y5, y6] <;> first | rfl | decide, (by simp only [wI_1, r0, r1, r12, r13, r41, r42, x0, x1, x12, x13, x41, x42, l2, l3, l5, l6, z2, z3, z5, z6]; decide)⟩, ?_⟩
  refine ⟨by simp only [wI_1, r0, r1, r12, r13, r41, r42, x0, x1, x12, x13, x41, x42, k0, k1, k2, k3, k4, k5, k6, y0, y1, y2, y3, y4, y5, y6] <;> first | rfl | decide, ?_⟩
  refine ⟨by simp only [wI_1, r0, r1, r12, r13, r41, r42, x0, x1, x12, x13, x41, x42, k0, k1, k2, k3, k4, k5, k6, y0, y1, y2, y3, y4, y5, y6] <;> first | rfl | decide, ?_⟩
  refine ⟨by simp only [wI_1, r0, r1, r12, r13, r41, r42, x0, x1, x12, x13, x41, x42, k0, k1, k2, k3, k4, k5, k6, y0, y1, y2, y3, y4, y5, y6] <;> first | rfl | decide, ?_⟩
  refine ⟨by simp only [wI_1, r0, r1, r12, r13, r41, r42, x0, x1, x12, x13, x41, x42, k0, k1, k2, k3, k4, k5, k6, y0, y1, y2, y3, y4, y5, y6] <;> first | rfl | decide, ?_⟩
  refine ⟨by simp only [wI_1, r0, r1, r12, r13, r41, r42, x0, x1, x12, x13, x41, x42, k0, k1, k2, k3, k4, k5, k6, y0, y1, y2, y3, y4, y5, y6] <;> first | rfl | decide, ?_⟩
  refine ⟨by simp only [wI_1, r0, r1, r12, r13, r41, r42, x0, x1, x12, x13, x41, x42, k0, k1, k2, k3, k4, k5, k6, y0, y1, y2, y3, y4, y5, y6] <;> first | rfl | decide, ?_⟩
  refine ⟨⟨Nat.le_of_ble_eq_true rfl, Nat.zero_le _, Nat.zero_le _⟩, ?_⟩
  refine ⟨⟨Nat.le_of_ble_eq_true rfl, by simp only [wI_1, r0, r1, r12, r13, r41, r42, x0, x1, x12, x13, x41, x42, k0, k1, k2, k3, k4, k5, k6, y0, y1, y2, y3, y4, y5, y6] <;> first | rfl | decide, by simp only [wI_1, r0, r1, r12, r13, r41, r42, x0, x1, x12, x13, x41, x42, k0, k1, k2, k3, k4, k5, k6, y0, y1, y2, y3, y4, y5, y6] <;> first | rfl | decide, (by simp only [wI_1, r0, r1, r12, r13, r41, r42, x0, x1, x12, x13, x41, x42, l2, l3, l5, l6, z2, z3, z5, z6]; decide)⟩, ?_⟩
  refine ⟨⟨Nat.zero_le _, Nat.zero_le _⟩, rfl, ?_⟩
  show (S, _, J) = (S, _, J)
  refine congrArg (fun m => (S, m, J)) ?_
  simp only [wI_M, tk_0, tk_1, tk_2, tk_3, tk_4, tk_5, tk_6, tk_7, tk_8, tk_9, tk_10, tk_11, tk_12, tk_13, tk_14, tk_15, tk_16, tk_17, rd0_2, wr0_2, rd0_3, wr0_3, rd0_4, wr0_4, rd0_5, wr0_5, rd0_6, wr0_6, rd0_7, wr0_7, rd0_8, wr0_8, rd0_9, wr0_9, rd0_10, wr0_10, rd0_11, wr0_11, rd0_12, wr0_12, rd0_13, wr0_13, rd0_14, wr0_14, rd0_15, wr0_15, rd0_16, wr0_16, rd1_0, wr1_0, rd1_1, wr1_1, rd4_0, wr4_0, wI_1, r0, r1, r12, r13, r41, r42, x0, x1, x12, x13, x41, x42, l2, l3, l5, l6, z2, z3, z5, z6, m36, m12, ot0, ot1, ot2, ot3, ot4, ot5, ot6]
  rw [cp_row M b _ 2 42 36 (M (b2 + 2)) (by decide)]
  simp only [wI_M, tk_0, tk_1, tk_2, tk_3, tk_4, tk_5, tk_6, tk_7, tk_8, tk_9, tk_10, tk_11, tk_12, tk_13, tk_14, tk_15, tk_16, tk_17, rd0_2, wr0_2, rd0_3, wr0_3, rd0_4, wr0_4, rd0_5, wr0_5, rd0_6, wr0_6, rd0_7, wr0_7, rd0_8, wr0_8, rd0_9, wr0_9, rd0_10, wr0_10, rd0_11, wr0_11, rd0_12, wr0_12, rd0_13, wr0_13, rd0_14, wr0_14, rd0_15, wr0_15, rd0_16, wr0_16, rd1_0, wr1_0, rd1_1, wr1_1, rd4_0, wr4_0, wI_1, r0, r1, r12, r13, r41, r42, x0, x1, x12, x13, x41, x42, l2, l3, l5, l6, z2, z3, z5, z6, m36, m12, ot0, ot1, ot2, ot3, ot4, ot5, ot6]
  rw [cp_row M b _ 3 43 36 (M (b2 + 3)) (by decide)]
  refine sO_cg M b (fun q hq => ?_)
  have hp := ps_hi q hq
  unfold cpC
  by_cases a3 : (ps q).1 = 3 ∧ (ps q).2 < 36
  · rw [if_pos a3, if_pos (Or.inr (Or.inr (hp.1.mp (Or.inr a3))))]
    exact (vO_at M b2 a3.1 rfl).symm
  · rw [if_neg a3]
    by_cases a2 : (ps q).1 = 2 ∧ (ps q).2 < 36
    · rw [if_pos a2, if_pos (Or.inr (Or.inr (hp.1.mp (Or.inl a2))))]
      exact (vO_at M b2 a2.1 rfl).symm
    · rw [if_neg a2]
      have h42 : ¬ 42 ≤ q := fun h => (hp.1.mpr h).elim a2 a3
      by_cases q2 : q = 2
      · subst q2
        rw [if_pos (Or.inr (Or.inl rfl)), pk_us]
        rfl
      · rw [pk_un q2]
        by_cases q0 : q = 0
        · subst q0
          rw [if_pos (Or.inl rfl), pk_us]
          rfl
        · rw [pk_un q0, if_neg (by omega)]
set_option maxHeartbeats 1000000 in
theorem T_sLike {d : Nat} {S : Sc} {M : Nat → Nat → Int32} {J : Nat → Nat → Int64} {b : Nat} {σ : Rw} (hS : OdS S b) {o : Nat} (ho : o = b + 4) {b2 o2 : Nat} (ho2 : o2 = b2 + 4) (hS2 : OdS S b2) (hd : b2 + 7 ≤ b ∨ b + 7 ≤ b2) : Wp (d + 1) 39 [.ref o, .ref o2] (S, sO M b σ, J) (fun rs w' => rs = .inl none ∧ w' = (S, sO M b (cpS σ (vO M b2)), J)) := by
  subst ho
  obtain ⟨⟨k0, k1, k2, k3, k4, k5, k6⟩, ⟨r0, r1, r12, r13, r41, r42⟩, l2, l3, l5, l6⟩ := id hS
  subst ho2
  obtain ⟨⟨y0, y1, y2, y3, y4, y5, y6⟩, ⟨x0, x1, x12, x13, x41, x42⟩, z2, z3, z5, z6⟩ := id hS2
  have ot1 := fun (τ : Rw) => sO_ot M b τ (c := b2 + 1) (by omega)
  have ot2 := fun (τ : Rw) => sO_ot M b τ (c := b2 + 2) (by omega)
  have ot3 := fun (τ : Rw) => sO_ot M b τ (c := b2 + 3) (by omega)
  have ot4 := fun (τ : Rw) => sO_ot M b τ (c := b2 + 4) (by omega)
  have ot5 := fun (τ : Rw) => sO_ot M b τ (c := b2 + 5) (by omega)
  have ot6 := fun (τ : Rw) => sO_ot M b τ (c := b2 + 6) (by omega)
  have ot0 := fun (τ : Rw) => sO_ot M b τ (c := b2) (by omega)
  refine ⟨rfl, ?_⟩
  refine EE.runN (stop := noStop) 100 _ ?_
  refine ⟨by simp only [wI_1, r0, r1, r12, r13, r41, r42, x0, x1, x12, x13, x41, x42, k0, k1, k2, k3, k4, k5, k6, y0, y1, y2, y3, y4, y5, y6] <;> first | rfl | decide, ?_⟩
  refine ⟨by simp only [wI_1, r0, r1, r12, r13, r41, r42, x0, x1, x12, x13, x41, x42, k0, k1, k2, k3, k4, k5, k6, y0, y1, y2, y3, y4, y5, y6] <;> first | rfl | decide, trivial, ?_⟩
  refine ⟨by simp only [wI_1, r0, r1, r12, r13, r41, r42, x0, x1, x12, x13, x41, x42, k0, k1, k2, k3, k4, k5, k6, y0, y1, y2, y3, y4, y5, y6] <;> first | rfl | decide, ?_⟩
  refine ⟨by simp only [wI_1, r0, r1, r12, r13, r41, r42, x0, x1, x12, x13, x41, x42, k0, k1, k2, k3, k4, k5, k6, y0, y1, y2, y3, y4, y5, y6] <;> first | rfl | decide, ?_⟩
  refine ⟨by simp only [wI_1, r0, r1, r12, r13, r41, r42, x0, x1, x12, x13, x41, x42, k0, k1, k2, k3, k4, k5, k6, y0, y1, y2, y3, y4, y5, y6] <;> first | rfl | decide, ?_⟩
  refine ⟨by simp only [wI_1, r0, r1, r12, r13, r41, r42, x0, x1, x12, x13, x41, x42, k0, k1, k2, k3, k4, k5, k6, y0, y1, y2, y3, y4, y5, y6] <;> first | rfl | decide, ?_⟩
  refine ⟨by simp only [wI_1, r0, r1, r12, r13, r41, r42, x0, x1, x12, x13, x41, x42, k0, k1, k2, k3, k4, k5, k6, y0, y1, y2, y3, y4, y5, y6] <;> first | rfl | decide, ?_⟩
  refine ⟨by simp only [wI_1, r0, r1, r12, r13, r41, r42, x0, x1, x12, x13, x41, x42, k0, k1, k2, k3, k4, k5, k6, y0, y1, y2, y3, y4, y5, y6] <;> first | rfl | decide, ?_⟩
  refine ⟨⟨Nat.le_of_ble_eq_true rfl, Nat.zero_le _, Nat.zero_le _⟩, ?_⟩
  refine ⟨⟨Nat.le_of_ble_eq_true rfl, by simp only [wI_1, r0, r1, r12, r13, r41, r42, x0, x1, x12, x13, x41, x42, k0, k1, k2, k3, k4, k5, k6, y0, y1, y2, y3, y4, y5, y6] <;> first | rfl | decide, by simp only [wI_1, r0, r1, r12, r13, r41, r42, x0, x1, x12, x13, x41, x42, k0, k1, k2, k3, k4, k5, k6, y0, y1, y2, y3, y4, y5, y6] <;> first | rfl | decide, (by simp only [wI_1, r0, r1, r12, r13, r41, r42, x0, x1, x12, x13, x41, x42, l2, l3, l5, l6, z2, z3, z5, z6]; decide)⟩, ?_⟩
  refine ⟨by simp only [wI_1, r0, r1, r12, r13, r41, r42, x0, x1, x12, x13, x41, x42, k0, k1, k2, k3, k4, k5, k6, y0, y1, y2, y3, y4, y5, y6] <;> first | rfl | decide, ?_⟩
  refine ⟨by simp only [wI_1, r0, r1, r12, r13, r41, r42, x0, x1, x12, x13, x41, x42, k0, k1, k2, k3, k4, k5, k6, y0, y1, y2, y3, y4, y5, y6] <;> first | rfl | decide, ?_⟩
  refine ⟨by simp only [wI_1, r0, r1, r12, r13, r41, r42, x0, x1, x12, x13, x41, x42, k0, k1, k2, k3, k4, k5, k6, y0, y1, y2, y3, y4, y5, y6] <;> first | rfl | decide, ?_⟩
  refine ⟨by simp only [wI_1, r0, r1, r12, r13, r41, r42, x0, x1, x12, x13, x41, x42, k0, k1, k2, k3, k4, k5, k6, y0, y1, y2, y3, y4, y5, y6] <;> first | rfl | decide, ?_⟩
  refine ⟨by simp only [wI_1, r0, r1, r12, r13, r41, r42, x0, x1, x12, x13, x41, x42, k0, k1, k2, k3, k4, k5, k6, y0, y1, y2, y3, y4, y5, y6] <;> first | rfl | decide, ?_⟩
  refine ⟨by simp only [wI_1, r0, r1, r12, r13, r41, r42, x0, x1, x12, x13, x41, x42, k0, k1, k2, k3, k4, k5, k6, y0, y1, y2, y3, y4, y5, y6] <;> first | rfl | decide, ?_⟩
  refine ⟨⟨Nat.le_of_ble_eq_true rfl, Nat.zero_le _, Nat.zero_le _⟩, ?_⟩
  refine ⟨⟨Nat.le_of_ble_eq_true rfl, by simp only [wI_1, r0, r1, r12, r13, r41, r42, x0, x1, x12, x13, x41, x42, k0, k1, k2, k3, k4, k5, k6, y0, y1, y2, y3, y4, y5, y6] <;> first | rfl | decide, by simp only [wI_1, r0, r1, r12, r13, r41, r42, x0, x1, x12, x13, x41, x42, k0, k1, k2, k3, k4, k5, k6, y0, y1, y2, y3, y4, y5, y6] <;> first | rfl | decide, (by simp only [wI_1, r0, r1, r12, r13, r41, r42, x0, x1, x12, x13, x41, x42, l2, l3, l5, l6, z2, z3, z5, z6]; decide)⟩, ?_⟩
  refine ⟨⟨Nat.zero_le _, Nat.zero_le _⟩, rfl, ?_⟩
  show (S, _, J) = (S, _, J)
  refine congrArg (fun m => (S, m, J)) ?_
  simp only [wI_M, tk_0, tk_1, tk_2, tk_3, tk_4, tk_5, tk_6, tk_7, tk_8, tk_9, tk_10, tk_11, tk_12, tk_13, tk_14, tk_15, tk_16, tk_17, rd0_2, wr0_2, rd0_3, wr0_3, rd0_4, wr0_4, rd0_5, wr0_5, rd0_6, wr0_6, rd0_7, wr0_7, rd0_8, wr0_8, rd0_9, wr0_9, rd0_10, wr0_10, rd0_11, wr0_11, rd0_12, wr0_12, rd0_13, wr0_13, rd0_14, wr0_14, rd0_15, wr0_15, rd0_16, wr0_16, rd1_0, wr1_0, rd1_1, wr1_1, rd4_0, wr4_0, wI_1, r0, r1, r12, r13, r41, r42, x0, x1, x12, x13, x41, x42, l2, l3, l5, l6, z2, z3, z5, z6, m36, m12, ot0, ot1, ot2, ot3, ot4, ot5, ot6]
  rw [cp_row M b _ 5 18 12 (M (b2 + 5)) (by decide)]
  simp only [wI_M, tk_0, tk_1, tk_2, tk_3, tk_4, tk_5, tk_6, tk_7, tk_8, tk_9, tk_10, tk_11, tk_12, tk_13, tk_14, tk_15, tk_16, tk_17, rd0_2, wr0_2, rd0_3, wr0_3, rd0_4, wr0_4, rd0_5, wr0_5, rd0_6, wr0_6, rd0_7, wr0_7, rd0_8, wr0_8, rd0_9, wr0_9, rd0_10, wr0_10, rd0_11, wr0_11, rd0_12, wr0_12, rd0_13, wr0_13, rd0_14, wr0_14, rd0_15, wr0_15, rd0_16, wr0_16, rd1_0, wr1_0, rd1_1, wr1_1, rd4_0, wr4_0, wI_1, r0, r1, r12, r13, r41, r42, x0, x1, x12, x13, x41, x42, l2, l3, l5, l6, z2, z3, z5, z6, m36, m12, ot0, ot1, ot2, ot3, ot4, ot5, ot6]
  rw [cp_row M b _ 6 19 12 (M (b2 + 6)) (by decide)]
  refine sO_cg M b (fun q hq => ?_)
  have hp := ps_hi q hq
  unfold cpS
  by_cases a3 : (ps q).1 = 6 ∧ (ps q).2 < 12
  · rw [if_pos a3, if_pos (by have := hp.2.mp (Or.inr a3); omega)]
    exact (vO_at M b2 a3.1 rfl).symm
  · rw [if_neg a3]
    by_cases a2 : (ps q).1 = 5 ∧ (ps q).2 < 12
    · rw [if_pos a2, if_pos (by have := hp.2.mp (Or.inl a2); omega)]
      exact (vO_at M b2 a2.1 rfl).symm
    · rw [if_neg a2]
      have h42 : ¬ (18 ≤ q ∧ q < 42) := fun h => (hp.2.mpr h).elim a2 a3
      by_cases q2 : q = 17
      · subst q2
        rw [if_pos (by omega), pk_us]
        rfl
      · rw [pk_un q2, if_neg (by omega)]
set_option maxRecDepth 4000 in
set_option maxHeartbeats 1000000 in
theorem T_oLike {d : Nat} {S : Sc} {M : Nat → Nat → Int32} {J : Nat → Nat → Int64} {b : Nat} {σ : Rw} (hS : OdS S b) {b2 : Nat} (hS2 : OdS S b2) (hd : b2 + 7 ≤ b ∨ b + 7 ≤ b2) (B3 : vO M b2 3 = 0 ∨ vO M b2 3 = 1) (B4 : vO M b2 12 = 0 ∨ vO M b2 12 = 1) : Wp (d + 2) 21 [.ref b, .ref b2] (S, sO M b σ, J) (fun rs w' => rs = .inl none ∧ w' = (S, sO M b (vO M b2), J)) := by
  obtain ⟨⟨k0, k1, k2, k3, k4, k5, k6⟩, ⟨r0, r1, r12, r13, r41, r42⟩, l2, l3, l5, l6⟩ := id hS
  obtain ⟨⟨y0, y1, y2, y3, y4, y5, y6⟩, ⟨x0, x1, x12, x13, x41, x42⟩, z2, z3, z5, z6⟩ := id hS2
  have ot1 := fun (τ : Rw) => sO_ot M b τ (c := b2 + 1) (by omega)
  have ot2 := fun (τ : Rw) => sO_ot M b τ (c := b2 + 2) (by omega)
  have ot3 := fun (τ : Rw) => sO_ot M b τ (c := b2 + 3) (by omega)
  have ot4 := fun (τ : Rw) => sO_ot M b τ (c := b2 + 4) (by omega)
  have ot5 := fun (τ : Rw) => sO_ot M b τ (c := b2 + 5) (by omega)
  have ot6 := fun (τ : Rw) => sO_ot M b τ (c := b2 + 6) (by omega)
  have ot0 := fun (τ : Rw) => sO_ot M b τ (c := b2) (by omega)
  refine ⟨rfl, ?_⟩
  refine EE.runN (stop := noStop) 120 _ ?_
  refine ⟨by simp only [wI_1, r0, r1, r12, r13, r41, r42, x0, x1, x12, x13, x41, x42, k0, k1, k2, k3, k4, k5, k6, y0, y1, y2, y3, y4, y5, y6] <;> first | rfl | decide, ?_⟩
  refine ⟨by simp only [wI_1, r0, r1, r12, r13, r41, r42, x0, x1, x12, x13, x41, x42, k0, k1, k2, k3, k4, k5, k6, y0, y1, y2, y3, y4, y5, y6] <;> first | rfl | decide, ?_⟩
  refine ⟨⟨Nat.le_of_ble_eq_true rfl, Nat.le_of_ble_eq_true rfl, Nat.le_of_ble_eq_true rfl⟩, by simp only [wI_1, r0, r1, r12, r13, r41, r42, x0, x1, x12, x13, x41, x42, k0, k1, k2, k3, k4, k5, k6, y0, y1, y2, y3, y4, y5, y6] <;> first | rfl | decide, _, T_cLike hS r0 x0 hS2 hd, ?_⟩
  rintro _ _ ⟨rfl, rfl⟩
  refine ⟨Or.inl rfl, ?_⟩
  refine ⟨by simp only [wI_1, r0, r1, r12, r13, r41, r42, x0, x1, x12, x13, x41, x42, k0, k1, k2, k3, k4, k5, k6, y0, y1, y2, y3, y4, y5, y6] <;> first | rfl | decide, ?_⟩
  refine ⟨by simp only [wI_1, r0, r1, r12, r13, r41, r42, x0, x1, x12, x13, x41, x42, k0, k1, k2, k3, k4, k5, k6, y0, y1, y2, y3, y4, y5, y6] <;> first | rfl | decide, ?_⟩
  refine ⟨⟨Nat.le_of_ble_eq_true rfl, Nat.le_of_ble_eq_true rfl, Nat.le_of_ble_eq_true rfl⟩, by simp only [wI_1, r0, r1, r12, r13, r41, r42, x0, x1, x12, x13, x41, x42, k0, k1, k2, k3, k4, k5, k6, y0, y1, y2, y3, y4, y5, y6] <;> first | rfl | decide, _, T_sLike hS r1 x1 hS2 hd, ?_⟩
  rintro _ _ ⟨rfl, rfl⟩
  refine ⟨Or.inl rfl, ?_⟩
  refine ⟨by simp only [wI_1, r0, r1, r12, r13, r41, r42, x0, x1, x12, x13, x41, x42, k0, k1, k2, k3, k4, k5, k6, y0, y1, y2, y3, y4, y5, y6] <;> first | rfl | decide, ?_⟩
  refine ⟨by simp only [wI_1, r0, r1, r12, r13, r41, r42, x0, x1, x12, x13, x41, x42, k0, k1, k2, k3, k4, k5, k6, y0, y1, y2, y3, y4, y5, y6] <;> first | rfl | decide, trivial, ?_⟩
  refine ⟨by simp only [wI_1, r0, r1, r12, r13, r41, r42, x0, x1, x12, x13, x41, x42, k0, k1, k2, k3, k4, k5, k6, y0, y1, y2, y3, y4, y5, y6] <;> first | rfl | decide, ?_⟩
  refine ⟨by simp only [wI_1, r0, r1, r12, r13, r41, r42, x0, x1, x12, x13, x41, x42, k0, k1, k2, k3, k4, k5, k6, y0, y1, y2, y3, y4, y5, y6] <;> first | rfl | decide, (by show _ ∨ _; simp only [wI_M, tk_0, tk_1, tk_2, tk_3, tk_4, tk_5, tk_6, tk_7, tk_8, tk_9, tk_10, tk_11, tk_12, tk_13, tk_14, tk_15, tk_16, tk_17, rd0_2, wr0_2, rd0_3, wr0_3, rd0_4, wr0_4, rd0_5, wr0_5, rd0_6, wr0_6, rd0_7, wr0_7, rd0_8, wr0_8, rd0_9, wr0_9, rd0_10, wr0_10, rd0_11, wr0_11, rd0_12, wr0_12, rd0_13, wr0_13, rd0_14, wr0_14, rd0_15, wr0_15, rd0_16, wr0_16, rd1_0, wr1_0, rd1_1, wr1_1, rd4_0, wr4_0, wI_1, r0, r1, r12, r13, r41, r42, x0, x1, x12, x13, x41, x42, l2, l3, l5, l6, z2, z3, z5, z6, m36, m12, ot0, ot1, ot2, ot3, ot4, ot5, ot6]; exact B3), ?_⟩
  refine ⟨by simp only [wI_1, r0, r1, r12, r13, r41, r42, x0, x1, x12, x13, x41, x42, k0, k1, k2, k3, k4, k5, k6, y0, y1, y2, y3, y4, y5, y6] <;> first | rfl | decide, ?_⟩
  refine ⟨by simp only [wI_1, r0, r1, r12, r13, r41, r42, x0, x1, x12, x13, x41, x42, k0, k1, k2, k3, k4, k5, k6, y0, y1, y2, y3, y4, y5, y6] <;> first | rfl | decide, (by show _ ∨ _; simp only [wI_M, tk_0, tk_1, tk_2, tk_3, tk_4, tk_5, tk_6, tk_7, tk_8, tk_9, tk_10, tk_11, tk_12, tk_13, tk_14, tk_15, tk_16, tk_17, rd0_2, wr0_2, rd0_3, wr0_3, rd0_4, wr0_4, rd0_5, wr0_5, rd0_6, wr0_6, rd0_7, wr0_7, rd0_8, wr0_8, rd0_9, wr0_9, rd0_10, wr0_10, rd0_11, wr0_11, rd0_12, wr0_12, rd0_13, wr0_13, rd0_14, wr0_14, rd0_15, wr0_15, rd0_16, wr0_16, rd1_0, wr1_0, rd1_1, wr1_1, rd4_0, wr4_0, wI_1, r0, r1, r12, r13, r41, r42, x0, x1, x12, x13, x41, x42, l2, l3, l5, l6, z2, z3, z5, z6, m36, m12, ot0, ot1, ot2, ot3, ot4, ot5, ot6]; exact B4), ?_⟩
  refine ⟨by simp only [wI_1, r0, r1, r12, r13, r41, r42, x0, x1, x12, x13, x41, x42, k0, k1, k2, k3, k4, k5, k6, y0, y1, y2, y3, y4, y5, y6] <;> first | rfl | decide, ?_⟩
  refine ⟨by simp only [wI_1, r0, r1, r12, r13, r41, r42, x0, x1, x12, x13, x41, x42, k0, k1, k2, k3, k4, k5, k6, y0, y1, y2, y3, y4, y5, y6] <;> first | rfl | decide, trivial, ?_⟩
  refine ⟨by simp only [wI_1, r0, r1, r12, r13, r41, r42, x0, x1, x12, x13, x41, x42, k0, k1, k2, k3, k4, k5, k6, y0, y1, y2, y3, y4, y5, y6] <;> first | rfl | decide, ?_⟩
  refine ⟨by simp only [wI_1, r0, r1, r12, r13, r41, r42, x0, x1, x12, x13, x41, x42, k0, k1, k2, k3, k4, k5, k6, y0, y1, y2, y3, y4, y5, y6] <;> first | rfl | decide, trivial, ?_⟩
  refine ⟨by simp only [wI_1, r0, r1, r12, r13, r41, r42, x0, x1, x12, x13, x41, x42, k0, k1, k2, k3, k4, k5, k6, y0, y1, y2, y3, y4, y5, y6] <;> first | rfl | decide, ?_⟩
  refine ⟨by simp only [wI_1, r0, r1, r12, r13, r41, r42, x0, x1, x12, x13, x41, x42, k0, k1, k2, k3, k4, k5, k6, y0, y1, y2, y3, y4, y5, y6] <;> first | rfl | decide, trivial, ?_⟩
  refine ⟨by simp only [wI_1, r0, r1, r12, r13, r41, r42, x0, x1, x12, x13, x41, x42, k0, k1, k2, k3, k4, k5, k6, y0, y1, y2, y3, y4, y5, y6] <;> first | rfl | decide, ?_⟩
  refine ⟨by simp only [wI_1, r0, r1, r12, r13, r41, r42, x0, x1, x12, x13, x41, x42, k0, k1, k2, k3, k4, k5, k6, y0, y1, y2, y3, y4, y5, y6] <;> first | rfl | decide, trivial, ?_⟩
  refine ⟨by simp only [wI_1, r0, r1, r12, r13, r41, r42, x0, x1, x12, x13, x41, x42, k0, k1, k2, k3, k4, k5, k6, y0, y1, y2, y3, y4, y5, y6] <;> first | rfl | decide, ?_⟩
  refine ⟨by simp only [wI_1, r0, r1, r12, r13, r41, r42, x0, x1, x12, x13, x41, x42, k0, k1, k2, k3, k4, k5, k6, y0, y1, y2, y3, y4, y5, y6] <;> first | rfl | decide, trivial, ?_⟩
  refine ⟨by simp only [wI_1, r0, r1, r12, r13, r41, r42, x0, x1, x12, x13, x41, x42, k0, k1, k2, k3, k4, k5, k6, y0, y1, y2, y3, y4, y5, y6] <;> first | rfl | decide, ?_⟩
  refine ⟨by simp only [wI_1, r0, r1, r12, r13, r41, r42, x0, x1, x12, x13, x41, x42, k0, k1, k2, k3, k4, k5, k6, y0, y1, y2, y3, y4, y5, y6] <;> first | rfl | decide, trivial, ?_⟩
  refine ⟨by simp only [wI_1, r0, r1, r12, r13, r41, r42, x0, x1, x12, x13, x41, x42, k0, k1, k2, k3, k4, k5, k6, y0, y1, y2, y3, y4, y5, y6] <;> first | rfl | decide, ?_⟩
  refine ⟨by simp only [wI_1, r0, r1, r12, r13, r41, r42, x0, x1, x12, x13, x41, x42, k0, k1, k2, k3, k4, k5, k6, y0, y1, y2, y3, y4, y5, y6] <;> first | rfl | decide, trivial, ?_⟩
  refine ⟨by simp only [wI_1, r0, r1, r12, r13, r41, r42, x0, x1, x12, x13, x41, x42, k0, k1, k2, k3, k4, k5, k6, y0, y1, y2, y3, y4, y5, y6] <;> first | rfl | decide, ?_⟩
  refine ⟨by simp only [wI_1, r0, r1, r12, r13, r41, r42, x0, x1, x12, x13, x41, x42, k0, k1, k2, k3, k4, k5, k6, y0, y1, y2, y3, y4, y5, y6] <;> first | rfl | decide, trivial, ?_⟩
  refine ⟨by simp only [wI_1, r0, r1, r12, r13, r41, r42, x0, x1, x12, x13, x41, x42, k0, k1, k2, k3, k4, k5, k6, y0, y1, y2, y3, y4, y5, y6] <;> first | rfl | decide, ?_⟩
  refine ⟨by simp only [wI_1, r0, r1, r12, r13, r41, r42, x0, x1, x12, x13, x41, x42, k0, k1, k2, k3, k4, k5, k6, y0, y1, y2, y3, y4, y5, y6] <;> first | rfl | decide, trivial, ?_⟩
  refine ⟨by simp only [wI_1, r0, r1, r12, r13, r41, r42, x0, x1, x12, x13, x41, x42, k0, k1, k2, k3, k4, k5, k6, y0, y1, y2, y3, y4, y5, y6] <;> first | rfl | decide, ?_⟩
  refine ⟨by simp only [wI_1, r0, r1, r12, r13, r41, r42, x0, x1, x12, x13, x41, x42, k0, k1, k2, k3, k4, k5, k6, y0, y1, y2, y3, y4, y5, y6] <;> first | rfl | decide, trivial, ?_⟩
  refine ⟨by simp only [wI_1, r0, r1, r12, r13, r41, r42, x0, x1, x12, x13, x41, x42, k0, k1, k2, k3, k4, k5, k6, y0, y1, y2, y3, y4, y5, y6] <;> first | rfl | decide, ?_⟩
  refine ⟨by simp only [wI_1, r0, r1, r12, r13, r41, r42, x0, x1, x12, x13, x41, x42, k0, k1, k2, k3, k4, k5, k6, y0, y1, y2, y3, y4, y5, y6] <;> first | rfl | decide, trivial, ?_⟩
  refine ⟨by simp only [wI_1, r0, r1, r12, r13, r41, r42, x0, x1, x12, x13, x41, x42, k0, k1, k2, k3, k4, k5, k6, y0, y1, y2, y3, y4, y5, y6] <;> first | rfl | decide, ?_⟩
  refine ⟨by simp only [wI_1, r0, r1, r12, r13, r41, r42, x0, x1, x12, x13, x41, x42, k0, k1, k2, k3, k4, k5, k6, y0, y1, y2, y3, y4, y5, y6] <;> first | rfl | decide, trivial, ?_⟩
  refine ⟨⟨Nat.zero_le _, Nat.zero_le _⟩, rfl, ?_⟩
  show (S, _, J) = (S, _, J)
  refine congrArg (fun m => (S, m, J)) ?_
  simp only [wI_M, tk_0, tk_1, tk_2, tk_3, tk_4, tk_5, tk_6, tk_7, tk_8, tk_9, tk_10, tk_11, tk_12, tk_13, tk_14, tk_15, tk_16, tk_17, rd0_2, wr0_2, rd0_3, wr0_3, rd0_4, wr0_4, rd0_5, wr0_5, rd0_6, wr0_6, rd0_7, wr0_7, rd0_8, wr0_8, rd0_9, wr0_9, rd0_10, wr0_10, rd0_11, wr0_11, rd0_12, wr0_12, rd0_13, wr0_13, rd0_14, wr0_14, rd0_15, wr0_15, rd0_16, wr0_16, rd1_0, wr1_0, rd1_1, wr1_1, rd4_0, wr4_0, wI_1, r0, r1, r12, r13, r41, r42, x0, x1, x12, x13, x41, x42, l2, l3, l5, l6, z2, z3, z5, z6, m36, m12, ot0, ot1, ot2, ot3, ot4, ot5, ot6]
  refine sO_cg M b (fun q hq => ?_)
  unfold upd cpS cpC
  by_cases e16 : q = 16
  · subst e16
    rfl
  rw [if_neg e16]
  by_cases e15 : q = 15
  · subst e15
    rfl
  rw [if_neg e15]
  by_cases e14 : q = 14
  · subst e14
    rfl
  rw [if_neg e14]
  by_cases e13 : q = 13
  · subst e13
    rfl
  rw [if_neg e13]
  by_cases e11 : q = 11
  · subst e11
    rfl
  rw [if_neg e11]
  by_cases e10 : q = 10
  · subst e10
    rfl
  rw [if_neg e10]
  by_cases e9 : q = 9
  · subst e9
    rfl
  rw [if_neg e9]
  by_cases e8 : q = 8
  · subst e8
    rfl
  rw [if_neg e8]
  by_cases e5 : q = 5
  · subst e5
    rfl
  rw [if_neg e5]
  by_cases e7 : q = 7
  · subst e7
    rfl
  rw [if_neg e7]
  by_cases e6 : q = 6
  · subst e6
    rfl
  rw [if_neg e6]
  by_cases e4 : q = 4
  · subst e4
    rfl
  rw [if_neg e4]
  by_cases e12 : q = 12
  · subst e12
    rfl
  rw [if_neg e12]
  by_cases e3 : q = 3
  · subst e3
    rfl
  rw [if_neg e3]
  by_cases e1 : q = 1
  · subst e1
    rfl
  rw [if_neg e1]
  by_cases f1 : 17 ≤ q ∧ q < 42
  · rw [if_pos f1]
  rw [if_neg f1]
  rw [if_pos (by omega)]
end
section
/-! THE CLASS: Services: written by wip/whole/pure3.py -/
set_option maxHeartbeats 1000000 in
theorem T_codeAt {d : Nat} {S : Sc} {M : Nat → Nat → Int32} {J : Nat → Nat → Int64} {b : Nat} {σ : Rw} (hS : OdS S b) {o : Nat} (ho : o = b + 4) {q : Nat} (hq : q < 12) : Wp (d + 1) 40 [.ref o, .int (nI q)] (S, sO M b σ, J) (fun rs w' => rs = .inl (some (.int (σ (18 + 2 * q)))) ∧ w' = (S, sO M b (σ), J)) := by
  subst ho
  obtain ⟨⟨k0, k1, k2, k3, k4, k5, k6⟩, ⟨r0, r1, r12, r13, r41, r42⟩, l2, l3, l5, l6⟩ := id hS
  have c := ck (k := q) (by omega)
  have d5 := fun (τ : Rw) => rd5 M b τ (q := q) (by omega)
  have d6 := fun (τ : Rw) => rd6 M b τ (q := q) (by omega)
  have u5 := fun (τ : Rw) (x : Int32) => wr5 M b τ x (q := q) (by omega)
  have u6 := fun (τ : Rw) (x : Int32) => wr6 M b τ x (q := q) (by omega)
  refine ⟨rfl, ?_⟩
  refine EE.runN (stop := noStop) 100 _ ?_
  refine ⟨fun h1 => ?_, fun h1 => ?_⟩
  · exact absurd (show nI q < 0 from h1) (nI_pos (by omega))
  · refine ⟨by simp only [wI_1, r0, r1, r12, r13, r41, r42, k0, k1, k2, k3, k4, k5, k6] <;> first | rfl | decide, ?_⟩
    refine ⟨by simp only [wI_1, r0, r1, r12, r13, r41, r42, k0, k1, k2, k3, k4, k5, k6] <;> first | rfl | decide, ?_⟩
    refine ⟨fun h2 => ?_, fun h2 => ?_⟩
    · (have h_ : Int32.ofNat _ ≤ nI q := h2; simp only [wI_1, r0, r1, r12, r13, r41, r42, l5] at h_; exact absurd h_ (nI_ge (b := 12) (by omega) (by omega)))
    · refine ⟨by simp only [wI_1, r0, r1, r12, r13, r41, r42, k0, k1, k2, k3, k4, k5, k6] <;> first | rfl | decide, ?_⟩
      refine ⟨by simp only [wI_1, r0, r1, r12, r13, r41, r42, k0, k1, k2, k3, k4, k5, k6] <;> first | rfl | decide, (by simp only [wI_1, r0, r1, r12, r13, r41, r42, l5]; exact vp_in_nI (show q < 12 by omega) (by omega)), ?_⟩
      refine ⟨⟨Nat.zero_le _, Nat.zero_le _⟩, ?_, rfl⟩
      simp only [wI_M, tk_0, tk_1, tk_2, tk_3, tk_4, tk_5, tk_6, tk_7, tk_8, tk_9, tk_10, tk_11, tk_12, tk_13, tk_14, tk_15, tk_16, tk_17, rd0_2, wr0_2, rd0_3, wr0_3, rd0_4, wr0_4, rd0_5, wr0_5, rd0_6, wr0_6, rd0_7, wr0_7, rd0_8, wr0_8, rd0_9, wr0_9, rd0_10, wr0_10, rd0_11, wr0_11, rd0_12, wr0_12, rd0_13, wr0_13, rd0_14, wr0_14, rd0_15, wr0_15, rd0_16, wr0_16, rd1_0, wr1_0, rd1_1, wr1_1, rd4_0, wr4_0, wI_1, r0, r1, r12, r13, r41, r42, c, d5, d6, u5, u6]
set_option maxHeartbeats 1000000 in
theorem T_notedAt {d : Nat} {S : Sc} {M : Nat → Nat → Int32} {J : Nat → Nat → Int64} {b : Nat} {σ : Rw} (hS : OdS S b) {o : Nat} (ho : o = b + 4) {q : Nat} (hq : q < 12) : Wp (d + 1) 41 [.ref o, .int (nI q)] (S, sO M b σ, J) (fun rs w' => rs = .inl (some (.int (σ (19 + 2 * q)))) ∧ w' = (S, sO M b (σ), J)) := by
  subst ho
  obtain ⟨⟨k0, k1, k2, k3, k4, k5, k6⟩, ⟨r0, r1, r12, r13, r41, r42⟩, l2, l3, l5, l6⟩ := id hS
  have c := ck (k := q) (by omega)
  have d5 := fun (τ : Rw) => rd5 M b τ (q := q) (by omega)
  have d6 := fun (τ : Rw) => rd6 M b τ (q := q) (by omega)
  have u5 := fun (τ : Rw) (x : Int32) => wr5 M b τ x (q := q) (by omega)
  have u6 := fun (τ : Rw) (x : Int32) => wr6 M b τ x (q := q) (by omega)
  refine ⟨rfl, ?_⟩
  refine EE.runN (stop := noStop) 100 _ ?_
  refine ⟨fun h1 => ?_, fun h1 => ?_⟩
  · exact absurd (show nI q < 0 from h1) (nI_pos (by omega))
  · refine ⟨by simp only [wI_1, r0, r1, r12, r13, r41, r42, k0, k1, k2, k3, k4, k5, k6] <;> first | rfl | decide, ?_⟩
    refine ⟨by simp only [wI_1, r0, r1, r12, r13, r41, r42, k0, k1, k2, k3, k4, k5, k6] <;> first | rfl | decide, ?_⟩
    refine ⟨fun h2 => ?_, fun h2 => ?_⟩
    · (have h_ : Int32.ofNat _ ≤ nI q := h2; simp only [wI_1, r0, r1, r12, r13, r41, r42, l6] at h_; exact absurd h_ (nI_ge (b := 12) (by omega) (by omega)))
    · refine ⟨by simp only [wI_1, r0, r1, r12, r13, r41, r42, k0, k1, k2, k3, k4, k5, k6] <;> first | rfl | decide, ?_⟩
      refine ⟨by simp only [wI_1, r0, r1, r12, r13, r41, r42, k0, k1, k2, k3, k4, k5, k6] <;> first | rfl | decide, (by simp only [wI_1, r0, r1, r12, r13, r41, r42, l6]; exact vp_in_nI (show q < 12 by omega) (by omega)), ?_⟩
      refine ⟨⟨Nat.zero_le _, Nat.zero_le _⟩, ?_, rfl⟩
      simp only [wI_M, tk_0, tk_1, tk_2, tk_3, tk_4, tk_5, tk_6, tk_7, tk_8, tk_9, tk_10, tk_11, tk_12, tk_13, tk_14, tk_15, tk_16, tk_17, rd0_2, wr0_2, rd0_3, wr0_3, rd0_4, wr0_4, rd0_5, wr0_5, rd0_6, wr0_6, rd0_7, wr0_7, rd0_8, wr0_8, rd0_9, wr0_9, rd0_10, wr0_10, rd0_11, wr0_11, rd0_12, wr0_12, rd0_13, wr0_13, rd0_14, wr0_14, rd0_15, wr0_15, rd0_16, wr0_16, rd1_0, wr1_0, rd1_1, wr1_1, rd4_0, wr4_0, wI_1, r0, r1, r12, r13, r41, r42, c, d5, d6, u5, u6]
def rPut2 (σ : Rw) (q : Nat) (x y : Int32) : Rw := upd (upd σ (18 + 2 * q) x) (19 + 2 * q) y
set_option maxHeartbeats 1000000 in
theorem T_put {d : Nat} {S : Sc} {M : Nat → Nat → Int32} {J : Nat → Nat → Int64} {b : Nat} {σ : Rw} (hS : OdS S b) {o : Nat} (ho : o = b + 4) {q : Nat} {x y : Int32} (hq : q < 12) : Wp (d + 1) 47 [.ref o, .int (nI q), .int x, .int y] (S, sO M b σ, J) (fun rs w' => rs = .inl none ∧ w' = (S, sO M b (rPut2 σ q x y), J)) := by
  subst ho
  obtain ⟨⟨k0, k1, k2, k3, k4, k5, k6⟩, ⟨r0, r1, r12, r13, r41, r42⟩, l2, l3, l5, l6⟩ := id hS
  have c := ck (k := q) (by omega)
  have d5 := fun (τ : Rw) => rd5 M b τ (q := q) (by omega)
  have d6 := fun (τ : Rw) => rd6 M b τ (q := q) (by omega)
  have u5 := fun (τ : Rw) (x : Int32) => wr5 M b τ x (q := q) (by omega)
  have u6 := fun (τ : Rw) (x : Int32) => wr6 M b τ x (q := q) (by omega)
  refine ⟨rfl, ?_⟩
  refine EE.runN (stop := noStop) 100 _ ?_
  refine ⟨fun h1 => ?_, fun h1 => ?_⟩
  · exact absurd (show nI q < 0 from h1) (nI_pos (by omega))
  · refine ⟨by simp only [wI_1, r0, r1, r12, r13, r41, r42, k0, k1, k2, k3, k4, k5, k6] <;> first | rfl | decide, ?_⟩
    refine ⟨by simp only [wI_1, r0, r1, r12, r13, r41, r42, k0, k1, k2, k3, k4, k5, k6] <;> first | rfl | decide, ?_⟩
    refine ⟨fun h2 => ?_, fun h2 => ?_⟩
    · (have h_ : Int32.ofNat _ ≤ nI q := h2; simp only [wI_1, r0, r1, r12, r13, r41, r42, l5] at h_; exact absurd h_ (nI_ge (b := 12) (by omega) (by omega)))
    · refine ⟨by simp only [wI_1, r0, r1, r12, r13, r41, r42, k0, k1, k2, k3, k4, k5, k6] <;> first | rfl | decide, ?_⟩
      refine ⟨by simp only [wI_1, r0, r1, r12, r13, r41, r42, k0, k1, k2, k3, k4, k5, k6] <;> first | rfl | decide, ?_⟩
      refine ⟨fun h3 => ?_, fun h3 => ?_⟩
      · (have h_ : Int32.ofNat _ ≤ nI q := h3; simp only [wI_1, r0, r1, r12, r13, r41, r42, l6] at h_; exact absurd h_ (nI_ge (b := 12) (by omega) (by omega)))
      · refine ⟨by simp only [wI_1, r0, r1, r12, r13, r41, r42, k0, k1, k2, k3, k4, k5, k6] <;> first | rfl | decide, ?_⟩
        refine ⟨by simp only [wI_1, r0, r1, r12, r13, r41, r42, k0, k1, k2, k3, k4, k5, k6] <;> first | rfl | decide, (by simp only [wI_1, r0, r1, r12, r13, r41, r42, l5]; exact vp_in_nI (show q < 12 by omega) (by omega)), ?_⟩
        refine ⟨by simp only [wI_1, r0, r1, r12, r13, r41, r42, k0, k1, k2, k3, k4, k5, k6] <;> first | rfl | decide, ?_⟩
        refine ⟨by simp only [wI_1, r0, r1, r12, r13, r41, r42, k0, k1, k2, k3, k4, k5, k6] <;> first | rfl | decide, (by simp only [wI_1, r0, r1, r12, r13, r41, r42, l6]; exact vp_in_nI (show q < 12 by omega) (by omega)), ?_⟩
        refine ⟨⟨Nat.zero_le _, Nat.zero_le _⟩, rfl, ?_⟩
        show (S, _, J) = (S, _, J)
        simp only [wI_M, tk_0, tk_1, tk_2, tk_3, tk_4, tk_5, tk_6, tk_7, tk_8, tk_9, tk_10, tk_11, tk_12, tk_13, tk_14, tk_15, tk_16, tk_17, rd0_2, wr0_2, rd0_3, wr0_3, rd0_4, wr0_4, rd0_5, wr0_5, rd0_6, wr0_6, rd0_7, wr0_7, rd0_8, wr0_8, rd0_9, wr0_9, rd0_10, wr0_10, rd0_11, wr0_11, rd0_12, wr0_12, rd0_13, wr0_13, rd0_14, wr0_14, rd0_15, wr0_15, rd0_16, wr0_16, rd1_0, wr1_0, rd1_1, wr1_1, rd4_0, wr4_0, wI_1, r0, r1, r12, r13, r41, r42, c, d5, d6, u5, u6]
        rfl
/-- the codes below n are all different -/
def Dst (ρ : Rw) (n : Nat) : Prop := ∀ i k, i < n → k < n → ρ (18 + 2 * i) = ρ (18 + 2 * k) → i = k
theorem rFnd_un {ρ : Rw} {c : Int32} : ∀ {n i : Nat}, Dst ρ n → i < n → ρ (18 + 2 * i) = c → rFnd ρ c n = nI i
  | 0, _, _, h, _ => absurd h (by omega)
  | n + 1, i, hd, hi, he => by
    unfold rFnd
    by_cases h : ρ (18 + 2 * n) = c
    · rw [if_pos h, hd n i (by omega) hi (h.trans he.symm)]
    · rw [if_neg h]
      have : i ≠ n := fun e => h (e ▸ he)
      exact rFnd_un (fun a b ha hb e => hd a b (by omega) (by omega) e) (by omega) he
theorem rFnd_no {ρ : Rw} {c : Int32} : ∀ {n : Nat}, (∀ i, i < n → ¬ ρ (18 + 2 * i) = c) → rFnd ρ c n = -99999
  | 0, _ => rfl
  | n + 1, h => by
    unfold rFnd
    rw [if_neg (h n (by omega))]
    exact rFnd_no (fun i hi => h i (by omega))
set_option maxHeartbeats 1000000 in
theorem T_placeOf {d : Nat} {S : Sc} {M : Nat → Nat → Int32} {J : Nat → Nat → Int64} {b : Nat} {σ : Rw} (hS : OdS S b) {o : Nat} (ho : o = b + 4) {n : Nat} {x y : Int32} (hn : n ≤ 12) (h17 : σ 17 = nI n) (hD : Dst σ n) : Wp (d + 2) 42 [.ref o, .int x, .int y] (S, sO M b σ, J) (fun rs w' => rs = .inl (some (.int (rFnd σ (10 * x + y) n))) ∧ w' = (S, sO M b (σ), J)) := by
  subst ho
  obtain ⟨⟨k0, k1, k2, k3, k4, k5, k6⟩, ⟨r0, r1, r12, r13, r41, r42⟩, l2, l3, l5, l6⟩ := id hS
  refine ⟨rfl, ?_⟩
  refine EE.runN (stop := atPc [2]) 100 _ ?_
  refine ee_at (nt := nzT 42) [(0, .ref (b + 4)), (1, .int x), (2, .int y), (3, .int (nI 0))] (S, sO M b σ, J) rfl (by rfl) (by rfl) ?_
  refine ee_loopP (fun k => ∀ i, i < k → ¬ σ (18 + 2 * i) = 10 * x + y) (fun k => (2, [(0, .ref (b + 4)), (1, .int x), (2, .int y), (3, .int (nI k))], [], (S, sO M b σ, J), 0, 0)) (n) (by intro i hi; omega) (fun k h_k hp_k ih_k => ?_) (fun hp_k => ?_)
  · refine EE.runN (stop := atPc [2]) 80 _ ?_
    refine ⟨by simp only [wI_1, r0, r1, r12, r13, r41, r42, k0, k1, k2, k3, k4, k5, k6] <;> first | rfl | decide, ?_⟩
    refine ⟨fun h1 => ?_, fun h1 => ?_⟩
    · (have h_ := h1; simp only [wI_1, r0, r1, r12, r13, r41, r42, rd4_0, h17] at h_; exact absurd h_ (nI_ge h_k (by omega)))
    · refine ⟨⟨Nat.le_of_ble_eq_true rfl, Nat.le_of_ble_eq_true rfl, Nat.le_of_ble_eq_true rfl⟩, by simp only [wI_1, r0, r1, r12, r13, r41, r42, k0, k1, k2, k3, k4, k5, k6] <;> first | rfl | decide, _, T_codeAt (q := k) hS rfl (by omega), ?_⟩
      rintro _ _ ⟨rfl, rfl⟩
      refine ⟨Or.inl rfl, ?_⟩
      refine ⟨fun h2 => ?_, fun h2 => ?_⟩
      · refine ee_at (nt := nzT 42) [(0, .ref (b + 4)), (1, .int x), (2, .int y), (3, .int (nI (k + 1)))] (S, sO M b σ, J) rfl (by rw [← nI_1 k]; rfl) (by rfl) ?_
        exact ih_k (by intro i hi; by_cases e : i = k; exact e ▸ h2; exact hp_k i (by omega))
      · refine ⟨⟨Nat.zero_le _, Nat.zero_le _⟩, ?_, rfl⟩
        rw [rFnd_un hD h_k h2]
  · refine EE.runN (stop := atPc [2]) 80 _ ?_
    refine ⟨by simp only [wI_1, r0, r1, r12, r13, r41, r42, k0, k1, k2, k3, k4, k5, k6] <;> first | rfl | decide, ?_⟩
    refine ⟨fun h3 => ?_, fun h3 => ?_⟩
    · refine ⟨⟨Nat.zero_le _, Nat.zero_le _⟩, ?_, rfl⟩
      rw [rFnd_no hp_k]
    · (have h_ := h3; simp only [wI_1, r0, r1, r12, r13, r41, r42, rd4_0, h17] at h_; exact absurd (nI_le (Nat.le_refl n) (by omega)) h_)
set_option maxHeartbeats 1000000 in
theorem T_hasRoom {d : Nat} {S : Sc} {M : Nat → Nat → Int32} {J : Nat → Nat → Int64} {b : Nat} {σ : Rw} (hS : OdS S b) {o : Nat} (ho : o = b + 4) {n : Nat} {x y : Int32} (hn : n ≤ 12) (h17 : σ 17 = nI n) (hD : Dst σ n) : Wp (d + 3) 43 [.ref o, .int x, .int y] (S, sO M b σ, J) (fun rs w' => rs = .inl (some (.int (bI (σ 17 < 12 ∨ ¬ rFnd σ (10 * x + y) n = -99999)))) ∧ w' = (S, sO M b (σ), J)) := by
  subst ho
  obtain ⟨⟨k0, k1, k2, k3, k4, k5, k6⟩, ⟨r0, r1, r12, r13, r41, r42⟩, l2, l3, l5, l6⟩ := id hS
  refine ⟨rfl, ?_⟩
  refine EE.runN (stop := noStop) 100 _ ?_
  refine ⟨by simp only [wI_1, r0, r1, r12, r13, r41, r42, k0, k1, k2, k3, k4, k5, k6] <;> first | rfl | decide, ?_⟩
  refine ⟨fun h1 => ?_, fun h1 => ?_⟩
  · try simp only [wI_M, tk_0, tk_1, tk_2, tk_3, tk_4, tk_5, tk_6, tk_7, tk_8, tk_9, tk_10, tk_11, tk_12, tk_13, tk_14, tk_15, tk_16, tk_17, rd0_2, wr0_2, rd0_3, wr0_3, rd0_4, wr0_4, rd0_5, wr0_5, rd0_6, wr0_6, rd0_7, wr0_7, rd0_8, wr0_8, rd0_9, wr0_9, rd0_10, wr0_10, rd0_11, wr0_11, rd0_12, wr0_12, rd0_13, wr0_13, rd0_14, wr0_14, rd0_15, wr0_15, rd0_16, wr0_16, rd1_0, wr1_0, rd1_1, wr1_1, rd4_0, wr4_0, wI_1, r0, r1, r12, r13, r41, r42] at h1
    refine ⟨⟨Nat.zero_le _, Nat.zero_le _⟩, by decide, ?_, ?_⟩
    · simp [-Int32.not_le, -Int32.not_lt, bI, h1]
    · rfl
  · refine ⟨⟨Nat.le_of_ble_eq_true rfl, Nat.le_of_ble_eq_true rfl, Nat.le_of_ble_eq_true rfl⟩, by simp only [wI_1, r0, r1, r12, r13, r41, r42, k0, k1, k2, k3, k4, k5, k6] <;> first | rfl | decide, _, T_placeOf hS rfl hn h17 hD, ?_⟩
    rintro _ _ ⟨rfl, rfl⟩
    refine ⟨Or.inl rfl, ?_⟩
    refine ⟨fun h2 => ?_, fun h2 => ?_⟩
    · try simp only [wI_M, tk_0, tk_1, tk_2, tk_3, tk_4, tk_5, tk_6, tk_7, tk_8, tk_9, tk_10, tk_11, tk_12, tk_13, tk_14, tk_15, tk_16, tk_17, rd0_2, wr0_2, rd0_3, wr0_3, rd0_4, wr0_4, rd0_5, wr0_5, rd0_6, wr0_6, rd0_7, wr0_7, rd0_8, wr0_8, rd0_9, wr0_9, rd0_10, wr0_10, rd0_11, wr0_11, rd0_12, wr0_12, rd0_13, wr0_13, rd0_14, wr0_14, rd0_15, wr0_15, rd0_16, wr0_16, rd1_0, wr1_0, rd1_1, wr1_1, rd4_0, wr4_0, wI_1, r0, r1, r12, r13, r41, r42] at h1 h2
      refine ⟨⟨Nat.zero_le _, Nat.zero_le _⟩, by decide, ?_, ?_⟩
      · simp [-Int32.not_le, -Int32.not_lt, bI, h1, h2]
      · rfl
    · try simp only [wI_M, tk_0, tk_1, tk_2, tk_3, tk_4, tk_5, tk_6, tk_7, tk_8, tk_9, tk_10, tk_11, tk_12, tk_13, tk_14, tk_15, tk_16, tk_17, rd0_2, wr0_2, rd0_3, wr0_3, rd0_4, wr0_4, rd0_5, wr0_5, rd0_6, wr0_6, rd0_7, wr0_7, rd0_8, wr0_8, rd0_9, wr0_9, rd0_10, wr0_10, rd0_11, wr0_11, rd0_12, wr0_12, rd0_13, wr0_13, rd0_14, wr0_14, rd0_15, wr0_15, rd0_16, wr0_16, rd1_0, wr1_0, rd1_1, wr1_1, rd4_0, wr4_0, wI_1, r0, r1, r12, r13, r41, r42] at h1 h2
      refine ⟨⟨Nat.zero_le _, Nat.zero_le _⟩, by decide, ?_, ?_⟩
      · simp [-Int32.not_le, -Int32.not_lt, bI, h1, h2]
      · rfl
def cAdd (σ : Rw) (c : Int32) (n : Nat) (y : Int32) : Rw := upd (rPut2 σ n c y) 17 (nI (n + 1))
set_option maxHeartbeats 1000000 in
theorem T_addLast {d : Nat} {S : Sc} {M : Nat → Nat → Int32} {J : Nat → Nat → Int64} {b : Nat} {σ : Rw} (hS : OdS S b) {o : Nat} (ho : o = b + 4) {n : Nat} {x y z : Int32} (hn : n < 12) (h17 : σ 17 = nI n) : Wp (d + 2) 44 [.ref o, .int x, .int y, .int z] (S, sO M b σ, J) (fun rs w' => rs = .inl none ∧ w' = (S, sO M b (cAdd σ (10 * x + y) n z), J)) := by
  subst ho
  obtain ⟨⟨k0, k1, k2, k3, k4, k5, k6⟩, ⟨r0, r1, r12, r13, r41, r42⟩, l2, l3, l5, l6⟩ := id hS
  refine ⟨rfl, ?_⟩
  refine EE.runN (stop := noStop) 100 _ ?_
  refine ⟨by simp only [wI_1, r0, r1, r12, r13, r41, r42, k0, k1, k2, k3, k4, k5, k6] <;> first | rfl | decide, ?_⟩
  refine ⟨⟨Nat.le_of_ble_eq_true rfl, Nat.le_of_ble_eq_true rfl, Nat.le_of_ble_eq_true rfl⟩, by simp only [wI_1, r0, r1, r12, r13, r41, r42, k0, k1, k2, k3, k4, k5, k6] <;> first | rfl | decide, _, by simp only [wI_1, r0, r1, r12, r13, r41, r42, rd4_0, h17]; exact T_put hS rfl hn, ?_⟩
  rintro _ _ ⟨rfl, rfl⟩
  refine ⟨Or.inl rfl, ?_⟩
  refine ⟨by simp only [wI_1, r0, r1, r12, r13, r41, r42, k0, k1, k2, k3, k4, k5, k6] <;> first | rfl | decide, ?_⟩
  refine ⟨by simp only [wI_1, r0, r1, r12, r13, r41, r42, k0, k1, k2, k3, k4, k5, k6] <;> first | rfl | decide, trivial, ?_⟩
  refine ⟨⟨Nat.zero_le _, Nat.zero_le _⟩, rfl, ?_⟩
  show (S, _, J) = (S, _, J)
  simp only [wI_M, tk_0, tk_1, tk_2, tk_3, tk_4, tk_5, tk_6, tk_7, tk_8, tk_9, tk_10, tk_11, tk_12, tk_13, tk_14, tk_15, tk_16, tk_17, rd0_2, wr0_2, rd0_3, wr0_3, rd0_4, wr0_4, rd0_5, wr0_5, rd0_6, wr0_6, rd0_7, wr0_7, rd0_8, wr0_8, rd0_9, wr0_9, rd0_10, wr0_10, rd0_11, wr0_11, rd0_12, wr0_12, rd0_13, wr0_13, rd0_14, wr0_14, rd0_15, wr0_15, rd0_16, wr0_16, rd1_0, wr1_0, rd1_1, wr1_1, rd4_0, wr4_0, wI_1, r0, r1, r12, r13, r41, r42]
  have e17 : rPut2 σ n (10 * x + y) z 17 = σ 17 := by unfold rPut2; rw [pk_un (by omega), pk_un (by omega)]
  rw [e17, h17, nI_1]
  rfl
theorem rShift_s2 (ρ : Rw) (a k : Nat) : upd (upd (rShift ρ a k) (a + k) (rShift ρ a k (a + k + 2))) (a + k + 1) (rShift ρ a k (a + k + 3)) = rShift ρ a (k + 2) := by
  have e : rShift ρ a k (a + k + 3) = rShift ρ a (k + 1) (a + (k + 1) + 2) := by
    unfold rShift
    rw [if_neg (by omega), if_neg (by omega)]
    congr 1
  rw [e, rShift_s]
  exact rShift_s ρ a (k + 1)
set_option maxHeartbeats 1000000 in
theorem T_takeOut {d : Nat} {S : Sc} {M : Nat → Nat → Int32} {J : Nat → Nat → Int64} {b : Nat} {σ : Rw} (hS : OdS S b) {o : Nat} (ho : o = b + 4) {i n : Nat} (hi : i < n) (hn : n ≤ 12) (h17 : σ 17 = nI n) : Wp (d + 2) 45 [.ref o, .int (nI i)] (S, sO M b σ, J) (fun rs w' => rs = .inl (some (.int (σ (19 + 2 * i)))) ∧ w' = (S, sO M b (rDrop σ i n), J)) := by
  subst ho
  obtain ⟨⟨k0, k1, k2, k3, k4, k5, k6⟩, ⟨r0, r1, r12, r13, r41, r42⟩, l2, l3, l5, l6⟩ := id hS
  have h17k : ∀ k, rShift σ (18 + 2 * i) k 17 = nI n := fun k => by rw [rShift_lo _ (by omega), h17]
  refine ⟨rfl, ?_⟩
  refine EE.runN (stop := atPc [10]) 100 _ ?_
  refine ⟨⟨Nat.le_of_ble_eq_true rfl, Nat.le_of_ble_eq_true rfl, Nat.le_of_ble_eq_true rfl⟩, by simp only [wI_1, r0, r1, r12, r13, r41, r42, k0, k1, k2, k3, k4, k5, k6] <;> first | rfl | decide, _, T_notedAt hS rfl (by omega), ?_⟩
  rintro _ _ ⟨rfl, rfl⟩
  refine ⟨Or.inl rfl, ?_⟩
  refine ee_at (nt := nzT 45) [(0, .ref (b + 4)), (2, .int (σ (19 + 2 * i))), (3, .int (nI (i + 1 + 0)))] (S, sO M b (rShift σ (18 + 2 * i) (2 * 0)), J) rfl (by rw [Nat.add_zero, ← nI_1 i]; rfl) (by rw [Nat.mul_zero, rShift_0]) ?_
  refine ee_loop (fun k => (10, [(0, .ref (b + 4)), (2, .int (σ (19 + 2 * i))), (3, .int (nI (i + 1 + k)))], [], (S, sO M b (rShift σ (18 + 2 * i) (2 * k)), J), 0, 0)) (n - 1 - i) (fun k h_k ih_k => ?_) ?_
  · refine EE.runN (stop := atPc [10]) 80 _ ?_
    have em : nI (i + 1 + k) - 1 = nI (i + k) := by rw [show i + 1 + k = i + k + 1 by omega, nI_pred]
    refine ⟨by simp only [wI_1, r0, r1, r12, r13, r41, r42, k0, k1, k2, k3, k4, k5, k6] <;> first | rfl | decide, ?_⟩
    refine ⟨fun h1 => ?_, fun h1 => ?_⟩
    · (have h_ := h1; simp only [wI_1, r0, r1, r12, r13, r41, r42, rd4_0, h17k] at h_; exact absurd h_ (nI_ge (by omega) (by omega)))
    · refine ⟨⟨Nat.le_of_ble_eq_true rfl, Nat.le_of_ble_eq_true rfl, Nat.le_of_ble_eq_true rfl⟩, by simp only [wI_1, r0, r1, r12, r13, r41, r42, k0, k1, k2, k3, k4, k5, k6] <;> first | rfl | decide, _, T_codeAt (q := i + 1 + k) hS rfl (by omega), ?_⟩
      rintro _ _ ⟨rfl, rfl⟩
      refine ⟨Or.inl rfl, ?_⟩
      refine ⟨⟨Nat.le_of_ble_eq_true rfl, Nat.le_of_ble_eq_true rfl, Nat.le_of_ble_eq_true rfl⟩, by simp only [wI_1, r0, r1, r12, r13, r41, r42, k0, k1, k2, k3, k4, k5, k6] <;> first | rfl | decide, _, T_notedAt (q := i + 1 + k) hS rfl (by omega), ?_⟩
      rintro _ _ ⟨rfl, rfl⟩
      refine ⟨Or.inl rfl, ?_⟩
      refine ⟨⟨Nat.le_of_ble_eq_true rfl, Nat.le_of_ble_eq_true rfl, Nat.le_of_ble_eq_true rfl⟩, by simp only [wI_1, r0, r1, r12, r13, r41, r42, k0, k1, k2, k3, k4, k5, k6] <;> first | rfl | decide, _, by rw [em]; exact T_put (q := i + k) hS rfl (by omega), ?_⟩
      rintro _ _ ⟨rfl, rfl⟩
      refine ⟨Or.inl rfl, ?_⟩
      refine ee_at (nt := nzT 45) [(0, .ref (b + 4)), (2, .int (σ (19 + 2 * i))), (3, .int (nI (i + 1 + (k + 1))))] (S, sO M b (rShift σ (18 + 2 * i) (2 * (k + 1))), J) rfl (by rw [← Nat.add_assoc, ← nI_1]; rfl) (by show (S, sO M b (rPut2 _ _ _ _), J) = (S, _, J); rw [rPut2, show 18 + 2 * (i + k) = 18 + 2 * i + 2 * k by omega, show 19 + 2 * (i + k) = 18 + 2 * i + 2 * k + 1 by omega, show 18 + 2 * (i + 1 + k) = 18 + 2 * i + 2 * k + 2 by omega, show 19 + 2 * (i + 1 + k) = 18 + 2 * i + 2 * k + 3 by omega, rShift_s2]; rfl) ?_
      exact ih_k
  · refine EE.runN (stop := atPc [10]) 80 _ ?_
    refine ⟨by simp only [wI_1, r0, r1, r12, r13, r41, r42, k0, k1, k2, k3, k4, k5, k6] <;> first | rfl | decide, ?_⟩
    refine ⟨fun h2 => ?_, fun h2 => ?_⟩
    · refine ⟨by simp only [wI_1, r0, r1, r12, r13, r41, r42, k0, k1, k2, k3, k4, k5, k6] <;> first | rfl | decide, ?_⟩
      refine ⟨by simp only [wI_1, r0, r1, r12, r13, r41, r42, k0, k1, k2, k3, k4, k5, k6] <;> first | rfl | decide, trivial, ?_⟩
      refine ⟨⟨Nat.zero_le _, Nat.zero_le _⟩, rfl, ?_⟩
      show (S, _, J) = (S, _, J)
      simp only [wI_M, tk_0, tk_1, tk_2, tk_3, tk_4, tk_5, tk_6, tk_7, tk_8, tk_9, tk_10, tk_11, tk_12, tk_13, tk_14, tk_15, tk_16, tk_17, rd0_2, wr0_2, rd0_3, wr0_3, rd0_4, wr0_4, rd0_5, wr0_5, rd0_6, wr0_6, rd0_7, wr0_7, rd0_8, wr0_8, rd0_9, wr0_9, rd0_10, wr0_10, rd0_11, wr0_11, rd0_12, wr0_12, rd0_13, wr0_13, rd0_14, wr0_14, rd0_15, wr0_15, rd0_16, wr0_16, rd1_0, wr1_0, rd1_1, wr1_1, rd4_0, wr4_0, wI_1, r0, r1, r12, r13, r41, r42, h17k]
      rw [show (1 : Int32) = nI 1 from rfl, pk_sub (by omega)]
      rfl
    · (have h_ := h2; simp only [wI_1, r0, r1, r12, r13, r41, r42, rd4_0, h17k] at h_; exact absurd (nI_le (by omega) (by omega)) h_)
/-- the first place below k with the least number noted -/
def rSm (σ : Rw) : Nat → Int32
  | 0 => -99999
  | k + 1 => if rSm σ k = -99999 then nI k else if σ (19 + 2 * (rSm σ k).toNatClampNeg) ≤ σ (19 + 2 * k) then rSm σ k else nI k
theorem rSm_or (σ : Rw) : ∀ k, rSm σ k = -99999 ∨ ∃ i, i < k ∧ rSm σ k = nI i
  | 0 => Or.inl rfl
  | k + 1 => by
    unfold rSm
    split
    · exact Or.inr ⟨k, by omega, rfl⟩
    · split
      · rcases rSm_or σ k with h | ⟨i, h1, h2⟩
        · exact Or.inl h
        · exact Or.inr ⟨i, by omega, h2⟩
      · exact Or.inr ⟨k, by omega, rfl⟩
set_option maxHeartbeats 1000000 in
theorem T_smallest {d : Nat} {S : Sc} {M : Nat → Nat → Int32} {J : Nat → Nat → Int64} {b : Nat} {σ : Rw} (hS : OdS S b) {o : Nat} (ho : o = b + 4) {n : Nat} (hn : n ≤ 12) (h17 : σ 17 = nI n) : Wp (d + 2) 46 [.ref o] (S, sO M b σ, J) (fun rs w' => rs = .inl (some (.int (rSm σ n))) ∧ w' = (S, sO M b (σ), J)) := by
  subst ho
  obtain ⟨⟨k0, k1, k2, k3, k4, k5, k6⟩, ⟨r0, r1, r12, r13, r41, r42⟩, l2, l3, l5, l6⟩ := id hS
  refine ⟨rfl, ?_⟩
  refine EE.runN (stop := atPc [5]) 100 _ ?_
  refine ee_at (nt := nzT 46) [(0, .ref (b + 4)), (1, .int (rSm σ 0)), (2, .int (nI 0))] (S, sO M b σ, J) rfl (by rfl) (by rfl) ?_
  refine ee_loop (fun k => (5, [(0, .ref (b + 4)), (1, .int (rSm σ k)), (2, .int (nI k))], [], (S, sO M b σ, J), 0, 0)) (n) (fun k h_k ih_k => ?_) ?_
  · refine EE.runN (stop := atPc [5]) 80 _ ?_
    refine ⟨by simp only [wI_1, r0, r1, r12, r13, r41, r42, k0, k1, k2, k3, k4, k5, k6] <;> first | rfl | decide, ?_⟩
    refine ⟨fun h1 => ?_, fun h1 => ?_⟩
    · (have h_ := h1; simp only [wI_1, r0, r1, r12, r13, r41, r42, rd4_0, h17] at h_; exact absurd h_ (nI_ge h_k (by omega)))
    · refine ⟨fun h2 => ?_, fun h2 => ?_⟩
      · refine ee_at (nt := nzT 46) [(0, .ref (b + 4)), (1, .int (rSm σ (k + 1))), (2, .int (nI (k + 1)))] (S, sO M b σ, J) rfl (by rw [rSm, if_pos h2, ← nI_1 k]; rfl) (by rfl) ?_
        exact ih_k
      · obtain ⟨i, hi1, hi2⟩ := (rSm_or σ k).resolve_left h2
        have hi2c : (rSm σ k).toNatClampNeg = i := by rw [hi2, ck (by omega)]
        refine ⟨⟨Nat.le_of_ble_eq_true rfl, Nat.le_of_ble_eq_true rfl, Nat.le_of_ble_eq_true rfl⟩, by simp only [wI_1, r0, r1, r12, r13, r41, r42, k0, k1, k2, k3, k4, k5, k6] <;> first | rfl | decide, _, T_notedAt (q := k) hS rfl (by omega), ?_⟩
        rintro _ _ ⟨rfl, rfl⟩
        refine ⟨Or.inl rfl, ?_⟩
        refine ⟨⟨Nat.le_of_ble_eq_true rfl, Nat.le_of_ble_eq_true rfl, Nat.le_of_ble_eq_true rfl⟩, by simp only [wI_1, r0, r1, r12, r13, r41, r42, k0, k1, k2, k3, k4, k5, k6] <;> first | rfl | decide, _, by rw [hi2]; exact T_notedAt (q := i) hS rfl (by omega), ?_⟩
        rintro _ _ ⟨rfl, rfl⟩
        refine ⟨Or.inl rfl, ?_⟩
        refine ⟨fun h3 => ?_, fun h3 => ?_⟩
        · have hx := h3
          rw [← hi2c] at hx
          refine ee_at (nt := nzT 46) [(0, .ref (b + 4)), (1, .int (rSm σ (k + 1))), (2, .int (nI (k + 1)))] (S, sO M b σ, J) rfl (by rw [rSm, if_neg h2, if_pos hx, ← nI_1 k]; rfl) (by rfl) ?_
          exact ih_k
        · have hx := h3
          rw [← hi2c] at hx
          refine ee_at (nt := nzT 46) [(0, .ref (b + 4)), (1, .int (rSm σ (k + 1))), (2, .int (nI (k + 1)))] (S, sO M b σ, J) rfl (by rw [rSm, if_neg h2, if_neg hx, ← nI_1 k]; rfl) (by rfl) ?_
          exact ih_k
  · refine EE.runN (stop := atPc [5]) 80 _ ?_
    refine ⟨by simp only [wI_1, r0, r1, r12, r13, r41, r42, k0, k1, k2, k3, k4, k5, k6] <;> first | rfl | decide, ?_⟩
    refine ⟨fun h4 => ?_, fun h4 => ?_⟩
    · exact ⟨⟨Nat.zero_le _, Nat.zero_le _⟩, rfl, rfl⟩
    · (have h_ := h4; simp only [wI_1, r0, r1, r12, r13, r41, r42, rd4_0, h17] at h_; exact absurd (nI_le (Nat.le_refl n) (by omega)) h_)
end
section
/-! THE CLASS: an Odometer writes: written by wip/whole/pure3.py -/
theorem wI_w (S : Sc) (M : Nat → Nat → Int32) (J : Nat → Nat → Int64) (a : Nat) (g : Nat → Int32) : wI (S, M, J) a g = (S, upA M a g, J) := rfl
def cLeft (σ : Rw) (x : Int32) : Int32 := if σ 11 = 0 then x else if σ 11 = 1 then -99999 else σ 4 / 100 * 100
def cLose (σ : Rw) (s i t : Int32) : Rw := upd (upd (upd (upd (upd (upd (upd (upd σ 3 0) 13 s) 14 i) 15 (σ 11)) 16 t) 9 (σ 9 + 1)) 10 0) 11 (-99999)
def cW (σ : Rw) (s i : Nat) (t : Int32) : Rw :=
  if σ 10 = 1 then cLose (rCell (upd σ 8 (σ 8 + 1)) (3 * s + i) (cLeft (upd σ 8 (σ 8 + 1)) (upd σ 8 (σ 8 + 1) (42 + 2 * (3 * s + i))))) (nI s) (nI i) t
  else rCell (upd (upd σ 8 (σ 8 + 1)) 10 (if 0 < σ 10 - 1 then σ 10 - 1 else 0)) (3 * s + i) (σ 4)
def cWs (s : Nat) (t : Int32) : Nat → Nat → Rw → Rw
  | 0, _, σ => σ
  | f + 1, i, σ => if σ 3 = 0 then σ else cWs s t f (i + 1) (cW σ s i t)
set_option maxHeartbeats 1000000 in
theorem T_left {d : Nat} {S : Sc} {M : Nat → Nat → Int32} {J : Nat → Nat → Int64} {b : Nat} {σ : Rw} (hS : OdS S b) {x : Int32} : Wp (d + 1) 28 [.ref b, .int x] (S, sO M b σ, J) (fun rs w' => rs = .inl (some (.int (cLeft σ x))) ∧ w' = (S, sO M b (σ), J)) := by
  obtain ⟨⟨k0, k1, k2, k3, k4, k5, k6⟩, ⟨r0, r1, r12, r13, r41, r42⟩, l2, l3, l5, l6⟩ := id hS
  refine ⟨rfl, ?_⟩
  refine EE.runN (stop := noStop) 100 _ ?_
  refine ⟨by simp only [wI_1, r0, r1, r12, r13, r41, r42, k0, k1, k2, k3, k4, k5, k6] <;> first | rfl | decide, ?_⟩
  refine ⟨fun h1 => ?_, fun h1 => ?_⟩
  · refine ⟨by simp only [wI_1, r0, r1, r12, r13, r41, r42, k0, k1, k2, k3, k4, k5, k6] <;> first | rfl | decide, ?_⟩
    refine ⟨fun h2 => ?_, fun h2 => ?_⟩
    · refine ⟨by simp only [wI_1, r0, r1, r12, r13, r41, r42, k0, k1, k2, k3, k4, k5, k6] <;> first | rfl | decide, ?_⟩
      refine ⟨by first | decide | simp only [wI_1, r0, r1, r12, r13, r41, r42, k0, k1, k2, k3, k4, k5, k6] <;> first | rfl | decide, ?_⟩
      simp only [wI_M, tk_0, tk_1, tk_2, tk_3, tk_4, tk_5, tk_6, tk_7, tk_8, tk_9, tk_10, tk_11, tk_12, tk_13, tk_14, tk_15, tk_16, tk_17, rd0_2, wr0_2, rd0_3, wr0_3, rd0_4, wr0_4, rd0_5, wr0_5, rd0_6, wr0_6, rd0_7, wr0_7, rd0_8, wr0_8, rd0_9, wr0_9, rd0_10, wr0_10, rd0_11, wr0_11, rd0_12, wr0_12, rd0_13, wr0_13, rd0_14, wr0_14, rd0_15, wr0_15, rd0_16, wr0_16, rd1_0, wr1_0, rd1_1, wr1_1, rd4_0, wr4_0, wI_1, r0, r1, r12, r13, r41, r42, wI_w] at h1 h2
      refine ⟨⟨Nat.zero_le _, Nat.zero_le _⟩, ?_, rfl⟩
      refine congrArg (fun v => Sum.inl (some (Value.int v))) ?_
      unfold cLeft
      rw [if_neg h1]
      first | rw [if_pos h2] | rw [if_neg h2]
      try simp only [wI_M, tk_0, tk_1, tk_2, tk_3, tk_4, tk_5, tk_6, tk_7, tk_8, tk_9, tk_10, tk_11, tk_12, tk_13, tk_14, tk_15, tk_16, tk_17, rd0_2, wr0_2, rd0_3, wr0_3, rd0_4, wr0_4, rd0_5, wr0_5, rd0_6, wr0_6, rd0_7, wr0_7, rd0_8, wr0_8, rd0_9, wr0_9, rd0_10, wr0_10, rd0_11, wr0_11, rd0_12, wr0_12, rd0_13, wr0_13, rd0_14, wr0_14, rd0_15, wr0_15, rd0_16, wr0_16, rd1_0, wr1_0, rd1_1, wr1_1, rd4_0, wr4_0, wI_1, r0, r1, r12, r13, r41, r42, wI_w]
    · simp only [wI_M, tk_0, tk_1, tk_2, tk_3, tk_4, tk_5, tk_6, tk_7, tk_8, tk_9, tk_10, tk_11, tk_12, tk_13, tk_14, tk_15, tk_16, tk_17, rd0_2, wr0_2, rd0_3, wr0_3, rd0_4, wr0_4, rd0_5, wr0_5, rd0_6, wr0_6, rd0_7, wr0_7, rd0_8, wr0_8, rd0_9, wr0_9, rd0_10, wr0_10, rd0_11, wr0_11, rd0_12, wr0_12, rd0_13, wr0_13, rd0_14, wr0_14, rd0_15, wr0_15, rd0_16, wr0_16, rd1_0, wr1_0, rd1_1, wr1_1, rd4_0, wr4_0, wI_1, r0, r1, r12, r13, r41, r42, wI_w] at h1 h2
      refine ⟨⟨Nat.zero_le _, Nat.zero_le _⟩, ?_, rfl⟩
      refine congrArg (fun v => Sum.inl (some (Value.int v))) ?_
      unfold cLeft
      rw [if_neg h1]
      first | rw [if_pos h2] | rw [if_neg h2]
      try simp only [wI_M, tk_0, tk_1, tk_2, tk_3, tk_4, tk_5, tk_6, tk_7, tk_8, tk_9, tk_10, tk_11, tk_12, tk_13, tk_14, tk_15, tk_16, tk_17, rd0_2, wr0_2, rd0_3, wr0_3, rd0_4, wr0_4, rd0_5, wr0_5, rd0_6, wr0_6, rd0_7, wr0_7, rd0_8, wr0_8, rd0_9, wr0_9, rd0_10, wr0_10, rd0_11, wr0_11, rd0_12, wr0_12, rd0_13, wr0_13, rd0_14, wr0_14, rd0_15, wr0_15, rd0_16, wr0_16, rd1_0, wr1_0, rd1_1, wr1_1, rd4_0, wr4_0, wI_1, r0, r1, r12, r13, r41, r42, wI_w]
  · simp only [wI_M, tk_0, tk_1, tk_2, tk_3, tk_4, tk_5, tk_6, tk_7, tk_8, tk_9, tk_10, tk_11, tk_12, tk_13, tk_14, tk_15, tk_16, tk_17, rd0_2, wr0_2, rd0_3, wr0_3, rd0_4, wr0_4, rd0_5, wr0_5, rd0_6, wr0_6, rd0_7, wr0_7, rd0_8, wr0_8, rd0_9, wr0_9, rd0_10, wr0_10, rd0_11, wr0_11, rd0_12, wr0_12, rd0_13, wr0_13, rd0_14, wr0_14, rd0_15, wr0_15, rd0_16, wr0_16, rd1_0, wr1_0, rd1_1, wr1_1, rd4_0, wr4_0, wI_1, r0, r1, r12, r13, r41, r42, wI_w] at h1
    refine ⟨⟨Nat.zero_le _, Nat.zero_le _⟩, ?_, rfl⟩
    refine congrArg (fun v => Sum.inl (some (Value.int v))) ?_
    unfold cLeft
    rw [if_pos h1]
set_option maxHeartbeats 1000000 in
theorem T_lose {d : Nat} {S : Sc} {M : Nat → Nat → Int32} {J : Nat → Nat → Int64} {b : Nat} {σ : Rw} (hS : OdS S b) {s i t : Int32} : Wp (d + 1) 29 [.ref b, .int s, .int i, .int t] (S, sO M b σ, J) (fun rs w' => rs = .inl none ∧ w' = (S, sO M b (cLose σ s i t), J)) := by
  obtain ⟨⟨k0, k1, k2, k3, k4, k5, k6⟩, ⟨r0, r1, r12, r13, r41, r42⟩, l2, l3, l5, l6⟩ := id hS
  refine ⟨rfl, ?_⟩
  refine EE.runN (stop := noStop) 100 _ ?_
  refine ⟨by simp only [wI_1, r0, r1, r12, r13, r41, r42, k0, k1, k2, k3, k4, k5, k6] <;> first | rfl | decide, by first | exact Or.inl rfl | exact Or.inr rfl | simp only [wI_1, r0, r1, r12, r13, r41, r42, k0, k1, k2, k3, k4, k5, k6] <;> first | rfl | decide, ?_⟩
  refine ⟨by simp only [wI_1, r0, r1, r12, r13, r41, r42, k0, k1, k2, k3, k4, k5, k6] <;> first | rfl | decide, trivial, ?_⟩
  refine ⟨by simp only [wI_1, r0, r1, r12, r13, r41, r42, k0, k1, k2, k3, k4, k5, k6] <;> first | rfl | decide, trivial, ?_⟩
  refine ⟨by simp only [wI_1, r0, r1, r12, r13, r41, r42, k0, k1, k2, k3, k4, k5, k6] <;> first | rfl | decide, ?_⟩
  refine ⟨by simp only [wI_1, r0, r1, r12, r13, r41, r42, k0, k1, k2, k3, k4, k5, k6] <;> first | rfl | decide, trivial, ?_⟩
  refine ⟨by simp only [wI_1, r0, r1, r12, r13, r41, r42, k0, k1, k2, k3, k4, k5, k6] <;> first | rfl | decide, trivial, ?_⟩
  refine ⟨by simp only [wI_1, r0, r1, r12, r13, r41, r42, k0, k1, k2, k3, k4, k5, k6] <;> first | rfl | decide, ?_⟩
  refine ⟨by simp only [wI_1, r0, r1, r12, r13, r41, r42, k0, k1, k2, k3, k4, k5, k6] <;> first | rfl | decide, trivial, ?_⟩
  refine ⟨by simp only [wI_1, r0, r1, r12, r13, r41, r42, k0, k1, k2, k3, k4, k5, k6] <;> first | rfl | decide, trivial, ?_⟩
  refine ⟨by simp only [wI_1, r0, r1, r12, r13, r41, r42, k0, k1, k2, k3, k4, k5, k6] <;> first | rfl | decide, trivial, ?_⟩
  refine ⟨⟨Nat.zero_le _, Nat.zero_le _⟩, rfl, ?_⟩
  show (S, _, J) = (S, _, J)
  simp only [wI_M, tk_0, tk_1, tk_2, tk_3, tk_4, tk_5, tk_6, tk_7, tk_8, tk_9, tk_10, tk_11, tk_12, tk_13, tk_14, tk_15, tk_16, tk_17, rd0_2, wr0_2, rd0_3, wr0_3, rd0_4, wr0_4, rd0_5, wr0_5, rd0_6, wr0_6, rd0_7, wr0_7, rd0_8, wr0_8, rd0_9, wr0_9, rd0_10, wr0_10, rd0_11, wr0_11, rd0_12, wr0_12, rd0_13, wr0_13, rd0_14, wr0_14, rd0_15, wr0_15, rd0_16, wr0_16, rd1_0, wr1_0, rd1_1, wr1_1, rd4_0, wr4_0, wI_1, r0, r1, r12, r13, r41, r42, wI_w]
  rfl
set_option maxHeartbeats 2000000 in
theorem L_writeSlot {d : Nat} {Q : Res → Wd → Prop} {S : Sc} {M : Nat → Nat → Int32} {J : Nat → Nat → Int64} {b s : Nat} {t : Int32} (hS : OdS S b) (hs : s < 12) : ∀ (f i : Nat) (σ : Rw), i + f = 3 → Q (.inl none) (S, sO M b (cWs s t f i σ), J) → EE (SJ (d + 3) 27 (Wp (d + 2)) Q) (2, [(0, .ref b), (1, .int (nI s)), (2, .int t), (3, .int (nI i))], [], (S, sO M b σ, J), 0, 0) := by
  intro f
  obtain ⟨⟨k0, k1, k2, k3, k4, k5, k6⟩, ⟨r0, r1, r12, r13, r41, r42⟩, l2, l3, l5, l6⟩ := id hS
  induction f with
  | zero =>
    intro i σ hk hQ
    refine EE.runN (stop := atPc [2]) 80 _ ?_
    refine ⟨fun h1 => ?_, fun h1 => ?_⟩
    · refine ⟨⟨Nat.zero_le _, Nat.zero_le _⟩, ?_⟩
      exact hQ
    · exact absurd (nI_le (show 3 ≤ i by omega) (by omega)) h1
  | succ f ih =>
    intro i σ hk hQ
    refine EE.runN (stop := atPc [2]) 120 _ ?_
    refine ⟨fun h1 => ?_, fun h1 => ?_⟩
    · exact absurd h1 (nI_ge (b := 3) (by omega) (by omega))
    · refine ⟨by simp only [wI_1, r0, r1, r12, r13, r41, r42, k0, k1, k2, k3, k4, k5, k6] <;> first | rfl | decide, ?_⟩
      refine ⟨fun h2 => ?_, fun h2 => ?_⟩
      · simp only [wI_M, tk_0, tk_1, tk_2, tk_3, tk_4, tk_5, tk_6, tk_7, tk_8, tk_9, tk_10, tk_11, tk_12, tk_13, tk_14, tk_15, tk_16, tk_17, rd0_2, wr0_2, rd0_3, wr0_3, rd0_4, wr0_4, rd0_5, wr0_5, rd0_6, wr0_6, rd0_7, wr0_7, rd0_8, wr0_8, rd0_9, wr0_9, rd0_10, wr0_10, rd0_11, wr0_11, rd0_12, wr0_12, rd0_13, wr0_13, rd0_14, wr0_14, rd0_15, wr0_15, rd0_16, wr0_16, rd1_0, wr1_0, rd1_1, wr1_1, rd4_0, wr4_0, wI_1, r0, r1, r12, r13, r41, r42, wI_w] at h1 h2
        refine ⟨⟨Nat.zero_le _, Nat.zero_le _⟩, ?_⟩
        rw [cWs, if_pos h2] at hQ
        exact hQ
      · refine ⟨by simp only [wI_1, r0, r1, r12, r13, r41, r42, k0, k1, k2, k3, k4, k5, k6] <;> first | rfl | decide, ?_⟩
        refine ⟨by simp only [wI_1, r0, r1, r12, r13, r41, r42, k0, k1, k2, k3, k4, k5, k6] <;> first | rfl | decide, trivial, ?_⟩
        refine ⟨by simp only [wI_1, r0, r1, r12, r13, r41, r42, k0, k1, k2, k3, k4, k5, k6] <;> first | rfl | decide, ?_⟩
        refine ⟨fun h3 => ?_, fun h3 => ?_⟩
        · refine ⟨by simp only [wI_1, r0, r1, r12, r13, r41, r42, k0, k1, k2, k3, k4, k5, k6] <;> first | rfl | decide, ?_⟩
          refine ⟨⟨Nat.le_of_ble_eq_true rfl, Nat.zero_le _, Nat.zero_le _⟩, ?_⟩
          refine ⟨by simp only [wI_1, r0, r1, r12, r13, r41, r42, k0, k1, k2, k3, k4, k5, k6] <;> first | rfl | decide, trivial, ?_⟩
          refine ⟨by simp only [wI_1, r0, r1, r12, r13, r41, r42, k0, k1, k2, k3, k4, k5, k6] <;> first | rfl | decide, ?_⟩
          refine ⟨by simp only [wI_1, r0, r1, r12, r13, r41, r42, k0, k1, k2, k3, k4, k5, k6] <;> first | rfl | decide, ?_⟩
          refine ⟨⟨Nat.le_of_ble_eq_true rfl, Nat.le_of_ble_eq_true rfl, Nat.le_of_ble_eq_true rfl⟩, by simp only [wI_1, r0, r1, r12, r13, r41, r42, k0, k1, k2, k3, k4, k5, k6] <;> first | rfl | decide, _, by simp only [wI_M, tk_0, tk_1, tk_2, tk_3, tk_4, tk_5, tk_6, tk_7, tk_8, tk_9, tk_10, tk_11, tk_12, tk_13, tk_14, tk_15, tk_16, tk_17, rd0_2, wr0_2, rd0_3, wr0_3, rd0_4, wr0_4, rd0_5, wr0_5, rd0_6, wr0_6, rd0_7, wr0_7, rd0_8, wr0_8, rd0_9, wr0_9, rd0_10, wr0_10, rd0_11, wr0_11, rd0_12, wr0_12, rd0_13, wr0_13, rd0_14, wr0_14, rd0_15, wr0_15, rd0_16, wr0_16, rd1_0, wr1_0, rd1_1, wr1_1, rd4_0, wr4_0, wI_1, r0, r1, r12, r13, r41, r42, wI_w]; exact T_write (s := s) (i := i) hS rfl hs (by omega), ?_⟩
          rintro _ _ ⟨rfl, rfl⟩
          refine ⟨Or.inl rfl, ?_⟩
          simp only [wI_M, tk_0, tk_1, tk_2, tk_3, tk_4, tk_5, tk_6, tk_7, tk_8, tk_9, tk_10, tk_11, tk_12, tk_13, tk_14, tk_15, tk_16, tk_17, rd0_2, wr0_2, rd0_3, wr0_3, rd0_4, wr0_4, rd0_5, wr0_5, rd0_6, wr0_6, rd0_7, wr0_7, rd0_8, wr0_8, rd0_9, wr0_9, rd0_10, wr0_10, rd0_11, wr0_11, rd0_12, wr0_12, rd0_13, wr0_13, rd0_14, wr0_14, rd0_15, wr0_15, rd0_16, wr0_16, rd1_0, wr1_0, rd1_1, wr1_1, rd4_0, wr4_0, wI_1, r0, r1, r12, r13, r41, r42, wI_w] at h2 h3
          refine ee_at (nt := nzT 27) [(0, .ref b), (1, .int (nI s)), (2, .int t), (3, .int (nI (i + 1)))] (S, sO M b (cW σ s i t), J) rfl (by rw [← nI_1 i]; rfl) ?_ (ih (i + 1) (cW σ s i t) (by omega) ?_)
          · show (S, _, J) = (S, _, J)
            try simp only [wI_M, tk_0, tk_1, tk_2, tk_3, tk_4, tk_5, tk_6, tk_7, tk_8, tk_9, tk_10, tk_11, tk_12, tk_13, tk_14, tk_15, tk_16, tk_17, rd0_2, wr0_2, rd0_3, wr0_3, rd0_4, wr0_4, rd0_5, wr0_5, rd0_6, wr0_6, rd0_7, wr0_7, rd0_8, wr0_8, rd0_9, wr0_9, rd0_10, wr0_10, rd0_11, wr0_11, rd0_12, wr0_12, rd0_13, wr0_13, rd0_14, wr0_14, rd0_15, wr0_15, rd0_16, wr0_16, rd1_0, wr1_0, rd1_1, wr1_1, rd4_0, wr4_0, wI_1, r0, r1, r12, r13, r41, r42, wI_w]
            unfold cW
            first | rw [if_pos (show σ 10 = 1 from h3)] | rw [if_neg (show ¬ σ 10 = 1 from h3)]
            try rfl
          · rw [cWs, if_neg h2] at hQ
            exact hQ
        · refine ⟨by simp only [wI_1, r0, r1, r12, r13, r41, r42, k0, k1, k2, k3, k4, k5, k6] <;> first | rfl | decide, ?_⟩
          refine ⟨by simp only [wI_1, r0, r1, r12, r13, r41, r42, k0, k1, k2, k3, k4, k5, k6] <;> first | rfl | decide, ?_⟩
          refine ⟨⟨Nat.le_of_ble_eq_true rfl, Nat.le_of_ble_eq_true rfl, Nat.le_of_ble_eq_true rfl⟩, by simp only [wI_1, r0, r1, r12, r13, r41, r42, k0, k1, k2, k3, k4, k5, k6] <;> first | rfl | decide, _, by simp only [wI_M, tk_0, tk_1, tk_2, tk_3, tk_4, tk_5, tk_6, tk_7, tk_8, tk_9, tk_10, tk_11, tk_12, tk_13, tk_14, tk_15, tk_16, tk_17, rd0_2, wr0_2, rd0_3, wr0_3, rd0_4, wr0_4, rd0_5, wr0_5, rd0_6, wr0_6, rd0_7, wr0_7, rd0_8, wr0_8, rd0_9, wr0_9, rd0_10, wr0_10, rd0_11, wr0_11, rd0_12, wr0_12, rd0_13, wr0_13, rd0_14, wr0_14, rd0_15, wr0_15, rd0_16, wr0_16, rd1_0, wr1_0, rd1_1, wr1_1, rd4_0, wr4_0, wI_1, r0, r1, r12, r13, r41, r42, wI_w]; exact T_numberIn (s := s) (i := i) hS rfl hs (by omega), ?_⟩
          rintro _ _ ⟨rfl, rfl⟩
          refine ⟨Or.inl rfl, ?_⟩
          refine ⟨⟨Nat.le_of_ble_eq_true rfl, Nat.le_of_ble_eq_true rfl, Nat.le_of_ble_eq_true rfl⟩, by simp only [wI_1, r0, r1, r12, r13, r41, r42, k0, k1, k2, k3, k4, k5, k6] <;> first | rfl | decide, _, T_left hS, ?_⟩
          rintro _ _ ⟨rfl, rfl⟩
          refine ⟨Or.inl rfl, ?_⟩
          refine ⟨⟨Nat.le_of_ble_eq_true rfl, Nat.le_of_ble_eq_true rfl, Nat.le_of_ble_eq_true rfl⟩, by simp only [wI_1, r0, r1, r12, r13, r41, r42, k0, k1, k2, k3, k4, k5, k6] <;> first | rfl | decide, _, T_write (s := s) (i := i) hS r0 hs (by omega), ?_⟩
          rintro _ _ ⟨rfl, rfl⟩
          refine ⟨Or.inl rfl, ?_⟩
          refine ⟨⟨Nat.le_of_ble_eq_true rfl, Nat.le_of_ble_eq_true rfl, Nat.le_of_ble_eq_true rfl⟩, by simp only [wI_1, r0, r1, r12, r13, r41, r42, k0, k1, k2, k3, k4, k5, k6] <;> first | rfl | decide, _, T_lose hS, ?_⟩
          rintro _ _ ⟨rfl, rfl⟩
          refine ⟨Or.inl rfl, ?_⟩
          simp only [wI_M, tk_0, tk_1, tk_2, tk_3, tk_4, tk_5, tk_6, tk_7, tk_8, tk_9, tk_10, tk_11, tk_12, tk_13, tk_14, tk_15, tk_16, tk_17, rd0_2, wr0_2, rd0_3, wr0_3, rd0_4, wr0_4, rd0_5, wr0_5, rd0_6, wr0_6, rd0_7, wr0_7, rd0_8, wr0_8, rd0_9, wr0_9, rd0_10, wr0_10, rd0_11, wr0_11, rd0_12, wr0_12, rd0_13, wr0_13, rd0_14, wr0_14, rd0_15, wr0_15, rd0_16, wr0_16, rd1_0, wr1_0, rd1_1, wr1_1, rd4_0, wr4_0, wI_1, r0, r1, r12, r13, r41, r42, wI_w] at h2 h3
          refine ee_at (nt := nzT 27) [(0, .ref b), (1, .int (nI s)), (2, .int t), (3, .int (nI (i + 1)))] (S, sO M b (cW σ s i t), J) rfl (by rw [← nI_1 i]; rfl) ?_ (ih (i + 1) (cW σ s i t) (by omega) ?_)
          · show (S, _, J) = (S, _, J)
            try simp only [wI_M, tk_0, tk_1, tk_2, tk_3, tk_4, tk_5, tk_6, tk_7, tk_8, tk_9, tk_10, tk_11, tk_12, tk_13, tk_14, tk_15, tk_16, tk_17, rd0_2, wr0_2, rd0_3, wr0_3, rd0_4, wr0_4, rd0_5, wr0_5, rd0_6, wr0_6, rd0_7, wr0_7, rd0_8, wr0_8, rd0_9, wr0_9, rd0_10, wr0_10, rd0_11, wr0_11, rd0_12, wr0_12, rd0_13, wr0_13, rd0_14, wr0_14, rd0_15, wr0_15, rd0_16, wr0_16, rd1_0, wr1_0, rd1_1, wr1_1, rd4_0, wr4_0, wI_1, r0, r1, r12, r13, r41, r42, wI_w]
            unfold cW
            first | rw [if_pos (show σ 10 = 1 from h3)] | rw [if_neg (show ¬ σ 10 = 1 from h3)]
            try rfl
          · rw [cWs, if_neg h2] at hQ
            exact hQ
theorem T_writeSlot {d : Nat} {S : Sc} {M : Nat → Nat → Int32} {J : Nat → Nat → Int64} {b : Nat} {σ : Rw} (hS : OdS S b) {s : Nat} {t : Int32} (hs : s < 12) : Wp (d + 3) 27 [.ref b, .int (nI s), .int t] (S, sO M b σ, J) (fun rs w' => rs = .inl none ∧ w' = (S, sO M b (cWs s t 3 0 σ), J)) := by
  refine ⟨rfl, ?_⟩
  refine EE.runN (stop := atPc [2]) 2 _ ?_
  refine ee_at (nt := nzT 27) [(0, .ref b), (1, .int (nI s)), (2, .int t), (3, .int (nI 0))] (S, sO M b σ, J) rfl rfl rfl ?_
  exact L_writeSlot hS hs 3 0 σ rfl ⟨rfl, rfl⟩
end
section
/-! THE CLASS: its writes are the reference's: written by wip/whole/pure3.py -/
/-- the cut that is set: on the q-th write, and of which kind -/
def Kok (ρ : Rw) : Prop := ∃ q, q ≤ 36 ∧ ρ 10 = nI q ∧ (q = 0 ∨ ρ 11 = 0 ∨ ρ 11 = 1 ∨ ρ 11 = 2)
theorem q_cut {q : Nat} (hq : q ≤ 36) (h1 : ¬ nI q = 1) : (if 0 < nI q - 1 then nI q - 1 else 0) = nI q - (if nI q ≤ 0 then 0 else 1) := by
  rcases Nat.eq_zero_or_pos q with h | h
  · subst h
    decide
  · have h2 : q ≠ 1 := fun e => h1 (e ▸ rfl)
    have e : nI q - 1 = nI (q - 1) := by rw [show (1 : Int32) = nI 1 from rfl, pk_sub (by omega)]
    rw [if_neg (nI_nle h (by omega)), e, if_pos]
    exact nI_lt (a := 0) (b := q - 1) (by omega) (by omega)
theorem q_cut' {q : Nat} (hq : q ≤ 36) : nI q - (if nI q ≤ 0 then 0 else 1) = nI (q - 1) := by
  rcases Nat.eq_zero_or_pos q with h | h
  · subst h
    rfl
  · rw [if_neg (nI_nle h (by omega)), show (1 : Int32) = nI 1 from rfl, pk_sub (by omega)]
theorem i_rem (v : Int32) : v - (v - v / 100 * 100) = v / 100 * 100 := by
  generalize v / 100 * 100 = w
  rw [Int32.sub_eq_add_neg v (v - w), Int32.neg_sub, Int32.add_comm, Int32.sub_add_cancel]
set_option maxHeartbeats 4000000 in
theorem cW_r {σ : Rw} {s i : Nat} {t : Int32} (hD : σ 12 = 0) (hK : Kok σ) : cW σ s i t = rWr σ s i (σ 4) t := by
  obtain ⟨q, hq, h10, hk⟩ := hK
  have n42_2 : ¬ 42 + 2 * (3 * s + i) = 2 := by omega
  have n42_3 : ¬ 42 + 2 * (3 * s + i) = 3 := by omega
  have n42_4 : ¬ 42 + 2 * (3 * s + i) = 4 := by omega
  have n42_8 : ¬ 42 + 2 * (3 * s + i) = 8 := by omega
  have n42_9 : ¬ 42 + 2 * (3 * s + i) = 9 := by omega
  have n42_10 : ¬ 42 + 2 * (3 * s + i) = 10 := by omega
  have n42_11 : ¬ 42 + 2 * (3 * s + i) = 11 := by omega
  have n42_12 : ¬ 42 + 2 * (3 * s + i) = 12 := by omega
  have n42_13 : ¬ 42 + 2 * (3 * s + i) = 13 := by omega
  have n42_14 : ¬ 42 + 2 * (3 * s + i) = 14 := by omega
  have n42_15 : ¬ 42 + 2 * (3 * s + i) = 15 := by omega
  have n42_16 : ¬ 42 + 2 * (3 * s + i) = 16 := by omega
  have n43_2 : ¬ 43 + 2 * (3 * s + i) = 2 := by omega
  have n43_3 : ¬ 43 + 2 * (3 * s + i) = 3 := by omega
  have n43_4 : ¬ 43 + 2 * (3 * s + i) = 4 := by omega
  have n43_8 : ¬ 43 + 2 * (3 * s + i) = 8 := by omega
  have n43_9 : ¬ 43 + 2 * (3 * s + i) = 9 := by omega
  have n43_10 : ¬ 43 + 2 * (3 * s + i) = 10 := by omega
  have n43_11 : ¬ 43 + 2 * (3 * s + i) = 11 := by omega
  have n43_12 : ¬ 43 + 2 * (3 * s + i) = 12 := by omega
  have n43_13 : ¬ 43 + 2 * (3 * s + i) = 13 := by omega
  have n43_14 : ¬ 43 + 2 * (3 * s + i) = 14 := by omega
  have n43_15 : ¬ 43 + 2 * (3 * s + i) = 15 := by omega
  have n43_16 : ¬ 43 + 2 * (3 * s + i) = 16 := by omega
  have m42_2 : ¬ 2 = 42 + 2 * (3 * s + i) := by omega
  have m42_3 : ¬ 3 = 42 + 2 * (3 * s + i) := by omega
  have m42_4 : ¬ 4 = 42 + 2 * (3 * s + i) := by omega
  have m42_8 : ¬ 8 = 42 + 2 * (3 * s + i) := by omega
  have m42_9 : ¬ 9 = 42 + 2 * (3 * s + i) := by omega
  have m42_10 : ¬ 10 = 42 + 2 * (3 * s + i) := by omega
  have m42_11 : ¬ 11 = 42 + 2 * (3 * s + i) := by omega
  have m42_12 : ¬ 12 = 42 + 2 * (3 * s + i) := by omega
  have m42_13 : ¬ 13 = 42 + 2 * (3 * s + i) := by omega
  have m42_14 : ¬ 14 = 42 + 2 * (3 * s + i) := by omega
  have m42_15 : ¬ 15 = 42 + 2 * (3 * s + i) := by omega
  have m42_16 : ¬ 16 = 42 + 2 * (3 * s + i) := by omega
  have m43_2 : ¬ 2 = 43 + 2 * (3 * s + i) := by omega
  have m43_3 : ¬ 3 = 43 + 2 * (3 * s + i) := by omega
  have m43_4 : ¬ 4 = 43 + 2 * (3 * s + i) := by omega
  have m43_8 : ¬ 8 = 43 + 2 * (3 * s + i) := by omega
  have m43_9 : ¬ 9 = 43 + 2 * (3 * s + i) := by omega
  have m43_10 : ¬ 10 = 43 + 2 * (3 * s + i) := by omega
  have m43_11 : ¬ 11 = 43 + 2 * (3 * s + i) := by omega
  have m43_12 : ¬ 12 = 43 + 2 * (3 * s + i) := by omega
  have m43_13 : ¬ 13 = 43 + 2 * (3 * s + i) := by omega
  have m43_14 : ¬ 14 = 43 + 2 * (3 * s + i) := by omega
  have m43_15 : ¬ 15 = 43 + 2 * (3 * s + i) := by omega
  have m43_16 : ¬ 16 = 43 + 2 * (3 * s + i) := by omega
  have q1 : ¬ 42 + 2 * (3 * s + i) = 43 + 2 * (3 * s + i) := by omega
  have q2 : ¬ 43 + 2 * (3 * s + i) = 42 + 2 * (3 * s + i) := by omega
  unfold cW rWr
  by_cases hc : σ 10 = 1
  · have hq1 : q ≠ 0 := by
      intro e
      rw [h10, e] at hc
      exact absurd hc (by decide)
    rw [if_pos hc, if_pos hc]
    by_cases hw : σ (43 + 2 * (3 * s + i)) < σ 2
    · rcases hk.resolve_left hq1 with h | h | h
      · funext k
        by_cases z0 : k = 3
        · subst z0
          simp [rOff, rPut, rCut, rCell, cLose, cLeft, upd, n42_2, n42_3, n42_4, n42_8, n42_9, n42_10, n42_11, n42_12, n42_13, n42_14, n42_15, n42_16, n43_2, n43_3, n43_4, n43_8, n43_9, n43_10, n43_11, n43_12, n43_13, n43_14, n43_15, n43_16, m42_2, m42_3, m42_4, m42_8, m42_9, m42_10, m42_11, m42_12, m42_13, m42_14, m42_15, m42_16, m43_2, m43_3, m43_4, m43_8, m43_9, m43_10, m43_11, m43_12, m43_13, m43_14, m43_15, m43_16, q1, q2, hw, h, hc, hD, i_rem]
        by_cases z1 : k = 8
        · subst z1
          simp [rOff, rPut, rCut, rCell, cLose, cLeft, upd, n42_2, n42_3, n42_4, n42_8, n42_9, n42_10, n42_11, n42_12, n42_13, n42_14, n42_15, n42_16, n43_2, n43_3, n43_4, n43_8, n43_9, n43_10, n43_11, n43_12, n43_13, n43_14, n43_15, n43_16, m42_2, m42_3, m42_4, m42_8, m42_9, m42_10, m42_11, m42_12, m42_13, m42_14, m42_15, m42_16, m43_2, m43_3, m43_4, m43_8, m43_9, m43_10, m43_11, m43_12, m43_13, m43_14, m43_15, m43_16, q1, q2, hw, h, hc, hD, i_rem]
        by_cases z2 : k = 9
        · subst z2
          simp [rOff, rPut, rCut, rCell, cLose, cLeft, upd, n42_2, n42_3, n42_4, n42_8, n42_9, n42_10, n42_11, n42_12, n42_13, n42_14, n42_15, n42_16, n43_2, n43_3, n43_4, n43_8, n43_9, n43_10, n43_11, n43_12, n43_13, n43_14, n43_15, n43_16, m42_2, m42_3, m42_4, m42_8, m42_9, m42_10, m42_11, m42_12, m42_13, m42_14, m42_15, m42_16, m43_2, m43_3, m43_4, m43_8, m43_9, m43_10, m43_11, m43_12, m43_13, m43_14, m43_15, m43_16, q1, q2, hw, h, hc, hD, i_rem]
        by_cases z3 : k = 10
        · subst z3
          simp [rOff, rPut, rCut, rCell, cLose, cLeft, upd, n42_2, n42_3, n42_4, n42_8, n42_9, n42_10, n42_11, n42_12, n42_13, n42_14, n42_15, n42_16, n43_2, n43_3, n43_4, n43_8, n43_9, n43_10, n43_11, n43_12, n43_13, n43_14, n43_15, n43_16, m42_2, m42_3, m42_4, m42_8, m42_9, m42_10, m42_11, m42_12, m42_13, m42_14, m42_15, m42_16, m43_2, m43_3, m43_4, m43_8, m43_9, m43_10, m43_11, m43_12, m43_13, m43_14, m43_15, m43_16, q1, q2, hw, h, hc, hD, i_rem]
        by_cases z4 : k = 11
        · subst z4
          simp [rOff, rPut, rCut, rCell, cLose, cLeft, upd, n42_2, n42_3, n42_4, n42_8, n42_9, n42_10, n42_11, n42_12, n42_13, n42_14, n42_15, n42_16, n43_2, n43_3, n43_4, n43_8, n43_9, n43_10, n43_11, n43_12, n43_13, n43_14, n43_15, n43_16, m42_2, m42_3, m42_4, m42_8, m42_9, m42_10, m42_11, m42_12, m42_13, m42_14, m42_15, m42_16, m43_2, m43_3, m43_4, m43_8, m43_9, m43_10, m43_11, m43_12, m43_13, m43_14, m43_15, m43_16, q1, q2, hw, h, hc, hD, i_rem]
        by_cases z5 : k = 12
        · subst z5
          simp [rOff, rPut, rCut, rCell, cLose, cLeft, upd, n42_2, n42_3, n42_4, n42_8, n42_9, n42_10, n42_11, n42_12, n42_13, n42_14, n42_15, n42_16, n43_2, n43_3, n43_4, n43_8, n43_9, n43_10, n43_11, n43_12, n43_13, n43_14, n43_15, n43_16, m42_2, m42_3, m42_4, m42_8, m42_9, m42_10, m42_11, m42_12, m42_13, m42_14, m42_15, m42_16, m43_2, m43_3, m43_4, m43_8, m43_9, m43_10, m43_11, m43_12, m43_13, m43_14, m43_15, m43_16, q1, q2, hw, h, hc, hD, i_rem]
        by_cases z6 : k = 13
        · subst z6
          simp [rOff, rPut, rCut, rCell, cLose, cLeft, upd, n42_2, n42_3, n42_4, n42_8, n42_9, n42_10, n42_11, n42_12, n42_13, n42_14, n42_15, n42_16, n43_2, n43_3, n43_4, n43_8, n43_9, n43_10, n43_11, n43_12, n43_13, n43_14, n43_15, n43_16, m42_2, m42_3, m42_4, m42_8, m42_9, m42_10, m42_11, m42_12, m42_13, m42_14, m42_15, m42_16, m43_2, m43_3, m43_4, m43_8, m43_9, m43_10, m43_11, m43_12, m43_13, m43_14, m43_15, m43_16, q1, q2, hw, h, hc, hD, i_rem]
        by_cases z7 : k = 14
        · subst z7
          simp [rOff, rPut, rCut, rCell, cLose, cLeft, upd, n42_2, n42_3, n42_4, n42_8, n42_9, n42_10, n42_11, n42_12, n42_13, n42_14, n42_15, n42_16, n43_2, n43_3, n43_4, n43_8, n43_9, n43_10, n43_11, n43_12, n43_13, n43_14, n43_15, n43_16, m42_2, m42_3, m42_4, m42_8, m42_9, m42_10, m42_11, m42_12, m42_13, m42_14, m42_15, m42_16, m43_2, m43_3, m43_4, m43_8, m43_9, m43_10, m43_11, m43_12, m43_13, m43_14, m43_15, m43_16, q1, q2, hw, h, hc, hD, i_rem]
        by_cases z8 : k = 15
        · subst z8
          simp [rOff, rPut, rCut, rCell, cLose, cLeft, upd, n42_2, n42_3, n42_4, n42_8, n42_9, n42_10, n42_11, n42_12, n42_13, n42_14, n42_15, n42_16, n43_2, n43_3, n43_4, n43_8, n43_9, n43_10, n43_11, n43_12, n43_13, n43_14, n43_15, n43_16, m42_2, m42_3, m42_4, m42_8, m42_9, m42_10, m42_11, m42_12, m42_13, m42_14, m42_15, m42_16, m43_2, m43_3, m43_4, m43_8, m43_9, m43_10, m43_11, m43_12, m43_13, m43_14, m43_15, m43_16, q1, q2, hw, h, hc, hD, i_rem]
        by_cases z9 : k = 16
        · subst z9
          simp [rOff, rPut, rCut, rCell, cLose, cLeft, upd, n42_2, n42_3, n42_4, n42_8, n42_9, n42_10, n42_11, n42_12, n42_13, n42_14, n42_15, n42_16, n43_2, n43_3, n43_4, n43_8, n43_9, n43_10, n43_11, n43_12, n43_13, n43_14, n43_15, n43_16, m42_2, m42_3, m42_4, m42_8, m42_9, m42_10, m42_11, m42_12, m42_13, m42_14, m42_15, m42_16, m43_2, m43_3, m43_4, m43_8, m43_9, m43_10, m43_11, m43_12, m43_13, m43_14, m43_15, m43_16, q1, q2, hw, h, hc, hD, i_rem]
        by_cases z10 : k = 42 + 2 * (3 * s + i)
        · subst z10
          simp [rOff, rPut, rCut, rCell, cLose, cLeft, upd, n42_2, n42_3, n42_4, n42_8, n42_9, n42_10, n42_11, n42_12, n42_13, n42_14, n42_15, n42_16, n43_2, n43_3, n43_4, n43_8, n43_9, n43_10, n43_11, n43_12, n43_13, n43_14, n43_15, n43_16, m42_2, m42_3, m42_4, m42_8, m42_9, m42_10, m42_11, m42_12, m42_13, m42_14, m42_15, m42_16, m43_2, m43_3, m43_4, m43_8, m43_9, m43_10, m43_11, m43_12, m43_13, m43_14, m43_15, m43_16, q1, q2, hw, h, hc, hD, i_rem]
        by_cases z11 : k = 43 + 2 * (3 * s + i)
        · subst z11
          simp [rOff, rPut, rCut, rCell, cLose, cLeft, upd, n42_2, n42_3, n42_4, n42_8, n42_9, n42_10, n42_11, n42_12, n42_13, n42_14, n42_15, n42_16, n43_2, n43_3, n43_4, n43_8, n43_9, n43_10, n43_11, n43_12, n43_13, n43_14, n43_15, n43_16, m42_2, m42_3, m42_4, m42_8, m42_9, m42_10, m42_11, m42_12, m42_13, m42_14, m42_15, m42_16, m43_2, m43_3, m43_4, m43_8, m43_9, m43_10, m43_11, m43_12, m43_13, m43_14, m43_15, m43_16, q1, q2, hw, h, hc, hD, i_rem]
        simp [rOff, rPut, rCut, rCell, cLose, cLeft, upd, n42_2, n42_3, n42_4, n42_8, n42_9, n42_10, n42_11, n42_12, n42_13, n42_14, n42_15, n42_16, n43_2, n43_3, n43_4, n43_8, n43_9, n43_10, n43_11, n43_12, n43_13, n43_14, n43_15, n43_16, m42_2, m42_3, m42_4, m42_8, m42_9, m42_10, m42_11, m42_12, m42_13, m42_14, m42_15, m42_16, m43_2, m43_3, m43_4, m43_8, m43_9, m43_10, m43_11, m43_12, m43_13, m43_14, m43_15, m43_16, q1, q2, hw, h, hc, hD, i_rem, z0, z1, z2, z3, z4, z5, z6, z7, z8, z9, z10, z11]
      · funext k
        by_cases z0 : k = 3
        · subst z0
          simp [rOff, rPut, rCut, rCell, cLose, cLeft, upd, n42_2, n42_3, n42_4, n42_8, n42_9, n42_10, n42_11, n42_12, n42_13, n42_14, n42_15, n42_16, n43_2, n43_3, n43_4, n43_8, n43_9, n43_10, n43_11, n43_12, n43_13, n43_14, n43_15, n43_16, m42_2, m42_3, m42_4, m42_8, m42_9, m42_10, m42_11, m42_12, m42_13, m42_14, m42_15, m42_16, m43_2, m43_3, m43_4, m43_8, m43_9, m43_10, m43_11, m43_12, m43_13, m43_14, m43_15, m43_16, q1, q2, hw, h, hc, hD, i_rem]
        by_cases z1 : k = 8
        · subst z1
          simp [rOff, rPut, rCut, rCell, cLose, cLeft, upd, n42_2, n42_3, n42_4, n42_8, n42_9, n42_10, n42_11, n42_12, n42_13, n42_14, n42_15, n42_16, n43_2, n43_3, n43_4, n43_8, n43_9, n43_10, n43_11, n43_12, n43_13, n43_14, n43_15, n43_16, m42_2, m42_3, m42_4, m42_8, m42_9, m42_10, m42_11, m42_12, m42_13, m42_14, m42_15, m42_16, m43_2, m43_3, m43_4, m43_8, m43_9, m43_10, m43_11, m43_12, m43_13, m43_14, m43_15, m43_16, q1, q2, hw, h, hc, hD, i_rem]
        by_cases z2 : k = 9
        · subst z2
          simp [rOff, rPut, rCut, rCell, cLose, cLeft, upd, n42_2, n42_3, n42_4, n42_8, n42_9, n42_10, n42_11, n42_12, n42_13, n42_14, n42_15, n42_16, n43_2, n43_3, n43_4, n43_8, n43_9, n43_10, n43_11, n43_12, n43_13, n43_14, n43_15, n43_16, m42_2, m42_3, m42_4, m42_8, m42_9, m42_10, m42_11, m42_12, m42_13, m42_14, m42_15, m42_16, m43_2, m43_3, m43_4, m43_8, m43_9, m43_10, m43_11, m43_12, m43_13, m43_14, m43_15, m43_16, q1, q2, hw, h, hc, hD, i_rem]
        by_cases z3 : k = 10
        · subst z3
          simp [rOff, rPut, rCut, rCell, cLose, cLeft, upd, n42_2, n42_3, n42_4, n42_8, n42_9, n42_10, n42_11, n42_12, n42_13, n42_14, n42_15, n42_16, n43_2, n43_3, n43_4, n43_8, n43_9, n43_10, n43_11, n43_12, n43_13, n43_14, n43_15, n43_16, m42_2, m42_3, m42_4, m42_8, m42_9, m42_10, m42_11, m42_12, m42_13, m42_14, m42_15, m42_16, m43_2, m43_3, m43_4, m43_8, m43_9, m43_10, m43_11, m43_12, m43_13, m43_14, m43_15, m43_16, q1, q2, hw, h, hc, hD, i_rem]
        by_cases z4 : k = 11
        · subst z4
          simp [rOff, rPut, rCut, rCell, cLose, cLeft, upd, n42_2, n42_3, n42_4, n42_8, n42_9, n42_10, n42_11, n42_12, n42_13, n42_14, n42_15, n42_16, n43_2, n43_3, n43_4, n43_8, n43_9, n43_10, n43_11, n43_12, n43_13, n43_14, n43_15, n43_16, m42_2, m42_3, m42_4, m42_8, m42_9, m42_10, m42_11, m42_12, m42_13, m42_14, m42_15, m42_16, m43_2, m43_3, m43_4, m43_8, m43_9, m43_10, m43_11, m43_12, m43_13, m43_14, m43_15, m43_16, q1, q2, hw, h, hc, hD, i_rem]
        by_cases z5 : k = 12
        · subst z5
          simp [rOff, rPut, rCut, rCell, cLose, cLeft, upd, n42_2, n42_3, n42_4, n42_8, n42_9, n42_10, n42_11, n42_12, n42_13, n42_14, n42_15, n42_16, n43_2, n43_3, n43_4, n43_8, n43_9, n43_10, n43_11, n43_12, n43_13, n43_14, n43_15, n43_16, m42_2, m42_3, m42_4, m42_8, m42_9, m42_10, m42_11, m42_12, m42_13, m42_14, m42_15, m42_16, m43_2, m43_3, m43_4, m43_8, m43_9, m43_10, m43_11, m43_12, m43_13, m43_14, m43_15, m43_16, q1, q2, hw, h, hc, hD, i_rem]
        by_cases z6 : k = 13
        · subst z6
          simp [rOff, rPut, rCut, rCell, cLose, cLeft, upd, n42_2, n42_3, n42_4, n42_8, n42_9, n42_10, n42_11, n42_12, n42_13, n42_14, n42_15, n42_16, n43_2, n43_3, n43_4, n43_8, n43_9, n43_10, n43_11, n43_12, n43_13, n43_14, n43_15, n43_16, m42_2, m42_3, m42_4, m42_8, m42_9, m42_10, m42_11, m42_12, m42_13, m42_14, m42_15, m42_16, m43_2, m43_3, m43_4, m43_8, m43_9, m43_10, m43_11, m43_12, m43_13, m43_14, m43_15, m43_16, q1, q2, hw, h, hc, hD, i_rem]
        by_cases z7 : k = 14
        · subst z7
          simp [rOff, rPut, rCut, rCell, cLose, cLeft, upd, n42_2, n42_3, n42_4, n42_8, n42_9, n42_10, n42_11, n42_12, n42_13, n42_14, n42_15, n42_16, n43_2, n43_3, n43_4, n43_8, n43_9, n43_10, n43_11, n43_12, n43_13, n43_14, n43_15, n43_16, m42_2, m42_3, m42_4, m42_8, m42_9, m42_10, m42_11, m42_12, m42_13, m42_14, m42_15, m42_16, m43_2, m43_3, m43_4, m43_8, m43_9, m43_10, m43_11, m43_12, m43_13, m43_14, m43_15, m43_16, q1, q2, hw, h, hc, hD, i_rem]
        by_cases z8 : k = 15
        · subst z8
          simp [rOff, rPut, rCut, rCell, cLose, cLeft, upd, n42_2, n42_3, n42_4, n42_8, n42_9, n42_10, n42_11, n42_12, n42_13, n42_14, n42_15, n42_16, n43_2, n43_3, n43_4, n43_8, n43_9, n43_10, n43_11, n43_12, n43_13, n43_14, n43_15, n43_16, m42_2, m42_3, m42_4, m42_8, m42_9, m42_10, m42_11, m42_12, m42_13, m42_14, m42_15, m42_16, m43_2, m43_3, m43_4, m43_8, m43_9, m43_10, m43_11, m43_12, m43_13, m43_14, m43_15, m43_16, q1, q2, hw, h, hc, hD, i_rem]
        by_cases z9 : k = 16
        · subst z9
          simp [rOff, rPut, rCut, rCell, cLose, cLeft, upd, n42_2, n42_3, n42_4, n42_8, n42_9, n42_10, n42_11, n42_12, n42_13, n42_14, n42_15, n42_16, n43_2, n43_3, n43_4, n43_8, n43_9, n43_10, n43_11, n43_12, n43_13, n43_14, n43_15, n43_16, m42_2, m42_3, m42_4, m42_8, m42_9, m42_10, m42_11, m42_12, m42_13, m42_14, m42_15, m42_16, m43_2, m43_3, m43_4, m43_8, m43_9, m43_10, m43_11, m43_12, m43_13, m43_14, m43_15, m43_16, q1, q2, hw, h, hc, hD, i_rem]
        by_cases z10 : k = 42 + 2 * (3 * s + i)
        · subst z10
          simp [rOff, rPut, rCut, rCell, cLose, cLeft, upd, n42_2, n42_3, n42_4, n42_8, n42_9, n42_10, n42_11, n42_12, n42_13, n42_14, n42_15, n42_16, n43_2, n43_3, n43_4, n43_8, n43_9, n43_10, n43_11, n43_12, n43_13, n43_14, n43_15, n43_16, m42_2, m42_3, m42_4, m42_8, m42_9, m42_10, m42_11, m42_12, m42_13, m42_14, m42_15, m42_16, m43_2, m43_3, m43_4, m43_8, m43_9, m43_10, m43_11, m43_12, m43_13, m43_14, m43_15, m43_16, q1, q2, hw, h, hc, hD, i_rem]
        by_cases z11 : k = 43 + 2 * (3 * s + i)
        · subst z11
          simp [rOff, rPut, rCut, rCell, cLose, cLeft, upd, n42_2, n42_3, n42_4, n42_8, n42_9, n42_10, n42_11, n42_12, n42_13, n42_14, n42_15, n42_16, n43_2, n43_3, n43_4, n43_8, n43_9, n43_10, n43_11, n43_12, n43_13, n43_14, n43_15, n43_16, m42_2, m42_3, m42_4, m42_8, m42_9, m42_10, m42_11, m42_12, m42_13, m42_14, m42_15, m42_16, m43_2, m43_3, m43_4, m43_8, m43_9, m43_10, m43_11, m43_12, m43_13, m43_14, m43_15, m43_16, q1, q2, hw, h, hc, hD, i_rem]
        simp [rOff, rPut, rCut, rCell, cLose, cLeft, upd, n42_2, n42_3, n42_4, n42_8, n42_9, n42_10, n42_11, n42_12, n42_13, n42_14, n42_15, n42_16, n43_2, n43_3, n43_4, n43_8, n43_9, n43_10, n43_11, n43_12, n43_13, n43_14, n43_15, n43_16, m42_2, m42_3, m42_4, m42_8, m42_9, m42_10, m42_11, m42_12, m42_13, m42_14, m42_15, m42_16, m43_2, m43_3, m43_4, m43_8, m43_9, m43_10, m43_11, m43_12, m43_13, m43_14, m43_15, m43_16, q1, q2, hw, h, hc, hD, i_rem, z0, z1, z2, z3, z4, z5, z6, z7, z8, z9, z10, z11]
      · funext k
        by_cases z0 : k = 3
        · subst z0
          simp [rOff, rPut, rCut, rCell, cLose, cLeft, upd, n42_2, n42_3, n42_4, n42_8, n42_9, n42_10, n42_11, n42_12, n42_13, n42_14, n42_15, n42_16, n43_2, n43_3, n43_4, n43_8, n43_9, n43_10, n43_11, n43_12, n43_13, n43_14, n43_15, n43_16, m42_2, m42_3, m42_4, m42_8, m42_9, m42_10, m42_11, m42_12, m42_13, m42_14, m42_15, m42_16, m43_2, m43_3, m43_4, m43_8, m43_9, m43_10, m43_11, m43_12, m43_13, m43_14, m43_15, m43_16, q1, q2, hw, h, hc, hD, i_rem]
        by_cases z1 : k = 8
        · subst z1
          simp [rOff, rPut, rCut, rCell, cLose, cLeft, upd, n42_2, n42_3, n42_4, n42_8, n42_9, n42_10, n42_11, n42_12, n42_13, n42_14, n42_15, n42_16, n43_2, n43_3, n43_4, n43_8, n43_9, n43_10, n43_11, n43_12, n43_13, n43_14, n43_15, n43_16, m42_2, m42_3, m42_4, m42_8, m42_9, m42_10, m42_11, m42_12, m42_13, m42_14, m42_15, m42_16, m43_2, m43_3, m43_4, m43_8, m43_9, m43_10, m43_11, m43_12, m43_13, m43_14, m43_15, m43_16, q1, q2, hw, h, hc, hD, i_rem]
        by_cases z2 : k = 9
        · subst z2
          simp [rOff, rPut, rCut, rCell, cLose, cLeft, upd, n42_2, n42_3, n42_4, n42_8, n42_9, n42_10, n42_11, n42_12, n42_13, n42_14, n42_15, n42_16, n43_2, n43_3, n43_4, n43_8, n43_9, n43_10, n43_11, n43_12, n43_13, n43_14, n43_15, n43_16, m42_2, m42_3, m42_4, m42_8, m42_9, m42_10, m42_11, m42_12, m42_13, m42_14, m42_15, m42_16, m43_2, m43_3, m43_4, m43_8, m43_9, m43_10, m43_11, m43_12, m43_13, m43_14, m43_15, m43_16, q1, q2, hw, h, hc, hD, i_rem]
        by_cases z3 : k = 10
        · subst z3
          simp [rOff, rPut, rCut, rCell, cLose, cLeft, upd, n42_2, n42_3, n42_4, n42_8, n42_9, n42_10, n42_11, n42_12, n42_13, n42_14, n42_15, n42_16, n43_2, n43_3, n43_4, n43_8, n43_9, n43_10, n43_11, n43_12, n43_13, n43_14, n43_15, n43_16, m42_2, m42_3, m42_4, m42_8, m42_9, m42_10, m42_11, m42_12, m42_13, m42_14, m42_15, m42_16, m43_2, m43_3, m43_4, m43_8, m43_9, m43_10, m43_11, m43_12, m43_13, m43_14, m43_15, m43_16, q1, q2, hw, h, hc, hD, i_rem]
        by_cases z4 : k = 11
        · subst z4
          simp [rOff, rPut, rCut, rCell, cLose, cLeft, upd, n42_2, n42_3, n42_4, n42_8, n42_9, n42_10, n42_11, n42_12, n42_13, n42_14, n42_15, n42_16, n43_2, n43_3, n43_4, n43_8, n43_9, n43_10, n43_11, n43_12, n43_13, n43_14, n43_15, n43_16, m42_2, m42_3, m42_4, m42_8, m42_9, m42_10, m42_11, m42_12, m42_13, m42_14, m42_15, m42_16, m43_2, m43_3, m43_4, m43_8, m43_9, m43_10, m43_11, m43_12, m43_13, m43_14, m43_15, m43_16, q1, q2, hw, h, hc, hD, i_rem]
        by_cases z5 : k = 12
        · subst z5
          simp [rOff, rPut, rCut, rCell, cLose, cLeft, upd, n42_2, n42_3, n42_4, n42_8, n42_9, n42_10, n42_11, n42_12, n42_13, n42_14, n42_15, n42_16, n43_2, n43_3, n43_4, n43_8, n43_9, n43_10, n43_11, n43_12, n43_13, n43_14, n43_15, n43_16, m42_2, m42_3, m42_4, m42_8, m42_9, m42_10, m42_11, m42_12, m42_13, m42_14, m42_15, m42_16, m43_2, m43_3, m43_4, m43_8, m43_9, m43_10, m43_11, m43_12, m43_13, m43_14, m43_15, m43_16, q1, q2, hw, h, hc, hD, i_rem]
        by_cases z6 : k = 13
        · subst z6
          simp [rOff, rPut, rCut, rCell, cLose, cLeft, upd, n42_2, n42_3, n42_4, n42_8, n42_9, n42_10, n42_11, n42_12, n42_13, n42_14, n42_15, n42_16, n43_2, n43_3, n43_4, n43_8, n43_9, n43_10, n43_11, n43_12, n43_13, n43_14, n43_15, n43_16, m42_2, m42_3, m42_4, m42_8, m42_9, m42_10, m42_11, m42_12, m42_13, m42_14, m42_15, m42_16, m43_2, m43_3, m43_4, m43_8, m43_9, m43_10, m43_11, m43_12, m43_13, m43_14, m43_15, m43_16, q1, q2, hw, h, hc, hD, i_rem]
        by_cases z7 : k = 14
        · subst z7
          simp [rOff, rPut, rCut, rCell, cLose, cLeft, upd, n42_2, n42_3, n42_4, n42_8, n42_9, n42_10, n42_11, n42_12, n42_13, n42_14, n42_15, n42_16, n43_2, n43_3, n43_4, n43_8, n43_9, n43_10, n43_11, n43_12, n43_13, n43_14, n43_15, n43_16, m42_2, m42_3, m42_4, m42_8, m42_9, m42_10, m42_11, m42_12, m42_13, m42_14, m42_15, m42_16, m43_2, m43_3, m43_4, m43_8, m43_9, m43_10, m43_11, m43_12, m43_13, m43_14, m43_15, m43_16, q1, q2, hw, h, hc, hD, i_rem]
        by_cases z8 : k = 15
        · subst z8
          simp [rOff, rPut, rCut, rCell, cLose, cLeft, upd, n42_2, n42_3, n42_4, n42_8, n42_9, n42_10, n42_11, n42_12, n42_13, n42_14, n42_15, n42_16, n43_2, n43_3, n43_4, n43_8, n43_9, n43_10, n43_11, n43_12, n43_13, n43_14, n43_15, n43_16, m42_2, m42_3, m42_4, m42_8, m42_9, m42_10, m42_11, m42_12, m42_13, m42_14, m42_15, m42_16, m43_2, m43_3, m43_4, m43_8, m43_9, m43_10, m43_11, m43_12, m43_13, m43_14, m43_15, m43_16, q1, q2, hw, h, hc, hD, i_rem]
        by_cases z9 : k = 16
        · subst z9
          simp [rOff, rPut, rCut, rCell, cLose, cLeft, upd, n42_2, n42_3, n42_4, n42_8, n42_9, n42_10, n42_11, n42_12, n42_13, n42_14, n42_15, n42_16, n43_2, n43_3, n43_4, n43_8, n43_9, n43_10, n43_11, n43_12, n43_13, n43_14, n43_15, n43_16, m42_2, m42_3, m42_4, m42_8, m42_9, m42_10, m42_11, m42_12, m42_13, m42_14, m42_15, m42_16, m43_2, m43_3, m43_4, m43_8, m43_9, m43_10, m43_11, m43_12, m43_13, m43_14, m43_15, m43_16, q1, q2, hw, h, hc, hD, i_rem]
        by_cases z10 : k = 42 + 2 * (3 * s + i)
        · subst z10
          simp [rOff, rPut, rCut, rCell, cLose, cLeft, upd, n42_2, n42_3, n42_4, n42_8, n42_9, n42_10, n42_11, n42_12, n42_13, n42_14, n42_15, n42_16, n43_2, n43_3, n43_4, n43_8, n43_9, n43_10, n43_11, n43_12, n43_13, n43_14, n43_15, n43_16, m42_2, m42_3, m42_4, m42_8, m42_9, m42_10, m42_11, m42_12, m42_13, m42_14, m42_15, m42_16, m43_2, m43_3, m43_4, m43_8, m43_9, m43_10, m43_11, m43_12, m43_13, m43_14, m43_15, m43_16, q1, q2, hw, h, hc, hD, i_rem]
        by_cases z11 : k = 43 + 2 * (3 * s + i)
        · subst z11
          simp [rOff, rPut, rCut, rCell, cLose, cLeft, upd, n42_2, n42_3, n42_4, n42_8, n42_9, n42_10, n42_11, n42_12, n42_13, n42_14, n42_15, n42_16, n43_2, n43_3, n43_4, n43_8, n43_9, n43_10, n43_11, n43_12, n43_13, n43_14, n43_15, n43_16, m42_2, m42_3, m42_4, m42_8, m42_9, m42_10, m42_11, m42_12, m42_13, m42_14, m42_15, m42_16, m43_2, m43_3, m43_4, m43_8, m43_9, m43_10, m43_11, m43_12, m43_13, m43_14, m43_15, m43_16, q1, q2, hw, h, hc, hD, i_rem]
        simp [rOff, rPut, rCut, rCell, cLose, cLeft, upd, n42_2, n42_3, n42_4, n42_8, n42_9, n42_10, n42_11, n42_12, n42_13, n42_14, n42_15, n42_16, n43_2, n43_3, n43_4, n43_8, n43_9, n43_10, n43_11, n43_12, n43_13, n43_14, n43_15, n43_16, m42_2, m42_3, m42_4, m42_8, m42_9, m42_10, m42_11, m42_12, m42_13, m42_14, m42_15, m42_16, m43_2, m43_3, m43_4, m43_8, m43_9, m43_10, m43_11, m43_12, m43_13, m43_14, m43_15, m43_16, q1, q2, hw, h, hc, hD, i_rem, z0, z1, z2, z3, z4, z5, z6, z7, z8, z9, z10, z11]
    · funext k
      by_cases z0 : k = 3
      · subst z0
        simp [rOff, rPut, rCut, rCell, cLose, cLeft, upd, n42_2, n42_3, n42_4, n42_8, n42_9, n42_10, n42_11, n42_12, n42_13, n42_14, n42_15, n42_16, n43_2, n43_3, n43_4, n43_8, n43_9, n43_10, n43_11, n43_12, n43_13, n43_14, n43_15, n43_16, m42_2, m42_3, m42_4, m42_8, m42_9, m42_10, m42_11, m42_12, m42_13, m42_14, m42_15, m42_16, m43_2, m43_3, m43_4, m43_8, m43_9, m43_10, m43_11, m43_12, m43_13, m43_14, m43_15, m43_16, q1, q2, hw, hc, hD]
      by_cases z1 : k = 8
      · subst z1
        simp [rOff, rPut, rCut, rCell, cLose, cLeft, upd, n42_2, n42_3, n42_4, n42_8, n42_9, n42_10, n42_11, n42_12, n42_13, n42_14, n42_15, n42_16, n43_2, n43_3, n43_4, n43_8, n43_9, n43_10, n43_11, n43_12, n43_13, n43_14, n43_15, n43_16, m42_2, m42_3, m42_4, m42_8, m42_9, m42_10, m42_11, m42_12, m42_13, m42_14, m42_15, m42_16, m43_2, m43_3, m43_4, m43_8, m43_9, m43_10, m43_11, m43_12, m43_13, m43_14, m43_15, m43_16, q1, q2, hw, hc, hD]
      by_cases z2 : k = 9
      · subst z2
        simp [rOff, rPut, rCut, rCell, cLose, cLeft, upd, n42_2, n42_3, n42_4, n42_8, n42_9, n42_10, n42_11, n42_12, n42_13, n42_14, n42_15, n42_16, n43_2, n43_3, n43_4, n43_8, n43_9, n43_10, n43_11, n43_12, n43_13, n43_14, n43_15, n43_16, m42_2, m42_3, m42_4, m42_8, m42_9, m42_10, m42_11, m42_12, m42_13, m42_14, m42_15, m42_16, m43_2, m43_3, m43_4, m43_8, m43_9, m43_10, m43_11, m43_12, m43_13, m43_14, m43_15, m43_16, q1, q2, hw, hc, hD]
      by_cases z3 : k = 10
      · subst z3
        simp [rOff, rPut, rCut, rCell, cLose, cLeft, upd, n42_2, n42_3, n42_4, n42_8, n42_9, n42_10, n42_11, n42_12, n42_13, n42_14, n42_15, n42_16, n43_2, n43_3, n43_4, n43_8, n43_9, n43_10, n43_11, n43_12, n43_13, n43_14, n43_15, n43_16, m42_2, m42_3, m42_4, m42_8, m42_9, m42_10, m42_11, m42_12, m42_13, m42_14, m42_15, m42_16, m43_2, m43_3, m43_4, m43_8, m43_9, m43_10, m43_11, m43_12, m43_13, m43_14, m43_15, m43_16, q1, q2, hw, hc, hD]
      by_cases z4 : k = 11
      · subst z4
        simp [rOff, rPut, rCut, rCell, cLose, cLeft, upd, n42_2, n42_3, n42_4, n42_8, n42_9, n42_10, n42_11, n42_12, n42_13, n42_14, n42_15, n42_16, n43_2, n43_3, n43_4, n43_8, n43_9, n43_10, n43_11, n43_12, n43_13, n43_14, n43_15, n43_16, m42_2, m42_3, m42_4, m42_8, m42_9, m42_10, m42_11, m42_12, m42_13, m42_14, m42_15, m42_16, m43_2, m43_3, m43_4, m43_8, m43_9, m43_10, m43_11, m43_12, m43_13, m43_14, m43_15, m43_16, q1, q2, hw, hc, hD]
      by_cases z5 : k = 12
      · subst z5
        simp [rOff, rPut, rCut, rCell, cLose, cLeft, upd, n42_2, n42_3, n42_4, n42_8, n42_9, n42_10, n42_11, n42_12, n42_13, n42_14, n42_15, n42_16, n43_2, n43_3, n43_4, n43_8, n43_9, n43_10, n43_11, n43_12, n43_13, n43_14, n43_15, n43_16, m42_2, m42_3, m42_4, m42_8, m42_9, m42_10, m42_11, m42_12, m42_13, m42_14, m42_15, m42_16, m43_2, m43_3, m43_4, m43_8, m43_9, m43_10, m43_11, m43_12, m43_13, m43_14, m43_15, m43_16, q1, q2, hw, hc, hD]
      by_cases z6 : k = 13
      · subst z6
        simp [rOff, rPut, rCut, rCell, cLose, cLeft, upd, n42_2, n42_3, n42_4, n42_8, n42_9, n42_10, n42_11, n42_12, n42_13, n42_14, n42_15, n42_16, n43_2, n43_3, n43_4, n43_8, n43_9, n43_10, n43_11, n43_12, n43_13, n43_14, n43_15, n43_16, m42_2, m42_3, m42_4, m42_8, m42_9, m42_10, m42_11, m42_12, m42_13, m42_14, m42_15, m42_16, m43_2, m43_3, m43_4, m43_8, m43_9, m43_10, m43_11, m43_12, m43_13, m43_14, m43_15, m43_16, q1, q2, hw, hc, hD]
      by_cases z7 : k = 14
      · subst z7
        simp [rOff, rPut, rCut, rCell, cLose, cLeft, upd, n42_2, n42_3, n42_4, n42_8, n42_9, n42_10, n42_11, n42_12, n42_13, n42_14, n42_15, n42_16, n43_2, n43_3, n43_4, n43_8, n43_9, n43_10, n43_11, n43_12, n43_13, n43_14, n43_15, n43_16, m42_2, m42_3, m42_4, m42_8, m42_9, m42_10, m42_11, m42_12, m42_13, m42_14, m42_15, m42_16, m43_2, m43_3, m43_4, m43_8, m43_9, m43_10, m43_11, m43_12, m43_13, m43_14, m43_15, m43_16, q1, q2, hw, hc, hD]
      by_cases z8 : k = 15
      · subst z8
        simp [rOff, rPut, rCut, rCell, cLose, cLeft, upd, n42_2, n42_3, n42_4, n42_8, n42_9, n42_10, n42_11, n42_12, n42_13, n42_14, n42_15, n42_16, n43_2, n43_3, n43_4, n43_8, n43_9, n43_10, n43_11, n43_12, n43_13, n43_14, n43_15, n43_16, m42_2, m42_3, m42_4, m42_8, m42_9, m42_10, m42_11, m42_12, m42_13, m42_14, m42_15, m42_16, m43_2, m43_3, m43_4, m43_8, m43_9, m43_10, m43_11, m43_12, m43_13, m43_14, m43_15, m43_16, q1, q2, hw, hc, hD]
      by_cases z9 : k = 16
      · subst z9
        simp [rOff, rPut, rCut, rCell, cLose, cLeft, upd, n42_2, n42_3, n42_4, n42_8, n42_9, n42_10, n42_11, n42_12, n42_13, n42_14, n42_15, n42_16, n43_2, n43_3, n43_4, n43_8, n43_9, n43_10, n43_11, n43_12, n43_13, n43_14, n43_15, n43_16, m42_2, m42_3, m42_4, m42_8, m42_9, m42_10, m42_11, m42_12, m42_13, m42_14, m42_15, m42_16, m43_2, m43_3, m43_4, m43_8, m43_9, m43_10, m43_11, m43_12, m43_13, m43_14, m43_15, m43_16, q1, q2, hw, hc, hD]
      by_cases z10 : k = 42 + 2 * (3 * s + i)
      · subst z10
        simp [rOff, rPut, rCut, rCell, cLose, cLeft, upd, n42_2, n42_3, n42_4, n42_8, n42_9, n42_10, n42_11, n42_12, n42_13, n42_14, n42_15, n42_16, n43_2, n43_3, n43_4, n43_8, n43_9, n43_10, n43_11, n43_12, n43_13, n43_14, n43_15, n43_16, m42_2, m42_3, m42_4, m42_8, m42_9, m42_10, m42_11, m42_12, m42_13, m42_14, m42_15, m42_16, m43_2, m43_3, m43_4, m43_8, m43_9, m43_10, m43_11, m43_12, m43_13, m43_14, m43_15, m43_16, q1, q2, hw, hc, hD]
      by_cases z11 : k = 43 + 2 * (3 * s + i)
      · subst z11
        simp [rOff, rPut, rCut, rCell, cLose, cLeft, upd, n42_2, n42_3, n42_4, n42_8, n42_9, n42_10, n42_11, n42_12, n42_13, n42_14, n42_15, n42_16, n43_2, n43_3, n43_4, n43_8, n43_9, n43_10, n43_11, n43_12, n43_13, n43_14, n43_15, n43_16, m42_2, m42_3, m42_4, m42_8, m42_9, m42_10, m42_11, m42_12, m42_13, m42_14, m42_15, m42_16, m43_2, m43_3, m43_4, m43_8, m43_9, m43_10, m43_11, m43_12, m43_13, m43_14, m43_15, m43_16, q1, q2, hw, hc, hD]
      simp [rOff, rPut, rCut, rCell, cLose, cLeft, upd, n42_2, n42_3, n42_4, n42_8, n42_9, n42_10, n42_11, n42_12, n42_13, n42_14, n42_15, n42_16, n43_2, n43_3, n43_4, n43_8, n43_9, n43_10, n43_11, n43_12, n43_13, n43_14, n43_15, n43_16, m42_2, m42_3, m42_4, m42_8, m42_9, m42_10, m42_11, m42_12, m42_13, m42_14, m42_15, m42_16, m43_2, m43_3, m43_4, m43_8, m43_9, m43_10, m43_11, m43_12, m43_13, m43_14, m43_15, m43_16, q1, q2, hw, hc, hD, z0, z1, z2, z3, z4, z5, z6, z7, z8, z9, z10, z11]
  · have hm := q_cut hq (h10 ▸ hc)
    rw [if_neg hc, if_neg hc]
    rw [← h10] at hm
    rw [hm]
    unfold rCell rPut rCut
    by_cases hw : σ (43 + 2 * (3 * s + i)) < σ 2
    · simp [upd, n42_2, n42_3, n42_4, n42_8, n42_9, n42_10, n42_11, n42_12, n42_13, n42_14, n42_15, n42_16, n43_2, n43_3, n43_4, n43_8, n43_9, n43_10, n43_11, n43_12, n43_13, n43_14, n43_15, n43_16, m42_2, m42_3, m42_4, m42_8, m42_9, m42_10, m42_11, m42_12, m42_13, m42_14, m42_15, m42_16, m43_2, m43_3, m43_4, m43_8, m43_9, m43_10, m43_11, m43_12, m43_13, m43_14, m43_15, m43_16, q1, q2, hw]
    · simp [upd, n42_2, n42_3, n42_4, n42_8, n42_9, n42_10, n42_11, n42_12, n42_13, n42_14, n42_15, n42_16, n43_2, n43_3, n43_4, n43_8, n43_9, n43_10, n43_11, n43_12, n43_13, n43_14, n43_15, n43_16, m42_2, m42_3, m42_4, m42_8, m42_9, m42_10, m42_11, m42_12, m42_13, m42_14, m42_15, m42_16, m43_2, m43_3, m43_4, m43_8, m43_9, m43_10, m43_11, m43_12, m43_13, m43_14, m43_15, m43_16, q1, q2, hw]
theorem rPut_ot {ρ : Rw} {c : Prop} [Decidable c] {s i : Nat} {v : Int32} {k : Nat} (hk : k < 42) : rPut ρ c s i v k = ρ k := by
  have h1 : k ≠ 42 + 2 * (3 * s + i) := by omega
  have h2 : k ≠ 43 + 2 * (3 * s + i) := by omega
  unfold rPut
  (repeat' split) <;> simp [upd, h1, h2]
theorem rWr_3 {ρ : Rw} {s i : Nat} {v t : Int32} : rWr ρ s i v t 3 = if ρ 10 = 1 then 0 else ρ 3 := by
  unfold rWr
  by_cases hc : ρ 10 = 1
  · rw [if_pos hc, if_pos hc]
    rfl
  · rw [if_neg hc, if_neg hc, rPut_ot (by omega)]
    rfl
theorem rWr_12 {ρ : Rw} {s i : Nat} {v t : Int32} (h : ρ 12 = 0) : rWr ρ s i v t 12 = 0 := by
  unfold rWr
  by_cases hc : ρ 10 = 1
  · rw [if_pos hc]
    rfl
  · rw [if_neg hc, rPut_ot (by omega)]
    exact h
theorem rWr_K {ρ : Rw} {s i : Nat} {v t : Int32} (h : Kok ρ) : Kok (rWr ρ s i v t) := by
  obtain ⟨q, hq, h10, hk⟩ := h
  unfold rWr
  by_cases hc : ρ 10 = 1
  · rw [if_pos hc]
    refine ⟨0, by omega, ?_, Or.inl rfl⟩
    show rOff (rPut (rCut ρ) True s i v) (nI s) (nI i) (ρ 11) t 10 = nI 0
    have e : rOff (rPut (rCut ρ) True s i v) (nI s) (nI i) (ρ 11) t 10 = rPut (rCut ρ) True s i v 10 := rfl
    rw [e, rPut_ot (by omega)]
    have e2 : rCut ρ 10 = ρ 10 - (if ρ 10 ≤ 0 then 0 else 1) := rfl
    rw [e2, hc]
    decide
  · rw [if_neg hc]
    refine ⟨q - 1, by omega, ?_, ?_⟩
    · rw [rPut_ot (by omega)]
      have e2 : rCut ρ 10 = ρ 10 - (if ρ 10 ≤ 0 then 0 else 1) := rfl
      rw [e2, h10, q_cut' hq]
    · rw [rPut_ot (by omega)]
      rcases hk with h | h
      · exact Or.inl (by omega)
      · exact Or.inr h
/-- three writes: the power, the cut, the row -/
theorem rW3_f {ρ : Rw} {s : Nat} {t : Int32} (h3 : ρ 3 = 1) (hD : ρ 12 = 0) (hK : Kok ρ) : cWs s t 3 0 ρ = (rW3 ρ s t).1 ∧ Kok (rW3 ρ s t).1 ∧ (rW3 ρ s t).1 12 = 0 ∧ (rW3 ρ s t).1 3 = if (rW3 ρ s t).2 = true then 1 else 0 := by
  have a0 : ¬ ρ 3 = 0 := by rw [h3]; decide
  have f1 : ∀ (σ : Rw) i, Kok σ → Kok (rWr σ s i (σ 4) t) := fun σ i h => rWr_K h
  have e1 := cW_r (s := s) (i := 0) (t := t) hD hK
  have k1 := rWr_K (s := s) (i := 0) (v := ρ 4) (t := t) hK
  have d1 := rWr_12 (s := s) (i := 0) (v := ρ 4) (t := t) hD
  have o1 := rWr_3 (ρ := ρ) (s := s) (i := 0) (v := ρ 4) (t := t)
  unfold rW3
  rw [cWs, if_neg a0, e1]
  generalize rWr ρ s 0 (ρ 4) t = ρ1 at *
  by_cases c1 : ρ 10 = 1
  · rw [if_pos c1] at o1 ⊢
    exact ⟨by rw [cWs, if_pos o1], k1, d1, o1⟩
  rw [if_neg c1] at o1 ⊢
  rw [h3] at o1
  have a1 : ¬ ρ1 3 = 0 := by rw [o1]; decide
  have e2 := cW_r (s := s) (i := 1) (t := t) d1 k1
  have k2 := rWr_K (s := s) (i := 1) (v := ρ1 4) (t := t) k1
  have d2 := rWr_12 (s := s) (i := 1) (v := ρ1 4) (t := t) d1
  have o2 := rWr_3 (ρ := ρ1) (s := s) (i := 1) (v := ρ1 4) (t := t)
  rw [cWs, if_neg a1, e2]
  generalize rWr ρ1 s 1 (ρ1 4) t = ρ2 at *
  by_cases c2 : ρ1 10 = 1
  · rw [if_pos c2] at o2 ⊢
    exact ⟨by rw [cWs, if_pos o2], k2, d2, o2⟩
  rw [if_neg c2] at o2 ⊢
  rw [o1] at o2
  have a2 : ¬ ρ2 3 = 0 := by rw [o2]; decide
  have e3 := cW_r (s := s) (i := 2) (t := t) d2 k2
  have k3 := rWr_K (s := s) (i := 2) (v := ρ2 4) (t := t) k2
  have d3 := rWr_12 (s := s) (i := 2) (v := ρ2 4) (t := t) d2
  have o3 := rWr_3 (ρ := ρ2) (s := s) (i := 2) (v := ρ2 4) (t := t)
  rw [cWs, if_neg a2, e3]
  generalize rWr ρ2 s 2 (ρ2 4) t = ρ3 at *
  by_cases c3 : ρ2 10 = 1
  · rw [if_pos c3] at o3 ⊢
    exact ⟨rfl, k3, d3, o3⟩
  · rw [if_neg c3] at o3 ⊢
    rw [o2] at o3
    exact ⟨rfl, k3, d3, o3⟩
end
section
/-! THE CLASS: storing, driving: written by wip/whole/pure3.py -/
set_option maxHeartbeats 4000000 in
theorem L_cStore {d : Nat} {Q : Res → Wd → Prop} {S : Sc} {M : Nat → Nat → Int32} {J : Nat → Nat → Int64} {b n cur : Nat} (hS : OdS S b) (hn3 : 3 ≤ n) (hn : n ≤ 12) (hcur : cur < n) : ∀ (f vain : Nat) (σ : Rw), vain + f + 1 = n → σ 0 = nI n → σ 7 = nI cur → σ 3 = 1 → σ 12 = 0 → Kok σ → Q (.inl none) (S, sO M b (rSt n cur f vain σ), J) → EE (SJ (d + 4) 26 (Wp (d + 3)) Q) (7, [(0, .ref b), (1, .int (nI ((cur + vain) % n))), (2, .int (nI vain))], [], (S, sO M b σ, J), 0, 0) := by
  intro f
  obtain ⟨⟨k0, k1, k2, k3, k4, k5, k6⟩, ⟨r0, r1, r12, r13, r41, r42⟩, l2, l3, l5, l6⟩ := id hS
  induction f with
  | zero =>
    intro vain σ hf z0 z7 z3 z12 hK hQ
    have hn1 : nI n - 1 = nI (n - 1) := by rw [show (1 : Int32) = nI 1 from rfl, pk_sub (by omega)]
    refine EE.runN (stop := atPc [7]) 80 _ ?_
    refine ⟨by simp only [wI_1, r0, r1, r12, r13, r41, r42, k0, k1, k2, k3, k4, k5, k6] <;> first | rfl | decide, ?_⟩
    refine ⟨by simp only [wI_1, r0, r1, r12, r13, r41, r42, k0, k1, k2, k3, k4, k5, k6] <;> first | rfl | decide, ?_⟩
    refine ⟨fun h1 => ?_, fun h1 => ?_⟩
    · refine ⟨by simp only [wI_1, r0, r1, r12, r13, r41, r42, k0, k1, k2, k3, k4, k5, k6] <;> first | rfl | decide, by first | exact Or.inl rfl | exact Or.inr rfl | simp only [wI_1, r0, r1, r12, r13, r41, r42, k0, k1, k2, k3, k4, k5, k6] <;> first | rfl | decide, ?_⟩
      refine ⟨⟨Nat.zero_le _, Nat.zero_le _⟩, ?_⟩
      show Q (.inl none) (S, _, J)
      simp only [wI_M, tk_0, tk_1, tk_2, tk_3, tk_4, tk_5, tk_6, tk_7, tk_8, tk_9, tk_10, tk_11, tk_12, tk_13, tk_14, tk_15, tk_16, tk_17, rd0_2, wr0_2, rd0_3, wr0_3, rd0_4, wr0_4, rd0_5, wr0_5, rd0_6, wr0_6, rd0_7, wr0_7, rd0_8, wr0_8, rd0_9, wr0_9, rd0_10, wr0_10, rd0_11, wr0_11, rd0_12, wr0_12, rd0_13, wr0_13, rd0_14, wr0_14, rd0_15, wr0_15, rd0_16, wr0_16, rd1_0, wr1_0, rd1_1, wr1_1, rd4_0, wr4_0, wI_1, r0, r1, r12, r13, r41, r42, wI_w]
      exact hQ
    · (have h_ := h1; simp only [wI_1, r0, r1, r12, r13, r41, r42, rd1_0, z0, hn1] at h_; exact absurd (nI_le (show n - 1 ≤ vain by omega) (by omega)) h_)
  | succ f ih =>
    intro vain σ hf z0 z7 z3 z12 hK hQ
    have hn1 : nI n - 1 = nI (n - 1) := by rw [show (1 : Int32) = nI 1 from rfl, pk_sub (by omega)]
    have hm : (cur + vain) % n < n := Nat.mod_lt _ (by omega)
    have hs' : (cur + 1 + vain) % n < 12 := Nat.lt_of_lt_of_le (Nat.mod_lt _ (by omega)) hn
    have hsl : (if (cur + vain) % n + 1 < n then (cur + vain) % n + 1 else 0) = (cur + 1 + vain) % n := by
      rw [show cur + 1 + vain = cur + vain + 1 by omega, Nat.add_mod (cur + vain) 1 n, Nat.mod_eq_of_lt (show 1 < n by omega)]
      split
      · rename_i hlt
        rw [Nat.mod_eq_of_lt hlt]
      · rw [show (cur + vain) % n + 1 = n by omega, Nat.mod_self]
    have hR := rW3_f (s := (cur + 1 + vain) % n) (t := nI vain) z3 z12 hK
    have hk := fun k (h : k = 0 ∨ k = 7 ∨ k = 4) => rW3_keep (ρ := σ) (s := (cur + 1 + vain) % n) (vain := nI vain) (k := k) (by omega)
    rw [rSt] at hQ
    generalize rW3 σ ((cur + 1 + vain) % n) (nI vain) = R at hR hk hQ
    obtain ⟨g1, g2, g3, g4⟩ := hR
    refine EE.runN (stop := atPc [7]) 120 _ ?_
    refine ⟨by simp only [wI_1, r0, r1, r12, r13, r41, r42, k0, k1, k2, k3, k4, k5, k6] <;> first | rfl | decide, ?_⟩
    refine ⟨by simp only [wI_1, r0, r1, r12, r13, r41, r42, k0, k1, k2, k3, k4, k5, k6] <;> first | rfl | decide, ?_⟩
    refine ⟨fun h1 => ?_, fun h1 => ?_⟩
    · (have h_ := h1; simp only [wI_1, r0, r1, r12, r13, r41, r42, rd1_0, z0, hn1] at h_; exact absurd h_ (nI_ge (by omega) (by omega)))
    · refine ⟨by simp only [wI_1, r0, r1, r12, r13, r41, r42, k0, k1, k2, k3, k4, k5, k6] <;> first | rfl | decide, ?_⟩
      refine ⟨⟨Nat.le_of_ble_eq_true rfl, Nat.le_of_ble_eq_true rfl, Nat.le_of_ble_eq_true rfl⟩, by simp only [wI_1, r0, r1, r12, r13, r41, r42, k0, k1, k2, k3, k4, k5, k6] <;> first | rfl | decide, _, T_slotBehind (s := (cur + vain) % n) hS r0 z0 hn hm, ?_⟩
      rintro _ _ ⟨rfl, rfl⟩
      rw [hsl]
      refine ⟨Or.inl rfl, ?_⟩
      refine ⟨⟨Nat.le_of_ble_eq_true rfl, Nat.le_of_ble_eq_true rfl, Nat.le_of_ble_eq_true rfl⟩, by simp only [wI_1, r0, r1, r12, r13, r41, r42, k0, k1, k2, k3, k4, k5, k6] <;> first | rfl | decide, _, T_writeSlot (s := (cur + 1 + vain) % n) hS hs', ?_⟩
      rintro _ w1 ⟨rfl, hw⟩
      rw [g1] at hw
      subst hw
      refine ⟨Or.inl rfl, ?_⟩
      refine ⟨by simp only [wI_1, r0, r1, r12, r13, r41, r42, k0, k1, k2, k3, k4, k5, k6] <;> first | rfl | decide, ?_⟩
      refine ⟨fun h2 => ?_, fun h2 => ?_⟩
      · refine ⟨by simp only [wI_1, r0, r1, r12, r13, r41, r42, k0, k1, k2, k3, k4, k5, k6] <;> first | rfl | decide, ?_⟩
        refine ⟨⟨Nat.le_of_ble_eq_true rfl, Nat.le_of_ble_eq_true rfl, Nat.le_of_ble_eq_true rfl⟩, by simp only [wI_1, r0, r1, r12, r13, r41, r42, k0, k1, k2, k3, k4, k5, k6] <;> first | rfl | decide, _, T_spokenBy (s := (cur + 1 + vain) % n) hS r0 hs', ?_⟩
        rintro _ _ ⟨rfl, rfl⟩
        refine ⟨Or.inl rfl, ?_⟩
        refine ⟨by simp only [wI_1, r0, r1, r12, r13, r41, r42, k0, k1, k2, k3, k4, k5, k6] <;> first | rfl | decide, ?_⟩
        refine ⟨fun h3 => ?_, fun h3 => ?_⟩
        · simp only [wI_M, tk_0, tk_1, tk_2, tk_3, tk_4, tk_5, tk_6, tk_7, tk_8, tk_9, tk_10, tk_11, tk_12, tk_13, tk_14, tk_15, tk_16, tk_17, rd0_2, wr0_2, rd0_3, wr0_3, rd0_4, wr0_4, rd0_5, wr0_5, rd0_6, wr0_6, rd0_7, wr0_7, rd0_8, wr0_8, rd0_9, wr0_9, rd0_10, wr0_10, rd0_11, wr0_11, rd0_12, wr0_12, rd0_13, wr0_13, rd0_14, wr0_14, rd0_15, wr0_15, rd0_16, wr0_16, rd1_0, wr1_0, rd1_1, wr1_1, rd4_0, wr4_0, wI_1, r0, r1, r12, r13, r41, r42, wI_w] at h2 h3
          have g5 : ¬ R.2 = false := by
            intro h_
            rw [g4, h_] at h2
            exact absurd h2 (by decide)
          have g6 : R.1 3 = 1 := by
            rw [g4, if_pos (by cases h_ : R.2 with | false => exact absurd h_ g5 | true => rfl)]
          rw [if_neg g5, if_neg h3] at hQ
          refine ee_at (nt := nzT 26) [(0, .ref b), (1, .int (nI ((cur + (vain + 1)) % n))), (2, .int (nI (vain + 1)))] (S, sO M b R.1 , J) rfl (by rw [← nI_1 vain, show cur + (vain + 1) = cur + 1 + vain by omega]; rfl) rfl (ih (vain + 1) R.1 (by omega) ((hk 0 (by omega)).trans z0) ((hk 7 (by omega)).trans z7) g6 g3 g2 hQ)
        · refine ⟨by simp only [wI_1, r0, r1, r12, r13, r41, r42, k0, k1, k2, k3, k4, k5, k6] <;> first | rfl | decide, trivial, ?_⟩
          refine ⟨by simp only [wI_1, r0, r1, r12, r13, r41, r42, k0, k1, k2, k3, k4, k5, k6] <;> first | rfl | decide, ?_⟩
          refine ⟨by simp only [wI_1, r0, r1, r12, r13, r41, r42, k0, k1, k2, k3, k4, k5, k6] <;> first | rfl | decide, trivial, ?_⟩
          simp only [wI_M, tk_0, tk_1, tk_2, tk_3, tk_4, tk_5, tk_6, tk_7, tk_8, tk_9, tk_10, tk_11, tk_12, tk_13, tk_14, tk_15, tk_16, tk_17, rd0_2, wr0_2, rd0_3, wr0_3, rd0_4, wr0_4, rd0_5, wr0_5, rd0_6, wr0_6, rd0_7, wr0_7, rd0_8, wr0_8, rd0_9, wr0_9, rd0_10, wr0_10, rd0_11, wr0_11, rd0_12, wr0_12, rd0_13, wr0_13, rd0_14, wr0_14, rd0_15, wr0_15, rd0_16, wr0_16, rd1_0, wr1_0, rd1_1, wr1_1, rd4_0, wr4_0, wI_1, r0, r1, r12, r13, r41, r42, wI_w] at h2 h3
          have g5 : ¬ R.2 = false := by
            intro h_
            rw [g4, h_] at h2
            exact absurd h2 (by decide)
          refine ⟨⟨Nat.zero_le _, Nat.zero_le _⟩, ?_⟩
          rw [if_neg g5, if_pos h3] at hQ
          show Q (.inl none) (S, _, J)
          simp only [wI_M, tk_0, tk_1, tk_2, tk_3, tk_4, tk_5, tk_6, tk_7, tk_8, tk_9, tk_10, tk_11, tk_12, tk_13, tk_14, tk_15, tk_16, tk_17, rd0_2, wr0_2, rd0_3, wr0_3, rd0_4, wr0_4, rd0_5, wr0_5, rd0_6, wr0_6, rd0_7, wr0_7, rd0_8, wr0_8, rd0_9, wr0_9, rd0_10, wr0_10, rd0_11, wr0_11, rd0_12, wr0_12, rd0_13, wr0_13, rd0_14, wr0_14, rd0_15, wr0_15, rd0_16, wr0_16, rd1_0, wr1_0, rd1_1, wr1_1, rd4_0, wr4_0, wI_1, r0, r1, r12, r13, r41, r42, wI_w]
          exact hQ
      · simp only [wI_M, tk_0, tk_1, tk_2, tk_3, tk_4, tk_5, tk_6, tk_7, tk_8, tk_9, tk_10, tk_11, tk_12, tk_13, tk_14, tk_15, tk_16, tk_17, rd0_2, wr0_2, rd0_3, wr0_3, rd0_4, wr0_4, rd0_5, wr0_5, rd0_6, wr0_6, rd0_7, wr0_7, rd0_8, wr0_8, rd0_9, wr0_9, rd0_10, wr0_10, rd0_11, wr0_11, rd0_12, wr0_12, rd0_13, wr0_13, rd0_14, wr0_14, rd0_15, wr0_15, rd0_16, wr0_16, rd1_0, wr1_0, rd1_1, wr1_1, rd4_0, wr4_0, wI_1, r0, r1, r12, r13, r41, r42, wI_w] at h2
        have g5 : R.2 = false := by
          rw [g4] at h2
          cases h_ : R.2 with
          | false => rfl
          | true => rw [h_] at h2; exact absurd h2 (by decide)
        refine ⟨⟨Nat.zero_le _, Nat.zero_le _⟩, ?_⟩
        rw [if_pos g5] at hQ
        exact hQ
theorem T_cStore {d : Nat} {S : Sc} {M : Nat → Nat → Int32} {J : Nat → Nat → Int64} {b : Nat} {σ : Rw} (hS : OdS S b) (hok : Rok σ) (z3 : σ 3 = 1) (z12 : σ 12 = 0) (hK : Kok σ) : Wp (d + 4) 26 [.ref b] (S, sO M b σ, J) (fun rs w' => rs = .inl none ∧ w' = (S, sO M b (rStore σ), J)) := by
  have hS' := hS
  obtain ⟨n, cur, hn3, hn, hcur, h0, h7⟩ := hok
  obtain ⟨⟨k0, k1, k2, k3, k4, k5, k6⟩, ⟨r0, r1, r12, r13, r41, r42⟩, l2, l3, l5, l6⟩ := id hS
  refine ⟨rfl, ?_⟩
  refine EE.runN (stop := atPc [7]) 20 _ ?_
  refine ⟨by simp only [wI_1, r0, r1, r12, r13, r41, r42, k0, k1, k2, k3, k4, k5, k6] <;> first | rfl | decide, ?_⟩
  have e : rStore σ = rSt n cur (n - 1) 0 σ := by
    unfold rStore
    rw [h0, h7, ck (by omega), ck (by omega)]
  refine ee_at (nt := nzT 26) [(0, .ref b), (1, .int (nI ((cur + 0) % n))), (2, .int (nI 0))] (S, sO M b σ, J) rfl (by rw [Nat.add_zero, Nat.mod_eq_of_lt hcur, ← h7, ← rd0_7 M b σ]; rfl) rfl ?_
  exact L_cStore hS' hn3 hn hcur (n - 1) 0 σ (by omega) h0 h7 z3 z12 hK ⟨rfl, by rw [e]⟩
theorem rSt_K {n cur : Nat} : ∀ (f vain : Nat) (ρ : Rw), ρ 3 = 1 → ρ 12 = 0 → Kok ρ → Kok (rSt n cur f vain ρ) ∧ (rSt n cur f vain ρ 3 = 0 ∨ rSt n cur f vain ρ 3 = 1) ∧ (rSt n cur f vain ρ 12 = 0 ∨ rSt n cur f vain ρ 12 = 1)
  | 0, vain, ρ, h3, hD, hK => by
    unfold rSt
    exact ⟨hK, Or.inr h3, Or.inr rfl⟩
  | f + 1, vain, ρ, h3, hD, hK => by
    have hR := rW3_f (s := (cur + 1 + vain) % n) (t := nI vain) h3 hD hK
    rw [rSt]
    generalize rW3 ρ ((cur + 1 + vain) % n) (nI vain) = R at hR
    obtain ⟨_, g2, g3, g4⟩ := hR
    have g5 : R.1 3 = 0 ∨ R.1 3 = 1 := by
      rw [g4]
      split
      · exact Or.inr rfl
      · exact Or.inl rfl
    split
    · exact ⟨g2, g5, Or.inl g3⟩
    · rename_i g6
      split
      · exact ⟨g2, g5, Or.inl g3⟩
      · refine rSt_K f (vain + 1) R.1 ?_ g3 g2
        rw [g4, if_pos (by cases h_ : R.2 with | false => exact absurd h_ g6 | true => rfl)]
def Bok (ρ : Rw) : Prop := (ρ 3 = 0 ∨ ρ 3 = 1) ∧ (ρ 12 = 0 ∨ ρ 12 = 1)
theorem rStore_K {ρ : Rw} (h3 : ρ 3 = 1) (hD : ρ 12 = 0) (hK : Kok ρ) : Kok (rStore ρ) ∧ Bok (rStore ρ) := rSt_K _ _ _ h3 hD hK
theorem rGo1_K {ρ : Rw} (h3 : ρ 3 = 1) (hB : Bok ρ) (hK : Kok ρ) : Kok (rGo1 ρ) ∧ Bok (rGo1 ρ) := by
  unfold rGo1
  split
  · rename_i h
    split
    · exact ⟨hK, hB⟩
    · exact rStore_K h3 h hK
  · exact ⟨hK, hB⟩
theorem rGo_K : ∀ (f : Nat) {ρ : Rw}, Bok ρ → Kok ρ → Kok (rGo f ρ) ∧ Bok (rGo f ρ)
  | 0, _, hB, hK => ⟨hK, hB⟩
  | f + 1, ρ, hB, hK => by
    unfold rGo
    split
    · rename_i h
      have := rGo1_K h hB hK
      exact rGo_K f this.2 this.1
    · exact ⟨hK, hB⟩
set_option maxHeartbeats 2000000 in
theorem L_cGo {d : Nat} {Q : Res → Wd → Prop} {S : Sc} {M : Nat → Nat → Int32} {J : Nat → Nat → Int64} {b t : Nat} (hS : OdS S b) (ht : t < 1000000) : ∀ (f k : Nat) (σ : Rw), k + f = t → Rok σ → Bok σ → Kok σ → Q (.inl (some (.int (nI (k + rGone f σ))))) (S, sO M b (rGo f σ), J) → EE (SJ (d + 5) 24 (Wp (d + 4)) Q) (2, [(0, .ref b), (1, .int (nI t)), (2, .int (nI k))], [], (S, sO M b σ, J), 0, 0) := by
  intro f
  obtain ⟨⟨k0, k1, k2, k3, k4, k5, k6⟩, ⟨r0, r1, r12, r13, r41, r42⟩, l2, l3, l5, l6⟩ := id hS
  induction f with
  | zero =>
    intro k σ hk hok hB hK hQ
    refine EE.runN (stop := atPc [2]) 80 _ ?_
    refine ⟨fun h1 => ?_, fun h1 => ?_⟩
    · refine ⟨⟨Nat.zero_le _, Nat.zero_le _⟩, ?_⟩
      exact hQ
    · exact absurd (nI_le (show t ≤ k by omega) (by omega)) h1
  | succ f ih =>
    intro k σ hk hok hB hK hQ
    refine EE.runN (stop := atPc [2]) 100 _ ?_
    refine ⟨fun h1 => ?_, fun h1 => ?_⟩
    · exact absurd h1 (nI_ge (by omega) (by omega))
    · refine ⟨by simp only [wI_1, r0, r1, r12, r13, r41, r42, k0, k1, k2, k3, k4, k5, k6] <;> first | rfl | decide, ?_⟩
      refine ⟨fun h2 => ?_, fun h2 => ?_⟩
      · simp only [wI_M, tk_0, tk_1, tk_2, tk_3, tk_4, tk_5, tk_6, tk_7, tk_8, tk_9, tk_10, tk_11, tk_12, tk_13, tk_14, tk_15, tk_16, tk_17, rd0_2, wr0_2, rd0_3, wr0_3, rd0_4, wr0_4, rd0_5, wr0_5, rd0_6, wr0_6, rd0_7, wr0_7, rd0_8, wr0_8, rd0_9, wr0_9, rd0_10, wr0_10, rd0_11, wr0_11, rd0_12, wr0_12, rd0_13, wr0_13, rd0_14, wr0_14, rd0_15, wr0_15, rd0_16, wr0_16, rd1_0, wr1_0, rd1_1, wr1_1, rd4_0, wr4_0, wI_1, r0, r1, r12, r13, r41, r42, wI_w] at h1 h2
        refine ⟨⟨Nat.zero_le _, Nat.zero_le _⟩, ?_⟩
        have a : ¬ σ 3 = 1 := by rw [h2]; decide
        rw [rGo, rGone, if_neg a, if_neg a] at hQ
        exact hQ
      · refine ⟨by simp only [wI_1, r0, r1, r12, r13, r41, r42, k0, k1, k2, k3, k4, k5, k6] <;> first | rfl | decide, ?_⟩
        refine ⟨by simp only [wI_1, r0, r1, r12, r13, r41, r42, k0, k1, k2, k3, k4, k5, k6] <;> first | rfl | decide, trivial, ?_⟩
        refine ⟨by simp only [wI_1, r0, r1, r12, r13, r41, r42, k0, k1, k2, k3, k4, k5, k6] <;> first | rfl | decide, ?_⟩
        refine ⟨by simp only [wI_1, r0, r1, r12, r13, r41, r42, k0, k1, k2, k3, k4, k5, k6] <;> first | rfl | decide, trivial, ?_⟩
        refine ⟨by simp only [wI_1, r0, r1, r12, r13, r41, r42, k0, k1, k2, k3, k4, k5, k6] <;> first | rfl | decide, ?_⟩
        refine ⟨fun h3 => ?_, fun h3 => ?_⟩
        · simp only [wI_M, tk_0, tk_1, tk_2, tk_3, tk_4, tk_5, tk_6, tk_7, tk_8, tk_9, tk_10, tk_11, tk_12, tk_13, tk_14, tk_15, tk_16, tk_17, rd0_2, wr0_2, rd0_3, wr0_3, rd0_4, wr0_4, rd0_5, wr0_5, rd0_6, wr0_6, rd0_7, wr0_7, rd0_8, wr0_8, rd0_9, wr0_9, rd0_10, wr0_10, rd0_11, wr0_11, rd0_12, wr0_12, rd0_13, wr0_13, rd0_14, wr0_14, rd0_15, wr0_15, rd0_16, wr0_16, rd1_0, wr1_0, rd1_1, wr1_1, rd4_0, wr4_0, wI_1, r0, r1, r12, r13, r41, r42, wI_w] at h1 h2 h3
          have a : σ 3 = 1 := hB.1.resolve_left h2
          rw [rGo, rGone, if_pos a, if_pos a] at hQ
          have hk1 := rGo1_K a hB hK
          refine ee_at (nt := nzT 24) [(0, .ref b), (1, .int (nI t)), (2, .int (nI (k + 1)))] (S, sO M b (rGo1 σ), J) rfl (by rw [← nI_1 k]; rfl) ?_ (ih (k + 1) (rGo1 σ) (by omega) (rGo1_ok hok) hk1.2 hk1.1 ?_)
          · show (S, _, J) = (S, _, J)
            try simp only [wI_M, tk_0, tk_1, tk_2, tk_3, tk_4, tk_5, tk_6, tk_7, tk_8, tk_9, tk_10, tk_11, tk_12, tk_13, tk_14, tk_15, tk_16, tk_17, rd0_2, wr0_2, rd0_3, wr0_3, rd0_4, wr0_4, rd0_5, wr0_5, rd0_6, wr0_6, rd0_7, wr0_7, rd0_8, wr0_8, rd0_9, wr0_9, rd0_10, wr0_10, rd0_11, wr0_11, rd0_12, wr0_12, rd0_13, wr0_13, rd0_14, wr0_14, rd0_15, wr0_15, rd0_16, wr0_16, rd1_0, wr1_0, rd1_1, wr1_1, rd4_0, wr4_0, wI_1, r0, r1, r12, r13, r41, r42, wI_w]
            refine congrArg (fun m => (S, sO M b m, J)) ?_
            unfold rGo1
            rw [if_neg (show ¬ σ 12 = 0 from h3)]
            rfl
          · rw [show k + 1 + rGone f (rGo1 σ) = k + (rGone f (rGo1 σ) + 1) by omega]
            exact hQ
        · refine ⟨by simp only [wI_1, r0, r1, r12, r13, r41, r42, k0, k1, k2, k3, k4, k5, k6] <;> first | rfl | decide, ?_⟩
          refine ⟨by simp only [wI_1, r0, r1, r12, r13, r41, r42, k0, k1, k2, k3, k4, k5, k6] <;> first | rfl | decide, ?_⟩
          refine ⟨by simp only [wI_1, r0, r1, r12, r13, r41, r42, k0, k1, k2, k3, k4, k5, k6] <;> first | rfl | decide, ?_⟩
          refine ⟨fun h4 => ?_, fun h4 => ?_⟩
          · simp only [wI_M, tk_0, tk_1, tk_2, tk_3, tk_4, tk_5, tk_6, tk_7, tk_8, tk_9, tk_10, tk_11, tk_12, tk_13, tk_14, tk_15, tk_16, tk_17, rd0_2, wr0_2, rd0_3, wr0_3, rd0_4, wr0_4, rd0_5, wr0_5, rd0_6, wr0_6, rd0_7, wr0_7, rd0_8, wr0_8, rd0_9, wr0_9, rd0_10, wr0_10, rd0_11, wr0_11, rd0_12, wr0_12, rd0_13, wr0_13, rd0_14, wr0_14, rd0_15, wr0_15, rd0_16, wr0_16, rd1_0, wr1_0, rd1_1, wr1_1, rd4_0, wr4_0, wI_1, r0, r1, r12, r13, r41, r42, wI_w] at h1 h2 h3 h4
            have a : σ 3 = 1 := hB.1.resolve_left h2
            rw [rGo, rGone, if_pos a, if_pos a] at hQ
            have hk1 := rGo1_K a hB hK
            refine ee_at (nt := nzT 24) [(0, .ref b), (1, .int (nI t)), (2, .int (nI (k + 1)))] (S, sO M b (rGo1 σ), J) rfl (by rw [← nI_1 k]; rfl) ?_ (ih (k + 1) (rGo1 σ) (by omega) (rGo1_ok hok) hk1.2 hk1.1 ?_)
            · show (S, _, J) = (S, _, J)
              try simp only [wI_M, tk_0, tk_1, tk_2, tk_3, tk_4, tk_5, tk_6, tk_7, tk_8, tk_9, tk_10, tk_11, tk_12, tk_13, tk_14, tk_15, tk_16, tk_17, rd0_2, wr0_2, rd0_3, wr0_3, rd0_4, wr0_4, rd0_5, wr0_5, rd0_6, wr0_6, rd0_7, wr0_7, rd0_8, wr0_8, rd0_9, wr0_9, rd0_10, wr0_10, rd0_11, wr0_11, rd0_12, wr0_12, rd0_13, wr0_13, rd0_14, wr0_14, rd0_15, wr0_15, rd0_16, wr0_16, rd1_0, wr1_0, rd1_1, wr1_1, rd4_0, wr4_0, wI_1, r0, r1, r12, r13, r41, r42, wI_w]
              refine congrArg (fun m => (S, sO M b m, J)) ?_
              unfold rGo1
              rw [if_pos (show σ 12 = 0 from h3)]
              first | rw [if_pos (show rTick σ 4 < σ 6 + σ 1 from h4)] | rw [if_neg (show ¬ rTick σ 4 < σ 6 + σ 1 from h4)]
              try rfl
            · rw [show k + 1 + rGone f (rGo1 σ) = k + (rGone f (rGo1 σ) + 1) by omega]
              exact hQ
          · refine ⟨⟨Nat.le_of_ble_eq_true rfl, Nat.le_of_ble_eq_true rfl, Nat.le_of_ble_eq_true rfl⟩, by simp only [wI_1, r0, r1, r12, r13, r41, r42, k0, k1, k2, k3, k4, k5, k6] <;> first | rfl | decide, _, by simp only [wI_M, tk_0, tk_1, tk_2, tk_3, tk_4, tk_5, tk_6, tk_7, tk_8, tk_9, tk_10, tk_11, tk_12, tk_13, tk_14, tk_15, tk_16, tk_17, rd0_2, wr0_2, rd0_3, wr0_3, rd0_4, wr0_4, rd0_5, wr0_5, rd0_6, wr0_6, rd0_7, wr0_7, rd0_8, wr0_8, rd0_9, wr0_9, rd0_10, wr0_10, rd0_11, wr0_11, rd0_12, wr0_12, rd0_13, wr0_13, rd0_14, wr0_14, rd0_15, wr0_15, rd0_16, wr0_16, rd1_0, wr1_0, rd1_1, wr1_1, rd4_0, wr4_0, wI_1, r0, r1, r12, r13, r41, r42, wI_w] at h2 h3 ⊢; exact T_cStore (σ := rTick σ) hS (rTick_ok hok) (hB.1.resolve_left h2) h3 hK, ?_⟩
            rintro _ _ ⟨rfl, rfl⟩
            refine ⟨Or.inl rfl, ?_⟩
            simp only [wI_M, tk_0, tk_1, tk_2, tk_3, tk_4, tk_5, tk_6, tk_7, tk_8, tk_9, tk_10, tk_11, tk_12, tk_13, tk_14, tk_15, tk_16, tk_17, rd0_2, wr0_2, rd0_3, wr0_3, rd0_4, wr0_4, rd0_5, wr0_5, rd0_6, wr0_6, rd0_7, wr0_7, rd0_8, wr0_8, rd0_9, wr0_9, rd0_10, wr0_10, rd0_11, wr0_11, rd0_12, wr0_12, rd0_13, wr0_13, rd0_14, wr0_14, rd0_15, wr0_15, rd0_16, wr0_16, rd1_0, wr1_0, rd1_1, wr1_1, rd4_0, wr4_0, wI_1, r0, r1, r12, r13, r41, r42, wI_w] at h1 h2 h3 h4
            have a : σ 3 = 1 := hB.1.resolve_left h2
            rw [rGo, rGone, if_pos a, if_pos a] at hQ
            have hk1 := rGo1_K a hB hK
            refine ee_at (nt := nzT 24) [(0, .ref b), (1, .int (nI t)), (2, .int (nI (k + 1)))] (S, sO M b (rGo1 σ), J) rfl (by rw [← nI_1 k]; rfl) ?_ (ih (k + 1) (rGo1 σ) (by omega) (rGo1_ok hok) hk1.2 hk1.1 ?_)
            · show (S, _, J) = (S, _, J)
              try simp only [wI_M, tk_0, tk_1, tk_2, tk_3, tk_4, tk_5, tk_6, tk_7, tk_8, tk_9, tk_10, tk_11, tk_12, tk_13, tk_14, tk_15, tk_16, tk_17, rd0_2, wr0_2, rd0_3, wr0_3, rd0_4, wr0_4, rd0_5, wr0_5, rd0_6, wr0_6, rd0_7, wr0_7, rd0_8, wr0_8, rd0_9, wr0_9, rd0_10, wr0_10, rd0_11, wr0_11, rd0_12, wr0_12, rd0_13, wr0_13, rd0_14, wr0_14, rd0_15, wr0_15, rd0_16, wr0_16, rd1_0, wr1_0, rd1_1, wr1_1, rd4_0, wr4_0, wI_1, r0, r1, r12, r13, r41, r42, wI_w]
              refine congrArg (fun m => (S, sO M b m, J)) ?_
              unfold rGo1
              rw [if_pos (show σ 12 = 0 from h3)]
              first | rw [if_pos (show rTick σ 4 < σ 6 + σ 1 from h4)] | rw [if_neg (show ¬ rTick σ 4 < σ 6 + σ 1 from h4)]
              try rfl
            · rw [show k + 1 + rGone f (rGo1 σ) = k + (rGone f (rGo1 σ) + 1) by omega]
              exact hQ
theorem T_cGo {d : Nat} {S : Sc} {M : Nat → Nat → Int32} {J : Nat → Nat → Int64} {b : Nat} {σ : Rw} (hS : OdS S b) {t : Nat} (ht : t < 1000000) (hok : Rok σ) (hB : Bok σ) (hK : Kok σ) : Wp (d + 5) 24 [.ref b, .int (nI t)] (S, sO M b σ, J) (fun rs w' => rs = .inl (some (.int (nI (rGone t σ)))) ∧ w' = (S, sO M b (rGo t σ), J)) := by
  refine ⟨rfl, ?_⟩
  refine EE.runN (stop := atPc [2]) 2 _ ?_
  refine ee_at (nt := nzT 24) [(0, .ref b), (1, .int (nI t)), (2, .int (nI 0))] (S, sO M b σ, J) rfl rfl rfl ?_
  refine L_cGo hS ht t 0 σ (by omega) hok hB hK ?_
  rw [Nat.zero_add]
  exact ⟨rfl, rfl⟩
end
section
/-! THE INVARIANT of a row: written by wip/whole/pure4.py -/
def Cv (B : Nat) (x : Int32) : Prop := x = -99999 ∨ ∃ m, m ≤ B ∧ x = nI m
theorem Cv.mono {B B' : Nat} {x : Int32} (h : Cv B x) (hB : B ≤ B') : Cv B' x := by
  rcases h with h | ⟨m, h1, h2⟩
  · exact Or.inl h
  · exact Or.inr ⟨m, by omega, h2⟩
/-- the cells -/
def Cel (B : Nat) (ρ : Rw) : Prop := (∀ q, q < 36 → Cv B (ρ (42 + 2 * q))) ∧ (∀ q, q < 36 → ∃ m, m ≤ 999 ∧ ρ (43 + 2 * q) = nI m) ∧ (∃ m, m ≤ 999 ∧ ρ 2 = nI m)
theorem Cel.mono {B B' : Nat} {ρ : Rw} (h : Cel B ρ) (hB : B ≤ B') : Cel B' ρ := ⟨fun q hq => (h.1 q hq).mono hB, h.2⟩
theorem Cel.c {B : Nat} {ρ : Rw} {x : Int32} (h : Cel B ρ) (a : Nat) (hx : Cv B x) : Cel B (upd ρ (42 + 2 * a) x) := by
  refine ⟨fun q hq => ?_, fun q hq => ?_, ?_⟩
  · by_cases e : q = a
    · subst e
      rw [pk_us]
      exact hx
    · rw [pk_un (by omega)]
      exact h.1 q hq
  · rw [pk_un (by omega)]
    exact h.2.1 q hq
  · rw [pk_un (by omega)]
    exact h.2.2
theorem Cel.w {B : Nat} {ρ : Rw} {m : Nat} (h : Cel B ρ) (a : Nat) (hm : m ≤ 999) : Cel B (upd ρ (43 + 2 * a) (nI m)) := by
  refine ⟨fun q hq => ?_, fun q hq => ?_, ?_⟩
  · rw [pk_un (by omega)]
    exact h.1 q hq
  · by_cases e : q = a
    · subst e
      rw [pk_us]
      exact ⟨m, hm, rfl⟩
    · rw [pk_un (by omega)]
      exact h.2.1 q hq
  · rw [pk_un (by omega)]
    exact h.2.2
theorem Cel.o {B : Nat} {ρ : Rw} {x : Int32} (h : Cel B ρ) {k : Nat} (hk : k < 42) (h2 : k ≠ 2) : Cel B (upd ρ k x) := by
  refine ⟨fun q hq => ?_, fun q hq => ?_, ?_⟩
  · rw [pk_un (by omega)]
    exact h.1 q hq
  · rw [pk_un (by omega)]
    exact h.2.1 q hq
  · rw [pk_un (by omega)]
    exact h.2.2
theorem Cv.hund {B m : Nat} (hm : m ≤ B) (hB : B < 1073741824) : Cv B (nI m - (nI m - nI m / 100 * 100)) := by
  rw [i_rem, o_100, pk_div (by omega) (by omega) (by omega), pk_mul]
  exact Or.inr ⟨m / 100 * 100, by omega, rfl⟩
theorem rPut_C {B m : Nat} {ρ : Rw} {c : Prop} [Decidable c] {s i : Nat} (h : Cel B ρ) (hs : 3 * s + i < 36) (hm : m ≤ B) (hB : B < 1073741824) : Cel B (rPut ρ c s i (nI m)) := by
  unfold rPut
  split
  · exact h
  · rename_i hw
    obtain ⟨a, ha, hea⟩ := h.2.1 _ hs
    obtain ⟨l, hl, hel⟩ := h.2.2
    have hw' := Classical.not_not.mp hw
    rw [hea, hel, nI_ltI (by omega) (by omega)] at hw'
    have hW : Cel B (upd ρ (43 + 2 * (3 * s + i)) (ρ (43 + 2 * (3 * s + i)) + 1)) := by
      rw [hea, nI_1]
      exact h.w _ (by omega)
    have hV : Cv B (nI m) := Or.inr ⟨m, hm, rfl⟩
    split
    · split
      · exact hW
      · split
        · exact hW.c _ (Or.inl rfl)
        · exact hW.c _ (Cv.hund hm hB)
    · exact hW.c _ hV
theorem rWr_C {B m : Nat} {ρ : Rw} {s i : Nat} {t : Int32} (h : Cel B ρ) (hs : 3 * s + i < 36) (hm : m ≤ B) (hB : B < 1073741824) : Cel B (rWr ρ s i (nI m) t) := by
  have h1 : Cel B (rCut ρ) := (h.o (by omega) (by omega)).o (by omega) (by omega)
  unfold rWr
  split
  · unfold rOff
    exact ((((((((rPut_C h1 hs hm hB).o (by omega) (by omega)).o (by omega) (by omega)).o (by omega) (by omega)).o (by omega) (by omega)).o (by omega) (by omega)).o (by omega) (by omega)).o (by omega) (by omega)).o (by omega) (by omega)
  · exact rPut_C h1 hs hm hB
theorem rW3_C {B m : Nat} {ρ : Rw} {s : Nat} {t : Int32} (h : Cel B ρ) (hs : s < 12) (h4 : ρ 4 = nI m) (hm : m ≤ B) (hB : B < 1073741824) : Cel B (rW3 ρ s t).1 := by
  have k1 : rWr ρ s 0 (ρ 4) t 4 = nI m := (rWr_keep (by omega)).trans h4
  have a1 : Cel B (rWr ρ s 0 (ρ 4) t) := by rw [h4]; exact rWr_C h (by omega) hm hB
  unfold rW3
  split
  · exact a1
  generalize rWr ρ s 0 (ρ 4) t = ρ1 at *
  have k2 : rWr ρ1 s 1 (ρ1 4) t 4 = nI m := (rWr_keep (by omega)).trans k1
  have a2 : Cel B (rWr ρ1 s 1 (ρ1 4) t) := by rw [k1]; exact rWr_C a1 (by omega) hm hB
  split
  · exact a2
  generalize rWr ρ1 s 1 (ρ1 4) t = ρ2 at *
  have a3 : Cel B (rWr ρ2 s 2 (ρ2 4) t) := by rw [k2]; exact rWr_C a2 (by omega) hm hB
  split
  · exact a3
  · exact a3
theorem rSt_C {B m n cur : Nat} (hn : n ≤ 12) (hc : cur < n) (hm : m ≤ B) (hB : B < 1073741824) : ∀ (f vain : Nat) (ρ : Rw), Cel B ρ → ρ 4 = nI m → ((∃ m, m ≤ B ∧ ρ 6 = nI m)) → Cel B (rSt n cur f vain ρ) ∧ (∃ m, m ≤ B ∧ rSt n cur f vain ρ 6 = nI m)
  | 0, vain, ρ, h, h4, h6 => by
    unfold rSt
    exact ⟨h.o (by omega) (by omega), by rw [pk_un (by omega)]; exact h6⟩
  | f + 1, vain, ρ, h, h4, h6 => by
    have hs : (cur + 1 + vain) % n < 12 := Nat.lt_of_lt_of_le (Nat.mod_lt _ (by omega)) hn
    have a := rW3_C (t := nI vain) h hs h4 hm hB
    have k4 : (rW3 ρ ((cur + 1 + vain) % n) (nI vain)).1 4 = nI m := (rW3_keep (by omega)).trans h4
    have k6 : (rW3 ρ ((cur + 1 + vain) % n) (nI vain)).1 6 = ρ 6 := rW3_keep (by omega)
    rw [rSt]
    generalize rW3 ρ ((cur + 1 + vain) % n) (nI vain) = R at *
    split
    · exact ⟨a, k6 ▸ h6⟩
    · split
      · refine ⟨(a.o (by omega) (by omega)).o (by omega) (by omega), m, hm, ?_⟩
        rw [pk_us, pk_un (by omega), k4]
      · exact rSt_C hn hc hm hB f (vain + 1) R.1 a k4 (k6 ▸ h6)
def Sv (ρ : Rw) : Prop := ∃ m, m ≤ 12 ∧ ρ 17 = nI m ∧ Dst ρ m
theorem Sv.cg {ρ ρ' : Rw} (h : Sv ρ) (he : ∀ k, 17 ≤ k → k < 42 → ρ' k = ρ k) : Sv ρ' := by
  obtain ⟨m, a, b, c⟩ := h
  refine ⟨m, a, (he 17 (by omega) (by omega)).trans b, fun i k hi hk e => c i k hi hk ?_⟩
  rw [← he _ (by omega) (by omega), ← he _ (by omega) (by omega)]
  exact e
/-- the invariant: every number a cell holds is at most B -/
def Inv (B : Nat) (ρ : Rw) : Prop := Rok ρ ∧ Bok ρ ∧ Kok ρ ∧ Cel B ρ ∧ (∃ m, m ≤ B ∧ ρ 4 = nI m) ∧ (∃ m, m ≤ B ∧ ρ 6 = nI m) ∧ (∃ m, 1 ≤ m ∧ m ≤ 99 ∧ ρ 1 = nI m) ∧ Sv ρ
theorem Inv.mono {B B' : Nat} {ρ : Rw} (h : Inv B ρ) (hB : B ≤ B') : Inv B' ρ := by
  obtain ⟨a, b, c, e, ⟨m, hm, h4⟩, ⟨m6, hm6, h6⟩, g, i⟩ := h
  exact ⟨a, b, c, e.mono hB, ⟨m, by omega, h4⟩, ⟨m6, by omega, h6⟩, g, i⟩
theorem rStore_I {B : Nat} {ρ : Rw} (h : Inv B ρ) (hB : B < 1073741824) (h3 : ρ 3 = 1) (hD : ρ 12 = 0) : Inv B (rStore ρ) := by
  obtain ⟨a, b, c, e, ⟨m, hm, h4⟩, h6, g, i⟩ := h
  have hok := rStore_ok a
  have hK := rStore_K h3 hD c
  obtain ⟨n, cur, hn3, hn, hc, h0, h7⟩ := a
  have es : rStore ρ = rSt n cur (n - 1) 0 ρ := by
    unfold rStore
    rw [h0, h7, ck (by omega), ck (by omega)]
  have hC := rSt_C hn hc hm hB (n - 1) 0 ρ e h4 h6
  rw [← es] at hC
  refine ⟨hok, hK.2, hK.1, hC.1, ⟨m, hm, (rStore_keep (by omega)).trans h4⟩, hC.2, ?_, i.cg (fun k h1 h2 => rStore_keep (by omega))⟩
  obtain ⟨x, x1, x2, x3⟩ := g
  exact ⟨x, x1, x2, (rStore_keep (by omega)).trans x3⟩
theorem rTick_I {B : Nat} {ρ : Rw} (h : Inv B ρ) : Inv (B + 1) (rTick ρ) := by
  obtain ⟨a, b, c, e, ⟨m, hm, h4⟩, h6, g, i⟩ := h.mono (Nat.le_succ B)
  obtain ⟨_, _, _, _, ⟨m', hm', h4'⟩, _⟩ := h
  refine ⟨rTick_ok a, b, c, (e.o (by omega) (by omega)).o (by omega) (by omega), ⟨m' + 1, by omega, ?_⟩, h6, g, i.cg (fun k h1 h2 => ?_)⟩
  · show ρ 4 + 1 = _
    rw [h4', nI_1]
  · unfold rTick
    rw [pk_un (by omega), pk_un (by omega)]
theorem rGo1_I {B : Nat} {ρ : Rw} (h : Inv B ρ) (hB : B + 1 < 1073741824) (h3 : ρ 3 = 1) : Inv (B + 1) (rGo1 ρ) := by
  unfold rGo1
  split
  · rename_i hD
    split
    · exact rTick_I h
    · exact rStore_I (rTick_I h) hB h3 hD
  · exact rTick_I h
theorem rGo_I : ∀ (f : Nat) {B : Nat} {ρ : Rw}, Inv B ρ → B + f < 1073741824 → Inv (B + f) (rGo f ρ)
  | 0, _, _, h, _ => h
  | f + 1, B, ρ, h, hB => by
    unfold rGo
    split
    · rename_i h3
      have := rGo_I f (rGo1_I h (by omega) h3) (by omega)
      rw [show B + (f + 1) = B + 1 + f by omega]
      exact this
    · exact h.mono (by omega)
theorem rSays_C {B : Nat} {ρ : Rw} (h : Cel B ρ) {s : Nat} (hs : s < 12) : Cv B (rSays ρ s) := by
  unfold rSays
  split
  · exact h.1 _ (by omega)
  · split
    · exact h.1 _ (by omega)
    · exact Or.inl rfl
theorem Cv.ge {B : Nat} {x : Int32} (h : Cv B x) (hB : B < 1073741824) : -99999 ≤ x := by
  rcases h with h | ⟨m, h1, h2⟩
  · rw [h]
    exact Int32.le_refl _
  · rw [h2, Int32.le_iff_toInt_le, nI_toInt (by omega)]
    show (-99999 : Int) ≤ _
    omega
theorem rPower_I {B : Nat} {ρ : Rw} (h : Inv B ρ) : Inv B (rPower ρ) := by
  obtain ⟨a, b, c, e, h4, h6, g, i⟩ := h
  have hok := rPower_ok a
  obtain ⟨n, cur, hn3, hn, hc, h0, h7⟩ := a
  have hb := rBest_le ρ ((ρ 0).toNatClampNeg - 1)
  rw [h0, ck (by omega)] at hb
  have hv : ∃ m, m ≤ B ∧ (if rSays ρ (rBest ρ ((ρ 0).toNatClampNeg - 1)) = -99999 then 0 else rSays ρ (rBest ρ ((ρ 0).toNatClampNeg - 1))) = nI m := by
    rw [h0, ck (by omega)]
    split
    · exact ⟨0, by omega, rfl⟩
    · rename_i hne
      rcases rSays_C e (s := rBest ρ (n - 1)) (by omega) with hx | hx
      · exact absurd hx hne
      · exact hx
  refine ⟨hok, ⟨Or.inr rfl, Or.inl rfl⟩, c, ((((e.o (by omega) (by omega)).o (by omega) (by omega)).o (by omega) (by omega)).o (by omega) (by omega)).o (by omega) (by omega), hv, hv, g, i.cg (fun k h1 h2 => ?_)⟩
  unfold rPower rPow
  rw [pk_un (by omega), pk_un (by omega), pk_un (by omega), pk_un (by omega), pk_un (by omega)]
theorem rRn_hi {ρ : Rw} {s q : Nat} (h : q < 42) : ∀ k, rRn ρ s k q = ρ q
  | 0 => rfl
  | k + 1 => by rw [rRn, pk_un (by omega), pk_un (by omega), rRn_hi h k]
theorem rRn_C {B : Nat} {ρ : Rw} {s : Nat} (h : Cel B ρ) : ∀ k, Cel B (rRn ρ s k)
  | 0 => h
  | k + 1 => by
    rw [rRn]
    exact ((rRn_C h k).c _ (Or.inr ⟨0, by omega, rfl⟩)).w (m := 0) _ (by omega)
theorem rRenew_I {B : Nat} {ρ : Rw} {s : Nat} (h : Inv B ρ) : Inv B (rRenew ρ s) := by
  obtain ⟨a, b, c, e, h4, h6, g, i⟩ := h
  have hk : ∀ q, q < 42 → rRenew ρ s q = ρ q := fun q hq => rRn_hi hq 3
  refine ⟨a.cg (hk 0 (by omega)) (hk 7 (by omega)), ?_, ?_, rRn_C e 3, ?_, ?_, ?_, i.cg (fun k h1 h2 => hk k h2)⟩
  · unfold Bok
    rw [hk 3 (by omega), hk 12 (by omega)]
    exact b
  · unfold Kok
    rw [hk 10 (by omega), hk 11 (by omega)]
    exact c
  · rw [hk 4 (by omega)]
    exact h4
  · rw [hk 6 (by omega)]
    exact h6
  · rw [hk 1 (by omega)]
    exact g
theorem setCut_I {B q : Nat} {ρ : Rw} {k : Int32} (h : Inv B ρ) (hq : q ≤ 36) (hk : k = 0 ∨ k = 1 ∨ k = 2) : Inv B (upd (upd ρ 10 (nI q)) 11 k) := by
  obtain ⟨a, b, c, e, h4, h6, g, i⟩ := h
  refine ⟨a, b, ⟨q, hq, rfl, Or.inr hk⟩, (e.o (by omega) (by omega)).o (by omega) (by omega), h4, h6, g, i.cg (fun k h1 h2 => ?_)⟩
  rw [pk_un (by omega), pk_un (by omega)]
theorem cut0_I {B : Nat} {ρ : Rw} (h : Inv B ρ) : Inv B (upd ρ 10 0) := by
  obtain ⟨a, b, c, e, h4, h6, g, i⟩ := h
  refine ⟨a, b, ⟨0, by omega, rfl, Or.inl rfl⟩, e.o (by omega) (by omega), h4, h6, g, i.cg (fun k h1 h2 => ?_)⟩
  rw [pk_un (by omega)]
theorem step_I {B m : Nat} {ρ : Rw} (h : Inv B ρ) (h1 : 1 ≤ m) (hm : m ≤ 99) : Inv B (upd ρ 1 (nI m)) := by
  obtain ⟨a, b, c, e, h4, h6, g, i⟩ := h
  refine ⟨a, b, c, e.o (by omega) (by omega), h4, h6, ⟨m, h1, hm, rfl⟩, i.cg (fun k h1 h2 => ?_)⟩
  rw [pk_un (by omega)]
theorem rDrop_lo' (ρ : Rw) {i n k : Nat} (h : k < 17 ∨ 42 ≤ k) (hn : n ≤ 12) (hi : i < n) : rDrop ρ i n k = ρ k := by
  unfold rDrop rShift
  rw [pk_un (by omega), if_neg (by omega)]
theorem rDrop_code (ρ : Rw) {i n k : Nat} (hk : k < n - 1) : rDrop ρ i n (18 + 2 * k) = ρ (18 + 2 * (if k < i then k else k + 1)) := by
  unfold rDrop rShift
  rw [pk_un (by omega)]
  by_cases h : k < i
  · rw [if_pos h, if_neg (by omega)]
  · rw [if_neg h, if_pos (by omega)]
    congr 1
theorem rDrop_Sv {ρ : Rw} {i n : Nat} (hn : n ≤ 12) (hi : i < n) (hD : Dst ρ n) : Dst (rDrop ρ i n) (n - 1) := by
  intro x y hx hy e
  rw [rDrop_code ρ hx, rDrop_code ρ hy] at e
  have := hD _ _ (by split <;> omega) (by split <;> omega) e
  split at this <;> split at this <;> omega
theorem rDrop_I {B : Nat} {ρ : Rw} {i n : Nat} (h : Inv B ρ) (h17 : ρ 17 = nI n) (hn : n ≤ 12) (hi : i < n) : Inv B (rDrop ρ i n) := by
  obtain ⟨a, b, c, e, h4, h6, g, m, hm, e17, hD⟩ := h
  have hmn : m = n := by
    rw [e17, nI_eq (by omega) (by omega)] at h17
    exact h17
  subst hmn
  have hk : ∀ q, q < 17 ∨ 42 ≤ q → rDrop ρ i m q = ρ q := fun q hq => rDrop_lo' ρ hq hn hi
  refine ⟨a.cg (hk 0 (by omega)) (hk 7 (by omega)), ?_, ?_, ⟨fun q hq => ?_, fun q hq => ?_, ?_⟩, ?_, ?_, ?_, m - 1, by omega, ?_, rDrop_Sv hn hi hD⟩
  · unfold Bok
    rw [hk 3 (by omega), hk 12 (by omega)]
    exact b
  · unfold Kok
    rw [hk 10 (by omega), hk 11 (by omega)]
    exact c
  · rw [hk _ (by omega)]
    exact e.1 q hq
  · rw [hk _ (by omega)]
    exact e.2.1 q hq
  · rw [hk 2 (by omega)]
    exact e.2.2
  · rw [hk 4 (by omega)]
    exact h4
  · rw [hk 6 (by omega)]
    exact h6
  · rw [hk 1 (by omega)]
    exact g
  · unfold rDrop
    rw [pk_us]
theorem rAdd_I {B : Nat} {ρ : Rw} {n : Nat} {c : Int32} (h : Inv B ρ) (h17 : ρ 17 = nI n) (hn : n < 12) (hne : ∀ i, i < n → ¬ ρ (18 + 2 * i) = c) : Inv B (rAdd ρ c n) := by
  obtain ⟨a, b, cc, e, h4, h6, g, m, hm, e17, hD⟩ := h
  have hmn : m = n := by
    rw [e17, nI_eq (by omega) (by omega)] at h17
    exact h17
  subst hmn
  have hk : ∀ q, q < 17 ∨ 42 ≤ q → rAdd ρ c m q = ρ q := fun q hq => by
    unfold rAdd
    rw [pk_un (by omega), pk_un (by omega), pk_un (by omega)]
  have hc : ∀ q, q < m → rAdd ρ c m (18 + 2 * q) = ρ (18 + 2 * q) := fun q hq => by
    unfold rAdd
    rw [pk_un (by omega), pk_un (by omega), pk_un (by omega)]
  have hcm : rAdd ρ c m (18 + 2 * m) = c := by
    unfold rAdd
    rw [pk_un (by omega), pk_un (by omega), pk_us]
  refine ⟨a.cg (hk 0 (by omega)) (hk 7 (by omega)), ?_, ?_, ⟨fun q hq => ?_, fun q hq => ?_, ?_⟩, ?_, ?_, ?_, m + 1, by omega, ?_, fun x y hx hy ee => ?_⟩
  · unfold Bok
    rw [hk 3 (by omega), hk 12 (by omega)]
    exact b
  · unfold Kok
    rw [hk 10 (by omega), hk 11 (by omega)]
    exact cc
  · rw [hk _ (by omega)]
    exact e.1 q hq
  · rw [hk _ (by omega)]
    exact e.2.1 q hq
  · rw [hk 2 (by omega)]
    exact e.2.2
  · rw [hk 4 (by omega)]
    exact h4
  · rw [hk 6 (by omega)]
    exact h6
  · rw [hk 1 (by omega)]
    exact g
  · unfold rAdd
    rw [pk_us]
  · by_cases e1 : x = m
    · by_cases e2 : y = m
      · omega
      · subst e1
        rw [hcm, hc y (by omega)] at ee
        exact absurd ee.symm (hne y (by omega))
    · by_cases e2 : y = m
      · subst e2
        rw [hcm, hc x (by omega)] at ee
        exact absurd ee (hne x (by omega))
      · rw [hc x (by omega), hc y (by omega)] at ee
        exact hD x y (by omega) (by omega) ee
theorem rFnd_none {ρ : Rw} {c : Int32} : ∀ {n : Nat}, n < 1000 → rFnd ρ c n = -99999 → ∀ i, i < n → ¬ ρ (18 + 2 * i) = c
  | 0, _, _, i, hi => absurd hi (by omega)
  | n + 1, hn, h, i, hi => by
    unfold rFnd at h
    split at h
    · exact absurd h (nN (by omega))
    · by_cases e : i = n
      · subst e
        assumption
      · exact rFnd_none (by omega) h i (by omega)
theorem rFnd_at {ρ : Rw} {c : Int32} {i : Nat} : ∀ {n : Nat}, n < 1000 → i < 1000 → rFnd ρ c n = nI i → i < n ∧ ρ (18 + 2 * i) = c
  | 0, _, hi, h => absurd h.symm (nN (by omega))
  | n + 1, hn, hi, h => by
    unfold rFnd at h
    split at h
    · rw [nI_eq (by omega) (by omega)] at h
      subst h
      exact ⟨by omega, by assumption⟩
    · have := rFnd_at (by omega) hi h
      exact ⟨by omega, this.2⟩
theorem rServe_I {B : Nat} {ρ : Rw} {n : Nat} {c : Int32} (h : Inv B ρ) (h17 : ρ 17 = nI n) (hn : n ≤ 12) (hr : n < 12 ∨ ¬ rFnd ρ c n = -99999) : Inv B (rServe ρ c n) := by
  unfold rServe
  split
  · rename_i hf
    exact rAdd_I h h17 (hr.resolve_right (fun h => h hf)) (rFnd_none (by omega) hf)
  · rename_i hf
    obtain ⟨i, hi, he⟩ := (rFnd_or ρ c n).resolve_left hf
    rw [he, ck (by omega)]
    have hI := rDrop_I h h17 hn hi
    refine rAdd_I hI (rDrop_17 ρ) (by omega) (fun k hk e => ?_)
    rw [rDrop_code ρ hk] at e
    obtain ⟨_, _, _, _, _, _, _, m, hm, e17, hD⟩ := h
    have hmn : m = n := by
      rw [e17, nI_eq (by omega) (by omega)] at h17
      exact h17
    subst hmn
    have := hD _ i (by split <;> omega) hi (e.trans (rFnd_at (by omega) (by omega) he).2.symm)
    split at this <;> omega
end
section
/-! THE CLASS: power, cuts, services, commands: written by wip/whole/pure3.py -/
/-- the first of the best, told with NONE where all are silent -/
theorem cFo_e {σ : Rw} : ∀ k, (∀ s, s ≤ k → -99999 ≤ rSays σ s) → cGr σ (k + 1) = rSays σ (rBest σ k) ∧ cFo σ (k + 1) = if rSays σ (rBest σ k) = -99999 then -99999 else nI (rBest σ k)
  | 0, h => by
    have h0 := h 0 (by omega)
    rw [cGr, cFo, cGr, cFo, rBest]
    by_cases e : rSays σ 0 ≤ -99999
    · have e2 : rSays σ 0 = -99999 := Int32.le_antisymm e h0
      rw [if_pos e, if_pos e, if_pos e2]
      exact ⟨e2.symm, rfl⟩
    · have e2 : ¬ rSays σ 0 = -99999 := fun h2 => e (h2 ▸ Int32.le_refl _)
      rw [if_neg e, if_neg e, if_neg e2]
      exact ⟨rfl, rfl⟩
  | k + 1, h => by
    obtain ⟨a, b⟩ := cFo_e k (fun s hs => h s (by omega))
    have hk := h (rBest σ k) (by have := rBest_le σ k; omega)
    rw [cGr, cFo, rBest, a, b]
    by_cases e : rSays σ (k + 1) ≤ rSays σ (rBest σ k)
    · rw [if_pos e, if_pos e, if_pos e]
      exact ⟨rfl, rfl⟩
    · have e2 : ¬ rSays σ (k + 1) = -99999 := fun h2 => e (h2 ▸ hk)
      rw [if_neg e, if_neg e, if_neg e, if_neg e2]
      exact ⟨rfl, rfl⟩
theorem cMx_e {σ : Rw} (h : 0 ≤ σ 43) : ∀ k, cMx σ (k + 1) = rMost σ (k + 1)
  | 0 => by
    rw [cMx, rMost, cMx, rMost, if_pos (Int32.le_refl _)]
    by_cases e : 0 < σ (43 + 2 * 0)
    · rw [if_pos e]
    · rw [if_neg e]
      exact (Int32.le_antisymm (Int32.not_lt.mp e) h).symm
  | k + 1 => by
    rw [cMx, rMost, cMx_e h k]
    by_cases e : rMost σ (k + 1) < σ (43 + 2 * (k + 1))
    · rw [if_pos e, if_neg (Int32.not_le.mpr e)]
    · rw [if_neg e, if_pos (Int32.not_lt.mp e)]
theorem cMn_e {σ : Rw} (h : σ 43 ≤ 999) : ∀ k, cMn σ (k + 1) = rLeast σ (k + 1)
  | 0 => by
    rw [cMn, rLeast, cMn, rLeast, if_pos (Int32.le_refl _)]
    by_cases e : σ (43 + 2 * 0) < 999
    · rw [if_pos e]
    · rw [if_neg e]
      exact (Int32.le_antisymm h (Int32.not_lt.mp e)).symm
  | k + 1 => by
    rw [cMn, rLeast, cMn_e h k]
    by_cases e : σ (43 + 2 * (k + 1)) < rLeast σ (k + 1)
    · rw [if_pos e, if_neg (Int32.not_le.mpr e)]
    · rw [if_neg e, if_pos (Int32.not_lt.mp e)]
def rGap (ρ : Rw) (n : Nat) : Int32 := rMost ρ (3 * n) - rLeast ρ (3 * n)
theorem gap_e {σ : Rw} {B n : Nat} (h : Cel B σ) (hn : 0 < n) : cMx σ (3 * n) - cMn σ (3 * n) = rGap σ n := by
  obtain ⟨m, hm, e⟩ := h.2.1 0 (by omega)
  have e : σ 43 = nI m := e
  have a : 0 ≤ σ 43 := by rw [e]; exact nI_pos' (by omega)
  have b : σ 43 ≤ 999 := by rw [e]; exact nI_le (b := 999) (by omega) (by omega)
  unfold rGap
  rw [show 3 * n = 3 * n - 1 + 1 by omega, cMx_e a, cMn_e b]
theorem rSays_7 (ρ : Rw) (x : Int32) (s : Nat) : rSays (upd ρ 7 x) s = rSays ρ s := by
  unfold rSays
  rw [pk_un (show 42 + 2 * (3 * s + 0) ≠ 7 by omega), pk_un (show 42 + 2 * (3 * s + 1) ≠ 7 by omega), pk_un (show 42 + 2 * (3 * s + 2) ≠ 7 by omega)]
theorem bok3 {ρ : Rw} (h : Bok ρ) : (ρ 3 = 1 ↔ ¬ ρ 3 = 0) := ⟨fun h => by rw [h]; decide, fun h2 => h.1.resolve_left h2⟩
set_option maxHeartbeats 1000000 in
theorem T_switchOn {d : Nat} {S : Sc} {M : Nat → Nat → Int32} {J : Nat → Nat → Int64} {b : Nat} {σ : Rw} (hS : OdS S b) {B : Nat} (hI : Inv B σ) (hB : B < 1073741824) : Wp (d + 4) 30 [.ref b] (S, sO M b σ, J) (fun rs w' => rs = .inl (some (.int (rPower σ 4))) ∧ w' = (S, sO M b (rPower σ), J)) := by
  obtain ⟨⟨k0, k1, k2, k3, k4, k5, k6⟩, ⟨r0, r1, r12, r13, r41, r42⟩, l2, l3, l5, l6⟩ := id hS
  obtain ⟨⟨n, cur, h3_, hn, hc, h0, h7⟩, _, _, hC, _⟩ := hI
  have hbl := rBest_le σ (n - 1)
  have hfo : cFo σ n = if rSays σ (rBest σ (n - 1)) = -99999 then -99999 else nI (rBest σ (n - 1)) := by
    have := (cFo_e (σ := σ) (n - 1) (fun s hs => (rSays_C hC (by omega)).ge hB)).2
    rw [show n - 1 + 1 = n by omega] at this
    exact this
  refine ⟨rfl, ?_⟩
  refine EE.runN (stop := noStop) 100 _ ?_
  refine ⟨by simp only [wI_1, r0, r1, r12, r13, r41, r42, k0, k1, k2, k3, k4, k5, k6] <;> first | rfl | decide, ?_⟩
  refine ⟨⟨Nat.le_of_ble_eq_true rfl, Nat.le_of_ble_eq_true rfl, Nat.le_of_ble_eq_true rfl⟩, by simp only [wI_1, r0, r1, r12, r13, r41, r42, k0, k1, k2, k3, k4, k5, k6] <;> first | rfl | decide, _, T_slotOfGreatest hS r0 h0 hn, ?_⟩
  rintro _ _ ⟨rfl, rfl⟩
  rw [hfo]
  refine ⟨Or.inl rfl, ?_⟩
  refine ⟨fun h1 => ?_, fun h1 => ?_⟩
  · have g1 : ¬ rSays σ (rBest σ (n - 1)) = -99999 := fun h => h1 (if_pos h)
    refine ⟨by simp only [wI_1, r0, r1, r12, r13, r41, r42, k0, k1, k2, k3, k4, k5, k6] <;> first | rfl | decide, trivial, ?_⟩
    refine ⟨fun h2 => ?_, fun h2 => ?_⟩
    · refine ⟨by simp only [wI_1, r0, r1, r12, r13, r41, r42, k0, k1, k2, k3, k4, k5, k6] <;> first | rfl | decide, ?_⟩
      refine ⟨⟨Nat.le_of_ble_eq_true rfl, Nat.le_of_ble_eq_true rfl, Nat.le_of_ble_eq_true rfl⟩, by simp only [wI_1, r0, r1, r12, r13, r41, r42, k0, k1, k2, k3, k4, k5, k6] <;> first | rfl | decide, _, by simp only [if_neg g1, wI_M, tk_0, tk_1, tk_2, tk_3, tk_4, tk_5, tk_6, tk_7, tk_8, tk_9, tk_10, tk_11, tk_12, tk_13, tk_14, tk_15, tk_16, tk_17, rd0_2, wr0_2, rd0_3, wr0_3, rd0_4, wr0_4, rd0_5, wr0_5, rd0_6, wr0_6, rd0_7, wr0_7, rd0_8, wr0_8, rd0_9, wr0_9, rd0_10, wr0_10, rd0_11, wr0_11, rd0_12, wr0_12, rd0_13, wr0_13, rd0_14, wr0_14, rd0_15, wr0_15, rd0_16, wr0_16, rd1_0, wr1_0, rd1_1, wr1_1, rd4_0, wr4_0, wI_1, r0, r1, r12, r13, r41, r42, wI_w]; exact T_spokenBy hS rfl (by omega), ?_⟩
      rintro _ _ ⟨rfl, rfl⟩
      refine ⟨Or.inl rfl, ?_⟩
      refine ⟨by simp only [wI_1, r0, r1, r12, r13, r41, r42, k0, k1, k2, k3, k4, k5, k6] <;> first | rfl | decide, trivial, ?_⟩
      refine ⟨by simp only [wI_1, r0, r1, r12, r13, r41, r42, k0, k1, k2, k3, k4, k5, k6] <;> first | rfl | decide, ?_⟩
      refine ⟨by simp only [wI_1, r0, r1, r12, r13, r41, r42, k0, k1, k2, k3, k4, k5, k6] <;> first | rfl | decide, trivial, ?_⟩
      refine ⟨by simp only [wI_1, r0, r1, r12, r13, r41, r42, k0, k1, k2, k3, k4, k5, k6] <;> first | rfl | decide, by first | exact Or.inl rfl | exact Or.inr rfl | simp only [wI_1, r0, r1, r12, r13, r41, r42, k0, k1, k2, k3, k4, k5, k6] <;> first | rfl | decide, ?_⟩
      refine ⟨by simp only [wI_1, r0, r1, r12, r13, r41, r42, k0, k1, k2, k3, k4, k5, k6] <;> first | rfl | decide, by first | exact Or.inl rfl | exact Or.inr rfl | simp only [wI_1, r0, r1, r12, r13, r41, r42, k0, k1, k2, k3, k4, k5, k6] <;> first | rfl | decide, ?_⟩
      refine ⟨by simp only [wI_1, r0, r1, r12, r13, r41, r42, k0, k1, k2, k3, k4, k5, k6] <;> first | rfl | decide, ?_⟩
      refine ⟨⟨Nat.zero_le _, Nat.zero_le _⟩, ?_, ?_⟩
      · refine congrArg (fun v => Sum.inl (some (Value.int v))) ?_
        simp only [wI_M, tk_0, tk_1, tk_2, tk_3, tk_4, tk_5, tk_6, tk_7, tk_8, tk_9, tk_10, tk_11, tk_12, tk_13, tk_14, tk_15, tk_16, tk_17, rd0_2, wr0_2, rd0_3, wr0_3, rd0_4, wr0_4, rd0_5, wr0_5, rd0_6, wr0_6, rd0_7, wr0_7, rd0_8, wr0_8, rd0_9, wr0_9, rd0_10, wr0_10, rd0_11, wr0_11, rd0_12, wr0_12, rd0_13, wr0_13, rd0_14, wr0_14, rd0_15, wr0_15, rd0_16, wr0_16, rd1_0, wr1_0, rd1_1, wr1_1, rd4_0, wr4_0, wI_1, r0, r1, r12, r13, r41, r42, wI_w, rSays_7]
        unfold rPower rPow
        rw [h0, ck (by omega)]
        first | rw [if_neg g1, if_neg g1] | rw [if_pos g1, if_pos g1] | skip
        rfl
      · show (S, _, J) = (S, _, J)
        simp only [wI_M, tk_0, tk_1, tk_2, tk_3, tk_4, tk_5, tk_6, tk_7, tk_8, tk_9, tk_10, tk_11, tk_12, tk_13, tk_14, tk_15, tk_16, tk_17, rd0_2, wr0_2, rd0_3, wr0_3, rd0_4, wr0_4, rd0_5, wr0_5, rd0_6, wr0_6, rd0_7, wr0_7, rd0_8, wr0_8, rd0_9, wr0_9, rd0_10, wr0_10, rd0_11, wr0_11, rd0_12, wr0_12, rd0_13, wr0_13, rd0_14, wr0_14, rd0_15, wr0_15, rd0_16, wr0_16, rd1_0, wr1_0, rd1_1, wr1_1, rd4_0, wr4_0, wI_1, r0, r1, r12, r13, r41, r42, wI_w, rSays_7]
        refine congrArg (fun m => (S, sO M b m, J)) ?_
        unfold rPower rPow
        rw [h0, ck (by omega)]
        first | rw [if_neg g1, if_neg g1] | rw [if_pos g1, if_pos g1]
        exact upd_cm _ _ _ (by omega)
    · first | exact absurd h2 h1 | exact absurd h1 h2
  · have g1 : rSays σ (rBest σ (n - 1)) = -99999 := Classical.byContradiction (fun h => absurd ((if_neg h).symm.trans h1) (nN (by omega)))
    refine ⟨by simp only [wI_1, r0, r1, r12, r13, r41, r42, k0, k1, k2, k3, k4, k5, k6] <;> first | rfl | decide, trivial, ?_⟩
    refine ⟨fun h3 => ?_, fun h3 => ?_⟩
    · first | exact absurd h3 h1 | exact absurd h1 h3
    · refine ⟨by simp only [wI_1, r0, r1, r12, r13, r41, r42, k0, k1, k2, k3, k4, k5, k6] <;> first | rfl | decide, trivial, ?_⟩
      refine ⟨by simp only [wI_1, r0, r1, r12, r13, r41, r42, k0, k1, k2, k3, k4, k5, k6] <;> first | rfl | decide, ?_⟩
      refine ⟨by simp only [wI_1, r0, r1, r12, r13, r41, r42, k0, k1, k2, k3, k4, k5, k6] <;> first | rfl | decide, trivial, ?_⟩
      refine ⟨by simp only [wI_1, r0, r1, r12, r13, r41, r42, k0, k1, k2, k3, k4, k5, k6] <;> first | rfl | decide, by first | exact Or.inl rfl | exact Or.inr rfl | simp only [wI_1, r0, r1, r12, r13, r41, r42, k0, k1, k2, k3, k4, k5, k6] <;> first | rfl | decide, ?_⟩
      refine ⟨by simp only [wI_1, r0, r1, r12, r13, r41, r42, k0, k1, k2, k3, k4, k5, k6] <;> first | rfl | decide, by first | exact Or.inl rfl | exact Or.inr rfl | simp only [wI_1, r0, r1, r12, r13, r41, r42, k0, k1, k2, k3, k4, k5, k6] <;> first | rfl | decide, ?_⟩
      refine ⟨by simp only [wI_1, r0, r1, r12, r13, r41, r42, k0, k1, k2, k3, k4, k5, k6] <;> first | rfl | decide, ?_⟩
      refine ⟨⟨Nat.zero_le _, Nat.zero_le _⟩, ?_, ?_⟩
      · refine congrArg (fun v => Sum.inl (some (Value.int v))) ?_
        simp only [wI_M, tk_0, tk_1, tk_2, tk_3, tk_4, tk_5, tk_6, tk_7, tk_8, tk_9, tk_10, tk_11, tk_12, tk_13, tk_14, tk_15, tk_16, tk_17, rd0_2, wr0_2, rd0_3, wr0_3, rd0_4, wr0_4, rd0_5, wr0_5, rd0_6, wr0_6, rd0_7, wr0_7, rd0_8, wr0_8, rd0_9, wr0_9, rd0_10, wr0_10, rd0_11, wr0_11, rd0_12, wr0_12, rd0_13, wr0_13, rd0_14, wr0_14, rd0_15, wr0_15, rd0_16, wr0_16, rd1_0, wr1_0, rd1_1, wr1_1, rd4_0, wr4_0, wI_1, r0, r1, r12, r13, r41, r42, wI_w, rSays_7]
        unfold rPower rPow
        rw [h0, ck (by omega)]
        first | rw [if_neg g1, if_neg g1] | rw [if_pos g1, if_pos g1] | skip
        rfl
      · show (S, _, J) = (S, _, J)
        simp only [wI_M, tk_0, tk_1, tk_2, tk_3, tk_4, tk_5, tk_6, tk_7, tk_8, tk_9, tk_10, tk_11, tk_12, tk_13, tk_14, tk_15, tk_16, tk_17, rd0_2, wr0_2, rd0_3, wr0_3, rd0_4, wr0_4, rd0_5, wr0_5, rd0_6, wr0_6, rd0_7, wr0_7, rd0_8, wr0_8, rd0_9, wr0_9, rd0_10, wr0_10, rd0_11, wr0_11, rd0_12, wr0_12, rd0_13, wr0_13, rd0_14, wr0_14, rd0_15, wr0_15, rd0_16, wr0_16, rd1_0, wr1_0, rd1_1, wr1_1, rd4_0, wr4_0, wI_1, r0, r1, r12, r13, r41, r42, wI_w, rSays_7]
        refine congrArg (fun m => (S, sO M b m, J)) ?_
        unfold rPower rPow
        rw [h0, ck (by omega)]
        first | rw [if_neg g1, if_neg g1] | rw [if_pos g1, if_pos g1]
        exact upd_cm _ _ _ (by omega)
set_option maxHeartbeats 1000000 in
theorem T_setCut {d : Nat} {S : Sc} {M : Nat → Nat → Int32} {J : Nat → Nat → Int64} {b : Nat} {σ : Rw} (hS : OdS S b) {q k : Int32} : Wp (d + 1) 31 [.ref b, .int q, .int k] (S, sO M b σ, J) (fun rs w' => rs = .inl (some (.int (σ 10))) ∧ w' = (S, sO M b (upd (upd σ 10 q) 11 k), J)) := by
  obtain ⟨⟨k0, k1, k2, k3, k4, k5, k6⟩, ⟨r0, r1, r12, r13, r41, r42⟩, l2, l3, l5, l6⟩ := id hS
  refine ⟨rfl, ?_⟩
  refine EE.runN (stop := noStop) 100 _ ?_
  refine ⟨by simp only [wI_1, r0, r1, r12, r13, r41, r42, k0, k1, k2, k3, k4, k5, k6] <;> first | rfl | decide, ?_⟩
  refine ⟨by simp only [wI_1, r0, r1, r12, r13, r41, r42, k0, k1, k2, k3, k4, k5, k6] <;> first | rfl | decide, trivial, ?_⟩
  refine ⟨by simp only [wI_1, r0, r1, r12, r13, r41, r42, k0, k1, k2, k3, k4, k5, k6] <;> first | rfl | decide, trivial, ?_⟩
  refine ⟨⟨Nat.zero_le _, Nat.zero_le _⟩, ?_, ?_⟩
  · simp only [wI_M, tk_0, tk_1, tk_2, tk_3, tk_4, tk_5, tk_6, tk_7, tk_8, tk_9, tk_10, tk_11, tk_12, tk_13, tk_14, tk_15, tk_16, tk_17, rd0_2, wr0_2, rd0_3, wr0_3, rd0_4, wr0_4, rd0_5, wr0_5, rd0_6, wr0_6, rd0_7, wr0_7, rd0_8, wr0_8, rd0_9, wr0_9, rd0_10, wr0_10, rd0_11, wr0_11, rd0_12, wr0_12, rd0_13, wr0_13, rd0_14, wr0_14, rd0_15, wr0_15, rd0_16, wr0_16, rd1_0, wr1_0, rd1_1, wr1_1, rd4_0, wr4_0, wI_1, r0, r1, r12, r13, r41, r42, wI_w]
  · show (S, _, J) = (S, _, J)
    simp only [wI_M, tk_0, tk_1, tk_2, tk_3, tk_4, tk_5, tk_6, tk_7, tk_8, tk_9, tk_10, tk_11, tk_12, tk_13, tk_14, tk_15, tk_16, tk_17, rd0_2, wr0_2, rd0_3, wr0_3, rd0_4, wr0_4, rd0_5, wr0_5, rd0_6, wr0_6, rd0_7, wr0_7, rd0_8, wr0_8, rd0_9, wr0_9, rd0_10, wr0_10, rd0_11, wr0_11, rd0_12, wr0_12, rd0_13, wr0_13, rd0_14, wr0_14, rd0_15, wr0_15, rd0_16, wr0_16, rd1_0, wr1_0, rd1_1, wr1_1, rd4_0, wr4_0, wI_1, r0, r1, r12, r13, r41, r42, wI_w]
set_option maxHeartbeats 1000000 in
theorem T_canReplace {d : Nat} {S : Sc} {M : Nat → Nat → Int32} {J : Nat → Nat → Int64} {b : Nat} {σ : Rw} (hS : OdS S b) {x : Int32} : Wp (d + 2) 33 [.ref b, .int x] (S, sO M b σ, J) (fun rs w' => rs = .inl (some (.int (bI (¬ σ 3 = 0 ∧ (¬ x < 0 ∧ ¬ σ 0 ≤ x) ∧ ¬ x = σ 7)))) ∧ w' = (S, sO M b (σ), J)) := by
  obtain ⟨⟨k0, k1, k2, k3, k4, k5, k6⟩, ⟨r0, r1, r12, r13, r41, r42⟩, l2, l3, l5, l6⟩ := id hS
  refine ⟨rfl, ?_⟩
  refine EE.runN (stop := noStop) 100 _ ?_
  refine ⟨by simp only [wI_1, r0, r1, r12, r13, r41, r42, k0, k1, k2, k3, k4, k5, k6] <;> first | rfl | decide, ?_⟩
  refine ⟨fun h1 => ?_, fun h1 => ?_⟩
  · simp only [wI_M, tk_0, tk_1, tk_2, tk_3, tk_4, tk_5, tk_6, tk_7, tk_8, tk_9, tk_10, tk_11, tk_12, tk_13, tk_14, tk_15, tk_16, tk_17, rd0_2, wr0_2, rd0_3, wr0_3, rd0_4, wr0_4, rd0_5, wr0_5, rd0_6, wr0_6, rd0_7, wr0_7, rd0_8, wr0_8, rd0_9, wr0_9, rd0_10, wr0_10, rd0_11, wr0_11, rd0_12, wr0_12, rd0_13, wr0_13, rd0_14, wr0_14, rd0_15, wr0_15, rd0_16, wr0_16, rd1_0, wr1_0, rd1_1, wr1_1, rd4_0, wr4_0, wI_1, r0, r1, r12, r13, r41, r42, wI_w, bI_e0, Classical.not_not] at h1
    refine ⟨⟨Nat.zero_le _, Nat.zero_le _⟩, by decide, ?_, ?_⟩
    · simp [-Int32.not_le, -Int32.not_lt, bI, h1]
    · rfl
  · refine ⟨by simp only [wI_1, r0, r1, r12, r13, r41, r42, k0, k1, k2, k3, k4, k5, k6] <;> first | rfl | decide, ?_⟩
    refine ⟨⟨Nat.le_of_ble_eq_true rfl, Nat.le_of_ble_eq_true rfl, Nat.le_of_ble_eq_true rfl⟩, by simp only [wI_1, r0, r1, r12, r13, r41, r42, k0, k1, k2, k3, k4, k5, k6] <;> first | rfl | decide, _, T_hasSlot hS r0, ?_⟩
    rintro _ _ ⟨rfl, rfl⟩
    refine ⟨Or.inl rfl, ?_⟩
    refine ⟨fun h2 => ?_, fun h2 => ?_⟩
    · simp only [wI_M, tk_0, tk_1, tk_2, tk_3, tk_4, tk_5, tk_6, tk_7, tk_8, tk_9, tk_10, tk_11, tk_12, tk_13, tk_14, tk_15, tk_16, tk_17, rd0_2, wr0_2, rd0_3, wr0_3, rd0_4, wr0_4, rd0_5, wr0_5, rd0_6, wr0_6, rd0_7, wr0_7, rd0_8, wr0_8, rd0_9, wr0_9, rd0_10, wr0_10, rd0_11, wr0_11, rd0_12, wr0_12, rd0_13, wr0_13, rd0_14, wr0_14, rd0_15, wr0_15, rd0_16, wr0_16, rd1_0, wr1_0, rd1_1, wr1_1, rd4_0, wr4_0, wI_1, r0, r1, r12, r13, r41, r42, wI_w, bI_e0, Classical.not_not] at h1 h2
      refine ⟨⟨Nat.zero_le _, Nat.zero_le _⟩, by decide, ?_, ?_⟩
      · simp [-Int32.not_le, -Int32.not_lt, bI, h1, h2]
      · rfl
    · refine ⟨by simp only [wI_1, r0, r1, r12, r13, r41, r42, k0, k1, k2, k3, k4, k5, k6] <;> first | rfl | decide, ?_⟩
      refine ⟨fun h3 => ?_, fun h3 => ?_⟩
      · simp only [wI_M, tk_0, tk_1, tk_2, tk_3, tk_4, tk_5, tk_6, tk_7, tk_8, tk_9, tk_10, tk_11, tk_12, tk_13, tk_14, tk_15, tk_16, tk_17, rd0_2, wr0_2, rd0_3, wr0_3, rd0_4, wr0_4, rd0_5, wr0_5, rd0_6, wr0_6, rd0_7, wr0_7, rd0_8, wr0_8, rd0_9, wr0_9, rd0_10, wr0_10, rd0_11, wr0_11, rd0_12, wr0_12, rd0_13, wr0_13, rd0_14, wr0_14, rd0_15, wr0_15, rd0_16, wr0_16, rd1_0, wr1_0, rd1_1, wr1_1, rd4_0, wr4_0, wI_1, r0, r1, r12, r13, r41, r42, wI_w, bI_e0, Classical.not_not] at h1 h2 h3
        refine ⟨⟨Nat.zero_le _, Nat.zero_le _⟩, by decide, ?_, ?_⟩
        · simp [-Int32.not_le, -Int32.not_lt, bI, h1, h2, h3]
        · rfl
      · simp only [wI_M, tk_0, tk_1, tk_2, tk_3, tk_4, tk_5, tk_6, tk_7, tk_8, tk_9, tk_10, tk_11, tk_12, tk_13, tk_14, tk_15, tk_16, tk_17, rd0_2, wr0_2, rd0_3, wr0_3, rd0_4, wr0_4, rd0_5, wr0_5, rd0_6, wr0_6, rd0_7, wr0_7, rd0_8, wr0_8, rd0_9, wr0_9, rd0_10, wr0_10, rd0_11, wr0_11, rd0_12, wr0_12, rd0_13, wr0_13, rd0_14, wr0_14, rd0_15, wr0_15, rd0_16, wr0_16, rd1_0, wr1_0, rd1_1, wr1_1, rd4_0, wr4_0, wI_1, r0, r1, r12, r13, r41, r42, wI_w, bI_e0, Classical.not_not] at h1 h2 h3
        refine ⟨⟨Nat.zero_le _, Nat.zero_le _⟩, by decide, ?_, ?_⟩
        · simp [-Int32.not_le, -Int32.not_lt, bI, h1, h2, h3]
        · rfl
set_option maxHeartbeats 1000000 in
theorem T_noteService {d : Nat} {S : Sc} {M : Nat → Nat → Int32} {J : Nat → Nat → Int64} {b : Nat} {σ : Rw} (hS : OdS S b) {n : Nat} {x y : Int32} (hn : n ≤ 12) (h17 : σ 17 = nI n) (hD : Dst σ n) (hr : n < 12 ∨ ¬ rFnd σ (10 * x + y) n = -99999) : Wp (d + 3) 32 [.ref b, .int x, .int y] (S, sO M b σ, J) (fun rs w' => rs = .inl (some (.int (rServed σ (10 * x + y) n))) ∧ w' = (S, sO M b (rServe σ (10 * x + y) n), J)) := by
  obtain ⟨⟨k0, k1, k2, k3, k4, k5, k6⟩, ⟨r0, r1, r12, r13, r41, r42⟩, l2, l3, l5, l6⟩ := id hS
  have hh : ∃ f, f = rFnd σ (10 * x + y) n := ⟨_, rfl⟩
  obtain ⟨f, hf⟩ := hh
  refine ⟨rfl, ?_⟩
  refine EE.runN (stop := noStop) 100 _ ?_
  refine ⟨by simp only [wI_1, r0, r1, r12, r13, r41, r42, k0, k1, k2, k3, k4, k5, k6] <;> first | rfl | decide, ?_⟩
  refine ⟨⟨Nat.le_of_ble_eq_true rfl, Nat.le_of_ble_eq_true rfl, Nat.le_of_ble_eq_true rfl⟩, by simp only [wI_1, r0, r1, r12, r13, r41, r42, k0, k1, k2, k3, k4, k5, k6] <;> first | rfl | decide, _, T_placeOf hS r1 hn h17 hD, ?_⟩
  rintro _ _ ⟨rfl, rfl⟩
  rw [← hf]
  refine ⟨Or.inl rfl, ?_⟩
  refine ⟨fun h1 => ?_, fun h1 => ?_⟩
  · have hi0 := rFnd_or σ (10 * x + y) n
    rw [← hf] at hi0
    obtain ⟨i, hi, hi2⟩ := hi0.resolve_left h1
    have hm : rDrop σ i n 17 = nI (n - 1) := rDrop_17 σ
    have hlt : n - 1 < 12 := by omega
    refine ⟨by simp only [wI_1, r0, r1, r12, r13, r41, r42, k0, k1, k2, k3, k4, k5, k6] <;> first | rfl | decide, ?_⟩
    refine ⟨by simp only [wI_1, r0, r1, r12, r13, r41, r42, k0, k1, k2, k3, k4, k5, k6] <;> first | rfl | decide, ?_⟩
    refine ⟨⟨Nat.le_of_ble_eq_true rfl, Nat.le_of_ble_eq_true rfl, Nat.le_of_ble_eq_true rfl⟩, by simp only [wI_1, r0, r1, r12, r13, r41, r42, k0, k1, k2, k3, k4, k5, k6] <;> first | rfl | decide, _, by rw [hi2]; exact T_takeOut hS r1 hi hn h17, ?_⟩
    rintro _ _ ⟨rfl, rfl⟩
    refine ⟨Or.inl rfl, ?_⟩
    refine ⟨by simp only [wI_1, r0, r1, r12, r13, r41, r42, k0, k1, k2, k3, k4, k5, k6] <;> first | rfl | decide, ?_⟩
    refine ⟨by simp only [wI_1, r0, r1, r12, r13, r41, r42, k0, k1, k2, k3, k4, k5, k6] <;> first | rfl | decide, ?_⟩
    refine ⟨⟨Nat.le_of_ble_eq_true rfl, Nat.le_of_ble_eq_true rfl, Nat.le_of_ble_eq_true rfl⟩, by simp only [wI_1, r0, r1, r12, r13, r41, r42, k0, k1, k2, k3, k4, k5, k6] <;> first | rfl | decide, _, T_addLast hS r1 hlt hm, ?_⟩
    rintro _ _ ⟨rfl, rfl⟩
    refine ⟨Or.inl rfl, ?_⟩
    refine ⟨⟨Nat.zero_le _, Nat.zero_le _⟩, ?_, ?_⟩
    · unfold rServed
      rw [if_neg (hf ▸ h1), ← hf, hi2, ck (by omega)]
      simp only [wI_M, tk_0, tk_1, tk_2, tk_3, tk_4, tk_5, tk_6, tk_7, tk_8, tk_9, tk_10, tk_11, tk_12, tk_13, tk_14, tk_15, tk_16, tk_17, rd0_2, wr0_2, rd0_3, wr0_3, rd0_4, wr0_4, rd0_5, wr0_5, rd0_6, wr0_6, rd0_7, wr0_7, rd0_8, wr0_8, rd0_9, wr0_9, rd0_10, wr0_10, rd0_11, wr0_11, rd0_12, wr0_12, rd0_13, wr0_13, rd0_14, wr0_14, rd0_15, wr0_15, rd0_16, wr0_16, rd1_0, wr1_0, rd1_1, wr1_1, rd4_0, wr4_0, wI_1, r0, r1, r12, r13, r41, r42, wI_w]
    · unfold rServe
      rw [if_neg (hf ▸ h1), ← hf, hi2, ck (by omega)]
      simp only [wI_M, tk_0, tk_1, tk_2, tk_3, tk_4, tk_5, tk_6, tk_7, tk_8, tk_9, tk_10, tk_11, tk_12, tk_13, tk_14, tk_15, tk_16, tk_17, rd0_2, wr0_2, rd0_3, wr0_3, rd0_4, wr0_4, rd0_5, wr0_5, rd0_6, wr0_6, rd0_7, wr0_7, rd0_8, wr0_8, rd0_9, wr0_9, rd0_10, wr0_10, rd0_11, wr0_11, rd0_12, wr0_12, rd0_13, wr0_13, rd0_14, wr0_14, rd0_15, wr0_15, rd0_16, wr0_16, rd1_0, wr1_0, rd1_1, wr1_1, rd4_0, wr4_0, wI_1, r0, r1, r12, r13, r41, r42, wI_w]
      rfl
  · have hm : σ 17 = nI n := h17
    have hlt : n < 12 := hr.resolve_right (fun h => h (hf ▸ h1))
    refine ⟨by simp only [wI_1, r0, r1, r12, r13, r41, r42, k0, k1, k2, k3, k4, k5, k6] <;> first | rfl | decide, ?_⟩
    refine ⟨by simp only [wI_1, r0, r1, r12, r13, r41, r42, k0, k1, k2, k3, k4, k5, k6] <;> first | rfl | decide, ?_⟩
    refine ⟨⟨Nat.le_of_ble_eq_true rfl, Nat.le_of_ble_eq_true rfl, Nat.le_of_ble_eq_true rfl⟩, by simp only [wI_1, r0, r1, r12, r13, r41, r42, k0, k1, k2, k3, k4, k5, k6] <;> first | rfl | decide, _, T_addLast hS r1 hlt hm, ?_⟩
    rintro _ _ ⟨rfl, rfl⟩
    refine ⟨Or.inl rfl, ?_⟩
    refine ⟨⟨Nat.zero_le _, Nat.zero_le _⟩, ?_, ?_⟩
    · unfold rServed
      rw [if_pos (hf ▸ h1)]
    · unfold rServe
      rw [if_pos (hf ▸ h1)]
      simp only [wI_M, tk_0, tk_1, tk_2, tk_3, tk_4, tk_5, tk_6, tk_7, tk_8, tk_9, tk_10, tk_11, tk_12, tk_13, tk_14, tk_15, tk_16, tk_17, rd0_2, wr0_2, rd0_3, wr0_3, rd0_4, wr0_4, rd0_5, wr0_5, rd0_6, wr0_6, rd0_7, wr0_7, rd0_8, wr0_8, rd0_9, wr0_9, rd0_10, wr0_10, rd0_11, wr0_11, rd0_12, wr0_12, rd0_13, wr0_13, rd0_14, wr0_14, rd0_15, wr0_15, rd0_16, wr0_16, rd1_0, wr1_0, rd1_1, wr1_1, rd4_0, wr4_0, wI_1, r0, r1, r12, r13, r41, r42, wI_w]
      rfl
end
