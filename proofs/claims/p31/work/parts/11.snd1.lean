def isS : Instr → Bool
  | .iconst .. => true
  | .bipush .. => true
  | .sipush .. => true
  | .lconst .. => true
  | .ldc .. => true
  | .ldc_w .. => true
  | .ldc2_w .. => true
  | .iload_n .. => true
  | .iload .. => true
  | .lload_n .. => true
  | .lload .. => true
  | .aload_n .. => true
  | .aload .. => true
  | .istore_n .. => true
  | .istore .. => true
  | .lstore_n .. => true
  | .lstore .. => true
  | .astore_n .. => true
  | .astore .. => true
  | .iinc .. => true
  | .iadd .. => true
  | .isub .. => true
  | .imul .. => true
  | .ishr .. => true
  | .iand .. => true
  | .idiv .. => true
  | .irem .. => true
  | .ladd .. => true
  | .lsub .. => true
  | .lmul .. => true
  | .land .. => true
  | .lor .. => true
  | .ldiv .. => true
  | .lrem .. => true
  | .lushr .. => true
  | .lshl .. => true
  | .i2l .. => true
  | .l2i .. => true
  | .lcmp .. => true
  | .dup .. => true
  | .dup2 .. => true
  | .pop .. => true
  | .ifCond .. => true
  | .if_icmp .. => true
  | .goto .. => true
  | .ifnull .. => true
  | .tableswitch .. => true
  | .lookupswitch .. => true
  | _ => false
set_option maxHeartbeats 4000000 in
theorem so_simple {p : Program} {l : Launch} {e : Env} {R : Room} {s : State} {m : MethodId} {args : Array Value} {below : List Frame} {meth : Method} {c : Code} {D : va_G} {K : Nat → ClassId} {A : Nat → Prop} {ad0 : Nat → Nat} {n0 nL : Nat} {Sx : (Nat → Nat) → Prop} {Qm : State → Prop} {j : Nat}
  (hx : p.tables.exec = Jvm.exec) (hb : c.code = bC j) (hml : c.maxLocals = nL) (hnL : nL = mL j) (hown : s.vm.findClass (ownO j) = some m.cls) (hts : ∀ w ∈ GG, w.before args s = true)
  {C : Cal} {SX : Option (Nat × (Nat → Int32))} {mxc mxs : Nat} {hn : Nat → String → Option Nat} {Rt : Option Value → Wd → Nat → Nat → Prop} {Th : String → Wd → Nat → Nat → Prop} {ins : Instr} {nx : Nat} {aux : List Nat} {kc : Int32} {kl : Int64} {pc : Nat} {ls : List (Nat × Value)} {st : List Value} {w : Wd} {nc ns : Nat}
  (hs : isS ins = true) (hrow : okRow j pc (ins, nx, aux, kc, kl) = true) (h : stepI C mjT kO nA SX mxc mxs hn Rt Th ins nx aux kc kl pc ls st w nc ns (MW p l e R s m args below meth c D K A ad0 n0 nL Sx Qm)) : MW p l e R s m args below meth c D K A ad0 n0 nL Sx Qm (pc, ls, st, w, nc, ns) := by
  cases ins with
  | iconst n => 
    have h : MW p l e R s m args below meth c D K A ad0 n0 nL Sx Qm (nx, ls, .int kc :: st, w, nc, ns) := h
    simp only [okRow, dOk, Bool.and_eq_true, decide_eq_true_eq] at hrow
    obtain ⟨⟨hd, rfl⟩, hk⟩ := hrow
    intro ad H locs lsx hW hS hag hn0 hsx hl
    obtain ⟨hP, hD, hwf⟩ := hW
    exact lv_iconst hx hb hd hk (h ad H locs lsx ⟨hP, hD, hwf⟩ hS hag hn0 hsx hl)
  | bipush n => 
    have h : MW p l e R s m args below meth c D K A ad0 n0 nL Sx Qm (nx, ls, .int kc :: st, w, nc, ns) := h
    simp only [okRow, dOk, Bool.and_eq_true, decide_eq_true_eq] at hrow
    obtain ⟨⟨hd, rfl⟩, hk⟩ := hrow
    intro ad H locs lsx hW hS hag hn0 hsx hl
    obtain ⟨hP, hD, hwf⟩ := hW
    exact lv_bipush hx hb hd hk (h ad H locs lsx ⟨hP, hD, hwf⟩ hS hag hn0 hsx hl)
  | sipush n => 
    have h : MW p l e R s m args below meth c D K A ad0 n0 nL Sx Qm (nx, ls, .int kc :: st, w, nc, ns) := h
    simp only [okRow, dOk, Bool.and_eq_true, decide_eq_true_eq] at hrow
    obtain ⟨⟨hd, rfl⟩, hk⟩ := hrow
    intro ad H locs lsx hW hS hag hn0 hsx hl
    obtain ⟨hP, hD, hwf⟩ := hW
    exact lv_sipush hx hb hd hk (h ad H locs lsx ⟨hP, hD, hwf⟩ hS hag hn0 hsx hl)
  | lconst n => 
    have h : MW p l e R s m args below meth c D K A ad0 n0 nL Sx Qm (nx, ls, .long kl :: st, w, nc, ns) := h
    simp only [okRow, dOk, Bool.and_eq_true, decide_eq_true_eq] at hrow
    obtain ⟨⟨hd, rfl⟩, hk⟩ := hrow
    intro ad H locs lsx hW hS hag hn0 hsx hl
    obtain ⟨hP, hD, hwf⟩ := hW
    exact lv_lconst hx hb hd hk (h ad H locs lsx ⟨hP, hD, hwf⟩ hS hag hn0 hsx hl)
  | ldc n => 
    have h : MW p l e R s m args below meth c D K A ad0 n0 nL Sx Qm (nx, ls, .int kc :: st, w, nc, ns) := h
    simp only [okRow, dOk, Bool.and_eq_true, decide_eq_true_eq] at hrow
    obtain ⟨⟨hd, rfl⟩, hk⟩ := hrow
    split at hk
    · intro ad H locs lsx hW hS hag hn0 hsx hl
      obtain ⟨hP, hD, hwf⟩ := hW
      exact lv_ldc hx hb hown (hts _ (wAt_in hk)) hd (h ad H locs lsx ⟨hP, hD, hwf⟩ hS hag hn0 hsx hl)
    · exact absurd hk (by simp)
  | ldc_w n => 
    have h : MW p l e R s m args below meth c D K A ad0 n0 nL Sx Qm (nx, ls, .int kc :: st, w, nc, ns) := h
    simp only [okRow, dOk, Bool.and_eq_true, decide_eq_true_eq] at hrow
    obtain ⟨⟨hd, rfl⟩, hk⟩ := hrow
    split at hk
    · intro ad H locs lsx hW hS hag hn0 hsx hl
      obtain ⟨hP, hD, hwf⟩ := hW
      exact lv_ldcw hx hb hown (hts _ (wAt_in hk)) hd (h ad H locs lsx ⟨hP, hD, hwf⟩ hS hag hn0 hsx hl)
    · exact absurd hk (by simp)
  | ldc2_w n => 
    have h : MW p l e R s m args below meth c D K A ad0 n0 nL Sx Qm (nx, ls, .long kl :: st, w, nc, ns) := h
    simp only [okRow, dOk, Bool.and_eq_true, decide_eq_true_eq] at hrow
    obtain ⟨⟨hd, rfl⟩, hk⟩ := hrow
    split at hk
    · intro ad H locs lsx hW hS hag hn0 hsx hl
      obtain ⟨hP, hD, hwf⟩ := hW
      exact lv_ldc2 hx hb hown (hts _ (wAt_in hk)) hd (h ad H locs lsx ⟨hP, hD, hwf⟩ hS hag hn0 hsx hl)
    · exact absurd hk (by simp)
  | iload_n k => 
    obtain ⟨i, x, rfl, hlk, h9⟩ := gI_s (F := fun _ x => MW p l e R s m args below meth c D K A ad0 n0 nL Sx Qm (nx, ls, .int x :: st, w, nc, ns)) h
    simp only [okRow, dOk, Bool.and_eq_true, decide_eq_true_eq] at hrow
    obtain ⟨⟨hd, rfl⟩, hk⟩ := hrow
    intro ad H locs lsx hW hS hag hn0 hsx hl
    obtain ⟨hP, hD, hwf⟩ := hW
    exact lv_iload_n hx hb hd (List.cons.inj hk).1.symm (lv_lkp hl hlk) (h9 ad H locs lsx ⟨hP, hD, hwf⟩ hS hag hn0 hsx hl)
  | iload k => 
    obtain ⟨i, x, rfl, hlk, h9⟩ := gI_s (F := fun _ x => MW p l e R s m args below meth c D K A ad0 n0 nL Sx Qm (nx, ls, .int x :: st, w, nc, ns)) h
    simp only [okRow, dOk, Bool.and_eq_true, decide_eq_true_eq] at hrow
    obtain ⟨⟨hd, rfl⟩, hk⟩ := hrow
    have hk := (List.cons.inj hk).1
    subst hk
    intro ad H locs lsx hW hS hag hn0 hsx hl
    obtain ⟨hP, hD, hwf⟩ := hW
    exact lv_iload hx hb hd (lv_lkp hl hlk) (h9 ad H locs lsx ⟨hP, hD, hwf⟩ hS hag hn0 hsx hl)
  | lload_n k => 
    obtain ⟨i, x, rfl, hlk, h9⟩ := gL_s (F := fun _ x => MW p l e R s m args below meth c D K A ad0 n0 nL Sx Qm (nx, ls, .long x :: st, w, nc, ns)) h
    simp only [okRow, dOk, Bool.and_eq_true, decide_eq_true_eq] at hrow
    obtain ⟨⟨hd, rfl⟩, hk⟩ := hrow
    intro ad H locs lsx hW hS hag hn0 hsx hl
    obtain ⟨hP, hD, hwf⟩ := hW
    exact lv_lload_n hx hb hd (List.cons.inj hk).1.symm (lv_lkp hl hlk) (h9 ad H locs lsx ⟨hP, hD, hwf⟩ hS hag hn0 hsx hl)
  | lload k => 
    obtain ⟨i, x, rfl, hlk, h9⟩ := gL_s (F := fun _ x => MW p l e R s m args below meth c D K A ad0 n0 nL Sx Qm (nx, ls, .long x :: st, w, nc, ns)) h
    simp only [okRow, dOk, Bool.and_eq_true, decide_eq_true_eq] at hrow
    obtain ⟨⟨hd, rfl⟩, hk⟩ := hrow
    have hk := (List.cons.inj hk).1
    subst hk
    intro ad H locs lsx hW hS hag hn0 hsx hl
    obtain ⟨hP, hD, hwf⟩ := hW
    exact lv_lload hx hb hd (lv_lkp hl hlk) (h9 ad H locs lsx ⟨hP, hD, hwf⟩ hS hag hn0 hsx hl)
  | aload_n k => 
    obtain ⟨i, x, rfl, hlk, h9⟩ := gR_s (F := fun _ x => MW p l e R s m args below meth c D K A ad0 n0 nL Sx Qm (nx, ls, .ref x :: st, w, nc, ns)) h
    simp only [okRow, dOk, Bool.and_eq_true, decide_eq_true_eq] at hrow
    obtain ⟨⟨hd, rfl⟩, hk⟩ := hrow
    intro ad H locs lsx hW hS hag hn0 hsx hl
    obtain ⟨hP, hD, hwf⟩ := hW
    have h1 := h9 ad H locs lsx ⟨hP, hD, hwf⟩ hS hag hn0 hsx hl
    have h2 := lv_lkp hl hlk
    cases x with
    | zero => exact lv_aload_nN hx hb hd (List.cons.inj hk).1.symm h2 h1
    | succ x => exact lv_aload_n hx hb hd (List.cons.inj hk).1.symm h2 h1
  | aload k => 
    obtain ⟨i, x, rfl, hlk, h9⟩ := gR_s (F := fun _ x => MW p l e R s m args below meth c D K A ad0 n0 nL Sx Qm (nx, ls, .ref x :: st, w, nc, ns)) h
    simp only [okRow, dOk, Bool.and_eq_true, decide_eq_true_eq] at hrow
    obtain ⟨⟨hd, rfl⟩, hk⟩ := hrow
    have hk := (List.cons.inj hk).1
    subst hk
    intro ad H locs lsx hW hS hag hn0 hsx hl
    obtain ⟨hP, hD, hwf⟩ := hW
    have h1 := h9 ad H locs lsx ⟨hP, hD, hwf⟩ hS hag hn0 hsx hl
    have h2 := lv_lkp hl hlk
    cases x with
    | zero => exact lv_aloadN hx hb hd h2 h1
    | succ x => exact lv_aload hx hb hd h2 h1
  | istore_n k => 
    obtain ⟨i, rfl, h⟩ := a1_s (F := fun i => pI st (fun x r => MW p l e R s m args below meth c D K A ad0 n0 nL Sx Qm (nx, stI i (.int x) ls, r, w, nc, ns))) h
    obtain ⟨x, r, rfl, h⟩ := pI_s h
    simp only [okRow, dOk, Bool.and_eq_true, decide_eq_true_eq] at hrow
    obtain ⟨⟨hd, rfl⟩, hk, hlt⟩ := hrow
    have hk := (List.cons.inj hk).1
    subst hk
    intro ad H locs lsx hW hS hag hn0 hsx hl
    obtain ⟨hP, hD, hwf⟩ := hW
    exact lv_istore_n hx hb hd rfl hl (by rw [hnL]; exact hlt) (cvl_stI ad _ (.int x) ls) (fun lsy hly => h ad H locs lsy ⟨hP, hD, hwf⟩ hS hag hn0 hsx hly)
  | istore k => 
    obtain ⟨i, rfl, h⟩ := a1_s (F := fun i => pI st (fun x r => MW p l e R s m args below meth c D K A ad0 n0 nL Sx Qm (nx, stI i (.int x) ls, r, w, nc, ns))) h
    obtain ⟨x, r, rfl, h⟩ := pI_s h
    simp only [okRow, dOk, Bool.and_eq_true, decide_eq_true_eq] at hrow
    obtain ⟨⟨hd, rfl⟩, hk, hlt⟩ := hrow
    have hk := (List.cons.inj hk).1
    subst hk
    intro ad H locs lsx hW hS hag hn0 hsx hl
    obtain ⟨hP, hD, hwf⟩ := hW
    exact lv_istore hx hb hd hl (by rw [hnL]; exact hlt) (cvl_stI ad _ (.int x) ls) (fun lsy hly => h ad H locs lsy ⟨hP, hD, hwf⟩ hS hag hn0 hsx hly)
  | lstore_n k => 
    obtain ⟨i, rfl, h⟩ := a1_s (F := fun i => pL st (fun x r => MW p l e R s m args below meth c D K A ad0 n0 nL Sx Qm (nx, stL i (.long x) ls, r, w, nc, ns))) h
    obtain ⟨x, r, rfl, h⟩ := pL_s h
    simp only [okRow, dOk, Bool.and_eq_true, decide_eq_true_eq] at hrow
    obtain ⟨⟨hd, rfl⟩, hk, hlt⟩ := hrow
    have hk := (List.cons.inj hk).1
    subst hk
    intro ad H locs lsx hW hS hag hn0 hsx hl
    obtain ⟨hP, hD, hwf⟩ := hW
    exact lv_lstore_n hx hb hd rfl hl (by rw [hnL]; exact hlt) (cvl_stL ad _ (.long x) ls) (fun lsy hly => h ad H locs lsy ⟨hP, hD, hwf⟩ hS hag hn0 hsx hly)
  | lstore k => 
    obtain ⟨i, rfl, h⟩ := a1_s (F := fun i => pL st (fun x r => MW p l e R s m args below meth c D K A ad0 n0 nL Sx Qm (nx, stL i (.long x) ls, r, w, nc, ns))) h
    obtain ⟨x, r, rfl, h⟩ := pL_s h
    simp only [okRow, dOk, Bool.and_eq_true, decide_eq_true_eq] at hrow
    obtain ⟨⟨hd, rfl⟩, hk, hlt⟩ := hrow
    have hk := (List.cons.inj hk).1
    subst hk
    intro ad H locs lsx hW hS hag hn0 hsx hl
    obtain ⟨hP, hD, hwf⟩ := hW
    exact lv_lstore hx hb hd hl (by rw [hnL]; exact hlt) (cvl_stL ad _ (.long x) ls) (fun lsy hly => h ad H locs lsy ⟨hP, hD, hwf⟩ hS hag hn0 hsx hly)
  | astore_n k => 
    obtain ⟨i, rfl, h⟩ := a1_s (F := fun i => pR st (fun x r => MW p l e R s m args below meth c D K A ad0 n0 nL Sx Qm (nx, stI i (.ref x) ls, r, w, nc, ns))) h
    obtain ⟨x, r, rfl, h⟩ := pR_s h
    simp only [okRow, dOk, Bool.and_eq_true, decide_eq_true_eq] at hrow
    obtain ⟨⟨hd, rfl⟩, hk, hlt⟩ := hrow
    have hk := (List.cons.inj hk).1
    subst hk
    intro ad H locs lsx hW hS hag hn0 hsx hl
    obtain ⟨hP, hD, hwf⟩ := hW
    cases x with
    | zero => exact lv_astore_nN hx hb hd rfl hl (by rw [hnL]; exact hlt) (cvl_stI ad _ (.ref 0) ls) (fun lsy hly => h ad H locs lsy ⟨hP, hD, hwf⟩ hS hag hn0 hsx hly)
    | succ x => exact lv_astore_n hx hb hd rfl hl (by rw [hnL]; exact hlt) (cvl_stI ad _ (.ref (x + 1)) ls) (fun lsy hly => h ad H locs lsy ⟨hP, hD, hwf⟩ hS hag hn0 hsx hly)
  | astore k => 
    obtain ⟨i, rfl, h⟩ := a1_s (F := fun i => pR st (fun x r => MW p l e R s m args below meth c D K A ad0 n0 nL Sx Qm (nx, stI i (.ref x) ls, r, w, nc, ns))) h
    obtain ⟨x, r, rfl, h⟩ := pR_s h
    simp only [okRow, dOk, Bool.and_eq_true, decide_eq_true_eq] at hrow
    obtain ⟨⟨hd, rfl⟩, hk, hlt⟩ := hrow
    have hk := (List.cons.inj hk).1
    subst hk
    intro ad H locs lsx hW hS hag hn0 hsx hl
    obtain ⟨hP, hD, hwf⟩ := hW
    cases x with
    | zero => exact lv_astoreN hx hb hd hl (by rw [hnL]; exact hlt) (cvl_stI ad _ (.ref 0) ls) (fun lsy hly => h ad H locs lsy ⟨hP, hD, hwf⟩ hS hag hn0 hsx hly)
    | succ x => exact lv_astore hx hb hd hl (by rw [hnL]; exact hlt) (cvl_stI ad _ (.ref (x + 1)) ls) (fun lsy hly => h ad H locs lsy ⟨hP, hD, hwf⟩ hS hag hn0 hsx hly)
  | iinc i0 n => 
    obtain ⟨i, x, rfl, hlk, h9⟩ := gI_s (F := fun i x => MW p l e R s m args below meth c D K A ad0 n0 nL Sx Qm (nx, stI i (.int (x + kc)) ls, st, w, nc, ns)) h
    simp only [okRow, dOk, Bool.and_eq_true, decide_eq_true_eq] at hrow
    obtain ⟨⟨hd, rfl⟩, hk, hkc, hlt⟩ := hrow
    have hk := (List.cons.inj hk).1
    subst hk
    intro ad H locs lsx hW hS hag hn0 hsx hl
    obtain ⟨hP, hD, hwf⟩ := hW
    obtain ⟨q, hq⟩ := lkp_cvl (ad := ad) hlk
    exact lv_iinc hx hb hd hl hq (by rw [hkc]) (by rw [hnL]; exact hlt) (cvl_stI ad _ (.int (x + kc)) ls) (fun lsy hly => h9 ad H locs lsy ⟨hP, hD, hwf⟩ hS hag hn0 hsx hly)
  | iadd  => 
    obtain ⟨y, r1, rfl, h⟩ := pI_s (F := fun y r1 => pI r1 (fun x r => MW p l e R s m args below meth c D K A ad0 n0 nL Sx Qm (nx, ls, .int (x + y) :: r, w, nc, ns))) h
    obtain ⟨x, r, rfl, h⟩ := pI_s h
    simp only [okRow, dOk, Bool.and_eq_true, decide_eq_true_eq] at hrow
    obtain ⟨hd, rfl⟩ := hrow
    intro ad H locs lsx hW hS hag hn0 hsx hl
    obtain ⟨hP, hD, hwf⟩ := hW
    exact lv_iadd hx hb hd (h ad H locs lsx ⟨hP, hD, hwf⟩ hS hag hn0 hsx hl)
  | isub  => 
    obtain ⟨y, r1, rfl, h⟩ := pI_s (F := fun y r1 => pI r1 (fun x r => MW p l e R s m args below meth c D K A ad0 n0 nL Sx Qm (nx, ls, .int (x - y) :: r, w, nc, ns))) h
    obtain ⟨x, r, rfl, h⟩ := pI_s h
    simp only [okRow, dOk, Bool.and_eq_true, decide_eq_true_eq] at hrow
    obtain ⟨hd, rfl⟩ := hrow
    intro ad H locs lsx hW hS hag hn0 hsx hl
    obtain ⟨hP, hD, hwf⟩ := hW
    exact lv_isub hx hb hd (h ad H locs lsx ⟨hP, hD, hwf⟩ hS hag hn0 hsx hl)
  | imul  => 
    obtain ⟨y, r1, rfl, h⟩ := pI_s (F := fun y r1 => pI r1 (fun x r => MW p l e R s m args below meth c D K A ad0 n0 nL Sx Qm (nx, ls, .int (x * y) :: r, w, nc, ns))) h
    obtain ⟨x, r, rfl, h⟩ := pI_s h
    simp only [okRow, dOk, Bool.and_eq_true, decide_eq_true_eq] at hrow
    obtain ⟨hd, rfl⟩ := hrow
    intro ad H locs lsx hW hS hag hn0 hsx hl
    obtain ⟨hP, hD, hwf⟩ := hW
    exact lv_imul hx hb hd (h ad H locs lsx ⟨hP, hD, hwf⟩ hS hag hn0 hsx hl)
  | ishr  => 
    obtain ⟨y, r1, rfl, h⟩ := pI_s (F := fun y r1 => pI r1 (fun x r => MW p l e R s m args below meth c D K A ad0 n0 nL Sx Qm (nx, ls, .int (x >>> (y &&& 31)) :: r, w, nc, ns))) h
    obtain ⟨x, r, rfl, h⟩ := pI_s h
    simp only [okRow, dOk, Bool.and_eq_true, decide_eq_true_eq] at hrow
    obtain ⟨hd, rfl⟩ := hrow
    intro ad H locs lsx hW hS hag hn0 hsx hl
    obtain ⟨hP, hD, hwf⟩ := hW
    exact lv_ishr hx hb hd (h ad H locs lsx ⟨hP, hD, hwf⟩ hS hag hn0 hsx hl)
  | iand  => 
    obtain ⟨y, r1, rfl, h⟩ := pI_s (F := fun y r1 => pI r1 (fun x r => MW p l e R s m args below meth c D K A ad0 n0 nL Sx Qm (nx, ls, .int (x &&& y) :: r, w, nc, ns))) h
    obtain ⟨x, r, rfl, h⟩ := pI_s h
    simp only [okRow, dOk, Bool.and_eq_true, decide_eq_true_eq] at hrow
    obtain ⟨hd, rfl⟩ := hrow
    intro ad H locs lsx hW hS hag hn0 hsx hl
    obtain ⟨hP, hD, hwf⟩ := hW
    exact lv_iand hx hb hd (h ad H locs lsx ⟨hP, hD, hwf⟩ hS hag hn0 hsx hl)
  | idiv  => 
    obtain ⟨y, r1, rfl, h⟩ := pI_s (F := fun y r1 => pI r1 (fun x r => (¬ y = 0) ∧ MW p l e R s m args below meth c D K A ad0 n0 nL Sx Qm (nx, ls, .int (x / y) :: r, w, nc, ns))) h
    obtain ⟨x, r, rfl, h⟩ := pI_s h
    obtain ⟨hne, h⟩ := h
    simp only [okRow, dOk, Bool.and_eq_true, decide_eq_true_eq] at hrow
    obtain ⟨hd, rfl⟩ := hrow
    intro ad H locs lsx hW hS hag hn0 hsx hl
    obtain ⟨hP, hD, hwf⟩ := hW
    exact lv_idiv hx hb hd hne (h ad H locs lsx ⟨hP, hD, hwf⟩ hS hag hn0 hsx hl)
  | irem  => 
    obtain ⟨y, r1, rfl, h⟩ := pI_s (F := fun y r1 => pI r1 (fun x r => (¬ y = 0) ∧ MW p l e R s m args below meth c D K A ad0 n0 nL Sx Qm (nx, ls, .int (x - x / y * y) :: r, w, nc, ns))) h
    obtain ⟨x, r, rfl, h⟩ := pI_s h
    obtain ⟨hne, h⟩ := h
    simp only [okRow, dOk, Bool.and_eq_true, decide_eq_true_eq] at hrow
    obtain ⟨hd, rfl⟩ := hrow
    intro ad H locs lsx hW hS hag hn0 hsx hl
    obtain ⟨hP, hD, hwf⟩ := hW
    exact lv_irem hx hb hd hne (h ad H locs lsx ⟨hP, hD, hwf⟩ hS hag hn0 hsx hl)
  | ladd  => 
    obtain ⟨y, r1, rfl, h⟩ := pL_s (F := fun y r1 => pL r1 (fun x r => MW p l e R s m args below meth c D K A ad0 n0 nL Sx Qm (nx, ls, .long (x + y) :: r, w, nc, ns))) h
    obtain ⟨x, r, rfl, h⟩ := pL_s h
    simp only [okRow, dOk, Bool.and_eq_true, decide_eq_true_eq] at hrow
    obtain ⟨hd, rfl⟩ := hrow
    intro ad H locs lsx hW hS hag hn0 hsx hl
    obtain ⟨hP, hD, hwf⟩ := hW
    exact lv_ladd hx hb hd (h ad H locs lsx ⟨hP, hD, hwf⟩ hS hag hn0 hsx hl)
  | lsub  => 
    obtain ⟨y, r1, rfl, h⟩ := pL_s (F := fun y r1 => pL r1 (fun x r => MW p l e R s m args below meth c D K A ad0 n0 nL Sx Qm (nx, ls, .long (x - y) :: r, w, nc, ns))) h
    obtain ⟨x, r, rfl, h⟩ := pL_s h
    simp only [okRow, dOk, Bool.and_eq_true, decide_eq_true_eq] at hrow
    obtain ⟨hd, rfl⟩ := hrow
    intro ad H locs lsx hW hS hag hn0 hsx hl
    obtain ⟨hP, hD, hwf⟩ := hW
    exact lv_lsub hx hb hd (h ad H locs lsx ⟨hP, hD, hwf⟩ hS hag hn0 hsx hl)
  | lmul  => 
    obtain ⟨y, r1, rfl, h⟩ := pL_s (F := fun y r1 => pL r1 (fun x r => MW p l e R s m args below meth c D K A ad0 n0 nL Sx Qm (nx, ls, .long (x * y) :: r, w, nc, ns))) h
    obtain ⟨x, r, rfl, h⟩ := pL_s h
    simp only [okRow, dOk, Bool.and_eq_true, decide_eq_true_eq] at hrow
    obtain ⟨hd, rfl⟩ := hrow
    intro ad H locs lsx hW hS hag hn0 hsx hl
    obtain ⟨hP, hD, hwf⟩ := hW
    exact lv_lmul hx hb hd (h ad H locs lsx ⟨hP, hD, hwf⟩ hS hag hn0 hsx hl)
  | land  => 
    obtain ⟨y, r1, rfl, h⟩ := pL_s (F := fun y r1 => pL r1 (fun x r => MW p l e R s m args below meth c D K A ad0 n0 nL Sx Qm (nx, ls, .long (x &&& y) :: r, w, nc, ns))) h
    obtain ⟨x, r, rfl, h⟩ := pL_s h
    simp only [okRow, dOk, Bool.and_eq_true, decide_eq_true_eq] at hrow
    obtain ⟨hd, rfl⟩ := hrow
    intro ad H locs lsx hW hS hag hn0 hsx hl
    obtain ⟨hP, hD, hwf⟩ := hW
    exact lv_land hx hb hd (h ad H locs lsx ⟨hP, hD, hwf⟩ hS hag hn0 hsx hl)
  | lor  => 
    obtain ⟨y, r1, rfl, h⟩ := pL_s (F := fun y r1 => pL r1 (fun x r => MW p l e R s m args below meth c D K A ad0 n0 nL Sx Qm (nx, ls, .long (x ||| y) :: r, w, nc, ns))) h
    obtain ⟨x, r, rfl, h⟩ := pL_s h
    simp only [okRow, dOk, Bool.and_eq_true, decide_eq_true_eq] at hrow
    obtain ⟨hd, rfl⟩ := hrow
    intro ad H locs lsx hW hS hag hn0 hsx hl
    obtain ⟨hP, hD, hwf⟩ := hW
    exact lv_lor hx hb hd (h ad H locs lsx ⟨hP, hD, hwf⟩ hS hag hn0 hsx hl)
  | ldiv  => 
    obtain ⟨y, r1, rfl, h⟩ := pL_s (F := fun y r1 => pL r1 (fun x r => (¬ y = 0) ∧ MW p l e R s m args below meth c D K A ad0 n0 nL Sx Qm (nx, ls, .long (x / y) :: r, w, nc, ns))) h
    obtain ⟨x, r, rfl, h⟩ := pL_s h
    obtain ⟨hne, h⟩ := h
    simp only [okRow, dOk, Bool.and_eq_true, decide_eq_true_eq] at hrow
    obtain ⟨hd, rfl⟩ := hrow
    intro ad H locs lsx hW hS hag hn0 hsx hl
    obtain ⟨hP, hD, hwf⟩ := hW
    exact lv_ldiv hx hb hd hne (h ad H locs lsx ⟨hP, hD, hwf⟩ hS hag hn0 hsx hl)
  | lrem  => 
    obtain ⟨y, r1, rfl, h⟩ := pL_s (F := fun y r1 => pL r1 (fun x r => (¬ y = 0) ∧ MW p l e R s m args below meth c D K A ad0 n0 nL Sx Qm (nx, ls, .long (x - x / y * y) :: r, w, nc, ns))) h
    obtain ⟨x, r, rfl, h⟩ := pL_s h
    obtain ⟨hne, h⟩ := h
    simp only [okRow, dOk, Bool.and_eq_true, decide_eq_true_eq] at hrow
    obtain ⟨hd, rfl⟩ := hrow
    intro ad H locs lsx hW hS hag hn0 hsx hl
    obtain ⟨hP, hD, hwf⟩ := hW
    exact lv_lrem hx hb hd hne (h ad H locs lsx ⟨hP, hD, hwf⟩ hS hag hn0 hsx hl)
  | lushr  => 
    obtain ⟨y, r1, rfl, h⟩ := pI_s (F := fun y r1 => pL r1 (fun x r => MW p l e R s m args below meth c D K A ad0 n0 nL Sx Qm (nx, ls, .long ((x.toUInt64 >>> (y.toInt64.toUInt64 &&& Int64.toUInt64 63)).toInt64) :: r, w, nc, ns))) h
    obtain ⟨x, r, rfl, h⟩ := pL_s h
    simp only [okRow, dOk, Bool.and_eq_true, decide_eq_true_eq] at hrow
    obtain ⟨hd, rfl⟩ := hrow
    intro ad H locs lsx hW hS hag hn0 hsx hl
    obtain ⟨hP, hD, hwf⟩ := hW
    exact lv_lushr hx hb hd rfl (h ad H locs lsx ⟨hP, hD, hwf⟩ hS hag hn0 hsx hl)
  | lshl  => 
    obtain ⟨y, r1, rfl, h⟩ := pI_s (F := fun y r1 => pL r1 (fun x r => MW p l e R s m args below meth c D K A ad0 n0 nL Sx Qm (nx, ls, .long (x <<< (y.toInt64 &&& 63)) :: r, w, nc, ns))) h
    obtain ⟨x, r, rfl, h⟩ := pL_s h
    simp only [okRow, dOk, Bool.and_eq_true, decide_eq_true_eq] at hrow
    obtain ⟨hd, rfl⟩ := hrow
    intro ad H locs lsx hW hS hag hn0 hsx hl
    obtain ⟨hP, hD, hwf⟩ := hW
    exact lv_lshl hx hb hd rfl (h ad H locs lsx ⟨hP, hD, hwf⟩ hS hag hn0 hsx hl)
  | i2l  => 
    obtain ⟨x, r, rfl, h⟩ := pI_s (F := fun x r => MW p l e R s m args below meth c D K A ad0 n0 nL Sx Qm (nx, ls, .long x.toInt64 :: r, w, nc, ns)) h
    simp only [okRow, dOk, Bool.and_eq_true, decide_eq_true_eq] at hrow
    obtain ⟨hd, rfl⟩ := hrow
    intro ad H locs lsx hW hS hag hn0 hsx hl
    obtain ⟨hP, hD, hwf⟩ := hW
    exact lv_i2l hx hb hd rfl (h ad H locs lsx ⟨hP, hD, hwf⟩ hS hag hn0 hsx hl)
  | l2i  => 
    obtain ⟨x, r, rfl, h⟩ := pL_s (F := fun x r => MW p l e R s m args below meth c D K A ad0 n0 nL Sx Qm (nx, ls, .int x.toInt32 :: r, w, nc, ns)) h
    simp only [okRow, dOk, Bool.and_eq_true, decide_eq_true_eq] at hrow
    obtain ⟨hd, rfl⟩ := hrow
    intro ad H locs lsx hW hS hag hn0 hsx hl
    obtain ⟨hP, hD, hwf⟩ := hW
    exact lv_l2i hx hb hd rfl (h ad H locs lsx ⟨hP, hD, hwf⟩ hS hag hn0 hsx hl)
  | lcmp  => 
    obtain ⟨y, r1, rfl, h⟩ := pL_s (F := fun y r1 => pL r1 (fun x r => MW p l e R s m args below meth c D K A ad0 n0 nL Sx Qm (nx, ls, .int (lg_cmp x y) :: r, w, nc, ns))) h
    obtain ⟨x, r, rfl, h⟩ := pL_s h
    simp only [okRow, dOk, Bool.and_eq_true, decide_eq_true_eq] at hrow
    obtain ⟨hd, rfl⟩ := hrow
    intro ad H locs lsx hW hS hag hn0 hsx hl
    obtain ⟨hP, hD, hwf⟩ := hW
    exact W.lcmp hx hb hd (h ad H locs lsx ⟨hP, hD, hwf⟩ hS hag hn0 hsx hl)
  | dup  => 
    obtain ⟨v, r, rfl, hv, h⟩ := p1_s (F := fun v r => MW p l e R s m args below meth c D K A ad0 n0 nL Sx Qm (nx, ls, v :: v :: r, w, nc, ns)) h
    simp only [okRow, dOk, Bool.and_eq_true, decide_eq_true_eq] at hrow
    obtain ⟨hd, rfl⟩ := hrow
    intro ad H locs lsx hW hS hag hn0 hsx hl
    obtain ⟨hP, hD, hwf⟩ := hW
    exact lv_dup hx hb hd ((cv_cat ad v).trans hv) (h ad H locs lsx ⟨hP, hD, hwf⟩ hS hag hn0 hsx hl)
  | dup2  => 
    obtain ⟨v, r1, rfl, hv, h⟩ := p1_s (F := fun v r1 => p1 r1 (fun u r => MW p l e R s m args below meth c D K A ad0 n0 nL Sx Qm (nx, ls, v :: u :: v :: u :: r, w, nc, ns))) h
    obtain ⟨u, r, rfl, hu, h⟩ := p1_s h
    simp only [okRow, dOk, Bool.and_eq_true, decide_eq_true_eq] at hrow
    obtain ⟨hd, rfl⟩ := hrow
    intro ad H locs lsx hW hS hag hn0 hsx hl
    obtain ⟨hP, hD, hwf⟩ := hW
    exact lv_dup2_11 hx hb hd ((cv_cat ad v).trans hv) ((cv_cat ad u).trans hu) (h ad H locs lsx ⟨hP, hD, hwf⟩ hS hag hn0 hsx hl)
  | pop  => 
    obtain ⟨v, r, rfl, hv, h⟩ := p1_s (F := fun _ r => MW p l e R s m args below meth c D K A ad0 n0 nL Sx Qm (nx, ls, r, w, nc, ns)) h
    simp only [okRow, dOk, Bool.and_eq_true, decide_eq_true_eq] at hrow
    obtain ⟨hd, rfl⟩ := hrow
    intro ad H locs lsx hW hS hag hn0 hsx hl
    obtain ⟨hP, hD, hwf⟩ := hW
    exact lv_pop hx hb hd ((cv_cat ad v).trans hv) (h ad H locs lsx ⟨hP, hD, hwf⟩ hS hag hn0 hsx hl)
  | ifCond o off => 
    obtain ⟨t, rfl, h⟩ := a1_s (F := fun t => pI st (fun x r => brE o x 0 (MW p l e R s m args below meth c D K A ad0 n0 nL Sx Qm (t, ls, r, w, nc, ns)) (MW p l e R s m args below meth c D K A ad0 n0 nL Sx Qm (nx, ls, r, w, nc, ns)))) h
    obtain ⟨x, r, rfl, h⟩ := pI_s h
    simp only [okRow, dOk, Bool.and_eq_true, decide_eq_true_eq] at hrow
    obtain ⟨⟨hd, rfl⟩, ht⟩ := hrow
    simp only [tOk, decide_eq_true_eq] at ht
    intro ad H locs lsx hW hS hag hn0 hsx hl
    obtain ⟨hP, hD, hwf⟩ := hW
    cases o with
    | eq => exact lv_if_eq hx hb hd ht (fun q => h.1 q ad H locs lsx ⟨hP, hD, hwf⟩ hS hag hn0 hsx hl) (fun q => h.2 q ad H locs lsx ⟨hP, hD, hwf⟩ hS hag hn0 hsx hl)
    | ne => exact lv_if_ne hx hb hd ht (fun q => h.1 q ad H locs lsx ⟨hP, hD, hwf⟩ hS hag hn0 hsx hl) (fun q => h.2 q ad H locs lsx ⟨hP, hD, hwf⟩ hS hag hn0 hsx hl)
    | lt => exact lv_if_lt hx hb hd ht (fun q => h.1 q ad H locs lsx ⟨hP, hD, hwf⟩ hS hag hn0 hsx hl) (fun q => h.2 q ad H locs lsx ⟨hP, hD, hwf⟩ hS hag hn0 hsx hl)
    | ge => exact lv_if_ge hx hb hd ht (fun q => h.1 q ad H locs lsx ⟨hP, hD, hwf⟩ hS hag hn0 hsx hl) (fun q => h.2 q ad H locs lsx ⟨hP, hD, hwf⟩ hS hag hn0 hsx hl)
    | gt => exact lv_if_gt hx hb hd ht (fun q => h.1 q ad H locs lsx ⟨hP, hD, hwf⟩ hS hag hn0 hsx hl) (fun q => h.2 q ad H locs lsx ⟨hP, hD, hwf⟩ hS hag hn0 hsx hl)
    | le => exact lv_if_le hx hb hd ht (fun q => h.1 q ad H locs lsx ⟨hP, hD, hwf⟩ hS hag hn0 hsx hl) (fun q => h.2 q ad H locs lsx ⟨hP, hD, hwf⟩ hS hag hn0 hsx hl)
  | if_icmp o off => 
    obtain ⟨t, rfl, h⟩ := a1_s (F := fun t => pI st (fun y r1 => pI r1 (fun x r => brE o x y (MW p l e R s m args below meth c D K A ad0 n0 nL Sx Qm (t, ls, r, w, nc, ns)) (MW p l e R s m args below meth c D K A ad0 n0 nL Sx Qm (nx, ls, r, w, nc, ns))))) h
    obtain ⟨y, r1, rfl, h⟩ := pI_s h
    obtain ⟨x, r, rfl, h⟩ := pI_s h
    simp only [okRow, dOk, Bool.and_eq_true, decide_eq_true_eq] at hrow
    obtain ⟨⟨hd, rfl⟩, ht⟩ := hrow
    simp only [tOk, decide_eq_true_eq] at ht
    intro ad H locs lsx hW hS hag hn0 hsx hl
    obtain ⟨hP, hD, hwf⟩ := hW
    cases o with
    | eq => exact lv_icmp_eq hx hb hd ht (fun q => h.1 q ad H locs lsx ⟨hP, hD, hwf⟩ hS hag hn0 hsx hl) (fun q => h.2 q ad H locs lsx ⟨hP, hD, hwf⟩ hS hag hn0 hsx hl)
    | ne => exact lv_icmp_ne hx hb hd ht (fun q => h.1 q ad H locs lsx ⟨hP, hD, hwf⟩ hS hag hn0 hsx hl) (fun q => h.2 q ad H locs lsx ⟨hP, hD, hwf⟩ hS hag hn0 hsx hl)
    | lt => exact lv_icmp_lt hx hb hd ht (fun q => h.1 q ad H locs lsx ⟨hP, hD, hwf⟩ hS hag hn0 hsx hl) (fun q => h.2 q ad H locs lsx ⟨hP, hD, hwf⟩ hS hag hn0 hsx hl)
    | ge => exact lv_icmp_ge hx hb hd ht (fun q => h.1 q ad H locs lsx ⟨hP, hD, hwf⟩ hS hag hn0 hsx hl) (fun q => h.2 q ad H locs lsx ⟨hP, hD, hwf⟩ hS hag hn0 hsx hl)
    | gt => exact lv_icmp_gt hx hb hd ht (fun q => h.1 q ad H locs lsx ⟨hP, hD, hwf⟩ hS hag hn0 hsx hl) (fun q => h.2 q ad H locs lsx ⟨hP, hD, hwf⟩ hS hag hn0 hsx hl)
    | le => exact lv_icmp_le hx hb hd ht (fun q => h.1 q ad H locs lsx ⟨hP, hD, hwf⟩ hS hag hn0 hsx hl) (fun q => h.2 q ad H locs lsx ⟨hP, hD, hwf⟩ hS hag hn0 hsx hl)
  | goto off => 
    obtain ⟨t, rfl, h⟩ := a1_s (F := fun t => MW p l e R s m args below meth c D K A ad0 n0 nL Sx Qm (t, ls, st, w, nc, ns)) h
    simp only [okRow, dOk, Bool.and_eq_true, decide_eq_true_eq] at hrow
    obtain ⟨⟨hd, rfl⟩, ht⟩ := hrow
    simp only [tOk, decide_eq_true_eq] at ht
    intro ad H locs lsx hW hS hag hn0 hsx hl
    obtain ⟨hP, hD, hwf⟩ := hW
    exact lv_goto hx hb hd ht (h ad H locs lsx ⟨hP, hD, hwf⟩ hS hag hn0 hsx hl)
  | ifnull off => 
    obtain ⟨t, rfl, h⟩ := a1_s (F := fun t => pR st (fun x r => (x = 0 → MW p l e R s m args below meth c D K A ad0 n0 nL Sx Qm (t, ls, r, w, nc, ns)) ∧ (¬ x = 0 → MW p l e R s m args below meth c D K A ad0 n0 nL Sx Qm (nx, ls, r, w, nc, ns)))) h
    obtain ⟨x, r, rfl, h⟩ := pR_s h
    simp only [okRow, dOk, Bool.and_eq_true, decide_eq_true_eq] at hrow
    obtain ⟨⟨hd, rfl⟩, ht⟩ := hrow
    simp only [tOk, decide_eq_true_eq] at ht
    intro ad H locs lsx hW hS hag hn0 hsx hl
    obtain ⟨hP, hD, hwf⟩ := hW
    cases x with
    | zero => exact lv_ifnullN hx hb hd ht (h.1 rfl ad H locs lsx ⟨hP, hD, hwf⟩ hS hag hn0 hsx hl)
    | succ x => exact lv_ifnull hx hb hd (h.2 (by omega) ad H locs lsx ⟨hP, hD, hwf⟩ hS hag hn0 hsx hl)
  | tableswitch d lo hi offs => 
    obtain ⟨dt, ks, rfl, h⟩ := aC_s (F := fun d ks => pI st (fun x r => swC x ks d (fun t => MW p l e R s m args below meth c D K A ad0 n0 nL Sx Qm (t, ls, r, w, nc, ns)))) h
    obtain ⟨x, r, rfl, h⟩ := pI_s h
    simp only [okRow, dOk, Bool.and_eq_true, decide_eq_true_eq] at hrow
    obtain ⟨hd, hdt, hsw, hhi, hlo, hln⟩ := hrow
    have hq := swT ks lo offs.toList hsw hlo hln h
    intro ad H locs lsx hW hS hag hn0 hsx hl
    obtain ⟨hP, hD, hwf⟩ := hW
    by_cases hout : x.toInt < lo ∨ hi < x.toInt
    · exact lv_tableOut hx hb hd hout hdt (hq.1 (by omega) ad H locs lsx ⟨hP, hD, hwf⟩ hS hag hn0 hsx hl)
    · have hi1 : (x.toInt - lo).toNat < offs.toList.length := by omega
      obtain ⟨t, ht, hX⟩ := hq.2 (x.toInt - lo).toNat (offs.toList[(x.toInt - lo).toNat]) (List.getElem?_eq_getElem hi1) (by omega)
      exact lv_tableIn hx hb hd (fun q => hout (Or.inl q)) (fun q => hout (Or.inr q)) (by rw [← Array.getElem?_toList]; exact List.getElem?_eq_getElem hi1) ht (hX ad H locs lsx ⟨hP, hD, hwf⟩ hS hag hn0 hsx hl)
  | lookupswitch d ps => 
    obtain ⟨dt, ks, rfl, h⟩ := aC_s (F := fun d ks => pI st (fun x r => swC x ks d (fun t => MW p l e R s m args below meth c D K A ad0 n0 nL Sx Qm (t, ls, r, w, nc, ns)))) h
    obtain ⟨x, r, rfl, h⟩ := pI_s h
    simp only [okRow, dOk, Bool.and_eq_true, decide_eq_true_eq] at hrow
    obtain ⟨hd, hdt, hsw, hso⟩ := hrow
    obtain ⟨t, ht, hX⟩ := swL hdt ks ps.toList hsw h
    intro ad H locs lsx hW hS hag hn0 hsx hl
    obtain ⟨hP, hD, hwf⟩ := hW
    exact lv_lookup hx hb hd hso rfl ht (hX ad H locs lsx ⟨hP, hD, hwf⟩ hS hag hn0 hsx hl)
  | _ => exact absurd hs (by simp [isS])
