/-! THE LAW'S DRAWING: the one method beside the law that reads the script -/
def SD (xs : Nat → Int32) (L : Nat) (Q : Res → Wd → Prop) : SF := stepF (nzT 97) cd97 (fun _ _ _ _ => False) mjT kO nA (some (L, xs)) (mjT 97).1 (mjT 97).2 (fun _ _ => none) (RtJ 97 Q) (fun _ _ _ _ => False)
set_option maxHeartbeats 1000000 in
theorem draw_ee {xs : Nat → Int32} {L : Nat} {k : Int32} {w : Wd} {Q : Res → Wd → Prop} (hL : L < 2147483648) (hk : ¬ k < 0) (h : Q (.inl (some (.int (drV xs L k)))) w) : EE (SD xs L Q) (0, [(0, .ref 1000001), (1, .int k)], [], w, 0, 0) := by
  refine EE.runN (stop := noStop) 20 _ ?_
  refine ⟨fun h1 => ?_, fun h1 => ?_⟩
  · refine ⟨⟨Nat.zero_le _, Nat.zero_le _⟩, ?_⟩
    have e : drV xs L k = (15593239 * k + 10343) &&& 2147483647 := by unfold drV; rw [if_pos h1]
    rw [e] at h
    exact h
  · refine ⟨vpC hk h1 hL, ?_⟩
    refine ⟨⟨Nat.zero_le _, Nat.zero_le _⟩, ?_⟩
    have e : drV xs L k = xs k.toNatClampNeg &&& 2147483647 := by unfold drV; rw [if_neg h1]
    rw [e] at h
    exact h
theorem cd97_noC : (cd97.all (fun q => !isC q.2.1)) = true := by decide
def PcD (D : va_G) (K : Nat → ClassId) (ad : Nat → Nat) (sz : Nat) (k : Int32) (w : Wd) (b L : Nat) (xs : Nat → Int32) (a : Array Value) (U : State) : Prop := PcO D K ad sz [.ref 1000001, .int k] w a U ∧ va_X b L xs U U.heap ∧ b < sz ∧ ¬ va_A (wsW K ad w) sz b ∧ ad 1000001 = b
theorem PcD.blind (D : va_G) (K : Nat → ClassId) (ad : Nat → Nat) (sz : Nat) (k : Int32) (w : Wd) (b L : Nat) (xs : Nat → Int32) : FrameBlind (PcD D K ad sz k w b L xs) := by
  intro a U g mk q
  obtain ⟨q0, q1, q2, q3, q4⟩ := q
  exact ⟨PcO.blind D K ad sz _ w a U g mk q0, va_X.moved (u := U) (U := U.calling g mk a) (Vm.Alike.refl U.vm) q1, q2, q3, q4⟩
set_option maxHeartbeats 4000000 in
theorem draw_sound (l : Launch) {xs : Nat → Int32} {L : Nat} {k : Int32} {w : Wd} {Q : Res → Wd → Prop} (hL : L < 2147483648) (hk : ¬ k < 0) (h : Q (.inl (some (.int (drV xs L k)))) w) (D : va_G) (K : Nat → ClassId) (ad : Nat → Nat) (sz b : Nat) : vx_Met l (yN 97) (hdW 97 :: GG) (rmO 1 97) (PcD D K ad sz k w b L xs) (QcO (rT 97) D K (va_A (wsW K ad w) sz) ad w Q) (XcO D K (va_A (wsW K ad w) sz) ad w Q) (mjT 97).1 (mjT 97).2 (va_A (wsW K ad w) sz) := by
  refine vx_ofW (cc := bC 97) (maxL := mL 97) (ret := rT 97) (by decide +kernel) (by rw [hdW_code (j := 97) rfl]) (fun p e s m args below meth c s₁ B hml hno hpc => ?_)
  obtain ⟨⟨rfl, hsz, hP, hD0, hwf, hK, hT, hZ⟩, hX, hbs, hbA, hadb⟩ := hpc
  subst hsz
  have hx := B.exec
  have hb := B.bytes
  have hr := B.returns
  have hlocks := B.notSynchronized
  have hown : s.vm.findClass (ownO 97) = some m.cls := findClass_of_methodNamed B.named
  have hts0 := atoms_spec (ws := hdW 97 :: GG) B.pre
  have hts : ∀ w ∈ GG, w.before ([Value.ref 1000001, Value.int k].map (cv ad)).toArray s = true := fun w h => hts0 w (List.mem_cons_of_mem _ h)
  have hD := hD0.self (sz := s.heap.size)
  have hA : ∀ q : Nat, s.heap.size ≤ q → va_A (wsW K ad w) s.heap.size q := fun q h => Or.inr h
  have key : MW p l e (rmO 1 97) s m ([Value.ref 1000001, Value.int k].map (cv ad)).toArray below meth c D K (va_A (wsW K ad w) s.heap.size) ad w.1.1 (mL 97) (fun ad' => ad' 1000001 = b) (vx_MQ below (QcO (rT 97) D K (va_A (wsW K ad w) s.heap.size) ad w Q) (XcO D K (va_A (wsW K ad w) s.heap.size) ad w Q) ([Value.ref 1000001, Value.int k].map (cv ad)).toArray s (mjT 97).1 (mjT 97).2 (va_A (wsW K ad w) s.heap.size)) (0, [(0, .ref 1000001), (1, .int k)], [], w, 0, 0) := by
    refine draw_ee hL hk h _ (fun g Y hg hY => ?_)
    obtain ⟨pc, ls, st, w1, nc, ns⟩ := g
    have hg : (match lkp cd97 pc with
      | some (ins, nx, aux, kc, kl) => stepI (fun _ _ _ _ => False) mjT kO nA (some (L, xs)) (mjT 97).1 (mjT 97).2 (fun _ _ => none) (RtJ 97 Q) (fun _ _ _ _ => False) ins nx aux kc kl pc (nzA (nzT 97) pc ls) st w1 nc ns Y
      | none => False) := hg
    cases hrow : lkp cd97 pc with
    | none => rw [hrow] at hg; exact hg.elim
    | some row =>
      obtain ⟨ins, nx, aux, kc, kl⟩ := row
      rw [hrow] at hg
      have hok := okM_at (j := 97) (okAll 97 (by omega)) hrow
      have h := stepI_m hY hg
      refine MW_nz (nt := nzT 97) ?_
      generalize nzA (nzT 97) pc ls = ls at h ⊢
      by_cases hs1 : isS ins = true
      · exact so_simple (j := 97) hx hb hml rfl hown hts hs1 hok h
      by_cases hs2 : isW ins aux = true
      · exact so_world (j := 97) hx hb hml rfl hown hts (fun q => absurd (show ("draw" : String) = "<init>" from q) (by decide)) hK hT.2.2.1 hA (fun ad ad' h1 h2 => h2.trans h1) rfl rfl (fun L' xs' q ad' h9 => by
          cases q
          rw [h9]
          exact ⟨hX, hbs, hbA⟩) hs2 hok h
      by_cases hs3 : isC ins = true
      · obtain ⟨i9, hi9⟩ := lkp_mem _ _ _ hrow
        have := List.all_eq_true.mp cd97_noC _ (List.mem_of_getElem? hi9)
        simp only [hs3] at this
        exact absurd this (by decide)
      cases ins with
      | ireturn =>
        obtain ⟨x, r, rfl, h1⟩ := pI_s h
        obtain ⟨rfl, h2⟩ := pN_s h1
        simp only [okRow, dOk, Bool.and_eq_true, decide_eq_true_eq] at hok
        intro ad1 H locs lsx hW hS hag hn0 _ hl
        exact so_ret (n0 := 0) (Sx := fun _ => True) (Qm := fun _ => True) (v := some (.int x)) hx hb hml rfl hown hts hr hlocks hW hS hag hn0 h2 hok.1
      | lreturn =>
        obtain ⟨x, r, rfl, h1⟩ := pL_s h
        obtain ⟨rfl, h2⟩ := pN_s h1
        exact (h2.2 : False).elim
      | return_ =>
        obtain ⟨rfl, h2⟩ := pN_s h
        exact (h2.2 : False).elim
      | new i =>
        obtain ⟨t, r0, rfl, h1⟩ := aC_s h
        obtain ⟨ci, r1, rfl, h2⟩ := aC_s h1
        rcases nI1_s h2 with ⟨rfl, -⟩ | ⟨ht, hcat9, hth⟩
        · exact absurd rfl hs2
        · exact hth.elim
      | _ => first | exact absurd rfl hs1 | exact absurd rfl hs2 | exact absurd rfl hs3 | exact h.elim
  have hl := lv_entry ([Value.ref 1000001, Value.int k].map (cv ad)) (n := mL 97) (Nat.le_of_ble_eq_true rfl)
  rw [show lv_args 0 ([Value.ref 1000001, Value.int k].map (cv ad)) = cvl ad [(0, .ref 1000001), (1, .int k)] from rfl] at hl
  rw [lg_entry_eq]
  exact key ad s.heap [] _ ⟨hP, hD, hwf⟩ va_S.rf (fun _ _ => rfl) (Nat.le_refl _) hadb hl
set_option maxHeartbeats 4000000 in
/-- the law's call of it -/
theorem so_draw {p : Program} {l : Launch} {e : Env} {R : Room} {s : State} {m : MethodId} {args : Array Value} {below : List Frame} {meth : Method} {c : Code} {D : va_G} {K : Nat → ClassId} {A : Nat → Prop} {ad0 : Nat → Nat} {n0 nL : Nat} {Sx : (Nat → Nat) → Prop} {Qm : State → Prop} {j : Nat}
  (hx : p.tables.exec = Jvm.exec) (hb : c.code = bC j) (hml : c.maxLocals = nL) (hnL : nL = mL j) (hown : s.vm.findClass (ownO j) = some m.cls) (hts : ∀ w ∈ GG, w.before args s = true)
  {C : Cal} {L b mxc mxs : Nat} {xs : Nat → Int32} {hn : Nat → String → Option Nat} {Rt : Option Value → Wd → Nat → Nat → Prop} {Th : String → Wd → Nat → Nat → Prop} {i nx : Nat} {r5 : List Nat} {kc : Int32} {kl : Int64} {pc : Nat} {ls : List (Nat × Value)} {st : List Value} {w : Wd} {nc ns : Nat}
  (hK : va_K D vwCl (tysK K) s) (hT : EnvT s) (hZ : EnvZ A s s.heap) (hA : ∀ q, s.heap.size ≤ q → A q) (hSx : ∀ ad ad', Sx ad → ad' 1000001 = ad 1000001 → Sx ad') (hSb : ∀ ad, Sx ad → ad 1000001 = b) (hX : va_X b L xs s s.heap) (hbl : b < s.heap.size) (hbA : ¬ A b) (hL : L < 2147483648) (hnn : ∀ E, hn pc E = none) (hRc : R.cells = mxc) (hRs : R.slots = mxs) (hRf : 1 + 1 ≤ R.frames) (hRl : 19 + mxO j + 34 ≤ R.locals)
  (hrow : okRow j pc (.invokestatic i, nx, 5 :: r5, kc, kl) = true) (h : stepI C mjT kO nA (some (L, xs)) mxc mxs hn Rt Th (.invokestatic i) nx (5 :: r5) kc kl pc ls st w nc ns (MW p l e R s m args below meth c D K A ad0 n0 nL Sx Qm)) : MW p l e R s m args below meth c D K A ad0 n0 nL Sx Qm (pc, ls, st, w, nc, ns) := by
  obtain ⟨k, r1, rfl, h1⟩ := pI_s (show pI st (fun k r1 => pR r1 (fun a r => drI (some (L, xs)) a k (fun v => (catS r ≤ 8 ∧ nc ≤ mxc ∧ ns ≤ mxs) ∧ MW p l e R s m args below meth c D K A ad0 n0 nL Sx Qm (nx, ls, .int v :: r, w, nc, ns)))) from h)
  obtain ⟨a, r, rfl, h2⟩ := pR_s h1
  obtain ⟨L', xs', e9, rfl, hk, ⟨hcat, hc1, hc2⟩, h9⟩ := drI_s h2
  cases e9
  simp only [okRow, dOk, Bool.and_eq_true, decide_eq_true_eq] at hrow
  obtain ⟨⟨hd, rfl⟩, hq⟩ := hrow
  rcases r5 with _ | ⟨jc, _ | ⟨p1, _ | ⟨p2, _ | ⟨p3, _ | ⟨p4, _ | ⟨p5, r5⟩⟩⟩⟩⟩⟩
  · simp at hq
  · simp at hq
  · simp at hq
  · simp at hq
  · simp at hq
  · simp only [Bool.and_eq_true, decide_eq_true_eq] at hq
    obtain ⟨c1, c2, c3, rfl⟩ := hq
    simp only [cOk, Bool.and_eq_true, decide_eq_true_eq] at c1
    obtain ⟨q1, q2, q3, q4, q5, q6, q7⟩ := c1
    have g1 := wAt_in q1
    have g2 := wAt_in q2
    intro ad H locs lsx hW hS hag hn0 hsx hl
    have hadb := hSb ad hsx
    have hA1 := vaA_in (D := D) hW.2.1 hS hA
    have hpc0 := PcO.of (p := p) (as := [.ref 1000001, .int k]) hK hT hZ hA1 hW hS
    have hbH : b < H.size := Nat.lt_of_lt_of_le hbl hS.1
    have hbA1 : ¬ va_A (wsW K ad w) H.size b := fun q => hbA (hA1 b q)
    have hpc : ∀ U : State, U.heap = H → s.WarmedH U.vm → PcD D K ad H.size k w b L xs ([Value.ref 1000001, Value.int k].map (cv ad)).toArray U := fun U hU hWm => ⟨hpc0 U hU hWm, by rw [hU]; exact va_X.moved hWm.alike (hX.kept (hS.2.1 b hbl hbA)), hbH, hbA1, hadb⟩
    have hM := draw_sound l hL hk (Q := fun rs w' => rs = .inl (some (.int (drV xs L k))) ∧ w' = w) ⟨rfl, rfl⟩ D K ad H.size b
    have hG : GoodIn GG (va_wsS (ownO j) i (yN 97) (hdW 97 :: GG)) := GG_in (by
      intro w9 hw9
      rcases List.mem_append.mp (show w9 ∈ ([.methodLink (ownO j) i (yN 97), .static (yN 97), .initialized (yN 97).cls] : List Cond) ++ (hdW 97 :: GG) from hw9) with hw9 | hw9
      · simp only [List.mem_cons, List.not_mem_nil, or_false] at hw9
        rcases hw9 with rfl | rfl | rfl
        · exact wAt_in c2
        · exact wAt_in c3
        · exact g2
      · rcases List.mem_cons.mp hw9 with hw9 | hw9
        · rw [hw9]; exact g1
        · exact hw9)
    have room : 2 * (F0 m pc lsx (r.map (cv ad))).monitorRoom + ((r.map (cv ad)).map fun v => v.category).sum ≤ 8 := lv_room (by rw [catS_map]; exact hcat)
    have hRl' : 8 + (mL 97 + 11) + (rmO 1 97).locals ≤ R.locals := by
      show 8 + (mL 97 + 11) + 34 * 1 ≤ R.locals
      omega
    exact so_aft (rt := rT 97) (a := ([Value.ref 1000001, Value.int k].map (cv ad)).toArray) (P := fun rs w' => rs = .inl (some (.int (drV xs L k))) ∧ w' = w) (mc := (mjT 97).1) (ms := (mjT 97).2) (hn := hn) hSx hA (fun E h9 ce q9 H1 locs1 rest hE => by rw [hnn] at hE; cases hE)
      (vx_runS ⟨hx, hb, hml, hown, hts⟩ hM (va_cwS (maxL := mL 97) (bytes := bC 97) (ret := rT 97) 2 hts hG (by rw [hdW_code (j := 97) rfl]) rfl rfl ⟨q3, q4, q5⟩ ⟨hRf, hRl'⟩) ⟨PcD.blind D K ad H.size k w b L xs, hpc⟩ rfl rfl hl.1 rfl room hd (by rw [hRc, hRs]; exact ⟨hc1, hc2⟩))
      hW hS hag hn0 hsx hl (by
        rintro rs w' ⟨rfl, rfl⟩
        exact ⟨Or.inl rfl, h9⟩)
  · simp at hq
