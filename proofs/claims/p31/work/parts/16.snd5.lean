def isC : Instr → Bool
  | .invokespecial .. => true
  | .invokevirtual .. => true
  | .invokestatic .. => true
  | _ => false
/-! SOUNDNESS OF ONE STEP: calls -/
theorem GG_in {ws : List Cond} (h : ∀ w ∈ ws, w ∈ GG) : GoodIn GG ws := fun w hw => ⟨h w hw, good_of_word (List.mem_filter.mp (h w hw)).2⟩
theorem hdW_code {j : Nat} (h : hhT j = []) : hdW j = .code (yN j) (bC j) (mL j) (rT j) := by
  unfold hdW
  rw [h]
theorem hdW_with {j : Nat} {q : Nat × Nat × Nat × Nat} {r : List (Nat × Nat × Nat × Nat)} (h : hhT j = q :: r) : hdW j = .codeWith (yN j) (bC j) (mL j) (rT j) (q :: r) := by
  unfold hdW
  rw [h]
theorem nestOk_in {i own idx : Nat} {y : MethodName} {o : String} (h : nestOk i own idx y o = true) : ∃ host : String, Cond.methodLinkNest o idx y host ∈ nestW := by
  simp only [nestOk, decide_eq_true_eq] at h
  exact ⟨_, List.mem_of_getElem? h⟩
theorem kO_lt : ∀ j, (yN j).name = "<init>" → kO j < 7 := by
  have key : (List.range 133).all (fun j => decide ((yN j).name = "<init>" → kO j < 7)) = true := by decide +kernel
  intro j h
  by_cases hj : j < 133
  · exact of_decide_eq_true (List.all_eq_true.mp key j (List.mem_range.mpr hj)) h
  · obtain ⟨k, rfl⟩ : ∃ k, j = k + 133 := ⟨j - 133, by omega⟩
    exact absurd (show ("" : String) = "<init>" from h) (by decide)
set_option maxHeartbeats 4000000 in
theorem so_call {p : Program} {l : Launch} {e : Env} {R : Room} {s : State} {m : MethodId} {args : Array Value} {below : List Frame} {meth : Method} {c : Code} {D : va_G} {K : Nat → ClassId} {A : Nat → Prop} {ad0 : Nat → Nat} {n0 nL : Nat} {Sx : (Nat → Nat) → Prop} {Qm : State → Prop} {j : Nat}
  (hx : p.tables.exec = Jvm.exec) (hb : c.code = bC j) (hml : c.maxLocals = nL) (hnL : nL = mL j) (hown : s.vm.findClass (ownO j) = some m.cls) (hts : ∀ w ∈ GG, w.before args s = true)
  {C : Cal} {SX : Option (Nat × (Nat → Int32))} {mxc mxs d1 : Nat} {hn : Nat → String → Option Nat} {Rt : Option Value → Wd → Nat → Nat → Prop} {Th : String → Wd → Nat → Nat → Prop} {ins : Instr} {nx : Nat} {aux : List Nat} {kc : Int32} {kl : Int64} {pc : Nat} {ls : List (Nat × Value)} {st : List Value} {w : Wd} {nc ns : Nat}
  (hK : va_K D vwCl (tysK K) s) (hT : EnvT s) (hZ : EnvZ A s s.heap) (hA : ∀ q, s.heap.size ≤ q → A q) (hSx : ∀ ad ad', Sx ad → ad' 1000001 = ad 1000001 → Sx ad') (hRc : R.cells = mxc) (hRs : R.slots = mxs) (hRf : d1 + 1 ≤ R.frames) (hRl : 19 + mxO j + 34 * d1 ≤ R.locals) (h5no : ∀ i r, ins = .invokestatic i → aux ≠ 5 :: r)
  (hC : ∀ (jc : Nat) (as : List Value) (w : Wd) (P : Res → Wd → Prop), C jc as w P → Ctr l d1 jc as w P)
  (hCat : ∀ (E : String) (h9 : Nat) (ce : Cell) (q9 : Addr) (H1 : Heap) (locs1 : List Loc) (lsx : Array Slot) (rest : List Value) (c9 s9 : Nat), hn pc E = some h9 → H1[q9]? = some ce → ce.vm = .none → s.vm.findClass E = some ce.cls → W p l e R s m args below meth c H1 locs1 c9 s9 Qm (F0 m h9 lsx [.ref q9]) → vx_W p l e R s m args below meth c H1 locs1 c9 s9 Qm (F0 m pc lsx rest) q9)
  (hs : isC ins = true) (hrow : okRow j pc (ins, nx, aux, kc, kl) = true) (h : stepI C mjT kO nA SX mxc mxs hn Rt Th ins nx aux kc kl pc ls st w nc ns (MW p l e R s m args below meth c D K A ad0 n0 nL Sx Qm)) : MW p l e R s m args below meth c D K A ad0 n0 nL Sx Qm (pc, ls, st, w, nc, ns) := by
  have hmx : 12 ≤ mxO j := by
    unfold mxO
    split <;> omega
  have room : ∀ {lsx : Array Slot} {H : Heap} {ad : Nat → Nat} {r : List Value}, catS r ≤ 8 → 2 * (F0 m pc lsx (r.map (cv ad))).monitorRoom + ((r.map (cv ad)).map fun v => v.category).sum ≤ 8 := by
    intro lsx H ad r hr
    exact lv_room (by rw [catS_map]; exact hr)
  have bound : ∀ {jc : Nat}, mL jc ≤ mxO j → 8 + (mL jc + 11) + (rmO d1 jc).locals ≤ R.locals := by
    intro jc h9
    show 8 + (mL jc + 11) + 34 * d1 ≤ R.locals
    omega
  -- the words of a callee
  have wds : ∀ {jc ph pi : Nat}, cOk j jc ph pi = true → hdW jc ∈ GG ∧ Cond.initialized (yN jc).cls ∈ GG ∧ ((yN jc).cls ≠ "java/lang/invoke/MethodHandle" ∧ (yN jc).cls ≠ "java/lang/invoke/VarHandle" ∧ (parseMethodDescriptor (yN jc).desc).map (fun d => d.parameters.length) = some (nA jc)) ∧ mL jc ≤ mxO j := by
    intro jc ph pi h9
    simp only [cOk, Bool.and_eq_true, decide_eq_true_eq] at h9
    obtain ⟨q1, q2, q3, q4, q5, q6, q7⟩ := h9
    exact ⟨wAt_in q1, wAt_in q2, ⟨q3, q4, q5⟩, q7⟩
  have inW : ∀ {jc : Nat} {L : List Cond}, hdW jc ∈ GG → (∀ w ∈ L, w ∈ GG) → ∀ w ∈ L ++ (hdW jc :: GG), w ∈ GG := by
    intro jc L h1 h2 w hw
    rcases List.mem_append.mp hw with hw | hw
    · exact h2 w hw
    · rcases List.mem_cons.mp hw with hw | hw
      · rw [hw]; exact h1
      · exact hw
  have go : ∀ (jc : Nat) (as r st9 : List Value) (P : Res → Wd → Prop), (∀ (rs : Res) (w' : Wd), P rs w' → aftC hn (pc + 3) pc ls r w (nc + (mjT jc).1) (ns + (mjT jc).2) (MW p l e R s m args below meth c D K A ad0 n0 nL Sx Qm) rs w') → (∀ (ad : Nat → Nat) (H : Heap) (locs : List Loc) (lsx : Array Slot), WPd D K A ad w H → va_S A s.heap H locs → lv_has lsx nL (cvl ad ls) → vx_Run p l e R s m args below meth c H locs nc ns (mjT jc).1 (mjT jc).2 (F0 m pc lsx (st9.map (cv ad))) (r.map (cv ad)) (QcO (rT jc) D K (va_A (wsW K ad w) H.size) ad w P (as.map (cv ad)).toArray) (XcO D K (va_A (wsW K ad w) H.size) ad w P) (va_A (wsW K ad w) H.size)) → MW p l e R s m args below meth c D K A ad0 n0 nL Sx Qm (pc, ls, st9, w, nc, ns) := by
    intro jc as r st9 P hk q ad H locs lsx hW hS hag hn0 hsx hl
    exact so_aft hSx hA (fun E h9 ce q9 H1 locs1 rest => hCat E h9 ce q9 H1 locs1 lsx rest _ _) (q ad H locs lsx hW hS hl) hW hS hag hn0 hsx hl hk
  have mapb : ∀ (ad : Nat → Nat) (b : Nat) (as : List Value), 1 ≤ b → (Value.ref b :: as).map (cv ad) = Value.ref (ad b) :: as.map (cv ad) := fun ad b as hb1 => by rw [List.map_cons, cv_pos ad hb1]
  have stb : ∀ (ad : Nat → Nat) (b : Nat) (as r : List Value), 1 ≤ b → ((Value.ref b :: as).reverse ++ r).map (cv ad) = (as.map (cv ad)).reverse ++ Value.ref (ad b) :: r.map (cv ad) := fun ad b as r hb1 => by simp [cv_pos ad hb1]
  cases ins with
  | invokespecial i =>
    obtain ⟨t, r0, rfl, h1⟩ := aC_s h
    simp only [okRow, dOk, Bool.and_eq_true, decide_eq_true_eq] at hrow
    obtain ⟨⟨hd, rfl⟩, hq⟩ := hrow
    rcases nI1_s h1 with ⟨rfl, h2⟩ | ⟨ht, h2⟩
    · obtain ⟨a, r, rfl, ha, hcat, h9⟩ := pR_s h2
      split at hq
      · rename_i p1 p2 p3 heq
        simp only [Bool.and_eq_true] at hq
        obtain ⟨q1, q2, q3⟩ := hq
        intro ad H locs lsx hW hS hag hn0 hsx hl
        obtain ⟨hP, hD, hwf⟩ := hW
        show W p l e R s m args below meth c H locs nc ns Qm (F0 m pc lsx (cv ad (.ref a) :: r.map (cv ad)))
        rw [cv_pos ad ha]
        refine W.objInit hx hb hown (hts _ (wAt_in q1)) (hts _ (wAt_in q2)) (hts _ (wAt_in q3)) rfl (by rw [hml]; exact hl.1) rfl hd (by omega) ?_ ?_
        · have := room (lsx := lsx) (H := H) (ad := ad) hcat
          have e1 : 2 * (F0 m pc lsx (Value.ref (ad a) :: r.map (cv ad))).monitorRoom = 2 * (F0 m pc lsx (r.map (cv ad))).monitorRoom := rfl
          rw [e1]
          omega
        · exact h9 ad H locs lsx ⟨hP, hD, hwf⟩ hS hag hn0 hsx hl
      · rename_i heq
        simp at heq
      · rename_i heq
        simp at heq
      · simp at hq
    · obtain ⟨jc, r1, rfl, h3⟩ := aC_s h2
      obtain ⟨ba, r, hlen, rfl, h4⟩ := pA_s h3
      obtain ⟨b, as, rfl, ⟨hcat, hc1, hc2⟩, hkb, P, hCP, hk⟩ := pB_s h4
      refine go jc (.ref b :: as) r _ P hk (fun ad H locs lsx hW hS hl => ?_)
      have hM := hC jc _ w P hCP D K ad H.size
      have hA1 := vaA_in (D := D) hW.2.1 hS hA
      have hpc := PcO.of (p := p) (as := .ref b :: as) hK hT hZ hA1 hW hS
      have hlen' : as.length = nA jc := by simpa using hlen
      split at hq
      · rename_i heq
        simp only [List.cons.injEq] at heq
        exact absurd heq.1 ht
      · rename_i p1 p2 p3 p4 heq
        simp only [List.cons.injEq] at heq
        obtain ⟨rfl, rfl, rfl⟩ := heq
        simp only [Bool.and_eq_true, decide_eq_true_eq] at hq
        obtain ⟨c1, c2, c3, c4, c5, c6⟩ := hq
        obtain ⟨g1, g2, g3, g4⟩ := wds c1
        have hb1 : 1 ≤ b := (wf_in hW.2.2 hkb (by have := kO_lt jc c4; omega)).1
        rw [mapb ad b as hb1] at hpc ⊢
        rw [stb ad b as r hb1]
        exact vx_runI ⟨hx, hb, hml, hown, hts⟩ hM (cwI (maxL := mL jc) (bytes := bC jc) (nA jc) hts (GG_in (inW (L := []) g1 (fun _ h => nomatch h))) (by rw [hdW_code c6, c5]) rfl rfl (hts _ g2) (hts _ (wAt_in c3)) (hts _ (wAt_in c2)) c4 g3 ⟨hRf, bound g4⟩) ⟨PcO.blind D K ad H.size _ w, hpc⟩ rfl (by simpa using hlen') hl.1 rfl (room (lsx := lsx) (H := H) (ad := ad) hcat) hd (by rw [hRc, hRs]; exact ⟨hc1, hc2⟩)
      · rename_i p1 p2 p3 q9 heq
        simp only [List.cons.injEq] at heq
        obtain ⟨rfl, rfl, rfl⟩ := heq
        simp only [Bool.and_eq_true, decide_eq_true_eq] at hq
        obtain ⟨c1, c2, c3, c4, c5, c6⟩ := hq
        obtain ⟨g1, g2, g3, g4⟩ := wds c1
        obtain ⟨host, hho⟩ := nestOk_in c3
        have hb1 : 1 ≤ b := (wf_in hW.2.2 hkb (by have := kO_lt jc c4; omega)).1
        rw [mapb ad b as hb1] at hpc ⊢
        rw [stb ad b as r hb1]
        exact vx_runIN ⟨hx, hb, hml, hown, hts⟩ hM ⟨va_cnB (maxL := mL jc) (bytes := bC jc) (nA jc) hts (GG_in (inW (L := []) g1 (fun _ h => nomatch h))) (by rw [hdW_code c6, c5]) rfl rfl (hT.1 _ hho) (hts _ g2) g3 ⟨hRf, bound g4⟩, c4, hts _ (wAt_in c2)⟩ ⟨PcO.blind D K ad H.size _ w, hpc⟩ rfl (by simpa using hlen') hl.1 rfl (room (lsx := lsx) (H := H) (ad := ad) hcat) hd (by rw [hRc, hRs]; exact ⟨hc1, hc2⟩)
      · simp at hq
  | invokevirtual i =>
    obtain ⟨jc, r1, rfl, h2⟩ := aC_s h
    simp only [okRow, dOk, Bool.and_eq_true, decide_eq_true_eq] at hrow
    obtain ⟨⟨hd, rfl⟩, hq⟩ := hrow
    obtain ⟨ba, r, hlen, rfl, h4⟩ := pA_s h2
    obtain ⟨b, as, rfl, ⟨hcat, hc1, hc2⟩, hkb, P, hCP, hk⟩ := pB_s h4
    refine go jc (.ref b :: as) r _ P hk (fun ad H locs lsx hW hS hl => ?_)
    have hM := hC jc _ w P hCP D K ad H.size
    have hA1 := vaA_in (D := D) hW.2.1 hS hA
    have hpc := PcO.of (p := p) (as := .ref b :: as) hK hT hZ hA1 hW hS
    have hlen' : as.length = nA jc := by simpa using hlen
    split at hq
    · rename_i p1 p2 p3 p4 p5 heq
      simp only [List.cons.injEq] at heq
      obtain ⟨rfl, rfl⟩ := heq
      simp only [Bool.and_eq_true, decide_eq_true_eq] at hq
      obtain ⟨c1, c2, c3, c4, c5, c6, c7⟩ := hq
      obtain ⟨g1, g2, g3, g4⟩ := wds c1
      have hb1 : 1 ≤ b := (wf_in hW.2.2 hkb (by omega)).1
      rw [mapb ad b as hb1] at hpc ⊢
      rw [stb ad b as r hb1]
      have hrecv := va_recv hK hW.1 (clsF (kO jc) c6).1 (ws_obj hW.2.2 hkb c6)
      rw [show ((RXc (kO jc), TXc (kO jc), nF (kO jc)) : vw_C).1 = (yN jc).cls from c7] at hrecv
      exact vx_runV ⟨hx, hb, hml, hown, hts⟩ hM (cwV (maxL := mL jc) (bytes := bC jc) (ret := rT jc) (nA jc) hts (GG_in (inW (L := [.methodLink (ownO j) i (yN jc), .instanceMethod (yN jc), .selects (yN jc).cls (yN jc) (yN jc), .initialized (yN jc).cls]) g1 (fun w hw => by
          simp only [List.mem_cons, List.not_mem_nil, or_false] at hw
          rcases hw with rfl | rfl | rfl | rfl
          · exact wAt_in c2
          · exact wAt_in c3
          · exact wAt_in c4
          · exact g2))) (by rw [hdW_code c5]) rfl rfl ⟨rfl, g3⟩ ⟨hRf, bound g4⟩) ⟨PcO.blind D K ad H.size _ w, hrecv, hpc⟩ rfl (by simpa using hlen') hl.1 rfl (room (lsx := lsx) (H := H) (ad := ad) hcat) hd (by rw [hRc, hRs]; exact ⟨hc1, hc2⟩)
    · simp at hq
  | invokestatic i =>
    obtain ⟨t, r0, rfl, h1⟩ := aC_s h
    simp only [okRow, dOk, Bool.and_eq_true, decide_eq_true_eq] at hrow
    obtain ⟨⟨hd, rfl⟩, hq⟩ := hrow
    rcases nI1_s h1 with ⟨rfl, h2⟩ | ⟨ht1, h2⟩
    · obtain ⟨y, r1, rfl, h3⟩ := pI_s h2
      obtain ⟨x, r, rfl, ⟨hcat, hnc, hns⟩, h9⟩ := pI_s h3
      split at hq
      · rename_i heq
        simp at heq
      · rename_i heq
        simp at heq
      · rename_i heq
        simp at heq
      · simp only [Bool.and_eq_true] at hq
        obtain ⟨q1, q2, q3, q4⟩ := hq
        intro ad H locs lsx hW hS hag hn0 hsx hl
        obtain ⟨hP, hD, hwf⟩ := hW
        exact va_mmin hx hb (by rw [hml]; exact hl.1.symm) hown (hts _ (wAt_in q1)) (hts _ (wAt_in q2)) (hts _ (wAt_in q3)) (hts _ (wAt_in q4)) (by omega) (by rw [catS_map]; omega) (by rw [hRc]; exact hnc) (by rw [hRs]; exact hns) hd (h9 ad H locs lsx ⟨hP, hD, hwf⟩ hS hag hn0 hsx hl)
      · rename_i heq
        simp at heq
      · rename_i heq
        simp at heq
      · simp at hq
    · rcases nI1_s h2 with ⟨rfl, h3⟩ | ⟨ht2, h3⟩
      · obtain ⟨y, r1, rfl, h4⟩ := pI_s h3
        obtain ⟨x, r, rfl, ⟨hcat, hnc, hns⟩, h9⟩ := pI_s h4
        split at hq
        · rename_i heq
          simp at heq
        · rename_i heq
          simp at heq
        · rename_i heq
          simp at heq
        · rename_i heq
          simp at heq
        · simp only [Bool.and_eq_true] at hq
          obtain ⟨q1, q2, q3, q4⟩ := hq
          intro ad H locs lsx hW hS hag hn0 hsx hl
          obtain ⟨hP, hD, hwf⟩ := hW
          exact va_mmax hx hb (by rw [hml]; exact hl.1.symm) hown (hts _ (wAt_in q1)) (hts _ (wAt_in q2)) (hts _ (wAt_in q3)) (hts _ (wAt_in q4)) (by omega) (by rw [catS_map]; omega) (by rw [hRc]; exact hnc) (by rw [hRs]; exact hns) hd (h9 ad H locs lsx ⟨hP, hD, hwf⟩ hS hag hn0 hsx hl)
        · rename_i heq
          simp at heq
        · simp at hq
      · rcases nI1_s h3 with ⟨rfl, h4⟩ | ⟨ht3, h4⟩
        · obtain ⟨n, r4, rfl, h5⟩ := pI_s h4
          obtain ⟨dp, r3, rfl, h6⟩ := pI_s h5
          obtain ⟨a, r2, rfl, h7⟩ := pR_s h6
          obtain ⟨sp, r1, rfl, h8⟩ := pI_s h7
          obtain ⟨a0, r, rfl, ⟨hcat, k0, k1, n1, n2, n3, b1, b2⟩, h9⟩ := pR_s h8
          split at hq
          · rename_i heq
            simp at heq
          · rename_i heq
            simp at heq
          · rename_i heq
            simp at heq
          · rename_i heq
            simp at heq
          · rename_i heq
            simp at heq
          · simp only [Bool.and_eq_true] at hq
            obtain ⟨q1, q2, q3, q4⟩ := hq
            intro ad H locs lsx hW hS hag hn0 hsx hl
            obtain ⟨hP, hD, hwf⟩ := hW
            show W p l e R s m args below meth c H locs nc ns Qm (F0 m pc lsx (.int n :: .int dp :: cv ad (.ref a) :: .int sp :: cv ad (.ref a0) :: r.map (cv ad)))
            rw [cv_pos ad (wf_in hwf k0 (by omega)).1, cv_pos ad (wf_in hwf k1 (by omega)).1]
            refine va_copyi hx hb (by rw [hml]; exact hl.1.symm) hown (hts _ (wAt_in q1)) (hts _ (wAt_in q2)) (hts _ (wAt_in q3)) (hts _ (wAt_in q4)) hK hP hD hS (a0 - 1) (a - 1) 0 0 (ws_8 hwf k0) (ws_8 hwf k1) (tysK_8 K) (tysK_8 K) rfl n1 n2 n3 b1 b2 (fun _ _ => rfl) (by omega) (by rw [catS_map]; show catS r + (7 + 11) ≤ _; omega) hd (fun H1 locs1 hP1 hD1 hS1 => ?_)
            rw [ws_setI hwf _ k1] at hP1 hD1
            exact h9 ad H1 locs1 lsx ⟨hP1, hD1, hwf⟩ hS1 hag hn0 hsx hl
          · simp at hq
        · rcases nI1_s h4 with ⟨rfl, _⟩ | ⟨ht5, h4⟩
          · exact absurd rfl (h5no _ _ rfl)
          obtain ⟨jc, r1, rfl, h5⟩ := aC_s h4
          obtain ⟨as, r, hlen, rfl, ⟨hcat, hc1, hc2⟩, P, hCP, hk⟩ := pA_s h5
          refine go jc as r _ P hk (fun ad H locs lsx hW hS hl => ?_)
          have hM := hC jc _ w P hCP D K ad H.size
          have hA1 := vaA_in (D := D) hW.2.1 hS hA
          have hpc := PcO.of (p := p) (as := as) hK hT hZ hA1 hW hS
          have hst : (as.reverse ++ r).map (cv ad) = (as.map (cv ad)).reverse ++ r.map (cv ad) := by simp
          rw [hst]
          have inS : ∀ {L : List Cond}, (∀ w ∈ L, w ∈ GG) → ∀ w ∈ ([.methodLink (ownO j) i (yN jc), .static (yN jc), .initialized (yN jc).cls] : List Cond), Cond.methodLink (ownO j) i (yN jc) ∈ GG → Cond.static (yN jc) ∈ GG → Cond.initialized (yN jc).cls ∈ GG → w ∈ GG := by
            intro L _ w hw e1 e2 e3
            simp only [List.mem_cons, List.not_mem_nil, or_false] at hw
            rcases hw with rfl | rfl | rfl
            · exact e1
            · exact e2
            · exact e3
          split at hq
          · rename_i p1 p2 p3 p4 heq
            simp only [List.cons.injEq] at heq
            obtain ⟨rfl, rfl, rfl⟩ := heq
            simp only [Bool.and_eq_true] at hq
            obtain ⟨c1, c2, c3⟩ := hq
            obtain ⟨g1, g2, g3, g4⟩ := wds c1
            have hG : GoodIn GG (va_wsS (ownO j) i (yN jc) (hdW jc :: GG)) := GG_in (inW (L := [.methodLink (ownO j) i (yN jc), .static (yN jc), .initialized (yN jc).cls]) g1 (fun w hw => inS (L := []) (fun _ h => nomatch h) w hw (wAt_in c2) (wAt_in c3) g2))
            cases hh : hhT jc with
            | nil => exact vx_runS ⟨hx, hb, hml, hown, hts⟩ hM (va_cwS (maxL := mL jc) (bytes := bC jc) (ret := rT jc) (nA jc) hts hG (by rw [hdW_code hh]) rfl rfl g3 ⟨hRf, bound g4⟩) ⟨PcO.blind D K ad H.size _ w, hpc⟩ rfl (by simpa using hlen) hl.1 rfl (room (lsx := lsx) (H := H) (ad := ad) hcat) hd (by rw [hRc, hRs]; exact ⟨hc1, hc2⟩)
            | cons q0 q1 => exact vx_runSX (hh := q0 :: q1) ⟨hx, hb, hml, hown, hts⟩ hM (vx_cwSW (maxL := mL jc) (bytes := bC jc) (ret := rT jc) (nA jc) hts hG (by rw [hdW_with hh]) rfl rfl g3 ⟨hRf, bound g4⟩) ⟨PcO.blind D K ad H.size _ w, hpc⟩ rfl (by simpa using hlen) hl.1 rfl (room (lsx := lsx) (H := H) (ad := ad) hcat) hd (by rw [hRc, hRs]; exact ⟨hc1, hc2⟩)
          · rename_i q9 p2 p3 p4 heq
            simp only [List.cons.injEq] at heq
            obtain ⟨rfl, rfl, rfl⟩ := heq
            simp only [Bool.and_eq_true, decide_eq_true_eq] at hq
            obtain ⟨c1, c2, c3, c4⟩ := hq
            obtain ⟨g1, g2, g3, g4⟩ := wds c1
            obtain ⟨host, hho⟩ := nestOk_in c2
            exact vx_runSN ⟨hx, hb, hml, hown, hts⟩ hM ⟨va_cnB (maxL := mL jc) (bytes := bC jc) (ret := rT jc) (nA jc) hts (GG_in (inW (L := []) g1 (fun _ h => nomatch h))) (by rw [hdW_code c4]) rfl rfl (hT.1 _ hho) (hts _ g2) g3 ⟨hRf, bound g4⟩, hts _ (wAt_in c3), trivial⟩ ⟨PcO.blind D K ad H.size _ w, hpc⟩ rfl (by simpa using hlen) hl.1 rfl (room (lsx := lsx) (H := H) (ad := ad) hcat) hd (by rw [hRc, hRs]; exact ⟨hc1, hc2⟩)
          · rename_i heq
            simp only [List.cons.injEq] at heq
            exact absurd heq.1 ht5
          · rename_i heq
            simp only [List.cons.injEq] at heq
            exact absurd heq.1 ht1
          · rename_i heq
            simp only [List.cons.injEq] at heq
            exact absurd heq.1 ht2
          · rename_i heq
            simp only [List.cons.injEq] at heq
            exact absurd heq.1 ht3
          · simp at hq
  | _ => exact absurd hs (by simp [isC])
