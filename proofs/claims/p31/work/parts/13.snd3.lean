/-! SOUNDNESS OF ONE STEP: fields, arrays, new cells, the steps -/
def isW : Instr → List Nat → Bool
  | .getfield .., _ => true
  | .putfield .., _ => true
  | .iaload, _ => true
  | .iastore, _ => true
  | .baload, _ => true
  | .bastore, _ => true
  | .aaload, _ => true
  | .aastore, _ => true
  | .arraylength, _ => true
  | .newarray .., _ => true
  | .anewarray .., _ => true
  | .new .., t :: _ => decide (t = 0)
  | _, _ => false
set_option maxHeartbeats 4000000 in
theorem so_world {p : Program} {l : Launch} {e : Env} {R : Room} {s : State} {m : MethodId} {args : Array Value} {below : List Frame} {meth : Method} {c : Code} {D : va_G} {K : Nat → ClassId} {A : Nat → Prop} {ad0 : Nat → Nat} {n0 nL : Nat} {Sx : (Nat → Nat) → Prop} {Qm : State → Prop} {j : Nat}
  (hx : p.tables.exec = Jvm.exec) (hb : c.code = bC j) (hml : c.maxLocals = nL) (hnL : nL = mL j) (hown : s.vm.findClass (ownO j) = some m.cls) (hts : ∀ w ∈ GG, w.before args s = true)
  {C : Cal} {SX : Option (Nat × (Nat → Int32))} {mxc mxs : Nat} {hn : Nat → String → Option Nat} {Rt : Option Value → Wd → Nat → Nat → Prop} {Th : String → Wd → Nat → Nat → Prop} {ins : Instr} {nx : Nat} {aux : List Nat} {kc : Int32} {kl : Int64} {pc : Nat} {ls : List (Nat × Value)} {st : List Value} {w : Wd} {nc ns : Nat}
  (hin : (yN j).name = "<init>" → meth.name = "<init>") (hK : va_K D vwCl (tysK K) s) (hAO : va_AO "OdometerRing$Odometer" s) (hA : ∀ q, s.heap.size ≤ q → A q) (hSx : ∀ ad ad', Sx ad → ad' 1000001 = ad 1000001 → Sx ad') (hRc : R.cells = mxc) (hRs : R.slots = mxs)
  (hSc : ∀ L xs, SX = some (L, xs) → ∀ ad, Sx ad → va_X (ad 1000001) L xs s s.heap ∧ ad 1000001 < s.heap.size ∧ ¬ A (ad 1000001))
  (hs : isW ins aux = true) (hrow : okRow j pc (ins, nx, aux, kc, kl) = true) (h : stepI C mjT kO nA SX mxc mxs hn Rt Th ins nx aux kc kl pc ls st w nc ns (MW p l e R s m args below meth c D K A ad0 n0 nL Sx Qm)) : MW p l e R s m args below meth c D K A ad0 n0 nL Sx Qm (pc, ls, st, w, nc, ns) := by
  have cvp : ∀ (ad : Nat → Nat) {a ci : Nat}, WFw w → w.1.2.1 a = ci → ci < 20 → cv ad (.ref a) = .ref (ad a) := fun ad a ci hw hk hc => cv_pos ad (wf_in hw hk hc).1
  cases ins with
  | getfield i =>
    obtain ⟨ci, k, t, r0, rfl, h⟩ := aF_s h
    obtain ⟨a, r, rfl, hk, h9⟩ := pR_s h
    simp only [okRow, dOk, Bool.and_eq_true, decide_eq_true_eq] at hrow
    obtain ⟨⟨hd, rfl⟩, hq⟩ := hrow
    rcases r0 with _ | ⟨p9, _ | ⟨p8, r0⟩⟩
    · simp at hq
    · simp only [Bool.and_eq_true, decide_eq_true_eq] at hq
      obtain ⟨hci, hkk, hw9, hdecl, hti⟩ := hq
      have hF := clsF ci hci
      intro ad H locs lsx hW hS hag hn0 hsx hl
      obtain ⟨hP, hD, hwf⟩ := hW
      show W p l e R s m args below meth c H locs nc ns Qm (F0 m pc lsx (cv ad (.ref a) :: r.map (cv ad)))
      rw [cvp ad hwf hk (by omega)]
      refine va_get (ref := RXc ci) hx hb hts hF.2.1 hown hK hP (a - 1) (ws_obj hwf hk hci) hF.1 k hkk (hts _ (wAt_in hw9)) (fun x9 h9 => by rw [hdecl] at h9; exact h9) (fs_at ad w hkk) hd ?_
      rcases nI1_s h9 with ⟨ht, h⟩ | ⟨ht, h⟩
      · rw [fld_ref (hti.mp ht)]
        exact h ad H locs lsx ⟨hP, hD, hwf⟩ hS hag hn0 hsx hl
      · rw [fld_int (fun q => ht (hti.mpr q))]
        exact h ad H locs lsx ⟨hP, hD, hwf⟩ hS hag hn0 hsx hl
    · simp at hq
  | putfield i =>
    obtain ⟨ci, k, t, r0, rfl, h⟩ := aF_s h
    simp only [okRow, dOk, Bool.and_eq_true, decide_eq_true_eq] at hrow
    obtain ⟨⟨hd, rfl⟩, hq⟩ := hrow
    rcases r0 with _ | ⟨fin, _ | ⟨p9, _ | ⟨p8, r0⟩⟩⟩
    · simp at hq
    · simp at hq
    · simp only [Bool.and_eq_true, decide_eq_true_eq] at hq
      obtain ⟨hci, hkk, hw9, hdecl, hti, hty, hfin⟩ := hq
      have hF := clsF ci hci
      -- a value that is stored into the field
      have put : ∀ (v : Value) (a : Nat) (r : List Value) (w' : Wd) (ad : Nat → Nat) (H : Heap) (locs : List Loc) (lsx : Array Slot), w.1.2.1 a = ci → narrow (tyXc ci k) (cv ad v) = cv ad v → fits (tyXc ci k) (cv ad v) = true → (WFw w → WFw w') → w'.1.1 = w.1.1 →
          (WFw w → (wsW K ad w).set (a - 1) (ad a, .inr (ci, ((List.range (nF ci)).map (fldV ad w ci a)).set k (cv ad v))) = wsW K ad w') → MW p l e R s m args below meth c D K A ad0 n0 nL Sx Qm (pc + 3, ls, r, w', nc, ns) →
          WPd D K A ad w H → va_S A s.heap H locs → (∀ i, i ≤ n0 → ad i = ad0 i) → n0 ≤ w.1.1 → Sx ad → lv_has lsx nL (cvl ad ls) → W p l e R s m args below meth c H locs nc ns Qm (F0 m pc lsx ((v :: .ref a :: r).map (cv ad))) := by
        intro v a r w' ad H locs lsx hk hn hf hwf' hnn hset h hW hS hag hn0 hsx hl
        obtain ⟨hP, hD, hwf⟩ := hW
        show W p l e R s m args below meth c H locs nc ns Qm (F0 m pc lsx (cv ad v :: cv ad (.ref a) :: r.map (cv ad)))
        rw [cvp ad hwf hk (by omega)]
        have kk : ∀ (H1 : Heap) (locs1 : List Loc), va_P D vwCl ((wsW K ad w).set (a - 1) (ad a, .inr (ci, ((List.range (nF ci)).map (fldV ad w ci a)).set k (cv ad v)))) H1 → va_D A ((wsW K ad w).set (a - 1) (ad a, .inr (ci, ((List.range (nF ci)).map (fldV ad w ci a)).set k (cv ad v)))) → va_S A s.heap H1 locs1 → W p l e R s m args below meth c H1 locs1 nc ns Qm (F0 m (pc + 3) lsx (r.map (cv ad))) := by
          intro H1 locs1 hP1 hD1 hS1
          rw [hset hwf] at hP1 hD1
          exact h ad H1 locs1 lsx ⟨hP1, hD1, hwf' hwf⟩ hS1 hag (by rw [hnn]; exact hn0) hsx hl
        cases fin with
        | zero =>
          simp only [decide_eq_true_eq] at hfin
          exact va_put (ref := RXc ci) hx hb hts hF.2.1 (tyXc ci) hF.2.2.1 hF.2.2.2 hown hK hP hD hS (a - 1) (ws_obj hwf hk hci) hF.1 k hkk (hts _ (wAt_in hw9)) (fun x9 h9 => by rw [hdecl] at h9; exact h9) hfin (hF.2.2.1 k hkk) hn hf (by simpa using hkk) hd kk
        | succ fin =>
          simp only [Bool.and_eq_true, decide_eq_true_eq] at hfin
          exact va_putF (ref := RXc ci) hx hb hts hF.2.1 (tyXc ci) hF.2.2.1 hF.2.2.2 hown hK hP hD hS (a - 1) (ws_obj hwf hk hci) hF.1 k hkk (hts _ (wAt_in hw9)) (fun x9 h9 => by rw [hdecl] at h9; exact h9) hfin.1 (hin hfin.2.1) hfin.2.2 (hF.2.2.1 k hkk) hn hf (by simpa using hkk) hd kk
      rcases nI1_s h with ⟨ht, h⟩ | ⟨ht, h⟩
      · subst ht
        obtain ⟨x, r1, rfl, h⟩ := pR_s h
        obtain ⟨a, r, rfl, hk, hxn, h⟩ := pR_s h
        have hty : refKind (tyXc ci k) = true := hty
        intro ad H locs lsx hW hS hag hn0 hsx hl
        refine put (.ref x) a r _ ad H locs lsx hk ?_ ?_ (fun q => wR_wf q hxn) rfl (fun q => ws_putR q hk hci (hti.mp rfl) x) h hW hS hag hn0 hsx hl
        · revert hty
          cases tyXc ci k <;> cases x <;> intro hty <;> first | rfl | cases hty
        · revert hty
          cases tyXc ci k <;> cases x <;> intro hty <;> first | rfl | cases hty
      · obtain ⟨x, r1, rfl, h⟩ := pI_s h
        obtain ⟨a, r, rfl, hk, h01, h⟩ := pR_s h
        intro ad H locs lsx hW hS hag hn0 hsx hl
        refine put (.int x) a r _ ad H locs lsx hk ?_ ?_ (fun q => wI_wf q) rfl (fun q => ws_putI q hk hci (fun z => ht (hti.mpr z)) x) h hW hS hag hn0 hsx hl
        · rcases t with _ | _ | _ | t
          · have hty : tyXc ci k = .int := of_decide_eq_true hty
            rw [hty]; rfl
          · exact absurd rfl ht
          · have hty : tyXc ci k = .boolean := of_decide_eq_true hty
            rw [hty]
            rcases (show x = 0 ∨ x = 1 from h01) with rfl | rfl <;> rfl
          · exact absurd hty (by simp)
        · rcases t with _ | _ | _ | t
          · have hty : tyXc ci k = .int := of_decide_eq_true hty
            rw [hty]; rfl
          · exact absurd rfl ht
          · have hty : tyXc ci k = .boolean := of_decide_eq_true hty
            rw [hty]
            rcases (show x = 0 ∨ x = 1 from h01) with rfl | rfl <;> rfl
          · exact absurd hty (by simp)
    · simp at hq
  | iaload =>
    obtain ⟨i, r1, rfl, h⟩ := pI_s h
    obtain ⟨a, r, rfl, h⟩ := pR_s h
    simp only [okRow, dOk, Bool.and_eq_true, decide_eq_true_eq] at hrow
    obtain ⟨hd, rfl⟩ := hrow
    have wld : (w.1.2.1 a = 8 ∧ vp_in i (w.1.2.2.1 a) ∧ MW p l e R s m args below meth c D K A ad0 n0 nL Sx Qm (pc + 1, ls, .int (w.2.1 a i.toNatClampNeg) :: r, w, nc, ns)) → MW p l e R s m args below meth c D K A ad0 n0 nL Sx Qm (pc, ls, .int i :: .ref a :: r, w, nc, ns) := by
      intro h
      obtain ⟨hk, hi, h⟩ := h
      intro ad H locs lsx hW hS hag hn0 hsx hl
      obtain ⟨hP, hD, hwf⟩ := hW
      show W p l e R s m args below meth c H locs nc ns Qm (F0 m pc lsx (.int i :: cv ad (.ref a) :: r.map (cv ad)))
      rw [cvp ad hwf hk (by omega)]
      exact va_iald hx hb hK hP (a - 1) 0 (ws_8 hwf hk) (tysK_8 K) hi hd (h ad H locs lsx ⟨hP, hD, hwf⟩ hS hag hn0 hsx hl)
    cases SX with
    | none => exact wld h
    | some q =>
      obtain ⟨L, xs⟩ := q
      rcases nI1_s h with ⟨ha, h⟩ | ⟨ha, h⟩
      · subst ha
        obtain ⟨hi, h⟩ := h
        intro ad H locs lsx hW hS hag hn0 hsx hl
        obtain ⟨hP, hD, hwf⟩ := hW
        obtain ⟨hX, hbl, hbA⟩ := hSc L xs rfl ad hsx
        exact va_sld hx hb hX hbl hbA hS hi hd (h ad H locs lsx ⟨hP, hD, hwf⟩ hS hag hn0 hsx hl)
      · exact wld h
  | iastore =>
    obtain ⟨x, r2, rfl, h⟩ := pI_s h
    obtain ⟨i, r1, rfl, h⟩ := pI_s h
    obtain ⟨a, r, rfl, hk, hi, h⟩ := pR_s h
    simp only [okRow, dOk, Bool.and_eq_true, decide_eq_true_eq] at hrow
    obtain ⟨hd, rfl⟩ := hrow
    intro ad H locs lsx hW hS hag hn0 hsx hl
    obtain ⟨hP, hD, hwf⟩ := hW
    show W p l e R s m args below meth c H locs nc ns Qm (F0 m pc lsx (.int x :: .int i :: cv ad (.ref a) :: r.map (cv ad)))
    rw [cvp ad hwf hk (by omega)]
    refine va_iast hx hb hK hP hD hS (a - 1) 0 (ws_8 hwf hk) (tysK_8 K) hi hd (fun H1 locs1 hP1 hD1 hS1 => ?_)
    rw [ws_setI hwf _ hk] at hP1 hD1
    exact h ad H1 locs1 lsx ⟨hP1, hD1, hwf⟩ hS1 hag hn0 hsx hl
  | baload =>
    obtain ⟨i, r1, rfl, h⟩ := pI_s h
    obtain ⟨a, r, rfl, hk, hi, h⟩ := pR_s h
    simp only [okRow, dOk, Bool.and_eq_true, decide_eq_true_eq] at hrow
    obtain ⟨hd, rfl⟩ := hrow
    intro ad H locs lsx hW hS hag hn0 hsx hl
    obtain ⟨hP, hD, hwf⟩ := hW
    show W p l e R s m args below meth c H locs nc ns Qm (F0 m pc lsx (.int i :: cv ad (.ref a) :: r.map (cv ad)))
    rw [cvp ad hwf hk (by omega)]
    exact va_zald hx hb hK hP (a - 1) 1 (ws_9 hwf hk) (tysK_9 K) hi hd (h ad H locs lsx ⟨hP, hD, hwf⟩ hS hag hn0 hsx hl)
  | bastore =>
    obtain ⟨x, r2, rfl, h⟩ := pI_s h
    obtain ⟨i, r1, rfl, h⟩ := pI_s h
    obtain ⟨a, r, rfl, hk, hi, h⟩ := pR_s h
    simp only [okRow, dOk, Bool.and_eq_true, decide_eq_true_eq] at hrow
    obtain ⟨hd, rfl⟩ := hrow
    intro ad H locs lsx hW hS hag hn0 hsx hl
    obtain ⟨hP, hD, hwf⟩ := hW
    show W p l e R s m args below meth c H locs nc ns Qm (F0 m pc lsx (.int x :: .int i :: cv ad (.ref a) :: r.map (cv ad)))
    rw [cvp ad hwf hk (by omega)]
    refine va_zast hx hb hK hP hD hS (a - 1) 1 (ws_9 hwf hk) (tysK_9 K) hi hd (fun H1 locs1 hP1 hD1 hS1 => ?_)
    rw [ws_setZ hwf _ hk] at hP1 hD1
    exact h ad H1 locs1 lsx ⟨hP1, hD1, hwf⟩ hS1 hag hn0 hsx hl
  | aaload =>
    obtain ⟨i, r1, rfl, h⟩ := pI_s h
    obtain ⟨a, r, rfl, hk, hi, h⟩ := pR_s h
    simp only [okRow, dOk, Bool.and_eq_true, decide_eq_true_eq] at hrow
    obtain ⟨hd, rfl⟩ := hrow
    intro ad H locs lsx hW hS hag hn0 hsx hl
    obtain ⟨hP, hD, hwf⟩ := hW
    show W p l e R s m args below meth c H locs nc ns Qm (F0 m pc lsx (.int i :: cv ad (.ref a) :: r.map (cv ad)))
    rw [cvp ad hwf hk (by omega)]
    refine va_aldq hx hb hK hP (a - 1) 3 (ws_11 hwf hk) (tysK_11 K) hi hd ?_
    rw [va_rfo]
    exact h ad H locs lsx ⟨hP, hD, hwf⟩ hS hag hn0 hsx hl
  | aastore =>
    obtain ⟨x, r2, rfl, h⟩ := pR_s h
    obtain ⟨i, r1, rfl, h⟩ := pI_s h
    obtain ⟨a, r, rfl, hk, hkx, hi, h⟩ := pR_s h
    simp only [okRow, dOk, Bool.and_eq_true, decide_eq_true_eq] at hrow
    obtain ⟨hd, rfl⟩ := hrow
    intro ad H locs lsx hW hS hag hn0 hsx hl
    obtain ⟨hP, hD, hwf⟩ := hW
    show W p l e R s m args below meth c H locs nc ns Qm (F0 m pc lsx (cv ad (.ref x) :: .int i :: cv ad (.ref a) :: r.map (cv ad)))
    rw [cvp ad hwf hk (by omega), cvp ad hwf hkx (by omega)]
    have hxb := wf_in hwf hkx (by omega)
    refine va_astq (r := (RX2, TX2, 17)) hx hb hK hP hD hS (a - 1) 3 (x - 1) 2 (ws_11 hwf hk) (tysK_11 K) (ws_obj hwf hkx (by omega)) rfl hi hd (fun H1 locs1 hP1 hD1 hS1 => ?_)
    rw [ws_setQ hwf hxb.1 hk] at hP1 hD1
    exact h ad H1 locs1 lsx ⟨hP1, hD1, wR_wf hwf hxb.2⟩ hS1 hag hn0 hsx hl
  | arraylength =>
    obtain ⟨a, r, rfl, h⟩ := pR_s h
    simp only [okRow, dOk, Bool.and_eq_true, decide_eq_true_eq] at hrow
    obtain ⟨hd, rfl⟩ := hrow
    have wld : ((8 ≤ w.1.2.1 a ∧ w.1.2.1 a ≤ 11) ∧ MW p l e R s m args below meth c D K A ad0 n0 nL Sx Qm (pc + 1, ls, .int (Int32.ofNat (w.1.2.2.1 a)) :: r, w, nc, ns)) → MW p l e R s m args below meth c D K A ad0 n0 nL Sx Qm (pc, ls, .ref a :: r, w, nc, ns) := by
      intro h
      obtain ⟨⟨hk1, hk2⟩, h⟩ := h
      intro ad H locs lsx hW hS hag hn0 hsx hl
      obtain ⟨hP, hD, hwf⟩ := hW
      show W p l e R s m args below meth c H locs nc ns Qm (F0 m pc lsx (cv ad (.ref a) :: r.map (cv ad)))
      rw [cvp ad hwf rfl (by omega)]
      rcases (show w.1.2.1 a = 8 ∨ w.1.2.1 a = 9 ∨ w.1.2.1 a = 10 ∨ w.1.2.1 a = 11 by omega) with hk | hk | hk | hk
      · exact va_alen hx hb hK hP (a - 1) 0 (ws_8 hwf hk) (tysK_8 K) rfl hd (h ad H locs lsx ⟨hP, hD, hwf⟩ hS hag hn0 hsx hl)
      · exact va_alen hx hb hK hP (a - 1) 1 (ws_9 hwf hk) (tysK_9 K) rfl hd (h ad H locs lsx ⟨hP, hD, hwf⟩ hS hag hn0 hsx hl)
      · exact va_alen hx hb hK hP (a - 1) 2 (ws_10 hwf hk) (tysK_10 K) rfl hd (h ad H locs lsx ⟨hP, hD, hwf⟩ hS hag hn0 hsx hl)
      · exact va_alen hx hb hK hP (a - 1) 3 (ws_11 hwf hk) (tysK_11 K) rfl hd (h ad H locs lsx ⟨hP, hD, hwf⟩ hS hag hn0 hsx hl)
    cases SX with
    | none => exact wld h
    | some q =>
      obtain ⟨L, xs⟩ := q
      rcases nI1_s h with ⟨ha, h⟩ | ⟨ha, h⟩
      · subst ha
        intro ad H locs lsx hW hS hag hn0 hsx hl
        obtain ⟨hP, hD, hwf⟩ := hW
        obtain ⟨hX, hbl, hbA⟩ := hSc L xs rfl ad hsx
        exact va_slen hx hb hX hbl hbA hS hd (h ad H locs lsx ⟨hP, hD, hwf⟩ hS hag hn0 hsx hl)
      · exact wld ⟨by omega, h.2⟩
  | newarray at9 =>
    obtain ⟨k, r0, rfl, h⟩ := aC_s h
    obtain ⟨n, r, rfl, ⟨hn9, hbig, hc1, hc2, hlim, hfr⟩, h9⟩ := pI_s h
    simp only [okRow, dOk, Bool.and_eq_true, decide_eq_true_eq] at hrow
    obtain ⟨⟨hd, rfl⟩, hq⟩ := hrow
    rcases r0 with _ | ⟨p9, _ | ⟨p8, r0⟩⟩
    · simp at hq
    · simp only [Bool.and_eq_true, Bool.or_eq_true, decide_eq_true_eq] at hq
      obtain ⟨hw9, hkk⟩ := hq
      intro ad H locs lsx hW hS hag hn0 hsx hl
      obtain ⟨hP, hD, hwf⟩ := hW
      -- behind the making
      have fin : ∀ (q : Nat) (cA : ClassId) (H1 : Heap) (a0 : vp_A), cellW K (upA ad (w.1.1 + 1) q) (wAl w k n.toNatClampNeg) (w.1.1 + 1) = .inl (cA, a0) → va_P D vwCl (wsW K ad w ++ [(q, .inl (cA, a0))]) H1 → va_D A (wsW K ad w ++ [(q, .inl (cA, a0))]) → va_S A s.heap H1 locs → W p l e R s m args below meth c H1 locs (nc + 1) (ns + n.toNatClampNeg) Qm (F0 m (pc + 2) lsx (.ref q :: r.map (cv ad))) := by
        intro q cA H1 a0 hcell hP1 hD1 hS1
        have hpush := wsW_push K ad (upA ad (w.1.1 + 1) q) w k n.toNatClampNeg q hwf (fun i hi => upA_n _ _ (by omega)) (upA_s _ _ _)
        rw [hcell] at hpush
        rw [← hpush] at hP1 hD1
        have hm := frB_map (ad := ad) (ad' := upA ad (w.1.1 + 1) q) hfr (fun x hx => upA_n _ _ (by omega))
        have := h9 (upA ad (w.1.1 + 1) q) H1 locs lsx ⟨hP1, hD1, wAl_wf w k _ hwf hlim⟩ hS1 (fun i hi => (upA_n _ _ (by have : n0 ≤ w.1.1 := hn0; omega)).trans (hag i hi)) (Nat.le_trans hn0 (Nat.le_succ _)) (hSx ad _ hsx (upA_n _ _ (by omega))) (by rw [hm.2]; exact hl)
        have e1 : (.ref q :: r.map (cv ad)) = (Value.ref (w.1.1 + 1) :: r).map (cv (upA ad (w.1.1 + 1) q)) := by
          rw [List.map_cons, hm.1, cv_pos _ (by omega), upA_s]
        rw [e1]
        exact this
      have uniq : ∀ (t : FieldType) (i0 : Nat) (cA cB : ClassId), va_K D vwCl (tysK K ++ [(cA, t)]) s → (tysK K)[i0]? = some (cB, t) → (∀ C, t ≠ .object C) → cA = cB := by
        intro t i0 cA cB hK1 hi0 hno
        have e1 := (hK1.2 4 (cA, t) rfl).2
        have e2 := (hK.2 i0 (cB, t) hi0).2
        cases t with
        | object C => exact absurd rfl (hno C)
        | _ => exact Option.some.inj (e1.symm.trans e2)
      have kd : (wAl w k n.toNatClampNeg).1.2.1 (w.1.1 + 1) = k := upA_s _ _ _
      have ln : (wAl w k n.toNatClampNeg).1.2.2.1 (w.1.1 + 1) = n.toNatClampNeg := upA_s _ _ _
      have mi : (wAl w k n.toNatClampNeg).2.1 (w.1.1 + 1) = fun _ => 0 := upA_s _ _ _
      have mj : (wAl w k n.toNatClampNeg).2.2 (w.1.1 + 1) = fun _ => 0 := upA_s _ _ _
      rcases hkk with ⟨rfl, rfl⟩ | ⟨rfl, rfl⟩
      · refine va_newa (atype := .int) (a0 := (n.toNatClampNeg, .inl (fun _ => 0))) hx hb (hts _ (wAt_in hw9)) rfl hK hP hD hS hA (fun cA => rfl) hn9 rfl (by show _ * 4 ≤ _; omega) (by rw [hRc]; exact hc1) (by rw [hRs]; exact hc2) hd (fun q cA H1 hK1 hP1 hD1 hS1 => ?_)
        refine fin q cA H1 _ ?_ hP1 hD1 hS1
        rw [cellW_8 K _ _ kd, ln, mi, uniq .int 0 cA (K 8) hK1 rfl (fun C h => by cases h)]
      · refine va_newa (atype := .boolean) (a0 := (n.toNatClampNeg, .inl (fun _ => 0))) hx hb (hts _ (wAt_in hw9)) rfl hK hP hD hS hA (fun cA => rfl) hn9 rfl (by show _ * 1 ≤ _; omega) (by rw [hRc]; exact hc1) (by rw [hRs]; exact hc2) hd (fun q cA H1 hK1 hP1 hD1 hS1 => ?_)
        refine fin q cA H1 _ ?_ hP1 hD1 hS1
        rw [cellW_9 K _ _ kd, ln, mi, uniq .boolean 1 cA (K 9) hK1 rfl (fun C h => by cases h)]
    · simp at hq
  | anewarray i =>
    obtain ⟨n, r, rfl, ⟨hn9, hbig, hc1, hc2, hlim, hfr⟩, h9⟩ := pI_s h
    simp only [okRow, dOk, Bool.and_eq_true, decide_eq_true_eq] at hrow
    obtain ⟨⟨hd, rfl⟩, hq⟩ := hrow
    split at hq
    · intro ad H locs lsx hW hS hag hn0 hsx hl
      obtain ⟨hP, hD, hwf⟩ := hW
      refine va_newq hx hb hown (hts _ (wAt_in hq)) hAO hK hP hD hS hA hn9 rfl (by omega) (by rw [hRc]; exact hc1) (by rw [hRs]; exact hc2) hd (fun q cA H1 hK1 hP1 hD1 hS1 => ?_)
      have hcA : cA = K 11 := by
        obtain ⟨k1, c1, -, -, -, e1⟩ := (hK1.2 4 (cA, .object "OdometerRing$Odometer") rfl).2
        obtain ⟨k2, c2, -, -, -, e2⟩ := (hK.2 3 (K 11, .object "OdometerRing$Odometer") rfl).2
        exact Option.some.inj (e1.symm.trans e2)
      have kd : (wAl w 11 n.toNatClampNeg).1.2.1 (w.1.1 + 1) = 11 := upA_s _ _ _
      have ln : (wAl w 11 n.toNatClampNeg).1.2.2.1 (w.1.1 + 1) = n.toNatClampNeg := upA_s _ _ _
      have mr : (wAl w 11 n.toNatClampNeg).1.2.2.2 (w.1.1 + 1) = fun _ => 0 := upA_s _ _ _
      have hcell : cellW K (upA ad (w.1.1 + 1) q) (wAl w 11 n.toNatClampNeg) (w.1.1 + 1) = .inl (cA, n.toNatClampNeg, .inr (.inr (.inr (.inr (fun _ => none))))) := by
        rw [cellW_11 K _ _ kd, ln, mr, hcA]
        rfl
      have hpush := wsW_push K ad (upA ad (w.1.1 + 1) q) w 11 n.toNatClampNeg q hwf (fun i hi => upA_n _ _ (by omega)) (upA_s _ _ _)
      rw [hcell] at hpush
      rw [← hpush] at hP1 hD1
      have hm := frB_map (ad := ad) (ad' := upA ad (w.1.1 + 1) q) hfr (fun x hx => upA_n _ _ (by omega))
      have := h9 (upA ad (w.1.1 + 1) q) H1 locs lsx ⟨hP1, hD1, wAl_wf w 11 _ hwf hlim⟩ hS1 (fun i hi => (upA_n _ _ (by have : n0 ≤ w.1.1 := hn0; omega)).trans (hag i hi)) (Nat.le_trans hn0 (Nat.le_succ _)) (hSx ad _ hsx (upA_n _ _ (by omega))) (by rw [hm.2]; exact hl)
      have e1 : (.ref q :: r.map (cv ad)) = (Value.ref (w.1.1 + 1) :: r).map (cv (upA ad (w.1.1 + 1) q)) := by
        rw [List.map_cons, hm.1, cv_pos _ (by omega), upA_s]
      rw [e1]
      exact this
    · exact absurd hq (by simp)
  | new i =>
    obtain ⟨t, r0, rfl, h⟩ := aC_s h
    obtain ⟨ci, r1, rfl, h⟩ := aC_s h
    rcases nI1_s h with ⟨rfl, ⟨hc1, hc2, hlim, hfr⟩, h9⟩ | ⟨ht, -⟩
    · rcases r1 with _ | ⟨p1, _ | ⟨p2, _ | ⟨p3, _ | ⟨p4, r1⟩⟩⟩⟩
      · simp [okRow] at hrow
      · simp [okRow] at hrow
      · simp [okRow] at hrow
      · simp only [okRow, dOk, Bool.and_eq_true, decide_eq_true_eq] at hrow
        obtain ⟨⟨hd, rfl⟩, hci, hw1, hw2, hw3⟩ := hrow
        have hF := clsF ci hci
        intro ad H locs lsx hW hS hag hn0 hsx hl
        obtain ⟨hP, hD, hwf⟩ := hW
        have kd : (wAl w ci 0).1.2.1 (w.1.1 + 1) = ci := upA_s _ _ _
        have mi : (wAl w ci 0).2.1 (w.1.1 + 1) = fun _ => 0 := upA_s _ _ _
        have mr : (wAl w ci 0).1.2.2.2 (w.1.1 + 1) = fun _ => 0 := upA_s _ _ _
        have fe : ∀ ad9 : Nat → Nat, fldV ad9 (wAl w ci 0) ci (w.1.1 + 1) = fun k => if fK ci k = 1 then .null else .int 0 := by
          intro ad9
          funext k
          unfold fldV
          rw [mi, mr]
          rfl
        refine va_new (fs := (List.range (nF ci)).map (fun k => if fK ci k = 1 then Value.null else .int 0)) hx hb hts hF.2.1 (tyXc ci) hF.2.2.1 hown (hts _ (wAt_in hw1)) (hts _ (wAt_in hw2)) (hts _ (wAt_in hw3)) hK hP hD hS hA hF.1 (fun k hk => ?_) (by rw [hRc]; exact hc1) (by rw [hRs]; exact hc2) hd (fun q H1 hP1 hD1 hS1 => ?_)
        · rw [dflt ci hci k hk]
          simp [vp_V, List.getD, List.getElem?_map, List.getElem?_range hk]
        · have hcell : cellW K (upA ad (w.1.1 + 1) q) (wAl w ci 0) (w.1.1 + 1) = .inr (ci, (List.range (nF ci)).map (fun k => if fK ci k = 1 then Value.null else .int 0)) := by
            rw [cellW_obj K _ _ kd hci, fe]
          have hpush := wsW_push K ad (upA ad (w.1.1 + 1) q) w ci 0 q hwf (fun i hi => upA_n _ _ (by omega)) (upA_s _ _ _)
          rw [hcell] at hpush
          rw [← hpush] at hP1 hD1
          have hm := frB_map (ad := ad) (ad' := upA ad (w.1.1 + 1) q) hfr (fun x hx => upA_n _ _ (by omega))
          have := h9 (upA ad (w.1.1 + 1) q) H1 locs lsx ⟨hP1, hD1, wAl_wf w ci _ hwf hlim⟩ hS1 (fun i hi => (upA_n _ _ (by have : n0 ≤ w.1.1 := hn0; omega)).trans (hag i hi)) (Nat.le_trans hn0 (Nat.le_succ _)) (hSx ad _ hsx (upA_n _ _ (by omega))) (by rw [hm.2]; exact hl)
          have e1 : (.ref q :: st.map (cv ad)) = (Value.ref (w.1.1 + 1) :: st).map (cv (upA ad (w.1.1 + 1) q)) := by
            rw [List.map_cons, hm.1, cv_pos _ (by omega), upA_s]
          rw [e1]
          exact this
      · simp [okRow] at hrow
    · exact absurd hs (by simp [isW, ht])
  | _ => exact absurd hs (by simp [isW])
