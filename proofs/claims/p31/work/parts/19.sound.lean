/-! SOUNDNESS: the methods -/
def okX (j : Nat) : Bool := match lkp hxT j, hhT j with
  | none, [] => true
  | some (lo, hi, [(n1, h1)]), [(a, b, h, ct)] => decide (a = lo) && (decide (b = hi) && (decide (h = h1) && (decide (ct ≠ 0) && (decide (Cond.classLink (ownO j) ct n1 ∈ lw_tbl) && (goodWord (Cond.classLink (ownO j) ct n1) && decide (n1 = excN 0 ∨ n1 = excN 1 ∨ n1 = excN 2))))))
  | some (lo, hi, [(n1, h1), (n2, h2)]), [(a, b, h, ct), (a', b', h', ct')] => decide (a = lo) && (decide (b = hi) && (decide (h = h1) && (decide (ct ≠ 0) && (decide (Cond.classLink (ownO j) ct n1 ∈ lw_tbl) && (goodWord (Cond.classLink (ownO j) ct n1) && (decide (n1 = excN 0 ∨ n1 = excN 1 ∨ n1 = excN 2) &&
      (decide (a' = lo) && (decide (b' = hi) && (decide (h' = h2) && (decide (ct' ≠ 0) && (decide (Cond.classLink (ownO j) ct' n2 ∈ lw_tbl) && (goodWord (Cond.classLink (ownO j) ct' n2) && decide (n2 = excN 0 ∨ n2 = excN 1 ∨ n2 = excN 2)))))))))))))
  | _, _ => false
theorem okX_all : (List.range 132).all (fun j => okX j && plainName (yN j).cls) = true := by decide +kernel
theorem excN_ix {n : String} (h : n = excN 0 ∨ n = excN 1 ∨ n = excN 2) : ∃ k, k < 3 ∧ n = excN k := by
  rcases h with h | h | h
  · exact ⟨0, by omega, h⟩
  · exact ⟨1, by omega, h⟩
  · exact ⟨2, by omega, h⟩
theorem lgsl_len : ∀ vs : List Value, (lg_sl vs).length = catS vs
  | [] => rfl
  | v :: t => by
    have ih := lgsl_len t
    unfold lg_sl at ih ⊢
    rw [List.flatMap_cons, List.length_append, ih]
    show _ = v.category + catS t
    rcases lv_cat v with h | h <;> simp [h]
theorem lv_args_cvl (ad : Nat → Nat) : ∀ (as : List Value) (i : Nat), lv_args i (as.map (cv ad)) = cvl ad (lv_args i as)
  | [], _ => rfl
  | v :: t, i => by
    show (i, cv ad v) :: lv_args (if (cv ad v).category = 2 then i + 2 else i + 1) (t.map (cv ad)) = (i, cv ad v) :: cvl ad (lv_args (if v.category = 2 then i + 2 else i + 1) t)
    rw [cv_cat, lv_args_cvl ad t]
theorem catS_cv (ad : Nat → Nat) : ∀ l : List Value, catS (l.map (cv ad)) = catS l
  | [] => rfl
  | v :: t => by
    show (cv ad v).category + catS (t.map (cv ad)) = _
    rw [cv_cat, catS_cv ad t]
    rfl
/-- what a method's own table of handlers takes -/
theorem so_catch {p : Program} {l : Launch} {e : Env} {R : Room} {s : State} {m : MethodId} {args : Array Value} {below : List Frame} {meth : Method} {c : Code} {Qm : State → Prop} {j pc : Nat}
    (hown : s.vm.findClass (ownO j) = some m.cls) (hts : ∀ w ∈ GG, w.before args s = true) (hT : EnvT s) (hok : okX j = true) (htab : hhT j = [] ∨ c.exceptionTable.toList.map (fun h => (h.startPc, h.endPc, h.handlerPc, h.catchType)) = hhT j) :
    ∀ (E : String) (h9 : Nat) (ce : Cell) (q9 : Addr) (H1 : Heap) (locs1 : List Loc) (lsx : Array Slot) (rest : List Value) (c9 s9 : Nat), hnT j pc E = some h9 → H1[q9]? = some ce → ce.vm = .none → s.vm.findClass E = some ce.cls → W p l e R s m args below meth c H1 locs1 c9 s9 Qm (F0 m h9 lsx [.ref q9]) → vx_W p l e R s m args below meth c H1 locs1 c9 s9 Qm (F0 m pc lsx rest) q9 := by
  intro E h9 ce q9 H1 locs1 lsx rest c9 s9 hn hce hcv hcl hW
  have gin : ∀ {w : Jvm.Cond}, w ∈ lw_tbl → goodWord w = true → w.before args s = true := fun h1 h2 => hts _ (List.mem_filter.mpr ⟨h1, h2⟩)
  unfold okX at hok
  split at hok
  · rename_i e1 e2
    unfold hnT at hn
    rw [e1] at hn
    cases hn
  · rename_i lo hi n1 h1 a b h ct e1 e2
    simp only [Bool.and_eq_true, decide_eq_true_eq] at hok
    obtain ⟨rfl, rfl, rfl, hct, hw1, hg1, hn1⟩ := hok
    unfold hnT at hn
    rw [e1] at hn
    dsimp only at hn
    cases hpc : (Nat.ble a pc && Nat.blt pc b) with
    | false => rw [hpc] at hn; cases hn
    | true =>
      rw [hpc] at hn
      simp only [Bool.and_eq_true] at hpc
      rcases htab with htab | htab
      · rw [htab] at e2; cases e2
      rw [e2] at htab
      obtain ⟨x, hx1, hx2⟩ := List.map_eq_singleton_iff.mp htab
      simp only [Prod.mk.injEq] at hx2
      obtain ⟨x1, x2, x3, x4⟩ := hx2
      have hcov : covers x pc = true := by
        simp only [covers, Bool.and_eq_true, decide_eq_true_eq]
        exact ⟨by rw [x1]; exact Nat.le_of_ble_eq_true hpc.1, by rw [x2]; exact Nat.le_of_ble_eq_true hpc.2⟩
      by_cases hE : n1 = E
      · subst hE
        simp at hn
        subst hn
        obtain ⟨k, hk, hnk⟩ := excN_ix hn1
        refine vx_catch (name := n1) hown [] x [] (by rw [hx1]; rfl) (fun z hz => nomatch hz) hcov (by rw [x4]; exact hct) (by rw [x4]; exact gin hw1 hg1) (by rw [hnk]; exact va_Nw.use rfl (hT.2.2.2.1 k hk)) hce hcv hcl (by rw [x3]; exact hW)
      · simp [hE] at hn
  · rename_i lo hi n1 h1 n2 h2 a b h ct a' b' h' ct' e1 e2
    simp only [Bool.and_eq_true, decide_eq_true_eq] at hok
    obtain ⟨rfl, rfl, rfl, hct, hw1, hg1, hn1, ha', hb', rfl, hct', hw2, hg2, hn2⟩ := hok
    unfold hnT at hn
    rw [e1] at hn
    dsimp only at hn
    cases hpc : (Nat.ble a pc && Nat.blt pc b) with
    | false => rw [hpc] at hn; cases hn
    | true =>
      rw [hpc] at hn
      simp only [Bool.and_eq_true] at hpc
      rcases htab with htab | htab
      · rw [htab] at e2; cases e2
      rw [e2] at htab
      obtain ⟨x, y, hx1, hx2, hy2⟩ : ∃ x y, c.exceptionTable.toList = [x, y] ∧ (x.startPc, x.endPc, x.handlerPc, x.catchType) = (a, b, h, ct) ∧ (y.startPc, y.endPc, y.handlerPc, y.catchType) = (a', b', h', ct') := by
        cases hl : c.exceptionTable.toList with
        | nil => rw [hl] at htab; cases htab
        | cons x t => cases t with
          | nil => rw [hl] at htab; simp at htab
          | cons y t => cases t with
            | nil => rw [hl] at htab; simp only [List.map_cons, List.map_nil, List.cons.injEq, and_true] at htab; exact ⟨x, y, rfl, htab.1, htab.2⟩
            | cons z t => rw [hl] at htab; simp at htab
      simp only [Prod.mk.injEq] at hx2 hy2
      obtain ⟨x1, x2, x3, x4⟩ := hx2
      obtain ⟨y1, y2, y3, y4⟩ := hy2
      have hcov : covers x pc = true := by
        simp only [covers, Bool.and_eq_true, decide_eq_true_eq]
        exact ⟨by rw [x1]; exact Nat.le_of_ble_eq_true hpc.1, by rw [x2]; exact Nat.le_of_ble_eq_true hpc.2⟩
      have hcov2 : covers y pc = true := by
        simp only [covers, Bool.and_eq_true, decide_eq_true_eq]
        exact ⟨by rw [y1, ha']; exact Nat.le_of_ble_eq_true hpc.1, by rw [y2, hb']; exact Nat.le_of_ble_eq_true hpc.2⟩
      by_cases hE : n1 = E
      · subst hE
        simp at hn
        subst hn
        obtain ⟨k, hk, hnk⟩ := excN_ix hn1
        refine vx_catch (name := n1) hown [] x [y] (by rw [hx1]; rfl) (fun z hz => nomatch hz) hcov (by rw [x4]; exact hct) (by rw [x4]; exact gin hw1 hg1) (by rw [hnk]; exact va_Nw.use rfl (hT.2.2.2.1 k hk)) hce hcv hcl (by rw [x3]; exact hW)
      · by_cases hE2 : n2 = E
        · subst hE2
          simp [hE] at hn
          subst hn
          obtain ⟨k, hk, hnk⟩ := excN_ix hn1
          obtain ⟨k2, hk2, hnk2⟩ := excN_ix hn2
          have hne : k2 ≠ k := fun q => hE (by rw [hnk, hnk2, q])
          refine vx_catch (name := n2) hown [x] y [] (by rw [hx1]; rfl) (fun z hz => ?_) hcov2 (by rw [y4]; exact hct') (by rw [y4]; exact gin hw2 hg2) (by rw [hnk2]; exact va_Nw.use rfl (hT.2.2.2.1 k2 hk2)) hce hcv hcl (by rw [y3]; exact hW)
          rw [List.mem_singleton.mp hz]
          exact Or.inr ⟨by rw [x4]; exact hct, n1, by rw [x4]; exact gin hw1 hg1, by rw [hnk, hnk2]; exact hT.2.2.2.2.1 k2 k hk2 hk hne⟩
        · simp [hE, hE2] at hn
  · cases hok
theorem nzA_has {ad : Nat → Nat} {lsx : Array Slot} {nL : Nat} {nt : List (Nat × List Nat)} {pc : Nat} {ls : List (Nat × Value)} (h : lv_has lsx nL (cvl ad ls)) : lv_has lsx nL (cvl ad (nzA nt pc ls)) := by
  unfold nzA
  cases lkp nt pc with
  | none => exact h
  | some ks =>
    refine ⟨h.1, h.2.1, fun q hq => ?_⟩
    unfold cvl at hq
    obtain ⟨q0, hq0, rfl⟩ := List.mem_map.mp hq
    unfold nz at hq0
    obtain ⟨k, -, hk⟩ := List.mem_filterMap.mp hq0
    cases hl : lkp ls k with
    | none => rw [hl] at hk; cases hk
    | some v =>
      rw [hl] at hk
      cases hk
      exact lv_lkp h hl
theorem no5 {C : Cal} {mj : Nat → Nat × Nat} {kj nj : Nat → Nat} {mxc mxs : Nat} {hn : Nat → String → Option Nat} {Rt : Option Value → Wd → Nat → Nat → Prop} {Th : String → Wd → Nat → Nat → Prop} {i nx : Nat} {r : List Nat} {kc : Int32} {kl : Int64} {pc : Nat} {ls : List (Nat × Value)} {st : List Value} {w : Wd} {nc ns : Nat} {X : Fr → Prop} (h : stepI C mj kj nj none mxc mxs hn Rt Th (.invokestatic i) nx (5 :: r) kc kl pc ls st w nc ns X) : False := by
  obtain ⟨k, r1, rfl, h1⟩ := pI_s (show pI st (fun k r1 => pR r1 (fun a r => drI none a k (fun v => (catS r ≤ 8 ∧ nc ≤ mxc ∧ ns ≤ mxs) ∧ X (nx, ls, .int v :: r, w, nc, ns)))) from h)
  obtain ⟨a, r, rfl, h2⟩ := pR_s h1
  exact h2
theorem MW_nz {p : Program} {l : Launch} {e : Env} {R : Room} {s : State} {m : MethodId} {args : Array Value} {below : List Frame} {meth : Method} {c : Code} {D : va_G} {K : Nat → ClassId} {A : Nat → Prop} {ad0 : Nat → Nat} {n0 nL : Nat} {Sx : (Nat → Nat) → Prop} {Qm : State → Prop} {nt : List (Nat × List Nat)} {pc : Nat} {ls : List (Nat × Value)} {st : List Value} {w : Wd} {nc ns : Nat}
    (h : MW p l e R s m args below meth c D K A ad0 n0 nL Sx Qm (pc, nzA nt pc ls, st, w, nc, ns)) : MW p l e R s m args below meth c D K A ad0 n0 nL Sx Qm (pc, ls, st, w, nc, ns) :=
  fun ad H locs lsx hW hS hag hn0 hsx hl => h ad H locs lsx hW hS hag hn0 hsx (nzA_has hl)
set_option maxHeartbeats 4000000 in
theorem sound (l : Launch) (hl0 : l.stackTraces = false) (okAll : ∀ j, j < 132 → okM j = true) : ∀ (d j : Nat) (as : List Value) (w : Wd) (Q : Res → Wd → Prop), Wp d j as w Q → Ctr l d j as w Q := by
  intro d
  induction d with
  | zero => intro j as w Q h; exact h.elim
  | succ d ih =>
    intro j as w Q h
    obtain ⟨hcat, hE⟩ := h
    by_cases hj : j < 132
    case neg =>
      exfalso
      obtain ⟨k, rfl⟩ : ∃ k, j = k + 132 := ⟨j - 132, by omega⟩
      exact hE (fun _ => False) (fun g Y hg _ => hg)
    intro D K ad sz
    have hlen : catS as ≤ mL j := Nat.le_of_ble_eq_true hcat
    have hall := List.all_eq_true.mp okX_all j (List.mem_range.mpr hj)
    simp only [Bool.and_eq_true] at hall
    obtain ⟨hokx, pl⟩ := hall
    have body : ∀ p e s m args below meth c s₁, BodyLoose p l (yN j) (headSpec (hdW j :: GG) (rmO (d + 1) j)) (bC j) (mL j) (rT j) e s m args below meth c s₁ → c.maxLocals = mL j → PcO D K ad sz as w args s → (hhT j = [] → ∀ x ∈ c.exceptionTable.toList, False) → (hhT j = [] ∨ c.exceptionTable.toList.map (fun h => (h.startPc, h.endPc, h.handlerPc, h.catchType)) = hhT j) →
        W p l e (headSpec (hdW j :: GG) (rmO (d + 1) j)).room s m args below meth c s.heap [] 0 0 (vx_MQ below (QcO (rT j) D K (va_A (wsW K ad w) sz) ad w Q) (XcO D K (va_A (wsW K ad w) sz) ad w Q) args s (mjT j).1 (mjT j).2 (va_A (wsW K ad w) sz)) (entryFrame m args (mL j)) := by
      intro p e s m args below meth c s₁ B hml hpc hnoh htab
      obtain ⟨rfl, hsz, hP, hD0, hwf, hK, hT, hZ⟩ := hpc
      subst hsz
      have hx := B.exec
      have hb := B.bytes
      have hr := B.returns
      have hlocks := B.notSynchronized
      have hin : meth.name = (yN j).name := (name_of_methodNamed B.named B.method).1
      have hown : s.vm.findClass (ownO j) = some m.cls := findClass_of_methodNamed B.named
      have hts0 := atoms_spec (ws := hdW j :: GG) B.pre
      have hts : ∀ w ∈ GG, w.before (as.map (cv ad)).toArray s = true := fun w h => hts0 w (List.mem_cons_of_mem _ h)
      have hD := hD0.self (sz := s.heap.size)
      have hA : ∀ q : Nat, s.heap.size ≤ q → va_A (wsW K ad w) s.heap.size q := fun q h => Or.inr h
      have key : MW p l e (rmO (d + 1) j) s m (as.map (cv ad)).toArray below meth c D K (va_A (wsW K ad w) s.heap.size) ad w.1.1 (mL j) (fun _ => True) (vx_MQ below (QcO (rT j) D K (va_A (wsW K ad w) s.heap.size) ad w Q) (XcO D K (va_A (wsW K ad w) s.heap.size) ad w Q) (as.map (cv ad)).toArray s (mjT j).1 (mjT j).2 (va_A (wsW K ad w) s.heap.size)) (0, lv_args 0 as, [], w, 0, 0) := by
        refine hE _ (fun g Y hg hY => ?_)
        obtain ⟨pc, ls, st, w1, nc, ns⟩ := g
        have hg : (match lkp (cdT j) pc with
          | some (ins, nx, aux, kc, kl) => stepI (Wp d) mjT kO nA none (mjT j).1 (mjT j).2 (hnT j) (RtJ j Q) (ThJ (d + 1) j Q) ins nx aux kc kl pc (nzA (nzT j) pc ls) st w1 nc ns Y
          | none => False) := hg
        cases hrow : lkp (cdT j) pc with
        | none => rw [hrow] at hg; exact hg.elim
        | some row =>
          obtain ⟨ins, nx, aux, kc, kl⟩ := row
          rw [hrow] at hg
          have hok := okM_at (okAll j hj) hrow
          have h := stepI_m hY hg
          refine MW_nz (nt := nzT j) ?_
          generalize nzA (nzT j) pc ls = ls at h ⊢
          by_cases hs1 : isS ins = true
          · exact so_simple hx hb hml rfl hown hts hs1 hok h
          by_cases hs2 : isW ins aux = true
          · exact so_world hx hb hml rfl hown hts (fun q => hin.trans q) hK hT.2.2.1 hA (fun _ _ _ _ => trivial) rfl rfl (fun L xs q => by cases q) hs2 hok h
          by_cases hs3 : isC ins = true
          · have h5no : ∀ i r, ins = .invokestatic i → aux ≠ 5 :: r := by
              intro i r e4 e5
              subst e4
              subst e5
              exact no5 h
            exact so_call (d1 := d) hx hb hml rfl hown hts hK hT hZ hA (fun _ _ _ _ => trivial) rfl rfl (Nat.le_refl _) (by show 19 + mxO j + 34 * d ≤ 34 * (d + 1); rw [show mxO j = 12 from if_neg (by omega)]; omega) h5no (fun jc as w P q => ih jc as w P q) (so_catch hown hts hT hokx htab) hs3 hok h
          cases ins with
          | ireturn =>
            obtain ⟨x, r, rfl, h1⟩ := pI_s h
            obtain ⟨rfl, h2⟩ := pN_s h1
            simp only [okRow, dOk, Bool.and_eq_true, decide_eq_true_eq] at hok
            intro ad1 H locs lsx hW hS hag hn0 _ hl
            exact so_ret (n0 := 0) (Sx := fun _ => True) (Qm := fun _ => True) (v := some (.int x)) hx hb hml rfl hown hts hr hlocks hW hS hag hn0 h2 hok.1
          | lreturn =>
            obtain ⟨x, r, rfl, h1⟩ := pL_s h
            obtain ⟨rfl, h2⟩ := pN_s h1
            simp only [okRow, dOk, Bool.and_eq_true, decide_eq_true_eq] at hok
            intro ad1 H locs lsx hW hS hag hn0 _ hl
            exact so_ret (n0 := 0) (Sx := fun _ => True) (Qm := fun _ => True) (v := some (.long x)) hx hb hml rfl hown hts hr hlocks hW hS hag hn0 h2 hok.1
          | return_ =>
            obtain ⟨rfl, h2⟩ := pN_s h
            simp only [okRow, dOk, Bool.and_eq_true, decide_eq_true_eq] at hok
            intro ad1 H locs lsx hW hS hag hn0 _ hl
            exact so_ret (n0 := 0) (Sx := fun _ => True) (Qm := fun _ => True) (v := none) hx hb hml rfl hown hts hr hlocks hW hS hag hn0 h2 hok.1
          | new i =>
            obtain ⟨t, r0, rfl, h1⟩ := aC_s h
            obtain ⟨ci, r1, rfl, h2⟩ := aC_s h1
            rcases nI1_s h2 with ⟨rfl, -⟩ | ⟨ht, hcat9, hth⟩
            · exact absurd rfl hs2
            · obtain ⟨⟨t1, t2, t3, t4⟩, hQ⟩ := hth
              rcases t with _ | _ | t
              · exact absurd rfl ht
              · intro ad1 H locs lsx hW hS hag hn0 _ hl
                exact so_throw (n0 := 0) (Sx := fun _ => True) (Qm := fun _ => True) hx hb hml rfl hown hts hl0 hT hZ hlocks (hnoh t4) hok hW hS hag hn0 (hl.1.trans hml.symm) hcat9 t1 (by show 90 ≤ 34 * (d + 1); omega) t2 t3 t2 t3 hQ
              · simp [okRow] at hok
          | _ => first | exact absurd rfl hs1 | exact absurd rfl hs2 | exact absurd rfl hs3 | exact h.elim
      have hl := lv_entry (as.map (cv ad)) (n := mL j) (by rw [lgsl_len, catS_cv]; exact hlen)
      rw [lv_args_cvl] at hl
      rw [lg_entry_eq]
      exact key ad s.heap [] _ ⟨hP, hD, hwf⟩ va_S.rf (fun _ _ => rfl) (Nat.le_refl _) trivial hl
    cases hh : hhT j with
    | nil =>
      refine vx_ofW (cc := bC j) (maxL := mL j) (ret := rT j) pl (by rw [hdW_code hh]) (fun p e s m args below meth c s₁ B hml hno hpc => ?_)
      exact body p e s m args below meth c s₁ B hml hpc (fun _ => hno) (Or.inl hh)
    | cons q0 q1 =>
      refine vx_ofWH (hh := q0 :: q1) (cc := bC j) (maxL := mL j) (ret := rT j) pl (by rw [hdW_with hh]) (fun p e s m args below meth c s₁ B hml hpc => ?_)
      refine body p e s m args below meth c s₁ B hml hpc (fun q => by rw [hh] at q; cases q) (Or.inr ?_)
      have hw := atoms_spec (ws := hdW j :: GG) B.pre _ List.mem_cons_self
      rw [hdW_with hh] at hw
      obtain ⟨m9, meth9, c9, hn9, h1, h2, -, -, h5, -, -, -⟩ := Cond.codeWith_spec hw
      cases Option.some.inj (hn9.symm.trans B.named)
      cases Option.some.inj (h1.symm.trans B.method)
      cases Option.some.inj (h2.symm.trans (Stand.of_body B).code)
      rw [hh]
      exact h5
