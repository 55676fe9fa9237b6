/-! THE LAW, OUT OF ITS RUN ON THE ABSTRACT MACHINE -/
def w00 : Wd := ((0, fun _ => 99, fun _ => 0, fun _ _ => 0), fun _ _ => 0, fun _ _ => 0)
def SL (xs : Nat → Int32) (L : Nat) : SF := stepF (nzT 132) cd132 (Wp 11) mjT kO nA (some (L, xs)) 600130 7301080 (fun _ _ => none) (fun v _ nc ns => (nc ≤ 600130 ∧ ns ≤ 7301080) ∧ v = some (.int 1)) (fun _ _ _ _ => False)
/-- the law's run on the abstract machine ends with true -/
def LawOk (xs : Nat → Int32) (L : Nat) : Prop := EE (SL xs L) (0, [(0, .ref 1000001)], [], w00, 0, 0)
theorem nest_tbl : ∀ w ∈ nestW, w ∈ lw_tbl := by decide +kernel
theorem dec_tbl : ∀ w ∈ decW, w ∈ lw_tbl := by decide +kernel
theorem str_tbl : ∀ q ∈ strT, (Cond.stringRef q.1 q.2.1 q.2.2) ∈ lw_tbl := by decide +kernel
theorem str_nar : ∀ q ∈ strT, (Cond.exactly (.string q.1 q.2.1) "java/lang/String") ∈ flatC (Jvm.Cond.and given_1 narrow_1) := by decide +kernel
theorem cast_tbl : ∀ k, k < 3 → (Cond.castable (excN k) (excN k)) ∈ lw_tbl := by decide +kernel
theorem ncast_nar : ∀ k, k < 3 → ∀ k', k' < 3 → k ≠ k' → (Cond.not (Cond.castable (excN k) (excN k'))) ∈ flatC (Jvm.Cond.and given_1 narrow_1) := by decide +kernel
theorem K_at {s : State} {args : Array Value} (t : FieldType) (h : (Cond.arrayClass t).before args s = true) (ht : ∀ C, t ≠ .object C) : ∃ cA : ClassId, ArrOfT s cA t ∧ va_RA s cA t := by
  obtain ⟨cA, kA, comp, h1, h2, h3⟩ := Cond.arrayClass_spec h
  refine ⟨cA, fun n z => ⟨fun k h => (by cases h), kA, h2, comp, h3⟩, ?_⟩
  cases t with
  | object C => exact absurd rfl (ht C)
  | _ => exact h1
set_option maxHeartbeats 4000000 in
theorem law_start {p : Program} {e : Env} {s : State} {m : MethodId} {below : List Frame} {meth : Method} {c : Code} (l : Launch) (hflags : l.flags = flags0) {b L : Nat} {xs : Nat → Int32} (hL : L < 2147483648) (C0 : lw_At p s m meth c b L xs) (hE : LawOk xs L) : W p l e room_1 s m #[Value.ref b] below meth c s.heap [] 0 0 (lw_Z below #[Value.ref b] s) (entryFrame m ([Value.ref b] : List Value).toArray 7) := by
  obtain ⟨hx, hb, hr, hml, hown, hts0, hX, hbl, hlocks, hgv⟩ := id C0
  have hl0 : l.stackTraces = false := by
    unfold Launch.stackTraces
    rw [hflags]
    decide +kernel
  have hfl := flat_of_before _ hgv
  have hts : ∀ w ∈ GG, w.before #[Value.ref b] s = true := fun w h => hts0 w (List.mem_filter.mp h).1
  have hA : ∀ q : Nat, s.heap.size ≤ q → (fun q : Nat => s.heap.size ≤ q) q := fun _ h => h
  -- classes
  have kn : ∀ ci, ci < 7 → ∃ (cC : ClassId) (iS : Nat → Nat), u_Kn s (RXc ci) (TXc ci) (nF ci) cC iS := by
    intro ci hci
    have hF := clsF ci hci
    exact u_known hts hF.2.1 (hts0 (.instantiable (RXc ci) (nF ci)) (by
      match ci, hci with
      | 0, _ => decide +kernel
      | 1, _ => decide +kernel
      | 2, _ => decide +kernel
      | 3, _ => decide +kernel
      | 4, _ => decide +kernel
      | 5, _ => decide +kernel
      | 6, _ => decide +kernel))
  obtain ⟨D, hD0⟩ : ∃ D : va_G, ∀ (k : Nat) (q : vw_C), vwCl[k]? = some q → u_Kn s q.1 q.2.1 q.2.2 (D.1 k) (D.2 k) := by
    have kn' : ∀ ci, ∃ (cI : ClassId × (Nat → Nat)), ci < 7 → u_Kn s (RXc ci) (TXc ci) (nF ci) cI.1 cI.2 := by
      intro ci
      by_cases h : ci < 7
      · obtain ⟨a1, a2, a3⟩ := kn ci h
        exact ⟨(a1, a2), fun _ => a3⟩
      · exact ⟨(0, fun _ => 0), fun q => absurd q h⟩
    refine ⟨(fun k => (Classical.choose (kn' k)).1, fun k => (Classical.choose (kn' k)).2), fun k q hq => ?_⟩
    have hk : k < 7 := (List.getElem?_eq_some_iff.mp hq).1
    have := Classical.choose_spec (kn' k) hk
    rw [(clsF k hk).1] at hq
    cases hq
    exact this
  obtain ⟨k8, hk8⟩ := K_at (s := s) .int (hts0 (.arrayClass .int) (by decide +kernel)) (fun C h => by cases h)
  obtain ⟨k9, hk9⟩ := K_at (s := s) .boolean (hts0 (.arrayClass .boolean) (by decide +kernel)) (fun C h => by cases h)
  have hAO : va_AO "OdometerRing$Odometer" s := va_AO.of (hts0 (.arrayOver (.object "OdometerRing$Odometer")) (by decide +kernel))
  obtain ⟨comp, k11, kc, f1, f2, f3, f4, f5⟩ := Cond.arrayOver_spec (va_AO.use (A := #[]) hAO)
  have hk11 : ArrOfT s k11 (.object "OdometerRing$Odometer") ∧ va_RA s k11 (.object "OdometerRing$Odometer") := ⟨fun N z => ⟨(fun k h => by cases h), kc, f3, comp, f4⟩, kc, comp, f3, f4, f1, f5⟩
  obtain ⟨K, e8, e9, e10, e11⟩ : ∃ K : Nat → ClassId, K 8 = k8 ∧ K 9 = k9 ∧ K 10 = k8 ∧ K 11 = k11 := ⟨fun k => if k = 8 then k8 else if k = 9 then k9 else if k = 10 then k8 else k11, rfl, rfl, rfl, rfl⟩
  have hK : va_K D vwCl (tysK K) s := by
    refine ⟨hD0, fun k q hq => ?_⟩
    unfold tysK at hq
    match k, hq with
    | 0, hq => cases hq; rw [e8]; exact hk8
    | 1, hq => cases hq; rw [e9]; exact hk9
    | 2, hq => cases hq; rw [e10]; exact hk8
    | 3, hq => cases hq; rw [e11]; exact hk11
    | k + 4, hq => simp at hq
  have hT : EnvT s := by
    refine ⟨fun w hw => ?_, fun q hq => ?_, hAO, fun k hk => va_Nw.of rfl (hts0 _ (cast_tbl k hk)), fun k k' hk hk' hne => va_Nc.of (hfl _ (ncast_nar k hk k' hk' hne)), fun w hw => ?_⟩
    · have h9 := hts0 _ (nest_tbl w hw)
      simp only [nestW, List.mem_cons, List.not_mem_nil, or_false] at hw
      rcases hw with rfl | rfl | rfl | rfl | rfl | rfl | rfl | rfl <;> exact va_Nw.of rfl h9
    · obtain ⟨a, c1, cell, k, h1, -⟩ := Cond.exactly_spec (hfl _ (str_nar q hq))
      exact ⟨a, vk_R.of (A := #[Value.ref b]) (hts0 _ (str_tbl q hq)) h1⟩
    · have h9 := hts0 _ (dec_tbl w hw)
      simp only [decW, List.mem_cons, List.not_mem_nil, or_false] at hw
      rcases hw with rfl | rfl | rfl <;> exact va_Nw.of rfl h9
  have hZ : EnvZ (fun q : Nat => s.heap.size ≤ q) s s.heap :=
    ⟨vx_Zqof (hts0 _ (by decide +kernel)) (hts0 _ (by decide +kernel)) (hfl _ (by decide +kernel)) (fun a h => Nat.not_le.mpr h), vx_Zqof (hts0 _ (by decide +kernel)) (hts0 _ (by decide +kernel)) (hfl _ (by decide +kernel)) (fun a h => Nat.not_le.mpr h)⟩
  obtain ⟨ad, had⟩ : ∃ ad : Nat → Nat, ad 1000001 = b := ⟨fun _ => b, rfl⟩
  have key : MW p l e room_1 s m #[Value.ref b] below meth c D K (fun q : Nat => s.heap.size ≤ q) ad 0 7 (fun ad => ad 1000001 = b) (lw_Z below #[Value.ref b] s) (0, [(0, .ref 1000001)], [], w00, 0, 0) := by
    refine hE _ (fun g Y hg hY => ?_)
    obtain ⟨pc, ls, st, w1, nc, ns⟩ := g
    have hg : (match lkp cd132 pc with
      | some (ins, nx, aux, kc, kl) => stepI (Wp 11) mjT kO nA (some (L, xs)) 600130 7301080 (fun _ _ => none) (fun v _ nc ns => (nc ≤ 600130 ∧ ns ≤ 7301080) ∧ v = some (.int 1)) (fun _ _ _ _ => False) ins nx aux kc kl pc (nzA (nzT 132) pc ls) st w1 nc ns Y
      | none => False) := hg
    cases hrow : lkp cd132 pc with
    | none => rw [hrow] at hg; exact hg.elim
    | some row =>
      obtain ⟨ins, nx, aux, kc, kl⟩ := row
      rw [hrow] at hg
      have hok := okL_at hrow
      have h := stepI_m hY hg
      refine MW_nz (nt := nzT 132) ?_
      generalize nzA (nzT 132) pc ls = ls at h ⊢
      by_cases hs1 : isS ins = true
      · exact so_simple (j := 132) hx hb hml rfl hown hts hs1 hok h
      by_cases hs2 : isW ins aux = true
      · exact so_world (j := 132) hx hb hml rfl hown hts (fun q => absurd (show ("law" : String) = "<init>" from q) (by decide)) hK hAO hA (fun ad ad' h1 h2 => h2.trans h1) rfl rfl (fun L' xs' q ad' h9 => by
          cases q
          rw [h9]
          exact ⟨hX, hbl, Nat.not_le.mpr hbl⟩) hs2 hok h
      by_cases hs4 : ∃ i r5, ins = .invokestatic i ∧ aux = 5 :: r5
      · obtain ⟨i, r5, rfl, rfl⟩ := hs4
        exact so_draw (j := 132) hx hb hml rfl hown hts hK hT hZ hA (fun ad ad' h1 h2 => h2.trans h1) (fun ad h => h) hX hbl (Nat.not_le.mpr hbl) hL (fun E => rfl) rfl rfl (by decide) (by decide) hok h
      by_cases hs3 : isC ins = true
      · exact so_call (j := 132) (d1 := 11) hx hb hml rfl hown hts hK hT hZ hA (fun ad ad' h1 h2 => h2.trans h1) rfl rfl (Nat.le_refl _) (by decide) (fun i r e4 e5 => hs4 ⟨i, r, e4, e5⟩) (fun jc as w P q => sound l hl0 okAll 11 jc as w P q) (fun E h9 ce q9 H1 locs1 lsx rest c9 s9 hn => by cases hn) hs3 hok h
      cases ins with
      | ireturn =>
        obtain ⟨x, r, rfl, h1⟩ := pI_s h
        obtain ⟨rfl, ⟨b1, b2⟩, h2⟩ := pN_s h1
        cases h2
        simp only [okRow, dOk, Bool.and_eq_true, decide_eq_true_eq] at hok
        intro ad1 H locs lsx hW hS hag hn0 _ hl
        refine va_forget (fun q hq => hS.2.2 q hq) (W.widen b1 b2 ?_)
        exact lw_ret hx hb hr hlocks hok.1
      | lreturn =>
        obtain ⟨x, r, rfl, h1⟩ := pL_s h
        obtain ⟨rfl, -, h2⟩ := pN_s h1
        cases h2
      | return_ =>
        obtain ⟨rfl, -, h2⟩ := pN_s h
        cases h2
      | new i =>
        obtain ⟨t, r0, rfl, h1⟩ := aC_s h
        obtain ⟨ci, r1, rfl, h2⟩ := aC_s h1
        rcases nI1_s h2 with ⟨rfl, -⟩ | ⟨ht, hcat9, hth⟩
        · exact absurd rfl hs2
        · exact hth.elim
      | _ => first | exact absurd rfl hs1 | exact absurd rfl hs2 | exact absurd rfl hs3 | exact h.elim
  have hl := lv_entry ([.ref b]) (n := 7) (Nat.le_of_ble_eq_true rfl)
  rw [lg_entry_eq]
  exact key ad s.heap [] _ ⟨fun k q h => by simp [wsW, w00] at h, ⟨fun i j p q h => by simp [wsW, w00] at h, fun k q h => by simp [wsW, w00] at h⟩, ⟨fun i h => absurd h (by show ¬ 99 < 20; omega), fun _ _ => Nat.le_refl _, by show 0 < 1000000; omega⟩⟩ va_S.rf (fun _ _ => rfl) (Nat.le_refl _) had (by
    have : cvl ad [(0, .ref 1000001)] = [(0, .ref b)] := by
      show [(0, cv ad (.ref 1000001))] = _
      rw [cv_pos ad (by omega), had]
    rw [this]
    exact hl)
