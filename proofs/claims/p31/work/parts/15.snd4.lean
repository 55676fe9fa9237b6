/-! SOUNDNESS OF ONE STEP: behind a call -/
theorem EnvT.warm {s U : State} (hW : s.WarmedH U.vm) (h : EnvT s) : EnvT U := by
  obtain ⟨h1, h2, h3, h4, h5, h6⟩ := h
  refine ⟨fun w hw => ?_, fun q hq => ?_, va_AO.moved hW.alike h3, fun k hk => va_Nw.warmC hW (h4 k hk), fun k k' hk hk' hne => va_Nc.moved hW.alike (h5 k k' hk hk' hne), fun w hw => ?_⟩
  · have h9 := h1 w hw
    simp only [nestW, List.mem_cons, List.not_mem_nil, or_false] at hw
    rcases hw with rfl | rfl | rfl | rfl | rfl | rfl | rfl | rfl <;> exact va_Nw.warmM hW h9
  · obtain ⟨a, ha⟩ := h2 q hq
    exact ⟨a, vk_R.warm hW ha⟩
  · have h9 := h6 w hw
    simp only [decW, List.mem_cons, List.not_mem_nil, or_false] at hw
    rcases hw with rfl | rfl | rfl <;> exact va_Nw.warmD hW h9
theorem EnvT.same {s U : State} (hv : U.vm = s.vm) (h : EnvT s) : EnvT U := by
  have hal : s.vm.Alike U.vm := by rw [hv]; exact Vm.Alike.refl _
  obtain ⟨h1, h2, h3, h4, h5, h6⟩ := h
  refine ⟨fun w hw => ?_, fun q hq => ?_, va_AO.moved hal h3, fun k hk => va_Nw.same rfl hv.symm (h4 k hk), fun k k' hk hk' hne => va_Nc.moved hal (h5 k k' hk hk' hne), fun w hw => ?_⟩
  · have h9 := h1 w hw
    simp only [nestW, List.mem_cons, List.not_mem_nil, or_false] at hw
    rcases hw with rfl | rfl | rfl | rfl | rfl | rfl | rfl | rfl <;> exact va_Nw.same rfl hv.symm h9
  · obtain ⟨a, ha⟩ := h2 q hq
    exact ⟨a, vk_R.same hv ha⟩
  · have h9 := h6 w hw
    simp only [decW, List.mem_cons, List.not_mem_nil, or_false] at hw
    rcases hw with rfl | rfl | rfl <;> exact va_Nw.same rfl hv.symm h9
theorem EnvZ.moved {A : Nat → Prop} {s U : State} {H : Heap} (hvm : s.vm.Alike U.vm) (h : EnvZ A s H) : EnvZ A U H := ⟨vx_Zq.moved hvm h.1, vx_Zq.moved hvm h.2⟩
theorem EnvZ.kept {A : Nat → Prop} {s : State} {H H1 : Heap} (h : EnvZ A s H) (hq : ∀ a : Nat, a < H.size → ¬ A a → H1[a]? = H[a]?) : EnvZ A s H1 := ⟨vx_Zq.kept h.1 hq, vx_Zq.kept h.2 hq⟩
theorem EnvZ.narrow {A B : Nat → Prop} {s : State} {H : Heap} (h : EnvZ A s H) (hAB : ∀ q, B q → A q) : EnvZ B s H := ⟨vx_Zq.narrow h.1 hAB, vx_Zq.narrow h.2 hAB⟩
theorem PcO.blind (D : va_G) (K : Nat → ClassId) (ad : Nat → Nat) (sz : Nat) (as : List Value) (w : Wd) : FrameBlind (PcO D K ad sz as w) := by
  intro a U g mk q
  obtain ⟨q0, q1, q2, q3, q4, q5, q6, q7⟩ := q
  exact ⟨q0, q1, q2, q3, q4, va_K.moved (u := U) (U := U.calling g mk a) (Vm.Alike.refl U.vm) q5, EnvT.same (s := U) (U := U.calling g mk a) rfl q6, EnvZ.moved (s := U) (U := U.calling g mk a) (Vm.Alike.refl U.vm) q7⟩
/-- what a call asks of the caller's state -/
theorem PcO.of {p : Program} {s : State} {D : va_G} {K : Nat → ClassId} {A : Nat → Prop} {ad : Nat → Nat} {w : Wd} {as : List Value} {H : Heap} {locs : List Loc} (hK : va_K D vwCl (tysK K) s) (hT : EnvT s) (hZ : EnvZ A s s.heap) (hA1 : ∀ q, va_A (wsW K ad w) H.size q → A q) (hW : WPd D K A ad w H) (hS : va_S A s.heap H locs) :
    ∀ U : State, U.heap = H → s.WarmedH U.vm → PcO D K ad H.size as w (as.map (cv ad)).toArray U := by
  intro U hU hWm
  obtain ⟨hP, hD, hwf⟩ := hW
  exact ⟨rfl, by rw [hU], by rw [hU]; exact hP, hD.weaken (fun _ _ _ _ => trivial), hwf, va_K.moved hWm.alike hK, hT.warm hWm, by rw [hU]; exact EnvZ.moved hWm.alike ((hZ.kept hS.2.1).narrow hA1)⟩
theorem vaA_in {D : va_G} {K : Nat → ClassId} {A : Nat → Prop} {ad : Nat → Nat} {w : Wd} {s : State} {H : Heap} {locs : List Loc} (hD : va_D A (wsW K ad w)) (hS : va_S A s.heap H locs) (hA : ∀ q, s.heap.size ≤ q → A q) : ∀ q, va_A (wsW K ad w) H.size q → A q := by
  intro q h
  rcases h with ⟨k, e, h⟩ | h
  · exact hD.2 k (q, e) h
  · exact hA q (Nat.le_trans hS.1 h)
set_option maxHeartbeats 2000000 in
theorem so_aft {p : Program} {l : Launch} {e : Env} {R : Room} {s : State} {m : MethodId} {args : Array Value} {below : List Frame} {meth : Method} {c : Code} {D : va_G} {K : Nat → ClassId} {A : Nat → Prop} {ad0 : Nat → Nat} {n0 nL : Nat} {Sx : (Nat → Nat) → Prop} {Qm : State → Prop} {hn : Nat → String → Option Nat} {pc : Nat} {ls : List (Nat × Value)} {r : List Value} {w : Wd} {nc ns mc ms : Nat} {rt : Option FieldType} {P : Res → Wd → Prop} {a : Array Value} {st0 : List Value} {ad : Nat → Nat} {H : Heap} {locs : List Loc} {lsx : Array Slot}
    (hSx : ∀ ad ad', Sx ad → ad' 1000001 = ad 1000001 → Sx ad') (hA : ∀ q, s.heap.size ≤ q → A q)
    (hCat : ∀ (E : String) (h9 : Nat) (ce : Cell) (q9 : Addr) (H1 : Heap) (locs1 : List Loc) (rest : List Value), hn pc E = some h9 → H1[q9]? = some ce → ce.vm = .none → s.vm.findClass E = some ce.cls → W p l e R s m args below meth c H1 locs1 (nc + mc) (ns + ms) Qm (F0 m h9 lsx [.ref q9]) → vx_W p l e R s m args below meth c H1 locs1 (nc + mc) (ns + ms) Qm (F0 m pc lsx rest) q9)
    (hr : vx_Run p l e R s m args below meth c H locs nc ns mc ms (F0 m pc lsx st0) (r.map (cv ad)) (QcO rt D K (va_A (wsW K ad w) H.size) ad w P a) (XcO D K (va_A (wsW K ad w) H.size) ad w P) (va_A (wsW K ad w) H.size))
    (hW : WPd D K A ad w H) (hS : va_S A s.heap H locs) (hag : ∀ i, i ≤ n0 → ad i = ad0 i) (hn0 : n0 ≤ w.1.1) (hsx : Sx ad) (hl : lv_has lsx nL (cvl ad ls))
    (h : ∀ (rs : Res) (w' : Wd), P rs w' → aftC hn (pc + 3) pc ls r w (nc + mc) (ns + ms) (MW p l e R s m args below meth c D K A ad0 n0 nL Sx Qm) rs w') :
    W p l e R s m args below meth c H locs nc ns Qm (F0 m pc lsx st0) := by
  have hA1 := vaA_in (D := D) hW.2.1 hS hA
  have conv : ∀ (u : Wd × (Nat → Nat)) (t : State), BW D K (va_A (wsW K ad w) H.size) ad w u t → (u.1.1.1 = w.1.1 ∨ frB w.1.1 u.1.1.1 r ls) → r.map (cv u.2) = r.map (cv ad) ∧ cvl u.2 ls = cvl ad ls := by
    intro u t hB hfr
    rcases hfr with hfr | hfr
    · have : u.2 = ad := funext fun i => hB.2.1 i (by omega)
      rw [this]
      exact ⟨rfl, rfl⟩
    · exact frB_map hfr (fun x hx => hB.2.1 x hx)
  have done : ∀ (v : Option Value) (vs : List Value), (∀ ad' : Nat → Nat, v.toList.map (cv ad') = vs) → ∀ (u : Wd × (Nat → Nat)) (t : State) (H1 : Heap) (locs1 : List Loc), t.heap = H1 → P (.inl v) u.1 → BW D K (va_A (wsW K ad w) H.size) ad w u t → va_S A s.heap H1 locs1 → W p l e R s m args below meth c H1 locs1 (nc + mc) (ns + ms) Qm (F0 m (pc + 3) lsx (vs ++ r.map (cv ad))) := by
    intro v vs hvs u t H1 locs1 ht hp hB hS1
    obtain ⟨hfr, hX⟩ := h (.inl v) u.1 hp
    obtain ⟨c1, c2⟩ := conv u t hB hfr
    obtain ⟨⟨b1, b2, b3⟩, b4, b5⟩ := id hB
    rw [ht] at b1
    have hX' : MW p l e R s m args below meth c D K A ad0 n0 nL Sx Qm (pc + 3, ls, v.toList ++ r, u.1, nc + mc, ns + ms) := by
      cases v with
      | none => exact hX
      | some v => exact hX
    have := hX' u.2 H1 locs1 lsx ⟨b1, b2.weaken (fun _ _ _ q => hA1 _ q), b3⟩ hS1 (fun i hi => (b4 i (Or.inl (Nat.le_trans hi hn0))).trans (hag i hi)) (Nat.le_trans hn0 b5) (hSx ad _ hsx (b4 _ (Or.inr (by have := b3.2.2; omega)))) (by rw [c2]; exact hl)
    rw [List.map_append, c1, hvs] at this
    exact this
  have kx : ∀ (E : String) (ce : Cell) (q9 : Addr) (u : Wd × (Nat → Nat)) (t : State) (H1 : Heap) (locs1 : List Loc), t.heap = H1 → s.vm.Alike t.vm → True → (P (.inr E) u.1 ∧ BW D K (va_A (wsW K ad w) H.size) ad w u t) → H.size ≤ H1.size → (∀ q : Nat, q < H.size → ¬ va_A (wsW K ad w) H.size q → H1[q]? = H[q]?) → va_S A s.heap H1 locs1 → H1[q9]? = some ce → ce.vm = .none → s.vm.findClass E = some ce.cls → vx_W p l e R s m args below meth c H1 locs1 (nc + mc) (ns + ms) Qm (F0 m pc lsx (r.map (cv ad))) q9 := by
    intro E ce q9 u t H1 locs1 ht hvm _ hPB _ _ hS1 hce hcv hcl
    obtain ⟨hp, hB⟩ := hPB
    obtain ⟨hfr, hX⟩ := h (.inr E) u.1 hp
    obtain ⟨c1, c2⟩ := conv u t hB hfr
    obtain ⟨⟨b1, b2, b3⟩, b4, b5⟩ := id hB
    rw [ht] at b1
    cases hh : hn pc E with
    | none =>
      dsimp only at hX
      rw [hh] at hX
      exact hX.elim
    | some h9 =>
      dsimp only at hX
      rw [hh] at hX
      obtain ⟨hno, hX⟩ := hX
      refine hCat E h9 ce q9 H1 locs1 _ hh hce hcv hcl ?_
      have hws : wsW K (upA u.2 1000000 q9) u.1 = wsW K u.2 u.1 := wsW_congr K u.2 _ u.1 b3 (fun i hi => upA_n _ _ (by have := b3.2.2; omega))
      have hcl2 : cvl (upA u.2 1000000 q9) ls = cvl u.2 ls := by
        unfold cvl
        refine List.map_congr_left (fun q hq => ?_)
        have hqn := hno q hq
        obtain ⟨i, v⟩ := q
        show (i, cv _ v) = (i, cv _ v)
        cases v with
        | ref a => cases a with
          | zero => rfl
          | succ a =>
            have : a + 1 ≠ 1000000 := fun z => hqn (congrArg Value.ref z)
            show (i, Value.ref _) = (i, Value.ref _)
            rw [upA_n _ _ this]
        | _ => rfl
      have := hX (upA u.2 1000000 q9) H1 locs1 lsx ⟨by rw [hws]; exact b1, by rw [hws]; exact b2.weaken (fun _ _ _ q => hA1 _ q), b3⟩ hS1 (fun i hi => (upA_n _ _ (by have := b3.2.2; omega)).trans ((b4 i (Or.inl (Nat.le_trans hi hn0))).trans (hag i hi))) (Nat.le_trans hn0 b5) (hSx ad _ hsx ((upA_n _ _ (by omega)).trans (b4 _ (Or.inr (by have := b3.2.2; omega))))) (by rw [hcl2, c2]; exact hl)
      have e1 : [Value.ref 1000000].map (cv (upA u.2 1000000 q9)) = [Value.ref q9] := by
        show [cv _ (.ref 1000000)] = _
        rw [cv_pos _ (by omega), upA_s]
      rw [← e1]
      exact this
  cases rt with
  | none => exact vx_callv (a := a) hr hS (fun q _ hq => hA1 q hq) hA1 (fun q _ hq => hA1 q hq) kx (fun u t H1 locs1 ht hvm hp hB hz hk hS1 => done none [] (fun _ => rfl) u t H1 locs1 ht hp hB hS1)
  | some ty =>
    cases ty with
    | long => exact vx_calll (a := a) hr hS (fun q _ hq => hA1 q hq) hA1 (fun q _ hq => hA1 q hq) kx (fun x u t H1 locs1 ht hvm hp hB hz hk hS1 => done (some (.long x)) [.long x] (fun _ => rfl) u t H1 locs1 ht hp hB hS1)
    | _ => exact vx_calli (a := a) hr hS (fun q _ hq => hA1 q hq) hA1 (fun q _ hq => hA1 q hq) kx (fun x u t H1 locs1 ht hvm hp hB hz hk hS1 => done (some (.int x)) [.int x] (fun _ => rfl) u t H1 locs1 ht hp hB hS1)
