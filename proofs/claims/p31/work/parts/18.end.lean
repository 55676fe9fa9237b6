/-! SOUNDNESS: a method's end -/
def exNames : List String := ["java/lang/RuntimeException", "java/lang/Exception"]
theorem atS_ok {e ic : Nat} (h : (e = 0 ∧ ic = 46) ∨ (e = 1 ∧ ic = 57) ∨ (e = 2 ∧ ic = 136)) : ∀ w ∈ vx_atS "OdometerRing" ic (excN e) exNames, (w ∈ GG ∨ w ∈ decW ∨ w = .castable (excN e) (excN e)) ∧ vx_ot w = true := by
  have key : ∀ {L : List Cond} {x : Cond}, (L.all (fun w => ((decide (w ∈ lw_tbl) && goodWord w) || (decide (w ∈ decW) || decide (w = x))) && vx_ot w)) = true → ∀ w ∈ L, (w ∈ GG ∨ w ∈ decW ∨ w = x) ∧ vx_ot w = true := by
    intro L x h w hw
    have := List.all_eq_true.mp h w hw
    simp only [Bool.and_eq_true, Bool.or_eq_true, decide_eq_true_eq] at this
    obtain ⟨h1, h2⟩ := this
    refine ⟨?_, h2⟩
    rcases h1 with h1 | h1 | h1
    · exact Or.inl (List.mem_filter.mpr h1)
    · exact Or.inr (Or.inl h1)
    · exact Or.inr (Or.inr h1)
  rcases h with ⟨rfl, rfl⟩ | ⟨rfl, rfl⟩ | ⟨rfl, rfl⟩
  · exact key (by decide +kernel)
  · exact key (by decide +kernel)
  · exact key (by decide +kernel)
/-- the addresses behind a method: its own cells where they lie, else as they were -/
theorem BW_of {D : va_G} {K : Nat → ClassId} {A : Nat → Prop} {ad ad0 : Nat → Nat} {w w0 : Wd} {H : Heap} (hW : WPd D K A ad w H) (hag : ∀ i, i ≤ w0.1.1 → ad i = ad0 i) (hn0 : w0.1.1 ≤ w.1.1) {t : State} (hk : ∀ q : Nat, q < H.size → t.heap[q]? = H[q]?) : BW D K A ad0 w0 (w, fun i => if i ≤ w.1.1 then ad i else ad0 i) t := by
  obtain ⟨hP, hD, hwf⟩ := hW
  have hws : wsW K (fun i => if i ≤ w.1.1 then ad i else ad0 i) w = wsW K ad w := wsW_congr K ad _ w hwf (fun i hi => if_pos hi)
  refine ⟨⟨?_, ?_, hwf⟩, fun i hi => ?_, hn0⟩
  · show va_P D vwCl (wsW K _ w) t.heap
    rw [hws]
    exact hP.kept (fun k q hq => hk q.1 ((hP k q hq).lt))
  · show va_D A (wsW K _ w)
    rw [hws]
    exact hD
  · show (if i ≤ w.1.1 then ad i else ad0 i) = ad0 i
    by_cases h : i ≤ w.1.1
    · rw [if_pos h]
      have hi : i ≤ w0.1.1 ∨ w.1.1 < i := hi
      exact hag i (by rcases hi with hi | hi <;> omega)
    · rw [if_neg h]
theorem vaF_of {A : Nat → Prop} {s t : State} {H : Heap} {locs : List Loc} (hS : va_S A s.heap H locs) (hz : H.size ≤ t.heap.size) (hk : ∀ q : Nat, q < H.size → t.heap[q]? = H[q]?) : va_F A s t :=
  ⟨Nat.le_trans hS.1 hz, fun q h1 h2 => (hk q (Nat.lt_of_lt_of_le h1 hS.1)).trans (hS.2.1 q h1 h2)⟩
set_option maxHeartbeats 2000000 in
theorem so_throw {p : Program} {l : Launch} {e : Env} {R : Room} {s : State} {m : MethodId} {args : Array Value} {below : List Frame} {meth : Method} {c : Code} {D : va_G} {K : Nat → ClassId} {A : Nat → Prop} {ad0 : Nat → Nat} {n0 nL : Nat} {Sx : (Nat → Nat) → Prop} {Qm : State → Prop} {j : Nat}
  (hx : p.tables.exec = Jvm.exec) (hb : c.code = bC j) (hml : c.maxLocals = nL) (hnL : nL = mL j) (hown : s.vm.findClass (ownO j) = some m.cls) (hts : ∀ w ∈ GG, w.before args s = true)
  (hl0 : l.stackTraces = false) (hT : EnvT s) (hZ : EnvZ A s s.heap) (hlocks : meth.locks = false) (hnoh : ∀ x ∈ c.exceptionTable.toList, False) {i e9 nx : Nat} {r9 : List Nat} {kc : Int32} {kl : Int64} {pc : Nat}
  (hrow : okRow j pc (.new i, nx, 1 :: e9 :: r9, kc, kl) = true) {w w0 : Wd} {Q : Res → Wd → Prop} {mc ms : Nat} {ad : Nat → Nat} {H : Heap} {locs : List Loc} {lsx : Array Slot} {st : List Value} {nc ns : Nat}
  (hW : WPd D K A ad w H) (hS : va_S A s.heap H locs) (hag : ∀ i, i ≤ w0.1.1 → ad i = ad0 i) (hn0 : w0.1.1 ≤ w.1.1) (hsize : lsx.size = c.maxLocals) (hcat : catS st ≤ 8) (hRf : 6 ≤ R.frames) (hRl : 90 ≤ R.locals) (hRc : nc + 1 ≤ R.cells) (hRs : ns + 6 ≤ R.slots) (hc : nc + 1 ≤ mc) (hs : ns + 6 ≤ ms) (hQ : Q (.inr (excN e9)) w) :
  W p l e R s m args below meth c H locs nc ns (vx_MQ below (QcO (rT j) D K A ad0 w0 Q) (XcO D K A ad0 w0 Q) args s mc ms A) (F0 m pc lsx (st.map (cv ad))) := by
  rcases r9 with _ | ⟨wd, _ | ⟨is9, _ | ⟨ic, _ | ⟨sx, _ | ⟨p1, _ | ⟨p2, _ | ⟨p3, r9⟩⟩⟩⟩⟩⟩⟩
  · simp [okRow] at hrow
  · simp [okRow] at hrow
  · simp [okRow] at hrow
  · simp [okRow] at hrow
  · simp [okRow] at hrow
  · simp [okRow] at hrow
  · simp only [okRow, Bool.and_eq_true, decide_eq_true_eq] at hrow
    obtain ⟨d0, d3, hw1, hw2, hown9, hstr, hic, hdd⟩ := hrow
    have hat := atS_ok hic
    rw [← hown9] at hat
    have hatB : ∀ w ∈ vx_atS (ownO j) ic (excN e9) exNames, w.before args s = true := by
      intro w hw
      rcases (hat w hw).1 with h1 | h1 | h1
      · exact hts w h1
      · have h2 := hT.2.2.2.2.2 w h1
        simp only [decW, List.mem_cons, List.not_mem_nil, or_false] at h1
        rcases h1 with rfl | rfl | rfl <;> exact va_Nw.use rfl h2
      · rw [h1]
        exact va_Nw.use rfl (hT.2.2.2.1 e9 (by omega))
    have hgood : ∀ w ∈ Cond.classLink (ownO j) i (excN e9) :: Cond.initialized (excN e9) :: vx_atS (ownO j) ic (excN e9) exNames, vx_ot w = true := by
      intro w hw
      rcases List.mem_cons.mp hw with rfl | hw
      · rfl
      · rcases List.mem_cons.mp hw with rfl | hw
        · rfl
        · exact (hat w hw).2
    have hfit : Bundle.fit (excN e9) = true := by
      rcases hic with ⟨rfl, -⟩ | ⟨rfl, -⟩ | ⟨rfl, -⟩ <;> decide +kernel
    have hfitN : ∀ n ∈ exNames, Bundle.fit n = true := by decide +kernel
    obtain ⟨q, hq1, hq2⟩ : ∃ q : String × Nat × String, strT[sx]? = some q ∧ (q.1, q.2.1) = (ownO j, is9) := by
      cases hqq : strT[sx]? with
      | none => rw [hqq] at hstr; cases hstr
      | some q => rw [hqq] at hstr; exact ⟨q, rfl, Option.some.inj hstr⟩
    obtain ⟨sa, hsa⟩ := hT.2.1 q (List.mem_of_getElem? hq1)
    have e1 : q.1 = ownO j := congrArg Prod.fst hq2
    have e2 : q.2.1 = is9 := congrArg Prod.snd hq2
    rw [e1, e2] at hsa
    have hx9 : ∀ t : State, s.vm.Alike t.vm → H.size ≤ t.heap.size → (∀ q : Nat, q < H.size → t.heap[q]? = H[q]?) → XcO D K A ad0 w0 Q (excN e9) s t := fun t hal hz hk => ⟨(w, fun i => if i ≤ w.1.1 then ad i else ad0 i), trivial, ⟨hQ, BW_of hW hag hn0 hk⟩, vaF_of hS hz hk⟩
    have hlen : exNames.length + 3 < R.frames := hRf
    have hlo : ((st.map (cv ad)).map fun v => v.category).sum + (13 * (exNames.length + 1) + 43) ≤ R.locals := by
      rw [catS_map]
      show catS st + (13 * 3 + 43) ≤ _
      omega
    cases wd with
    | zero =>
      simp only [Bool.and_eq_true, decide_eq_true_eq] at hdd
      exact vx_throwS hx hb hl0 hown hfit hfitN (hts _ (wAt_in hw1)) (hts _ (wAt_in hw2)) hsa hatB hgood hZ.1 hZ.2 hS hsize d0 d3 hdd.1 hdd.2.1 hdd.2.2 (fun x hx => (hnoh x hx).elim) hlen hlo hRc hRs hlocks hx9 (fun z hz => hS.2.2 z hz) hc hs
    | succ wd =>
      simp only [Bool.and_eq_true, decide_eq_true_eq] at hdd
      exact vx_throwSW hx hb hl0 hown hfit hfitN (hts _ (wAt_in hw1)) (hts _ (wAt_in hw2)) hsa hatB hgood hZ.1 hZ.2 hS hsize d0 d3 hdd.1 hdd.2.1 hdd.2.2 (fun x hx => (hnoh x hx).elim) hlen hlo hRc hRs hlocks hx9 (fun z hz => hS.2.2 z hz) hc hs
  · simp [okRow] at hrow
/-- a method's return -/
theorem RtJ_c {j : Nat} {Q : Res → Wd → Prop} {v : Option Value} {w : Wd} {nc ns : Nat} (h : RtJ j Q v w nc ns) : (nc ≤ (mjT j).1 ∧ ns ≤ (mjT j).2) ∧ ((rT j = none ∧ v = none ∧ Q (.inl none) w) ∨ (rT j = some .int ∧ ∃ x, v = some (.int x) ∧ Q (.inl (some (.int x))) w) ∨ (rT j = some .boolean ∧ ∃ x, v = some (.int x) ∧ (x = 0 ∨ x = 1) ∧ Q (.inl (some (.int x))) w) ∨ (rT j = some .long ∧ ∃ x, v = some (.long x) ∧ Q (.inl (some (.long x))) w)) := by
  obtain ⟨h1, h2⟩ := h
  refine ⟨h1, ?_⟩
  split at h2
  · rename_i x e1
    exact Or.inr (Or.inl ⟨e1, x, rfl, h2⟩)
  · rename_i x e1
    exact Or.inr (Or.inr (Or.inl ⟨e1, x, rfl, h2⟩))
  · rename_i x e1
    exact Or.inr (Or.inr (Or.inr ⟨e1, x, rfl, h2⟩))
  · rename_i e1
    exact Or.inl ⟨e1, rfl, h2⟩
  · exact h2.elim
theorem so_ret {p : Program} {l : Launch} {e : Env} {R : Room} {s : State} {m : MethodId} {args : Array Value} {below : List Frame} {meth : Method} {c : Code} {D : va_G} {K : Nat → ClassId} {A : Nat → Prop} {ad0 : Nat → Nat} {n0 nL : Nat} {Sx : (Nat → Nat) → Prop} {Qm : State → Prop} {j : Nat}
  (hx : p.tables.exec = Jvm.exec) (hb : c.code = bC j) (hml : c.maxLocals = nL) (hnL : nL = mL j) (hown : s.vm.findClass (ownO j) = some m.cls) (hts : ∀ w ∈ GG, w.before args s = true)
  (hr : meth.sig.returnType = rT j) (hlocks : meth.locks = false) {pc : Nat} {w w0 : Wd} {Q : Res → Wd → Prop} {ad : Nat → Nat} {H : Heap} {locs : List Loc} {lsx : Array Slot} {nc ns : Nat} {v : Option Value}
  (hW : WPd D K A ad w H) (hS : va_S A s.heap H locs) (hag : ∀ i, i ≤ w0.1.1 → ad i = ad0 i) (hn0 : w0.1.1 ≤ w.1.1) (h : RtJ j Q v w nc ns)
  (hd : decode (bC j) pc = .ok (match v with | some (.int _) => .ireturn | some (.long _) => .lreturn | _ => .return_, 1)) :
  W p l e R s m args below meth c H locs nc ns (vx_MQ below (QcO (rT j) D K A ad0 w0 Q) (XcO D K A ad0 w0 Q) args s (mjT j).1 (mjT j).2 A) (F0 m pc lsx v.toList) := by
  obtain ⟨⟨h1, h2⟩, h3⟩ := RtJ_c h
  have hB : ∀ t : State, t.heap = H → BW D K A ad0 w0 (w, fun i => if i ≤ w.1.1 then ad i else ad0 i) t := fun t ht => BW_of hW hag hn0 (fun q _ => by rw [ht])
  have hF : ∀ t : State, t.heap = H → va_F A s t := fun t ht => hS.F ht
  refine W.widen h1 h2 (vx_ret ?_)
  have hloc : ∀ q ∈ locs, A q.base := fun q hq => hS.2.2 q hq
  rcases h3 with ⟨e1, rfl, h3⟩ | ⟨e1, x, rfl, h3⟩ | ⟨e1, x, rfl, h01, h3⟩ | ⟨e1, x, rfl, h3⟩
  · rw [e1] at hr ⊢
    exact W.vret hx hb hr (fun t ht _ => ⟨⟨_, rfl, h3, hB t ht⟩, hF t ht⟩) hloc hd hlocks
  · rw [e1] at hr ⊢
    exact W.iret hx hb hr (fun t ht _ => ⟨⟨x, _, rfl, h3, hB t ht⟩, hF t ht⟩) hloc hd hlocks
  · rw [e1] at hr ⊢
    exact W.zret hx hb hr (by rcases h01 with rfl | rfl <;> rfl) (fun t ht _ => ⟨⟨x, _, rfl, h3, hB t ht⟩, hF t ht⟩) hloc hd hlocks
  · rw [e1] at hr ⊢
    exact W.lret hx hb hr (fun t ht _ => ⟨⟨x, _, rfl, h3, hB t ht⟩, hF t ht⟩) hloc hd hlocks
