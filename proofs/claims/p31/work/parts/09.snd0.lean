/-! SOUNDNESS OF ONE STEP: written by wip/whole/snd.py -/
def tysK (K : Nat → ClassId) : List (ClassId × FieldType) := [(K 8, .int), (K 9, .boolean), (K 10, .int), (K 11, .object "OdometerRing$Odometer")]
def WPd (D : va_G) (K : Nat → ClassId) (A : Nat → Prop) (ad : Nat → Nat) (w : Wd) (H : Heap) : Prop := va_P D vwCl (wsW K ad w) H ∧ va_D A (wsW K ad w) ∧ WFw w
def cvl (ad : Nat → Nat) (al : List (Nat × Value)) : List (Nat × Value) := al.map (fun q => (q.1, cv ad q.2))
theorem lv_lkp {ad : Nat → Nat} {ls : Array Slot} {nL : Nat} {al : List (Nat × Value)} {i : Nat} {v : Value} (h : lv_has ls nL (cvl ad al)) (hl : lkp al i = some v) : ls[i]? = some (.val (cv ad v)) := by
  obtain ⟨k, hk⟩ := lkp_mem _ _ _ hl
  exact lv_at h k (by simp [cvl, List.getElem?_map, hk])
theorem lkp_cvl {ad : Nat → Nat} {al : List (Nat × Value)} {i : Nat} {v : Value} (hl : lkp al i = some v) : ∃ k : Nat, (cvl ad al)[k]? = some (i, cv ad v) := by
  obtain ⟨k, hk⟩ := lkp_mem _ _ _ hl
  exact ⟨k, by simp [cvl, List.getElem?_map, hk]⟩
theorem cvl_stI (ad : Nat → Nat) (i : Nat) (v : Value) (al : List (Nat × Value)) : (i, cv ad v) :: (cvl ad al).filter (fun q => !(q.1 == i) && !(q.1 + 1 == i && q.2.category == 2)) = cvl ad (stI i v al) := by
  simp [stI, cvl, List.filter_map, Function.comp_def, cv_cat]
theorem cvl_stL (ad : Nat → Nat) (i : Nat) (v : Value) (al : List (Nat × Value)) : (i, cv ad v) :: (cvl ad al).filter (fun q => !(q.1 == i) && (!(q.1 == i + 1) && !(q.1 + 1 == i && q.2.category == 2))) = cvl ad (stL i v al) := by
  simp [stL, cvl, List.filter_map, Function.comp_def, cv_cat]
theorem catS_map (ad : Nat → Nat) : ∀ l : List Value, ((l.map (cv ad)).map fun v => v.category).sum = catS l
  | [] => rfl
  | v :: t => by
    have := catS_map ad t
    simp only [List.map_cons, List.sum_cons, catS, cv_cat]
    rw [this]
theorem wI_wf {w : Wd} {a : Nat} {g : Nat → Int32} (h : WFw w) : WFw (wI w a g) := h
theorem wJ_wf {w : Wd} {a : Nat} {g : Nat → Int64} (h : WFw w) : WFw (wJ w a g) := h
theorem wR_wf {w : Wd} {a k x : Nat} (h : WFw w) (hx : x ≤ w.1.1) : WFw (wR w a (upA (w.1.2.2.2 a) k x)) := by
  refine ⟨h.1, fun i k' => ?_, h.2.2⟩
  show upA w.1.2.2.2 a (upA (w.1.2.2.2 a) k x) i k' ≤ w.1.1
  by_cases hi : i = a
  · subst hi
    rw [upA_s]
    by_cases hk : k' = k
    · subst hk; rw [upA_s]; exact hx
    · rw [upA_n _ _ hk]; exact h.2.1 _ _
  · rw [upA_n _ _ hi]; exact h.2.1 _ _
/-- what is wanted at a frame -/
def MW (p : Program) (l : Launch) (e : Env) (R : Room) (s : State) (m : MethodId) (args : Array Value) (below : List Frame) (meth : Method) (c : Code) (D : va_G) (K : Nat → ClassId) (A : Nat → Prop) (ad0 : Nat → Nat) (n0 nL : Nat) (Sx : (Nat → Nat) → Prop) (Qm : State → Prop) (f : Fr) : Prop :=
  ∀ (ad : Nat → Nat) (H : Heap) (locs : List Loc) (ls : Array Slot), WPd D K A ad f.2.2.2.1 H → va_S A s.heap H locs → (∀ i, i ≤ n0 → ad i = ad0 i) → n0 ≤ f.2.2.2.1.1.1 → Sx ad → lv_has ls nL (cvl ad f.2.1) → W p l e R s m args below meth c H locs f.2.2.2.2.1 f.2.2.2.2.2 Qm (F0 m f.1 ls (f.2.2.1.map (cv ad)))
theorem swT {pc : Nat} {x : Int32} {d : Nat} {f : Nat → Prop} : ∀ (ks : List Nat) (lo : Int) (os : List Int), swOK pc lo ks os = true → 0 ≤ lo → lo + os.length < 2147483648 → swC x ks d f →
    ((x.toInt < lo ∨ lo + os.length ≤ x.toInt) → f d) ∧ (∀ (i : Nat) (o : Int), os[i]? = some o → x.toInt = lo + i → ∃ t : Nat, (pc : Int) + o = (t : Int) ∧ f t)
  | [], lo, [], _, _, _, h => ⟨fun _ => h, fun i o ho => by simp at ho⟩
  | k :: t :: r, lo, o :: os, hk, h0, hl, h => by
    simp only [swOK, Bool.and_eq_true, decide_eq_true_eq] at hk
    obtain ⟨h1, h2, h3⟩ := hk
    simp only [List.length_cons] at hl ⊢
    have hb : k < 2147483648 := by omega
    have hkx : x = Int32.ofNat k ↔ x.toInt = lo := by
      have e : (Int32.ofNat k).toInt = (k : Int) := Int32.toInt_ofNat_of_lt hb
      constructor
      · intro q; rw [q, e]; exact h1
      · intro q; exact Int32.toInt_inj.mp (by rw [e, q]; exact h1.symm)
    by_cases hx : x = Int32.ofNat k
    · refine ⟨fun q => ?_, fun i o' ho hi => ?_⟩
      · have := hkx.mp hx; omega
      · have := hkx.mp hx
        have hi0 : i = 0 := by omega
        subst hi0
        cases ho
        exact ⟨t, h2, h.1 hx⟩
    · have ih := swT r (lo + 1) os h3 (by omega) (by omega) (h.2 hx)
      have hne : ¬ x.toInt = lo := fun q => hx (hkx.mpr q)
      refine ⟨fun q => ih.1 (by omega), fun i o' ho hi => ?_⟩
      cases i with
      | zero => exact absurd (by omega) hne
      | succ i => exact ih.2 i o' ho (by omega)
  | [], _, _ :: _, hk, _, _, _ => by simp [swOK] at hk
  | [_], _, _, hk, _, _, _ => by simp [swOK] at hk
  | _ :: _ :: _, _, [], hk, _, _, _ => by simp [swOK] at hk
theorem swL {pc : Nat} {x : Int32} {d : Nat} {dd : Int} {f : Nat → Prop} (hd : (pc : Int) + dd = (d : Int)) : ∀ (ks : List Nat) (os : List (Int × Int)), swOL pc ks os = true → swC x ks d f → ∃ t : Nat, (pc : Int) + Op.lookupswitch.offset os dd x.toInt = (t : Int) ∧ f t
  | [], [], _, h => ⟨d, hd, h⟩
  | k :: t :: r, (a, o) :: os, hk, h => by
    simp only [swOL, Bool.and_eq_true, decide_eq_true_eq] at hk
    obtain ⟨h1, hb, h2, h3⟩ := hk
    have e : (Int32.ofNat k).toInt = (k : Int) := Int32.toInt_ofNat_of_lt hb
    rw [Op.lookupswitch.offset_cons]
    by_cases hx : x = Int32.ofNat k
    · rw [if_pos (by rw [hx, e]; exact h1.symm)]
      exact ⟨t, h2, h.1 hx⟩
    · rw [if_neg (fun q => hx (Int32.toInt_inj.mp (by rw [e, ← q]; exact h1.symm)))]
      exact swL hd r os h3 (h.2 hx)
  | [], _ :: _, hk, _ => by simp [swOL] at hk
  | [_], _, hk, _ => by simp [swOL] at hk
  | _ :: _ :: _, [], hk, _ => by simp [swOL] at hk
