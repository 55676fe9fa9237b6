/-! SOUNDNESS OF ONE STEP: written by wip/whole/snd.py -/
def decW : List Cond := [.declares (Bundle.initS "java/lang/RuntimeException"), .declares (Bundle.initS "java/lang/Exception"), .declares (Bundle.initS Bundle.tN)]
/-- what the method's own state says beside its world: calls between nest mates, the texts, arrays of Odometers, which exceptions are which -/
def EnvT (U : State) : Prop := (∀ w ∈ nestW, va_Nw w U) ∧ (∀ q ∈ strT, ∃ a : Nat, vk_R q.1 q.2.1 q.2.2 a U) ∧ va_AO "OdometerRing$Odometer" U ∧ (∀ k, k < 3 → va_Nw (.castable (excN k) (excN k)) U) ∧ (∀ k k', k < 3 → k' < 3 → k ≠ k' → va_Nc (excN k) (excN k') U) ∧ (∀ w ∈ decW, va_Nw w U)
def EnvZ (A : Nat → Prop) (U : State) (H : Heap) : Prop := vx_Zq Bundle.tN "UNASSIGNED_STACK" Bundle.steD A U H ∧ vx_Zq Bundle.tN "SUPPRESSED_SENTINEL" Bundle.listD A U H
/-- cells and slots at depth d -/
def rmO (d j : Nat) : Room := { frames := d, cells := (mjT j).1, slots := (mjT j).2, locals := 34 * d }
/-- behind a method: the world that it leaves, where its cells lie -/
def BW (D : va_G) (K : Nat → ClassId) (A : Nat → Prop) (ad : Nat → Nat) (w : Wd) (u : Wd × (Nat → Nat)) (t : State) : Prop := WPd D K A u.2 u.1 t.heap ∧ (∀ i, i ≤ w.1.1 ∨ u.1.1.1 < i → u.2 i = ad i) ∧ w.1.1 ≤ u.1.1.1
def QcO (rt : Option FieldType) (D : va_G) (K : Nat → ClassId) (A : Nat → Prop) (ad : Nat → Nat) (w : Wd) (P : Res → Wd → Prop) : Array Value → State → Outcome → State → Prop := match rt with
  | none => va_Qv (fun u : Wd × (Nat → Nat) => P (.inl none) u.1) (BW D K A ad w) A
  | some .long => va_Ql (fun (r : Int64) (u : Wd × (Nat → Nat)) => P (.inl (some (.long r))) u.1) (BW D K A ad w) A
  | some _ => va_Qi (fun (r : Int32) (u : Wd × (Nat → Nat)) => P (.inl (some (.int r))) u.1) (BW D K A ad w) A
def XcO (D : va_G) (K : Nat → ClassId) (A : Nat → Prop) (ad : Nat → Nat) (w : Wd) (P : Res → Wd → Prop) : String → State → State → Prop := vx_X (fun _ : Wd × (Nat → Nat) => True) (fun E u t => P (.inr E) u.1 ∧ BW D K A ad w u t) A
def PcO (D : va_G) (K : Nat → ClassId) (ad : Nat → Nat) (sz : Nat) (as : List Value) (w : Wd) : Array Value → State → Prop := va_Pc (as.map (cv ad)) (fun U => U.heap.size = sz ∧ va_P D vwCl (wsW K ad w) U.heap ∧ va_D (fun _ => True) (wsW K ad w) ∧ WFw w ∧ va_K D vwCl (tysK K) U ∧ EnvT U ∧ EnvZ (va_A (wsW K ad w) sz) U U.heap)
/-- method j's contract for these arguments in this world -/
def Ctr (l : Launch) (d j : Nat) (as : List Value) (w : Wd) (P : Res → Wd → Prop) : Prop :=
  ∀ (D : va_G) (K : Nat → ClassId) (ad : Nat → Nat) (sz : Nat), vx_Met l (yN j) (hdW j :: GG) (rmO d j) (PcO D K ad sz as w) (QcO (rT j) D K (va_A (wsW K ad w) sz) ad w P) (XcO D K (va_A (wsW K ad w) sz) ad w P) (mjT j).1 (mjT j).2 (va_A (wsW K ad w) sz)
theorem brE_s {o : ClassFile.Cond} {x y : Int32} {T F : Prop} {G : Prop} (h : brE o x y T F) (k : ∀ (P : Prop), (P → T) → (¬ P → F) → True → G) : G := by
  cases o <;> exact k _ h.1 (fun q => h.2 (by first | exact q | exact Classical.not_not.mp q)) trivial
theorem clsF : ∀ ci, ci < 7 → vwCl[ci]? = some (RXc ci, TXc ci, nF ci) ∧ (∀ w ∈ u_ws (RXc ci) (TXc ci) (nF ci), w ∈ GG) ∧ (∀ k, k < nF ci → parseFieldDescriptor (TXc ci k).2.2.1 = some (tyXc ci k)) ∧ (∀ a, a < nF ci → ∀ b, b < nF ci → a ≠ b → (TXc ci a).2.1 ≠ (TXc ci b).2.1) := by
  have key : ∀ {C : String} {T : u_T} {N : Nat}, ((u_ws C T N).all (fun w => decide (w ∈ lw_tbl) && goodWord w)) = true → ∀ w ∈ u_ws C T N, w ∈ GG := fun h w hw => by
    have := List.all_eq_true.mp h w hw
    simp only [Bool.and_eq_true, decide_eq_true_eq] at this
    exact List.mem_filter.mpr this
  intro ci h
  match ci, h with
  | 0, _ => exact ⟨rfl, key (by decide +kernel), tyX0_ok, nmX0⟩
  | 1, _ => exact ⟨rfl, key (by decide +kernel), tyX1_ok, nmX1⟩
  | 2, _ => exact ⟨rfl, key (by decide +kernel), tyX2_ok, nmX2⟩
  | 3, _ => exact ⟨rfl, key (by decide +kernel), tyX3_ok, nmX3⟩
  | 4, _ => exact ⟨rfl, key (by decide +kernel), tyX4_ok, nmX4⟩
  | 5, _ => exact ⟨rfl, key (by decide +kernel), tyX5_ok, nmX5⟩
  | 6, _ => exact ⟨rfl, key (by decide +kernel), tyX6_ok, nmX6⟩
