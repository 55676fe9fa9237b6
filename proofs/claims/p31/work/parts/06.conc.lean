/-! THE ABSTRACT WORLD AND THE HEAP -/
def RXc : Nat → String
  | 0 => RX0
  | 1 => RX1
  | 2 => RX2
  | 3 => RX3
  | 4 => RX4
  | 5 => RX5
  | 6 => RX6
  | _ => RX7
def TXc : Nat → u_T
  | 0 => TX0
  | 1 => TX1
  | 2 => TX2
  | 3 => TX3
  | 4 => TX4
  | 5 => TX5
  | 6 => TX6
  | _ => TX7
def tyXc : Nat → Nat → FieldType
  | 0 => tyX0
  | 1 => tyX1
  | 2 => tyX2
  | 3 => tyX3
  | 4 => tyX4
  | 5 => tyX5
  | 6 => tyX6
  | _ => tyX7
/-- a value: an abstract reference is the address that ad gives it, 0 is null -/
def cv (ad : Nat → Nat) : Value → Value
  | .ref 0 => .null
  | .ref (i + 1) => .ref (ad (i + 1))
  | v => v
theorem cv_cat (ad : Nat → Nat) (v : Value) : (cv ad v).category = v.category := by
  cases v with
  | ref a => cases a <;> rfl
  | _ => rfl
theorem cv_int (ad : Nat → Nat) (x : Int32) : cv ad (.int x) = .int x := rfl
theorem cv_long (ad : Nat → Nat) (x : Int64) : cv ad (.long x) = .long x := rfl
theorem cv_pos (ad : Nat → Nat) {a : Nat} (h : 1 ≤ a) : cv ad (.ref a) = .ref (ad a) := by
  cases a with
  | zero => omega
  | succ i => rfl
def rfo (ad : Nat → Nat) : Nat → Option Nat
  | 0 => none
  | i + 1 => some (ad (i + 1))
theorem va_rfo (ad : Nat → Nat) (a : Nat) : va_rf (rfo ad a) = cv ad (.ref a) := by
  cases a <;> rfl
def fldV (ad : Nat → Nat) (w : Wd) (ci a k : Nat) : Value := if fK ci k = 1 then cv ad (.ref (w.1.2.2.2 a k)) else .int (w.2.1 a k)
def cellW (K : Nat → ClassId) (ad : Nat → Nat) (w : Wd) (a : Nat) : va_E :=
  if w.1.2.1 a = 8 then .inl (K 8, w.1.2.2.1 a, .inl (w.2.1 a))
  else if w.1.2.1 a = 9 then .inl (K 9, w.1.2.2.1 a, .inl (w.2.1 a))
  else if w.1.2.1 a = 10 then .inl (K 10, w.1.2.2.1 a, .inl (w.2.1 a))
  else if w.1.2.1 a = 11 then .inl (K 11, w.1.2.2.1 a, .inr (.inr (.inr (.inr (fun k => rfo ad (w.1.2.2.2 a k))))))
  else .inr (w.1.2.1 a, (List.range (nF (w.1.2.1 a))).map (fldV ad w (w.1.2.1 a) a))
def wsW (K : Nat → ClassId) (ad : Nat → Nat) (w : Wd) : va_W := (List.range w.1.1).map (fun i => (ad (i + 1), cellW K ad w (i + 1)))
def WFw (w : Wd) : Prop := (∀ i : Nat, w.1.2.1 i < 20 → 1 ≤ i ∧ i ≤ w.1.1) ∧ (∀ i k : Nat, w.1.2.2.2 i k ≤ w.1.1) ∧ w.1.1 < 1000000
theorem wsW_at (K : Nat → ClassId) (ad : Nat → Nat) (w : Wd) {a : Nat} (h1 : 1 ≤ a) (h2 : a ≤ w.1.1) : (wsW K ad w)[a - 1]? = some (ad a, cellW K ad w a) := by
  obtain ⟨i, rfl⟩ : ∃ i, a = i + 1 := ⟨a - 1, by omega⟩
  simp [wsW, List.getElem?_map, List.getElem?_range (show i < w.1.1 by omega)]
theorem wsW_len (K : Nat → ClassId) (ad : Nat → Nat) (w : Wd) : (wsW K ad w).length = w.1.1 := by simp [wsW]
theorem wsW_set (K : Nat → ClassId) (ad : Nat → Nat) (w w' : Wd) {a : Nat} {e : va_E} (h1 : 1 ≤ a) (h2 : a ≤ w.1.1) (hn : w'.1.1 = w.1.1) (ho : ∀ i, i ≠ a → cellW K ad w' i = cellW K ad w i) (he : cellW K ad w' a = e) : (wsW K ad w).set (a - 1) (ad a, e) = wsW K ad w' := by
  apply List.ext_getElem?
  intro i
  by_cases hi : i < w.1.1
  · rw [List.getElem?_set]
    by_cases hia : a - 1 = i
    · have e1 : a = i + 1 := by omega
      subst e1
      have := wsW_at K ad w' (a := i + 1) (by omega) (by rw [hn]; omega)
      simp only [Nat.add_sub_cancel] at this
      rw [this, he]
      simp [wsW_len, hi]
    · rw [if_neg hia]
      have h3 := wsW_at K ad w (a := i + 1) (by omega) (by omega)
      have h4 := wsW_at K ad w' (a := i + 1) (by omega) (by rw [hn]; omega)
      simp only [Nat.add_sub_cancel] at h3 h4
      rw [h3, h4, ho (i + 1) (by omega)]
  · rw [List.getElem?_eq_none (by rw [List.length_set, wsW_len]; omega), List.getElem?_eq_none (by rw [wsW_len, hn]; omega)]
theorem cellW_obj (K : Nat → ClassId) (ad : Nat → Nat) (w : Wd) {a ci : Nat} (h : w.1.2.1 a = ci) (hc : ci < 7) : cellW K ad w a = .inr (ci, (List.range (nF ci)).map (fldV ad w ci a)) := by
  unfold cellW
  rw [h, if_neg (by omega), if_neg (by omega), if_neg (by omega), if_neg (by omega)]
theorem cellW_8 (K : Nat → ClassId) (ad : Nat → Nat) (w : Wd) {a : Nat} (h : w.1.2.1 a = 8) : cellW K ad w a = .inl (K 8, w.1.2.2.1 a, .inl (w.2.1 a)) := by
  unfold cellW
  rw [if_pos h]
theorem cellW_9 (K : Nat → ClassId) (ad : Nat → Nat) (w : Wd) {a : Nat} (h : w.1.2.1 a = 9) : cellW K ad w a = .inl (K 9, w.1.2.2.1 a, .inl (w.2.1 a)) := by
  unfold cellW
  rw [if_neg (by omega), if_pos h]
theorem cellW_10 (K : Nat → ClassId) (ad : Nat → Nat) (w : Wd) {a : Nat} (h : w.1.2.1 a = 10) : cellW K ad w a = .inl (K 10, w.1.2.2.1 a, .inl (w.2.1 a)) := by
  unfold cellW
  rw [if_neg (by omega), if_neg (by omega), if_pos h]
theorem cellW_11 (K : Nat → ClassId) (ad : Nat → Nat) (w : Wd) {a : Nat} (h : w.1.2.1 a = 11) : cellW K ad w a = .inl (K 11, w.1.2.2.1 a, .inr (.inr (.inr (.inr (fun k => rfo ad (w.1.2.2.2 a k)))))) := by
  unfold cellW
  rw [if_neg (by omega), if_neg (by omega), if_neg (by omega), if_pos h]
theorem cellW_wI_n (K : Nat → ClassId) (ad : Nat → Nat) (w : Wd) {a i : Nat} (g : Nat → Int32) (h : i ≠ a) : cellW K ad (wI w a g) i = cellW K ad w i := by
  have e : (wI w a g).2.1 i = w.2.1 i := upA_n _ _ h
  have e2 : ∀ ci, fldV ad (wI w a g) ci i = fldV ad w ci i := fun ci => by
    funext k
    unfold fldV
    rw [e]
    rfl
  unfold cellW
  rw [e, e2]
  rfl
theorem cellW_wR_n (K : Nat → ClassId) (ad : Nat → Nat) (w : Wd) {a i : Nat} (g : Nat → Nat) (h : i ≠ a) : cellW K ad (wR w a g) i = cellW K ad w i := by
  have e : (wR w a g).1.2.2.2 i = w.1.2.2.2 i := upA_n _ _ h
  have e2 : ∀ ci, fldV ad (wR w a g) ci i = fldV ad w ci i := fun ci => by
    funext k
    unfold fldV
    rw [e]
    rfl
  unfold cellW
  rw [e, e2]
  rfl
theorem fld_set (ad : Nat → Nat) (w w' : Wd) {ci a k : Nat} {v : Value} (ho : ∀ j, j ≠ k → fldV ad w' ci a j = fldV ad w ci a j) (hv : fldV ad w' ci a k = v) : ((List.range (nF ci)).map (fldV ad w ci a)).set k v = (List.range (nF ci)).map (fldV ad w' ci a) := by
  apply List.ext_getElem?
  intro i
  rw [List.getElem?_set]
  by_cases hi : i < nF ci
  · by_cases hk : k = i
    · subst hk
      simp [List.getElem?_map, List.getElem?_range hi, hv, hi]
    · rw [if_neg hk]
      simp [List.getElem?_map, List.getElem?_range hi, ho i (Ne.symm hk)]
  · by_cases hk : k = i
    · subst hk
      simp [hi]
    · rw [if_neg hk]
      simp [List.getElem?_map, List.getElem?_eq_none, hi]
theorem cellW_congr (K : Nat → ClassId) (ad ad' : Nat → Nat) (w : Wd) (hw : WFw w) (h1 : ∀ i, i ≤ w.1.1 → ad' i = ad i) (i : Nat) : cellW K ad' w i = cellW K ad w i := by
  have cvr : ∀ x, x ≤ w.1.1 → cv ad' (.ref x) = cv ad (.ref x) := by
    intro x hx
    cases x with
    | zero => rfl
    | succ x => show Value.ref _ = Value.ref _; rw [h1 _ hx]
  have e1 : ∀ ci, fldV ad' w ci i = fldV ad w ci i := by
    intro ci
    funext k'
    unfold fldV
    rw [cvr _ (hw.2.1 i k')]
  have e2 : (fun k' => rfo ad' (w.1.2.2.2 i k')) = fun k' => rfo ad (w.1.2.2.2 i k') := by
    funext k'
    have h9 := hw.2.1 i k'
    revert h9
    cases w.1.2.2.2 i k' with
    | zero => intro _; rfl
    | succ x => intro h9; show some _ = some _; rw [h1 _ h9]
  unfold cellW
  rw [e1, e2]
theorem wsW_congr (K : Nat → ClassId) (ad ad' : Nat → Nat) (w : Wd) (hw : WFw w) (h1 : ∀ i, i ≤ w.1.1 → ad' i = ad i) : wsW K ad' w = wsW K ad w := by
  unfold wsW
  apply List.map_congr_left
  intro i hi
  have hi := List.mem_range.mp hi
  rw [h1 (i + 1) (by omega), cellW_congr K ad ad' w hw h1]
theorem cellW_wAl_n (K : Nat → ClassId) (ad : Nat → Nat) (w : Wd) (k N : Nat) {i : Nat} (hne : i ≠ w.1.1 + 1) : cellW K ad (wAl w k N) i = cellW K ad w i := by
  have a1 : (wAl w k N).1.2.1 i = w.1.2.1 i := upA_n _ _ hne
  have a2 : (wAl w k N).1.2.2.1 i = w.1.2.2.1 i := upA_n _ _ hne
  have a3 : (wAl w k N).1.2.2.2 i = w.1.2.2.2 i := upA_n _ _ hne
  have a4 : (wAl w k N).2.1 i = w.2.1 i := upA_n _ _ hne
  have a5 : (wAl w k N).2.2 i = w.2.2 i := upA_n _ _ hne
  have e1 : ∀ ci, fldV ad (wAl w k N) ci i = fldV ad w ci i := by
    intro ci
    funext k'
    unfold fldV
    rw [a3, a4]
  unfold cellW
  rw [a1, a2, a3, a4, e1]
theorem wAl_wf (w : Wd) (k N : Nat) (hw : WFw w) (hn : w.1.1 + 1 < 1000000) : WFw (wAl w k N) := by
  obtain ⟨h1, h2, h3⟩ := hw
  refine ⟨fun i hi => ?_, fun i k' => ?_, hn⟩
  · show 1 ≤ i ∧ i ≤ w.1.1 + 1
    by_cases he : i = w.1.1 + 1
    · omega
    · have a1 : (wAl w k N).1.2.1 i = w.1.2.1 i := upA_n _ _ he
      rw [a1] at hi
      have := h1 i hi
      omega
  · show _ ≤ w.1.1 + 1
    by_cases he : i = w.1.1 + 1
    · have a3 : (wAl w k N).1.2.2.2 i = fun _ => 0 := by rw [he]; exact upA_s _ _ _
      rw [a3]
      exact Nat.zero_le _
    · have a3 : (wAl w k N).1.2.2.2 i = w.1.2.2.2 i := upA_n _ _ he
      rw [a3]
      have := h2 i k'
      omega
/-- a new cell behind the others -/
theorem wsW_push (K : Nat → ClassId) (ad ad' : Nat → Nat) (w : Wd) (k N q : Nat) (hw : WFw w) (h1 : ∀ i, i ≤ w.1.1 → ad' i = ad i) (h2 : ad' (w.1.1 + 1) = q) : wsW K ad' (wAl w k N) = wsW K ad w ++ [(q, cellW K ad' (wAl w k N) (w.1.1 + 1))] := by
  rw [← wsW_congr K ad ad' w hw h1]
  unfold wsW
  rw [show (wAl w k N).1.1 = w.1.1 + 1 from rfl, List.range_succ, List.map_append]
  congr 1
  · apply List.map_congr_left
    intro i hi
    have hi := List.mem_range.mp hi
    rw [cellW_wAl_n K ad' w k N (by omega)]
  · simp [h2]
