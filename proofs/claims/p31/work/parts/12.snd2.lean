/-! SOUNDNESS OF ONE STEP: fields, arrays, new cells -/
theorem wf_in {w : Wd} (h : WFw w) {a ci : Nat} (hk : w.1.2.1 a = ci) (hc : ci < 20) : 1 ≤ a ∧ a ≤ w.1.1 := h.1 a (by rw [hk]; exact hc)
theorem tysK_8 (K : Nat → ClassId) : (tysK K)[0]? = some (K 8, .int) := rfl
theorem tysK_9 (K : Nat → ClassId) : (tysK K)[1]? = some (K 9, .boolean) := rfl
theorem tysK_10 (K : Nat → ClassId) : (tysK K)[2]? = some (K 10, .int) := rfl
theorem tysK_11 (K : Nat → ClassId) : (tysK K)[3]? = some (K 11, .object "OdometerRing$Odometer") := rfl
theorem ws_obj {K : Nat → ClassId} {ad : Nat → Nat} {w : Wd} (hwf : WFw w) {a ci : Nat} (hk : w.1.2.1 a = ci) (hc : ci < 7) : (wsW K ad w)[a - 1]? = some (ad a, .inr (ci, (List.range (nF ci)).map (fldV ad w ci a))) := by
  obtain ⟨h1, h2⟩ := wf_in hwf hk (by omega)
  rw [wsW_at K ad w h1 h2, cellW_obj K ad w hk hc]
theorem ws_8 {K : Nat → ClassId} {ad : Nat → Nat} {w : Wd} (hwf : WFw w) {a : Nat} (hk : w.1.2.1 a = 8) : (wsW K ad w)[a - 1]? = some (ad a, .inl (K 8, w.1.2.2.1 a, .inl (w.2.1 a))) := by
  obtain ⟨h1, h2⟩ := wf_in hwf hk (by omega)
  rw [wsW_at K ad w h1 h2, cellW_8 K ad w hk]
theorem ws_9 {K : Nat → ClassId} {ad : Nat → Nat} {w : Wd} (hwf : WFw w) {a : Nat} (hk : w.1.2.1 a = 9) : (wsW K ad w)[a - 1]? = some (ad a, .inl (K 9, w.1.2.2.1 a, .inl (w.2.1 a))) := by
  obtain ⟨h1, h2⟩ := wf_in hwf hk (by omega)
  rw [wsW_at K ad w h1 h2, cellW_9 K ad w hk]
theorem ws_10 {K : Nat → ClassId} {ad : Nat → Nat} {w : Wd} (hwf : WFw w) {a : Nat} (hk : w.1.2.1 a = 10) : (wsW K ad w)[a - 1]? = some (ad a, .inl (K 10, w.1.2.2.1 a, .inl (w.2.1 a))) := by
  obtain ⟨h1, h2⟩ := wf_in hwf hk (by omega)
  rw [wsW_at K ad w h1 h2, cellW_10 K ad w hk]
theorem ws_11 {K : Nat → ClassId} {ad : Nat → Nat} {w : Wd} (hwf : WFw w) {a : Nat} (hk : w.1.2.1 a = 11) : (wsW K ad w)[a - 1]? = some (ad a, .inl (K 11, w.1.2.2.1 a, .inr (.inr (.inr (.inr (fun k => rfo ad (w.1.2.2.2 a k))))))) := by
  obtain ⟨h1, h2⟩ := wf_in hwf hk (by omega)
  rw [wsW_at K ad w h1 h2, cellW_11 K ad w hk]
theorem fs_at (ad : Nat → Nat) (w : Wd) {ci a k : Nat} (hk : k < nF ci) : ((List.range (nF ci)).map (fldV ad w ci a))[k]? = some (fldV ad w ci a k) := by
  simp [List.getElem?_map, List.getElem?_range hk]
theorem fld_ref {ad : Nat → Nat} {w : Wd} {ci a k : Nat} (h : fK ci k = 1) : fldV ad w ci a k = cv ad (.ref (w.1.2.2.2 a k)) := if_pos h
theorem fld_int {ad : Nat → Nat} {w : Wd} {ci a k : Nat} (h : ¬ fK ci k = 1) : fldV ad w ci a k = .int (w.2.1 a k) := if_neg h
/-- an object's field of ints is written -/
theorem ws_putI {K : Nat → ClassId} {ad : Nat → Nat} {w : Wd} (hwf : WFw w) {a ci k : Nat} (hk : w.1.2.1 a = ci) (hc : ci < 7) (hf : ¬ fK ci k = 1) (x : Int32) : (wsW K ad w).set (a - 1) (ad a, .inr (ci, ((List.range (nF ci)).map (fldV ad w ci a)).set k (.int x))) = wsW K ad (wI w a (upd (w.2.1 a) k x)) := by
  obtain ⟨h1, h2⟩ := wf_in hwf hk (by omega)
  refine wsW_set K ad w _ h1 h2 rfl (fun i hi => cellW_wI_n K ad w _ hi) ?_
  rw [cellW_obj K ad _ (show (wI w a (upd (w.2.1 a) k x)).1.2.1 a = ci from hk) hc]
  congr 2
  refine (fld_set ad w (wI w a (upd (w.2.1 a) k x)) (fun q hq => ?_) ?_).symm
  · unfold fldV
    have e : (wI w a (upd (w.2.1 a) k x)).2.1 a q = w.2.1 a q := by
      show upA w.2.1 a _ a q = _
      rw [upA_s]
      simp [upd, hq]
    rw [e]
    rfl
  · rw [fld_int hf]
    show Value.int (upA w.2.1 a _ a k) = _
    rw [upA_s]
    simp [upd]
theorem ws_putR {K : Nat → ClassId} {ad : Nat → Nat} {w : Wd} (hwf : WFw w) {a ci k : Nat} (hk : w.1.2.1 a = ci) (hc : ci < 7) (hf : fK ci k = 1) (x : Nat) : (wsW K ad w).set (a - 1) (ad a, .inr (ci, ((List.range (nF ci)).map (fldV ad w ci a)).set k (cv ad (.ref x)))) = wsW K ad (wR w a (upA (w.1.2.2.2 a) k x)) := by
  obtain ⟨h1, h2⟩ := wf_in hwf hk (by omega)
  refine wsW_set K ad w _ h1 h2 rfl (fun i hi => cellW_wR_n K ad w _ hi) ?_
  rw [cellW_obj K ad _ (show (wR w a (upA (w.1.2.2.2 a) k x)).1.2.1 a = ci from hk) hc]
  congr 2
  refine (fld_set ad w (wR w a (upA (w.1.2.2.2 a) k x)) (fun q hq => ?_) ?_).symm
  · unfold fldV
    have e : (wR w a (upA (w.1.2.2.2 a) k x)).1.2.2.2 a q = w.1.2.2.2 a q := by
      show upA w.1.2.2.2 a _ a q = _
      rw [upA_s, upA_n _ _ hq]
    rw [e]
    rfl
  · rw [fld_ref hf]
    show cv ad (.ref (upA w.1.2.2.2 a _ a k)) = _
    rw [upA_s, upA_s]
theorem ws_setI {K : Nat → ClassId} {ad : Nat → Nat} {w : Wd} (hwf : WFw w) {a : Nat} (g : Nat → Int32) (hk : w.1.2.1 a = 8) : (wsW K ad w).set (a - 1) (ad a, .inl (K 8, w.1.2.2.1 a, .inl g)) = wsW K ad (wI w a g) := by
  obtain ⟨h1, h2⟩ := wf_in hwf hk (by omega)
  refine wsW_set K ad w _ h1 h2 rfl (fun i hi => cellW_wI_n K ad w _ hi) ?_
  rw [cellW_8 K ad _ (show (wI w a g).1.2.1 a = 8 from hk)]
  have e : (wI w a g).2.1 a = g := upA_s _ _ _
  rw [e]
  rfl
theorem ws_setZ {K : Nat → ClassId} {ad : Nat → Nat} {w : Wd} (hwf : WFw w) {a : Nat} (g : Nat → Int32) (hk : w.1.2.1 a = 9) : (wsW K ad w).set (a - 1) (ad a, .inl (K 9, w.1.2.2.1 a, .inl g)) = wsW K ad (wI w a g) := by
  obtain ⟨h1, h2⟩ := wf_in hwf hk (by omega)
  refine wsW_set K ad w _ h1 h2 rfl (fun i hi => cellW_wI_n K ad w _ hi) ?_
  rw [cellW_9 K ad _ (show (wI w a g).1.2.1 a = 9 from hk)]
  have e : (wI w a g).2.1 a = g := upA_s _ _ _
  rw [e]
  rfl
theorem ws_setQ {K : Nat → ClassId} {ad : Nat → Nat} {w : Wd} (hwf : WFw w) {a i x : Nat} (hx : 1 ≤ x) (hk : w.1.2.1 a = 11) : (wsW K ad w).set (a - 1) (ad a, .inl (K 11, w.1.2.2.1 a, .inr (.inr (.inr (.inr (va_up (fun k => rfo ad (w.1.2.2.2 a k)) i (some (ad x)))))))) = wsW K ad (wR w a (upA (w.1.2.2.2 a) i x)) := by
  obtain ⟨h1, h2⟩ := wf_in hwf hk (by omega)
  refine wsW_set K ad w _ h1 h2 rfl (fun i hi => cellW_wR_n K ad w _ hi) ?_
  rw [cellW_11 K ad _ (show (wR w a (upA (w.1.2.2.2 a) i x)).1.2.1 a = 11 from hk)]
  have e : (wR w a (upA (w.1.2.2.2 a) i x)).1.2.2.2 a = upA (w.1.2.2.2 a) i x := upA_s _ _ _
  rw [e]
  have e2 : (fun k => rfo ad (upA (w.1.2.2.2 a) i x k)) = va_up (fun k => rfo ad (w.1.2.2.2 a k)) i (some (ad x)) := by
    funext k
    by_cases hk : k = i
    · subst hk
      obtain ⟨y, rfl⟩ : ∃ y, x = y + 1 := ⟨x - 1, by omega⟩
      simp [upA_s, va_up, rfo]
    · simp [upA_n _ _ hk, va_up, hk]
  rw [e2]
  rfl
theorem frB_map {n n' : Nat} {st : List Value} {ls : List (Nat × Value)} {ad ad' : Nat → Nat} (h : frB n n' st ls) (ha : ∀ x, (x ≤ n ∨ n' < x) → ad' x = ad x) : st.map (cv ad') = st.map (cv ad) ∧ cvl ad' ls = cvl ad ls := by
  have key : ∀ v : Value, (∀ x, v = .ref x → x ≤ n ∨ n' < x) → cv ad' v = cv ad v := by
    intro v hv
    cases v with
    | ref a => cases a with
      | zero => rfl
      | succ a => show Value.ref _ = Value.ref _; rw [ha _ (hv _ rfl)]
    | _ => rfl
  refine ⟨List.map_congr_left (fun v hv => key v (h.1 v hv)), ?_⟩
  unfold cvl
  refine List.map_congr_left (fun q hq => ?_)
  rw [key q.2 (h.2 q hq)]
theorem dflt : ∀ ci, ci < 7 → ∀ k, k < nF ci → defaultValue (tyXc ci k) = if fK ci k = 1 then .null else .int 0 := by decide +kernel
