/-! THE REFERENCE: load, append, clearText, errorPosition: written by wip/whole/pure3.py -/
/-- the entries that the law's state speaks of -/
def Imp (c k : Nat) : Prop := c ≠ 140 ∧ (c < 11 ∨ 18 ≤ c) ∧ (c = 137 → k = 2 ∨ 8 ≤ k) ∧ (c = 2 → k = 0)
def Jk (M M' : Nat → Nat → Int32) : Prop := ∀ c k, Imp c k → M' c k = M c k
theorem Jk.rf (M : Nat → Nat → Int32) : Jk M M := fun _ _ _ => rfl
theorem Jk.tr {M M1 M2 : Nat → Nat → Int32} (h : Jk M M1) (h2 : Jk M1 M2) : Jk M M2 := fun c k hi => (h2 c k hi).trans (h c k hi)
theorem Jk_Q (M : Nat → Nat → Int32) {k : Nat} {v : Int32} (h : k ≠ 2 ∧ k < 8) : Jk M (setQ M k v) := by
  intro c q hi
  by_cases e : c = 137
  · subst e
    have := hi.2.2.1 rfl
    exact setQ_k (by omega)
  · rw [setQ_o e]
theorem Jk_P (M : Nat → Nat → Int32) (s : PS) : Jk M (setP M s) := by
  intro c q hi
  by_cases e : c = 137
  · subst e
    have := hi.2.2.1 rfl
    exact setP_k M s (by omega) (by omega)
  · rw [setP_o M s e]
theorem Jk_H (M : Nat → Nat → Int32) (n : Nat) (τ : Nat → Nat) : Jk M (mHdM M n τ) := ((Jk_Q M (by omega)).tr (Jk_Q _ (by omega))).tr (Jk_Q _ (by omega))
theorem Jk_140 (M : Nat → Nat → Int32) (g : Nat → Int32) : Jk M (upA M 140 g) := fun c k hi => by rw [upA_n _ _ hi.1]
theorem Jk_sO (M : Nat → Nat → Int32) (σ : Rw) : Jk M (sO M 11 σ) := fun c k hi => by rw [sO_ot M 11 σ (by have := hi.2.1; omega)]
theorem Jk_2 (M : Nat → Nat → Int32) {k : Nat} {v : Int32} (h : k ≠ 0) : Jk M (upA M 2 (upd (M 2) k v)) := by
  intro c q hi
  by_cases e : c = 2
  · subst e
    have := hi.2.2.2 rfl
    rw [upA_s, pk_un (by omega)]
  · rw [upA_n _ _ e]
def mLd (n : Nat) (τ : Nat → Nat) (sl : Nat) : Nat → PS → Rw → Int32 → Rw × Int32
  | 0, _, ρ, l => (ρ, l)
  | f + 1, s, ρ, l => if s.2 < n then mLd n τ sl f (mCmd n τ sl s).1 (mDo ρ (mCmd n τ sl s).2) (l + mNo ρ (mCmd n τ sl s).2) else (ρ, l)
theorem mLd_out {n : Nat} {τ : Nat → Nat} {sl : Nat} {s : PS} {ρ : Rw} {l : Int32} (h : ¬ s.2 < n) : ∀ f, mLd n τ sl f s ρ l = (ρ, l)
  | 0 => rfl
  | f + 1 => by rw [mLd, if_neg h]
set_option maxRecDepth 20000 in
theorem mLd_I2 {n : Nat} {τ : Nat → Nat} {sl : Nat} (hs : sl ≤ 12) : ∀ (f : Nat) {B : Nat} {s : PS} {ρ : Rw} {l : Int32}, I2 B ρ → B + 999 * f < 1073741824 → I2 (B + 999 * f) (mLd n τ sl f s ρ l).1
  | 0, _, _, _, _, h, _ => h
  | f + 1, B, s, ρ, l, h, hB => by
    rw [mLd]
    split
    · rw [Nat.mul_succ] at hB ⊢
      have hB2 : B + 999 < 1073741824 := by omega
      have hB3 : B + 999 + 999 * f < 1073741824 := by omega
      have := mLd_I2 (n := n) (τ := τ) (sl := sl) hs f (s := (mCmd n τ sl s).1) (l := l + mNo ρ (mCmd n τ sl s).2) (mDo_I2 (B := B) (sl := sl) (c := (mCmd n τ sl s).2) h (mCmd_v (n := n) (τ := τ) (s := s) hs) hB2) hB3
      rw [show B + (999 * f + 999) = B + 999 + 999 * f by omega]
      exact this
    · exact h.mono (by omega)
theorem mNo_01 (ρ : Rw) (c : Nat × Nat × Nat) : mNo ρ c = 0 ∨ mNo ρ c = 1 := by
  unfold mNo
  split <;> exact bI_01 _
theorem setP_A {M : Nat → Nat → Int32} {ρ ρ' : Rw} {s : PS} : upA (setP (upA M 139 ρ) s) 139 ρ' = setP (upA M 139 ρ') s := by
  unfold setP
  funext c
  by_cases e : c = 139
  · subst e
    rw [upA_s, upA_n _ _ (by omega), upA_s]
  · rw [upA_n _ _ e]
    by_cases e2 : c = 137
    · subst e2
      rw [upA_s, upA_s, upA_n _ _ e, upA_n _ _ e]
    · rw [upA_n _ _ e2, upA_n _ _ e2, upA_n _ _ e, upA_n _ _ e]
theorem setP_A' {M : Nat → Nat → Int32} {ρ' : Rw} {s : PS} : upA (setP M s) 139 ρ' = setP (upA M 139 ρ') s := by
  have := setP_A (M := M) (ρ := M 139) (ρ' := ρ') (s := s)
  rw [upA_id] at this
  exact this
theorem TxM.o {M : Nat → Nat → Int32} {n : Nat} {τ : Nat → Nat} (h : TxM M n τ) {c : Nat} {g : Nat → Int32} (h1 : c ≠ 137) (h2 : c ≠ 138) : TxM (upA M c g) n τ := by
  refine ⟨?_, h.2.1, fun q hq => ?_⟩
  · rw [upA_n _ _ (fun e => h1 e.symm)]
    exact h.1
  · rw [upA_n _ _ (fun e => h2 e.symm)]
    exact h.2.2 q hq
theorem mText_le {n : Nat} {τ : Nat → Nat} {sl : Nat} : ∀ (f : Nat) {s : PS}, s.2 ≤ n + 8 → (mText n τ sl f s).2 ≤ n + 8
  | 0, _, h => h
  | f + 1, s, h => by
    rw [mText]
    split
    · have := mCmd_le (n := n) (τ := τ) (sl := sl) (s := s)
      exact mText_le f (by omega)
    · exact h
theorem mEnd_le {n : Nat} {τ : Nat → Nat} (_ : n ≤ 90) : (mEnd n τ).2 ≤ n + 8 := mText_le 90 (by have := (mHd_le n τ).2.2.2; omega)
theorem nI_ne_none {k : Nat} (h : k < 2147483648) : ¬ nI k = -99999 := by
  intro e
  have := nI_pos' h
  rw [e] at this
  exact absurd this (by decide)
