/-! THE REFERENCE: deeds: written by wip/whole/pure3.py -/
theorem nt_o {M : Nat → Nat → Int32} {a c : Nat} (h1 : c ≠ 137) (h2 : c ≠ 141) : mNote M a c = M c := by
  unfold mNote
  split
  · unfold mPush mDown
    rw [upA_n _ _ h1, upA_n _ _ h2, upA_n _ _ h1, upA_n _ _ h2]
  · unfold mPush
    rw [upA_n _ _ h1, upA_n _ _ h2]
theorem nt_139 {M : Nat → Nat → Int32} {a : Nat} {v : Int32} : mNote (setQ M 0 v) a 139 = M 139 := (nt_o (by omega) (by omega)).trans (setQ_o (by omega))
def aDrive (ρ : Rw) (x : Int32) : Nat × Int32 := if ¬ x < 1 ∧ ¬ 999 < x then (if ρ 3 = 0 then (2, 0) else (0, nI (rGone x.toNatClampNeg ρ))) else (1, 0)
def aCut (ρ : Rw) (x y : Int32) : Nat × Int32 := if ¬ x < 1 ∧ ¬ 36 < x ∧ ¬ y < 0 ∧ ¬ 2 < y then (if ρ 3 = 0 then (2, 0) else (0, ρ 10)) else (1, 0)
def aStart (ρ : Rw) : Nat × Int32 := if ρ 3 = 1 then (1, 0) else (0, rPower ρ 4)
def aService (ρ : Rw) (m : Nat) (x y : Int32) : Nat × Int32 := if ¬ x < 0 ∧ ¬ 9 < x ∧ ¬ y < 0 ∧ ¬ 9 < y then (if ρ 3 = 1 ∧ (ρ 17 < 12 ∨ ¬ rFnd ρ (10 * x + y) m = -99999) then (0, rServed ρ (10 * x + y) m) else (2, 0)) else (1, 0)
def aForget (ρ : Rw) (m : Nat) (x y : Int32) : Nat × Int32 := if ¬ x < 0 ∧ ¬ 9 < x ∧ ¬ y < 0 ∧ ¬ 9 < y then (if rFnd ρ (10 * x + y) m = -99999 then (2, 0) else (0, ρ (19 + 2 * (rFnd ρ (10 * x + y) m).toNatClampNeg))) else (1, 0)
def aStep (ρ : Rw) (x : Int32) : Nat × Int32 := if ¬ x < 1 ∧ ¬ 99 < x then (0, ρ 1) else (1, 0)
def aRepl (ρ : Rw) (n : Nat) (x : Int32) : Nat × Int32 := if ¬ x < 0 ∧ ¬ nI n ≤ x then (if ρ 3 = 1 ∧ ¬ x = ρ 7 then (0, rWear ρ x.toNatClampNeg) else (2, 0)) else (1, 0)
def aUndo (a : Nat) : Nat × Int32 := if nI a = 0 then (1, 0) else (0, nI (a - 1))
def aSave (ρ : Rw) (x : Int32) : Nat × Int32 := if ¬ x < 0 ∧ ¬ 1 < x then (0, ρ 5) else (1, 0)
def aRest (κ β : Rw) (x : Int32) : Nat × Int32 := if ¬ x < 0 ∧ ¬ 1 < x then (if β x.toNatClampNeg = 0 then (2, 0) else (0, κ (114 * x.toNatClampNeg + 5))) else (1, 0)
def aApp (n : Nat) (x : Int32) : Nat × Int32 := if ¬ x < 0 ∧ ¬ 255 < x then (if nI n = 90 then (2, 0) else (0, nI (n + 1))) else (1, 0)
theorem in_nat1 {x m : Int32} {k : Nat} (e : m = nI k) (hk : k < 1000000) (h : ¬ x < 1 ∧ ¬ m < x) : ∃ q, 1 ≤ q ∧ q ≤ k ∧ x = nI q := by
  obtain ⟨q, h1, h2⟩ := in_nat e hk ⟨fun h_ => h.1 (Int32.lt_trans h_ (by decide)), h.2⟩
  refine ⟨q, ?_, h1, h2⟩
  have := h.1
  rw [h2, o_1, nI_ltI (by omega) (by omega)] at this
  omega
theorem va_cpy_5 {α : Type} {f t : Nat → α} {a : Nat} : va_cpy f t a 0 114 5 = f (a + 5) := by
  unfold va_cpy
  rw [if_pos (by omega)]
