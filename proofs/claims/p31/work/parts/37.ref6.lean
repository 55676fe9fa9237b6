/-! THE REFERENCE: services, renewing, driving, power: written by wip/whole/pure3.py -/
theorem rFnd_or (ρ : Rw) (c : Int32) : ∀ n, (rFnd ρ c n = -99999) ∨ ∃ i, i < n ∧ rFnd ρ c n = nI i
  | 0 => Or.inl rfl
  | n + 1 => by
    unfold rFnd
    split
    · exact Or.inr ⟨n, by omega, rfl⟩
    · rcases rFnd_or ρ c n with h | ⟨i, h, h2⟩
      · exact Or.inl h
      · exact Or.inr ⟨i, by omega, h2⟩
theorem nN {i : Nat} (h : i < 2147483648) : ¬ nI i = -99999 := by
  intro h2
  have := nI_pos h
  rw [h2] at this
  exact absurd this (by decide)
def rCan (ρ : Rw) (c : Int32) (n : Nat) : Prop := ρ 3 = 1 ∧ (ρ 17 < 12 ∨ ¬ rFnd ρ c n = -99999)
def rAdd (ρ : Rw) (c : Int32) (n : Nat) : Rw := upd (upd (upd ρ (18 + 2 * n) c) (19 + 2 * n) (ρ 4)) 17 (nI (n + 1))
def rServe (ρ : Rw) (c : Int32) (n : Nat) : Rw := if rFnd ρ c n = -99999 then rAdd ρ c n else rAdd (rDrop ρ (rFnd ρ c n).toNatClampNeg n) c (n - 1)
def rServed (ρ : Rw) (c : Int32) (n : Nat) : Int32 := if rFnd ρ c n = -99999 then -99999 else ρ 4 - ρ (19 + 2 * (rFnd ρ c n).toNatClampNeg)
theorem rDrop_lo (ρ : Rw) {i n k : Nat} (h : k < 17) : rDrop ρ i n k = ρ k := by
  unfold rDrop
  rw [pk_un (by omega), rShift_lo _ (by omega)]
theorem rDrop_17 (ρ : Rw) {i n : Nat} : rDrop ρ i n 17 = nI (n - 1) := by
  unfold rDrop
  rw [pk_us]
def rRn (ρ : Rw) (s : Nat) : Nat → Rw
  | 0 => ρ
  | k + 1 => upd (upd (rRn ρ s k) (42 + 2 * (3 * s + k)) 0) (43 + 2 * (3 * s + k)) 0
def rRenew (ρ : Rw) (s : Nat) : Rw := rRn ρ s 3
def rLeast (ρ : Rw) : Nat → Int32
  | 0 => ρ 43
  | k + 1 => if rLeast ρ k ≤ ρ (43 + 2 * k) then rLeast ρ k else ρ (43 + 2 * k)
def rMost (ρ : Rw) : Nat → Int32
  | 0 => ρ 43
  | k + 1 => if ρ (43 + 2 * k) ≤ rMost ρ k then rMost ρ k else ρ (43 + 2 * k)
