/-! THE REFERENCE: storing the distance: written by wip/whole/pure2.py -/
/-- three writes; whether the power stays on -/
def rW3 (ρ : Rw) (s : Nat) (vain : Int32) : Rw × Bool :=
  if ρ 10 = 1 then (rWr ρ s 0 (ρ 4) vain, false)
  else if rWr ρ s 0 (ρ 4) vain 10 = 1 then (rWr (rWr ρ s 0 (ρ 4) vain) s 1 (rWr ρ s 0 (ρ 4) vain 4) vain, false)
  else if rWr (rWr ρ s 0 (ρ 4) vain) s 1 (rWr ρ s 0 (ρ 4) vain 4) vain 10 = 1 then (rWr (rWr (rWr ρ s 0 (ρ 4) vain) s 1 (rWr ρ s 0 (ρ 4) vain 4) vain) s 2 (rWr (rWr ρ s 0 (ρ 4) vain) s 1 (rWr ρ s 0 (ρ 4) vain 4) vain 4) vain, false)
  else (rWr (rWr (rWr ρ s 0 (ρ 4) vain) s 1 (rWr ρ s 0 (ρ 4) vain 4) vain) s 2 (rWr (rWr ρ s 0 (ρ 4) vain) s 1 (rWr ρ s 0 (ρ 4) vain 4) vain 4) vain, true)
def rSt (n cur : Nat) : Nat → Nat → Rw → Rw
  | 0, _, ρ => upd ρ 12 1
  | f + 1, vain, ρ => if (rW3 ρ ((cur + 1 + vain) % n) (nI vain)).2 = false then (rW3 ρ ((cur + 1 + vain) % n) (nI vain)).1
    else if rSays (rW3 ρ ((cur + 1 + vain) % n) (nI vain)).1 ((cur + 1 + vain) % n) = (rW3 ρ ((cur + 1 + vain) % n) (nI vain)).1 4 then upd (upd (rW3 ρ ((cur + 1 + vain) % n) (nI vain)).1 7 (nI ((cur + 1 + vain) % n))) 6 (upd (rW3 ρ ((cur + 1 + vain) % n) (nI vain)).1 7 (nI ((cur + 1 + vain) % n)) 4)
    else rSt n cur f (vain + 1) (rW3 ρ ((cur + 1 + vain) % n) (nI vain)).1
theorem rWr_keep {ρ : Rw} {s i : Nat} {v vain : Int32} {k : Nat} (h : k = 0 ∨ k = 1 ∨ k = 2 ∨ k = 4 ∨ k = 5 ∨ k = 6 ∨ k = 7 ∨ (17 ≤ k ∧ k < 42)) : rWr ρ s i v vain k = ρ k := by
  have h1 : k ≠ 42 + 2 * (3 * s + i) := by omega
  have h2 : k ≠ 43 + 2 * (3 * s + i) := by omega
  have h3 : k ≠ 8 ∧ k ≠ 10 ∧ k ≠ 3 ∧ k ≠ 12 ∧ k ≠ 11 ∧ k ≠ 9 ∧ k ≠ 13 ∧ k ≠ 14 ∧ k ≠ 15 ∧ k ≠ 16 := by omega
  obtain ⟨a1, a2, a3, a4, a5, a6, a7, a8, a9, a10⟩ := h3
  unfold rWr rOff rPut rCut
  split <;> (repeat' split) <;> simp [upd, h1, h2, a1, a2, a3, a4, a5, a6, a7, a8, a9, a10]
theorem rW3_keep {ρ : Rw} {s : Nat} {vain : Int32} {k : Nat} (h : k = 0 ∨ k = 1 ∨ k = 2 ∨ k = 4 ∨ k = 5 ∨ k = 6 ∨ k = 7 ∨ (17 ≤ k ∧ k < 42)) : (rW3 ρ s vain).1 k = ρ k := by
  unfold rW3
  (repeat' split) <;> simp only [rWr_keep h]
theorem i_slot {n cur vain : Nat} (hn : 0 < n) (hb : n < 1000) (hc : cur < 1000) (hv : vain < 1000) : nI cur + 1 + nI vain - (nI cur + 1 + nI vain) / nI n * nI n = nI ((cur + 1 + vain) % n) := by
  rw [nI_1, nI_add, pk_rem (by omega) hn (by omega)]
/-- storing the distance -/
def rStore (ρ : Rw) : Rw := rSt (ρ 0).toNatClampNeg (ρ 7).toNatClampNeg ((ρ 0).toNatClampNeg - 1) 0 ρ
