/-! THE REFERENCE: scripts and simulations: written by wip/whole/pure3.py -/
theorem slot_i {a n : Nat} (ha : a < 1000000) (hn : n < 1000000) : (¬ nI a < 0 ∧ ¬ nI n ≤ nI a) ↔ a < n := by
  rw [nI_leI (by omega) (by omega)]
  exact ⟨fun h => Nat.lt_of_not_le h.2, fun h => ⟨nI_pos (by omega), Nat.not_le.mpr h⟩⟩
theorem cut_i {a c : Nat} (ha : a ≤ 9) (hc : c ≤ 9) : (¬ nI a < 1 ∧ ¬ 36 < nI a ∧ ¬ nI c < 0 ∧ ¬ 2 < nI c) ↔ (1 ≤ a ∧ c ≤ 2) := by
  rw [lt1 (by omega), o_36, nI_ltI (by omega) (by omega), o_2, nI_ltI (by omega) (by omega)]
  exact ⟨fun h => ⟨h.1, by omega⟩, fun h => ⟨h.1, by omega, nI_pos (by omega), by omega⟩⟩
theorem step_i {a : Nat} (ha : a < 100) : (¬ nI a < 1 ∧ ¬ 99 < nI a) ↔ 1 ≤ a := by
  rw [lt1 (by omega), show (99 : Int32) = nI 99 from rfl, nI_ltI (by omega) (by omega)]
  exact ⟨fun h => h.1, fun h => ⟨h, by omega⟩⟩
