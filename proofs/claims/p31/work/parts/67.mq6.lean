/-! THE REFERENCE: runScript: written by wip/whole/pure3.py -/
theorem rGo_0 : ∀ (f : Nat) {ρ : Rw}, rGo f ρ 0 = ρ 0
  | 0, _ => rfl
  | f + 1, ρ => by
    unfold rGo
    split
    · rw [rGo_0 f]
      unfold rGo1
      split
      · split
        · rfl
        · exact rStore_keep (by omega)
      · rfl
    · rfl
theorem gRow_0 {B : Nat} {ρ : Rw} (_ : I2 B ρ) (g k : Nat) : gRow ρ g k 0 = ρ 0 := by
  unfold gRow
  split
  · split
    · exact rGo_0 _
    · rfl
  · split <;> rfl
  · split <;> rfl
  · split
    · unfold rServe
      split
      · exact rAdd_lo _ (by omega)
      · exact (rAdd_lo _ (by omega)).trans (rDrop_lo _ (by omega))
    · rfl
  · split <;> rfl
  · split
    · exact rRn_hi (by omega) 3
    · rfl
  · rfl
theorem p10_ne {f : Nat} (hf : f ≤ 4) : ¬ p10 (4 * f) = 0 := by
  intro h
  have h1 := p10_i f hf
  have h2 := p10_pos f
  rw [h, show (0 : Int64).toInt = 0 by decide] at h1
  omega
