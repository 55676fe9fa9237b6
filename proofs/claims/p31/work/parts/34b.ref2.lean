/-! THE REFERENCE, loops over rows of numbers: written by wip/whole/pure2.py -/
theorem cpy_step {M : Nat → Nat → Int32} {f t fa ta k : Nat} (hne : f ≠ t ∨ ta ≤ fa) : upA (upA M t (va_cpy (M f) (M t) fa ta k)) t (upd (upA M t (va_cpy (M f) (M t) fa ta k) t) (ta + k) (upA M t (va_cpy (M f) (M t) fa ta k) f (fa + k))) = upA M t (va_cpy (M f) (M t) fa ta (k + 1)) := by
  have e : upA M t (va_cpy (M f) (M t) fa ta k) f (fa + k) = M f (fa + k) := by
    by_cases h : f = t
    · subst h
      rw [upA_s]
      unfold va_cpy
      rw [if_neg (by rcases hne with h | h
                     · exact absurd rfl h
                     · omega)]
    · rw [upA_n _ _ h]
  rw [e, upA_s]
  funext i
  by_cases hi : i = t
  · subst hi
    rw [upA_s, upA_s]
    funext q
    unfold upd va_cpy
    by_cases hq : q = ta + k
    · subst hq
      rw [if_pos rfl, if_pos (by omega)]
      congr 1
      omega
    · rw [if_neg hq]
      by_cases h2 : ta ≤ q ∧ q < ta + k
      · rw [if_pos h2, if_pos (by omega)]
      · rw [if_neg h2, if_neg (by omega)]
  · rw [upA_n _ _ hi, upA_n _ _ hi, upA_n _ _ hi]
theorem cpy_0 (M : Nat → Nat → Int32) (f t fa ta : Nat) : upA M t (va_cpy (M f) (M t) fa ta 0) = M := by
  funext i
  by_cases hi : i = t
  · subst hi
    rw [upA_s]
    funext q
    unfold va_cpy
    rw [if_neg (by omega)]
  · rw [upA_n _ _ hi]
def rWear (ρ : Rw) (s : Nat) : Int32 := 0 + ρ (43 + 2 * (3 * s + 0)) + ρ (43 + 2 * (3 * s + 1)) + ρ (43 + 2 * (3 * s + 2))
