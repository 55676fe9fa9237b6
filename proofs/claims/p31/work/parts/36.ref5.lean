/-! THE REFERENCE: clearing, driving, power, services: written by wip/whole/pure3.py -/
def rClear (ρ : Rw) (k : Nat) : Rw := fun q => if q < k then 0 else ρ q
def rLasts (ρ : Rw) : Nat → Rw
  | 0 => ρ
  | k + 1 => upd (rLasts ρ k) (13 + k) (-99999)
def rHead (ρ : Rw) (a b c : Int32) : Rw := upd (upd (upd (upd (upd (rClear ρ 114) 0 a) 1 b) 2 c) 3 1) 11 (-99999)
def rClean (ρ : Rw) (a b c : Int32) : Rw := rLasts (rHead ρ a b c) 4
theorem rClear_s (ρ : Rw) (k : Nat) : upd (rClear ρ k) k 0 = rClear ρ (k + 1) := by
  funext q
  unfold rClear
  by_cases h : q = k
  · subst h
    rw [pk_us, if_pos (by omega)]
  · rw [pk_un h]
    by_cases h2 : q < k
    · rw [if_pos h2, if_pos (by omega)]
    · rw [if_neg h2, if_neg (by omega)]
def p10 : Nat → Int64
  | 0 => 1
  | k + 1 => p10 k * 10
def rFnd (ρ : Rw) (c : Int32) : Nat → Int32
  | 0 => -99999
  | k + 1 => if ρ (18 + 2 * k) = c then nI k else rFnd ρ c k
/-- a row whose pairs from i on, k numbers of them, have moved down -/
def rShift (ρ : Rw) (a k : Nat) : Rw := fun q => if a ≤ q ∧ q < a + k then ρ (q + 2) else ρ q
def rDrop (ρ : Rw) (i n : Nat) : Rw := upd (rShift ρ (18 + 2 * i) (2 * (n - 1 - i))) 17 (nI (n - 1))
theorem rShift_s (ρ : Rw) (a k : Nat) : upd (rShift ρ a k) (a + k) (rShift ρ a k (a + k + 2)) = rShift ρ a (k + 1) := by
  funext q
  unfold rShift
  by_cases h : q = a + k
  · subst h
    rw [pk_us, if_neg (by omega), if_pos (by omega)]
  · rw [pk_un h]
    by_cases h2 : a ≤ q ∧ q < a + k
    · rw [if_pos h2, if_pos (by omega)]
    · rw [if_neg h2, if_neg (by omega)]
theorem rShift_0 (ρ : Rw) (a : Nat) : rShift ρ a 0 = ρ := by
  funext q
  unfold rShift
  rw [if_neg (by omega)]
theorem rShift_lo (ρ : Rw) {a k q : Nat} (h : q < a) : rShift ρ a k q = ρ q := by
  unfold rShift
  rw [if_neg (by omega)]
