theorem l_lt (x y : Int32) : x.toInt64 < y.toInt64 ↔ x < y := by
  rw [Int64.lt_iff_toInt_lt, Int32.lt_iff_toInt_lt, Int32.toInt_toInt64, Int32.toInt_toInt64]
theorem x_sl {x : Int32} {n : Nat} (h1 : 1 ≤ n) (hn : n < 1000000) : ¬ nI n - 1 < x ↔ ¬ nI n ≤ x := by
  rw [o_1, pk_sub h1, Int32.lt_iff_toInt_lt, Int32.le_iff_toInt_le, nI_toInt (by omega), nI_toInt (by omega)]
  omega
/-- the trial begins -/
def mBegin (M : Nat → Nat → Int32) : Nat → Nat → Int32 := upA M 140 (va_cpy (M 139) (M 140) 0 0 114)
def mDown (M : Nat → Nat → Int32) : Nat → Nat → Int32 := upA (upA M 141 (va_cpy (M 141) (M 141) 114 0 1482)) 137 (upd (M 137) 11 (M 137 11 - 1))
def mPush (M : Nat → Nat → Int32) (a : Nat) : Nat → Nat → Int32 := upA (upA M 141 (va_cpy (M 139) (M 141) 0 (114 * a) 114)) 137 (upd (M 137) 11 (nI (a + 1)))
def mNote (M : Nat → Nat → Int32) (a : Nat) : Nat → Nat → Int32 := if a = 14 then mPush (mDown M) 13 else mPush M a
