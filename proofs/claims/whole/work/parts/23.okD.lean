theorem okAll (j : Nat) (h : j < 196) : okM j = true := sorry
