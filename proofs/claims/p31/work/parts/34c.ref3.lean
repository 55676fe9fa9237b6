/-! THE REFERENCE: a write, a storing, driving, power: written by wip/whole/pure2.py -/
def rCut (ρ : Rw) : Rw := upd (upd ρ 8 (ρ 8 + 1)) 10 (ρ 10 - (if ρ 10 ≤ 0 then 0 else 1))
def rCel (s i : Nat) : Nat := 42 + 2 * (3 * s + i)
/-- what the write does to the cell -/
def rPut (ρ : Rw) (cut : Prop) [Decidable cut] (s i : Nat) (v : Int32) : Rw :=
  if ¬ ρ (43 + 2 * (3 * s + i)) < ρ 2 then ρ
  else if cut then (if ρ 11 ≤ 0 then upd ρ (43 + 2 * (3 * s + i)) (ρ (43 + 2 * (3 * s + i)) + 1) else upd (upd ρ (43 + 2 * (3 * s + i)) (ρ (43 + 2 * (3 * s + i)) + 1)) (42 + 2 * (3 * s + i)) (if ρ 11 = 1 then -99999 else v - (v - v / 100 * 100)))
  else upd (upd ρ (43 + 2 * (3 * s + i)) (ρ (43 + 2 * (3 * s + i)) + 1)) (42 + 2 * (3 * s + i)) v
def rOff (ρ : Rw) (s i : Int32) (kind vain : Int32) : Rw := upd (upd (upd (upd (upd (upd (upd (upd ρ 3 0) 12 0) 11 (-99999)) 9 (ρ 9 + 1)) 13 s) 14 i) 15 kind) 16 vain
def rWr (ρ : Rw) (s i : Nat) (v vain : Int32) : Rw := if ρ 10 = 1 then rOff (rPut (rCut ρ) True s i v) (nI s) (nI i) (ρ 11) vain else rPut (rCut ρ) False s i v
