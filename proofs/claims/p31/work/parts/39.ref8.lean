/-! THE REFERENCE: commands: written by wip/whole/pure3.py -/
def rDoDrive (ρ : Rw) (t : Nat) : Rw := if ρ 3 = 0 then ρ else rGo t ρ
def rDoCut (ρ : Rw) (n k : Int32) : Rw := if ρ 3 = 0 then ρ else upd (upd ρ 10 n) 11 k
def rDoStart (ρ : Rw) : Rw := if ρ 3 = 1 then ρ else rPower ρ
def rDoServe (ρ : Rw) (c : Int32) (n : Nat) : Rw := if ρ 3 = 1 ∧ (ρ 17 < 12 ∨ ¬ rFnd ρ c n = -99999) then rServe ρ c n else ρ
def rDoReplace (ρ : Rw) (s : Nat) : Rw := if ρ 3 = 1 ∧ ¬ nI s = ρ 7 then rRenew ρ s else ρ
