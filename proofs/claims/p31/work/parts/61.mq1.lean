/-! THE REFERENCE: questions: written by wip/whole/pure3.py -/
theorem q138 {M : Nat → Nat → Int32} {k : Nat} {v : Int32} : setQ M k v 138 = M 138 := setQ_o (by omega)
theorem q139 {M : Nat → Nat → Int32} {k : Nat} {v : Int32} : setQ M k v 139 = M 139 := setQ_o (by omega)
theorem q140 {M : Nat → Nat → Int32} {k : Nat} {v : Int32} : setQ M k v 140 = M 140 := setQ_o (by omega)
theorem q141 {M : Nat → Nat → Int32} {k : Nat} {v : Int32} : setQ M k v 141 = M 141 := setQ_o (by omega)
theorem q142 {M : Nat → Nat → Int32} {k : Nat} {v : Int32} : setQ M k v 142 = M 142 := setQ_o (by omega)
theorem q143 {M : Nat → Nat → Int32} {k : Nat} {v : Int32} : setQ M k v 143 = M 143 := setQ_o (by omega)
theorem in_nat {x m : Int32} {k : Nat} (e : m = nI k) (hk : k < 1000000) (h : ¬ x < 0 ∧ ¬ m < x) : ∃ q, q ≤ k ∧ x = nI q := by
  subst e
  have h1 := h.1
  have h2 := h.2
  rw [Int32.lt_iff_toInt_lt] at h1 h2
  rw [nI_toInt (by omega)] at h2
  have h1 : ¬ x.toInt < 0 := h1
  refine ⟨x.toInt.toNat, by omega, ?_⟩
  apply Int32.toInt_inj.mp
  rw [nI_toInt (by omega)]
  omega
theorem in_nat' {x : Int32} {k : Nat} (hk : k < 1000000) (h : ¬ x < 0 ∧ ¬ nI k ≤ x) : ∃ q, q < k ∧ x = nI q := by
  have h1 := h.1
  have h2 := h.2
  rw [Int32.lt_iff_toInt_lt] at h1
  rw [Int32.le_iff_toInt_le, nI_toInt (by omega)] at h2
  have h1 : ¬ x.toInt < 0 := h1
  refine ⟨x.toInt.toNat, by omega, ?_⟩
  apply Int32.toInt_inj.mp
  rw [nI_toInt (by omega)]
  omega
def vAbout (ρ : Rw) (n k : Nat) : Int32 := if k = 4 ∨ k = 6 ∨ k = 7 then (if ρ 3 = 0 then -99999 else ρ k) else if k = 13 then rMost ρ (3 * n) - rLeast ρ (3 * n) else if k = 14 then ρ 17 else ρ k
def aAbout (ρ : Rw) (n : Nat) (x : Int32) : Nat × Int32 := if ¬ x < 0 ∧ ¬ 14 < x then (0, vAbout ρ n x.toNatClampNeg) else (1, 0)
def aCell (ρ : Rw) (n : Nat) (x i z : Int32) : Nat × Int32 := if ¬ x < 0 ∧ ¬ nI n ≤ x then (if ¬ i < 0 ∧ ¬ 2 < i then (if ¬ z < 0 ∧ ¬ 2 < z then (0, if 2 ≤ z then bI (¬ ρ (43 + 2 * (3 * x.toNatClampNeg + i.toNatClampNeg)) < ρ 2) else ρ (42 + 2 * (3 * x.toNatClampNeg + i.toNatClampNeg) + z.toNatClampNeg)) else (2, 0)) else (1, 0)) else (1, 0)
def aSays (ρ : Rw) (n : Nat) (x : Int32) : Nat × Int32 := if ¬ x < 0 ∧ ¬ nI n ≤ x then (0, rSays ρ x.toNatClampNeg) else (1, 0)
def aWhy (ρ : Rw) (n : Nat) (x : Int32) : Nat × Int32 := if ¬ x < 0 ∧ ¬ nI n ≤ x then (if rSays ρ x.toNatClampNeg = -99999 then (if 2 ≤ rReadable ρ x.toNatClampNeg 3 then (0, 2) else (0, 1)) else (0, 0)) else (1, 0)
def rAll (ρ : Rw) : Nat → Int32
  | 0 => 0
  | k + 1 => rAll ρ k + rWear ρ k
def aShare (ρ : Rw) (n : Nat) (x : Int32) : Nat × Int32 := if ¬ x < 0 ∧ ¬ nI n ≤ x then (if rAll ρ n = 0 then (0, 0) else (0, 100 * rWear ρ x.toNatClampNeg / rAll ρ n)) else (1, 0)
def aServ (ρ : Rw) (x z : Int32) : Nat × Int32 := if x < 0 then (1, 0) else if ¬ z < 0 ∧ ¬ 2 < z then (if x < ρ 17 then (if z = 0 then (0, ρ (18 + 2 * x.toNatClampNeg) / 10) else if z = 1 then (0, ρ (18 + 2 * x.toNatClampNeg) - ρ (18 + 2 * x.toNatClampNeg) / 10 * 10) else (0, ρ (19 + 2 * x.toNatClampNeg))) else (0, -99999)) else (1, 0)
def aDue (ρ : Rw) (m : Nat) (x y z : Int32) : Nat × Int32 := if ¬ x < 0 ∧ ¬ 9 < x ∧ ¬ y < 0 ∧ ¬ 9 < y then (if ¬ z < 1 ∧ ¬ 9999 < z then (if ρ 3 = 0 then (2, 0) else if rFnd ρ (10 * x + y) m = -99999 then (0, -99999) else (0, ρ (19 + 2 * (rFnd ρ (10 * x + y) m).toNatClampNeg) + z - ρ 4)) else (1, 0)) else (1, 0)
def aFirst (ρ : Rw) (m : Nat) : Nat × Int32 := if rSm ρ m = -99999 then (0, -99999) else (0, ρ (18 + 2 * (rSm ρ m).toNatClampNeg))
theorem ix18 {q : Nat} (h : q < 1000) : (18 + 2 * nI q : Int32) = nI (18 + 2 * q) := by rw [o_18, o_2, pk_mul, nI_add]
theorem ix19 {q : Nat} (h : q < 1000) : (18 + 2 * nI q + 1 : Int32) = nI (19 + 2 * q) := by
  rw [ix18 h, nI_1]
  congr 1
  omega
theorem rSm_nat {ρ : Rw} {k : Nat} (h : ¬ rSm ρ k = -99999) : ∃ i, i < k ∧ rSm ρ k = nI i := (rSm_or ρ k).resolve_left h
theorem rSm_ix {ρ : Rw} {k : Nat} (h : ¬ rSm ρ k = -99999) (hk : k ≤ 12) : (18 + 2 * rSm ρ k + 1 : Int32).toNatClampNeg = 19 + 2 * (rSm ρ k).toNatClampNeg := by
  obtain ⟨i, hi, e⟩ := rSm_nat h
  rw [e, ix19 (by omega), ck (by omega), ck (by omega)]
def aLast (ρ : Rw) (x : Int32) : Nat × Int32 := if ¬ x < 0 ∧ ¬ 3 < x then (0, ρ (13 + x.toNatClampNeg)) else (1, 0)
