/-! THE REFERENCE: scripts and simulations, as a whole: written by wip/whole/pure3.py -/
theorem ld_i {a c : Int64} {n : Int} (h : 0 ≤ a.toInt) (hc : c.toInt = n) (hn : 0 < n) : (a / c).toInt = a.toInt / n := by
  have h1 := Int64.toInt_lt a
  have h2 : a.toInt / n ≤ a.toInt := Int.ediv_le_self _ h
  have h3 : 0 ≤ a.toInt / n := Int.ediv_nonneg h (by omega)
  rw [Int64.toInt_div, hc, Int.tdiv_eq_ediv_of_nonneg h]
  generalize a.toInt / n = q at *
  rw [Int.bmod_eq_of_le (by omega) (by omega)]
theorem rem_i {y : Int64} (h : 0 ≤ y.toInt) : (y - y / 10000 * 10000).toInt32 = nI (y.toInt % 10000).toNat := by
  have h1 := Int64.toInt_lt y
  have e := ld_i (a := y) (c := 10000) (n := 10000) h (by decide) (by omega)
  have em : (y / 10000 * 10000).toInt = y.toInt / 10000 * 10000 := by
    rw [Int64.toInt_mul, e, show (10000 : Int64).toInt = 10000 by decide]
    rw [Int.bmod_eq_of_le (by omega) (by omega)]
  have es : (y - y / 10000 * 10000).toInt = y.toInt % 10000 := by
    rw [Int64.toInt_sub, em]
    rw [Int.bmod_eq_of_le (by omega) (by omega)]
    omega
  apply Int32.toInt_inj.mp
  rw [Int64.toInt_toInt32, es, nI_toInt (by omega)]
  rw [Int.bmod_eq_of_le (by omega) (by omega)]
  omega
def sG (told : Int64) (f : Nat) : Nat := (told.toInt / (10 ^ (4 * f) : Nat) % 10000).toNat
theorem sG_lt (told : Int64) (f : Nat) : sG told f < 10000 := by
  unfold sG
  omega
theorem lGr_i {x : Int64} (h : 0 ≤ x.toInt) : ∀ k, (lGr x k).toInt = x.toInt / (10 ^ (4 * k) : Nat) ∧ 0 ≤ (lGr x k).toInt
  | 0 => ⟨by simp [lGr], h⟩
  | k + 1 => by
    have ih := lGr_i h k
    rw [lGr]
    have e := ld_i (a := lGr x k) (c := 10000) (n := 10000) ih.2 (by decide) (by omega)
    refine ⟨?_, ?_⟩
    · rw [e, ih.1, Int.ediv_ediv_of_nonneg (Int.natCast_nonneg _)]
      congr 1
      rw [show 4 * (k + 1) = 4 * k + 4 by omega, Nat.pow_add]
      rfl
    · rw [e]
      have := ih.2
      omega
theorem sG_c {told : Int64} (h : 0 ≤ told.toInt) (f : Nat) : (lGr told f - lGr told f / 10000 * 10000).toInt32 = nI (sG told f) := by
  have e := lGr_i h f
  rw [rem_i e.2, e.1]
  rfl
theorem p10_i : ∀ f, f ≤ 4 → (p10 (4 * f)).toInt = (10 ^ (4 * f) : Nat) := by
  intro f hf
  rcases (by omega : f = 0 ∨ f = 1 ∨ f = 2 ∨ f = 3 ∨ f = 4) with e | e | e | e | e <;> subst e <;> decide
theorem p10_pos (f : Nat) : (0 : Int) < (10 ^ (4 * f) : Nat) := by
  have := Nat.pow_pos (n := 4 * f) (show 0 < 10 by omega)
  omega
theorem sG_m {told : Int64} (h : 0 ≤ told.toInt) {f : Nat} (hf : f ≤ 4) : (told / p10 (4 * f) - told / p10 (4 * f) / 10000 * 10000).toInt32 = nI (sG told f) := by
  have e := ld_i (a := told) (c := p10 (4 * f)) h (p10_i f hf) (p10_pos f)
  rw [rem_i (by rw [e]; exact Int.ediv_nonneg h (Int.le_of_lt (p10_pos f))), e]
  rfl
theorem lnn {x : Int64} : ¬ x < 0 ↔ 0 ≤ x.toInt := by
  rw [Int64.lt_iff_toInt_lt]
  have : (0 : Int64).toInt = 0 := by decide
  rw [this]
  omega
theorem told_i {told : Int64} (h : ¬ told < 0) {n : Nat} (hn : n ≤ 4) (h1 : 1 ≤ n) : ¬ p10 (4 * n) - 1 < told ↔ lGr told n = 0 := by
  rw [lnn] at h
  have e := (lGr_i h n).1
  have e1 : (p10 (4 * n) - 1).toInt = (10 ^ (4 * n) : Nat) - 1 := by
    rcases (by omega : n = 1 ∨ n = 2 ∨ n = 3 ∨ n = 4) with e | e | e | e <;> subst e <;> decide
  have hp := p10_pos n
  rw [Int64.lt_iff_toInt_lt, e1, ← Int64.toInt_inj, e, show (0 : Int64).toInt = 0 by decide]
  generalize ((10 ^ (4 * n) : Nat) : Int) = P at *
  constructor
  · intro hh
    exact Int.ediv_eq_zero_of_lt h (by omega)
  · intro hh hlt
    have h1 := Int.emod_lt_of_pos told.toInt hp
    rw [Int.emod_def, hh, Int.mul_zero] at h1
    omega
def sRun (told : Int64) : Nat → Nat → Rw → Int32
  | 0, _, _ => -99999
  | f + 1, k, ρ => if gAns ρ (sG told f) (sG told f / 1000) = 0 then nI k else sRun told f (k + 1) (gRow ρ (sG told f) (sG told f / 1000))
def aScript (ρ : Rw) (x : Int32) (told : Int64) : Nat × Int32 := if ¬ x < 1 ∧ ¬ 4 < x then (if ¬ told < 0 ∧ lGr told x.toNatClampNeg = 0 then (0, sRun told x.toNatClampNeg 0 ρ) else (1, 0)) else (1, 0)
theorem sRun_rq {told : Int64} : ∀ (f k : Nat) {B : Nat} {σ ρ : Rw}, Rq σ ρ → I2 B ρ → B + 1000 * f < 1073741824 → sRun told f k σ = sRun told f k ρ
  | 0, _, _, _, _, _, _, _ => rfl
  | f + 1, k, B, σ, ρ, h, hI, hB => by
    have hB1 : B + 999 + 1000 * f < 1073741824 := by rw [Nat.mul_succ] at hB; omega
    rw [sRun, sRun, gAns_rq h hI, sRun_rq f (k + 1) (gRow_rq h hI _) (gRow_I2 hI (Nat.lt_of_le_of_lt (Nat.le_add_right _ _) hB1) (sG_lt told f) _) hB1]
def sXs (x : Int64) : Nat → Int64
  | 0 => x
  | k + 1 => sXs x k * 6364136223846793005 + 1442695040888963407
def sQ (y : Int64) : Nat := (y.toUInt64 >>> 33).toNat
theorem sQ_lt (y : Int64) : sQ y < 2147483648 := by
  unfold sQ
  have := y.toUInt64.toNat_lt
  rw [UInt64.toNat_shiftRight, show (33 : UInt64).toNat % 64 = 33 by decide, Nat.shiftRight_eq_div_pow]
  omega
theorem sQ_e (y : Int64) : ((y.toUInt64 >>> ((33 : Int32).toInt64.toUInt64 &&& Int64.toUInt64 63)).toInt64).toInt32 = nI (sQ y) := by
  have h := sQ_lt y
  rw [show ((33 : Int32).toInt64.toUInt64 &&& Int64.toUInt64 63) = 33 by decide]
  apply Int32.toInt_inj.mp
  rw [Int64.toInt_toInt32, nI_toInt (by omega)]
  unfold sQ at *
  generalize y.toUInt64 >>> 33 = z at *
  have e : z.toInt64.toInt = z.toNat := by
    show z.toBitVec.toInt = _
    rw [BitVec.toInt_eq_toNat_of_lt (by show 2 * z.toNat < 2 ^ 64; omega)]
    rfl
  rw [e, Int.bmod_eq_of_le (by omega) (by omega)]
def sRow (x : Int64) (τ : Rw) : Nat → Rw
  | 0 => τ
  | k + 1 => rRound (sRow x τ k) (sQ (sXs x (k + 1)))
def vSim (ρ : Rw) (x : Int64) (m : Nat) : Int32 := 10000 * (sRow x ρ m 5 - ρ 5) + (if rRd1 (sRow x ρ m) 5 - rRd1 (sRow x ρ m) 4 ≤ 9999 then rRd1 (sRow x ρ m) 5 - rRd1 (sRow x ρ m) 4 else 9999)
def aSim (ρ : Rw) (x : Int64) (z : Int32) : Nat × Int32 := if ¬ z < 1 ∧ ¬ 99 < z then (0, vSim ρ x z.toNatClampNeg) else (1, 0)
theorem rRd1_I2 {B : Nat} {ρ : Rw} (h : I2 B ρ) : I2 B (rRd1 ρ) := by
  unfold rRd1
  split
  · exact rPower_I2 h
  · exact h
theorem rRd2_I2 {B q : Nat} {ρ : Rw} (h : I2 B ρ) : I2 B (rRd2 ρ q) := by
  unfold rRd2
  split
  · exact setCut_I2 h (by omega) (by omega) (n012 (by omega))
  · exact h
theorem rRound_I2 {B q : Nat} {ρ : Rw} (h : I2 B ρ) (hB : B + 50 < 1073741824) : I2 (B + 50) (rRound ρ q) := by
  unfold rRound
  exact (rGo_I2 (rRd2_I2 (rRd1_I2 h)) (by omega)).mono (by omega)
theorem rRd1_rp {m : Nat} {σ ρ : Rw} (h : Rp m σ ρ) (hr : Rok ρ) : Rp m (rRd1 σ) (rRd1 ρ) := by
  unfold rRd1
  rw [h.at (q := 3) (by omega) (by omega)]
  split
  · exact h.power hr
  · exact h
theorem rRound_rp {m q : Nat} {σ ρ : Rw} (h : Rp m σ ρ) (hr : Rok ρ) : Rp m (rRound σ q) (rRound ρ q) := by
  have h1 := rRd1_rp h hr
  have hr1 : Rok (rRd1 ρ) := by
    unfold rRd1
    split
    · exact rPower_ok hr
    · exact hr
  have hr2 : Rok (rRd2 (rRd1 ρ) q) := by
    unfold rRd2
    split
    · exact hr1
    · exact hr1
  have h2 : Rp m (rRd2 (rRd1 σ) q) (rRd2 (rRd1 ρ) q) := by
    unfold rRd2
    split
    · exact (h1.set (by omega)).set (by omega)
    · exact h1
  exact h2.go hr2 _
theorem sRow_I2 {B : Nat} {x : Int64} {ρ : Rw} (h : I2 B ρ) : ∀ k, B + 50 * k < 1073741824 → I2 (B + 50 * k) (sRow x ρ k)
  | 0, _ => h
  | k + 1, hB => by
    have := rRound_I2 (q := sQ (sXs x (k + 1))) (sRow_I2 (x := x) (ρ := ρ) h k (by omega)) (by omega)
    exact this
theorem sRow_rp {m B : Nat} {x : Int64} {σ ρ : Rw} (h : Rp m σ ρ) (hI : I2 B ρ) : ∀ k, B + 50 * k < 1073741824 → Rp m (sRow x σ k) (sRow x ρ k)
  | 0, _ => h
  | k + 1, hB => rRound_rp (sRow_rp h hI k (by omega)) (sRow_I2 hI k (by omega)).1.1
theorem vSim_rp {m B : Nat} {x : Int64} {σ ρ : Rw} (h : Rp m σ ρ) (hI : I2 B ρ) {k : Nat} (hB : B + 50 * k < 1073741824) : vSim σ x k = vSim ρ x k := by
  have h1 := sRow_rp (x := x) h hI k hB
  have h2 := rRd1_rp h1 (sRow_I2 hI k hB).1.1
  unfold vSim
  rw [h1.at (q := 5) (by omega) (by omega), h.at (q := 5) (by omega) (by omega), h2.at (q := 5) (by omega) (by omega), h2.at (q := 4) (by omega) (by omega)]
theorem rRd1_on (τ : Rw) : ¬ rRd1 τ 3 = 0 := by
  unfold rRd1
  split
  · exact (by decide : ¬ (1 : Int32) = 0)
  · assumption
