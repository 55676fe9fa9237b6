/-! THE REFERENCE: scripts and simulations, as a whole: written by wip/whole/pure3.py -/
theorem ld_i {a c : Int64} {n : Int} (h : 0 ≤ a.toInt) (hc : c.toInt = n) (hn : 0 < n) : (a / c).toInt = a.toInt / n := by
  have h1 := Int64.toInt_lt a
  have h2 : a.toInt / n ≤ a.toInt := Int.ediv_le_self _ h
  have h3 : 0 ≤ a.toInt / n := Int.ediv_nonneg h (by omega)
  rw [Int64.toInt_div, hc, Int.tdiv_eq_ediv_of_nonneg h]
  generalize a.toInt / n = q at *
  rw [Int.bmod_eq_of_le (by omega) (by omega)]
theorem rem_i {y : Int64} (h : 0 ≤ y.toInt) : (y - y / 10000 * 10000).toInt32 = nI (y.toInt % 10000).toNat := by
  have h1 := Int64.toInt_lt y
  have e := ld_i (a := y) (c := 10000) (n := 10000) h (by decide) (by omega)
  have em : (y / 10000 * 10000).toInt = y.toInt / 10000 * 10000 := by
    rw [Int64.toInt_mul, e, show (10000 : Int64).toInt = 10000 by decide]
    rw [Int.bmod_eq_of_le (by omega) (by omega)]
  have es : (y - y / 10000 * 10000).toInt = y.toInt % 10000 := by
    rw [Int64.toInt_sub, em]
    rw [Int.bmod_eq_of_le (by omega) (by omega)]
    omega
  apply Int32.toInt_inj.mp
  rw [Int64.toInt_toInt32, es, nI_toInt (by omega)]
  rw [Int.bmod_eq_of_le (by omega) (by omega)]
  omega
def sG (told : Int64) (f : Nat) : Nat := (told.toInt / (10 ^ (4 * f) : Nat) % 10000).toNat
theorem sG_lt (told : Int64) (f : Nat) : sG told f < 10000 := by
  unfold sG
  omega
theorem lGr_i {x : Int64} (h : 0 ≤ x.toInt) : ∀ k, (lGr x k).toInt = x.toInt / (10 ^ (4 * k) : Nat) ∧ 0 ≤ (lGr x k).toInt
  | 0 => ⟨by simp [lGr], h⟩
  | k + 1 => by
    have ih := lGr_i h k
    rw [lGr]
    have e := ld_i (a := lGr x k) (c := 10000) (n := 10000) ih.2 (by decide) (by omega)
    refine ⟨?_, ?_⟩
    · rw [e, ih.1, Int.ediv_ediv_of_nonneg (Int.natCast_nonneg _)]
      congr 1
      rw [show 4 * (k + 1) = 4 * k + 4 by omega, Nat.pow_add]
      rfl
    · rw [e]
      have := ih.2
      omega
theorem sG_c {told : Int64} (h : 0 ≤ told.toInt) (f : Nat) : (lGr told f - lGr told f / 10000 * 10000).toInt32 = nI (sG told f) := by
  have e := lGr_i h f
  rw [rem_i e.2, e.1]
  rfl
theorem p10_i : ∀ f, f ≤ 4 → (p10 (4 * f)).toInt = (10 ^ (4 * f) : Nat) := by
  intro f hf
  rcases (by omega : f = 0 ∨ f = 1 ∨ f = 2 ∨ f = 3 ∨ f = 4) with e | e | e | e | e <;> subst e <;> decide
theorem p10_pos (f : Nat) : (0 : Int) < (10 ^ (4 * f) : Nat) := by
  have := Nat.pow_pos (n := 4 * f) (show 0 < 10 by omega)
  omega
theorem sG_m {told : Int64} (h : 0 ≤ told.toInt) {f : Nat} (hf : f ≤ 4) : (told / p10 (4 * f) - told / p10 (4 * f) / 10000 * 10000).toInt32 = nI (sG told f) := by
  have e := ld_i (a := told) (c := p10 (4 * f)) h (p10_i f hf) (p10_pos f)
  rw [rem_i (by rw [e]; exact Int.ediv_nonneg h (Int.le_of_lt (p10_pos f))), e]
  rfl
theorem lnn {x : Int64} : ¬ x < 0 ↔ 0 ≤ x.toInt := by
  rw [Int64.lt_iff_toInt_lt]
  have : (0 : Int64).toInt = 0 := by decide
  rw [this]
  omega
theorem told_i {told : Int64} (h : ¬ told < 0) {n : Nat} (hn : n ≤ 4) (h1 : 1 ≤ n) : ¬ p10 (4 * n) - 1 < told ↔ lGr told n = 0 := by
  rw [lnn] at h
  have e := (lGr_i h n).1
  have e1 : (p10 (4 * n) - 1).toInt = (10 ^ (4 * n) : Nat) - 1 := by
    rcases (by omega : n = 1 ∨ n = 2 ∨ n = 3 ∨ n = 4) with e | e | e | e <;> subst e <;> decide
  have hp := p10_pos n
  rw [Int64.lt_iff_toInt_lt, e1, ← Int64.toInt_inj, e, show (0 : Int64).toInt = 0 by decide]
  generalize ((10 ^ (4 * n) : Nat) : Int) = P at *
  constructor
  · intro hh
    exact Int.ediv_eq_zero_of_lt h (by omega)
  · intro hh hlt
    have h1 := Int.emod_lt_of_pos told.toInt hp
    rw [Int.emod_def, hh, Int.mul_zero] at h1
    omega
def sRun (told : Int64) : Nat → Nat → Rw → Int32
  | 0, _, _ => -99999
  | f + 1, k, ρ => if gAns ρ (sG told f) (sG told f / 1000) = 0 then nI k else sRun told f (k + 1) (gRow ρ (sG told f) (sG told f / 1000))
def aScript (ρ : Rw) (x : Int32) (told : Int64) : Nat × Int32 := if ¬ x < 1 ∧ ¬ 4 < x then (if ¬ told < 0 ∧ lGr told x.toNatClampNeg = 0 then (0, sRun told x.toNatClampNeg 0 ρ) else (1, 0)) else (1, 0)
theorem sRun_rq {told : Int64} : ∀ (f k : Nat) {B : Nat} {σ ρ : Rw}, Rq σ ρ → I2 B ρ → B + 1000 * f < 1073741824 → sRun told f k σ = sRun told f k ρ
  | 0, _, _, _, _, _, _, _ => rfl
  | f + 1, k, B, σ, ρ, h, hI, hB => by
    have hB1 : B + 999 + 1000 * f < 1073741824 := by rw [Nat.mul_succ] at hB; omega
    rw [sRun, sRun, gAns_rq h hI, sRun_rq f (k + 1) (gRow_rq h hI _) (gRow_I2 hI (Nat.lt_of_le_of_lt (Nat.le_add_right _ _) hB1) (sG_lt told f) _) hB1]
def sXs (x : Int64) : Nat → Int64
  | 0 => x
  | k + 1 => sXs x k * 6364136223846793005 + 1442695040888963407
def sQ (y : Int64) : Nat := (y.toUInt64 >>> 33).toNat
theorem sQ_lt (y : Int64) : sQ y < 2147483648 := by
  unfold sQ
  have := y.toUInt64.toNat_lt
  rw [UInt64.toNat_shiftRight, show (33 : UInt64).toNat % 64 = 33 by decide, Nat.shiftRight_eq_div_pow]
  omega
theorem sQ_e (y : Int64) : ((y.toUInt64 >>> ((33 : Int32).toInt64.toUInt64 &&& Int64.toUInt64 63)).toInt64).toInt32 = nI (sQ y) := by
  have h := sQ_lt y
  rw [show ((33 : Int32).toInt64.toUInt64 &&& Int64.toUInt64 63) = 33 by decide]
  apply Int32.toInt_inj.mp
  rw [Int64.toInt_toInt32, nI_toInt (by omega)]
  unfold sQ at *
  generalize y.toUInt64 >>> 33 = z at *
  have e : z.toInt64.toInt = z.toNat := by
    show z.toBitVec.toInt = _
    rw [BitVec.toInt_eq_toNat_of_lt (by show 2 * z.toNat < 2 ^ 64; omega)]
    rfl
  rw [e, Int.bmod_eq_of_le (by omega) (by omega)]
def sRow (x : Int64) (τ : Rw) : Nat → Rw
  | 0 => τ
  | k + 1 => rRound (sRow x τ k) (sQ (sXs x (k + 1)))
def vSim (ρ : Rw) (x : Int64) (m : Nat) : Int32 := 10000 * (sRow x ρ m 5 - ρ 5) + (if rRd1 (sRow x ρ m) 5 - rRd1 (sRow x ρ m) 4 ≤ 9999 then rRd1 (sRow x ρ m) 5 - rRd1 (sRow x ρ m) 4 else 9999)
def aSim (ρ : Rw) (x : Int64) (z : Int32) : Nat × Int32 := if ¬ z < 1 ∧ ¬ 99 < z then (0, vSim ρ x z.toNatClampNeg) else (1, 0)
theorem rRd1_I2 {B : Nat} {ρ : Rw} (h : I2 B ρ) : I2 B (rRd1 ρ) := by
  unfold rRd1
  split
  · exact rPower_I2 h
  · exact h
theorem rRd2_I2 {B q : Nat} {ρ : Rw} (h : I2 B ρ) : I2 B (rRd2 ρ q) := by
  unfold rRd2
  split
  · exact setCut_I2 h (by omega) (by omega) (n012 (by omega))
  · exact h
theorem rRound_I2 {B q : Nat} {ρ : Rw} (h : I2 B ρ) (hB : B + 50 < 1073741824) : I2 (B + 50) (rRound ρ q) := by
  unfold rRound
  exact (rGo_I2 (rRd2_I2 (rRd1_I2 h)) (by omega)).mono (by omega)
theorem rRd1_rp {m : Nat} {σ ρ : Rw} (h : Rp m σ ρ) (hr : Rok ρ) : Rp m (rRd1 σ) (rRd1 ρ) := by
  unfold rRd1
  rw [h.at (q := 3) (by omega) (by omega)]
  split
  · exact h.power hr
  · exact h
theorem rRound_rp {m q : Nat} {σ ρ : Rw} (h : Rp m σ ρ) (hr : Rok ρ) : Rp m (rRound σ q) (rRound ρ q) := by
  have h1 := rRd1_rp h hr
  have hr1 : Rok (rRd1 ρ) := by
    unfold rRd1
    split
    · exact rPower_ok hr
    · exact hr
  have hr2 : Rok (rRd2 (rRd1 ρ) q) := by
    unfold rRd2
    split
    · exact hr1
    · exact hr1
  have h2 : Rp m (rRd2 (rRd1 σ) q) (rRd2 (rRd1 ρ) q) := by
    unfold rRd2
    split
    · exact (h1.set (by omega)).set (by omega)
    · exact h1
  exact h2.go hr2 _
theorem sRow_I2 {B : Nat} {x : Int64} {ρ : Rw} (h : I2 B ρ) : ∀ k, B + 50 * k < 1073741824 → I2 (B + 50 * k) (sRow x ρ k)
  | 0, _ => h
  | k + 1, hB => by
    have := rRound_I2 (q := sQ (sXs x (k + 1))) (sRow_I2 (x := x) (ρ := ρ) h k (by omega)) (by omega)
    exact this
theorem sRow_rp {m B : Nat} {x : Int64} {σ ρ : Rw} (h : Rp m σ ρ) (hI : I2 B ρ) : ∀ k, B + 50 * k < 1073741824 → Rp m (sRow x σ k) (sRow x ρ k)
  | 0, _ => h
  | k + 1, hB => rRound_rp (sRow_rp h hI k (by omega)) (sRow_I2 hI k (by omega)).1.1
theorem vSim_rp {m B : Nat} {x : Int64} {σ ρ : Rw} (h : Rp m σ ρ) (hI : I2 B ρ) {k : Nat} (hB : B + 50 * k < 1073741824) : vSim σ x k = vSim ρ x k := by
  have h1 := sRow_rp (x := x) h hI k hB
  have h2 := rRd1_rp h1 (sRow_I2 hI k hB).1.1
  unfold vSim
  rw [h1.at (q := 5) (by omega) (by omega), h.at (q := 5) (by omega) (by omega), h2.at (q := 5) (by omega) (by omega), h2.at (q := 4) (by omega) (by omega)]
theorem rRd1_on (τ : Rw) : ¬ rRd1 τ 3 = 0 := by
  unfold rRd1
  split
  · exact (by decide : ¬ (1 : Int32) = 0)
  · assumption
set_option maxHeartbeats 1000000 in
theorem T_mround {d : Nat} {S : Sc} {M : Nat → Nat → Int32} {J : Nat → Nat → Int64} {τ : Rw} {q BB : Nat} (hM : MoS S) (hI : I2 BB τ) (hB : BB < 1000000) (hq : q < 2147483648) : Wp (d + 6) 166 [.ref 137, .int (nI q)] (S, upA M 140 τ, J) (fun rs w' => rs = .inl none ∧ w' = (S, upA M 140 (rRound τ q), J)) := by
  obtain ⟨⟨b137, p1, p8, p9, p10, p12, p13⟩, ⟨b138, b139, b140, b141, b142, b143⟩, n138, n139, n140, n141, n142, n143⟩ := id hM
  have e1 : (nI q - nI q / 4 * 4 : Int32) = nI (q % 4) := by rw [o_4, pk_rem (by omega) (by omega) (by omega)]
  have e2 : (1 + (nI q / 4 - nI q / 4 / 9 * 9) : Int32) = nI (1 + q / 4 % 9) := by rw [o_4, o_9, pk_div (by omega) (by omega) (by omega), pk_rem (by omega) (by omega) (by omega), o_1, nI_add]
  have e3 : (nI q / 64 - nI q / 64 / 3 * 3 : Int32) = nI (q / 64 % 3) := by rw [show (64 : Int32) = nI 64 from rfl, o_3, pk_div (by omega) (by omega) (by omega), pk_rem (by omega) (by omega) (by omega)]
  have e4 : (1 + (nI q / 256 - nI q / 256 / 50 * 50) : Int32) = nI (1 + q / 256 % 50) := by rw [show (256 : Int32) = nI 256 from rfl, show (50 : Int32) = nI 50 from rfl, pk_div (by omega) (by omega) (by omega), pk_rem (by omega) (by omega) (by omega), o_1, nI_add]
  have h1I := rRd1_I2 hI
  have h2I := rRd2_I2 (q := q) h1I
  refine ⟨rfl, ?_⟩
  refine EE.runN (stop := noStop) 80 _ ?_
  refine ⟨by first | (simp only [wI_1, wI_w, p1, p8, p9, p10, p12, p13, b137, b138, b139, b140, b141, b142, b143] <;> first | rfl | decide) | decide, ?_⟩
  refine ⟨by first | (simp only [wI_1, wI_w, p1, p8, p9, p10, p12, p13, b137, b138, b139, b140, b141, b142, b143] <;> first | rfl | decide) | decide, (by simp only [wI_1, wI_w, p1, p8, p9, p10, p12, p13, n138, n139, n140, n141, n142, n143]; exact vp_in_nI (show 3 < 114 by omega) (by omega)), ?_⟩
  refine ⟨fun h1 => ?_, fun h1 => ?_⟩
  · have h_ := h1
    simp only [wI_1, wI_w, p1, p8, p9, p10, p12, p13, tk_0, tk_1, tk_2, tk_3, tk_4, tk_5, tk_6, tk_7, tk_8, tk_9, tk_10, tk_11, tk_12, tk_13, tk_14, tk_15, tk_16, tk_17, upA_s, Classical.not_not] at h_
    have er : rRd1 τ = τ := if_neg h_
    refine ⟨by first | decide | first | (simp only [wI_1, wI_w, p1, p8, p9, p10, p12, p13, b137, b138, b139, b140, b141, b142, b143] <;> first | rfl | decide) | decide, ?_⟩
    refine ⟨fun h2 => ?_, fun h2 => ?_⟩
    · have h2_ := h2
      simp only [e1] at h2_
      have er2 : rRd2 (rRd1 τ) q = rRd1 τ := if_neg (fun h_ => h2_ ((n0 (by omega)).mpr h_))
      refine ⟨by first | (simp only [wI_1, wI_w, p1, p8, p9, p10, p12, p13, b137, b138, b139, b140, b141, b142, b143] <;> first | rfl | decide) | decide, ?_⟩
      refine ⟨by first | decide | first | (simp only [wI_1, wI_w, p1, p8, p9, p10, p12, p13, b137, b138, b139, b140, b141, b142, b143] <;> first | rfl | decide) | decide, ?_⟩
      refine ⟨by first | decide | first | (simp only [wI_1, wI_w, p1, p8, p9, p10, p12, p13, b137, b138, b139, b140, b141, b142, b143] <;> first | rfl | decide) | decide, ?_⟩
      refine ⟨⟨Nat.le_of_ble_eq_true rfl, Nat.le_of_ble_eq_true rfl, Nat.le_of_ble_eq_true rfl⟩, _, by simp only [wI_1, wI_w, p1, p8, p9, p10, p12, p13, e4]; exact T_go (t := 1 + q / 256 % 50) hM.trial (by omega) (by rw [upA_s]; exact hI.1.1), ?_⟩
      rintro _ w1 ⟨rfl, hw⟩
      have hw : w1 = (S, upA M 140 (rRound τ q), J) := by rw [hw, upA_s, upA_uu]; unfold rRound; rw [er2, er]
      subst hw
      refine ⟨Or.inl rfl, ?_⟩
      exact ⟨⟨Nat.zero_le _, Nat.zero_le _⟩, rfl, rfl⟩
    · refine ⟨by first | (simp only [wI_1, wI_w, p1, p8, p9, p10, p12, p13, b137, b138, b139, b140, b141, b142, b143] <;> first | rfl | decide) | decide, ?_⟩
      refine ⟨by first | decide | first | (simp only [wI_1, wI_w, p1, p8, p9, p10, p12, p13, b137, b138, b139, b140, b141, b142, b143] <;> first | rfl | decide) | decide, ?_⟩
      refine ⟨by first | decide | first | (simp only [wI_1, wI_w, p1, p8, p9, p10, p12, p13, b137, b138, b139, b140, b141, b142, b143] <;> first | rfl | decide) | decide, ?_⟩
      refine ⟨by first | decide | first | (simp only [wI_1, wI_w, p1, p8, p9, p10, p12, p13, b137, b138, b139, b140, b141, b142, b143] <;> first | rfl | decide) | decide, ?_⟩
      refine ⟨by first | decide | first | (simp only [wI_1, wI_w, p1, p8, p9, p10, p12, p13, b137, b138, b139, b140, b141, b142, b143] <;> first | rfl | decide) | decide, ?_⟩
      refine ⟨⟨Nat.le_of_ble_eq_true rfl, Nat.le_of_ble_eq_true rfl, Nat.le_of_ble_eq_true rfl⟩, _, by simp only [wI_1, wI_w, p1, p8, p9, p10, p12, p13, e2, e3]; exact T_doCut hM.trial, ?_⟩
      rintro _ w1 ⟨rfl, hw⟩
      have hw : w1 = (S, upA M 140 (rRd2 (rRd1 τ) q), J) := by have h2_ := h2; simp only [e1] at h2_; rw [hw, upA_s, upA_uu]; unfold rRd2; rw [if_pos ((n0 (by omega)).mp h2_)]; unfold rDoCut; rw [er, if_neg h_]
      subst hw
      refine ⟨Or.inl rfl, ?_⟩
      refine ⟨by first | (simp only [wI_1, wI_w, p1, p8, p9, p10, p12, p13, b137, b138, b139, b140, b141, b142, b143] <;> first | rfl | decide) | decide, ?_⟩
      refine ⟨by first | decide | first | (simp only [wI_1, wI_w, p1, p8, p9, p10, p12, p13, b137, b138, b139, b140, b141, b142, b143] <;> first | rfl | decide) | decide, ?_⟩
      refine ⟨by first | decide | first | (simp only [wI_1, wI_w, p1, p8, p9, p10, p12, p13, b137, b138, b139, b140, b141, b142, b143] <;> first | rfl | decide) | decide, ?_⟩
      refine ⟨⟨Nat.le_of_ble_eq_true rfl, Nat.le_of_ble_eq_true rfl, Nat.le_of_ble_eq_true rfl⟩, _, by simp only [wI_1, wI_w, p1, p8, p9, p10, p12, p13, e4]; exact T_go (t := 1 + q / 256 % 50) hM.trial (by omega) (by rw [upA_s]; exact h2I.1.1), ?_⟩
      rintro _ w1 ⟨rfl, hw⟩
      have hw : w1 = (S, upA M 140 (rRound τ q), J) := by rw [hw, upA_s, upA_uu]; unfold rRound; rfl
      subst hw
      refine ⟨Or.inl rfl, ?_⟩
      exact ⟨⟨Nat.zero_le _, Nat.zero_le _⟩, rfl, rfl⟩
  · refine ⟨by first | (simp only [wI_1, wI_w, p1, p8, p9, p10, p12, p13, b137, b138, b139, b140, b141, b142, b143] <;> first | rfl | decide) | decide, ?_⟩
    refine ⟨⟨Nat.le_of_ble_eq_true rfl, Nat.le_of_ble_eq_true rfl, Nat.le_of_ble_eq_true rfl⟩, _, by simp only [wI_1, wI_w, p1, p8, p9, p10, p12, p13]; exact T_power hM.trial (by rw [upA_s]; exact hI.1.1), ?_⟩
    rintro _ w1 ⟨rfl, hw⟩
    have hw : w1 = (S, upA M 140 (rRd1 τ), J) := by have h_ := h1; simp only [wI_1, wI_w, p1, p8, p9, p10, p12, p13, tk_0, tk_1, tk_2, tk_3, tk_4, tk_5, tk_6, tk_7, tk_8, tk_9, tk_10, tk_11, tk_12, tk_13, tk_14, tk_15, tk_16, tk_17, upA_s, Classical.not_not] at h_; rw [hw, upA_s, upA_uu]; unfold rRd1; rw [if_pos h_]
    subst hw
    refine ⟨Or.inl rfl, ?_⟩
    refine ⟨by first | decide | first | (simp only [wI_1, wI_w, p1, p8, p9, p10, p12, p13, b137, b138, b139, b140, b141, b142, b143] <;> first | rfl | decide) | decide, ?_⟩
    refine ⟨fun h3 => ?_, fun h3 => ?_⟩
    · have h2_ := h3
      simp only [e1] at h2_
      have er2 : rRd2 (rRd1 τ) q = rRd1 τ := if_neg (fun h_ => h2_ ((n0 (by omega)).mpr h_))
      refine ⟨by first | (simp only [wI_1, wI_w, p1, p8, p9, p10, p12, p13, b137, b138, b139, b140, b141, b142, b143] <;> first | rfl | decide) | decide, ?_⟩
      refine ⟨by first | decide | first | (simp only [wI_1, wI_w, p1, p8, p9, p10, p12, p13, b137, b138, b139, b140, b141, b142, b143] <;> first | rfl | decide) | decide, ?_⟩
      refine ⟨by first | decide | first | (simp only [wI_1, wI_w, p1, p8, p9, p10, p12, p13, b137, b138, b139, b140, b141, b142, b143] <;> first | rfl | decide) | decide, ?_⟩
      refine ⟨⟨Nat.le_of_ble_eq_true rfl, Nat.le_of_ble_eq_true rfl, Nat.le_of_ble_eq_true rfl⟩, _, by simp only [wI_1, wI_w, p1, p8, p9, p10, p12, p13, e4]; exact T_go (t := 1 + q / 256 % 50) hM.trial (by omega) (by rw [upA_s]; exact h1I.1.1), ?_⟩
      rintro _ w1 ⟨rfl, hw⟩
      have hw : w1 = (S, upA M 140 (rRound τ q), J) := by rw [hw, upA_s, upA_uu]; unfold rRound; rw [er2]
      subst hw
      refine ⟨Or.inl rfl, ?_⟩
      exact ⟨⟨Nat.zero_le _, Nat.zero_le _⟩, rfl, rfl⟩
    · refine ⟨by first | (simp only [wI_1, wI_w, p1, p8, p9, p10, p12, p13, b137, b138, b139, b140, b141, b142, b143] <;> first | rfl | decide) | decide, ?_⟩
      refine ⟨by first | decide | first | (simp only [wI_1, wI_w, p1, p8, p9, p10, p12, p13, b137, b138, b139, b140, b141, b142, b143] <;> first | rfl | decide) | decide, ?_⟩
      refine ⟨by first | decide | first | (simp only [wI_1, wI_w, p1, p8, p9, p10, p12, p13, b137, b138, b139, b140, b141, b142, b143] <;> first | rfl | decide) | decide, ?_⟩
      refine ⟨by first | decide | first | (simp only [wI_1, wI_w, p1, p8, p9, p10, p12, p13, b137, b138, b139, b140, b141, b142, b143] <;> first | rfl | decide) | decide, ?_⟩
      refine ⟨by first | decide | first | (simp only [wI_1, wI_w, p1, p8, p9, p10, p12, p13, b137, b138, b139, b140, b141, b142, b143] <;> first | rfl | decide) | decide, ?_⟩
      refine ⟨⟨Nat.le_of_ble_eq_true rfl, Nat.le_of_ble_eq_true rfl, Nat.le_of_ble_eq_true rfl⟩, _, by simp only [wI_1, wI_w, p1, p8, p9, p10, p12, p13, e2, e3]; exact T_doCut hM.trial, ?_⟩
      rintro _ w1 ⟨rfl, hw⟩
      have hw : w1 = (S, upA M 140 (rRd2 (rRd1 τ) q), J) := by have h2_ := h3; simp only [e1] at h2_; rw [hw, upA_s, upA_uu]; unfold rRd2; rw [if_pos ((n0 (by omega)).mp h2_)]; unfold rDoCut; rw [if_neg (rRd1_on τ)]
      subst hw
      refine ⟨Or.inl rfl, ?_⟩
      refine ⟨by first | (simp only [wI_1, wI_w, p1, p8, p9, p10, p12, p13, b137, b138, b139, b140, b141, b142, b143] <;> first | rfl | decide) | decide, ?_⟩
      refine ⟨by first | decide | first | (simp only [wI_1, wI_w, p1, p8, p9, p10, p12, p13, b137, b138, b139, b140, b141, b142, b143] <;> first | rfl | decide) | decide, ?_⟩
      refine ⟨by first | decide | first | (simp only [wI_1, wI_w, p1, p8, p9, p10, p12, p13, b137, b138, b139, b140, b141, b142, b143] <;> first | rfl | decide) | decide, ?_⟩
      refine ⟨⟨Nat.le_of_ble_eq_true rfl, Nat.le_of_ble_eq_true rfl, Nat.le_of_ble_eq_true rfl⟩, _, by simp only [wI_1, wI_w, p1, p8, p9, p10, p12, p13, e4]; exact T_go (t := 1 + q / 256 % 50) hM.trial (by omega) (by rw [upA_s]; exact h2I.1.1), ?_⟩
      rintro _ w1 ⟨rfl, hw⟩
      have hw : w1 = (S, upA M 140 (rRound τ q), J) := by rw [hw, upA_s, upA_uu]; unfold rRound; rfl
      subst hw
      refine ⟨Or.inl rfl, ?_⟩
      exact ⟨⟨Nat.zero_le _, Nat.zero_le _⟩, rfl, rfl⟩
set_option maxHeartbeats 1000000 in
theorem R_simulate {d : Nat} {S : Sc} {M : Nat → Nat → Int32} {J : Nat → Nat → Int64} {x : Int64} {z : Int32} {B : Nat} (hM : MoS S) (hI : I2 B (M 139)) (hB : B < 900000) : Wp (d + 7) 167 [.ref 137, .long x, .int z] (S, M, J) (fun rs w' => ∃ v M', rs = .inl (some (.int v)) ∧ w' = (S, M', J) ∧ M' 137 0 = nI (aSim (M 139) x z).1 ∧ ((aSim (M 139) x z).1 = 0 → v = (aSim (M 139) x z).2) ∧ Jk M M') := by
  obtain ⟨⟨b137, p1, p8, p9, p10, p12, p13⟩, ⟨b138, b139, b140, b141, b142, b143⟩, n138, n139, n140, n141, n142, n143⟩ := id hM
  refine ⟨rfl, ?_⟩
  refine EE.runN (stop := atPc [36]) 80 _ ?_
  refine ⟨⟨Nat.le_of_ble_eq_true rfl, Nat.le_of_ble_eq_true rfl, Nat.le_of_ble_eq_true rfl⟩, _, T_in32 1 99 rfl rfl, ?_⟩
  rintro _ _ ⟨rfl, rfl⟩
  refine ⟨Or.inl rfl, ?_⟩
  refine ⟨fun h1 => ?_, fun h1 => ?_⟩
  · refine ⟨⟨Nat.le_of_ble_eq_true rfl, Nat.le_of_ble_eq_true rfl, Nat.le_of_ble_eq_true rfl⟩, by simp only [wI_1, wI_w, p1, p8, p9, p10, p12, p13, b137, b138, b139, b140, b141, b142, b143] <;> first | rfl | decide, _, T_refused (x := 1) hM, ?_⟩
    rintro _ w1 ⟨rfl, hw⟩
    have hw : w1 = (S, setQ M 0 1, J) := hw
    subst hw
    refine ⟨Or.inl rfl, ?_⟩
    refine ⟨fun h2 => ?_, fun h2 => ?_⟩
    · exact absurd h2 (by decide)
    · (try simp only [wI_M, wI_1, wI_w, wI_1, wI_w, p1, p8, p9, p10, p12, p13, q139, q140, q138, q141, q142, q143, bI_e0, Classical.not_not, tk_0, tk_1, tk_2, tk_3, tk_4, tk_5, tk_6, tk_7, tk_8, tk_9, tk_10, tk_11, tk_12, tk_13, tk_14, tk_15, tk_16, tk_17] at h1)
      refine ⟨⟨Nat.zero_le _, Nat.zero_le _⟩, _, _, rfl, rfl, ?_, ?_, Jk_Q M (by omega)⟩
      · unfold aSim; rw [if_neg h1]; exact setQ_s
      · unfold aSim; rw [if_neg h1]; intro h_; exact absurd h_ (by decide)
  · refine ⟨⟨Nat.le_of_ble_eq_true rfl, Nat.le_of_ble_eq_true rfl, Nat.le_of_ble_eq_true rfl⟩, by simp only [wI_1, wI_w, p1, p8, p9, p10, p12, p13, b137, b138, b139, b140, b141, b142, b143] <;> first | rfl | decide, _, T_refused (x := 0) hM, ?_⟩
    rintro _ w1 ⟨rfl, hw⟩
    have hw : w1 = (S, setQ M 0 0, J) := hw
    subst hw
    refine ⟨Or.inl rfl, ?_⟩
    refine ⟨fun h3 => ?_, fun h3 => ?_⟩
    · have hz := h1
      simp only [wI_M, wI_1, wI_w, wI_1, wI_w, p1, p8, p9, p10, p12, p13, q139, q140, q138, q141, q142, q143, bI_e0, Classical.not_not, tk_0, tk_1, tk_2, tk_3, tk_4, tk_5, tk_6, tk_7, tk_8, tk_9, tk_10, tk_11, tk_12, tk_13, tk_14, tk_15, tk_16, tk_17] at hz
      obtain ⟨m, hm1, hm, rfl⟩ := in_nat1 (k := 99) rfl (by omega) hz
      have hI0 : I2 B (va_cpy (M 139) (M 140) 0 0 114) := (cpy_rp _).I2 hI.cnt.2 hI.cnt.1 hI
      refine ⟨⟨Nat.le_of_ble_eq_true rfl, Nat.le_of_ble_eq_true rfl, Nat.le_of_ble_eq_true rfl⟩, by simp only [wI_1, wI_w, p1, p8, p9, p10, p12, p13, b137, b138, b139, b140, b141, b142, b143] <;> first | rfl | decide, _, T_begin hM, ?_⟩
      rintro _ w1 ⟨rfl, hw⟩
      have hw : w1 = (S, upA (setQ M 0 0) 140 (va_cpy (M 139) (M 140) 0 0 114), J) := by rw [hw]; unfold mBegin; rw [q139, q140]
      subst hw
      refine ⟨Or.inl rfl, ?_⟩
      refine ee_at (nt := nzT 167) [(0, .ref 137), (1, .long x), (3, .int (nI m)), (4, .long (sXs x (0))), (6, .int (nI (0)))] (S, upA (setQ M 0 0) 140 (sRow x (va_cpy (M 139) (M 140) 0 0 114) (0)), J) rfl (by rfl) (by rfl) ?_
      refine ee_loop (fun k => (36, [(0, .ref 137), (1, .long x), (3, .int (nI m)), (4, .long (sXs x (k))), (6, .int (nI (k)))], [], (S, upA (setQ M 0 0) 140 (sRow x (va_cpy (M 139) (M 140) 0 0 114) (k)), J), 0, 0)) (m) (fun k h_k ih_k => ?_) ?_
      · refine EE.runN (stop := atPc [36]) 80 _ ?_
        have hk1 := sRow_I2 (x := x) hI0 k (by omega)
        refine ⟨fun h4 => ?_, fun h4 => ?_⟩
        · exact absurd h4 (nI_ge h_k (by omega))
        · refine ⟨⟨Nat.le_of_ble_eq_true rfl, Nat.le_of_ble_eq_true rfl, Nat.le_of_ble_eq_true rfl⟩, by simp only [wI_1, wI_w, p1, p8, p9, p10, p12, p13, b137, b138, b139, b140, b141, b142, b143] <;> first | rfl | decide, _, by simp only [sQ_e]; exact T_mround (M := setQ M 0 0) (τ := sRow x (va_cpy (M 139) (M 140) 0 0 114) k) (q := sQ (sXs x (k + 1))) hM hk1 (by omega) (sQ_lt _), ?_⟩
          rintro _ w1 ⟨rfl, hw⟩
          have hw : w1 = (S, upA (setQ M 0 0) 140 (sRow x (va_cpy (M 139) (M 140) 0 0 114) (k + 1)), J) := hw
          subst hw
          refine ⟨Or.inl rfl, ?_⟩
          refine ee_at (nt := nzT 167) [(0, .ref 137), (1, .long x), (3, .int (nI m)), (4, .long (sXs x ((k + 1)))), (6, .int (nI ((k + 1))))] (S, upA (setQ M 0 0) 140 (sRow x (va_cpy (M 139) (M 140) 0 0 114) ((k + 1))), J) rfl (by rw [← nI_1 k]; rfl) (by rfl) ?_
          exact ih_k
      · refine EE.runN (stop := atPc [36]) 80 _ ?_
        refine ⟨fun h5 => ?_, fun h5 => ?_⟩
        · refine ⟨by simp only [wI_1, wI_w, p1, p8, p9, p10, p12, p13, b137, b138, b139, b140, b141, b142, b143] <;> first | rfl | decide, ?_⟩
          refine ⟨by simp only [wI_1, wI_w, p1, p8, p9, p10, p12, p13, b137, b138, b139, b140, b141, b142, b143] <;> first | rfl | decide, (by simp only [wI_1, wI_w, p1, p8, p9, p10, p12, p13, n138, n139, n140, n141, n142, n143]; exact vp_in_nI (show 5 < 114 by omega) (by omega)), ?_⟩
          refine ⟨by simp only [wI_1, wI_w, p1, p8, p9, p10, p12, p13, b137, b138, b139, b140, b141, b142, b143] <;> first | rfl | decide, ?_⟩
          refine ⟨by simp only [wI_1, wI_w, p1, p8, p9, p10, p12, p13, b137, b138, b139, b140, b141, b142, b143] <;> first | rfl | decide, (by simp only [wI_1, wI_w, p1, p8, p9, p10, p12, p13, n138, n139, n140, n141, n142, n143]; exact vp_in_nI (show 5 < 114 by omega) (by omega)), ?_⟩
          refine ⟨by simp only [wI_1, wI_w, p1, p8, p9, p10, p12, p13, b137, b138, b139, b140, b141, b142, b143] <;> first | rfl | decide, ?_⟩
          refine ⟨by simp only [wI_1, wI_w, p1, p8, p9, p10, p12, p13, b137, b138, b139, b140, b141, b142, b143] <;> first | rfl | decide, (by simp only [wI_1, wI_w, p1, p8, p9, p10, p12, p13, n138, n139, n140, n141, n142, n143]; exact vp_in_nI (show 3 < 114 by omega) (by omega)), ?_⟩
          refine ⟨fun h6 => ?_, fun h6 => ?_⟩
          · refine ⟨by simp only [wI_1, wI_w, p1, p8, p9, p10, p12, p13, b137, b138, b139, b140, b141, b142, b143] <;> first | rfl | decide, ?_⟩
            refine ⟨by simp only [wI_1, wI_w, p1, p8, p9, p10, p12, p13, b137, b138, b139, b140, b141, b142, b143] <;> first | rfl | decide, (by simp only [wI_1, wI_w, p1, p8, p9, p10, p12, p13, n138, n139, n140, n141, n142, n143]; exact vp_in_nI (show 5 < 114 by omega) (by omega)), ?_⟩
            refine ⟨by simp only [wI_1, wI_w, p1, p8, p9, p10, p12, p13, b137, b138, b139, b140, b141, b142, b143] <;> first | rfl | decide, ?_⟩
            refine ⟨by simp only [wI_1, wI_w, p1, p8, p9, p10, p12, p13, b137, b138, b139, b140, b141, b142, b143] <;> first | rfl | decide, (by simp only [wI_1, wI_w, p1, p8, p9, p10, p12, p13, n138, n139, n140, n141, n142, n143]; exact vp_in_nI (show 4 < 114 by omega) (by omega)), ?_⟩
            refine ⟨fun h7 => ?_, fun h7 => ?_⟩
            · have g_ := h6
              simp only [wI_1, wI_w, p1, p8, p9, p10, p12, p13, tk_0, tk_1, tk_2, tk_3, tk_4, tk_5, tk_6, tk_7, tk_8, tk_9, tk_10, tk_11, tk_12, tk_13, tk_14, tk_15, tk_16, tk_17, upA_s, upA_uu, q139, upA_n _ _ (show (139 : Nat) ≠ 140 by omega)] at g_
              have g2_ := h7
              have er : rRd1 (sRow x (va_cpy (M 139) (M 140) 0 0 114) m) = sRow x (va_cpy (M 139) (M 140) 0 0 114) m := if_neg g_
              simp only [wI_1, wI_w, p1, p8, p9, p10, p12, p13, tk_0, tk_1, tk_2, tk_3, tk_4, tk_5, tk_6, tk_7, tk_8, tk_9, tk_10, tk_11, tk_12, tk_13, tk_14, tk_15, tk_16, tk_17, upA_s, upA_uu, q139, upA_n _ _ (show (139 : Nat) ≠ 140 by omega)] at g2_
              rw [← er] at g2_
              refine ⟨⟨Nat.zero_le _, Nat.zero_le _⟩, _, _, rfl, rfl, ?_, ?_, (Jk_Q M (by omega)).tr (Jk_140 _ _)⟩
              · unfold aSim; rw [if_pos hz]; rw [upA_n _ _ (by omega)]; exact setQ_s
              · unfold aSim; rw [if_pos hz, ck (show m < 2147483648 by omega)]; intro _; dsimp only
                rw [← vSim_rp (cpy_rp (δ := M 140) 12) hI (show B + 50 * m < 1073741824 by omega)]
                unfold vSim
                rw [if_pos g2_]
                (try rw [er])
                rw [cpy_at (by omega)]
                (try simp only [wI_1, wI_w, p1, p8, p9, p10, p12, p13, tk_0, tk_1, tk_2, tk_3, tk_4, tk_5, tk_6, tk_7, tk_8, tk_9, tk_10, tk_11, tk_12, tk_13, tk_14, tk_15, tk_16, tk_17, upA_s, upA_uu, q139, upA_n _ _ (show (139 : Nat) ≠ 140 by omega)])
                (try rfl)
            · have g_ := h6
              simp only [wI_1, wI_w, p1, p8, p9, p10, p12, p13, tk_0, tk_1, tk_2, tk_3, tk_4, tk_5, tk_6, tk_7, tk_8, tk_9, tk_10, tk_11, tk_12, tk_13, tk_14, tk_15, tk_16, tk_17, upA_s, upA_uu, q139, upA_n _ _ (show (139 : Nat) ≠ 140 by omega)] at g_
              have g2_ := h7
              have er : rRd1 (sRow x (va_cpy (M 139) (M 140) 0 0 114) m) = sRow x (va_cpy (M 139) (M 140) 0 0 114) m := if_neg g_
              simp only [wI_1, wI_w, p1, p8, p9, p10, p12, p13, tk_0, tk_1, tk_2, tk_3, tk_4, tk_5, tk_6, tk_7, tk_8, tk_9, tk_10, tk_11, tk_12, tk_13, tk_14, tk_15, tk_16, tk_17, upA_s, upA_uu, q139, upA_n _ _ (show (139 : Nat) ≠ 140 by omega)] at g2_
              rw [← er] at g2_
              refine ⟨⟨Nat.zero_le _, Nat.zero_le _⟩, _, _, rfl, rfl, ?_, ?_, (Jk_Q M (by omega)).tr (Jk_140 _ _)⟩
              · unfold aSim; rw [if_pos hz]; rw [upA_n _ _ (by omega)]; exact setQ_s
              · unfold aSim; rw [if_pos hz, ck (show m < 2147483648 by omega)]; intro _; dsimp only
                rw [← vSim_rp (cpy_rp (δ := M 140) 12) hI (show B + 50 * m < 1073741824 by omega)]
                unfold vSim
                rw [if_neg g2_]
                (try rw [er])
                rw [cpy_at (by omega)]
                (try simp only [wI_1, wI_w, p1, p8, p9, p10, p12, p13, tk_0, tk_1, tk_2, tk_3, tk_4, tk_5, tk_6, tk_7, tk_8, tk_9, tk_10, tk_11, tk_12, tk_13, tk_14, tk_15, tk_16, tk_17, upA_s, upA_uu, q139, upA_n _ _ (show (139 : Nat) ≠ 140 by omega)])
                (try rfl)
          · refine ⟨by simp only [wI_1, wI_w, p1, p8, p9, p10, p12, p13, b137, b138, b139, b140, b141, b142, b143] <;> first | rfl | decide, ?_⟩
            refine ⟨⟨Nat.le_of_ble_eq_true rfl, Nat.le_of_ble_eq_true rfl, Nat.le_of_ble_eq_true rfl⟩, _, by simp only [wI_1, wI_w, p1, p8, p9, p10, p12, p13]; exact T_power hM.trial (by rw [upA_s]; exact (sRow_I2 hI0 m (by omega)).1.1), ?_⟩
            rintro _ _ ⟨rfl, rfl⟩
            refine ⟨Or.inl rfl, ?_⟩
            refine ⟨by simp only [wI_1, wI_w, p1, p8, p9, p10, p12, p13, b137, b138, b139, b140, b141, b142, b143] <;> first | rfl | decide, ?_⟩
            refine ⟨by simp only [wI_1, wI_w, p1, p8, p9, p10, p12, p13, b137, b138, b139, b140, b141, b142, b143] <;> first | rfl | decide, (by simp only [wI_1, wI_w, p1, p8, p9, p10, p12, p13, n138, n139, n140, n141, n142, n143]; exact vp_in_nI (show 5 < 114 by omega) (by omega)), ?_⟩
            refine ⟨by simp only [wI_1, wI_w, p1, p8, p9, p10, p12, p13, b137, b138, b139, b140, b141, b142, b143] <;> first | rfl | decide, ?_⟩
            refine ⟨by simp only [wI_1, wI_w, p1, p8, p9, p10, p12, p13, b137, b138, b139, b140, b141, b142, b143] <;> first | rfl | decide, (by simp only [wI_1, wI_w, p1, p8, p9, p10, p12, p13, n138, n139, n140, n141, n142, n143]; exact vp_in_nI (show 4 < 114 by omega) (by omega)), ?_⟩
            refine ⟨fun h8 => ?_, fun h8 => ?_⟩
            · have g_ := h6
              simp only [wI_1, wI_w, p1, p8, p9, p10, p12, p13, tk_0, tk_1, tk_2, tk_3, tk_4, tk_5, tk_6, tk_7, tk_8, tk_9, tk_10, tk_11, tk_12, tk_13, tk_14, tk_15, tk_16, tk_17, upA_s, upA_uu, q139, upA_n _ _ (show (139 : Nat) ≠ 140 by omega)] at g_
              have g2_ := h8
              have er : rRd1 (sRow x (va_cpy (M 139) (M 140) 0 0 114) m) = rPower (sRow x (va_cpy (M 139) (M 140) 0 0 114) m) := if_pos g_
              simp only [wI_1, wI_w, p1, p8, p9, p10, p12, p13, tk_0, tk_1, tk_2, tk_3, tk_4, tk_5, tk_6, tk_7, tk_8, tk_9, tk_10, tk_11, tk_12, tk_13, tk_14, tk_15, tk_16, tk_17, upA_s, upA_uu, q139, upA_n _ _ (show (139 : Nat) ≠ 140 by omega)] at g2_
              rw [← er] at g2_
              refine ⟨⟨Nat.zero_le _, Nat.zero_le _⟩, _, _, rfl, rfl, ?_, ?_, (Jk_Q M (by omega)).tr ((Jk_140 _ _).tr (Jk_140 _ _))⟩
              · unfold aSim; rw [if_pos hz]; rw [upA_n _ _ (by omega), upA_n _ _ (by omega)]; exact setQ_s
              · unfold aSim; rw [if_pos hz, ck (show m < 2147483648 by omega)]; intro _; dsimp only
                rw [← vSim_rp (cpy_rp (δ := M 140) 12) hI (show B + 50 * m < 1073741824 by omega)]
                unfold vSim
                rw [if_pos g2_]
                (try rw [er])
                rw [cpy_at (by omega)]
                (try simp only [wI_1, wI_w, p1, p8, p9, p10, p12, p13, tk_0, tk_1, tk_2, tk_3, tk_4, tk_5, tk_6, tk_7, tk_8, tk_9, tk_10, tk_11, tk_12, tk_13, tk_14, tk_15, tk_16, tk_17, upA_s, upA_uu, q139, upA_n _ _ (show (139 : Nat) ≠ 140 by omega)])
                (try rfl)
            · have g_ := h6
              simp only [wI_1, wI_w, p1, p8, p9, p10, p12, p13, tk_0, tk_1, tk_2, tk_3, tk_4, tk_5, tk_6, tk_7, tk_8, tk_9, tk_10, tk_11, tk_12, tk_13, tk_14, tk_15, tk_16, tk_17, upA_s, upA_uu, q139, upA_n _ _ (show (139 : Nat) ≠ 140 by omega)] at g_
              have g2_ := h8
              have er : rRd1 (sRow x (va_cpy (M 139) (M 140) 0 0 114) m) = rPower (sRow x (va_cpy (M 139) (M 140) 0 0 114) m) := if_pos g_
              simp only [wI_1, wI_w, p1, p8, p9, p10, p12, p13, tk_0, tk_1, tk_2, tk_3, tk_4, tk_5, tk_6, tk_7, tk_8, tk_9, tk_10, tk_11, tk_12, tk_13, tk_14, tk_15, tk_16, tk_17, upA_s, upA_uu, q139, upA_n _ _ (show (139 : Nat) ≠ 140 by omega)] at g2_
              rw [← er] at g2_
              refine ⟨⟨Nat.zero_le _, Nat.zero_le _⟩, _, _, rfl, rfl, ?_, ?_, (Jk_Q M (by omega)).tr ((Jk_140 _ _).tr (Jk_140 _ _))⟩
              · unfold aSim; rw [if_pos hz]; rw [upA_n _ _ (by omega), upA_n _ _ (by omega)]; exact setQ_s
              · unfold aSim; rw [if_pos hz, ck (show m < 2147483648 by omega)]; intro _; dsimp only
                rw [← vSim_rp (cpy_rp (δ := M 140) 12) hI (show B + 50 * m < 1073741824 by omega)]
                unfold vSim
                rw [if_neg g2_]
                (try rw [er])
                rw [cpy_at (by omega)]
                (try simp only [wI_1, wI_w, p1, p8, p9, p10, p12, p13, tk_0, tk_1, tk_2, tk_3, tk_4, tk_5, tk_6, tk_7, tk_8, tk_9, tk_10, tk_11, tk_12, tk_13, tk_14, tk_15, tk_16, tk_17, upA_s, upA_uu, q139, upA_n _ _ (show (139 : Nat) ≠ 140 by omega)])
                (try rfl)
        · exact absurd (nI_le (Nat.le_refl m) (by omega)) h5
    · exact absurd h3 (by decide)
