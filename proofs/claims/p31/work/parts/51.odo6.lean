/-! THE CLASS: the commands of a script: written by wip/whole/pure3.py -/
def gAns (ρ : Rw) (g : Nat) : Nat → Int32
  | 1 => bI (0 < g % 1000 ∧ ρ 3 = 1)
  | 2 => bI (g / 100 % 10 = 0 ∧ (1 ≤ g / 10 % 10 ∧ g % 10 ≤ 2) ∧ ρ 3 = 1)
  | 3 => bI (g % 1000 = 0 ∧ ¬ ρ 3 = 1)
  | 4 => bI (g % 10 = 0 ∧ ρ 3 = 1 ∧ (ρ 17 < 12 ∨ ¬ rFnd ρ (10 * nI (g / 100 % 10) + nI (g / 10 % 10)) (ρ 17).toNatClampNeg = -99999))
  | 5 => bI (ρ 3 = 1 ∧ ¬ ρ 4 < nI (g % 1000))
  | 6 => bI (g / 100 % 10 = 0 ∧ 1 ≤ g % 100)
  | 7 => bI (g % 100 = 0 ∧ g / 100 % 10 < (ρ 0).toNatClampNeg ∧ ¬ rSays ρ (g / 100 % 10) = -99999)
  | 8 => bI (g / 100 % 10 = 0 ∧ ¬ nI (g % 100) < rGap ρ (ρ 0).toNatClampNeg)
  | 9 => bI (g % 100 = 0 ∧ g / 100 % 10 < (ρ 0).toNatClampNeg ∧ ρ 3 = 1 ∧ ¬ nI (g / 100 % 10) = ρ 7)
  | _ => 0
def gRow (ρ : Rw) (g : Nat) : Nat → Rw
  | 1 => if 0 < g % 1000 ∧ ρ 3 = 1 then rGo (g % 1000) ρ else ρ
  | 2 => if g / 100 % 10 = 0 ∧ (1 ≤ g / 10 % 10 ∧ g % 10 ≤ 2) ∧ ρ 3 = 1 then upd (upd ρ 10 (nI (g / 10 % 10))) 11 (nI (g % 10)) else ρ
  | 3 => if g % 1000 = 0 ∧ ¬ ρ 3 = 1 then rPower ρ else ρ
  | 4 => if g % 10 = 0 ∧ ρ 3 = 1 ∧ (ρ 17 < 12 ∨ ¬ rFnd ρ (10 * nI (g / 100 % 10) + nI (g / 10 % 10)) (ρ 17).toNatClampNeg = -99999) then rServe ρ (10 * nI (g / 100 % 10) + nI (g / 10 % 10)) (ρ 17).toNatClampNeg else ρ
  | 6 => if g / 100 % 10 = 0 ∧ 1 ≤ g % 100 then upd ρ 1 (nI (g % 100)) else ρ
  | 9 => if g % 100 = 0 ∧ g / 100 % 10 < (ρ 0).toNatClampNeg ∧ ρ 3 = 1 ∧ ¬ nI (g / 100 % 10) = ρ 7 then rRenew ρ (g / 100 % 10) else ρ
  | _ => ρ
theorem bI_cg {a c : Prop} [Decidable a] [Decidable c] (h : a ↔ c) : bI a = bI c := by
  unfold bI
  by_cases ha : a
  · rw [if_pos ha, if_pos (h.mp ha)]
  · rw [if_neg ha, if_neg (fun hc => ha (h.mpr hc))]
theorem if_cg {α : Type} {a c : Prop} [Decidable a] [Decidable c] {x y : α} (h : a ↔ c) : (if a then x else y) = (if c then x else y) := by
  by_cases ha : a
  · rw [if_pos ha, if_pos (h.mp ha)]
  · rw [if_neg ha, if_neg (fun hc => ha (h.mpr hc))]
theorem isV_t {a c : Nat} (ha : a ≤ 9) (hc : c ≤ 9) : (¬ nI a < 0 ∧ ¬ 9 < nI a ∧ ¬ nI c < 0 ∧ ¬ 9 < nI c) :=
  ⟨nI_pos (by omega), nI_nlt (b := a) (a := 9) ha (by omega), nI_pos (by omega), nI_nlt (b := c) (a := 9) hc (by omega)⟩
theorem n0 {a : Nat} (ha : a < 1000000) : nI a = 0 ↔ a = 0 := nI_eq (b := 0) (by omega) (by omega)
theorem lt1 {a : Nat} (ha : a < 1000000) : ¬ nI a < 1 ↔ 1 ≤ a := by
  rw [o_1, nI_ltI (by omega) (by omega)]
  omega
theorem ltk {a k : Nat} (ha : a < 1000000) (hk : k < 1000000) : ¬ nI k < nI a ↔ a ≤ k := by
  rw [nI_ltI (by omega) (by omega)]
  omega
theorem lek {a k : Nat} (ha : a < 1000000) (hk : k < 1000000) : ¬ nI k ≤ nI a ↔ a < k := by
  rw [nI_leI (by omega) (by omega)]
  omega
set_option maxHeartbeats 1000000 in
theorem T_og1 {d : Nat} {S : Sc} {M : Nat → Nat → Int32} {J : Nat → Nat → Int64} {b : Nat} {σ : Rw} (hS : OdS S b) {g : Nat} {B : Nat} (hI : Inv B σ) (hB : B < 1073741824) (hg : g < 10000) (hk : g / 1000 = 1) : Wp (d + 7) 35 [.ref b, .int (nI g)] (S, sO M b σ, J) (fun rs w' => rs = .inl (some (.int (bI (¬ σ 3 = 0 ∧ (¬ (nI (g % 1000)) < 1 ∧ ¬ 999 < (nI (g % 1000))))))) ∧ w' = (S, sO M b (if ¬ σ 3 = 0 ∧ (¬ (nI (g % 1000)) < 1 ∧ ¬ 999 < (nI (g % 1000))) then rGo (g % 1000) σ else σ), J)) := by
  obtain ⟨⟨k0, k1, k2, k3, k4, k5, k6⟩, ⟨r0, r1, r12, r13, r41, r42⟩, l2, l3, l5, l6⟩ := id hS
  obtain ⟨hok, hBk, hK, hC, h4_, h6_, h1_, n, hn, h17, hD⟩ := id hI
  have e2 : nI g / 100 - nI g / 100 / 10 * 10 = nI (g / 100 % 10) := by rw [o_100, o_10, pk_div (by omega) (by omega) (by omega), pk_rem (by omega) (by omega) (by omega)]
  have e3 : nI g / 10 - nI g / 10 / 10 * 10 = nI (g / 10 % 10) := by rw [o_10, pk_div (by omega) (by omega) (by omega), pk_rem (by omega) (by omega) (by omega)]
  have e4 : nI g - nI g / 10 * 10 = nI (g % 10) := by rw [o_10, pk_rem (by omega) (by omega) (by omega)]
  have e5 : nI g - nI g / 1000 * 1000 = nI (g % 1000) := by rw [o_1000, pk_rem (by omega) (by omega) (by omega)]
  have e6 : nI g - nI g / 100 * 100 = nI (g % 100) := by rw [o_100, pk_rem (by omega) (by omega) (by omega)]
  have hv : nI g / 1000 = nI (g / 1000) := by rw [o_1000, pk_div (by omega) (by omega) (by omega)]
  rw [hk] at hv
  refine ⟨rfl, ?_⟩
  refine EE.runN (stop := noStop) 100 _ ?_
  refine ⟨by first | decide | first | (simp only [wI_1, r0, r1, r12, r13, r41, r42, k0, k1, k2, k3, k4, k5, k6] <;> first | rfl | decide) | decide, ?_⟩
  refine ⟨by first | decide | first | (simp only [wI_1, r0, r1, r12, r13, r41, r42, k0, k1, k2, k3, k4, k5, k6] <;> first | rfl | decide) | decide, ?_⟩
  refine ⟨by first | decide | first | (simp only [wI_1, r0, r1, r12, r13, r41, r42, k0, k1, k2, k3, k4, k5, k6] <;> first | rfl | decide) | decide, ?_⟩
  refine ⟨by first | decide | first | (simp only [wI_1, r0, r1, r12, r13, r41, r42, k0, k1, k2, k3, k4, k5, k6] <;> first | rfl | decide) | decide, ?_⟩
  refine ⟨by first | decide | first | (simp only [wI_1, r0, r1, r12, r13, r41, r42, k0, k1, k2, k3, k4, k5, k6] <;> first | rfl | decide) | decide, ?_⟩
  refine ⟨by first | decide | first | (simp only [wI_1, r0, r1, r12, r13, r41, r42, k0, k1, k2, k3, k4, k5, k6] <;> first | rfl | decide) | decide, ?_⟩
  refine ⟨fun _ => ?_, fun h => absurd hv h⟩
  refine ⟨by first | decide | first | (simp only [wI_1, r0, r1, r12, r13, r41, r42, k0, k1, k2, k3, k4, k5, k6] <;> first | rfl | decide) | decide, ?_⟩
  refine ⟨⟨Nat.le_of_ble_eq_true rfl, Nat.le_of_ble_eq_true rfl, Nat.le_of_ble_eq_true rfl⟩, by first | (simp only [wI_1, r0, r1, r12, r13, r41, r42, k0, k1, k2, k3, k4, k5, k6] <;> first | rfl | decide) | decide, _, by (try simp only [e2, e3, e4, e5, e6]); exact T_obey_d hS (by omega) hI hB, ?_⟩
  rintro _ _ ⟨rfl, rfl⟩
  refine ⟨Or.inl rfl, ?_⟩
  exact ⟨⟨Nat.zero_le _, Nat.zero_le _⟩, bI_01 _, rfl, rfl⟩
set_option maxHeartbeats 1000000 in
theorem T_og2 {d : Nat} {S : Sc} {M : Nat → Nat → Int32} {J : Nat → Nat → Int64} {b : Nat} {σ : Rw} (hS : OdS S b) {g : Nat} {B : Nat} (hI : Inv B σ) (hB : B < 1073741824) (hg : g < 10000) (hk : g / 1000 = 2) : Wp (d + 7) 35 [.ref b, .int (nI g)] (S, sO M b σ, J) (fun rs w' => rs = .inl (some (.int (bI ((nI (g / 100 % 10)) = 0 ∧ ¬ σ 3 = 0 ∧ (¬ (nI (g / 10 % 10)) < 1 ∧ ¬ 36 < (nI (g / 10 % 10)) ∧ ¬ (nI (g % 10)) < 0 ∧ ¬ 2 < (nI (g % 10))))))) ∧ w' = (S, sO M b (if (nI (g / 100 % 10)) = 0 ∧ ¬ σ 3 = 0 ∧ (¬ (nI (g / 10 % 10)) < 1 ∧ ¬ 36 < (nI (g / 10 % 10)) ∧ ¬ (nI (g % 10)) < 0 ∧ ¬ 2 < (nI (g % 10))) then upd (upd σ 10 (nI (g / 10 % 10))) 11 (nI (g % 10)) else σ), J)) := by
  obtain ⟨⟨k0, k1, k2, k3, k4, k5, k6⟩, ⟨r0, r1, r12, r13, r41, r42⟩, l2, l3, l5, l6⟩ := id hS
  obtain ⟨hok, hBk, hK, hC, h4_, h6_, h1_, n, hn, h17, hD⟩ := id hI
  have e2 : nI g / 100 - nI g / 100 / 10 * 10 = nI (g / 100 % 10) := by rw [o_100, o_10, pk_div (by omega) (by omega) (by omega), pk_rem (by omega) (by omega) (by omega)]
  have e3 : nI g / 10 - nI g / 10 / 10 * 10 = nI (g / 10 % 10) := by rw [o_10, pk_div (by omega) (by omega) (by omega), pk_rem (by omega) (by omega) (by omega)]
  have e4 : nI g - nI g / 10 * 10 = nI (g % 10) := by rw [o_10, pk_rem (by omega) (by omega) (by omega)]
  have e5 : nI g - nI g / 1000 * 1000 = nI (g % 1000) := by rw [o_1000, pk_rem (by omega) (by omega) (by omega)]
  have e6 : nI g - nI g / 100 * 100 = nI (g % 100) := by rw [o_100, pk_rem (by omega) (by omega) (by omega)]
  have hv : nI g / 1000 = nI (g / 1000) := by rw [o_1000, pk_div (by omega) (by omega) (by omega)]
  rw [hk] at hv
  refine ⟨rfl, ?_⟩
  refine EE.runN (stop := noStop) 100 _ ?_
  refine ⟨by first | decide | first | (simp only [wI_1, r0, r1, r12, r13, r41, r42, k0, k1, k2, k3, k4, k5, k6] <;> first | rfl | decide) | decide, ?_⟩
  refine ⟨by first | decide | first | (simp only [wI_1, r0, r1, r12, r13, r41, r42, k0, k1, k2, k3, k4, k5, k6] <;> first | rfl | decide) | decide, ?_⟩
  refine ⟨by first | decide | first | (simp only [wI_1, r0, r1, r12, r13, r41, r42, k0, k1, k2, k3, k4, k5, k6] <;> first | rfl | decide) | decide, ?_⟩
  refine ⟨by first | decide | first | (simp only [wI_1, r0, r1, r12, r13, r41, r42, k0, k1, k2, k3, k4, k5, k6] <;> first | rfl | decide) | decide, ?_⟩
  refine ⟨by first | decide | first | (simp only [wI_1, r0, r1, r12, r13, r41, r42, k0, k1, k2, k3, k4, k5, k6] <;> first | rfl | decide) | decide, ?_⟩
  refine ⟨by first | decide | first | (simp only [wI_1, r0, r1, r12, r13, r41, r42, k0, k1, k2, k3, k4, k5, k6] <;> first | rfl | decide) | decide, ?_⟩
  refine ⟨fun h => absurd ((hv).symm.trans h) (by decide), fun _ => ?_⟩
  refine ⟨fun _ => ?_, fun h => absurd hv h⟩
  refine ⟨fun h1 => ?_, fun h1 => ?_⟩
  · try simp only [wI_M, tk_0, tk_1, tk_2, tk_3, tk_4, tk_5, tk_6, tk_7, tk_8, tk_9, tk_10, tk_11, tk_12, tk_13, tk_14, tk_15, tk_16, tk_17, rd0_2, wr0_2, rd0_3, wr0_3, rd0_4, wr0_4, rd0_5, wr0_5, rd0_6, wr0_6, rd0_7, wr0_7, rd0_8, wr0_8, rd0_9, wr0_9, rd0_10, wr0_10, rd0_11, wr0_11, rd0_12, wr0_12, rd0_13, wr0_13, rd0_14, wr0_14, rd0_15, wr0_15, rd0_16, wr0_16, rd1_0, wr1_0, rd1_1, wr1_1, rd4_0, wr4_0, wI_1, r0, r1, r12, r13, r41, r42, wI_w, e2, e3, e4, e5, e6, bI_e0, Classical.not_not, if_true, if_false] at h1
    refine ⟨⟨Nat.zero_le _, Nat.zero_le _⟩, by decide, ?_, ?_⟩
    · simp [-Int32.not_le, -Int32.not_lt, bI, h1]
    · show (S, _, J) = (S, _, J)
      first | rfl | simp [-Int32.not_le, -Int32.not_lt, bI, h1]
  · refine ⟨⟨Nat.le_of_ble_eq_true rfl, Nat.le_of_ble_eq_true rfl, Nat.le_of_ble_eq_true rfl⟩, by first | (simp only [wI_1, r0, r1, r12, r13, r41, r42, k0, k1, k2, k3, k4, k5, k6] <;> first | rfl | decide) | decide, _, by (try simp only [e2, e3, e4, e5, e6]); exact T_obey_c hS hI hB, ?_⟩
    rintro _ _ ⟨rfl, rfl⟩
    refine ⟨Or.inl rfl, ?_⟩
    refine ⟨fun h2 => ?_, fun h2 => ?_⟩
    · try simp only [wI_M, tk_0, tk_1, tk_2, tk_3, tk_4, tk_5, tk_6, tk_7, tk_8, tk_9, tk_10, tk_11, tk_12, tk_13, tk_14, tk_15, tk_16, tk_17, rd0_2, wr0_2, rd0_3, wr0_3, rd0_4, wr0_4, rd0_5, wr0_5, rd0_6, wr0_6, rd0_7, wr0_7, rd0_8, wr0_8, rd0_9, wr0_9, rd0_10, wr0_10, rd0_11, wr0_11, rd0_12, wr0_12, rd0_13, wr0_13, rd0_14, wr0_14, rd0_15, wr0_15, rd0_16, wr0_16, rd1_0, wr1_0, rd1_1, wr1_1, rd4_0, wr4_0, wI_1, r0, r1, r12, r13, r41, r42, wI_w, e2, e3, e4, e5, e6, bI_e0, Classical.not_not, if_true, if_false] at h1 h2
      refine ⟨⟨Nat.zero_le _, Nat.zero_le _⟩, by decide, ?_, ?_⟩
      · simp [-Int32.not_le, -Int32.not_lt, bI, h1, h2]
      · show (S, _, J) = (S, _, J)
        first | rfl | simp [-Int32.not_le, -Int32.not_lt, bI, h1, h2]
    · try simp only [wI_M, tk_0, tk_1, tk_2, tk_3, tk_4, tk_5, tk_6, tk_7, tk_8, tk_9, tk_10, tk_11, tk_12, tk_13, tk_14, tk_15, tk_16, tk_17, rd0_2, wr0_2, rd0_3, wr0_3, rd0_4, wr0_4, rd0_5, wr0_5, rd0_6, wr0_6, rd0_7, wr0_7, rd0_8, wr0_8, rd0_9, wr0_9, rd0_10, wr0_10, rd0_11, wr0_11, rd0_12, wr0_12, rd0_13, wr0_13, rd0_14, wr0_14, rd0_15, wr0_15, rd0_16, wr0_16, rd1_0, wr1_0, rd1_1, wr1_1, rd4_0, wr4_0, wI_1, r0, r1, r12, r13, r41, r42, wI_w, e2, e3, e4, e5, e6, bI_e0, Classical.not_not, if_true, if_false] at h1 h2
      refine ⟨⟨Nat.zero_le _, Nat.zero_le _⟩, by decide, ?_, ?_⟩
      · simp [-Int32.not_le, -Int32.not_lt, bI, h1, h2]
      · show (S, _, J) = (S, _, J)
        first | rfl | simp [-Int32.not_le, -Int32.not_lt, bI, h1, h2]
set_option maxHeartbeats 1000000 in
theorem T_og3 {d : Nat} {S : Sc} {M : Nat → Nat → Int32} {J : Nat → Nat → Int64} {b : Nat} {σ : Rw} (hS : OdS S b) {g : Nat} {B : Nat} (hI : Inv B σ) (hB : B < 1073741824) (hg : g < 10000) (hk : g / 1000 = 3) : Wp (d + 7) 35 [.ref b, .int (nI g)] (S, sO M b σ, J) (fun rs w' => rs = .inl (some (.int (bI (nI g = 3000 ∧ σ 3 = 0)))) ∧ w' = (S, sO M b (if nI g = 3000 ∧ σ 3 = 0 then rPower σ else σ), J)) := by
  obtain ⟨⟨k0, k1, k2, k3, k4, k5, k6⟩, ⟨r0, r1, r12, r13, r41, r42⟩, l2, l3, l5, l6⟩ := id hS
  obtain ⟨hok, hBk, hK, hC, h4_, h6_, h1_, n, hn, h17, hD⟩ := id hI
  have e2 : nI g / 100 - nI g / 100 / 10 * 10 = nI (g / 100 % 10) := by rw [o_100, o_10, pk_div (by omega) (by omega) (by omega), pk_rem (by omega) (by omega) (by omega)]
  have e3 : nI g / 10 - nI g / 10 / 10 * 10 = nI (g / 10 % 10) := by rw [o_10, pk_div (by omega) (by omega) (by omega), pk_rem (by omega) (by omega) (by omega)]
  have e4 : nI g - nI g / 10 * 10 = nI (g % 10) := by rw [o_10, pk_rem (by omega) (by omega) (by omega)]
  have e5 : nI g - nI g / 1000 * 1000 = nI (g % 1000) := by rw [o_1000, pk_rem (by omega) (by omega) (by omega)]
  have e6 : nI g - nI g / 100 * 100 = nI (g % 100) := by rw [o_100, pk_rem (by omega) (by omega) (by omega)]
  have hv : nI g / 1000 = nI (g / 1000) := by rw [o_1000, pk_div (by omega) (by omega) (by omega)]
  rw [hk] at hv
  refine ⟨rfl, ?_⟩
  refine EE.runN (stop := noStop) 100 _ ?_
  refine ⟨by first | decide | first | (simp only [wI_1, r0, r1, r12, r13, r41, r42, k0, k1, k2, k3, k4, k5, k6] <;> first | rfl | decide) | decide, ?_⟩
  refine ⟨by first | decide | first | (simp only [wI_1, r0, r1, r12, r13, r41, r42, k0, k1, k2, k3, k4, k5, k6] <;> first | rfl | decide) | decide, ?_⟩
  refine ⟨by first | decide | first | (simp only [wI_1, r0, r1, r12, r13, r41, r42, k0, k1, k2, k3, k4, k5, k6] <;> first | rfl | decide) | decide, ?_⟩
  refine ⟨by first | decide | first | (simp only [wI_1, r0, r1, r12, r13, r41, r42, k0, k1, k2, k3, k4, k5, k6] <;> first | rfl | decide) | decide, ?_⟩
  refine ⟨by first | decide | first | (simp only [wI_1, r0, r1, r12, r13, r41, r42, k0, k1, k2, k3, k4, k5, k6] <;> first | rfl | decide) | decide, ?_⟩
  refine ⟨by first | decide | first | (simp only [wI_1, r0, r1, r12, r13, r41, r42, k0, k1, k2, k3, k4, k5, k6] <;> first | rfl | decide) | decide, ?_⟩
  refine ⟨fun h => absurd ((hv).symm.trans h) (by decide), fun _ => ?_⟩
  refine ⟨fun h => absurd ((hv).symm.trans h) (by decide), fun _ => ?_⟩
  refine ⟨fun _ => ?_, fun h => absurd hv h⟩
  refine ⟨fun h1 => ?_, fun h1 => ?_⟩
  · try simp only [wI_M, tk_0, tk_1, tk_2, tk_3, tk_4, tk_5, tk_6, tk_7, tk_8, tk_9, tk_10, tk_11, tk_12, tk_13, tk_14, tk_15, tk_16, tk_17, rd0_2, wr0_2, rd0_3, wr0_3, rd0_4, wr0_4, rd0_5, wr0_5, rd0_6, wr0_6, rd0_7, wr0_7, rd0_8, wr0_8, rd0_9, wr0_9, rd0_10, wr0_10, rd0_11, wr0_11, rd0_12, wr0_12, rd0_13, wr0_13, rd0_14, wr0_14, rd0_15, wr0_15, rd0_16, wr0_16, rd1_0, wr1_0, rd1_1, wr1_1, rd4_0, wr4_0, wI_1, r0, r1, r12, r13, r41, r42, wI_w, e2, e3, e4, e5, e6, bI_e0, Classical.not_not, if_true, if_false] at h1
    refine ⟨⟨Nat.zero_le _, Nat.zero_le _⟩, by decide, ?_, ?_⟩
    · simp [-Int32.not_le, -Int32.not_lt, bI, h1]
    · show (S, _, J) = (S, _, J)
      first | rfl | simp [-Int32.not_le, -Int32.not_lt, bI, h1]
  · refine ⟨⟨Nat.le_of_ble_eq_true rfl, Nat.le_of_ble_eq_true rfl, Nat.le_of_ble_eq_true rfl⟩, by first | (simp only [wI_1, r0, r1, r12, r13, r41, r42, k0, k1, k2, k3, k4, k5, k6] <;> first | rfl | decide) | decide, _, by (try simp only [e2, e3, e4, e5, e6]); exact T_obey_s hS hI hB, ?_⟩
    rintro _ _ ⟨rfl, rfl⟩
    refine ⟨Or.inl rfl, ?_⟩
    refine ⟨fun h2 => ?_, fun h2 => ?_⟩
    · try simp only [wI_M, tk_0, tk_1, tk_2, tk_3, tk_4, tk_5, tk_6, tk_7, tk_8, tk_9, tk_10, tk_11, tk_12, tk_13, tk_14, tk_15, tk_16, tk_17, rd0_2, wr0_2, rd0_3, wr0_3, rd0_4, wr0_4, rd0_5, wr0_5, rd0_6, wr0_6, rd0_7, wr0_7, rd0_8, wr0_8, rd0_9, wr0_9, rd0_10, wr0_10, rd0_11, wr0_11, rd0_12, wr0_12, rd0_13, wr0_13, rd0_14, wr0_14, rd0_15, wr0_15, rd0_16, wr0_16, rd1_0, wr1_0, rd1_1, wr1_1, rd4_0, wr4_0, wI_1, r0, r1, r12, r13, r41, r42, wI_w, e2, e3, e4, e5, e6, bI_e0, Classical.not_not, if_true, if_false] at h1 h2
      refine ⟨⟨Nat.zero_le _, Nat.zero_le _⟩, by decide, ?_, ?_⟩
      · simp [-Int32.not_le, -Int32.not_lt, bI, h1, h2]
      · show (S, _, J) = (S, _, J)
        first | rfl | simp [-Int32.not_le, -Int32.not_lt, bI, h1, h2]
    · try simp only [wI_M, tk_0, tk_1, tk_2, tk_3, tk_4, tk_5, tk_6, tk_7, tk_8, tk_9, tk_10, tk_11, tk_12, tk_13, tk_14, tk_15, tk_16, tk_17, rd0_2, wr0_2, rd0_3, wr0_3, rd0_4, wr0_4, rd0_5, wr0_5, rd0_6, wr0_6, rd0_7, wr0_7, rd0_8, wr0_8, rd0_9, wr0_9, rd0_10, wr0_10, rd0_11, wr0_11, rd0_12, wr0_12, rd0_13, wr0_13, rd0_14, wr0_14, rd0_15, wr0_15, rd0_16, wr0_16, rd1_0, wr1_0, rd1_1, wr1_1, rd4_0, wr4_0, wI_1, r0, r1, r12, r13, r41, r42, wI_w, e2, e3, e4, e5, e6, bI_e0, Classical.not_not, if_true, if_false] at h1 h2
      refine ⟨⟨Nat.zero_le _, Nat.zero_le _⟩, by decide, ?_, ?_⟩
      · simp [-Int32.not_le, -Int32.not_lt, bI, h1, h2]
      · show (S, _, J) = (S, _, J)
        first | rfl | simp [-Int32.not_le, -Int32.not_lt, bI, h1, h2]
set_option maxHeartbeats 1000000 in
theorem T_og4 {d : Nat} {S : Sc} {M : Nat → Nat → Int32} {J : Nat → Nat → Int64} {b : Nat} {σ : Rw} (hS : OdS S b) {g : Nat} {B : Nat} (hI : Inv B σ) (hB : B < 1073741824) (hg : g < 10000) (hk : g / 1000 = 4) : Wp (d + 7) 35 [.ref b, .int (nI g)] (S, sO M b σ, J) (fun rs w' => rs = .inl (some (.int (bI ((nI (g % 10)) = 0 ∧ ¬ σ 3 = 0 ∧ (¬ (nI (g / 100 % 10)) < 0 ∧ ¬ 9 < (nI (g / 100 % 10)) ∧ ¬ (nI (g / 10 % 10)) < 0 ∧ ¬ 9 < (nI (g / 10 % 10))) ∧ (σ 17 < 12 ∨ ¬ rFnd σ (10 * (nI (g / 100 % 10)) + (nI (g / 10 % 10))) (σ 17).toNatClampNeg = -99999))))) ∧ w' = (S, sO M b (if (nI (g % 10)) = 0 ∧ ¬ σ 3 = 0 ∧ (¬ (nI (g / 100 % 10)) < 0 ∧ ¬ 9 < (nI (g / 100 % 10)) ∧ ¬ (nI (g / 10 % 10)) < 0 ∧ ¬ 9 < (nI (g / 10 % 10))) ∧ (σ 17 < 12 ∨ ¬ rFnd σ (10 * (nI (g / 100 % 10)) + (nI (g / 10 % 10))) (σ 17).toNatClampNeg = -99999) then rServe σ (10 * (nI (g / 100 % 10)) + (nI (g / 10 % 10))) (σ 17).toNatClampNeg else σ), J)) := by
  obtain ⟨⟨k0, k1, k2, k3, k4, k5, k6⟩, ⟨r0, r1, r12, r13, r41, r42⟩, l2, l3, l5, l6⟩ := id hS
  obtain ⟨hok, hBk, hK, hC, h4_, h6_, h1_, n, hn, h17, hD⟩ := id hI
  have e2 : nI g / 100 - nI g / 100 / 10 * 10 = nI (g / 100 % 10) := by rw [o_100, o_10, pk_div (by omega) (by omega) (by omega), pk_rem (by omega) (by omega) (by omega)]
  have e3 : nI g / 10 - nI g / 10 / 10 * 10 = nI (g / 10 % 10) := by rw [o_10, pk_div (by omega) (by omega) (by omega), pk_rem (by omega) (by omega) (by omega)]
  have e4 : nI g - nI g / 10 * 10 = nI (g % 10) := by rw [o_10, pk_rem (by omega) (by omega) (by omega)]
  have e5 : nI g - nI g / 1000 * 1000 = nI (g % 1000) := by rw [o_1000, pk_rem (by omega) (by omega) (by omega)]
  have e6 : nI g - nI g / 100 * 100 = nI (g % 100) := by rw [o_100, pk_rem (by omega) (by omega) (by omega)]
  have hv : nI g / 1000 = nI (g / 1000) := by rw [o_1000, pk_div (by omega) (by omega) (by omega)]
  rw [hk] at hv
  refine ⟨rfl, ?_⟩
  refine EE.runN (stop := noStop) 100 _ ?_
  refine ⟨by first | decide | first | (simp only [wI_1, r0, r1, r12, r13, r41, r42, k0, k1, k2, k3, k4, k5, k6] <;> first | rfl | decide) | decide, ?_⟩
  refine ⟨by first | decide | first | (simp only [wI_1, r0, r1, r12, r13, r41, r42, k0, k1, k2, k3, k4, k5, k6] <;> first | rfl | decide) | decide, ?_⟩
  refine ⟨by first | decide | first | (simp only [wI_1, r0, r1, r12, r13, r41, r42, k0, k1, k2, k3, k4, k5, k6] <;> first | rfl | decide) | decide, ?_⟩
  refine ⟨by first | decide | first | (simp only [wI_1, r0, r1, r12, r13, r41, r42, k0, k1, k2, k3, k4, k5, k6] <;> first | rfl | decide) | decide, ?_⟩
  refine ⟨by first | decide | first | (simp only [wI_1, r0, r1, r12, r13, r41, r42, k0, k1, k2, k3, k4, k5, k6] <;> first | rfl | decide) | decide, ?_⟩
  refine ⟨by first | decide | first | (simp only [wI_1, r0, r1, r12, r13, r41, r42, k0, k1, k2, k3, k4, k5, k6] <;> first | rfl | decide) | decide, ?_⟩
  refine ⟨fun h => absurd ((hv).symm.trans h) (by decide), fun _ => ?_⟩
  refine ⟨fun h => absurd ((hv).symm.trans h) (by decide), fun _ => ?_⟩
  refine ⟨fun h => absurd ((hv).symm.trans h) (by decide), fun _ => ?_⟩
  refine ⟨fun _ => ?_, fun h => absurd hv h⟩
  refine ⟨fun h1 => ?_, fun h1 => ?_⟩
  · try simp only [wI_M, tk_0, tk_1, tk_2, tk_3, tk_4, tk_5, tk_6, tk_7, tk_8, tk_9, tk_10, tk_11, tk_12, tk_13, tk_14, tk_15, tk_16, tk_17, rd0_2, wr0_2, rd0_3, wr0_3, rd0_4, wr0_4, rd0_5, wr0_5, rd0_6, wr0_6, rd0_7, wr0_7, rd0_8, wr0_8, rd0_9, wr0_9, rd0_10, wr0_10, rd0_11, wr0_11, rd0_12, wr0_12, rd0_13, wr0_13, rd0_14, wr0_14, rd0_15, wr0_15, rd0_16, wr0_16, rd1_0, wr1_0, rd1_1, wr1_1, rd4_0, wr4_0, wI_1, r0, r1, r12, r13, r41, r42, wI_w, e2, e3, e4, e5, e6, bI_e0, Classical.not_not, if_true, if_false] at h1
    refine ⟨⟨Nat.zero_le _, Nat.zero_le _⟩, by decide, ?_, ?_⟩
    · simp [-Int32.not_le, -Int32.not_lt, bI, h1]
    · show (S, _, J) = (S, _, J)
      first | rfl | simp [-Int32.not_le, -Int32.not_lt, bI, h1]
  · refine ⟨⟨Nat.le_of_ble_eq_true rfl, Nat.le_of_ble_eq_true rfl, Nat.le_of_ble_eq_true rfl⟩, by first | (simp only [wI_1, r0, r1, r12, r13, r41, r42, k0, k1, k2, k3, k4, k5, k6] <;> first | rfl | decide) | decide, _, by (try simp only [e2, e3, e4, e5, e6]); exact T_obey_m hS hI hB, ?_⟩
    rintro _ _ ⟨rfl, rfl⟩
    refine ⟨Or.inl rfl, ?_⟩
    refine ⟨fun h2 => ?_, fun h2 => ?_⟩
    · try simp only [wI_M, tk_0, tk_1, tk_2, tk_3, tk_4, tk_5, tk_6, tk_7, tk_8, tk_9, tk_10, tk_11, tk_12, tk_13, tk_14, tk_15, tk_16, tk_17, rd0_2, wr0_2, rd0_3, wr0_3, rd0_4, wr0_4, rd0_5, wr0_5, rd0_6, wr0_6, rd0_7, wr0_7, rd0_8, wr0_8, rd0_9, wr0_9, rd0_10, wr0_10, rd0_11, wr0_11, rd0_12, wr0_12, rd0_13, wr0_13, rd0_14, wr0_14, rd0_15, wr0_15, rd0_16, wr0_16, rd1_0, wr1_0, rd1_1, wr1_1, rd4_0, wr4_0, wI_1, r0, r1, r12, r13, r41, r42, wI_w, e2, e3, e4, e5, e6, bI_e0, Classical.not_not, if_true, if_false] at h1 h2
      refine ⟨⟨Nat.zero_le _, Nat.zero_le _⟩, by decide, ?_, ?_⟩
      · simp [-Int32.not_le, -Int32.not_lt, bI, h1, h2]
      · show (S, _, J) = (S, _, J)
        first | rfl | simp [-Int32.not_le, -Int32.not_lt, bI, h1, h2]
    · try simp only [wI_M, tk_0, tk_1, tk_2, tk_3, tk_4, tk_5, tk_6, tk_7, tk_8, tk_9, tk_10, tk_11, tk_12, tk_13, tk_14, tk_15, tk_16, tk_17, rd0_2, wr0_2, rd0_3, wr0_3, rd0_4, wr0_4, rd0_5, wr0_5, rd0_6, wr0_6, rd0_7, wr0_7, rd0_8, wr0_8, rd0_9, wr0_9, rd0_10, wr0_10, rd0_11, wr0_11, rd0_12, wr0_12, rd0_13, wr0_13, rd0_14, wr0_14, rd0_15, wr0_15, rd0_16, wr0_16, rd1_0, wr1_0, rd1_1, wr1_1, rd4_0, wr4_0, wI_1, r0, r1, r12, r13, r41, r42, wI_w, e2, e3, e4, e5, e6, bI_e0, Classical.not_not, if_true, if_false] at h1 h2
      refine ⟨⟨Nat.zero_le _, Nat.zero_le _⟩, by decide, ?_, ?_⟩
      · simp [-Int32.not_le, -Int32.not_lt, bI, h1, h2]
      · show (S, _, J) = (S, _, J)
        first | rfl | simp [-Int32.not_le, -Int32.not_lt, bI, h1, h2]
set_option maxHeartbeats 1000000 in
theorem T_og5 {d : Nat} {S : Sc} {M : Nat → Nat → Int32} {J : Nat → Nat → Int64} {b : Nat} {σ : Rw} (hS : OdS S b) {g : Nat} {B : Nat} (hI : Inv B σ) (hB : B < 1073741824) (hg : g < 10000) (hk : g / 1000 = 5) : Wp (d + 7) 35 [.ref b, .int (nI g)] (S, sO M b σ, J) (fun rs w' => rs = .inl (some (.int (bI (¬ σ 3 = 0 ∧ ¬ σ 4 < (nI (g % 1000)))))) ∧ w' = (S, sO M b (σ), J)) := by
  obtain ⟨⟨k0, k1, k2, k3, k4, k5, k6⟩, ⟨r0, r1, r12, r13, r41, r42⟩, l2, l3, l5, l6⟩ := id hS
  obtain ⟨hok, hBk, hK, hC, h4_, h6_, h1_, n, hn, h17, hD⟩ := id hI
  have e2 : nI g / 100 - nI g / 100 / 10 * 10 = nI (g / 100 % 10) := by rw [o_100, o_10, pk_div (by omega) (by omega) (by omega), pk_rem (by omega) (by omega) (by omega)]
  have e3 : nI g / 10 - nI g / 10 / 10 * 10 = nI (g / 10 % 10) := by rw [o_10, pk_div (by omega) (by omega) (by omega), pk_rem (by omega) (by omega) (by omega)]
  have e4 : nI g - nI g / 10 * 10 = nI (g % 10) := by rw [o_10, pk_rem (by omega) (by omega) (by omega)]
  have e5 : nI g - nI g / 1000 * 1000 = nI (g % 1000) := by rw [o_1000, pk_rem (by omega) (by omega) (by omega)]
  have e6 : nI g - nI g / 100 * 100 = nI (g % 100) := by rw [o_100, pk_rem (by omega) (by omega) (by omega)]
  have hv : nI g / 1000 = nI (g / 1000) := by rw [o_1000, pk_div (by omega) (by omega) (by omega)]
  rw [hk] at hv
  refine ⟨rfl, ?_⟩
  refine EE.runN (stop := noStop) 100 _ ?_
  refine ⟨by first | decide | first | (simp only [wI_1, r0, r1, r12, r13, r41, r42, k0, k1, k2, k3, k4, k5, k6] <;> first | rfl | decide) | decide, ?_⟩
  refine ⟨by first | decide | first | (simp only [wI_1, r0, r1, r12, r13, r41, r42, k0, k1, k2, k3, k4, k5, k6] <;> first | rfl | decide) | decide, ?_⟩
  refine ⟨by first | decide | first | (simp only [wI_1, r0, r1, r12, r13, r41, r42, k0, k1, k2, k3, k4, k5, k6] <;> first | rfl | decide) | decide, ?_⟩
  refine ⟨by first | decide | first | (simp only [wI_1, r0, r1, r12, r13, r41, r42, k0, k1, k2, k3, k4, k5, k6] <;> first | rfl | decide) | decide, ?_⟩
  refine ⟨by first | decide | first | (simp only [wI_1, r0, r1, r12, r13, r41, r42, k0, k1, k2, k3, k4, k5, k6] <;> first | rfl | decide) | decide, ?_⟩
  refine ⟨by first | decide | first | (simp only [wI_1, r0, r1, r12, r13, r41, r42, k0, k1, k2, k3, k4, k5, k6] <;> first | rfl | decide) | decide, ?_⟩
  refine ⟨fun h => absurd ((hv).symm.trans h) (by decide), fun _ => ?_⟩
  refine ⟨fun h => absurd ((hv).symm.trans h) (by decide), fun _ => ?_⟩
  refine ⟨fun h => absurd ((hv).symm.trans h) (by decide), fun _ => ?_⟩
  refine ⟨fun h => absurd ((hv).symm.trans h) (by decide), fun _ => ?_⟩
  refine ⟨fun _ => ?_, fun h => absurd hv h⟩
  refine ⟨by first | (simp only [wI_1, r0, r1, r12, r13, r41, r42, k0, k1, k2, k3, k4, k5, k6] <;> first | rfl | decide) | decide, ?_⟩
  refine ⟨fun h1 => ?_, fun h1 => ?_⟩
  · try simp only [wI_M, tk_0, tk_1, tk_2, tk_3, tk_4, tk_5, tk_6, tk_7, tk_8, tk_9, tk_10, tk_11, tk_12, tk_13, tk_14, tk_15, tk_16, tk_17, rd0_2, wr0_2, rd0_3, wr0_3, rd0_4, wr0_4, rd0_5, wr0_5, rd0_6, wr0_6, rd0_7, wr0_7, rd0_8, wr0_8, rd0_9, wr0_9, rd0_10, wr0_10, rd0_11, wr0_11, rd0_12, wr0_12, rd0_13, wr0_13, rd0_14, wr0_14, rd0_15, wr0_15, rd0_16, wr0_16, rd1_0, wr1_0, rd1_1, wr1_1, rd4_0, wr4_0, wI_1, r0, r1, r12, r13, r41, r42, wI_w, e2, e3, e4, e5, e6, bI_e0, Classical.not_not, if_true, if_false] at h1
    refine ⟨⟨Nat.zero_le _, Nat.zero_le _⟩, by decide, ?_, ?_⟩
    · simp [-Int32.not_le, -Int32.not_lt, bI, h1]
    · show (S, _, J) = (S, _, J)
      first | rfl | simp [-Int32.not_le, -Int32.not_lt, bI, h1]
  · refine ⟨by first | (simp only [wI_1, r0, r1, r12, r13, r41, r42, k0, k1, k2, k3, k4, k5, k6] <;> first | rfl | decide) | decide, ?_⟩
    refine ⟨by first | decide | first | (simp only [wI_1, r0, r1, r12, r13, r41, r42, k0, k1, k2, k3, k4, k5, k6] <;> first | rfl | decide) | decide, ?_⟩
    refine ⟨fun h2 => ?_, fun h2 => ?_⟩
    · try simp only [wI_M, tk_0, tk_1, tk_2, tk_3, tk_4, tk_5, tk_6, tk_7, tk_8, tk_9, tk_10, tk_11, tk_12, tk_13, tk_14, tk_15, tk_16, tk_17, rd0_2, wr0_2, rd0_3, wr0_3, rd0_4, wr0_4, rd0_5, wr0_5, rd0_6, wr0_6, rd0_7, wr0_7, rd0_8, wr0_8, rd0_9, wr0_9, rd0_10, wr0_10, rd0_11, wr0_11, rd0_12, wr0_12, rd0_13, wr0_13, rd0_14, wr0_14, rd0_15, wr0_15, rd0_16, wr0_16, rd1_0, wr1_0, rd1_1, wr1_1, rd4_0, wr4_0, wI_1, r0, r1, r12, r13, r41, r42, wI_w, e2, e3, e4, e5, e6, bI_e0, Classical.not_not, if_true, if_false] at h1 h2
      refine ⟨⟨Nat.zero_le _, Nat.zero_le _⟩, by decide, ?_, ?_⟩
      · simp [-Int32.not_le, -Int32.not_lt, bI, h1, h2]
      · show (S, _, J) = (S, _, J)
        first | rfl | simp [-Int32.not_le, -Int32.not_lt, bI, h1, h2]
    · try simp only [wI_M, tk_0, tk_1, tk_2, tk_3, tk_4, tk_5, tk_6, tk_7, tk_8, tk_9, tk_10, tk_11, tk_12, tk_13, tk_14, tk_15, tk_16, tk_17, rd0_2, wr0_2, rd0_3, wr0_3, rd0_4, wr0_4, rd0_5, wr0_5, rd0_6, wr0_6, rd0_7, wr0_7, rd0_8, wr0_8, rd0_9, wr0_9, rd0_10, wr0_10, rd0_11, wr0_11, rd0_12, wr0_12, rd0_13, wr0_13, rd0_14, wr0_14, rd0_15, wr0_15, rd0_16, wr0_16, rd1_0, wr1_0, rd1_1, wr1_1, rd4_0, wr4_0, wI_1, r0, r1, r12, r13, r41, r42, wI_w, e2, e3, e4, e5, e6, bI_e0, Classical.not_not, if_true, if_false] at h1 h2
      refine ⟨⟨Nat.zero_le _, Nat.zero_le _⟩, by decide, ?_, ?_⟩
      · simp [-Int32.not_le, -Int32.not_lt, bI, h1, h2]
      · show (S, _, J) = (S, _, J)
        first | rfl | simp [-Int32.not_le, -Int32.not_lt, bI, h1, h2]
set_option maxHeartbeats 1000000 in
theorem T_og6 {d : Nat} {S : Sc} {M : Nat → Nat → Int32} {J : Nat → Nat → Int64} {b : Nat} {σ : Rw} (hS : OdS S b) {g : Nat} {B : Nat} (hI : Inv B σ) (hB : B < 1073741824) (hg : g < 10000) (hk : g / 1000 = 6) : Wp (d + 7) 35 [.ref b, .int (nI g)] (S, sO M b σ, J) (fun rs w' => rs = .inl (some (.int (bI ((nI (g / 100 % 10)) = 0 ∧ (¬ (nI (g % 100)) < 1 ∧ ¬ 99 < (nI (g % 100))))))) ∧ w' = (S, sO M b (if (nI (g / 100 % 10)) = 0 ∧ (¬ (nI (g % 100)) < 1 ∧ ¬ 99 < (nI (g % 100))) then upd σ 1 (nI (g % 100)) else σ), J)) := by
  obtain ⟨⟨k0, k1, k2, k3, k4, k5, k6⟩, ⟨r0, r1, r12, r13, r41, r42⟩, l2, l3, l5, l6⟩ := id hS
  obtain ⟨hok, hBk, hK, hC, h4_, h6_, h1_, n, hn, h17, hD⟩ := id hI
  have e2 : nI g / 100 - nI g / 100 / 10 * 10 = nI (g / 100 % 10) := by rw [o_100, o_10, pk_div (by omega) (by omega) (by omega), pk_rem (by omega) (by omega) (by omega)]
  have e3 : nI g / 10 - nI g / 10 / 10 * 10 = nI (g / 10 % 10) := by rw [o_10, pk_div (by omega) (by omega) (by omega), pk_rem (by omega) (by omega) (by omega)]
  have e4 : nI g - nI g / 10 * 10 = nI (g % 10) := by rw [o_10, pk_rem (by omega) (by omega) (by omega)]
  have e5 : nI g - nI g / 1000 * 1000 = nI (g % 1000) := by rw [o_1000, pk_rem (by omega) (by omega) (by omega)]
  have e6 : nI g - nI g / 100 * 100 = nI (g % 100) := by rw [o_100, pk_rem (by omega) (by omega) (by omega)]
  have hv : nI g / 1000 = nI (g / 1000) := by rw [o_1000, pk_div (by omega) (by omega) (by omega)]
  rw [hk] at hv
  refine ⟨rfl, ?_⟩
  refine EE.runN (stop := noStop) 100 _ ?_
  refine ⟨by first | decide | first | (simp only [wI_1, r0, r1, r12, r13, r41, r42, k0, k1, k2, k3, k4, k5, k6] <;> first | rfl | decide) | decide, ?_⟩
  refine ⟨by first | decide | first | (simp only [wI_1, r0, r1, r12, r13, r41, r42, k0, k1, k2, k3, k4, k5, k6] <;> first | rfl | decide) | decide, ?_⟩
  refine ⟨by first | decide | first | (simp only [wI_1, r0, r1, r12, r13, r41, r42, k0, k1, k2, k3, k4, k5, k6] <;> first | rfl | decide) | decide, ?_⟩
  refine ⟨by first | decide | first | (simp only [wI_1, r0, r1, r12, r13, r41, r42, k0, k1, k2, k3, k4, k5, k6] <;> first | rfl | decide) | decide, ?_⟩
  refine ⟨by first | decide | first | (simp only [wI_1, r0, r1, r12, r13, r41, r42, k0, k1, k2, k3, k4, k5, k6] <;> first | rfl | decide) | decide, ?_⟩
  refine ⟨by first | decide | first | (simp only [wI_1, r0, r1, r12, r13, r41, r42, k0, k1, k2, k3, k4, k5, k6] <;> first | rfl | decide) | decide, ?_⟩
  refine ⟨fun h => absurd ((hv).symm.trans h) (by decide), fun _ => ?_⟩
  refine ⟨fun h => absurd ((hv).symm.trans h) (by decide), fun _ => ?_⟩
  refine ⟨fun h => absurd ((hv).symm.trans h) (by decide), fun _ => ?_⟩
  refine ⟨fun h => absurd ((hv).symm.trans h) (by decide), fun _ => ?_⟩
  refine ⟨fun h => absurd ((hv).symm.trans h) (by decide), fun _ => ?_⟩
  refine ⟨fun _ => ?_, fun h => absurd hv h⟩
  refine ⟨fun h1 => ?_, fun h1 => ?_⟩
  · try simp only [wI_M, tk_0, tk_1, tk_2, tk_3, tk_4, tk_5, tk_6, tk_7, tk_8, tk_9, tk_10, tk_11, tk_12, tk_13, tk_14, tk_15, tk_16, tk_17, rd0_2, wr0_2, rd0_3, wr0_3, rd0_4, wr0_4, rd0_5, wr0_5, rd0_6, wr0_6, rd0_7, wr0_7, rd0_8, wr0_8, rd0_9, wr0_9, rd0_10, wr0_10, rd0_11, wr0_11, rd0_12, wr0_12, rd0_13, wr0_13, rd0_14, wr0_14, rd0_15, wr0_15, rd0_16, wr0_16, rd1_0, wr1_0, rd1_1, wr1_1, rd4_0, wr4_0, wI_1, r0, r1, r12, r13, r41, r42, wI_w, e2, e3, e4, e5, e6, bI_e0, Classical.not_not, if_true, if_false] at h1
    refine ⟨⟨Nat.zero_le _, Nat.zero_le _⟩, by decide, ?_, ?_⟩
    · simp [-Int32.not_le, -Int32.not_lt, bI, h1]
    · show (S, _, J) = (S, _, J)
      first | rfl | simp [-Int32.not_le, -Int32.not_lt, bI, h1]
  · refine ⟨by first | decide | first | (simp only [wI_1, r0, r1, r12, r13, r41, r42, k0, k1, k2, k3, k4, k5, k6] <;> first | rfl | decide) | decide, ?_⟩
    refine ⟨⟨Nat.le_of_ble_eq_true rfl, Nat.le_of_ble_eq_true rfl, Nat.le_of_ble_eq_true rfl⟩, by first | (simp only [wI_1, r0, r1, r12, r13, r41, r42, k0, k1, k2, k3, k4, k5, k6] <;> first | rfl | decide) | decide, _, by simp only [e2, e3, e4, e5, e6]; exact T_takeStep hS, ?_⟩
    rintro _ _ ⟨rfl, rfl⟩
    refine ⟨Or.inl rfl, ?_⟩
    refine ⟨fun h2 => ?_, fun h2 => ?_⟩
    · try simp only [wI_M, tk_0, tk_1, tk_2, tk_3, tk_4, tk_5, tk_6, tk_7, tk_8, tk_9, tk_10, tk_11, tk_12, tk_13, tk_14, tk_15, tk_16, tk_17, rd0_2, wr0_2, rd0_3, wr0_3, rd0_4, wr0_4, rd0_5, wr0_5, rd0_6, wr0_6, rd0_7, wr0_7, rd0_8, wr0_8, rd0_9, wr0_9, rd0_10, wr0_10, rd0_11, wr0_11, rd0_12, wr0_12, rd0_13, wr0_13, rd0_14, wr0_14, rd0_15, wr0_15, rd0_16, wr0_16, rd1_0, wr1_0, rd1_1, wr1_1, rd4_0, wr4_0, wI_1, r0, r1, r12, r13, r41, r42, wI_w, e2, e3, e4, e5, e6, bI_e0, Classical.not_not, if_true, if_false] at h1 h2
      refine ⟨⟨Nat.zero_le _, Nat.zero_le _⟩, by decide, ?_, ?_⟩
      · simp [-Int32.not_le, -Int32.not_lt, bI, h1, h2]
      · show (S, _, J) = (S, _, J)
        first | rfl | simp [-Int32.not_le, -Int32.not_lt, bI, h1, h2]
    · try simp only [wI_M, tk_0, tk_1, tk_2, tk_3, tk_4, tk_5, tk_6, tk_7, tk_8, tk_9, tk_10, tk_11, tk_12, tk_13, tk_14, tk_15, tk_16, tk_17, rd0_2, wr0_2, rd0_3, wr0_3, rd0_4, wr0_4, rd0_5, wr0_5, rd0_6, wr0_6, rd0_7, wr0_7, rd0_8, wr0_8, rd0_9, wr0_9, rd0_10, wr0_10, rd0_11, wr0_11, rd0_12, wr0_12, rd0_13, wr0_13, rd0_14, wr0_14, rd0_15, wr0_15, rd0_16, wr0_16, rd1_0, wr1_0, rd1_1, wr1_1, rd4_0, wr4_0, wI_1, r0, r1, r12, r13, r41, r42, wI_w, e2, e3, e4, e5, e6, bI_e0, Classical.not_not, if_true, if_false] at h1 h2
      refine ⟨⟨Nat.zero_le _, Nat.zero_le _⟩, by decide, ?_, ?_⟩
      · simp [-Int32.not_le, -Int32.not_lt, bI, h1, h2]
      · show (S, _, J) = (S, _, J)
        first | rfl | simp [-Int32.not_le, -Int32.not_lt, bI, h1, h2]
set_option maxHeartbeats 1000000 in
theorem T_og7 {d : Nat} {S : Sc} {M : Nat → Nat → Int32} {J : Nat → Nat → Int64} {b : Nat} {σ : Rw} (hS : OdS S b) {g : Nat} {B : Nat} (hI : Inv B σ) (hB : B < 1073741824) (hg : g < 10000) (hk : g / 1000 = 7) : Wp (d + 7) 35 [.ref b, .int (nI g)] (S, sO M b σ, J) (fun rs w' => rs = .inl (some (.int (bI ((nI (g % 100)) = 0 ∧ (¬ (nI (g / 100 % 10)) < 0 ∧ ¬ σ 0 ≤ (nI (g / 100 % 10))) ∧ ¬ rSays σ (g / 100 % 10) = -99999)))) ∧ w' = (S, sO M b (σ), J)) := by
  obtain ⟨⟨k0, k1, k2, k3, k4, k5, k6⟩, ⟨r0, r1, r12, r13, r41, r42⟩, l2, l3, l5, l6⟩ := id hS
  obtain ⟨hok, hBk, hK, hC, h4_, h6_, h1_, n, hn, h17, hD⟩ := id hI
  have e2 : nI g / 100 - nI g / 100 / 10 * 10 = nI (g / 100 % 10) := by rw [o_100, o_10, pk_div (by omega) (by omega) (by omega), pk_rem (by omega) (by omega) (by omega)]
  have e3 : nI g / 10 - nI g / 10 / 10 * 10 = nI (g / 10 % 10) := by rw [o_10, pk_div (by omega) (by omega) (by omega), pk_rem (by omega) (by omega) (by omega)]
  have e4 : nI g - nI g / 10 * 10 = nI (g % 10) := by rw [o_10, pk_rem (by omega) (by omega) (by omega)]
  have e5 : nI g - nI g / 1000 * 1000 = nI (g % 1000) := by rw [o_1000, pk_rem (by omega) (by omega) (by omega)]
  have e6 : nI g - nI g / 100 * 100 = nI (g % 100) := by rw [o_100, pk_rem (by omega) (by omega) (by omega)]
  have hv : nI g / 1000 = nI (g / 1000) := by rw [o_1000, pk_div (by omega) (by omega) (by omega)]
  rw [hk] at hv
  refine ⟨rfl, ?_⟩
  refine EE.runN (stop := noStop) 100 _ ?_
  refine ⟨by first | decide | first | (simp only [wI_1, r0, r1, r12, r13, r41, r42, k0, k1, k2, k3, k4, k5, k6] <;> first | rfl | decide) | decide, ?_⟩
  refine ⟨by first | decide | first | (simp only [wI_1, r0, r1, r12, r13, r41, r42, k0, k1, k2, k3, k4, k5, k6] <;> first | rfl | decide) | decide, ?_⟩
  refine ⟨by first | decide | first | (simp only [wI_1, r0, r1, r12, r13, r41, r42, k0, k1, k2, k3, k4, k5, k6] <;> first | rfl | decide) | decide, ?_⟩
  refine ⟨by first | decide | first | (simp only [wI_1, r0, r1, r12, r13, r41, r42, k0, k1, k2, k3, k4, k5, k6] <;> first | rfl | decide) | decide, ?_⟩
  refine ⟨by first | decide | first | (simp only [wI_1, r0, r1, r12, r13, r41, r42, k0, k1, k2, k3, k4, k5, k6] <;> first | rfl | decide) | decide, ?_⟩
  refine ⟨by first | decide | first | (simp only [wI_1, r0, r1, r12, r13, r41, r42, k0, k1, k2, k3, k4, k5, k6] <;> first | rfl | decide) | decide, ?_⟩
  refine ⟨fun h => absurd ((hv).symm.trans h) (by decide), fun _ => ?_⟩
  refine ⟨fun h => absurd ((hv).symm.trans h) (by decide), fun _ => ?_⟩
  refine ⟨fun h => absurd ((hv).symm.trans h) (by decide), fun _ => ?_⟩
  refine ⟨fun h => absurd ((hv).symm.trans h) (by decide), fun _ => ?_⟩
  refine ⟨fun h => absurd ((hv).symm.trans h) (by decide), fun _ => ?_⟩
  refine ⟨fun h => absurd ((hv).symm.trans h) (by decide), fun _ => ?_⟩
  refine ⟨fun _ => ?_, fun h => absurd hv h⟩
  refine ⟨by first | decide | first | (simp only [wI_1, r0, r1, r12, r13, r41, r42, k0, k1, k2, k3, k4, k5, k6] <;> first | rfl | decide) | decide, ?_⟩
  refine ⟨fun h1 => ?_, fun h1 => ?_⟩
  · try simp only [wI_M, tk_0, tk_1, tk_2, tk_3, tk_4, tk_5, tk_6, tk_7, tk_8, tk_9, tk_10, tk_11, tk_12, tk_13, tk_14, tk_15, tk_16, tk_17, rd0_2, wr0_2, rd0_3, wr0_3, rd0_4, wr0_4, rd0_5, wr0_5, rd0_6, wr0_6, rd0_7, wr0_7, rd0_8, wr0_8, rd0_9, wr0_9, rd0_10, wr0_10, rd0_11, wr0_11, rd0_12, wr0_12, rd0_13, wr0_13, rd0_14, wr0_14, rd0_15, wr0_15, rd0_16, wr0_16, rd1_0, wr1_0, rd1_1, wr1_1, rd4_0, wr4_0, wI_1, r0, r1, r12, r13, r41, r42, wI_w, e2, e3, e4, e5, e6, bI_e0, Classical.not_not, if_true, if_false] at h1
    refine ⟨⟨Nat.zero_le _, Nat.zero_le _⟩, by decide, ?_, ?_⟩
    · simp [-Int32.not_le, -Int32.not_lt, bI, h1]
    · show (S, _, J) = (S, _, J)
      first | rfl | simp [-Int32.not_le, -Int32.not_lt, bI, h1]
  · refine ⟨by first | (simp only [wI_1, r0, r1, r12, r13, r41, r42, k0, k1, k2, k3, k4, k5, k6] <;> first | rfl | decide) | decide, ?_⟩
    refine ⟨⟨Nat.le_of_ble_eq_true rfl, Nat.le_of_ble_eq_true rfl, Nat.le_of_ble_eq_true rfl⟩, by first | (simp only [wI_1, r0, r1, r12, r13, r41, r42, k0, k1, k2, k3, k4, k5, k6] <;> first | rfl | decide) | decide, _, by simp only [e2, e3, e4, e5, e6]; exact T_hasSlot hS r0, ?_⟩
    rintro _ _ ⟨rfl, rfl⟩
    refine ⟨Or.inl rfl, ?_⟩
    refine ⟨fun h2 => ?_, fun h2 => ?_⟩
    · try simp only [wI_M, tk_0, tk_1, tk_2, tk_3, tk_4, tk_5, tk_6, tk_7, tk_8, tk_9, tk_10, tk_11, tk_12, tk_13, tk_14, tk_15, tk_16, tk_17, rd0_2, wr0_2, rd0_3, wr0_3, rd0_4, wr0_4, rd0_5, wr0_5, rd0_6, wr0_6, rd0_7, wr0_7, rd0_8, wr0_8, rd0_9, wr0_9, rd0_10, wr0_10, rd0_11, wr0_11, rd0_12, wr0_12, rd0_13, wr0_13, rd0_14, wr0_14, rd0_15, wr0_15, rd0_16, wr0_16, rd1_0, wr1_0, rd1_1, wr1_1, rd4_0, wr4_0, wI_1, r0, r1, r12, r13, r41, r42, wI_w, e2, e3, e4, e5, e6, bI_e0, Classical.not_not, if_true, if_false] at h1 h2
      refine ⟨⟨Nat.zero_le _, Nat.zero_le _⟩, by decide, ?_, ?_⟩
      · simp [-Int32.not_le, -Int32.not_lt, bI, h1, h2]
      · show (S, _, J) = (S, _, J)
        first | rfl | simp [-Int32.not_le, -Int32.not_lt, bI, h1, h2]
    · refine ⟨by first | (simp only [wI_1, r0, r1, r12, r13, r41, r42, k0, k1, k2, k3, k4, k5, k6] <;> first | rfl | decide) | decide, ?_⟩
      refine ⟨⟨Nat.le_of_ble_eq_true rfl, Nat.le_of_ble_eq_true rfl, Nat.le_of_ble_eq_true rfl⟩, by first | (simp only [wI_1, r0, r1, r12, r13, r41, r42, k0, k1, k2, k3, k4, k5, k6] <;> first | rfl | decide) | decide, _, by simp only [e2, e3, e4, e5, e6]; exact T_spokenBy hS r0 (by omega), ?_⟩
      rintro _ _ ⟨rfl, rfl⟩
      refine ⟨Or.inl rfl, ?_⟩
      refine ⟨fun h3 => ?_, fun h3 => ?_⟩
      · try simp only [wI_M, tk_0, tk_1, tk_2, tk_3, tk_4, tk_5, tk_6, tk_7, tk_8, tk_9, tk_10, tk_11, tk_12, tk_13, tk_14, tk_15, tk_16, tk_17, rd0_2, wr0_2, rd0_3, wr0_3, rd0_4, wr0_4, rd0_5, wr0_5, rd0_6, wr0_6, rd0_7, wr0_7, rd0_8, wr0_8, rd0_9, wr0_9, rd0_10, wr0_10, rd0_11, wr0_11, rd0_12, wr0_12, rd0_13, wr0_13, rd0_14, wr0_14, rd0_15, wr0_15, rd0_16, wr0_16, rd1_0, wr1_0, rd1_1, wr1_1, rd4_0, wr4_0, wI_1, r0, r1, r12, r13, r41, r42, wI_w, e2, e3, e4, e5, e6, bI_e0, Classical.not_not, if_true, if_false] at h1 h2 h3
        refine ⟨⟨Nat.zero_le _, Nat.zero_le _⟩, by decide, ?_, ?_⟩
        · simp [-Int32.not_le, -Int32.not_lt, bI, h1, h2, h3]
        · show (S, _, J) = (S, _, J)
          first | rfl | simp [-Int32.not_le, -Int32.not_lt, bI, h1, h2, h3]
      · try simp only [wI_M, tk_0, tk_1, tk_2, tk_3, tk_4, tk_5, tk_6, tk_7, tk_8, tk_9, tk_10, tk_11, tk_12, tk_13, tk_14, tk_15, tk_16, tk_17, rd0_2, wr0_2, rd0_3, wr0_3, rd0_4, wr0_4, rd0_5, wr0_5, rd0_6, wr0_6, rd0_7, wr0_7, rd0_8, wr0_8, rd0_9, wr0_9, rd0_10, wr0_10, rd0_11, wr0_11, rd0_12, wr0_12, rd0_13, wr0_13, rd0_14, wr0_14, rd0_15, wr0_15, rd0_16, wr0_16, rd1_0, wr1_0, rd1_1, wr1_1, rd4_0, wr4_0, wI_1, r0, r1, r12, r13, r41, r42, wI_w, e2, e3, e4, e5, e6, bI_e0, Classical.not_not, if_true, if_false] at h1 h2 h3
        refine ⟨⟨Nat.zero_le _, Nat.zero_le _⟩, by decide, ?_, ?_⟩
        · simp [-Int32.not_le, -Int32.not_lt, bI, h1, h2, h3]
        · show (S, _, J) = (S, _, J)
          first | rfl | simp [-Int32.not_le, -Int32.not_lt, bI, h1, h2, h3]
set_option maxHeartbeats 1000000 in
theorem T_og8 {d : Nat} {S : Sc} {M : Nat → Nat → Int32} {J : Nat → Nat → Int64} {b : Nat} {σ : Rw} (hS : OdS S b) {g : Nat} {B : Nat} (hI : Inv B σ) (hB : B < 1073741824) (hg : g < 10000) (hk : g / 1000 = 8) : Wp (d + 7) 35 [.ref b, .int (nI g)] (S, sO M b σ, J) (fun rs w' => rs = .inl (some (.int (bI ((nI (g / 100 % 10)) = 0 ∧ ¬ (nI (g % 100)) < cMx σ (3 * (σ 0).toNatClampNeg) - cMn σ (3 * (σ 0).toNatClampNeg))))) ∧ w' = (S, sO M b (σ), J)) := by
  obtain ⟨⟨k0, k1, k2, k3, k4, k5, k6⟩, ⟨r0, r1, r12, r13, r41, r42⟩, l2, l3, l5, l6⟩ := id hS
  obtain ⟨hok, hBk, hK, hC, h4_, h6_, h1_, n, hn, h17, hD⟩ := id hI
  have e2 : nI g / 100 - nI g / 100 / 10 * 10 = nI (g / 100 % 10) := by rw [o_100, o_10, pk_div (by omega) (by omega) (by omega), pk_rem (by omega) (by omega) (by omega)]
  have e3 : nI g / 10 - nI g / 10 / 10 * 10 = nI (g / 10 % 10) := by rw [o_10, pk_div (by omega) (by omega) (by omega), pk_rem (by omega) (by omega) (by omega)]
  have e4 : nI g - nI g / 10 * 10 = nI (g % 10) := by rw [o_10, pk_rem (by omega) (by omega) (by omega)]
  have e5 : nI g - nI g / 1000 * 1000 = nI (g % 1000) := by rw [o_1000, pk_rem (by omega) (by omega) (by omega)]
  have e6 : nI g - nI g / 100 * 100 = nI (g % 100) := by rw [o_100, pk_rem (by omega) (by omega) (by omega)]
  have hv : nI g / 1000 = nI (g / 1000) := by rw [o_1000, pk_div (by omega) (by omega) (by omega)]
  rw [hk] at hv
  obtain ⟨n0, cur, g3, g12, _, g0, _⟩ := id hok
  have gz : (σ 0).toNatClampNeg = n0 := by rw [g0, ck (by omega)]
  rw [gz]
  refine ⟨rfl, ?_⟩
  refine EE.runN (stop := noStop) 100 _ ?_
  refine ⟨by first | decide | first | (simp only [wI_1, r0, r1, r12, r13, r41, r42, k0, k1, k2, k3, k4, k5, k6] <;> first | rfl | decide) | decide, ?_⟩
  refine ⟨by first | decide | first | (simp only [wI_1, r0, r1, r12, r13, r41, r42, k0, k1, k2, k3, k4, k5, k6] <;> first | rfl | decide) | decide, ?_⟩
  refine ⟨by first | decide | first | (simp only [wI_1, r0, r1, r12, r13, r41, r42, k0, k1, k2, k3, k4, k5, k6] <;> first | rfl | decide) | decide, ?_⟩
  refine ⟨by first | decide | first | (simp only [wI_1, r0, r1, r12, r13, r41, r42, k0, k1, k2, k3, k4, k5, k6] <;> first | rfl | decide) | decide, ?_⟩
  refine ⟨by first | decide | first | (simp only [wI_1, r0, r1, r12, r13, r41, r42, k0, k1, k2, k3, k4, k5, k6] <;> first | rfl | decide) | decide, ?_⟩
  refine ⟨by first | decide | first | (simp only [wI_1, r0, r1, r12, r13, r41, r42, k0, k1, k2, k3, k4, k5, k6] <;> first | rfl | decide) | decide, ?_⟩
  refine ⟨fun h => absurd ((hv).symm.trans h) (by decide), fun _ => ?_⟩
  refine ⟨fun h => absurd ((hv).symm.trans h) (by decide), fun _ => ?_⟩
  refine ⟨fun h => absurd ((hv).symm.trans h) (by decide), fun _ => ?_⟩
  refine ⟨fun h => absurd ((hv).symm.trans h) (by decide), fun _ => ?_⟩
  refine ⟨fun h => absurd ((hv).symm.trans h) (by decide), fun _ => ?_⟩
  refine ⟨fun h => absurd ((hv).symm.trans h) (by decide), fun _ => ?_⟩
  refine ⟨fun h => absurd ((hv).symm.trans h) (by decide), fun _ => ?_⟩
  refine ⟨fun _ => ?_, fun h => absurd hv h⟩
  refine ⟨fun h1 => ?_, fun h1 => ?_⟩
  · try simp only [wI_M, tk_0, tk_1, tk_2, tk_3, tk_4, tk_5, tk_6, tk_7, tk_8, tk_9, tk_10, tk_11, tk_12, tk_13, tk_14, tk_15, tk_16, tk_17, rd0_2, wr0_2, rd0_3, wr0_3, rd0_4, wr0_4, rd0_5, wr0_5, rd0_6, wr0_6, rd0_7, wr0_7, rd0_8, wr0_8, rd0_9, wr0_9, rd0_10, wr0_10, rd0_11, wr0_11, rd0_12, wr0_12, rd0_13, wr0_13, rd0_14, wr0_14, rd0_15, wr0_15, rd0_16, wr0_16, rd1_0, wr1_0, rd1_1, wr1_1, rd4_0, wr4_0, wI_1, r0, r1, r12, r13, r41, r42, wI_w, e2, e3, e4, e5, e6, bI_e0, Classical.not_not, if_true, if_false] at h1
    refine ⟨⟨Nat.zero_le _, Nat.zero_le _⟩, by decide, ?_, ?_⟩
    · simp [-Int32.not_le, -Int32.not_lt, bI, h1]
    · show (S, _, J) = (S, _, J)
      first | rfl | simp [-Int32.not_le, -Int32.not_lt, bI, h1]
  · refine ⟨by first | (simp only [wI_1, r0, r1, r12, r13, r41, r42, k0, k1, k2, k3, k4, k5, k6] <;> first | rfl | decide) | decide, ?_⟩
    refine ⟨⟨Nat.le_of_ble_eq_true rfl, Nat.le_of_ble_eq_true rfl, Nat.le_of_ble_eq_true rfl⟩, by first | (simp only [wI_1, r0, r1, r12, r13, r41, r42, k0, k1, k2, k3, k4, k5, k6] <;> first | rfl | decide) | decide, _, T_wearGap hS r0 g0 g12, ?_⟩
    rintro _ _ ⟨rfl, rfl⟩
    refine ⟨Or.inl rfl, ?_⟩
    refine ⟨by first | decide | first | (simp only [wI_1, r0, r1, r12, r13, r41, r42, k0, k1, k2, k3, k4, k5, k6] <;> first | rfl | decide) | decide, ?_⟩
    refine ⟨fun h2 => ?_, fun h2 => ?_⟩
    · try simp only [wI_M, tk_0, tk_1, tk_2, tk_3, tk_4, tk_5, tk_6, tk_7, tk_8, tk_9, tk_10, tk_11, tk_12, tk_13, tk_14, tk_15, tk_16, tk_17, rd0_2, wr0_2, rd0_3, wr0_3, rd0_4, wr0_4, rd0_5, wr0_5, rd0_6, wr0_6, rd0_7, wr0_7, rd0_8, wr0_8, rd0_9, wr0_9, rd0_10, wr0_10, rd0_11, wr0_11, rd0_12, wr0_12, rd0_13, wr0_13, rd0_14, wr0_14, rd0_15, wr0_15, rd0_16, wr0_16, rd1_0, wr1_0, rd1_1, wr1_1, rd4_0, wr4_0, wI_1, r0, r1, r12, r13, r41, r42, wI_w, e2, e3, e4, e5, e6, bI_e0, Classical.not_not, if_true, if_false] at h1 h2
      refine ⟨⟨Nat.zero_le _, Nat.zero_le _⟩, by decide, ?_, ?_⟩
      · simp [-Int32.not_le, -Int32.not_lt, bI, h1, h2]
      · show (S, _, J) = (S, _, J)
        first | rfl | simp [-Int32.not_le, -Int32.not_lt, bI, h1, h2]
    · try simp only [wI_M, tk_0, tk_1, tk_2, tk_3, tk_4, tk_5, tk_6, tk_7, tk_8, tk_9, tk_10, tk_11, tk_12, tk_13, tk_14, tk_15, tk_16, tk_17, rd0_2, wr0_2, rd0_3, wr0_3, rd0_4, wr0_4, rd0_5, wr0_5, rd0_6, wr0_6, rd0_7, wr0_7, rd0_8, wr0_8, rd0_9, wr0_9, rd0_10, wr0_10, rd0_11, wr0_11, rd0_12, wr0_12, rd0_13, wr0_13, rd0_14, wr0_14, rd0_15, wr0_15, rd0_16, wr0_16, rd1_0, wr1_0, rd1_1, wr1_1, rd4_0, wr4_0, wI_1, r0, r1, r12, r13, r41, r42, wI_w, e2, e3, e4, e5, e6, bI_e0, Classical.not_not, if_true, if_false] at h1 h2
      refine ⟨⟨Nat.zero_le _, Nat.zero_le _⟩, by decide, ?_, ?_⟩
      · simp [-Int32.not_le, -Int32.not_lt, bI, h1, h2]
      · show (S, _, J) = (S, _, J)
        first | rfl | simp [-Int32.not_le, -Int32.not_lt, bI, h1, h2]
set_option maxHeartbeats 1000000 in
theorem T_og9 {d : Nat} {S : Sc} {M : Nat → Nat → Int32} {J : Nat → Nat → Int64} {b : Nat} {σ : Rw} (hS : OdS S b) {g : Nat} {B : Nat} (hI : Inv B σ) (hB : B < 1073741824) (hg : g < 10000) (hk : g / 1000 = 9) : Wp (d + 7) 35 [.ref b, .int (nI g)] (S, sO M b σ, J) (fun rs w' => rs = .inl (some (.int (bI ((nI (g % 100)) = 0 ∧ ¬ σ 3 = 0 ∧ (¬ (nI (g / 100 % 10)) < 0 ∧ ¬ σ 0 ≤ (nI (g / 100 % 10))) ∧ ¬ (nI (g / 100 % 10)) = σ 7)))) ∧ w' = (S, sO M b (if (nI (g % 100)) = 0 ∧ ¬ σ 3 = 0 ∧ (¬ (nI (g / 100 % 10)) < 0 ∧ ¬ σ 0 ≤ (nI (g / 100 % 10))) ∧ ¬ (nI (g / 100 % 10)) = σ 7 then rRenew σ (g / 100 % 10) else σ), J)) := by
  obtain ⟨⟨k0, k1, k2, k3, k4, k5, k6⟩, ⟨r0, r1, r12, r13, r41, r42⟩, l2, l3, l5, l6⟩ := id hS
  obtain ⟨hok, hBk, hK, hC, h4_, h6_, h1_, n, hn, h17, hD⟩ := id hI
  have e2 : nI g / 100 - nI g / 100 / 10 * 10 = nI (g / 100 % 10) := by rw [o_100, o_10, pk_div (by omega) (by omega) (by omega), pk_rem (by omega) (by omega) (by omega)]
  have e3 : nI g / 10 - nI g / 10 / 10 * 10 = nI (g / 10 % 10) := by rw [o_10, pk_div (by omega) (by omega) (by omega), pk_rem (by omega) (by omega) (by omega)]
  have e4 : nI g - nI g / 10 * 10 = nI (g % 10) := by rw [o_10, pk_rem (by omega) (by omega) (by omega)]
  have e5 : nI g - nI g / 1000 * 1000 = nI (g % 1000) := by rw [o_1000, pk_rem (by omega) (by omega) (by omega)]
  have e6 : nI g - nI g / 100 * 100 = nI (g % 100) := by rw [o_100, pk_rem (by omega) (by omega) (by omega)]
  have hv : nI g / 1000 = nI (g / 1000) := by rw [o_1000, pk_div (by omega) (by omega) (by omega)]
  rw [hk] at hv
  refine ⟨rfl, ?_⟩
  refine EE.runN (stop := noStop) 100 _ ?_
  refine ⟨by first | decide | first | (simp only [wI_1, r0, r1, r12, r13, r41, r42, k0, k1, k2, k3, k4, k5, k6] <;> first | rfl | decide) | decide, ?_⟩
  refine ⟨by first | decide | first | (simp only [wI_1, r0, r1, r12, r13, r41, r42, k0, k1, k2, k3, k4, k5, k6] <;> first | rfl | decide) | decide, ?_⟩
  refine ⟨by first | decide | first | (simp only [wI_1, r0, r1, r12, r13, r41, r42, k0, k1, k2, k3, k4, k5, k6] <;> first | rfl | decide) | decide, ?_⟩
  refine ⟨by first | decide | first | (simp only [wI_1, r0, r1, r12, r13, r41, r42, k0, k1, k2, k3, k4, k5, k6] <;> first | rfl | decide) | decide, ?_⟩
  refine ⟨by first | decide | first | (simp only [wI_1, r0, r1, r12, r13, r41, r42, k0, k1, k2, k3, k4, k5, k6] <;> first | rfl | decide) | decide, ?_⟩
  refine ⟨by first | decide | first | (simp only [wI_1, r0, r1, r12, r13, r41, r42, k0, k1, k2, k3, k4, k5, k6] <;> first | rfl | decide) | decide, ?_⟩
  refine ⟨fun h => absurd ((hv).symm.trans h) (by decide), fun _ => ?_⟩
  refine ⟨fun h => absurd ((hv).symm.trans h) (by decide), fun _ => ?_⟩
  refine ⟨fun h => absurd ((hv).symm.trans h) (by decide), fun _ => ?_⟩
  refine ⟨fun h => absurd ((hv).symm.trans h) (by decide), fun _ => ?_⟩
  refine ⟨fun h => absurd ((hv).symm.trans h) (by decide), fun _ => ?_⟩
  refine ⟨fun h => absurd ((hv).symm.trans h) (by decide), fun _ => ?_⟩
  refine ⟨fun h => absurd ((hv).symm.trans h) (by decide), fun _ => ?_⟩
  refine ⟨fun h => absurd ((hv).symm.trans h) (by decide), fun _ => ?_⟩
  refine ⟨fun _ => ?_, fun h => absurd hv h⟩
  refine ⟨by first | decide | first | (simp only [wI_1, r0, r1, r12, r13, r41, r42, k0, k1, k2, k3, k4, k5, k6] <;> first | rfl | decide) | decide, ?_⟩
  refine ⟨fun h1 => ?_, fun h1 => ?_⟩
  · try simp only [wI_M, tk_0, tk_1, tk_2, tk_3, tk_4, tk_5, tk_6, tk_7, tk_8, tk_9, tk_10, tk_11, tk_12, tk_13, tk_14, tk_15, tk_16, tk_17, rd0_2, wr0_2, rd0_3, wr0_3, rd0_4, wr0_4, rd0_5, wr0_5, rd0_6, wr0_6, rd0_7, wr0_7, rd0_8, wr0_8, rd0_9, wr0_9, rd0_10, wr0_10, rd0_11, wr0_11, rd0_12, wr0_12, rd0_13, wr0_13, rd0_14, wr0_14, rd0_15, wr0_15, rd0_16, wr0_16, rd1_0, wr1_0, rd1_1, wr1_1, rd4_0, wr4_0, wI_1, r0, r1, r12, r13, r41, r42, wI_w, e2, e3, e4, e5, e6, bI_e0, Classical.not_not, if_true, if_false] at h1
    refine ⟨⟨Nat.zero_le _, Nat.zero_le _⟩, by decide, ?_, ?_⟩
    · simp [-Int32.not_le, -Int32.not_lt, bI, h1]
    · show (S, _, J) = (S, _, J)
      first | rfl | simp [-Int32.not_le, -Int32.not_lt, bI, h1]
  · refine ⟨⟨Nat.le_of_ble_eq_true rfl, Nat.le_of_ble_eq_true rfl, Nat.le_of_ble_eq_true rfl⟩, by first | (simp only [wI_1, r0, r1, r12, r13, r41, r42, k0, k1, k2, k3, k4, k5, k6] <;> first | rfl | decide) | decide, _, by (try simp only [e2, e3, e4, e5, e6]); exact T_obey_r hS (by omega) hI hB, ?_⟩
    rintro _ _ ⟨rfl, rfl⟩
    refine ⟨Or.inl rfl, ?_⟩
    refine ⟨fun h2 => ?_, fun h2 => ?_⟩
    · try simp only [wI_M, tk_0, tk_1, tk_2, tk_3, tk_4, tk_5, tk_6, tk_7, tk_8, tk_9, tk_10, tk_11, tk_12, tk_13, tk_14, tk_15, tk_16, tk_17, rd0_2, wr0_2, rd0_3, wr0_3, rd0_4, wr0_4, rd0_5, wr0_5, rd0_6, wr0_6, rd0_7, wr0_7, rd0_8, wr0_8, rd0_9, wr0_9, rd0_10, wr0_10, rd0_11, wr0_11, rd0_12, wr0_12, rd0_13, wr0_13, rd0_14, wr0_14, rd0_15, wr0_15, rd0_16, wr0_16, rd1_0, wr1_0, rd1_1, wr1_1, rd4_0, wr4_0, wI_1, r0, r1, r12, r13, r41, r42, wI_w, e2, e3, e4, e5, e6, bI_e0, Classical.not_not, if_true, if_false] at h1 h2
      refine ⟨⟨Nat.zero_le _, Nat.zero_le _⟩, by decide, ?_, ?_⟩
      · simp [-Int32.not_le, -Int32.not_lt, bI, h1, h2]
      · show (S, _, J) = (S, _, J)
        first | rfl | simp [-Int32.not_le, -Int32.not_lt, bI, h1, h2]
    · try simp only [wI_M, tk_0, tk_1, tk_2, tk_3, tk_4, tk_5, tk_6, tk_7, tk_8, tk_9, tk_10, tk_11, tk_12, tk_13, tk_14, tk_15, tk_16, tk_17, rd0_2, wr0_2, rd0_3, wr0_3, rd0_4, wr0_4, rd0_5, wr0_5, rd0_6, wr0_6, rd0_7, wr0_7, rd0_8, wr0_8, rd0_9, wr0_9, rd0_10, wr0_10, rd0_11, wr0_11, rd0_12, wr0_12, rd0_13, wr0_13, rd0_14, wr0_14, rd0_15, wr0_15, rd0_16, wr0_16, rd1_0, wr1_0, rd1_1, wr1_1, rd4_0, wr4_0, wI_1, r0, r1, r12, r13, r41, r42, wI_w, e2, e3, e4, e5, e6, bI_e0, Classical.not_not, if_true, if_false] at h1 h2
      refine ⟨⟨Nat.zero_le _, Nat.zero_le _⟩, by decide, ?_, ?_⟩
      · simp [-Int32.not_le, -Int32.not_lt, bI, h1, h2]
      · show (S, _, J) = (S, _, J)
        first | rfl | simp [-Int32.not_le, -Int32.not_lt, bI, h1, h2]
