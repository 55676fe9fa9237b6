/-! THE REFERENCE: scripts and simulations: written by wip/whole/pure3.py -/
theorem slot_i {a n : Nat} (ha : a < 1000000) (hn : n < 1000000) : (¬ nI a < 0 ∧ ¬ nI n ≤ nI a) ↔ a < n := by
  rw [nI_leI (by omega) (by omega)]
  exact ⟨fun h => Nat.lt_of_not_le h.2, fun h => ⟨nI_pos (by omega), Nat.not_le.mpr h⟩⟩
theorem cut_i {a c : Nat} (ha : a ≤ 9) (hc : c ≤ 9) : (¬ nI a < 1 ∧ ¬ 36 < nI a ∧ ¬ nI c < 0 ∧ ¬ 2 < nI c) ↔ (1 ≤ a ∧ c ≤ 2) := by
  rw [lt1 (by omega), o_36, nI_ltI (by omega) (by omega), o_2, nI_ltI (by omega) (by omega)]
  exact ⟨fun h => ⟨h.1, by omega⟩, fun h => ⟨h.1, by omega, nI_pos (by omega), by omega⟩⟩
theorem step_i {a : Nat} (ha : a < 100) : (¬ nI a < 1 ∧ ¬ 99 < nI a) ↔ 1 ≤ a := by
  rw [lt1 (by omega), show (99 : Int32) = nI 99 from rfl, nI_ltI (by omega) (by omega)]
  exact ⟨fun h => h.1, fun h => ⟨h, by omega⟩⟩
set_option maxHeartbeats 2000000 in
theorem T_do1 {d : Nat} {S : Sc} {M : Nat → Nat → Int32} {J : Nat → Nat → Int64} {τ : Rw} {g n BB : Nat} (hM : MoS S) (h0 : M 139 0 = nI n) (hI : I2 BB τ) (h0t : τ 0 = nI n) (hn3 : 3 ≤ n) (hn : n ≤ 12) (hg : g < 10000) (hk : g / 1000 = 1) : Wp (d + 8) 164 [.ref 137, .int (nI g)] (S, upA M 140 τ, J) (fun rs w' => rs = .inl (some (.int (gAns τ g 1))) ∧ w' = (S, upA M 140 (gRow τ g 1), J)) := by
  obtain ⟨⟨b137, p1, p8, p9, p10, p12, p13⟩, ⟨b138, b139, b140, b141, b142, b143⟩, n138, n139, n140, n141, n142, n143⟩ := id hM
  have e2 : nI g / 100 - nI g / 100 / 10 * 10 = nI (g / 100 % 10) := by rw [o_100, o_10, pk_div (by omega) (by omega) (by omega), pk_rem (by omega) (by omega) (by omega)]
  have e3 : nI g / 10 - nI g / 10 / 10 * 10 = nI (g / 10 % 10) := by rw [o_10, pk_div (by omega) (by omega) (by omega), pk_rem (by omega) (by omega) (by omega)]
  have e4 : nI g - nI g / 10 * 10 = nI (g % 10) := by rw [o_10, pk_rem (by omega) (by omega) (by omega)]
  have e5 : nI g - nI g / 1000 * 1000 = nI (g % 1000) := by rw [o_1000, pk_rem (by omega) (by omega) (by omega)]
  have e7 : 10 * nI (g / 10 % 10) + nI (g % 10) = nI (g % 100) := by rw [o_10, pk_mul, nI_add]; congr 1; omega
  have hv : nI g / 1000 = nI (g / 1000) := by rw [o_1000, pk_div (by omega) (by omega) (by omega)]
  rw [hk] at hv
  have hB3 := bok3 hI.1.2.1
  have hcn := hI.cnt
  have e139 : upA M 140 τ 139 0 = nI n := (congrFun (upA_n _ _ (by omega)) 0).trans h0
  have hz : (τ 0).toNatClampNeg = n := by rw [h0t, ck (by omega)]
  refine ⟨rfl, ?_⟩
  refine EE.runN (stop := noStop) 120 _ ?_
  refine ⟨by first | decide | first | (simp only [wI_1, wI_w, p1, p8, p9, p10, p12, p13, b137, b138, b139, b140, b141, b142, b143] <;> first | rfl | decide) | decide, ?_⟩
  refine ⟨by first | decide | first | (simp only [wI_1, wI_w, p1, p8, p9, p10, p12, p13, b137, b138, b139, b140, b141, b142, b143] <;> first | rfl | decide) | decide, ?_⟩
  refine ⟨by first | decide | first | (simp only [wI_1, wI_w, p1, p8, p9, p10, p12, p13, b137, b138, b139, b140, b141, b142, b143] <;> first | rfl | decide) | decide, ?_⟩
  refine ⟨by first | decide | first | (simp only [wI_1, wI_w, p1, p8, p9, p10, p12, p13, b137, b138, b139, b140, b141, b142, b143] <;> first | rfl | decide) | decide, ?_⟩
  refine ⟨by first | decide | first | (simp only [wI_1, wI_w, p1, p8, p9, p10, p12, p13, b137, b138, b139, b140, b141, b142, b143] <;> first | rfl | decide) | decide, ?_⟩
  refine ⟨by first | decide | first | (simp only [wI_1, wI_w, p1, p8, p9, p10, p12, p13, b137, b138, b139, b140, b141, b142, b143] <;> first | rfl | decide) | decide, ?_⟩
  refine ⟨by first | decide | first | (simp only [wI_1, wI_w, p1, p8, p9, p10, p12, p13, b137, b138, b139, b140, b141, b142, b143] <;> first | rfl | decide) | decide, ?_⟩
  refine ⟨fun _ => ?_, fun h => absurd hv h⟩
  refine ⟨fun h1 => ?_, fun h1 => ?_⟩
  · (try simp only [wI_1, wI_w, p1, p8, p9, p10, p12, p13, e2, e3, e4, e5, e7, bI_e0, Classical.not_not, upA_s, tk_0, tk_1, tk_2, tk_3, tk_4, tk_5, tk_6, tk_7, tk_8, tk_9, tk_10, tk_11, tk_12, tk_13, tk_14, tk_15, tk_16, tk_17] at h1)
    have hP : ¬ (0 < g % 1000 ∧ τ 3 = 1) := fun h => by have h_ := h1; rw [o_0, nI_leI (by omega) (by omega)] at h_; omega
    refine ⟨⟨Nat.zero_le _, Nat.zero_le _⟩, by decide, congrArg (fun v => Sum.inl (some (Value.int v))) (bI_f hP).symm, ?_⟩
    refine congrArg (fun m => (S, m, J)) ?_
    (try simp only [wI_1, wI_w, p1, p8, p9, p10, p12, p13, e2, e3, e4, e5, e7, upA_s, upA_uu, wI_M, wI_w, tk_0, tk_1, tk_2, tk_3, tk_4, tk_5, tk_6, tk_7, tk_8, tk_9, tk_10, tk_11, tk_12, tk_13, tk_14, tk_15, tk_16, tk_17])
    refine congrArg (upA M 140) ?_
    exact (if_neg hP).symm
  · refine ⟨by first | (simp only [wI_1, wI_w, p1, p8, p9, p10, p12, p13, b137, b138, b139, b140, b141, b142, b143] <;> first | rfl | decide) | decide, ?_⟩
    refine ⟨⟨Nat.le_of_ble_eq_true rfl, Nat.le_of_ble_eq_true rfl, Nat.le_of_ble_eq_true rfl⟩, _, by simp only [wI_1, wI_w, p1, p8, p9, p10, p12, p13, e2, e3, e4, e5, e7, bI_e0, Classical.not_not, upA_s, tk_0, tk_1, tk_2, tk_3, tk_4, tk_5, tk_6, tk_7, tk_8, tk_9, tk_10, tk_11, tk_12, tk_13, tk_14, tk_15, tk_16, tk_17]; exact T_doDrive (t := g % 1000) hM.trial (by omega) (by rw [upA_s]; exact hI.1.1), ?_⟩
    rintro _ w1 ⟨rfl, hw⟩
    have hw : w1 = (S, upA M 140 (rDoDrive τ (g % 1000)), J) := by rw [hw, upA_s, upA_uu]
    subst hw
    rw [upA_s]
    refine ⟨Or.inl rfl, ?_⟩
    refine ⟨fun h2 => ?_, fun h2 => ?_⟩
    · (try simp only [wI_1, wI_w, p1, p8, p9, p10, p12, p13, e2, e3, e4, e5, e7, bI_e0, Classical.not_not, upA_s, tk_0, tk_1, tk_2, tk_3, tk_4, tk_5, tk_6, tk_7, tk_8, tk_9, tk_10, tk_11, tk_12, tk_13, tk_14, tk_15, tk_16, tk_17] at h1)
      (try simp only [wI_1, wI_w, p1, p8, p9, p10, p12, p13, e2, e3, e4, e5, e7, bI_e0, Classical.not_not, upA_s, tk_0, tk_1, tk_2, tk_3, tk_4, tk_5, tk_6, tk_7, tk_8, tk_9, tk_10, tk_11, tk_12, tk_13, tk_14, tk_15, tk_16, tk_17] at h2)
      have hP : ¬ (0 < g % 1000 ∧ τ 3 = 1) := fun h => by have h_ := h.2; rw [h2] at h_; exact absurd h_ (by decide)
      refine ⟨⟨Nat.zero_le _, Nat.zero_le _⟩, by decide, congrArg (fun v => Sum.inl (some (Value.int v))) (bI_f hP).symm, ?_⟩
      refine congrArg (fun m => (S, m, J)) ?_
      (try simp only [wI_1, wI_w, p1, p8, p9, p10, p12, p13, e2, e3, e4, e5, e7, upA_s, upA_uu, wI_M, wI_w, tk_0, tk_1, tk_2, tk_3, tk_4, tk_5, tk_6, tk_7, tk_8, tk_9, tk_10, tk_11, tk_12, tk_13, tk_14, tk_15, tk_16, tk_17])
      refine congrArg (upA M 140) ?_
      exact (if_pos h2).trans (if_neg hP).symm
    · (try simp only [wI_1, wI_w, p1, p8, p9, p10, p12, p13, e2, e3, e4, e5, e7, bI_e0, Classical.not_not, upA_s, tk_0, tk_1, tk_2, tk_3, tk_4, tk_5, tk_6, tk_7, tk_8, tk_9, tk_10, tk_11, tk_12, tk_13, tk_14, tk_15, tk_16, tk_17] at h1)
      (try simp only [wI_1, wI_w, p1, p8, p9, p10, p12, p13, e2, e3, e4, e5, e7, bI_e0, Classical.not_not, upA_s, tk_0, tk_1, tk_2, tk_3, tk_4, tk_5, tk_6, tk_7, tk_8, tk_9, tk_10, tk_11, tk_12, tk_13, tk_14, tk_15, tk_16, tk_17] at h2)
      have hP : (0 < g % 1000 ∧ τ 3 = 1) := ⟨by have h_ := h1; rw [o_0, nI_leI (by omega) (by omega)] at h_; omega, hB3.mpr h2⟩
      refine ⟨⟨Nat.zero_le _, Nat.zero_le _⟩, by decide, congrArg (fun v => Sum.inl (some (Value.int v))) (bI_t hP).symm, ?_⟩
      refine congrArg (fun m => (S, m, J)) ?_
      (try simp only [wI_1, wI_w, p1, p8, p9, p10, p12, p13, e2, e3, e4, e5, e7, upA_s, upA_uu, wI_M, wI_w, tk_0, tk_1, tk_2, tk_3, tk_4, tk_5, tk_6, tk_7, tk_8, tk_9, tk_10, tk_11, tk_12, tk_13, tk_14, tk_15, tk_16, tk_17])
      refine congrArg (upA M 140) ?_
      exact (if_neg h2).trans (if_pos hP).symm
set_option maxHeartbeats 2000000 in
theorem T_do2 {d : Nat} {S : Sc} {M : Nat → Nat → Int32} {J : Nat → Nat → Int64} {τ : Rw} {g n BB : Nat} (hM : MoS S) (h0 : M 139 0 = nI n) (hI : I2 BB τ) (h0t : τ 0 = nI n) (hn3 : 3 ≤ n) (hn : n ≤ 12) (hg : g < 10000) (hk : g / 1000 = 2) : Wp (d + 8) 164 [.ref 137, .int (nI g)] (S, upA M 140 τ, J) (fun rs w' => rs = .inl (some (.int (gAns τ g 2))) ∧ w' = (S, upA M 140 (gRow τ g 2), J)) := by
  obtain ⟨⟨b137, p1, p8, p9, p10, p12, p13⟩, ⟨b138, b139, b140, b141, b142, b143⟩, n138, n139, n140, n141, n142, n143⟩ := id hM
  have e2 : nI g / 100 - nI g / 100 / 10 * 10 = nI (g / 100 % 10) := by rw [o_100, o_10, pk_div (by omega) (by omega) (by omega), pk_rem (by omega) (by omega) (by omega)]
  have e3 : nI g / 10 - nI g / 10 / 10 * 10 = nI (g / 10 % 10) := by rw [o_10, pk_div (by omega) (by omega) (by omega), pk_rem (by omega) (by omega) (by omega)]
  have e4 : nI g - nI g / 10 * 10 = nI (g % 10) := by rw [o_10, pk_rem (by omega) (by omega) (by omega)]
  have e5 : nI g - nI g / 1000 * 1000 = nI (g % 1000) := by rw [o_1000, pk_rem (by omega) (by omega) (by omega)]
  have e7 : 10 * nI (g / 10 % 10) + nI (g % 10) = nI (g % 100) := by rw [o_10, pk_mul, nI_add]; congr 1; omega
  have hv : nI g / 1000 = nI (g / 1000) := by rw [o_1000, pk_div (by omega) (by omega) (by omega)]
  rw [hk] at hv
  have hB3 := bok3 hI.1.2.1
  have hcn := hI.cnt
  have e139 : upA M 140 τ 139 0 = nI n := (congrFun (upA_n _ _ (by omega)) 0).trans h0
  have hz : (τ 0).toNatClampNeg = n := by rw [h0t, ck (by omega)]
  refine ⟨rfl, ?_⟩
  refine EE.runN (stop := noStop) 120 _ ?_
  refine ⟨by first | decide | first | (simp only [wI_1, wI_w, p1, p8, p9, p10, p12, p13, b137, b138, b139, b140, b141, b142, b143] <;> first | rfl | decide) | decide, ?_⟩
  refine ⟨by first | decide | first | (simp only [wI_1, wI_w, p1, p8, p9, p10, p12, p13, b137, b138, b139, b140, b141, b142, b143] <;> first | rfl | decide) | decide, ?_⟩
  refine ⟨by first | decide | first | (simp only [wI_1, wI_w, p1, p8, p9, p10, p12, p13, b137, b138, b139, b140, b141, b142, b143] <;> first | rfl | decide) | decide, ?_⟩
  refine ⟨by first | decide | first | (simp only [wI_1, wI_w, p1, p8, p9, p10, p12, p13, b137, b138, b139, b140, b141, b142, b143] <;> first | rfl | decide) | decide, ?_⟩
  refine ⟨by first | decide | first | (simp only [wI_1, wI_w, p1, p8, p9, p10, p12, p13, b137, b138, b139, b140, b141, b142, b143] <;> first | rfl | decide) | decide, ?_⟩
  refine ⟨by first | decide | first | (simp only [wI_1, wI_w, p1, p8, p9, p10, p12, p13, b137, b138, b139, b140, b141, b142, b143] <;> first | rfl | decide) | decide, ?_⟩
  refine ⟨by first | decide | first | (simp only [wI_1, wI_w, p1, p8, p9, p10, p12, p13, b137, b138, b139, b140, b141, b142, b143] <;> first | rfl | decide) | decide, ?_⟩
  refine ⟨fun h => absurd ((hv).symm.trans h) (by decide), fun _ => ?_⟩
  refine ⟨fun _ => ?_, fun h => absurd hv h⟩
  refine ⟨fun h1 => ?_, fun h1 => ?_⟩
  · (try simp only [wI_1, wI_w, p1, p8, p9, p10, p12, p13, e2, e3, e4, e5, e7, bI_e0, Classical.not_not, upA_s, tk_0, tk_1, tk_2, tk_3, tk_4, tk_5, tk_6, tk_7, tk_8, tk_9, tk_10, tk_11, tk_12, tk_13, tk_14, tk_15, tk_16, tk_17] at h1)
    have hP : ¬ (g / 100 % 10 = 0 ∧ (1 ≤ g / 10 % 10 ∧ g % 10 ≤ 2) ∧ τ 3 = 1) := fun h => h1 ((n0 (by omega)).mpr h.1)
    refine ⟨⟨Nat.zero_le _, Nat.zero_le _⟩, by decide, congrArg (fun v => Sum.inl (some (Value.int v))) (bI_f hP).symm, ?_⟩
    refine congrArg (fun m => (S, m, J)) ?_
    (try simp only [wI_1, wI_w, p1, p8, p9, p10, p12, p13, e2, e3, e4, e5, e7, upA_s, upA_uu, wI_M, wI_w, tk_0, tk_1, tk_2, tk_3, tk_4, tk_5, tk_6, tk_7, tk_8, tk_9, tk_10, tk_11, tk_12, tk_13, tk_14, tk_15, tk_16, tk_17])
    refine congrArg (upA M 140) ?_
    exact (if_neg hP).symm
  · refine ⟨⟨Nat.le_of_ble_eq_true rfl, Nat.le_of_ble_eq_true rfl, Nat.le_of_ble_eq_true rfl⟩, _, by simp only [e2, e3, e4, e5, e7]; exact T_mC, ?_⟩
    rintro _ w1 ⟨rfl, hw⟩
    subst hw
    (try rw [upA_s])
    refine ⟨Or.inl rfl, ?_⟩
    refine ⟨fun h2 => ?_, fun h2 => ?_⟩
    · (try simp only [wI_1, wI_w, p1, p8, p9, p10, p12, p13, e2, e3, e4, e5, e7, bI_e0, Classical.not_not, upA_s, tk_0, tk_1, tk_2, tk_3, tk_4, tk_5, tk_6, tk_7, tk_8, tk_9, tk_10, tk_11, tk_12, tk_13, tk_14, tk_15, tk_16, tk_17] at h1)
      (try simp only [wI_1, wI_w, p1, p8, p9, p10, p12, p13, e2, e3, e4, e5, e7, bI_e0, Classical.not_not, upA_s, tk_0, tk_1, tk_2, tk_3, tk_4, tk_5, tk_6, tk_7, tk_8, tk_9, tk_10, tk_11, tk_12, tk_13, tk_14, tk_15, tk_16, tk_17] at h2)
      have hP : ¬ (g / 100 % 10 = 0 ∧ (1 ≤ g / 10 % 10 ∧ g % 10 ≤ 2) ∧ τ 3 = 1) := fun h => h2 ((cut_i (by omega) (by omega)).mpr h.2.1)
      refine ⟨⟨Nat.zero_le _, Nat.zero_le _⟩, by decide, congrArg (fun v => Sum.inl (some (Value.int v))) (bI_f hP).symm, ?_⟩
      refine congrArg (fun m => (S, m, J)) ?_
      (try simp only [wI_1, wI_w, p1, p8, p9, p10, p12, p13, e2, e3, e4, e5, e7, upA_s, upA_uu, wI_M, wI_w, tk_0, tk_1, tk_2, tk_3, tk_4, tk_5, tk_6, tk_7, tk_8, tk_9, tk_10, tk_11, tk_12, tk_13, tk_14, tk_15, tk_16, tk_17])
      refine congrArg (upA M 140) ?_
      exact (if_neg hP).symm
    · refine ⟨by first | (simp only [wI_1, wI_w, p1, p8, p9, p10, p12, p13, b137, b138, b139, b140, b141, b142, b143] <;> first | rfl | decide) | decide, ?_⟩
      refine ⟨⟨Nat.le_of_ble_eq_true rfl, Nat.le_of_ble_eq_true rfl, Nat.le_of_ble_eq_true rfl⟩, _, by simp only [wI_1, wI_w, p1, p8, p9, p10, p12, p13, e2, e3, e4, e5, e7, bI_e0, Classical.not_not, upA_s, tk_0, tk_1, tk_2, tk_3, tk_4, tk_5, tk_6, tk_7, tk_8, tk_9, tk_10, tk_11, tk_12, tk_13, tk_14, tk_15, tk_16, tk_17]; exact T_doCut hM.trial, ?_⟩
      rintro _ w1 ⟨rfl, hw⟩
      have hw : w1 = (S, upA M 140 (rDoCut τ (nI (g / 10 % 10)) (nI (g % 10))), J) := by rw [hw, upA_s, upA_uu]
      subst hw
      rw [upA_s]
      refine ⟨Or.inl rfl, ?_⟩
      refine ⟨fun h3 => ?_, fun h3 => ?_⟩
      · (try simp only [wI_1, wI_w, p1, p8, p9, p10, p12, p13, e2, e3, e4, e5, e7, bI_e0, Classical.not_not, upA_s, tk_0, tk_1, tk_2, tk_3, tk_4, tk_5, tk_6, tk_7, tk_8, tk_9, tk_10, tk_11, tk_12, tk_13, tk_14, tk_15, tk_16, tk_17] at h1)
        (try simp only [wI_1, wI_w, p1, p8, p9, p10, p12, p13, e2, e3, e4, e5, e7, bI_e0, Classical.not_not, upA_s, tk_0, tk_1, tk_2, tk_3, tk_4, tk_5, tk_6, tk_7, tk_8, tk_9, tk_10, tk_11, tk_12, tk_13, tk_14, tk_15, tk_16, tk_17] at h2)
        (try simp only [wI_1, wI_w, p1, p8, p9, p10, p12, p13, e2, e3, e4, e5, e7, bI_e0, Classical.not_not, upA_s, tk_0, tk_1, tk_2, tk_3, tk_4, tk_5, tk_6, tk_7, tk_8, tk_9, tk_10, tk_11, tk_12, tk_13, tk_14, tk_15, tk_16, tk_17] at h3)
        have hP : ¬ (g / 100 % 10 = 0 ∧ (1 ≤ g / 10 % 10 ∧ g % 10 ≤ 2) ∧ τ 3 = 1) := fun h => by have h_ := h.2.2; rw [h3] at h_; exact absurd h_ (by decide)
        refine ⟨⟨Nat.zero_le _, Nat.zero_le _⟩, by decide, congrArg (fun v => Sum.inl (some (Value.int v))) (bI_f hP).symm, ?_⟩
        refine congrArg (fun m => (S, m, J)) ?_
        (try simp only [wI_1, wI_w, p1, p8, p9, p10, p12, p13, e2, e3, e4, e5, e7, upA_s, upA_uu, wI_M, wI_w, tk_0, tk_1, tk_2, tk_3, tk_4, tk_5, tk_6, tk_7, tk_8, tk_9, tk_10, tk_11, tk_12, tk_13, tk_14, tk_15, tk_16, tk_17])
        refine congrArg (upA M 140) ?_
        exact (if_pos h3).trans (if_neg hP).symm
      · (try simp only [wI_1, wI_w, p1, p8, p9, p10, p12, p13, e2, e3, e4, e5, e7, bI_e0, Classical.not_not, upA_s, tk_0, tk_1, tk_2, tk_3, tk_4, tk_5, tk_6, tk_7, tk_8, tk_9, tk_10, tk_11, tk_12, tk_13, tk_14, tk_15, tk_16, tk_17] at h1)
        (try simp only [wI_1, wI_w, p1, p8, p9, p10, p12, p13, e2, e3, e4, e5, e7, bI_e0, Classical.not_not, upA_s, tk_0, tk_1, tk_2, tk_3, tk_4, tk_5, tk_6, tk_7, tk_8, tk_9, tk_10, tk_11, tk_12, tk_13, tk_14, tk_15, tk_16, tk_17] at h2)
        (try simp only [wI_1, wI_w, p1, p8, p9, p10, p12, p13, e2, e3, e4, e5, e7, bI_e0, Classical.not_not, upA_s, tk_0, tk_1, tk_2, tk_3, tk_4, tk_5, tk_6, tk_7, tk_8, tk_9, tk_10, tk_11, tk_12, tk_13, tk_14, tk_15, tk_16, tk_17] at h3)
        have hP : (g / 100 % 10 = 0 ∧ (1 ≤ g / 10 % 10 ∧ g % 10 ≤ 2) ∧ τ 3 = 1) := ⟨(n0 (by omega)).mp h1, (cut_i (by omega) (by omega)).mp h2, hB3.mpr h3⟩
        refine ⟨⟨Nat.zero_le _, Nat.zero_le _⟩, by decide, congrArg (fun v => Sum.inl (some (Value.int v))) (bI_t hP).symm, ?_⟩
        refine congrArg (fun m => (S, m, J)) ?_
        (try simp only [wI_1, wI_w, p1, p8, p9, p10, p12, p13, e2, e3, e4, e5, e7, upA_s, upA_uu, wI_M, wI_w, tk_0, tk_1, tk_2, tk_3, tk_4, tk_5, tk_6, tk_7, tk_8, tk_9, tk_10, tk_11, tk_12, tk_13, tk_14, tk_15, tk_16, tk_17])
        refine congrArg (upA M 140) ?_
        exact (if_neg h3).trans (if_pos hP).symm
set_option maxHeartbeats 2000000 in
theorem T_do3 {d : Nat} {S : Sc} {M : Nat → Nat → Int32} {J : Nat → Nat → Int64} {τ : Rw} {g n BB : Nat} (hM : MoS S) (h0 : M 139 0 = nI n) (hI : I2 BB τ) (h0t : τ 0 = nI n) (hn3 : 3 ≤ n) (hn : n ≤ 12) (hg : g < 10000) (hk : g / 1000 = 3) : Wp (d + 8) 164 [.ref 137, .int (nI g)] (S, upA M 140 τ, J) (fun rs w' => rs = .inl (some (.int (gAns τ g 3))) ∧ w' = (S, upA M 140 (gRow τ g 3), J)) := by
  obtain ⟨⟨b137, p1, p8, p9, p10, p12, p13⟩, ⟨b138, b139, b140, b141, b142, b143⟩, n138, n139, n140, n141, n142, n143⟩ := id hM
  have e2 : nI g / 100 - nI g / 100 / 10 * 10 = nI (g / 100 % 10) := by rw [o_100, o_10, pk_div (by omega) (by omega) (by omega), pk_rem (by omega) (by omega) (by omega)]
  have e3 : nI g / 10 - nI g / 10 / 10 * 10 = nI (g / 10 % 10) := by rw [o_10, pk_div (by omega) (by omega) (by omega), pk_rem (by omega) (by omega) (by omega)]
  have e4 : nI g - nI g / 10 * 10 = nI (g % 10) := by rw [o_10, pk_rem (by omega) (by omega) (by omega)]
  have e5 : nI g - nI g / 1000 * 1000 = nI (g % 1000) := by rw [o_1000, pk_rem (by omega) (by omega) (by omega)]
  have e7 : 10 * nI (g / 10 % 10) + nI (g % 10) = nI (g % 100) := by rw [o_10, pk_mul, nI_add]; congr 1; omega
  have hv : nI g / 1000 = nI (g / 1000) := by rw [o_1000, pk_div (by omega) (by omega) (by omega)]
  rw [hk] at hv
  have hB3 := bok3 hI.1.2.1
  have hcn := hI.cnt
  have e139 : upA M 140 τ 139 0 = nI n := (congrFun (upA_n _ _ (by omega)) 0).trans h0
  have hz : (τ 0).toNatClampNeg = n := by rw [h0t, ck (by omega)]
  refine ⟨rfl, ?_⟩
  refine EE.runN (stop := noStop) 120 _ ?_
  refine ⟨by first | decide | first | (simp only [wI_1, wI_w, p1, p8, p9, p10, p12, p13, b137, b138, b139, b140, b141, b142, b143] <;> first | rfl | decide) | decide, ?_⟩
  refine ⟨by first | decide | first | (simp only [wI_1, wI_w, p1, p8, p9, p10, p12, p13, b137, b138, b139, b140, b141, b142, b143] <;> first | rfl | decide) | decide, ?_⟩
  refine ⟨by first | decide | first | (simp only [wI_1, wI_w, p1, p8, p9, p10, p12, p13, b137, b138, b139, b140, b141, b142, b143] <;> first | rfl | decide) | decide, ?_⟩
  refine ⟨by first | decide | first | (simp only [wI_1, wI_w, p1, p8, p9, p10, p12, p13, b137, b138, b139, b140, b141, b142, b143] <;> first | rfl | decide) | decide, ?_⟩
  refine ⟨by first | decide | first | (simp only [wI_1, wI_w, p1, p8, p9, p10, p12, p13, b137, b138, b139, b140, b141, b142, b143] <;> first | rfl | decide) | decide, ?_⟩
  refine ⟨by first | decide | first | (simp only [wI_1, wI_w, p1, p8, p9, p10, p12, p13, b137, b138, b139, b140, b141, b142, b143] <;> first | rfl | decide) | decide, ?_⟩
  refine ⟨by first | decide | first | (simp only [wI_1, wI_w, p1, p8, p9, p10, p12, p13, b137, b138, b139, b140, b141, b142, b143] <;> first | rfl | decide) | decide, ?_⟩
  refine ⟨fun h => absurd ((hv).symm.trans h) (by decide), fun _ => ?_⟩
  refine ⟨fun h => absurd ((hv).symm.trans h) (by decide), fun _ => ?_⟩
  refine ⟨fun _ => ?_, fun h => absurd hv h⟩
  refine ⟨fun h1 => ?_, fun h1 => ?_⟩
  · (try simp only [wI_1, wI_w, p1, p8, p9, p10, p12, p13, e2, e3, e4, e5, e7, bI_e0, Classical.not_not, upA_s, tk_0, tk_1, tk_2, tk_3, tk_4, tk_5, tk_6, tk_7, tk_8, tk_9, tk_10, tk_11, tk_12, tk_13, tk_14, tk_15, tk_16, tk_17] at h1)
    have hP : ¬ (g % 1000 = 0 ∧ ¬ τ 3 = 1) := fun h => h1 ((n0 (by omega)).mpr h.1)
    refine ⟨⟨Nat.zero_le _, Nat.zero_le _⟩, by decide, congrArg (fun v => Sum.inl (some (Value.int v))) (bI_f hP).symm, ?_⟩
    refine congrArg (fun m => (S, m, J)) ?_
    (try simp only [wI_1, wI_w, p1, p8, p9, p10, p12, p13, e2, e3, e4, e5, e7, upA_s, upA_uu, wI_M, wI_w, tk_0, tk_1, tk_2, tk_3, tk_4, tk_5, tk_6, tk_7, tk_8, tk_9, tk_10, tk_11, tk_12, tk_13, tk_14, tk_15, tk_16, tk_17])
    refine congrArg (upA M 140) ?_
    exact (if_neg hP).symm
  · refine ⟨by first | (simp only [wI_1, wI_w, p1, p8, p9, p10, p12, p13, b137, b138, b139, b140, b141, b142, b143] <;> first | rfl | decide) | decide, ?_⟩
    refine ⟨⟨Nat.le_of_ble_eq_true rfl, Nat.le_of_ble_eq_true rfl, Nat.le_of_ble_eq_true rfl⟩, _, by simp only [wI_1, wI_w, p1, p8, p9, p10, p12, p13, e2, e3, e4, e5, e7, bI_e0, Classical.not_not, upA_s, tk_0, tk_1, tk_2, tk_3, tk_4, tk_5, tk_6, tk_7, tk_8, tk_9, tk_10, tk_11, tk_12, tk_13, tk_14, tk_15, tk_16, tk_17]; exact T_doStart hM.trial (by rw [upA_s]; exact hI.1.1), ?_⟩
    rintro _ w1 ⟨rfl, hw⟩
    have hw : w1 = (S, upA M 140 (rDoStart τ), J) := by rw [hw, upA_s, upA_uu]
    subst hw
    rw [upA_s]
    refine ⟨Or.inl rfl, ?_⟩
    refine ⟨fun h2 => ?_, fun h2 => ?_⟩
    · (try simp only [wI_1, wI_w, p1, p8, p9, p10, p12, p13, e2, e3, e4, e5, e7, bI_e0, Classical.not_not, upA_s, tk_0, tk_1, tk_2, tk_3, tk_4, tk_5, tk_6, tk_7, tk_8, tk_9, tk_10, tk_11, tk_12, tk_13, tk_14, tk_15, tk_16, tk_17] at h1)
      (try simp only [wI_1, wI_w, p1, p8, p9, p10, p12, p13, e2, e3, e4, e5, e7, bI_e0, Classical.not_not, upA_s, tk_0, tk_1, tk_2, tk_3, tk_4, tk_5, tk_6, tk_7, tk_8, tk_9, tk_10, tk_11, tk_12, tk_13, tk_14, tk_15, tk_16, tk_17] at h2)
      have hP : ¬ (g % 1000 = 0 ∧ ¬ τ 3 = 1) := fun h => h.2 h2
      refine ⟨⟨Nat.zero_le _, Nat.zero_le _⟩, by decide, congrArg (fun v => Sum.inl (some (Value.int v))) (bI_f hP).symm, ?_⟩
      refine congrArg (fun m => (S, m, J)) ?_
      (try simp only [wI_1, wI_w, p1, p8, p9, p10, p12, p13, e2, e3, e4, e5, e7, upA_s, upA_uu, wI_M, wI_w, tk_0, tk_1, tk_2, tk_3, tk_4, tk_5, tk_6, tk_7, tk_8, tk_9, tk_10, tk_11, tk_12, tk_13, tk_14, tk_15, tk_16, tk_17])
      refine congrArg (upA M 140) ?_
      exact (if_pos h2).trans (if_neg hP).symm
    · (try simp only [wI_1, wI_w, p1, p8, p9, p10, p12, p13, e2, e3, e4, e5, e7, bI_e0, Classical.not_not, upA_s, tk_0, tk_1, tk_2, tk_3, tk_4, tk_5, tk_6, tk_7, tk_8, tk_9, tk_10, tk_11, tk_12, tk_13, tk_14, tk_15, tk_16, tk_17] at h1)
      (try simp only [wI_1, wI_w, p1, p8, p9, p10, p12, p13, e2, e3, e4, e5, e7, bI_e0, Classical.not_not, upA_s, tk_0, tk_1, tk_2, tk_3, tk_4, tk_5, tk_6, tk_7, tk_8, tk_9, tk_10, tk_11, tk_12, tk_13, tk_14, tk_15, tk_16, tk_17] at h2)
      have hP : (g % 1000 = 0 ∧ ¬ τ 3 = 1) := ⟨(n0 (by omega)).mp h1, h2⟩
      refine ⟨⟨Nat.zero_le _, Nat.zero_le _⟩, by decide, congrArg (fun v => Sum.inl (some (Value.int v))) (bI_t hP).symm, ?_⟩
      refine congrArg (fun m => (S, m, J)) ?_
      (try simp only [wI_1, wI_w, p1, p8, p9, p10, p12, p13, e2, e3, e4, e5, e7, upA_s, upA_uu, wI_M, wI_w, tk_0, tk_1, tk_2, tk_3, tk_4, tk_5, tk_6, tk_7, tk_8, tk_9, tk_10, tk_11, tk_12, tk_13, tk_14, tk_15, tk_16, tk_17])
      refine congrArg (upA M 140) ?_
      exact (if_neg h2).trans (if_pos hP).symm
set_option maxHeartbeats 2000000 in
theorem T_do4 {d : Nat} {S : Sc} {M : Nat → Nat → Int32} {J : Nat → Nat → Int64} {τ : Rw} {g n BB : Nat} (hM : MoS S) (h0 : M 139 0 = nI n) (hI : I2 BB τ) (h0t : τ 0 = nI n) (hn3 : 3 ≤ n) (hn : n ≤ 12) (hg : g < 10000) (hk : g / 1000 = 4) : Wp (d + 8) 164 [.ref 137, .int (nI g)] (S, upA M 140 τ, J) (fun rs w' => rs = .inl (some (.int (gAns τ g 4))) ∧ w' = (S, upA M 140 (gRow τ g 4), J)) := by
  obtain ⟨⟨b137, p1, p8, p9, p10, p12, p13⟩, ⟨b138, b139, b140, b141, b142, b143⟩, n138, n139, n140, n141, n142, n143⟩ := id hM
  have e2 : nI g / 100 - nI g / 100 / 10 * 10 = nI (g / 100 % 10) := by rw [o_100, o_10, pk_div (by omega) (by omega) (by omega), pk_rem (by omega) (by omega) (by omega)]
  have e3 : nI g / 10 - nI g / 10 / 10 * 10 = nI (g / 10 % 10) := by rw [o_10, pk_div (by omega) (by omega) (by omega), pk_rem (by omega) (by omega) (by omega)]
  have e4 : nI g - nI g / 10 * 10 = nI (g % 10) := by rw [o_10, pk_rem (by omega) (by omega) (by omega)]
  have e5 : nI g - nI g / 1000 * 1000 = nI (g % 1000) := by rw [o_1000, pk_rem (by omega) (by omega) (by omega)]
  have e7 : 10 * nI (g / 10 % 10) + nI (g % 10) = nI (g % 100) := by rw [o_10, pk_mul, nI_add]; congr 1; omega
  have hv : nI g / 1000 = nI (g / 1000) := by rw [o_1000, pk_div (by omega) (by omega) (by omega)]
  rw [hk] at hv
  have hB3 := bok3 hI.1.2.1
  have hcn := hI.cnt
  have e139 : upA M 140 τ 139 0 = nI n := (congrFun (upA_n _ _ (by omega)) 0).trans h0
  have hz : (τ 0).toNatClampNeg = n := by rw [h0t, ck (by omega)]
  refine ⟨rfl, ?_⟩
  refine EE.runN (stop := noStop) 120 _ ?_
  refine ⟨by first | decide | first | (simp only [wI_1, wI_w, p1, p8, p9, p10, p12, p13, b137, b138, b139, b140, b141, b142, b143] <;> first | rfl | decide) | decide, ?_⟩
  refine ⟨by first | decide | first | (simp only [wI_1, wI_w, p1, p8, p9, p10, p12, p13, b137, b138, b139, b140, b141, b142, b143] <;> first | rfl | decide) | decide, ?_⟩
  refine ⟨by first | decide | first | (simp only [wI_1, wI_w, p1, p8, p9, p10, p12, p13, b137, b138, b139, b140, b141, b142, b143] <;> first | rfl | decide) | decide, ?_⟩
  refine ⟨by first | decide | first | (simp only [wI_1, wI_w, p1, p8, p9, p10, p12, p13, b137, b138, b139, b140, b141, b142, b143] <;> first | rfl | decide) | decide, ?_⟩
  refine ⟨by first | decide | first | (simp only [wI_1, wI_w, p1, p8, p9, p10, p12, p13, b137, b138, b139, b140, b141, b142, b143] <;> first | rfl | decide) | decide, ?_⟩
  refine ⟨by first | decide | first | (simp only [wI_1, wI_w, p1, p8, p9, p10, p12, p13, b137, b138, b139, b140, b141, b142, b143] <;> first | rfl | decide) | decide, ?_⟩
  refine ⟨by first | decide | first | (simp only [wI_1, wI_w, p1, p8, p9, p10, p12, p13, b137, b138, b139, b140, b141, b142, b143] <;> first | rfl | decide) | decide, ?_⟩
  refine ⟨fun h => absurd ((hv).symm.trans h) (by decide), fun _ => ?_⟩
  refine ⟨fun h => absurd ((hv).symm.trans h) (by decide), fun _ => ?_⟩
  refine ⟨fun h => absurd ((hv).symm.trans h) (by decide), fun _ => ?_⟩
  refine ⟨fun _ => ?_, fun h => absurd hv h⟩
  refine ⟨fun h1 => ?_, fun h1 => ?_⟩
  · (try simp only [wI_1, wI_w, p1, p8, p9, p10, p12, p13, e2, e3, e4, e5, e7, bI_e0, Classical.not_not, upA_s, tk_0, tk_1, tk_2, tk_3, tk_4, tk_5, tk_6, tk_7, tk_8, tk_9, tk_10, tk_11, tk_12, tk_13, tk_14, tk_15, tk_16, tk_17] at h1)
    have hP : ¬ (g % 10 = 0 ∧ (τ 3 = 1 ∧ (τ 17 < 12 ∨ ¬ rFnd τ (10 * nI (g / 100 % 10) + nI (g / 10 % 10)) (τ 17).toNatClampNeg = -99999))) := fun h => h1 ((n0 (by omega)).mpr h.1)
    refine ⟨⟨Nat.zero_le _, Nat.zero_le _⟩, by decide, congrArg (fun v => Sum.inl (some (Value.int v))) (bI_f hP).symm, ?_⟩
    refine congrArg (fun m => (S, m, J)) ?_
    (try simp only [wI_1, wI_w, p1, p8, p9, p10, p12, p13, e2, e3, e4, e5, e7, upA_s, upA_uu, wI_M, wI_w, tk_0, tk_1, tk_2, tk_3, tk_4, tk_5, tk_6, tk_7, tk_8, tk_9, tk_10, tk_11, tk_12, tk_13, tk_14, tk_15, tk_16, tk_17])
    refine congrArg (upA M 140) ?_
    exact (if_neg hP).symm
  · refine ⟨by first | (simp only [wI_1, wI_w, p1, p8, p9, p10, p12, p13, b137, b138, b139, b140, b141, b142, b143] <;> first | rfl | decide) | decide, ?_⟩
    refine ⟨⟨Nat.le_of_ble_eq_true rfl, Nat.le_of_ble_eq_true rfl, Nat.le_of_ble_eq_true rfl⟩, _, by simp only [wI_1, wI_w, p1, p8, p9, p10, p12, p13, e2, e3, e4, e5, e7, bI_e0, Classical.not_not, upA_s, tk_0, tk_1, tk_2, tk_3, tk_4, tk_5, tk_6, tk_7, tk_8, tk_9, tk_10, tk_11, tk_12, tk_13, tk_14, tk_15, tk_16, tk_17]; exact T_doServe (n := (τ 17).toNatClampNeg) hM.trial hcn.2 (by rw [upA_s]; exact hcn.1), ?_⟩
    rintro _ w1 ⟨rfl, hw⟩
    have hw : w1 = (S, upA M 140 (rDoServe τ (10 * nI (g / 100 % 10) + nI (g / 10 % 10)) (τ 17).toNatClampNeg), J) := by rw [hw, upA_s, upA_uu]
    subst hw
    rw [upA_s]
    refine ⟨Or.inl rfl, ?_⟩
    refine ⟨fun h2 => ?_, fun h2 => ?_⟩
    · (try simp only [wI_1, wI_w, p1, p8, p9, p10, p12, p13, e2, e3, e4, e5, e7, bI_e0, Classical.not_not, upA_s, tk_0, tk_1, tk_2, tk_3, tk_4, tk_5, tk_6, tk_7, tk_8, tk_9, tk_10, tk_11, tk_12, tk_13, tk_14, tk_15, tk_16, tk_17] at h1)
      (try simp only [wI_1, wI_w, p1, p8, p9, p10, p12, p13, e2, e3, e4, e5, e7, bI_e0, Classical.not_not, upA_s, tk_0, tk_1, tk_2, tk_3, tk_4, tk_5, tk_6, tk_7, tk_8, tk_9, tk_10, tk_11, tk_12, tk_13, tk_14, tk_15, tk_16, tk_17] at h2)
      have hP : ¬ (g % 10 = 0 ∧ (τ 3 = 1 ∧ (τ 17 < 12 ∨ ¬ rFnd τ (10 * nI (g / 100 % 10) + nI (g / 10 % 10)) (τ 17).toNatClampNeg = -99999))) := fun h => h2 h.2
      refine ⟨⟨Nat.zero_le _, Nat.zero_le _⟩, by decide, congrArg (fun v => Sum.inl (some (Value.int v))) (bI_f hP).symm, ?_⟩
      refine congrArg (fun m => (S, m, J)) ?_
      (try simp only [wI_1, wI_w, p1, p8, p9, p10, p12, p13, e2, e3, e4, e5, e7, upA_s, upA_uu, wI_M, wI_w, tk_0, tk_1, tk_2, tk_3, tk_4, tk_5, tk_6, tk_7, tk_8, tk_9, tk_10, tk_11, tk_12, tk_13, tk_14, tk_15, tk_16, tk_17])
      refine congrArg (upA M 140) ?_
      exact (if_neg h2).trans (if_neg hP).symm
    · (try simp only [wI_1, wI_w, p1, p8, p9, p10, p12, p13, e2, e3, e4, e5, e7, bI_e0, Classical.not_not, upA_s, tk_0, tk_1, tk_2, tk_3, tk_4, tk_5, tk_6, tk_7, tk_8, tk_9, tk_10, tk_11, tk_12, tk_13, tk_14, tk_15, tk_16, tk_17] at h1)
      (try simp only [wI_1, wI_w, p1, p8, p9, p10, p12, p13, e2, e3, e4, e5, e7, bI_e0, Classical.not_not, upA_s, tk_0, tk_1, tk_2, tk_3, tk_4, tk_5, tk_6, tk_7, tk_8, tk_9, tk_10, tk_11, tk_12, tk_13, tk_14, tk_15, tk_16, tk_17] at h2)
      have hP : (g % 10 = 0 ∧ (τ 3 = 1 ∧ (τ 17 < 12 ∨ ¬ rFnd τ (10 * nI (g / 100 % 10) + nI (g / 10 % 10)) (τ 17).toNatClampNeg = -99999))) := ⟨(n0 (by omega)).mp h1, h2⟩
      refine ⟨⟨Nat.zero_le _, Nat.zero_le _⟩, by decide, congrArg (fun v => Sum.inl (some (Value.int v))) (bI_t hP).symm, ?_⟩
      refine congrArg (fun m => (S, m, J)) ?_
      (try simp only [wI_1, wI_w, p1, p8, p9, p10, p12, p13, e2, e3, e4, e5, e7, upA_s, upA_uu, wI_M, wI_w, tk_0, tk_1, tk_2, tk_3, tk_4, tk_5, tk_6, tk_7, tk_8, tk_9, tk_10, tk_11, tk_12, tk_13, tk_14, tk_15, tk_16, tk_17])
      refine congrArg (upA M 140) ?_
      exact (if_pos h2).trans (if_pos hP).symm
set_option maxHeartbeats 2000000 in
theorem T_do5 {d : Nat} {S : Sc} {M : Nat → Nat → Int32} {J : Nat → Nat → Int64} {τ : Rw} {g n BB : Nat} (hM : MoS S) (h0 : M 139 0 = nI n) (hI : I2 BB τ) (h0t : τ 0 = nI n) (hn3 : 3 ≤ n) (hn : n ≤ 12) (hg : g < 10000) (hk : g / 1000 = 5) : Wp (d + 8) 164 [.ref 137, .int (nI g)] (S, upA M 140 τ, J) (fun rs w' => rs = .inl (some (.int (gAns τ g 5))) ∧ w' = (S, upA M 140 (gRow τ g 5), J)) := by
  obtain ⟨⟨b137, p1, p8, p9, p10, p12, p13⟩, ⟨b138, b139, b140, b141, b142, b143⟩, n138, n139, n140, n141, n142, n143⟩ := id hM
  have e2 : nI g / 100 - nI g / 100 / 10 * 10 = nI (g / 100 % 10) := by rw [o_100, o_10, pk_div (by omega) (by omega) (by omega), pk_rem (by omega) (by omega) (by omega)]
  have e3 : nI g / 10 - nI g / 10 / 10 * 10 = nI (g / 10 % 10) := by rw [o_10, pk_div (by omega) (by omega) (by omega), pk_rem (by omega) (by omega) (by omega)]
  have e4 : nI g - nI g / 10 * 10 = nI (g % 10) := by rw [o_10, pk_rem (by omega) (by omega) (by omega)]
  have e5 : nI g - nI g / 1000 * 1000 = nI (g % 1000) := by rw [o_1000, pk_rem (by omega) (by omega) (by omega)]
  have e7 : 10 * nI (g / 10 % 10) + nI (g % 10) = nI (g % 100) := by rw [o_10, pk_mul, nI_add]; congr 1; omega
  have hv : nI g / 1000 = nI (g / 1000) := by rw [o_1000, pk_div (by omega) (by omega) (by omega)]
  rw [hk] at hv
  have hB3 := bok3 hI.1.2.1
  have hcn := hI.cnt
  have e139 : upA M 140 τ 139 0 = nI n := (congrFun (upA_n _ _ (by omega)) 0).trans h0
  have hz : (τ 0).toNatClampNeg = n := by rw [h0t, ck (by omega)]
  refine ⟨rfl, ?_⟩
  refine EE.runN (stop := noStop) 120 _ ?_
  refine ⟨by first | decide | first | (simp only [wI_1, wI_w, p1, p8, p9, p10, p12, p13, b137, b138, b139, b140, b141, b142, b143] <;> first | rfl | decide) | decide, ?_⟩
  refine ⟨by first | decide | first | (simp only [wI_1, wI_w, p1, p8, p9, p10, p12, p13, b137, b138, b139, b140, b141, b142, b143] <;> first | rfl | decide) | decide, ?_⟩
  refine ⟨by first | decide | first | (simp only [wI_1, wI_w, p1, p8, p9, p10, p12, p13, b137, b138, b139, b140, b141, b142, b143] <;> first | rfl | decide) | decide, ?_⟩
  refine ⟨by first | decide | first | (simp only [wI_1, wI_w, p1, p8, p9, p10, p12, p13, b137, b138, b139, b140, b141, b142, b143] <;> first | rfl | decide) | decide, ?_⟩
  refine ⟨by first | decide | first | (simp only [wI_1, wI_w, p1, p8, p9, p10, p12, p13, b137, b138, b139, b140, b141, b142, b143] <;> first | rfl | decide) | decide, ?_⟩
  refine ⟨by first | decide | first | (simp only [wI_1, wI_w, p1, p8, p9, p10, p12, p13, b137, b138, b139, b140, b141, b142, b143] <;> first | rfl | decide) | decide, ?_⟩
  refine ⟨by first | decide | first | (simp only [wI_1, wI_w, p1, p8, p9, p10, p12, p13, b137, b138, b139, b140, b141, b142, b143] <;> first | rfl | decide) | decide, ?_⟩
  refine ⟨fun h => absurd ((hv).symm.trans h) (by decide), fun _ => ?_⟩
  refine ⟨fun h => absurd ((hv).symm.trans h) (by decide), fun _ => ?_⟩
  refine ⟨fun h => absurd ((hv).symm.trans h) (by decide), fun _ => ?_⟩
  refine ⟨fun h => absurd ((hv).symm.trans h) (by decide), fun _ => ?_⟩
  refine ⟨fun _ => ?_, fun h => absurd hv h⟩
  refine ⟨by first | (simp only [wI_1, wI_w, p1, p8, p9, p10, p12, p13, b137, b138, b139, b140, b141, b142, b143] <;> first | rfl | decide) | decide, ?_⟩
  refine ⟨by first | (simp only [wI_1, wI_w, p1, p8, p9, p10, p12, p13, b137, b138, b139, b140, b141, b142, b143] <;> first | rfl | decide) | decide, (by simp only [wI_1, wI_w, p1, p8, p9, p10, p12, p13, n138, n139, n140, n141, n142, n143]; exact vp_in_nI (show 3 < 114 by omega) (by omega)), ?_⟩
  refine ⟨fun h1 => ?_, fun h1 => ?_⟩
  · (try simp only [wI_1, wI_w, p1, p8, p9, p10, p12, p13, e2, e3, e4, e5, e7, bI_e0, Classical.not_not, upA_s, tk_0, tk_1, tk_2, tk_3, tk_4, tk_5, tk_6, tk_7, tk_8, tk_9, tk_10, tk_11, tk_12, tk_13, tk_14, tk_15, tk_16, tk_17] at h1)
    have hP : ¬ (τ 3 = 1 ∧ ¬ τ 4 < nI (g % 1000)) := fun h => h1 h.1
    refine ⟨⟨Nat.zero_le _, Nat.zero_le _⟩, by decide, congrArg (fun v => Sum.inl (some (Value.int v))) (bI_f hP).symm, ?_⟩
    refine congrArg (fun m => (S, m, J)) ?_
    (try simp only [wI_1, wI_w, p1, p8, p9, p10, p12, p13, e2, e3, e4, e5, e7, upA_s, upA_uu, wI_M, wI_w, tk_0, tk_1, tk_2, tk_3, tk_4, tk_5, tk_6, tk_7, tk_8, tk_9, tk_10, tk_11, tk_12, tk_13, tk_14, tk_15, tk_16, tk_17])
    skip
    rfl
  · refine ⟨by first | (simp only [wI_1, wI_w, p1, p8, p9, p10, p12, p13, b137, b138, b139, b140, b141, b142, b143] <;> first | rfl | decide) | decide, ?_⟩
    refine ⟨by first | (simp only [wI_1, wI_w, p1, p8, p9, p10, p12, p13, b137, b138, b139, b140, b141, b142, b143] <;> first | rfl | decide) | decide, (by simp only [wI_1, wI_w, p1, p8, p9, p10, p12, p13, n138, n139, n140, n141, n142, n143]; exact vp_in_nI (show 4 < 114 by omega) (by omega)), ?_⟩
    refine ⟨fun h2 => ?_, fun h2 => ?_⟩
    · (try simp only [wI_1, wI_w, p1, p8, p9, p10, p12, p13, e2, e3, e4, e5, e7, bI_e0, Classical.not_not, upA_s, tk_0, tk_1, tk_2, tk_3, tk_4, tk_5, tk_6, tk_7, tk_8, tk_9, tk_10, tk_11, tk_12, tk_13, tk_14, tk_15, tk_16, tk_17] at h1)
      (try simp only [wI_1, wI_w, p1, p8, p9, p10, p12, p13, e2, e3, e4, e5, e7, bI_e0, Classical.not_not, upA_s, tk_0, tk_1, tk_2, tk_3, tk_4, tk_5, tk_6, tk_7, tk_8, tk_9, tk_10, tk_11, tk_12, tk_13, tk_14, tk_15, tk_16, tk_17] at h2)
      have hP : ¬ (τ 3 = 1 ∧ ¬ τ 4 < nI (g % 1000)) := fun h => h.2 h2
      refine ⟨⟨Nat.zero_le _, Nat.zero_le _⟩, by decide, congrArg (fun v => Sum.inl (some (Value.int v))) (bI_f hP).symm, ?_⟩
      refine congrArg (fun m => (S, m, J)) ?_
      (try simp only [wI_1, wI_w, p1, p8, p9, p10, p12, p13, e2, e3, e4, e5, e7, upA_s, upA_uu, wI_M, wI_w, tk_0, tk_1, tk_2, tk_3, tk_4, tk_5, tk_6, tk_7, tk_8, tk_9, tk_10, tk_11, tk_12, tk_13, tk_14, tk_15, tk_16, tk_17])
      skip
      rfl
    · (try simp only [wI_1, wI_w, p1, p8, p9, p10, p12, p13, e2, e3, e4, e5, e7, bI_e0, Classical.not_not, upA_s, tk_0, tk_1, tk_2, tk_3, tk_4, tk_5, tk_6, tk_7, tk_8, tk_9, tk_10, tk_11, tk_12, tk_13, tk_14, tk_15, tk_16, tk_17] at h1)
      (try simp only [wI_1, wI_w, p1, p8, p9, p10, p12, p13, e2, e3, e4, e5, e7, bI_e0, Classical.not_not, upA_s, tk_0, tk_1, tk_2, tk_3, tk_4, tk_5, tk_6, tk_7, tk_8, tk_9, tk_10, tk_11, tk_12, tk_13, tk_14, tk_15, tk_16, tk_17] at h2)
      have hP : (τ 3 = 1 ∧ ¬ τ 4 < nI (g % 1000)) := ⟨h1, h2⟩
      refine ⟨⟨Nat.zero_le _, Nat.zero_le _⟩, by decide, congrArg (fun v => Sum.inl (some (Value.int v))) (bI_t hP).symm, ?_⟩
      refine congrArg (fun m => (S, m, J)) ?_
      (try simp only [wI_1, wI_w, p1, p8, p9, p10, p12, p13, e2, e3, e4, e5, e7, upA_s, upA_uu, wI_M, wI_w, tk_0, tk_1, tk_2, tk_3, tk_4, tk_5, tk_6, tk_7, tk_8, tk_9, tk_10, tk_11, tk_12, tk_13, tk_14, tk_15, tk_16, tk_17])
      skip
      rfl
set_option maxHeartbeats 2000000 in
theorem T_do6 {d : Nat} {S : Sc} {M : Nat → Nat → Int32} {J : Nat → Nat → Int64} {τ : Rw} {g n BB : Nat} (hM : MoS S) (h0 : M 139 0 = nI n) (hI : I2 BB τ) (h0t : τ 0 = nI n) (hn3 : 3 ≤ n) (hn : n ≤ 12) (hg : g < 10000) (hk : g / 1000 = 6) : Wp (d + 8) 164 [.ref 137, .int (nI g)] (S, upA M 140 τ, J) (fun rs w' => rs = .inl (some (.int (gAns τ g 6))) ∧ w' = (S, upA M 140 (gRow τ g 6), J)) := by
  obtain ⟨⟨b137, p1, p8, p9, p10, p12, p13⟩, ⟨b138, b139, b140, b141, b142, b143⟩, n138, n139, n140, n141, n142, n143⟩ := id hM
  have e2 : nI g / 100 - nI g / 100 / 10 * 10 = nI (g / 100 % 10) := by rw [o_100, o_10, pk_div (by omega) (by omega) (by omega), pk_rem (by omega) (by omega) (by omega)]
  have e3 : nI g / 10 - nI g / 10 / 10 * 10 = nI (g / 10 % 10) := by rw [o_10, pk_div (by omega) (by omega) (by omega), pk_rem (by omega) (by omega) (by omega)]
  have e4 : nI g - nI g / 10 * 10 = nI (g % 10) := by rw [o_10, pk_rem (by omega) (by omega) (by omega)]
  have e5 : nI g - nI g / 1000 * 1000 = nI (g % 1000) := by rw [o_1000, pk_rem (by omega) (by omega) (by omega)]
  have e7 : 10 * nI (g / 10 % 10) + nI (g % 10) = nI (g % 100) := by rw [o_10, pk_mul, nI_add]; congr 1; omega
  have hv : nI g / 1000 = nI (g / 1000) := by rw [o_1000, pk_div (by omega) (by omega) (by omega)]
  rw [hk] at hv
  have hB3 := bok3 hI.1.2.1
  have hcn := hI.cnt
  have e139 : upA M 140 τ 139 0 = nI n := (congrFun (upA_n _ _ (by omega)) 0).trans h0
  have hz : (τ 0).toNatClampNeg = n := by rw [h0t, ck (by omega)]
  refine ⟨rfl, ?_⟩
  refine EE.runN (stop := noStop) 120 _ ?_
  refine ⟨by first | decide | first | (simp only [wI_1, wI_w, p1, p8, p9, p10, p12, p13, b137, b138, b139, b140, b141, b142, b143] <;> first | rfl | decide) | decide, ?_⟩
  refine ⟨by first | decide | first | (simp only [wI_1, wI_w, p1, p8, p9, p10, p12, p13, b137, b138, b139, b140, b141, b142, b143] <;> first | rfl | decide) | decide, ?_⟩
  refine ⟨by first | decide | first | (simp only [wI_1, wI_w, p1, p8, p9, p10, p12, p13, b137, b138, b139, b140, b141, b142, b143] <;> first | rfl | decide) | decide, ?_⟩
  refine ⟨by first | decide | first | (simp only [wI_1, wI_w, p1, p8, p9, p10, p12, p13, b137, b138, b139, b140, b141, b142, b143] <;> first | rfl | decide) | decide, ?_⟩
  refine ⟨by first | decide | first | (simp only [wI_1, wI_w, p1, p8, p9, p10, p12, p13, b137, b138, b139, b140, b141, b142, b143] <;> first | rfl | decide) | decide, ?_⟩
  refine ⟨by first | decide | first | (simp only [wI_1, wI_w, p1, p8, p9, p10, p12, p13, b137, b138, b139, b140, b141, b142, b143] <;> first | rfl | decide) | decide, ?_⟩
  refine ⟨by first | decide | first | (simp only [wI_1, wI_w, p1, p8, p9, p10, p12, p13, b137, b138, b139, b140, b141, b142, b143] <;> first | rfl | decide) | decide, ?_⟩
  refine ⟨fun h => absurd ((hv).symm.trans h) (by decide), fun _ => ?_⟩
  refine ⟨fun h => absurd ((hv).symm.trans h) (by decide), fun _ => ?_⟩
  refine ⟨fun h => absurd ((hv).symm.trans h) (by decide), fun _ => ?_⟩
  refine ⟨fun h => absurd ((hv).symm.trans h) (by decide), fun _ => ?_⟩
  refine ⟨fun h => absurd ((hv).symm.trans h) (by decide), fun _ => ?_⟩
  refine ⟨fun _ => ?_, fun h => absurd hv h⟩
  refine ⟨fun h1 => ?_, fun h1 => ?_⟩
  · (try simp only [wI_1, wI_w, p1, p8, p9, p10, p12, p13, e2, e3, e4, e5, e7, bI_e0, Classical.not_not, upA_s, tk_0, tk_1, tk_2, tk_3, tk_4, tk_5, tk_6, tk_7, tk_8, tk_9, tk_10, tk_11, tk_12, tk_13, tk_14, tk_15, tk_16, tk_17] at h1)
    have hP : ¬ (g / 100 % 10 = 0 ∧ 1 ≤ g % 100) := fun h => h1 ((n0 (by omega)).mpr h.1)
    refine ⟨⟨Nat.zero_le _, Nat.zero_le _⟩, by decide, congrArg (fun v => Sum.inl (some (Value.int v))) (bI_f hP).symm, ?_⟩
    refine congrArg (fun m => (S, m, J)) ?_
    (try simp only [wI_1, wI_w, p1, p8, p9, p10, p12, p13, e2, e3, e4, e5, e7, upA_s, upA_uu, wI_M, wI_w, tk_0, tk_1, tk_2, tk_3, tk_4, tk_5, tk_6, tk_7, tk_8, tk_9, tk_10, tk_11, tk_12, tk_13, tk_14, tk_15, tk_16, tk_17])
    refine congrArg (upA M 140) ?_
    exact (if_neg hP).symm
  · refine ⟨⟨Nat.le_of_ble_eq_true rfl, Nat.le_of_ble_eq_true rfl, Nat.le_of_ble_eq_true rfl⟩, _, by simp only [e2, e3, e4, e5, e7]; exact T_mP, ?_⟩
    rintro _ w1 ⟨rfl, hw⟩
    subst hw
    (try rw [upA_s])
    refine ⟨Or.inl rfl, ?_⟩
    refine ⟨fun h2 => ?_, fun h2 => ?_⟩
    · refine ⟨by first | (simp only [wI_1, wI_w, p1, p8, p9, p10, p12, p13, b137, b138, b139, b140, b141, b142, b143] <;> first | rfl | decide) | decide, ?_⟩
      refine ⟨by first | (simp only [wI_1, wI_w, p1, p8, p9, p10, p12, p13, b137, b138, b139, b140, b141, b142, b143] <;> first | rfl | decide) | decide, (by simp only [wI_1, wI_w, p1, p8, p9, p10, p12, p13, n138, n139, n140, n141, n142, n143]; exact vp_in_nI (show 1 < 114 by omega) (by omega)), ?_⟩
      (try simp only [wI_1, wI_w, p1, p8, p9, p10, p12, p13, e2, e3, e4, e5, e7, bI_e0, Classical.not_not, upA_s, tk_0, tk_1, tk_2, tk_3, tk_4, tk_5, tk_6, tk_7, tk_8, tk_9, tk_10, tk_11, tk_12, tk_13, tk_14, tk_15, tk_16, tk_17] at h1)
      (try simp only [wI_1, wI_w, p1, p8, p9, p10, p12, p13, e2, e3, e4, e5, e7, bI_e0, Classical.not_not, upA_s, tk_0, tk_1, tk_2, tk_3, tk_4, tk_5, tk_6, tk_7, tk_8, tk_9, tk_10, tk_11, tk_12, tk_13, tk_14, tk_15, tk_16, tk_17] at h2)
      have hP : (g / 100 % 10 = 0 ∧ 1 ≤ g % 100) := ⟨(n0 (by omega)).mp h1, (step_i (by omega)).mp h2⟩
      refine ⟨⟨Nat.zero_le _, Nat.zero_le _⟩, by decide, congrArg (fun v => Sum.inl (some (Value.int v))) (bI_t hP).symm, ?_⟩
      refine congrArg (fun m => (S, m, J)) ?_
      (try simp only [wI_1, wI_w, p1, p8, p9, p10, p12, p13, e2, e3, e4, e5, e7, upA_s, upA_uu, wI_M, wI_w, tk_0, tk_1, tk_2, tk_3, tk_4, tk_5, tk_6, tk_7, tk_8, tk_9, tk_10, tk_11, tk_12, tk_13, tk_14, tk_15, tk_16, tk_17])
      refine congrArg (upA M 140) ?_
      exact (if_pos hP).symm
    · (try simp only [wI_1, wI_w, p1, p8, p9, p10, p12, p13, e2, e3, e4, e5, e7, bI_e0, Classical.not_not, upA_s, tk_0, tk_1, tk_2, tk_3, tk_4, tk_5, tk_6, tk_7, tk_8, tk_9, tk_10, tk_11, tk_12, tk_13, tk_14, tk_15, tk_16, tk_17] at h1)
      (try simp only [wI_1, wI_w, p1, p8, p9, p10, p12, p13, e2, e3, e4, e5, e7, bI_e0, Classical.not_not, upA_s, tk_0, tk_1, tk_2, tk_3, tk_4, tk_5, tk_6, tk_7, tk_8, tk_9, tk_10, tk_11, tk_12, tk_13, tk_14, tk_15, tk_16, tk_17] at h2)
      have hP : ¬ (g / 100 % 10 = 0 ∧ 1 ≤ g % 100) := fun h => h2 ((step_i (by omega)).mpr h.2)
      refine ⟨⟨Nat.zero_le _, Nat.zero_le _⟩, by decide, congrArg (fun v => Sum.inl (some (Value.int v))) (bI_f hP).symm, ?_⟩
      refine congrArg (fun m => (S, m, J)) ?_
      (try simp only [wI_1, wI_w, p1, p8, p9, p10, p12, p13, e2, e3, e4, e5, e7, upA_s, upA_uu, wI_M, wI_w, tk_0, tk_1, tk_2, tk_3, tk_4, tk_5, tk_6, tk_7, tk_8, tk_9, tk_10, tk_11, tk_12, tk_13, tk_14, tk_15, tk_16, tk_17])
      refine congrArg (upA M 140) ?_
      exact (if_neg hP).symm
set_option maxHeartbeats 2000000 in
theorem T_do7 {d : Nat} {S : Sc} {M : Nat → Nat → Int32} {J : Nat → Nat → Int64} {τ : Rw} {g n BB : Nat} (hM : MoS S) (h0 : M 139 0 = nI n) (hI : I2 BB τ) (h0t : τ 0 = nI n) (hn3 : 3 ≤ n) (hn : n ≤ 12) (hg : g < 10000) (hk : g / 1000 = 7) : Wp (d + 8) 164 [.ref 137, .int (nI g)] (S, upA M 140 τ, J) (fun rs w' => rs = .inl (some (.int (gAns τ g 7))) ∧ w' = (S, upA M 140 (gRow τ g 7), J)) := by
  obtain ⟨⟨b137, p1, p8, p9, p10, p12, p13⟩, ⟨b138, b139, b140, b141, b142, b143⟩, n138, n139, n140, n141, n142, n143⟩ := id hM
  have e2 : nI g / 100 - nI g / 100 / 10 * 10 = nI (g / 100 % 10) := by rw [o_100, o_10, pk_div (by omega) (by omega) (by omega), pk_rem (by omega) (by omega) (by omega)]
  have e3 : nI g / 10 - nI g / 10 / 10 * 10 = nI (g / 10 % 10) := by rw [o_10, pk_div (by omega) (by omega) (by omega), pk_rem (by omega) (by omega) (by omega)]
  have e4 : nI g - nI g / 10 * 10 = nI (g % 10) := by rw [o_10, pk_rem (by omega) (by omega) (by omega)]
  have e5 : nI g - nI g / 1000 * 1000 = nI (g % 1000) := by rw [o_1000, pk_rem (by omega) (by omega) (by omega)]
  have e7 : 10 * nI (g / 10 % 10) + nI (g % 10) = nI (g % 100) := by rw [o_10, pk_mul, nI_add]; congr 1; omega
  have hv : nI g / 1000 = nI (g / 1000) := by rw [o_1000, pk_div (by omega) (by omega) (by omega)]
  rw [hk] at hv
  have hB3 := bok3 hI.1.2.1
  have hcn := hI.cnt
  have e139 : upA M 140 τ 139 0 = nI n := (congrFun (upA_n _ _ (by omega)) 0).trans h0
  have hz : (τ 0).toNatClampNeg = n := by rw [h0t, ck (by omega)]
  refine ⟨rfl, ?_⟩
  refine EE.runN (stop := noStop) 120 _ ?_
  refine ⟨by first | decide | first | (simp only [wI_1, wI_w, p1, p8, p9, p10, p12, p13, b137, b138, b139, b140, b141, b142, b143] <;> first | rfl | decide) | decide, ?_⟩
  refine ⟨by first | decide | first | (simp only [wI_1, wI_w, p1, p8, p9, p10, p12, p13, b137, b138, b139, b140, b141, b142, b143] <;> first | rfl | decide) | decide, ?_⟩
  refine ⟨by first | decide | first | (simp only [wI_1, wI_w, p1, p8, p9, p10, p12, p13, b137, b138, b139, b140, b141, b142, b143] <;> first | rfl | decide) | decide, ?_⟩
  refine ⟨by first | decide | first | (simp only [wI_1, wI_w, p1, p8, p9, p10, p12, p13, b137, b138, b139, b140, b141, b142, b143] <;> first | rfl | decide) | decide, ?_⟩
  refine ⟨by first | decide | first | (simp only [wI_1, wI_w, p1, p8, p9, p10, p12, p13, b137, b138, b139, b140, b141, b142, b143] <;> first | rfl | decide) | decide, ?_⟩
  refine ⟨by first | decide | first | (simp only [wI_1, wI_w, p1, p8, p9, p10, p12, p13, b137, b138, b139, b140, b141, b142, b143] <;> first | rfl | decide) | decide, ?_⟩
  refine ⟨by first | decide | first | (simp only [wI_1, wI_w, p1, p8, p9, p10, p12, p13, b137, b138, b139, b140, b141, b142, b143] <;> first | rfl | decide) | decide, ?_⟩
  refine ⟨fun h => absurd ((hv).symm.trans h) (by decide), fun _ => ?_⟩
  refine ⟨fun h => absurd ((hv).symm.trans h) (by decide), fun _ => ?_⟩
  refine ⟨fun h => absurd ((hv).symm.trans h) (by decide), fun _ => ?_⟩
  refine ⟨fun h => absurd ((hv).symm.trans h) (by decide), fun _ => ?_⟩
  refine ⟨fun h => absurd ((hv).symm.trans h) (by decide), fun _ => ?_⟩
  refine ⟨fun h => absurd ((hv).symm.trans h) (by decide), fun _ => ?_⟩
  refine ⟨fun _ => ?_, fun h => absurd hv h⟩
  refine ⟨⟨Nat.le_of_ble_eq_true rfl, Nat.le_of_ble_eq_true rfl, Nat.le_of_ble_eq_true rfl⟩, by first | (simp only [wI_1, wI_w, p1, p8, p9, p10, p12, p13, b137, b138, b139, b140, b141, b142, b143] <;> first | rfl | decide) | decide, _, by simp only [e2, e3, e4, e5, e7]; exact T_isSlot (n := n) hM e139 (by omega) hn, ?_⟩
  rintro _ w1 ⟨rfl, hw⟩
  subst hw
  (try rw [upA_s])
  refine ⟨Or.inl rfl, ?_⟩
  refine ⟨fun h1 => ?_, fun h1 => ?_⟩
  · (try simp only [wI_1, wI_w, p1, p8, p9, p10, p12, p13, e2, e3, e4, e5, e7, bI_e0, Classical.not_not, upA_s, tk_0, tk_1, tk_2, tk_3, tk_4, tk_5, tk_6, tk_7, tk_8, tk_9, tk_10, tk_11, tk_12, tk_13, tk_14, tk_15, tk_16, tk_17] at h1)
    have hP : ¬ (g % 100 = 0 ∧ g / 100 % 10 < (τ 0).toNatClampNeg ∧ ¬ rSays τ (g / 100 % 10) = -99999) := fun h => h1 ((slot_i (by omega) (by omega)).mpr (by rw [← hz]; exact h.2.1))
    refine ⟨⟨Nat.zero_le _, Nat.zero_le _⟩, by decide, congrArg (fun v => Sum.inl (some (Value.int v))) (bI_f hP).symm, ?_⟩
    refine congrArg (fun m => (S, m, J)) ?_
    (try simp only [wI_1, wI_w, p1, p8, p9, p10, p12, p13, e2, e3, e4, e5, e7, upA_s, upA_uu, wI_M, wI_w, tk_0, tk_1, tk_2, tk_3, tk_4, tk_5, tk_6, tk_7, tk_8, tk_9, tk_10, tk_11, tk_12, tk_13, tk_14, tk_15, tk_16, tk_17])
    skip
    rfl
  · refine ⟨fun h2 => ?_, fun h2 => ?_⟩
    · (try simp only [wI_1, wI_w, p1, p8, p9, p10, p12, p13, e2, e3, e4, e5, e7, bI_e0, Classical.not_not, upA_s, tk_0, tk_1, tk_2, tk_3, tk_4, tk_5, tk_6, tk_7, tk_8, tk_9, tk_10, tk_11, tk_12, tk_13, tk_14, tk_15, tk_16, tk_17] at h1)
      (try simp only [wI_1, wI_w, p1, p8, p9, p10, p12, p13, e2, e3, e4, e5, e7, bI_e0, Classical.not_not, upA_s, tk_0, tk_1, tk_2, tk_3, tk_4, tk_5, tk_6, tk_7, tk_8, tk_9, tk_10, tk_11, tk_12, tk_13, tk_14, tk_15, tk_16, tk_17] at h2)
      have hP : ¬ (g % 100 = 0 ∧ g / 100 % 10 < (τ 0).toNatClampNeg ∧ ¬ rSays τ (g / 100 % 10) = -99999) := fun h => h2 ((n0 (by omega)).mpr h.1)
      refine ⟨⟨Nat.zero_le _, Nat.zero_le _⟩, by decide, congrArg (fun v => Sum.inl (some (Value.int v))) (bI_f hP).symm, ?_⟩
      refine congrArg (fun m => (S, m, J)) ?_
      (try simp only [wI_1, wI_w, p1, p8, p9, p10, p12, p13, e2, e3, e4, e5, e7, upA_s, upA_uu, wI_M, wI_w, tk_0, tk_1, tk_2, tk_3, tk_4, tk_5, tk_6, tk_7, tk_8, tk_9, tk_10, tk_11, tk_12, tk_13, tk_14, tk_15, tk_16, tk_17])
      skip
      rfl
    · refine ⟨by first | (simp only [wI_1, wI_w, p1, p8, p9, p10, p12, p13, b137, b138, b139, b140, b141, b142, b143] <;> first | rfl | decide) | decide, ?_⟩
      refine ⟨⟨Nat.le_of_ble_eq_true rfl, Nat.le_of_ble_eq_true rfl, Nat.le_of_ble_eq_true rfl⟩, _, by simp only [wI_1, wI_w, p1, p8, p9, p10, p12, p13, e2, e3, e4, e5, e7, bI_e0, Classical.not_not, upA_s, tk_0, tk_1, tk_2, tk_3, tk_4, tk_5, tk_6, tk_7, tk_8, tk_9, tk_10, tk_11, tk_12, tk_13, tk_14, tk_15, tk_16, tk_17]; exact T_saysOf (s := g / 100 % 10) hM.trial (by omega), ?_⟩
      rintro _ w1 ⟨rfl, hw⟩
      subst hw
      (try rw [upA_s])
      refine ⟨Or.inl rfl, ?_⟩
      refine ⟨fun h3 => ?_, fun h3 => ?_⟩
      · (try simp only [wI_1, wI_w, p1, p8, p9, p10, p12, p13, e2, e3, e4, e5, e7, bI_e0, Classical.not_not, upA_s, tk_0, tk_1, tk_2, tk_3, tk_4, tk_5, tk_6, tk_7, tk_8, tk_9, tk_10, tk_11, tk_12, tk_13, tk_14, tk_15, tk_16, tk_17] at h1)
        (try simp only [wI_1, wI_w, p1, p8, p9, p10, p12, p13, e2, e3, e4, e5, e7, bI_e0, Classical.not_not, upA_s, tk_0, tk_1, tk_2, tk_3, tk_4, tk_5, tk_6, tk_7, tk_8, tk_9, tk_10, tk_11, tk_12, tk_13, tk_14, tk_15, tk_16, tk_17] at h2)
        (try simp only [wI_1, wI_w, p1, p8, p9, p10, p12, p13, e2, e3, e4, e5, e7, bI_e0, Classical.not_not, upA_s, tk_0, tk_1, tk_2, tk_3, tk_4, tk_5, tk_6, tk_7, tk_8, tk_9, tk_10, tk_11, tk_12, tk_13, tk_14, tk_15, tk_16, tk_17] at h3)
        have hP : ¬ (g % 100 = 0 ∧ g / 100 % 10 < (τ 0).toNatClampNeg ∧ ¬ rSays τ (g / 100 % 10) = -99999) := fun h => h.2.2 h3
        refine ⟨⟨Nat.zero_le _, Nat.zero_le _⟩, by decide, congrArg (fun v => Sum.inl (some (Value.int v))) (bI_f hP).symm, ?_⟩
        refine congrArg (fun m => (S, m, J)) ?_
        (try simp only [wI_1, wI_w, p1, p8, p9, p10, p12, p13, e2, e3, e4, e5, e7, upA_s, upA_uu, wI_M, wI_w, tk_0, tk_1, tk_2, tk_3, tk_4, tk_5, tk_6, tk_7, tk_8, tk_9, tk_10, tk_11, tk_12, tk_13, tk_14, tk_15, tk_16, tk_17])
        skip
        rfl
      · (try simp only [wI_1, wI_w, p1, p8, p9, p10, p12, p13, e2, e3, e4, e5, e7, bI_e0, Classical.not_not, upA_s, tk_0, tk_1, tk_2, tk_3, tk_4, tk_5, tk_6, tk_7, tk_8, tk_9, tk_10, tk_11, tk_12, tk_13, tk_14, tk_15, tk_16, tk_17] at h1)
        (try simp only [wI_1, wI_w, p1, p8, p9, p10, p12, p13, e2, e3, e4, e5, e7, bI_e0, Classical.not_not, upA_s, tk_0, tk_1, tk_2, tk_3, tk_4, tk_5, tk_6, tk_7, tk_8, tk_9, tk_10, tk_11, tk_12, tk_13, tk_14, tk_15, tk_16, tk_17] at h2)
        (try simp only [wI_1, wI_w, p1, p8, p9, p10, p12, p13, e2, e3, e4, e5, e7, bI_e0, Classical.not_not, upA_s, tk_0, tk_1, tk_2, tk_3, tk_4, tk_5, tk_6, tk_7, tk_8, tk_9, tk_10, tk_11, tk_12, tk_13, tk_14, tk_15, tk_16, tk_17] at h3)
        have hP : (g % 100 = 0 ∧ g / 100 % 10 < (τ 0).toNatClampNeg ∧ ¬ rSays τ (g / 100 % 10) = -99999) := ⟨(n0 (by omega)).mp h2, by rw [hz]; exact (slot_i (by omega) (by omega)).mp h1, h3⟩
        refine ⟨⟨Nat.zero_le _, Nat.zero_le _⟩, by decide, congrArg (fun v => Sum.inl (some (Value.int v))) (bI_t hP).symm, ?_⟩
        refine congrArg (fun m => (S, m, J)) ?_
        (try simp only [wI_1, wI_w, p1, p8, p9, p10, p12, p13, e2, e3, e4, e5, e7, upA_s, upA_uu, wI_M, wI_w, tk_0, tk_1, tk_2, tk_3, tk_4, tk_5, tk_6, tk_7, tk_8, tk_9, tk_10, tk_11, tk_12, tk_13, tk_14, tk_15, tk_16, tk_17])
        skip
        rfl
set_option maxHeartbeats 2000000 in
theorem T_do8 {d : Nat} {S : Sc} {M : Nat → Nat → Int32} {J : Nat → Nat → Int64} {τ : Rw} {g n BB : Nat} (hM : MoS S) (h0 : M 139 0 = nI n) (hI : I2 BB τ) (h0t : τ 0 = nI n) (hn3 : 3 ≤ n) (hn : n ≤ 12) (hg : g < 10000) (hk : g / 1000 = 8) : Wp (d + 8) 164 [.ref 137, .int (nI g)] (S, upA M 140 τ, J) (fun rs w' => rs = .inl (some (.int (gAns τ g 8))) ∧ w' = (S, upA M 140 (gRow τ g 8), J)) := by
  obtain ⟨⟨b137, p1, p8, p9, p10, p12, p13⟩, ⟨b138, b139, b140, b141, b142, b143⟩, n138, n139, n140, n141, n142, n143⟩ := id hM
  have e2 : nI g / 100 - nI g / 100 / 10 * 10 = nI (g / 100 % 10) := by rw [o_100, o_10, pk_div (by omega) (by omega) (by omega), pk_rem (by omega) (by omega) (by omega)]
  have e3 : nI g / 10 - nI g / 10 / 10 * 10 = nI (g / 10 % 10) := by rw [o_10, pk_div (by omega) (by omega) (by omega), pk_rem (by omega) (by omega) (by omega)]
  have e4 : nI g - nI g / 10 * 10 = nI (g % 10) := by rw [o_10, pk_rem (by omega) (by omega) (by omega)]
  have e5 : nI g - nI g / 1000 * 1000 = nI (g % 1000) := by rw [o_1000, pk_rem (by omega) (by omega) (by omega)]
  have e7 : 10 * nI (g / 10 % 10) + nI (g % 10) = nI (g % 100) := by rw [o_10, pk_mul, nI_add]; congr 1; omega
  have hv : nI g / 1000 = nI (g / 1000) := by rw [o_1000, pk_div (by omega) (by omega) (by omega)]
  rw [hk] at hv
  have hB3 := bok3 hI.1.2.1
  have hcn := hI.cnt
  have e139 : upA M 140 τ 139 0 = nI n := (congrFun (upA_n _ _ (by omega)) 0).trans h0
  have hz : (τ 0).toNatClampNeg = n := by rw [h0t, ck (by omega)]
  refine ⟨rfl, ?_⟩
  refine EE.runN (stop := noStop) 120 _ ?_
  refine ⟨by first | decide | first | (simp only [wI_1, wI_w, p1, p8, p9, p10, p12, p13, b137, b138, b139, b140, b141, b142, b143] <;> first | rfl | decide) | decide, ?_⟩
  refine ⟨by first | decide | first | (simp only [wI_1, wI_w, p1, p8, p9, p10, p12, p13, b137, b138, b139, b140, b141, b142, b143] <;> first | rfl | decide) | decide, ?_⟩
  refine ⟨by first | decide | first | (simp only [wI_1, wI_w, p1, p8, p9, p10, p12, p13, b137, b138, b139, b140, b141, b142, b143] <;> first | rfl | decide) | decide, ?_⟩
  refine ⟨by first | decide | first | (simp only [wI_1, wI_w, p1, p8, p9, p10, p12, p13, b137, b138, b139, b140, b141, b142, b143] <;> first | rfl | decide) | decide, ?_⟩
  refine ⟨by first | decide | first | (simp only [wI_1, wI_w, p1, p8, p9, p10, p12, p13, b137, b138, b139, b140, b141, b142, b143] <;> first | rfl | decide) | decide, ?_⟩
  refine ⟨by first | decide | first | (simp only [wI_1, wI_w, p1, p8, p9, p10, p12, p13, b137, b138, b139, b140, b141, b142, b143] <;> first | rfl | decide) | decide, ?_⟩
  refine ⟨by first | decide | first | (simp only [wI_1, wI_w, p1, p8, p9, p10, p12, p13, b137, b138, b139, b140, b141, b142, b143] <;> first | rfl | decide) | decide, ?_⟩
  refine ⟨fun h => absurd ((hv).symm.trans h) (by decide), fun _ => ?_⟩
  refine ⟨fun h => absurd ((hv).symm.trans h) (by decide), fun _ => ?_⟩
  refine ⟨fun h => absurd ((hv).symm.trans h) (by decide), fun _ => ?_⟩
  refine ⟨fun h => absurd ((hv).symm.trans h) (by decide), fun _ => ?_⟩
  refine ⟨fun h => absurd ((hv).symm.trans h) (by decide), fun _ => ?_⟩
  refine ⟨fun h => absurd ((hv).symm.trans h) (by decide), fun _ => ?_⟩
  refine ⟨fun h => absurd ((hv).symm.trans h) (by decide), fun _ => ?_⟩
  refine ⟨fun _ => ?_, fun h => absurd hv h⟩
  refine ⟨fun h1 => ?_, fun h1 => ?_⟩
  · (try simp only [wI_1, wI_w, p1, p8, p9, p10, p12, p13, e2, e3, e4, e5, e7, bI_e0, Classical.not_not, upA_s, tk_0, tk_1, tk_2, tk_3, tk_4, tk_5, tk_6, tk_7, tk_8, tk_9, tk_10, tk_11, tk_12, tk_13, tk_14, tk_15, tk_16, tk_17] at h1)
    have hP : ¬ (g / 100 % 10 = 0 ∧ ¬ nI (g % 100) < rGap τ (τ 0).toNatClampNeg) := fun h => h1 ((n0 (by omega)).mpr h.1)
    refine ⟨⟨Nat.zero_le _, Nat.zero_le _⟩, by decide, congrArg (fun v => Sum.inl (some (Value.int v))) (bI_f hP).symm, ?_⟩
    refine congrArg (fun m => (S, m, J)) ?_
    (try simp only [wI_1, wI_w, p1, p8, p9, p10, p12, p13, e2, e3, e4, e5, e7, upA_s, upA_uu, wI_M, wI_w, tk_0, tk_1, tk_2, tk_3, tk_4, tk_5, tk_6, tk_7, tk_8, tk_9, tk_10, tk_11, tk_12, tk_13, tk_14, tk_15, tk_16, tk_17])
    skip
    rfl
  · refine ⟨by first | (simp only [wI_1, wI_w, p1, p8, p9, p10, p12, p13, b137, b138, b139, b140, b141, b142, b143] <;> first | rfl | decide) | decide, ?_⟩
    refine ⟨⟨Nat.le_of_ble_eq_true rfl, Nat.le_of_ble_eq_true rfl, Nat.le_of_ble_eq_true rfl⟩, _, by simp only [wI_1, wI_w, p1, p8, p9, p10, p12, p13, e2, e3, e4, e5, e7, bI_e0, Classical.not_not, upA_s, tk_0, tk_1, tk_2, tk_3, tk_4, tk_5, tk_6, tk_7, tk_8, tk_9, tk_10, tk_11, tk_12, tk_13, tk_14, tk_15, tk_16, tk_17]; exact T_wearApart (n := n) hM.trial hn (by rw [upA_s]; exact h0t), ?_⟩
    rintro _ w1 ⟨rfl, hw⟩
    subst hw
    (try rw [upA_s])
    refine ⟨Or.inl rfl, ?_⟩
    refine ⟨fun h2 => ?_, fun h2 => ?_⟩
    · (try simp only [wI_1, wI_w, p1, p8, p9, p10, p12, p13, e2, e3, e4, e5, e7, bI_e0, Classical.not_not, upA_s, tk_0, tk_1, tk_2, tk_3, tk_4, tk_5, tk_6, tk_7, tk_8, tk_9, tk_10, tk_11, tk_12, tk_13, tk_14, tk_15, tk_16, tk_17] at h1)
      (try simp only [wI_1, wI_w, p1, p8, p9, p10, p12, p13, e2, e3, e4, e5, e7, bI_e0, Classical.not_not, upA_s, tk_0, tk_1, tk_2, tk_3, tk_4, tk_5, tk_6, tk_7, tk_8, tk_9, tk_10, tk_11, tk_12, tk_13, tk_14, tk_15, tk_16, tk_17] at h2)
      have hP : ¬ (g / 100 % 10 = 0 ∧ ¬ nI (g % 100) < rGap τ (τ 0).toNatClampNeg) := fun h => h.2 (by rw [hz]; exact h2)
      refine ⟨⟨Nat.zero_le _, Nat.zero_le _⟩, by decide, congrArg (fun v => Sum.inl (some (Value.int v))) (bI_f hP).symm, ?_⟩
      refine congrArg (fun m => (S, m, J)) ?_
      (try simp only [wI_1, wI_w, p1, p8, p9, p10, p12, p13, e2, e3, e4, e5, e7, upA_s, upA_uu, wI_M, wI_w, tk_0, tk_1, tk_2, tk_3, tk_4, tk_5, tk_6, tk_7, tk_8, tk_9, tk_10, tk_11, tk_12, tk_13, tk_14, tk_15, tk_16, tk_17])
      skip
      rfl
    · (try simp only [wI_1, wI_w, p1, p8, p9, p10, p12, p13, e2, e3, e4, e5, e7, bI_e0, Classical.not_not, upA_s, tk_0, tk_1, tk_2, tk_3, tk_4, tk_5, tk_6, tk_7, tk_8, tk_9, tk_10, tk_11, tk_12, tk_13, tk_14, tk_15, tk_16, tk_17] at h1)
      (try simp only [wI_1, wI_w, p1, p8, p9, p10, p12, p13, e2, e3, e4, e5, e7, bI_e0, Classical.not_not, upA_s, tk_0, tk_1, tk_2, tk_3, tk_4, tk_5, tk_6, tk_7, tk_8, tk_9, tk_10, tk_11, tk_12, tk_13, tk_14, tk_15, tk_16, tk_17] at h2)
      have hP : (g / 100 % 10 = 0 ∧ ¬ nI (g % 100) < rGap τ (τ 0).toNatClampNeg) := ⟨(n0 (by omega)).mp h1, by rw [hz]; exact h2⟩
      refine ⟨⟨Nat.zero_le _, Nat.zero_le _⟩, by decide, congrArg (fun v => Sum.inl (some (Value.int v))) (bI_t hP).symm, ?_⟩
      refine congrArg (fun m => (S, m, J)) ?_
      (try simp only [wI_1, wI_w, p1, p8, p9, p10, p12, p13, e2, e3, e4, e5, e7, upA_s, upA_uu, wI_M, wI_w, tk_0, tk_1, tk_2, tk_3, tk_4, tk_5, tk_6, tk_7, tk_8, tk_9, tk_10, tk_11, tk_12, tk_13, tk_14, tk_15, tk_16, tk_17])
      skip
      rfl
set_option maxHeartbeats 2000000 in
theorem T_do9 {d : Nat} {S : Sc} {M : Nat → Nat → Int32} {J : Nat → Nat → Int64} {τ : Rw} {g n BB : Nat} (hM : MoS S) (h0 : M 139 0 = nI n) (hI : I2 BB τ) (h0t : τ 0 = nI n) (hn3 : 3 ≤ n) (hn : n ≤ 12) (hg : g < 10000) (hk : g / 1000 = 9) : Wp (d + 8) 164 [.ref 137, .int (nI g)] (S, upA M 140 τ, J) (fun rs w' => rs = .inl (some (.int (gAns τ g 9))) ∧ w' = (S, upA M 140 (gRow τ g 9), J)) := by
  obtain ⟨⟨b137, p1, p8, p9, p10, p12, p13⟩, ⟨b138, b139, b140, b141, b142, b143⟩, n138, n139, n140, n141, n142, n143⟩ := id hM
  have e2 : nI g / 100 - nI g / 100 / 10 * 10 = nI (g / 100 % 10) := by rw [o_100, o_10, pk_div (by omega) (by omega) (by omega), pk_rem (by omega) (by omega) (by omega)]
  have e3 : nI g / 10 - nI g / 10 / 10 * 10 = nI (g / 10 % 10) := by rw [o_10, pk_div (by omega) (by omega) (by omega), pk_rem (by omega) (by omega) (by omega)]
  have e4 : nI g - nI g / 10 * 10 = nI (g % 10) := by rw [o_10, pk_rem (by omega) (by omega) (by omega)]
  have e5 : nI g - nI g / 1000 * 1000 = nI (g % 1000) := by rw [o_1000, pk_rem (by omega) (by omega) (by omega)]
  have e7 : 10 * nI (g / 10 % 10) + nI (g % 10) = nI (g % 100) := by rw [o_10, pk_mul, nI_add]; congr 1; omega
  have hv : nI g / 1000 = nI (g / 1000) := by rw [o_1000, pk_div (by omega) (by omega) (by omega)]
  rw [hk] at hv
  have hB3 := bok3 hI.1.2.1
  have hcn := hI.cnt
  have e139 : upA M 140 τ 139 0 = nI n := (congrFun (upA_n _ _ (by omega)) 0).trans h0
  have hz : (τ 0).toNatClampNeg = n := by rw [h0t, ck (by omega)]
  refine ⟨rfl, ?_⟩
  refine EE.runN (stop := noStop) 120 _ ?_
  refine ⟨by first | decide | first | (simp only [wI_1, wI_w, p1, p8, p9, p10, p12, p13, b137, b138, b139, b140, b141, b142, b143] <;> first | rfl | decide) | decide, ?_⟩
  refine ⟨by first | decide | first | (simp only [wI_1, wI_w, p1, p8, p9, p10, p12, p13, b137, b138, b139, b140, b141, b142, b143] <;> first | rfl | decide) | decide, ?_⟩
  refine ⟨by first | decide | first | (simp only [wI_1, wI_w, p1, p8, p9, p10, p12, p13, b137, b138, b139, b140, b141, b142, b143] <;> first | rfl | decide) | decide, ?_⟩
  refine ⟨by first | decide | first | (simp only [wI_1, wI_w, p1, p8, p9, p10, p12, p13, b137, b138, b139, b140, b141, b142, b143] <;> first | rfl | decide) | decide, ?_⟩
  refine ⟨by first | decide | first | (simp only [wI_1, wI_w, p1, p8, p9, p10, p12, p13, b137, b138, b139, b140, b141, b142, b143] <;> first | rfl | decide) | decide, ?_⟩
  refine ⟨by first | decide | first | (simp only [wI_1, wI_w, p1, p8, p9, p10, p12, p13, b137, b138, b139, b140, b141, b142, b143] <;> first | rfl | decide) | decide, ?_⟩
  refine ⟨by first | decide | first | (simp only [wI_1, wI_w, p1, p8, p9, p10, p12, p13, b137, b138, b139, b140, b141, b142, b143] <;> first | rfl | decide) | decide, ?_⟩
  refine ⟨fun h => absurd ((hv).symm.trans h) (by decide), fun _ => ?_⟩
  refine ⟨fun h => absurd ((hv).symm.trans h) (by decide), fun _ => ?_⟩
  refine ⟨fun h => absurd ((hv).symm.trans h) (by decide), fun _ => ?_⟩
  refine ⟨fun h => absurd ((hv).symm.trans h) (by decide), fun _ => ?_⟩
  refine ⟨fun h => absurd ((hv).symm.trans h) (by decide), fun _ => ?_⟩
  refine ⟨fun h => absurd ((hv).symm.trans h) (by decide), fun _ => ?_⟩
  refine ⟨fun h => absurd ((hv).symm.trans h) (by decide), fun _ => ?_⟩
  refine ⟨fun h => absurd ((hv).symm.trans h) (by decide), fun _ => ?_⟩
  refine ⟨fun _ => ?_, fun h => absurd hv h⟩
  refine ⟨⟨Nat.le_of_ble_eq_true rfl, Nat.le_of_ble_eq_true rfl, Nat.le_of_ble_eq_true rfl⟩, by first | (simp only [wI_1, wI_w, p1, p8, p9, p10, p12, p13, b137, b138, b139, b140, b141, b142, b143] <;> first | rfl | decide) | decide, _, by simp only [e2, e3, e4, e5, e7]; exact T_isSlot (n := n) hM e139 (by omega) hn, ?_⟩
  rintro _ w1 ⟨rfl, hw⟩
  subst hw
  (try rw [upA_s])
  refine ⟨Or.inl rfl, ?_⟩
  refine ⟨fun h1 => ?_, fun h1 => ?_⟩
  · (try simp only [wI_1, wI_w, p1, p8, p9, p10, p12, p13, e2, e3, e4, e5, e7, bI_e0, Classical.not_not, upA_s, tk_0, tk_1, tk_2, tk_3, tk_4, tk_5, tk_6, tk_7, tk_8, tk_9, tk_10, tk_11, tk_12, tk_13, tk_14, tk_15, tk_16, tk_17] at h1)
    have hP : ¬ (g % 100 = 0 ∧ g / 100 % 10 < (τ 0).toNatClampNeg ∧ (τ 3 = 1 ∧ ¬ nI (g / 100 % 10) = τ 7)) := fun h => h1 ((slot_i (by omega) (by omega)).mpr (by rw [← hz]; exact h.2.1))
    refine ⟨⟨Nat.zero_le _, Nat.zero_le _⟩, by decide, congrArg (fun v => Sum.inl (some (Value.int v))) (bI_f hP).symm, ?_⟩
    refine congrArg (fun m => (S, m, J)) ?_
    (try simp only [wI_1, wI_w, p1, p8, p9, p10, p12, p13, e2, e3, e4, e5, e7, upA_s, upA_uu, wI_M, wI_w, tk_0, tk_1, tk_2, tk_3, tk_4, tk_5, tk_6, tk_7, tk_8, tk_9, tk_10, tk_11, tk_12, tk_13, tk_14, tk_15, tk_16, tk_17])
    refine congrArg (upA M 140) ?_
    exact (if_neg hP).symm
  · refine ⟨fun h2 => ?_, fun h2 => ?_⟩
    · (try simp only [wI_1, wI_w, p1, p8, p9, p10, p12, p13, e2, e3, e4, e5, e7, bI_e0, Classical.not_not, upA_s, tk_0, tk_1, tk_2, tk_3, tk_4, tk_5, tk_6, tk_7, tk_8, tk_9, tk_10, tk_11, tk_12, tk_13, tk_14, tk_15, tk_16, tk_17] at h1)
      (try simp only [wI_1, wI_w, p1, p8, p9, p10, p12, p13, e2, e3, e4, e5, e7, bI_e0, Classical.not_not, upA_s, tk_0, tk_1, tk_2, tk_3, tk_4, tk_5, tk_6, tk_7, tk_8, tk_9, tk_10, tk_11, tk_12, tk_13, tk_14, tk_15, tk_16, tk_17] at h2)
      have hP : ¬ (g % 100 = 0 ∧ g / 100 % 10 < (τ 0).toNatClampNeg ∧ (τ 3 = 1 ∧ ¬ nI (g / 100 % 10) = τ 7)) := fun h => h2 ((n0 (by omega)).mpr h.1)
      refine ⟨⟨Nat.zero_le _, Nat.zero_le _⟩, by decide, congrArg (fun v => Sum.inl (some (Value.int v))) (bI_f hP).symm, ?_⟩
      refine congrArg (fun m => (S, m, J)) ?_
      (try simp only [wI_1, wI_w, p1, p8, p9, p10, p12, p13, e2, e3, e4, e5, e7, upA_s, upA_uu, wI_M, wI_w, tk_0, tk_1, tk_2, tk_3, tk_4, tk_5, tk_6, tk_7, tk_8, tk_9, tk_10, tk_11, tk_12, tk_13, tk_14, tk_15, tk_16, tk_17])
      refine congrArg (upA M 140) ?_
      exact (if_neg hP).symm
    · refine ⟨by first | (simp only [wI_1, wI_w, p1, p8, p9, p10, p12, p13, b137, b138, b139, b140, b141, b142, b143] <;> first | rfl | decide) | decide, ?_⟩
      refine ⟨⟨Nat.le_of_ble_eq_true rfl, Nat.le_of_ble_eq_true rfl, Nat.le_of_ble_eq_true rfl⟩, _, by simp only [wI_1, wI_w, p1, p8, p9, p10, p12, p13, e2, e3, e4, e5, e7, bI_e0, Classical.not_not, upA_s, tk_0, tk_1, tk_2, tk_3, tk_4, tk_5, tk_6, tk_7, tk_8, tk_9, tk_10, tk_11, tk_12, tk_13, tk_14, tk_15, tk_16, tk_17]; exact T_doReplace (s := g / 100 % 10) hM.trial (by omega), ?_⟩
      rintro _ w1 ⟨rfl, hw⟩
      have hw : w1 = (S, upA M 140 (rDoReplace τ (g / 100 % 10)), J) := by rw [hw, upA_s, upA_uu]
      subst hw
      rw [upA_s]
      refine ⟨Or.inl rfl, ?_⟩
      refine ⟨fun h3 => ?_, fun h3 => ?_⟩
      · (try simp only [wI_1, wI_w, p1, p8, p9, p10, p12, p13, e2, e3, e4, e5, e7, bI_e0, Classical.not_not, upA_s, tk_0, tk_1, tk_2, tk_3, tk_4, tk_5, tk_6, tk_7, tk_8, tk_9, tk_10, tk_11, tk_12, tk_13, tk_14, tk_15, tk_16, tk_17] at h1)
        (try simp only [wI_1, wI_w, p1, p8, p9, p10, p12, p13, e2, e3, e4, e5, e7, bI_e0, Classical.not_not, upA_s, tk_0, tk_1, tk_2, tk_3, tk_4, tk_5, tk_6, tk_7, tk_8, tk_9, tk_10, tk_11, tk_12, tk_13, tk_14, tk_15, tk_16, tk_17] at h2)
        (try simp only [wI_1, wI_w, p1, p8, p9, p10, p12, p13, e2, e3, e4, e5, e7, bI_e0, Classical.not_not, upA_s, tk_0, tk_1, tk_2, tk_3, tk_4, tk_5, tk_6, tk_7, tk_8, tk_9, tk_10, tk_11, tk_12, tk_13, tk_14, tk_15, tk_16, tk_17] at h3)
        have hP : ¬ (g % 100 = 0 ∧ g / 100 % 10 < (τ 0).toNatClampNeg ∧ (τ 3 = 1 ∧ ¬ nI (g / 100 % 10) = τ 7)) := fun h => h3 h.2.2
        refine ⟨⟨Nat.zero_le _, Nat.zero_le _⟩, by decide, congrArg (fun v => Sum.inl (some (Value.int v))) (bI_f hP).symm, ?_⟩
        refine congrArg (fun m => (S, m, J)) ?_
        (try simp only [wI_1, wI_w, p1, p8, p9, p10, p12, p13, e2, e3, e4, e5, e7, upA_s, upA_uu, wI_M, wI_w, tk_0, tk_1, tk_2, tk_3, tk_4, tk_5, tk_6, tk_7, tk_8, tk_9, tk_10, tk_11, tk_12, tk_13, tk_14, tk_15, tk_16, tk_17])
        refine congrArg (upA M 140) ?_
        exact (if_neg h3).trans (if_neg hP).symm
      · (try simp only [wI_1, wI_w, p1, p8, p9, p10, p12, p13, e2, e3, e4, e5, e7, bI_e0, Classical.not_not, upA_s, tk_0, tk_1, tk_2, tk_3, tk_4, tk_5, tk_6, tk_7, tk_8, tk_9, tk_10, tk_11, tk_12, tk_13, tk_14, tk_15, tk_16, tk_17] at h1)
        (try simp only [wI_1, wI_w, p1, p8, p9, p10, p12, p13, e2, e3, e4, e5, e7, bI_e0, Classical.not_not, upA_s, tk_0, tk_1, tk_2, tk_3, tk_4, tk_5, tk_6, tk_7, tk_8, tk_9, tk_10, tk_11, tk_12, tk_13, tk_14, tk_15, tk_16, tk_17] at h2)
        (try simp only [wI_1, wI_w, p1, p8, p9, p10, p12, p13, e2, e3, e4, e5, e7, bI_e0, Classical.not_not, upA_s, tk_0, tk_1, tk_2, tk_3, tk_4, tk_5, tk_6, tk_7, tk_8, tk_9, tk_10, tk_11, tk_12, tk_13, tk_14, tk_15, tk_16, tk_17] at h3)
        have hP : (g % 100 = 0 ∧ g / 100 % 10 < (τ 0).toNatClampNeg ∧ (τ 3 = 1 ∧ ¬ nI (g / 100 % 10) = τ 7)) := ⟨(n0 (by omega)).mp h2, by rw [hz]; exact (slot_i (by omega) (by omega)).mp h1, h3⟩
        refine ⟨⟨Nat.zero_le _, Nat.zero_le _⟩, by decide, congrArg (fun v => Sum.inl (some (Value.int v))) (bI_t hP).symm, ?_⟩
        refine congrArg (fun m => (S, m, J)) ?_
        (try simp only [wI_1, wI_w, p1, p8, p9, p10, p12, p13, e2, e3, e4, e5, e7, upA_s, upA_uu, wI_M, wI_w, tk_0, tk_1, tk_2, tk_3, tk_4, tk_5, tk_6, tk_7, tk_8, tk_9, tk_10, tk_11, tk_12, tk_13, tk_14, tk_15, tk_16, tk_17])
        refine congrArg (upA M 140) ?_
        exact (if_pos h3).trans (if_pos hP).symm
set_option maxHeartbeats 2000000 in
theorem T_do0 {d : Nat} {S : Sc} {M : Nat → Nat → Int32} {J : Nat → Nat → Int64} {τ : Rw} {g n BB : Nat} (hM : MoS S) (h0 : M 139 0 = nI n) (hI : I2 BB τ) (h0t : τ 0 = nI n) (hn3 : 3 ≤ n) (hn : n ≤ 12) (hg : g < 10000) (hk : g / 1000 = 0) : Wp (d + 8) 164 [.ref 137, .int (nI g)] (S, upA M 140 τ, J) (fun rs w' => rs = .inl (some (.int (gAns τ g 0))) ∧ w' = (S, upA M 140 (gRow τ g 0), J)) := by
  obtain ⟨⟨b137, p1, p8, p9, p10, p12, p13⟩, ⟨b138, b139, b140, b141, b142, b143⟩, n138, n139, n140, n141, n142, n143⟩ := id hM
  have e2 : nI g / 100 - nI g / 100 / 10 * 10 = nI (g / 100 % 10) := by rw [o_100, o_10, pk_div (by omega) (by omega) (by omega), pk_rem (by omega) (by omega) (by omega)]
  have e3 : nI g / 10 - nI g / 10 / 10 * 10 = nI (g / 10 % 10) := by rw [o_10, pk_div (by omega) (by omega) (by omega), pk_rem (by omega) (by omega) (by omega)]
  have e4 : nI g - nI g / 10 * 10 = nI (g % 10) := by rw [o_10, pk_rem (by omega) (by omega) (by omega)]
  have e5 : nI g - nI g / 1000 * 1000 = nI (g % 1000) := by rw [o_1000, pk_rem (by omega) (by omega) (by omega)]
  have e7 : 10 * nI (g / 10 % 10) + nI (g % 10) = nI (g % 100) := by rw [o_10, pk_mul, nI_add]; congr 1; omega
  have hv : nI g / 1000 = nI (g / 1000) := by rw [o_1000, pk_div (by omega) (by omega) (by omega)]
  rw [hk] at hv
  have hB3 := bok3 hI.1.2.1
  have hcn := hI.cnt
  have e139 : upA M 140 τ 139 0 = nI n := (congrFun (upA_n _ _ (by omega)) 0).trans h0
  have hz : (τ 0).toNatClampNeg = n := by rw [h0t, ck (by omega)]
  refine ⟨rfl, ?_⟩
  refine EE.runN (stop := noStop) 120 _ ?_
  refine ⟨by first | decide | first | (simp only [wI_1, wI_w, p1, p8, p9, p10, p12, p13, b137, b138, b139, b140, b141, b142, b143] <;> first | rfl | decide) | decide, ?_⟩
  refine ⟨by first | decide | first | (simp only [wI_1, wI_w, p1, p8, p9, p10, p12, p13, b137, b138, b139, b140, b141, b142, b143] <;> first | rfl | decide) | decide, ?_⟩
  refine ⟨by first | decide | first | (simp only [wI_1, wI_w, p1, p8, p9, p10, p12, p13, b137, b138, b139, b140, b141, b142, b143] <;> first | rfl | decide) | decide, ?_⟩
  refine ⟨by first | decide | first | (simp only [wI_1, wI_w, p1, p8, p9, p10, p12, p13, b137, b138, b139, b140, b141, b142, b143] <;> first | rfl | decide) | decide, ?_⟩
  refine ⟨by first | decide | first | (simp only [wI_1, wI_w, p1, p8, p9, p10, p12, p13, b137, b138, b139, b140, b141, b142, b143] <;> first | rfl | decide) | decide, ?_⟩
  refine ⟨by first | decide | first | (simp only [wI_1, wI_w, p1, p8, p9, p10, p12, p13, b137, b138, b139, b140, b141, b142, b143] <;> first | rfl | decide) | decide, ?_⟩
  refine ⟨by first | decide | first | (simp only [wI_1, wI_w, p1, p8, p9, p10, p12, p13, b137, b138, b139, b140, b141, b142, b143] <;> first | rfl | decide) | decide, ?_⟩
  refine ⟨fun h => absurd ((hv).symm.trans h) (by decide), fun _ => ?_⟩
  refine ⟨fun h => absurd ((hv).symm.trans h) (by decide), fun _ => ?_⟩
  refine ⟨fun h => absurd ((hv).symm.trans h) (by decide), fun _ => ?_⟩
  refine ⟨fun h => absurd ((hv).symm.trans h) (by decide), fun _ => ?_⟩
  refine ⟨fun h => absurd ((hv).symm.trans h) (by decide), fun _ => ?_⟩
  refine ⟨fun h => absurd ((hv).symm.trans h) (by decide), fun _ => ?_⟩
  refine ⟨fun h => absurd ((hv).symm.trans h) (by decide), fun _ => ?_⟩
  refine ⟨fun h => absurd ((hv).symm.trans h) (by decide), fun _ => ?_⟩
  refine ⟨fun h => absurd ((hv).symm.trans h) (by decide), fun _ => ?_⟩
  exact ⟨⟨Nat.zero_le _, Nat.zero_le _⟩, by decide, rfl, rfl⟩
theorem T_does {d : Nat} {S : Sc} {M : Nat → Nat → Int32} {J : Nat → Nat → Int64} {τ : Rw} {g n BB : Nat} (hM : MoS S) (h0 : M 139 0 = nI n) (hI : I2 BB τ) (h0t : τ 0 = nI n) (hn3 : 3 ≤ n) (hn : n ≤ 12) (hg : g < 10000) : Wp (d + 8) 164 [.ref 137, .int (nI g)] (S, upA M 140 τ, J) (fun rs w' => rs = .inl (some (.int (gAns τ g (g / 1000)))) ∧ w' = (S, upA M 140 (gRow τ g (g / 1000)), J)) := by
  rcases (by omega : g / 1000 = 0 ∨ g / 1000 = 1 ∨ g / 1000 = 2 ∨ g / 1000 = 3 ∨ g / 1000 = 4 ∨ g / 1000 = 5 ∨ g / 1000 = 6 ∨ g / 1000 = 7 ∨ g / 1000 = 8 ∨ g / 1000 = 9) with h | h | h | h | h | h | h | h | h | h
  · rw [h]
    exact T_do0 hM h0 hI h0t hn3 hn hg h
  · rw [h]
    exact T_do1 hM h0 hI h0t hn3 hn hg h
  · rw [h]
    exact T_do2 hM h0 hI h0t hn3 hn hg h
  · rw [h]
    exact T_do3 hM h0 hI h0t hn3 hn hg h
  · rw [h]
    exact T_do4 hM h0 hI h0t hn3 hn hg h
  · rw [h]
    exact T_do5 hM h0 hI h0t hn3 hn hg h
  · rw [h]
    exact T_do6 hM h0 hI h0t hn3 hn hg h
  · rw [h]
    exact T_do7 hM h0 hI h0t hn3 hn hg h
  · rw [h]
    exact T_do8 hM h0 hI h0t hn3 hn hg h
  · rw [h]
    exact T_do9 hM h0 hI h0t hn3 hn hg h
