/-! THE REFERENCE: commands: written by wip/whole/pure3.py -/
def rDoDrive (ρ : Rw) (t : Nat) : Rw := if ρ 3 = 0 then ρ else rGo t ρ
def rDoCut (ρ : Rw) (n k : Int32) : Rw := if ρ 3 = 0 then ρ else upd (upd ρ 10 n) 11 k
def rDoStart (ρ : Rw) : Rw := if ρ 3 = 1 then ρ else rPower ρ
def rDoServe (ρ : Rw) (c : Int32) (n : Nat) : Rw := if ρ 3 = 1 ∧ (ρ 17 < 12 ∨ ¬ rFnd ρ c n = -99999) then rServe ρ c n else ρ
def rDoReplace (ρ : Rw) (s : Nat) : Rw := if ρ 3 = 1 ∧ ¬ nI s = ρ 7 then rRenew ρ s else ρ
set_option maxHeartbeats 1000000 in
theorem T_doDrive {d : Nat} {S : Sc} {M : Nat → Nat → Int32} {J : Nat → Nat → Int64} {r t : Nat} (hR : RowS S r) (ht : t < 1000000) (hok : Rok (M r)) : Wp (d + 6) 131 [.ref r, .int (nI t)] (S, M, J) (fun rs w' => rs = .inl (some (.int (bI (¬ M r 3 = 0)))) ∧ w' = (S, upA M r (rDoDrive (M r) t), J)) := by
  refine ⟨rfl, ?_⟩
  refine EE.runN (stop := noStop) 80 _ ?_
  refine ⟨by exact hR.1, hR.vp (k := 3) (by omega), ?_⟩
  refine ⟨fun h1 => ?_, fun h1 => ?_⟩
  · refine ⟨⟨Nat.le_of_ble_eq_true rfl, Nat.le_of_ble_eq_true rfl, Nat.le_of_ble_eq_true rfl⟩, _, T_go hR ht hok, ?_⟩
    rintro _ _ ⟨rfl, rfl⟩
    refine ⟨Or.inl rfl, ?_⟩
    simp only [tk_0, tk_1, tk_2, tk_3, tk_4, tk_5, tk_6, tk_7, tk_8, tk_9, tk_10, tk_11, tk_12, tk_13, tk_14, tk_15, tk_16, tk_17, bI_e0, Classical.not_not] at h1
    refine ⟨⟨Nat.zero_le _, Nat.zero_le _⟩, by decide, ?_, ?_⟩
    · simp [bI, h1]
    · show (S, _, J) = (S, _, J)
      unfold rDoDrive
      first | rw [if_pos h1] | rw [if_neg h1]
      try simp only [wI_M, wI_1, upA_s, upA_uu, tk_0, tk_1, tk_2, tk_3, tk_4, tk_5, tk_6, tk_7, tk_8, tk_9, tk_10, tk_11, tk_12, tk_13, tk_14, tk_15, tk_16, tk_17]
      try rw [upA_id]
  · simp only [tk_0, tk_1, tk_2, tk_3, tk_4, tk_5, tk_6, tk_7, tk_8, tk_9, tk_10, tk_11, tk_12, tk_13, tk_14, tk_15, tk_16, tk_17, bI_e0, Classical.not_not] at h1
    refine ⟨⟨Nat.zero_le _, Nat.zero_le _⟩, by decide, ?_, ?_⟩
    · simp [bI, h1]
    · show (S, _, J) = (S, _, J)
      unfold rDoDrive
      first | rw [if_pos h1] | rw [if_neg h1]
      try simp only [wI_M, wI_1, upA_s, upA_uu, tk_0, tk_1, tk_2, tk_3, tk_4, tk_5, tk_6, tk_7, tk_8, tk_9, tk_10, tk_11, tk_12, tk_13, tk_14, tk_15, tk_16, tk_17]
      try rw [upA_id]
set_option maxHeartbeats 1000000 in
theorem T_doCut {d : Nat} {S : Sc} {M : Nat → Nat → Int32} {J : Nat → Nat → Int64} {r : Nat} {n k : Int32} (hR : RowS S r) : Wp (d + 1) 132 [.ref r, .int n, .int k] (S, M, J) (fun rs w' => rs = .inl (some (.int (bI (¬ M r 3 = 0)))) ∧ w' = (S, upA M r (rDoCut (M r) n k), J)) := by
  refine ⟨rfl, ?_⟩
  refine EE.runN (stop := noStop) 80 _ ?_
  refine ⟨by exact hR.1, hR.vp (k := 3) (by omega), ?_⟩
  refine ⟨fun h1 => ?_, fun h1 => ?_⟩
  · refine ⟨by exact hR.1, hR.vp (k := 10) (by omega), ?_⟩
    refine ⟨by exact hR.1, hR.vp (k := 11) (by omega), ?_⟩
    simp only [tk_0, tk_1, tk_2, tk_3, tk_4, tk_5, tk_6, tk_7, tk_8, tk_9, tk_10, tk_11, tk_12, tk_13, tk_14, tk_15, tk_16, tk_17, bI_e0, Classical.not_not] at h1
    refine ⟨⟨Nat.zero_le _, Nat.zero_le _⟩, by decide, ?_, ?_⟩
    · simp [bI, h1]
    · show (S, _, J) = (S, _, J)
      unfold rDoCut
      first | rw [if_pos h1] | rw [if_neg h1]
      try simp only [wI_M, wI_1, upA_s, upA_uu, tk_0, tk_1, tk_2, tk_3, tk_4, tk_5, tk_6, tk_7, tk_8, tk_9, tk_10, tk_11, tk_12, tk_13, tk_14, tk_15, tk_16, tk_17]
      try rw [upA_id]
  · simp only [tk_0, tk_1, tk_2, tk_3, tk_4, tk_5, tk_6, tk_7, tk_8, tk_9, tk_10, tk_11, tk_12, tk_13, tk_14, tk_15, tk_16, tk_17, bI_e0, Classical.not_not] at h1
    refine ⟨⟨Nat.zero_le _, Nat.zero_le _⟩, by decide, ?_, ?_⟩
    · simp [bI, h1]
    · show (S, _, J) = (S, _, J)
      unfold rDoCut
      first | rw [if_pos h1] | rw [if_neg h1]
      try simp only [wI_M, wI_1, upA_s, upA_uu, tk_0, tk_1, tk_2, tk_3, tk_4, tk_5, tk_6, tk_7, tk_8, tk_9, tk_10, tk_11, tk_12, tk_13, tk_14, tk_15, tk_16, tk_17]
      try rw [upA_id]
set_option maxHeartbeats 1000000 in
theorem T_doStart {d : Nat} {S : Sc} {M : Nat → Nat → Int32} {J : Nat → Nat → Int64} {r : Nat} (hR : RowS S r) (hok : Rok (M r)) : Wp (d + 5) 133 [.ref r] (S, M, J) (fun rs w' => rs = .inl (some (.int (bI (¬ M r 3 = 1)))) ∧ w' = (S, upA M r (rDoStart (M r)), J)) := by
  refine ⟨rfl, ?_⟩
  refine EE.runN (stop := noStop) 80 _ ?_
  refine ⟨by exact hR.1, hR.vp (k := 3) (by omega), ?_⟩
  refine ⟨fun h1 => ?_, fun h1 => ?_⟩
  · refine ⟨⟨Nat.le_of_ble_eq_true rfl, Nat.le_of_ble_eq_true rfl, Nat.le_of_ble_eq_true rfl⟩, _, T_power hR hok, ?_⟩
    rintro _ _ ⟨rfl, rfl⟩
    refine ⟨Or.inl rfl, ?_⟩
    simp only [tk_0, tk_1, tk_2, tk_3, tk_4, tk_5, tk_6, tk_7, tk_8, tk_9, tk_10, tk_11, tk_12, tk_13, tk_14, tk_15, tk_16, tk_17, bI_e0, Classical.not_not] at h1
    refine ⟨⟨Nat.zero_le _, Nat.zero_le _⟩, by decide, ?_, ?_⟩
    · simp [bI, h1]
    · show (S, _, J) = (S, _, J)
      unfold rDoStart
      first | rw [if_pos h1] | rw [if_neg h1]
      try simp only [wI_M, wI_1, upA_s, upA_uu, tk_0, tk_1, tk_2, tk_3, tk_4, tk_5, tk_6, tk_7, tk_8, tk_9, tk_10, tk_11, tk_12, tk_13, tk_14, tk_15, tk_16, tk_17]
      try rw [upA_id]
  · simp only [tk_0, tk_1, tk_2, tk_3, tk_4, tk_5, tk_6, tk_7, tk_8, tk_9, tk_10, tk_11, tk_12, tk_13, tk_14, tk_15, tk_16, tk_17, bI_e0, Classical.not_not] at h1
    refine ⟨⟨Nat.zero_le _, Nat.zero_le _⟩, by decide, ?_, ?_⟩
    · simp [bI, h1]
    · show (S, _, J) = (S, _, J)
      unfold rDoStart
      first | rw [if_pos h1] | rw [if_neg h1]
      try simp only [wI_M, wI_1, upA_s, upA_uu, tk_0, tk_1, tk_2, tk_3, tk_4, tk_5, tk_6, tk_7, tk_8, tk_9, tk_10, tk_11, tk_12, tk_13, tk_14, tk_15, tk_16, tk_17]
      try rw [upA_id]
set_option maxHeartbeats 1000000 in
theorem T_doServe {d : Nat} {S : Sc} {M : Nat → Nat → Int32} {J : Nat → Nat → Int64} {r n : Nat} {x y : Int32} (hR : RowS S r) (hn : n ≤ 12) (h17 : M r 17 = nI n) : Wp (d + 3) 134 [.ref r, .int x, .int y] (S, M, J) (fun rs w' => rs = .inl (some (.int (bI (M r 3 = 1 ∧ (M r 17 < 12 ∨ ¬ rFnd (M r) (10 * x + y) n = -99999))))) ∧ w' = (S, upA M r (rDoServe (M r) (10 * x + y) n), J)) := by
  refine ⟨rfl, ?_⟩
  refine EE.runN (stop := noStop) 80 _ ?_
  refine ⟨⟨Nat.le_of_ble_eq_true rfl, Nat.le_of_ble_eq_true rfl, Nat.le_of_ble_eq_true rfl⟩, _, T_canServe hR hn h17, ?_⟩
  rintro _ _ ⟨rfl, rfl⟩
  refine ⟨Or.inl rfl, ?_⟩
  refine ⟨fun h1 => ?_, fun h1 => ?_⟩
  · refine ⟨⟨Nat.le_of_ble_eq_true rfl, Nat.le_of_ble_eq_true rfl, Nat.le_of_ble_eq_true rfl⟩, _, T_serve hR hn h17, ?_⟩
    rintro _ _ ⟨rfl, rfl⟩
    refine ⟨Or.inl rfl, ?_⟩
    simp only [tk_0, tk_1, tk_2, tk_3, tk_4, tk_5, tk_6, tk_7, tk_8, tk_9, tk_10, tk_11, tk_12, tk_13, tk_14, tk_15, tk_16, tk_17, bI_e0, Classical.not_not] at h1
    refine ⟨⟨Nat.zero_le _, Nat.zero_le _⟩, by decide, ?_, ?_⟩
    · simp [bI, h1]
    · show (S, _, J) = (S, _, J)
      unfold rDoServe
      first | rw [if_pos h1] | rw [if_neg h1]
      try simp only [wI_M, wI_1, upA_s, upA_uu, tk_0, tk_1, tk_2, tk_3, tk_4, tk_5, tk_6, tk_7, tk_8, tk_9, tk_10, tk_11, tk_12, tk_13, tk_14, tk_15, tk_16, tk_17]
      try rw [upA_id]
  · simp only [tk_0, tk_1, tk_2, tk_3, tk_4, tk_5, tk_6, tk_7, tk_8, tk_9, tk_10, tk_11, tk_12, tk_13, tk_14, tk_15, tk_16, tk_17, bI_e0, Classical.not_not] at h1
    refine ⟨⟨Nat.zero_le _, Nat.zero_le _⟩, by decide, ?_, ?_⟩
    · simp [bI, h1]
    · show (S, _, J) = (S, _, J)
      unfold rDoServe
      first | rw [if_pos h1] | rw [if_neg h1]
      try simp only [wI_M, wI_1, upA_s, upA_uu, tk_0, tk_1, tk_2, tk_3, tk_4, tk_5, tk_6, tk_7, tk_8, tk_9, tk_10, tk_11, tk_12, tk_13, tk_14, tk_15, tk_16, tk_17]
      try rw [upA_id]
set_option maxHeartbeats 1000000 in
theorem T_doReplace {d : Nat} {S : Sc} {M : Nat → Nat → Int32} {J : Nat → Nat → Int64} {r s : Nat} (hR : RowS S r) (hs : s < 12) : Wp (d + 4) 135 [.ref r, .int (nI s)] (S, M, J) (fun rs w' => rs = .inl (some (.int (bI (M r 3 = 1 ∧ ¬ nI s = M r 7)))) ∧ w' = (S, upA M r (rDoReplace (M r) s), J)) := by
  refine ⟨rfl, ?_⟩
  refine EE.runN (stop := noStop) 80 _ ?_
  refine ⟨⟨Nat.le_of_ble_eq_true rfl, Nat.le_of_ble_eq_true rfl, Nat.le_of_ble_eq_true rfl⟩, _, T_rCanReplace hR, ?_⟩
  rintro _ _ ⟨rfl, rfl⟩
  refine ⟨Or.inl rfl, ?_⟩
  refine ⟨fun h1 => ?_, fun h1 => ?_⟩
  · refine ⟨⟨Nat.le_of_ble_eq_true rfl, Nat.le_of_ble_eq_true rfl, Nat.le_of_ble_eq_true rfl⟩, _, T_rRenew hR hs, ?_⟩
    rintro _ _ ⟨rfl, rfl⟩
    refine ⟨Or.inl rfl, ?_⟩
    simp only [tk_0, tk_1, tk_2, tk_3, tk_4, tk_5, tk_6, tk_7, tk_8, tk_9, tk_10, tk_11, tk_12, tk_13, tk_14, tk_15, tk_16, tk_17, bI_e0, Classical.not_not] at h1
    refine ⟨⟨Nat.zero_le _, Nat.zero_le _⟩, by decide, ?_, ?_⟩
    · simp [bI, h1]
    · show (S, _, J) = (S, _, J)
      unfold rDoReplace
      first | rw [if_pos h1] | rw [if_neg h1]
      try simp only [wI_M, wI_1, upA_s, upA_uu, tk_0, tk_1, tk_2, tk_3, tk_4, tk_5, tk_6, tk_7, tk_8, tk_9, tk_10, tk_11, tk_12, tk_13, tk_14, tk_15, tk_16, tk_17]
      try rw [upA_id]
  · simp only [tk_0, tk_1, tk_2, tk_3, tk_4, tk_5, tk_6, tk_7, tk_8, tk_9, tk_10, tk_11, tk_12, tk_13, tk_14, tk_15, tk_16, tk_17, bI_e0, Classical.not_not] at h1
    refine ⟨⟨Nat.zero_le _, Nat.zero_le _⟩, by decide, ?_, ?_⟩
    · simp [bI, h1]
    · show (S, _, J) = (S, _, J)
      unfold rDoReplace
      first | rw [if_pos h1] | rw [if_neg h1]
      try simp only [wI_M, wI_1, upA_s, upA_uu, tk_0, tk_1, tk_2, tk_3, tk_4, tk_5, tk_6, tk_7, tk_8, tk_9, tk_10, tk_11, tk_12, tk_13, tk_14, tk_15, tk_16, tk_17]
      try rw [upA_id]
