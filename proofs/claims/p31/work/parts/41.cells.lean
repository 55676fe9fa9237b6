/-! THE CLASS: Cells: written by wip/whole/pure3.py -/
set_option maxHeartbeats 1000000 in
theorem T_hasSlot {d : Nat} {S : Sc} {M : Nat → Nat → Int32} {J : Nat → Nat → Int64} {b : Nat} {σ : Rw} (hS : OdS S b) {o : Nat} (ho : o = b + 1) {x : Int32} : Wp (d + 1) 3 [.ref o, .int x] (S, sO M b σ, J) (fun rs w' => rs = .inl (some (.int (bI (¬ x < 0 ∧ ¬ σ 0 ≤ x)))) ∧ w' = (S, sO M b (σ), J)) := by
  subst ho
  obtain ⟨⟨k0, k1, k2, k3, k4, k5, k6⟩, ⟨r0, r1, r12, r13, r41, r42⟩, l2, l3, l5, l6⟩ := id hS
  refine ⟨rfl, ?_⟩
  refine EE.runN (stop := noStop) 100 _ ?_
  refine ⟨fun h1 => ?_, fun h1 => ?_⟩
  · try simp only [wI_M, tk_0, tk_1, tk_2, tk_3, tk_4, tk_5, tk_6, tk_7, tk_8, tk_9, tk_10, tk_11, tk_12, tk_13, tk_14, tk_15, tk_16, tk_17, rd0_2, wr0_2, rd0_3, wr0_3, rd0_4, wr0_4, rd0_5, wr0_5, rd0_6, wr0_6, rd0_7, wr0_7, rd0_8, wr0_8, rd0_9, wr0_9, rd0_10, wr0_10, rd0_11, wr0_11, rd0_12, wr0_12, rd0_13, wr0_13, rd0_14, wr0_14, rd0_15, wr0_15, rd0_16, wr0_16, rd1_0, wr1_0, rd1_1, wr1_1, rd4_0, wr4_0, wI_1, r0, r1, r12, r13, r41, r42] at h1
    refine ⟨⟨Nat.zero_le _, Nat.zero_le _⟩, by decide, ?_, ?_⟩
    · simp [-Int32.not_le, -Int32.not_lt, bI, h1]
    · rfl
  · refine ⟨by simp only [wI_1, r0, r1, r12, r13, r41, r42, k0, k1, k2, k3, k4, k5, k6] <;> first | rfl | decide, ?_⟩
    refine ⟨fun h2 => ?_, fun h2 => ?_⟩
    · try simp only [wI_M, tk_0, tk_1, tk_2, tk_3, tk_4, tk_5, tk_6, tk_7, tk_8, tk_9, tk_10, tk_11, tk_12, tk_13, tk_14, tk_15, tk_16, tk_17, rd0_2, wr0_2, rd0_3, wr0_3, rd0_4, wr0_4, rd0_5, wr0_5, rd0_6, wr0_6, rd0_7, wr0_7, rd0_8, wr0_8, rd0_9, wr0_9, rd0_10, wr0_10, rd0_11, wr0_11, rd0_12, wr0_12, rd0_13, wr0_13, rd0_14, wr0_14, rd0_15, wr0_15, rd0_16, wr0_16, rd1_0, wr1_0, rd1_1, wr1_1, rd4_0, wr4_0, wI_1, r0, r1, r12, r13, r41, r42] at h1 h2
      refine ⟨⟨Nat.zero_le _, Nat.zero_le _⟩, by decide, ?_, ?_⟩
      · simp [-Int32.not_le, -Int32.not_lt, bI, h1, h2]
      · rfl
    · try simp only [wI_M, tk_0, tk_1, tk_2, tk_3, tk_4, tk_5, tk_6, tk_7, tk_8, tk_9, tk_10, tk_11, tk_12, tk_13, tk_14, tk_15, tk_16, tk_17, rd0_2, wr0_2, rd0_3, wr0_3, rd0_4, wr0_4, rd0_5, wr0_5, rd0_6, wr0_6, rd0_7, wr0_7, rd0_8, wr0_8, rd0_9, wr0_9, rd0_10, wr0_10, rd0_11, wr0_11, rd0_12, wr0_12, rd0_13, wr0_13, rd0_14, wr0_14, rd0_15, wr0_15, rd0_16, wr0_16, rd1_0, wr1_0, rd1_1, wr1_1, rd4_0, wr4_0, wI_1, r0, r1, r12, r13, r41, r42] at h1 h2
      refine ⟨⟨Nat.zero_le _, Nat.zero_le _⟩, by decide, ?_, ?_⟩
      · simp [-Int32.not_le, -Int32.not_lt, bI, h1, h2]
      · rfl
set_option maxHeartbeats 1000000 in
theorem T_slotBehind {d : Nat} {S : Sc} {M : Nat → Nat → Int32} {J : Nat → Nat → Int64} {b : Nat} {σ : Rw} (hS : OdS S b) {o : Nat} (ho : o = b + 1) {s n : Nat} (h0 : σ 0 = nI n) (hn : n ≤ 12) (hs : s < n) : Wp (d + 1) 4 [.ref o, .int (nI s)] (S, sO M b σ, J) (fun rs w' => rs = .inl (some (.int (nI (if s + 1 < n then s + 1 else 0)))) ∧ w' = (S, sO M b (σ), J)) := by
  subst ho
  obtain ⟨⟨k0, k1, k2, k3, k4, k5, k6⟩, ⟨r0, r1, r12, r13, r41, r42⟩, l2, l3, l5, l6⟩ := id hS
  refine ⟨rfl, ?_⟩
  refine EE.runN (stop := noStop) 100 _ ?_
  refine ⟨by simp only [wI_1, r0, r1, r12, r13, r41, r42, k0, k1, k2, k3, k4, k5, k6] <;> first | rfl | decide, ?_⟩
  refine ⟨fun h1 => ?_, fun h1 => ?_⟩
  · refine ⟨⟨Nat.zero_le _, Nat.zero_le _⟩, ?_, rfl⟩
    simp only [wI_M, tk_0, tk_1, tk_2, tk_3, tk_4, tk_5, tk_6, tk_7, tk_8, tk_9, tk_10, tk_11, tk_12, tk_13, tk_14, tk_15, tk_16, tk_17, rd0_2, wr0_2, rd0_3, wr0_3, rd0_4, wr0_4, rd0_5, wr0_5, rd0_6, wr0_6, rd0_7, wr0_7, rd0_8, wr0_8, rd0_9, wr0_9, rd0_10, wr0_10, rd0_11, wr0_11, rd0_12, wr0_12, rd0_13, wr0_13, rd0_14, wr0_14, rd0_15, wr0_15, rd0_16, wr0_16, rd1_0, wr1_0, rd1_1, wr1_1, rd4_0, wr4_0, wI_1, r0, r1, r12, r13, r41, r42, h0, nI_1] at h1
    rcases Nat.lt_or_ge (s + 1) n with h | h
    · first | exact absurd h1 (nI_ge h (by omega)) | (rw [if_pos h, ← nI_1])
    · first | exact absurd (nI_le h (by omega)) h1 | (rw [if_neg (by omega)]; rfl)
  · refine ⟨⟨Nat.zero_le _, Nat.zero_le _⟩, ?_, rfl⟩
    simp only [wI_M, tk_0, tk_1, tk_2, tk_3, tk_4, tk_5, tk_6, tk_7, tk_8, tk_9, tk_10, tk_11, tk_12, tk_13, tk_14, tk_15, tk_16, tk_17, rd0_2, wr0_2, rd0_3, wr0_3, rd0_4, wr0_4, rd0_5, wr0_5, rd0_6, wr0_6, rd0_7, wr0_7, rd0_8, wr0_8, rd0_9, wr0_9, rd0_10, wr0_10, rd0_11, wr0_11, rd0_12, wr0_12, rd0_13, wr0_13, rd0_14, wr0_14, rd0_15, wr0_15, rd0_16, wr0_16, rd1_0, wr1_0, rd1_1, wr1_1, rd4_0, wr4_0, wI_1, r0, r1, r12, r13, r41, r42, h0, nI_1] at h1
    rcases Nat.lt_or_ge (s + 1) n with h | h
    · first | exact absurd h1 (nI_ge h (by omega)) | (rw [if_pos h, ← nI_1])
    · first | exact absurd (nI_le h (by omega)) h1 | (rw [if_neg (by omega)]; rfl)
set_option maxHeartbeats 1000000 in
theorem T_numberIn {d : Nat} {S : Sc} {M : Nat → Nat → Int32} {J : Nat → Nat → Int64} {b : Nat} {σ : Rw} (hS : OdS S b) {o : Nat} (ho : o = b + 1) {s i : Nat} (hs : s < 12) (hi : i < 3) : Wp (d + 1) 5 [.ref o, .int (nI s), .int (nI i)] (S, sO M b σ, J) (fun rs w' => rs = .inl (some (.int (σ (42 + 2 * (3 * s + i))))) ∧ w' = (S, sO M b (σ), J)) := by
  subst ho
  obtain ⟨⟨k0, k1, k2, k3, k4, k5, k6⟩, ⟨r0, r1, r12, r13, r41, r42⟩, l2, l3, l5, l6⟩ := id hS
  have e : nI s * 3 + nI i = nI (3 * s + i) := by rw [o_3, pk_mul, nI_add, Nat.mul_comm]
  have c := ck (k := 3 * s + i) (by omega)
  have q36 : 3 * s + i < 36 := by omega
  have d2 := fun (τ : Rw) => rd2 M b τ q36
  have d3 := fun (τ : Rw) => rd3 M b τ q36
  have u2 := fun (τ : Rw) (x : Int32) => wr2 M b τ x q36
  have u3 := fun (τ : Rw) (x : Int32) => wr3 M b τ x q36
  refine ⟨rfl, ?_⟩
  refine EE.runN (stop := noStop) 100 _ ?_
  refine ⟨fun h1 => ?_, fun h1 => ?_⟩
  · exact absurd (show nI s * 3 + nI i < 0 from h1) (by rw [e]; exact nI_pos (by omega))
  · refine ⟨by simp only [wI_1, r0, r1, r12, r13, r41, r42, k0, k1, k2, k3, k4, k5, k6] <;> first | rfl | decide, ?_⟩
    refine ⟨by simp only [wI_1, r0, r1, r12, r13, r41, r42, k0, k1, k2, k3, k4, k5, k6] <;> first | rfl | decide, ?_⟩
    refine ⟨fun h2 => ?_, fun h2 => ?_⟩
    · (have h_ : Int32.ofNat _ ≤ nI s * 3 + nI i := h2; simp only [wI_1, r0, r1, r12, r13, r41, r42, l2, e] at h_; exact absurd h_ (nI_ge (b := 36) (by omega) (by omega)))
    · refine ⟨by simp only [wI_1, r0, r1, r12, r13, r41, r42, k0, k1, k2, k3, k4, k5, k6] <;> first | rfl | decide, ?_⟩
      refine ⟨by simp only [wI_1, r0, r1, r12, r13, r41, r42, k0, k1, k2, k3, k4, k5, k6] <;> first | rfl | decide, (by simp only [wI_1, r0, r1, r12, r13, r41, r42, l2, e]; exact vp_in_nI (by omega) (by omega)), ?_⟩
      refine ⟨⟨Nat.zero_le _, Nat.zero_le _⟩, ?_, rfl⟩
      simp only [wI_M, tk_0, tk_1, tk_2, tk_3, tk_4, tk_5, tk_6, tk_7, tk_8, tk_9, tk_10, tk_11, tk_12, tk_13, tk_14, tk_15, tk_16, tk_17, rd0_2, wr0_2, rd0_3, wr0_3, rd0_4, wr0_4, rd0_5, wr0_5, rd0_6, wr0_6, rd0_7, wr0_7, rd0_8, wr0_8, rd0_9, wr0_9, rd0_10, wr0_10, rd0_11, wr0_11, rd0_12, wr0_12, rd0_13, wr0_13, rd0_14, wr0_14, rd0_15, wr0_15, rd0_16, wr0_16, rd1_0, wr1_0, rd1_1, wr1_1, rd4_0, wr4_0, wI_1, r0, r1, r12, r13, r41, r42, e, c, d2, d3, u2, u3]
set_option maxHeartbeats 1000000 in
theorem T_wearOf {d : Nat} {S : Sc} {M : Nat → Nat → Int32} {J : Nat → Nat → Int64} {b : Nat} {σ : Rw} (hS : OdS S b) {o : Nat} (ho : o = b + 1) {s i : Nat} (hs : s < 12) (hi : i < 3) : Wp (d + 1) 6 [.ref o, .int (nI s), .int (nI i)] (S, sO M b σ, J) (fun rs w' => rs = .inl (some (.int (σ (43 + 2 * (3 * s + i))))) ∧ w' = (S, sO M b (σ), J)) := by
  subst ho
  obtain ⟨⟨k0, k1, k2, k3, k4, k5, k6⟩, ⟨r0, r1, r12, r13, r41, r42⟩, l2, l3, l5, l6⟩ := id hS
  have e : nI s * 3 + nI i = nI (3 * s + i) := by rw [o_3, pk_mul, nI_add, Nat.mul_comm]
  have c := ck (k := 3 * s + i) (by omega)
  have q36 : 3 * s + i < 36 := by omega
  have d2 := fun (τ : Rw) => rd2 M b τ q36
  have d3 := fun (τ : Rw) => rd3 M b τ q36
  have u2 := fun (τ : Rw) (x : Int32) => wr2 M b τ x q36
  have u3 := fun (τ : Rw) (x : Int32) => wr3 M b τ x q36
  refine ⟨rfl, ?_⟩
  refine EE.runN (stop := noStop) 100 _ ?_
  refine ⟨fun h1 => ?_, fun h1 => ?_⟩
  · exact absurd (show nI s * 3 + nI i < 0 from h1) (by rw [e]; exact nI_pos (by omega))
  · refine ⟨by simp only [wI_1, r0, r1, r12, r13, r41, r42, k0, k1, k2, k3, k4, k5, k6] <;> first | rfl | decide, ?_⟩
    refine ⟨by simp only [wI_1, r0, r1, r12, r13, r41, r42, k0, k1, k2, k3, k4, k5, k6] <;> first | rfl | decide, ?_⟩
    refine ⟨fun h2 => ?_, fun h2 => ?_⟩
    · (have h_ : Int32.ofNat _ ≤ nI s * 3 + nI i := h2; simp only [wI_1, r0, r1, r12, r13, r41, r42, l3, e] at h_; exact absurd h_ (nI_ge (b := 36) (by omega) (by omega)))
    · refine ⟨by simp only [wI_1, r0, r1, r12, r13, r41, r42, k0, k1, k2, k3, k4, k5, k6] <;> first | rfl | decide, ?_⟩
      refine ⟨by simp only [wI_1, r0, r1, r12, r13, r41, r42, k0, k1, k2, k3, k4, k5, k6] <;> first | rfl | decide, (by simp only [wI_1, r0, r1, r12, r13, r41, r42, l3, e]; exact vp_in_nI (by omega) (by omega)), ?_⟩
      refine ⟨⟨Nat.zero_le _, Nat.zero_le _⟩, ?_, rfl⟩
      simp only [wI_M, tk_0, tk_1, tk_2, tk_3, tk_4, tk_5, tk_6, tk_7, tk_8, tk_9, tk_10, tk_11, tk_12, tk_13, tk_14, tk_15, tk_16, tk_17, rd0_2, wr0_2, rd0_3, wr0_3, rd0_4, wr0_4, rd0_5, wr0_5, rd0_6, wr0_6, rd0_7, wr0_7, rd0_8, wr0_8, rd0_9, wr0_9, rd0_10, wr0_10, rd0_11, wr0_11, rd0_12, wr0_12, rd0_13, wr0_13, rd0_14, wr0_14, rd0_15, wr0_15, rd0_16, wr0_16, rd1_0, wr1_0, rd1_1, wr1_1, rd4_0, wr4_0, wI_1, r0, r1, r12, r13, r41, r42, e, c, d2, d3, u2, u3]
set_option maxHeartbeats 1000000 in
theorem T_isStuck {d : Nat} {S : Sc} {M : Nat → Nat → Int32} {J : Nat → Nat → Int64} {b : Nat} {σ : Rw} (hS : OdS S b) {o : Nat} (ho : o = b + 1) {s i : Nat} (hs : s < 12) (hi : i < 3) : Wp (d + 2) 7 [.ref o, .int (nI s), .int (nI i)] (S, sO M b σ, J) (fun rs w' => rs = .inl (some (.int (bI (¬ σ (43 + 2 * (3 * s + i)) < σ 2)))) ∧ w' = (S, sO M b (σ), J)) := by
  subst ho
  obtain ⟨⟨k0, k1, k2, k3, k4, k5, k6⟩, ⟨r0, r1, r12, r13, r41, r42⟩, l2, l3, l5, l6⟩ := id hS
  refine ⟨rfl, ?_⟩
  refine EE.runN (stop := noStop) 100 _ ?_
  refine ⟨⟨Nat.le_of_ble_eq_true rfl, Nat.le_of_ble_eq_true rfl, Nat.le_of_ble_eq_true rfl⟩, by simp only [wI_1, r0, r1, r12, r13, r41, r42, k0, k1, k2, k3, k4, k5, k6] <;> first | rfl | decide, _, T_wearOf hS rfl hs hi, ?_⟩
  rintro _ _ ⟨rfl, rfl⟩
  refine ⟨Or.inl rfl, ?_⟩
  refine ⟨by simp only [wI_1, r0, r1, r12, r13, r41, r42, k0, k1, k2, k3, k4, k5, k6] <;> first | rfl | decide, ?_⟩
  refine ⟨fun h1 => ?_, fun h1 => ?_⟩
  · try simp only [wI_M, tk_0, tk_1, tk_2, tk_3, tk_4, tk_5, tk_6, tk_7, tk_8, tk_9, tk_10, tk_11, tk_12, tk_13, tk_14, tk_15, tk_16, tk_17, rd0_2, wr0_2, rd0_3, wr0_3, rd0_4, wr0_4, rd0_5, wr0_5, rd0_6, wr0_6, rd0_7, wr0_7, rd0_8, wr0_8, rd0_9, wr0_9, rd0_10, wr0_10, rd0_11, wr0_11, rd0_12, wr0_12, rd0_13, wr0_13, rd0_14, wr0_14, rd0_15, wr0_15, rd0_16, wr0_16, rd1_0, wr1_0, rd1_1, wr1_1, rd4_0, wr4_0, wI_1, r0, r1, r12, r13, r41, r42] at h1
    refine ⟨⟨Nat.zero_le _, Nat.zero_le _⟩, by decide, ?_, ?_⟩
    · simp [-Int32.not_le, -Int32.not_lt, bI, h1]
    · rfl
  · try simp only [wI_M, tk_0, tk_1, tk_2, tk_3, tk_4, tk_5, tk_6, tk_7, tk_8, tk_9, tk_10, tk_11, tk_12, tk_13, tk_14, tk_15, tk_16, tk_17, rd0_2, wr0_2, rd0_3, wr0_3, rd0_4, wr0_4, rd0_5, wr0_5, rd0_6, wr0_6, rd0_7, wr0_7, rd0_8, wr0_8, rd0_9, wr0_9, rd0_10, wr0_10, rd0_11, wr0_11, rd0_12, wr0_12, rd0_13, wr0_13, rd0_14, wr0_14, rd0_15, wr0_15, rd0_16, wr0_16, rd1_0, wr1_0, rd1_1, wr1_1, rd4_0, wr4_0, wI_1, r0, r1, r12, r13, r41, r42] at h1
    refine ⟨⟨Nat.zero_le _, Nat.zero_le _⟩, by decide, ?_, ?_⟩
    · simp [-Int32.not_le, -Int32.not_lt, bI, h1]
    · rfl
set_option maxHeartbeats 1000000 in
theorem T_wearOfSlot {d : Nat} {S : Sc} {M : Nat → Nat → Int32} {J : Nat → Nat → Int64} {b : Nat} {σ : Rw} (hS : OdS S b) {o : Nat} (ho : o = b + 1) {s : Nat} (hs : s < 12) : Wp (d + 2) 8 [.ref o, .int (nI s)] (S, sO M b σ, J) (fun rs w' => rs = .inl (some (.int (rWear σ s))) ∧ w' = (S, sO M b (σ), J)) := by
  subst ho
  obtain ⟨⟨k0, k1, k2, k3, k4, k5, k6⟩, ⟨r0, r1, r12, r13, r41, r42⟩, l2, l3, l5, l6⟩ := id hS
  refine ⟨rfl, ?_⟩
  refine EE.runN (stop := noStop) 100 _ ?_
  refine ⟨⟨Nat.le_of_ble_eq_true rfl, Nat.le_of_ble_eq_true rfl, Nat.le_of_ble_eq_true rfl⟩, by simp only [wI_1, r0, r1, r12, r13, r41, r42, k0, k1, k2, k3, k4, k5, k6] <;> first | rfl | decide, _, T_wearOf (i := 0) hS rfl hs (by omega), ?_⟩
  rintro _ _ ⟨rfl, rfl⟩
  refine ⟨Or.inl rfl, ?_⟩
  refine ⟨⟨Nat.le_of_ble_eq_true rfl, Nat.le_of_ble_eq_true rfl, Nat.le_of_ble_eq_true rfl⟩, by simp only [wI_1, r0, r1, r12, r13, r41, r42, k0, k1, k2, k3, k4, k5, k6] <;> first | rfl | decide, _, T_wearOf (i := 1) hS rfl hs (by omega), ?_⟩
  rintro _ _ ⟨rfl, rfl⟩
  refine ⟨Or.inl rfl, ?_⟩
  refine ⟨⟨Nat.le_of_ble_eq_true rfl, Nat.le_of_ble_eq_true rfl, Nat.le_of_ble_eq_true rfl⟩, by simp only [wI_1, r0, r1, r12, r13, r41, r42, k0, k1, k2, k3, k4, k5, k6] <;> first | rfl | decide, _, T_wearOf (i := 2) hS rfl hs (by omega), ?_⟩
  rintro _ _ ⟨rfl, rfl⟩
  refine ⟨Or.inl rfl, ?_⟩
  refine ⟨⟨Nat.zero_le _, Nat.zero_le _⟩, ?_, rfl⟩
  rw [rWear, Int32.zero_add]
set_option maxHeartbeats 1000000 in
theorem T_spokenBy {d : Nat} {S : Sc} {M : Nat → Nat → Int32} {J : Nat → Nat → Int64} {b : Nat} {σ : Rw} (hS : OdS S b) {o : Nat} (ho : o = b + 1) {s : Nat} (hs : s < 12) : Wp (d + 2) 9 [.ref o, .int (nI s)] (S, sO M b σ, J) (fun rs w' => rs = .inl (some (.int (rSays σ s))) ∧ w' = (S, sO M b (σ), J)) := by
  subst ho
  obtain ⟨⟨k0, k1, k2, k3, k4, k5, k6⟩, ⟨r0, r1, r12, r13, r41, r42⟩, l2, l3, l5, l6⟩ := id hS
  refine ⟨rfl, ?_⟩
  refine EE.runN (stop := noStop) 100 _ ?_
  refine ⟨⟨Nat.le_of_ble_eq_true rfl, Nat.le_of_ble_eq_true rfl, Nat.le_of_ble_eq_true rfl⟩, by simp only [wI_1, r0, r1, r12, r13, r41, r42, k0, k1, k2, k3, k4, k5, k6] <;> first | rfl | decide, _, T_numberIn (i := 0) hS rfl hs (by omega), ?_⟩
  rintro _ _ ⟨rfl, rfl⟩
  refine ⟨Or.inl rfl, ?_⟩
  refine ⟨⟨Nat.le_of_ble_eq_true rfl, Nat.le_of_ble_eq_true rfl, Nat.le_of_ble_eq_true rfl⟩, by simp only [wI_1, r0, r1, r12, r13, r41, r42, k0, k1, k2, k3, k4, k5, k6] <;> first | rfl | decide, _, T_numberIn (i := 1) hS rfl hs (by omega), ?_⟩
  rintro _ _ ⟨rfl, rfl⟩
  refine ⟨Or.inl rfl, ?_⟩
  refine ⟨⟨Nat.le_of_ble_eq_true rfl, Nat.le_of_ble_eq_true rfl, Nat.le_of_ble_eq_true rfl⟩, by simp only [wI_1, r0, r1, r12, r13, r41, r42, k0, k1, k2, k3, k4, k5, k6] <;> first | rfl | decide, _, T_numberIn (i := 2) hS rfl hs (by omega), ?_⟩
  rintro _ _ ⟨rfl, rfl⟩
  refine ⟨Or.inl rfl, ?_⟩
  refine ⟨fun h1 => ?_, fun h1 => ?_⟩
  · refine ⟨⟨Nat.zero_le _, Nat.zero_le _⟩, ?_, rfl⟩
    refine congrArg (fun v => Sum.inl (some (Value.int v))) ?_
    unfold rSays
    generalize σ (42 + 2 * (3 * s + 0)) = x0 at *
    generalize σ (42 + 2 * (3 * s + 1)) = x1 at *
    generalize σ (42 + 2 * (3 * s + 2)) = x2 at *
    clear hS r0 r1 r12 r13 r41 r42 k0 k1 k2 k3 k4 k5 k6 l2 l3 l5 l6
    by_cases a1 : x0 = -99999 <;> by_cases a2 : x1 = -99999 <;> simp_all
  · refine ⟨fun h2 => ?_, fun h2 => ?_⟩
    · refine ⟨fun h3 => ?_, fun h3 => ?_⟩
      · refine ⟨⟨Nat.zero_le _, Nat.zero_le _⟩, ?_, rfl⟩
        refine congrArg (fun v => Sum.inl (some (Value.int v))) ?_
        unfold rSays
        generalize σ (42 + 2 * (3 * s + 0)) = x0 at *
        generalize σ (42 + 2 * (3 * s + 1)) = x1 at *
        generalize σ (42 + 2 * (3 * s + 2)) = x2 at *
        clear hS r0 r1 r12 r13 r41 r42 k0 k1 k2 k3 k4 k5 k6 l2 l3 l5 l6
        by_cases a1 : x0 = -99999 <;> by_cases a2 : x1 = -99999 <;> simp_all
      · refine ⟨⟨Nat.zero_le _, Nat.zero_le _⟩, ?_, rfl⟩
        refine congrArg (fun v => Sum.inl (some (Value.int v))) ?_
        unfold rSays
        generalize σ (42 + 2 * (3 * s + 0)) = x0 at *
        generalize σ (42 + 2 * (3 * s + 1)) = x1 at *
        generalize σ (42 + 2 * (3 * s + 2)) = x2 at *
        clear hS r0 r1 r12 r13 r41 r42 k0 k1 k2 k3 k4 k5 k6 l2 l3 l5 l6
        by_cases a1 : x0 = -99999 <;> by_cases a2 : x1 = -99999 <;> simp_all
    · refine ⟨⟨Nat.zero_le _, Nat.zero_le _⟩, ?_, rfl⟩
      refine congrArg (fun v => Sum.inl (some (Value.int v))) ?_
      unfold rSays
      generalize σ (42 + 2 * (3 * s + 0)) = x0 at *
      generalize σ (42 + 2 * (3 * s + 1)) = x1 at *
      generalize σ (42 + 2 * (3 * s + 2)) = x2 at *
      clear hS r0 r1 r12 r13 r41 r42 k0 k1 k2 k3 k4 k5 k6 l2 l3 l5 l6
      by_cases a1 : x0 = -99999 <;> by_cases a2 : x1 = -99999 <;> simp_all
def rReadable (σ : Rw) (s : Nat) : Nat → Int32
  | 0 => 0
  | k + 1 => if σ (42 + 2 * (3 * s + k)) = -99999 then rReadable σ s k else rReadable σ s k + 1
set_option maxHeartbeats 1000000 in
theorem T_readableIn {d : Nat} {S : Sc} {M : Nat → Nat → Int32} {J : Nat → Nat → Int64} {b : Nat} {σ : Rw} (hS : OdS S b) {o : Nat} (ho : o = b + 1) {s : Nat} (hs : s < 12) : Wp (d + 2) 10 [.ref o, .int (nI s)] (S, sO M b σ, J) (fun rs w' => rs = .inl (some (.int (rReadable σ s 3))) ∧ w' = (S, sO M b (σ), J)) := by
  subst ho
  obtain ⟨⟨k0, k1, k2, k3, k4, k5, k6⟩, ⟨r0, r1, r12, r13, r41, r42⟩, l2, l3, l5, l6⟩ := id hS
  refine ⟨rfl, ?_⟩
  refine EE.runN (stop := atPc [4]) 100 _ ?_
  refine ee_at (nt := nzT 10) [(0, .ref (b + 1)), (1, .int (nI s)), (2, .int (rReadable σ s 0)), (3, .int (nI 0))] (S, sO M b σ, J) rfl (by rfl) (by rfl) ?_
  refine ee_loop (fun k => (4, [(0, .ref (b + 1)), (1, .int (nI s)), (2, .int (rReadable σ s k)), (3, .int (nI k))], [], (S, sO M b σ, J), 0, 0)) (3) (fun k h_k ih_k => ?_) ?_
  · refine EE.runN (stop := atPc [4]) 80 _ ?_
    refine ⟨fun h1 => ?_, fun h1 => ?_⟩
    · exact absurd h1 (nI_ge (b := 3) h_k (by omega))
    · refine ⟨⟨Nat.le_of_ble_eq_true rfl, Nat.le_of_ble_eq_true rfl, Nat.le_of_ble_eq_true rfl⟩, by simp only [wI_1, r0, r1, r12, r13, r41, r42, k0, k1, k2, k3, k4, k5, k6] <;> first | rfl | decide, _, T_numberIn (i := k) hS rfl hs (by omega), ?_⟩
      rintro _ _ ⟨rfl, rfl⟩
      refine ⟨Or.inl rfl, ?_⟩
      refine ⟨fun h2 => ?_, fun h2 => ?_⟩
      · refine ee_at (nt := nzT 10) [(0, .ref (b + 1)), (1, .int (nI s)), (2, .int (rReadable σ s (k + 1))), (3, .int (nI (k + 1)))] (S, sO M b σ, J) rfl (by rw [rReadable, if_pos h2, ← nI_1 k]; rfl) (by rfl) ?_
        exact ih_k
      · refine ee_at (nt := nzT 10) [(0, .ref (b + 1)), (1, .int (nI s)), (2, .int (rReadable σ s (k + 1))), (3, .int (nI (k + 1)))] (S, sO M b σ, J) rfl (by rw [rReadable, if_neg h2, ← nI_1 k]; rfl) (by rfl) ?_
        exact ih_k
  · refine EE.runN (stop := atPc [4]) 80 _ ?_
    refine ⟨fun h3 => ?_, fun h3 => ?_⟩
    · exact ⟨⟨Nat.zero_le _, Nat.zero_le _⟩, rfl, rfl⟩
    · exact absurd (nI_le (Nat.le_refl 3) (by omega)) h3
/-- a cell's write, unless it is stuck -/
def rCell (σ : Rw) (q : Nat) (v : Int32) : Rw := if σ (43 + 2 * q) < σ 2 then upd (upd σ (43 + 2 * q) (σ (43 + 2 * q) + 1)) (42 + 2 * q) v else σ
set_option maxHeartbeats 1000000 in
theorem T_write {d : Nat} {S : Sc} {M : Nat → Nat → Int32} {J : Nat → Nat → Int64} {b : Nat} {σ : Rw} (hS : OdS S b) {o : Nat} (ho : o = b + 1) {s i : Nat} {v : Int32} (hs : s < 12) (hi : i < 3) : Wp (d + 1) 11 [.ref o, .int (nI s), .int (nI i), .int v] (S, sO M b σ, J) (fun rs w' => rs = .inl none ∧ w' = (S, sO M b (rCell σ (3 * s + i) v), J)) := by
  subst ho
  obtain ⟨⟨k0, k1, k2, k3, k4, k5, k6⟩, ⟨r0, r1, r12, r13, r41, r42⟩, l2, l3, l5, l6⟩ := id hS
  have e : nI s * 3 + nI i = nI (3 * s + i) := by rw [o_3, pk_mul, nI_add, Nat.mul_comm]
  have c := ck (k := 3 * s + i) (by omega)
  have q36 : 3 * s + i < 36 := by omega
  have d2 := fun (τ : Rw) => rd2 M b τ q36
  have d3 := fun (τ : Rw) => rd3 M b τ q36
  have u2 := fun (τ : Rw) (x : Int32) => wr2 M b τ x q36
  have u3 := fun (τ : Rw) (x : Int32) => wr3 M b τ x q36
  refine ⟨rfl, ?_⟩
  refine EE.runN (stop := noStop) 120 _ ?_
  refine ⟨fun h1 => ?_, fun h1 => ?_⟩
  · exact absurd (show nI s * 3 + nI i < 0 from h1) (by rw [e]; exact nI_pos (by omega))
  · refine ⟨by simp only [wI_1, r0, r1, r12, r13, r41, r42, k0, k1, k2, k3, k4, k5, k6] <;> first | rfl | decide, ?_⟩
    refine ⟨by simp only [wI_1, r0, r1, r12, r13, r41, r42, k0, k1, k2, k3, k4, k5, k6] <;> first | rfl | decide, ?_⟩
    refine ⟨fun h2 => ?_, fun h2 => ?_⟩
    · (have h_ : Int32.ofNat _ ≤ nI s * 3 + nI i := h2; simp only [wI_1, r0, r1, r12, r13, r41, r42, l2, e] at h_; exact absurd h_ (nI_ge (b := 36) (by omega) (by omega)))
    · refine ⟨by simp only [wI_1, r0, r1, r12, r13, r41, r42, k0, k1, k2, k3, k4, k5, k6] <;> first | rfl | decide, ?_⟩
      refine ⟨by simp only [wI_1, r0, r1, r12, r13, r41, r42, k0, k1, k2, k3, k4, k5, k6] <;> first | rfl | decide, ?_⟩
      refine ⟨fun h3 => ?_, fun h3 => ?_⟩
      · (have h_ : Int32.ofNat _ ≤ nI s * 3 + nI i := h3; simp only [wI_1, r0, r1, r12, r13, r41, r42, l3, e] at h_; exact absurd h_ (nI_ge (b := 36) (by omega) (by omega)))
      · refine ⟨by simp only [wI_1, r0, r1, r12, r13, r41, r42, k0, k1, k2, k3, k4, k5, k6] <;> first | rfl | decide, ?_⟩
        refine ⟨by simp only [wI_1, r0, r1, r12, r13, r41, r42, k0, k1, k2, k3, k4, k5, k6] <;> first | rfl | decide, (by simp only [wI_1, r0, r1, r12, r13, r41, r42, l3, e]; exact vp_in_nI (by omega) (by omega)), ?_⟩
        refine ⟨by simp only [wI_1, r0, r1, r12, r13, r41, r42, k0, k1, k2, k3, k4, k5, k6] <;> first | rfl | decide, ?_⟩
        refine ⟨fun h4 => ?_, fun h4 => ?_⟩
        · refine ⟨by simp only [wI_1, r0, r1, r12, r13, r41, r42, k0, k1, k2, k3, k4, k5, k6] <;> first | rfl | decide, ?_⟩
          refine ⟨by simp only [wI_1, r0, r1, r12, r13, r41, r42, k0, k1, k2, k3, k4, k5, k6] <;> first | rfl | decide, (by simp only [wI_1, r0, r1, r12, r13, r41, r42, l3, e]; exact vp_in_nI (by omega) (by omega)), ?_⟩
          refine ⟨by simp only [wI_1, r0, r1, r12, r13, r41, r42, k0, k1, k2, k3, k4, k5, k6] <;> first | rfl | decide, (by simp only [wI_1, r0, r1, r12, r13, r41, r42, l3, e]; exact vp_in_nI (by omega) (by omega)), ?_⟩
          refine ⟨by simp only [wI_1, r0, r1, r12, r13, r41, r42, k0, k1, k2, k3, k4, k5, k6] <;> first | rfl | decide, ?_⟩
          refine ⟨by simp only [wI_1, r0, r1, r12, r13, r41, r42, k0, k1, k2, k3, k4, k5, k6] <;> first | rfl | decide, (by simp only [wI_1, r0, r1, r12, r13, r41, r42, l2, e]; exact vp_in_nI (by omega) (by omega)), ?_⟩
          simp only [wI_M, tk_0, tk_1, tk_2, tk_3, tk_4, tk_5, tk_6, tk_7, tk_8, tk_9, tk_10, tk_11, tk_12, tk_13, tk_14, tk_15, tk_16, tk_17, rd0_2, wr0_2, rd0_3, wr0_3, rd0_4, wr0_4, rd0_5, wr0_5, rd0_6, wr0_6, rd0_7, wr0_7, rd0_8, wr0_8, rd0_9, wr0_9, rd0_10, wr0_10, rd0_11, wr0_11, rd0_12, wr0_12, rd0_13, wr0_13, rd0_14, wr0_14, rd0_15, wr0_15, rd0_16, wr0_16, rd1_0, wr1_0, rd1_1, wr1_1, rd4_0, wr4_0, wI_1, r0, r1, r12, r13, r41, r42, e, c, d2, d3, u2, u3] at h4
          refine ⟨⟨Nat.zero_le _, Nat.zero_le _⟩, rfl, ?_⟩
          show (S, _, J) = (S, _, J)
          unfold rCell
          first | rw [if_pos (Int32.not_le.mp h4)] | rw [if_neg (Int32.not_lt.mpr h4)] | rw [if_pos h4] | rw [if_neg h4]
          try simp only [wI_M, tk_0, tk_1, tk_2, tk_3, tk_4, tk_5, tk_6, tk_7, tk_8, tk_9, tk_10, tk_11, tk_12, tk_13, tk_14, tk_15, tk_16, tk_17, rd0_2, wr0_2, rd0_3, wr0_3, rd0_4, wr0_4, rd0_5, wr0_5, rd0_6, wr0_6, rd0_7, wr0_7, rd0_8, wr0_8, rd0_9, wr0_9, rd0_10, wr0_10, rd0_11, wr0_11, rd0_12, wr0_12, rd0_13, wr0_13, rd0_14, wr0_14, rd0_15, wr0_15, rd0_16, wr0_16, rd1_0, wr1_0, rd1_1, wr1_1, rd4_0, wr4_0, wI_1, r0, r1, r12, r13, r41, r42, e, c, d2, d3, u2, u3]
        · simp only [wI_M, tk_0, tk_1, tk_2, tk_3, tk_4, tk_5, tk_6, tk_7, tk_8, tk_9, tk_10, tk_11, tk_12, tk_13, tk_14, tk_15, tk_16, tk_17, rd0_2, wr0_2, rd0_3, wr0_3, rd0_4, wr0_4, rd0_5, wr0_5, rd0_6, wr0_6, rd0_7, wr0_7, rd0_8, wr0_8, rd0_9, wr0_9, rd0_10, wr0_10, rd0_11, wr0_11, rd0_12, wr0_12, rd0_13, wr0_13, rd0_14, wr0_14, rd0_15, wr0_15, rd0_16, wr0_16, rd1_0, wr1_0, rd1_1, wr1_1, rd4_0, wr4_0, wI_1, r0, r1, r12, r13, r41, r42, e, c, d2, d3, u2, u3] at h4
          refine ⟨⟨Nat.zero_le _, Nat.zero_le _⟩, rfl, ?_⟩
          show (S, _, J) = (S, _, J)
          unfold rCell
          first | rw [if_pos (Int32.not_le.mp h4)] | rw [if_neg (Int32.not_lt.mpr h4)] | rw [if_pos h4] | rw [if_neg h4]
          try simp only [wI_M, tk_0, tk_1, tk_2, tk_3, tk_4, tk_5, tk_6, tk_7, tk_8, tk_9, tk_10, tk_11, tk_12, tk_13, tk_14, tk_15, tk_16, tk_17, rd0_2, wr0_2, rd0_3, wr0_3, rd0_4, wr0_4, rd0_5, wr0_5, rd0_6, wr0_6, rd0_7, wr0_7, rd0_8, wr0_8, rd0_9, wr0_9, rd0_10, wr0_10, rd0_11, wr0_11, rd0_12, wr0_12, rd0_13, wr0_13, rd0_14, wr0_14, rd0_15, wr0_15, rd0_16, wr0_16, rd1_0, wr1_0, rd1_1, wr1_1, rd4_0, wr4_0, wI_1, r0, r1, r12, r13, r41, r42, e, c, d2, d3, u2, u3]
def cRn (σ : Rw) (s : Nat) : Nat → Rw
  | 0 => σ
  | k + 1 => upd (upd (cRn σ s k) (43 + 2 * (3 * s + k)) 0) (42 + 2 * (3 * s + k)) 0
theorem upd_cm (f : Rw) {a c : Nat} (x y : Int32) (h : a ≠ c) : upd (upd f a x) c y = upd (upd f c y) a x := by
  funext q
  unfold upd
  split <;> split <;> first | rfl | omega
theorem cRn_e (σ : Rw) (s : Nat) : ∀ k, cRn σ s k = rRn σ s k
  | 0 => rfl
  | k + 1 => by
    rw [cRn, rRn, cRn_e σ s k, upd_cm _ _ _ (by omega)]
def cWn (σ : Rw) (s : Nat) : Nat → Int32
  | 0 => 0
  | k + 1 => cWn σ s k + σ (43 + 2 * (3 * s + k))
theorem cRn_w (σ : Rw) (s : Nat) {q : Nat} : ∀ k, 43 + 2 * (3 * s + k) ≤ q → cRn σ s k q = σ q
  | 0, _ => rfl
  | k + 1, h => by rw [cRn, pk_un (by omega), pk_un (by omega), cRn_w σ s k (by omega)]
set_option maxHeartbeats 1000000 in
theorem T_renew {d : Nat} {S : Sc} {M : Nat → Nat → Int32} {J : Nat → Nat → Int64} {b : Nat} {σ : Rw} (hS : OdS S b) {o : Nat} (ho : o = b + 1) {s : Nat} (hs : s < 12) : Wp (d + 1) 12 [.ref o, .int (nI s)] (S, sO M b σ, J) (fun rs w' => rs = .inl (some (.int (rWear σ s))) ∧ w' = (S, sO M b (rRenew σ s), J)) := by
  subst ho
  obtain ⟨⟨k0, k1, k2, k3, k4, k5, k6⟩, ⟨r0, r1, r12, r13, r41, r42⟩, l2, l3, l5, l6⟩ := id hS
  refine ⟨rfl, ?_⟩
  refine EE.runN (stop := atPc [4]) 120 _ ?_
  refine ee_at (nt := nzT 12) [(0, .ref (b + 1)), (1, .int (nI s)), (2, .int (cWn σ s 0)), (3, .int (nI 0))] (S, sO M b (cRn σ s 0), J) rfl (by rfl) (by rfl) ?_
  refine ee_loop (fun k => (4, [(0, .ref (b + 1)), (1, .int (nI s)), (2, .int (cWn σ s k)), (3, .int (nI k))], [], (S, sO M b (cRn σ s k), J), 0, 0)) (3) (fun k h_k ih_k => ?_) ?_
  · refine EE.runN (stop := atPc [4]) 100 _ ?_
    have e : nI s * 3 + nI k = nI (3 * s + k) := by rw [o_3, pk_mul, nI_add, Nat.mul_comm]
    have c := ck (k := 3 * s + k) (by omega)
    have q36 : 3 * s + k < 36 := by omega
    have d2 := fun (τ : Rw) => rd2 M b τ q36
    have d3 := fun (τ : Rw) => rd3 M b τ q36
    have u2 := fun (τ : Rw) (x : Int32) => wr2 M b τ x q36
    have u3 := fun (τ : Rw) (x : Int32) => wr3 M b τ x q36
    have hv : sO M b (cRn σ s k) (S.2.2.2 (b + 1) 3) (nI s * 3 + nI k).toNatClampNeg = σ (43 + 2 * (3 * s + k)) := by rw [r13, e, c, d3, cRn_w σ s k (Nat.le_refl _)]
    refine ⟨fun h1 => ?_, fun h1 => ?_⟩
    · exact absurd h1 (nI_ge (b := 3) h_k (by omega))
    · refine ⟨fun h2 => ?_, fun h2 => ?_⟩
      · exact absurd (show nI s * 3 + nI k < 0 from h2) (by rw [e]; exact nI_pos (by omega))
      · refine ⟨by simp only [wI_1, r0, r1, r12, r13, r41, r42, k0, k1, k2, k3, k4, k5, k6] <;> first | rfl | decide, ?_⟩
        refine ⟨by simp only [wI_1, r0, r1, r12, r13, r41, r42, k0, k1, k2, k3, k4, k5, k6] <;> first | rfl | decide, ?_⟩
        refine ⟨fun h3 => ?_, fun h3 => ?_⟩
        · (have h_ : Int32.ofNat _ ≤ nI s * 3 + nI k := h3; simp only [wI_1, r0, r1, r12, r13, r41, r42, l2, e] at h_; exact absurd h_ (nI_ge (b := 36) (by omega) (by omega)))
        · refine ⟨by simp only [wI_1, r0, r1, r12, r13, r41, r42, k0, k1, k2, k3, k4, k5, k6] <;> first | rfl | decide, ?_⟩
          refine ⟨by simp only [wI_1, r0, r1, r12, r13, r41, r42, k0, k1, k2, k3, k4, k5, k6] <;> first | rfl | decide, ?_⟩
          refine ⟨fun h4 => ?_, fun h4 => ?_⟩
          · (have h_ : Int32.ofNat _ ≤ nI s * 3 + nI k := h4; simp only [wI_1, r0, r1, r12, r13, r41, r42, l3, e] at h_; exact absurd h_ (nI_ge (b := 36) (by omega) (by omega)))
          · refine ⟨by simp only [wI_1, r0, r1, r12, r13, r41, r42, k0, k1, k2, k3, k4, k5, k6] <;> first | rfl | decide, ?_⟩
            refine ⟨by simp only [wI_1, r0, r1, r12, r13, r41, r42, k0, k1, k2, k3, k4, k5, k6] <;> first | rfl | decide, (by simp only [wI_1, r0, r1, r12, r13, r41, r42, l3, e]; exact vp_in_nI (by omega) (by omega)), ?_⟩
            refine ⟨by simp only [wI_1, r0, r1, r12, r13, r41, r42, k0, k1, k2, k3, k4, k5, k6] <;> first | rfl | decide, ?_⟩
            refine ⟨by simp only [wI_1, r0, r1, r12, r13, r41, r42, k0, k1, k2, k3, k4, k5, k6] <;> first | rfl | decide, (by simp only [wI_1, r0, r1, r12, r13, r41, r42, l3, e]; exact vp_in_nI (by omega) (by omega)), ?_⟩
            refine ⟨by simp only [wI_1, r0, r1, r12, r13, r41, r42, k0, k1, k2, k3, k4, k5, k6] <;> first | rfl | decide, ?_⟩
            refine ⟨by simp only [wI_1, r0, r1, r12, r13, r41, r42, k0, k1, k2, k3, k4, k5, k6] <;> first | rfl | decide, (by simp only [wI_1, r0, r1, r12, r13, r41, r42, l2, e]; exact vp_in_nI (by omega) (by omega)), ?_⟩
            refine ee_at (nt := nzT 12) [(0, .ref (b + 1)), (1, .int (nI s)), (2, .int (cWn σ s (k + 1))), (3, .int (nI (k + 1)))] (S, sO M b (cRn σ s (k + 1)), J) rfl (by rw [cWn, ← hv, ← nI_1 k]; rfl) (by show (S, _, J) = (S, _, J); simp only [wI_M, tk_0, tk_1, tk_2, tk_3, tk_4, tk_5, tk_6, tk_7, tk_8, tk_9, tk_10, tk_11, tk_12, tk_13, tk_14, tk_15, tk_16, tk_17, rd0_2, wr0_2, rd0_3, wr0_3, rd0_4, wr0_4, rd0_5, wr0_5, rd0_6, wr0_6, rd0_7, wr0_7, rd0_8, wr0_8, rd0_9, wr0_9, rd0_10, wr0_10, rd0_11, wr0_11, rd0_12, wr0_12, rd0_13, wr0_13, rd0_14, wr0_14, rd0_15, wr0_15, rd0_16, wr0_16, rd1_0, wr1_0, rd1_1, wr1_1, rd4_0, wr4_0, wI_1, r0, r1, r12, r13, r41, r42, e, c, d2, d3, u2, u3]; rfl) ?_
            exact ih_k
  · refine EE.runN (stop := atPc [4]) 100 _ ?_
    refine ⟨fun h5 => ?_, fun h5 => ?_⟩
    · refine ⟨⟨Nat.zero_le _, Nat.zero_le _⟩, rfl, ?_⟩
      show (S, _, J) = (S, _, J)
      rw [cRn_e]
      rfl
    · exact absurd (nI_le (Nat.le_refl 3) (by omega)) h5
