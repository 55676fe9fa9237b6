/-! THE CLASS: Services: written by wip/whole/pure3.py -/
set_option maxHeartbeats 1000000 in
theorem T_codeAt {d : Nat} {S : Sc} {M : Nat → Nat → Int32} {J : Nat → Nat → Int64} {b : Nat} {σ : Rw} (hS : OdS S b) {o : Nat} (ho : o = b + 4) {q : Nat} (hq : q < 12) : Wp (d + 1) 40 [.ref o, .int (nI q)] (S, sO M b σ, J) (fun rs w' => rs = .inl (some (.int (σ (18 + 2 * q)))) ∧ w' = (S, sO M b (σ), J)) := by
  subst ho
  obtain ⟨⟨k0, k1, k2, k3, k4, k5, k6⟩, ⟨r0, r1, r12, r13, r41, r42⟩, l2, l3, l5, l6⟩ := id hS
  have c := ck (k := q) (by omega)
  have d5 := fun (τ : Rw) => rd5 M b τ (q := q) (by omega)
  have d6 := fun (τ : Rw) => rd6 M b τ (q := q) (by omega)
  have u5 := fun (τ : Rw) (x : Int32) => wr5 M b τ x (q := q) (by omega)
  have u6 := fun (τ : Rw) (x : Int32) => wr6 M b τ x (q := q) (by omega)
  refine ⟨rfl, ?_⟩
  refine EE.runN (stop := noStop) 100 _ ?_
  refine ⟨fun h1 => ?_, fun h1 => ?_⟩
  · exact absurd (show nI q < 0 from h1) (nI_pos (by omega))
  · refine ⟨by simp only [wI_1, r0, r1, r12, r13, r41, r42, k0, k1, k2, k3, k4, k5, k6] <;> first | rfl | decide, ?_⟩
    refine ⟨by simp only [wI_1, r0, r1, r12, r13, r41, r42, k0, k1, k2, k3, k4, k5, k6] <;> first | rfl | decide, ?_⟩
    refine ⟨fun h2 => ?_, fun h2 => ?_⟩
    · (have h_ : Int32.ofNat _ ≤ nI q := h2; simp only [wI_1, r0, r1, r12, r13, r41, r42, l5] at h_; exact absurd h_ (nI_ge (b := 12) (by omega) (by omega)))
    · refine ⟨by simp only [wI_1, r0, r1, r12, r13, r41, r42, k0, k1, k2, k3, k4, k5, k6] <;> first | rfl | decide, ?_⟩
      refine ⟨by simp only [wI_1, r0, r1, r12, r13, r41, r42, k0, k1, k2, k3, k4, k5, k6] <;> first | rfl | decide, (by simp only [wI_1, r0, r1, r12, r13, r41, r42, l5]; exact vp_in_nI (show q < 12 by omega) (by omega)), ?_⟩
      refine ⟨⟨Nat.zero_le _, Nat.zero_le _⟩, ?_, rfl⟩
      simp only [wI_M, tk_0, tk_1, tk_2, tk_3, tk_4, tk_5, tk_6, tk_7, tk_8, tk_9, tk_10, tk_11, tk_12, tk_13, tk_14, tk_15, tk_16, tk_17, rd0_2, wr0_2, rd0_3, wr0_3, rd0_4, wr0_4, rd0_5, wr0_5, rd0_6, wr0_6, rd0_7, wr0_7, rd0_8, wr0_8, rd0_9, wr0_9, rd0_10, wr0_10, rd0_11, wr0_11, rd0_12, wr0_12, rd0_13, wr0_13, rd0_14, wr0_14, rd0_15, wr0_15, rd0_16, wr0_16, rd1_0, wr1_0, rd1_1, wr1_1, rd4_0, wr4_0, wI_1, r0, r1, r12, r13, r41, r42, c, d5, d6, u5, u6]
set_option maxHeartbeats 1000000 in
theorem T_notedAt {d : Nat} {S : Sc} {M : Nat → Nat → Int32} {J : Nat → Nat → Int64} {b : Nat} {σ : Rw} (hS : OdS S b) {o : Nat} (ho : o = b + 4) {q : Nat} (hq : q < 12) : Wp (d + 1) 41 [.ref o, .int (nI q)] (S, sO M b σ, J) (fun rs w' => rs = .inl (some (.int (σ (19 + 2 * q)))) ∧ w' = (S, sO M b (σ), J)) := by
  subst ho
  obtain ⟨⟨k0, k1, k2, k3, k4, k5, k6⟩, ⟨r0, r1, r12, r13, r41, r42⟩, l2, l3, l5, l6⟩ := id hS
  have c := ck (k := q) (by omega)
  have d5 := fun (τ : Rw) => rd5 M b τ (q := q) (by omega)
  have d6 := fun (τ : Rw) => rd6 M b τ (q := q) (by omega)
  have u5 := fun (τ : Rw) (x : Int32) => wr5 M b τ x (q := q) (by omega)
  have u6 := fun (τ : Rw) (x : Int32) => wr6 M b τ x (q := q) (by omega)
  refine ⟨rfl, ?_⟩
  refine EE.runN (stop := noStop) 100 _ ?_
  refine ⟨fun h1 => ?_, fun h1 => ?_⟩
  · exact absurd (show nI q < 0 from h1) (nI_pos (by omega))
  · refine ⟨by simp only [wI_1, r0, r1, r12, r13, r41, r42, k0, k1, k2, k3, k4, k5, k6] <;> first | rfl | decide, ?_⟩
    refine ⟨by simp only [wI_1, r0, r1, r12, r13, r41, r42, k0, k1, k2, k3, k4, k5, k6] <;> first | rfl | decide, ?_⟩
    refine ⟨fun h2 => ?_, fun h2 => ?_⟩
    · (have h_ : Int32.ofNat _ ≤ nI q := h2; simp only [wI_1, r0, r1, r12, r13, r41, r42, l6] at h_; exact absurd h_ (nI_ge (b := 12) (by omega) (by omega)))
    · refine ⟨by simp only [wI_1, r0, r1, r12, r13, r41, r42, k0, k1, k2, k3, k4, k5, k6] <;> first | rfl | decide, ?_⟩
      refine ⟨by simp only [wI_1, r0, r1, r12, r13, r41, r42, k0, k1, k2, k3, k4, k5, k6] <;> first | rfl | decide, (by simp only [wI_1, r0, r1, r12, r13, r41, r42, l6]; exact vp_in_nI (show q < 12 by omega) (by omega)), ?_⟩
      refine ⟨⟨Nat.zero_le _, Nat.zero_le _⟩, ?_, rfl⟩
      simp only [wI_M, tk_0, tk_1, tk_2, tk_3, tk_4, tk_5, tk_6, tk_7, tk_8, tk_9, tk_10, tk_11, tk_12, tk_13, tk_14, tk_15, tk_16, tk_17, rd0_2, wr0_2, rd0_3, wr0_3, rd0_4, wr0_4, rd0_5, wr0_5, rd0_6, wr0_6, rd0_7, wr0_7, rd0_8, wr0_8, rd0_9, wr0_9, rd0_10, wr0_10, rd0_11, wr0_11, rd0_12, wr0_12, rd0_13, wr0_13, rd0_14, wr0_14, rd0_15, wr0_15, rd0_16, wr0_16, rd1_0, wr1_0, rd1_1, wr1_1, rd4_0, wr4_0, wI_1, r0, r1, r12, r13, r41, r42, c, d5, d6, u5, u6]
def rPut2 (σ : Rw) (q : Nat) (x y : Int32) : Rw := upd (upd σ (18 + 2 * q) x) (19 + 2 * q) y
set_option maxHeartbeats 1000000 in
theorem T_put {d : Nat} {S : Sc} {M : Nat → Nat → Int32} {J : Nat → Nat → Int64} {b : Nat} {σ : Rw} (hS : OdS S b) {o : Nat} (ho : o = b + 4) {q : Nat} {x y : Int32} (hq : q < 12) : Wp (d + 1) 47 [.ref o, .int (nI q), .int x, .int y] (S, sO M b σ, J) (fun rs w' => rs = .inl none ∧ w' = (S, sO M b (rPut2 σ q x y), J)) := by
  subst ho
  obtain ⟨⟨k0, k1, k2, k3, k4, k5, k6⟩, ⟨r0, r1, r12, r13, r41, r42⟩, l2, l3, l5, l6⟩ := id hS
  have c := ck (k := q) (by omega)
  have d5 := fun (τ : Rw) => rd5 M b τ (q := q) (by omega)
  have d6 := fun (τ : Rw) => rd6 M b τ (q := q) (by omega)
  have u5 := fun (τ : Rw) (x : Int32) => wr5 M b τ x (q := q) (by omega)
  have u6 := fun (τ : Rw) (x : Int32) => wr6 M b τ x (q := q) (by omega)
  refine ⟨rfl, ?_⟩
  refine EE.runN (stop := noStop) 100 _ ?_
  refine ⟨fun h1 => ?_, fun h1 => ?_⟩
  · exact absurd (show nI q < 0 from h1) (nI_pos (by omega))
  · refine ⟨by simp only [wI_1, r0, r1, r12, r13, r41, r42, k0, k1, k2, k3, k4, k5, k6] <;> first | rfl | decide, ?_⟩
    refine ⟨by simp only [wI_1, r0, r1, r12, r13, r41, r42, k0, k1, k2, k3, k4, k5, k6] <;> first | rfl | decide, ?_⟩
    refine ⟨fun h2 => ?_, fun h2 => ?_⟩
    · (have h_ : Int32.ofNat _ ≤ nI q := h2; simp only [wI_1, r0, r1, r12, r13, r41, r42, l5] at h_; exact absurd h_ (nI_ge (b := 12) (by omega) (by omega)))
    · refine ⟨by simp only [wI_1, r0, r1, r12, r13, r41, r42, k0, k1, k2, k3, k4, k5, k6] <;> first | rfl | decide, ?_⟩
      refine ⟨by simp only [wI_1, r0, r1, r12, r13, r41, r42, k0, k1, k2, k3, k4, k5, k6] <;> first | rfl | decide, ?_⟩
      refine ⟨fun h3 => ?_, fun h3 => ?_⟩
      · (have h_ : Int32.ofNat _ ≤ nI q := h3; simp only [wI_1, r0, r1, r12, r13, r41, r42, l6] at h_; exact absurd h_ (nI_ge (b := 12) (by omega) (by omega)))
      · refine ⟨by simp only [wI_1, r0, r1, r12, r13, r41, r42, k0, k1, k2, k3, k4, k5, k6] <;> first | rfl | decide, ?_⟩
        refine ⟨by simp only [wI_1, r0, r1, r12, r13, r41, r42, k0, k1, k2, k3, k4, k5, k6] <;> first | rfl | decide, (by simp only [wI_1, r0, r1, r12, r13, r41, r42, l5]; exact vp_in_nI (show q < 12 by omega) (by omega)), ?_⟩
        refine ⟨by simp only [wI_1, r0, r1, r12, r13, r41, r42, k0, k1, k2, k3, k4, k5, k6] <;> first | rfl | decide, ?_⟩
        refine ⟨by simp only [wI_1, r0, r1, r12, r13, r41, r42, k0, k1, k2, k3, k4, k5, k6] <;> first | rfl | decide, (by simp only [wI_1, r0, r1, r12, r13, r41, r42, l6]; exact vp_in_nI (show q < 12 by omega) (by omega)), ?_⟩
        refine ⟨⟨Nat.zero_le _, Nat.zero_le _⟩, rfl, ?_⟩
        show (S, _, J) = (S, _, J)
        simp only [wI_M, tk_0, tk_1, tk_2, tk_3, tk_4, tk_5, tk_6, tk_7, tk_8, tk_9, tk_10, tk_11, tk_12, tk_13, tk_14, tk_15, tk_16, tk_17, rd0_2, wr0_2, rd0_3, wr0_3, rd0_4, wr0_4, rd0_5, wr0_5, rd0_6, wr0_6, rd0_7, wr0_7, rd0_8, wr0_8, rd0_9, wr0_9, rd0_10, wr0_10, rd0_11, wr0_11, rd0_12, wr0_12, rd0_13, wr0_13, rd0_14, wr0_14, rd0_15, wr0_15, rd0_16, wr0_16, rd1_0, wr1_0, rd1_1, wr1_1, rd4_0, wr4_0, wI_1, r0, r1, r12, r13, r41, r42, c, d5, d6, u5, u6]
        rfl
/-- the codes below n are all different -/
def Dst (ρ : Rw) (n : Nat) : Prop := ∀ i k, i < n → k < n → ρ (18 + 2 * i) = ρ (18 + 2 * k) → i = k
theorem rFnd_un {ρ : Rw} {c : Int32} : ∀ {n i : Nat}, Dst ρ n → i < n → ρ (18 + 2 * i) = c → rFnd ρ c n = nI i
  | 0, _, _, h, _ => absurd h (by omega)
  | n + 1, i, hd, hi, he => by
    unfold rFnd
    by_cases h : ρ (18 + 2 * n) = c
    · rw [if_pos h, hd n i (by omega) hi (h.trans he.symm)]
    · rw [if_neg h]
      have : i ≠ n := fun e => h (e ▸ he)
      exact rFnd_un (fun a b ha hb e => hd a b (by omega) (by omega) e) (by omega) he
theorem rFnd_no {ρ : Rw} {c : Int32} : ∀ {n : Nat}, (∀ i, i < n → ¬ ρ (18 + 2 * i) = c) → rFnd ρ c n = -99999
  | 0, _ => rfl
  | n + 1, h => by
    unfold rFnd
    rw [if_neg (h n (by omega))]
    exact rFnd_no (fun i hi => h i (by omega))
set_option maxHeartbeats 1000000 in
theorem T_placeOf {d : Nat} {S : Sc} {M : Nat → Nat → Int32} {J : Nat → Nat → Int64} {b : Nat} {σ : Rw} (hS : OdS S b) {o : Nat} (ho : o = b + 4) {n : Nat} {x y : Int32} (hn : n ≤ 12) (h17 : σ 17 = nI n) (hD : Dst σ n) : Wp (d + 2) 42 [.ref o, .int x, .int y] (S, sO M b σ, J) (fun rs w' => rs = .inl (some (.int (rFnd σ (10 * x + y) n))) ∧ w' = (S, sO M b (σ), J)) := by
  subst ho
  obtain ⟨⟨k0, k1, k2, k3, k4, k5, k6⟩, ⟨r0, r1, r12, r13, r41, r42⟩, l2, l3, l5, l6⟩ := id hS
  refine ⟨rfl, ?_⟩
  refine EE.runN (stop := atPc [2]) 100 _ ?_
  refine ee_at (nt := nzT 42) [(0, .ref (b + 4)), (1, .int x), (2, .int y), (3, .int (nI 0))] (S, sO M b σ, J) rfl (by rfl) (by rfl) ?_
  refine ee_loopP (fun k => ∀ i, i < k → ¬ σ (18 + 2 * i) = 10 * x + y) (fun k => (2, [(0, .ref (b + 4)), (1, .int x), (2, .int y), (3, .int (nI k))], [], (S, sO M b σ, J), 0, 0)) (n) (by intro i hi; omega) (fun k h_k hp_k ih_k => ?_) (fun hp_k => ?_)
  · refine EE.runN (stop := atPc [2]) 80 _ ?_
    refine ⟨by simp only [wI_1, r0, r1, r12, r13, r41, r42, k0, k1, k2, k3, k4, k5, k6] <;> first | rfl | decide, ?_⟩
    refine ⟨fun h1 => ?_, fun h1 => ?_⟩
    · (have h_ := h1; simp only [wI_1, r0, r1, r12, r13, r41, r42, rd4_0, h17] at h_; exact absurd h_ (nI_ge h_k (by omega)))
    · refine ⟨⟨Nat.le_of_ble_eq_true rfl, Nat.le_of_ble_eq_true rfl, Nat.le_of_ble_eq_true rfl⟩, by simp only [wI_1, r0, r1, r12, r13, r41, r42, k0, k1, k2, k3, k4, k5, k6] <;> first | rfl | decide, _, T_codeAt (q := k) hS rfl (by omega), ?_⟩
      rintro _ _ ⟨rfl, rfl⟩
      refine ⟨Or.inl rfl, ?_⟩
      refine ⟨fun h2 => ?_, fun h2 => ?_⟩
      · refine ee_at (nt := nzT 42) [(0, .ref (b + 4)), (1, .int x), (2, .int y), (3, .int (nI (k + 1)))] (S, sO M b σ, J) rfl (by rw [← nI_1 k]; rfl) (by rfl) ?_
        exact ih_k (by intro i hi; by_cases e : i = k; exact e ▸ h2; exact hp_k i (by omega))
      · refine ⟨⟨Nat.zero_le _, Nat.zero_le _⟩, ?_, rfl⟩
        rw [rFnd_un hD h_k h2]
  · refine EE.runN (stop := atPc [2]) 80 _ ?_
    refine ⟨by simp only [wI_1, r0, r1, r12, r13, r41, r42, k0, k1, k2, k3, k4, k5, k6] <;> first | rfl | decide, ?_⟩
    refine ⟨fun h3 => ?_, fun h3 => ?_⟩
    · refine ⟨⟨Nat.zero_le _, Nat.zero_le _⟩, ?_, rfl⟩
      rw [rFnd_no hp_k]
    · (have h_ := h3; simp only [wI_1, r0, r1, r12, r13, r41, r42, rd4_0, h17] at h_; exact absurd (nI_le (Nat.le_refl n) (by omega)) h_)
set_option maxHeartbeats 1000000 in
theorem T_hasRoom {d : Nat} {S : Sc} {M : Nat → Nat → Int32} {J : Nat → Nat → Int64} {b : Nat} {σ : Rw} (hS : OdS S b) {o : Nat} (ho : o = b + 4) {n : Nat} {x y : Int32} (hn : n ≤ 12) (h17 : σ 17 = nI n) (hD : Dst σ n) : Wp (d + 3) 43 [.ref o, .int x, .int y] (S, sO M b σ, J) (fun rs w' => rs = .inl (some (.int (bI (σ 17 < 12 ∨ ¬ rFnd σ (10 * x + y) n = -99999)))) ∧ w' = (S, sO M b (σ), J)) := by
  subst ho
  obtain ⟨⟨k0, k1, k2, k3, k4, k5, k6⟩, ⟨r0, r1, r12, r13, r41, r42⟩, l2, l3, l5, l6⟩ := id hS
  refine ⟨rfl, ?_⟩
  refine EE.runN (stop := noStop) 100 _ ?_
  refine ⟨by simp only [wI_1, r0, r1, r12, r13, r41, r42, k0, k1, k2, k3, k4, k5, k6] <;> first | rfl | decide, ?_⟩
  refine ⟨fun h1 => ?_, fun h1 => ?_⟩
  · try simp only [wI_M, tk_0, tk_1, tk_2, tk_3, tk_4, tk_5, tk_6, tk_7, tk_8, tk_9, tk_10, tk_11, tk_12, tk_13, tk_14, tk_15, tk_16, tk_17, rd0_2, wr0_2, rd0_3, wr0_3, rd0_4, wr0_4, rd0_5, wr0_5, rd0_6, wr0_6, rd0_7, wr0_7, rd0_8, wr0_8, rd0_9, wr0_9, rd0_10, wr0_10, rd0_11, wr0_11, rd0_12, wr0_12, rd0_13, wr0_13, rd0_14, wr0_14, rd0_15, wr0_15, rd0_16, wr0_16, rd1_0, wr1_0, rd1_1, wr1_1, rd4_0, wr4_0, wI_1, r0, r1, r12, r13, r41, r42] at h1
    refine ⟨⟨Nat.zero_le _, Nat.zero_le _⟩, by decide, ?_, ?_⟩
    · simp [-Int32.not_le, -Int32.not_lt, bI, h1]
    · rfl
  · refine ⟨⟨Nat.le_of_ble_eq_true rfl, Nat.le_of_ble_eq_true rfl, Nat.le_of_ble_eq_true rfl⟩, by simp only [wI_1, r0, r1, r12, r13, r41, r42, k0, k1, k2, k3, k4, k5, k6] <;> first | rfl | decide, _, T_placeOf hS rfl hn h17 hD, ?_⟩
    rintro _ _ ⟨rfl, rfl⟩
    refine ⟨Or.inl rfl, ?_⟩
    refine ⟨fun h2 => ?_, fun h2 => ?_⟩
    · try simp only [wI_M, tk_0, tk_1, tk_2, tk_3, tk_4, tk_5, tk_6, tk_7, tk_8, tk_9, tk_10, tk_11, tk_12, tk_13, tk_14, tk_15, tk_16, tk_17, rd0_2, wr0_2, rd0_3, wr0_3, rd0_4, wr0_4, rd0_5, wr0_5, rd0_6, wr0_6, rd0_7, wr0_7, rd0_8, wr0_8, rd0_9, wr0_9, rd0_10, wr0_10, rd0_11, wr0_11, rd0_12, wr0_12, rd0_13, wr0_13, rd0_14, wr0_14, rd0_15, wr0_15, rd0_16, wr0_16, rd1_0, wr1_0, rd1_1, wr1_1, rd4_0, wr4_0, wI_1, r0, r1, r12, r13, r41, r42] at h1 h2
      refine ⟨⟨Nat.zero_le _, Nat.zero_le _⟩, by decide, ?_, ?_⟩
      · simp [-Int32.not_le, -Int32.not_lt, bI, h1, h2]
      · rfl
    · try simp only [wI_M, tk_0, tk_1, tk_2, tk_3, tk_4, tk_5, tk_6, tk_7, tk_8, tk_9, tk_10, tk_11, tk_12, tk_13, tk_14, tk_15, tk_16, tk_17, rd0_2, wr0_2, rd0_3, wr0_3, rd0_4, wr0_4, rd0_5, wr0_5, rd0_6, wr0_6, rd0_7, wr0_7, rd0_8, wr0_8, rd0_9, wr0_9, rd0_10, wr0_10, rd0_11, wr0_11, rd0_12, wr0_12, rd0_13, wr0_13, rd0_14, wr0_14, rd0_15, wr0_15, rd0_16, wr0_16, rd1_0, wr1_0, rd1_1, wr1_1, rd4_0, wr4_0, wI_1, r0, r1, r12, r13, r41, r42] at h1 h2
      refine ⟨⟨Nat.zero_le _, Nat.zero_le _⟩, by decide, ?_, ?_⟩
      · simp [-Int32.not_le, -Int32.not_lt, bI, h1, h2]
      · rfl
def cAdd (σ : Rw) (c : Int32) (n : Nat) (y : Int32) : Rw := upd (rPut2 σ n c y) 17 (nI (n + 1))
set_option maxHeartbeats 1000000 in
theorem T_addLast {d : Nat} {S : Sc} {M : Nat → Nat → Int32} {J : Nat → Nat → Int64} {b : Nat} {σ : Rw} (hS : OdS S b) {o : Nat} (ho : o = b + 4) {n : Nat} {x y z : Int32} (hn : n < 12) (h17 : σ 17 = nI n) : Wp (d + 2) 44 [.ref o, .int x, .int y, .int z] (S, sO M b σ, J) (fun rs w' => rs = .inl none ∧ w' = (S, sO M b (cAdd σ (10 * x + y) n z), J)) := by
  subst ho
  obtain ⟨⟨k0, k1, k2, k3, k4, k5, k6⟩, ⟨r0, r1, r12, r13, r41, r42⟩, l2, l3, l5, l6⟩ := id hS
  refine ⟨rfl, ?_⟩
  refine EE.runN (stop := noStop) 100 _ ?_
  refine ⟨by simp only [wI_1, r0, r1, r12, r13, r41, r42, k0, k1, k2, k3, k4, k5, k6] <;> first | rfl | decide, ?_⟩
  refine ⟨⟨Nat.le_of_ble_eq_true rfl, Nat.le_of_ble_eq_true rfl, Nat.le_of_ble_eq_true rfl⟩, by simp only [wI_1, r0, r1, r12, r13, r41, r42, k0, k1, k2, k3, k4, k5, k6] <;> first | rfl | decide, _, by simp only [wI_1, r0, r1, r12, r13, r41, r42, rd4_0, h17]; exact T_put hS rfl hn, ?_⟩
  rintro _ _ ⟨rfl, rfl⟩
  refine ⟨Or.inl rfl, ?_⟩
  refine ⟨by simp only [wI_1, r0, r1, r12, r13, r41, r42, k0, k1, k2, k3, k4, k5, k6] <;> first | rfl | decide, ?_⟩
  refine ⟨by simp only [wI_1, r0, r1, r12, r13, r41, r42, k0, k1, k2, k3, k4, k5, k6] <;> first | rfl | decide, trivial, ?_⟩
  refine ⟨⟨Nat.zero_le _, Nat.zero_le _⟩, rfl, ?_⟩
  show (S, _, J) = (S, _, J)
  simp only [wI_M, tk_0, tk_1, tk_2, tk_3, tk_4, tk_5, tk_6, tk_7, tk_8, tk_9, tk_10, tk_11, tk_12, tk_13, tk_14, tk_15, tk_16, tk_17, rd0_2, wr0_2, rd0_3, wr0_3, rd0_4, wr0_4, rd0_5, wr0_5, rd0_6, wr0_6, rd0_7, wr0_7, rd0_8, wr0_8, rd0_9, wr0_9, rd0_10, wr0_10, rd0_11, wr0_11, rd0_12, wr0_12, rd0_13, wr0_13, rd0_14, wr0_14, rd0_15, wr0_15, rd0_16, wr0_16, rd1_0, wr1_0, rd1_1, wr1_1, rd4_0, wr4_0, wI_1, r0, r1, r12, r13, r41, r42]
  have e17 : rPut2 σ n (10 * x + y) z 17 = σ 17 := by unfold rPut2; rw [pk_un (by omega), pk_un (by omega)]
  rw [e17, h17, nI_1]
  rfl
theorem rShift_s2 (ρ : Rw) (a k : Nat) : upd (upd (rShift ρ a k) (a + k) (rShift ρ a k (a + k + 2))) (a + k + 1) (rShift ρ a k (a + k + 3)) = rShift ρ a (k + 2) := by
  have e : rShift ρ a k (a + k + 3) = rShift ρ a (k + 1) (a + (k + 1) + 2) := by
    unfold rShift
    rw [if_neg (by omega), if_neg (by omega)]
    congr 1
  rw [e, rShift_s]
  exact rShift_s ρ a (k + 1)
set_option maxHeartbeats 1000000 in
theorem T_takeOut {d : Nat} {S : Sc} {M : Nat → Nat → Int32} {J : Nat → Nat → Int64} {b : Nat} {σ : Rw} (hS : OdS S b) {o : Nat} (ho : o = b + 4) {i n : Nat} (hi : i < n) (hn : n ≤ 12) (h17 : σ 17 = nI n) : Wp (d + 2) 45 [.ref o, .int (nI i)] (S, sO M b σ, J) (fun rs w' => rs = .inl (some (.int (σ (19 + 2 * i)))) ∧ w' = (S, sO M b (rDrop σ i n), J)) := by
  subst ho
  obtain ⟨⟨k0, k1, k2, k3, k4, k5, k6⟩, ⟨r0, r1, r12, r13, r41, r42⟩, l2, l3, l5, l6⟩ := id hS
  have h17k : ∀ k, rShift σ (18 + 2 * i) k 17 = nI n := fun k => by rw [rShift_lo _ (by omega), h17]
  refine ⟨rfl, ?_⟩
  refine EE.runN (stop := atPc [10]) 100 _ ?_
  refine ⟨⟨Nat.le_of_ble_eq_true rfl, Nat.le_of_ble_eq_true rfl, Nat.le_of_ble_eq_true rfl⟩, by simp only [wI_1, r0, r1, r12, r13, r41, r42, k0, k1, k2, k3, k4, k5, k6] <;> first | rfl | decide, _, T_notedAt hS rfl (by omega), ?_⟩
  rintro _ _ ⟨rfl, rfl⟩
  refine ⟨Or.inl rfl, ?_⟩
  refine ee_at (nt := nzT 45) [(0, .ref (b + 4)), (2, .int (σ (19 + 2 * i))), (3, .int (nI (i + 1 + 0)))] (S, sO M b (rShift σ (18 + 2 * i) (2 * 0)), J) rfl (by rw [Nat.add_zero, ← nI_1 i]; rfl) (by rw [Nat.mul_zero, rShift_0]) ?_
  refine ee_loop (fun k => (10, [(0, .ref (b + 4)), (2, .int (σ (19 + 2 * i))), (3, .int (nI (i + 1 + k)))], [], (S, sO M b (rShift σ (18 + 2 * i) (2 * k)), J), 0, 0)) (n - 1 - i) (fun k h_k ih_k => ?_) ?_
  · refine EE.runN (stop := atPc [10]) 80 _ ?_
    have em : nI (i + 1 + k) - 1 = nI (i + k) := by rw [show i + 1 + k = i + k + 1 by omega, nI_pred]
    refine ⟨by simp only [wI_1, r0, r1, r12, r13, r41, r42, k0, k1, k2, k3, k4, k5, k6] <;> first | rfl | decide, ?_⟩
    refine ⟨fun h1 => ?_, fun h1 => ?_⟩
    · (have h_ := h1; simp only [wI_1, r0, r1, r12, r13, r41, r42, rd4_0, h17k] at h_; exact absurd h_ (nI_ge (by omega) (by omega)))
    · refine ⟨⟨Nat.le_of_ble_eq_true rfl, Nat.le_of_ble_eq_true rfl, Nat.le_of_ble_eq_true rfl⟩, by simp only [wI_1, r0, r1, r12, r13, r41, r42, k0, k1, k2, k3, k4, k5, k6] <;> first | rfl | decide, _, T_codeAt (q := i + 1 + k) hS rfl (by omega), ?_⟩
      rintro _ _ ⟨rfl, rfl⟩
      refine ⟨Or.inl rfl, ?_⟩
      refine ⟨⟨Nat.le_of_ble_eq_true rfl, Nat.le_of_ble_eq_true rfl, Nat.le_of_ble_eq_true rfl⟩, by simp only [wI_1, r0, r1, r12, r13, r41, r42, k0, k1, k2, k3, k4, k5, k6] <;> first | rfl | decide, _, T_notedAt (q := i + 1 + k) hS rfl (by omega), ?_⟩
      rintro _ _ ⟨rfl, rfl⟩
      refine ⟨Or.inl rfl, ?_⟩
      refine ⟨⟨Nat.le_of_ble_eq_true rfl, Nat.le_of_ble_eq_true rfl, Nat.le_of_ble_eq_true rfl⟩, by simp only [wI_1, r0, r1, r12, r13, r41, r42, k0, k1, k2, k3, k4, k5, k6] <;> first | rfl | decide, _, by rw [em]; exact T_put (q := i + k) hS rfl (by omega), ?_⟩
      rintro _ _ ⟨rfl, rfl⟩
      refine ⟨Or.inl rfl, ?_⟩
      refine ee_at (nt := nzT 45) [(0, .ref (b + 4)), (2, .int (σ (19 + 2 * i))), (3, .int (nI (i + 1 + (k + 1))))] (S, sO M b (rShift σ (18 + 2 * i) (2 * (k + 1))), J) rfl (by rw [← Nat.add_assoc, ← nI_1]; rfl) (by show (S, sO M b (rPut2 _ _ _ _), J) = (S, _, J); rw [rPut2, show 18 + 2 * (i + k) = 18 + 2 * i + 2 * k by omega, show 19 + 2 * (i + k) = 18 + 2 * i + 2 * k + 1 by omega, show 18 + 2 * (i + 1 + k) = 18 + 2 * i + 2 * k + 2 by omega, show 19 + 2 * (i + 1 + k) = 18 + 2 * i + 2 * k + 3 by omega, rShift_s2]; rfl) ?_
      exact ih_k
  · refine EE.runN (stop := atPc [10]) 80 _ ?_
    refine ⟨by simp only [wI_1, r0, r1, r12, r13, r41, r42, k0, k1, k2, k3, k4, k5, k6] <;> first | rfl | decide, ?_⟩
    refine ⟨fun h2 => ?_, fun h2 => ?_⟩
    · refine ⟨by simp only [wI_1, r0, r1, r12, r13, r41, r42, k0, k1, k2, k3, k4, k5, k6] <;> first | rfl | decide, ?_⟩
      refine ⟨by simp only [wI_1, r0, r1, r12, r13, r41, r42, k0, k1, k2, k3, k4, k5, k6] <;> first | rfl | decide, trivial, ?_⟩
      refine ⟨⟨Nat.zero_le _, Nat.zero_le _⟩, rfl, ?_⟩
      show (S, _, J) = (S, _, J)
      simp only [wI_M, tk_0, tk_1, tk_2, tk_3, tk_4, tk_5, tk_6, tk_7, tk_8, tk_9, tk_10, tk_11, tk_12, tk_13, tk_14, tk_15, tk_16, tk_17, rd0_2, wr0_2, rd0_3, wr0_3, rd0_4, wr0_4, rd0_5, wr0_5, rd0_6, wr0_6, rd0_7, wr0_7, rd0_8, wr0_8, rd0_9, wr0_9, rd0_10, wr0_10, rd0_11, wr0_11, rd0_12, wr0_12, rd0_13, wr0_13, rd0_14, wr0_14, rd0_15, wr0_15, rd0_16, wr0_16, rd1_0, wr1_0, rd1_1, wr1_1, rd4_0, wr4_0, wI_1, r0, r1, r12, r13, r41, r42, h17k]
      rw [show (1 : Int32) = nI 1 from rfl, pk_sub (by omega)]
      rfl
    · (have h_ := h2; simp only [wI_1, r0, r1, r12, r13, r41, r42, rd4_0, h17k] at h_; exact absurd (nI_le (by omega) (by omega)) h_)
/-- the first place below k with the least number noted -/
def rSm (σ : Rw) : Nat → Int32
  | 0 => -99999
  | k + 1 => if rSm σ k = -99999 then nI k else if σ (19 + 2 * (rSm σ k).toNatClampNeg) ≤ σ (19 + 2 * k) then rSm σ k else nI k
theorem rSm_or (σ : Rw) : ∀ k, rSm σ k = -99999 ∨ ∃ i, i < k ∧ rSm σ k = nI i
  | 0 => Or.inl rfl
  | k + 1 => by
    unfold rSm
    split
    · exact Or.inr ⟨k, by omega, rfl⟩
    · split
      · rcases rSm_or σ k with h | ⟨i, h1, h2⟩
        · exact Or.inl h
        · exact Or.inr ⟨i, by omega, h2⟩
      · exact Or.inr ⟨k, by omega, rfl⟩
set_option maxHeartbeats 1000000 in
theorem T_smallest {d : Nat} {S : Sc} {M : Nat → Nat → Int32} {J : Nat → Nat → Int64} {b : Nat} {σ : Rw} (hS : OdS S b) {o : Nat} (ho : o = b + 4) {n : Nat} (hn : n ≤ 12) (h17 : σ 17 = nI n) : Wp (d + 2) 46 [.ref o] (S, sO M b σ, J) (fun rs w' => rs = .inl (some (.int (rSm σ n))) ∧ w' = (S, sO M b (σ), J)) := by
  subst ho
  obtain ⟨⟨k0, k1, k2, k3, k4, k5, k6⟩, ⟨r0, r1, r12, r13, r41, r42⟩, l2, l3, l5, l6⟩ := id hS
  refine ⟨rfl, ?_⟩
  refine EE.runN (stop := atPc [5]) 100 _ ?_
  refine ee_at (nt := nzT 46) [(0, .ref (b + 4)), (1, .int (rSm σ 0)), (2, .int (nI 0))] (S, sO M b σ, J) rfl (by rfl) (by rfl) ?_
  refine ee_loop (fun k => (5, [(0, .ref (b + 4)), (1, .int (rSm σ k)), (2, .int (nI k))], [], (S, sO M b σ, J), 0, 0)) (n) (fun k h_k ih_k => ?_) ?_
  · refine EE.runN (stop := atPc [5]) 80 _ ?_
    refine ⟨by simp only [wI_1, r0, r1, r12, r13, r41, r42, k0, k1, k2, k3, k4, k5, k6] <;> first | rfl | decide, ?_⟩
    refine ⟨fun h1 => ?_, fun h1 => ?_⟩
    · (have h_ := h1; simp only [wI_1, r0, r1, r12, r13, r41, r42, rd4_0, h17] at h_; exact absurd h_ (nI_ge h_k (by omega)))
    · refine ⟨fun h2 => ?_, fun h2 => ?_⟩
      · refine ee_at (nt := nzT 46) [(0, .ref (b + 4)), (1, .int (rSm σ (k + 1))), (2, .int (nI (k + 1)))] (S, sO M b σ, J) rfl (by rw [rSm, if_pos h2, ← nI_1 k]; rfl) (by rfl) ?_
        exact ih_k
      · obtain ⟨i, hi1, hi2⟩ := (rSm_or σ k).resolve_left h2
        have hi2c : (rSm σ k).toNatClampNeg = i := by rw [hi2, ck (by omega)]
        refine ⟨⟨Nat.le_of_ble_eq_true rfl, Nat.le_of_ble_eq_true rfl, Nat.le_of_ble_eq_true rfl⟩, by simp only [wI_1, r0, r1, r12, r13, r41, r42, k0, k1, k2, k3, k4, k5, k6] <;> first | rfl | decide, _, T_notedAt (q := k) hS rfl (by omega), ?_⟩
        rintro _ _ ⟨rfl, rfl⟩
        refine ⟨Or.inl rfl, ?_⟩
        refine ⟨⟨Nat.le_of_ble_eq_true rfl, Nat.le_of_ble_eq_true rfl, Nat.le_of_ble_eq_true rfl⟩, by simp only [wI_1, r0, r1, r12, r13, r41, r42, k0, k1, k2, k3, k4, k5, k6] <;> first | rfl | decide, _, by rw [hi2]; exact T_notedAt (q := i) hS rfl (by omega), ?_⟩
        rintro _ _ ⟨rfl, rfl⟩
        refine ⟨Or.inl rfl, ?_⟩
        refine ⟨fun h3 => ?_, fun h3 => ?_⟩
        · have hx := h3
          rw [← hi2c] at hx
          refine ee_at (nt := nzT 46) [(0, .ref (b + 4)), (1, .int (rSm σ (k + 1))), (2, .int (nI (k + 1)))] (S, sO M b σ, J) rfl (by rw [rSm, if_neg h2, if_pos hx, ← nI_1 k]; rfl) (by rfl) ?_
          exact ih_k
        · have hx := h3
          rw [← hi2c] at hx
          refine ee_at (nt := nzT 46) [(0, .ref (b + 4)), (1, .int (rSm σ (k + 1))), (2, .int (nI (k + 1)))] (S, sO M b σ, J) rfl (by rw [rSm, if_neg h2, if_neg hx, ← nI_1 k]; rfl) (by rfl) ?_
          exact ih_k
  · refine EE.runN (stop := atPc [5]) 80 _ ?_
    refine ⟨by simp only [wI_1, r0, r1, r12, r13, r41, r42, k0, k1, k2, k3, k4, k5, k6] <;> first | rfl | decide, ?_⟩
    refine ⟨fun h4 => ?_, fun h4 => ?_⟩
    · exact ⟨⟨Nat.zero_le _, Nat.zero_le _⟩, rfl, rfl⟩
    · (have h_ := h4; simp only [wI_1, r0, r1, r12, r13, r41, r42, rd4_0, h17] at h_; exact absurd (nI_le (Nat.le_refl n) (by omega)) h_)
