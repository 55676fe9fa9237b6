/-! THE REFERENCE: numbers, head, commands of a text: written by wip/whole/pure3.py -/
theorem mDig_le {n : Nat} {τ : Nat → Nat} {lo hi : Nat} {s : PS} : (mDig n τ lo hi s).1.2 ≤ s.2 + 1 := mAcc_le
theorem mTwo_le {n : Nat} {τ : Nat → Nat} {lo hi : Nat} {s : PS} : (mTwo n τ lo hi s).1.2 ≤ s.2 + 2 := by
  unfold mTwo
  dsimp only
  have a := mDig_le (n := n) (τ := τ) (lo := lo / 10) (hi := hi / 10) (s := s)
  generalize mDig n τ (lo / 10) (hi / 10) s = r at *
  have b := mDig_le (n := n) (τ := τ) (lo := lo - 10 * r.2) (hi := min 9 (hi - 10 * r.2)) (s := r.1)
  omega
theorem mThree_le {n : Nat} {τ : Nat → Nat} {lo : Nat} {s : PS} : (mThree n τ lo s).1.2 ≤ s.2 + 3 := by
  unfold mThree
  dsimp only
  have a := mDig_le (n := n) (τ := τ) (lo := 0) (hi := 9) (s := s)
  generalize mDig n τ 0 9 s = r at *
  have b := mTwo_le (n := n) (τ := τ) (lo := lo - 100 * r.2) (hi := 99) (s := r.1)
  omega
theorem i_clip {a c : Nat} (ha : a < 100000) (hc : c < 100000) (h : ¬ 0 ≤ nI a - nI c) : (0 : Int32) = nI (a - c) := by
  rcases Nat.lt_or_ge a c with g | g
  · rw [show a - c = 0 by omega]
    rfl
  · rw [pk_sub g] at h
    exact absurd (nI_pos' (by omega)) h
theorem i_clip' {a c : Nat} (ha : a < 100000) (hc : c < 100000) (h : 0 ≤ nI a - nI c) : nI a - nI c = nI (a - c) := by
  rcases Nat.lt_or_ge a c with g | g
  · have := pk_sneg (a := a) (b := c) (by omega) g
    exact absurd (Int32.lt_of_lt_of_le this h) Int32.lt_irrefl
  · exact pk_sub g
set_option maxHeartbeats 1000000 in
theorem T_two {d : Nat} {S : Sc} {M : Nat → Nat → Int32} {J : Nat → Nat → Int64} {n : Nat} {τ : Nat → Nat} {s : PS} (hM : MoS S) (hT : TxM M n τ) (hs : s.2 < 990) {lo hi : Nat} (hlo : lo ≤ hi) (hhi : hi ≤ 99) : Wp (d + 3) 126 [.ref 137, .int (nI lo), .int (nI hi)] (S, setP M s, J) (fun rs w' => rs = .inl (some (.int (nI (mTwo n τ lo hi s).2))) ∧ w' = (S, setP M (mTwo n τ lo hi s).1, J)) := by
  obtain ⟨⟨b137, p1, p8, p9, p10, p12, p13⟩, ⟨b138, b139, b140, b141, b142, b143⟩, n138, n139, n140, n141, n142, n143⟩ := id hM
  obtain ⟨t2, tn, tq⟩ := id hT
  have s2 : setP M s 137 2 = nI n := (setP_k M s (by omega) (by omega)).trans t2
  have s138 : setP M s 138 = M 138 := setP_o M s (by omega)
  have e1 : (nI lo / 10 : Int32) = nI (lo / 10) := by rw [o_10, pk_div (by omega) (by omega) (by omega)]
  have e2 : (nI hi / 10 : Int32) = nI (hi / 10) := by rw [o_10, pk_div (by omega) (by omega) (by omega)]
  have dv := mDig_v (n := n) (τ := τ) (lo := lo / 10) (hi := hi / 10) (s := s) (by omega) (by omega)
  have dl := mDig_le (n := n) (τ := τ) (lo := lo / 10) (hi := hi / 10) (s := s)
  refine ⟨rfl, ?_⟩
  refine EE.runN (stop := noStop) 80 _ ?_
  refine ⟨by first | decide | simp only [wI_1, wI_w, p1, p8, p9, p10, p12, p13, b137, b138, b139, b140, b141, b142, b143] <;> first | rfl | decide, ?_⟩
  refine ⟨by first | decide | simp only [wI_1, wI_w, p1, p8, p9, p10, p12, p13, b137, b138, b139, b140, b141, b142, b143] <;> first | rfl | decide, ?_⟩
  refine ⟨⟨Nat.le_of_ble_eq_true rfl, Nat.le_of_ble_eq_true rfl, Nat.le_of_ble_eq_true rfl⟩, by simp only [wI_1, wI_w, p1, p8, p9, p10, p12, p13, b137, b138, b139, b140, b141, b142, b143] <;> first | rfl | decide, _, by rw [e1, e2]; exact T_digit (lo := lo / 10) (hi := hi / 10) hM hT (by omega) (by omega) (by omega), ?_⟩
  rintro _ _ ⟨rfl, rfl⟩
  generalize hr : mDig n τ (lo / 10) (hi / 10) s = r at *
  refine ⟨Or.inl rfl, ?_⟩
  refine ⟨fun h1 => ?_, fun h1 => ?_⟩
  · have h_ : 0 ≤ nI lo - 10 * nI r.2 := h1
    have i_from : nI lo - 10 * nI r.2 = nI (lo - 10 * r.2) := by
      rw [o_10, pk_mul] at h_ ⊢
      exact i_clip' (by omega) (by omega) h_
    refine ⟨fun h2 => ?_, fun h2 => ?_⟩
    · have e3 : (nI hi - 10 * nI r.2 : Int32) = nI (hi - 10 * r.2) := by rw [o_10, pk_mul, pk_sub (by omega)]
      have h_ : nI hi - 10 * nI r.2 ≤ 9 := h2
      rw [e3, o_9, nI_leI (by omega) (by omega)] at h_
      have i_to : (nI hi - 10 * nI r.2 : Int32) = nI (min 9 (hi - 10 * r.2)) := by rw [e3, show min 9 (hi - 10 * r.2) = hi - 10 * r.2 by omega]
      refine ⟨⟨Nat.le_of_ble_eq_true rfl, Nat.le_of_ble_eq_true rfl, Nat.le_of_ble_eq_true rfl⟩, by simp only [wI_1, wI_w, p1, p8, p9, p10, p12, p13, b137, b138, b139, b140, b141, b142, b143] <;> first | rfl | decide, _, by rw [i_from, i_to]; exact T_digit (lo := lo - 10 * r.2) (hi := min 9 (hi - 10 * r.2)) hM hT (by omega) (by omega) (by omega), ?_⟩
      rintro _ _ ⟨rfl, rfl⟩
      refine ⟨Or.inl rfl, ?_⟩
      refine ⟨⟨Nat.zero_le _, Nat.zero_le _⟩, congrArg (fun v => Sum.inl (some (Value.int v))) ?_, ?_⟩
      · unfold mTwo
        rw [hr, o_10, pk_mul, nI_add]
      · unfold mTwo
        rw [hr]
    · have e3 : (nI hi - 10 * nI r.2 : Int32) = nI (hi - 10 * r.2) := by rw [o_10, pk_mul, pk_sub (by omega)]
      have h_ : ¬ nI hi - 10 * nI r.2 ≤ 9 := h2
      rw [e3, o_9, nI_leI (by omega) (by omega)] at h_
      have i_to : (9 : Int32) = nI (min 9 (hi - 10 * r.2)) := by rw [show min 9 (hi - 10 * r.2) = 9 by omega]; rfl
      refine ⟨⟨Nat.le_of_ble_eq_true rfl, Nat.le_of_ble_eq_true rfl, Nat.le_of_ble_eq_true rfl⟩, by simp only [wI_1, wI_w, p1, p8, p9, p10, p12, p13, b137, b138, b139, b140, b141, b142, b143] <;> first | rfl | decide, _, by rw [i_from, i_to]; exact T_digit (lo := lo - 10 * r.2) (hi := min 9 (hi - 10 * r.2)) hM hT (by omega) (by omega) (by omega), ?_⟩
      rintro _ _ ⟨rfl, rfl⟩
      refine ⟨Or.inl rfl, ?_⟩
      refine ⟨⟨Nat.zero_le _, Nat.zero_le _⟩, congrArg (fun v => Sum.inl (some (Value.int v))) ?_, ?_⟩
      · unfold mTwo
        rw [hr, o_10, pk_mul, nI_add]
      · unfold mTwo
        rw [hr]
  · have h_ : ¬ 0 ≤ nI lo - 10 * nI r.2 := h1
    have i_from : (0 : Int32) = nI (lo - 10 * r.2) := by
      rw [o_10, pk_mul] at h_
      exact i_clip (by omega) (by omega) h_
    refine ⟨fun h3 => ?_, fun h3 => ?_⟩
    · have e3 : (nI hi - 10 * nI r.2 : Int32) = nI (hi - 10 * r.2) := by rw [o_10, pk_mul, pk_sub (by omega)]
      have h_ : nI hi - 10 * nI r.2 ≤ 9 := h3
      rw [e3, o_9, nI_leI (by omega) (by omega)] at h_
      have i_to : (nI hi - 10 * nI r.2 : Int32) = nI (min 9 (hi - 10 * r.2)) := by rw [e3, show min 9 (hi - 10 * r.2) = hi - 10 * r.2 by omega]
      refine ⟨⟨Nat.le_of_ble_eq_true rfl, Nat.le_of_ble_eq_true rfl, Nat.le_of_ble_eq_true rfl⟩, by simp only [wI_1, wI_w, p1, p8, p9, p10, p12, p13, b137, b138, b139, b140, b141, b142, b143] <;> first | rfl | decide, _, by rw [i_from, i_to]; exact T_digit (lo := lo - 10 * r.2) (hi := min 9 (hi - 10 * r.2)) hM hT (by omega) (by omega) (by omega), ?_⟩
      rintro _ _ ⟨rfl, rfl⟩
      refine ⟨Or.inl rfl, ?_⟩
      refine ⟨⟨Nat.zero_le _, Nat.zero_le _⟩, congrArg (fun v => Sum.inl (some (Value.int v))) ?_, ?_⟩
      · unfold mTwo
        rw [hr, o_10, pk_mul, nI_add]
      · unfold mTwo
        rw [hr]
    · have e3 : (nI hi - 10 * nI r.2 : Int32) = nI (hi - 10 * r.2) := by rw [o_10, pk_mul, pk_sub (by omega)]
      have h_ : ¬ nI hi - 10 * nI r.2 ≤ 9 := h3
      rw [e3, o_9, nI_leI (by omega) (by omega)] at h_
      have i_to : (9 : Int32) = nI (min 9 (hi - 10 * r.2)) := by rw [show min 9 (hi - 10 * r.2) = 9 by omega]; rfl
      refine ⟨⟨Nat.le_of_ble_eq_true rfl, Nat.le_of_ble_eq_true rfl, Nat.le_of_ble_eq_true rfl⟩, by simp only [wI_1, wI_w, p1, p8, p9, p10, p12, p13, b137, b138, b139, b140, b141, b142, b143] <;> first | rfl | decide, _, by rw [i_from, i_to]; exact T_digit (lo := lo - 10 * r.2) (hi := min 9 (hi - 10 * r.2)) hM hT (by omega) (by omega) (by omega), ?_⟩
      rintro _ _ ⟨rfl, rfl⟩
      refine ⟨Or.inl rfl, ?_⟩
      refine ⟨⟨Nat.zero_le _, Nat.zero_le _⟩, congrArg (fun v => Sum.inl (some (Value.int v))) ?_, ?_⟩
      · unfold mTwo
        rw [hr, o_10, pk_mul, nI_add]
      · unfold mTwo
        rw [hr]
set_option maxHeartbeats 1000000 in
theorem T_three {d : Nat} {S : Sc} {M : Nat → Nat → Int32} {J : Nat → Nat → Int64} {n : Nat} {τ : Nat → Nat} {s : PS} (hM : MoS S) (hT : TxM M n τ) (hs : s.2 < 980) {lo : Nat} (hlo : lo ≤ 99) : Wp (d + 4) 127 [.ref 137, .int (nI lo)] (S, setP M s, J) (fun rs w' => rs = .inl (some (.int (nI (mThree n τ lo s).2))) ∧ w' = (S, setP M (mThree n τ lo s).1, J)) := by
  obtain ⟨⟨b137, p1, p8, p9, p10, p12, p13⟩, ⟨b138, b139, b140, b141, b142, b143⟩, n138, n139, n140, n141, n142, n143⟩ := id hM
  obtain ⟨t2, tn, tq⟩ := id hT
  have s2 : setP M s 137 2 = nI n := (setP_k M s (by omega) (by omega)).trans t2
  have s138 : setP M s 138 = M 138 := setP_o M s (by omega)
  have dv := mDig_v (n := n) (τ := τ) (lo := 0) (hi := 9) (s := s) (by omega) (by omega)
  have dl := mDig_le (n := n) (τ := τ) (lo := 0) (hi := 9) (s := s)
  refine ⟨rfl, ?_⟩
  refine EE.runN (stop := noStop) 80 _ ?_
  refine ⟨⟨Nat.le_of_ble_eq_true rfl, Nat.le_of_ble_eq_true rfl, Nat.le_of_ble_eq_true rfl⟩, by simp only [wI_1, wI_w, p1, p8, p9, p10, p12, p13, b137, b138, b139, b140, b141, b142, b143] <;> first | rfl | decide, _, T_digit (lo := 0) (hi := 9) hM hT (by omega) (by omega) (by omega), ?_⟩
  rintro _ _ ⟨rfl, rfl⟩
  generalize hr : mDig n τ 0 9 s = r at *
  refine ⟨Or.inl rfl, ?_⟩
  refine ⟨fun h1 => ?_, fun h1 => ?_⟩
  · have h_ : 0 ≤ nI lo - 100 * nI r.2 := h1
    have i_from : nI lo - 100 * nI r.2 = nI (lo - 100 * r.2) := by
      rw [o_100, pk_mul] at h_ ⊢
      exact i_clip' (by omega) (by omega) h_
    refine ⟨⟨Nat.le_of_ble_eq_true rfl, Nat.le_of_ble_eq_true rfl, Nat.le_of_ble_eq_true rfl⟩, by simp only [wI_1, wI_w, p1, p8, p9, p10, p12, p13, b137, b138, b139, b140, b141, b142, b143] <;> first | rfl | decide, _, by rw [i_from]; exact T_two (lo := lo - 100 * r.2) (hi := 99) hM hT (by omega) (by omega) (by omega), ?_⟩
    rintro _ _ ⟨rfl, rfl⟩
    refine ⟨Or.inl rfl, ?_⟩
    refine ⟨⟨Nat.zero_le _, Nat.zero_le _⟩, congrArg (fun v => Sum.inl (some (Value.int v))) ?_, ?_⟩
    · unfold mThree
      rw [hr, o_100, pk_mul, nI_add]
    · unfold mThree
      rw [hr]
  · have h_ : ¬ 0 ≤ nI lo - 100 * nI r.2 := h1
    have i_from : (0 : Int32) = nI (lo - 100 * r.2) := by
      rw [o_100, pk_mul] at h_
      exact i_clip (by omega) (by omega) h_
    refine ⟨⟨Nat.le_of_ble_eq_true rfl, Nat.le_of_ble_eq_true rfl, Nat.le_of_ble_eq_true rfl⟩, by simp only [wI_1, wI_w, p1, p8, p9, p10, p12, p13, b137, b138, b139, b140, b141, b142, b143] <;> first | rfl | decide, _, by rw [i_from]; exact T_two (lo := lo - 100 * r.2) (hi := 99) hM hT (by omega) (by omega) (by omega), ?_⟩
    rintro _ _ ⟨rfl, rfl⟩
    refine ⟨Or.inl rfl, ?_⟩
    refine ⟨⟨Nat.zero_le _, Nat.zero_le _⟩, congrArg (fun v => Sum.inl (some (Value.int v))) ?_, ?_⟩
    · unfold mThree
      rw [hr, o_100, pk_mul, nI_add]
    · unfold mThree
      rw [hr]
def setQ (M : Nat → Nat → Int32) (k : Nat) (v : Int32) : Nat → Nat → Int32 := upA M 137 (upd (M 137) k v)
theorem setQ_P {M : Nat → Nat → Int32} {s : PS} {k : Nat} {v : Int32} (h3 : k ≠ 3) (h4 : k ≠ 4) : upA (setP M s) 137 (upd (setP M s 137) k v) = setP (setQ M k v) s := by
  unfold setP setQ
  rw [upA_s, upA_uu, upA_s, upA_uu]
  refine congrArg (upA M 137) ?_
  rw [upd_cm _ _ _ (show 3 ≠ k from fun e => h3 e.symm), upd_cm _ _ _ (show 4 ≠ k from fun e => h4 e.symm)]
theorem setQ_o {M : Nat → Nat → Int32} {k : Nat} {v : Int32} {c : Nat} (h : c ≠ 137) : setQ M k v c = M c := upA_n _ _ h
theorem setQ_k {M : Nat → Nat → Int32} {k q : Nat} {v : Int32} (h : q ≠ k) : setQ M k v 137 q = M 137 q := by
  unfold setQ
  rw [upA_s, pk_un h]
theorem setQ_s {M : Nat → Nat → Int32} {k : Nat} {v : Int32} : setQ M k v 137 k = v := by
  unfold setQ
  rw [upA_s, pk_us]
theorem TxM.Q {M : Nat → Nat → Int32} {n : Nat} {τ : Nat → Nat} (h : TxM M n τ) {k : Nat} {v : Int32} (hk : k ≠ 2) : TxM (setQ M k v) n τ := by
  refine ⟨(setQ_k (fun e => hk e.symm)).trans h.1, h.2.1, fun q hq => ?_⟩
  rw [setQ_o (by omega)]
  exact h.2.2 q hq
def nxt (n : Nat) (τ : Nat → Nat) (k : Nat) (s : PS) : Bool := decide (s.2 < n ∧ τ s.2 = k)
theorem nxt_b {n : Nat} {τ : Nat → Nat} {k : Nat} {s : PS} : bI (s.2 < n ∧ τ s.2 = k) = bI (nxt n τ k s = true) := bI_cg (decide_eq_true_iff).symm
def mHd1 (n : Nat) (τ : Nat → Nat) : PS := mAcc (nxt n τ 79 (true, 0)) (true, 0)
def mHd2 (n : Nat) (τ : Nat → Nat) : PS × Nat := mTwo n τ 3 12 (mHd1 n τ)
def mHd3 (n : Nat) (τ : Nat → Nat) : PS × Nat := mTwo n τ 1 99 (mHd2 n τ).1
def mHd4 (n : Nat) (τ : Nat → Nat) : PS × Nat := mThree n τ 10 (mHd3 n τ).1
def mHdM (M : Nat → Nat → Int32) (n : Nat) (τ : Nat → Nat) : Nat → Nat → Int32 := setQ (setQ (setQ M 5 (nI (mHd2 n τ).2)) 6 (nI (mHd3 n τ).2)) 7 (nI (mHd4 n τ).2)
theorem mHd_le (n : Nat) (τ : Nat → Nat) : (mHd1 n τ).2 ≤ 1 ∧ (mHd2 n τ).1.2 ≤ 3 ∧ (mHd3 n τ).1.2 ≤ 5 ∧ (mHd4 n τ).1.2 ≤ 8 := by
  have a : (mHd1 n τ).2 ≤ 0 + 1 := mAcc_le
  have b := mTwo_le (n := n) (τ := τ) (lo := 3) (hi := 12) (s := mHd1 n τ)
  have c := mTwo_le (n := n) (τ := τ) (lo := 1) (hi := 99) (s := (mHd2 n τ).1)
  have d := mThree_le (n := n) (τ := τ) (lo := 10) (s := (mHd3 n τ).1)
  unfold mHd4 mHd3 mHd2 at *
  omega
theorem mHdM_o {M : Nat → Nat → Int32} {n : Nat} {τ : Nat → Nat} {c : Nat} (h : c ≠ 137) : mHdM M n τ c = M c := by
  unfold mHdM
  rw [setQ_o h, setQ_o h, setQ_o h]
theorem TxM.H {M : Nat → Nat → Int32} {n : Nat} {τ : Nat → Nat} (h : TxM M n τ) : TxM (mHdM M n τ) n τ := ((h.Q (by omega)).Q (by omega)).Q (by omega)
theorem set0 {M : Nat → Nat → Int32} : upA M 137 (upd (upd (M 137) 3 0) 4 1) = setP M (true, 0) := by
  unfold setP
  refine congrArg (upA M 137) ?_
  rw [upd_cm _ _ _ (show 3 ≠ 4 by omega)]
  rfl
set_option maxHeartbeats 2000000 in
theorem T_head {d : Nat} {S : Sc} {M : Nat → Nat → Int32} {J : Nat → Nat → Int64} {n : Nat} {τ : Nat → Nat} (hM : MoS S) (hT : TxM M n τ) : Wp (d + 5) 128 [.ref 137] (S, M, J) (fun rs w' => rs = .inl none ∧ w' = (S, setP (mHdM M n τ) (mHd4 n τ).1, J)) := by
  obtain ⟨⟨b137, p1, p8, p9, p10, p12, p13⟩, ⟨b138, b139, b140, b141, b142, b143⟩, n138, n139, n140, n141, n142, n143⟩ := id hM
  refine ⟨rfl, ?_⟩
  refine EE.runN (stop := noStop) 80 _ ?_
  refine ⟨by simp only [wI_1, wI_w, p1, p8, p9, p10, p12, p13, b137, b138, b139, b140, b141, b142, b143] <;> first | rfl | decide, trivial, ?_⟩
  refine ⟨by simp only [wI_1, wI_w, p1, p8, p9, p10, p12, p13, b137, b138, b139, b140, b141, b142, b143] <;> first | rfl | decide, by first | exact Or.inl rfl | exact Or.inr rfl | simp only [wI_1, wI_w, p1, p8, p9, p10, p12, p13, b137, b138, b139, b140, b141, b142, b143] <;> first | rfl | decide, ?_⟩
  refine ⟨⟨Nat.le_of_ble_eq_true rfl, Nat.le_of_ble_eq_true rfl, Nat.le_of_ble_eq_true rfl⟩, by simp only [wI_1, wI_w, p1, p8, p9, p10, p12, p13, b137, b138, b139, b140, b141, b142, b143] <;> first | rfl | decide, _, by simp only [wI_M, wI_1, wI_w, upA_s, upA_uu, set0]; exact T_isNext (k := 79) hM hT (show (0 : Nat) < 1000 by omega) (by omega), ?_⟩
  rintro _ w1 ⟨rfl, rfl⟩
  rw [nxt_b]
  refine ⟨Or.inl rfl, ?_⟩
  refine ⟨⟨Nat.le_of_ble_eq_true rfl, Nat.le_of_ble_eq_true rfl, Nat.le_of_ble_eq_true rfl⟩, by simp only [wI_1, wI_w, p1, p8, p9, p10, p12, p13, b137, b138, b139, b140, b141, b142, b143] <;> first | rfl | decide, _, T_accept hM, ?_⟩
  rintro _ w1 ⟨rfl, hw⟩
  have hw : w1 = (S, setP M (mHd1 n τ), J) := hw
  subst hw
  refine ⟨Or.inl rfl, ?_⟩
  refine ⟨⟨Nat.le_of_ble_eq_true rfl, Nat.le_of_ble_eq_true rfl, Nat.le_of_ble_eq_true rfl⟩, by simp only [wI_1, wI_w, p1, p8, p9, p10, p12, p13, b137, b138, b139, b140, b141, b142, b143] <;> first | rfl | decide, _, T_two (lo := 3) (hi := 12) hM hT (by have := (mHd_le n τ).1; omega) (by omega) (by omega), ?_⟩
  rintro _ w1 ⟨rfl, hw⟩
  have hw : w1 = (S, setP M (mHd2 n τ).1, J) := hw
  subst hw
  refine ⟨Or.inl rfl, ?_⟩
  refine ⟨by simp only [wI_1, wI_w, p1, p8, p9, p10, p12, p13, b137, b138, b139, b140, b141, b142, b143] <;> first | rfl | decide, trivial, ?_⟩
  refine ⟨⟨Nat.le_of_ble_eq_true rfl, Nat.le_of_ble_eq_true rfl, Nat.le_of_ble_eq_true rfl⟩, by simp only [wI_1, wI_w, p1, p8, p9, p10, p12, p13, b137, b138, b139, b140, b141, b142, b143] <;> first | rfl | decide, _, by simp only [wI_M, wI_1, wI_w, upA_s, upA_uu]; rw [setQ_P (by omega) (by omega)]; exact T_two (lo := 1) (hi := 99) hM (hT.Q (by omega)) (by have := (mHd_le n τ).2.1; omega) (by omega) (by omega), ?_⟩
  rintro _ w1 ⟨rfl, hw⟩
  have hw : w1 = (S, setP (setQ M 5 (nI (mHd2 n τ).2)) (mHd3 n τ).1, J) := hw
  subst hw
  refine ⟨Or.inl rfl, ?_⟩
  refine ⟨by simp only [wI_1, wI_w, p1, p8, p9, p10, p12, p13, b137, b138, b139, b140, b141, b142, b143] <;> first | rfl | decide, trivial, ?_⟩
  refine ⟨⟨Nat.le_of_ble_eq_true rfl, Nat.le_of_ble_eq_true rfl, Nat.le_of_ble_eq_true rfl⟩, by simp only [wI_1, wI_w, p1, p8, p9, p10, p12, p13, b137, b138, b139, b140, b141, b142, b143] <;> first | rfl | decide, _, by simp only [wI_M, wI_1, wI_w, upA_s, upA_uu]; rw [setQ_P (by omega) (by omega)]; exact T_three (lo := 10) hM ((hT.Q (by omega)).Q (by omega)) (by have := (mHd_le n τ).2.2.1; omega) (by omega), ?_⟩
  rintro _ w1 ⟨rfl, hw⟩
  have hw : w1 = (S, setP (setQ (setQ M 5 (nI (mHd2 n τ).2)) 6 (nI (mHd3 n τ).2)) (mHd4 n τ).1, J) := hw
  subst hw
  refine ⟨Or.inl rfl, ?_⟩
  refine ⟨by simp only [wI_1, wI_w, p1, p8, p9, p10, p12, p13, b137, b138, b139, b140, b141, b142, b143] <;> first | rfl | decide, trivial, ?_⟩
  refine ⟨⟨Nat.zero_le _, Nat.zero_le _⟩, rfl, ?_⟩
  show (S, _, J) = (S, _, J)
  refine congrArg (fun m => (S, m, J)) ?_
  show upA (setP (setQ (setQ M 5 (nI (mHd2 n τ).2)) 6 (nI (mHd3 n τ).2)) (mHd4 n τ).1) 137 _ = _
  exact setQ_P (by omega) (by omega)
