/-! THE CLASS: head and command of its text: written by wip/whole/pure3.py -/
def setF (M : Nat → Nat → Int32) (k : Nat) (v : Int32) : Nat → Nat → Int32 := upA M 2 (upd (M 2) k v)
theorem setF_s {M : Nat → Nat → Int32} {k : Nat} {v : Int32} : setF M k v 2 k = v := by
  unfold setF
  rw [upA_s, pk_us]
theorem setF_k {M : Nat → Nat → Int32} {k q : Nat} {v : Int32} (h : q ≠ k) : setF M k v 2 q = M 2 q := by
  unfold setF
  rw [upA_s, pk_un h]
theorem setF_o {M : Nat → Nat → Int32} {k o : Nat} {v : Int32} (h : o ≠ 2) : setF M k v o = M o := upA_n _ _ h
theorem TxC.F {M : Nat → Nat → Int32} {n : Nat} {τ : Nat → Nat} (h : TxC M n τ) {k : Nat} {v : Int32} (hk : k ≠ 0) : TxC (setF M k v) n τ := by
  refine ⟨(setF_k (fun e => hk e.symm)).trans h.1, h.2.1, fun q hq => ?_⟩
  rw [setF_o (by omega)]
  exact h.2.2 q hq
theorem rdV_n {m : PS × Nat} (hv : m.2 < 100000) (h : rdV m = -99999) : m.1 = (false, m.1.2) := by
  unfold rdV at h
  cases e : m.1.1 with
  | true =>
    rw [if_pos e] at h
    exact absurd h (nI_ne_none (by omega))
  | false =>
    rw [← e]
theorem rdV_y {m : PS × Nat} (h : ¬ rdV m = -99999) : m.1 = (true, m.1.2) ∧ rdV m = nI m.2 := by
  unfold rdV at *
  cases e : m.1.1 with
  | true =>
    rw [if_pos rfl]
    refine ⟨?_, rfl⟩
    rw [← e]
  | false =>
    rw [if_neg (by rw [e]; decide)] at h
    exact absurd rfl h
theorem cSg_e {n : Nat} {τ : Nat → Nat} {c k : Nat} (ht : c < n → τ c ≤ 255) (hk : k ≤ 255) : cSg n τ c = nI k ↔ (c < n ∧ τ c = k) := by
  unfold cSg
  by_cases h : c < n
  · have := ht h
    rw [if_pos h, nI_eq (by omega) (by omega)]
    exact ⟨fun e => ⟨h, e⟩, fun e => e.2⟩
  · rw [if_neg h]
    exact ⟨fun e => absurd e.symm (nI_ne_none (by omega)), fun e => absurd e.1 h⟩
theorem hd_no {n : Nat} {τ : Nat → Nat} (h : nxt n τ 79 (true, 0) = false) : (mHd4 n τ).1 = (false, 0) := by
  have e1 : mHd1 n τ = (false, 0) := by
    unfold mHd1
    rw [h]
    rfl
  have e2 : (mHd2 n τ).1 = (false, 0) := by
    unfold mHd2
    rw [e1]
    rfl
  have e3 : (mHd3 n τ).1 = (false, 0) := by
    unfold mHd3
    rw [e2]
    rfl
  unfold mHd4
  rw [e3]
  rfl
theorem hd_1 {n : Nat} {τ : Nat → Nat} (h : nxt n τ 79 (true, 0) = true) : mHd2 n τ = mTwo n τ 3 12 (true, 1) := by
  have e1 : mHd1 n τ = (true, 1) := by
    unfold mHd1
    rw [h]
    rfl
  unfold mHd2
  rw [e1]
theorem hd_2 {n : Nat} {τ : Nat → Nat} {c : Nat} (h : (mHd2 n τ).1 = (true, c)) : mHd3 n τ = mTwo n τ 1 99 (true, c) := by
  unfold mHd3
  rw [h]
theorem hd_2f {n : Nat} {τ : Nat → Nat} {c : Nat} (h : (mHd2 n τ).1 = (false, c)) : (mHd3 n τ).1 = (false, c) := by
  unfold mHd3
  rw [h]
  rfl
theorem hd_3 {n : Nat} {τ : Nat → Nat} {c : Nat} (h : (mHd3 n τ).1 = (true, c)) : mHd4 n τ = mThree n τ 10 (true, c) := by
  unfold mHd4
  rw [h]
theorem hd_3f {n : Nat} {τ : Nat → Nat} {c : Nat} (h : (mHd3 n τ).1 = (false, c)) : (mHd4 n τ).1 = (false, c) := by
  unfold mHd4
  rw [h]
  rfl
def cLet : Nat → Int32
  | 0 => 100
  | 1 => 99
  | 2 => 109
  | 3 => 114
  | _ => 115
set_option maxHeartbeats 1000000 in
theorem T_isAtEnd {d : Nat} {S : Sc} {M : Nat → Nat → Int32} {J : Nat → Nat → Int64} {n : Nat} {τ : Nat → Nat} (hS : StS S) (hT : TxC M n τ) {c : Nat} (hc : c < 1000) (h7 : M 2 7 = nI c) : Wp (d + 1) 57 [.ref 2] (S, M, J) (fun rs w' => rs = .inl (some (.int (bI (n ≤ c)))) ∧ w' = (S, M, J)) := by
  obtain ⟨b2, b3, n3, p8⟩ := id hS
  obtain ⟨t0, tn, tq⟩ := id hT
  refine ⟨rfl, ?_⟩
  refine EE.runN (stop := noStop) 80 _ ?_
  refine ⟨by simp only [wI_1, wI_w, b2, b3, n3, p8] <;> first | rfl | decide, ?_⟩
  refine ⟨by simp only [wI_1, wI_w, b2, b3, n3, p8] <;> first | rfl | decide, ?_⟩
  refine ⟨fun h1 => ?_, fun h1 => ?_⟩
  · simp only [t0, h7] at h1
    rw [nI_ltI (by omega) (by omega)] at h1
    refine ⟨⟨Nat.zero_le _, Nat.zero_le _⟩, by decide, congrArg (fun v => Sum.inl (some (Value.int v))) ?_, rfl⟩
    exact (bI_f (by omega)).symm
  · simp only [t0, h7] at h1
    rw [nI_ltI (by omega) (by omega)] at h1
    refine ⟨⟨Nat.zero_le _, Nat.zero_le _⟩, by decide, congrArg (fun v => Sum.inl (some (Value.int v))) ?_, rfl⟩
    exact (bI_t (by omega)).symm
set_option maxHeartbeats 1000000 in
theorem T_add {d : Nat} {S : Sc} {M : Nat → Nat → Int32} {J : Nat → Nat → Int64} {n : Nat} {τ : Nat → Nat} (hS : StS S) (hT : TxC M n τ) {x : Int32} (hn : n < 90) : Wp (d + 1) 54 [.ref 2, .int x] (S, M, J) (fun rs w' => rs = .inl (some (.int (nI (n + 1)))) ∧ w' = (S, (upA (upA M 3 (upd (M 3) n x)) 2 (upd (M 2) 0 (nI (n + 1)))), J)) := by
  obtain ⟨b2, b3, n3, p8⟩ := id hS
  obtain ⟨t0, tn, tq⟩ := id hT
  refine ⟨rfl, ?_⟩
  refine EE.runN (stop := noStop) 80 _ ?_
  refine ⟨by simp only [wI_1, wI_w, b2, b3, n3, p8] <;> first | rfl | decide, ?_⟩
  refine ⟨fun h1 => ?_, fun h1 => ?_⟩
  · (have h_ := h1; simp only [t0] at h_; exact absurd h_ (nI_pos (by omega)))
  · refine ⟨by simp only [wI_1, wI_w, b2, b3, n3, p8] <;> first | rfl | decide, ?_⟩
    refine ⟨by simp only [wI_1, wI_w, b2, b3, n3, p8] <;> first | rfl | decide, ?_⟩
    refine ⟨by simp only [wI_1, wI_w, b2, b3, n3, p8] <;> first | rfl | decide, ?_⟩
    refine ⟨fun h2 => ?_, fun h2 => ?_⟩
    · (have h_ := h2; simp only [t0, p8, n3] at h_; rw [show Int32.ofNat 90 = nI 90 from rfl, nI_leI (by omega) (by omega)] at h_; omega)
    · refine ⟨by simp only [wI_1, wI_w, b2, b3, n3, p8] <;> first | rfl | decide, ?_⟩
      refine ⟨by simp only [wI_1, wI_w, b2, b3, n3, p8] <;> first | rfl | decide, ?_⟩
      refine ⟨by simp only [wI_1, wI_w, b2, b3, n3, p8] <;> first | rfl | decide, (by simp only [p8, n3, t0]; exact vp_in_nI (show n < 90 by omega) (by omega)), ?_⟩
      refine ⟨by simp only [wI_1, wI_w, b2, b3, n3, p8] <;> first | rfl | decide, ?_⟩
      refine ⟨by simp only [wI_1, wI_w, b2, b3, n3, p8] <;> first | rfl | decide, trivial, ?_⟩
      refine ⟨by simp only [wI_1, wI_w, b2, b3, n3, p8] <;> first | rfl | decide, ?_⟩
      refine ⟨⟨Nat.zero_le _, Nat.zero_le _⟩, congrArg (fun v => Sum.inl (some (Value.int v))) ?_, ?_⟩
      · simp only [wI_M, wI_w, p8, upA_s, upA_n _ _ (show (2 : Nat) ≠ 3 by omega), pk_us, t0, nI_1]
      · simp only [wI_w, p8, upA_n _ _ (show (2 : Nat) ≠ 3 by omega), t0, nI_1, ck (show n < 2147483648 by omega)]
set_option maxHeartbeats 1000000 in
theorem T_empty {d : Nat} {S : Sc} {M : Nat → Nat → Int32} {J : Nat → Nat → Int64} {n : Nat} {τ : Nat → Nat} (hS : StS S) (hT : TxC M n τ) : Wp (d + 1) 55 [.ref 2] (S, M, J) (fun rs w' => rs = .inl (some (.int (nI n))) ∧ w' = (S, (upA M 2 (upd (M 2) 0 0)), J)) := by
  obtain ⟨b2, b3, n3, p8⟩ := id hS
  obtain ⟨t0, tn, tq⟩ := id hT
  refine ⟨rfl, ?_⟩
  refine EE.runN (stop := noStop) 80 _ ?_
  refine ⟨by simp only [wI_1, wI_w, b2, b3, n3, p8] <;> first | rfl | decide, ?_⟩
  refine ⟨by simp only [wI_1, wI_w, b2, b3, n3, p8] <;> first | rfl | decide, trivial, ?_⟩
  refine ⟨⟨Nat.zero_le _, Nat.zero_le _⟩, congrArg (fun v => Sum.inl (some (Value.int v))) ?_, rfl⟩
  exact t0
set_option maxHeartbeats 2000000 in
theorem T_readHead {d : Nat} {S : Sc} {M : Nat → Nat → Int32} {J : Nat → Nat → Int64} {n : Nat} {τ : Nat → Nat} (hS : StS S) (hT : TxC M n τ) : Wp (d + 3) 58 [.ref 2] (S, M, J) (fun rs w' => rs = .inl (some (.int (bI ((mHd4 n τ).1.1 = true)))) ∧ ∃ M', w' = (S, M', J) ∧ TxC M' n τ ∧ (∀ c, c ≠ 2 → M' c = M c) ∧ M' 2 7 = nI (mHd4 n τ).1.2 ∧ ((mHd4 n τ).1.1 = true → M' 2 1 = nI (mHS n τ) ∧ M' 2 2 = nI (mHd3 n τ).2 ∧ M' 2 3 = nI (mHd4 n τ).2)) := by
  obtain ⟨b2, b3, n3, p8⟩ := id hS
  obtain ⟨t0, tn, tq⟩ := id hT
  refine ⟨rfl, ?_⟩
  refine EE.runN (stop := noStop) 80 _ ?_
  refine ⟨by simp only [wI_1, wI_w, b2, b3, n3, p8] <;> first | rfl | decide, trivial, ?_⟩
  refine ⟨⟨Nat.le_of_ble_eq_true rfl, Nat.le_of_ble_eq_true rfl, Nat.le_of_ble_eq_true rfl⟩, by simp only [wI_1, wI_w, b2, b3, n3, p8] <;> first | rfl | decide, _, by exact T_signHere (M := setU M 0) hS (hT.U 0) (by omega) (setU_7 M 0), ?_⟩
  rintro _ _ ⟨rfl, rfl⟩
  refine ⟨Or.inl rfl, ?_⟩
  refine ⟨fun h1 => ?_, fun h1 => ?_⟩
  · refine ⟨by simp only [wI_1, wI_w, b2, b3, n3, p8] <;> first | rfl | decide, ?_⟩
    refine ⟨by simp only [wI_1, wI_w, b2, b3, n3, p8] <;> first | rfl | decide, trivial, ?_⟩
    refine ⟨⟨Nat.le_of_ble_eq_true rfl, Nat.le_of_ble_eq_true rfl, Nat.le_of_ble_eq_true rfl⟩, by simp only [wI_1, wI_w, b2, b3, n3, p8] <;> first | rfl | decide, _, by exact T_read2 (M := setF (setU M 0) 7 (setU M 0 2 7 + 1)) (lo := 3) (hi := 12) (c := 1) hS (((hT.U 0).F (by omega))) (by omega) (by omega) (by omega) (by rw [setF_s, setU_7]; rfl), ?_⟩
    rintro _ w1 ⟨rfl, hw⟩
    obtain ⟨A, hA, tA, oA, cA, kA⟩ : ∃ Z_, Z_ = setU (setF (setU M 0) 7 (setU M 0 2 7 + 1)) ((mTwo n τ 3 12 (true, 1)).1.2) ∧ TxC Z_ n τ ∧ (∀ c, c ≠ 2 → Z_ c = M c) ∧ Z_ 2 7 = nI ((mTwo n τ 3 12 (true, 1)).1.2) ∧ (∀ k, k ≠ 7 → Z_ 2 k = (setF (setU M 0) 7 (setU M 0 2 7 + 1)) 2 k) := ⟨_, rfl, ((((hT.U 0).F (by omega)))).U _, fun c hc => (setU_o _ _ hc).trans ((fun c hc => (setF_o hc).trans (setU_o _ _ hc)) c hc), setU_7 _ _, fun k hk => setU_k _ _ hk⟩
    have hw : w1 = (S, A, J) := by rw [hA]; exact hw
    subst hw
    refine ⟨Or.inl rfl, ?_⟩
    refine ⟨by simp only [wI_1, wI_w, b2, b3, n3, p8] <;> first | rfl | decide, trivial, ?_⟩
    refine ⟨by simp only [wI_1, wI_w, b2, b3, n3, p8] <;> first | rfl | decide, ?_⟩
    refine ⟨fun h2 => ?_, fun h2 => ?_⟩
    · refine ⟨⟨Nat.le_of_ble_eq_true rfl, Nat.le_of_ble_eq_true rfl, Nat.le_of_ble_eq_true rfl⟩, by simp only [wI_1, wI_w, b2, b3, n3, p8] <;> first | rfl | decide, _, by exact T_read2 (M := setF A 1 (rdV (mTwo n τ 3 12 (true, 1)))) (lo := 1) (hi := 99) (c := (mTwo n τ 3 12 (true, 1)).1.2) hS (tA.F (by omega)) (by omega) (by omega) (by have := mTwo_le (n := n) (τ := τ) (lo := 3) (hi := 12) (s := (true, 1)); dsimp only at this; omega) ((setF_k (by omega)).trans cA), ?_⟩
      rintro _ w1 ⟨rfl, hw⟩
      obtain ⟨A2, hA2, tA2, oA2, cA2, kA2⟩ : ∃ Z_, Z_ = setU (setF A 1 (rdV (mTwo n τ 3 12 (true, 1)))) ((mTwo n τ 1 99 (true, (mTwo n τ 3 12 (true, 1)).1.2)).1.2) ∧ TxC Z_ n τ ∧ (∀ c, c ≠ 2 → Z_ c = M c) ∧ Z_ 2 7 = nI ((mTwo n τ 1 99 (true, (mTwo n τ 3 12 (true, 1)).1.2)).1.2) ∧ (∀ k, k ≠ 7 → Z_ 2 k = (setF A 1 (rdV (mTwo n τ 3 12 (true, 1)))) 2 k) := ⟨_, rfl, ((tA.F (v := rdV (mTwo n τ 3 12 (true, 1))) (k := 1) (by omega))).U _, fun c hc => (setU_o _ _ hc).trans ((fun c hc => (setF_o hc).trans (oA c hc)) c hc), setU_7 _ _, fun k hk => setU_k _ _ hk⟩
      have hw : w1 = (S, A2, J) := by rw [hA2]; exact hw
      subst hw
      refine ⟨Or.inl rfl, ?_⟩
      refine ⟨by simp only [wI_1, wI_w, b2, b3, n3, p8] <;> first | rfl | decide, trivial, ?_⟩
      refine ⟨by simp only [wI_1, wI_w, b2, b3, n3, p8] <;> first | rfl | decide, ?_⟩
      refine ⟨fun h3 => ?_, fun h3 => ?_⟩
      · refine ⟨⟨Nat.le_of_ble_eq_true rfl, Nat.le_of_ble_eq_true rfl, Nat.le_of_ble_eq_true rfl⟩, by simp only [wI_1, wI_w, b2, b3, n3, p8] <;> first | rfl | decide, _, by exact T_read3 (M := setF A2 2 (rdV (mTwo n τ 1 99 (true, (mTwo n τ 3 12 (true, 1)).1.2)))) (lo := 10) (c := (mTwo n τ 1 99 (true, (mTwo n τ 3 12 (true, 1)).1.2)).1.2) hS (tA2.F (by omega)) (by omega) (by have := mTwo_le (n := n) (τ := τ) (lo := 3) (hi := 12) (s := (true, 1)); have := mTwo_le (n := n) (τ := τ) (lo := 1) (hi := 99) (s := (true, (mTwo n τ 3 12 (true, 1)).1.2)); dsimp only at *; omega) ((setF_k (by omega)).trans cA2), ?_⟩
        rintro _ w1 ⟨rfl, hw⟩
        obtain ⟨A3, hA3, tA3, oA3, cA3, kA3⟩ : ∃ Z_, Z_ = setU (setF A2 2 (rdV (mTwo n τ 1 99 (true, (mTwo n τ 3 12 (true, 1)).1.2)))) ((mThree n τ 10 (true, (mTwo n τ 1 99 (true, (mTwo n τ 3 12 (true, 1)).1.2)).1.2)).1.2) ∧ TxC Z_ n τ ∧ (∀ c, c ≠ 2 → Z_ c = M c) ∧ Z_ 2 7 = nI ((mThree n τ 10 (true, (mTwo n τ 1 99 (true, (mTwo n τ 3 12 (true, 1)).1.2)).1.2)).1.2) ∧ (∀ k, k ≠ 7 → Z_ 2 k = (setF A2 2 (rdV (mTwo n τ 1 99 (true, (mTwo n τ 3 12 (true, 1)).1.2)))) 2 k) := ⟨_, rfl, ((tA2.F (v := rdV (mTwo n τ 1 99 (true, (mTwo n τ 3 12 (true, 1)).1.2))) (k := 2) (by omega))).U _, fun c hc => (setU_o _ _ hc).trans ((fun c hc => (setF_o hc).trans (oA2 c hc)) c hc), setU_7 _ _, fun k hk => setU_k _ _ hk⟩
        have hw : w1 = (S, A3, J) := by rw [hA3]; exact hw
        subst hw
        refine ⟨Or.inl rfl, ?_⟩
        refine ⟨by simp only [wI_1, wI_w, b2, b3, n3, p8] <;> first | rfl | decide, trivial, ?_⟩
        refine ⟨by simp only [wI_1, wI_w, b2, b3, n3, p8] <;> first | rfl | decide, ?_⟩
        refine ⟨fun h4 => ?_, fun h4 => ?_⟩
        · have nx : nxt n τ 79 (true, 0) = true := decide_eq_true ((cSg_e (c := 0) (k := 79) (fun h => (tq 0 (by omega)).1) (by omega)).mp h1)
          have e2 := hd_1 nx
          have g1 : ¬ rdV (mTwo n τ 3 12 (true, 1)) = -99999 := h2
          have f1 := rdV_y g1
          have e3 := hd_2 (by rw [e2]; exact f1.1)
          have g2 : ¬ rdV (mTwo n τ 1 99 (true, (mTwo n τ 3 12 (true, 1)).1.2)) = -99999 := h3
          have f2 := rdV_y g2
          have e4 := hd_3 (by rw [e3]; exact f2.1)
          have g3 : rdV (mThree n τ 10 (true, (mTwo n τ 1 99 (true, (mTwo n τ 3 12 (true, 1)).1.2)).1.2)) = -99999 := h4
          have f3 := rdV_n (by have := mThree_v (n := n) (τ := τ) (lo := 10) (s := (true, (mTwo n τ 1 99 (true, (mTwo n τ 3 12 (true, 1)).1.2)).1.2)) (by omega); omega) g3
          rw [← e4] at f3 cA3
          refine ⟨⟨Nat.zero_le _, Nat.zero_le _⟩, by decide, ?_, setF A3 3 (rdV (mThree n τ 10 (true, (mTwo n τ 1 99 (true, (mTwo n τ 3 12 (true, 1)).1.2)).1.2))), rfl, tA3.F (by omega), fun c hc => (setF_o hc).trans (oA3 c hc), (setF_k (by omega)).trans cA3, fun h_ => ?_⟩
          · rw [f3]; rfl
          · rw [f3] at h_; exact absurd h_ Bool.false_ne_true
        · have nx : nxt n τ 79 (true, 0) = true := decide_eq_true ((cSg_e (c := 0) (k := 79) (fun h => (tq 0 (by omega)).1) (by omega)).mp h1)
          have e2 := hd_1 nx
          have g1 : ¬ rdV (mTwo n τ 3 12 (true, 1)) = -99999 := h2
          have f1 := rdV_y g1
          have e3 := hd_2 (by rw [e2]; exact f1.1)
          have g2 : ¬ rdV (mTwo n τ 1 99 (true, (mTwo n τ 3 12 (true, 1)).1.2)) = -99999 := h3
          have f2 := rdV_y g2
          have e4 := hd_3 (by rw [e3]; exact f2.1)
          have g3 : ¬ rdV (mThree n τ 10 (true, (mTwo n τ 1 99 (true, (mTwo n τ 3 12 (true, 1)).1.2)).1.2)) = -99999 := h4
          have f3 := rdV_y g3
          rw [← e4] at cA3
          have f3' := f3
          rw [← e4] at f3'
          refine ⟨⟨Nat.zero_le _, Nat.zero_le _⟩, by decide, ?_, setF A3 3 (rdV (mThree n τ 10 (true, (mTwo n τ 1 99 (true, (mTwo n τ 3 12 (true, 1)).1.2)).1.2))), rfl, tA3.F (by omega), fun c hc => (setF_o hc).trans (oA3 c hc), (setF_k (by omega)).trans cA3, fun _ => ⟨?_, ?_, ?_⟩⟩
          · rw [f3'.1]; rfl
          · rw [setF_k (by omega), kA3 1 (by omega), setF_k (by omega), kA2 1 (by omega), setF_s, f1.2]; unfold mHS; rw [e2]
          · rw [setF_k (by omega), kA3 2 (by omega), setF_s, f2.2, e3]
          · rw [setF_s, f3.2, e4]
      · refine ⟨by simp only [wI_1, wI_w, b2, b3, n3, p8] <;> first | rfl | decide, trivial, ?_⟩
        refine ⟨by simp only [wI_1, wI_w, b2, b3, n3, p8] <;> first | rfl | decide, ?_⟩
        refine ⟨fun h5 => ?_, fun h5 => ?_⟩
        · have nx : nxt n τ 79 (true, 0) = true := decide_eq_true ((cSg_e (c := 0) (k := 79) (fun h => (tq 0 (by omega)).1) (by omega)).mp h1)
          have e2 := hd_1 nx
          have g1 : ¬ rdV (mTwo n τ 3 12 (true, 1)) = -99999 := h2
          have f1 := rdV_y g1
          have e3 := hd_2 (by rw [e2]; exact f1.1)
          have g2 : rdV (mTwo n τ 1 99 (true, (mTwo n τ 3 12 (true, 1)).1.2)) = -99999 := h3
          have f2 := rdV_n (by have := mTwo_v (n := n) (τ := τ) (lo := 1) (hi := 99) (s := (true, (mTwo n τ 3 12 (true, 1)).1.2)) (by omega) (by omega); omega) g2
          rw [← e3] at f2 cA2
          have f4 := hd_3f f2
          rw [f4]
          refine ⟨⟨Nat.zero_le _, Nat.zero_le _⟩, by decide, rfl, setF (setF A2 2 _) 3 _, rfl, (tA2.F (by omega)).F (by omega), fun c hc => ((setF_o hc).trans (setF_o hc)).trans (oA2 c hc), ((setF_k (by omega)).trans (setF_k (by omega))).trans cA2, fun h_ => absurd h_ Bool.false_ne_true⟩
        · exact (h5 rfl).elim
    · refine ⟨by simp only [wI_1, wI_w, b2, b3, n3, p8] <;> first | rfl | decide, trivial, ?_⟩
      refine ⟨by simp only [wI_1, wI_w, b2, b3, n3, p8] <;> first | rfl | decide, ?_⟩
      refine ⟨fun h6 => ?_, fun h6 => ?_⟩
      · exact (h6 rfl).elim
      · refine ⟨by simp only [wI_1, wI_w, b2, b3, n3, p8] <;> first | rfl | decide, trivial, ?_⟩
        refine ⟨by simp only [wI_1, wI_w, b2, b3, n3, p8] <;> first | rfl | decide, ?_⟩
        refine ⟨fun h7 => ?_, fun h7 => ?_⟩
        · have nx : nxt n τ 79 (true, 0) = true := decide_eq_true ((cSg_e (c := 0) (k := 79) (fun h => (tq 0 (by omega)).1) (by omega)).mp h1)
          have e2 := hd_1 nx
          have g1 : rdV (mTwo n τ 3 12 (true, 1)) = -99999 := h2
          have f1 := rdV_n (by have := mTwo_v (n := n) (τ := τ) (lo := 3) (hi := 12) (s := (true, 1)) (by omega) (by omega); omega) g1
          rw [← e2] at f1 cA
          have f4 := hd_3f (hd_2f f1)
          have f47 := congrArg Prod.snd f4
          rw [f4]
          refine ⟨⟨Nat.zero_le _, Nat.zero_le _⟩, by decide, rfl, setF (setF (setF A 1 _) 2 _) 3 _, rfl, ((tA.F (by omega)).F (by omega)).F (by omega), fun c hc => ((setF_o hc).trans ((setF_o hc).trans (setF_o hc))).trans (oA c hc), ((setF_k (by omega)).trans ((setF_k (by omega)).trans (setF_k (by omega)))).trans cA, fun h_ => absurd h_ Bool.false_ne_true⟩
        · exact (h7 rfl).elim
  · have nx : nxt n τ 79 (true, 0) = false := decide_eq_false (fun h_ => h1 ((cSg_e (c := 0) (k := 79) (fun h => (tq 0 (by omega)).1) (by omega)).mpr h_))
    have e4 := hd_no nx
    rw [e4]
    refine ⟨⟨Nat.zero_le _, Nat.zero_le _⟩, by decide, rfl, _, rfl, hT.U 0, fun c hc => setU_o _ _ hc, setU_7 _ _, fun h_ => absurd h_ Bool.false_ne_true⟩
set_option maxHeartbeats 4000000 in
theorem T_readCommand {d : Nat} {S : Sc} {M : Nat → Nat → Int32} {J : Nat → Nat → Int64} {n : Nat} {τ : Nat → Nat} (hS : StS S) (hT : TxC M n τ) {c sl : Nat} (hc : c < 800) (h7 : M 2 7 = nI c) (hx1 : M 2 1 = nI sl) (hs1 : 1 ≤ sl) (hs12 : sl ≤ 12) : Wp (d + 3) 59 [.ref 2] (S, M, J) (fun rs w' => rs = .inl (some (.int (bI ((mCmd n τ sl (true, c)).1.1 = true)))) ∧ ∃ M', w' = (S, M', J) ∧ TxC M' n τ ∧ (∀ o, o ≠ 2 → M' o = M o) ∧ M' 2 7 = nI (mCmd n τ sl (true, c)).1.2 ∧ M' 2 1 = M 2 1 ∧ ((mCmd n τ sl (true, c)).1.1 = true → M' 2 4 = cLet (mCmd n τ sl (true, c)).2.1 ∧ M' 2 5 = nI (mCmd n τ sl (true, c)).2.2.1 ∧ M' 2 6 = nI (mCmd n τ sl (true, c)).2.2.2)) := by
  obtain ⟨b2, b3, n3, p8⟩ := id hS
  obtain ⟨t0, tn, tq⟩ := id hT
  refine ⟨rfl, ?_⟩
  refine EE.runN (stop := noStop) 120 _ ?_
  refine ⟨⟨Nat.le_of_ble_eq_true rfl, Nat.le_of_ble_eq_true rfl, Nat.le_of_ble_eq_true rfl⟩, by simp only [wI_1, wI_w, b2, b3, n3, p8] <;> first | rfl | decide, _, T_signHere hS hT (by omega) h7, ?_⟩
  rintro _ _ ⟨rfl, rfl⟩
  refine ⟨Or.inl rfl, ?_⟩
  refine ⟨by simp only [wI_1, wI_w, b2, b3, n3, p8] <;> first | rfl | decide, trivial, ?_⟩
  refine ⟨by simp only [wI_1, wI_w, b2, b3, n3, p8] <;> first | rfl | decide, trivial, ?_⟩
  refine ⟨by simp only [wI_1, wI_w, b2, b3, n3, p8] <;> first | rfl | decide, trivial, ?_⟩
  refine ⟨by simp only [wI_1, wI_w, b2, b3, n3, p8] <;> first | rfl | decide, ?_⟩
  refine ⟨fun h1 => ?_, fun h1 => ?_⟩
  · refine ⟨by simp only [wI_1, wI_w, b2, b3, n3, p8] <;> first | rfl | decide, ?_⟩
    refine ⟨by simp only [wI_1, wI_w, b2, b3, n3, p8] <;> first | rfl | decide, trivial, ?_⟩
    refine ⟨⟨Nat.le_of_ble_eq_true rfl, Nat.le_of_ble_eq_true rfl, Nat.le_of_ble_eq_true rfl⟩, by simp only [wI_1, wI_w, b2, b3, n3, p8] <;> first | rfl | decide, _, by exact T_read2 (M := setF (setF (setF (setF M 4 (cSg n τ c)) 5 0) 6 0) 7 ((setF (setF (setF M 4 (cSg n τ c)) 5 0) 6 0) 2 7 + 1)) (lo := 1) (hi := 36) (c := c + 1) hS ((((hT.F (k := 4) (v := cSg n τ c) (by omega)).F (k := 5) (v := 0) (by omega)).F (k := 6) (v := 0) (by omega)).F (k := 7) (v := (setF (setF (setF M 4 (cSg n τ c)) 5 0) 6 0) 2 7 + 1) (by omega)) (by omega) (by omega) (by omega) (by rw [setF_s, setF_k (by omega), setF_k (by omega), setF_k (by omega), h7, nI_1]), ?_⟩
    rintro _ w1 ⟨rfl, hw⟩
    obtain ⟨A, hA, tA, oA, cA, kA⟩ : ∃ Z_, Z_ = setU (setF (setF (setF (setF M 4 (cSg n τ c)) 5 0) 6 0) 7 ((setF (setF (setF M 4 (cSg n τ c)) 5 0) 6 0) 2 7 + 1)) ((mTwo n τ 1 36 (true, c + 1)).1.2) ∧ TxC Z_ n τ ∧ (∀ c, c ≠ 2 → Z_ c = M c) ∧ Z_ 2 7 = nI ((mTwo n τ 1 36 (true, c + 1)).1.2) ∧ (∀ k, k ≠ 7 → Z_ 2 k = (setF (setF (setF (setF M 4 (cSg n τ c)) 5 0) 6 0) 7 ((setF (setF (setF M 4 (cSg n τ c)) 5 0) 6 0) 2 7 + 1)) 2 k) := ⟨_, rfl, (((((hT.F (k := 4) (v := cSg n τ c) (by omega)).F (k := 5) (v := 0) (by omega)).F (k := 6) (v := 0) (by omega)).F (k := 7) (v := (setF (setF (setF M 4 (cSg n τ c)) 5 0) 6 0) 2 7 + 1) (by omega))).U _, fun c hc => (setU_o _ _ hc).trans ((fun c hc => (setF_o hc).trans ((setF_o hc).trans ((setF_o hc).trans (setF_o hc)))) c hc), setU_7 _ _, fun k hk => setU_k _ _ hk⟩
    have hw : w1 = (S, A, J) := by rw [hA]; exact hw
    subst hw
    refine ⟨Or.inl rfl, ?_⟩
    refine ⟨by simp only [wI_1, wI_w, b2, b3, n3, p8] <;> first | rfl | decide, trivial, ?_⟩
    refine ⟨by simp only [wI_1, wI_w, b2, b3, n3, p8] <;> first | rfl | decide, ?_⟩
    refine ⟨fun h2 => ?_, fun h2 => ?_⟩
    · refine ⟨⟨Nat.le_of_ble_eq_true rfl, Nat.le_of_ble_eq_true rfl, Nat.le_of_ble_eq_true rfl⟩, by simp only [wI_1, wI_w, b2, b3, n3, p8] <;> first | rfl | decide, _, by exact T_read1 (M := setF A 5 (rdV (mTwo n τ 1 36 (true, c + 1)))) (lo := 0) (hi := 2) (c := (mTwo n τ 1 36 (true, c + 1)).1.2) hS (tA.F (by omega)) (by omega) (by omega) (by have := mTwo_le (n := n) (τ := τ) (lo := 1) (hi := 36) (s := (true, c + 1)); dsimp only at this; omega) ((setF_k (by omega)).trans cA), ?_⟩
      rintro _ w1 ⟨rfl, hw⟩
      obtain ⟨A2, hA2, tA2, oA2, cA2, kA2⟩ : ∃ Z_, Z_ = setU (setF A 5 (rdV (mTwo n τ 1 36 (true, c + 1)))) ((mDig n τ 0 2 (true, (mTwo n τ 1 36 (true, c + 1)).1.2)).1.2) ∧ TxC Z_ n τ ∧ (∀ c, c ≠ 2 → Z_ c = M c) ∧ Z_ 2 7 = nI ((mDig n τ 0 2 (true, (mTwo n τ 1 36 (true, c + 1)).1.2)).1.2) ∧ (∀ k, k ≠ 7 → Z_ 2 k = (setF A 5 (rdV (mTwo n τ 1 36 (true, c + 1)))) 2 k) := ⟨_, rfl, ((tA.F (v := rdV (mTwo n τ 1 36 (true, c + 1))) (k := 5) (by omega))).U _, fun c hc => (setU_o _ _ hc).trans ((fun c hc => (setF_o hc).trans (oA c hc)) c hc), setU_7 _ _, fun k hk => setU_k _ _ hk⟩
      have hw : w1 = (S, A2, J) := by rw [hA2]; exact hw
      subst hw
      refine ⟨Or.inl rfl, ?_⟩
      refine ⟨by simp only [wI_1, wI_w, b2, b3, n3, p8] <;> first | rfl | decide, trivial, ?_⟩
      refine ⟨by simp only [wI_1, wI_w, b2, b3, n3, p8] <;> first | rfl | decide, ?_⟩
      refine ⟨fun h3 => ?_, fun h3 => ?_⟩
      · (have h_ : A2 2 5 = -99999 := h3; exact (h2 ((setF_s (M := A) (k := 5)).symm.trans ((kA2 5 (by omega)).symm.trans h_))).elim)
      · refine ⟨by simp only [wI_1, wI_w, b2, b3, n3, p8] <;> first | rfl | decide, ?_⟩
        refine ⟨fun h4 => ?_, fun h4 => ?_⟩
        · have e := mCmd_c (s := (true, c)) (sl := sl) ((cSg_e (k := 99) (fun h => (tq c (by omega)).1) (by omega)).mp h1)
          have ea : mAcc true ((true, c) : PS) = (true, c + 1) := rfl
          rw [ea] at e
          have v1 := mTwo_v (n := n) (τ := τ) (lo := 1) (hi := 36) (s := (true, c + 1)) (by omega) (by omega)
          have g1 : ¬ rdV (mTwo n τ 1 36 (true, c + 1)) = -99999 := h2
          have f1 := rdV_y g1
          rw [f1.1] at e
          have v2 := mDig_v (n := n) (τ := τ) (lo := 0) (hi := 2) (s := (true, (mTwo n τ 1 36 (true, c + 1)).1.2)) (by omega) (by omega)
          have g2 : rdV (mDig n τ 0 2 (true, (mTwo n τ 1 36 (true, c + 1)).1.2)) = -99999 := h4
          have f2 := rdV_n (by omega) g2
          rw [e]
          dsimp only
          rw [f2]
          refine ⟨⟨Nat.zero_le _, Nat.zero_le _⟩, by decide, rfl, setF A2 6 (rdV (mDig n τ 0 2 (true, (mTwo n τ 1 36 (true, c + 1)).1.2))), rfl, tA2.F (by omega), fun c hc => (setF_o hc).trans (oA2 c hc), (setF_k (by omega)).trans (by rw [cA2]), (setF_k (by omega)).trans ((kA2 1 (by omega)).trans ((setF_k (by omega)).trans ((kA 1 (by omega)).trans ((setF_k (by omega)).trans ((setF_k (by omega)).trans ((setF_k (by omega)).trans (setF_k (by omega)))))))), fun h_ => absurd h_ Bool.false_ne_true⟩
        · have e := mCmd_c (s := (true, c)) (sl := sl) ((cSg_e (k := 99) (fun h => (tq c (by omega)).1) (by omega)).mp h1)
          have ea : mAcc true ((true, c) : PS) = (true, c + 1) := rfl
          rw [ea] at e
          have v1 := mTwo_v (n := n) (τ := τ) (lo := 1) (hi := 36) (s := (true, c + 1)) (by omega) (by omega)
          have g1 : ¬ rdV (mTwo n τ 1 36 (true, c + 1)) = -99999 := h2
          have f1 := rdV_y g1
          rw [f1.1] at e
          have v2 := mDig_v (n := n) (τ := τ) (lo := 0) (hi := 2) (s := (true, (mTwo n τ 1 36 (true, c + 1)).1.2)) (by omega) (by omega)
          have g2 : ¬ rdV (mDig n τ 0 2 (true, (mTwo n τ 1 36 (true, c + 1)).1.2)) = -99999 := h4
          have f2 := rdV_y g2
          rw [e]
          dsimp only
          rw [f2.1]
          refine ⟨⟨Nat.zero_le _, Nat.zero_le _⟩, by decide, rfl, setF A2 6 (rdV (mDig n τ 0 2 (true, (mTwo n τ 1 36 (true, c + 1)).1.2))), rfl, tA2.F (by omega), fun c hc => (setF_o hc).trans (oA2 c hc), (setF_k (by omega)).trans (by rw [cA2]), (setF_k (by omega)).trans ((kA2 1 (by omega)).trans ((setF_k (by omega)).trans ((kA 1 (by omega)).trans ((setF_k (by omega)).trans ((setF_k (by omega)).trans ((setF_k (by omega)).trans (setF_k (by omega)))))))), fun _ => ⟨(setF_k (by omega)).trans (((kA2 4 (by omega)).trans ((setF_k (by omega)).trans ((kA 4 (by omega)).trans ((setF_k (by omega)).trans ((setF_k (by omega)).trans ((setF_k (by omega)).trans setF_s)))))).trans h1), (setF_k (by omega)).trans ((kA2 5 (by omega)).trans (setF_s.trans f1.2)), setF_s.trans f2.2⟩⟩
    · refine ⟨by simp only [wI_1, wI_w, b2, b3, n3, p8] <;> first | rfl | decide, trivial, ?_⟩
      refine ⟨by simp only [wI_1, wI_w, b2, b3, n3, p8] <;> first | rfl | decide, ?_⟩
      refine ⟨fun h5 => ?_, fun h5 => ?_⟩
      · have e := mCmd_c (s := (true, c)) (sl := sl) ((cSg_e (k := 99) (fun h => (tq c (by omega)).1) (by omega)).mp h1)
        have ea : mAcc true ((true, c) : PS) = (true, c + 1) := rfl
        rw [ea] at e
        have v1 := mTwo_v (n := n) (τ := τ) (lo := 1) (hi := 36) (s := (true, c + 1)) (by omega) (by omega)
        have g1 : rdV (mTwo n τ 1 36 (true, c + 1)) = -99999 := h2
        have f1 := rdV_n (by omega) g1
        rw [e]
        dsimp only
        rw [f1]
        refine ⟨⟨Nat.zero_le _, Nat.zero_le _⟩, by decide, rfl, setF (setF A 5 (rdV (mTwo n τ 1 36 (true, c + 1)))) 6 (-99999), rfl, (tA.F (by omega)).F (by omega), fun c hc => ((setF_o hc).trans (setF_o hc)).trans (oA c hc), ((setF_k (by omega)).trans (setF_k (by omega))).trans cA, ((setF_k (by omega)).trans (setF_k (by omega))).trans ((kA 1 (by omega)).trans ((setF_k (by omega)).trans ((setF_k (by omega)).trans ((setF_k (by omega)).trans (setF_k (by omega)))))), fun h_ => absurd h_ Bool.false_ne_true⟩
      · exact (h5 h2).elim
  refine ⟨fun h6 => ?_, fun h6 => ?_⟩
  · refine ⟨by simp only [wI_1, wI_w, b2, b3, n3, p8] <;> first | rfl | decide, ?_⟩
    refine ⟨by simp only [wI_1, wI_w, b2, b3, n3, p8] <;> first | rfl | decide, trivial, ?_⟩
    refine ⟨⟨Nat.le_of_ble_eq_true rfl, Nat.le_of_ble_eq_true rfl, Nat.le_of_ble_eq_true rfl⟩, by simp only [wI_1, wI_w, b2, b3, n3, p8] <;> first | rfl | decide, _, by exact T_read3 (M := setF (setF (setF (setF M 4 (cSg n τ c)) 5 0) 6 0) 7 ((setF (setF (setF M 4 (cSg n τ c)) 5 0) 6 0) 2 7 + 1)) (lo := 1) (c := c + 1) hS ((((hT.F (k := 4) (v := cSg n τ c) (by omega)).F (k := 5) (v := 0) (by omega)).F (k := 6) (v := 0) (by omega)).F (k := 7) (v := (setF (setF (setF M 4 (cSg n τ c)) 5 0) 6 0) 2 7 + 1) (by omega)) (by omega) (by omega) (by rw [setF_s, setF_k (by omega), setF_k (by omega), setF_k (by omega), h7, nI_1]), ?_⟩
    rintro _ w1 ⟨rfl, hw⟩
    obtain ⟨A, hA, tA, oA, cA, kA⟩ : ∃ Z_, Z_ = setU (setF (setF (setF (setF M 4 (cSg n τ c)) 5 0) 6 0) 7 ((setF (setF (setF M 4 (cSg n τ c)) 5 0) 6 0) 2 7 + 1)) ((mThree n τ 1 (true, c + 1)).1.2) ∧ TxC Z_ n τ ∧ (∀ c, c ≠ 2 → Z_ c = M c) ∧ Z_ 2 7 = nI ((mThree n τ 1 (true, c + 1)).1.2) ∧ (∀ k, k ≠ 7 → Z_ 2 k = (setF (setF (setF (setF M 4 (cSg n τ c)) 5 0) 6 0) 7 ((setF (setF (setF M 4 (cSg n τ c)) 5 0) 6 0) 2 7 + 1)) 2 k) := ⟨_, rfl, (((((hT.F (k := 4) (v := cSg n τ c) (by omega)).F (k := 5) (v := 0) (by omega)).F (k := 6) (v := 0) (by omega)).F (k := 7) (v := (setF (setF (setF M 4 (cSg n τ c)) 5 0) 6 0) 2 7 + 1) (by omega))).U _, fun c hc => (setU_o _ _ hc).trans ((fun c hc => (setF_o hc).trans ((setF_o hc).trans ((setF_o hc).trans (setF_o hc)))) c hc), setU_7 _ _, fun k hk => setU_k _ _ hk⟩
    have hw : w1 = (S, A, J) := by rw [hA]; exact hw
    subst hw
    refine ⟨Or.inl rfl, ?_⟩
    refine ⟨by simp only [wI_1, wI_w, b2, b3, n3, p8] <;> first | rfl | decide, trivial, ?_⟩
    refine ⟨by simp only [wI_1, wI_w, b2, b3, n3, p8] <;> first | rfl | decide, ?_⟩
    refine ⟨fun h7 => ?_, fun h7 => ?_⟩
    · have e := mCmd_d (s := (true, c)) (sl := sl) ((cSg_e (k := 100) (fun h => (tq c (by omega)).1) (by omega)).mp h6)
      have ea : mAcc true ((true, c) : PS) = (true, c + 1) := rfl
      rw [ea] at e
      have v1 := mThree_v (n := n) (τ := τ) (lo := 1) (s := (true, c + 1)) (by omega)
      have g1 : rdV (mThree n τ 1 (true, c + 1)) = -99999 := h7
      have f1 := rdV_n (by omega) g1
      rw [e]
      dsimp only
      rw [f1]
      refine ⟨⟨Nat.zero_le _, Nat.zero_le _⟩, by decide, rfl, setF A 5 (rdV (mThree n τ 1 (true, c + 1))), rfl, tA.F (by omega), fun c hc => (setF_o hc).trans (oA c hc), (setF_k (by omega)).trans (by rw [cA]), (setF_k (by omega)).trans ((kA 1 (by omega)).trans ((setF_k (by omega)).trans ((setF_k (by omega)).trans ((setF_k (by omega)).trans (setF_k (by omega)))))), fun h_ => absurd h_ Bool.false_ne_true⟩
    · refine ⟨by simp only [wI_1, wI_w, b2, b3, n3, p8] <;> first | rfl | decide, ?_⟩
      refine ⟨fun h8 => ?_, fun h8 => ?_⟩
      · (have h_ : A 2 6 = -99999 := h8; have h2_ : (0 : Int32) = -99999 := (kA 6 (by omega)).symm.trans h_; exact absurd h2_ (by decide))
      · have e := mCmd_d (s := (true, c)) (sl := sl) ((cSg_e (k := 100) (fun h => (tq c (by omega)).1) (by omega)).mp h6)
        have ea : mAcc true ((true, c) : PS) = (true, c + 1) := rfl
        rw [ea] at e
        have v1 := mThree_v (n := n) (τ := τ) (lo := 1) (s := (true, c + 1)) (by omega)
        have g1 : ¬ rdV (mThree n τ 1 (true, c + 1)) = -99999 := h7
        have f1 := rdV_y g1
        rw [e]
        dsimp only
        rw [f1.1]
        refine ⟨⟨Nat.zero_le _, Nat.zero_le _⟩, by decide, rfl, setF A 5 (rdV (mThree n τ 1 (true, c + 1))), rfl, tA.F (by omega), fun c hc => (setF_o hc).trans (oA c hc), (setF_k (by omega)).trans (by rw [cA]), (setF_k (by omega)).trans ((kA 1 (by omega)).trans ((setF_k (by omega)).trans ((setF_k (by omega)).trans ((setF_k (by omega)).trans (setF_k (by omega)))))), fun _ => ⟨(setF_k (by omega)).trans (((kA 4 (by omega)).trans ((setF_k (by omega)).trans ((setF_k (by omega)).trans ((setF_k (by omega)).trans setF_s)))).trans h6), setF_s.trans f1.2, (setF_k (by omega)).trans ((kA 6 (by omega)).trans ((setF_k (by omega)).trans setF_s))⟩⟩
  refine ⟨fun h9 => ?_, fun h9 => ?_⟩
  · refine ⟨by simp only [wI_1, wI_w, b2, b3, n3, p8] <;> first | rfl | decide, ?_⟩
    refine ⟨by simp only [wI_1, wI_w, b2, b3, n3, p8] <;> first | rfl | decide, trivial, ?_⟩
    refine ⟨⟨Nat.le_of_ble_eq_true rfl, Nat.le_of_ble_eq_true rfl, Nat.le_of_ble_eq_true rfl⟩, by simp only [wI_1, wI_w, b2, b3, n3, p8] <;> first | rfl | decide, _, by exact T_read1 (M := setF (setF (setF (setF M 4 (cSg n τ c)) 5 0) 6 0) 7 ((setF (setF (setF M 4 (cSg n τ c)) 5 0) 6 0) 2 7 + 1)) (lo := 0) (hi := 9) (c := c + 1) hS ((((hT.F (k := 4) (v := cSg n τ c) (by omega)).F (k := 5) (v := 0) (by omega)).F (k := 6) (v := 0) (by omega)).F (k := 7) (v := (setF (setF (setF M 4 (cSg n τ c)) 5 0) 6 0) 2 7 + 1) (by omega)) (by omega) (by omega) (by omega) (by rw [setF_s, setF_k (by omega), setF_k (by omega), setF_k (by omega), h7, nI_1]), ?_⟩
    rintro _ w1 ⟨rfl, hw⟩
    obtain ⟨A, hA, tA, oA, cA, kA⟩ : ∃ Z_, Z_ = setU (setF (setF (setF (setF M 4 (cSg n τ c)) 5 0) 6 0) 7 ((setF (setF (setF M 4 (cSg n τ c)) 5 0) 6 0) 2 7 + 1)) ((mDig n τ 0 9 (true, c + 1)).1.2) ∧ TxC Z_ n τ ∧ (∀ c, c ≠ 2 → Z_ c = M c) ∧ Z_ 2 7 = nI ((mDig n τ 0 9 (true, c + 1)).1.2) ∧ (∀ k, k ≠ 7 → Z_ 2 k = (setF (setF (setF (setF M 4 (cSg n τ c)) 5 0) 6 0) 7 ((setF (setF (setF M 4 (cSg n τ c)) 5 0) 6 0) 2 7 + 1)) 2 k) := ⟨_, rfl, (((((hT.F (k := 4) (v := cSg n τ c) (by omega)).F (k := 5) (v := 0) (by omega)).F (k := 6) (v := 0) (by omega)).F (k := 7) (v := (setF (setF (setF M 4 (cSg n τ c)) 5 0) 6 0) 2 7 + 1) (by omega))).U _, fun c hc => (setU_o _ _ hc).trans ((fun c hc => (setF_o hc).trans ((setF_o hc).trans ((setF_o hc).trans (setF_o hc)))) c hc), setU_7 _ _, fun k hk => setU_k _ _ hk⟩
    have hw : w1 = (S, A, J) := by rw [hA]; exact hw
    subst hw
    refine ⟨Or.inl rfl, ?_⟩
    refine ⟨by simp only [wI_1, wI_w, b2, b3, n3, p8] <;> first | rfl | decide, trivial, ?_⟩
    refine ⟨by simp only [wI_1, wI_w, b2, b3, n3, p8] <;> first | rfl | decide, ?_⟩
    refine ⟨fun h10 => ?_, fun h10 => ?_⟩
    · refine ⟨⟨Nat.le_of_ble_eq_true rfl, Nat.le_of_ble_eq_true rfl, Nat.le_of_ble_eq_true rfl⟩, by simp only [wI_1, wI_w, b2, b3, n3, p8] <;> first | rfl | decide, _, by exact T_read1 (M := setF A 5 (rdV (mDig n τ 0 9 (true, c + 1)))) (lo := 0) (hi := 9) (c := (mDig n τ 0 9 (true, c + 1)).1.2) hS (tA.F (by omega)) (by omega) (by omega) (by have := mDig_le (n := n) (τ := τ) (lo := 0) (hi := 9) (s := (true, c + 1)); dsimp only at this; omega) ((setF_k (by omega)).trans cA), ?_⟩
      rintro _ w1 ⟨rfl, hw⟩
      obtain ⟨A2, hA2, tA2, oA2, cA2, kA2⟩ : ∃ Z_, Z_ = setU (setF A 5 (rdV (mDig n τ 0 9 (true, c + 1)))) ((mDig n τ 0 9 (true, (mDig n τ 0 9 (true, c + 1)).1.2)).1.2) ∧ TxC Z_ n τ ∧ (∀ c, c ≠ 2 → Z_ c = M c) ∧ Z_ 2 7 = nI ((mDig n τ 0 9 (true, (mDig n τ 0 9 (true, c + 1)).1.2)).1.2) ∧ (∀ k, k ≠ 7 → Z_ 2 k = (setF A 5 (rdV (mDig n τ 0 9 (true, c + 1)))) 2 k) := ⟨_, rfl, ((tA.F (v := rdV (mDig n τ 0 9 (true, c + 1))) (k := 5) (by omega))).U _, fun c hc => (setU_o _ _ hc).trans ((fun c hc => (setF_o hc).trans (oA c hc)) c hc), setU_7 _ _, fun k hk => setU_k _ _ hk⟩
      have hw : w1 = (S, A2, J) := by rw [hA2]; exact hw
      subst hw
      refine ⟨Or.inl rfl, ?_⟩
      refine ⟨by simp only [wI_1, wI_w, b2, b3, n3, p8] <;> first | rfl | decide, trivial, ?_⟩
      refine ⟨by simp only [wI_1, wI_w, b2, b3, n3, p8] <;> first | rfl | decide, ?_⟩
      refine ⟨fun h11 => ?_, fun h11 => ?_⟩
      · (have h_ : A2 2 5 = -99999 := h11; exact (h10 ((setF_s (M := A) (k := 5)).symm.trans ((kA2 5 (by omega)).symm.trans h_))).elim)
      · refine ⟨by simp only [wI_1, wI_w, b2, b3, n3, p8] <;> first | rfl | decide, ?_⟩
        refine ⟨fun h12 => ?_, fun h12 => ?_⟩
        · have e := mCmd_m (s := (true, c)) (sl := sl) ((cSg_e (k := 109) (fun h => (tq c (by omega)).1) (by omega)).mp h9)
          have ea : mAcc true ((true, c) : PS) = (true, c + 1) := rfl
          rw [ea] at e
          have v1 := mDig_v (n := n) (τ := τ) (lo := 0) (hi := 9) (s := (true, c + 1)) (by omega) (by omega)
          have g1 : ¬ rdV (mDig n τ 0 9 (true, c + 1)) = -99999 := h10
          have f1 := rdV_y g1
          rw [f1.1] at e
          have v2 := mDig_v (n := n) (τ := τ) (lo := 0) (hi := 9) (s := (true, (mDig n τ 0 9 (true, c + 1)).1.2)) (by omega) (by omega)
          have g2 : rdV (mDig n τ 0 9 (true, (mDig n τ 0 9 (true, c + 1)).1.2)) = -99999 := h12
          have f2 := rdV_n (by omega) g2
          rw [e]
          dsimp only
          rw [f2]
          refine ⟨⟨Nat.zero_le _, Nat.zero_le _⟩, by decide, rfl, setF A2 6 (rdV (mDig n τ 0 9 (true, (mDig n τ 0 9 (true, c + 1)).1.2))), rfl, tA2.F (by omega), fun c hc => (setF_o hc).trans (oA2 c hc), (setF_k (by omega)).trans (by rw [cA2]), (setF_k (by omega)).trans ((kA2 1 (by omega)).trans ((setF_k (by omega)).trans ((kA 1 (by omega)).trans ((setF_k (by omega)).trans ((setF_k (by omega)).trans ((setF_k (by omega)).trans (setF_k (by omega)))))))), fun h_ => absurd h_ Bool.false_ne_true⟩
        · have e := mCmd_m (s := (true, c)) (sl := sl) ((cSg_e (k := 109) (fun h => (tq c (by omega)).1) (by omega)).mp h9)
          have ea : mAcc true ((true, c) : PS) = (true, c + 1) := rfl
          rw [ea] at e
          have v1 := mDig_v (n := n) (τ := τ) (lo := 0) (hi := 9) (s := (true, c + 1)) (by omega) (by omega)
          have g1 : ¬ rdV (mDig n τ 0 9 (true, c + 1)) = -99999 := h10
          have f1 := rdV_y g1
          rw [f1.1] at e
          have v2 := mDig_v (n := n) (τ := τ) (lo := 0) (hi := 9) (s := (true, (mDig n τ 0 9 (true, c + 1)).1.2)) (by omega) (by omega)
          have g2 : ¬ rdV (mDig n τ 0 9 (true, (mDig n τ 0 9 (true, c + 1)).1.2)) = -99999 := h12
          have f2 := rdV_y g2
          rw [e]
          dsimp only
          rw [f2.1]
          refine ⟨⟨Nat.zero_le _, Nat.zero_le _⟩, by decide, rfl, setF A2 6 (rdV (mDig n τ 0 9 (true, (mDig n τ 0 9 (true, c + 1)).1.2))), rfl, tA2.F (by omega), fun c hc => (setF_o hc).trans (oA2 c hc), (setF_k (by omega)).trans (by rw [cA2]), (setF_k (by omega)).trans ((kA2 1 (by omega)).trans ((setF_k (by omega)).trans ((kA 1 (by omega)).trans ((setF_k (by omega)).trans ((setF_k (by omega)).trans ((setF_k (by omega)).trans (setF_k (by omega)))))))), fun _ => ⟨(setF_k (by omega)).trans (((kA2 4 (by omega)).trans ((setF_k (by omega)).trans ((kA 4 (by omega)).trans ((setF_k (by omega)).trans ((setF_k (by omega)).trans ((setF_k (by omega)).trans setF_s)))))).trans h9), (setF_k (by omega)).trans ((kA2 5 (by omega)).trans (setF_s.trans f1.2)), setF_s.trans f2.2⟩⟩
    · refine ⟨by simp only [wI_1, wI_w, b2, b3, n3, p8] <;> first | rfl | decide, trivial, ?_⟩
      refine ⟨by simp only [wI_1, wI_w, b2, b3, n3, p8] <;> first | rfl | decide, ?_⟩
      refine ⟨fun h13 => ?_, fun h13 => ?_⟩
      · have e := mCmd_m (s := (true, c)) (sl := sl) ((cSg_e (k := 109) (fun h => (tq c (by omega)).1) (by omega)).mp h9)
        have ea : mAcc true ((true, c) : PS) = (true, c + 1) := rfl
        rw [ea] at e
        have v1 := mDig_v (n := n) (τ := τ) (lo := 0) (hi := 9) (s := (true, c + 1)) (by omega) (by omega)
        have g1 : rdV (mDig n τ 0 9 (true, c + 1)) = -99999 := h10
        have f1 := rdV_n (by omega) g1
        rw [e]
        dsimp only
        rw [f1]
        refine ⟨⟨Nat.zero_le _, Nat.zero_le _⟩, by decide, rfl, setF (setF A 5 (rdV (mDig n τ 0 9 (true, c + 1)))) 6 (-99999), rfl, (tA.F (by omega)).F (by omega), fun c hc => ((setF_o hc).trans (setF_o hc)).trans (oA c hc), ((setF_k (by omega)).trans (setF_k (by omega))).trans cA, ((setF_k (by omega)).trans (setF_k (by omega))).trans ((kA 1 (by omega)).trans ((setF_k (by omega)).trans ((setF_k (by omega)).trans ((setF_k (by omega)).trans (setF_k (by omega)))))), fun h_ => absurd h_ Bool.false_ne_true⟩
      · exact (h13 h10).elim
  refine ⟨fun h14 => ?_, fun h14 => ?_⟩
  · have eCSL : (setF (setF (setF (setF M 4 (cSg n τ c)) 5 0) 6 0) 7 ((setF (setF (setF M 4 (cSg n τ c)) 5 0) 6 0) 2 7 + 1)) 2 1 - 1 = nI (sl - 1) := by rw [setF_k (by omega), setF_k (by omega), setF_k (by omega), setF_k (by omega), hx1, o_1, pk_sub hs1]
    refine ⟨by simp only [wI_1, wI_w, b2, b3, n3, p8] <;> first | rfl | decide, ?_⟩
    refine ⟨by simp only [wI_1, wI_w, b2, b3, n3, p8] <;> first | rfl | decide, trivial, ?_⟩
    refine ⟨by simp only [wI_1, wI_w, b2, b3, n3, p8] <;> first | rfl | decide, ?_⟩
    refine ⟨⟨Nat.le_of_ble_eq_true rfl, Nat.le_of_ble_eq_true rfl, Nat.le_of_ble_eq_true rfl⟩, by simp only [wI_1, wI_w, b2, b3, n3, p8] <;> first | rfl | decide, _, by have e_ := eCSL; show Wp _ _ [_, _, _, .int ((setF (setF (setF (setF M 4 (cSg n τ c)) 5 0) 6 0) 7 ((setF (setF (setF M 4 (cSg n τ c)) 5 0) 6 0) 2 7 + 1)) 2 1 - 1)] _ _; rw [e_]; exact T_read2 (M := setF (setF (setF (setF M 4 (cSg n τ c)) 5 0) 6 0) 7 ((setF (setF (setF M 4 (cSg n τ c)) 5 0) 6 0) 2 7 + 1)) (lo := 0) (hi := sl - 1) (c := c + 1) hS ((((hT.F (k := 4) (v := cSg n τ c) (by omega)).F (k := 5) (v := 0) (by omega)).F (k := 6) (v := 0) (by omega)).F (k := 7) (v := (setF (setF (setF M 4 (cSg n τ c)) 5 0) 6 0) 2 7 + 1) (by omega)) (by omega) (by omega) (by omega) (by rw [setF_s, setF_k (by omega), setF_k (by omega), setF_k (by omega), h7, nI_1]), ?_⟩
    rintro _ w1 ⟨rfl, hw⟩
    obtain ⟨A, hA, tA, oA, cA, kA⟩ : ∃ Z_, Z_ = setU (setF (setF (setF (setF M 4 (cSg n τ c)) 5 0) 6 0) 7 ((setF (setF (setF M 4 (cSg n τ c)) 5 0) 6 0) 2 7 + 1)) ((mTwo n τ 0 (sl - 1) (true, c + 1)).1.2) ∧ TxC Z_ n τ ∧ (∀ c, c ≠ 2 → Z_ c = M c) ∧ Z_ 2 7 = nI ((mTwo n τ 0 (sl - 1) (true, c + 1)).1.2) ∧ (∀ k, k ≠ 7 → Z_ 2 k = (setF (setF (setF (setF M 4 (cSg n τ c)) 5 0) 6 0) 7 ((setF (setF (setF M 4 (cSg n τ c)) 5 0) 6 0) 2 7 + 1)) 2 k) := ⟨_, rfl, (((((hT.F (k := 4) (v := cSg n τ c) (by omega)).F (k := 5) (v := 0) (by omega)).F (k := 6) (v := 0) (by omega)).F (k := 7) (v := (setF (setF (setF M 4 (cSg n τ c)) 5 0) 6 0) 2 7 + 1) (by omega))).U _, fun c hc => (setU_o _ _ hc).trans ((fun c hc => (setF_o hc).trans ((setF_o hc).trans ((setF_o hc).trans (setF_o hc)))) c hc), setU_7 _ _, fun k hk => setU_k _ _ hk⟩
    have hw : w1 = (S, A, J) := by rw [hA]; exact hw
    subst hw
    refine ⟨Or.inl rfl, ?_⟩
    refine ⟨by simp only [wI_1, wI_w, b2, b3, n3, p8] <;> first | rfl | decide, trivial, ?_⟩
    refine ⟨by simp only [wI_1, wI_w, b2, b3, n3, p8] <;> first | rfl | decide, ?_⟩
    refine ⟨fun h15 => ?_, fun h15 => ?_⟩
    · have e := mCmd_r (s := (true, c)) (sl := sl) ((cSg_e (k := 114) (fun h => (tq c (by omega)).1) (by omega)).mp h14)
      have ea : mAcc true ((true, c) : PS) = (true, c + 1) := rfl
      rw [ea] at e
      have v1 := mTwo_v (n := n) (τ := τ) (lo := 0) (hi := sl - 1) (s := (true, c + 1)) (by omega) (by omega)
      have g1 : rdV (mTwo n τ 0 (sl - 1) (true, c + 1)) = -99999 := h15
      have f1 := rdV_n (by omega) g1
      rw [e]
      dsimp only
      rw [f1]
      refine ⟨⟨Nat.zero_le _, Nat.zero_le _⟩, by decide, rfl, setF A 5 (rdV (mTwo n τ 0 (sl - 1) (true, c + 1))), rfl, tA.F (by omega), fun c hc => (setF_o hc).trans (oA c hc), (setF_k (by omega)).trans (by rw [cA]), (setF_k (by omega)).trans ((kA 1 (by omega)).trans ((setF_k (by omega)).trans ((setF_k (by omega)).trans ((setF_k (by omega)).trans (setF_k (by omega)))))), fun h_ => absurd h_ Bool.false_ne_true⟩
    · refine ⟨by simp only [wI_1, wI_w, b2, b3, n3, p8] <;> first | rfl | decide, ?_⟩
      refine ⟨fun h16 => ?_, fun h16 => ?_⟩
      · (have h_ : A 2 6 = -99999 := h16; have h2_ : (0 : Int32) = -99999 := (kA 6 (by omega)).symm.trans h_; exact absurd h2_ (by decide))
      · have e := mCmd_r (s := (true, c)) (sl := sl) ((cSg_e (k := 114) (fun h => (tq c (by omega)).1) (by omega)).mp h14)
        have ea : mAcc true ((true, c) : PS) = (true, c + 1) := rfl
        rw [ea] at e
        have v1 := mTwo_v (n := n) (τ := τ) (lo := 0) (hi := sl - 1) (s := (true, c + 1)) (by omega) (by omega)
        have g1 : ¬ rdV (mTwo n τ 0 (sl - 1) (true, c + 1)) = -99999 := h15
        have f1 := rdV_y g1
        rw [e]
        dsimp only
        rw [f1.1]
        refine ⟨⟨Nat.zero_le _, Nat.zero_le _⟩, by decide, rfl, setF A 5 (rdV (mTwo n τ 0 (sl - 1) (true, c + 1))), rfl, tA.F (by omega), fun c hc => (setF_o hc).trans (oA c hc), (setF_k (by omega)).trans (by rw [cA]), (setF_k (by omega)).trans ((kA 1 (by omega)).trans ((setF_k (by omega)).trans ((setF_k (by omega)).trans ((setF_k (by omega)).trans (setF_k (by omega)))))), fun _ => ⟨(setF_k (by omega)).trans (((kA 4 (by omega)).trans ((setF_k (by omega)).trans ((setF_k (by omega)).trans ((setF_k (by omega)).trans setF_s)))).trans h14), setF_s.trans f1.2, (setF_k (by omega)).trans ((kA 6 (by omega)).trans ((setF_k (by omega)).trans setF_s))⟩⟩
  refine ⟨fun h17 => ?_, fun h17 => ?_⟩
  · refine ⟨by simp only [wI_1, wI_w, b2, b3, n3, p8] <;> first | rfl | decide, ?_⟩
    refine ⟨by simp only [wI_1, wI_w, b2, b3, n3, p8] <;> first | rfl | decide, trivial, ?_⟩
    refine ⟨by simp only [wI_1, wI_w, b2, b3, n3, p8] <;> first | rfl | decide, ?_⟩
    refine ⟨fun h18 => ?_, fun h18 => ?_⟩
    · (have h_ : (0 : Int32) = -99999 := h18; exact absurd h_ (by decide))
    · refine ⟨by simp only [wI_1, wI_w, b2, b3, n3, p8] <;> first | rfl | decide, ?_⟩
      refine ⟨fun h19 => ?_, fun h19 => ?_⟩
      · (have h_ : (0 : Int32) = -99999 := h19; exact absurd h_ (by decide))
      · have e := mCmd_s (s := (true, c)) (sl := sl) (fun h_ => h6 ((cSg_e (k := 100) (fun h => (tq c (by omega)).1) (by omega)).mpr h_)) (fun h_ => h1 ((cSg_e (k := 99) (fun h => (tq c (by omega)).1) (by omega)).mpr h_)) (fun h_ => h9 ((cSg_e (k := 109) (fun h => (tq c (by omega)).1) (by omega)).mpr h_)) (fun h_ => h14 ((cSg_e (k := 114) (fun h => (tq c (by omega)).1) (by omega)).mpr h_))
        have nx : nxt n τ 115 (true, c) = true := decide_eq_true ((cSg_e (k := 115) (fun h => (tq c (by omega)).1) (by omega)).mp h17)
        rw [e, nx]
        refine ⟨⟨Nat.zero_le _, Nat.zero_le _⟩, by decide, rfl, setF (setF (setF (setF M 4 (cSg n τ c)) 5 0) 6 0) 7 ((setF (setF (setF M 4 (cSg n τ c)) 5 0) 6 0) 2 7 + 1), rfl, ((((hT.F (k := 4) (v := cSg n τ c) (by omega)).F (k := 5) (v := 0) (by omega)).F (k := 6) (v := 0) (by omega)).F (k := 7) (v := (setF (setF (setF M 4 (cSg n τ c)) 5 0) 6 0) 2 7 + 1) (by omega)), (fun c hc => (setF_o hc).trans ((setF_o hc).trans ((setF_o hc).trans (setF_o hc)))), (show (setF (setF (setF (setF M 4 (cSg n τ c)) 5 0) 6 0) 7 ((setF (setF (setF M 4 (cSg n τ c)) 5 0) 6 0) 2 7 + 1)) 2 7 = nI (c + 1) from (by rw [setF_s, setF_k (by omega), setF_k (by omega), setF_k (by omega), h7, nI_1])), ?_, fun _ => ⟨?_, ?_, ?_⟩⟩
        · rw [setF_k (by omega), setF_k (by omega), setF_k (by omega), setF_k (by omega)]
        · rw [setF_k (by omega), setF_k (by omega), setF_k (by omega), setF_s]; exact h17
        · rfl
        · rfl
  have e := mCmd_s (s := (true, c)) (sl := sl) (fun h_ => h6 ((cSg_e (k := 100) (fun h => (tq c (by omega)).1) (by omega)).mpr h_)) (fun h_ => h1 ((cSg_e (k := 99) (fun h => (tq c (by omega)).1) (by omega)).mpr h_)) (fun h_ => h9 ((cSg_e (k := 109) (fun h => (tq c (by omega)).1) (by omega)).mpr h_)) (fun h_ => h14 ((cSg_e (k := 114) (fun h => (tq c (by omega)).1) (by omega)).mpr h_))
  have nx : nxt n τ 115 (true, c) = false := decide_eq_false (fun h_ => h17 ((cSg_e (k := 115) (fun h => (tq c (by omega)).1) (by omega)).mpr h_))
  rw [e, nx]
  refine ⟨⟨Nat.zero_le _, Nat.zero_le _⟩, by decide, rfl, setF (setF (setF M 4 (cSg n τ c)) 5 0) 6 0, rfl, (((hT.F (k := 4) (v := cSg n τ c) (by omega)).F (k := 5) (v := 0) (by omega)).F (k := 6) (v := 0) (by omega)), fun c hc => (setF_o hc).trans ((setF_o hc).trans (setF_o hc)), ((setF_k (by omega)).trans ((setF_k (by omega)).trans (setF_k (by omega)))).trans h7, (setF_k (by omega)).trans ((setF_k (by omega)).trans (setF_k (by omega))), fun h_ => absurd h_ Bool.false_ne_true⟩
