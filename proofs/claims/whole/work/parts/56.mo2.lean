/-! THE REFERENCE: its text: written by wip/whole/pure3.py -/
abbrev PS : Type := Bool × Nat
/-- the reading's state in the reference's object -/
def setP (M : Nat → Nat → Int32) (s : PS) : Nat → Nat → Int32 := upA M 137 (upd (upd (M 137) 4 (bI (s.1 = true))) 3 (nI s.2))
theorem setP_3 (M : Nat → Nat → Int32) (s : PS) : setP M s 137 3 = nI s.2 := by
  unfold setP
  rw [upA_s, pk_us]
theorem setP_4 (M : Nat → Nat → Int32) (s : PS) : setP M s 137 4 = bI (s.1 = true) := by
  unfold setP
  rw [upA_s, pk_un (by omega), pk_us]
theorem setP_k (M : Nat → Nat → Int32) (s : PS) {k : Nat} (h : k ≠ 3) (h4 : k ≠ 4) : setP M s 137 k = M 137 k := by
  unfold setP
  rw [upA_s, pk_un h, pk_un h4]
theorem setP_o (M : Nat → Nat → Int32) (s : PS) {c : Nat} (h : c ≠ 137) : setP M s c = M c := upA_n _ _ h
theorem setP_P (M : Nat → Nat → Int32) (s t : PS) : setP (setP M s) t = setP M t := by
  unfold setP
  rw [upA_s, upA_uu]
  refine congrArg (upA M 137) ?_
  rw [upd_cm _ _ _ (show 3 ≠ 4 by omega)]
  funext q
  unfold upd
  split
  · rfl
  · split <;> rfl
theorem setP_id {M : Nat → Nat → Int32} {s : PS} (h3 : M 137 3 = nI s.2) (h4 : M 137 4 = bI (s.1 = true)) : setP M s = M := by
  unfold setP
  rw [← h3, ← h4]
  funext c
  by_cases e : c = 137
  · subst e
    rw [upA_s]
    funext q
    unfold upd
    split
    · rename_i e
      rw [e]
    · split
      · rename_i e
        rw [e]
      · rfl
  · rw [upA_n _ _ e]
/-- a text of n signs -/
def TxM (M : Nat → Nat → Int32) (n : Nat) (τ : Nat → Nat) : Prop := M 137 2 = nI n ∧ n ≤ 90 ∧ ∀ q, q < 90 → τ q ≤ 255 ∧ M 138 q = nI (τ q)
theorem TxM.P {M : Nat → Nat → Int32} {n : Nat} {τ : Nat → Nat} (h : TxM M n τ) (s : PS) : TxM (setP M s) n τ := by
  refine ⟨(setP_k M s (by omega) (by omega)).trans h.1, h.2.1, fun q hq => ?_⟩
  rw [setP_o M s (by omega)]
  exact h.2.2 q hq
/-- the digit at a place; 10: there is none -/
def dg (n : Nat) (τ : Nat → Nat) (c : Nat) : Nat := if c < n ∧ 48 ≤ τ c ∧ τ c ≤ 57 then τ c - 48 else 10
theorem dg_in {n : Nat} {τ : Nat → Nat} {c : Nat} (hc : c < n) (ht : τ c ≤ 255) : ((¬ (nI (τ c) - 48 : Int32) < 0 ∧ ¬ 9 < (nI (τ c) - 48 : Int32)) ↔ dg n τ c ≤ 9) ∧ (dg n τ c ≤ 9 → (nI (τ c) - 48 : Int32) = nI (dg n τ c)) := by
  unfold dg
  rcases Nat.lt_or_ge (τ c) 48 with h | h
  · have hn := pk_sneg (a := τ c) (b := 48) (by omega) h
    rw [if_neg (by omega)]
    exact ⟨⟨fun hh => absurd hn hh.1, fun hh => absurd hh (by omega)⟩, fun hh => absurd hh (by omega)⟩
  · have e : (nI (τ c) - 48 : Int32) = nI (τ c - 48) := by rw [show (48 : Int32) = nI 48 from rfl, pk_sub h]
    rw [e, o_9, nI_ltI (by omega) (by omega)]
    by_cases h2 : τ c ≤ 57
    · rw [if_pos ⟨hc, h, h2⟩]
      exact ⟨⟨fun _ => by omega, fun _ => ⟨nI_pos (by omega), by omega⟩⟩, fun _ => rfl⟩
    · rw [if_neg (by omega)]
      exact ⟨⟨fun hh => by omega, fun hh => absurd hh (by omega)⟩, fun hh => absurd hh (by omega)⟩
def mAcc (b : Bool) (s : PS) : PS := (s.1 && b, if (s.1 && b) = true then s.2 + 1 else s.2)
def mOk (n : Nat) (τ : Nat → Nat) (lo hi c : Nat) : Bool := decide (dg n τ c ≤ 9 ∧ lo ≤ dg n τ c ∧ dg n τ c ≤ hi)
def mDig (n : Nat) (τ : Nat → Nat) (lo hi : Nat) (s : PS) : PS × Nat := (mAcc (mOk n τ lo hi s.2) s, if (s.1 && mOk n τ lo hi s.2) = true then dg n τ s.2 else lo)
def mTwo (n : Nat) (τ : Nat → Nat) (lo hi : Nat) (s : PS) : PS × Nat :=
  ((mDig n τ (lo - 10 * (mDig n τ (lo / 10) (hi / 10) s).2) (min 9 (hi - 10 * (mDig n τ (lo / 10) (hi / 10) s).2)) (mDig n τ (lo / 10) (hi / 10) s).1).1,
   10 * (mDig n τ (lo / 10) (hi / 10) s).2 + (mDig n τ (lo - 10 * (mDig n τ (lo / 10) (hi / 10) s).2) (min 9 (hi - 10 * (mDig n τ (lo / 10) (hi / 10) s).2)) (mDig n τ (lo / 10) (hi / 10) s).1).2)
def mThree (n : Nat) (τ : Nat → Nat) (lo : Nat) (s : PS) : PS × Nat :=
  ((mTwo n τ (lo - 100 * (mDig n τ 0 9 s).2) 99 (mDig n τ 0 9 s).1).1, 100 * (mDig n τ 0 9 s).2 + (mTwo n τ (lo - 100 * (mDig n τ 0 9 s).2) 99 (mDig n τ 0 9 s).1).2)
theorem mAcc_le {b : Bool} {s : PS} : (mAcc b s).2 ≤ s.2 + 1 := by
  unfold mAcc
  dsimp only
  split <;> omega
theorem mDig_v {n : Nat} {τ : Nat → Nat} {lo hi : Nat} {s : PS} (h : lo ≤ hi) (h9 : hi ≤ 9) : lo ≤ (mDig n τ lo hi s).2 ∧ (mDig n τ lo hi s).2 ≤ hi := by
  unfold mDig
  dsimp only
  split
  · rename_i h
    rw [Bool.and_eq_true] at h
    have := of_decide_eq_true h.2
    omega
  · omega
theorem mTwo_v {n : Nat} {τ : Nat → Nat} {lo hi : Nat} {s : PS} (h : lo ≤ hi) (h9 : hi ≤ 99) : lo ≤ (mTwo n τ lo hi s).2 ∧ (mTwo n τ lo hi s).2 ≤ hi := by
  unfold mTwo
  have a := mDig_v (n := n) (τ := τ) (lo := lo / 10) (hi := hi / 10) (s := s) (by omega) (by omega)
  generalize mDig n τ (lo / 10) (hi / 10) s = r at *
  have b := mDig_v (n := n) (τ := τ) (lo := lo - 10 * r.2) (hi := min 9 (hi - 10 * r.2)) (s := r.1) (by omega) (by omega)
  dsimp only
  omega
theorem mThree_v {n : Nat} {τ : Nat → Nat} {lo : Nat} {s : PS} (h : lo ≤ 99) : lo ≤ (mThree n τ lo s).2 ∧ (mThree n τ lo s).2 ≤ 999 := by
  unfold mThree
  have a := mDig_v (n := n) (τ := τ) (lo := 0) (hi := 9) (s := s) (by omega) (by omega)
  generalize mDig n τ 0 9 s = r at *
  have b := mTwo_v (n := n) (τ := τ) (lo := lo - 100 * r.2) (hi := 99) (s := r.1) (by omega) (by omega)
  dsimp only
  omega
set_option maxHeartbeats 1000000 in
theorem T_accept {d : Nat} {S : Sc} {M : Nat → Nat → Int32} {J : Nat → Nat → Int64} {s : PS} (hM : MoS S) {b : Bool} : Wp (d + 1) 124 [.ref 137, .int (bI (b = true))] (S, setP M s, J) (fun rs w' => rs = .inl none ∧ w' = (S, setP M (mAcc b s), J)) := by
  obtain ⟨⟨b137, p1, p8, p9, p10, p12, p13⟩, ⟨b138, b139, b140, b141, b142, b143⟩, n138, n139, n140, n141, n142, n143⟩ := id hM
  refine ⟨rfl, ?_⟩
  refine EE.runN (stop := noStop) 80 _ ?_
  refine ⟨by simp only [wI_1, wI_w, p1, p8, p9, p10, p12, p13, b137, b138, b139, b140, b141, b142, b143] <;> first | rfl | decide, ?_⟩
  refine ⟨fun h1 => ?_, fun h1 => ?_⟩
  · refine ⟨by simp only [wI_1, wI_w, p1, p8, p9, p10, p12, p13, b137, b138, b139, b140, b141, b142, b143] <;> first | rfl | decide, by first | exact Or.inl rfl | exact Or.inr rfl | simp only [wI_1, wI_w, p1, p8, p9, p10, p12, p13, b137, b138, b139, b140, b141, b142, b143] <;> first | rfl | decide, ?_⟩
    refine ⟨by simp only [wI_1, wI_w, p1, p8, p9, p10, p12, p13, b137, b138, b139, b140, b141, b142, b143] <;> first | rfl | decide, ?_⟩
    refine ⟨by simp only [wI_1, wI_w, p1, p8, p9, p10, p12, p13, b137, b138, b139, b140, b141, b142, b143] <;> first | rfl | decide, ?_⟩
    refine ⟨fun h2 => ?_, fun h2 => ?_⟩
    · refine ⟨by simp only [wI_1, wI_w, p1, p8, p9, p10, p12, p13, b137, b138, b139, b140, b141, b142, b143] <;> first | rfl | decide, trivial, ?_⟩
      simp only [wI_M, setP_3, setP_4, upA_s, pk_us, pk_un (show (3 : Nat) ≠ 4 by omega), bI_e0, Bool.not_eq_true] at h1 h2
      refine ⟨⟨Nat.zero_le _, Nat.zero_le _⟩, rfl, ?_⟩
      show (S, _, J) = (S, _, J)
      simp only [wI_M, setP_3, upA_s, pk_un (show (3 : Nat) ≠ 4 by omega), upA_uu]
      refine congrArg (fun m => (S, m, J)) ?_
      have eb : (s.1 && b) = false := by rw [h1]; rfl
      have e : mAcc b s = (false, s.2) := by unfold mAcc; rw [eb]; rfl
      rw [e]
      unfold setP
      rw [upA_s, upA_uu]
      refine congrArg (upA M 137) ?_
      funext q
      unfold upd
      by_cases q3 : q = 3
      · subst q3
        exact Int32.add_zero _
      · by_cases q4 : q = 4
        · subst q4
          rfl
        · simp only [if_neg q3, if_neg q4]
    · (have h_ := h2; simp only [wI_M, upA_s, pk_us] at h_; exact absurd h_ (by decide))
  · refine ⟨fun h3 => ?_, fun h3 => ?_⟩
    · refine ⟨by simp only [wI_1, wI_w, p1, p8, p9, p10, p12, p13, b137, b138, b139, b140, b141, b142, b143] <;> first | rfl | decide, by first | exact Or.inl rfl | exact Or.inr rfl | simp only [wI_1, wI_w, p1, p8, p9, p10, p12, p13, b137, b138, b139, b140, b141, b142, b143] <;> first | rfl | decide, ?_⟩
      refine ⟨by simp only [wI_1, wI_w, p1, p8, p9, p10, p12, p13, b137, b138, b139, b140, b141, b142, b143] <;> first | rfl | decide, ?_⟩
      refine ⟨by simp only [wI_1, wI_w, p1, p8, p9, p10, p12, p13, b137, b138, b139, b140, b141, b142, b143] <;> first | rfl | decide, ?_⟩
      refine ⟨fun h4 => ?_, fun h4 => ?_⟩
      · refine ⟨by simp only [wI_1, wI_w, p1, p8, p9, p10, p12, p13, b137, b138, b139, b140, b141, b142, b143] <;> first | rfl | decide, trivial, ?_⟩
        simp only [wI_M, setP_3, setP_4, upA_s, pk_us, pk_un (show (3 : Nat) ≠ 4 by omega), bI_e0, Bool.not_eq_true] at h1 h3 h4
        refine ⟨⟨Nat.zero_le _, Nat.zero_le _⟩, rfl, ?_⟩
        show (S, _, J) = (S, _, J)
        simp only [wI_M, setP_3, upA_s, pk_un (show (3 : Nat) ≠ 4 by omega), upA_uu]
        refine congrArg (fun m => (S, m, J)) ?_
        have eb : (s.1 && b) = false := by rw [h3]; exact Bool.and_false _
        have e : mAcc b s = (false, s.2) := by unfold mAcc; rw [eb]; rfl
        rw [e]
        unfold setP
        rw [upA_s, upA_uu]
        refine congrArg (upA M 137) ?_
        funext q
        unfold upd
        by_cases q3 : q = 3
        · subst q3
          exact Int32.add_zero _
        · by_cases q4 : q = 4
          · subst q4
            rfl
          · simp only [if_neg q3, if_neg q4]
      · (have h_ := h4; simp only [wI_M, upA_s, pk_us] at h_; exact absurd h_ (by decide))
    · refine ⟨by simp only [wI_1, wI_w, p1, p8, p9, p10, p12, p13, b137, b138, b139, b140, b141, b142, b143] <;> first | rfl | decide, by first | exact Or.inl rfl | exact Or.inr rfl | simp only [wI_1, wI_w, p1, p8, p9, p10, p12, p13, b137, b138, b139, b140, b141, b142, b143] <;> first | rfl | decide, ?_⟩
      refine ⟨by simp only [wI_1, wI_w, p1, p8, p9, p10, p12, p13, b137, b138, b139, b140, b141, b142, b143] <;> first | rfl | decide, ?_⟩
      refine ⟨by simp only [wI_1, wI_w, p1, p8, p9, p10, p12, p13, b137, b138, b139, b140, b141, b142, b143] <;> first | rfl | decide, ?_⟩
      refine ⟨fun h5 => ?_, fun h5 => ?_⟩
      · (have h_ := h5; simp only [wI_M, upA_s, pk_us] at h_; exact absurd h_ (by decide))
      · refine ⟨by simp only [wI_1, wI_w, p1, p8, p9, p10, p12, p13, b137, b138, b139, b140, b141, b142, b143] <;> first | rfl | decide, trivial, ?_⟩
        simp only [wI_M, setP_3, setP_4, upA_s, pk_us, pk_un (show (3 : Nat) ≠ 4 by omega), bI_e0, Bool.not_eq_true] at h1 h3 h5
        refine ⟨⟨Nat.zero_le _, Nat.zero_le _⟩, rfl, ?_⟩
        show (S, _, J) = (S, _, J)
        simp only [wI_M, setP_3, upA_s, pk_un (show (3 : Nat) ≠ 4 by omega), upA_uu]
        refine congrArg (fun m => (S, m, J)) ?_
        have e : mAcc b s = (true, s.2 + 1) := by unfold mAcc; rw [eq_true_of_ne_false h1, eq_true_of_ne_false h3]; rfl
        rw [e]
        unfold setP
        rw [upA_s, upA_uu]
        refine congrArg (upA M 137) ?_
        funext q
        unfold upd
        by_cases q3 : q = 3
        · subst q3
          exact nI_1 _
        · by_cases q4 : q = 4
          · subst q4
            rfl
          · simp only [if_neg q3, if_neg q4]
set_option maxHeartbeats 1000000 in
theorem T_isNext {d : Nat} {S : Sc} {M : Nat → Nat → Int32} {J : Nat → Nat → Int64} {n : Nat} {τ : Nat → Nat} {s : PS} (hM : MoS S) (hT : TxM M n τ) (hs : s.2 < 1000) {k : Nat} (hk : k < 1000) : Wp (d + 1) 123 [.ref 137, .int (nI k)] (S, setP M s, J) (fun rs w' => rs = .inl (some (.int (bI (s.2 < n ∧ τ s.2 = k)))) ∧ w' = (S, setP M s, J)) := by
  obtain ⟨⟨b137, p1, p8, p9, p10, p12, p13⟩, ⟨b138, b139, b140, b141, b142, b143⟩, n138, n139, n140, n141, n142, n143⟩ := id hM
  obtain ⟨t2, tn, tq⟩ := id hT
  have s2 : setP M s 137 2 = nI n := (setP_k M s (by omega) (by omega)).trans t2
  have s138 : setP M s 138 = M 138 := setP_o M s (by omega)
  refine ⟨rfl, ?_⟩
  refine EE.runN (stop := noStop) 80 _ ?_
  refine ⟨by simp only [wI_1, wI_w, p1, p8, p9, p10, p12, p13, b137, b138, b139, b140, b141, b142, b143] <;> first | rfl | decide, ?_⟩
  refine ⟨by simp only [wI_1, wI_w, p1, p8, p9, p10, p12, p13, b137, b138, b139, b140, b141, b142, b143] <;> first | rfl | decide, ?_⟩
  refine ⟨fun h1 => ?_, fun h1 => ?_⟩
  · simp only [wI_M, wI_1, wI_w, wI_1, wI_w, p1, p8, p9, p10, p12, p13, setP_3, setP_4, s2, s138] at h1
    refine ⟨⟨Nat.zero_le _, Nat.zero_le _⟩, by decide, congrArg (fun v => Sum.inl (some (Value.int v))) ?_, rfl⟩
    have g := (nI_leI (by omega) (by omega)).mp h1
    exact (bI_f (fun h => absurd h.1 (by omega))).symm
  · have g0 : s.2 < n := by have h_ := h1; simp only [wI_M, wI_1, wI_w, wI_1, wI_w, p1, p8, p9, p10, p12, p13, setP_3, setP_4, s2] at h_; exact Nat.lt_of_not_le (fun h => h_ ((nI_leI (by omega) (by omega)).mpr h))
    refine ⟨by simp only [wI_1, wI_w, p1, p8, p9, p10, p12, p13, b137, b138, b139, b140, b141, b142, b143] <;> first | rfl | decide, ?_⟩
    refine ⟨by simp only [wI_1, wI_w, p1, p8, p9, p10, p12, p13, b137, b138, b139, b140, b141, b142, b143] <;> first | rfl | decide, ?_⟩
    refine ⟨by simp only [wI_1, wI_w, p1, p8, p9, p10, p12, p13, b137, b138, b139, b140, b141, b142, b143] <;> first | rfl | decide, (by simp only [wI_M, wI_1, wI_w, wI_1, wI_w, p1, p8, p9, p10, p12, p13, setP_3, setP_4, n138, n139, n140, n141, n142, n143]; exact vp_in_nI (show s.2 < 90 by omega) (by omega)), ?_⟩
    refine ⟨fun h2 => ?_, fun h2 => ?_⟩
    · simp only [wI_M, wI_1, wI_w, wI_1, wI_w, p1, p8, p9, p10, p12, p13, setP_3, setP_4, s2, s138] at h1 h2
      refine ⟨⟨Nat.zero_le _, Nat.zero_le _⟩, by decide, congrArg (fun v => Sum.inl (some (Value.int v))) ?_, rfl⟩
      have g : s.2 < n := Nat.lt_of_not_le (fun h => h1 ((nI_leI (by omega) (by omega)).mpr h))
      have g2 := tq s.2 (by omega)
      rw [ck (by omega), g2.2, nI_eq (by omega) (by omega)] at h2
      exact (bI_f (fun h => h2 h.2)).symm
    · simp only [wI_M, wI_1, wI_w, wI_1, wI_w, p1, p8, p9, p10, p12, p13, setP_3, setP_4, s2, s138] at h1 h2
      refine ⟨⟨Nat.zero_le _, Nat.zero_le _⟩, by decide, congrArg (fun v => Sum.inl (some (Value.int v))) ?_, rfl⟩
      have g : s.2 < n := Nat.lt_of_not_le (fun h => h1 ((nI_leI (by omega) (by omega)).mpr h))
      have g2 := tq s.2 (by omega)
      rw [ck (by omega), g2.2, nI_eq (by omega) (by omega)] at h2
      exact (bI_t ⟨g, h2⟩).symm
set_option maxHeartbeats 2000000 in
theorem T_digit {d : Nat} {S : Sc} {M : Nat → Nat → Int32} {J : Nat → Nat → Int64} {n : Nat} {τ : Nat → Nat} {s : PS} (hM : MoS S) (hT : TxM M n τ) (hs : s.2 < 1000) {lo hi : Nat} (hlo : lo < 1000) (hhi : hi < 1000) : Wp (d + 2) 125 [.ref 137, .int (nI lo), .int (nI hi)] (S, setP M s, J) (fun rs w' => rs = .inl (some (.int (nI (mDig n τ lo hi s).2))) ∧ w' = (S, setP M (mDig n τ lo hi s).1, J)) := by
  obtain ⟨⟨b137, p1, p8, p9, p10, p12, p13⟩, ⟨b138, b139, b140, b141, b142, b143⟩, n138, n139, n140, n141, n142, n143⟩ := id hM
  obtain ⟨t2, tn, tq⟩ := id hT
  have s2 : setP M s 137 2 = nI n := (setP_k M s (by omega) (by omega)).trans t2
  have s138 : setP M s 138 = M 138 := setP_o M s (by omega)
  refine ⟨rfl, ?_⟩
  refine EE.runN (stop := noStop) 80 _ ?_
  refine ⟨by simp only [wI_1, wI_w, p1, p8, p9, p10, p12, p13, b137, b138, b139, b140, b141, b142, b143] <;> first | rfl | decide, ?_⟩
  refine ⟨by simp only [wI_1, wI_w, p1, p8, p9, p10, p12, p13, b137, b138, b139, b140, b141, b142, b143] <;> first | rfl | decide, ?_⟩
  refine ⟨fun h1 => ?_, fun h1 => ?_⟩
  · refine ⟨⟨Nat.le_of_ble_eq_true rfl, Nat.le_of_ble_eq_true rfl, Nat.le_of_ble_eq_true rfl⟩, _, T_in32 0 9 rfl rfl, ?_⟩
    rintro _ _ ⟨rfl, rfl⟩
    refine ⟨Or.inl rfl, ?_⟩
    refine ⟨fun h2 => ?_, fun h2 => ?_⟩
    · have h_ := h1
      simp only [wI_M, wI_1, wI_w, wI_1, wI_w, p1, p8, p9, p10, p12, p13, setP_3, setP_4, s2] at h_
      have g := (nI_leI (by omega) (by omega)).mp h_
      have ok : mOk n τ lo hi s.2 = false := decide_eq_false (by unfold dg; rw [if_neg (by omega)]; omega)
      refine ⟨⟨Nat.le_of_ble_eq_true rfl, Nat.le_of_ble_eq_true rfl, Nat.le_of_ble_eq_true rfl⟩, by simp only [wI_1, wI_w, p1, p8, p9, p10, p12, p13, b137, b138, b139, b140, b141, b142, b143] <;> first | rfl | decide, _, T_accept (b := false) hM, ?_⟩
      rintro _ _ ⟨rfl, rfl⟩
      refine ⟨Or.inl rfl, ?_⟩
      refine ⟨by simp only [wI_1, wI_w, p1, p8, p9, p10, p12, p13, b137, b138, b139, b140, b141, b142, b143] <;> first | rfl | decide, ?_⟩
      refine ⟨fun h3 => ?_, fun h3 => ?_⟩
      · refine ⟨⟨Nat.zero_le _, Nat.zero_le _⟩, congrArg (fun v => Sum.inl (some (Value.int v))) ?_, ?_⟩
        · unfold mDig
          dsimp only
          rw [ok, Bool.and_false]
          rfl
        · unfold mDig
          rw [ok]
      · (have h_ := h3; simp only [wI_M, wI_1, wI_w, wI_1, wI_w, p1, p8, p9, p10, p12, p13, setP_3, setP_4, mAcc, Bool.and_false] at h_; exact absurd (bI_f (by decide)) h_)
    · exact absurd h2 (by decide)
  · have g0 : s.2 < n := by have h_ := h1; simp only [wI_M, wI_1, wI_w, wI_1, wI_w, p1, p8, p9, p10, p12, p13, setP_3, setP_4, s2] at h_; exact Nat.lt_of_not_le (fun h => h_ ((nI_leI (by omega) (by omega)).mpr h))
    refine ⟨by simp only [wI_1, wI_w, p1, p8, p9, p10, p12, p13, b137, b138, b139, b140, b141, b142, b143] <;> first | rfl | decide, ?_⟩
    refine ⟨by simp only [wI_1, wI_w, p1, p8, p9, p10, p12, p13, b137, b138, b139, b140, b141, b142, b143] <;> first | rfl | decide, ?_⟩
    refine ⟨by simp only [wI_1, wI_w, p1, p8, p9, p10, p12, p13, b137, b138, b139, b140, b141, b142, b143] <;> first | rfl | decide, (by simp only [wI_M, wI_1, wI_w, wI_1, wI_w, p1, p8, p9, p10, p12, p13, setP_3, setP_4, n138, n139, n140, n141, n142, n143]; exact vp_in_nI (show s.2 < 90 by omega) (by omega)), ?_⟩
    refine ⟨⟨Nat.le_of_ble_eq_true rfl, Nat.le_of_ble_eq_true rfl, Nat.le_of_ble_eq_true rfl⟩, _, T_in32 0 9 rfl rfl, ?_⟩
    rintro _ _ ⟨rfl, rfl⟩
    refine ⟨Or.inl rfl, ?_⟩
    refine ⟨fun h4 => ?_, fun h4 => ?_⟩
    · have gt := tq s.2 (by omega)
      have g1 : ¬ dg n τ s.2 ≤ 9 := by
        have h_ := h4
        simp only [wI_M, wI_1, wI_w, wI_1, wI_w, p1, p8, p9, p10, p12, p13, setP_3, setP_4, s138, bI_e0, Classical.not_not] at h_
        rw [ck (by omega), gt.2] at h_
        exact fun h => h_ ((dg_in g0 gt.1).1.mpr h)
      have ok : mOk n τ lo hi s.2 = false := decide_eq_false (by omega)
      refine ⟨⟨Nat.le_of_ble_eq_true rfl, Nat.le_of_ble_eq_true rfl, Nat.le_of_ble_eq_true rfl⟩, by simp only [wI_1, wI_w, p1, p8, p9, p10, p12, p13, b137, b138, b139, b140, b141, b142, b143] <;> first | rfl | decide, _, T_accept (b := false) hM, ?_⟩
      rintro _ _ ⟨rfl, rfl⟩
      refine ⟨Or.inl rfl, ?_⟩
      refine ⟨by simp only [wI_1, wI_w, p1, p8, p9, p10, p12, p13, b137, b138, b139, b140, b141, b142, b143] <;> first | rfl | decide, ?_⟩
      refine ⟨fun h5 => ?_, fun h5 => ?_⟩
      · refine ⟨⟨Nat.zero_le _, Nat.zero_le _⟩, congrArg (fun v => Sum.inl (some (Value.int v))) ?_, ?_⟩
        · unfold mDig
          dsimp only
          rw [ok, Bool.and_false]
          rfl
        · unfold mDig
          rw [ok]
      · (have h_ := h5; simp only [wI_M, wI_1, wI_w, wI_1, wI_w, p1, p8, p9, p10, p12, p13, setP_3, setP_4, mAcc, Bool.and_false] at h_; exact absurd (bI_f (by decide)) h_)
    · have gt := tq s.2 (by omega)
      have g1 : dg n τ s.2 ≤ 9 := by
        have h_ := h4
        simp only [wI_M, wI_1, wI_w, wI_1, wI_w, p1, p8, p9, p10, p12, p13, setP_3, setP_4, s138, bI_e0, Classical.not_not] at h_
        rw [ck (by omega), gt.2] at h_
        exact (dg_in g0 gt.1).1.mp h_
      refine ⟨⟨Nat.le_of_ble_eq_true rfl, Nat.le_of_ble_eq_true rfl, Nat.le_of_ble_eq_true rfl⟩, _, T_in32 (nI lo) (nI hi) rfl rfl, ?_⟩
      rintro _ _ ⟨rfl, rfl⟩
      refine ⟨Or.inl rfl, ?_⟩
      refine ⟨fun h6 => ?_, fun h6 => ?_⟩
      · have ev : M 138 (nI s.2).toNatClampNeg - 48 = nI (dg n τ s.2) := by rw [ck (by omega), gt.2]; exact (dg_in g0 gt.1).2 g1
        have h_ := h6
        simp only [wI_M, wI_1, wI_w, wI_1, wI_w, p1, p8, p9, p10, p12, p13, setP_3, setP_4, s138, bI_e0, Classical.not_not] at h_
        rw [ev, nI_ltI (by omega) (by omega), nI_ltI (by omega) (by omega)] at h_
        have ok : mOk n τ lo hi s.2 = false := by unfold mOk; exact decide_eq_false (by omega)
        refine ⟨⟨Nat.le_of_ble_eq_true rfl, Nat.le_of_ble_eq_true rfl, Nat.le_of_ble_eq_true rfl⟩, by simp only [wI_1, wI_w, p1, p8, p9, p10, p12, p13, b137, b138, b139, b140, b141, b142, b143] <;> first | rfl | decide, _, T_accept (b := false) hM, ?_⟩
        rintro _ _ ⟨rfl, rfl⟩
        refine ⟨Or.inl rfl, ?_⟩
        refine ⟨by simp only [wI_1, wI_w, p1, p8, p9, p10, p12, p13, b137, b138, b139, b140, b141, b142, b143] <;> first | rfl | decide, ?_⟩
        refine ⟨fun h7 => ?_, fun h7 => ?_⟩
        · refine ⟨⟨Nat.zero_le _, Nat.zero_le _⟩, congrArg (fun v => Sum.inl (some (Value.int v))) ?_, ?_⟩
          · unfold mDig
            dsimp only
            rw [ok, Bool.and_false]
            rfl
          · unfold mDig
            rw [ok]
        · (have h_ := h7; simp only [wI_M, wI_1, wI_w, wI_1, wI_w, p1, p8, p9, p10, p12, p13, setP_3, setP_4, mAcc, Bool.and_false] at h_; exact absurd (bI_f (by decide)) h_)
      · have ev : M 138 (nI s.2).toNatClampNeg - 48 = nI (dg n τ s.2) := by rw [ck (by omega), gt.2]; exact (dg_in g0 gt.1).2 g1
        have h_ := h6
        simp only [wI_M, wI_1, wI_w, wI_1, wI_w, p1, p8, p9, p10, p12, p13, setP_3, setP_4, s138, bI_e0, Classical.not_not] at h_
        rw [ev, nI_ltI (by omega) (by omega), nI_ltI (by omega) (by omega)] at h_
        have ok : mOk n τ lo hi s.2 = true := by unfold mOk; exact decide_eq_true (by omega)
        refine ⟨⟨Nat.le_of_ble_eq_true rfl, Nat.le_of_ble_eq_true rfl, Nat.le_of_ble_eq_true rfl⟩, by simp only [wI_1, wI_w, p1, p8, p9, p10, p12, p13, b137, b138, b139, b140, b141, b142, b143] <;> first | rfl | decide, _, T_accept (b := true) hM, ?_⟩
        rintro _ _ ⟨rfl, rfl⟩
        refine ⟨Or.inl rfl, ?_⟩
        refine ⟨by simp only [wI_1, wI_w, p1, p8, p9, p10, p12, p13, b137, b138, b139, b140, b141, b142, b143] <;> first | rfl | decide, ?_⟩
        refine ⟨fun h8 => ?_, fun h8 => ?_⟩
        · refine ⟨⟨Nat.zero_le _, Nat.zero_le _⟩, congrArg (fun v => Sum.inl (some (Value.int v))) ?_, ?_⟩
          · have h_ := h8
            simp only [wI_M, wI_1, wI_w, wI_1, wI_w, p1, p8, p9, p10, p12, p13, setP_3, setP_4, mAcc, Bool.and_true, bI_e0, Bool.not_eq_true] at h_
            unfold mDig
            dsimp only
            rw [ok, h_]
            rfl
          · unfold mDig
            rw [ok]
        · refine ⟨⟨Nat.zero_le _, Nat.zero_le _⟩, congrArg (fun v => Sum.inl (some (Value.int v))) ?_, ?_⟩
          · have h_ := h8
            simp only [wI_M, wI_1, wI_w, wI_1, wI_w, p1, p8, p9, p10, p12, p13, setP_3, setP_4, mAcc, Bool.and_true, bI_e0, Classical.not_not] at h_
            unfold mDig
            dsimp only
            rw [ok, h_]
            simp only [wI_M, wI_1, wI_w, wI_1, wI_w, p1, p8, p9, p10, p12, p13, setP_3, setP_4, s138]
            exact ev
          · unfold mDig
            rw [ok]
