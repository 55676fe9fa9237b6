/-! THE CLASS: its text: written by wip/whole/pure3.py -/
def StS (S : Sc) : Prop := S.2.1 2 = 5 ∧ S.2.1 3 = 8 ∧ S.2.2.1 3 = 90 ∧ S.2.2.2 2 8 = 3
def TxC (M : Nat → Nat → Int32) (n : Nat) (τ : Nat → Nat) : Prop := M 2 0 = nI n ∧ n ≤ 90 ∧ ∀ q, q < 90 → τ q ≤ 255 ∧ M 3 q = nI (τ q)
def cSg (n : Nat) (τ : Nat → Nat) (c : Nat) : Int32 := if c < n then nI (τ c) else -99999
/-- the class's cursor at c -/
def setU (M : Nat → Nat → Int32) (c : Nat) : Nat → Nat → Int32 := upA M 2 (upd (M 2) 7 (nI c))
theorem setU_7 (M : Nat → Nat → Int32) (c : Nat) : setU M c 2 7 = nI c := by
  unfold setU
  rw [upA_s, pk_us]
theorem setU_k (M : Nat → Nat → Int32) (c : Nat) {k : Nat} (h : k ≠ 7) : setU M c 2 k = M 2 k := by
  unfold setU
  rw [upA_s, pk_un h]
theorem setU_o (M : Nat → Nat → Int32) (c : Nat) {o : Nat} (h : o ≠ 2) : setU M c o = M o := upA_n _ _ h
theorem setU_U (M : Nat → Nat → Int32) (c e : Nat) : upA (setU M c) 2 (upd (setU M c 2) 7 (nI e)) = setU M e := by
  unfold setU
  rw [upA_s, upA_uu]
  refine congrArg (upA M 2) ?_
  funext q
  unfold upd
  split <;> rfl
theorem TxC.U {M : Nat → Nat → Int32} {n : Nat} {τ : Nat → Nat} (h : TxC M n τ) (c : Nat) : TxC (setU M c) n τ := by
  refine ⟨(setU_k M c (by omega)).trans h.1, h.2.1, fun q hq => ?_⟩
  rw [setU_o M c (by omega)]
  exact h.2.2 q hq
def cRd (n : Nat) (τ : Nat → Nat) (lo hi : Nat) : Nat → Nat → Nat → Bool × Nat × Nat
  | 0, num, c => (true, num, c)
  | k + 1, num, c => if dg n τ c ≤ 9 ∧ num + dg n τ c * 10 ^ k ≤ hi ∧ lo < num + dg n τ c * 10 ^ k + 10 ^ k then cRd n τ lo hi k (num + dg n τ c * 10 ^ k) (c + 1) else (false, num, c)
theorem cSg_no {n : Nat} {τ : Nat → Nat} {c : Nat} (ht : c < n → τ c ≤ 255) (h : cSg n τ c - 48 < 0 ∨ 9 < cSg n τ c - 48) : ¬ dg n τ c ≤ 9 := by
  unfold cSg at h
  by_cases hc : c < n
  · rw [if_pos hc] at h
    have := (dg_in hc (ht hc)).1
    exact fun hh => by
      have g := this.mpr hh
      rcases h with h | h
      · exact g.1 h
      · exact g.2 h
  · unfold dg
    rw [if_neg (fun hh => hc hh.1)]
    omega
theorem cSg_yes {n : Nat} {τ : Nat → Nat} {c : Nat} (ht : c < n → τ c ≤ 255) (h1 : ¬ cSg n τ c - 48 < 0) (h2 : ¬ 9 < cSg n τ c - 48) : dg n τ c ≤ 9 ∧ cSg n τ c - 48 = nI (dg n τ c) := by
  unfold cSg at *
  by_cases hc : c < n
  · rw [if_pos hc] at *
    have := dg_in hc (ht hc)
    have g := this.1.mp ⟨h1, h2⟩
    exact ⟨g, this.2 g⟩
  · rw [if_neg hc] at h1
    exact absurd (by decide) h1
/-- what a number is told as -/
def rdV (m : PS × Nat) : Int32 := if m.1.1 = true then nI m.2 else -99999
theorem rd_one {n : Nat} {τ : Nat → Nat} {lo hi c : Nat} : ((mDig n τ lo hi (true, c)).1 = ((cRd n τ lo hi 1 0 c).1, (cRd n τ lo hi 1 0 c).2.2)) ∧ ((cRd n τ lo hi 1 0 c).1 = true → (mDig n τ lo hi (true, c)).2 = (cRd n τ lo hi 1 0 c).2.1) := by
  unfold mDig mAcc mOk cRd cRd
  dsimp only
  rw [Nat.pow_zero, Nat.mul_one, Nat.zero_add]
  by_cases h : dg n τ c ≤ 9 ∧ dg n τ c ≤ hi ∧ lo < dg n τ c + 1
  · have h2 : dg n τ c ≤ 9 ∧ lo ≤ dg n τ c ∧ dg n τ c ≤ hi := by omega
    rw [if_pos h, decide_eq_true h2]
    exact ⟨rfl, fun _ => rfl⟩
  · have h2 : ¬ (dg n τ c ≤ 9 ∧ lo ≤ dg n τ c ∧ dg n τ c ≤ hi) := by omega
    rw [if_neg h, decide_eq_false h2]
    exact ⟨rfl, fun h_ => absurd h_ Bool.false_ne_true⟩
theorem mDig_t {n : Nat} {τ : Nat → Nat} {lo hi c : Nat} (h : dg n τ c ≤ 9 ∧ lo ≤ dg n τ c ∧ dg n τ c ≤ hi) : mDig n τ lo hi (true, c) = ((true, c + 1), dg n τ c) := by
  unfold mDig mAcc mOk
  dsimp only
  rw [decide_eq_true h]
  rfl
theorem mDig_f {n : Nat} {τ : Nat → Nat} {lo hi c : Nat} (h : ¬ (dg n τ c ≤ 9 ∧ lo ≤ dg n τ c ∧ dg n τ c ≤ hi)) : mDig n τ lo hi (true, c) = ((false, c), lo) := by
  unfold mDig mAcc mOk
  dsimp only
  rw [decide_eq_false h]
  rfl
theorem mDig_ff {n : Nat} {τ : Nat → Nat} {lo hi c : Nat} : mDig n τ lo hi (false, c) = ((false, c), lo) := rfl
theorem mTwo_ff {n : Nat} {τ : Nat → Nat} {lo hi c : Nat} : (mTwo n τ lo hi (false, c)).1 = (false, c) := rfl
theorem mThree_ff {n : Nat} {τ : Nat → Nat} {lo c : Nat} : (mThree n τ lo (false, c)).1 = (false, c) := rfl
theorem rd_two {n : Nat} {τ : Nat → Nat} {lo hi c : Nat} (hl : lo ≤ hi) (hh : hi ≤ 99) : ((mTwo n τ lo hi (true, c)).1 = ((cRd n τ lo hi 2 0 c).1, (cRd n τ lo hi 2 0 c).2.2)) ∧ ((cRd n τ lo hi 2 0 c).1 = true → (mTwo n τ lo hi (true, c)).2 = (cRd n τ lo hi 2 0 c).2.1) := by
  unfold mTwo cRd
  rw [Nat.pow_one, Nat.zero_add]
  by_cases h : dg n τ c ≤ 9 ∧ dg n τ c * 10 ≤ hi ∧ lo < dg n τ c * 10 + 10
  · rw [if_pos h, mDig_t (n := n) (τ := τ) (lo := lo / 10) (hi := hi / 10) (c := c) (by omega)]
    dsimp only
    unfold cRd cRd
    rw [Nat.pow_zero, Nat.mul_one]
    by_cases h2 : dg n τ (c + 1) ≤ 9 ∧ dg n τ c * 10 + dg n τ (c + 1) ≤ hi ∧ lo < dg n τ c * 10 + dg n τ (c + 1) + 1
    · rw [if_pos h2, mDig_t (by omega)]
      exact ⟨rfl, fun _ => by dsimp only; omega⟩
    · rw [if_neg h2, mDig_f (by omega)]
      exact ⟨rfl, fun h_ => absurd h_ Bool.false_ne_true⟩
  · rw [if_neg h, mDig_f (n := n) (τ := τ) (lo := lo / 10) (hi := hi / 10) (c := c) (by omega)]
    exact ⟨rfl, fun h_ => absurd h_ Bool.false_ne_true⟩
theorem rd_three {n : Nat} {τ : Nat → Nat} {lo c : Nat} (hl : lo ≤ 99) : ((mThree n τ lo (true, c)).1 = ((cRd n τ lo 999 3 0 c).1, (cRd n τ lo 999 3 0 c).2.2)) ∧ ((cRd n τ lo 999 3 0 c).1 = true → (mThree n τ lo (true, c)).2 = (cRd n τ lo 999 3 0 c).2.1) := by
  unfold mThree cRd
  rw [show 10 ^ 2 = 100 from rfl, Nat.zero_add]
  by_cases h : dg n τ c ≤ 9 ∧ dg n τ c * 100 ≤ 999 ∧ lo < dg n τ c * 100 + 100
  · rw [if_pos h, mDig_t (n := n) (τ := τ) (lo := 0) (hi := 9) (c := c) (by omega)]
    dsimp only
    unfold mTwo cRd
    rw [Nat.pow_one]
    by_cases h2 : dg n τ (c + 1) ≤ 9 ∧ dg n τ c * 100 + dg n τ (c + 1) * 10 ≤ 999 ∧ lo < dg n τ c * 100 + dg n τ (c + 1) * 10 + 10
    · rw [if_pos h2, mDig_t (n := n) (τ := τ) (c := c + 1) (by omega)]
      dsimp only
      unfold cRd cRd
      rw [Nat.pow_zero, Nat.mul_one]
      by_cases h3 : dg n τ (c + 1 + 1) ≤ 9 ∧ dg n τ c * 100 + dg n τ (c + 1) * 10 + dg n τ (c + 1 + 1) ≤ 999 ∧ lo < dg n τ c * 100 + dg n τ (c + 1) * 10 + dg n τ (c + 1 + 1) + 1
      · rw [if_pos h3, mDig_t (by omega)]
        exact ⟨rfl, fun _ => by dsimp only; omega⟩
      · rw [if_neg h3, mDig_f (by omega)]
        exact ⟨rfl, fun h_ => absurd h_ Bool.false_ne_true⟩
    · rw [if_neg h2, mDig_f (n := n) (τ := τ) (c := c + 1) (by omega)]
      exact ⟨rfl, fun h_ => absurd h_ Bool.false_ne_true⟩
  · rw [if_neg h, mDig_f (n := n) (τ := τ) (lo := 0) (hi := 9) (c := c) (by omega)]
    exact ⟨rfl, fun h_ => absurd h_ Bool.false_ne_true⟩
set_option maxHeartbeats 1000000 in
theorem T_signHere {d : Nat} {S : Sc} {M : Nat → Nat → Int32} {J : Nat → Nat → Int64} {n : Nat} {τ : Nat → Nat} (hS : StS S) (hT : TxC M n τ) {c : Nat} (hc : c < 1000) (h7 : M 2 7 = nI c) : Wp (d + 1) 61 [.ref 2] (S, M, J) (fun rs w' => rs = .inl (some (.int (cSg n τ c))) ∧ w' = (S, M, J)) := by
  obtain ⟨b2, b3, n3, p8⟩ := id hS
  obtain ⟨t0, tn, tq⟩ := id hT
  refine ⟨rfl, ?_⟩
  refine EE.runN (stop := noStop) 80 _ ?_
  refine ⟨by simp only [wI_1, wI_w, b2, b3, n3, p8] <;> first | rfl | decide, ?_⟩
  refine ⟨fun h1 => ?_, fun h1 => ?_⟩
  · simp only [t0, h7, n3, p8] at h1
    exact absurd h1 (nI_pos (by omega))
  · refine ⟨by simp only [wI_1, wI_w, b2, b3, n3, p8] <;> first | rfl | decide, ?_⟩
    refine ⟨by simp only [wI_1, wI_w, b2, b3, n3, p8] <;> first | rfl | decide, ?_⟩
    refine ⟨fun h2 => ?_, fun h2 => ?_⟩
    · simp only [t0, h7, n3, p8] at h1 h2
      have g : ¬ c < n := by have h_ := h2; rw [nI_leI (by omega) (by omega)] at h_; omega
      refine ⟨⟨Nat.zero_le _, Nat.zero_le _⟩, congrArg (fun v => Sum.inl (some (Value.int v))) ?_, rfl⟩
      unfold cSg
      rw [if_neg g]
    · refine ⟨by simp only [wI_1, wI_w, b2, b3, n3, p8] <;> first | rfl | decide, ?_⟩
      refine ⟨by simp only [wI_1, wI_w, b2, b3, n3, p8] <;> first | rfl | decide, ?_⟩
      refine ⟨by simp only [wI_1, wI_w, b2, b3, n3, p8] <;> first | rfl | decide, ?_⟩
      refine ⟨fun h3 => ?_, fun h3 => ?_⟩
      · simp only [t0, h7, n3, p8] at h1 h2 h3
        exact absurd h3 (by rw [show Int32.ofNat 90 = nI 90 from rfl, nI_leI (by omega) (by omega)]; have h_ := h2; rw [nI_leI (by omega) (by omega)] at h_; omega)
      · have g0_ : c < n := by have h_ := h2; simp only [t0, h7] at h_; rw [nI_leI (by omega) (by omega)] at h_; omega
        refine ⟨by simp only [wI_1, wI_w, b2, b3, n3, p8] <;> first | rfl | decide, ?_⟩
        refine ⟨by simp only [wI_1, wI_w, b2, b3, n3, p8] <;> first | rfl | decide, ?_⟩
        refine ⟨by simp only [wI_1, wI_w, b2, b3, n3, p8] <;> first | rfl | decide, (by simp only [p8, n3, h7]; exact vp_in_nI (show c < 90 by omega) (by omega)), ?_⟩
        simp only [t0, h7, n3, p8] at h1 h2 h3
        have g : c < n := by have h_ := h2; rw [nI_leI (by omega) (by omega)] at h_; omega
        refine ⟨⟨Nat.zero_le _, Nat.zero_le _⟩, congrArg (fun v => Sum.inl (some (Value.int v))) ?_, rfl⟩
        simp only [p8, h7]
        unfold cSg
        rw [if_pos g, ck (by omega)]
        exact (tq c (by omega)).2
set_option maxHeartbeats 2000000 in
theorem L_read {d : Nat} {Q : Res → Wd → Prop} {S : Sc} {M : Nat → Nat → Int32} {J : Nat → Nat → Int64} {n : Nat} {τ : Nat → Nat} (hS : StS S) (hT : TxC M n τ) {D lo hi : Nat} (hD : D ≤ 3) (hlo : lo < 1000) (hhi : hi < 1000) : ∀ (k : Nat) (num c : Nat), k ≤ D → num < 1000 → c + k < 900 → Q (.inl (some (.int (if (cRd n τ lo hi k num c).1 = true then nI (cRd n τ lo hi k num c).2.1 else -99999)))) (S, setU M (cRd n τ lo hi k num c).2.2, J) → EE (SJ (d + 2) 60 (Wp (d + 1)) Q) (31, [(0, .ref 2), (1, .int (nI D)), (2, .int (nI lo)), (3, .int (nI hi)), (4, .int (nI (10 ^ k))), (5, .int (nI num)), (6, .int (nI (D - k)))], [], (S, setU M c, J), 0, 0) := by
  obtain ⟨b2, b3, n3, p8⟩ := id hS
  obtain ⟨t0, tn, tq⟩ := id hT
  intro k
  induction k with
  | zero =>
    intro num c hk hnum hc hQ
    refine EE.runN (stop := noStop) 60 _ ?_
    refine ⟨fun h1 => ?_, fun h1 => ?_⟩
    · refine ⟨⟨Nat.zero_le _, Nat.zero_le _⟩, ?_⟩
      exact hQ
    · exact absurd (nI_le (show D ≤ D - 0 by omega) (by omega)) h1
  | succ k ih =>
    intro num c hk hnum hc hQ
    have hp : 10 ^ k ≤ 100 ∧ 1 ≤ 10 ^ k := by
      rcases (by omega : k = 0 ∨ k = 1 ∨ k = 2) with e | e | e <;> subst e <;> decide
    have es : (nI (10 ^ (k + 1)) / 10 : Int32) = nI (10 ^ k) := by
      rw [Nat.pow_succ, o_10, pk_div (by omega) (by omega) (by omega), Nat.mul_div_cancel _ (by omega)]
    have ht : c < n → τ c ≤ 255 := fun h => (tq c (by omega)).1
    rw [cRd] at hQ
    refine EE.runN (stop := atPc [31]) 80 _ ?_
    refine ⟨fun h1 => ?_, fun h1 => ?_⟩
    · exact absurd h1 (nI_ge (show D - (k + 1) < D by omega) (by omega))
    · refine ⟨by first | decide | simp only [wI_1, wI_w, b2, b3, n3, p8] <;> first | rfl | decide, ?_⟩
      refine ⟨⟨Nat.le_of_ble_eq_true rfl, Nat.le_of_ble_eq_true rfl, Nat.le_of_ble_eq_true rfl⟩, by simp only [wI_1, wI_w, b2, b3, n3, p8] <;> first | rfl | decide, _, T_signHere hS (hT.U c) (by omega) (setU_7 M c), ?_⟩
      rintro _ _ ⟨rfl, rfl⟩
      refine ⟨Or.inl rfl, ?_⟩
      refine ⟨fun h2 => ?_, fun h2 => ?_⟩
      · have gn : ¬ (dg n τ c ≤ 9 ∧ num + dg n τ c * 10 ^ k ≤ hi ∧ lo < num + dg n τ c * 10 ^ k + 10 ^ k) := fun h_ => cSg_no ht (Or.inl h2) h_.1
        rw [if_neg gn] at hQ
        refine ⟨⟨Nat.zero_le _, Nat.zero_le _⟩, ?_⟩
        exact hQ
      · refine ⟨fun h3 => ?_, fun h3 => ?_⟩
        · have gn : ¬ (dg n τ c ≤ 9 ∧ num + dg n τ c * 10 ^ k ≤ hi ∧ lo < num + dg n τ c * 10 ^ k + 10 ^ k) := fun h_ => cSg_no ht (Or.inr h3) h_.1
          rw [if_neg gn] at hQ
          refine ⟨⟨Nat.zero_le _, Nat.zero_le _⟩, ?_⟩
          exact hQ
        · have gy := cSg_yes ht h2 h3
          have efr : nI num + (cSg n τ c - 48) * nI (10 ^ k) = nI (num + dg n τ c * 10 ^ k) := by rw [gy.2, pk_mul, nI_add]
          have hb : dg n τ c * 10 ^ k ≤ 900 := by
            have := Nat.mul_le_mul gy.1 hp.1
            omega
          refine ⟨fun h4 => ?_, fun h4 => ?_⟩
          · have gn : ¬ (dg n τ c ≤ 9 ∧ num + dg n τ c * 10 ^ k ≤ hi ∧ lo < num + dg n τ c * 10 ^ k + 10 ^ k) := by have h_ := h4; rw [es, efr, nI_ltI (by omega) (by omega)] at h_; omega
            rw [if_neg gn] at hQ
            refine ⟨⟨Nat.zero_le _, Nat.zero_le _⟩, ?_⟩
            exact hQ
          · refine ⟨fun h5 => ?_, fun h5 => ?_⟩
            · refine ⟨by simp only [wI_1, wI_w, b2, b3, n3, p8] <;> first | rfl | decide, ?_⟩
              refine ⟨by simp only [wI_1, wI_w, b2, b3, n3, p8] <;> first | rfl | decide, trivial, ?_⟩
              have g3 := h4
              have g4 := h5
              rw [es, efr, nI_ltI (by omega) (by omega)] at g3
              rw [es, efr, nI_add, nI_ltI (by omega) (by omega)] at g4
              rw [if_pos (show dg n τ c ≤ 9 ∧ num + dg n τ c * 10 ^ k ≤ hi ∧ lo < num + dg n τ c * 10 ^ k + 10 ^ k by omega)] at hQ
              refine ee_at (nt := nzT 60) [(0, .ref 2), (1, .int (nI D)), (2, .int (nI lo)), (3, .int (nI hi)), (4, .int (nI (10 ^ k))), (5, .int (nI (num + dg n τ c * 10 ^ k))), (6, .int (nI (D - k)))] (S, setU M (c + 1), J) rfl (by rw [← es, ← efr, ← es, show D - k = D - (k + 1) + 1 by omega, ← nI_1 (D - (k + 1))]; rfl) (by show (S, _, J) = (S, _, J); refine congrArg (fun m => (S, m, J)) ?_; rw [← setU_U M c (c + 1), ← nI_1 c, ← setU_7 M c]) ?_
              exact ih _ _ (by omega) (by omega) (by omega) hQ
            · have gn : ¬ (dg n τ c ≤ 9 ∧ num + dg n τ c * 10 ^ k ≤ hi ∧ lo < num + dg n τ c * 10 ^ k + 10 ^ k) := by have h_ := h5; rw [es, efr, nI_add, nI_ltI (by omega) (by omega)] at h_; omega
              rw [if_neg gn] at hQ
              refine ⟨⟨Nat.zero_le _, Nat.zero_le _⟩, ?_⟩
              exact hQ
theorem setU_id {M : Nat → Nat → Int32} {c : Nat} (h : M 2 7 = nI c) : setU M c = M := by
  unfold setU
  rw [← h]
  have : upd (M 2) 7 (M 2 7) = M 2 := by
    funext q
    unfold upd
    split
    · rename_i e
      rw [e]
    · rfl
  rw [this, upA_id]
set_option maxHeartbeats 1000000 in
theorem T_readNumber {d : Nat} {S : Sc} {M : Nat → Nat → Int32} {J : Nat → Nat → Int64} {n : Nat} {τ : Nat → Nat} (hS : StS S) (hT : TxC M n τ) {D lo hi c : Nat} (hD : D ≤ 3) (hlo : lo < 1000) (hhi : hi < 1000) (hc : c < 890) (h7 : M 2 7 = nI c) : Wp (d + 2) 60 [.ref 2, .int (nI D), .int (nI lo), .int (nI hi)] (S, M, J) (fun rs w' => rs = .inl (some (.int (if (cRd n τ lo hi D 0 c).1 = true then nI (cRd n τ lo hi D 0 c).2.1 else -99999))) ∧ w' = (S, setU M (cRd n τ lo hi D 0 c).2.2, J)) := by
  obtain ⟨b2, b3, n3, p8⟩ := id hS
  obtain ⟨t0, tn, tq⟩ := id hT
  refine ⟨rfl, ?_⟩
  refine EE.runN (stop := atPc [6, 31]) 80 _ ?_
  refine ee_at (nt := nzT 60) [(0, .ref 2), (1, .int (nI D)), (2, .int (nI lo)), (3, .int (nI hi)), (4, .int (nI (10 ^ (0)))), (5, .int (nI (0)))] (S, M, J) rfl (by rfl) (by rfl) ?_
  refine ee_loop (fun k => (6, [(0, .ref 2), (1, .int (nI D)), (2, .int (nI lo)), (3, .int (nI hi)), (4, .int (nI (10 ^ (k)))), (5, .int (nI (k)))], [], (S, M, J), 0, 0)) (D) (fun k h_k ih_k => ?_) ?_
  · refine EE.runN (stop := atPc [6, 31]) 80 _ ?_
    refine ⟨fun h1 => ?_, fun h1 => ?_⟩
    · exact absurd h1 (nI_ge h_k (by omega))
    · refine ee_at (nt := nzT 60) [(0, .ref 2), (1, .int (nI D)), (2, .int (nI lo)), (3, .int (nI hi)), (4, .int (nI (10 ^ ((k + 1))))), (5, .int (nI ((k + 1))))] (S, M, J) rfl (by rw [Nat.pow_succ, ← pk_mul, ← nI_1 k]; rfl) (by rfl) ?_
      exact ih_k
  · refine EE.runN (stop := atPc [6, 31]) 80 _ ?_
    refine ⟨fun h2 => ?_, fun h2 => ?_⟩
    · refine ee_at (nt := nzT 60) [(0, .ref 2), (1, .int (nI D)), (2, .int (nI lo)), (3, .int (nI hi)), (4, .int (nI (10 ^ D))), (5, .int (nI 0)), (6, .int (nI (D - D)))] (S, setU M c, J) rfl (by rw [Nat.sub_self]; rfl) (by rw [setU_id h7]) ?_
      exact L_read hS hT hD hlo hhi D 0 c (Nat.le_refl _) (by omega) (by omega) ⟨rfl, rfl⟩
    · exact absurd (nI_le (Nat.le_refl D) (by omega)) h2
theorem T_read1 {d : Nat} {S : Sc} {M : Nat → Nat → Int32} {J : Nat → Nat → Int64} {n : Nat} {τ : Nat → Nat} (hS : StS S) (hT : TxC M n τ) {lo hi c : Nat} (hlo : lo < 1000) (hhi : hi < 1000) (hc : c < 890) (h7 : M 2 7 = nI c) : Wp (d + 2) 60 [.ref 2, .int (nI 1), .int (nI lo), .int (nI hi)] (S, M, J) (fun rs w' => rs = .inl (some (.int (rdV (mDig n τ lo hi (true, c))))) ∧ w' = (S, setU M (mDig n τ lo hi (true, c)).1.2, J)) := by
  have h := T_readNumber (d := d) (J := J) (D := 1) (lo := lo) (hi := hi) hS hT (by omega) (by omega) (by omega) hc h7
  have e := rd_one (n := n) (τ := τ) (lo := lo) (hi := hi) (c := c)
  have ev : rdV (mDig n τ lo hi (true, c)) = if (cRd n τ lo hi 1 0 c).1 = true then nI (cRd n τ lo hi 1 0 c).2.1 else -99999 := by
    unfold rdV
    rw [e.1]
    dsimp only
    split
    · rename_i g
      rw [e.2 g]
    · rfl
  rw [ev, e.1]
  exact h
theorem T_read2 {d : Nat} {S : Sc} {M : Nat → Nat → Int32} {J : Nat → Nat → Int64} {n : Nat} {τ : Nat → Nat} (hS : StS S) (hT : TxC M n τ) {lo hi c : Nat} (hlo : lo ≤ hi) (hhi : hi ≤ 99) (hc : c < 890) (h7 : M 2 7 = nI c) : Wp (d + 2) 60 [.ref 2, .int (nI 2), .int (nI lo), .int (nI hi)] (S, M, J) (fun rs w' => rs = .inl (some (.int (rdV (mTwo n τ lo hi (true, c))))) ∧ w' = (S, setU M (mTwo n τ lo hi (true, c)).1.2, J)) := by
  have h := T_readNumber (d := d) (J := J) (D := 2) (lo := lo) (hi := hi) hS hT (by omega) (by omega) (by omega) hc h7
  have e := rd_two (n := n) (τ := τ) (lo := lo) (hi := hi) (c := c) hlo hhi
  have ev : rdV (mTwo n τ lo hi (true, c)) = if (cRd n τ lo hi 2 0 c).1 = true then nI (cRd n τ lo hi 2 0 c).2.1 else -99999 := by
    unfold rdV
    rw [e.1]
    dsimp only
    split
    · rename_i g
      rw [e.2 g]
    · rfl
  rw [ev, e.1]
  exact h
theorem T_read3 {d : Nat} {S : Sc} {M : Nat → Nat → Int32} {J : Nat → Nat → Int64} {n : Nat} {τ : Nat → Nat} (hS : StS S) (hT : TxC M n τ) {lo c : Nat} (hlo : lo ≤ 99) (hc : c < 890) (h7 : M 2 7 = nI c) : Wp (d + 2) 60 [.ref 2, .int (nI 3), .int (nI lo), .int (nI 999)] (S, M, J) (fun rs w' => rs = .inl (some (.int (rdV (mThree n τ lo (true, c))))) ∧ w' = (S, setU M (mThree n τ lo (true, c)).1.2, J)) := by
  have h := T_readNumber (d := d) (J := J) (D := 3) (lo := lo) (hi := 999) hS hT (by omega) (by omega) (by omega) hc h7
  have e := rd_three (n := n) (τ := τ) (lo := lo) (c := c) hlo
  have ev : rdV (mThree n τ lo (true, c)) = if (cRd n τ lo 999 3 0 c).1 = true then nI (cRd n τ lo 999 3 0 c).2.1 else -99999 := by
    unfold rdV
    rw [e.1]
    dsimp only
    split
    · rename_i g
      rw [e.2 g]
    · rfl
  rw [ev, e.1]
  exact h
