/-! THE REFERENCE: numbers, head, commands of a text: written by wip/whole/pure3.py -/
theorem mDig_le {n : Nat} {τ : Nat → Nat} {lo hi : Nat} {s : PS} : (mDig n τ lo hi s).1.2 ≤ s.2 + 1 := mAcc_le
theorem mTwo_le {n : Nat} {τ : Nat → Nat} {lo hi : Nat} {s : PS} : (mTwo n τ lo hi s).1.2 ≤ s.2 + 2 := by
  unfold mTwo
  dsimp only
  have a := mDig_le (n := n) (τ := τ) (lo := lo / 10) (hi := hi / 10) (s := s)
  generalize mDig n τ (lo / 10) (hi / 10) s = r at *
  have b := mDig_le (n := n) (τ := τ) (lo := lo - 10 * r.2) (hi := min 9 (hi - 10 * r.2)) (s := r.1)
  omega
theorem mThree_le {n : Nat} {τ : Nat → Nat} {lo : Nat} {s : PS} : (mThree n τ lo s).1.2 ≤ s.2 + 3 := by
  unfold mThree
  dsimp only
  have a := mDig_le (n := n) (τ := τ) (lo := 0) (hi := 9) (s := s)
  generalize mDig n τ 0 9 s = r at *
  have b := mTwo_le (n := n) (τ := τ) (lo := lo - 100 * r.2) (hi := 99) (s := r.1)
  omega
theorem i_clip {a c : Nat} (ha : a < 100000) (hc : c < 100000) (h : ¬ 0 ≤ nI a - nI c) : (0 : Int32) = nI (a - c) := by
  rcases Nat.lt_or_ge a c with g | g
  · rw [show a - c = 0 by omega]
    rfl
  · rw [pk_sub g] at h
    exact absurd (nI_pos' (by omega)) h
theorem i_clip' {a c : Nat} (ha : a < 100000) (hc : c < 100000) (h : 0 ≤ nI a - nI c) : nI a - nI c = nI (a - c) := by
  rcases Nat.lt_or_ge a c with g | g
  · have := pk_sneg (a := a) (b := c) (by omega) g
    exact absurd (Int32.lt_of_lt_of_le this h) Int32.lt_irrefl
  · exact pk_sub g
def setQ (M : Nat → Nat → Int32) (k : Nat) (v : Int32) : Nat → Nat → Int32 := upA M 137 (upd (M 137) k v)
theorem setQ_P {M : Nat → Nat → Int32} {s : PS} {k : Nat} {v : Int32} (h3 : k ≠ 3) (h4 : k ≠ 4) : upA (setP M s) 137 (upd (setP M s 137) k v) = setP (setQ M k v) s := by
  unfold setP setQ
  rw [upA_s, upA_uu, upA_s, upA_uu]
  refine congrArg (upA M 137) ?_
  rw [upd_cm _ _ _ (show 3 ≠ k from fun e => h3 e.symm), upd_cm _ _ _ (show 4 ≠ k from fun e => h4 e.symm)]
theorem setQ_o {M : Nat → Nat → Int32} {k : Nat} {v : Int32} {c : Nat} (h : c ≠ 137) : setQ M k v c = M c := upA_n _ _ h
theorem setQ_k {M : Nat → Nat → Int32} {k q : Nat} {v : Int32} (h : q ≠ k) : setQ M k v 137 q = M 137 q := by
  unfold setQ
  rw [upA_s, pk_un h]
theorem setQ_s {M : Nat → Nat → Int32} {k : Nat} {v : Int32} : setQ M k v 137 k = v := by
  unfold setQ
  rw [upA_s, pk_us]
theorem TxM.Q {M : Nat → Nat → Int32} {n : Nat} {τ : Nat → Nat} (h : TxM M n τ) {k : Nat} {v : Int32} (hk : k ≠ 2) : TxM (setQ M k v) n τ := by
  refine ⟨(setQ_k (fun e => hk e.symm)).trans h.1, h.2.1, fun q hq => ?_⟩
  rw [setQ_o (by omega)]
  exact h.2.2 q hq
def nxt (n : Nat) (τ : Nat → Nat) (k : Nat) (s : PS) : Bool := decide (s.2 < n ∧ τ s.2 = k)
theorem nxt_b {n : Nat} {τ : Nat → Nat} {k : Nat} {s : PS} : bI (s.2 < n ∧ τ s.2 = k) = bI (nxt n τ k s = true) := bI_cg (decide_eq_true_iff).symm
def mHd1 (n : Nat) (τ : Nat → Nat) : PS := mAcc (nxt n τ 79 (true, 0)) (true, 0)
def mHd2 (n : Nat) (τ : Nat → Nat) : PS × Nat := mTwo n τ 3 12 (mHd1 n τ)
def mHd3 (n : Nat) (τ : Nat → Nat) : PS × Nat := mTwo n τ 1 99 (mHd2 n τ).1
def mHd4 (n : Nat) (τ : Nat → Nat) : PS × Nat := mThree n τ 10 (mHd3 n τ).1
def mHdM (M : Nat → Nat → Int32) (n : Nat) (τ : Nat → Nat) : Nat → Nat → Int32 := setQ (setQ (setQ M 5 (nI (mHd2 n τ).2)) 6 (nI (mHd3 n τ).2)) 7 (nI (mHd4 n τ).2)
theorem mHd_le (n : Nat) (τ : Nat → Nat) : (mHd1 n τ).2 ≤ 1 ∧ (mHd2 n τ).1.2 ≤ 3 ∧ (mHd3 n τ).1.2 ≤ 5 ∧ (mHd4 n τ).1.2 ≤ 8 := by
  have a : (mHd1 n τ).2 ≤ 0 + 1 := mAcc_le
  have b := mTwo_le (n := n) (τ := τ) (lo := 3) (hi := 12) (s := mHd1 n τ)
  have c := mTwo_le (n := n) (τ := τ) (lo := 1) (hi := 99) (s := (mHd2 n τ).1)
  have d := mThree_le (n := n) (τ := τ) (lo := 10) (s := (mHd3 n τ).1)
  unfold mHd4 mHd3 mHd2 at *
  omega
theorem mHdM_o {M : Nat → Nat → Int32} {n : Nat} {τ : Nat → Nat} {c : Nat} (h : c ≠ 137) : mHdM M n τ c = M c := by
  unfold mHdM
  rw [setQ_o h, setQ_o h, setQ_o h]
theorem TxM.H {M : Nat → Nat → Int32} {n : Nat} {τ : Nat → Nat} (h : TxM M n τ) : TxM (mHdM M n τ) n τ := ((h.Q (by omega)).Q (by omega)).Q (by omega)
theorem set0 {M : Nat → Nat → Int32} : upA M 137 (upd (upd (M 137) 3 0) 4 1) = setP M (true, 0) := by
  unfold setP
  refine congrArg (upA M 137) ?_
  rw [upd_cm _ _ _ (show 3 ≠ 4 by omega)]
  rfl
