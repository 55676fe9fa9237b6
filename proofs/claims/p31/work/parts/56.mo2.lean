/-! THE REFERENCE: its text: written by wip/whole/pure3.py -/
abbrev PS : Type := Bool × Nat
/-- the reading's state in the reference's object -/
def setP (M : Nat → Nat → Int32) (s : PS) : Nat → Nat → Int32 := upA M 137 (upd (upd (M 137) 4 (bI (s.1 = true))) 3 (nI s.2))
theorem setP_3 (M : Nat → Nat → Int32) (s : PS) : setP M s 137 3 = nI s.2 := by
  unfold setP
  rw [upA_s, pk_us]
theorem setP_4 (M : Nat → Nat → Int32) (s : PS) : setP M s 137 4 = bI (s.1 = true) := by
  unfold setP
  rw [upA_s, pk_un (by omega), pk_us]
theorem setP_k (M : Nat → Nat → Int32) (s : PS) {k : Nat} (h : k ≠ 3) (h4 : k ≠ 4) : setP M s 137 k = M 137 k := by
  unfold setP
  rw [upA_s, pk_un h, pk_un h4]
theorem setP_o (M : Nat → Nat → Int32) (s : PS) {c : Nat} (h : c ≠ 137) : setP M s c = M c := upA_n _ _ h
theorem setP_P (M : Nat → Nat → Int32) (s t : PS) : setP (setP M s) t = setP M t := by
  unfold setP
  rw [upA_s, upA_uu]
  refine congrArg (upA M 137) ?_
  rw [upd_cm _ _ _ (show 3 ≠ 4 by omega)]
  funext q
  unfold upd
  split
  · rfl
  · split <;> rfl
theorem setP_id {M : Nat → Nat → Int32} {s : PS} (h3 : M 137 3 = nI s.2) (h4 : M 137 4 = bI (s.1 = true)) : setP M s = M := by
  unfold setP
  rw [← h3, ← h4]
  funext c
  by_cases e : c = 137
  · subst e
    rw [upA_s]
    funext q
    unfold upd
    split
    · rename_i e
      rw [e]
    · split
      · rename_i e
        rw [e]
      · rfl
  · rw [upA_n _ _ e]
/-- a text of n signs -/
def TxM (M : Nat → Nat → Int32) (n : Nat) (τ : Nat → Nat) : Prop := M 137 2 = nI n ∧ n ≤ 90 ∧ ∀ q, q < 90 → τ q ≤ 255 ∧ M 138 q = nI (τ q)
theorem TxM.P {M : Nat → Nat → Int32} {n : Nat} {τ : Nat → Nat} (h : TxM M n τ) (s : PS) : TxM (setP M s) n τ := by
  refine ⟨(setP_k M s (by omega) (by omega)).trans h.1, h.2.1, fun q hq => ?_⟩
  rw [setP_o M s (by omega)]
  exact h.2.2 q hq
/-- the digit at a place; 10: there is none -/
def dg (n : Nat) (τ : Nat → Nat) (c : Nat) : Nat := if c < n ∧ 48 ≤ τ c ∧ τ c ≤ 57 then τ c - 48 else 10
theorem dg_in {n : Nat} {τ : Nat → Nat} {c : Nat} (hc : c < n) (ht : τ c ≤ 255) : ((¬ (nI (τ c) - 48 : Int32) < 0 ∧ ¬ 9 < (nI (τ c) - 48 : Int32)) ↔ dg n τ c ≤ 9) ∧ (dg n τ c ≤ 9 → (nI (τ c) - 48 : Int32) = nI (dg n τ c)) := by
  unfold dg
  rcases Nat.lt_or_ge (τ c) 48 with h | h
  · have hn := pk_sneg (a := τ c) (b := 48) (by omega) h
    rw [if_neg (by omega)]
    exact ⟨⟨fun hh => absurd hn hh.1, fun hh => absurd hh (by omega)⟩, fun hh => absurd hh (by omega)⟩
  · have e : (nI (τ c) - 48 : Int32) = nI (τ c - 48) := by rw [show (48 : Int32) = nI 48 from rfl, pk_sub h]
    rw [e, o_9, nI_ltI (by omega) (by omega)]
    by_cases h2 : τ c ≤ 57
    · rw [if_pos ⟨hc, h, h2⟩]
      exact ⟨⟨fun _ => by omega, fun _ => ⟨nI_pos (by omega), by omega⟩⟩, fun _ => rfl⟩
    · rw [if_neg (by omega)]
      exact ⟨⟨fun hh => by omega, fun hh => absurd hh (by omega)⟩, fun hh => absurd hh (by omega)⟩
def mAcc (b : Bool) (s : PS) : PS := (s.1 && b, if (s.1 && b) = true then s.2 + 1 else s.2)
def mOk (n : Nat) (τ : Nat → Nat) (lo hi c : Nat) : Bool := decide (dg n τ c ≤ 9 ∧ lo ≤ dg n τ c ∧ dg n τ c ≤ hi)
def mDig (n : Nat) (τ : Nat → Nat) (lo hi : Nat) (s : PS) : PS × Nat := (mAcc (mOk n τ lo hi s.2) s, if (s.1 && mOk n τ lo hi s.2) = true then dg n τ s.2 else lo)
def mTwo (n : Nat) (τ : Nat → Nat) (lo hi : Nat) (s : PS) : PS × Nat :=
  ((mDig n τ (lo - 10 * (mDig n τ (lo / 10) (hi / 10) s).2) (min 9 (hi - 10 * (mDig n τ (lo / 10) (hi / 10) s).2)) (mDig n τ (lo / 10) (hi / 10) s).1).1,
   10 * (mDig n τ (lo / 10) (hi / 10) s).2 + (mDig n τ (lo - 10 * (mDig n τ (lo / 10) (hi / 10) s).2) (min 9 (hi - 10 * (mDig n τ (lo / 10) (hi / 10) s).2)) (mDig n τ (lo / 10) (hi / 10) s).1).2)
def mThree (n : Nat) (τ : Nat → Nat) (lo : Nat) (s : PS) : PS × Nat :=
  ((mTwo n τ (lo - 100 * (mDig n τ 0 9 s).2) 99 (mDig n τ 0 9 s).1).1, 100 * (mDig n τ 0 9 s).2 + (mTwo n τ (lo - 100 * (mDig n τ 0 9 s).2) 99 (mDig n τ 0 9 s).1).2)
theorem mAcc_le {b : Bool} {s : PS} : (mAcc b s).2 ≤ s.2 + 1 := by
  unfold mAcc
  dsimp only
  split <;> omega
theorem mDig_v {n : Nat} {τ : Nat → Nat} {lo hi : Nat} {s : PS} (h : lo ≤ hi) (h9 : hi ≤ 9) : lo ≤ (mDig n τ lo hi s).2 ∧ (mDig n τ lo hi s).2 ≤ hi := by
  unfold mDig
  dsimp only
  split
  · rename_i h
    rw [Bool.and_eq_true] at h
    have := of_decide_eq_true h.2
    omega
  · omega
theorem mTwo_v {n : Nat} {τ : Nat → Nat} {lo hi : Nat} {s : PS} (h : lo ≤ hi) (h9 : hi ≤ 99) : lo ≤ (mTwo n τ lo hi s).2 ∧ (mTwo n τ lo hi s).2 ≤ hi := by
  unfold mTwo
  have a := mDig_v (n := n) (τ := τ) (lo := lo / 10) (hi := hi / 10) (s := s) (by omega) (by omega)
  generalize mDig n τ (lo / 10) (hi / 10) s = r at *
  have b := mDig_v (n := n) (τ := τ) (lo := lo - 10 * r.2) (hi := min 9 (hi - 10 * r.2)) (s := r.1) (by omega) (by omega)
  dsimp only
  omega
theorem mThree_v {n : Nat} {τ : Nat → Nat} {lo : Nat} {s : PS} (h : lo ≤ 99) : lo ≤ (mThree n τ lo s).2 ∧ (mThree n τ lo s).2 ≤ 999 := by
  unfold mThree
  have a := mDig_v (n := n) (τ := τ) (lo := 0) (hi := 9) (s := s) (by omega) (by omega)
  generalize mDig n τ 0 9 s = r at *
  have b := mTwo_v (n := n) (τ := τ) (lo := lo - 100 * r.2) (hi := 99) (s := r.1) (by omega) (by omega)
  dsimp only
  omega
