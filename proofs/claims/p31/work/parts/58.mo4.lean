/-! THE REFERENCE: the commands of a text: written by wip/whole/pure3.py -/
def mCmd (n : Nat) (τ : Nat → Nat) (sl : Nat) (s : PS) : PS × Nat × Nat × Nat :=
  if s.2 < n ∧ τ s.2 = 100 then ((mThree n τ 1 (mAcc true s)).1, 0, (mThree n τ 1 (mAcc true s)).2, 0)
  else if s.2 < n ∧ τ s.2 = 99 then ((mDig n τ 0 2 (mTwo n τ 1 36 (mAcc true s)).1).1, 1, (mTwo n τ 1 36 (mAcc true s)).2, (mDig n τ 0 2 (mTwo n τ 1 36 (mAcc true s)).1).2)
  else if s.2 < n ∧ τ s.2 = 109 then ((mDig n τ 0 9 (mDig n τ 0 9 (mAcc true s)).1).1, 2, (mDig n τ 0 9 (mAcc true s)).2, (mDig n τ 0 9 (mDig n τ 0 9 (mAcc true s)).1).2)
  else if s.2 < n ∧ τ s.2 = 114 then ((mTwo n τ 0 (sl - 1) (mAcc true s)).1, 3, (mTwo n τ 0 (sl - 1) (mAcc true s)).2, 0)
  else (mAcc (nxt n τ 115 s) s, 4, 0, 0)
theorem mCmd_d {n : Nat} {τ : Nat → Nat} {sl : Nat} {s : PS} (h : s.2 < n ∧ τ s.2 = 100) : mCmd n τ sl s = ((mThree n τ 1 (mAcc true s)).1, 0, (mThree n τ 1 (mAcc true s)).2, 0) := if_pos h
theorem mCmd_c {n : Nat} {τ : Nat → Nat} {sl : Nat} {s : PS} (h : s.2 < n ∧ τ s.2 = 99) : mCmd n τ sl s = ((mDig n τ 0 2 (mTwo n τ 1 36 (mAcc true s)).1).1, 1, (mTwo n τ 1 36 (mAcc true s)).2, (mDig n τ 0 2 (mTwo n τ 1 36 (mAcc true s)).1).2) := by
  unfold mCmd
  rw [if_neg (by omega), if_pos h]
theorem mCmd_m {n : Nat} {τ : Nat → Nat} {sl : Nat} {s : PS} (h : s.2 < n ∧ τ s.2 = 109) : mCmd n τ sl s = ((mDig n τ 0 9 (mDig n τ 0 9 (mAcc true s)).1).1, 2, (mDig n τ 0 9 (mAcc true s)).2, (mDig n τ 0 9 (mDig n τ 0 9 (mAcc true s)).1).2) := by
  unfold mCmd
  rw [if_neg (by omega), if_neg (by omega), if_pos h]
theorem mCmd_r {n : Nat} {τ : Nat → Nat} {sl : Nat} {s : PS} (h : s.2 < n ∧ τ s.2 = 114) : mCmd n τ sl s = ((mTwo n τ 0 (sl - 1) (mAcc true s)).1, 3, (mTwo n τ 0 (sl - 1) (mAcc true s)).2, 0) := by
  unfold mCmd
  rw [if_neg (by omega), if_neg (by omega), if_neg (by omega), if_pos h]
theorem mCmd_s {n : Nat} {τ : Nat → Nat} {sl : Nat} {s : PS} (h1 : ¬ (s.2 < n ∧ τ s.2 = 100)) (h2 : ¬ (s.2 < n ∧ τ s.2 = 99)) (h3 : ¬ (s.2 < n ∧ τ s.2 = 109)) (h4 : ¬ (s.2 < n ∧ τ s.2 = 114)) : mCmd n τ sl s = (mAcc (nxt n τ 115 s) s, 4, 0, 0) := by
  unfold mCmd
  rw [if_neg h1, if_neg h2, if_neg h3, if_neg h4]
theorem mAcc_ge {b : Bool} {s : PS} : s.2 ≤ (mAcc b s).2 := by
  unfold mAcc
  dsimp only
  split <;> omega
theorem mDig_ge {n : Nat} {τ : Nat → Nat} {lo hi : Nat} {s : PS} : s.2 ≤ (mDig n τ lo hi s).1.2 := mAcc_ge
theorem mTwo_ge {n : Nat} {τ : Nat → Nat} {lo hi : Nat} {s : PS} : s.2 ≤ (mTwo n τ lo hi s).1.2 := Nat.le_trans mDig_ge mDig_ge
theorem mThree_ge {n : Nat} {τ : Nat → Nat} {lo : Nat} {s : PS} : s.2 ≤ (mThree n τ lo s).1.2 := Nat.le_trans mDig_ge mTwo_ge
theorem mAcc_t {s : PS} (h : s.1 = true) : (mAcc true s).2 = s.2 + 1 := by
  unfold mAcc
  rw [h]
  rfl
theorem mCmd_le {n : Nat} {τ : Nat → Nat} {sl : Nat} {s : PS} : (mCmd n τ sl s).1.2 ≤ s.2 + 4 := by
  have a := @mAcc_le true s
  unfold mCmd
  split
  · have := mThree_le (n := n) (τ := τ) (lo := 1) (s := mAcc true s)
    dsimp only
    omega
  · split
    · have b := mTwo_le (n := n) (τ := τ) (lo := 1) (hi := 36) (s := mAcc true s)
      have c := mDig_le (n := n) (τ := τ) (lo := 0) (hi := 2) (s := (mTwo n τ 1 36 (mAcc true s)).1)
      dsimp only
      omega
    · split
      · have b := mDig_le (n := n) (τ := τ) (lo := 0) (hi := 9) (s := mAcc true s)
        have c := mDig_le (n := n) (τ := τ) (lo := 0) (hi := 9) (s := (mDig n τ 0 9 (mAcc true s)).1)
        dsimp only
        omega
      · split
        · have b := mTwo_le (n := n) (τ := τ) (lo := 0) (hi := sl - 1) (s := mAcc true s)
          dsimp only
          omega
        · have := mAcc_le (b := nxt n τ 115 s) (s := s)
          dsimp only
          omega
theorem mCmd_go {n : Nat} {τ : Nat → Nat} {sl : Nat} {s : PS} (h : s.1 = true) : (mCmd n τ sl s).1.1 = true → s.2 + 1 ≤ (mCmd n τ sl s).1.2 := by
  have a := mAcc_t h
  unfold mCmd
  split
  · intro _
    have := mThree_ge (n := n) (τ := τ) (lo := 1) (s := mAcc true s)
    dsimp only
    omega
  · split
    · intro _
      have b := mTwo_ge (n := n) (τ := τ) (lo := 1) (hi := 36) (s := mAcc true s)
      have c := mDig_ge (n := n) (τ := τ) (lo := 0) (hi := 2) (s := (mTwo n τ 1 36 (mAcc true s)).1)
      dsimp only
      omega
    · split
      · intro _
        have b := mDig_ge (n := n) (τ := τ) (lo := 0) (hi := 9) (s := mAcc true s)
        have c := mDig_ge (n := n) (τ := τ) (lo := 0) (hi := 9) (s := (mDig n τ 0 9 (mAcc true s)).1)
        dsimp only
        omega
      · split
        · intro _
          have b := mTwo_ge (n := n) (τ := τ) (lo := 0) (hi := sl - 1) (s := mAcc true s)
          dsimp only
          omega
        · unfold mAcc
          dsimp only
          intro g
          rw [g]
          exact Nat.le_refl _
def mDo (ρ : Rw) (c : Nat × Nat × Nat) : Rw := match c.1 with
  | 0 => rDoDrive ρ c.2.1
  | 1 => rDoCut ρ (nI c.2.1) (nI c.2.2)
  | 2 => rDoServe ρ (10 * nI c.2.1 + nI c.2.2) (ρ 17).toNatClampNeg
  | 3 => rDoReplace ρ c.2.1
  | _ => rDoStart ρ
def mNo (ρ : Rw) (c : Nat × Nat × Nat) : Int32 := match c.1 with
  | 0 => bI (¬ ¬ ρ 3 = 0)
  | 1 => bI (¬ ¬ ρ 3 = 0)
  | 2 => bI (¬ (ρ 3 = 1 ∧ (ρ 17 < 12 ∨ ¬ rFnd ρ (10 * nI c.2.1 + nI c.2.2) (ρ 17).toNatClampNeg = -99999)))
  | 3 => bI (¬ (ρ 3 = 1 ∧ ¬ nI c.2.1 = ρ 7))
  | _ => bI (¬ ¬ ρ 3 = 1)
