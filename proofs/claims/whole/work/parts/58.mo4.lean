/-! THE REFERENCE: the commands of a text: written by wip/whole/pure3.py -/
def mCmd (n : Nat) (τ : Nat → Nat) (sl : Nat) (s : PS) : PS × Nat × Nat × Nat :=
  if s.2 < n ∧ τ s.2 = 100 then ((mThree n τ 1 (mAcc true s)).1, 0, (mThree n τ 1 (mAcc true s)).2, 0)
  else if s.2 < n ∧ τ s.2 = 99 then ((mDig n τ 0 2 (mTwo n τ 1 36 (mAcc true s)).1).1, 1, (mTwo n τ 1 36 (mAcc true s)).2, (mDig n τ 0 2 (mTwo n τ 1 36 (mAcc true s)).1).2)
  else if s.2 < n ∧ τ s.2 = 109 then ((mDig n τ 0 9 (mDig n τ 0 9 (mAcc true s)).1).1, 2, (mDig n τ 0 9 (mAcc true s)).2, (mDig n τ 0 9 (mDig n τ 0 9 (mAcc true s)).1).2)
  else if s.2 < n ∧ τ s.2 = 114 then ((mTwo n τ 0 (sl - 1) (mAcc true s)).1, 3, (mTwo n τ 0 (sl - 1) (mAcc true s)).2, 0)
  else (mAcc (nxt n τ 115 s) s, 4, 0, 0)
theorem mCmd_d {n : Nat} {τ : Nat → Nat} {sl : Nat} {s : PS} (h : s.2 < n ∧ τ s.2 = 100) : mCmd n τ sl s = ((mThree n τ 1 (mAcc true s)).1, 0, (mThree n τ 1 (mAcc true s)).2, 0) := if_pos h
theorem mCmd_c {n : Nat} {τ : Nat → Nat} {sl : Nat} {s : PS} (h : s.2 < n ∧ τ s.2 = 99) : mCmd n τ sl s = ((mDig n τ 0 2 (mTwo n τ 1 36 (mAcc true s)).1).1, 1, (mTwo n τ 1 36 (mAcc true s)).2, (mDig n τ 0 2 (mTwo n τ 1 36 (mAcc true s)).1).2) := by
  unfold mCmd
  rw [if_neg (by omega), if_pos h]
theorem mCmd_m {n : Nat} {τ : Nat → Nat} {sl : Nat} {s : PS} (h : s.2 < n ∧ τ s.2 = 109) : mCmd n τ sl s = ((mDig n τ 0 9 (mDig n τ 0 9 (mAcc true s)).1).1, 2, (mDig n τ 0 9 (mAcc true s)).2, (mDig n τ 0 9 (mDig n τ 0 9 (mAcc true s)).1).2) := by
  unfold mCmd
  rw [if_neg (by omega), if_neg (by omega), if_pos h]
theorem mCmd_r {n : Nat} {τ : Nat → Nat} {sl : Nat} {s : PS} (h : s.2 < n ∧ τ s.2 = 114) : mCmd n τ sl s = ((mTwo n τ 0 (sl - 1) (mAcc true s)).1, 3, (mTwo n τ 0 (sl - 1) (mAcc true s)).2, 0) := by
  unfold mCmd
  rw [if_neg (by omega), if_neg (by omega), if_neg (by omega), if_pos h]
theorem mCmd_s {n : Nat} {τ : Nat → Nat} {sl : Nat} {s : PS} (h1 : ¬ (s.2 < n ∧ τ s.2 = 100)) (h2 : ¬ (s.2 < n ∧ τ s.2 = 99)) (h3 : ¬ (s.2 < n ∧ τ s.2 = 109)) (h4 : ¬ (s.2 < n ∧ τ s.2 = 114)) : mCmd n τ sl s = (mAcc (nxt n τ 115 s) s, 4, 0, 0) := by
  unfold mCmd
  rw [if_neg h1, if_neg h2, if_neg h3, if_neg h4]
theorem mAcc_ge {b : Bool} {s : PS} : s.2 ≤ (mAcc b s).2 := by
  unfold mAcc
  dsimp only
  split <;> omega
theorem mDig_ge {n : Nat} {τ : Nat → Nat} {lo hi : Nat} {s : PS} : s.2 ≤ (mDig n τ lo hi s).1.2 := mAcc_ge
theorem mTwo_ge {n : Nat} {τ : Nat → Nat} {lo hi : Nat} {s : PS} : s.2 ≤ (mTwo n τ lo hi s).1.2 := Nat.le_trans mDig_ge mDig_ge
theorem mThree_ge {n : Nat} {τ : Nat → Nat} {lo : Nat} {s : PS} : s.2 ≤ (mThree n τ lo s).1.2 := Nat.le_trans mDig_ge mTwo_ge
theorem mAcc_t {s : PS} (h : s.1 = true) : (mAcc true s).2 = s.2 + 1 := by
  unfold mAcc
  rw [h]
  rfl
theorem mCmd_le {n : Nat} {τ : Nat → Nat} {sl : Nat} {s : PS} : (mCmd n τ sl s).1.2 ≤ s.2 + 4 := by
  have a := @mAcc_le true s
  unfold mCmd
  split
  · have := mThree_le (n := n) (τ := τ) (lo := 1) (s := mAcc true s)
    dsimp only
    omega
  · split
    · have b := mTwo_le (n := n) (τ := τ) (lo := 1) (hi := 36) (s := mAcc true s)
      have c := mDig_le (n := n) (τ := τ) (lo := 0) (hi := 2) (s := (mTwo n τ 1 36 (mAcc true s)).1)
      dsimp only
      omega
    · split
      · have b := mDig_le (n := n) (τ := τ) (lo := 0) (hi := 9) (s := mAcc true s)
        have c := mDig_le (n := n) (τ := τ) (lo := 0) (hi := 9) (s := (mDig n τ 0 9 (mAcc true s)).1)
        dsimp only
        omega
      · split
        · have b := mTwo_le (n := n) (τ := τ) (lo := 0) (hi := sl - 1) (s := mAcc true s)
          dsimp only
          omega
        · have := mAcc_le (b := nxt n τ 115 s) (s := s)
          dsimp only
          omega
theorem mCmd_go {n : Nat} {τ : Nat → Nat} {sl : Nat} {s : PS} (h : s.1 = true) : (mCmd n τ sl s).1.1 = true → s.2 + 1 ≤ (mCmd n τ sl s).1.2 := by
  have a := mAcc_t h
  unfold mCmd
  split
  · intro _
    have := mThree_ge (n := n) (τ := τ) (lo := 1) (s := mAcc true s)
    dsimp only
    omega
  · split
    · intro _
      have b := mTwo_ge (n := n) (τ := τ) (lo := 1) (hi := 36) (s := mAcc true s)
      have c := mDig_ge (n := n) (τ := τ) (lo := 0) (hi := 2) (s := (mTwo n τ 1 36 (mAcc true s)).1)
      dsimp only
      omega
    · split
      · intro _
        have b := mDig_ge (n := n) (τ := τ) (lo := 0) (hi := 9) (s := mAcc true s)
        have c := mDig_ge (n := n) (τ := τ) (lo := 0) (hi := 9) (s := (mDig n τ 0 9 (mAcc true s)).1)
        dsimp only
        omega
      · split
        · intro _
          have b := mTwo_ge (n := n) (τ := τ) (lo := 0) (hi := sl - 1) (s := mAcc true s)
          dsimp only
          omega
        · unfold mAcc
          dsimp only
          intro g
          rw [g]
          exact Nat.le_refl _
def mDo (ρ : Rw) (c : Nat × Nat × Nat) : Rw := match c.1 with
  | 0 => rDoDrive ρ c.2.1
  | 1 => rDoCut ρ (nI c.2.1) (nI c.2.2)
  | 2 => rDoServe ρ (10 * nI c.2.1 + nI c.2.2) (ρ 17).toNatClampNeg
  | 3 => rDoReplace ρ c.2.1
  | _ => rDoStart ρ
def mNo (ρ : Rw) (c : Nat × Nat × Nat) : Int32 := match c.1 with
  | 0 => bI (¬ ¬ ρ 3 = 0)
  | 1 => bI (¬ ¬ ρ 3 = 0)
  | 2 => bI (¬ (ρ 3 = 1 ∧ (ρ 17 < 12 ∨ ¬ rFnd ρ (10 * nI c.2.1 + nI c.2.2) (ρ 17).toNatClampNeg = -99999)))
  | 3 => bI (¬ (ρ 3 = 1 ∧ ¬ nI c.2.1 = ρ 7))
  | _ => bI (¬ ¬ ρ 3 = 1)
theorem X_doDrive {d : Nat} {S : Sc} {M : Nat → Nat → Int32} {J : Nat → Nat → Int64} {s : PS} (hM : MoS S) {t : Nat} (ht : t < 1000000) (hok : Rok (M 139)) : Wp (d + 6) 131 [.ref 139, .int (nI t)] (S, setP M s, J) (fun rs w' => rs = .inl (some (.int (bI (¬ M 139 3 = 0)))) ∧ w' = (S, upA (setP M s) 139 (rDoDrive (M 139) t), J)) := by
  have e : setP M s 139 = M 139 := setP_o M s (by omega)
  have := T_doDrive (d := d) (M := setP M s) (J := J) hM.now (t := t) ht (by rw [e]; exact hok)
  rw [e] at this
  exact this
theorem X_doCut {d : Nat} {S : Sc} {M : Nat → Nat → Int32} {J : Nat → Nat → Int64} {s : PS} (hM : MoS S) {n k : Int32} : Wp (d + 1) 132 [.ref 139, .int n, .int k] (S, setP M s, J) (fun rs w' => rs = .inl (some (.int (bI (¬ M 139 3 = 0)))) ∧ w' = (S, upA (setP M s) 139 (rDoCut (M 139) n k), J)) := by
  have e : setP M s 139 = M 139 := setP_o M s (by omega)
  have := T_doCut (d := d) (M := setP M s) (J := J) hM.now (n := n) (k := k)
  rw [e] at this
  exact this
theorem X_doStart {d : Nat} {S : Sc} {M : Nat → Nat → Int32} {J : Nat → Nat → Int64} {s : PS} (hM : MoS S) (hok : Rok (M 139)) : Wp (d + 5) 133 [.ref 139] (S, setP M s, J) (fun rs w' => rs = .inl (some (.int (bI (¬ M 139 3 = 1)))) ∧ w' = (S, upA (setP M s) 139 (rDoStart (M 139)), J)) := by
  have e : setP M s 139 = M 139 := setP_o M s (by omega)
  have := T_doStart (d := d) (M := setP M s) (J := J) hM.now (by rw [e]; exact hok)
  rw [e] at this
  exact this
theorem X_doServe {d : Nat} {S : Sc} {M : Nat → Nat → Int32} {J : Nat → Nat → Int64} {s : PS} (hM : MoS S) {n : Nat} {x y : Int32} (hn : n ≤ 12) (h17 : M 139 17 = nI n) : Wp (d + 3) 134 [.ref 139, .int x, .int y] (S, setP M s, J) (fun rs w' => rs = .inl (some (.int (bI (M 139 3 = 1 ∧ (M 139 17 < 12 ∨ ¬ rFnd (M 139) (10 * x + y) n = -99999))))) ∧ w' = (S, upA (setP M s) 139 (rDoServe (M 139) (10 * x + y) n), J)) := by
  have e : setP M s 139 = M 139 := setP_o M s (by omega)
  have := T_doServe (d := d) (M := setP M s) (J := J) hM.now (n := n) (x := x) (y := y) hn (by rw [e]; exact h17)
  rw [e] at this
  exact this
theorem X_doReplace {d : Nat} {S : Sc} {M : Nat → Nat → Int32} {J : Nat → Nat → Int64} {s : PS} (hM : MoS S) {q : Nat} (hq : q < 12) : Wp (d + 4) 135 [.ref 139, .int (nI q)] (S, setP M s, J) (fun rs w' => rs = .inl (some (.int (bI (M 139 3 = 1 ∧ ¬ nI q = M 139 7)))) ∧ w' = (S, upA (setP M s) 139 (rDoReplace (M 139) q), J)) := by
  have e : setP M s 139 = M 139 := setP_o M s (by omega)
  have := T_doReplace (d := d) (M := setP M s) (J := J) hM.now (s := q) hq
  rw [e] at this
  exact this
set_option maxHeartbeats 2000000 in
theorem T_cmd0 {d : Nat} {S : Sc} {M : Nat → Nat → Int32} {J : Nat → Nat → Int64} {n : Nat} {τ : Nat → Nat} {s : PS} {sl : Nat} (hM : MoS S) (hT : TxM M n τ) (hs : s.2 < 900) (h5 : M 137 5 = nI sl) (hs1 : 1 ≤ sl) (hs12 : sl ≤ 12) : Wp (d + 5) 129 [.ref 137, .int 0] (S, setP M s, J) (fun rs w' => rs = .inl (some (.int 0)) ∧ w' = (S, setP M (mCmd n τ sl s).1, J)) := by
  obtain ⟨⟨b137, p1, p8, p9, p10, p12, p13⟩, ⟨b138, b139, b140, b141, b142, b143⟩, n138, n139, n140, n141, n142, n143⟩ := id hM
  have e5 : (nI sl - 1 : Int32) = nI (sl - 1) := by rw [o_1, pk_sub hs1]
  refine ⟨rfl, ?_⟩
  refine EE.runN (stop := noStop) 80 _ ?_
  refine ⟨⟨Nat.le_of_ble_eq_true rfl, Nat.le_of_ble_eq_true rfl, Nat.le_of_ble_eq_true rfl⟩, by simp only [wI_1, wI_w, p1, p8, p9, p10, p12, p13, b137, b138, b139, b140, b141, b142, b143] <;> first | rfl | decide, _, T_isNext (k := 100) hM hT (by omega) (by omega), ?_⟩
  rintro _ _ ⟨rfl, rfl⟩
  refine ⟨Or.inl rfl, ?_⟩
  refine ⟨fun h1 => ?_, fun h1 => ?_⟩
  · refine ⟨⟨Nat.le_of_ble_eq_true rfl, Nat.le_of_ble_eq_true rfl, Nat.le_of_ble_eq_true rfl⟩, by simp only [wI_1, wI_w, p1, p8, p9, p10, p12, p13, b137, b138, b139, b140, b141, b142, b143] <;> first | rfl | decide, _, T_isNext (k := 99) hM hT (by omega) (by omega), ?_⟩
    rintro _ _ ⟨rfl, rfl⟩
    refine ⟨Or.inl rfl, ?_⟩
    refine ⟨fun h2 => ?_, fun h2 => ?_⟩
    · refine ⟨⟨Nat.le_of_ble_eq_true rfl, Nat.le_of_ble_eq_true rfl, Nat.le_of_ble_eq_true rfl⟩, by simp only [wI_1, wI_w, p1, p8, p9, p10, p12, p13, b137, b138, b139, b140, b141, b142, b143] <;> first | rfl | decide, _, T_isNext (k := 109) hM hT (by omega) (by omega), ?_⟩
      rintro _ _ ⟨rfl, rfl⟩
      refine ⟨Or.inl rfl, ?_⟩
      refine ⟨fun h3 => ?_, fun h3 => ?_⟩
      · refine ⟨⟨Nat.le_of_ble_eq_true rfl, Nat.le_of_ble_eq_true rfl, Nat.le_of_ble_eq_true rfl⟩, by simp only [wI_1, wI_w, p1, p8, p9, p10, p12, p13, b137, b138, b139, b140, b141, b142, b143] <;> first | rfl | decide, _, T_isNext (k := 114) hM hT (by omega) (by omega), ?_⟩
        rintro _ _ ⟨rfl, rfl⟩
        refine ⟨Or.inl rfl, ?_⟩
        refine ⟨fun h4 => ?_, fun h4 => ?_⟩
        · simp only [bI_e0] at h1 h2 h3 h4
          rw [mCmd_s (sl := sl) h1 h2 h3 h4]
          refine ⟨⟨Nat.le_of_ble_eq_true rfl, Nat.le_of_ble_eq_true rfl, Nat.le_of_ble_eq_true rfl⟩, by simp only [wI_1, wI_w, p1, p8, p9, p10, p12, p13, b137, b138, b139, b140, b141, b142, b143] <;> first | rfl | decide, _, T_isNext (k := 115) hM hT (by omega) (by omega), ?_⟩
          rintro _ _ ⟨rfl, rfl⟩
          rw [nxt_b]
          refine ⟨Or.inl rfl, ?_⟩
          refine ⟨⟨Nat.le_of_ble_eq_true rfl, Nat.le_of_ble_eq_true rfl, Nat.le_of_ble_eq_true rfl⟩, by simp only [wI_1, wI_w, p1, p8, p9, p10, p12, p13, b137, b138, b139, b140, b141, b142, b143] <;> first | rfl | decide, _, T_accept hM, ?_⟩
          rintro _ _ ⟨rfl, rfl⟩
          refine ⟨Or.inl rfl, ?_⟩
          refine ⟨fun h5 => ?_, fun h5 => ?_⟩
          · exact ⟨⟨Nat.zero_le _, Nat.zero_le _⟩, by decide, rfl, rfl⟩
          · exact absurd h5 (by decide)
        · simp only [bI_e0, Classical.not_not] at h4
          rw [mCmd_r (sl := sl) h4]
          refine ⟨⟨Nat.le_of_ble_eq_true rfl, Nat.le_of_ble_eq_true rfl, Nat.le_of_ble_eq_true rfl⟩, by simp only [wI_1, wI_w, p1, p8, p9, p10, p12, p13, b137, b138, b139, b140, b141, b142, b143] <;> first | rfl | decide, _, T_accept (b := true) hM, ?_⟩
          rintro _ _ ⟨rfl, rfl⟩
          refine ⟨Or.inl rfl, ?_⟩
          refine ⟨by simp only [wI_1, wI_w, p1, p8, p9, p10, p12, p13, b137, b138, b139, b140, b141, b142, b143] <;> first | rfl | decide, ?_⟩
          refine ⟨⟨Nat.le_of_ble_eq_true rfl, Nat.le_of_ble_eq_true rfl, Nat.le_of_ble_eq_true rfl⟩, by simp only [wI_1, wI_w, p1, p8, p9, p10, p12, p13, b137, b138, b139, b140, b141, b142, b143] <;> first | rfl | decide, _, by simp only [wI_M, wI_1, wI_w, wI_1, wI_w, p1, p8, p9, p10, p12, p13, setP_3, setP_4]; rw [setP_k M _ (show (5 : Nat) ≠ 3 by omega) (by omega), h5, e5]; exact T_two (lo := 0) (hi := sl - 1) hM hT (by have l1 := @mAcc_le true s; omega) (by omega) (by omega), ?_⟩
          rintro _ _ ⟨rfl, rfl⟩
          refine ⟨Or.inl rfl, ?_⟩
          refine ⟨fun h6 => ?_, fun h6 => ?_⟩
          · exact ⟨⟨Nat.zero_le _, Nat.zero_le _⟩, by decide, rfl, rfl⟩
          · exact absurd h6 (by decide)
      · simp only [bI_e0, Classical.not_not] at h3
        rw [mCmd_m (sl := sl) h3]
        refine ⟨⟨Nat.le_of_ble_eq_true rfl, Nat.le_of_ble_eq_true rfl, Nat.le_of_ble_eq_true rfl⟩, by simp only [wI_1, wI_w, p1, p8, p9, p10, p12, p13, b137, b138, b139, b140, b141, b142, b143] <;> first | rfl | decide, _, T_accept (b := true) hM, ?_⟩
        rintro _ _ ⟨rfl, rfl⟩
        refine ⟨Or.inl rfl, ?_⟩
        refine ⟨⟨Nat.le_of_ble_eq_true rfl, Nat.le_of_ble_eq_true rfl, Nat.le_of_ble_eq_true rfl⟩, by simp only [wI_1, wI_w, p1, p8, p9, p10, p12, p13, b137, b138, b139, b140, b141, b142, b143] <;> first | rfl | decide, _, T_digit (lo := 0) (hi := 9) hM hT (by have l1 := @mAcc_le true s; omega) (by omega) (by omega), ?_⟩
        rintro _ _ ⟨rfl, rfl⟩
        refine ⟨Or.inl rfl, ?_⟩
        refine ⟨⟨Nat.le_of_ble_eq_true rfl, Nat.le_of_ble_eq_true rfl, Nat.le_of_ble_eq_true rfl⟩, by simp only [wI_1, wI_w, p1, p8, p9, p10, p12, p13, b137, b138, b139, b140, b141, b142, b143] <;> first | rfl | decide, _, T_digit (lo := 0) (hi := 9) hM hT (by have l1 := @mAcc_le true s; have l2 := mDig_le (n := n) (τ := τ) (lo := 0) (hi := 9) (s := mAcc true s); omega) (by omega) (by omega), ?_⟩
        rintro _ _ ⟨rfl, rfl⟩
        refine ⟨Or.inl rfl, ?_⟩
        refine ⟨fun h7 => ?_, fun h7 => ?_⟩
        · exact ⟨⟨Nat.zero_le _, Nat.zero_le _⟩, by decide, rfl, rfl⟩
        · exact absurd h7 (by decide)
    · simp only [bI_e0, Classical.not_not] at h2
      rw [mCmd_c (sl := sl) h2]
      refine ⟨⟨Nat.le_of_ble_eq_true rfl, Nat.le_of_ble_eq_true rfl, Nat.le_of_ble_eq_true rfl⟩, by simp only [wI_1, wI_w, p1, p8, p9, p10, p12, p13, b137, b138, b139, b140, b141, b142, b143] <;> first | rfl | decide, _, T_accept (b := true) hM, ?_⟩
      rintro _ _ ⟨rfl, rfl⟩
      refine ⟨Or.inl rfl, ?_⟩
      refine ⟨⟨Nat.le_of_ble_eq_true rfl, Nat.le_of_ble_eq_true rfl, Nat.le_of_ble_eq_true rfl⟩, by simp only [wI_1, wI_w, p1, p8, p9, p10, p12, p13, b137, b138, b139, b140, b141, b142, b143] <;> first | rfl | decide, _, T_two (lo := 1) (hi := 36) hM hT (by have l1 := @mAcc_le true s; omega) (by omega) (by omega), ?_⟩
      rintro _ _ ⟨rfl, rfl⟩
      refine ⟨Or.inl rfl, ?_⟩
      refine ⟨⟨Nat.le_of_ble_eq_true rfl, Nat.le_of_ble_eq_true rfl, Nat.le_of_ble_eq_true rfl⟩, by simp only [wI_1, wI_w, p1, p8, p9, p10, p12, p13, b137, b138, b139, b140, b141, b142, b143] <;> first | rfl | decide, _, T_digit (lo := 0) (hi := 2) hM hT (by have l1 := @mAcc_le true s; have l2 := mTwo_le (n := n) (τ := τ) (lo := 1) (hi := 36) (s := mAcc true s); omega) (by omega) (by omega), ?_⟩
      rintro _ _ ⟨rfl, rfl⟩
      refine ⟨Or.inl rfl, ?_⟩
      refine ⟨fun h8 => ?_, fun h8 => ?_⟩
      · exact ⟨⟨Nat.zero_le _, Nat.zero_le _⟩, by decide, rfl, rfl⟩
      · exact absurd h8 (by decide)
  · simp only [bI_e0, Classical.not_not] at h1
    rw [mCmd_d (sl := sl) h1]
    refine ⟨⟨Nat.le_of_ble_eq_true rfl, Nat.le_of_ble_eq_true rfl, Nat.le_of_ble_eq_true rfl⟩, by simp only [wI_1, wI_w, p1, p8, p9, p10, p12, p13, b137, b138, b139, b140, b141, b142, b143] <;> first | rfl | decide, _, T_accept (b := true) hM, ?_⟩
    rintro _ _ ⟨rfl, rfl⟩
    refine ⟨Or.inl rfl, ?_⟩
    refine ⟨⟨Nat.le_of_ble_eq_true rfl, Nat.le_of_ble_eq_true rfl, Nat.le_of_ble_eq_true rfl⟩, by simp only [wI_1, wI_w, p1, p8, p9, p10, p12, p13, b137, b138, b139, b140, b141, b142, b143] <;> first | rfl | decide, _, T_three (lo := 1) hM hT (by have l1 := @mAcc_le true s; omega) (by omega), ?_⟩
    rintro _ _ ⟨rfl, rfl⟩
    refine ⟨Or.inl rfl, ?_⟩
    refine ⟨fun h9 => ?_, fun h9 => ?_⟩
    · exact ⟨⟨Nat.zero_le _, Nat.zero_le _⟩, by decide, rfl, rfl⟩
    · exact absurd h9 (by decide)
set_option maxHeartbeats 2000000 in
theorem T_cmd1 {d : Nat} {S : Sc} {M : Nat → Nat → Int32} {J : Nat → Nat → Int64} {n : Nat} {τ : Nat → Nat} {s : PS} {sl : Nat} (hM : MoS S) (hT : TxM M n τ) (hs : s.2 < 900) (h5 : M 137 5 = nI sl) (hs1 : 1 ≤ sl) (hs12 : sl ≤ 12) (hok : Rok (M 139)) (hc : M 139 17 = nI (M 139 17).toNatClampNeg ∧ (M 139 17).toNatClampNeg ≤ 12) : Wp (d + 7) 129 [.ref 137, .int 1] (S, setP M s, J) (fun rs w' => rs = .inl (some (.int (mNo (M 139) (mCmd n τ sl s).2))) ∧ w' = (S, upA (setP M (mCmd n τ sl s).1) 139 (mDo (M 139) (mCmd n τ sl s).2), J)) := by
  obtain ⟨⟨b137, p1, p8, p9, p10, p12, p13⟩, ⟨b138, b139, b140, b141, b142, b143⟩, n138, n139, n140, n141, n142, n143⟩ := id hM
  have e5 : (nI sl - 1 : Int32) = nI (sl - 1) := by rw [o_1, pk_sub hs1]
  refine ⟨rfl, ?_⟩
  refine EE.runN (stop := noStop) 80 _ ?_
  refine ⟨⟨Nat.le_of_ble_eq_true rfl, Nat.le_of_ble_eq_true rfl, Nat.le_of_ble_eq_true rfl⟩, by simp only [wI_1, wI_w, p1, p8, p9, p10, p12, p13, b137, b138, b139, b140, b141, b142, b143] <;> first | rfl | decide, _, T_isNext (k := 100) hM hT (by omega) (by omega), ?_⟩
  rintro _ _ ⟨rfl, rfl⟩
  refine ⟨Or.inl rfl, ?_⟩
  refine ⟨fun h1 => ?_, fun h1 => ?_⟩
  · refine ⟨⟨Nat.le_of_ble_eq_true rfl, Nat.le_of_ble_eq_true rfl, Nat.le_of_ble_eq_true rfl⟩, by simp only [wI_1, wI_w, p1, p8, p9, p10, p12, p13, b137, b138, b139, b140, b141, b142, b143] <;> first | rfl | decide, _, T_isNext (k := 99) hM hT (by omega) (by omega), ?_⟩
    rintro _ _ ⟨rfl, rfl⟩
    refine ⟨Or.inl rfl, ?_⟩
    refine ⟨fun h2 => ?_, fun h2 => ?_⟩
    · refine ⟨⟨Nat.le_of_ble_eq_true rfl, Nat.le_of_ble_eq_true rfl, Nat.le_of_ble_eq_true rfl⟩, by simp only [wI_1, wI_w, p1, p8, p9, p10, p12, p13, b137, b138, b139, b140, b141, b142, b143] <;> first | rfl | decide, _, T_isNext (k := 109) hM hT (by omega) (by omega), ?_⟩
      rintro _ _ ⟨rfl, rfl⟩
      refine ⟨Or.inl rfl, ?_⟩
      refine ⟨fun h3 => ?_, fun h3 => ?_⟩
      · refine ⟨⟨Nat.le_of_ble_eq_true rfl, Nat.le_of_ble_eq_true rfl, Nat.le_of_ble_eq_true rfl⟩, by simp only [wI_1, wI_w, p1, p8, p9, p10, p12, p13, b137, b138, b139, b140, b141, b142, b143] <;> first | rfl | decide, _, T_isNext (k := 114) hM hT (by omega) (by omega), ?_⟩
        rintro _ _ ⟨rfl, rfl⟩
        refine ⟨Or.inl rfl, ?_⟩
        refine ⟨fun h4 => ?_, fun h4 => ?_⟩
        · simp only [bI_e0] at h1 h2 h3 h4
          rw [mCmd_s (sl := sl) h1 h2 h3 h4]
          refine ⟨⟨Nat.le_of_ble_eq_true rfl, Nat.le_of_ble_eq_true rfl, Nat.le_of_ble_eq_true rfl⟩, by simp only [wI_1, wI_w, p1, p8, p9, p10, p12, p13, b137, b138, b139, b140, b141, b142, b143] <;> first | rfl | decide, _, T_isNext (k := 115) hM hT (by omega) (by omega), ?_⟩
          rintro _ _ ⟨rfl, rfl⟩
          rw [nxt_b]
          refine ⟨Or.inl rfl, ?_⟩
          refine ⟨⟨Nat.le_of_ble_eq_true rfl, Nat.le_of_ble_eq_true rfl, Nat.le_of_ble_eq_true rfl⟩, by simp only [wI_1, wI_w, p1, p8, p9, p10, p12, p13, b137, b138, b139, b140, b141, b142, b143] <;> first | rfl | decide, _, T_accept hM, ?_⟩
          rintro _ _ ⟨rfl, rfl⟩
          refine ⟨Or.inl rfl, ?_⟩
          refine ⟨fun h5 => ?_, fun h5 => ?_⟩
          · exact absurd h5 (by decide)
          · refine ⟨by simp only [wI_1, wI_w, p1, p8, p9, p10, p12, p13, b137, b138, b139, b140, b141, b142, b143] <;> first | rfl | decide, ?_⟩
            refine ⟨⟨Nat.le_of_ble_eq_true rfl, Nat.le_of_ble_eq_true rfl, Nat.le_of_ble_eq_true rfl⟩, _, by simp only [wI_M, wI_1, wI_w, wI_1, wI_w, p1, p8, p9, p10, p12, p13, setP_3, setP_4]; exact X_doStart hM hok, ?_⟩
            rintro _ _ ⟨rfl, rfl⟩
            refine ⟨Or.inl rfl, ?_⟩
            refine ⟨fun h6 => ?_, fun h6 => ?_⟩
            · simp only [bI_e0] at h6
              refine ⟨⟨Nat.zero_le _, Nat.zero_le _⟩, by decide, congrArg (fun v => Sum.inl (some (Value.int v))) ?_, rfl⟩
              exact (bI_f h6).symm
            · simp only [bI_e0] at h6
              refine ⟨⟨Nat.zero_le _, Nat.zero_le _⟩, by decide, congrArg (fun v => Sum.inl (some (Value.int v))) ?_, rfl⟩
              exact (bI_t h6).symm
        · simp only [bI_e0, Classical.not_not] at h4
          rw [mCmd_r (sl := sl) h4]
          refine ⟨⟨Nat.le_of_ble_eq_true rfl, Nat.le_of_ble_eq_true rfl, Nat.le_of_ble_eq_true rfl⟩, by simp only [wI_1, wI_w, p1, p8, p9, p10, p12, p13, b137, b138, b139, b140, b141, b142, b143] <;> first | rfl | decide, _, T_accept (b := true) hM, ?_⟩
          rintro _ _ ⟨rfl, rfl⟩
          refine ⟨Or.inl rfl, ?_⟩
          refine ⟨by simp only [wI_1, wI_w, p1, p8, p9, p10, p12, p13, b137, b138, b139, b140, b141, b142, b143] <;> first | rfl | decide, ?_⟩
          refine ⟨⟨Nat.le_of_ble_eq_true rfl, Nat.le_of_ble_eq_true rfl, Nat.le_of_ble_eq_true rfl⟩, by simp only [wI_1, wI_w, p1, p8, p9, p10, p12, p13, b137, b138, b139, b140, b141, b142, b143] <;> first | rfl | decide, _, by simp only [wI_M, wI_1, wI_w, wI_1, wI_w, p1, p8, p9, p10, p12, p13, setP_3, setP_4]; rw [setP_k M _ (show (5 : Nat) ≠ 3 by omega) (by omega), h5, e5]; exact T_two (lo := 0) (hi := sl - 1) hM hT (by have l1 := @mAcc_le true s; omega) (by omega) (by omega), ?_⟩
          rintro _ _ ⟨rfl, rfl⟩
          refine ⟨Or.inl rfl, ?_⟩
          refine ⟨fun h7 => ?_, fun h7 => ?_⟩
          · exact absurd h7 (by decide)
          · refine ⟨by simp only [wI_1, wI_w, p1, p8, p9, p10, p12, p13, b137, b138, b139, b140, b141, b142, b143] <;> first | rfl | decide, ?_⟩
            refine ⟨⟨Nat.le_of_ble_eq_true rfl, Nat.le_of_ble_eq_true rfl, Nat.le_of_ble_eq_true rfl⟩, _, by simp only [wI_M, wI_1, wI_w, wI_1, wI_w, p1, p8, p9, p10, p12, p13, setP_3, setP_4]; exact X_doReplace hM (by have := mTwo_v (n := n) (τ := τ) (lo := 0) (hi := sl - 1) (s := mAcc true s) (by omega) (by omega); omega), ?_⟩
            rintro _ _ ⟨rfl, rfl⟩
            refine ⟨Or.inl rfl, ?_⟩
            refine ⟨fun h8 => ?_, fun h8 => ?_⟩
            · simp only [bI_e0] at h8
              refine ⟨⟨Nat.zero_le _, Nat.zero_le _⟩, by decide, congrArg (fun v => Sum.inl (some (Value.int v))) ?_, rfl⟩
              exact (bI_f h8).symm
            · simp only [bI_e0] at h8
              refine ⟨⟨Nat.zero_le _, Nat.zero_le _⟩, by decide, congrArg (fun v => Sum.inl (some (Value.int v))) ?_, rfl⟩
              exact (bI_t h8).symm
      · simp only [bI_e0, Classical.not_not] at h3
        rw [mCmd_m (sl := sl) h3]
        refine ⟨⟨Nat.le_of_ble_eq_true rfl, Nat.le_of_ble_eq_true rfl, Nat.le_of_ble_eq_true rfl⟩, by simp only [wI_1, wI_w, p1, p8, p9, p10, p12, p13, b137, b138, b139, b140, b141, b142, b143] <;> first | rfl | decide, _, T_accept (b := true) hM, ?_⟩
        rintro _ _ ⟨rfl, rfl⟩
        refine ⟨Or.inl rfl, ?_⟩
        refine ⟨⟨Nat.le_of_ble_eq_true rfl, Nat.le_of_ble_eq_true rfl, Nat.le_of_ble_eq_true rfl⟩, by simp only [wI_1, wI_w, p1, p8, p9, p10, p12, p13, b137, b138, b139, b140, b141, b142, b143] <;> first | rfl | decide, _, T_digit (lo := 0) (hi := 9) hM hT (by have l1 := @mAcc_le true s; omega) (by omega) (by omega), ?_⟩
        rintro _ _ ⟨rfl, rfl⟩
        refine ⟨Or.inl rfl, ?_⟩
        refine ⟨⟨Nat.le_of_ble_eq_true rfl, Nat.le_of_ble_eq_true rfl, Nat.le_of_ble_eq_true rfl⟩, by simp only [wI_1, wI_w, p1, p8, p9, p10, p12, p13, b137, b138, b139, b140, b141, b142, b143] <;> first | rfl | decide, _, T_digit (lo := 0) (hi := 9) hM hT (by have l1 := @mAcc_le true s; have l2 := mDig_le (n := n) (τ := τ) (lo := 0) (hi := 9) (s := mAcc true s); omega) (by omega) (by omega), ?_⟩
        rintro _ _ ⟨rfl, rfl⟩
        refine ⟨Or.inl rfl, ?_⟩
        refine ⟨fun h9 => ?_, fun h9 => ?_⟩
        · exact absurd h9 (by decide)
        · refine ⟨by simp only [wI_1, wI_w, p1, p8, p9, p10, p12, p13, b137, b138, b139, b140, b141, b142, b143] <;> first | rfl | decide, ?_⟩
          refine ⟨⟨Nat.le_of_ble_eq_true rfl, Nat.le_of_ble_eq_true rfl, Nat.le_of_ble_eq_true rfl⟩, _, by simp only [wI_M, wI_1, wI_w, wI_1, wI_w, p1, p8, p9, p10, p12, p13, setP_3, setP_4]; exact X_doServe hM hc.2 hc.1, ?_⟩
          rintro _ _ ⟨rfl, rfl⟩
          refine ⟨Or.inl rfl, ?_⟩
          refine ⟨fun h10 => ?_, fun h10 => ?_⟩
          · simp only [bI_e0] at h10
            refine ⟨⟨Nat.zero_le _, Nat.zero_le _⟩, by decide, congrArg (fun v => Sum.inl (some (Value.int v))) ?_, rfl⟩
            exact (bI_f h10).symm
          · simp only [bI_e0] at h10
            refine ⟨⟨Nat.zero_le _, Nat.zero_le _⟩, by decide, congrArg (fun v => Sum.inl (some (Value.int v))) ?_, rfl⟩
            exact (bI_t h10).symm
    · simp only [bI_e0, Classical.not_not] at h2
      rw [mCmd_c (sl := sl) h2]
      refine ⟨⟨Nat.le_of_ble_eq_true rfl, Nat.le_of_ble_eq_true rfl, Nat.le_of_ble_eq_true rfl⟩, by simp only [wI_1, wI_w, p1, p8, p9, p10, p12, p13, b137, b138, b139, b140, b141, b142, b143] <;> first | rfl | decide, _, T_accept (b := true) hM, ?_⟩
      rintro _ _ ⟨rfl, rfl⟩
      refine ⟨Or.inl rfl, ?_⟩
      refine ⟨⟨Nat.le_of_ble_eq_true rfl, Nat.le_of_ble_eq_true rfl, Nat.le_of_ble_eq_true rfl⟩, by simp only [wI_1, wI_w, p1, p8, p9, p10, p12, p13, b137, b138, b139, b140, b141, b142, b143] <;> first | rfl | decide, _, T_two (lo := 1) (hi := 36) hM hT (by have l1 := @mAcc_le true s; omega) (by omega) (by omega), ?_⟩
      rintro _ _ ⟨rfl, rfl⟩
      refine ⟨Or.inl rfl, ?_⟩
      refine ⟨⟨Nat.le_of_ble_eq_true rfl, Nat.le_of_ble_eq_true rfl, Nat.le_of_ble_eq_true rfl⟩, by simp only [wI_1, wI_w, p1, p8, p9, p10, p12, p13, b137, b138, b139, b140, b141, b142, b143] <;> first | rfl | decide, _, T_digit (lo := 0) (hi := 2) hM hT (by have l1 := @mAcc_le true s; have l2 := mTwo_le (n := n) (τ := τ) (lo := 1) (hi := 36) (s := mAcc true s); omega) (by omega) (by omega), ?_⟩
      rintro _ _ ⟨rfl, rfl⟩
      refine ⟨Or.inl rfl, ?_⟩
      refine ⟨fun h11 => ?_, fun h11 => ?_⟩
      · exact absurd h11 (by decide)
      · refine ⟨by simp only [wI_1, wI_w, p1, p8, p9, p10, p12, p13, b137, b138, b139, b140, b141, b142, b143] <;> first | rfl | decide, ?_⟩
        refine ⟨⟨Nat.le_of_ble_eq_true rfl, Nat.le_of_ble_eq_true rfl, Nat.le_of_ble_eq_true rfl⟩, _, by simp only [wI_M, wI_1, wI_w, wI_1, wI_w, p1, p8, p9, p10, p12, p13, setP_3, setP_4]; exact X_doCut hM, ?_⟩
        rintro _ _ ⟨rfl, rfl⟩
        refine ⟨Or.inl rfl, ?_⟩
        refine ⟨fun h12 => ?_, fun h12 => ?_⟩
        · simp only [bI_e0] at h12
          refine ⟨⟨Nat.zero_le _, Nat.zero_le _⟩, by decide, congrArg (fun v => Sum.inl (some (Value.int v))) ?_, rfl⟩
          exact (bI_f h12).symm
        · simp only [bI_e0] at h12
          refine ⟨⟨Nat.zero_le _, Nat.zero_le _⟩, by decide, congrArg (fun v => Sum.inl (some (Value.int v))) ?_, rfl⟩
          exact (bI_t h12).symm
  · simp only [bI_e0, Classical.not_not] at h1
    rw [mCmd_d (sl := sl) h1]
    refine ⟨⟨Nat.le_of_ble_eq_true rfl, Nat.le_of_ble_eq_true rfl, Nat.le_of_ble_eq_true rfl⟩, by simp only [wI_1, wI_w, p1, p8, p9, p10, p12, p13, b137, b138, b139, b140, b141, b142, b143] <;> first | rfl | decide, _, T_accept (b := true) hM, ?_⟩
    rintro _ _ ⟨rfl, rfl⟩
    refine ⟨Or.inl rfl, ?_⟩
    refine ⟨⟨Nat.le_of_ble_eq_true rfl, Nat.le_of_ble_eq_true rfl, Nat.le_of_ble_eq_true rfl⟩, by simp only [wI_1, wI_w, p1, p8, p9, p10, p12, p13, b137, b138, b139, b140, b141, b142, b143] <;> first | rfl | decide, _, T_three (lo := 1) hM hT (by have l1 := @mAcc_le true s; omega) (by omega), ?_⟩
    rintro _ _ ⟨rfl, rfl⟩
    refine ⟨Or.inl rfl, ?_⟩
    refine ⟨fun h13 => ?_, fun h13 => ?_⟩
    · exact absurd h13 (by decide)
    · refine ⟨by simp only [wI_1, wI_w, p1, p8, p9, p10, p12, p13, b137, b138, b139, b140, b141, b142, b143] <;> first | rfl | decide, ?_⟩
      refine ⟨⟨Nat.le_of_ble_eq_true rfl, Nat.le_of_ble_eq_true rfl, Nat.le_of_ble_eq_true rfl⟩, _, by simp only [wI_M, wI_1, wI_w, wI_1, wI_w, p1, p8, p9, p10, p12, p13, setP_3, setP_4]; exact X_doDrive hM (by have := mThree_v (n := n) (τ := τ) (lo := 1) (s := mAcc true s) (by omega); omega) hok, ?_⟩
      rintro _ _ ⟨rfl, rfl⟩
      refine ⟨Or.inl rfl, ?_⟩
      refine ⟨fun h14 => ?_, fun h14 => ?_⟩
      · simp only [bI_e0] at h14
        refine ⟨⟨Nat.zero_le _, Nat.zero_le _⟩, by decide, congrArg (fun v => Sum.inl (some (Value.int v))) ?_, rfl⟩
        exact (bI_f h14).symm
      · simp only [bI_e0] at h14
        refine ⟨⟨Nat.zero_le _, Nat.zero_le _⟩, by decide, congrArg (fun v => Sum.inl (some (Value.int v))) ?_, rfl⟩
        exact (bI_t h14).symm
