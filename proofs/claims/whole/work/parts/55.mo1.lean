/-! THE REFERENCE: its object: written by wip/whole/pure3.py -/
def MoS (S : Sc) : Prop := (S.2.1 137 = 7 ∧ S.2.2.2 137 1 = 138 ∧ S.2.2.2 137 8 = 139 ∧ S.2.2.2 137 9 = 140 ∧ S.2.2.2 137 10 = 141 ∧ S.2.2.2 137 12 = 142 ∧ S.2.2.2 137 13 = 143) ∧ (S.2.1 138 = 8 ∧ S.2.1 139 = 8 ∧ S.2.1 140 = 8 ∧ S.2.1 141 = 8 ∧ S.2.1 142 = 8 ∧ S.2.1 143 = 9) ∧ (S.2.2.1 138 = 90 ∧ S.2.2.1 139 = 114 ∧ S.2.2.1 140 = 114 ∧ S.2.2.1 141 = 1596 ∧ S.2.2.1 142 = 228 ∧ S.2.2.1 143 = 2)
theorem MoS.now {S : Sc} (h : MoS S) : RowS S 139 := ⟨h.2.1.2.1, h.2.2.2.1⟩
theorem MoS.trial {S : Sc} (h : MoS S) : RowS S 140 := ⟨h.2.1.2.2.1, h.2.2.2.2.1⟩
theorem l_lt (x y : Int32) : x.toInt64 < y.toInt64 ↔ x < y := by
  rw [Int64.lt_iff_toInt_lt, Int32.lt_iff_toInt_lt, Int32.toInt_toInt64, Int32.toInt_toInt64]
theorem T_in32 {d : Nat} {w : Wd} {x : Int32} (a c : Int32) {a' c' : Int64} (ha : a' = a.toInt64) (hc : c' = c.toInt64) : Wp (d + 1) 100 [.long x.toInt64, .long a', .long c'] w (fun rs w' => rs = .inl (some (.int (bI (¬ x < a ∧ ¬ c < x)))) ∧ w' = w) := by
  subst ha
  subst hc
  have h : (¬ x.toInt64 < a.toInt64 ∧ ¬ c.toInt64 < x.toInt64) ↔ (¬ x < a ∧ ¬ c < x) := by rw [l_lt, l_lt]
  have := T_in (d := d) (S := w.1) (M := w.2.1) (J := w.2.2) (v := x.toInt64) (a := a.toInt64) (b := c.toInt64)
  rw [bI_cg h] at this
  exact this
theorem x_sl {x : Int32} {n : Nat} (h1 : 1 ≤ n) (hn : n < 1000000) : ¬ nI n - 1 < x ↔ ¬ nI n ≤ x := by
  rw [o_1, pk_sub h1, Int32.lt_iff_toInt_lt, Int32.le_iff_toInt_le, nI_toInt (by omega), nI_toInt (by omega)]
  omega
set_option maxHeartbeats 1000000 in
theorem T_thrown {d : Nat} {S : Sc} {M : Nat → Nat → Int32} {J : Nat → Nat → Int64} (hM : MoS S) : Wp (d + 1) 98 [.ref 137] (S, M, J) (fun rs w' => rs = .inl (some (.int (M 137 0))) ∧ w' = (S, M, J)) := by
  obtain ⟨⟨b137, p1, p8, p9, p10, p12, p13⟩, ⟨b138, b139, b140, b141, b142, b143⟩, n138, n139, n140, n141, n142, n143⟩ := id hM
  refine ⟨rfl, ?_⟩
  refine EE.runN (stop := noStop) 80 _ ?_
  refine ⟨by simp only [wI_1, wI_w, p1, p8, p9, p10, p12, p13, b137, b138, b139, b140, b141, b142, b143] <;> first | rfl | decide, ?_⟩
  exact ⟨⟨Nat.zero_le _, Nat.zero_le _⟩, rfl, rfl⟩
set_option maxHeartbeats 1000000 in
theorem T_refused {d : Nat} {S : Sc} {M : Nat → Nat → Int32} {J : Nat → Nat → Int64} {x : Int32} (hM : MoS S) : Wp (d + 1) 99 [.ref 137, .int x] (S, M, J) (fun rs w' => rs = .inl (some (.int (bI (¬ x ≤ 0)))) ∧ w' = (S, upA M 137 (upd (M 137) 0 x), J)) := by
  obtain ⟨⟨b137, p1, p8, p9, p10, p12, p13⟩, ⟨b138, b139, b140, b141, b142, b143⟩, n138, n139, n140, n141, n142, n143⟩ := id hM
  refine ⟨rfl, ?_⟩
  refine EE.runN (stop := noStop) 80 _ ?_
  refine ⟨by simp only [wI_1, wI_w, p1, p8, p9, p10, p12, p13, b137, b138, b139, b140, b141, b142, b143] <;> first | rfl | decide, trivial, ?_⟩
  refine ⟨fun h1 => ?_, fun h1 => ?_⟩
  · refine ⟨⟨Nat.zero_le _, Nat.zero_le _⟩, by decide, ?_, ?_⟩
    · simp [-Int32.not_le, -Int32.not_lt, bI, h1]
    · rfl
  · refine ⟨⟨Nat.zero_le _, Nat.zero_le _⟩, by decide, ?_, ?_⟩
    · simp [-Int32.not_le, -Int32.not_lt, bI, h1]
    · rfl
set_option maxHeartbeats 1000000 in
theorem T_mC {d : Nat} {w : Wd} {x y : Int32} : Wp (d + 2) 147 [.int x, .int y] w (fun rs w' => rs = .inl (some (.int (bI (¬ x < 1 ∧ ¬ 36 < x ∧ ¬ y < 0 ∧ ¬ 2 < y)))) ∧ w' = w) := by
  refine ⟨rfl, ?_⟩
  refine EE.runN (stop := noStop) 80 _ ?_
  refine ⟨⟨Nat.le_of_ble_eq_true rfl, Nat.le_of_ble_eq_true rfl, Nat.le_of_ble_eq_true rfl⟩, _, T_in32 1 36 rfl rfl, ?_⟩
  rintro _ _ ⟨rfl, rfl⟩
  refine ⟨Or.inl rfl, ?_⟩
  refine ⟨fun h1 => ?_, fun h1 => ?_⟩
  · simp only [bI_e0, Classical.not_not] at h1
    refine ⟨⟨Nat.zero_le _, Nat.zero_le _⟩, by decide, congrArg (fun v => Sum.inl (some (Value.int v))) ?_, rfl⟩
    exact (bI_f (fun h => h1 ⟨h.1, h.2.1⟩)).symm
  · refine ⟨⟨Nat.le_of_ble_eq_true rfl, Nat.le_of_ble_eq_true rfl, Nat.le_of_ble_eq_true rfl⟩, _, T_in32 0 2 rfl rfl, ?_⟩
    rintro _ _ ⟨rfl, rfl⟩
    refine ⟨Or.inl rfl, ?_⟩
    refine ⟨fun h2 => ?_, fun h2 => ?_⟩
    · simp only [bI_e0, Classical.not_not] at h1 h2
      refine ⟨⟨Nat.zero_le _, Nat.zero_le _⟩, by decide, congrArg (fun v => Sum.inl (some (Value.int v))) ?_, rfl⟩
      exact (bI_f (fun h => h2 ⟨h.2.2.1, h.2.2.2⟩)).symm
    · simp only [bI_e0, Classical.not_not] at h1 h2
      refine ⟨⟨Nat.zero_le _, Nat.zero_le _⟩, by decide, congrArg (fun v => Sum.inl (some (Value.int v))) ?_, rfl⟩
      exact (bI_t ⟨h1.1, h1.2, h2.1, h2.2⟩).symm
set_option maxHeartbeats 1000000 in
theorem T_mV {d : Nat} {w : Wd} {x y : Int32} : Wp (d + 2) 150 [.int x, .int y] w (fun rs w' => rs = .inl (some (.int (bI (¬ x < 0 ∧ ¬ 9 < x ∧ ¬ y < 0 ∧ ¬ 9 < y)))) ∧ w' = w) := by
  refine ⟨rfl, ?_⟩
  refine EE.runN (stop := noStop) 80 _ ?_
  refine ⟨⟨Nat.le_of_ble_eq_true rfl, Nat.le_of_ble_eq_true rfl, Nat.le_of_ble_eq_true rfl⟩, _, T_in32 0 9 rfl rfl, ?_⟩
  rintro _ _ ⟨rfl, rfl⟩
  refine ⟨Or.inl rfl, ?_⟩
  refine ⟨fun h1 => ?_, fun h1 => ?_⟩
  · simp only [bI_e0, Classical.not_not] at h1
    refine ⟨⟨Nat.zero_le _, Nat.zero_le _⟩, by decide, congrArg (fun v => Sum.inl (some (Value.int v))) ?_, rfl⟩
    exact (bI_f (fun h => h1 ⟨h.1, h.2.1⟩)).symm
  · refine ⟨⟨Nat.le_of_ble_eq_true rfl, Nat.le_of_ble_eq_true rfl, Nat.le_of_ble_eq_true rfl⟩, _, T_in32 0 9 rfl rfl, ?_⟩
    rintro _ _ ⟨rfl, rfl⟩
    refine ⟨Or.inl rfl, ?_⟩
    refine ⟨fun h2 => ?_, fun h2 => ?_⟩
    · simp only [bI_e0, Classical.not_not] at h1 h2
      refine ⟨⟨Nat.zero_le _, Nat.zero_le _⟩, by decide, congrArg (fun v => Sum.inl (some (Value.int v))) ?_, rfl⟩
      exact (bI_f (fun h => h2 ⟨h.2.2.1, h.2.2.2⟩)).symm
    · simp only [bI_e0, Classical.not_not] at h1 h2
      refine ⟨⟨Nat.zero_le _, Nat.zero_le _⟩, by decide, congrArg (fun v => Sum.inl (some (Value.int v))) ?_, rfl⟩
      exact (bI_t ⟨h1.1, h1.2, h2.1, h2.2⟩).symm
set_option maxHeartbeats 1000000 in
theorem T_mP {d : Nat} {w : Wd} {x : Int32} : Wp (d + 2) 153 [.int x] w (fun rs w' => rs = .inl (some (.int (bI (¬ x < 1 ∧ ¬ 99 < x)))) ∧ w' = w) := by
  refine ⟨rfl, ?_⟩
  refine EE.runN (stop := noStop) 80 _ ?_
  refine ⟨⟨Nat.le_of_ble_eq_true rfl, Nat.le_of_ble_eq_true rfl, Nat.le_of_ble_eq_true rfl⟩, _, T_in32 1 99 rfl rfl, ?_⟩
  rintro _ _ ⟨rfl, rfl⟩
  refine ⟨Or.inl rfl, ?_⟩
  exact ⟨⟨Nat.zero_le _, Nat.zero_le _⟩, bI_01 _, rfl, rfl⟩
set_option maxHeartbeats 1000000 in
theorem T_isSlot {d : Nat} {S : Sc} {M : Nat → Nat → Int32} {J : Nat → Nat → Int64} {x : Int32} {n : Nat} (hM : MoS S) (h0 : M 139 0 = nI n) (h1 : 1 ≤ n) (hn : n ≤ 12) : Wp (d + 2) 139 [.ref 137, .int x] (S, M, J) (fun rs w' => rs = .inl (some (.int (bI (¬ x < 0 ∧ ¬ nI n ≤ x)))) ∧ w' = (S, M, J)) := by
  obtain ⟨⟨b137, p1, p8, p9, p10, p12, p13⟩, ⟨b138, b139, b140, b141, b142, b143⟩, n138, n139, n140, n141, n142, n143⟩ := id hM
  refine ⟨rfl, ?_⟩
  refine EE.runN (stop := noStop) 80 _ ?_
  refine ⟨by simp only [wI_1, wI_w, p1, p8, p9, p10, p12, p13, b137, b138, b139, b140, b141, b142, b143] <;> first | rfl | decide, ?_⟩
  refine ⟨by simp only [wI_1, wI_w, p1, p8, p9, p10, p12, p13, b137, b138, b139, b140, b141, b142, b143] <;> first | rfl | decide, (by simp only [wI_1, wI_w, p1, p8, p9, p10, p12, p13, n138, n139, n140, n141, n142, n143]; exact vp_in_nI (show 0 < 114 by omega) (by omega)), ?_⟩
  refine ⟨⟨Nat.le_of_ble_eq_true rfl, Nat.le_of_ble_eq_true rfl, Nat.le_of_ble_eq_true rfl⟩, _, by simp only [wI_1, wI_w, p1, p8, p9, p10, p12, p13, tk_0, h0]; exact T_in32 0 (nI n - 1) rfl rfl, ?_⟩
  rintro _ _ ⟨rfl, rfl⟩
  refine ⟨Or.inl rfl, ?_⟩
  exact ⟨⟨Nat.zero_le _, Nat.zero_le _⟩, bI_01 _, congrArg (fun v => Sum.inl (some (Value.int v))) (bI_cg (and_congr_right (fun _ => x_sl h1 (by omega)))), rfl⟩
/-- the trial begins -/
def mBegin (M : Nat → Nat → Int32) : Nat → Nat → Int32 := upA M 140 (va_cpy (M 139) (M 140) 0 0 114)
def mDown (M : Nat → Nat → Int32) : Nat → Nat → Int32 := upA (upA M 141 (va_cpy (M 141) (M 141) 114 0 1482)) 137 (upd (M 137) 11 (M 137 11 - 1))
def mPush (M : Nat → Nat → Int32) (a : Nat) : Nat → Nat → Int32 := upA (upA M 141 (va_cpy (M 139) (M 141) 0 (114 * a) 114)) 137 (upd (M 137) 11 (nI (a + 1)))
def mNote (M : Nat → Nat → Int32) (a : Nat) : Nat → Nat → Int32 := if a = 14 then mPush (mDown M) 13 else mPush M a
set_option maxHeartbeats 1000000 in
theorem T_begin {d : Nat} {S : Sc} {M : Nat → Nat → Int32} {J : Nat → Nat → Int64} (hM : MoS S) : Wp (d + 2) 105 [.ref 137] (S, M, J) (fun rs w' => rs = .inl none ∧ w' = (S, mBegin M, J)) := by
  obtain ⟨⟨b137, p1, p8, p9, p10, p12, p13⟩, ⟨b138, b139, b140, b141, b142, b143⟩, n138, n139, n140, n141, n142, n143⟩ := id hM
  refine ⟨rfl, ?_⟩
  refine EE.runN (stop := noStop) 80 _ ?_
  refine ⟨by simp only [wI_1, wI_w, p1, p8, p9, p10, p12, p13, b137, b138, b139, b140, b141, b142, b143] <;> first | rfl | decide, ?_⟩
  refine ⟨by simp only [wI_1, wI_w, p1, p8, p9, p10, p12, p13, b137, b138, b139, b140, b141, b142, b143] <;> first | rfl | decide, ?_⟩
  refine ⟨⟨Nat.le_of_ble_eq_true rfl, Nat.le_of_ble_eq_true rfl, Nat.le_of_ble_eq_true rfl⟩, _, by simp only [wI_1, wI_w, p1, p8, p9, p10, p12, p13]; exact T_copy (fa := 0) (ta := 0) (n := 114) b139 b140 (by omega) (by omega) (by omega) (by omega) (Or.inr (by omega)), ?_⟩
  rintro _ _ ⟨rfl, rfl⟩
  refine ⟨Or.inl rfl, ?_⟩
  exact ⟨⟨Nat.zero_le _, Nat.zero_le _⟩, rfl, rfl⟩
set_option maxHeartbeats 1000000 in
theorem L_note {d : Nat} {Q : Res → Wd → Prop} {S : Sc} {M : Nat → Nat → Int32} {J : Nat → Nat → Int64} {a : Nat} (hM : MoS S) (ha : a < 14) (h11 : M 137 11 = nI a) (hQ : Q (.inl none) (S, mPush M a, J)) : EE (SJ (d + 2) 104 (Wp (d + 1)) Q) (36, [(0, .ref 137)], [], (S, M, J), 0, 0) := by
  obtain ⟨⟨b137, p1, p8, p9, p10, p12, p13⟩, ⟨b138, b139, b140, b141, b142, b143⟩, n138, n139, n140, n141, n142, n143⟩ := id hM
  have e1 : (114 : Int32) * nI a = nI (114 * a) := by rw [o_114, pk_mul]
  refine EE.runN (stop := noStop) 80 _ ?_
  refine ⟨by simp only [wI_1, wI_w, p1, p8, p9, p10, p12, p13, b137, b138, b139, b140, b141, b142, b143] <;> first | rfl | decide, ?_⟩
  refine ⟨by simp only [wI_1, wI_w, p1, p8, p9, p10, p12, p13, b137, b138, b139, b140, b141, b142, b143] <;> first | rfl | decide, ?_⟩
  refine ⟨by simp only [wI_1, wI_w, p1, p8, p9, p10, p12, p13, b137, b138, b139, b140, b141, b142, b143] <;> first | rfl | decide, ?_⟩
  refine ⟨⟨Nat.le_of_ble_eq_true rfl, Nat.le_of_ble_eq_true rfl, Nat.le_of_ble_eq_true rfl⟩, _, by simp only [wI_1, wI_w, p1, p8, p9, p10, p12, p13, h11, e1]; exact T_copy (fa := 0) (ta := 114 * a) (n := 114) b139 b141 (by omega) (by omega) (by omega) (by omega) (Or.inl (by omega)), ?_⟩
  rintro _ _ ⟨rfl, rfl⟩
  refine ⟨Or.inl rfl, ?_⟩
  refine ⟨by simp only [wI_1, wI_w, p1, p8, p9, p10, p12, p13, b137, b138, b139, b140, b141, b142, b143] <;> first | rfl | decide, ?_⟩
  refine ⟨by simp only [wI_1, wI_w, p1, p8, p9, p10, p12, p13, b137, b138, b139, b140, b141, b142, b143] <;> first | rfl | decide, trivial, ?_⟩
  refine ⟨⟨Nat.zero_le _, Nat.zero_le _⟩, ?_⟩
  show Q (.inl none) (S, _, J)
  simp only [wI_M]
  rw [upA_n _ _ (show 137 ≠ 141 by omega), h11, nI_1]
  exact hQ
set_option maxHeartbeats 1000000 in
theorem T_note {d : Nat} {S : Sc} {M : Nat → Nat → Int32} {J : Nat → Nat → Int64} {a : Nat} (hM : MoS S) (ha : a ≤ 14) (h11 : M 137 11 = nI a) : Wp (d + 2) 104 [.ref 137] (S, M, J) (fun rs w' => rs = .inl none ∧ w' = (S, mNote M a, J)) := by
  obtain ⟨⟨b137, p1, p8, p9, p10, p12, p13⟩, ⟨b138, b139, b140, b141, b142, b143⟩, n138, n139, n140, n141, n142, n143⟩ := id hM
  refine ⟨rfl, ?_⟩
  refine EE.runN (stop := atPc [36]) 80 _ ?_
  refine ⟨by simp only [wI_1, wI_w, p1, p8, p9, p10, p12, p13, b137, b138, b139, b140, b141, b142, b143] <;> first | rfl | decide, ?_⟩
  refine ⟨fun h1 => ?_, fun h1 => ?_⟩
  · have g : ¬ a = 14 := by
      have this : ¬ M 137 11 = 14 := h1
      rw [h11] at this
      exact fun e => this (e ▸ rfl)
    have e : mNote M a = mPush M a := if_neg g
    rw [e]
    refine ee_w (S, M, J) rfl (L_note hM (by omega) h11 ⟨rfl, rfl⟩)
  · refine ⟨by simp only [wI_1, wI_w, p1, p8, p9, p10, p12, p13, b137, b138, b139, b140, b141, b142, b143] <;> first | rfl | decide, ?_⟩
    refine ⟨by simp only [wI_1, wI_w, p1, p8, p9, p10, p12, p13, b137, b138, b139, b140, b141, b142, b143] <;> first | rfl | decide, ?_⟩
    refine ⟨⟨Nat.le_of_ble_eq_true rfl, Nat.le_of_ble_eq_true rfl, Nat.le_of_ble_eq_true rfl⟩, _, by simp only [wI_1, wI_w, p1, p8, p9, p10, p12, p13]; exact T_copy (fa := 114) (ta := 0) (n := 1482) b141 b141 (by omega) (by omega) (by omega) (by omega) (Or.inr (by omega)), ?_⟩
    rintro _ _ ⟨rfl, rfl⟩
    refine ⟨Or.inl rfl, ?_⟩
    refine ⟨by simp only [wI_1, wI_w, p1, p8, p9, p10, p12, p13, b137, b138, b139, b140, b141, b142, b143] <;> first | rfl | decide, ?_⟩
    refine ⟨by simp only [wI_1, wI_w, p1, p8, p9, p10, p12, p13, b137, b138, b139, b140, b141, b142, b143] <;> first | rfl | decide, trivial, ?_⟩
    have g : a = 14 := by
      have this : M 137 11 = 14 := h1
      rw [h11] at this
      exact (nI_eq (b := 14) (by omega) (by omega)).mp this
    subst g
    have e : mNote M 14 = mPush (mDown M) 13 := if_pos rfl
    rw [e]
    refine ee_w (S, mDown M, J) ?_ (L_note (a := 13) hM (by omega) ?_ ⟨rfl, rfl⟩)
    · show (S, _, J) = (S, _, J)
      simp only [wI_M]
      rw [upA_n _ _ (show 137 ≠ 141 by omega)]
      rfl
    · unfold mDown
      rw [upA_s, pk_us, h11]
      rfl
