/-! THE REFERENCE: deeds: written by wip/whole/pure3.py -/
theorem nt_o {M : Nat → Nat → Int32} {a c : Nat} (h1 : c ≠ 137) (h2 : c ≠ 141) : mNote M a c = M c := by
  unfold mNote
  split
  · unfold mPush mDown
    rw [upA_n _ _ h1, upA_n _ _ h2, upA_n _ _ h1, upA_n _ _ h2]
  · unfold mPush
    rw [upA_n _ _ h1, upA_n _ _ h2]
theorem nt_139 {M : Nat → Nat → Int32} {a : Nat} {v : Int32} : mNote (setQ M 0 v) a 139 = M 139 := (nt_o (by omega) (by omega)).trans (setQ_o (by omega))
def aDrive (ρ : Rw) (x : Int32) : Nat × Int32 := if ¬ x < 1 ∧ ¬ 999 < x then (if ρ 3 = 0 then (2, 0) else (0, nI (rGone x.toNatClampNeg ρ))) else (1, 0)
def aCut (ρ : Rw) (x y : Int32) : Nat × Int32 := if ¬ x < 1 ∧ ¬ 36 < x ∧ ¬ y < 0 ∧ ¬ 2 < y then (if ρ 3 = 0 then (2, 0) else (0, ρ 10)) else (1, 0)
def aStart (ρ : Rw) : Nat × Int32 := if ρ 3 = 1 then (1, 0) else (0, rPower ρ 4)
def aService (ρ : Rw) (m : Nat) (x y : Int32) : Nat × Int32 := if ¬ x < 0 ∧ ¬ 9 < x ∧ ¬ y < 0 ∧ ¬ 9 < y then (if ρ 3 = 1 ∧ (ρ 17 < 12 ∨ ¬ rFnd ρ (10 * x + y) m = -99999) then (0, rServed ρ (10 * x + y) m) else (2, 0)) else (1, 0)
def aForget (ρ : Rw) (m : Nat) (x y : Int32) : Nat × Int32 := if ¬ x < 0 ∧ ¬ 9 < x ∧ ¬ y < 0 ∧ ¬ 9 < y then (if rFnd ρ (10 * x + y) m = -99999 then (2, 0) else (0, ρ (19 + 2 * (rFnd ρ (10 * x + y) m).toNatClampNeg))) else (1, 0)
def aStep (ρ : Rw) (x : Int32) : Nat × Int32 := if ¬ x < 1 ∧ ¬ 99 < x then (0, ρ 1) else (1, 0)
def aRepl (ρ : Rw) (n : Nat) (x : Int32) : Nat × Int32 := if ¬ x < 0 ∧ ¬ nI n ≤ x then (if ρ 3 = 1 ∧ ¬ x = ρ 7 then (0, rWear ρ x.toNatClampNeg) else (2, 0)) else (1, 0)
def aUndo (a : Nat) : Nat × Int32 := if nI a = 0 then (1, 0) else (0, nI (a - 1))
def aSave (ρ : Rw) (x : Int32) : Nat × Int32 := if ¬ x < 0 ∧ ¬ 1 < x then (0, ρ 5) else (1, 0)
def aRest (κ β : Rw) (x : Int32) : Nat × Int32 := if ¬ x < 0 ∧ ¬ 1 < x then (if β x.toNatClampNeg = 0 then (2, 0) else (0, κ (114 * x.toNatClampNeg + 5))) else (1, 0)
def aApp (n : Nat) (x : Int32) : Nat × Int32 := if ¬ x < 0 ∧ ¬ 255 < x then (if nI n = 90 then (2, 0) else (0, nI (n + 1))) else (1, 0)
theorem in_nat1 {x m : Int32} {k : Nat} (e : m = nI k) (hk : k < 1000000) (h : ¬ x < 1 ∧ ¬ m < x) : ∃ q, 1 ≤ q ∧ q ≤ k ∧ x = nI q := by
  obtain ⟨q, h1, h2⟩ := in_nat e hk ⟨fun h_ => h.1 (Int32.lt_trans h_ (by decide)), h.2⟩
  refine ⟨q, ?_, h1, h2⟩
  have := h.1
  rw [h2, o_1, nI_ltI (by omega) (by omega)] at this
  omega
theorem va_cpy_5 {α : Type} {f t : Nat → α} {a : Nat} : va_cpy f t a 0 114 5 = f (a + 5) := by
  unfold va_cpy
  rw [if_pos (by omega)]
set_option maxHeartbeats 1000000 in
theorem R_drive {d : Nat} {S : Sc} {M : Nat → Nat → Int32} {J : Nat → Nat → Int64} {a : Nat} (hM : MoS S) (ha : a ≤ 14) (h11 : M 137 11 = nI a) {x : Int32} (hok : Rok (M 139)) : Wp (d + 6) 146 [.ref 137, .int x] (S, M, J) (fun rs w' => ∃ v M', rs = .inl (some (.int v)) ∧ w' = (S, M', J) ∧ (¬ (aDrive (M 139) x).1 = 0 → M' = setQ M 0 (nI (aDrive (M 139) x).1)) ∧ ((aDrive (M 139) x).1 = 0 → v = (aDrive (M 139) x).2 ∧ M' = upA (mNote (setQ M 0 0) a) 139 (rGo x.toNatClampNeg (M 139)))) := by
  obtain ⟨⟨b137, p1, p8, p9, p10, p12, p13⟩, ⟨b138, b139, b140, b141, b142, b143⟩, n138, n139, n140, n141, n142, n143⟩ := id hM
  obtain ⟨N, hN⟩ : ∃ N, N = mNote (setQ M 0 0) a := ⟨_, rfl⟩
  have hN1 : N 139 = M 139 := by rw [hN, nt_139]
  refine ⟨rfl, ?_⟩
  refine EE.runN (stop := noStop) 80 _ ?_
  refine ⟨⟨Nat.le_of_ble_eq_true rfl, Nat.le_of_ble_eq_true rfl, Nat.le_of_ble_eq_true rfl⟩, _, T_in32 (1) (999) rfl rfl, ?_⟩
  rintro _ _ ⟨rfl, rfl⟩
  refine ⟨Or.inl rfl, ?_⟩
  refine ⟨fun h1 => ?_, fun h1 => ?_⟩
  · refine ⟨by simp only [wI_1, wI_w, p1, p8, p9, p10, p12, p13, b137, b138, b139, b140, b141, b142, b143] <;> first | rfl | decide, ?_⟩
    refine ⟨by simp only [wI_1, wI_w, p1, p8, p9, p10, p12, p13, b137, b138, b139, b140, b141, b142, b143] <;> first | rfl | decide, (by simp only [wI_1, wI_w, p1, p8, p9, p10, p12, p13, n138, n139, n140, n141, n142, n143]; exact vp_in_nI (show 3 < 114 by omega) (by omega)), ?_⟩
    refine ⟨fun h2 => ?_, fun h2 => ?_⟩
    · refine ⟨⟨Nat.le_of_ble_eq_true rfl, Nat.le_of_ble_eq_true rfl, Nat.le_of_ble_eq_true rfl⟩, by simp only [wI_1, wI_w, p1, p8, p9, p10, p12, p13, b137, b138, b139, b140, b141, b142, b143] <;> first | rfl | decide, _, T_refused (x := 0) hM, ?_⟩
      rintro _ w1 ⟨rfl, hw⟩
      have hw : w1 = (S, setQ M 0 0, J) := hw
      subst hw
      refine ⟨Or.inl rfl, ?_⟩
      refine ⟨fun h3 => ?_, fun h3 => ?_⟩
      · have g_ := h1
        simp only [wI_M, wI_1, wI_w, wI_1, wI_w, p1, p8, p9, p10, p12, p13, q139, q140, q138, q141, q142, q143, bI_e0, Classical.not_not, tk_0, tk_1, tk_2, tk_3, tk_4, tk_5, tk_6, tk_7, tk_8, tk_9, tk_10, tk_11, tk_12, tk_13, tk_14, tk_15, tk_16, tk_17] at g_
        obtain ⟨q, hq1, hq, rfl⟩ := in_nat1 (k := 999) rfl (by omega) g_
        refine ⟨⟨Nat.le_of_ble_eq_true rfl, Nat.le_of_ble_eq_true rfl, Nat.le_of_ble_eq_true rfl⟩, by simp only [wI_1, wI_w, p1, p8, p9, p10, p12, p13, b137, b138, b139, b140, b141, b142, b143] <;> first | rfl | decide, _, T_note (a := a) hM ha h11, ?_⟩
        rintro _ w1 ⟨rfl, hw⟩
        have hw : w1 = (S, N, J) := by rw [hN]; exact hw
        subst hw
        refine ⟨Or.inl rfl, ?_⟩
        refine ⟨by simp only [wI_1, wI_w, p1, p8, p9, p10, p12, p13, b137, b138, b139, b140, b141, b142, b143] <;> first | rfl | decide, ?_⟩
        refine ⟨⟨Nat.le_of_ble_eq_true rfl, Nat.le_of_ble_eq_true rfl, Nat.le_of_ble_eq_true rfl⟩, _, by simp only [wI_1, wI_w, p1, p8, p9, p10, p12, p13]; exact T_go (t := q) hM.now (by omega) (by rw [hN1]; exact hok), ?_⟩
        rintro _ _ ⟨rfl, rfl⟩
        refine ⟨Or.inl rfl, ?_⟩
        (try simp only [wI_M, wI_1, wI_w, wI_1, wI_w, p1, p8, p9, p10, p12, p13, q139, q140, q138, q141, q142, q143, bI_e0, Classical.not_not, tk_0, tk_1, tk_2, tk_3, tk_4, tk_5, tk_6, tk_7, tk_8, tk_9, tk_10, tk_11, tk_12, tk_13, tk_14, tk_15, tk_16, tk_17] at h1)
        (try simp only [wI_M, wI_1, wI_w, wI_1, wI_w, p1, p8, p9, p10, p12, p13, q139, q140, q138, q141, q142, q143, bI_e0, Classical.not_not, tk_0, tk_1, tk_2, tk_3, tk_4, tk_5, tk_6, tk_7, tk_8, tk_9, tk_10, tk_11, tk_12, tk_13, tk_14, tk_15, tk_16, tk_17] at h2)
        refine ⟨⟨Nat.zero_le _, Nat.zero_le _⟩, _, _, rfl, rfl, ?_, ?_⟩
        · unfold aDrive; rw [if_pos h1, if_neg h2]; intro h_; exact absurd rfl h_
        · unfold aDrive; rw [if_pos h1, if_neg h2]; intro _; refine ⟨?_, ?_⟩
          · rw [hN1]; dsimp only; rw [ck (show q < 2147483648 by omega)]
          · rw [hN1, ck (show q < 2147483648 by omega), hN]
      · exact absurd h3 (by decide)
    · refine ⟨⟨Nat.le_of_ble_eq_true rfl, Nat.le_of_ble_eq_true rfl, Nat.le_of_ble_eq_true rfl⟩, by simp only [wI_1, wI_w, p1, p8, p9, p10, p12, p13, b137, b138, b139, b140, b141, b142, b143] <;> first | rfl | decide, _, T_refused (x := 2) hM, ?_⟩
      rintro _ w1 ⟨rfl, hw⟩
      have hw : w1 = (S, setQ M 0 2, J) := hw
      subst hw
      refine ⟨Or.inl rfl, ?_⟩
      refine ⟨fun h4 => ?_, fun h4 => ?_⟩
      · exact absurd h4 (by decide)
      · (try simp only [wI_M, wI_1, wI_w, wI_1, wI_w, p1, p8, p9, p10, p12, p13, q139, q140, q138, q141, q142, q143, bI_e0, Classical.not_not, tk_0, tk_1, tk_2, tk_3, tk_4, tk_5, tk_6, tk_7, tk_8, tk_9, tk_10, tk_11, tk_12, tk_13, tk_14, tk_15, tk_16, tk_17] at h1)
        (try simp only [wI_M, wI_1, wI_w, wI_1, wI_w, p1, p8, p9, p10, p12, p13, q139, q140, q138, q141, q142, q143, bI_e0, Classical.not_not, tk_0, tk_1, tk_2, tk_3, tk_4, tk_5, tk_6, tk_7, tk_8, tk_9, tk_10, tk_11, tk_12, tk_13, tk_14, tk_15, tk_16, tk_17] at h2)
        refine ⟨⟨Nat.zero_le _, Nat.zero_le _⟩, _, _, rfl, rfl, ?_, ?_⟩
        · unfold aDrive; rw [if_pos h1, if_pos h2]; intro _; rfl
        · unfold aDrive; rw [if_pos h1, if_pos h2]; intro h_; exact absurd h_ (by decide)
  · refine ⟨⟨Nat.le_of_ble_eq_true rfl, Nat.le_of_ble_eq_true rfl, Nat.le_of_ble_eq_true rfl⟩, by simp only [wI_1, wI_w, p1, p8, p9, p10, p12, p13, b137, b138, b139, b140, b141, b142, b143] <;> first | rfl | decide, _, T_refused (x := 1) hM, ?_⟩
    rintro _ w1 ⟨rfl, hw⟩
    have hw : w1 = (S, setQ M 0 1, J) := hw
    subst hw
    refine ⟨Or.inl rfl, ?_⟩
    refine ⟨fun h5 => ?_, fun h5 => ?_⟩
    · exact absurd h5 (by decide)
    · (try simp only [wI_M, wI_1, wI_w, wI_1, wI_w, p1, p8, p9, p10, p12, p13, q139, q140, q138, q141, q142, q143, bI_e0, Classical.not_not, tk_0, tk_1, tk_2, tk_3, tk_4, tk_5, tk_6, tk_7, tk_8, tk_9, tk_10, tk_11, tk_12, tk_13, tk_14, tk_15, tk_16, tk_17] at h1)
      refine ⟨⟨Nat.zero_le _, Nat.zero_le _⟩, _, _, rfl, rfl, ?_, ?_⟩
      · unfold aDrive; rw [if_neg h1]; intro _; rfl
      · unfold aDrive; rw [if_neg h1]; intro h_; exact absurd h_ (by decide)
set_option maxHeartbeats 1000000 in
theorem R_cut {d : Nat} {S : Sc} {M : Nat → Nat → Int32} {J : Nat → Nat → Int64} {a : Nat} (hM : MoS S) (ha : a ≤ 14) (h11 : M 137 11 = nI a) {x y : Int32} : Wp (d + 3) 148 [.ref 137, .int x, .int y] (S, M, J) (fun rs w' => ∃ v M', rs = .inl (some (.int v)) ∧ w' = (S, M', J) ∧ (¬ (aCut (M 139) x y).1 = 0 → M' = setQ M 0 (nI (aCut (M 139) x y).1)) ∧ ((aCut (M 139) x y).1 = 0 → v = (aCut (M 139) x y).2 ∧ M' = upA (mNote (setQ M 0 0) a) 139 (upd (upd (M 139) 10 x) 11 y))) := by
  obtain ⟨⟨b137, p1, p8, p9, p10, p12, p13⟩, ⟨b138, b139, b140, b141, b142, b143⟩, n138, n139, n140, n141, n142, n143⟩ := id hM
  obtain ⟨N, hN⟩ : ∃ N, N = mNote (setQ M 0 0) a := ⟨_, rfl⟩
  have hN1 : N 139 = M 139 := by rw [hN, nt_139]
  refine ⟨rfl, ?_⟩
  refine EE.runN (stop := noStop) 80 _ ?_
  refine ⟨⟨Nat.le_of_ble_eq_true rfl, Nat.le_of_ble_eq_true rfl, Nat.le_of_ble_eq_true rfl⟩, _, T_mC, ?_⟩
  rintro _ _ ⟨rfl, rfl⟩
  refine ⟨Or.inl rfl, ?_⟩
  refine ⟨fun h1 => ?_, fun h1 => ?_⟩
  · refine ⟨by simp only [wI_1, wI_w, p1, p8, p9, p10, p12, p13, b137, b138, b139, b140, b141, b142, b143] <;> first | rfl | decide, ?_⟩
    refine ⟨by simp only [wI_1, wI_w, p1, p8, p9, p10, p12, p13, b137, b138, b139, b140, b141, b142, b143] <;> first | rfl | decide, (by simp only [wI_1, wI_w, p1, p8, p9, p10, p12, p13, n138, n139, n140, n141, n142, n143]; exact vp_in_nI (show 3 < 114 by omega) (by omega)), ?_⟩
    refine ⟨fun h2 => ?_, fun h2 => ?_⟩
    · refine ⟨⟨Nat.le_of_ble_eq_true rfl, Nat.le_of_ble_eq_true rfl, Nat.le_of_ble_eq_true rfl⟩, by simp only [wI_1, wI_w, p1, p8, p9, p10, p12, p13, b137, b138, b139, b140, b141, b142, b143] <;> first | rfl | decide, _, T_refused (x := 0) hM, ?_⟩
      rintro _ w1 ⟨rfl, hw⟩
      have hw : w1 = (S, setQ M 0 0, J) := hw
      subst hw
      refine ⟨Or.inl rfl, ?_⟩
      refine ⟨fun h3 => ?_, fun h3 => ?_⟩
      · refine ⟨⟨Nat.le_of_ble_eq_true rfl, Nat.le_of_ble_eq_true rfl, Nat.le_of_ble_eq_true rfl⟩, by simp only [wI_1, wI_w, p1, p8, p9, p10, p12, p13, b137, b138, b139, b140, b141, b142, b143] <;> first | rfl | decide, _, T_note (a := a) hM ha h11, ?_⟩
        rintro _ w1 ⟨rfl, hw⟩
        have hw : w1 = (S, N, J) := by rw [hN]; exact hw
        subst hw
        refine ⟨Or.inl rfl, ?_⟩
        refine ⟨by simp only [wI_1, wI_w, p1, p8, p9, p10, p12, p13, b137, b138, b139, b140, b141, b142, b143] <;> first | rfl | decide, ?_⟩
        refine ⟨by simp only [wI_1, wI_w, p1, p8, p9, p10, p12, p13, b137, b138, b139, b140, b141, b142, b143] <;> first | rfl | decide, (by simp only [wI_1, wI_w, p1, p8, p9, p10, p12, p13, n138, n139, n140, n141, n142, n143]; exact vp_in_nI (show 10 < 114 by omega) (by omega)), ?_⟩
        refine ⟨by simp only [wI_1, wI_w, p1, p8, p9, p10, p12, p13, b137, b138, b139, b140, b141, b142, b143] <;> first | rfl | decide, ?_⟩
        refine ⟨⟨Nat.le_of_ble_eq_true rfl, Nat.le_of_ble_eq_true rfl, Nat.le_of_ble_eq_true rfl⟩, _, by simp only [wI_1, wI_w, p1, p8, p9, p10, p12, p13]; exact T_doCut hM.now, ?_⟩
        rintro _ _ ⟨rfl, rfl⟩
        refine ⟨Or.inl rfl, ?_⟩
        (try simp only [wI_M, wI_1, wI_w, wI_1, wI_w, p1, p8, p9, p10, p12, p13, q139, q140, q138, q141, q142, q143, bI_e0, Classical.not_not, tk_0, tk_1, tk_2, tk_3, tk_4, tk_5, tk_6, tk_7, tk_8, tk_9, tk_10, tk_11, tk_12, tk_13, tk_14, tk_15, tk_16, tk_17] at h1)
        (try simp only [wI_M, wI_1, wI_w, wI_1, wI_w, p1, p8, p9, p10, p12, p13, q139, q140, q138, q141, q142, q143, bI_e0, Classical.not_not, tk_0, tk_1, tk_2, tk_3, tk_4, tk_5, tk_6, tk_7, tk_8, tk_9, tk_10, tk_11, tk_12, tk_13, tk_14, tk_15, tk_16, tk_17] at h2)
        refine ⟨⟨Nat.zero_le _, Nat.zero_le _⟩, _, _, rfl, rfl, ?_, ?_⟩
        · unfold aCut; rw [if_pos h1, if_neg h2]; intro h_; exact absurd rfl h_
        · unfold aCut; rw [if_pos h1, if_neg h2]; intro _; refine ⟨?_, ?_⟩
          · simp only [hN1, wI_M, wI_1, wI_w, wI_1, wI_w, p1, p8, p9, p10, p12, p13, q139, q140, q138, q141, q142, q143, bI_e0, Classical.not_not, tk_0, tk_1, tk_2, tk_3, tk_4, tk_5, tk_6, tk_7, tk_8, tk_9, tk_10, tk_11, tk_12, tk_13, tk_14, tk_15, tk_16, tk_17]
          · unfold rDoCut; rw [hN1, if_neg h2, hN]
      · exact absurd h3 (by decide)
    · refine ⟨⟨Nat.le_of_ble_eq_true rfl, Nat.le_of_ble_eq_true rfl, Nat.le_of_ble_eq_true rfl⟩, by simp only [wI_1, wI_w, p1, p8, p9, p10, p12, p13, b137, b138, b139, b140, b141, b142, b143] <;> first | rfl | decide, _, T_refused (x := 2) hM, ?_⟩
      rintro _ w1 ⟨rfl, hw⟩
      have hw : w1 = (S, setQ M 0 2, J) := hw
      subst hw
      refine ⟨Or.inl rfl, ?_⟩
      refine ⟨fun h4 => ?_, fun h4 => ?_⟩
      · exact absurd h4 (by decide)
      · (try simp only [wI_M, wI_1, wI_w, wI_1, wI_w, p1, p8, p9, p10, p12, p13, q139, q140, q138, q141, q142, q143, bI_e0, Classical.not_not, tk_0, tk_1, tk_2, tk_3, tk_4, tk_5, tk_6, tk_7, tk_8, tk_9, tk_10, tk_11, tk_12, tk_13, tk_14, tk_15, tk_16, tk_17] at h1)
        (try simp only [wI_M, wI_1, wI_w, wI_1, wI_w, p1, p8, p9, p10, p12, p13, q139, q140, q138, q141, q142, q143, bI_e0, Classical.not_not, tk_0, tk_1, tk_2, tk_3, tk_4, tk_5, tk_6, tk_7, tk_8, tk_9, tk_10, tk_11, tk_12, tk_13, tk_14, tk_15, tk_16, tk_17] at h2)
        refine ⟨⟨Nat.zero_le _, Nat.zero_le _⟩, _, _, rfl, rfl, ?_, ?_⟩
        · unfold aCut; rw [if_pos h1, if_pos h2]; intro _; rfl
        · unfold aCut; rw [if_pos h1, if_pos h2]; intro h_; exact absurd h_ (by decide)
  · refine ⟨⟨Nat.le_of_ble_eq_true rfl, Nat.le_of_ble_eq_true rfl, Nat.le_of_ble_eq_true rfl⟩, by simp only [wI_1, wI_w, p1, p8, p9, p10, p12, p13, b137, b138, b139, b140, b141, b142, b143] <;> first | rfl | decide, _, T_refused (x := 1) hM, ?_⟩
    rintro _ w1 ⟨rfl, hw⟩
    have hw : w1 = (S, setQ M 0 1, J) := hw
    subst hw
    refine ⟨Or.inl rfl, ?_⟩
    refine ⟨fun h5 => ?_, fun h5 => ?_⟩
    · exact absurd h5 (by decide)
    · (try simp only [wI_M, wI_1, wI_w, wI_1, wI_w, p1, p8, p9, p10, p12, p13, q139, q140, q138, q141, q142, q143, bI_e0, Classical.not_not, tk_0, tk_1, tk_2, tk_3, tk_4, tk_5, tk_6, tk_7, tk_8, tk_9, tk_10, tk_11, tk_12, tk_13, tk_14, tk_15, tk_16, tk_17] at h1)
      refine ⟨⟨Nat.zero_le _, Nat.zero_le _⟩, _, _, rfl, rfl, ?_, ?_⟩
      · unfold aCut; rw [if_neg h1]; intro _; rfl
      · unfold aCut; rw [if_neg h1]; intro h_; exact absurd h_ (by decide)
set_option maxHeartbeats 1000000 in
theorem R_start {d : Nat} {S : Sc} {M : Nat → Nat → Int32} {J : Nat → Nat → Int64} {a : Nat} (hM : MoS S) (ha : a ≤ 14) (h11 : M 137 11 = nI a) (hok : Rok (M 139)) : Wp (d + 5) 149 [.ref 137] (S, M, J) (fun rs w' => ∃ v M', rs = .inl (some (.int v)) ∧ w' = (S, M', J) ∧ (¬ (aStart (M 139)).1 = 0 → M' = setQ M 0 (nI (aStart (M 139)).1)) ∧ ((aStart (M 139)).1 = 0 → v = (aStart (M 139)).2 ∧ M' = upA (mNote (setQ M 0 0) a) 139 (rPower (M 139)))) := by
  obtain ⟨⟨b137, p1, p8, p9, p10, p12, p13⟩, ⟨b138, b139, b140, b141, b142, b143⟩, n138, n139, n140, n141, n142, n143⟩ := id hM
  obtain ⟨N, hN⟩ : ∃ N, N = mNote (setQ M 0 0) a := ⟨_, rfl⟩
  have hN1 : N 139 = M 139 := by rw [hN, nt_139]
  refine ⟨rfl, ?_⟩
  refine EE.runN (stop := noStop) 80 _ ?_
  refine ⟨by simp only [wI_1, wI_w, p1, p8, p9, p10, p12, p13, b137, b138, b139, b140, b141, b142, b143] <;> first | rfl | decide, ?_⟩
  refine ⟨by simp only [wI_1, wI_w, p1, p8, p9, p10, p12, p13, b137, b138, b139, b140, b141, b142, b143] <;> first | rfl | decide, (by simp only [wI_1, wI_w, p1, p8, p9, p10, p12, p13, n138, n139, n140, n141, n142, n143]; exact vp_in_nI (show 3 < 114 by omega) (by omega)), ?_⟩
  refine ⟨fun h1 => ?_, fun h1 => ?_⟩
  · refine ⟨⟨Nat.le_of_ble_eq_true rfl, Nat.le_of_ble_eq_true rfl, Nat.le_of_ble_eq_true rfl⟩, by simp only [wI_1, wI_w, p1, p8, p9, p10, p12, p13, b137, b138, b139, b140, b141, b142, b143] <;> first | rfl | decide, _, T_refused (x := 0) hM, ?_⟩
    rintro _ w1 ⟨rfl, hw⟩
    have hw : w1 = (S, setQ M 0 0, J) := hw
    subst hw
    refine ⟨Or.inl rfl, ?_⟩
    refine ⟨fun h2 => ?_, fun h2 => ?_⟩
    · refine ⟨⟨Nat.le_of_ble_eq_true rfl, Nat.le_of_ble_eq_true rfl, Nat.le_of_ble_eq_true rfl⟩, by simp only [wI_1, wI_w, p1, p8, p9, p10, p12, p13, b137, b138, b139, b140, b141, b142, b143] <;> first | rfl | decide, _, T_note (a := a) hM ha h11, ?_⟩
      rintro _ w1 ⟨rfl, hw⟩
      have hw : w1 = (S, N, J) := by rw [hN]; exact hw
      subst hw
      refine ⟨Or.inl rfl, ?_⟩
      refine ⟨by simp only [wI_1, wI_w, p1, p8, p9, p10, p12, p13, b137, b138, b139, b140, b141, b142, b143] <;> first | rfl | decide, ?_⟩
      refine ⟨⟨Nat.le_of_ble_eq_true rfl, Nat.le_of_ble_eq_true rfl, Nat.le_of_ble_eq_true rfl⟩, _, by simp only [wI_1, wI_w, p1, p8, p9, p10, p12, p13]; exact T_power hM.now (by rw [hN1]; exact hok), ?_⟩
      rintro _ _ ⟨rfl, rfl⟩
      refine ⟨Or.inl rfl, ?_⟩
      refine ⟨by simp only [wI_1, wI_w, p1, p8, p9, p10, p12, p13, b137, b138, b139, b140, b141, b142, b143] <;> first | rfl | decide, ?_⟩
      refine ⟨by simp only [wI_1, wI_w, p1, p8, p9, p10, p12, p13, b137, b138, b139, b140, b141, b142, b143] <;> first | rfl | decide, (by simp only [wI_1, wI_w, p1, p8, p9, p10, p12, p13, n138, n139, n140, n141, n142, n143]; exact vp_in_nI (show 4 < 114 by omega) (by omega)), ?_⟩
      (try simp only [wI_M, wI_1, wI_w, wI_1, wI_w, p1, p8, p9, p10, p12, p13, q139, q140, q138, q141, q142, q143, bI_e0, Classical.not_not, tk_0, tk_1, tk_2, tk_3, tk_4, tk_5, tk_6, tk_7, tk_8, tk_9, tk_10, tk_11, tk_12, tk_13, tk_14, tk_15, tk_16, tk_17] at h1)
      refine ⟨⟨Nat.zero_le _, Nat.zero_le _⟩, _, _, rfl, rfl, ?_, ?_⟩
      · unfold aStart; rw [if_neg h1]; intro h_; exact absurd rfl h_
      · unfold aStart; rw [if_neg h1]; intro _; refine ⟨?_, ?_⟩
        · simp only [hN1, wI_M, wI_1, wI_w, wI_1, wI_w, p1, p8, p9, p10, p12, p13, q139, q140, q138, q141, q142, q143, bI_e0, Classical.not_not, tk_0, tk_1, tk_2, tk_3, tk_4, tk_5, tk_6, tk_7, tk_8, tk_9, tk_10, tk_11, tk_12, tk_13, tk_14, tk_15, tk_16, tk_17, upA_s]
        · rw [hN1, hN]
    · exact absurd h2 (by decide)
  · refine ⟨⟨Nat.le_of_ble_eq_true rfl, Nat.le_of_ble_eq_true rfl, Nat.le_of_ble_eq_true rfl⟩, by simp only [wI_1, wI_w, p1, p8, p9, p10, p12, p13, b137, b138, b139, b140, b141, b142, b143] <;> first | rfl | decide, _, T_refused (x := 1) hM, ?_⟩
    rintro _ w1 ⟨rfl, hw⟩
    have hw : w1 = (S, setQ M 0 1, J) := hw
    subst hw
    refine ⟨Or.inl rfl, ?_⟩
    refine ⟨fun h3 => ?_, fun h3 => ?_⟩
    · exact absurd h3 (by decide)
    · (try simp only [wI_M, wI_1, wI_w, wI_1, wI_w, p1, p8, p9, p10, p12, p13, q139, q140, q138, q141, q142, q143, bI_e0, Classical.not_not, tk_0, tk_1, tk_2, tk_3, tk_4, tk_5, tk_6, tk_7, tk_8, tk_9, tk_10, tk_11, tk_12, tk_13, tk_14, tk_15, tk_16, tk_17] at h1)
      refine ⟨⟨Nat.zero_le _, Nat.zero_le _⟩, _, _, rfl, rfl, ?_, ?_⟩
      · unfold aStart; rw [if_pos h1]; intro _; rfl
      · unfold aStart; rw [if_pos h1]; intro h_; exact absurd h_ (by decide)
set_option maxHeartbeats 1000000 in
theorem R_service {d : Nat} {S : Sc} {M : Nat → Nat → Int32} {J : Nat → Nat → Int64} {a : Nat} (hM : MoS S) (ha : a ≤ 14) (h11 : M 137 11 = nI a) {m : Nat} (h17 : M 139 17 = nI m) (hm : m ≤ 12) {x y : Int32} : Wp (d + 4) 151 [.ref 137, .int x, .int y] (S, M, J) (fun rs w' => ∃ v M', rs = .inl (some (.int v)) ∧ w' = (S, M', J) ∧ (¬ (aService (M 139) m x y).1 = 0 → M' = setQ M 0 (nI (aService (M 139) m x y).1)) ∧ ((aService (M 139) m x y).1 = 0 → v = (aService (M 139) m x y).2 ∧ M' = upA (mNote (setQ M 0 0) a) 139 (rServe (M 139) (10 * x + y) m))) := by
  obtain ⟨⟨b137, p1, p8, p9, p10, p12, p13⟩, ⟨b138, b139, b140, b141, b142, b143⟩, n138, n139, n140, n141, n142, n143⟩ := id hM
  obtain ⟨N, hN⟩ : ∃ N, N = mNote (setQ M 0 0) a := ⟨_, rfl⟩
  have hN1 : N 139 = M 139 := by rw [hN, nt_139]
  refine ⟨rfl, ?_⟩
  refine EE.runN (stop := noStop) 80 _ ?_
  refine ⟨⟨Nat.le_of_ble_eq_true rfl, Nat.le_of_ble_eq_true rfl, Nat.le_of_ble_eq_true rfl⟩, _, T_mV, ?_⟩
  rintro _ _ ⟨rfl, rfl⟩
  refine ⟨Or.inl rfl, ?_⟩
  refine ⟨fun h1 => ?_, fun h1 => ?_⟩
  · refine ⟨by simp only [wI_1, wI_w, p1, p8, p9, p10, p12, p13, b137, b138, b139, b140, b141, b142, b143] <;> first | rfl | decide, ?_⟩
    refine ⟨⟨Nat.le_of_ble_eq_true rfl, Nat.le_of_ble_eq_true rfl, Nat.le_of_ble_eq_true rfl⟩, _, by simp only [wI_1, wI_w, p1, p8, p9, p10, p12, p13]; exact T_canServe (n := m) hM.now hm h17, ?_⟩
    rintro _ _ ⟨rfl, rfl⟩
    refine ⟨Or.inl rfl, ?_⟩
    refine ⟨fun h2 => ?_, fun h2 => ?_⟩
    · refine ⟨⟨Nat.le_of_ble_eq_true rfl, Nat.le_of_ble_eq_true rfl, Nat.le_of_ble_eq_true rfl⟩, by simp only [wI_1, wI_w, p1, p8, p9, p10, p12, p13, b137, b138, b139, b140, b141, b142, b143] <;> first | rfl | decide, _, T_refused (x := 2) hM, ?_⟩
      rintro _ w1 ⟨rfl, hw⟩
      have hw : w1 = (S, setQ M 0 2, J) := hw
      subst hw
      refine ⟨Or.inl rfl, ?_⟩
      refine ⟨fun h3 => ?_, fun h3 => ?_⟩
      · exact absurd h3 (by decide)
      · (try simp only [wI_M, wI_1, wI_w, wI_1, wI_w, p1, p8, p9, p10, p12, p13, q139, q140, q138, q141, q142, q143, bI_e0, Classical.not_not, tk_0, tk_1, tk_2, tk_3, tk_4, tk_5, tk_6, tk_7, tk_8, tk_9, tk_10, tk_11, tk_12, tk_13, tk_14, tk_15, tk_16, tk_17] at h1)
        (try simp only [wI_M, wI_1, wI_w, wI_1, wI_w, p1, p8, p9, p10, p12, p13, q139, q140, q138, q141, q142, q143, bI_e0, Classical.not_not, tk_0, tk_1, tk_2, tk_3, tk_4, tk_5, tk_6, tk_7, tk_8, tk_9, tk_10, tk_11, tk_12, tk_13, tk_14, tk_15, tk_16, tk_17] at h2)
        refine ⟨⟨Nat.zero_le _, Nat.zero_le _⟩, _, _, rfl, rfl, ?_, ?_⟩
        · unfold aService; rw [if_pos h1, if_neg h2]; intro _; rfl
        · unfold aService; rw [if_pos h1, if_neg h2]; intro h_; exact absurd h_ (by decide)
    · refine ⟨⟨Nat.le_of_ble_eq_true rfl, Nat.le_of_ble_eq_true rfl, Nat.le_of_ble_eq_true rfl⟩, by simp only [wI_1, wI_w, p1, p8, p9, p10, p12, p13, b137, b138, b139, b140, b141, b142, b143] <;> first | rfl | decide, _, T_refused (x := 0) hM, ?_⟩
      rintro _ w1 ⟨rfl, hw⟩
      have hw : w1 = (S, setQ M 0 0, J) := hw
      subst hw
      refine ⟨Or.inl rfl, ?_⟩
      refine ⟨fun h4 => ?_, fun h4 => ?_⟩
      · refine ⟨⟨Nat.le_of_ble_eq_true rfl, Nat.le_of_ble_eq_true rfl, Nat.le_of_ble_eq_true rfl⟩, by simp only [wI_1, wI_w, p1, p8, p9, p10, p12, p13, b137, b138, b139, b140, b141, b142, b143] <;> first | rfl | decide, _, T_note (a := a) hM ha h11, ?_⟩
        rintro _ w1 ⟨rfl, hw⟩
        have hw : w1 = (S, N, J) := by rw [hN]; exact hw
        subst hw
        refine ⟨Or.inl rfl, ?_⟩
        refine ⟨by simp only [wI_1, wI_w, p1, p8, p9, p10, p12, p13, b137, b138, b139, b140, b141, b142, b143] <;> first | rfl | decide, ?_⟩
        refine ⟨⟨Nat.le_of_ble_eq_true rfl, Nat.le_of_ble_eq_true rfl, Nat.le_of_ble_eq_true rfl⟩, _, by simp only [wI_1, wI_w, p1, p8, p9, p10, p12, p13]; exact T_serve (n := m) hM.now hm (by rw [hN1]; exact h17), ?_⟩
        rintro _ _ ⟨rfl, rfl⟩
        refine ⟨Or.inl rfl, ?_⟩
        (try simp only [wI_M, wI_1, wI_w, wI_1, wI_w, p1, p8, p9, p10, p12, p13, q139, q140, q138, q141, q142, q143, bI_e0, Classical.not_not, tk_0, tk_1, tk_2, tk_3, tk_4, tk_5, tk_6, tk_7, tk_8, tk_9, tk_10, tk_11, tk_12, tk_13, tk_14, tk_15, tk_16, tk_17] at h1)
        (try simp only [wI_M, wI_1, wI_w, wI_1, wI_w, p1, p8, p9, p10, p12, p13, q139, q140, q138, q141, q142, q143, bI_e0, Classical.not_not, tk_0, tk_1, tk_2, tk_3, tk_4, tk_5, tk_6, tk_7, tk_8, tk_9, tk_10, tk_11, tk_12, tk_13, tk_14, tk_15, tk_16, tk_17] at h2)
        refine ⟨⟨Nat.zero_le _, Nat.zero_le _⟩, _, _, rfl, rfl, ?_, ?_⟩
        · unfold aService; rw [if_pos h1, if_pos h2]; intro h_; exact absurd rfl h_
        · unfold aService; rw [if_pos h1, if_pos h2]; intro _; refine ⟨?_, ?_⟩
          · rw [hN1]
          · rw [hN1, hN]
      · exact absurd h4 (by decide)
  · refine ⟨⟨Nat.le_of_ble_eq_true rfl, Nat.le_of_ble_eq_true rfl, Nat.le_of_ble_eq_true rfl⟩, by simp only [wI_1, wI_w, p1, p8, p9, p10, p12, p13, b137, b138, b139, b140, b141, b142, b143] <;> first | rfl | decide, _, T_refused (x := 1) hM, ?_⟩
    rintro _ w1 ⟨rfl, hw⟩
    have hw : w1 = (S, setQ M 0 1, J) := hw
    subst hw
    refine ⟨Or.inl rfl, ?_⟩
    refine ⟨fun h5 => ?_, fun h5 => ?_⟩
    · exact absurd h5 (by decide)
    · (try simp only [wI_M, wI_1, wI_w, wI_1, wI_w, p1, p8, p9, p10, p12, p13, q139, q140, q138, q141, q142, q143, bI_e0, Classical.not_not, tk_0, tk_1, tk_2, tk_3, tk_4, tk_5, tk_6, tk_7, tk_8, tk_9, tk_10, tk_11, tk_12, tk_13, tk_14, tk_15, tk_16, tk_17] at h1)
      refine ⟨⟨Nat.zero_le _, Nat.zero_le _⟩, _, _, rfl, rfl, ?_, ?_⟩
      · unfold aService; rw [if_neg h1]; intro _; rfl
      · unfold aService; rw [if_neg h1]; intro h_; exact absurd h_ (by decide)
set_option maxHeartbeats 1000000 in
theorem R_forget {d : Nat} {S : Sc} {M : Nat → Nat → Int32} {J : Nat → Nat → Int64} {a : Nat} (hM : MoS S) (ha : a ≤ 14) (h11 : M 137 11 = nI a) {m : Nat} (h17 : M 139 17 = nI m) (hm : m ≤ 12) {x y : Int32} : Wp (d + 4) 152 [.ref 137, .int x, .int y] (S, M, J) (fun rs w' => ∃ v M', rs = .inl (some (.int v)) ∧ w' = (S, M', J) ∧ (¬ (aForget (M 139) m x y).1 = 0 → M' = setQ M 0 (nI (aForget (M 139) m x y).1)) ∧ ((aForget (M 139) m x y).1 = 0 → v = (aForget (M 139) m x y).2 ∧ M' = upA (mNote (setQ M 0 0) a) 139 (rDrop (M 139) (rFnd (M 139) (10 * x + y) m).toNatClampNeg m))) := by
  obtain ⟨⟨b137, p1, p8, p9, p10, p12, p13⟩, ⟨b138, b139, b140, b141, b142, b143⟩, n138, n139, n140, n141, n142, n143⟩ := id hM
  obtain ⟨N, hN⟩ : ∃ N, N = mNote (setQ M 0 0) a := ⟨_, rfl⟩
  have hN1 : N 139 = M 139 := by rw [hN, nt_139]
  refine ⟨rfl, ?_⟩
  refine EE.runN (stop := noStop) 80 _ ?_
  refine ⟨⟨Nat.le_of_ble_eq_true rfl, Nat.le_of_ble_eq_true rfl, Nat.le_of_ble_eq_true rfl⟩, _, T_mV, ?_⟩
  rintro _ _ ⟨rfl, rfl⟩
  refine ⟨Or.inl rfl, ?_⟩
  refine ⟨fun h1 => ?_, fun h1 => ?_⟩
  · refine ⟨by simp only [wI_1, wI_w, p1, p8, p9, p10, p12, p13, b137, b138, b139, b140, b141, b142, b143] <;> first | rfl | decide, ?_⟩
    refine ⟨⟨Nat.le_of_ble_eq_true rfl, Nat.le_of_ble_eq_true rfl, Nat.le_of_ble_eq_true rfl⟩, _, by simp only [wI_1, wI_w, p1, p8, p9, p10, p12, p13]; exact T_serviceOf (n := m) hM.now hm h17, ?_⟩
    rintro _ _ ⟨rfl, rfl⟩
    refine ⟨Or.inl rfl, ?_⟩
    refine ⟨fun h2 => ?_, fun h2 => ?_⟩
    · refine ⟨⟨Nat.le_of_ble_eq_true rfl, Nat.le_of_ble_eq_true rfl, Nat.le_of_ble_eq_true rfl⟩, by simp only [wI_1, wI_w, p1, p8, p9, p10, p12, p13, b137, b138, b139, b140, b141, b142, b143] <;> first | rfl | decide, _, T_refused (x := 0) hM, ?_⟩
      rintro _ w1 ⟨rfl, hw⟩
      have hw : w1 = (S, setQ M 0 0, J) := hw
      subst hw
      refine ⟨Or.inl rfl, ?_⟩
      refine ⟨fun h3 => ?_, fun h3 => ?_⟩
      · have g_ := h2
        obtain ⟨i, hi, hf⟩ := (rFnd_or (M 139) (10 * x + y) m).resolve_left g_
        refine ⟨⟨Nat.le_of_ble_eq_true rfl, Nat.le_of_ble_eq_true rfl, Nat.le_of_ble_eq_true rfl⟩, by simp only [wI_1, wI_w, p1, p8, p9, p10, p12, p13, b137, b138, b139, b140, b141, b142, b143] <;> first | rfl | decide, _, T_note (a := a) hM ha h11, ?_⟩
        rintro _ w1 ⟨rfl, hw⟩
        have hw : w1 = (S, N, J) := by rw [hN]; exact hw
        subst hw
        refine ⟨Or.inl rfl, ?_⟩
        refine ⟨by simp only [wI_1, wI_w, p1, p8, p9, p10, p12, p13, b137, b138, b139, b140, b141, b142, b143] <;> first | rfl | decide, ?_⟩
        refine ⟨⟨Nat.le_of_ble_eq_true rfl, Nat.le_of_ble_eq_true rfl, Nat.le_of_ble_eq_true rfl⟩, _, by simp only [wI_1, wI_w, p1, p8, p9, p10, p12, p13]; exact T_serviceOf (n := m) hM.now hm (by rw [hN1]; exact h17), ?_⟩
        rintro _ _ ⟨rfl, rfl⟩
        refine ⟨Or.inl rfl, ?_⟩
        refine ⟨by simp only [wI_1, wI_w, p1, p8, p9, p10, p12, p13, b137, b138, b139, b140, b141, b142, b143] <;> first | rfl | decide, ?_⟩
        refine ⟨by simp only [wI_1, wI_w, p1, p8, p9, p10, p12, p13, b137, b138, b139, b140, b141, b142, b143] <;> first | rfl | decide, (by simp only [wI_1, wI_w, p1, p8, p9, p10, p12, p13, n138, n139, n140, n141, n142, n143, hN1, hf, ix19 (show i < 1000 by omega)]; exact vp_in_nI (show 19 + 2 * i < 114 by omega) (by omega)), ?_⟩
        refine ⟨by simp only [wI_1, wI_w, p1, p8, p9, p10, p12, p13, b137, b138, b139, b140, b141, b142, b143] <;> first | rfl | decide, ?_⟩
        refine ⟨⟨Nat.le_of_ble_eq_true rfl, Nat.le_of_ble_eq_true rfl, Nat.le_of_ble_eq_true rfl⟩, _, by simp only [wI_1, wI_w, p1, p8, p9, p10, p12, p13, hN1, hf]; exact T_drop (n := m) (i := i) hM.now hi hm (by rw [hN1]; exact h17), ?_⟩
        rintro _ _ ⟨rfl, rfl⟩
        refine ⟨Or.inl rfl, ?_⟩
        (try simp only [wI_M, wI_1, wI_w, wI_1, wI_w, p1, p8, p9, p10, p12, p13, q139, q140, q138, q141, q142, q143, bI_e0, Classical.not_not, tk_0, tk_1, tk_2, tk_3, tk_4, tk_5, tk_6, tk_7, tk_8, tk_9, tk_10, tk_11, tk_12, tk_13, tk_14, tk_15, tk_16, tk_17] at h1)
        (try simp only [wI_M, wI_1, wI_w, wI_1, wI_w, p1, p8, p9, p10, p12, p13, q139, q140, q138, q141, q142, q143, bI_e0, Classical.not_not, tk_0, tk_1, tk_2, tk_3, tk_4, tk_5, tk_6, tk_7, tk_8, tk_9, tk_10, tk_11, tk_12, tk_13, tk_14, tk_15, tk_16, tk_17] at h2)
        refine ⟨⟨Nat.zero_le _, Nat.zero_le _⟩, _, _, rfl, rfl, ?_, ?_⟩
        · unfold aForget; rw [if_pos h1, if_neg h2]; intro h_; exact absurd rfl h_
        · unfold aForget; rw [if_pos h1, if_neg h2]; intro _; refine ⟨?_, ?_⟩
          · simp only [hN1, wI_M, wI_1, wI_w, wI_1, wI_w, p1, p8, p9, p10, p12, p13, q139, q140, q138, q141, q142, q143, bI_e0, Classical.not_not, tk_0, tk_1, tk_2, tk_3, tk_4, tk_5, tk_6, tk_7, tk_8, tk_9, tk_10, tk_11, tk_12, tk_13, tk_14, tk_15, tk_16, tk_17, hf, ix19 (show i < 1000 by omega), ck (show 19 + 2 * i < 2147483648 by omega), ck (show i < 2147483648 by omega)]
          · rw [hN1, hf, ck (show i < 2147483648 by omega), hN]
      · exact absurd h3 (by decide)
    · refine ⟨⟨Nat.le_of_ble_eq_true rfl, Nat.le_of_ble_eq_true rfl, Nat.le_of_ble_eq_true rfl⟩, by simp only [wI_1, wI_w, p1, p8, p9, p10, p12, p13, b137, b138, b139, b140, b141, b142, b143] <;> first | rfl | decide, _, T_refused (x := 2) hM, ?_⟩
      rintro _ w1 ⟨rfl, hw⟩
      have hw : w1 = (S, setQ M 0 2, J) := hw
      subst hw
      refine ⟨Or.inl rfl, ?_⟩
      refine ⟨fun h4 => ?_, fun h4 => ?_⟩
      · exact absurd h4 (by decide)
      · (try simp only [wI_M, wI_1, wI_w, wI_1, wI_w, p1, p8, p9, p10, p12, p13, q139, q140, q138, q141, q142, q143, bI_e0, Classical.not_not, tk_0, tk_1, tk_2, tk_3, tk_4, tk_5, tk_6, tk_7, tk_8, tk_9, tk_10, tk_11, tk_12, tk_13, tk_14, tk_15, tk_16, tk_17] at h1)
        (try simp only [wI_M, wI_1, wI_w, wI_1, wI_w, p1, p8, p9, p10, p12, p13, q139, q140, q138, q141, q142, q143, bI_e0, Classical.not_not, tk_0, tk_1, tk_2, tk_3, tk_4, tk_5, tk_6, tk_7, tk_8, tk_9, tk_10, tk_11, tk_12, tk_13, tk_14, tk_15, tk_16, tk_17] at h2)
        refine ⟨⟨Nat.zero_le _, Nat.zero_le _⟩, _, _, rfl, rfl, ?_, ?_⟩
        · unfold aForget; rw [if_pos h1, if_pos h2]; intro _; rfl
        · unfold aForget; rw [if_pos h1, if_pos h2]; intro h_; exact absurd h_ (by decide)
  · refine ⟨⟨Nat.le_of_ble_eq_true rfl, Nat.le_of_ble_eq_true rfl, Nat.le_of_ble_eq_true rfl⟩, by simp only [wI_1, wI_w, p1, p8, p9, p10, p12, p13, b137, b138, b139, b140, b141, b142, b143] <;> first | rfl | decide, _, T_refused (x := 1) hM, ?_⟩
    rintro _ w1 ⟨rfl, hw⟩
    have hw : w1 = (S, setQ M 0 1, J) := hw
    subst hw
    refine ⟨Or.inl rfl, ?_⟩
    refine ⟨fun h5 => ?_, fun h5 => ?_⟩
    · exact absurd h5 (by decide)
    · (try simp only [wI_M, wI_1, wI_w, wI_1, wI_w, p1, p8, p9, p10, p12, p13, q139, q140, q138, q141, q142, q143, bI_e0, Classical.not_not, tk_0, tk_1, tk_2, tk_3, tk_4, tk_5, tk_6, tk_7, tk_8, tk_9, tk_10, tk_11, tk_12, tk_13, tk_14, tk_15, tk_16, tk_17] at h1)
      refine ⟨⟨Nat.zero_le _, Nat.zero_le _⟩, _, _, rfl, rfl, ?_, ?_⟩
      · unfold aForget; rw [if_neg h1]; intro _; rfl
      · unfold aForget; rw [if_neg h1]; intro h_; exact absurd h_ (by decide)
set_option maxHeartbeats 1000000 in
theorem R_setStep {d : Nat} {S : Sc} {M : Nat → Nat → Int32} {J : Nat → Nat → Int64} {a : Nat} (hM : MoS S) (ha : a ≤ 14) (h11 : M 137 11 = nI a) {x : Int32} : Wp (d + 3) 154 [.ref 137, .int x] (S, M, J) (fun rs w' => ∃ v M', rs = .inl (some (.int v)) ∧ w' = (S, M', J) ∧ (¬ (aStep (M 139) x).1 = 0 → M' = setQ M 0 (nI (aStep (M 139) x).1)) ∧ ((aStep (M 139) x).1 = 0 → v = (aStep (M 139) x).2 ∧ M' = upA (mNote (setQ M 0 0) a) 139 (upd (M 139) 1 x))) := by
  obtain ⟨⟨b137, p1, p8, p9, p10, p12, p13⟩, ⟨b138, b139, b140, b141, b142, b143⟩, n138, n139, n140, n141, n142, n143⟩ := id hM
  obtain ⟨N, hN⟩ : ∃ N, N = mNote (setQ M 0 0) a := ⟨_, rfl⟩
  have hN1 : N 139 = M 139 := by rw [hN, nt_139]
  refine ⟨rfl, ?_⟩
  refine EE.runN (stop := noStop) 80 _ ?_
  refine ⟨⟨Nat.le_of_ble_eq_true rfl, Nat.le_of_ble_eq_true rfl, Nat.le_of_ble_eq_true rfl⟩, _, T_mP, ?_⟩
  rintro _ _ ⟨rfl, rfl⟩
  refine ⟨Or.inl rfl, ?_⟩
  refine ⟨fun h1 => ?_, fun h1 => ?_⟩
  · refine ⟨⟨Nat.le_of_ble_eq_true rfl, Nat.le_of_ble_eq_true rfl, Nat.le_of_ble_eq_true rfl⟩, by simp only [wI_1, wI_w, p1, p8, p9, p10, p12, p13, b137, b138, b139, b140, b141, b142, b143] <;> first | rfl | decide, _, T_refused (x := 1) hM, ?_⟩
    rintro _ w1 ⟨rfl, hw⟩
    have hw : w1 = (S, setQ M 0 1, J) := hw
    subst hw
    refine ⟨Or.inl rfl, ?_⟩
    refine ⟨fun h2 => ?_, fun h2 => ?_⟩
    · exact absurd h2 (by decide)
    · (try simp only [wI_M, wI_1, wI_w, wI_1, wI_w, p1, p8, p9, p10, p12, p13, q139, q140, q138, q141, q142, q143, bI_e0, Classical.not_not, tk_0, tk_1, tk_2, tk_3, tk_4, tk_5, tk_6, tk_7, tk_8, tk_9, tk_10, tk_11, tk_12, tk_13, tk_14, tk_15, tk_16, tk_17] at h1)
      refine ⟨⟨Nat.zero_le _, Nat.zero_le _⟩, _, _, rfl, rfl, ?_, ?_⟩
      · unfold aStep; rw [if_neg h1]; intro _; rfl
      · unfold aStep; rw [if_neg h1]; intro h_; exact absurd h_ (by decide)
  · refine ⟨⟨Nat.le_of_ble_eq_true rfl, Nat.le_of_ble_eq_true rfl, Nat.le_of_ble_eq_true rfl⟩, by simp only [wI_1, wI_w, p1, p8, p9, p10, p12, p13, b137, b138, b139, b140, b141, b142, b143] <;> first | rfl | decide, _, T_refused (x := 0) hM, ?_⟩
    rintro _ w1 ⟨rfl, hw⟩
    have hw : w1 = (S, setQ M 0 0, J) := hw
    subst hw
    refine ⟨Or.inl rfl, ?_⟩
    refine ⟨fun h3 => ?_, fun h3 => ?_⟩
    · refine ⟨⟨Nat.le_of_ble_eq_true rfl, Nat.le_of_ble_eq_true rfl, Nat.le_of_ble_eq_true rfl⟩, by simp only [wI_1, wI_w, p1, p8, p9, p10, p12, p13, b137, b138, b139, b140, b141, b142, b143] <;> first | rfl | decide, _, T_note (a := a) hM ha h11, ?_⟩
      rintro _ w1 ⟨rfl, hw⟩
      have hw : w1 = (S, N, J) := by rw [hN]; exact hw
      subst hw
      refine ⟨Or.inl rfl, ?_⟩
      refine ⟨by simp only [wI_1, wI_w, p1, p8, p9, p10, p12, p13, b137, b138, b139, b140, b141, b142, b143] <;> first | rfl | decide, ?_⟩
      refine ⟨by simp only [wI_1, wI_w, p1, p8, p9, p10, p12, p13, b137, b138, b139, b140, b141, b142, b143] <;> first | rfl | decide, (by simp only [wI_1, wI_w, p1, p8, p9, p10, p12, p13, n138, n139, n140, n141, n142, n143]; exact vp_in_nI (show 1 < 114 by omega) (by omega)), ?_⟩
      refine ⟨by simp only [wI_1, wI_w, p1, p8, p9, p10, p12, p13, b137, b138, b139, b140, b141, b142, b143] <;> first | rfl | decide, ?_⟩
      refine ⟨by simp only [wI_1, wI_w, p1, p8, p9, p10, p12, p13, b137, b138, b139, b140, b141, b142, b143] <;> first | rfl | decide, (by simp only [wI_1, wI_w, p1, p8, p9, p10, p12, p13, n138, n139, n140, n141, n142, n143]; exact vp_in_nI (show 1 < 114 by omega) (by omega)), ?_⟩
      (try simp only [wI_M, wI_1, wI_w, wI_1, wI_w, p1, p8, p9, p10, p12, p13, q139, q140, q138, q141, q142, q143, bI_e0, Classical.not_not, tk_0, tk_1, tk_2, tk_3, tk_4, tk_5, tk_6, tk_7, tk_8, tk_9, tk_10, tk_11, tk_12, tk_13, tk_14, tk_15, tk_16, tk_17] at h1)
      refine ⟨⟨Nat.zero_le _, Nat.zero_le _⟩, _, _, rfl, rfl, ?_, ?_⟩
      · unfold aStep; rw [if_pos h1]; intro h_; exact absurd rfl h_
      · unfold aStep; rw [if_pos h1]; intro _; refine ⟨?_, ?_⟩
        · simp only [hN1, wI_M, wI_1, wI_w, wI_1, wI_w, p1, p8, p9, p10, p12, p13, q139, q140, q138, q141, q142, q143, bI_e0, Classical.not_not, tk_0, tk_1, tk_2, tk_3, tk_4, tk_5, tk_6, tk_7, tk_8, tk_9, tk_10, tk_11, tk_12, tk_13, tk_14, tk_15, tk_16, tk_17]
        · simp only [hN1, wI_M, wI_1, wI_w, wI_1, wI_w, p1, p8, p9, p10, p12, p13, q139, q140, q138, q141, q142, q143, bI_e0, Classical.not_not, tk_0, tk_1, tk_2, tk_3, tk_4, tk_5, tk_6, tk_7, tk_8, tk_9, tk_10, tk_11, tk_12, tk_13, tk_14, tk_15, tk_16, tk_17]; rw [hN]
    · exact absurd h3 (by decide)
set_option maxHeartbeats 1000000 in
theorem R_replace {d : Nat} {S : Sc} {M : Nat → Nat → Int32} {J : Nat → Nat → Int64} {a : Nat} (hM : MoS S) (ha : a ≤ 14) (h11 : M 137 11 = nI a) {n : Nat} (h0 : M 139 0 = nI n) (h1n : 1 ≤ n) (hn : n ≤ 12) {x : Int32} : Wp (d + 4) 155 [.ref 137, .int x] (S, M, J) (fun rs w' => ∃ v M', rs = .inl (some (.int v)) ∧ w' = (S, M', J) ∧ (¬ (aRepl (M 139) n x).1 = 0 → M' = setQ M 0 (nI (aRepl (M 139) n x).1)) ∧ ((aRepl (M 139) n x).1 = 0 → v = (aRepl (M 139) n x).2 ∧ M' = upA (mNote (setQ M 0 0) a) 139 (rRenew (M 139) x.toNatClampNeg))) := by
  obtain ⟨⟨b137, p1, p8, p9, p10, p12, p13⟩, ⟨b138, b139, b140, b141, b142, b143⟩, n138, n139, n140, n141, n142, n143⟩ := id hM
  obtain ⟨N, hN⟩ : ∃ N, N = mNote (setQ M 0 0) a := ⟨_, rfl⟩
  have hN1 : N 139 = M 139 := by rw [hN, nt_139]
  refine ⟨rfl, ?_⟩
  refine EE.runN (stop := noStop) 80 _ ?_
  refine ⟨⟨Nat.le_of_ble_eq_true rfl, Nat.le_of_ble_eq_true rfl, Nat.le_of_ble_eq_true rfl⟩, by simp only [wI_1, wI_w, p1, p8, p9, p10, p12, p13, b137, b138, b139, b140, b141, b142, b143] <;> first | rfl | decide, _, T_isSlot hM h0 h1n hn, ?_⟩
  rintro _ _ ⟨rfl, rfl⟩
  refine ⟨Or.inl rfl, ?_⟩
  refine ⟨fun h1 => ?_, fun h1 => ?_⟩
  · refine ⟨by simp only [wI_1, wI_w, p1, p8, p9, p10, p12, p13, b137, b138, b139, b140, b141, b142, b143] <;> first | rfl | decide, ?_⟩
    refine ⟨⟨Nat.le_of_ble_eq_true rfl, Nat.le_of_ble_eq_true rfl, Nat.le_of_ble_eq_true rfl⟩, _, by simp only [wI_1, wI_w, p1, p8, p9, p10, p12, p13]; exact T_rCanReplace hM.now, ?_⟩
    rintro _ _ ⟨rfl, rfl⟩
    refine ⟨Or.inl rfl, ?_⟩
    refine ⟨fun h2 => ?_, fun h2 => ?_⟩
    · refine ⟨⟨Nat.le_of_ble_eq_true rfl, Nat.le_of_ble_eq_true rfl, Nat.le_of_ble_eq_true rfl⟩, by simp only [wI_1, wI_w, p1, p8, p9, p10, p12, p13, b137, b138, b139, b140, b141, b142, b143] <;> first | rfl | decide, _, T_refused (x := 2) hM, ?_⟩
      rintro _ w1 ⟨rfl, hw⟩
      have hw : w1 = (S, setQ M 0 2, J) := hw
      subst hw
      refine ⟨Or.inl rfl, ?_⟩
      refine ⟨fun h3 => ?_, fun h3 => ?_⟩
      · exact absurd h3 (by decide)
      · (try simp only [wI_M, wI_1, wI_w, wI_1, wI_w, p1, p8, p9, p10, p12, p13, q139, q140, q138, q141, q142, q143, bI_e0, Classical.not_not, tk_0, tk_1, tk_2, tk_3, tk_4, tk_5, tk_6, tk_7, tk_8, tk_9, tk_10, tk_11, tk_12, tk_13, tk_14, tk_15, tk_16, tk_17] at h1)
        (try simp only [wI_M, wI_1, wI_w, wI_1, wI_w, p1, p8, p9, p10, p12, p13, q139, q140, q138, q141, q142, q143, bI_e0, Classical.not_not, tk_0, tk_1, tk_2, tk_3, tk_4, tk_5, tk_6, tk_7, tk_8, tk_9, tk_10, tk_11, tk_12, tk_13, tk_14, tk_15, tk_16, tk_17] at h2)
        refine ⟨⟨Nat.zero_le _, Nat.zero_le _⟩, _, _, rfl, rfl, ?_, ?_⟩
        · unfold aRepl; rw [if_pos h1, if_neg h2]; intro _; rfl
        · unfold aRepl; rw [if_pos h1, if_neg h2]; intro h_; exact absurd h_ (by decide)
    · refine ⟨⟨Nat.le_of_ble_eq_true rfl, Nat.le_of_ble_eq_true rfl, Nat.le_of_ble_eq_true rfl⟩, by simp only [wI_1, wI_w, p1, p8, p9, p10, p12, p13, b137, b138, b139, b140, b141, b142, b143] <;> first | rfl | decide, _, T_refused (x := 0) hM, ?_⟩
      rintro _ w1 ⟨rfl, hw⟩
      have hw : w1 = (S, setQ M 0 0, J) := hw
      subst hw
      refine ⟨Or.inl rfl, ?_⟩
      refine ⟨fun h4 => ?_, fun h4 => ?_⟩
      · have g_ := h1
        simp only [wI_M, wI_1, wI_w, wI_1, wI_w, p1, p8, p9, p10, p12, p13, q139, q140, q138, q141, q142, q143, bI_e0, Classical.not_not, tk_0, tk_1, tk_2, tk_3, tk_4, tk_5, tk_6, tk_7, tk_8, tk_9, tk_10, tk_11, tk_12, tk_13, tk_14, tk_15, tk_16, tk_17] at g_
        obtain ⟨q, hq, rfl⟩ := in_nat' (by omega) g_
        refine ⟨⟨Nat.le_of_ble_eq_true rfl, Nat.le_of_ble_eq_true rfl, Nat.le_of_ble_eq_true rfl⟩, by simp only [wI_1, wI_w, p1, p8, p9, p10, p12, p13, b137, b138, b139, b140, b141, b142, b143] <;> first | rfl | decide, _, T_note (a := a) hM ha h11, ?_⟩
        rintro _ w1 ⟨rfl, hw⟩
        have hw : w1 = (S, N, J) := by rw [hN]; exact hw
        subst hw
        refine ⟨Or.inl rfl, ?_⟩
        refine ⟨by simp only [wI_1, wI_w, p1, p8, p9, p10, p12, p13, b137, b138, b139, b140, b141, b142, b143] <;> first | rfl | decide, ?_⟩
        refine ⟨⟨Nat.le_of_ble_eq_true rfl, Nat.le_of_ble_eq_true rfl, Nat.le_of_ble_eq_true rfl⟩, _, by simp only [wI_1, wI_w, p1, p8, p9, p10, p12, p13]; exact T_rRenew (s := q) hM.now (by omega), ?_⟩
        rintro _ _ ⟨rfl, rfl⟩
        refine ⟨Or.inl rfl, ?_⟩
        (try simp only [wI_M, wI_1, wI_w, wI_1, wI_w, p1, p8, p9, p10, p12, p13, q139, q140, q138, q141, q142, q143, bI_e0, Classical.not_not, tk_0, tk_1, tk_2, tk_3, tk_4, tk_5, tk_6, tk_7, tk_8, tk_9, tk_10, tk_11, tk_12, tk_13, tk_14, tk_15, tk_16, tk_17] at h1)
        (try simp only [wI_M, wI_1, wI_w, wI_1, wI_w, p1, p8, p9, p10, p12, p13, q139, q140, q138, q141, q142, q143, bI_e0, Classical.not_not, tk_0, tk_1, tk_2, tk_3, tk_4, tk_5, tk_6, tk_7, tk_8, tk_9, tk_10, tk_11, tk_12, tk_13, tk_14, tk_15, tk_16, tk_17] at h2)
        refine ⟨⟨Nat.zero_le _, Nat.zero_le _⟩, _, _, rfl, rfl, ?_, ?_⟩
        · unfold aRepl; rw [if_pos h1, if_pos h2]; intro h_; exact absurd rfl h_
        · unfold aRepl; rw [if_pos h1, if_pos h2]; intro _; refine ⟨?_, ?_⟩
          · dsimp only; rw [hN1, ck (show q < 2147483648 by omega)]
          · rw [hN1, ck (show q < 2147483648 by omega), hN]
      · exact absurd h4 (by decide)
  · refine ⟨⟨Nat.le_of_ble_eq_true rfl, Nat.le_of_ble_eq_true rfl, Nat.le_of_ble_eq_true rfl⟩, by simp only [wI_1, wI_w, p1, p8, p9, p10, p12, p13, b137, b138, b139, b140, b141, b142, b143] <;> first | rfl | decide, _, T_refused (x := 1) hM, ?_⟩
    rintro _ w1 ⟨rfl, hw⟩
    have hw : w1 = (S, setQ M 0 1, J) := hw
    subst hw
    refine ⟨Or.inl rfl, ?_⟩
    refine ⟨fun h5 => ?_, fun h5 => ?_⟩
    · exact absurd h5 (by decide)
    · (try simp only [wI_M, wI_1, wI_w, wI_1, wI_w, p1, p8, p9, p10, p12, p13, q139, q140, q138, q141, q142, q143, bI_e0, Classical.not_not, tk_0, tk_1, tk_2, tk_3, tk_4, tk_5, tk_6, tk_7, tk_8, tk_9, tk_10, tk_11, tk_12, tk_13, tk_14, tk_15, tk_16, tk_17] at h1)
      refine ⟨⟨Nat.zero_le _, Nat.zero_le _⟩, _, _, rfl, rfl, ?_, ?_⟩
      · unfold aRepl; rw [if_neg h1]; intro _; rfl
      · unfold aRepl; rw [if_neg h1]; intro h_; exact absurd h_ (by decide)
set_option maxHeartbeats 1000000 in
theorem R_undo {d : Nat} {S : Sc} {M : Nat → Nat → Int32} {J : Nat → Nat → Int64} {a : Nat} (hM : MoS S) (ha : a ≤ 14) (h11 : M 137 11 = nI a) : Wp (d + 3) 156 [.ref 137] (S, M, J) (fun rs w' => ∃ v M', rs = .inl (some (.int v)) ∧ w' = (S, M', J) ∧ (¬ (aUndo a).1 = 0 → M' = setQ M 0 (nI (aUndo a).1)) ∧ ((aUndo a).1 = 0 → v = (aUndo a).2 ∧ M' = upA (setQ (setQ M 0 0) 11 (nI (a - 1))) 139 (va_cpy (M 141) (M 139) (114 * (a - 1)) 0 114))) := by
  obtain ⟨⟨b137, p1, p8, p9, p10, p12, p13⟩, ⟨b138, b139, b140, b141, b142, b143⟩, n138, n139, n140, n141, n142, n143⟩ := id hM
  refine ⟨rfl, ?_⟩
  refine EE.runN (stop := noStop) 80 _ ?_
  refine ⟨by simp only [wI_1, wI_w, p1, p8, p9, p10, p12, p13, b137, b138, b139, b140, b141, b142, b143] <;> first | rfl | decide, ?_⟩
  refine ⟨fun h1 => ?_, fun h1 => ?_⟩
  · refine ⟨⟨Nat.le_of_ble_eq_true rfl, Nat.le_of_ble_eq_true rfl, Nat.le_of_ble_eq_true rfl⟩, by simp only [wI_1, wI_w, p1, p8, p9, p10, p12, p13, b137, b138, b139, b140, b141, b142, b143] <;> first | rfl | decide, _, T_refused (x := 0) hM, ?_⟩
    rintro _ w1 ⟨rfl, hw⟩
    have hw : w1 = (S, setQ M 0 0, J) := hw
    subst hw
    refine ⟨Or.inl rfl, ?_⟩
    refine ⟨fun h2 => ?_, fun h2 => ?_⟩
    · have g_ : ¬ M 137 11 = 0 := h1
      have hlt : 1 ≤ a := by
        rcases Nat.eq_zero_or_pos a with h_ | h_
        · exact absurd (by rw [h11, h_]; rfl) g_
        · exact h_
      have e11 : setQ M 0 0 137 11 - 1 = nI (a - 1) := by rw [setQ_k (by omega), h11, o_1, pk_sub hlt]
      have e114 : (114 : Int32) * nI (a - 1) = nI (114 * (a - 1)) := by rw [o_114, pk_mul]
      refine ⟨by simp only [wI_1, wI_w, p1, p8, p9, p10, p12, p13, b137, b138, b139, b140, b141, b142, b143] <;> first | rfl | decide, ?_⟩
      refine ⟨by simp only [wI_1, wI_w, p1, p8, p9, p10, p12, p13, b137, b138, b139, b140, b141, b142, b143] <;> first | rfl | decide, trivial, ?_⟩
      refine ⟨by simp only [wI_1, wI_w, p1, p8, p9, p10, p12, p13, b137, b138, b139, b140, b141, b142, b143] <;> first | rfl | decide, ?_⟩
      refine ⟨by simp only [wI_1, wI_w, p1, p8, p9, p10, p12, p13, b137, b138, b139, b140, b141, b142, b143] <;> first | rfl | decide, ?_⟩
      refine ⟨by simp only [wI_1, wI_w, p1, p8, p9, p10, p12, p13, b137, b138, b139, b140, b141, b142, b143] <;> first | rfl | decide, ?_⟩
      refine ⟨⟨Nat.le_of_ble_eq_true rfl, Nat.le_of_ble_eq_true rfl, Nat.le_of_ble_eq_true rfl⟩, _, by simp only [wI_M, wI_w, wI_1, wI_w, p1, p8, p9, p10, p12, p13, upA_s, pk_us, e11, e114]; exact T_copy (fa := 114 * (a - 1)) (ta := 0) (n := 114) b141 b139 (by omega) (by omega) (by omega) (by omega) (Or.inl (by omega)), ?_⟩
      rintro _ w1 ⟨rfl, hw⟩
      have hw : w1 = (S, upA (setQ (setQ M 0 0) 11 (nI (a - 1))) 139 (va_cpy (M 141) (M 139) (114 * (a - 1)) 0 114), J) := by rw [hw]; unfold setQ; simp only [wI_M, wI_w, upA_s, upA_uu, e11, upA_n _ _ (show (139 : Nat) ≠ 137 by omega), upA_n _ _ (show (141 : Nat) ≠ 137 by omega)]
      subst hw
      refine ⟨Or.inl rfl, ?_⟩
      refine ⟨by simp only [wI_1, wI_w, p1, p8, p9, p10, p12, p13, b137, b138, b139, b140, b141, b142, b143] <;> first | rfl | decide, ?_⟩
      (try simp only [wI_M, wI_1, wI_w, wI_1, wI_w, p1, p8, p9, p10, p12, p13, q139, q140, q138, q141, q142, q143, bI_e0, Classical.not_not, tk_0, tk_1, tk_2, tk_3, tk_4, tk_5, tk_6, tk_7, tk_8, tk_9, tk_10, tk_11, tk_12, tk_13, tk_14, tk_15, tk_16, tk_17] at h1)
      (try simp only [h11] at h1)
      refine ⟨⟨Nat.zero_le _, Nat.zero_le _⟩, _, _, rfl, rfl, ?_, ?_⟩
      · unfold aUndo; rw [if_neg h1]; intro h_; exact absurd rfl h_
      · unfold aUndo; rw [if_neg h1]; intro _; refine ⟨?_, ?_⟩
        · simp only [wI_M, wI_w, upA_n _ _ (show (137 : Nat) ≠ 139 by omega), setQ_s]
        · rfl
    · exact absurd h2 (by decide)
  · refine ⟨⟨Nat.le_of_ble_eq_true rfl, Nat.le_of_ble_eq_true rfl, Nat.le_of_ble_eq_true rfl⟩, by simp only [wI_1, wI_w, p1, p8, p9, p10, p12, p13, b137, b138, b139, b140, b141, b142, b143] <;> first | rfl | decide, _, T_refused (x := 1) hM, ?_⟩
    rintro _ w1 ⟨rfl, hw⟩
    have hw : w1 = (S, setQ M 0 1, J) := hw
    subst hw
    refine ⟨Or.inl rfl, ?_⟩
    refine ⟨fun h3 => ?_, fun h3 => ?_⟩
    · exact absurd h3 (by decide)
    · (try simp only [wI_M, wI_1, wI_w, wI_1, wI_w, p1, p8, p9, p10, p12, p13, q139, q140, q138, q141, q142, q143, bI_e0, Classical.not_not, tk_0, tk_1, tk_2, tk_3, tk_4, tk_5, tk_6, tk_7, tk_8, tk_9, tk_10, tk_11, tk_12, tk_13, tk_14, tk_15, tk_16, tk_17] at h1)
      (try simp only [h11] at h1)
      refine ⟨⟨Nat.zero_le _, Nat.zero_le _⟩, _, _, rfl, rfl, ?_, ?_⟩
      · unfold aUndo; rw [if_pos h1]; intro _; rfl
      · unfold aUndo; rw [if_pos h1]; intro h_; exact absurd h_ (by decide)
set_option maxHeartbeats 1000000 in
theorem R_save {d : Nat} {S : Sc} {M : Nat → Nat → Int32} {J : Nat → Nat → Int64} {x : Int32} (hM : MoS S) : Wp (d + 3) 168 [.ref 137, .int x] (S, M, J) (fun rs w' => ∃ v M', rs = .inl (some (.int v)) ∧ w' = (S, M', J) ∧ (¬ (aSave (M 139) x).1 = 0 → M' = setQ M 0 (nI (aSave (M 139) x).1)) ∧ ((aSave (M 139) x).1 = 0 → v = (aSave (M 139) x).2 ∧ M' = upA (upA (setQ M 0 0) 142 (va_cpy (M 139) (M 142) 0 (114 * x.toNatClampNeg) 114)) 143 (upd (M 143) x.toNatClampNeg 1))) := by
  obtain ⟨⟨b137, p1, p8, p9, p10, p12, p13⟩, ⟨b138, b139, b140, b141, b142, b143⟩, n138, n139, n140, n141, n142, n143⟩ := id hM
  refine ⟨rfl, ?_⟩
  refine EE.runN (stop := noStop) 80 _ ?_
  refine ⟨⟨Nat.le_of_ble_eq_true rfl, Nat.le_of_ble_eq_true rfl, Nat.le_of_ble_eq_true rfl⟩, _, T_in32 (0) (1) rfl rfl, ?_⟩
  rintro _ _ ⟨rfl, rfl⟩
  refine ⟨Or.inl rfl, ?_⟩
  refine ⟨fun h1 => ?_, fun h1 => ?_⟩
  · refine ⟨⟨Nat.le_of_ble_eq_true rfl, Nat.le_of_ble_eq_true rfl, Nat.le_of_ble_eq_true rfl⟩, by simp only [wI_1, wI_w, p1, p8, p9, p10, p12, p13, b137, b138, b139, b140, b141, b142, b143] <;> first | rfl | decide, _, T_refused (x := 1) hM, ?_⟩
    rintro _ w1 ⟨rfl, hw⟩
    have hw : w1 = (S, setQ M 0 1, J) := hw
    subst hw
    refine ⟨Or.inl rfl, ?_⟩
    refine ⟨fun h2 => ?_, fun h2 => ?_⟩
    · exact absurd h2 (by decide)
    · (try simp only [wI_M, wI_1, wI_w, wI_1, wI_w, p1, p8, p9, p10, p12, p13, q139, q140, q138, q141, q142, q143, bI_e0, Classical.not_not, tk_0, tk_1, tk_2, tk_3, tk_4, tk_5, tk_6, tk_7, tk_8, tk_9, tk_10, tk_11, tk_12, tk_13, tk_14, tk_15, tk_16, tk_17] at h1)
      refine ⟨⟨Nat.zero_le _, Nat.zero_le _⟩, _, _, rfl, rfl, ?_, ?_⟩
      · unfold aSave; rw [if_neg h1]; intro _; rfl
      · unfold aSave; rw [if_neg h1]; intro h_; exact absurd h_ (by decide)
  · refine ⟨⟨Nat.le_of_ble_eq_true rfl, Nat.le_of_ble_eq_true rfl, Nat.le_of_ble_eq_true rfl⟩, by simp only [wI_1, wI_w, p1, p8, p9, p10, p12, p13, b137, b138, b139, b140, b141, b142, b143] <;> first | rfl | decide, _, T_refused (x := 0) hM, ?_⟩
    rintro _ w1 ⟨rfl, hw⟩
    have hw : w1 = (S, setQ M 0 0, J) := hw
    subst hw
    refine ⟨Or.inl rfl, ?_⟩
    refine ⟨fun h3 => ?_, fun h3 => ?_⟩
    · have g_ := h1
      simp only [wI_M, wI_1, wI_w, wI_1, wI_w, p1, p8, p9, p10, p12, p13, q139, q140, q138, q141, q142, q143, bI_e0, Classical.not_not, tk_0, tk_1, tk_2, tk_3, tk_4, tk_5, tk_6, tk_7, tk_8, tk_9, tk_10, tk_11, tk_12, tk_13, tk_14, tk_15, tk_16, tk_17] at g_
      obtain ⟨q, hq, rfl⟩ := in_nat (k := 1) rfl (by omega) g_
      have e114 : (114 : Int32) * nI q = nI (114 * q) := by rw [o_114, pk_mul]
      refine ⟨by simp only [wI_1, wI_w, p1, p8, p9, p10, p12, p13, b137, b138, b139, b140, b141, b142, b143] <;> first | rfl | decide, ?_⟩
      refine ⟨by simp only [wI_1, wI_w, p1, p8, p9, p10, p12, p13, b137, b138, b139, b140, b141, b142, b143] <;> first | rfl | decide, ?_⟩
      refine ⟨⟨Nat.le_of_ble_eq_true rfl, Nat.le_of_ble_eq_true rfl, Nat.le_of_ble_eq_true rfl⟩, _, by simp only [wI_M, wI_w, wI_1, wI_w, p1, p8, p9, p10, p12, p13, e114]; exact T_copy (fa := 0) (ta := 114 * q) (n := 114) b139 b142 (by omega) (by omega) (by omega) (by omega) (Or.inl (by omega)), ?_⟩
      rintro _ _ ⟨rfl, rfl⟩
      refine ⟨Or.inl rfl, ?_⟩
      refine ⟨by simp only [wI_1, wI_w, p1, p8, p9, p10, p12, p13, b137, b138, b139, b140, b141, b142, b143] <;> first | rfl | decide, ?_⟩
      refine ⟨by simp only [wI_1, wI_w, p1, p8, p9, p10, p12, p13, b137, b138, b139, b140, b141, b142, b143] <;> first | rfl | decide, (by simp only [wI_1, wI_w, p1, p8, p9, p10, p12, p13, n138, n139, n140, n141, n142, n143]; exact vp_in_nI (show q < 2 by omega) (by omega)), ?_⟩
      refine ⟨by simp only [wI_1, wI_w, p1, p8, p9, p10, p12, p13, b137, b138, b139, b140, b141, b142, b143] <;> first | rfl | decide, ?_⟩
      refine ⟨by simp only [wI_1, wI_w, p1, p8, p9, p10, p12, p13, b137, b138, b139, b140, b141, b142, b143] <;> first | rfl | decide, (by simp only [wI_1, wI_w, p1, p8, p9, p10, p12, p13, n138, n139, n140, n141, n142, n143]; exact vp_in_nI (show 5 < 114 by omega) (by omega)), ?_⟩
      (try simp only [wI_M, wI_1, wI_w, wI_1, wI_w, p1, p8, p9, p10, p12, p13, q139, q140, q138, q141, q142, q143, bI_e0, Classical.not_not, tk_0, tk_1, tk_2, tk_3, tk_4, tk_5, tk_6, tk_7, tk_8, tk_9, tk_10, tk_11, tk_12, tk_13, tk_14, tk_15, tk_16, tk_17] at h1)
      refine ⟨⟨Nat.zero_le _, Nat.zero_le _⟩, _, _, rfl, rfl, ?_, ?_⟩
      · unfold aSave; rw [if_pos h1]; intro h_; exact absurd rfl h_
      · unfold aSave; rw [if_pos h1]; intro _; refine ⟨?_, ?_⟩
        · simp only [wI_M, wI_1, wI_w, wI_1, wI_w, p1, p8, p9, p10, p12, p13, q139, q140, q138, q141, q142, q143, bI_e0, Classical.not_not, tk_0, tk_1, tk_2, tk_3, tk_4, tk_5, tk_6, tk_7, tk_8, tk_9, tk_10, tk_11, tk_12, tk_13, tk_14, tk_15, tk_16, tk_17, upA_n _ _ (show (139 : Nat) ≠ 142 by omega), upA_n _ _ (show (139 : Nat) ≠ 143 by omega)]
        · simp only [wI_M, wI_1, wI_w, wI_1, wI_w, p1, p8, p9, p10, p12, p13, q139, q140, q138, q141, q142, q143, bI_e0, Classical.not_not, tk_0, tk_1, tk_2, tk_3, tk_4, tk_5, tk_6, tk_7, tk_8, tk_9, tk_10, tk_11, tk_12, tk_13, tk_14, tk_15, tk_16, tk_17, upA_n _ _ (show (143 : Nat) ≠ 142 by omega), ck (show q < 2147483648 by omega)]; rfl
    · exact absurd h3 (by decide)
set_option maxHeartbeats 1000000 in
theorem R_restore {d : Nat} {S : Sc} {M : Nat → Nat → Int32} {J : Nat → Nat → Int64} {x : Int32} (hM : MoS S) : Wp (d + 3) 169 [.ref 137, .int x] (S, M, J) (fun rs w' => ∃ v M', rs = .inl (some (.int v)) ∧ w' = (S, M', J) ∧ (¬ (aRest (M 142) (M 143) x).1 = 0 → M' = setQ M 0 (nI (aRest (M 142) (M 143) x).1)) ∧ ((aRest (M 142) (M 143) x).1 = 0 → v = (aRest (M 142) (M 143) x).2 ∧ M' = setQ (upA (setQ M 0 0) 139 (va_cpy (M 142) (M 139) (114 * x.toNatClampNeg) 0 114)) 11 0)) := by
  obtain ⟨⟨b137, p1, p8, p9, p10, p12, p13⟩, ⟨b138, b139, b140, b141, b142, b143⟩, n138, n139, n140, n141, n142, n143⟩ := id hM
  refine ⟨rfl, ?_⟩
  refine EE.runN (stop := noStop) 80 _ ?_
  refine ⟨⟨Nat.le_of_ble_eq_true rfl, Nat.le_of_ble_eq_true rfl, Nat.le_of_ble_eq_true rfl⟩, _, T_in32 (0) (1) rfl rfl, ?_⟩
  rintro _ _ ⟨rfl, rfl⟩
  refine ⟨Or.inl rfl, ?_⟩
  refine ⟨fun h1 => ?_, fun h1 => ?_⟩
  · have g_ := h1
    simp only [wI_M, wI_1, wI_w, wI_1, wI_w, p1, p8, p9, p10, p12, p13, q139, q140, q138, q141, q142, q143, bI_e0, Classical.not_not, tk_0, tk_1, tk_2, tk_3, tk_4, tk_5, tk_6, tk_7, tk_8, tk_9, tk_10, tk_11, tk_12, tk_13, tk_14, tk_15, tk_16, tk_17] at g_
    obtain ⟨q, hq, rfl⟩ := in_nat (k := 1) rfl (by omega) g_
    have e114 : (114 : Int32) * nI q = nI (114 * q) := by rw [o_114, pk_mul]
    refine ⟨by simp only [wI_1, wI_w, p1, p8, p9, p10, p12, p13, b137, b138, b139, b140, b141, b142, b143] <;> first | rfl | decide, ?_⟩
    refine ⟨by simp only [wI_1, wI_w, p1, p8, p9, p10, p12, p13, b137, b138, b139, b140, b141, b142, b143] <;> first | rfl | decide, (by simp only [wI_1, wI_w, p1, p8, p9, p10, p12, p13, n138, n139, n140, n141, n142, n143]; exact vp_in_nI (show q < 2 by omega) (by omega)), ?_⟩
    refine ⟨fun h2 => ?_, fun h2 => ?_⟩
    · refine ⟨⟨Nat.le_of_ble_eq_true rfl, Nat.le_of_ble_eq_true rfl, Nat.le_of_ble_eq_true rfl⟩, by simp only [wI_1, wI_w, p1, p8, p9, p10, p12, p13, b137, b138, b139, b140, b141, b142, b143] <;> first | rfl | decide, _, T_refused (x := 2) hM, ?_⟩
      rintro _ w1 ⟨rfl, hw⟩
      have hw : w1 = (S, setQ M 0 2, J) := hw
      subst hw
      refine ⟨Or.inl rfl, ?_⟩
      refine ⟨fun h3 => ?_, fun h3 => ?_⟩
      · exact absurd h3 (by decide)
      · (try simp only [wI_M, wI_1, wI_w, wI_1, wI_w, p1, p8, p9, p10, p12, p13, q139, q140, q138, q141, q142, q143, bI_e0, Classical.not_not, tk_0, tk_1, tk_2, tk_3, tk_4, tk_5, tk_6, tk_7, tk_8, tk_9, tk_10, tk_11, tk_12, tk_13, tk_14, tk_15, tk_16, tk_17, ck (show q < 2147483648 by omega)] at h2)
        (try simp only [wI_M, wI_1, wI_w, wI_1, wI_w, p1, p8, p9, p10, p12, p13, q139, q140, q138, q141, q142, q143, bI_e0, Classical.not_not, tk_0, tk_1, tk_2, tk_3, tk_4, tk_5, tk_6, tk_7, tk_8, tk_9, tk_10, tk_11, tk_12, tk_13, tk_14, tk_15, tk_16, tk_17] at h1)
        (try simp only [wI_M, wI_1, wI_w, wI_1, wI_w, p1, p8, p9, p10, p12, p13, q139, q140, q138, q141, q142, q143, bI_e0, Classical.not_not, tk_0, tk_1, tk_2, tk_3, tk_4, tk_5, tk_6, tk_7, tk_8, tk_9, tk_10, tk_11, tk_12, tk_13, tk_14, tk_15, tk_16, tk_17] at h2)
        refine ⟨⟨Nat.zero_le _, Nat.zero_le _⟩, _, _, rfl, rfl, ?_, ?_⟩
        · unfold aRest; rw [ck (show q < 2147483648 by omega), if_pos h1, if_pos h2]; intro _; rfl
        · unfold aRest; rw [ck (show q < 2147483648 by omega), if_pos h1, if_pos h2]; intro h_; exact absurd h_ (by decide)
    · refine ⟨⟨Nat.le_of_ble_eq_true rfl, Nat.le_of_ble_eq_true rfl, Nat.le_of_ble_eq_true rfl⟩, by simp only [wI_1, wI_w, p1, p8, p9, p10, p12, p13, b137, b138, b139, b140, b141, b142, b143] <;> first | rfl | decide, _, T_refused (x := 0) hM, ?_⟩
      rintro _ w1 ⟨rfl, hw⟩
      have hw : w1 = (S, setQ M 0 0, J) := hw
      subst hw
      refine ⟨Or.inl rfl, ?_⟩
      refine ⟨fun h4 => ?_, fun h4 => ?_⟩
      · refine ⟨by simp only [wI_1, wI_w, p1, p8, p9, p10, p12, p13, b137, b138, b139, b140, b141, b142, b143] <;> first | rfl | decide, ?_⟩
        refine ⟨by simp only [wI_1, wI_w, p1, p8, p9, p10, p12, p13, b137, b138, b139, b140, b141, b142, b143] <;> first | rfl | decide, ?_⟩
        refine ⟨⟨Nat.le_of_ble_eq_true rfl, Nat.le_of_ble_eq_true rfl, Nat.le_of_ble_eq_true rfl⟩, _, by simp only [wI_M, wI_w, wI_1, wI_w, p1, p8, p9, p10, p12, p13, e114]; exact T_copy (fa := 114 * q) (ta := 0) (n := 114) b142 b139 (by omega) (by omega) (by omega) (by omega) (Or.inl (by omega)), ?_⟩
        rintro _ _ ⟨rfl, rfl⟩
        refine ⟨Or.inl rfl, ?_⟩
        refine ⟨by simp only [wI_1, wI_w, p1, p8, p9, p10, p12, p13, b137, b138, b139, b140, b141, b142, b143] <;> first | rfl | decide, trivial, ?_⟩
        refine ⟨by simp only [wI_1, wI_w, p1, p8, p9, p10, p12, p13, b137, b138, b139, b140, b141, b142, b143] <;> first | rfl | decide, ?_⟩
        refine ⟨by simp only [wI_1, wI_w, p1, p8, p9, p10, p12, p13, b137, b138, b139, b140, b141, b142, b143] <;> first | rfl | decide, (by simp only [wI_1, wI_w, p1, p8, p9, p10, p12, p13, n138, n139, n140, n141, n142, n143]; exact vp_in_nI (show 5 < 114 by omega) (by omega)), ?_⟩
        (try simp only [wI_M, wI_1, wI_w, wI_1, wI_w, p1, p8, p9, p10, p12, p13, q139, q140, q138, q141, q142, q143, bI_e0, Classical.not_not, tk_0, tk_1, tk_2, tk_3, tk_4, tk_5, tk_6, tk_7, tk_8, tk_9, tk_10, tk_11, tk_12, tk_13, tk_14, tk_15, tk_16, tk_17, ck (show q < 2147483648 by omega)] at h2)
        (try simp only [wI_M, wI_1, wI_w, wI_1, wI_w, p1, p8, p9, p10, p12, p13, q139, q140, q138, q141, q142, q143, bI_e0, Classical.not_not, tk_0, tk_1, tk_2, tk_3, tk_4, tk_5, tk_6, tk_7, tk_8, tk_9, tk_10, tk_11, tk_12, tk_13, tk_14, tk_15, tk_16, tk_17] at h1)
        (try simp only [wI_M, wI_1, wI_w, wI_1, wI_w, p1, p8, p9, p10, p12, p13, q139, q140, q138, q141, q142, q143, bI_e0, Classical.not_not, tk_0, tk_1, tk_2, tk_3, tk_4, tk_5, tk_6, tk_7, tk_8, tk_9, tk_10, tk_11, tk_12, tk_13, tk_14, tk_15, tk_16, tk_17] at h2)
        refine ⟨⟨Nat.zero_le _, Nat.zero_le _⟩, _, _, rfl, rfl, ?_, ?_⟩
        · unfold aRest; rw [ck (show q < 2147483648 by omega), if_pos h1, if_neg h2]; intro h_; exact absurd rfl h_
        · unfold aRest; rw [ck (show q < 2147483648 by omega), if_pos h1, if_neg h2]; intro _; refine ⟨?_, ?_⟩
          · simp only [wI_M, wI_1, wI_w, wI_1, wI_w, p1, p8, p9, p10, p12, p13, q139, q140, q138, q141, q142, q143, bI_e0, Classical.not_not, tk_0, tk_1, tk_2, tk_3, tk_4, tk_5, tk_6, tk_7, tk_8, tk_9, tk_10, tk_11, tk_12, tk_13, tk_14, tk_15, tk_16, tk_17, upA_n _ _ (show (139 : Nat) ≠ 137 by omega), upA_s, ck (show q < 2147483648 by omega)]; exact va_cpy_5
          · simp only [wI_M, wI_1, wI_w, wI_1, wI_w, p1, p8, p9, p10, p12, p13, q139, q140, q138, q141, q142, q143, bI_e0, Classical.not_not, tk_0, tk_1, tk_2, tk_3, tk_4, tk_5, tk_6, tk_7, tk_8, tk_9, tk_10, tk_11, tk_12, tk_13, tk_14, tk_15, tk_16, tk_17, upA_n _ _ (show (137 : Nat) ≠ 139 by omega), ck (show q < 2147483648 by omega)]; rfl
      · exact absurd h4 (by decide)
  · refine ⟨⟨Nat.le_of_ble_eq_true rfl, Nat.le_of_ble_eq_true rfl, Nat.le_of_ble_eq_true rfl⟩, by simp only [wI_1, wI_w, p1, p8, p9, p10, p12, p13, b137, b138, b139, b140, b141, b142, b143] <;> first | rfl | decide, _, T_refused (x := 1) hM, ?_⟩
    rintro _ w1 ⟨rfl, hw⟩
    have hw : w1 = (S, setQ M 0 1, J) := hw
    subst hw
    refine ⟨Or.inl rfl, ?_⟩
    refine ⟨fun h5 => ?_, fun h5 => ?_⟩
    · exact absurd h5 (by decide)
    · (try simp only [wI_M, wI_1, wI_w, wI_1, wI_w, p1, p8, p9, p10, p12, p13, q139, q140, q138, q141, q142, q143, bI_e0, Classical.not_not, tk_0, tk_1, tk_2, tk_3, tk_4, tk_5, tk_6, tk_7, tk_8, tk_9, tk_10, tk_11, tk_12, tk_13, tk_14, tk_15, tk_16, tk_17] at h1)
      refine ⟨⟨Nat.zero_le _, Nat.zero_le _⟩, _, _, rfl, rfl, ?_, ?_⟩
      · unfold aRest; rw [if_neg h1]; intro _; rfl
      · unfold aRest; rw [if_neg h1]; intro h_; exact absurd h_ (by decide)
set_option maxHeartbeats 1000000 in
theorem R_append {d : Nat} {S : Sc} {M : Nat → Nat → Int32} {J : Nat → Nat → Int64} {n : Nat} {x : Int32} (hM : MoS S) (hx2 : M 137 2 = nI n) (hn : n ≤ 90) : Wp (d + 3) 121 [.ref 137, .int x] (S, M, J) (fun rs w' => ∃ v M', rs = .inl (some (.int v)) ∧ w' = (S, M', J) ∧ (¬ (aApp n x).1 = 0 → M' = setQ M 0 (nI (aApp n x).1)) ∧ ((aApp n x).1 = 0 → v = (aApp n x).2 ∧ M' = setQ (upA (setQ M 0 0) 138 (upd (M 138) n x)) 2 (nI (n + 1)))) := by
  obtain ⟨⟨b137, p1, p8, p9, p10, p12, p13⟩, ⟨b138, b139, b140, b141, b142, b143⟩, n138, n139, n140, n141, n142, n143⟩ := id hM
  refine ⟨rfl, ?_⟩
  refine EE.runN (stop := noStop) 80 _ ?_
  refine ⟨⟨Nat.le_of_ble_eq_true rfl, Nat.le_of_ble_eq_true rfl, Nat.le_of_ble_eq_true rfl⟩, _, T_in32 (0) (255) rfl rfl, ?_⟩
  rintro _ _ ⟨rfl, rfl⟩
  refine ⟨Or.inl rfl, ?_⟩
  refine ⟨fun h1 => ?_, fun h1 => ?_⟩
  · refine ⟨by simp only [wI_1, wI_w, p1, p8, p9, p10, p12, p13, b137, b138, b139, b140, b141, b142, b143] <;> first | rfl | decide, ?_⟩
    refine ⟨fun h2 => ?_, fun h2 => ?_⟩
    · refine ⟨⟨Nat.le_of_ble_eq_true rfl, Nat.le_of_ble_eq_true rfl, Nat.le_of_ble_eq_true rfl⟩, by simp only [wI_1, wI_w, p1, p8, p9, p10, p12, p13, b137, b138, b139, b140, b141, b142, b143] <;> first | rfl | decide, _, T_refused (x := 0) hM, ?_⟩
      rintro _ w1 ⟨rfl, hw⟩
      have hw : w1 = (S, setQ M 0 0, J) := hw
      subst hw
      refine ⟨Or.inl rfl, ?_⟩
      refine ⟨fun h3 => ?_, fun h3 => ?_⟩
      · have s2 : setQ M 0 0 137 2 = nI n := (setQ_k (by omega)).trans hx2
        have g_ : ¬ M 137 2 = 90 := h2
        rw [hx2] at g_
        have hlt : n < 90 := by
          rcases Nat.lt_or_ge n 90 with h_ | h_
          · exact h_
          · exact absurd (by rw [show n = 90 by omega]; rfl) g_
        refine ⟨by simp only [wI_1, wI_w, p1, p8, p9, p10, p12, p13, b137, b138, b139, b140, b141, b142, b143] <;> first | rfl | decide, ?_⟩
        refine ⟨by simp only [wI_1, wI_w, p1, p8, p9, p10, p12, p13, b137, b138, b139, b140, b141, b142, b143] <;> first | rfl | decide, ?_⟩
        refine ⟨by simp only [wI_1, wI_w, p1, p8, p9, p10, p12, p13, b137, b138, b139, b140, b141, b142, b143] <;> first | rfl | decide, (by simp only [wI_1, wI_w, p1, p8, p9, p10, p12, p13, n138, n139, n140, n141, n142, n143, s2]; exact vp_in_nI (show n < 90 by omega) (by omega)), ?_⟩
        refine ⟨by simp only [wI_1, wI_w, p1, p8, p9, p10, p12, p13, b137, b138, b139, b140, b141, b142, b143] <;> first | rfl | decide, ?_⟩
        refine ⟨by simp only [wI_1, wI_w, p1, p8, p9, p10, p12, p13, b137, b138, b139, b140, b141, b142, b143] <;> first | rfl | decide, trivial, ?_⟩
        refine ⟨by simp only [wI_1, wI_w, p1, p8, p9, p10, p12, p13, b137, b138, b139, b140, b141, b142, b143] <;> first | rfl | decide, ?_⟩
        (try simp only [wI_M, wI_1, wI_w, wI_1, wI_w, p1, p8, p9, p10, p12, p13, q139, q140, q138, q141, q142, q143, bI_e0, Classical.not_not, tk_0, tk_1, tk_2, tk_3, tk_4, tk_5, tk_6, tk_7, tk_8, tk_9, tk_10, tk_11, tk_12, tk_13, tk_14, tk_15, tk_16, tk_17] at h2)
        (try simp only [hx2] at h2)
        (try simp only [wI_M, wI_1, wI_w, wI_1, wI_w, p1, p8, p9, p10, p12, p13, q139, q140, q138, q141, q142, q143, bI_e0, Classical.not_not, tk_0, tk_1, tk_2, tk_3, tk_4, tk_5, tk_6, tk_7, tk_8, tk_9, tk_10, tk_11, tk_12, tk_13, tk_14, tk_15, tk_16, tk_17] at h1)
        (try simp only [wI_M, wI_1, wI_w, wI_1, wI_w, p1, p8, p9, p10, p12, p13, q139, q140, q138, q141, q142, q143, bI_e0, Classical.not_not, tk_0, tk_1, tk_2, tk_3, tk_4, tk_5, tk_6, tk_7, tk_8, tk_9, tk_10, tk_11, tk_12, tk_13, tk_14, tk_15, tk_16, tk_17] at h2)
        refine ⟨⟨Nat.zero_le _, Nat.zero_le _⟩, _, _, rfl, rfl, ?_, ?_⟩
        · unfold aApp; rw [if_pos h1, if_neg h2]; intro h_; exact absurd rfl h_
        · unfold aApp; rw [if_pos h1, if_neg h2]; intro _; refine ⟨?_, ?_⟩
          · simp only [wI_M, wI_1, wI_w, wI_1, wI_w, p1, p8, p9, p10, p12, p13, q139, q140, q138, q141, q142, q143, bI_e0, Classical.not_not, tk_0, tk_1, tk_2, tk_3, tk_4, tk_5, tk_6, tk_7, tk_8, tk_9, tk_10, tk_11, tk_12, tk_13, tk_14, tk_15, tk_16, tk_17, upA_n _ _ (show (137 : Nat) ≠ 138 by omega), upA_s, pk_us, s2, nI_1]
          · simp only [wI_M, wI_1, wI_w, wI_1, wI_w, p1, p8, p9, p10, p12, p13, q139, q140, q138, q141, q142, q143, bI_e0, Classical.not_not, tk_0, tk_1, tk_2, tk_3, tk_4, tk_5, tk_6, tk_7, tk_8, tk_9, tk_10, tk_11, tk_12, tk_13, tk_14, tk_15, tk_16, tk_17, upA_n _ _ (show (137 : Nat) ≠ 138 by omega), s2, nI_1, ck (show n < 2147483648 by omega)]; rfl
      · exact absurd h3 (by decide)
    · refine ⟨⟨Nat.le_of_ble_eq_true rfl, Nat.le_of_ble_eq_true rfl, Nat.le_of_ble_eq_true rfl⟩, by simp only [wI_1, wI_w, p1, p8, p9, p10, p12, p13, b137, b138, b139, b140, b141, b142, b143] <;> first | rfl | decide, _, T_refused (x := 2) hM, ?_⟩
      rintro _ w1 ⟨rfl, hw⟩
      have hw : w1 = (S, setQ M 0 2, J) := hw
      subst hw
      refine ⟨Or.inl rfl, ?_⟩
      refine ⟨fun h4 => ?_, fun h4 => ?_⟩
      · exact absurd h4 (by decide)
      · (try simp only [wI_M, wI_1, wI_w, wI_1, wI_w, p1, p8, p9, p10, p12, p13, q139, q140, q138, q141, q142, q143, bI_e0, Classical.not_not, tk_0, tk_1, tk_2, tk_3, tk_4, tk_5, tk_6, tk_7, tk_8, tk_9, tk_10, tk_11, tk_12, tk_13, tk_14, tk_15, tk_16, tk_17] at h2)
        (try simp only [hx2] at h2)
        (try simp only [wI_M, wI_1, wI_w, wI_1, wI_w, p1, p8, p9, p10, p12, p13, q139, q140, q138, q141, q142, q143, bI_e0, Classical.not_not, tk_0, tk_1, tk_2, tk_3, tk_4, tk_5, tk_6, tk_7, tk_8, tk_9, tk_10, tk_11, tk_12, tk_13, tk_14, tk_15, tk_16, tk_17] at h1)
        (try simp only [wI_M, wI_1, wI_w, wI_1, wI_w, p1, p8, p9, p10, p12, p13, q139, q140, q138, q141, q142, q143, bI_e0, Classical.not_not, tk_0, tk_1, tk_2, tk_3, tk_4, tk_5, tk_6, tk_7, tk_8, tk_9, tk_10, tk_11, tk_12, tk_13, tk_14, tk_15, tk_16, tk_17] at h2)
        refine ⟨⟨Nat.zero_le _, Nat.zero_le _⟩, _, _, rfl, rfl, ?_, ?_⟩
        · unfold aApp; rw [if_pos h1, if_pos h2]; intro _; rfl
        · unfold aApp; rw [if_pos h1, if_pos h2]; intro h_; exact absurd h_ (by decide)
  · refine ⟨⟨Nat.le_of_ble_eq_true rfl, Nat.le_of_ble_eq_true rfl, Nat.le_of_ble_eq_true rfl⟩, by simp only [wI_1, wI_w, p1, p8, p9, p10, p12, p13, b137, b138, b139, b140, b141, b142, b143] <;> first | rfl | decide, _, T_refused (x := 1) hM, ?_⟩
    rintro _ w1 ⟨rfl, hw⟩
    have hw : w1 = (S, setQ M 0 1, J) := hw
    subst hw
    refine ⟨Or.inl rfl, ?_⟩
    refine ⟨fun h5 => ?_, fun h5 => ?_⟩
    · exact absurd h5 (by decide)
    · (try simp only [wI_M, wI_1, wI_w, wI_1, wI_w, p1, p8, p9, p10, p12, p13, q139, q140, q138, q141, q142, q143, bI_e0, Classical.not_not, tk_0, tk_1, tk_2, tk_3, tk_4, tk_5, tk_6, tk_7, tk_8, tk_9, tk_10, tk_11, tk_12, tk_13, tk_14, tk_15, tk_16, tk_17] at h1)
      refine ⟨⟨Nat.zero_le _, Nat.zero_le _⟩, _, _, rfl, rfl, ?_, ?_⟩
      · unfold aApp; rw [if_neg h1]; intro _; rfl
      · unfold aApp; rw [if_neg h1]; intro h_; exact absurd h_ (by decide)
set_option maxHeartbeats 1000000 in
theorem R_clear {d : Nat} {S : Sc} {M : Nat → Nat → Int32} {J : Nat → Nat → Int64} {n : Nat} (hM : MoS S) (h2 : M 137 2 = nI n) : Wp (d + 1) 122 [.ref 137] (S, M, J) (fun rs w' => rs = .inl (some (.int (nI n))) ∧ w' = (S, (setQ (setQ M 0 0) 2 0), J)) := by
  obtain ⟨⟨b137, p1, p8, p9, p10, p12, p13⟩, ⟨b138, b139, b140, b141, b142, b143⟩, n138, n139, n140, n141, n142, n143⟩ := id hM
  refine ⟨rfl, ?_⟩
  refine EE.runN (stop := noStop) 80 _ ?_
  refine ⟨by simp only [wI_1, wI_w, p1, p8, p9, p10, p12, p13, b137, b138, b139, b140, b141, b142, b143] <;> first | rfl | decide, trivial, ?_⟩
  refine ⟨by simp only [wI_1, wI_w, p1, p8, p9, p10, p12, p13, b137, b138, b139, b140, b141, b142, b143] <;> first | rfl | decide, ?_⟩
  refine ⟨by simp only [wI_1, wI_w, p1, p8, p9, p10, p12, p13, b137, b138, b139, b140, b141, b142, b143] <;> first | rfl | decide, trivial, ?_⟩
  refine ⟨⟨Nat.zero_le _, Nat.zero_le _⟩, congrArg (fun v => Sum.inl (some (Value.int v))) ?_, rfl⟩
  exact (setQ_k (M := M) (k := 0) (v := 0) (q := 2) (by omega)).trans h2
