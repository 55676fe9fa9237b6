/-! THE REFERENCE: questions: written by wip/whole/pure3.py -/
theorem q138 {M : Nat → Nat → Int32} {k : Nat} {v : Int32} : setQ M k v 138 = M 138 := setQ_o (by omega)
theorem q139 {M : Nat → Nat → Int32} {k : Nat} {v : Int32} : setQ M k v 139 = M 139 := setQ_o (by omega)
theorem q140 {M : Nat → Nat → Int32} {k : Nat} {v : Int32} : setQ M k v 140 = M 140 := setQ_o (by omega)
theorem q141 {M : Nat → Nat → Int32} {k : Nat} {v : Int32} : setQ M k v 141 = M 141 := setQ_o (by omega)
theorem q142 {M : Nat → Nat → Int32} {k : Nat} {v : Int32} : setQ M k v 142 = M 142 := setQ_o (by omega)
theorem q143 {M : Nat → Nat → Int32} {k : Nat} {v : Int32} : setQ M k v 143 = M 143 := setQ_o (by omega)
theorem in_nat {x m : Int32} {k : Nat} (e : m = nI k) (hk : k < 1000000) (h : ¬ x < 0 ∧ ¬ m < x) : ∃ q, q ≤ k ∧ x = nI q := by
  subst e
  have h1 := h.1
  have h2 := h.2
  rw [Int32.lt_iff_toInt_lt] at h1 h2
  rw [nI_toInt (by omega)] at h2
  have h1 : ¬ x.toInt < 0 := h1
  refine ⟨x.toInt.toNat, by omega, ?_⟩
  apply Int32.toInt_inj.mp
  rw [nI_toInt (by omega)]
  omega
theorem in_nat' {x : Int32} {k : Nat} (hk : k < 1000000) (h : ¬ x < 0 ∧ ¬ nI k ≤ x) : ∃ q, q < k ∧ x = nI q := by
  have h1 := h.1
  have h2 := h.2
  rw [Int32.lt_iff_toInt_lt] at h1
  rw [Int32.le_iff_toInt_le, nI_toInt (by omega)] at h2
  have h1 : ¬ x.toInt < 0 := h1
  refine ⟨x.toInt.toNat, by omega, ?_⟩
  apply Int32.toInt_inj.mp
  rw [nI_toInt (by omega)]
  omega
def vAbout (ρ : Rw) (n k : Nat) : Int32 := if k = 4 ∨ k = 6 ∨ k = 7 then (if ρ 3 = 0 then -99999 else ρ k) else if k = 13 then rMost ρ (3 * n) - rLeast ρ (3 * n) else if k = 14 then ρ 17 else ρ k
def aAbout (ρ : Rw) (n : Nat) (x : Int32) : Nat × Int32 := if ¬ x < 0 ∧ ¬ 14 < x then (0, vAbout ρ n x.toNatClampNeg) else (1, 0)
def aCell (ρ : Rw) (n : Nat) (x i z : Int32) : Nat × Int32 := if ¬ x < 0 ∧ ¬ nI n ≤ x then (if ¬ i < 0 ∧ ¬ 2 < i then (if ¬ z < 0 ∧ ¬ 2 < z then (0, if 2 ≤ z then bI (¬ ρ (43 + 2 * (3 * x.toNatClampNeg + i.toNatClampNeg)) < ρ 2) else ρ (42 + 2 * (3 * x.toNatClampNeg + i.toNatClampNeg) + z.toNatClampNeg)) else (2, 0)) else (1, 0)) else (1, 0)
def aSays (ρ : Rw) (n : Nat) (x : Int32) : Nat × Int32 := if ¬ x < 0 ∧ ¬ nI n ≤ x then (0, rSays ρ x.toNatClampNeg) else (1, 0)
def aWhy (ρ : Rw) (n : Nat) (x : Int32) : Nat × Int32 := if ¬ x < 0 ∧ ¬ nI n ≤ x then (if rSays ρ x.toNatClampNeg = -99999 then (if 2 ≤ rReadable ρ x.toNatClampNeg 3 then (0, 2) else (0, 1)) else (0, 0)) else (1, 0)
def rAll (ρ : Rw) : Nat → Int32
  | 0 => 0
  | k + 1 => rAll ρ k + rWear ρ k
def aShare (ρ : Rw) (n : Nat) (x : Int32) : Nat × Int32 := if ¬ x < 0 ∧ ¬ nI n ≤ x then (if rAll ρ n = 0 then (0, 0) else (0, 100 * rWear ρ x.toNatClampNeg / rAll ρ n)) else (1, 0)
def aServ (ρ : Rw) (x z : Int32) : Nat × Int32 := if x < 0 then (1, 0) else if ¬ z < 0 ∧ ¬ 2 < z then (if x < ρ 17 then (if z = 0 then (0, ρ (18 + 2 * x.toNatClampNeg) / 10) else if z = 1 then (0, ρ (18 + 2 * x.toNatClampNeg) - ρ (18 + 2 * x.toNatClampNeg) / 10 * 10) else (0, ρ (19 + 2 * x.toNatClampNeg))) else (0, -99999)) else (1, 0)
def aDue (ρ : Rw) (m : Nat) (x y z : Int32) : Nat × Int32 := if ¬ x < 0 ∧ ¬ 9 < x ∧ ¬ y < 0 ∧ ¬ 9 < y then (if ¬ z < 1 ∧ ¬ 9999 < z then (if ρ 3 = 0 then (2, 0) else if rFnd ρ (10 * x + y) m = -99999 then (0, -99999) else (0, ρ (19 + 2 * (rFnd ρ (10 * x + y) m).toNatClampNeg) + z - ρ 4)) else (1, 0)) else (1, 0)
def aFirst (ρ : Rw) (m : Nat) : Nat × Int32 := if rSm ρ m = -99999 then (0, -99999) else (0, ρ (18 + 2 * (rSm ρ m).toNatClampNeg))
theorem ix18 {q : Nat} (h : q < 1000) : (18 + 2 * nI q : Int32) = nI (18 + 2 * q) := by rw [o_18, o_2, pk_mul, nI_add]
theorem ix19 {q : Nat} (h : q < 1000) : (18 + 2 * nI q + 1 : Int32) = nI (19 + 2 * q) := by
  rw [ix18 h, nI_1]
  congr 1
  omega
theorem rSm_nat {ρ : Rw} {k : Nat} (h : ¬ rSm ρ k = -99999) : ∃ i, i < k ∧ rSm ρ k = nI i := (rSm_or ρ k).resolve_left h
theorem rSm_ix {ρ : Rw} {k : Nat} (h : ¬ rSm ρ k = -99999) (hk : k ≤ 12) : (18 + 2 * rSm ρ k + 1 : Int32).toNatClampNeg = 19 + 2 * (rSm ρ k).toNatClampNeg := by
  obtain ⟨i, hi, e⟩ := rSm_nat h
  rw [e, ix19 (by omega), ck (by omega), ck (by omega)]
def aLast (ρ : Rw) (x : Int32) : Nat × Int32 := if ¬ x < 0 ∧ ¬ 3 < x then (0, ρ (13 + x.toNatClampNeg)) else (1, 0)
set_option maxHeartbeats 1000000 in
theorem R_lastCut {d : Nat} {S : Sc} {M : Nat → Nat → Int32} {J : Nat → Nat → Int64} {x : Int32} (hM : MoS S) : Wp (d + 3) 145 [.ref 137, .int x] (S, M, J) (fun rs w' => ∃ v M', rs = .inl (some (.int v)) ∧ w' = (S, M', J) ∧ M' 137 0 = nI (aLast (M 139) x).1 ∧ ((aLast (M 139) x).1 = 0 → v = (aLast (M 139) x).2) ∧ Jk M M') := by
  obtain ⟨⟨b137, p1, p8, p9, p10, p12, p13⟩, ⟨b138, b139, b140, b141, b142, b143⟩, n138, n139, n140, n141, n142, n143⟩ := id hM
  refine ⟨rfl, ?_⟩
  refine EE.runN (stop := noStop) 80 _ ?_
  refine ⟨⟨Nat.le_of_ble_eq_true rfl, Nat.le_of_ble_eq_true rfl, Nat.le_of_ble_eq_true rfl⟩, _, T_in32 (0) (3) rfl rfl, ?_⟩
  rintro _ _ ⟨rfl, rfl⟩
  refine ⟨Or.inl rfl, ?_⟩
  refine ⟨fun h1 => ?_, fun h1 => ?_⟩
  · refine ⟨⟨Nat.le_of_ble_eq_true rfl, Nat.le_of_ble_eq_true rfl, Nat.le_of_ble_eq_true rfl⟩, by simp only [wI_1, wI_w, p1, p8, p9, p10, p12, p13, b137, b138, b139, b140, b141, b142, b143] <;> first | rfl | decide, _, T_refused (x := 1) hM, ?_⟩
    rintro _ w1 ⟨rfl, hw⟩
    have hw : w1 = (S, setQ M 0 1, J) := hw
    subst hw
    refine ⟨Or.inl rfl, ?_⟩
    refine ⟨fun h2 => ?_, fun h2 => ?_⟩
    · exact absurd h2 (by decide)
    · (try simp only [wI_M, wI_1, wI_w, wI_1, wI_w, p1, p8, p9, p10, p12, p13, q139, q140, q138, q141, q142, q143, bI_e0, Classical.not_not, tk_0, tk_1, tk_2, tk_3, tk_4, tk_5, tk_6, tk_7, tk_8, tk_9, tk_10, tk_11, tk_12, tk_13, tk_14, tk_15, tk_16, tk_17] at h1)
      refine ⟨⟨Nat.zero_le _, Nat.zero_le _⟩, _, _, rfl, rfl, ?_, ?_, Jk_Q M (by omega)⟩
      · unfold aLast; rw [if_neg h1]; exact setQ_s
      · unfold aLast; rw [if_neg h1]; intro h_; exact absurd h_ (by decide)
  · refine ⟨⟨Nat.le_of_ble_eq_true rfl, Nat.le_of_ble_eq_true rfl, Nat.le_of_ble_eq_true rfl⟩, by simp only [wI_1, wI_w, p1, p8, p9, p10, p12, p13, b137, b138, b139, b140, b141, b142, b143] <;> first | rfl | decide, _, T_refused (x := 0) hM, ?_⟩
    rintro _ w1 ⟨rfl, hw⟩
    have hw : w1 = (S, setQ M 0 0, J) := hw
    subst hw
    refine ⟨Or.inl rfl, ?_⟩
    refine ⟨fun h3 => ?_, fun h3 => ?_⟩
    · have g_ := h1
      simp only [wI_M, wI_1, wI_w, wI_1, wI_w, p1, p8, p9, p10, p12, p13, q139, q140, q138, q141, q142, q143, bI_e0, Classical.not_not, tk_0, tk_1, tk_2, tk_3, tk_4, tk_5, tk_6, tk_7, tk_8, tk_9, tk_10, tk_11, tk_12, tk_13, tk_14, tk_15, tk_16, tk_17] at g_
      obtain ⟨q, hq, rfl⟩ := in_nat (k := 3) rfl (by omega) g_
      refine ⟨by simp only [wI_1, wI_w, p1, p8, p9, p10, p12, p13, b137, b138, b139, b140, b141, b142, b143] <;> first | rfl | decide, ?_⟩
      refine ⟨by simp only [wI_1, wI_w, p1, p8, p9, p10, p12, p13, b137, b138, b139, b140, b141, b142, b143] <;> first | rfl | decide, (by simp only [wI_1, wI_w, p1, p8, p9, p10, p12, p13, n138, n139, n140, n141, n142, n143, o_13, nI_add]; exact vp_in_nI (show 13 + q < 114 by omega) (by omega)), ?_⟩
      (try simp only [wI_M, wI_1, wI_w, wI_1, wI_w, p1, p8, p9, p10, p12, p13, q139, q140, q138, q141, q142, q143, bI_e0, Classical.not_not, tk_0, tk_1, tk_2, tk_3, tk_4, tk_5, tk_6, tk_7, tk_8, tk_9, tk_10, tk_11, tk_12, tk_13, tk_14, tk_15, tk_16, tk_17] at h1)
      refine ⟨⟨Nat.zero_le _, Nat.zero_le _⟩, _, _, rfl, rfl, ?_, ?_, Jk_Q M (by omega)⟩
      · unfold aLast; rw [if_pos h1]; exact setQ_s
      · unfold aLast; rw [if_pos h1]; intro _; simp only [wI_M, wI_1, wI_w, wI_1, wI_w, p1, p8, p9, p10, p12, p13, q139, q140, q138, q141, q142, q143, bI_e0, Classical.not_not, tk_0, tk_1, tk_2, tk_3, tk_4, tk_5, tk_6, tk_7, tk_8, tk_9, tk_10, tk_11, tk_12, tk_13, tk_14, tk_15, tk_16, tk_17, o_13, nI_add, ck (show 13 + q < 2147483648 by omega), ck (show q < 2147483648 by omega)]
    · exact absurd h3 (by decide)
set_option maxHeartbeats 1000000 in
theorem R_says {d : Nat} {S : Sc} {M : Nat → Nat → Int32} {J : Nat → Nat → Int64} {n : Nat} (hM : MoS S) (h0 : M 139 0 = nI n) (h1n : 1 ≤ n) (hn : n ≤ 12) {x : Int32} : Wp (d + 3) 141 [.ref 137, .int x] (S, M, J) (fun rs w' => ∃ v M', rs = .inl (some (.int v)) ∧ w' = (S, M', J) ∧ M' 137 0 = nI (aSays (M 139) n x).1 ∧ ((aSays (M 139) n x).1 = 0 → v = (aSays (M 139) n x).2) ∧ Jk M M') := by
  obtain ⟨⟨b137, p1, p8, p9, p10, p12, p13⟩, ⟨b138, b139, b140, b141, b142, b143⟩, n138, n139, n140, n141, n142, n143⟩ := id hM
  refine ⟨rfl, ?_⟩
  refine EE.runN (stop := noStop) 80 _ ?_
  refine ⟨⟨Nat.le_of_ble_eq_true rfl, Nat.le_of_ble_eq_true rfl, Nat.le_of_ble_eq_true rfl⟩, by simp only [wI_1, wI_w, p1, p8, p9, p10, p12, p13, b137, b138, b139, b140, b141, b142, b143] <;> first | rfl | decide, _, T_isSlot hM h0 h1n hn, ?_⟩
  rintro _ _ ⟨rfl, rfl⟩
  refine ⟨Or.inl rfl, ?_⟩
  refine ⟨fun h1 => ?_, fun h1 => ?_⟩
  · refine ⟨⟨Nat.le_of_ble_eq_true rfl, Nat.le_of_ble_eq_true rfl, Nat.le_of_ble_eq_true rfl⟩, by simp only [wI_1, wI_w, p1, p8, p9, p10, p12, p13, b137, b138, b139, b140, b141, b142, b143] <;> first | rfl | decide, _, T_refused (x := 1) hM, ?_⟩
    rintro _ w1 ⟨rfl, hw⟩
    have hw : w1 = (S, setQ M 0 1, J) := hw
    subst hw
    refine ⟨Or.inl rfl, ?_⟩
    refine ⟨fun h2 => ?_, fun h2 => ?_⟩
    · exact absurd h2 (by decide)
    · (try simp only [wI_M, wI_1, wI_w, wI_1, wI_w, p1, p8, p9, p10, p12, p13, q139, q140, q138, q141, q142, q143, bI_e0, Classical.not_not, tk_0, tk_1, tk_2, tk_3, tk_4, tk_5, tk_6, tk_7, tk_8, tk_9, tk_10, tk_11, tk_12, tk_13, tk_14, tk_15, tk_16, tk_17] at h1)
      refine ⟨⟨Nat.zero_le _, Nat.zero_le _⟩, _, _, rfl, rfl, ?_, ?_, Jk_Q M (by omega)⟩
      · unfold aSays; rw [if_neg h1]; exact setQ_s
      · unfold aSays; rw [if_neg h1]; intro h_; exact absurd h_ (by decide)
  · refine ⟨⟨Nat.le_of_ble_eq_true rfl, Nat.le_of_ble_eq_true rfl, Nat.le_of_ble_eq_true rfl⟩, by simp only [wI_1, wI_w, p1, p8, p9, p10, p12, p13, b137, b138, b139, b140, b141, b142, b143] <;> first | rfl | decide, _, T_refused (x := 0) hM, ?_⟩
    rintro _ w1 ⟨rfl, hw⟩
    have hw : w1 = (S, setQ M 0 0, J) := hw
    subst hw
    refine ⟨Or.inl rfl, ?_⟩
    refine ⟨fun h3 => ?_, fun h3 => ?_⟩
    · have g_ := h1
      simp only [wI_M, wI_1, wI_w, wI_1, wI_w, p1, p8, p9, p10, p12, p13, q139, q140, q138, q141, q142, q143, bI_e0, Classical.not_not, tk_0, tk_1, tk_2, tk_3, tk_4, tk_5, tk_6, tk_7, tk_8, tk_9, tk_10, tk_11, tk_12, tk_13, tk_14, tk_15, tk_16, tk_17] at g_
      obtain ⟨q, hq, rfl⟩ := in_nat' (by omega) g_
      refine ⟨by simp only [wI_1, wI_w, p1, p8, p9, p10, p12, p13, b137, b138, b139, b140, b141, b142, b143] <;> first | rfl | decide, ?_⟩
      refine ⟨⟨Nat.le_of_ble_eq_true rfl, Nat.le_of_ble_eq_true rfl, Nat.le_of_ble_eq_true rfl⟩, _, by simp only [wI_M, wI_1, wI_w, wI_1, wI_w, p1, p8, p9, p10, p12, p13, q139, q140, q138, q141, q142, q143, bI_e0, Classical.not_not, tk_0, tk_1, tk_2, tk_3, tk_4, tk_5, tk_6, tk_7, tk_8, tk_9, tk_10, tk_11, tk_12, tk_13, tk_14, tk_15, tk_16, tk_17]; exact T_saysOf hM.now (by omega), ?_⟩
      rintro _ _ ⟨rfl, rfl⟩
      refine ⟨Or.inl rfl, ?_⟩
      (try simp only [wI_M, wI_1, wI_w, wI_1, wI_w, p1, p8, p9, p10, p12, p13, q139, q140, q138, q141, q142, q143, bI_e0, Classical.not_not, tk_0, tk_1, tk_2, tk_3, tk_4, tk_5, tk_6, tk_7, tk_8, tk_9, tk_10, tk_11, tk_12, tk_13, tk_14, tk_15, tk_16, tk_17] at h1)
      refine ⟨⟨Nat.zero_le _, Nat.zero_le _⟩, _, _, rfl, rfl, ?_, ?_, Jk_Q M (by omega)⟩
      · unfold aSays; rw [if_pos h1]; exact setQ_s
      · unfold aSays; rw [if_pos h1]; intro _; simp only [wI_M, wI_1, wI_w, wI_1, wI_w, p1, p8, p9, p10, p12, p13, q139, q140, q138, q141, q142, q143, bI_e0, Classical.not_not, tk_0, tk_1, tk_2, tk_3, tk_4, tk_5, tk_6, tk_7, tk_8, tk_9, tk_10, tk_11, tk_12, tk_13, tk_14, tk_15, tk_16, tk_17, ck (show q < 2147483648 by omega)]
    · exact absurd h3 (by decide)
set_option maxHeartbeats 1000000 in
theorem R_cell {d : Nat} {S : Sc} {M : Nat → Nat → Int32} {J : Nat → Nat → Int64} {n : Nat} (hM : MoS S) (h0 : M 139 0 = nI n) (h1n : 1 ≤ n) (hn : n ≤ 12) {x i z : Int32} : Wp (d + 3) 140 [.ref 137, .int x, .int i, .int z] (S, M, J) (fun rs w' => ∃ v M', rs = .inl (some (.int v)) ∧ w' = (S, M', J) ∧ M' 137 0 = nI (aCell (M 139) n x i z).1 ∧ ((aCell (M 139) n x i z).1 = 0 → v = (aCell (M 139) n x i z).2) ∧ Jk M M') := by
  obtain ⟨⟨b137, p1, p8, p9, p10, p12, p13⟩, ⟨b138, b139, b140, b141, b142, b143⟩, n138, n139, n140, n141, n142, n143⟩ := id hM
  refine ⟨rfl, ?_⟩
  refine EE.runN (stop := noStop) 80 _ ?_
  refine ⟨⟨Nat.le_of_ble_eq_true rfl, Nat.le_of_ble_eq_true rfl, Nat.le_of_ble_eq_true rfl⟩, by simp only [wI_1, wI_w, p1, p8, p9, p10, p12, p13, b137, b138, b139, b140, b141, b142, b143] <;> first | rfl | decide, _, T_isSlot hM h0 h1n hn, ?_⟩
  rintro _ _ ⟨rfl, rfl⟩
  refine ⟨Or.inl rfl, ?_⟩
  refine ⟨fun h1 => ?_, fun h1 => ?_⟩
  · refine ⟨⟨Nat.le_of_ble_eq_true rfl, Nat.le_of_ble_eq_true rfl, Nat.le_of_ble_eq_true rfl⟩, by simp only [wI_1, wI_w, p1, p8, p9, p10, p12, p13, b137, b138, b139, b140, b141, b142, b143] <;> first | rfl | decide, _, T_refused (x := 1) hM, ?_⟩
    rintro _ w1 ⟨rfl, hw⟩
    have hw : w1 = (S, setQ M 0 1, J) := hw
    subst hw
    refine ⟨Or.inl rfl, ?_⟩
    refine ⟨fun h2 => ?_, fun h2 => ?_⟩
    · exact absurd h2 (by decide)
    · (try simp only [wI_M, wI_1, wI_w, wI_1, wI_w, p1, p8, p9, p10, p12, p13, q139, q140, q138, q141, q142, q143, bI_e0, Classical.not_not, tk_0, tk_1, tk_2, tk_3, tk_4, tk_5, tk_6, tk_7, tk_8, tk_9, tk_10, tk_11, tk_12, tk_13, tk_14, tk_15, tk_16, tk_17] at h1)
      refine ⟨⟨Nat.zero_le _, Nat.zero_le _⟩, _, _, rfl, rfl, ?_, ?_, Jk_Q M (by omega)⟩
      · unfold aCell; rw [if_neg h1]; exact setQ_s
      · unfold aCell; rw [if_neg h1]; intro h_; exact absurd h_ (by decide)
  · refine ⟨⟨Nat.le_of_ble_eq_true rfl, Nat.le_of_ble_eq_true rfl, Nat.le_of_ble_eq_true rfl⟩, _, T_in32 (0) (2) rfl rfl, ?_⟩
    rintro _ _ ⟨rfl, rfl⟩
    refine ⟨Or.inl rfl, ?_⟩
    refine ⟨fun h3 => ?_, fun h3 => ?_⟩
    · refine ⟨⟨Nat.le_of_ble_eq_true rfl, Nat.le_of_ble_eq_true rfl, Nat.le_of_ble_eq_true rfl⟩, _, T_in32 (0) (2) rfl rfl, ?_⟩
      rintro _ _ ⟨rfl, rfl⟩
      refine ⟨Or.inl rfl, ?_⟩
      refine ⟨fun h4 => ?_, fun h4 => ?_⟩
      · refine ⟨⟨Nat.le_of_ble_eq_true rfl, Nat.le_of_ble_eq_true rfl, Nat.le_of_ble_eq_true rfl⟩, by simp only [wI_1, wI_w, p1, p8, p9, p10, p12, p13, b137, b138, b139, b140, b141, b142, b143] <;> first | rfl | decide, _, T_refused (x := 2) hM, ?_⟩
        rintro _ w1 ⟨rfl, hw⟩
        have hw : w1 = (S, setQ M 0 2, J) := hw
        subst hw
        refine ⟨Or.inl rfl, ?_⟩
        refine ⟨fun h5 => ?_, fun h5 => ?_⟩
        · exact absurd h5 (by decide)
        · (try simp only [wI_M, wI_1, wI_w, wI_1, wI_w, p1, p8, p9, p10, p12, p13, q139, q140, q138, q141, q142, q143, bI_e0, Classical.not_not, tk_0, tk_1, tk_2, tk_3, tk_4, tk_5, tk_6, tk_7, tk_8, tk_9, tk_10, tk_11, tk_12, tk_13, tk_14, tk_15, tk_16, tk_17] at h1)
          (try simp only [wI_M, wI_1, wI_w, wI_1, wI_w, p1, p8, p9, p10, p12, p13, q139, q140, q138, q141, q142, q143, bI_e0, Classical.not_not, tk_0, tk_1, tk_2, tk_3, tk_4, tk_5, tk_6, tk_7, tk_8, tk_9, tk_10, tk_11, tk_12, tk_13, tk_14, tk_15, tk_16, tk_17] at h3)
          (try simp only [wI_M, wI_1, wI_w, wI_1, wI_w, p1, p8, p9, p10, p12, p13, q139, q140, q138, q141, q142, q143, bI_e0, Classical.not_not, tk_0, tk_1, tk_2, tk_3, tk_4, tk_5, tk_6, tk_7, tk_8, tk_9, tk_10, tk_11, tk_12, tk_13, tk_14, tk_15, tk_16, tk_17] at h4)
          refine ⟨⟨Nat.zero_le _, Nat.zero_le _⟩, _, _, rfl, rfl, ?_, ?_, Jk_Q M (by omega)⟩
          · unfold aCell; rw [if_pos h1, if_pos h3, if_neg h4]; exact setQ_s
          · unfold aCell; rw [if_pos h1, if_pos h3, if_neg h4]; intro h_; exact absurd h_ (by decide)
      · refine ⟨⟨Nat.le_of_ble_eq_true rfl, Nat.le_of_ble_eq_true rfl, Nat.le_of_ble_eq_true rfl⟩, by simp only [wI_1, wI_w, p1, p8, p9, p10, p12, p13, b137, b138, b139, b140, b141, b142, b143] <;> first | rfl | decide, _, T_refused (x := 0) hM, ?_⟩
        rintro _ w1 ⟨rfl, hw⟩
        have hw : w1 = (S, setQ M 0 0, J) := hw
        subst hw
        refine ⟨Or.inl rfl, ?_⟩
        refine ⟨fun h6 => ?_, fun h6 => ?_⟩
        · have g1 := h1
          have g2 := h3
          have g3 := h4
          simp only [wI_M, wI_1, wI_w, wI_1, wI_w, p1, p8, p9, p10, p12, p13, q139, q140, q138, q141, q142, q143, bI_e0, Classical.not_not, tk_0, tk_1, tk_2, tk_3, tk_4, tk_5, tk_6, tk_7, tk_8, tk_9, tk_10, tk_11, tk_12, tk_13, tk_14, tk_15, tk_16, tk_17] at g1 g2 g3
          obtain ⟨q, hq, rfl⟩ := in_nat' (by omega) g1
          obtain ⟨i_, hi, rfl⟩ := in_nat (k := 2) rfl (by omega) g2
          obtain ⟨z_, hz, rfl⟩ := in_nat (k := 2) rfl (by omega) g3
          refine ⟨fun h7 => ?_, fun h7 => ?_⟩
          · refine ⟨by simp only [wI_1, wI_w, p1, p8, p9, p10, p12, p13, b137, b138, b139, b140, b141, b142, b143] <;> first | rfl | decide, ?_⟩
            refine ⟨⟨Nat.le_of_ble_eq_true rfl, Nat.le_of_ble_eq_true rfl, Nat.le_of_ble_eq_true rfl⟩, _, by simp only [wI_M, wI_1, wI_w, wI_1, wI_w, p1, p8, p9, p10, p12, p13, q139, q140, q138, q141, q142, q143, bI_e0, Classical.not_not, tk_0, tk_1, tk_2, tk_3, tk_4, tk_5, tk_6, tk_7, tk_8, tk_9, tk_10, tk_11, tk_12, tk_13, tk_14, tk_15, tk_16, tk_17]; exact T_rStuck hM.now (by omega) (by omega), ?_⟩
            rintro _ _ ⟨rfl, rfl⟩
            refine ⟨Or.inl rfl, ?_⟩
            refine ⟨fun h8 => ?_, fun h8 => ?_⟩
            · (try simp only [wI_M, wI_1, wI_w, wI_1, wI_w, p1, p8, p9, p10, p12, p13, q139, q140, q138, q141, q142, q143, bI_e0, Classical.not_not, tk_0, tk_1, tk_2, tk_3, tk_4, tk_5, tk_6, tk_7, tk_8, tk_9, tk_10, tk_11, tk_12, tk_13, tk_14, tk_15, tk_16, tk_17] at h1)
              (try simp only [wI_M, wI_1, wI_w, wI_1, wI_w, p1, p8, p9, p10, p12, p13, q139, q140, q138, q141, q142, q143, bI_e0, Classical.not_not, tk_0, tk_1, tk_2, tk_3, tk_4, tk_5, tk_6, tk_7, tk_8, tk_9, tk_10, tk_11, tk_12, tk_13, tk_14, tk_15, tk_16, tk_17] at h3)
              (try simp only [wI_M, wI_1, wI_w, wI_1, wI_w, p1, p8, p9, p10, p12, p13, q139, q140, q138, q141, q142, q143, bI_e0, Classical.not_not, tk_0, tk_1, tk_2, tk_3, tk_4, tk_5, tk_6, tk_7, tk_8, tk_9, tk_10, tk_11, tk_12, tk_13, tk_14, tk_15, tk_16, tk_17] at h4)
              (try simp only [wI_M, wI_1, wI_w, wI_1, wI_w, p1, p8, p9, p10, p12, p13, q139, q140, q138, q141, q142, q143, bI_e0, Classical.not_not, tk_0, tk_1, tk_2, tk_3, tk_4, tk_5, tk_6, tk_7, tk_8, tk_9, tk_10, tk_11, tk_12, tk_13, tk_14, tk_15, tk_16, tk_17] at h8)
              refine ⟨⟨Nat.zero_le _, Nat.zero_le _⟩, _, _, rfl, rfl, ?_, ?_, Jk_Q M (by omega)⟩
              · unfold aCell; rw [if_pos h1, if_pos h3, if_pos h4]; exact setQ_s
              · unfold aCell; rw [if_pos h1, if_pos h3, if_pos h4]; intro _; rw [if_pos h7, ck (show q < 2147483648 by omega), ck (show i_ < 2147483648 by omega)]; exact (bI_f (fun h_ => h_ h8)).symm
            · (try simp only [wI_M, wI_1, wI_w, wI_1, wI_w, p1, p8, p9, p10, p12, p13, q139, q140, q138, q141, q142, q143, bI_e0, Classical.not_not, tk_0, tk_1, tk_2, tk_3, tk_4, tk_5, tk_6, tk_7, tk_8, tk_9, tk_10, tk_11, tk_12, tk_13, tk_14, tk_15, tk_16, tk_17] at h1)
              (try simp only [wI_M, wI_1, wI_w, wI_1, wI_w, p1, p8, p9, p10, p12, p13, q139, q140, q138, q141, q142, q143, bI_e0, Classical.not_not, tk_0, tk_1, tk_2, tk_3, tk_4, tk_5, tk_6, tk_7, tk_8, tk_9, tk_10, tk_11, tk_12, tk_13, tk_14, tk_15, tk_16, tk_17] at h3)
              (try simp only [wI_M, wI_1, wI_w, wI_1, wI_w, p1, p8, p9, p10, p12, p13, q139, q140, q138, q141, q142, q143, bI_e0, Classical.not_not, tk_0, tk_1, tk_2, tk_3, tk_4, tk_5, tk_6, tk_7, tk_8, tk_9, tk_10, tk_11, tk_12, tk_13, tk_14, tk_15, tk_16, tk_17] at h4)
              (try simp only [wI_M, wI_1, wI_w, wI_1, wI_w, p1, p8, p9, p10, p12, p13, q139, q140, q138, q141, q142, q143, bI_e0, Classical.not_not, tk_0, tk_1, tk_2, tk_3, tk_4, tk_5, tk_6, tk_7, tk_8, tk_9, tk_10, tk_11, tk_12, tk_13, tk_14, tk_15, tk_16, tk_17] at h8)
              refine ⟨⟨Nat.zero_le _, Nat.zero_le _⟩, _, _, rfl, rfl, ?_, ?_, Jk_Q M (by omega)⟩
              · unfold aCell; rw [if_pos h1, if_pos h3, if_pos h4]; exact setQ_s
              · unfold aCell; rw [if_pos h1, if_pos h3, if_pos h4]; intro _; rw [if_pos h7, ck (show q < 2147483648 by omega), ck (show i_ < 2147483648 by omega)]; exact (bI_t h8).symm
          · have z2 : z_ ≤ 1 := by have h_ := h7; rw [o_2, nI_leI (by omega) (by omega)] at h_; omega
            refine ⟨by simp only [wI_1, wI_w, p1, p8, p9, p10, p12, p13, b137, b138, b139, b140, b141, b142, b143] <;> first | rfl | decide, ?_⟩
            refine ⟨⟨Nat.le_of_ble_eq_true rfl, Nat.le_of_ble_eq_true rfl, Nat.le_of_ble_eq_true rfl⟩, _, T_at, ?_⟩
            rintro _ _ ⟨rfl, rfl⟩
            refine ⟨Or.inl rfl, ?_⟩
            refine ⟨by simp only [wI_1, wI_w, p1, p8, p9, p10, p12, p13, b137, b138, b139, b140, b141, b142, b143] <;> first | rfl | decide, (by simp only [wI_1, wI_w, p1, p8, p9, p10, p12, p13, n138, n139, n140, n141, n142, n143, nI_add]; exact vp_in_nI (show 42 + 2 * (3 * q + i_) + z_ < 114 by omega) (by omega)), ?_⟩
            (try simp only [wI_M, wI_1, wI_w, wI_1, wI_w, p1, p8, p9, p10, p12, p13, q139, q140, q138, q141, q142, q143, bI_e0, Classical.not_not, tk_0, tk_1, tk_2, tk_3, tk_4, tk_5, tk_6, tk_7, tk_8, tk_9, tk_10, tk_11, tk_12, tk_13, tk_14, tk_15, tk_16, tk_17] at h1)
            (try simp only [wI_M, wI_1, wI_w, wI_1, wI_w, p1, p8, p9, p10, p12, p13, q139, q140, q138, q141, q142, q143, bI_e0, Classical.not_not, tk_0, tk_1, tk_2, tk_3, tk_4, tk_5, tk_6, tk_7, tk_8, tk_9, tk_10, tk_11, tk_12, tk_13, tk_14, tk_15, tk_16, tk_17] at h3)
            (try simp only [wI_M, wI_1, wI_w, wI_1, wI_w, p1, p8, p9, p10, p12, p13, q139, q140, q138, q141, q142, q143, bI_e0, Classical.not_not, tk_0, tk_1, tk_2, tk_3, tk_4, tk_5, tk_6, tk_7, tk_8, tk_9, tk_10, tk_11, tk_12, tk_13, tk_14, tk_15, tk_16, tk_17] at h4)
            refine ⟨⟨Nat.zero_le _, Nat.zero_le _⟩, _, _, rfl, rfl, ?_, ?_, Jk_Q M (by omega)⟩
            · unfold aCell; rw [if_pos h1, if_pos h3, if_pos h4]; exact setQ_s
            · unfold aCell; rw [if_pos h1, if_pos h3, if_pos h4]; intro _; rw [if_neg h7]; simp only [wI_M, wI_1, wI_w, wI_1, wI_w, p1, p8, p9, p10, p12, p13, q139, q140, q138, q141, q142, q143, bI_e0, Classical.not_not, tk_0, tk_1, tk_2, tk_3, tk_4, tk_5, tk_6, tk_7, tk_8, tk_9, tk_10, tk_11, tk_12, tk_13, tk_14, tk_15, tk_16, tk_17, nI_add, ck (show 42 + 2 * (3 * q + i_) + z_ < 2147483648 by omega), ck (show q < 2147483648 by omega), ck (show i_ < 2147483648 by omega), ck (show z_ < 2147483648 by omega)]
        · exact absurd h6 (by decide)
    · refine ⟨⟨Nat.le_of_ble_eq_true rfl, Nat.le_of_ble_eq_true rfl, Nat.le_of_ble_eq_true rfl⟩, by simp only [wI_1, wI_w, p1, p8, p9, p10, p12, p13, b137, b138, b139, b140, b141, b142, b143] <;> first | rfl | decide, _, T_refused (x := 1) hM, ?_⟩
      rintro _ w1 ⟨rfl, hw⟩
      have hw : w1 = (S, setQ M 0 1, J) := hw
      subst hw
      refine ⟨Or.inl rfl, ?_⟩
      refine ⟨fun h9 => ?_, fun h9 => ?_⟩
      · exact absurd h9 (by decide)
      · (try simp only [wI_M, wI_1, wI_w, wI_1, wI_w, p1, p8, p9, p10, p12, p13, q139, q140, q138, q141, q142, q143, bI_e0, Classical.not_not, tk_0, tk_1, tk_2, tk_3, tk_4, tk_5, tk_6, tk_7, tk_8, tk_9, tk_10, tk_11, tk_12, tk_13, tk_14, tk_15, tk_16, tk_17] at h1)
        (try simp only [wI_M, wI_1, wI_w, wI_1, wI_w, p1, p8, p9, p10, p12, p13, q139, q140, q138, q141, q142, q143, bI_e0, Classical.not_not, tk_0, tk_1, tk_2, tk_3, tk_4, tk_5, tk_6, tk_7, tk_8, tk_9, tk_10, tk_11, tk_12, tk_13, tk_14, tk_15, tk_16, tk_17] at h3)
        refine ⟨⟨Nat.zero_le _, Nat.zero_le _⟩, _, _, rfl, rfl, ?_, ?_, Jk_Q M (by omega)⟩
        · unfold aCell; rw [if_pos h1, if_neg h3]; exact setQ_s
        · unfold aCell; rw [if_pos h1, if_neg h3]; intro h_; exact absurd h_ (by decide)
set_option maxHeartbeats 1000000 in
theorem R_why {d : Nat} {S : Sc} {M : Nat → Nat → Int32} {J : Nat → Nat → Int64} {n : Nat} (hM : MoS S) (h0 : M 139 0 = nI n) (h1n : 1 ≤ n) (hn : n ≤ 12) {x : Int32} : Wp (d + 4) 142 [.ref 137, .int x] (S, M, J) (fun rs w' => ∃ v M', rs = .inl (some (.int v)) ∧ w' = (S, M', J) ∧ M' 137 0 = nI (aWhy (M 139) n x).1 ∧ ((aWhy (M 139) n x).1 = 0 → v = (aWhy (M 139) n x).2) ∧ Jk M M') := by
  obtain ⟨⟨b137, p1, p8, p9, p10, p12, p13⟩, ⟨b138, b139, b140, b141, b142, b143⟩, n138, n139, n140, n141, n142, n143⟩ := id hM
  refine ⟨rfl, ?_⟩
  refine EE.runN (stop := atPc [26]) 80 _ ?_
  refine ⟨⟨Nat.le_of_ble_eq_true rfl, Nat.le_of_ble_eq_true rfl, Nat.le_of_ble_eq_true rfl⟩, by simp only [wI_1, wI_w, p1, p8, p9, p10, p12, p13, b137, b138, b139, b140, b141, b142, b143] <;> first | rfl | decide, _, T_isSlot hM h0 h1n hn, ?_⟩
  rintro _ _ ⟨rfl, rfl⟩
  refine ⟨Or.inl rfl, ?_⟩
  refine ⟨fun h1 => ?_, fun h1 => ?_⟩
  · refine ⟨⟨Nat.le_of_ble_eq_true rfl, Nat.le_of_ble_eq_true rfl, Nat.le_of_ble_eq_true rfl⟩, by simp only [wI_1, wI_w, p1, p8, p9, p10, p12, p13, b137, b138, b139, b140, b141, b142, b143] <;> first | rfl | decide, _, T_refused (x := 1) hM, ?_⟩
    rintro _ w1 ⟨rfl, hw⟩
    have hw : w1 = (S, setQ M 0 1, J) := hw
    subst hw
    refine ⟨Or.inl rfl, ?_⟩
    refine ⟨fun h2 => ?_, fun h2 => ?_⟩
    · exact absurd h2 (by decide)
    · (try simp only [wI_M, wI_1, wI_w, wI_1, wI_w, p1, p8, p9, p10, p12, p13, q139, q140, q138, q141, q142, q143, bI_e0, Classical.not_not, tk_0, tk_1, tk_2, tk_3, tk_4, tk_5, tk_6, tk_7, tk_8, tk_9, tk_10, tk_11, tk_12, tk_13, tk_14, tk_15, tk_16, tk_17] at h1)
      refine ⟨⟨Nat.zero_le _, Nat.zero_le _⟩, _, _, rfl, rfl, ?_, ?_, Jk_Q M (by omega)⟩
      · unfold aWhy; rw [if_neg h1]; exact setQ_s
      · unfold aWhy; rw [if_neg h1]; intro h_; exact absurd h_ (by decide)
  · refine ⟨⟨Nat.le_of_ble_eq_true rfl, Nat.le_of_ble_eq_true rfl, Nat.le_of_ble_eq_true rfl⟩, by simp only [wI_1, wI_w, p1, p8, p9, p10, p12, p13, b137, b138, b139, b140, b141, b142, b143] <;> first | rfl | decide, _, T_refused (x := 0) hM, ?_⟩
    rintro _ w1 ⟨rfl, hw⟩
    have hw : w1 = (S, setQ M 0 0, J) := hw
    subst hw
    refine ⟨Or.inl rfl, ?_⟩
    refine ⟨fun h3 => ?_, fun h3 => ?_⟩
    · have g_ := h1
      simp only [wI_M, wI_1, wI_w, wI_1, wI_w, p1, p8, p9, p10, p12, p13, q139, q140, q138, q141, q142, q143, bI_e0, Classical.not_not, tk_0, tk_1, tk_2, tk_3, tk_4, tk_5, tk_6, tk_7, tk_8, tk_9, tk_10, tk_11, tk_12, tk_13, tk_14, tk_15, tk_16, tk_17] at g_
      obtain ⟨q, hq, rfl⟩ := in_nat' (by omega) g_
      refine ee_at (nt := nzT 142) [(0, .ref 137), (1, .int (nI q)), (2, .int (rReadable (M 139) q (0))), (3, .int (nI (0)))] (S, setQ M 0 0, J) rfl (by rfl) (by rfl) ?_
      refine ee_loop (fun k => (26, [(0, .ref 137), (1, .int (nI q)), (2, .int (rReadable (M 139) q (k))), (3, .int (nI (k)))], [], (S, setQ M 0 0, J), 0, 0)) (3) (fun k h_k ih_k => ?_) ?_
      · refine EE.runN (stop := atPc [26]) 80 _ ?_
        refine ⟨fun h4 => ?_, fun h4 => ?_⟩
        · exact absurd h4 (nI_ge (b := 3) h_k (by omega))
        · refine ⟨by simp only [wI_1, wI_w, p1, p8, p9, p10, p12, p13, b137, b138, b139, b140, b141, b142, b143] <;> first | rfl | decide, ?_⟩
          refine ⟨⟨Nat.le_of_ble_eq_true rfl, Nat.le_of_ble_eq_true rfl, Nat.le_of_ble_eq_true rfl⟩, _, T_at, ?_⟩
          rintro _ _ ⟨rfl, rfl⟩
          refine ⟨Or.inl rfl, ?_⟩
          refine ⟨by simp only [wI_1, wI_w, p1, p8, p9, p10, p12, p13, b137, b138, b139, b140, b141, b142, b143] <;> first | rfl | decide, (by simp only [wI_1, wI_w, p1, p8, p9, p10, p12, p13, n138, n139, n140, n141, n142, n143]; exact vp_in_nI (show 42 + 2 * (3 * q + k) < 114 by omega) (by omega)), ?_⟩
          refine ⟨fun h5 => ?_, fun h5 => ?_⟩
          · refine ee_at (nt := nzT 142) [(0, .ref 137), (1, .int (nI q)), (2, .int (rReadable (M 139) q ((k + 1)))), (3, .int (nI ((k + 1))))] (S, setQ M 0 0, J) rfl (by have h_ := h5; simp only [wI_M, wI_1, wI_w, wI_1, wI_w, p1, p8, p9, p10, p12, p13, q139, q140, q138, q141, q142, q143, bI_e0, Classical.not_not, tk_0, tk_1, tk_2, tk_3, tk_4, tk_5, tk_6, tk_7, tk_8, tk_9, tk_10, tk_11, tk_12, tk_13, tk_14, tk_15, tk_16, tk_17, ck (show 42 + 2 * (3 * q + k) < 2147483648 by omega)] at h_; rw [rReadable, if_neg h_, ← nI_1 k]; rfl) (by rfl) ?_
            exact ih_k
          · refine ee_at (nt := nzT 142) [(0, .ref 137), (1, .int (nI q)), (2, .int (rReadable (M 139) q ((k + 1)))), (3, .int (nI ((k + 1))))] (S, setQ M 0 0, J) rfl (by have h_ := h5; simp only [wI_M, wI_1, wI_w, wI_1, wI_w, p1, p8, p9, p10, p12, p13, q139, q140, q138, q141, q142, q143, bI_e0, Classical.not_not, tk_0, tk_1, tk_2, tk_3, tk_4, tk_5, tk_6, tk_7, tk_8, tk_9, tk_10, tk_11, tk_12, tk_13, tk_14, tk_15, tk_16, tk_17, ck (show 42 + 2 * (3 * q + k) < 2147483648 by omega)] at h_; rw [rReadable, if_pos h_, ← nI_1 k]; simp only [Int32.add_zero]; rfl) (by rfl) ?_
            exact ih_k
      · refine EE.runN (stop := atPc [26]) 80 _ ?_
        refine ⟨fun h6 => ?_, fun h6 => ?_⟩
        · refine ⟨by simp only [wI_1, wI_w, p1, p8, p9, p10, p12, p13, b137, b138, b139, b140, b141, b142, b143] <;> first | rfl | decide, ?_⟩
          refine ⟨⟨Nat.le_of_ble_eq_true rfl, Nat.le_of_ble_eq_true rfl, Nat.le_of_ble_eq_true rfl⟩, _, by simp only [wI_M, wI_1, wI_w, wI_1, wI_w, p1, p8, p9, p10, p12, p13, q139, q140, q138, q141, q142, q143, bI_e0, Classical.not_not, tk_0, tk_1, tk_2, tk_3, tk_4, tk_5, tk_6, tk_7, tk_8, tk_9, tk_10, tk_11, tk_12, tk_13, tk_14, tk_15, tk_16, tk_17]; exact T_saysOf hM.now (by omega), ?_⟩
          rintro _ _ ⟨rfl, rfl⟩
          refine ⟨Or.inl rfl, ?_⟩
          refine ⟨fun h7 => ?_, fun h7 => ?_⟩
          · refine ⟨fun h8 => ?_, fun h8 => ?_⟩
            · (try simp only [wI_M, wI_1, wI_w, wI_1, wI_w, p1, p8, p9, p10, p12, p13, q139, q140, q138, q141, q142, q143, bI_e0, Classical.not_not, tk_0, tk_1, tk_2, tk_3, tk_4, tk_5, tk_6, tk_7, tk_8, tk_9, tk_10, tk_11, tk_12, tk_13, tk_14, tk_15, tk_16, tk_17] at h1)
              (try simp only [wI_M, wI_1, wI_w, wI_1, wI_w, p1, p8, p9, p10, p12, p13, q139, q140, q138, q141, q142, q143, bI_e0, Classical.not_not, tk_0, tk_1, tk_2, tk_3, tk_4, tk_5, tk_6, tk_7, tk_8, tk_9, tk_10, tk_11, tk_12, tk_13, tk_14, tk_15, tk_16, tk_17] at h7)
              (try simp only [wI_M, wI_1, wI_w, wI_1, wI_w, p1, p8, p9, p10, p12, p13, q139, q140, q138, q141, q142, q143, bI_e0, Classical.not_not, tk_0, tk_1, tk_2, tk_3, tk_4, tk_5, tk_6, tk_7, tk_8, tk_9, tk_10, tk_11, tk_12, tk_13, tk_14, tk_15, tk_16, tk_17] at h8)
              refine ⟨⟨Nat.zero_le _, Nat.zero_le _⟩, _, _, rfl, rfl, ?_, ?_, Jk_Q M (by omega)⟩
              · unfold aWhy; rw [ck (show q < 2147483648 by omega), if_pos h1, if_pos h7, if_pos h8]; exact setQ_s
              · unfold aWhy; rw [ck (show q < 2147483648 by omega), if_pos h1, if_pos h7, if_pos h8]; intro _; rfl
            · (try simp only [wI_M, wI_1, wI_w, wI_1, wI_w, p1, p8, p9, p10, p12, p13, q139, q140, q138, q141, q142, q143, bI_e0, Classical.not_not, tk_0, tk_1, tk_2, tk_3, tk_4, tk_5, tk_6, tk_7, tk_8, tk_9, tk_10, tk_11, tk_12, tk_13, tk_14, tk_15, tk_16, tk_17] at h1)
              (try simp only [wI_M, wI_1, wI_w, wI_1, wI_w, p1, p8, p9, p10, p12, p13, q139, q140, q138, q141, q142, q143, bI_e0, Classical.not_not, tk_0, tk_1, tk_2, tk_3, tk_4, tk_5, tk_6, tk_7, tk_8, tk_9, tk_10, tk_11, tk_12, tk_13, tk_14, tk_15, tk_16, tk_17] at h7)
              (try simp only [wI_M, wI_1, wI_w, wI_1, wI_w, p1, p8, p9, p10, p12, p13, q139, q140, q138, q141, q142, q143, bI_e0, Classical.not_not, tk_0, tk_1, tk_2, tk_3, tk_4, tk_5, tk_6, tk_7, tk_8, tk_9, tk_10, tk_11, tk_12, tk_13, tk_14, tk_15, tk_16, tk_17] at h8)
              refine ⟨⟨Nat.zero_le _, Nat.zero_le _⟩, _, _, rfl, rfl, ?_, ?_, Jk_Q M (by omega)⟩
              · unfold aWhy; rw [ck (show q < 2147483648 by omega), if_pos h1, if_pos h7, if_neg h8]; exact setQ_s
              · unfold aWhy; rw [ck (show q < 2147483648 by omega), if_pos h1, if_pos h7, if_neg h8]; intro _; rfl
          · (try simp only [wI_M, wI_1, wI_w, wI_1, wI_w, p1, p8, p9, p10, p12, p13, q139, q140, q138, q141, q142, q143, bI_e0, Classical.not_not, tk_0, tk_1, tk_2, tk_3, tk_4, tk_5, tk_6, tk_7, tk_8, tk_9, tk_10, tk_11, tk_12, tk_13, tk_14, tk_15, tk_16, tk_17] at h1)
            (try simp only [wI_M, wI_1, wI_w, wI_1, wI_w, p1, p8, p9, p10, p12, p13, q139, q140, q138, q141, q142, q143, bI_e0, Classical.not_not, tk_0, tk_1, tk_2, tk_3, tk_4, tk_5, tk_6, tk_7, tk_8, tk_9, tk_10, tk_11, tk_12, tk_13, tk_14, tk_15, tk_16, tk_17] at h7)
            refine ⟨⟨Nat.zero_le _, Nat.zero_le _⟩, _, _, rfl, rfl, ?_, ?_, Jk_Q M (by omega)⟩
            · unfold aWhy; rw [ck (show q < 2147483648 by omega), if_pos h1, if_neg h7]; exact setQ_s
            · unfold aWhy; rw [ck (show q < 2147483648 by omega), if_pos h1, if_neg h7]; intro _; rfl
        · exact absurd (nI_le (Nat.le_refl 3) (by omega)) h6
    · exact absurd h3 (by decide)
set_option maxHeartbeats 1000000 in
theorem R_share {d : Nat} {S : Sc} {M : Nat → Nat → Int32} {J : Nat → Nat → Int64} {n : Nat} (hM : MoS S) (h0 : M 139 0 = nI n) (h1n : 1 ≤ n) (hn : n ≤ 12) {x : Int32} : Wp (d + 4) 143 [.ref 137, .int x] (S, M, J) (fun rs w' => ∃ v M', rs = .inl (some (.int v)) ∧ w' = (S, M', J) ∧ M' 137 0 = nI (aShare (M 139) n x).1 ∧ ((aShare (M 139) n x).1 = 0 → v = (aShare (M 139) n x).2) ∧ Jk M M') := by
  obtain ⟨⟨b137, p1, p8, p9, p10, p12, p13⟩, ⟨b138, b139, b140, b141, b142, b143⟩, n138, n139, n140, n141, n142, n143⟩ := id hM
  refine ⟨rfl, ?_⟩
  refine EE.runN (stop := atPc [26]) 80 _ ?_
  refine ⟨⟨Nat.le_of_ble_eq_true rfl, Nat.le_of_ble_eq_true rfl, Nat.le_of_ble_eq_true rfl⟩, by simp only [wI_1, wI_w, p1, p8, p9, p10, p12, p13, b137, b138, b139, b140, b141, b142, b143] <;> first | rfl | decide, _, T_isSlot hM h0 h1n hn, ?_⟩
  rintro _ _ ⟨rfl, rfl⟩
  refine ⟨Or.inl rfl, ?_⟩
  refine ⟨fun h1 => ?_, fun h1 => ?_⟩
  · refine ⟨⟨Nat.le_of_ble_eq_true rfl, Nat.le_of_ble_eq_true rfl, Nat.le_of_ble_eq_true rfl⟩, by simp only [wI_1, wI_w, p1, p8, p9, p10, p12, p13, b137, b138, b139, b140, b141, b142, b143] <;> first | rfl | decide, _, T_refused (x := 1) hM, ?_⟩
    rintro _ w1 ⟨rfl, hw⟩
    have hw : w1 = (S, setQ M 0 1, J) := hw
    subst hw
    refine ⟨Or.inl rfl, ?_⟩
    refine ⟨fun h2 => ?_, fun h2 => ?_⟩
    · exact absurd h2 (by decide)
    · (try simp only [wI_M, wI_1, wI_w, wI_1, wI_w, p1, p8, p9, p10, p12, p13, q139, q140, q138, q141, q142, q143, bI_e0, Classical.not_not, tk_0, tk_1, tk_2, tk_3, tk_4, tk_5, tk_6, tk_7, tk_8, tk_9, tk_10, tk_11, tk_12, tk_13, tk_14, tk_15, tk_16, tk_17] at h1)
      refine ⟨⟨Nat.zero_le _, Nat.zero_le _⟩, _, _, rfl, rfl, ?_, ?_, Jk_Q M (by omega)⟩
      · unfold aShare; rw [if_neg h1]; exact setQ_s
      · unfold aShare; rw [if_neg h1]; intro h_; exact absurd h_ (by decide)
  · refine ⟨⟨Nat.le_of_ble_eq_true rfl, Nat.le_of_ble_eq_true rfl, Nat.le_of_ble_eq_true rfl⟩, by simp only [wI_1, wI_w, p1, p8, p9, p10, p12, p13, b137, b138, b139, b140, b141, b142, b143] <;> first | rfl | decide, _, T_refused (x := 0) hM, ?_⟩
    rintro _ w1 ⟨rfl, hw⟩
    have hw : w1 = (S, setQ M 0 0, J) := hw
    subst hw
    refine ⟨Or.inl rfl, ?_⟩
    refine ⟨fun h3 => ?_, fun h3 => ?_⟩
    · have g_ := h1
      simp only [wI_M, wI_1, wI_w, wI_1, wI_w, p1, p8, p9, p10, p12, p13, q139, q140, q138, q141, q142, q143, bI_e0, Classical.not_not, tk_0, tk_1, tk_2, tk_3, tk_4, tk_5, tk_6, tk_7, tk_8, tk_9, tk_10, tk_11, tk_12, tk_13, tk_14, tk_15, tk_16, tk_17] at g_
      obtain ⟨q, hq, rfl⟩ := in_nat' (by omega) g_
      refine ee_at (nt := nzT 143) [(0, .ref 137), (1, .int (nI q)), (2, .int (rAll (M 139) (0))), (3, .int (nI (0)))] (S, setQ M 0 0, J) rfl (by rfl) (by rfl) ?_
      refine ee_loop (fun k => (26, [(0, .ref 137), (1, .int (nI q)), (2, .int (rAll (M 139) (k))), (3, .int (nI (k)))], [], (S, setQ M 0 0, J), 0, 0)) (n) (fun k h_k ih_k => ?_) ?_
      · refine EE.runN (stop := atPc [26]) 80 _ ?_
        refine ⟨by simp only [wI_1, wI_w, p1, p8, p9, p10, p12, p13, b137, b138, b139, b140, b141, b142, b143] <;> first | rfl | decide, ?_⟩
        refine ⟨by simp only [wI_1, wI_w, p1, p8, p9, p10, p12, p13, b137, b138, b139, b140, b141, b142, b143] <;> first | rfl | decide, (by simp only [wI_1, wI_w, p1, p8, p9, p10, p12, p13, n138, n139, n140, n141, n142, n143]; exact vp_in_nI (show 0 < 114 by omega) (by omega)), ?_⟩
        refine ⟨fun h4 => ?_, fun h4 => ?_⟩
        · (simp only [wI_M, wI_1, wI_w, wI_1, wI_w, p1, p8, p9, p10, p12, p13, q139, q140, q138, q141, q142, q143, bI_e0, Classical.not_not, tk_0, tk_1, tk_2, tk_3, tk_4, tk_5, tk_6, tk_7, tk_8, tk_9, tk_10, tk_11, tk_12, tk_13, tk_14, tk_15, tk_16, tk_17, h0] at h4; exact absurd h4 (nI_ge h_k (by omega)))
        · refine ⟨by simp only [wI_1, wI_w, p1, p8, p9, p10, p12, p13, b137, b138, b139, b140, b141, b142, b143] <;> first | rfl | decide, ?_⟩
          refine ⟨⟨Nat.le_of_ble_eq_true rfl, Nat.le_of_ble_eq_true rfl, Nat.le_of_ble_eq_true rfl⟩, _, by simp only [wI_M, wI_1, wI_w, wI_1, wI_w, p1, p8, p9, p10, p12, p13, q139, q140, q138, q141, q142, q143, bI_e0, Classical.not_not, tk_0, tk_1, tk_2, tk_3, tk_4, tk_5, tk_6, tk_7, tk_8, tk_9, tk_10, tk_11, tk_12, tk_13, tk_14, tk_15, tk_16, tk_17]; exact T_rWear hM.now (by omega), ?_⟩
          rintro _ _ ⟨rfl, rfl⟩
          refine ⟨Or.inl rfl, ?_⟩
          refine ee_at (nt := nzT 143) [(0, .ref 137), (1, .int (nI q)), (2, .int (rAll (M 139) ((k + 1)))), (3, .int (nI ((k + 1))))] (S, setQ M 0 0, J) rfl (by rw [rAll, ← nI_1 k]; rfl) (by rfl) ?_
          exact ih_k
      · refine EE.runN (stop := atPc [26]) 80 _ ?_
        refine ⟨by simp only [wI_1, wI_w, p1, p8, p9, p10, p12, p13, b137, b138, b139, b140, b141, b142, b143] <;> first | rfl | decide, ?_⟩
        refine ⟨by simp only [wI_1, wI_w, p1, p8, p9, p10, p12, p13, b137, b138, b139, b140, b141, b142, b143] <;> first | rfl | decide, (by simp only [wI_1, wI_w, p1, p8, p9, p10, p12, p13, n138, n139, n140, n141, n142, n143]; exact vp_in_nI (show 0 < 114 by omega) (by omega)), ?_⟩
        refine ⟨fun h5 => ?_, fun h5 => ?_⟩
        · refine ⟨fun h6 => ?_, fun h6 => ?_⟩
          · have h_all := h6
            refine ⟨by simp only [wI_1, wI_w, p1, p8, p9, p10, p12, p13, b137, b138, b139, b140, b141, b142, b143] <;> first | rfl | decide, ?_⟩
            refine ⟨⟨Nat.le_of_ble_eq_true rfl, Nat.le_of_ble_eq_true rfl, Nat.le_of_ble_eq_true rfl⟩, _, by simp only [wI_M, wI_1, wI_w, wI_1, wI_w, p1, p8, p9, p10, p12, p13, q139, q140, q138, q141, q142, q143, bI_e0, Classical.not_not, tk_0, tk_1, tk_2, tk_3, tk_4, tk_5, tk_6, tk_7, tk_8, tk_9, tk_10, tk_11, tk_12, tk_13, tk_14, tk_15, tk_16, tk_17]; exact T_rWear hM.now (by omega), ?_⟩
            rintro _ _ ⟨rfl, rfl⟩
            refine ⟨Or.inl rfl, ?_⟩
            refine ⟨by first | decide | exact h_all, ?_⟩
            (try simp only [wI_M, wI_1, wI_w, wI_1, wI_w, p1, p8, p9, p10, p12, p13, q139, q140, q138, q141, q142, q143, bI_e0, Classical.not_not, tk_0, tk_1, tk_2, tk_3, tk_4, tk_5, tk_6, tk_7, tk_8, tk_9, tk_10, tk_11, tk_12, tk_13, tk_14, tk_15, tk_16, tk_17] at h1)
            (try simp only [wI_M, wI_1, wI_w, wI_1, wI_w, p1, p8, p9, p10, p12, p13, q139, q140, q138, q141, q142, q143, bI_e0, Classical.not_not, tk_0, tk_1, tk_2, tk_3, tk_4, tk_5, tk_6, tk_7, tk_8, tk_9, tk_10, tk_11, tk_12, tk_13, tk_14, tk_15, tk_16, tk_17] at h6)
            refine ⟨⟨Nat.zero_le _, Nat.zero_le _⟩, _, _, rfl, rfl, ?_, ?_, Jk_Q M (by omega)⟩
            · unfold aShare; rw [if_pos h1, if_neg h6]; exact setQ_s
            · unfold aShare; rw [if_pos h1, if_neg h6]; intro _; simp only [wI_M, wI_1, wI_w, wI_1, wI_w, p1, p8, p9, p10, p12, p13, q139, q140, q138, q141, q142, q143, bI_e0, Classical.not_not, tk_0, tk_1, tk_2, tk_3, tk_4, tk_5, tk_6, tk_7, tk_8, tk_9, tk_10, tk_11, tk_12, tk_13, tk_14, tk_15, tk_16, tk_17, ck (show q < 2147483648 by omega)]
          · (try simp only [wI_M, wI_1, wI_w, wI_1, wI_w, p1, p8, p9, p10, p12, p13, q139, q140, q138, q141, q142, q143, bI_e0, Classical.not_not, tk_0, tk_1, tk_2, tk_3, tk_4, tk_5, tk_6, tk_7, tk_8, tk_9, tk_10, tk_11, tk_12, tk_13, tk_14, tk_15, tk_16, tk_17] at h1)
            (try simp only [wI_M, wI_1, wI_w, wI_1, wI_w, p1, p8, p9, p10, p12, p13, q139, q140, q138, q141, q142, q143, bI_e0, Classical.not_not, tk_0, tk_1, tk_2, tk_3, tk_4, tk_5, tk_6, tk_7, tk_8, tk_9, tk_10, tk_11, tk_12, tk_13, tk_14, tk_15, tk_16, tk_17] at h6)
            refine ⟨⟨Nat.zero_le _, Nat.zero_le _⟩, _, _, rfl, rfl, ?_, ?_, Jk_Q M (by omega)⟩
            · unfold aShare; rw [if_pos h1, if_pos h6]; exact setQ_s
            · unfold aShare; rw [if_pos h1, if_pos h6]; intro _; rfl
        · (simp only [wI_M, wI_1, wI_w, wI_1, wI_w, p1, p8, p9, p10, p12, p13, q139, q140, q138, q141, q142, q143, bI_e0, Classical.not_not, tk_0, tk_1, tk_2, tk_3, tk_4, tk_5, tk_6, tk_7, tk_8, tk_9, tk_10, tk_11, tk_12, tk_13, tk_14, tk_15, tk_16, tk_17, h0] at h5; exact absurd (nI_le (Nat.le_refl n) (by omega)) h5)
    · exact absurd h3 (by decide)
set_option maxHeartbeats 1000000 in
theorem R_serviceAt {d : Nat} {S : Sc} {M : Nat → Nat → Int32} {J : Nat → Nat → Int64} {m : Nat} (hM : MoS S) (h17 : M 139 17 = nI m) (hm : m ≤ 12) {x z : Int32} : Wp (d + 3) 144 [.ref 137, .int x, .int z] (S, M, J) (fun rs w' => ∃ v M', rs = .inl (some (.int v)) ∧ w' = (S, M', J) ∧ M' 137 0 = nI (aServ (M 139) x z).1 ∧ ((aServ (M 139) x z).1 = 0 → v = (aServ (M 139) x z).2) ∧ Jk M M') := by
  obtain ⟨⟨b137, p1, p8, p9, p10, p12, p13⟩, ⟨b138, b139, b140, b141, b142, b143⟩, n138, n139, n140, n141, n142, n143⟩ := id hM
  refine ⟨rfl, ?_⟩
  refine EE.runN (stop := noStop) 80 _ ?_
  refine ⟨fun h1 => ?_, fun h1 => ?_⟩
  · refine ⟨⟨Nat.le_of_ble_eq_true rfl, Nat.le_of_ble_eq_true rfl, Nat.le_of_ble_eq_true rfl⟩, by simp only [wI_1, wI_w, p1, p8, p9, p10, p12, p13, b137, b138, b139, b140, b141, b142, b143] <;> first | rfl | decide, _, T_refused (x := 1) hM, ?_⟩
    rintro _ w1 ⟨rfl, hw⟩
    have hw : w1 = (S, setQ M 0 1, J) := hw
    subst hw
    refine ⟨Or.inl rfl, ?_⟩
    refine ⟨fun h2 => ?_, fun h2 => ?_⟩
    · exact absurd h2 (by decide)
    · (try simp only [wI_M, wI_1, wI_w, wI_1, wI_w, p1, p8, p9, p10, p12, p13, q139, q140, q138, q141, q142, q143, bI_e0, Classical.not_not, tk_0, tk_1, tk_2, tk_3, tk_4, tk_5, tk_6, tk_7, tk_8, tk_9, tk_10, tk_11, tk_12, tk_13, tk_14, tk_15, tk_16, tk_17] at h1)
      refine ⟨⟨Nat.zero_le _, Nat.zero_le _⟩, _, _, rfl, rfl, ?_, ?_, Jk_Q M (by omega)⟩
      · unfold aServ; rw [if_pos h1]; exact setQ_s
      · unfold aServ; rw [if_pos h1]; intro h_; exact absurd h_ (by decide)
  · refine ⟨⟨Nat.le_of_ble_eq_true rfl, Nat.le_of_ble_eq_true rfl, Nat.le_of_ble_eq_true rfl⟩, _, T_in32 (0) (2) rfl rfl, ?_⟩
    rintro _ _ ⟨rfl, rfl⟩
    refine ⟨Or.inl rfl, ?_⟩
    refine ⟨fun h3 => ?_, fun h3 => ?_⟩
    · refine ⟨⟨Nat.le_of_ble_eq_true rfl, Nat.le_of_ble_eq_true rfl, Nat.le_of_ble_eq_true rfl⟩, by simp only [wI_1, wI_w, p1, p8, p9, p10, p12, p13, b137, b138, b139, b140, b141, b142, b143] <;> first | rfl | decide, _, T_refused (x := 0) hM, ?_⟩
      rintro _ w1 ⟨rfl, hw⟩
      have hw : w1 = (S, setQ M 0 0, J) := hw
      subst hw
      refine ⟨Or.inl rfl, ?_⟩
      refine ⟨fun h4 => ?_, fun h4 => ?_⟩
      · refine ⟨by simp only [wI_1, wI_w, p1, p8, p9, p10, p12, p13, b137, b138, b139, b140, b141, b142, b143] <;> first | rfl | decide, ?_⟩
        refine ⟨by simp only [wI_1, wI_w, p1, p8, p9, p10, p12, p13, b137, b138, b139, b140, b141, b142, b143] <;> first | rfl | decide, (by simp only [wI_1, wI_w, p1, p8, p9, p10, p12, p13, n138, n139, n140, n141, n142, n143]; exact vp_in_nI (show 17 < 114 by omega) (by omega)), ?_⟩
        refine ⟨fun h5 => ?_, fun h5 => ?_⟩
        · have g_ := h5
          simp only [wI_M, wI_1, wI_w, wI_1, wI_w, p1, p8, p9, p10, p12, p13, q139, q140, q138, q141, q142, q143, bI_e0, Classical.not_not, tk_0, tk_1, tk_2, tk_3, tk_4, tk_5, tk_6, tk_7, tk_8, tk_9, tk_10, tk_11, tk_12, tk_13, tk_14, tk_15, tk_16, tk_17, h17] at g_
          obtain ⟨q, hq, rfl⟩ := in_nat' (k := m) (by omega) ⟨h1, Int32.not_le.mpr g_⟩
          refine ⟨by simp only [wI_1, wI_w, p1, p8, p9, p10, p12, p13, b137, b138, b139, b140, b141, b142, b143] <;> first | rfl | decide, ?_⟩
          refine ⟨by simp only [wI_1, wI_w, p1, p8, p9, p10, p12, p13, b137, b138, b139, b140, b141, b142, b143] <;> first | rfl | decide, (by simp only [wI_1, wI_w, p1, p8, p9, p10, p12, p13, n138, n139, n140, n141, n142, n143, ix18 (show q < 1000 by omega)]; exact vp_in_nI (show 18 + 2 * q < 114 by omega) (by omega)), ?_⟩
          refine ⟨fun h6 => ?_, fun h6 => ?_⟩
          · refine ⟨fun h7 => ?_, fun h7 => ?_⟩
            · refine ⟨by simp only [wI_1, wI_w, p1, p8, p9, p10, p12, p13, b137, b138, b139, b140, b141, b142, b143] <;> first | rfl | decide, ?_⟩
              refine ⟨by simp only [wI_1, wI_w, p1, p8, p9, p10, p12, p13, b137, b138, b139, b140, b141, b142, b143] <;> first | rfl | decide, (by simp only [wI_1, wI_w, p1, p8, p9, p10, p12, p13, n138, n139, n140, n141, n142, n143, ix19 (show q < 1000 by omega)]; exact vp_in_nI (show 19 + 2 * q < 114 by omega) (by omega)), ?_⟩
              (try simp only [wI_M, wI_1, wI_w, wI_1, wI_w, p1, p8, p9, p10, p12, p13, q139, q140, q138, q141, q142, q143, bI_e0, Classical.not_not, tk_0, tk_1, tk_2, tk_3, tk_4, tk_5, tk_6, tk_7, tk_8, tk_9, tk_10, tk_11, tk_12, tk_13, tk_14, tk_15, tk_16, tk_17] at h1)
              (try simp only [wI_M, wI_1, wI_w, wI_1, wI_w, p1, p8, p9, p10, p12, p13, q139, q140, q138, q141, q142, q143, bI_e0, Classical.not_not, tk_0, tk_1, tk_2, tk_3, tk_4, tk_5, tk_6, tk_7, tk_8, tk_9, tk_10, tk_11, tk_12, tk_13, tk_14, tk_15, tk_16, tk_17] at h3)
              (try simp only [wI_M, wI_1, wI_w, wI_1, wI_w, p1, p8, p9, p10, p12, p13, q139, q140, q138, q141, q142, q143, bI_e0, Classical.not_not, tk_0, tk_1, tk_2, tk_3, tk_4, tk_5, tk_6, tk_7, tk_8, tk_9, tk_10, tk_11, tk_12, tk_13, tk_14, tk_15, tk_16, tk_17] at h5)
              (try simp only [wI_M, wI_1, wI_w, wI_1, wI_w, p1, p8, p9, p10, p12, p13, q139, q140, q138, q141, q142, q143, bI_e0, Classical.not_not, tk_0, tk_1, tk_2, tk_3, tk_4, tk_5, tk_6, tk_7, tk_8, tk_9, tk_10, tk_11, tk_12, tk_13, tk_14, tk_15, tk_16, tk_17] at h6)
              (try simp only [wI_M, wI_1, wI_w, wI_1, wI_w, p1, p8, p9, p10, p12, p13, q139, q140, q138, q141, q142, q143, bI_e0, Classical.not_not, tk_0, tk_1, tk_2, tk_3, tk_4, tk_5, tk_6, tk_7, tk_8, tk_9, tk_10, tk_11, tk_12, tk_13, tk_14, tk_15, tk_16, tk_17] at h7)
              refine ⟨⟨Nat.zero_le _, Nat.zero_le _⟩, _, _, rfl, rfl, ?_, ?_, Jk_Q M (by omega)⟩
              · unfold aServ; rw [if_neg h1, if_pos h3, if_pos h5, if_neg h6, if_neg h7]; exact setQ_s
              · unfold aServ; rw [if_neg h1, if_pos h3, if_pos h5, if_neg h6, if_neg h7]; intro _; simp only [wI_M, wI_1, wI_w, wI_1, wI_w, p1, p8, p9, p10, p12, p13, q139, q140, q138, q141, q142, q143, bI_e0, Classical.not_not, tk_0, tk_1, tk_2, tk_3, tk_4, tk_5, tk_6, tk_7, tk_8, tk_9, tk_10, tk_11, tk_12, tk_13, tk_14, tk_15, tk_16, tk_17, ix19 (show q < 1000 by omega), ck (show 18 + 2 * q < 2147483648 by omega), ck (show 19 + 2 * q < 2147483648 by omega), ck (show q < 2147483648 by omega)]
            · refine ⟨by first | decide | simp only [wI_1, wI_w, p1, p8, p9, p10, p12, p13, b137, b138, b139, b140, b141, b142, b143] <;> first | rfl | decide, ?_⟩
              (try simp only [wI_M, wI_1, wI_w, wI_1, wI_w, p1, p8, p9, p10, p12, p13, q139, q140, q138, q141, q142, q143, bI_e0, Classical.not_not, tk_0, tk_1, tk_2, tk_3, tk_4, tk_5, tk_6, tk_7, tk_8, tk_9, tk_10, tk_11, tk_12, tk_13, tk_14, tk_15, tk_16, tk_17] at h1)
              (try simp only [wI_M, wI_1, wI_w, wI_1, wI_w, p1, p8, p9, p10, p12, p13, q139, q140, q138, q141, q142, q143, bI_e0, Classical.not_not, tk_0, tk_1, tk_2, tk_3, tk_4, tk_5, tk_6, tk_7, tk_8, tk_9, tk_10, tk_11, tk_12, tk_13, tk_14, tk_15, tk_16, tk_17] at h3)
              (try simp only [wI_M, wI_1, wI_w, wI_1, wI_w, p1, p8, p9, p10, p12, p13, q139, q140, q138, q141, q142, q143, bI_e0, Classical.not_not, tk_0, tk_1, tk_2, tk_3, tk_4, tk_5, tk_6, tk_7, tk_8, tk_9, tk_10, tk_11, tk_12, tk_13, tk_14, tk_15, tk_16, tk_17] at h5)
              (try simp only [wI_M, wI_1, wI_w, wI_1, wI_w, p1, p8, p9, p10, p12, p13, q139, q140, q138, q141, q142, q143, bI_e0, Classical.not_not, tk_0, tk_1, tk_2, tk_3, tk_4, tk_5, tk_6, tk_7, tk_8, tk_9, tk_10, tk_11, tk_12, tk_13, tk_14, tk_15, tk_16, tk_17] at h6)
              (try simp only [wI_M, wI_1, wI_w, wI_1, wI_w, p1, p8, p9, p10, p12, p13, q139, q140, q138, q141, q142, q143, bI_e0, Classical.not_not, tk_0, tk_1, tk_2, tk_3, tk_4, tk_5, tk_6, tk_7, tk_8, tk_9, tk_10, tk_11, tk_12, tk_13, tk_14, tk_15, tk_16, tk_17] at h7)
              refine ⟨⟨Nat.zero_le _, Nat.zero_le _⟩, _, _, rfl, rfl, ?_, ?_, Jk_Q M (by omega)⟩
              · unfold aServ; rw [if_neg h1, if_pos h3, if_pos h5, if_neg h6, if_pos h7]; exact setQ_s
              · unfold aServ; rw [if_neg h1, if_pos h3, if_pos h5, if_neg h6, if_pos h7]; intro _; simp only [wI_M, wI_1, wI_w, wI_1, wI_w, p1, p8, p9, p10, p12, p13, q139, q140, q138, q141, q142, q143, bI_e0, Classical.not_not, tk_0, tk_1, tk_2, tk_3, tk_4, tk_5, tk_6, tk_7, tk_8, tk_9, tk_10, tk_11, tk_12, tk_13, tk_14, tk_15, tk_16, tk_17, ix18 (show q < 1000 by omega), ck (show 18 + 2 * q < 2147483648 by omega), ck (show 19 + 2 * q < 2147483648 by omega), ck (show q < 2147483648 by omega)]
          · refine ⟨by first | decide | simp only [wI_1, wI_w, p1, p8, p9, p10, p12, p13, b137, b138, b139, b140, b141, b142, b143] <;> first | rfl | decide, ?_⟩
            (try simp only [wI_M, wI_1, wI_w, wI_1, wI_w, p1, p8, p9, p10, p12, p13, q139, q140, q138, q141, q142, q143, bI_e0, Classical.not_not, tk_0, tk_1, tk_2, tk_3, tk_4, tk_5, tk_6, tk_7, tk_8, tk_9, tk_10, tk_11, tk_12, tk_13, tk_14, tk_15, tk_16, tk_17] at h1)
            (try simp only [wI_M, wI_1, wI_w, wI_1, wI_w, p1, p8, p9, p10, p12, p13, q139, q140, q138, q141, q142, q143, bI_e0, Classical.not_not, tk_0, tk_1, tk_2, tk_3, tk_4, tk_5, tk_6, tk_7, tk_8, tk_9, tk_10, tk_11, tk_12, tk_13, tk_14, tk_15, tk_16, tk_17] at h3)
            (try simp only [wI_M, wI_1, wI_w, wI_1, wI_w, p1, p8, p9, p10, p12, p13, q139, q140, q138, q141, q142, q143, bI_e0, Classical.not_not, tk_0, tk_1, tk_2, tk_3, tk_4, tk_5, tk_6, tk_7, tk_8, tk_9, tk_10, tk_11, tk_12, tk_13, tk_14, tk_15, tk_16, tk_17] at h5)
            (try simp only [wI_M, wI_1, wI_w, wI_1, wI_w, p1, p8, p9, p10, p12, p13, q139, q140, q138, q141, q142, q143, bI_e0, Classical.not_not, tk_0, tk_1, tk_2, tk_3, tk_4, tk_5, tk_6, tk_7, tk_8, tk_9, tk_10, tk_11, tk_12, tk_13, tk_14, tk_15, tk_16, tk_17] at h6)
            refine ⟨⟨Nat.zero_le _, Nat.zero_le _⟩, _, _, rfl, rfl, ?_, ?_, Jk_Q M (by omega)⟩
            · unfold aServ; rw [if_neg h1, if_pos h3, if_pos h5, if_pos h6]; exact setQ_s
            · unfold aServ; rw [if_neg h1, if_pos h3, if_pos h5, if_pos h6]; intro _; simp only [wI_M, wI_1, wI_w, wI_1, wI_w, p1, p8, p9, p10, p12, p13, q139, q140, q138, q141, q142, q143, bI_e0, Classical.not_not, tk_0, tk_1, tk_2, tk_3, tk_4, tk_5, tk_6, tk_7, tk_8, tk_9, tk_10, tk_11, tk_12, tk_13, tk_14, tk_15, tk_16, tk_17, ix18 (show q < 1000 by omega), ck (show 18 + 2 * q < 2147483648 by omega), ck (show 19 + 2 * q < 2147483648 by omega), ck (show q < 2147483648 by omega)]
        · (try simp only [wI_M, wI_1, wI_w, wI_1, wI_w, p1, p8, p9, p10, p12, p13, q139, q140, q138, q141, q142, q143, bI_e0, Classical.not_not, tk_0, tk_1, tk_2, tk_3, tk_4, tk_5, tk_6, tk_7, tk_8, tk_9, tk_10, tk_11, tk_12, tk_13, tk_14, tk_15, tk_16, tk_17] at h1)
          (try simp only [wI_M, wI_1, wI_w, wI_1, wI_w, p1, p8, p9, p10, p12, p13, q139, q140, q138, q141, q142, q143, bI_e0, Classical.not_not, tk_0, tk_1, tk_2, tk_3, tk_4, tk_5, tk_6, tk_7, tk_8, tk_9, tk_10, tk_11, tk_12, tk_13, tk_14, tk_15, tk_16, tk_17] at h3)
          (try simp only [wI_M, wI_1, wI_w, wI_1, wI_w, p1, p8, p9, p10, p12, p13, q139, q140, q138, q141, q142, q143, bI_e0, Classical.not_not, tk_0, tk_1, tk_2, tk_3, tk_4, tk_5, tk_6, tk_7, tk_8, tk_9, tk_10, tk_11, tk_12, tk_13, tk_14, tk_15, tk_16, tk_17] at h5)
          refine ⟨⟨Nat.zero_le _, Nat.zero_le _⟩, _, _, rfl, rfl, ?_, ?_, Jk_Q M (by omega)⟩
          · unfold aServ; rw [if_neg h1, if_pos h3, if_neg h5]; exact setQ_s
          · unfold aServ; rw [if_neg h1, if_pos h3, if_neg h5]; intro _; rfl
      · exact absurd h4 (by decide)
    · refine ⟨⟨Nat.le_of_ble_eq_true rfl, Nat.le_of_ble_eq_true rfl, Nat.le_of_ble_eq_true rfl⟩, by simp only [wI_1, wI_w, p1, p8, p9, p10, p12, p13, b137, b138, b139, b140, b141, b142, b143] <;> first | rfl | decide, _, T_refused (x := 1) hM, ?_⟩
      rintro _ w1 ⟨rfl, hw⟩
      have hw : w1 = (S, setQ M 0 1, J) := hw
      subst hw
      refine ⟨Or.inl rfl, ?_⟩
      refine ⟨fun h8 => ?_, fun h8 => ?_⟩
      · exact absurd h8 (by decide)
      · (try simp only [wI_M, wI_1, wI_w, wI_1, wI_w, p1, p8, p9, p10, p12, p13, q139, q140, q138, q141, q142, q143, bI_e0, Classical.not_not, tk_0, tk_1, tk_2, tk_3, tk_4, tk_5, tk_6, tk_7, tk_8, tk_9, tk_10, tk_11, tk_12, tk_13, tk_14, tk_15, tk_16, tk_17] at h1)
        (try simp only [wI_M, wI_1, wI_w, wI_1, wI_w, p1, p8, p9, p10, p12, p13, q139, q140, q138, q141, q142, q143, bI_e0, Classical.not_not, tk_0, tk_1, tk_2, tk_3, tk_4, tk_5, tk_6, tk_7, tk_8, tk_9, tk_10, tk_11, tk_12, tk_13, tk_14, tk_15, tk_16, tk_17] at h3)
        refine ⟨⟨Nat.zero_le _, Nat.zero_le _⟩, _, _, rfl, rfl, ?_, ?_, Jk_Q M (by omega)⟩
        · unfold aServ; rw [if_neg h1, if_neg h3]; exact setQ_s
        · unfold aServ; rw [if_neg h1, if_neg h3]; intro h_; exact absurd h_ (by decide)
set_option maxHeartbeats 1000000 in
theorem R_dueIn {d : Nat} {S : Sc} {M : Nat → Nat → Int32} {J : Nat → Nat → Int64} {m : Nat} (hM : MoS S) (h17 : M 139 17 = nI m) (hm : m ≤ 12) {x y z : Int32} : Wp (d + 3) 162 [.ref 137, .int x, .int y, .int z] (S, M, J) (fun rs w' => ∃ v M', rs = .inl (some (.int v)) ∧ w' = (S, M', J) ∧ M' 137 0 = nI (aDue (M 139) m x y z).1 ∧ ((aDue (M 139) m x y z).1 = 0 → v = (aDue (M 139) m x y z).2) ∧ Jk M M') := by
  obtain ⟨⟨b137, p1, p8, p9, p10, p12, p13⟩, ⟨b138, b139, b140, b141, b142, b143⟩, n138, n139, n140, n141, n142, n143⟩ := id hM
  refine ⟨rfl, ?_⟩
  refine EE.runN (stop := noStop) 80 _ ?_
  refine ⟨⟨Nat.le_of_ble_eq_true rfl, Nat.le_of_ble_eq_true rfl, Nat.le_of_ble_eq_true rfl⟩, _, T_mV, ?_⟩
  rintro _ _ ⟨rfl, rfl⟩
  refine ⟨Or.inl rfl, ?_⟩
  refine ⟨fun h1 => ?_, fun h1 => ?_⟩
  · refine ⟨fun h2 => ?_, fun h2 => ?_⟩
    · exact absurd h2 (by decide)
    · refine ⟨⟨Nat.le_of_ble_eq_true rfl, Nat.le_of_ble_eq_true rfl, Nat.le_of_ble_eq_true rfl⟩, by simp only [wI_1, wI_w, p1, p8, p9, p10, p12, p13, b137, b138, b139, b140, b141, b142, b143] <;> first | rfl | decide, _, T_refused (x := 1) hM, ?_⟩
      rintro _ w1 ⟨rfl, hw⟩
      have hw : w1 = (S, setQ M 0 1, J) := hw
      subst hw
      refine ⟨Or.inl rfl, ?_⟩
      refine ⟨fun h3 => ?_, fun h3 => ?_⟩
      · exact absurd h3 (by decide)
      · (try simp only [wI_M, wI_1, wI_w, wI_1, wI_w, p1, p8, p9, p10, p12, p13, q139, q140, q138, q141, q142, q143, bI_e0, Classical.not_not, tk_0, tk_1, tk_2, tk_3, tk_4, tk_5, tk_6, tk_7, tk_8, tk_9, tk_10, tk_11, tk_12, tk_13, tk_14, tk_15, tk_16, tk_17] at h1)
        refine ⟨⟨Nat.zero_le _, Nat.zero_le _⟩, _, _, rfl, rfl, ?_, ?_, Jk_Q M (by omega)⟩
        · unfold aDue; rw [if_neg h1]; exact setQ_s
        · unfold aDue; rw [if_neg h1]; intro h_; exact absurd h_ (by decide)
  · refine ⟨⟨Nat.le_of_ble_eq_true rfl, Nat.le_of_ble_eq_true rfl, Nat.le_of_ble_eq_true rfl⟩, _, T_in32 (1) (9999) rfl rfl, ?_⟩
    rintro _ _ ⟨rfl, rfl⟩
    refine ⟨Or.inl rfl, ?_⟩
    refine ⟨fun h4 => ?_, fun h4 => ?_⟩
    · refine ⟨fun h5 => ?_, fun h5 => ?_⟩
      · exact absurd h5 (by decide)
      · refine ⟨⟨Nat.le_of_ble_eq_true rfl, Nat.le_of_ble_eq_true rfl, Nat.le_of_ble_eq_true rfl⟩, by simp only [wI_1, wI_w, p1, p8, p9, p10, p12, p13, b137, b138, b139, b140, b141, b142, b143] <;> first | rfl | decide, _, T_refused (x := 1) hM, ?_⟩
        rintro _ w1 ⟨rfl, hw⟩
        have hw : w1 = (S, setQ M 0 1, J) := hw
        subst hw
        refine ⟨Or.inl rfl, ?_⟩
        refine ⟨fun h6 => ?_, fun h6 => ?_⟩
        · exact absurd h6 (by decide)
        · (try simp only [wI_M, wI_1, wI_w, wI_1, wI_w, p1, p8, p9, p10, p12, p13, q139, q140, q138, q141, q142, q143, bI_e0, Classical.not_not, tk_0, tk_1, tk_2, tk_3, tk_4, tk_5, tk_6, tk_7, tk_8, tk_9, tk_10, tk_11, tk_12, tk_13, tk_14, tk_15, tk_16, tk_17] at h1)
          (try simp only [wI_M, wI_1, wI_w, wI_1, wI_w, p1, p8, p9, p10, p12, p13, q139, q140, q138, q141, q142, q143, bI_e0, Classical.not_not, tk_0, tk_1, tk_2, tk_3, tk_4, tk_5, tk_6, tk_7, tk_8, tk_9, tk_10, tk_11, tk_12, tk_13, tk_14, tk_15, tk_16, tk_17] at h4)
          refine ⟨⟨Nat.zero_le _, Nat.zero_le _⟩, _, _, rfl, rfl, ?_, ?_, Jk_Q M (by omega)⟩
          · unfold aDue; rw [if_pos h1, if_neg h4]; exact setQ_s
          · unfold aDue; rw [if_pos h1, if_neg h4]; intro h_; exact absurd h_ (by decide)
    · refine ⟨fun h7 => ?_, fun h7 => ?_⟩
      · refine ⟨by simp only [wI_1, wI_w, p1, p8, p9, p10, p12, p13, b137, b138, b139, b140, b141, b142, b143] <;> first | rfl | decide, ?_⟩
        refine ⟨by simp only [wI_1, wI_w, p1, p8, p9, p10, p12, p13, b137, b138, b139, b140, b141, b142, b143] <;> first | rfl | decide, (by simp only [wI_1, wI_w, p1, p8, p9, p10, p12, p13, n138, n139, n140, n141, n142, n143]; exact vp_in_nI (show 3 < 114 by omega) (by omega)), ?_⟩
        refine ⟨fun h8 => ?_, fun h8 => ?_⟩
        · refine ⟨⟨Nat.le_of_ble_eq_true rfl, Nat.le_of_ble_eq_true rfl, Nat.le_of_ble_eq_true rfl⟩, by simp only [wI_1, wI_w, p1, p8, p9, p10, p12, p13, b137, b138, b139, b140, b141, b142, b143] <;> first | rfl | decide, _, T_refused (x := 0) hM, ?_⟩
          rintro _ w1 ⟨rfl, hw⟩
          have hw : w1 = (S, setQ M 0 0, J) := hw
          subst hw
          refine ⟨Or.inl rfl, ?_⟩
          refine ⟨fun h9 => ?_, fun h9 => ?_⟩
          · refine ⟨by simp only [wI_1, wI_w, p1, p8, p9, p10, p12, p13, b137, b138, b139, b140, b141, b142, b143] <;> first | rfl | decide, ?_⟩
            refine ⟨⟨Nat.le_of_ble_eq_true rfl, Nat.le_of_ble_eq_true rfl, Nat.le_of_ble_eq_true rfl⟩, _, by simp only [wI_M, wI_1, wI_w, wI_1, wI_w, p1, p8, p9, p10, p12, p13, q139, q140, q138, q141, q142, q143, bI_e0, Classical.not_not, tk_0, tk_1, tk_2, tk_3, tk_4, tk_5, tk_6, tk_7, tk_8, tk_9, tk_10, tk_11, tk_12, tk_13, tk_14, tk_15, tk_16, tk_17]; exact T_serviceOf (n := m) hM.now hm h17, ?_⟩
            rintro _ _ ⟨rfl, rfl⟩
            refine ⟨Or.inl rfl, ?_⟩
            refine ⟨fun h10 => ?_, fun h10 => ?_⟩
            · have g_ := h10
              simp only [wI_M, wI_1, wI_w, wI_1, wI_w, p1, p8, p9, p10, p12, p13, q139, q140, q138, q141, q142, q143, bI_e0, Classical.not_not, tk_0, tk_1, tk_2, tk_3, tk_4, tk_5, tk_6, tk_7, tk_8, tk_9, tk_10, tk_11, tk_12, tk_13, tk_14, tk_15, tk_16, tk_17] at g_
              obtain ⟨i, hi, hf⟩ := (rFnd_or (M 139) (10 * x + y) m).resolve_left g_
              refine ⟨by simp only [wI_1, wI_w, p1, p8, p9, p10, p12, p13, b137, b138, b139, b140, b141, b142, b143] <;> first | rfl | decide, ?_⟩
              refine ⟨by simp only [wI_1, wI_w, p1, p8, p9, p10, p12, p13, b137, b138, b139, b140, b141, b142, b143] <;> first | rfl | decide, (by simp only [bI_e0, q139, wI_M, wI_w, wI_1, wI_w, p1, p8, p9, p10, p12, p13, n138, n139, n140, n141, n142, n143, hf, ix19 (show i < 1000 by omega)]; exact vp_in_nI (show 19 + 2 * i < 114 by omega) (by omega)), ?_⟩
              refine ⟨by simp only [wI_1, wI_w, p1, p8, p9, p10, p12, p13, b137, b138, b139, b140, b141, b142, b143] <;> first | rfl | decide, ?_⟩
              refine ⟨by simp only [wI_1, wI_w, p1, p8, p9, p10, p12, p13, b137, b138, b139, b140, b141, b142, b143] <;> first | rfl | decide, (by simp only [wI_1, wI_w, p1, p8, p9, p10, p12, p13, n138, n139, n140, n141, n142, n143]; exact vp_in_nI (show 4 < 114 by omega) (by omega)), ?_⟩
              (try simp only [wI_M, wI_1, wI_w, wI_1, wI_w, p1, p8, p9, p10, p12, p13, q139, q140, q138, q141, q142, q143, bI_e0, Classical.not_not, tk_0, tk_1, tk_2, tk_3, tk_4, tk_5, tk_6, tk_7, tk_8, tk_9, tk_10, tk_11, tk_12, tk_13, tk_14, tk_15, tk_16, tk_17] at h1)
              (try simp only [wI_M, wI_1, wI_w, wI_1, wI_w, p1, p8, p9, p10, p12, p13, q139, q140, q138, q141, q142, q143, bI_e0, Classical.not_not, tk_0, tk_1, tk_2, tk_3, tk_4, tk_5, tk_6, tk_7, tk_8, tk_9, tk_10, tk_11, tk_12, tk_13, tk_14, tk_15, tk_16, tk_17] at h4)
              (try simp only [wI_M, wI_1, wI_w, wI_1, wI_w, p1, p8, p9, p10, p12, p13, q139, q140, q138, q141, q142, q143, bI_e0, Classical.not_not, tk_0, tk_1, tk_2, tk_3, tk_4, tk_5, tk_6, tk_7, tk_8, tk_9, tk_10, tk_11, tk_12, tk_13, tk_14, tk_15, tk_16, tk_17] at h8)
              (try simp only [wI_M, wI_1, wI_w, wI_1, wI_w, p1, p8, p9, p10, p12, p13, q139, q140, q138, q141, q142, q143, bI_e0, Classical.not_not, tk_0, tk_1, tk_2, tk_3, tk_4, tk_5, tk_6, tk_7, tk_8, tk_9, tk_10, tk_11, tk_12, tk_13, tk_14, tk_15, tk_16, tk_17] at h10)
              refine ⟨⟨Nat.zero_le _, Nat.zero_le _⟩, _, _, rfl, rfl, ?_, ?_, Jk_Q M (by omega)⟩
              · unfold aDue; rw [if_pos h1, if_pos h4, if_neg h8, if_neg h10]; exact setQ_s
              · unfold aDue; rw [if_pos h1, if_pos h4, if_neg h8, if_neg h10]; intro _; simp only [wI_M, wI_1, wI_w, wI_1, wI_w, p1, p8, p9, p10, p12, p13, q139, q140, q138, q141, q142, q143, bI_e0, Classical.not_not, tk_0, tk_1, tk_2, tk_3, tk_4, tk_5, tk_6, tk_7, tk_8, tk_9, tk_10, tk_11, tk_12, tk_13, tk_14, tk_15, tk_16, tk_17, hf, ix19 (show i < 1000 by omega), ck (show 19 + 2 * i < 2147483648 by omega), ck (show i < 2147483648 by omega)]
            · (try simp only [wI_M, wI_1, wI_w, wI_1, wI_w, p1, p8, p9, p10, p12, p13, q139, q140, q138, q141, q142, q143, bI_e0, Classical.not_not, tk_0, tk_1, tk_2, tk_3, tk_4, tk_5, tk_6, tk_7, tk_8, tk_9, tk_10, tk_11, tk_12, tk_13, tk_14, tk_15, tk_16, tk_17] at h1)
              (try simp only [wI_M, wI_1, wI_w, wI_1, wI_w, p1, p8, p9, p10, p12, p13, q139, q140, q138, q141, q142, q143, bI_e0, Classical.not_not, tk_0, tk_1, tk_2, tk_3, tk_4, tk_5, tk_6, tk_7, tk_8, tk_9, tk_10, tk_11, tk_12, tk_13, tk_14, tk_15, tk_16, tk_17] at h4)
              (try simp only [wI_M, wI_1, wI_w, wI_1, wI_w, p1, p8, p9, p10, p12, p13, q139, q140, q138, q141, q142, q143, bI_e0, Classical.not_not, tk_0, tk_1, tk_2, tk_3, tk_4, tk_5, tk_6, tk_7, tk_8, tk_9, tk_10, tk_11, tk_12, tk_13, tk_14, tk_15, tk_16, tk_17] at h8)
              (try simp only [wI_M, wI_1, wI_w, wI_1, wI_w, p1, p8, p9, p10, p12, p13, q139, q140, q138, q141, q142, q143, bI_e0, Classical.not_not, tk_0, tk_1, tk_2, tk_3, tk_4, tk_5, tk_6, tk_7, tk_8, tk_9, tk_10, tk_11, tk_12, tk_13, tk_14, tk_15, tk_16, tk_17] at h10)
              refine ⟨⟨Nat.zero_le _, Nat.zero_le _⟩, _, _, rfl, rfl, ?_, ?_, Jk_Q M (by omega)⟩
              · unfold aDue; rw [if_pos h1, if_pos h4, if_neg h8, if_pos h10]; exact setQ_s
              · unfold aDue; rw [if_pos h1, if_pos h4, if_neg h8, if_pos h10]; intro _; rfl
          · exact absurd h9 (by decide)
        · refine ⟨⟨Nat.le_of_ble_eq_true rfl, Nat.le_of_ble_eq_true rfl, Nat.le_of_ble_eq_true rfl⟩, by simp only [wI_1, wI_w, p1, p8, p9, p10, p12, p13, b137, b138, b139, b140, b141, b142, b143] <;> first | rfl | decide, _, T_refused (x := 2) hM, ?_⟩
          rintro _ w1 ⟨rfl, hw⟩
          have hw : w1 = (S, setQ M 0 2, J) := hw
          subst hw
          refine ⟨Or.inl rfl, ?_⟩
          refine ⟨fun h11 => ?_, fun h11 => ?_⟩
          · exact absurd h11 (by decide)
          · (try simp only [wI_M, wI_1, wI_w, wI_1, wI_w, p1, p8, p9, p10, p12, p13, q139, q140, q138, q141, q142, q143, bI_e0, Classical.not_not, tk_0, tk_1, tk_2, tk_3, tk_4, tk_5, tk_6, tk_7, tk_8, tk_9, tk_10, tk_11, tk_12, tk_13, tk_14, tk_15, tk_16, tk_17] at h1)
            (try simp only [wI_M, wI_1, wI_w, wI_1, wI_w, p1, p8, p9, p10, p12, p13, q139, q140, q138, q141, q142, q143, bI_e0, Classical.not_not, tk_0, tk_1, tk_2, tk_3, tk_4, tk_5, tk_6, tk_7, tk_8, tk_9, tk_10, tk_11, tk_12, tk_13, tk_14, tk_15, tk_16, tk_17] at h4)
            (try simp only [wI_M, wI_1, wI_w, wI_1, wI_w, p1, p8, p9, p10, p12, p13, q139, q140, q138, q141, q142, q143, bI_e0, Classical.not_not, tk_0, tk_1, tk_2, tk_3, tk_4, tk_5, tk_6, tk_7, tk_8, tk_9, tk_10, tk_11, tk_12, tk_13, tk_14, tk_15, tk_16, tk_17] at h8)
            refine ⟨⟨Nat.zero_le _, Nat.zero_le _⟩, _, _, rfl, rfl, ?_, ?_, Jk_Q M (by omega)⟩
            · unfold aDue; rw [if_pos h1, if_pos h4, if_pos h8]; exact setQ_s
            · unfold aDue; rw [if_pos h1, if_pos h4, if_pos h8]; intro h_; exact absurd h_ (by decide)
      · exact absurd h7 (by decide)
set_option maxHeartbeats 1000000 in
theorem R_dueFirst {d : Nat} {S : Sc} {M : Nat → Nat → Int32} {J : Nat → Nat → Int64} {m : Nat} (hM : MoS S) (h17 : M 139 17 = nI m) (hm : m ≤ 12) : Wp (d + 2) 163 [.ref 137] (S, M, J) (fun rs w' => ∃ v M', rs = .inl (some (.int v)) ∧ w' = (S, M', J) ∧ M' 137 0 = nI (aFirst (M 139) m).1 ∧ ((aFirst (M 139) m).1 = 0 → v = (aFirst (M 139) m).2) ∧ Jk M M') := by
  obtain ⟨⟨b137, p1, p8, p9, p10, p12, p13⟩, ⟨b138, b139, b140, b141, b142, b143⟩, n138, n139, n140, n141, n142, n143⟩ := id hM
  refine ⟨rfl, ?_⟩
  refine EE.runN (stop := atPc [10]) 80 _ ?_
  refine ⟨by simp only [wI_1, wI_w, p1, p8, p9, p10, p12, p13, b137, b138, b139, b140, b141, b142, b143] <;> first | rfl | decide, trivial, ?_⟩
  refine ee_at (nt := nzT 163) [(0, .ref 137), (1, .int (rSm (M 139) (0))), (2, .int (nI (0)))] (S, setQ M 0 0, J) rfl (by rfl) (by rfl) ?_
  refine ee_loop (fun k => (10, [(0, .ref 137), (1, .int (rSm (M 139) (k))), (2, .int (nI (k)))], [], (S, setQ M 0 0, J), 0, 0)) (m) (fun k h_k ih_k => ?_) ?_
  · refine EE.runN (stop := atPc [10]) 80 _ ?_
    refine ⟨by simp only [wI_1, wI_w, p1, p8, p9, p10, p12, p13, b137, b138, b139, b140, b141, b142, b143] <;> first | rfl | decide, ?_⟩
    refine ⟨by simp only [wI_1, wI_w, p1, p8, p9, p10, p12, p13, b137, b138, b139, b140, b141, b142, b143] <;> first | rfl | decide, (by simp only [wI_1, wI_w, p1, p8, p9, p10, p12, p13, n138, n139, n140, n141, n142, n143]; exact vp_in_nI (show 17 < 114 by omega) (by omega)), ?_⟩
    refine ⟨fun h1 => ?_, fun h1 => ?_⟩
    · (simp only [wI_M, wI_1, wI_w, wI_1, wI_w, p1, p8, p9, p10, p12, p13, q139, q140, q138, q141, q142, q143, bI_e0, Classical.not_not, tk_0, tk_1, tk_2, tk_3, tk_4, tk_5, tk_6, tk_7, tk_8, tk_9, tk_10, tk_11, tk_12, tk_13, tk_14, tk_15, tk_16, tk_17, h17] at h1; exact absurd h1 (nI_ge h_k (by omega)))
    · refine ⟨fun h2 => ?_, fun h2 => ?_⟩
      · refine ee_at (nt := nzT 163) [(0, .ref 137), (1, .int (rSm (M 139) ((k + 1)))), (2, .int (nI ((k + 1))))] (S, setQ M 0 0, J) rfl (by rw [rSm, if_pos h2, ← nI_1 k]; rfl) (by rfl) ?_
        exact ih_k
      · obtain ⟨i, hi, hf⟩ := rSm_nat h2
        refine ⟨by simp only [wI_1, wI_w, p1, p8, p9, p10, p12, p13, b137, b138, b139, b140, b141, b142, b143] <;> first | rfl | decide, ?_⟩
        refine ⟨by simp only [wI_1, wI_w, p1, p8, p9, p10, p12, p13, b137, b138, b139, b140, b141, b142, b143] <;> first | rfl | decide, (by simp only [bI_e0, q139, wI_M, wI_w, wI_1, wI_w, p1, p8, p9, p10, p12, p13, n138, n139, n140, n141, n142, n143, ix19 (show k < 1000 by omega)]; exact vp_in_nI (show 19 + 2 * k < 114 by omega) (by omega)), ?_⟩
        refine ⟨by simp only [wI_1, wI_w, p1, p8, p9, p10, p12, p13, b137, b138, b139, b140, b141, b142, b143] <;> first | rfl | decide, ?_⟩
        refine ⟨by simp only [wI_1, wI_w, p1, p8, p9, p10, p12, p13, b137, b138, b139, b140, b141, b142, b143] <;> first | rfl | decide, (by simp only [bI_e0, q139, wI_M, wI_w, wI_1, wI_w, p1, p8, p9, p10, p12, p13, n138, n139, n140, n141, n142, n143, hf, ix19 (show i < 1000 by omega)]; exact vp_in_nI (show 19 + 2 * i < 114 by omega) (by omega)), ?_⟩
        refine ⟨fun h3 => ?_, fun h3 => ?_⟩
        · refine ee_at (nt := nzT 163) [(0, .ref 137), (1, .int (rSm (M 139) ((k + 1)))), (2, .int (nI ((k + 1))))] (S, setQ M 0 0, J) rfl (by have h_ := h3; simp only [wI_M, wI_1, wI_w, wI_1, wI_w, p1, p8, p9, p10, p12, p13, q139, q140, q138, q141, q142, q143, bI_e0, Classical.not_not, tk_0, tk_1, tk_2, tk_3, tk_4, tk_5, tk_6, tk_7, tk_8, tk_9, tk_10, tk_11, tk_12, tk_13, tk_14, tk_15, tk_16, tk_17, rSm_ix h2 (show k ≤ 12 by omega), ix19 (show k < 1000 by omega), ck (show 19 + 2 * k < 2147483648 by omega)] at h_; rw [rSm, if_neg h2, if_pos h_, ← nI_1 k]; rfl) (by rfl) ?_
          exact ih_k
        · refine ee_at (nt := nzT 163) [(0, .ref 137), (1, .int (rSm (M 139) ((k + 1)))), (2, .int (nI ((k + 1))))] (S, setQ M 0 0, J) rfl (by have h_ := h3; simp only [wI_M, wI_1, wI_w, wI_1, wI_w, p1, p8, p9, p10, p12, p13, q139, q140, q138, q141, q142, q143, bI_e0, Classical.not_not, tk_0, tk_1, tk_2, tk_3, tk_4, tk_5, tk_6, tk_7, tk_8, tk_9, tk_10, tk_11, tk_12, tk_13, tk_14, tk_15, tk_16, tk_17, rSm_ix h2 (show k ≤ 12 by omega), ix19 (show k < 1000 by omega), ck (show 19 + 2 * k < 2147483648 by omega)] at h_; rw [rSm, if_neg h2, if_neg h_, ← nI_1 k]; rfl) (by rfl) ?_
          exact ih_k
  · refine EE.runN (stop := atPc [10]) 80 _ ?_
    refine ⟨by simp only [wI_1, wI_w, p1, p8, p9, p10, p12, p13, b137, b138, b139, b140, b141, b142, b143] <;> first | rfl | decide, ?_⟩
    refine ⟨by simp only [wI_1, wI_w, p1, p8, p9, p10, p12, p13, b137, b138, b139, b140, b141, b142, b143] <;> first | rfl | decide, (by simp only [wI_1, wI_w, p1, p8, p9, p10, p12, p13, n138, n139, n140, n141, n142, n143]; exact vp_in_nI (show 17 < 114 by omega) (by omega)), ?_⟩
    refine ⟨fun h4 => ?_, fun h4 => ?_⟩
    · refine ⟨fun h5 => ?_, fun h5 => ?_⟩
      · obtain ⟨i, hi, hf⟩ := rSm_nat h5
        refine ⟨by simp only [wI_1, wI_w, p1, p8, p9, p10, p12, p13, b137, b138, b139, b140, b141, b142, b143] <;> first | rfl | decide, ?_⟩
        refine ⟨by simp only [wI_1, wI_w, p1, p8, p9, p10, p12, p13, b137, b138, b139, b140, b141, b142, b143] <;> first | rfl | decide, (by simp only [bI_e0, q139, wI_M, wI_w, wI_1, wI_w, p1, p8, p9, p10, p12, p13, n138, n139, n140, n141, n142, n143, hf, ix18 (show i < 1000 by omega)]; exact vp_in_nI (show 18 + 2 * i < 114 by omega) (by omega)), ?_⟩
        (try simp only [wI_M, wI_1, wI_w, wI_1, wI_w, p1, p8, p9, p10, p12, p13, q139, q140, q138, q141, q142, q143, bI_e0, Classical.not_not, tk_0, tk_1, tk_2, tk_3, tk_4, tk_5, tk_6, tk_7, tk_8, tk_9, tk_10, tk_11, tk_12, tk_13, tk_14, tk_15, tk_16, tk_17] at h5)
        refine ⟨⟨Nat.zero_le _, Nat.zero_le _⟩, _, _, rfl, rfl, ?_, ?_, Jk_Q M (by omega)⟩
        · unfold aFirst; rw [if_neg h5]; exact setQ_s
        · unfold aFirst; rw [if_neg h5]; intro _; simp only [wI_M, wI_1, wI_w, wI_1, wI_w, p1, p8, p9, p10, p12, p13, q139, q140, q138, q141, q142, q143, bI_e0, Classical.not_not, tk_0, tk_1, tk_2, tk_3, tk_4, tk_5, tk_6, tk_7, tk_8, tk_9, tk_10, tk_11, tk_12, tk_13, tk_14, tk_15, tk_16, tk_17, hf, ix18 (show i < 1000 by omega), ck (show 18 + 2 * i < 2147483648 by omega), ck (show i < 2147483648 by omega)]
      · (try simp only [wI_M, wI_1, wI_w, wI_1, wI_w, p1, p8, p9, p10, p12, p13, q139, q140, q138, q141, q142, q143, bI_e0, Classical.not_not, tk_0, tk_1, tk_2, tk_3, tk_4, tk_5, tk_6, tk_7, tk_8, tk_9, tk_10, tk_11, tk_12, tk_13, tk_14, tk_15, tk_16, tk_17] at h5)
        refine ⟨⟨Nat.zero_le _, Nat.zero_le _⟩, _, _, rfl, rfl, ?_, ?_, Jk_Q M (by omega)⟩
        · unfold aFirst; rw [if_pos h5]; exact setQ_s
        · unfold aFirst; rw [if_pos h5]; intro _; rfl
    · (simp only [wI_M, wI_1, wI_w, wI_1, wI_w, p1, p8, p9, p10, p12, p13, q139, q140, q138, q141, q142, q143, bI_e0, Classical.not_not, tk_0, tk_1, tk_2, tk_3, tk_4, tk_5, tk_6, tk_7, tk_8, tk_9, tk_10, tk_11, tk_12, tk_13, tk_14, tk_15, tk_16, tk_17, h17] at h4; exact absurd (nI_le (Nat.le_refl m) (by omega)) h4)
set_option maxHeartbeats 4000000 in
theorem R_about {d : Nat} {S : Sc} {M : Nat → Nat → Int32} {J : Nat → Nat → Int64} {n : Nat} (hM : MoS S) (h0 : M 139 0 = nI n) (h1n : 1 ≤ n) (hn : n ≤ 12) {x : Int32} : Wp (d + 3) 138 [.ref 137, .int x] (S, M, J) (fun rs w' => ∃ v M', rs = .inl (some (.int v)) ∧ w' = (S, M', J) ∧ M' 137 0 = nI (aAbout (M 139) n x).1 ∧ ((aAbout (M 139) n x).1 = 0 → v = (aAbout (M 139) n x).2) ∧ Jk M M') := by
  obtain ⟨⟨b137, p1, p8, p9, p10, p12, p13⟩, ⟨b138, b139, b140, b141, b142, b143⟩, n138, n139, n140, n141, n142, n143⟩ := id hM
  refine ⟨rfl, ?_⟩
  refine EE.runN (stop := noStop) 80 _ ?_
  refine ⟨⟨Nat.le_of_ble_eq_true rfl, Nat.le_of_ble_eq_true rfl, Nat.le_of_ble_eq_true rfl⟩, _, T_in32 (0) (14) rfl rfl, ?_⟩
  rintro _ _ ⟨rfl, rfl⟩
  refine ⟨Or.inl rfl, ?_⟩
  refine ⟨fun h1 => ?_, fun h1 => ?_⟩
  · refine ⟨⟨Nat.le_of_ble_eq_true rfl, Nat.le_of_ble_eq_true rfl, Nat.le_of_ble_eq_true rfl⟩, by simp only [wI_1, wI_w, p1, p8, p9, p10, p12, p13, b137, b138, b139, b140, b141, b142, b143] <;> first | rfl | decide, _, T_refused (x := 1) hM, ?_⟩
    rintro _ w1 ⟨rfl, hw⟩
    have hw : w1 = (S, setQ M 0 1, J) := hw
    subst hw
    refine ⟨Or.inl rfl, ?_⟩
    refine ⟨fun h2 => ?_, fun h2 => ?_⟩
    · exact absurd h2 (by decide)
    · (try simp only [wI_M, wI_1, wI_w, wI_1, wI_w, p1, p8, p9, p10, p12, p13, q139, q140, q138, q141, q142, q143, bI_e0, Classical.not_not, tk_0, tk_1, tk_2, tk_3, tk_4, tk_5, tk_6, tk_7, tk_8, tk_9, tk_10, tk_11, tk_12, tk_13, tk_14, tk_15, tk_16, tk_17] at h1)
      refine ⟨⟨Nat.zero_le _, Nat.zero_le _⟩, _, _, rfl, rfl, ?_, ?_, Jk_Q M (by omega)⟩
      · unfold aAbout; rw [if_neg h1]; exact setQ_s
      · unfold aAbout; rw [if_neg h1]; intro h_; exact absurd h_ (by decide)
  · refine ⟨⟨Nat.le_of_ble_eq_true rfl, Nat.le_of_ble_eq_true rfl, Nat.le_of_ble_eq_true rfl⟩, by simp only [wI_1, wI_w, p1, p8, p9, p10, p12, p13, b137, b138, b139, b140, b141, b142, b143] <;> first | rfl | decide, _, T_refused (x := 0) hM, ?_⟩
    rintro _ w1 ⟨rfl, hw⟩
    have hw : w1 = (S, setQ M 0 0, J) := hw
    subst hw
    refine ⟨Or.inl rfl, ?_⟩
    refine ⟨fun h3 => ?_, fun h3 => ?_⟩
    · have g_ := h1
      simp only [wI_M, wI_1, wI_w, wI_1, wI_w, p1, p8, p9, p10, p12, p13, q139, q140, q138, q141, q142, q143, bI_e0, Classical.not_not, tk_0, tk_1, tk_2, tk_3, tk_4, tk_5, tk_6, tk_7, tk_8, tk_9, tk_10, tk_11, tk_12, tk_13, tk_14, tk_15, tk_16, tk_17] at g_
      obtain ⟨q, hq, rfl⟩ := in_nat (k := 14) rfl (by omega) g_
      rcases (by omega : q = 0 ∨ q = 1 ∨ q = 2 ∨ q = 3 ∨ q = 4 ∨ q = 5 ∨ q = 6 ∨ q = 7 ∨ q = 8 ∨ q = 9 ∨ q = 10 ∨ q = 11 ∨ q = 12 ∨ q = 13 ∨ q = 14) with rfl | rfl | rfl | rfl | rfl | rfl | rfl | rfl | rfl | rfl | rfl | rfl | rfl | rfl | rfl
      · refine ⟨by simp only [wI_1, wI_w, p1, p8, p9, p10, p12, p13, b137, b138, b139, b140, b141, b142, b143] <;> first | rfl | decide, ?_⟩
        refine ⟨by simp only [wI_1, wI_w, p1, p8, p9, p10, p12, p13, b137, b138, b139, b140, b141, b142, b143] <;> first | rfl | decide, (by simp only [wI_1, wI_w, p1, p8, p9, p10, p12, p13, n138, n139, n140, n141, n142, n143]; exact vp_in_nI (show 3 < 114 by omega) (by omega)), ?_⟩
        refine ⟨fun h4 => ?_, fun h4 => ?_⟩
        · refine ⟨fun h => absurd h (by decide), fun _ => ?_⟩
          refine ⟨fun h => absurd h (by decide), fun _ => ?_⟩
          refine ⟨fun h => absurd h (by decide), fun _ => ?_⟩
          refine ⟨fun h => absurd h (by decide), fun _ => ?_⟩
          refine ⟨fun h => absurd h (by decide), fun _ => ?_⟩
          refine ⟨fun h => absurd h (by decide), fun _ => ?_⟩
          refine ⟨fun h => absurd h (by decide), fun _ => ?_⟩
          refine ⟨fun h => absurd h (by decide), fun _ => ?_⟩
          refine ⟨fun h => absurd h (by decide), fun _ => ?_⟩
          refine ⟨fun h => absurd h (by decide), fun _ => ?_⟩
          refine ⟨fun h => absurd h (by decide), fun _ => ?_⟩
          refine ⟨by simp only [wI_1, wI_w, p1, p8, p9, p10, p12, p13, b137, b138, b139, b140, b141, b142, b143] <;> first | rfl | decide, ?_⟩
          refine ⟨by simp only [wI_1, wI_w, p1, p8, p9, p10, p12, p13, b137, b138, b139, b140, b141, b142, b143] <;> first | rfl | decide, (by simp only [wI_1, wI_w, p1, p8, p9, p10, p12, p13, n138, n139, n140, n141, n142, n143]; exact vp_in_nI (show _ < 114 by omega) (by omega)), ?_⟩
          (try simp only [wI_M, wI_1, wI_w, wI_1, wI_w, p1, p8, p9, p10, p12, p13, q139, q140, q138, q141, q142, q143, bI_e0, Classical.not_not, tk_0, tk_1, tk_2, tk_3, tk_4, tk_5, tk_6, tk_7, tk_8, tk_9, tk_10, tk_11, tk_12, tk_13, tk_14, tk_15, tk_16, tk_17] at h1)
          (try simp only [wI_M, wI_1, wI_w, wI_1, wI_w, p1, p8, p9, p10, p12, p13, q139, q140, q138, q141, q142, q143, bI_e0, Classical.not_not, tk_0, tk_1, tk_2, tk_3, tk_4, tk_5, tk_6, tk_7, tk_8, tk_9, tk_10, tk_11, tk_12, tk_13, tk_14, tk_15, tk_16, tk_17] at h4)
          refine ⟨⟨Nat.zero_le _, Nat.zero_le _⟩, _, _, rfl, rfl, ?_, ?_, Jk_Q M (by omega)⟩
          · unfold aAbout; rw [if_pos h1]; exact setQ_s
          · unfold aAbout; rw [if_pos h1]; intro _; rw [ck (by omega)]; unfold vAbout; rw [if_neg (by omega), if_neg (by omega), if_neg (by omega)]; first | done | rfl | simp only [wI_M, wI_1, wI_w, wI_1, wI_w, p1, p8, p9, p10, p12, p13, q139, q140, q138, q141, q142, q143, bI_e0, Classical.not_not, tk_0, tk_1, tk_2, tk_3, tk_4, tk_5, tk_6, tk_7, tk_8, tk_9, tk_10, tk_11, tk_12, tk_13, tk_14, tk_15, tk_16, tk_17, ck (show (0 : Nat) < 2147483648 by omega)]
        · refine ⟨fun h => absurd h (by decide), fun _ => ?_⟩
          refine ⟨fun h => absurd h (by decide), fun _ => ?_⟩
          refine ⟨fun h => absurd h (by decide), fun _ => ?_⟩
          refine ⟨fun h => absurd h (by decide), fun _ => ?_⟩
          refine ⟨fun h => absurd h (by decide), fun _ => ?_⟩
          refine ⟨fun h => absurd h (by decide), fun _ => ?_⟩
          refine ⟨fun h => absurd h (by decide), fun _ => ?_⟩
          refine ⟨fun h => absurd h (by decide), fun _ => ?_⟩
          refine ⟨fun h => absurd h (by decide), fun _ => ?_⟩
          refine ⟨fun h => absurd h (by decide), fun _ => ?_⟩
          refine ⟨fun h => absurd h (by decide), fun _ => ?_⟩
          refine ⟨by simp only [wI_1, wI_w, p1, p8, p9, p10, p12, p13, b137, b138, b139, b140, b141, b142, b143] <;> first | rfl | decide, ?_⟩
          refine ⟨by simp only [wI_1, wI_w, p1, p8, p9, p10, p12, p13, b137, b138, b139, b140, b141, b142, b143] <;> first | rfl | decide, (by simp only [wI_1, wI_w, p1, p8, p9, p10, p12, p13, n138, n139, n140, n141, n142, n143]; exact vp_in_nI (show _ < 114 by omega) (by omega)), ?_⟩
          (try simp only [wI_M, wI_1, wI_w, wI_1, wI_w, p1, p8, p9, p10, p12, p13, q139, q140, q138, q141, q142, q143, bI_e0, Classical.not_not, tk_0, tk_1, tk_2, tk_3, tk_4, tk_5, tk_6, tk_7, tk_8, tk_9, tk_10, tk_11, tk_12, tk_13, tk_14, tk_15, tk_16, tk_17] at h1)
          (try simp only [wI_M, wI_1, wI_w, wI_1, wI_w, p1, p8, p9, p10, p12, p13, q139, q140, q138, q141, q142, q143, bI_e0, Classical.not_not, tk_0, tk_1, tk_2, tk_3, tk_4, tk_5, tk_6, tk_7, tk_8, tk_9, tk_10, tk_11, tk_12, tk_13, tk_14, tk_15, tk_16, tk_17] at h4)
          refine ⟨⟨Nat.zero_le _, Nat.zero_le _⟩, _, _, rfl, rfl, ?_, ?_, Jk_Q M (by omega)⟩
          · unfold aAbout; rw [if_pos h1]; exact setQ_s
          · unfold aAbout; rw [if_pos h1]; intro _; rw [ck (by omega)]; unfold vAbout; rw [if_neg (by omega), if_neg (by omega), if_neg (by omega)]; first | done | rfl | simp only [wI_M, wI_1, wI_w, wI_1, wI_w, p1, p8, p9, p10, p12, p13, q139, q140, q138, q141, q142, q143, bI_e0, Classical.not_not, tk_0, tk_1, tk_2, tk_3, tk_4, tk_5, tk_6, tk_7, tk_8, tk_9, tk_10, tk_11, tk_12, tk_13, tk_14, tk_15, tk_16, tk_17, ck (show (0 : Nat) < 2147483648 by omega)]
      · refine ⟨by simp only [wI_1, wI_w, p1, p8, p9, p10, p12, p13, b137, b138, b139, b140, b141, b142, b143] <;> first | rfl | decide, ?_⟩
        refine ⟨by simp only [wI_1, wI_w, p1, p8, p9, p10, p12, p13, b137, b138, b139, b140, b141, b142, b143] <;> first | rfl | decide, (by simp only [wI_1, wI_w, p1, p8, p9, p10, p12, p13, n138, n139, n140, n141, n142, n143]; exact vp_in_nI (show 3 < 114 by omega) (by omega)), ?_⟩
        refine ⟨fun h5 => ?_, fun h5 => ?_⟩
        · refine ⟨fun h => absurd h (by decide), fun _ => ?_⟩
          refine ⟨fun h => absurd h (by decide), fun _ => ?_⟩
          refine ⟨fun h => absurd h (by decide), fun _ => ?_⟩
          refine ⟨fun h => absurd h (by decide), fun _ => ?_⟩
          refine ⟨fun h => absurd h (by decide), fun _ => ?_⟩
          refine ⟨fun h => absurd h (by decide), fun _ => ?_⟩
          refine ⟨fun h => absurd h (by decide), fun _ => ?_⟩
          refine ⟨fun h => absurd h (by decide), fun _ => ?_⟩
          refine ⟨fun h => absurd h (by decide), fun _ => ?_⟩
          refine ⟨fun h => absurd h (by decide), fun _ => ?_⟩
          refine ⟨fun h => absurd h (by decide), fun _ => ?_⟩
          refine ⟨by simp only [wI_1, wI_w, p1, p8, p9, p10, p12, p13, b137, b138, b139, b140, b141, b142, b143] <;> first | rfl | decide, ?_⟩
          refine ⟨by simp only [wI_1, wI_w, p1, p8, p9, p10, p12, p13, b137, b138, b139, b140, b141, b142, b143] <;> first | rfl | decide, (by simp only [wI_1, wI_w, p1, p8, p9, p10, p12, p13, n138, n139, n140, n141, n142, n143]; exact vp_in_nI (show _ < 114 by omega) (by omega)), ?_⟩
          (try simp only [wI_M, wI_1, wI_w, wI_1, wI_w, p1, p8, p9, p10, p12, p13, q139, q140, q138, q141, q142, q143, bI_e0, Classical.not_not, tk_0, tk_1, tk_2, tk_3, tk_4, tk_5, tk_6, tk_7, tk_8, tk_9, tk_10, tk_11, tk_12, tk_13, tk_14, tk_15, tk_16, tk_17] at h1)
          (try simp only [wI_M, wI_1, wI_w, wI_1, wI_w, p1, p8, p9, p10, p12, p13, q139, q140, q138, q141, q142, q143, bI_e0, Classical.not_not, tk_0, tk_1, tk_2, tk_3, tk_4, tk_5, tk_6, tk_7, tk_8, tk_9, tk_10, tk_11, tk_12, tk_13, tk_14, tk_15, tk_16, tk_17] at h5)
          refine ⟨⟨Nat.zero_le _, Nat.zero_le _⟩, _, _, rfl, rfl, ?_, ?_, Jk_Q M (by omega)⟩
          · unfold aAbout; rw [if_pos h1]; exact setQ_s
          · unfold aAbout; rw [if_pos h1]; intro _; rw [ck (by omega)]; unfold vAbout; rw [if_neg (by omega), if_neg (by omega), if_neg (by omega)]; first | done | rfl | simp only [wI_M, wI_1, wI_w, wI_1, wI_w, p1, p8, p9, p10, p12, p13, q139, q140, q138, q141, q142, q143, bI_e0, Classical.not_not, tk_0, tk_1, tk_2, tk_3, tk_4, tk_5, tk_6, tk_7, tk_8, tk_9, tk_10, tk_11, tk_12, tk_13, tk_14, tk_15, tk_16, tk_17, ck (show (1 : Nat) < 2147483648 by omega)]
        · refine ⟨fun h => absurd h (by decide), fun _ => ?_⟩
          refine ⟨fun h => absurd h (by decide), fun _ => ?_⟩
          refine ⟨fun h => absurd h (by decide), fun _ => ?_⟩
          refine ⟨fun h => absurd h (by decide), fun _ => ?_⟩
          refine ⟨fun h => absurd h (by decide), fun _ => ?_⟩
          refine ⟨fun h => absurd h (by decide), fun _ => ?_⟩
          refine ⟨fun h => absurd h (by decide), fun _ => ?_⟩
          refine ⟨fun h => absurd h (by decide), fun _ => ?_⟩
          refine ⟨fun h => absurd h (by decide), fun _ => ?_⟩
          refine ⟨fun h => absurd h (by decide), fun _ => ?_⟩
          refine ⟨fun h => absurd h (by decide), fun _ => ?_⟩
          refine ⟨by simp only [wI_1, wI_w, p1, p8, p9, p10, p12, p13, b137, b138, b139, b140, b141, b142, b143] <;> first | rfl | decide, ?_⟩
          refine ⟨by simp only [wI_1, wI_w, p1, p8, p9, p10, p12, p13, b137, b138, b139, b140, b141, b142, b143] <;> first | rfl | decide, (by simp only [wI_1, wI_w, p1, p8, p9, p10, p12, p13, n138, n139, n140, n141, n142, n143]; exact vp_in_nI (show _ < 114 by omega) (by omega)), ?_⟩
          (try simp only [wI_M, wI_1, wI_w, wI_1, wI_w, p1, p8, p9, p10, p12, p13, q139, q140, q138, q141, q142, q143, bI_e0, Classical.not_not, tk_0, tk_1, tk_2, tk_3, tk_4, tk_5, tk_6, tk_7, tk_8, tk_9, tk_10, tk_11, tk_12, tk_13, tk_14, tk_15, tk_16, tk_17] at h1)
          (try simp only [wI_M, wI_1, wI_w, wI_1, wI_w, p1, p8, p9, p10, p12, p13, q139, q140, q138, q141, q142, q143, bI_e0, Classical.not_not, tk_0, tk_1, tk_2, tk_3, tk_4, tk_5, tk_6, tk_7, tk_8, tk_9, tk_10, tk_11, tk_12, tk_13, tk_14, tk_15, tk_16, tk_17] at h5)
          refine ⟨⟨Nat.zero_le _, Nat.zero_le _⟩, _, _, rfl, rfl, ?_, ?_, Jk_Q M (by omega)⟩
          · unfold aAbout; rw [if_pos h1]; exact setQ_s
          · unfold aAbout; rw [if_pos h1]; intro _; rw [ck (by omega)]; unfold vAbout; rw [if_neg (by omega), if_neg (by omega), if_neg (by omega)]; first | done | rfl | simp only [wI_M, wI_1, wI_w, wI_1, wI_w, p1, p8, p9, p10, p12, p13, q139, q140, q138, q141, q142, q143, bI_e0, Classical.not_not, tk_0, tk_1, tk_2, tk_3, tk_4, tk_5, tk_6, tk_7, tk_8, tk_9, tk_10, tk_11, tk_12, tk_13, tk_14, tk_15, tk_16, tk_17, ck (show (1 : Nat) < 2147483648 by omega)]
      · refine ⟨by simp only [wI_1, wI_w, p1, p8, p9, p10, p12, p13, b137, b138, b139, b140, b141, b142, b143] <;> first | rfl | decide, ?_⟩
        refine ⟨by simp only [wI_1, wI_w, p1, p8, p9, p10, p12, p13, b137, b138, b139, b140, b141, b142, b143] <;> first | rfl | decide, (by simp only [wI_1, wI_w, p1, p8, p9, p10, p12, p13, n138, n139, n140, n141, n142, n143]; exact vp_in_nI (show 3 < 114 by omega) (by omega)), ?_⟩
        refine ⟨fun h6 => ?_, fun h6 => ?_⟩
        · refine ⟨fun h => absurd h (by decide), fun _ => ?_⟩
          refine ⟨fun h => absurd h (by decide), fun _ => ?_⟩
          refine ⟨fun h => absurd h (by decide), fun _ => ?_⟩
          refine ⟨fun h => absurd h (by decide), fun _ => ?_⟩
          refine ⟨fun h => absurd h (by decide), fun _ => ?_⟩
          refine ⟨fun h => absurd h (by decide), fun _ => ?_⟩
          refine ⟨fun h => absurd h (by decide), fun _ => ?_⟩
          refine ⟨fun h => absurd h (by decide), fun _ => ?_⟩
          refine ⟨fun h => absurd h (by decide), fun _ => ?_⟩
          refine ⟨fun h => absurd h (by decide), fun _ => ?_⟩
          refine ⟨fun h => absurd h (by decide), fun _ => ?_⟩
          refine ⟨by simp only [wI_1, wI_w, p1, p8, p9, p10, p12, p13, b137, b138, b139, b140, b141, b142, b143] <;> first | rfl | decide, ?_⟩
          refine ⟨by simp only [wI_1, wI_w, p1, p8, p9, p10, p12, p13, b137, b138, b139, b140, b141, b142, b143] <;> first | rfl | decide, (by simp only [wI_1, wI_w, p1, p8, p9, p10, p12, p13, n138, n139, n140, n141, n142, n143]; exact vp_in_nI (show _ < 114 by omega) (by omega)), ?_⟩
          (try simp only [wI_M, wI_1, wI_w, wI_1, wI_w, p1, p8, p9, p10, p12, p13, q139, q140, q138, q141, q142, q143, bI_e0, Classical.not_not, tk_0, tk_1, tk_2, tk_3, tk_4, tk_5, tk_6, tk_7, tk_8, tk_9, tk_10, tk_11, tk_12, tk_13, tk_14, tk_15, tk_16, tk_17] at h1)
          (try simp only [wI_M, wI_1, wI_w, wI_1, wI_w, p1, p8, p9, p10, p12, p13, q139, q140, q138, q141, q142, q143, bI_e0, Classical.not_not, tk_0, tk_1, tk_2, tk_3, tk_4, tk_5, tk_6, tk_7, tk_8, tk_9, tk_10, tk_11, tk_12, tk_13, tk_14, tk_15, tk_16, tk_17] at h6)
          refine ⟨⟨Nat.zero_le _, Nat.zero_le _⟩, _, _, rfl, rfl, ?_, ?_, Jk_Q M (by omega)⟩
          · unfold aAbout; rw [if_pos h1]; exact setQ_s
          · unfold aAbout; rw [if_pos h1]; intro _; rw [ck (by omega)]; unfold vAbout; rw [if_neg (by omega), if_neg (by omega), if_neg (by omega)]; first | done | rfl | simp only [wI_M, wI_1, wI_w, wI_1, wI_w, p1, p8, p9, p10, p12, p13, q139, q140, q138, q141, q142, q143, bI_e0, Classical.not_not, tk_0, tk_1, tk_2, tk_3, tk_4, tk_5, tk_6, tk_7, tk_8, tk_9, tk_10, tk_11, tk_12, tk_13, tk_14, tk_15, tk_16, tk_17, ck (show (2 : Nat) < 2147483648 by omega)]
        · refine ⟨fun h => absurd h (by decide), fun _ => ?_⟩
          refine ⟨fun h => absurd h (by decide), fun _ => ?_⟩
          refine ⟨fun h => absurd h (by decide), fun _ => ?_⟩
          refine ⟨fun h => absurd h (by decide), fun _ => ?_⟩
          refine ⟨fun h => absurd h (by decide), fun _ => ?_⟩
          refine ⟨fun h => absurd h (by decide), fun _ => ?_⟩
          refine ⟨fun h => absurd h (by decide), fun _ => ?_⟩
          refine ⟨fun h => absurd h (by decide), fun _ => ?_⟩
          refine ⟨fun h => absurd h (by decide), fun _ => ?_⟩
          refine ⟨fun h => absurd h (by decide), fun _ => ?_⟩
          refine ⟨fun h => absurd h (by decide), fun _ => ?_⟩
          refine ⟨by simp only [wI_1, wI_w, p1, p8, p9, p10, p12, p13, b137, b138, b139, b140, b141, b142, b143] <;> first | rfl | decide, ?_⟩
          refine ⟨by simp only [wI_1, wI_w, p1, p8, p9, p10, p12, p13, b137, b138, b139, b140, b141, b142, b143] <;> first | rfl | decide, (by simp only [wI_1, wI_w, p1, p8, p9, p10, p12, p13, n138, n139, n140, n141, n142, n143]; exact vp_in_nI (show _ < 114 by omega) (by omega)), ?_⟩
          (try simp only [wI_M, wI_1, wI_w, wI_1, wI_w, p1, p8, p9, p10, p12, p13, q139, q140, q138, q141, q142, q143, bI_e0, Classical.not_not, tk_0, tk_1, tk_2, tk_3, tk_4, tk_5, tk_6, tk_7, tk_8, tk_9, tk_10, tk_11, tk_12, tk_13, tk_14, tk_15, tk_16, tk_17] at h1)
          (try simp only [wI_M, wI_1, wI_w, wI_1, wI_w, p1, p8, p9, p10, p12, p13, q139, q140, q138, q141, q142, q143, bI_e0, Classical.not_not, tk_0, tk_1, tk_2, tk_3, tk_4, tk_5, tk_6, tk_7, tk_8, tk_9, tk_10, tk_11, tk_12, tk_13, tk_14, tk_15, tk_16, tk_17] at h6)
          refine ⟨⟨Nat.zero_le _, Nat.zero_le _⟩, _, _, rfl, rfl, ?_, ?_, Jk_Q M (by omega)⟩
          · unfold aAbout; rw [if_pos h1]; exact setQ_s
          · unfold aAbout; rw [if_pos h1]; intro _; rw [ck (by omega)]; unfold vAbout; rw [if_neg (by omega), if_neg (by omega), if_neg (by omega)]; first | done | rfl | simp only [wI_M, wI_1, wI_w, wI_1, wI_w, p1, p8, p9, p10, p12, p13, q139, q140, q138, q141, q142, q143, bI_e0, Classical.not_not, tk_0, tk_1, tk_2, tk_3, tk_4, tk_5, tk_6, tk_7, tk_8, tk_9, tk_10, tk_11, tk_12, tk_13, tk_14, tk_15, tk_16, tk_17, ck (show (2 : Nat) < 2147483648 by omega)]
      · refine ⟨by simp only [wI_1, wI_w, p1, p8, p9, p10, p12, p13, b137, b138, b139, b140, b141, b142, b143] <;> first | rfl | decide, ?_⟩
        refine ⟨by simp only [wI_1, wI_w, p1, p8, p9, p10, p12, p13, b137, b138, b139, b140, b141, b142, b143] <;> first | rfl | decide, (by simp only [wI_1, wI_w, p1, p8, p9, p10, p12, p13, n138, n139, n140, n141, n142, n143]; exact vp_in_nI (show 3 < 114 by omega) (by omega)), ?_⟩
        refine ⟨fun h7 => ?_, fun h7 => ?_⟩
        · refine ⟨fun h => absurd h (by decide), fun _ => ?_⟩
          refine ⟨fun h => absurd h (by decide), fun _ => ?_⟩
          refine ⟨fun h => absurd h (by decide), fun _ => ?_⟩
          refine ⟨fun h => absurd h (by decide), fun _ => ?_⟩
          refine ⟨fun h => absurd h (by decide), fun _ => ?_⟩
          refine ⟨fun h => absurd h (by decide), fun _ => ?_⟩
          refine ⟨fun h => absurd h (by decide), fun _ => ?_⟩
          refine ⟨fun h => absurd h (by decide), fun _ => ?_⟩
          refine ⟨fun h => absurd h (by decide), fun _ => ?_⟩
          refine ⟨fun h => absurd h (by decide), fun _ => ?_⟩
          refine ⟨fun h => absurd h (by decide), fun _ => ?_⟩
          refine ⟨by simp only [wI_1, wI_w, p1, p8, p9, p10, p12, p13, b137, b138, b139, b140, b141, b142, b143] <;> first | rfl | decide, ?_⟩
          refine ⟨by simp only [wI_1, wI_w, p1, p8, p9, p10, p12, p13, b137, b138, b139, b140, b141, b142, b143] <;> first | rfl | decide, (by simp only [wI_1, wI_w, p1, p8, p9, p10, p12, p13, n138, n139, n140, n141, n142, n143]; exact vp_in_nI (show _ < 114 by omega) (by omega)), ?_⟩
          (try simp only [wI_M, wI_1, wI_w, wI_1, wI_w, p1, p8, p9, p10, p12, p13, q139, q140, q138, q141, q142, q143, bI_e0, Classical.not_not, tk_0, tk_1, tk_2, tk_3, tk_4, tk_5, tk_6, tk_7, tk_8, tk_9, tk_10, tk_11, tk_12, tk_13, tk_14, tk_15, tk_16, tk_17] at h1)
          (try simp only [wI_M, wI_1, wI_w, wI_1, wI_w, p1, p8, p9, p10, p12, p13, q139, q140, q138, q141, q142, q143, bI_e0, Classical.not_not, tk_0, tk_1, tk_2, tk_3, tk_4, tk_5, tk_6, tk_7, tk_8, tk_9, tk_10, tk_11, tk_12, tk_13, tk_14, tk_15, tk_16, tk_17] at h7)
          refine ⟨⟨Nat.zero_le _, Nat.zero_le _⟩, _, _, rfl, rfl, ?_, ?_, Jk_Q M (by omega)⟩
          · unfold aAbout; rw [if_pos h1]; exact setQ_s
          · unfold aAbout; rw [if_pos h1]; intro _; rw [ck (by omega)]; unfold vAbout; rw [if_neg (by omega), if_neg (by omega), if_neg (by omega)]; first | done | rfl | simp only [wI_M, wI_1, wI_w, wI_1, wI_w, p1, p8, p9, p10, p12, p13, q139, q140, q138, q141, q142, q143, bI_e0, Classical.not_not, tk_0, tk_1, tk_2, tk_3, tk_4, tk_5, tk_6, tk_7, tk_8, tk_9, tk_10, tk_11, tk_12, tk_13, tk_14, tk_15, tk_16, tk_17, ck (show (3 : Nat) < 2147483648 by omega)]
        · refine ⟨fun h => absurd h (by decide), fun _ => ?_⟩
          refine ⟨fun h => absurd h (by decide), fun _ => ?_⟩
          refine ⟨fun h => absurd h (by decide), fun _ => ?_⟩
          refine ⟨fun h => absurd h (by decide), fun _ => ?_⟩
          refine ⟨fun h => absurd h (by decide), fun _ => ?_⟩
          refine ⟨fun h => absurd h (by decide), fun _ => ?_⟩
          refine ⟨fun h => absurd h (by decide), fun _ => ?_⟩
          refine ⟨fun h => absurd h (by decide), fun _ => ?_⟩
          refine ⟨fun h => absurd h (by decide), fun _ => ?_⟩
          refine ⟨fun h => absurd h (by decide), fun _ => ?_⟩
          refine ⟨fun h => absurd h (by decide), fun _ => ?_⟩
          refine ⟨by simp only [wI_1, wI_w, p1, p8, p9, p10, p12, p13, b137, b138, b139, b140, b141, b142, b143] <;> first | rfl | decide, ?_⟩
          refine ⟨by simp only [wI_1, wI_w, p1, p8, p9, p10, p12, p13, b137, b138, b139, b140, b141, b142, b143] <;> first | rfl | decide, (by simp only [wI_1, wI_w, p1, p8, p9, p10, p12, p13, n138, n139, n140, n141, n142, n143]; exact vp_in_nI (show _ < 114 by omega) (by omega)), ?_⟩
          (try simp only [wI_M, wI_1, wI_w, wI_1, wI_w, p1, p8, p9, p10, p12, p13, q139, q140, q138, q141, q142, q143, bI_e0, Classical.not_not, tk_0, tk_1, tk_2, tk_3, tk_4, tk_5, tk_6, tk_7, tk_8, tk_9, tk_10, tk_11, tk_12, tk_13, tk_14, tk_15, tk_16, tk_17] at h1)
          (try simp only [wI_M, wI_1, wI_w, wI_1, wI_w, p1, p8, p9, p10, p12, p13, q139, q140, q138, q141, q142, q143, bI_e0, Classical.not_not, tk_0, tk_1, tk_2, tk_3, tk_4, tk_5, tk_6, tk_7, tk_8, tk_9, tk_10, tk_11, tk_12, tk_13, tk_14, tk_15, tk_16, tk_17] at h7)
          refine ⟨⟨Nat.zero_le _, Nat.zero_le _⟩, _, _, rfl, rfl, ?_, ?_, Jk_Q M (by omega)⟩
          · unfold aAbout; rw [if_pos h1]; exact setQ_s
          · unfold aAbout; rw [if_pos h1]; intro _; rw [ck (by omega)]; unfold vAbout; rw [if_neg (by omega), if_neg (by omega), if_neg (by omega)]; first | done | rfl | simp only [wI_M, wI_1, wI_w, wI_1, wI_w, p1, p8, p9, p10, p12, p13, q139, q140, q138, q141, q142, q143, bI_e0, Classical.not_not, tk_0, tk_1, tk_2, tk_3, tk_4, tk_5, tk_6, tk_7, tk_8, tk_9, tk_10, tk_11, tk_12, tk_13, tk_14, tk_15, tk_16, tk_17, ck (show (3 : Nat) < 2147483648 by omega)]
      · refine ⟨by simp only [wI_1, wI_w, p1, p8, p9, p10, p12, p13, b137, b138, b139, b140, b141, b142, b143] <;> first | rfl | decide, ?_⟩
        refine ⟨by simp only [wI_1, wI_w, p1, p8, p9, p10, p12, p13, b137, b138, b139, b140, b141, b142, b143] <;> first | rfl | decide, (by simp only [wI_1, wI_w, p1, p8, p9, p10, p12, p13, n138, n139, n140, n141, n142, n143]; exact vp_in_nI (show 3 < 114 by omega) (by omega)), ?_⟩
        refine ⟨fun h8 => ?_, fun h8 => ?_⟩
        · refine ⟨fun _ => ?_, fun h => absurd rfl h⟩
          refine ⟨fun h9 => ?_, fun h9 => ?_⟩
          · refine ⟨by simp only [wI_1, wI_w, p1, p8, p9, p10, p12, p13, b137, b138, b139, b140, b141, b142, b143] <;> first | rfl | decide, ?_⟩
            refine ⟨by simp only [wI_1, wI_w, p1, p8, p9, p10, p12, p13, b137, b138, b139, b140, b141, b142, b143] <;> first | rfl | decide, (by simp only [wI_1, wI_w, p1, p8, p9, p10, p12, p13, n138, n139, n140, n141, n142, n143]; exact vp_in_nI (show _ < 114 by omega) (by omega)), ?_⟩
            (try simp only [wI_M, wI_1, wI_w, wI_1, wI_w, p1, p8, p9, p10, p12, p13, q139, q140, q138, q141, q142, q143, bI_e0, Classical.not_not, tk_0, tk_1, tk_2, tk_3, tk_4, tk_5, tk_6, tk_7, tk_8, tk_9, tk_10, tk_11, tk_12, tk_13, tk_14, tk_15, tk_16, tk_17] at h1)
            (try simp only [wI_M, wI_1, wI_w, wI_1, wI_w, p1, p8, p9, p10, p12, p13, q139, q140, q138, q141, q142, q143, bI_e0, Classical.not_not, tk_0, tk_1, tk_2, tk_3, tk_4, tk_5, tk_6, tk_7, tk_8, tk_9, tk_10, tk_11, tk_12, tk_13, tk_14, tk_15, tk_16, tk_17] at h8)
            refine ⟨⟨Nat.zero_le _, Nat.zero_le _⟩, _, _, rfl, rfl, ?_, ?_, Jk_Q M (by omega)⟩
            · unfold aAbout; rw [if_pos h1]; exact setQ_s
            · unfold aAbout; rw [if_pos h1]; intro _; rw [ck (by omega)]; unfold vAbout; rw [if_pos (by omega), if_neg h8]; first | done | rfl | simp only [wI_M, wI_1, wI_w, wI_1, wI_w, p1, p8, p9, p10, p12, p13, q139, q140, q138, q141, q142, q143, bI_e0, Classical.not_not, tk_0, tk_1, tk_2, tk_3, tk_4, tk_5, tk_6, tk_7, tk_8, tk_9, tk_10, tk_11, tk_12, tk_13, tk_14, tk_15, tk_16, tk_17, ck (show (4 : Nat) < 2147483648 by omega)]
          · exact absurd h9 (by decide)
        · refine ⟨fun _ => ?_, fun h => absurd rfl h⟩
          refine ⟨fun h10 => ?_, fun h10 => ?_⟩
          · exact absurd h10 (by decide)
          · (try simp only [wI_M, wI_1, wI_w, wI_1, wI_w, p1, p8, p9, p10, p12, p13, q139, q140, q138, q141, q142, q143, bI_e0, Classical.not_not, tk_0, tk_1, tk_2, tk_3, tk_4, tk_5, tk_6, tk_7, tk_8, tk_9, tk_10, tk_11, tk_12, tk_13, tk_14, tk_15, tk_16, tk_17] at h1)
            (try simp only [wI_M, wI_1, wI_w, wI_1, wI_w, p1, p8, p9, p10, p12, p13, q139, q140, q138, q141, q142, q143, bI_e0, Classical.not_not, tk_0, tk_1, tk_2, tk_3, tk_4, tk_5, tk_6, tk_7, tk_8, tk_9, tk_10, tk_11, tk_12, tk_13, tk_14, tk_15, tk_16, tk_17] at h8)
            refine ⟨⟨Nat.zero_le _, Nat.zero_le _⟩, _, _, rfl, rfl, ?_, ?_, Jk_Q M (by omega)⟩
            · unfold aAbout; rw [if_pos h1]; exact setQ_s
            · unfold aAbout; rw [if_pos h1]; intro _; rw [ck (by omega)]; unfold vAbout; rw [if_pos (by omega), if_pos h8]; first | done | rfl | simp only [wI_M, wI_1, wI_w, wI_1, wI_w, p1, p8, p9, p10, p12, p13, q139, q140, q138, q141, q142, q143, bI_e0, Classical.not_not, tk_0, tk_1, tk_2, tk_3, tk_4, tk_5, tk_6, tk_7, tk_8, tk_9, tk_10, tk_11, tk_12, tk_13, tk_14, tk_15, tk_16, tk_17, ck (show (4 : Nat) < 2147483648 by omega)]
      · refine ⟨by simp only [wI_1, wI_w, p1, p8, p9, p10, p12, p13, b137, b138, b139, b140, b141, b142, b143] <;> first | rfl | decide, ?_⟩
        refine ⟨by simp only [wI_1, wI_w, p1, p8, p9, p10, p12, p13, b137, b138, b139, b140, b141, b142, b143] <;> first | rfl | decide, (by simp only [wI_1, wI_w, p1, p8, p9, p10, p12, p13, n138, n139, n140, n141, n142, n143]; exact vp_in_nI (show 3 < 114 by omega) (by omega)), ?_⟩
        refine ⟨fun h11 => ?_, fun h11 => ?_⟩
        · refine ⟨fun h => absurd h (by decide), fun _ => ?_⟩
          refine ⟨fun _ => ?_, fun h => absurd rfl h⟩
          refine ⟨by simp only [wI_1, wI_w, p1, p8, p9, p10, p12, p13, b137, b138, b139, b140, b141, b142, b143] <;> first | rfl | decide, ?_⟩
          refine ⟨by simp only [wI_1, wI_w, p1, p8, p9, p10, p12, p13, b137, b138, b139, b140, b141, b142, b143] <;> first | rfl | decide, (by simp only [wI_1, wI_w, p1, p8, p9, p10, p12, p13, n138, n139, n140, n141, n142, n143]; exact vp_in_nI (show _ < 114 by omega) (by omega)), ?_⟩
          (try simp only [wI_M, wI_1, wI_w, wI_1, wI_w, p1, p8, p9, p10, p12, p13, q139, q140, q138, q141, q142, q143, bI_e0, Classical.not_not, tk_0, tk_1, tk_2, tk_3, tk_4, tk_5, tk_6, tk_7, tk_8, tk_9, tk_10, tk_11, tk_12, tk_13, tk_14, tk_15, tk_16, tk_17] at h1)
          (try simp only [wI_M, wI_1, wI_w, wI_1, wI_w, p1, p8, p9, p10, p12, p13, q139, q140, q138, q141, q142, q143, bI_e0, Classical.not_not, tk_0, tk_1, tk_2, tk_3, tk_4, tk_5, tk_6, tk_7, tk_8, tk_9, tk_10, tk_11, tk_12, tk_13, tk_14, tk_15, tk_16, tk_17] at h11)
          refine ⟨⟨Nat.zero_le _, Nat.zero_le _⟩, _, _, rfl, rfl, ?_, ?_, Jk_Q M (by omega)⟩
          · unfold aAbout; rw [if_pos h1]; exact setQ_s
          · unfold aAbout; rw [if_pos h1]; intro _; rw [ck (by omega)]; unfold vAbout; rw [if_neg (by omega), if_neg (by omega), if_neg (by omega)]; first | done | rfl | simp only [wI_M, wI_1, wI_w, wI_1, wI_w, p1, p8, p9, p10, p12, p13, q139, q140, q138, q141, q142, q143, bI_e0, Classical.not_not, tk_0, tk_1, tk_2, tk_3, tk_4, tk_5, tk_6, tk_7, tk_8, tk_9, tk_10, tk_11, tk_12, tk_13, tk_14, tk_15, tk_16, tk_17, ck (show (5 : Nat) < 2147483648 by omega)]
        · refine ⟨fun h => absurd h (by decide), fun _ => ?_⟩
          refine ⟨fun _ => ?_, fun h => absurd rfl h⟩
          refine ⟨by simp only [wI_1, wI_w, p1, p8, p9, p10, p12, p13, b137, b138, b139, b140, b141, b142, b143] <;> first | rfl | decide, ?_⟩
          refine ⟨by simp only [wI_1, wI_w, p1, p8, p9, p10, p12, p13, b137, b138, b139, b140, b141, b142, b143] <;> first | rfl | decide, (by simp only [wI_1, wI_w, p1, p8, p9, p10, p12, p13, n138, n139, n140, n141, n142, n143]; exact vp_in_nI (show _ < 114 by omega) (by omega)), ?_⟩
          (try simp only [wI_M, wI_1, wI_w, wI_1, wI_w, p1, p8, p9, p10, p12, p13, q139, q140, q138, q141, q142, q143, bI_e0, Classical.not_not, tk_0, tk_1, tk_2, tk_3, tk_4, tk_5, tk_6, tk_7, tk_8, tk_9, tk_10, tk_11, tk_12, tk_13, tk_14, tk_15, tk_16, tk_17] at h1)
          (try simp only [wI_M, wI_1, wI_w, wI_1, wI_w, p1, p8, p9, p10, p12, p13, q139, q140, q138, q141, q142, q143, bI_e0, Classical.not_not, tk_0, tk_1, tk_2, tk_3, tk_4, tk_5, tk_6, tk_7, tk_8, tk_9, tk_10, tk_11, tk_12, tk_13, tk_14, tk_15, tk_16, tk_17] at h11)
          refine ⟨⟨Nat.zero_le _, Nat.zero_le _⟩, _, _, rfl, rfl, ?_, ?_, Jk_Q M (by omega)⟩
          · unfold aAbout; rw [if_pos h1]; exact setQ_s
          · unfold aAbout; rw [if_pos h1]; intro _; rw [ck (by omega)]; unfold vAbout; rw [if_neg (by omega), if_neg (by omega), if_neg (by omega)]; first | done | rfl | simp only [wI_M, wI_1, wI_w, wI_1, wI_w, p1, p8, p9, p10, p12, p13, q139, q140, q138, q141, q142, q143, bI_e0, Classical.not_not, tk_0, tk_1, tk_2, tk_3, tk_4, tk_5, tk_6, tk_7, tk_8, tk_9, tk_10, tk_11, tk_12, tk_13, tk_14, tk_15, tk_16, tk_17, ck (show (5 : Nat) < 2147483648 by omega)]
      · refine ⟨by simp only [wI_1, wI_w, p1, p8, p9, p10, p12, p13, b137, b138, b139, b140, b141, b142, b143] <;> first | rfl | decide, ?_⟩
        refine ⟨by simp only [wI_1, wI_w, p1, p8, p9, p10, p12, p13, b137, b138, b139, b140, b141, b142, b143] <;> first | rfl | decide, (by simp only [wI_1, wI_w, p1, p8, p9, p10, p12, p13, n138, n139, n140, n141, n142, n143]; exact vp_in_nI (show 3 < 114 by omega) (by omega)), ?_⟩
        refine ⟨fun h12 => ?_, fun h12 => ?_⟩
        · refine ⟨fun h => absurd h (by decide), fun _ => ?_⟩
          refine ⟨fun h => absurd h (by decide), fun _ => ?_⟩
          refine ⟨fun _ => ?_, fun h => absurd rfl h⟩
          refine ⟨fun h13 => ?_, fun h13 => ?_⟩
          · refine ⟨by simp only [wI_1, wI_w, p1, p8, p9, p10, p12, p13, b137, b138, b139, b140, b141, b142, b143] <;> first | rfl | decide, ?_⟩
            refine ⟨by simp only [wI_1, wI_w, p1, p8, p9, p10, p12, p13, b137, b138, b139, b140, b141, b142, b143] <;> first | rfl | decide, (by simp only [wI_1, wI_w, p1, p8, p9, p10, p12, p13, n138, n139, n140, n141, n142, n143]; exact vp_in_nI (show _ < 114 by omega) (by omega)), ?_⟩
            (try simp only [wI_M, wI_1, wI_w, wI_1, wI_w, p1, p8, p9, p10, p12, p13, q139, q140, q138, q141, q142, q143, bI_e0, Classical.not_not, tk_0, tk_1, tk_2, tk_3, tk_4, tk_5, tk_6, tk_7, tk_8, tk_9, tk_10, tk_11, tk_12, tk_13, tk_14, tk_15, tk_16, tk_17] at h1)
            (try simp only [wI_M, wI_1, wI_w, wI_1, wI_w, p1, p8, p9, p10, p12, p13, q139, q140, q138, q141, q142, q143, bI_e0, Classical.not_not, tk_0, tk_1, tk_2, tk_3, tk_4, tk_5, tk_6, tk_7, tk_8, tk_9, tk_10, tk_11, tk_12, tk_13, tk_14, tk_15, tk_16, tk_17] at h12)
            refine ⟨⟨Nat.zero_le _, Nat.zero_le _⟩, _, _, rfl, rfl, ?_, ?_, Jk_Q M (by omega)⟩
            · unfold aAbout; rw [if_pos h1]; exact setQ_s
            · unfold aAbout; rw [if_pos h1]; intro _; rw [ck (by omega)]; unfold vAbout; rw [if_pos (by omega), if_neg h12]; first | done | rfl | simp only [wI_M, wI_1, wI_w, wI_1, wI_w, p1, p8, p9, p10, p12, p13, q139, q140, q138, q141, q142, q143, bI_e0, Classical.not_not, tk_0, tk_1, tk_2, tk_3, tk_4, tk_5, tk_6, tk_7, tk_8, tk_9, tk_10, tk_11, tk_12, tk_13, tk_14, tk_15, tk_16, tk_17, ck (show (6 : Nat) < 2147483648 by omega)]
          · exact absurd h13 (by decide)
        · refine ⟨fun h => absurd h (by decide), fun _ => ?_⟩
          refine ⟨fun h => absurd h (by decide), fun _ => ?_⟩
          refine ⟨fun _ => ?_, fun h => absurd rfl h⟩
          refine ⟨fun h14 => ?_, fun h14 => ?_⟩
          · exact absurd h14 (by decide)
          · (try simp only [wI_M, wI_1, wI_w, wI_1, wI_w, p1, p8, p9, p10, p12, p13, q139, q140, q138, q141, q142, q143, bI_e0, Classical.not_not, tk_0, tk_1, tk_2, tk_3, tk_4, tk_5, tk_6, tk_7, tk_8, tk_9, tk_10, tk_11, tk_12, tk_13, tk_14, tk_15, tk_16, tk_17] at h1)
            (try simp only [wI_M, wI_1, wI_w, wI_1, wI_w, p1, p8, p9, p10, p12, p13, q139, q140, q138, q141, q142, q143, bI_e0, Classical.not_not, tk_0, tk_1, tk_2, tk_3, tk_4, tk_5, tk_6, tk_7, tk_8, tk_9, tk_10, tk_11, tk_12, tk_13, tk_14, tk_15, tk_16, tk_17] at h12)
            refine ⟨⟨Nat.zero_le _, Nat.zero_le _⟩, _, _, rfl, rfl, ?_, ?_, Jk_Q M (by omega)⟩
            · unfold aAbout; rw [if_pos h1]; exact setQ_s
            · unfold aAbout; rw [if_pos h1]; intro _; rw [ck (by omega)]; unfold vAbout; rw [if_pos (by omega), if_pos h12]; first | done | rfl | simp only [wI_M, wI_1, wI_w, wI_1, wI_w, p1, p8, p9, p10, p12, p13, q139, q140, q138, q141, q142, q143, bI_e0, Classical.not_not, tk_0, tk_1, tk_2, tk_3, tk_4, tk_5, tk_6, tk_7, tk_8, tk_9, tk_10, tk_11, tk_12, tk_13, tk_14, tk_15, tk_16, tk_17, ck (show (6 : Nat) < 2147483648 by omega)]
      · refine ⟨by simp only [wI_1, wI_w, p1, p8, p9, p10, p12, p13, b137, b138, b139, b140, b141, b142, b143] <;> first | rfl | decide, ?_⟩
        refine ⟨by simp only [wI_1, wI_w, p1, p8, p9, p10, p12, p13, b137, b138, b139, b140, b141, b142, b143] <;> first | rfl | decide, (by simp only [wI_1, wI_w, p1, p8, p9, p10, p12, p13, n138, n139, n140, n141, n142, n143]; exact vp_in_nI (show 3 < 114 by omega) (by omega)), ?_⟩
        refine ⟨fun h15 => ?_, fun h15 => ?_⟩
        · refine ⟨fun h => absurd h (by decide), fun _ => ?_⟩
          refine ⟨fun h => absurd h (by decide), fun _ => ?_⟩
          refine ⟨fun h => absurd h (by decide), fun _ => ?_⟩
          refine ⟨fun _ => ?_, fun h => absurd rfl h⟩
          refine ⟨fun h16 => ?_, fun h16 => ?_⟩
          · refine ⟨by simp only [wI_1, wI_w, p1, p8, p9, p10, p12, p13, b137, b138, b139, b140, b141, b142, b143] <;> first | rfl | decide, ?_⟩
            refine ⟨by simp only [wI_1, wI_w, p1, p8, p9, p10, p12, p13, b137, b138, b139, b140, b141, b142, b143] <;> first | rfl | decide, (by simp only [wI_1, wI_w, p1, p8, p9, p10, p12, p13, n138, n139, n140, n141, n142, n143]; exact vp_in_nI (show _ < 114 by omega) (by omega)), ?_⟩
            (try simp only [wI_M, wI_1, wI_w, wI_1, wI_w, p1, p8, p9, p10, p12, p13, q139, q140, q138, q141, q142, q143, bI_e0, Classical.not_not, tk_0, tk_1, tk_2, tk_3, tk_4, tk_5, tk_6, tk_7, tk_8, tk_9, tk_10, tk_11, tk_12, tk_13, tk_14, tk_15, tk_16, tk_17] at h1)
            (try simp only [wI_M, wI_1, wI_w, wI_1, wI_w, p1, p8, p9, p10, p12, p13, q139, q140, q138, q141, q142, q143, bI_e0, Classical.not_not, tk_0, tk_1, tk_2, tk_3, tk_4, tk_5, tk_6, tk_7, tk_8, tk_9, tk_10, tk_11, tk_12, tk_13, tk_14, tk_15, tk_16, tk_17] at h15)
            refine ⟨⟨Nat.zero_le _, Nat.zero_le _⟩, _, _, rfl, rfl, ?_, ?_, Jk_Q M (by omega)⟩
            · unfold aAbout; rw [if_pos h1]; exact setQ_s
            · unfold aAbout; rw [if_pos h1]; intro _; rw [ck (by omega)]; unfold vAbout; rw [if_pos (by omega), if_neg h15]; first | done | rfl | simp only [wI_M, wI_1, wI_w, wI_1, wI_w, p1, p8, p9, p10, p12, p13, q139, q140, q138, q141, q142, q143, bI_e0, Classical.not_not, tk_0, tk_1, tk_2, tk_3, tk_4, tk_5, tk_6, tk_7, tk_8, tk_9, tk_10, tk_11, tk_12, tk_13, tk_14, tk_15, tk_16, tk_17, ck (show (7 : Nat) < 2147483648 by omega)]
          · exact absurd h16 (by decide)
        · refine ⟨fun h => absurd h (by decide), fun _ => ?_⟩
          refine ⟨fun h => absurd h (by decide), fun _ => ?_⟩
          refine ⟨fun h => absurd h (by decide), fun _ => ?_⟩
          refine ⟨fun _ => ?_, fun h => absurd rfl h⟩
          refine ⟨fun h17 => ?_, fun h17 => ?_⟩
          · exact absurd h17 (by decide)
          · (try simp only [wI_M, wI_1, wI_w, wI_1, wI_w, p1, p8, p9, p10, p12, p13, q139, q140, q138, q141, q142, q143, bI_e0, Classical.not_not, tk_0, tk_1, tk_2, tk_3, tk_4, tk_5, tk_6, tk_7, tk_8, tk_9, tk_10, tk_11, tk_12, tk_13, tk_14, tk_15, tk_16, tk_17] at h1)
            (try simp only [wI_M, wI_1, wI_w, wI_1, wI_w, p1, p8, p9, p10, p12, p13, q139, q140, q138, q141, q142, q143, bI_e0, Classical.not_not, tk_0, tk_1, tk_2, tk_3, tk_4, tk_5, tk_6, tk_7, tk_8, tk_9, tk_10, tk_11, tk_12, tk_13, tk_14, tk_15, tk_16, tk_17] at h15)
            refine ⟨⟨Nat.zero_le _, Nat.zero_le _⟩, _, _, rfl, rfl, ?_, ?_, Jk_Q M (by omega)⟩
            · unfold aAbout; rw [if_pos h1]; exact setQ_s
            · unfold aAbout; rw [if_pos h1]; intro _; rw [ck (by omega)]; unfold vAbout; rw [if_pos (by omega), if_pos h15]; first | done | rfl | simp only [wI_M, wI_1, wI_w, wI_1, wI_w, p1, p8, p9, p10, p12, p13, q139, q140, q138, q141, q142, q143, bI_e0, Classical.not_not, tk_0, tk_1, tk_2, tk_3, tk_4, tk_5, tk_6, tk_7, tk_8, tk_9, tk_10, tk_11, tk_12, tk_13, tk_14, tk_15, tk_16, tk_17, ck (show (7 : Nat) < 2147483648 by omega)]
      · refine ⟨by simp only [wI_1, wI_w, p1, p8, p9, p10, p12, p13, b137, b138, b139, b140, b141, b142, b143] <;> first | rfl | decide, ?_⟩
        refine ⟨by simp only [wI_1, wI_w, p1, p8, p9, p10, p12, p13, b137, b138, b139, b140, b141, b142, b143] <;> first | rfl | decide, (by simp only [wI_1, wI_w, p1, p8, p9, p10, p12, p13, n138, n139, n140, n141, n142, n143]; exact vp_in_nI (show 3 < 114 by omega) (by omega)), ?_⟩
        refine ⟨fun h18 => ?_, fun h18 => ?_⟩
        · refine ⟨fun h => absurd h (by decide), fun _ => ?_⟩
          refine ⟨fun h => absurd h (by decide), fun _ => ?_⟩
          refine ⟨fun h => absurd h (by decide), fun _ => ?_⟩
          refine ⟨fun h => absurd h (by decide), fun _ => ?_⟩
          refine ⟨fun _ => ?_, fun h => absurd rfl h⟩
          refine ⟨by simp only [wI_1, wI_w, p1, p8, p9, p10, p12, p13, b137, b138, b139, b140, b141, b142, b143] <;> first | rfl | decide, ?_⟩
          refine ⟨by simp only [wI_1, wI_w, p1, p8, p9, p10, p12, p13, b137, b138, b139, b140, b141, b142, b143] <;> first | rfl | decide, (by simp only [wI_1, wI_w, p1, p8, p9, p10, p12, p13, n138, n139, n140, n141, n142, n143]; exact vp_in_nI (show _ < 114 by omega) (by omega)), ?_⟩
          (try simp only [wI_M, wI_1, wI_w, wI_1, wI_w, p1, p8, p9, p10, p12, p13, q139, q140, q138, q141, q142, q143, bI_e0, Classical.not_not, tk_0, tk_1, tk_2, tk_3, tk_4, tk_5, tk_6, tk_7, tk_8, tk_9, tk_10, tk_11, tk_12, tk_13, tk_14, tk_15, tk_16, tk_17] at h1)
          (try simp only [wI_M, wI_1, wI_w, wI_1, wI_w, p1, p8, p9, p10, p12, p13, q139, q140, q138, q141, q142, q143, bI_e0, Classical.not_not, tk_0, tk_1, tk_2, tk_3, tk_4, tk_5, tk_6, tk_7, tk_8, tk_9, tk_10, tk_11, tk_12, tk_13, tk_14, tk_15, tk_16, tk_17] at h18)
          refine ⟨⟨Nat.zero_le _, Nat.zero_le _⟩, _, _, rfl, rfl, ?_, ?_, Jk_Q M (by omega)⟩
          · unfold aAbout; rw [if_pos h1]; exact setQ_s
          · unfold aAbout; rw [if_pos h1]; intro _; rw [ck (by omega)]; unfold vAbout; rw [if_neg (by omega), if_neg (by omega), if_neg (by omega)]; first | done | rfl | simp only [wI_M, wI_1, wI_w, wI_1, wI_w, p1, p8, p9, p10, p12, p13, q139, q140, q138, q141, q142, q143, bI_e0, Classical.not_not, tk_0, tk_1, tk_2, tk_3, tk_4, tk_5, tk_6, tk_7, tk_8, tk_9, tk_10, tk_11, tk_12, tk_13, tk_14, tk_15, tk_16, tk_17, ck (show (8 : Nat) < 2147483648 by omega)]
        · refine ⟨fun h => absurd h (by decide), fun _ => ?_⟩
          refine ⟨fun h => absurd h (by decide), fun _ => ?_⟩
          refine ⟨fun h => absurd h (by decide), fun _ => ?_⟩
          refine ⟨fun h => absurd h (by decide), fun _ => ?_⟩
          refine ⟨fun _ => ?_, fun h => absurd rfl h⟩
          refine ⟨by simp only [wI_1, wI_w, p1, p8, p9, p10, p12, p13, b137, b138, b139, b140, b141, b142, b143] <;> first | rfl | decide, ?_⟩
          refine ⟨by simp only [wI_1, wI_w, p1, p8, p9, p10, p12, p13, b137, b138, b139, b140, b141, b142, b143] <;> first | rfl | decide, (by simp only [wI_1, wI_w, p1, p8, p9, p10, p12, p13, n138, n139, n140, n141, n142, n143]; exact vp_in_nI (show _ < 114 by omega) (by omega)), ?_⟩
          (try simp only [wI_M, wI_1, wI_w, wI_1, wI_w, p1, p8, p9, p10, p12, p13, q139, q140, q138, q141, q142, q143, bI_e0, Classical.not_not, tk_0, tk_1, tk_2, tk_3, tk_4, tk_5, tk_6, tk_7, tk_8, tk_9, tk_10, tk_11, tk_12, tk_13, tk_14, tk_15, tk_16, tk_17] at h1)
          (try simp only [wI_M, wI_1, wI_w, wI_1, wI_w, p1, p8, p9, p10, p12, p13, q139, q140, q138, q141, q142, q143, bI_e0, Classical.not_not, tk_0, tk_1, tk_2, tk_3, tk_4, tk_5, tk_6, tk_7, tk_8, tk_9, tk_10, tk_11, tk_12, tk_13, tk_14, tk_15, tk_16, tk_17] at h18)
          refine ⟨⟨Nat.zero_le _, Nat.zero_le _⟩, _, _, rfl, rfl, ?_, ?_, Jk_Q M (by omega)⟩
          · unfold aAbout; rw [if_pos h1]; exact setQ_s
          · unfold aAbout; rw [if_pos h1]; intro _; rw [ck (by omega)]; unfold vAbout; rw [if_neg (by omega), if_neg (by omega), if_neg (by omega)]; first | done | rfl | simp only [wI_M, wI_1, wI_w, wI_1, wI_w, p1, p8, p9, p10, p12, p13, q139, q140, q138, q141, q142, q143, bI_e0, Classical.not_not, tk_0, tk_1, tk_2, tk_3, tk_4, tk_5, tk_6, tk_7, tk_8, tk_9, tk_10, tk_11, tk_12, tk_13, tk_14, tk_15, tk_16, tk_17, ck (show (8 : Nat) < 2147483648 by omega)]
      · refine ⟨by simp only [wI_1, wI_w, p1, p8, p9, p10, p12, p13, b137, b138, b139, b140, b141, b142, b143] <;> first | rfl | decide, ?_⟩
        refine ⟨by simp only [wI_1, wI_w, p1, p8, p9, p10, p12, p13, b137, b138, b139, b140, b141, b142, b143] <;> first | rfl | decide, (by simp only [wI_1, wI_w, p1, p8, p9, p10, p12, p13, n138, n139, n140, n141, n142, n143]; exact vp_in_nI (show 3 < 114 by omega) (by omega)), ?_⟩
        refine ⟨fun h19 => ?_, fun h19 => ?_⟩
        · refine ⟨fun h => absurd h (by decide), fun _ => ?_⟩
          refine ⟨fun h => absurd h (by decide), fun _ => ?_⟩
          refine ⟨fun h => absurd h (by decide), fun _ => ?_⟩
          refine ⟨fun h => absurd h (by decide), fun _ => ?_⟩
          refine ⟨fun h => absurd h (by decide), fun _ => ?_⟩
          refine ⟨fun _ => ?_, fun h => absurd rfl h⟩
          refine ⟨by simp only [wI_1, wI_w, p1, p8, p9, p10, p12, p13, b137, b138, b139, b140, b141, b142, b143] <;> first | rfl | decide, ?_⟩
          refine ⟨by simp only [wI_1, wI_w, p1, p8, p9, p10, p12, p13, b137, b138, b139, b140, b141, b142, b143] <;> first | rfl | decide, (by simp only [wI_1, wI_w, p1, p8, p9, p10, p12, p13, n138, n139, n140, n141, n142, n143]; exact vp_in_nI (show _ < 114 by omega) (by omega)), ?_⟩
          (try simp only [wI_M, wI_1, wI_w, wI_1, wI_w, p1, p8, p9, p10, p12, p13, q139, q140, q138, q141, q142, q143, bI_e0, Classical.not_not, tk_0, tk_1, tk_2, tk_3, tk_4, tk_5, tk_6, tk_7, tk_8, tk_9, tk_10, tk_11, tk_12, tk_13, tk_14, tk_15, tk_16, tk_17] at h1)
          (try simp only [wI_M, wI_1, wI_w, wI_1, wI_w, p1, p8, p9, p10, p12, p13, q139, q140, q138, q141, q142, q143, bI_e0, Classical.not_not, tk_0, tk_1, tk_2, tk_3, tk_4, tk_5, tk_6, tk_7, tk_8, tk_9, tk_10, tk_11, tk_12, tk_13, tk_14, tk_15, tk_16, tk_17] at h19)
          refine ⟨⟨Nat.zero_le _, Nat.zero_le _⟩, _, _, rfl, rfl, ?_, ?_, Jk_Q M (by omega)⟩
          · unfold aAbout; rw [if_pos h1]; exact setQ_s
          · unfold aAbout; rw [if_pos h1]; intro _; rw [ck (by omega)]; unfold vAbout; rw [if_neg (by omega), if_neg (by omega), if_neg (by omega)]; first | done | rfl | simp only [wI_M, wI_1, wI_w, wI_1, wI_w, p1, p8, p9, p10, p12, p13, q139, q140, q138, q141, q142, q143, bI_e0, Classical.not_not, tk_0, tk_1, tk_2, tk_3, tk_4, tk_5, tk_6, tk_7, tk_8, tk_9, tk_10, tk_11, tk_12, tk_13, tk_14, tk_15, tk_16, tk_17, ck (show (9 : Nat) < 2147483648 by omega)]
        · refine ⟨fun h => absurd h (by decide), fun _ => ?_⟩
          refine ⟨fun h => absurd h (by decide), fun _ => ?_⟩
          refine ⟨fun h => absurd h (by decide), fun _ => ?_⟩
          refine ⟨fun h => absurd h (by decide), fun _ => ?_⟩
          refine ⟨fun h => absurd h (by decide), fun _ => ?_⟩
          refine ⟨fun _ => ?_, fun h => absurd rfl h⟩
          refine ⟨by simp only [wI_1, wI_w, p1, p8, p9, p10, p12, p13, b137, b138, b139, b140, b141, b142, b143] <;> first | rfl | decide, ?_⟩
          refine ⟨by simp only [wI_1, wI_w, p1, p8, p9, p10, p12, p13, b137, b138, b139, b140, b141, b142, b143] <;> first | rfl | decide, (by simp only [wI_1, wI_w, p1, p8, p9, p10, p12, p13, n138, n139, n140, n141, n142, n143]; exact vp_in_nI (show _ < 114 by omega) (by omega)), ?_⟩
          (try simp only [wI_M, wI_1, wI_w, wI_1, wI_w, p1, p8, p9, p10, p12, p13, q139, q140, q138, q141, q142, q143, bI_e0, Classical.not_not, tk_0, tk_1, tk_2, tk_3, tk_4, tk_5, tk_6, tk_7, tk_8, tk_9, tk_10, tk_11, tk_12, tk_13, tk_14, tk_15, tk_16, tk_17] at h1)
          (try simp only [wI_M, wI_1, wI_w, wI_1, wI_w, p1, p8, p9, p10, p12, p13, q139, q140, q138, q141, q142, q143, bI_e0, Classical.not_not, tk_0, tk_1, tk_2, tk_3, tk_4, tk_5, tk_6, tk_7, tk_8, tk_9, tk_10, tk_11, tk_12, tk_13, tk_14, tk_15, tk_16, tk_17] at h19)
          refine ⟨⟨Nat.zero_le _, Nat.zero_le _⟩, _, _, rfl, rfl, ?_, ?_, Jk_Q M (by omega)⟩
          · unfold aAbout; rw [if_pos h1]; exact setQ_s
          · unfold aAbout; rw [if_pos h1]; intro _; rw [ck (by omega)]; unfold vAbout; rw [if_neg (by omega), if_neg (by omega), if_neg (by omega)]; first | done | rfl | simp only [wI_M, wI_1, wI_w, wI_1, wI_w, p1, p8, p9, p10, p12, p13, q139, q140, q138, q141, q142, q143, bI_e0, Classical.not_not, tk_0, tk_1, tk_2, tk_3, tk_4, tk_5, tk_6, tk_7, tk_8, tk_9, tk_10, tk_11, tk_12, tk_13, tk_14, tk_15, tk_16, tk_17, ck (show (9 : Nat) < 2147483648 by omega)]
      · refine ⟨by simp only [wI_1, wI_w, p1, p8, p9, p10, p12, p13, b137, b138, b139, b140, b141, b142, b143] <;> first | rfl | decide, ?_⟩
        refine ⟨by simp only [wI_1, wI_w, p1, p8, p9, p10, p12, p13, b137, b138, b139, b140, b141, b142, b143] <;> first | rfl | decide, (by simp only [wI_1, wI_w, p1, p8, p9, p10, p12, p13, n138, n139, n140, n141, n142, n143]; exact vp_in_nI (show 3 < 114 by omega) (by omega)), ?_⟩
        refine ⟨fun h20 => ?_, fun h20 => ?_⟩
        · refine ⟨fun h => absurd h (by decide), fun _ => ?_⟩
          refine ⟨fun h => absurd h (by decide), fun _ => ?_⟩
          refine ⟨fun h => absurd h (by decide), fun _ => ?_⟩
          refine ⟨fun h => absurd h (by decide), fun _ => ?_⟩
          refine ⟨fun h => absurd h (by decide), fun _ => ?_⟩
          refine ⟨fun h => absurd h (by decide), fun _ => ?_⟩
          refine ⟨fun _ => ?_, fun h => absurd rfl h⟩
          refine ⟨by simp only [wI_1, wI_w, p1, p8, p9, p10, p12, p13, b137, b138, b139, b140, b141, b142, b143] <;> first | rfl | decide, ?_⟩
          refine ⟨by simp only [wI_1, wI_w, p1, p8, p9, p10, p12, p13, b137, b138, b139, b140, b141, b142, b143] <;> first | rfl | decide, (by simp only [wI_1, wI_w, p1, p8, p9, p10, p12, p13, n138, n139, n140, n141, n142, n143]; exact vp_in_nI (show _ < 114 by omega) (by omega)), ?_⟩
          (try simp only [wI_M, wI_1, wI_w, wI_1, wI_w, p1, p8, p9, p10, p12, p13, q139, q140, q138, q141, q142, q143, bI_e0, Classical.not_not, tk_0, tk_1, tk_2, tk_3, tk_4, tk_5, tk_6, tk_7, tk_8, tk_9, tk_10, tk_11, tk_12, tk_13, tk_14, tk_15, tk_16, tk_17] at h1)
          (try simp only [wI_M, wI_1, wI_w, wI_1, wI_w, p1, p8, p9, p10, p12, p13, q139, q140, q138, q141, q142, q143, bI_e0, Classical.not_not, tk_0, tk_1, tk_2, tk_3, tk_4, tk_5, tk_6, tk_7, tk_8, tk_9, tk_10, tk_11, tk_12, tk_13, tk_14, tk_15, tk_16, tk_17] at h20)
          refine ⟨⟨Nat.zero_le _, Nat.zero_le _⟩, _, _, rfl, rfl, ?_, ?_, Jk_Q M (by omega)⟩
          · unfold aAbout; rw [if_pos h1]; exact setQ_s
          · unfold aAbout; rw [if_pos h1]; intro _; rw [ck (by omega)]; unfold vAbout; rw [if_neg (by omega), if_neg (by omega), if_neg (by omega)]; first | done | rfl | simp only [wI_M, wI_1, wI_w, wI_1, wI_w, p1, p8, p9, p10, p12, p13, q139, q140, q138, q141, q142, q143, bI_e0, Classical.not_not, tk_0, tk_1, tk_2, tk_3, tk_4, tk_5, tk_6, tk_7, tk_8, tk_9, tk_10, tk_11, tk_12, tk_13, tk_14, tk_15, tk_16, tk_17, ck (show (10 : Nat) < 2147483648 by omega)]
        · refine ⟨fun h => absurd h (by decide), fun _ => ?_⟩
          refine ⟨fun h => absurd h (by decide), fun _ => ?_⟩
          refine ⟨fun h => absurd h (by decide), fun _ => ?_⟩
          refine ⟨fun h => absurd h (by decide), fun _ => ?_⟩
          refine ⟨fun h => absurd h (by decide), fun _ => ?_⟩
          refine ⟨fun h => absurd h (by decide), fun _ => ?_⟩
          refine ⟨fun _ => ?_, fun h => absurd rfl h⟩
          refine ⟨by simp only [wI_1, wI_w, p1, p8, p9, p10, p12, p13, b137, b138, b139, b140, b141, b142, b143] <;> first | rfl | decide, ?_⟩
          refine ⟨by simp only [wI_1, wI_w, p1, p8, p9, p10, p12, p13, b137, b138, b139, b140, b141, b142, b143] <;> first | rfl | decide, (by simp only [wI_1, wI_w, p1, p8, p9, p10, p12, p13, n138, n139, n140, n141, n142, n143]; exact vp_in_nI (show _ < 114 by omega) (by omega)), ?_⟩
          (try simp only [wI_M, wI_1, wI_w, wI_1, wI_w, p1, p8, p9, p10, p12, p13, q139, q140, q138, q141, q142, q143, bI_e0, Classical.not_not, tk_0, tk_1, tk_2, tk_3, tk_4, tk_5, tk_6, tk_7, tk_8, tk_9, tk_10, tk_11, tk_12, tk_13, tk_14, tk_15, tk_16, tk_17] at h1)
          (try simp only [wI_M, wI_1, wI_w, wI_1, wI_w, p1, p8, p9, p10, p12, p13, q139, q140, q138, q141, q142, q143, bI_e0, Classical.not_not, tk_0, tk_1, tk_2, tk_3, tk_4, tk_5, tk_6, tk_7, tk_8, tk_9, tk_10, tk_11, tk_12, tk_13, tk_14, tk_15, tk_16, tk_17] at h20)
          refine ⟨⟨Nat.zero_le _, Nat.zero_le _⟩, _, _, rfl, rfl, ?_, ?_, Jk_Q M (by omega)⟩
          · unfold aAbout; rw [if_pos h1]; exact setQ_s
          · unfold aAbout; rw [if_pos h1]; intro _; rw [ck (by omega)]; unfold vAbout; rw [if_neg (by omega), if_neg (by omega), if_neg (by omega)]; first | done | rfl | simp only [wI_M, wI_1, wI_w, wI_1, wI_w, p1, p8, p9, p10, p12, p13, q139, q140, q138, q141, q142, q143, bI_e0, Classical.not_not, tk_0, tk_1, tk_2, tk_3, tk_4, tk_5, tk_6, tk_7, tk_8, tk_9, tk_10, tk_11, tk_12, tk_13, tk_14, tk_15, tk_16, tk_17, ck (show (10 : Nat) < 2147483648 by omega)]
      · refine ⟨by simp only [wI_1, wI_w, p1, p8, p9, p10, p12, p13, b137, b138, b139, b140, b141, b142, b143] <;> first | rfl | decide, ?_⟩
        refine ⟨by simp only [wI_1, wI_w, p1, p8, p9, p10, p12, p13, b137, b138, b139, b140, b141, b142, b143] <;> first | rfl | decide, (by simp only [wI_1, wI_w, p1, p8, p9, p10, p12, p13, n138, n139, n140, n141, n142, n143]; exact vp_in_nI (show 3 < 114 by omega) (by omega)), ?_⟩
        refine ⟨fun h21 => ?_, fun h21 => ?_⟩
        · refine ⟨fun h => absurd h (by decide), fun _ => ?_⟩
          refine ⟨fun h => absurd h (by decide), fun _ => ?_⟩
          refine ⟨fun h => absurd h (by decide), fun _ => ?_⟩
          refine ⟨fun h => absurd h (by decide), fun _ => ?_⟩
          refine ⟨fun h => absurd h (by decide), fun _ => ?_⟩
          refine ⟨fun h => absurd h (by decide), fun _ => ?_⟩
          refine ⟨fun h => absurd h (by decide), fun _ => ?_⟩
          refine ⟨fun _ => ?_, fun h => absurd rfl h⟩
          refine ⟨by simp only [wI_1, wI_w, p1, p8, p9, p10, p12, p13, b137, b138, b139, b140, b141, b142, b143] <;> first | rfl | decide, ?_⟩
          refine ⟨by simp only [wI_1, wI_w, p1, p8, p9, p10, p12, p13, b137, b138, b139, b140, b141, b142, b143] <;> first | rfl | decide, (by simp only [wI_1, wI_w, p1, p8, p9, p10, p12, p13, n138, n139, n140, n141, n142, n143]; exact vp_in_nI (show _ < 114 by omega) (by omega)), ?_⟩
          (try simp only [wI_M, wI_1, wI_w, wI_1, wI_w, p1, p8, p9, p10, p12, p13, q139, q140, q138, q141, q142, q143, bI_e0, Classical.not_not, tk_0, tk_1, tk_2, tk_3, tk_4, tk_5, tk_6, tk_7, tk_8, tk_9, tk_10, tk_11, tk_12, tk_13, tk_14, tk_15, tk_16, tk_17] at h1)
          (try simp only [wI_M, wI_1, wI_w, wI_1, wI_w, p1, p8, p9, p10, p12, p13, q139, q140, q138, q141, q142, q143, bI_e0, Classical.not_not, tk_0, tk_1, tk_2, tk_3, tk_4, tk_5, tk_6, tk_7, tk_8, tk_9, tk_10, tk_11, tk_12, tk_13, tk_14, tk_15, tk_16, tk_17] at h21)
          refine ⟨⟨Nat.zero_le _, Nat.zero_le _⟩, _, _, rfl, rfl, ?_, ?_, Jk_Q M (by omega)⟩
          · unfold aAbout; rw [if_pos h1]; exact setQ_s
          · unfold aAbout; rw [if_pos h1]; intro _; rw [ck (by omega)]; unfold vAbout; rw [if_neg (by omega), if_neg (by omega), if_neg (by omega)]; first | done | rfl | simp only [wI_M, wI_1, wI_w, wI_1, wI_w, p1, p8, p9, p10, p12, p13, q139, q140, q138, q141, q142, q143, bI_e0, Classical.not_not, tk_0, tk_1, tk_2, tk_3, tk_4, tk_5, tk_6, tk_7, tk_8, tk_9, tk_10, tk_11, tk_12, tk_13, tk_14, tk_15, tk_16, tk_17, ck (show (11 : Nat) < 2147483648 by omega)]
        · refine ⟨fun h => absurd h (by decide), fun _ => ?_⟩
          refine ⟨fun h => absurd h (by decide), fun _ => ?_⟩
          refine ⟨fun h => absurd h (by decide), fun _ => ?_⟩
          refine ⟨fun h => absurd h (by decide), fun _ => ?_⟩
          refine ⟨fun h => absurd h (by decide), fun _ => ?_⟩
          refine ⟨fun h => absurd h (by decide), fun _ => ?_⟩
          refine ⟨fun h => absurd h (by decide), fun _ => ?_⟩
          refine ⟨fun _ => ?_, fun h => absurd rfl h⟩
          refine ⟨by simp only [wI_1, wI_w, p1, p8, p9, p10, p12, p13, b137, b138, b139, b140, b141, b142, b143] <;> first | rfl | decide, ?_⟩
          refine ⟨by simp only [wI_1, wI_w, p1, p8, p9, p10, p12, p13, b137, b138, b139, b140, b141, b142, b143] <;> first | rfl | decide, (by simp only [wI_1, wI_w, p1, p8, p9, p10, p12, p13, n138, n139, n140, n141, n142, n143]; exact vp_in_nI (show _ < 114 by omega) (by omega)), ?_⟩
          (try simp only [wI_M, wI_1, wI_w, wI_1, wI_w, p1, p8, p9, p10, p12, p13, q139, q140, q138, q141, q142, q143, bI_e0, Classical.not_not, tk_0, tk_1, tk_2, tk_3, tk_4, tk_5, tk_6, tk_7, tk_8, tk_9, tk_10, tk_11, tk_12, tk_13, tk_14, tk_15, tk_16, tk_17] at h1)
          (try simp only [wI_M, wI_1, wI_w, wI_1, wI_w, p1, p8, p9, p10, p12, p13, q139, q140, q138, q141, q142, q143, bI_e0, Classical.not_not, tk_0, tk_1, tk_2, tk_3, tk_4, tk_5, tk_6, tk_7, tk_8, tk_9, tk_10, tk_11, tk_12, tk_13, tk_14, tk_15, tk_16, tk_17] at h21)
          refine ⟨⟨Nat.zero_le _, Nat.zero_le _⟩, _, _, rfl, rfl, ?_, ?_, Jk_Q M (by omega)⟩
          · unfold aAbout; rw [if_pos h1]; exact setQ_s
          · unfold aAbout; rw [if_pos h1]; intro _; rw [ck (by omega)]; unfold vAbout; rw [if_neg (by omega), if_neg (by omega), if_neg (by omega)]; first | done | rfl | simp only [wI_M, wI_1, wI_w, wI_1, wI_w, p1, p8, p9, p10, p12, p13, q139, q140, q138, q141, q142, q143, bI_e0, Classical.not_not, tk_0, tk_1, tk_2, tk_3, tk_4, tk_5, tk_6, tk_7, tk_8, tk_9, tk_10, tk_11, tk_12, tk_13, tk_14, tk_15, tk_16, tk_17, ck (show (11 : Nat) < 2147483648 by omega)]
      · refine ⟨by simp only [wI_1, wI_w, p1, p8, p9, p10, p12, p13, b137, b138, b139, b140, b141, b142, b143] <;> first | rfl | decide, ?_⟩
        refine ⟨by simp only [wI_1, wI_w, p1, p8, p9, p10, p12, p13, b137, b138, b139, b140, b141, b142, b143] <;> first | rfl | decide, (by simp only [wI_1, wI_w, p1, p8, p9, p10, p12, p13, n138, n139, n140, n141, n142, n143]; exact vp_in_nI (show 3 < 114 by omega) (by omega)), ?_⟩
        refine ⟨fun h22 => ?_, fun h22 => ?_⟩
        · refine ⟨fun h => absurd h (by decide), fun _ => ?_⟩
          refine ⟨fun h => absurd h (by decide), fun _ => ?_⟩
          refine ⟨fun h => absurd h (by decide), fun _ => ?_⟩
          refine ⟨fun h => absurd h (by decide), fun _ => ?_⟩
          refine ⟨fun h => absurd h (by decide), fun _ => ?_⟩
          refine ⟨fun h => absurd h (by decide), fun _ => ?_⟩
          refine ⟨fun h => absurd h (by decide), fun _ => ?_⟩
          refine ⟨fun h => absurd h (by decide), fun _ => ?_⟩
          refine ⟨fun _ => ?_, fun h => absurd rfl h⟩
          refine ⟨by simp only [wI_1, wI_w, p1, p8, p9, p10, p12, p13, b137, b138, b139, b140, b141, b142, b143] <;> first | rfl | decide, ?_⟩
          refine ⟨by simp only [wI_1, wI_w, p1, p8, p9, p10, p12, p13, b137, b138, b139, b140, b141, b142, b143] <;> first | rfl | decide, (by simp only [wI_1, wI_w, p1, p8, p9, p10, p12, p13, n138, n139, n140, n141, n142, n143]; exact vp_in_nI (show _ < 114 by omega) (by omega)), ?_⟩
          (try simp only [wI_M, wI_1, wI_w, wI_1, wI_w, p1, p8, p9, p10, p12, p13, q139, q140, q138, q141, q142, q143, bI_e0, Classical.not_not, tk_0, tk_1, tk_2, tk_3, tk_4, tk_5, tk_6, tk_7, tk_8, tk_9, tk_10, tk_11, tk_12, tk_13, tk_14, tk_15, tk_16, tk_17] at h1)
          (try simp only [wI_M, wI_1, wI_w, wI_1, wI_w, p1, p8, p9, p10, p12, p13, q139, q140, q138, q141, q142, q143, bI_e0, Classical.not_not, tk_0, tk_1, tk_2, tk_3, tk_4, tk_5, tk_6, tk_7, tk_8, tk_9, tk_10, tk_11, tk_12, tk_13, tk_14, tk_15, tk_16, tk_17] at h22)
          refine ⟨⟨Nat.zero_le _, Nat.zero_le _⟩, _, _, rfl, rfl, ?_, ?_, Jk_Q M (by omega)⟩
          · unfold aAbout; rw [if_pos h1]; exact setQ_s
          · unfold aAbout; rw [if_pos h1]; intro _; rw [ck (by omega)]; unfold vAbout; rw [if_neg (by omega), if_neg (by omega), if_neg (by omega)]; first | done | rfl | simp only [wI_M, wI_1, wI_w, wI_1, wI_w, p1, p8, p9, p10, p12, p13, q139, q140, q138, q141, q142, q143, bI_e0, Classical.not_not, tk_0, tk_1, tk_2, tk_3, tk_4, tk_5, tk_6, tk_7, tk_8, tk_9, tk_10, tk_11, tk_12, tk_13, tk_14, tk_15, tk_16, tk_17, ck (show (12 : Nat) < 2147483648 by omega)]
        · refine ⟨fun h => absurd h (by decide), fun _ => ?_⟩
          refine ⟨fun h => absurd h (by decide), fun _ => ?_⟩
          refine ⟨fun h => absurd h (by decide), fun _ => ?_⟩
          refine ⟨fun h => absurd h (by decide), fun _ => ?_⟩
          refine ⟨fun h => absurd h (by decide), fun _ => ?_⟩
          refine ⟨fun h => absurd h (by decide), fun _ => ?_⟩
          refine ⟨fun h => absurd h (by decide), fun _ => ?_⟩
          refine ⟨fun h => absurd h (by decide), fun _ => ?_⟩
          refine ⟨fun _ => ?_, fun h => absurd rfl h⟩
          refine ⟨by simp only [wI_1, wI_w, p1, p8, p9, p10, p12, p13, b137, b138, b139, b140, b141, b142, b143] <;> first | rfl | decide, ?_⟩
          refine ⟨by simp only [wI_1, wI_w, p1, p8, p9, p10, p12, p13, b137, b138, b139, b140, b141, b142, b143] <;> first | rfl | decide, (by simp only [wI_1, wI_w, p1, p8, p9, p10, p12, p13, n138, n139, n140, n141, n142, n143]; exact vp_in_nI (show _ < 114 by omega) (by omega)), ?_⟩
          (try simp only [wI_M, wI_1, wI_w, wI_1, wI_w, p1, p8, p9, p10, p12, p13, q139, q140, q138, q141, q142, q143, bI_e0, Classical.not_not, tk_0, tk_1, tk_2, tk_3, tk_4, tk_5, tk_6, tk_7, tk_8, tk_9, tk_10, tk_11, tk_12, tk_13, tk_14, tk_15, tk_16, tk_17] at h1)
          (try simp only [wI_M, wI_1, wI_w, wI_1, wI_w, p1, p8, p9, p10, p12, p13, q139, q140, q138, q141, q142, q143, bI_e0, Classical.not_not, tk_0, tk_1, tk_2, tk_3, tk_4, tk_5, tk_6, tk_7, tk_8, tk_9, tk_10, tk_11, tk_12, tk_13, tk_14, tk_15, tk_16, tk_17] at h22)
          refine ⟨⟨Nat.zero_le _, Nat.zero_le _⟩, _, _, rfl, rfl, ?_, ?_, Jk_Q M (by omega)⟩
          · unfold aAbout; rw [if_pos h1]; exact setQ_s
          · unfold aAbout; rw [if_pos h1]; intro _; rw [ck (by omega)]; unfold vAbout; rw [if_neg (by omega), if_neg (by omega), if_neg (by omega)]; first | done | rfl | simp only [wI_M, wI_1, wI_w, wI_1, wI_w, p1, p8, p9, p10, p12, p13, q139, q140, q138, q141, q142, q143, bI_e0, Classical.not_not, tk_0, tk_1, tk_2, tk_3, tk_4, tk_5, tk_6, tk_7, tk_8, tk_9, tk_10, tk_11, tk_12, tk_13, tk_14, tk_15, tk_16, tk_17, ck (show (12 : Nat) < 2147483648 by omega)]
      · refine ⟨by simp only [wI_1, wI_w, p1, p8, p9, p10, p12, p13, b137, b138, b139, b140, b141, b142, b143] <;> first | rfl | decide, ?_⟩
        refine ⟨by simp only [wI_1, wI_w, p1, p8, p9, p10, p12, p13, b137, b138, b139, b140, b141, b142, b143] <;> first | rfl | decide, (by simp only [wI_1, wI_w, p1, p8, p9, p10, p12, p13, n138, n139, n140, n141, n142, n143]; exact vp_in_nI (show 3 < 114 by omega) (by omega)), ?_⟩
        refine ⟨fun h23 => ?_, fun h23 => ?_⟩
        · refine ⟨fun h => absurd h (by decide), fun _ => ?_⟩
          refine ⟨fun h => absurd h (by decide), fun _ => ?_⟩
          refine ⟨fun h => absurd h (by decide), fun _ => ?_⟩
          refine ⟨fun h => absurd h (by decide), fun _ => ?_⟩
          refine ⟨fun h => absurd h (by decide), fun _ => ?_⟩
          refine ⟨fun h => absurd h (by decide), fun _ => ?_⟩
          refine ⟨fun h => absurd h (by decide), fun _ => ?_⟩
          refine ⟨fun h => absurd h (by decide), fun _ => ?_⟩
          refine ⟨fun h => absurd h (by decide), fun _ => ?_⟩
          refine ⟨fun _ => ?_, fun h => absurd rfl h⟩
          refine ⟨by simp only [wI_1, wI_w, p1, p8, p9, p10, p12, p13, b137, b138, b139, b140, b141, b142, b143] <;> first | rfl | decide, ?_⟩
          refine ⟨⟨Nat.le_of_ble_eq_true rfl, Nat.le_of_ble_eq_true rfl, Nat.le_of_ble_eq_true rfl⟩, _, by simp only [wI_M, wI_1, wI_w, wI_1, wI_w, p1, p8, p9, p10, p12, p13, q139, q140, q138, q141, q142, q143, bI_e0, Classical.not_not, tk_0, tk_1, tk_2, tk_3, tk_4, tk_5, tk_6, tk_7, tk_8, tk_9, tk_10, tk_11, tk_12, tk_13, tk_14, tk_15, tk_16, tk_17]; exact T_wearApart hM.now hn h0, ?_⟩
          rintro _ _ ⟨rfl, rfl⟩
          refine ⟨Or.inl rfl, ?_⟩
          (try simp only [wI_M, wI_1, wI_w, wI_1, wI_w, p1, p8, p9, p10, p12, p13, q139, q140, q138, q141, q142, q143, bI_e0, Classical.not_not, tk_0, tk_1, tk_2, tk_3, tk_4, tk_5, tk_6, tk_7, tk_8, tk_9, tk_10, tk_11, tk_12, tk_13, tk_14, tk_15, tk_16, tk_17] at h1)
          (try simp only [wI_M, wI_1, wI_w, wI_1, wI_w, p1, p8, p9, p10, p12, p13, q139, q140, q138, q141, q142, q143, bI_e0, Classical.not_not, tk_0, tk_1, tk_2, tk_3, tk_4, tk_5, tk_6, tk_7, tk_8, tk_9, tk_10, tk_11, tk_12, tk_13, tk_14, tk_15, tk_16, tk_17] at h23)
          refine ⟨⟨Nat.zero_le _, Nat.zero_le _⟩, _, _, rfl, rfl, ?_, ?_, Jk_Q M (by omega)⟩
          · unfold aAbout; rw [if_pos h1]; exact setQ_s
          · unfold aAbout; rw [if_pos h1]; intro _; rw [ck (by omega)]; unfold vAbout; rw [if_neg (by omega), if_pos rfl]; first | done | rfl | simp only [wI_M, wI_1, wI_w, wI_1, wI_w, p1, p8, p9, p10, p12, p13, q139, q140, q138, q141, q142, q143, bI_e0, Classical.not_not, tk_0, tk_1, tk_2, tk_3, tk_4, tk_5, tk_6, tk_7, tk_8, tk_9, tk_10, tk_11, tk_12, tk_13, tk_14, tk_15, tk_16, tk_17, ck (show (13 : Nat) < 2147483648 by omega)]
        · refine ⟨fun h => absurd h (by decide), fun _ => ?_⟩
          refine ⟨fun h => absurd h (by decide), fun _ => ?_⟩
          refine ⟨fun h => absurd h (by decide), fun _ => ?_⟩
          refine ⟨fun h => absurd h (by decide), fun _ => ?_⟩
          refine ⟨fun h => absurd h (by decide), fun _ => ?_⟩
          refine ⟨fun h => absurd h (by decide), fun _ => ?_⟩
          refine ⟨fun h => absurd h (by decide), fun _ => ?_⟩
          refine ⟨fun h => absurd h (by decide), fun _ => ?_⟩
          refine ⟨fun h => absurd h (by decide), fun _ => ?_⟩
          refine ⟨fun _ => ?_, fun h => absurd rfl h⟩
          refine ⟨by simp only [wI_1, wI_w, p1, p8, p9, p10, p12, p13, b137, b138, b139, b140, b141, b142, b143] <;> first | rfl | decide, ?_⟩
          refine ⟨⟨Nat.le_of_ble_eq_true rfl, Nat.le_of_ble_eq_true rfl, Nat.le_of_ble_eq_true rfl⟩, _, by simp only [wI_M, wI_1, wI_w, wI_1, wI_w, p1, p8, p9, p10, p12, p13, q139, q140, q138, q141, q142, q143, bI_e0, Classical.not_not, tk_0, tk_1, tk_2, tk_3, tk_4, tk_5, tk_6, tk_7, tk_8, tk_9, tk_10, tk_11, tk_12, tk_13, tk_14, tk_15, tk_16, tk_17]; exact T_wearApart hM.now hn h0, ?_⟩
          rintro _ _ ⟨rfl, rfl⟩
          refine ⟨Or.inl rfl, ?_⟩
          (try simp only [wI_M, wI_1, wI_w, wI_1, wI_w, p1, p8, p9, p10, p12, p13, q139, q140, q138, q141, q142, q143, bI_e0, Classical.not_not, tk_0, tk_1, tk_2, tk_3, tk_4, tk_5, tk_6, tk_7, tk_8, tk_9, tk_10, tk_11, tk_12, tk_13, tk_14, tk_15, tk_16, tk_17] at h1)
          (try simp only [wI_M, wI_1, wI_w, wI_1, wI_w, p1, p8, p9, p10, p12, p13, q139, q140, q138, q141, q142, q143, bI_e0, Classical.not_not, tk_0, tk_1, tk_2, tk_3, tk_4, tk_5, tk_6, tk_7, tk_8, tk_9, tk_10, tk_11, tk_12, tk_13, tk_14, tk_15, tk_16, tk_17] at h23)
          refine ⟨⟨Nat.zero_le _, Nat.zero_le _⟩, _, _, rfl, rfl, ?_, ?_, Jk_Q M (by omega)⟩
          · unfold aAbout; rw [if_pos h1]; exact setQ_s
          · unfold aAbout; rw [if_pos h1]; intro _; rw [ck (by omega)]; unfold vAbout; rw [if_neg (by omega), if_pos rfl]; first | done | rfl | simp only [wI_M, wI_1, wI_w, wI_1, wI_w, p1, p8, p9, p10, p12, p13, q139, q140, q138, q141, q142, q143, bI_e0, Classical.not_not, tk_0, tk_1, tk_2, tk_3, tk_4, tk_5, tk_6, tk_7, tk_8, tk_9, tk_10, tk_11, tk_12, tk_13, tk_14, tk_15, tk_16, tk_17, ck (show (13 : Nat) < 2147483648 by omega)]
      · refine ⟨by simp only [wI_1, wI_w, p1, p8, p9, p10, p12, p13, b137, b138, b139, b140, b141, b142, b143] <;> first | rfl | decide, ?_⟩
        refine ⟨by simp only [wI_1, wI_w, p1, p8, p9, p10, p12, p13, b137, b138, b139, b140, b141, b142, b143] <;> first | rfl | decide, (by simp only [wI_1, wI_w, p1, p8, p9, p10, p12, p13, n138, n139, n140, n141, n142, n143]; exact vp_in_nI (show 3 < 114 by omega) (by omega)), ?_⟩
        refine ⟨fun h24 => ?_, fun h24 => ?_⟩
        · refine ⟨fun h => absurd h (by decide), fun _ => ?_⟩
          refine ⟨fun h => absurd h (by decide), fun _ => ?_⟩
          refine ⟨fun h => absurd h (by decide), fun _ => ?_⟩
          refine ⟨fun h => absurd h (by decide), fun _ => ?_⟩
          refine ⟨fun h => absurd h (by decide), fun _ => ?_⟩
          refine ⟨fun h => absurd h (by decide), fun _ => ?_⟩
          refine ⟨fun h => absurd h (by decide), fun _ => ?_⟩
          refine ⟨fun h => absurd h (by decide), fun _ => ?_⟩
          refine ⟨fun h => absurd h (by decide), fun _ => ?_⟩
          refine ⟨fun h => absurd h (by decide), fun _ => ?_⟩
          refine ⟨fun _ => ?_, fun h => absurd rfl h⟩
          refine ⟨by simp only [wI_1, wI_w, p1, p8, p9, p10, p12, p13, b137, b138, b139, b140, b141, b142, b143] <;> first | rfl | decide, ?_⟩
          refine ⟨by simp only [wI_1, wI_w, p1, p8, p9, p10, p12, p13, b137, b138, b139, b140, b141, b142, b143] <;> first | rfl | decide, (by simp only [wI_1, wI_w, p1, p8, p9, p10, p12, p13, n138, n139, n140, n141, n142, n143]; exact vp_in_nI (show 17 < 114 by omega) (by omega)), ?_⟩
          (try simp only [wI_M, wI_1, wI_w, wI_1, wI_w, p1, p8, p9, p10, p12, p13, q139, q140, q138, q141, q142, q143, bI_e0, Classical.not_not, tk_0, tk_1, tk_2, tk_3, tk_4, tk_5, tk_6, tk_7, tk_8, tk_9, tk_10, tk_11, tk_12, tk_13, tk_14, tk_15, tk_16, tk_17] at h1)
          (try simp only [wI_M, wI_1, wI_w, wI_1, wI_w, p1, p8, p9, p10, p12, p13, q139, q140, q138, q141, q142, q143, bI_e0, Classical.not_not, tk_0, tk_1, tk_2, tk_3, tk_4, tk_5, tk_6, tk_7, tk_8, tk_9, tk_10, tk_11, tk_12, tk_13, tk_14, tk_15, tk_16, tk_17] at h24)
          refine ⟨⟨Nat.zero_le _, Nat.zero_le _⟩, _, _, rfl, rfl, ?_, ?_, Jk_Q M (by omega)⟩
          · unfold aAbout; rw [if_pos h1]; exact setQ_s
          · unfold aAbout; rw [if_pos h1]; intro _; rw [ck (by omega)]; unfold vAbout; rw [if_neg (by omega), if_neg (by omega), if_pos rfl]; first | done | rfl | simp only [wI_M, wI_1, wI_w, wI_1, wI_w, p1, p8, p9, p10, p12, p13, q139, q140, q138, q141, q142, q143, bI_e0, Classical.not_not, tk_0, tk_1, tk_2, tk_3, tk_4, tk_5, tk_6, tk_7, tk_8, tk_9, tk_10, tk_11, tk_12, tk_13, tk_14, tk_15, tk_16, tk_17, ck (show (14 : Nat) < 2147483648 by omega)]
        · refine ⟨fun h => absurd h (by decide), fun _ => ?_⟩
          refine ⟨fun h => absurd h (by decide), fun _ => ?_⟩
          refine ⟨fun h => absurd h (by decide), fun _ => ?_⟩
          refine ⟨fun h => absurd h (by decide), fun _ => ?_⟩
          refine ⟨fun h => absurd h (by decide), fun _ => ?_⟩
          refine ⟨fun h => absurd h (by decide), fun _ => ?_⟩
          refine ⟨fun h => absurd h (by decide), fun _ => ?_⟩
          refine ⟨fun h => absurd h (by decide), fun _ => ?_⟩
          refine ⟨fun h => absurd h (by decide), fun _ => ?_⟩
          refine ⟨fun h => absurd h (by decide), fun _ => ?_⟩
          refine ⟨fun _ => ?_, fun h => absurd rfl h⟩
          refine ⟨by simp only [wI_1, wI_w, p1, p8, p9, p10, p12, p13, b137, b138, b139, b140, b141, b142, b143] <;> first | rfl | decide, ?_⟩
          refine ⟨by simp only [wI_1, wI_w, p1, p8, p9, p10, p12, p13, b137, b138, b139, b140, b141, b142, b143] <;> first | rfl | decide, (by simp only [wI_1, wI_w, p1, p8, p9, p10, p12, p13, n138, n139, n140, n141, n142, n143]; exact vp_in_nI (show 17 < 114 by omega) (by omega)), ?_⟩
          (try simp only [wI_M, wI_1, wI_w, wI_1, wI_w, p1, p8, p9, p10, p12, p13, q139, q140, q138, q141, q142, q143, bI_e0, Classical.not_not, tk_0, tk_1, tk_2, tk_3, tk_4, tk_5, tk_6, tk_7, tk_8, tk_9, tk_10, tk_11, tk_12, tk_13, tk_14, tk_15, tk_16, tk_17] at h1)
          (try simp only [wI_M, wI_1, wI_w, wI_1, wI_w, p1, p8, p9, p10, p12, p13, q139, q140, q138, q141, q142, q143, bI_e0, Classical.not_not, tk_0, tk_1, tk_2, tk_3, tk_4, tk_5, tk_6, tk_7, tk_8, tk_9, tk_10, tk_11, tk_12, tk_13, tk_14, tk_15, tk_16, tk_17] at h24)
          refine ⟨⟨Nat.zero_le _, Nat.zero_le _⟩, _, _, rfl, rfl, ?_, ?_, Jk_Q M (by omega)⟩
          · unfold aAbout; rw [if_pos h1]; exact setQ_s
          · unfold aAbout; rw [if_pos h1]; intro _; rw [ck (by omega)]; unfold vAbout; rw [if_neg (by omega), if_neg (by omega), if_pos rfl]; first | done | rfl | simp only [wI_M, wI_1, wI_w, wI_1, wI_w, p1, p8, p9, p10, p12, p13, q139, q140, q138, q141, q142, q143, bI_e0, Classical.not_not, tk_0, tk_1, tk_2, tk_3, tk_4, tk_5, tk_6, tk_7, tk_8, tk_9, tk_10, tk_11, tk_12, tk_13, tk_14, tk_15, tk_16, tk_17, ck (show (14 : Nat) < 2147483648 by omega)]
    · exact absurd h3 (by decide)
