/-! THE REFERENCE: a write, a storing, driving, power: written by wip/whole/pure2.py -/
def rCut (ρ : Rw) : Rw := upd (upd ρ 8 (ρ 8 + 1)) 10 (ρ 10 - (if ρ 10 ≤ 0 then 0 else 1))
def rCel (s i : Nat) : Nat := 42 + 2 * (3 * s + i)
/-- what the write does to the cell -/
def rPut (ρ : Rw) (cut : Prop) [Decidable cut] (s i : Nat) (v : Int32) : Rw :=
  if ¬ ρ (43 + 2 * (3 * s + i)) < ρ 2 then ρ
  else if cut then (if ρ 11 ≤ 0 then upd ρ (43 + 2 * (3 * s + i)) (ρ (43 + 2 * (3 * s + i)) + 1) else upd (upd ρ (43 + 2 * (3 * s + i)) (ρ (43 + 2 * (3 * s + i)) + 1)) (42 + 2 * (3 * s + i)) (if ρ 11 = 1 then -99999 else v - (v - v / 100 * 100)))
  else upd (upd ρ (43 + 2 * (3 * s + i)) (ρ (43 + 2 * (3 * s + i)) + 1)) (42 + 2 * (3 * s + i)) v
def rOff (ρ : Rw) (s i : Int32) (kind vain : Int32) : Rw := upd (upd (upd (upd (upd (upd (upd (upd ρ 3 0) 12 0) 11 (-99999)) 9 (ρ 9 + 1)) 13 s) 14 i) 15 kind) 16 vain
def rWr (ρ : Rw) (s i : Nat) (v vain : Int32) : Rw := if ρ 10 = 1 then rOff (rPut (rCut ρ) True s i v) (nI s) (nI i) (ρ 11) vain else rPut (rCut ρ) False s i v
set_option maxHeartbeats 1000000 in
theorem T_writes {d : Nat} {S : Sc} {M : Nat → Nat → Int32} {J : Nat → Nat → Int64} {r s i : Nat} {v vain : Int32} (hR : RowS S r) (hs : s < 12) (hi : i < 3) : Wp (d + 3) 111 [.ref r, .int (nI s), .int (nI i), .int v, .int vain] (S, M, J) (fun rs w' => rs = .inl (some (.int (bI (¬ M r 10 = 1)))) ∧ w' = (S, upA M r (rWr (M r) s i v vain), J)) := by
  have e1 : nI (42 + 2 * (3 * s + i)) + 1 = nI (43 + 2 * (3 * s + i)) := by rw [nI_1]; congr 1; omega
  have c0 := ck (k := 42 + 2 * (3 * s + i)) (by omega)
  have c1 := ck (k := 43 + 2 * (3 * s + i)) (by omega)
  have n42_2 : 42 + 2 * (3 * s + i) ≠ 2 := by omega
  have n42_3 : 42 + 2 * (3 * s + i) ≠ 3 := by omega
  have n42_8 : 42 + 2 * (3 * s + i) ≠ 8 := by omega
  have n42_9 : 42 + 2 * (3 * s + i) ≠ 9 := by omega
  have n42_10 : 42 + 2 * (3 * s + i) ≠ 10 := by omega
  have n42_11 : 42 + 2 * (3 * s + i) ≠ 11 := by omega
  have n42_12 : 42 + 2 * (3 * s + i) ≠ 12 := by omega
  have n42_13 : 42 + 2 * (3 * s + i) ≠ 13 := by omega
  have n42_14 : 42 + 2 * (3 * s + i) ≠ 14 := by omega
  have n42_15 : 42 + 2 * (3 * s + i) ≠ 15 := by omega
  have n42_16 : 42 + 2 * (3 * s + i) ≠ 16 := by omega
  have n43_2 : 43 + 2 * (3 * s + i) ≠ 2 := by omega
  have n43_3 : 43 + 2 * (3 * s + i) ≠ 3 := by omega
  have n43_8 : 43 + 2 * (3 * s + i) ≠ 8 := by omega
  have n43_9 : 43 + 2 * (3 * s + i) ≠ 9 := by omega
  have n43_10 : 43 + 2 * (3 * s + i) ≠ 10 := by omega
  have n43_11 : 43 + 2 * (3 * s + i) ≠ 11 := by omega
  have n43_12 : 43 + 2 * (3 * s + i) ≠ 12 := by omega
  have n43_13 : 43 + 2 * (3 * s + i) ≠ 13 := by omega
  have n43_14 : 43 + 2 * (3 * s + i) ≠ 14 := by omega
  have n43_15 : 43 + 2 * (3 * s + i) ≠ 15 := by omega
  have n43_16 : 43 + 2 * (3 * s + i) ≠ 16 := by omega
  have m42_2 : 2 ≠ 42 + 2 * (3 * s + i) := by omega
  have m42_3 : 3 ≠ 42 + 2 * (3 * s + i) := by omega
  have m42_8 : 8 ≠ 42 + 2 * (3 * s + i) := by omega
  have m42_9 : 9 ≠ 42 + 2 * (3 * s + i) := by omega
  have m42_10 : 10 ≠ 42 + 2 * (3 * s + i) := by omega
  have m42_11 : 11 ≠ 42 + 2 * (3 * s + i) := by omega
  have m42_12 : 12 ≠ 42 + 2 * (3 * s + i) := by omega
  have m42_13 : 13 ≠ 42 + 2 * (3 * s + i) := by omega
  have m42_14 : 14 ≠ 42 + 2 * (3 * s + i) := by omega
  have m42_15 : 15 ≠ 42 + 2 * (3 * s + i) := by omega
  have m42_16 : 16 ≠ 42 + 2 * (3 * s + i) := by omega
  have m43_2 : 2 ≠ 43 + 2 * (3 * s + i) := by omega
  have m43_3 : 3 ≠ 43 + 2 * (3 * s + i) := by omega
  have m43_8 : 8 ≠ 43 + 2 * (3 * s + i) := by omega
  have m43_9 : 9 ≠ 43 + 2 * (3 * s + i) := by omega
  have m43_10 : 10 ≠ 43 + 2 * (3 * s + i) := by omega
  have m43_11 : 11 ≠ 43 + 2 * (3 * s + i) := by omega
  have m43_12 : 12 ≠ 43 + 2 * (3 * s + i) := by omega
  have m43_13 : 13 ≠ 43 + 2 * (3 * s + i) := by omega
  have m43_14 : 14 ≠ 43 + 2 * (3 * s + i) := by omega
  have m43_15 : 15 ≠ 43 + 2 * (3 * s + i) := by omega
  have m43_16 : 16 ≠ 43 + 2 * (3 * s + i) := by omega
  have q1 : 42 + 2 * (3 * s + i) ≠ 43 + 2 * (3 * s + i) := by omega
  have q2 : 43 + 2 * (3 * s + i) ≠ 42 + 2 * (3 * s + i) := by omega
  have g1 : ∀ (ρ : Rw) (k : Nat) (x : Int32), upd ρ k x k = x := fun ρ k x => pk_us
  have g2 : ∀ (ρ : Rw) (k q : Nat) (x : Int32), q ≠ k → upd ρ k x q = ρ q := fun ρ k q x h => pk_un h
  refine ⟨rfl, ?_⟩
  refine EE.runN (stop := noStop) 140 _ ?_
  refine ⟨by exact hR.1, hR.vp (k := 8) (by omega), ?_⟩
  refine ⟨by exact hR.1, hR.vp (k := 8) (by omega), ?_⟩
  refine ⟨by exact hR.1, hR.vp (k := 10) (by omega), ?_⟩
  refine ⟨fun h1 => ?_, fun h1 => ?_⟩
  · refine ⟨by exact hR.1, hR.vp (k := 10) (by omega), ?_⟩
    refine ⟨by exact hR.1, hR.vp (k := 10) (by omega), ?_⟩
    refine ⟨fun h2 => ?_, fun h2 => ?_⟩
    · refine ⟨by exact hR.1, hR.vp (k := 10) (by omega), ?_⟩
      refine ⟨by exact hR.1, hR.vp (k := 11) (by omega), ?_⟩
      refine ⟨⟨Nat.le_of_ble_eq_true rfl, Nat.le_of_ble_eq_true rfl, Nat.le_of_ble_eq_true rfl⟩, _, T_at (s := s) (i := i), ?_⟩
      rintro _ _ ⟨rfl, rfl⟩
      refine ⟨Or.inl rfl, ?_⟩
      refine ⟨⟨Nat.le_of_ble_eq_true rfl, Nat.le_of_ble_eq_true rfl, Nat.le_of_ble_eq_true rfl⟩, _, T_rStuck (s := s) (i := i) hR hs hi, ?_⟩
      rintro _ _ ⟨rfl, rfl⟩
      refine ⟨Or.inl rfl, ?_⟩
      refine ⟨fun h3 => ?_, fun h3 => ?_⟩
      · refine ⟨fun h4 => ?_, fun h4 => ?_⟩
        · refine ⟨fun h5 => ?_, fun h5 => ?_⟩
          · exact absurd h5 (by decide)
          · simp only [wI_M, wI_1, upA_s, upA_uu, tk_0, tk_1, tk_2, tk_3, tk_4, tk_5, tk_6, tk_7, tk_8, tk_9, tk_10, tk_11, tk_12, tk_13, tk_14, tk_15, tk_16, tk_17, tk_18, tk_42, tk_43, e1, c0, c1, bI_e0] at h1 h2 h3 h4 h5
            refine ⟨⟨Nat.zero_le _, Nat.zero_le _⟩, by decide, ?_, ?_⟩
            · simp_all [-Int32.not_le, -Int32.not_lt, bI, upd]
            · show (S, _, J) = (S, _, J)
              simp only [wI_M, wI_1, upA_s, upA_uu, tk_0, tk_1, tk_2, tk_3, tk_4, tk_5, tk_6, tk_7, tk_8, tk_9, tk_10, tk_11, tk_12, tk_13, tk_14, tk_15, tk_16, tk_17, tk_18, tk_42, tk_43, e1, c0, c1]
              simp_all [-Int32.not_le, -Int32.not_lt, rWr, rOff, rPut, rCut, upd]
        · exact absurd h4 (by decide)
      · refine ⟨by exact hR.1, (by rw [e1]; exact hR.vp (by omega)), ?_⟩
        refine ⟨by exact hR.1, (by rw [e1]; exact hR.vp (by omega)), ?_⟩
        refine ⟨fun h6 => ?_, fun h6 => ?_⟩
        · exact absurd h6 (by decide)
        · refine ⟨by exact hR.1, hR.vp (k := 42 + 2 * (3 * s + i)) (by omega), ?_⟩
          refine ⟨fun h7 => ?_, fun h7 => ?_⟩
          · refine ⟨fun h8 => ?_, fun h8 => ?_⟩
            · exact absurd h8 (by decide)
            · simp only [wI_M, wI_1, upA_s, upA_uu, tk_0, tk_1, tk_2, tk_3, tk_4, tk_5, tk_6, tk_7, tk_8, tk_9, tk_10, tk_11, tk_12, tk_13, tk_14, tk_15, tk_16, tk_17, tk_18, tk_42, tk_43, e1, c0, c1, bI_e0] at h1 h2 h3 h6 h7 h8
              refine ⟨⟨Nat.zero_le _, Nat.zero_le _⟩, by decide, ?_, ?_⟩
              · simp_all [-Int32.not_le, -Int32.not_lt, bI, upd]
              · show (S, _, J) = (S, _, J)
                simp only [wI_M, wI_1, upA_s, upA_uu, tk_0, tk_1, tk_2, tk_3, tk_4, tk_5, tk_6, tk_7, tk_8, tk_9, tk_10, tk_11, tk_12, tk_13, tk_14, tk_15, tk_16, tk_17, tk_18, tk_42, tk_43, e1, c0, c1]
                simp_all [-Int32.not_le, -Int32.not_lt, rWr, rOff, rPut, rCut, upd]
          · exact absurd h7 (by decide)
    · refine ⟨by exact hR.1, hR.vp (k := 10) (by omega), ?_⟩
      refine ⟨by exact hR.1, hR.vp (k := 11) (by omega), ?_⟩
      refine ⟨⟨Nat.le_of_ble_eq_true rfl, Nat.le_of_ble_eq_true rfl, Nat.le_of_ble_eq_true rfl⟩, _, T_at (s := s) (i := i), ?_⟩
      rintro _ _ ⟨rfl, rfl⟩
      refine ⟨Or.inl rfl, ?_⟩
      refine ⟨⟨Nat.le_of_ble_eq_true rfl, Nat.le_of_ble_eq_true rfl, Nat.le_of_ble_eq_true rfl⟩, _, T_rStuck (s := s) (i := i) hR hs hi, ?_⟩
      rintro _ _ ⟨rfl, rfl⟩
      refine ⟨Or.inl rfl, ?_⟩
      refine ⟨fun h9 => ?_, fun h9 => ?_⟩
      · refine ⟨fun h10 => ?_, fun h10 => ?_⟩
        · refine ⟨fun h11 => ?_, fun h11 => ?_⟩
          · exact absurd h11 (by decide)
          · simp only [wI_M, wI_1, upA_s, upA_uu, tk_0, tk_1, tk_2, tk_3, tk_4, tk_5, tk_6, tk_7, tk_8, tk_9, tk_10, tk_11, tk_12, tk_13, tk_14, tk_15, tk_16, tk_17, tk_18, tk_42, tk_43, e1, c0, c1, bI_e0] at h1 h2 h9 h10 h11
            refine ⟨⟨Nat.zero_le _, Nat.zero_le _⟩, by decide, ?_, ?_⟩
            · simp_all [-Int32.not_le, -Int32.not_lt, bI, upd]
            · show (S, _, J) = (S, _, J)
              simp only [wI_M, wI_1, upA_s, upA_uu, tk_0, tk_1, tk_2, tk_3, tk_4, tk_5, tk_6, tk_7, tk_8, tk_9, tk_10, tk_11, tk_12, tk_13, tk_14, tk_15, tk_16, tk_17, tk_18, tk_42, tk_43, e1, c0, c1]
              simp_all [-Int32.not_le, -Int32.not_lt, rWr, rOff, rPut, rCut, upd]
        · exact absurd h10 (by decide)
      · refine ⟨by exact hR.1, (by rw [e1]; exact hR.vp (by omega)), ?_⟩
        refine ⟨by exact hR.1, (by rw [e1]; exact hR.vp (by omega)), ?_⟩
        refine ⟨fun h12 => ?_, fun h12 => ?_⟩
        · exact absurd h12 (by decide)
        · refine ⟨by exact hR.1, hR.vp (k := 42 + 2 * (3 * s + i)) (by omega), ?_⟩
          refine ⟨fun h13 => ?_, fun h13 => ?_⟩
          · refine ⟨fun h14 => ?_, fun h14 => ?_⟩
            · exact absurd h14 (by decide)
            · simp only [wI_M, wI_1, upA_s, upA_uu, tk_0, tk_1, tk_2, tk_3, tk_4, tk_5, tk_6, tk_7, tk_8, tk_9, tk_10, tk_11, tk_12, tk_13, tk_14, tk_15, tk_16, tk_17, tk_18, tk_42, tk_43, e1, c0, c1, bI_e0] at h1 h2 h9 h12 h13 h14
              refine ⟨⟨Nat.zero_le _, Nat.zero_le _⟩, by decide, ?_, ?_⟩
              · simp_all [-Int32.not_le, -Int32.not_lt, bI, upd]
              · show (S, _, J) = (S, _, J)
                simp only [wI_M, wI_1, upA_s, upA_uu, tk_0, tk_1, tk_2, tk_3, tk_4, tk_5, tk_6, tk_7, tk_8, tk_9, tk_10, tk_11, tk_12, tk_13, tk_14, tk_15, tk_16, tk_17, tk_18, tk_42, tk_43, e1, c0, c1]
                simp_all [-Int32.not_le, -Int32.not_lt, rWr, rOff, rPut, rCut, upd]
          · exact absurd h13 (by decide)
  · refine ⟨by exact hR.1, hR.vp (k := 10) (by omega), ?_⟩
    refine ⟨by exact hR.1, hR.vp (k := 10) (by omega), ?_⟩
    refine ⟨fun h15 => ?_, fun h15 => ?_⟩
    · refine ⟨by exact hR.1, hR.vp (k := 10) (by omega), ?_⟩
      refine ⟨by exact hR.1, hR.vp (k := 11) (by omega), ?_⟩
      refine ⟨⟨Nat.le_of_ble_eq_true rfl, Nat.le_of_ble_eq_true rfl, Nat.le_of_ble_eq_true rfl⟩, _, T_at (s := s) (i := i), ?_⟩
      rintro _ _ ⟨rfl, rfl⟩
      refine ⟨Or.inl rfl, ?_⟩
      refine ⟨⟨Nat.le_of_ble_eq_true rfl, Nat.le_of_ble_eq_true rfl, Nat.le_of_ble_eq_true rfl⟩, _, T_rStuck (s := s) (i := i) hR hs hi, ?_⟩
      rintro _ _ ⟨rfl, rfl⟩
      refine ⟨Or.inl rfl, ?_⟩
      refine ⟨fun h16 => ?_, fun h16 => ?_⟩
      · refine ⟨fun h17 => ?_, fun h17 => ?_⟩
        · exact absurd h17 (by decide)
        · refine ⟨by exact hR.1, hR.vp (k := 3) (by omega), ?_⟩
          refine ⟨by exact hR.1, hR.vp (k := 12) (by omega), ?_⟩
          refine ⟨by exact hR.1, hR.vp (k := 11) (by omega), ?_⟩
          refine ⟨by exact hR.1, hR.vp (k := 9) (by omega), ?_⟩
          refine ⟨by exact hR.1, hR.vp (k := 9) (by omega), ?_⟩
          refine ⟨by exact hR.1, hR.vp (k := 13) (by omega), ?_⟩
          refine ⟨by exact hR.1, hR.vp (k := 14) (by omega), ?_⟩
          refine ⟨by exact hR.1, hR.vp (k := 15) (by omega), ?_⟩
          refine ⟨by exact hR.1, hR.vp (k := 16) (by omega), ?_⟩
          refine ⟨fun h18 => ?_, fun h18 => ?_⟩
          · simp only [wI_M, wI_1, upA_s, upA_uu, tk_0, tk_1, tk_2, tk_3, tk_4, tk_5, tk_6, tk_7, tk_8, tk_9, tk_10, tk_11, tk_12, tk_13, tk_14, tk_15, tk_16, tk_17, tk_18, tk_42, tk_43, e1, c0, c1, bI_e0] at h1 h15 h16 h17 h18
            refine ⟨⟨Nat.zero_le _, Nat.zero_le _⟩, by decide, ?_, ?_⟩
            · simp_all [-Int32.not_le, -Int32.not_lt, bI, upd]
            · show (S, _, J) = (S, _, J)
              simp only [wI_M, wI_1, upA_s, upA_uu, tk_0, tk_1, tk_2, tk_3, tk_4, tk_5, tk_6, tk_7, tk_8, tk_9, tk_10, tk_11, tk_12, tk_13, tk_14, tk_15, tk_16, tk_17, tk_18, tk_42, tk_43, e1, c0, c1]
              simp_all [-Int32.not_le, -Int32.not_lt, rWr, rOff, rPut, rCut, upd]
          · exact absurd h18 (by decide)
      · refine ⟨by exact hR.1, (by rw [e1]; exact hR.vp (by omega)), ?_⟩
        refine ⟨by exact hR.1, (by rw [e1]; exact hR.vp (by omega)), ?_⟩
        refine ⟨fun h19 => ?_, fun h19 => ?_⟩
        · refine ⟨fun h20 => ?_, fun h20 => ?_⟩
          · refine ⟨fun h21 => ?_, fun h21 => ?_⟩
            · exact absurd h21 (by decide)
            · refine ⟨by exact hR.1, hR.vp (k := 3) (by omega), ?_⟩
              refine ⟨by exact hR.1, hR.vp (k := 12) (by omega), ?_⟩
              refine ⟨by exact hR.1, hR.vp (k := 11) (by omega), ?_⟩
              refine ⟨by exact hR.1, hR.vp (k := 9) (by omega), ?_⟩
              refine ⟨by exact hR.1, hR.vp (k := 9) (by omega), ?_⟩
              refine ⟨by exact hR.1, hR.vp (k := 13) (by omega), ?_⟩
              refine ⟨by exact hR.1, hR.vp (k := 14) (by omega), ?_⟩
              refine ⟨by exact hR.1, hR.vp (k := 15) (by omega), ?_⟩
              refine ⟨by exact hR.1, hR.vp (k := 16) (by omega), ?_⟩
              refine ⟨fun h22 => ?_, fun h22 => ?_⟩
              · simp only [wI_M, wI_1, upA_s, upA_uu, tk_0, tk_1, tk_2, tk_3, tk_4, tk_5, tk_6, tk_7, tk_8, tk_9, tk_10, tk_11, tk_12, tk_13, tk_14, tk_15, tk_16, tk_17, tk_18, tk_42, tk_43, e1, c0, c1, bI_e0] at h1 h15 h16 h19 h20 h21 h22
                refine ⟨⟨Nat.zero_le _, Nat.zero_le _⟩, by decide, ?_, ?_⟩
                · simp_all [-Int32.not_le, -Int32.not_lt, bI, upd]
                · show (S, _, J) = (S, _, J)
                  simp only [wI_M, wI_1, upA_s, upA_uu, tk_0, tk_1, tk_2, tk_3, tk_4, tk_5, tk_6, tk_7, tk_8, tk_9, tk_10, tk_11, tk_12, tk_13, tk_14, tk_15, tk_16, tk_17, tk_18, tk_42, tk_43, e1, c0, c1]
                  simp_all [-Int32.not_le, -Int32.not_lt, rWr, rOff, rPut, rCut, upd]
              · exact absurd h22 (by decide)
          · refine ⟨fun h23 => ?_, fun h23 => ?_⟩
            · refine ⟨by first | decide | exact hR.1, ?_⟩
              refine ⟨by exact hR.1, hR.vp (k := 42 + 2 * (3 * s + i)) (by omega), ?_⟩
              refine ⟨fun h24 => ?_, fun h24 => ?_⟩
              · exact absurd h24 (by decide)
              · refine ⟨by exact hR.1, hR.vp (k := 3) (by omega), ?_⟩
                refine ⟨by exact hR.1, hR.vp (k := 12) (by omega), ?_⟩
                refine ⟨by exact hR.1, hR.vp (k := 11) (by omega), ?_⟩
                refine ⟨by exact hR.1, hR.vp (k := 9) (by omega), ?_⟩
                refine ⟨by exact hR.1, hR.vp (k := 9) (by omega), ?_⟩
                refine ⟨by exact hR.1, hR.vp (k := 13) (by omega), ?_⟩
                refine ⟨by exact hR.1, hR.vp (k := 14) (by omega), ?_⟩
                refine ⟨by exact hR.1, hR.vp (k := 15) (by omega), ?_⟩
                refine ⟨by exact hR.1, hR.vp (k := 16) (by omega), ?_⟩
                refine ⟨fun h25 => ?_, fun h25 => ?_⟩
                · simp only [wI_M, wI_1, upA_s, upA_uu, tk_0, tk_1, tk_2, tk_3, tk_4, tk_5, tk_6, tk_7, tk_8, tk_9, tk_10, tk_11, tk_12, tk_13, tk_14, tk_15, tk_16, tk_17, tk_18, tk_42, tk_43, e1, c0, c1, bI_e0] at h1 h15 h16 h19 h20 h23 h24 h25
                  refine ⟨⟨Nat.zero_le _, Nat.zero_le _⟩, by decide, ?_, ?_⟩
                  · simp_all [-Int32.not_le, -Int32.not_lt, bI, upd]
                  · show (S, _, J) = (S, _, J)
                    simp only [wI_M, wI_1, upA_s, upA_uu, tk_0, tk_1, tk_2, tk_3, tk_4, tk_5, tk_6, tk_7, tk_8, tk_9, tk_10, tk_11, tk_12, tk_13, tk_14, tk_15, tk_16, tk_17, tk_18, tk_42, tk_43, e1, c0, c1]
                    simp_all [-Int32.not_le, -Int32.not_lt, rWr, rOff, rPut, rCut, upd]
                · exact absurd h25 (by decide)
            · refine ⟨by exact hR.1, hR.vp (k := 42 + 2 * (3 * s + i)) (by omega), ?_⟩
              refine ⟨fun h26 => ?_, fun h26 => ?_⟩
              · exact absurd h26 (by decide)
              · refine ⟨by exact hR.1, hR.vp (k := 3) (by omega), ?_⟩
                refine ⟨by exact hR.1, hR.vp (k := 12) (by omega), ?_⟩
                refine ⟨by exact hR.1, hR.vp (k := 11) (by omega), ?_⟩
                refine ⟨by exact hR.1, hR.vp (k := 9) (by omega), ?_⟩
                refine ⟨by exact hR.1, hR.vp (k := 9) (by omega), ?_⟩
                refine ⟨by exact hR.1, hR.vp (k := 13) (by omega), ?_⟩
                refine ⟨by exact hR.1, hR.vp (k := 14) (by omega), ?_⟩
                refine ⟨by exact hR.1, hR.vp (k := 15) (by omega), ?_⟩
                refine ⟨by exact hR.1, hR.vp (k := 16) (by omega), ?_⟩
                refine ⟨fun h27 => ?_, fun h27 => ?_⟩
                · simp only [wI_M, wI_1, upA_s, upA_uu, tk_0, tk_1, tk_2, tk_3, tk_4, tk_5, tk_6, tk_7, tk_8, tk_9, tk_10, tk_11, tk_12, tk_13, tk_14, tk_15, tk_16, tk_17, tk_18, tk_42, tk_43, e1, c0, c1, bI_e0] at h1 h15 h16 h19 h20 h23 h26 h27
                  refine ⟨⟨Nat.zero_le _, Nat.zero_le _⟩, by decide, ?_, ?_⟩
                  · simp_all [-Int32.not_le, -Int32.not_lt, bI, upd]
                  · show (S, _, J) = (S, _, J)
                    simp only [wI_M, wI_1, upA_s, upA_uu, tk_0, tk_1, tk_2, tk_3, tk_4, tk_5, tk_6, tk_7, tk_8, tk_9, tk_10, tk_11, tk_12, tk_13, tk_14, tk_15, tk_16, tk_17, tk_18, tk_42, tk_43, e1, c0, c1]
                    simp_all [-Int32.not_le, -Int32.not_lt, rWr, rOff, rPut, rCut, upd]
                · exact absurd h27 (by decide)
        · exact absurd h19 (by decide)
    · refine ⟨by exact hR.1, hR.vp (k := 10) (by omega), ?_⟩
      refine ⟨by exact hR.1, hR.vp (k := 11) (by omega), ?_⟩
      refine ⟨⟨Nat.le_of_ble_eq_true rfl, Nat.le_of_ble_eq_true rfl, Nat.le_of_ble_eq_true rfl⟩, _, T_at (s := s) (i := i), ?_⟩
      rintro _ _ ⟨rfl, rfl⟩
      refine ⟨Or.inl rfl, ?_⟩
      refine ⟨⟨Nat.le_of_ble_eq_true rfl, Nat.le_of_ble_eq_true rfl, Nat.le_of_ble_eq_true rfl⟩, _, T_rStuck (s := s) (i := i) hR hs hi, ?_⟩
      rintro _ _ ⟨rfl, rfl⟩
      refine ⟨Or.inl rfl, ?_⟩
      refine ⟨fun h28 => ?_, fun h28 => ?_⟩
      · refine ⟨fun h29 => ?_, fun h29 => ?_⟩
        · exact absurd h29 (by decide)
        · refine ⟨by exact hR.1, hR.vp (k := 3) (by omega), ?_⟩
          refine ⟨by exact hR.1, hR.vp (k := 12) (by omega), ?_⟩
          refine ⟨by exact hR.1, hR.vp (k := 11) (by omega), ?_⟩
          refine ⟨by exact hR.1, hR.vp (k := 9) (by omega), ?_⟩
          refine ⟨by exact hR.1, hR.vp (k := 9) (by omega), ?_⟩
          refine ⟨by exact hR.1, hR.vp (k := 13) (by omega), ?_⟩
          refine ⟨by exact hR.1, hR.vp (k := 14) (by omega), ?_⟩
          refine ⟨by exact hR.1, hR.vp (k := 15) (by omega), ?_⟩
          refine ⟨by exact hR.1, hR.vp (k := 16) (by omega), ?_⟩
          refine ⟨fun h30 => ?_, fun h30 => ?_⟩
          · simp only [wI_M, wI_1, upA_s, upA_uu, tk_0, tk_1, tk_2, tk_3, tk_4, tk_5, tk_6, tk_7, tk_8, tk_9, tk_10, tk_11, tk_12, tk_13, tk_14, tk_15, tk_16, tk_17, tk_18, tk_42, tk_43, e1, c0, c1, bI_e0] at h1 h15 h28 h29 h30
            refine ⟨⟨Nat.zero_le _, Nat.zero_le _⟩, by decide, ?_, ?_⟩
            · simp_all [-Int32.not_le, -Int32.not_lt, bI, upd]
            · show (S, _, J) = (S, _, J)
              simp only [wI_M, wI_1, upA_s, upA_uu, tk_0, tk_1, tk_2, tk_3, tk_4, tk_5, tk_6, tk_7, tk_8, tk_9, tk_10, tk_11, tk_12, tk_13, tk_14, tk_15, tk_16, tk_17, tk_18, tk_42, tk_43, e1, c0, c1]
              simp_all [-Int32.not_le, -Int32.not_lt, rWr, rOff, rPut, rCut, upd]
          · exact absurd h30 (by decide)
      · refine ⟨by exact hR.1, (by rw [e1]; exact hR.vp (by omega)), ?_⟩
        refine ⟨by exact hR.1, (by rw [e1]; exact hR.vp (by omega)), ?_⟩
        refine ⟨fun h31 => ?_, fun h31 => ?_⟩
        · refine ⟨fun h32 => ?_, fun h32 => ?_⟩
          · refine ⟨fun h33 => ?_, fun h33 => ?_⟩
            · exact absurd h33 (by decide)
            · refine ⟨by exact hR.1, hR.vp (k := 3) (by omega), ?_⟩
              refine ⟨by exact hR.1, hR.vp (k := 12) (by omega), ?_⟩
              refine ⟨by exact hR.1, hR.vp (k := 11) (by omega), ?_⟩
              refine ⟨by exact hR.1, hR.vp (k := 9) (by omega), ?_⟩
              refine ⟨by exact hR.1, hR.vp (k := 9) (by omega), ?_⟩
              refine ⟨by exact hR.1, hR.vp (k := 13) (by omega), ?_⟩
              refine ⟨by exact hR.1, hR.vp (k := 14) (by omega), ?_⟩
              refine ⟨by exact hR.1, hR.vp (k := 15) (by omega), ?_⟩
              refine ⟨by exact hR.1, hR.vp (k := 16) (by omega), ?_⟩
              refine ⟨fun h34 => ?_, fun h34 => ?_⟩
              · simp only [wI_M, wI_1, upA_s, upA_uu, tk_0, tk_1, tk_2, tk_3, tk_4, tk_5, tk_6, tk_7, tk_8, tk_9, tk_10, tk_11, tk_12, tk_13, tk_14, tk_15, tk_16, tk_17, tk_18, tk_42, tk_43, e1, c0, c1, bI_e0] at h1 h15 h28 h31 h32 h33 h34
                refine ⟨⟨Nat.zero_le _, Nat.zero_le _⟩, by decide, ?_, ?_⟩
                · simp_all [-Int32.not_le, -Int32.not_lt, bI, upd]
                · show (S, _, J) = (S, _, J)
                  simp only [wI_M, wI_1, upA_s, upA_uu, tk_0, tk_1, tk_2, tk_3, tk_4, tk_5, tk_6, tk_7, tk_8, tk_9, tk_10, tk_11, tk_12, tk_13, tk_14, tk_15, tk_16, tk_17, tk_18, tk_42, tk_43, e1, c0, c1]
                  simp_all [-Int32.not_le, -Int32.not_lt, rWr, rOff, rPut, rCut, upd]
              · exact absurd h34 (by decide)
          · refine ⟨fun h35 => ?_, fun h35 => ?_⟩
            · refine ⟨by first | decide | exact hR.1, ?_⟩
              refine ⟨by exact hR.1, hR.vp (k := 42 + 2 * (3 * s + i)) (by omega), ?_⟩
              refine ⟨fun h36 => ?_, fun h36 => ?_⟩
              · exact absurd h36 (by decide)
              · refine ⟨by exact hR.1, hR.vp (k := 3) (by omega), ?_⟩
                refine ⟨by exact hR.1, hR.vp (k := 12) (by omega), ?_⟩
                refine ⟨by exact hR.1, hR.vp (k := 11) (by omega), ?_⟩
                refine ⟨by exact hR.1, hR.vp (k := 9) (by omega), ?_⟩
                refine ⟨by exact hR.1, hR.vp (k := 9) (by omega), ?_⟩
                refine ⟨by exact hR.1, hR.vp (k := 13) (by omega), ?_⟩
                refine ⟨by exact hR.1, hR.vp (k := 14) (by omega), ?_⟩
                refine ⟨by exact hR.1, hR.vp (k := 15) (by omega), ?_⟩
                refine ⟨by exact hR.1, hR.vp (k := 16) (by omega), ?_⟩
                refine ⟨fun h37 => ?_, fun h37 => ?_⟩
                · simp only [wI_M, wI_1, upA_s, upA_uu, tk_0, tk_1, tk_2, tk_3, tk_4, tk_5, tk_6, tk_7, tk_8, tk_9, tk_10, tk_11, tk_12, tk_13, tk_14, tk_15, tk_16, tk_17, tk_18, tk_42, tk_43, e1, c0, c1, bI_e0] at h1 h15 h28 h31 h32 h35 h36 h37
                  refine ⟨⟨Nat.zero_le _, Nat.zero_le _⟩, by decide, ?_, ?_⟩
                  · simp_all [-Int32.not_le, -Int32.not_lt, bI, upd]
                  · show (S, _, J) = (S, _, J)
                    simp only [wI_M, wI_1, upA_s, upA_uu, tk_0, tk_1, tk_2, tk_3, tk_4, tk_5, tk_6, tk_7, tk_8, tk_9, tk_10, tk_11, tk_12, tk_13, tk_14, tk_15, tk_16, tk_17, tk_18, tk_42, tk_43, e1, c0, c1]
                    simp_all [-Int32.not_le, -Int32.not_lt, rWr, rOff, rPut, rCut, upd]
                · exact absurd h37 (by decide)
            · refine ⟨by exact hR.1, hR.vp (k := 42 + 2 * (3 * s + i)) (by omega), ?_⟩
              refine ⟨fun h38 => ?_, fun h38 => ?_⟩
              · exact absurd h38 (by decide)
              · refine ⟨by exact hR.1, hR.vp (k := 3) (by omega), ?_⟩
                refine ⟨by exact hR.1, hR.vp (k := 12) (by omega), ?_⟩
                refine ⟨by exact hR.1, hR.vp (k := 11) (by omega), ?_⟩
                refine ⟨by exact hR.1, hR.vp (k := 9) (by omega), ?_⟩
                refine ⟨by exact hR.1, hR.vp (k := 9) (by omega), ?_⟩
                refine ⟨by exact hR.1, hR.vp (k := 13) (by omega), ?_⟩
                refine ⟨by exact hR.1, hR.vp (k := 14) (by omega), ?_⟩
                refine ⟨by exact hR.1, hR.vp (k := 15) (by omega), ?_⟩
                refine ⟨by exact hR.1, hR.vp (k := 16) (by omega), ?_⟩
                refine ⟨fun h39 => ?_, fun h39 => ?_⟩
                · simp only [wI_M, wI_1, upA_s, upA_uu, tk_0, tk_1, tk_2, tk_3, tk_4, tk_5, tk_6, tk_7, tk_8, tk_9, tk_10, tk_11, tk_12, tk_13, tk_14, tk_15, tk_16, tk_17, tk_18, tk_42, tk_43, e1, c0, c1, bI_e0] at h1 h15 h28 h31 h32 h35 h38 h39
                  refine ⟨⟨Nat.zero_le _, Nat.zero_le _⟩, by decide, ?_, ?_⟩
                  · simp_all [-Int32.not_le, -Int32.not_lt, bI, upd]
                  · show (S, _, J) = (S, _, J)
                    simp only [wI_M, wI_1, upA_s, upA_uu, tk_0, tk_1, tk_2, tk_3, tk_4, tk_5, tk_6, tk_7, tk_8, tk_9, tk_10, tk_11, tk_12, tk_13, tk_14, tk_15, tk_16, tk_17, tk_18, tk_42, tk_43, e1, c0, c1]
                    simp_all [-Int32.not_le, -Int32.not_lt, rWr, rOff, rPut, rCut, upd]
                · exact absurd h39 (by decide)
        · exact absurd h31 (by decide)
