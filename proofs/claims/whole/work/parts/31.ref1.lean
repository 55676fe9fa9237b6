/-! THE REFERENCE, rows of numbers: written by wip/whole/pure2.py -/
set_option maxHeartbeats 1000000 in
theorem T_in {d : Nat} {S : Sc} {M : Nat → Nat → Int32} {J : Nat → Nat → Int64} {v a b : Int64} : Wp (d + 1) 100 [.long v, .long a, .long b] (S, M, J) (fun rs w' => rs = .inl (some (.int (bI (¬ v < a ∧ ¬ b < v)))) ∧ w' = (S, M, J)) := by
  refine ⟨rfl, ?_⟩
  refine EE.runN (stop := noStop) 60 _ ?_
  refine ⟨fun h1 => ?_, fun h1 => ?_⟩
  · refine ⟨⟨Nat.zero_le _, Nat.zero_le _⟩, by decide, ?_, rfl⟩
    simp only [lg_cmp_lt, lg_cmp_gt] at h1; simp [bI, h1]
  · refine ⟨fun h2 => ?_, fun h2 => ?_⟩
    · refine ⟨⟨Nat.zero_le _, Nat.zero_le _⟩, by decide, ?_, rfl⟩
      simp only [lg_cmp_lt, lg_cmp_gt] at h1 h2; simp [bI, h1, h2]
    · refine ⟨⟨Nat.zero_le _, Nat.zero_le _⟩, by decide, ?_, rfl⟩
      simp only [lg_cmp_lt, lg_cmp_gt] at h1 h2; simp [bI, h1, h2]
set_option maxHeartbeats 1000000 in
theorem T_at {d : Nat} {S : Sc} {M : Nat → Nat → Int32} {J : Nat → Nat → Int64} {s i : Nat} : Wp (d + 1) 106 [.int (nI s), .int (nI i)] (S, M, J) (fun rs w' => rs = .inl (some (.int (nI (42 + 2 * (3 * s + i))))) ∧ w' = (S, M, J)) := by
  refine ⟨rfl, ?_⟩
  refine EE.runN (stop := noStop) 60 _ ?_
  refine ⟨⟨Nat.zero_le _, Nat.zero_le _⟩, ?_, rfl⟩
  exact congrArg (fun x => Sum.inl (some (Value.int x))) (i_at s i)
def rSays (ρ : Rw) (s : Nat) : Int32 := if ¬ ρ (42 + 2 * (3 * s + 0)) = -99999 ∧ (ρ (42 + 2 * (3 * s + 0)) = ρ (42 + 2 * (3 * s + 1)) ∨ ρ (42 + 2 * (3 * s + 0)) = ρ (42 + 2 * (3 * s + 2))) then ρ (42 + 2 * (3 * s + 0)) else if ¬ ρ (42 + 2 * (3 * s + 1)) = -99999 ∧ ρ (42 + 2 * (3 * s + 1)) = ρ (42 + 2 * (3 * s + 2)) then ρ (42 + 2 * (3 * s + 1)) else -99999
set_option maxHeartbeats 1000000 in
theorem T_saysOf {d : Nat} {S : Sc} {M : Nat → Nat → Int32} {J : Nat → Nat → Int64} {r s : Nat} (hR : RowS S r) (hs : s < 12) : Wp (d + 2) 107 [.ref r, .int (nI s)] (S, M, J) (fun rs w' => rs = .inl (some (.int (rSays (M r) s))) ∧ w' = (S, M, J)) := by
  have c0 := ck (k := 42 + 2 * (3 * s + 0)) (by omega)
  have c1 := ck (k := 42 + 2 * (3 * s + 1)) (by omega)
  have c2 := ck (k := 42 + 2 * (3 * s + 2)) (by omega)
  refine ⟨rfl, ?_⟩
  refine EE.runN (stop := noStop) 60 _ ?_
  refine ⟨⟨Nat.le_of_ble_eq_true rfl, Nat.le_of_ble_eq_true rfl, Nat.le_of_ble_eq_true rfl⟩, _, T_at (s := s) (i := 0), ?_⟩
  rintro _ _ ⟨rfl, rfl⟩
  refine ⟨Or.inl rfl, ?_⟩
  refine ⟨by exact hR.1, hR.vp (by omega), ?_⟩
  refine ⟨⟨Nat.le_of_ble_eq_true rfl, Nat.le_of_ble_eq_true rfl, Nat.le_of_ble_eq_true rfl⟩, _, T_at (s := s) (i := 1), ?_⟩
  rintro _ _ ⟨rfl, rfl⟩
  refine ⟨Or.inl rfl, ?_⟩
  refine ⟨by exact hR.1, hR.vp (by omega), ?_⟩
  refine ⟨⟨Nat.le_of_ble_eq_true rfl, Nat.le_of_ble_eq_true rfl, Nat.le_of_ble_eq_true rfl⟩, _, T_at (s := s) (i := 2), ?_⟩
  rintro _ _ ⟨rfl, rfl⟩
  refine ⟨Or.inl rfl, ?_⟩
  refine ⟨by exact hR.1, hR.vp (by omega), ?_⟩
  refine ⟨fun h1 => ?_, fun h1 => ?_⟩
  · refine ⟨fun h2 => ?_, fun h2 => ?_⟩
    · refine ⟨⟨Nat.zero_le _, Nat.zero_le _⟩, ?_, rfl⟩
      simp only [c0, c1, c2] at h1 h2 ⊢; simp_all [rSays]
    · refine ⟨fun h3 => ?_, fun h3 => ?_⟩
      · refine ⟨⟨Nat.zero_le _, Nat.zero_le _⟩, ?_, rfl⟩
        simp only [c0, c1, c2] at h1 h2 h3 ⊢; simp_all [rSays]
      · refine ⟨⟨Nat.zero_le _, Nat.zero_le _⟩, ?_, rfl⟩
        simp only [c0, c1, c2] at h1 h2 h3 ⊢; simp_all [rSays]
  · refine ⟨fun h4 => ?_, fun h4 => ?_⟩
    · refine ⟨⟨Nat.zero_le _, Nat.zero_le _⟩, ?_, rfl⟩
      simp only [c0, c1, c2] at h1 h4 ⊢; simp_all [rSays]
    · refine ⟨fun h5 => ?_, fun h5 => ?_⟩
      · refine ⟨fun h6 => ?_, fun h6 => ?_⟩
        · refine ⟨⟨Nat.zero_le _, Nat.zero_le _⟩, ?_, rfl⟩
          simp only [c0, c1, c2] at h1 h4 h5 h6 ⊢; simp_all [rSays]
        · refine ⟨fun h7 => ?_, fun h7 => ?_⟩
          · refine ⟨⟨Nat.zero_le _, Nat.zero_le _⟩, ?_, rfl⟩
            simp only [c0, c1, c2] at h1 h4 h5 h6 h7 ⊢; simp_all [rSays]
          · refine ⟨⟨Nat.zero_le _, Nat.zero_le _⟩, ?_, rfl⟩
            simp only [c0, c1, c2] at h1 h4 h5 h6 h7 ⊢; simp_all [rSays]
      · refine ⟨⟨Nat.zero_le _, Nat.zero_le _⟩, ?_, rfl⟩
        simp only [c0, c1, c2] at h1 h4 h5 ⊢; simp_all [rSays]
set_option maxHeartbeats 1000000 in
theorem T_rStuck {d : Nat} {S : Sc} {M : Nat → Nat → Int32} {J : Nat → Nat → Int64} {r s i : Nat} (hR : RowS S r) (hs : s < 12) (hi : i < 3) : Wp (d + 2) 108 [.ref r, .int (nI s), .int (nI i)] (S, M, J) (fun rs w' => rs = .inl (some (.int (bI (¬ M r (43 + 2 * (3 * s + i)) < M r 2)))) ∧ w' = (S, M, J)) := by
  have e1 : nI (42 + 2 * (3 * s + i)) + 1 = nI (43 + 2 * (3 * s + i)) := by rw [nI_1]; congr 1; omega
  have c0 := ck (k := 43 + 2 * (3 * s + i)) (by omega)
  have c2 : (2 : Int32).toNatClampNeg = 2 := rfl
  refine ⟨rfl, ?_⟩
  refine EE.runN (stop := noStop) 60 _ ?_
  refine ⟨⟨Nat.le_of_ble_eq_true rfl, Nat.le_of_ble_eq_true rfl, Nat.le_of_ble_eq_true rfl⟩, _, T_at (s := s) (i := i), ?_⟩
  rintro _ _ ⟨rfl, rfl⟩
  refine ⟨Or.inl rfl, ?_⟩
  refine ⟨by exact hR.1, (by first | exact hR.vp (k := 2) (by omega) | (rw [e1]; exact hR.vp (by omega))), ?_⟩
  refine ⟨by exact hR.1, (by first | exact hR.vp (k := 2) (by omega) | (rw [e1]; exact hR.vp (by omega))), ?_⟩
  refine ⟨fun h1 => ?_, fun h1 => ?_⟩
  · refine ⟨⟨Nat.zero_le _, Nat.zero_le _⟩, by decide, ?_, rfl⟩
    simp only [e1, c0, c2] at h1; simp [bI, h1]
  · refine ⟨⟨Nat.zero_le _, Nat.zero_le _⟩, by decide, ?_, rfl⟩
    simp only [e1, c0, c2] at h1; simp [bI, h1]
