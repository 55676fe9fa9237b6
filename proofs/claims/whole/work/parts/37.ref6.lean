/-! THE REFERENCE: services, renewing, driving, power: written by wip/whole/pure3.py -/
theorem rFnd_or (ρ : Rw) (c : Int32) : ∀ n, (rFnd ρ c n = -99999) ∨ ∃ i, i < n ∧ rFnd ρ c n = nI i
  | 0 => Or.inl rfl
  | n + 1 => by
    unfold rFnd
    split
    · exact Or.inr ⟨n, by omega, rfl⟩
    · rcases rFnd_or ρ c n with h | ⟨i, h, h2⟩
      · exact Or.inl h
      · exact Or.inr ⟨i, by omega, h2⟩
theorem nN {i : Nat} (h : i < 2147483648) : ¬ nI i = -99999 := by
  intro h2
  have := nI_pos h
  rw [h2] at this
  exact absurd this (by decide)
def rCan (ρ : Rw) (c : Int32) (n : Nat) : Prop := ρ 3 = 1 ∧ (ρ 17 < 12 ∨ ¬ rFnd ρ c n = -99999)
set_option maxHeartbeats 1000000 in
theorem T_canServe {d : Nat} {S : Sc} {M : Nat → Nat → Int32} {J : Nat → Nat → Int64} {r n : Nat} {x y : Int32} (hR : RowS S r) (hn : n ≤ 12) (h17 : M r 17 = nI n) : Wp (d + 2) 117 [.ref r, .int x, .int y] (S, M, J) (fun rs w' => rs = .inl (some (.int (bI (M r 3 = 1 ∧ (M r 17 < 12 ∨ ¬ rFnd (M r) (10 * x + y) n = -99999))))) ∧ w' = (S, M, J)) := by
  refine ⟨rfl, ?_⟩
  refine EE.runN (stop := noStop) 80 _ ?_
  refine ⟨by exact hR.1, hR.vp (k := 3) (by omega), ?_⟩
  refine ⟨fun h1 => ?_, fun h1 => ?_⟩
  · simp only [tk_0, tk_1, tk_2, tk_3, tk_4, tk_5, tk_6, tk_7, tk_8, tk_9, tk_10, tk_11, tk_12, tk_13, tk_14, tk_15, tk_16, tk_17] at h1
    refine ⟨⟨Nat.zero_le _, Nat.zero_le _⟩, by decide, ?_, ?_⟩
    · simp [bI, h1]
    · rfl
  · refine ⟨by exact hR.1, hR.vp (k := 17) (by omega), ?_⟩
    refine ⟨fun h2 => ?_, fun h2 => ?_⟩
    · simp only [tk_0, tk_1, tk_2, tk_3, tk_4, tk_5, tk_6, tk_7, tk_8, tk_9, tk_10, tk_11, tk_12, tk_13, tk_14, tk_15, tk_16, tk_17] at h1 h2
      refine ⟨⟨Nat.zero_le _, Nat.zero_le _⟩, by decide, ?_, ?_⟩
      · simp [bI, h1, h2]
      · rfl
    · refine ⟨⟨Nat.le_of_ble_eq_true rfl, Nat.le_of_ble_eq_true rfl, Nat.le_of_ble_eq_true rfl⟩, _, T_serviceOf (x := x) (y := y) hR hn h17, ?_⟩
      rintro _ _ ⟨rfl, rfl⟩
      refine ⟨Or.inl rfl, ?_⟩
      refine ⟨fun h3 => ?_, fun h3 => ?_⟩
      · simp only [tk_0, tk_1, tk_2, tk_3, tk_4, tk_5, tk_6, tk_7, tk_8, tk_9, tk_10, tk_11, tk_12, tk_13, tk_14, tk_15, tk_16, tk_17] at h1 h2 h3
        refine ⟨⟨Nat.zero_le _, Nat.zero_le _⟩, by decide, ?_, ?_⟩
        · simp [bI, h1, h2, h3]
        · rfl
      · simp only [tk_0, tk_1, tk_2, tk_3, tk_4, tk_5, tk_6, tk_7, tk_8, tk_9, tk_10, tk_11, tk_12, tk_13, tk_14, tk_15, tk_16, tk_17] at h1 h2 h3
        refine ⟨⟨Nat.zero_le _, Nat.zero_le _⟩, by decide, ?_, ?_⟩
        · simp [bI, h1, h2, h3]
        · rfl
def rAdd (ρ : Rw) (c : Int32) (n : Nat) : Rw := upd (upd (upd ρ (18 + 2 * n) c) (19 + 2 * n) (ρ 4)) 17 (nI (n + 1))
def rServe (ρ : Rw) (c : Int32) (n : Nat) : Rw := if rFnd ρ c n = -99999 then rAdd ρ c n else rAdd (rDrop ρ (rFnd ρ c n).toNatClampNeg n) c (n - 1)
def rServed (ρ : Rw) (c : Int32) (n : Nat) : Int32 := if rFnd ρ c n = -99999 then -99999 else ρ 4 - ρ (19 + 2 * (rFnd ρ c n).toNatClampNeg)
theorem rDrop_lo (ρ : Rw) {i n k : Nat} (h : k < 17) : rDrop ρ i n k = ρ k := by
  unfold rDrop
  rw [pk_un (by omega), rShift_lo _ (by omega)]
theorem rDrop_17 (ρ : Rw) {i n : Nat} : rDrop ρ i n 17 = nI (n - 1) := by
  unfold rDrop
  rw [pk_us]
set_option maxHeartbeats 4000000 in
theorem T_serve {d : Nat} {S : Sc} {M : Nat → Nat → Int32} {J : Nat → Nat → Int64} {r n : Nat} {x y : Int32} (hR : RowS S r) (hn : n ≤ 12) (h17 : M r 17 = nI n) : Wp (d + 2) 118 [.ref r, .int x, .int y] (S, M, J) (fun rs w' => rs = .inl (some (.int (rServed (M r) (10 * x + y) n))) ∧ w' = (S, upA M r (rServe (M r) (10 * x + y) n), J)) := by
  have hh : ∃ f, f = rFnd (M r) (10 * x + y) n := ⟨_, rfl⟩
  obtain ⟨f, hf⟩ := hh
  have ixa : ∀ m : Nat, (18 + 2 * nI m : Int32) = nI (18 + 2 * m) := fun m => by rw [o_18, o_2, pk_mul, nI_add]
  have ixb : ∀ m : Nat, (18 + 2 * nI m + 1 : Int32) = nI (19 + 2 * m) := fun m => by rw [ixa, nI_1]; congr 1; omega
  refine ⟨rfl, ?_⟩
  refine EE.runN (stop := noStop) 80 _ ?_
  refine ⟨⟨Nat.le_of_ble_eq_true rfl, Nat.le_of_ble_eq_true rfl, Nat.le_of_ble_eq_true rfl⟩, _, T_serviceOf (x := x) (y := y) hR hn h17, ?_⟩
  rintro _ _ ⟨rfl, rfl⟩
  rw [← hf]
  refine ⟨Or.inl rfl, ?_⟩
  refine ⟨fun h1 => ?_, fun h1 => ?_⟩
  · have hm : M r 17 = nI n := h17
    refine ⟨by exact hR.1, hR.vp (k := 17) (by omega), ?_⟩
    refine ⟨by exact hR.1, (by simp only [wI_M, wI_1, upA_s, upA_uu, tk_0, tk_1, tk_2, tk_3, tk_4, tk_5, tk_6, tk_7, tk_8, tk_9, tk_10, tk_11, tk_12, tk_13, tk_14, tk_15, tk_16, tk_17]; rw [hm, ixa]; exact hR.vp (by omega)), ?_⟩
    refine ⟨by exact hR.1, hR.vp (k := 17) (by omega), ?_⟩
    refine ⟨by exact hR.1, hR.vp (k := 4) (by omega), ?_⟩
    refine ⟨by exact hR.1, (by simp only [wI_M, wI_1, upA_s, upA_uu, tk_0, tk_1, tk_2, tk_3, tk_4, tk_5, tk_6, tk_7, tk_8, tk_9, tk_10, tk_11, tk_12, tk_13, tk_14, tk_15, tk_16, tk_17]; rw [hm, ixa, ck (by omega), pk_un (by omega), hm, ixb]; exact hR.vp (by omega)), ?_⟩
    refine ⟨by exact hR.1, hR.vp (k := 17) (by omega), ?_⟩
    refine ⟨by exact hR.1, hR.vp (k := 17) (by omega), ?_⟩
    refine ⟨⟨Nat.zero_le _, Nat.zero_le _⟩, ?_, ?_⟩
    · unfold rServed
      rw [if_pos (hf ▸ h1)]
    · show (S, _, J) = (S, _, J)
      unfold rServe
      rw [if_pos (hf ▸ h1)]
      simp only [wI_M, wI_1, upA_s, upA_uu, tk_0, tk_1, tk_2, tk_3, tk_4, tk_5, tk_6, tk_7, tk_8, tk_9, tk_10, tk_11, tk_12, tk_13, tk_14, tk_15, tk_16, tk_17, hm]
      rw [ixa, ck (by omega), pk_un (by omega), hm, ixb, ck (by omega), pk_un (by omega), pk_un (by omega), pk_un (by omega), hm, nI_1]
      rfl
  · have hi0 := rFnd_or (M r) (10 * x + y) n
    rw [← hf] at hi0
    obtain ⟨i, hi, hi2⟩ := hi0.resolve_left h1
    have hm : M r 17 = nI n := h17
    refine ⟨by exact hR.1, hR.vp (k := 4) (by omega), ?_⟩
    refine ⟨by exact hR.1, (by rw [hi2, ixb]; exact hR.vp (by omega)), ?_⟩
    refine ⟨⟨Nat.le_of_ble_eq_true rfl, Nat.le_of_ble_eq_true rfl, Nat.le_of_ble_eq_true rfl⟩, _, by rw [hi2]; exact T_drop hR hi hn h17, ?_⟩
    rintro _ _ ⟨rfl, rfl⟩
    have hm : rDrop (M r) i n 17 = nI (n - 1) := rDrop_17 _
    refine ⟨Or.inl rfl, ?_⟩
    refine ⟨by exact hR.1, hR.vp (k := 17) (by omega), ?_⟩
    refine ⟨by exact hR.1, (by simp only [wI_M, wI_1, upA_s, upA_uu, tk_0, tk_1, tk_2, tk_3, tk_4, tk_5, tk_6, tk_7, tk_8, tk_9, tk_10, tk_11, tk_12, tk_13, tk_14, tk_15, tk_16, tk_17]; rw [hm, ixa]; exact hR.vp (by omega)), ?_⟩
    refine ⟨by exact hR.1, hR.vp (k := 17) (by omega), ?_⟩
    refine ⟨by exact hR.1, hR.vp (k := 4) (by omega), ?_⟩
    refine ⟨by exact hR.1, (by simp only [wI_M, wI_1, upA_s, upA_uu, tk_0, tk_1, tk_2, tk_3, tk_4, tk_5, tk_6, tk_7, tk_8, tk_9, tk_10, tk_11, tk_12, tk_13, tk_14, tk_15, tk_16, tk_17]; rw [hm, ixa, ck (by omega), pk_un (by omega), hm, ixb]; exact hR.vp (by omega)), ?_⟩
    refine ⟨by exact hR.1, hR.vp (k := 17) (by omega), ?_⟩
    refine ⟨by exact hR.1, hR.vp (k := 17) (by omega), ?_⟩
    refine ⟨⟨Nat.zero_le _, Nat.zero_le _⟩, ?_, ?_⟩
    · unfold rServed
      rw [if_neg (hf ▸ h1), ← hf, hi2, ck (by omega)]
      refine congrArg (fun v => Sum.inl (some (Value.int (M r 4 - M r v)))) ?_
      rw [ixb, ck (by omega)]
    · show (S, _, J) = (S, _, J)
      unfold rServe
      rw [if_neg (hf ▸ h1), ← hf, hi2, ck (by omega)]
      simp only [wI_M, wI_1, upA_s, upA_uu, tk_0, tk_1, tk_2, tk_3, tk_4, tk_5, tk_6, tk_7, tk_8, tk_9, tk_10, tk_11, tk_12, tk_13, tk_14, tk_15, tk_16, tk_17, rDrop_17]
      rw [ixa, ck (by omega), pk_un (by omega), rDrop_17, ixb, ck (by omega), pk_un (by omega), pk_un (by omega), pk_un (by omega), rDrop_17, nI_1]
      unfold rAdd
      rw [rDrop_lo _ (by omega), show n - 1 + 1 = n from by omega]
set_option maxHeartbeats 1000000 in
theorem T_rCanReplace {d : Nat} {S : Sc} {M : Nat → Nat → Int32} {J : Nat → Nat → Int64} {r : Nat} {s : Int32} (hR : RowS S r) : Wp (d + 1) 119 [.ref r, .int s] (S, M, J) (fun rs w' => rs = .inl (some (.int (bI (M r 3 = 1 ∧ ¬ s = M r 7)))) ∧ w' = (S, M, J)) := by
  refine ⟨rfl, ?_⟩
  refine EE.runN (stop := noStop) 80 _ ?_
  refine ⟨by exact hR.1, hR.vp (k := 3) (by omega), ?_⟩
  refine ⟨fun h1 => ?_, fun h1 => ?_⟩
  · simp only [tk_0, tk_1, tk_2, tk_3, tk_4, tk_5, tk_6, tk_7, tk_8, tk_9, tk_10, tk_11, tk_12, tk_13, tk_14, tk_15, tk_16, tk_17] at h1
    refine ⟨⟨Nat.zero_le _, Nat.zero_le _⟩, by decide, ?_, ?_⟩
    · simp [bI, h1]
    · rfl
  · refine ⟨by exact hR.1, hR.vp (k := 7) (by omega), ?_⟩
    refine ⟨fun h2 => ?_, fun h2 => ?_⟩
    · simp only [tk_0, tk_1, tk_2, tk_3, tk_4, tk_5, tk_6, tk_7, tk_8, tk_9, tk_10, tk_11, tk_12, tk_13, tk_14, tk_15, tk_16, tk_17] at h1 h2
      refine ⟨⟨Nat.zero_le _, Nat.zero_le _⟩, by decide, ?_, ?_⟩
      · simp [bI, h1, h2]
      · rfl
    · simp only [tk_0, tk_1, tk_2, tk_3, tk_4, tk_5, tk_6, tk_7, tk_8, tk_9, tk_10, tk_11, tk_12, tk_13, tk_14, tk_15, tk_16, tk_17] at h1 h2
      refine ⟨⟨Nat.zero_le _, Nat.zero_le _⟩, by decide, ?_, ?_⟩
      · simp [bI, h1, h2]
      · rfl
def rRn (ρ : Rw) (s : Nat) : Nat → Rw
  | 0 => ρ
  | k + 1 => upd (upd (rRn ρ s k) (42 + 2 * (3 * s + k)) 0) (43 + 2 * (3 * s + k)) 0
def rRenew (ρ : Rw) (s : Nat) : Rw := rRn ρ s 3
set_option maxHeartbeats 1000000 in
theorem T_rRenew {d : Nat} {S : Sc} {M : Nat → Nat → Int32} {J : Nat → Nat → Int64} {r s : Nat} (hR : RowS S r) (hs : s < 12) : Wp (d + 3) 120 [.ref r, .int (nI s)] (S, M, J) (fun rs w' => rs = .inl (some (.int (rWear (M r) s))) ∧ w' = (S, upA M r (rRenew (M r) s), J)) := by
  have e1 : ∀ k, nI (42 + 2 * (3 * s + k)) + 1 = nI (43 + 2 * (3 * s + k)) := fun k => by rw [nI_1]; congr 1; omega
  refine ⟨rfl, ?_⟩
  refine EE.runN (stop := atPc [8]) 80 _ ?_
  refine ⟨⟨Nat.le_of_ble_eq_true rfl, Nat.le_of_ble_eq_true rfl, Nat.le_of_ble_eq_true rfl⟩, _, T_rWear hR hs, ?_⟩
  rintro _ _ ⟨rfl, rfl⟩
  refine ⟨Or.inl rfl, ?_⟩
  refine ee_at (nt := nzT 120) [(0, .ref r), (1, .int (nI s)), (2, .int (rWear (M r) s)), (3, .int (nI 0))] (S, upA M r (rRn (M r) s 0), J) rfl (by rfl) (by show (S, M, J) = (S, _, J); rw [show rRn (M r) s 0 = M r from rfl, upA_id]) ?_
  refine ee_loop (fun k => (8, [(0, .ref r), (1, .int (nI s)), (2, .int (rWear (M r) s)), (3, .int (nI k))], [], (S, upA M r (rRn (M r) s k), J), 0, 0)) (3) (fun k h_k ih_k => ?_) ?_
  · refine EE.runN (stop := atPc [8]) 80 _ ?_
    refine ⟨fun h1 => ?_, fun h1 => ?_⟩
    · exact absurd h1 (nI_ge (b := 3) h_k (by omega))
    · refine ⟨⟨Nat.le_of_ble_eq_true rfl, Nat.le_of_ble_eq_true rfl, Nat.le_of_ble_eq_true rfl⟩, _, T_at (s := s) (i := k), ?_⟩
      rintro _ _ ⟨rfl, rfl⟩
      refine ⟨Or.inl rfl, ?_⟩
      refine ⟨by exact hR.1, hR.vp (k := 42 + 2 * (3 * s + k)) (by omega), ?_⟩
      refine ⟨⟨Nat.le_of_ble_eq_true rfl, Nat.le_of_ble_eq_true rfl, Nat.le_of_ble_eq_true rfl⟩, _, T_at (s := s) (i := k), ?_⟩
      rintro _ _ ⟨rfl, rfl⟩
      refine ⟨Or.inl rfl, ?_⟩
      refine ⟨by exact hR.1, (by rw [e1]; exact hR.vp (by omega)), ?_⟩
      refine ee_at (nt := nzT 120) [(0, .ref r), (1, .int (nI s)), (2, .int (rWear (M r) s)), (3, .int (nI (k + 1)))] (S, upA M r (rRn (M r) s (k + 1)), J) rfl (by rw [← nI_1 k]; rfl) (by show (S, _, J) = (S, _, J); simp only [wI_M, wI_1, upA_s, upA_uu, tk_0, tk_1, tk_2, tk_3, tk_4, tk_5, tk_6, tk_7, tk_8, tk_9, tk_10, tk_11, tk_12, tk_13, tk_14, tk_15, tk_16, tk_17, e1]; rw [ck (by omega), ck (by omega)]; rfl) ?_
      exact ih_k
  · refine EE.runN (stop := atPc [8]) 80 _ ?_
    refine ⟨fun h2 => ?_, fun h2 => ?_⟩
    · exact ⟨⟨Nat.zero_le _, Nat.zero_le _⟩, rfl, rfl⟩
    · exact absurd (nI_le (Nat.le_refl 3) (by omega)) h2
def rLeast (ρ : Rw) : Nat → Int32
  | 0 => ρ 43
  | k + 1 => if rLeast ρ k ≤ ρ (43 + 2 * k) then rLeast ρ k else ρ (43 + 2 * k)
def rMost (ρ : Rw) : Nat → Int32
  | 0 => ρ 43
  | k + 1 => if ρ (43 + 2 * k) ≤ rMost ρ k then rMost ρ k else ρ (43 + 2 * k)
set_option maxHeartbeats 1000000 in
theorem T_wearApart {d : Nat} {S : Sc} {M : Nat → Nat → Int32} {J : Nat → Nat → Int64} {r n : Nat} (hR : RowS S r) (hn : n ≤ 12) (h0 : M r 0 = nI n) : Wp (d + 1) 110 [.ref r] (S, M, J) (fun rs w' => rs = .inl (some (.int (rMost (M r) (3 * n) - rLeast (M r) (3 * n)))) ∧ w' = (S, M, J)) := by
  have hc : (3 : Int32) * M r 0 = nI (3 * n) := by rw [h0, o_3, pk_mul]
  refine ⟨rfl, ?_⟩
  refine EE.runN (stop := atPc [9]) 80 _ ?_
  refine ⟨by exact hR.1, hR.vp (k := 43) (by omega), ?_⟩
  refine ee_at (nt := nzT 110) [(0, .ref r), (1, .int (rLeast (M r) 0)), (2, .int (rMost (M r) 0)), (3, .int (nI 0))] (S, M, J) rfl (by rfl) (by rfl) ?_
  refine ee_loop (fun k => (9, [(0, .ref r), (1, .int (rLeast (M r) k)), (2, .int (rMost (M r) k)), (3, .int (nI k))], [], (S, M, J), 0, 0)) (3 * n) (fun k h_k ih_k => ?_) ?_
  · refine EE.runN (stop := atPc [9]) 80 _ ?_
    have ix : (42 + 2 * nI k + 1 : Int32) = nI (43 + 2 * k) := by rw [o_42, o_2, pk_mul, nI_add, nI_1]; congr 1; omega
    refine ⟨by exact hR.1, hR.vp (k := 0) (by omega), ?_⟩
    refine ⟨fun h1 => ?_, fun h1 => ?_⟩
    · (simp only [tk_0, hc] at h1; exact absurd h1 (nI_ge h_k (by omega)))
    · refine ⟨by exact hR.1, (by rw [ix]; exact hR.vp (by omega)), ?_⟩
      refine ⟨fun h2 => ?_, fun h2 => ?_⟩
      · refine ⟨fun h3 => ?_, fun h3 => ?_⟩
        · simp only [ix, ck (show 43 + 2 * k < 2147483648 by omega)] at h2 h3
          refine ee_at (nt := nzT 110) [(0, .ref r), (1, .int (rLeast (M r) (k + 1))), (2, .int (rMost (M r) (k + 1))), (3, .int (nI (k + 1)))] (S, M, J) rfl (by rw [rLeast, rMost, if_pos h2, if_pos h3, ← nI_1 k]; show nz _ _ = nz _ _; simp only [ix, ck (show 43 + 2 * k < 2147483648 by omega)]; rfl) (by rfl) ?_
          exact ih_k
        · simp only [ix, ck (show 43 + 2 * k < 2147483648 by omega)] at h2 h3
          refine ee_at (nt := nzT 110) [(0, .ref r), (1, .int (rLeast (M r) (k + 1))), (2, .int (rMost (M r) (k + 1))), (3, .int (nI (k + 1)))] (S, M, J) rfl (by rw [rLeast, rMost, if_pos h2, if_neg h3, ← nI_1 k]; show nz _ _ = nz _ _; simp only [ix, ck (show 43 + 2 * k < 2147483648 by omega)]; rfl) (by rfl) ?_
          exact ih_k
      · refine ⟨fun h4 => ?_, fun h4 => ?_⟩
        · simp only [ix, ck (show 43 + 2 * k < 2147483648 by omega)] at h2 h4
          refine ee_at (nt := nzT 110) [(0, .ref r), (1, .int (rLeast (M r) (k + 1))), (2, .int (rMost (M r) (k + 1))), (3, .int (nI (k + 1)))] (S, M, J) rfl (by rw [rLeast, rMost, if_neg h2, if_pos h4, ← nI_1 k]; show nz _ _ = nz _ _; simp only [ix, ck (show 43 + 2 * k < 2147483648 by omega)]; rfl) (by rfl) ?_
          exact ih_k
        · simp only [ix, ck (show 43 + 2 * k < 2147483648 by omega)] at h2 h4
          refine ee_at (nt := nzT 110) [(0, .ref r), (1, .int (rLeast (M r) (k + 1))), (2, .int (rMost (M r) (k + 1))), (3, .int (nI (k + 1)))] (S, M, J) rfl (by rw [rLeast, rMost, if_neg h2, if_neg h4, ← nI_1 k]; show nz _ _ = nz _ _; simp only [ix, ck (show 43 + 2 * k < 2147483648 by omega)]; rfl) (by rfl) ?_
          exact ih_k
  · refine EE.runN (stop := atPc [9]) 80 _ ?_
    refine ⟨by exact hR.1, hR.vp (k := 0) (by omega), ?_⟩
    refine ⟨fun h5 => ?_, fun h5 => ?_⟩
    · exact ⟨⟨Nat.zero_le _, Nat.zero_le _⟩, rfl, rfl⟩
    · (simp only [tk_0, hc] at h5; exact absurd (nI_le (Nat.le_refl _) (by omega)) h5)
