/-! THE CLASS: power, cuts, services, commands: written by wip/whole/pure3.py -/
/-- the first of the best, told with NONE where all are silent -/
theorem cFo_e {σ : Rw} : ∀ k, (∀ s, s ≤ k → -99999 ≤ rSays σ s) → cGr σ (k + 1) = rSays σ (rBest σ k) ∧ cFo σ (k + 1) = if rSays σ (rBest σ k) = -99999 then -99999 else nI (rBest σ k)
  | 0, h => by
    have h0 := h 0 (by omega)
    rw [cGr, cFo, cGr, cFo, rBest]
    by_cases e : rSays σ 0 ≤ -99999
    · have e2 : rSays σ 0 = -99999 := Int32.le_antisymm e h0
      rw [if_pos e, if_pos e, if_pos e2]
      exact ⟨e2.symm, rfl⟩
    · have e2 : ¬ rSays σ 0 = -99999 := fun h2 => e (h2 ▸ Int32.le_refl _)
      rw [if_neg e, if_neg e, if_neg e2]
      exact ⟨rfl, rfl⟩
  | k + 1, h => by
    obtain ⟨a, b⟩ := cFo_e k (fun s hs => h s (by omega))
    have hk := h (rBest σ k) (by have := rBest_le σ k; omega)
    rw [cGr, cFo, rBest, a, b]
    by_cases e : rSays σ (k + 1) ≤ rSays σ (rBest σ k)
    · rw [if_pos e, if_pos e, if_pos e]
      exact ⟨rfl, rfl⟩
    · have e2 : ¬ rSays σ (k + 1) = -99999 := fun h2 => e (h2 ▸ hk)
      rw [if_neg e, if_neg e, if_neg e, if_neg e2]
      exact ⟨rfl, rfl⟩
theorem cMx_e {σ : Rw} (h : 0 ≤ σ 43) : ∀ k, cMx σ (k + 1) = rMost σ (k + 1)
  | 0 => by
    rw [cMx, rMost, cMx, rMost, if_pos (Int32.le_refl _)]
    by_cases e : 0 < σ (43 + 2 * 0)
    · rw [if_pos e]
    · rw [if_neg e]
      exact (Int32.le_antisymm (Int32.not_lt.mp e) h).symm
  | k + 1 => by
    rw [cMx, rMost, cMx_e h k]
    by_cases e : rMost σ (k + 1) < σ (43 + 2 * (k + 1))
    · rw [if_pos e, if_neg (Int32.not_le.mpr e)]
    · rw [if_neg e, if_pos (Int32.not_lt.mp e)]
theorem cMn_e {σ : Rw} (h : σ 43 ≤ 999) : ∀ k, cMn σ (k + 1) = rLeast σ (k + 1)
  | 0 => by
    rw [cMn, rLeast, cMn, rLeast, if_pos (Int32.le_refl _)]
    by_cases e : σ (43 + 2 * 0) < 999
    · rw [if_pos e]
    · rw [if_neg e]
      exact (Int32.le_antisymm h (Int32.not_lt.mp e)).symm
  | k + 1 => by
    rw [cMn, rLeast, cMn_e h k]
    by_cases e : σ (43 + 2 * (k + 1)) < rLeast σ (k + 1)
    · rw [if_pos e, if_neg (Int32.not_le.mpr e)]
    · rw [if_neg e, if_pos (Int32.not_lt.mp e)]
def rGap (ρ : Rw) (n : Nat) : Int32 := rMost ρ (3 * n) - rLeast ρ (3 * n)
theorem gap_e {σ : Rw} {B n : Nat} (h : Cel B σ) (hn : 0 < n) : cMx σ (3 * n) - cMn σ (3 * n) = rGap σ n := by
  obtain ⟨m, hm, e⟩ := h.2.1 0 (by omega)
  have e : σ 43 = nI m := e
  have a : 0 ≤ σ 43 := by rw [e]; exact nI_pos' (by omega)
  have b : σ 43 ≤ 999 := by rw [e]; exact nI_le (b := 999) (by omega) (by omega)
  unfold rGap
  rw [show 3 * n = 3 * n - 1 + 1 by omega, cMx_e a, cMn_e b]
theorem rSays_7 (ρ : Rw) (x : Int32) (s : Nat) : rSays (upd ρ 7 x) s = rSays ρ s := by
  unfold rSays
  rw [pk_un (show 42 + 2 * (3 * s + 0) ≠ 7 by omega), pk_un (show 42 + 2 * (3 * s + 1) ≠ 7 by omega), pk_un (show 42 + 2 * (3 * s + 2) ≠ 7 by omega)]
theorem bok3 {ρ : Rw} (h : Bok ρ) : (ρ 3 = 1 ↔ ¬ ρ 3 = 0) := ⟨fun h => by rw [h]; decide, fun h2 => h.1.resolve_left h2⟩
set_option maxHeartbeats 1000000 in
theorem T_switchOn {d : Nat} {S : Sc} {M : Nat → Nat → Int32} {J : Nat → Nat → Int64} {b : Nat} {σ : Rw} (hS : OdS S b) {B : Nat} (hI : Inv B σ) (hB : B < 1073741824) : Wp (d + 4) 30 [.ref b] (S, sO M b σ, J) (fun rs w' => rs = .inl (some (.int (rPower σ 4))) ∧ w' = (S, sO M b (rPower σ), J)) := by
  obtain ⟨⟨k0, k1, k2, k3, k4, k5, k6⟩, ⟨r0, r1, r12, r13, r41, r42⟩, l2, l3, l5, l6⟩ := id hS
  obtain ⟨⟨n, cur, h3_, hn, hc, h0, h7⟩, _, _, hC, _⟩ := hI
  have hbl := rBest_le σ (n - 1)
  have hfo : cFo σ n = if rSays σ (rBest σ (n - 1)) = -99999 then -99999 else nI (rBest σ (n - 1)) := by
    have := (cFo_e (σ := σ) (n - 1) (fun s hs => (rSays_C hC (by omega)).ge hB)).2
    rw [show n - 1 + 1 = n by omega] at this
    exact this
  refine ⟨rfl, ?_⟩
  refine EE.runN (stop := noStop) 100 _ ?_
  refine ⟨by simp only [wI_1, r0, r1, r12, r13, r41, r42, k0, k1, k2, k3, k4, k5, k6] <;> first | rfl | decide, ?_⟩
  refine ⟨⟨Nat.le_of_ble_eq_true rfl, Nat.le_of_ble_eq_true rfl, Nat.le_of_ble_eq_true rfl⟩, by simp only [wI_1, r0, r1, r12, r13, r41, r42, k0, k1, k2, k3, k4, k5, k6] <;> first | rfl | decide, _, T_slotOfGreatest hS r0 h0 hn, ?_⟩
  rintro _ _ ⟨rfl, rfl⟩
  rw [hfo]
  refine ⟨Or.inl rfl, ?_⟩
  refine ⟨fun h1 => ?_, fun h1 => ?_⟩
  · have g1 : ¬ rSays σ (rBest σ (n - 1)) = -99999 := fun h => h1 (if_pos h)
    refine ⟨by simp only [wI_1, r0, r1, r12, r13, r41, r42, k0, k1, k2, k3, k4, k5, k6] <;> first | rfl | decide, trivial, ?_⟩
    refine ⟨fun h2 => ?_, fun h2 => ?_⟩
    · refine ⟨by simp only [wI_1, r0, r1, r12, r13, r41, r42, k0, k1, k2, k3, k4, k5, k6] <;> first | rfl | decide, ?_⟩
      refine ⟨⟨Nat.le_of_ble_eq_true rfl, Nat.le_of_ble_eq_true rfl, Nat.le_of_ble_eq_true rfl⟩, by simp only [wI_1, r0, r1, r12, r13, r41, r42, k0, k1, k2, k3, k4, k5, k6] <;> first | rfl | decide, _, by simp only [if_neg g1, wI_M, tk_0, tk_1, tk_2, tk_3, tk_4, tk_5, tk_6, tk_7, tk_8, tk_9, tk_10, tk_11, tk_12, tk_13, tk_14, tk_15, tk_16, tk_17, rd0_2, wr0_2, rd0_3, wr0_3, rd0_4, wr0_4, rd0_5, wr0_5, rd0_6, wr0_6, rd0_7, wr0_7, rd0_8, wr0_8, rd0_9, wr0_9, rd0_10, wr0_10, rd0_11, wr0_11, rd0_12, wr0_12, rd0_13, wr0_13, rd0_14, wr0_14, rd0_15, wr0_15, rd0_16, wr0_16, rd1_0, wr1_0, rd1_1, wr1_1, rd4_0, wr4_0, wI_1, r0, r1, r12, r13, r41, r42, wI_w]; exact T_spokenBy hS rfl (by omega), ?_⟩
      rintro _ _ ⟨rfl, rfl⟩
      refine ⟨Or.inl rfl, ?_⟩
      refine ⟨by simp only [wI_1, r0, r1, r12, r13, r41, r42, k0, k1, k2, k3, k4, k5, k6] <;> first | rfl | decide, trivial, ?_⟩
      refine ⟨by simp only [wI_1, r0, r1, r12, r13, r41, r42, k0, k1, k2, k3, k4, k5, k6] <;> first | rfl | decide, ?_⟩
      refine ⟨by simp only [wI_1, r0, r1, r12, r13, r41, r42, k0, k1, k2, k3, k4, k5, k6] <;> first | rfl | decide, trivial, ?_⟩
      refine ⟨by simp only [wI_1, r0, r1, r12, r13, r41, r42, k0, k1, k2, k3, k4, k5, k6] <;> first | rfl | decide, by first | exact Or.inl rfl | exact Or.inr rfl | simp only [wI_1, r0, r1, r12, r13, r41, r42, k0, k1, k2, k3, k4, k5, k6] <;> first | rfl | decide, ?_⟩
      refine ⟨by simp only [wI_1, r0, r1, r12, r13, r41, r42, k0, k1, k2, k3, k4, k5, k6] <;> first | rfl | decide, by first | exact Or.inl rfl | exact Or.inr rfl | simp only [wI_1, r0, r1, r12, r13, r41, r42, k0, k1, k2, k3, k4, k5, k6] <;> first | rfl | decide, ?_⟩
      refine ⟨by simp only [wI_1, r0, r1, r12, r13, r41, r42, k0, k1, k2, k3, k4, k5, k6] <;> first | rfl | decide, ?_⟩
      refine ⟨⟨Nat.zero_le _, Nat.zero_le _⟩, ?_, ?_⟩
      · refine congrArg (fun v => Sum.inl (some (Value.int v))) ?_
        simp only [wI_M, tk_0, tk_1, tk_2, tk_3, tk_4, tk_5, tk_6, tk_7, tk_8, tk_9, tk_10, tk_11, tk_12, tk_13, tk_14, tk_15, tk_16, tk_17, rd0_2, wr0_2, rd0_3, wr0_3, rd0_4, wr0_4, rd0_5, wr0_5, rd0_6, wr0_6, rd0_7, wr0_7, rd0_8, wr0_8, rd0_9, wr0_9, rd0_10, wr0_10, rd0_11, wr0_11, rd0_12, wr0_12, rd0_13, wr0_13, rd0_14, wr0_14, rd0_15, wr0_15, rd0_16, wr0_16, rd1_0, wr1_0, rd1_1, wr1_1, rd4_0, wr4_0, wI_1, r0, r1, r12, r13, r41, r42, wI_w, rSays_7]
        unfold rPower rPow
        rw [h0, ck (by omega)]
        first | rw [if_neg g1, if_neg g1] | rw [if_pos g1, if_pos g1] | skip
        rfl
      · show (S, _, J) = (S, _, J)
        simp only [wI_M, tk_0, tk_1, tk_2, tk_3, tk_4, tk_5, tk_6, tk_7, tk_8, tk_9, tk_10, tk_11, tk_12, tk_13, tk_14, tk_15, tk_16, tk_17, rd0_2, wr0_2, rd0_3, wr0_3, rd0_4, wr0_4, rd0_5, wr0_5, rd0_6, wr0_6, rd0_7, wr0_7, rd0_8, wr0_8, rd0_9, wr0_9, rd0_10, wr0_10, rd0_11, wr0_11, rd0_12, wr0_12, rd0_13, wr0_13, rd0_14, wr0_14, rd0_15, wr0_15, rd0_16, wr0_16, rd1_0, wr1_0, rd1_1, wr1_1, rd4_0, wr4_0, wI_1, r0, r1, r12, r13, r41, r42, wI_w, rSays_7]
        refine congrArg (fun m => (S, sO M b m, J)) ?_
        unfold rPower rPow
        rw [h0, ck (by omega)]
        first | rw [if_neg g1, if_neg g1] | rw [if_pos g1, if_pos g1]
        exact upd_cm _ _ _ (by omega)
    · first | exact absurd h2 h1 | exact absurd h1 h2
  · have g1 : rSays σ (rBest σ (n - 1)) = -99999 := Classical.byContradiction (fun h => absurd ((if_neg h).symm.trans h1) (nN (by omega)))
    refine ⟨by simp only [wI_1, r0, r1, r12, r13, r41, r42, k0, k1, k2, k3, k4, k5, k6] <;> first | rfl | decide, trivial, ?_⟩
    refine ⟨fun h3 => ?_, fun h3 => ?_⟩
    · first | exact absurd h3 h1 | exact absurd h1 h3
    · refine ⟨by simp only [wI_1, r0, r1, r12, r13, r41, r42, k0, k1, k2, k3, k4, k5, k6] <;> first | rfl | decide, trivial, ?_⟩
      refine ⟨by simp only [wI_1, r0, r1, r12, r13, r41, r42, k0, k1, k2, k3, k4, k5, k6] <;> first | rfl | decide, ?_⟩
      refine ⟨by simp only [wI_1, r0, r1, r12, r13, r41, r42, k0, k1, k2, k3, k4, k5, k6] <;> first | rfl | decide, trivial, ?_⟩
      refine ⟨by simp only [wI_1, r0, r1, r12, r13, r41, r42, k0, k1, k2, k3, k4, k5, k6] <;> first | rfl | decide, by first | exact Or.inl rfl | exact Or.inr rfl | simp only [wI_1, r0, r1, r12, r13, r41, r42, k0, k1, k2, k3, k4, k5, k6] <;> first | rfl | decide, ?_⟩
      refine ⟨by simp only [wI_1, r0, r1, r12, r13, r41, r42, k0, k1, k2, k3, k4, k5, k6] <;> first | rfl | decide, by first | exact Or.inl rfl | exact Or.inr rfl | simp only [wI_1, r0, r1, r12, r13, r41, r42, k0, k1, k2, k3, k4, k5, k6] <;> first | rfl | decide, ?_⟩
      refine ⟨by simp only [wI_1, r0, r1, r12, r13, r41, r42, k0, k1, k2, k3, k4, k5, k6] <;> first | rfl | decide, ?_⟩
      refine ⟨⟨Nat.zero_le _, Nat.zero_le _⟩, ?_, ?_⟩
      · refine congrArg (fun v => Sum.inl (some (Value.int v))) ?_
        simp only [wI_M, tk_0, tk_1, tk_2, tk_3, tk_4, tk_5, tk_6, tk_7, tk_8, tk_9, tk_10, tk_11, tk_12, tk_13, tk_14, tk_15, tk_16, tk_17, rd0_2, wr0_2, rd0_3, wr0_3, rd0_4, wr0_4, rd0_5, wr0_5, rd0_6, wr0_6, rd0_7, wr0_7, rd0_8, wr0_8, rd0_9, wr0_9, rd0_10, wr0_10, rd0_11, wr0_11, rd0_12, wr0_12, rd0_13, wr0_13, rd0_14, wr0_14, rd0_15, wr0_15, rd0_16, wr0_16, rd1_0, wr1_0, rd1_1, wr1_1, rd4_0, wr4_0, wI_1, r0, r1, r12, r13, r41, r42, wI_w, rSays_7]
        unfold rPower rPow
        rw [h0, ck (by omega)]
        first | rw [if_neg g1, if_neg g1] | rw [if_pos g1, if_pos g1] | skip
        rfl
      · show (S, _, J) = (S, _, J)
        simp only [wI_M, tk_0, tk_1, tk_2, tk_3, tk_4, tk_5, tk_6, tk_7, tk_8, tk_9, tk_10, tk_11, tk_12, tk_13, tk_14, tk_15, tk_16, tk_17, rd0_2, wr0_2, rd0_3, wr0_3, rd0_4, wr0_4, rd0_5, wr0_5, rd0_6, wr0_6, rd0_7, wr0_7, rd0_8, wr0_8, rd0_9, wr0_9, rd0_10, wr0_10, rd0_11, wr0_11, rd0_12, wr0_12, rd0_13, wr0_13, rd0_14, wr0_14, rd0_15, wr0_15, rd0_16, wr0_16, rd1_0, wr1_0, rd1_1, wr1_1, rd4_0, wr4_0, wI_1, r0, r1, r12, r13, r41, r42, wI_w, rSays_7]
        refine congrArg (fun m => (S, sO M b m, J)) ?_
        unfold rPower rPow
        rw [h0, ck (by omega)]
        first | rw [if_neg g1, if_neg g1] | rw [if_pos g1, if_pos g1]
        exact upd_cm _ _ _ (by omega)
set_option maxHeartbeats 1000000 in
theorem T_setCut {d : Nat} {S : Sc} {M : Nat → Nat → Int32} {J : Nat → Nat → Int64} {b : Nat} {σ : Rw} (hS : OdS S b) {q k : Int32} : Wp (d + 1) 31 [.ref b, .int q, .int k] (S, sO M b σ, J) (fun rs w' => rs = .inl (some (.int (σ 10))) ∧ w' = (S, sO M b (upd (upd σ 10 q) 11 k), J)) := by
  obtain ⟨⟨k0, k1, k2, k3, k4, k5, k6⟩, ⟨r0, r1, r12, r13, r41, r42⟩, l2, l3, l5, l6⟩ := id hS
  refine ⟨rfl, ?_⟩
  refine EE.runN (stop := noStop) 100 _ ?_
  refine ⟨by simp only [wI_1, r0, r1, r12, r13, r41, r42, k0, k1, k2, k3, k4, k5, k6] <;> first | rfl | decide, ?_⟩
  refine ⟨by simp only [wI_1, r0, r1, r12, r13, r41, r42, k0, k1, k2, k3, k4, k5, k6] <;> first | rfl | decide, trivial, ?_⟩
  refine ⟨by simp only [wI_1, r0, r1, r12, r13, r41, r42, k0, k1, k2, k3, k4, k5, k6] <;> first | rfl | decide, trivial, ?_⟩
  refine ⟨⟨Nat.zero_le _, Nat.zero_le _⟩, ?_, ?_⟩
  · simp only [wI_M, tk_0, tk_1, tk_2, tk_3, tk_4, tk_5, tk_6, tk_7, tk_8, tk_9, tk_10, tk_11, tk_12, tk_13, tk_14, tk_15, tk_16, tk_17, rd0_2, wr0_2, rd0_3, wr0_3, rd0_4, wr0_4, rd0_5, wr0_5, rd0_6, wr0_6, rd0_7, wr0_7, rd0_8, wr0_8, rd0_9, wr0_9, rd0_10, wr0_10, rd0_11, wr0_11, rd0_12, wr0_12, rd0_13, wr0_13, rd0_14, wr0_14, rd0_15, wr0_15, rd0_16, wr0_16, rd1_0, wr1_0, rd1_1, wr1_1, rd4_0, wr4_0, wI_1, r0, r1, r12, r13, r41, r42, wI_w]
  · show (S, _, J) = (S, _, J)
    simp only [wI_M, tk_0, tk_1, tk_2, tk_3, tk_4, tk_5, tk_6, tk_7, tk_8, tk_9, tk_10, tk_11, tk_12, tk_13, tk_14, tk_15, tk_16, tk_17, rd0_2, wr0_2, rd0_3, wr0_3, rd0_4, wr0_4, rd0_5, wr0_5, rd0_6, wr0_6, rd0_7, wr0_7, rd0_8, wr0_8, rd0_9, wr0_9, rd0_10, wr0_10, rd0_11, wr0_11, rd0_12, wr0_12, rd0_13, wr0_13, rd0_14, wr0_14, rd0_15, wr0_15, rd0_16, wr0_16, rd1_0, wr1_0, rd1_1, wr1_1, rd4_0, wr4_0, wI_1, r0, r1, r12, r13, r41, r42, wI_w]
set_option maxHeartbeats 1000000 in
theorem T_canReplace {d : Nat} {S : Sc} {M : Nat → Nat → Int32} {J : Nat → Nat → Int64} {b : Nat} {σ : Rw} (hS : OdS S b) {x : Int32} : Wp (d + 2) 33 [.ref b, .int x] (S, sO M b σ, J) (fun rs w' => rs = .inl (some (.int (bI (¬ σ 3 = 0 ∧ (¬ x < 0 ∧ ¬ σ 0 ≤ x) ∧ ¬ x = σ 7)))) ∧ w' = (S, sO M b (σ), J)) := by
  obtain ⟨⟨k0, k1, k2, k3, k4, k5, k6⟩, ⟨r0, r1, r12, r13, r41, r42⟩, l2, l3, l5, l6⟩ := id hS
  refine ⟨rfl, ?_⟩
  refine EE.runN (stop := noStop) 100 _ ?_
  refine ⟨by simp only [wI_1, r0, r1, r12, r13, r41, r42, k0, k1, k2, k3, k4, k5, k6] <;> first | rfl | decide, ?_⟩
  refine ⟨fun h1 => ?_, fun h1 => ?_⟩
  · simp only [wI_M, tk_0, tk_1, tk_2, tk_3, tk_4, tk_5, tk_6, tk_7, tk_8, tk_9, tk_10, tk_11, tk_12, tk_13, tk_14, tk_15, tk_16, tk_17, rd0_2, wr0_2, rd0_3, wr0_3, rd0_4, wr0_4, rd0_5, wr0_5, rd0_6, wr0_6, rd0_7, wr0_7, rd0_8, wr0_8, rd0_9, wr0_9, rd0_10, wr0_10, rd0_11, wr0_11, rd0_12, wr0_12, rd0_13, wr0_13, rd0_14, wr0_14, rd0_15, wr0_15, rd0_16, wr0_16, rd1_0, wr1_0, rd1_1, wr1_1, rd4_0, wr4_0, wI_1, r0, r1, r12, r13, r41, r42, wI_w, bI_e0, Classical.not_not] at h1
    refine ⟨⟨Nat.zero_le _, Nat.zero_le _⟩, by decide, ?_, ?_⟩
    · simp [-Int32.not_le, -Int32.not_lt, bI, h1]
    · rfl
  · refine ⟨by simp only [wI_1, r0, r1, r12, r13, r41, r42, k0, k1, k2, k3, k4, k5, k6] <;> first | rfl | decide, ?_⟩
    refine ⟨⟨Nat.le_of_ble_eq_true rfl, Nat.le_of_ble_eq_true rfl, Nat.le_of_ble_eq_true rfl⟩, by simp only [wI_1, r0, r1, r12, r13, r41, r42, k0, k1, k2, k3, k4, k5, k6] <;> first | rfl | decide, _, T_hasSlot hS r0, ?_⟩
    rintro _ _ ⟨rfl, rfl⟩
    refine ⟨Or.inl rfl, ?_⟩
    refine ⟨fun h2 => ?_, fun h2 => ?_⟩
    · simp only [wI_M, tk_0, tk_1, tk_2, tk_3, tk_4, tk_5, tk_6, tk_7, tk_8, tk_9, tk_10, tk_11, tk_12, tk_13, tk_14, tk_15, tk_16, tk_17, rd0_2, wr0_2, rd0_3, wr0_3, rd0_4, wr0_4, rd0_5, wr0_5, rd0_6, wr0_6, rd0_7, wr0_7, rd0_8, wr0_8, rd0_9, wr0_9, rd0_10, wr0_10, rd0_11, wr0_11, rd0_12, wr0_12, rd0_13, wr0_13, rd0_14, wr0_14, rd0_15, wr0_15, rd0_16, wr0_16, rd1_0, wr1_0, rd1_1, wr1_1, rd4_0, wr4_0, wI_1, r0, r1, r12, r13, r41, r42, wI_w, bI_e0, Classical.not_not] at h1 h2
      refine ⟨⟨Nat.zero_le _, Nat.zero_le _⟩, by decide, ?_, ?_⟩
      · simp [-Int32.not_le, -Int32.not_lt, bI, h1, h2]
      · rfl
    · refine ⟨by simp only [wI_1, r0, r1, r12, r13, r41, r42, k0, k1, k2, k3, k4, k5, k6] <;> first | rfl | decide, ?_⟩
      refine ⟨fun h3 => ?_, fun h3 => ?_⟩
      · simp only [wI_M, tk_0, tk_1, tk_2, tk_3, tk_4, tk_5, tk_6, tk_7, tk_8, tk_9, tk_10, tk_11, tk_12, tk_13, tk_14, tk_15, tk_16, tk_17, rd0_2, wr0_2, rd0_3, wr0_3, rd0_4, wr0_4, rd0_5, wr0_5, rd0_6, wr0_6, rd0_7, wr0_7, rd0_8, wr0_8, rd0_9, wr0_9, rd0_10, wr0_10, rd0_11, wr0_11, rd0_12, wr0_12, rd0_13, wr0_13, rd0_14, wr0_14, rd0_15, wr0_15, rd0_16, wr0_16, rd1_0, wr1_0, rd1_1, wr1_1, rd4_0, wr4_0, wI_1, r0, r1, r12, r13, r41, r42, wI_w, bI_e0, Classical.not_not] at h1 h2 h3
        refine ⟨⟨Nat.zero_le _, Nat.zero_le _⟩, by decide, ?_, ?_⟩
        · simp [-Int32.not_le, -Int32.not_lt, bI, h1, h2, h3]
        · rfl
      · simp only [wI_M, tk_0, tk_1, tk_2, tk_3, tk_4, tk_5, tk_6, tk_7, tk_8, tk_9, tk_10, tk_11, tk_12, tk_13, tk_14, tk_15, tk_16, tk_17, rd0_2, wr0_2, rd0_3, wr0_3, rd0_4, wr0_4, rd0_5, wr0_5, rd0_6, wr0_6, rd0_7, wr0_7, rd0_8, wr0_8, rd0_9, wr0_9, rd0_10, wr0_10, rd0_11, wr0_11, rd0_12, wr0_12, rd0_13, wr0_13, rd0_14, wr0_14, rd0_15, wr0_15, rd0_16, wr0_16, rd1_0, wr1_0, rd1_1, wr1_1, rd4_0, wr4_0, wI_1, r0, r1, r12, r13, r41, r42, wI_w, bI_e0, Classical.not_not] at h1 h2 h3
        refine ⟨⟨Nat.zero_le _, Nat.zero_le _⟩, by decide, ?_, ?_⟩
        · simp [-Int32.not_le, -Int32.not_lt, bI, h1, h2, h3]
        · rfl
set_option maxHeartbeats 1000000 in
theorem T_noteService {d : Nat} {S : Sc} {M : Nat → Nat → Int32} {J : Nat → Nat → Int64} {b : Nat} {σ : Rw} (hS : OdS S b) {n : Nat} {x y : Int32} (hn : n ≤ 12) (h17 : σ 17 = nI n) (hD : Dst σ n) (hr : n < 12 ∨ ¬ rFnd σ (10 * x + y) n = -99999) : Wp (d + 3) 32 [.ref b, .int x, .int y] (S, sO M b σ, J) (fun rs w' => rs = .inl (some (.int (rServed σ (10 * x + y) n))) ∧ w' = (S, sO M b (rServe σ (10 * x + y) n), J)) := by
  obtain ⟨⟨k0, k1, k2, k3, k4, k5, k6⟩, ⟨r0, r1, r12, r13, r41, r42⟩, l2, l3, l5, l6⟩ := id hS
  have hh : ∃ f, f = rFnd σ (10 * x + y) n := ⟨_, rfl⟩
  obtain ⟨f, hf⟩ := hh
  refine ⟨rfl, ?_⟩
  refine EE.runN (stop := noStop) 100 _ ?_
  refine ⟨by simp only [wI_1, r0, r1, r12, r13, r41, r42, k0, k1, k2, k3, k4, k5, k6] <;> first | rfl | decide, ?_⟩
  refine ⟨⟨Nat.le_of_ble_eq_true rfl, Nat.le_of_ble_eq_true rfl, Nat.le_of_ble_eq_true rfl⟩, by simp only [wI_1, r0, r1, r12, r13, r41, r42, k0, k1, k2, k3, k4, k5, k6] <;> first | rfl | decide, _, T_placeOf hS r1 hn h17 hD, ?_⟩
  rintro _ _ ⟨rfl, rfl⟩
  rw [← hf]
  refine ⟨Or.inl rfl, ?_⟩
  refine ⟨fun h1 => ?_, fun h1 => ?_⟩
  · have hi0 := rFnd_or σ (10 * x + y) n
    rw [← hf] at hi0
    obtain ⟨i, hi, hi2⟩ := hi0.resolve_left h1
    have hm : rDrop σ i n 17 = nI (n - 1) := rDrop_17 σ
    have hlt : n - 1 < 12 := by omega
    refine ⟨by simp only [wI_1, r0, r1, r12, r13, r41, r42, k0, k1, k2, k3, k4, k5, k6] <;> first | rfl | decide, ?_⟩
    refine ⟨by simp only [wI_1, r0, r1, r12, r13, r41, r42, k0, k1, k2, k3, k4, k5, k6] <;> first | rfl | decide, ?_⟩
    refine ⟨⟨Nat.le_of_ble_eq_true rfl, Nat.le_of_ble_eq_true rfl, Nat.le_of_ble_eq_true rfl⟩, by simp only [wI_1, r0, r1, r12, r13, r41, r42, k0, k1, k2, k3, k4, k5, k6] <;> first | rfl | decide, _, by rw [hi2]; exact T_takeOut hS r1 hi hn h17, ?_⟩
    rintro _ _ ⟨rfl, rfl⟩
    refine ⟨Or.inl rfl, ?_⟩
    refine ⟨by simp only [wI_1, r0, r1, r12, r13, r41, r42, k0, k1, k2, k3, k4, k5, k6] <;> first | rfl | decide, ?_⟩
    refine ⟨by simp only [wI_1, r0, r1, r12, r13, r41, r42, k0, k1, k2, k3, k4, k5, k6] <;> first | rfl | decide, ?_⟩
    refine ⟨⟨Nat.le_of_ble_eq_true rfl, Nat.le_of_ble_eq_true rfl, Nat.le_of_ble_eq_true rfl⟩, by simp only [wI_1, r0, r1, r12, r13, r41, r42, k0, k1, k2, k3, k4, k5, k6] <;> first | rfl | decide, _, T_addLast hS r1 hlt hm, ?_⟩
    rintro _ _ ⟨rfl, rfl⟩
    refine ⟨Or.inl rfl, ?_⟩
    refine ⟨⟨Nat.zero_le _, Nat.zero_le _⟩, ?_, ?_⟩
    · unfold rServed
      rw [if_neg (hf ▸ h1), ← hf, hi2, ck (by omega)]
      simp only [wI_M, tk_0, tk_1, tk_2, tk_3, tk_4, tk_5, tk_6, tk_7, tk_8, tk_9, tk_10, tk_11, tk_12, tk_13, tk_14, tk_15, tk_16, tk_17, rd0_2, wr0_2, rd0_3, wr0_3, rd0_4, wr0_4, rd0_5, wr0_5, rd0_6, wr0_6, rd0_7, wr0_7, rd0_8, wr0_8, rd0_9, wr0_9, rd0_10, wr0_10, rd0_11, wr0_11, rd0_12, wr0_12, rd0_13, wr0_13, rd0_14, wr0_14, rd0_15, wr0_15, rd0_16, wr0_16, rd1_0, wr1_0, rd1_1, wr1_1, rd4_0, wr4_0, wI_1, r0, r1, r12, r13, r41, r42, wI_w]
    · unfold rServe
      rw [if_neg (hf ▸ h1), ← hf, hi2, ck (by omega)]
      simp only [wI_M, tk_0, tk_1, tk_2, tk_3, tk_4, tk_5, tk_6, tk_7, tk_8, tk_9, tk_10, tk_11, tk_12, tk_13, tk_14, tk_15, tk_16, tk_17, rd0_2, wr0_2, rd0_3, wr0_3, rd0_4, wr0_4, rd0_5, wr0_5, rd0_6, wr0_6, rd0_7, wr0_7, rd0_8, wr0_8, rd0_9, wr0_9, rd0_10, wr0_10, rd0_11, wr0_11, rd0_12, wr0_12, rd0_13, wr0_13, rd0_14, wr0_14, rd0_15, wr0_15, rd0_16, wr0_16, rd1_0, wr1_0, rd1_1, wr1_1, rd4_0, wr4_0, wI_1, r0, r1, r12, r13, r41, r42, wI_w]
      rfl
  · have hm : σ 17 = nI n := h17
    have hlt : n < 12 := hr.resolve_right (fun h => h (hf ▸ h1))
    refine ⟨by simp only [wI_1, r0, r1, r12, r13, r41, r42, k0, k1, k2, k3, k4, k5, k6] <;> first | rfl | decide, ?_⟩
    refine ⟨by simp only [wI_1, r0, r1, r12, r13, r41, r42, k0, k1, k2, k3, k4, k5, k6] <;> first | rfl | decide, ?_⟩
    refine ⟨⟨Nat.le_of_ble_eq_true rfl, Nat.le_of_ble_eq_true rfl, Nat.le_of_ble_eq_true rfl⟩, by simp only [wI_1, r0, r1, r12, r13, r41, r42, k0, k1, k2, k3, k4, k5, k6] <;> first | rfl | decide, _, T_addLast hS r1 hlt hm, ?_⟩
    rintro _ _ ⟨rfl, rfl⟩
    refine ⟨Or.inl rfl, ?_⟩
    refine ⟨⟨Nat.zero_le _, Nat.zero_le _⟩, ?_, ?_⟩
    · unfold rServed
      rw [if_pos (hf ▸ h1)]
    · unfold rServe
      rw [if_pos (hf ▸ h1)]
      simp only [wI_M, tk_0, tk_1, tk_2, tk_3, tk_4, tk_5, tk_6, tk_7, tk_8, tk_9, tk_10, tk_11, tk_12, tk_13, tk_14, tk_15, tk_16, tk_17, rd0_2, wr0_2, rd0_3, wr0_3, rd0_4, wr0_4, rd0_5, wr0_5, rd0_6, wr0_6, rd0_7, wr0_7, rd0_8, wr0_8, rd0_9, wr0_9, rd0_10, wr0_10, rd0_11, wr0_11, rd0_12, wr0_12, rd0_13, wr0_13, rd0_14, wr0_14, rd0_15, wr0_15, rd0_16, wr0_16, rd1_0, wr1_0, rd1_1, wr1_1, rd4_0, wr4_0, wI_1, r0, r1, r12, r13, r41, r42, wI_w]
      rfl
