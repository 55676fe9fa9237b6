/-! THE CLASS: storing, driving: written by wip/whole/pure3.py -/
set_option maxHeartbeats 4000000 in
theorem L_cStore {d : Nat} {Q : Res → Wd → Prop} {S : Sc} {M : Nat → Nat → Int32} {J : Nat → Nat → Int64} {b n cur : Nat} (hS : OdS S b) (hn3 : 3 ≤ n) (hn : n ≤ 12) (hcur : cur < n) : ∀ (f vain : Nat) (σ : Rw), vain + f + 1 = n → σ 0 = nI n → σ 7 = nI cur → σ 3 = 1 → σ 12 = 0 → Kok σ → Q (.inl none) (S, sO M b (rSt n cur f vain σ), J) → EE (SJ (d + 4) 26 (Wp (d + 3)) Q) (7, [(0, .ref b), (1, .int (nI ((cur + vain) % n))), (2, .int (nI vain))], [], (S, sO M b σ, J), 0, 0) := by
  intro f
  obtain ⟨⟨k0, k1, k2, k3, k4, k5, k6⟩, ⟨r0, r1, r12, r13, r41, r42⟩, l2, l3, l5, l6⟩ := id hS
  induction f with
  | zero =>
    intro vain σ hf z0 z7 z3 z12 hK hQ
    have hn1 : nI n - 1 = nI (n - 1) := by rw [show (1 : Int32) = nI 1 from rfl, pk_sub (by omega)]
    refine EE.runN (stop := atPc [7]) 80 _ ?_
    refine ⟨by simp only [wI_1, r0, r1, r12, r13, r41, r42, k0, k1, k2, k3, k4, k5, k6] <;> first | rfl | decide, ?_⟩
    refine ⟨by simp only [wI_1, r0, r1, r12, r13, r41, r42, k0, k1, k2, k3, k4, k5, k6] <;> first | rfl | decide, ?_⟩
    refine ⟨fun h1 => ?_, fun h1 => ?_⟩
    · refine ⟨by simp only [wI_1, r0, r1, r12, r13, r41, r42, k0, k1, k2, k3, k4, k5, k6] <;> first | rfl | decide, by first | exact Or.inl rfl | exact Or.inr rfl | simp only [wI_1, r0, r1, r12, r13, r41, r42, k0, k1, k2, k3, k4, k5, k6] <;> first | rfl | decide, ?_⟩
      refine ⟨⟨Nat.zero_le _, Nat.zero_le _⟩, ?_⟩
      show Q (.inl none) (S, _, J)
      simp only [wI_M, tk_0, tk_1, tk_2, tk_3, tk_4, tk_5, tk_6, tk_7, tk_8, tk_9, tk_10, tk_11, tk_12, tk_13, tk_14, tk_15, tk_16, tk_17, rd0_2, wr0_2, rd0_3, wr0_3, rd0_4, wr0_4, rd0_5, wr0_5, rd0_6, wr0_6, rd0_7, wr0_7, rd0_8, wr0_8, rd0_9, wr0_9, rd0_10, wr0_10, rd0_11, wr0_11, rd0_12, wr0_12, rd0_13, wr0_13, rd0_14, wr0_14, rd0_15, wr0_15, rd0_16, wr0_16, rd1_0, wr1_0, rd1_1, wr1_1, rd4_0, wr4_0, wI_1, r0, r1, r12, r13, r41, r42, wI_w]
      exact hQ
    · (have h_ := h1; simp only [wI_1, r0, r1, r12, r13, r41, r42, rd1_0, z0, hn1] at h_; exact absurd (nI_le (show n - 1 ≤ vain by omega) (by omega)) h_)
  | succ f ih =>
    intro vain σ hf z0 z7 z3 z12 hK hQ
    have hn1 : nI n - 1 = nI (n - 1) := by rw [show (1 : Int32) = nI 1 from rfl, pk_sub (by omega)]
    have hm : (cur + vain) % n < n := Nat.mod_lt _ (by omega)
    have hs' : (cur + 1 + vain) % n < 12 := Nat.lt_of_lt_of_le (Nat.mod_lt _ (by omega)) hn
    have hsl : (if (cur + vain) % n + 1 < n then (cur + vain) % n + 1 else 0) = (cur + 1 + vain) % n := by
      rw [show cur + 1 + vain = cur + vain + 1 by omega, Nat.add_mod (cur + vain) 1 n, Nat.mod_eq_of_lt (show 1 < n by omega)]
      split
      · rename_i hlt
        rw [Nat.mod_eq_of_lt hlt]
      · rw [show (cur + vain) % n + 1 = n by omega, Nat.mod_self]
    have hR := rW3_f (s := (cur + 1 + vain) % n) (t := nI vain) z3 z12 hK
    have hk := fun k (h : k = 0 ∨ k = 7 ∨ k = 4) => rW3_keep (ρ := σ) (s := (cur + 1 + vain) % n) (vain := nI vain) (k := k) (by omega)
    rw [rSt] at hQ
    generalize rW3 σ ((cur + 1 + vain) % n) (nI vain) = R at hR hk hQ
    obtain ⟨g1, g2, g3, g4⟩ := hR
    refine EE.runN (stop := atPc [7]) 120 _ ?_
    refine ⟨by simp only [wI_1, r0, r1, r12, r13, r41, r42, k0, k1, k2, k3, k4, k5, k6] <;> first | rfl | decide, ?_⟩
    refine ⟨by simp only [wI_1, r0, r1, r12, r13, r41, r42, k0, k1, k2, k3, k4, k5, k6] <;> first | rfl | decide, ?_⟩
    refine ⟨fun h1 => ?_, fun h1 => ?_⟩
    · (have h_ := h1; simp only [wI_1, r0, r1, r12, r13, r41, r42, rd1_0, z0, hn1] at h_; exact absurd h_ (nI_ge (by omega) (by omega)))
    · refine ⟨by simp only [wI_1, r0, r1, r12, r13, r41, r42, k0, k1, k2, k3, k4, k5, k6] <;> first | rfl | decide, ?_⟩
      refine ⟨⟨Nat.le_of_ble_eq_true rfl, Nat.le_of_ble_eq_true rfl, Nat.le_of_ble_eq_true rfl⟩, by simp only [wI_1, r0, r1, r12, r13, r41, r42, k0, k1, k2, k3, k4, k5, k6] <;> first | rfl | decide, _, T_slotBehind (s := (cur + vain) % n) hS r0 z0 hn hm, ?_⟩
      rintro _ _ ⟨rfl, rfl⟩
      rw [hsl]
      refine ⟨Or.inl rfl, ?_⟩
      refine ⟨⟨Nat.le_of_ble_eq_true rfl, Nat.le_of_ble_eq_true rfl, Nat.le_of_ble_eq_true rfl⟩, by simp only [wI_1, r0, r1, r12, r13, r41, r42, k0, k1, k2, k3, k4, k5, k6] <;> first | rfl | decide, _, T_writeSlot (s := (cur + 1 + vain) % n) hS hs', ?_⟩
      rintro _ w1 ⟨rfl, hw⟩
      rw [g1] at hw
      subst hw
      refine ⟨Or.inl rfl, ?_⟩
      refine ⟨by simp only [wI_1, r0, r1, r12, r13, r41, r42, k0, k1, k2, k3, k4, k5, k6] <;> first | rfl | decide, ?_⟩
      refine ⟨fun h2 => ?_, fun h2 => ?_⟩
      · refine ⟨by simp only [wI_1, r0, r1, r12, r13, r41, r42, k0, k1, k2, k3, k4, k5, k6] <;> first | rfl | decide, ?_⟩
        refine ⟨⟨Nat.le_of_ble_eq_true rfl, Nat.le_of_ble_eq_true rfl, Nat.le_of_ble_eq_true rfl⟩, by simp only [wI_1, r0, r1, r12, r13, r41, r42, k0, k1, k2, k3, k4, k5, k6] <;> first | rfl | decide, _, T_spokenBy (s := (cur + 1 + vain) % n) hS r0 hs', ?_⟩
        rintro _ _ ⟨rfl, rfl⟩
        refine ⟨Or.inl rfl, ?_⟩
        refine ⟨by simp only [wI_1, r0, r1, r12, r13, r41, r42, k0, k1, k2, k3, k4, k5, k6] <;> first | rfl | decide, ?_⟩
        refine ⟨fun h3 => ?_, fun h3 => ?_⟩
        · simp only [wI_M, tk_0, tk_1, tk_2, tk_3, tk_4, tk_5, tk_6, tk_7, tk_8, tk_9, tk_10, tk_11, tk_12, tk_13, tk_14, tk_15, tk_16, tk_17, rd0_2, wr0_2, rd0_3, wr0_3, rd0_4, wr0_4, rd0_5, wr0_5, rd0_6, wr0_6, rd0_7, wr0_7, rd0_8, wr0_8, rd0_9, wr0_9, rd0_10, wr0_10, rd0_11, wr0_11, rd0_12, wr0_12, rd0_13, wr0_13, rd0_14, wr0_14, rd0_15, wr0_15, rd0_16, wr0_16, rd1_0, wr1_0, rd1_1, wr1_1, rd4_0, wr4_0, wI_1, r0, r1, r12, r13, r41, r42, wI_w] at h2 h3
          have g5 : ¬ R.2 = false := by
            intro h_
            rw [g4, h_] at h2
            exact absurd h2 (by decide)
          have g6 : R.1 3 = 1 := by
            rw [g4, if_pos (by cases h_ : R.2 with | false => exact absurd h_ g5 | true => rfl)]
          rw [if_neg g5, if_neg h3] at hQ
          refine ee_at (nt := nzT 26) [(0, .ref b), (1, .int (nI ((cur + (vain + 1)) % n))), (2, .int (nI (vain + 1)))] (S, sO M b R.1 , J) rfl (by rw [← nI_1 vain, show cur + (vain + 1) = cur + 1 + vain by omega]; rfl) rfl (ih (vain + 1) R.1 (by omega) ((hk 0 (by omega)).trans z0) ((hk 7 (by omega)).trans z7) g6 g3 g2 hQ)
        · refine ⟨by simp only [wI_1, r0, r1, r12, r13, r41, r42, k0, k1, k2, k3, k4, k5, k6] <;> first | rfl | decide, trivial, ?_⟩
          refine ⟨by simp only [wI_1, r0, r1, r12, r13, r41, r42, k0, k1, k2, k3, k4, k5, k6] <;> first | rfl | decide, ?_⟩
          refine ⟨by simp only [wI_1, r0, r1, r12, r13, r41, r42, k0, k1, k2, k3, k4, k5, k6] <;> first | rfl | decide, trivial, ?_⟩
          simp only [wI_M, tk_0, tk_1, tk_2, tk_3, tk_4, tk_5, tk_6, tk_7, tk_8, tk_9, tk_10, tk_11, tk_12, tk_13, tk_14, tk_15, tk_16, tk_17, rd0_2, wr0_2, rd0_3, wr0_3, rd0_4, wr0_4, rd0_5, wr0_5, rd0_6, wr0_6, rd0_7, wr0_7, rd0_8, wr0_8, rd0_9, wr0_9, rd0_10, wr0_10, rd0_11, wr0_11, rd0_12, wr0_12, rd0_13, wr0_13, rd0_14, wr0_14, rd0_15, wr0_15, rd0_16, wr0_16, rd1_0, wr1_0, rd1_1, wr1_1, rd4_0, wr4_0, wI_1, r0, r1, r12, r13, r41, r42, wI_w] at h2 h3
          have g5 : ¬ R.2 = false := by
            intro h_
            rw [g4, h_] at h2
            exact absurd h2 (by decide)
          refine ⟨⟨Nat.zero_le _, Nat.zero_le _⟩, ?_⟩
          rw [if_neg g5, if_pos h3] at hQ
          show Q (.inl none) (S, _, J)
          simp only [wI_M, tk_0, tk_1, tk_2, tk_3, tk_4, tk_5, tk_6, tk_7, tk_8, tk_9, tk_10, tk_11, tk_12, tk_13, tk_14, tk_15, tk_16, tk_17, rd0_2, wr0_2, rd0_3, wr0_3, rd0_4, wr0_4, rd0_5, wr0_5, rd0_6, wr0_6, rd0_7, wr0_7, rd0_8, wr0_8, rd0_9, wr0_9, rd0_10, wr0_10, rd0_11, wr0_11, rd0_12, wr0_12, rd0_13, wr0_13, rd0_14, wr0_14, rd0_15, wr0_15, rd0_16, wr0_16, rd1_0, wr1_0, rd1_1, wr1_1, rd4_0, wr4_0, wI_1, r0, r1, r12, r13, r41, r42, wI_w]
          exact hQ
      · simp only [wI_M, tk_0, tk_1, tk_2, tk_3, tk_4, tk_5, tk_6, tk_7, tk_8, tk_9, tk_10, tk_11, tk_12, tk_13, tk_14, tk_15, tk_16, tk_17, rd0_2, wr0_2, rd0_3, wr0_3, rd0_4, wr0_4, rd0_5, wr0_5, rd0_6, wr0_6, rd0_7, wr0_7, rd0_8, wr0_8, rd0_9, wr0_9, rd0_10, wr0_10, rd0_11, wr0_11, rd0_12, wr0_12, rd0_13, wr0_13, rd0_14, wr0_14, rd0_15, wr0_15, rd0_16, wr0_16, rd1_0, wr1_0, rd1_1, wr1_1, rd4_0, wr4_0, wI_1, r0, r1, r12, r13, r41, r42, wI_w] at h2
        have g5 : R.2 = false := by
          rw [g4] at h2
          cases h_ : R.2 with
          | false => rfl
          | true => rw [h_] at h2; exact absurd h2 (by decide)
        refine ⟨⟨Nat.zero_le _, Nat.zero_le _⟩, ?_⟩
        rw [if_pos g5] at hQ
        exact hQ
theorem T_cStore {d : Nat} {S : Sc} {M : Nat → Nat → Int32} {J : Nat → Nat → Int64} {b : Nat} {σ : Rw} (hS : OdS S b) (hok : Rok σ) (z3 : σ 3 = 1) (z12 : σ 12 = 0) (hK : Kok σ) : Wp (d + 4) 26 [.ref b] (S, sO M b σ, J) (fun rs w' => rs = .inl none ∧ w' = (S, sO M b (rStore σ), J)) := by
  have hS' := hS
  obtain ⟨n, cur, hn3, hn, hcur, h0, h7⟩ := hok
  obtain ⟨⟨k0, k1, k2, k3, k4, k5, k6⟩, ⟨r0, r1, r12, r13, r41, r42⟩, l2, l3, l5, l6⟩ := id hS
  refine ⟨rfl, ?_⟩
  refine EE.runN (stop := atPc [7]) 20 _ ?_
  refine ⟨by simp only [wI_1, r0, r1, r12, r13, r41, r42, k0, k1, k2, k3, k4, k5, k6] <;> first | rfl | decide, ?_⟩
  have e : rStore σ = rSt n cur (n - 1) 0 σ := by
    unfold rStore
    rw [h0, h7, ck (by omega), ck (by omega)]
  refine ee_at (nt := nzT 26) [(0, .ref b), (1, .int (nI ((cur + 0) % n))), (2, .int (nI 0))] (S, sO M b σ, J) rfl (by rw [Nat.add_zero, Nat.mod_eq_of_lt hcur, ← h7, ← rd0_7 M b σ]; rfl) rfl ?_
  exact L_cStore hS' hn3 hn hcur (n - 1) 0 σ (by omega) h0 h7 z3 z12 hK ⟨rfl, by rw [e]⟩
theorem rSt_K {n cur : Nat} : ∀ (f vain : Nat) (ρ : Rw), ρ 3 = 1 → ρ 12 = 0 → Kok ρ → Kok (rSt n cur f vain ρ) ∧ (rSt n cur f vain ρ 3 = 0 ∨ rSt n cur f vain ρ 3 = 1) ∧ (rSt n cur f vain ρ 12 = 0 ∨ rSt n cur f vain ρ 12 = 1)
  | 0, vain, ρ, h3, hD, hK => by
    unfold rSt
    exact ⟨hK, Or.inr h3, Or.inr rfl⟩
  | f + 1, vain, ρ, h3, hD, hK => by
    have hR := rW3_f (s := (cur + 1 + vain) % n) (t := nI vain) h3 hD hK
    rw [rSt]
    generalize rW3 ρ ((cur + 1 + vain) % n) (nI vain) = R at hR
    obtain ⟨_, g2, g3, g4⟩ := hR
    have g5 : R.1 3 = 0 ∨ R.1 3 = 1 := by
      rw [g4]
      split
      · exact Or.inr rfl
      · exact Or.inl rfl
    split
    · exact ⟨g2, g5, Or.inl g3⟩
    · rename_i g6
      split
      · exact ⟨g2, g5, Or.inl g3⟩
      · refine rSt_K f (vain + 1) R.1 ?_ g3 g2
        rw [g4, if_pos (by cases h_ : R.2 with | false => exact absurd h_ g6 | true => rfl)]
def Bok (ρ : Rw) : Prop := (ρ 3 = 0 ∨ ρ 3 = 1) ∧ (ρ 12 = 0 ∨ ρ 12 = 1)
theorem rStore_K {ρ : Rw} (h3 : ρ 3 = 1) (hD : ρ 12 = 0) (hK : Kok ρ) : Kok (rStore ρ) ∧ Bok (rStore ρ) := rSt_K _ _ _ h3 hD hK
theorem rGo1_K {ρ : Rw} (h3 : ρ 3 = 1) (hB : Bok ρ) (hK : Kok ρ) : Kok (rGo1 ρ) ∧ Bok (rGo1 ρ) := by
  unfold rGo1
  split
  · rename_i h
    split
    · exact ⟨hK, hB⟩
    · exact rStore_K h3 h hK
  · exact ⟨hK, hB⟩
theorem rGo_K : ∀ (f : Nat) {ρ : Rw}, Bok ρ → Kok ρ → Kok (rGo f ρ) ∧ Bok (rGo f ρ)
  | 0, _, hB, hK => ⟨hK, hB⟩
  | f + 1, ρ, hB, hK => by
    unfold rGo
    split
    · rename_i h
      have := rGo1_K h hB hK
      exact rGo_K f this.2 this.1
    · exact ⟨hK, hB⟩
set_option maxHeartbeats 2000000 in
theorem L_cGo {d : Nat} {Q : Res → Wd → Prop} {S : Sc} {M : Nat → Nat → Int32} {J : Nat → Nat → Int64} {b t : Nat} (hS : OdS S b) (ht : t < 1000000) : ∀ (f k : Nat) (σ : Rw), k + f = t → Rok σ → Bok σ → Kok σ → Q (.inl (some (.int (nI (k + rGone f σ))))) (S, sO M b (rGo f σ), J) → EE (SJ (d + 5) 24 (Wp (d + 4)) Q) (2, [(0, .ref b), (1, .int (nI t)), (2, .int (nI k))], [], (S, sO M b σ, J), 0, 0) := by
  intro f
  obtain ⟨⟨k0, k1, k2, k3, k4, k5, k6⟩, ⟨r0, r1, r12, r13, r41, r42⟩, l2, l3, l5, l6⟩ := id hS
  induction f with
  | zero =>
    intro k σ hk hok hB hK hQ
    refine EE.runN (stop := atPc [2]) 80 _ ?_
    refine ⟨fun h1 => ?_, fun h1 => ?_⟩
    · refine ⟨⟨Nat.zero_le _, Nat.zero_le _⟩, ?_⟩
      exact hQ
    · exact absurd (nI_le (show t ≤ k by omega) (by omega)) h1
  | succ f ih =>
    intro k σ hk hok hB hK hQ
    refine EE.runN (stop := atPc [2]) 100 _ ?_
    refine ⟨fun h1 => ?_, fun h1 => ?_⟩
    · exact absurd h1 (nI_ge (by omega) (by omega))
    · refine ⟨by simp only [wI_1, r0, r1, r12, r13, r41, r42, k0, k1, k2, k3, k4, k5, k6] <;> first | rfl | decide, ?_⟩
      refine ⟨fun h2 => ?_, fun h2 => ?_⟩
      · simp only [wI_M, tk_0, tk_1, tk_2, tk_3, tk_4, tk_5, tk_6, tk_7, tk_8, tk_9, tk_10, tk_11, tk_12, tk_13, tk_14, tk_15, tk_16, tk_17, rd0_2, wr0_2, rd0_3, wr0_3, rd0_4, wr0_4, rd0_5, wr0_5, rd0_6, wr0_6, rd0_7, wr0_7, rd0_8, wr0_8, rd0_9, wr0_9, rd0_10, wr0_10, rd0_11, wr0_11, rd0_12, wr0_12, rd0_13, wr0_13, rd0_14, wr0_14, rd0_15, wr0_15, rd0_16, wr0_16, rd1_0, wr1_0, rd1_1, wr1_1, rd4_0, wr4_0, wI_1, r0, r1, r12, r13, r41, r42, wI_w] at h1 h2
        refine ⟨⟨Nat.zero_le _, Nat.zero_le _⟩, ?_⟩
        have a : ¬ σ 3 = 1 := by rw [h2]; decide
        rw [rGo, rGone, if_neg a, if_neg a] at hQ
        exact hQ
      · refine ⟨by simp only [wI_1, r0, r1, r12, r13, r41, r42, k0, k1, k2, k3, k4, k5, k6] <;> first | rfl | decide, ?_⟩
        refine ⟨by simp only [wI_1, r0, r1, r12, r13, r41, r42, k0, k1, k2, k3, k4, k5, k6] <;> first | rfl | decide, trivial, ?_⟩
        refine ⟨by simp only [wI_1, r0, r1, r12, r13, r41, r42, k0, k1, k2, k3, k4, k5, k6] <;> first | rfl | decide, ?_⟩
        refine ⟨by simp only [wI_1, r0, r1, r12, r13, r41, r42, k0, k1, k2, k3, k4, k5, k6] <;> first | rfl | decide, trivial, ?_⟩
        refine ⟨by simp only [wI_1, r0, r1, r12, r13, r41, r42, k0, k1, k2, k3, k4, k5, k6] <;> first | rfl | decide, ?_⟩
        refine ⟨fun h3 => ?_, fun h3 => ?_⟩
        · simp only [wI_M, tk_0, tk_1, tk_2, tk_3, tk_4, tk_5, tk_6, tk_7, tk_8, tk_9, tk_10, tk_11, tk_12, tk_13, tk_14, tk_15, tk_16, tk_17, rd0_2, wr0_2, rd0_3, wr0_3, rd0_4, wr0_4, rd0_5, wr0_5, rd0_6, wr0_6, rd0_7, wr0_7, rd0_8, wr0_8, rd0_9, wr0_9, rd0_10, wr0_10, rd0_11, wr0_11, rd0_12, wr0_12, rd0_13, wr0_13, rd0_14, wr0_14, rd0_15, wr0_15, rd0_16, wr0_16, rd1_0, wr1_0, rd1_1, wr1_1, rd4_0, wr4_0, wI_1, r0, r1, r12, r13, r41, r42, wI_w] at h1 h2 h3
          have a : σ 3 = 1 := hB.1.resolve_left h2
          rw [rGo, rGone, if_pos a, if_pos a] at hQ
          have hk1 := rGo1_K a hB hK
          refine ee_at (nt := nzT 24) [(0, .ref b), (1, .int (nI t)), (2, .int (nI (k + 1)))] (S, sO M b (rGo1 σ), J) rfl (by rw [← nI_1 k]; rfl) ?_ (ih (k + 1) (rGo1 σ) (by omega) (rGo1_ok hok) hk1.2 hk1.1 ?_)
          · show (S, _, J) = (S, _, J)
            try simp only [wI_M, tk_0, tk_1, tk_2, tk_3, tk_4, tk_5, tk_6, tk_7, tk_8, tk_9, tk_10, tk_11, tk_12, tk_13, tk_14, tk_15, tk_16, tk_17, rd0_2, wr0_2, rd0_3, wr0_3, rd0_4, wr0_4, rd0_5, wr0_5, rd0_6, wr0_6, rd0_7, wr0_7, rd0_8, wr0_8, rd0_9, wr0_9, rd0_10, wr0_10, rd0_11, wr0_11, rd0_12, wr0_12, rd0_13, wr0_13, rd0_14, wr0_14, rd0_15, wr0_15, rd0_16, wr0_16, rd1_0, wr1_0, rd1_1, wr1_1, rd4_0, wr4_0, wI_1, r0, r1, r12, r13, r41, r42, wI_w]
            refine congrArg (fun m => (S, sO M b m, J)) ?_
            unfold rGo1
            rw [if_neg (show ¬ σ 12 = 0 from h3)]
            rfl
          · rw [show k + 1 + rGone f (rGo1 σ) = k + (rGone f (rGo1 σ) + 1) by omega]
            exact hQ
        · refine ⟨by simp only [wI_1, r0, r1, r12, r13, r41, r42, k0, k1, k2, k3, k4, k5, k6] <;> first | rfl | decide, ?_⟩
          refine ⟨by simp only [wI_1, r0, r1, r12, r13, r41, r42, k0, k1, k2, k3, k4, k5, k6] <;> first | rfl | decide, ?_⟩
          refine ⟨by simp only [wI_1, r0, r1, r12, r13, r41, r42, k0, k1, k2, k3, k4, k5, k6] <;> first | rfl | decide, ?_⟩
          refine ⟨fun h4 => ?_, fun h4 => ?_⟩
          · simp only [wI_M, tk_0, tk_1, tk_2, tk_3, tk_4, tk_5, tk_6, tk_7, tk_8, tk_9, tk_10, tk_11, tk_12, tk_13, tk_14, tk_15, tk_16, tk_17, rd0_2, wr0_2, rd0_3, wr0_3, rd0_4, wr0_4, rd0_5, wr0_5, rd0_6, wr0_6, rd0_7, wr0_7, rd0_8, wr0_8, rd0_9, wr0_9, rd0_10, wr0_10, rd0_11, wr0_11, rd0_12, wr0_12, rd0_13, wr0_13, rd0_14, wr0_14, rd0_15, wr0_15, rd0_16, wr0_16, rd1_0, wr1_0, rd1_1, wr1_1, rd4_0, wr4_0, wI_1, r0, r1, r12, r13, r41, r42, wI_w] at h1 h2 h3 h4
            have a : σ 3 = 1 := hB.1.resolve_left h2
            rw [rGo, rGone, if_pos a, if_pos a] at hQ
            have hk1 := rGo1_K a hB hK
            refine ee_at (nt := nzT 24) [(0, .ref b), (1, .int (nI t)), (2, .int (nI (k + 1)))] (S, sO M b (rGo1 σ), J) rfl (by rw [← nI_1 k]; rfl) ?_ (ih (k + 1) (rGo1 σ) (by omega) (rGo1_ok hok) hk1.2 hk1.1 ?_)
            · show (S, _, J) = (S, _, J)
              try simp only [wI_M, tk_0, tk_1, tk_2, tk_3, tk_4, tk_5, tk_6, tk_7, tk_8, tk_9, tk_10, tk_11, tk_12, tk_13, tk_14, tk_15, tk_16, tk_17, rd0_2, wr0_2, rd0_3, wr0_3, rd0_4, wr0_4, rd0_5, wr0_5, rd0_6, wr0_6, rd0_7, wr0_7, rd0_8, wr0_8, rd0_9, wr0_9, rd0_10, wr0_10, rd0_11, wr0_11, rd0_12, wr0_12, rd0_13, wr0_13, rd0_14, wr0_14, rd0_15, wr0_15, rd0_16, wr0_16, rd1_0, wr1_0, rd1_1, wr1_1, rd4_0, wr4_0, wI_1, r0, r1, r12, r13, r41, r42, wI_w]
              refine congrArg (fun m => (S, sO M b m, J)) ?_
              unfold rGo1
              rw [if_pos (show σ 12 = 0 from h3)]
              first | rw [if_pos (show rTick σ 4 < σ 6 + σ 1 from h4)] | rw [if_neg (show ¬ rTick σ 4 < σ 6 + σ 1 from h4)]
              try rfl
            · rw [show k + 1 + rGone f (rGo1 σ) = k + (rGone f (rGo1 σ) + 1) by omega]
              exact hQ
          · refine ⟨⟨Nat.le_of_ble_eq_true rfl, Nat.le_of_ble_eq_true rfl, Nat.le_of_ble_eq_true rfl⟩, by simp only [wI_1, r0, r1, r12, r13, r41, r42, k0, k1, k2, k3, k4, k5, k6] <;> first | rfl | decide, _, by simp only [wI_M, tk_0, tk_1, tk_2, tk_3, tk_4, tk_5, tk_6, tk_7, tk_8, tk_9, tk_10, tk_11, tk_12, tk_13, tk_14, tk_15, tk_16, tk_17, rd0_2, wr0_2, rd0_3, wr0_3, rd0_4, wr0_4, rd0_5, wr0_5, rd0_6, wr0_6, rd0_7, wr0_7, rd0_8, wr0_8, rd0_9, wr0_9, rd0_10, wr0_10, rd0_11, wr0_11, rd0_12, wr0_12, rd0_13, wr0_13, rd0_14, wr0_14, rd0_15, wr0_15, rd0_16, wr0_16, rd1_0, wr1_0, rd1_1, wr1_1, rd4_0, wr4_0, wI_1, r0, r1, r12, r13, r41, r42, wI_w] at h2 h3 ⊢; exact T_cStore (σ := rTick σ) hS (rTick_ok hok) (hB.1.resolve_left h2) h3 hK, ?_⟩
            rintro _ _ ⟨rfl, rfl⟩
            refine ⟨Or.inl rfl, ?_⟩
            simp only [wI_M, tk_0, tk_1, tk_2, tk_3, tk_4, tk_5, tk_6, tk_7, tk_8, tk_9, tk_10, tk_11, tk_12, tk_13, tk_14, tk_15, tk_16, tk_17, rd0_2, wr0_2, rd0_3, wr0_3, rd0_4, wr0_4, rd0_5, wr0_5, rd0_6, wr0_6, rd0_7, wr0_7, rd0_8, wr0_8, rd0_9, wr0_9, rd0_10, wr0_10, rd0_11, wr0_11, rd0_12, wr0_12, rd0_13, wr0_13, rd0_14, wr0_14, rd0_15, wr0_15, rd0_16, wr0_16, rd1_0, wr1_0, rd1_1, wr1_1, rd4_0, wr4_0, wI_1, r0, r1, r12, r13, r41, r42, wI_w] at h1 h2 h3 h4
            have a : σ 3 = 1 := hB.1.resolve_left h2
            rw [rGo, rGone, if_pos a, if_pos a] at hQ
            have hk1 := rGo1_K a hB hK
            refine ee_at (nt := nzT 24) [(0, .ref b), (1, .int (nI t)), (2, .int (nI (k + 1)))] (S, sO M b (rGo1 σ), J) rfl (by rw [← nI_1 k]; rfl) ?_ (ih (k + 1) (rGo1 σ) (by omega) (rGo1_ok hok) hk1.2 hk1.1 ?_)
            · show (S, _, J) = (S, _, J)
              try simp only [wI_M, tk_0, tk_1, tk_2, tk_3, tk_4, tk_5, tk_6, tk_7, tk_8, tk_9, tk_10, tk_11, tk_12, tk_13, tk_14, tk_15, tk_16, tk_17, rd0_2, wr0_2, rd0_3, wr0_3, rd0_4, wr0_4, rd0_5, wr0_5, rd0_6, wr0_6, rd0_7, wr0_7, rd0_8, wr0_8, rd0_9, wr0_9, rd0_10, wr0_10, rd0_11, wr0_11, rd0_12, wr0_12, rd0_13, wr0_13, rd0_14, wr0_14, rd0_15, wr0_15, rd0_16, wr0_16, rd1_0, wr1_0, rd1_1, wr1_1, rd4_0, wr4_0, wI_1, r0, r1, r12, r13, r41, r42, wI_w]
              refine congrArg (fun m => (S, sO M b m, J)) ?_
              unfold rGo1
              rw [if_pos (show σ 12 = 0 from h3)]
              first | rw [if_pos (show rTick σ 4 < σ 6 + σ 1 from h4)] | rw [if_neg (show ¬ rTick σ 4 < σ 6 + σ 1 from h4)]
              try rfl
            · rw [show k + 1 + rGone f (rGo1 σ) = k + (rGone f (rGo1 σ) + 1) by omega]
              exact hQ
theorem T_cGo {d : Nat} {S : Sc} {M : Nat → Nat → Int32} {J : Nat → Nat → Int64} {b : Nat} {σ : Rw} (hS : OdS S b) {t : Nat} (ht : t < 1000000) (hok : Rok σ) (hB : Bok σ) (hK : Kok σ) : Wp (d + 5) 24 [.ref b, .int (nI t)] (S, sO M b σ, J) (fun rs w' => rs = .inl (some (.int (nI (rGone t σ)))) ∧ w' = (S, sO M b (rGo t σ), J)) := by
  refine ⟨rfl, ?_⟩
  refine EE.runN (stop := atPc [2]) 2 _ ?_
  refine ee_at (nt := nzT 24) [(0, .ref b), (1, .int (nI t)), (2, .int (nI 0))] (S, sO M b σ, J) rfl rfl rfl ?_
  refine L_cGo hS ht t 0 σ (by omega) hok hB hK ?_
  rw [Nat.zero_add]
  exact ⟨rfl, rfl⟩
