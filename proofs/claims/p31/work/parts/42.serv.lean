/-! THE CLASS: Cells on, Services: written by wip/whole/pure3.py -/
theorem ee_loopP {S : SF} (P : Nat → Prop) (I : Nat → Fr) (n : Nat) (h0 : P 0) (hs : ∀ k, k < n → P k → (P (k + 1) → EE S (I (k + 1))) → EE S (I k)) (he : P n → EE S (I n)) : EE S (I 0) := by
  have key : ∀ m, m ≤ n → P (n - m) → EE S (I (n - m)) := by
    intro m
    induction m with
    | zero => exact fun _ => he
    | succ m ih =>
      intro hm hp
      have e : n - m = n - (m + 1) + 1 := by omega
      refine hs _ (by omega) hp ?_
      rw [← e]
      exact ih (by omega)
  have := key n (Nat.le_refl n)
  rw [Nat.sub_self] at this
  exact this h0
theorem sO_row (M : Nat → Nat → Int32) (b : Nat) (σ σ' : Rw) (o : Nat) (g : Nat → Int32) (h1 : ∀ k, vw o k < 114 → g k = σ' (vw o k)) (h2 : ∀ k, ¬ vw o k < 114 → g k = M (b + o) k) (h3 : ∀ o' k, o' ≠ o → vw o' k < 114 → σ' (vw o' k) = σ (vw o' k)) : upA (sO M b σ) (b + o) g = sO M b σ' := by
  funext c q
  by_cases hc : c = b + o
  · subst hc
    rw [upA_s]
    unfold sO
    rw [Nat.add_sub_cancel_left]
    by_cases h : vw o q < 114
    · rw [if_pos ⟨Nat.le_add_right _ _, h⟩, h1 q h]
    · rw [if_neg (fun h' => h h'.2), h2 q h]
  · rw [upA_n _ _ hc]
    unfold sO
    by_cases h : b ≤ c ∧ vw (c - b) q < 114
    · rw [if_pos h, if_pos h, h3 _ _ (by omega) h.2]
    · rw [if_neg h, if_neg h]
def cMx (σ : Rw) : Nat → Int32
  | 0 => 0
  | k + 1 => if cMx σ k < σ (43 + 2 * k) then σ (43 + 2 * k) else cMx σ k
def cMn (σ : Rw) : Nat → Int32
  | 0 => 999
  | k + 1 => if σ (43 + 2 * k) < cMn σ k then σ (43 + 2 * k) else cMn σ k
set_option maxHeartbeats 1000000 in
theorem T_wearGap {d : Nat} {S : Sc} {M : Nat → Nat → Int32} {J : Nat → Nat → Int64} {b : Nat} {σ : Rw} (hS : OdS S b) {o : Nat} (ho : o = b + 1) {n : Nat} (h0 : σ 0 = nI n) (hn : n ≤ 12) : Wp (d + 2) 13 [.ref o] (S, sO M b σ, J) (fun rs w' => rs = .inl (some (.int (cMx σ (3 * n) - cMn σ (3 * n)))) ∧ w' = (S, sO M b (σ), J)) := by
  subst ho
  obtain ⟨⟨k0, k1, k2, k3, k4, k5, k6⟩, ⟨r0, r1, r12, r13, r41, r42⟩, l2, l3, l5, l6⟩ := id hS
  refine ⟨rfl, ?_⟩
  refine EE.runN (stop := atPc [8, 19]) 100 _ ?_
  refine ee_at (nt := nzT 13) [(0, .ref (b + 1)), (1, .int (cMx σ (3 * 0))), (2, .int (cMn σ (3 * 0))), (3, .int (nI 0))] (S, sO M b σ, J) rfl (by rfl) (by rfl) ?_
  refine ee_loop (fun k => (8, [(0, .ref (b + 1)), (1, .int (cMx σ (3 * k))), (2, .int (cMn σ (3 * k))), (3, .int (nI k))], [], (S, sO M b σ, J), 0, 0)) (n) (fun k h_k ih_k => ?_) ?_
  · refine EE.runN (stop := atPc [8, 19]) 80 _ ?_
    refine ⟨by simp only [wI_1, r0, r1, r12, r13, r41, r42, k0, k1, k2, k3, k4, k5, k6] <;> first | rfl | decide, ?_⟩
    refine ⟨fun h1 => ?_, fun h1 => ?_⟩
    · (have h_ := h1; simp only [wI_1, r0, r1, r12, r13, r41, r42, rd1_0, h0] at h_; exact absurd h_ (nI_ge h_k (by omega)))
    · refine ee_at (nt := nzT 13) [(0, .ref (b + 1)), (1, .int (cMx σ (3 * k + 0))), (2, .int (cMn σ (3 * k + 0))), (3, .int (nI k)), (4, .int (nI 0))] (S, sO M b σ, J) rfl (by rfl) (by rfl) ?_
      refine ee_loop (fun i => (19, [(0, .ref (b + 1)), (1, .int (cMx σ (3 * k + i))), (2, .int (cMn σ (3 * k + i))), (3, .int (nI k)), (4, .int (nI i))], [], (S, sO M b σ, J), 0, 0)) (3) (fun i h_i ih_i => ?_) ?_
      · refine EE.runN (stop := atPc [8, 19]) 80 _ ?_
        refine ⟨fun h2 => ?_, fun h2 => ?_⟩
        · exact absurd h2 (nI_ge (b := 3) h_i (by omega))
        · refine ⟨⟨Nat.le_of_ble_eq_true rfl, Nat.le_of_ble_eq_true rfl, Nat.le_of_ble_eq_true rfl⟩, by simp only [wI_1, r0, r1, r12, r13, r41, r42, k0, k1, k2, k3, k4, k5, k6] <;> first | rfl | decide, _, T_wearOf (s := k) (i := i) hS rfl (by omega) h_i, ?_⟩
          rintro _ _ ⟨rfl, rfl⟩
          refine ⟨Or.inl rfl, ?_⟩
          refine ⟨⟨Nat.le_of_ble_eq_true rfl, Nat.zero_le _, Nat.zero_le _⟩, ?_⟩
          refine ⟨⟨Nat.le_of_ble_eq_true rfl, Nat.le_of_ble_eq_true rfl, Nat.le_of_ble_eq_true rfl⟩, by simp only [wI_1, r0, r1, r12, r13, r41, r42, k0, k1, k2, k3, k4, k5, k6] <;> first | rfl | decide, _, T_wearOf (s := k) (i := i) hS rfl (by omega) h_i, ?_⟩
          rintro _ _ ⟨rfl, rfl⟩
          refine ⟨Or.inl rfl, ?_⟩
          refine ⟨⟨Nat.le_of_ble_eq_true rfl, Nat.zero_le _, Nat.zero_le _⟩, ?_⟩
          refine ee_at (nt := nzT 13) [(0, .ref (b + 1)), (1, .int (cMx σ (3 * k + (i + 1)))), (2, .int (cMn σ (3 * k + (i + 1)))), (3, .int (nI k)), (4, .int (nI (i + 1)))] (S, sO M b σ, J) rfl (by rw [show 3 * k + (i + 1) = 3 * k + i + 1 from rfl, cMx, cMn, ← nI_1 i]; rfl) (by rfl) ?_
          exact ih_i
      · refine EE.runN (stop := atPc [8, 19]) 80 _ ?_
        refine ⟨fun h3 => ?_, fun h3 => ?_⟩
        · refine ee_at (nt := nzT 13) [(0, .ref (b + 1)), (1, .int (cMx σ (3 * (k + 1)))), (2, .int (cMn σ (3 * (k + 1)))), (3, .int (nI (k + 1)))] (S, sO M b σ, J) rfl (by rw [show 3 * (k + 1) = 3 * k + 3 by omega, ← nI_1 k]; rfl) (by rfl) ?_
          exact ih_k
        · exact absurd (nI_le (Nat.le_refl 3) (by omega)) h3
  · refine EE.runN (stop := atPc [8, 19]) 80 _ ?_
    refine ⟨by simp only [wI_1, r0, r1, r12, r13, r41, r42, k0, k1, k2, k3, k4, k5, k6] <;> first | rfl | decide, ?_⟩
    refine ⟨fun h4 => ?_, fun h4 => ?_⟩
    · exact ⟨⟨Nat.zero_le _, Nat.zero_le _⟩, rfl, rfl⟩
    · (have h_ := h4; simp only [wI_1, r0, r1, r12, r13, r41, r42, rd1_0, h0] at h_; exact absurd (nI_le (Nat.le_refl n) (by omega)) h_)
def cGr (σ : Rw) : Nat → Int32
  | 0 => -99999
  | k + 1 => if rSays σ k ≤ cGr σ k then cGr σ k else rSays σ k
def cFo (σ : Rw) : Nat → Int32
  | 0 => -99999
  | k + 1 => if rSays σ k ≤ cGr σ k then cFo σ k else nI k
set_option maxHeartbeats 1000000 in
theorem T_slotOfGreatest {d : Nat} {S : Sc} {M : Nat → Nat → Int32} {J : Nat → Nat → Int64} {b : Nat} {σ : Rw} (hS : OdS S b) {o : Nat} (ho : o = b + 1) {n : Nat} (h0 : σ 0 = nI n) (hn : n ≤ 12) : Wp (d + 3) 14 [.ref o] (S, sO M b σ, J) (fun rs w' => rs = .inl (some (.int (cFo σ n))) ∧ w' = (S, sO M b (σ), J)) := by
  subst ho
  obtain ⟨⟨k0, k1, k2, k3, k4, k5, k6⟩, ⟨r0, r1, r12, r13, r41, r42⟩, l2, l3, l5, l6⟩ := id hS
  refine ⟨rfl, ?_⟩
  refine EE.runN (stop := atPc [8]) 100 _ ?_
  refine ee_at (nt := nzT 14) [(0, .ref (b + 1)), (1, .int (cFo σ 0)), (2, .int (cGr σ 0)), (3, .int (nI 0))] (S, sO M b σ, J) rfl (by rfl) (by rfl) ?_
  refine ee_loop (fun k => (8, [(0, .ref (b + 1)), (1, .int (cFo σ k)), (2, .int (cGr σ k)), (3, .int (nI k))], [], (S, sO M b σ, J), 0, 0)) (n) (fun k h_k ih_k => ?_) ?_
  · refine EE.runN (stop := atPc [8]) 80 _ ?_
    refine ⟨by simp only [wI_1, r0, r1, r12, r13, r41, r42, k0, k1, k2, k3, k4, k5, k6] <;> first | rfl | decide, ?_⟩
    refine ⟨fun h1 => ?_, fun h1 => ?_⟩
    · (have h_ := h1; simp only [wI_1, r0, r1, r12, r13, r41, r42, rd1_0, h0] at h_; exact absurd h_ (nI_ge h_k (by omega)))
    · refine ⟨⟨Nat.le_of_ble_eq_true rfl, Nat.le_of_ble_eq_true rfl, Nat.le_of_ble_eq_true rfl⟩, by simp only [wI_1, r0, r1, r12, r13, r41, r42, k0, k1, k2, k3, k4, k5, k6] <;> first | rfl | decide, _, T_spokenBy (s := k) hS rfl (by omega), ?_⟩
      rintro _ _ ⟨rfl, rfl⟩
      refine ⟨Or.inl rfl, ?_⟩
      refine ⟨fun h2 => ?_, fun h2 => ?_⟩
      · refine ee_at (nt := nzT 14) [(0, .ref (b + 1)), (1, .int (cFo σ (k + 1))), (2, .int (cGr σ (k + 1))), (3, .int (nI (k + 1)))] (S, sO M b σ, J) rfl (by rw [cFo, cGr, if_pos h2, if_pos h2, ← nI_1 k]; rfl) (by rfl) ?_
        exact ih_k
      · refine ⟨⟨Nat.le_of_ble_eq_true rfl, Nat.le_of_ble_eq_true rfl, Nat.le_of_ble_eq_true rfl⟩, by simp only [wI_1, r0, r1, r12, r13, r41, r42, k0, k1, k2, k3, k4, k5, k6] <;> first | rfl | decide, _, T_spokenBy (s := k) hS rfl (by omega), ?_⟩
        rintro _ _ ⟨rfl, rfl⟩
        refine ⟨Or.inl rfl, ?_⟩
        refine ee_at (nt := nzT 14) [(0, .ref (b + 1)), (1, .int (cFo σ (k + 1))), (2, .int (cGr σ (k + 1))), (3, .int (nI (k + 1)))] (S, sO M b σ, J) rfl (by rw [cFo, cGr, if_neg h2, if_neg h2, ← nI_1 k]; rfl) (by rfl) ?_
        exact ih_k
  · refine EE.runN (stop := atPc [8]) 80 _ ?_
    refine ⟨by simp only [wI_1, r0, r1, r12, r13, r41, r42, k0, k1, k2, k3, k4, k5, k6] <;> first | rfl | decide, ?_⟩
    refine ⟨fun h3 => ?_, fun h3 => ?_⟩
    · exact ⟨⟨Nat.zero_le _, Nat.zero_le _⟩, rfl, rfl⟩
    · (have h_ := h3; simp only [wI_1, r0, r1, r12, r13, r41, r42, rd1_0, h0] at h_; exact absurd (nI_le (Nat.le_refl n) (by omega)) h_)
def rRenAll (σ : Rw) : Nat → Rw
  | 0 => σ
  | k + 1 => rRenew (rRenAll σ k) k
def cMk (σ : Rw) (a c : Int32) : Rw := rRenAll (upd (upd σ 0 (if 12 < a then 12 else a)) 2 c) 12
set_option maxHeartbeats 1000000 in
theorem T_cMakeNew {d : Nat} {S : Sc} {M : Nat → Nat → Int32} {J : Nat → Nat → Int64} {b : Nat} {σ : Rw} (hS : OdS S b) {o : Nat} (ho : o = b + 1) {a c : Int32} : Wp (d + 2) 1 [.ref o, .int a, .int c] (S, sO M b σ, J) (fun rs w' => rs = .inl none ∧ w' = (S, sO M b (cMk σ a c), J)) := by
  subst ho
  obtain ⟨⟨k0, k1, k2, k3, k4, k5, k6⟩, ⟨r0, r1, r12, r13, r41, r42⟩, l2, l3, l5, l6⟩ := id hS
  refine ⟨rfl, ?_⟩
  refine EE.runN (stop := atPc [17]) 100 _ ?_
  refine ⟨⟨Nat.le_of_ble_eq_true rfl, Nat.zero_le _, Nat.zero_le _⟩, ?_⟩
  refine ⟨by simp only [wI_1, r0, r1, r12, r13, r41, r42, k0, k1, k2, k3, k4, k5, k6] <;> first | rfl | decide, trivial, ?_⟩
  refine ⟨by simp only [wI_1, r0, r1, r12, r13, r41, r42, k0, k1, k2, k3, k4, k5, k6] <;> first | rfl | decide, trivial, ?_⟩
  refine ee_at (nt := nzT 1) [(0, .ref (b + 1)), (3, .int (nI 0))] (S, sO M b (rRenAll (upd (upd σ 0 (if 12 < a then 12 else a)) 2 c) 0), J) rfl (by rfl) (by show (S, _, J) = (S, _, J); simp only [wI_M, tk_0, tk_1, tk_2, tk_3, tk_4, tk_5, tk_6, tk_7, tk_8, tk_9, tk_10, tk_11, tk_12, tk_13, tk_14, tk_15, tk_16, tk_17, rd0_2, wr0_2, rd0_3, wr0_3, rd0_4, wr0_4, rd0_5, wr0_5, rd0_6, wr0_6, rd0_7, wr0_7, rd0_8, wr0_8, rd0_9, wr0_9, rd0_10, wr0_10, rd0_11, wr0_11, rd0_12, wr0_12, rd0_13, wr0_13, rd0_14, wr0_14, rd0_15, wr0_15, rd0_16, wr0_16, rd1_0, wr1_0, rd1_1, wr1_1, rd4_0, wr4_0, wI_1, r0, r1, r12, r13, r41, r42]; rfl) ?_
  refine ee_loop (fun k => (17, [(0, .ref (b + 1)), (3, .int (nI k))], [], (S, sO M b (rRenAll (upd (upd σ 0 (if 12 < a then 12 else a)) 2 c) k), J), 0, 0)) (12) (fun k h_k ih_k => ?_) ?_
  · refine EE.runN (stop := atPc [17]) 80 _ ?_
    refine ⟨fun h1 => ?_, fun h1 => ?_⟩
    · exact absurd h1 (nI_ge (b := 12) h_k (by omega))
    · refine ⟨⟨Nat.le_of_ble_eq_true rfl, Nat.le_of_ble_eq_true rfl, Nat.le_of_ble_eq_true rfl⟩, by simp only [wI_1, r0, r1, r12, r13, r41, r42, k0, k1, k2, k3, k4, k5, k6] <;> first | rfl | decide, _, T_renew (s := k) hS rfl (by omega), ?_⟩
      rintro _ _ ⟨rfl, rfl⟩
      refine ⟨Or.inl rfl, ?_⟩
      refine ee_at (nt := nzT 1) [(0, .ref (b + 1)), (3, .int (nI (k + 1)))] (S, sO M b (rRenAll (upd (upd σ 0 (if 12 < a then 12 else a)) 2 c) (k + 1)), J) rfl (by rw [← nI_1 k]; rfl) (by rfl) ?_
      exact ih_k
  · refine EE.runN (stop := atPc [17]) 80 _ ?_
    refine ⟨fun h2 => ?_, fun h2 => ?_⟩
    · exact ⟨⟨Nat.zero_le _, Nat.zero_le _⟩, rfl, rfl⟩
    · exact absurd (nI_le (Nat.le_refl 12) (by omega)) h2
theorem cp_row (M : Nat → Nat → Int32) (b : Nat) (σ : Rw) (o base N : Nat) (f : Nat → Int32) (ho : o = 2 ∧ base = 42 ∧ N = 36 ∨ o = 3 ∧ base = 43 ∧ N = 36 ∨ o = 5 ∧ base = 18 ∧ N = 12 ∨ o = 6 ∧ base = 19 ∧ N = 12) : upA (sO M b σ) (b + o) (va_cpy f (sO M b σ (b + o)) 0 0 N) = sO M b (fun q => if (ps q).1 = o ∧ (ps q).2 < N then f (ps q).2 else σ q) := by
  have hv : ∀ k, vw o k = if k < N then base + 2 * k else 114 := by
    intro k
    rcases ho with ⟨rfl, rfl, rfl⟩ | ⟨rfl, rfl, rfl⟩ | ⟨rfl, rfl, rfl⟩ | ⟨rfl, rfl, rfl⟩ <;> rfl
  refine sO_row M b σ _ o _ (fun k hk => ?_) (fun k hk => ?_) (fun o' k hne hk => ?_)
  · have e := ps_vw o k hk
    have hkN : k < N := by
      rw [hv] at hk
      split at hk
      · assumption
      · omega
    rw [e]
    rw [if_pos ⟨rfl, hkN⟩]
    unfold va_cpy
    rw [if_pos (by omega)]
    congr 1
    omega
  · have hkN : ¬ k < N := by
      intro h
      rw [hv, if_pos h] at hk
      rcases ho with ⟨rfl, rfl, rfl⟩ | ⟨rfl, rfl, rfl⟩ | ⟨rfl, rfl, rfl⟩ | ⟨rfl, rfl, rfl⟩ <;> omega
    unfold va_cpy
    rw [if_neg (by omega)]
    unfold sO
    rw [Nat.add_sub_cancel_left, if_neg (fun h => hk h.2)]
  · have e := ps_vw o' k hk
    rw [e, if_neg (fun h => hne h.1)]
def cpC (σ τ : Rw) : Rw := fun q => if q = 0 ∨ q = 2 ∨ 42 ≤ q then τ q else σ q
def cpS (σ τ : Rw) : Rw := fun q => if 17 ≤ q ∧ q < 42 then τ q else σ q
theorem ps_hi : ∀ q, q < 114 → ((ps q).1 = 2 ∧ (ps q).2 < 36 ∨ (ps q).1 = 3 ∧ (ps q).2 < 36 ↔ 42 ≤ q) ∧ ((ps q).1 = 5 ∧ (ps q).2 < 12 ∨ (ps q).1 = 6 ∧ (ps q).2 < 12 ↔ 18 ≤ q ∧ q < 42) := by decide
theorem vO_at (M : Nat → Nat → Int32) (b : Nat) {q o k : Nat} (h1 : (ps q).1 = o) (h2 : (ps q).2 = k) : vO M b q = M (b + o) k := by
  unfold vO
  rw [h1, h2]
