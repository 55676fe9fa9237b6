/-! THE CLASS: becomeLike: written by wip/whole/pure3.py -/
theorem m36 : ((if Int32.ofNat 36 < Int32.ofNat 36 then Int32.ofNat 36 else Int32.ofNat 36) : Int32).toNatClampNeg = 36 := by decide
theorem m12 : ((if Int32.ofNat 12 < Int32.ofNat 12 then Int32.ofNat 12 else Int32.ofNat 12) : Int32).toNatClampNeg = 12 := by decide
set_option maxHeartbeats 1000000 in
theorem T_cLike {d : Nat} {S : Sc} {M : Nat → Nat → Int32} {J : Nat → Nat → Int64} {b : Nat} {σ : Rw} (hS : OdS S b) {o : Nat} (ho : o = b + 1) {b2 o2 : Nat} (ho2 : o2 = b2 + 1) (hS2 : OdS S b2) (hd : b2 + 7 ≤ b ∨ b + 7 ≤ b2) : Wp (d + 1) 2 [.ref o, .ref o2] (S, sO M b σ, J) (fun rs w' => rs = .inl none ∧ w' = (S, sO M b (cpC σ (vO M b2)), J)) := by
  subst ho
  obtain ⟨⟨k0, k1, k2, k3, k4, k5, k6⟩, ⟨r0, r1, r12, r13, r41, r42⟩, l2, l3, l5, l6⟩ := id hS
  subst ho2
  obtain ⟨⟨y0, y1, y2, y3, y4, y5, y6⟩, ⟨x0, x1, x12, x13, x41, x42⟩, z2, z3, z5, z6⟩ := id hS2
  have ot1 := fun (τ : Rw) => sO_ot M b τ (c := b2 + 1) (by omega)
  have ot2 := fun (τ : Rw) => sO_ot M b τ (c := b2 + 2) (by omega)
  have ot3 := fun (τ : Rw) => sO_ot M b τ (c := b2 + 3) (by omega)
  have ot4 := fun (τ : Rw) => sO_ot M b τ (c := b2 + 4) (by omega)
  have ot5 := fun (τ : Rw) => sO_ot M b τ (c := b2 + 5) (by omega)
  have ot6 := fun (τ : Rw) => sO_ot M b τ (c := b2 + 6) (by omega)
  have ot0 := fun (τ : Rw) => sO_ot M b τ (c := b2) (by omega)
  refine ⟨rfl, ?_⟩
  refine EE.runN (stop := noStop) 100 _ ?_
  refine ⟨by simp only [wI_1, r0, r1, r12, r13, r41, r42, x0, x1, x12, x13, x41, x42, k0, k1, k2, k3, k4, k5, k6, y0, y1, y2, y3, y4, y5, y6] <;> first | rfl | decide, ?_⟩
  refine ⟨by simp only [wI_1, r0, r1, r12, r13, r41, r42, x0, x1, x12, x13, x41, x42, k0, k1, k2, k3, k4, k5, k6, y0, y1, y2, y3, y4, y5, y6] <;> first | rfl | decide, trivial, ?_⟩
  refine ⟨by simp only [wI_1, r0, r1, r12, r13, r41, r42, x0, x1, x12, x13, x41, x42, k0, k1, k2, k3, k4, k5, k6, y0, y1, y2, y3, y4, y5, y6] <;> first | rfl | decide, ?_⟩
  refine ⟨by simp only [wI_1, r0, r1, r12, r13, r41, r42, x0, x1, x12, x13, x41, x42, k0, k1, k2, k3, k4, k5, k6, y0, y1, y2, y3, y4, y5, y6] <;> first | rfl | decide, trivial, ?_⟩
  refine ⟨by simp only [wI_1, r0, r1, r12, r13, r41, r42, x0, x1, x12, x13, x41, x42, k0, k1, k2, k3, k4, k5, k6, y0, y1, y2, y3, y4, y5, y6] <;> first | rfl | decide, ?_⟩
  refine ⟨by simp only [wI_1, r0, r1, r12, r13, r41, r42, x0, x1, x12, x13, x41, x42, k0, k1, k2, k3, k4, k5, k6, y0, y1, y2, y3, y4, y5, y6] <;> first | rfl | decide, ?_⟩
  refine ⟨by simp only [wI_1, r0, r1, r12, r13, r41, r42, x0, x1, x12, x13, x41, x42, k0, k1, k2, k3, k4, k5, k6, y0, y1, y2, y3, y4, y5, y6] <;> first | rfl | decide, ?_⟩
  refine ⟨by simp only [wI_1, r0, r1, r12, r13, r41, r42, x0, x1, x12, x13, x41, x42, k0, k1, k2, k3, k4, k5, k6, y0, y1, y2, y3, y4, y5, y6] <;> first | rfl | decide, ?_⟩
  refine ⟨by simp only [wI_1, r0, r1, r12, r13, r41, r42, x0, x1, x12, x13, x41, x42, k0, k1, k2, k3, k4, k5, k6, y0, y1, y2, y3, y4, y5, y6] <;> first | rfl | decide, ?_⟩
  refine ⟨by simp only [wI_1, r0, r1, r12, r13, r41, r42, x0, x1, x12, x13, x41, x42, k0, k1, k2, k3, k4, k5, k6, y0, y1, y2, y3, y4, y5, y6] <;> first | rfl | decide, ?_⟩
  refine ⟨⟨Nat.le_of_ble_eq_true rfl, Nat.zero_le _, Nat.zero_le _⟩, ?_⟩
  refine ⟨⟨Nat.le_of_ble_eq_true rfl, by simp only [wI_1, r0, r1, r12, r13, r41, r42, x0, x1, x12, x13, x41, x42, k0, k1, k2, k3, k4, k5, k6, y0, y1, y2, y3, y4, y5, y6] <;> first | rfl | decide, by simp only [wI_1, r0, r1, r12, r13, r41, r42, x0, x1, x12, x13, x41, x42, k0, k1, k2, k3, k4, k5, k6, y0, y1, y2, y3, y4, y5, y6] <;> first | rfl | decide, (by simp only [wI_1, r0, r1, r12, r13, r41, r42, x0, x1, x12, x13, x41, x42, l2, l3, l5, l6, z2, z3, z5, z6]; decide)⟩, ?_⟩
  refine ⟨by simp only [wI_1, r0, r1, r12, r13, r41, r42, x0, x1, x12, x13, x41, x42, k0, k1, k2, k3, k4, k5, k6, y0, y1, y2, y3, y4, y5, y6] <;> first | rfl | decide, ?_⟩
  refine ⟨by simp only [wI_1, r0, r1, r12, r13, r41, r42, x0, x1, x12, x13, x41, x42, k0, k1, k2, k3, k4, k5, k6, y0, y1, y2, y3, y4, y5, y6] <;> first | rfl | decide, ?_⟩
  refine ⟨by simp only [wI_1, r0, r1, r12, r13, r41, r42, x0, x1, x12, x13, x41, x42, k0, k1, k2, k3, k4, k5, k6, y0, y1, y2, y3, y4, y5, y6] <;> first | rfl | decide, ?_⟩
  refine ⟨by simp only [wI_1, r0, r1, r12, r13, r41, r42, x0, x1, x12, x13, x41, x42, k0, k1, k2, k3, k4, k5, k6, y0, y1, y2, y3, y4, y5, y6] <;> first | rfl | decide, ?_⟩
  refine ⟨by simp only [wI_1, r0, r1, r12, r13, r41, r42, x0, x1, x12, x13, x41, x42, k0, k1, k2, k3, k4, k5, k6, y0, y1, y2, y3, y4, y5, y6] <;> first | rfl | decide, ?_⟩
  refine ⟨by simp only [wI_1, r0, r1, r12, r13, r41, r42, x0, x1, x12, x13, x41, x42, k0, k1, k2, k3, k4, k5, k6, y0, y1, y2, y3, y4, y5, y6] <;> first | rfl | decide, ?_⟩
  refine ⟨⟨Nat.le_of_ble_eq_true rfl, Nat.zero_le _, Nat.zero_le _⟩, ?_⟩
  refine ⟨⟨Nat.le_of_ble_eq_true rfl, by simp only [wI_1, r0, r1, r12, r13, r41, r42, x0, x1, x12, x13, x41, x42, k0, k1, k2, k3, k4, k5, k6, y0, y1, y2, y3, y4, y5, y6] <;> first | rfl | decide, by simp only [wI_1, r0, r1, r12, r13, r41, r42, x0, x1, x12, x13, x41, x42, k0, k1, k2, k3, k4, k5, k6, y0, y1, y2, y3, y4, y5, y6] <;> first | rfl | decide, (by simp only [wI_1, r0, r1, r12, r13, r41, r42, x0, x1, x12, x13, x41, x42, l2, l3, l5, l6, z2, z3, z5, z6]; decide)⟩, ?_⟩
  refine ⟨⟨Nat.zero_le _, Nat.zero_le _⟩, rfl, ?_⟩
  show (S, _, J) = (S, _, J)
  refine congrArg (fun m => (S, m, J)) ?_
  simp only [wI_M, tk_0, tk_1, tk_2, tk_3, tk_4, tk_5, tk_6, tk_7, tk_8, tk_9, tk_10, tk_11, tk_12, tk_13, tk_14, tk_15, tk_16, tk_17, rd0_2, wr0_2, rd0_3, wr0_3, rd0_4, wr0_4, rd0_5, wr0_5, rd0_6, wr0_6, rd0_7, wr0_7, rd0_8, wr0_8, rd0_9, wr0_9, rd0_10, wr0_10, rd0_11, wr0_11, rd0_12, wr0_12, rd0_13, wr0_13, rd0_14, wr0_14, rd0_15, wr0_15, rd0_16, wr0_16, rd1_0, wr1_0, rd1_1, wr1_1, rd4_0, wr4_0, wI_1, r0, r1, r12, r13, r41, r42, x0, x1, x12, x13, x41, x42, l2, l3, l5, l6, z2, z3, z5, z6, m36, m12, ot0, ot1, ot2, ot3, ot4, ot5, ot6]
  rw [cp_row M b _ 2 42 36 (M (b2 + 2)) (by decide)]
  simp only [wI_M, tk_0, tk_1, tk_2, tk_3, tk_4, tk_5, tk_6, tk_7, tk_8, tk_9, tk_10, tk_11, tk_12, tk_13, tk_14, tk_15, tk_16, tk_17, rd0_2, wr0_2, rd0_3, wr0_3, rd0_4, wr0_4, rd0_5, wr0_5, rd0_6, wr0_6, rd0_7, wr0_7, rd0_8, wr0_8, rd0_9, wr0_9, rd0_10, wr0_10, rd0_11, wr0_11, rd0_12, wr0_12, rd0_13, wr0_13, rd0_14, wr0_14, rd0_15, wr0_15, rd0_16, wr0_16, rd1_0, wr1_0, rd1_1, wr1_1, rd4_0, wr4_0, wI_1, r0, r1, r12, r13, r41, r42, x0, x1, x12, x13, x41, x42, l2, l3, l5, l6, z2, z3, z5, z6, m36, m12, ot0, ot1, ot2, ot3, ot4, ot5, ot6]
  rw [cp_row M b _ 3 43 36 (M (b2 + 3)) (by decide)]
  refine sO_cg M b (fun q hq => ?_)
  have hp := ps_hi q hq
  unfold cpC
  by_cases a3 : (ps q).1 = 3 ∧ (ps q).2 < 36
  · rw [if_pos a3, if_pos (Or.inr (Or.inr (hp.1.mp (Or.inr a3))))]
    exact (vO_at M b2 a3.1 rfl).symm
  · rw [if_neg a3]
    by_cases a2 : (ps q).1 = 2 ∧ (ps q).2 < 36
    · rw [if_pos a2, if_pos (Or.inr (Or.inr (hp.1.mp (Or.inl a2))))]
      exact (vO_at M b2 a2.1 rfl).symm
    · rw [if_neg a2]
      have h42 : ¬ 42 ≤ q := fun h => (hp.1.mpr h).elim a2 a3
      by_cases q2 : q = 2
      · subst q2
        rw [if_pos (Or.inr (Or.inl rfl)), pk_us]
        rfl
      · rw [pk_un q2]
        by_cases q0 : q = 0
        · subst q0
          rw [if_pos (Or.inl rfl), pk_us]
          rfl
        · rw [pk_un q0, if_neg (by omega)]
set_option maxHeartbeats 1000000 in
theorem T_sLike {d : Nat} {S : Sc} {M : Nat → Nat → Int32} {J : Nat → Nat → Int64} {b : Nat} {σ : Rw} (hS : OdS S b) {o : Nat} (ho : o = b + 4) {b2 o2 : Nat} (ho2 : o2 = b2 + 4) (hS2 : OdS S b2) (hd : b2 + 7 ≤ b ∨ b + 7 ≤ b2) : Wp (d + 1) 39 [.ref o, .ref o2] (S, sO M b σ, J) (fun rs w' => rs = .inl none ∧ w' = (S, sO M b (cpS σ (vO M b2)), J)) := by
  subst ho
  obtain ⟨⟨k0, k1, k2, k3, k4, k5, k6⟩, ⟨r0, r1, r12, r13, r41, r42⟩, l2, l3, l5, l6⟩ := id hS
  subst ho2
  obtain ⟨⟨y0, y1, y2, y3, y4, y5, y6⟩, ⟨x0, x1, x12, x13, x41, x42⟩, z2, z3, z5, z6⟩ := id hS2
  have ot1 := fun (τ : Rw) => sO_ot M b τ (c := b2 + 1) (by omega)
  have ot2 := fun (τ : Rw) => sO_ot M b τ (c := b2 + 2) (by omega)
  have ot3 := fun (τ : Rw) => sO_ot M b τ (c := b2 + 3) (by omega)
  have ot4 := fun (τ : Rw) => sO_ot M b τ (c := b2 + 4) (by omega)
  have ot5 := fun (τ : Rw) => sO_ot M b τ (c := b2 + 5) (by omega)
  have ot6 := fun (τ : Rw) => sO_ot M b τ (c := b2 + 6) (by omega)
  have ot0 := fun (τ : Rw) => sO_ot M b τ (c := b2) (by omega)
  refine ⟨rfl, ?_⟩
  refine EE.runN (stop := noStop) 100 _ ?_
  refine ⟨by simp only [wI_1, r0, r1, r12, r13, r41, r42, x0, x1, x12, x13, x41, x42, k0, k1, k2, k3, k4, k5, k6, y0, y1, y2, y3, y4, y5, y6] <;> first | rfl | decide, ?_⟩
  refine ⟨by simp only [wI_1, r0, r1, r12, r13, r41, r42, x0, x1, x12, x13, x41, x42, k0, k1, k2, k3, k4, k5, k6, y0, y1, y2, y3, y4, y5, y6] <;> first | rfl | decide, trivial, ?_⟩
  refine ⟨by simp only [wI_1, r0, r1, r12, r13, r41, r42, x0, x1, x12, x13, x41, x42, k0, k1, k2, k3, k4, k5, k6, y0, y1, y2, y3, y4, y5, y6] <;> first | rfl | decide, ?_⟩
  refine ⟨by simp only [wI_1, r0, r1, r12, r13, r41, r42, x0, x1, x12, x13, x41, x42, k0, k1, k2, k3, k4, k5, k6, y0, y1, y2, y3, y4, y5, y6] <;> first | rfl | decide, ?_⟩
  refine ⟨by simp only [wI_1, r0, r1, r12, r13, r41, r42, x0, x1, x12, x13, x41, x42, k0, k1, k2, k3, k4, k5, k6, y0, y1, y2, y3, y4, y5, y6] <;> first | rfl | decide, ?_⟩
  refine ⟨by simp only [wI_1, r0, r1, r12, r13, r41, r42, x0, x1, x12, x13, x41, x42, k0, k1, k2, k3, k4, k5, k6, y0, y1, y2, y3, y4, y5, y6] <;> first | rfl | decide, ?_⟩
  refine ⟨by simp only [wI_1, r0, r1, r12, r13, r41, r42, x0, x1, x12, x13, x41, x42, k0, k1, k2, k3, k4, k5, k6, y0, y1, y2, y3, y4, y5, y6] <;> first | rfl | decide, ?_⟩
  refine ⟨by simp only [wI_1, r0, r1, r12, r13, r41, r42, x0, x1, x12, x13, x41, x42, k0, k1, k2, k3, k4, k5, k6, y0, y1, y2, y3, y4, y5, y6] <;> first | rfl | decide, ?_⟩
  refine ⟨⟨Nat.le_of_ble_eq_true rfl, Nat.zero_le _, Nat.zero_le _⟩, ?_⟩
  refine ⟨⟨Nat.le_of_ble_eq_true rfl, by simp only [wI_1, r0, r1, r12, r13, r41, r42, x0, x1, x12, x13, x41, x42, k0, k1, k2, k3, k4, k5, k6, y0, y1, y2, y3, y4, y5, y6] <;> first | rfl | decide, by simp only [wI_1, r0, r1, r12, r13, r41, r42, x0, x1, x12, x13, x41, x42, k0, k1, k2, k3, k4, k5, k6, y0, y1, y2, y3, y4, y5, y6] <;> first | rfl | decide, (by simp only [wI_1, r0, r1, r12, r13, r41, r42, x0, x1, x12, x13, x41, x42, l2, l3, l5, l6, z2, z3, z5, z6]; decide)⟩, ?_⟩
  refine ⟨by simp only [wI_1, r0, r1, r12, r13, r41, r42, x0, x1, x12, x13, x41, x42, k0, k1, k2, k3, k4, k5, k6, y0, y1, y2, y3, y4, y5, y6] <;> first | rfl | decide, ?_⟩
  refine ⟨by simp only [wI_1, r0, r1, r12, r13, r41, r42, x0, x1, x12, x13, x41, x42, k0, k1, k2, k3, k4, k5, k6, y0, y1, y2, y3, y4, y5, y6] <;> first | rfl | decide, ?_⟩
  refine ⟨by simp only [wI_1, r0, r1, r12, r13, r41, r42, x0, x1, x12, x13, x41, x42, k0, k1, k2, k3, k4, k5, k6, y0, y1, y2, y3, y4, y5, y6] <;> first | rfl | decide, ?_⟩
  refine ⟨by simp only [wI_1, r0, r1, r12, r13, r41, r42, x0, x1, x12, x13, x41, x42, k0, k1, k2, k3, k4, k5, k6, y0, y1, y2, y3, y4, y5, y6] <;> first | rfl | decide, ?_⟩
  refine ⟨by simp only [wI_1, r0, r1, r12, r13, r41, r42, x0, x1, x12, x13, x41, x42, k0, k1, k2, k3, k4, k5, k6, y0, y1, y2, y3, y4, y5, y6] <;> first | rfl | decide, ?_⟩
  refine ⟨by simp only [wI_1, r0, r1, r12, r13, r41, r42, x0, x1, x12, x13, x41, x42, k0, k1, k2, k3, k4, k5, k6, y0, y1, y2, y3, y4, y5, y6] <;> first | rfl | decide, ?_⟩
  refine ⟨⟨Nat.le_of_ble_eq_true rfl, Nat.zero_le _, Nat.zero_le _⟩, ?_⟩
  refine ⟨⟨Nat.le_of_ble_eq_true rfl, by simp only [wI_1, r0, r1, r12, r13, r41, r42, x0, x1, x12, x13, x41, x42, k0, k1, k2, k3, k4, k5, k6, y0, y1, y2, y3, y4, y5, y6] <;> first | rfl | decide, by simp only [wI_1, r0, r1, r12, r13, r41, r42, x0, x1, x12, x13, x41, x42, k0, k1, k2, k3, k4, k5, k6, y0, y1, y2, y3, y4, y5, y6] <;> first | rfl | decide, (by simp only [wI_1, r0, r1, r12, r13, r41, r42, x0, x1, x12, x13, x41, x42, l2, l3, l5, l6, z2, z3, z5, z6]; decide)⟩, ?_⟩
  refine ⟨⟨Nat.zero_le _, Nat.zero_le _⟩, rfl, ?_⟩
  show (S, _, J) = (S, _, J)
  refine congrArg (fun m => (S, m, J)) ?_
  simp only [wI_M, tk_0, tk_1, tk_2, tk_3, tk_4, tk_5, tk_6, tk_7, tk_8, tk_9, tk_10, tk_11, tk_12, tk_13, tk_14, tk_15, tk_16, tk_17, rd0_2, wr0_2, rd0_3, wr0_3, rd0_4, wr0_4, rd0_5, wr0_5, rd0_6, wr0_6, rd0_7, wr0_7, rd0_8, wr0_8, rd0_9, wr0_9, rd0_10, wr0_10, rd0_11, wr0_11, rd0_12, wr0_12, rd0_13, wr0_13, rd0_14, wr0_14, rd0_15, wr0_15, rd0_16, wr0_16, rd1_0, wr1_0, rd1_1, wr1_1, rd4_0, wr4_0, wI_1, r0, r1, r12, r13, r41, r42, x0, x1, x12, x13, x41, x42, l2, l3, l5, l6, z2, z3, z5, z6, m36, m12, ot0, ot1, ot2, ot3, ot4, ot5, ot6]
  rw [cp_row M b _ 5 18 12 (M (b2 + 5)) (by decide)]
  simp only [wI_M, tk_0, tk_1, tk_2, tk_3, tk_4, tk_5, tk_6, tk_7, tk_8, tk_9, tk_10, tk_11, tk_12, tk_13, tk_14, tk_15, tk_16, tk_17, rd0_2, wr0_2, rd0_3, wr0_3, rd0_4, wr0_4, rd0_5, wr0_5, rd0_6, wr0_6, rd0_7, wr0_7, rd0_8, wr0_8, rd0_9, wr0_9, rd0_10, wr0_10, rd0_11, wr0_11, rd0_12, wr0_12, rd0_13, wr0_13, rd0_14, wr0_14, rd0_15, wr0_15, rd0_16, wr0_16, rd1_0, wr1_0, rd1_1, wr1_1, rd4_0, wr4_0, wI_1, r0, r1, r12, r13, r41, r42, x0, x1, x12, x13, x41, x42, l2, l3, l5, l6, z2, z3, z5, z6, m36, m12, ot0, ot1, ot2, ot3, ot4, ot5, ot6]
  rw [cp_row M b _ 6 19 12 (M (b2 + 6)) (by decide)]
  refine sO_cg M b (fun q hq => ?_)
  have hp := ps_hi q hq
  unfold cpS
  by_cases a3 : (ps q).1 = 6 ∧ (ps q).2 < 12
  · rw [if_pos a3, if_pos (by have := hp.2.mp (Or.inr a3); omega)]
    exact (vO_at M b2 a3.1 rfl).symm
  · rw [if_neg a3]
    by_cases a2 : (ps q).1 = 5 ∧ (ps q).2 < 12
    · rw [if_pos a2, if_pos (by have := hp.2.mp (Or.inl a2); omega)]
      exact (vO_at M b2 a2.1 rfl).symm
    · rw [if_neg a2]
      have h42 : ¬ (18 ≤ q ∧ q < 42) := fun h => (hp.2.mpr h).elim a2 a3
      by_cases q2 : q = 17
      · subst q2
        rw [if_pos (by omega), pk_us]
        rfl
      · rw [pk_un q2, if_neg (by omega)]
set_option maxRecDepth 4000 in
set_option maxHeartbeats 1000000 in
theorem T_oLike {d : Nat} {S : Sc} {M : Nat → Nat → Int32} {J : Nat → Nat → Int64} {b : Nat} {σ : Rw} (hS : OdS S b) {b2 : Nat} (hS2 : OdS S b2) (hd : b2 + 7 ≤ b ∨ b + 7 ≤ b2) (B3 : vO M b2 3 = 0 ∨ vO M b2 3 = 1) (B4 : vO M b2 12 = 0 ∨ vO M b2 12 = 1) : Wp (d + 2) 21 [.ref b, .ref b2] (S, sO M b σ, J) (fun rs w' => rs = .inl none ∧ w' = (S, sO M b (vO M b2), J)) := by
  obtain ⟨⟨k0, k1, k2, k3, k4, k5, k6⟩, ⟨r0, r1, r12, r13, r41, r42⟩, l2, l3, l5, l6⟩ := id hS
  obtain ⟨⟨y0, y1, y2, y3, y4, y5, y6⟩, ⟨x0, x1, x12, x13, x41, x42⟩, z2, z3, z5, z6⟩ := id hS2
  have ot1 := fun (τ : Rw) => sO_ot M b τ (c := b2 + 1) (by omega)
  have ot2 := fun (τ : Rw) => sO_ot M b τ (c := b2 + 2) (by omega)
  have ot3 := fun (τ : Rw) => sO_ot M b τ (c := b2 + 3) (by omega)
  have ot4 := fun (τ : Rw) => sO_ot M b τ (c := b2 + 4) (by omega)
  have ot5 := fun (τ : Rw) => sO_ot M b τ (c := b2 + 5) (by omega)
  have ot6 := fun (τ : Rw) => sO_ot M b τ (c := b2 + 6) (by omega)
  have ot0 := fun (τ : Rw) => sO_ot M b τ (c := b2) (by omega)
  refine ⟨rfl, ?_⟩
  refine EE.runN (stop := noStop) 120 _ ?_
  refine ⟨by simp only [wI_1, r0, r1, r12, r13, r41, r42, x0, x1, x12, x13, x41, x42, k0, k1, k2, k3, k4, k5, k6, y0, y1, y2, y3, y4, y5, y6] <;> first | rfl | decide, ?_⟩
  refine ⟨by simp only [wI_1, r0, r1, r12, r13, r41, r42, x0, x1, x12, x13, x41, x42, k0, k1, k2, k3, k4, k5, k6, y0, y1, y2, y3, y4, y5, y6] <;> first | rfl | decide, ?_⟩
  refine ⟨⟨Nat.le_of_ble_eq_true rfl, Nat.le_of_ble_eq_true rfl, Nat.le_of_ble_eq_true rfl⟩, by simp only [wI_1, r0, r1, r12, r13, r41, r42, x0, x1, x12, x13, x41, x42, k0, k1, k2, k3, k4, k5, k6, y0, y1, y2, y3, y4, y5, y6] <;> first | rfl | decide, _, T_cLike hS r0 x0 hS2 hd, ?_⟩
  rintro _ _ ⟨rfl, rfl⟩
  refine ⟨Or.inl rfl, ?_⟩
  refine ⟨by simp only [wI_1, r0, r1, r12, r13, r41, r42, x0, x1, x12, x13, x41, x42, k0, k1, k2, k3, k4, k5, k6, y0, y1, y2, y3, y4, y5, y6] <;> first | rfl | decide, ?_⟩
  refine ⟨by simp only [wI_1, r0, r1, r12, r13, r41, r42, x0, x1, x12, x13, x41, x42, k0, k1, k2, k3, k4, k5, k6, y0, y1, y2, y3, y4, y5, y6] <;> first | rfl | decide, ?_⟩
  refine ⟨⟨Nat.le_of_ble_eq_true rfl, Nat.le_of_ble_eq_true rfl, Nat.le_of_ble_eq_true rfl⟩, by simp only [wI_1, r0, r1, r12, r13, r41, r42, x0, x1, x12, x13, x41, x42, k0, k1, k2, k3, k4, k5, k6, y0, y1, y2, y3, y4, y5, y6] <;> first | rfl | decide, _, T_sLike hS r1 x1 hS2 hd, ?_⟩
  rintro _ _ ⟨rfl, rfl⟩
  refine ⟨Or.inl rfl, ?_⟩
  refine ⟨by simp only [wI_1, r0, r1, r12, r13, r41, r42, x0, x1, x12, x13, x41, x42, k0, k1, k2, k3, k4, k5, k6, y0, y1, y2, y3, y4, y5, y6] <;> first | rfl | decide, ?_⟩
  refine ⟨by simp only [wI_1, r0, r1, r12, r13, r41, r42, x0, x1, x12, x13, x41, x42, k0, k1, k2, k3, k4, k5, k6, y0, y1, y2, y3, y4, y5, y6] <;> first | rfl | decide, trivial, ?_⟩
  refine ⟨by simp only [wI_1, r0, r1, r12, r13, r41, r42, x0, x1, x12, x13, x41, x42, k0, k1, k2, k3, k4, k5, k6, y0, y1, y2, y3, y4, y5, y6] <;> first | rfl | decide, ?_⟩
  refine ⟨by simp only [wI_1, r0, r1, r12, r13, r41, r42, x0, x1, x12, x13, x41, x42, k0, k1, k2, k3, k4, k5, k6, y0, y1, y2, y3, y4, y5, y6] <;> first | rfl | decide, (by show _ ∨ _; simp only [wI_M, tk_0, tk_1, tk_2, tk_3, tk_4, tk_5, tk_6, tk_7, tk_8, tk_9, tk_10, tk_11, tk_12, tk_13, tk_14, tk_15, tk_16, tk_17, rd0_2, wr0_2, rd0_3, wr0_3, rd0_4, wr0_4, rd0_5, wr0_5, rd0_6, wr0_6, rd0_7, wr0_7, rd0_8, wr0_8, rd0_9, wr0_9, rd0_10, wr0_10, rd0_11, wr0_11, rd0_12, wr0_12, rd0_13, wr0_13, rd0_14, wr0_14, rd0_15, wr0_15, rd0_16, wr0_16, rd1_0, wr1_0, rd1_1, wr1_1, rd4_0, wr4_0, wI_1, r0, r1, r12, r13, r41, r42, x0, x1, x12, x13, x41, x42, l2, l3, l5, l6, z2, z3, z5, z6, m36, m12, ot0, ot1, ot2, ot3, ot4, ot5, ot6]; exact B3), ?_⟩
  refine ⟨by simp only [wI_1, r0, r1, r12, r13, r41, r42, x0, x1, x12, x13, x41, x42, k0, k1, k2, k3, k4, k5, k6, y0, y1, y2, y3, y4, y5, y6] <;> first | rfl | decide, ?_⟩
  refine ⟨by simp only [wI_1, r0, r1, r12, r13, r41, r42, x0, x1, x12, x13, x41, x42, k0, k1, k2, k3, k4, k5, k6, y0, y1, y2, y3, y4, y5, y6] <;> first | rfl | decide, (by show _ ∨ _; simp only [wI_M, tk_0, tk_1, tk_2, tk_3, tk_4, tk_5, tk_6, tk_7, tk_8, tk_9, tk_10, tk_11, tk_12, tk_13, tk_14, tk_15, tk_16, tk_17, rd0_2, wr0_2, rd0_3, wr0_3, rd0_4, wr0_4, rd0_5, wr0_5, rd0_6, wr0_6, rd0_7, wr0_7, rd0_8, wr0_8, rd0_9, wr0_9, rd0_10, wr0_10, rd0_11, wr0_11, rd0_12, wr0_12, rd0_13, wr0_13, rd0_14, wr0_14, rd0_15, wr0_15, rd0_16, wr0_16, rd1_0, wr1_0, rd1_1, wr1_1, rd4_0, wr4_0, wI_1, r0, r1, r12, r13, r41, r42, x0, x1, x12, x13, x41, x42, l2, l3, l5, l6, z2, z3, z5, z6, m36, m12, ot0, ot1, ot2, ot3, ot4, ot5, ot6]; exact B4), ?_⟩
  refine ⟨by simp only [wI_1, r0, r1, r12, r13, r41, r42, x0, x1, x12, x13, x41, x42, k0, k1, k2, k3, k4, k5, k6, y0, y1, y2, y3, y4, y5, y6] <;> first | rfl | decide, ?_⟩
  refine ⟨by simp only [wI_1, r0, r1, r12, r13, r41, r42, x0, x1, x12, x13, x41, x42, k0, k1, k2, k3, k4, k5, k6, y0, y1, y2, y3, y4, y5, y6] <;> first | rfl | decide, trivial, ?_⟩
  refine ⟨by simp only [wI_1, r0, r1, r12, r13, r41, r42, x0, x1, x12, x13, x41, x42, k0, k1, k2, k3, k4, k5, k6, y0, y1, y2, y3, y4, y5, y6] <;> first | rfl | decide, ?_⟩
  refine ⟨by simp only [wI_1, r0, r1, r12, r13, r41, r42, x0, x1, x12, x13, x41, x42, k0, k1, k2, k3, k4, k5, k6, y0, y1, y2, y3, y4, y5, y6] <;> first | rfl | decide, trivial, ?_⟩
  refine ⟨by simp only [wI_1, r0, r1, r12, r13, r41, r42, x0, x1, x12, x13, x41, x42, k0, k1, k2, k3, k4, k5, k6, y0, y1, y2, y3, y4, y5, y6] <;> first | rfl | decide, ?_⟩
  refine ⟨by simp only [wI_1, r0, r1, r12, r13, r41, r42, x0, x1, x12, x13, x41, x42, k0, k1, k2, k3, k4, k5, k6, y0, y1, y2, y3, y4, y5, y6] <;> first | rfl | decide, trivial, ?_⟩
  refine ⟨by simp only [wI_1, r0, r1, r12, r13, r41, r42, x0, x1, x12, x13, x41, x42, k0, k1, k2, k3, k4, k5, k6, y0, y1, y2, y3, y4, y5, y6] <;> first | rfl | decide, ?_⟩
  refine ⟨by simp only [wI_1, r0, r1, r12, r13, r41, r42, x0, x1, x12, x13, x41, x42, k0, k1, k2, k3, k4, k5, k6, y0, y1, y2, y3, y4, y5, y6] <;> first | rfl | decide, trivial, ?_⟩
  refine ⟨by simp only [wI_1, r0, r1, r12, r13, r41, r42, x0, x1, x12, x13, x41, x42, k0, k1, k2, k3, k4, k5, k6, y0, y1, y2, y3, y4, y5, y6] <;> first | rfl | decide, ?_⟩
  refine ⟨by simp only [wI_1, r0, r1, r12, r13, r41, r42, x0, x1, x12, x13, x41, x42, k0, k1, k2, k3, k4, k5, k6, y0, y1, y2, y3, y4, y5, y6] <;> first | rfl | decide, trivial, ?_⟩
  refine ⟨by simp only [wI_1, r0, r1, r12, r13, r41, r42, x0, x1, x12, x13, x41, x42, k0, k1, k2, k3, k4, k5, k6, y0, y1, y2, y3, y4, y5, y6] <;> first | rfl | decide, ?_⟩
  refine ⟨by simp only [wI_1, r0, r1, r12, r13, r41, r42, x0, x1, x12, x13, x41, x42, k0, k1, k2, k3, k4, k5, k6, y0, y1, y2, y3, y4, y5, y6] <;> first | rfl | decide, trivial, ?_⟩
  refine ⟨by simp only [wI_1, r0, r1, r12, r13, r41, r42, x0, x1, x12, x13, x41, x42, k0, k1, k2, k3, k4, k5, k6, y0, y1, y2, y3, y4, y5, y6] <;> first | rfl | decide, ?_⟩
  refine ⟨by simp only [wI_1, r0, r1, r12, r13, r41, r42, x0, x1, x12, x13, x41, x42, k0, k1, k2, k3, k4, k5, k6, y0, y1, y2, y3, y4, y5, y6] <;> first | rfl | decide, trivial, ?_⟩
  refine ⟨by simp only [wI_1, r0, r1, r12, r13, r41, r42, x0, x1, x12, x13, x41, x42, k0, k1, k2, k3, k4, k5, k6, y0, y1, y2, y3, y4, y5, y6] <;> first | rfl | decide, ?_⟩
  refine ⟨by simp only [wI_1, r0, r1, r12, r13, r41, r42, x0, x1, x12, x13, x41, x42, k0, k1, k2, k3, k4, k5, k6, y0, y1, y2, y3, y4, y5, y6] <;> first | rfl | decide, trivial, ?_⟩
  refine ⟨by simp only [wI_1, r0, r1, r12, r13, r41, r42, x0, x1, x12, x13, x41, x42, k0, k1, k2, k3, k4, k5, k6, y0, y1, y2, y3, y4, y5, y6] <;> first | rfl | decide, ?_⟩
  refine ⟨by simp only [wI_1, r0, r1, r12, r13, r41, r42, x0, x1, x12, x13, x41, x42, k0, k1, k2, k3, k4, k5, k6, y0, y1, y2, y3, y4, y5, y6] <;> first | rfl | decide, trivial, ?_⟩
  refine ⟨by simp only [wI_1, r0, r1, r12, r13, r41, r42, x0, x1, x12, x13, x41, x42, k0, k1, k2, k3, k4, k5, k6, y0, y1, y2, y3, y4, y5, y6] <;> first | rfl | decide, ?_⟩
  refine ⟨by simp only [wI_1, r0, r1, r12, r13, r41, r42, x0, x1, x12, x13, x41, x42, k0, k1, k2, k3, k4, k5, k6, y0, y1, y2, y3, y4, y5, y6] <;> first | rfl | decide, trivial, ?_⟩
  refine ⟨by simp only [wI_1, r0, r1, r12, r13, r41, r42, x0, x1, x12, x13, x41, x42, k0, k1, k2, k3, k4, k5, k6, y0, y1, y2, y3, y4, y5, y6] <;> first | rfl | decide, ?_⟩
  refine ⟨by simp only [wI_1, r0, r1, r12, r13, r41, r42, x0, x1, x12, x13, x41, x42, k0, k1, k2, k3, k4, k5, k6, y0, y1, y2, y3, y4, y5, y6] <;> first | rfl | decide, trivial, ?_⟩
  refine ⟨by simp only [wI_1, r0, r1, r12, r13, r41, r42, x0, x1, x12, x13, x41, x42, k0, k1, k2, k3, k4, k5, k6, y0, y1, y2, y3, y4, y5, y6] <;> first | rfl | decide, ?_⟩
  refine ⟨by simp only [wI_1, r0, r1, r12, r13, r41, r42, x0, x1, x12, x13, x41, x42, k0, k1, k2, k3, k4, k5, k6, y0, y1, y2, y3, y4, y5, y6] <;> first | rfl | decide, trivial, ?_⟩
  refine ⟨⟨Nat.zero_le _, Nat.zero_le _⟩, rfl, ?_⟩
  show (S, _, J) = (S, _, J)
  refine congrArg (fun m => (S, m, J)) ?_
  simp only [wI_M, tk_0, tk_1, tk_2, tk_3, tk_4, tk_5, tk_6, tk_7, tk_8, tk_9, tk_10, tk_11, tk_12, tk_13, tk_14, tk_15, tk_16, tk_17, rd0_2, wr0_2, rd0_3, wr0_3, rd0_4, wr0_4, rd0_5, wr0_5, rd0_6, wr0_6, rd0_7, wr0_7, rd0_8, wr0_8, rd0_9, wr0_9, rd0_10, wr0_10, rd0_11, wr0_11, rd0_12, wr0_12, rd0_13, wr0_13, rd0_14, wr0_14, rd0_15, wr0_15, rd0_16, wr0_16, rd1_0, wr1_0, rd1_1, wr1_1, rd4_0, wr4_0, wI_1, r0, r1, r12, r13, r41, r42, x0, x1, x12, x13, x41, x42, l2, l3, l5, l6, z2, z3, z5, z6, m36, m12, ot0, ot1, ot2, ot3, ot4, ot5, ot6]
  refine sO_cg M b (fun q hq => ?_)
  unfold upd cpS cpC
  by_cases e16 : q = 16
  · subst e16
    rfl
  rw [if_neg e16]
  by_cases e15 : q = 15
  · subst e15
    rfl
  rw [if_neg e15]
  by_cases e14 : q = 14
  · subst e14
    rfl
  rw [if_neg e14]
  by_cases e13 : q = 13
  · subst e13
    rfl
  rw [if_neg e13]
  by_cases e11 : q = 11
  · subst e11
    rfl
  rw [if_neg e11]
  by_cases e10 : q = 10
  · subst e10
    rfl
  rw [if_neg e10]
  by_cases e9 : q = 9
  · subst e9
    rfl
  rw [if_neg e9]
  by_cases e8 : q = 8
  · subst e8
    rfl
  rw [if_neg e8]
  by_cases e5 : q = 5
  · subst e5
    rfl
  rw [if_neg e5]
  by_cases e7 : q = 7
  · subst e7
    rfl
  rw [if_neg e7]
  by_cases e6 : q = 6
  · subst e6
    rfl
  rw [if_neg e6]
  by_cases e4 : q = 4
  · subst e4
    rfl
  rw [if_neg e4]
  by_cases e12 : q = 12
  · subst e12
    rfl
  rw [if_neg e12]
  by_cases e3 : q = 3
  · subst e3
    rfl
  rw [if_neg e3]
  by_cases e1 : q = 1
  · subst e1
    rfl
  rw [if_neg e1]
  by_cases f1 : 17 ≤ q ∧ q < 42
  · rw [if_pos f1]
  rw [if_neg f1]
  rw [if_pos (by omega)]
