/-! THE LAW: its questions: written by wip/whole/pure3.py -/
def AllS (S : Sc) : Prop := RgS S ∧ MoS S ∧ (S.2.1 144 = 10 ∧ S.2.2.1 144 = 1)
theorem cdl3 {n : Nat} (h : n = 1 ∨ n = 2 ∨ n = 0) : n < 3 := by omega
theorem cdl2 {n : Nat} (h : n = 1 ∨ n = 0) : n < 3 := by omega
set_option maxRecDepth 100000 in
set_option maxHeartbeats 4000000 in
theorem K_4 {S : Sc} {M : Nat → Nat → Int32} {J : Nat → Nat → Int64} {xs : Nat → Int32} {L kk B nc ns : Nat} (hA : AllS S) (h : LG B M) (hB : B < 800000) (hk : 4 * kk + 3 < L) (hL2 : L ≤ 2048) (hnc : nc ≤ 600000) (hns : ns ≤ 7000000) (hN : ∀ M' J' nc' ns', LG (B + 1000) M' → nc' ≤ nc + 1 → ns' ≤ ns + 6 → EE (SL xs L) (23, [(0, .ref 1000001), (1, .ref 1), (2, .ref 137), (3, .ref 144), (4, .int (nI (4 * (kk + 1))))], [], (S, M', J'), nc', ns')) : EE (SL xs L) (290, [(0, .ref 1000001), (1, .ref 1), (2, .ref 137), (3, .ref 144), (4, .int (nI (4 * kk)))], [], (S, M, J), nc, ns) := by
  obtain ⟨hR, hM, hL⟩ := hA
  obtain ⟨⟨n_, τ, c1, c2⟩, h2, ⟨a, y, ha, hy, h180, h181, h11, a6⟩, h4⟩ := id h
  have hI : I2 B (vO M 4) := h2.1.I2 h2.2
  obtain ⟨n, hn3, hn, e0, e1, e2, e3⟩ := h2.n
  have hc17 := h2.2.cnt
  have hBB : B < 1000000 := by omega
  refine EE.runN (stop := atPc [23]) 90 _ ?_
  refine ⟨(by rw [o_1, nI_add]; exact vp_in_nI (show 4 * kk + 1 < L by omega) (by omega)), ?_⟩
  refine ⟨⟨Nat.le_of_ble_eq_true rfl, (by have a0 : (mjT 172).1 = 1 := rfl; have b0 : (mjT 172).2 = 6 := rfl; have a1 : (mjT 138).1 = 0 := rfl; have b1 : (mjT 138).2 = 0 := rfl; have a2 : (mjT 98).1 = 0 := rfl; have b2 : (mjT 98).2 = 0 := rfl; omega), (by have a0 : (mjT 172).1 = 1 := rfl; have b0 : (mjT 172).2 = 6 := rfl; have a1 : (mjT 138).1 = 0 := rfl; have b1 : (mjT 138).2 = 0 := rfl; have a2 : (mjT 98).1 = 0 := rfl; have b2 : (mjT 98).2 = 0 := rfl; omega)⟩, _, H_about hR hI hL, ?_⟩
  rintro rs1_ w1_ ⟨M1, J1, rfl, hw1, hP1, hv1⟩
  subst hw1
  have e139 : M1 139 = M 139 := funext fun q => hP1 139 q ⟨by omega, by omega, fun h_ => by omega, fun h_ => by omega⟩
  have g0 : M1 139 0 = nI (M 139 0).toNatClampNeg := by rw [e139, e2]; exact e0
  have g17 : M1 139 17 = nI (M 139 17).toNatClampNeg := by rw [e139]; exact hc17.1
  have gm : (M 139 17).toNatClampNeg ≤ 12 := hc17.2
  have gok : Rok (M1 139) := by rw [e139]; exact h2.2.1.1
  have gI : I2 B (M1 139) := by rw [e139]; exact h2.2
  refine ⟨Or.inl rfl, ?_⟩
  refine ⟨(by rw [o_1, nI_add]; exact vp_in_nI (show 4 * kk + 1 < L by omega) (by omega)), ?_⟩
  refine ⟨⟨Nat.le_of_ble_eq_true rfl, (by have a0 : (mjT 172).1 = 1 := rfl; have b0 : (mjT 172).2 = 6 := rfl; have a1 : (mjT 138).1 = 0 := rfl; have b1 : (mjT 138).2 = 0 := rfl; have a2 : (mjT 98).1 = 0 := rfl; have b2 : (mjT 98).2 = 0 := rfl; omega), (by have a0 : (mjT 172).1 = 1 := rfl; have b0 : (mjT 172).2 = 6 := rfl; have a1 : (mjT 138).1 = 0 := rfl; have b1 : (mjT 138).2 = 0 := rfl; have a2 : (mjT 98).1 = 0 := rfl; have b2 : (mjT 98).2 = 0 := rfl; omega)⟩, by simp only [hM.1.1, hR.2.2.2.1.1, hL.1] <;> first | rfl | decide, _, R_about hM g0 (by omega) (by omega), ?_⟩
  rintro rs2_ w2_ ⟨v, M2, rfl, hw2, m0, mv, hJ2⟩
  subst hw2
  rw [e139, ← eq_about h2] at m0 mv
  have hG : LG (B + 1000) M2 := (LG_jk h (hP1.tr hJ2)).mono (by omega)
  have hcd : (aAbout (vO M 4) (vO M 4 0).toNatClampNeg (xs (nI (4 * kk) + 1).toNatClampNeg)).1 < 3 := cdl2 (cod_about)
  refine ⟨Or.inl rfl, ?_⟩
  refine ⟨⟨Nat.le_of_ble_eq_true rfl, (by have a0 : (mjT 172).1 = 1 := rfl; have b0 : (mjT 172).2 = 6 := rfl; have a1 : (mjT 138).1 = 0 := rfl; have b1 : (mjT 138).2 = 0 := rfl; have a2 : (mjT 98).1 = 0 := rfl; have b2 : (mjT 98).2 = 0 := rfl; omega), (by have a0 : (mjT 172).1 = 1 := rfl; have b0 : (mjT 172).2 = 6 := rfl; have a1 : (mjT 138).1 = 0 := rfl; have b1 : (mjT 138).2 = 0 := rfl; have a2 : (mjT 98).1 = 0 := rfl; have b2 : (mjT 98).2 = 0 := rfl; omega)⟩, by simp only [hM.1.1, hR.2.2.2.1.1, hL.1] <;> first | rfl | decide, _, T_thrown hM, ?_⟩
  rintro rs3_ w3_ ⟨rfl, rfl⟩
  refine ⟨Or.inl rfl, ?_⟩
  refine ⟨fun h1 => ?_, fun h1 => ?_⟩
  · refine ⟨fun h2 => ?_, fun h2 => ?_⟩
    · refine ee_at (nt := nzT 195) [(0, .ref 1000001), (1, .ref 1), (2, .ref 137), (3, .ref 144), (4, .int (nI (4 * (kk + 1))))] (S, M2, J1) rfl (by rw [show nI (4 * (kk + 1)) = nI (4 * kk) + 4 from by rw [o_4, nI_add]; rfl]; rfl) rfl (hN M2 J1 _ _ hG (by have a0 : (mjT 172).1 = 1 := rfl; have b0 : (mjT 172).2 = 6 := rfl; have a1 : (mjT 138).1 = 0 := rfl; have b1 : (mjT 138).2 = 0 := rfl; have a2 : (mjT 98).1 = 0 := rfl; have b2 : (mjT 98).2 = 0 := rfl; omega) (by have a0 : (mjT 172).1 = 1 := rfl; have b0 : (mjT 172).2 = 6 := rfl; have a1 : (mjT 138).1 = 0 := rfl; have b1 : (mjT 138).2 = 0 := rfl; have a2 : (mjT 98).1 = 0 := rfl; have b2 : (mjT 98).2 = 0 := rfl; omega))
    · refine ⟨by simp only [hM.1.1, hR.2.2.2.1.1, hL.1] <;> first | rfl | decide, (by simp only [hL.2]; exact vp_in_nI (show 0 < 1 by omega) (by omega)), ?_⟩
      refine ⟨fun h3 => ?_, fun h3 => ?_⟩
      · refine ee_at (nt := nzT 195) [(0, .ref 1000001), (1, .ref 1), (2, .ref 137), (3, .ref 144), (4, .int (nI (4 * (kk + 1))))] (S, M2, J1) rfl (by rw [show nI (4 * (kk + 1)) = nI (4 * kk) + 4 from by rw [o_4, nI_add]; rfl]; rfl) rfl (hN M2 J1 _ _ hG (by have a0 : (mjT 172).1 = 1 := rfl; have b0 : (mjT 172).2 = 6 := rfl; have a1 : (mjT 138).1 = 0 := rfl; have b1 : (mjT 138).2 = 0 := rfl; have a2 : (mjT 98).1 = 0 := rfl; have b2 : (mjT 98).2 = 0 := rfl; omega) (by have a0 : (mjT 172).1 = 1 := rfl; have b0 : (mjT 172).2 = 6 := rfl; have a1 : (mjT 138).1 = 0 := rfl; have b1 : (mjT 138).2 = 0 := rfl; have a2 : (mjT 98).1 = 0 := rfl; have b2 : (mjT 98).2 = 0 := rfl; omega))
      · (have hz : (aAbout (vO M 4) (vO M 4 0).toNatClampNeg (xs (nI (4 * kk) + 1).toNatClampNeg)).1 = 0 := (n0 (by omega)).mp h2; have h_ := h3; exact absurd (cmp0.mpr (show J1 144 0 = v.toInt64 by rw [hv1 hz, mv hz])) h_)
  · (have h_ := h1; exact absurd m0 h_)
set_option maxRecDepth 100000 in
set_option maxHeartbeats 4000000 in
theorem K_5 {S : Sc} {M : Nat → Nat → Int32} {J : Nat → Nat → Int64} {xs : Nat → Int32} {L kk B nc ns : Nat} (hA : AllS S) (h : LG B M) (hB : B < 800000) (hk : 4 * kk + 3 < L) (hL2 : L ≤ 2048) (hnc : nc ≤ 600000) (hns : ns ≤ 7000000) (hN : ∀ M' J' nc' ns', LG (B + 1000) M' → nc' ≤ nc + 1 → ns' ≤ ns + 6 → EE (SL xs L) (23, [(0, .ref 1000001), (1, .ref 1), (2, .ref 137), (3, .ref 144), (4, .int (nI (4 * (kk + 1))))], [], (S, M', J'), nc', ns')) : EE (SL xs L) (346, [(0, .ref 1000001), (1, .ref 1), (2, .ref 137), (3, .ref 144), (4, .int (nI (4 * kk)))], [], (S, M, J), nc, ns) := by
  obtain ⟨hR, hM, hL⟩ := hA
  obtain ⟨⟨n_, τ, c1, c2⟩, h2, ⟨a, y, ha, hy, h180, h181, h11, a6⟩, h4⟩ := id h
  have hI : I2 B (vO M 4) := h2.1.I2 h2.2
  obtain ⟨n, hn3, hn, e0, e1, e2, e3⟩ := h2.n
  have hc17 := h2.2.cnt
  have hBB : B < 1000000 := by omega
  refine EE.runN (stop := atPc [23]) 90 _ ?_
  refine ⟨(by rw [o_1, nI_add]; exact vp_in_nI (show 4 * kk + 1 < L by omega) (by omega)), ?_⟩
  refine ⟨(by rw [o_2, nI_add]; exact vp_in_nI (show 4 * kk + 2 < L by omega) (by omega)), ?_⟩
  refine ⟨(by rw [o_3, nI_add]; exact vp_in_nI (show 4 * kk + 3 < L by omega) (by omega)), ?_⟩
  refine ⟨⟨Nat.le_of_ble_eq_true rfl, (by have a0 : (mjT 173).1 = 1 := rfl; have b0 : (mjT 173).2 = 6 := rfl; have a1 : (mjT 140).1 = 0 := rfl; have b1 : (mjT 140).2 = 0 := rfl; have a2 : (mjT 98).1 = 0 := rfl; have b2 : (mjT 98).2 = 0 := rfl; omega), (by have a0 : (mjT 173).1 = 1 := rfl; have b0 : (mjT 173).2 = 6 := rfl; have a1 : (mjT 140).1 = 0 := rfl; have b1 : (mjT 140).2 = 0 := rfl; have a2 : (mjT 98).1 = 0 := rfl; have b2 : (mjT 98).2 = 0 := rfl; omega)⟩, _, H_cell hR hI hL, ?_⟩
  rintro rs1_ w1_ ⟨M1, J1, rfl, hw1, hP1, hv1⟩
  subst hw1
  have e139 : M1 139 = M 139 := funext fun q => hP1 139 q ⟨by omega, by omega, fun h_ => by omega, fun h_ => by omega⟩
  have g0 : M1 139 0 = nI (M 139 0).toNatClampNeg := by rw [e139, e2]; exact e0
  have g17 : M1 139 17 = nI (M 139 17).toNatClampNeg := by rw [e139]; exact hc17.1
  have gm : (M 139 17).toNatClampNeg ≤ 12 := hc17.2
  have gok : Rok (M1 139) := by rw [e139]; exact h2.2.1.1
  have gI : I2 B (M1 139) := by rw [e139]; exact h2.2
  refine ⟨Or.inl rfl, ?_⟩
  refine ⟨(by rw [o_1, nI_add]; exact vp_in_nI (show 4 * kk + 1 < L by omega) (by omega)), ?_⟩
  refine ⟨(by rw [o_2, nI_add]; exact vp_in_nI (show 4 * kk + 2 < L by omega) (by omega)), ?_⟩
  refine ⟨(by rw [o_3, nI_add]; exact vp_in_nI (show 4 * kk + 3 < L by omega) (by omega)), ?_⟩
  refine ⟨⟨Nat.le_of_ble_eq_true rfl, (by have a0 : (mjT 173).1 = 1 := rfl; have b0 : (mjT 173).2 = 6 := rfl; have a1 : (mjT 140).1 = 0 := rfl; have b1 : (mjT 140).2 = 0 := rfl; have a2 : (mjT 98).1 = 0 := rfl; have b2 : (mjT 98).2 = 0 := rfl; omega), (by have a0 : (mjT 173).1 = 1 := rfl; have b0 : (mjT 173).2 = 6 := rfl; have a1 : (mjT 140).1 = 0 := rfl; have b1 : (mjT 140).2 = 0 := rfl; have a2 : (mjT 98).1 = 0 := rfl; have b2 : (mjT 98).2 = 0 := rfl; omega)⟩, by simp only [hM.1.1, hR.2.2.2.1.1, hL.1] <;> first | rfl | decide, _, R_cell hM g0 (by omega) (by omega), ?_⟩
  rintro rs2_ w2_ ⟨v, M2, rfl, hw2, m0, mv, hJ2⟩
  subst hw2
  rw [e139, ← eq_cell h2] at m0 mv
  have hG : LG (B + 1000) M2 := (LG_jk h (hP1.tr hJ2)).mono (by omega)
  have hcd : (aCell (vO M 4) (vO M 4 0).toNatClampNeg (xs (nI (4 * kk) + 1).toNatClampNeg) (xs (nI (4 * kk) + 2).toNatClampNeg) (xs (nI (4 * kk) + 3).toNatClampNeg)).1 < 3 := cdl3 (cod_cell)
  refine ⟨Or.inl rfl, ?_⟩
  refine ⟨⟨Nat.le_of_ble_eq_true rfl, (by have a0 : (mjT 173).1 = 1 := rfl; have b0 : (mjT 173).2 = 6 := rfl; have a1 : (mjT 140).1 = 0 := rfl; have b1 : (mjT 140).2 = 0 := rfl; have a2 : (mjT 98).1 = 0 := rfl; have b2 : (mjT 98).2 = 0 := rfl; omega), (by have a0 : (mjT 173).1 = 1 := rfl; have b0 : (mjT 173).2 = 6 := rfl; have a1 : (mjT 140).1 = 0 := rfl; have b1 : (mjT 140).2 = 0 := rfl; have a2 : (mjT 98).1 = 0 := rfl; have b2 : (mjT 98).2 = 0 := rfl; omega)⟩, by simp only [hM.1.1, hR.2.2.2.1.1, hL.1] <;> first | rfl | decide, _, T_thrown hM, ?_⟩
  rintro rs3_ w3_ ⟨rfl, rfl⟩
  refine ⟨Or.inl rfl, ?_⟩
  refine ⟨fun h1 => ?_, fun h1 => ?_⟩
  · refine ⟨fun h2 => ?_, fun h2 => ?_⟩
    · refine ee_at (nt := nzT 195) [(0, .ref 1000001), (1, .ref 1), (2, .ref 137), (3, .ref 144), (4, .int (nI (4 * (kk + 1))))] (S, M2, J1) rfl (by rw [show nI (4 * (kk + 1)) = nI (4 * kk) + 4 from by rw [o_4, nI_add]; rfl]; rfl) rfl (hN M2 J1 _ _ hG (by have a0 : (mjT 173).1 = 1 := rfl; have b0 : (mjT 173).2 = 6 := rfl; have a1 : (mjT 140).1 = 0 := rfl; have b1 : (mjT 140).2 = 0 := rfl; have a2 : (mjT 98).1 = 0 := rfl; have b2 : (mjT 98).2 = 0 := rfl; omega) (by have a0 : (mjT 173).1 = 1 := rfl; have b0 : (mjT 173).2 = 6 := rfl; have a1 : (mjT 140).1 = 0 := rfl; have b1 : (mjT 140).2 = 0 := rfl; have a2 : (mjT 98).1 = 0 := rfl; have b2 : (mjT 98).2 = 0 := rfl; omega))
    · refine ⟨by simp only [hM.1.1, hR.2.2.2.1.1, hL.1] <;> first | rfl | decide, (by simp only [hL.2]; exact vp_in_nI (show 0 < 1 by omega) (by omega)), ?_⟩
      refine ⟨fun h3 => ?_, fun h3 => ?_⟩
      · refine ee_at (nt := nzT 195) [(0, .ref 1000001), (1, .ref 1), (2, .ref 137), (3, .ref 144), (4, .int (nI (4 * (kk + 1))))] (S, M2, J1) rfl (by rw [show nI (4 * (kk + 1)) = nI (4 * kk) + 4 from by rw [o_4, nI_add]; rfl]; rfl) rfl (hN M2 J1 _ _ hG (by have a0 : (mjT 173).1 = 1 := rfl; have b0 : (mjT 173).2 = 6 := rfl; have a1 : (mjT 140).1 = 0 := rfl; have b1 : (mjT 140).2 = 0 := rfl; have a2 : (mjT 98).1 = 0 := rfl; have b2 : (mjT 98).2 = 0 := rfl; omega) (by have a0 : (mjT 173).1 = 1 := rfl; have b0 : (mjT 173).2 = 6 := rfl; have a1 : (mjT 140).1 = 0 := rfl; have b1 : (mjT 140).2 = 0 := rfl; have a2 : (mjT 98).1 = 0 := rfl; have b2 : (mjT 98).2 = 0 := rfl; omega))
      · (have hz : (aCell (vO M 4) (vO M 4 0).toNatClampNeg (xs (nI (4 * kk) + 1).toNatClampNeg) (xs (nI (4 * kk) + 2).toNatClampNeg) (xs (nI (4 * kk) + 3).toNatClampNeg)).1 = 0 := (n0 (by omega)).mp h2; have h_ := h3; exact absurd (cmp0.mpr (show J1 144 0 = v.toInt64 by rw [hv1 hz, mv hz])) h_)
  · (have h_ := h1; exact absurd m0 h_)
set_option maxRecDepth 100000 in
set_option maxHeartbeats 4000000 in
theorem K_6 {S : Sc} {M : Nat → Nat → Int32} {J : Nat → Nat → Int64} {xs : Nat → Int32} {L kk B nc ns : Nat} (hA : AllS S) (h : LG B M) (hB : B < 800000) (hk : 4 * kk + 3 < L) (hL2 : L ≤ 2048) (hnc : nc ≤ 600000) (hns : ns ≤ 7000000) (hN : ∀ M' J' nc' ns', LG (B + 1000) M' → nc' ≤ nc + 1 → ns' ≤ ns + 6 → EE (SL xs L) (23, [(0, .ref 1000001), (1, .ref 1), (2, .ref 137), (3, .ref 144), (4, .int (nI (4 * (kk + 1))))], [], (S, M', J'), nc', ns')) : EE (SL xs L) (426, [(0, .ref 1000001), (1, .ref 1), (2, .ref 137), (3, .ref 144), (4, .int (nI (4 * kk)))], [], (S, M, J), nc, ns) := by
  obtain ⟨hR, hM, hL⟩ := hA
  obtain ⟨⟨n_, τ, c1, c2⟩, h2, ⟨a, y, ha, hy, h180, h181, h11, a6⟩, h4⟩ := id h
  have hI : I2 B (vO M 4) := h2.1.I2 h2.2
  obtain ⟨n, hn3, hn, e0, e1, e2, e3⟩ := h2.n
  have hc17 := h2.2.cnt
  have hBB : B < 1000000 := by omega
  refine EE.runN (stop := atPc [23]) 90 _ ?_
  refine ⟨(by rw [o_1, nI_add]; exact vp_in_nI (show 4 * kk + 1 < L by omega) (by omega)), ?_⟩
  refine ⟨⟨Nat.le_of_ble_eq_true rfl, (by have a0 : (mjT 174).1 = 1 := rfl; have b0 : (mjT 174).2 = 6 := rfl; have a1 : (mjT 141).1 = 0 := rfl; have b1 : (mjT 141).2 = 0 := rfl; have a2 : (mjT 98).1 = 0 := rfl; have b2 : (mjT 98).2 = 0 := rfl; omega), (by have a0 : (mjT 174).1 = 1 := rfl; have b0 : (mjT 174).2 = 6 := rfl; have a1 : (mjT 141).1 = 0 := rfl; have b1 : (mjT 141).2 = 0 := rfl; have a2 : (mjT 98).1 = 0 := rfl; have b2 : (mjT 98).2 = 0 := rfl; omega)⟩, _, H_says hR hI hL, ?_⟩
  rintro rs1_ w1_ ⟨M1, J1, rfl, hw1, hP1, hv1⟩
  subst hw1
  have e139 : M1 139 = M 139 := funext fun q => hP1 139 q ⟨by omega, by omega, fun h_ => by omega, fun h_ => by omega⟩
  have g0 : M1 139 0 = nI (M 139 0).toNatClampNeg := by rw [e139, e2]; exact e0
  have g17 : M1 139 17 = nI (M 139 17).toNatClampNeg := by rw [e139]; exact hc17.1
  have gm : (M 139 17).toNatClampNeg ≤ 12 := hc17.2
  have gok : Rok (M1 139) := by rw [e139]; exact h2.2.1.1
  have gI : I2 B (M1 139) := by rw [e139]; exact h2.2
  refine ⟨Or.inl rfl, ?_⟩
  refine ⟨(by rw [o_1, nI_add]; exact vp_in_nI (show 4 * kk + 1 < L by omega) (by omega)), ?_⟩
  refine ⟨⟨Nat.le_of_ble_eq_true rfl, (by have a0 : (mjT 174).1 = 1 := rfl; have b0 : (mjT 174).2 = 6 := rfl; have a1 : (mjT 141).1 = 0 := rfl; have b1 : (mjT 141).2 = 0 := rfl; have a2 : (mjT 98).1 = 0 := rfl; have b2 : (mjT 98).2 = 0 := rfl; omega), (by have a0 : (mjT 174).1 = 1 := rfl; have b0 : (mjT 174).2 = 6 := rfl; have a1 : (mjT 141).1 = 0 := rfl; have b1 : (mjT 141).2 = 0 := rfl; have a2 : (mjT 98).1 = 0 := rfl; have b2 : (mjT 98).2 = 0 := rfl; omega)⟩, by simp only [hM.1.1, hR.2.2.2.1.1, hL.1] <;> first | rfl | decide, _, R_says hM g0 (by omega) (by omega), ?_⟩
  rintro rs2_ w2_ ⟨v, M2, rfl, hw2, m0, mv, hJ2⟩
  subst hw2
  rw [e139, ← eq_says h2] at m0 mv
  have hG : LG (B + 1000) M2 := (LG_jk h (hP1.tr hJ2)).mono (by omega)
  have hcd : (aSays (vO M 4) (vO M 4 0).toNatClampNeg (xs (nI (4 * kk) + 1).toNatClampNeg)).1 < 3 := cdl2 (cod_says)
  refine ⟨Or.inl rfl, ?_⟩
  refine ⟨⟨Nat.le_of_ble_eq_true rfl, (by have a0 : (mjT 174).1 = 1 := rfl; have b0 : (mjT 174).2 = 6 := rfl; have a1 : (mjT 141).1 = 0 := rfl; have b1 : (mjT 141).2 = 0 := rfl; have a2 : (mjT 98).1 = 0 := rfl; have b2 : (mjT 98).2 = 0 := rfl; omega), (by have a0 : (mjT 174).1 = 1 := rfl; have b0 : (mjT 174).2 = 6 := rfl; have a1 : (mjT 141).1 = 0 := rfl; have b1 : (mjT 141).2 = 0 := rfl; have a2 : (mjT 98).1 = 0 := rfl; have b2 : (mjT 98).2 = 0 := rfl; omega)⟩, by simp only [hM.1.1, hR.2.2.2.1.1, hL.1] <;> first | rfl | decide, _, T_thrown hM, ?_⟩
  rintro rs3_ w3_ ⟨rfl, rfl⟩
  refine ⟨Or.inl rfl, ?_⟩
  refine ⟨fun h1 => ?_, fun h1 => ?_⟩
  · refine ⟨fun h2 => ?_, fun h2 => ?_⟩
    · refine ee_at (nt := nzT 195) [(0, .ref 1000001), (1, .ref 1), (2, .ref 137), (3, .ref 144), (4, .int (nI (4 * (kk + 1))))] (S, M2, J1) rfl (by rw [show nI (4 * (kk + 1)) = nI (4 * kk) + 4 from by rw [o_4, nI_add]; rfl]; rfl) rfl (hN M2 J1 _ _ hG (by have a0 : (mjT 174).1 = 1 := rfl; have b0 : (mjT 174).2 = 6 := rfl; have a1 : (mjT 141).1 = 0 := rfl; have b1 : (mjT 141).2 = 0 := rfl; have a2 : (mjT 98).1 = 0 := rfl; have b2 : (mjT 98).2 = 0 := rfl; omega) (by have a0 : (mjT 174).1 = 1 := rfl; have b0 : (mjT 174).2 = 6 := rfl; have a1 : (mjT 141).1 = 0 := rfl; have b1 : (mjT 141).2 = 0 := rfl; have a2 : (mjT 98).1 = 0 := rfl; have b2 : (mjT 98).2 = 0 := rfl; omega))
    · refine ⟨by simp only [hM.1.1, hR.2.2.2.1.1, hL.1] <;> first | rfl | decide, (by simp only [hL.2]; exact vp_in_nI (show 0 < 1 by omega) (by omega)), ?_⟩
      refine ⟨fun h3 => ?_, fun h3 => ?_⟩
      · refine ee_at (nt := nzT 195) [(0, .ref 1000001), (1, .ref 1), (2, .ref 137), (3, .ref 144), (4, .int (nI (4 * (kk + 1))))] (S, M2, J1) rfl (by rw [show nI (4 * (kk + 1)) = nI (4 * kk) + 4 from by rw [o_4, nI_add]; rfl]; rfl) rfl (hN M2 J1 _ _ hG (by have a0 : (mjT 174).1 = 1 := rfl; have b0 : (mjT 174).2 = 6 := rfl; have a1 : (mjT 141).1 = 0 := rfl; have b1 : (mjT 141).2 = 0 := rfl; have a2 : (mjT 98).1 = 0 := rfl; have b2 : (mjT 98).2 = 0 := rfl; omega) (by have a0 : (mjT 174).1 = 1 := rfl; have b0 : (mjT 174).2 = 6 := rfl; have a1 : (mjT 141).1 = 0 := rfl; have b1 : (mjT 141).2 = 0 := rfl; have a2 : (mjT 98).1 = 0 := rfl; have b2 : (mjT 98).2 = 0 := rfl; omega))
      · (have hz : (aSays (vO M 4) (vO M 4 0).toNatClampNeg (xs (nI (4 * kk) + 1).toNatClampNeg)).1 = 0 := (n0 (by omega)).mp h2; have h_ := h3; exact absurd (cmp0.mpr (show J1 144 0 = v.toInt64 by rw [hv1 hz, mv hz])) h_)
  · (have h_ := h1; exact absurd m0 h_)
set_option maxRecDepth 100000 in
set_option maxHeartbeats 4000000 in
theorem K_7 {S : Sc} {M : Nat → Nat → Int32} {J : Nat → Nat → Int64} {xs : Nat → Int32} {L kk B nc ns : Nat} (hA : AllS S) (h : LG B M) (hB : B < 800000) (hk : 4 * kk + 3 < L) (hL2 : L ≤ 2048) (hnc : nc ≤ 600000) (hns : ns ≤ 7000000) (hN : ∀ M' J' nc' ns', LG (B + 1000) M' → nc' ≤ nc + 1 → ns' ≤ ns + 6 → EE (SL xs L) (23, [(0, .ref 1000001), (1, .ref 1), (2, .ref 137), (3, .ref 144), (4, .int (nI (4 * (kk + 1))))], [], (S, M', J'), nc', ns')) : EE (SL xs L) (482, [(0, .ref 1000001), (1, .ref 1), (2, .ref 137), (3, .ref 144), (4, .int (nI (4 * kk)))], [], (S, M, J), nc, ns) := by
  obtain ⟨hR, hM, hL⟩ := hA
  obtain ⟨⟨n_, τ, c1, c2⟩, h2, ⟨a, y, ha, hy, h180, h181, h11, a6⟩, h4⟩ := id h
  have hI : I2 B (vO M 4) := h2.1.I2 h2.2
  obtain ⟨n, hn3, hn, e0, e1, e2, e3⟩ := h2.n
  have hc17 := h2.2.cnt
  have hBB : B < 1000000 := by omega
  refine EE.runN (stop := atPc [23]) 90 _ ?_
  refine ⟨(by rw [o_1, nI_add]; exact vp_in_nI (show 4 * kk + 1 < L by omega) (by omega)), ?_⟩
  refine ⟨⟨Nat.le_of_ble_eq_true rfl, (by have a0 : (mjT 175).1 = 1 := rfl; have b0 : (mjT 175).2 = 6 := rfl; have a1 : (mjT 142).1 = 0 := rfl; have b1 : (mjT 142).2 = 0 := rfl; have a2 : (mjT 98).1 = 0 := rfl; have b2 : (mjT 98).2 = 0 := rfl; omega), (by have a0 : (mjT 175).1 = 1 := rfl; have b0 : (mjT 175).2 = 6 := rfl; have a1 : (mjT 142).1 = 0 := rfl; have b1 : (mjT 142).2 = 0 := rfl; have a2 : (mjT 98).1 = 0 := rfl; have b2 : (mjT 98).2 = 0 := rfl; omega)⟩, _, H_why hR hI hL, ?_⟩
  rintro rs1_ w1_ ⟨M1, J1, rfl, hw1, hP1, hv1⟩
  subst hw1
  have e139 : M1 139 = M 139 := funext fun q => hP1 139 q ⟨by omega, by omega, fun h_ => by omega, fun h_ => by omega⟩
  have g0 : M1 139 0 = nI (M 139 0).toNatClampNeg := by rw [e139, e2]; exact e0
  have g17 : M1 139 17 = nI (M 139 17).toNatClampNeg := by rw [e139]; exact hc17.1
  have gm : (M 139 17).toNatClampNeg ≤ 12 := hc17.2
  have gok : Rok (M1 139) := by rw [e139]; exact h2.2.1.1
  have gI : I2 B (M1 139) := by rw [e139]; exact h2.2
  refine ⟨Or.inl rfl, ?_⟩
  refine ⟨(by rw [o_1, nI_add]; exact vp_in_nI (show 4 * kk + 1 < L by omega) (by omega)), ?_⟩
  refine ⟨⟨Nat.le_of_ble_eq_true rfl, (by have a0 : (mjT 175).1 = 1 := rfl; have b0 : (mjT 175).2 = 6 := rfl; have a1 : (mjT 142).1 = 0 := rfl; have b1 : (mjT 142).2 = 0 := rfl; have a2 : (mjT 98).1 = 0 := rfl; have b2 : (mjT 98).2 = 0 := rfl; omega), (by have a0 : (mjT 175).1 = 1 := rfl; have b0 : (mjT 175).2 = 6 := rfl; have a1 : (mjT 142).1 = 0 := rfl; have b1 : (mjT 142).2 = 0 := rfl; have a2 : (mjT 98).1 = 0 := rfl; have b2 : (mjT 98).2 = 0 := rfl; omega)⟩, by simp only [hM.1.1, hR.2.2.2.1.1, hL.1] <;> first | rfl | decide, _, R_why hM g0 (by omega) (by omega), ?_⟩
  rintro rs2_ w2_ ⟨v, M2, rfl, hw2, m0, mv, hJ2⟩
  subst hw2
  rw [e139, ← eq_why h2] at m0 mv
  have hG : LG (B + 1000) M2 := (LG_jk h (hP1.tr hJ2)).mono (by omega)
  have hcd : (aWhy (vO M 4) (vO M 4 0).toNatClampNeg (xs (nI (4 * kk) + 1).toNatClampNeg)).1 < 3 := cdl2 (cod_why)
  refine ⟨Or.inl rfl, ?_⟩
  refine ⟨⟨Nat.le_of_ble_eq_true rfl, (by have a0 : (mjT 175).1 = 1 := rfl; have b0 : (mjT 175).2 = 6 := rfl; have a1 : (mjT 142).1 = 0 := rfl; have b1 : (mjT 142).2 = 0 := rfl; have a2 : (mjT 98).1 = 0 := rfl; have b2 : (mjT 98).2 = 0 := rfl; omega), (by have a0 : (mjT 175).1 = 1 := rfl; have b0 : (mjT 175).2 = 6 := rfl; have a1 : (mjT 142).1 = 0 := rfl; have b1 : (mjT 142).2 = 0 := rfl; have a2 : (mjT 98).1 = 0 := rfl; have b2 : (mjT 98).2 = 0 := rfl; omega)⟩, by simp only [hM.1.1, hR.2.2.2.1.1, hL.1] <;> first | rfl | decide, _, T_thrown hM, ?_⟩
  rintro rs3_ w3_ ⟨rfl, rfl⟩
  refine ⟨Or.inl rfl, ?_⟩
  refine ⟨fun h1 => ?_, fun h1 => ?_⟩
  · refine ⟨fun h2 => ?_, fun h2 => ?_⟩
    · refine ee_at (nt := nzT 195) [(0, .ref 1000001), (1, .ref 1), (2, .ref 137), (3, .ref 144), (4, .int (nI (4 * (kk + 1))))] (S, M2, J1) rfl (by rw [show nI (4 * (kk + 1)) = nI (4 * kk) + 4 from by rw [o_4, nI_add]; rfl]; rfl) rfl (hN M2 J1 _ _ hG (by have a0 : (mjT 175).1 = 1 := rfl; have b0 : (mjT 175).2 = 6 := rfl; have a1 : (mjT 142).1 = 0 := rfl; have b1 : (mjT 142).2 = 0 := rfl; have a2 : (mjT 98).1 = 0 := rfl; have b2 : (mjT 98).2 = 0 := rfl; omega) (by have a0 : (mjT 175).1 = 1 := rfl; have b0 : (mjT 175).2 = 6 := rfl; have a1 : (mjT 142).1 = 0 := rfl; have b1 : (mjT 142).2 = 0 := rfl; have a2 : (mjT 98).1 = 0 := rfl; have b2 : (mjT 98).2 = 0 := rfl; omega))
    · refine ⟨by simp only [hM.1.1, hR.2.2.2.1.1, hL.1] <;> first | rfl | decide, (by simp only [hL.2]; exact vp_in_nI (show 0 < 1 by omega) (by omega)), ?_⟩
      refine ⟨fun h3 => ?_, fun h3 => ?_⟩
      · refine ee_at (nt := nzT 195) [(0, .ref 1000001), (1, .ref 1), (2, .ref 137), (3, .ref 144), (4, .int (nI (4 * (kk + 1))))] (S, M2, J1) rfl (by rw [show nI (4 * (kk + 1)) = nI (4 * kk) + 4 from by rw [o_4, nI_add]; rfl]; rfl) rfl (hN M2 J1 _ _ hG (by have a0 : (mjT 175).1 = 1 := rfl; have b0 : (mjT 175).2 = 6 := rfl; have a1 : (mjT 142).1 = 0 := rfl; have b1 : (mjT 142).2 = 0 := rfl; have a2 : (mjT 98).1 = 0 := rfl; have b2 : (mjT 98).2 = 0 := rfl; omega) (by have a0 : (mjT 175).1 = 1 := rfl; have b0 : (mjT 175).2 = 6 := rfl; have a1 : (mjT 142).1 = 0 := rfl; have b1 : (mjT 142).2 = 0 := rfl; have a2 : (mjT 98).1 = 0 := rfl; have b2 : (mjT 98).2 = 0 := rfl; omega))
      · (have hz : (aWhy (vO M 4) (vO M 4 0).toNatClampNeg (xs (nI (4 * kk) + 1).toNatClampNeg)).1 = 0 := (n0 (by omega)).mp h2; have h_ := h3; exact absurd (cmp0.mpr (show J1 144 0 = v.toInt64 by rw [hv1 hz, mv hz])) h_)
  · (have h_ := h1; exact absurd m0 h_)
set_option maxRecDepth 100000 in
set_option maxHeartbeats 4000000 in
theorem K_8 {S : Sc} {M : Nat → Nat → Int32} {J : Nat → Nat → Int64} {xs : Nat → Int32} {L kk B nc ns : Nat} (hA : AllS S) (h : LG B M) (hB : B < 800000) (hk : 4 * kk + 3 < L) (hL2 : L ≤ 2048) (hnc : nc ≤ 600000) (hns : ns ≤ 7000000) (hN : ∀ M' J' nc' ns', LG (B + 1000) M' → nc' ≤ nc + 1 → ns' ≤ ns + 6 → EE (SL xs L) (23, [(0, .ref 1000001), (1, .ref 1), (2, .ref 137), (3, .ref 144), (4, .int (nI (4 * (kk + 1))))], [], (S, M', J'), nc', ns')) : EE (SL xs L) (538, [(0, .ref 1000001), (1, .ref 1), (2, .ref 137), (3, .ref 144), (4, .int (nI (4 * kk)))], [], (S, M, J), nc, ns) := by
  obtain ⟨hR, hM, hL⟩ := hA
  obtain ⟨⟨n_, τ, c1, c2⟩, h2, ⟨a, y, ha, hy, h180, h181, h11, a6⟩, h4⟩ := id h
  have hI : I2 B (vO M 4) := h2.1.I2 h2.2
  obtain ⟨n, hn3, hn, e0, e1, e2, e3⟩ := h2.n
  have hc17 := h2.2.cnt
  have hBB : B < 1000000 := by omega
  refine EE.runN (stop := atPc [23]) 90 _ ?_
  refine ⟨(by rw [o_1, nI_add]; exact vp_in_nI (show 4 * kk + 1 < L by omega) (by omega)), ?_⟩
  refine ⟨⟨Nat.le_of_ble_eq_true rfl, (by have a0 : (mjT 176).1 = 1 := rfl; have b0 : (mjT 176).2 = 6 := rfl; have a1 : (mjT 143).1 = 0 := rfl; have b1 : (mjT 143).2 = 0 := rfl; have a2 : (mjT 98).1 = 0 := rfl; have b2 : (mjT 98).2 = 0 := rfl; omega), (by have a0 : (mjT 176).1 = 1 := rfl; have b0 : (mjT 176).2 = 6 := rfl; have a1 : (mjT 143).1 = 0 := rfl; have b1 : (mjT 143).2 = 0 := rfl; have a2 : (mjT 98).1 = 0 := rfl; have b2 : (mjT 98).2 = 0 := rfl; omega)⟩, _, H_share hR hI hL, ?_⟩
  rintro rs1_ w1_ ⟨M1, J1, rfl, hw1, hP1, hv1⟩
  subst hw1
  have e139 : M1 139 = M 139 := funext fun q => hP1 139 q ⟨by omega, by omega, fun h_ => by omega, fun h_ => by omega⟩
  have g0 : M1 139 0 = nI (M 139 0).toNatClampNeg := by rw [e139, e2]; exact e0
  have g17 : M1 139 17 = nI (M 139 17).toNatClampNeg := by rw [e139]; exact hc17.1
  have gm : (M 139 17).toNatClampNeg ≤ 12 := hc17.2
  have gok : Rok (M1 139) := by rw [e139]; exact h2.2.1.1
  have gI : I2 B (M1 139) := by rw [e139]; exact h2.2
  refine ⟨Or.inl rfl, ?_⟩
  refine ⟨(by rw [o_1, nI_add]; exact vp_in_nI (show 4 * kk + 1 < L by omega) (by omega)), ?_⟩
  refine ⟨⟨Nat.le_of_ble_eq_true rfl, (by have a0 : (mjT 176).1 = 1 := rfl; have b0 : (mjT 176).2 = 6 := rfl; have a1 : (mjT 143).1 = 0 := rfl; have b1 : (mjT 143).2 = 0 := rfl; have a2 : (mjT 98).1 = 0 := rfl; have b2 : (mjT 98).2 = 0 := rfl; omega), (by have a0 : (mjT 176).1 = 1 := rfl; have b0 : (mjT 176).2 = 6 := rfl; have a1 : (mjT 143).1 = 0 := rfl; have b1 : (mjT 143).2 = 0 := rfl; have a2 : (mjT 98).1 = 0 := rfl; have b2 : (mjT 98).2 = 0 := rfl; omega)⟩, by simp only [hM.1.1, hR.2.2.2.1.1, hL.1] <;> first | rfl | decide, _, R_share hM g0 (by omega) (by omega), ?_⟩
  rintro rs2_ w2_ ⟨v, M2, rfl, hw2, m0, mv, hJ2⟩
  subst hw2
  rw [e139, ← eq_share h2] at m0 mv
  have hG : LG (B + 1000) M2 := (LG_jk h (hP1.tr hJ2)).mono (by omega)
  have hcd : (aShare (vO M 4) (vO M 4 0).toNatClampNeg (xs (nI (4 * kk) + 1).toNatClampNeg)).1 < 3 := cdl2 (cod_share)
  refine ⟨Or.inl rfl, ?_⟩
  refine ⟨⟨Nat.le_of_ble_eq_true rfl, (by have a0 : (mjT 176).1 = 1 := rfl; have b0 : (mjT 176).2 = 6 := rfl; have a1 : (mjT 143).1 = 0 := rfl; have b1 : (mjT 143).2 = 0 := rfl; have a2 : (mjT 98).1 = 0 := rfl; have b2 : (mjT 98).2 = 0 := rfl; omega), (by have a0 : (mjT 176).1 = 1 := rfl; have b0 : (mjT 176).2 = 6 := rfl; have a1 : (mjT 143).1 = 0 := rfl; have b1 : (mjT 143).2 = 0 := rfl; have a2 : (mjT 98).1 = 0 := rfl; have b2 : (mjT 98).2 = 0 := rfl; omega)⟩, by simp only [hM.1.1, hR.2.2.2.1.1, hL.1] <;> first | rfl | decide, _, T_thrown hM, ?_⟩
  rintro rs3_ w3_ ⟨rfl, rfl⟩
  refine ⟨Or.inl rfl, ?_⟩
  refine ⟨fun h1 => ?_, fun h1 => ?_⟩
  · refine ⟨fun h2 => ?_, fun h2 => ?_⟩
    · refine ee_at (nt := nzT 195) [(0, .ref 1000001), (1, .ref 1), (2, .ref 137), (3, .ref 144), (4, .int (nI (4 * (kk + 1))))] (S, M2, J1) rfl (by rw [show nI (4 * (kk + 1)) = nI (4 * kk) + 4 from by rw [o_4, nI_add]; rfl]; rfl) rfl (hN M2 J1 _ _ hG (by have a0 : (mjT 176).1 = 1 := rfl; have b0 : (mjT 176).2 = 6 := rfl; have a1 : (mjT 143).1 = 0 := rfl; have b1 : (mjT 143).2 = 0 := rfl; have a2 : (mjT 98).1 = 0 := rfl; have b2 : (mjT 98).2 = 0 := rfl; omega) (by have a0 : (mjT 176).1 = 1 := rfl; have b0 : (mjT 176).2 = 6 := rfl; have a1 : (mjT 143).1 = 0 := rfl; have b1 : (mjT 143).2 = 0 := rfl; have a2 : (mjT 98).1 = 0 := rfl; have b2 : (mjT 98).2 = 0 := rfl; omega))
    · refine ⟨by simp only [hM.1.1, hR.2.2.2.1.1, hL.1] <;> first | rfl | decide, (by simp only [hL.2]; exact vp_in_nI (show 0 < 1 by omega) (by omega)), ?_⟩
      refine ⟨fun h3 => ?_, fun h3 => ?_⟩
      · refine ee_at (nt := nzT 195) [(0, .ref 1000001), (1, .ref 1), (2, .ref 137), (3, .ref 144), (4, .int (nI (4 * (kk + 1))))] (S, M2, J1) rfl (by rw [show nI (4 * (kk + 1)) = nI (4 * kk) + 4 from by rw [o_4, nI_add]; rfl]; rfl) rfl (hN M2 J1 _ _ hG (by have a0 : (mjT 176).1 = 1 := rfl; have b0 : (mjT 176).2 = 6 := rfl; have a1 : (mjT 143).1 = 0 := rfl; have b1 : (mjT 143).2 = 0 := rfl; have a2 : (mjT 98).1 = 0 := rfl; have b2 : (mjT 98).2 = 0 := rfl; omega) (by have a0 : (mjT 176).1 = 1 := rfl; have b0 : (mjT 176).2 = 6 := rfl; have a1 : (mjT 143).1 = 0 := rfl; have b1 : (mjT 143).2 = 0 := rfl; have a2 : (mjT 98).1 = 0 := rfl; have b2 : (mjT 98).2 = 0 := rfl; omega))
      · (have hz : (aShare (vO M 4) (vO M 4 0).toNatClampNeg (xs (nI (4 * kk) + 1).toNatClampNeg)).1 = 0 := (n0 (by omega)).mp h2; have h_ := h3; exact absurd (cmp0.mpr (show J1 144 0 = v.toInt64 by rw [hv1 hz, mv hz])) h_)
  · (have h_ := h1; exact absurd m0 h_)
set_option maxRecDepth 100000 in
set_option maxHeartbeats 4000000 in
theorem K_9 {S : Sc} {M : Nat → Nat → Int32} {J : Nat → Nat → Int64} {xs : Nat → Int32} {L kk B nc ns : Nat} (hA : AllS S) (h : LG B M) (hB : B < 800000) (hk : 4 * kk + 3 < L) (hL2 : L ≤ 2048) (hnc : nc ≤ 600000) (hns : ns ≤ 7000000) (hN : ∀ M' J' nc' ns', LG (B + 1000) M' → nc' ≤ nc + 1 → ns' ≤ ns + 6 → EE (SL xs L) (23, [(0, .ref 1000001), (1, .ref 1), (2, .ref 137), (3, .ref 144), (4, .int (nI (4 * (kk + 1))))], [], (S, M', J'), nc', ns')) : EE (SL xs L) (594, [(0, .ref 1000001), (1, .ref 1), (2, .ref 137), (3, .ref 144), (4, .int (nI (4 * kk)))], [], (S, M, J), nc, ns) := by
  obtain ⟨hR, hM, hL⟩ := hA
  obtain ⟨⟨n_, τ, c1, c2⟩, h2, ⟨a, y, ha, hy, h180, h181, h11, a6⟩, h4⟩ := id h
  have hI : I2 B (vO M 4) := h2.1.I2 h2.2
  obtain ⟨n, hn3, hn, e0, e1, e2, e3⟩ := h2.n
  have hc17 := h2.2.cnt
  have hBB : B < 1000000 := by omega
  refine EE.runN (stop := atPc [23]) 90 _ ?_
  refine ⟨(by rw [o_1, nI_add]; exact vp_in_nI (show 4 * kk + 1 < L by omega) (by omega)), ?_⟩
  refine ⟨(by rw [o_2, nI_add]; exact vp_in_nI (show 4 * kk + 2 < L by omega) (by omega)), ?_⟩
  refine ⟨⟨Nat.le_of_ble_eq_true rfl, (by have a0 : (mjT 177).1 = 1 := rfl; have b0 : (mjT 177).2 = 6 := rfl; have a1 : (mjT 144).1 = 0 := rfl; have b1 : (mjT 144).2 = 0 := rfl; have a2 : (mjT 98).1 = 0 := rfl; have b2 : (mjT 98).2 = 0 := rfl; omega), (by have a0 : (mjT 177).1 = 1 := rfl; have b0 : (mjT 177).2 = 6 := rfl; have a1 : (mjT 144).1 = 0 := rfl; have b1 : (mjT 144).2 = 0 := rfl; have a2 : (mjT 98).1 = 0 := rfl; have b2 : (mjT 98).2 = 0 := rfl; omega)⟩, _, H_serviceAt hR hI hL, ?_⟩
  rintro rs1_ w1_ ⟨M1, J1, rfl, hw1, hP1, hv1⟩
  subst hw1
  have e139 : M1 139 = M 139 := funext fun q => hP1 139 q ⟨by omega, by omega, fun h_ => by omega, fun h_ => by omega⟩
  have g0 : M1 139 0 = nI (M 139 0).toNatClampNeg := by rw [e139, e2]; exact e0
  have g17 : M1 139 17 = nI (M 139 17).toNatClampNeg := by rw [e139]; exact hc17.1
  have gm : (M 139 17).toNatClampNeg ≤ 12 := hc17.2
  have gok : Rok (M1 139) := by rw [e139]; exact h2.2.1.1
  have gI : I2 B (M1 139) := by rw [e139]; exact h2.2
  refine ⟨Or.inl rfl, ?_⟩
  refine ⟨(by rw [o_1, nI_add]; exact vp_in_nI (show 4 * kk + 1 < L by omega) (by omega)), ?_⟩
  refine ⟨(by rw [o_2, nI_add]; exact vp_in_nI (show 4 * kk + 2 < L by omega) (by omega)), ?_⟩
  refine ⟨⟨Nat.le_of_ble_eq_true rfl, (by have a0 : (mjT 177).1 = 1 := rfl; have b0 : (mjT 177).2 = 6 := rfl; have a1 : (mjT 144).1 = 0 := rfl; have b1 : (mjT 144).2 = 0 := rfl; have a2 : (mjT 98).1 = 0 := rfl; have b2 : (mjT 98).2 = 0 := rfl; omega), (by have a0 : (mjT 177).1 = 1 := rfl; have b0 : (mjT 177).2 = 6 := rfl; have a1 : (mjT 144).1 = 0 := rfl; have b1 : (mjT 144).2 = 0 := rfl; have a2 : (mjT 98).1 = 0 := rfl; have b2 : (mjT 98).2 = 0 := rfl; omega)⟩, by simp only [hM.1.1, hR.2.2.2.1.1, hL.1] <;> first | rfl | decide, _, R_serviceAt hM g17 gm, ?_⟩
  rintro rs2_ w2_ ⟨v, M2, rfl, hw2, m0, mv, hJ2⟩
  subst hw2
  rw [e139, ← eq_serv h2] at m0 mv
  have hG : LG (B + 1000) M2 := (LG_jk h (hP1.tr hJ2)).mono (by omega)
  have hcd : (aServ (vO M 4) (xs (nI (4 * kk) + 1).toNatClampNeg) (xs (nI (4 * kk) + 2).toNatClampNeg)).1 < 3 := cdl2 (cod_serviceAt)
  refine ⟨Or.inl rfl, ?_⟩
  refine ⟨⟨Nat.le_of_ble_eq_true rfl, (by have a0 : (mjT 177).1 = 1 := rfl; have b0 : (mjT 177).2 = 6 := rfl; have a1 : (mjT 144).1 = 0 := rfl; have b1 : (mjT 144).2 = 0 := rfl; have a2 : (mjT 98).1 = 0 := rfl; have b2 : (mjT 98).2 = 0 := rfl; omega), (by have a0 : (mjT 177).1 = 1 := rfl; have b0 : (mjT 177).2 = 6 := rfl; have a1 : (mjT 144).1 = 0 := rfl; have b1 : (mjT 144).2 = 0 := rfl; have a2 : (mjT 98).1 = 0 := rfl; have b2 : (mjT 98).2 = 0 := rfl; omega)⟩, by simp only [hM.1.1, hR.2.2.2.1.1, hL.1] <;> first | rfl | decide, _, T_thrown hM, ?_⟩
  rintro rs3_ w3_ ⟨rfl, rfl⟩
  refine ⟨Or.inl rfl, ?_⟩
  refine ⟨fun h1 => ?_, fun h1 => ?_⟩
  · refine ⟨fun h2 => ?_, fun h2 => ?_⟩
    · refine ee_at (nt := nzT 195) [(0, .ref 1000001), (1, .ref 1), (2, .ref 137), (3, .ref 144), (4, .int (nI (4 * (kk + 1))))] (S, M2, J1) rfl (by rw [show nI (4 * (kk + 1)) = nI (4 * kk) + 4 from by rw [o_4, nI_add]; rfl]; rfl) rfl (hN M2 J1 _ _ hG (by have a0 : (mjT 177).1 = 1 := rfl; have b0 : (mjT 177).2 = 6 := rfl; have a1 : (mjT 144).1 = 0 := rfl; have b1 : (mjT 144).2 = 0 := rfl; have a2 : (mjT 98).1 = 0 := rfl; have b2 : (mjT 98).2 = 0 := rfl; omega) (by have a0 : (mjT 177).1 = 1 := rfl; have b0 : (mjT 177).2 = 6 := rfl; have a1 : (mjT 144).1 = 0 := rfl; have b1 : (mjT 144).2 = 0 := rfl; have a2 : (mjT 98).1 = 0 := rfl; have b2 : (mjT 98).2 = 0 := rfl; omega))
    · refine ⟨by simp only [hM.1.1, hR.2.2.2.1.1, hL.1] <;> first | rfl | decide, (by simp only [hL.2]; exact vp_in_nI (show 0 < 1 by omega) (by omega)), ?_⟩
      refine ⟨fun h3 => ?_, fun h3 => ?_⟩
      · refine ee_at (nt := nzT 195) [(0, .ref 1000001), (1, .ref 1), (2, .ref 137), (3, .ref 144), (4, .int (nI (4 * (kk + 1))))] (S, M2, J1) rfl (by rw [show nI (4 * (kk + 1)) = nI (4 * kk) + 4 from by rw [o_4, nI_add]; rfl]; rfl) rfl (hN M2 J1 _ _ hG (by have a0 : (mjT 177).1 = 1 := rfl; have b0 : (mjT 177).2 = 6 := rfl; have a1 : (mjT 144).1 = 0 := rfl; have b1 : (mjT 144).2 = 0 := rfl; have a2 : (mjT 98).1 = 0 := rfl; have b2 : (mjT 98).2 = 0 := rfl; omega) (by have a0 : (mjT 177).1 = 1 := rfl; have b0 : (mjT 177).2 = 6 := rfl; have a1 : (mjT 144).1 = 0 := rfl; have b1 : (mjT 144).2 = 0 := rfl; have a2 : (mjT 98).1 = 0 := rfl; have b2 : (mjT 98).2 = 0 := rfl; omega))
      · (have hz : (aServ (vO M 4) (xs (nI (4 * kk) + 1).toNatClampNeg) (xs (nI (4 * kk) + 2).toNatClampNeg)).1 = 0 := (n0 (by omega)).mp h2; have h_ := h3; exact absurd (cmp0.mpr (show J1 144 0 = v.toInt64 by rw [hv1 hz, mv hz])) h_)
  · (have h_ := h1; exact absurd m0 h_)
set_option maxRecDepth 100000 in
set_option maxHeartbeats 4000000 in
theorem K_10 {S : Sc} {M : Nat → Nat → Int32} {J : Nat → Nat → Int64} {xs : Nat → Int32} {L kk B nc ns : Nat} (hA : AllS S) (h : LG B M) (hB : B < 800000) (hk : 4 * kk + 3 < L) (hL2 : L ≤ 2048) (hnc : nc ≤ 600000) (hns : ns ≤ 7000000) (hN : ∀ M' J' nc' ns', LG (B + 1000) M' → nc' ≤ nc + 1 → ns' ≤ ns + 6 → EE (SL xs L) (23, [(0, .ref 1000001), (1, .ref 1), (2, .ref 137), (3, .ref 144), (4, .int (nI (4 * (kk + 1))))], [], (S, M', J'), nc', ns')) : EE (SL xs L) (662, [(0, .ref 1000001), (1, .ref 1), (2, .ref 137), (3, .ref 144), (4, .int (nI (4 * kk)))], [], (S, M, J), nc, ns) := by
  obtain ⟨hR, hM, hL⟩ := hA
  obtain ⟨⟨n_, τ, c1, c2⟩, h2, ⟨a, y, ha, hy, h180, h181, h11, a6⟩, h4⟩ := id h
  have hI : I2 B (vO M 4) := h2.1.I2 h2.2
  obtain ⟨n, hn3, hn, e0, e1, e2, e3⟩ := h2.n
  have hc17 := h2.2.cnt
  have hBB : B < 1000000 := by omega
  refine EE.runN (stop := atPc [23]) 90 _ ?_
  refine ⟨(by rw [o_1, nI_add]; exact vp_in_nI (show 4 * kk + 1 < L by omega) (by omega)), ?_⟩
  refine ⟨⟨Nat.le_of_ble_eq_true rfl, (by have a0 : (mjT 178).1 = 1 := rfl; have b0 : (mjT 178).2 = 6 := rfl; have a1 : (mjT 145).1 = 0 := rfl; have b1 : (mjT 145).2 = 0 := rfl; have a2 : (mjT 98).1 = 0 := rfl; have b2 : (mjT 98).2 = 0 := rfl; omega), (by have a0 : (mjT 178).1 = 1 := rfl; have b0 : (mjT 178).2 = 6 := rfl; have a1 : (mjT 145).1 = 0 := rfl; have b1 : (mjT 145).2 = 0 := rfl; have a2 : (mjT 98).1 = 0 := rfl; have b2 : (mjT 98).2 = 0 := rfl; omega)⟩, _, H_lastCut hR hI hL, ?_⟩
  rintro rs1_ w1_ ⟨M1, J1, rfl, hw1, hP1, hv1⟩
  subst hw1
  have e139 : M1 139 = M 139 := funext fun q => hP1 139 q ⟨by omega, by omega, fun h_ => by omega, fun h_ => by omega⟩
  have g0 : M1 139 0 = nI (M 139 0).toNatClampNeg := by rw [e139, e2]; exact e0
  have g17 : M1 139 17 = nI (M 139 17).toNatClampNeg := by rw [e139]; exact hc17.1
  have gm : (M 139 17).toNatClampNeg ≤ 12 := hc17.2
  have gok : Rok (M1 139) := by rw [e139]; exact h2.2.1.1
  have gI : I2 B (M1 139) := by rw [e139]; exact h2.2
  refine ⟨Or.inl rfl, ?_⟩
  refine ⟨(by rw [o_1, nI_add]; exact vp_in_nI (show 4 * kk + 1 < L by omega) (by omega)), ?_⟩
  refine ⟨⟨Nat.le_of_ble_eq_true rfl, (by have a0 : (mjT 178).1 = 1 := rfl; have b0 : (mjT 178).2 = 6 := rfl; have a1 : (mjT 145).1 = 0 := rfl; have b1 : (mjT 145).2 = 0 := rfl; have a2 : (mjT 98).1 = 0 := rfl; have b2 : (mjT 98).2 = 0 := rfl; omega), (by have a0 : (mjT 178).1 = 1 := rfl; have b0 : (mjT 178).2 = 6 := rfl; have a1 : (mjT 145).1 = 0 := rfl; have b1 : (mjT 145).2 = 0 := rfl; have a2 : (mjT 98).1 = 0 := rfl; have b2 : (mjT 98).2 = 0 := rfl; omega)⟩, by simp only [hM.1.1, hR.2.2.2.1.1, hL.1] <;> first | rfl | decide, _, R_lastCut hM, ?_⟩
  rintro rs2_ w2_ ⟨v, M2, rfl, hw2, m0, mv, hJ2⟩
  subst hw2
  rw [e139, ← eq_last h2] at m0 mv
  have hG : LG (B + 1000) M2 := (LG_jk h (hP1.tr hJ2)).mono (by omega)
  have hcd : (aLast (vO M 4) (xs (nI (4 * kk) + 1).toNatClampNeg)).1 < 3 := cdl2 (cod_lastCut)
  refine ⟨Or.inl rfl, ?_⟩
  refine ⟨⟨Nat.le_of_ble_eq_true rfl, (by have a0 : (mjT 178).1 = 1 := rfl; have b0 : (mjT 178).2 = 6 := rfl; have a1 : (mjT 145).1 = 0 := rfl; have b1 : (mjT 145).2 = 0 := rfl; have a2 : (mjT 98).1 = 0 := rfl; have b2 : (mjT 98).2 = 0 := rfl; omega), (by have a0 : (mjT 178).1 = 1 := rfl; have b0 : (mjT 178).2 = 6 := rfl; have a1 : (mjT 145).1 = 0 := rfl; have b1 : (mjT 145).2 = 0 := rfl; have a2 : (mjT 98).1 = 0 := rfl; have b2 : (mjT 98).2 = 0 := rfl; omega)⟩, by simp only [hM.1.1, hR.2.2.2.1.1, hL.1] <;> first | rfl | decide, _, T_thrown hM, ?_⟩
  rintro rs3_ w3_ ⟨rfl, rfl⟩
  refine ⟨Or.inl rfl, ?_⟩
  refine ⟨fun h1 => ?_, fun h1 => ?_⟩
  · refine ⟨fun h2 => ?_, fun h2 => ?_⟩
    · refine ee_at (nt := nzT 195) [(0, .ref 1000001), (1, .ref 1), (2, .ref 137), (3, .ref 144), (4, .int (nI (4 * (kk + 1))))] (S, M2, J1) rfl (by rw [show nI (4 * (kk + 1)) = nI (4 * kk) + 4 from by rw [o_4, nI_add]; rfl]; rfl) rfl (hN M2 J1 _ _ hG (by have a0 : (mjT 178).1 = 1 := rfl; have b0 : (mjT 178).2 = 6 := rfl; have a1 : (mjT 145).1 = 0 := rfl; have b1 : (mjT 145).2 = 0 := rfl; have a2 : (mjT 98).1 = 0 := rfl; have b2 : (mjT 98).2 = 0 := rfl; omega) (by have a0 : (mjT 178).1 = 1 := rfl; have b0 : (mjT 178).2 = 6 := rfl; have a1 : (mjT 145).1 = 0 := rfl; have b1 : (mjT 145).2 = 0 := rfl; have a2 : (mjT 98).1 = 0 := rfl; have b2 : (mjT 98).2 = 0 := rfl; omega))
    · refine ⟨by simp only [hM.1.1, hR.2.2.2.1.1, hL.1] <;> first | rfl | decide, (by simp only [hL.2]; exact vp_in_nI (show 0 < 1 by omega) (by omega)), ?_⟩
      refine ⟨fun h3 => ?_, fun h3 => ?_⟩
      · refine ee_at (nt := nzT 195) [(0, .ref 1000001), (1, .ref 1), (2, .ref 137), (3, .ref 144), (4, .int (nI (4 * (kk + 1))))] (S, M2, J1) rfl (by rw [show nI (4 * (kk + 1)) = nI (4 * kk) + 4 from by rw [o_4, nI_add]; rfl]; rfl) rfl (hN M2 J1 _ _ hG (by have a0 : (mjT 178).1 = 1 := rfl; have b0 : (mjT 178).2 = 6 := rfl; have a1 : (mjT 145).1 = 0 := rfl; have b1 : (mjT 145).2 = 0 := rfl; have a2 : (mjT 98).1 = 0 := rfl; have b2 : (mjT 98).2 = 0 := rfl; omega) (by have a0 : (mjT 178).1 = 1 := rfl; have b0 : (mjT 178).2 = 6 := rfl; have a1 : (mjT 145).1 = 0 := rfl; have b1 : (mjT 145).2 = 0 := rfl; have a2 : (mjT 98).1 = 0 := rfl; have b2 : (mjT 98).2 = 0 := rfl; omega))
      · (have hz : (aLast (vO M 4) (xs (nI (4 * kk) + 1).toNatClampNeg)).1 = 0 := (n0 (by omega)).mp h2; have h_ := h3; exact absurd (cmp0.mpr (show J1 144 0 = v.toInt64 by rw [hv1 hz, mv hz])) h_)
  · (have h_ := h1; exact absurd m0 h_)
set_option maxRecDepth 100000 in
set_option maxHeartbeats 4000000 in
theorem K_19 {S : Sc} {M : Nat → Nat → Int32} {J : Nat → Nat → Int64} {xs : Nat → Int32} {L kk B nc ns : Nat} (hA : AllS S) (h : LG B M) (hB : B < 800000) (hk : 4 * kk + 3 < L) (hL2 : L ≤ 2048) (hnc : nc ≤ 600000) (hns : ns ≤ 7000000) (hN : ∀ M' J' nc' ns', LG (B + 1000) M' → nc' ≤ nc + 1 → ns' ≤ ns + 6 → EE (SL xs L) (23, [(0, .ref 1000001), (1, .ref 1), (2, .ref 137), (3, .ref 144), (4, .int (nI (4 * (kk + 1))))], [], (S, M', J'), nc', ns')) : EE (SL xs L) (1178, [(0, .ref 1000001), (1, .ref 1), (2, .ref 137), (3, .ref 144), (4, .int (nI (4 * kk)))], [], (S, M, J), nc, ns) := by
  obtain ⟨hR, hM, hL⟩ := hA
  obtain ⟨⟨n_, τ, c1, c2⟩, h2, ⟨a, y, ha, hy, h180, h181, h11, a6⟩, h4⟩ := id h
  have hI : I2 B (vO M 4) := h2.1.I2 h2.2
  obtain ⟨n, hn3, hn, e0, e1, e2, e3⟩ := h2.n
  have hc17 := h2.2.cnt
  have hBB : B < 1000000 := by omega
  refine EE.runN (stop := atPc [23]) 90 _ ?_
  refine ⟨(by rw [o_1, nI_add]; exact vp_in_nI (show 4 * kk + 1 < L by omega) (by omega)), ?_⟩
  refine ⟨(by rw [o_2, nI_add]; exact vp_in_nI (show 4 * kk + 2 < L by omega) (by omega)), ?_⟩
  refine ⟨⟨Nat.le_of_ble_eq_true rfl, (by have a0 : (mjT 187).1 = 1 := rfl; have b0 : (mjT 187).2 = 6 := rfl; have a1 : (mjT 159).1 = 0 := rfl; have b1 : (mjT 159).2 = 0 := rfl; have a2 : (mjT 98).1 = 0 := rfl; have b2 : (mjT 98).2 = 0 := rfl; omega), (by have a0 : (mjT 187).1 = 1 := rfl; have b0 : (mjT 187).2 = 6 := rfl; have a1 : (mjT 159).1 = 0 := rfl; have b1 : (mjT 159).2 = 0 := rfl; have a2 : (mjT 98).1 = 0 := rfl; have b2 : (mjT 98).2 = 0 := rfl; omega)⟩, _, H_after hR hI hBB hL, ?_⟩
  rintro rs1_ w1_ ⟨M1, J1, rfl, hw1, hP1, hv1⟩
  subst hw1
  have e139 : M1 139 = M 139 := funext fun q => hP1 139 q ⟨by omega, by omega, fun h_ => by omega, fun h_ => by omega⟩
  have g0 : M1 139 0 = nI (M 139 0).toNatClampNeg := by rw [e139, e2]; exact e0
  have g17 : M1 139 17 = nI (M 139 17).toNatClampNeg := by rw [e139]; exact hc17.1
  have gm : (M 139 17).toNatClampNeg ≤ 12 := hc17.2
  have gok : Rok (M1 139) := by rw [e139]; exact h2.2.1.1
  have gI : I2 B (M1 139) := by rw [e139]; exact h2.2
  refine ⟨Or.inl rfl, ?_⟩
  refine ⟨(by rw [o_1, nI_add]; exact vp_in_nI (show 4 * kk + 1 < L by omega) (by omega)), ?_⟩
  refine ⟨(by rw [o_2, nI_add]; exact vp_in_nI (show 4 * kk + 2 < L by omega) (by omega)), ?_⟩
  refine ⟨⟨Nat.le_of_ble_eq_true rfl, (by have a0 : (mjT 187).1 = 1 := rfl; have b0 : (mjT 187).2 = 6 := rfl; have a1 : (mjT 159).1 = 0 := rfl; have b1 : (mjT 159).2 = 0 := rfl; have a2 : (mjT 98).1 = 0 := rfl; have b2 : (mjT 98).2 = 0 := rfl; omega), (by have a0 : (mjT 187).1 = 1 := rfl; have b0 : (mjT 187).2 = 6 := rfl; have a1 : (mjT 159).1 = 0 := rfl; have b1 : (mjT 159).2 = 0 := rfl; have a2 : (mjT 98).1 = 0 := rfl; have b2 : (mjT 98).2 = 0 := rfl; omega)⟩, by simp only [hM.1.1, hR.2.2.2.1.1, hL.1] <;> first | rfl | decide, _, R_afterCut hM gok, ?_⟩
  rintro rs2_ w2_ ⟨v, M2, rfl, hw2, m0, mv, hJ2⟩
  subst hw2
  rw [e139, ← eq_after h2] at m0 mv
  have hG : LG (B + 1000) M2 := (LG_jk h (hP1.tr hJ2)).mono (by omega)
  have hcd : (aAfter (vO M 4) (xs (nI (4 * kk) + 1).toNatClampNeg) (xs (nI (4 * kk) + 2).toNatClampNeg)).1 < 3 := cdl3 (cod_after)
  refine ⟨Or.inl rfl, ?_⟩
  refine ⟨⟨Nat.le_of_ble_eq_true rfl, (by have a0 : (mjT 187).1 = 1 := rfl; have b0 : (mjT 187).2 = 6 := rfl; have a1 : (mjT 159).1 = 0 := rfl; have b1 : (mjT 159).2 = 0 := rfl; have a2 : (mjT 98).1 = 0 := rfl; have b2 : (mjT 98).2 = 0 := rfl; omega), (by have a0 : (mjT 187).1 = 1 := rfl; have b0 : (mjT 187).2 = 6 := rfl; have a1 : (mjT 159).1 = 0 := rfl; have b1 : (mjT 159).2 = 0 := rfl; have a2 : (mjT 98).1 = 0 := rfl; have b2 : (mjT 98).2 = 0 := rfl; omega)⟩, by simp only [hM.1.1, hR.2.2.2.1.1, hL.1] <;> first | rfl | decide, _, T_thrown hM, ?_⟩
  rintro rs3_ w3_ ⟨rfl, rfl⟩
  refine ⟨Or.inl rfl, ?_⟩
  refine ⟨fun h1 => ?_, fun h1 => ?_⟩
  · refine ⟨fun h2 => ?_, fun h2 => ?_⟩
    · refine ee_at (nt := nzT 195) [(0, .ref 1000001), (1, .ref 1), (2, .ref 137), (3, .ref 144), (4, .int (nI (4 * (kk + 1))))] (S, M2, J1) rfl (by rw [show nI (4 * (kk + 1)) = nI (4 * kk) + 4 from by rw [o_4, nI_add]; rfl]; rfl) rfl (hN M2 J1 _ _ hG (by have a0 : (mjT 187).1 = 1 := rfl; have b0 : (mjT 187).2 = 6 := rfl; have a1 : (mjT 159).1 = 0 := rfl; have b1 : (mjT 159).2 = 0 := rfl; have a2 : (mjT 98).1 = 0 := rfl; have b2 : (mjT 98).2 = 0 := rfl; omega) (by have a0 : (mjT 187).1 = 1 := rfl; have b0 : (mjT 187).2 = 6 := rfl; have a1 : (mjT 159).1 = 0 := rfl; have b1 : (mjT 159).2 = 0 := rfl; have a2 : (mjT 98).1 = 0 := rfl; have b2 : (mjT 98).2 = 0 := rfl; omega))
    · refine ⟨by simp only [hM.1.1, hR.2.2.2.1.1, hL.1] <;> first | rfl | decide, (by simp only [hL.2]; exact vp_in_nI (show 0 < 1 by omega) (by omega)), ?_⟩
      refine ⟨fun h3 => ?_, fun h3 => ?_⟩
      · refine ee_at (nt := nzT 195) [(0, .ref 1000001), (1, .ref 1), (2, .ref 137), (3, .ref 144), (4, .int (nI (4 * (kk + 1))))] (S, M2, J1) rfl (by rw [show nI (4 * (kk + 1)) = nI (4 * kk) + 4 from by rw [o_4, nI_add]; rfl]; rfl) rfl (hN M2 J1 _ _ hG (by have a0 : (mjT 187).1 = 1 := rfl; have b0 : (mjT 187).2 = 6 := rfl; have a1 : (mjT 159).1 = 0 := rfl; have b1 : (mjT 159).2 = 0 := rfl; have a2 : (mjT 98).1 = 0 := rfl; have b2 : (mjT 98).2 = 0 := rfl; omega) (by have a0 : (mjT 187).1 = 1 := rfl; have b0 : (mjT 187).2 = 6 := rfl; have a1 : (mjT 159).1 = 0 := rfl; have b1 : (mjT 159).2 = 0 := rfl; have a2 : (mjT 98).1 = 0 := rfl; have b2 : (mjT 98).2 = 0 := rfl; omega))
      · (have hz : (aAfter (vO M 4) (xs (nI (4 * kk) + 1).toNatClampNeg) (xs (nI (4 * kk) + 2).toNatClampNeg)).1 = 0 := (n0 (by omega)).mp h2; have h_ := h3; exact absurd (cmp0.mpr (show J1 144 0 = v.toInt64 by rw [hv1 hz, mv hz])) h_)
  · (have h_ := h1; exact absurd m0 h_)
set_option maxRecDepth 100000 in
set_option maxHeartbeats 4000000 in
theorem K_20 {S : Sc} {M : Nat → Nat → Int32} {J : Nat → Nat → Int64} {xs : Nat → Int32} {L kk B nc ns : Nat} (hA : AllS S) (h : LG B M) (hB : B < 800000) (hk : 4 * kk + 3 < L) (hL2 : L ≤ 2048) (hnc : nc ≤ 600000) (hns : ns ≤ 7000000) (hN : ∀ M' J' nc' ns', LG (B + 1000) M' → nc' ≤ nc + 1 → ns' ≤ ns + 6 → EE (SL xs L) (23, [(0, .ref 1000001), (1, .ref 1), (2, .ref 137), (3, .ref 144), (4, .int (nI (4 * (kk + 1))))], [], (S, M', J'), nc', ns')) : EE (SL xs L) (1246, [(0, .ref 1000001), (1, .ref 1), (2, .ref 137), (3, .ref 144), (4, .int (nI (4 * kk)))], [], (S, M, J), nc, ns) := by
  obtain ⟨hR, hM, hL⟩ := hA
  obtain ⟨⟨n_, τ, c1, c2⟩, h2, ⟨a, y, ha, hy, h180, h181, h11, a6⟩, h4⟩ := id h
  have hI : I2 B (vO M 4) := h2.1.I2 h2.2
  obtain ⟨n, hn3, hn, e0, e1, e2, e3⟩ := h2.n
  have hc17 := h2.2.cnt
  have hBB : B < 1000000 := by omega
  refine EE.runN (stop := atPc [23]) 90 _ ?_
  refine ⟨⟨Nat.le_of_ble_eq_true rfl, (by have a0 : (mjT 188).1 = 1 := rfl; have b0 : (mjT 188).2 = 6 := rfl; have a1 : (mjT 160).1 = 0 := rfl; have b1 : (mjT 160).2 = 0 := rfl; have a2 : (mjT 98).1 = 0 := rfl; have b2 : (mjT 98).2 = 0 := rfl; omega), (by have a0 : (mjT 188).1 = 1 := rfl; have b0 : (mjT 188).2 = 6 := rfl; have a1 : (mjT 160).1 = 0 := rfl; have b1 : (mjT 160).2 = 0 := rfl; have a2 : (mjT 98).1 = 0 := rfl; have b2 : (mjT 98).2 = 0 := rfl; omega)⟩, _, H_worst hR hI hBB hL, ?_⟩
  rintro rs1_ w1_ ⟨M1, J1, rfl, hw1, hP1, hv1⟩
  subst hw1
  have e139 : M1 139 = M 139 := funext fun q => hP1 139 q ⟨by omega, by omega, fun h_ => by omega, fun h_ => by omega⟩
  have g0 : M1 139 0 = nI (M 139 0).toNatClampNeg := by rw [e139, e2]; exact e0
  have g17 : M1 139 17 = nI (M 139 17).toNatClampNeg := by rw [e139]; exact hc17.1
  have gm : (M 139 17).toNatClampNeg ≤ 12 := hc17.2
  have gok : Rok (M1 139) := by rw [e139]; exact h2.2.1.1
  have gI : I2 B (M1 139) := by rw [e139]; exact h2.2
  refine ⟨Or.inl rfl, ?_⟩
  refine ⟨⟨Nat.le_of_ble_eq_true rfl, (by have a0 : (mjT 188).1 = 1 := rfl; have b0 : (mjT 188).2 = 6 := rfl; have a1 : (mjT 160).1 = 0 := rfl; have b1 : (mjT 160).2 = 0 := rfl; have a2 : (mjT 98).1 = 0 := rfl; have b2 : (mjT 98).2 = 0 := rfl; omega), (by have a0 : (mjT 188).1 = 1 := rfl; have b0 : (mjT 188).2 = 6 := rfl; have a1 : (mjT 160).1 = 0 := rfl; have b1 : (mjT 160).2 = 0 := rfl; have a2 : (mjT 98).1 = 0 := rfl; have b2 : (mjT 98).2 = 0 := rfl; omega)⟩, by simp only [hM.1.1, hR.2.2.2.1.1, hL.1] <;> first | rfl | decide, _, R_worst hM gok, ?_⟩
  rintro rs2_ w2_ ⟨v, M2, rfl, hw2, m0, mv, hJ2⟩
  subst hw2
  rw [e139, ← eq_worst h2] at m0 mv
  have hG : LG (B + 1000) M2 := (LG_jk h (hP1.tr hJ2)).mono (by omega)
  have hcd : (aWorst (vO M 4)).1 < 3 := cdl2 (cod_worst)
  refine ⟨Or.inl rfl, ?_⟩
  refine ⟨⟨Nat.le_of_ble_eq_true rfl, (by have a0 : (mjT 188).1 = 1 := rfl; have b0 : (mjT 188).2 = 6 := rfl; have a1 : (mjT 160).1 = 0 := rfl; have b1 : (mjT 160).2 = 0 := rfl; have a2 : (mjT 98).1 = 0 := rfl; have b2 : (mjT 98).2 = 0 := rfl; omega), (by have a0 : (mjT 188).1 = 1 := rfl; have b0 : (mjT 188).2 = 6 := rfl; have a1 : (mjT 160).1 = 0 := rfl; have b1 : (mjT 160).2 = 0 := rfl; have a2 : (mjT 98).1 = 0 := rfl; have b2 : (mjT 98).2 = 0 := rfl; omega)⟩, by simp only [hM.1.1, hR.2.2.2.1.1, hL.1] <;> first | rfl | decide, _, T_thrown hM, ?_⟩
  rintro rs3_ w3_ ⟨rfl, rfl⟩
  refine ⟨Or.inl rfl, ?_⟩
  refine ⟨fun h1 => ?_, fun h1 => ?_⟩
  · refine ⟨fun h2 => ?_, fun h2 => ?_⟩
    · refine ee_at (nt := nzT 195) [(0, .ref 1000001), (1, .ref 1), (2, .ref 137), (3, .ref 144), (4, .int (nI (4 * (kk + 1))))] (S, M2, J1) rfl (by rw [show nI (4 * (kk + 1)) = nI (4 * kk) + 4 from by rw [o_4, nI_add]; rfl]; rfl) rfl (hN M2 J1 _ _ hG (by have a0 : (mjT 188).1 = 1 := rfl; have b0 : (mjT 188).2 = 6 := rfl; have a1 : (mjT 160).1 = 0 := rfl; have b1 : (mjT 160).2 = 0 := rfl; have a2 : (mjT 98).1 = 0 := rfl; have b2 : (mjT 98).2 = 0 := rfl; omega) (by have a0 : (mjT 188).1 = 1 := rfl; have b0 : (mjT 188).2 = 6 := rfl; have a1 : (mjT 160).1 = 0 := rfl; have b1 : (mjT 160).2 = 0 := rfl; have a2 : (mjT 98).1 = 0 := rfl; have b2 : (mjT 98).2 = 0 := rfl; omega))
    · refine ⟨by simp only [hM.1.1, hR.2.2.2.1.1, hL.1] <;> first | rfl | decide, (by simp only [hL.2]; exact vp_in_nI (show 0 < 1 by omega) (by omega)), ?_⟩
      refine ⟨fun h3 => ?_, fun h3 => ?_⟩
      · refine ee_at (nt := nzT 195) [(0, .ref 1000001), (1, .ref 1), (2, .ref 137), (3, .ref 144), (4, .int (nI (4 * (kk + 1))))] (S, M2, J1) rfl (by rw [show nI (4 * (kk + 1)) = nI (4 * kk) + 4 from by rw [o_4, nI_add]; rfl]; rfl) rfl (hN M2 J1 _ _ hG (by have a0 : (mjT 188).1 = 1 := rfl; have b0 : (mjT 188).2 = 6 := rfl; have a1 : (mjT 160).1 = 0 := rfl; have b1 : (mjT 160).2 = 0 := rfl; have a2 : (mjT 98).1 = 0 := rfl; have b2 : (mjT 98).2 = 0 := rfl; omega) (by have a0 : (mjT 188).1 = 1 := rfl; have b0 : (mjT 188).2 = 6 := rfl; have a1 : (mjT 160).1 = 0 := rfl; have b1 : (mjT 160).2 = 0 := rfl; have a2 : (mjT 98).1 = 0 := rfl; have b2 : (mjT 98).2 = 0 := rfl; omega))
      · (have hz : (aWorst (vO M 4)).1 = 0 := (n0 (by omega)).mp h2; have h_ := h3; exact absurd (cmp0.mpr (show J1 144 0 = v.toInt64 by rw [hv1 hz, mv hz])) h_)
  · (have h_ := h1; exact absurd m0 h_)
set_option maxRecDepth 100000 in
set_option maxHeartbeats 4000000 in
theorem K_21 {S : Sc} {M : Nat → Nat → Int32} {J : Nat → Nat → Int64} {xs : Nat → Int32} {L kk B nc ns : Nat} (hA : AllS S) (h : LG B M) (hB : B < 800000) (hk : 4 * kk + 3 < L) (hL2 : L ≤ 2048) (hnc : nc ≤ 600000) (hns : ns ≤ 7000000) (hN : ∀ M' J' nc' ns', LG (B + 1000) M' → nc' ≤ nc + 1 → ns' ≤ ns + 6 → EE (SL xs L) (23, [(0, .ref 1000001), (1, .ref 1), (2, .ref 137), (3, .ref 144), (4, .int (nI (4 * (kk + 1))))], [], (S, M', J'), nc', ns')) : EE (SL xs L) (1290, [(0, .ref 1000001), (1, .ref 1), (2, .ref 137), (3, .ref 144), (4, .int (nI (4 * kk)))], [], (S, M, J), nc, ns) := by
  obtain ⟨hR, hM, hL⟩ := hA
  obtain ⟨⟨n_, τ, c1, c2⟩, h2, ⟨a, y, ha, hy, h180, h181, h11, a6⟩, h4⟩ := id h
  have hI : I2 B (vO M 4) := h2.1.I2 h2.2
  obtain ⟨n, hn3, hn, e0, e1, e2, e3⟩ := h2.n
  have hc17 := h2.2.cnt
  have hBB : B < 1000000 := by omega
  refine EE.runN (stop := atPc [23]) 90 _ ?_
  refine ⟨(by rw [o_1, nI_add]; exact vp_in_nI (show 4 * kk + 1 < L by omega) (by omega)), ?_⟩
  refine ⟨⟨Nat.le_of_ble_eq_true rfl, (by have a0 : (mjT 189).1 = 1 := rfl; have b0 : (mjT 189).2 = 6 := rfl; have a1 : (mjT 161).1 = 0 := rfl; have b1 : (mjT 161).2 = 0 := rfl; have a2 : (mjT 98).1 = 0 := rfl; have b2 : (mjT 98).2 = 0 := rfl; omega), (by have a0 : (mjT 189).1 = 1 := rfl; have b0 : (mjT 189).2 = 6 := rfl; have a1 : (mjT 161).1 = 0 := rfl; have b1 : (mjT 161).2 = 0 := rfl; have a2 : (mjT 98).1 = 0 := rfl; have b2 : (mjT 98).2 = 0 := rfl; omega)⟩, _, H_lasts hR hI hBB hL, ?_⟩
  rintro rs1_ w1_ ⟨M1, J1, rfl, hw1, hP1, hv1⟩
  subst hw1
  have e139 : M1 139 = M 139 := funext fun q => hP1 139 q ⟨by omega, by omega, fun h_ => by omega, fun h_ => by omega⟩
  have g0 : M1 139 0 = nI (M 139 0).toNatClampNeg := by rw [e139, e2]; exact e0
  have g17 : M1 139 17 = nI (M 139 17).toNatClampNeg := by rw [e139]; exact hc17.1
  have gm : (M 139 17).toNatClampNeg ≤ 12 := hc17.2
  have gok : Rok (M1 139) := by rw [e139]; exact h2.2.1.1
  have gI : I2 B (M1 139) := by rw [e139]; exact h2.2
  refine ⟨Or.inl rfl, ?_⟩
  refine ⟨(by rw [o_1, nI_add]; exact vp_in_nI (show 4 * kk + 1 < L by omega) (by omega)), ?_⟩
  refine ⟨⟨Nat.le_of_ble_eq_true rfl, (by have a0 : (mjT 189).1 = 1 := rfl; have b0 : (mjT 189).2 = 6 := rfl; have a1 : (mjT 161).1 = 0 := rfl; have b1 : (mjT 161).2 = 0 := rfl; have a2 : (mjT 98).1 = 0 := rfl; have b2 : (mjT 98).2 = 0 := rfl; omega), (by have a0 : (mjT 189).1 = 1 := rfl; have b0 : (mjT 189).2 = 6 := rfl; have a1 : (mjT 161).1 = 0 := rfl; have b1 : (mjT 161).2 = 0 := rfl; have a2 : (mjT 98).1 = 0 := rfl; have b2 : (mjT 98).2 = 0 := rfl; omega)⟩, by simp only [hM.1.1, hR.2.2.2.1.1, hL.1] <;> first | rfl | decide, _, R_lasts hM gI (by omega), ?_⟩
  rintro rs2_ w2_ ⟨v, M2, rfl, hw2, m0, mv, hJ2⟩
  subst hw2
  rw [e139, ← eq_lasts h2 hBB] at m0 mv
  have hG : LG (B + 1000) M2 := (LG_jk h (hP1.tr hJ2)).mono (by omega)
  have hcd : (aTill (vO M 4) (xs (nI (4 * kk) + 1).toNatClampNeg)).1 < 3 := cdl3 (cod_lasts)
  refine ⟨Or.inl rfl, ?_⟩
  refine ⟨⟨Nat.le_of_ble_eq_true rfl, (by have a0 : (mjT 189).1 = 1 := rfl; have b0 : (mjT 189).2 = 6 := rfl; have a1 : (mjT 161).1 = 0 := rfl; have b1 : (mjT 161).2 = 0 := rfl; have a2 : (mjT 98).1 = 0 := rfl; have b2 : (mjT 98).2 = 0 := rfl; omega), (by have a0 : (mjT 189).1 = 1 := rfl; have b0 : (mjT 189).2 = 6 := rfl; have a1 : (mjT 161).1 = 0 := rfl; have b1 : (mjT 161).2 = 0 := rfl; have a2 : (mjT 98).1 = 0 := rfl; have b2 : (mjT 98).2 = 0 := rfl; omega)⟩, by simp only [hM.1.1, hR.2.2.2.1.1, hL.1] <;> first | rfl | decide, _, T_thrown hM, ?_⟩
  rintro rs3_ w3_ ⟨rfl, rfl⟩
  refine ⟨Or.inl rfl, ?_⟩
  refine ⟨fun h1 => ?_, fun h1 => ?_⟩
  · refine ⟨fun h2 => ?_, fun h2 => ?_⟩
    · refine ee_at (nt := nzT 195) [(0, .ref 1000001), (1, .ref 1), (2, .ref 137), (3, .ref 144), (4, .int (nI (4 * (kk + 1))))] (S, M2, J1) rfl (by rw [show nI (4 * (kk + 1)) = nI (4 * kk) + 4 from by rw [o_4, nI_add]; rfl]; rfl) rfl (hN M2 J1 _ _ hG (by have a0 : (mjT 189).1 = 1 := rfl; have b0 : (mjT 189).2 = 6 := rfl; have a1 : (mjT 161).1 = 0 := rfl; have b1 : (mjT 161).2 = 0 := rfl; have a2 : (mjT 98).1 = 0 := rfl; have b2 : (mjT 98).2 = 0 := rfl; omega) (by have a0 : (mjT 189).1 = 1 := rfl; have b0 : (mjT 189).2 = 6 := rfl; have a1 : (mjT 161).1 = 0 := rfl; have b1 : (mjT 161).2 = 0 := rfl; have a2 : (mjT 98).1 = 0 := rfl; have b2 : (mjT 98).2 = 0 := rfl; omega))
    · refine ⟨by simp only [hM.1.1, hR.2.2.2.1.1, hL.1] <;> first | rfl | decide, (by simp only [hL.2]; exact vp_in_nI (show 0 < 1 by omega) (by omega)), ?_⟩
      refine ⟨fun h3 => ?_, fun h3 => ?_⟩
      · refine ee_at (nt := nzT 195) [(0, .ref 1000001), (1, .ref 1), (2, .ref 137), (3, .ref 144), (4, .int (nI (4 * (kk + 1))))] (S, M2, J1) rfl (by rw [show nI (4 * (kk + 1)) = nI (4 * kk) + 4 from by rw [o_4, nI_add]; rfl]; rfl) rfl (hN M2 J1 _ _ hG (by have a0 : (mjT 189).1 = 1 := rfl; have b0 : (mjT 189).2 = 6 := rfl; have a1 : (mjT 161).1 = 0 := rfl; have b1 : (mjT 161).2 = 0 := rfl; have a2 : (mjT 98).1 = 0 := rfl; have b2 : (mjT 98).2 = 0 := rfl; omega) (by have a0 : (mjT 189).1 = 1 := rfl; have b0 : (mjT 189).2 = 6 := rfl; have a1 : (mjT 161).1 = 0 := rfl; have b1 : (mjT 161).2 = 0 := rfl; have a2 : (mjT 98).1 = 0 := rfl; have b2 : (mjT 98).2 = 0 := rfl; omega))
      · (have hz : (aTill (vO M 4) (xs (nI (4 * kk) + 1).toNatClampNeg)).1 = 0 := (n0 (by omega)).mp h2; have h_ := h3; exact absurd (cmp0.mpr (show J1 144 0 = v.toInt64 by rw [hv1 hz, mv hz])) h_)
  · (have h_ := h1; exact absurd m0 h_)
set_option maxRecDepth 100000 in
set_option maxHeartbeats 4000000 in
theorem K_22 {S : Sc} {M : Nat → Nat → Int32} {J : Nat → Nat → Int64} {xs : Nat → Int32} {L kk B nc ns : Nat} (hA : AllS S) (h : LG B M) (hB : B < 800000) (hk : 4 * kk + 3 < L) (hL2 : L ≤ 2048) (hnc : nc ≤ 600000) (hns : ns ≤ 7000000) (hN : ∀ M' J' nc' ns', LG (B + 1000) M' → nc' ≤ nc + 1 → ns' ≤ ns + 6 → EE (SL xs L) (23, [(0, .ref 1000001), (1, .ref 1), (2, .ref 137), (3, .ref 144), (4, .int (nI (4 * (kk + 1))))], [], (S, M', J'), nc', ns')) : EE (SL xs L) (1346, [(0, .ref 1000001), (1, .ref 1), (2, .ref 137), (3, .ref 144), (4, .int (nI (4 * kk)))], [], (S, M, J), nc, ns) := by
  obtain ⟨hR, hM, hL⟩ := hA
  obtain ⟨⟨n_, τ, c1, c2⟩, h2, ⟨a, y, ha, hy, h180, h181, h11, a6⟩, h4⟩ := id h
  have hI : I2 B (vO M 4) := h2.1.I2 h2.2
  obtain ⟨n, hn3, hn, e0, e1, e2, e3⟩ := h2.n
  have hc17 := h2.2.cnt
  have hBB : B < 1000000 := by omega
  refine EE.runN (stop := atPc [23]) 90 _ ?_
  refine ⟨(by rw [o_1, nI_add]; exact vp_in_nI (show 4 * kk + 1 < L by omega) (by omega)), ?_⟩
  refine ⟨(by rw [o_2, nI_add]; exact vp_in_nI (show 4 * kk + 2 < L by omega) (by omega)), ?_⟩
  refine ⟨(by rw [o_3, nI_add]; exact vp_in_nI (show 4 * kk + 3 < L by omega) (by omega)), ?_⟩
  refine ⟨⟨Nat.le_of_ble_eq_true rfl, (by have a0 : (mjT 190).1 = 1 := rfl; have b0 : (mjT 190).2 = 6 := rfl; have a1 : (mjT 162).1 = 0 := rfl; have b1 : (mjT 162).2 = 0 := rfl; have a2 : (mjT 98).1 = 0 := rfl; have b2 : (mjT 98).2 = 0 := rfl; omega), (by have a0 : (mjT 190).1 = 1 := rfl; have b0 : (mjT 190).2 = 6 := rfl; have a1 : (mjT 162).1 = 0 := rfl; have b1 : (mjT 162).2 = 0 := rfl; have a2 : (mjT 98).1 = 0 := rfl; have b2 : (mjT 98).2 = 0 := rfl; omega)⟩, _, H_dueIn hR hI hL, ?_⟩
  rintro rs1_ w1_ ⟨M1, J1, rfl, hw1, hP1, hv1⟩
  subst hw1
  have e139 : M1 139 = M 139 := funext fun q => hP1 139 q ⟨by omega, by omega, fun h_ => by omega, fun h_ => by omega⟩
  have g0 : M1 139 0 = nI (M 139 0).toNatClampNeg := by rw [e139, e2]; exact e0
  have g17 : M1 139 17 = nI (M 139 17).toNatClampNeg := by rw [e139]; exact hc17.1
  have gm : (M 139 17).toNatClampNeg ≤ 12 := hc17.2
  have gok : Rok (M1 139) := by rw [e139]; exact h2.2.1.1
  have gI : I2 B (M1 139) := by rw [e139]; exact h2.2
  refine ⟨Or.inl rfl, ?_⟩
  refine ⟨(by rw [o_1, nI_add]; exact vp_in_nI (show 4 * kk + 1 < L by omega) (by omega)), ?_⟩
  refine ⟨(by rw [o_2, nI_add]; exact vp_in_nI (show 4 * kk + 2 < L by omega) (by omega)), ?_⟩
  refine ⟨(by rw [o_3, nI_add]; exact vp_in_nI (show 4 * kk + 3 < L by omega) (by omega)), ?_⟩
  refine ⟨⟨Nat.le_of_ble_eq_true rfl, (by have a0 : (mjT 190).1 = 1 := rfl; have b0 : (mjT 190).2 = 6 := rfl; have a1 : (mjT 162).1 = 0 := rfl; have b1 : (mjT 162).2 = 0 := rfl; have a2 : (mjT 98).1 = 0 := rfl; have b2 : (mjT 98).2 = 0 := rfl; omega), (by have a0 : (mjT 190).1 = 1 := rfl; have b0 : (mjT 190).2 = 6 := rfl; have a1 : (mjT 162).1 = 0 := rfl; have b1 : (mjT 162).2 = 0 := rfl; have a2 : (mjT 98).1 = 0 := rfl; have b2 : (mjT 98).2 = 0 := rfl; omega)⟩, by simp only [hM.1.1, hR.2.2.2.1.1, hL.1] <;> first | rfl | decide, _, R_dueIn hM g17 gm, ?_⟩
  rintro rs2_ w2_ ⟨v, M2, rfl, hw2, m0, mv, hJ2⟩
  subst hw2
  rw [e139, ← eq_due h2] at m0 mv
  have hG : LG (B + 1000) M2 := (LG_jk h (hP1.tr hJ2)).mono (by omega)
  have hcd : (aDue (vO M 4) (vO M 4 17).toNatClampNeg (xs (nI (4 * kk) + 1).toNatClampNeg) (xs (nI (4 * kk) + 2).toNatClampNeg) (xs (nI (4 * kk) + 3).toNatClampNeg)).1 < 3 := cdl3 (cod_dueIn)
  refine ⟨Or.inl rfl, ?_⟩
  refine ⟨⟨Nat.le_of_ble_eq_true rfl, (by have a0 : (mjT 190).1 = 1 := rfl; have b0 : (mjT 190).2 = 6 := rfl; have a1 : (mjT 162).1 = 0 := rfl; have b1 : (mjT 162).2 = 0 := rfl; have a2 : (mjT 98).1 = 0 := rfl; have b2 : (mjT 98).2 = 0 := rfl; omega), (by have a0 : (mjT 190).1 = 1 := rfl; have b0 : (mjT 190).2 = 6 := rfl; have a1 : (mjT 162).1 = 0 := rfl; have b1 : (mjT 162).2 = 0 := rfl; have a2 : (mjT 98).1 = 0 := rfl; have b2 : (mjT 98).2 = 0 := rfl; omega)⟩, by simp only [hM.1.1, hR.2.2.2.1.1, hL.1] <;> first | rfl | decide, _, T_thrown hM, ?_⟩
  rintro rs3_ w3_ ⟨rfl, rfl⟩
  refine ⟨Or.inl rfl, ?_⟩
  refine ⟨fun h1 => ?_, fun h1 => ?_⟩
  · refine ⟨fun h2 => ?_, fun h2 => ?_⟩
    · refine ee_at (nt := nzT 195) [(0, .ref 1000001), (1, .ref 1), (2, .ref 137), (3, .ref 144), (4, .int (nI (4 * (kk + 1))))] (S, M2, J1) rfl (by rw [show nI (4 * (kk + 1)) = nI (4 * kk) + 4 from by rw [o_4, nI_add]; rfl]; rfl) rfl (hN M2 J1 _ _ hG (by have a0 : (mjT 190).1 = 1 := rfl; have b0 : (mjT 190).2 = 6 := rfl; have a1 : (mjT 162).1 = 0 := rfl; have b1 : (mjT 162).2 = 0 := rfl; have a2 : (mjT 98).1 = 0 := rfl; have b2 : (mjT 98).2 = 0 := rfl; omega) (by have a0 : (mjT 190).1 = 1 := rfl; have b0 : (mjT 190).2 = 6 := rfl; have a1 : (mjT 162).1 = 0 := rfl; have b1 : (mjT 162).2 = 0 := rfl; have a2 : (mjT 98).1 = 0 := rfl; have b2 : (mjT 98).2 = 0 := rfl; omega))
    · refine ⟨by simp only [hM.1.1, hR.2.2.2.1.1, hL.1] <;> first | rfl | decide, (by simp only [hL.2]; exact vp_in_nI (show 0 < 1 by omega) (by omega)), ?_⟩
      refine ⟨fun h3 => ?_, fun h3 => ?_⟩
      · refine ee_at (nt := nzT 195) [(0, .ref 1000001), (1, .ref 1), (2, .ref 137), (3, .ref 144), (4, .int (nI (4 * (kk + 1))))] (S, M2, J1) rfl (by rw [show nI (4 * (kk + 1)) = nI (4 * kk) + 4 from by rw [o_4, nI_add]; rfl]; rfl) rfl (hN M2 J1 _ _ hG (by have a0 : (mjT 190).1 = 1 := rfl; have b0 : (mjT 190).2 = 6 := rfl; have a1 : (mjT 162).1 = 0 := rfl; have b1 : (mjT 162).2 = 0 := rfl; have a2 : (mjT 98).1 = 0 := rfl; have b2 : (mjT 98).2 = 0 := rfl; omega) (by have a0 : (mjT 190).1 = 1 := rfl; have b0 : (mjT 190).2 = 6 := rfl; have a1 : (mjT 162).1 = 0 := rfl; have b1 : (mjT 162).2 = 0 := rfl; have a2 : (mjT 98).1 = 0 := rfl; have b2 : (mjT 98).2 = 0 := rfl; omega))
      · (have hz : (aDue (vO M 4) (vO M 4 17).toNatClampNeg (xs (nI (4 * kk) + 1).toNatClampNeg) (xs (nI (4 * kk) + 2).toNatClampNeg) (xs (nI (4 * kk) + 3).toNatClampNeg)).1 = 0 := (n0 (by omega)).mp h2; have h_ := h3; exact absurd (cmp0.mpr (show J1 144 0 = v.toInt64 by rw [hv1 hz, mv hz])) h_)
  · (have h_ := h1; exact absurd m0 h_)
