/-! THE LAW: scripts, texts, the first that is due: written by wip/whole/pure3.py -/
theorem first0 {ρ : Rw} {m : Nat} : (aFirst ρ m).1 = 0 := by
  unfold aFirst
  split <;> rfl
set_option maxRecDepth 100000 in
set_option maxHeartbeats 4000000 in
theorem K_24 {S : Sc} {M : Nat → Nat → Int32} {J : Nat → Nat → Int64} {xs : Nat → Int32} {L kk B nc ns : Nat} (hA : AllS S) (h : LG B M) (hB : B < 800000) (hk : 4 * kk + 3 < L) (hL2 : L ≤ 2048) (hnc : nc ≤ 600000) (hns : ns ≤ 7000000) (hN : ∀ M' J' nc' ns', LG (B + 1000) M' → nc' ≤ nc + 1 → ns' ≤ ns + 6 → EE (SL xs L) (23, [(0, .ref 1000001), (1, .ref 1), (2, .ref 137), (3, .ref 144), (4, .int (nI (4 * (kk + 1))))], [], (S, M', J'), nc', ns')) : EE (SL xs L) (1439, [(0, .ref 1000001), (1, .ref 1), (2, .ref 137), (3, .ref 144), (4, .int (nI (4 * kk)))], [], (S, M, J), nc, ns) := by
  obtain ⟨hR, hM, hL⟩ := hA
  obtain ⟨⟨n_, τ, c1, c2⟩, h2, ⟨a, y, ha, hy, h180, h181, h11, a6⟩, h4⟩ := id h
  have hI : I2 B (vO M 4) := h2.1.I2 h2.2
  obtain ⟨n, hn3, hn, e0, e1, e2, e3⟩ := h2.n
  have hc17 := h2.2.cnt
  have hBB : B < 1000000 := by omega
  refine EE.runN (stop := atPc [23]) 90 _ ?_
  refine ⟨(by rw [o_1, nI_add]; exact vp_in_nI (show 4 * kk + 1 < L by omega) (by omega)), ?_⟩
  refine ⟨(by rw [o_2, nI_add]; exact vp_in_nI (show 4 * kk + 2 < L by omega) (by omega)), ?_⟩
  refine ⟨(by rw [o_3, nI_add]; exact vp_in_nI (show 4 * kk + 3 < L by omega) (by omega)), ?_⟩
  refine ⟨⟨Nat.le_of_ble_eq_true rfl, (by have a0 : (mjT 191).1 = 1 := rfl; have b0 : (mjT 191).2 = 6 := rfl; have a1 : (mjT 165).1 = 0 := rfl; have b1 : (mjT 165).2 = 0 := rfl; have a2 : (mjT 98).1 = 0 := rfl; have b2 : (mjT 98).2 = 0 := rfl; omega), (by have a0 : (mjT 191).1 = 1 := rfl; have b0 : (mjT 191).2 = 6 := rfl; have a1 : (mjT 165).1 = 0 := rfl; have b1 : (mjT 165).2 = 0 := rfl; have a2 : (mjT 98).1 = 0 := rfl; have b2 : (mjT 98).2 = 0 := rfl; omega)⟩, _, H_script hR hI hBB hL, ?_⟩
  rintro rs1_ w1_ ⟨M1, J1, rfl, hw1, hP1, hv1⟩
  subst hw1
  have e139 : M1 139 = M 139 := funext fun q => hP1 139 q ⟨by omega, by omega, fun h_ => by omega, fun h_ => by omega⟩
  have g0 : M1 139 0 = nI (M 139 0).toNatClampNeg := by rw [e139, e2]; exact e0
  have g17 : M1 139 17 = nI (M 139 17).toNatClampNeg := by rw [e139]; exact hc17.1
  have gm : (M 139 17).toNatClampNeg ≤ 12 := hc17.2
  have gok : Rok (M1 139) := by rw [e139]; exact h2.2.1.1
  have gI : I2 B (M1 139) := by rw [e139]; exact h2.2
  refine ⟨Or.inl rfl, ?_⟩
  refine ⟨(by rw [o_1, nI_add]; exact vp_in_nI (show 4 * kk + 1 < L by omega) (by omega)), ?_⟩
  refine ⟨(by rw [o_2, nI_add]; exact vp_in_nI (show 4 * kk + 2 < L by omega) (by omega)), ?_⟩
  refine ⟨(by rw [o_3, nI_add]; exact vp_in_nI (show 4 * kk + 3 < L by omega) (by omega)), ?_⟩
  refine ⟨⟨Nat.le_of_ble_eq_true rfl, (by have a0 : (mjT 191).1 = 1 := rfl; have b0 : (mjT 191).2 = 6 := rfl; have a1 : (mjT 165).1 = 0 := rfl; have b1 : (mjT 165).2 = 0 := rfl; have a2 : (mjT 98).1 = 0 := rfl; have b2 : (mjT 98).2 = 0 := rfl; omega), (by have a0 : (mjT 191).1 = 1 := rfl; have b0 : (mjT 191).2 = 6 := rfl; have a1 : (mjT 165).1 = 0 := rfl; have b1 : (mjT 165).2 = 0 := rfl; have a2 : (mjT 98).1 = 0 := rfl; have b2 : (mjT 98).2 = 0 := rfl; omega)⟩, by simp only [hM.1.1, hR.2.2.2.1.1, hL.1] <;> first | rfl | decide, _, R_script hM gI (by omega) g0 (by omega) (by omega), ?_⟩
  rintro rs2_ w2_ ⟨v, M2, rfl, hw2, m0, mv, hJ2⟩
  subst hw2
  rw [e139, ← eq_script h2 hBB] at m0 mv
  have hG : LG (B + 1000) M2 := (LG_jk h (hP1.tr hJ2)).mono (by omega)
  have hcd : ∀ x t, (aScript (vO M 4) x t).1 < 3 := fun x t => cdl2 cod_script
  refine ⟨Or.inl rfl, ?_⟩
  refine ⟨⟨Nat.le_of_ble_eq_true rfl, (by have a0 : (mjT 191).1 = 1 := rfl; have b0 : (mjT 191).2 = 6 := rfl; have a1 : (mjT 165).1 = 0 := rfl; have b1 : (mjT 165).2 = 0 := rfl; have a2 : (mjT 98).1 = 0 := rfl; have b2 : (mjT 98).2 = 0 := rfl; omega), (by have a0 : (mjT 191).1 = 1 := rfl; have b0 : (mjT 191).2 = 6 := rfl; have a1 : (mjT 165).1 = 0 := rfl; have b1 : (mjT 165).2 = 0 := rfl; have a2 : (mjT 98).1 = 0 := rfl; have b2 : (mjT 98).2 = 0 := rfl; omega)⟩, by simp only [hM.1.1, hR.2.2.2.1.1, hL.1] <;> first | rfl | decide, _, T_thrown hM, ?_⟩
  rintro rs3_ w3_ ⟨rfl, rfl⟩
  refine ⟨Or.inl rfl, ?_⟩
  refine ⟨fun h1 => ?_, fun h1 => ?_⟩
  · refine ⟨fun h2 => ?_, fun h2 => ?_⟩
    · refine ee_at (nt := nzT 195) [(0, .ref 1000001), (1, .ref 1), (2, .ref 137), (3, .ref 144), (4, .int (nI (4 * (kk + 1))))] (S, M2, J1) rfl (by rw [show nI (4 * (kk + 1)) = nI (4 * kk) + 4 from by rw [o_4, nI_add]; rfl]; rfl) rfl (hN M2 J1 _ _ hG (by have a0 : (mjT 191).1 = 1 := rfl; have b0 : (mjT 191).2 = 6 := rfl; have a1 : (mjT 165).1 = 0 := rfl; have b1 : (mjT 165).2 = 0 := rfl; have a2 : (mjT 98).1 = 0 := rfl; have b2 : (mjT 98).2 = 0 := rfl; omega) (by have a0 : (mjT 191).1 = 1 := rfl; have b0 : (mjT 191).2 = 6 := rfl; have a1 : (mjT 165).1 = 0 := rfl; have b1 : (mjT 165).2 = 0 := rfl; have a2 : (mjT 98).1 = 0 := rfl; have b2 : (mjT 98).2 = 0 := rfl; omega))
    · refine ⟨by simp only [hM.1.1, hR.2.2.2.1.1, hL.1] <;> first | rfl | decide, (by simp only [hL.2]; exact vp_in_nI (show 0 < 1 by omega) (by omega)), ?_⟩
      refine ⟨fun h3 => ?_, fun h3 => ?_⟩
      · refine ee_at (nt := nzT 195) [(0, .ref 1000001), (1, .ref 1), (2, .ref 137), (3, .ref 144), (4, .int (nI (4 * (kk + 1))))] (S, M2, J1) rfl (by rw [show nI (4 * (kk + 1)) = nI (4 * kk) + 4 from by rw [o_4, nI_add]; rfl]; rfl) rfl (hN M2 J1 _ _ hG (by have a0 : (mjT 191).1 = 1 := rfl; have b0 : (mjT 191).2 = 6 := rfl; have a1 : (mjT 165).1 = 0 := rfl; have b1 : (mjT 165).2 = 0 := rfl; have a2 : (mjT 98).1 = 0 := rfl; have b2 : (mjT 98).2 = 0 := rfl; omega) (by have a0 : (mjT 191).1 = 1 := rfl; have b0 : (mjT 191).2 = 6 := rfl; have a1 : (mjT 165).1 = 0 := rfl; have b1 : (mjT 165).2 = 0 := rfl; have a2 : (mjT 98).1 = 0 := rfl; have b2 : (mjT 98).2 = 0 := rfl; omega))
      · (have hz := (n0 (Nat.lt_trans (hcd _ _) (by decide))).mp h2; have h_ := h3; exact absurd (cmp0.mpr (show J1 144 0 = v.toInt64 by rw [hv1 hz, mv hz])) h_)
  · (have h_ := h1; exact absurd m0 h_)
set_option maxRecDepth 100000 in
set_option maxHeartbeats 4000000 in
theorem K_25 {S : Sc} {M : Nat → Nat → Int32} {J : Nat → Nat → Int64} {xs : Nat → Int32} {L kk B nc ns : Nat} (hA : AllS S) (h : LG B M) (hB : B < 800000) (hk : 4 * kk + 3 < L) (hL2 : L ≤ 2048) (hnc : nc ≤ 600000) (hns : ns ≤ 7000000) (hN : ∀ M' J' nc' ns', LG (B + 1000) M' → nc' ≤ nc + 1 → ns' ≤ ns + 6 → EE (SL xs L) (23, [(0, .ref 1000001), (1, .ref 1), (2, .ref 137), (3, .ref 144), (4, .int (nI (4 * (kk + 1))))], [], (S, M', J'), nc', ns')) : EE (SL xs L) (1539, [(0, .ref 1000001), (1, .ref 1), (2, .ref 137), (3, .ref 144), (4, .int (nI (4 * kk)))], [], (S, M, J), nc, ns) := by
  obtain ⟨hR, hM, hL⟩ := hA
  obtain ⟨⟨n_, τ, c1, c2⟩, h2, ⟨a, y, ha, hy, h180, h181, h11, a6⟩, h4⟩ := id h
  have hI : I2 B (vO M 4) := h2.1.I2 h2.2
  obtain ⟨n, hn3, hn, e0, e1, e2, e3⟩ := h2.n
  have hc17 := h2.2.cnt
  have hBB : B < 1000000 := by omega
  refine EE.runN (stop := atPc [23]) 90 _ ?_
  refine ⟨(by rw [o_1, nI_add]; exact vp_in_nI (show 4 * kk + 1 < L by omega) (by omega)), ?_⟩
  refine ⟨(by rw [o_2, nI_add]; exact vp_in_nI (show 4 * kk + 2 < L by omega) (by omega)), ?_⟩
  refine ⟨(by rw [o_3, nI_add]; exact vp_in_nI (show 4 * kk + 3 < L by omega) (by omega)), ?_⟩
  refine ⟨⟨Nat.le_of_ble_eq_true rfl, (by have a0 : (mjT 192).1 = 1 := rfl; have b0 : (mjT 192).2 = 6 := rfl; have a1 : (mjT 167).1 = 0 := rfl; have b1 : (mjT 167).2 = 0 := rfl; have a2 : (mjT 98).1 = 0 := rfl; have b2 : (mjT 98).2 = 0 := rfl; omega), (by have a0 : (mjT 192).1 = 1 := rfl; have b0 : (mjT 192).2 = 6 := rfl; have a1 : (mjT 167).1 = 0 := rfl; have b1 : (mjT 167).2 = 0 := rfl; have a2 : (mjT 98).1 = 0 := rfl; have b2 : (mjT 98).2 = 0 := rfl; omega)⟩, _, H_sim hR hI hBB hL, ?_⟩
  rintro rs1_ w1_ ⟨M1, J1, rfl, hw1, hP1, hv1⟩
  subst hw1
  have e139 : M1 139 = M 139 := funext fun q => hP1 139 q ⟨by omega, by omega, fun h_ => by omega, fun h_ => by omega⟩
  have g0 : M1 139 0 = nI (M 139 0).toNatClampNeg := by rw [e139, e2]; exact e0
  have g17 : M1 139 17 = nI (M 139 17).toNatClampNeg := by rw [e139]; exact hc17.1
  have gm : (M 139 17).toNatClampNeg ≤ 12 := hc17.2
  have gok : Rok (M1 139) := by rw [e139]; exact h2.2.1.1
  have gI : I2 B (M1 139) := by rw [e139]; exact h2.2
  refine ⟨Or.inl rfl, ?_⟩
  refine ⟨(by rw [o_1, nI_add]; exact vp_in_nI (show 4 * kk + 1 < L by omega) (by omega)), ?_⟩
  refine ⟨(by rw [o_2, nI_add]; exact vp_in_nI (show 4 * kk + 2 < L by omega) (by omega)), ?_⟩
  refine ⟨(by rw [o_3, nI_add]; exact vp_in_nI (show 4 * kk + 3 < L by omega) (by omega)), ?_⟩
  refine ⟨⟨Nat.le_of_ble_eq_true rfl, (by have a0 : (mjT 192).1 = 1 := rfl; have b0 : (mjT 192).2 = 6 := rfl; have a1 : (mjT 167).1 = 0 := rfl; have b1 : (mjT 167).2 = 0 := rfl; have a2 : (mjT 98).1 = 0 := rfl; have b2 : (mjT 98).2 = 0 := rfl; omega), (by have a0 : (mjT 192).1 = 1 := rfl; have b0 : (mjT 192).2 = 6 := rfl; have a1 : (mjT 167).1 = 0 := rfl; have b1 : (mjT 167).2 = 0 := rfl; have a2 : (mjT 98).1 = 0 := rfl; have b2 : (mjT 98).2 = 0 := rfl; omega)⟩, by simp only [hM.1.1, hR.2.2.2.1.1, hL.1] <;> first | rfl | decide, _, R_simulate hM gI (by omega), ?_⟩
  rintro rs2_ w2_ ⟨v, M2, rfl, hw2, m0, mv, hJ2⟩
  subst hw2
  rw [e139, ← eq_sim h2 hBB] at m0 mv
  have hG : LG (B + 1000) M2 := (LG_jk h (hP1.tr hJ2)).mono (by omega)
  have hcd : ∀ x t, (aSim (vO M 4) x t).1 < 3 := fun x t => cdl2 cod_sim
  refine ⟨Or.inl rfl, ?_⟩
  refine ⟨⟨Nat.le_of_ble_eq_true rfl, (by have a0 : (mjT 192).1 = 1 := rfl; have b0 : (mjT 192).2 = 6 := rfl; have a1 : (mjT 167).1 = 0 := rfl; have b1 : (mjT 167).2 = 0 := rfl; have a2 : (mjT 98).1 = 0 := rfl; have b2 : (mjT 98).2 = 0 := rfl; omega), (by have a0 : (mjT 192).1 = 1 := rfl; have b0 : (mjT 192).2 = 6 := rfl; have a1 : (mjT 167).1 = 0 := rfl; have b1 : (mjT 167).2 = 0 := rfl; have a2 : (mjT 98).1 = 0 := rfl; have b2 : (mjT 98).2 = 0 := rfl; omega)⟩, by simp only [hM.1.1, hR.2.2.2.1.1, hL.1] <;> first | rfl | decide, _, T_thrown hM, ?_⟩
  rintro rs3_ w3_ ⟨rfl, rfl⟩
  refine ⟨Or.inl rfl, ?_⟩
  refine ⟨fun h1 => ?_, fun h1 => ?_⟩
  · refine ⟨fun h2 => ?_, fun h2 => ?_⟩
    · refine ee_at (nt := nzT 195) [(0, .ref 1000001), (1, .ref 1), (2, .ref 137), (3, .ref 144), (4, .int (nI (4 * (kk + 1))))] (S, M2, J1) rfl (by rw [show nI (4 * (kk + 1)) = nI (4 * kk) + 4 from by rw [o_4, nI_add]; rfl]; rfl) rfl (hN M2 J1 _ _ hG (by have a0 : (mjT 192).1 = 1 := rfl; have b0 : (mjT 192).2 = 6 := rfl; have a1 : (mjT 167).1 = 0 := rfl; have b1 : (mjT 167).2 = 0 := rfl; have a2 : (mjT 98).1 = 0 := rfl; have b2 : (mjT 98).2 = 0 := rfl; omega) (by have a0 : (mjT 192).1 = 1 := rfl; have b0 : (mjT 192).2 = 6 := rfl; have a1 : (mjT 167).1 = 0 := rfl; have b1 : (mjT 167).2 = 0 := rfl; have a2 : (mjT 98).1 = 0 := rfl; have b2 : (mjT 98).2 = 0 := rfl; omega))
    · refine ⟨by simp only [hM.1.1, hR.2.2.2.1.1, hL.1] <;> first | rfl | decide, (by simp only [hL.2]; exact vp_in_nI (show 0 < 1 by omega) (by omega)), ?_⟩
      refine ⟨fun h3 => ?_, fun h3 => ?_⟩
      · refine ee_at (nt := nzT 195) [(0, .ref 1000001), (1, .ref 1), (2, .ref 137), (3, .ref 144), (4, .int (nI (4 * (kk + 1))))] (S, M2, J1) rfl (by rw [show nI (4 * (kk + 1)) = nI (4 * kk) + 4 from by rw [o_4, nI_add]; rfl]; rfl) rfl (hN M2 J1 _ _ hG (by have a0 : (mjT 192).1 = 1 := rfl; have b0 : (mjT 192).2 = 6 := rfl; have a1 : (mjT 167).1 = 0 := rfl; have b1 : (mjT 167).2 = 0 := rfl; have a2 : (mjT 98).1 = 0 := rfl; have b2 : (mjT 98).2 = 0 := rfl; omega) (by have a0 : (mjT 192).1 = 1 := rfl; have b0 : (mjT 192).2 = 6 := rfl; have a1 : (mjT 167).1 = 0 := rfl; have b1 : (mjT 167).2 = 0 := rfl; have a2 : (mjT 98).1 = 0 := rfl; have b2 : (mjT 98).2 = 0 := rfl; omega))
      · (have hz := (n0 (Nat.lt_trans (hcd _ _) (by decide))).mp h2; have h_ := h3; exact absurd (cmp0.mpr (show J1 144 0 = v.toInt64 by rw [hv1 hz, mv hz])) h_)
  · (have h_ := h1; exact absurd m0 h_)
set_option maxRecDepth 100000 in
set_option maxHeartbeats 4000000 in
theorem K_1 {S : Sc} {M : Nat → Nat → Int32} {J : Nat → Nat → Int64} {xs : Nat → Int32} {L kk B nc ns : Nat} (hA : AllS S) (h : LG B M) (hB : B < 800000) (hk : 4 * kk + 3 < L) (hL2 : L ≤ 2048) (hnc : nc ≤ 600000) (hns : ns ≤ 7000000) (hN : ∀ M' J' nc' ns', LG (B + 1000) M' → nc' ≤ nc + 1 → ns' ≤ ns + 6 → EE (SL xs L) (23, [(0, .ref 1000001), (1, .ref 1), (2, .ref 137), (3, .ref 144), (4, .int (nI (4 * (kk + 1))))], [], (S, M', J'), nc', ns')) : EE (SL xs L) (220, [(0, .ref 1000001), (1, .ref 1), (2, .ref 137), (3, .ref 144), (4, .int (nI (4 * kk)))], [], (S, M, J), nc, ns) := by
  obtain ⟨hR, hM, hL⟩ := hA
  obtain ⟨⟨n_, τ, c1, c2⟩, h2, ⟨a, y, ha, hy, h180, h181, h11, a6⟩, h4⟩ := id h
  have hI : I2 B (vO M 4) := h2.1.I2 h2.2
  obtain ⟨n, hn3, hn, e0, e1, e2, e3⟩ := h2.n
  have hc17 := h2.2.cnt
  have hBB : B < 1000000 := by omega
  refine EE.runN (stop := atPc [23]) 90 _ ?_
  refine ⟨⟨Nat.le_of_ble_eq_true rfl, (by have a0 : (mjT 64).1 = 0 := rfl; have b0 : (mjT 64).2 = 0 := rfl; have a1 : (mjT 122).1 = 0 := rfl; have b1 : (mjT 122).2 = 0 := rfl; omega), (by have a0 : (mjT 64).1 = 0 := rfl; have b0 : (mjT 64).2 = 0 := rfl; have a1 : (mjT 122).1 = 0 := rfl; have b1 : (mjT 122).2 = 0 := rfl; omega)⟩, by simp only [hM.1.1, hR.2.2.2.1.1, hL.1] <;> first | rfl | decide, _, C_clear hR c1, ?_⟩
  rintro _ _ ⟨rfl, rfl⟩
  refine ⟨Or.inl rfl, ?_⟩
  refine ⟨⟨Nat.le_of_ble_eq_true rfl, (by have a0 : (mjT 64).1 = 0 := rfl; have b0 : (mjT 64).2 = 0 := rfl; have a1 : (mjT 122).1 = 0 := rfl; have b1 : (mjT 122).2 = 0 := rfl; omega), (by have a0 : (mjT 64).1 = 0 := rfl; have b0 : (mjT 64).2 = 0 := rfl; have a1 : (mjT 122).1 = 0 := rfl; have b1 : (mjT 122).2 = 0 := rfl; omega)⟩, by simp only [hM.1.1, hR.2.2.2.1.1, hL.1] <;> first | rfl | decide, _, R_clear (M := upA M 2 (upd (M 2) 0 0)) (n := n_) hM (by rw [upA_n _ _ (by omega)]; exact c2.1), ?_⟩
  rintro _ _ ⟨rfl, rfl⟩
  refine ⟨Or.inl rfl, ?_⟩
  refine ⟨fun h1 => ?_, fun h1 => ?_⟩
  · refine ee_at (nt := nzT 195) [(0, .ref 1000001), (1, .ref 1), (2, .ref 137), (3, .ref 144), (4, .int (nI (4 * (kk + 1))))] (S, (setQ (setQ (upA M 2 (upd (M 2) 0 0)) 0 0) 2 0), J) rfl (by rw [show nI (4 * (kk + 1)) = nI (4 * kk) + 4 from by rw [o_4, nI_add]; rfl]; rfl) rfl (hN ((setQ (setQ (upA M 2 (upd (M 2) 0 0)) 0 0) 2 0)) J _ _ ((LG_clear h c1 c2).mono (by omega)) (by have a0 : (mjT 64).1 = 0 := rfl; have b0 : (mjT 64).2 = 0 := rfl; have a1 : (mjT 122).1 = 0 := rfl; have b1 : (mjT 122).2 = 0 := rfl; omega) (by have a0 : (mjT 64).1 = 0 := rfl; have b0 : (mjT 64).2 = 0 := rfl; have a1 : (mjT 122).1 = 0 := rfl; have b1 : (mjT 122).2 = 0 := rfl; omega))
  · exact absurd rfl h1
set_option maxRecDepth 100000 in
set_option maxHeartbeats 4000000 in
theorem K_2 {S : Sc} {M : Nat → Nat → Int32} {J : Nat → Nat → Int64} {xs : Nat → Int32} {L kk B nc ns : Nat} (hA : AllS S) (h : LG B M) (hB : B < 800000) (hk : 4 * kk + 3 < L) (hL2 : L ≤ 2048) (hnc : nc ≤ 600000) (hns : ns ≤ 7000000) (hN : ∀ M' J' nc' ns', LG (B + 1000) M' → nc' ≤ nc + 1 → ns' ≤ ns + 6 → EE (SL xs L) (23, [(0, .ref 1000001), (1, .ref 1), (2, .ref 137), (3, .ref 144), (4, .int (nI (4 * (kk + 1))))], [], (S, M', J'), nc', ns')) : EE (SL xs L) (233, [(0, .ref 1000001), (1, .ref 1), (2, .ref 137), (3, .ref 144), (4, .int (nI (4 * kk)))], [], (S, M, J), nc, ns) := by
  obtain ⟨hR, hM, hL⟩ := hA
  obtain ⟨⟨n_, τ, c1, c2⟩, h2, ⟨a, y, ha, hy, h180, h181, h11, a6⟩, h4⟩ := id h
  have hI : I2 B (vO M 4) := h2.1.I2 h2.2
  obtain ⟨n, hn3, hn, e0, e1, e2, e3⟩ := h2.n
  have hc17 := h2.2.cnt
  have hBB : B < 1000000 := by omega
  refine EE.runN (stop := atPc [23]) 90 _ ?_
  refine ⟨⟨Nat.le_of_ble_eq_true rfl, (by have a0 : (mjT 65).1 = 0 := rfl; have b0 : (mjT 65).2 = 0 := rfl; have a1 : (mjT 136).1 = 0 := rfl; have b1 : (mjT 136).2 = 0 := rfl; omega), (by have a0 : (mjT 65).1 = 0 := rfl; have b0 : (mjT 65).2 = 0 := rfl; have a1 : (mjT 136).1 = 0 := rfl; have b1 : (mjT 136).2 = 0 := rfl; omega)⟩, by simp only [hM.1.1, hR.2.2.2.1.1, hL.1] <;> first | rfl | decide, _, C_error hR c1, ?_⟩
  rintro rs1_ w1_ ⟨rfl, M1, rfl, t1, o1⟩
  refine ⟨Or.inl rfl, ?_⟩
  refine ⟨⟨Nat.le_of_ble_eq_true rfl, (by have a0 : (mjT 65).1 = 0 := rfl; have b0 : (mjT 65).2 = 0 := rfl; have a1 : (mjT 136).1 = 0 := rfl; have b1 : (mjT 136).2 = 0 := rfl; omega), (by have a0 : (mjT 65).1 = 0 := rfl; have b0 : (mjT 65).2 = 0 := rfl; have a1 : (mjT 136).1 = 0 := rfl; have b1 : (mjT 136).2 = 0 := rfl; omega)⟩, by simp only [hM.1.1, hR.2.2.2.1.1, hL.1] <;> first | rfl | decide, _, T_mErr (M := M1) hM (show TxM M1 n_ τ from ⟨by rw [o1 137 (by omega)]; exact c2.1, c2.2.1, fun q hq => by rw [o1 138 (by omega)]; exact c2.2.2 q hq⟩), ?_⟩
  rintro rs2_ w2_ ⟨rfl, M2, rfl, z0, jk⟩
  refine ⟨Or.inl rfl, ?_⟩
  refine ⟨fun h1 => ?_, fun h1 => ?_⟩
  · refine ee_at (nt := nzT 195) [(0, .ref 1000001), (1, .ref 1), (2, .ref 137), (3, .ref 144), (4, .int (nI (4 * (kk + 1))))] (S, M2, J) rfl (by rw [show nI (4 * (kk + 1)) = nI (4 * kk) + 4 from by rw [o_4, nI_add]; rfl]; rfl) rfl (hN (M2) J _ _ ((LG_jk (LG_2 h c2 t1 o1) jk).mono (by omega)) (by have a0 : (mjT 65).1 = 0 := rfl; have b0 : (mjT 65).2 = 0 := rfl; have a1 : (mjT 136).1 = 0 := rfl; have b1 : (mjT 136).2 = 0 := rfl; omega) (by have a0 : (mjT 65).1 = 0 := rfl; have b0 : (mjT 65).2 = 0 := rfl; have a1 : (mjT 136).1 = 0 := rfl; have b1 : (mjT 136).2 = 0 := rfl; omega))
  · exact absurd rfl h1
set_option maxRecDepth 100000 in
set_option maxHeartbeats 4000000 in
theorem K_23 {S : Sc} {M : Nat → Nat → Int32} {J : Nat → Nat → Int64} {xs : Nat → Int32} {L kk B nc ns : Nat} (hA : AllS S) (h : LG B M) (hB : B < 800000) (hk : 4 * kk + 3 < L) (hL2 : L ≤ 2048) (hnc : nc ≤ 600000) (hns : ns ≤ 7000000) (hN : ∀ M' J' nc' ns', LG (B + 1000) M' → nc' ≤ nc + 1 → ns' ≤ ns + 6 → EE (SL xs L) (23, [(0, .ref 1000001), (1, .ref 1), (2, .ref 137), (3, .ref 144), (4, .int (nI (4 * (kk + 1))))], [], (S, M', J'), nc', ns')) : EE (SL xs L) (1426, [(0, .ref 1000001), (1, .ref 1), (2, .ref 137), (3, .ref 144), (4, .int (nI (4 * kk)))], [], (S, M, J), nc, ns) := by
  obtain ⟨hR, hM, hL⟩ := hA
  obtain ⟨⟨n_, τ, c1, c2⟩, h2, ⟨a, y, ha, hy, h180, h181, h11, a6⟩, h4⟩ := id h
  have hI : I2 B (vO M 4) := h2.1.I2 h2.2
  obtain ⟨n, hn3, hn, e0, e1, e2, e3⟩ := h2.n
  have hc17 := h2.2.cnt
  have hBB : B < 1000000 := by omega
  refine EE.runN (stop := atPc [23]) 90 _ ?_
  refine ⟨⟨Nat.le_of_ble_eq_true rfl, (by have a0 : (mjT 86).1 = 0 := rfl; have b0 : (mjT 86).2 = 0 := rfl; have a1 : (mjT 163).1 = 0 := rfl; have b1 : (mjT 163).2 = 0 := rfl; omega), (by have a0 : (mjT 86).1 = 0 := rfl; have b0 : (mjT 86).2 = 0 := rfl; have a1 : (mjT 163).1 = 0 := rfl; have b1 : (mjT 163).2 = 0 := rfl; omega)⟩, by simp only [hM.1.1, hR.2.2.2.1.1, hL.1] <;> first | rfl | decide, _, C_dueFirst hR hI, ?_⟩
  rintro rs1_ w1_ ⟨M1, hw1, hP1, hr⟩
  subst hw1
  have hr0 := hr.trans (rs_0 first0)
  subst hr0
  have e139 : M1 139 = M 139 := funext fun q => hP1 139 q ⟨by omega, by omega, fun h_ => by omega, fun h_ => by omega⟩
  have g17 : M1 139 17 = nI (M 139 17).toNatClampNeg := by rw [e139]; exact hc17.1
  refine ⟨Or.inl rfl, ?_⟩
  refine ⟨⟨Nat.le_of_ble_eq_true rfl, (by have a0 : (mjT 86).1 = 0 := rfl; have b0 : (mjT 86).2 = 0 := rfl; have a1 : (mjT 163).1 = 0 := rfl; have b1 : (mjT 163).2 = 0 := rfl; omega), (by have a0 : (mjT 86).1 = 0 := rfl; have b0 : (mjT 86).2 = 0 := rfl; have a1 : (mjT 163).1 = 0 := rfl; have b1 : (mjT 163).2 = 0 := rfl; omega)⟩, by simp only [hM.1.1, hR.2.2.2.1.1, hL.1] <;> first | rfl | decide, _, R_dueFirst hM g17 hc17.2, ?_⟩
  rintro rs2_ w2_ ⟨v, M2, rfl, hw2, m0, mv, hJ2⟩
  subst hw2
  rw [e139, ← eq_first h2] at m0 mv
  refine ⟨Or.inl rfl, ?_⟩
  refine ⟨fun h1 => ?_, fun h1 => ?_⟩
  · refine ee_at (nt := nzT 195) [(0, .ref 1000001), (1, .ref 1), (2, .ref 137), (3, .ref 144), (4, .int (nI (4 * (kk + 1))))] (S, M2, J) rfl (by rw [show nI (4 * (kk + 1)) = nI (4 * kk) + 4 from by rw [o_4, nI_add]; rfl]; rfl) rfl (hN (M2) J _ _ ((LG_jk h (hP1.tr hJ2)).mono (by omega)) (by have a0 : (mjT 86).1 = 0 := rfl; have b0 : (mjT 86).2 = 0 := rfl; have a1 : (mjT 163).1 = 0 := rfl; have b1 : (mjT 163).2 = 0 := rfl; omega) (by have a0 : (mjT 86).1 = 0 := rfl; have b0 : (mjT 86).2 = 0 := rfl; have a1 : (mjT 163).1 = 0 := rfl; have b1 : (mjT 163).2 = 0 := rfl; omega))
  · exact absurd (mv first0).symm h1
set_option maxRecDepth 100000 in
set_option maxHeartbeats 4000000 in
theorem K_3b {S : Sc} {M : Nat → Nat → Int32} {J : Nat → Nat → Int64} {xs : Nat → Int32} {L kk B nc ns : Nat} (hA : AllS S) (h : LG B M) (hB : B < 800000) (hB0 : 90000 ≤ B) (hk : 4 * kk + 3 < L) (hL2 : L ≤ 2048) (hnc : nc ≤ 600000) (hns : ns ≤ 7000000) (hN : ∀ M' J' nc' ns', LG (B + 1000) M' → nc' ≤ nc + 1 → ns' ≤ ns + 6 → EE (SL xs L) (23, [(0, .ref 1000001), (1, .ref 1), (2, .ref 137), (3, .ref 144), (4, .int (nI (4 * (kk + 1))))], [], (S, M', J'), nc', ns')) {n_ : Nat} {τ : Nat → Nat} (c1 : TxC M n_ τ) (c2 : TxM M n_ τ) (hb : (mEnd n_ τ).1 = false) : EE (SL xs L) (246, [(0, .ref 1000001), (1, .ref 1), (2, .ref 137), (3, .ref 144), (4, .int (nI (4 * kk)))], [], (S, M, J), nc, ns) := by
  obtain ⟨hR, hM, hL⟩ := hA
  obtain ⟨_, h2, ⟨a, y, ha, hy, h180, h181, h11, a6⟩, h4⟩ := id h
  refine EE.runN (stop := atPc [23]) 90 _ ?_
  refine ⟨⟨Nat.le_of_ble_eq_true rfl, (by have a0 : (mjT 171).1 = 1 := rfl; have b0 : (mjT 171).2 = 6 := rfl; have a1 : (mjT 137).1 = 0 := rfl; have b1 : (mjT 137).2 = 0 := rfl; have a2 : (mjT 98).1 = 0 := rfl; have b2 : (mjT 98).2 = 0 := rfl; omega), (by have a0 : (mjT 171).1 = 1 := rfl; have b0 : (mjT 171).2 = 6 := rfl; have a1 : (mjT 137).1 = 0 := rfl; have b1 : (mjT 137).2 = 0 := rfl; have a2 : (mjT 98).1 = 0 := rfl; have b2 : (mjT 98).2 = 0 := rfl; omega)⟩, _, H_load_bad hR c1 hb hL, ?_⟩
  rintro rs1_ w1_ ⟨rfl, M1, rfl, t1, o1⟩
  refine ⟨Or.inl rfl, ?_⟩
  refine ⟨⟨Nat.le_of_ble_eq_true rfl, (by have a0 : (mjT 171).1 = 1 := rfl; have b0 : (mjT 171).2 = 6 := rfl; have a1 : (mjT 137).1 = 0 := rfl; have b1 : (mjT 137).2 = 0 := rfl; have a2 : (mjT 98).1 = 0 := rfl; have b2 : (mjT 98).2 = 0 := rfl; omega), (by have a0 : (mjT 171).1 = 1 := rfl; have b0 : (mjT 171).2 = 6 := rfl; have a1 : (mjT 137).1 = 0 := rfl; have b1 : (mjT 137).2 = 0 := rfl; have a2 : (mjT 98).1 = 0 := rfl; have b2 : (mjT 98).2 = 0 := rfl; omega)⟩, by simp only [hM.1.1, hR.2.2.2.1.1, hL.1] <;> first | rfl | decide, _, T_mload_bad (M := M1) hM (show TxM M1 n_ τ from ⟨by rw [o1 137 (by omega)]; exact c2.1, c2.2.1, fun q hq => by rw [o1 138 (by omega)]; exact c2.2.2 q hq⟩) hb, ?_⟩
  rintro rs2_ w2_ ⟨rfl, M2, rfl, m0, jk⟩
  refine ⟨Or.inl rfl, ?_⟩
  refine ⟨⟨Nat.le_of_ble_eq_true rfl, (by have a0 : (mjT 171).1 = 1 := rfl; have b0 : (mjT 171).2 = 6 := rfl; have a1 : (mjT 137).1 = 0 := rfl; have b1 : (mjT 137).2 = 0 := rfl; have a2 : (mjT 98).1 = 0 := rfl; have b2 : (mjT 98).2 = 0 := rfl; omega), (by have a0 : (mjT 171).1 = 1 := rfl; have b0 : (mjT 171).2 = 6 := rfl; have a1 : (mjT 137).1 = 0 := rfl; have b1 : (mjT 137).2 = 0 := rfl; have a2 : (mjT 98).1 = 0 := rfl; have b2 : (mjT 98).2 = 0 := rfl; omega)⟩, by simp only [hM.1.1, hR.2.2.2.1.1, hL.1] <;> first | rfl | decide, _, T_thrown hM, ?_⟩
  rintro rs3_ w3_ ⟨rfl, rfl⟩
  refine ⟨Or.inl rfl, ?_⟩
  refine ⟨fun h1 => ?_, fun h1 => ?_⟩
  · refine ⟨fun h2 => ?_, fun h2 => ?_⟩
    · refine ee_at (nt := nzT 195) [(0, .ref 1000001), (1, .ref 1), (2, .ref 137), (3, .ref 144), (4, .int (nI (4 * (kk + 1))))] (S, M2, J) rfl (by rw [show nI (4 * (kk + 1)) = nI (4 * kk) + 4 from by rw [o_4, nI_add]; rfl]; rfl) rfl (hN M2 J _ _ ((LG_jk (LG_2 h c2 t1 o1) jk).mono (by omega)) (by have a0 : (mjT 171).1 = 1 := rfl; have b0 : (mjT 171).2 = 6 := rfl; have a1 : (mjT 137).1 = 0 := rfl; have b1 : (mjT 137).2 = 0 := rfl; have a2 : (mjT 98).1 = 0 := rfl; have b2 : (mjT 98).2 = 0 := rfl; omega) (by have a0 : (mjT 171).1 = 1 := rfl; have b0 : (mjT 171).2 = 6 := rfl; have a1 : (mjT 137).1 = 0 := rfl; have b1 : (mjT 137).2 = 0 := rfl; have a2 : (mjT 98).1 = 0 := rfl; have b2 : (mjT 98).2 = 0 := rfl; omega))
    · exact absurd h2 (by decide)
  · exact absurd m0 h1
set_option maxRecDepth 100000 in
set_option maxHeartbeats 4000000 in
theorem K_3g {S : Sc} {M : Nat → Nat → Int32} {J : Nat → Nat → Int64} {xs : Nat → Int32} {L kk B nc ns : Nat} (hA : AllS S) (h : LG B M) (hB : B < 800000) (hB0 : 90000 ≤ B) (hk : 4 * kk + 3 < L) (hL2 : L ≤ 2048) (hnc : nc ≤ 600000) (hns : ns ≤ 7000000) (hN : ∀ M' J' nc' ns', LG (B + 1000) M' → nc' ≤ nc + 1 → ns' ≤ ns + 6 → EE (SL xs L) (23, [(0, .ref 1000001), (1, .ref 1), (2, .ref 137), (3, .ref 144), (4, .int (nI (4 * (kk + 1))))], [], (S, M', J'), nc', ns')) {n_ : Nat} {τ : Nat → Nat} (c1 : TxC M n_ τ) (c2 : TxM M n_ τ) (hg : (mEnd n_ τ).1 = true) : EE (SL xs L) (246, [(0, .ref 1000001), (1, .ref 1), (2, .ref 137), (3, .ref 144), (4, .int (nI (4 * kk)))], [], (S, M, J), nc, ns) := by
  obtain ⟨hR, hM, hL⟩ := hA
  obtain ⟨_, h2, ⟨a, y, ha, hy, h180, h181, h11, a6⟩, h4⟩ := id h
  refine EE.runN (stop := atPc [23]) 90 _ ?_
  refine ⟨⟨Nat.le_of_ble_eq_true rfl, (by have a0 : (mjT 171).1 = 1 := rfl; have b0 : (mjT 171).2 = 6 := rfl; have a1 : (mjT 137).1 = 0 := rfl; have b1 : (mjT 137).2 = 0 := rfl; have a2 : (mjT 98).1 = 0 := rfl; have b2 : (mjT 98).2 = 0 := rfl; omega), (by have a0 : (mjT 171).1 = 1 := rfl; have b0 : (mjT 171).2 = 6 := rfl; have a1 : (mjT 137).1 = 0 := rfl; have b1 : (mjT 137).2 = 0 := rfl; have a2 : (mjT 98).1 = 0 := rfl; have b2 : (mjT 98).2 = 0 := rfl; omega)⟩, _, H_load_good hR c1 hg (M 139) hL, ?_⟩
  rintro rs1_ w1_ ⟨rfl, M1, J1, rfl, hv1, t1, q1, k18, k181, k122, o1⟩
  have e139 : M1 139 = M 139 := o1 139 (by omega) (by omega) (by omega) (by omega)
  refine ⟨Or.inl rfl, ?_⟩
  refine ⟨⟨Nat.le_of_ble_eq_true rfl, (by have a0 : (mjT 171).1 = 1 := rfl; have b0 : (mjT 171).2 = 6 := rfl; have a1 : (mjT 137).1 = 0 := rfl; have b1 : (mjT 137).2 = 0 := rfl; have a2 : (mjT 98).1 = 0 := rfl; have b2 : (mjT 98).2 = 0 := rfl; omega), (by have a0 : (mjT 171).1 = 1 := rfl; have b0 : (mjT 171).2 = 6 := rfl; have a1 : (mjT 137).1 = 0 := rfl; have b1 : (mjT 137).2 = 0 := rfl; have a2 : (mjT 98).1 = 0 := rfl; have b2 : (mjT 98).2 = 0 := rfl; omega)⟩, by simp only [hM.1.1, hR.2.2.2.1.1, hL.1] <;> first | rfl | decide, _, T_mload_good (M := M1) hM (show TxM M1 n_ τ from ⟨by rw [o1 137 (by omega) (by omega) (by omega) (by omega)]; exact c2.1, c2.2.1, fun q hq => by rw [o1 138 (by omega) (by omega) (by omega) (by omega)]; exact c2.2.2 q hq⟩) hg, ?_⟩
  rintro rs2_ w2_ ⟨rfl, M2, rfl, m0, m2, m11, m39, m430, m431, k2⟩
  rw [e139] at m39 ⊢
  have v := mHS_v n_ τ
  have v3_ := mTwo_v (n := n_) (τ := τ) (lo := 1) (hi := 99) (s := (mHd2 n_ τ).1) (by omega) (by omega)
  have v4_ := mThree_v (n := n_) (τ := τ) (lo := 10) (s := (mHd3 n_ τ).1) (by omega)
  have hI0 : I2 0 (rClean (M 139) (nI (mHS n_ τ)) (nI (mHd3 n_ τ).2) (nI (mHd4 n_ τ).2)) := rClean_I2 v.1 v.2 v3_.1 v3_.2 v4_.2
  have hI1 := mLd_I2 (n := n_) (τ := τ) (sl := mHS n_ τ) v.2 90 (s := (mHd4 n_ τ).1) (l := 0) hI0 (by omega)
  have hG : LG (B + 1000) M2 := LG_load h c2 t1 ⟨by rw [m39]; exact q1, by rw [m39]; exact hI1.mono (by omega)⟩ k18 k181 k122 o1 m2 m11 m430 m431 k2
  refine ⟨Or.inl rfl, ?_⟩
  refine ⟨⟨Nat.le_of_ble_eq_true rfl, (by have a0 : (mjT 171).1 = 1 := rfl; have b0 : (mjT 171).2 = 6 := rfl; have a1 : (mjT 137).1 = 0 := rfl; have b1 : (mjT 137).2 = 0 := rfl; have a2 : (mjT 98).1 = 0 := rfl; have b2 : (mjT 98).2 = 0 := rfl; omega), (by have a0 : (mjT 171).1 = 1 := rfl; have b0 : (mjT 171).2 = 6 := rfl; have a1 : (mjT 137).1 = 0 := rfl; have b1 : (mjT 137).2 = 0 := rfl; have a2 : (mjT 98).1 = 0 := rfl; have b2 : (mjT 98).2 = 0 := rfl; omega)⟩, by simp only [hM.1.1, hR.2.2.2.1.1, hL.1] <;> first | rfl | decide, _, T_thrown hM, ?_⟩
  rintro rs3_ w3_ ⟨rfl, rfl⟩
  refine ⟨Or.inl rfl, ?_⟩
  refine ⟨fun h1 => ?_, fun h1 => ?_⟩
  · refine ⟨fun h2 => ?_, fun h2 => ?_⟩
    · exact absurd rfl h2
    · refine ⟨by simp only [hM.1.1, hR.2.2.2.1.1, hL.1] <;> first | rfl | decide, (by simp only [hL.2]; exact vp_in_nI (show 0 < 1 by omega) (by omega)), ?_⟩
      refine ⟨fun h3 => ?_, fun h3 => ?_⟩
      · refine ee_at (nt := nzT 195) [(0, .ref 1000001), (1, .ref 1), (2, .ref 137), (3, .ref 144), (4, .int (nI (4 * (kk + 1))))] (S, M2, J1) rfl (by rw [show nI (4 * (kk + 1)) = nI (4 * kk) + 4 from by rw [o_4, nI_add]; rfl]; rfl) rfl (hN M2 J1 _ _ hG (by have a0 : (mjT 171).1 = 1 := rfl; have b0 : (mjT 171).2 = 6 := rfl; have a1 : (mjT 137).1 = 0 := rfl; have b1 : (mjT 137).2 = 0 := rfl; have a2 : (mjT 98).1 = 0 := rfl; have b2 : (mjT 98).2 = 0 := rfl; omega) (by have a0 : (mjT 171).1 = 1 := rfl; have b0 : (mjT 171).2 = 6 := rfl; have a1 : (mjT 137).1 = 0 := rfl; have b1 : (mjT 137).2 = 0 := rfl; have a2 : (mjT 98).1 = 0 := rfl; have b2 : (mjT 98).2 = 0 := rfl; omega))
      · exact absurd (cmp0.mpr hv1) h3
  · exact absurd m0 h1
theorem K_3 {S : Sc} {M : Nat → Nat → Int32} {J : Nat → Nat → Int64} {xs : Nat → Int32} {L kk B nc ns : Nat} (hA : AllS S) (h : LG B M) (hB : B < 800000) (hB0 : 90000 ≤ B) (hk : 4 * kk + 3 < L) (hL2 : L ≤ 2048) (hnc : nc ≤ 600000) (hns : ns ≤ 7000000) (hN : ∀ M' J' nc' ns', LG (B + 1000) M' → nc' ≤ nc + 1 → ns' ≤ ns + 6 → EE (SL xs L) (23, [(0, .ref 1000001), (1, .ref 1), (2, .ref 137), (3, .ref 144), (4, .int (nI (4 * (kk + 1))))], [], (S, M', J'), nc', ns')) : EE (SL xs L) (246, [(0, .ref 1000001), (1, .ref 1), (2, .ref 137), (3, .ref 144), (4, .int (nI (4 * kk)))], [], (S, M, J), nc, ns) := by
  obtain ⟨n_, τ, c1, c2⟩ := h.1
  cases hm : (mEnd n_ τ).1 with
  | false => exact K_3b hA h hB hB0 hk hL2 hnc hns hN c1 c2 hm
  | true => exact K_3g hA h hB hB0 hk hL2 hnc hns hN c1 c2 hm
