/-! THE LAW: its deeds: written by wip/whole/pure3.py -/
theorem nt_0 {M : Nat → Nat → Int32} {a : Nat} {r : Rw} : (upA (mNote (setQ M 0 0) a) 139 r) 137 0 = nI 0 := by
  rw [upA_n _ _ (by omega)]
  have : mNote (setQ M 0 0) a 137 0 = setQ M 0 0 137 0 := by
    unfold mNote
    split
    · unfold mPush mDown
      rw [upA_s, pk_un (by omega), upA_s, pk_un (by omega)]
    · unfold mPush
      rw [upA_s, pk_un (by omega)]
  rw [this, setQ_s]
  rfl
theorem eq_rest {B : Nat} {M : Nat → Nat → Int32} (h4 : ∀ k, k < 2 → M 122 k = M 143 k ∧ (¬ M 143 k = 0 → Sr B (vO M (123 + 7 * k)) (fun q => M 142 (114 * k + q)))) {x : Int32} : aRest (fun k => vO M (120 + 3 + 7 * (k / 114)) (k % 114)) (M (120 + 2)) x = aRest (M 142) (M 143) x := by
  unfold aRest
  by_cases g : ¬ x < 0 ∧ ¬ 1 < x
  · rw [if_pos g, if_pos g]
    obtain ⟨q, hq, hx⟩ := in_nat (k := 1) rfl (by omega) g
    subst hx
    rw [ck (show q < 2147483648 by omega)]
    obtain ⟨e, hs⟩ := h4 q (by omega)
    rw [show M (120 + 2) q = M 143 q from e]
    by_cases g2 : M 143 q = 0
    · rw [if_pos g2, if_pos g2]
    · rw [if_neg g2, if_neg g2]
      have := (hs g2).lo (q := 5) (by omega)
      dsimp only
      rw [show (114 * q + 5) / 114 = q by omega, show (114 * q + 5) % 114 = 5 by omega, show 120 + 3 + 7 * q = 123 + 7 * q by omega]
      exact congrArg (fun v => (0, v)) this
  · rw [if_neg g, if_neg g]
theorem un_0 {M : Nat → Nat → Int32} {v : Int32} {r : Rw} : (upA (setQ (setQ M 0 0) 11 v) 139 r) 137 0 = nI 0 := by
  rw [upA_n _ _ (by omega), setQ_k (by omega), setQ_s]
  rfl
theorem sv_0 {M : Nat → Nat → Int32} {r r' : Rw} : (upA (upA (setQ M 0 0) 142 r) 143 r') 137 0 = nI 0 := by
  rw [upA_n _ _ (by omega), upA_n _ _ (by omega), setQ_s]
  rfl
theorem rs_00 {M : Nat → Nat → Int32} {r : Rw} : (setQ (upA (setQ M 0 0) 139 r) 11 0) 137 0 = nI 0 := by
  rw [setQ_k (by omega), upA_n _ _ (by omega), setQ_s]
  rfl
theorem ap_0 {M : Nat → Nat → Int32} {r : Rw} {v : Int32} : (setQ (upA (setQ M 0 0) 138 r) 2 v) 137 0 = nI 0 := by
  rw [setQ_k (by omega), upA_n _ _ (by omega), setQ_s]
  rfl
set_option maxRecDepth 100000 in
set_option maxHeartbeats 4000000 in
theorem K_11 {S : Sc} {M : Nat → Nat → Int32} {J : Nat → Nat → Int64} {xs : Nat → Int32} {L kk B nc ns : Nat} (hA : AllS S) (h : LG B M) (hB : B < 800000) (hk : 4 * kk + 3 < L) (hL2 : L ≤ 2048) (hnc : nc ≤ 600000) (hns : ns ≤ 7000000) (hN : ∀ M' J' nc' ns', LG (B + 1000) M' → nc' ≤ nc + 1 → ns' ≤ ns + 6 → EE (SL xs L) (23, [(0, .ref 1000001), (1, .ref 1), (2, .ref 137), (3, .ref 144), (4, .int (nI (4 * (kk + 1))))], [], (S, M', J'), nc', ns')) : EE (SL xs L) (718, [(0, .ref 1000001), (1, .ref 1), (2, .ref 137), (3, .ref 144), (4, .int (nI (4 * kk)))], [], (S, M, J), nc, ns) := by
  obtain ⟨hR, hM, hL⟩ := hA
  obtain ⟨⟨n_, τ, c1, c2⟩, h2, ⟨a, y, ha, hy, h180, h181, h11, a6⟩, h4⟩ := id h
  have hI : I2 B (vO M 4) := h2.1.I2 h2.2
  obtain ⟨n, hn3, hn, e0, e1, e2, e3⟩ := h2.n
  have hc17 := h2.2.cnt
  have hBB : B < 1000000 := by omega
  refine EE.runN (stop := atPc [23]) 90 _ ?_
  refine ⟨(by rw [o_1, nI_add]; exact vp_in_nI (show 4 * kk + 1 < L by omega) (by omega)), ?_⟩
  refine ⟨⟨Nat.le_of_ble_eq_true rfl, (by have a0 : (mjT 179).1 = 1 := rfl; have b0 : (mjT 179).2 = 6 := rfl; have a1 : (mjT 146).1 = 0 := rfl; have b1 : (mjT 146).2 = 0 := rfl; have a2 : (mjT 98).1 = 0 := rfl; have b2 : (mjT 98).2 = 0 := rfl; omega), (by have a0 : (mjT 179).1 = 1 := rfl; have b0 : (mjT 179).2 = 6 := rfl; have a1 : (mjT 146).1 = 0 := rfl; have b1 : (mjT 146).2 = 0 := rfl; have a2 : (mjT 98).1 = 0 := rfl; have b2 : (mjT 98).2 = 0 := rfl; omega)⟩, _, H_drive hR hI hBB ha hy h180 h181 hL, ?_⟩
  rintro rs1_ w1_ ⟨M1, J1, rfl, hw1, ⟨hP0, hP1⟩, hv1⟩
  subst hw1
  have e_o : ∀ o, 137 ≤ o → M1 o = M o := by
    intro o ho
    by_cases hz : (aDrive (vO M 4) (xs (nI (4 * kk) + 1).toNatClampNeg)).1 = 0
    · rw [hP1 hz, sO_ot _ _ _ (by omega)]
      unfold hRem
      rw [upA_n _ _ (by omega), upA_n _ _ (by omega), sO_ot _ _ _ (by omega)]
    · rw [hP0 hz]
  have e139 : M1 139 = M 139 := e_o 139 (by omega)
  have g11 : M1 137 11 = nI a := by rw [e_o 137 (by omega)]; exact h11
  have g2 : M1 137 2 = nI n_ := by rw [e_o 137 (by omega)]; exact c2.1
  have g0 : M1 139 0 = nI (M 139 0).toNatClampNeg := by rw [e139, e2]; exact e0
  have g17 : M1 139 17 = nI (M 139 17).toNatClampNeg := by rw [e139]; exact hc17.1
  have gm : (M 139 17).toNatClampNeg ≤ 12 := hc17.2
  have gok : Rok (M1 139) := by rw [e139]; exact h2.2.1.1
  have gI : I2 B (M1 139) := by rw [e139]; exact h2.2
  refine ⟨Or.inl rfl, ?_⟩
  refine ⟨(by rw [o_1, nI_add]; exact vp_in_nI (show 4 * kk + 1 < L by omega) (by omega)), ?_⟩
  refine ⟨⟨Nat.le_of_ble_eq_true rfl, (by have a0 : (mjT 179).1 = 1 := rfl; have b0 : (mjT 179).2 = 6 := rfl; have a1 : (mjT 146).1 = 0 := rfl; have b1 : (mjT 146).2 = 0 := rfl; have a2 : (mjT 98).1 = 0 := rfl; have b2 : (mjT 98).2 = 0 := rfl; omega), (by have a0 : (mjT 179).1 = 1 := rfl; have b0 : (mjT 179).2 = 6 := rfl; have a1 : (mjT 146).1 = 0 := rfl; have b1 : (mjT 146).2 = 0 := rfl; have a2 : (mjT 98).1 = 0 := rfl; have b2 : (mjT 98).2 = 0 := rfl; omega)⟩, by simp only [hM.1.1, hR.2.2.2.1.1, hL.1] <;> first | rfl | decide, _, R_drive hM ha g11 gok, ?_⟩
  rintro rs2_ w2_ ⟨v, M2, rfl, hw2, hq0, hq1⟩
  subst hw2
  rw [e139, ← eq_drive h2] at hq0 hq1
  have hcd : (aDrive (vO M 4) (xs (nI (4 * kk) + 1).toNatClampNeg)).1 < 3 := cdl3 (cod_drive)
  have m0 : M2 137 0 = nI (aDrive (vO M 4) (xs (nI (4 * kk) + 1).toNatClampNeg)).1 := by
    by_cases hz : (aDrive (vO M 4) (xs (nI (4 * kk) + 1).toNatClampNeg)).1 = 0
    · rw [(hq1 hz).2, hz]; exact nt_0
    · rw [hq0 hz]; exact setQ_s
  have mv : (aDrive (vO M 4) (xs (nI (4 * kk) + 1).toNatClampNeg)).1 = 0 → v = (aDrive (vO M 4) (xs (nI (4 * kk) + 1).toNatClampNeg)).2 := fun hz => (hq1 hz).1
  have hG : LG (B + 1000) M2 := by
    by_cases hz : (aDrive (vO M 4) (xs (nI (4 * kk) + 1).toNatClampNeg)).1 = 0
    · have e1_ := hP1 hz
      have e2_ := (hq1 hz).2
      have gz : ¬ xs (nI (4 * kk) + 1).toNatClampNeg < 1 ∧ ¬ 999 < xs (nI (4 * kk) + 1).toNatClampNeg := by
        by_cases g_ : ¬ xs (nI (4 * kk) + 1).toNatClampNeg < 1 ∧ ¬ 999 < xs (nI (4 * kk) + 1).toNatClampNeg
        · exact g_
        · unfold aDrive at hz; rw [if_neg g_] at hz; exact absurd hz (by decide)
      obtain ⟨q, hq1_, hq_, hx⟩ := in_nat1 (k := 999) rfl (by omega) gz
      have ht : (xs (nI (4 * kk) + 1).toNatClampNeg).toNatClampNeg ≤ 999 := by rw [hx, ck (by omega)]; omega
      rw [e2_, e1_]
      exact LG_note (B' := B + 1000) (by omega) ⟨n_, τ, c1, c2⟩ h2 ha hy a6 h4 (sr_drive h2 ht hBB)
    · rw [hq0 hz, hP0 hz]; exact (LG_jk h (Jk_Q M (by omega))).mono (by omega)
  refine ⟨Or.inl rfl, ?_⟩
  refine ⟨⟨Nat.le_of_ble_eq_true rfl, (by have a0 : (mjT 179).1 = 1 := rfl; have b0 : (mjT 179).2 = 6 := rfl; have a1 : (mjT 146).1 = 0 := rfl; have b1 : (mjT 146).2 = 0 := rfl; have a2 : (mjT 98).1 = 0 := rfl; have b2 : (mjT 98).2 = 0 := rfl; omega), (by have a0 : (mjT 179).1 = 1 := rfl; have b0 : (mjT 179).2 = 6 := rfl; have a1 : (mjT 146).1 = 0 := rfl; have b1 : (mjT 146).2 = 0 := rfl; have a2 : (mjT 98).1 = 0 := rfl; have b2 : (mjT 98).2 = 0 := rfl; omega)⟩, by simp only [hM.1.1, hR.2.2.2.1.1, hL.1] <;> first | rfl | decide, _, T_thrown hM, ?_⟩
  rintro rs3_ w3_ ⟨rfl, rfl⟩
  refine ⟨Or.inl rfl, ?_⟩
  refine ⟨fun h1 => ?_, fun h1 => ?_⟩
  · refine ⟨fun h2 => ?_, fun h2 => ?_⟩
    · refine ee_at (nt := nzT 195) [(0, .ref 1000001), (1, .ref 1), (2, .ref 137), (3, .ref 144), (4, .int (nI (4 * (kk + 1))))] (S, M2, J1) rfl (by rw [show nI (4 * (kk + 1)) = nI (4 * kk) + 4 from by rw [o_4, nI_add]; rfl]; rfl) rfl (hN M2 J1 _ _ hG (by have a0 : (mjT 179).1 = 1 := rfl; have b0 : (mjT 179).2 = 6 := rfl; have a1 : (mjT 146).1 = 0 := rfl; have b1 : (mjT 146).2 = 0 := rfl; have a2 : (mjT 98).1 = 0 := rfl; have b2 : (mjT 98).2 = 0 := rfl; omega) (by have a0 : (mjT 179).1 = 1 := rfl; have b0 : (mjT 179).2 = 6 := rfl; have a1 : (mjT 146).1 = 0 := rfl; have b1 : (mjT 146).2 = 0 := rfl; have a2 : (mjT 98).1 = 0 := rfl; have b2 : (mjT 98).2 = 0 := rfl; omega))
    · refine ⟨by simp only [hM.1.1, hR.2.2.2.1.1, hL.1] <;> first | rfl | decide, (by simp only [hL.2]; exact vp_in_nI (show 0 < 1 by omega) (by omega)), ?_⟩
      refine ⟨fun h3 => ?_, fun h3 => ?_⟩
      · refine ee_at (nt := nzT 195) [(0, .ref 1000001), (1, .ref 1), (2, .ref 137), (3, .ref 144), (4, .int (nI (4 * (kk + 1))))] (S, M2, J1) rfl (by rw [show nI (4 * (kk + 1)) = nI (4 * kk) + 4 from by rw [o_4, nI_add]; rfl]; rfl) rfl (hN M2 J1 _ _ hG (by have a0 : (mjT 179).1 = 1 := rfl; have b0 : (mjT 179).2 = 6 := rfl; have a1 : (mjT 146).1 = 0 := rfl; have b1 : (mjT 146).2 = 0 := rfl; have a2 : (mjT 98).1 = 0 := rfl; have b2 : (mjT 98).2 = 0 := rfl; omega) (by have a0 : (mjT 179).1 = 1 := rfl; have b0 : (mjT 179).2 = 6 := rfl; have a1 : (mjT 146).1 = 0 := rfl; have b1 : (mjT 146).2 = 0 := rfl; have a2 : (mjT 98).1 = 0 := rfl; have b2 : (mjT 98).2 = 0 := rfl; omega))
      · (have hz : (aDrive (vO M 4) (xs (nI (4 * kk) + 1).toNatClampNeg)).1 = 0 := (n0 (by omega)).mp h2; have h_ := h3; exact absurd (cmp0.mpr (show J1 144 0 = v.toInt64 by rw [hv1 hz, mv hz])) h_)
  · (have h_ := h1; exact absurd m0 h_)
set_option maxRecDepth 100000 in
set_option maxHeartbeats 4000000 in
theorem K_12 {S : Sc} {M : Nat → Nat → Int32} {J : Nat → Nat → Int64} {xs : Nat → Int32} {L kk B nc ns : Nat} (hA : AllS S) (h : LG B M) (hB : B < 800000) (hk : 4 * kk + 3 < L) (hL2 : L ≤ 2048) (hnc : nc ≤ 600000) (hns : ns ≤ 7000000) (hN : ∀ M' J' nc' ns', LG (B + 1000) M' → nc' ≤ nc + 1 → ns' ≤ ns + 6 → EE (SL xs L) (23, [(0, .ref 1000001), (1, .ref 1), (2, .ref 137), (3, .ref 144), (4, .int (nI (4 * (kk + 1))))], [], (S, M', J'), nc', ns')) : EE (SL xs L) (774, [(0, .ref 1000001), (1, .ref 1), (2, .ref 137), (3, .ref 144), (4, .int (nI (4 * kk)))], [], (S, M, J), nc, ns) := by
  obtain ⟨hR, hM, hL⟩ := hA
  obtain ⟨⟨n_, τ, c1, c2⟩, h2, ⟨a, y, ha, hy, h180, h181, h11, a6⟩, h4⟩ := id h
  have hI : I2 B (vO M 4) := h2.1.I2 h2.2
  obtain ⟨n, hn3, hn, e0, e1, e2, e3⟩ := h2.n
  have hc17 := h2.2.cnt
  have hBB : B < 1000000 := by omega
  refine EE.runN (stop := atPc [23]) 90 _ ?_
  refine ⟨(by rw [o_1, nI_add]; exact vp_in_nI (show 4 * kk + 1 < L by omega) (by omega)), ?_⟩
  refine ⟨(by rw [o_2, nI_add]; exact vp_in_nI (show 4 * kk + 2 < L by omega) (by omega)), ?_⟩
  refine ⟨⟨Nat.le_of_ble_eq_true rfl, (by have a0 : (mjT 180).1 = 1 := rfl; have b0 : (mjT 180).2 = 6 := rfl; have a1 : (mjT 148).1 = 0 := rfl; have b1 : (mjT 148).2 = 0 := rfl; have a2 : (mjT 98).1 = 0 := rfl; have b2 : (mjT 98).2 = 0 := rfl; omega), (by have a0 : (mjT 180).1 = 1 := rfl; have b0 : (mjT 180).2 = 6 := rfl; have a1 : (mjT 148).1 = 0 := rfl; have b1 : (mjT 148).2 = 0 := rfl; have a2 : (mjT 98).1 = 0 := rfl; have b2 : (mjT 98).2 = 0 := rfl; omega)⟩, _, H_cut hR hI hBB ha hy h180 h181 hL, ?_⟩
  rintro rs1_ w1_ ⟨M1, J1, rfl, hw1, ⟨hP0, hP1⟩, hv1⟩
  subst hw1
  have e_o : ∀ o, 137 ≤ o → M1 o = M o := by
    intro o ho
    by_cases hz : (aCut (vO M 4) (xs (nI (4 * kk) + 1).toNatClampNeg) (xs (nI (4 * kk) + 2).toNatClampNeg)).1 = 0
    · rw [hP1 hz, sO_ot _ _ _ (by omega)]
      unfold hRem
      rw [upA_n _ _ (by omega), upA_n _ _ (by omega), sO_ot _ _ _ (by omega)]
    · rw [hP0 hz]
  have e139 : M1 139 = M 139 := e_o 139 (by omega)
  have g11 : M1 137 11 = nI a := by rw [e_o 137 (by omega)]; exact h11
  have g2 : M1 137 2 = nI n_ := by rw [e_o 137 (by omega)]; exact c2.1
  have g0 : M1 139 0 = nI (M 139 0).toNatClampNeg := by rw [e139, e2]; exact e0
  have g17 : M1 139 17 = nI (M 139 17).toNatClampNeg := by rw [e139]; exact hc17.1
  have gm : (M 139 17).toNatClampNeg ≤ 12 := hc17.2
  have gok : Rok (M1 139) := by rw [e139]; exact h2.2.1.1
  have gI : I2 B (M1 139) := by rw [e139]; exact h2.2
  refine ⟨Or.inl rfl, ?_⟩
  refine ⟨(by rw [o_1, nI_add]; exact vp_in_nI (show 4 * kk + 1 < L by omega) (by omega)), ?_⟩
  refine ⟨(by rw [o_2, nI_add]; exact vp_in_nI (show 4 * kk + 2 < L by omega) (by omega)), ?_⟩
  refine ⟨⟨Nat.le_of_ble_eq_true rfl, (by have a0 : (mjT 180).1 = 1 := rfl; have b0 : (mjT 180).2 = 6 := rfl; have a1 : (mjT 148).1 = 0 := rfl; have b1 : (mjT 148).2 = 0 := rfl; have a2 : (mjT 98).1 = 0 := rfl; have b2 : (mjT 98).2 = 0 := rfl; omega), (by have a0 : (mjT 180).1 = 1 := rfl; have b0 : (mjT 180).2 = 6 := rfl; have a1 : (mjT 148).1 = 0 := rfl; have b1 : (mjT 148).2 = 0 := rfl; have a2 : (mjT 98).1 = 0 := rfl; have b2 : (mjT 98).2 = 0 := rfl; omega)⟩, by simp only [hM.1.1, hR.2.2.2.1.1, hL.1] <;> first | rfl | decide, _, R_cut hM ha g11, ?_⟩
  rintro rs2_ w2_ ⟨v, M2, rfl, hw2, hq0, hq1⟩
  subst hw2
  rw [e139, ← eq_cut h2] at hq0 hq1
  have hcd : (aCut (vO M 4) (xs (nI (4 * kk) + 1).toNatClampNeg) (xs (nI (4 * kk) + 2).toNatClampNeg)).1 < 3 := cdl3 (cod_cut)
  have m0 : M2 137 0 = nI (aCut (vO M 4) (xs (nI (4 * kk) + 1).toNatClampNeg) (xs (nI (4 * kk) + 2).toNatClampNeg)).1 := by
    by_cases hz : (aCut (vO M 4) (xs (nI (4 * kk) + 1).toNatClampNeg) (xs (nI (4 * kk) + 2).toNatClampNeg)).1 = 0
    · rw [(hq1 hz).2, hz]; exact nt_0
    · rw [hq0 hz]; exact setQ_s
  have mv : (aCut (vO M 4) (xs (nI (4 * kk) + 1).toNatClampNeg) (xs (nI (4 * kk) + 2).toNatClampNeg)).1 = 0 → v = (aCut (vO M 4) (xs (nI (4 * kk) + 1).toNatClampNeg) (xs (nI (4 * kk) + 2).toNatClampNeg)).2 := fun hz => (hq1 hz).1
  have hG : LG (B + 1000) M2 := by
    by_cases hz : (aCut (vO M 4) (xs (nI (4 * kk) + 1).toNatClampNeg) (xs (nI (4 * kk) + 2).toNatClampNeg)).1 = 0
    · have e1_ := hP1 hz
      have e2_ := (hq1 hz).2
      have gz : ¬ xs (nI (4 * kk) + 1).toNatClampNeg < 1 ∧ ¬ 36 < xs (nI (4 * kk) + 1).toNatClampNeg ∧ ¬ xs (nI (4 * kk) + 2).toNatClampNeg < 0 ∧ ¬ 2 < xs (nI (4 * kk) + 2).toNatClampNeg := by
        by_cases g_ : ¬ xs (nI (4 * kk) + 1).toNatClampNeg < 1 ∧ ¬ 36 < xs (nI (4 * kk) + 1).toNatClampNeg ∧ ¬ xs (nI (4 * kk) + 2).toNatClampNeg < 0 ∧ ¬ 2 < xs (nI (4 * kk) + 2).toNatClampNeg
        · exact g_
        · unfold aCut at hz; rw [if_neg g_] at hz; exact absurd hz (by decide)
      obtain ⟨q, hq1_, hq_, hx⟩ := in_nat1 (k := 36) rfl (by omega) ⟨gz.1, gz.2.1⟩
      obtain ⟨w, hw_, hyw⟩ := in_nat (k := 2) rfl (by omega) gz.2.2
      have hy_ : xs (nI (4 * kk) + 2).toNatClampNeg = 0 ∨ xs (nI (4 * kk) + 2).toNatClampNeg = 1 ∨ xs (nI (4 * kk) + 2).toNatClampNeg = 2 := by rw [hyw]; exact n012 hw_
      have hs := sr_cut h2 hq1_ hq_ hy_
      rw [← hx] at hs
      rw [e2_, e1_]
      exact LG_note (B' := B + 1000) (by omega) ⟨n_, τ, c1, c2⟩ h2 ha hy a6 h4 hs
    · rw [hq0 hz, hP0 hz]; exact (LG_jk h (Jk_Q M (by omega))).mono (by omega)
  refine ⟨Or.inl rfl, ?_⟩
  refine ⟨⟨Nat.le_of_ble_eq_true rfl, (by have a0 : (mjT 180).1 = 1 := rfl; have b0 : (mjT 180).2 = 6 := rfl; have a1 : (mjT 148).1 = 0 := rfl; have b1 : (mjT 148).2 = 0 := rfl; have a2 : (mjT 98).1 = 0 := rfl; have b2 : (mjT 98).2 = 0 := rfl; omega), (by have a0 : (mjT 180).1 = 1 := rfl; have b0 : (mjT 180).2 = 6 := rfl; have a1 : (mjT 148).1 = 0 := rfl; have b1 : (mjT 148).2 = 0 := rfl; have a2 : (mjT 98).1 = 0 := rfl; have b2 : (mjT 98).2 = 0 := rfl; omega)⟩, by simp only [hM.1.1, hR.2.2.2.1.1, hL.1] <;> first | rfl | decide, _, T_thrown hM, ?_⟩
  rintro rs3_ w3_ ⟨rfl, rfl⟩
  refine ⟨Or.inl rfl, ?_⟩
  refine ⟨fun h1 => ?_, fun h1 => ?_⟩
  · refine ⟨fun h2 => ?_, fun h2 => ?_⟩
    · refine ee_at (nt := nzT 195) [(0, .ref 1000001), (1, .ref 1), (2, .ref 137), (3, .ref 144), (4, .int (nI (4 * (kk + 1))))] (S, M2, J1) rfl (by rw [show nI (4 * (kk + 1)) = nI (4 * kk) + 4 from by rw [o_4, nI_add]; rfl]; rfl) rfl (hN M2 J1 _ _ hG (by have a0 : (mjT 180).1 = 1 := rfl; have b0 : (mjT 180).2 = 6 := rfl; have a1 : (mjT 148).1 = 0 := rfl; have b1 : (mjT 148).2 = 0 := rfl; have a2 : (mjT 98).1 = 0 := rfl; have b2 : (mjT 98).2 = 0 := rfl; omega) (by have a0 : (mjT 180).1 = 1 := rfl; have b0 : (mjT 180).2 = 6 := rfl; have a1 : (mjT 148).1 = 0 := rfl; have b1 : (mjT 148).2 = 0 := rfl; have a2 : (mjT 98).1 = 0 := rfl; have b2 : (mjT 98).2 = 0 := rfl; omega))
    · refine ⟨by simp only [hM.1.1, hR.2.2.2.1.1, hL.1] <;> first | rfl | decide, (by simp only [hL.2]; exact vp_in_nI (show 0 < 1 by omega) (by omega)), ?_⟩
      refine ⟨fun h3 => ?_, fun h3 => ?_⟩
      · refine ee_at (nt := nzT 195) [(0, .ref 1000001), (1, .ref 1), (2, .ref 137), (3, .ref 144), (4, .int (nI (4 * (kk + 1))))] (S, M2, J1) rfl (by rw [show nI (4 * (kk + 1)) = nI (4 * kk) + 4 from by rw [o_4, nI_add]; rfl]; rfl) rfl (hN M2 J1 _ _ hG (by have a0 : (mjT 180).1 = 1 := rfl; have b0 : (mjT 180).2 = 6 := rfl; have a1 : (mjT 148).1 = 0 := rfl; have b1 : (mjT 148).2 = 0 := rfl; have a2 : (mjT 98).1 = 0 := rfl; have b2 : (mjT 98).2 = 0 := rfl; omega) (by have a0 : (mjT 180).1 = 1 := rfl; have b0 : (mjT 180).2 = 6 := rfl; have a1 : (mjT 148).1 = 0 := rfl; have b1 : (mjT 148).2 = 0 := rfl; have a2 : (mjT 98).1 = 0 := rfl; have b2 : (mjT 98).2 = 0 := rfl; omega))
      · (have hz : (aCut (vO M 4) (xs (nI (4 * kk) + 1).toNatClampNeg) (xs (nI (4 * kk) + 2).toNatClampNeg)).1 = 0 := (n0 (by omega)).mp h2; have h_ := h3; exact absurd (cmp0.mpr (show J1 144 0 = v.toInt64 by rw [hv1 hz, mv hz])) h_)
  · (have h_ := h1; exact absurd m0 h_)
set_option maxRecDepth 100000 in
set_option maxHeartbeats 4000000 in
theorem K_13 {S : Sc} {M : Nat → Nat → Int32} {J : Nat → Nat → Int64} {xs : Nat → Int32} {L kk B nc ns : Nat} (hA : AllS S) (h : LG B M) (hB : B < 800000) (hk : 4 * kk + 3 < L) (hL2 : L ≤ 2048) (hnc : nc ≤ 600000) (hns : ns ≤ 7000000) (hN : ∀ M' J' nc' ns', LG (B + 1000) M' → nc' ≤ nc + 1 → ns' ≤ ns + 6 → EE (SL xs L) (23, [(0, .ref 1000001), (1, .ref 1), (2, .ref 137), (3, .ref 144), (4, .int (nI (4 * (kk + 1))))], [], (S, M', J'), nc', ns')) : EE (SL xs L) (842, [(0, .ref 1000001), (1, .ref 1), (2, .ref 137), (3, .ref 144), (4, .int (nI (4 * kk)))], [], (S, M, J), nc, ns) := by
  obtain ⟨hR, hM, hL⟩ := hA
  obtain ⟨⟨n_, τ, c1, c2⟩, h2, ⟨a, y, ha, hy, h180, h181, h11, a6⟩, h4⟩ := id h
  have hI : I2 B (vO M 4) := h2.1.I2 h2.2
  obtain ⟨n, hn3, hn, e0, e1, e2, e3⟩ := h2.n
  have hc17 := h2.2.cnt
  have hBB : B < 1000000 := by omega
  refine EE.runN (stop := atPc [23]) 90 _ ?_
  refine ⟨⟨Nat.le_of_ble_eq_true rfl, (by have a0 : (mjT 181).1 = 1 := rfl; have b0 : (mjT 181).2 = 6 := rfl; have a1 : (mjT 149).1 = 0 := rfl; have b1 : (mjT 149).2 = 0 := rfl; have a2 : (mjT 98).1 = 0 := rfl; have b2 : (mjT 98).2 = 0 := rfl; omega), (by have a0 : (mjT 181).1 = 1 := rfl; have b0 : (mjT 181).2 = 6 := rfl; have a1 : (mjT 149).1 = 0 := rfl; have b1 : (mjT 149).2 = 0 := rfl; have a2 : (mjT 98).1 = 0 := rfl; have b2 : (mjT 98).2 = 0 := rfl; omega)⟩, _, H_start hR hI hBB ha hy h180 h181 hL, ?_⟩
  rintro rs1_ w1_ ⟨M1, J1, rfl, hw1, ⟨hP0, hP1⟩, hv1⟩
  subst hw1
  have e_o : ∀ o, 137 ≤ o → M1 o = M o := by
    intro o ho
    by_cases hz : (aStart (vO M 4)).1 = 0
    · rw [hP1 hz, sO_ot _ _ _ (by omega)]
      unfold hRem
      rw [upA_n _ _ (by omega), upA_n _ _ (by omega), sO_ot _ _ _ (by omega)]
    · rw [hP0 hz]
  have e139 : M1 139 = M 139 := e_o 139 (by omega)
  have g11 : M1 137 11 = nI a := by rw [e_o 137 (by omega)]; exact h11
  have g2 : M1 137 2 = nI n_ := by rw [e_o 137 (by omega)]; exact c2.1
  have g0 : M1 139 0 = nI (M 139 0).toNatClampNeg := by rw [e139, e2]; exact e0
  have g17 : M1 139 17 = nI (M 139 17).toNatClampNeg := by rw [e139]; exact hc17.1
  have gm : (M 139 17).toNatClampNeg ≤ 12 := hc17.2
  have gok : Rok (M1 139) := by rw [e139]; exact h2.2.1.1
  have gI : I2 B (M1 139) := by rw [e139]; exact h2.2
  refine ⟨Or.inl rfl, ?_⟩
  refine ⟨⟨Nat.le_of_ble_eq_true rfl, (by have a0 : (mjT 181).1 = 1 := rfl; have b0 : (mjT 181).2 = 6 := rfl; have a1 : (mjT 149).1 = 0 := rfl; have b1 : (mjT 149).2 = 0 := rfl; have a2 : (mjT 98).1 = 0 := rfl; have b2 : (mjT 98).2 = 0 := rfl; omega), (by have a0 : (mjT 181).1 = 1 := rfl; have b0 : (mjT 181).2 = 6 := rfl; have a1 : (mjT 149).1 = 0 := rfl; have b1 : (mjT 149).2 = 0 := rfl; have a2 : (mjT 98).1 = 0 := rfl; have b2 : (mjT 98).2 = 0 := rfl; omega)⟩, by simp only [hM.1.1, hR.2.2.2.1.1, hL.1] <;> first | rfl | decide, _, R_start hM ha g11 gok, ?_⟩
  rintro rs2_ w2_ ⟨v, M2, rfl, hw2, hq0, hq1⟩
  subst hw2
  rw [e139, ← eq_start h2] at hq0 hq1
  have hcd : (aStart (vO M 4)).1 < 3 := cdl2 (cod_start)
  have m0 : M2 137 0 = nI (aStart (vO M 4)).1 := by
    by_cases hz : (aStart (vO M 4)).1 = 0
    · rw [(hq1 hz).2, hz]; exact nt_0
    · rw [hq0 hz]; exact setQ_s
  have mv : (aStart (vO M 4)).1 = 0 → v = (aStart (vO M 4)).2 := fun hz => (hq1 hz).1
  have hG : LG (B + 1000) M2 := by
    by_cases hz : (aStart (vO M 4)).1 = 0
    · have e1_ := hP1 hz
      have e2_ := (hq1 hz).2
      rw [e2_, e1_]
      exact LG_note (B' := B + 1000) (by omega) ⟨n_, τ, c1, c2⟩ h2 ha hy a6 h4 (sr_start h2)
    · rw [hq0 hz, hP0 hz]; exact (LG_jk h (Jk_Q M (by omega))).mono (by omega)
  refine ⟨Or.inl rfl, ?_⟩
  refine ⟨⟨Nat.le_of_ble_eq_true rfl, (by have a0 : (mjT 181).1 = 1 := rfl; have b0 : (mjT 181).2 = 6 := rfl; have a1 : (mjT 149).1 = 0 := rfl; have b1 : (mjT 149).2 = 0 := rfl; have a2 : (mjT 98).1 = 0 := rfl; have b2 : (mjT 98).2 = 0 := rfl; omega), (by have a0 : (mjT 181).1 = 1 := rfl; have b0 : (mjT 181).2 = 6 := rfl; have a1 : (mjT 149).1 = 0 := rfl; have b1 : (mjT 149).2 = 0 := rfl; have a2 : (mjT 98).1 = 0 := rfl; have b2 : (mjT 98).2 = 0 := rfl; omega)⟩, by simp only [hM.1.1, hR.2.2.2.1.1, hL.1] <;> first | rfl | decide, _, T_thrown hM, ?_⟩
  rintro rs3_ w3_ ⟨rfl, rfl⟩
  refine ⟨Or.inl rfl, ?_⟩
  refine ⟨fun h1 => ?_, fun h1 => ?_⟩
  · refine ⟨fun h2 => ?_, fun h2 => ?_⟩
    · refine ee_at (nt := nzT 195) [(0, .ref 1000001), (1, .ref 1), (2, .ref 137), (3, .ref 144), (4, .int (nI (4 * (kk + 1))))] (S, M2, J1) rfl (by rw [show nI (4 * (kk + 1)) = nI (4 * kk) + 4 from by rw [o_4, nI_add]; rfl]; rfl) rfl (hN M2 J1 _ _ hG (by have a0 : (mjT 181).1 = 1 := rfl; have b0 : (mjT 181).2 = 6 := rfl; have a1 : (mjT 149).1 = 0 := rfl; have b1 : (mjT 149).2 = 0 := rfl; have a2 : (mjT 98).1 = 0 := rfl; have b2 : (mjT 98).2 = 0 := rfl; omega) (by have a0 : (mjT 181).1 = 1 := rfl; have b0 : (mjT 181).2 = 6 := rfl; have a1 : (mjT 149).1 = 0 := rfl; have b1 : (mjT 149).2 = 0 := rfl; have a2 : (mjT 98).1 = 0 := rfl; have b2 : (mjT 98).2 = 0 := rfl; omega))
    · refine ⟨by simp only [hM.1.1, hR.2.2.2.1.1, hL.1] <;> first | rfl | decide, (by simp only [hL.2]; exact vp_in_nI (show 0 < 1 by omega) (by omega)), ?_⟩
      refine ⟨fun h3 => ?_, fun h3 => ?_⟩
      · refine ee_at (nt := nzT 195) [(0, .ref 1000001), (1, .ref 1), (2, .ref 137), (3, .ref 144), (4, .int (nI (4 * (kk + 1))))] (S, M2, J1) rfl (by rw [show nI (4 * (kk + 1)) = nI (4 * kk) + 4 from by rw [o_4, nI_add]; rfl]; rfl) rfl (hN M2 J1 _ _ hG (by have a0 : (mjT 181).1 = 1 := rfl; have b0 : (mjT 181).2 = 6 := rfl; have a1 : (mjT 149).1 = 0 := rfl; have b1 : (mjT 149).2 = 0 := rfl; have a2 : (mjT 98).1 = 0 := rfl; have b2 : (mjT 98).2 = 0 := rfl; omega) (by have a0 : (mjT 181).1 = 1 := rfl; have b0 : (mjT 181).2 = 6 := rfl; have a1 : (mjT 149).1 = 0 := rfl; have b1 : (mjT 149).2 = 0 := rfl; have a2 : (mjT 98).1 = 0 := rfl; have b2 : (mjT 98).2 = 0 := rfl; omega))
      · (have hz : (aStart (vO M 4)).1 = 0 := (n0 (by omega)).mp h2; have h_ := h3; exact absurd (cmp0.mpr (show J1 144 0 = v.toInt64 by rw [hv1 hz, mv hz])) h_)
  · (have h_ := h1; exact absurd m0 h_)
set_option maxRecDepth 100000 in
set_option maxHeartbeats 4000000 in
theorem K_14 {S : Sc} {M : Nat → Nat → Int32} {J : Nat → Nat → Int64} {xs : Nat → Int32} {L kk B nc ns : Nat} (hA : AllS S) (h : LG B M) (hB : B < 800000) (hk : 4 * kk + 3 < L) (hL2 : L ≤ 2048) (hnc : nc ≤ 600000) (hns : ns ≤ 7000000) (hN : ∀ M' J' nc' ns', LG (B + 1000) M' → nc' ≤ nc + 1 → ns' ≤ ns + 6 → EE (SL xs L) (23, [(0, .ref 1000001), (1, .ref 1), (2, .ref 137), (3, .ref 144), (4, .int (nI (4 * (kk + 1))))], [], (S, M', J'), nc', ns')) : EE (SL xs L) (886, [(0, .ref 1000001), (1, .ref 1), (2, .ref 137), (3, .ref 144), (4, .int (nI (4 * kk)))], [], (S, M, J), nc, ns) := by
  obtain ⟨hR, hM, hL⟩ := hA
  obtain ⟨⟨n_, τ, c1, c2⟩, h2, ⟨a, y, ha, hy, h180, h181, h11, a6⟩, h4⟩ := id h
  have hI : I2 B (vO M 4) := h2.1.I2 h2.2
  obtain ⟨n, hn3, hn, e0, e1, e2, e3⟩ := h2.n
  have hc17 := h2.2.cnt
  have hBB : B < 1000000 := by omega
  refine EE.runN (stop := atPc [23]) 90 _ ?_
  refine ⟨(by rw [o_1, nI_add]; exact vp_in_nI (show 4 * kk + 1 < L by omega) (by omega)), ?_⟩
  refine ⟨(by rw [o_2, nI_add]; exact vp_in_nI (show 4 * kk + 2 < L by omega) (by omega)), ?_⟩
  refine ⟨⟨Nat.le_of_ble_eq_true rfl, (by have a0 : (mjT 182).1 = 1 := rfl; have b0 : (mjT 182).2 = 6 := rfl; have a1 : (mjT 151).1 = 0 := rfl; have b1 : (mjT 151).2 = 0 := rfl; have a2 : (mjT 98).1 = 0 := rfl; have b2 : (mjT 98).2 = 0 := rfl; omega), (by have a0 : (mjT 182).1 = 1 := rfl; have b0 : (mjT 182).2 = 6 := rfl; have a1 : (mjT 151).1 = 0 := rfl; have b1 : (mjT 151).2 = 0 := rfl; have a2 : (mjT 98).1 = 0 := rfl; have b2 : (mjT 98).2 = 0 := rfl; omega)⟩, _, H_service hR hI hBB ha hy h180 h181 hL, ?_⟩
  rintro rs1_ w1_ ⟨M1, J1, rfl, hw1, ⟨hP0, hP1⟩, hv1⟩
  subst hw1
  have e_o : ∀ o, 137 ≤ o → M1 o = M o := by
    intro o ho
    by_cases hz : (aService (vO M 4) (vO M 4 17).toNatClampNeg (xs (nI (4 * kk) + 1).toNatClampNeg) (xs (nI (4 * kk) + 2).toNatClampNeg)).1 = 0
    · rw [hP1 hz, sO_ot _ _ _ (by omega)]
      unfold hRem
      rw [upA_n _ _ (by omega), upA_n _ _ (by omega), sO_ot _ _ _ (by omega)]
    · rw [hP0 hz]
  have e139 : M1 139 = M 139 := e_o 139 (by omega)
  have g11 : M1 137 11 = nI a := by rw [e_o 137 (by omega)]; exact h11
  have g2 : M1 137 2 = nI n_ := by rw [e_o 137 (by omega)]; exact c2.1
  have g0 : M1 139 0 = nI (M 139 0).toNatClampNeg := by rw [e139, e2]; exact e0
  have g17 : M1 139 17 = nI (M 139 17).toNatClampNeg := by rw [e139]; exact hc17.1
  have gm : (M 139 17).toNatClampNeg ≤ 12 := hc17.2
  have gok : Rok (M1 139) := by rw [e139]; exact h2.2.1.1
  have gI : I2 B (M1 139) := by rw [e139]; exact h2.2
  refine ⟨Or.inl rfl, ?_⟩
  refine ⟨(by rw [o_1, nI_add]; exact vp_in_nI (show 4 * kk + 1 < L by omega) (by omega)), ?_⟩
  refine ⟨(by rw [o_2, nI_add]; exact vp_in_nI (show 4 * kk + 2 < L by omega) (by omega)), ?_⟩
  refine ⟨⟨Nat.le_of_ble_eq_true rfl, (by have a0 : (mjT 182).1 = 1 := rfl; have b0 : (mjT 182).2 = 6 := rfl; have a1 : (mjT 151).1 = 0 := rfl; have b1 : (mjT 151).2 = 0 := rfl; have a2 : (mjT 98).1 = 0 := rfl; have b2 : (mjT 98).2 = 0 := rfl; omega), (by have a0 : (mjT 182).1 = 1 := rfl; have b0 : (mjT 182).2 = 6 := rfl; have a1 : (mjT 151).1 = 0 := rfl; have b1 : (mjT 151).2 = 0 := rfl; have a2 : (mjT 98).1 = 0 := rfl; have b2 : (mjT 98).2 = 0 := rfl; omega)⟩, by simp only [hM.1.1, hR.2.2.2.1.1, hL.1] <;> first | rfl | decide, _, R_service hM ha g11 g17 gm, ?_⟩
  rintro rs2_ w2_ ⟨v, M2, rfl, hw2, hq0, hq1⟩
  subst hw2
  rw [e139, ← eq_service h2] at hq0 hq1
  have hcd : (aService (vO M 4) (vO M 4 17).toNatClampNeg (xs (nI (4 * kk) + 1).toNatClampNeg) (xs (nI (4 * kk) + 2).toNatClampNeg)).1 < 3 := cdl3 (cod_service)
  have m0 : M2 137 0 = nI (aService (vO M 4) (vO M 4 17).toNatClampNeg (xs (nI (4 * kk) + 1).toNatClampNeg) (xs (nI (4 * kk) + 2).toNatClampNeg)).1 := by
    by_cases hz : (aService (vO M 4) (vO M 4 17).toNatClampNeg (xs (nI (4 * kk) + 1).toNatClampNeg) (xs (nI (4 * kk) + 2).toNatClampNeg)).1 = 0
    · rw [(hq1 hz).2, hz]; exact nt_0
    · rw [hq0 hz]; exact setQ_s
  have mv : (aService (vO M 4) (vO M 4 17).toNatClampNeg (xs (nI (4 * kk) + 1).toNatClampNeg) (xs (nI (4 * kk) + 2).toNatClampNeg)).1 = 0 → v = (aService (vO M 4) (vO M 4 17).toNatClampNeg (xs (nI (4 * kk) + 1).toNatClampNeg) (xs (nI (4 * kk) + 2).toNatClampNeg)).2 := fun hz => (hq1 hz).1
  have hG : LG (B + 1000) M2 := by
    by_cases hz : (aService (vO M 4) (vO M 4 17).toNatClampNeg (xs (nI (4 * kk) + 1).toNatClampNeg) (xs (nI (4 * kk) + 2).toNatClampNeg)).1 = 0
    · have e1_ := hP1 hz
      have e2_ := (hq1 hz).2
      rw [eq_service h2] at hz
      have gz : ¬ xs (nI (4 * kk) + 1).toNatClampNeg < 0 ∧ ¬ 9 < xs (nI (4 * kk) + 1).toNatClampNeg ∧ ¬ xs (nI (4 * kk) + 2).toNatClampNeg < 0 ∧ ¬ 9 < xs (nI (4 * kk) + 2).toNatClampNeg := by
        by_cases g_ : ¬ xs (nI (4 * kk) + 1).toNatClampNeg < 0 ∧ ¬ 9 < xs (nI (4 * kk) + 1).toNatClampNeg ∧ ¬ xs (nI (4 * kk) + 2).toNatClampNeg < 0 ∧ ¬ 9 < xs (nI (4 * kk) + 2).toNatClampNeg
        · exact g_
        · unfold aService at hz; rw [if_neg g_] at hz; exact absurd hz (by decide)
      have gc : (M 139 3 = 1 ∧ (M 139 17 < 12 ∨ ¬ rFnd (M 139) (10 * xs (nI (4 * kk) + 1).toNatClampNeg + xs (nI (4 * kk) + 2).toNatClampNeg) (M 139 17).toNatClampNeg = -99999)) := by
        by_cases g_ : (M 139 3 = 1 ∧ (M 139 17 < 12 ∨ ¬ rFnd (M 139) (10 * xs (nI (4 * kk) + 1).toNatClampNeg + xs (nI (4 * kk) + 2).toNatClampNeg) (M 139 17).toNatClampNeg = -99999))
        · exact g_
        · unfold aService at hz; rw [if_pos gz, if_neg g_] at hz; exact absurd hz (by decide)
      rw [e2_, e1_]
      exact LG_note (B' := B + 1000) (by omega) ⟨n_, τ, c1, c2⟩ h2 ha hy a6 h4 (sr_service h2 gc.2)
    · rw [hq0 hz, hP0 hz]; exact (LG_jk h (Jk_Q M (by omega))).mono (by omega)
  refine ⟨Or.inl rfl, ?_⟩
  refine ⟨⟨Nat.le_of_ble_eq_true rfl, (by have a0 : (mjT 182).1 = 1 := rfl; have b0 : (mjT 182).2 = 6 := rfl; have a1 : (mjT 151).1 = 0 := rfl; have b1 : (mjT 151).2 = 0 := rfl; have a2 : (mjT 98).1 = 0 := rfl; have b2 : (mjT 98).2 = 0 := rfl; omega), (by have a0 : (mjT 182).1 = 1 := rfl; have b0 : (mjT 182).2 = 6 := rfl; have a1 : (mjT 151).1 = 0 := rfl; have b1 : (mjT 151).2 = 0 := rfl; have a2 : (mjT 98).1 = 0 := rfl; have b2 : (mjT 98).2 = 0 := rfl; omega)⟩, by simp only [hM.1.1, hR.2.2.2.1.1, hL.1] <;> first | rfl | decide, _, T_thrown hM, ?_⟩
  rintro rs3_ w3_ ⟨rfl, rfl⟩
  refine ⟨Or.inl rfl, ?_⟩
  refine ⟨fun h1 => ?_, fun h1 => ?_⟩
  · refine ⟨fun h2 => ?_, fun h2 => ?_⟩
    · refine ee_at (nt := nzT 195) [(0, .ref 1000001), (1, .ref 1), (2, .ref 137), (3, .ref 144), (4, .int (nI (4 * (kk + 1))))] (S, M2, J1) rfl (by rw [show nI (4 * (kk + 1)) = nI (4 * kk) + 4 from by rw [o_4, nI_add]; rfl]; rfl) rfl (hN M2 J1 _ _ hG (by have a0 : (mjT 182).1 = 1 := rfl; have b0 : (mjT 182).2 = 6 := rfl; have a1 : (mjT 151).1 = 0 := rfl; have b1 : (mjT 151).2 = 0 := rfl; have a2 : (mjT 98).1 = 0 := rfl; have b2 : (mjT 98).2 = 0 := rfl; omega) (by have a0 : (mjT 182).1 = 1 := rfl; have b0 : (mjT 182).2 = 6 := rfl; have a1 : (mjT 151).1 = 0 := rfl; have b1 : (mjT 151).2 = 0 := rfl; have a2 : (mjT 98).1 = 0 := rfl; have b2 : (mjT 98).2 = 0 := rfl; omega))
    · refine ⟨by simp only [hM.1.1, hR.2.2.2.1.1, hL.1] <;> first | rfl | decide, (by simp only [hL.2]; exact vp_in_nI (show 0 < 1 by omega) (by omega)), ?_⟩
      refine ⟨fun h3 => ?_, fun h3 => ?_⟩
      · refine ee_at (nt := nzT 195) [(0, .ref 1000001), (1, .ref 1), (2, .ref 137), (3, .ref 144), (4, .int (nI (4 * (kk + 1))))] (S, M2, J1) rfl (by rw [show nI (4 * (kk + 1)) = nI (4 * kk) + 4 from by rw [o_4, nI_add]; rfl]; rfl) rfl (hN M2 J1 _ _ hG (by have a0 : (mjT 182).1 = 1 := rfl; have b0 : (mjT 182).2 = 6 := rfl; have a1 : (mjT 151).1 = 0 := rfl; have b1 : (mjT 151).2 = 0 := rfl; have a2 : (mjT 98).1 = 0 := rfl; have b2 : (mjT 98).2 = 0 := rfl; omega) (by have a0 : (mjT 182).1 = 1 := rfl; have b0 : (mjT 182).2 = 6 := rfl; have a1 : (mjT 151).1 = 0 := rfl; have b1 : (mjT 151).2 = 0 := rfl; have a2 : (mjT 98).1 = 0 := rfl; have b2 : (mjT 98).2 = 0 := rfl; omega))
      · (have hz : (aService (vO M 4) (vO M 4 17).toNatClampNeg (xs (nI (4 * kk) + 1).toNatClampNeg) (xs (nI (4 * kk) + 2).toNatClampNeg)).1 = 0 := (n0 (by omega)).mp h2; have h_ := h3; exact absurd (cmp0.mpr (show J1 144 0 = v.toInt64 by rw [hv1 hz, mv hz])) h_)
  · (have h_ := h1; exact absurd m0 h_)
set_option maxRecDepth 100000 in
set_option maxHeartbeats 4000000 in
theorem K_15 {S : Sc} {M : Nat → Nat → Int32} {J : Nat → Nat → Int64} {xs : Nat → Int32} {L kk B nc ns : Nat} (hA : AllS S) (h : LG B M) (hB : B < 800000) (hk : 4 * kk + 3 < L) (hL2 : L ≤ 2048) (hnc : nc ≤ 600000) (hns : ns ≤ 7000000) (hN : ∀ M' J' nc' ns', LG (B + 1000) M' → nc' ≤ nc + 1 → ns' ≤ ns + 6 → EE (SL xs L) (23, [(0, .ref 1000001), (1, .ref 1), (2, .ref 137), (3, .ref 144), (4, .int (nI (4 * (kk + 1))))], [], (S, M', J'), nc', ns')) : EE (SL xs L) (954, [(0, .ref 1000001), (1, .ref 1), (2, .ref 137), (3, .ref 144), (4, .int (nI (4 * kk)))], [], (S, M, J), nc, ns) := by
  obtain ⟨hR, hM, hL⟩ := hA
  obtain ⟨⟨n_, τ, c1, c2⟩, h2, ⟨a, y, ha, hy, h180, h181, h11, a6⟩, h4⟩ := id h
  have hI : I2 B (vO M 4) := h2.1.I2 h2.2
  obtain ⟨n, hn3, hn, e0, e1, e2, e3⟩ := h2.n
  have hc17 := h2.2.cnt
  have hBB : B < 1000000 := by omega
  refine EE.runN (stop := atPc [23]) 90 _ ?_
  refine ⟨(by rw [o_1, nI_add]; exact vp_in_nI (show 4 * kk + 1 < L by omega) (by omega)), ?_⟩
  refine ⟨(by rw [o_2, nI_add]; exact vp_in_nI (show 4 * kk + 2 < L by omega) (by omega)), ?_⟩
  refine ⟨⟨Nat.le_of_ble_eq_true rfl, (by have a0 : (mjT 183).1 = 1 := rfl; have b0 : (mjT 183).2 = 6 := rfl; have a1 : (mjT 152).1 = 0 := rfl; have b1 : (mjT 152).2 = 0 := rfl; have a2 : (mjT 98).1 = 0 := rfl; have b2 : (mjT 98).2 = 0 := rfl; omega), (by have a0 : (mjT 183).1 = 1 := rfl; have b0 : (mjT 183).2 = 6 := rfl; have a1 : (mjT 152).1 = 0 := rfl; have b1 : (mjT 152).2 = 0 := rfl; have a2 : (mjT 98).1 = 0 := rfl; have b2 : (mjT 98).2 = 0 := rfl; omega)⟩, _, H_forget hR hI hBB ha hy h180 h181 hL, ?_⟩
  rintro rs1_ w1_ ⟨M1, J1, rfl, hw1, ⟨hP0, hP1⟩, hv1⟩
  subst hw1
  have e_o : ∀ o, 137 ≤ o → M1 o = M o := by
    intro o ho
    by_cases hz : (aForget (vO M 4) (vO M 4 17).toNatClampNeg (xs (nI (4 * kk) + 1).toNatClampNeg) (xs (nI (4 * kk) + 2).toNatClampNeg)).1 = 0
    · rw [hP1 hz, sO_ot _ _ _ (by omega)]
      unfold hRem
      rw [upA_n _ _ (by omega), upA_n _ _ (by omega), sO_ot _ _ _ (by omega)]
    · rw [hP0 hz]
  have e139 : M1 139 = M 139 := e_o 139 (by omega)
  have g11 : M1 137 11 = nI a := by rw [e_o 137 (by omega)]; exact h11
  have g2 : M1 137 2 = nI n_ := by rw [e_o 137 (by omega)]; exact c2.1
  have g0 : M1 139 0 = nI (M 139 0).toNatClampNeg := by rw [e139, e2]; exact e0
  have g17 : M1 139 17 = nI (M 139 17).toNatClampNeg := by rw [e139]; exact hc17.1
  have gm : (M 139 17).toNatClampNeg ≤ 12 := hc17.2
  have gok : Rok (M1 139) := by rw [e139]; exact h2.2.1.1
  have gI : I2 B (M1 139) := by rw [e139]; exact h2.2
  refine ⟨Or.inl rfl, ?_⟩
  refine ⟨(by rw [o_1, nI_add]; exact vp_in_nI (show 4 * kk + 1 < L by omega) (by omega)), ?_⟩
  refine ⟨(by rw [o_2, nI_add]; exact vp_in_nI (show 4 * kk + 2 < L by omega) (by omega)), ?_⟩
  refine ⟨⟨Nat.le_of_ble_eq_true rfl, (by have a0 : (mjT 183).1 = 1 := rfl; have b0 : (mjT 183).2 = 6 := rfl; have a1 : (mjT 152).1 = 0 := rfl; have b1 : (mjT 152).2 = 0 := rfl; have a2 : (mjT 98).1 = 0 := rfl; have b2 : (mjT 98).2 = 0 := rfl; omega), (by have a0 : (mjT 183).1 = 1 := rfl; have b0 : (mjT 183).2 = 6 := rfl; have a1 : (mjT 152).1 = 0 := rfl; have b1 : (mjT 152).2 = 0 := rfl; have a2 : (mjT 98).1 = 0 := rfl; have b2 : (mjT 98).2 = 0 := rfl; omega)⟩, by simp only [hM.1.1, hR.2.2.2.1.1, hL.1] <;> first | rfl | decide, _, R_forget hM ha g11 g17 gm, ?_⟩
  rintro rs2_ w2_ ⟨v, M2, rfl, hw2, hq0, hq1⟩
  subst hw2
  rw [e139, ← eq_forget h2] at hq0 hq1
  have hcd : (aForget (vO M 4) (vO M 4 17).toNatClampNeg (xs (nI (4 * kk) + 1).toNatClampNeg) (xs (nI (4 * kk) + 2).toNatClampNeg)).1 < 3 := cdl3 (cod_forget)
  have m0 : M2 137 0 = nI (aForget (vO M 4) (vO M 4 17).toNatClampNeg (xs (nI (4 * kk) + 1).toNatClampNeg) (xs (nI (4 * kk) + 2).toNatClampNeg)).1 := by
    by_cases hz : (aForget (vO M 4) (vO M 4 17).toNatClampNeg (xs (nI (4 * kk) + 1).toNatClampNeg) (xs (nI (4 * kk) + 2).toNatClampNeg)).1 = 0
    · rw [(hq1 hz).2, hz]; exact nt_0
    · rw [hq0 hz]; exact setQ_s
  have mv : (aForget (vO M 4) (vO M 4 17).toNatClampNeg (xs (nI (4 * kk) + 1).toNatClampNeg) (xs (nI (4 * kk) + 2).toNatClampNeg)).1 = 0 → v = (aForget (vO M 4) (vO M 4 17).toNatClampNeg (xs (nI (4 * kk) + 1).toNatClampNeg) (xs (nI (4 * kk) + 2).toNatClampNeg)).2 := fun hz => (hq1 hz).1
  have hG : LG (B + 1000) M2 := by
    by_cases hz : (aForget (vO M 4) (vO M 4 17).toNatClampNeg (xs (nI (4 * kk) + 1).toNatClampNeg) (xs (nI (4 * kk) + 2).toNatClampNeg)).1 = 0
    · have e1_ := hP1 hz
      have e2_ := (hq1 hz).2
      rw [eq_forget h2] at hz
      have gz : ¬ xs (nI (4 * kk) + 1).toNatClampNeg < 0 ∧ ¬ 9 < xs (nI (4 * kk) + 1).toNatClampNeg ∧ ¬ xs (nI (4 * kk) + 2).toNatClampNeg < 0 ∧ ¬ 9 < xs (nI (4 * kk) + 2).toNatClampNeg := by
        by_cases g_ : ¬ xs (nI (4 * kk) + 1).toNatClampNeg < 0 ∧ ¬ 9 < xs (nI (4 * kk) + 1).toNatClampNeg ∧ ¬ xs (nI (4 * kk) + 2).toNatClampNeg < 0 ∧ ¬ 9 < xs (nI (4 * kk) + 2).toNatClampNeg
        · exact g_
        · unfold aForget at hz; rw [if_neg g_] at hz; exact absurd hz (by decide)
      have gc : ¬ rFnd (M 139) (10 * xs (nI (4 * kk) + 1).toNatClampNeg + xs (nI (4 * kk) + 2).toNatClampNeg) (M 139 17).toNatClampNeg = -99999 := by
        intro g_
        unfold aForget at hz; rw [if_pos gz, if_pos g_] at hz; exact absurd hz (by decide)
      obtain ⟨i, hi, hf⟩ := (rFnd_or (M 139) (10 * xs (nI (4 * kk) + 1).toNatClampNeg + xs (nI (4 * kk) + 2).toNatClampNeg) (M 139 17).toNatClampNeg).resolve_left gc
      have hs := sr_forget h2 (i := i) hi
      rw [hf, ck (show i < 2147483648 by omega)] at e2_
      rw [eq_fnd h2, hf, ck (show i < 2147483648 by omega)] at e1_
      rw [e2_, e1_]
      exact LG_note (B' := B + 1000) (by omega) ⟨n_, τ, c1, c2⟩ h2 ha hy a6 h4 hs
    · rw [hq0 hz, hP0 hz]; exact (LG_jk h (Jk_Q M (by omega))).mono (by omega)
  refine ⟨Or.inl rfl, ?_⟩
  refine ⟨⟨Nat.le_of_ble_eq_true rfl, (by have a0 : (mjT 183).1 = 1 := rfl; have b0 : (mjT 183).2 = 6 := rfl; have a1 : (mjT 152).1 = 0 := rfl; have b1 : (mjT 152).2 = 0 := rfl; have a2 : (mjT 98).1 = 0 := rfl; have b2 : (mjT 98).2 = 0 := rfl; omega), (by have a0 : (mjT 183).1 = 1 := rfl; have b0 : (mjT 183).2 = 6 := rfl; have a1 : (mjT 152).1 = 0 := rfl; have b1 : (mjT 152).2 = 0 := rfl; have a2 : (mjT 98).1 = 0 := rfl; have b2 : (mjT 98).2 = 0 := rfl; omega)⟩, by simp only [hM.1.1, hR.2.2.2.1.1, hL.1] <;> first | rfl | decide, _, T_thrown hM, ?_⟩
  rintro rs3_ w3_ ⟨rfl, rfl⟩
  refine ⟨Or.inl rfl, ?_⟩
  refine ⟨fun h1 => ?_, fun h1 => ?_⟩
  · refine ⟨fun h2 => ?_, fun h2 => ?_⟩
    · refine ee_at (nt := nzT 195) [(0, .ref 1000001), (1, .ref 1), (2, .ref 137), (3, .ref 144), (4, .int (nI (4 * (kk + 1))))] (S, M2, J1) rfl (by rw [show nI (4 * (kk + 1)) = nI (4 * kk) + 4 from by rw [o_4, nI_add]; rfl]; rfl) rfl (hN M2 J1 _ _ hG (by have a0 : (mjT 183).1 = 1 := rfl; have b0 : (mjT 183).2 = 6 := rfl; have a1 : (mjT 152).1 = 0 := rfl; have b1 : (mjT 152).2 = 0 := rfl; have a2 : (mjT 98).1 = 0 := rfl; have b2 : (mjT 98).2 = 0 := rfl; omega) (by have a0 : (mjT 183).1 = 1 := rfl; have b0 : (mjT 183).2 = 6 := rfl; have a1 : (mjT 152).1 = 0 := rfl; have b1 : (mjT 152).2 = 0 := rfl; have a2 : (mjT 98).1 = 0 := rfl; have b2 : (mjT 98).2 = 0 := rfl; omega))
    · refine ⟨by simp only [hM.1.1, hR.2.2.2.1.1, hL.1] <;> first | rfl | decide, (by simp only [hL.2]; exact vp_in_nI (show 0 < 1 by omega) (by omega)), ?_⟩
      refine ⟨fun h3 => ?_, fun h3 => ?_⟩
      · refine ee_at (nt := nzT 195) [(0, .ref 1000001), (1, .ref 1), (2, .ref 137), (3, .ref 144), (4, .int (nI (4 * (kk + 1))))] (S, M2, J1) rfl (by rw [show nI (4 * (kk + 1)) = nI (4 * kk) + 4 from by rw [o_4, nI_add]; rfl]; rfl) rfl (hN M2 J1 _ _ hG (by have a0 : (mjT 183).1 = 1 := rfl; have b0 : (mjT 183).2 = 6 := rfl; have a1 : (mjT 152).1 = 0 := rfl; have b1 : (mjT 152).2 = 0 := rfl; have a2 : (mjT 98).1 = 0 := rfl; have b2 : (mjT 98).2 = 0 := rfl; omega) (by have a0 : (mjT 183).1 = 1 := rfl; have b0 : (mjT 183).2 = 6 := rfl; have a1 : (mjT 152).1 = 0 := rfl; have b1 : (mjT 152).2 = 0 := rfl; have a2 : (mjT 98).1 = 0 := rfl; have b2 : (mjT 98).2 = 0 := rfl; omega))
      · (have hz : (aForget (vO M 4) (vO M 4 17).toNatClampNeg (xs (nI (4 * kk) + 1).toNatClampNeg) (xs (nI (4 * kk) + 2).toNatClampNeg)).1 = 0 := (n0 (by omega)).mp h2; have h_ := h3; exact absurd (cmp0.mpr (show J1 144 0 = v.toInt64 by rw [hv1 hz, mv hz])) h_)
  · (have h_ := h1; exact absurd m0 h_)
set_option maxRecDepth 100000 in
set_option maxHeartbeats 4000000 in
theorem K_16 {S : Sc} {M : Nat → Nat → Int32} {J : Nat → Nat → Int64} {xs : Nat → Int32} {L kk B nc ns : Nat} (hA : AllS S) (h : LG B M) (hB : B < 800000) (hk : 4 * kk + 3 < L) (hL2 : L ≤ 2048) (hnc : nc ≤ 600000) (hns : ns ≤ 7000000) (hN : ∀ M' J' nc' ns', LG (B + 1000) M' → nc' ≤ nc + 1 → ns' ≤ ns + 6 → EE (SL xs L) (23, [(0, .ref 1000001), (1, .ref 1), (2, .ref 137), (3, .ref 144), (4, .int (nI (4 * (kk + 1))))], [], (S, M', J'), nc', ns')) : EE (SL xs L) (1022, [(0, .ref 1000001), (1, .ref 1), (2, .ref 137), (3, .ref 144), (4, .int (nI (4 * kk)))], [], (S, M, J), nc, ns) := by
  obtain ⟨hR, hM, hL⟩ := hA
  obtain ⟨⟨n_, τ, c1, c2⟩, h2, ⟨a, y, ha, hy, h180, h181, h11, a6⟩, h4⟩ := id h
  have hI : I2 B (vO M 4) := h2.1.I2 h2.2
  obtain ⟨n, hn3, hn, e0, e1, e2, e3⟩ := h2.n
  have hc17 := h2.2.cnt
  have hBB : B < 1000000 := by omega
  refine EE.runN (stop := atPc [23]) 90 _ ?_
  refine ⟨(by rw [o_1, nI_add]; exact vp_in_nI (show 4 * kk + 1 < L by omega) (by omega)), ?_⟩
  refine ⟨⟨Nat.le_of_ble_eq_true rfl, (by have a0 : (mjT 184).1 = 1 := rfl; have b0 : (mjT 184).2 = 6 := rfl; have a1 : (mjT 154).1 = 0 := rfl; have b1 : (mjT 154).2 = 0 := rfl; have a2 : (mjT 98).1 = 0 := rfl; have b2 : (mjT 98).2 = 0 := rfl; omega), (by have a0 : (mjT 184).1 = 1 := rfl; have b0 : (mjT 184).2 = 6 := rfl; have a1 : (mjT 154).1 = 0 := rfl; have b1 : (mjT 154).2 = 0 := rfl; have a2 : (mjT 98).1 = 0 := rfl; have b2 : (mjT 98).2 = 0 := rfl; omega)⟩, _, H_setStep hR hI hBB ha hy h180 h181 hL, ?_⟩
  rintro rs1_ w1_ ⟨M1, J1, rfl, hw1, ⟨hP0, hP1⟩, hv1⟩
  subst hw1
  have e_o : ∀ o, 137 ≤ o → M1 o = M o := by
    intro o ho
    by_cases hz : (aStep (vO M 4) (xs (nI (4 * kk) + 1).toNatClampNeg)).1 = 0
    · rw [hP1 hz, sO_ot _ _ _ (by omega)]
      unfold hRem
      rw [upA_n _ _ (by omega), upA_n _ _ (by omega), sO_ot _ _ _ (by omega)]
    · rw [hP0 hz]
  have e139 : M1 139 = M 139 := e_o 139 (by omega)
  have g11 : M1 137 11 = nI a := by rw [e_o 137 (by omega)]; exact h11
  have g2 : M1 137 2 = nI n_ := by rw [e_o 137 (by omega)]; exact c2.1
  have g0 : M1 139 0 = nI (M 139 0).toNatClampNeg := by rw [e139, e2]; exact e0
  have g17 : M1 139 17 = nI (M 139 17).toNatClampNeg := by rw [e139]; exact hc17.1
  have gm : (M 139 17).toNatClampNeg ≤ 12 := hc17.2
  have gok : Rok (M1 139) := by rw [e139]; exact h2.2.1.1
  have gI : I2 B (M1 139) := by rw [e139]; exact h2.2
  refine ⟨Or.inl rfl, ?_⟩
  refine ⟨(by rw [o_1, nI_add]; exact vp_in_nI (show 4 * kk + 1 < L by omega) (by omega)), ?_⟩
  refine ⟨⟨Nat.le_of_ble_eq_true rfl, (by have a0 : (mjT 184).1 = 1 := rfl; have b0 : (mjT 184).2 = 6 := rfl; have a1 : (mjT 154).1 = 0 := rfl; have b1 : (mjT 154).2 = 0 := rfl; have a2 : (mjT 98).1 = 0 := rfl; have b2 : (mjT 98).2 = 0 := rfl; omega), (by have a0 : (mjT 184).1 = 1 := rfl; have b0 : (mjT 184).2 = 6 := rfl; have a1 : (mjT 154).1 = 0 := rfl; have b1 : (mjT 154).2 = 0 := rfl; have a2 : (mjT 98).1 = 0 := rfl; have b2 : (mjT 98).2 = 0 := rfl; omega)⟩, by simp only [hM.1.1, hR.2.2.2.1.1, hL.1] <;> first | rfl | decide, _, R_setStep hM ha g11, ?_⟩
  rintro rs2_ w2_ ⟨v, M2, rfl, hw2, hq0, hq1⟩
  subst hw2
  rw [e139, ← eq_step h2] at hq0 hq1
  have hcd : (aStep (vO M 4) (xs (nI (4 * kk) + 1).toNatClampNeg)).1 < 3 := cdl2 (cod_setStep)
  have m0 : M2 137 0 = nI (aStep (vO M 4) (xs (nI (4 * kk) + 1).toNatClampNeg)).1 := by
    by_cases hz : (aStep (vO M 4) (xs (nI (4 * kk) + 1).toNatClampNeg)).1 = 0
    · rw [(hq1 hz).2, hz]; exact nt_0
    · rw [hq0 hz]; exact setQ_s
  have mv : (aStep (vO M 4) (xs (nI (4 * kk) + 1).toNatClampNeg)).1 = 0 → v = (aStep (vO M 4) (xs (nI (4 * kk) + 1).toNatClampNeg)).2 := fun hz => (hq1 hz).1
  have hG : LG (B + 1000) M2 := by
    by_cases hz : (aStep (vO M 4) (xs (nI (4 * kk) + 1).toNatClampNeg)).1 = 0
    · have e1_ := hP1 hz
      have e2_ := (hq1 hz).2
      have gz : ¬ xs (nI (4 * kk) + 1).toNatClampNeg < 1 ∧ ¬ 99 < xs (nI (4 * kk) + 1).toNatClampNeg := by
        by_cases g_ : ¬ xs (nI (4 * kk) + 1).toNatClampNeg < 1 ∧ ¬ 99 < xs (nI (4 * kk) + 1).toNatClampNeg
        · exact g_
        · unfold aStep at hz; rw [if_neg g_] at hz; exact absurd hz (by decide)
      obtain ⟨q, hq1_, hq_, hx⟩ := in_nat1 (k := 99) rfl (by omega) gz
      have hs := sr_step h2 hq1_ hq_
      rw [← hx] at hs
      rw [e2_, e1_]
      exact LG_note (B' := B + 1000) (by omega) ⟨n_, τ, c1, c2⟩ h2 ha hy a6 h4 hs
    · rw [hq0 hz, hP0 hz]; exact (LG_jk h (Jk_Q M (by omega))).mono (by omega)
  refine ⟨Or.inl rfl, ?_⟩
  refine ⟨⟨Nat.le_of_ble_eq_true rfl, (by have a0 : (mjT 184).1 = 1 := rfl; have b0 : (mjT 184).2 = 6 := rfl; have a1 : (mjT 154).1 = 0 := rfl; have b1 : (mjT 154).2 = 0 := rfl; have a2 : (mjT 98).1 = 0 := rfl; have b2 : (mjT 98).2 = 0 := rfl; omega), (by have a0 : (mjT 184).1 = 1 := rfl; have b0 : (mjT 184).2 = 6 := rfl; have a1 : (mjT 154).1 = 0 := rfl; have b1 : (mjT 154).2 = 0 := rfl; have a2 : (mjT 98).1 = 0 := rfl; have b2 : (mjT 98).2 = 0 := rfl; omega)⟩, by simp only [hM.1.1, hR.2.2.2.1.1, hL.1] <;> first | rfl | decide, _, T_thrown hM, ?_⟩
  rintro rs3_ w3_ ⟨rfl, rfl⟩
  refine ⟨Or.inl rfl, ?_⟩
  refine ⟨fun h1 => ?_, fun h1 => ?_⟩
  · refine ⟨fun h2 => ?_, fun h2 => ?_⟩
    · refine ee_at (nt := nzT 195) [(0, .ref 1000001), (1, .ref 1), (2, .ref 137), (3, .ref 144), (4, .int (nI (4 * (kk + 1))))] (S, M2, J1) rfl (by rw [show nI (4 * (kk + 1)) = nI (4 * kk) + 4 from by rw [o_4, nI_add]; rfl]; rfl) rfl (hN M2 J1 _ _ hG (by have a0 : (mjT 184).1 = 1 := rfl; have b0 : (mjT 184).2 = 6 := rfl; have a1 : (mjT 154).1 = 0 := rfl; have b1 : (mjT 154).2 = 0 := rfl; have a2 : (mjT 98).1 = 0 := rfl; have b2 : (mjT 98).2 = 0 := rfl; omega) (by have a0 : (mjT 184).1 = 1 := rfl; have b0 : (mjT 184).2 = 6 := rfl; have a1 : (mjT 154).1 = 0 := rfl; have b1 : (mjT 154).2 = 0 := rfl; have a2 : (mjT 98).1 = 0 := rfl; have b2 : (mjT 98).2 = 0 := rfl; omega))
    · refine ⟨by simp only [hM.1.1, hR.2.2.2.1.1, hL.1] <;> first | rfl | decide, (by simp only [hL.2]; exact vp_in_nI (show 0 < 1 by omega) (by omega)), ?_⟩
      refine ⟨fun h3 => ?_, fun h3 => ?_⟩
      · refine ee_at (nt := nzT 195) [(0, .ref 1000001), (1, .ref 1), (2, .ref 137), (3, .ref 144), (4, .int (nI (4 * (kk + 1))))] (S, M2, J1) rfl (by rw [show nI (4 * (kk + 1)) = nI (4 * kk) + 4 from by rw [o_4, nI_add]; rfl]; rfl) rfl (hN M2 J1 _ _ hG (by have a0 : (mjT 184).1 = 1 := rfl; have b0 : (mjT 184).2 = 6 := rfl; have a1 : (mjT 154).1 = 0 := rfl; have b1 : (mjT 154).2 = 0 := rfl; have a2 : (mjT 98).1 = 0 := rfl; have b2 : (mjT 98).2 = 0 := rfl; omega) (by have a0 : (mjT 184).1 = 1 := rfl; have b0 : (mjT 184).2 = 6 := rfl; have a1 : (mjT 154).1 = 0 := rfl; have b1 : (mjT 154).2 = 0 := rfl; have a2 : (mjT 98).1 = 0 := rfl; have b2 : (mjT 98).2 = 0 := rfl; omega))
      · (have hz : (aStep (vO M 4) (xs (nI (4 * kk) + 1).toNatClampNeg)).1 = 0 := (n0 (by omega)).mp h2; have h_ := h3; exact absurd (cmp0.mpr (show J1 144 0 = v.toInt64 by rw [hv1 hz, mv hz])) h_)
  · (have h_ := h1; exact absurd m0 h_)
set_option maxRecDepth 100000 in
set_option maxHeartbeats 4000000 in
theorem K_17 {S : Sc} {M : Nat → Nat → Int32} {J : Nat → Nat → Int64} {xs : Nat → Int32} {L kk B nc ns : Nat} (hA : AllS S) (h : LG B M) (hB : B < 800000) (hk : 4 * kk + 3 < L) (hL2 : L ≤ 2048) (hnc : nc ≤ 600000) (hns : ns ≤ 7000000) (hN : ∀ M' J' nc' ns', LG (B + 1000) M' → nc' ≤ nc + 1 → ns' ≤ ns + 6 → EE (SL xs L) (23, [(0, .ref 1000001), (1, .ref 1), (2, .ref 137), (3, .ref 144), (4, .int (nI (4 * (kk + 1))))], [], (S, M', J'), nc', ns')) : EE (SL xs L) (1078, [(0, .ref 1000001), (1, .ref 1), (2, .ref 137), (3, .ref 144), (4, .int (nI (4 * kk)))], [], (S, M, J), nc, ns) := by
  obtain ⟨hR, hM, hL⟩ := hA
  obtain ⟨⟨n_, τ, c1, c2⟩, h2, ⟨a, y, ha, hy, h180, h181, h11, a6⟩, h4⟩ := id h
  have hI : I2 B (vO M 4) := h2.1.I2 h2.2
  obtain ⟨n, hn3, hn, e0, e1, e2, e3⟩ := h2.n
  have hc17 := h2.2.cnt
  have hBB : B < 1000000 := by omega
  refine EE.runN (stop := atPc [23]) 90 _ ?_
  refine ⟨(by rw [o_1, nI_add]; exact vp_in_nI (show 4 * kk + 1 < L by omega) (by omega)), ?_⟩
  refine ⟨⟨Nat.le_of_ble_eq_true rfl, (by have a0 : (mjT 185).1 = 1 := rfl; have b0 : (mjT 185).2 = 6 := rfl; have a1 : (mjT 155).1 = 0 := rfl; have b1 : (mjT 155).2 = 0 := rfl; have a2 : (mjT 98).1 = 0 := rfl; have b2 : (mjT 98).2 = 0 := rfl; omega), (by have a0 : (mjT 185).1 = 1 := rfl; have b0 : (mjT 185).2 = 6 := rfl; have a1 : (mjT 155).1 = 0 := rfl; have b1 : (mjT 155).2 = 0 := rfl; have a2 : (mjT 98).1 = 0 := rfl; have b2 : (mjT 98).2 = 0 := rfl; omega)⟩, _, H_replace hR hI hBB ha hy h180 h181 hL, ?_⟩
  rintro rs1_ w1_ ⟨M1, J1, rfl, hw1, ⟨hP0, hP1⟩, hv1⟩
  subst hw1
  have e_o : ∀ o, 137 ≤ o → M1 o = M o := by
    intro o ho
    by_cases hz : (aRepl (vO M 4) (vO M 4 0).toNatClampNeg (xs (nI (4 * kk) + 1).toNatClampNeg)).1 = 0
    · rw [hP1 hz, sO_ot _ _ _ (by omega)]
      unfold hRem
      rw [upA_n _ _ (by omega), upA_n _ _ (by omega), sO_ot _ _ _ (by omega)]
    · rw [hP0 hz]
  have e139 : M1 139 = M 139 := e_o 139 (by omega)
  have g11 : M1 137 11 = nI a := by rw [e_o 137 (by omega)]; exact h11
  have g2 : M1 137 2 = nI n_ := by rw [e_o 137 (by omega)]; exact c2.1
  have g0 : M1 139 0 = nI (M 139 0).toNatClampNeg := by rw [e139, e2]; exact e0
  have g17 : M1 139 17 = nI (M 139 17).toNatClampNeg := by rw [e139]; exact hc17.1
  have gm : (M 139 17).toNatClampNeg ≤ 12 := hc17.2
  have gok : Rok (M1 139) := by rw [e139]; exact h2.2.1.1
  have gI : I2 B (M1 139) := by rw [e139]; exact h2.2
  refine ⟨Or.inl rfl, ?_⟩
  refine ⟨(by rw [o_1, nI_add]; exact vp_in_nI (show 4 * kk + 1 < L by omega) (by omega)), ?_⟩
  refine ⟨⟨Nat.le_of_ble_eq_true rfl, (by have a0 : (mjT 185).1 = 1 := rfl; have b0 : (mjT 185).2 = 6 := rfl; have a1 : (mjT 155).1 = 0 := rfl; have b1 : (mjT 155).2 = 0 := rfl; have a2 : (mjT 98).1 = 0 := rfl; have b2 : (mjT 98).2 = 0 := rfl; omega), (by have a0 : (mjT 185).1 = 1 := rfl; have b0 : (mjT 185).2 = 6 := rfl; have a1 : (mjT 155).1 = 0 := rfl; have b1 : (mjT 155).2 = 0 := rfl; have a2 : (mjT 98).1 = 0 := rfl; have b2 : (mjT 98).2 = 0 := rfl; omega)⟩, by simp only [hM.1.1, hR.2.2.2.1.1, hL.1] <;> first | rfl | decide, _, R_replace hM ha g11 g0 (by omega) (by omega), ?_⟩
  rintro rs2_ w2_ ⟨v, M2, rfl, hw2, hq0, hq1⟩
  subst hw2
  rw [e139, ← eq_repl h2] at hq0 hq1
  have hcd : (aRepl (vO M 4) (vO M 4 0).toNatClampNeg (xs (nI (4 * kk) + 1).toNatClampNeg)).1 < 3 := cdl3 (cod_replace)
  have m0 : M2 137 0 = nI (aRepl (vO M 4) (vO M 4 0).toNatClampNeg (xs (nI (4 * kk) + 1).toNatClampNeg)).1 := by
    by_cases hz : (aRepl (vO M 4) (vO M 4 0).toNatClampNeg (xs (nI (4 * kk) + 1).toNatClampNeg)).1 = 0
    · rw [(hq1 hz).2, hz]; exact nt_0
    · rw [hq0 hz]; exact setQ_s
  have mv : (aRepl (vO M 4) (vO M 4 0).toNatClampNeg (xs (nI (4 * kk) + 1).toNatClampNeg)).1 = 0 → v = (aRepl (vO M 4) (vO M 4 0).toNatClampNeg (xs (nI (4 * kk) + 1).toNatClampNeg)).2 := fun hz => (hq1 hz).1
  have hG : LG (B + 1000) M2 := by
    by_cases hz : (aRepl (vO M 4) (vO M 4 0).toNatClampNeg (xs (nI (4 * kk) + 1).toNatClampNeg)).1 = 0
    · have e1_ := hP1 hz
      have e2_ := (hq1 hz).2
      rw [e3] at hz
      have gz : ¬ xs (nI (4 * kk) + 1).toNatClampNeg < 0 ∧ ¬ nI n ≤ xs (nI (4 * kk) + 1).toNatClampNeg := by
        by_cases g_ : ¬ xs (nI (4 * kk) + 1).toNatClampNeg < 0 ∧ ¬ nI n ≤ xs (nI (4 * kk) + 1).toNatClampNeg
        · exact g_
        · unfold aRepl at hz; rw [if_neg g_] at hz; exact absurd hz (by decide)
      obtain ⟨q, hq_, hx⟩ := in_nat' (by omega) gz
      have ht : (xs (nI (4 * kk) + 1).toNatClampNeg).toNatClampNeg < 12 := by rw [hx, ck (by omega)]; omega
      rw [e2_, e1_]
      exact LG_note (B' := B + 1000) (by omega) ⟨n_, τ, c1, c2⟩ h2 ha hy a6 h4 (sr_repl h2 ht)
    · rw [hq0 hz, hP0 hz]; exact (LG_jk h (Jk_Q M (by omega))).mono (by omega)
  refine ⟨Or.inl rfl, ?_⟩
  refine ⟨⟨Nat.le_of_ble_eq_true rfl, (by have a0 : (mjT 185).1 = 1 := rfl; have b0 : (mjT 185).2 = 6 := rfl; have a1 : (mjT 155).1 = 0 := rfl; have b1 : (mjT 155).2 = 0 := rfl; have a2 : (mjT 98).1 = 0 := rfl; have b2 : (mjT 98).2 = 0 := rfl; omega), (by have a0 : (mjT 185).1 = 1 := rfl; have b0 : (mjT 185).2 = 6 := rfl; have a1 : (mjT 155).1 = 0 := rfl; have b1 : (mjT 155).2 = 0 := rfl; have a2 : (mjT 98).1 = 0 := rfl; have b2 : (mjT 98).2 = 0 := rfl; omega)⟩, by simp only [hM.1.1, hR.2.2.2.1.1, hL.1] <;> first | rfl | decide, _, T_thrown hM, ?_⟩
  rintro rs3_ w3_ ⟨rfl, rfl⟩
  refine ⟨Or.inl rfl, ?_⟩
  refine ⟨fun h1 => ?_, fun h1 => ?_⟩
  · refine ⟨fun h2 => ?_, fun h2 => ?_⟩
    · refine ee_at (nt := nzT 195) [(0, .ref 1000001), (1, .ref 1), (2, .ref 137), (3, .ref 144), (4, .int (nI (4 * (kk + 1))))] (S, M2, J1) rfl (by rw [show nI (4 * (kk + 1)) = nI (4 * kk) + 4 from by rw [o_4, nI_add]; rfl]; rfl) rfl (hN M2 J1 _ _ hG (by have a0 : (mjT 185).1 = 1 := rfl; have b0 : (mjT 185).2 = 6 := rfl; have a1 : (mjT 155).1 = 0 := rfl; have b1 : (mjT 155).2 = 0 := rfl; have a2 : (mjT 98).1 = 0 := rfl; have b2 : (mjT 98).2 = 0 := rfl; omega) (by have a0 : (mjT 185).1 = 1 := rfl; have b0 : (mjT 185).2 = 6 := rfl; have a1 : (mjT 155).1 = 0 := rfl; have b1 : (mjT 155).2 = 0 := rfl; have a2 : (mjT 98).1 = 0 := rfl; have b2 : (mjT 98).2 = 0 := rfl; omega))
    · refine ⟨by simp only [hM.1.1, hR.2.2.2.1.1, hL.1] <;> first | rfl | decide, (by simp only [hL.2]; exact vp_in_nI (show 0 < 1 by omega) (by omega)), ?_⟩
      refine ⟨fun h3 => ?_, fun h3 => ?_⟩
      · refine ee_at (nt := nzT 195) [(0, .ref 1000001), (1, .ref 1), (2, .ref 137), (3, .ref 144), (4, .int (nI (4 * (kk + 1))))] (S, M2, J1) rfl (by rw [show nI (4 * (kk + 1)) = nI (4 * kk) + 4 from by rw [o_4, nI_add]; rfl]; rfl) rfl (hN M2 J1 _ _ hG (by have a0 : (mjT 185).1 = 1 := rfl; have b0 : (mjT 185).2 = 6 := rfl; have a1 : (mjT 155).1 = 0 := rfl; have b1 : (mjT 155).2 = 0 := rfl; have a2 : (mjT 98).1 = 0 := rfl; have b2 : (mjT 98).2 = 0 := rfl; omega) (by have a0 : (mjT 185).1 = 1 := rfl; have b0 : (mjT 185).2 = 6 := rfl; have a1 : (mjT 155).1 = 0 := rfl; have b1 : (mjT 155).2 = 0 := rfl; have a2 : (mjT 98).1 = 0 := rfl; have b2 : (mjT 98).2 = 0 := rfl; omega))
      · (have hz : (aRepl (vO M 4) (vO M 4 0).toNatClampNeg (xs (nI (4 * kk) + 1).toNatClampNeg)).1 = 0 := (n0 (by omega)).mp h2; have h_ := h3; exact absurd (cmp0.mpr (show J1 144 0 = v.toInt64 by rw [hv1 hz, mv hz])) h_)
  · (have h_ := h1; exact absurd m0 h_)
set_option maxRecDepth 100000 in
set_option maxHeartbeats 4000000 in
theorem K_18 {S : Sc} {M : Nat → Nat → Int32} {J : Nat → Nat → Int64} {xs : Nat → Int32} {L kk B nc ns : Nat} (hA : AllS S) (h : LG B M) (hB : B < 800000) (hk : 4 * kk + 3 < L) (hL2 : L ≤ 2048) (hnc : nc ≤ 600000) (hns : ns ≤ 7000000) (hN : ∀ M' J' nc' ns', LG (B + 1000) M' → nc' ≤ nc + 1 → ns' ≤ ns + 6 → EE (SL xs L) (23, [(0, .ref 1000001), (1, .ref 1), (2, .ref 137), (3, .ref 144), (4, .int (nI (4 * (kk + 1))))], [], (S, M', J'), nc', ns')) : EE (SL xs L) (1134, [(0, .ref 1000001), (1, .ref 1), (2, .ref 137), (3, .ref 144), (4, .int (nI (4 * kk)))], [], (S, M, J), nc, ns) := by
  obtain ⟨hR, hM, hL⟩ := hA
  obtain ⟨⟨n_, τ, c1, c2⟩, h2, ⟨a, y, ha, hy, h180, h181, h11, a6⟩, h4⟩ := id h
  have hI : I2 B (vO M 4) := h2.1.I2 h2.2
  obtain ⟨n, hn3, hn, e0, e1, e2, e3⟩ := h2.n
  have hc17 := h2.2.cnt
  have hBB : B < 1000000 := by omega
  have hU : 1 ≤ a → Bok (vO M (22 + 7 * ((y + 13) % 14))) := by
    intro g_
    have hs := a6 (a - 1) (by omega)
    rw [show (y + 14 - a + (a - 1)) % 14 = (y + 13) % 14 by omega] at hs
    exact (hs.1.I2 hs.2).1.2.1
  refine EE.runN (stop := atPc [23]) 90 _ ?_
  refine ⟨⟨Nat.le_of_ble_eq_true rfl, (by have a0 : (mjT 186).1 = 1 := rfl; have b0 : (mjT 186).2 = 6 := rfl; have a1 : (mjT 156).1 = 0 := rfl; have b1 : (mjT 156).2 = 0 := rfl; have a2 : (mjT 98).1 = 0 := rfl; have b2 : (mjT 98).2 = 0 := rfl; omega), (by have a0 : (mjT 186).1 = 1 := rfl; have b0 : (mjT 186).2 = 6 := rfl; have a1 : (mjT 156).1 = 0 := rfl; have b1 : (mjT 156).2 = 0 := rfl; have a2 : (mjT 98).1 = 0 := rfl; have b2 : (mjT 98).2 = 0 := rfl; omega)⟩, _, H_undo hR hI hBB ha hy h180 h181 hU hL, ?_⟩
  rintro rs1_ w1_ ⟨M1, J1, rfl, hw1, ⟨hP0, hP1⟩, hv1⟩
  subst hw1
  have e_o : ∀ o, 137 ≤ o → M1 o = M o := by
    intro o ho
    by_cases hz : (aUndo a).1 = 0
    · rw [hP1 hz]
      unfold hBack
      rw [upA_n _ _ (by omega), sO_ot _ _ _ (by omega)]
    · rw [hP0 hz]
  have e139 : M1 139 = M 139 := e_o 139 (by omega)
  have g11 : M1 137 11 = nI a := by rw [e_o 137 (by omega)]; exact h11
  have g2 : M1 137 2 = nI n_ := by rw [e_o 137 (by omega)]; exact c2.1
  have g0 : M1 139 0 = nI (M 139 0).toNatClampNeg := by rw [e139, e2]; exact e0
  have g17 : M1 139 17 = nI (M 139 17).toNatClampNeg := by rw [e139]; exact hc17.1
  have gm : (M 139 17).toNatClampNeg ≤ 12 := hc17.2
  have gok : Rok (M1 139) := by rw [e139]; exact h2.2.1.1
  have gI : I2 B (M1 139) := by rw [e139]; exact h2.2
  refine ⟨Or.inl rfl, ?_⟩
  refine ⟨⟨Nat.le_of_ble_eq_true rfl, (by have a0 : (mjT 186).1 = 1 := rfl; have b0 : (mjT 186).2 = 6 := rfl; have a1 : (mjT 156).1 = 0 := rfl; have b1 : (mjT 156).2 = 0 := rfl; have a2 : (mjT 98).1 = 0 := rfl; have b2 : (mjT 98).2 = 0 := rfl; omega), (by have a0 : (mjT 186).1 = 1 := rfl; have b0 : (mjT 186).2 = 6 := rfl; have a1 : (mjT 156).1 = 0 := rfl; have b1 : (mjT 156).2 = 0 := rfl; have a2 : (mjT 98).1 = 0 := rfl; have b2 : (mjT 98).2 = 0 := rfl; omega)⟩, by simp only [hM.1.1, hR.2.2.2.1.1, hL.1] <;> first | rfl | decide, _, R_undo hM ha g11, ?_⟩
  rintro rs2_ w2_ ⟨v, M2, rfl, hw2, hq0, hq1⟩
  subst hw2
  skip
  have hcd : (aUndo a).1 < 3 := cdl2 (cod_undo)
  have m0 : M2 137 0 = nI (aUndo a).1 := by
    by_cases hz : (aUndo a).1 = 0
    · rw [(hq1 hz).2, hz]; exact un_0
    · rw [hq0 hz]; exact setQ_s
  have mv : (aUndo a).1 = 0 → v = (aUndo a).2 := fun hz => (hq1 hz).1
  have hG : LG (B + 1000) M2 := by
    by_cases hz : (aUndo a).1 = 0
    · have e1_ := hP1 hz
      have e2_ := (hq1 hz).2
      have a0 : 1 ≤ a := by
        rcases Nat.eq_zero_or_pos a with g_ | g_
        · subst g_; exact absurd hz (by decide)
        · exact g_
      rw [e2_]
      exact (LG_undo ⟨n_, τ, c1, c2⟩ a0 ha hy a6 h4 e1_).mono (by omega)
    · rw [hq0 hz, hP0 hz]; exact (LG_jk h (Jk_Q M (by omega))).mono (by omega)
  refine ⟨Or.inl rfl, ?_⟩
  refine ⟨⟨Nat.le_of_ble_eq_true rfl, (by have a0 : (mjT 186).1 = 1 := rfl; have b0 : (mjT 186).2 = 6 := rfl; have a1 : (mjT 156).1 = 0 := rfl; have b1 : (mjT 156).2 = 0 := rfl; have a2 : (mjT 98).1 = 0 := rfl; have b2 : (mjT 98).2 = 0 := rfl; omega), (by have a0 : (mjT 186).1 = 1 := rfl; have b0 : (mjT 186).2 = 6 := rfl; have a1 : (mjT 156).1 = 0 := rfl; have b1 : (mjT 156).2 = 0 := rfl; have a2 : (mjT 98).1 = 0 := rfl; have b2 : (mjT 98).2 = 0 := rfl; omega)⟩, by simp only [hM.1.1, hR.2.2.2.1.1, hL.1] <;> first | rfl | decide, _, T_thrown hM, ?_⟩
  rintro rs3_ w3_ ⟨rfl, rfl⟩
  refine ⟨Or.inl rfl, ?_⟩
  refine ⟨fun h1 => ?_, fun h1 => ?_⟩
  · refine ⟨fun h2 => ?_, fun h2 => ?_⟩
    · refine ee_at (nt := nzT 195) [(0, .ref 1000001), (1, .ref 1), (2, .ref 137), (3, .ref 144), (4, .int (nI (4 * (kk + 1))))] (S, M2, J1) rfl (by rw [show nI (4 * (kk + 1)) = nI (4 * kk) + 4 from by rw [o_4, nI_add]; rfl]; rfl) rfl (hN M2 J1 _ _ hG (by have a0 : (mjT 186).1 = 1 := rfl; have b0 : (mjT 186).2 = 6 := rfl; have a1 : (mjT 156).1 = 0 := rfl; have b1 : (mjT 156).2 = 0 := rfl; have a2 : (mjT 98).1 = 0 := rfl; have b2 : (mjT 98).2 = 0 := rfl; omega) (by have a0 : (mjT 186).1 = 1 := rfl; have b0 : (mjT 186).2 = 6 := rfl; have a1 : (mjT 156).1 = 0 := rfl; have b1 : (mjT 156).2 = 0 := rfl; have a2 : (mjT 98).1 = 0 := rfl; have b2 : (mjT 98).2 = 0 := rfl; omega))
    · refine ⟨by simp only [hM.1.1, hR.2.2.2.1.1, hL.1] <;> first | rfl | decide, (by simp only [hL.2]; exact vp_in_nI (show 0 < 1 by omega) (by omega)), ?_⟩
      refine ⟨fun h3 => ?_, fun h3 => ?_⟩
      · refine ee_at (nt := nzT 195) [(0, .ref 1000001), (1, .ref 1), (2, .ref 137), (3, .ref 144), (4, .int (nI (4 * (kk + 1))))] (S, M2, J1) rfl (by rw [show nI (4 * (kk + 1)) = nI (4 * kk) + 4 from by rw [o_4, nI_add]; rfl]; rfl) rfl (hN M2 J1 _ _ hG (by have a0 : (mjT 186).1 = 1 := rfl; have b0 : (mjT 186).2 = 6 := rfl; have a1 : (mjT 156).1 = 0 := rfl; have b1 : (mjT 156).2 = 0 := rfl; have a2 : (mjT 98).1 = 0 := rfl; have b2 : (mjT 98).2 = 0 := rfl; omega) (by have a0 : (mjT 186).1 = 1 := rfl; have b0 : (mjT 186).2 = 6 := rfl; have a1 : (mjT 156).1 = 0 := rfl; have b1 : (mjT 156).2 = 0 := rfl; have a2 : (mjT 98).1 = 0 := rfl; have b2 : (mjT 98).2 = 0 := rfl; omega))
      · (have hz : (aUndo a).1 = 0 := (n0 (by omega)).mp h2; have h_ := h3; exact absurd (cmp0.mpr (show J1 144 0 = v.toInt64 by rw [hv1 hz, mv hz])) h_)
  · (have h_ := h1; exact absurd m0 h_)
set_option maxRecDepth 100000 in
set_option maxHeartbeats 4000000 in
theorem K_26 {S : Sc} {M : Nat → Nat → Int32} {J : Nat → Nat → Int64} {xs : Nat → Int32} {L kk B nc ns : Nat} (hA : AllS S) (h : LG B M) (hB : B < 800000) (hk : 4 * kk + 3 < L) (hL2 : L ≤ 2048) (hnc : nc ≤ 600000) (hns : ns ≤ 7000000) (hN : ∀ M' J' nc' ns', LG (B + 1000) M' → nc' ≤ nc + 1 → ns' ≤ ns + 6 → EE (SL xs L) (23, [(0, .ref 1000001), (1, .ref 1), (2, .ref 137), (3, .ref 144), (4, .int (nI (4 * (kk + 1))))], [], (S, M', J'), nc', ns')) : EE (SL xs L) (1639, [(0, .ref 1000001), (1, .ref 1), (2, .ref 137), (3, .ref 144), (4, .int (nI (4 * kk)))], [], (S, M, J), nc, ns) := by
  obtain ⟨hR, hM, hL⟩ := hA
  obtain ⟨⟨n_, τ, c1, c2⟩, h2, ⟨a, y, ha, hy, h180, h181, h11, a6⟩, h4⟩ := id h
  have hI : I2 B (vO M 4) := h2.1.I2 h2.2
  obtain ⟨n, hn3, hn, e0, e1, e2, e3⟩ := h2.n
  have hc17 := h2.2.cnt
  have hBB : B < 1000000 := by omega
  refine EE.runN (stop := atPc [23]) 90 _ ?_
  refine ⟨(by rw [o_1, nI_add]; exact vp_in_nI (show 4 * kk + 1 < L by omega) (by omega)), ?_⟩
  refine ⟨⟨Nat.le_of_ble_eq_true rfl, (by have a0 : (mjT 193).1 = 1 := rfl; have b0 : (mjT 193).2 = 6 := rfl; have a1 : (mjT 168).1 = 0 := rfl; have b1 : (mjT 168).2 = 0 := rfl; have a2 : (mjT 98).1 = 0 := rfl; have b2 : (mjT 98).2 = 0 := rfl; omega), (by have a0 : (mjT 193).1 = 1 := rfl; have b0 : (mjT 193).2 = 6 := rfl; have a1 : (mjT 168).1 = 0 := rfl; have b1 : (mjT 168).2 = 0 := rfl; have a2 : (mjT 98).1 = 0 := rfl; have b2 : (mjT 98).2 = 0 := rfl; omega)⟩, _, H_save hR hI hBB hL, ?_⟩
  rintro rs1_ w1_ ⟨M1, J1, rfl, hw1, ⟨hP0, hP1⟩, hv1⟩
  subst hw1
  have e_o : ∀ o, 137 ≤ o → M1 o = M o := by
    intro o ho
    by_cases hz : (aSave (vO M 4) (xs (nI (4 * kk) + 1).toNatClampNeg)).1 = 0
    · have gz : ¬ xs (nI (4 * kk) + 1).toNatClampNeg < 0 ∧ ¬ 1 < xs (nI (4 * kk) + 1).toNatClampNeg := by
        by_cases g_ : ¬ xs (nI (4 * kk) + 1).toNatClampNeg < 0 ∧ ¬ 1 < xs (nI (4 * kk) + 1).toNatClampNeg
        · exact g_
        · unfold aSave at hz; rw [if_neg g_] at hz; exact absurd hz (by decide)
      obtain ⟨q, hq_, hx⟩ := in_nat (k := 1) rfl (by omega) gz
      have ht : (xs (nI (4 * kk) + 1).toNatClampNeg).toNatClampNeg < 2 := by rw [hx, ck (by omega)]; omega
      rw [hP1 hz, upA_n _ _ (by omega), sO_ot _ _ _ (by omega)]
    · rw [hP0 hz]
  have e139 : M1 139 = M 139 := e_o 139 (by omega)
  have g11 : M1 137 11 = nI a := by rw [e_o 137 (by omega)]; exact h11
  have g2 : M1 137 2 = nI n_ := by rw [e_o 137 (by omega)]; exact c2.1
  have g0 : M1 139 0 = nI (M 139 0).toNatClampNeg := by rw [e139, e2]; exact e0
  have g17 : M1 139 17 = nI (M 139 17).toNatClampNeg := by rw [e139]; exact hc17.1
  have gm : (M 139 17).toNatClampNeg ≤ 12 := hc17.2
  have gok : Rok (M1 139) := by rw [e139]; exact h2.2.1.1
  have gI : I2 B (M1 139) := by rw [e139]; exact h2.2
  refine ⟨Or.inl rfl, ?_⟩
  refine ⟨(by rw [o_1, nI_add]; exact vp_in_nI (show 4 * kk + 1 < L by omega) (by omega)), ?_⟩
  refine ⟨⟨Nat.le_of_ble_eq_true rfl, (by have a0 : (mjT 193).1 = 1 := rfl; have b0 : (mjT 193).2 = 6 := rfl; have a1 : (mjT 168).1 = 0 := rfl; have b1 : (mjT 168).2 = 0 := rfl; have a2 : (mjT 98).1 = 0 := rfl; have b2 : (mjT 98).2 = 0 := rfl; omega), (by have a0 : (mjT 193).1 = 1 := rfl; have b0 : (mjT 193).2 = 6 := rfl; have a1 : (mjT 168).1 = 0 := rfl; have b1 : (mjT 168).2 = 0 := rfl; have a2 : (mjT 98).1 = 0 := rfl; have b2 : (mjT 98).2 = 0 := rfl; omega)⟩, by simp only [hM.1.1, hR.2.2.2.1.1, hL.1] <;> first | rfl | decide, _, R_save hM, ?_⟩
  rintro rs2_ w2_ ⟨v, M2, rfl, hw2, hq0, hq1⟩
  subst hw2
  rw [e139, ← eq_save h2] at hq0 hq1
  have hcd : (aSave (vO M 4) (xs (nI (4 * kk) + 1).toNatClampNeg)).1 < 3 := cdl2 (cod_save)
  have m0 : M2 137 0 = nI (aSave (vO M 4) (xs (nI (4 * kk) + 1).toNatClampNeg)).1 := by
    by_cases hz : (aSave (vO M 4) (xs (nI (4 * kk) + 1).toNatClampNeg)).1 = 0
    · rw [(hq1 hz).2, hz]; exact sv_0
    · rw [hq0 hz]; exact setQ_s
  have mv : (aSave (vO M 4) (xs (nI (4 * kk) + 1).toNatClampNeg)).1 = 0 → v = (aSave (vO M 4) (xs (nI (4 * kk) + 1).toNatClampNeg)).2 := fun hz => (hq1 hz).1
  have hG : LG (B + 1000) M2 := by
    by_cases hz : (aSave (vO M 4) (xs (nI (4 * kk) + 1).toNatClampNeg)).1 = 0
    · have e1_ := hP1 hz
      have e2_ := (hq1 hz).2
      have gz : ¬ xs (nI (4 * kk) + 1).toNatClampNeg < 0 ∧ ¬ 1 < xs (nI (4 * kk) + 1).toNatClampNeg := by
        by_cases g_ : ¬ xs (nI (4 * kk) + 1).toNatClampNeg < 0 ∧ ¬ 1 < xs (nI (4 * kk) + 1).toNatClampNeg
        · exact g_
        · unfold aSave at hz; rw [if_neg g_] at hz; exact absurd hz (by decide)
      obtain ⟨q, hq_, hx⟩ := in_nat (k := 1) rfl (by omega) gz
      have ht : (xs (nI (4 * kk) + 1).toNatClampNeg).toNatClampNeg < 2 := by rw [hx, ck (by omega)]; omega
      rw [← e139] at e2_
      rw [e2_]
      exact (LG_save h ht e1_).mono (by omega)
    · rw [hq0 hz, hP0 hz]; exact (LG_jk h (Jk_Q M (by omega))).mono (by omega)
  refine ⟨Or.inl rfl, ?_⟩
  refine ⟨⟨Nat.le_of_ble_eq_true rfl, (by have a0 : (mjT 193).1 = 1 := rfl; have b0 : (mjT 193).2 = 6 := rfl; have a1 : (mjT 168).1 = 0 := rfl; have b1 : (mjT 168).2 = 0 := rfl; have a2 : (mjT 98).1 = 0 := rfl; have b2 : (mjT 98).2 = 0 := rfl; omega), (by have a0 : (mjT 193).1 = 1 := rfl; have b0 : (mjT 193).2 = 6 := rfl; have a1 : (mjT 168).1 = 0 := rfl; have b1 : (mjT 168).2 = 0 := rfl; have a2 : (mjT 98).1 = 0 := rfl; have b2 : (mjT 98).2 = 0 := rfl; omega)⟩, by simp only [hM.1.1, hR.2.2.2.1.1, hL.1] <;> first | rfl | decide, _, T_thrown hM, ?_⟩
  rintro rs3_ w3_ ⟨rfl, rfl⟩
  refine ⟨Or.inl rfl, ?_⟩
  refine ⟨fun h1 => ?_, fun h1 => ?_⟩
  · refine ⟨fun h2 => ?_, fun h2 => ?_⟩
    · refine ee_at (nt := nzT 195) [(0, .ref 1000001), (1, .ref 1), (2, .ref 137), (3, .ref 144), (4, .int (nI (4 * (kk + 1))))] (S, M2, J1) rfl (by rw [show nI (4 * (kk + 1)) = nI (4 * kk) + 4 from by rw [o_4, nI_add]; rfl]; rfl) rfl (hN M2 J1 _ _ hG (by have a0 : (mjT 193).1 = 1 := rfl; have b0 : (mjT 193).2 = 6 := rfl; have a1 : (mjT 168).1 = 0 := rfl; have b1 : (mjT 168).2 = 0 := rfl; have a2 : (mjT 98).1 = 0 := rfl; have b2 : (mjT 98).2 = 0 := rfl; omega) (by have a0 : (mjT 193).1 = 1 := rfl; have b0 : (mjT 193).2 = 6 := rfl; have a1 : (mjT 168).1 = 0 := rfl; have b1 : (mjT 168).2 = 0 := rfl; have a2 : (mjT 98).1 = 0 := rfl; have b2 : (mjT 98).2 = 0 := rfl; omega))
    · refine ⟨by simp only [hM.1.1, hR.2.2.2.1.1, hL.1] <;> first | rfl | decide, (by simp only [hL.2]; exact vp_in_nI (show 0 < 1 by omega) (by omega)), ?_⟩
      refine ⟨fun h3 => ?_, fun h3 => ?_⟩
      · refine ee_at (nt := nzT 195) [(0, .ref 1000001), (1, .ref 1), (2, .ref 137), (3, .ref 144), (4, .int (nI (4 * (kk + 1))))] (S, M2, J1) rfl (by rw [show nI (4 * (kk + 1)) = nI (4 * kk) + 4 from by rw [o_4, nI_add]; rfl]; rfl) rfl (hN M2 J1 _ _ hG (by have a0 : (mjT 193).1 = 1 := rfl; have b0 : (mjT 193).2 = 6 := rfl; have a1 : (mjT 168).1 = 0 := rfl; have b1 : (mjT 168).2 = 0 := rfl; have a2 : (mjT 98).1 = 0 := rfl; have b2 : (mjT 98).2 = 0 := rfl; omega) (by have a0 : (mjT 193).1 = 1 := rfl; have b0 : (mjT 193).2 = 6 := rfl; have a1 : (mjT 168).1 = 0 := rfl; have b1 : (mjT 168).2 = 0 := rfl; have a2 : (mjT 98).1 = 0 := rfl; have b2 : (mjT 98).2 = 0 := rfl; omega))
      · (have hz : (aSave (vO M 4) (xs (nI (4 * kk) + 1).toNatClampNeg)).1 = 0 := (n0 (by omega)).mp h2; have h_ := h3; exact absurd (cmp0.mpr (show J1 144 0 = v.toInt64 by rw [hv1 hz, mv hz])) h_)
  · (have h_ := h1; exact absurd m0 h_)
set_option maxRecDepth 100000 in
set_option maxHeartbeats 4000000 in
theorem K_27 {S : Sc} {M : Nat → Nat → Int32} {J : Nat → Nat → Int64} {xs : Nat → Int32} {L kk B nc ns : Nat} (hA : AllS S) (h : LG B M) (hB : B < 800000) (hk : 4 * kk + 3 < L) (hL2 : L ≤ 2048) (hnc : nc ≤ 600000) (hns : ns ≤ 7000000) (hN : ∀ M' J' nc' ns', LG (B + 1000) M' → nc' ≤ nc + 1 → ns' ≤ ns + 6 → EE (SL xs L) (23, [(0, .ref 1000001), (1, .ref 1), (2, .ref 137), (3, .ref 144), (4, .int (nI (4 * (kk + 1))))], [], (S, M', J'), nc', ns')) : EE (SL xs L) (1695, [(0, .ref 1000001), (1, .ref 1), (2, .ref 137), (3, .ref 144), (4, .int (nI (4 * kk)))], [], (S, M, J), nc, ns) := by
  obtain ⟨hR, hM, hL⟩ := hA
  obtain ⟨⟨n_, τ, c1, c2⟩, h2, ⟨a, y, ha, hy, h180, h181, h11, a6⟩, h4⟩ := id h
  have hI : I2 B (vO M 4) := h2.1.I2 h2.2
  obtain ⟨n, hn3, hn, e0, e1, e2, e3⟩ := h2.n
  have hc17 := h2.2.cnt
  have hBB : B < 1000000 := by omega
  have hW : ∀ q, q < 2 → ¬ M (120 + 2) q = 0 → Bok (vO M (120 + 3 + 7 * q)) := by
    intro q hq_ g_
    obtain ⟨e_, hs⟩ := h4 q hq_
    have hs := hs (by rw [← e_]; exact g_)
    rw [show 120 + 3 + 7 * q = 123 + 7 * q by omega]
    exact (hs.1.I2 hs.2).1.2.1
  refine EE.runN (stop := atPc [23]) 90 _ ?_
  refine ⟨(by rw [o_1, nI_add]; exact vp_in_nI (show 4 * kk + 1 < L by omega) (by omega)), ?_⟩
  refine ⟨⟨Nat.le_of_ble_eq_true rfl, (by have a0 : (mjT 194).1 = 1 := rfl; have b0 : (mjT 194).2 = 6 := rfl; have a1 : (mjT 169).1 = 0 := rfl; have b1 : (mjT 169).2 = 0 := rfl; have a2 : (mjT 98).1 = 0 := rfl; have b2 : (mjT 98).2 = 0 := rfl; omega), (by have a0 : (mjT 194).1 = 1 := rfl; have b0 : (mjT 194).2 = 6 := rfl; have a1 : (mjT 169).1 = 0 := rfl; have b1 : (mjT 169).2 = 0 := rfl; have a2 : (mjT 98).1 = 0 := rfl; have b2 : (mjT 98).2 = 0 := rfl; omega)⟩, _, H_restore hR hI hBB hW hL, ?_⟩
  rintro rs1_ w1_ ⟨M1, J1, rfl, hw1, ⟨hP0, hP1⟩, hv1⟩
  subst hw1
  have e_o : ∀ o, 137 ≤ o → M1 o = M o := by
    intro o ho
    by_cases hz : (aRest (fun k => vO M (120 + 3 + 7 * (k / 114)) (k % 114)) (M (120 + 2)) (xs (nI (4 * kk) + 1).toNatClampNeg)).1 = 0
    · rw [hP1 hz, upA_n _ _ (by omega), sO_ot _ _ _ (by omega)]
    · rw [hP0 hz]
  have e139 : M1 139 = M 139 := e_o 139 (by omega)
  have g11 : M1 137 11 = nI a := by rw [e_o 137 (by omega)]; exact h11
  have g2 : M1 137 2 = nI n_ := by rw [e_o 137 (by omega)]; exact c2.1
  have g0 : M1 139 0 = nI (M 139 0).toNatClampNeg := by rw [e139, e2]; exact e0
  have g17 : M1 139 17 = nI (M 139 17).toNatClampNeg := by rw [e139]; exact hc17.1
  have gm : (M 139 17).toNatClampNeg ≤ 12 := hc17.2
  have gok : Rok (M1 139) := by rw [e139]; exact h2.2.1.1
  have gI : I2 B (M1 139) := by rw [e139]; exact h2.2
  refine ⟨Or.inl rfl, ?_⟩
  refine ⟨(by rw [o_1, nI_add]; exact vp_in_nI (show 4 * kk + 1 < L by omega) (by omega)), ?_⟩
  refine ⟨⟨Nat.le_of_ble_eq_true rfl, (by have a0 : (mjT 194).1 = 1 := rfl; have b0 : (mjT 194).2 = 6 := rfl; have a1 : (mjT 169).1 = 0 := rfl; have b1 : (mjT 169).2 = 0 := rfl; have a2 : (mjT 98).1 = 0 := rfl; have b2 : (mjT 98).2 = 0 := rfl; omega), (by have a0 : (mjT 194).1 = 1 := rfl; have b0 : (mjT 194).2 = 6 := rfl; have a1 : (mjT 169).1 = 0 := rfl; have b1 : (mjT 169).2 = 0 := rfl; have a2 : (mjT 98).1 = 0 := rfl; have b2 : (mjT 98).2 = 0 := rfl; omega)⟩, by simp only [hM.1.1, hR.2.2.2.1.1, hL.1] <;> first | rfl | decide, _, R_restore hM, ?_⟩
  rintro rs2_ w2_ ⟨v, M2, rfl, hw2, hq0, hq1⟩
  subst hw2
  rw [e_o 142 (by omega), e_o 143 (by omega), ← eq_rest h4] at hq0 hq1
  have hcd : (aRest (fun k => vO M (120 + 3 + 7 * (k / 114)) (k % 114)) (M (120 + 2)) (xs (nI (4 * kk) + 1).toNatClampNeg)).1 < 3 := cdl3 (cod_restore)
  have m0 : M2 137 0 = nI (aRest (fun k => vO M (120 + 3 + 7 * (k / 114)) (k % 114)) (M (120 + 2)) (xs (nI (4 * kk) + 1).toNatClampNeg)).1 := by
    by_cases hz : (aRest (fun k => vO M (120 + 3 + 7 * (k / 114)) (k % 114)) (M (120 + 2)) (xs (nI (4 * kk) + 1).toNatClampNeg)).1 = 0
    · rw [(hq1 hz).2, hz]; exact rs_00
    · rw [hq0 hz]; exact setQ_s
  have mv : (aRest (fun k => vO M (120 + 3 + 7 * (k / 114)) (k % 114)) (M (120 + 2)) (xs (nI (4 * kk) + 1).toNatClampNeg)).1 = 0 → v = (aRest (fun k => vO M (120 + 3 + 7 * (k / 114)) (k % 114)) (M (120 + 2)) (xs (nI (4 * kk) + 1).toNatClampNeg)).2 := fun hz => (hq1 hz).1
  have hG : LG (B + 1000) M2 := by
    by_cases hz : (aRest (fun k => vO M (120 + 3 + 7 * (k / 114)) (k % 114)) (M (120 + 2)) (xs (nI (4 * kk) + 1).toNatClampNeg)).1 = 0
    · have e1_ := hP1 hz
      have e2_ := (hq1 hz).2
      rw [← e_o 142 (by omega)] at e2_
      have hz2 := hz
      rw [eq_rest h4] at hz2
      have gz : ¬ xs (nI (4 * kk) + 1).toNatClampNeg < 0 ∧ ¬ 1 < xs (nI (4 * kk) + 1).toNatClampNeg := by
        by_cases g_ : ¬ xs (nI (4 * kk) + 1).toNatClampNeg < 0 ∧ ¬ 1 < xs (nI (4 * kk) + 1).toNatClampNeg
        · exact g_
        · unfold aRest at hz2; rw [if_neg g_] at hz2; exact absurd hz2 (by decide)
      obtain ⟨q, hq_, hx⟩ := in_nat (k := 1) rfl (by omega) gz
      have ht : (xs (nI (4 * kk) + 1).toNatClampNeg).toNatClampNeg < 2 := by rw [hx, ck (by omega)]; omega
      have hf : ¬ M 143 (xs (nI (4 * kk) + 1).toNatClampNeg).toNatClampNeg = 0 := by
        intro g_
        unfold aRest at hz2; rw [if_pos gz, if_pos g_] at hz2; exact absurd hz2 (by decide)
      rw [e2_]
      exact (LG_rest h ht hf e1_).mono (by omega)
    · rw [hq0 hz, hP0 hz]; exact (LG_jk h (Jk_Q M (by omega))).mono (by omega)
  refine ⟨Or.inl rfl, ?_⟩
  refine ⟨⟨Nat.le_of_ble_eq_true rfl, (by have a0 : (mjT 194).1 = 1 := rfl; have b0 : (mjT 194).2 = 6 := rfl; have a1 : (mjT 169).1 = 0 := rfl; have b1 : (mjT 169).2 = 0 := rfl; have a2 : (mjT 98).1 = 0 := rfl; have b2 : (mjT 98).2 = 0 := rfl; omega), (by have a0 : (mjT 194).1 = 1 := rfl; have b0 : (mjT 194).2 = 6 := rfl; have a1 : (mjT 169).1 = 0 := rfl; have b1 : (mjT 169).2 = 0 := rfl; have a2 : (mjT 98).1 = 0 := rfl; have b2 : (mjT 98).2 = 0 := rfl; omega)⟩, by simp only [hM.1.1, hR.2.2.2.1.1, hL.1] <;> first | rfl | decide, _, T_thrown hM, ?_⟩
  rintro rs3_ w3_ ⟨rfl, rfl⟩
  refine ⟨Or.inl rfl, ?_⟩
  refine ⟨fun h1 => ?_, fun h1 => ?_⟩
  · refine ⟨fun h2 => ?_, fun h2 => ?_⟩
    · refine ee_at (nt := nzT 195) [(0, .ref 1000001), (1, .ref 1), (2, .ref 137), (3, .ref 144), (4, .int (nI (4 * (kk + 1))))] (S, M2, J1) rfl (by rw [show nI (4 * (kk + 1)) = nI (4 * kk) + 4 from by rw [o_4, nI_add]; rfl]; rfl) rfl (hN M2 J1 _ _ hG (by have a0 : (mjT 194).1 = 1 := rfl; have b0 : (mjT 194).2 = 6 := rfl; have a1 : (mjT 169).1 = 0 := rfl; have b1 : (mjT 169).2 = 0 := rfl; have a2 : (mjT 98).1 = 0 := rfl; have b2 : (mjT 98).2 = 0 := rfl; omega) (by have a0 : (mjT 194).1 = 1 := rfl; have b0 : (mjT 194).2 = 6 := rfl; have a1 : (mjT 169).1 = 0 := rfl; have b1 : (mjT 169).2 = 0 := rfl; have a2 : (mjT 98).1 = 0 := rfl; have b2 : (mjT 98).2 = 0 := rfl; omega))
    · refine ⟨by simp only [hM.1.1, hR.2.2.2.1.1, hL.1] <;> first | rfl | decide, (by simp only [hL.2]; exact vp_in_nI (show 0 < 1 by omega) (by omega)), ?_⟩
      refine ⟨fun h3 => ?_, fun h3 => ?_⟩
      · refine ee_at (nt := nzT 195) [(0, .ref 1000001), (1, .ref 1), (2, .ref 137), (3, .ref 144), (4, .int (nI (4 * (kk + 1))))] (S, M2, J1) rfl (by rw [show nI (4 * (kk + 1)) = nI (4 * kk) + 4 from by rw [o_4, nI_add]; rfl]; rfl) rfl (hN M2 J1 _ _ hG (by have a0 : (mjT 194).1 = 1 := rfl; have b0 : (mjT 194).2 = 6 := rfl; have a1 : (mjT 169).1 = 0 := rfl; have b1 : (mjT 169).2 = 0 := rfl; have a2 : (mjT 98).1 = 0 := rfl; have b2 : (mjT 98).2 = 0 := rfl; omega) (by have a0 : (mjT 194).1 = 1 := rfl; have b0 : (mjT 194).2 = 6 := rfl; have a1 : (mjT 169).1 = 0 := rfl; have b1 : (mjT 169).2 = 0 := rfl; have a2 : (mjT 98).1 = 0 := rfl; have b2 : (mjT 98).2 = 0 := rfl; omega))
      · (have hz : (aRest (fun k => vO M (120 + 3 + 7 * (k / 114)) (k % 114)) (M (120 + 2)) (xs (nI (4 * kk) + 1).toNatClampNeg)).1 = 0 := (n0 (by omega)).mp h2; have h_ := h3; exact absurd (cmp0.mpr (show J1 144 0 = v.toInt64 by rw [hv1 hz, mv hz])) h_)
  · (have h_ := h1; exact absurd m0 h_)
set_option maxRecDepth 100000 in
set_option maxHeartbeats 4000000 in
theorem K_0 {S : Sc} {M : Nat → Nat → Int32} {J : Nat → Nat → Int64} {xs : Nat → Int32} {L kk B nc ns : Nat} (hA : AllS S) (h : LG B M) (hB : B < 800000) (hk : 4 * kk + 3 < L) (hL2 : L ≤ 2048) (hnc : nc ≤ 600000) (hns : ns ≤ 7000000) (hN : ∀ M' J' nc' ns', LG (B + 1000) M' → nc' ≤ nc + 1 → ns' ≤ ns + 6 → EE (SL xs L) (23, [(0, .ref 1000001), (1, .ref 1), (2, .ref 137), (3, .ref 144), (4, .int (nI (4 * (kk + 1))))], [], (S, M', J'), nc', ns')) : EE (SL xs L) (164, [(0, .ref 1000001), (1, .ref 1), (2, .ref 137), (3, .ref 144), (4, .int (nI (4 * kk)))], [], (S, M, J), nc, ns) := by
  obtain ⟨hR, hM, hL⟩ := hA
  obtain ⟨⟨n_, τ, c1, c2⟩, h2, ⟨a, y, ha, hy, h180, h181, h11, a6⟩, h4⟩ := id h
  have hI : I2 B (vO M 4) := h2.1.I2 h2.2
  obtain ⟨n, hn3, hn, e0, e1, e2, e3⟩ := h2.n
  have hc17 := h2.2.cnt
  have hBB : B < 1000000 := by omega
  refine EE.runN (stop := atPc [23]) 90 _ ?_
  refine ⟨(by rw [o_1, nI_add]; exact vp_in_nI (show 4 * kk + 1 < L by omega) (by omega)), ?_⟩
  refine ⟨⟨Nat.le_of_ble_eq_true rfl, (by have a0 : (mjT 170).1 = 1 := rfl; have b0 : (mjT 170).2 = 6 := rfl; have a1 : (mjT 121).1 = 0 := rfl; have b1 : (mjT 121).2 = 0 := rfl; have a2 : (mjT 98).1 = 0 := rfl; have b2 : (mjT 98).2 = 0 := rfl; omega), (by have a0 : (mjT 170).1 = 1 := rfl; have b0 : (mjT 170).2 = 6 := rfl; have a1 : (mjT 121).1 = 0 := rfl; have b1 : (mjT 121).2 = 0 := rfl; have a2 : (mjT 98).1 = 0 := rfl; have b2 : (mjT 98).2 = 0 := rfl; omega)⟩, _, H_append hR hI hBB c1 hL, ?_⟩
  rintro rs1_ w1_ ⟨M1, J1, rfl, hw1, ⟨hP0, hP1⟩, hv1⟩
  subst hw1
  have e_o : ∀ o, 137 ≤ o → M1 o = M o := by
    intro o ho
    by_cases hz : (aApp n_ (xs (nI (4 * kk) + 1).toNatClampNeg)).1 = 0
    · rw [hP1 hz, upA_n _ _ (by omega), upA_n _ _ (by omega)]
    · rw [hP0 hz]
  have e139 : M1 139 = M 139 := e_o 139 (by omega)
  have g11 : M1 137 11 = nI a := by rw [e_o 137 (by omega)]; exact h11
  have g2 : M1 137 2 = nI n_ := by rw [e_o 137 (by omega)]; exact c2.1
  have g0 : M1 139 0 = nI (M 139 0).toNatClampNeg := by rw [e139, e2]; exact e0
  have g17 : M1 139 17 = nI (M 139 17).toNatClampNeg := by rw [e139]; exact hc17.1
  have gm : (M 139 17).toNatClampNeg ≤ 12 := hc17.2
  have gok : Rok (M1 139) := by rw [e139]; exact h2.2.1.1
  have gI : I2 B (M1 139) := by rw [e139]; exact h2.2
  refine ⟨Or.inl rfl, ?_⟩
  refine ⟨(by rw [o_1, nI_add]; exact vp_in_nI (show 4 * kk + 1 < L by omega) (by omega)), ?_⟩
  refine ⟨⟨Nat.le_of_ble_eq_true rfl, (by have a0 : (mjT 170).1 = 1 := rfl; have b0 : (mjT 170).2 = 6 := rfl; have a1 : (mjT 121).1 = 0 := rfl; have b1 : (mjT 121).2 = 0 := rfl; have a2 : (mjT 98).1 = 0 := rfl; have b2 : (mjT 98).2 = 0 := rfl; omega), (by have a0 : (mjT 170).1 = 1 := rfl; have b0 : (mjT 170).2 = 6 := rfl; have a1 : (mjT 121).1 = 0 := rfl; have b1 : (mjT 121).2 = 0 := rfl; have a2 : (mjT 98).1 = 0 := rfl; have b2 : (mjT 98).2 = 0 := rfl; omega)⟩, by simp only [hM.1.1, hR.2.2.2.1.1, hL.1] <;> first | rfl | decide, _, R_append hM g2 c2.2.1, ?_⟩
  rintro rs2_ w2_ ⟨v, M2, rfl, hw2, hq0, hq1⟩
  subst hw2
  skip
  have hcd : (aApp n_ (xs (nI (4 * kk) + 1).toNatClampNeg)).1 < 3 := cdl3 (cod_append)
  have m0 : M2 137 0 = nI (aApp n_ (xs (nI (4 * kk) + 1).toNatClampNeg)).1 := by
    by_cases hz : (aApp n_ (xs (nI (4 * kk) + 1).toNatClampNeg)).1 = 0
    · rw [(hq1 hz).2, hz]; exact ap_0
    · rw [hq0 hz]; exact setQ_s
  have mv : (aApp n_ (xs (nI (4 * kk) + 1).toNatClampNeg)).1 = 0 → v = (aApp n_ (xs (nI (4 * kk) + 1).toNatClampNeg)).2 := fun hz => (hq1 hz).1
  have hG : LG (B + 1000) M2 := by
    by_cases hz : (aApp n_ (xs (nI (4 * kk) + 1).toNatClampNeg)).1 = 0
    · have e1_ := hP1 hz
      have e2_ := (hq1 hz).2
      have gz : ¬ xs (nI (4 * kk) + 1).toNatClampNeg < 0 ∧ ¬ 255 < xs (nI (4 * kk) + 1).toNatClampNeg := by
        by_cases g_ : ¬ xs (nI (4 * kk) + 1).toNatClampNeg < 0 ∧ ¬ 255 < xs (nI (4 * kk) + 1).toNatClampNeg
        · exact g_
        · unfold aApp at hz; rw [if_neg g_] at hz; exact absurd hz (by decide)
      obtain ⟨q, hq_, hx⟩ := in_nat (k := 255) rfl (by omega) gz
      have hlt : n_ < 90 := by
        rcases Nat.lt_or_ge n_ 90 with g_ | g_
        · exact g_
        · have e90 : nI n_ = 90 := by rw [show n_ = 90 by have := c2.2.1; omega]; rfl
          unfold aApp at hz; rw [if_pos gz, if_pos e90] at hz; exact absurd hz (by decide)
      rw [hx] at e1_ e2_
      rw [e2_]
      exact (LG_app h c1 c2 hlt hq_ e1_).mono (by omega)
    · rw [hq0 hz, hP0 hz]; exact (LG_jk h (Jk_Q M (by omega))).mono (by omega)
  refine ⟨Or.inl rfl, ?_⟩
  refine ⟨⟨Nat.le_of_ble_eq_true rfl, (by have a0 : (mjT 170).1 = 1 := rfl; have b0 : (mjT 170).2 = 6 := rfl; have a1 : (mjT 121).1 = 0 := rfl; have b1 : (mjT 121).2 = 0 := rfl; have a2 : (mjT 98).1 = 0 := rfl; have b2 : (mjT 98).2 = 0 := rfl; omega), (by have a0 : (mjT 170).1 = 1 := rfl; have b0 : (mjT 170).2 = 6 := rfl; have a1 : (mjT 121).1 = 0 := rfl; have b1 : (mjT 121).2 = 0 := rfl; have a2 : (mjT 98).1 = 0 := rfl; have b2 : (mjT 98).2 = 0 := rfl; omega)⟩, by simp only [hM.1.1, hR.2.2.2.1.1, hL.1] <;> first | rfl | decide, _, T_thrown hM, ?_⟩
  rintro rs3_ w3_ ⟨rfl, rfl⟩
  refine ⟨Or.inl rfl, ?_⟩
  refine ⟨fun h1 => ?_, fun h1 => ?_⟩
  · refine ⟨fun h2 => ?_, fun h2 => ?_⟩
    · refine ee_at (nt := nzT 195) [(0, .ref 1000001), (1, .ref 1), (2, .ref 137), (3, .ref 144), (4, .int (nI (4 * (kk + 1))))] (S, M2, J1) rfl (by rw [show nI (4 * (kk + 1)) = nI (4 * kk) + 4 from by rw [o_4, nI_add]; rfl]; rfl) rfl (hN M2 J1 _ _ hG (by have a0 : (mjT 170).1 = 1 := rfl; have b0 : (mjT 170).2 = 6 := rfl; have a1 : (mjT 121).1 = 0 := rfl; have b1 : (mjT 121).2 = 0 := rfl; have a2 : (mjT 98).1 = 0 := rfl; have b2 : (mjT 98).2 = 0 := rfl; omega) (by have a0 : (mjT 170).1 = 1 := rfl; have b0 : (mjT 170).2 = 6 := rfl; have a1 : (mjT 121).1 = 0 := rfl; have b1 : (mjT 121).2 = 0 := rfl; have a2 : (mjT 98).1 = 0 := rfl; have b2 : (mjT 98).2 = 0 := rfl; omega))
    · refine ⟨by simp only [hM.1.1, hR.2.2.2.1.1, hL.1] <;> first | rfl | decide, (by simp only [hL.2]; exact vp_in_nI (show 0 < 1 by omega) (by omega)), ?_⟩
      refine ⟨fun h3 => ?_, fun h3 => ?_⟩
      · refine ee_at (nt := nzT 195) [(0, .ref 1000001), (1, .ref 1), (2, .ref 137), (3, .ref 144), (4, .int (nI (4 * (kk + 1))))] (S, M2, J1) rfl (by rw [show nI (4 * (kk + 1)) = nI (4 * kk) + 4 from by rw [o_4, nI_add]; rfl]; rfl) rfl (hN M2 J1 _ _ hG (by have a0 : (mjT 170).1 = 1 := rfl; have b0 : (mjT 170).2 = 6 := rfl; have a1 : (mjT 121).1 = 0 := rfl; have b1 : (mjT 121).2 = 0 := rfl; have a2 : (mjT 98).1 = 0 := rfl; have b2 : (mjT 98).2 = 0 := rfl; omega) (by have a0 : (mjT 170).1 = 1 := rfl; have b0 : (mjT 170).2 = 6 := rfl; have a1 : (mjT 121).1 = 0 := rfl; have b1 : (mjT 121).2 = 0 := rfl; have a2 : (mjT 98).1 = 0 := rfl; have b2 : (mjT 98).2 = 0 := rfl; omega))
      · (have hz : (aApp n_ (xs (nI (4 * kk) + 1).toNatClampNeg)).1 = 0 := (n0 (by omega)).mp h2; have h_ := h3; exact absurd (cmp0.mpr (show J1 144 0 = v.toInt64 by rw [hv1 hz, mv hz])) h_)
  · (have h_ := h1; exact absurd m0 h_)
