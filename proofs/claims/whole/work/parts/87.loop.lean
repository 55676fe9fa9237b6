/-! THE LAW: its loop: written by wip/whole/pure3.py -/
theorem law_go {L kk : Nat} (hL : L ≤ 2048) (h : ¬ (nI L - 4 : Int32) < nI (4 * kk)) (hkk : kk ≤ 1000) : 4 * kk + 3 < L := by
  rcases Nat.lt_or_ge L 4 with g | g
  · have := pk_sneg (a := L) (b := 4) (by omega) g
    exact absurd (Int32.lt_of_lt_of_le this (nI_pos' (by omega))) h
  · rw [o_4, pk_sub g, nI_ltI (by omega) (by omega)] at h
    omega
theorem law_out {L kk : Nat} (hL : L ≤ 2048) (h : ¬ (nI L - 4 : Int32) < nI (4 * kk)) (hkk : kk ≤ 1000) (hf : L < 4 * kk) : False := by
  have := law_go hL h hkk
  omega
set_option maxRecDepth 100000 in
set_option maxHeartbeats 8000000 in
theorem L_law {S : Sc} {xs : Nat → Int32} {L : Nat} (hA : AllS S) (hL2 : L ≤ 2048) : ∀ (f kk : Nat) (M : Nat → Nat → Int32) (J : Nat → Nat → Int64) (nc ns : Nat), kk + f = 520 → LG (100000 + 1000 * kk) M → nc ≤ 1000 + kk → ns ≤ 100000 + 6 * kk → EE (SL xs L) (23, [(0, .ref 1000001), (1, .ref 1), (2, .ref 137), (3, .ref 144), (4, .int (nI (4 * kk)))], [], (S, M, J), nc, ns) := by
  intro f
  induction f with
  | zero =>
    intro kk M J nc ns hkk h hnc hns
    refine EE.runN (stop := noStop) 20 _ ?_
    refine ⟨fun _ => ?_, fun hgo => (law_out hL2 hgo (by omega) (by omega)).elim⟩
    exact ⟨⟨by omega, by omega⟩, rfl⟩
  | succ f ih =>
    intro kk M J nc ns hkk h hnc hns
    have hN : ∀ M' J' nc' ns', LG (100000 + 1000 * kk + 1000) M' → nc' ≤ nc + 1 → ns' ≤ ns + 6 → EE (SL xs L) (23, [(0, .ref 1000001), (1, .ref 1), (2, .ref 137), (3, .ref 144), (4, .int (nI (4 * (kk + 1))))], [], (S, M', J'), nc', ns') := fun M' J' nc' ns' g g1 g2 => ih (kk + 1) M' J' nc' ns' (by omega) (g.mono (by omega)) (by omega) (by omega)
    refine EE.runN (stop := atPc [23, 164, 220, 233, 246, 290, 346, 426, 482, 538, 594, 662, 718, 774, 842, 886, 954, 1022, 1078, 1134, 1178, 1246, 1290, 1346, 1426, 1439, 1539, 1639, 1695]) 40 _ ?_
    refine ⟨fun _ => ?_, fun hgo => ?_⟩
    · exact ⟨⟨by omega, by omega⟩, rfl⟩
    have hlt := law_go hL2 hgo (by omega)
    refine ⟨vp_in_nI (show 4 * kk < L by omega) (by omega), ?_⟩
    refine ⟨fun _ => ?_, fun _ => ?_⟩
    · exact K_0 hA h (by omega) (law_go hL2 hgo (by omega)) hL2 (by omega) (by omega) hN
    refine ⟨fun _ => ?_, fun _ => ?_⟩
    · exact K_1 hA h (by omega) (law_go hL2 hgo (by omega)) hL2 (by omega) (by omega) hN
    refine ⟨fun _ => ?_, fun _ => ?_⟩
    · exact K_2 hA h (by omega) (law_go hL2 hgo (by omega)) hL2 (by omega) (by omega) hN
    refine ⟨fun _ => ?_, fun _ => ?_⟩
    · exact K_3 hA h (by omega) (by omega) (law_go hL2 hgo (by omega)) hL2 (by omega) (by omega) hN
    refine ⟨fun _ => ?_, fun _ => ?_⟩
    · exact K_4 hA h (by omega) (law_go hL2 hgo (by omega)) hL2 (by omega) (by omega) hN
    refine ⟨fun _ => ?_, fun _ => ?_⟩
    · exact K_5 hA h (by omega) (law_go hL2 hgo (by omega)) hL2 (by omega) (by omega) hN
    refine ⟨fun _ => ?_, fun _ => ?_⟩
    · exact K_6 hA h (by omega) (law_go hL2 hgo (by omega)) hL2 (by omega) (by omega) hN
    refine ⟨fun _ => ?_, fun _ => ?_⟩
    · exact K_7 hA h (by omega) (law_go hL2 hgo (by omega)) hL2 (by omega) (by omega) hN
    refine ⟨fun _ => ?_, fun _ => ?_⟩
    · exact K_8 hA h (by omega) (law_go hL2 hgo (by omega)) hL2 (by omega) (by omega) hN
    refine ⟨fun _ => ?_, fun _ => ?_⟩
    · exact K_9 hA h (by omega) (law_go hL2 hgo (by omega)) hL2 (by omega) (by omega) hN
    refine ⟨fun _ => ?_, fun _ => ?_⟩
    · exact K_10 hA h (by omega) (law_go hL2 hgo (by omega)) hL2 (by omega) (by omega) hN
    refine ⟨fun _ => ?_, fun _ => ?_⟩
    · exact K_11 hA h (by omega) (law_go hL2 hgo (by omega)) hL2 (by omega) (by omega) hN
    refine ⟨fun _ => ?_, fun _ => ?_⟩
    · exact K_12 hA h (by omega) (law_go hL2 hgo (by omega)) hL2 (by omega) (by omega) hN
    refine ⟨fun _ => ?_, fun _ => ?_⟩
    · exact K_13 hA h (by omega) (law_go hL2 hgo (by omega)) hL2 (by omega) (by omega) hN
    refine ⟨fun _ => ?_, fun _ => ?_⟩
    · exact K_14 hA h (by omega) (law_go hL2 hgo (by omega)) hL2 (by omega) (by omega) hN
    refine ⟨fun _ => ?_, fun _ => ?_⟩
    · exact K_15 hA h (by omega) (law_go hL2 hgo (by omega)) hL2 (by omega) (by omega) hN
    refine ⟨fun _ => ?_, fun _ => ?_⟩
    · exact K_16 hA h (by omega) (law_go hL2 hgo (by omega)) hL2 (by omega) (by omega) hN
    refine ⟨fun _ => ?_, fun _ => ?_⟩
    · exact K_17 hA h (by omega) (law_go hL2 hgo (by omega)) hL2 (by omega) (by omega) hN
    refine ⟨fun _ => ?_, fun _ => ?_⟩
    · exact K_18 hA h (by omega) (law_go hL2 hgo (by omega)) hL2 (by omega) (by omega) hN
    refine ⟨fun _ => ?_, fun _ => ?_⟩
    · exact K_19 hA h (by omega) (law_go hL2 hgo (by omega)) hL2 (by omega) (by omega) hN
    refine ⟨fun _ => ?_, fun _ => ?_⟩
    · exact K_20 hA h (by omega) (law_go hL2 hgo (by omega)) hL2 (by omega) (by omega) hN
    refine ⟨fun _ => ?_, fun _ => ?_⟩
    · exact K_21 hA h (by omega) (law_go hL2 hgo (by omega)) hL2 (by omega) (by omega) hN
    refine ⟨fun _ => ?_, fun _ => ?_⟩
    · exact K_22 hA h (by omega) (law_go hL2 hgo (by omega)) hL2 (by omega) (by omega) hN
    refine ⟨fun _ => ?_, fun _ => ?_⟩
    · exact K_23 hA h (by omega) (law_go hL2 hgo (by omega)) hL2 (by omega) (by omega) hN
    refine ⟨fun _ => ?_, fun _ => ?_⟩
    · exact K_24 hA h (by omega) (law_go hL2 hgo (by omega)) hL2 (by omega) (by omega) hN
    refine ⟨fun _ => ?_, fun _ => ?_⟩
    · exact K_25 hA h (by omega) (law_go hL2 hgo (by omega)) hL2 (by omega) (by omega) hN
    refine ⟨fun _ => ?_, fun _ => ?_⟩
    · exact K_26 hA h (by omega) (law_go hL2 hgo (by omega)) hL2 (by omega) (by omega) hN
    refine ⟨fun _ => ?_, fun _ => ?_⟩
    · exact K_27 hA h (by omega) (law_go hL2 hgo (by omega)) hL2 (by omega) (by omega) hN
    refine ee_at (nt := nzT 195) [(0, .ref 1000001), (1, .ref 1), (2, .ref 137), (3, .ref 144), (4, .int (nI (4 * (kk + 1))))] (S, M, J) rfl (by rw [show nI (4 * (kk + 1)) = nI (4 * kk) + 4 from by rw [o_4, nI_add]; rfl]; rfl) rfl (hN M J _ _ (h.mono (by omega)) (by omega) (by omega))
