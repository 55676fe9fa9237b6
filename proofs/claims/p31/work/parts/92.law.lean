/-! THE LAW: its loop: written by wip/p31/law.py -/
theorem mjE : (mjT 62).1 = 220 ∧ (mjT 62).2 = 3800 ∧ (mjT 100).1 = 1 ∧ (mjT 100).2 = 6 ∧ (mjT 122).1 = 1 ∧ (mjT 122).2 = 6 ∧ (mjT 123).1 = 1 ∧ (mjT 123).2 = 6 ∧ (mjT 125).1 = 500 ∧ (mjT 125).2 = 3000 ∧ (mjT 126).1 = 700 ∧ (mjT 126).2 = 4200 ∧ (mjT 127).1 = 2400 ∧ (mjT 127).2 = 14400 ∧ (mjT 128).1 = 500 ∧ (mjT 128).2 = 3000 ∧ (mjT 130).1 = 130 ∧ (mjT 130).2 = 780 ∧ (mjT 131).1 = 1 ∧ (mjT 131).2 = 6 := ⟨rfl, rfl, rfl, rfl, rfl, rfl, rfl, rfl, rfl, rfl, rfl, rfl, rfl, rfl, rfl, rfl, rfl, rfl, rfl, rfl⟩
theorem vO_136 (M : Nat → Nat → Int32) (q : Nat) : vO (pbM 136 M) 4 q = vO M 140 q := by
  unfold vO pbM
  simp only [← Nat.add_assoc]
theorem dr_v (xs : Nat → Int32) (L : Nat) (k : Int32) : ∃ x, x < 2147483648 ∧ drV xs L k = nI x := by
  unfold drV
  obtain ⟨q, h1, h2⟩ := and_le (if Int32.ofNat L ≤ k then 15593239 * k + 10343 else xs k.toNatClampNeg) (m := 2147483647) (by omega)
  exact ⟨q, by omega, h2⟩
theorem load_V (a b : Nat) (T : Tx) : ∃ t, t ≤ 100000 ∧ Iv t (ldR (tellT a b T)).1 := by
  generalize tellT a b T = T'
  have h1 := mHS_v T'.1 T'.2
  have h2 : 1 ≤ (mHd3 T'.1 T'.2).2 ∧ (mHd3 T'.1 T'.2).2 ≤ 99 := mTwo_v (by omega) (by omega)
  have h3 : 10 ≤ (mHd4 T'.1 T'.2).2 ∧ (mHd4 T'.1 T'.2).2 ≤ 999 := mThree_v (by omega)
  obtain ⟨t, ht, hI⟩ := mLd_V (n := T'.1) (τ := T'.2) (sl := mHS T'.1 T'.2) h1.2 90 (s := (mHd4 T'.1 T'.2).1) (l := 0) (clean_V (ρ := fun _ => 0) h1.1 h1.2 h2.1 h2.2 h3.2) (by omega)
  exact ⟨t, by omega, hI⟩
section
variable {xs : Nat → Int32} {L : Nat} {S : Sc} {N : Nat → Nat → Int32} {J : Nat → Nat → Int64} {B : Nat} {T : Tx} {ρ : Rw} {P : Pst9} {V : Sav}
theorem l_draw {k nc ns : Nat} (hk : k < 54) (hnc : nc ≤ 600130) (hns : ns ≤ 7301080) (K : ∀ x y, x < 2147483648 → y < 2147483648 → EE (SL xs L) (85, [(6, .int (nI y)), (5, .int (nI x)), (0, .ref 1000001), (1, .ref 1), (2, .ref 137), (3, .int 1), (4, .int (nI k))], [], (S, N, J), nc, ns)) : EE (SL xs L) (52, [(0, .ref 1000001), (1, .ref 1), (2, .ref 137), (3, .int 1), (4, .int (nI k))], [], (S, N, J), nc, ns) := by
  obtain ⟨x, hx, ex⟩ := dr_v xs L (2 * nI k)
  obtain ⟨y, hy, ey⟩ := dr_v xs L (2 * nI k + 1)
  have k0 : ¬ (2 : Int32) * nI k < 0 := by
    rw [show (2 : Int32) = nI 2 from rfl, pk_mul]
    exact nI_pos (by omega)
  have k1 : ¬ (2 : Int32) * nI k + 1 < 0 := by
    rw [show (2 : Int32) = nI 2 from rfl, pk_mul, nI_1]
    exact nI_pos (by omega)
  refine EE.runN (stop := atPc [85]) 40 _ ?_
  refine ⟨fun z => absurd z (nI_ge (a := k) (b := 54) hk (by omega)), fun _ => ?_⟩
  refine ⟨fun z => absurd z (by decide), fun _ => ?_⟩
  refine ⟨rfl, k0, ⟨Nat.le_of_ble_eq_true rfl, hnc, hns⟩, ?_⟩
  refine ⟨rfl, k1, ⟨Nat.le_of_ble_eq_true rfl, hnc, hns⟩, ?_⟩
  refine ee_ls (ls := [(6, .int (drV xs L (2 * nI k + 1))), (5, .int (drV xs L (2 * nI k))), (0, .ref 1000001), (1, .ref 1), (2, .ref 137), (3, .int 1), (4, .int (nI k))]) [(6, .int (nI y)), (5, .int (nI x)), (0, .ref 1000001), (1, .ref 1), (2, .ref 137), (3, .int 1), (4, .int (nI k))] (by rw [ex, ey]) (K x y hx hy)
set_option maxRecDepth 100000 in
set_option maxHeartbeats 2000000 in
theorem l_load (hs : Scn 0 S) (hs2 : Scn 136 S) (hp : RI B T ρ P V (pbM 0 N)) (hq : RI B T ρ P V (pbM 136 N)) (hB : B < 900000) {k x y nc ns : Nat} (hk : k < 54) (hx : x < 2147483648) (hy : y < 2147483648) (hg : k % 27 = 0) (hB1 : 100000 ≤ B) (hnc : nc + 5000 ≤ 600130) (hns : ns + 30000 ≤ 7301080) (K : ∀ N' T' ρ' P' V' nc' ns', SI B ρ' P' V' → RI B T' ρ' P' V' (pbM 0 N') → RI B T' ρ' P' V' (pbM 136 N') → nc' ≤ nc + 300 → ns' ≤ ns + 1800 → EE (SL xs L) (52, [(0, .ref 1000001), (1, .ref 1), (2, .ref 137), (3, .int 1), (4, .int (nI (k + 1)))], [], (S, N', J), nc', ns')) : EE (SL xs L) (85, [(6, .int (nI y)), (5, .int (nI x)), (0, .ref 1000001), (1, .ref 1), (2, .ref 137), (3, .int 1), (4, .int (nI k))], [], (S, N, J), nc, ns) := by
  obtain ⟨g62, g62b, g100, g100b, g122, g122b, g123, g123b, g125, g125b, g126, g126b, g127, g127b, g128, g128b, g130, g130b, g131, g131b⟩ := mjE
  have e27 : nI k - nI k / 27 * 27 = nI (k % 27) := by
    rw [show (27 : Int32) = nI 27 from rfl, pk_div (by omega) (by omega) (by omega), pk_mul, pk_sub (by omega), show k - k / 27 * 27 = k % 27 by omega]
  obtain ⟨tl, htl, hIl⟩ := load_V x y T
  refine EE.runN (stop := atPc [52]) 120 _ ?_
  refine ⟨by decide, ?_⟩
  refine ⟨fun z => absurd (by rw [e27, hg]; rfl) z, fun _ => ?_⟩
  refine ⟨⟨Nat.le_of_ble_eq_true rfl, (by omega), (by omega)⟩, _, Z_tells (A := 0) (d := 0) hs hp (by omega) hx hy, ?_⟩
  rintro rs_ w1 ⟨N1, rfl, hF1, h1, rfl⟩
  have g1 := hq.frm hF1 (by omega)
  refine ⟨Or.inl rfl, ?_⟩
  refine ⟨fun z => absurd z (by decide), fun _ => ?_⟩
  refine ⟨⟨Nat.le_of_ble_eq_true rfl, (by omega), (by omega)⟩, _, Z_tells (A := 136) (d := 0) hs2 g1 (by omega) hx hy, ?_⟩
  rintro rs_ w1 ⟨N2, rfl, hF2, g2, rfl⟩
  have h2 := h1.frm hF2 (by omega)
  refine ⟨Or.inl rfl, ?_⟩
  refine ⟨fun z => absurd z (by decide), fun _ => ?_⟩
  refine ⟨⟨Nat.le_of_ble_eq_true rfl, (by omega), (by omega)⟩, _, X_load (A := 0) (d := 1) hs h2 (by omega) (tell_ok x y T).1 (B' := B) (hIl.2.1.mono (by omega)), ?_⟩
  rintro rs_ w1 ⟨N3, rfl, hF3, h3, rfl⟩
  have g3 := g2.frm hF3 (by omega)
  refine ⟨Or.inl rfl, ?_⟩
  refine ⟨⟨Nat.le_of_ble_eq_true rfl, (by omega), (by omega)⟩, _, X_load (A := 136) (d := 1) hs2 g3 (by omega) (tell_ok x y T).1 (B' := B) (hIl.2.1.mono (by omega)), ?_⟩
  rintro rs_ w1 ⟨N4, rfl, hF4, g4, rfl⟩
  have h4 := h3.frm hF4 (by omega)
  refine ⟨Or.inl rfl, ?_⟩
  refine ⟨fun z => absurd (cmp0.mpr rfl) z, fun _ => ?_⟩
  refine ee_at (nt := nzT 132) [(0, .ref 1000001), (1, .ref 1), (2, .ref 137), (3, .int 1), (4, .int (nI (k + 1)))] (S, N4, J) rfl (by rw [show nI (k + 1) = nI k + 1 from (nI_1 k).symm]; rfl) rfl ?_
  exact K N4 _ _ _ _ _ _ ⟨⟨tl, by omega, hIl⟩, fun i hi => absurd hi (Nat.not_lt_zero _), fun i hi z => (by cases z)⟩ h4 g4 (by omega) (by omega)
set_option maxRecDepth 100000 in
set_option maxHeartbeats 2000000 in
theorem l_act (hs : Scn 0 S) (hs2 : Scn 136 S) (hp : RI B T ρ P V (pbM 0 N)) (hq : RI B T ρ P V (pbM 136 N)) (hB : B < 900000) {k x y nc ns : Nat} (hk : k < 54) (hx : x < 2147483648) (hg : ¬ k % 27 = 0) (hSI : SI B ρ P V) (hnc : nc + 5000 ≤ 600130) (hns : ns + 30000 ≤ 7301080) (K : ∀ N' ρ' P' V' nc' ns', SI (B + 1000) ρ' P' V' → RI (B + 1000) T ρ' P' V' (pbM 0 N') → RI (B + 1000) T ρ' P' V' (pbM 136 N') → nc' ≤ nc + 2 → ns' ≤ ns + 12 → EE (SL xs L) (162, [(3, .int 1), (6, .int (nI y)), (5, .int (nI x)), (0, .ref 1000001), (1, .ref 1), (2, .ref 137), (4, .int (nI k))], [], (S, N', J), nc', ns')) : EE (SL xs L) (85, [(6, .int (nI y)), (5, .int (nI x)), (0, .ref 1000001), (1, .ref 1), (2, .ref 137), (3, .int 1), (4, .int (nI k))], [], (S, N, J), nc, ns) := by
  obtain ⟨g62, g62b, g100, g100b, g122, g122b, g123, g123b, g125, g125b, g126, g126b, g127, g127b, g128, g128b, g130, g130b, g131, g131b⟩ := mjE
  have e27 : nI k - nI k / 27 * 27 = nI (k % 27) := by
    rw [show (27 : Int32) = nI 27 from rfl, pk_div (by omega) (by omega) (by omega), pk_mul, pk_sub (by omega), show k - k / 27 * 27 = k % 27 by omega]
  obtain ⟨r, ρ', P', V', hA⟩ := act_all (d := 0) (S := S) (T := T) (x := nI x) (y := nI y) hSI (by omega) hx rfl
  refine EE.runN (stop := atPc [162]) 60 _ ?_
  refine ⟨by decide, ?_⟩
  refine ⟨fun _ => ?_, fun z => absurd ((nI_eq (by omega) (by omega)).mp (show nI (k % 27) = nI 0 from e27.symm.trans z)) hg⟩
  refine ⟨⟨Nat.le_of_ble_eq_true rfl, (by omega), (by omega)⟩, _, hA.2 0 N J hs hp, ?_⟩
  rintro rs_ w1 ⟨N1, rfl, hF1, h1, rfl⟩
  have g1 := hq.frm hF1 (by omega)
  refine ⟨Or.inl rfl, ?_⟩
  refine ⟨⟨Nat.le_of_ble_eq_true rfl, (by omega), (by omega)⟩, _, hA.2 136 N1 J hs2 g1, ?_⟩
  rintro rs_ w1 ⟨N2, rfl, hF2, g2, rfl⟩
  have h2 := h1.frm hF2 (by omega)
  refine ⟨Or.inl rfl, ?_⟩
  refine ⟨fun z => absurd (cmp0.mpr rfl) z, fun _ => ?_⟩
  exact K N2 ρ' P' V' _ _ hA.1 h2 g2 (by omega) (by omega)
set_option maxRecDepth 100000 in
set_option maxHeartbeats 2000000 in
theorem l_err (hs : Scn 0 S) (hs2 : Scn 136 S) (hp : RI B T ρ P V (pbM 0 N)) (hq : RI B T ρ P V (pbM 136 N)) (hB : B < 900000) {k x y nc ns : Nat} (hk : k < 54) (hSI : SI B ρ P V) (hnc : nc + 5000 ≤ 600130) (hns : ns + 30000 ≤ 7301080) (K : ∀ N' nc' ns', RI B T ρ P V (pbM 0 N') → RI B T ρ P V (pbM 136 N') → nc' ≤ nc + 1200 → ns' ≤ ns + 7200 → EE (SL xs L) (193, [(3, .int 1), (6, .int (nI y)), (5, .int (nI x)), (0, .ref 1000001), (1, .ref 1), (2, .ref 137), (4, .int (nI k))], [], (S, N', J), nc', ns')) : EE (SL xs L) (162, [(3, .int 1), (6, .int (nI y)), (5, .int (nI x)), (0, .ref 1000001), (1, .ref 1), (2, .ref 137), (4, .int (nI k))], [], (S, N, J), nc, ns) := by
  obtain ⟨g62, g62b, g100, g100b, g122, g122b, g123, g123b, g125, g125b, g126, g126b, g127, g127b, g128, g128b, g130, g130b, g131, g131b⟩ := mjE
  have e5 : nI k - nI k / 5 * 5 = nI (k % 5) := by
    rw [show (5 : Int32) = nI 5 from rfl, pk_div (by omega) (by omega) (by omega), pk_mul, pk_sub (by omega), show k - k / 5 * 5 = k % 5 by omega]
  obtain ⟨⟨t, ht, hI⟩, -⟩ := id hSI
  refine EE.runN (stop := atPc [193]) 60 _ ?_
  refine ⟨by decide, ?_⟩
  rcases Nat.eq_zero_or_pos (k % 5) with g0 | g0
  · refine ⟨fun z => absurd (by rw [e5, g0]; rfl) z, fun _ => ?_⟩
    refine ⟨fun z => absurd z (by decide), fun _ => ?_⟩
    refine ⟨⟨Nat.le_of_ble_eq_true rfl, (by omega), (by omega)⟩, _, Z_errors (A := 136) (d := 0) hs2 hq (by omega), ?_⟩
    rintro rs_ w1 ⟨N1, rfl, hF1, g1, rfl⟩
    have h1 := hp.frm hF1 (by omega)
    refine ⟨Or.inl rfl, ?_⟩
    refine ⟨fun z => absurd z (by decide), fun _ => ?_⟩
    refine ⟨⟨Nat.le_of_ble_eq_true rfl, (by omega), (by omega)⟩, _, Z_kept (A := 136) (d := 0) hs2 g1 (by omega) hI (by omega), ?_⟩
    rintro rs_ w1 ⟨N2, rfl, hF2, g2, rfl⟩
    have h2 := h1.frm hF2 (by omega)
    refine ⟨Or.inl rfl, ?_⟩
    refine ⟨fun z => absurd z (by decide), fun _ => ?_⟩
    exact K N2 _ _ h2 g2 (by omega) (by omega)
  · refine ⟨fun _ => ?_, fun z => absurd ((nI_eq (by omega) (by omega)).mp (show nI (k % 5) = nI 0 from e5.symm.trans z)) (by omega)⟩
    exact K N _ _ hp hq (by omega) (by omega)
set_option maxRecDepth 100000 in
set_option maxHeartbeats 2000000 in
theorem l_fol (hs : Scn 0 S) (hs2 : Scn 136 S) (hp : RI B T ρ P V (pbM 0 N)) (hq : RI B T ρ P V (pbM 136 N)) (hB : B < 900000) {k x y nc ns : Nat} (hk : k < 54) (hy : y < 2147483648) (hSI : SI B ρ P V) (hnc : nc + 5000 ≤ 600130) (hns : ns + 30000 ≤ 7301080) (K : ∀ N' P' V' nc' ns', SI (B + 8000) ρ P' V' → RI (B + 8000) T ρ P' V' (pbM 0 N') → RI (B + 8000) T ρ P' V' (pbM 136 N') → nc' ≤ nc + 2402 → ns' ≤ ns + 14412 → EE (SL xs L) (242, [(3, .int 1), (6, .int (nI y)), (5, .int (nI x)), (0, .ref 1000001), (1, .ref 1), (2, .ref 137), (4, .int (nI k))], [], (S, N', J), nc', ns')) : EE (SL xs L) (193, [(3, .int 1), (6, .int (nI y)), (5, .int (nI x)), (0, .ref 1000001), (1, .ref 1), (2, .ref 137), (4, .int (nI k))], [], (S, N, J), nc, ns) := by
  obtain ⟨g62, g62b, g100, g100b, g122, g122b, g123, g123b, g125, g125b, g126, g126b, g127, g127b, g128, g128b, g130, g130b, g131, g131b⟩ := mjE
  have e9 : nI k - nI k / 9 * 9 = nI (k % 9) := by
    rw [show (9 : Int32) = nI 9 from rfl, pk_div (by omega) (by omega) (by omega), pk_mul, pk_sub (by omega), show k - k / 9 * 9 = k % 9 by omega]
  obtain ⟨⟨t, ht, hI⟩, -⟩ := id hSI
  refine EE.runN (stop := atPc [242]) 60 _ ?_
  refine ⟨by decide, ?_⟩
  by_cases g0 : k % 9 = 8
  · refine ⟨fun z => absurd (by rw [e9, g0]; rfl) z, fun _ => ?_⟩
    refine ⟨fun z => absurd z (by decide), fun _ => ?_⟩
    refine ⟨⟨Nat.le_of_ble_eq_true rfl, (by omega), (by omega)⟩, _, Z_follows (A := 136) (d := 0) hs2 hq (by omega) hI (by omega) hy, ?_⟩
    rintro rs_ w1 ⟨N1, P1, rfl, hF1, g1, rfl⟩
    have h1 := hp.frm hF1 (by omega)
    refine ⟨Or.inl rfl, ?_⟩
    refine ⟨fun z => absurd z (by decide), fun _ => ?_⟩
    refine ⟨⟨Nat.le_of_ble_eq_true rfl, (by omega), (by omega)⟩, _, U_save (A := 0) (d := 1) hs h1 (by omega) hI.1 (by omega), ?_⟩
    rintro rs_ w1 ⟨N2, rfl, hF2, h2, rfl⟩
    have g2 := g1.frm hF2 (by omega)
    refine ⟨Or.inl rfl, ?_⟩
    refine ⟨fun z => absurd (lcmp_lt.mp z) (by rw [show (0 : Int64) = lz 0 from rfl, lz_lt (by omega) (by omega) (by omega) (by omega)]; omega), fun _ => ?_⟩
    refine ⟨⟨Nat.le_of_ble_eq_true rfl, (by omega), (by omega)⟩, _, U_rest (A := 0) (d := 1) hs h2 (by omega) hI.1 (by omega), ?_⟩
    rintro rs_ w1 ⟨N3, rfl, hF3, h3, rfl⟩
    have g3 := g2.frm hF3 (by omega)
    refine ⟨Or.inl rfl, ?_⟩
    refine ⟨fun z => absurd (lcmp_lt.mp z) (by rw [show (0 : Int64) = lz 0 from rfl, lz_lt (by omega) (by omega) (by omega) (by omega)]; omega), fun _ => ?_⟩
    have hS2 := (hSI.keep (x := 1)).mono (show B ≤ B + 8000 by omega)
    exact K N3 (0, P.2) (keep V 1 ρ) _ _ ⟨hS2.1, fun i hi => absurd hi (Nat.not_lt_zero _), hS2.2.2⟩ (h3.mono (by omega)) (g3.zero.mono (by omega)) (by omega) (by omega)
  · refine ⟨fun _ => ?_, fun z => absurd ((nI_eq (by omega) (by omega)).mp (show nI (k % 9) = nI 8 from e9.symm.trans z)) g0⟩
    exact K N P V _ _ (hSI.mono (by omega)) (hp.mono (by omega)) (hq.mono (by omega)) (by omega) (by omega)
set_option maxRecDepth 100000 in
set_option maxHeartbeats 2000000 in
theorem l_alk (hs : Scn 0 S) (hs2 : Scn 136 S) (hp : RI B T ρ P V (pbM 0 N)) (hq : RI B T ρ P V (pbM 136 N)) (hB : B < 900000) {k x y nc ns : Nat} (hk : k < 54)  (hnc : nc + 5000 ≤ 600130) (hns : ns + 30000 ≤ 7301080) (K : ∀ N' nc' ns', RI B T ρ P V (pbM 0 N') → RI B T ρ P V (pbM 136 N') → nc' ≤ nc + 500 → ns' ≤ ns + 3000 → EE (SL xs L) (52, [(0, .ref 1000001), (1, .ref 1), (2, .ref 137), (3, .int 1), (4, .int (nI (k + 1)))], [], (S, N', J), nc', ns')) : EE (SL xs L) (242, [(3, .int 1), (6, .int (nI y)), (5, .int (nI x)), (0, .ref 1000001), (1, .ref 1), (2, .ref 137), (4, .int (nI k))], [], (S, N, J), nc, ns) := by
  obtain ⟨g62, g62b, g100, g100b, g122, g122b, g123, g123b, g125, g125b, g126, g126b, g127, g127b, g128, g128b, g130, g130b, g131, g131b⟩ := mjE
  have e6 : nI k - nI k / 6 * 6 = nI (k % 6) := by
    rw [show (6 : Int32) = nI 6 from rfl, pk_div (by omega) (by omega) (by omega), pk_mul, pk_sub (by omega), show k - k / 6 * 6 = k % 6 by omega]
  refine EE.runN (stop := atPc [52]) 60 _ ?_
  refine ⟨fun z => absurd z (by decide), fun _ => ?_⟩
  refine ⟨by decide, ?_⟩
  rcases Nat.eq_zero_or_pos (k % 6) with g0 | g0
  · refine ⟨fun z => absurd z (by rw [e6, g0]; decide), fun _ => ?_⟩
    refine ⟨⟨Nat.le_of_ble_eq_true rfl, (by omega), (by omega)⟩, _, Z_alike (A := 0) (A2 := 136) (d := 0) hs hs2 (by omega) hp hq (by omega), ?_⟩
    rintro rs_ w1 ⟨N1, rfl, h1, g1, rfl⟩
    refine ⟨Or.inl rfl, ?_⟩
    refine ⟨fun z => absurd z (by decide), fun _ => ?_⟩
    refine ee_at (nt := nzT 132) [(0, .ref 1000001), (1, .ref 1), (2, .ref 137), (3, .int 1), (4, .int (nI (k + 1)))] (S, N1, J) rfl (by rw [show nI (k + 1) = nI k + 1 from (nI_1 k).symm]; rfl) rfl ?_
    exact K N1 _ _ h1 g1 (by omega) (by omega)
  · refine ⟨fun _ => ?_, fun z => absurd (by rw [e6, show (0 : Int32) = nI 0 from rfl, nI_ltI (by omega) (by omega)]; omega) z⟩
    refine ee_at (nt := nzT 132) [(0, .ref 1000001), (1, .ref 1), (2, .ref 137), (3, .int 1), (4, .int (nI (k + 1)))] (S, N, J) rfl (by rw [show nI (k + 1) = nI k + 1 from (nI_1 k).symm]; rfl) rfl ?_
    exact K N _ _ hp hq (by omega) (by omega)
set_option maxRecDepth 100000 in
set_option maxHeartbeats 2000000 in
theorem l_end (hs : Scn 0 S) (hs2 : Scn 136 S) (hp : RI B T ρ P V (pbM 0 N)) (hq : RI B T ρ P V (pbM 136 N)) (hB : B < 900000) {nc ns : Nat} (hnc : nc + 5000 ≤ 600130) (hns : ns + 30000 ≤ 7301080) : EE (SL xs L) (52, [(0, .ref 1000001), (1, .ref 1), (2, .ref 137), (3, .int 1), (4, .int (nI 54))], [], (S, N, J), nc, ns) := by
  obtain ⟨g62, g62b, g100, g100b, g122, g122b, g123, g123b, g125, g125b, g126, g126b, g127, g127b, g128, g128b, g130, g130b, g131, g131b⟩ := mjE
  refine EE.runN (stop := noStop) 60 _ ?_
  refine ⟨fun _ => ?_, fun z => absurd (Int32.le_refl _) z⟩
  refine ⟨fun z => absurd z (by decide), fun _ => ?_⟩
  refine ⟨⟨Nat.le_of_ble_eq_true rfl, (by omega), (by omega)⟩, _, Z_alike (A := 0) (A2 := 136) (d := 0) hs hs2 (by omega) hp hq (by omega), ?_⟩
  rintro rs_ w1 ⟨N1, rfl, h1, g1, rfl⟩
  refine ⟨Or.inl rfl, ?_⟩
  refine ⟨fun z => absurd z (by decide), fun _ => ?_⟩
  exact ⟨⟨by omega, by omega⟩, rfl⟩
set_option maxRecDepth 100000 in
theorem L_law (hs : Scn 0 S) (hs2 : Scn 136 S) : ∀ (f k : Nat) (N : Nat → Nat → Int32) (B nc ns : Nat) (T : Tx) (ρ : Rw) (P : Pst9) (V : Sav), k + f = 54 → B = 100000 + 10000 * k → SI B ρ P V → RI B T ρ P V (pbM 0 N) → RI B T ρ P V (pbM 136 N) → nc ≤ 3000 + 5000 * k → ns ≤ 30000 + 30000 * k → EE (SL xs L) (52, [(0, .ref 1000001), (1, .ref 1), (2, .ref 137), (3, .int 1), (4, .int (nI k))], [], (S, N, J), nc, ns)
  | 0, k, N, B, nc, ns, T, ρ, P, V, hk, hB, hSI, hp, hq, hnc, hns => by
    have hk : k = 54 := by omega
    subst hk
    exact l_end hs hs2 hp hq (by omega) (by omega) (by omega)
  | f + 1, k, N, B, nc, ns, T, ρ, P, V, hk, hB, hSI, hp, hq, hnc, hns => by
    refine l_draw (by omega) (by omega) (by omega) (fun x y hx hy => ?_)
    by_cases g : k % 27 = 0
    · refine l_load hs hs2 hp hq (by omega) (by omega) hx hy g (by omega) (by omega) (by omega) (fun N1 T1 ρ1 P1 V1 nc1 ns1 hS1 h1 g1 hc1 hn1 => ?_)
      have b1 : nc1 ≤ 3000 + 5000 * (k + 1) := by omega
      have b2 : ns1 ≤ 30000 + 30000 * (k + 1) := by omega
      have b3 : B ≤ 100000 + 10000 * (k + 1) := by omega
      exact L_law hs hs2 f (k + 1) N1 (100000 + 10000 * (k + 1)) nc1 ns1 T1 ρ1 P1 V1 (by omega) rfl (hS1.mono b3) (h1.mono b3) (g1.mono b3) b1 b2
    · refine l_act hs hs2 hp hq (by omega) (by omega) hx g hSI (by omega) (by omega) (fun N1 ρ1 P1 V1 nc1 ns1 hS1 h1 g1 hc1 hn1 => ?_)
      refine l_err hs hs2 h1 g1 (by omega) (by omega) hS1 (by omega) (by omega) (fun N2 nc2 ns2 h2 g2 hc2 hn2 => ?_)
      refine l_fol hs hs2 h2 g2 (by omega) (by omega) hy hS1 (by omega) (by omega) (fun N3 P3 V3 nc3 ns3 hS3 h3 g3 hc3 hn3 => ?_)
      refine l_alk hs hs2 h3 g3 (by omega) (by omega) (by omega) (by omega) (fun N4 nc4 ns4 h4 g4 hc4 hn4 => ?_)
      have b1 : nc4 ≤ 3000 + 5000 * (k + 1) := by omega
      have b2 : ns4 ≤ 30000 + 30000 * (k + 1) := by omega
      have b3 : B + 1000 + 8000 ≤ 100000 + 10000 * (k + 1) := by omega
      exact L_law hs hs2 f (k + 1) N4 (100000 + 10000 * (k + 1)) nc4 ns4 T ρ1 P3 V3 (by omega) rfl (hS3.mono b3) (h4.mono b3) (g4.mono b3) b1 b2
end
set_option maxRecDepth 100000 in
set_option maxHeartbeats 8000000 in
theorem law_ok {xs : Nat → Int32} {L : Nat} : LawOk xs L := by
  obtain ⟨g62, g62b, g100, g100b, g122, g122b, g123, g123b, g125, g125b, g126, g126b, g127, g127b, g128, g128b, g130, g130b, g131, g131b⟩ := mjE
  refine EE.runN (stop := atPc [52]) 120 _ ?_
  refine ⟨⟨Nat.le_of_ble_eq_true rfl, Nat.le_of_ble_eq_true rfl, (by exact Nat.le_of_ble_eq_true rfl), ⟨fs0, (fl1 (Or.inr (by exact Nat.le_of_ble_eq_true rfl)) fl0)⟩⟩, ?_⟩
  refine ⟨⟨Nat.le_of_ble_eq_true rfl, Nat.le_of_ble_eq_true rfl, Nat.le_of_ble_eq_true rfl⟩, by (first | rfl | exact Nat.le_of_ble_eq_true rfl | (exact upA_s _ _ _)), _, T_i62 (S := alS (0, fun _ => 99, fun _ => 0, fun _ _ => 0) 6 0) rfl rfl, ?_⟩
  rintro _ w1 ⟨rfl, S1, M1, J1, rfl, ⟨hRg, n1⟩, ⟨σ, hσ⟩, m2, m3, m18, m122⟩
  obtain ⟨n1_, kd, ln, rf⟩ := S1
  have n1 : n1_ = 136 := n1
  subst n1
  refine ⟨Or.inr ⟨fs1 (Or.inl (by exact Nat.le_of_ble_eq_true rfl)) fs0, fl1 (Or.inr (by exact Nat.le_of_ble_eq_true rfl)) fl0⟩, ?_⟩
  refine ⟨⟨Nat.le_of_ble_eq_true rfl, Nat.le_of_ble_eq_true rfl, (by exact Nat.le_of_ble_eq_true rfl), ⟨fs0, (fl1 (Or.inl (by exact Nat.le_of_ble_eq_true rfl)) (fl1 (Or.inr (by exact Nat.le_of_ble_eq_true rfl)) fl0))⟩⟩, ?_⟩
  refine ⟨⟨Nat.le_of_ble_eq_true rfl, Nat.le_of_ble_eq_true rfl, Nat.le_of_ble_eq_true rfl⟩, by (first | rfl | exact Nat.le_of_ble_eq_true rfl | (exact upA_s _ _ _)), _, T_i62b (S := alS (136, kd, ln, rf) 6 0) rfl (by show upA kd (136 + 1) 6 137 = 6; exact upA_e rfl), ?_⟩
  rintro _ w1 ⟨rfl, S2, M2, J2, rfl, ⟨hRg2, n2⟩, ⟨σ2, hσ2⟩, q2, q3, q18, q122, hlo⟩
  obtain ⟨n2_, kd2, ln2, rf2⟩ := S2
  have n2 : n2_ = 272 := n2
  subst n2
  have lo : ∀ o, o < 137 → kd2 o = kd o ∧ ln2 o = ln o ∧ rf2 o = rf o ∧ M2 o = M1 o := fun o ho => by
    obtain ⟨x1, x2, x3, x4⟩ := hlo o ho
    exact ⟨x1.trans (upA_n _ _ (by show o ≠ 137; omega)), x2.trans (upA_n _ _ (by show o ≠ 137; omega)), x3.trans (upA_n _ _ (by show o ≠ 137; omega)), x4.trans (upA_n _ _ (by show o ≠ 137; omega))⟩
  have hs : Scn 0 (272, kd2, ln2, rf2) := ⟨RgT_pb (RgS_T (RgS_cg hRg (fun o ho => ⟨(lo o ho).1, (lo o ho).2.1, (lo o ho).2.2.1⟩))), by omega⟩
  have hs2 : Scn 136 (272, kd2, ln2, rf2) := ⟨RgT_pb hRg2, by omega⟩
  have e0 : ∀ c, c < 137 → pbM 0 M2 c = M1 c := fun c hc => by
    show M2 (0 + c) = _
    rw [Nat.zero_add]
    exact (lo c hc).2.2.2
  have hp : RI 100000 (0, fun _ => 0) ρ00 (0, fun _ => ρ00) (fun _ => false, fun _ => ρ00) (pbM 0 M2) := by
    refine RI_00 (σ := σ) (fun q hq => ?_) (fun q => ?_) (fun q => ?_) (fun q => ?_) (fun q => ?_)
    · rw [vO_eqv (M := M1) (M' := pbM 0 M2) (b := 4) (fun o k z1 z2 => by rw [e0 o (by omega)]) q]
      exact hσ q hq
    · rw [e0 2 (by omega)]
      exact m2 q
    · rw [e0 3 (by omega)]
      exact m3 q
    · rw [e0 18 (by omega)]
      exact m18 q
    · rw [e0 122 (by omega)]
      exact m122 q
  have hq : RI 100000 (0, fun _ => 0) ρ00 (0, fun _ => ρ00) (fun _ => false, fun _ => ρ00) (pbM 136 M2) := RI_00 (σ := σ2) (fun q hq => by rw [← hσ2 q hq]; exact vO_136 M2 q) q2 q3 q18 q122
  have hSI : SI 100000 ρ00 (0, fun _ => ρ00) (fun _ => false, fun _ => ρ00) := ⟨⟨0, by omega, Iv_00⟩, fun i hi => absurd hi (Nat.not_lt_zero _), fun k hk z => (by cases z)⟩
  refine ⟨Or.inr ⟨fs1 (Or.inl (by exact Nat.le_of_ble_eq_true rfl)) fs0, fl1 (Or.inl (by exact Nat.le_of_ble_eq_true rfl)) (fl1 (Or.inr (by exact Nat.le_of_ble_eq_true rfl)) fl0)⟩, ?_⟩
  refine ⟨rfl, by decide, ⟨Nat.le_of_ble_eq_true rfl, Nat.le_of_ble_eq_true rfl, Nat.le_of_ble_eq_true rfl⟩, ?_⟩
  refine ⟨⟨Nat.le_of_ble_eq_true rfl, Nat.le_of_ble_eq_true rfl, Nat.le_of_ble_eq_true rfl⟩, _, Z_alike (A := 0) (A2 := 136) (d := 0) hs hs2 (by omega) hp hq (by omega), ?_⟩
  rintro rs_ w1 ⟨N1, rfl, h1, g1, rfl⟩
  refine ⟨Or.inl rfl, ?_⟩
  refine ⟨fun z => absurd z (by decide), fun _ => ?_⟩
  refine ⟨⟨Nat.le_of_ble_eq_true rfl, Nat.le_of_ble_eq_true rfl, Nat.le_of_ble_eq_true rfl⟩, _, Z_errors (A := 0) (d := 0) hs h1 (by omega), ?_⟩
  rintro rs_ w1 ⟨N2, rfl, hF2, h2, rfl⟩
  have g2 := g1.frm hF2 (by omega)
  refine ⟨Or.inl rfl, ?_⟩
  refine ⟨fun z => absurd z (by decide), fun _ => ?_⟩
  refine ⟨⟨Nat.le_of_ble_eq_true rfl, Nat.le_of_ble_eq_true rfl, Nat.le_of_ble_eq_true rfl⟩, _, Z_kept (A := 0) (d := 0) hs h2 (by omega) Iv_00 (by omega), ?_⟩
  rintro rs_ w1 ⟨N3, rfl, hF3, h3, rfl⟩
  have g3 := g2.frm hF3 (by omega)
  refine ⟨Or.inl rfl, ?_⟩
  refine ⟨fun z => absurd z (by decide), fun _ => ?_⟩
  refine ee_at (nt := nzT 132) [(0, .ref 1000001), (1, .ref 1), (2, .ref 137), (3, .int 1), (4, .int (nI 0))] ((272, kd2, ln2, rf2), N3, J2) rfl rfl rfl ?_
  exact L_law hs hs2 54 0 N3 100000 _ _ _ ρ00 _ _ rfl rfl hSI h3 g3 (by exact Nat.le_of_ble_eq_true rfl) (by exact Nat.le_of_ble_eq_true rfl)
