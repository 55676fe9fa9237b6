/-! THE LAW: now -/
section
variable {A d : Nat} {S : Sc} {J : Nat → Nat → Int64} {B : Nat} {T : Tx} {ρ : Rw} {P : Pst9} {V : Sav} {Q : Res → Wd → Prop}
theorem L_now1 (hs : Scn A S) (hB : B < 990000) (N0 : Nat → Nat → Int32) : ∀ (f k : Nat) (N : Nat → Nat → Int32) (nc ns : Nat), k + f = 15 → Frm A N0 N → RI B T ρ P V (pbM A N) → nc + f ≤ 15 → ns + 6 * f ≤ 90 → (∀ N' nc' ns', Frm A N0 N' → RI B T ρ P V (pbM A N') → nc' ≤ 15 → ns' ≤ 90 → EE (SJ (d + 10) 124 (Wp (d + 9)) Q) (32, [(0, .ref (A + 1)), (1, .long (n1 ρ 15)), (3, .int (nI 0))], [], (S, N', J), nc', ns')) → EE (SJ (d + 10) 124 (Wp (d + 9)) Q) (6, [(0, .ref (A + 1)), (1, .long (n1 ρ k)), (3, .int (nI k))], [], (S, N, J), nc, ns)
  | 0, k, N, nc, ns, hk, hF, h, hc, hn, K => by
    have hk : k = 15 := by omega
    subst hk
    refine EE.runN (stop := atPc [32]) 20 _ ?_
    refine ⟨fun _ => ?_, fun z => absurd (Int32.le_refl _) z⟩
    refine ee_at (nt := nzT 124) [(0, .ref (A + 1)), (1, .long (n1 ρ 15)), (3, .int (nI 0))] (S, N, J) rfl rfl rfl ?_
    exact K N nc ns hF h (by omega) (by omega)
  | f + 1, k, N, nc, ns, hk, hF, h, hc, hn, K => by
    have a0 : (mjT 101).1 = 1 := rfl
    have b0 : (mjT 101).2 = 6 := rfl
    have a1 : (mjT 124).1 = 200 := rfl
    have b1 : (mjT 124).2 = 1200 := rfl
    refine EE.runN (stop := atPc [6]) 30 _ ?_
    refine ⟨fun z => absurd z (nI_ge (a := k) (b := 15) (by omega) (by omega)), fun _ => ?_⟩
    refine ⟨⟨Nat.le_of_ble_eq_true rfl, (by omega), (by omega)⟩, _, X_about hs h hB, ?_⟩
    rintro rs_ w1 ⟨N1, rfl, hF1, h1, rfl⟩
    refine ⟨Or.inl rfl, ?_⟩
    refine ee_at (nt := nzT 124) [(0, .ref (A + 1)), (1, .long (n1 ρ (k + 1))), (3, .int (nI (k + 1)))] (S, N1, J) rfl (by rw [← nI_1]; rfl) rfl ?_
    exact L_now1 hs hB N0 f (k + 1) N1 _ _ (by omega) (hF.tr hF1) h1 (by omega) (by omega) K
theorem lt3 {n k : Nat} (hn : n ≤ 12) (hk : k ≤ 36) : 0 ≤ lg_cmp (nI k).toInt64 (3 * lz n) ↔ 3 * n ≤ k := by
  rw [lcmp_ge, show (3 : Int64) = lz 3 from rfl, lz_mul, lz_n (by omega), lz_le (by omega) (by omega) (by omega) (by omega)]
  omega
theorem L_now2 (hs : Scn A S) (hB : B < 990000) (N0 : Nat → Nat → Int32) {n : Nat} (h0 : ρ 0 = nI n) (hn : n ≤ 12) : ∀ (f k : Nat) (N : Nat → Nat → Int32) (nc ns : Nat), k + f = 3 * n → Frm A N0 N → RI B T ρ P V (pbM A N) → nc + 3 * f + 1 ≤ 130 → ns + 18 * f + 6 ≤ 780 → (∀ N' nc' ns', Frm A N0 N' → RI B T ρ P V (pbM A N') → nc' ≤ 130 → ns' ≤ 780 → EE (SJ (d + 10) 124 (Wp (d + 9)) Q) (89, [(0, .ref (A + 1)), (1, .long (n2 ρ (3 * n))), (3, .int (nI 0))], [], (S, N', J), nc', ns')) → EE (SJ (d + 10) 124 (Wp (d + 9)) Q) (32, [(0, .ref (A + 1)), (1, .long (n2 ρ k)), (3, .int (nI k))], [], (S, N, J), nc, ns)
  | 0, k, N, nc, ns, hk, hF, h, hc, hn', K => by
    have a0 : (mjT 101).1 = 1 := rfl
    have b0 : (mjT 101).2 = 6 := rfl
    have a1 : (mjT 124).1 = 200 := rfl
    have b1 : (mjT 124).2 = 1200 := rfl
    have hk : k = 3 * n := by omega
    subst hk
    refine EE.runN (stop := atPc [89]) 30 _ ?_
    refine ⟨⟨Nat.le_of_ble_eq_true rfl, (by omega), (by omega)⟩, _, X_about hs h hB, ?_⟩
    rintro rs_ w1 ⟨N1, rfl, hF1, h1, hr⟩
    have hr : rs_ = .inl (some (.long (ab ρ 0))) := hr
    rw [ab_0 h0 hn] at hr
    subst hr
    refine ⟨Or.inl rfl, ?_⟩
    refine ⟨fun _ => ?_, fun z => absurd ((lt3 hn (by omega)).mpr (Nat.le_refl _)) z⟩
    refine ee_at (nt := nzT 124) [(0, .ref (A + 1)), (1, .long (n2 ρ (3 * n))), (3, .int (nI 0))] (S, N1, J) rfl rfl rfl ?_
    exact K N1 _ _ (hF.tr hF1) h1 (by omega) (by omega)
  | f + 1, k, N, nc, ns, hk, hF, h, hc, hn', K => by
    have a0 : (mjT 101).1 = 1 := rfl
    have b0 : (mjT 101).2 = 6 := rfl
    have a2 : (mjT 102).1 = 1 := rfl
    have b2 : (mjT 102).2 = 6 := rfl
    have a1 : (mjT 124).1 = 200 := rfl
    have b1 : (mjT 124).2 = 1200 := rfl
    refine EE.runN (stop := atPc [32]) 60 _ ?_
    refine ⟨⟨Nat.le_of_ble_eq_true rfl, (by omega), (by omega)⟩, _, X_about hs h hB, ?_⟩
    rintro rs_ w1 ⟨N1, rfl, hF1, h1, hr⟩
    have hr : rs_ = .inl (some (.long (ab ρ 0))) := hr
    rw [ab_0 h0 hn] at hr
    subst hr
    refine ⟨Or.inl rfl, ?_⟩
    refine ⟨fun z => absurd ((lt3 hn (by omega)).mp z) (by omega), fun _ => ?_⟩
    refine ⟨by decide, by decide, ⟨Nat.le_of_ble_eq_true rfl, (by omega), (by omega)⟩, _, X_cell hs h1 hB, ?_⟩
    rintro rs_ w1 ⟨N2, rfl, hF2, h2, rfl⟩
    refine ⟨Or.inl rfl, ?_⟩
    refine ⟨by decide, by decide, ⟨Nat.le_of_ble_eq_true rfl, (by omega), (by omega)⟩, _, X_cell hs h2 hB, ?_⟩
    rintro rs_ w1 ⟨N3, rfl, hF3, h3, rfl⟩
    refine ⟨Or.inl rfl, ?_⟩
    refine ee_at (nt := nzT 124) [(0, .ref (A + 1)), (1, .long (n2 ρ (k + 1))), (3, .int (nI (k + 1)))] (S, N3, J) rfl (by rw [← nI_1]; rfl) rfl ?_
    exact L_now2 hs hB N0 h0 hn f (k + 1) N3 _ _ (by omega) (((hF.tr hF1).tr hF2).tr hF3) h3 (by omega) (by omega) K
theorem lt1' {m k : Nat} (hm : m ≤ 12) (hk : k ≤ 36) : 0 ≤ lg_cmp (nI k).toInt64 (lz m) ↔ m ≤ k := by
  rw [lcmp_ge, lz_n (by omega), lz_le (by omega) (by omega) (by omega) (by omega)]
  omega
theorem L_now3 (hs : Scn A S) (hB : B < 990000) (N0 : Nat → Nat → Int32) {n m : Nat} (h17 : ρ 17 = nI m) (hm : m ≤ 12) : ∀ (f k : Nat) (N : Nat → Nat → Int32) (nc ns : Nat), k + f = m → Frm A N0 N → RI B T ρ P V (pbM A N) → nc + 4 * f + 1 ≤ 190 → ns + 24 * f + 6 ≤ 1140 → (∀ N' nc' ns', Frm A N0 N' → RI B T ρ P V (pbM A N') → nc' ≤ 190 → ns' ≤ 1140 → EE (SJ (d + 10) 124 (Wp (d + 9)) Q) (142, [(0, .ref (A + 1)), (1, .long (n3 ρ n m)), (3, .int (nI m))], [], (S, N', J), nc', ns')) → EE (SJ (d + 10) 124 (Wp (d + 9)) Q) (89, [(0, .ref (A + 1)), (1, .long (n3 ρ n k)), (3, .int (nI k))], [], (S, N, J), nc, ns)
  | 0, k, N, nc, ns, hk, hF, h, hc, hn', K => by
    have a0 : (mjT 101).1 = 1 := rfl
    have b0 : (mjT 101).2 = 6 := rfl
    have a1 : (mjT 124).1 = 200 := rfl
    have b1 : (mjT 124).2 = 1200 := rfl
    have hk : k = m := by omega
    subst hk
    refine EE.runN (stop := atPc [142]) 30 _ ?_
    refine ⟨⟨Nat.le_of_ble_eq_true rfl, (by omega), (by omega)⟩, _, X_about hs h hB, ?_⟩
    rintro rs_ w1 ⟨N1, rfl, hF1, h1, hr⟩
    have hr : rs_ = .inl (some (.long (ab ρ 14))) := hr
    rw [ab_14 h17 hm] at hr
    subst hr
    refine ⟨Or.inl rfl, ?_⟩
    refine ⟨fun _ => ?_, fun z => absurd ((lt1' hm (by omega)).mpr (Nat.le_refl _)) z⟩
    exact K N1 _ _ (hF.tr hF1) h1 (by omega) (by omega)
  | f + 1, k, N, nc, ns, hk, hF, h, hc, hn', K => by
    have a0 : (mjT 101).1 = 1 := rfl
    have b0 : (mjT 101).2 = 6 := rfl
    have a2 : (mjT 106).1 = 1 := rfl
    have b2 : (mjT 106).2 = 6 := rfl
    have a1 : (mjT 124).1 = 200 := rfl
    have b1 : (mjT 124).2 = 1200 := rfl
    refine EE.runN (stop := atPc [89]) 60 _ ?_
    refine ⟨⟨Nat.le_of_ble_eq_true rfl, (by omega), (by omega)⟩, _, X_about hs h hB, ?_⟩
    rintro rs_ w1 ⟨N1, rfl, hF1, h1, hr⟩
    have hr : rs_ = .inl (some (.long (ab ρ 14))) := hr
    rw [ab_14 h17 hm] at hr
    subst hr
    refine ⟨Or.inl rfl, ?_⟩
    refine ⟨fun z => absurd ((lt1' hm (by omega)).mp z) (by omega), fun _ => ?_⟩
    refine ⟨⟨Nat.le_of_ble_eq_true rfl, (by omega), (by omega)⟩, _, X_serviceAt hs h1 hB, ?_⟩
    rintro rs_ w1 ⟨N2, rfl, hF2, h2, rfl⟩
    refine ⟨Or.inl rfl, ?_⟩
    refine ⟨⟨Nat.le_of_ble_eq_true rfl, (by omega), (by omega)⟩, _, X_serviceAt hs h2 hB, ?_⟩
    rintro rs_ w1 ⟨N3, rfl, hF3, h3, rfl⟩
    refine ⟨Or.inl rfl, ?_⟩
    refine ⟨⟨Nat.le_of_ble_eq_true rfl, (by omega), (by omega)⟩, _, X_serviceAt hs h3 hB, ?_⟩
    rintro rs_ w1 ⟨N4, rfl, hF4, h4, rfl⟩
    refine ⟨Or.inl rfl, ?_⟩
    refine ee_at (nt := nzT 124) [(0, .ref (A + 1)), (1, .long (n3 ρ n (k + 1))), (3, .int (nI (k + 1)))] (S, N4, J) rfl (by rw [← nI_1]; rfl) rfl ?_
    exact L_now3 hs hB N0 h17 hm f (k + 1) N4 _ _ (by omega) ((((hF.tr hF1).tr hF2).tr hF3).tr hF4) h4 (by omega) (by omega) K
theorem Z_now {N : Nat → Nat → Int32} (hs : Scn A S) (h : RI B T ρ P V (pbM A N)) (hB : B < 990000) : Wp (d + 10) 124 [.ref (A + 1)] (S, N, J) (fun rs w' => ∃ N', w' = (S, N', J) ∧ Frm A N N' ∧ RI B T ρ P V (pbM A N') ∧ rs = .inl (some (.long (nowV ρ)))) := by
  have a0 : (mjT 107).1 = 1 := rfl
  have b0 : (mjT 107).2 = 6 := rfl
  have a1 : (mjT 124).1 = 200 := rfl
  have b1 : (mjT 124).2 = 1200 := rfl
  obtain ⟨n, cur, hn3, hn, hc, e0, e7, ec⟩ := h.2.1.2.n
  have hm := h.2.1.2.cnt
  refine ⟨rfl, ?_⟩
  refine EE.runN (stop := atPc [6]) 10 _ ?_
  refine ee_at (nt := nzT 124) [(0, .ref (A + 1)), (1, .long (n1 ρ 0)), (3, .int (nI 0))] (S, N, J) rfl rfl rfl ?_
  refine L_now1 hs hB N 15 0 N 0 0 (by omega) (Frm.rf _ _) h (by omega) (by omega) (fun N1 nc ns hF1 h1 hc1 hn1 => ?_)
  refine L_now2 hs hB N e0 hn (3 * n) 0 N1 nc ns (by omega) hF1 h1 (by omega) (by omega) (fun N2 nc ns hF2 h2 hc2 hn2 => ?_)
  refine L_now3 (n := n) hs hB N hm.1 hm.2 (ρ 17).toNatClampNeg 0 N2 nc ns (by omega) hF2 h2 (by omega) (by omega) (fun N3 nc ns hF3 h3 hc3 hn3 => ?_)
  refine EE.runN (stop := noStop) 60 _ ?_
  refine ⟨⟨Nat.le_of_ble_eq_true rfl, (by omega), (by omega)⟩, _, X_lastCut hs h3 hB, ?_⟩
  rintro rs_ w1 ⟨N4, rfl, hF4, h4, rfl⟩
  refine ⟨Or.inl rfl, ?_⟩
  refine ⟨⟨Nat.le_of_ble_eq_true rfl, (by omega), (by omega)⟩, _, X_lastCut hs h4 hB, ?_⟩
  rintro rs_ w1 ⟨N5, rfl, hF5, h5, rfl⟩
  refine ⟨Or.inl rfl, ?_⟩
  refine ⟨⟨Nat.le_of_ble_eq_true rfl, (by omega), (by omega)⟩, _, X_lastCut hs h5 hB, ?_⟩
  rintro rs_ w1 ⟨N6, rfl, hF6, h6, rfl⟩
  refine ⟨Or.inl rfl, ?_⟩
  refine ⟨⟨Nat.le_of_ble_eq_true rfl, (by omega), (by omega)⟩, _, X_lastCut hs h6 hB, ?_⟩
  rintro rs_ w1 ⟨N7, rfl, hF7, h7, rfl⟩
  refine ⟨Or.inl rfl, ?_⟩
  refine ⟨⟨(by omega), (by omega)⟩, N7, rfl, (((hF3.tr hF4).tr hF5).tr hF6).tr hF7, h7, ?_⟩
  unfold nowV
  rw [ec]
  rfl
end
