/-! THE LAW: kept, behind the slots: written by wip/p31/kept3.py -/
section
variable {A d : Nat} {S : Sc} {N : Nat → Nat → Int32} {J : Nat → Nat → Int64} {B : Nat} {T : Tx} {ρ : Rw} {P : Pst9} {V : Sav} {Q : Res → Wd → Prop}
set_option maxRecDepth 100000 in
set_option maxHeartbeats 1000000 in
theorem k_567 (hs : Scn A S) (h : RI B T ρ P V (pbM A N)) (hB : B < 990000) {n : Nat} {o le mo : Int32} {W w sm : Nat} {gr : Int64} {nc ns : Nat} (ec : (ρ 0).toNatClampNeg = n) (hsm : sm ≤ 100) (hgap : (rMost ρ (3 * n) - rLeast ρ (3 * n)).toInt64 = mo.toInt64 - le.toInt64) (e8 : ρ 8 = nI w) (hw : w < 100000000) (hWw : W ≤ w) (hnc : nc + 2 ≤ 700) (hns : ns + 12 ≤ 4200) (K : ∀ N' nc' ns', Frm A N N' → RI B T ρ P V (pbM A N') → nc' ≤ nc + 2 → ns' ≤ ns + 12 → EE (SJ (d + 11) 126 (Wp (d + 10)) Q) (613, [(3, .int 1), (0, .ref (A + 1)), (1, .int (nI n)), (2, .int o), (4, .long (lz W)), (6, .long le.toInt64), (8, .long mo.toInt64), (10, .long gr), (12, .long (lz sm)), (14, .int (nI n))], [], (S, N', J), nc', ns')) : EE (SJ (d + 11) 126 (Wp (d + 10)) Q) (480, [(0, .ref (A + 1)), (1, .int (nI n)), (2, .int o), (3, .int 1), (4, .long (lz W)), (6, .long le.toInt64), (8, .long mo.toInt64), (10, .long gr), (12, .long (lz sm)), (14, .int (nI n))], [], (S, N, J), nc, ns) := by
  obtain ⟨⟨g98, g98'⟩, ⟨g101, g101'⟩, ⟨g102, g102'⟩, ⟨g103, g103'⟩, ⟨g104, g104'⟩, ⟨g105, g105'⟩, ⟨g106, g106'⟩, ⟨g107, g107'⟩, ⟨g119, g119'⟩, ⟨g86, g86'⟩, ⟨g126, g126'⟩⟩ := mjA
  refine EE.runN (stop := atPc [613]) 60 _ ?_
  refine ⟨fun _ => ?_, fun z => absurd (Int32.le_refl _) z⟩
  refine ⟨fun z => absurd z (by decide), fun _ => ?_⟩
  refine ⟨fun z => absurd (lcmp_gt.mp z) (by rw [show (100 : Int64) = lz 100 from rfl, lz_lt (by omega) (by omega) (by omega) (by omega)]; omega), fun _ => ?_⟩
  refine ⟨⟨Nat.le_of_ble_eq_true rfl, (by omega), (by omega)⟩, _, X_about hs h hB, ?_⟩
  rintro rs_ w1 ⟨N1, rfl, hG1, h1, hr⟩
  have hr : rs_ = .inl (some (.long (ab ρ 13))) := hr
  rw [ab_13 ec] at hr
  subst hr
  refine ⟨Or.inl rfl, ?_⟩
  refine ⟨fun z => absurd (cmp0.mpr hgap) z, fun _ => ?_⟩
  refine ⟨⟨Nat.le_of_ble_eq_true rfl, (by omega), (by omega)⟩, _, X_about hs h1 hB, ?_⟩
  rintro rs_ w1 ⟨N2, rfl, hG2, h2, hr⟩
  have hr : rs_ = .inl (some (.long (ab ρ 8))) := hr
  rw [show ab ρ 8 = _ from ab_o (k := 8) (by omega) (by omega) (by omega) (by omega) (by omega) (by omega), e8, lz_n (show w < 2147483648 by omega)] at hr
  subst hr
  refine ⟨Or.inl rfl, ?_⟩
  refine ⟨fun z => absurd (lcmp_gt.mp z) (by rw [lz_lt (by omega) (by omega) (by omega) (by omega)]; omega), fun _ => ?_⟩
  exact K N2 _ _ (hG1.tr hG2) h2 (by omega) (by omega)
theorem X_in {d : Nat} {w : Wd} {v a b : Int64} : Wp (d + 1) 98 [.long v, .long a, .long b] w (fun rs w' => rs = .inl (some (.int (bI (a ≤ v ∧ v ≤ b)))) ∧ w' = w) := by
  refine ⟨rfl, ?_⟩
  refine EE.runN (stop := noStop) 20 _ ?_
  refine ⟨fun h1 => ?_, fun h1 => ?_⟩
  · refine ⟨⟨Nat.zero_le _, Nat.zero_le _⟩, Or.inl rfl, ?_, rfl⟩
    rw [bI_f]
    rintro ⟨q, -⟩
    have := lcmp_lt.mp h1
    rw [Int64.lt_iff_toInt_lt] at this
    rw [Int64.le_iff_toInt_le] at q
    omega
  · refine ⟨fun h2 => ?_, fun h2 => ?_⟩
    · refine ⟨⟨Nat.zero_le _, Nat.zero_le _⟩, Or.inl rfl, ?_, rfl⟩
      rw [bI_f]
      rintro ⟨-, q⟩
      have := lcmp_gt.mp h2
      rw [Int64.lt_iff_toInt_lt] at this
      rw [Int64.le_iff_toInt_le] at q
      omega
    · refine ⟨⟨Nat.zero_le _, Nat.zero_le _⟩, Or.inr rfl, ?_, rfl⟩
      rw [bI_t]
      have q1 : ¬ v < a := fun q => h1 (lcmp_lt.mpr q)
      have q2 : ¬ b < v := fun q => h2 (lcmp_gt.mpr q)
      rw [Int64.lt_iff_toInt_lt] at q1 q2
      rw [Int64.le_iff_toInt_le, Int64.le_iff_toInt_le]
      omega
theorem in_r {v h : Nat} {hi : Int64} (hv : v < 2147483648) (hh : h < 2147483648) (e : hi = lz h) (h2 : v ≤ h) : (0 : Int64) ≤ lz v ∧ lz v ≤ hi := by
  rw [e, show (0 : Int64) = lz 0 from rfl, lz_le (by omega) (by omega) (by omega) (by omega), lz_le (by omega) (by omega) (by omega) (by omega)]
  omega
theorem in_n1 {v n : Nat} (hn : n ≤ 12) (h2 : v < n) : (0 : Int64) ≤ lz v ∧ lz v ≤ (nI n - 1).toInt64 :=
  in_r (h := n - 1) (by omega) (by omega) (by rw [show nI n - 1 = nI (n - 1) from pk_sub (b := 1) (by omega), lz_n (by omega)]) (by omega)
theorem in_n2 {v n : Nat} (hn : n ≤ 12) (h2 : v + 1 < n) : (0 : Int64) ≤ lz v ∧ lz v ≤ (nI n - 2).toInt64 :=
  in_r (h := n - 2) (by omega) (by omega) (by rw [show nI n - 2 = nI (n - 2) from pk_sub (b := 2) (by omega), lz_n (by omega)]) (by omega)
set_option maxRecDepth 100000 in
set_option maxHeartbeats 4000000 in
theorem k_off (hs : Scn A S) (h : RI B T ρ P V (pbM A N)) (hB : B < 990000) {n : Nat} {o : Int32} {W le mo gr sm : Int64} {cc ya yb ye yf nc ns : Nat} (ho : o = 1) (p3 : ρ 3 = 0) (h12 : ρ 12 = 0) (e9 : ρ 9 = nI cc) (hcc : 1 ≤ cc) (hcc2 : cc < 100000000) (z0 : ρ (13 + 0) = nI ya) (z1 : ρ (13 + 1) = nI yb) (z2 : ρ (13 + 2) = nI ye) (z3 : ρ (13 + 3) = nI yf) (i0 : ya < n) (i1 : yb ≤ 2) (i2 : ye ≤ 2) (i3 : yf + 1 < n) (hn3 : 3 ≤ n) (hn : n ≤ 12) (hnc : nc + 9 ≤ 700) (hns : ns + 54 ≤ 4200) (K : ∀ N', Frm A N N' → RI B T ρ P V (pbM A N') → Q (.inl (some (.int 1))) (S, N', J)) : EE (SJ (d + 11) 126 (Wp (d + 10)) Q) (613, [(3, .int 1), (0, .ref (A + 1)), (1, .int (nI n)), (2, .int o), (4, .long W), (6, .long le), (8, .long mo), (10, .long gr), (12, .long sm), (14, .int (nI n))], [], (S, N, J), nc, ns) := by
  obtain ⟨⟨g98, g98'⟩, ⟨g101, g101'⟩, ⟨g102, g102'⟩, ⟨g103, g103'⟩, ⟨g104, g104'⟩, ⟨g105, g105'⟩, ⟨g106, g106'⟩, ⟨g107, g107'⟩, ⟨g119, g119'⟩, ⟨g86, g86'⟩, ⟨g126, g126'⟩⟩ := mjA
  refine EE.runN (stop := noStop) 140 _ ?_
  refine ⟨fun z => absurd (ho.symm.trans z) (by decide), fun _ => ?_⟩
  refine ⟨fun z => absurd z (by decide), fun _ => ?_⟩
  refine ⟨⟨Nat.le_of_ble_eq_true rfl, (by omega), (by omega)⟩, _, X_about hs h hB, ?_⟩
  rintro rs_ w1 ⟨N1, rfl, hG1, h1, hr⟩
  have hr : rs_ = .inl (some (.long (ab ρ 4))) := hr
  rw [show ab ρ 4 = _ from ab_p (k := 4) (by omega), if_pos p3] at hr
  subst hr
  refine ⟨Or.inl rfl, ?_⟩
  refine ⟨fun z => absurd (cmp0.mpr rfl) z, fun _ => ?_⟩
  refine ⟨⟨Nat.le_of_ble_eq_true rfl, (by omega), (by omega)⟩, _, X_about hs h1 hB, ?_⟩
  rintro rs_ w1 ⟨N2, rfl, hG2, h2, hr⟩
  have hr : rs_ = .inl (some (.long (ab ρ 6))) := hr
  rw [show ab ρ 6 = _ from ab_p (k := 6) (by omega), if_pos p3] at hr
  subst hr
  refine ⟨Or.inl rfl, ?_⟩
  refine ⟨fun z => absurd (cmp0.mpr rfl) z, fun _ => ?_⟩
  refine ⟨⟨Nat.le_of_ble_eq_true rfl, (by omega), (by omega)⟩, _, X_about hs h2 hB, ?_⟩
  rintro rs_ w1 ⟨N3, rfl, hG3, h3, hr⟩
  have hr : rs_ = .inl (some (.long (ab ρ 7))) := hr
  rw [show ab ρ 7 = _ from ab_p (k := 7) (by omega), if_pos p3] at hr
  subst hr
  refine ⟨Or.inl rfl, ?_⟩
  refine ⟨fun z => absurd (cmp0.mpr rfl) z, fun _ => ?_⟩
  refine ⟨⟨Nat.le_of_ble_eq_true rfl, (by omega), (by omega)⟩, _, X_about hs h3 hB, ?_⟩
  rintro rs_ w1 ⟨N4, rfl, hG4, h4, hr⟩
  have hr : rs_ = .inl (some (.long (ab ρ 12))) := hr
  rw [ab_12, h12] at hr
  subst hr
  refine ⟨Or.inl rfl, ?_⟩
  refine ⟨fun z => absurd (cmp0.mpr rfl) z, fun _ => ?_⟩
  refine ⟨⟨Nat.le_of_ble_eq_true rfl, (by omega), (by omega)⟩, _, X_about hs h4 hB, ?_⟩
  rintro rs_ w1 ⟨N5, rfl, hG5, h5, hr⟩
  have hr : rs_ = .inl (some (.long (ab ρ 9))) := hr
  rw [show ab ρ 9 = _ from ab_o (k := 9) (by omega) (by omega) (by omega) (by omega) (by omega) (by omega), e9, lz_n (show cc < 2147483648 by omega)] at hr
  subst hr
  refine ⟨Or.inl rfl, ?_⟩
  refine ⟨fun z => absurd (lcmp_le.mp z) (by rw [Int64.not_le, show (0 : Int64) = lz 0 from rfl, lz_lt (by omega) (by omega) (by omega) (by omega)]; omega), fun _ => ?_⟩
  refine ⟨⟨Nat.le_of_ble_eq_true rfl, (by omega), (by omega)⟩, _, X_lastCut hs h5 hB, ?_⟩
  rintro rs_ w1 ⟨N6, rfl, hG6, h6, hr⟩
  have hr : rs_ = .inl (some (.long (lc ρ 0))) := hr
  rw [show lc ρ 0 = _ from lc_v (k := 0) (by omega), z0, lz_n (show ya < 2147483648 by omega)] at hr
  subst hr
  refine ⟨Or.inl rfl, ?_⟩
  refine ⟨⟨Nat.le_of_ble_eq_true rfl, (by omega), (by omega)⟩, _, X_in, ?_⟩
  rintro rs_ w1 ⟨hr, rfl⟩
  rw [bI_t (in_n1 (by omega) (by omega))] at hr
  subst hr
  refine ⟨Or.inl rfl, ?_⟩
  refine ⟨fun z => absurd z (by decide), fun _ => ?_⟩
  refine ⟨⟨Nat.le_of_ble_eq_true rfl, (by omega), (by omega)⟩, _, X_lastCut hs h6 hB, ?_⟩
  rintro rs_ w1 ⟨N7, rfl, hG7, h7, hr⟩
  have hr : rs_ = .inl (some (.long (lc ρ 1))) := hr
  rw [show lc ρ 1 = _ from lc_v (k := 1) (by omega), z1, lz_n (show yb < 2147483648 by omega)] at hr
  subst hr
  refine ⟨Or.inl rfl, ?_⟩
  refine ⟨⟨Nat.le_of_ble_eq_true rfl, (by omega), (by omega)⟩, _, X_in, ?_⟩
  rintro rs_ w1 ⟨hr, rfl⟩
  rw [bI_t (in_r (by omega) (by omega) (show (2 : Int64) = lz (2 : Nat) from rfl) (by omega))] at hr
  subst hr
  refine ⟨Or.inl rfl, ?_⟩
  refine ⟨fun z => absurd z (by decide), fun _ => ?_⟩
  refine ⟨⟨Nat.le_of_ble_eq_true rfl, (by omega), (by omega)⟩, _, X_lastCut hs h7 hB, ?_⟩
  rintro rs_ w1 ⟨N8, rfl, hG8, h8, hr⟩
  have hr : rs_ = .inl (some (.long (lc ρ 2))) := hr
  rw [show lc ρ 2 = _ from lc_v (k := 2) (by omega), z2, lz_n (show ye < 2147483648 by omega)] at hr
  subst hr
  refine ⟨Or.inl rfl, ?_⟩
  refine ⟨⟨Nat.le_of_ble_eq_true rfl, (by omega), (by omega)⟩, _, X_in, ?_⟩
  rintro rs_ w1 ⟨hr, rfl⟩
  rw [bI_t (in_r (by omega) (by omega) (show (2 : Int64) = lz (2 : Nat) from rfl) (by omega))] at hr
  subst hr
  refine ⟨Or.inl rfl, ?_⟩
  refine ⟨fun z => absurd z (by decide), fun _ => ?_⟩
  refine ⟨⟨Nat.le_of_ble_eq_true rfl, (by omega), (by omega)⟩, _, X_lastCut hs h8 hB, ?_⟩
  rintro rs_ w1 ⟨N9, rfl, hG9, h9, hr⟩
  have hr : rs_ = .inl (some (.long (lc ρ 3))) := hr
  rw [show lc ρ 3 = _ from lc_v (k := 3) (by omega), z3, lz_n (show yf < 2147483648 by omega)] at hr
  subst hr
  refine ⟨Or.inl rfl, ?_⟩
  refine ⟨⟨Nat.le_of_ble_eq_true rfl, (by omega), (by omega)⟩, _, X_in, ?_⟩
  rintro rs_ w1 ⟨hr, rfl⟩
  rw [bI_t (in_n2 (by omega) (by omega))] at hr
  subst hr
  refine ⟨Or.inl rfl, ?_⟩
  refine ⟨fun z => absurd z (by decide), fun _ => ?_⟩
  exact ⟨⟨(by omega), (by omega)⟩, Or.inr rfl, K N9 ((((((((hG1.tr hG2).tr hG3).tr hG4).tr hG5).tr hG6).tr hG7).tr hG8).tr hG9) h9⟩
set_option maxRecDepth 100000 in
set_option maxHeartbeats 1000000 in
theorem k_749 (hs : Scn A S) (h : RI B T ρ P V (pbM A N)) (hB : B < 990000) {n : Nat} {o : Int32} {W le mo gr sm : Int64} {dd ss m : Nat} {nc ns : Nat} (ho : o = 0) (p3 : ¬ ρ 3 = 0) (e4 : ρ 4 = nI dd) (e6 : ρ 6 = nI ss) (e17 : ρ 17 = nI m) (hm : m ≤ 12) (hdd : dd < 100000000) (hss : ss ≤ dd) (hnc : nc + 3 ≤ 700) (hns : ns + 18 ≤ 4200) (K : ∀ N' nc' ns', Frm A N N' → RI B T ρ P V (pbM A N') → nc' ≤ nc + 3 → ns' ≤ ns + 18 → EE (SJ (d + 11) 126 (Wp (d + 10)) Q) (773, [(18, .int (nI m)), (16, .long (lz ss)), (14, .long (lz dd)), (3, .int 1), (0, .ref (A + 1)), (1, .int (nI n)), (2, .int o), (4, .long W), (6, .long le), (8, .long mo), (10, .long gr), (12, .long sm)], [], (S, N', J), nc', ns')) : EE (SJ (d + 11) 126 (Wp (d + 10)) Q) (613, [(3, .int 1), (0, .ref (A + 1)), (1, .int (nI n)), (2, .int o), (4, .long W), (6, .long le), (8, .long mo), (10, .long gr), (12, .long sm), (14, .int (nI n))], [], (S, N, J), nc, ns) := by
  obtain ⟨⟨g98, g98'⟩, ⟨g101, g101'⟩, ⟨g102, g102'⟩, ⟨g103, g103'⟩, ⟨g104, g104'⟩, ⟨g105, g105'⟩, ⟨g106, g106'⟩, ⟨g107, g107'⟩, ⟨g119, g119'⟩, ⟨g86, g86'⟩, ⟨g126, g126'⟩⟩ := mjA
  refine EE.runN (stop := atPc [773]) 60 _ ?_
  refine ⟨fun _ => ?_, fun z => absurd ho z⟩
  refine ⟨⟨Nat.le_of_ble_eq_true rfl, (by omega), (by omega)⟩, _, X_about hs h hB, ?_⟩
  rintro rs_ w1 ⟨N1, rfl, hG1, h1, hr⟩
  have hr : rs_ = .inl (some (.long (ab ρ 4))) := hr
  rw [show ab ρ 4 = _ from ab_p (k := 4) (by omega), if_neg p3, e4, lz_n (show dd < 2147483648 by omega)] at hr
  subst hr
  refine ⟨Or.inl rfl, ?_⟩
  refine ⟨⟨Nat.le_of_ble_eq_true rfl, (by omega), (by omega)⟩, _, X_about hs h1 hB, ?_⟩
  rintro rs_ w1 ⟨N2, rfl, hG2, h2, hr⟩
  have hr : rs_ = .inl (some (.long (ab ρ 6))) := hr
  rw [show ab ρ 6 = _ from ab_p (k := 6) (by omega), if_neg p3, e6, lz_n (show ss < 2147483648 by omega)] at hr
  subst hr
  refine ⟨Or.inl rfl, ?_⟩
  refine ⟨⟨Nat.le_of_ble_eq_true rfl, (by omega), (by omega)⟩, _, X_about hs h2 hB, ?_⟩
  rintro rs_ w1 ⟨N3, rfl, hG3, h3, hr⟩
  have hr : rs_ = .inl (some (.long (ab ρ 14))) := hr
  rw [ab_14 e17 hm, ← lz_n (show m < 2147483648 by omega)] at hr
  subst hr
  refine ⟨Or.inl rfl, ?_⟩
  refine ee_ls [(18, .int (nI m)), (16, .long (lz ss)), (14, .long (lz dd)), (3, .int 1), (0, .ref (A + 1)), (1, .int (nI n)), (2, .int o), (4, .long W), (6, .long le), (8, .long mo), (10, .long gr), (12, .long sm)] (by rw [l2i_n]; rfl) ?_
  exact K N3 _ _ ((hG1.tr hG2).tr hG3) h3 (by omega) (by omega)
set_option maxRecDepth 100000 in
set_option maxHeartbeats 1000000 in
theorem k_773 (hs : Scn A S) (h : RI B T ρ P V (pbM A N)) (hB : B < 990000) {n t cur : Nat} {o : Int32} {W le mo gr sm : Int64} {dd ss m : Nat} {nc ns : Nat} (p3 : ¬ ρ 3 = 0) (e5 : ρ 5 = nI t) (e7 : ρ 7 = nI cur) (ec : (ρ 0).toNatClampNeg = n) (hn3 : 3 ≤ n) (hn : n ≤ 12) (hcur : cur < n) (ht : t < 100000000) (hdt : dd ≤ t) (hss : ss ≤ dd) (hgr : ¬ lz dd < gr) (hsc : ss ≠ 0 → rSays ρ cur = nI ss) (hnc : nc + 4 ≤ 700) (hns : ns + 24 ≤ 4200) (K : ∀ N' nc' ns', Frm A N N' → RI B T ρ P V (pbM A N') → nc' ≤ nc + 4 → ns' ≤ ns + 24 → EE (SJ (d + 11) 126 (Wp (d + 10)) Q) (845, [(18, .int (nI m)), (16, .long (lz ss)), (14, .long (lz dd)), (3, .int 1), (0, .ref (A + 1)), (1, .int (nI n)), (2, .int o), (4, .long W), (6, .long le), (8, .long mo), (10, .long gr), (12, .long sm)], [], (S, N', J), nc', ns')) : EE (SJ (d + 11) 126 (Wp (d + 10)) Q) (773, [(18, .int (nI m)), (16, .long (lz ss)), (14, .long (lz dd)), (3, .int 1), (0, .ref (A + 1)), (1, .int (nI n)), (2, .int o), (4, .long W), (6, .long le), (8, .long mo), (10, .long gr), (12, .long sm)], [], (S, N, J), nc, ns) := by
  obtain ⟨⟨g98, g98'⟩, ⟨g101, g101'⟩, ⟨g102, g102'⟩, ⟨g103, g103'⟩, ⟨g104, g104'⟩, ⟨g105, g105'⟩, ⟨g106, g106'⟩, ⟨g107, g107'⟩, ⟨g119, g119'⟩, ⟨g86, g86'⟩, ⟨g126, g126'⟩⟩ := mjA
  refine EE.runN (stop := atPc [845]) 80 _ ?_
  refine ⟨fun z => absurd z (by decide), fun _ => ?_⟩
  refine ⟨fun z => absurd (lcmp_lt.mp z) (by rw [lz_lt (by omega) (by omega) (by omega) (by omega)]; omega), fun _ => ?_⟩
  refine ⟨⟨Nat.le_of_ble_eq_true rfl, (by omega), (by omega)⟩, _, X_about hs h hB, ?_⟩
  rintro rs_ w1 ⟨N1, rfl, hG1, h1, hr⟩
  have hr : rs_ = .inl (some (.long (ab ρ 5))) := hr
  rw [show ab ρ 5 = _ from ab_o (k := 5) (by omega) (by omega) (by omega) (by omega) (by omega) (by omega), e5, lz_n (show t < 2147483648 by omega)] at hr
  subst hr
  refine ⟨Or.inl rfl, ?_⟩
  refine ⟨fun z => absurd (lcmp_gt.mp z) (by rw [lz_lt (by omega) (by omega) (by omega) (by omega)]; omega), fun _ => ?_⟩
  refine ⟨fun z => absurd (lcmp_gt.mp z) hgr, fun _ => ?_⟩
  refine ⟨⟨Nat.le_of_ble_eq_true rfl, (by omega), (by omega)⟩, _, X_about hs h1 hB, ?_⟩
  rintro rs_ w1 ⟨N2, rfl, hG2, h2, hr⟩
  have hr : rs_ = .inl (some (.long (ab ρ 7))) := hr
  rw [show ab ρ 7 = _ from ab_p (k := 7) (by omega), if_neg p3, e7, lz_n (show cur < 2147483648 by omega)] at hr
  subst hr
  refine ⟨Or.inl rfl, ?_⟩
  refine ⟨⟨Nat.le_of_ble_eq_true rfl, (by omega), (by omega)⟩, _, X_in, ?_⟩
  rintro rs_ w1 ⟨hr, rfl⟩
  rw [bI_t (in_n1 (by omega) (by omega))] at hr
  subst hr
  refine ⟨Or.inl rfl, ?_⟩
  refine ⟨fun z => absurd z (by decide), fun _ => ?_⟩
  refine ⟨fun z => ?_, fun z => ?_⟩
  · exact K N2 _ _ (hG1.tr hG2) h2 (by omega) (by omega)
  · refine ⟨⟨Nat.le_of_ble_eq_true rfl, (by omega), (by omega)⟩, _, X_about hs h2 hB, ?_⟩
    rintro rs_ w1 ⟨N3, rfl, hG3, h3, hr⟩
    have hr : rs_ = .inl (some (.long (ab ρ 7))) := hr
    rw [show ab ρ 7 = _ from ab_p (k := 7) (by omega), if_neg p3, e7] at hr
    subst hr
    refine ⟨Or.inl rfl, ?_⟩
    refine ⟨⟨Nat.le_of_ble_eq_true rfl, (by omega), (by omega)⟩, _, X_says hs h3 hB, ?_⟩
    rintro rs_ w1 ⟨N4, rfl, hG4, h4, hr⟩
    have hr : rs_ = .inl (some (.long (eL (fun c => 2) (aSays ρ (ρ 0).toNatClampNeg ((nI cur).toInt64.toInt32))))) := hr
    rw [l2i_n, sa_v ec hn hcur, hsc (fun y => z (cmp0.mpr (by rw [y]; rfl))), lz_n (show ss < 2147483648 by omega)] at hr
    subst hr
    refine ⟨Or.inl rfl, ?_⟩
    refine ⟨fun y => absurd (cmp0.mpr rfl) y, fun _ => ?_⟩
    exact K N4 _ _ (((hG1.tr hG2).tr hG3).tr hG4) h4 (by omega) (by omega)
set_option maxRecDepth 100000 in
set_option maxHeartbeats 1000000 in
theorem k_845 (hs : Scn A S) (h : RI B T ρ P V (pbM A N)) (hB : B < 990000) {n : Nat} {o : Int32} {W le mo gr sm : Int64} {dd ss m : Nat} {nc ns : Nat} (hk0 : ρ 10 = 0 → ρ 11 = -99999) (hk1 : ¬ ρ 10 = 0 → ¬ ρ 11 = -99999) (hnc : nc + 2 ≤ 700) (hns : ns + 12 ≤ 4200) (K : ∀ N' nc' ns', Frm A N N' → RI B T ρ P V (pbM A N') → nc' ≤ nc + 2 → ns' ≤ ns + 12 → EE (SJ (d + 11) 126 (Wp (d + 10)) Q) (882, [(18, .int (nI m)), (16, .long (lz ss)), (14, .long (lz dd)), (3, .int 1), (0, .ref (A + 1)), (1, .int (nI n)), (2, .int o), (4, .long W), (6, .long le), (8, .long mo), (10, .long gr), (12, .long sm)], [], (S, N', J), nc', ns')) : EE (SJ (d + 11) 126 (Wp (d + 10)) Q) (845, [(18, .int (nI m)), (16, .long (lz ss)), (14, .long (lz dd)), (3, .int 1), (0, .ref (A + 1)), (1, .int (nI n)), (2, .int o), (4, .long W), (6, .long le), (8, .long mo), (10, .long gr), (12, .long sm)], [], (S, N, J), nc, ns) := by
  obtain ⟨⟨g98, g98'⟩, ⟨g101, g101'⟩, ⟨g102, g102'⟩, ⟨g103, g103'⟩, ⟨g104, g104'⟩, ⟨g105, g105'⟩, ⟨g106, g106'⟩, ⟨g107, g107'⟩, ⟨g119, g119'⟩, ⟨g86, g86'⟩, ⟨g126, g126'⟩⟩ := mjA
  refine EE.runN (stop := atPc [882]) 60 _ ?_
  refine ⟨⟨Nat.le_of_ble_eq_true rfl, (by omega), (by omega)⟩, _, X_about hs h hB, ?_⟩
  rintro rs_ w1 ⟨N1, rfl, hG1, h1, hr⟩
  have hr : rs_ = .inl (some (.long (ab ρ 10))) := hr
  rw [show ab ρ 10 = _ from ab_o (k := 10) (by omega) (by omega) (by omega) (by omega) (by omega) (by omega)] at hr
  subst hr
  refine ⟨Or.inl rfl, ?_⟩
  refine ⟨fun z => ?_, fun z => ?_⟩
  · have z0 : ¬ ρ 10 = 0 := fun y => z (cmp0.mpr (by rw [y]; rfl))
    refine ⟨⟨Nat.le_of_ble_eq_true rfl, (by omega), (by omega)⟩, _, X_about hs h1 hB, ?_⟩
    rintro rs_ w1 ⟨N2, rfl, hG2, h2, hr⟩
    have hr : rs_ = .inl (some (.long (ab ρ 11))) := hr
    rw [show ab ρ 11 = _ from ab_o (k := 11) (by omega) (by omega) (by omega) (by omega) (by omega) (by omega)] at hr
    subst hr
    refine ⟨Or.inl rfl, ?_⟩
    refine ⟨fun _ => ?_, fun y => absurd (q64'.mp y) (hk1 z0)⟩
    refine ⟨fun y => absurd rfl y, fun _ => ?_⟩
    exact K N2 _ _ (hG1.tr hG2) h2 (by omega) (by omega)
  · have z0 : ρ 10 = 0 := q64.mp (show lg_cmp (ρ 10).toInt64 (0 : Int32).toInt64 = 0 from z)
    refine ⟨⟨Nat.le_of_ble_eq_true rfl, (by omega), (by omega)⟩, _, X_about hs h1 hB, ?_⟩
    rintro rs_ w1 ⟨N2, rfl, hG2, h2, hr⟩
    have hr : rs_ = .inl (some (.long (ab ρ 11))) := hr
    rw [show ab ρ 11 = _ from ab_o (k := 11) (by omega) (by omega) (by omega) (by omega) (by omega) (by omega)] at hr
    subst hr
    refine ⟨Or.inl rfl, ?_⟩
    refine ⟨fun y => absurd (cmp0.mpr (by rw [(hk0 z0)]; rfl)) y, fun _ => ?_⟩
    refine ⟨fun y => absurd rfl y, fun _ => ?_⟩
    exact K N2 _ _ (hG1.tr hG2) h2 (by omega) (by omega)
theorem sv_end {m : Nat} (e17 : ρ 17 = nI m) (hm : m ≤ 12) : sv ρ (nI m) 0 = -99999 := by
  unfold sv aServ
  rw [if_neg (nI_pos (by omega)), if_pos (by decide), if_neg (by rw [e17]; exact Int32.lt_irrefl), eL_0 rfl]
  rfl
/-- the service that is due first -/
def fiV (ρ : Rw) : Int32 := if rSm ρ (ρ 17).toNatClampNeg = -99999 then -99999 else ρ (18 + 2 * (rSm ρ (ρ 17).toNatClampNeg).toNatClampNeg)
theorem first_rs : cRs (fun _ => 0) (aFirst ρ (ρ 17).toNatClampNeg) = .inl (some (.int (fiV ρ))) := by
  unfold cRs aFirst fiV
  split <;> rfl
set_option maxRecDepth 100000 in
set_option maxHeartbeats 1000000 in
theorem k_882 (hs : Scn A S) (h : RI B T ρ P V (pbM A N)) (hB : B < 990000) {n : Nat} {o : Int32} {W le mo gr sm : Int64} {dd ss m : Nat} {nc ns : Nat} (e17 : ρ 17 = nI m) (hm : m ≤ 12) (hf0 : m = 0 → fiV ρ = -99999) (hf1 : ¬ m = 0 → ¬ fiV ρ = -99999) (hnc : nc + 1 ≤ 700) (hns : ns + 6 ≤ 4200) (K : ∀ N' nc' ns', Frm A N N' → RI B T ρ P V (pbM A N') → nc' ≤ nc + 1 → ns' ≤ ns + 6 → EE (SJ (d + 11) 126 (Wp (d + 10)) Q) (945, [(0, .ref (A + 1)), (3, .int 1), (14, .long (lz dd)), (18, .int (nI m)), (19, .int (nI 0))], [], (S, N', J), nc', ns')) : EE (SJ (d + 11) 126 (Wp (d + 10)) Q) (882, [(18, .int (nI m)), (16, .long (lz ss)), (14, .long (lz dd)), (3, .int 1), (0, .ref (A + 1)), (1, .int (nI n)), (2, .int o), (4, .long W), (6, .long le), (8, .long mo), (10, .long gr), (12, .long sm)], [], (S, N, J), nc, ns) := by
  obtain ⟨⟨g98, g98'⟩, ⟨g101, g101'⟩, ⟨g102, g102'⟩, ⟨g103, g103'⟩, ⟨g104, g104'⟩, ⟨g105, g105'⟩, ⟨g106, g106'⟩, ⟨g107, g107'⟩, ⟨g119, g119'⟩, ⟨g86, g86'⟩, ⟨g126, g126'⟩⟩ := mjA
  refine EE.runN (stop := atPc [945]) 90 _ ?_
  refine ⟨⟨Nat.le_of_ble_eq_true rfl, (by omega), (by omega)⟩, _, X_in, ?_⟩
  rintro rs_ w1 ⟨hr, rfl⟩
  rw [lz_n (show m < 2147483648 by omega), bI_t (in_r (by omega) (by omega) (show (12 : Int64) = lz (12 : Nat) from rfl) hm)] at hr
  subst hr
  refine ⟨Or.inl rfl, ?_⟩
  refine ⟨fun z => absurd z (by decide), fun _ => ?_⟩
  refine ⟨⟨Nat.le_of_ble_eq_true rfl, (by omega), (by omega)⟩, _, X_serviceAt hs h hB, ?_⟩
  rintro rs_ w1 ⟨N1, rfl, hG1, h1, hr⟩
  have hr : rs_ = .inl (some (.long (sv ρ (nI m) 0))) := hr
  rw [sv_end e17 hm] at hr
  subst hr
  refine ⟨Or.inl rfl, ?_⟩
  refine ⟨fun z => absurd (cmp0.mpr rfl) z, fun _ => ?_⟩
  refine ⟨fun z => ?_, fun z => ?_⟩
  · have z0 : ¬ m = 0 := fun y => z (by rw [y]; rfl)
    refine ⟨⟨Nat.le_of_ble_eq_true rfl, (by omega), (by omega)⟩, hs.k1, _, Y_dueFirst hs h1 hB, ?_⟩
    rintro rs_ w1 ⟨N2, rfl, hG2, h2, hr⟩
    rw [first_rs] at hr
    subst hr
    refine ⟨Or.inl rfl, ?_⟩
    refine ⟨fun _ => ?_, fun y => absurd y (hf1 z0)⟩
    refine ⟨fun y => absurd rfl y, fun _ => ?_⟩
    exact EE.nz (nt := nzT 126) (ls' := [(0, .ref (A + 1)), (3, .int 1), (14, .long (lz dd)), (18, .int (nI m)), (19, .int (nI 0))]) rfl rfl (K N2 _ _ (hG1.tr hG2) h2 (by omega) (by omega))
  · have z0 : m = 0 := by
      have : nI m = nI 0 := z
      rwa [nI_eq (by omega) (by omega)] at this
    refine ⟨⟨Nat.le_of_ble_eq_true rfl, (by omega), (by omega)⟩, hs.k1, _, Y_dueFirst hs h1 hB, ?_⟩
    rintro rs_ w1 ⟨N2, rfl, hG2, h2, hr⟩
    rw [first_rs] at hr
    subst hr
    refine ⟨Or.inl rfl, ?_⟩
    refine ⟨fun y => absurd (hf0 z0) y, fun _ => ?_⟩
    refine ⟨fun y => absurd rfl y, fun _ => ?_⟩
    exact EE.nz (nt := nzT 126) (ls' := [(0, .ref (A + 1)), (3, .int 1), (14, .long (lz dd)), (18, .int (nI m)), (19, .int (nI 0))]) rfl rfl (K N2 _ _ (hG1.tr hG2) h2 (by omega) (by omega))
set_option maxRecDepth 100000 in
set_option maxHeartbeats 1000000 in
theorem k_945 (hs : Scn A S) (h : RI B T ρ P V (pbM A N)) (hB : B < 990000) {dd m k kd pt fk fp e g : Nat} {nc ns : Nat} (e17 : ρ 17 = nI m) (ec17 : (ρ 17).toNatClampNeg = m) (hm : m ≤ 12) (hk : k < m) (hkd : kd ≤ 9) (hpt : pt ≤ 9) (q0 : sv ρ (nI k) 0 = (nI kd).toInt64) (q1 : sv ρ (nI k) 1 = (nI pt).toInt64) (q2 : sv ρ (nI k) 2 = lz e) (d0 : eL (fun c => if c = 1 then 0 else 1) (aDue ρ (ρ 17).toNatClampNeg (nI kd) (nI pt) 5) = lz ((e : Int) + 5 - dd)) (ef : fiV ρ = nI (10 * fk + fp)) (hfk : fk ≤ 9) (hfp : fp ≤ 9) (d1 : eL (fun c => if c = 1 then 0 else 1) (aDue ρ (ρ 17).toNatClampNeg (nI fk) (nI fp) 5) = lz ((g : Int) + 5 - dd)) (hge : g ≤ e) (he : e < 100000000) (hdd : dd < 100000000) (hnc : nc + 2 ≤ 700) (hns : ns + 12 ≤ 4200) (K : ∀ N' nc' ns', Frm A N N' → RI B T ρ P V (pbM A N') → nc' ≤ nc + 2 → ns' ≤ ns + 12 → EE (SJ (d + 11) 126 (Wp (d + 10)) Q) (976, [(21, .int (nI pt)), (20, .int (nI kd)), (0, .ref (A + 1)), (3, .int 1), (14, .long (lz dd)), (18, .int (nI m)), (19, .int (nI k))], [], (S, N', J), nc', ns')) : EE (SJ (d + 11) 126 (Wp (d + 10)) Q) (945, [(0, .ref (A + 1)), (3, .int 1), (14, .long (lz dd)), (18, .int (nI m)), (19, .int (nI k))], [], (S, N, J), nc, ns) := by
  obtain ⟨⟨g98, g98'⟩, ⟨g101, g101'⟩, ⟨g102, g102'⟩, ⟨g103, g103'⟩, ⟨g104, g104'⟩, ⟨g105, g105'⟩, ⟨g106, g106'⟩, ⟨g107, g107'⟩, ⟨g119, g119'⟩, ⟨g86, g86'⟩, ⟨g126, g126'⟩⟩ := mjA
  refine EE.runN (stop := atPc [976]) 40 _ ?_
  refine ⟨fun z => absurd z (nI_ge hk (by omega)), fun _ => ?_⟩
  refine ⟨fun z => absurd z (by decide), fun _ => ?_⟩
  refine ⟨⟨Nat.le_of_ble_eq_true rfl, (by omega), (by omega)⟩, _, X_serviceAt hs h hB, ?_⟩
  rintro rs_ w1 ⟨N1, rfl, hG1, h1, hr⟩
  have hr : rs_ = .inl (some (.long (sv ρ (nI k) 0))) := hr
  rw [q0] at hr
  subst hr
  refine ⟨Or.inl rfl, ?_⟩
  refine ⟨⟨Nat.le_of_ble_eq_true rfl, (by omega), (by omega)⟩, _, X_serviceAt hs h1 hB, ?_⟩
  rintro rs_ w1 ⟨N2, rfl, hG2, h2, hr⟩
  have hr : rs_ = .inl (some (.long (sv ρ (nI k) 1))) := hr
  rw [q1] at hr
  subst hr
  refine ⟨Or.inl rfl, ?_⟩
  refine ee_ls [(21, .int (nI pt)), (20, .int (nI kd)), (0, .ref (A + 1)), (3, .int 1), (14, .long (lz dd)), (18, .int (nI m)), (19, .int (nI k))] (by rw [l2i_n, l2i_n]; rfl) ?_
  exact K N2 _ _ (hG1.tr hG2) h2 (by omega) (by omega)
theorem div10a {a b : Nat} (ha : a ≤ 9) (hb : b ≤ 9) : nI (10 * a + b) / 10 = nI a := by
  rw [o_10, pk_div (by omega) (by omega) (by omega), show (10 * a + b) / 10 = a by omega]
theorem div10b {a b : Nat} (ha : a ≤ 9) (hb : b ≤ 9) : nI (10 * a + b) - nI (10 * a + b) / 10 * 10 = nI b := by
  rw [div10a ha hb, o_10, pk_mul, pk_sub (by omega), show 10 * a + b - a * 10 = b by omega]
set_option maxRecDepth 100000 in
set_option maxHeartbeats 1000000 in
theorem k_976 (hs : Scn A S) (h : RI B T ρ P V (pbM A N)) (hB : B < 990000) {dd m k kd pt fk fp e g : Nat} {nc ns : Nat} (e17 : ρ 17 = nI m) (ec17 : (ρ 17).toNatClampNeg = m) (hm : m ≤ 12) (hk : k < m) (hkd : kd ≤ 9) (hpt : pt ≤ 9) (q0 : sv ρ (nI k) 0 = (nI kd).toInt64) (q1 : sv ρ (nI k) 1 = (nI pt).toInt64) (q2 : sv ρ (nI k) 2 = lz e) (d0 : eL (fun c => if c = 1 then 0 else 1) (aDue ρ (ρ 17).toNatClampNeg (nI kd) (nI pt) 5) = lz ((e : Int) + 5 - dd)) (ef : fiV ρ = nI (10 * fk + fp)) (hfk : fk ≤ 9) (hfp : fp ≤ 9) (d1 : eL (fun c => if c = 1 then 0 else 1) (aDue ρ (ρ 17).toNatClampNeg (nI fk) (nI fp) 5) = lz ((g : Int) + 5 - dd)) (hge : g ≤ e) (he : e < 100000000) (hdd : dd < 100000000) (hnc : nc + 6 ≤ 700) (hns : ns + 36 ≤ 4200) (K : ∀ N' nc' ns', Frm A N N' → RI B T ρ P V (pbM A N') → nc' ≤ nc + 6 → ns' ≤ ns + 36 → EE (SJ (d + 11) 126 (Wp (d + 10)) Q) (1070, [(0, .ref (A + 1)), (3, .int 1), (14, .long (lz dd)), (18, .int (nI m)), (19, .int (nI k)), (20, .int (nI kd)), (21, .int (nI pt)), (22, .int (nI 0))], [], (S, N', J), nc', ns')) : EE (SJ (d + 11) 126 (Wp (d + 10)) Q) (976, [(21, .int (nI pt)), (20, .int (nI kd)), (0, .ref (A + 1)), (3, .int 1), (14, .long (lz dd)), (18, .int (nI m)), (19, .int (nI k))], [], (S, N, J), nc, ns) := by
  obtain ⟨⟨g98, g98'⟩, ⟨g101, g101'⟩, ⟨g102, g102'⟩, ⟨g103, g103'⟩, ⟨g104, g104'⟩, ⟨g105, g105'⟩, ⟨g106, g106'⟩, ⟨g107, g107'⟩, ⟨g119, g119'⟩, ⟨g86, g86'⟩, ⟨g126, g126'⟩⟩ := mjA
  refine EE.runN (stop := atPc [1070]) 120 _ ?_
  refine ⟨⟨Nat.le_of_ble_eq_true rfl, (by omega), (by omega)⟩, _, X_in, ?_⟩
  rintro rs_ w1 ⟨hr, rfl⟩
  rw [lz_n (show kd < 2147483648 by omega), bI_t (in_r (by omega) (by omega) (show (9 : Int64) = lz (9 : Nat) from rfl) (by omega))] at hr
  subst hr
  refine ⟨Or.inl rfl, ?_⟩
  refine ⟨fun z => absurd z (by decide), fun _ => ?_⟩
  refine ⟨⟨Nat.le_of_ble_eq_true rfl, (by omega), (by omega)⟩, _, X_in, ?_⟩
  rintro rs_ w1 ⟨hr, rfl⟩
  rw [lz_n (show pt < 2147483648 by omega), bI_t (in_r (by omega) (by omega) (show (9 : Int64) = lz (9 : Nat) from rfl) (by omega))] at hr
  subst hr
  refine ⟨Or.inl rfl, ?_⟩
  refine ⟨fun z => absurd z (by decide), fun _ => ?_⟩
  refine ⟨⟨Nat.le_of_ble_eq_true rfl, (by omega), (by omega)⟩, _, X_dueIn hs h hB, ?_⟩
  rintro rs_ w1 ⟨N1, rfl, hG1, h1, hr⟩
  have hr : rs_ = .inl (some (.long (eL (fun c => if c = 1 then 0 else 1) (aDue ρ (ρ 17).toNatClampNeg (nI kd) (nI pt) 5)))) := hr
  rw [d0] at hr
  subst hr
  refine ⟨Or.inl rfl, ?_⟩
  refine ⟨⟨Nat.le_of_ble_eq_true rfl, (by omega), (by omega)⟩, _, X_serviceAt hs h1 hB, ?_⟩
  rintro rs_ w1 ⟨N2, rfl, hG2, h2, hr⟩
  have hr : rs_ = .inl (some (.long (sv ρ (nI k) 2))) := hr
  rw [q2] at hr
  subst hr
  refine ⟨Or.inl rfl, ?_⟩
  refine ⟨fun z => absurd (cmp0.mpr (by rw [show (5 : Int64) = lz 5 from rfl, lz_add, lz_sub])) z, fun _ => ?_⟩
  refine ⟨⟨Nat.le_of_ble_eq_true rfl, (by omega), (by omega)⟩, hs.k1, _, Y_dueFirst hs h2 hB, ?_⟩
  rintro rs_ w1 ⟨N3, rfl, hG3, h3, hr⟩
  rw [first_rs, ef] at hr
  subst hr
  refine ⟨Or.inl rfl, ?_⟩
  refine ⟨by decide, ?_⟩
  refine ⟨⟨Nat.le_of_ble_eq_true rfl, (by omega), (by omega)⟩, hs.k1, _, Y_dueFirst hs h3 hB, ?_⟩
  rintro rs_ w1 ⟨N4, rfl, hG4, h4, hr⟩
  rw [first_rs, ef] at hr
  subst hr
  refine ⟨Or.inl rfl, ?_⟩
  refine ⟨by decide, ?_⟩
  refine ⟨⟨Nat.le_of_ble_eq_true rfl, (by omega), (by omega)⟩, _, X_dueIn hs h4 hB, ?_⟩
  rintro rs_ w1 ⟨N5, rfl, hG5, h5, hr⟩
  have hr : rs_ = .inl (some (.long (eL (fun c => if c = 1 then 0 else 1) (aDue ρ (ρ 17).toNatClampNeg (nI (10 * fk + fp) / 10) (nI (10 * fk + fp) - nI (10 * fk + fp) / 10 * 10) 5)))) := hr
  rw [div10b hfk hfp, div10a hfk hfp, d1] at hr
  subst hr
  refine ⟨Or.inl rfl, ?_⟩
  refine ⟨⟨Nat.le_of_ble_eq_true rfl, (by omega), (by omega)⟩, _, X_dueIn hs h5 hB, ?_⟩
  rintro rs_ w1 ⟨N6, rfl, hG6, h6, hr⟩
  have hr : rs_ = .inl (some (.long (eL (fun c => if c = 1 then 0 else 1) (aDue ρ (ρ 17).toNatClampNeg (nI kd) (nI pt) 5)))) := hr
  rw [d0] at hr
  subst hr
  refine ⟨Or.inl rfl, ?_⟩
  refine ⟨fun z => absurd (lcmp_gt.mp z) (by rw [lz_lt (by omega) (by omega) (by omega) (by omega)]; omega), fun _ => ?_⟩
  exact EE.nz (nt := nzT 126) (ls' := [(0, .ref (A + 1)), (3, .int 1), (14, .long (lz dd)), (18, .int (nI m)), (19, .int (nI k)), (20, .int (nI kd)), (21, .int (nI pt)), (22, .int (nI 0))]) rfl rfl (K N6 _ _ (((((hG1.tr hG2).tr hG3).tr hG4).tr hG5).tr hG6) h6 (by omega) (by omega))
set_option maxRecDepth 100000 in
set_option maxHeartbeats 1000000 in
theorem k_1070 (hs : Scn A S) (h : RI B T ρ P V (pbM A N)) (hB : B < 990000) {dd m k kd pt j kj pj : Nat} {nc ns : Nat} (hjk : j < k) (hk : k ≤ 12) (hkd : kd ≤ 9) (hpt : pt ≤ 9) (hkj : kj ≤ 9) (hpj : pj ≤ 9) (q0 : sv ρ (nI j) 0 = (nI kj).toInt64) (q1 : sv ρ (nI j) 1 = (nI pj).toInt64) (hne : ¬ (kj = kd ∧ pj = pt)) (hnc : nc + 2 ≤ 700) (hns : ns + 12 ≤ 4200) (K : ∀ N' nc' ns', Frm A N N' → RI B T ρ P V (pbM A N') → nc' ≤ nc + 2 → ns' ≤ ns + 12 → EE (SJ (d + 11) 126 (Wp (d + 10)) Q) (1070, [(0, .ref (A + 1)), (3, .int 1), (14, .long (lz dd)), (18, .int (nI m)), (19, .int (nI k)), (20, .int (nI kd)), (21, .int (nI pt)), (22, .int (nI (j + 1)))], [], (S, N', J), nc', ns')) : EE (SJ (d + 11) 126 (Wp (d + 10)) Q) (1070, [(0, .ref (A + 1)), (3, .int 1), (14, .long (lz dd)), (18, .int (nI m)), (19, .int (nI k)), (20, .int (nI kd)), (21, .int (nI pt)), (22, .int (nI j))], [], (S, N, J), nc, ns) := by
  obtain ⟨⟨g98, g98'⟩, ⟨g101, g101'⟩, ⟨g102, g102'⟩, ⟨g103, g103'⟩, ⟨g104, g104'⟩, ⟨g105, g105'⟩, ⟨g106, g106'⟩, ⟨g107, g107'⟩, ⟨g119, g119'⟩, ⟨g86, g86'⟩, ⟨g126, g126'⟩⟩ := mjA
  refine EE.runN (stop := atPc [1070]) 60 _ ?_
  refine ⟨fun z => absurd z (nI_ge hjk (by omega)), fun _ => ?_⟩
  refine ⟨fun z => absurd z (by decide), fun _ => ?_⟩
  refine ⟨⟨Nat.le_of_ble_eq_true rfl, (by omega), (by omega)⟩, _, X_serviceAt hs h hB, ?_⟩
  rintro rs_ w1 ⟨N1, rfl, hG1, h1, hr⟩
  have hr : rs_ = .inl (some (.long (sv ρ (nI j) 0))) := hr
  rw [q0] at hr
  subst hr
  refine ⟨Or.inl rfl, ?_⟩
  refine ⟨fun z => ?_, fun z => ?_⟩
  · exact EE.nz (nt := nzT 126) (ls' := [(0, .ref (A + 1)), (3, .int 1), (14, .long (lz dd)), (18, .int (nI m)), (19, .int (nI k)), (20, .int (nI kd)), (21, .int (nI pt)), (22, .int (nI (j + 1)))]) rfl (by rw [show nI (j + 1) = nI j + 1 from (nI_1 j).symm]; rfl) (K N1 _ _ hG1 h1 (by omega) (by omega))
  · have e1 : kj = kd := by
      have := q64.mp z
      rwa [nI_eq (by omega) (by omega)] at this
    refine ⟨⟨Nat.le_of_ble_eq_true rfl, (by omega), (by omega)⟩, _, X_serviceAt hs h1 hB, ?_⟩
    rintro rs_ w1 ⟨N2, rfl, hG2, h2, hr⟩
    have hr : rs_ = .inl (some (.long (sv ρ (nI j) 1))) := hr
    rw [q1] at hr
    subst hr
    refine ⟨Or.inl rfl, ?_⟩
    refine ⟨fun y => ?_, fun y => ?_⟩
    · have := q64.mp y
      rw [nI_eq (by omega) (by omega)] at this
      exact absurd ⟨e1, this⟩ hne
    · exact EE.nz (nt := nzT 126) (ls' := [(0, .ref (A + 1)), (3, .int 1), (14, .long (lz dd)), (18, .int (nI m)), (19, .int (nI k)), (20, .int (nI kd)), (21, .int (nI pt)), (22, .int (nI (j + 1)))]) rfl (by rw [show nI (j + 1) = nI j + 1 from (nI_1 j).symm]; rfl) (K N2 _ _ (hG1.tr hG2) h2 (by omega) (by omega))
set_option maxRecDepth 100000 in
set_option maxHeartbeats 1000000 in
theorem k_1121 {dd m k kd pt : Nat} {nc ns : Nat}  (K1 : EE (SJ (d + 11) 126 (Wp (d + 10)) Q) (945, [(0, .ref (A + 1)), (3, .int 1), (14, .long (lz dd)), (18, .int (nI m)), (19, .int (nI (k + 1)))], [], (S, N, J), nc, ns)) : EE (SJ (d + 11) 126 (Wp (d + 10)) Q) (1070, [(0, .ref (A + 1)), (3, .int 1), (14, .long (lz dd)), (18, .int (nI m)), (19, .int (nI k)), (20, .int (nI kd)), (21, .int (nI pt)), (22, .int (nI k))], [], (S, N, J), nc, ns) := by
  refine EE.runN (stop := atPc [945]) 40 _ ?_
  refine ⟨fun _ => ?_, fun z => absurd (Int32.le_refl _) z⟩
  exact EE.nz (nt := nzT 126) (ls' := [(0, .ref (A + 1)), (3, .int 1), (14, .long (lz dd)), (18, .int (nI m)), (19, .int (nI (k + 1)))]) rfl (by rw [show nI (k + 1) = nI k + 1 from (nI_1 k).symm]; rfl) K1
set_option maxRecDepth 100000 in
theorem k_1127 {dd m nc ns : Nat} (K : nc ≤ 700 ∧ ns ≤ 4200 ∧ Q (.inl (some (.int 1))) (S, N, J)) : EE (SJ (d + 11) 126 (Wp (d + 10)) Q) (945, [(0, .ref (A + 1)), (3, .int 1), (14, .long (lz dd)), (18, .int (nI m)), (19, .int (nI m))], [], (S, N, J), nc, ns) := by
  refine EE.runN (stop := noStop) 20 _ ?_
  refine ⟨fun _ => ?_, fun z => absurd (Int32.le_refl _) z⟩
  exact ⟨⟨K.1, K.2.1⟩, Or.inr rfl, K.2.2⟩
end
