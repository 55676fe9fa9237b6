/-! THE LAW: follows, its segments: written by wip/p31/fol.py -/
section
variable {A d : Nat} {S : Sc} {N : Nat → Nat → Int32} {J : Nat → Nat → Int64} {B : Nat} {T : Tx} {ρ σ : Rw} {P : Pst9} {V : Sav} {Q : Res → Wd → Prop}
set_option maxRecDepth 100000 in
set_option maxHeartbeats 2000000 in
theorem f_0 (hs : Scn A S) (h : RI B T (ρ) P (V) (pbM A N)) (hB : B < 980000) {k t : Nat} {nc ns : Nat} (hk : k < 1000000000000) (hk2 : k < 2147483648) (hb : ρ 3 = 0 ∨ ρ 3 = 1) (e5 : ρ 5 = nI t) (ht : t < 1000000) (hnc : nc + 210 ≤ 2400) (hns : ns + 1260 ≤ 14400) (K : ∀ N' P' o nc' ns', ((o = 1 ∧ ρ 3 = 1) ∨ (o = 0 ∧ ρ 3 = 0)) → Frm A N N' → RI B T (ρ) P' (keep V 1 ρ) (pbM A N') → nc' ≤ nc + 210 → ns' ≤ ns + 1260 → EE (SJ (d + 11) 127 (Wp (d + 10)) Q) (83, [(9, .int 1), (7, .long (lz t)), (6, .int o), (5, .int (nI (k / 36 % 3))), (4, .int (nI (1 + k % 36))), (2, .long (nowV ρ)), (0, .ref (A + 1)), (1, .int (nI k))], [], (S, N', J), nc', ns')) : EE (SJ (d + 11) 127 (Wp (d + 10)) Q) (0, [(0, .ref (A + 1)), (1, .int (nI k))], [], (S, N, J), nc, ns) := by
  obtain ⟨g98, g98b, g101, g101b, g102, g102b, g103, g103b, g108, g108b, g109, g109b, g110, g110b, g113, g113b, g114, g114b, g115, g115b, g116, g116b, g117, g117b, g118, g118b, g121, g121b, g122, g122b, g123, g123b, g124, g124b, g127, g127b⟩ := mjB
  refine EE.runN (stop := atPc [83]) 90 _ ?_
  have e1 : (1 : Int32) + (nI k - nI k / 36 * 36) = nI (1 + k % 36) := by
    rw [show (36 : Int32) = nI 36 from rfl, pk_div (by omega) (by omega) (by omega), pk_mul, pk_sub (by omega), show k - k / 36 * 36 = k % 36 by omega, o_1, nI_add]
  have e2 : nI k / 36 - nI k / 36 / 3 * 3 = nI (k / 36 % 3) := by
    rw [show (36 : Int32) = nI 36 from rfl, show (3 : Int32) = nI 3 from rfl, pk_div (by omega) (by omega) (by omega), pk_div (by omega) (by omega) (by omega), pk_mul, pk_sub (by omega), show k / 36 - k / 36 / 3 * 3 = k / 36 % 3 by omega]
  refine ⟨⟨Nat.le_of_ble_eq_true rfl, (by omega), (by omega)⟩, _, Z_now hs h (by omega), ?_⟩
  rintro rs_ w1 ⟨N1, rfl, hG1, h1, rfl⟩
  refine ⟨Or.inl rfl, ?_⟩
  refine ⟨by decide, by decide, by decide, ⟨Nat.le_of_ble_eq_true rfl, (by omega), (by omega)⟩, _, X_about hs h1 (by omega), ?_⟩
  rintro rs_ w1 ⟨N2, rfl, hG2, h2, hr⟩
  have hr : rs_ = .inl (some (.long (ab ρ 3))) := hr
  rw [show ab ρ 3 = _ from ab_o (k := 3) (by omega) (by omega) (by omega) (by omega) (by omega) (by omega)] at hr
  subst hr
  refine ⟨Or.inl rfl, ?_⟩
  rcases hb with g | g
  · refine ⟨fun _ => ?_, fun z => absurd (cmp0.mp z) (by rw [g]; decide)⟩
    refine ⟨⟨Nat.le_of_ble_eq_true rfl, (by omega), (by omega)⟩, _, X_about hs h2 (by omega), ?_⟩
    rintro rs_ w1 ⟨N3, rfl, hG3, h3, hr⟩
    have hr : rs_ = .inl (some (.long (ab ρ 5))) := hr
    rw [show ab ρ 5 = _ from ab_o (k := 5) (by omega) (by omega) (by omega) (by omega) (by omega) (by omega), e5, lz_n (show t < 2147483648 by omega)] at hr
    subst hr
    refine ⟨Or.inl rfl, ?_⟩
    refine ⟨⟨Nat.le_of_ble_eq_true rfl, (by omega), (by omega)⟩, _, U_save hs h3 (by omega) e5 (by omega), ?_⟩
    rintro rs_ w1 ⟨N4, rfl, hG4, h4, rfl⟩
    refine ⟨Or.inl rfl, ?_⟩
    refine ⟨fun z => absurd (cmp0.mpr rfl) z, fun _ => ?_⟩
    refine ⟨⟨Nat.le_of_ble_eq_true rfl, (by omega), (by omega)⟩, _, X_sim hs h4 (by omega), ?_⟩
    rintro rs_ w1 ⟨N5, rfl, hG5, h5, rfl⟩
    refine ⟨Or.inl rfl, ?_⟩
    refine ⟨⟨Nat.le_of_ble_eq_true rfl, (by omega), (by omega)⟩, _, X_sim hs h5 (by omega), ?_⟩
    rintro rs_ w1 ⟨N6, rfl, hG6, h6, rfl⟩
    refine ⟨Or.inl rfl, ?_⟩
    refine ⟨fun z => absurd (cmp0.mpr rfl) z, fun _ => ?_⟩
    refine ee_ls (ls := [(9, .int 1), (7, .long (lz t)), (6, .int 0), (5, .int (nI k / 36 - nI k / 36 / 3 * 3)), (4, .int (1 + (nI k - nI k / 36 * 36))), (2, .long (nowV ρ)), (0, .ref (A + 1)), (1, .int (nI k))]) [(9, .int 1), (7, .long (lz t)), (6, .int 0), (5, .int (nI (k / 36 % 3))), (4, .int (nI (1 + k % 36))), (2, .long (nowV ρ)), (0, .ref (A + 1)), (1, .int (nI k))] (by rw [e1, e2]) ?_
    exact K N6 P 0 _ _ (Or.inr ⟨rfl, g⟩) (((((hG1.tr hG2).tr hG3).tr hG4).tr hG5).tr hG6)  h6 (by omega) (by omega)
  · refine ⟨fun z => absurd (cmp0.mpr (by rw [g]; rfl)) z, fun _ => ?_⟩
    refine ⟨⟨Nat.le_of_ble_eq_true rfl, (by omega), (by omega)⟩, _, X_about hs h2 (by omega), ?_⟩
    rintro rs_ w1 ⟨N3, rfl, hG3, h3, hr⟩
    have hr : rs_ = .inl (some (.long (ab ρ 5))) := hr
    rw [show ab ρ 5 = _ from ab_o (k := 5) (by omega) (by omega) (by omega) (by omega) (by omega) (by omega), e5, lz_n (show t < 2147483648 by omega)] at hr
    subst hr
    refine ⟨Or.inl rfl, ?_⟩
    refine ⟨⟨Nat.le_of_ble_eq_true rfl, (by omega), (by omega)⟩, _, U_save hs h3 (by omega) e5 (by omega), ?_⟩
    rintro rs_ w1 ⟨N4, rfl, hG4, h4, rfl⟩
    refine ⟨Or.inl rfl, ?_⟩
    refine ⟨fun z => absurd (cmp0.mpr rfl) z, fun _ => ?_⟩
    refine ⟨⟨Nat.le_of_ble_eq_true rfl, (by omega), (by omega)⟩, _, X_sim hs h4 (by omega), ?_⟩
    rintro rs_ w1 ⟨N5, rfl, hG5, h5, rfl⟩
    refine ⟨Or.inl rfl, ?_⟩
    refine ⟨⟨Nat.le_of_ble_eq_true rfl, (by omega), (by omega)⟩, _, X_sim hs h5 (by omega), ?_⟩
    rintro rs_ w1 ⟨N6, rfl, hG6, h6, rfl⟩
    refine ⟨Or.inl rfl, ?_⟩
    refine ⟨fun z => absurd (cmp0.mpr rfl) z, fun _ => ?_⟩
    refine ee_ls (ls := [(9, .int 1), (7, .long (lz t)), (6, .int 1), (5, .int (nI k / 36 - nI k / 36 / 3 * 3)), (4, .int (1 + (nI k - nI k / 36 * 36))), (2, .long (nowV ρ)), (0, .ref (A + 1)), (1, .int (nI k))]) [(9, .int 1), (7, .long (lz t)), (6, .int 1), (5, .int (nI (k / 36 % 3))), (4, .int (nI (1 + k % 36))), (2, .long (nowV ρ)), (0, .ref (A + 1)), (1, .int (nI k))] (by rw [e1, e2]) ?_
    exact K N6 P 1 _ _ (Or.inl ⟨rfl, g⟩) (((((hG1.tr hG2).tr hG3).tr hG4).tr hG5).tr hG6)  h6 (by omega) (by omega)
set_option maxRecDepth 100000 in
set_option maxHeartbeats 2000000 in
theorem f_o1 (hs : Scn A S) (h : RI B T (ρ) P (V) (pbM A N)) (hB : B < 980000) {k t q kd v : Nat} {nc ns : Nat} (h3 : ρ 3 = 0) (hv4 : rPower ρ 4 = nI v) (hv6 : rPower ρ 6 = nI v) (hvt : v ≤ t) (ht : t < 1000000) (hnc : nc + 3 ≤ 2400) (hns : ns + 18 ≤ 14400) (K : ∀ N' P'  nc' ns', Frm A N N' → Hs [ρ] P' → RI (B + 1000) T (rPower ρ) P' (V) (pbM A N') → nc' ≤ nc + 3 → ns' ≤ ns + 18 → EE (SJ (d + 11) 127 (Wp (d + 10)) Q) (137, [(10, .long (lz v)), (9, .int 1), (7, .long (lz t)), (6, .int 0), (5, .int (nI kd)), (4, .int (nI q)), (2, .long (nowV ρ)), (0, .ref (A + 1)), (1, .int (nI k))], [], (S, N', J), nc', ns')) : EE (SJ (d + 11) 127 (Wp (d + 10)) Q) (83, [(9, .int 1), (7, .long (lz t)), (6, .int 0), (5, .int (nI kd)), (4, .int (nI q)), (2, .long (nowV ρ)), (0, .ref (A + 1)), (1, .int (nI k))], [], (S, N, J), nc, ns) := by
  obtain ⟨g98, g98b, g101, g101b, g102, g102b, g103, g103b, g108, g108b, g109, g109b, g110, g110b, g113, g113b, g114, g114b, g115, g115b, g116, g116b, g117, g117b, g118, g118b, g121, g121b, g122, g122b, g123, g123b, g124, g124b, g127, g127b⟩ := mjB
  refine EE.runN (stop := atPc [137]) 90 _ ?_
  have p30 : ¬ rPower ρ 3 = 0 := by rw [rPower_3]; decide
  refine ⟨fun z => absurd rfl z, fun _ => ?_⟩
  refine ⟨fun z => absurd z (by decide), fun _ => ?_⟩
  refine ⟨⟨Nat.le_of_ble_eq_true rfl, (by omega), (by omega)⟩, _, U_start hs h (by omega) Hs.nil (by decide) h3 hv4 (by omega), ?_⟩
  rintro rs_ w1 ⟨N1, rfl, hG1, P1, hP1, h1, rfl⟩
  refine ⟨Or.inl rfl, ?_⟩
  refine ⟨fun z => absurd (lcmp_lt.mp z) (by rw [show (0 : Int64) = lz 0 from rfl, lz_lt (by omega) (by omega) (by omega) (by omega)]; omega), fun _ => ?_⟩
  refine ⟨⟨Nat.le_of_ble_eq_true rfl, (by omega), (by omega)⟩, _, X_about hs h1 (by omega), ?_⟩
  rintro rs_ w1 ⟨N2, rfl, hG2, h2, hr⟩
  have hr : rs_ = .inl (some (.long (ab (rPower ρ) 4))) := hr
  rw [show ab (rPower ρ) 4 = _ from ab_p (k := 4) (by omega), if_neg p30, hv4, lz_n (show v < 2147483648 by omega)] at hr
  subst hr
  refine ⟨Or.inl rfl, ?_⟩
  refine ⟨fun z => absurd (cmp0.mpr rfl) z, fun _ => ?_⟩
  refine ⟨⟨Nat.le_of_ble_eq_true rfl, (by omega), (by omega)⟩, _, X_about hs h2 (by omega), ?_⟩
  rintro rs_ w1 ⟨N3, rfl, hG3, h3, hr⟩
  have hr : rs_ = .inl (some (.long (ab (rPower ρ) 6))) := hr
  rw [show ab (rPower ρ) 6 = _ from ab_p (k := 6) (by omega), if_neg p30, hv6, lz_n (show v < 2147483648 by omega)] at hr
  subst hr
  refine ⟨Or.inl rfl, ?_⟩
  refine ⟨fun z => absurd (cmp0.mpr rfl) z, fun _ => ?_⟩
  refine ⟨fun z => absurd (lcmp_gt.mp z) (by rw [lz_lt (by omega) (by omega) (by omega) (by omega)]; omega), fun _ => ?_⟩
  exact K N3 P1  _ _  ((hG1.tr hG2).tr hG3) hP1 h3 (by omega) (by omega)
set_option maxRecDepth 100000 in
set_option maxHeartbeats 2000000 in
theorem f_o2 (hs : Scn A S) (h : RI B T (σ) P (V) (pbM A N)) (hB : B < 980000) {k t q kd v n cc : Nat} {nc ns : Nat} (hP : Hs [ρ] P) (p30 : ¬ σ 3 = 0) (hv7 : σ 7 = nI cc) (ec : (σ 0).toNatClampNeg = n) (hn : n ≤ 12) (hcc : cc < n) (hv : v = 0 ∨ rSays σ cc = nI v) (hv2 : v < 1000000) (hnc : nc + 2 ≤ 2400) (hns : ns + 12 ≤ 14400) (K : ∀ N' P'  nc' ns', Frm A N N' → Hs [ρ] P' → RI B T (σ) P' (V) (pbM A N') → nc' ≤ nc + 2 → ns' ≤ ns + 12 → EE (SJ (d + 11) 127 (Wp (d + 10)) Q) (161, [(10, .long (lz v)), (9, .int 1), (7, .long (lz t)), (6, .int 0), (5, .int (nI kd)), (4, .int (nI q)), (2, .long (nowV ρ)), (0, .ref (A + 1)), (1, .int (nI k))], [], (S, N', J), nc', ns')) : EE (SJ (d + 11) 127 (Wp (d + 10)) Q) (137, [(10, .long (lz v)), (9, .int 1), (7, .long (lz t)), (6, .int 0), (5, .int (nI kd)), (4, .int (nI q)), (2, .long (nowV ρ)), (0, .ref (A + 1)), (1, .int (nI k))], [], (S, N, J), nc, ns) := by
  obtain ⟨g98, g98b, g101, g101b, g102, g102b, g103, g103b, g108, g108b, g109, g109b, g110, g110b, g113, g113b, g114, g114b, g115, g115b, g116, g116b, g117, g117b, g118, g118b, g121, g121b, g122, g122b, g123, g123b, g124, g124b, g127, g127b⟩ := mjB
  refine EE.runN (stop := atPc [161]) 90 _ ?_
  refine ⟨fun _ => K N P _ _ (Frm.rf _ _) hP h (by omega) (by omega), fun z => ?_⟩
  have hv : rSays σ cc = nI v := hv.resolve_left (fun y => z (cmp0.mpr (by rw [y]; rfl)))
  refine ⟨⟨Nat.le_of_ble_eq_true rfl, (by omega), (by omega)⟩, _, X_about hs h (by omega), ?_⟩
  rintro rs_ w1 ⟨N1, rfl, hG1, h1, hr⟩
  have hr : rs_ = .inl (some (.long (ab σ 7))) := hr
  rw [show ab σ 7 = _ from ab_p (k := 7) (by omega), if_neg p30, hv7] at hr
  subst hr
  refine ⟨Or.inl rfl, ?_⟩
  refine ⟨⟨Nat.le_of_ble_eq_true rfl, (by omega), (by omega)⟩, _, X_says hs h1 (by omega), ?_⟩
  rintro rs_ w1 ⟨N2, rfl, hG2, h2, hr⟩
  have hr : rs_ = .inl (some (.long (eL (fun c => 2) (aSays σ (σ 0).toNatClampNeg (nI cc).toInt64.toInt32)))) := hr
  rw [l2i_n, sa_v ec hn hcc, hv, lz_n (show v < 2147483648 by omega)] at hr
  subst hr
  refine ⟨Or.inl rfl, ?_⟩
  refine ⟨fun z => absurd (cmp0.mpr rfl) z, fun _ => ?_⟩
  exact K N2 P  _ _  (hG1.tr hG2) hP h2 (by omega) (by omega)
set_option maxRecDepth 100000 in
set_option maxHeartbeats 2000000 in
theorem f_o3 (hs : Scn A S) (h : RI B T (σ) P (V) (pbM A N)) (hB : B < 980000) {k t q kd v : Nat} {nc ns : Nat} (hP : Hs [ρ] P) (hnc : nc + 201 ≤ 2400) (hns : ns + 1206 ≤ 14400) (K : ∀ N' P'  nc' ns', Frm A N N' → RI B T (ρ) P' (V) (pbM A N') → nc' ≤ nc + 201 → ns' ≤ ns + 1206 → EE (SJ (d + 11) 127 (Wp (d + 10)) Q) (750, [(9, .int 1), (10, .long (lz v)), (7, .long (lz t)), (6, .int 0), (5, .int (nI kd)), (4, .int (nI q)), (2, .long (nowV ρ)), (0, .ref (A + 1)), (1, .int (nI k))], [], (S, N', J), nc', ns')) : EE (SJ (d + 11) 127 (Wp (d + 10)) Q) (161, [(10, .long (lz v)), (9, .int 1), (7, .long (lz t)), (6, .int 0), (5, .int (nI kd)), (4, .int (nI q)), (2, .long (nowV ρ)), (0, .ref (A + 1)), (1, .int (nI k))], [], (S, N, J), nc, ns) := by
  obtain ⟨g98, g98b, g101, g101b, g102, g102b, g103, g103b, g108, g108b, g109, g109b, g110, g110b, g113, g113b, g114, g114b, g115, g115b, g116, g116b, g117, g117b, g118, g118b, g121, g121b, g122, g122b, g123, g123b, g124, g124b, g127, g127b⟩ := mjB
  refine EE.runN (stop := atPc [750]) 90 _ ?_
  refine ⟨⟨Nat.le_of_ble_eq_true rfl, (by omega), (by omega)⟩, _, U_undo hs h (by omega) hP, ?_⟩
  rintro rs_ w1 ⟨N1, rfl, hG1, P1, r1, hr1, hP1, h1, rfl⟩
  refine ⟨Or.inl rfl, ?_⟩
  refine ⟨fun z => absurd (lcmp_lt.mp z) (by rw [show (0 : Int64) = lz 0 from rfl, lz_lt (by omega) (by omega) (by omega) (by omega)]; omega), fun _ => ?_⟩
  refine ⟨⟨Nat.le_of_ble_eq_true rfl, (by omega), (by omega)⟩, _, Z_now hs h1 (by omega), ?_⟩
  rintro rs_ w1 ⟨N2, rfl, hG2, h2, rfl⟩
  refine ⟨Or.inl rfl, ?_⟩
  refine ⟨fun z => absurd (cmp0.mpr rfl) z, fun _ => ?_⟩
  refine ⟨fun _ => ?_, fun z => absurd rfl z⟩
  exact K N2 P1  _ _  (hG1.tr hG2)  h2 (by omega) (by omega)
set_option maxRecDepth 100000 in
set_option maxHeartbeats 2000000 in
theorem f_n1 (hs : Scn A S) (h : RI B T (ρ) P (V) (pbM A N)) (hB : B < 980000) {k t q kd dd ss f : Nat} {nc ns : Nat} (hk2 : k < 2147483648) (hf : 1 + k / 7 % 300 = f) (h30 : ¬ ρ 3 = 0) (e4 : ρ 4 = nI dd) (e6 : ρ 6 = nI ss) (hdd : dd < 1000000) (hss : ss ≤ dd) (hnc : nc + 2 ≤ 2400) (hns : ns + 12 ≤ 14400) (K : ∀ N' P'  nc' ns', Frm A N N' → RI B T (ρ) P' (V) (pbM A N') → nc' ≤ nc + 2 → ns' ≤ ns + 12 → EE (SJ (d + 11) 127 (Wp (d + 10)) Q) (223, [(14, .int (nI f)), (12, .long (lz ss)), (10, .long (lz dd)), (9, .int 1), (7, .long (lz t)), (6, .int 1), (5, .int (nI kd)), (4, .int (nI q)), (2, .long (nowV ρ)), (0, .ref (A + 1)), (1, .int (nI k))], [], (S, N', J), nc', ns')) : EE (SJ (d + 11) 127 (Wp (d + 10)) Q) (83, [(9, .int 1), (7, .long (lz t)), (6, .int 1), (5, .int (nI kd)), (4, .int (nI q)), (2, .long (nowV ρ)), (0, .ref (A + 1)), (1, .int (nI k))], [], (S, N, J), nc, ns) := by
  obtain ⟨g98, g98b, g101, g101b, g102, g102b, g103, g103b, g108, g108b, g109, g109b, g110, g110b, g113, g113b, g114, g114b, g115, g115b, g116, g116b, g117, g117b, g118, g118b, g121, g121b, g122, g122b, g123, g123b, g124, g124b, g127, g127b⟩ := mjB
  refine EE.runN (stop := atPc [223]) 90 _ ?_
  have e1 : (1 : Int32) + (nI k / 7 - nI k / 7 / 300 * 300) = nI f := by
    rw [show (7 : Int32) = nI 7 from rfl, show (300 : Int32) = nI 300 from rfl, pk_div (by omega) (by omega) (by omega), pk_div (by omega) (by omega) (by omega), pk_mul, pk_sub (by omega), show k / 7 - k / 7 / 300 * 300 = k / 7 % 300 by omega, o_1, nI_add, hf]
  refine ⟨fun _ => ?_, fun z => absurd z (by decide)⟩
  refine ⟨fun z => absurd z (by decide), fun _ => ?_⟩
  refine ⟨fun z => absurd z (by decide), fun _ => ?_⟩
  refine ⟨⟨Nat.le_of_ble_eq_true rfl, (by omega), (by omega)⟩, _, X_about hs h (by omega), ?_⟩
  rintro rs_ w1 ⟨N1, rfl, hG1, h1, hr⟩
  have hr : rs_ = .inl (some (.long (ab ρ 4))) := hr
  rw [show ab ρ 4 = _ from ab_p (k := 4) (by omega), if_neg h30, e4, lz_n (show dd < 2147483648 by omega)] at hr
  subst hr
  refine ⟨Or.inl rfl, ?_⟩
  refine ⟨⟨Nat.le_of_ble_eq_true rfl, (by omega), (by omega)⟩, _, X_about hs h1 (by omega), ?_⟩
  rintro rs_ w1 ⟨N2, rfl, hG2, h2, hr⟩
  have hr : rs_ = .inl (some (.long (ab ρ 6))) := hr
  rw [show ab ρ 6 = _ from ab_p (k := 6) (by omega), if_neg h30, e6, lz_n (show ss < 2147483648 by omega)] at hr
  subst hr
  refine ⟨Or.inl rfl, ?_⟩
  refine ⟨by decide, by decide, ?_⟩
  refine ee_ls (ls := [(14, .int (1 + (nI k / 7 - nI k / 7 / 300 * 300))), (12, .long (lz ss)), (10, .long (lz dd)), (9, .int 1), (7, .long (lz t)), (6, .int 1), (5, .int (nI kd)), (4, .int (nI q)), (2, .long (nowV ρ)), (0, .ref (A + 1)), (1, .int (nI k))]) [(14, .int (nI f)), (12, .long (lz ss)), (10, .long (lz dd)), (9, .int 1), (7, .long (lz t)), (6, .int 1), (5, .int (nI kd)), (4, .int (nI q)), (2, .long (nowV ρ)), (0, .ref (A + 1)), (1, .int (nI k))] (by rw [e1]) ?_
  exact K N2 P  _ _  (hG1.tr hG2)  h2 (by omega) (by omega)
set_option maxRecDepth 100000 in
set_option maxHeartbeats 2000000 in
theorem f_n2 (hs : Scn A S) (h : RI B T (ρ) P (V) (pbM A N)) (hB : B < 980000) {k t q kd dd ss f : Nat} {nc ns : Nat} (h3 : ρ 3 = 1) (hf1 : 1 ≤ f) (hf2 : f ≤ 300) (hg1 : 1 ≤ rGone f ρ) (hg2 : rGone f ρ ≤ f) (e5 : rGo f ρ 5 = nI (t + rGone f ρ)) (ht : t < 1000000) (hdd : dd < 1000000) (hoff : (rGo f ρ 3 = 0 ∧ ∃ cc, 1 ≤ cc ∧ cc < 10000000 ∧ rGo f ρ 9 = nI cc) ∨ (rGo f ρ 3 = 1 ∧ rGone f ρ = f ∧ rGo f ρ 4 = nI (dd + f))) (hnc : nc + 4 ≤ 2400) (hns : ns + 24 ≤ 14400) (K : ∀ N' P'  nc' ns', Frm A N N' → Hs [ρ] P' → RI (B + 1000) T (rGo f ρ) P' (V) (pbM A N') → nc' ≤ nc + 4 → ns' ≤ ns + 24 → EE (SJ (d + 11) 127 (Wp (d + 10)) Q) (304, [(15, .long (lz (rGone f ρ))), (14, .int (nI f)), (12, .long (lz ss)), (10, .long (lz dd)), (9, .int 1), (7, .long (lz t)), (6, .int 1), (5, .int (nI kd)), (4, .int (nI q)), (2, .long (nowV ρ)), (0, .ref (A + 1)), (1, .int (nI k))], [], (S, N', J), nc', ns')) : EE (SJ (d + 11) 127 (Wp (d + 10)) Q) (223, [(14, .int (nI f)), (12, .long (lz ss)), (10, .long (lz dd)), (9, .int 1), (7, .long (lz t)), (6, .int 1), (5, .int (nI kd)), (4, .int (nI q)), (2, .long (nowV ρ)), (0, .ref (A + 1)), (1, .int (nI k))], [], (S, N, J), nc, ns) := by
  obtain ⟨g98, g98b, g101, g101b, g102, g102b, g103, g103b, g108, g108b, g109, g109b, g110, g110b, g113, g113b, g114, g114b, g115, g115b, g116, g116b, g117, g117b, g118, g118b, g121, g121b, g122, g122b, g123, g123b, g124, g124b, g127, g127b⟩ := mjB
  refine EE.runN (stop := atPc [304]) 90 _ ?_
  have eg2 : (1 : Int64) ≤ lz (rGone f ρ) ∧ lz (rGone f ρ) ≤ (nI f).toInt64 := by
    rw [lz_n (show f < 2147483648 by omega), show (1 : Int64) = lz 1 from rfl, lz_le (by omega) (by omega) (by omega) (by omega), lz_le (by omega) (by omega) (by omega) (by omega)]
    omega
  have eT : lz ((t + rGone f ρ : Nat) : Int) = lz t + lz (rGone f ρ) := by rw [lz_add]; rfl
  refine ⟨⟨Nat.le_of_ble_eq_true rfl, (by omega), (by omega)⟩, _, U_drive hs h (by omega) Hs.nil (by decide) h3 hf1 (by omega), ?_⟩
  rintro rs_ w1 ⟨N1, rfl, hG1, P1, hP1, h1, rfl⟩
  refine ⟨Or.inl rfl, ?_⟩
  refine ⟨⟨Nat.le_of_ble_eq_true rfl, (by omega), (by omega)⟩, _, X_in, ?_⟩
  rintro rs_ w1 ⟨hr, rfl⟩
  rw [bI_t eg2] at hr
  subst hr
  refine ⟨Or.inl rfl, ?_⟩
  refine ⟨fun z => absurd z (by decide), fun _ => ?_⟩
  refine ⟨⟨Nat.le_of_ble_eq_true rfl, (by omega), (by omega)⟩, _, X_about hs h1 (by omega), ?_⟩
  rintro rs_ w1 ⟨N2, rfl, hG2, h2, hr⟩
  have hr : rs_ = .inl (some (.long (ab (rGo f ρ) 5))) := hr
  rw [show ab (rGo f ρ) 5 = _ from ab_o (k := 5) (by omega) (by omega) (by omega) (by omega) (by omega) (by omega), e5, lz_n (show t + rGone f ρ < 2147483648 by omega)] at hr
  subst hr
  refine ⟨Or.inl rfl, ?_⟩
  refine ⟨fun z => absurd (cmp0.mpr eT) z, fun _ => ?_⟩
  refine ⟨⟨Nat.le_of_ble_eq_true rfl, (by omega), (by omega)⟩, _, X_about hs h2 (by omega), ?_⟩
  rintro rs_ w1 ⟨N3, rfl, hG3, h3, hr⟩
  have hr : rs_ = .inl (some (.long (ab (rGo f ρ) 3))) := hr
  rw [show ab (rGo f ρ) 3 = _ from ab_o (k := 3) (by omega) (by omega) (by omega) (by omega) (by omega) (by omega)] at hr
  subst hr
  refine ⟨Or.inl rfl, ?_⟩
  rcases hoff with ⟨g, cc, hc1, hcc, e9⟩ | ⟨g, hgf, e4⟩
  · refine ⟨fun z => absurd (cmp0.mpr (by rw [g]; rfl)) z, fun _ => ?_⟩
    refine ⟨⟨Nat.le_of_ble_eq_true rfl, (by omega), (by omega)⟩, _, X_about hs h3 (by omega), ?_⟩
    rintro rs_ w1 ⟨N4, rfl, hG4, h4, hr⟩
    have hr : rs_ = .inl (some (.long (ab (rGo f ρ) 9))) := hr
    rw [show ab (rGo f ρ) 9 = _ from ab_o (k := 9) (by omega) (by omega) (by omega) (by omega) (by omega) (by omega), e9, lz_n (show cc < 2147483648 by omega)] at hr
    subst hr
    refine ⟨Or.inl rfl, ?_⟩
    refine ⟨fun z => absurd (lcmp_le.mp z) (by rw [show (0 : Int64) = lz 0 from rfl, lz_le (by omega) (by omega) (by omega) (by omega)]; omega), fun _ => ?_⟩
    exact K N4 P1  _ _  (((hG1.tr hG2).tr hG3).tr hG4) hP1 h4 (by omega) (by omega)
  · have eD : lz ((dd + f : Nat) : Int) = lz dd + lz (rGone f ρ) := by rw [lz_add, hgf]; rfl
    refine ⟨fun _ => ?_, fun z => absurd (cmp0.mp z) (by rw [g]; decide)⟩
    refine ⟨fun z => absurd (cmp0.mpr (by rw [hgf, lz_n (show f < 2147483648 by omega)])) z, fun _ => ?_⟩
    refine ⟨⟨Nat.le_of_ble_eq_true rfl, (by omega), (by omega)⟩, _, X_about hs h3 (by omega), ?_⟩
    rintro rs_ w1 ⟨N4, rfl, hG4, h4, hr⟩
    have hr : rs_ = .inl (some (.long (ab (rGo f ρ) 4))) := hr
    rw [show ab (rGo f ρ) 4 = _ from ab_p (k := 4) (by omega), if_neg (show ¬ rGo f ρ 3 = 0 by rw [g]; decide), e4, lz_n (show dd + f < 2147483648 by omega)] at hr
    subst hr
    refine ⟨Or.inl rfl, ?_⟩
    refine ⟨fun z => absurd (cmp0.mpr eD) z, fun _ => ?_⟩
    exact K N4 P1  _ _  (((hG1.tr hG2).tr hG3).tr hG4) hP1 h4 (by omega) (by omega)
set_option maxRecDepth 100000 in
set_option maxHeartbeats 2000000 in
theorem f_n3 (hs : Scn A S) (h : RI B T (σ) P (V) (pbM A N)) (hB : B < 980000) {k t q kd dd ss f gg : Nat} {nc ns : Nat} (hP : Hs [ρ] P) (hnc : nc + 201 ≤ 2400) (hns : ns + 1206 ≤ 14400) (K : ∀ N' P'  nc' ns', Frm A N N' → RI B T (ρ) P' (V) (pbM A N') → nc' ≤ nc + 201 → ns' ≤ ns + 1206 → EE (SJ (d + 11) 127 (Wp (d + 10)) Q) (329, [(9, .int 1), (15, .long (lz gg)), (14, .int (nI f)), (12, .long (lz ss)), (10, .long (lz dd)), (7, .long (lz t)), (6, .int 1), (5, .int (nI kd)), (4, .int (nI q)), (2, .long (nowV ρ)), (0, .ref (A + 1)), (1, .int (nI k))], [], (S, N', J), nc', ns')) : EE (SJ (d + 11) 127 (Wp (d + 10)) Q) (304, [(15, .long (lz gg)), (14, .int (nI f)), (12, .long (lz ss)), (10, .long (lz dd)), (9, .int 1), (7, .long (lz t)), (6, .int 1), (5, .int (nI kd)), (4, .int (nI q)), (2, .long (nowV ρ)), (0, .ref (A + 1)), (1, .int (nI k))], [], (S, N, J), nc, ns) := by
  obtain ⟨g98, g98b, g101, g101b, g102, g102b, g103, g103b, g108, g108b, g109, g109b, g110, g110b, g113, g113b, g114, g114b, g115, g115b, g116, g116b, g117, g117b, g118, g118b, g121, g121b, g122, g122b, g123, g123b, g124, g124b, g127, g127b⟩ := mjB
  refine EE.runN (stop := atPc [329]) 90 _ ?_
  refine ⟨⟨Nat.le_of_ble_eq_true rfl, (by omega), (by omega)⟩, _, U_undo hs h (by omega) hP, ?_⟩
  rintro rs_ w1 ⟨N1, rfl, hG1, P1, r1, hr1, hP1, h1, rfl⟩
  refine ⟨Or.inl rfl, ?_⟩
  refine ⟨fun z => absurd (lcmp_lt.mp z) (by rw [show (0 : Int64) = lz 0 from rfl, lz_lt (by omega) (by omega) (by omega) (by omega)]; omega), fun _ => ?_⟩
  refine ⟨⟨Nat.le_of_ble_eq_true rfl, (by omega), (by omega)⟩, _, Z_now hs h1 (by omega), ?_⟩
  rintro rs_ w1 ⟨N2, rfl, hG2, h2, rfl⟩
  refine ⟨Or.inl rfl, ?_⟩
  refine ⟨fun z => absurd (cmp0.mpr rfl) z, fun _ => ?_⟩
  exact K N2 P1  _ _  (hG1.tr hG2)  h2 (by omega) (by omega)
set_option maxRecDepth 100000 in
set_option maxHeartbeats 2000000 in
theorem f_d (hs : Scn A S) (h : RI B T (ρ) P (V) (pbM A N)) (hB : B < 980000) {k t q kd dd ss f gg : Nat} {nc ns : Nat} (h12 : ρ 12 = 1) (hnc : nc + 1 ≤ 2400) (hns : ns + 6 ≤ 14400) (K : ∀ N' P'  nc' ns', Frm A N N' → RI B T (ρ) P' (V) (pbM A N') → nc' ≤ nc + 1 → ns' ≤ ns + 6 → EE (SJ (d + 11) 127 (Wp (d + 10)) Q) (619, [(9, .int 1), (15, .long (lz gg)), (14, .int (nI f)), (12, .long (lz ss)), (10, .long (lz dd)), (7, .long (lz t)), (6, .int 1), (5, .int (nI kd)), (4, .int (nI q)), (2, .long (nowV ρ)), (0, .ref (A + 1)), (1, .int (nI k))], [], (S, N', J), nc', ns')) : EE (SJ (d + 11) 127 (Wp (d + 10)) Q) (329, [(9, .int 1), (15, .long (lz gg)), (14, .int (nI f)), (12, .long (lz ss)), (10, .long (lz dd)), (7, .long (lz t)), (6, .int 1), (5, .int (nI kd)), (4, .int (nI q)), (2, .long (nowV ρ)), (0, .ref (A + 1)), (1, .int (nI k))], [], (S, N, J), nc, ns) := by
  obtain ⟨g98, g98b, g101, g101b, g102, g102b, g103, g103b, g108, g108b, g109, g109b, g110, g110b, g113, g113b, g114, g114b, g115, g115b, g116, g116b, g117, g117b, g118, g118b, g121, g121b, g122, g122b, g123, g123b, g124, g124b, g127, g127b⟩ := mjB
  refine EE.runN (stop := atPc [619]) 90 _ ?_
  refine ⟨⟨Nat.le_of_ble_eq_true rfl, (by omega), (by omega)⟩, _, X_about hs h (by omega), ?_⟩
  rintro rs_ w1 ⟨N1, rfl, hG1, h1, hr⟩
  have hr : rs_ = .inl (some (.long (ab ρ 12))) := hr
  rw [show ab ρ 12 = _ from ab_o (k := 12) (by omega) (by omega) (by omega) (by omega) (by omega) (by omega), h12] at hr
  subst hr
  refine ⟨Or.inl rfl, ?_⟩
  refine ⟨fun _ => ?_, fun z => absurd (cmp0.mp z) (by decide)⟩
  exact K N1 P  _ _  hG1  h1 (by omega) (by omega)
set_option maxRecDepth 100000 in
set_option maxHeartbeats 2000000 in
theorem f_l1 (hs : Scn A S) (h : RI B T (ρ) P (V) (pbM A N)) (hB : B < 980000) {k t q kd dd ss f gg v w : Nat} {nc ns : Nat} (h12 : ρ 12 = 0) (hA : aAfter ρ (nI q) (nI kd) = (0, nI v)) (hW : aWorst ρ = (0, nI (dd - w))) (hdd : dd < 1000000) (hv1 : ss ≤ v) (hv2 : v ≤ dd) (hw1 : ss ≤ w) (hw2 : w ≤ v) (hnc : nc + 203 ≤ 2400) (hns : ns + 1218 ≤ 14400) (K : ∀ N' P'  nc' ns', Frm A N N' → RI B T (ρ) P' (V) (pbM A N') → nc' ≤ nc + 203 → ns' ≤ ns + 1218 → EE (SJ (d + 11) 127 (Wp (d + 10)) Q) (415, [(9, .int 1), (19, .long (lz ((dd - w : Nat) : Int))), (17, .long (lz v)), (15, .long (lz gg)), (14, .int (nI f)), (12, .long (lz ss)), (10, .long (lz dd)), (7, .long (lz t)), (6, .int 1), (5, .int (nI kd)), (4, .int (nI q)), (2, .long (nowV ρ)), (0, .ref (A + 1)), (1, .int (nI k))], [], (S, N', J), nc', ns')) : EE (SJ (d + 11) 127 (Wp (d + 10)) Q) (329, [(9, .int 1), (15, .long (lz gg)), (14, .int (nI f)), (12, .long (lz ss)), (10, .long (lz dd)), (7, .long (lz t)), (6, .int 1), (5, .int (nI kd)), (4, .int (nI q)), (2, .long (nowV ρ)), (0, .ref (A + 1)), (1, .int (nI k))], [], (S, N, J), nc, ns) := by
  obtain ⟨g98, g98b, g101, g101b, g102, g102b, g103, g103b, g108, g108b, g109, g109b, g110, g110b, g113, g113b, g114, g114b, g115, g115b, g116, g116b, g117, g117b, g118, g118b, g121, g121b, g122, g122b, g123, g123b, g124, g124b, g127, g127b⟩ := mjB
  refine EE.runN (stop := atPc [415]) 90 _ ?_
  refine ⟨⟨Nat.le_of_ble_eq_true rfl, (by omega), (by omega)⟩, _, X_about hs h (by omega), ?_⟩
  rintro rs_ w1 ⟨N1, rfl, hG1, h1, hr⟩
  have hr : rs_ = .inl (some (.long (ab ρ 12))) := hr
  rw [show ab ρ 12 = _ from ab_o (k := 12) (by omega) (by omega) (by omega) (by omega) (by omega) (by omega), h12] at hr
  subst hr
  refine ⟨Or.inl rfl, ?_⟩
  refine ⟨fun z => absurd (cmp0.mpr rfl) z, fun _ => ?_⟩
  refine ⟨fun z => absurd z (by decide), fun _ => ?_⟩
  refine ⟨⟨Nat.le_of_ble_eq_true rfl, (by omega), (by omega)⟩, _, X_after hs h1 (by omega), ?_⟩
  rintro rs_ w1 ⟨N2, rfl, hG2, h2, hr⟩
  have hr : rs_ = .inl (some (.long (eL (fun c => if c = 1 then 0 else 1) (aAfter ρ (nI q) (nI kd))))) := hr
  rw [hA, eL_0 rfl, lz_n (show v < 2147483648 by omega)] at hr
  subst hr
  refine ⟨Or.inl rfl, ?_⟩
  refine ⟨⟨Nat.le_of_ble_eq_true rfl, (by omega), (by omega)⟩, _, X_worst hs h2 (by omega), ?_⟩
  rintro rs_ w1 ⟨N3, rfl, hG3, h3, hr⟩
  have hr : rs_ = .inl (some (.long (eL (fun c => 1) (aWorst ρ)))) := hr
  rw [hW, eL_0 rfl, lz_n (show dd - w < 2147483648 by omega)] at hr
  subst hr
  refine ⟨Or.inl rfl, ?_⟩
  refine ⟨fun z => absurd (lcmp_lt.mp z) (by rw [lz_lt (by omega) (by omega) (by omega) (by omega)]; omega), fun _ => ?_⟩
  refine ⟨fun z => absurd (lcmp_gt.mp z) (by rw [lz_lt (by omega) (by omega) (by omega) (by omega)]; omega), fun _ => ?_⟩
  refine ⟨fun z => absurd (lcmp_lt.mp z) (by rw [lz_sub, lz_lt (by omega) (by omega) (by omega) (by omega)]; omega), fun _ => ?_⟩
  refine ⟨fun z => absurd (lcmp_gt.mp z) (by rw [lz_sub, lz_lt (by omega) (by omega) (by omega) (by omega)]; omega), fun _ => ?_⟩
  refine ⟨⟨Nat.le_of_ble_eq_true rfl, (by omega), (by omega)⟩, _, Z_now hs h3 (by omega), ?_⟩
  rintro rs_ w1 ⟨N4, rfl, hG4, h4, rfl⟩
  refine ⟨Or.inl rfl, ?_⟩
  refine ⟨fun z => absurd (cmp0.mpr rfl) z, fun _ => ?_⟩
  exact K N4 P  _ _  (((hG1.tr hG2).tr hG3).tr hG4)  h4 (by omega) (by omega)
set_option maxRecDepth 100000 in
set_option maxHeartbeats 2000000 in
theorem f_l2 (hs : Scn A S) (h : RI B T (ρ) P (V) (pbM A N)) (hB : B < 980000) {k t q kd dd ss f gg v w : Nat} {x : Int32} {nc ns : Nat} (hk2 : k < 2147483648) (hT : aTill ρ (nI (1 + k / 5 % 99)) = (0, x)) (hx : x = -99999 ∨ ∃ cc, 1 ≤ cc ∧ cc ≤ 9999 ∧ x = nI cc) (hnc : nc + 201 ≤ 2400) (hns : ns + 1206 ≤ 14400) (K : ∀ N' P' r nc' ns', Frm A N N' → RI B T (ρ) P' (V) (pbM A N') → nc' ≤ nc + 201 → ns' ≤ ns + 1206 → EE (SJ (d + 11) 127 (Wp (d + 10)) Q) (471, [(9, .int 1), (21, .long r), (19, .long (lz ((dd - w : Nat) : Int))), (17, .long (lz v)), (15, .long (lz gg)), (14, .int (nI f)), (12, .long (lz ss)), (10, .long (lz dd)), (7, .long (lz t)), (6, .int 1), (5, .int (nI kd)), (4, .int (nI q)), (2, .long (nowV ρ)), (0, .ref (A + 1)), (1, .int (nI k))], [], (S, N', J), nc', ns')) : EE (SJ (d + 11) 127 (Wp (d + 10)) Q) (415, [(9, .int 1), (19, .long (lz ((dd - w : Nat) : Int))), (17, .long (lz v)), (15, .long (lz gg)), (14, .int (nI f)), (12, .long (lz ss)), (10, .long (lz dd)), (7, .long (lz t)), (6, .int 1), (5, .int (nI kd)), (4, .int (nI q)), (2, .long (nowV ρ)), (0, .ref (A + 1)), (1, .int (nI k))], [], (S, N, J), nc, ns) := by
  obtain ⟨g98, g98b, g101, g101b, g102, g102b, g103, g103b, g108, g108b, g109, g109b, g110, g110b, g113, g113b, g114, g114b, g115, g115b, g116, g116b, g117, g117b, g118, g118b, g121, g121b, g122, g122b, g123, g123b, g124, g124b, g127, g127b⟩ := mjB
  refine EE.runN (stop := atPc [471]) 90 _ ?_
  have e1 : (1 : Int32) + (nI k / 5 - nI k / 5 / 99 * 99) = nI (1 + k / 5 % 99) := by
    rw [show (5 : Int32) = nI 5 from rfl, show (99 : Int32) = nI 99 from rfl, pk_div (by omega) (by omega) (by omega), pk_div (by omega) (by omega) (by omega), pk_mul, pk_sub (by omega), show k / 5 - k / 5 / 99 * 99 = k / 5 % 99 by omega, o_1, nI_add]
  refine ⟨by decide, by decide, ⟨Nat.le_of_ble_eq_true rfl, (by omega), (by omega)⟩, _, X_lasts hs h (by omega), ?_⟩
  rintro rs_ w1 ⟨N1, rfl, hG1, h1, hr⟩
  have hr : rs_ = .inl (some (.long (eL (fun c => if c = 1 then 0 else 1) (aTill ρ (1 + (nI k / 5 - nI k / 5 / 99 * 99)))))) := hr
  rw [e1, hT, eL_0 rfl] at hr
  subst hr
  refine ⟨Or.inl rfl, ?_⟩
  refine ⟨fun z => absurd z (by decide), fun _ => ?_⟩
  rcases hx with hx | ⟨cc, hc1, hc2, hx⟩
  · rw [hx]
    refine ⟨fun _ => ?_, fun z => absurd (cmp0.mpr rfl) z⟩
    refine ⟨⟨Nat.le_of_ble_eq_true rfl, (by omega), (by omega)⟩, _, Z_now hs h1 (by omega), ?_⟩
    rintro rs_ w1 ⟨N2, rfl, hG2, h2, rfl⟩
    refine ⟨Or.inl rfl, ?_⟩
    refine ⟨fun z => absurd (cmp0.mpr rfl) z, fun _ => ?_⟩
    exact K N2 P _ _ _  (hG1.tr hG2)  h2 (by omega) (by omega)
  · rw [hx, lz_n (show cc < 2147483648 by omega)]
    have hin : (1 : Int64) ≤ lz cc ∧ lz cc ≤ 9999 := by
      rw [show (1 : Int64) = lz 1 from rfl, show (9999 : Int64) = lz 9999 from rfl, lz_le (by omega) (by omega) (by omega) (by omega), lz_le (by omega) (by omega) (by omega) (by omega)]
      omega
    refine ⟨fun z => ?_, fun z => ?_⟩
    · have z := cmp0.mp z
      rw [show (-99999 : Int64) = lz (-99999) from rfl, lz_eq (by omega) (by omega) (by omega) (by omega)] at z
      omega
    · refine ⟨⟨Nat.le_of_ble_eq_true rfl, (by omega), (by omega)⟩, _, X_in, ?_⟩
      rintro rs_ w1 ⟨hr, rfl⟩
      rw [bI_t hin] at hr
      subst hr
      refine ⟨Or.inl rfl, ?_⟩
      refine ⟨fun z => absurd z (by decide), fun _ => ?_⟩
      refine ⟨⟨Nat.le_of_ble_eq_true rfl, (by omega), (by omega)⟩, _, Z_now hs h1 (by omega), ?_⟩
      rintro rs_ w1 ⟨N2, rfl, hG2, h2, rfl⟩
      refine ⟨Or.inl rfl, ?_⟩
      refine ⟨fun z => absurd (cmp0.mpr rfl) z, fun _ => ?_⟩
      exact K N2 P _ _ _  (hG1.tr hG2)  h2 (by omega) (by omega)
set_option maxRecDepth 100000 in
set_option maxHeartbeats 2000000 in
theorem f_l3 (hs : Scn A S) (h : RI B T (ρ) P (V) (pbM A N)) (hB : B < 980000) {k t q kd dd ss f gg v w : Nat} {m st : Nat} {r : Int64} {nc ns : Nat} (on3 : ρ 3 = 1) (hq1 : 1 ≤ q) (hq2 : q ≤ 36) (hkd : kd ≤ 2) (h10 : ρ 10 = nI m) (hm : m ≤ 36) (hs1 : (upd (upd ρ 10 (nI q)) 11 (nI kd)) 1 = nI st) (hs2 : 1 ≤ st) (hst : st ≤ 99) (hnc : nc + 3 ≤ 2400) (hns : ns + 18 ≤ 14400) (K : ∀ N' P'  nc' ns', Frm A N N' → Hs [upd (upd (upd ρ 10 (nI q)) 11 (nI kd)) 1 1, upd (upd ρ 10 (nI q)) 11 (nI kd), ρ] P' → RI (B + 1000 + 1000 + 1000) T (rGo 1 (upd (upd (upd ρ 10 (nI q)) 11 (nI kd)) 1 1)) P' (V) (pbM A N') → nc' ≤ nc + 3 → ns' ≤ ns + 18 → EE (SJ (d + 11) 127 (Wp (d + 10)) Q) (516, [(9, .int 1), (21, .long r), (19, .long (lz ((dd - w : Nat) : Int))), (17, .long (lz v)), (15, .long (lz gg)), (14, .int (nI f)), (12, .long (lz ss)), (10, .long (lz dd)), (7, .long (lz t)), (6, .int 1), (5, .int (nI kd)), (4, .int (nI q)), (2, .long (nowV ρ)), (0, .ref (A + 1)), (1, .int (nI k))], [], (S, N', J), nc', ns')) : EE (SJ (d + 11) 127 (Wp (d + 10)) Q) (471, [(9, .int 1), (21, .long r), (19, .long (lz ((dd - w : Nat) : Int))), (17, .long (lz v)), (15, .long (lz gg)), (14, .int (nI f)), (12, .long (lz ss)), (10, .long (lz dd)), (7, .long (lz t)), (6, .int 1), (5, .int (nI kd)), (4, .int (nI q)), (2, .long (nowV ρ)), (0, .ref (A + 1)), (1, .int (nI k))], [], (S, N, J), nc, ns) := by
  obtain ⟨g98, g98b, g101, g101b, g102, g102b, g103, g103b, g108, g108b, g109, g109b, g110, g110b, g113, g113b, g114, g114b, g115, g115b, g116, g116b, g117, g117b, g118, g118b, g121, g121b, g122, g122b, g123, g123b, g124, g124b, g127, g127b⟩ := mjB
  refine EE.runN (stop := atPc [516]) 90 _ ?_
  refine ⟨fun z => absurd z (by decide), fun _ => ?_⟩
  refine ⟨⟨Nat.le_of_ble_eq_true rfl, (by omega), (by omega)⟩, _, U_cut hs h (by omega) Hs.nil (by decide) on3 hq1 hq2 hkd h10 hm, ?_⟩
  rintro rs_ w1 ⟨N1, rfl, hG1, P1, hP1, h1, rfl⟩
  refine ⟨Or.inl rfl, ?_⟩
  refine ⟨fun z => absurd (lcmp_lt.mp z) (by rw [show (0 : Int64) = lz 0 from rfl, lz_lt (by omega) (by omega) (by omega) (by omega)]; omega), fun _ => ?_⟩
  refine ⟨⟨Nat.le_of_ble_eq_true rfl, (by omega), (by omega)⟩, _, U_step hs h1 (by omega) hP1 (Nat.le_of_ble_eq_true rfl) hs1 hst, ?_⟩
  rintro rs_ w1 ⟨N2, rfl, hG2, P2, hP2, h2, rfl⟩
  refine ⟨Or.inl rfl, ?_⟩
  refine ⟨fun z => absurd (lcmp_lt.mp z) (by rw [show (1 : Int64) = lz 1 from rfl, lz_lt (by omega) (by omega) (by omega) (by omega)]; omega), fun _ => ?_⟩
  refine ⟨⟨Nat.le_of_ble_eq_true rfl, (by omega), (by omega)⟩, _, U_drive hs h2 (by omega) (f := 1) hP2 (Nat.le_of_ble_eq_true rfl) on3 (by decide) (by decide), ?_⟩
  rintro rs_ w1 ⟨N3, rfl, hG3, P3, hP3, h3, rfl⟩
  refine ⟨Or.inl rfl, ?_⟩
  refine ⟨fun z => absurd (cmp0.mpr (by rw [rGone_1 (ρ := upd (upd (upd ρ 10 (nI q)) 11 (nI kd)) 1 1) on3]; rfl)) z, fun _ => ?_⟩
  exact K N3 P3  _ _  ((hG1.tr hG2).tr hG3) hP3 h3 (by omega) (by omega)
set_option maxRecDepth 100000 in
set_option maxHeartbeats 2000000 in
theorem f_l4 (hs : Scn A S) (h : RI B T (σ) P (V) (pbM A N)) (hB : B < 980000) {k t q kd dd ss f gg v w : Nat} {r : Int64} {l : List Rw} {nc ns : Nat} (hP : Hs l P) (hl : l.length = 3) (hdd : dd < 1000000) (hss : ss ≤ dd) (hoff : (σ 3 = 0 ∧ ∃ u, ss ≤ u ∧ u ≤ dd + 1 ∧ rPower σ 4 = nI u) ∨ σ 3 = 1) (hnc : nc + 3 ≤ 2400) (hns : ns + 18 ≤ 14400) (K1 : ∀ N' P' (u : Nat) nc' ns', Frm A N N' → Hs l P' → RI (B + 1000) T (σ) P' (V) (pbM A N') → nc' ≤ nc + 3 → ns' ≤ ns + 18 → EE (SJ (d + 11) 127 (Wp (d + 10)) Q) (571, [(9, .int 1), (23, .long (lz u)), (21, .long r), (19, .long (lz ((dd - w : Nat) : Int))), (17, .long (lz v)), (15, .long (lz gg)), (14, .int (nI f)), (12, .long (lz ss)), (10, .long (lz dd)), (7, .long (lz t)), (6, .int 1), (5, .int (nI kd)), (4, .int (nI q)), (2, .long (nowV ρ)), (0, .ref (A + 1)), (1, .int (nI k))], [], (S, N', J), nc', ns')) (K2 : ∀ N' P'  nc' ns', Frm A N N' → Hs l P' → RI (B + 1000) T (σ) P' (V) (pbM A N') → nc' ≤ nc + 3 → ns' ≤ ns + 18 → EE (SJ (d + 11) 127 (Wp (d + 10)) Q) (571, [(9, .int 1), (21, .long r), (19, .long (lz ((dd - w : Nat) : Int))), (17, .long (lz v)), (15, .long (lz gg)), (14, .int (nI f)), (12, .long (lz ss)), (10, .long (lz dd)), (7, .long (lz t)), (6, .int 1), (5, .int (nI kd)), (4, .int (nI q)), (2, .long (nowV ρ)), (0, .ref (A + 1)), (1, .int (nI k))], [], (S, N', J), nc', ns')) : EE (SJ (d + 11) 127 (Wp (d + 10)) Q) (516, [(9, .int 1), (21, .long r), (19, .long (lz ((dd - w : Nat) : Int))), (17, .long (lz v)), (15, .long (lz gg)), (14, .int (nI f)), (12, .long (lz ss)), (10, .long (lz dd)), (7, .long (lz t)), (6, .int 1), (5, .int (nI kd)), (4, .int (nI q)), (2, .long (nowV ρ)), (0, .ref (A + 1)), (1, .int (nI k))], [], (S, N, J), nc, ns) := by
  obtain ⟨g98, g98b, g101, g101b, g102, g102b, g103, g103b, g108, g108b, g109, g109b, g110, g110b, g113, g113b, g114, g114b, g115, g115b, g116, g116b, g117, g117b, g118, g118b, g121, g121b, g122, g122b, g123, g123b, g124, g124b, g127, g127b⟩ := mjB
  refine EE.runN (stop := atPc [571]) 90 _ ?_
  refine ⟨⟨Nat.le_of_ble_eq_true rfl, (by omega), (by omega)⟩, _, X_about hs h (by omega), ?_⟩
  rintro rs_ w1 ⟨N1, rfl, hG1, h1, hr⟩
  have hr : rs_ = .inl (some (.long (ab σ 3))) := hr
  rw [show ab σ 3 = _ from ab_o (k := 3) (by omega) (by omega) (by omega) (by omega) (by omega) (by omega)] at hr
  subst hr
  refine ⟨Or.inl rfl, ?_⟩
  rcases hoff with ⟨g, u, hu1, hu2, hu⟩ | g
  · refine ⟨fun z => absurd (cmp0.mpr (by rw [g]; rfl)) z, fun _ => ?_⟩
    refine ⟨fun z => absurd z (by decide), fun _ => ?_⟩
    refine ⟨⟨Nat.le_of_ble_eq_true rfl, (by omega), (by omega)⟩, _, U_start hs h1 (by omega) hP (by rw [hl]; decide) g hu (by omega), ?_⟩
    rintro rs_ w1 ⟨N2, rfl, hG2, P2, hP2, h2, rfl⟩
    refine ⟨Or.inl rfl, ?_⟩
    refine ⟨fun z => absurd (lcmp_lt.mp z) (by rw [lz_lt (by omega) (by omega) (by omega) (by omega)]; omega), fun _ => ?_⟩
    refine ⟨fun z => absurd (lcmp_gt.mp z) (by rw [show (1 : Int64) = lz 1 from rfl, lz_add, lz_lt (by omega) (by omega) (by omega) (by omega)]; omega), fun _ => ?_⟩
    refine ⟨⟨Nat.le_of_ble_eq_true rfl, (by omega), (by omega)⟩, _, U_undo hs h2 (by omega) hP2, ?_⟩
    rintro rs_ w1 ⟨N3, rfl, hG3, P3, r3, hr3, hP3, h3, rfl⟩
    refine ⟨Or.inl rfl, ?_⟩
    refine ⟨fun z => absurd (lcmp_lt.mp z) (by rw [show (0 : Int64) = lz 0 from rfl, lz_lt (by omega) (by omega) (by omega) (by omega)]; omega), fun _ => ?_⟩
    exact K1 N3 P3 u _ _ ((hG1.tr hG2).tr hG3) hP3 h3 (by omega) (by omega)
  · refine ⟨fun _ => ?_, fun z => absurd (cmp0.mp z) (by rw [g]; decide)⟩
    exact K2 N1 P _ _ hG1 hP (h1.mono (by omega)) (by omega) (by omega)
set_option maxRecDepth 100000 in
set_option maxHeartbeats 2000000 in
theorem f_l5a (hs : Scn A S) (h : RI B T (σ) P (V) (pbM A N)) (hB : B < 980000) {k t q kd dd ss f gg v w : Nat} {u : Nat} {r : Int64} {a b : Rw} {nc ns : Nat} (hP : Hs [a, b, ρ] P) (hnc : nc + 203 ≤ 2400) (hns : ns + 1218 ≤ 14400) (K : ∀ N' P'  nc' ns', Frm A N N' → RI B T (ρ) P' (V) (pbM A N') → nc' ≤ nc + 203 → ns' ≤ ns + 1218 → EE (SJ (d + 11) 127 (Wp (d + 10)) Q) (619, [(9, .int 1), (23, .long (lz u)), (21, .long r), (19, .long (lz ((dd - w : Nat) : Int))), (17, .long (lz v)), (15, .long (lz gg)), (14, .int (nI f)), (12, .long (lz ss)), (10, .long (lz dd)), (7, .long (lz t)), (6, .int 1), (5, .int (nI kd)), (4, .int (nI q)), (2, .long (nowV ρ)), (0, .ref (A + 1)), (1, .int (nI k))], [], (S, N', J), nc', ns')) : EE (SJ (d + 11) 127 (Wp (d + 10)) Q) (571, [(9, .int 1), (23, .long (lz u)), (21, .long r), (19, .long (lz ((dd - w : Nat) : Int))), (17, .long (lz v)), (15, .long (lz gg)), (14, .int (nI f)), (12, .long (lz ss)), (10, .long (lz dd)), (7, .long (lz t)), (6, .int 1), (5, .int (nI kd)), (4, .int (nI q)), (2, .long (nowV ρ)), (0, .ref (A + 1)), (1, .int (nI k))], [], (S, N, J), nc, ns) := by
  obtain ⟨g98, g98b, g101, g101b, g102, g102b, g103, g103b, g108, g108b, g109, g109b, g110, g110b, g113, g113b, g114, g114b, g115, g115b, g116, g116b, g117, g117b, g118, g118b, g121, g121b, g122, g122b, g123, g123b, g124, g124b, g127, g127b⟩ := mjB
  refine EE.runN (stop := atPc [619]) 90 _ ?_
  refine ⟨fun z => absurd z (by decide), fun _ => ?_⟩
  refine ⟨⟨Nat.le_of_ble_eq_true rfl, (by omega), (by omega)⟩, _, U_undo hs h (by omega) hP, ?_⟩
  rintro rs_ w1 ⟨N1, rfl, hG1, P1, r1, hr1, hP1, h1, rfl⟩
  refine ⟨Or.inl rfl, ?_⟩
  refine ⟨fun z => absurd (lcmp_lt.mp z) (by rw [show (0 : Int64) = lz 0 from rfl, lz_lt (by omega) (by omega) (by omega) (by omega)]; omega), fun _ => ?_⟩
  refine ⟨⟨Nat.le_of_ble_eq_true rfl, (by omega), (by omega)⟩, _, U_undo hs h1 (by omega) hP1, ?_⟩
  rintro rs_ w1 ⟨N2, rfl, hG2, P2, r2, hr2, hP2, h2, rfl⟩
  refine ⟨Or.inl rfl, ?_⟩
  refine ⟨fun z => absurd (lcmp_lt.mp z) (by rw [show (0 : Int64) = lz 0 from rfl, lz_lt (by omega) (by omega) (by omega) (by omega)]; omega), fun _ => ?_⟩
  refine ⟨⟨Nat.le_of_ble_eq_true rfl, (by omega), (by omega)⟩, _, U_undo hs h2 (by omega) hP2, ?_⟩
  rintro rs_ w1 ⟨N3, rfl, hG3, P3, r3, hr3, hP3, h3, rfl⟩
  refine ⟨Or.inl rfl, ?_⟩
  refine ⟨fun z => absurd (lcmp_lt.mp z) (by rw [show (0 : Int64) = lz 0 from rfl, lz_lt (by omega) (by omega) (by omega) (by omega)]; omega), fun _ => ?_⟩
  refine ⟨⟨Nat.le_of_ble_eq_true rfl, (by omega), (by omega)⟩, _, Z_now hs h3 (by omega), ?_⟩
  rintro rs_ w1 ⟨N4, rfl, hG4, h4, rfl⟩
  refine ⟨Or.inl rfl, ?_⟩
  refine ⟨fun z => absurd (cmp0.mpr rfl) z, fun _ => ?_⟩
  exact K N4 P3  _ _  (((hG1.tr hG2).tr hG3).tr hG4)  h4 (by omega) (by omega)
set_option maxRecDepth 100000 in
set_option maxHeartbeats 2000000 in
theorem f_l5b (hs : Scn A S) (h : RI B T (σ) P (V) (pbM A N)) (hB : B < 980000) {k t q kd dd ss f gg v w : Nat} {r : Int64} {a b : Rw} {nc ns : Nat} (hP : Hs [a, b, ρ] P) (hnc : nc + 203 ≤ 2400) (hns : ns + 1218 ≤ 14400) (K : ∀ N' P'  nc' ns', Frm A N N' → RI B T (ρ) P' (V) (pbM A N') → nc' ≤ nc + 203 → ns' ≤ ns + 1218 → EE (SJ (d + 11) 127 (Wp (d + 10)) Q) (619, [(9, .int 1), (21, .long r), (19, .long (lz ((dd - w : Nat) : Int))), (17, .long (lz v)), (15, .long (lz gg)), (14, .int (nI f)), (12, .long (lz ss)), (10, .long (lz dd)), (7, .long (lz t)), (6, .int 1), (5, .int (nI kd)), (4, .int (nI q)), (2, .long (nowV ρ)), (0, .ref (A + 1)), (1, .int (nI k))], [], (S, N', J), nc', ns')) : EE (SJ (d + 11) 127 (Wp (d + 10)) Q) (571, [(9, .int 1), (21, .long r), (19, .long (lz ((dd - w : Nat) : Int))), (17, .long (lz v)), (15, .long (lz gg)), (14, .int (nI f)), (12, .long (lz ss)), (10, .long (lz dd)), (7, .long (lz t)), (6, .int 1), (5, .int (nI kd)), (4, .int (nI q)), (2, .long (nowV ρ)), (0, .ref (A + 1)), (1, .int (nI k))], [], (S, N, J), nc, ns) := by
  obtain ⟨g98, g98b, g101, g101b, g102, g102b, g103, g103b, g108, g108b, g109, g109b, g110, g110b, g113, g113b, g114, g114b, g115, g115b, g116, g116b, g117, g117b, g118, g118b, g121, g121b, g122, g122b, g123, g123b, g124, g124b, g127, g127b⟩ := mjB
  refine EE.runN (stop := atPc [619]) 90 _ ?_
  refine ⟨fun z => absurd z (by decide), fun _ => ?_⟩
  refine ⟨⟨Nat.le_of_ble_eq_true rfl, (by omega), (by omega)⟩, _, U_undo hs h (by omega) hP, ?_⟩
  rintro rs_ w1 ⟨N1, rfl, hG1, P1, r1, hr1, hP1, h1, rfl⟩
  refine ⟨Or.inl rfl, ?_⟩
  refine ⟨fun z => absurd (lcmp_lt.mp z) (by rw [show (0 : Int64) = lz 0 from rfl, lz_lt (by omega) (by omega) (by omega) (by omega)]; omega), fun _ => ?_⟩
  refine ⟨⟨Nat.le_of_ble_eq_true rfl, (by omega), (by omega)⟩, _, U_undo hs h1 (by omega) hP1, ?_⟩
  rintro rs_ w1 ⟨N2, rfl, hG2, P2, r2, hr2, hP2, h2, rfl⟩
  refine ⟨Or.inl rfl, ?_⟩
  refine ⟨fun z => absurd (lcmp_lt.mp z) (by rw [show (0 : Int64) = lz 0 from rfl, lz_lt (by omega) (by omega) (by omega) (by omega)]; omega), fun _ => ?_⟩
  refine ⟨⟨Nat.le_of_ble_eq_true rfl, (by omega), (by omega)⟩, _, U_undo hs h2 (by omega) hP2, ?_⟩
  rintro rs_ w1 ⟨N3, rfl, hG3, P3, r3, hr3, hP3, h3, rfl⟩
  refine ⟨Or.inl rfl, ?_⟩
  refine ⟨fun z => absurd (lcmp_lt.mp z) (by rw [show (0 : Int64) = lz 0 from rfl, lz_lt (by omega) (by omega) (by omega) (by omega)]; omega), fun _ => ?_⟩
  refine ⟨⟨Nat.le_of_ble_eq_true rfl, (by omega), (by omega)⟩, _, Z_now hs h3 (by omega), ?_⟩
  rintro rs_ w1 ⟨N4, rfl, hG4, h4, rfl⟩
  refine ⟨Or.inl rfl, ?_⟩
  refine ⟨fun z => absurd (cmp0.mpr rfl) z, fun _ => ?_⟩
  exact K N4 P3  _ _  (((hG1.tr hG2).tr hG3).tr hG4)  h4 (by omega) (by omega)
set_option maxRecDepth 100000 in
set_option maxHeartbeats 2000000 in
theorem f_eo (hs : Scn A S) (h : RI B T ρ P (keep V 1 ρ) (pbM A N)) (hB : B < 980000) {k t q kd v : Nat} {nc ns : Nat} (e5 : ρ 5 = nI t) (ht : t < 1000000) (hnc : nc + 202 ≤ 2400) (hns : ns + 1212 ≤ 14400) (K : ∀ N' P', Frm A N N' → RI B T ρ (0, P') (keep V 1 ρ) (pbM A N') → Q (.inl (some (.int 1))) (S, N', J)) : EE (SJ (d + 11) 127 (Wp (d + 10)) Q) (750, [(9, .int 1), (10, .long (lz v)), (7, .long (lz t)), (6, .int 0), (5, .int (nI kd)), (4, .int (nI q)), (2, .long (nowV ρ)), (0, .ref (A + 1)), (1, .int (nI k))], [], (S, N, J), nc, ns) := by
  obtain ⟨g98, g98b, g101, g101b, g102, g102b, g103, g103b, g108, g108b, g109, g109b, g110, g110b, g113, g113b, g114, g114b, g115, g115b, g116, g116b, g117, g117b, g118, g118b, g121, g121b, g122, g122b, g123, g123b, g124, g124b, g127, g127b⟩ := mjB
  refine EE.runN (stop := noStop) 60 _ ?_
  refine ⟨fun z => absurd z (by decide), fun _ => ?_⟩
  refine ⟨⟨Nat.le_of_ble_eq_true rfl, (by omega), (by omega)⟩, _, U_rest hs h (by omega) e5 (by omega), ?_⟩
  rintro rs_ w1 ⟨N1, rfl, hG1, h1, rfl⟩
  refine ⟨Or.inl rfl, ?_⟩
  refine ⟨fun z => absurd (cmp0.mpr rfl) z, fun _ => ?_⟩
  refine ⟨⟨Nat.le_of_ble_eq_true rfl, (by omega), (by omega)⟩, _, Z_now hs h1 (by omega), ?_⟩
  rintro rs_ w1 ⟨N2, rfl, hG2, h2, rfl⟩
  refine ⟨Or.inl rfl, ?_⟩
  refine ⟨fun z => absurd (cmp0.mpr rfl) z, fun _ => ?_⟩
  refine ⟨⟨Nat.le_of_ble_eq_true rfl, (by omega), (by omega)⟩, _, U_undo0 hs h2 (by omega), ?_⟩
  rintro rs_ w1 ⟨N3, rfl, hG3, h3, rfl⟩
  refine ⟨Or.inl rfl, ?_⟩
  refine ⟨fun z => absurd (cmp0.mpr rfl) z, fun _ => ?_⟩
  exact ⟨⟨by omega, by omega⟩, Or.inr rfl, K N3 _ ((hG1.tr hG2).tr hG3) h3⟩
set_option maxRecDepth 100000 in
set_option maxHeartbeats 2000000 in
theorem f_s0d (hs : Scn A S) (h : RI B T (ρ) P (V) (pbM A N)) (hB : B < 980000) {n sl k t q kd dd ss f gg : Nat} {nc ns : Nat} (hk2 : k < 2147483648) (e0 : ρ 0 = nI n) (hn3 : 3 ≤ n) (hn : n ≤ 12) (hsl : k / 11 % n = sl) (hnc : nc + 1 ≤ 2400) (hns : ns + 6 ≤ 14400) (K : ∀ N' P'  nc' ns', Frm A N N' → RI B T (ρ) P' (V) (pbM A N') → nc' ≤ nc + 1 → ns' ≤ ns + 6 → EE (SJ (d + 11) 127 (Wp (d + 10)) Q) (632, [(17, .int (nI sl)), (9, .int 1), (15, .long (lz gg)), (14, .int (nI f)), (12, .long (lz ss)), (10, .long (lz dd)), (7, .long (lz t)), (6, .int 1), (5, .int (nI kd)), (4, .int (nI q)), (2, .long (nowV ρ)), (0, .ref (A + 1)), (1, .int (nI k))], [], (S, N', J), nc', ns')) : EE (SJ (d + 11) 127 (Wp (d + 10)) Q) (619, [(9, .int 1), (15, .long (lz gg)), (14, .int (nI f)), (12, .long (lz ss)), (10, .long (lz dd)), (7, .long (lz t)), (6, .int 1), (5, .int (nI kd)), (4, .int (nI q)), (2, .long (nowV ρ)), (0, .ref (A + 1)), (1, .int (nI k))], [], (S, N, J), nc, ns) := by
  obtain ⟨g98, g98b, g101, g101b, g102, g102b, g103, g103b, g108, g108b, g109, g109b, g110, g110b, g113, g113b, g114, g114b, g115, g115b, g116, g116b, g117, g117b, g118, g118b, g121, g121b, g122, g122b, g123, g123b, g124, g124b, g127, g127b⟩ := mjB
  refine EE.runN (stop := atPc [632]) 90 _ ?_
  have hz : ¬ (nI n).toInt64.toInt32 = 0 := by
    rw [l2i_n, show (0 : Int32) = nI 0 from rfl, nI_eq (by omega) (by omega)]
    omega
  have e1 : nI k / 11 - nI k / 11 / (nI n).toInt64.toInt32 * (nI n).toInt64.toInt32 = nI sl := by
    rw [l2i_n, show (11 : Int32) = nI 11 from rfl, pk_div (by omega) (by omega) (by omega), pk_div (by omega) (by omega) (by omega), pk_mul, pk_sub (Nat.div_mul_le_self _ _)]
    have := Nat.div_add_mod (k / 11) n
    rw [Nat.mul_comm] at this
    congr 1
    omega
  refine ⟨by decide, ⟨Nat.le_of_ble_eq_true rfl, (by omega), (by omega)⟩, _, X_about hs h (by omega), ?_⟩
  rintro rs_ w1 ⟨N1, rfl, hG1, h1, hr⟩
  have hr : rs_ = .inl (some (.long (ab ρ 0))) := hr
  rw [show ab ρ 0 = _ from ab_o (k := 0) (by omega) (by omega) (by omega) (by omega) (by omega) (by omega), e0] at hr
  subst hr
  refine ⟨Or.inl rfl, ?_⟩
  refine ⟨hz, ?_⟩
  refine ee_ls (ls := [(17, .int (nI k / 11 - nI k / 11 / (nI n).toInt64.toInt32 * (nI n).toInt64.toInt32)), (9, .int 1), (15, .long (lz gg)), (14, .int (nI f)), (12, .long (lz ss)), (10, .long (lz dd)), (7, .long (lz t)), (6, .int 1), (5, .int (nI kd)), (4, .int (nI q)), (2, .long (nowV ρ)), (0, .ref (A + 1)), (1, .int (nI k))]) [(17, .int (nI sl)), (9, .int 1), (15, .long (lz gg)), (14, .int (nI f)), (12, .long (lz ss)), (10, .long (lz dd)), (7, .long (lz t)), (6, .int 1), (5, .int (nI kd)), (4, .int (nI q)), (2, .long (nowV ρ)), (0, .ref (A + 1)), (1, .int (nI k))] (by rw [e1]) ?_
  exact K N1 P  _ _  hG1  h1 (by omega) (by omega)
set_option maxRecDepth 100000 in
set_option maxHeartbeats 2000000 in
theorem f_s1d (hs : Scn A S) (h : RI B T (ρ) P (V) (pbM A N)) (hB : B < 980000) {n sl w0 w1 w2 k t q kd dd ss f gg : Nat} {nc ns : Nat} (on3 : ρ 3 = 1) (ec : (ρ 0).toNatClampNeg = n) (hn : n ≤ 12) (hsn : sl < n) (a0 : ρ (43 + 2 * (3 * sl + 0)) = nI w0) (a1 : ρ (43 + 2 * (3 * sl + 1)) = nI w1) (a2 : ρ (43 + 2 * (3 * sl + 2)) = nI w2) (b0 : w0 ≤ 999) (b1 : w1 ≤ 999) (b2 : w2 ≤ 999) (e4 : ρ 4 = nI dd) (hdd : dd < 1000000) (hnc : nc + 210 ≤ 2400) (hns : ns + 1260 ≤ 14400) (K1 : ∀ N' P'  nc' ns', Frm A N N' → RI (B + 1000) T (ρ) P' (V) (pbM A N') → nc' ≤ nc + 210 → ns' ≤ ns + 1260 → EE (SJ (d + 11) 127 (Wp (d + 10)) Q) (750, [(18, .long (lz w0 + lz w1 + lz w2)), (17, .int (nI sl)), (9, .int 1), (15, .long (lz gg)), (14, .int (nI f)), (12, .long (lz ss)), (10, .long (lz dd)), (7, .long (lz t)), (6, .int 1), (5, .int (nI kd)), (4, .int (nI q)), (2, .long (nowV ρ)), (0, .ref (A + 1)), (1, .int (nI k))], [], (S, N', J), nc', ns')) (K2 : ∀ N' P'  nc' ns', Frm A N N' → RI (B + 1000) T (ρ) P' (V) (pbM A N') → nc' ≤ nc + 210 → ns' ≤ ns + 1260 → EE (SJ (d + 11) 127 (Wp (d + 10)) Q) (750, [(9, .int 1), (18, .long (lz w0 + lz w1 + lz w2)), (17, .int (nI sl)), (15, .long (lz gg)), (14, .int (nI f)), (12, .long (lz ss)), (10, .long (lz dd)), (7, .long (lz t)), (6, .int 1), (5, .int (nI kd)), (4, .int (nI q)), (2, .long (nowV ρ)), (0, .ref (A + 1)), (1, .int (nI k))], [], (S, N', J), nc', ns')) : EE (SJ (d + 11) 127 (Wp (d + 10)) Q) (632, [(17, .int (nI sl)), (9, .int 1), (15, .long (lz gg)), (14, .int (nI f)), (12, .long (lz ss)), (10, .long (lz dd)), (7, .long (lz t)), (6, .int 1), (5, .int (nI kd)), (4, .int (nI q)), (2, .long (nowV ρ)), (0, .ref (A + 1)), (1, .int (nI k))], [], (S, N, J), nc, ns) := by
  obtain ⟨g98, g98b, g101, g101b, g102, g102b, g103, g103b, g108, g108b, g109, g109b, g110, g110b, g113, g113b, g114, g114b, g115, g115b, g116, g116b, g117, g117b, g118, g118b, g121, g121b, g122, g122b, g123, g123b, g124, g124b, g127, g127b⟩ := mjB
  refine EE.runN (stop := atPc [750]) 160 _ ?_
  have hw := rWear_w a0 a1 a2
  have h30 : ¬ ρ 3 = 0 := by rw [on3]; decide
  refine ⟨⟨Nat.le_of_ble_eq_true rfl, (by omega), (by omega)⟩, _, X_cell hs h (by omega), ?_⟩
  rintro rs_ w1 ⟨N1, rfl, hG1, h1, hr⟩
  have hr : rs_ = .inl (some (.long (cl ρ (nI sl) 0 1))) := hr
  rw [show cl ρ (nI sl) 0 1 = _ from cl_1 (i := 0) ec hn hsn (by omega), a0, lz_n (show w0 < 2147483648 by omega)] at hr
  subst hr
  refine ⟨Or.inl rfl, ?_⟩
  refine ⟨⟨Nat.le_of_ble_eq_true rfl, (by omega), (by omega)⟩, _, X_cell hs h1 (by omega), ?_⟩
  rintro rs_ w1 ⟨N2, rfl, hG2, h2, hr⟩
  have hr : rs_ = .inl (some (.long (cl ρ (nI sl) 1 1))) := hr
  rw [show cl ρ (nI sl) 1 1 = _ from cl_1 (i := 1) ec hn hsn (by omega), a1, lz_n (show w1 < 2147483648 by omega)] at hr
  subst hr
  refine ⟨Or.inl rfl, ?_⟩
  refine ⟨⟨Nat.le_of_ble_eq_true rfl, (by omega), (by omega)⟩, _, X_cell hs h2 (by omega), ?_⟩
  rintro rs_ w1 ⟨N3, rfl, hG3, h3, hr⟩
  have hr : rs_ = .inl (some (.long (cl ρ (nI sl) 2 1))) := hr
  rw [show cl ρ (nI sl) 2 1 = _ from cl_1 (i := 2) ec hn hsn (by omega), a2, lz_n (show w2 < 2147483648 by omega)] at hr
  subst hr
  refine ⟨Or.inl rfl, ?_⟩
  refine ⟨⟨Nat.le_of_ble_eq_true rfl, (by omega), (by omega)⟩, _, X_about hs h3 (by omega), ?_⟩
  rintro rs_ w1 ⟨N4, rfl, hG4, h4, hr⟩
  have hr : rs_ = .inl (some (.long (ab ρ 7))) := hr
  rw [show ab ρ 7 = _ from ab_p (k := 7) (by omega), if_neg h30] at hr
  subst hr
  refine ⟨Or.inl rfl, ?_⟩
  refine ⟨fun _ => K1 N4 P _ _ (((hG1.tr hG2).tr hG3).tr hG4) (h4.mono (by omega)) (by omega) (by omega), fun z => ?_⟩
  refine ⟨fun z => absurd z (by decide), fun _ => ?_⟩
  refine ⟨⟨Nat.le_of_ble_eq_true rfl, (by omega), (by omega)⟩, _, U_repl hs h4 (by omega) Hs.nil (by decide) ec hn hsn on3 (fun y => z (q64.mpr y)) hw (by omega), ?_⟩
  rintro rs_ w1 ⟨N5, rfl, hG5, P5, hP5, h5, rfl⟩
  refine ⟨Or.inl rfl, ?_⟩
  have eW : lz ((w0 + w1 + w2 : Nat) : Int) = lz w0 + lz w1 + lz w2 := by rw [lz_add, lz_add]; rfl
  have ec2 : (rRenew ρ sl 0).toNatClampNeg = n := by rw [renew_o (by omega), ec]
  refine ⟨fun z => absurd (cmp0.mpr eW) z, fun _ => ?_⟩
  refine ⟨⟨Nat.le_of_ble_eq_true rfl, (by omega), (by omega)⟩, _, X_says hs h5 (by omega), ?_⟩
  rintro rs_ w1 ⟨N6, rfl, hG6, h6, hr⟩
  have hr : rs_ = .inl (some (.long (eL (fun c => 2) (aSays (rRenew ρ sl) (rRenew ρ sl 0).toNatClampNeg (nI sl))))) := hr
  rw [sa_v ec2 hn hsn, rRenew_0] at hr
  subst hr
  refine ⟨Or.inl rfl, ?_⟩
  refine ⟨fun z => absurd (cmp0.mpr rfl) z, fun _ => ?_⟩
  have ez : rRenew ρ sl (43 + 2 * (3 * sl + 2)) = 0 := by
    unfold rRenew
    rw [rRn_z 3, if_pos (by omega)]
  refine ⟨⟨Nat.le_of_ble_eq_true rfl, (by omega), (by omega)⟩, _, X_cell hs h6 (by omega), ?_⟩
  rintro rs_ w1 ⟨N7, rfl, hG7, h7, hr⟩
  have hr : rs_ = .inl (some (.long (cl (rRenew ρ sl) (nI sl) 2 1))) := hr
  rw [show cl (rRenew ρ sl) (nI sl) 2 1 = _ from cl_1 (i := 2) ec2 hn hsn (by omega), ez] at hr
  subst hr
  refine ⟨Or.inl rfl, ?_⟩
  refine ⟨fun z => absurd (cmp0.mpr rfl) z, fun _ => ?_⟩
  refine ⟨⟨Nat.le_of_ble_eq_true rfl, (by omega), (by omega)⟩, _, X_about hs h7 (by omega), ?_⟩
  rintro rs_ w1 ⟨N8, rfl, hG8, h8, hr⟩
  have hr : rs_ = .inl (some (.long (ab (rRenew ρ sl) 4))) := hr
  rw [show ab (rRenew ρ sl) 4 = _ from ab_p (k := 4) (by omega), renew_o (k := 3) (by omega), renew_o (k := 4) (by omega), if_neg h30, e4, lz_n (show dd < 2147483648 by omega)] at hr
  subst hr
  refine ⟨Or.inl rfl, ?_⟩
  refine ⟨fun z => absurd (cmp0.mpr rfl) z, fun _ => ?_⟩
  refine ⟨⟨Nat.le_of_ble_eq_true rfl, (by omega), (by omega)⟩, _, U_undo hs h8 (by omega) hP5, ?_⟩
  rintro rs_ w1 ⟨N9, rfl, hG9, P9, r9, hr9, hP9, h9, rfl⟩
  refine ⟨Or.inl rfl, ?_⟩
  refine ⟨fun z => absurd (lcmp_lt.mp z) (by rw [show (0 : Int64) = lz 0 from rfl, lz_lt (by omega) (by omega) (by omega) (by omega)]; omega), fun _ => ?_⟩
  refine ⟨⟨Nat.le_of_ble_eq_true rfl, (by omega), (by omega)⟩, _, Z_now hs h9 (by omega), ?_⟩
  rintro rs_ w1 ⟨N10, rfl, hG10, h10, rfl⟩
  refine ⟨Or.inl rfl, ?_⟩
  refine ⟨fun z => absurd (cmp0.mpr rfl) z, fun _ => ?_⟩
  exact K2 N10 P9  _ _  (((((((((hG1.tr hG2).tr hG3).tr hG4).tr hG5).tr hG6).tr hG7).tr hG8).tr hG9).tr hG10)  h10 (by omega) (by omega)
set_option maxRecDepth 100000 in
set_option maxHeartbeats 2000000 in
theorem f_e1d (hs : Scn A S) (h : RI B T ρ P (keep V 1 ρ) (pbM A N)) (hB : B < 980000) {sl w0 w1 w2 k t q kd dd ss f gg : Nat} {nc ns : Nat} (e5 : ρ 5 = nI t) (ht : t < 1000000) (hnc : nc + 202 ≤ 2400) (hns : ns + 1212 ≤ 14400) (K : ∀ N' P', Frm A N N' → RI B T ρ (0, P') (keep V 1 ρ) (pbM A N') → Q (.inl (some (.int 1))) (S, N', J)) : EE (SJ (d + 11) 127 (Wp (d + 10)) Q) (750, [(18, .long (lz w0 + lz w1 + lz w2)), (17, .int (nI sl)), (9, .int 1), (15, .long (lz gg)), (14, .int (nI f)), (12, .long (lz ss)), (10, .long (lz dd)), (7, .long (lz t)), (6, .int 1), (5, .int (nI kd)), (4, .int (nI q)), (2, .long (nowV ρ)), (0, .ref (A + 1)), (1, .int (nI k))], [], (S, N, J), nc, ns) := by
  obtain ⟨g98, g98b, g101, g101b, g102, g102b, g103, g103b, g108, g108b, g109, g109b, g110, g110b, g113, g113b, g114, g114b, g115, g115b, g116, g116b, g117, g117b, g118, g118b, g121, g121b, g122, g122b, g123, g123b, g124, g124b, g127, g127b⟩ := mjB
  refine EE.runN (stop := noStop) 60 _ ?_
  refine ⟨fun z => absurd z (by decide), fun _ => ?_⟩
  refine ⟨⟨Nat.le_of_ble_eq_true rfl, (by omega), (by omega)⟩, _, U_rest hs h (by omega) e5 (by omega), ?_⟩
  rintro rs_ w1 ⟨N1, rfl, hG1, h1, rfl⟩
  refine ⟨Or.inl rfl, ?_⟩
  refine ⟨fun z => absurd (cmp0.mpr rfl) z, fun _ => ?_⟩
  refine ⟨⟨Nat.le_of_ble_eq_true rfl, (by omega), (by omega)⟩, _, Z_now hs h1 (by omega), ?_⟩
  rintro rs_ w1 ⟨N2, rfl, hG2, h2, rfl⟩
  refine ⟨Or.inl rfl, ?_⟩
  refine ⟨fun z => absurd (cmp0.mpr rfl) z, fun _ => ?_⟩
  refine ⟨⟨Nat.le_of_ble_eq_true rfl, (by omega), (by omega)⟩, _, U_undo0 hs h2 (by omega), ?_⟩
  rintro rs_ w1 ⟨N3, rfl, hG3, h3, rfl⟩
  refine ⟨Or.inl rfl, ?_⟩
  refine ⟨fun z => absurd (cmp0.mpr rfl) z, fun _ => ?_⟩
  exact ⟨⟨by omega, by omega⟩, Or.inr rfl, K N3 _ ((hG1.tr hG2).tr hG3) h3⟩
set_option maxRecDepth 100000 in
set_option maxHeartbeats 2000000 in
theorem f_e2d (hs : Scn A S) (h : RI B T ρ P (keep V 1 ρ) (pbM A N)) (hB : B < 980000) {sl w0 w1 w2 k t q kd dd ss f gg : Nat} {nc ns : Nat} (e5 : ρ 5 = nI t) (ht : t < 1000000) (hnc : nc + 202 ≤ 2400) (hns : ns + 1212 ≤ 14400) (K : ∀ N' P', Frm A N N' → RI B T ρ (0, P') (keep V 1 ρ) (pbM A N') → Q (.inl (some (.int 1))) (S, N', J)) : EE (SJ (d + 11) 127 (Wp (d + 10)) Q) (750, [(9, .int 1), (18, .long (lz w0 + lz w1 + lz w2)), (17, .int (nI sl)), (15, .long (lz gg)), (14, .int (nI f)), (12, .long (lz ss)), (10, .long (lz dd)), (7, .long (lz t)), (6, .int 1), (5, .int (nI kd)), (4, .int (nI q)), (2, .long (nowV ρ)), (0, .ref (A + 1)), (1, .int (nI k))], [], (S, N, J), nc, ns) := by
  obtain ⟨g98, g98b, g101, g101b, g102, g102b, g103, g103b, g108, g108b, g109, g109b, g110, g110b, g113, g113b, g114, g114b, g115, g115b, g116, g116b, g117, g117b, g118, g118b, g121, g121b, g122, g122b, g123, g123b, g124, g124b, g127, g127b⟩ := mjB
  refine EE.runN (stop := noStop) 60 _ ?_
  refine ⟨fun z => absurd z (by decide), fun _ => ?_⟩
  refine ⟨⟨Nat.le_of_ble_eq_true rfl, (by omega), (by omega)⟩, _, U_rest hs h (by omega) e5 (by omega), ?_⟩
  rintro rs_ w1 ⟨N1, rfl, hG1, h1, rfl⟩
  refine ⟨Or.inl rfl, ?_⟩
  refine ⟨fun z => absurd (cmp0.mpr rfl) z, fun _ => ?_⟩
  refine ⟨⟨Nat.le_of_ble_eq_true rfl, (by omega), (by omega)⟩, _, Z_now hs h1 (by omega), ?_⟩
  rintro rs_ w1 ⟨N2, rfl, hG2, h2, rfl⟩
  refine ⟨Or.inl rfl, ?_⟩
  refine ⟨fun z => absurd (cmp0.mpr rfl) z, fun _ => ?_⟩
  refine ⟨⟨Nat.le_of_ble_eq_true rfl, (by omega), (by omega)⟩, _, U_undo0 hs h2 (by omega), ?_⟩
  rintro rs_ w1 ⟨N3, rfl, hG3, h3, rfl⟩
  refine ⟨Or.inl rfl, ?_⟩
  refine ⟨fun z => absurd (cmp0.mpr rfl) z, fun _ => ?_⟩
  exact ⟨⟨by omega, by omega⟩, Or.inr rfl, K N3 _ ((hG1.tr hG2).tr hG3) h3⟩
set_option maxRecDepth 100000 in
set_option maxHeartbeats 2000000 in
theorem f_s0a (hs : Scn A S) (h : RI B T (ρ) P (V) (pbM A N)) (hB : B < 980000) {n sl k t q kd dd ss f gg v w : Nat} {u : Nat} {r : Int64} {nc ns : Nat} (hk2 : k < 2147483648) (e0 : ρ 0 = nI n) (hn3 : 3 ≤ n) (hn : n ≤ 12) (hsl : k / 11 % n = sl) (hnc : nc + 1 ≤ 2400) (hns : ns + 6 ≤ 14400) (K : ∀ N' P'  nc' ns', Frm A N N' → RI B T (ρ) P' (V) (pbM A N') → nc' ≤ nc + 1 → ns' ≤ ns + 6 → EE (SJ (d + 11) 127 (Wp (d + 10)) Q) (632, [(17, .int (nI sl)), (9, .int 1), (23, .long (lz u)), (21, .long r), (19, .long (lz ((dd - w : Nat) : Int))), (15, .long (lz gg)), (14, .int (nI f)), (12, .long (lz ss)), (10, .long (lz dd)), (7, .long (lz t)), (6, .int 1), (5, .int (nI kd)), (4, .int (nI q)), (2, .long (nowV ρ)), (0, .ref (A + 1)), (1, .int (nI k))], [], (S, N', J), nc', ns')) : EE (SJ (d + 11) 127 (Wp (d + 10)) Q) (619, [(9, .int 1), (23, .long (lz u)), (21, .long r), (19, .long (lz ((dd - w : Nat) : Int))), (17, .long (lz v)), (15, .long (lz gg)), (14, .int (nI f)), (12, .long (lz ss)), (10, .long (lz dd)), (7, .long (lz t)), (6, .int 1), (5, .int (nI kd)), (4, .int (nI q)), (2, .long (nowV ρ)), (0, .ref (A + 1)), (1, .int (nI k))], [], (S, N, J), nc, ns) := by
  obtain ⟨g98, g98b, g101, g101b, g102, g102b, g103, g103b, g108, g108b, g109, g109b, g110, g110b, g113, g113b, g114, g114b, g115, g115b, g116, g116b, g117, g117b, g118, g118b, g121, g121b, g122, g122b, g123, g123b, g124, g124b, g127, g127b⟩ := mjB
  refine EE.runN (stop := atPc [632]) 90 _ ?_
  have hz : ¬ (nI n).toInt64.toInt32 = 0 := by
    rw [l2i_n, show (0 : Int32) = nI 0 from rfl, nI_eq (by omega) (by omega)]
    omega
  have e1 : nI k / 11 - nI k / 11 / (nI n).toInt64.toInt32 * (nI n).toInt64.toInt32 = nI sl := by
    rw [l2i_n, show (11 : Int32) = nI 11 from rfl, pk_div (by omega) (by omega) (by omega), pk_div (by omega) (by omega) (by omega), pk_mul, pk_sub (Nat.div_mul_le_self _ _)]
    have := Nat.div_add_mod (k / 11) n
    rw [Nat.mul_comm] at this
    congr 1
    omega
  refine ⟨by decide, ⟨Nat.le_of_ble_eq_true rfl, (by omega), (by omega)⟩, _, X_about hs h (by omega), ?_⟩
  rintro rs_ w1 ⟨N1, rfl, hG1, h1, hr⟩
  have hr : rs_ = .inl (some (.long (ab ρ 0))) := hr
  rw [show ab ρ 0 = _ from ab_o (k := 0) (by omega) (by omega) (by omega) (by omega) (by omega) (by omega), e0] at hr
  subst hr
  refine ⟨Or.inl rfl, ?_⟩
  refine ⟨hz, ?_⟩
  refine ee_ls (ls := [(17, .int (nI k / 11 - nI k / 11 / (nI n).toInt64.toInt32 * (nI n).toInt64.toInt32)), (9, .int 1), (23, .long (lz u)), (21, .long r), (19, .long (lz ((dd - w : Nat) : Int))), (15, .long (lz gg)), (14, .int (nI f)), (12, .long (lz ss)), (10, .long (lz dd)), (7, .long (lz t)), (6, .int 1), (5, .int (nI kd)), (4, .int (nI q)), (2, .long (nowV ρ)), (0, .ref (A + 1)), (1, .int (nI k))]) [(17, .int (nI sl)), (9, .int 1), (23, .long (lz u)), (21, .long r), (19, .long (lz ((dd - w : Nat) : Int))), (15, .long (lz gg)), (14, .int (nI f)), (12, .long (lz ss)), (10, .long (lz dd)), (7, .long (lz t)), (6, .int 1), (5, .int (nI kd)), (4, .int (nI q)), (2, .long (nowV ρ)), (0, .ref (A + 1)), (1, .int (nI k))] (by rw [e1]) ?_
  exact K N1 P  _ _  hG1  h1 (by omega) (by omega)
set_option maxRecDepth 100000 in
set_option maxHeartbeats 2000000 in
theorem f_s1a (hs : Scn A S) (h : RI B T (ρ) P (V) (pbM A N)) (hB : B < 980000) {n sl w0 w1 w2 k t q kd dd ss f gg w : Nat} {u : Nat} {r : Int64} {nc ns : Nat} (on3 : ρ 3 = 1) (ec : (ρ 0).toNatClampNeg = n) (hn : n ≤ 12) (hsn : sl < n) (a0 : ρ (43 + 2 * (3 * sl + 0)) = nI w0) (a1 : ρ (43 + 2 * (3 * sl + 1)) = nI w1) (a2 : ρ (43 + 2 * (3 * sl + 2)) = nI w2) (b0 : w0 ≤ 999) (b1 : w1 ≤ 999) (b2 : w2 ≤ 999) (e4 : ρ 4 = nI dd) (hdd : dd < 1000000) (hnc : nc + 210 ≤ 2400) (hns : ns + 1260 ≤ 14400) (K1 : ∀ N' P'  nc' ns', Frm A N N' → RI (B + 1000) T (ρ) P' (V) (pbM A N') → nc' ≤ nc + 210 → ns' ≤ ns + 1260 → EE (SJ (d + 11) 127 (Wp (d + 10)) Q) (750, [(18, .long (lz w0 + lz w1 + lz w2)), (17, .int (nI sl)), (9, .int 1), (23, .long (lz u)), (21, .long r), (15, .long (lz gg)), (14, .int (nI f)), (12, .long (lz ss)), (10, .long (lz dd)), (7, .long (lz t)), (6, .int 1), (5, .int (nI kd)), (4, .int (nI q)), (2, .long (nowV ρ)), (0, .ref (A + 1)), (1, .int (nI k))], [], (S, N', J), nc', ns')) (K2 : ∀ N' P'  nc' ns', Frm A N N' → RI (B + 1000) T (ρ) P' (V) (pbM A N') → nc' ≤ nc + 210 → ns' ≤ ns + 1260 → EE (SJ (d + 11) 127 (Wp (d + 10)) Q) (750, [(9, .int 1), (18, .long (lz w0 + lz w1 + lz w2)), (17, .int (nI sl)), (23, .long (lz u)), (21, .long r), (15, .long (lz gg)), (14, .int (nI f)), (12, .long (lz ss)), (10, .long (lz dd)), (7, .long (lz t)), (6, .int 1), (5, .int (nI kd)), (4, .int (nI q)), (2, .long (nowV ρ)), (0, .ref (A + 1)), (1, .int (nI k))], [], (S, N', J), nc', ns')) : EE (SJ (d + 11) 127 (Wp (d + 10)) Q) (632, [(17, .int (nI sl)), (9, .int 1), (23, .long (lz u)), (21, .long r), (19, .long (lz ((dd - w : Nat) : Int))), (15, .long (lz gg)), (14, .int (nI f)), (12, .long (lz ss)), (10, .long (lz dd)), (7, .long (lz t)), (6, .int 1), (5, .int (nI kd)), (4, .int (nI q)), (2, .long (nowV ρ)), (0, .ref (A + 1)), (1, .int (nI k))], [], (S, N, J), nc, ns) := by
  obtain ⟨g98, g98b, g101, g101b, g102, g102b, g103, g103b, g108, g108b, g109, g109b, g110, g110b, g113, g113b, g114, g114b, g115, g115b, g116, g116b, g117, g117b, g118, g118b, g121, g121b, g122, g122b, g123, g123b, g124, g124b, g127, g127b⟩ := mjB
  refine EE.runN (stop := atPc [750]) 160 _ ?_
  have hw := rWear_w a0 a1 a2
  have h30 : ¬ ρ 3 = 0 := by rw [on3]; decide
  refine ⟨⟨Nat.le_of_ble_eq_true rfl, (by omega), (by omega)⟩, _, X_cell hs h (by omega), ?_⟩
  rintro rs_ w1 ⟨N1, rfl, hG1, h1, hr⟩
  have hr : rs_ = .inl (some (.long (cl ρ (nI sl) 0 1))) := hr
  rw [show cl ρ (nI sl) 0 1 = _ from cl_1 (i := 0) ec hn hsn (by omega), a0, lz_n (show w0 < 2147483648 by omega)] at hr
  subst hr
  refine ⟨Or.inl rfl, ?_⟩
  refine ⟨⟨Nat.le_of_ble_eq_true rfl, (by omega), (by omega)⟩, _, X_cell hs h1 (by omega), ?_⟩
  rintro rs_ w1 ⟨N2, rfl, hG2, h2, hr⟩
  have hr : rs_ = .inl (some (.long (cl ρ (nI sl) 1 1))) := hr
  rw [show cl ρ (nI sl) 1 1 = _ from cl_1 (i := 1) ec hn hsn (by omega), a1, lz_n (show w1 < 2147483648 by omega)] at hr
  subst hr
  refine ⟨Or.inl rfl, ?_⟩
  refine ⟨⟨Nat.le_of_ble_eq_true rfl, (by omega), (by omega)⟩, _, X_cell hs h2 (by omega), ?_⟩
  rintro rs_ w1 ⟨N3, rfl, hG3, h3, hr⟩
  have hr : rs_ = .inl (some (.long (cl ρ (nI sl) 2 1))) := hr
  rw [show cl ρ (nI sl) 2 1 = _ from cl_1 (i := 2) ec hn hsn (by omega), a2, lz_n (show w2 < 2147483648 by omega)] at hr
  subst hr
  refine ⟨Or.inl rfl, ?_⟩
  refine ⟨⟨Nat.le_of_ble_eq_true rfl, (by omega), (by omega)⟩, _, X_about hs h3 (by omega), ?_⟩
  rintro rs_ w1 ⟨N4, rfl, hG4, h4, hr⟩
  have hr : rs_ = .inl (some (.long (ab ρ 7))) := hr
  rw [show ab ρ 7 = _ from ab_p (k := 7) (by omega), if_neg h30] at hr
  subst hr
  refine ⟨Or.inl rfl, ?_⟩
  refine ⟨fun _ => K1 N4 P _ _ (((hG1.tr hG2).tr hG3).tr hG4) (h4.mono (by omega)) (by omega) (by omega), fun z => ?_⟩
  refine ⟨fun z => absurd z (by decide), fun _ => ?_⟩
  refine ⟨⟨Nat.le_of_ble_eq_true rfl, (by omega), (by omega)⟩, _, U_repl hs h4 (by omega) Hs.nil (by decide) ec hn hsn on3 (fun y => z (q64.mpr y)) hw (by omega), ?_⟩
  rintro rs_ w1 ⟨N5, rfl, hG5, P5, hP5, h5, rfl⟩
  refine ⟨Or.inl rfl, ?_⟩
  have eW : lz ((w0 + w1 + w2 : Nat) : Int) = lz w0 + lz w1 + lz w2 := by rw [lz_add, lz_add]; rfl
  have ec2 : (rRenew ρ sl 0).toNatClampNeg = n := by rw [renew_o (by omega), ec]
  refine ⟨fun z => absurd (cmp0.mpr eW) z, fun _ => ?_⟩
  refine ⟨⟨Nat.le_of_ble_eq_true rfl, (by omega), (by omega)⟩, _, X_says hs h5 (by omega), ?_⟩
  rintro rs_ w1 ⟨N6, rfl, hG6, h6, hr⟩
  have hr : rs_ = .inl (some (.long (eL (fun c => 2) (aSays (rRenew ρ sl) (rRenew ρ sl 0).toNatClampNeg (nI sl))))) := hr
  rw [sa_v ec2 hn hsn, rRenew_0] at hr
  subst hr
  refine ⟨Or.inl rfl, ?_⟩
  refine ⟨fun z => absurd (cmp0.mpr rfl) z, fun _ => ?_⟩
  have ez : rRenew ρ sl (43 + 2 * (3 * sl + 2)) = 0 := by
    unfold rRenew
    rw [rRn_z 3, if_pos (by omega)]
  refine ⟨⟨Nat.le_of_ble_eq_true rfl, (by omega), (by omega)⟩, _, X_cell hs h6 (by omega), ?_⟩
  rintro rs_ w1 ⟨N7, rfl, hG7, h7, hr⟩
  have hr : rs_ = .inl (some (.long (cl (rRenew ρ sl) (nI sl) 2 1))) := hr
  rw [show cl (rRenew ρ sl) (nI sl) 2 1 = _ from cl_1 (i := 2) ec2 hn hsn (by omega), ez] at hr
  subst hr
  refine ⟨Or.inl rfl, ?_⟩
  refine ⟨fun z => absurd (cmp0.mpr rfl) z, fun _ => ?_⟩
  refine ⟨⟨Nat.le_of_ble_eq_true rfl, (by omega), (by omega)⟩, _, X_about hs h7 (by omega), ?_⟩
  rintro rs_ w1 ⟨N8, rfl, hG8, h8, hr⟩
  have hr : rs_ = .inl (some (.long (ab (rRenew ρ sl) 4))) := hr
  rw [show ab (rRenew ρ sl) 4 = _ from ab_p (k := 4) (by omega), renew_o (k := 3) (by omega), renew_o (k := 4) (by omega), if_neg h30, e4, lz_n (show dd < 2147483648 by omega)] at hr
  subst hr
  refine ⟨Or.inl rfl, ?_⟩
  refine ⟨fun z => absurd (cmp0.mpr rfl) z, fun _ => ?_⟩
  refine ⟨⟨Nat.le_of_ble_eq_true rfl, (by omega), (by omega)⟩, _, U_undo hs h8 (by omega) hP5, ?_⟩
  rintro rs_ w1 ⟨N9, rfl, hG9, P9, r9, hr9, hP9, h9, rfl⟩
  refine ⟨Or.inl rfl, ?_⟩
  refine ⟨fun z => absurd (lcmp_lt.mp z) (by rw [show (0 : Int64) = lz 0 from rfl, lz_lt (by omega) (by omega) (by omega) (by omega)]; omega), fun _ => ?_⟩
  refine ⟨⟨Nat.le_of_ble_eq_true rfl, (by omega), (by omega)⟩, _, Z_now hs h9 (by omega), ?_⟩
  rintro rs_ w1 ⟨N10, rfl, hG10, h10, rfl⟩
  refine ⟨Or.inl rfl, ?_⟩
  refine ⟨fun z => absurd (cmp0.mpr rfl) z, fun _ => ?_⟩
  exact K2 N10 P9  _ _  (((((((((hG1.tr hG2).tr hG3).tr hG4).tr hG5).tr hG6).tr hG7).tr hG8).tr hG9).tr hG10)  h10 (by omega) (by omega)
set_option maxRecDepth 100000 in
set_option maxHeartbeats 2000000 in
theorem f_e1a (hs : Scn A S) (h : RI B T ρ P (keep V 1 ρ) (pbM A N)) (hB : B < 980000) {sl w0 w1 w2 k t q kd dd ss f gg : Nat} {u : Nat} {r : Int64} {nc ns : Nat} (e5 : ρ 5 = nI t) (ht : t < 1000000) (hnc : nc + 202 ≤ 2400) (hns : ns + 1212 ≤ 14400) (K : ∀ N' P', Frm A N N' → RI B T ρ (0, P') (keep V 1 ρ) (pbM A N') → Q (.inl (some (.int 1))) (S, N', J)) : EE (SJ (d + 11) 127 (Wp (d + 10)) Q) (750, [(18, .long (lz w0 + lz w1 + lz w2)), (17, .int (nI sl)), (9, .int 1), (23, .long (lz u)), (21, .long r), (15, .long (lz gg)), (14, .int (nI f)), (12, .long (lz ss)), (10, .long (lz dd)), (7, .long (lz t)), (6, .int 1), (5, .int (nI kd)), (4, .int (nI q)), (2, .long (nowV ρ)), (0, .ref (A + 1)), (1, .int (nI k))], [], (S, N, J), nc, ns) := by
  obtain ⟨g98, g98b, g101, g101b, g102, g102b, g103, g103b, g108, g108b, g109, g109b, g110, g110b, g113, g113b, g114, g114b, g115, g115b, g116, g116b, g117, g117b, g118, g118b, g121, g121b, g122, g122b, g123, g123b, g124, g124b, g127, g127b⟩ := mjB
  refine EE.runN (stop := noStop) 60 _ ?_
  refine ⟨fun z => absurd z (by decide), fun _ => ?_⟩
  refine ⟨⟨Nat.le_of_ble_eq_true rfl, (by omega), (by omega)⟩, _, U_rest hs h (by omega) e5 (by omega), ?_⟩
  rintro rs_ w1 ⟨N1, rfl, hG1, h1, rfl⟩
  refine ⟨Or.inl rfl, ?_⟩
  refine ⟨fun z => absurd (cmp0.mpr rfl) z, fun _ => ?_⟩
  refine ⟨⟨Nat.le_of_ble_eq_true rfl, (by omega), (by omega)⟩, _, Z_now hs h1 (by omega), ?_⟩
  rintro rs_ w1 ⟨N2, rfl, hG2, h2, rfl⟩
  refine ⟨Or.inl rfl, ?_⟩
  refine ⟨fun z => absurd (cmp0.mpr rfl) z, fun _ => ?_⟩
  refine ⟨⟨Nat.le_of_ble_eq_true rfl, (by omega), (by omega)⟩, _, U_undo0 hs h2 (by omega), ?_⟩
  rintro rs_ w1 ⟨N3, rfl, hG3, h3, rfl⟩
  refine ⟨Or.inl rfl, ?_⟩
  refine ⟨fun z => absurd (cmp0.mpr rfl) z, fun _ => ?_⟩
  exact ⟨⟨by omega, by omega⟩, Or.inr rfl, K N3 _ ((hG1.tr hG2).tr hG3) h3⟩
set_option maxRecDepth 100000 in
set_option maxHeartbeats 2000000 in
theorem f_e2a (hs : Scn A S) (h : RI B T ρ P (keep V 1 ρ) (pbM A N)) (hB : B < 980000) {sl w0 w1 w2 k t q kd dd ss f gg : Nat} {u : Nat} {r : Int64} {nc ns : Nat} (e5 : ρ 5 = nI t) (ht : t < 1000000) (hnc : nc + 202 ≤ 2400) (hns : ns + 1212 ≤ 14400) (K : ∀ N' P', Frm A N N' → RI B T ρ (0, P') (keep V 1 ρ) (pbM A N') → Q (.inl (some (.int 1))) (S, N', J)) : EE (SJ (d + 11) 127 (Wp (d + 10)) Q) (750, [(9, .int 1), (18, .long (lz w0 + lz w1 + lz w2)), (17, .int (nI sl)), (23, .long (lz u)), (21, .long r), (15, .long (lz gg)), (14, .int (nI f)), (12, .long (lz ss)), (10, .long (lz dd)), (7, .long (lz t)), (6, .int 1), (5, .int (nI kd)), (4, .int (nI q)), (2, .long (nowV ρ)), (0, .ref (A + 1)), (1, .int (nI k))], [], (S, N, J), nc, ns) := by
  obtain ⟨g98, g98b, g101, g101b, g102, g102b, g103, g103b, g108, g108b, g109, g109b, g110, g110b, g113, g113b, g114, g114b, g115, g115b, g116, g116b, g117, g117b, g118, g118b, g121, g121b, g122, g122b, g123, g123b, g124, g124b, g127, g127b⟩ := mjB
  refine EE.runN (stop := noStop) 60 _ ?_
  refine ⟨fun z => absurd z (by decide), fun _ => ?_⟩
  refine ⟨⟨Nat.le_of_ble_eq_true rfl, (by omega), (by omega)⟩, _, U_rest hs h (by omega) e5 (by omega), ?_⟩
  rintro rs_ w1 ⟨N1, rfl, hG1, h1, rfl⟩
  refine ⟨Or.inl rfl, ?_⟩
  refine ⟨fun z => absurd (cmp0.mpr rfl) z, fun _ => ?_⟩
  refine ⟨⟨Nat.le_of_ble_eq_true rfl, (by omega), (by omega)⟩, _, Z_now hs h1 (by omega), ?_⟩
  rintro rs_ w1 ⟨N2, rfl, hG2, h2, rfl⟩
  refine ⟨Or.inl rfl, ?_⟩
  refine ⟨fun z => absurd (cmp0.mpr rfl) z, fun _ => ?_⟩
  refine ⟨⟨Nat.le_of_ble_eq_true rfl, (by omega), (by omega)⟩, _, U_undo0 hs h2 (by omega), ?_⟩
  rintro rs_ w1 ⟨N3, rfl, hG3, h3, rfl⟩
  refine ⟨Or.inl rfl, ?_⟩
  refine ⟨fun z => absurd (cmp0.mpr rfl) z, fun _ => ?_⟩
  exact ⟨⟨by omega, by omega⟩, Or.inr rfl, K N3 _ ((hG1.tr hG2).tr hG3) h3⟩
set_option maxRecDepth 100000 in
set_option maxHeartbeats 2000000 in
theorem f_s0b (hs : Scn A S) (h : RI B T (ρ) P (V) (pbM A N)) (hB : B < 980000) {n sl k t q kd dd ss f gg v w : Nat} {r : Int64} {nc ns : Nat} (hk2 : k < 2147483648) (e0 : ρ 0 = nI n) (hn3 : 3 ≤ n) (hn : n ≤ 12) (hsl : k / 11 % n = sl) (hnc : nc + 1 ≤ 2400) (hns : ns + 6 ≤ 14400) (K : ∀ N' P'  nc' ns', Frm A N N' → RI B T (ρ) P' (V) (pbM A N') → nc' ≤ nc + 1 → ns' ≤ ns + 6 → EE (SJ (d + 11) 127 (Wp (d + 10)) Q) (632, [(17, .int (nI sl)), (9, .int 1), (21, .long r), (19, .long (lz ((dd - w : Nat) : Int))), (15, .long (lz gg)), (14, .int (nI f)), (12, .long (lz ss)), (10, .long (lz dd)), (7, .long (lz t)), (6, .int 1), (5, .int (nI kd)), (4, .int (nI q)), (2, .long (nowV ρ)), (0, .ref (A + 1)), (1, .int (nI k))], [], (S, N', J), nc', ns')) : EE (SJ (d + 11) 127 (Wp (d + 10)) Q) (619, [(9, .int 1), (21, .long r), (19, .long (lz ((dd - w : Nat) : Int))), (17, .long (lz v)), (15, .long (lz gg)), (14, .int (nI f)), (12, .long (lz ss)), (10, .long (lz dd)), (7, .long (lz t)), (6, .int 1), (5, .int (nI kd)), (4, .int (nI q)), (2, .long (nowV ρ)), (0, .ref (A + 1)), (1, .int (nI k))], [], (S, N, J), nc, ns) := by
  obtain ⟨g98, g98b, g101, g101b, g102, g102b, g103, g103b, g108, g108b, g109, g109b, g110, g110b, g113, g113b, g114, g114b, g115, g115b, g116, g116b, g117, g117b, g118, g118b, g121, g121b, g122, g122b, g123, g123b, g124, g124b, g127, g127b⟩ := mjB
  refine EE.runN (stop := atPc [632]) 90 _ ?_
  have hz : ¬ (nI n).toInt64.toInt32 = 0 := by
    rw [l2i_n, show (0 : Int32) = nI 0 from rfl, nI_eq (by omega) (by omega)]
    omega
  have e1 : nI k / 11 - nI k / 11 / (nI n).toInt64.toInt32 * (nI n).toInt64.toInt32 = nI sl := by
    rw [l2i_n, show (11 : Int32) = nI 11 from rfl, pk_div (by omega) (by omega) (by omega), pk_div (by omega) (by omega) (by omega), pk_mul, pk_sub (Nat.div_mul_le_self _ _)]
    have := Nat.div_add_mod (k / 11) n
    rw [Nat.mul_comm] at this
    congr 1
    omega
  refine ⟨by decide, ⟨Nat.le_of_ble_eq_true rfl, (by omega), (by omega)⟩, _, X_about hs h (by omega), ?_⟩
  rintro rs_ w1 ⟨N1, rfl, hG1, h1, hr⟩
  have hr : rs_ = .inl (some (.long (ab ρ 0))) := hr
  rw [show ab ρ 0 = _ from ab_o (k := 0) (by omega) (by omega) (by omega) (by omega) (by omega) (by omega), e0] at hr
  subst hr
  refine ⟨Or.inl rfl, ?_⟩
  refine ⟨hz, ?_⟩
  refine ee_ls (ls := [(17, .int (nI k / 11 - nI k / 11 / (nI n).toInt64.toInt32 * (nI n).toInt64.toInt32)), (9, .int 1), (21, .long r), (19, .long (lz ((dd - w : Nat) : Int))), (15, .long (lz gg)), (14, .int (nI f)), (12, .long (lz ss)), (10, .long (lz dd)), (7, .long (lz t)), (6, .int 1), (5, .int (nI kd)), (4, .int (nI q)), (2, .long (nowV ρ)), (0, .ref (A + 1)), (1, .int (nI k))]) [(17, .int (nI sl)), (9, .int 1), (21, .long r), (19, .long (lz ((dd - w : Nat) : Int))), (15, .long (lz gg)), (14, .int (nI f)), (12, .long (lz ss)), (10, .long (lz dd)), (7, .long (lz t)), (6, .int 1), (5, .int (nI kd)), (4, .int (nI q)), (2, .long (nowV ρ)), (0, .ref (A + 1)), (1, .int (nI k))] (by rw [e1]) ?_
  exact K N1 P  _ _  hG1  h1 (by omega) (by omega)
set_option maxRecDepth 100000 in
set_option maxHeartbeats 2000000 in
theorem f_s1b (hs : Scn A S) (h : RI B T (ρ) P (V) (pbM A N)) (hB : B < 980000) {n sl w0 w1 w2 k t q kd dd ss f gg w : Nat} {r : Int64} {nc ns : Nat} (on3 : ρ 3 = 1) (ec : (ρ 0).toNatClampNeg = n) (hn : n ≤ 12) (hsn : sl < n) (a0 : ρ (43 + 2 * (3 * sl + 0)) = nI w0) (a1 : ρ (43 + 2 * (3 * sl + 1)) = nI w1) (a2 : ρ (43 + 2 * (3 * sl + 2)) = nI w2) (b0 : w0 ≤ 999) (b1 : w1 ≤ 999) (b2 : w2 ≤ 999) (e4 : ρ 4 = nI dd) (hdd : dd < 1000000) (hnc : nc + 210 ≤ 2400) (hns : ns + 1260 ≤ 14400) (K1 : ∀ N' P'  nc' ns', Frm A N N' → RI (B + 1000) T (ρ) P' (V) (pbM A N') → nc' ≤ nc + 210 → ns' ≤ ns + 1260 → EE (SJ (d + 11) 127 (Wp (d + 10)) Q) (750, [(18, .long (lz w0 + lz w1 + lz w2)), (17, .int (nI sl)), (9, .int 1), (21, .long r), (15, .long (lz gg)), (14, .int (nI f)), (12, .long (lz ss)), (10, .long (lz dd)), (7, .long (lz t)), (6, .int 1), (5, .int (nI kd)), (4, .int (nI q)), (2, .long (nowV ρ)), (0, .ref (A + 1)), (1, .int (nI k))], [], (S, N', J), nc', ns')) (K2 : ∀ N' P'  nc' ns', Frm A N N' → RI (B + 1000) T (ρ) P' (V) (pbM A N') → nc' ≤ nc + 210 → ns' ≤ ns + 1260 → EE (SJ (d + 11) 127 (Wp (d + 10)) Q) (750, [(9, .int 1), (18, .long (lz w0 + lz w1 + lz w2)), (17, .int (nI sl)), (21, .long r), (15, .long (lz gg)), (14, .int (nI f)), (12, .long (lz ss)), (10, .long (lz dd)), (7, .long (lz t)), (6, .int 1), (5, .int (nI kd)), (4, .int (nI q)), (2, .long (nowV ρ)), (0, .ref (A + 1)), (1, .int (nI k))], [], (S, N', J), nc', ns')) : EE (SJ (d + 11) 127 (Wp (d + 10)) Q) (632, [(17, .int (nI sl)), (9, .int 1), (21, .long r), (19, .long (lz ((dd - w : Nat) : Int))), (15, .long (lz gg)), (14, .int (nI f)), (12, .long (lz ss)), (10, .long (lz dd)), (7, .long (lz t)), (6, .int 1), (5, .int (nI kd)), (4, .int (nI q)), (2, .long (nowV ρ)), (0, .ref (A + 1)), (1, .int (nI k))], [], (S, N, J), nc, ns) := by
  obtain ⟨g98, g98b, g101, g101b, g102, g102b, g103, g103b, g108, g108b, g109, g109b, g110, g110b, g113, g113b, g114, g114b, g115, g115b, g116, g116b, g117, g117b, g118, g118b, g121, g121b, g122, g122b, g123, g123b, g124, g124b, g127, g127b⟩ := mjB
  refine EE.runN (stop := atPc [750]) 160 _ ?_
  have hw := rWear_w a0 a1 a2
  have h30 : ¬ ρ 3 = 0 := by rw [on3]; decide
  refine ⟨⟨Nat.le_of_ble_eq_true rfl, (by omega), (by omega)⟩, _, X_cell hs h (by omega), ?_⟩
  rintro rs_ w1 ⟨N1, rfl, hG1, h1, hr⟩
  have hr : rs_ = .inl (some (.long (cl ρ (nI sl) 0 1))) := hr
  rw [show cl ρ (nI sl) 0 1 = _ from cl_1 (i := 0) ec hn hsn (by omega), a0, lz_n (show w0 < 2147483648 by omega)] at hr
  subst hr
  refine ⟨Or.inl rfl, ?_⟩
  refine ⟨⟨Nat.le_of_ble_eq_true rfl, (by omega), (by omega)⟩, _, X_cell hs h1 (by omega), ?_⟩
  rintro rs_ w1 ⟨N2, rfl, hG2, h2, hr⟩
  have hr : rs_ = .inl (some (.long (cl ρ (nI sl) 1 1))) := hr
  rw [show cl ρ (nI sl) 1 1 = _ from cl_1 (i := 1) ec hn hsn (by omega), a1, lz_n (show w1 < 2147483648 by omega)] at hr
  subst hr
  refine ⟨Or.inl rfl, ?_⟩
  refine ⟨⟨Nat.le_of_ble_eq_true rfl, (by omega), (by omega)⟩, _, X_cell hs h2 (by omega), ?_⟩
  rintro rs_ w1 ⟨N3, rfl, hG3, h3, hr⟩
  have hr : rs_ = .inl (some (.long (cl ρ (nI sl) 2 1))) := hr
  rw [show cl ρ (nI sl) 2 1 = _ from cl_1 (i := 2) ec hn hsn (by omega), a2, lz_n (show w2 < 2147483648 by omega)] at hr
  subst hr
  refine ⟨Or.inl rfl, ?_⟩
  refine ⟨⟨Nat.le_of_ble_eq_true rfl, (by omega), (by omega)⟩, _, X_about hs h3 (by omega), ?_⟩
  rintro rs_ w1 ⟨N4, rfl, hG4, h4, hr⟩
  have hr : rs_ = .inl (some (.long (ab ρ 7))) := hr
  rw [show ab ρ 7 = _ from ab_p (k := 7) (by omega), if_neg h30] at hr
  subst hr
  refine ⟨Or.inl rfl, ?_⟩
  refine ⟨fun _ => K1 N4 P _ _ (((hG1.tr hG2).tr hG3).tr hG4) (h4.mono (by omega)) (by omega) (by omega), fun z => ?_⟩
  refine ⟨fun z => absurd z (by decide), fun _ => ?_⟩
  refine ⟨⟨Nat.le_of_ble_eq_true rfl, (by omega), (by omega)⟩, _, U_repl hs h4 (by omega) Hs.nil (by decide) ec hn hsn on3 (fun y => z (q64.mpr y)) hw (by omega), ?_⟩
  rintro rs_ w1 ⟨N5, rfl, hG5, P5, hP5, h5, rfl⟩
  refine ⟨Or.inl rfl, ?_⟩
  have eW : lz ((w0 + w1 + w2 : Nat) : Int) = lz w0 + lz w1 + lz w2 := by rw [lz_add, lz_add]; rfl
  have ec2 : (rRenew ρ sl 0).toNatClampNeg = n := by rw [renew_o (by omega), ec]
  refine ⟨fun z => absurd (cmp0.mpr eW) z, fun _ => ?_⟩
  refine ⟨⟨Nat.le_of_ble_eq_true rfl, (by omega), (by omega)⟩, _, X_says hs h5 (by omega), ?_⟩
  rintro rs_ w1 ⟨N6, rfl, hG6, h6, hr⟩
  have hr : rs_ = .inl (some (.long (eL (fun c => 2) (aSays (rRenew ρ sl) (rRenew ρ sl 0).toNatClampNeg (nI sl))))) := hr
  rw [sa_v ec2 hn hsn, rRenew_0] at hr
  subst hr
  refine ⟨Or.inl rfl, ?_⟩
  refine ⟨fun z => absurd (cmp0.mpr rfl) z, fun _ => ?_⟩
  have ez : rRenew ρ sl (43 + 2 * (3 * sl + 2)) = 0 := by
    unfold rRenew
    rw [rRn_z 3, if_pos (by omega)]
  refine ⟨⟨Nat.le_of_ble_eq_true rfl, (by omega), (by omega)⟩, _, X_cell hs h6 (by omega), ?_⟩
  rintro rs_ w1 ⟨N7, rfl, hG7, h7, hr⟩
  have hr : rs_ = .inl (some (.long (cl (rRenew ρ sl) (nI sl) 2 1))) := hr
  rw [show cl (rRenew ρ sl) (nI sl) 2 1 = _ from cl_1 (i := 2) ec2 hn hsn (by omega), ez] at hr
  subst hr
  refine ⟨Or.inl rfl, ?_⟩
  refine ⟨fun z => absurd (cmp0.mpr rfl) z, fun _ => ?_⟩
  refine ⟨⟨Nat.le_of_ble_eq_true rfl, (by omega), (by omega)⟩, _, X_about hs h7 (by omega), ?_⟩
  rintro rs_ w1 ⟨N8, rfl, hG8, h8, hr⟩
  have hr : rs_ = .inl (some (.long (ab (rRenew ρ sl) 4))) := hr
  rw [show ab (rRenew ρ sl) 4 = _ from ab_p (k := 4) (by omega), renew_o (k := 3) (by omega), renew_o (k := 4) (by omega), if_neg h30, e4, lz_n (show dd < 2147483648 by omega)] at hr
  subst hr
  refine ⟨Or.inl rfl, ?_⟩
  refine ⟨fun z => absurd (cmp0.mpr rfl) z, fun _ => ?_⟩
  refine ⟨⟨Nat.le_of_ble_eq_true rfl, (by omega), (by omega)⟩, _, U_undo hs h8 (by omega) hP5, ?_⟩
  rintro rs_ w1 ⟨N9, rfl, hG9, P9, r9, hr9, hP9, h9, rfl⟩
  refine ⟨Or.inl rfl, ?_⟩
  refine ⟨fun z => absurd (lcmp_lt.mp z) (by rw [show (0 : Int64) = lz 0 from rfl, lz_lt (by omega) (by omega) (by omega) (by omega)]; omega), fun _ => ?_⟩
  refine ⟨⟨Nat.le_of_ble_eq_true rfl, (by omega), (by omega)⟩, _, Z_now hs h9 (by omega), ?_⟩
  rintro rs_ w1 ⟨N10, rfl, hG10, h10, rfl⟩
  refine ⟨Or.inl rfl, ?_⟩
  refine ⟨fun z => absurd (cmp0.mpr rfl) z, fun _ => ?_⟩
  exact K2 N10 P9  _ _  (((((((((hG1.tr hG2).tr hG3).tr hG4).tr hG5).tr hG6).tr hG7).tr hG8).tr hG9).tr hG10)  h10 (by omega) (by omega)
set_option maxRecDepth 100000 in
set_option maxHeartbeats 2000000 in
theorem f_e1b (hs : Scn A S) (h : RI B T ρ P (keep V 1 ρ) (pbM A N)) (hB : B < 980000) {sl w0 w1 w2 k t q kd dd ss f gg : Nat} {r : Int64} {nc ns : Nat} (e5 : ρ 5 = nI t) (ht : t < 1000000) (hnc : nc + 202 ≤ 2400) (hns : ns + 1212 ≤ 14400) (K : ∀ N' P', Frm A N N' → RI B T ρ (0, P') (keep V 1 ρ) (pbM A N') → Q (.inl (some (.int 1))) (S, N', J)) : EE (SJ (d + 11) 127 (Wp (d + 10)) Q) (750, [(18, .long (lz w0 + lz w1 + lz w2)), (17, .int (nI sl)), (9, .int 1), (21, .long r), (15, .long (lz gg)), (14, .int (nI f)), (12, .long (lz ss)), (10, .long (lz dd)), (7, .long (lz t)), (6, .int 1), (5, .int (nI kd)), (4, .int (nI q)), (2, .long (nowV ρ)), (0, .ref (A + 1)), (1, .int (nI k))], [], (S, N, J), nc, ns) := by
  obtain ⟨g98, g98b, g101, g101b, g102, g102b, g103, g103b, g108, g108b, g109, g109b, g110, g110b, g113, g113b, g114, g114b, g115, g115b, g116, g116b, g117, g117b, g118, g118b, g121, g121b, g122, g122b, g123, g123b, g124, g124b, g127, g127b⟩ := mjB
  refine EE.runN (stop := noStop) 60 _ ?_
  refine ⟨fun z => absurd z (by decide), fun _ => ?_⟩
  refine ⟨⟨Nat.le_of_ble_eq_true rfl, (by omega), (by omega)⟩, _, U_rest hs h (by omega) e5 (by omega), ?_⟩
  rintro rs_ w1 ⟨N1, rfl, hG1, h1, rfl⟩
  refine ⟨Or.inl rfl, ?_⟩
  refine ⟨fun z => absurd (cmp0.mpr rfl) z, fun _ => ?_⟩
  refine ⟨⟨Nat.le_of_ble_eq_true rfl, (by omega), (by omega)⟩, _, Z_now hs h1 (by omega), ?_⟩
  rintro rs_ w1 ⟨N2, rfl, hG2, h2, rfl⟩
  refine ⟨Or.inl rfl, ?_⟩
  refine ⟨fun z => absurd (cmp0.mpr rfl) z, fun _ => ?_⟩
  refine ⟨⟨Nat.le_of_ble_eq_true rfl, (by omega), (by omega)⟩, _, U_undo0 hs h2 (by omega), ?_⟩
  rintro rs_ w1 ⟨N3, rfl, hG3, h3, rfl⟩
  refine ⟨Or.inl rfl, ?_⟩
  refine ⟨fun z => absurd (cmp0.mpr rfl) z, fun _ => ?_⟩
  exact ⟨⟨by omega, by omega⟩, Or.inr rfl, K N3 _ ((hG1.tr hG2).tr hG3) h3⟩
set_option maxRecDepth 100000 in
set_option maxHeartbeats 2000000 in
theorem f_e2b (hs : Scn A S) (h : RI B T ρ P (keep V 1 ρ) (pbM A N)) (hB : B < 980000) {sl w0 w1 w2 k t q kd dd ss f gg : Nat} {r : Int64} {nc ns : Nat} (e5 : ρ 5 = nI t) (ht : t < 1000000) (hnc : nc + 202 ≤ 2400) (hns : ns + 1212 ≤ 14400) (K : ∀ N' P', Frm A N N' → RI B T ρ (0, P') (keep V 1 ρ) (pbM A N') → Q (.inl (some (.int 1))) (S, N', J)) : EE (SJ (d + 11) 127 (Wp (d + 10)) Q) (750, [(9, .int 1), (18, .long (lz w0 + lz w1 + lz w2)), (17, .int (nI sl)), (21, .long r), (15, .long (lz gg)), (14, .int (nI f)), (12, .long (lz ss)), (10, .long (lz dd)), (7, .long (lz t)), (6, .int 1), (5, .int (nI kd)), (4, .int (nI q)), (2, .long (nowV ρ)), (0, .ref (A + 1)), (1, .int (nI k))], [], (S, N, J), nc, ns) := by
  obtain ⟨g98, g98b, g101, g101b, g102, g102b, g103, g103b, g108, g108b, g109, g109b, g110, g110b, g113, g113b, g114, g114b, g115, g115b, g116, g116b, g117, g117b, g118, g118b, g121, g121b, g122, g122b, g123, g123b, g124, g124b, g127, g127b⟩ := mjB
  refine EE.runN (stop := noStop) 60 _ ?_
  refine ⟨fun z => absurd z (by decide), fun _ => ?_⟩
  refine ⟨⟨Nat.le_of_ble_eq_true rfl, (by omega), (by omega)⟩, _, U_rest hs h (by omega) e5 (by omega), ?_⟩
  rintro rs_ w1 ⟨N1, rfl, hG1, h1, rfl⟩
  refine ⟨Or.inl rfl, ?_⟩
  refine ⟨fun z => absurd (cmp0.mpr rfl) z, fun _ => ?_⟩
  refine ⟨⟨Nat.le_of_ble_eq_true rfl, (by omega), (by omega)⟩, _, Z_now hs h1 (by omega), ?_⟩
  rintro rs_ w1 ⟨N2, rfl, hG2, h2, rfl⟩
  refine ⟨Or.inl rfl, ?_⟩
  refine ⟨fun z => absurd (cmp0.mpr rfl) z, fun _ => ?_⟩
  refine ⟨⟨Nat.le_of_ble_eq_true rfl, (by omega), (by omega)⟩, _, U_undo0 hs h2 (by omega), ?_⟩
  rintro rs_ w1 ⟨N3, rfl, hG3, h3, rfl⟩
  refine ⟨Or.inl rfl, ?_⟩
  refine ⟨fun z => absurd (cmp0.mpr rfl) z, fun _ => ?_⟩
  exact ⟨⟨by omega, by omega⟩, Or.inr rfl, K N3 _ ((hG1.tr hG2).tr hG3) h3⟩
end
