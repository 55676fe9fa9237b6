/-! THE LAW: kept, the loop over the slots, the shares: written by wip/p31/kept2.py -/
theorem lz_div {a b : Int} (ha : 0 ≤ a) (ha' : a < 4611686018427387904) (hb : 0 < b) (hb' : b < 4611686018427387904) : lz a / lz b = lz (a / b) := by
  apply Int64.toInt_inj.mp
  have e1 := lz_toInt (z := a) (by omega) ha'
  have e2 := lz_toInt (z := b) (by omega) hb'
  rw [Int64.toInt_div_of_ne_left _ _ (by intro q; rw [q] at e1; rw [← e1] at ha; exact absurd ha (by decide)), e1, e2, Int.tdiv_eq_ediv_of_nonneg ha, lz_toInt]
  · have := Int.ediv_nonneg ha (Int.le_of_lt hb)
    omega
  · exact Int.lt_of_le_of_lt (Int.ediv_le_self b ha) ha'
section
variable {A d : Nat} {S : Sc} {N : Nat → Nat → Int32} {J : Nat → Nat → Int64} {B : Nat} {T : Tx} {ρ : Rw} {P : Pst9} {V : Sav} {Q : Res → Wd → Prop}
set_option maxHeartbeats 1000000 in
theorem k_0 (hs : Scn A S) (h : RI B T ρ P V (pbM A N)) (hB : B < 990000) {n : Nat} (e0 : ρ 0 = nI n) (ec : (ρ 0).toNatClampNeg = n) (hn3 : 3 ≤ n) (hn : n ≤ 12) (hb : ρ 3 = 0 ∨ ρ 3 = 1) (K : ∀ N' o nc' ns', ((o = 1 ∧ ρ 3 = 0) ∨ (o = 0 ∧ ρ 3 = 1)) → Frm A N N' → RI B T ρ P V (pbM A N') → nc' ≤ 3 → ns' ≤ 18 → EE (SJ (d + 11) 126 (Wp (d + 10)) Q) (49, [(0, .ref (A + 1)), (1, .int (nI n)), (2, .int o), (3, .int 1), (4, .long (lz (wS ρ (3 * 0)))), (6, .long (rLeast ρ (3 * 0)).toInt64), (8, .long (rMost ρ (3 * 0)).toInt64), (10, .long (cGr ρ 0).toInt64), (12, .int (nI 0))], [], (S, N', J), nc', ns')) : EE (SJ (d + 11) 126 (Wp (d + 10)) Q) (0, [(0, .ref (A + 1))], [], (S, N, J), 0, 0) := by
  obtain ⟨⟨g98, g98'⟩, ⟨g101, g101'⟩, ⟨g102, g102'⟩, ⟨g103, g103'⟩, ⟨g104, g104'⟩, ⟨g105, g105'⟩, ⟨g106, g106'⟩, ⟨g107, g107'⟩, ⟨g119, g119'⟩, ⟨g86, g86'⟩, ⟨g126, g126'⟩⟩ := mjA
  refine EE.runN (stop := atPc [49]) 60 _ ?_
  refine ⟨⟨Nat.le_of_ble_eq_true rfl, (by omega), (by omega)⟩, _, X_about hs h hB, ?_⟩
  rintro rs_ w1 ⟨N1, rfl, hG1, h1, hr⟩
  have hr : rs_ = .inl (some (.long (ab ρ 0))) := hr
  rw [show ab ρ 0 = _ from ab_0 e0 hn, ← lz_n (show n < 2147483648 by omega)] at hr
  subst hr
  refine ⟨Or.inl rfl, ?_⟩
  refine ⟨⟨Nat.le_of_ble_eq_true rfl, (by omega), (by omega)⟩, _, X_about hs h1 hB, ?_⟩
  rintro rs_ w1 ⟨N2, rfl, hG2, h2, hr⟩
  have hr : rs_ = .inl (some (.long (ab ρ 3))) := hr
  rw [show ab ρ 3 = _ from ab_o (k := 3) (by omega) (by omega) (by omega) (by omega) (by omega) (by omega)] at hr
  subst hr
  refine ⟨Or.inl rfl, ?_⟩
  rcases hb with g | g
  · refine ⟨fun z => absurd (cmp0.mpr (by rw [g]; rfl)) z, fun _ => ?_⟩
    refine ⟨⟨Nat.le_of_ble_eq_true rfl, (by omega), (by omega)⟩, _, X_cell hs h2 hB, ?_⟩
    rintro rs_ w1 ⟨N3, rfl, hG3, h3, hr⟩
    have hr : rs_ = .inl (some (.long (cl ρ 0 0 1))) := hr
    rw [show cl ρ 0 0 1 = _ from cl_1 (s := 0) (i := 0) ec hn (by omega) (by omega)] at hr
    subst hr
    refine ⟨Or.inl rfl, ?_⟩
    refine EE.nz (nt := nzT 126) (ls' := [(0, .ref (A + 1)), (1, .int (nI n)), (2, .int 1), (3, .int 1), (4, .long (lz (wS ρ (3 * 0)))), (6, .long (rLeast ρ (3 * 0)).toInt64), (8, .long (rMost ρ (3 * 0)).toInt64), (10, .long (cGr ρ 0).toInt64), (12, .int (nI 0))]) rfl (by rw [l2i_n]; rfl) ?_
    exact K N3 1 _ _ (Or.inl ⟨rfl, g⟩) ((hG1.tr hG2).tr hG3) h3 (by omega) (by omega)
  · refine ⟨fun _ => ?_, fun z => absurd (cmp0.mp z) (by rw [g]; decide)⟩
    refine ⟨⟨Nat.le_of_ble_eq_true rfl, (by omega), (by omega)⟩, _, X_cell hs h2 hB, ?_⟩
    rintro rs_ w1 ⟨N3, rfl, hG3, h3, hr⟩
    have hr : rs_ = .inl (some (.long (cl ρ 0 0 1))) := hr
    rw [show cl ρ 0 0 1 = _ from cl_1 (s := 0) (i := 0) ec hn (by omega) (by omega)] at hr
    subst hr
    refine ⟨Or.inl rfl, ?_⟩
    refine EE.nz (nt := nzT 126) (ls' := [(0, .ref (A + 1)), (1, .int (nI n)), (2, .int 0), (3, .int 1), (4, .long (lz (wS ρ (3 * 0)))), (6, .long (rLeast ρ (3 * 0)).toInt64), (8, .long (rMost ρ (3 * 0)).toInt64), (10, .long (cGr ρ 0).toInt64), (12, .int (nI 0))]) rfl (by rw [l2i_n]; rfl) ?_
    exact K N3 0 _ _ (Or.inr ⟨rfl, g⟩) ((hG1.tr hG2).tr hG3) h3 (by omega) (by omega)
/-- what is known of the row -/
def Kf (n t l : Nat) (ρ : Rw) : Prop := (3 ≤ n ∧ n ≤ 12 ∧ ρ 0 = nI n ∧ (ρ 0).toNatClampNeg = n) ∧ (t < 1000000 ∧ ρ 5 = nI t) ∧ (ρ 2 = nI l ∧ l ≤ 999 ∧ ∀ q, q < 36 → ∃ m, m ≤ l ∧ ρ (43 + 2 * q) = nI m) ∧ S1 n t ρ
theorem K_in (hs : Scn A S) (hB : B < 990000) (N0 : Nat → Nat → Int32) {n t l s : Nat} {o : Int32} (hK : Kf n t l ρ) (hsn : s < n) : ∀ (f i : Nat) (N : Nat → Nat → Int32) (nc ns : Nat), i + f = 3 → Frm A N0 N → RI B T ρ P V (pbM A N) → nc + 4 * f ≤ 700 → ns + 24 * f ≤ 4200 → (∀ N' nc' ns', Frm A N0 N' → RI B T ρ P V (pbM A N') → nc' ≤ nc + 4 * f → ns' ≤ ns + 24 * f → EE (SJ (d + 11) 126 (Wp (d + 10)) Q) (347, [(0, .ref (A + 1)), (1, .int (nI n)), (2, .int o), (3, .int 1), (4, .long (lz (wS ρ (3 * s + 3)))), (6, .long (rLeast ρ (3 * s + 3)).toInt64), (8, .long (rMost ρ (3 * s + 3)).toInt64), (10, .long (cGr ρ (s + 1)).toInt64), (12, .int (nI s)), (24, .int (nI 3))], [], (S, N', J), nc', ns')) → EE (SJ (d + 11) 126 (Wp (d + 10)) Q) (347, [(0, .ref (A + 1)), (1, .int (nI n)), (2, .int o), (3, .int 1), (4, .long (lz (wS ρ (3 * s + i)))), (6, .long (rLeast ρ (3 * s + i)).toInt64), (8, .long (rMost ρ (3 * s + i)).toInt64), (10, .long (cGr ρ (s + 1)).toInt64), (12, .int (nI s)), (24, .int (nI i))], [], (S, N, J), nc, ns)
  | 0, i, N, nc, ns, hi, hF, h, hc, hn', K => by
    have hi : i = 3 := by omega
    subst hi
    exact K N nc ns hF h (by omega) (by omega)
  | f + 1, i, N, nc, ns, hi, hF, h, hc, hn', K => by
    obtain ⟨⟨hn3, hn, e0, ec⟩, ⟨ht, e5⟩, ⟨e2, hl, hw⟩, hS⟩ := id hK
    obtain ⟨m, hm, ew⟩ := hw (3 * s + i) (by omega)
    have el : lz (wS ρ (3 * s + i)) + (nI m).toInt64 = lz (wS ρ (3 * s + (i + 1))) := by
      rw [show 3 * s + (i + 1) = 3 * s + i + 1 by omega, wS, ew, ck (by omega), lz_n (by omega), lz_add]
      congr 1
    have ele : (if rLeast ρ (3 * s + i) ≤ nI m then rLeast ρ (3 * s + i) else nI m) = rLeast ρ (3 * s + (i + 1)) := by
      rw [show 3 * s + (i + 1) = 3 * s + i + 1 by omega, rLeast, ew]
    have emo : (if nI m ≤ rMost ρ (3 * s + i) then rMost ρ (3 * s + i) else nI m) = rMost ρ (3 * s + (i + 1)) := by
      rw [show 3 * s + (i + 1) = 3 * s + i + 1 by omega, rMost, ew]
    refine k_347 hs h hB ec hn hsn (by omega) ew e2 (nI_pos (by omega)) (by rw [nI_leI (by omega) (by omega)]; exact hm) (by omega) (by omega) (fun N1 nc1 ns1 hF1 h1 hc1 hn1 => ?_)
    rw [el, ele]
    refine k_392 ?_
    rw [emo]
    refine k_409 hs h1 hB ec hn hsn (by omega) ew e2 (nI_pos (by omega)) (by rw [nI_leI (by omega) (by omega)]; exact hm) (by omega) (by omega) (fun N2 nc2 ns2 hF2 h2 hc2 hn2 => ?_)
    exact K_in hs hB N0 hK hsn f (i + 1) N2 nc2 ns2 (by omega) ((hF.tr hF1).tr hF2) h2 (by omega) (by omega) (fun N' nc' ns' a1 a2 a3 a4 => K N' nc' ns' a1 a2 (by omega) (by omega))
set_option maxHeartbeats 1000000 in
theorem K_slots (hs : Scn A S) (hB : B < 990000) (N0 : Nat → Nat → Int32) {n t l : Nat} {o : Int32} (hK : Kf n t l ρ) : ∀ (f s : Nat) (N : Nat → Nat → Int32) (nc ns : Nat), s + f = n → Frm A N0 N → RI B T ρ P V (pbM A N) → nc + 18 * f ≤ 700 → ns + 108 * f ≤ 4200 → (∀ N' nc' ns', Frm A N0 N' → RI B T ρ P V (pbM A N') → nc' ≤ nc + 18 * f → ns' ≤ ns + 108 * f → EE (SJ (d + 11) 126 (Wp (d + 10)) Q) (480, [(0, .ref (A + 1)), (1, .int (nI n)), (2, .int o), (3, .int 1), (4, .long (lz (wS ρ (3 * n)))), (6, .long (rLeast ρ (3 * n)).toInt64), (8, .long (rMost ρ (3 * n)).toInt64), (10, .long (cGr ρ n).toInt64), (12, .long 0), (14, .int (nI 0))], [], (S, N', J), nc', ns')) → EE (SJ (d + 11) 126 (Wp (d + 10)) Q) (49, [(0, .ref (A + 1)), (1, .int (nI n)), (2, .int o), (3, .int 1), (4, .long (lz (wS ρ (3 * s)))), (6, .long (rLeast ρ (3 * s)).toInt64), (8, .long (rMost ρ (3 * s)).toInt64), (10, .long (cGr ρ s).toInt64), (12, .int (nI s))], [], (S, N, J), nc, ns)
  | 0, s, N, nc, ns, hi, hF, h, hc, hn', K => by
    have hi : n = s := by omega
    subst hi
    refine EE.runN (stop := atPc [480]) 30 _ ?_
    refine ⟨fun _ => ?_, fun z => absurd (Int32.le_refl _) z⟩
    exact EE.nz (nt := nzT 126) (ls' := [(0, .ref (A + 1)), (1, .int (nI n)), (2, .int o), (3, .int 1), (4, .long (lz (wS ρ (3 * n)))), (6, .long (rLeast ρ (3 * n)).toInt64), (8, .long (rMost ρ (3 * n)).toInt64), (10, .long (cGr ρ n).toInt64), (12, .long 0), (14, .int (nI 0))]) rfl rfl (K N nc ns hF h (by omega) (by omega))
  | f + 1, s, N, nc, ns, hi, hF, h, hc, hn', K => by
    obtain ⟨⟨hn3, hn, e0, ec⟩, ⟨ht, e5⟩, ⟨e2, hl, hw⟩, hS⟩ := id hK
    have hsn : s < n := by omega
    have hvv : rSays ρ s = sy (ρ (42 + 2 * (3 * s + 0))) (ρ (42 + 2 * (3 * s + 1))) (ρ (42 + 2 * (3 * s + 2))) := rfl
    refine k_49 hs h hB ec hn hsn rfl rfl rfl hvv (by omega) (by omega) (fun N1 nc1 ns1 hF1 h1 hc1 hn1 => ?_)
    refine k_97 (k_110 (k_123 (k_137 ?_)))
    refine k_140 (k_154 (k_168 (k_183 ?_)))
    refine k_186 two_iff (k_235 (k_254 held_gt ?_))
    refine k_269 hs h1 hB ec hn hsn hvv read_sum (by omega) (by omega) (fun N2 nc2 ns2 hF2 h2 hc2 hn2 => ?_)
    refine k_301 hs h2 hB (fun q => ?_) (by omega) (by omega) (fun N3 nc3 ns3 hF3 h3 hc3 hn3 => ?_)
    · rcases hS s hsn with g | ⟨v, hv, g⟩
      · exact absurd g (by rw [hvv]; exact q)
      · rw [← hvv, g, e5, nI_leI (by omega) (by omega)]
        exact hv
    refine k_327 ?_
    have eg : (if sy (ρ (42 + 2 * (3 * s + 0))) (ρ (42 + 2 * (3 * s + 1))) (ρ (42 + 2 * (3 * s + 2))) ≤ cGr ρ s then cGr ρ s else sy (ρ (42 + 2 * (3 * s + 0))) (ρ (42 + 2 * (3 * s + 1))) (ρ (42 + 2 * (3 * s + 2)))) = cGr ρ (s + 1) := by
      rw [cGr, hvv]
    rw [eg]
    refine K_in hs hB N0 hK hsn 3 0 N3 nc3 ns3 (by omega) (((hF.tr hF1).tr hF2).tr hF3) h3 (by omega) (by omega) (fun N4 nc4 ns4 hF4 h4 hc4 hn4 => ?_)
    refine k_468 ?_
    rw [show 3 * s + 3 = 3 * (s + 1) by omega]
    exact K_slots hs hB N0 hK f (s + 1) N4 nc4 ns4 (by omega) hF4 h4 (by omega) (by omega) (fun N' nc' ns' a1 a2 a3 a4 => K N' nc' ns' a1 a2 (by omega) (by omega))
set_option maxHeartbeats 1000000 in
theorem k_480 (hs : Scn A S) (h : RI B T ρ P V (pbM A N)) (hB : B < 990000) {n s : Nat} {o : Int32} {W : Nat} {le mo gr sm : Int64} {w0 w1 w2 : Nat} {nc ns : Nat} (ec : (ρ 0).toNatClampNeg = n) (hn : n ≤ 12) (hsn : s < n) (a0 : ρ (43 + 2 * (3 * s + 0)) = nI w0) (a1 : ρ (43 + 2 * (3 * s + 1)) = nI w1) (a2 : ρ (43 + 2 * (3 * s + 2)) = nI w2) (b0 : w0 ≤ 999) (b1 : w1 ≤ 999) (b2 : w2 ≤ 999) (hW : W ≤ 40000) (hv : (if rAll ρ n = 0 then (0 : Int32) else 100 * rWear ρ s / rAll ρ n) = nI (if W = 0 then 0 else 100 * (w0 + w1 + w2) / W)) (hnc : nc + 5 ≤ 700) (hns : ns + 30 ≤ 4200) (K : ∀ N' nc' ns', Frm A N N' → RI B T ρ P V (pbM A N') → nc' ≤ nc + 5 → ns' ≤ ns + 30 → EE (SJ (d + 11) 126 (Wp (d + 10)) Q) (480, [(0, .ref (A + 1)), (1, .int (nI n)), (2, .int o), (3, .int 1), (4, .long (lz W)), (6, .long le), (8, .long mo), (10, .long gr), (12, .long (sm + lz (if W = 0 then 0 else 100 * (w0 + w1 + w2) / W : Nat))), (14, .int (nI (s + 1)))], [], (S, N', J), nc', ns')) : EE (SJ (d + 11) 126 (Wp (d + 10)) Q) (480, [(0, .ref (A + 1)), (1, .int (nI n)), (2, .int o), (3, .int 1), (4, .long (lz W)), (6, .long le), (8, .long mo), (10, .long gr), (12, .long sm), (14, .int (nI s))], [], (S, N, J), nc, ns) := by
  obtain ⟨⟨g98, g98'⟩, ⟨g101, g101'⟩, ⟨g102, g102'⟩, ⟨g103, g103'⟩, ⟨g104, g104'⟩, ⟨g105, g105'⟩, ⟨g106, g106'⟩, ⟨g107, g107'⟩, ⟨g119, g119'⟩, ⟨g86, g86'⟩, ⟨g126, g126'⟩⟩ := mjA
  refine EE.runN (stop := atPc [480]) 90 _ ?_
  have hq : (if W = 0 then 0 else 100 * (w0 + w1 + w2) / W) < 2147483648 := by
    split
    · omega
    · exact Nat.lt_of_le_of_lt (Nat.div_le_self _ _) (by omega)
  refine ⟨fun z => absurd z (nI_ge hsn (by omega)), fun _ => ?_⟩
  refine ⟨fun z => absurd z (by decide), fun _ => ?_⟩
  refine ⟨⟨Nat.le_of_ble_eq_true rfl, (by omega), (by omega)⟩, _, X_share hs h hB, ?_⟩
  rintro rs_ w1 ⟨N1, rfl, hG1, h1, hr⟩
  have hr : rs_ = .inl (some (.long (eL (fun c => 2) (aShare ρ (ρ 0).toNatClampNeg (nI s))))) := hr
  rw [sh_v ec hn hsn, hv, lz_n hq] at hr
  subst hr
  refine ⟨Or.inl rfl, ?_⟩
  have hdiv : W ≠ 0 → 100 * (lz w0 + lz w1 + lz w2) / lz W = lz (if W = 0 then 0 else 100 * (w0 + w1 + w2) / W : Nat) := fun g => by
    rw [if_neg g, lz_add, lz_add, show (100 : Int64) = lz 100 from rfl, lz_mul, lz_div (by omega) (by omega) (by omega) (by omega)]
    congr 1
  refine ⟨fun z => ?_, fun z => ?_⟩
  · have hw : W ≠ 0 := fun q => z (cmp0.mpr (by rw [q]; rfl))
    have hnz : ¬ lz W = 0 := fun q => z (cmp0.mpr q)
    have hdiv := hdiv hw
    refine ⟨⟨Nat.le_of_ble_eq_true rfl, (by omega), (by omega)⟩, _, X_cell hs h1 hB, ?_⟩
    rintro rs_ w1 ⟨N2, rfl, hG2, h2, hr⟩
    have hr : rs_ = .inl (some (.long (cl ρ (nI s) 0 1))) := hr
    rw [show cl ρ (nI s) 0 1 = _ from cl_1 (i := 0) ec hn hsn (by omega), a0, lz_n (show w0 < 2147483648 by omega)] at hr
    subst hr
    refine ⟨Or.inl rfl, ?_⟩
    refine ⟨⟨Nat.le_of_ble_eq_true rfl, (by omega), (by omega)⟩, _, X_cell hs h2 hB, ?_⟩
    rintro rs_ w1 ⟨N3, rfl, hG3, h3, hr⟩
    have hr : rs_ = .inl (some (.long (cl ρ (nI s) 1 1))) := hr
    rw [show cl ρ (nI s) 1 1 = _ from cl_1 (i := 1) ec hn hsn (by omega), a1, lz_n (show w1 < 2147483648 by omega)] at hr
    subst hr
    refine ⟨Or.inl rfl, ?_⟩
    refine ⟨⟨Nat.le_of_ble_eq_true rfl, (by omega), (by omega)⟩, _, X_cell hs h3 hB, ?_⟩
    rintro rs_ w1 ⟨N4, rfl, hG4, h4, hr⟩
    have hr : rs_ = .inl (some (.long (cl ρ (nI s) 2 1))) := hr
    rw [show cl ρ (nI s) 2 1 = _ from cl_1 (i := 2) ec hn hsn (by omega), a2, lz_n (show w2 < 2147483648 by omega)] at hr
    subst hr
    refine ⟨Or.inl rfl, ?_⟩
    refine ⟨hnz, ?_⟩
    refine ⟨fun x => absurd (cmp0.mpr (hdiv.symm)) x, fun _ => ?_⟩
    refine ⟨⟨Nat.le_of_ble_eq_true rfl, (by omega), (by omega)⟩, _, X_share hs h4 hB, ?_⟩
    rintro rs_ w1 ⟨N5, rfl, hG5, h5, hr⟩
    have hr : rs_ = .inl (some (.long (eL (fun c => 2) (aShare ρ (ρ 0).toNatClampNeg (nI s))))) := hr
    rw [sh_v ec hn hsn, hv, lz_n hq] at hr
    subst hr
    refine ⟨Or.inl rfl, ?_⟩
    exact EE.nz (nt := nzT 126) (ls' := [(0, .ref (A + 1)), (1, .int (nI n)), (2, .int o), (3, .int 1), (4, .long (lz W)), (6, .long le), (8, .long mo), (10, .long gr), (12, .long (sm + lz (if W = 0 then 0 else 100 * (w0 + w1 + w2) / W : Nat))), (14, .int (nI (s + 1)))]) rfl (by rw [show nI (s + 1) = nI s + 1 from (nI_1 s).symm]; rfl) (K N5 _ _ ((((hG1.tr hG2).tr hG3).tr hG4).tr hG5) h5 (by omega) (by omega))
  · have hz : W = 0 := by
      have := cmp0.mp z
      rw [show (0 : Int64) = lz 0 from rfl, lz_eq (by omega) (by omega) (by omega) (by omega)] at this
      omega
    refine ⟨fun x => absurd (cmp0.mpr (by rw [if_pos hz]; rfl)) x, fun _ => ?_⟩
    refine ⟨⟨Nat.le_of_ble_eq_true rfl, (by omega), (by omega)⟩, _, X_share hs h1 hB, ?_⟩
    rintro rs_ w1 ⟨N2, rfl, hG2, h2, hr⟩
    have hr : rs_ = .inl (some (.long (eL (fun c => 2) (aShare ρ (ρ 0).toNatClampNeg (nI s))))) := hr
    rw [sh_v ec hn hsn, hv, lz_n hq] at hr
    subst hr
    refine ⟨Or.inl rfl, ?_⟩
    exact EE.nz (nt := nzT 126) (ls' := [(0, .ref (A + 1)), (1, .int (nI n)), (2, .int o), (3, .int 1), (4, .long (lz W)), (6, .long le), (8, .long mo), (10, .long gr), (12, .long (sm + lz (if W = 0 then 0 else 100 * (w0 + w1 + w2) / W : Nat))), (14, .int (nI (s + 1)))]) rfl (by rw [show nI (s + 1) = nI s + 1 from (nI_1 s).symm]; rfl) (K N2 _ _ (hG1.tr hG2) h2 (by omega) (by omega))
end
