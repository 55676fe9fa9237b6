/-! THE LAW: kept, its slots: written by wip/p31/kept.py -/
section
variable {A d : Nat} {S : Sc} {N : Nat → Nat → Int32} {J : Nat → Nat → Int64} {B : Nat} {T : Tx} {ρ : Rw} {P : Pst9} {V : Sav} {Q : Res → Wd → Prop}
set_option maxRecDepth 100000 in
set_option maxHeartbeats 1000000 in
theorem k_49 (hs : Scn A S) (h : RI B T ρ P V (pbM A N)) (hB : B < 990000) {n s : Nat} {o xa xb xc vv : Int32} {al le mo gr : Int64} {nc ns : Nat} (ec : (ρ 0).toNatClampNeg = n) (hn : n ≤ 12) (hsn : s < n) (exa : ρ (42 + 2 * (3 * s + 0)) = xa) (exb : ρ (42 + 2 * (3 * s + 1)) = xb) (exc : ρ (42 + 2 * (3 * s + 2)) = xc) (evv : rSays ρ s = vv) (hnc : nc + 4 ≤ 700) (hns : ns + 24 ≤ 4200) (K : ∀ N' nc' ns', Frm A N N' → RI B T ρ P V (pbM A N') → nc' ≤ nc + 4 → ns' ≤ ns + 24 → EE (SJ (d + 11) 126 (Wp (d + 10)) Q) (97, [(19, .long vv.toInt64), (17, .long xc.toInt64), (15, .long xb.toInt64), (13, .long xa.toInt64), (0, .ref (A + 1)), (1, .int (nI n)), (2, .int o), (3, .int 1), (4, .long al), (6, .long le), (8, .long mo), (10, .long gr), (12, .int (nI s))], [], (S, N', J), nc', ns')) : EE (SJ (d + 11) 126 (Wp (d + 10)) Q) (49, [(0, .ref (A + 1)), (1, .int (nI n)), (2, .int o), (3, .int 1), (4, .long al), (6, .long le), (8, .long mo), (10, .long gr), (12, .int (nI s))], [], (S, N, J), nc, ns) := by
  obtain ⟨⟨g98, g98'⟩, ⟨g101, g101'⟩, ⟨g102, g102'⟩, ⟨g103, g103'⟩, ⟨g104, g104'⟩, ⟨g105, g105'⟩, ⟨g106, g106'⟩, ⟨g107, g107'⟩, ⟨g119, g119'⟩, ⟨g86, g86'⟩, ⟨g126, g126'⟩⟩ := mjA
  refine EE.runN (stop := atPc [97]) 60 _ ?_
  refine ⟨fun z => absurd z (nI_ge hsn (by omega)), fun _ => ?_⟩
  refine ⟨fun z => absurd z (by decide), fun _ => ?_⟩
  refine ⟨⟨Nat.le_of_ble_eq_true rfl, (by omega), (by omega)⟩, _, X_cell hs h hB, ?_⟩
  rintro rs_ w1 ⟨N1, rfl, hG1, h1, hr⟩
  have hr : rs_ = .inl (some (.long (cl ρ (nI s) 0 0))) := hr
  rw [show cl ρ (nI s) 0 0 = _ from cl_0 (i := 0) ec hn hsn (by omega), exa] at hr
  subst hr
  refine ⟨Or.inl rfl, ?_⟩
  refine ⟨⟨Nat.le_of_ble_eq_true rfl, (by omega), (by omega)⟩, _, X_cell hs h1 hB, ?_⟩
  rintro rs_ w1 ⟨N2, rfl, hG2, h2, hr⟩
  have hr : rs_ = .inl (some (.long (cl ρ (nI s) 1 0))) := hr
  rw [show cl ρ (nI s) 1 0 = _ from cl_0 (i := 1) ec hn hsn (by omega), exb] at hr
  subst hr
  refine ⟨Or.inl rfl, ?_⟩
  refine ⟨⟨Nat.le_of_ble_eq_true rfl, (by omega), (by omega)⟩, _, X_cell hs h2 hB, ?_⟩
  rintro rs_ w1 ⟨N3, rfl, hG3, h3, hr⟩
  have hr : rs_ = .inl (some (.long (cl ρ (nI s) 2 0))) := hr
  rw [show cl ρ (nI s) 2 0 = _ from cl_0 (i := 2) ec hn hsn (by omega), exc] at hr
  subst hr
  refine ⟨Or.inl rfl, ?_⟩
  refine ⟨⟨Nat.le_of_ble_eq_true rfl, (by omega), (by omega)⟩, _, X_says hs h3 hB, ?_⟩
  rintro rs_ w1 ⟨N4, rfl, hG4, h4, hr⟩
  have hr : rs_ = .inl (some (.long (eL (fun c => 2) (aSays ρ (ρ 0).toNatClampNeg (nI s))))) := hr
  rw [sa_v ec hn hsn, evv] at hr
  subst hr
  refine ⟨Or.inl rfl, ?_⟩
  exact K N4 _ _ (((hG1.tr hG2).tr hG3).tr hG4) h4 (by omega) (by omega)
set_option maxRecDepth 100000 in
set_option maxHeartbeats 1000000 in
theorem k_97 {n s : Nat} {o xa xb xc vv : Int32} {al le mo gr : Int64} {nc ns : Nat}  (K1 : EE (SJ (d + 11) 126 (Wp (d + 10)) Q) (110, [(19, .long vv.toInt64), (17, .long xc.toInt64), (15, .long xb.toInt64), (13, .long xa.toInt64), (0, .ref (A + 1)), (1, .int (nI n)), (2, .int o), (3, .int 1), (4, .long al), (6, .long le), (8, .long mo), (10, .long gr), (12, .int (nI s))], [.int (bI (xa = vv))], (S, N, J), nc, ns)) : EE (SJ (d + 11) 126 (Wp (d + 10)) Q) (97, [(19, .long vv.toInt64), (17, .long xc.toInt64), (15, .long xb.toInt64), (13, .long xa.toInt64), (0, .ref (A + 1)), (1, .int (nI n)), (2, .int o), (3, .int 1), (4, .long al), (6, .long le), (8, .long mo), (10, .long gr), (12, .int (nI s))], [], (S, N, J), nc, ns) := by
  refine EE.runN (stop := atPc [110]) 40 _ ?_
  refine ⟨fun z => ?_, fun z => ?_⟩
  · have e : bI (xa = vv) = 0 := bI_f (fun q => z (q64.mpr q))
    rw [e] at K1
    exact K1
  · have e : bI (xa = vv) = 1 := bI_t (q64.mp z)
    rw [e] at K1
    exact K1
set_option maxRecDepth 100000 in
set_option maxHeartbeats 1000000 in
theorem k_110 {n s : Nat} {o xa xb xc vv t : Int32} {al le mo gr : Int64} {nc ns : Nat}  (K1 : EE (SJ (d + 11) 126 (Wp (d + 10)) Q) (123, [(19, .long vv.toInt64), (17, .long xc.toInt64), (15, .long xb.toInt64), (13, .long xa.toInt64), (0, .ref (A + 1)), (1, .int (nI n)), (2, .int o), (3, .int 1), (4, .long al), (6, .long le), (8, .long mo), (10, .long gr), (12, .int (nI s))], [.int (bI (xb = vv)), .int t], (S, N, J), nc, ns)) : EE (SJ (d + 11) 126 (Wp (d + 10)) Q) (110, [(19, .long vv.toInt64), (17, .long xc.toInt64), (15, .long xb.toInt64), (13, .long xa.toInt64), (0, .ref (A + 1)), (1, .int (nI n)), (2, .int o), (3, .int 1), (4, .long al), (6, .long le), (8, .long mo), (10, .long gr), (12, .int (nI s))], [.int t], (S, N, J), nc, ns) := by
  refine EE.runN (stop := atPc [123]) 40 _ ?_
  refine ⟨fun z => ?_, fun z => ?_⟩
  · have e : bI (xb = vv) = 0 := bI_f (fun q => z (q64.mpr q))
    rw [e] at K1
    exact K1
  · have e : bI (xb = vv) = 1 := bI_t (q64.mp z)
    rw [e] at K1
    exact K1
set_option maxRecDepth 100000 in
set_option maxHeartbeats 1000000 in
theorem k_123 {n s : Nat} {o xa xb xc vv t u : Int32} {al le mo gr : Int64} {nc ns : Nat}  (K1 : EE (SJ (d + 11) 126 (Wp (d + 10)) Q) (137, [(19, .long vv.toInt64), (17, .long xc.toInt64), (15, .long xb.toInt64), (13, .long xa.toInt64), (0, .ref (A + 1)), (1, .int (nI n)), (2, .int o), (3, .int 1), (4, .long al), (6, .long le), (8, .long mo), (10, .long gr), (12, .int (nI s))], [.int (bI (xc = vv)), .int (t + u)], (S, N, J), nc, ns)) : EE (SJ (d + 11) 126 (Wp (d + 10)) Q) (123, [(19, .long vv.toInt64), (17, .long xc.toInt64), (15, .long xb.toInt64), (13, .long xa.toInt64), (0, .ref (A + 1)), (1, .int (nI n)), (2, .int o), (3, .int 1), (4, .long al), (6, .long le), (8, .long mo), (10, .long gr), (12, .int (nI s))], [.int u, .int t], (S, N, J), nc, ns) := by
  refine EE.runN (stop := atPc [137]) 40 _ ?_
  refine ⟨fun z => ?_, fun z => ?_⟩
  · have e : bI (xc = vv) = 0 := bI_f (fun q => z (q64.mpr q))
    rw [e] at K1
    exact K1
  · have e : bI (xc = vv) = 1 := bI_t (q64.mp z)
    rw [e] at K1
    exact K1
set_option maxRecDepth 100000 in
set_option maxHeartbeats 1000000 in
theorem k_137 {n s : Nat} {o xa xb xc vv t u : Int32} {al le mo gr : Int64} {nc ns : Nat}  (K1 : EE (SJ (d + 11) 126 (Wp (d + 10)) Q) (140, [(21, .int (t + u)), (19, .long vv.toInt64), (17, .long xc.toInt64), (15, .long xb.toInt64), (13, .long xa.toInt64), (0, .ref (A + 1)), (1, .int (nI n)), (2, .int o), (3, .int 1), (4, .long al), (6, .long le), (8, .long mo), (10, .long gr), (12, .int (nI s))], [], (S, N, J), nc, ns)) : EE (SJ (d + 11) 126 (Wp (d + 10)) Q) (137, [(19, .long vv.toInt64), (17, .long xc.toInt64), (15, .long xb.toInt64), (13, .long xa.toInt64), (0, .ref (A + 1)), (1, .int (nI n)), (2, .int o), (3, .int 1), (4, .long al), (6, .long le), (8, .long mo), (10, .long gr), (12, .int (nI s))], [.int u, .int t], (S, N, J), nc, ns) := by
  refine EE.runN (stop := atPc [140]) 40 _ ?_
  exact K1
set_option maxRecDepth 100000 in
set_option maxHeartbeats 1000000 in
theorem k_140 {n s : Nat} {o xa xb xc vv he : Int32} {al le mo gr : Int64} {nc ns : Nat}  (K1 : EE (SJ (d + 11) 126 (Wp (d + 10)) Q) (154, [(21, .int he), (19, .long vv.toInt64), (17, .long xc.toInt64), (15, .long xb.toInt64), (13, .long xa.toInt64), (0, .ref (A + 1)), (1, .int (nI n)), (2, .int o), (3, .int 1), (4, .long al), (6, .long le), (8, .long mo), (10, .long gr), (12, .int (nI s))], [.int (bI (¬ xa = -99999))], (S, N, J), nc, ns)) : EE (SJ (d + 11) 126 (Wp (d + 10)) Q) (140, [(21, .int he), (19, .long vv.toInt64), (17, .long xc.toInt64), (15, .long xb.toInt64), (13, .long xa.toInt64), (0, .ref (A + 1)), (1, .int (nI n)), (2, .int o), (3, .int 1), (4, .long al), (6, .long le), (8, .long mo), (10, .long gr), (12, .int (nI s))], [], (S, N, J), nc, ns) := by
  refine EE.runN (stop := atPc [154]) 40 _ ?_
  refine ⟨fun z => ?_, fun z => ?_⟩
  · have e : bI (¬ xa = -99999) = 1 := bI_t (fun q => z (q64'.mpr q))
    rw [e] at K1
    exact K1
  · have e : bI (¬ xa = -99999) = 0 := bI_f (fun q => q (q64'.mp z))
    rw [e] at K1
    exact K1
set_option maxRecDepth 100000 in
set_option maxHeartbeats 1000000 in
theorem k_154 {n s : Nat} {o xa xb xc vv t he : Int32} {al le mo gr : Int64} {nc ns : Nat}  (K1 : EE (SJ (d + 11) 126 (Wp (d + 10)) Q) (168, [(21, .int he), (19, .long vv.toInt64), (17, .long xc.toInt64), (15, .long xb.toInt64), (13, .long xa.toInt64), (0, .ref (A + 1)), (1, .int (nI n)), (2, .int o), (3, .int 1), (4, .long al), (6, .long le), (8, .long mo), (10, .long gr), (12, .int (nI s))], [.int (bI (¬ xb = -99999)), .int t], (S, N, J), nc, ns)) : EE (SJ (d + 11) 126 (Wp (d + 10)) Q) (154, [(21, .int he), (19, .long vv.toInt64), (17, .long xc.toInt64), (15, .long xb.toInt64), (13, .long xa.toInt64), (0, .ref (A + 1)), (1, .int (nI n)), (2, .int o), (3, .int 1), (4, .long al), (6, .long le), (8, .long mo), (10, .long gr), (12, .int (nI s))], [.int t], (S, N, J), nc, ns) := by
  refine EE.runN (stop := atPc [168]) 40 _ ?_
  refine ⟨fun z => ?_, fun z => ?_⟩
  · have e : bI (¬ xb = -99999) = 1 := bI_t (fun q => z (q64'.mpr q))
    rw [e] at K1
    exact K1
  · have e : bI (¬ xb = -99999) = 0 := bI_f (fun q => q (q64'.mp z))
    rw [e] at K1
    exact K1
set_option maxRecDepth 100000 in
set_option maxHeartbeats 1000000 in
theorem k_168 {n s : Nat} {o xa xb xc vv t u he : Int32} {al le mo gr : Int64} {nc ns : Nat}  (K1 : EE (SJ (d + 11) 126 (Wp (d + 10)) Q) (183, [(21, .int he), (19, .long vv.toInt64), (17, .long xc.toInt64), (15, .long xb.toInt64), (13, .long xa.toInt64), (0, .ref (A + 1)), (1, .int (nI n)), (2, .int o), (3, .int 1), (4, .long al), (6, .long le), (8, .long mo), (10, .long gr), (12, .int (nI s))], [.int (bI (¬ xc = -99999)), .int (t + u)], (S, N, J), nc, ns)) : EE (SJ (d + 11) 126 (Wp (d + 10)) Q) (168, [(21, .int he), (19, .long vv.toInt64), (17, .long xc.toInt64), (15, .long xb.toInt64), (13, .long xa.toInt64), (0, .ref (A + 1)), (1, .int (nI n)), (2, .int o), (3, .int 1), (4, .long al), (6, .long le), (8, .long mo), (10, .long gr), (12, .int (nI s))], [.int u, .int t], (S, N, J), nc, ns) := by
  refine EE.runN (stop := atPc [183]) 40 _ ?_
  refine ⟨fun z => ?_, fun z => ?_⟩
  · have e : bI (¬ xc = -99999) = 1 := bI_t (fun q => z (q64'.mpr q))
    rw [e] at K1
    exact K1
  · have e : bI (¬ xc = -99999) = 0 := bI_f (fun q => q (q64'.mp z))
    rw [e] at K1
    exact K1
set_option maxRecDepth 100000 in
set_option maxHeartbeats 1000000 in
theorem k_183 {n s : Nat} {o xa xb xc vv t u he : Int32} {al le mo gr : Int64} {nc ns : Nat}  (K1 : EE (SJ (d + 11) 126 (Wp (d + 10)) Q) (186, [(22, .int (t + u)), (21, .int he), (19, .long vv.toInt64), (17, .long xc.toInt64), (15, .long xb.toInt64), (13, .long xa.toInt64), (0, .ref (A + 1)), (1, .int (nI n)), (2, .int o), (3, .int 1), (4, .long al), (6, .long le), (8, .long mo), (10, .long gr), (12, .int (nI s))], [], (S, N, J), nc, ns)) : EE (SJ (d + 11) 126 (Wp (d + 10)) Q) (183, [(21, .int he), (19, .long vv.toInt64), (17, .long xc.toInt64), (15, .long xb.toInt64), (13, .long xa.toInt64), (0, .ref (A + 1)), (1, .int (nI n)), (2, .int o), (3, .int 1), (4, .long al), (6, .long le), (8, .long mo), (10, .long gr), (12, .int (nI s))], [.int u, .int t], (S, N, J), nc, ns) := by
  refine EE.runN (stop := atPc [186]) 40 _ ?_
  exact K1
set_option maxRecDepth 100000 in
set_option maxHeartbeats 1000000 in
theorem k_186 {n s : Nat} {o xa xb xc vv he re : Int32} {al le mo gr : Int64} {nc ns : Nat} (tw : ((¬ xa = -99999 ∧ (xa = xb ∨ xa = xc)) ∨ (¬ xb = -99999 ∧ xb = xc)) ↔ ¬ vv = -99999) (K1 : EE (SJ (d + 11) 126 (Wp (d + 10)) Q) (235, [(23, .int (bI (¬ vv = -99999))), (22, .int re), (21, .int he), (19, .long vv.toInt64), (17, .long xc.toInt64), (15, .long xb.toInt64), (13, .long xa.toInt64), (0, .ref (A + 1)), (1, .int (nI n)), (2, .int o), (3, .int 1), (4, .long al), (6, .long le), (8, .long mo), (10, .long gr), (12, .int (nI s))], [], (S, N, J), nc, ns)) : EE (SJ (d + 11) 126 (Wp (d + 10)) Q) (186, [(22, .int re), (21, .int he), (19, .long vv.toInt64), (17, .long xc.toInt64), (15, .long xb.toInt64), (13, .long xa.toInt64), (0, .ref (A + 1)), (1, .int (nI n)), (2, .int o), (3, .int 1), (4, .long al), (6, .long le), (8, .long mo), (10, .long gr), (12, .int (nI s))], [], (S, N, J), nc, ns) := by
  refine EE.runN (stop := atPc [211, 235]) 40 _ ?_
  have k1 : (¬ xa = -99999 ∧ (xa = xb ∨ xa = xc)) ∨ (¬ xb = -99999 ∧ xb = xc) → EE (SJ (d + 11) 126 (Wp (d + 10)) Q) (235, [(23, .int 1), (22, .int re), (21, .int he), (19, .long vv.toInt64), (17, .long xc.toInt64), (15, .long xb.toInt64), (13, .long xa.toInt64), (0, .ref (A + 1)), (1, .int (nI n)), (2, .int o), (3, .int 1), (4, .long al), (6, .long le), (8, .long mo), (10, .long gr), (12, .int (nI s))], [], (S, N, J), nc, ns) := fun q => by
    rw [bI_t (tw.mp q)] at K1
    exact K1
  have k0 : ¬ ((¬ xa = -99999 ∧ (xa = xb ∨ xa = xc)) ∨ (¬ xb = -99999 ∧ xb = xc)) → EE (SJ (d + 11) 126 (Wp (d + 10)) Q) (235, [(23, .int 0), (22, .int re), (21, .int he), (19, .long vv.toInt64), (17, .long xc.toInt64), (15, .long xb.toInt64), (13, .long xa.toInt64), (0, .ref (A + 1)), (1, .int (nI n)), (2, .int o), (3, .int 1), (4, .long al), (6, .long le), (8, .long mo), (10, .long gr), (12, .int (nI s))], [], (S, N, J), nc, ns) := fun q => by
    rw [bI_f (fun z => q (tw.mpr z))] at K1
    exact K1
  have tail : ¬ (¬ xa = -99999 ∧ (xa = xb ∨ xa = xc)) → EE (SJ (d + 11) 126 (Wp (d + 10)) Q) (211, [(22, .int re), (21, .int he), (19, .long vv.toInt64), (17, .long xc.toInt64), (15, .long xb.toInt64), (13, .long xa.toInt64), (0, .ref (A + 1)), (1, .int (nI n)), (2, .int o), (3, .int 1), (4, .long al), (6, .long le), (8, .long mo), (10, .long gr), (12, .int (nI s))], [], (S, N, J), nc, ns) := fun q => by
    refine EE.runN (stop := atPc [235]) 40 _ ?_
    refine ⟨fun z => ?_, fun z => ?_⟩
    · exact k0 (fun w => w.elim q (fun w => w.1 (q64'.mp z)))
    · refine ⟨fun y => ?_, fun y => ?_⟩
      · exact k0 (fun w => w.elim q (fun w => y (q64.mpr w.2)))
      · exact k1 (Or.inr ⟨fun w => z (q64'.mpr w), q64.mp y⟩)
  refine ⟨fun z => ?_, fun z => ?_⟩
  · exact tail (fun w => w.1 (q64'.mp z))
  · refine ⟨fun y => ?_, fun y => ?_⟩
    · exact k1 (Or.inl ⟨fun w => z (q64'.mpr w), Or.inl (q64.mp y)⟩)
    · refine ⟨fun x => ?_, fun x => ?_⟩
      · exact k1 (Or.inl ⟨fun w => z (q64'.mpr w), Or.inr (q64.mp x)⟩)
      · exact tail (fun w => w.2.elim (fun v => y (q64.mpr v)) (fun v => x (q64.mpr v)))
set_option maxRecDepth 100000 in
set_option maxHeartbeats 1000000 in
theorem k_235 {n s : Nat} {o xa xb xc vv he re : Int32} {al le mo gr : Int64} {nc ns : Nat}  (K1 : EE (SJ (d + 11) 126 (Wp (d + 10)) Q) (254, [(23, .int (bI (¬ vv = -99999))), (22, .int re), (21, .int he), (19, .long vv.toInt64), (17, .long xc.toInt64), (15, .long xb.toInt64), (13, .long xa.toInt64), (0, .ref (A + 1)), (1, .int (nI n)), (2, .int o), (3, .int 1), (4, .long al), (6, .long le), (8, .long mo), (10, .long gr), (12, .int (nI s))], [], (S, N, J), nc, ns)) : EE (SJ (d + 11) 126 (Wp (d + 10)) Q) (235, [(23, .int (bI (¬ vv = -99999))), (22, .int re), (21, .int he), (19, .long vv.toInt64), (17, .long xc.toInt64), (15, .long xb.toInt64), (13, .long xa.toInt64), (0, .ref (A + 1)), (1, .int (nI n)), (2, .int o), (3, .int 1), (4, .long al), (6, .long le), (8, .long mo), (10, .long gr), (12, .int (nI s))], [], (S, N, J), nc, ns) := by
  refine EE.runN (stop := atPc [254]) 40 _ ?_
  refine ⟨fun z => ?_, fun z => ?_⟩
  · have e : bI (¬ vv = -99999) = 0 := bI_f (fun q => q (q64'.mp z))
    refine ⟨fun y => absurd e.symm y, fun _ => K1⟩
  · have e : bI (¬ vv = -99999) = 1 := bI_t (fun q => z (q64'.mpr q))
    refine ⟨fun y => absurd e.symm y, fun _ => K1⟩
set_option maxRecDepth 100000 in
set_option maxHeartbeats 1000000 in
theorem k_254 {n s : Nat} {o xa xb xc vv he re : Int32} {al le mo gr : Int64} {nc ns : Nat} (hhe : ¬ vv = -99999 → 1 < he) (K1 : EE (SJ (d + 11) 126 (Wp (d + 10)) Q) (269, [(23, .int (bI (¬ vv = -99999))), (22, .int re), (21, .int he), (19, .long vv.toInt64), (17, .long xc.toInt64), (15, .long xb.toInt64), (13, .long xa.toInt64), (0, .ref (A + 1)), (1, .int (nI n)), (2, .int o), (3, .int 1), (4, .long al), (6, .long le), (8, .long mo), (10, .long gr), (12, .int (nI s))], [], (S, N, J), nc, ns)) : EE (SJ (d + 11) 126 (Wp (d + 10)) Q) (254, [(23, .int (bI (¬ vv = -99999))), (22, .int re), (21, .int he), (19, .long vv.toInt64), (17, .long xc.toInt64), (15, .long xb.toInt64), (13, .long xa.toInt64), (0, .ref (A + 1)), (1, .int (nI n)), (2, .int o), (3, .int 1), (4, .long al), (6, .long le), (8, .long mo), (10, .long gr), (12, .int (nI s))], [], (S, N, J), nc, ns) := by
  refine EE.runN (stop := atPc [269]) 40 _ ?_
  refine ⟨fun z => K1, fun z => ?_⟩
  refine ⟨fun y => absurd (hhe (fun q => z (q64'.mpr q))) (Int32.not_lt.mpr y), fun _ => K1⟩
set_option maxRecDepth 100000 in
set_option maxHeartbeats 1000000 in
theorem k_269 (hs : Scn A S) (h : RI B T ρ P V (pbM A N)) (hB : B < 990000) {n s : Nat} {o xa xb xc vv he re : Int32} {al le mo gr : Int64} {nc ns : Nat} (ec : (ρ 0).toNatClampNeg = n) (hn : n ≤ 12) (hsn : s < n) (evv : rSays ρ s = vv) (ere : rReadable ρ s 3 = re) (hnc : nc + 1 ≤ 700) (hns : ns + 6 ≤ 4200) (K : ∀ N' nc' ns', Frm A N N' → RI B T ρ P V (pbM A N') → nc' ≤ nc + 1 → ns' ≤ ns + 6 → EE (SJ (d + 11) 126 (Wp (d + 10)) Q) (301, [(23, .int (bI (¬ vv = -99999))), (22, .int re), (21, .int he), (19, .long vv.toInt64), (17, .long xc.toInt64), (15, .long xb.toInt64), (13, .long xa.toInt64), (0, .ref (A + 1)), (1, .int (nI n)), (2, .int o), (3, .int 1), (4, .long al), (6, .long le), (8, .long mo), (10, .long gr), (12, .int (nI s))], [], (S, N', J), nc', ns')) : EE (SJ (d + 11) 126 (Wp (d + 10)) Q) (269, [(23, .int (bI (¬ vv = -99999))), (22, .int re), (21, .int he), (19, .long vv.toInt64), (17, .long xc.toInt64), (15, .long xb.toInt64), (13, .long xa.toInt64), (0, .ref (A + 1)), (1, .int (nI n)), (2, .int o), (3, .int 1), (4, .long al), (6, .long le), (8, .long mo), (10, .long gr), (12, .int (nI s))], [], (S, N, J), nc, ns) := by
  obtain ⟨⟨g98, g98'⟩, ⟨g101, g101'⟩, ⟨g102, g102'⟩, ⟨g103, g103'⟩, ⟨g104, g104'⟩, ⟨g105, g105'⟩, ⟨g106, g106'⟩, ⟨g107, g107'⟩, ⟨g119, g119'⟩, ⟨g86, g86'⟩, ⟨g126, g126'⟩⟩ := mjA
  refine EE.runN (stop := atPc [301]) 60 _ ?_
  refine ⟨⟨Nat.le_of_ble_eq_true rfl, (by omega), (by omega)⟩, _, X_why hs h hB, ?_⟩
  rintro rs_ w1 ⟨N1, rfl, hG1, h1, hr⟩
  have hr : rs_ = .inl (some (.long (eL (fun c => 2) (aWhy ρ (ρ 0).toNatClampNeg (nI s))))) := hr
  rw [wy_v ec hn hsn] at hr
  subst hr
  refine ⟨Or.inl rfl, ?_⟩
  have hw : whyV ρ s = if vv = -99999 then (if 2 ≤ re then 2 else 1) else 0 := by
    unfold whyV
    rw [evv, ere]
  refine ⟨fun z => ?_, fun z => ?_⟩
  · have e : vv = -99999 := Classical.byContradiction (fun q => absurd ((bI_t (c := ¬ vv = -99999) q).symm.trans z) (by decide))
    rw [if_pos e] at hw
    refine ⟨fun y => ?_, fun y => ?_⟩
    · rw [if_pos y] at hw
      refine ⟨fun x => absurd (cmp0.mpr (by rw [hw]; rfl)) x, fun _ => ?_⟩
      exact K N1 _ _ hG1 h1 (by omega) (by omega)
    · rw [if_neg y] at hw
      refine ⟨fun x => absurd (cmp0.mpr (by rw [hw]; rfl)) x, fun _ => ?_⟩
      exact K N1 _ _ hG1 h1 (by omega) (by omega)
  · have e : ¬ vv = -99999 := fun q => z (bI_f (fun w => w q))
    rw [if_neg e] at hw
    refine ⟨fun x => absurd (cmp0.mpr (by rw [hw]; rfl)) x, fun _ => ?_⟩
    exact K N1 _ _ hG1 h1 (by omega) (by omega)
set_option maxRecDepth 100000 in
set_option maxHeartbeats 1000000 in
theorem k_301 (hs : Scn A S) (h : RI B T ρ P V (pbM A N)) (hB : B < 990000) {n s : Nat} {o xa xb xc vv he re : Int32} {al le mo gr : Int64} {nc ns : Nat} (hle : ¬ vv = -99999 → vv ≤ ρ 5) (hnc : nc + 1 ≤ 700) (hns : ns + 6 ≤ 4200) (K : ∀ N' nc' ns', Frm A N N' → RI B T ρ P V (pbM A N') → nc' ≤ nc + 1 → ns' ≤ ns + 6 → EE (SJ (d + 11) 126 (Wp (d + 10)) Q) (327, [(3, .int 1), (23, .int (bI (¬ vv = -99999))), (22, .int re), (21, .int he), (19, .long vv.toInt64), (17, .long xc.toInt64), (15, .long xb.toInt64), (13, .long xa.toInt64), (0, .ref (A + 1)), (1, .int (nI n)), (2, .int o), (4, .long al), (6, .long le), (8, .long mo), (10, .long gr), (12, .int (nI s))], [], (S, N', J), nc', ns')) : EE (SJ (d + 11) 126 (Wp (d + 10)) Q) (301, [(23, .int (bI (¬ vv = -99999))), (22, .int re), (21, .int he), (19, .long vv.toInt64), (17, .long xc.toInt64), (15, .long xb.toInt64), (13, .long xa.toInt64), (0, .ref (A + 1)), (1, .int (nI n)), (2, .int o), (3, .int 1), (4, .long al), (6, .long le), (8, .long mo), (10, .long gr), (12, .int (nI s))], [], (S, N, J), nc, ns) := by
  obtain ⟨⟨g98, g98'⟩, ⟨g101, g101'⟩, ⟨g102, g102'⟩, ⟨g103, g103'⟩, ⟨g104, g104'⟩, ⟨g105, g105'⟩, ⟨g106, g106'⟩, ⟨g107, g107'⟩, ⟨g119, g119'⟩, ⟨g86, g86'⟩, ⟨g126, g126'⟩⟩ := mjA
  refine EE.runN (stop := atPc [327]) 60 _ ?_
  refine ⟨fun z => ?_, fun z => ?_⟩
  · exact K N _ _ (Frm.rf _ _) h (by omega) (by omega)
  · refine ⟨⟨Nat.le_of_ble_eq_true rfl, (by omega), (by omega)⟩, _, X_about hs h hB, ?_⟩
    rintro rs_ w1 ⟨N1, rfl, hG1, h1, hr⟩
    have hr : rs_ = .inl (some (.long (ab ρ 5))) := hr
    rw [show ab ρ 5 = _ from ab_o (k := 5) (by omega) (by omega) (by omega) (by omega) (by omega) (by omega)] at hr
    subst hr
    refine ⟨Or.inl rfl, ?_⟩
    refine ⟨fun y => absurd (le64.mpr (hle (fun q => z (q64'.mpr q)))) (by rw [Int64.not_le]; exact lcmp_gt.mp y), fun _ => ?_⟩
    exact K N1 _ _ hG1 h1 (by omega) (by omega)
set_option maxRecDepth 100000 in
set_option maxHeartbeats 1000000 in
theorem k_327 {n s : Nat} {o xa xb xc vv he re gi : Int32} {al le mo : Int64} {nc ns : Nat}  (K1 : EE (SJ (d + 11) 126 (Wp (d + 10)) Q) (347, [(0, .ref (A + 1)), (1, .int (nI n)), (2, .int o), (3, .int 1), (4, .long al), (6, .long le), (8, .long mo), (10, .long (if vv ≤ gi then gi else vv).toInt64), (12, .int (nI s)), (24, .int (nI 0))], [], (S, N, J), nc, ns)) : EE (SJ (d + 11) 126 (Wp (d + 10)) Q) (327, [(3, .int 1), (23, .int (bI (¬ vv = -99999))), (22, .int re), (21, .int he), (19, .long vv.toInt64), (17, .long xc.toInt64), (15, .long xb.toInt64), (13, .long xa.toInt64), (0, .ref (A + 1)), (1, .int (nI n)), (2, .int o), (4, .long al), (6, .long le), (8, .long mo), (10, .long gi.toInt64), (12, .int (nI s))], [], (S, N, J), nc, ns) := by
  refine EE.runN (stop := atPc [347]) 40 _ ?_
  refine ⟨fun z => ?_, fun z => ?_⟩
  · have e : vv ≤ gi := le64.mp (lcmp_le.mp z)
    rw [if_pos e] at K1
    exact EE.nz (nt := nzT 126) (ls' := [(0, .ref (A + 1)), (1, .int (nI n)), (2, .int o), (3, .int 1), (4, .long al), (6, .long le), (8, .long mo), (10, .long gi.toInt64), (12, .int (nI s)), (24, .int (nI 0))]) rfl rfl K1
  · have e : ¬ vv ≤ gi := fun q => z (lcmp_le.mpr (le64.mpr q))
    rw [if_neg e] at K1
    exact EE.nz (nt := nzT 126) (ls' := [(0, .ref (A + 1)), (1, .int (nI n)), (2, .int o), (3, .int 1), (4, .long al), (6, .long le), (8, .long mo), (10, .long vv.toInt64), (12, .int (nI s)), (24, .int (nI 0))]) rfl rfl K1
set_option maxRecDepth 100000 in
set_option maxHeartbeats 1000000 in
theorem k_347 (hs : Scn A S) (h : RI B T ρ P V (pbM A N)) (hB : B < 990000) {n s i : Nat} {o li : Int32} {al gr : Int64} {wi le mo : Int32} {nc ns : Nat} (ec : (ρ 0).toNatClampNeg = n) (hn : n ≤ 12) (hsn : s < n) (hi : i < 3) (ew : ρ (43 + 2 * (3 * s + i)) = wi) (e2 : ρ 2 = li) (h0 : ¬ wi < 0) (hl : wi ≤ li) (hnc : nc + 1 ≤ 700) (hns : ns + 6 ≤ 4200) (K : ∀ N' nc' ns', Frm A N N' → RI B T ρ P V (pbM A N') → nc' ≤ nc + 1 → ns' ≤ ns + 6 → EE (SJ (d + 11) 126 (Wp (d + 10)) Q) (392, [(6, .long (if le ≤ wi then le else wi).toInt64), (4, .long (al + wi.toInt64)), (25, .long wi.toInt64), (0, .ref (A + 1)), (1, .int (nI n)), (2, .int o), (3, .int 1), (8, .long mo.toInt64), (10, .long gr), (12, .int (nI s)), (24, .int (nI i))], [], (S, N', J), nc', ns')) : EE (SJ (d + 11) 126 (Wp (d + 10)) Q) (347, [(0, .ref (A + 1)), (1, .int (nI n)), (2, .int o), (3, .int 1), (4, .long al), (6, .long le.toInt64), (8, .long mo.toInt64), (10, .long gr), (12, .int (nI s)), (24, .int (nI i))], [], (S, N, J), nc, ns) := by
  obtain ⟨⟨g98, g98'⟩, ⟨g101, g101'⟩, ⟨g102, g102'⟩, ⟨g103, g103'⟩, ⟨g104, g104'⟩, ⟨g105, g105'⟩, ⟨g106, g106'⟩, ⟨g107, g107'⟩, ⟨g119, g119'⟩, ⟨g86, g86'⟩, ⟨g126, g126'⟩⟩ := mjA
  refine EE.runN (stop := atPc [392]) 60 _ ?_
  refine ⟨fun z => absurd z (nI_ge (a := i) (b := 3) hi (by omega)), fun _ => ?_⟩
  refine ⟨fun z => absurd z (by decide), fun _ => ?_⟩
  refine ⟨⟨Nat.le_of_ble_eq_true rfl, (by omega), (by omega)⟩, _, X_cell hs h hB, ?_⟩
  rintro rs_ w1 ⟨N1, rfl, hG1, h1, hr⟩
  have hr : rs_ = .inl (some (.long (cl ρ (nI s) (nI i) 1))) := hr
  rw [cl_1 ec hn hsn hi, ew] at hr
  subst hr
  refine ⟨Or.inl rfl, ?_⟩
  refine ⟨fun z => ?_, fun z => ?_⟩
  · have e : le ≤ wi := le64.mp (lcmp_ge.mp z)
    rw [if_pos e] at K
    exact K N1 _ _ hG1 h1 (by omega) (by omega)
  · have e : ¬ le ≤ wi := fun q => z (lcmp_ge.mpr (le64.mpr q))
    rw [if_neg e] at K
    exact K N1 _ _ hG1 h1 (by omega) (by omega)
set_option maxRecDepth 100000 in
set_option maxHeartbeats 1000000 in
theorem k_392 {n s i : Nat} {o : Int32} {av gr lv : Int64} {wi mo : Int32} {nc ns : Nat}  (K1 : EE (SJ (d + 11) 126 (Wp (d + 10)) Q) (409, [(8, .long (if wi ≤ mo then mo else wi).toInt64), (6, .long lv), (4, .long av), (25, .long wi.toInt64), (0, .ref (A + 1)), (1, .int (nI n)), (2, .int o), (3, .int 1), (10, .long gr), (12, .int (nI s)), (24, .int (nI i))], [], (S, N, J), nc, ns)) : EE (SJ (d + 11) 126 (Wp (d + 10)) Q) (392, [(6, .long lv), (4, .long av), (25, .long wi.toInt64), (0, .ref (A + 1)), (1, .int (nI n)), (2, .int o), (3, .int 1), (8, .long mo.toInt64), (10, .long gr), (12, .int (nI s)), (24, .int (nI i))], [], (S, N, J), nc, ns) := by
  refine EE.runN (stop := atPc [409]) 40 _ ?_
  refine ⟨fun z => ?_, fun z => ?_⟩
  · have e : wi ≤ mo := le64.mp (lcmp_le.mp z)
    rw [if_pos e] at K1
    exact K1
  · have e : ¬ wi ≤ mo := fun q => z (lcmp_le.mpr (le64.mpr q))
    rw [if_neg e] at K1
    exact K1
set_option maxRecDepth 100000 in
set_option maxHeartbeats 1000000 in
theorem k_409 (hs : Scn A S) (h : RI B T ρ P V (pbM A N)) (hB : B < 990000) {n s i : Nat} {o li : Int32} {av gr lv mv : Int64} {wi : Int32} {nc ns : Nat} (ec : (ρ 0).toNatClampNeg = n) (hn : n ≤ 12) (hsn : s < n) (hi : i < 3) (ew : ρ (43 + 2 * (3 * s + i)) = wi) (e2 : ρ 2 = li) (h0 : ¬ wi < 0) (hl : wi ≤ li) (hnc : nc + 3 ≤ 700) (hns : ns + 18 ≤ 4200) (K : ∀ N' nc' ns', Frm A N N' → RI B T ρ P V (pbM A N') → nc' ≤ nc + 3 → ns' ≤ ns + 18 → EE (SJ (d + 11) 126 (Wp (d + 10)) Q) (347, [(0, .ref (A + 1)), (1, .int (nI n)), (2, .int o), (3, .int 1), (4, .long av), (6, .long lv), (8, .long mv), (10, .long gr), (12, .int (nI s)), (24, .int (nI (i + 1)))], [], (S, N', J), nc', ns')) : EE (SJ (d + 11) 126 (Wp (d + 10)) Q) (409, [(8, .long mv), (6, .long lv), (4, .long av), (25, .long wi.toInt64), (0, .ref (A + 1)), (1, .int (nI n)), (2, .int o), (3, .int 1), (10, .long gr), (12, .int (nI s)), (24, .int (nI i))], [], (S, N, J), nc, ns) := by
  obtain ⟨⟨g98, g98'⟩, ⟨g101, g101'⟩, ⟨g102, g102'⟩, ⟨g103, g103'⟩, ⟨g104, g104'⟩, ⟨g105, g105'⟩, ⟨g106, g106'⟩, ⟨g107, g107'⟩, ⟨g119, g119'⟩, ⟨g86, g86'⟩, ⟨g126, g126'⟩⟩ := mjA
  refine EE.runN (stop := atPc [347]) 80 _ ?_
  refine ⟨fun z => absurd (lcmp_lt.mp z) (fun q => h0 (lt64.mp q)), fun _ => ?_⟩
  refine ⟨⟨Nat.le_of_ble_eq_true rfl, (by omega), (by omega)⟩, _, X_about hs h hB, ?_⟩
  rintro rs_ w1 ⟨N1, rfl, hG1, h1, hr⟩
  have hr : rs_ = .inl (some (.long (ab ρ 2))) := hr
  rw [show ab ρ 2 = _ from ab_o (k := 2) (by omega) (by omega) (by omega) (by omega) (by omega) (by omega), e2] at hr
  subst hr
  refine ⟨Or.inl rfl, ?_⟩
  refine ⟨fun z => absurd (le64.mpr hl) (by rw [Int64.not_le]; exact lcmp_gt.mp z), fun _ => ?_⟩
  refine ⟨⟨Nat.le_of_ble_eq_true rfl, (by omega), (by omega)⟩, _, X_cell hs h1 hB, ?_⟩
  rintro rs_ w1 ⟨N2, rfl, hG2, h2, hr⟩
  have hr : rs_ = .inl (some (.long (cl ρ (nI s) (nI i) 2))) := hr
  rw [cl_2 ec hn hsn hi, ew, e2] at hr
  subst hr
  refine ⟨Or.inl rfl, ?_⟩
  refine ⟨⟨Nat.le_of_ble_eq_true rfl, (by omega), (by omega)⟩, _, X_about hs h2 hB, ?_⟩
  rintro rs_ w1 ⟨N3, rfl, hG3, h3, hr⟩
  have hr : rs_ = .inl (some (.long (ab ρ 2))) := hr
  rw [show ab ρ 2 = _ from ab_o (k := 2) (by omega) (by omega) (by omega) (by omega) (by omega) (by omega), e2] at hr
  subst hr
  refine ⟨Or.inl rfl, ?_⟩
  refine ⟨fun z => ?_, fun z => ?_⟩
  · have e : ¬ wi = li := fun q => z (q64.mpr q)
    have e3 : bI (¬ wi < li) = 0 := bI_f (fun q => q (Int32.lt_of_le_of_ne hl e))
    refine ⟨fun x => absurd (cmp0.mpr (by rw [e3]; rfl)) x, fun _ => ?_⟩
    exact EE.nz (nt := nzT 126) (ls' := [(0, .ref (A + 1)), (1, .int (nI n)), (2, .int o), (3, .int 1), (4, .long av), (6, .long lv), (8, .long mv), (10, .long gr), (12, .int (nI s)), (24, .int (nI (i + 1)))]) rfl (by rw [← nI_1]; rfl) (K N3 _ _ ((hG1.tr hG2).tr hG3) h3 (by omega) (by omega))
  · have e : wi = li := q64.mp z
    have e3 : bI (¬ wi < li) = 1 := bI_t (by rw [e]; exact Int32.lt_irrefl)
    refine ⟨fun x => absurd (cmp0.mpr (by rw [e3]; rfl)) x, fun _ => ?_⟩
    exact EE.nz (nt := nzT 126) (ls' := [(0, .ref (A + 1)), (1, .int (nI n)), (2, .int o), (3, .int 1), (4, .long av), (6, .long lv), (8, .long mv), (10, .long gr), (12, .int (nI s)), (24, .int (nI (i + 1)))]) rfl (by rw [← nI_1]; rfl) (K N3 _ _ ((hG1.tr hG2).tr hG3) h3 (by omega) (by omega))
set_option maxRecDepth 100000 in
set_option maxHeartbeats 1000000 in
theorem k_468 {n s : Nat} {o : Int32} {al le mo gr : Int64} {nc ns : Nat}  (K1 : EE (SJ (d + 11) 126 (Wp (d + 10)) Q) (49, [(0, .ref (A + 1)), (1, .int (nI n)), (2, .int o), (3, .int 1), (4, .long al), (6, .long le), (8, .long mo), (10, .long gr), (12, .int (nI (s + 1)))], [], (S, N, J), nc, ns)) : EE (SJ (d + 11) 126 (Wp (d + 10)) Q) (347, [(0, .ref (A + 1)), (1, .int (nI n)), (2, .int o), (3, .int 1), (4, .long al), (6, .long le), (8, .long mo), (10, .long gr), (12, .int (nI s)), (24, .int (nI 3))], [], (S, N, J), nc, ns) := by
  refine EE.runN (stop := atPc [49]) 40 _ ?_
  refine ⟨fun _ => ?_, fun z => absurd (Int32.le_refl _) z⟩
  exact EE.nz (nt := nzT 126) (ls' := [(0, .ref (A + 1)), (1, .int (nI n)), (2, .int o), (3, .int 1), (4, .long al), (6, .long le), (8, .long mo), (10, .long gr), (12, .int (nI (s + 1)))]) rfl (by rw [show nI (s + 1) = nI s + 1 from (nI_1 s).symm]; rfl) K1
end
