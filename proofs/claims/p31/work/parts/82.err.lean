/-! THE LAW: errors: written by wip/p31/err.py -/
section
variable {A d : Nat} {S : Sc} {N : Nat → Nat → Int32} {J : Nat → Nat → Int64} {B : Nat} {T : Tx} {ρ : Rw} {P : Pst9} {V : Sav} {Q : Res → Wd → Prop}
set_option maxHeartbeats 1000000 in
theorem e_29 (hs : Scn A S) (h : RI B T ρ P V (pbM A N)) (hB : B < 990000) {n nc ns : Nat} {o : Int32} (ec : (ρ 0).toNatClampNeg = n) (hn0 : ¬ nI n ≤ 0) (hnc : nc + 1 ≤ 500) (hns : ns + 6 ≤ 3000) (K : ∀ N', Frm A N N' → RI B T ρ P V (pbM A N') → EE (SJ (d + 11) 125 (Wp (d + 10)) Q) (41, [(4, .int o), (3, .int (nI n)), (1, .long (nowV ρ)), (0, .ref (A + 1))], [], (S, N', J), nc + 1, ns + 6)) : EE (SJ (d + 11) 125 (Wp (d + 10)) Q) (29, [(4, .int o), (3, .int (nI n)), (1, .long (nowV ρ)), (0, .ref (A + 1))], [], (S, N, J), nc, ns) := by
  have hc : (aAbout ρ (ρ 0).toNatClampNeg (-1)).1 = 1 := by unfold aAbout; rw [if_neg (by decide)]
  refine EE.runN (stop := atPc [41]) 16 _ ?_
  refine ⟨⟨Nat.le_of_ble_eq_true rfl, hnc, hns⟩, _, X_about hs h hB, ?_⟩
  rintro rs_ w1 ⟨N1, rfl, hF1, h1, rfl⟩
  refine ⟨Or.inl rfl, ?_⟩
  refine ⟨fun z => absurd (cmp0.mpr (eL_t (E := fun c => 0) hc (by decide))) z, fun _ => ?_⟩
  exact K N1 hF1 h1
set_option maxHeartbeats 1000000 in
theorem e_41 (hs : Scn A S) (h : RI B T ρ P V (pbM A N)) (hB : B < 990000) {n nc ns : Nat} {o : Int32} (ec : (ρ 0).toNatClampNeg = n) (hn0 : ¬ nI n ≤ 0) (hnc : nc + 1 ≤ 500) (hns : ns + 6 ≤ 3000) (K : ∀ N', Frm A N N' → RI B T ρ P V (pbM A N') → EE (SJ (d + 11) 125 (Wp (d + 10)) Q) (54, [(4, .int o), (3, .int (nI n)), (1, .long (nowV ρ)), (0, .ref (A + 1))], [], (S, N', J), nc + 1, ns + 6)) : EE (SJ (d + 11) 125 (Wp (d + 10)) Q) (41, [(4, .int o), (3, .int (nI n)), (1, .long (nowV ρ)), (0, .ref (A + 1))], [], (S, N, J), nc, ns) := by
  have hc : (aAbout ρ (ρ 0).toNatClampNeg 15).1 = 1 := by unfold aAbout; rw [if_neg (by decide)]
  refine EE.runN (stop := atPc [54]) 16 _ ?_
  refine ⟨⟨Nat.le_of_ble_eq_true rfl, hnc, hns⟩, _, X_about hs h hB, ?_⟩
  rintro rs_ w1 ⟨N1, rfl, hF1, h1, rfl⟩
  refine ⟨Or.inl rfl, ?_⟩
  refine ⟨fun z => absurd (cmp0.mpr (eL_t (E := fun c => 0) hc (by decide))) z, fun _ => ?_⟩
  exact K N1 hF1 h1
set_option maxHeartbeats 1000000 in
theorem e_54 (hs : Scn A S) (h : RI B T ρ P V (pbM A N)) (hB : B < 990000) {n nc ns : Nat} {o : Int32} (ec : (ρ 0).toNatClampNeg = n) (hn0 : ¬ nI n ≤ 0) (hnc : nc + 1 ≤ 500) (hns : ns + 6 ≤ 3000) (K : ∀ N', Frm A N N' → RI B T ρ P V (pbM A N') → EE (SJ (d + 11) 125 (Wp (d + 10)) Q) (69, [(4, .int o), (3, .int (nI n)), (1, .long (nowV ρ)), (0, .ref (A + 1))], [], (S, N', J), nc + 1, ns + 6)) : EE (SJ (d + 11) 125 (Wp (d + 10)) Q) (54, [(4, .int o), (3, .int (nI n)), (1, .long (nowV ρ)), (0, .ref (A + 1))], [], (S, N, J), nc, ns) := by
  have hc : (aCell ρ (ρ 0).toNatClampNeg (nI n) 0 9).1 = 1 := by unfold aCell; rw [ec, if_neg (fun z => z.2 (Int32.le_refl _))]
  refine EE.runN (stop := atPc [69]) 16 _ ?_
  refine ⟨⟨Nat.le_of_ble_eq_true rfl, hnc, hns⟩, _, X_cell hs h hB, ?_⟩
  rintro rs_ w1 ⟨N1, rfl, hF1, h1, rfl⟩
  refine ⟨Or.inl rfl, ?_⟩
  refine ⟨fun z => absurd (cmp0.mpr (eL_t (E := fun c => if c = 1 then 2 else 0) hc (by decide))) z, fun _ => ?_⟩
  exact K N1 hF1 h1
set_option maxHeartbeats 1000000 in
theorem e_69 (hs : Scn A S) (h : RI B T ρ P V (pbM A N)) (hB : B < 990000) {n nc ns : Nat} {o : Int32} (ec : (ρ 0).toNatClampNeg = n) (hn0 : ¬ nI n ≤ 0) (hnc : nc + 1 ≤ 500) (hns : ns + 6 ≤ 3000) (K : ∀ N', Frm A N N' → RI B T ρ P V (pbM A N') → EE (SJ (d + 11) 125 (Wp (d + 10)) Q) (84, [(4, .int o), (3, .int (nI n)), (1, .long (nowV ρ)), (0, .ref (A + 1))], [], (S, N', J), nc + 1, ns + 6)) : EE (SJ (d + 11) 125 (Wp (d + 10)) Q) (69, [(4, .int o), (3, .int (nI n)), (1, .long (nowV ρ)), (0, .ref (A + 1))], [], (S, N, J), nc, ns) := by
  have hc : (aCell ρ (ρ 0).toNatClampNeg 0 (-1) 9).1 = 1 := by unfold aCell; rw [ec, if_pos ⟨by decide, hn0⟩, if_neg (by decide)]
  refine EE.runN (stop := atPc [84]) 16 _ ?_
  refine ⟨⟨Nat.le_of_ble_eq_true rfl, hnc, hns⟩, _, X_cell hs h hB, ?_⟩
  rintro rs_ w1 ⟨N1, rfl, hF1, h1, rfl⟩
  refine ⟨Or.inl rfl, ?_⟩
  refine ⟨fun z => absurd (cmp0.mpr (eL_t (E := fun c => if c = 1 then 2 else 0) hc (by decide))) z, fun _ => ?_⟩
  exact K N1 hF1 h1
set_option maxHeartbeats 1000000 in
theorem e_84 (hs : Scn A S) (h : RI B T ρ P V (pbM A N)) (hB : B < 990000) {n nc ns : Nat} {o : Int32} (ec : (ρ 0).toNatClampNeg = n) (hn0 : ¬ nI n ≤ 0) (hnc : nc + 1 ≤ 500) (hns : ns + 6 ≤ 3000) (K : ∀ N', Frm A N N' → RI B T ρ P V (pbM A N') → EE (SJ (d + 11) 125 (Wp (d + 10)) Q) (98, [(4, .int o), (3, .int (nI n)), (1, .long (nowV ρ)), (0, .ref (A + 1))], [], (S, N', J), nc + 1, ns + 6)) : EE (SJ (d + 11) 125 (Wp (d + 10)) Q) (84, [(4, .int o), (3, .int (nI n)), (1, .long (nowV ρ)), (0, .ref (A + 1))], [], (S, N, J), nc, ns) := by
  have hc : (aCell ρ (ρ 0).toNatClampNeg 0 0 3).1 = 2 := by unfold aCell; rw [ec, if_pos ⟨by decide, hn0⟩, if_pos (by decide), if_neg (by decide)]
  refine EE.runN (stop := atPc [98]) 16 _ ?_
  refine ⟨⟨Nat.le_of_ble_eq_true rfl, hnc, hns⟩, _, X_cell hs h hB, ?_⟩
  rintro rs_ w1 ⟨N1, rfl, hF1, h1, rfl⟩
  refine ⟨Or.inl rfl, ?_⟩
  refine ⟨fun z => absurd (cmp0.mpr (eL_t (E := fun c => if c = 1 then 2 else 0) hc (by decide))) z, fun _ => ?_⟩
  exact K N1 hF1 h1
set_option maxHeartbeats 1000000 in
theorem e_98 (hs : Scn A S) (h : RI B T ρ P V (pbM A N)) (hB : B < 990000) {n nc ns : Nat} {o : Int32} (ec : (ρ 0).toNatClampNeg = n) (hn0 : ¬ nI n ≤ 0) (hnc : nc + 1 ≤ 500) (hns : ns + 6 ≤ 3000) (K : ∀ N', Frm A N N' → RI B T ρ P V (pbM A N') → EE (SJ (d + 11) 125 (Wp (d + 10)) Q) (110, [(4, .int o), (3, .int (nI n)), (1, .long (nowV ρ)), (0, .ref (A + 1))], [], (S, N', J), nc + 1, ns + 6)) : EE (SJ (d + 11) 125 (Wp (d + 10)) Q) (98, [(4, .int o), (3, .int (nI n)), (1, .long (nowV ρ)), (0, .ref (A + 1))], [], (S, N, J), nc, ns) := by
  have hc : (aSays ρ (ρ 0).toNatClampNeg (-1)).1 = 1 := by unfold aSays; rw [if_neg (fun z => z.1 (by decide))]
  refine EE.runN (stop := atPc [110]) 16 _ ?_
  refine ⟨⟨Nat.le_of_ble_eq_true rfl, hnc, hns⟩, _, X_says hs h hB, ?_⟩
  rintro rs_ w1 ⟨N1, rfl, hF1, h1, rfl⟩
  refine ⟨Or.inl rfl, ?_⟩
  refine ⟨fun z => absurd (cmp0.mpr (eL_t (E := fun c => 2) hc (by decide))) z, fun _ => ?_⟩
  exact K N1 hF1 h1
set_option maxHeartbeats 1000000 in
theorem e_110 (hs : Scn A S) (h : RI B T ρ P V (pbM A N)) (hB : B < 990000) {n nc ns : Nat} {o : Int32} (ec : (ρ 0).toNatClampNeg = n) (hn0 : ¬ nI n ≤ 0) (hnc : nc + 1 ≤ 500) (hns : ns + 6 ≤ 3000) (K : ∀ N', Frm A N N' → RI B T ρ P V (pbM A N') → EE (SJ (d + 11) 125 (Wp (d + 10)) Q) (122, [(4, .int o), (3, .int (nI n)), (1, .long (nowV ρ)), (0, .ref (A + 1))], [], (S, N', J), nc + 1, ns + 6)) : EE (SJ (d + 11) 125 (Wp (d + 10)) Q) (110, [(4, .int o), (3, .int (nI n)), (1, .long (nowV ρ)), (0, .ref (A + 1))], [], (S, N, J), nc, ns) := by
  have hc : (aWhy ρ (ρ 0).toNatClampNeg (nI n)).1 = 1 := by unfold aWhy; rw [ec, if_neg (fun z => z.2 (Int32.le_refl _))]
  refine EE.runN (stop := atPc [122]) 16 _ ?_
  refine ⟨⟨Nat.le_of_ble_eq_true rfl, hnc, hns⟩, _, X_why hs h hB, ?_⟩
  rintro rs_ w1 ⟨N1, rfl, hF1, h1, rfl⟩
  refine ⟨Or.inl rfl, ?_⟩
  refine ⟨fun z => absurd (cmp0.mpr (eL_t (E := fun c => 2) hc (by decide))) z, fun _ => ?_⟩
  exact K N1 hF1 h1
set_option maxHeartbeats 1000000 in
theorem e_122 (hs : Scn A S) (h : RI B T ρ P V (pbM A N)) (hB : B < 990000) {n nc ns : Nat} {o : Int32} (ec : (ρ 0).toNatClampNeg = n) (hn0 : ¬ nI n ≤ 0) (hnc : nc + 1 ≤ 500) (hns : ns + 6 ≤ 3000) (K : ∀ N', Frm A N N' → RI B T ρ P V (pbM A N') → EE (SJ (d + 11) 125 (Wp (d + 10)) Q) (134, [(4, .int o), (3, .int (nI n)), (1, .long (nowV ρ)), (0, .ref (A + 1))], [], (S, N', J), nc + 1, ns + 6)) : EE (SJ (d + 11) 125 (Wp (d + 10)) Q) (122, [(4, .int o), (3, .int (nI n)), (1, .long (nowV ρ)), (0, .ref (A + 1))], [], (S, N, J), nc, ns) := by
  have hc : (aShare ρ (ρ 0).toNatClampNeg (nI n)).1 = 1 := by unfold aShare; rw [ec, if_neg (fun z => z.2 (Int32.le_refl _))]
  refine EE.runN (stop := atPc [134]) 16 _ ?_
  refine ⟨⟨Nat.le_of_ble_eq_true rfl, hnc, hns⟩, _, X_share hs h hB, ?_⟩
  rintro rs_ w1 ⟨N1, rfl, hF1, h1, rfl⟩
  refine ⟨Or.inl rfl, ?_⟩
  refine ⟨fun z => absurd (cmp0.mpr (eL_t (E := fun c => 2) hc (by decide))) z, fun _ => ?_⟩
  exact K N1 hF1 h1
set_option maxHeartbeats 1000000 in
theorem e_134 (hs : Scn A S) (h : RI B T ρ P V (pbM A N)) (hB : B < 990000) {n nc ns : Nat} {o : Int32} (ec : (ρ 0).toNatClampNeg = n) (hn0 : ¬ nI n ≤ 0) (hnc : nc + 1 ≤ 500) (hns : ns + 6 ≤ 3000) (K : ∀ N', Frm A N N' → RI B T ρ P V (pbM A N') → EE (SJ (d + 11) 125 (Wp (d + 10)) Q) (147, [(4, .int o), (3, .int (nI n)), (1, .long (nowV ρ)), (0, .ref (A + 1))], [], (S, N', J), nc + 1, ns + 6)) : EE (SJ (d + 11) 125 (Wp (d + 10)) Q) (134, [(4, .int o), (3, .int (nI n)), (1, .long (nowV ρ)), (0, .ref (A + 1))], [], (S, N, J), nc, ns) := by
  have hc : (aServ ρ (-1) 0).1 = 1 := by unfold aServ; rw [if_pos (by decide)]
  refine EE.runN (stop := atPc [147]) 16 _ ?_
  refine ⟨⟨Nat.le_of_ble_eq_true rfl, hnc, hns⟩, _, X_serviceAt hs h hB, ?_⟩
  rintro rs_ w1 ⟨N1, rfl, hF1, h1, rfl⟩
  refine ⟨Or.inl rfl, ?_⟩
  refine ⟨fun z => absurd (cmp0.mpr (eL_t (E := fun c => 0) hc (by decide))) z, fun _ => ?_⟩
  exact K N1 hF1 h1
set_option maxHeartbeats 1000000 in
theorem e_147 (hs : Scn A S) (h : RI B T ρ P V (pbM A N)) (hB : B < 990000) {n nc ns : Nat} {o : Int32} (ec : (ρ 0).toNatClampNeg = n) (hn0 : ¬ nI n ≤ 0) (hnc : nc + 1 ≤ 500) (hns : ns + 6 ≤ 3000) (K : ∀ N', Frm A N N' → RI B T ρ P V (pbM A N') → EE (SJ (d + 11) 125 (Wp (d + 10)) Q) (160, [(4, .int o), (3, .int (nI n)), (1, .long (nowV ρ)), (0, .ref (A + 1))], [], (S, N', J), nc + 1, ns + 6)) : EE (SJ (d + 11) 125 (Wp (d + 10)) Q) (147, [(4, .int o), (3, .int (nI n)), (1, .long (nowV ρ)), (0, .ref (A + 1))], [], (S, N, J), nc, ns) := by
  have hc : (aServ ρ 0 3).1 = 1 := by unfold aServ; rw [if_neg (by decide), if_neg (by decide)]
  refine EE.runN (stop := atPc [160]) 16 _ ?_
  refine ⟨⟨Nat.le_of_ble_eq_true rfl, hnc, hns⟩, _, X_serviceAt hs h hB, ?_⟩
  rintro rs_ w1 ⟨N1, rfl, hF1, h1, rfl⟩
  refine ⟨Or.inl rfl, ?_⟩
  refine ⟨fun z => absurd (cmp0.mpr (eL_t (E := fun c => 0) hc (by decide))) z, fun _ => ?_⟩
  exact K N1 hF1 h1
set_option maxHeartbeats 1000000 in
theorem e_160 (hs : Scn A S) (h : RI B T ρ P V (pbM A N)) (hB : B < 990000) {n nc ns : Nat} {o : Int32} (ec : (ρ 0).toNatClampNeg = n) (hn0 : ¬ nI n ≤ 0) (hnc : nc + 1 ≤ 500) (hns : ns + 6 ≤ 3000) (K : ∀ N', Frm A N N' → RI B T ρ P V (pbM A N') → EE (SJ (d + 11) 125 (Wp (d + 10)) Q) (172, [(4, .int o), (3, .int (nI n)), (1, .long (nowV ρ)), (0, .ref (A + 1))], [], (S, N', J), nc + 1, ns + 6)) : EE (SJ (d + 11) 125 (Wp (d + 10)) Q) (160, [(4, .int o), (3, .int (nI n)), (1, .long (nowV ρ)), (0, .ref (A + 1))], [], (S, N, J), nc, ns) := by
  have hc : (aLast ρ (-1)).1 = 1 := by unfold aLast; rw [if_neg (by decide)]
  refine EE.runN (stop := atPc [172]) 16 _ ?_
  refine ⟨⟨Nat.le_of_ble_eq_true rfl, hnc, hns⟩, _, X_lastCut hs h hB, ?_⟩
  rintro rs_ w1 ⟨N1, rfl, hF1, h1, rfl⟩
  refine ⟨Or.inl rfl, ?_⟩
  refine ⟨fun z => absurd (cmp0.mpr (eL_t (E := fun c => 0) hc (by decide))) z, fun _ => ?_⟩
  exact K N1 hF1 h1
set_option maxHeartbeats 1000000 in
theorem e_184 (hs : Scn A S) (h : RI B T ρ P V (pbM A N)) (hB : B < 990000) {n nc ns : Nat} {o : Int32} (ec : (ρ 0).toNatClampNeg = n) (hn0 : ¬ nI n ≤ 0) (hnc : nc + 1 ≤ 500) (hns : ns + 6 ≤ 3000) (K : ∀ N', Frm A N N' → RI B T ρ P V (pbM A N') → EE (SJ (d + 11) 125 (Wp (d + 10)) Q) (196, [(5, .int 1), (4, .int o), (3, .int (nI n)), (1, .long (nowV ρ)), (0, .ref (A + 1))], [], (S, N', J), nc + 1, ns + 6)) : EE (SJ (d + 11) 125 (Wp (d + 10)) Q) (184, [(5, .int 1), (4, .int o), (3, .int (nI n)), (1, .long (nowV ρ)), (0, .ref (A + 1))], [], (S, N, J), nc, ns) := by
  have hc : (aDrive ρ 0).1 = 1 := by unfold aDrive; rw [if_neg (by decide)]
  refine EE.runN (stop := atPc [196]) 16 _ ?_
  refine ⟨⟨Nat.le_of_ble_eq_true rfl, hnc, hns⟩, _, X_drive hs h hB, ?_⟩
  rintro rs_ w1 ⟨N1, rfl, hF1, ⟨h1, -⟩, rfl⟩
  refine ⟨Or.inl rfl, ?_⟩
  refine ⟨fun z => absurd (cmp0.mpr (eL_t (E := fun c => if c = 1 then 0 else 1) hc (by decide))) z, fun _ => ?_⟩
  exact K N1 hF1 (h1 (fun z => absurd (hc.symm.trans z) (by decide)))
set_option maxHeartbeats 1000000 in
theorem e_196 (hs : Scn A S) (h : RI B T ρ P V (pbM A N)) (hB : B < 990000) {n nc ns : Nat} {o : Int32} (ec : (ρ 0).toNatClampNeg = n) (hn0 : ¬ nI n ≤ 0) (hnc : nc + 1 ≤ 500) (hns : ns + 6 ≤ 3000) (K : ∀ N', Frm A N N' → RI B T ρ P V (pbM A N') → EE (SJ (d + 11) 125 (Wp (d + 10)) Q) (210, [(5, .int 1), (4, .int o), (3, .int (nI n)), (1, .long (nowV ρ)), (0, .ref (A + 1))], [], (S, N', J), nc + 1, ns + 6)) : EE (SJ (d + 11) 125 (Wp (d + 10)) Q) (196, [(5, .int 1), (4, .int o), (3, .int (nI n)), (1, .long (nowV ρ)), (0, .ref (A + 1))], [], (S, N, J), nc, ns) := by
  have hc : (aDrive ρ 1000).1 = 1 := by unfold aDrive; rw [if_neg (by decide)]
  refine EE.runN (stop := atPc [210]) 16 _ ?_
  refine ⟨⟨Nat.le_of_ble_eq_true rfl, hnc, hns⟩, _, X_drive hs h hB, ?_⟩
  rintro rs_ w1 ⟨N1, rfl, hF1, ⟨h1, -⟩, rfl⟩
  refine ⟨Or.inl rfl, ?_⟩
  refine ⟨fun z => absurd (cmp0.mpr (eL_t (E := fun c => if c = 1 then 0 else 1) hc (by decide))) z, fun _ => ?_⟩
  exact K N1 hF1 (h1 (fun z => absurd (hc.symm.trans z) (by decide)))
set_option maxHeartbeats 1000000 in
theorem e_210 (hs : Scn A S) (h : RI B T ρ P V (pbM A N)) (hB : B < 990000) {n nc ns : Nat} {o : Int32} (ec : (ρ 0).toNatClampNeg = n) (hn0 : ¬ nI n ≤ 0) (hnc : nc + 1 ≤ 500) (hns : ns + 6 ≤ 3000) (K : ∀ N', Frm A N N' → RI B T ρ P V (pbM A N') → EE (SJ (d + 11) 125 (Wp (d + 10)) Q) (223, [(5, .int 1), (4, .int o), (3, .int (nI n)), (1, .long (nowV ρ)), (0, .ref (A + 1))], [], (S, N', J), nc + 1, ns + 6)) : EE (SJ (d + 11) 125 (Wp (d + 10)) Q) (210, [(5, .int 1), (4, .int o), (3, .int (nI n)), (1, .long (nowV ρ)), (0, .ref (A + 1))], [], (S, N, J), nc, ns) := by
  have hc : (aCut ρ 0 0).1 = 1 := by unfold aCut; rw [if_neg (by decide)]
  refine EE.runN (stop := atPc [223]) 16 _ ?_
  refine ⟨⟨Nat.le_of_ble_eq_true rfl, hnc, hns⟩, _, X_cut hs h hB, ?_⟩
  rintro rs_ w1 ⟨N1, rfl, hF1, ⟨h1, -⟩, rfl⟩
  refine ⟨Or.inl rfl, ?_⟩
  refine ⟨fun z => absurd (cmp0.mpr (eL_t (E := fun c => if c = 1 then 0 else 1) hc (by decide))) z, fun _ => ?_⟩
  exact K N1 hF1 (h1 (fun z => absurd (hc.symm.trans z) (by decide)))
set_option maxHeartbeats 1000000 in
theorem e_223 (hs : Scn A S) (h : RI B T ρ P V (pbM A N)) (hB : B < 990000) {n nc ns : Nat} {o : Int32} (ec : (ρ 0).toNatClampNeg = n) (hn0 : ¬ nI n ≤ 0) (hnc : nc + 1 ≤ 500) (hns : ns + 6 ≤ 3000) (K : ∀ N', Frm A N N' → RI B T ρ P V (pbM A N') → EE (SJ (d + 11) 125 (Wp (d + 10)) Q) (236, [(5, .int 1), (4, .int o), (3, .int (nI n)), (1, .long (nowV ρ)), (0, .ref (A + 1))], [], (S, N', J), nc + 1, ns + 6)) : EE (SJ (d + 11) 125 (Wp (d + 10)) Q) (223, [(5, .int 1), (4, .int o), (3, .int (nI n)), (1, .long (nowV ρ)), (0, .ref (A + 1))], [], (S, N, J), nc, ns) := by
  have hc : (aCut ρ 1 (-1)).1 = 1 := by unfold aCut; rw [if_neg (by decide)]
  refine EE.runN (stop := atPc [236]) 16 _ ?_
  refine ⟨⟨Nat.le_of_ble_eq_true rfl, hnc, hns⟩, _, X_cut hs h hB, ?_⟩
  rintro rs_ w1 ⟨N1, rfl, hF1, ⟨h1, -⟩, rfl⟩
  refine ⟨Or.inl rfl, ?_⟩
  refine ⟨fun z => absurd (cmp0.mpr (eL_t (E := fun c => if c = 1 then 0 else 1) hc (by decide))) z, fun _ => ?_⟩
  exact K N1 hF1 (h1 (fun z => absurd (hc.symm.trans z) (by decide)))
set_option maxHeartbeats 1000000 in
theorem e_236 (hs : Scn A S) (h : RI B T ρ P V (pbM A N)) (hB : B < 990000) {n nc ns : Nat} {o : Int32} (ec : (ρ 0).toNatClampNeg = n) (hn0 : ¬ nI n ≤ 0) (hnc : nc + 1 ≤ 500) (hns : ns + 6 ≤ 3000) (K : ∀ N', Frm A N N' → RI B T ρ P V (pbM A N') → EE (SJ (d + 11) 125 (Wp (d + 10)) Q) (249, [(5, .int 1), (4, .int o), (3, .int (nI n)), (1, .long (nowV ρ)), (0, .ref (A + 1))], [], (S, N', J), nc + 1, ns + 6)) : EE (SJ (d + 11) 125 (Wp (d + 10)) Q) (236, [(5, .int 1), (4, .int o), (3, .int (nI n)), (1, .long (nowV ρ)), (0, .ref (A + 1))], [], (S, N, J), nc, ns) := by
  have hc : (aService ρ (ρ 17).toNatClampNeg (-1) 0).1 = 1 := by unfold aService; rw [if_neg (by decide)]
  refine EE.runN (stop := atPc [249]) 16 _ ?_
  refine ⟨⟨Nat.le_of_ble_eq_true rfl, hnc, hns⟩, _, X_service hs h hB, ?_⟩
  rintro rs_ w1 ⟨N1, rfl, hF1, ⟨h1, -⟩, rfl⟩
  refine ⟨Or.inl rfl, ?_⟩
  refine ⟨fun z => absurd (cmp0.mpr (eL_t (E := fun c => if c = 1 then 0 else 1) hc (by decide))) z, fun _ => ?_⟩
  exact K N1 hF1 (h1 (fun z => absurd (hc.symm.trans z) (by decide)))
set_option maxHeartbeats 1000000 in
theorem e_249 (hs : Scn A S) (h : RI B T ρ P V (pbM A N)) (hB : B < 990000) {n nc ns : Nat} {o : Int32} (ec : (ρ 0).toNatClampNeg = n) (hn0 : ¬ nI n ≤ 0) (hnc : nc + 1 ≤ 500) (hns : ns + 6 ≤ 3000) (K : ∀ N', Frm A N N' → RI B T ρ P V (pbM A N') → EE (SJ (d + 11) 125 (Wp (d + 10)) Q) (263, [(5, .int 1), (4, .int o), (3, .int (nI n)), (1, .long (nowV ρ)), (0, .ref (A + 1))], [], (S, N', J), nc + 1, ns + 6)) : EE (SJ (d + 11) 125 (Wp (d + 10)) Q) (249, [(5, .int 1), (4, .int o), (3, .int (nI n)), (1, .long (nowV ρ)), (0, .ref (A + 1))], [], (S, N, J), nc, ns) := by
  have hc : (aForget ρ (ρ 17).toNatClampNeg 0 10).1 = 1 := by unfold aForget; rw [if_neg (by decide)]
  refine EE.runN (stop := atPc [263]) 16 _ ?_
  refine ⟨⟨Nat.le_of_ble_eq_true rfl, hnc, hns⟩, _, X_forget hs h hB, ?_⟩
  rintro rs_ w1 ⟨N1, rfl, hF1, ⟨h1, -⟩, rfl⟩
  refine ⟨Or.inl rfl, ?_⟩
  refine ⟨fun z => absurd (cmp0.mpr (eL_t (E := fun c => if c = 1 then 0 else 1) hc (by decide))) z, fun _ => ?_⟩
  exact K N1 hF1 (h1 (fun z => absurd (hc.symm.trans z) (by decide)))
set_option maxHeartbeats 1000000 in
theorem e_263 (hs : Scn A S) (h : RI B T ρ P V (pbM A N)) (hB : B < 990000) {n nc ns : Nat} {o : Int32} (ec : (ρ 0).toNatClampNeg = n) (hn0 : ¬ nI n ≤ 0) (hnc : nc + 1 ≤ 500) (hns : ns + 6 ≤ 3000) (K : ∀ N', Frm A N N' → RI B T ρ P V (pbM A N') → EE (SJ (d + 11) 125 (Wp (d + 10)) Q) (276, [(5, .int 1), (4, .int o), (3, .int (nI n)), (1, .long (nowV ρ)), (0, .ref (A + 1))], [], (S, N', J), nc + 1, ns + 6)) : EE (SJ (d + 11) 125 (Wp (d + 10)) Q) (263, [(5, .int 1), (4, .int o), (3, .int (nI n)), (1, .long (nowV ρ)), (0, .ref (A + 1))], [], (S, N, J), nc, ns) := by
  have hc : (aStep ρ 100).1 = 1 := by unfold aStep; rw [if_neg (by decide)]
  refine EE.runN (stop := atPc [276]) 16 _ ?_
  refine ⟨⟨Nat.le_of_ble_eq_true rfl, hnc, hns⟩, _, X_setStep hs h hB, ?_⟩
  rintro rs_ w1 ⟨N1, rfl, hF1, ⟨h1, -⟩, rfl⟩
  refine ⟨Or.inl rfl, ?_⟩
  refine ⟨fun z => absurd (cmp0.mpr (eL_t (E := fun c => 0) hc (by decide))) z, fun _ => ?_⟩
  exact K N1 hF1 (h1 (fun z => absurd (hc.symm.trans z) (by decide)))
set_option maxHeartbeats 1000000 in
theorem e_276 (hs : Scn A S) (h : RI B T ρ P V (pbM A N)) (hB : B < 990000) {n nc ns : Nat} {o : Int32} (ec : (ρ 0).toNatClampNeg = n) (hn0 : ¬ nI n ≤ 0) (hnc : nc + 1 ≤ 500) (hns : ns + 6 ≤ 3000) (K : ∀ N', Frm A N N' → RI B T ρ P V (pbM A N') → EE (SJ (d + 11) 125 (Wp (d + 10)) Q) (288, [(5, .int 1), (4, .int o), (3, .int (nI n)), (1, .long (nowV ρ)), (0, .ref (A + 1))], [], (S, N', J), nc + 1, ns + 6)) : EE (SJ (d + 11) 125 (Wp (d + 10)) Q) (276, [(5, .int 1), (4, .int o), (3, .int (nI n)), (1, .long (nowV ρ)), (0, .ref (A + 1))], [], (S, N, J), nc, ns) := by
  have hc : (aRepl ρ (ρ 0).toNatClampNeg (nI n)).1 = 1 := by unfold aRepl; rw [ec, if_neg (fun z => z.2 (Int32.le_refl _))]
  refine EE.runN (stop := atPc [288]) 16 _ ?_
  refine ⟨⟨Nat.le_of_ble_eq_true rfl, hnc, hns⟩, _, X_replace hs h hB, ?_⟩
  rintro rs_ w1 ⟨N1, rfl, hF1, ⟨h1, -⟩, rfl⟩
  refine ⟨Or.inl rfl, ?_⟩
  refine ⟨fun z => absurd (cmp0.mpr (eL_t (E := fun c => if c = 1 then 2 else 1) hc (by decide))) z, fun _ => ?_⟩
  exact K N1 hF1 (h1 (fun z => absurd (hc.symm.trans z) (by decide)))
set_option maxHeartbeats 1000000 in
theorem e_288 (hs : Scn A S) (h : RI B T ρ P V (pbM A N)) (hB : B < 990000) {n nc ns : Nat} {o : Int32} (ec : (ρ 0).toNatClampNeg = n) (hn0 : ¬ nI n ≤ 0) (hnc : nc + 1 ≤ 500) (hns : ns + 6 ≤ 3000) (K : ∀ N', Frm A N N' → RI B T ρ P V (pbM A N') → EE (SJ (d + 11) 125 (Wp (d + 10)) Q) (302, [(5, .int 1), (4, .int o), (3, .int (nI n)), (1, .long (nowV ρ)), (0, .ref (A + 1))], [], (S, N', J), nc + 1, ns + 6)) : EE (SJ (d + 11) 125 (Wp (d + 10)) Q) (288, [(5, .int 1), (4, .int o), (3, .int (nI n)), (1, .long (nowV ρ)), (0, .ref (A + 1))], [], (S, N, J), nc, ns) := by
  have hc : (aAfter ρ 37 0).1 = 1 := by unfold aAfter; rw [if_neg (by decide)]
  refine EE.runN (stop := atPc [302]) 16 _ ?_
  refine ⟨⟨Nat.le_of_ble_eq_true rfl, hnc, hns⟩, _, X_after hs h hB, ?_⟩
  rintro rs_ w1 ⟨N1, rfl, hF1, h1, rfl⟩
  refine ⟨Or.inl rfl, ?_⟩
  refine ⟨fun z => absurd (cmp0.mpr (eL_t (E := fun c => if c = 1 then 0 else 1) hc (by decide))) z, fun _ => ?_⟩
  exact K N1 hF1 h1
set_option maxHeartbeats 1000000 in
theorem e_302 (hs : Scn A S) (h : RI B T ρ P V (pbM A N)) (hB : B < 990000) {n nc ns : Nat} {o : Int32} (ec : (ρ 0).toNatClampNeg = n) (hn0 : ¬ nI n ≤ 0) (hnc : nc + 1 ≤ 500) (hns : ns + 6 ≤ 3000) (K : ∀ N', Frm A N N' → RI B T ρ P V (pbM A N') → EE (SJ (d + 11) 125 (Wp (d + 10)) Q) (314, [(5, .int 1), (4, .int o), (3, .int (nI n)), (1, .long (nowV ρ)), (0, .ref (A + 1))], [], (S, N', J), nc + 1, ns + 6)) : EE (SJ (d + 11) 125 (Wp (d + 10)) Q) (302, [(5, .int 1), (4, .int o), (3, .int (nI n)), (1, .long (nowV ρ)), (0, .ref (A + 1))], [], (S, N, J), nc, ns) := by
  have hc : (aTill ρ 0).1 = 1 := by unfold aTill; rw [if_neg (by decide)]
  refine EE.runN (stop := atPc [314]) 16 _ ?_
  refine ⟨⟨Nat.le_of_ble_eq_true rfl, hnc, hns⟩, _, X_lasts hs h hB, ?_⟩
  rintro rs_ w1 ⟨N1, rfl, hF1, h1, rfl⟩
  refine ⟨Or.inl rfl, ?_⟩
  refine ⟨fun z => absurd (cmp0.mpr (eL_t (E := fun c => if c = 1 then 0 else 1) hc (by decide))) z, fun _ => ?_⟩
  exact K N1 hF1 h1
set_option maxHeartbeats 1000000 in
theorem e_314 (hs : Scn A S) (h : RI B T ρ P V (pbM A N)) (hB : B < 990000) {n nc ns : Nat} {o : Int32} (ec : (ρ 0).toNatClampNeg = n) (hn0 : ¬ nI n ≤ 0) (hnc : nc + 1 ≤ 500) (hns : ns + 6 ≤ 3000) (K : ∀ N', Frm A N N' → RI B T ρ P V (pbM A N') → EE (SJ (d + 11) 125 (Wp (d + 10)) Q) (328, [(5, .int 1), (4, .int o), (3, .int (nI n)), (1, .long (nowV ρ)), (0, .ref (A + 1))], [], (S, N', J), nc + 1, ns + 6)) : EE (SJ (d + 11) 125 (Wp (d + 10)) Q) (314, [(5, .int 1), (4, .int o), (3, .int (nI n)), (1, .long (nowV ρ)), (0, .ref (A + 1))], [], (S, N, J), nc, ns) := by
  have hc : (aDue ρ (ρ 17).toNatClampNeg 0 0 0).1 = 1 := by unfold aDue; rw [if_pos (by decide), if_neg (by decide)]
  refine EE.runN (stop := atPc [328]) 16 _ ?_
  refine ⟨⟨Nat.le_of_ble_eq_true rfl, hnc, hns⟩, _, X_dueIn hs h hB, ?_⟩
  rintro rs_ w1 ⟨N1, rfl, hF1, h1, rfl⟩
  refine ⟨Or.inl rfl, ?_⟩
  refine ⟨fun z => absurd (cmp0.mpr (eL_t (E := fun c => if c = 1 then 0 else 1) hc (by decide))) z, fun _ => ?_⟩
  exact K N1 hF1 h1
set_option maxHeartbeats 1000000 in
theorem e_333 (hs : Scn A S) (h : RI B T ρ P V (pbM A N)) (hB : B < 990000) {n nc ns : Nat} {o : Int32} (ec : (ρ 0).toNatClampNeg = n) (hn0 : ¬ nI n ≤ 0) (h3 : ρ 3 = 0) (hOff : ¬ ρ 3 = 1) (hnc : nc + 1 ≤ 500) (hns : ns + 6 ≤ 3000) (K : ∀ N', Frm A N N' → RI B T ρ P V (pbM A N') → EE (SJ (d + 11) 125 (Wp (d + 10)) Q) (345, [(5, .int 1), (4, .int o), (3, .int (nI n)), (1, .long (nowV ρ)), (0, .ref (A + 1))], [], (S, N', J), nc + 1, ns + 6)) : EE (SJ (d + 11) 125 (Wp (d + 10)) Q) (333, [(5, .int 1), (4, .int o), (3, .int (nI n)), (1, .long (nowV ρ)), (0, .ref (A + 1))], [], (S, N, J), nc, ns) := by
  have hc : (aDrive ρ 1).1 = 2 := by unfold aDrive; rw [if_pos (by decide), if_pos h3]
  refine EE.runN (stop := atPc [345]) 16 _ ?_
  refine ⟨⟨Nat.le_of_ble_eq_true rfl, hnc, hns⟩, _, X_drive hs h hB, ?_⟩
  rintro rs_ w1 ⟨N1, rfl, hF1, ⟨h1, -⟩, rfl⟩
  refine ⟨Or.inl rfl, ?_⟩
  refine ⟨fun z => absurd (cmp0.mpr (eL_t (E := fun c => if c = 1 then 0 else 1) hc (by decide))) z, fun _ => ?_⟩
  exact K N1 hF1 (h1 (fun z => absurd (hc.symm.trans z) (by decide)))
set_option maxHeartbeats 1000000 in
theorem e_345 (hs : Scn A S) (h : RI B T ρ P V (pbM A N)) (hB : B < 990000) {n nc ns : Nat} {o : Int32} (ec : (ρ 0).toNatClampNeg = n) (hn0 : ¬ nI n ≤ 0) (h3 : ρ 3 = 0) (hOff : ¬ ρ 3 = 1) (hnc : nc + 1 ≤ 500) (hns : ns + 6 ≤ 3000) (K : ∀ N', Frm A N N' → RI B T ρ P V (pbM A N') → EE (SJ (d + 11) 125 (Wp (d + 10)) Q) (358, [(5, .int 1), (4, .int o), (3, .int (nI n)), (1, .long (nowV ρ)), (0, .ref (A + 1))], [], (S, N', J), nc + 1, ns + 6)) : EE (SJ (d + 11) 125 (Wp (d + 10)) Q) (345, [(5, .int 1), (4, .int o), (3, .int (nI n)), (1, .long (nowV ρ)), (0, .ref (A + 1))], [], (S, N, J), nc, ns) := by
  have hc : (aCut ρ 1 0).1 = 2 := by unfold aCut; rw [if_pos (by decide), if_pos h3]
  refine EE.runN (stop := atPc [358]) 16 _ ?_
  refine ⟨⟨Nat.le_of_ble_eq_true rfl, hnc, hns⟩, _, X_cut hs h hB, ?_⟩
  rintro rs_ w1 ⟨N1, rfl, hF1, ⟨h1, -⟩, rfl⟩
  refine ⟨Or.inl rfl, ?_⟩
  refine ⟨fun z => absurd (cmp0.mpr (eL_t (E := fun c => if c = 1 then 0 else 1) hc (by decide))) z, fun _ => ?_⟩
  exact K N1 hF1 (h1 (fun z => absurd (hc.symm.trans z) (by decide)))
set_option maxHeartbeats 1000000 in
theorem e_358 (hs : Scn A S) (h : RI B T ρ P V (pbM A N)) (hB : B < 990000) {n nc ns : Nat} {o : Int32} (ec : (ρ 0).toNatClampNeg = n) (hn0 : ¬ nI n ≤ 0) (h3 : ρ 3 = 0) (hOff : ¬ ρ 3 = 1) (hnc : nc + 1 ≤ 500) (hns : ns + 6 ≤ 3000) (K : ∀ N', Frm A N N' → RI B T ρ P V (pbM A N') → EE (SJ (d + 11) 125 (Wp (d + 10)) Q) (371, [(5, .int 1), (4, .int o), (3, .int (nI n)), (1, .long (nowV ρ)), (0, .ref (A + 1))], [], (S, N', J), nc + 1, ns + 6)) : EE (SJ (d + 11) 125 (Wp (d + 10)) Q) (358, [(5, .int 1), (4, .int o), (3, .int (nI n)), (1, .long (nowV ρ)), (0, .ref (A + 1))], [], (S, N, J), nc, ns) := by
  have hc : (aService ρ (ρ 17).toNatClampNeg 1 1).1 = 2 := by unfold aService; rw [if_pos (by decide), if_neg (fun z => hOff z.1)]
  refine EE.runN (stop := atPc [371]) 16 _ ?_
  refine ⟨⟨Nat.le_of_ble_eq_true rfl, hnc, hns⟩, _, X_service hs h hB, ?_⟩
  rintro rs_ w1 ⟨N1, rfl, hF1, ⟨h1, -⟩, rfl⟩
  refine ⟨Or.inl rfl, ?_⟩
  refine ⟨fun z => absurd (cmp0.mpr (eL_t (E := fun c => if c = 1 then 0 else 1) hc (by decide))) z, fun _ => ?_⟩
  exact K N1 hF1 (h1 (fun z => absurd (hc.symm.trans z) (by decide)))
set_option maxHeartbeats 1000000 in
theorem e_371 (hs : Scn A S) (h : RI B T ρ P V (pbM A N)) (hB : B < 990000) {n nc ns : Nat} {o : Int32} (ec : (ρ 0).toNatClampNeg = n) (hn0 : ¬ nI n ≤ 0) (h3 : ρ 3 = 0) (hOff : ¬ ρ 3 = 1) (hnc : nc + 1 ≤ 500) (hns : ns + 6 ≤ 3000) (K : ∀ N', Frm A N N' → RI B T ρ P V (pbM A N') → EE (SJ (d + 11) 125 (Wp (d + 10)) Q) (383, [(5, .int 1), (4, .int o), (3, .int (nI n)), (1, .long (nowV ρ)), (0, .ref (A + 1))], [], (S, N', J), nc + 1, ns + 6)) : EE (SJ (d + 11) 125 (Wp (d + 10)) Q) (371, [(5, .int 1), (4, .int o), (3, .int (nI n)), (1, .long (nowV ρ)), (0, .ref (A + 1))], [], (S, N, J), nc, ns) := by
  have hc : (aRepl ρ (ρ 0).toNatClampNeg 0).1 = 2 := by unfold aRepl; rw [ec, if_pos ⟨by decide, hn0⟩, if_neg (fun z => hOff z.1)]
  refine EE.runN (stop := atPc [383]) 16 _ ?_
  refine ⟨⟨Nat.le_of_ble_eq_true rfl, hnc, hns⟩, _, X_replace hs h hB, ?_⟩
  rintro rs_ w1 ⟨N1, rfl, hF1, ⟨h1, -⟩, rfl⟩
  refine ⟨Or.inl rfl, ?_⟩
  refine ⟨fun z => absurd (cmp0.mpr (eL_t (E := fun c => if c = 1 then 2 else 1) hc (by decide))) z, fun _ => ?_⟩
  exact K N1 hF1 (h1 (fun z => absurd (hc.symm.trans z) (by decide)))
set_option maxHeartbeats 1000000 in
theorem e_383 (hs : Scn A S) (h : RI B T ρ P V (pbM A N)) (hB : B < 990000) {n nc ns : Nat} {o : Int32} (ec : (ρ 0).toNatClampNeg = n) (hn0 : ¬ nI n ≤ 0) (h3 : ρ 3 = 0) (hOff : ¬ ρ 3 = 1) (hnc : nc + 1 ≤ 500) (hns : ns + 6 ≤ 3000) (K : ∀ N', Frm A N N' → RI B T ρ P V (pbM A N') → EE (SJ (d + 11) 125 (Wp (d + 10)) Q) (396, [(5, .int 1), (4, .int o), (3, .int (nI n)), (1, .long (nowV ρ)), (0, .ref (A + 1))], [], (S, N', J), nc + 1, ns + 6)) : EE (SJ (d + 11) 125 (Wp (d + 10)) Q) (383, [(5, .int 1), (4, .int o), (3, .int (nI n)), (1, .long (nowV ρ)), (0, .ref (A + 1))], [], (S, N, J), nc, ns) := by
  have hc : (aAfter ρ 1 0).1 = 2 := by unfold aAfter; rw [if_pos (by decide), if_pos (Or.inl h3)]
  refine EE.runN (stop := atPc [396]) 16 _ ?_
  refine ⟨⟨Nat.le_of_ble_eq_true rfl, hnc, hns⟩, _, X_after hs h hB, ?_⟩
  rintro rs_ w1 ⟨N1, rfl, hF1, h1, rfl⟩
  refine ⟨Or.inl rfl, ?_⟩
  refine ⟨fun z => absurd (cmp0.mpr (eL_t (E := fun c => if c = 1 then 0 else 1) hc (by decide))) z, fun _ => ?_⟩
  exact K N1 hF1 h1
set_option maxHeartbeats 1000000 in
theorem e_396 (hs : Scn A S) (h : RI B T ρ P V (pbM A N)) (hB : B < 990000) {n nc ns : Nat} {o : Int32} (ec : (ρ 0).toNatClampNeg = n) (hn0 : ¬ nI n ≤ 0) (h3 : ρ 3 = 0) (hOff : ¬ ρ 3 = 1) (hnc : nc + 1 ≤ 500) (hns : ns + 6 ≤ 3000) (K : ∀ N', Frm A N N' → RI B T ρ P V (pbM A N') → EE (SJ (d + 11) 125 (Wp (d + 10)) Q) (407, [(5, .int 1), (4, .int o), (3, .int (nI n)), (1, .long (nowV ρ)), (0, .ref (A + 1))], [], (S, N', J), nc + 1, ns + 6)) : EE (SJ (d + 11) 125 (Wp (d + 10)) Q) (396, [(5, .int 1), (4, .int o), (3, .int (nI n)), (1, .long (nowV ρ)), (0, .ref (A + 1))], [], (S, N, J), nc, ns) := by
  have hc : (aWorst ρ).1 = 1 := by unfold aWorst; rw [if_pos (Or.inl h3)]
  refine EE.runN (stop := atPc [407]) 16 _ ?_
  refine ⟨⟨Nat.le_of_ble_eq_true rfl, hnc, hns⟩, _, X_worst hs h hB, ?_⟩
  rintro rs_ w1 ⟨N1, rfl, hF1, h1, rfl⟩
  refine ⟨Or.inl rfl, ?_⟩
  refine ⟨fun z => absurd (cmp0.mpr (eL_t (E := fun c => 1) hc (by decide))) z, fun _ => ?_⟩
  exact K N1 hF1 h1
set_option maxHeartbeats 1000000 in
theorem e_407 (hs : Scn A S) (h : RI B T ρ P V (pbM A N)) (hB : B < 990000) {n nc ns : Nat} {o : Int32} (ec : (ρ 0).toNatClampNeg = n) (hn0 : ¬ nI n ≤ 0) (h3 : ρ 3 = 0) (hOff : ¬ ρ 3 = 1) (hnc : nc + 1 ≤ 500) (hns : ns + 6 ≤ 3000) (K : ∀ N', Frm A N N' → RI B T ρ P V (pbM A N') → EE (SJ (d + 11) 125 (Wp (d + 10)) Q) (419, [(5, .int 1), (4, .int o), (3, .int (nI n)), (1, .long (nowV ρ)), (0, .ref (A + 1))], [], (S, N', J), nc + 1, ns + 6)) : EE (SJ (d + 11) 125 (Wp (d + 10)) Q) (407, [(5, .int 1), (4, .int o), (3, .int (nI n)), (1, .long (nowV ρ)), (0, .ref (A + 1))], [], (S, N, J), nc, ns) := by
  have hc : (aTill ρ 1).1 = 2 := by unfold aTill; rw [if_pos (by decide), if_pos h3]
  refine EE.runN (stop := atPc [419]) 16 _ ?_
  refine ⟨⟨Nat.le_of_ble_eq_true rfl, hnc, hns⟩, _, X_lasts hs h hB, ?_⟩
  rintro rs_ w1 ⟨N1, rfl, hF1, h1, rfl⟩
  refine ⟨Or.inl rfl, ?_⟩
  refine ⟨fun z => absurd (cmp0.mpr (eL_t (E := fun c => if c = 1 then 0 else 1) hc (by decide))) z, fun _ => ?_⟩
  exact K N1 hF1 h1
set_option maxHeartbeats 1000000 in
theorem e_419 (hs : Scn A S) (h : RI B T ρ P V (pbM A N)) (hB : B < 990000) {n nc ns : Nat} {o : Int32} (ec : (ρ 0).toNatClampNeg = n) (hn0 : ¬ nI n ≤ 0) (h3 : ρ 3 = 0) (hOff : ¬ ρ 3 = 1) (hnc : nc + 1 ≤ 500) (hns : ns + 6 ≤ 3000) (K : ∀ N', Frm A N N' → RI B T ρ P V (pbM A N') → EE (SJ (d + 11) 125 (Wp (d + 10)) Q) (433, [(5, .int 1), (4, .int o), (3, .int (nI n)), (1, .long (nowV ρ)), (0, .ref (A + 1))], [], (S, N', J), nc + 1, ns + 6)) : EE (SJ (d + 11) 125 (Wp (d + 10)) Q) (419, [(5, .int 1), (4, .int o), (3, .int (nI n)), (1, .long (nowV ρ)), (0, .ref (A + 1))], [], (S, N, J), nc, ns) := by
  have hc : (aDue ρ (ρ 17).toNatClampNeg 0 0 1).1 = 2 := by unfold aDue; rw [if_pos (by decide), if_pos (by decide), if_pos h3]
  refine EE.runN (stop := atPc [433]) 16 _ ?_
  refine ⟨⟨Nat.le_of_ble_eq_true rfl, hnc, hns⟩, _, X_dueIn hs h hB, ?_⟩
  rintro rs_ w1 ⟨N1, rfl, hF1, h1, rfl⟩
  refine ⟨Or.inl rfl, ?_⟩
  refine ⟨fun z => absurd (cmp0.mpr (eL_t (E := fun c => if c = 1 then 0 else 1) hc (by decide))) z, fun _ => ?_⟩
  exact K N1 hF1 h1
set_option maxHeartbeats 1000000 in
theorem e_438 (hs : Scn A S) (h : RI B T ρ P V (pbM A N)) (hB : B < 990000) {n nc ns : Nat} {o : Int32} (ec : (ρ 0).toNatClampNeg = n) (hn0 : ¬ nI n ≤ 0) (h3 : ρ 3 = 1) (hnc : nc + 1 ≤ 500) (hns : ns + 6 ≤ 3000) (K : ∀ N', Frm A N N' → RI B T ρ P V (pbM A N') → EE (SJ (d + 11) 125 (Wp (d + 10)) Q) (449, [(5, .int 1), (4, .int o), (3, .int (nI n)), (1, .long (nowV ρ)), (0, .ref (A + 1))], [], (S, N', J), nc + 1, ns + 6)) : EE (SJ (d + 11) 125 (Wp (d + 10)) Q) (438, [(5, .int 1), (4, .int o), (3, .int (nI n)), (1, .long (nowV ρ)), (0, .ref (A + 1))], [], (S, N, J), nc, ns) := by
  have hc : (aStart ρ).1 = 1 := by unfold aStart; rw [if_pos h3]
  refine EE.runN (stop := atPc [449]) 16 _ ?_
  refine ⟨⟨Nat.le_of_ble_eq_true rfl, hnc, hns⟩, _, X_start hs h hB, ?_⟩
  rintro rs_ w1 ⟨N1, rfl, hF1, ⟨h1, -⟩, rfl⟩
  refine ⟨Or.inl rfl, ?_⟩
  refine ⟨fun z => absurd (cmp0.mpr (eL_t (E := fun c => 1) hc (by decide))) z, fun _ => ?_⟩
  exact K N1 hF1 (h1 (fun z => absurd (hc.symm.trans z) (by decide)))
set_option maxHeartbeats 1000000 in
theorem e_490 (hs : Scn A S) (h : RI B T ρ P V (pbM A N)) (hB : B < 990000) {n nc ns : Nat} {o : Int32} (ec : (ρ 0).toNatClampNeg = n) (hn0 : ¬ nI n ≤ 0) (h12 : ρ 12 = 1) (hnc : nc + 1 ≤ 500) (hns : ns + 6 ≤ 3000) (K : ∀ N', Frm A N N' → RI B T ρ P V (pbM A N') → EE (SJ (d + 11) 125 (Wp (d + 10)) Q) (503, [(5, .int 1), (4, .int o), (3, .int (nI n)), (1, .long (nowV ρ)), (0, .ref (A + 1))], [], (S, N', J), nc + 1, ns + 6)) : EE (SJ (d + 11) 125 (Wp (d + 10)) Q) (490, [(5, .int 1), (4, .int o), (3, .int (nI n)), (1, .long (nowV ρ)), (0, .ref (A + 1))], [], (S, N, J), nc, ns) := by
  have hc : (aAfter ρ 1 0).1 = 2 := by unfold aAfter; rw [if_pos (by decide), if_pos (Or.inr h12)]
  refine EE.runN (stop := atPc [503]) 16 _ ?_
  refine ⟨⟨Nat.le_of_ble_eq_true rfl, hnc, hns⟩, _, X_after hs h hB, ?_⟩
  rintro rs_ w1 ⟨N1, rfl, hF1, h1, rfl⟩
  refine ⟨Or.inl rfl, ?_⟩
  refine ⟨fun z => absurd (cmp0.mpr (eL_t (E := fun c => if c = 1 then 0 else 1) hc (by decide))) z, fun _ => ?_⟩
  exact K N1 hF1 h1
set_option maxHeartbeats 1000000 in
theorem e_503 (hs : Scn A S) (h : RI B T ρ P V (pbM A N)) (hB : B < 990000) {n nc ns : Nat} {o : Int32} (ec : (ρ 0).toNatClampNeg = n) (hn0 : ¬ nI n ≤ 0) (h12 : ρ 12 = 1) (hnc : nc + 1 ≤ 500) (hns : ns + 6 ≤ 3000) (K : ∀ N', Frm A N N' → RI B T ρ P V (pbM A N') → EE (SJ (d + 11) 125 (Wp (d + 10)) Q) (514, [(5, .int 1), (4, .int o), (3, .int (nI n)), (1, .long (nowV ρ)), (0, .ref (A + 1))], [], (S, N', J), nc + 1, ns + 6)) : EE (SJ (d + 11) 125 (Wp (d + 10)) Q) (503, [(5, .int 1), (4, .int o), (3, .int (nI n)), (1, .long (nowV ρ)), (0, .ref (A + 1))], [], (S, N, J), nc, ns) := by
  have hc : (aWorst ρ).1 = 1 := by unfold aWorst; rw [if_pos (Or.inr h12)]
  refine EE.runN (stop := atPc [514]) 16 _ ?_
  refine ⟨⟨Nat.le_of_ble_eq_true rfl, hnc, hns⟩, _, X_worst hs h hB, ?_⟩
  rintro rs_ w1 ⟨N1, rfl, hF1, h1, rfl⟩
  refine ⟨Or.inl rfl, ?_⟩
  refine ⟨fun z => absurd (cmp0.mpr (eL_t (E := fun c => 1) hc (by decide))) z, fun _ => ?_⟩
  exact K N1 hF1 h1
set_option maxHeartbeats 1000000 in
theorem e_524 (hs : Scn A S) (h : RI B T ρ P V (pbM A N)) (hB : B < 990000) {n nc ns : Nat} {o : Int32} (ec : (ρ 0).toNatClampNeg = n) (hn0 : ¬ nI n ≤ 0) (hnc : nc + 1 ≤ 500) (hns : ns + 6 ≤ 3000) (K : ∀ N', Frm A N N' → RI B T ρ P V (pbM A N') → EE (SJ (d + 11) 125 (Wp (d + 10)) Q) (537, [(5, .int 1), (4, .int o), (3, .int (nI n)), (1, .long (nowV ρ)), (0, .ref (A + 1))], [], (S, N', J), nc + 1, ns + 6)) : EE (SJ (d + 11) 125 (Wp (d + 10)) Q) (524, [(5, .int 1), (4, .int o), (3, .int (nI n)), (1, .long (nowV ρ)), (0, .ref (A + 1))], [], (S, N, J), nc, ns) := by
  have hc : (aScript ρ 0 0).1 = 1 := by unfold aScript; rw [if_neg (by decide)]
  refine EE.runN (stop := atPc [537]) 16 _ ?_
  refine ⟨⟨Nat.le_of_ble_eq_true rfl, hnc, hns⟩, _, X_script hs h hB, ?_⟩
  rintro rs_ w1 ⟨N1, rfl, hF1, h1, rfl⟩
  refine ⟨Or.inl rfl, ?_⟩
  refine ⟨fun z => absurd (cmp0.mpr (eL_t (E := fun c => 0) hc (by decide))) z, fun _ => ?_⟩
  exact K N1 hF1 h1
set_option maxHeartbeats 1000000 in
theorem e_537 (hs : Scn A S) (h : RI B T ρ P V (pbM A N)) (hB : B < 990000) {n nc ns : Nat} {o : Int32} (ec : (ρ 0).toNatClampNeg = n) (hn0 : ¬ nI n ≤ 0) (hnc : nc + 1 ≤ 500) (hns : ns + 6 ≤ 3000) (K : ∀ N', Frm A N N' → RI B T ρ P V (pbM A N') → EE (SJ (d + 11) 125 (Wp (d + 10)) Q) (552, [(5, .int 1), (4, .int o), (3, .int (nI n)), (1, .long (nowV ρ)), (0, .ref (A + 1))], [], (S, N', J), nc + 1, ns + 6)) : EE (SJ (d + 11) 125 (Wp (d + 10)) Q) (537, [(5, .int 1), (4, .int o), (3, .int (nI n)), (1, .long (nowV ρ)), (0, .ref (A + 1))], [], (S, N, J), nc, ns) := by
  have hc : (aScript ρ 4 10000000000000000).1 = 1 := by unfold aScript; rw [if_pos (by decide), if_neg (by decide +kernel)]
  refine EE.runN (stop := atPc [552]) 16 _ ?_
  refine ⟨⟨Nat.le_of_ble_eq_true rfl, hnc, hns⟩, _, X_script hs h hB, ?_⟩
  rintro rs_ w1 ⟨N1, rfl, hF1, h1, rfl⟩
  refine ⟨Or.inl rfl, ?_⟩
  refine ⟨fun z => absurd (cmp0.mpr (eL_t (E := fun c => 0) hc (by decide))) z, fun _ => ?_⟩
  exact K N1 hF1 h1
set_option maxHeartbeats 1000000 in
theorem e_552 (hs : Scn A S) (h : RI B T ρ P V (pbM A N)) (hB : B < 990000) {n nc ns : Nat} {o : Int32} (ec : (ρ 0).toNatClampNeg = n) (hn0 : ¬ nI n ≤ 0) (hnc : nc + 1 ≤ 500) (hns : ns + 6 ≤ 3000) (K : ∀ N', Frm A N N' → RI B T ρ P V (pbM A N') → EE (SJ (d + 11) 125 (Wp (d + 10)) Q) (565, [(5, .int 1), (4, .int o), (3, .int (nI n)), (1, .long (nowV ρ)), (0, .ref (A + 1))], [], (S, N', J), nc + 1, ns + 6)) : EE (SJ (d + 11) 125 (Wp (d + 10)) Q) (552, [(5, .int 1), (4, .int o), (3, .int (nI n)), (1, .long (nowV ρ)), (0, .ref (A + 1))], [], (S, N, J), nc, ns) := by
  have hc : (aSim ρ 1 0).1 = 1 := by unfold aSim; rw [if_neg (by decide)]
  refine EE.runN (stop := atPc [565]) 16 _ ?_
  refine ⟨⟨Nat.le_of_ble_eq_true rfl, hnc, hns⟩, _, X_sim hs h hB, ?_⟩
  rintro rs_ w1 ⟨N1, rfl, hF1, h1, rfl⟩
  refine ⟨Or.inl rfl, ?_⟩
  refine ⟨fun z => absurd (cmp0.mpr (eL_t (E := fun c => 0) hc (by decide))) z, fun _ => ?_⟩
  exact K N1 hF1 h1
set_option maxHeartbeats 1000000 in
theorem e_565 (hs : Scn A S) (h : RI B T ρ P V (pbM A N)) (hB : B < 990000) {n nc ns : Nat} {o : Int32} (ec : (ρ 0).toNatClampNeg = n) (hn0 : ¬ nI n ≤ 0) (hnc : nc + 1 ≤ 500) (hns : ns + 6 ≤ 3000) (K : ∀ N', Frm A N N' → RI B T ρ P V (pbM A N') → EE (SJ (d + 11) 125 (Wp (d + 10)) Q) (577, [(5, .int 1), (4, .int o), (3, .int (nI n)), (1, .long (nowV ρ)), (0, .ref (A + 1))], [], (S, N', J), nc + 1, ns + 6)) : EE (SJ (d + 11) 125 (Wp (d + 10)) Q) (565, [(5, .int 1), (4, .int o), (3, .int (nI n)), (1, .long (nowV ρ)), (0, .ref (A + 1))], [], (S, N, J), nc, ns) := by
  have hc : (aSave ρ 2).1 = 1 := by unfold aSave; rw [if_neg (by decide)]
  refine EE.runN (stop := atPc [577]) 16 _ ?_
  refine ⟨⟨Nat.le_of_ble_eq_true rfl, hnc, hns⟩, _, X_save hs h hB, ?_⟩
  rintro rs_ w1 ⟨N1, rfl, hF1, ⟨h1, -⟩, rfl⟩
  refine ⟨Or.inl rfl, ?_⟩
  refine ⟨fun z => absurd (cmp0.mpr (eL_t (E := fun c => 2) hc (by decide))) z, fun _ => ?_⟩
  exact K N1 hF1 (h1 (fun z => absurd (hc.symm.trans z) (by decide)))
set_option maxHeartbeats 1000000 in
theorem e_577 (hs : Scn A S) (h : RI B T ρ P V (pbM A N)) (hB : B < 990000) {n nc ns : Nat} {o : Int32} (ec : (ρ 0).toNatClampNeg = n) (hn0 : ¬ nI n ≤ 0) (hnc : nc + 1 ≤ 500) (hns : ns + 6 ≤ 3000) (K : ∀ N', Frm A N N' → RI B T ρ P V (pbM A N') → EE (SJ (d + 11) 125 (Wp (d + 10)) Q) (589, [(5, .int 1), (4, .int o), (3, .int (nI n)), (1, .long (nowV ρ)), (0, .ref (A + 1))], [], (S, N', J), nc + 1, ns + 6)) : EE (SJ (d + 11) 125 (Wp (d + 10)) Q) (577, [(5, .int 1), (4, .int o), (3, .int (nI n)), (1, .long (nowV ρ)), (0, .ref (A + 1))], [], (S, N, J), nc, ns) := by
  have hc : (aRs V 2).1 = 1 := by unfold aRs; rw [if_neg (by decide)]
  refine EE.runN (stop := atPc [589]) 16 _ ?_
  refine ⟨⟨Nat.le_of_ble_eq_true rfl, hnc, hns⟩, _, X_restore hs h hB, ?_⟩
  rintro rs_ w1 ⟨N1, rfl, hF1, ⟨h1, -⟩, rfl⟩
  refine ⟨Or.inl rfl, ?_⟩
  refine ⟨fun z => absurd (cmp0.mpr (eL_t (E := fun c => if c = 1 then 2 else 1) hc (by decide))) z, fun _ => ?_⟩
  exact K N1 hF1 (h1 (fun z => absurd (hc.symm.trans z) (by decide)))
set_option maxHeartbeats 1000000 in
theorem e_589 (hs : Scn A S) (h : RI B T ρ P V (pbM A N)) (hB : B < 990000) {n nc ns : Nat} {o : Int32} (ec : (ρ 0).toNatClampNeg = n) (hn0 : ¬ nI n ≤ 0) (hnc : nc + 1 ≤ 500) (hns : ns + 6 ≤ 3000) (K : ∀ N', Frm A N N' → RI B T ρ P V (pbM A N') → EE (SJ (d + 11) 125 (Wp (d + 10)) Q) (601, [(5, .int 1), (4, .int o), (3, .int (nI n)), (1, .long (nowV ρ)), (0, .ref (A + 1))], [], (S, N', J), nc + 1, ns + 6)) : EE (SJ (d + 11) 125 (Wp (d + 10)) Q) (589, [(5, .int 1), (4, .int o), (3, .int (nI n)), (1, .long (nowV ρ)), (0, .ref (A + 1))], [], (S, N, J), nc, ns) := by
  have hc : (aApp T.1 (-1)).1 = 1 := by unfold aApp; rw [if_neg (by decide)]
  refine EE.runN (stop := atPc [601]) 16 _ ?_
  refine ⟨⟨Nat.le_of_ble_eq_true rfl, hnc, hns⟩, _, X_append hs h hB, ?_⟩
  rintro rs_ w1 ⟨N1, rfl, hF1, ⟨h1, -⟩, rfl⟩
  refine ⟨Or.inl rfl, ?_⟩
  refine ⟨fun z => absurd (cmp0.mpr (eL_t (E := fun c => if c = 1 then 0 else 1) hc (by decide))) z, fun _ => ?_⟩
  exact K N1 hF1 (h1 (fun z => absurd (hc.symm.trans z) (by decide)))
set_option maxHeartbeats 1000000 in
theorem e_0 (hs : Scn A S) (h : RI B T ρ P V (pbM A N)) (hB : B < 990000) {n : Nat} (e0 : ρ 0 = nI n) (hn : n ≤ 12) (ec : (ρ 0).toNatClampNeg = n) (K : ∀ N' o, Frm A N N' → RI B T ρ P V (pbM A N') → ((o = 1 ∧ ρ 3 = 0) ∨ (o = 0 ∧ ρ 3 = 1)) → EE (SJ (d + 11) 125 (Wp (d + 10)) Q) (29, [(4, .int o), (3, .int (nI n)), (1, .long (nowV ρ)), (0, .ref (A + 1))], [], (S, N', J), 202, 1212)) : EE (SJ (d + 11) 125 (Wp (d + 10)) Q) (0, [(0, .ref (A + 1))], [], (S, N, J), 0, 0) := by
  have e3 : ab ρ 3 = (ρ 3).toInt64 := by
    have := ab_v (ρ := ρ) (k := 3) (by omega)
    rw [show nI 3 = 3 from rfl] at this
    rw [this]
    unfold vAbout
    rw [if_neg (by omega), if_neg (by omega), if_neg (by omega)]
  refine EE.runN (stop := atPc [29]) 30 _ ?_
  refine ⟨⟨Nat.le_of_ble_eq_true rfl, Nat.le_of_ble_eq_true rfl, Nat.le_of_ble_eq_true rfl⟩, _, Z_now hs h hB, ?_⟩
  rintro rs_ w1 ⟨N1, rfl, hF1, h1, rfl⟩
  refine ⟨Or.inl rfl, ?_⟩
  refine ⟨⟨Nat.le_of_ble_eq_true rfl, Nat.le_of_ble_eq_true rfl, Nat.le_of_ble_eq_true rfl⟩, _, X_about hs h1 hB, ?_⟩
  rintro rs_ w1 ⟨N2, rfl, hF2, h2, hr⟩
  have hr : rs_ = .inl (some (.long (ab ρ 0))) := hr
  rw [ab_0 e0 hn, ← lz_n (by omega)] at hr
  subst hr
  refine ⟨Or.inl rfl, ?_⟩
  refine ⟨⟨Nat.le_of_ble_eq_true rfl, Nat.le_of_ble_eq_true rfl, Nat.le_of_ble_eq_true rfl⟩, _, X_about hs h2 hB, ?_⟩
  rintro rs_ w1 ⟨N3, rfl, hF3, h3, hr⟩
  have hr : rs_ = .inl (some (.long (ab ρ 3))) := hr
  rw [e3] at hr
  subst hr
  refine ⟨Or.inl rfl, ?_⟩
  rcases h.2.1.2.1.2.1.1 with g | g
  · refine ⟨fun z => absurd (cmp0.mpr (by rw [g]; rfl)) z, fun _ => ?_⟩
    refine ee_ls [(4, .int 1), (3, .int (nI n)), (1, .long (nowV ρ)), (0, .ref (A + 1))] (by rw [l2i_n]; rfl) ?_
    exact K N3 1 ((hF1.tr hF2).tr hF3) h3 (Or.inl ⟨rfl, g⟩)
  · refine ⟨fun _ => ?_, fun z => absurd (cmp0.mp z) (by rw [g]; decide)⟩
    refine ee_ls [(4, .int 0), (3, .int (nI n)), (1, .long (nowV ρ)), (0, .ref (A + 1))] (by rw [l2i_n]; rfl) ?_
    exact K N3 0 ((hF1.tr hF2).tr hF3) h3 (Or.inr ⟨rfl, g⟩)
theorem e_172 {n nc ns : Nat} {o : Int32} (K : EE (SJ (d + 11) 125 (Wp (d + 10)) Q) (184, [(5, .int 1), (4, .int o), (3, .int (nI n)), (1, .long (nowV ρ)), (0, .ref (A + 1))], [], (S, N, J), nc, ns)) : EE (SJ (d + 11) 125 (Wp (d + 10)) Q) (172, [(4, .int o), (3, .int (nI n)), (1, .long (nowV ρ)), (0, .ref (A + 1))], [], (S, N, J), nc, ns) := by
  refine EE.runN (stop := atPc [184]) 16 _ ?_
  exact ⟨fun z => absurd z (by decide), fun _ => K⟩
theorem e_328a {n nc ns : Nat} {o : Int32} (ho : o = 1) (K : EE (SJ (d + 11) 125 (Wp (d + 10)) Q) (333, [(5, .int 1), (4, .int o), (3, .int (nI n)), (1, .long (nowV ρ)), (0, .ref (A + 1))], [], (S, N, J), nc, ns)) : EE (SJ (d + 11) 125 (Wp (d + 10)) Q) (328, [(5, .int 1), (4, .int o), (3, .int (nI n)), (1, .long (nowV ρ)), (0, .ref (A + 1))], [], (S, N, J), nc, ns) := by
  refine EE.runN (stop := atPc [333]) 16 _ ?_
  refine ⟨fun z => absurd z (by rw [ho]; decide), fun _ => K⟩
theorem e_328b {n nc ns : Nat} {o : Int32} (ho : o = 0) (K : EE (SJ (d + 11) 125 (Wp (d + 10)) Q) (433, [(5, .int 1), (4, .int o), (3, .int (nI n)), (1, .long (nowV ρ)), (0, .ref (A + 1))], [], (S, N, J), nc, ns)) : EE (SJ (d + 11) 125 (Wp (d + 10)) Q) (328, [(5, .int 1), (4, .int o), (3, .int (nI n)), (1, .long (nowV ρ)), (0, .ref (A + 1))], [], (S, N, J), nc, ns) := by
  refine EE.runN (stop := atPc [433]) 16 _ ?_
  refine ⟨fun _ => K, fun z => absurd ho z⟩
theorem e_433a {n nc ns : Nat} {o : Int32} (ho : o = 1) (K : EE (SJ (d + 11) 125 (Wp (d + 10)) Q) (467, [(5, .int 1), (4, .int o), (3, .int (nI n)), (1, .long (nowV ρ)), (0, .ref (A + 1))], [], (S, N, J), nc, ns)) : EE (SJ (d + 11) 125 (Wp (d + 10)) Q) (433, [(5, .int 1), (4, .int o), (3, .int (nI n)), (1, .long (nowV ρ)), (0, .ref (A + 1))], [], (S, N, J), nc, ns) := by
  refine EE.runN (stop := atPc [467]) 16 _ ?_
  refine ⟨fun _ => K, fun z => absurd (ho.symm.trans z) (by decide)⟩
theorem e_433b {n nc ns : Nat} {o : Int32} (ho : o = 0) (K : EE (SJ (d + 11) 125 (Wp (d + 10)) Q) (438, [(5, .int 1), (4, .int o), (3, .int (nI n)), (1, .long (nowV ρ)), (0, .ref (A + 1))], [], (S, N, J), nc, ns)) : EE (SJ (d + 11) 125 (Wp (d + 10)) Q) (433, [(5, .int 1), (4, .int o), (3, .int (nI n)), (1, .long (nowV ρ)), (0, .ref (A + 1))], [], (S, N, J), nc, ns) := by
  refine EE.runN (stop := atPc [438]) 16 _ ?_
  refine ⟨fun z => absurd ho z, fun _ => K⟩
theorem e_467 {n nc ns : Nat} {o : Int32} (K : EE (SJ (d + 11) 125 (Wp (d + 10)) Q) (479, [(5, .int 1), (4, .int o), (3, .int (nI n)), (1, .long (nowV ρ)), (0, .ref (A + 1))], [], (S, N, J), nc, ns)) : EE (SJ (d + 11) 125 (Wp (d + 10)) Q) (467, [(5, .int 1), (4, .int o), (3, .int (nI n)), (1, .long (nowV ρ)), (0, .ref (A + 1))], [], (S, N, J), nc, ns) := by
  refine EE.runN (stop := atPc [479]) 16 _ ?_
  exact ⟨fun z => absurd z (by decide), fun _ => K⟩
set_option maxHeartbeats 1000000 in
theorem e_449 (hs : Scn A S) (h : RI B T ρ P V (pbM A N)) (hB : B < 990000) {n cur nc ns : Nat} {o : Int32} (ec : (ρ 0).toNatClampNeg = n) (h3 : ρ 3 = 1) (e7 : ρ 7 = nI cur) (hcn : cur < n) (hn : n ≤ 12) (hnc : nc + 2 ≤ 500) (hns : ns + 12 ≤ 3000) (K : ∀ N', Frm A N N' → RI B T ρ P V (pbM A N') → EE (SJ (d + 11) 125 (Wp (d + 10)) Q) (467, [(5, .int 1), (4, .int o), (3, .int (nI n)), (1, .long (nowV ρ)), (0, .ref (A + 1))], [], (S, N', J), nc + 1 + 1, ns + 6 + 6)) : EE (SJ (d + 11) 125 (Wp (d + 10)) Q) (449, [(5, .int 1), (4, .int o), (3, .int (nI n)), (1, .long (nowV ρ)), (0, .ref (A + 1))], [], (S, N, J), nc, ns) := by
  have e7' : ab ρ 7 = (nI cur).toInt64 := by
    have := ab_v (ρ := ρ) (k := 7) (by omega)
    rw [show nI 7 = 7 from rfl] at this
    rw [this]
    unfold vAbout
    rw [if_pos (by omega), if_neg (by rw [h3]; decide), e7]
  have hc : (aRepl ρ (ρ 0).toNatClampNeg ((nI cur).toInt64.toInt32)).1 = 2 := by
    rw [l2i_n]
    unfold aRepl
    rw [ec, if_pos ⟨nI_pos (by omega), nI_ge hcn (by omega)⟩, if_neg (fun z => z.2 e7.symm)]
  refine EE.runN (stop := atPc [467]) 20 _ ?_
  refine ⟨⟨Nat.le_of_ble_eq_true rfl, (show nc + 1 ≤ 500 by omega), (show ns + 6 ≤ 3000 by omega)⟩, _, X_about hs h hB, ?_⟩
  rintro rs_ w1 ⟨N1, rfl, hF1, h1, hr⟩
  have hr : rs_ = .inl (some (.long (ab ρ 7))) := hr
  rw [e7'] at hr
  subst hr
  refine ⟨Or.inl rfl, ?_⟩
  refine ⟨⟨Nat.le_of_ble_eq_true rfl, (show nc + 1 + 1 ≤ 500 by omega), (show ns + 6 + 6 ≤ 3000 by omega)⟩, _, X_replace hs h1 hB, ?_⟩
  rintro rs_ w1 ⟨N2, rfl, hF2, ⟨h2, -⟩, rfl⟩
  refine ⟨Or.inl rfl, ?_⟩
  refine ⟨fun z => absurd (cmp0.mpr (eL_t (E := fun c => if c = 1 then 2 else 1) hc (by decide))) z, fun _ => ?_⟩
  exact K N2 (hF1.tr hF2) (h2 (fun z => absurd (hc.symm.trans z) (by decide)))
theorem ab_12 {ρ : Rw} : ab ρ 12 = (ρ 12).toInt64 := by
  have := ab_v (ρ := ρ) (k := 12) (by omega)
  rw [show nI 12 = 12 from rfl] at this
  rw [this]
  unfold vAbout
  rw [if_neg (by omega), if_neg (by omega), if_neg (by omega)]
set_option maxHeartbeats 1000000 in
theorem e_479a (hs : Scn A S) (h : RI B T ρ P V (pbM A N)) (hB : B < 990000) {n nc ns : Nat} {o : Int32} (h12 : ρ 12 = 0) (hnc : nc + 1 ≤ 500) (hns : ns + 6 ≤ 3000) (K : ∀ N', Frm A N N' → RI B T ρ P V (pbM A N') → EE (SJ (d + 11) 125 (Wp (d + 10)) Q) (524, [(5, .int 1), (4, .int o), (3, .int (nI n)), (1, .long (nowV ρ)), (0, .ref (A + 1))], [], (S, N', J), nc + 1, ns + 6)) : EE (SJ (d + 11) 125 (Wp (d + 10)) Q) (479, [(5, .int 1), (4, .int o), (3, .int (nI n)), (1, .long (nowV ρ)), (0, .ref (A + 1))], [], (S, N, J), nc, ns) := by
  refine EE.runN (stop := atPc [524]) 20 _ ?_
  refine ⟨⟨Nat.le_of_ble_eq_true rfl, hnc, hns⟩, _, X_about hs h hB, ?_⟩
  rintro rs_ w1 ⟨N1, rfl, hF1, h1, hr⟩
  have hr : rs_ = .inl (some (.long (ab ρ 12))) := hr
  rw [ab_12, h12] at hr
  subst hr
  refine ⟨Or.inl rfl, ?_⟩
  refine ⟨fun _ => K N1 hF1 h1, fun z => absurd (cmp0.mpr rfl) z⟩
set_option maxHeartbeats 1000000 in
theorem e_479b (hs : Scn A S) (h : RI B T ρ P V (pbM A N)) (hB : B < 990000) {n nc ns : Nat} {o : Int32} (h12 : ρ 12 = 1) (hnc : nc + 1 ≤ 500) (hns : ns + 6 ≤ 3000) (K : ∀ N', Frm A N N' → RI B T ρ P V (pbM A N') → EE (SJ (d + 11) 125 (Wp (d + 10)) Q) (490, [(5, .int 1), (4, .int o), (3, .int (nI n)), (1, .long (nowV ρ)), (0, .ref (A + 1))], [], (S, N', J), nc + 1, ns + 6)) : EE (SJ (d + 11) 125 (Wp (d + 10)) Q) (479, [(5, .int 1), (4, .int o), (3, .int (nI n)), (1, .long (nowV ρ)), (0, .ref (A + 1))], [], (S, N, J), nc, ns) := by
  refine EE.runN (stop := atPc [490]) 20 _ ?_
  refine ⟨⟨Nat.le_of_ble_eq_true rfl, hnc, hns⟩, _, X_about hs h hB, ?_⟩
  rintro rs_ w1 ⟨N1, rfl, hF1, h1, hr⟩
  have hr : rs_ = .inl (some (.long (ab ρ 12))) := hr
  rw [ab_12, h12] at hr
  subst hr
  refine ⟨Or.inl rfl, ?_⟩
  refine ⟨fun z => absurd (cmp0.mp z) (by decide), fun _ => K N1 hF1 h1⟩
set_option maxHeartbeats 1000000 in
theorem e_514 (hs : Scn A S) (h : RI B T ρ P V (pbM A N)) (hB : B < 990000) {n nc ns : Nat} {o : Int32} (h12 : ρ 12 = 1) (h3 : ρ 3 = 1) (hnc : nc + 1 ≤ 500) (hns : ns + 6 ≤ 3000) (K : ∀ N', Frm A N N' → RI B T ρ P V (pbM A N') → EE (SJ (d + 11) 125 (Wp (d + 10)) Q) (524, [(5, .int 1), (4, .int o), (3, .int (nI n)), (1, .long (nowV ρ)), (0, .ref (A + 1))], [], (S, N', J), nc + 1, ns + 6)) : EE (SJ (d + 11) 125 (Wp (d + 10)) Q) (514, [(5, .int 1), (4, .int o), (3, .int (nI n)), (1, .long (nowV ρ)), (0, .ref (A + 1))], [], (S, N, J), nc, ns) := by
  have hv : aTill ρ 1 = (0, 0) := by
    unfold aTill
    rw [if_pos (by decide), if_neg (by rw [h3]; decide)]
    have : (cTl 10000 0 (upd (upd ρ 1 1) 10 0)).1 = 0 := cTl_dead (by rw [pk_un (by omega), pk_un (by omega)]; exact h12)
    unfold vTill
    rw [this, if_pos (by omega)]
    rfl
  refine EE.runN (stop := atPc [524]) 20 _ ?_
  refine ⟨⟨Nat.le_of_ble_eq_true rfl, hnc, hns⟩, _, X_lasts hs h hB, ?_⟩
  rintro rs_ w1 ⟨N1, rfl, hF1, h1, hr⟩
  rw [hv] at hr
  subst hr
  refine ⟨Or.inl rfl, ?_⟩
  refine ⟨fun z => absurd (cmp0.mpr rfl) z, fun _ => K N1 hF1 h1⟩
set_option maxHeartbeats 1000000 in
theorem e_601 (hs : Scn A S) (h : RI B T ρ P V (pbM A N)) (hB : B < 990000) {n nc ns : Nat} {o : Int32} (hnc : nc + 200 ≤ 500) (hns : ns + 1200 ≤ 3000) (K : ∀ N', Frm A N N' → RI B T ρ P V (pbM A N') → Q (.inl (some (.int 1))) (S, N', J)) : EE (SJ (d + 11) 125 (Wp (d + 10)) Q) (601, [(5, .int 1), (4, .int o), (3, .int (nI n)), (1, .long (nowV ρ)), (0, .ref (A + 1))], [], (S, N, J), nc, ns) := by
  refine EE.runN (stop := noStop) 20 _ ?_
  refine ⟨⟨Nat.le_of_ble_eq_true rfl, hnc, hns⟩, _, Z_now hs h hB, ?_⟩
  rintro rs_ w1 ⟨N1, rfl, hF1, h1, rfl⟩
  refine ⟨Or.inl rfl, ?_⟩
  refine ⟨fun z => absurd (cmp0.mpr rfl) z, fun _ => ?_⟩
  exact ⟨⟨hnc, hns⟩, Or.inr rfl, K N1 hF1 h1⟩
set_option maxHeartbeats 4000000 in
theorem Z_errors {N : Nat → Nat → Int32} (hs : Scn A S) (h : RI B T ρ P V (pbM A N)) (hB : B < 990000) : Wp (d + 11) 125 [.ref (A + 1)] (S, N, J) (fun rs w' => ∃ N', w' = (S, N', J) ∧ Frm A N N' ∧ RI B T ρ P V (pbM A N') ∧ rs = .inl (some (.int 1))) := by
  obtain ⟨n, cur, hn3, hn, hcn, e0, e7, ec⟩ := h.2.1.2.n
  have hn0 : ¬ nI n ≤ 0 := nI_nle (by omega) (by omega)
  have hD0 : ρ 3 = 0 → ρ 12 = 0 := h.2.1.2.2.2
  refine ⟨rfl, ?_⟩
  refine e_0 hs h hB e0 hn ec (fun N0_ o hF0 h0 ho => ?_)
  refine e_29 hs h0 hB ec hn0 (by omega) (by omega) (fun N1_ hG1 h1 => ?_)
  have hF1 := hF0.tr hG1
  refine e_41 hs h1 hB ec hn0 (by omega) (by omega) (fun N2_ hG2 h2 => ?_)
  have hF2 := hF1.tr hG2
  refine e_54 hs h2 hB ec hn0 (by omega) (by omega) (fun N3_ hG3 h3 => ?_)
  have hF3 := hF2.tr hG3
  refine e_69 hs h3 hB ec hn0 (by omega) (by omega) (fun N4_ hG4 h4 => ?_)
  have hF4 := hF3.tr hG4
  refine e_84 hs h4 hB ec hn0 (by omega) (by omega) (fun N5_ hG5 h5 => ?_)
  have hF5 := hF4.tr hG5
  refine e_98 hs h5 hB ec hn0 (by omega) (by omega) (fun N6_ hG6 h6 => ?_)
  have hF6 := hF5.tr hG6
  refine e_110 hs h6 hB ec hn0 (by omega) (by omega) (fun N7_ hG7 h7 => ?_)
  have hF7 := hF6.tr hG7
  refine e_122 hs h7 hB ec hn0 (by omega) (by omega) (fun N8_ hG8 h8 => ?_)
  have hF8 := hF7.tr hG8
  refine e_134 hs h8 hB ec hn0 (by omega) (by omega) (fun N9_ hG9 h9 => ?_)
  have hF9 := hF8.tr hG9
  refine e_147 hs h9 hB ec hn0 (by omega) (by omega) (fun N10_ hG10 h10 => ?_)
  have hF10 := hF9.tr hG10
  refine e_160 hs h10 hB ec hn0 (by omega) (by omega) (fun N11_ hG11 h11 => ?_)
  have hF11 := hF10.tr hG11
  refine e_172 ?_
  refine e_184 hs h11 hB ec hn0 (by omega) (by omega) (fun N12_ hG12 h12 => ?_)
  have hF12 := hF11.tr hG12
  refine e_196 hs h12 hB ec hn0 (by omega) (by omega) (fun N13_ hG13 h13 => ?_)
  have hF13 := hF12.tr hG13
  refine e_210 hs h13 hB ec hn0 (by omega) (by omega) (fun N14_ hG14 h14 => ?_)
  have hF14 := hF13.tr hG14
  refine e_223 hs h14 hB ec hn0 (by omega) (by omega) (fun N15_ hG15 h15 => ?_)
  have hF15 := hF14.tr hG15
  refine e_236 hs h15 hB ec hn0 (by omega) (by omega) (fun N16_ hG16 h16 => ?_)
  have hF16 := hF15.tr hG16
  refine e_249 hs h16 hB ec hn0 (by omega) (by omega) (fun N17_ hG17 h17 => ?_)
  have hF17 := hF16.tr hG17
  refine e_263 hs h17 hB ec hn0 (by omega) (by omega) (fun N18_ hG18 h18 => ?_)
  have hF18 := hF17.tr hG18
  refine e_276 hs h18 hB ec hn0 (by omega) (by omega) (fun N19_ hG19 h19 => ?_)
  have hF19 := hF18.tr hG19
  refine e_288 hs h19 hB ec hn0 (by omega) (by omega) (fun N20_ hG20 h20 => ?_)
  have hF20 := hF19.tr hG20
  refine e_302 hs h20 hB ec hn0 (by omega) (by omega) (fun N21_ hG21 h21 => ?_)
  have hF21 := hF20.tr hG21
  refine e_314 hs h21 hB ec hn0 (by omega) (by omega) (fun N22_ hG22 h22 => ?_)
  have hF22 := hF21.tr hG22
  have tail : ∀ N9 nc ns, Frm A N N9 → RI B T ρ P V (pbM A N9) → nc ≤ 240 → ns ≤ 1440 → EE (SJ (d + 11) 125 (Wp (d + 10)) (fun rs w' => ∃ N', w' = (S, N', J) ∧ Frm A N N' ∧ RI B T ρ P V (pbM A N') ∧ rs = .inl (some (.int 1)))) (467, [(5, .int 1), (4, .int o), (3, .int (nI n)), (1, .long (nowV ρ)), (0, .ref (A + 1))], [], (S, N9, J), nc, ns) := by
    intro N9 nc ns hF9 h9 hc9 hn9
    have fin : ∀ N9 nc ns, Frm A N N9 → RI B T ρ P V (pbM A N9) → nc ≤ 250 → ns ≤ 1500 → EE (SJ (d + 11) 125 (Wp (d + 10)) (fun rs w' => ∃ N', w' = (S, N', J) ∧ Frm A N N' ∧ RI B T ρ P V (pbM A N') ∧ rs = .inl (some (.int 1)))) (524, [(5, .int 1), (4, .int o), (3, .int (nI n)), (1, .long (nowV ρ)), (0, .ref (A + 1))], [], (S, N9, J), nc, ns) := by
      intro N9 nc ns hF9 h9 hc9 hn9
      refine e_524 hs h9 hB ec hn0 (by omega) (by omega) (fun N23_ hG23 h23 => ?_)
      have hF23 := hF9.tr hG23
      refine e_537 hs h23 hB ec hn0 (by omega) (by omega) (fun N24_ hG24 h24 => ?_)
      have hF24 := hF23.tr hG24
      refine e_552 hs h24 hB ec hn0 (by omega) (by omega) (fun N25_ hG25 h25 => ?_)
      have hF25 := hF24.tr hG25
      refine e_565 hs h25 hB ec hn0 (by omega) (by omega) (fun N26_ hG26 h26 => ?_)
      have hF26 := hF25.tr hG26
      refine e_577 hs h26 hB ec hn0 (by omega) (by omega) (fun N27_ hG27 h27 => ?_)
      have hF27 := hF26.tr hG27
      refine e_589 hs h27 hB ec hn0 (by omega) (by omega) (fun N28_ hG28 h28 => ?_)
      have hF28 := hF27.tr hG28
      exact e_601 hs h28 hB (by omega) (by omega) (fun N8 hF8 h8 => ⟨N8, rfl, hF28.tr hF8, h8, rfl⟩)
    refine e_467 ?_
    rcases h.2.1.2.1.2.1.2 with g | g
    · exact e_479a hs h9 hB g (by omega) (by omega) (fun N8 hF8 h8 => fin N8 _ _ (hF9.tr hF8) h8 (by omega) (by omega))
    · have h3 : ρ 3 = 1 := h.2.1.2.1.2.1.1.resolve_left (fun z => absurd ((hD0 z).symm.trans g) (by decide))
      have h12 := g
      refine e_479b hs h9 hB g (by omega) (by omega) (fun N7 hF7 h7 => ?_)
      have hF6 := hF9.tr hF7
      refine e_490 hs h7 hB ec hn0 h12 (by omega) (by omega) (fun N29_ hG29 h29 => ?_)
      have hF29 := hF6.tr hG29
      refine e_503 hs h29 hB ec hn0 h12 (by omega) (by omega) (fun N30_ hG30 h30 => ?_)
      have hF30 := hF29.tr hG30
      exact e_514 hs h30 hB g h3 (by omega) (by omega) (fun N8 hF8 h8 => fin N8 _ _ (hF30.tr hF8) h8 (by omega) (by omega))
  rcases ho with ⟨ho, h3⟩ | ⟨ho, h3⟩
  · have hOff : ¬ ρ 3 = 1 := fun z => absurd (h3.symm.trans z) (by decide)
    refine e_328a ho ?_
    refine e_333 hs h22 hB ec hn0 h3 hOff (by omega) (by omega) (fun N31_ hG31 h31 => ?_)
    have hF31 := hF22.tr hG31
    refine e_345 hs h31 hB ec hn0 h3 hOff (by omega) (by omega) (fun N32_ hG32 h32 => ?_)
    have hF32 := hF31.tr hG32
    refine e_358 hs h32 hB ec hn0 h3 hOff (by omega) (by omega) (fun N33_ hG33 h33 => ?_)
    have hF33 := hF32.tr hG33
    refine e_371 hs h33 hB ec hn0 h3 hOff (by omega) (by omega) (fun N34_ hG34 h34 => ?_)
    have hF34 := hF33.tr hG34
    refine e_383 hs h34 hB ec hn0 h3 hOff (by omega) (by omega) (fun N35_ hG35 h35 => ?_)
    have hF35 := hF34.tr hG35
    refine e_396 hs h35 hB ec hn0 h3 hOff (by omega) (by omega) (fun N36_ hG36 h36 => ?_)
    have hF36 := hF35.tr hG36
    refine e_407 hs h36 hB ec hn0 h3 hOff (by omega) (by omega) (fun N37_ hG37 h37 => ?_)
    have hF37 := hF36.tr hG37
    refine e_419 hs h37 hB ec hn0 h3 hOff (by omega) (by omega) (fun N38_ hG38 h38 => ?_)
    have hF38 := hF37.tr hG38
    exact e_433a ho (tail _ _ _ hF38 h38 (by omega) (by omega))
  · refine e_328b ho ?_
    refine e_433b ho ?_
    refine e_438 hs h22 hB ec hn0 h3 (by omega) (by omega) (fun N39_ hG39 h39 => ?_)
    have hF39 := hF22.tr hG39
    exact e_449 hs h39 hB ec h3 e7 hcn hn (by omega) (by omega) (fun N8 hF8 h8 => tail N8 _ _ (hF39.tr hF8) h8 (by omega) (by omega))
end
