/-! THE LAW'S WRAPPERS: written by wip/p31/ring2.py -/
def eC : Nat → Int64
  | 0 => -9000000000000000002
  | 1 => -9000000000000000003
  | _ => -9000000000000000001
def eL (E : Nat → Nat) (a : Nat × Int32) : Int64 := if a.1 = 0 then a.2.toInt64 else eC (E a.1)
theorem eL_t {E : Nat → Nat} {a : Nat × Int32} {c : Nat} (hc : a.1 = c) (h : c ≠ 0) : eL E a = eC (E c) := by
  unfold eL
  rw [if_neg (by rw [hc]; exact h), hc]
theorem eL_0 {E : Nat → Nat} {a : Nat × Int32} (hc : a.1 = 0) : eL E a = a.2.toInt64 := if_pos hc
theorem Scn.k1 {A : Nat} {S : Sc} (h : Scn A S) : S.2.1 (A + 1) = 6 := by
  have : (if 1 ≤ 1 ∧ 1 ≤ 136 then S.2.1 (A + 1) else 99) = 6 := h.1.2.2.2.1.1
  rw [if_pos (by omega)] at this
  exact this
theorem lne1 {A : Nat} (h : A < 1000) {l : List (Nat × Value)} (hl : l.all (fun q => match q.2 with
    | .ref _ => false
    | _ => true) = true) : ∀ q ∈ ((0, Value.ref (A + 1)) :: l), q.2 ≠ .ref 1000000 := by
  intro q hq e
  rcases List.mem_cons.mp hq with rfl | hq
  · have : A + 1 = 1000000 := by
      have e : Value.ref (A + 1) = Value.ref 1000000 := e
      exact Value.ref.inj e
    omega
  · have := List.all_eq_true.mp hl q hq
    rw [e] at this
    cases this
theorem cod_rs {V : Sav} {x : Int32} : (aRs V x).1 = 1 ∨ (aRs V x).1 = 2 ∨ (aRs V x).1 = 0 := by
  unfold aRs
  (repeat' split) <;> first | exact Or.inl rfl | exact Or.inr (Or.inl rfl) | exact Or.inr (Or.inr rfl)
set_option maxHeartbeats 1000000 in
theorem X_says {A d : Nat} {S : Sc} {N : Nat → Nat → Int32} {J : Nat → Nat → Int64} {B : Nat} {T : Tx} {ρ : Rw} {P : Pst9} {V : Sav} (hs : Scn A S) (h : RI B T ρ P V (pbM A N)) (hB : B < 990000) {x : Int32} : Wp (d + 10) 103 [.ref (A + 1), .int x] (S, N, J) (fun rs w' => ∃ N', w' = (S, N', J) ∧ Frm A N N' ∧ (RI B T ρ P V (pbM A N')) ∧ rs = .inl (some (.long (eL (fun c => 2) (aSays ρ (ρ 0).toNatClampNeg x))))) := by
  refine ⟨rfl, ?_⟩
  refine EE.runN (stop := noStop) 40 _ ?_
  refine ⟨⟨Nat.le_of_ble_eq_true rfl, Nat.le_of_ble_eq_true rfl, Nat.le_of_ble_eq_true rfl⟩, hs.k1, _, Y_says hs h hB, ?_⟩
  rintro rs_ w1 ⟨N1, rfl, hF, hP, hr⟩
  have cd : (aSays ρ (ρ 0).toNatClampNeg x).1 = 1 ∨ (aSays ρ (ρ 0).toNatClampNeg x).1 = 0 := cod_says
  rcases cd with hc | hc
  · have hr1 : rs_ = .inr (excN 2) := hr.trans (rs_t hc (by decide))
    subst hr1
    refine aft_x (show hnT 103 2 (excN 2) = some 7 by decide +kernel) rfl (lne1 hs.2 rfl) ?_
    exact ⟨⟨Nat.le_of_ble_eq_true rfl, Nat.le_of_ble_eq_true rfl⟩, N1, rfl, hF, hP, congrArg (fun z => Sum.inl (some (Value.long z))) (eL_t (E := fun c => 2) hc (by decide)).symm⟩
  · have hr0 : rs_ = .inl (some (.int (aSays ρ (ρ 0).toNatClampNeg x).2)) := hr.trans (rs_0 hc)
    subst hr0
    refine ⟨Or.inl rfl, ?_⟩
    exact ⟨⟨Nat.le_of_ble_eq_true rfl, Nat.le_of_ble_eq_true rfl⟩, N1, rfl, hF, hP, congrArg (fun z => Sum.inl (some (Value.long z))) (eL_0 hc).symm⟩
set_option maxHeartbeats 1000000 in
theorem X_why {A d : Nat} {S : Sc} {N : Nat → Nat → Int32} {J : Nat → Nat → Int64} {B : Nat} {T : Tx} {ρ : Rw} {P : Pst9} {V : Sav} (hs : Scn A S) (h : RI B T ρ P V (pbM A N)) (hB : B < 990000) {x : Int32} : Wp (d + 10) 104 [.ref (A + 1), .int x] (S, N, J) (fun rs w' => ∃ N', w' = (S, N', J) ∧ Frm A N N' ∧ (RI B T ρ P V (pbM A N')) ∧ rs = .inl (some (.long (eL (fun c => 2) (aWhy ρ (ρ 0).toNatClampNeg x))))) := by
  refine ⟨rfl, ?_⟩
  refine EE.runN (stop := noStop) 40 _ ?_
  refine ⟨⟨Nat.le_of_ble_eq_true rfl, Nat.le_of_ble_eq_true rfl, Nat.le_of_ble_eq_true rfl⟩, hs.k1, _, Y_why hs h hB, ?_⟩
  rintro rs_ w1 ⟨N1, rfl, hF, hP, hr⟩
  have cd : (aWhy ρ (ρ 0).toNatClampNeg x).1 = 1 ∨ (aWhy ρ (ρ 0).toNatClampNeg x).1 = 0 := cod_why
  rcases cd with hc | hc
  · have hr1 : rs_ = .inr (excN 2) := hr.trans (rs_t hc (by decide))
    subst hr1
    refine aft_x (show hnT 104 2 (excN 2) = some 7 by decide +kernel) rfl (lne1 hs.2 rfl) ?_
    exact ⟨⟨Nat.le_of_ble_eq_true rfl, Nat.le_of_ble_eq_true rfl⟩, N1, rfl, hF, hP, congrArg (fun z => Sum.inl (some (Value.long z))) (eL_t (E := fun c => 2) hc (by decide)).symm⟩
  · have hr0 : rs_ = .inl (some (.int (aWhy ρ (ρ 0).toNatClampNeg x).2)) := hr.trans (rs_0 hc)
    subst hr0
    refine ⟨Or.inl rfl, ?_⟩
    exact ⟨⟨Nat.le_of_ble_eq_true rfl, Nat.le_of_ble_eq_true rfl⟩, N1, rfl, hF, hP, congrArg (fun z => Sum.inl (some (Value.long z))) (eL_0 hc).symm⟩
set_option maxHeartbeats 1000000 in
theorem X_share {A d : Nat} {S : Sc} {N : Nat → Nat → Int32} {J : Nat → Nat → Int64} {B : Nat} {T : Tx} {ρ : Rw} {P : Pst9} {V : Sav} (hs : Scn A S) (h : RI B T ρ P V (pbM A N)) (hB : B < 990000) {x : Int32} : Wp (d + 10) 105 [.ref (A + 1), .int x] (S, N, J) (fun rs w' => ∃ N', w' = (S, N', J) ∧ Frm A N N' ∧ (RI B T ρ P V (pbM A N')) ∧ rs = .inl (some (.long (eL (fun c => 2) (aShare ρ (ρ 0).toNatClampNeg x))))) := by
  refine ⟨rfl, ?_⟩
  refine EE.runN (stop := noStop) 40 _ ?_
  refine ⟨⟨Nat.le_of_ble_eq_true rfl, Nat.le_of_ble_eq_true rfl, Nat.le_of_ble_eq_true rfl⟩, hs.k1, _, Y_share hs h hB, ?_⟩
  rintro rs_ w1 ⟨N1, rfl, hF, hP, hr⟩
  have cd : (aShare ρ (ρ 0).toNatClampNeg x).1 = 1 ∨ (aShare ρ (ρ 0).toNatClampNeg x).1 = 0 := cod_share
  rcases cd with hc | hc
  · have hr1 : rs_ = .inr (excN 2) := hr.trans (rs_t hc (by decide))
    subst hr1
    refine aft_x (show hnT 105 2 (excN 2) = some 7 by decide +kernel) rfl (lne1 hs.2 rfl) ?_
    exact ⟨⟨Nat.le_of_ble_eq_true rfl, Nat.le_of_ble_eq_true rfl⟩, N1, rfl, hF, hP, congrArg (fun z => Sum.inl (some (Value.long z))) (eL_t (E := fun c => 2) hc (by decide)).symm⟩
  · have hr0 : rs_ = .inl (some (.int (aShare ρ (ρ 0).toNatClampNeg x).2)) := hr.trans (rs_0 hc)
    subst hr0
    refine ⟨Or.inl rfl, ?_⟩
    exact ⟨⟨Nat.le_of_ble_eq_true rfl, Nat.le_of_ble_eq_true rfl⟩, N1, rfl, hF, hP, congrArg (fun z => Sum.inl (some (Value.long z))) (eL_0 hc).symm⟩
set_option maxHeartbeats 1000000 in
theorem X_cell {A d : Nat} {S : Sc} {N : Nat → Nat → Int32} {J : Nat → Nat → Int64} {B : Nat} {T : Tx} {ρ : Rw} {P : Pst9} {V : Sav} (hs : Scn A S) (h : RI B T ρ P V (pbM A N)) (hB : B < 990000) {x : Int32} {i : Int32} {z : Int32} : Wp (d + 9) 102 [.ref (A + 1), .int x, .int i, .int z] (S, N, J) (fun rs w' => ∃ N', w' = (S, N', J) ∧ Frm A N N' ∧ (RI B T ρ P V (pbM A N')) ∧ rs = .inl (some (.long (eL (fun c => if c = 1 then 2 else 0) (aCell ρ (ρ 0).toNatClampNeg x i z))))) := by
  refine ⟨rfl, ?_⟩
  refine EE.runN (stop := noStop) 40 _ ?_
  refine ⟨⟨Nat.le_of_ble_eq_true rfl, Nat.le_of_ble_eq_true rfl, Nat.le_of_ble_eq_true rfl⟩, hs.k1, _, Y_cell hs h hB, ?_⟩
  rintro rs_ w1 ⟨N1, rfl, hF, hP, hr⟩
  have cd : (aCell ρ (ρ 0).toNatClampNeg x i z).1 = 1 ∨ (aCell ρ (ρ 0).toNatClampNeg x i z).1 = 2 ∨ (aCell ρ (ρ 0).toNatClampNeg x i z).1 = 0 := cod_cell
  rcases cd with hc | hc | hc
  · have hr1 : rs_ = .inr (excN 2) := hr.trans (rs_t hc (by decide))
    subst hr1
    refine aft_x (show hnT 102 4 (excN 2) = some 9 by decide +kernel) rfl (lne1 hs.2 rfl) ?_
    exact ⟨⟨Nat.le_of_ble_eq_true rfl, Nat.le_of_ble_eq_true rfl⟩, N1, rfl, hF, hP, congrArg (fun z => Sum.inl (some (Value.long z))) (eL_t (E := fun c => if c = 1 then 2 else 0) hc (by decide)).symm⟩
  · have hr1 : rs_ = .inr (excN 0) := hr.trans (rs_t hc (by decide))
    subst hr1
    refine aft_x (show hnT 102 4 (excN 0) = some 15 by decide +kernel) rfl (lne1 hs.2 rfl) ?_
    exact ⟨⟨Nat.le_of_ble_eq_true rfl, Nat.le_of_ble_eq_true rfl⟩, N1, rfl, hF, hP, congrArg (fun z => Sum.inl (some (Value.long z))) (eL_t (E := fun c => if c = 1 then 2 else 0) hc (by decide)).symm⟩
  · have hr0 : rs_ = .inl (some (.int (aCell ρ (ρ 0).toNatClampNeg x i z).2)) := hr.trans (rs_0 hc)
    subst hr0
    refine ⟨Or.inl rfl, ?_⟩
    exact ⟨⟨Nat.le_of_ble_eq_true rfl, Nat.le_of_ble_eq_true rfl⟩, N1, rfl, hF, hP, congrArg (fun z => Sum.inl (some (Value.long z))) (eL_0 hc).symm⟩
set_option maxHeartbeats 1000000 in
theorem X_serviceAt {A d : Nat} {S : Sc} {N : Nat → Nat → Int32} {J : Nat → Nat → Int64} {B : Nat} {T : Tx} {ρ : Rw} {P : Pst9} {V : Sav} (hs : Scn A S) (h : RI B T ρ P V (pbM A N)) (hB : B < 990000) {x : Int32} {z : Int32} : Wp (d + 9) 106 [.ref (A + 1), .int x, .int z] (S, N, J) (fun rs w' => ∃ N', w' = (S, N', J) ∧ Frm A N N' ∧ (RI B T ρ P V (pbM A N')) ∧ rs = .inl (some (.long (eL (fun c => 0) (aServ ρ x z))))) := by
  refine ⟨rfl, ?_⟩
  refine EE.runN (stop := noStop) 40 _ ?_
  refine ⟨⟨Nat.le_of_ble_eq_true rfl, Nat.le_of_ble_eq_true rfl, Nat.le_of_ble_eq_true rfl⟩, hs.k1, _, Y_serviceAt hs h hB, ?_⟩
  rintro rs_ w1 ⟨N1, rfl, hF, hP, hr⟩
  have cd : (aServ ρ x z).1 = 1 ∨ (aServ ρ x z).1 = 0 := cod_serviceAt
  rcases cd with hc | hc
  · have hr1 : rs_ = .inr (excN 0) := hr.trans (rs_t hc (by decide))
    subst hr1
    refine aft_x (show hnT 106 3 (excN 0) = some 8 by decide +kernel) rfl (lne1 hs.2 rfl) ?_
    exact ⟨⟨Nat.le_of_ble_eq_true rfl, Nat.le_of_ble_eq_true rfl⟩, N1, rfl, hF, hP, congrArg (fun z => Sum.inl (some (Value.long z))) (eL_t (E := fun c => 0) hc (by decide)).symm⟩
  · have hr0 : rs_ = .inl (some (.int (aServ ρ x z).2)) := hr.trans (rs_0 hc)
    subst hr0
    refine ⟨Or.inl rfl, ?_⟩
    exact ⟨⟨Nat.le_of_ble_eq_true rfl, Nat.le_of_ble_eq_true rfl⟩, N1, rfl, hF, hP, congrArg (fun z => Sum.inl (some (Value.long z))) (eL_0 hc).symm⟩
set_option maxHeartbeats 1000000 in
theorem X_lastCut {A d : Nat} {S : Sc} {N : Nat → Nat → Int32} {J : Nat → Nat → Int64} {B : Nat} {T : Tx} {ρ : Rw} {P : Pst9} {V : Sav} (hs : Scn A S) (h : RI B T ρ P V (pbM A N)) (hB : B < 990000) {x : Int32} : Wp (d + 9) 107 [.ref (A + 1), .int x] (S, N, J) (fun rs w' => ∃ N', w' = (S, N', J) ∧ Frm A N N' ∧ (RI B T ρ P V (pbM A N')) ∧ rs = .inl (some (.long (eL (fun c => 0) (aLast ρ x))))) := by
  refine ⟨rfl, ?_⟩
  refine EE.runN (stop := noStop) 40 _ ?_
  refine ⟨⟨Nat.le_of_ble_eq_true rfl, Nat.le_of_ble_eq_true rfl, Nat.le_of_ble_eq_true rfl⟩, hs.k1, _, Y_lastCut hs h hB, ?_⟩
  rintro rs_ w1 ⟨N1, rfl, hF, hP, hr⟩
  have cd : (aLast ρ x).1 = 1 ∨ (aLast ρ x).1 = 0 := cod_lastCut
  rcases cd with hc | hc
  · have hr1 : rs_ = .inr (excN 0) := hr.trans (rs_t hc (by decide))
    subst hr1
    refine aft_x (show hnT 107 2 (excN 0) = some 7 by decide +kernel) rfl (lne1 hs.2 rfl) ?_
    exact ⟨⟨Nat.le_of_ble_eq_true rfl, Nat.le_of_ble_eq_true rfl⟩, N1, rfl, hF, hP, congrArg (fun z => Sum.inl (some (Value.long z))) (eL_t (E := fun c => 0) hc (by decide)).symm⟩
  · have hr0 : rs_ = .inl (some (.int (aLast ρ x).2)) := hr.trans (rs_0 hc)
    subst hr0
    refine ⟨Or.inl rfl, ?_⟩
    exact ⟨⟨Nat.le_of_ble_eq_true rfl, Nat.le_of_ble_eq_true rfl⟩, N1, rfl, hF, hP, congrArg (fun z => Sum.inl (some (Value.long z))) (eL_0 hc).symm⟩
set_option maxHeartbeats 1000000 in
theorem X_about {A d : Nat} {S : Sc} {N : Nat → Nat → Int32} {J : Nat → Nat → Int64} {B : Nat} {T : Tx} {ρ : Rw} {P : Pst9} {V : Sav} (hs : Scn A S) (h : RI B T ρ P V (pbM A N)) (hB : B < 990000) {x : Int32} : Wp (d + 9) 101 [.ref (A + 1), .int x] (S, N, J) (fun rs w' => ∃ N', w' = (S, N', J) ∧ Frm A N N' ∧ (RI B T ρ P V (pbM A N')) ∧ rs = .inl (some (.long (eL (fun c => 0) (aAbout ρ (ρ 0).toNatClampNeg x))))) := by
  refine ⟨rfl, ?_⟩
  refine EE.runN (stop := noStop) 40 _ ?_
  refine ⟨⟨Nat.le_of_ble_eq_true rfl, Nat.le_of_ble_eq_true rfl, Nat.le_of_ble_eq_true rfl⟩, hs.k1, _, Y_about hs h hB, ?_⟩
  rintro rs_ w1 ⟨N1, rfl, hF, hP, hr⟩
  have cd : (aAbout ρ (ρ 0).toNatClampNeg x).1 = 1 ∨ (aAbout ρ (ρ 0).toNatClampNeg x).1 = 0 := cod_about
  rcases cd with hc | hc
  · have hr1 : rs_ = .inr (excN 0) := hr.trans (rs_t hc (by decide))
    subst hr1
    refine aft_x (show hnT 101 2 (excN 0) = some 7 by decide +kernel) rfl (lne1 hs.2 rfl) ?_
    exact ⟨⟨Nat.le_of_ble_eq_true rfl, Nat.le_of_ble_eq_true rfl⟩, N1, rfl, hF, hP, congrArg (fun z => Sum.inl (some (Value.long z))) (eL_t (E := fun c => 0) hc (by decide)).symm⟩
  · have hr0 : rs_ = .inl (some (.int (aAbout ρ (ρ 0).toNatClampNeg x).2)) := hr.trans (rs_0 hc)
    subst hr0
    refine ⟨Or.inl rfl, ?_⟩
    exact ⟨⟨Nat.le_of_ble_eq_true rfl, Nat.le_of_ble_eq_true rfl⟩, N1, rfl, hF, hP, congrArg (fun z => Sum.inl (some (Value.long z))) (eL_0 hc).symm⟩
set_option maxHeartbeats 1000000 in
theorem X_dueIn {A d : Nat} {S : Sc} {N : Nat → Nat → Int32} {J : Nat → Nat → Int64} {B : Nat} {T : Tx} {ρ : Rw} {P : Pst9} {V : Sav} (hs : Scn A S) (h : RI B T ρ P V (pbM A N)) (hB : B < 990000) {x : Int32} {y : Int32} {z : Int32} : Wp (d + 10) 119 [.ref (A + 1), .int x, .int y, .int z] (S, N, J) (fun rs w' => ∃ N', w' = (S, N', J) ∧ Frm A N N' ∧ (RI B T ρ P V (pbM A N')) ∧ rs = .inl (some (.long (eL (fun c => if c = 1 then 0 else 1) (aDue ρ (ρ 17).toNatClampNeg x y z))))) := by
  refine ⟨rfl, ?_⟩
  refine EE.runN (stop := noStop) 40 _ ?_
  refine ⟨⟨Nat.le_of_ble_eq_true rfl, Nat.le_of_ble_eq_true rfl, Nat.le_of_ble_eq_true rfl⟩, hs.k1, _, Y_dueIn hs h hB, ?_⟩
  rintro rs_ w1 ⟨N1, rfl, hF, hP, hr⟩
  have cd : (aDue ρ (ρ 17).toNatClampNeg x y z).1 = 1 ∨ (aDue ρ (ρ 17).toNatClampNeg x y z).1 = 2 ∨ (aDue ρ (ρ 17).toNatClampNeg x y z).1 = 0 := cod_dueIn
  rcases cd with hc | hc | hc
  · have hr1 : rs_ = .inr (excN 0) := hr.trans (rs_t hc (by decide))
    subst hr1
    refine aft_x (show hnT 119 4 (excN 0) = some 9 by decide +kernel) rfl (lne1 hs.2 rfl) ?_
    exact ⟨⟨Nat.le_of_ble_eq_true rfl, Nat.le_of_ble_eq_true rfl⟩, N1, rfl, hF, hP, congrArg (fun z => Sum.inl (some (Value.long z))) (eL_t (E := fun c => if c = 1 then 0 else 1) hc (by decide)).symm⟩
  · have hr1 : rs_ = .inr (excN 1) := hr.trans (rs_t hc (by decide))
    subst hr1
    refine aft_x (show hnT 119 4 (excN 1) = some 15 by decide +kernel) rfl (lne1 hs.2 rfl) ?_
    exact ⟨⟨Nat.le_of_ble_eq_true rfl, Nat.le_of_ble_eq_true rfl⟩, N1, rfl, hF, hP, congrArg (fun z => Sum.inl (some (Value.long z))) (eL_t (E := fun c => if c = 1 then 0 else 1) hc (by decide)).symm⟩
  · have hr0 : rs_ = .inl (some (.int (aDue ρ (ρ 17).toNatClampNeg x y z).2)) := hr.trans (rs_0 hc)
    subst hr0
    refine ⟨Or.inl rfl, ?_⟩
    exact ⟨⟨Nat.le_of_ble_eq_true rfl, Nat.le_of_ble_eq_true rfl⟩, N1, rfl, hF, hP, congrArg (fun z => Sum.inl (some (Value.long z))) (eL_0 hc).symm⟩
set_option maxHeartbeats 1000000 in
theorem X_after {A d : Nat} {S : Sc} {N : Nat → Nat → Int32} {J : Nat → Nat → Int64} {B : Nat} {T : Tx} {ρ : Rw} {P : Pst9} {V : Sav} (hs : Scn A S) (h : RI B T ρ P V (pbM A N)) (hB : B < 990000) {x : Int32} {y : Int32} : Wp (d + 10) 116 [.ref (A + 1), .int x, .int y] (S, N, J) (fun rs w' => ∃ N', w' = (S, N', J) ∧ Frm A N N' ∧ (RI B T ρ P V (pbM A N')) ∧ rs = .inl (some (.long (eL (fun c => if c = 1 then 0 else 1) (aAfter ρ x y))))) := by
  refine ⟨rfl, ?_⟩
  refine EE.runN (stop := noStop) 40 _ ?_
  refine ⟨⟨Nat.le_of_ble_eq_true rfl, Nat.le_of_ble_eq_true rfl, Nat.le_of_ble_eq_true rfl⟩, hs.k1, _, Y_after hs h hB, ?_⟩
  rintro rs_ w1 ⟨N1, rfl, hF, hP, hr⟩
  have cd : (aAfter ρ x y).1 = 1 ∨ (aAfter ρ x y).1 = 2 ∨ (aAfter ρ x y).1 = 0 := cod_after
  rcases cd with hc | hc | hc
  · have hr1 : rs_ = .inr (excN 0) := hr.trans (rs_t hc (by decide))
    subst hr1
    refine aft_x (show hnT 116 3 (excN 0) = some 8 by decide +kernel) rfl (lne1 hs.2 rfl) ?_
    exact ⟨⟨Nat.le_of_ble_eq_true rfl, Nat.le_of_ble_eq_true rfl⟩, N1, rfl, hF, hP, congrArg (fun z => Sum.inl (some (Value.long z))) (eL_t (E := fun c => if c = 1 then 0 else 1) hc (by decide)).symm⟩
  · have hr1 : rs_ = .inr (excN 1) := hr.trans (rs_t hc (by decide))
    subst hr1
    refine aft_x (show hnT 116 3 (excN 1) = some 13 by decide +kernel) rfl (lne1 hs.2 rfl) ?_
    exact ⟨⟨Nat.le_of_ble_eq_true rfl, Nat.le_of_ble_eq_true rfl⟩, N1, rfl, hF, hP, congrArg (fun z => Sum.inl (some (Value.long z))) (eL_t (E := fun c => if c = 1 then 0 else 1) hc (by decide)).symm⟩
  · have hr0 : rs_ = .inl (some (.int (aAfter ρ x y).2)) := hr.trans (rs_0 hc)
    subst hr0
    refine ⟨Or.inl rfl, ?_⟩
    exact ⟨⟨Nat.le_of_ble_eq_true rfl, Nat.le_of_ble_eq_true rfl⟩, N1, rfl, hF, hP, congrArg (fun z => Sum.inl (some (Value.long z))) (eL_0 hc).symm⟩
set_option maxHeartbeats 1000000 in
theorem X_worst {A d : Nat} {S : Sc} {N : Nat → Nat → Int32} {J : Nat → Nat → Int64} {B : Nat} {T : Tx} {ρ : Rw} {P : Pst9} {V : Sav} (hs : Scn A S) (h : RI B T ρ P V (pbM A N)) (hB : B < 990000)  : Wp (d + 10) 117 [.ref (A + 1)] (S, N, J) (fun rs w' => ∃ N', w' = (S, N', J) ∧ Frm A N N' ∧ (RI B T ρ P V (pbM A N')) ∧ rs = .inl (some (.long (eL (fun c => 1) (aWorst ρ))))) := by
  refine ⟨rfl, ?_⟩
  refine EE.runN (stop := noStop) 40 _ ?_
  refine ⟨⟨Nat.le_of_ble_eq_true rfl, Nat.le_of_ble_eq_true rfl, Nat.le_of_ble_eq_true rfl⟩, hs.k1, _, Y_worst hs h hB, ?_⟩
  rintro rs_ w1 ⟨N1, rfl, hF, hP, hr⟩
  have cd : (aWorst ρ).1 = 1 ∨ (aWorst ρ).1 = 0 := cod_worst
  rcases cd with hc | hc
  · have hr1 : rs_ = .inr (excN 1) := hr.trans (rs_t hc (by decide))
    subst hr1
    refine aft_x (show hnT 117 1 (excN 1) = some 6 by decide +kernel) rfl (lne1 hs.2 rfl) ?_
    exact ⟨⟨Nat.le_of_ble_eq_true rfl, Nat.le_of_ble_eq_true rfl⟩, N1, rfl, hF, hP, congrArg (fun z => Sum.inl (some (Value.long z))) (eL_t (E := fun c => 1) hc (by decide)).symm⟩
  · have hr0 : rs_ = .inl (some (.int (aWorst ρ).2)) := hr.trans (rs_0 hc)
    subst hr0
    refine ⟨Or.inl rfl, ?_⟩
    exact ⟨⟨Nat.le_of_ble_eq_true rfl, Nat.le_of_ble_eq_true rfl⟩, N1, rfl, hF, hP, congrArg (fun z => Sum.inl (some (Value.long z))) (eL_0 hc).symm⟩
set_option maxHeartbeats 1000000 in
theorem X_lasts {A d : Nat} {S : Sc} {N : Nat → Nat → Int32} {J : Nat → Nat → Int64} {B : Nat} {T : Tx} {ρ : Rw} {P : Pst9} {V : Sav} (hs : Scn A S) (h : RI B T ρ P V (pbM A N)) (hB : B < 990000) {x : Int32} : Wp (d + 10) 118 [.ref (A + 1), .int x] (S, N, J) (fun rs w' => ∃ N', w' = (S, N', J) ∧ Frm A N N' ∧ (RI B T ρ P V (pbM A N')) ∧ rs = .inl (some (.long (eL (fun c => if c = 1 then 0 else 1) (aTill ρ x))))) := by
  refine ⟨rfl, ?_⟩
  refine EE.runN (stop := noStop) 40 _ ?_
  refine ⟨⟨Nat.le_of_ble_eq_true rfl, Nat.le_of_ble_eq_true rfl, Nat.le_of_ble_eq_true rfl⟩, hs.k1, _, Y_lasts hs h hB, ?_⟩
  rintro rs_ w1 ⟨N1, rfl, hF, hP, hr⟩
  have cd : (aTill ρ x).1 = 1 ∨ (aTill ρ x).1 = 2 ∨ (aTill ρ x).1 = 0 := cod_lasts
  rcases cd with hc | hc | hc
  · have hr1 : rs_ = .inr (excN 0) := hr.trans (rs_t hc (by decide))
    subst hr1
    refine aft_x (show hnT 118 2 (excN 0) = some 7 by decide +kernel) rfl (lne1 hs.2 rfl) ?_
    exact ⟨⟨Nat.le_of_ble_eq_true rfl, Nat.le_of_ble_eq_true rfl⟩, N1, rfl, hF, hP, congrArg (fun z => Sum.inl (some (Value.long z))) (eL_t (E := fun c => if c = 1 then 0 else 1) hc (by decide)).symm⟩
  · have hr1 : rs_ = .inr (excN 1) := hr.trans (rs_t hc (by decide))
    subst hr1
    refine aft_x (show hnT 118 2 (excN 1) = some 12 by decide +kernel) rfl (lne1 hs.2 rfl) ?_
    exact ⟨⟨Nat.le_of_ble_eq_true rfl, Nat.le_of_ble_eq_true rfl⟩, N1, rfl, hF, hP, congrArg (fun z => Sum.inl (some (Value.long z))) (eL_t (E := fun c => if c = 1 then 0 else 1) hc (by decide)).symm⟩
  · have hr0 : rs_ = .inl (some (.int (aTill ρ x).2)) := hr.trans (rs_0 hc)
    subst hr0
    refine ⟨Or.inl rfl, ?_⟩
    exact ⟨⟨Nat.le_of_ble_eq_true rfl, Nat.le_of_ble_eq_true rfl⟩, N1, rfl, hF, hP, congrArg (fun z => Sum.inl (some (Value.long z))) (eL_0 hc).symm⟩
set_option maxHeartbeats 1000000 in
theorem X_script {A d : Nat} {S : Sc} {N : Nat → Nat → Int32} {J : Nat → Nat → Int64} {B : Nat} {T : Tx} {ρ : Rw} {P : Pst9} {V : Sav} (hs : Scn A S) (h : RI B T ρ P V (pbM A N)) (hB : B < 990000) {x : Int32} {told : Int64} : Wp (d + 10) 120 [.ref (A + 1), .int x, .long told] (S, N, J) (fun rs w' => ∃ N', w' = (S, N', J) ∧ Frm A N N' ∧ (RI B T ρ P V (pbM A N')) ∧ rs = .inl (some (.long (eL (fun c => 0) (aScript ρ x told))))) := by
  refine ⟨rfl, ?_⟩
  refine EE.runN (stop := noStop) 40 _ ?_
  refine ⟨⟨Nat.le_of_ble_eq_true rfl, Nat.le_of_ble_eq_true rfl, Nat.le_of_ble_eq_true rfl⟩, hs.k1, _, Y_script hs h hB, ?_⟩
  rintro rs_ w1 ⟨N1, rfl, hF, hP, hr⟩
  have cd : (aScript ρ x told).1 = 1 ∨ (aScript ρ x told).1 = 0 := cod_script
  rcases cd with hc | hc
  · have hr1 : rs_ = .inr (excN 0) := hr.trans (rs_t hc (by decide))
    subst hr1
    refine aft_x (show hnT 120 3 (excN 0) = some 8 by decide +kernel) rfl (lne1 hs.2 rfl) ?_
    exact ⟨⟨Nat.le_of_ble_eq_true rfl, Nat.le_of_ble_eq_true rfl⟩, N1, rfl, hF, hP, congrArg (fun z => Sum.inl (some (Value.long z))) (eL_t (E := fun c => 0) hc (by decide)).symm⟩
  · have hr0 : rs_ = .inl (some (.int (aScript ρ x told).2)) := hr.trans (rs_0 hc)
    subst hr0
    refine ⟨Or.inl rfl, ?_⟩
    exact ⟨⟨Nat.le_of_ble_eq_true rfl, Nat.le_of_ble_eq_true rfl⟩, N1, rfl, hF, hP, congrArg (fun z => Sum.inl (some (Value.long z))) (eL_0 hc).symm⟩
set_option maxHeartbeats 1000000 in
theorem X_sim {A d : Nat} {S : Sc} {N : Nat → Nat → Int32} {J : Nat → Nat → Int64} {B : Nat} {T : Tx} {ρ : Rw} {P : Pst9} {V : Sav} (hs : Scn A S) (h : RI B T ρ P V (pbM A N)) (hB : B < 990000) {x : Int64} {z : Int32} : Wp (d + 10) 121 [.ref (A + 1), .long x, .int z] (S, N, J) (fun rs w' => ∃ N', w' = (S, N', J) ∧ Frm A N N' ∧ (RI B T ρ P V (pbM A N')) ∧ rs = .inl (some (.long (eL (fun c => 0) (aSim ρ x z))))) := by
  refine ⟨rfl, ?_⟩
  refine EE.runN (stop := noStop) 40 _ ?_
  refine ⟨⟨Nat.le_of_ble_eq_true rfl, Nat.le_of_ble_eq_true rfl, Nat.le_of_ble_eq_true rfl⟩, hs.k1, _, Y_sim hs h hB, ?_⟩
  rintro rs_ w1 ⟨N1, rfl, hF, hP, hr⟩
  have cd : (aSim ρ x z).1 = 1 ∨ (aSim ρ x z).1 = 0 := cod_sim
  rcases cd with hc | hc
  · have hr1 : rs_ = .inr (excN 0) := hr.trans (rs_t hc (by decide))
    subst hr1
    refine aft_x (show hnT 121 3 (excN 0) = some 8 by decide +kernel) rfl (lne1 hs.2 rfl) ?_
    exact ⟨⟨Nat.le_of_ble_eq_true rfl, Nat.le_of_ble_eq_true rfl⟩, N1, rfl, hF, hP, congrArg (fun z => Sum.inl (some (Value.long z))) (eL_t (E := fun c => 0) hc (by decide)).symm⟩
  · have hr0 : rs_ = .inl (some (.int (aSim ρ x z).2)) := hr.trans (rs_0 hc)
    subst hr0
    refine ⟨Or.inl rfl, ?_⟩
    exact ⟨⟨Nat.le_of_ble_eq_true rfl, Nat.le_of_ble_eq_true rfl⟩, N1, rfl, hF, hP, congrArg (fun z => Sum.inl (some (Value.long z))) (eL_0 hc).symm⟩
set_option maxHeartbeats 1000000 in
theorem X_drive {A d : Nat} {S : Sc} {N : Nat → Nat → Int32} {J : Nat → Nat → Int64} {B : Nat} {T : Tx} {ρ : Rw} {P : Pst9} {V : Sav} (hs : Scn A S) (h : RI B T ρ P V (pbM A N)) (hB : B < 990000) {x : Int32} : Wp (d + 10) 108 [.ref (A + 1), .int x] (S, N, J) (fun rs w' => ∃ N', w' = (S, N', J) ∧ Frm A N N' ∧ ((¬ (aDrive ρ x).1 = 0 → RI B T ρ P V (pbM A N')) ∧ ((aDrive ρ x).1 = 0 → RI (B + 1000) T (rGo x.toNatClampNeg ρ) (push ρ P) V (pbM A N'))) ∧ rs = .inl (some (.long (eL (fun c => if c = 1 then 0 else 1) (aDrive ρ x))))) := by
  refine ⟨rfl, ?_⟩
  refine EE.runN (stop := noStop) 40 _ ?_
  refine ⟨⟨Nat.le_of_ble_eq_true rfl, Nat.le_of_ble_eq_true rfl, Nat.le_of_ble_eq_true rfl⟩, hs.k1, _, Y_drive hs h hB, ?_⟩
  rintro rs_ w1 ⟨N1, rfl, hF, hP, hr⟩
  have cd : (aDrive ρ x).1 = 1 ∨ (aDrive ρ x).1 = 2 ∨ (aDrive ρ x).1 = 0 := cod_drive
  rcases cd with hc | hc | hc
  · have hr1 : rs_ = .inr (excN 0) := hr.trans (rs_t hc (by decide))
    subst hr1
    refine aft_x (show hnT 108 2 (excN 0) = some 7 by decide +kernel) rfl (lne1 hs.2 rfl) ?_
    exact ⟨⟨Nat.le_of_ble_eq_true rfl, Nat.le_of_ble_eq_true rfl⟩, N1, rfl, hF, hP, congrArg (fun z => Sum.inl (some (Value.long z))) (eL_t (E := fun c => if c = 1 then 0 else 1) hc (by decide)).symm⟩
  · have hr1 : rs_ = .inr (excN 1) := hr.trans (rs_t hc (by decide))
    subst hr1
    refine aft_x (show hnT 108 2 (excN 1) = some 12 by decide +kernel) rfl (lne1 hs.2 rfl) ?_
    exact ⟨⟨Nat.le_of_ble_eq_true rfl, Nat.le_of_ble_eq_true rfl⟩, N1, rfl, hF, hP, congrArg (fun z => Sum.inl (some (Value.long z))) (eL_t (E := fun c => if c = 1 then 0 else 1) hc (by decide)).symm⟩
  · have hr0 : rs_ = .inl (some (.int (aDrive ρ x).2)) := hr.trans (rs_0 hc)
    subst hr0
    refine ⟨Or.inl rfl, ?_⟩
    exact ⟨⟨Nat.le_of_ble_eq_true rfl, Nat.le_of_ble_eq_true rfl⟩, N1, rfl, hF, hP, congrArg (fun z => Sum.inl (some (Value.long z))) (eL_0 hc).symm⟩
set_option maxHeartbeats 1000000 in
theorem X_cut {A d : Nat} {S : Sc} {N : Nat → Nat → Int32} {J : Nat → Nat → Int64} {B : Nat} {T : Tx} {ρ : Rw} {P : Pst9} {V : Sav} (hs : Scn A S) (h : RI B T ρ P V (pbM A N)) (hB : B < 990000) {x : Int32} {y : Int32} : Wp (d + 10) 109 [.ref (A + 1), .int x, .int y] (S, N, J) (fun rs w' => ∃ N', w' = (S, N', J) ∧ Frm A N N' ∧ ((¬ (aCut ρ x y).1 = 0 → RI B T ρ P V (pbM A N')) ∧ ((aCut ρ x y).1 = 0 → RI (B + 1000) T (upd (upd ρ 10 x) 11 y) (push ρ P) V (pbM A N'))) ∧ rs = .inl (some (.long (eL (fun c => if c = 1 then 0 else 1) (aCut ρ x y))))) := by
  refine ⟨rfl, ?_⟩
  refine EE.runN (stop := noStop) 40 _ ?_
  refine ⟨⟨Nat.le_of_ble_eq_true rfl, Nat.le_of_ble_eq_true rfl, Nat.le_of_ble_eq_true rfl⟩, hs.k1, _, Y_cut hs h hB, ?_⟩
  rintro rs_ w1 ⟨N1, rfl, hF, hP, hr⟩
  have cd : (aCut ρ x y).1 = 1 ∨ (aCut ρ x y).1 = 2 ∨ (aCut ρ x y).1 = 0 := cod_cut
  rcases cd with hc | hc | hc
  · have hr1 : rs_ = .inr (excN 0) := hr.trans (rs_t hc (by decide))
    subst hr1
    refine aft_x (show hnT 109 3 (excN 0) = some 8 by decide +kernel) rfl (lne1 hs.2 rfl) ?_
    exact ⟨⟨Nat.le_of_ble_eq_true rfl, Nat.le_of_ble_eq_true rfl⟩, N1, rfl, hF, hP, congrArg (fun z => Sum.inl (some (Value.long z))) (eL_t (E := fun c => if c = 1 then 0 else 1) hc (by decide)).symm⟩
  · have hr1 : rs_ = .inr (excN 1) := hr.trans (rs_t hc (by decide))
    subst hr1
    refine aft_x (show hnT 109 3 (excN 1) = some 13 by decide +kernel) rfl (lne1 hs.2 rfl) ?_
    exact ⟨⟨Nat.le_of_ble_eq_true rfl, Nat.le_of_ble_eq_true rfl⟩, N1, rfl, hF, hP, congrArg (fun z => Sum.inl (some (Value.long z))) (eL_t (E := fun c => if c = 1 then 0 else 1) hc (by decide)).symm⟩
  · have hr0 : rs_ = .inl (some (.int (aCut ρ x y).2)) := hr.trans (rs_0 hc)
    subst hr0
    refine ⟨Or.inl rfl, ?_⟩
    exact ⟨⟨Nat.le_of_ble_eq_true rfl, Nat.le_of_ble_eq_true rfl⟩, N1, rfl, hF, hP, congrArg (fun z => Sum.inl (some (Value.long z))) (eL_0 hc).symm⟩
set_option maxHeartbeats 1000000 in
theorem X_start {A d : Nat} {S : Sc} {N : Nat → Nat → Int32} {J : Nat → Nat → Int64} {B : Nat} {T : Tx} {ρ : Rw} {P : Pst9} {V : Sav} (hs : Scn A S) (h : RI B T ρ P V (pbM A N)) (hB : B < 990000)  : Wp (d + 10) 110 [.ref (A + 1)] (S, N, J) (fun rs w' => ∃ N', w' = (S, N', J) ∧ Frm A N N' ∧ ((¬ (aStart ρ).1 = 0 → RI B T ρ P V (pbM A N')) ∧ ((aStart ρ).1 = 0 → RI (B + 1000) T (rPower ρ) (push ρ P) V (pbM A N'))) ∧ rs = .inl (some (.long (eL (fun c => 1) (aStart ρ))))) := by
  refine ⟨rfl, ?_⟩
  refine EE.runN (stop := noStop) 40 _ ?_
  refine ⟨⟨Nat.le_of_ble_eq_true rfl, Nat.le_of_ble_eq_true rfl, Nat.le_of_ble_eq_true rfl⟩, hs.k1, _, Y_start hs h hB, ?_⟩
  rintro rs_ w1 ⟨N1, rfl, hF, hP, hr⟩
  have cd : (aStart ρ).1 = 1 ∨ (aStart ρ).1 = 0 := cod_start
  rcases cd with hc | hc
  · have hr1 : rs_ = .inr (excN 1) := hr.trans (rs_t hc (by decide))
    subst hr1
    refine aft_x (show hnT 110 1 (excN 1) = some 6 by decide +kernel) rfl (lne1 hs.2 rfl) ?_
    exact ⟨⟨Nat.le_of_ble_eq_true rfl, Nat.le_of_ble_eq_true rfl⟩, N1, rfl, hF, hP, congrArg (fun z => Sum.inl (some (Value.long z))) (eL_t (E := fun c => 1) hc (by decide)).symm⟩
  · have hr0 : rs_ = .inl (some (.int (aStart ρ).2)) := hr.trans (rs_0 hc)
    subst hr0
    refine ⟨Or.inl rfl, ?_⟩
    exact ⟨⟨Nat.le_of_ble_eq_true rfl, Nat.le_of_ble_eq_true rfl⟩, N1, rfl, hF, hP, congrArg (fun z => Sum.inl (some (Value.long z))) (eL_0 hc).symm⟩
set_option maxHeartbeats 1000000 in
theorem X_service {A d : Nat} {S : Sc} {N : Nat → Nat → Int32} {J : Nat → Nat → Int64} {B : Nat} {T : Tx} {ρ : Rw} {P : Pst9} {V : Sav} (hs : Scn A S) (h : RI B T ρ P V (pbM A N)) (hB : B < 990000) {x : Int32} {y : Int32} : Wp (d + 10) 111 [.ref (A + 1), .int x, .int y] (S, N, J) (fun rs w' => ∃ N', w' = (S, N', J) ∧ Frm A N N' ∧ ((¬ (aService ρ (ρ 17).toNatClampNeg x y).1 = 0 → RI B T ρ P V (pbM A N')) ∧ ((aService ρ (ρ 17).toNatClampNeg x y).1 = 0 → RI (B + 1000) T (rServe ρ (10 * x + y) (ρ 17).toNatClampNeg) (push ρ P) V (pbM A N'))) ∧ rs = .inl (some (.long (eL (fun c => if c = 1 then 0 else 1) (aService ρ (ρ 17).toNatClampNeg x y))))) := by
  refine ⟨rfl, ?_⟩
  refine EE.runN (stop := noStop) 40 _ ?_
  refine ⟨⟨Nat.le_of_ble_eq_true rfl, Nat.le_of_ble_eq_true rfl, Nat.le_of_ble_eq_true rfl⟩, hs.k1, _, Y_service hs h hB, ?_⟩
  rintro rs_ w1 ⟨N1, rfl, hF, hP, hr⟩
  have cd : (aService ρ (ρ 17).toNatClampNeg x y).1 = 1 ∨ (aService ρ (ρ 17).toNatClampNeg x y).1 = 2 ∨ (aService ρ (ρ 17).toNatClampNeg x y).1 = 0 := cod_service
  rcases cd with hc | hc | hc
  · have hr1 : rs_ = .inr (excN 0) := hr.trans (rs_t hc (by decide))
    subst hr1
    refine aft_x (show hnT 111 3 (excN 0) = some 8 by decide +kernel) rfl (lne1 hs.2 rfl) ?_
    exact ⟨⟨Nat.le_of_ble_eq_true rfl, Nat.le_of_ble_eq_true rfl⟩, N1, rfl, hF, hP, congrArg (fun z => Sum.inl (some (Value.long z))) (eL_t (E := fun c => if c = 1 then 0 else 1) hc (by decide)).symm⟩
  · have hr1 : rs_ = .inr (excN 1) := hr.trans (rs_t hc (by decide))
    subst hr1
    refine aft_x (show hnT 111 3 (excN 1) = some 13 by decide +kernel) rfl (lne1 hs.2 rfl) ?_
    exact ⟨⟨Nat.le_of_ble_eq_true rfl, Nat.le_of_ble_eq_true rfl⟩, N1, rfl, hF, hP, congrArg (fun z => Sum.inl (some (Value.long z))) (eL_t (E := fun c => if c = 1 then 0 else 1) hc (by decide)).symm⟩
  · have hr0 : rs_ = .inl (some (.int (aService ρ (ρ 17).toNatClampNeg x y).2)) := hr.trans (rs_0 hc)
    subst hr0
    refine ⟨Or.inl rfl, ?_⟩
    exact ⟨⟨Nat.le_of_ble_eq_true rfl, Nat.le_of_ble_eq_true rfl⟩, N1, rfl, hF, hP, congrArg (fun z => Sum.inl (some (Value.long z))) (eL_0 hc).symm⟩
set_option maxHeartbeats 1000000 in
theorem X_forget {A d : Nat} {S : Sc} {N : Nat → Nat → Int32} {J : Nat → Nat → Int64} {B : Nat} {T : Tx} {ρ : Rw} {P : Pst9} {V : Sav} (hs : Scn A S) (h : RI B T ρ P V (pbM A N)) (hB : B < 990000) {x : Int32} {y : Int32} : Wp (d + 10) 112 [.ref (A + 1), .int x, .int y] (S, N, J) (fun rs w' => ∃ N', w' = (S, N', J) ∧ Frm A N N' ∧ ((¬ (aForget ρ (ρ 17).toNatClampNeg x y).1 = 0 → RI B T ρ P V (pbM A N')) ∧ ((aForget ρ (ρ 17).toNatClampNeg x y).1 = 0 → RI (B + 1000) T (rDrop ρ (rFnd ρ (10 * x + y) (ρ 17).toNatClampNeg).toNatClampNeg (ρ 17).toNatClampNeg) (push ρ P) V (pbM A N'))) ∧ rs = .inl (some (.long (eL (fun c => if c = 1 then 0 else 1) (aForget ρ (ρ 17).toNatClampNeg x y))))) := by
  refine ⟨rfl, ?_⟩
  refine EE.runN (stop := noStop) 40 _ ?_
  refine ⟨⟨Nat.le_of_ble_eq_true rfl, Nat.le_of_ble_eq_true rfl, Nat.le_of_ble_eq_true rfl⟩, hs.k1, _, Y_forget hs h hB, ?_⟩
  rintro rs_ w1 ⟨N1, rfl, hF, hP, hr⟩
  have cd : (aForget ρ (ρ 17).toNatClampNeg x y).1 = 1 ∨ (aForget ρ (ρ 17).toNatClampNeg x y).1 = 2 ∨ (aForget ρ (ρ 17).toNatClampNeg x y).1 = 0 := cod_forget
  rcases cd with hc | hc | hc
  · have hr1 : rs_ = .inr (excN 0) := hr.trans (rs_t hc (by decide))
    subst hr1
    refine aft_x (show hnT 112 3 (excN 0) = some 8 by decide +kernel) rfl (lne1 hs.2 rfl) ?_
    exact ⟨⟨Nat.le_of_ble_eq_true rfl, Nat.le_of_ble_eq_true rfl⟩, N1, rfl, hF, hP, congrArg (fun z => Sum.inl (some (Value.long z))) (eL_t (E := fun c => if c = 1 then 0 else 1) hc (by decide)).symm⟩
  · have hr1 : rs_ = .inr (excN 1) := hr.trans (rs_t hc (by decide))
    subst hr1
    refine aft_x (show hnT 112 3 (excN 1) = some 13 by decide +kernel) rfl (lne1 hs.2 rfl) ?_
    exact ⟨⟨Nat.le_of_ble_eq_true rfl, Nat.le_of_ble_eq_true rfl⟩, N1, rfl, hF, hP, congrArg (fun z => Sum.inl (some (Value.long z))) (eL_t (E := fun c => if c = 1 then 0 else 1) hc (by decide)).symm⟩
  · have hr0 : rs_ = .inl (some (.int (aForget ρ (ρ 17).toNatClampNeg x y).2)) := hr.trans (rs_0 hc)
    subst hr0
    refine ⟨Or.inl rfl, ?_⟩
    exact ⟨⟨Nat.le_of_ble_eq_true rfl, Nat.le_of_ble_eq_true rfl⟩, N1, rfl, hF, hP, congrArg (fun z => Sum.inl (some (Value.long z))) (eL_0 hc).symm⟩
set_option maxHeartbeats 1000000 in
theorem X_setStep {A d : Nat} {S : Sc} {N : Nat → Nat → Int32} {J : Nat → Nat → Int64} {B : Nat} {T : Tx} {ρ : Rw} {P : Pst9} {V : Sav} (hs : Scn A S) (h : RI B T ρ P V (pbM A N)) (hB : B < 990000) {x : Int32} : Wp (d + 10) 113 [.ref (A + 1), .int x] (S, N, J) (fun rs w' => ∃ N', w' = (S, N', J) ∧ Frm A N N' ∧ ((¬ (aStep ρ x).1 = 0 → RI B T ρ P V (pbM A N')) ∧ ((aStep ρ x).1 = 0 → RI (B + 1000) T (upd ρ 1 x) (push ρ P) V (pbM A N'))) ∧ rs = .inl (some (.long (eL (fun c => 0) (aStep ρ x))))) := by
  refine ⟨rfl, ?_⟩
  refine EE.runN (stop := noStop) 40 _ ?_
  refine ⟨⟨Nat.le_of_ble_eq_true rfl, Nat.le_of_ble_eq_true rfl, Nat.le_of_ble_eq_true rfl⟩, hs.k1, _, Y_setStep hs h hB, ?_⟩
  rintro rs_ w1 ⟨N1, rfl, hF, hP, hr⟩
  have cd : (aStep ρ x).1 = 1 ∨ (aStep ρ x).1 = 0 := cod_setStep
  rcases cd with hc | hc
  · have hr1 : rs_ = .inr (excN 0) := hr.trans (rs_t hc (by decide))
    subst hr1
    refine aft_x (show hnT 113 2 (excN 0) = some 7 by decide +kernel) rfl (lne1 hs.2 rfl) ?_
    exact ⟨⟨Nat.le_of_ble_eq_true rfl, Nat.le_of_ble_eq_true rfl⟩, N1, rfl, hF, hP, congrArg (fun z => Sum.inl (some (Value.long z))) (eL_t (E := fun c => 0) hc (by decide)).symm⟩
  · have hr0 : rs_ = .inl (some (.int (aStep ρ x).2)) := hr.trans (rs_0 hc)
    subst hr0
    refine ⟨Or.inl rfl, ?_⟩
    exact ⟨⟨Nat.le_of_ble_eq_true rfl, Nat.le_of_ble_eq_true rfl⟩, N1, rfl, hF, hP, congrArg (fun z => Sum.inl (some (Value.long z))) (eL_0 hc).symm⟩
set_option maxHeartbeats 1000000 in
theorem X_replace {A d : Nat} {S : Sc} {N : Nat → Nat → Int32} {J : Nat → Nat → Int64} {B : Nat} {T : Tx} {ρ : Rw} {P : Pst9} {V : Sav} (hs : Scn A S) (h : RI B T ρ P V (pbM A N)) (hB : B < 990000) {x : Int32} : Wp (d + 10) 114 [.ref (A + 1), .int x] (S, N, J) (fun rs w' => ∃ N', w' = (S, N', J) ∧ Frm A N N' ∧ ((¬ (aRepl ρ (ρ 0).toNatClampNeg x).1 = 0 → RI B T ρ P V (pbM A N')) ∧ ((aRepl ρ (ρ 0).toNatClampNeg x).1 = 0 → RI (B + 1000) T (rRenew ρ x.toNatClampNeg) (push ρ P) V (pbM A N'))) ∧ rs = .inl (some (.long (eL (fun c => if c = 1 then 2 else 1) (aRepl ρ (ρ 0).toNatClampNeg x))))) := by
  refine ⟨rfl, ?_⟩
  refine EE.runN (stop := noStop) 40 _ ?_
  refine ⟨⟨Nat.le_of_ble_eq_true rfl, Nat.le_of_ble_eq_true rfl, Nat.le_of_ble_eq_true rfl⟩, hs.k1, _, Y_replace hs h hB, ?_⟩
  rintro rs_ w1 ⟨N1, rfl, hF, hP, hr⟩
  have cd : (aRepl ρ (ρ 0).toNatClampNeg x).1 = 1 ∨ (aRepl ρ (ρ 0).toNatClampNeg x).1 = 2 ∨ (aRepl ρ (ρ 0).toNatClampNeg x).1 = 0 := cod_replace
  rcases cd with hc | hc | hc
  · have hr1 : rs_ = .inr (excN 2) := hr.trans (rs_t hc (by decide))
    subst hr1
    refine aft_x (show hnT 114 2 (excN 2) = some 7 by decide +kernel) rfl (lne1 hs.2 rfl) ?_
    exact ⟨⟨Nat.le_of_ble_eq_true rfl, Nat.le_of_ble_eq_true rfl⟩, N1, rfl, hF, hP, congrArg (fun z => Sum.inl (some (Value.long z))) (eL_t (E := fun c => if c = 1 then 2 else 1) hc (by decide)).symm⟩
  · have hr1 : rs_ = .inr (excN 1) := hr.trans (rs_t hc (by decide))
    subst hr1
    refine aft_x (show hnT 114 2 (excN 1) = some 12 by decide +kernel) rfl (lne1 hs.2 rfl) ?_
    exact ⟨⟨Nat.le_of_ble_eq_true rfl, Nat.le_of_ble_eq_true rfl⟩, N1, rfl, hF, hP, congrArg (fun z => Sum.inl (some (Value.long z))) (eL_t (E := fun c => if c = 1 then 2 else 1) hc (by decide)).symm⟩
  · have hr0 : rs_ = .inl (some (.int (aRepl ρ (ρ 0).toNatClampNeg x).2)) := hr.trans (rs_0 hc)
    subst hr0
    refine ⟨Or.inl rfl, ?_⟩
    exact ⟨⟨Nat.le_of_ble_eq_true rfl, Nat.le_of_ble_eq_true rfl⟩, N1, rfl, hF, hP, congrArg (fun z => Sum.inl (some (Value.long z))) (eL_0 hc).symm⟩
set_option maxHeartbeats 1000000 in
theorem X_undo {A d : Nat} {S : Sc} {N : Nat → Nat → Int32} {J : Nat → Nat → Int64} {B : Nat} {T : Tx} {ρ : Rw} {P : Pst9} {V : Sav} (hs : Scn A S) (h : RI B T ρ P V (pbM A N)) (hB : B < 990000)  : Wp (d + 10) 115 [.ref (A + 1)] (S, N, J) (fun rs w' => ∃ N', w' = (S, N', J) ∧ Frm A N N' ∧ ((¬ (aUndo P.1).1 = 0 → RI B T ρ P V (pbM A N')) ∧ ((aUndo P.1).1 = 0 → RI B T (P.2 0) (back P) V (pbM A N'))) ∧ rs = .inl (some (.long (eL (fun c => 1) (aUndo P.1))))) := by
  refine ⟨rfl, ?_⟩
  refine EE.runN (stop := noStop) 40 _ ?_
  refine ⟨⟨Nat.le_of_ble_eq_true rfl, Nat.le_of_ble_eq_true rfl, Nat.le_of_ble_eq_true rfl⟩, hs.k1, _, Y_undo hs h hB, ?_⟩
  rintro rs_ w1 ⟨N1, rfl, hF, hP, hr⟩
  have cd : (aUndo P.1).1 = 1 ∨ (aUndo P.1).1 = 0 := cod_undo
  rcases cd with hc | hc
  · have hr1 : rs_ = .inr (excN 1) := hr.trans (rs_t hc (by decide))
    subst hr1
    refine aft_x (show hnT 115 1 (excN 1) = some 6 by decide +kernel) rfl (lne1 hs.2 rfl) ?_
    exact ⟨⟨Nat.le_of_ble_eq_true rfl, Nat.le_of_ble_eq_true rfl⟩, N1, rfl, hF, hP, congrArg (fun z => Sum.inl (some (Value.long z))) (eL_t (E := fun c => 1) hc (by decide)).symm⟩
  · have hr0 : rs_ = .inl (some (.int (aUndo P.1).2)) := hr.trans (rs_0 hc)
    subst hr0
    refine ⟨Or.inl rfl, ?_⟩
    exact ⟨⟨Nat.le_of_ble_eq_true rfl, Nat.le_of_ble_eq_true rfl⟩, N1, rfl, hF, hP, congrArg (fun z => Sum.inl (some (Value.long z))) (eL_0 hc).symm⟩
set_option maxHeartbeats 1000000 in
theorem X_save {A d : Nat} {S : Sc} {N : Nat → Nat → Int32} {J : Nat → Nat → Int64} {B : Nat} {T : Tx} {ρ : Rw} {P : Pst9} {V : Sav} (hs : Scn A S) (h : RI B T ρ P V (pbM A N)) (hB : B < 990000) {x : Int32} : Wp (d + 10) 122 [.ref (A + 1), .int x] (S, N, J) (fun rs w' => ∃ N', w' = (S, N', J) ∧ Frm A N N' ∧ ((¬ (aSave ρ x).1 = 0 → RI B T ρ P V (pbM A N')) ∧ ((aSave ρ x).1 = 0 → RI B T ρ P (keep V x.toNatClampNeg ρ) (pbM A N'))) ∧ rs = .inl (some (.long (eL (fun c => 2) (aSave ρ x))))) := by
  refine ⟨rfl, ?_⟩
  refine EE.runN (stop := noStop) 40 _ ?_
  refine ⟨⟨Nat.le_of_ble_eq_true rfl, Nat.le_of_ble_eq_true rfl, Nat.le_of_ble_eq_true rfl⟩, hs.k1, _, Y_save hs h hB, ?_⟩
  rintro rs_ w1 ⟨N1, rfl, hF, hP, hr⟩
  have cd : (aSave ρ x).1 = 1 ∨ (aSave ρ x).1 = 0 := cod_save
  rcases cd with hc | hc
  · have hr1 : rs_ = .inr (excN 2) := hr.trans (rs_t hc (by decide))
    subst hr1
    refine aft_x (show hnT 122 2 (excN 2) = some 7 by decide +kernel) rfl (lne1 hs.2 rfl) ?_
    exact ⟨⟨Nat.le_of_ble_eq_true rfl, Nat.le_of_ble_eq_true rfl⟩, N1, rfl, hF, hP, congrArg (fun z => Sum.inl (some (Value.long z))) (eL_t (E := fun c => 2) hc (by decide)).symm⟩
  · have hr0 : rs_ = .inl (some (.int (aSave ρ x).2)) := hr.trans (rs_0 hc)
    subst hr0
    refine ⟨Or.inl rfl, ?_⟩
    exact ⟨⟨Nat.le_of_ble_eq_true rfl, Nat.le_of_ble_eq_true rfl⟩, N1, rfl, hF, hP, congrArg (fun z => Sum.inl (some (Value.long z))) (eL_0 hc).symm⟩
set_option maxHeartbeats 1000000 in
theorem X_restore {A d : Nat} {S : Sc} {N : Nat → Nat → Int32} {J : Nat → Nat → Int64} {B : Nat} {T : Tx} {ρ : Rw} {P : Pst9} {V : Sav} (hs : Scn A S) (h : RI B T ρ P V (pbM A N)) (hB : B < 990000) {x : Int32} : Wp (d + 10) 123 [.ref (A + 1), .int x] (S, N, J) (fun rs w' => ∃ N', w' = (S, N', J) ∧ Frm A N N' ∧ ((¬ (aRs V x).1 = 0 → RI B T ρ P V (pbM A N')) ∧ ((aRs V x).1 = 0 → RI B T (V.2 x.toNatClampNeg) (0, P.2) V (pbM A N'))) ∧ rs = .inl (some (.long (eL (fun c => if c = 1 then 2 else 1) (aRs V x))))) := by
  refine ⟨rfl, ?_⟩
  refine EE.runN (stop := noStop) 40 _ ?_
  refine ⟨⟨Nat.le_of_ble_eq_true rfl, Nat.le_of_ble_eq_true rfl, Nat.le_of_ble_eq_true rfl⟩, hs.k1, _, Y_restore hs h hB, ?_⟩
  rintro rs_ w1 ⟨N1, rfl, hF, hP, hr⟩
  have cd : (aRs V x).1 = 1 ∨ (aRs V x).1 = 2 ∨ (aRs V x).1 = 0 := cod_rs
  rcases cd with hc | hc | hc
  · have hr1 : rs_ = .inr (excN 2) := hr.trans (rs_t hc (by decide))
    subst hr1
    refine aft_x (show hnT 123 2 (excN 2) = some 7 by decide +kernel) rfl (lne1 hs.2 rfl) ?_
    exact ⟨⟨Nat.le_of_ble_eq_true rfl, Nat.le_of_ble_eq_true rfl⟩, N1, rfl, hF, hP, congrArg (fun z => Sum.inl (some (Value.long z))) (eL_t (E := fun c => if c = 1 then 2 else 1) hc (by decide)).symm⟩
  · have hr1 : rs_ = .inr (excN 1) := hr.trans (rs_t hc (by decide))
    subst hr1
    refine aft_x (show hnT 123 2 (excN 1) = some 12 by decide +kernel) rfl (lne1 hs.2 rfl) ?_
    exact ⟨⟨Nat.le_of_ble_eq_true rfl, Nat.le_of_ble_eq_true rfl⟩, N1, rfl, hF, hP, congrArg (fun z => Sum.inl (some (Value.long z))) (eL_t (E := fun c => if c = 1 then 2 else 1) hc (by decide)).symm⟩
  · have hr0 : rs_ = .inl (some (.int (aRs V x).2)) := hr.trans (rs_0 hc)
    subst hr0
    refine ⟨Or.inl rfl, ?_⟩
    exact ⟨⟨Nat.le_of_ble_eq_true rfl, Nat.le_of_ble_eq_true rfl⟩, N1, rfl, hF, hP, congrArg (fun z => Sum.inl (some (Value.long z))) (eL_0 hc).symm⟩
set_option maxHeartbeats 1000000 in
theorem X_append {A d : Nat} {S : Sc} {N : Nat → Nat → Int32} {J : Nat → Nat → Int64} {B : Nat} {T : Tx} {ρ : Rw} {P : Pst9} {V : Sav} (hs : Scn A S) (h : RI B T ρ P V (pbM A N)) (hB : B < 990000) {x : Int32} : Wp (d + 9) 99 [.ref (A + 1), .int x] (S, N, J) (fun rs w' => ∃ N', w' = (S, N', J) ∧ Frm A N N' ∧ ((¬ (aApp T.1 x).1 = 0 → RI B T ρ P V (pbM A N')) ∧ ((aApp T.1 x).1 = 0 → RI B (typ9 T x) ρ P V (pbM A N'))) ∧ rs = .inl (some (.long (eL (fun c => if c = 1 then 0 else 1) (aApp T.1 x))))) := by
  refine ⟨rfl, ?_⟩
  refine EE.runN (stop := noStop) 40 _ ?_
  refine ⟨⟨Nat.le_of_ble_eq_true rfl, Nat.le_of_ble_eq_true rfl, Nat.le_of_ble_eq_true rfl⟩, hs.k1, _, Y_append hs h hB, ?_⟩
  rintro rs_ w1 ⟨N1, rfl, hF, hP, hr⟩
  have cd : (aApp T.1 x).1 = 1 ∨ (aApp T.1 x).1 = 2 ∨ (aApp T.1 x).1 = 0 := cod_append
  rcases cd with hc | hc | hc
  · have hr1 : rs_ = .inr (excN 0) := hr.trans (rs_t hc (by decide))
    subst hr1
    refine aft_x (show hnT 99 2 (excN 0) = some 7 by decide +kernel) rfl (lne1 hs.2 rfl) ?_
    exact ⟨⟨Nat.le_of_ble_eq_true rfl, Nat.le_of_ble_eq_true rfl⟩, N1, rfl, hF, hP, congrArg (fun z => Sum.inl (some (Value.long z))) (eL_t (E := fun c => if c = 1 then 0 else 1) hc (by decide)).symm⟩
  · have hr1 : rs_ = .inr (excN 1) := hr.trans (rs_t hc (by decide))
    subst hr1
    refine aft_x (show hnT 99 2 (excN 1) = some 12 by decide +kernel) rfl (lne1 hs.2 rfl) ?_
    exact ⟨⟨Nat.le_of_ble_eq_true rfl, Nat.le_of_ble_eq_true rfl⟩, N1, rfl, hF, hP, congrArg (fun z => Sum.inl (some (Value.long z))) (eL_t (E := fun c => if c = 1 then 0 else 1) hc (by decide)).symm⟩
  · have hr0 : rs_ = .inl (some (.int (aApp T.1 x).2)) := hr.trans (rs_0 hc)
    subst hr0
    refine ⟨Or.inl rfl, ?_⟩
    exact ⟨⟨Nat.le_of_ble_eq_true rfl, Nat.le_of_ble_eq_true rfl⟩, N1, rfl, hF, hP, congrArg (fun z => Sum.inl (some (Value.long z))) (eL_0 hc).symm⟩
set_option maxHeartbeats 1000000 in
theorem X_load {A d : Nat} {S : Sc} {N : Nat → Nat → Int32} {J : Nat → Nat → Int64} {B : Nat} {T : Tx} {ρ : Rw} {P : Pst9} {V : Sav} (hs : Scn A S) (h : RI B T ρ P V (pbM A N)) (hB : B < 990000) (hg : (mEnd T.1 T.2).1 = true) {B' : Nat} (hI' : I2 B' (ldR T).1) : Wp (d + 10) 100 [.ref (A + 1)] (S, N, J) (fun rs w' => ∃ N', w' = (S, N', J) ∧ Frm A N N' ∧ RI B' T (ldR T).1 (0, P.2) (fun _ => false, V.2) (pbM A N') ∧ rs = .inl (some (.long (ldR T).2.toInt64))) := by
  refine ⟨rfl, ?_⟩
  refine EE.runN (stop := noStop) 40 _ ?_
  refine ⟨⟨Nat.le_of_ble_eq_true rfl, Nat.le_of_ble_eq_true rfl, Nat.le_of_ble_eq_true rfl⟩, hs.k1, _, Y_load hs h hB hg hI', ?_⟩
  rintro rs_ w1 ⟨N1, rfl, hF, hP, rfl⟩
  refine ⟨Or.inl rfl, ?_⟩
  exact ⟨⟨Nat.le_of_ble_eq_true rfl, Nat.le_of_ble_eq_true rfl⟩, N1, rfl, hF, hP, rfl⟩
