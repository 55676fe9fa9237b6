/-! THE LAW: its helpers: written by wip/whole/pure3.py -/
theorem aft_x {hn : Nat → String → Option Nat} {nx pc : Nat} {ls : List (Nat × Value)} {r : List Value} {w : Wd} {nc ns : Nat} {X : Fr → Prop} {E : String} {w' : Wd} {h : Nat} (e : hn pc E = some h) (h1 : w'.1.1 = w.1.1) (h2 : ∀ q ∈ ls, q.2 ≠ .ref 1000000) (hX : X (h, ls, [.ref 1000000], w', nc, ns)) : aftC hn nx pc ls r w nc ns X (.inr E) w' := by
  unfold aftC
  refine ⟨Or.inl h1, ?_⟩
  dsimp only
  rw [e]
  exact ⟨h2, hX⟩
theorem rs_t {E : Nat → Nat} {a : Nat × Int32} {c : Nat} (hc : a.1 = c) (h : c ≠ 0) : cRs E a = .inr (excN (E c)) := by
  unfold cRs
  rw [if_neg (by rw [hc]; exact h), hc]
theorem rs_0 {E : Nat → Nat} {a : Nat × Int32} (hc : a.1 = 0) : cRs E a = .inl (some (.int a.2)) := by
  unfold cRs
  rw [if_pos hc]
theorem cod_append {n : Nat} {x : Int32} : (aApp n x).1 = 1 ∨ (aApp n x).1 = 2 ∨ (aApp n x).1 = 0 := by
  unfold aApp
  (repeat' split) <;> first | exact Or.inl rfl | exact Or.inr (Or.inl rfl) | exact Or.inr (Or.inr rfl)
set_option maxHeartbeats 1000000 in
theorem H_append {d : Nat} {S : Sc} {M : Nat → Nat → Int32} {J : Nat → Nat → Int64} {BB : Nat} (hR : RgS S) (hI : I2 BB (vO M 4)) (hBB : BB < 1000000) {x : Int32} {m : Nat} {τ : Nat → Nat} (hT : TxC M m τ) (hL : S.2.1 144 = 10 ∧ S.2.2.1 144 = 1) : Wp (d + 10) 170 [.ref 1, .int x, .ref 144] (S, M, J) (fun rs w' => ∃ M' J', rs = .inl (some (.int (nI (aApp m x).1))) ∧ w' = (S, M', J') ∧ ((¬ (aApp m x).1 = 0 → M' = M) ∧ ((aApp m x).1 = 0 → M' = upA (upA M 3 (upd (M 3) m x)) 2 (upd (M 2) 0 (nI (m + 1))))) ∧ ((aApp m x).1 = 0 → J' 144 0 = (aApp m x).2.toInt64)) := by
  obtain ⟨hSt, hO, hOt, ⟨b1, r10, r11, r12, r13, r14⟩, ⟨b18, r182⟩, hH, hV⟩ := id hR
  have k0 : S.2.1 4 = 2 := hO.1.1
  have k1 : S.2.1 5 = 0 := hO.1.2.1
  have k4 : S.2.1 8 = 3 := hO.1.2.2.2.2.1
  have q0 : S.2.2.2 4 0 = 5 := hO.2.1.1
  have q1 : S.2.2.2 4 1 = 8 := hO.2.1.2.1
  have kt : S.2.1 11 = 2 := hOt.1.1
  have kst : S.2.1 2 = 5 := hSt.1
  have k120 : S.2.1 120 = 4 := hV.1
  refine ⟨rfl, ?_⟩
  refine EE.runN (stop := noStop) 40 _ ?_
  refine ⟨⟨Nat.le_of_ble_eq_true rfl, Nat.le_of_ble_eq_true rfl, Nat.le_of_ble_eq_true rfl⟩, by simp only [wI_M, wI_1, wI_w, b1, r10, r11, r12, r13, r14, b18, r182, k0, k1, k4, q0, q1, kt, kst, k120, hL.1, hL.2] <;> first | rfl | decide, _, C_append hR hI hBB hT, ?_⟩
  rintro rs_ w1 ⟨M1, hw, hJ0, hJ1, hr⟩
  subst hw
  have cd : (aApp m x).1 = 1 ∨ (aApp m x).1 = 2 ∨ (aApp m x).1 = 0 := cod_append
  rcases cd with hc | hc | hc
  · have hr1 : rs_ = .inr (excN 0) := hr.trans (rs_t hc (by decide))
    subst hr1
    refine aft_x (show hnT 170 4 (excN 0) = some 12 by decide +kernel) rfl (of_decide_eq_true rfl) ?_
    refine ⟨⟨Nat.le_of_ble_eq_true rfl, Nat.le_of_ble_eq_true rfl⟩, M1, J, ?_, rfl, ⟨hJ0, hJ1⟩, fun h_ => absurd (hc.symm.trans h_) (by decide)⟩
    rw [hc]; rfl
  · have hr1 : rs_ = .inr (excN 1) := hr.trans (rs_t hc (by decide))
    subst hr1
    refine aft_x (show hnT 170 4 (excN 1) = some 15 by decide +kernel) rfl (of_decide_eq_true rfl) ?_
    refine ⟨⟨Nat.le_of_ble_eq_true rfl, Nat.le_of_ble_eq_true rfl⟩, M1, J, ?_, rfl, ⟨hJ0, hJ1⟩, fun h_ => absurd (hc.symm.trans h_) (by decide)⟩
    rw [hc]; rfl
  have hr0 : rs_ = .inl (some (.int (aApp m x).2)) := hr.trans (rs_0 hc)
  subst hr0
  refine ⟨Or.inl rfl, ?_⟩
  refine ⟨by simp only [wI_M, wI_1, wI_w, b1, r10, r11, r12, r13, r14, b18, r182, k0, k1, k4, q0, q1, kt, kst, k120, hL.1, hL.2] <;> first | rfl | decide, (by simp only [hL.2]; exact vp_in_nI (show 0 < 1 by omega) (by omega)), ?_⟩
  refine ⟨⟨Nat.le_of_ble_eq_true rfl, Nat.le_of_ble_eq_true rfl⟩, M1, _, ?_, rfl, ⟨hJ0, hJ1⟩, fun _ => rfl⟩
  rw [hc]; rfl
theorem cod_about {ρ : Rw} {n : Nat} {x : Int32} : (aAbout ρ n x).1 = 1 ∨ (aAbout ρ n x).1 = 0 := by
  unfold aAbout
  (repeat' split) <;> first | exact Or.inl rfl | exact Or.inr rfl
set_option maxHeartbeats 1000000 in
theorem H_about {d : Nat} {S : Sc} {M : Nat → Nat → Int32} {J : Nat → Nat → Int64} {BB : Nat} (hR : RgS S) (hI : I2 BB (vO M 4)) {x : Int32} (hL : S.2.1 144 = 10 ∧ S.2.2.1 144 = 1) : Wp (d + 10) 172 [.ref 1, .int x, .ref 144] (S, M, J) (fun rs w' => ∃ M' J', rs = .inl (some (.int (nI (aAbout (vO M 4) (vO M 4 0).toNatClampNeg x).1))) ∧ w' = (S, M', J') ∧ (Jk M M') ∧ ((aAbout (vO M 4) (vO M 4 0).toNatClampNeg x).1 = 0 → J' 144 0 = (aAbout (vO M 4) (vO M 4 0).toNatClampNeg x).2.toInt64)) := by
  obtain ⟨hSt, hO, hOt, ⟨b1, r10, r11, r12, r13, r14⟩, ⟨b18, r182⟩, hH, hV⟩ := id hR
  have k0 : S.2.1 4 = 2 := hO.1.1
  have k1 : S.2.1 5 = 0 := hO.1.2.1
  have k4 : S.2.1 8 = 3 := hO.1.2.2.2.2.1
  have q0 : S.2.2.2 4 0 = 5 := hO.2.1.1
  have q1 : S.2.2.2 4 1 = 8 := hO.2.1.2.1
  have kt : S.2.1 11 = 2 := hOt.1.1
  have kst : S.2.1 2 = 5 := hSt.1
  have k120 : S.2.1 120 = 4 := hV.1
  refine ⟨rfl, ?_⟩
  refine EE.runN (stop := noStop) 40 _ ?_
  refine ⟨⟨Nat.le_of_ble_eq_true rfl, Nat.le_of_ble_eq_true rfl, Nat.le_of_ble_eq_true rfl⟩, by simp only [wI_M, wI_1, wI_w, b1, r10, r11, r12, r13, r14, b18, r182, k0, k1, k4, q0, q1, kt, kst, k120, hL.1, hL.2] <;> first | rfl | decide, _, C_about hR hI, ?_⟩
  rintro rs_ w1 ⟨M1, hw, hJ, hr⟩
  subst hw
  have cd : (aAbout (vO M 4) (vO M 4 0).toNatClampNeg x).1 = 1 ∨ (aAbout (vO M 4) (vO M 4 0).toNatClampNeg x).1 = 0 := cod_about
  rcases cd with hc | hc
  · have hr1 : rs_ = .inr (excN 0) := hr.trans (rs_t hc (by decide))
    subst hr1
    refine aft_x (show hnT 172 4 (excN 0) = some 12 by decide +kernel) rfl (of_decide_eq_true rfl) ?_
    refine ⟨⟨Nat.le_of_ble_eq_true rfl, Nat.le_of_ble_eq_true rfl⟩, M1, J, ?_, rfl, hJ, fun h_ => absurd (hc.symm.trans h_) (by decide)⟩
    rw [hc]; rfl
  have hr0 : rs_ = .inl (some (.int (aAbout (vO M 4) (vO M 4 0).toNatClampNeg x).2)) := hr.trans (rs_0 hc)
  subst hr0
  refine ⟨Or.inl rfl, ?_⟩
  refine ⟨by simp only [wI_M, wI_1, wI_w, b1, r10, r11, r12, r13, r14, b18, r182, k0, k1, k4, q0, q1, kt, kst, k120, hL.1, hL.2] <;> first | rfl | decide, (by simp only [hL.2]; exact vp_in_nI (show 0 < 1 by omega) (by omega)), ?_⟩
  refine ⟨⟨Nat.le_of_ble_eq_true rfl, Nat.le_of_ble_eq_true rfl⟩, M1, _, ?_, rfl, hJ, fun _ => rfl⟩
  rw [hc]; rfl
theorem cod_cell {ρ : Rw} {n : Nat} {x i z : Int32} : (aCell ρ n x i z).1 = 1 ∨ (aCell ρ n x i z).1 = 2 ∨ (aCell ρ n x i z).1 = 0 := by
  unfold aCell
  (repeat' split) <;> first | exact Or.inl rfl | exact Or.inr (Or.inl rfl) | exact Or.inr (Or.inr rfl)
set_option maxHeartbeats 1000000 in
theorem H_cell {d : Nat} {S : Sc} {M : Nat → Nat → Int32} {J : Nat → Nat → Int64} {BB : Nat} (hR : RgS S) (hI : I2 BB (vO M 4)) {x i z : Int32} (hL : S.2.1 144 = 10 ∧ S.2.2.1 144 = 1) : Wp (d + 10) 173 [.ref 1, .int x, .int i, .int z, .ref 144] (S, M, J) (fun rs w' => ∃ M' J', rs = .inl (some (.int (nI (aCell (vO M 4) (vO M 4 0).toNatClampNeg x i z).1))) ∧ w' = (S, M', J') ∧ (Jk M M') ∧ ((aCell (vO M 4) (vO M 4 0).toNatClampNeg x i z).1 = 0 → J' 144 0 = (aCell (vO M 4) (vO M 4 0).toNatClampNeg x i z).2.toInt64)) := by
  obtain ⟨hSt, hO, hOt, ⟨b1, r10, r11, r12, r13, r14⟩, ⟨b18, r182⟩, hH, hV⟩ := id hR
  have k0 : S.2.1 4 = 2 := hO.1.1
  have k1 : S.2.1 5 = 0 := hO.1.2.1
  have k4 : S.2.1 8 = 3 := hO.1.2.2.2.2.1
  have q0 : S.2.2.2 4 0 = 5 := hO.2.1.1
  have q1 : S.2.2.2 4 1 = 8 := hO.2.1.2.1
  have kt : S.2.1 11 = 2 := hOt.1.1
  have kst : S.2.1 2 = 5 := hSt.1
  have k120 : S.2.1 120 = 4 := hV.1
  refine ⟨rfl, ?_⟩
  refine EE.runN (stop := noStop) 40 _ ?_
  refine ⟨⟨Nat.le_of_ble_eq_true rfl, Nat.le_of_ble_eq_true rfl, Nat.le_of_ble_eq_true rfl⟩, by simp only [wI_M, wI_1, wI_w, b1, r10, r11, r12, r13, r14, b18, r182, k0, k1, k4, q0, q1, kt, kst, k120, hL.1, hL.2] <;> first | rfl | decide, _, C_cell hR hI, ?_⟩
  rintro rs_ w1 ⟨M1, hw, hJ, hr⟩
  subst hw
  have cd : (aCell (vO M 4) (vO M 4 0).toNatClampNeg x i z).1 = 1 ∨ (aCell (vO M 4) (vO M 4 0).toNatClampNeg x i z).1 = 2 ∨ (aCell (vO M 4) (vO M 4 0).toNatClampNeg x i z).1 = 0 := cod_cell
  rcases cd with hc | hc | hc
  · have hr1 : rs_ = .inr (excN 2) := hr.trans (rs_t hc (by decide))
    subst hr1
    refine aft_x (show hnT 173 7 (excN 2) = some 15 by decide +kernel) rfl (of_decide_eq_true rfl) ?_
    refine ⟨⟨Nat.le_of_ble_eq_true rfl, Nat.le_of_ble_eq_true rfl⟩, M1, J, ?_, rfl, hJ, fun h_ => absurd (hc.symm.trans h_) (by decide)⟩
    rw [hc]; rfl
  · have hr1 : rs_ = .inr (excN 0) := hr.trans (rs_t hc (by decide))
    subst hr1
    refine aft_x (show hnT 173 7 (excN 0) = some 19 by decide +kernel) rfl (of_decide_eq_true rfl) ?_
    refine ⟨⟨Nat.le_of_ble_eq_true rfl, Nat.le_of_ble_eq_true rfl⟩, M1, J, ?_, rfl, hJ, fun h_ => absurd (hc.symm.trans h_) (by decide)⟩
    rw [hc]; rfl
  have hr0 : rs_ = .inl (some (.int (aCell (vO M 4) (vO M 4 0).toNatClampNeg x i z).2)) := hr.trans (rs_0 hc)
  subst hr0
  refine ⟨Or.inl rfl, ?_⟩
  refine ⟨by simp only [wI_M, wI_1, wI_w, b1, r10, r11, r12, r13, r14, b18, r182, k0, k1, k4, q0, q1, kt, kst, k120, hL.1, hL.2] <;> first | rfl | decide, (by simp only [hL.2]; exact vp_in_nI (show 0 < 1 by omega) (by omega)), ?_⟩
  refine ⟨⟨Nat.le_of_ble_eq_true rfl, Nat.le_of_ble_eq_true rfl⟩, M1, _, ?_, rfl, hJ, fun _ => rfl⟩
  rw [hc]; rfl
theorem cod_says {ρ : Rw} {n : Nat} {x : Int32} : (aSays ρ n x).1 = 1 ∨ (aSays ρ n x).1 = 0 := by
  unfold aSays
  (repeat' split) <;> first | exact Or.inl rfl | exact Or.inr rfl
set_option maxHeartbeats 1000000 in
theorem H_says {d : Nat} {S : Sc} {M : Nat → Nat → Int32} {J : Nat → Nat → Int64} {BB : Nat} (hR : RgS S) (hI : I2 BB (vO M 4)) {x : Int32} (hL : S.2.1 144 = 10 ∧ S.2.2.1 144 = 1) : Wp (d + 10) 174 [.ref 1, .int x, .ref 144] (S, M, J) (fun rs w' => ∃ M' J', rs = .inl (some (.int (nI (aSays (vO M 4) (vO M 4 0).toNatClampNeg x).1))) ∧ w' = (S, M', J') ∧ (Jk M M') ∧ ((aSays (vO M 4) (vO M 4 0).toNatClampNeg x).1 = 0 → J' 144 0 = (aSays (vO M 4) (vO M 4 0).toNatClampNeg x).2.toInt64)) := by
  obtain ⟨hSt, hO, hOt, ⟨b1, r10, r11, r12, r13, r14⟩, ⟨b18, r182⟩, hH, hV⟩ := id hR
  have k0 : S.2.1 4 = 2 := hO.1.1
  have k1 : S.2.1 5 = 0 := hO.1.2.1
  have k4 : S.2.1 8 = 3 := hO.1.2.2.2.2.1
  have q0 : S.2.2.2 4 0 = 5 := hO.2.1.1
  have q1 : S.2.2.2 4 1 = 8 := hO.2.1.2.1
  have kt : S.2.1 11 = 2 := hOt.1.1
  have kst : S.2.1 2 = 5 := hSt.1
  have k120 : S.2.1 120 = 4 := hV.1
  refine ⟨rfl, ?_⟩
  refine EE.runN (stop := noStop) 40 _ ?_
  refine ⟨⟨Nat.le_of_ble_eq_true rfl, Nat.le_of_ble_eq_true rfl, Nat.le_of_ble_eq_true rfl⟩, by simp only [wI_M, wI_1, wI_w, b1, r10, r11, r12, r13, r14, b18, r182, k0, k1, k4, q0, q1, kt, kst, k120, hL.1, hL.2] <;> first | rfl | decide, _, C_says hR hI, ?_⟩
  rintro rs_ w1 ⟨M1, hw, hJ, hr⟩
  subst hw
  have cd : (aSays (vO M 4) (vO M 4 0).toNatClampNeg x).1 = 1 ∨ (aSays (vO M 4) (vO M 4 0).toNatClampNeg x).1 = 0 := cod_says
  rcases cd with hc | hc
  · have hr1 : rs_ = .inr (excN 2) := hr.trans (rs_t hc (by decide))
    subst hr1
    refine aft_x (show hnT 174 4 (excN 2) = some 12 by decide +kernel) rfl (of_decide_eq_true rfl) ?_
    refine ⟨⟨Nat.le_of_ble_eq_true rfl, Nat.le_of_ble_eq_true rfl⟩, M1, J, ?_, rfl, hJ, fun h_ => absurd (hc.symm.trans h_) (by decide)⟩
    rw [hc]; rfl
  have hr0 : rs_ = .inl (some (.int (aSays (vO M 4) (vO M 4 0).toNatClampNeg x).2)) := hr.trans (rs_0 hc)
  subst hr0
  refine ⟨Or.inl rfl, ?_⟩
  refine ⟨by simp only [wI_M, wI_1, wI_w, b1, r10, r11, r12, r13, r14, b18, r182, k0, k1, k4, q0, q1, kt, kst, k120, hL.1, hL.2] <;> first | rfl | decide, (by simp only [hL.2]; exact vp_in_nI (show 0 < 1 by omega) (by omega)), ?_⟩
  refine ⟨⟨Nat.le_of_ble_eq_true rfl, Nat.le_of_ble_eq_true rfl⟩, M1, _, ?_, rfl, hJ, fun _ => rfl⟩
  rw [hc]; rfl
theorem cod_why {ρ : Rw} {n : Nat} {x : Int32} : (aWhy ρ n x).1 = 1 ∨ (aWhy ρ n x).1 = 0 := by
  unfold aWhy
  (repeat' split) <;> first | exact Or.inl rfl | exact Or.inr rfl
set_option maxHeartbeats 1000000 in
theorem H_why {d : Nat} {S : Sc} {M : Nat → Nat → Int32} {J : Nat → Nat → Int64} {BB : Nat} (hR : RgS S) (hI : I2 BB (vO M 4)) {x : Int32} (hL : S.2.1 144 = 10 ∧ S.2.2.1 144 = 1) : Wp (d + 10) 175 [.ref 1, .int x, .ref 144] (S, M, J) (fun rs w' => ∃ M' J', rs = .inl (some (.int (nI (aWhy (vO M 4) (vO M 4 0).toNatClampNeg x).1))) ∧ w' = (S, M', J') ∧ (Jk M M') ∧ ((aWhy (vO M 4) (vO M 4 0).toNatClampNeg x).1 = 0 → J' 144 0 = (aWhy (vO M 4) (vO M 4 0).toNatClampNeg x).2.toInt64)) := by
  obtain ⟨hSt, hO, hOt, ⟨b1, r10, r11, r12, r13, r14⟩, ⟨b18, r182⟩, hH, hV⟩ := id hR
  have k0 : S.2.1 4 = 2 := hO.1.1
  have k1 : S.2.1 5 = 0 := hO.1.2.1
  have k4 : S.2.1 8 = 3 := hO.1.2.2.2.2.1
  have q0 : S.2.2.2 4 0 = 5 := hO.2.1.1
  have q1 : S.2.2.2 4 1 = 8 := hO.2.1.2.1
  have kt : S.2.1 11 = 2 := hOt.1.1
  have kst : S.2.1 2 = 5 := hSt.1
  have k120 : S.2.1 120 = 4 := hV.1
  refine ⟨rfl, ?_⟩
  refine EE.runN (stop := noStop) 40 _ ?_
  refine ⟨⟨Nat.le_of_ble_eq_true rfl, Nat.le_of_ble_eq_true rfl, Nat.le_of_ble_eq_true rfl⟩, by simp only [wI_M, wI_1, wI_w, b1, r10, r11, r12, r13, r14, b18, r182, k0, k1, k4, q0, q1, kt, kst, k120, hL.1, hL.2] <;> first | rfl | decide, _, C_why hR hI, ?_⟩
  rintro rs_ w1 ⟨M1, hw, hJ, hr⟩
  subst hw
  have cd : (aWhy (vO M 4) (vO M 4 0).toNatClampNeg x).1 = 1 ∨ (aWhy (vO M 4) (vO M 4 0).toNatClampNeg x).1 = 0 := cod_why
  rcases cd with hc | hc
  · have hr1 : rs_ = .inr (excN 2) := hr.trans (rs_t hc (by decide))
    subst hr1
    refine aft_x (show hnT 175 4 (excN 2) = some 12 by decide +kernel) rfl (of_decide_eq_true rfl) ?_
    refine ⟨⟨Nat.le_of_ble_eq_true rfl, Nat.le_of_ble_eq_true rfl⟩, M1, J, ?_, rfl, hJ, fun h_ => absurd (hc.symm.trans h_) (by decide)⟩
    rw [hc]; rfl
  have hr0 : rs_ = .inl (some (.int (aWhy (vO M 4) (vO M 4 0).toNatClampNeg x).2)) := hr.trans (rs_0 hc)
  subst hr0
  refine ⟨Or.inl rfl, ?_⟩
  refine ⟨by simp only [wI_M, wI_1, wI_w, b1, r10, r11, r12, r13, r14, b18, r182, k0, k1, k4, q0, q1, kt, kst, k120, hL.1, hL.2] <;> first | rfl | decide, (by simp only [hL.2]; exact vp_in_nI (show 0 < 1 by omega) (by omega)), ?_⟩
  refine ⟨⟨Nat.le_of_ble_eq_true rfl, Nat.le_of_ble_eq_true rfl⟩, M1, _, ?_, rfl, hJ, fun _ => rfl⟩
  rw [hc]; rfl
theorem cod_share {ρ : Rw} {n : Nat} {x : Int32} : (aShare ρ n x).1 = 1 ∨ (aShare ρ n x).1 = 0 := by
  unfold aShare
  (repeat' split) <;> first | exact Or.inl rfl | exact Or.inr rfl
set_option maxHeartbeats 1000000 in
theorem H_share {d : Nat} {S : Sc} {M : Nat → Nat → Int32} {J : Nat → Nat → Int64} {BB : Nat} (hR : RgS S) (hI : I2 BB (vO M 4)) {x : Int32} (hL : S.2.1 144 = 10 ∧ S.2.2.1 144 = 1) : Wp (d + 10) 176 [.ref 1, .int x, .ref 144] (S, M, J) (fun rs w' => ∃ M' J', rs = .inl (some (.int (nI (aShare (vO M 4) (vO M 4 0).toNatClampNeg x).1))) ∧ w' = (S, M', J') ∧ (Jk M M') ∧ ((aShare (vO M 4) (vO M 4 0).toNatClampNeg x).1 = 0 → J' 144 0 = (aShare (vO M 4) (vO M 4 0).toNatClampNeg x).2.toInt64)) := by
  obtain ⟨hSt, hO, hOt, ⟨b1, r10, r11, r12, r13, r14⟩, ⟨b18, r182⟩, hH, hV⟩ := id hR
  have k0 : S.2.1 4 = 2 := hO.1.1
  have k1 : S.2.1 5 = 0 := hO.1.2.1
  have k4 : S.2.1 8 = 3 := hO.1.2.2.2.2.1
  have q0 : S.2.2.2 4 0 = 5 := hO.2.1.1
  have q1 : S.2.2.2 4 1 = 8 := hO.2.1.2.1
  have kt : S.2.1 11 = 2 := hOt.1.1
  have kst : S.2.1 2 = 5 := hSt.1
  have k120 : S.2.1 120 = 4 := hV.1
  refine ⟨rfl, ?_⟩
  refine EE.runN (stop := noStop) 40 _ ?_
  refine ⟨⟨Nat.le_of_ble_eq_true rfl, Nat.le_of_ble_eq_true rfl, Nat.le_of_ble_eq_true rfl⟩, by simp only [wI_M, wI_1, wI_w, b1, r10, r11, r12, r13, r14, b18, r182, k0, k1, k4, q0, q1, kt, kst, k120, hL.1, hL.2] <;> first | rfl | decide, _, C_share hR hI, ?_⟩
  rintro rs_ w1 ⟨M1, hw, hJ, hr⟩
  subst hw
  have cd : (aShare (vO M 4) (vO M 4 0).toNatClampNeg x).1 = 1 ∨ (aShare (vO M 4) (vO M 4 0).toNatClampNeg x).1 = 0 := cod_share
  rcases cd with hc | hc
  · have hr1 : rs_ = .inr (excN 2) := hr.trans (rs_t hc (by decide))
    subst hr1
    refine aft_x (show hnT 176 4 (excN 2) = some 12 by decide +kernel) rfl (of_decide_eq_true rfl) ?_
    refine ⟨⟨Nat.le_of_ble_eq_true rfl, Nat.le_of_ble_eq_true rfl⟩, M1, J, ?_, rfl, hJ, fun h_ => absurd (hc.symm.trans h_) (by decide)⟩
    rw [hc]; rfl
  have hr0 : rs_ = .inl (some (.int (aShare (vO M 4) (vO M 4 0).toNatClampNeg x).2)) := hr.trans (rs_0 hc)
  subst hr0
  refine ⟨Or.inl rfl, ?_⟩
  refine ⟨by simp only [wI_M, wI_1, wI_w, b1, r10, r11, r12, r13, r14, b18, r182, k0, k1, k4, q0, q1, kt, kst, k120, hL.1, hL.2] <;> first | rfl | decide, (by simp only [hL.2]; exact vp_in_nI (show 0 < 1 by omega) (by omega)), ?_⟩
  refine ⟨⟨Nat.le_of_ble_eq_true rfl, Nat.le_of_ble_eq_true rfl⟩, M1, _, ?_, rfl, hJ, fun _ => rfl⟩
  rw [hc]; rfl
theorem cod_serviceAt {ρ : Rw} {x z : Int32} : (aServ ρ x z).1 = 1 ∨ (aServ ρ x z).1 = 0 := by
  unfold aServ
  (repeat' split) <;> first | exact Or.inl rfl | exact Or.inr rfl
set_option maxHeartbeats 1000000 in
theorem H_serviceAt {d : Nat} {S : Sc} {M : Nat → Nat → Int32} {J : Nat → Nat → Int64} {BB : Nat} (hR : RgS S) (hI : I2 BB (vO M 4)) {x z : Int32} (hL : S.2.1 144 = 10 ∧ S.2.2.1 144 = 1) : Wp (d + 10) 177 [.ref 1, .int x, .int z, .ref 144] (S, M, J) (fun rs w' => ∃ M' J', rs = .inl (some (.int (nI (aServ (vO M 4) x z).1))) ∧ w' = (S, M', J') ∧ (Jk M M') ∧ ((aServ (vO M 4) x z).1 = 0 → J' 144 0 = (aServ (vO M 4) x z).2.toInt64)) := by
  obtain ⟨hSt, hO, hOt, ⟨b1, r10, r11, r12, r13, r14⟩, ⟨b18, r182⟩, hH, hV⟩ := id hR
  have k0 : S.2.1 4 = 2 := hO.1.1
  have k1 : S.2.1 5 = 0 := hO.1.2.1
  have k4 : S.2.1 8 = 3 := hO.1.2.2.2.2.1
  have q0 : S.2.2.2 4 0 = 5 := hO.2.1.1
  have q1 : S.2.2.2 4 1 = 8 := hO.2.1.2.1
  have kt : S.2.1 11 = 2 := hOt.1.1
  have kst : S.2.1 2 = 5 := hSt.1
  have k120 : S.2.1 120 = 4 := hV.1
  refine ⟨rfl, ?_⟩
  refine EE.runN (stop := noStop) 40 _ ?_
  refine ⟨⟨Nat.le_of_ble_eq_true rfl, Nat.le_of_ble_eq_true rfl, Nat.le_of_ble_eq_true rfl⟩, by simp only [wI_M, wI_1, wI_w, b1, r10, r11, r12, r13, r14, b18, r182, k0, k1, k4, q0, q1, kt, kst, k120, hL.1, hL.2] <;> first | rfl | decide, _, C_serviceAt hR hI, ?_⟩
  rintro rs_ w1 ⟨M1, hw, hJ, hr⟩
  subst hw
  have cd : (aServ (vO M 4) x z).1 = 1 ∨ (aServ (vO M 4) x z).1 = 0 := cod_serviceAt
  rcases cd with hc | hc
  · have hr1 : rs_ = .inr (excN 0) := hr.trans (rs_t hc (by decide))
    subst hr1
    refine aft_x (show hnT 177 5 (excN 0) = some 13 by decide +kernel) rfl (of_decide_eq_true rfl) ?_
    refine ⟨⟨Nat.le_of_ble_eq_true rfl, Nat.le_of_ble_eq_true rfl⟩, M1, J, ?_, rfl, hJ, fun h_ => absurd (hc.symm.trans h_) (by decide)⟩
    rw [hc]; rfl
  have hr0 : rs_ = .inl (some (.int (aServ (vO M 4) x z).2)) := hr.trans (rs_0 hc)
  subst hr0
  refine ⟨Or.inl rfl, ?_⟩
  refine ⟨by simp only [wI_M, wI_1, wI_w, b1, r10, r11, r12, r13, r14, b18, r182, k0, k1, k4, q0, q1, kt, kst, k120, hL.1, hL.2] <;> first | rfl | decide, (by simp only [hL.2]; exact vp_in_nI (show 0 < 1 by omega) (by omega)), ?_⟩
  refine ⟨⟨Nat.le_of_ble_eq_true rfl, Nat.le_of_ble_eq_true rfl⟩, M1, _, ?_, rfl, hJ, fun _ => rfl⟩
  rw [hc]; rfl
theorem cod_lastCut {ρ : Rw} {x : Int32} : (aLast ρ x).1 = 1 ∨ (aLast ρ x).1 = 0 := by
  unfold aLast
  (repeat' split) <;> first | exact Or.inl rfl | exact Or.inr rfl
set_option maxHeartbeats 1000000 in
theorem H_lastCut {d : Nat} {S : Sc} {M : Nat → Nat → Int32} {J : Nat → Nat → Int64} {BB : Nat} (hR : RgS S) (hI : I2 BB (vO M 4)) {x : Int32} (hL : S.2.1 144 = 10 ∧ S.2.2.1 144 = 1) : Wp (d + 10) 178 [.ref 1, .int x, .ref 144] (S, M, J) (fun rs w' => ∃ M' J', rs = .inl (some (.int (nI (aLast (vO M 4) x).1))) ∧ w' = (S, M', J') ∧ (Jk M M') ∧ ((aLast (vO M 4) x).1 = 0 → J' 144 0 = (aLast (vO M 4) x).2.toInt64)) := by
  obtain ⟨hSt, hO, hOt, ⟨b1, r10, r11, r12, r13, r14⟩, ⟨b18, r182⟩, hH, hV⟩ := id hR
  have k0 : S.2.1 4 = 2 := hO.1.1
  have k1 : S.2.1 5 = 0 := hO.1.2.1
  have k4 : S.2.1 8 = 3 := hO.1.2.2.2.2.1
  have q0 : S.2.2.2 4 0 = 5 := hO.2.1.1
  have q1 : S.2.2.2 4 1 = 8 := hO.2.1.2.1
  have kt : S.2.1 11 = 2 := hOt.1.1
  have kst : S.2.1 2 = 5 := hSt.1
  have k120 : S.2.1 120 = 4 := hV.1
  refine ⟨rfl, ?_⟩
  refine EE.runN (stop := noStop) 40 _ ?_
  refine ⟨⟨Nat.le_of_ble_eq_true rfl, Nat.le_of_ble_eq_true rfl, Nat.le_of_ble_eq_true rfl⟩, by simp only [wI_M, wI_1, wI_w, b1, r10, r11, r12, r13, r14, b18, r182, k0, k1, k4, q0, q1, kt, kst, k120, hL.1, hL.2] <;> first | rfl | decide, _, C_lastCut hR hI, ?_⟩
  rintro rs_ w1 ⟨M1, hw, hJ, hr⟩
  subst hw
  have cd : (aLast (vO M 4) x).1 = 1 ∨ (aLast (vO M 4) x).1 = 0 := cod_lastCut
  rcases cd with hc | hc
  · have hr1 : rs_ = .inr (excN 0) := hr.trans (rs_t hc (by decide))
    subst hr1
    refine aft_x (show hnT 178 4 (excN 0) = some 12 by decide +kernel) rfl (of_decide_eq_true rfl) ?_
    refine ⟨⟨Nat.le_of_ble_eq_true rfl, Nat.le_of_ble_eq_true rfl⟩, M1, J, ?_, rfl, hJ, fun h_ => absurd (hc.symm.trans h_) (by decide)⟩
    rw [hc]; rfl
  have hr0 : rs_ = .inl (some (.int (aLast (vO M 4) x).2)) := hr.trans (rs_0 hc)
  subst hr0
  refine ⟨Or.inl rfl, ?_⟩
  refine ⟨by simp only [wI_M, wI_1, wI_w, b1, r10, r11, r12, r13, r14, b18, r182, k0, k1, k4, q0, q1, kt, kst, k120, hL.1, hL.2] <;> first | rfl | decide, (by simp only [hL.2]; exact vp_in_nI (show 0 < 1 by omega) (by omega)), ?_⟩
  refine ⟨⟨Nat.le_of_ble_eq_true rfl, Nat.le_of_ble_eq_true rfl⟩, M1, _, ?_, rfl, hJ, fun _ => rfl⟩
  rw [hc]; rfl
theorem cod_drive {ρ : Rw} {x : Int32} : (aDrive ρ x).1 = 1 ∨ (aDrive ρ x).1 = 2 ∨ (aDrive ρ x).1 = 0 := by
  unfold aDrive
  (repeat' split) <;> first | exact Or.inl rfl | exact Or.inr (Or.inl rfl) | exact Or.inr (Or.inr rfl)
set_option maxHeartbeats 1000000 in
theorem H_drive {d : Nat} {S : Sc} {M : Nat → Nat → Int32} {J : Nat → Nat → Int64} {BB : Nat} (hR : RgS S) (hI : I2 BB (vO M 4)) (hBB : BB < 1000000) {a y : Nat} (ha : a ≤ 14) (hy : y < 14) (h180 : M 18 0 = nI a) (h181 : M 18 1 = nI y) {x : Int32} (hL : S.2.1 144 = 10 ∧ S.2.2.1 144 = 1) : Wp (d + 10) 179 [.ref 1, .int x, .ref 144] (S, M, J) (fun rs w' => ∃ M' J', rs = .inl (some (.int (nI (aDrive (vO M 4) x).1))) ∧ w' = (S, M', J') ∧ ((¬ (aDrive (vO M 4) x).1 = 0 → M' = M) ∧ ((aDrive (vO M 4) x).1 = 0 → M' = sO (hRem M a y) 4 (rGo x.toNatClampNeg (vO M 4)))) ∧ ((aDrive (vO M 4) x).1 = 0 → J' 144 0 = (aDrive (vO M 4) x).2.toInt64)) := by
  obtain ⟨hSt, hO, hOt, ⟨b1, r10, r11, r12, r13, r14⟩, ⟨b18, r182⟩, hH, hV⟩ := id hR
  have k0 : S.2.1 4 = 2 := hO.1.1
  have k1 : S.2.1 5 = 0 := hO.1.2.1
  have k4 : S.2.1 8 = 3 := hO.1.2.2.2.2.1
  have q0 : S.2.2.2 4 0 = 5 := hO.2.1.1
  have q1 : S.2.2.2 4 1 = 8 := hO.2.1.2.1
  have kt : S.2.1 11 = 2 := hOt.1.1
  have kst : S.2.1 2 = 5 := hSt.1
  have k120 : S.2.1 120 = 4 := hV.1
  refine ⟨rfl, ?_⟩
  refine EE.runN (stop := noStop) 40 _ ?_
  refine ⟨⟨Nat.le_of_ble_eq_true rfl, Nat.le_of_ble_eq_true rfl, Nat.le_of_ble_eq_true rfl⟩, by simp only [wI_M, wI_1, wI_w, b1, r10, r11, r12, r13, r14, b18, r182, k0, k1, k4, q0, q1, kt, kst, k120, hL.1, hL.2] <;> first | rfl | decide, _, C_drive hR hI hBB ha hy h180 h181, ?_⟩
  rintro rs_ w1 ⟨M1, hw, hJ0, hJ1, hr⟩
  subst hw
  have cd : (aDrive (vO M 4) x).1 = 1 ∨ (aDrive (vO M 4) x).1 = 2 ∨ (aDrive (vO M 4) x).1 = 0 := cod_drive
  rcases cd with hc | hc | hc
  · have hr1 : rs_ = .inr (excN 0) := hr.trans (rs_t hc (by decide))
    subst hr1
    refine aft_x (show hnT 179 4 (excN 0) = some 12 by decide +kernel) rfl (of_decide_eq_true rfl) ?_
    refine ⟨⟨Nat.le_of_ble_eq_true rfl, Nat.le_of_ble_eq_true rfl⟩, M1, J, ?_, rfl, ⟨hJ0, hJ1⟩, fun h_ => absurd (hc.symm.trans h_) (by decide)⟩
    rw [hc]; rfl
  · have hr1 : rs_ = .inr (excN 1) := hr.trans (rs_t hc (by decide))
    subst hr1
    refine aft_x (show hnT 179 4 (excN 1) = some 15 by decide +kernel) rfl (of_decide_eq_true rfl) ?_
    refine ⟨⟨Nat.le_of_ble_eq_true rfl, Nat.le_of_ble_eq_true rfl⟩, M1, J, ?_, rfl, ⟨hJ0, hJ1⟩, fun h_ => absurd (hc.symm.trans h_) (by decide)⟩
    rw [hc]; rfl
  have hr0 : rs_ = .inl (some (.int (aDrive (vO M 4) x).2)) := hr.trans (rs_0 hc)
  subst hr0
  refine ⟨Or.inl rfl, ?_⟩
  refine ⟨by simp only [wI_M, wI_1, wI_w, b1, r10, r11, r12, r13, r14, b18, r182, k0, k1, k4, q0, q1, kt, kst, k120, hL.1, hL.2] <;> first | rfl | decide, (by simp only [hL.2]; exact vp_in_nI (show 0 < 1 by omega) (by omega)), ?_⟩
  refine ⟨⟨Nat.le_of_ble_eq_true rfl, Nat.le_of_ble_eq_true rfl⟩, M1, _, ?_, rfl, ⟨hJ0, hJ1⟩, fun _ => rfl⟩
  rw [hc]; rfl
theorem cod_cut {ρ : Rw} {x y : Int32} : (aCut ρ x y).1 = 1 ∨ (aCut ρ x y).1 = 2 ∨ (aCut ρ x y).1 = 0 := by
  unfold aCut
  (repeat' split) <;> first | exact Or.inl rfl | exact Or.inr (Or.inl rfl) | exact Or.inr (Or.inr rfl)
set_option maxHeartbeats 1000000 in
theorem H_cut {d : Nat} {S : Sc} {M : Nat → Nat → Int32} {J : Nat → Nat → Int64} {BB : Nat} (hR : RgS S) (hI : I2 BB (vO M 4)) (hBB : BB < 1000000) {a y : Nat} (ha : a ≤ 14) (hy : y < 14) (h180 : M 18 0 = nI a) (h181 : M 18 1 = nI y) {u v : Int32} (hL : S.2.1 144 = 10 ∧ S.2.2.1 144 = 1) : Wp (d + 10) 180 [.ref 1, .int u, .int v, .ref 144] (S, M, J) (fun rs w' => ∃ M' J', rs = .inl (some (.int (nI (aCut (vO M 4) u v).1))) ∧ w' = (S, M', J') ∧ ((¬ (aCut (vO M 4) u v).1 = 0 → M' = M) ∧ ((aCut (vO M 4) u v).1 = 0 → M' = sO (hRem M a y) 4 (upd (upd (vO M 4) 10 u) 11 v))) ∧ ((aCut (vO M 4) u v).1 = 0 → J' 144 0 = (aCut (vO M 4) u v).2.toInt64)) := by
  obtain ⟨hSt, hO, hOt, ⟨b1, r10, r11, r12, r13, r14⟩, ⟨b18, r182⟩, hH, hV⟩ := id hR
  have k0 : S.2.1 4 = 2 := hO.1.1
  have k1 : S.2.1 5 = 0 := hO.1.2.1
  have k4 : S.2.1 8 = 3 := hO.1.2.2.2.2.1
  have q0 : S.2.2.2 4 0 = 5 := hO.2.1.1
  have q1 : S.2.2.2 4 1 = 8 := hO.2.1.2.1
  have kt : S.2.1 11 = 2 := hOt.1.1
  have kst : S.2.1 2 = 5 := hSt.1
  have k120 : S.2.1 120 = 4 := hV.1
  refine ⟨rfl, ?_⟩
  refine EE.runN (stop := noStop) 40 _ ?_
  refine ⟨⟨Nat.le_of_ble_eq_true rfl, Nat.le_of_ble_eq_true rfl, Nat.le_of_ble_eq_true rfl⟩, by simp only [wI_M, wI_1, wI_w, b1, r10, r11, r12, r13, r14, b18, r182, k0, k1, k4, q0, q1, kt, kst, k120, hL.1, hL.2] <;> first | rfl | decide, _, C_cut hR hI hBB ha hy h180 h181, ?_⟩
  rintro rs_ w1 ⟨M1, hw, hJ0, hJ1, hr⟩
  subst hw
  have cd : (aCut (vO M 4) u v).1 = 1 ∨ (aCut (vO M 4) u v).1 = 2 ∨ (aCut (vO M 4) u v).1 = 0 := cod_cut
  rcases cd with hc | hc | hc
  · have hr1 : rs_ = .inr (excN 0) := hr.trans (rs_t hc (by decide))
    subst hr1
    refine aft_x (show hnT 180 5 (excN 0) = some 13 by decide +kernel) rfl (of_decide_eq_true rfl) ?_
    refine ⟨⟨Nat.le_of_ble_eq_true rfl, Nat.le_of_ble_eq_true rfl⟩, M1, J, ?_, rfl, ⟨hJ0, hJ1⟩, fun h_ => absurd (hc.symm.trans h_) (by decide)⟩
    rw [hc]; rfl
  · have hr1 : rs_ = .inr (excN 1) := hr.trans (rs_t hc (by decide))
    subst hr1
    refine aft_x (show hnT 180 5 (excN 1) = some 17 by decide +kernel) rfl (of_decide_eq_true rfl) ?_
    refine ⟨⟨Nat.le_of_ble_eq_true rfl, Nat.le_of_ble_eq_true rfl⟩, M1, J, ?_, rfl, ⟨hJ0, hJ1⟩, fun h_ => absurd (hc.symm.trans h_) (by decide)⟩
    rw [hc]; rfl
  have hr0 : rs_ = .inl (some (.int (aCut (vO M 4) u v).2)) := hr.trans (rs_0 hc)
  subst hr0
  refine ⟨Or.inl rfl, ?_⟩
  refine ⟨by simp only [wI_M, wI_1, wI_w, b1, r10, r11, r12, r13, r14, b18, r182, k0, k1, k4, q0, q1, kt, kst, k120, hL.1, hL.2] <;> first | rfl | decide, (by simp only [hL.2]; exact vp_in_nI (show 0 < 1 by omega) (by omega)), ?_⟩
  refine ⟨⟨Nat.le_of_ble_eq_true rfl, Nat.le_of_ble_eq_true rfl⟩, M1, _, ?_, rfl, ⟨hJ0, hJ1⟩, fun _ => rfl⟩
  rw [hc]; rfl
theorem cod_start {ρ : Rw}  : (aStart ρ).1 = 1 ∨ (aStart ρ).1 = 0 := by
  unfold aStart
  (repeat' split) <;> first | exact Or.inl rfl | exact Or.inr rfl
set_option maxHeartbeats 1000000 in
theorem H_start {d : Nat} {S : Sc} {M : Nat → Nat → Int32} {J : Nat → Nat → Int64} {BB : Nat} (hR : RgS S) (hI : I2 BB (vO M 4)) (hBB : BB < 1000000) {a y : Nat} (ha : a ≤ 14) (hy : y < 14) (h180 : M 18 0 = nI a) (h181 : M 18 1 = nI y) (hL : S.2.1 144 = 10 ∧ S.2.2.1 144 = 1) : Wp (d + 10) 181 [.ref 1, .ref 144] (S, M, J) (fun rs w' => ∃ M' J', rs = .inl (some (.int (nI (aStart (vO M 4)).1))) ∧ w' = (S, M', J') ∧ ((¬ (aStart (vO M 4)).1 = 0 → M' = M) ∧ ((aStart (vO M 4)).1 = 0 → M' = sO (hRem M a y) 4 (rPower (vO M 4)))) ∧ ((aStart (vO M 4)).1 = 0 → J' 144 0 = (aStart (vO M 4)).2.toInt64)) := by
  obtain ⟨hSt, hO, hOt, ⟨b1, r10, r11, r12, r13, r14⟩, ⟨b18, r182⟩, hH, hV⟩ := id hR
  have k0 : S.2.1 4 = 2 := hO.1.1
  have k1 : S.2.1 5 = 0 := hO.1.2.1
  have k4 : S.2.1 8 = 3 := hO.1.2.2.2.2.1
  have q0 : S.2.2.2 4 0 = 5 := hO.2.1.1
  have q1 : S.2.2.2 4 1 = 8 := hO.2.1.2.1
  have kt : S.2.1 11 = 2 := hOt.1.1
  have kst : S.2.1 2 = 5 := hSt.1
  have k120 : S.2.1 120 = 4 := hV.1
  refine ⟨rfl, ?_⟩
  refine EE.runN (stop := noStop) 40 _ ?_
  refine ⟨⟨Nat.le_of_ble_eq_true rfl, Nat.le_of_ble_eq_true rfl, Nat.le_of_ble_eq_true rfl⟩, by simp only [wI_M, wI_1, wI_w, b1, r10, r11, r12, r13, r14, b18, r182, k0, k1, k4, q0, q1, kt, kst, k120, hL.1, hL.2] <;> first | rfl | decide, _, C_start hR hI hBB ha hy h180 h181, ?_⟩
  rintro rs_ w1 ⟨M1, hw, hJ0, hJ1, hr⟩
  subst hw
  have cd : (aStart (vO M 4)).1 = 1 ∨ (aStart (vO M 4)).1 = 0 := cod_start
  rcases cd with hc | hc
  · have hr1 : rs_ = .inr (excN 1) := hr.trans (rs_t hc (by decide))
    subst hr1
    refine aft_x (show hnT 181 3 (excN 1) = some 11 by decide +kernel) rfl (of_decide_eq_true rfl) ?_
    refine ⟨⟨Nat.le_of_ble_eq_true rfl, Nat.le_of_ble_eq_true rfl⟩, M1, J, ?_, rfl, ⟨hJ0, hJ1⟩, fun h_ => absurd (hc.symm.trans h_) (by decide)⟩
    rw [hc]; rfl
  have hr0 : rs_ = .inl (some (.int (aStart (vO M 4)).2)) := hr.trans (rs_0 hc)
  subst hr0
  refine ⟨Or.inl rfl, ?_⟩
  refine ⟨by simp only [wI_M, wI_1, wI_w, b1, r10, r11, r12, r13, r14, b18, r182, k0, k1, k4, q0, q1, kt, kst, k120, hL.1, hL.2] <;> first | rfl | decide, (by simp only [hL.2]; exact vp_in_nI (show 0 < 1 by omega) (by omega)), ?_⟩
  refine ⟨⟨Nat.le_of_ble_eq_true rfl, Nat.le_of_ble_eq_true rfl⟩, M1, _, ?_, rfl, ⟨hJ0, hJ1⟩, fun _ => rfl⟩
  rw [hc]; rfl
theorem cod_service {ρ : Rw} {m : Nat} {x y : Int32} : (aService ρ m x y).1 = 1 ∨ (aService ρ m x y).1 = 2 ∨ (aService ρ m x y).1 = 0 := by
  unfold aService
  (repeat' split) <;> first | exact Or.inl rfl | exact Or.inr (Or.inl rfl) | exact Or.inr (Or.inr rfl)
set_option maxHeartbeats 1000000 in
theorem H_service {d : Nat} {S : Sc} {M : Nat → Nat → Int32} {J : Nat → Nat → Int64} {BB : Nat} (hR : RgS S) (hI : I2 BB (vO M 4)) (hBB : BB < 1000000) {a y : Nat} (ha : a ≤ 14) (hy : y < 14) (h180 : M 18 0 = nI a) (h181 : M 18 1 = nI y) {u v : Int32} (hL : S.2.1 144 = 10 ∧ S.2.2.1 144 = 1) : Wp (d + 10) 182 [.ref 1, .int u, .int v, .ref 144] (S, M, J) (fun rs w' => ∃ M' J', rs = .inl (some (.int (nI (aService (vO M 4) (vO M 4 17).toNatClampNeg u v).1))) ∧ w' = (S, M', J') ∧ ((¬ (aService (vO M 4) (vO M 4 17).toNatClampNeg u v).1 = 0 → M' = M) ∧ ((aService (vO M 4) (vO M 4 17).toNatClampNeg u v).1 = 0 → M' = sO (hRem M a y) 4 (rServe (vO M 4) (10 * u + v) (vO M 4 17).toNatClampNeg))) ∧ ((aService (vO M 4) (vO M 4 17).toNatClampNeg u v).1 = 0 → J' 144 0 = (aService (vO M 4) (vO M 4 17).toNatClampNeg u v).2.toInt64)) := by
  obtain ⟨hSt, hO, hOt, ⟨b1, r10, r11, r12, r13, r14⟩, ⟨b18, r182⟩, hH, hV⟩ := id hR
  have k0 : S.2.1 4 = 2 := hO.1.1
  have k1 : S.2.1 5 = 0 := hO.1.2.1
  have k4 : S.2.1 8 = 3 := hO.1.2.2.2.2.1
  have q0 : S.2.2.2 4 0 = 5 := hO.2.1.1
  have q1 : S.2.2.2 4 1 = 8 := hO.2.1.2.1
  have kt : S.2.1 11 = 2 := hOt.1.1
  have kst : S.2.1 2 = 5 := hSt.1
  have k120 : S.2.1 120 = 4 := hV.1
  refine ⟨rfl, ?_⟩
  refine EE.runN (stop := noStop) 40 _ ?_
  refine ⟨⟨Nat.le_of_ble_eq_true rfl, Nat.le_of_ble_eq_true rfl, Nat.le_of_ble_eq_true rfl⟩, by simp only [wI_M, wI_1, wI_w, b1, r10, r11, r12, r13, r14, b18, r182, k0, k1, k4, q0, q1, kt, kst, k120, hL.1, hL.2] <;> first | rfl | decide, _, C_service hR hI hBB ha hy h180 h181, ?_⟩
  rintro rs_ w1 ⟨M1, hw, hJ0, hJ1, hr⟩
  subst hw
  have cd : (aService (vO M 4) (vO M 4 17).toNatClampNeg u v).1 = 1 ∨ (aService (vO M 4) (vO M 4 17).toNatClampNeg u v).1 = 2 ∨ (aService (vO M 4) (vO M 4 17).toNatClampNeg u v).1 = 0 := cod_service
  rcases cd with hc | hc | hc
  · have hr1 : rs_ = .inr (excN 0) := hr.trans (rs_t hc (by decide))
    subst hr1
    refine aft_x (show hnT 182 5 (excN 0) = some 13 by decide +kernel) rfl (of_decide_eq_true rfl) ?_
    refine ⟨⟨Nat.le_of_ble_eq_true rfl, Nat.le_of_ble_eq_true rfl⟩, M1, J, ?_, rfl, ⟨hJ0, hJ1⟩, fun h_ => absurd (hc.symm.trans h_) (by decide)⟩
    rw [hc]; rfl
  · have hr1 : rs_ = .inr (excN 1) := hr.trans (rs_t hc (by decide))
    subst hr1
    refine aft_x (show hnT 182 5 (excN 1) = some 17 by decide +kernel) rfl (of_decide_eq_true rfl) ?_
    refine ⟨⟨Nat.le_of_ble_eq_true rfl, Nat.le_of_ble_eq_true rfl⟩, M1, J, ?_, rfl, ⟨hJ0, hJ1⟩, fun h_ => absurd (hc.symm.trans h_) (by decide)⟩
    rw [hc]; rfl
  have hr0 : rs_ = .inl (some (.int (aService (vO M 4) (vO M 4 17).toNatClampNeg u v).2)) := hr.trans (rs_0 hc)
  subst hr0
  refine ⟨Or.inl rfl, ?_⟩
  refine ⟨by simp only [wI_M, wI_1, wI_w, b1, r10, r11, r12, r13, r14, b18, r182, k0, k1, k4, q0, q1, kt, kst, k120, hL.1, hL.2] <;> first | rfl | decide, (by simp only [hL.2]; exact vp_in_nI (show 0 < 1 by omega) (by omega)), ?_⟩
  refine ⟨⟨Nat.le_of_ble_eq_true rfl, Nat.le_of_ble_eq_true rfl⟩, M1, _, ?_, rfl, ⟨hJ0, hJ1⟩, fun _ => rfl⟩
  rw [hc]; rfl
theorem cod_forget {ρ : Rw} {m : Nat} {x y : Int32} : (aForget ρ m x y).1 = 1 ∨ (aForget ρ m x y).1 = 2 ∨ (aForget ρ m x y).1 = 0 := by
  unfold aForget
  (repeat' split) <;> first | exact Or.inl rfl | exact Or.inr (Or.inl rfl) | exact Or.inr (Or.inr rfl)
set_option maxHeartbeats 1000000 in
theorem H_forget {d : Nat} {S : Sc} {M : Nat → Nat → Int32} {J : Nat → Nat → Int64} {BB : Nat} (hR : RgS S) (hI : I2 BB (vO M 4)) (hBB : BB < 1000000) {a y : Nat} (ha : a ≤ 14) (hy : y < 14) (h180 : M 18 0 = nI a) (h181 : M 18 1 = nI y) {u v : Int32} (hL : S.2.1 144 = 10 ∧ S.2.2.1 144 = 1) : Wp (d + 10) 183 [.ref 1, .int u, .int v, .ref 144] (S, M, J) (fun rs w' => ∃ M' J', rs = .inl (some (.int (nI (aForget (vO M 4) (vO M 4 17).toNatClampNeg u v).1))) ∧ w' = (S, M', J') ∧ ((¬ (aForget (vO M 4) (vO M 4 17).toNatClampNeg u v).1 = 0 → M' = M) ∧ ((aForget (vO M 4) (vO M 4 17).toNatClampNeg u v).1 = 0 → M' = sO (hRem M a y) 4 (rDrop (vO M 4) (rFnd (vO M 4) (10 * u + v) (vO M 4 17).toNatClampNeg).toNatClampNeg (vO M 4 17).toNatClampNeg))) ∧ ((aForget (vO M 4) (vO M 4 17).toNatClampNeg u v).1 = 0 → J' 144 0 = (aForget (vO M 4) (vO M 4 17).toNatClampNeg u v).2.toInt64)) := by
  obtain ⟨hSt, hO, hOt, ⟨b1, r10, r11, r12, r13, r14⟩, ⟨b18, r182⟩, hH, hV⟩ := id hR
  have k0 : S.2.1 4 = 2 := hO.1.1
  have k1 : S.2.1 5 = 0 := hO.1.2.1
  have k4 : S.2.1 8 = 3 := hO.1.2.2.2.2.1
  have q0 : S.2.2.2 4 0 = 5 := hO.2.1.1
  have q1 : S.2.2.2 4 1 = 8 := hO.2.1.2.1
  have kt : S.2.1 11 = 2 := hOt.1.1
  have kst : S.2.1 2 = 5 := hSt.1
  have k120 : S.2.1 120 = 4 := hV.1
  refine ⟨rfl, ?_⟩
  refine EE.runN (stop := noStop) 40 _ ?_
  refine ⟨⟨Nat.le_of_ble_eq_true rfl, Nat.le_of_ble_eq_true rfl, Nat.le_of_ble_eq_true rfl⟩, by simp only [wI_M, wI_1, wI_w, b1, r10, r11, r12, r13, r14, b18, r182, k0, k1, k4, q0, q1, kt, kst, k120, hL.1, hL.2] <;> first | rfl | decide, _, C_forget hR hI hBB ha hy h180 h181, ?_⟩
  rintro rs_ w1 ⟨M1, hw, hJ0, hJ1, hr⟩
  subst hw
  have cd : (aForget (vO M 4) (vO M 4 17).toNatClampNeg u v).1 = 1 ∨ (aForget (vO M 4) (vO M 4 17).toNatClampNeg u v).1 = 2 ∨ (aForget (vO M 4) (vO M 4 17).toNatClampNeg u v).1 = 0 := cod_forget
  rcases cd with hc | hc | hc
  · have hr1 : rs_ = .inr (excN 0) := hr.trans (rs_t hc (by decide))
    subst hr1
    refine aft_x (show hnT 183 5 (excN 0) = some 13 by decide +kernel) rfl (of_decide_eq_true rfl) ?_
    refine ⟨⟨Nat.le_of_ble_eq_true rfl, Nat.le_of_ble_eq_true rfl⟩, M1, J, ?_, rfl, ⟨hJ0, hJ1⟩, fun h_ => absurd (hc.symm.trans h_) (by decide)⟩
    rw [hc]; rfl
  · have hr1 : rs_ = .inr (excN 1) := hr.trans (rs_t hc (by decide))
    subst hr1
    refine aft_x (show hnT 183 5 (excN 1) = some 17 by decide +kernel) rfl (of_decide_eq_true rfl) ?_
    refine ⟨⟨Nat.le_of_ble_eq_true rfl, Nat.le_of_ble_eq_true rfl⟩, M1, J, ?_, rfl, ⟨hJ0, hJ1⟩, fun h_ => absurd (hc.symm.trans h_) (by decide)⟩
    rw [hc]; rfl
  have hr0 : rs_ = .inl (some (.int (aForget (vO M 4) (vO M 4 17).toNatClampNeg u v).2)) := hr.trans (rs_0 hc)
  subst hr0
  refine ⟨Or.inl rfl, ?_⟩
  refine ⟨by simp only [wI_M, wI_1, wI_w, b1, r10, r11, r12, r13, r14, b18, r182, k0, k1, k4, q0, q1, kt, kst, k120, hL.1, hL.2] <;> first | rfl | decide, (by simp only [hL.2]; exact vp_in_nI (show 0 < 1 by omega) (by omega)), ?_⟩
  refine ⟨⟨Nat.le_of_ble_eq_true rfl, Nat.le_of_ble_eq_true rfl⟩, M1, _, ?_, rfl, ⟨hJ0, hJ1⟩, fun _ => rfl⟩
  rw [hc]; rfl
theorem cod_setStep {ρ : Rw} {x : Int32} : (aStep ρ x).1 = 1 ∨ (aStep ρ x).1 = 0 := by
  unfold aStep
  (repeat' split) <;> first | exact Or.inl rfl | exact Or.inr rfl
set_option maxHeartbeats 1000000 in
theorem H_setStep {d : Nat} {S : Sc} {M : Nat → Nat → Int32} {J : Nat → Nat → Int64} {BB : Nat} (hR : RgS S) (hI : I2 BB (vO M 4)) (hBB : BB < 1000000) {a y : Nat} (ha : a ≤ 14) (hy : y < 14) (h180 : M 18 0 = nI a) (h181 : M 18 1 = nI y) {x : Int32} (hL : S.2.1 144 = 10 ∧ S.2.2.1 144 = 1) : Wp (d + 10) 184 [.ref 1, .int x, .ref 144] (S, M, J) (fun rs w' => ∃ M' J', rs = .inl (some (.int (nI (aStep (vO M 4) x).1))) ∧ w' = (S, M', J') ∧ ((¬ (aStep (vO M 4) x).1 = 0 → M' = M) ∧ ((aStep (vO M 4) x).1 = 0 → M' = sO (hRem M a y) 4 (upd (vO M 4) 1 x))) ∧ ((aStep (vO M 4) x).1 = 0 → J' 144 0 = (aStep (vO M 4) x).2.toInt64)) := by
  obtain ⟨hSt, hO, hOt, ⟨b1, r10, r11, r12, r13, r14⟩, ⟨b18, r182⟩, hH, hV⟩ := id hR
  have k0 : S.2.1 4 = 2 := hO.1.1
  have k1 : S.2.1 5 = 0 := hO.1.2.1
  have k4 : S.2.1 8 = 3 := hO.1.2.2.2.2.1
  have q0 : S.2.2.2 4 0 = 5 := hO.2.1.1
  have q1 : S.2.2.2 4 1 = 8 := hO.2.1.2.1
  have kt : S.2.1 11 = 2 := hOt.1.1
  have kst : S.2.1 2 = 5 := hSt.1
  have k120 : S.2.1 120 = 4 := hV.1
  refine ⟨rfl, ?_⟩
  refine EE.runN (stop := noStop) 40 _ ?_
  refine ⟨⟨Nat.le_of_ble_eq_true rfl, Nat.le_of_ble_eq_true rfl, Nat.le_of_ble_eq_true rfl⟩, by simp only [wI_M, wI_1, wI_w, b1, r10, r11, r12, r13, r14, b18, r182, k0, k1, k4, q0, q1, kt, kst, k120, hL.1, hL.2] <;> first | rfl | decide, _, C_setStep hR hI hBB ha hy h180 h181, ?_⟩
  rintro rs_ w1 ⟨M1, hw, hJ0, hJ1, hr⟩
  subst hw
  have cd : (aStep (vO M 4) x).1 = 1 ∨ (aStep (vO M 4) x).1 = 0 := cod_setStep
  rcases cd with hc | hc
  · have hr1 : rs_ = .inr (excN 0) := hr.trans (rs_t hc (by decide))
    subst hr1
    refine aft_x (show hnT 184 4 (excN 0) = some 12 by decide +kernel) rfl (of_decide_eq_true rfl) ?_
    refine ⟨⟨Nat.le_of_ble_eq_true rfl, Nat.le_of_ble_eq_true rfl⟩, M1, J, ?_, rfl, ⟨hJ0, hJ1⟩, fun h_ => absurd (hc.symm.trans h_) (by decide)⟩
    rw [hc]; rfl
  have hr0 : rs_ = .inl (some (.int (aStep (vO M 4) x).2)) := hr.trans (rs_0 hc)
  subst hr0
  refine ⟨Or.inl rfl, ?_⟩
  refine ⟨by simp only [wI_M, wI_1, wI_w, b1, r10, r11, r12, r13, r14, b18, r182, k0, k1, k4, q0, q1, kt, kst, k120, hL.1, hL.2] <;> first | rfl | decide, (by simp only [hL.2]; exact vp_in_nI (show 0 < 1 by omega) (by omega)), ?_⟩
  refine ⟨⟨Nat.le_of_ble_eq_true rfl, Nat.le_of_ble_eq_true rfl⟩, M1, _, ?_, rfl, ⟨hJ0, hJ1⟩, fun _ => rfl⟩
  rw [hc]; rfl
theorem cod_replace {ρ : Rw} {n : Nat} {x : Int32} : (aRepl ρ n x).1 = 1 ∨ (aRepl ρ n x).1 = 2 ∨ (aRepl ρ n x).1 = 0 := by
  unfold aRepl
  (repeat' split) <;> first | exact Or.inl rfl | exact Or.inr (Or.inl rfl) | exact Or.inr (Or.inr rfl)
set_option maxHeartbeats 1000000 in
theorem H_replace {d : Nat} {S : Sc} {M : Nat → Nat → Int32} {J : Nat → Nat → Int64} {BB : Nat} (hR : RgS S) (hI : I2 BB (vO M 4)) (hBB : BB < 1000000) {a y : Nat} (ha : a ≤ 14) (hy : y < 14) (h180 : M 18 0 = nI a) (h181 : M 18 1 = nI y) {x : Int32} (hL : S.2.1 144 = 10 ∧ S.2.2.1 144 = 1) : Wp (d + 10) 185 [.ref 1, .int x, .ref 144] (S, M, J) (fun rs w' => ∃ M' J', rs = .inl (some (.int (nI (aRepl (vO M 4) (vO M 4 0).toNatClampNeg x).1))) ∧ w' = (S, M', J') ∧ ((¬ (aRepl (vO M 4) (vO M 4 0).toNatClampNeg x).1 = 0 → M' = M) ∧ ((aRepl (vO M 4) (vO M 4 0).toNatClampNeg x).1 = 0 → M' = sO (hRem M a y) 4 (rRenew (vO M 4) x.toNatClampNeg))) ∧ ((aRepl (vO M 4) (vO M 4 0).toNatClampNeg x).1 = 0 → J' 144 0 = (aRepl (vO M 4) (vO M 4 0).toNatClampNeg x).2.toInt64)) := by
  obtain ⟨hSt, hO, hOt, ⟨b1, r10, r11, r12, r13, r14⟩, ⟨b18, r182⟩, hH, hV⟩ := id hR
  have k0 : S.2.1 4 = 2 := hO.1.1
  have k1 : S.2.1 5 = 0 := hO.1.2.1
  have k4 : S.2.1 8 = 3 := hO.1.2.2.2.2.1
  have q0 : S.2.2.2 4 0 = 5 := hO.2.1.1
  have q1 : S.2.2.2 4 1 = 8 := hO.2.1.2.1
  have kt : S.2.1 11 = 2 := hOt.1.1
  have kst : S.2.1 2 = 5 := hSt.1
  have k120 : S.2.1 120 = 4 := hV.1
  refine ⟨rfl, ?_⟩
  refine EE.runN (stop := noStop) 40 _ ?_
  refine ⟨⟨Nat.le_of_ble_eq_true rfl, Nat.le_of_ble_eq_true rfl, Nat.le_of_ble_eq_true rfl⟩, by simp only [wI_M, wI_1, wI_w, b1, r10, r11, r12, r13, r14, b18, r182, k0, k1, k4, q0, q1, kt, kst, k120, hL.1, hL.2] <;> first | rfl | decide, _, C_replace hR hI hBB ha hy h180 h181, ?_⟩
  rintro rs_ w1 ⟨M1, hw, hJ0, hJ1, hr⟩
  subst hw
  have cd : (aRepl (vO M 4) (vO M 4 0).toNatClampNeg x).1 = 1 ∨ (aRepl (vO M 4) (vO M 4 0).toNatClampNeg x).1 = 2 ∨ (aRepl (vO M 4) (vO M 4 0).toNatClampNeg x).1 = 0 := cod_replace
  rcases cd with hc | hc | hc
  · have hr1 : rs_ = .inr (excN 2) := hr.trans (rs_t hc (by decide))
    subst hr1
    refine aft_x (show hnT 185 4 (excN 2) = some 12 by decide +kernel) rfl (of_decide_eq_true rfl) ?_
    refine ⟨⟨Nat.le_of_ble_eq_true rfl, Nat.le_of_ble_eq_true rfl⟩, M1, J, ?_, rfl, ⟨hJ0, hJ1⟩, fun h_ => absurd (hc.symm.trans h_) (by decide)⟩
    rw [hc]; rfl
  · have hr1 : rs_ = .inr (excN 1) := hr.trans (rs_t hc (by decide))
    subst hr1
    refine aft_x (show hnT 185 4 (excN 1) = some 15 by decide +kernel) rfl (of_decide_eq_true rfl) ?_
    refine ⟨⟨Nat.le_of_ble_eq_true rfl, Nat.le_of_ble_eq_true rfl⟩, M1, J, ?_, rfl, ⟨hJ0, hJ1⟩, fun h_ => absurd (hc.symm.trans h_) (by decide)⟩
    rw [hc]; rfl
  have hr0 : rs_ = .inl (some (.int (aRepl (vO M 4) (vO M 4 0).toNatClampNeg x).2)) := hr.trans (rs_0 hc)
  subst hr0
  refine ⟨Or.inl rfl, ?_⟩
  refine ⟨by simp only [wI_M, wI_1, wI_w, b1, r10, r11, r12, r13, r14, b18, r182, k0, k1, k4, q0, q1, kt, kst, k120, hL.1, hL.2] <;> first | rfl | decide, (by simp only [hL.2]; exact vp_in_nI (show 0 < 1 by omega) (by omega)), ?_⟩
  refine ⟨⟨Nat.le_of_ble_eq_true rfl, Nat.le_of_ble_eq_true rfl⟩, M1, _, ?_, rfl, ⟨hJ0, hJ1⟩, fun _ => rfl⟩
  rw [hc]; rfl
theorem cod_undo {a : Nat} : (aUndo a).1 = 1 ∨ (aUndo a).1 = 0 := by
  unfold aUndo
  (repeat' split) <;> first | exact Or.inl rfl | exact Or.inr rfl
set_option maxHeartbeats 1000000 in
theorem H_undo {d : Nat} {S : Sc} {M : Nat → Nat → Int32} {J : Nat → Nat → Int64} {BB : Nat} (hR : RgS S) (hI : I2 BB (vO M 4)) (hBB : BB < 1000000) {a y : Nat} (ha : a ≤ 14) (hy : y < 14) (h180 : M 18 0 = nI a) (h181 : M 18 1 = nI y) (hU : 1 ≤ a → Bok (vO M (22 + 7 * ((y + 13) % 14)))) (hL : S.2.1 144 = 10 ∧ S.2.2.1 144 = 1) : Wp (d + 10) 186 [.ref 1, .ref 144] (S, M, J) (fun rs w' => ∃ M' J', rs = .inl (some (.int (nI (aUndo a).1))) ∧ w' = (S, M', J') ∧ ((¬ (aUndo a).1 = 0 → M' = M) ∧ ((aUndo a).1 = 0 → M' = hBack M a y)) ∧ ((aUndo a).1 = 0 → J' 144 0 = (aUndo a).2.toInt64)) := by
  obtain ⟨hSt, hO, hOt, ⟨b1, r10, r11, r12, r13, r14⟩, ⟨b18, r182⟩, hH, hV⟩ := id hR
  have k0 : S.2.1 4 = 2 := hO.1.1
  have k1 : S.2.1 5 = 0 := hO.1.2.1
  have k4 : S.2.1 8 = 3 := hO.1.2.2.2.2.1
  have q0 : S.2.2.2 4 0 = 5 := hO.2.1.1
  have q1 : S.2.2.2 4 1 = 8 := hO.2.1.2.1
  have kt : S.2.1 11 = 2 := hOt.1.1
  have kst : S.2.1 2 = 5 := hSt.1
  have k120 : S.2.1 120 = 4 := hV.1
  refine ⟨rfl, ?_⟩
  refine EE.runN (stop := noStop) 40 _ ?_
  refine ⟨⟨Nat.le_of_ble_eq_true rfl, Nat.le_of_ble_eq_true rfl, Nat.le_of_ble_eq_true rfl⟩, by simp only [wI_M, wI_1, wI_w, b1, r10, r11, r12, r13, r14, b18, r182, k0, k1, k4, q0, q1, kt, kst, k120, hL.1, hL.2] <;> first | rfl | decide, _, C_undo hR hI hBB ha hy h180 h181 hU, ?_⟩
  rintro rs_ w1 ⟨M1, hw, hJ0, hJ1, hr⟩
  subst hw
  have cd : (aUndo a).1 = 1 ∨ (aUndo a).1 = 0 := cod_undo
  rcases cd with hc | hc
  · have hr1 : rs_ = .inr (excN 1) := hr.trans (rs_t hc (by decide))
    subst hr1
    refine aft_x (show hnT 186 3 (excN 1) = some 11 by decide +kernel) rfl (of_decide_eq_true rfl) ?_
    refine ⟨⟨Nat.le_of_ble_eq_true rfl, Nat.le_of_ble_eq_true rfl⟩, M1, J, ?_, rfl, ⟨hJ0, hJ1⟩, fun h_ => absurd (hc.symm.trans h_) (by decide)⟩
    rw [hc]; rfl
  have hr0 : rs_ = .inl (some (.int (aUndo a).2)) := hr.trans (rs_0 hc)
  subst hr0
  refine ⟨Or.inl rfl, ?_⟩
  refine ⟨by simp only [wI_M, wI_1, wI_w, b1, r10, r11, r12, r13, r14, b18, r182, k0, k1, k4, q0, q1, kt, kst, k120, hL.1, hL.2] <;> first | rfl | decide, (by simp only [hL.2]; exact vp_in_nI (show 0 < 1 by omega) (by omega)), ?_⟩
  refine ⟨⟨Nat.le_of_ble_eq_true rfl, Nat.le_of_ble_eq_true rfl⟩, M1, _, ?_, rfl, ⟨hJ0, hJ1⟩, fun _ => rfl⟩
  rw [hc]; rfl
theorem cod_after {ρ : Rw} {x y : Int32} : (aAfter ρ x y).1 = 1 ∨ (aAfter ρ x y).1 = 2 ∨ (aAfter ρ x y).1 = 0 := by
  unfold aAfter
  (repeat' split) <;> first | exact Or.inl rfl | exact Or.inr (Or.inl rfl) | exact Or.inr (Or.inr rfl)
set_option maxHeartbeats 1000000 in
theorem H_after {d : Nat} {S : Sc} {M : Nat → Nat → Int32} {J : Nat → Nat → Int64} {BB : Nat} (hR : RgS S) (hI : I2 BB (vO M 4)) (hBB : BB < 1000000) {u v : Int32} (hL : S.2.1 144 = 10 ∧ S.2.2.1 144 = 1) : Wp (d + 10) 187 [.ref 1, .int u, .int v, .ref 144] (S, M, J) (fun rs w' => ∃ M' J', rs = .inl (some (.int (nI (aAfter (vO M 4) u v).1))) ∧ w' = (S, M', J') ∧ (Jk M M') ∧ ((aAfter (vO M 4) u v).1 = 0 → J' 144 0 = (aAfter (vO M 4) u v).2.toInt64)) := by
  obtain ⟨hSt, hO, hOt, ⟨b1, r10, r11, r12, r13, r14⟩, ⟨b18, r182⟩, hH, hV⟩ := id hR
  have k0 : S.2.1 4 = 2 := hO.1.1
  have k1 : S.2.1 5 = 0 := hO.1.2.1
  have k4 : S.2.1 8 = 3 := hO.1.2.2.2.2.1
  have q0 : S.2.2.2 4 0 = 5 := hO.2.1.1
  have q1 : S.2.2.2 4 1 = 8 := hO.2.1.2.1
  have kt : S.2.1 11 = 2 := hOt.1.1
  have kst : S.2.1 2 = 5 := hSt.1
  have k120 : S.2.1 120 = 4 := hV.1
  refine ⟨rfl, ?_⟩
  refine EE.runN (stop := noStop) 40 _ ?_
  refine ⟨⟨Nat.le_of_ble_eq_true rfl, Nat.le_of_ble_eq_true rfl, Nat.le_of_ble_eq_true rfl⟩, by simp only [wI_M, wI_1, wI_w, b1, r10, r11, r12, r13, r14, b18, r182, k0, k1, k4, q0, q1, kt, kst, k120, hL.1, hL.2] <;> first | rfl | decide, _, C_after hR hI hBB, ?_⟩
  rintro rs_ w1 ⟨M1, hw, hJ, hr⟩
  subst hw
  have cd : (aAfter (vO M 4) u v).1 = 1 ∨ (aAfter (vO M 4) u v).1 = 2 ∨ (aAfter (vO M 4) u v).1 = 0 := cod_after
  rcases cd with hc | hc | hc
  · have hr1 : rs_ = .inr (excN 0) := hr.trans (rs_t hc (by decide))
    subst hr1
    refine aft_x (show hnT 187 5 (excN 0) = some 13 by decide +kernel) rfl (of_decide_eq_true rfl) ?_
    refine ⟨⟨Nat.le_of_ble_eq_true rfl, Nat.le_of_ble_eq_true rfl⟩, M1, J, ?_, rfl, hJ, fun h_ => absurd (hc.symm.trans h_) (by decide)⟩
    rw [hc]; rfl
  · have hr1 : rs_ = .inr (excN 1) := hr.trans (rs_t hc (by decide))
    subst hr1
    refine aft_x (show hnT 187 5 (excN 1) = some 17 by decide +kernel) rfl (of_decide_eq_true rfl) ?_
    refine ⟨⟨Nat.le_of_ble_eq_true rfl, Nat.le_of_ble_eq_true rfl⟩, M1, J, ?_, rfl, hJ, fun h_ => absurd (hc.symm.trans h_) (by decide)⟩
    rw [hc]; rfl
  have hr0 : rs_ = .inl (some (.int (aAfter (vO M 4) u v).2)) := hr.trans (rs_0 hc)
  subst hr0
  refine ⟨Or.inl rfl, ?_⟩
  refine ⟨by simp only [wI_M, wI_1, wI_w, b1, r10, r11, r12, r13, r14, b18, r182, k0, k1, k4, q0, q1, kt, kst, k120, hL.1, hL.2] <;> first | rfl | decide, (by simp only [hL.2]; exact vp_in_nI (show 0 < 1 by omega) (by omega)), ?_⟩
  refine ⟨⟨Nat.le_of_ble_eq_true rfl, Nat.le_of_ble_eq_true rfl⟩, M1, _, ?_, rfl, hJ, fun _ => rfl⟩
  rw [hc]; rfl
theorem cod_worst {ρ : Rw}  : (aWorst ρ).1 = 1 ∨ (aWorst ρ).1 = 0 := by
  unfold aWorst
  (repeat' split) <;> first | exact Or.inl rfl | exact Or.inr rfl
set_option maxHeartbeats 1000000 in
theorem H_worst {d : Nat} {S : Sc} {M : Nat → Nat → Int32} {J : Nat → Nat → Int64} {BB : Nat} (hR : RgS S) (hI : I2 BB (vO M 4)) (hBB : BB < 1000000) (hL : S.2.1 144 = 10 ∧ S.2.2.1 144 = 1) : Wp (d + 10) 188 [.ref 1, .ref 144] (S, M, J) (fun rs w' => ∃ M' J', rs = .inl (some (.int (nI (aWorst (vO M 4)).1))) ∧ w' = (S, M', J') ∧ (Jk M M') ∧ ((aWorst (vO M 4)).1 = 0 → J' 144 0 = (aWorst (vO M 4)).2.toInt64)) := by
  obtain ⟨hSt, hO, hOt, ⟨b1, r10, r11, r12, r13, r14⟩, ⟨b18, r182⟩, hH, hV⟩ := id hR
  have k0 : S.2.1 4 = 2 := hO.1.1
  have k1 : S.2.1 5 = 0 := hO.1.2.1
  have k4 : S.2.1 8 = 3 := hO.1.2.2.2.2.1
  have q0 : S.2.2.2 4 0 = 5 := hO.2.1.1
  have q1 : S.2.2.2 4 1 = 8 := hO.2.1.2.1
  have kt : S.2.1 11 = 2 := hOt.1.1
  have kst : S.2.1 2 = 5 := hSt.1
  have k120 : S.2.1 120 = 4 := hV.1
  refine ⟨rfl, ?_⟩
  refine EE.runN (stop := noStop) 40 _ ?_
  refine ⟨⟨Nat.le_of_ble_eq_true rfl, Nat.le_of_ble_eq_true rfl, Nat.le_of_ble_eq_true rfl⟩, by simp only [wI_M, wI_1, wI_w, b1, r10, r11, r12, r13, r14, b18, r182, k0, k1, k4, q0, q1, kt, kst, k120, hL.1, hL.2] <;> first | rfl | decide, _, C_worst hR hI hBB, ?_⟩
  rintro rs_ w1 ⟨M1, hw, hJ, hr⟩
  subst hw
  have cd : (aWorst (vO M 4)).1 = 1 ∨ (aWorst (vO M 4)).1 = 0 := cod_worst
  rcases cd with hc | hc
  · have hr1 : rs_ = .inr (excN 1) := hr.trans (rs_t hc (by decide))
    subst hr1
    refine aft_x (show hnT 188 3 (excN 1) = some 11 by decide +kernel) rfl (of_decide_eq_true rfl) ?_
    refine ⟨⟨Nat.le_of_ble_eq_true rfl, Nat.le_of_ble_eq_true rfl⟩, M1, J, ?_, rfl, hJ, fun h_ => absurd (hc.symm.trans h_) (by decide)⟩
    rw [hc]; rfl
  have hr0 : rs_ = .inl (some (.int (aWorst (vO M 4)).2)) := hr.trans (rs_0 hc)
  subst hr0
  refine ⟨Or.inl rfl, ?_⟩
  refine ⟨by simp only [wI_M, wI_1, wI_w, b1, r10, r11, r12, r13, r14, b18, r182, k0, k1, k4, q0, q1, kt, kst, k120, hL.1, hL.2] <;> first | rfl | decide, (by simp only [hL.2]; exact vp_in_nI (show 0 < 1 by omega) (by omega)), ?_⟩
  refine ⟨⟨Nat.le_of_ble_eq_true rfl, Nat.le_of_ble_eq_true rfl⟩, M1, _, ?_, rfl, hJ, fun _ => rfl⟩
  rw [hc]; rfl
theorem cod_lasts {ρ : Rw} {x : Int32} : (aTill ρ x).1 = 1 ∨ (aTill ρ x).1 = 2 ∨ (aTill ρ x).1 = 0 := by
  unfold aTill
  (repeat' split) <;> first | exact Or.inl rfl | exact Or.inr (Or.inl rfl) | exact Or.inr (Or.inr rfl)
set_option maxHeartbeats 1000000 in
theorem H_lasts {d : Nat} {S : Sc} {M : Nat → Nat → Int32} {J : Nat → Nat → Int64} {BB : Nat} (hR : RgS S) (hI : I2 BB (vO M 4)) (hBB : BB < 1000000) {x : Int32} (hL : S.2.1 144 = 10 ∧ S.2.2.1 144 = 1) : Wp (d + 10) 189 [.ref 1, .int x, .ref 144] (S, M, J) (fun rs w' => ∃ M' J', rs = .inl (some (.int (nI (aTill (vO M 4) x).1))) ∧ w' = (S, M', J') ∧ (Jk M M') ∧ ((aTill (vO M 4) x).1 = 0 → J' 144 0 = (aTill (vO M 4) x).2.toInt64)) := by
  obtain ⟨hSt, hO, hOt, ⟨b1, r10, r11, r12, r13, r14⟩, ⟨b18, r182⟩, hH, hV⟩ := id hR
  have k0 : S.2.1 4 = 2 := hO.1.1
  have k1 : S.2.1 5 = 0 := hO.1.2.1
  have k4 : S.2.1 8 = 3 := hO.1.2.2.2.2.1
  have q0 : S.2.2.2 4 0 = 5 := hO.2.1.1
  have q1 : S.2.2.2 4 1 = 8 := hO.2.1.2.1
  have kt : S.2.1 11 = 2 := hOt.1.1
  have kst : S.2.1 2 = 5 := hSt.1
  have k120 : S.2.1 120 = 4 := hV.1
  refine ⟨rfl, ?_⟩
  refine EE.runN (stop := noStop) 40 _ ?_
  refine ⟨⟨Nat.le_of_ble_eq_true rfl, Nat.le_of_ble_eq_true rfl, Nat.le_of_ble_eq_true rfl⟩, by simp only [wI_M, wI_1, wI_w, b1, r10, r11, r12, r13, r14, b18, r182, k0, k1, k4, q0, q1, kt, kst, k120, hL.1, hL.2] <;> first | rfl | decide, _, C_lasts hR hI hBB, ?_⟩
  rintro rs_ w1 ⟨M1, hw, hJ, hr⟩
  subst hw
  have cd : (aTill (vO M 4) x).1 = 1 ∨ (aTill (vO M 4) x).1 = 2 ∨ (aTill (vO M 4) x).1 = 0 := cod_lasts
  rcases cd with hc | hc | hc
  · have hr1 : rs_ = .inr (excN 0) := hr.trans (rs_t hc (by decide))
    subst hr1
    refine aft_x (show hnT 189 4 (excN 0) = some 12 by decide +kernel) rfl (of_decide_eq_true rfl) ?_
    refine ⟨⟨Nat.le_of_ble_eq_true rfl, Nat.le_of_ble_eq_true rfl⟩, M1, J, ?_, rfl, hJ, fun h_ => absurd (hc.symm.trans h_) (by decide)⟩
    rw [hc]; rfl
  · have hr1 : rs_ = .inr (excN 1) := hr.trans (rs_t hc (by decide))
    subst hr1
    refine aft_x (show hnT 189 4 (excN 1) = some 15 by decide +kernel) rfl (of_decide_eq_true rfl) ?_
    refine ⟨⟨Nat.le_of_ble_eq_true rfl, Nat.le_of_ble_eq_true rfl⟩, M1, J, ?_, rfl, hJ, fun h_ => absurd (hc.symm.trans h_) (by decide)⟩
    rw [hc]; rfl
  have hr0 : rs_ = .inl (some (.int (aTill (vO M 4) x).2)) := hr.trans (rs_0 hc)
  subst hr0
  refine ⟨Or.inl rfl, ?_⟩
  refine ⟨by simp only [wI_M, wI_1, wI_w, b1, r10, r11, r12, r13, r14, b18, r182, k0, k1, k4, q0, q1, kt, kst, k120, hL.1, hL.2] <;> first | rfl | decide, (by simp only [hL.2]; exact vp_in_nI (show 0 < 1 by omega) (by omega)), ?_⟩
  refine ⟨⟨Nat.le_of_ble_eq_true rfl, Nat.le_of_ble_eq_true rfl⟩, M1, _, ?_, rfl, hJ, fun _ => rfl⟩
  rw [hc]; rfl
theorem cod_dueIn {ρ : Rw} {m : Nat} {x y z : Int32} : (aDue ρ m x y z).1 = 1 ∨ (aDue ρ m x y z).1 = 2 ∨ (aDue ρ m x y z).1 = 0 := by
  unfold aDue
  (repeat' split) <;> first | exact Or.inl rfl | exact Or.inr (Or.inl rfl) | exact Or.inr (Or.inr rfl)
set_option maxHeartbeats 1000000 in
theorem H_dueIn {d : Nat} {S : Sc} {M : Nat → Nat → Int32} {J : Nat → Nat → Int64} {BB : Nat} (hR : RgS S) (hI : I2 BB (vO M 4)) {x y z : Int32} (hL : S.2.1 144 = 10 ∧ S.2.2.1 144 = 1) : Wp (d + 10) 190 [.ref 1, .int x, .int y, .int z, .ref 144] (S, M, J) (fun rs w' => ∃ M' J', rs = .inl (some (.int (nI (aDue (vO M 4) (vO M 4 17).toNatClampNeg x y z).1))) ∧ w' = (S, M', J') ∧ (Jk M M') ∧ ((aDue (vO M 4) (vO M 4 17).toNatClampNeg x y z).1 = 0 → J' 144 0 = (aDue (vO M 4) (vO M 4 17).toNatClampNeg x y z).2.toInt64)) := by
  obtain ⟨hSt, hO, hOt, ⟨b1, r10, r11, r12, r13, r14⟩, ⟨b18, r182⟩, hH, hV⟩ := id hR
  have k0 : S.2.1 4 = 2 := hO.1.1
  have k1 : S.2.1 5 = 0 := hO.1.2.1
  have k4 : S.2.1 8 = 3 := hO.1.2.2.2.2.1
  have q0 : S.2.2.2 4 0 = 5 := hO.2.1.1
  have q1 : S.2.2.2 4 1 = 8 := hO.2.1.2.1
  have kt : S.2.1 11 = 2 := hOt.1.1
  have kst : S.2.1 2 = 5 := hSt.1
  have k120 : S.2.1 120 = 4 := hV.1
  refine ⟨rfl, ?_⟩
  refine EE.runN (stop := noStop) 40 _ ?_
  refine ⟨⟨Nat.le_of_ble_eq_true rfl, Nat.le_of_ble_eq_true rfl, Nat.le_of_ble_eq_true rfl⟩, by simp only [wI_M, wI_1, wI_w, b1, r10, r11, r12, r13, r14, b18, r182, k0, k1, k4, q0, q1, kt, kst, k120, hL.1, hL.2] <;> first | rfl | decide, _, C_dueIn hR hI, ?_⟩
  rintro rs_ w1 ⟨M1, hw, hJ, hr⟩
  subst hw
  have cd : (aDue (vO M 4) (vO M 4 17).toNatClampNeg x y z).1 = 1 ∨ (aDue (vO M 4) (vO M 4 17).toNatClampNeg x y z).1 = 2 ∨ (aDue (vO M 4) (vO M 4 17).toNatClampNeg x y z).1 = 0 := cod_dueIn
  rcases cd with hc | hc | hc
  · have hr1 : rs_ = .inr (excN 0) := hr.trans (rs_t hc (by decide))
    subst hr1
    refine aft_x (show hnT 190 7 (excN 0) = some 15 by decide +kernel) rfl (of_decide_eq_true rfl) ?_
    refine ⟨⟨Nat.le_of_ble_eq_true rfl, Nat.le_of_ble_eq_true rfl⟩, M1, J, ?_, rfl, hJ, fun h_ => absurd (hc.symm.trans h_) (by decide)⟩
    rw [hc]; rfl
  · have hr1 : rs_ = .inr (excN 1) := hr.trans (rs_t hc (by decide))
    subst hr1
    refine aft_x (show hnT 190 7 (excN 1) = some 19 by decide +kernel) rfl (of_decide_eq_true rfl) ?_
    refine ⟨⟨Nat.le_of_ble_eq_true rfl, Nat.le_of_ble_eq_true rfl⟩, M1, J, ?_, rfl, hJ, fun h_ => absurd (hc.symm.trans h_) (by decide)⟩
    rw [hc]; rfl
  have hr0 : rs_ = .inl (some (.int (aDue (vO M 4) (vO M 4 17).toNatClampNeg x y z).2)) := hr.trans (rs_0 hc)
  subst hr0
  refine ⟨Or.inl rfl, ?_⟩
  refine ⟨by simp only [wI_M, wI_1, wI_w, b1, r10, r11, r12, r13, r14, b18, r182, k0, k1, k4, q0, q1, kt, kst, k120, hL.1, hL.2] <;> first | rfl | decide, (by simp only [hL.2]; exact vp_in_nI (show 0 < 1 by omega) (by omega)), ?_⟩
  refine ⟨⟨Nat.le_of_ble_eq_true rfl, Nat.le_of_ble_eq_true rfl⟩, M1, _, ?_, rfl, hJ, fun _ => rfl⟩
  rw [hc]; rfl
theorem cod_script {ρ : Rw} {x : Int32} {told : Int64} : (aScript ρ x told).1 = 1 ∨ (aScript ρ x told).1 = 0 := by
  unfold aScript
  (repeat' split) <;> first | exact Or.inl rfl | exact Or.inr rfl
set_option maxHeartbeats 1000000 in
theorem H_script {d : Nat} {S : Sc} {M : Nat → Nat → Int32} {J : Nat → Nat → Int64} {BB : Nat} (hR : RgS S) (hI : I2 BB (vO M 4)) (hBB : BB < 1000000) {x : Int32} {told : Int64} (hL : S.2.1 144 = 10 ∧ S.2.2.1 144 = 1) : Wp (d + 10) 191 [.ref 1, .int x, .long told, .ref 144] (S, M, J) (fun rs w' => ∃ M' J', rs = .inl (some (.int (nI (aScript (vO M 4) x told).1))) ∧ w' = (S, M', J') ∧ (Jk M M') ∧ ((aScript (vO M 4) x told).1 = 0 → J' 144 0 = (aScript (vO M 4) x told).2.toInt64)) := by
  obtain ⟨hSt, hO, hOt, ⟨b1, r10, r11, r12, r13, r14⟩, ⟨b18, r182⟩, hH, hV⟩ := id hR
  have k0 : S.2.1 4 = 2 := hO.1.1
  have k1 : S.2.1 5 = 0 := hO.1.2.1
  have k4 : S.2.1 8 = 3 := hO.1.2.2.2.2.1
  have q0 : S.2.2.2 4 0 = 5 := hO.2.1.1
  have q1 : S.2.2.2 4 1 = 8 := hO.2.1.2.1
  have kt : S.2.1 11 = 2 := hOt.1.1
  have kst : S.2.1 2 = 5 := hSt.1
  have k120 : S.2.1 120 = 4 := hV.1
  refine ⟨rfl, ?_⟩
  refine EE.runN (stop := noStop) 40 _ ?_
  refine ⟨⟨Nat.le_of_ble_eq_true rfl, Nat.le_of_ble_eq_true rfl, Nat.le_of_ble_eq_true rfl⟩, by simp only [wI_M, wI_1, wI_w, b1, r10, r11, r12, r13, r14, b18, r182, k0, k1, k4, q0, q1, kt, kst, k120, hL.1, hL.2] <;> first | rfl | decide, _, C_script hR hI hBB, ?_⟩
  rintro rs_ w1 ⟨M1, hw, hJ, hr⟩
  subst hw
  have cd : (aScript (vO M 4) x told).1 = 1 ∨ (aScript (vO M 4) x told).1 = 0 := cod_script
  rcases cd with hc | hc
  · have hr1 : rs_ = .inr (excN 0) := hr.trans (rs_t hc (by decide))
    subst hr1
    refine aft_x (show hnT 191 6 (excN 0) = some 14 by decide +kernel) rfl (of_decide_eq_true rfl) ?_
    refine ⟨⟨Nat.le_of_ble_eq_true rfl, Nat.le_of_ble_eq_true rfl⟩, M1, J, ?_, rfl, hJ, fun h_ => absurd (hc.symm.trans h_) (by decide)⟩
    rw [hc]; rfl
  have hr0 : rs_ = .inl (some (.int (aScript (vO M 4) x told).2)) := hr.trans (rs_0 hc)
  subst hr0
  refine ⟨Or.inl rfl, ?_⟩
  refine ⟨by simp only [wI_M, wI_1, wI_w, b1, r10, r11, r12, r13, r14, b18, r182, k0, k1, k4, q0, q1, kt, kst, k120, hL.1, hL.2] <;> first | rfl | decide, (by simp only [hL.2]; exact vp_in_nI (show 0 < 1 by omega) (by omega)), ?_⟩
  refine ⟨⟨Nat.le_of_ble_eq_true rfl, Nat.le_of_ble_eq_true rfl⟩, M1, _, ?_, rfl, hJ, fun _ => rfl⟩
  rw [hc]; rfl
theorem cod_sim {ρ : Rw} {x : Int64} {z : Int32} : (aSim ρ x z).1 = 1 ∨ (aSim ρ x z).1 = 0 := by
  unfold aSim
  (repeat' split) <;> first | exact Or.inl rfl | exact Or.inr rfl
set_option maxHeartbeats 1000000 in
theorem H_sim {d : Nat} {S : Sc} {M : Nat → Nat → Int32} {J : Nat → Nat → Int64} {BB : Nat} (hR : RgS S) (hI : I2 BB (vO M 4)) (hBB : BB < 1000000) {x : Int64} {z : Int32} (hL : S.2.1 144 = 10 ∧ S.2.2.1 144 = 1) : Wp (d + 10) 192 [.ref 1, .long x, .int z, .ref 144] (S, M, J) (fun rs w' => ∃ M' J', rs = .inl (some (.int (nI (aSim (vO M 4) x z).1))) ∧ w' = (S, M', J') ∧ (Jk M M') ∧ ((aSim (vO M 4) x z).1 = 0 → J' 144 0 = (aSim (vO M 4) x z).2.toInt64)) := by
  obtain ⟨hSt, hO, hOt, ⟨b1, r10, r11, r12, r13, r14⟩, ⟨b18, r182⟩, hH, hV⟩ := id hR
  have k0 : S.2.1 4 = 2 := hO.1.1
  have k1 : S.2.1 5 = 0 := hO.1.2.1
  have k4 : S.2.1 8 = 3 := hO.1.2.2.2.2.1
  have q0 : S.2.2.2 4 0 = 5 := hO.2.1.1
  have q1 : S.2.2.2 4 1 = 8 := hO.2.1.2.1
  have kt : S.2.1 11 = 2 := hOt.1.1
  have kst : S.2.1 2 = 5 := hSt.1
  have k120 : S.2.1 120 = 4 := hV.1
  refine ⟨rfl, ?_⟩
  refine EE.runN (stop := noStop) 40 _ ?_
  refine ⟨⟨Nat.le_of_ble_eq_true rfl, Nat.le_of_ble_eq_true rfl, Nat.le_of_ble_eq_true rfl⟩, by simp only [wI_M, wI_1, wI_w, b1, r10, r11, r12, r13, r14, b18, r182, k0, k1, k4, q0, q1, kt, kst, k120, hL.1, hL.2] <;> first | rfl | decide, _, C_sim hR hI hBB, ?_⟩
  rintro rs_ w1 ⟨M1, hw, hJ, hr⟩
  subst hw
  have cd : (aSim (vO M 4) x z).1 = 1 ∨ (aSim (vO M 4) x z).1 = 0 := cod_sim
  rcases cd with hc | hc
  · have hr1 : rs_ = .inr (excN 0) := hr.trans (rs_t hc (by decide))
    subst hr1
    refine aft_x (show hnT 192 6 (excN 0) = some 14 by decide +kernel) rfl (of_decide_eq_true rfl) ?_
    refine ⟨⟨Nat.le_of_ble_eq_true rfl, Nat.le_of_ble_eq_true rfl⟩, M1, J, ?_, rfl, hJ, fun h_ => absurd (hc.symm.trans h_) (by decide)⟩
    rw [hc]; rfl
  have hr0 : rs_ = .inl (some (.int (aSim (vO M 4) x z).2)) := hr.trans (rs_0 hc)
  subst hr0
  refine ⟨Or.inl rfl, ?_⟩
  refine ⟨by simp only [wI_M, wI_1, wI_w, b1, r10, r11, r12, r13, r14, b18, r182, k0, k1, k4, q0, q1, kt, kst, k120, hL.1, hL.2] <;> first | rfl | decide, (by simp only [hL.2]; exact vp_in_nI (show 0 < 1 by omega) (by omega)), ?_⟩
  refine ⟨⟨Nat.le_of_ble_eq_true rfl, Nat.le_of_ble_eq_true rfl⟩, M1, _, ?_, rfl, hJ, fun _ => rfl⟩
  rw [hc]; rfl
theorem cod_save {ρ : Rw} {x : Int32} : (aSave ρ x).1 = 1 ∨ (aSave ρ x).1 = 0 := by
  unfold aSave
  (repeat' split) <;> first | exact Or.inl rfl | exact Or.inr rfl
set_option maxHeartbeats 1000000 in
theorem H_save {d : Nat} {S : Sc} {M : Nat → Nat → Int32} {J : Nat → Nat → Int64} {BB : Nat} (hR : RgS S) (hI : I2 BB (vO M 4)) (hBB : BB < 1000000) {x : Int32} (hL : S.2.1 144 = 10 ∧ S.2.2.1 144 = 1) : Wp (d + 10) 193 [.ref 1, .int x, .ref 144] (S, M, J) (fun rs w' => ∃ M' J', rs = .inl (some (.int (nI (aSave (vO M 4) x).1))) ∧ w' = (S, M', J') ∧ ((¬ (aSave (vO M 4) x).1 = 0 → M' = M) ∧ ((aSave (vO M 4) x).1 = 0 → M' = upA (sO M (120 + 3 + 7 * x.toNatClampNeg) (vO M 4)) (120 + 2) (upd (M (120 + 2)) x.toNatClampNeg 1))) ∧ ((aSave (vO M 4) x).1 = 0 → J' 144 0 = (aSave (vO M 4) x).2.toInt64)) := by
  obtain ⟨hSt, hO, hOt, ⟨b1, r10, r11, r12, r13, r14⟩, ⟨b18, r182⟩, hH, hV⟩ := id hR
  have k0 : S.2.1 4 = 2 := hO.1.1
  have k1 : S.2.1 5 = 0 := hO.1.2.1
  have k4 : S.2.1 8 = 3 := hO.1.2.2.2.2.1
  have q0 : S.2.2.2 4 0 = 5 := hO.2.1.1
  have q1 : S.2.2.2 4 1 = 8 := hO.2.1.2.1
  have kt : S.2.1 11 = 2 := hOt.1.1
  have kst : S.2.1 2 = 5 := hSt.1
  have k120 : S.2.1 120 = 4 := hV.1
  refine ⟨rfl, ?_⟩
  refine EE.runN (stop := noStop) 40 _ ?_
  refine ⟨⟨Nat.le_of_ble_eq_true rfl, Nat.le_of_ble_eq_true rfl, Nat.le_of_ble_eq_true rfl⟩, by simp only [wI_M, wI_1, wI_w, b1, r10, r11, r12, r13, r14, b18, r182, k0, k1, k4, q0, q1, kt, kst, k120, hL.1, hL.2] <;> first | rfl | decide, _, C_save hR hI hBB, ?_⟩
  rintro rs_ w1 ⟨M1, hw, hJ0, hJ1, hr⟩
  subst hw
  have cd : (aSave (vO M 4) x).1 = 1 ∨ (aSave (vO M 4) x).1 = 0 := cod_save
  rcases cd with hc | hc
  · have hr1 : rs_ = .inr (excN 2) := hr.trans (rs_t hc (by decide))
    subst hr1
    refine aft_x (show hnT 193 4 (excN 2) = some 12 by decide +kernel) rfl (of_decide_eq_true rfl) ?_
    refine ⟨⟨Nat.le_of_ble_eq_true rfl, Nat.le_of_ble_eq_true rfl⟩, M1, J, ?_, rfl, ⟨hJ0, hJ1⟩, fun h_ => absurd (hc.symm.trans h_) (by decide)⟩
    rw [hc]; rfl
  have hr0 : rs_ = .inl (some (.int (aSave (vO M 4) x).2)) := hr.trans (rs_0 hc)
  subst hr0
  refine ⟨Or.inl rfl, ?_⟩
  refine ⟨by simp only [wI_M, wI_1, wI_w, b1, r10, r11, r12, r13, r14, b18, r182, k0, k1, k4, q0, q1, kt, kst, k120, hL.1, hL.2] <;> first | rfl | decide, (by simp only [hL.2]; exact vp_in_nI (show 0 < 1 by omega) (by omega)), ?_⟩
  refine ⟨⟨Nat.le_of_ble_eq_true rfl, Nat.le_of_ble_eq_true rfl⟩, M1, _, ?_, rfl, ⟨hJ0, hJ1⟩, fun _ => rfl⟩
  rw [hc]; rfl
theorem cod_restore {κ β : Rw} {x : Int32} : (aRest κ β x).1 = 1 ∨ (aRest κ β x).1 = 2 ∨ (aRest κ β x).1 = 0 := by
  unfold aRest
  (repeat' split) <;> first | exact Or.inl rfl | exact Or.inr (Or.inl rfl) | exact Or.inr (Or.inr rfl)
set_option maxHeartbeats 1000000 in
theorem H_restore {d : Nat} {S : Sc} {M : Nat → Nat → Int32} {J : Nat → Nat → Int64} {BB : Nat} (hR : RgS S) (hI : I2 BB (vO M 4)) (hBB : BB < 1000000) {x : Int32} (hW : ∀ q, q < 2 → ¬ M (120 + 2) q = 0 → Bok (vO M (120 + 3 + 7 * q))) (hL : S.2.1 144 = 10 ∧ S.2.2.1 144 = 1) : Wp (d + 10) 194 [.ref 1, .int x, .ref 144] (S, M, J) (fun rs w' => ∃ M' J', rs = .inl (some (.int (nI (aRest (fun k => vO M (120 + 3 + 7 * (k / 114)) (k % 114)) (M (120 + 2)) x).1))) ∧ w' = (S, M', J') ∧ ((¬ (aRest (fun k => vO M (120 + 3 + 7 * (k / 114)) (k % 114)) (M (120 + 2)) x).1 = 0 → M' = M) ∧ ((aRest (fun k => vO M (120 + 3 + 7 * (k / 114)) (k % 114)) (M (120 + 2)) x).1 = 0 → M' = upA (sO M 4 (vO M (120 + 3 + 7 * x.toNatClampNeg))) 18 (upd (sO M 4 (vO M (120 + 3 + 7 * x.toNatClampNeg)) 18) 0 0))) ∧ ((aRest (fun k => vO M (120 + 3 + 7 * (k / 114)) (k % 114)) (M (120 + 2)) x).1 = 0 → J' 144 0 = (aRest (fun k => vO M (120 + 3 + 7 * (k / 114)) (k % 114)) (M (120 + 2)) x).2.toInt64)) := by
  obtain ⟨hSt, hO, hOt, ⟨b1, r10, r11, r12, r13, r14⟩, ⟨b18, r182⟩, hH, hV⟩ := id hR
  have k0 : S.2.1 4 = 2 := hO.1.1
  have k1 : S.2.1 5 = 0 := hO.1.2.1
  have k4 : S.2.1 8 = 3 := hO.1.2.2.2.2.1
  have q0 : S.2.2.2 4 0 = 5 := hO.2.1.1
  have q1 : S.2.2.2 4 1 = 8 := hO.2.1.2.1
  have kt : S.2.1 11 = 2 := hOt.1.1
  have kst : S.2.1 2 = 5 := hSt.1
  have k120 : S.2.1 120 = 4 := hV.1
  refine ⟨rfl, ?_⟩
  refine EE.runN (stop := noStop) 40 _ ?_
  refine ⟨⟨Nat.le_of_ble_eq_true rfl, Nat.le_of_ble_eq_true rfl, Nat.le_of_ble_eq_true rfl⟩, by simp only [wI_M, wI_1, wI_w, b1, r10, r11, r12, r13, r14, b18, r182, k0, k1, k4, q0, q1, kt, kst, k120, hL.1, hL.2] <;> first | rfl | decide, _, C_restore hR hI hBB hW, ?_⟩
  rintro rs_ w1 ⟨M1, hw, hJ0, hJ1, hr⟩
  subst hw
  have cd : (aRest (fun k => vO M (120 + 3 + 7 * (k / 114)) (k % 114)) (M (120 + 2)) x).1 = 1 ∨ (aRest (fun k => vO M (120 + 3 + 7 * (k / 114)) (k % 114)) (M (120 + 2)) x).1 = 2 ∨ (aRest (fun k => vO M (120 + 3 + 7 * (k / 114)) (k % 114)) (M (120 + 2)) x).1 = 0 := cod_restore
  rcases cd with hc | hc | hc
  · have hr1 : rs_ = .inr (excN 2) := hr.trans (rs_t hc (by decide))
    subst hr1
    refine aft_x (show hnT 194 4 (excN 2) = some 12 by decide +kernel) rfl (of_decide_eq_true rfl) ?_
    refine ⟨⟨Nat.le_of_ble_eq_true rfl, Nat.le_of_ble_eq_true rfl⟩, M1, J, ?_, rfl, ⟨hJ0, hJ1⟩, fun h_ => absurd (hc.symm.trans h_) (by decide)⟩
    rw [hc]; rfl
  · have hr1 : rs_ = .inr (excN 1) := hr.trans (rs_t hc (by decide))
    subst hr1
    refine aft_x (show hnT 194 4 (excN 1) = some 15 by decide +kernel) rfl (of_decide_eq_true rfl) ?_
    refine ⟨⟨Nat.le_of_ble_eq_true rfl, Nat.le_of_ble_eq_true rfl⟩, M1, J, ?_, rfl, ⟨hJ0, hJ1⟩, fun h_ => absurd (hc.symm.trans h_) (by decide)⟩
    rw [hc]; rfl
  have hr0 : rs_ = .inl (some (.int (aRest (fun k => vO M (120 + 3 + 7 * (k / 114)) (k % 114)) (M (120 + 2)) x).2)) := hr.trans (rs_0 hc)
  subst hr0
  refine ⟨Or.inl rfl, ?_⟩
  refine ⟨by simp only [wI_M, wI_1, wI_w, b1, r10, r11, r12, r13, r14, b18, r182, k0, k1, k4, q0, q1, kt, kst, k120, hL.1, hL.2] <;> first | rfl | decide, (by simp only [hL.2]; exact vp_in_nI (show 0 < 1 by omega) (by omega)), ?_⟩
  refine ⟨⟨Nat.le_of_ble_eq_true rfl, Nat.le_of_ble_eq_true rfl⟩, M1, _, ?_, rfl, ⟨hJ0, hJ1⟩, fun _ => rfl⟩
  rw [hc]; rfl
set_option maxHeartbeats 1000000 in
theorem H_load_bad {d : Nat} {S : Sc} {M : Nat → Nat → Int32} {J : Nat → Nat → Int64} {n : Nat} {τ : Nat → Nat} (hR : RgS S) (hT : TxC M n τ) (hb : (mEnd n τ).1 = false) (hL : S.2.1 144 = 10 ∧ S.2.2.1 144 = 1) : Wp (d + 10) 171 [.ref 1, .ref 144] (S, M, J) (fun rs w' => rs = .inl (some (.int 1)) ∧ ∃ M', w' = (S, M', J) ∧ TxC M' n τ ∧ ∀ o, o ≠ 2 → M' o = M o) := by
  obtain ⟨hSt, hO, hOt, ⟨b1, r10, r11, r12, r13, r14⟩, ⟨b18, r182⟩, hH, hV⟩ := id hR
  have k0 : S.2.1 4 = 2 := hO.1.1
  have k1 : S.2.1 5 = 0 := hO.1.2.1
  have k4 : S.2.1 8 = 3 := hO.1.2.2.2.2.1
  have q0 : S.2.2.2 4 0 = 5 := hO.2.1.1
  have q1 : S.2.2.2 4 1 = 8 := hO.2.1.2.1
  have kt : S.2.1 11 = 2 := hOt.1.1
  have kst : S.2.1 2 = 5 := hSt.1
  have k120 : S.2.1 120 = 4 := hV.1
  refine ⟨rfl, ?_⟩
  refine EE.runN (stop := noStop) 40 _ ?_
  refine ⟨⟨Nat.le_of_ble_eq_true rfl, Nat.le_of_ble_eq_true rfl, Nat.le_of_ble_eq_true rfl⟩, by simp only [wI_M, wI_1, wI_w, b1, r10, r11, r12, r13, r14, b18, r182, k0, k1, k4, q0, q1, kt, kst, k120, hL.1, hL.2] <;> first | rfl | decide, _, C_load_bad hR hT hb, ?_⟩
  rintro rs_ w1 ⟨rfl, M1, rfl, h1, h2⟩
  refine aft_x (show hnT 171 3 (excN 1) = some 11 by decide +kernel) rfl (of_decide_eq_true rfl) ?_
  exact ⟨⟨Nat.le_of_ble_eq_true rfl, Nat.le_of_ble_eq_true rfl⟩, rfl, M1, rfl, h1, h2⟩
set_option maxHeartbeats 1000000 in
theorem H_load_good {d : Nat} {S : Sc} {M : Nat → Nat → Int32} {J : Nat → Nat → Int64} {n : Nat} {τ : Nat → Nat} (hR : RgS S) (hT : TxC M n τ) (hg : (mEnd n τ).1 = true) (ρ0 : Rw) (hL : S.2.1 144 = 10 ∧ S.2.2.1 144 = 1) : Wp (d + 10) 171 [.ref 1, .ref 144] (S, M, J) (fun rs w' => rs = .inl (some (.int 0)) ∧ ∃ M' J', w' = (S, M', J') ∧ J' 144 0 = ((mLd n τ (mHS n τ) 90 (mHd4 n τ).1 (rClean ρ0 (nI (mHS n τ)) (nI (mHd3 n τ).2) (nI (mHd4 n τ).2)) 0).2).toInt64 ∧ TxC M' n τ ∧ Rq (vO M' 4) (mLd n τ (mHS n τ) 90 (mHd4 n τ).1 (rClean ρ0 (nI (mHS n τ)) (nI (mHd3 n τ).2) (nI (mHd4 n τ).2)) 0).1 ∧ M' 18 0 = 0 ∧ M' 18 1 = M 18 1 ∧ (∀ k, k < 2 → M' 122 k = 0) ∧ ∀ o, o ≠ 2 → (o < 4 ∨ 11 ≤ o) → o ≠ 18 → o ≠ 122 → M' o = M o) := by
  obtain ⟨hSt, hO, hOt, ⟨b1, r10, r11, r12, r13, r14⟩, ⟨b18, r182⟩, hH, hV⟩ := id hR
  have k0 : S.2.1 4 = 2 := hO.1.1
  have k1 : S.2.1 5 = 0 := hO.1.2.1
  have k4 : S.2.1 8 = 3 := hO.1.2.2.2.2.1
  have q0 : S.2.2.2 4 0 = 5 := hO.2.1.1
  have q1 : S.2.2.2 4 1 = 8 := hO.2.1.2.1
  have kt : S.2.1 11 = 2 := hOt.1.1
  have kst : S.2.1 2 = 5 := hSt.1
  have k120 : S.2.1 120 = 4 := hV.1
  refine ⟨rfl, ?_⟩
  refine EE.runN (stop := noStop) 40 _ ?_
  refine ⟨⟨Nat.le_of_ble_eq_true rfl, Nat.le_of_ble_eq_true rfl, Nat.le_of_ble_eq_true rfl⟩, by simp only [wI_M, wI_1, wI_w, b1, r10, r11, r12, r13, r14, b18, r182, k0, k1, k4, q0, q1, kt, kst, k120, hL.1, hL.2] <;> first | rfl | decide, _, C_load_good hR hT hg ρ0, ?_⟩
  rintro rs_ w1 ⟨rfl, M1, rfl, hh⟩
  refine ⟨Or.inl rfl, ?_⟩
  refine ⟨by simp only [wI_M, wI_1, wI_w, b1, r10, r11, r12, r13, r14, b18, r182, k0, k1, k4, q0, q1, kt, kst, k120, hL.1, hL.2] <;> first | rfl | decide, (by simp only [hL.2]; exact vp_in_nI (show 0 < 1 by omega) (by omega)), ?_⟩
  exact ⟨⟨Nat.le_of_ble_eq_true rfl, Nat.le_of_ble_eq_true rfl⟩, rfl, M1, _, rfl, rfl, hh⟩
