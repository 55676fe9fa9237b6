/-! THE LAW: alike: two rings that hold the same answer the same: written by wip/p31/alike.py -/
set_option maxRecDepth 100000 in
set_option maxHeartbeats 4000000 in
theorem Z_alike {A A2 d : Nat} {S : Sc} {N : Nat → Nat → Int32} {J : Nat → Nat → Int64} {B : Nat} {T : Tx} {ρ : Rw} {P P2 : Pst9} {V V2 : Sav} {x : Int32} (hs : Scn A S) (hs2 : Scn A2 S) (hA : A + 136 ≤ A2) (hp : RI B T ρ P V (pbM A N)) (hq : RI B T ρ P2 V2 (pbM A2 N)) (hB : B < 990000) : Wp (d + 11) 128 [.ref (A + 1), .ref (A2 + 1), .int x] (S, N, J) (fun rs w' => ∃ N', w' = (S, N', J) ∧ RI B T ρ P V (pbM A N') ∧ RI B T ρ P2 V2 (pbM A2 N') ∧ rs = .inl (some (.int 1))) := by
  refine ⟨rfl, ?_⟩
  refine EE.runN (stop := noStop) 120 _ ?_
  refine ⟨⟨Nat.le_of_ble_eq_true rfl, Nat.le_of_ble_eq_true rfl, Nat.le_of_ble_eq_true rfl⟩, _, Z_now hs hp hB, ?_⟩
  rintro rs_ w1 ⟨N1, rfl, hF1, h1, rfl⟩
  have g1 := hq.frm hF1 (by omega)
  refine ⟨Or.inl rfl, ?_⟩
  refine ⟨⟨Nat.le_of_ble_eq_true rfl, Nat.le_of_ble_eq_true rfl, Nat.le_of_ble_eq_true rfl⟩, _, Z_now hs2 g1 hB, ?_⟩
  rintro rs_ w1 ⟨N2, rfl, hF2, h2, rfl⟩
  have g2 := h1.frm hF2 (by omega)
  refine ⟨Or.inl rfl, ?_⟩
  refine ⟨fun z => absurd (cmp0.mpr rfl) z, fun _ => ?_⟩
  refine ⟨⟨Nat.le_of_ble_eq_true rfl, Nat.le_of_ble_eq_true rfl, Nat.le_of_ble_eq_true rfl⟩, hs.k1, _, Y_error hs g2 hB, ?_⟩
  rintro rs_ w1 ⟨N3, rfl, hF3, h3, rfl⟩
  have g3 := h2.frm hF3 (by omega)
  refine ⟨Or.inl rfl, ?_⟩
  refine ⟨⟨Nat.le_of_ble_eq_true rfl, Nat.le_of_ble_eq_true rfl, Nat.le_of_ble_eq_true rfl⟩, hs2.k1, _, Y_error hs2 g3 hB, ?_⟩
  rintro rs_ w1 ⟨N4, rfl, hF4, h4, rfl⟩
  have g4 := h3.frm hF4 (by omega)
  refine ⟨Or.inl rfl, ?_⟩
  refine ⟨fun z => absurd rfl z, fun _ => ?_⟩
  refine ⟨⟨Nat.le_of_ble_eq_true rfl, Nat.le_of_ble_eq_true rfl, Nat.le_of_ble_eq_true rfl⟩, hs.k1, _, Y_dueFirst hs g4 hB, ?_⟩
  rintro rs_ w1 ⟨N5, rfl, hF5, h5, hr⟩
  have g5 := h4.frm hF5 (by omega)
  rw [first_rs] at hr
  subst hr
  refine ⟨Or.inl rfl, ?_⟩
  refine ⟨⟨Nat.le_of_ble_eq_true rfl, Nat.le_of_ble_eq_true rfl, Nat.le_of_ble_eq_true rfl⟩, hs2.k1, _, Y_dueFirst hs2 g5 hB, ?_⟩
  rintro rs_ w1 ⟨N6, rfl, hF6, h6, hr⟩
  have g6 := h5.frm hF6 (by omega)
  rw [first_rs] at hr
  subst hr
  refine ⟨Or.inl rfl, ?_⟩
  refine ⟨fun z => absurd rfl z, fun _ => ?_⟩
  refine ⟨⟨Nat.le_of_ble_eq_true rfl, Nat.le_of_ble_eq_true rfl, Nat.le_of_ble_eq_true rfl⟩, _, X_worst hs g6 hB, ?_⟩
  rintro rs_ w1 ⟨N7, rfl, hF7, h7, rfl⟩
  have g7 := h6.frm hF7 (by omega)
  refine ⟨Or.inl rfl, ?_⟩
  refine ⟨⟨Nat.le_of_ble_eq_true rfl, Nat.le_of_ble_eq_true rfl, Nat.le_of_ble_eq_true rfl⟩, _, X_worst hs2 g7 hB, ?_⟩
  rintro rs_ w1 ⟨N8, rfl, hF8, h8, rfl⟩
  have g8 := h7.frm hF8 (by omega)
  refine ⟨Or.inl rfl, ?_⟩
  refine ⟨fun z => absurd (cmp0.mpr rfl) z, fun _ => ?_⟩
  refine ⟨by decide, by decide, by decide, ⟨Nat.le_of_ble_eq_true rfl, Nat.le_of_ble_eq_true rfl, Nat.le_of_ble_eq_true rfl⟩, _, X_after hs g8 hB, ?_⟩
  rintro rs_ w1 ⟨N9, rfl, hF9, h9, rfl⟩
  have g9 := h8.frm hF9 (by omega)
  refine ⟨Or.inl rfl, ?_⟩
  refine ⟨by decide, by decide, by decide, ⟨Nat.le_of_ble_eq_true rfl, Nat.le_of_ble_eq_true rfl, Nat.le_of_ble_eq_true rfl⟩, _, X_after hs2 g9 hB, ?_⟩
  rintro rs_ w1 ⟨N10, rfl, hF10, h10, rfl⟩
  have g10 := h9.frm hF10 (by omega)
  refine ⟨Or.inl rfl, ?_⟩
  refine ⟨fun z => absurd (cmp0.mpr rfl) z, fun _ => ?_⟩
  refine ⟨⟨Nat.le_of_ble_eq_true rfl, Nat.le_of_ble_eq_true rfl, Nat.le_of_ble_eq_true rfl⟩, _, X_sim hs g10 hB, ?_⟩
  rintro rs_ w1 ⟨N11, rfl, hF11, h11, rfl⟩
  have g11 := h10.frm hF11 (by omega)
  refine ⟨Or.inl rfl, ?_⟩
  refine ⟨⟨Nat.le_of_ble_eq_true rfl, Nat.le_of_ble_eq_true rfl, Nat.le_of_ble_eq_true rfl⟩, _, X_sim hs2 g11 hB, ?_⟩
  rintro rs_ w1 ⟨N12, rfl, hF12, h12, rfl⟩
  have g12 := h11.frm hF12 (by omega)
  refine ⟨Or.inl rfl, ?_⟩
  refine ⟨fun z => absurd (cmp0.mpr rfl) z, fun _ => ?_⟩
  refine ⟨by decide, ⟨Nat.le_of_ble_eq_true rfl, Nat.le_of_ble_eq_true rfl, Nat.le_of_ble_eq_true rfl⟩, _, X_script hs g12 hB, ?_⟩
  rintro rs_ w1 ⟨N13, rfl, hF13, h13, rfl⟩
  have g13 := h12.frm hF13 (by omega)
  refine ⟨Or.inl rfl, ?_⟩
  refine ⟨by decide, ⟨Nat.le_of_ble_eq_true rfl, Nat.le_of_ble_eq_true rfl, Nat.le_of_ble_eq_true rfl⟩, _, X_script hs2 g13 hB, ?_⟩
  rintro rs_ w1 ⟨N14, rfl, hF14, h14, rfl⟩
  have g14 := h13.frm hF14 (by omega)
  refine ⟨Or.inl rfl, ?_⟩
  refine ⟨fun z => absurd (cmp0.mpr rfl) z, fun _ => ?_⟩
  exact ⟨⟨Nat.le_of_ble_eq_true rfl, Nat.le_of_ble_eq_true rfl⟩, Or.inr rfl, N14, rfl, g14, h14, rfl⟩
