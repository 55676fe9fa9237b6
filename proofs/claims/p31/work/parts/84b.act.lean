/-! THE LAW: act: written by wip/p31/act.py -/
/-- the rows of a ring are sound -/
def SI (B : Nat) (ρ : Rw) (P : Pst9) (V : Sav) : Prop := (∃ t, t ≤ B ∧ Iv t ρ) ∧ (∀ i, i < P.1 → ∃ t, t ≤ B ∧ Iv t (P.2 i)) ∧ ∀ k, k < 2 → V.1 k = true → ∃ t, t ≤ B ∧ Iv t (V.2 k)
section
variable {B B' : Nat} {ρ ρ' : Rw} {P : Pst9} {V : Sav}
theorem SI.mono (h : SI B ρ P V) (hB : B ≤ B') : SI B' ρ P V := by
  obtain ⟨⟨t, h1, h2⟩, h3, h4⟩ := h
  exact ⟨⟨t, by omega, h2⟩, fun i hi => (h3 i hi).elim fun t q => ⟨t, by omega, q.2⟩, fun k hk z => (h4 k hk z).elim fun t q => ⟨t, by omega, q.2⟩⟩
theorem SI.push (h : SI B ρ P V) (hB : B ≤ B') (h' : ∃ t, t ≤ B' ∧ Iv t ρ') : SI B' ρ' (push ρ P) V := by
  obtain ⟨h2, h3, h4⟩ := h.mono hB
  refine ⟨h', fun i hi => ?_, h4⟩
  have hi : i < min (P.1 + 1) 14 := hi
  show ∃ t, t ≤ B' ∧ Iv t (if i = 0 then ρ else P.2 (i - 1))
  split
  · exact h2
  · exact h3 (i - 1) (by omega)
theorem SI.back (h : SI B ρ P V) (ha : 1 ≤ P.1) : SI B (P.2 0) (back P) V := by
  obtain ⟨h2, h3, h4⟩ := h
  refine ⟨h3 0 ha, fun i hi => ?_, h4⟩
  have hi : i < P.1 - 1 := hi
  exact h3 (i + 1) (by omega)
theorem SI.keep (h : SI B ρ P V) {x : Nat} : SI B ρ P (keep V x ρ) := by
  obtain ⟨h2, h3, h4⟩ := h
  refine ⟨h2, h3, fun k hk z => ?_⟩
  show ∃ t, t ≤ B ∧ Iv t (if k = x then ρ else V.2 k)
  have z : (if k = x then true else V.1 k) = true := z
  split
  · exact h2
  · rename_i g
    rw [if_neg g] at z
    exact h4 k hk z
theorem SI.rest (h : SI B ρ P V) {x : Nat} (hx : x < 2) (hf : V.1 x = true) : SI B (V.2 x) (0, P.2) V := ⟨h.2.2 x hx hf, fun i hi => absurd hi (Nat.not_lt_zero _), h.2.2⟩
theorem I_drive {x : Int32} (h : SI B ρ P V) (hB : B < 1000000) (hz : (aDrive ρ x).1 = 0) : SI (B + 1000) (rGo x.toNatClampNeg ρ) (push ρ P) V := by
  obtain ⟨⟨t, ht, hI⟩, _⟩ := id h
  obtain ⟨q, h1, hq, rfl⟩ := drive_ok hz
  rw [ck (by omega)]
  obtain ⟨x1, x2, _⟩ := rGo_V q hI (by omega)
  exact h.push (by omega) ⟨_, by omega, x1⟩
theorem I_cut {x y : Int32} (h : SI B ρ P V) (_ : B < 1000000) (hz : (aCut ρ x y).1 = 0) : SI (B + 1000) (upd (upd ρ 10 x) 11 y) (push ρ P) V := by
  obtain ⟨⟨t, ht, hI⟩, _⟩ := id h
  obtain ⟨q, h1, hq, rfl, hy⟩ := cut_ok hz
  exact h.push (by omega) ⟨t, by omega, cut_V hI h1 hq hy⟩
theorem I_start (h : SI B ρ P V) (hB : B < 1000000) (_ : (aStart ρ).1 = 0) : SI (B + 1000) (rPower ρ) (push ρ P) V := by
  obtain ⟨⟨t, ht, hI⟩, _⟩ := id h
  exact h.push (by omega) ⟨t, by omega, rPower_V hI (by omega)⟩
theorem I_service {x y : Int32} (h : SI B ρ P V) (_ : B < 1000000) (hz : (aService ρ (ρ 17).toNatClampNeg x y).1 = 0) : SI (B + 1000) (rServe ρ (10 * x + y) (ρ 17).toNatClampNeg) (push ρ P) V := by
  obtain ⟨⟨t, ht, hI⟩, _⟩ := id h
  have hr := service_ok hz
  have hc := hI.2.1.cnt
  unfold aService at hz
  split at hz
  · rename_i g
    obtain ⟨a, ha, rfl⟩ := nI_of2 (M := 9) (n := 9) rfl g.1 (Int32.not_lt.mp g.2.1)
    obtain ⟨b, hb, rfl⟩ := nI_of2 (M := 9) (n := 9) rfl g.2.2.1 (Int32.not_lt.mp g.2.2.2)
    rw [code_e] at hr ⊢
    refine h.push (by omega) ⟨t, by omega, serve_V hI hc.1 hc.2 (by omega) (hr.imp (fun q => ?_) (fun q => q))⟩
    rw [hc.1, o_12, nI_ltI (by omega) (by omega)] at q
    exact q
  · cases hz
theorem I_forget {x y : Int32} (h : SI B ρ P V) (_ : B < 1000000) (hz : (aForget ρ (ρ 17).toNatClampNeg x y).1 = 0) : SI (B + 1000) (rDrop ρ (rFnd ρ (10 * x + y) (ρ 17).toNatClampNeg).toNatClampNeg (ρ 17).toNatClampNeg) (push ρ P) V := by
  obtain ⟨⟨t, ht, hI⟩, _⟩ := id h
  have hc := hI.2.1.cnt
  exact h.push (by omega) ⟨t, by omega, drop_V hI hc.1 hc.2 (forget_ok hI.2.1 hz)⟩
theorem I_step {x : Int32} (h : SI B ρ P V) (_ : B < 1000000) (hz : (aStep ρ x).1 = 0) : SI (B + 1000) (upd ρ 1 x) (push ρ P) V := by
  obtain ⟨⟨t, ht, hI⟩, _⟩ := id h
  obtain ⟨q, h1, hq, rfl⟩ := step_ok hz
  exact h.push (by omega) ⟨t, by omega, step_V hI h1 hq⟩
theorem I_repl {x : Int32} (h : SI B ρ P V) (_ : B < 1000000) (hz : (aRepl ρ (ρ 0).toNatClampNeg x).1 = 0) : SI (B + 1000) (rRenew ρ x.toNatClampNeg) (push ρ P) V := by
  obtain ⟨⟨t, ht, hI⟩, _⟩ := id h
  obtain ⟨n, cur, hn3, hn, hcn, e0, e7, ec⟩ := hI.2.1.n
  rw [ec] at hz
  unfold aRepl at hz
  split at hz
  · rename_i g
    split at hz
    · rename_i g2
      obtain ⟨q, hq, rfl⟩ := in_nat' (by omega) g
      rw [ck (by omega)]
      exact h.push (by omega) ⟨t, by omega, rRenew_V hI (by omega) g2.2⟩
    · cases hz
  · cases hz
theorem I_undo (h : SI B ρ P V) (_ : B < 1000000) (hz : (aUndo P.1).1 = 0) : SI (B + 1000) (P.2 0) (back P) V := by
  refine (h.back ?_).mono (by omega)
  unfold aUndo at hz
  split at hz
  · cases hz
  · rename_i g
    rcases Nat.eq_zero_or_pos P.1 with z | z
    · rw [z] at g
      exact absurd rfl g
    · exact z
theorem I_save {x : Int32} (h : SI B ρ P V) (_ : B < 1000000) (_ : (aSave ρ x).1 = 0) : SI (B + 1000) ρ P (keep V x.toNatClampNeg ρ) := h.keep.mono (by omega)
theorem I_rest {x : Int32} (h : SI B ρ P V) (_ : B < 1000000) (hz : (aRs V x).1 = 0) : SI (B + 1000) (V.2 x.toNatClampNeg) (0, P.2) V := by
  obtain ⟨q, hq, rfl, hv⟩ := rest_ok hz
  rw [ck (by omega)]
  exact (h.rest hq hv).mono (by omega)
end
section
variable {A d : Nat} {S : Sc} {N : Nat → Nat → Int32} {J : Nat → Nat → Int64} {B : Nat} {T : Tx} {ρ : Rw} {P : Pst9} {V : Sav} {Q : Res → Wd → Prop}
set_option maxHeartbeats 1000000 in
theorem a_cut (hs : Scn A S) (h : RI B T ρ P V (pbM A N)) (hB : B < 990000) {x y : Int32} (K : ∀ N', Frm A N N' → (¬ (aCut ρ (1 + (y - y / 36 * 36)) (y / 36 - y / 36 / 3 * 3)).1 = 0 → RI B T ρ P V (pbM A N')) → ((aCut ρ (1 + (y - y / 36 * 36)) (y / 36 - y / 36 / 3 * 3)).1 = 0 → RI (B + 1000) T (upd (upd ρ 10 (1 + (y - y / 36 * 36))) 11 (y / 36 - y / 36 / 3 * 3)) (push ρ P) (V) (pbM A N')) → Q (.inl (some (.long (eL (fun c => if c = 1 then 0 else 1) (aCut ρ (1 + (y - y / 36 * 36)) (y / 36 - y / 36 / 3 * 3)))))) (S, N', J)) : EE (SJ (d + 11) 131 (Wp (d + 10)) Q) (72, [(0, .ref (A + 1)), (1, .int x), (2, .int y)], [], (S, N, J), 0, 0) := by
  refine EE.runN (stop := noStop) 40 _ ?_

  refine ⟨by decide, by decide, by decide, ⟨Nat.le_of_ble_eq_true rfl, Nat.le_of_ble_eq_true rfl, Nat.le_of_ble_eq_true rfl⟩, _, X_cut hs h hB, ?_⟩
  rintro rs_ w1 ⟨N1, rfl, hF, ⟨k0, k1⟩, rfl⟩
  refine ⟨Or.inl rfl, ?_⟩
  exact ⟨⟨Nat.le_of_ble_eq_true rfl, Nat.le_of_ble_eq_true rfl⟩, K N1 hF k0 (fun z => (k1 z).mono (by omega))⟩
set_option maxHeartbeats 1000000 in
theorem a_start (hs : Scn A S) (h : RI B T ρ P V (pbM A N)) (hB : B < 990000) {x y : Int32} (K : ∀ N', Frm A N N' → (¬ (aStart ρ).1 = 0 → RI B T ρ P V (pbM A N')) → ((aStart ρ).1 = 0 → RI (B + 1000) T (rPower ρ) (push ρ P) (V) (pbM A N')) → Q (.inl (some (.long (eL (fun c => 1) (aStart ρ))))) (S, N', J)) : EE (SJ (d + 11) 131 (Wp (d + 10)) Q) (89, [(0, .ref (A + 1)), (1, .int x), (2, .int y)], [], (S, N, J), 0, 0) := by
  refine EE.runN (stop := noStop) 40 _ ?_

  refine ⟨⟨Nat.le_of_ble_eq_true rfl, Nat.le_of_ble_eq_true rfl, Nat.le_of_ble_eq_true rfl⟩, _, X_start hs h hB, ?_⟩
  rintro rs_ w1 ⟨N1, rfl, hF, ⟨k0, k1⟩, rfl⟩
  refine ⟨Or.inl rfl, ?_⟩
  exact ⟨⟨Nat.le_of_ble_eq_true rfl, Nat.le_of_ble_eq_true rfl⟩, K N1 hF k0 (fun z => (k1 z).mono (by omega))⟩
set_option maxHeartbeats 1000000 in
theorem a_service (hs : Scn A S) (h : RI B T ρ P V (pbM A N)) (hB : B < 990000) {x y : Int32} (K : ∀ N', Frm A N N' → (¬ (aService ρ (ρ 17).toNatClampNeg (y - y / 4 * 4) (y / 4 - y / 4 / 5 * 5)).1 = 0 → RI B T ρ P V (pbM A N')) → ((aService ρ (ρ 17).toNatClampNeg (y - y / 4 * 4) (y / 4 - y / 4 / 5 * 5)).1 = 0 → RI (B + 1000) T (rServe ρ (10 * (y - y / 4 * 4) + (y / 4 - y / 4 / 5 * 5)) (ρ 17).toNatClampNeg) (push ρ P) (V) (pbM A N')) → Q (.inl (some (.long (eL (fun c => if c = 1 then 0 else 1) (aService ρ (ρ 17).toNatClampNeg (y - y / 4 * 4) (y / 4 - y / 4 / 5 * 5)))))) (S, N', J)) : EE (SJ (d + 11) 131 (Wp (d + 10)) Q) (94, [(0, .ref (A + 1)), (1, .int x), (2, .int y)], [], (S, N, J), 0, 0) := by
  refine EE.runN (stop := noStop) 40 _ ?_

  refine ⟨by decide, by decide, by decide, ⟨Nat.le_of_ble_eq_true rfl, Nat.le_of_ble_eq_true rfl, Nat.le_of_ble_eq_true rfl⟩, _, X_service hs h hB, ?_⟩
  rintro rs_ w1 ⟨N1, rfl, hF, ⟨k0, k1⟩, rfl⟩
  refine ⟨Or.inl rfl, ?_⟩
  exact ⟨⟨Nat.le_of_ble_eq_true rfl, Nat.le_of_ble_eq_true rfl⟩, K N1 hF k0 (fun z => (k1 z).mono (by omega))⟩
set_option maxHeartbeats 1000000 in
theorem a_forget (hs : Scn A S) (h : RI B T ρ P V (pbM A N)) (hB : B < 990000) {x y : Int32} (K : ∀ N', Frm A N N' → (¬ (aForget ρ (ρ 17).toNatClampNeg (y - y / 4 * 4) (y / 4 - y / 4 / 5 * 5)).1 = 0 → RI B T ρ P V (pbM A N')) → ((aForget ρ (ρ 17).toNatClampNeg (y - y / 4 * 4) (y / 4 - y / 4 / 5 * 5)).1 = 0 → RI (B + 1000) T (rDrop ρ (rFnd ρ (10 * (y - y / 4 * 4) + (y / 4 - y / 4 / 5 * 5)) (ρ 17).toNatClampNeg).toNatClampNeg (ρ 17).toNatClampNeg) (push ρ P) (V) (pbM A N')) → Q (.inl (some (.long (eL (fun c => if c = 1 then 0 else 1) (aForget ρ (ρ 17).toNatClampNeg (y - y / 4 * 4) (y / 4 - y / 4 / 5 * 5)))))) (S, N', J)) : EE (SJ (d + 11) 131 (Wp (d + 10)) Q) (107, [(0, .ref (A + 1)), (1, .int x), (2, .int y)], [], (S, N, J), 0, 0) := by
  refine EE.runN (stop := noStop) 40 _ ?_

  refine ⟨by decide, by decide, by decide, ⟨Nat.le_of_ble_eq_true rfl, Nat.le_of_ble_eq_true rfl, Nat.le_of_ble_eq_true rfl⟩, _, X_forget hs h hB, ?_⟩
  rintro rs_ w1 ⟨N1, rfl, hF, ⟨k0, k1⟩, rfl⟩
  refine ⟨Or.inl rfl, ?_⟩
  exact ⟨⟨Nat.le_of_ble_eq_true rfl, Nat.le_of_ble_eq_true rfl⟩, K N1 hF k0 (fun z => (k1 z).mono (by omega))⟩
set_option maxHeartbeats 1000000 in
theorem a_step (hs : Scn A S) (h : RI B T ρ P V (pbM A N)) (hB : B < 990000) {x y : Int32} (K : ∀ N', Frm A N N' → (¬ (aStep ρ (1 + (y - y / 99 * 99))).1 = 0 → RI B T ρ P V (pbM A N')) → ((aStep ρ (1 + (y - y / 99 * 99))).1 = 0 → RI (B + 1000) T (upd ρ 1 (1 + (y - y / 99 * 99))) (push ρ P) (V) (pbM A N')) → Q (.inl (some (.long (eL (fun c => 0) (aStep ρ (1 + (y - y / 99 * 99))))))) (S, N', J)) : EE (SJ (d + 11) 131 (Wp (d + 10)) Q) (120, [(0, .ref (A + 1)), (1, .int x), (2, .int y)], [], (S, N, J), 0, 0) := by
  refine EE.runN (stop := noStop) 40 _ ?_

  refine ⟨by decide, ⟨Nat.le_of_ble_eq_true rfl, Nat.le_of_ble_eq_true rfl, Nat.le_of_ble_eq_true rfl⟩, _, X_setStep hs h hB, ?_⟩
  rintro rs_ w1 ⟨N1, rfl, hF, ⟨k0, k1⟩, rfl⟩
  refine ⟨Or.inl rfl, ?_⟩
  exact ⟨⟨Nat.le_of_ble_eq_true rfl, Nat.le_of_ble_eq_true rfl⟩, K N1 hF k0 (fun z => (k1 z).mono (by omega))⟩
set_option maxHeartbeats 1000000 in
theorem a_repl (hs : Scn A S) (h : RI B T ρ P V (pbM A N)) (hB : B < 990000) {x y : Int32} (K : ∀ N', Frm A N N' → (¬ (aRepl ρ (ρ 0).toNatClampNeg (y - y / 12 * 12)).1 = 0 → RI B T ρ P V (pbM A N')) → ((aRepl ρ (ρ 0).toNatClampNeg (y - y / 12 * 12)).1 = 0 → RI (B + 1000) T (rRenew ρ (y - y / 12 * 12).toNatClampNeg) (push ρ P) (V) (pbM A N')) → Q (.inl (some (.long (eL (fun c => if c = 1 then 2 else 1) (aRepl ρ (ρ 0).toNatClampNeg (y - y / 12 * 12)))))) (S, N', J)) : EE (SJ (d + 11) 131 (Wp (d + 10)) Q) (131, [(0, .ref (A + 1)), (1, .int x), (2, .int y)], [], (S, N, J), 0, 0) := by
  refine EE.runN (stop := noStop) 40 _ ?_

  refine ⟨by decide, ⟨Nat.le_of_ble_eq_true rfl, Nat.le_of_ble_eq_true rfl, Nat.le_of_ble_eq_true rfl⟩, _, X_replace hs h hB, ?_⟩
  rintro rs_ w1 ⟨N1, rfl, hF, ⟨k0, k1⟩, rfl⟩
  refine ⟨Or.inl rfl, ?_⟩
  exact ⟨⟨Nat.le_of_ble_eq_true rfl, Nat.le_of_ble_eq_true rfl⟩, K N1 hF k0 (fun z => (k1 z).mono (by omega))⟩
set_option maxHeartbeats 1000000 in
theorem a_undo (hs : Scn A S) (h : RI B T ρ P V (pbM A N)) (hB : B < 990000) {x y : Int32} (K : ∀ N', Frm A N N' → (¬ (aUndo P.1).1 = 0 → RI B T ρ P V (pbM A N')) → ((aUndo P.1).1 = 0 → RI (B + 1000) T (P.2 0) (back P) (V) (pbM A N')) → Q (.inl (some (.long (eL (fun c => 1) (aUndo P.1))))) (S, N', J)) : EE (SJ (d + 11) 131 (Wp (d + 10)) Q) (140, [(0, .ref (A + 1)), (1, .int x), (2, .int y)], [], (S, N, J), 0, 0) := by
  refine EE.runN (stop := noStop) 40 _ ?_

  refine ⟨⟨Nat.le_of_ble_eq_true rfl, Nat.le_of_ble_eq_true rfl, Nat.le_of_ble_eq_true rfl⟩, _, X_undo hs h hB, ?_⟩
  rintro rs_ w1 ⟨N1, rfl, hF, ⟨k0, k1⟩, rfl⟩
  refine ⟨Or.inl rfl, ?_⟩
  exact ⟨⟨Nat.le_of_ble_eq_true rfl, Nat.le_of_ble_eq_true rfl⟩, K N1 hF k0 (fun z => (k1 z).mono (by omega))⟩
set_option maxHeartbeats 1000000 in
theorem a_save (hs : Scn A S) (h : RI B T ρ P V (pbM A N)) (hB : B < 990000) {x y : Int32} (hy : (y - y / 2 * 2) = 0) (K : ∀ N', Frm A N N' → (¬ (aSave ρ (y / 2 &&& 1)).1 = 0 → RI B T ρ P V (pbM A N')) → ((aSave ρ (y / 2 &&& 1)).1 = 0 → RI (B + 1000) T (ρ) (P) (keep V (y / 2 &&& 1).toNatClampNeg ρ) (pbM A N')) → Q (.inl (some (.long (eL (fun c => 2) (aSave ρ (y / 2 &&& 1)))))) (S, N', J)) : EE (SJ (d + 11) 131 (Wp (d + 10)) Q) (145, [(0, .ref (A + 1)), (1, .int x), (2, .int y)], [], (S, N, J), 0, 0) := by
  refine EE.runN (stop := noStop) 40 _ ?_
  refine ⟨by decide, fun z => absurd hy z, fun _ => ?_⟩
  refine ⟨by decide, ⟨Nat.le_of_ble_eq_true rfl, Nat.le_of_ble_eq_true rfl, Nat.le_of_ble_eq_true rfl⟩, _, X_save hs h hB, ?_⟩
  rintro rs_ w1 ⟨N1, rfl, hF, ⟨k0, k1⟩, rfl⟩
  refine ⟨Or.inl rfl, ?_⟩
  exact ⟨⟨Nat.le_of_ble_eq_true rfl, Nat.le_of_ble_eq_true rfl⟩, K N1 hF k0 (fun z => (k1 z).mono (by omega))⟩
set_option maxHeartbeats 1000000 in
theorem a_rest (hs : Scn A S) (h : RI B T ρ P V (pbM A N)) (hB : B < 990000) {x y : Int32} (hy : ¬ (y - y / 2 * 2) = 0) (K : ∀ N', Frm A N N' → (¬ (aRs V (y / 2 &&& 1)).1 = 0 → RI B T ρ P V (pbM A N')) → ((aRs V (y / 2 &&& 1)).1 = 0 → RI (B + 1000) T (V.2 (y / 2 &&& 1).toNatClampNeg) ((0, P.2)) (V) (pbM A N')) → Q (.inl (some (.long (eL (fun c => if c = 1 then 2 else 1) (aRs V (y / 2 &&& 1)))))) (S, N', J)) : EE (SJ (d + 11) 131 (Wp (d + 10)) Q) (145, [(0, .ref (A + 1)), (1, .int x), (2, .int y)], [], (S, N, J), 0, 0) := by
  refine EE.runN (stop := noStop) 40 _ ?_
  refine ⟨by decide, fun _ => ?_, fun z => absurd z hy⟩
  refine ⟨by decide, ⟨Nat.le_of_ble_eq_true rfl, Nat.le_of_ble_eq_true rfl, Nat.le_of_ble_eq_true rfl⟩, _, X_restore hs h hB, ?_⟩
  rintro rs_ w1 ⟨N1, rfl, hF, ⟨k0, k1⟩, rfl⟩
  refine ⟨Or.inl rfl, ?_⟩
  exact ⟨⟨Nat.le_of_ble_eq_true rfl, Nat.le_of_ble_eq_true rfl⟩, K N1 hF k0 (fun z => (k1 z).mono (by omega))⟩
set_option maxHeartbeats 1000000 in
theorem a_drv1 (hs : Scn A S) (h : RI B T ρ P V (pbM A N)) (hB : B < 990000) {x y : Int32} (hy : (y - y / 3 * 3) = 0) (K : ∀ N', Frm A N N' → (¬ (aDrive ρ (1 + (y / 3 - y / 3 / 999 * 999))).1 = 0 → RI B T ρ P V (pbM A N')) → ((aDrive ρ (1 + (y / 3 - y / 3 / 999 * 999))).1 = 0 → RI (B + 1000) T (rGo (1 + (y / 3 - y / 3 / 999 * 999)).toNatClampNeg ρ) (push ρ P) (V) (pbM A N')) → Q (.inl (some (.long (eL (fun c => if c = 1 then 0 else 1) (aDrive ρ (1 + (y / 3 - y / 3 / 999 * 999))))))) (S, N', J)) : EE (SJ (d + 11) 131 (Wp (d + 10)) Q) (173, [(0, .ref (A + 1)), (1, .int x), (2, .int y)], [], (S, N, J), 0, 0) := by
  refine EE.runN (stop := noStop) 40 _ ?_
  refine ⟨by decide, fun z => absurd hy z, fun _ => ?_⟩
  refine ⟨by decide, by decide, ⟨Nat.le_of_ble_eq_true rfl, Nat.le_of_ble_eq_true rfl, Nat.le_of_ble_eq_true rfl⟩, _, X_drive hs h hB, ?_⟩
  rintro rs_ w1 ⟨N1, rfl, hF, ⟨k0, k1⟩, rfl⟩
  refine ⟨Or.inl rfl, ?_⟩
  exact ⟨⟨Nat.le_of_ble_eq_true rfl, Nat.le_of_ble_eq_true rfl⟩, K N1 hF k0 (fun z => (k1 z).mono (by omega))⟩
set_option maxHeartbeats 1000000 in
theorem a_drv2 (hs : Scn A S) (h : RI B T ρ P V (pbM A N)) (hB : B < 990000) {x y : Int32} (hy : ¬ (y - y / 3 * 3) = 0) (K : ∀ N', Frm A N N' → (¬ (aDrive ρ (1 + (y / 3 - y / 3 / 80 * 80))).1 = 0 → RI B T ρ P V (pbM A N')) → ((aDrive ρ (1 + (y / 3 - y / 3 / 80 * 80))).1 = 0 → RI (B + 1000) T (rGo (1 + (y / 3 - y / 3 / 80 * 80)).toNatClampNeg ρ) (push ρ P) (V) (pbM A N')) → Q (.inl (some (.long (eL (fun c => if c = 1 then 0 else 1) (aDrive ρ (1 + (y / 3 - y / 3 / 80 * 80))))))) (S, N', J)) : EE (SJ (d + 11) 131 (Wp (d + 10)) Q) (173, [(0, .ref (A + 1)), (1, .int x), (2, .int y)], [], (S, N, J), 0, 0) := by
  refine EE.runN (stop := noStop) 40 _ ?_
  refine ⟨by decide, fun _ => ?_, fun z => absurd z hy⟩
  refine ⟨by decide, by decide, ⟨Nat.le_of_ble_eq_true rfl, Nat.le_of_ble_eq_true rfl, Nat.le_of_ble_eq_true rfl⟩, _, X_drive hs h hB, ?_⟩
  rintro rs_ w1 ⟨N1, rfl, hF, ⟨k0, k1⟩, rfl⟩
  refine ⟨Or.inl rfl, ?_⟩
  exact ⟨⟨Nat.le_of_ble_eq_true rfl, Nat.le_of_ble_eq_true rfl⟩, K N1 hF k0 (fun z => (k1 z).mono (by omega))⟩
theorem a_sw0 {x y : Int32} (ez : x - x / 18 * 18 = nI 0) (H : EE (SJ (d + 11) 131 (Wp (d + 10)) Q) (72, [(0, .ref (A + 1)), (1, .int x), (2, .int y)], [], (S, N, J), 0, 0)) : EE (SJ (d + 11) 131 (Wp (d + 10)) Q) (0, [(0, .ref (A + 1)), (1, .int x), (2, .int y)], [], (S, N, J), 0, 0) := by
  refine EE.runN (stop := atPc [72]) 10 _ ?_
  refine ⟨by decide, ?_⟩
  refine ⟨fun _ => H, fun q => absurd ez q⟩
theorem a_sw1 {x y : Int32} (ez : x - x / 18 * 18 = nI 1) (H : EE (SJ (d + 11) 131 (Wp (d + 10)) Q) (72, [(0, .ref (A + 1)), (1, .int x), (2, .int y)], [], (S, N, J), 0, 0)) : EE (SJ (d + 11) 131 (Wp (d + 10)) Q) (0, [(0, .ref (A + 1)), (1, .int x), (2, .int y)], [], (S, N, J), 0, 0) := by
  refine EE.runN (stop := atPc [72]) 10 _ ?_
  refine ⟨by decide, ?_⟩
  refine ⟨fun q => absurd (ez.symm.trans q) (by decide), fun _ => ?_⟩
  refine ⟨fun _ => H, fun q => absurd ez q⟩
theorem a_sw2 {x y : Int32} (ez : x - x / 18 * 18 = nI 2) (H : EE (SJ (d + 11) 131 (Wp (d + 10)) Q) (72, [(0, .ref (A + 1)), (1, .int x), (2, .int y)], [], (S, N, J), 0, 0)) : EE (SJ (d + 11) 131 (Wp (d + 10)) Q) (0, [(0, .ref (A + 1)), (1, .int x), (2, .int y)], [], (S, N, J), 0, 0) := by
  refine EE.runN (stop := atPc [72]) 10 _ ?_
  refine ⟨by decide, ?_⟩
  refine ⟨fun q => absurd (ez.symm.trans q) (by decide), fun _ => ?_⟩
  refine ⟨fun q => absurd (ez.symm.trans q) (by decide), fun _ => ?_⟩
  refine ⟨fun _ => H, fun q => absurd ez q⟩
theorem a_sw3 {x y : Int32} (ez : x - x / 18 * 18 = nI 3) (H : EE (SJ (d + 11) 131 (Wp (d + 10)) Q) (89, [(0, .ref (A + 1)), (1, .int x), (2, .int y)], [], (S, N, J), 0, 0)) : EE (SJ (d + 11) 131 (Wp (d + 10)) Q) (0, [(0, .ref (A + 1)), (1, .int x), (2, .int y)], [], (S, N, J), 0, 0) := by
  refine EE.runN (stop := atPc [89]) 10 _ ?_
  refine ⟨by decide, ?_⟩
  refine ⟨fun q => absurd (ez.symm.trans q) (by decide), fun _ => ?_⟩
  refine ⟨fun q => absurd (ez.symm.trans q) (by decide), fun _ => ?_⟩
  refine ⟨fun q => absurd (ez.symm.trans q) (by decide), fun _ => ?_⟩
  refine ⟨fun _ => H, fun q => absurd ez q⟩
theorem a_sw4 {x y : Int32} (ez : x - x / 18 * 18 = nI 4) (H : EE (SJ (d + 11) 131 (Wp (d + 10)) Q) (89, [(0, .ref (A + 1)), (1, .int x), (2, .int y)], [], (S, N, J), 0, 0)) : EE (SJ (d + 11) 131 (Wp (d + 10)) Q) (0, [(0, .ref (A + 1)), (1, .int x), (2, .int y)], [], (S, N, J), 0, 0) := by
  refine EE.runN (stop := atPc [89]) 10 _ ?_
  refine ⟨by decide, ?_⟩
  refine ⟨fun q => absurd (ez.symm.trans q) (by decide), fun _ => ?_⟩
  refine ⟨fun q => absurd (ez.symm.trans q) (by decide), fun _ => ?_⟩
  refine ⟨fun q => absurd (ez.symm.trans q) (by decide), fun _ => ?_⟩
  refine ⟨fun q => absurd (ez.symm.trans q) (by decide), fun _ => ?_⟩
  refine ⟨fun _ => H, fun q => absurd ez q⟩
theorem a_sw5 {x y : Int32} (ez : x - x / 18 * 18 = nI 5) (H : EE (SJ (d + 11) 131 (Wp (d + 10)) Q) (89, [(0, .ref (A + 1)), (1, .int x), (2, .int y)], [], (S, N, J), 0, 0)) : EE (SJ (d + 11) 131 (Wp (d + 10)) Q) (0, [(0, .ref (A + 1)), (1, .int x), (2, .int y)], [], (S, N, J), 0, 0) := by
  refine EE.runN (stop := atPc [89]) 10 _ ?_
  refine ⟨by decide, ?_⟩
  refine ⟨fun q => absurd (ez.symm.trans q) (by decide), fun _ => ?_⟩
  refine ⟨fun q => absurd (ez.symm.trans q) (by decide), fun _ => ?_⟩
  refine ⟨fun q => absurd (ez.symm.trans q) (by decide), fun _ => ?_⟩
  refine ⟨fun q => absurd (ez.symm.trans q) (by decide), fun _ => ?_⟩
  refine ⟨fun q => absurd (ez.symm.trans q) (by decide), fun _ => ?_⟩
  refine ⟨fun _ => H, fun q => absurd ez q⟩
theorem a_sw6 {x y : Int32} (ez : x - x / 18 * 18 = nI 6) (H : EE (SJ (d + 11) 131 (Wp (d + 10)) Q) (94, [(0, .ref (A + 1)), (1, .int x), (2, .int y)], [], (S, N, J), 0, 0)) : EE (SJ (d + 11) 131 (Wp (d + 10)) Q) (0, [(0, .ref (A + 1)), (1, .int x), (2, .int y)], [], (S, N, J), 0, 0) := by
  refine EE.runN (stop := atPc [94]) 10 _ ?_
  refine ⟨by decide, ?_⟩
  refine ⟨fun q => absurd (ez.symm.trans q) (by decide), fun _ => ?_⟩
  refine ⟨fun q => absurd (ez.symm.trans q) (by decide), fun _ => ?_⟩
  refine ⟨fun q => absurd (ez.symm.trans q) (by decide), fun _ => ?_⟩
  refine ⟨fun q => absurd (ez.symm.trans q) (by decide), fun _ => ?_⟩
  refine ⟨fun q => absurd (ez.symm.trans q) (by decide), fun _ => ?_⟩
  refine ⟨fun q => absurd (ez.symm.trans q) (by decide), fun _ => ?_⟩
  refine ⟨fun _ => H, fun q => absurd ez q⟩
theorem a_sw7 {x y : Int32} (ez : x - x / 18 * 18 = nI 7) (H : EE (SJ (d + 11) 131 (Wp (d + 10)) Q) (94, [(0, .ref (A + 1)), (1, .int x), (2, .int y)], [], (S, N, J), 0, 0)) : EE (SJ (d + 11) 131 (Wp (d + 10)) Q) (0, [(0, .ref (A + 1)), (1, .int x), (2, .int y)], [], (S, N, J), 0, 0) := by
  refine EE.runN (stop := atPc [94]) 10 _ ?_
  refine ⟨by decide, ?_⟩
  refine ⟨fun q => absurd (ez.symm.trans q) (by decide), fun _ => ?_⟩
  refine ⟨fun q => absurd (ez.symm.trans q) (by decide), fun _ => ?_⟩
  refine ⟨fun q => absurd (ez.symm.trans q) (by decide), fun _ => ?_⟩
  refine ⟨fun q => absurd (ez.symm.trans q) (by decide), fun _ => ?_⟩
  refine ⟨fun q => absurd (ez.symm.trans q) (by decide), fun _ => ?_⟩
  refine ⟨fun q => absurd (ez.symm.trans q) (by decide), fun _ => ?_⟩
  refine ⟨fun q => absurd (ez.symm.trans q) (by decide), fun _ => ?_⟩
  refine ⟨fun _ => H, fun q => absurd ez q⟩
theorem a_sw8 {x y : Int32} (ez : x - x / 18 * 18 = nI 8) (H : EE (SJ (d + 11) 131 (Wp (d + 10)) Q) (107, [(0, .ref (A + 1)), (1, .int x), (2, .int y)], [], (S, N, J), 0, 0)) : EE (SJ (d + 11) 131 (Wp (d + 10)) Q) (0, [(0, .ref (A + 1)), (1, .int x), (2, .int y)], [], (S, N, J), 0, 0) := by
  refine EE.runN (stop := atPc [107]) 10 _ ?_
  refine ⟨by decide, ?_⟩
  refine ⟨fun q => absurd (ez.symm.trans q) (by decide), fun _ => ?_⟩
  refine ⟨fun q => absurd (ez.symm.trans q) (by decide), fun _ => ?_⟩
  refine ⟨fun q => absurd (ez.symm.trans q) (by decide), fun _ => ?_⟩
  refine ⟨fun q => absurd (ez.symm.trans q) (by decide), fun _ => ?_⟩
  refine ⟨fun q => absurd (ez.symm.trans q) (by decide), fun _ => ?_⟩
  refine ⟨fun q => absurd (ez.symm.trans q) (by decide), fun _ => ?_⟩
  refine ⟨fun q => absurd (ez.symm.trans q) (by decide), fun _ => ?_⟩
  refine ⟨fun q => absurd (ez.symm.trans q) (by decide), fun _ => ?_⟩
  refine ⟨fun _ => H, fun q => absurd ez q⟩
theorem a_sw9 {x y : Int32} (ez : x - x / 18 * 18 = nI 9) (H : EE (SJ (d + 11) 131 (Wp (d + 10)) Q) (120, [(0, .ref (A + 1)), (1, .int x), (2, .int y)], [], (S, N, J), 0, 0)) : EE (SJ (d + 11) 131 (Wp (d + 10)) Q) (0, [(0, .ref (A + 1)), (1, .int x), (2, .int y)], [], (S, N, J), 0, 0) := by
  refine EE.runN (stop := atPc [120]) 10 _ ?_
  refine ⟨by decide, ?_⟩
  refine ⟨fun q => absurd (ez.symm.trans q) (by decide), fun _ => ?_⟩
  refine ⟨fun q => absurd (ez.symm.trans q) (by decide), fun _ => ?_⟩
  refine ⟨fun q => absurd (ez.symm.trans q) (by decide), fun _ => ?_⟩
  refine ⟨fun q => absurd (ez.symm.trans q) (by decide), fun _ => ?_⟩
  refine ⟨fun q => absurd (ez.symm.trans q) (by decide), fun _ => ?_⟩
  refine ⟨fun q => absurd (ez.symm.trans q) (by decide), fun _ => ?_⟩
  refine ⟨fun q => absurd (ez.symm.trans q) (by decide), fun _ => ?_⟩
  refine ⟨fun q => absurd (ez.symm.trans q) (by decide), fun _ => ?_⟩
  refine ⟨fun q => absurd (ez.symm.trans q) (by decide), fun _ => ?_⟩
  refine ⟨fun _ => H, fun q => absurd ez q⟩
theorem a_sw10 {x y : Int32} (ez : x - x / 18 * 18 = nI 10) (H : EE (SJ (d + 11) 131 (Wp (d + 10)) Q) (131, [(0, .ref (A + 1)), (1, .int x), (2, .int y)], [], (S, N, J), 0, 0)) : EE (SJ (d + 11) 131 (Wp (d + 10)) Q) (0, [(0, .ref (A + 1)), (1, .int x), (2, .int y)], [], (S, N, J), 0, 0) := by
  refine EE.runN (stop := atPc [131]) 10 _ ?_
  refine ⟨by decide, ?_⟩
  refine ⟨fun q => absurd (ez.symm.trans q) (by decide), fun _ => ?_⟩
  refine ⟨fun q => absurd (ez.symm.trans q) (by decide), fun _ => ?_⟩
  refine ⟨fun q => absurd (ez.symm.trans q) (by decide), fun _ => ?_⟩
  refine ⟨fun q => absurd (ez.symm.trans q) (by decide), fun _ => ?_⟩
  refine ⟨fun q => absurd (ez.symm.trans q) (by decide), fun _ => ?_⟩
  refine ⟨fun q => absurd (ez.symm.trans q) (by decide), fun _ => ?_⟩
  refine ⟨fun q => absurd (ez.symm.trans q) (by decide), fun _ => ?_⟩
  refine ⟨fun q => absurd (ez.symm.trans q) (by decide), fun _ => ?_⟩
  refine ⟨fun q => absurd (ez.symm.trans q) (by decide), fun _ => ?_⟩
  refine ⟨fun q => absurd (ez.symm.trans q) (by decide), fun _ => ?_⟩
  refine ⟨fun _ => H, fun q => absurd ez q⟩
theorem a_sw11 {x y : Int32} (ez : x - x / 18 * 18 = nI 11) (H : EE (SJ (d + 11) 131 (Wp (d + 10)) Q) (140, [(0, .ref (A + 1)), (1, .int x), (2, .int y)], [], (S, N, J), 0, 0)) : EE (SJ (d + 11) 131 (Wp (d + 10)) Q) (0, [(0, .ref (A + 1)), (1, .int x), (2, .int y)], [], (S, N, J), 0, 0) := by
  refine EE.runN (stop := atPc [140]) 10 _ ?_
  refine ⟨by decide, ?_⟩
  refine ⟨fun q => absurd (ez.symm.trans q) (by decide), fun _ => ?_⟩
  refine ⟨fun q => absurd (ez.symm.trans q) (by decide), fun _ => ?_⟩
  refine ⟨fun q => absurd (ez.symm.trans q) (by decide), fun _ => ?_⟩
  refine ⟨fun q => absurd (ez.symm.trans q) (by decide), fun _ => ?_⟩
  refine ⟨fun q => absurd (ez.symm.trans q) (by decide), fun _ => ?_⟩
  refine ⟨fun q => absurd (ez.symm.trans q) (by decide), fun _ => ?_⟩
  refine ⟨fun q => absurd (ez.symm.trans q) (by decide), fun _ => ?_⟩
  refine ⟨fun q => absurd (ez.symm.trans q) (by decide), fun _ => ?_⟩
  refine ⟨fun q => absurd (ez.symm.trans q) (by decide), fun _ => ?_⟩
  refine ⟨fun q => absurd (ez.symm.trans q) (by decide), fun _ => ?_⟩
  refine ⟨fun q => absurd (ez.symm.trans q) (by decide), fun _ => ?_⟩
  refine ⟨fun _ => H, fun q => absurd ez q⟩
theorem a_sw12 {x y : Int32} (ez : x - x / 18 * 18 = nI 12) (H : EE (SJ (d + 11) 131 (Wp (d + 10)) Q) (145, [(0, .ref (A + 1)), (1, .int x), (2, .int y)], [], (S, N, J), 0, 0)) : EE (SJ (d + 11) 131 (Wp (d + 10)) Q) (0, [(0, .ref (A + 1)), (1, .int x), (2, .int y)], [], (S, N, J), 0, 0) := by
  refine EE.runN (stop := atPc [145]) 10 _ ?_
  refine ⟨by decide, ?_⟩
  refine ⟨fun q => absurd (ez.symm.trans q) (by decide), fun _ => ?_⟩
  refine ⟨fun q => absurd (ez.symm.trans q) (by decide), fun _ => ?_⟩
  refine ⟨fun q => absurd (ez.symm.trans q) (by decide), fun _ => ?_⟩
  refine ⟨fun q => absurd (ez.symm.trans q) (by decide), fun _ => ?_⟩
  refine ⟨fun q => absurd (ez.symm.trans q) (by decide), fun _ => ?_⟩
  refine ⟨fun q => absurd (ez.symm.trans q) (by decide), fun _ => ?_⟩
  refine ⟨fun q => absurd (ez.symm.trans q) (by decide), fun _ => ?_⟩
  refine ⟨fun q => absurd (ez.symm.trans q) (by decide), fun _ => ?_⟩
  refine ⟨fun q => absurd (ez.symm.trans q) (by decide), fun _ => ?_⟩
  refine ⟨fun q => absurd (ez.symm.trans q) (by decide), fun _ => ?_⟩
  refine ⟨fun q => absurd (ez.symm.trans q) (by decide), fun _ => ?_⟩
  refine ⟨fun q => absurd (ez.symm.trans q) (by decide), fun _ => ?_⟩
  refine ⟨fun _ => H, fun q => absurd ez q⟩
theorem a_sw13 {x y : Int32} (ez : x - x / 18 * 18 = nI 13) (H : EE (SJ (d + 11) 131 (Wp (d + 10)) Q) (173, [(0, .ref (A + 1)), (1, .int x), (2, .int y)], [], (S, N, J), 0, 0)) : EE (SJ (d + 11) 131 (Wp (d + 10)) Q) (0, [(0, .ref (A + 1)), (1, .int x), (2, .int y)], [], (S, N, J), 0, 0) := by
  refine EE.runN (stop := atPc [173]) 10 _ ?_
  refine ⟨by decide, ?_⟩
  refine ⟨fun q => absurd (ez.symm.trans q) (by decide), fun _ => ?_⟩
  refine ⟨fun q => absurd (ez.symm.trans q) (by decide), fun _ => ?_⟩
  refine ⟨fun q => absurd (ez.symm.trans q) (by decide), fun _ => ?_⟩
  refine ⟨fun q => absurd (ez.symm.trans q) (by decide), fun _ => ?_⟩
  refine ⟨fun q => absurd (ez.symm.trans q) (by decide), fun _ => ?_⟩
  refine ⟨fun q => absurd (ez.symm.trans q) (by decide), fun _ => ?_⟩
  refine ⟨fun q => absurd (ez.symm.trans q) (by decide), fun _ => ?_⟩
  refine ⟨fun q => absurd (ez.symm.trans q) (by decide), fun _ => ?_⟩
  refine ⟨fun q => absurd (ez.symm.trans q) (by decide), fun _ => ?_⟩
  refine ⟨fun q => absurd (ez.symm.trans q) (by decide), fun _ => ?_⟩
  refine ⟨fun q => absurd (ez.symm.trans q) (by decide), fun _ => ?_⟩
  refine ⟨fun q => absurd (ez.symm.trans q) (by decide), fun _ => ?_⟩
  refine ⟨fun q => absurd (ez.symm.trans q) (by decide), fun _ => ?_⟩
  exact H
theorem a_sw14 {x y : Int32} (ez : x - x / 18 * 18 = nI 14) (H : EE (SJ (d + 11) 131 (Wp (d + 10)) Q) (173, [(0, .ref (A + 1)), (1, .int x), (2, .int y)], [], (S, N, J), 0, 0)) : EE (SJ (d + 11) 131 (Wp (d + 10)) Q) (0, [(0, .ref (A + 1)), (1, .int x), (2, .int y)], [], (S, N, J), 0, 0) := by
  refine EE.runN (stop := atPc [173]) 10 _ ?_
  refine ⟨by decide, ?_⟩
  refine ⟨fun q => absurd (ez.symm.trans q) (by decide), fun _ => ?_⟩
  refine ⟨fun q => absurd (ez.symm.trans q) (by decide), fun _ => ?_⟩
  refine ⟨fun q => absurd (ez.symm.trans q) (by decide), fun _ => ?_⟩
  refine ⟨fun q => absurd (ez.symm.trans q) (by decide), fun _ => ?_⟩
  refine ⟨fun q => absurd (ez.symm.trans q) (by decide), fun _ => ?_⟩
  refine ⟨fun q => absurd (ez.symm.trans q) (by decide), fun _ => ?_⟩
  refine ⟨fun q => absurd (ez.symm.trans q) (by decide), fun _ => ?_⟩
  refine ⟨fun q => absurd (ez.symm.trans q) (by decide), fun _ => ?_⟩
  refine ⟨fun q => absurd (ez.symm.trans q) (by decide), fun _ => ?_⟩
  refine ⟨fun q => absurd (ez.symm.trans q) (by decide), fun _ => ?_⟩
  refine ⟨fun q => absurd (ez.symm.trans q) (by decide), fun _ => ?_⟩
  refine ⟨fun q => absurd (ez.symm.trans q) (by decide), fun _ => ?_⟩
  refine ⟨fun q => absurd (ez.symm.trans q) (by decide), fun _ => ?_⟩
  exact H
theorem a_sw15 {x y : Int32} (ez : x - x / 18 * 18 = nI 15) (H : EE (SJ (d + 11) 131 (Wp (d + 10)) Q) (173, [(0, .ref (A + 1)), (1, .int x), (2, .int y)], [], (S, N, J), 0, 0)) : EE (SJ (d + 11) 131 (Wp (d + 10)) Q) (0, [(0, .ref (A + 1)), (1, .int x), (2, .int y)], [], (S, N, J), 0, 0) := by
  refine EE.runN (stop := atPc [173]) 10 _ ?_
  refine ⟨by decide, ?_⟩
  refine ⟨fun q => absurd (ez.symm.trans q) (by decide), fun _ => ?_⟩
  refine ⟨fun q => absurd (ez.symm.trans q) (by decide), fun _ => ?_⟩
  refine ⟨fun q => absurd (ez.symm.trans q) (by decide), fun _ => ?_⟩
  refine ⟨fun q => absurd (ez.symm.trans q) (by decide), fun _ => ?_⟩
  refine ⟨fun q => absurd (ez.symm.trans q) (by decide), fun _ => ?_⟩
  refine ⟨fun q => absurd (ez.symm.trans q) (by decide), fun _ => ?_⟩
  refine ⟨fun q => absurd (ez.symm.trans q) (by decide), fun _ => ?_⟩
  refine ⟨fun q => absurd (ez.symm.trans q) (by decide), fun _ => ?_⟩
  refine ⟨fun q => absurd (ez.symm.trans q) (by decide), fun _ => ?_⟩
  refine ⟨fun q => absurd (ez.symm.trans q) (by decide), fun _ => ?_⟩
  refine ⟨fun q => absurd (ez.symm.trans q) (by decide), fun _ => ?_⟩
  refine ⟨fun q => absurd (ez.symm.trans q) (by decide), fun _ => ?_⟩
  refine ⟨fun q => absurd (ez.symm.trans q) (by decide), fun _ => ?_⟩
  exact H
theorem a_sw16 {x y : Int32} (ez : x - x / 18 * 18 = nI 16) (H : EE (SJ (d + 11) 131 (Wp (d + 10)) Q) (173, [(0, .ref (A + 1)), (1, .int x), (2, .int y)], [], (S, N, J), 0, 0)) : EE (SJ (d + 11) 131 (Wp (d + 10)) Q) (0, [(0, .ref (A + 1)), (1, .int x), (2, .int y)], [], (S, N, J), 0, 0) := by
  refine EE.runN (stop := atPc [173]) 10 _ ?_
  refine ⟨by decide, ?_⟩
  refine ⟨fun q => absurd (ez.symm.trans q) (by decide), fun _ => ?_⟩
  refine ⟨fun q => absurd (ez.symm.trans q) (by decide), fun _ => ?_⟩
  refine ⟨fun q => absurd (ez.symm.trans q) (by decide), fun _ => ?_⟩
  refine ⟨fun q => absurd (ez.symm.trans q) (by decide), fun _ => ?_⟩
  refine ⟨fun q => absurd (ez.symm.trans q) (by decide), fun _ => ?_⟩
  refine ⟨fun q => absurd (ez.symm.trans q) (by decide), fun _ => ?_⟩
  refine ⟨fun q => absurd (ez.symm.trans q) (by decide), fun _ => ?_⟩
  refine ⟨fun q => absurd (ez.symm.trans q) (by decide), fun _ => ?_⟩
  refine ⟨fun q => absurd (ez.symm.trans q) (by decide), fun _ => ?_⟩
  refine ⟨fun q => absurd (ez.symm.trans q) (by decide), fun _ => ?_⟩
  refine ⟨fun q => absurd (ez.symm.trans q) (by decide), fun _ => ?_⟩
  refine ⟨fun q => absurd (ez.symm.trans q) (by decide), fun _ => ?_⟩
  refine ⟨fun q => absurd (ez.symm.trans q) (by decide), fun _ => ?_⟩
  exact H
theorem a_sw17 {x y : Int32} (ez : x - x / 18 * 18 = nI 17) (H : EE (SJ (d + 11) 131 (Wp (d + 10)) Q) (173, [(0, .ref (A + 1)), (1, .int x), (2, .int y)], [], (S, N, J), 0, 0)) : EE (SJ (d + 11) 131 (Wp (d + 10)) Q) (0, [(0, .ref (A + 1)), (1, .int x), (2, .int y)], [], (S, N, J), 0, 0) := by
  refine EE.runN (stop := atPc [173]) 10 _ ?_
  refine ⟨by decide, ?_⟩
  refine ⟨fun q => absurd (ez.symm.trans q) (by decide), fun _ => ?_⟩
  refine ⟨fun q => absurd (ez.symm.trans q) (by decide), fun _ => ?_⟩
  refine ⟨fun q => absurd (ez.symm.trans q) (by decide), fun _ => ?_⟩
  refine ⟨fun q => absurd (ez.symm.trans q) (by decide), fun _ => ?_⟩
  refine ⟨fun q => absurd (ez.symm.trans q) (by decide), fun _ => ?_⟩
  refine ⟨fun q => absurd (ez.symm.trans q) (by decide), fun _ => ?_⟩
  refine ⟨fun q => absurd (ez.symm.trans q) (by decide), fun _ => ?_⟩
  refine ⟨fun q => absurd (ez.symm.trans q) (by decide), fun _ => ?_⟩
  refine ⟨fun q => absurd (ez.symm.trans q) (by decide), fun _ => ?_⟩
  refine ⟨fun q => absurd (ez.symm.trans q) (by decide), fun _ => ?_⟩
  refine ⟨fun q => absurd (ez.symm.trans q) (by decide), fun _ => ?_⟩
  refine ⟨fun q => absurd (ez.symm.trans q) (by decide), fun _ => ?_⟩
  refine ⟨fun q => absurd (ez.symm.trans q) (by decide), fun _ => ?_⟩
  exact H
end
/-- what an act answers and leaves, whichever ring does it -/
def ActP (d : Nat) (S : Sc) (B : Nat) (T : Tx) (ρ : Rw) (P : Pst9) (V : Sav) (x y : Int32) (r : Int64) (ρ' : Rw) (P' : Pst9) (V' : Sav) : Prop := SI (B + 1000) ρ' P' V' ∧ ∀ (A : Nat) (N : Nat → Nat → Int32) (J : Nat → Nat → Int64), Scn A S → RI B T ρ P V (pbM A N) → Wp (d + 11) 131 [.ref (A + 1), .int x, .int y] (S, N, J) (fun rs w' => ∃ N', w' = (S, N', J) ∧ Frm A N N' ∧ RI (B + 1000) T ρ' P' V' (pbM A N') ∧ rs = .inl (some (.long r)))
section
variable {d : Nat} {S : Sc} {B : Nat} {T : Tx} {ρ : Rw} {P : Pst9} {V : Sav} {x y : Int32}
theorem act_0 (hS : SI B ρ P V) (hB : B < 990000) (ez : x - x / 18 * 18 = nI 0) : ∃ r ρ' P' V', ActP d S B T ρ P V x y r ρ' P' V' := by
  by_cases hz : (aCut ρ (1 + (y - y / 36 * 36)) (y / 36 - y / 36 / 3 * 3)).1 = 0
  · refine ⟨eL (fun c => if c = 1 then 0 else 1) (aCut ρ (1 + (y - y / 36 * 36)) (y / 36 - y / 36 / 3 * 3)), upd (upd ρ 10 (1 + (y - y / 36 * 36))) 11 (y / 36 - y / 36 / 3 * 3), push ρ P, V, I_cut hS (by omega) hz, fun A N J hs h => ⟨rfl, a_sw0 ez (a_cut hs h hB (fun N' hF _ k1 => ⟨N', rfl, hF, k1 hz, rfl⟩))⟩⟩
  · refine ⟨eL (fun c => if c = 1 then 0 else 1) (aCut ρ (1 + (y - y / 36 * 36)) (y / 36 - y / 36 / 3 * 3)), ρ, P, V, hS.mono (by omega), fun A N J hs h => ⟨rfl, a_sw0 ez (a_cut hs h hB (fun N' hF k0 _ => ⟨N', rfl, hF, (k0 hz).mono (by omega), rfl⟩))⟩⟩
theorem act_1 (hS : SI B ρ P V) (hB : B < 990000) (ez : x - x / 18 * 18 = nI 1) : ∃ r ρ' P' V', ActP d S B T ρ P V x y r ρ' P' V' := by
  by_cases hz : (aCut ρ (1 + (y - y / 36 * 36)) (y / 36 - y / 36 / 3 * 3)).1 = 0
  · refine ⟨eL (fun c => if c = 1 then 0 else 1) (aCut ρ (1 + (y - y / 36 * 36)) (y / 36 - y / 36 / 3 * 3)), upd (upd ρ 10 (1 + (y - y / 36 * 36))) 11 (y / 36 - y / 36 / 3 * 3), push ρ P, V, I_cut hS (by omega) hz, fun A N J hs h => ⟨rfl, a_sw1 ez (a_cut hs h hB (fun N' hF _ k1 => ⟨N', rfl, hF, k1 hz, rfl⟩))⟩⟩
  · refine ⟨eL (fun c => if c = 1 then 0 else 1) (aCut ρ (1 + (y - y / 36 * 36)) (y / 36 - y / 36 / 3 * 3)), ρ, P, V, hS.mono (by omega), fun A N J hs h => ⟨rfl, a_sw1 ez (a_cut hs h hB (fun N' hF k0 _ => ⟨N', rfl, hF, (k0 hz).mono (by omega), rfl⟩))⟩⟩
theorem act_2 (hS : SI B ρ P V) (hB : B < 990000) (ez : x - x / 18 * 18 = nI 2) : ∃ r ρ' P' V', ActP d S B T ρ P V x y r ρ' P' V' := by
  by_cases hz : (aCut ρ (1 + (y - y / 36 * 36)) (y / 36 - y / 36 / 3 * 3)).1 = 0
  · refine ⟨eL (fun c => if c = 1 then 0 else 1) (aCut ρ (1 + (y - y / 36 * 36)) (y / 36 - y / 36 / 3 * 3)), upd (upd ρ 10 (1 + (y - y / 36 * 36))) 11 (y / 36 - y / 36 / 3 * 3), push ρ P, V, I_cut hS (by omega) hz, fun A N J hs h => ⟨rfl, a_sw2 ez (a_cut hs h hB (fun N' hF _ k1 => ⟨N', rfl, hF, k1 hz, rfl⟩))⟩⟩
  · refine ⟨eL (fun c => if c = 1 then 0 else 1) (aCut ρ (1 + (y - y / 36 * 36)) (y / 36 - y / 36 / 3 * 3)), ρ, P, V, hS.mono (by omega), fun A N J hs h => ⟨rfl, a_sw2 ez (a_cut hs h hB (fun N' hF k0 _ => ⟨N', rfl, hF, (k0 hz).mono (by omega), rfl⟩))⟩⟩
theorem act_3 (hS : SI B ρ P V) (hB : B < 990000) (ez : x - x / 18 * 18 = nI 3) : ∃ r ρ' P' V', ActP d S B T ρ P V x y r ρ' P' V' := by
  by_cases hz : (aStart ρ).1 = 0
  · refine ⟨eL (fun c => 1) (aStart ρ), rPower ρ, push ρ P, V, I_start hS (by omega) hz, fun A N J hs h => ⟨rfl, a_sw3 ez (a_start hs h hB (fun N' hF _ k1 => ⟨N', rfl, hF, k1 hz, rfl⟩))⟩⟩
  · refine ⟨eL (fun c => 1) (aStart ρ), ρ, P, V, hS.mono (by omega), fun A N J hs h => ⟨rfl, a_sw3 ez (a_start hs h hB (fun N' hF k0 _ => ⟨N', rfl, hF, (k0 hz).mono (by omega), rfl⟩))⟩⟩
theorem act_4 (hS : SI B ρ P V) (hB : B < 990000) (ez : x - x / 18 * 18 = nI 4) : ∃ r ρ' P' V', ActP d S B T ρ P V x y r ρ' P' V' := by
  by_cases hz : (aStart ρ).1 = 0
  · refine ⟨eL (fun c => 1) (aStart ρ), rPower ρ, push ρ P, V, I_start hS (by omega) hz, fun A N J hs h => ⟨rfl, a_sw4 ez (a_start hs h hB (fun N' hF _ k1 => ⟨N', rfl, hF, k1 hz, rfl⟩))⟩⟩
  · refine ⟨eL (fun c => 1) (aStart ρ), ρ, P, V, hS.mono (by omega), fun A N J hs h => ⟨rfl, a_sw4 ez (a_start hs h hB (fun N' hF k0 _ => ⟨N', rfl, hF, (k0 hz).mono (by omega), rfl⟩))⟩⟩
theorem act_5 (hS : SI B ρ P V) (hB : B < 990000) (ez : x - x / 18 * 18 = nI 5) : ∃ r ρ' P' V', ActP d S B T ρ P V x y r ρ' P' V' := by
  by_cases hz : (aStart ρ).1 = 0
  · refine ⟨eL (fun c => 1) (aStart ρ), rPower ρ, push ρ P, V, I_start hS (by omega) hz, fun A N J hs h => ⟨rfl, a_sw5 ez (a_start hs h hB (fun N' hF _ k1 => ⟨N', rfl, hF, k1 hz, rfl⟩))⟩⟩
  · refine ⟨eL (fun c => 1) (aStart ρ), ρ, P, V, hS.mono (by omega), fun A N J hs h => ⟨rfl, a_sw5 ez (a_start hs h hB (fun N' hF k0 _ => ⟨N', rfl, hF, (k0 hz).mono (by omega), rfl⟩))⟩⟩
theorem act_6 (hS : SI B ρ P V) (hB : B < 990000) (ez : x - x / 18 * 18 = nI 6) : ∃ r ρ' P' V', ActP d S B T ρ P V x y r ρ' P' V' := by
  by_cases hz : (aService ρ (ρ 17).toNatClampNeg (y - y / 4 * 4) (y / 4 - y / 4 / 5 * 5)).1 = 0
  · refine ⟨eL (fun c => if c = 1 then 0 else 1) (aService ρ (ρ 17).toNatClampNeg (y - y / 4 * 4) (y / 4 - y / 4 / 5 * 5)), rServe ρ (10 * (y - y / 4 * 4) + (y / 4 - y / 4 / 5 * 5)) (ρ 17).toNatClampNeg, push ρ P, V, I_service hS (by omega) hz, fun A N J hs h => ⟨rfl, a_sw6 ez (a_service hs h hB (fun N' hF _ k1 => ⟨N', rfl, hF, k1 hz, rfl⟩))⟩⟩
  · refine ⟨eL (fun c => if c = 1 then 0 else 1) (aService ρ (ρ 17).toNatClampNeg (y - y / 4 * 4) (y / 4 - y / 4 / 5 * 5)), ρ, P, V, hS.mono (by omega), fun A N J hs h => ⟨rfl, a_sw6 ez (a_service hs h hB (fun N' hF k0 _ => ⟨N', rfl, hF, (k0 hz).mono (by omega), rfl⟩))⟩⟩
theorem act_7 (hS : SI B ρ P V) (hB : B < 990000) (ez : x - x / 18 * 18 = nI 7) : ∃ r ρ' P' V', ActP d S B T ρ P V x y r ρ' P' V' := by
  by_cases hz : (aService ρ (ρ 17).toNatClampNeg (y - y / 4 * 4) (y / 4 - y / 4 / 5 * 5)).1 = 0
  · refine ⟨eL (fun c => if c = 1 then 0 else 1) (aService ρ (ρ 17).toNatClampNeg (y - y / 4 * 4) (y / 4 - y / 4 / 5 * 5)), rServe ρ (10 * (y - y / 4 * 4) + (y / 4 - y / 4 / 5 * 5)) (ρ 17).toNatClampNeg, push ρ P, V, I_service hS (by omega) hz, fun A N J hs h => ⟨rfl, a_sw7 ez (a_service hs h hB (fun N' hF _ k1 => ⟨N', rfl, hF, k1 hz, rfl⟩))⟩⟩
  · refine ⟨eL (fun c => if c = 1 then 0 else 1) (aService ρ (ρ 17).toNatClampNeg (y - y / 4 * 4) (y / 4 - y / 4 / 5 * 5)), ρ, P, V, hS.mono (by omega), fun A N J hs h => ⟨rfl, a_sw7 ez (a_service hs h hB (fun N' hF k0 _ => ⟨N', rfl, hF, (k0 hz).mono (by omega), rfl⟩))⟩⟩
theorem act_8 (hS : SI B ρ P V) (hB : B < 990000) (ez : x - x / 18 * 18 = nI 8) : ∃ r ρ' P' V', ActP d S B T ρ P V x y r ρ' P' V' := by
  by_cases hz : (aForget ρ (ρ 17).toNatClampNeg (y - y / 4 * 4) (y / 4 - y / 4 / 5 * 5)).1 = 0
  · refine ⟨eL (fun c => if c = 1 then 0 else 1) (aForget ρ (ρ 17).toNatClampNeg (y - y / 4 * 4) (y / 4 - y / 4 / 5 * 5)), rDrop ρ (rFnd ρ (10 * (y - y / 4 * 4) + (y / 4 - y / 4 / 5 * 5)) (ρ 17).toNatClampNeg).toNatClampNeg (ρ 17).toNatClampNeg, push ρ P, V, I_forget hS (by omega) hz, fun A N J hs h => ⟨rfl, a_sw8 ez (a_forget hs h hB (fun N' hF _ k1 => ⟨N', rfl, hF, k1 hz, rfl⟩))⟩⟩
  · refine ⟨eL (fun c => if c = 1 then 0 else 1) (aForget ρ (ρ 17).toNatClampNeg (y - y / 4 * 4) (y / 4 - y / 4 / 5 * 5)), ρ, P, V, hS.mono (by omega), fun A N J hs h => ⟨rfl, a_sw8 ez (a_forget hs h hB (fun N' hF k0 _ => ⟨N', rfl, hF, (k0 hz).mono (by omega), rfl⟩))⟩⟩
theorem act_9 (hS : SI B ρ P V) (hB : B < 990000) (ez : x - x / 18 * 18 = nI 9) : ∃ r ρ' P' V', ActP d S B T ρ P V x y r ρ' P' V' := by
  by_cases hz : (aStep ρ (1 + (y - y / 99 * 99))).1 = 0
  · refine ⟨eL (fun c => 0) (aStep ρ (1 + (y - y / 99 * 99))), upd ρ 1 (1 + (y - y / 99 * 99)), push ρ P, V, I_step hS (by omega) hz, fun A N J hs h => ⟨rfl, a_sw9 ez (a_step hs h hB (fun N' hF _ k1 => ⟨N', rfl, hF, k1 hz, rfl⟩))⟩⟩
  · refine ⟨eL (fun c => 0) (aStep ρ (1 + (y - y / 99 * 99))), ρ, P, V, hS.mono (by omega), fun A N J hs h => ⟨rfl, a_sw9 ez (a_step hs h hB (fun N' hF k0 _ => ⟨N', rfl, hF, (k0 hz).mono (by omega), rfl⟩))⟩⟩
theorem act_10 (hS : SI B ρ P V) (hB : B < 990000) (ez : x - x / 18 * 18 = nI 10) : ∃ r ρ' P' V', ActP d S B T ρ P V x y r ρ' P' V' := by
  by_cases hz : (aRepl ρ (ρ 0).toNatClampNeg (y - y / 12 * 12)).1 = 0
  · refine ⟨eL (fun c => if c = 1 then 2 else 1) (aRepl ρ (ρ 0).toNatClampNeg (y - y / 12 * 12)), rRenew ρ (y - y / 12 * 12).toNatClampNeg, push ρ P, V, I_repl hS (by omega) hz, fun A N J hs h => ⟨rfl, a_sw10 ez (a_repl hs h hB (fun N' hF _ k1 => ⟨N', rfl, hF, k1 hz, rfl⟩))⟩⟩
  · refine ⟨eL (fun c => if c = 1 then 2 else 1) (aRepl ρ (ρ 0).toNatClampNeg (y - y / 12 * 12)), ρ, P, V, hS.mono (by omega), fun A N J hs h => ⟨rfl, a_sw10 ez (a_repl hs h hB (fun N' hF k0 _ => ⟨N', rfl, hF, (k0 hz).mono (by omega), rfl⟩))⟩⟩
theorem act_11 (hS : SI B ρ P V) (hB : B < 990000) (ez : x - x / 18 * 18 = nI 11) : ∃ r ρ' P' V', ActP d S B T ρ P V x y r ρ' P' V' := by
  by_cases hz : (aUndo P.1).1 = 0
  · refine ⟨eL (fun c => 1) (aUndo P.1), P.2 0, back P, V, I_undo hS (by omega) hz, fun A N J hs h => ⟨rfl, a_sw11 ez (a_undo hs h hB (fun N' hF _ k1 => ⟨N', rfl, hF, k1 hz, rfl⟩))⟩⟩
  · refine ⟨eL (fun c => 1) (aUndo P.1), ρ, P, V, hS.mono (by omega), fun A N J hs h => ⟨rfl, a_sw11 ez (a_undo hs h hB (fun N' hF k0 _ => ⟨N', rfl, hF, (k0 hz).mono (by omega), rfl⟩))⟩⟩
theorem act_12 (hS : SI B ρ P V) (hB : B < 990000) (ez : x - x / 18 * 18 = nI 12) : ∃ r ρ' P' V', ActP d S B T ρ P V x y r ρ' P' V' := by
  by_cases hy : (y - y / 2 * 2) = 0
  · by_cases hz : (aSave ρ (y / 2 &&& 1)).1 = 0
    · refine ⟨eL (fun c => 2) (aSave ρ (y / 2 &&& 1)), ρ, P, keep V (y / 2 &&& 1).toNatClampNeg ρ, I_save hS (by omega) hz, fun A N J hs h => ⟨rfl, a_sw12 ez (a_save hs h hB hy (fun N' hF _ k1 => ⟨N', rfl, hF, k1 hz, rfl⟩))⟩⟩
    · refine ⟨eL (fun c => 2) (aSave ρ (y / 2 &&& 1)), ρ, P, V, hS.mono (by omega), fun A N J hs h => ⟨rfl, a_sw12 ez (a_save hs h hB hy (fun N' hF k0 _ => ⟨N', rfl, hF, (k0 hz).mono (by omega), rfl⟩))⟩⟩
  · by_cases hz : (aRs V (y / 2 &&& 1)).1 = 0
    · refine ⟨eL (fun c => if c = 1 then 2 else 1) (aRs V (y / 2 &&& 1)), V.2 (y / 2 &&& 1).toNatClampNeg, (0, P.2), V, I_rest hS (by omega) hz, fun A N J hs h => ⟨rfl, a_sw12 ez (a_rest hs h hB hy (fun N' hF _ k1 => ⟨N', rfl, hF, k1 hz, rfl⟩))⟩⟩
    · refine ⟨eL (fun c => if c = 1 then 2 else 1) (aRs V (y / 2 &&& 1)), ρ, P, V, hS.mono (by omega), fun A N J hs h => ⟨rfl, a_sw12 ez (a_rest hs h hB hy (fun N' hF k0 _ => ⟨N', rfl, hF, (k0 hz).mono (by omega), rfl⟩))⟩⟩
theorem act_13 (hS : SI B ρ P V) (hB : B < 990000) (ez : x - x / 18 * 18 = nI 13) : ∃ r ρ' P' V', ActP d S B T ρ P V x y r ρ' P' V' := by
  by_cases hy : (y - y / 3 * 3) = 0
  · by_cases hz : (aDrive ρ (1 + (y / 3 - y / 3 / 999 * 999))).1 = 0
    · refine ⟨eL (fun c => if c = 1 then 0 else 1) (aDrive ρ (1 + (y / 3 - y / 3 / 999 * 999))), rGo (1 + (y / 3 - y / 3 / 999 * 999)).toNatClampNeg ρ, push ρ P, V, I_drive hS (by omega) hz, fun A N J hs h => ⟨rfl, a_sw13 ez (a_drv1 hs h hB hy (fun N' hF _ k1 => ⟨N', rfl, hF, k1 hz, rfl⟩))⟩⟩
    · refine ⟨eL (fun c => if c = 1 then 0 else 1) (aDrive ρ (1 + (y / 3 - y / 3 / 999 * 999))), ρ, P, V, hS.mono (by omega), fun A N J hs h => ⟨rfl, a_sw13 ez (a_drv1 hs h hB hy (fun N' hF k0 _ => ⟨N', rfl, hF, (k0 hz).mono (by omega), rfl⟩))⟩⟩
  · by_cases hz : (aDrive ρ (1 + (y / 3 - y / 3 / 80 * 80))).1 = 0
    · refine ⟨eL (fun c => if c = 1 then 0 else 1) (aDrive ρ (1 + (y / 3 - y / 3 / 80 * 80))), rGo (1 + (y / 3 - y / 3 / 80 * 80)).toNatClampNeg ρ, push ρ P, V, I_drive hS (by omega) hz, fun A N J hs h => ⟨rfl, a_sw13 ez (a_drv2 hs h hB hy (fun N' hF _ k1 => ⟨N', rfl, hF, k1 hz, rfl⟩))⟩⟩
    · refine ⟨eL (fun c => if c = 1 then 0 else 1) (aDrive ρ (1 + (y / 3 - y / 3 / 80 * 80))), ρ, P, V, hS.mono (by omega), fun A N J hs h => ⟨rfl, a_sw13 ez (a_drv2 hs h hB hy (fun N' hF k0 _ => ⟨N', rfl, hF, (k0 hz).mono (by omega), rfl⟩))⟩⟩
theorem act_14 (hS : SI B ρ P V) (hB : B < 990000) (ez : x - x / 18 * 18 = nI 14) : ∃ r ρ' P' V', ActP d S B T ρ P V x y r ρ' P' V' := by
  by_cases hy : (y - y / 3 * 3) = 0
  · by_cases hz : (aDrive ρ (1 + (y / 3 - y / 3 / 999 * 999))).1 = 0
    · refine ⟨eL (fun c => if c = 1 then 0 else 1) (aDrive ρ (1 + (y / 3 - y / 3 / 999 * 999))), rGo (1 + (y / 3 - y / 3 / 999 * 999)).toNatClampNeg ρ, push ρ P, V, I_drive hS (by omega) hz, fun A N J hs h => ⟨rfl, a_sw14 ez (a_drv1 hs h hB hy (fun N' hF _ k1 => ⟨N', rfl, hF, k1 hz, rfl⟩))⟩⟩
    · refine ⟨eL (fun c => if c = 1 then 0 else 1) (aDrive ρ (1 + (y / 3 - y / 3 / 999 * 999))), ρ, P, V, hS.mono (by omega), fun A N J hs h => ⟨rfl, a_sw14 ez (a_drv1 hs h hB hy (fun N' hF k0 _ => ⟨N', rfl, hF, (k0 hz).mono (by omega), rfl⟩))⟩⟩
  · by_cases hz : (aDrive ρ (1 + (y / 3 - y / 3 / 80 * 80))).1 = 0
    · refine ⟨eL (fun c => if c = 1 then 0 else 1) (aDrive ρ (1 + (y / 3 - y / 3 / 80 * 80))), rGo (1 + (y / 3 - y / 3 / 80 * 80)).toNatClampNeg ρ, push ρ P, V, I_drive hS (by omega) hz, fun A N J hs h => ⟨rfl, a_sw14 ez (a_drv2 hs h hB hy (fun N' hF _ k1 => ⟨N', rfl, hF, k1 hz, rfl⟩))⟩⟩
    · refine ⟨eL (fun c => if c = 1 then 0 else 1) (aDrive ρ (1 + (y / 3 - y / 3 / 80 * 80))), ρ, P, V, hS.mono (by omega), fun A N J hs h => ⟨rfl, a_sw14 ez (a_drv2 hs h hB hy (fun N' hF k0 _ => ⟨N', rfl, hF, (k0 hz).mono (by omega), rfl⟩))⟩⟩
theorem act_15 (hS : SI B ρ P V) (hB : B < 990000) (ez : x - x / 18 * 18 = nI 15) : ∃ r ρ' P' V', ActP d S B T ρ P V x y r ρ' P' V' := by
  by_cases hy : (y - y / 3 * 3) = 0
  · by_cases hz : (aDrive ρ (1 + (y / 3 - y / 3 / 999 * 999))).1 = 0
    · refine ⟨eL (fun c => if c = 1 then 0 else 1) (aDrive ρ (1 + (y / 3 - y / 3 / 999 * 999))), rGo (1 + (y / 3 - y / 3 / 999 * 999)).toNatClampNeg ρ, push ρ P, V, I_drive hS (by omega) hz, fun A N J hs h => ⟨rfl, a_sw15 ez (a_drv1 hs h hB hy (fun N' hF _ k1 => ⟨N', rfl, hF, k1 hz, rfl⟩))⟩⟩
    · refine ⟨eL (fun c => if c = 1 then 0 else 1) (aDrive ρ (1 + (y / 3 - y / 3 / 999 * 999))), ρ, P, V, hS.mono (by omega), fun A N J hs h => ⟨rfl, a_sw15 ez (a_drv1 hs h hB hy (fun N' hF k0 _ => ⟨N', rfl, hF, (k0 hz).mono (by omega), rfl⟩))⟩⟩
  · by_cases hz : (aDrive ρ (1 + (y / 3 - y / 3 / 80 * 80))).1 = 0
    · refine ⟨eL (fun c => if c = 1 then 0 else 1) (aDrive ρ (1 + (y / 3 - y / 3 / 80 * 80))), rGo (1 + (y / 3 - y / 3 / 80 * 80)).toNatClampNeg ρ, push ρ P, V, I_drive hS (by omega) hz, fun A N J hs h => ⟨rfl, a_sw15 ez (a_drv2 hs h hB hy (fun N' hF _ k1 => ⟨N', rfl, hF, k1 hz, rfl⟩))⟩⟩
    · refine ⟨eL (fun c => if c = 1 then 0 else 1) (aDrive ρ (1 + (y / 3 - y / 3 / 80 * 80))), ρ, P, V, hS.mono (by omega), fun A N J hs h => ⟨rfl, a_sw15 ez (a_drv2 hs h hB hy (fun N' hF k0 _ => ⟨N', rfl, hF, (k0 hz).mono (by omega), rfl⟩))⟩⟩
theorem act_16 (hS : SI B ρ P V) (hB : B < 990000) (ez : x - x / 18 * 18 = nI 16) : ∃ r ρ' P' V', ActP d S B T ρ P V x y r ρ' P' V' := by
  by_cases hy : (y - y / 3 * 3) = 0
  · by_cases hz : (aDrive ρ (1 + (y / 3 - y / 3 / 999 * 999))).1 = 0
    · refine ⟨eL (fun c => if c = 1 then 0 else 1) (aDrive ρ (1 + (y / 3 - y / 3 / 999 * 999))), rGo (1 + (y / 3 - y / 3 / 999 * 999)).toNatClampNeg ρ, push ρ P, V, I_drive hS (by omega) hz, fun A N J hs h => ⟨rfl, a_sw16 ez (a_drv1 hs h hB hy (fun N' hF _ k1 => ⟨N', rfl, hF, k1 hz, rfl⟩))⟩⟩
    · refine ⟨eL (fun c => if c = 1 then 0 else 1) (aDrive ρ (1 + (y / 3 - y / 3 / 999 * 999))), ρ, P, V, hS.mono (by omega), fun A N J hs h => ⟨rfl, a_sw16 ez (a_drv1 hs h hB hy (fun N' hF k0 _ => ⟨N', rfl, hF, (k0 hz).mono (by omega), rfl⟩))⟩⟩
  · by_cases hz : (aDrive ρ (1 + (y / 3 - y / 3 / 80 * 80))).1 = 0
    · refine ⟨eL (fun c => if c = 1 then 0 else 1) (aDrive ρ (1 + (y / 3 - y / 3 / 80 * 80))), rGo (1 + (y / 3 - y / 3 / 80 * 80)).toNatClampNeg ρ, push ρ P, V, I_drive hS (by omega) hz, fun A N J hs h => ⟨rfl, a_sw16 ez (a_drv2 hs h hB hy (fun N' hF _ k1 => ⟨N', rfl, hF, k1 hz, rfl⟩))⟩⟩
    · refine ⟨eL (fun c => if c = 1 then 0 else 1) (aDrive ρ (1 + (y / 3 - y / 3 / 80 * 80))), ρ, P, V, hS.mono (by omega), fun A N J hs h => ⟨rfl, a_sw16 ez (a_drv2 hs h hB hy (fun N' hF k0 _ => ⟨N', rfl, hF, (k0 hz).mono (by omega), rfl⟩))⟩⟩
theorem act_17 (hS : SI B ρ P V) (hB : B < 990000) (ez : x - x / 18 * 18 = nI 17) : ∃ r ρ' P' V', ActP d S B T ρ P V x y r ρ' P' V' := by
  by_cases hy : (y - y / 3 * 3) = 0
  · by_cases hz : (aDrive ρ (1 + (y / 3 - y / 3 / 999 * 999))).1 = 0
    · refine ⟨eL (fun c => if c = 1 then 0 else 1) (aDrive ρ (1 + (y / 3 - y / 3 / 999 * 999))), rGo (1 + (y / 3 - y / 3 / 999 * 999)).toNatClampNeg ρ, push ρ P, V, I_drive hS (by omega) hz, fun A N J hs h => ⟨rfl, a_sw17 ez (a_drv1 hs h hB hy (fun N' hF _ k1 => ⟨N', rfl, hF, k1 hz, rfl⟩))⟩⟩
    · refine ⟨eL (fun c => if c = 1 then 0 else 1) (aDrive ρ (1 + (y / 3 - y / 3 / 999 * 999))), ρ, P, V, hS.mono (by omega), fun A N J hs h => ⟨rfl, a_sw17 ez (a_drv1 hs h hB hy (fun N' hF k0 _ => ⟨N', rfl, hF, (k0 hz).mono (by omega), rfl⟩))⟩⟩
  · by_cases hz : (aDrive ρ (1 + (y / 3 - y / 3 / 80 * 80))).1 = 0
    · refine ⟨eL (fun c => if c = 1 then 0 else 1) (aDrive ρ (1 + (y / 3 - y / 3 / 80 * 80))), rGo (1 + (y / 3 - y / 3 / 80 * 80)).toNatClampNeg ρ, push ρ P, V, I_drive hS (by omega) hz, fun A N J hs h => ⟨rfl, a_sw17 ez (a_drv2 hs h hB hy (fun N' hF _ k1 => ⟨N', rfl, hF, k1 hz, rfl⟩))⟩⟩
    · refine ⟨eL (fun c => if c = 1 then 0 else 1) (aDrive ρ (1 + (y / 3 - y / 3 / 80 * 80))), ρ, P, V, hS.mono (by omega), fun A N J hs h => ⟨rfl, a_sw17 ez (a_drv2 hs h hB hy (fun N' hF k0 _ => ⟨N', rfl, hF, (k0 hz).mono (by omega), rfl⟩))⟩⟩
theorem act_all (hS : SI B ρ P V) (hB : B < 990000) {q : Nat} (hq : q < 2147483648) (hx : x = nI q) : ∃ r ρ' P' V', ActP d S B T ρ P V x y r ρ' P' V' := by
  have e : x - x / 18 * 18 = nI (q % 18) := by
    rw [hx, show (18 : Int32) = nI 18 from rfl, pk_div (by omega) (by omega) (by omega), pk_mul, pk_sub (by omega), show q - q / 18 * 18 = q % 18 by omega]
  rcases (show q % 18 = 0 ∨ q % 18 = 1 ∨ q % 18 = 2 ∨ q % 18 = 3 ∨ q % 18 = 4 ∨ q % 18 = 5 ∨ q % 18 = 6 ∨ q % 18 = 7 ∨ q % 18 = 8 ∨ q % 18 = 9 ∨ q % 18 = 10 ∨ q % 18 = 11 ∨ q % 18 = 12 ∨ q % 18 = 13 ∨ q % 18 = 14 ∨ q % 18 = 15 ∨ q % 18 = 16 ∨ q % 18 = 17 by omega) with g | g | g | g | g | g | g | g | g | g | g | g | g | g | g | g | g | g <;> rw [g] at e
  · exact act_0 hS hB e
  · exact act_1 hS hB e
  · exact act_2 hS hB e
  · exact act_3 hS hB e
  · exact act_4 hS hB e
  · exact act_5 hS hB e
  · exact act_6 hS hB e
  · exact act_7 hS hB e
  · exact act_8 hS hB e
  · exact act_9 hS hB e
  · exact act_10 hS hB e
  · exact act_11 hS hB e
  · exact act_12 hS hB e
  · exact act_13 hS hB e
  · exact act_14 hS hB e
  · exact act_15 hS hB e
  · exact act_16 hS hB e
  · exact act_17 hS hB e
end
