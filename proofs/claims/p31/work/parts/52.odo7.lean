/-! THE CLASS: a script's command, a round, a new state: written by wip/whole/pure3.py -/
theorem ee_w {S : SF} {pc : Nat} {ls : List (Nat × Value)} {st : List Value} {w : Wd} (w' : Wd) {nc ns : Nat} (hw : w = w') (h : EE S (pc, ls, st, w', nc, ns)) : EE S (pc, ls, st, w, nc, ns) := by
  subst hw
  exact h
set_option maxHeartbeats 1000000 in
theorem T_og0 {d : Nat} {S : Sc} {M : Nat → Nat → Int32} {J : Nat → Nat → Int64} {b : Nat} {σ : Rw} (hS : OdS S b) {g : Nat} (hg : g < 10000) (hk : g / 1000 = 0) : Wp (d + 7) 35 [.ref b, .int (nI g)] (S, sO M b σ, J) (fun rs w' => rs = .inl (some (.int (0))) ∧ w' = (S, sO M b (σ), J)) := by
  obtain ⟨⟨k0, k1, k2, k3, k4, k5, k6⟩, ⟨r0, r1, r12, r13, r41, r42⟩, l2, l3, l5, l6⟩ := id hS
  have e2 : nI g / 100 - nI g / 100 / 10 * 10 = nI (g / 100 % 10) := by rw [o_100, o_10, pk_div (by omega) (by omega) (by omega), pk_rem (by omega) (by omega) (by omega)]
  have e3 : nI g / 10 - nI g / 10 / 10 * 10 = nI (g / 10 % 10) := by rw [o_10, pk_div (by omega) (by omega) (by omega), pk_rem (by omega) (by omega) (by omega)]
  have e4 : nI g - nI g / 10 * 10 = nI (g % 10) := by rw [o_10, pk_rem (by omega) (by omega) (by omega)]
  have e5 : nI g - nI g / 1000 * 1000 = nI (g % 1000) := by rw [o_1000, pk_rem (by omega) (by omega) (by omega)]
  have e6 : nI g - nI g / 100 * 100 = nI (g % 100) := by rw [o_100, pk_rem (by omega) (by omega) (by omega)]
  have hv : nI g / 1000 = nI (g / 1000) := by rw [o_1000, pk_div (by omega) (by omega) (by omega)]
  rw [hk] at hv
  refine ⟨rfl, ?_⟩
  refine EE.runN (stop := noStop) 100 _ ?_
  refine ⟨by first | decide | first | (simp only [wI_1, r0, r1, r12, r13, r41, r42, k0, k1, k2, k3, k4, k5, k6] <;> first | rfl | decide) | decide, ?_⟩
  refine ⟨by first | decide | first | (simp only [wI_1, r0, r1, r12, r13, r41, r42, k0, k1, k2, k3, k4, k5, k6] <;> first | rfl | decide) | decide, ?_⟩
  refine ⟨by first | decide | first | (simp only [wI_1, r0, r1, r12, r13, r41, r42, k0, k1, k2, k3, k4, k5, k6] <;> first | rfl | decide) | decide, ?_⟩
  refine ⟨by first | decide | first | (simp only [wI_1, r0, r1, r12, r13, r41, r42, k0, k1, k2, k3, k4, k5, k6] <;> first | rfl | decide) | decide, ?_⟩
  refine ⟨by first | decide | first | (simp only [wI_1, r0, r1, r12, r13, r41, r42, k0, k1, k2, k3, k4, k5, k6] <;> first | rfl | decide) | decide, ?_⟩
  refine ⟨by first | decide | first | (simp only [wI_1, r0, r1, r12, r13, r41, r42, k0, k1, k2, k3, k4, k5, k6] <;> first | rfl | decide) | decide, ?_⟩
  refine ⟨fun h => absurd ((hv).symm.trans h) (by decide), fun _ => ?_⟩
  refine ⟨fun h => absurd ((hv).symm.trans h) (by decide), fun _ => ?_⟩
  refine ⟨fun h => absurd ((hv).symm.trans h) (by decide), fun _ => ?_⟩
  refine ⟨fun h => absurd ((hv).symm.trans h) (by decide), fun _ => ?_⟩
  refine ⟨fun h => absurd ((hv).symm.trans h) (by decide), fun _ => ?_⟩
  refine ⟨fun h => absurd ((hv).symm.trans h) (by decide), fun _ => ?_⟩
  refine ⟨fun h => absurd ((hv).symm.trans h) (by decide), fun _ => ?_⟩
  refine ⟨fun h => absurd ((hv).symm.trans h) (by decide), fun _ => ?_⟩
  refine ⟨fun h => absurd ((hv).symm.trans h) (by decide), fun _ => ?_⟩
  exact ⟨⟨Nat.zero_le _, Nat.zero_le _⟩, by decide, rfl, rfl⟩
theorem nI36 {x : Nat} (h : x ≤ 9) : ¬ 36 < nI x := nI_nlt (b := x) (a := 36) (by omega) (by omega)
theorem T_obeyGroup {d : Nat} {S : Sc} {M : Nat → Nat → Int32} {J : Nat → Nat → Int64} {b : Nat} {σ : Rw} (hS : OdS S b) {g B : Nat} (hI : Inv B σ) (hB : B < 1073741824) (hg : g < 10000) : Wp (d + 7) 35 [.ref b, .int (nI g)] (S, sO M b σ, J) (fun rs w' => rs = .inl (some (.int (gAns σ g (g / 1000)))) ∧ w' = (S, sO M b (gRow σ g (g / 1000)), J)) := by
  obtain ⟨n, cur, hn3, hn, hc, h0, h7⟩ := id hI.1
  have hB3 := bok3 hI.2.1
  have hz : (σ 0).toNatClampNeg = n := by rw [h0, ck (by omega)]
  have hA : g / 100 % 10 ≤ 9 := by omega
  have hX : g / 10 % 10 ≤ 9 := by omega
  have hY : g % 10 ≤ 9 := by omega
  have hZ : g % 100 ≤ 99 := by omega
  have hT : g % 1000 ≤ 999 := by omega
  have hk : g / 1000 = 0 ∨ g / 1000 = 1 ∨ g / 1000 = 2 ∨ g / 1000 = 3 ∨ g / 1000 = 4 ∨ g / 1000 = 5 ∨ g / 1000 = 6 ∨ g / 1000 = 7 ∨ g / 1000 = 8 ∨ g / 1000 = 9 := by omega
  rcases hk with h | h | h | h | h | h | h | h | h | h
  · rw [h]
    exact T_og0 hS hg h
  · rw [h]
    have this := T_og1 (d := d) (S := S) (M := M) (J := J) hS hI hB hg h
    have hc : (¬ σ 3 = 0 ∧ (¬ (nI (g % 1000)) < 1 ∧ ¬ 999 < (nI (g % 1000)))) ↔ (0 < g % 1000 ∧ σ 3 = 1) := ⟨fun ⟨a, b, _⟩ => ⟨(lt1 (by omega)).mp b, hB3.mpr a⟩, fun ⟨a, b⟩ => ⟨hB3.mp b, (lt1 (by omega)).mpr a, (ltk (k := 999) (by omega) (by omega)).mpr hT⟩⟩
    rw [bI_cg hc, if_cg hc] at this
    exact this
  · rw [h]
    have this := T_og2 (d := d) (S := S) (M := M) (J := J) hS hI hB hg h
    have hc : ((nI (g / 100 % 10)) = 0 ∧ ¬ σ 3 = 0 ∧ (¬ (nI (g / 10 % 10)) < 1 ∧ ¬ 36 < (nI (g / 10 % 10)) ∧ ¬ (nI (g % 10)) < 0 ∧ ¬ 2 < (nI (g % 10)))) ↔ (g / 100 % 10 = 0 ∧ (1 ≤ g / 10 % 10 ∧ g % 10 ≤ 2) ∧ σ 3 = 1) := ⟨fun ⟨a, b, c1, _, _, c4⟩ => ⟨(n0 (by omega)).mp a, ⟨(lt1 (by omega)).mp c1, (ltk (k := 2) (by omega) (by omega)).mp c4⟩, hB3.mpr b⟩, fun ⟨a, ⟨b, c⟩, e⟩ => ⟨(n0 (by omega)).mpr a, hB3.mp e, (lt1 (by omega)).mpr b, nI36 hX, nI_pos (by omega), (ltk (k := 2) (by omega) (by omega)).mpr c⟩⟩
    rw [bI_cg hc, if_cg hc] at this
    exact this
  · rw [h]
    have this := T_og3 (d := d) (S := S) (M := M) (J := J) hS hI hB hg h
    have hc : (nI g = 3000 ∧ σ 3 = 0) ↔ (g % 1000 = 0 ∧ ¬ σ 3 = 1) := ⟨fun ⟨a, b⟩ => ⟨by have := (nI_eq (b := 3000) (by omega) (by omega)).mp a; omega, fun e => hB3.mp e b⟩, fun ⟨a, b⟩ => ⟨(nI_eq (b := 3000) (by omega) (by omega)).mpr (by omega), Classical.byContradiction (fun e => b (hB3.mpr e))⟩⟩
    rw [bI_cg hc, if_cg hc] at this
    exact this
  · rw [h]
    have this := T_og4 (d := d) (S := S) (M := M) (J := J) hS hI hB hg h
    have hc : ((nI (g % 10)) = 0 ∧ ¬ σ 3 = 0 ∧ (¬ (nI (g / 100 % 10)) < 0 ∧ ¬ 9 < (nI (g / 100 % 10)) ∧ ¬ (nI (g / 10 % 10)) < 0 ∧ ¬ 9 < (nI (g / 10 % 10))) ∧ (σ 17 < 12 ∨ ¬ rFnd σ (10 * (nI (g / 100 % 10)) + (nI (g / 10 % 10))) (σ 17).toNatClampNeg = -99999)) ↔ (g % 10 = 0 ∧ σ 3 = 1 ∧ (σ 17 < 12 ∨ ¬ rFnd σ (10 * nI (g / 100 % 10) + nI (g / 10 % 10)) (σ 17).toNatClampNeg = -99999)) := ⟨fun ⟨a, b, _, c⟩ => ⟨(n0 (by omega)).mp a, hB3.mpr b, c⟩, fun ⟨a, b, c⟩ => ⟨(n0 (by omega)).mpr a, hB3.mp b, isV_t hA hX, c⟩⟩
    rw [bI_cg hc, if_cg hc] at this
    exact this
  · rw [h]
    have this := T_og5 (d := d) (S := S) (M := M) (J := J) hS hI hB hg h
    have hc : (¬ σ 3 = 0 ∧ ¬ σ 4 < (nI (g % 1000))) ↔ (σ 3 = 1 ∧ ¬ σ 4 < nI (g % 1000)) := ⟨fun ⟨a, b⟩ => ⟨hB3.mpr a, b⟩, fun ⟨a, b⟩ => ⟨hB3.mp a, b⟩⟩
    rw [bI_cg hc] at this
    exact this
  · rw [h]
    have this := T_og6 (d := d) (S := S) (M := M) (J := J) hS hI hB hg h
    have hc : ((nI (g / 100 % 10)) = 0 ∧ (¬ (nI (g % 100)) < 1 ∧ ¬ 99 < (nI (g % 100)))) ↔ (g / 100 % 10 = 0 ∧ 1 ≤ g % 100) := ⟨fun ⟨a, b, _⟩ => ⟨(n0 (by omega)).mp a, (lt1 (by omega)).mp b⟩, fun ⟨a, b⟩ => ⟨(n0 (by omega)).mpr a, (lt1 (by omega)).mpr b, (ltk (k := 99) (by omega) (by omega)).mpr hZ⟩⟩
    rw [bI_cg hc, if_cg hc] at this
    exact this
  · rw [h]
    have this := T_og7 (d := d) (S := S) (M := M) (J := J) hS hI hB hg h
    have hc : ((nI (g % 100)) = 0 ∧ (¬ (nI (g / 100 % 10)) < 0 ∧ ¬ σ 0 ≤ (nI (g / 100 % 10))) ∧ ¬ rSays σ (g / 100 % 10) = -99999) ↔ (g % 100 = 0 ∧ g / 100 % 10 < (σ 0).toNatClampNeg ∧ ¬ rSays σ (g / 100 % 10) = -99999) := ⟨fun ⟨a, ⟨_, b⟩, c⟩ => ⟨(n0 (by omega)).mp a, by rw [hz]; rw [h0] at b; exact (lek (by omega) (by omega)).mp b, c⟩, fun ⟨a, b, c⟩ => ⟨(n0 (by omega)).mpr a, ⟨nI_pos (by omega), by rw [h0]; rw [hz] at b; exact (lek (by omega) (by omega)).mpr b⟩, c⟩⟩
    rw [bI_cg hc] at this
    exact this
  · rw [h]
    have this := T_og8 (d := d) (S := S) (M := M) (J := J) hS hI hB hg h
    have hc : ((nI (g / 100 % 10)) = 0 ∧ ¬ (nI (g % 100)) < cMx σ (3 * (σ 0).toNatClampNeg) - cMn σ (3 * (σ 0).toNatClampNeg)) ↔ (g / 100 % 10 = 0 ∧ ¬ nI (g % 100) < rGap σ (σ 0).toNatClampNeg) := ⟨fun ⟨a, b⟩ => ⟨(n0 (by omega)).mp a, by rw [← gap_e hI.2.2.2.1 (by omega)]; exact b⟩, fun ⟨a, b⟩ => ⟨(n0 (by omega)).mpr a, by rw [← gap_e hI.2.2.2.1 (by omega)] at b; exact b⟩⟩
    rw [bI_cg hc] at this
    exact this
  · rw [h]
    have this := T_og9 (d := d) (S := S) (M := M) (J := J) hS hI hB hg h
    have hc : ((nI (g % 100)) = 0 ∧ ¬ σ 3 = 0 ∧ (¬ (nI (g / 100 % 10)) < 0 ∧ ¬ σ 0 ≤ (nI (g / 100 % 10))) ∧ ¬ (nI (g / 100 % 10)) = σ 7) ↔ (g % 100 = 0 ∧ g / 100 % 10 < (σ 0).toNatClampNeg ∧ σ 3 = 1 ∧ ¬ nI (g / 100 % 10) = σ 7) := ⟨fun ⟨a, e, ⟨_, b⟩, c⟩ => ⟨(n0 (by omega)).mp a, by rw [hz]; rw [h0] at b; exact (lek (by omega) (by omega)).mp b, hB3.mpr e, c⟩, fun ⟨a, b, e, c⟩ => ⟨(n0 (by omega)).mpr a, hB3.mp e, ⟨nI_pos (by omega), by rw [h0]; rw [hz] at b; exact (lek (by omega) (by omega)).mpr b⟩, c⟩⟩
    rw [bI_cg hc, if_cg hc] at this
    exact this
def rRd1 (ρ : Rw) : Rw := if ρ 3 = 0 then rPower ρ else ρ
def rRd2 (ρ : Rw) (q : Nat) : Rw := if q % 4 = 0 then upd (upd ρ 10 (nI (1 + q / 4 % 9))) 11 (nI (q / 64 % 3)) else ρ
/-- a round of a simulation -/
def rRound (ρ : Rw) (q : Nat) : Rw := rGo (1 + q / 256 % 50) (rRd2 (rRd1 ρ) q)
theorem rRd1_I {B : Nat} {ρ : Rw} (h : Inv B ρ) : Inv B (rRd1 ρ) := by
  unfold rRd1
  split
  · exact rPower_I h
  · exact h
theorem rRd2_I {B q : Nat} {ρ : Rw} (h : Inv B ρ) : Inv B (rRd2 ρ q) := by
  unfold rRd2
  split
  · refine setCut_I h (by omega) ?_
    have hx : q / 64 % 3 = 0 ∨ q / 64 % 3 = 1 ∨ q / 64 % 3 = 2 := by omega
    rcases hx with e | e | e
    · exact Or.inl (by rw [e]; rfl)
    · exact Or.inr (Or.inl (by rw [e]; rfl))
    · exact Or.inr (Or.inr (by rw [e]; rfl))
  · exact h
theorem rRound_I {B q : Nat} {ρ : Rw} (h : Inv B ρ) (hB : B + 50 < 1073741824) : Inv (B + 50) (rRound ρ q) := (rGo_I _ (rRd2_I (rRd1_I h)) (by omega)).mono (by omega)
set_option maxHeartbeats 1000000 in
theorem L_round {d : Nat} {Q : Res → Wd → Prop} {S : Sc} {M : Nat → Nat → Int32} {J : Nat → Nat → Int64} {b : Nat} {σ : Rw} (hS : OdS S b) {q B : Nat} (hI : Inv B σ) (hB : B < 1073741824) (hq : q < 2147483648) (hQ : Q (.inl none) (S, sO M b (rGo (1 + q / 256 % 50) (rRd2 σ q)), J)) : EE (SJ (d + 6) 37 (Wp (d + 5)) Q) (12, [(0, .ref b), (1, .int (nI q))], [], (S, sO M b σ, J), 0, 0) := by
  obtain ⟨⟨k0, k1, k2, k3, k4, k5, k6⟩, ⟨r0, r1, r12, r13, r41, r42⟩, l2, l3, l5, l6⟩ := id hS
  have hJ := rRd2_I (q := q) hI
  have f4 : nI q - nI q / 4 * 4 = nI (q % 4) := by rw [o_4, pk_rem (by omega) (by omega) (by omega)]
  have fa : 1 + (nI q / 4 - nI q / 4 / 9 * 9) = nI (1 + q / 4 % 9) := by rw [o_4, o_9, o_1, pk_div (by omega) (by omega) (by omega), pk_rem (by omega) (by omega) (by omega), nI_add]
  have fb : nI q / 64 - nI q / 64 / 3 * 3 = nI (q / 64 % 3) := by rw [show (64 : Int32) = nI 64 from rfl, o_3, pk_div (by omega) (by omega) (by omega), pk_rem (by omega) (by omega) (by omega)]
  have fc : 1 + (nI q / 256 - nI q / 256 / 50 * 50) = nI (1 + q / 256 % 50) := by rw [show (256 : Int32) = nI 256 from rfl, show (50 : Int32) = nI 50 from rfl, o_1, pk_div (by omega) (by omega) (by omega), pk_rem (by omega) (by omega) (by omega), nI_add]
  refine EE.runN (stop := noStop) 80 _ ?_
  refine ⟨by first | decide | simp only [wI_1, r0, r1, r12, r13, r41, r42, k0, k1, k2, k3, k4, k5, k6] <;> first | rfl | decide, ?_⟩
  refine ⟨fun h1 => ?_, fun h1 => ?_⟩
  · have e2 : rRd2 σ q = σ := if_neg (by rw [f4, n0 (by omega)] at h1; exact h1)
    rw [e2] at hJ hQ
    refine ⟨by first | decide | simp only [wI_1, r0, r1, r12, r13, r41, r42, k0, k1, k2, k3, k4, k5, k6] <;> first | rfl | decide, ?_⟩
    refine ⟨by first | decide | simp only [wI_1, r0, r1, r12, r13, r41, r42, k0, k1, k2, k3, k4, k5, k6] <;> first | rfl | decide, ?_⟩
    refine ⟨⟨Nat.le_of_ble_eq_true rfl, Nat.le_of_ble_eq_true rfl, Nat.le_of_ble_eq_true rfl⟩, by simp only [wI_1, r0, r1, r12, r13, r41, r42, k0, k1, k2, k3, k4, k5, k6] <;> first | rfl | decide, _, by rw [fc]; exact T_cGo hS (by omega) hJ.1 hJ.2.1 hJ.2.2.1, ?_⟩
    rintro _ _ ⟨rfl, rfl⟩
    refine ⟨Or.inl rfl, ?_⟩
    exact ⟨⟨Nat.zero_le _, Nat.zero_le _⟩, hQ⟩
  · have e2 : rRd2 σ q = upd (upd σ 10 (nI (1 + q / 4 % 9))) 11 (nI (q / 64 % 3)) := if_pos (by rw [f4, n0 (by omega)] at h1; exact h1)
    rw [e2] at hJ hQ
    refine ⟨by first | decide | simp only [wI_1, r0, r1, r12, r13, r41, r42, k0, k1, k2, k3, k4, k5, k6] <;> first | rfl | decide, ?_⟩
    refine ⟨by first | decide | simp only [wI_1, r0, r1, r12, r13, r41, r42, k0, k1, k2, k3, k4, k5, k6] <;> first | rfl | decide, ?_⟩
    refine ⟨by first | decide | simp only [wI_1, r0, r1, r12, r13, r41, r42, k0, k1, k2, k3, k4, k5, k6] <;> first | rfl | decide, ?_⟩
    refine ⟨by first | decide | simp only [wI_1, r0, r1, r12, r13, r41, r42, k0, k1, k2, k3, k4, k5, k6] <;> first | rfl | decide, ?_⟩
    refine ⟨⟨Nat.le_of_ble_eq_true rfl, Nat.le_of_ble_eq_true rfl, Nat.le_of_ble_eq_true rfl⟩, by simp only [wI_1, r0, r1, r12, r13, r41, r42, k0, k1, k2, k3, k4, k5, k6] <;> first | rfl | decide, _, by rw [fa, fb]; exact T_setCut hS, ?_⟩
    rintro _ _ ⟨rfl, rfl⟩
    refine ⟨Or.inl rfl, ?_⟩
    refine ⟨by first | decide | simp only [wI_1, r0, r1, r12, r13, r41, r42, k0, k1, k2, k3, k4, k5, k6] <;> first | rfl | decide, ?_⟩
    refine ⟨by first | decide | simp only [wI_1, r0, r1, r12, r13, r41, r42, k0, k1, k2, k3, k4, k5, k6] <;> first | rfl | decide, ?_⟩
    refine ⟨⟨Nat.le_of_ble_eq_true rfl, Nat.le_of_ble_eq_true rfl, Nat.le_of_ble_eq_true rfl⟩, by simp only [wI_1, r0, r1, r12, r13, r41, r42, k0, k1, k2, k3, k4, k5, k6] <;> first | rfl | decide, _, by rw [fc]; exact T_cGo hS (by omega) hJ.1 hJ.2.1 hJ.2.2.1, ?_⟩
    rintro _ _ ⟨rfl, rfl⟩
    refine ⟨Or.inl rfl, ?_⟩
    exact ⟨⟨Nat.zero_le _, Nat.zero_le _⟩, hQ⟩
set_option maxHeartbeats 1000000 in
theorem T_round {d : Nat} {S : Sc} {M : Nat → Nat → Int32} {J : Nat → Nat → Int64} {b : Nat} {σ : Rw} (hS : OdS S b) {q B : Nat} (hI : Inv B σ) (hB : B < 1073741824) (hq : q < 2147483648) : Wp (d + 6) 37 [.ref b, .int (nI q)] (S, sO M b σ, J) (fun rs w' => rs = .inl none ∧ w' = (S, sO M b (rRound σ q), J)) := by
  obtain ⟨⟨k0, k1, k2, k3, k4, k5, k6⟩, ⟨r0, r1, r12, r13, r41, r42⟩, l2, l3, l5, l6⟩ := id hS
  refine ⟨rfl, ?_⟩
  refine EE.runN (stop := atPc [12]) 80 _ ?_
  refine ⟨by simp only [wI_1, r0, r1, r12, r13, r41, r42, k0, k1, k2, k3, k4, k5, k6] <;> first | rfl | decide, ?_⟩
  refine ⟨fun h1 => ?_, fun h1 => ?_⟩
  · refine ee_w (S, sO M b (rRd1 σ), J) ?_ (L_round hS (rRd1_I hI) hB hq ⟨rfl, rfl⟩)
    have g := h1
    simp only [wI_M, tk_0, tk_1, tk_2, tk_3, tk_4, tk_5, tk_6, tk_7, tk_8, tk_9, tk_10, tk_11, tk_12, tk_13, tk_14, tk_15, tk_16, tk_17, rd0_2, wr0_2, rd0_3, wr0_3, rd0_4, wr0_4, rd0_5, wr0_5, rd0_6, wr0_6, rd0_7, wr0_7, rd0_8, wr0_8, rd0_9, wr0_9, rd0_10, wr0_10, rd0_11, wr0_11, rd0_12, wr0_12, rd0_13, wr0_13, rd0_14, wr0_14, rd0_15, wr0_15, rd0_16, wr0_16, rd1_0, wr1_0, rd1_1, wr1_1, rd4_0, wr4_0, wI_1, r0, r1, r12, r13, r41, r42, wI_w] at g
    exact congrArg (fun m => (S, sO M b m, J)) (show σ = rRd1 σ from (if_neg g).symm)
  · refine ⟨⟨Nat.le_of_ble_eq_true rfl, Nat.le_of_ble_eq_true rfl, Nat.le_of_ble_eq_true rfl⟩, by simp only [wI_1, r0, r1, r12, r13, r41, r42, k0, k1, k2, k3, k4, k5, k6] <;> first | rfl | decide, _, T_switchOn hS hI hB, ?_⟩
    rintro _ _ ⟨rfl, rfl⟩
    refine ⟨Or.inl rfl, ?_⟩
    refine ee_w (S, sO M b (rRd1 σ), J) ?_ (L_round hS (rRd1_I hI) hB hq ⟨rfl, rfl⟩)
    have g := h1
    simp only [wI_M, tk_0, tk_1, tk_2, tk_3, tk_4, tk_5, tk_6, tk_7, tk_8, tk_9, tk_10, tk_11, tk_12, tk_13, tk_14, tk_15, tk_16, tk_17, rd0_2, wr0_2, rd0_3, wr0_3, rd0_4, wr0_4, rd0_5, wr0_5, rd0_6, wr0_6, rd0_7, wr0_7, rd0_8, wr0_8, rd0_9, wr0_9, rd0_10, wr0_10, rd0_11, wr0_11, rd0_12, wr0_12, rd0_13, wr0_13, rd0_14, wr0_14, rd0_15, wr0_15, rd0_16, wr0_16, rd1_0, wr1_0, rd1_1, wr1_1, rd4_0, wr4_0, wI_1, r0, r1, r12, r13, r41, r42, wI_w] at g
    exact congrArg (fun m => (S, sO M b m, J)) (show rPower σ = rRd1 σ from (if_pos g).symm)
def cNew (σ : Rw) (a st l : Int32) : Rw := upd (upd (upd (upd (upd (upd (upd (upd (upd (upd (upd (upd (upd (upd (upd (upd (upd (cMk σ a l) 17 0) 1 st) 3 1) 12 0) 4 0) 6 0) 7 0) 5 0) 8 0) 9 0) 10 0) 11 (-99999)) 13 (-99999)) 14 (-99999)) 15 (-99999)) 16 (-99999)) 0 (cMk σ a l 0)
set_option maxHeartbeats 1000000 in
theorem T_cNew {d : Nat} {S : Sc} {M : Nat → Nat → Int32} {J : Nat → Nat → Int64} {b : Nat} {σ : Rw} (hS : OdS S b) {a st l : Int32} : Wp (d + 3) 20 [.ref b, .int a, .int st, .int l] (S, sO M b σ, J) (fun rs w' => rs = .inl none ∧ w' = (S, sO M b (cNew σ a st l), J)) := by
  obtain ⟨⟨k0, k1, k2, k3, k4, k5, k6⟩, ⟨r0, r1, r12, r13, r41, r42⟩, l2, l3, l5, l6⟩ := id hS
  refine ⟨rfl, ?_⟩
  refine EE.runN (stop := noStop) 120 _ ?_
  refine ⟨by simp only [wI_1, r0, r1, r12, r13, r41, r42, k0, k1, k2, k3, k4, k5, k6] <;> first | rfl | decide, ?_⟩
  refine ⟨⟨Nat.le_of_ble_eq_true rfl, Nat.le_of_ble_eq_true rfl, Nat.le_of_ble_eq_true rfl⟩, by simp only [wI_1, r0, r1, r12, r13, r41, r42, k0, k1, k2, k3, k4, k5, k6] <;> first | rfl | decide, _, T_cMakeNew hS r0, ?_⟩
  rintro _ _ ⟨rfl, rfl⟩
  refine ⟨Or.inl rfl, ?_⟩
  refine ⟨by simp only [wI_1, r0, r1, r12, r13, r41, r42, k0, k1, k2, k3, k4, k5, k6] <;> first | rfl | decide, ?_⟩
  refine ⟨by simp only [wI_1, r0, r1, r12, r13, r41, r42, k0, k1, k2, k3, k4, k5, k6] <;> first | rfl | decide, trivial, ?_⟩
  refine ⟨by simp only [wI_1, r0, r1, r12, r13, r41, r42, k0, k1, k2, k3, k4, k5, k6] <;> first | rfl | decide, trivial, ?_⟩
  refine ⟨by simp only [wI_1, r0, r1, r12, r13, r41, r42, k0, k1, k2, k3, k4, k5, k6] <;> first | rfl | decide, by first | exact Or.inl rfl | exact Or.inr rfl | simp only [wI_1, r0, r1, r12, r13, r41, r42, k0, k1, k2, k3, k4, k5, k6] <;> first | rfl | decide, ?_⟩
  refine ⟨by simp only [wI_1, r0, r1, r12, r13, r41, r42, k0, k1, k2, k3, k4, k5, k6] <;> first | rfl | decide, by first | exact Or.inl rfl | exact Or.inr rfl | simp only [wI_1, r0, r1, r12, r13, r41, r42, k0, k1, k2, k3, k4, k5, k6] <;> first | rfl | decide, ?_⟩
  refine ⟨by simp only [wI_1, r0, r1, r12, r13, r41, r42, k0, k1, k2, k3, k4, k5, k6] <;> first | rfl | decide, trivial, ?_⟩
  refine ⟨by simp only [wI_1, r0, r1, r12, r13, r41, r42, k0, k1, k2, k3, k4, k5, k6] <;> first | rfl | decide, trivial, ?_⟩
  refine ⟨by simp only [wI_1, r0, r1, r12, r13, r41, r42, k0, k1, k2, k3, k4, k5, k6] <;> first | rfl | decide, trivial, ?_⟩
  refine ⟨by simp only [wI_1, r0, r1, r12, r13, r41, r42, k0, k1, k2, k3, k4, k5, k6] <;> first | rfl | decide, trivial, ?_⟩
  refine ⟨by simp only [wI_1, r0, r1, r12, r13, r41, r42, k0, k1, k2, k3, k4, k5, k6] <;> first | rfl | decide, trivial, ?_⟩
  refine ⟨by simp only [wI_1, r0, r1, r12, r13, r41, r42, k0, k1, k2, k3, k4, k5, k6] <;> first | rfl | decide, trivial, ?_⟩
  refine ⟨by simp only [wI_1, r0, r1, r12, r13, r41, r42, k0, k1, k2, k3, k4, k5, k6] <;> first | rfl | decide, trivial, ?_⟩
  refine ⟨by simp only [wI_1, r0, r1, r12, r13, r41, r42, k0, k1, k2, k3, k4, k5, k6] <;> first | rfl | decide, trivial, ?_⟩
  refine ⟨by simp only [wI_1, r0, r1, r12, r13, r41, r42, k0, k1, k2, k3, k4, k5, k6] <;> first | rfl | decide, trivial, ?_⟩
  refine ⟨by simp only [wI_1, r0, r1, r12, r13, r41, r42, k0, k1, k2, k3, k4, k5, k6] <;> first | rfl | decide, trivial, ?_⟩
  refine ⟨by simp only [wI_1, r0, r1, r12, r13, r41, r42, k0, k1, k2, k3, k4, k5, k6] <;> first | rfl | decide, trivial, ?_⟩
  refine ⟨by simp only [wI_1, r0, r1, r12, r13, r41, r42, k0, k1, k2, k3, k4, k5, k6] <;> first | rfl | decide, trivial, ?_⟩
  refine ⟨⟨Nat.zero_le _, Nat.zero_le _⟩, rfl, ?_⟩
  show (S, _, J) = (S, _, J)
  simp only [wI_M, tk_0, tk_1, tk_2, tk_3, tk_4, tk_5, tk_6, tk_7, tk_8, tk_9, tk_10, tk_11, tk_12, tk_13, tk_14, tk_15, tk_16, tk_17, rd0_2, wr0_2, rd0_3, wr0_3, rd0_4, wr0_4, rd0_5, wr0_5, rd0_6, wr0_6, rd0_7, wr0_7, rd0_8, wr0_8, rd0_9, wr0_9, rd0_10, wr0_10, rd0_11, wr0_11, rd0_12, wr0_12, rd0_13, wr0_13, rd0_14, wr0_14, rd0_15, wr0_15, rd0_16, wr0_16, rd1_0, wr1_0, rd1_1, wr1_1, rd4_0, wr4_0, wI_1, r0, r1, r12, r13, r41, r42, wI_w]
  refine congrArg (fun m => (S, sO M b m, J)) ?_
  unfold cNew
  funext q
  by_cases e : q = 0
  · subst e
    rfl
  · rw [pk_un e]
