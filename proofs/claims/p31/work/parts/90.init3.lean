/-! SHELVES AND THE HISTORY ARE MADE: their makers: written by wip/whole/pure3.py -/
set_option maxHeartbeats 4000000 in
theorem T_i48_14 {d : Nat} {S : Sc} {M : Nat → Nat → Int32} {J : Nat → Nat → Int64} {b : Nat} (hn : S.1 = b) (hk : S.2.1 b = 4) (hb0 : 1 ≤ b) (hb : b < 1000) : Wp (d + 5) 48 [.ref b, .int 14] (S, M, J) (fun rs w' => rs = .inl none ∧ ∃ S' M' J', w' = (S', M', J') ∧ ShK S' M' b 14 14 ∧ Kp b S S' M M' ∧ ∀ q, M' b q = M b q) := by
  obtain ⟨n, kd, ln, rf⟩ := S
  have hn : n = b := hn
  subst hn
  have hk : kd n = 4 := hk
  have hsh : ShK (reS (alS (reS (alS (n, kd, ln, rf) 11 14) n 0 (n + 1)) 9 14) n 1 (n + 2)) (zM (zM M (n + 1)) (n + 2)) n 14 0 := by
    refine ⟨rfl, ?_, ?_, ?_, ?_, ?_, ?_, ?_, fun q => ?_, fun i hi => absurd hi (by omega)⟩
    all_goals first | (simp (disch := omega) only [alS, reS, wAl, wR, wI, upA_e, upA_n, kO_0, kO_38, kO_20, kO_19, kO_48, kO_15, kO_53, kO_62, hk]; done) | (simp only [zM]; rw [upA_e (by omega)]) 
  have hkp : Kp n (n, kd, ln, rf) (reS (alS (reS (alS (n, kd, ln, rf) 11 14) n 0 (n + 1)) 9 14) n 1 (n + 2)) M (zM (zM M (n + 1)) (n + 2)) := fun o ho => by
    refine ⟨?_, ?_, ?_, ?_⟩ <;> simp (disch := omega) only [alS, reS, zM, upA_n]
  have hmn : (zM (zM M (n + 1)) (n + 2)) n = M n := by simp (disch := omega) only [zM, upA_n]
  refine ⟨rfl, ?_⟩
  refine EE.runN (stop := atPc [27]) 60 _ ?_
  refine ⟨by (first | assumption | exact Nat.le_refl _ | (simp (disch := omega) only [alS, reS, wAl, wR, wI, upA_e, upA_n, kO_0, kO_38, kO_20, kO_19, kO_48, kO_15, kO_53, kO_62, hk]; done) | (simp only [wAl, wR, alS, reS]; omega) | decide), Nat.le_of_ble_eq_true rfl, ?_⟩
  refine ⟨⟨Nat.le_of_ble_eq_true rfl, Nat.zero_le _, Nat.zero_le _⟩, ?_⟩
  refine ⟨⟨by decide, by decide, Nat.le_of_ble_eq_true rfl, Nat.le_of_ble_eq_true rfl, (by first | omega | (simp only [alS, reS, wR, wAl, wI, oS1, oS2, oS3, oS4, oS5, oS] <;> omega)), ⟨(fs1 (Or.inl (by first | omega | (simp only [alS, reS, wR, wAl, wI, oS1, oS2, oS3, oS4, oS5, oS] <;> omega))) fs0), (fl2 (fl1 (Or.inl (by first | omega | (simp only [alS, reS, wR, wAl, wI, oS1, oS2, oS3, oS4, oS5, oS] <;> omega))) (fl2 fl0)))⟩⟩, ?_⟩
  refine ⟨by (first | assumption | exact Nat.le_refl _ | (simp (disch := omega) only [alS, reS, wAl, wR, wI, upA_e, upA_n, kO_0, kO_38, kO_20, kO_19, kO_48, kO_15, kO_53, kO_62, hk]; done) | (simp only [wAl, wR, alS, reS]; omega) | decide), by (first | assumption | exact Nat.le_refl _ | (simp (disch := omega) only [alS, reS, wAl, wR, wI, upA_e, upA_n, kO_0, kO_38, kO_20, kO_19, kO_48, kO_15, kO_53, kO_62, hk]; done) | (simp only [wAl, wR, alS, reS]; omega) | decide), ?_⟩
  refine ⟨⟨by decide, by decide, Nat.le_of_ble_eq_true rfl, Nat.le_of_ble_eq_true rfl, (by first | omega | (simp only [alS, reS, wR, wAl, wI, oS1, oS2, oS3, oS4, oS5, oS] <;> omega)), ⟨(fs1 (Or.inl (by first | omega | (simp only [alS, reS, wR, wAl, wI, oS1, oS2, oS3, oS4, oS5, oS] <;> omega))) fs0), (fl2 (fl1 (Or.inl (by first | omega | (simp only [alS, reS, wR, wAl, wI, oS1, oS2, oS3, oS4, oS5, oS] <;> omega))) (fl2 fl0)))⟩⟩, ?_⟩
  refine ⟨by (first | assumption | exact Nat.le_refl _ | (simp (disch := omega) only [alS, reS, wAl, wR, wI, upA_e, upA_n, kO_0, kO_38, kO_20, kO_19, kO_48, kO_15, kO_53, kO_62, hk]; done) | (simp only [wAl, wR, alS, reS]; omega) | decide), by (first | assumption | exact Nat.le_refl _ | (simp (disch := omega) only [alS, reS, wAl, wR, wI, upA_e, upA_n, kO_0, kO_38, kO_20, kO_19, kO_48, kO_15, kO_53, kO_62, hk]; done) | (simp only [wAl, wR, alS, reS]; omega) | decide), ?_⟩
  refine ee_at (nt := nzT 48) [(0, .ref n), (3, .int (nI 0))] ((reS (alS (reS (alS (n, kd, ln, rf) 11 14) n 0 (n + 1)) 9 14) n 1 (n + 2)), (zM (zM M (n + 1)) (n + 2)), (zJ (zJ J (n + 1)) (n + 2))) rfl rfl rfl ?_
  have fin := L_shelf14 (d := d) (Q := fun rs w' => rs = .inl none ∧ ∃ S' M' J', w' = (S', M', J') ∧ ShK S' M' n 14 14 ∧ Kp n (n, kd, ln, rf) S' M M' ∧ ∀ q, M' n q = M n q) hb0 hb 14 0 (reS (alS (reS (alS (n, kd, ln, rf) 11 14) n 0 (n + 1)) 9 14) n 1 (n + 2)) (zM (zM M (n + 1)) (n + 2)) (zJ (zJ J (n + 1)) (n + 2)) (by omega) hsh (fun S' M' J' a1 a2 a3 => ⟨rfl, S', M', J', rfl, a1, hkp.tr a2 (Nat.le_refl _), fun q => (a3 q).trans (congrFun hmn q)⟩)
  exact fin
set_option maxHeartbeats 4000000 in
theorem T_i48_2 {d : Nat} {S : Sc} {M : Nat → Nat → Int32} {J : Nat → Nat → Int64} {b : Nat} (hn : S.1 = b) (hk : S.2.1 b = 4) (hb0 : 1 ≤ b) (hb : b < 1000) : Wp (d + 5) 48 [.ref b, .int 2] (S, M, J) (fun rs w' => rs = .inl none ∧ ∃ S' M' J', w' = (S', M', J') ∧ ShK S' M' b 2 2 ∧ Kp b S S' M M' ∧ ∀ q, M' b q = M b q) := by
  obtain ⟨n, kd, ln, rf⟩ := S
  have hn : n = b := hn
  subst hn
  have hk : kd n = 4 := hk
  have hsh : ShK (reS (alS (reS (alS (n, kd, ln, rf) 11 2) n 0 (n + 1)) 9 2) n 1 (n + 2)) (zM (zM M (n + 1)) (n + 2)) n 2 0 := by
    refine ⟨rfl, ?_, ?_, ?_, ?_, ?_, ?_, ?_, fun q => ?_, fun i hi => absurd hi (by omega)⟩
    all_goals first | (simp (disch := omega) only [alS, reS, wAl, wR, wI, upA_e, upA_n, kO_0, kO_38, kO_20, kO_19, kO_48, kO_15, kO_53, kO_62, hk]; done) | (simp only [zM]; rw [upA_e (by omega)]) 
  have hkp : Kp n (n, kd, ln, rf) (reS (alS (reS (alS (n, kd, ln, rf) 11 2) n 0 (n + 1)) 9 2) n 1 (n + 2)) M (zM (zM M (n + 1)) (n + 2)) := fun o ho => by
    refine ⟨?_, ?_, ?_, ?_⟩ <;> simp (disch := omega) only [alS, reS, zM, upA_n]
  have hmn : (zM (zM M (n + 1)) (n + 2)) n = M n := by simp (disch := omega) only [zM, upA_n]
  refine ⟨rfl, ?_⟩
  refine EE.runN (stop := atPc [27]) 60 _ ?_
  refine ⟨by (first | assumption | exact Nat.le_refl _ | (simp (disch := omega) only [alS, reS, wAl, wR, wI, upA_e, upA_n, kO_0, kO_38, kO_20, kO_19, kO_48, kO_15, kO_53, kO_62, hk]; done) | (simp only [wAl, wR, alS, reS]; omega) | decide), Nat.le_of_ble_eq_true rfl, ?_⟩
  refine ⟨⟨Nat.le_of_ble_eq_true rfl, Nat.zero_le _, Nat.zero_le _⟩, ?_⟩
  refine ⟨⟨by decide, by decide, Nat.le_of_ble_eq_true rfl, Nat.le_of_ble_eq_true rfl, (by first | omega | (simp only [alS, reS, wR, wAl, wI, oS1, oS2, oS3, oS4, oS5, oS] <;> omega)), ⟨(fs1 (Or.inl (by first | omega | (simp only [alS, reS, wR, wAl, wI, oS1, oS2, oS3, oS4, oS5, oS] <;> omega))) fs0), (fl2 (fl1 (Or.inl (by first | omega | (simp only [alS, reS, wR, wAl, wI, oS1, oS2, oS3, oS4, oS5, oS] <;> omega))) (fl2 fl0)))⟩⟩, ?_⟩
  refine ⟨by (first | assumption | exact Nat.le_refl _ | (simp (disch := omega) only [alS, reS, wAl, wR, wI, upA_e, upA_n, kO_0, kO_38, kO_20, kO_19, kO_48, kO_15, kO_53, kO_62, hk]; done) | (simp only [wAl, wR, alS, reS]; omega) | decide), by (first | assumption | exact Nat.le_refl _ | (simp (disch := omega) only [alS, reS, wAl, wR, wI, upA_e, upA_n, kO_0, kO_38, kO_20, kO_19, kO_48, kO_15, kO_53, kO_62, hk]; done) | (simp only [wAl, wR, alS, reS]; omega) | decide), ?_⟩
  refine ⟨⟨by decide, by decide, Nat.le_of_ble_eq_true rfl, Nat.le_of_ble_eq_true rfl, (by first | omega | (simp only [alS, reS, wR, wAl, wI, oS1, oS2, oS3, oS4, oS5, oS] <;> omega)), ⟨(fs1 (Or.inl (by first | omega | (simp only [alS, reS, wR, wAl, wI, oS1, oS2, oS3, oS4, oS5, oS] <;> omega))) fs0), (fl2 (fl1 (Or.inl (by first | omega | (simp only [alS, reS, wR, wAl, wI, oS1, oS2, oS3, oS4, oS5, oS] <;> omega))) (fl2 fl0)))⟩⟩, ?_⟩
  refine ⟨by (first | assumption | exact Nat.le_refl _ | (simp (disch := omega) only [alS, reS, wAl, wR, wI, upA_e, upA_n, kO_0, kO_38, kO_20, kO_19, kO_48, kO_15, kO_53, kO_62, hk]; done) | (simp only [wAl, wR, alS, reS]; omega) | decide), by (first | assumption | exact Nat.le_refl _ | (simp (disch := omega) only [alS, reS, wAl, wR, wI, upA_e, upA_n, kO_0, kO_38, kO_20, kO_19, kO_48, kO_15, kO_53, kO_62, hk]; done) | (simp only [wAl, wR, alS, reS]; omega) | decide), ?_⟩
  refine ee_at (nt := nzT 48) [(0, .ref n), (3, .int (nI 0))] ((reS (alS (reS (alS (n, kd, ln, rf) 11 2) n 0 (n + 1)) 9 2) n 1 (n + 2)), (zM (zM M (n + 1)) (n + 2)), (zJ (zJ J (n + 1)) (n + 2))) rfl rfl rfl ?_
  have fin := L_shelf2 (d := d) (Q := fun rs w' => rs = .inl none ∧ ∃ S' M' J', w' = (S', M', J') ∧ ShK S' M' n 2 2 ∧ Kp n (n, kd, ln, rf) S' M M' ∧ ∀ q, M' n q = M n q) hb0 hb 2 0 (reS (alS (reS (alS (n, kd, ln, rf) 11 2) n 0 (n + 1)) 9 2) n 1 (n + 2)) (zM (zM M (n + 1)) (n + 2)) (zJ (zJ J (n + 1)) (n + 2)) (by omega) hsh (fun S' M' J' a1 a2 a3 => ⟨rfl, S', M', J', rfl, a1, hkp.tr a2 (Nat.le_refl _), fun q => (a3 q).trans (congrFun hmn q)⟩)
  exact fin
set_option maxHeartbeats 4000000 in
theorem T_i15 {d : Nat} {S : Sc} {M : Nat → Nat → Int32} {J : Nat → Nat → Int64} {b : Nat} (hn : S.1 = b) (hk : S.2.1 b = 1) (hb0 : 1 ≤ b) (hb : b < 900) : Wp (d + 6) 15 [.ref b] (S, M, J) (fun rs w' => rs = .inl none ∧ ∃ S' M' J', w' = (S', M', J') ∧ S'.1 = b + 101 ∧ S'.2.1 b = 1 ∧ S'.2.2.2 b 2 = b + 1 ∧ ShS S' (b + 1) 14 ∧ Kp b S S' M M' ∧ ∀ q, M' b q = M b q) := by
  obtain ⟨n, kd, ln, rf⟩ := S
  have hn : n = b := hn
  subst hn
  have hk : kd n = 1 := hk
  refine ⟨rfl, ?_⟩
  refine EE.runN (stop := noStop) 40 _ ?_
  refine ⟨by (first | assumption | exact Nat.le_refl _ | (simp (disch := omega) only [alS, reS, wAl, wR, wI, upA_e, upA_n, kO_0, kO_38, kO_20, kO_19, kO_48, kO_15, kO_53, kO_62, hk]; done) | (rw [(hkp n (by omega)).1]; simp (disch := omega) only [alS, reS, wAl, wR, wI, upA_e, upA_n, kO_0, kO_38, kO_20, kO_19, kO_48, kO_15, kO_53, kO_62, hk]; done) | (show n + 1 ≤ S2.1; rw [hsh.1]; omega) | decide), Nat.le_of_ble_eq_true rfl, ?_⟩
  refine ⟨⟨Nat.le_of_ble_eq_true rfl, Nat.le_of_ble_eq_true rfl, (by first | omega | (simp only [alS, reS, wR, wAl, wI, oS1, oS2, oS3, oS4, oS5, oS] <;> omega)), ⟨(fs1 (Or.inl (by first | omega | (simp only [alS, reS, wR, wAl, wI, oS1, oS2, oS3, oS4, oS5, oS] <;> omega))) fs0), (fl1 (Or.inl (by first | omega | (simp only [alS, reS, wR, wAl, wI, oS1, oS2, oS3, oS4, oS5, oS] <;> omega))) fl0)⟩⟩, ?_⟩
  refine ⟨⟨Nat.le_of_ble_eq_true rfl, Nat.le_of_ble_eq_true rfl, Nat.le_of_ble_eq_true rfl⟩, by (first | assumption | exact Nat.le_refl _ | (simp (disch := omega) only [alS, reS, wAl, wR, wI, upA_e, upA_n, kO_0, kO_38, kO_20, kO_19, kO_48, kO_15, kO_53, kO_62, hk]; done) | (rw [(hkp n (by omega)).1]; simp (disch := omega) only [alS, reS, wAl, wR, wI, upA_e, upA_n, kO_0, kO_38, kO_20, kO_19, kO_48, kO_15, kO_53, kO_62, hk]; done) | (show n + 1 ≤ S2.1; rw [hsh.1]; omega) | decide), _, T_i48_14 (S := alS (n, kd, ln, rf) 4 0) (b := n + 1) rfl (upA_s _ _ _) (by omega) (by omega), ?_⟩
  rintro _ w1 ⟨rfl, S2, M2, J2, rfl, hsh, hkp, hm⟩
  refine ⟨Or.inr ⟨fs1 (Or.inl (by show n + 1 ≤ n + 1; omega)) (fs1 (Or.inl (by show n ≤ n + 1; omega)) fs0), fl1 (Or.inl (by show n ≤ n + 1; omega)) fl0⟩, ?_⟩
  refine ⟨by (first | assumption | exact Nat.le_refl _ | (simp (disch := omega) only [alS, reS, wAl, wR, wI, upA_e, upA_n, kO_0, kO_38, kO_20, kO_19, kO_48, kO_15, kO_53, kO_62, hk]; done) | (rw [(hkp n (by omega)).1]; simp (disch := omega) only [alS, reS, wAl, wR, wI, upA_e, upA_n, kO_0, kO_38, kO_20, kO_19, kO_48, kO_15, kO_53, kO_62, hk]; done) | (show n + 1 ≤ S2.1; rw [hsh.1]; omega) | decide), by (first | assumption | exact Nat.le_refl _ | (simp (disch := omega) only [alS, reS, wAl, wR, wI, upA_e, upA_n, kO_0, kO_38, kO_20, kO_19, kO_48, kO_15, kO_53, kO_62, hk]; done) | (rw [(hkp n (by omega)).1]; simp (disch := omega) only [alS, reS, wAl, wR, wI, upA_e, upA_n, kO_0, kO_38, kO_20, kO_19, kO_48, kO_15, kO_53, kO_62, hk]; done) | (show n + 1 ≤ S2.1; rw [hsh.1]; omega) | decide), ?_⟩
  have lo : ∀ o, o < n + 1 → S2.2.1 o = (alS (n, kd, ln, rf) 4 0).2.1 o ∧ S2.2.2.1 o = (alS (n, kd, ln, rf) 4 0).2.2.1 o ∧ S2.2.2.2 o = (alS (n, kd, ln, rf) 4 0).2.2.2 o := fun o ho => ⟨(hkp o ho).1, (hkp o ho).2.1, (hkp o ho).2.2.1⟩
  have fin : (reS S2 n 2 (n + 1)).1 = n + 101 ∧ (reS S2 n 2 (n + 1)).2.1 n = 1 ∧ (reS S2 n 2 (n + 1)).2.2.2 n 2 = n + 1 ∧ ShS (reS S2 n 2 (n + 1)) (n + 1) 14 ∧ Kp n (n, kd, ln, rf) (reS S2 n 2 (n + 1)) M M2 ∧ ∀ q, M2 n q = M n q := by
    refine ⟨?_, ?_, ?_, ?_, fun o ho => ?_, fun q => ?_⟩
    · show S2.1 = _
      rw [hsh.1]
    · show S2.2.1 n = 1
      rw [(lo n (by omega)).1]
      exact (upA_n _ _ (by show n ≠ n + 1; omega)).trans hk
    · show upA S2.2.2.2 n _ n 2 = _
      rw [upA_s, upA_s]
    · obtain ⟨a2, a3, a4, a5, a6, a7, a8, a9⟩ := hsh.fin
      have rr : ∀ o, o ≠ n → (reS S2 n 2 (n + 1)).2.2.2 o = S2.2.2.2 o := fun o ho => upA_n _ _ ho
      refine ⟨a2, ?_, ?_, a5, a6, a7, a8, fun i hi => ⟨?_, OdS_cg (a9 i hi).2 (fun o x1 x2 => ⟨rfl, rfl, rr o (by omega)⟩)⟩⟩
      · rw [rr _ (by omega)]; exact a3
      · rw [rr _ (by omega)]; exact a4
      · rw [rr _ (by omega)]; exact (a9 i hi).1
    · obtain ⟨x1, x2, x3, x4⟩ := hkp o (by omega)
      refine ⟨x1.trans (upA_n _ _ (by show o ≠ n + 1; omega)), x2.trans (upA_n _ _ (by show o ≠ n + 1; omega)), ?_, x4.trans (upA_n _ _ (by show o ≠ n + 1; omega))⟩
      exact (upA_n _ _ (by omega)).trans (x3.trans (upA_n _ _ (by show o ≠ n + 1; omega)))
    · rw [(hkp n (by omega)).2.2.2]
      exact congrFun (upA_n _ _ (by show n ≠ n + 1; omega)) q
  exact ⟨⟨Nat.le_of_ble_eq_true rfl, Nat.le_of_ble_eq_true rfl⟩, rfl, _, _, _, rfl, fin⟩
