/-! THE RING IS MADE: written by wip/whole/pure3.py -/
theorem ShS_cg {S S' : Sc} {b n : Nat} (h : ShS S b n) (hk : ∀ o, b ≤ o → o < b + 3 + 7 * n → S'.2.1 o = S.2.1 o ∧ S'.2.2.1 o = S.2.2.1 o ∧ S'.2.2.2 o = S.2.2.2 o) : ShS S' b n := by
  obtain ⟨a2, a3, a4, a5, a6, a7, a8, a9⟩ := h
  have k0 := hk b (by omega) (by omega)
  have k1 := hk (b + 1) (by omega) (by omega)
  have k2 := hk (b + 2) (by omega) (by omega)
  exact ⟨k0.1.trans a2, (congrFun k0.2.2 0).trans a3, (congrFun k0.2.2 1).trans a4, k1.1.trans a5, k1.2.1.trans a6, k2.1.trans a7, k2.2.1.trans a8, fun i hi => ⟨(congrFun k1.2.2 i).trans (a9 i hi).1, OdS_cg (a9 i hi).2 (fun o x1 x2 => hk o (by omega) (by omega))⟩⟩
def rA1 (S : Sc) : Sc := alS S 5 0
def rC1 (S : Sc) : Sc := reS (reS (alS (rA1 S) 8 90) 2 8 ((rA1 S).1 + 1)) 1 0 2
def rA2 (S : Sc) : Sc := alS (rC1 S) 2 0
def rC2 (S : Sc) : Sc := reS (oS (rA2 S) 4) 1 1 4
def rA3 (S : Sc) : Sc := alS (rC2 S) 2 0
def rC3 (S : Sc) : Sc := reS (oS (rA3 S) 11) 1 2 11
def rA4 (S : Sc) : Sc := alS (rC3 S) 1 0
theorem rA2_n {S : Sc} (h : S.1 = 1) : (rA2 S).1 = 4 := by
  show S.1 + 1 + 1 + 1 = 4
  omega
theorem rA2_k {S : Sc} (h : S.1 = 1) : (rA2 S).2.1 4 = 2 := upA_e (by show 4 = S.1 + 1 + 1 + 1; omega)
theorem rA3_n {S : Sc} (h : S.1 = 1) : (rA3 S).1 = 11 := by
  show S.1 + 1 + 1 + 1 + 6 + 1 = 11
  omega
theorem rA3_k {S : Sc} (h : S.1 = 1) : (rA3 S).2.1 11 = 2 := upA_e (by show 11 = S.1 + 1 + 1 + 1 + 6 + 1; omega)
theorem rA4_n {S : Sc} (h : S.1 = 1) : (rA4 S).1 = 18 := by
  show S.1 + 1 + 1 + 1 + 6 + 1 + 6 + 1 = 18
  omega
theorem rA4_k {S : Sc} (h : S.1 = 1) : (rA4 S).2.1 18 = 1 := upA_e (by show 18 = S.1 + 1 + 1 + 1 + 6 + 1 + 6 + 1; omega)
theorem rA4_B2 {S : Sc} (h : S.1 = 1) {o : Nat} (ho : o < 11) : (rA4 S).2.1 o = (oS (rA2 S) 4).2.1 o ∧ (rA4 S).2.2.1 o = (oS (rA2 S) 4).2.2.1 o ∧ (o ≠ 1 → (rA4 S).2.2.2 o = (oS (rA2 S) 4).2.2.2 o) := by
  obtain ⟨x1, x2, x3⟩ := oS_lo (S := rA3 S) (b := 11) (rA3_n h) (o := o) (by omega)
  have e4 : (rC3 S).1 + 1 = 18 := rA4_n h
  have e3 : (rC2 S).1 + 1 = 11 := rA3_n h
  refine ⟨(upA_n _ _ (by omega)).trans (x1.trans (upA_n _ _ (by omega))), (upA_n _ _ (by omega)).trans (x2.trans (upA_n _ _ (by omega))), fun h1 => ?_⟩
  exact (upA_n _ _ (by omega)).trans ((upA_n _ _ h1).trans (x3.trans ((upA_n _ _ (by omega)).trans (upA_n _ _ h1))))
theorem rA4_4 {S : Sc} (h : S.1 = 1) : OdS (rA4 S) 4 := OdS_cg (oS_k (rA2_n h) (rA2_k h)) (fun o x1 x2 => ⟨(rA4_B2 h (by omega)).1, (rA4_B2 h (by omega)).2.1, (rA4_B2 h (by omega)).2.2 (by omega)⟩)
theorem rA4_11 {S : Sc} (h : S.1 = 1) : OdS (rA4 S) 11 := by
  have e4 : (rC3 S).1 + 1 = 18 := rA4_n h
  exact OdS_cg (oS_k (rA3_n h) (rA3_k h)) (fun o x1 x2 => ⟨upA_n _ _ (by omega), upA_n _ _ (by omega), (upA_n _ _ (by omega)).trans (upA_n _ _ (by omega))⟩)
theorem rA4_1 {S : Sc} (h : S.1 = 1) : (rA4 S).2.1 1 = S.2.1 1 ∧ ∃ X, (rA4 S).2.2.2 1 = upA (upA (upA X 0 2) 1 4) 2 11 := by
  obtain ⟨n, kd, ln, rf⟩ := S
  have h : n = 1 := h
  subst h
  refine ⟨?_, rf 1, ?_⟩
  · simp (disch := omega) only [rA4, rC3, rA3, rC2, rA2, rC1, rA1, oS, oS5, oS4, oS3, oS2, oS1, alS, reS, upA_n]
  · simp (disch := omega) only [rA4, rC3, rA3, rC2, rA2, rC1, rA1, oS, oS5, oS4, oS3, oS2, oS1, alS, reS, upA_e, upA_n]
theorem rA4_St {S : Sc} (h : S.1 = 1) : StS (rA4 S) := by
  obtain ⟨n, kd, ln, rf⟩ := S
  have h : n = 1 := h
  subst h
  refine ⟨?_, ?_, ?_, ?_⟩ <;> simp (disch := omega) only [rA4, rC3, rA3, rC2, rA2, rC1, rA1, oS, oS5, oS4, oS3, oS2, oS1, alS, reS, upA_e, upA_n]
theorem ring_S {S S5 S6 : Sc} {M5 M5' M6 M6' M : Nat → Nat → Int32} (h : S.1 = 1) (hk : S.2.1 1 = 6) (n5 : S5.1 = 119) (k18 : S5.2.1 18 = 1) (r18 : S5.2.2.2 18 2 = 19) (sh5 : ShS S5 19 14) (kp5 : Kp 18 (rA4 S) S5 M5 M5') (sh6 : ShK S6 M 120 2 2) (kp6 : Kp 120 (alS (reS S5 1 3 18) 4 0) S6 M6 M6') : RgS (reS S6 1 4 120) ∧ (reS S6 1 4 120).1 = 136 := by
  have e5 : (reS S5 1 3 18).1 + 1 = 120 := by show S5.1 + 1 = 120; omega
  have q6 : ∀ o, o < 120 → o ≠ 1 → (reS S6 1 4 120).2.1 o = S5.2.1 o ∧ (reS S6 1 4 120).2.2.1 o = S5.2.2.1 o ∧ (reS S6 1 4 120).2.2.2 o = S5.2.2.2 o := fun o ho h1 => by
    obtain ⟨x1, x2, x3, _⟩ := kp6 o ho
    have a1 : (alS (reS S5 1 3 18) 4 0).2.1 o = S5.2.1 o := by simp (disch := omega) only [alS, reS, upA_n]
    have a2 : (alS (reS S5 1 3 18) 4 0).2.2.1 o = S5.2.2.1 o := by simp (disch := omega) only [alS, reS, upA_n]
    have a3 : (alS (reS S5 1 3 18) 4 0).2.2.2 o = S5.2.2.2 o := by simp (disch := omega) only [alS, reS, upA_n]
    have a4 : (reS S6 1 4 120).2.2.2 o = S6.2.2.2 o := by simp (disch := omega) only [reS, upA_n]
    exact ⟨x1.trans a1, x2.trans a2, a4.trans (x3.trans a3)⟩
  have q5 : ∀ o, o < 18 → o ≠ 1 → (reS S6 1 4 120).2.1 o = (rA4 S).2.1 o ∧ (reS S6 1 4 120).2.2.1 o = (rA4 S).2.2.1 o ∧ (reS S6 1 4 120).2.2.2 o = (rA4 S).2.2.2 o := fun o ho h1 => by
    obtain ⟨x1, x2, x3⟩ := q6 o (by omega) h1
    obtain ⟨y1, y2, y3, _⟩ := kp5 o ho
    exact ⟨x1.trans y1, x2.trans y2, x3.trans y3⟩
  obtain ⟨s1, s2, s3, s4⟩ := rA4_St h
  obtain ⟨k1, X, r1⟩ := rA4_1 h
  have r1' : (reS S6 1 4 120).2.2.2 1 = upA (upA (upA (upA (upA X 0 2) 1 4) 2 11) 3 18) 4 120 := by
    have e_ : (reS S6 1 4 120).2.2.2 1 = upA (S6.2.2.2 1) 4 120 := by simp (disch := omega) only [reS, upA_e]
    rw [e_, (kp6 1 (by omega)).2.2.1]
    have : (alS (reS S5 1 3 18) 4 0).2.2.2 1 = upA (S5.2.2.2 1) 3 18 := by simp (disch := omega) only [alS, reS, upA_e, upA_n]
    rw [this, (kp5 1 (by omega)).2.2.1, r1]
  have k1' : (reS S6 1 4 120).2.1 1 = 6 := ((kp6 1 (by omega)).1).trans ((show (alS (reS S5 1 3 18) 4 0).2.1 1 = S5.2.1 1 by simp (disch := omega) only [alS, reS, upA_n]).trans ((kp5 1 (by omega)).1.trans (k1.trans hk)))
  refine ⟨⟨⟨(q5 2 (by omega) (by omega)).1.trans s1, (q5 3 (by omega) (by omega)).1.trans s2, (q5 3 (by omega) (by omega)).2.1.trans s3, (congrFun (q5 2 (by omega) (by omega)).2.2 8).trans s4⟩, OdS_cg (rA4_4 h) (fun o x1 x2 => q5 o (by omega) (by omega)), OdS_cg (rA4_11 h) (fun o x1 x2 => q5 o (by omega) (by omega)), ⟨k1', ?_, ?_, ?_, ?_, ?_⟩, ⟨(q6 18 (by omega) (by omega)).1.trans k18, (congrFun (q6 18 (by omega) (by omega)).2.2 2).trans r18⟩, ShS_cg sh5 (fun o x1 x2 => q6 o (by omega) (by omega)), ShS_cg sh6.fin (fun o x1 x2 => ⟨rfl, rfl, upA_n _ _ (by omega)⟩)⟩, ?_⟩
  · rw [r1']; rfl
  · rw [r1']; rfl
  · rw [r1']; rfl
  · rw [r1']; rfl
  · rw [r1']; rfl
  · show S6.1 = 136
    rw [sh6.1]
set_option maxRecDepth 20000 in
set_option maxHeartbeats 8000000 in
theorem T_i62 {d : Nat} {S : Sc} {M : Nat → Nat → Int32} {J : Nat → Nat → Int64} (hn : S.1 = 1) (hk : S.2.1 1 = 6) : Wp (d + 7) 62 [.ref 1] (S, M, J) (fun rs w' => rs = .inl none ∧ ∃ S' M' J', w' = (S', M', J') ∧ (RgS S' ∧ S'.1 = 136) ∧ (∃ σ, ∀ q, q < 114 → vO M' 4 q = cNew σ 4 10 100 q) ∧ (∀ q, M' 2 q = 0) ∧ (∀ q, M' 3 q = 0) ∧ (∀ q, M' 18 q = 0) ∧ ∀ q, M' (120 + 2) q = 0) := by
  obtain ⟨n, kd, ln, rf⟩ := S
  have hn : n = 1 := hn
  subst hn
  have hk : kd 1 = 6 := hk
  refine ⟨rfl, ?_⟩
  refine EE.runN (stop := noStop) 80 _ ?_
  refine ⟨by (first | exact hk | exact k5 | exact k6 | exact l6 | exact Nat.le_of_ble_eq_true rfl | (simp (disch := omega) only [rA4, rC3, rA3, rC2, rA2, rC1, rA1, oS, oS5, oS4, oS3, oS2, oS1, alS, reS, wAl, wR, upA_e, upA_n, hk]; done) | (simp (disch := omega) only [rA4, rC3, rA3, rC2, rA2, rC1, rA1, oS, oS5, oS4, oS3, oS2, oS1, alS, reS, wAl, wR, upA_e, upA_n, hk, kO_53, kO_19, kO_15, kO_48]; done) | (show upA _ _ _ _ = _; exact upA_s _ _ _) | (simp (disch := omega) only [wAl, wR, alS, reS, upA_e, upA_n, k5]; done)), Nat.le_of_ble_eq_true rfl, ?_⟩
  refine ⟨⟨Nat.le_of_ble_eq_true rfl, Nat.le_of_ble_eq_true rfl, (by first | exact Nat.le_of_ble_eq_true rfl | (show _ < _; omega)), ⟨fs1 (Or.inl (by exact Nat.le_of_ble_eq_true rfl)) fs0, fl1 (Or.inl (by exact Nat.le_of_ble_eq_true rfl)) fl0⟩⟩, ?_⟩
  refine ⟨⟨Nat.le_of_ble_eq_true rfl, Nat.le_of_ble_eq_true rfl, Nat.le_of_ble_eq_true rfl⟩, by (first | exact hk | exact k5 | exact k6 | exact l6 | exact Nat.le_of_ble_eq_true rfl | (simp (disch := omega) only [rA4, rC3, rA3, rC2, rA2, rC1, rA1, oS, oS5, oS4, oS3, oS2, oS1, alS, reS, wAl, wR, upA_e, upA_n, hk]; done) | (simp (disch := omega) only [rA4, rC3, rA3, rC2, rA2, rC1, rA1, oS, oS5, oS4, oS3, oS2, oS1, alS, reS, wAl, wR, upA_e, upA_n, hk, kO_53, kO_19, kO_15, kO_48]; done) | (show upA _ _ _ _ = _; exact upA_s _ _ _) | (simp (disch := omega) only [wAl, wR, alS, reS, upA_e, upA_n, k5]; done)), _, T_i53 (S := rA1 (1, kd, ln, rf)) (b := 2) rfl (by omega) (Nat.le_refl _) (by show 1 + 1 < 900000; omega), ?_⟩
  rintro _ w1 ⟨rfl, rfl⟩
  refine ⟨Or.inr ⟨(fs1 (Or.inl (by exact Nat.le_of_ble_eq_true rfl)) (fs1 (Or.inl (by exact Nat.le_of_ble_eq_true rfl)) fs0)), fl1 (Or.inl (by exact Nat.le_of_ble_eq_true rfl)) fl0⟩, ?_⟩
  refine ⟨by (first | exact hk | exact k5 | exact k6 | exact l6 | exact Nat.le_of_ble_eq_true rfl | (simp (disch := omega) only [rA4, rC3, rA3, rC2, rA2, rC1, rA1, oS, oS5, oS4, oS3, oS2, oS1, alS, reS, wAl, wR, upA_e, upA_n, hk]; done) | (simp (disch := omega) only [rA4, rC3, rA3, rC2, rA2, rC1, rA1, oS, oS5, oS4, oS3, oS2, oS1, alS, reS, wAl, wR, upA_e, upA_n, hk, kO_53, kO_19, kO_15, kO_48]; done) | (show upA _ _ _ _ = _; exact upA_s _ _ _) | (simp (disch := omega) only [wAl, wR, alS, reS, upA_e, upA_n, k5]; done)), by (first | exact hk | exact k5 | exact k6 | exact l6 | exact Nat.le_of_ble_eq_true rfl | (simp (disch := omega) only [rA4, rC3, rA3, rC2, rA2, rC1, rA1, oS, oS5, oS4, oS3, oS2, oS1, alS, reS, wAl, wR, upA_e, upA_n, hk]; done) | (simp (disch := omega) only [rA4, rC3, rA3, rC2, rA2, rC1, rA1, oS, oS5, oS4, oS3, oS2, oS1, alS, reS, wAl, wR, upA_e, upA_n, hk, kO_53, kO_19, kO_15, kO_48]; done) | (show upA _ _ _ _ = _; exact upA_s _ _ _) | (simp (disch := omega) only [wAl, wR, alS, reS, upA_e, upA_n, k5]; done)), ?_⟩
  refine ⟨⟨Nat.le_of_ble_eq_true rfl, Nat.le_of_ble_eq_true rfl, (by first | exact Nat.le_of_ble_eq_true rfl | (show _ < _; omega)), ⟨fs1 (Or.inl (by exact Nat.le_of_ble_eq_true rfl)) fs0, fl1 (Or.inl (by exact Nat.le_of_ble_eq_true rfl)) fl0⟩⟩, ?_⟩
  refine ⟨⟨Nat.le_of_ble_eq_true rfl, Nat.le_of_ble_eq_true rfl, Nat.le_of_ble_eq_true rfl⟩, by (first | exact hk | exact k5 | exact k6 | exact l6 | exact Nat.le_of_ble_eq_true rfl | (simp (disch := omega) only [rA4, rC3, rA3, rC2, rA2, rC1, rA1, oS, oS5, oS4, oS3, oS2, oS1, alS, reS, wAl, wR, upA_e, upA_n, hk]; done) | (simp (disch := omega) only [rA4, rC3, rA3, rC2, rA2, rC1, rA1, oS, oS5, oS4, oS3, oS2, oS1, alS, reS, wAl, wR, upA_e, upA_n, hk, kO_53, kO_19, kO_15, kO_48]; done) | (show upA _ _ _ _ = _; exact upA_s _ _ _) | (simp (disch := omega) only [wAl, wR, alS, reS, upA_e, upA_n, k5]; done)), _, T_i19 (S := rA2 (1, kd, ln, rf)) (b := 4) (rA2_n rfl) (rA2_k rfl) (by omega) (by omega), ?_⟩
  rintro _ w1 ⟨rfl, M2, J2, rfl, hM2, σ, hσ⟩
  refine ⟨Or.inr ⟨(fs1 (Or.inl (by exact Nat.le_of_ble_eq_true rfl)) (fs1 (Or.inl (by exact Nat.le_of_ble_eq_true rfl)) fs0)), fl1 (Or.inl (by exact Nat.le_of_ble_eq_true rfl)) fl0⟩, ?_⟩
  refine ⟨by (first | exact hk | exact k5 | exact k6 | exact l6 | exact Nat.le_of_ble_eq_true rfl | (simp (disch := omega) only [rA4, rC3, rA3, rC2, rA2, rC1, rA1, oS, oS5, oS4, oS3, oS2, oS1, alS, reS, wAl, wR, upA_e, upA_n, hk]; done) | (simp (disch := omega) only [rA4, rC3, rA3, rC2, rA2, rC1, rA1, oS, oS5, oS4, oS3, oS2, oS1, alS, reS, wAl, wR, upA_e, upA_n, hk, kO_53, kO_19, kO_15, kO_48]; done) | (show upA _ _ _ _ = _; exact upA_s _ _ _) | (simp (disch := omega) only [wAl, wR, alS, reS, upA_e, upA_n, k5]; done)), by (first | exact hk | exact k5 | exact k6 | exact l6 | exact Nat.le_of_ble_eq_true rfl | (simp (disch := omega) only [rA4, rC3, rA3, rC2, rA2, rC1, rA1, oS, oS5, oS4, oS3, oS2, oS1, alS, reS, wAl, wR, upA_e, upA_n, hk]; done) | (simp (disch := omega) only [rA4, rC3, rA3, rC2, rA2, rC1, rA1, oS, oS5, oS4, oS3, oS2, oS1, alS, reS, wAl, wR, upA_e, upA_n, hk, kO_53, kO_19, kO_15, kO_48]; done) | (show upA _ _ _ _ = _; exact upA_s _ _ _) | (simp (disch := omega) only [wAl, wR, alS, reS, upA_e, upA_n, k5]; done)), ?_⟩
  refine ⟨⟨Nat.le_of_ble_eq_true rfl, Nat.le_of_ble_eq_true rfl, (by first | exact Nat.le_of_ble_eq_true rfl | (show _ < _; omega)), ⟨fs1 (Or.inl (by exact Nat.le_of_ble_eq_true rfl)) fs0, fl1 (Or.inl (by exact Nat.le_of_ble_eq_true rfl)) fl0⟩⟩, ?_⟩
  refine ⟨⟨Nat.le_of_ble_eq_true rfl, Nat.le_of_ble_eq_true rfl, Nat.le_of_ble_eq_true rfl⟩, by (first | exact hk | exact k5 | exact k6 | exact l6 | exact Nat.le_of_ble_eq_true rfl | (simp (disch := omega) only [rA4, rC3, rA3, rC2, rA2, rC1, rA1, oS, oS5, oS4, oS3, oS2, oS1, alS, reS, wAl, wR, upA_e, upA_n, hk]; done) | (simp (disch := omega) only [rA4, rC3, rA3, rC2, rA2, rC1, rA1, oS, oS5, oS4, oS3, oS2, oS1, alS, reS, wAl, wR, upA_e, upA_n, hk, kO_53, kO_19, kO_15, kO_48]; done) | (show upA _ _ _ _ = _; exact upA_s _ _ _) | (simp (disch := omega) only [wAl, wR, alS, reS, upA_e, upA_n, k5]; done)), _, T_i19 (S := rA3 (1, kd, ln, rf)) (b := 11) (rA3_n rfl) (rA3_k rfl) (by omega) (by omega), ?_⟩
  rintro _ w1 ⟨rfl, M3, J3, rfl, hM3, -⟩
  refine ⟨Or.inr ⟨(fs1 (Or.inl (by exact Nat.le_of_ble_eq_true rfl)) (fs1 (Or.inl (by exact Nat.le_of_ble_eq_true rfl)) fs0)), fl1 (Or.inl (by exact Nat.le_of_ble_eq_true rfl)) fl0⟩, ?_⟩
  refine ⟨by (first | exact hk | exact k5 | exact k6 | exact l6 | exact Nat.le_of_ble_eq_true rfl | (simp (disch := omega) only [rA4, rC3, rA3, rC2, rA2, rC1, rA1, oS, oS5, oS4, oS3, oS2, oS1, alS, reS, wAl, wR, upA_e, upA_n, hk]; done) | (simp (disch := omega) only [rA4, rC3, rA3, rC2, rA2, rC1, rA1, oS, oS5, oS4, oS3, oS2, oS1, alS, reS, wAl, wR, upA_e, upA_n, hk, kO_53, kO_19, kO_15, kO_48]; done) | (show upA _ _ _ _ = _; exact upA_s _ _ _) | (simp (disch := omega) only [wAl, wR, alS, reS, upA_e, upA_n, k5]; done)), by (first | exact hk | exact k5 | exact k6 | exact l6 | exact Nat.le_of_ble_eq_true rfl | (simp (disch := omega) only [rA4, rC3, rA3, rC2, rA2, rC1, rA1, oS, oS5, oS4, oS3, oS2, oS1, alS, reS, wAl, wR, upA_e, upA_n, hk]; done) | (simp (disch := omega) only [rA4, rC3, rA3, rC2, rA2, rC1, rA1, oS, oS5, oS4, oS3, oS2, oS1, alS, reS, wAl, wR, upA_e, upA_n, hk, kO_53, kO_19, kO_15, kO_48]; done) | (show upA _ _ _ _ = _; exact upA_s _ _ _) | (simp (disch := omega) only [wAl, wR, alS, reS, upA_e, upA_n, k5]; done)), ?_⟩
  refine ⟨⟨Nat.le_of_ble_eq_true rfl, Nat.le_of_ble_eq_true rfl, (by first | exact Nat.le_of_ble_eq_true rfl | (show _ < _; omega)), ⟨fs1 (Or.inl (by exact Nat.le_of_ble_eq_true rfl)) fs0, fl1 (Or.inl (by exact Nat.le_of_ble_eq_true rfl)) fl0⟩⟩, ?_⟩
  refine ⟨⟨Nat.le_of_ble_eq_true rfl, Nat.le_of_ble_eq_true rfl, Nat.le_of_ble_eq_true rfl⟩, by (first | exact hk | exact k5 | exact k6 | exact l6 | exact Nat.le_of_ble_eq_true rfl | (simp (disch := omega) only [rA4, rC3, rA3, rC2, rA2, rC1, rA1, oS, oS5, oS4, oS3, oS2, oS1, alS, reS, wAl, wR, upA_e, upA_n, hk]; done) | (simp (disch := omega) only [rA4, rC3, rA3, rC2, rA2, rC1, rA1, oS, oS5, oS4, oS3, oS2, oS1, alS, reS, wAl, wR, upA_e, upA_n, hk, kO_53, kO_19, kO_15, kO_48]; done) | (show upA _ _ _ _ = _; exact upA_s _ _ _) | (simp (disch := omega) only [wAl, wR, alS, reS, upA_e, upA_n, k5]; done)), _, T_i15 (S := rA4 (1, kd, ln, rf)) (b := 18) (rA4_n rfl) (rA4_k rfl) (by omega) (by omega), ?_⟩
  rintro _ w1 ⟨rfl, S5, M5, J5, rfl, n5, k18, r18, sh5, kp5, m5⟩
  obtain ⟨n5_, kd5, ln5, rf5⟩ := S5
  have n5 : n5_ = 119 := n5
  subst n5
  have k5 : kd5 1 = 6 := ((kp5 1 (by omega)).1).trans ((rA4_1 (S := (1, kd, ln, rf)) rfl).1.trans hk)
  refine ⟨Or.inr ⟨(fs1 (Or.inl (by exact Nat.le_of_ble_eq_true rfl)) (fs1 (Or.inl (by exact Nat.le_of_ble_eq_true rfl)) fs0)), fl1 (Or.inl (by exact Nat.le_of_ble_eq_true rfl)) fl0⟩, ?_⟩
  refine ⟨by (first | exact hk | exact k5 | exact k6 | exact l6 | exact Nat.le_of_ble_eq_true rfl | (simp (disch := omega) only [rA4, rC3, rA3, rC2, rA2, rC1, rA1, oS, oS5, oS4, oS3, oS2, oS1, alS, reS, wAl, wR, upA_e, upA_n, hk]; done) | (simp (disch := omega) only [rA4, rC3, rA3, rC2, rA2, rC1, rA1, oS, oS5, oS4, oS3, oS2, oS1, alS, reS, wAl, wR, upA_e, upA_n, hk, kO_53, kO_19, kO_15, kO_48]; done) | (show upA _ _ _ _ = _; exact upA_s _ _ _) | (simp (disch := omega) only [wAl, wR, alS, reS, upA_e, upA_n, k5]; done)), by (first | exact hk | exact k5 | exact k6 | exact l6 | exact Nat.le_of_ble_eq_true rfl | (simp (disch := omega) only [rA4, rC3, rA3, rC2, rA2, rC1, rA1, oS, oS5, oS4, oS3, oS2, oS1, alS, reS, wAl, wR, upA_e, upA_n, hk]; done) | (simp (disch := omega) only [rA4, rC3, rA3, rC2, rA2, rC1, rA1, oS, oS5, oS4, oS3, oS2, oS1, alS, reS, wAl, wR, upA_e, upA_n, hk, kO_53, kO_19, kO_15, kO_48]; done) | (show upA _ _ _ _ = _; exact upA_s _ _ _) | (simp (disch := omega) only [wAl, wR, alS, reS, upA_e, upA_n, k5]; done)), ?_⟩
  refine ⟨⟨Nat.le_of_ble_eq_true rfl, Nat.le_of_ble_eq_true rfl, (by first | exact Nat.le_of_ble_eq_true rfl | (show _ < _; omega)), ⟨fs1 (Or.inl (by exact Nat.le_of_ble_eq_true rfl)) fs0, fl1 (Or.inl (by exact Nat.le_of_ble_eq_true rfl)) fl0⟩⟩, ?_⟩
  refine ⟨⟨Nat.le_of_ble_eq_true rfl, Nat.le_of_ble_eq_true rfl, Nat.le_of_ble_eq_true rfl⟩, by (first | exact hk | exact k5 | exact k6 | exact l6 | exact Nat.le_of_ble_eq_true rfl | (simp (disch := omega) only [rA4, rC3, rA3, rC2, rA2, rC1, rA1, oS, oS5, oS4, oS3, oS2, oS1, alS, reS, wAl, wR, upA_e, upA_n, hk]; done) | (simp (disch := omega) only [rA4, rC3, rA3, rC2, rA2, rC1, rA1, oS, oS5, oS4, oS3, oS2, oS1, alS, reS, wAl, wR, upA_e, upA_n, hk, kO_53, kO_19, kO_15, kO_48]; done) | (show upA _ _ _ _ = _; exact upA_s _ _ _) | (simp (disch := omega) only [wAl, wR, alS, reS, upA_e, upA_n, k5]; done)), _, T_i48_2 (S := alS (reS (119, kd5, ln5, rf5) 1 3 18) 4 0) (b := 120) rfl rfl (by omega) (by omega), ?_⟩
  rintro _ w1 ⟨rfl, S6, M6, J6, rfl, sh6, kp6, m6⟩
  have k6 : S6.2.1 1 = 6 := ((kp6 1 (by omega)).1).trans ((show (alS (reS (119, kd5, ln5, rf5) 1 3 18) 4 0).2.1 1 = kd5 1 by simp (disch := omega) only [alS, reS, upA_n]).trans k5)
  have l6 : 119 + 1 ≤ S6.1 := by rw [sh6.1]; omega
  refine ⟨Or.inr ⟨(fs1 (Or.inl (by exact Nat.le_of_ble_eq_true rfl)) (fs1 (Or.inl (by exact Nat.le_of_ble_eq_true rfl)) fs0)), fl1 (Or.inl (by exact Nat.le_of_ble_eq_true rfl)) fl0⟩, ?_⟩
  refine ⟨by (first | exact hk | exact k5 | exact k6 | exact l6 | exact Nat.le_of_ble_eq_true rfl | (simp (disch := omega) only [rA4, rC3, rA3, rC2, rA2, rC1, rA1, oS, oS5, oS4, oS3, oS2, oS1, alS, reS, wAl, wR, upA_e, upA_n, hk]; done) | (simp (disch := omega) only [rA4, rC3, rA3, rC2, rA2, rC1, rA1, oS, oS5, oS4, oS3, oS2, oS1, alS, reS, wAl, wR, upA_e, upA_n, hk, kO_53, kO_19, kO_15, kO_48]; done) | (show upA _ _ _ _ = _; exact upA_s _ _ _) | (simp (disch := omega) only [wAl, wR, alS, reS, upA_e, upA_n, k5]; done)), by (first | exact hk | exact k5 | exact k6 | exact l6 | exact Nat.le_of_ble_eq_true rfl | (simp (disch := omega) only [rA4, rC3, rA3, rC2, rA2, rC1, rA1, oS, oS5, oS4, oS3, oS2, oS1, alS, reS, wAl, wR, upA_e, upA_n, hk]; done) | (simp (disch := omega) only [rA4, rC3, rA3, rC2, rA2, rC1, rA1, oS, oS5, oS4, oS3, oS2, oS1, alS, reS, wAl, wR, upA_e, upA_n, hk, kO_53, kO_19, kO_15, kO_48]; done) | (show upA _ _ _ _ = _; exact upA_s _ _ _) | (simp (disch := omega) only [wAl, wR, alS, reS, upA_e, upA_n, k5]; done)), ?_⟩
  refine ⟨⟨Nat.le_of_ble_eq_true rfl, Nat.le_of_ble_eq_true rfl⟩, rfl, reS S6 1 4 120, M6, J6, rfl, ring_S (S := (1, kd, ln, rf)) rfl hk rfl k18 r18 sh5 kp5 sh6 kp6, ⟨σ, fun q hq => ?_⟩, fun q => ?_, fun q => ?_, fun q => ?_, sh6.2.2.2.2.2.2.2.2.1⟩
  · rw [← hσ q hq]
    refine vO_eqv (fun o k z1 z2 => ?_) q
    rw [(kp6 o (by omega)).2.2.2]
    refine (congrFun (upA_n _ _ (by show o ≠ 119 + 1; omega)) k).trans ?_
    show M5 o k = _
    rw [(kp5 o (by omega)).2.2.2]
    refine (congrFun (upA_n _ _ (by show o ≠ 18; omega)) k).trans ?_
    show M3 o k = _
    rw [hM3 o (by omega)]
    exact congrFun (upA_n _ _ (by show o ≠ 11; omega)) k
  · rw [(kp6 2 (by omega)).2.2.2]
    refine (congrFun (upA_n _ _ (by show 2 ≠ 119 + 1; omega)) q).trans ?_
    show M5 2 q = _
    rw [(kp5 2 (by omega)).2.2.2]
    refine (congrFun (upA_n _ _ (by show 2 ≠ 18; omega)) q).trans ?_
    show M3 2 q = _
    rw [hM3 2 (by omega)]
    refine (congrFun (upA_n _ _ (by show 2 ≠ 11; omega)) q).trans ?_
    show M2 2 q = _
    rw [hM2 2 (by omega)]
    refine (congrFun (upA_n _ _ (by show 2 ≠ 4; omega)) q).trans ?_
    rfl
  · rw [(kp6 3 (by omega)).2.2.2]
    refine (congrFun (upA_n _ _ (by show 3 ≠ 119 + 1; omega)) q).trans ?_
    show M5 3 q = _
    rw [(kp5 3 (by omega)).2.2.2]
    refine (congrFun (upA_n _ _ (by show 3 ≠ 18; omega)) q).trans ?_
    show M3 3 q = _
    rw [hM3 3 (by omega)]
    refine (congrFun (upA_n _ _ (by show 3 ≠ 11; omega)) q).trans ?_
    show M2 3 q = _
    rw [hM2 3 (by omega)]
    refine (congrFun (upA_n _ _ (by show 3 ≠ 4; omega)) q).trans ?_
    rfl
  · rw [(kp6 18 (by omega)).2.2.2]
    refine (congrFun (upA_n _ _ (by show 18 ≠ 119 + 1; omega)) q).trans ?_
    show M5 18 q = _
    rw [m5 q]
    rfl
