/-! THE SECOND RING IS MADE: written by wip/p31/init.py from whole's 91 -/
def RgT (A : Nat) (S : Sc) : Prop := (S.2.1 (A + 2) = 5 ∧ S.2.1 (A + 3) = 8 ∧ S.2.2.1 (A + 3) = 90 ∧ S.2.2.2 (A + 2) 8 = A + 3) ∧ OdS S (A + 4) ∧ OdS S (A + 11) ∧ (S.2.1 (A + 1) = 6 ∧ S.2.2.2 (A + 1) 0 = A + 2 ∧ S.2.2.2 (A + 1) 1 = A + 4 ∧ S.2.2.2 (A + 1) 2 = A + 11 ∧ S.2.2.2 (A + 1) 3 = A + 18 ∧ S.2.2.2 (A + 1) 4 = A + 120) ∧ (S.2.1 (A + 18) = 1 ∧ S.2.2.2 (A + 18) 2 = A + 19) ∧ ShS S (A + 19) 14 ∧ ShS S (A + 120) 2
def sA1 (S : Sc) : Sc := alS S 5 0
def sC1 (S : Sc) : Sc := reS (reS (alS (sA1 S) 8 90) 138 8 ((sA1 S).1 + 1)) 137 0 138
def sA2 (S : Sc) : Sc := alS (sC1 S) 2 0
def sC2 (S : Sc) : Sc := reS (oS (sA2 S) 140) 137 1 140
def sA3 (S : Sc) : Sc := alS (sC2 S) 2 0
def sC3 (S : Sc) : Sc := reS (oS (sA3 S) 147) 137 2 147
def sA4 (S : Sc) : Sc := alS (sC3 S) 1 0
theorem sA2_n {S : Sc} (h : S.1 = 137) : (sA2 S).1 = 140 := by
  show S.1 + 1 + 1 + 1 = 140
  omega
theorem sA2_k {S : Sc} (h : S.1 = 137) : (sA2 S).2.1 140 = 2 := upA_e (by show 140 = S.1 + 1 + 1 + 1; omega)
theorem sA3_n {S : Sc} (h : S.1 = 137) : (sA3 S).1 = 147 := by
  show S.1 + 1 + 1 + 1 + 6 + 1 = 147
  omega
theorem sA3_k {S : Sc} (h : S.1 = 137) : (sA3 S).2.1 147 = 2 := upA_e (by show 147 = S.1 + 1 + 1 + 1 + 6 + 1; omega)
theorem sA4_n {S : Sc} (h : S.1 = 137) : (sA4 S).1 = 154 := by
  show S.1 + 1 + 1 + 1 + 6 + 1 + 6 + 1 = 154
  omega
theorem sA4_k {S : Sc} (h : S.1 = 137) : (sA4 S).2.1 154 = 1 := upA_e (by show 154 = S.1 + 1 + 1 + 1 + 6 + 1 + 6 + 1; omega)
theorem sA4_B2 {S : Sc} (h : S.1 = 137) {o : Nat} (ho : o < 147) : (sA4 S).2.1 o = (oS (sA2 S) 140).2.1 o ∧ (sA4 S).2.2.1 o = (oS (sA2 S) 140).2.2.1 o ∧ (o ≠ 137 → (sA4 S).2.2.2 o = (oS (sA2 S) 140).2.2.2 o) := by
  obtain ⟨x1, x2, x3⟩ := oS_lo (S := sA3 S) (b := 147) (sA3_n h) (o := o) (by omega)
  have e4 : (sC3 S).1 + 1 = 154 := sA4_n h
  have e3 : (sC2 S).1 + 1 = 147 := sA3_n h
  refine ⟨(upA_n _ _ (by omega)).trans (x1.trans (upA_n _ _ (by omega))), (upA_n _ _ (by omega)).trans (x2.trans (upA_n _ _ (by omega))), fun h1 => ?_⟩
  exact (upA_n _ _ (by omega)).trans ((upA_n _ _ h1).trans (x3.trans ((upA_n _ _ (by omega)).trans (upA_n _ _ h1))))
theorem sA4_4 {S : Sc} (h : S.1 = 137) : OdS (sA4 S) 140 := OdS_cg (oS_k (sA2_n h) (sA2_k h)) (fun o x1 x2 => ⟨(sA4_B2 h (by omega)).1, (sA4_B2 h (by omega)).2.1, (sA4_B2 h (by omega)).2.2 (by omega)⟩)
theorem sA4_11 {S : Sc} (h : S.1 = 137) : OdS (sA4 S) 147 := by
  have e4 : (sC3 S).1 + 1 = 154 := sA4_n h
  exact OdS_cg (oS_k (sA3_n h) (sA3_k h)) (fun o x1 x2 => ⟨upA_n _ _ (by omega), upA_n _ _ (by omega), (upA_n _ _ (by omega)).trans (upA_n _ _ (by omega))⟩)
theorem sA4_1 {S : Sc} (h : S.1 = 137) : (sA4 S).2.1 137 = S.2.1 137 ∧ ∃ X, (sA4 S).2.2.2 137 = upA (upA (upA X 0 138) 1 140) 2 147 := by
  obtain ⟨n, kd, ln, rf⟩ := S
  have h : n = 137 := h
  subst h
  refine ⟨?_, rf 137, ?_⟩
  · simp (disch := omega) only [sA4, sC3, sA3, sC2, sA2, sC1, sA1, oS, oS5, oS4, oS3, oS2, oS1, alS, reS, upA_n]
  · simp (disch := omega) only [sA4, sC3, sA3, sC2, sA2, sC1, sA1, oS, oS5, oS4, oS3, oS2, oS1, alS, reS, upA_e, upA_n]
theorem sA4_St {S : Sc} (h : S.1 = 137) : (sA4 S).2.1 138 = 5 ∧ (sA4 S).2.1 139 = 8 ∧ (sA4 S).2.2.1 139 = 90 ∧ (sA4 S).2.2.2 138 8 = 139 := by
  obtain ⟨n, kd, ln, rf⟩ := S
  have h : n = 137 := h
  subst h
  refine ⟨?_, ?_, ?_, ?_⟩ <;> simp (disch := omega) only [sA4, sC3, sA3, sC2, sA2, sC1, sA1, oS, oS5, oS4, oS3, oS2, oS1, alS, reS, upA_e, upA_n]
theorem sA4_lo {S : Sc} (h : S.1 = 137) {o : Nat} (ho : o < 137) : (sA4 S).2.1 o = S.2.1 o ∧ (sA4 S).2.2.1 o = S.2.2.1 o ∧ (sA4 S).2.2.2 o = S.2.2.2 o := by
  obtain ⟨n, kd, ln, rf⟩ := S
  have h : n = 137 := h
  subst h
  refine ⟨?_, ?_, ?_⟩ <;> simp (disch := omega) only [sA4, sC3, sA3, sC2, sA2, sC1, sA1, oS, oS5, oS4, oS3, oS2, oS1, alS, reS, upA_n]
theorem ring_T {S S5 S6 : Sc} {M5 M5' M6 M6' M : Nat → Nat → Int32} (h : S.1 = 137) (hk : S.2.1 137 = 6) (n5 : S5.1 = 255) (k18 : S5.2.1 154 = 1) (r18 : S5.2.2.2 154 2 = 155) (sh5 : ShS S5 155 14) (kp5 : Kp 154 (sA4 S) S5 M5 M5') (sh6 : ShK S6 M 256 2 2) (kp6 : Kp 256 (alS (reS S5 137 3 154) 4 0) S6 M6 M6') : RgT 136 (reS S6 137 4 256) ∧ (reS S6 137 4 256).1 = 272 := by
  have e5 : (reS S5 137 3 154).1 + 1 = 256 := by show S5.1 + 1 = 256; omega
  have q6 : ∀ o, o < 256 → o ≠ 137 → (reS S6 137 4 256).2.1 o = S5.2.1 o ∧ (reS S6 137 4 256).2.2.1 o = S5.2.2.1 o ∧ (reS S6 137 4 256).2.2.2 o = S5.2.2.2 o := fun o ho h1 => by
    obtain ⟨x1, x2, x3, _⟩ := kp6 o ho
    have a1 : (alS (reS S5 137 3 154) 4 0).2.1 o = S5.2.1 o := by simp (disch := omega) only [alS, reS, upA_n]
    have a2 : (alS (reS S5 137 3 154) 4 0).2.2.1 o = S5.2.2.1 o := by simp (disch := omega) only [alS, reS, upA_n]
    have a3 : (alS (reS S5 137 3 154) 4 0).2.2.2 o = S5.2.2.2 o := by simp (disch := omega) only [alS, reS, upA_n]
    have a4 : (reS S6 137 4 256).2.2.2 o = S6.2.2.2 o := by simp (disch := omega) only [reS, upA_n]
    exact ⟨x1.trans a1, x2.trans a2, a4.trans (x3.trans a3)⟩
  have q5 : ∀ o, o < 154 → o ≠ 137 → (reS S6 137 4 256).2.1 o = (sA4 S).2.1 o ∧ (reS S6 137 4 256).2.2.1 o = (sA4 S).2.2.1 o ∧ (reS S6 137 4 256).2.2.2 o = (sA4 S).2.2.2 o := fun o ho h1 => by
    obtain ⟨x1, x2, x3⟩ := q6 o (by omega) h1
    obtain ⟨y1, y2, y3, _⟩ := kp5 o ho
    exact ⟨x1.trans y1, x2.trans y2, x3.trans y3⟩
  obtain ⟨s1, s2, s3, s4⟩ := sA4_St h
  obtain ⟨k1, X, r1⟩ := sA4_1 h
  have r1' : (reS S6 137 4 256).2.2.2 137 = upA (upA (upA (upA (upA X 0 138) 1 140) 2 147) 3 154) 4 256 := by
    have e_ : (reS S6 137 4 256).2.2.2 137 = upA (S6.2.2.2 137) 4 256 := by simp (disch := omega) only [reS, upA_e]
    rw [e_, (kp6 137 (by omega)).2.2.1]
    have : (alS (reS S5 137 3 154) 4 0).2.2.2 137 = upA (S5.2.2.2 137) 3 154 := by simp (disch := omega) only [alS, reS, upA_e, upA_n]
    rw [this, (kp5 137 (by omega)).2.2.1, r1]
  have k1' : (reS S6 137 4 256).2.1 137 = 6 := ((kp6 137 (by omega)).1).trans ((show (alS (reS S5 137 3 154) 4 0).2.1 137 = S5.2.1 137 by simp (disch := omega) only [alS, reS, upA_n]).trans ((kp5 137 (by omega)).1.trans (k1.trans hk)))
  refine ⟨⟨⟨(q5 138 (by omega) (by omega)).1.trans s1, (q5 139 (by omega) (by omega)).1.trans s2, (q5 139 (by omega) (by omega)).2.1.trans s3, (congrFun (q5 138 (by omega) (by omega)).2.2 8).trans s4⟩, OdS_cg (sA4_4 h) (fun o x1 x2 => q5 o (by omega) (by omega)), OdS_cg (sA4_11 h) (fun o x1 x2 => q5 o (by omega) (by omega)), ⟨k1', ?_, ?_, ?_, ?_, ?_⟩, ⟨(q6 154 (by omega) (by omega)).1.trans k18, (congrFun (q6 154 (by omega) (by omega)).2.2 2).trans r18⟩, ShS_cg sh5 (fun o x1 x2 => q6 o (by omega) (by omega)), ShS_cg sh6.fin (fun o x1 x2 => ⟨rfl, rfl, upA_n _ _ (by omega)⟩)⟩, ?_⟩
  · rw [r1']; rfl
  · rw [r1']; rfl
  · rw [r1']; rfl
  · rw [r1']; rfl
  · rw [r1']; rfl
  · show S6.1 = 272
    rw [sh6.1]
set_option maxRecDepth 20000 in
set_option maxHeartbeats 8000000 in
theorem T_i62b {d : Nat} {S : Sc} {M : Nat → Nat → Int32} {J : Nat → Nat → Int64} (hn : S.1 = 137) (hk : S.2.1 137 = 6) : Wp (d + 7) 62 [.ref 137] (S, M, J) (fun rs w' => rs = .inl none ∧ ∃ S' M' J', w' = (S', M', J') ∧ (RgT 136 S' ∧ S'.1 = 272) ∧ (∃ σ, ∀ q, q < 114 → vO M' 140 q = cNew σ 4 10 100 q) ∧ (∀ q, M' 138 q = 0) ∧ (∀ q, M' 139 q = 0) ∧ (∀ q, M' 154 q = 0) ∧ (∀ q, M' (256 + 2) q = 0) ∧ Kp 137 S S' M M') := by
  obtain ⟨n, kd, ln, rf⟩ := S
  have hn : n = 137 := hn
  subst hn
  have hk : kd 137 = 6 := hk
  refine ⟨rfl, ?_⟩
  refine EE.runN (stop := noStop) 80 _ ?_
  refine ⟨by (first | exact hk | exact k5 | exact k6 | exact l6 | exact Nat.le_of_ble_eq_true rfl | (simp (disch := omega) only [sA4, sC3, sA3, sC2, sA2, sC1, sA1, oS, oS5, oS4, oS3, oS2, oS1, alS, reS, wAl, wR, upA_e, upA_n, hk]; done) | (simp (disch := omega) only [sA4, sC3, sA3, sC2, sA2, sC1, sA1, oS, oS5, oS4, oS3, oS2, oS1, alS, reS, wAl, wR, upA_e, upA_n, hk, kO_53, kO_19, kO_15, kO_48]; done) | (show upA _ _ _ _ = _; exact upA_s _ _ _) | (simp (disch := omega) only [wAl, wR, alS, reS, upA_e, upA_n, k5]; done)), Nat.le_of_ble_eq_true rfl, ?_⟩
  refine ⟨⟨Nat.le_of_ble_eq_true rfl, Nat.le_of_ble_eq_true rfl, (by first | exact Nat.le_of_ble_eq_true rfl | (show _ < _; omega)), ⟨fs1 (Or.inl (by exact Nat.le_of_ble_eq_true rfl)) fs0, fl1 (Or.inl (by exact Nat.le_of_ble_eq_true rfl)) fl0⟩⟩, ?_⟩
  refine ⟨⟨Nat.le_of_ble_eq_true rfl, Nat.le_of_ble_eq_true rfl, Nat.le_of_ble_eq_true rfl⟩, by (first | exact hk | exact k5 | exact k6 | exact l6 | exact Nat.le_of_ble_eq_true rfl | (simp (disch := omega) only [sA4, sC3, sA3, sC2, sA2, sC1, sA1, oS, oS5, oS4, oS3, oS2, oS1, alS, reS, wAl, wR, upA_e, upA_n, hk]; done) | (simp (disch := omega) only [sA4, sC3, sA3, sC2, sA2, sC1, sA1, oS, oS5, oS4, oS3, oS2, oS1, alS, reS, wAl, wR, upA_e, upA_n, hk, kO_53, kO_19, kO_15, kO_48]; done) | (show upA _ _ _ _ = _; exact upA_s _ _ _) | (simp (disch := omega) only [wAl, wR, alS, reS, upA_e, upA_n, k5]; done)), _, T_i53 (S := sA1 (137, kd, ln, rf)) (b := 138) rfl (by omega) (Nat.le_refl _) (by show 137 + 1 < 900000; omega), ?_⟩
  rintro _ w1 ⟨rfl, rfl⟩
  refine ⟨Or.inr ⟨(fs1 (Or.inl (by exact Nat.le_of_ble_eq_true rfl)) (fs1 (Or.inl (by exact Nat.le_of_ble_eq_true rfl)) fs0)), fl1 (Or.inl (by exact Nat.le_of_ble_eq_true rfl)) fl0⟩, ?_⟩
  refine ⟨by (first | exact hk | exact k5 | exact k6 | exact l6 | exact Nat.le_of_ble_eq_true rfl | (simp (disch := omega) only [sA4, sC3, sA3, sC2, sA2, sC1, sA1, oS, oS5, oS4, oS3, oS2, oS1, alS, reS, wAl, wR, upA_e, upA_n, hk]; done) | (simp (disch := omega) only [sA4, sC3, sA3, sC2, sA2, sC1, sA1, oS, oS5, oS4, oS3, oS2, oS1, alS, reS, wAl, wR, upA_e, upA_n, hk, kO_53, kO_19, kO_15, kO_48]; done) | (show upA _ _ _ _ = _; exact upA_s _ _ _) | (simp (disch := omega) only [wAl, wR, alS, reS, upA_e, upA_n, k5]; done)), by (first | exact hk | exact k5 | exact k6 | exact l6 | exact Nat.le_of_ble_eq_true rfl | (simp (disch := omega) only [sA4, sC3, sA3, sC2, sA2, sC1, sA1, oS, oS5, oS4, oS3, oS2, oS1, alS, reS, wAl, wR, upA_e, upA_n, hk]; done) | (simp (disch := omega) only [sA4, sC3, sA3, sC2, sA2, sC1, sA1, oS, oS5, oS4, oS3, oS2, oS1, alS, reS, wAl, wR, upA_e, upA_n, hk, kO_53, kO_19, kO_15, kO_48]; done) | (show upA _ _ _ _ = _; exact upA_s _ _ _) | (simp (disch := omega) only [wAl, wR, alS, reS, upA_e, upA_n, k5]; done)), ?_⟩
  refine ⟨⟨Nat.le_of_ble_eq_true rfl, Nat.le_of_ble_eq_true rfl, (by first | exact Nat.le_of_ble_eq_true rfl | (show _ < _; omega)), ⟨fs1 (Or.inl (by exact Nat.le_of_ble_eq_true rfl)) fs0, fl1 (Or.inl (by exact Nat.le_of_ble_eq_true rfl)) fl0⟩⟩, ?_⟩
  refine ⟨⟨Nat.le_of_ble_eq_true rfl, Nat.le_of_ble_eq_true rfl, Nat.le_of_ble_eq_true rfl⟩, by (first | exact hk | exact k5 | exact k6 | exact l6 | exact Nat.le_of_ble_eq_true rfl | (simp (disch := omega) only [sA4, sC3, sA3, sC2, sA2, sC1, sA1, oS, oS5, oS4, oS3, oS2, oS1, alS, reS, wAl, wR, upA_e, upA_n, hk]; done) | (simp (disch := omega) only [sA4, sC3, sA3, sC2, sA2, sC1, sA1, oS, oS5, oS4, oS3, oS2, oS1, alS, reS, wAl, wR, upA_e, upA_n, hk, kO_53, kO_19, kO_15, kO_48]; done) | (show upA _ _ _ _ = _; exact upA_s _ _ _) | (simp (disch := omega) only [wAl, wR, alS, reS, upA_e, upA_n, k5]; done)), _, T_i19 (S := sA2 (137, kd, ln, rf)) (b := 140) (sA2_n rfl) (sA2_k rfl) (by omega) (by omega), ?_⟩
  rintro _ w1 ⟨rfl, M2, J2, rfl, hM2, σ, hσ⟩
  refine ⟨Or.inr ⟨(fs1 (Or.inl (by exact Nat.le_of_ble_eq_true rfl)) (fs1 (Or.inl (by exact Nat.le_of_ble_eq_true rfl)) fs0)), fl1 (Or.inl (by exact Nat.le_of_ble_eq_true rfl)) fl0⟩, ?_⟩
  refine ⟨by (first | exact hk | exact k5 | exact k6 | exact l6 | exact Nat.le_of_ble_eq_true rfl | (simp (disch := omega) only [sA4, sC3, sA3, sC2, sA2, sC1, sA1, oS, oS5, oS4, oS3, oS2, oS1, alS, reS, wAl, wR, upA_e, upA_n, hk]; done) | (simp (disch := omega) only [sA4, sC3, sA3, sC2, sA2, sC1, sA1, oS, oS5, oS4, oS3, oS2, oS1, alS, reS, wAl, wR, upA_e, upA_n, hk, kO_53, kO_19, kO_15, kO_48]; done) | (show upA _ _ _ _ = _; exact upA_s _ _ _) | (simp (disch := omega) only [wAl, wR, alS, reS, upA_e, upA_n, k5]; done)), by (first | exact hk | exact k5 | exact k6 | exact l6 | exact Nat.le_of_ble_eq_true rfl | (simp (disch := omega) only [sA4, sC3, sA3, sC2, sA2, sC1, sA1, oS, oS5, oS4, oS3, oS2, oS1, alS, reS, wAl, wR, upA_e, upA_n, hk]; done) | (simp (disch := omega) only [sA4, sC3, sA3, sC2, sA2, sC1, sA1, oS, oS5, oS4, oS3, oS2, oS1, alS, reS, wAl, wR, upA_e, upA_n, hk, kO_53, kO_19, kO_15, kO_48]; done) | (show upA _ _ _ _ = _; exact upA_s _ _ _) | (simp (disch := omega) only [wAl, wR, alS, reS, upA_e, upA_n, k5]; done)), ?_⟩
  refine ⟨⟨Nat.le_of_ble_eq_true rfl, Nat.le_of_ble_eq_true rfl, (by first | exact Nat.le_of_ble_eq_true rfl | (show _ < _; omega)), ⟨fs1 (Or.inl (by exact Nat.le_of_ble_eq_true rfl)) fs0, fl1 (Or.inl (by exact Nat.le_of_ble_eq_true rfl)) fl0⟩⟩, ?_⟩
  refine ⟨⟨Nat.le_of_ble_eq_true rfl, Nat.le_of_ble_eq_true rfl, Nat.le_of_ble_eq_true rfl⟩, by (first | exact hk | exact k5 | exact k6 | exact l6 | exact Nat.le_of_ble_eq_true rfl | (simp (disch := omega) only [sA4, sC3, sA3, sC2, sA2, sC1, sA1, oS, oS5, oS4, oS3, oS2, oS1, alS, reS, wAl, wR, upA_e, upA_n, hk]; done) | (simp (disch := omega) only [sA4, sC3, sA3, sC2, sA2, sC1, sA1, oS, oS5, oS4, oS3, oS2, oS1, alS, reS, wAl, wR, upA_e, upA_n, hk, kO_53, kO_19, kO_15, kO_48]; done) | (show upA _ _ _ _ = _; exact upA_s _ _ _) | (simp (disch := omega) only [wAl, wR, alS, reS, upA_e, upA_n, k5]; done)), _, T_i19 (S := sA3 (137, kd, ln, rf)) (b := 147) (sA3_n rfl) (sA3_k rfl) (by omega) (by omega), ?_⟩
  rintro _ w1 ⟨rfl, M3, J3, rfl, hM3, -⟩
  refine ⟨Or.inr ⟨(fs1 (Or.inl (by exact Nat.le_of_ble_eq_true rfl)) (fs1 (Or.inl (by exact Nat.le_of_ble_eq_true rfl)) fs0)), fl1 (Or.inl (by exact Nat.le_of_ble_eq_true rfl)) fl0⟩, ?_⟩
  refine ⟨by (first | exact hk | exact k5 | exact k6 | exact l6 | exact Nat.le_of_ble_eq_true rfl | (simp (disch := omega) only [sA4, sC3, sA3, sC2, sA2, sC1, sA1, oS, oS5, oS4, oS3, oS2, oS1, alS, reS, wAl, wR, upA_e, upA_n, hk]; done) | (simp (disch := omega) only [sA4, sC3, sA3, sC2, sA2, sC1, sA1, oS, oS5, oS4, oS3, oS2, oS1, alS, reS, wAl, wR, upA_e, upA_n, hk, kO_53, kO_19, kO_15, kO_48]; done) | (show upA _ _ _ _ = _; exact upA_s _ _ _) | (simp (disch := omega) only [wAl, wR, alS, reS, upA_e, upA_n, k5]; done)), by (first | exact hk | exact k5 | exact k6 | exact l6 | exact Nat.le_of_ble_eq_true rfl | (simp (disch := omega) only [sA4, sC3, sA3, sC2, sA2, sC1, sA1, oS, oS5, oS4, oS3, oS2, oS1, alS, reS, wAl, wR, upA_e, upA_n, hk]; done) | (simp (disch := omega) only [sA4, sC3, sA3, sC2, sA2, sC1, sA1, oS, oS5, oS4, oS3, oS2, oS1, alS, reS, wAl, wR, upA_e, upA_n, hk, kO_53, kO_19, kO_15, kO_48]; done) | (show upA _ _ _ _ = _; exact upA_s _ _ _) | (simp (disch := omega) only [wAl, wR, alS, reS, upA_e, upA_n, k5]; done)), ?_⟩
  refine ⟨⟨Nat.le_of_ble_eq_true rfl, Nat.le_of_ble_eq_true rfl, (by first | exact Nat.le_of_ble_eq_true rfl | (show _ < _; omega)), ⟨fs1 (Or.inl (by exact Nat.le_of_ble_eq_true rfl)) fs0, fl1 (Or.inl (by exact Nat.le_of_ble_eq_true rfl)) fl0⟩⟩, ?_⟩
  refine ⟨⟨Nat.le_of_ble_eq_true rfl, Nat.le_of_ble_eq_true rfl, Nat.le_of_ble_eq_true rfl⟩, by (first | exact hk | exact k5 | exact k6 | exact l6 | exact Nat.le_of_ble_eq_true rfl | (simp (disch := omega) only [sA4, sC3, sA3, sC2, sA2, sC1, sA1, oS, oS5, oS4, oS3, oS2, oS1, alS, reS, wAl, wR, upA_e, upA_n, hk]; done) | (simp (disch := omega) only [sA4, sC3, sA3, sC2, sA2, sC1, sA1, oS, oS5, oS4, oS3, oS2, oS1, alS, reS, wAl, wR, upA_e, upA_n, hk, kO_53, kO_19, kO_15, kO_48]; done) | (show upA _ _ _ _ = _; exact upA_s _ _ _) | (simp (disch := omega) only [wAl, wR, alS, reS, upA_e, upA_n, k5]; done)), _, T_i15 (S := sA4 (137, kd, ln, rf)) (b := 154) (sA4_n rfl) (sA4_k rfl) (by omega) (by omega), ?_⟩
  rintro _ w1 ⟨rfl, S5, M5, J5, rfl, n5, k18, r18, sh5, kp5, m5⟩
  obtain ⟨n5_, kd5, ln5, rf5⟩ := S5
  have n5 : n5_ = 255 := n5
  subst n5
  have k5 : kd5 137 = 6 := ((kp5 137 (by omega)).1).trans ((sA4_1 (S := (137, kd, ln, rf)) rfl).1.trans hk)
  refine ⟨Or.inr ⟨(fs1 (Or.inl (by exact Nat.le_of_ble_eq_true rfl)) (fs1 (Or.inl (by exact Nat.le_of_ble_eq_true rfl)) fs0)), fl1 (Or.inl (by exact Nat.le_of_ble_eq_true rfl)) fl0⟩, ?_⟩
  refine ⟨by (first | exact hk | exact k5 | exact k6 | exact l6 | exact Nat.le_of_ble_eq_true rfl | (simp (disch := omega) only [sA4, sC3, sA3, sC2, sA2, sC1, sA1, oS, oS5, oS4, oS3, oS2, oS1, alS, reS, wAl, wR, upA_e, upA_n, hk]; done) | (simp (disch := omega) only [sA4, sC3, sA3, sC2, sA2, sC1, sA1, oS, oS5, oS4, oS3, oS2, oS1, alS, reS, wAl, wR, upA_e, upA_n, hk, kO_53, kO_19, kO_15, kO_48]; done) | (show upA _ _ _ _ = _; exact upA_s _ _ _) | (simp (disch := omega) only [wAl, wR, alS, reS, upA_e, upA_n, k5]; done)), by (first | exact hk | exact k5 | exact k6 | exact l6 | exact Nat.le_of_ble_eq_true rfl | (simp (disch := omega) only [sA4, sC3, sA3, sC2, sA2, sC1, sA1, oS, oS5, oS4, oS3, oS2, oS1, alS, reS, wAl, wR, upA_e, upA_n, hk]; done) | (simp (disch := omega) only [sA4, sC3, sA3, sC2, sA2, sC1, sA1, oS, oS5, oS4, oS3, oS2, oS1, alS, reS, wAl, wR, upA_e, upA_n, hk, kO_53, kO_19, kO_15, kO_48]; done) | (show upA _ _ _ _ = _; exact upA_s _ _ _) | (simp (disch := omega) only [wAl, wR, alS, reS, upA_e, upA_n, k5]; done)), ?_⟩
  refine ⟨⟨Nat.le_of_ble_eq_true rfl, Nat.le_of_ble_eq_true rfl, (by first | exact Nat.le_of_ble_eq_true rfl | (show _ < _; omega)), ⟨fs1 (Or.inl (by exact Nat.le_of_ble_eq_true rfl)) fs0, fl1 (Or.inl (by exact Nat.le_of_ble_eq_true rfl)) fl0⟩⟩, ?_⟩
  refine ⟨⟨Nat.le_of_ble_eq_true rfl, Nat.le_of_ble_eq_true rfl, Nat.le_of_ble_eq_true rfl⟩, by (first | exact hk | exact k5 | exact k6 | exact l6 | exact Nat.le_of_ble_eq_true rfl | (simp (disch := omega) only [sA4, sC3, sA3, sC2, sA2, sC1, sA1, oS, oS5, oS4, oS3, oS2, oS1, alS, reS, wAl, wR, upA_e, upA_n, hk]; done) | (simp (disch := omega) only [sA4, sC3, sA3, sC2, sA2, sC1, sA1, oS, oS5, oS4, oS3, oS2, oS1, alS, reS, wAl, wR, upA_e, upA_n, hk, kO_53, kO_19, kO_15, kO_48]; done) | (show upA _ _ _ _ = _; exact upA_s _ _ _) | (simp (disch := omega) only [wAl, wR, alS, reS, upA_e, upA_n, k5]; done)), _, T_i48_2 (S := alS (reS (255, kd5, ln5, rf5) 137 3 154) 4 0) (b := 256) rfl rfl (by omega) (by omega), ?_⟩
  rintro _ w1 ⟨rfl, S6, M6, J6, rfl, sh6, kp6, m6⟩
  have k6 : S6.2.1 137 = 6 := ((kp6 137 (by omega)).1).trans ((show (alS (reS (255, kd5, ln5, rf5) 137 3 154) 4 0).2.1 137 = kd5 137 by simp (disch := omega) only [alS, reS, upA_n]).trans k5)
  have l6 : 255 + 1 ≤ S6.1 := by rw [sh6.1]; omega
  refine ⟨Or.inr ⟨(fs1 (Or.inl (by exact Nat.le_of_ble_eq_true rfl)) (fs1 (Or.inl (by exact Nat.le_of_ble_eq_true rfl)) fs0)), fl1 (Or.inl (by exact Nat.le_of_ble_eq_true rfl)) fl0⟩, ?_⟩
  refine ⟨by (first | exact hk | exact k5 | exact k6 | exact l6 | exact Nat.le_of_ble_eq_true rfl | (simp (disch := omega) only [sA4, sC3, sA3, sC2, sA2, sC1, sA1, oS, oS5, oS4, oS3, oS2, oS1, alS, reS, wAl, wR, upA_e, upA_n, hk]; done) | (simp (disch := omega) only [sA4, sC3, sA3, sC2, sA2, sC1, sA1, oS, oS5, oS4, oS3, oS2, oS1, alS, reS, wAl, wR, upA_e, upA_n, hk, kO_53, kO_19, kO_15, kO_48]; done) | (show upA _ _ _ _ = _; exact upA_s _ _ _) | (simp (disch := omega) only [wAl, wR, alS, reS, upA_e, upA_n, k5]; done)), by (first | exact hk | exact k5 | exact k6 | exact l6 | exact Nat.le_of_ble_eq_true rfl | (simp (disch := omega) only [sA4, sC3, sA3, sC2, sA2, sC1, sA1, oS, oS5, oS4, oS3, oS2, oS1, alS, reS, wAl, wR, upA_e, upA_n, hk]; done) | (simp (disch := omega) only [sA4, sC3, sA3, sC2, sA2, sC1, sA1, oS, oS5, oS4, oS3, oS2, oS1, alS, reS, wAl, wR, upA_e, upA_n, hk, kO_53, kO_19, kO_15, kO_48]; done) | (show upA _ _ _ _ = _; exact upA_s _ _ _) | (simp (disch := omega) only [wAl, wR, alS, reS, upA_e, upA_n, k5]; done)), ?_⟩
  refine ⟨⟨Nat.le_of_ble_eq_true rfl, Nat.le_of_ble_eq_true rfl⟩, rfl, reS S6 137 4 256, M6, J6, rfl, ring_T (S := (137, kd, ln, rf)) rfl hk rfl k18 r18 sh5 kp5 sh6 kp6, ⟨σ, fun q hq => ?_⟩, fun q => ?_, fun q => ?_, fun q => ?_, sh6.2.2.2.2.2.2.2.2.1, fun o ho => ?_⟩
  · rw [← hσ q hq]
    refine vO_eqv (fun o k z1 z2 => ?_) q
    rw [(kp6 o (by omega)).2.2.2]
    refine (congrFun (upA_n _ _ (by show o ≠ 255 + 1; omega)) k).trans ?_
    show M5 o k = _
    rw [(kp5 o (by omega)).2.2.2]
    refine (congrFun (upA_n _ _ (by show o ≠ 154; omega)) k).trans ?_
    show M3 o k = _
    rw [hM3 o (by omega)]
    exact congrFun (upA_n _ _ (by show o ≠ 147; omega)) k
  · rw [(kp6 138 (by omega)).2.2.2]
    refine (congrFun (upA_n _ _ (by show 138 ≠ 255 + 1; omega)) q).trans ?_
    show M5 138 q = _
    rw [(kp5 138 (by omega)).2.2.2]
    refine (congrFun (upA_n _ _ (by show 138 ≠ 154; omega)) q).trans ?_
    show M3 138 q = _
    rw [hM3 138 (by omega)]
    refine (congrFun (upA_n _ _ (by show 138 ≠ 147; omega)) q).trans ?_
    show M2 138 q = _
    rw [hM2 138 (by omega)]
    refine (congrFun (upA_n _ _ (by show 138 ≠ 140; omega)) q).trans ?_
    rfl
  · rw [(kp6 139 (by omega)).2.2.2]
    refine (congrFun (upA_n _ _ (by show 139 ≠ 255 + 1; omega)) q).trans ?_
    show M5 139 q = _
    rw [(kp5 139 (by omega)).2.2.2]
    refine (congrFun (upA_n _ _ (by show 139 ≠ 154; omega)) q).trans ?_
    show M3 139 q = _
    rw [hM3 139 (by omega)]
    refine (congrFun (upA_n _ _ (by show 139 ≠ 147; omega)) q).trans ?_
    show M2 139 q = _
    rw [hM2 139 (by omega)]
    refine (congrFun (upA_n _ _ (by show 139 ≠ 140; omega)) q).trans ?_
    rfl
  · rw [(kp6 154 (by omega)).2.2.2]
    refine (congrFun (upA_n _ _ (by show 154 ≠ 255 + 1; omega)) q).trans ?_
    show M5 154 q = _
    rw [m5 q]
    rfl
  · obtain ⟨x1, x2, x3⟩ := sA4_lo (S := (137, kd, ln, rf)) rfl ho
    obtain ⟨y1, y2, y3, y4⟩ := kp5 o (by omega)
    obtain ⟨z1, z2, z3, z4⟩ := kp6 o (by omega)
    have a1 : (alS (reS (255, kd5, ln5, rf5) 137 3 154) 4 0).2.1 o = kd5 o := by simp (disch := omega) only [alS, reS, upA_n]
    have a2 : (alS (reS (255, kd5, ln5, rf5) 137 3 154) 4 0).2.2.1 o = ln5 o := by simp (disch := omega) only [alS, reS, upA_n]
    have a3 : (alS (reS (255, kd5, ln5, rf5) 137 3 154) 4 0).2.2.2 o = rf5 o := by simp (disch := omega) only [alS, reS, upA_n]
    have a4 : (reS S6 137 4 256).2.2.2 o = S6.2.2.2 o := by simp (disch := omega) only [reS, upA_n]
    refine ⟨z1.trans (a1.trans (y1.trans x1)), z2.trans (a2.trans (y2.trans x2)), a4.trans (z3.trans (a3.trans (y3.trans x3))), ?_⟩
    rw [z4]
    refine (upA_n _ _ (by show o ≠ 255 + 1; omega)).trans ?_
    show M5 o = _
    rw [y4]
    refine (upA_n _ _ (by show o ≠ 154; omega)).trans ?_
    show M3 o = _
    rw [hM3 o (by omega)]
    refine (upA_n _ _ (by show o ≠ 147; omega)).trans ?_
    show M2 o = _
    rw [hM2 o (by omega)]
    refine (upA_n _ _ (by show o ≠ 140; omega)).trans ?_
    exact (upA_n _ _ (by show o ≠ 139; omega)).trans (upA_n _ _ (by show o ≠ 138; omega))
