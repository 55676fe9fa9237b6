/-! SHELVES AND THE HISTORY ARE MADE: written by wip/whole/pure3.py -/
theorem OdS_cg {S S' : Sc} {c : Nat} (h : OdS S c) (hk : ∀ o, c ≤ o → o < c + 7 → S'.2.1 o = S.2.1 o ∧ S'.2.2.1 o = S.2.2.1 o ∧ S'.2.2.2 o = S.2.2.2 o) : OdS S' c := by
  obtain ⟨⟨a0, a1, a2, a3, a4, a5, a6⟩, ⟨r0, r1, r12, r13, r41, r42⟩, l2, l3, l5, l6⟩ := h
  have k0 := hk c (by omega) (by omega)
  have k1 := hk (c + 1) (by omega) (by omega)
  have k2 := hk (c + 2) (by omega) (by omega)
  have k3 := hk (c + 3) (by omega) (by omega)
  have k4 := hk (c + 4) (by omega) (by omega)
  have k5 := hk (c + 5) (by omega) (by omega)
  have k6 := hk (c + 6) (by omega) (by omega)
  exact ⟨⟨k0.1.trans a0, k1.1.trans a1, k2.1.trans a2, k3.1.trans a3, k4.1.trans a4, k5.1.trans a5, k6.1.trans a6⟩, ⟨(congrFun k0.2.2 0).trans r0, (congrFun k0.2.2 1).trans r1, (congrFun k1.2.2 2).trans r12, (congrFun k1.2.2 3).trans r13, (congrFun k4.2.2 1).trans r41, (congrFun k4.2.2 2).trans r42⟩, k2.2.1.trans l2, k3.2.1.trans l3, k5.2.1.trans l5, k6.2.1.trans l6⟩
/-- what lies below b is as it was -/
def Kp (b : Nat) (S S' : Sc) (M M' : Nat → Nat → Int32) : Prop := ∀ o, o < b → S'.2.1 o = S.2.1 o ∧ S'.2.2.1 o = S.2.2.1 o ∧ S'.2.2.2 o = S.2.2.2 o ∧ M' o = M o
theorem Kp.tr {b c : Nat} {S S' S'' : Sc} {M M' M'' : Nat → Nat → Int32} (h : Kp b S S' M M') (h2 : Kp c S' S'' M' M'') (hb : b ≤ c) : Kp b S S'' M M'' := fun o ho => by
  obtain ⟨a1, a2, a3, a4⟩ := h o ho
  obtain ⟨c1, c2, c3, c4⟩ := h2 o (by omega)
  exact ⟨c1.trans a1, c2.trans a2, c3.trans a3, c4.trans a4⟩
/-- a shelf of which k places are made -/
def ShK (S : Sc) (M : Nat → Nat → Int32) (b m k : Nat) : Prop := S.1 = b + 2 + 7 * k ∧ S.2.1 b = 4 ∧ S.2.2.2 b 0 = b + 1 ∧ S.2.2.2 b 1 = b + 2 ∧ S.2.1 (b + 1) = 11 ∧ S.2.2.1 (b + 1) = m ∧ S.2.1 (b + 2) = 9 ∧ S.2.2.1 (b + 2) = m ∧ (∀ q, M (b + 2) q = 0) ∧ ∀ i, i < k → S.2.2.2 (b + 1) i = b + 3 + 7 * i ∧ OdS S (b + 3 + 7 * i)
theorem ShK.step {S : Sc} {M M' : Nat → Nat → Int32} {b m k : Nat} (h : ShK S M b m k) (hM : ∀ o, o < b + 3 + 7 * k → M' o = M o) : ShK (reS (oS (alS S 2 0) (b + 3 + 7 * k)) (b + 1) k (b + 3 + 7 * k)) M' b m (k + 1) := by
  obtain ⟨h1, h2, h3, h4, h5, h6, h7, h8, h9, h10⟩ := h
  have hn : (alS S 2 0).1 = b + 3 + 7 * k := by show S.1 + 1 = _; omega
  have hk2 : (alS S 2 0).2.1 (b + 3 + 7 * k) = 2 := by
    show upA S.2.1 (S.1 + 1) 2 _ = 2
    exact upA_e (by omega)
  have lo : ∀ o, o < b + 3 + 7 * k → (oS (alS S 2 0) (b + 3 + 7 * k)).2.1 o = S.2.1 o ∧ (oS (alS S 2 0) (b + 3 + 7 * k)).2.2.1 o = S.2.2.1 o ∧ (oS (alS S 2 0) (b + 3 + 7 * k)).2.2.2 o = S.2.2.2 o := by
    intro o ho
    obtain ⟨x1, x2, x3⟩ := oS_lo hn ho
    exact ⟨x1.trans (upA_n _ _ (by omega)), x2.trans (upA_n _ _ (by omega)), x3.trans (upA_n _ _ (by omega))⟩
  have rlo : ∀ o, o ≠ b + 1 → (reS (oS (alS S 2 0) (b + 3 + 7 * k)) (b + 1) k (b + 3 + 7 * k)).2.2.2 o = (oS (alS S 2 0) (b + 3 + 7 * k)).2.2.2 o := fun o ho => upA_n _ _ ho
  have r1 : (reS (oS (alS S 2 0) (b + 3 + 7 * k)) (b + 1) k (b + 3 + 7 * k)).2.2.2 (b + 1) = upA (S.2.2.2 (b + 1)) k (b + 3 + 7 * k) := by
    refine (upA_s _ _ _).trans ?_
    rw [(lo (b + 1) (by omega)).2.2]
  refine ⟨?_, (lo b (by omega)).1.trans h2, ?_, ?_, (lo (b + 1) (by omega)).1.trans h5, (lo (b + 1) (by omega)).2.1.trans h6, (lo (b + 2) (by omega)).1.trans h7, (lo (b + 2) (by omega)).2.1.trans h8, fun q => by rw [hM (b + 2) (by omega)]; exact h9 q, fun i hi => ⟨?_, ?_⟩⟩
  · show (alS S 2 0).1 + 6 = _
    omega
  · rw [rlo b (by omega), (lo b (by omega)).2.2]
    exact h3
  · rw [rlo b (by omega), (lo b (by omega)).2.2]
    exact h4
  · rw [r1]
    by_cases e : i = k
    · rw [e, upA_s]
    · rw [upA_n _ _ e]
      exact (h10 i (by omega)).1
  · by_cases e : i = k
    · rw [e]
      refine OdS_cg (oS_k hn hk2) (fun o x1 x2 => ⟨rfl, rfl, rlo o (by omega)⟩)
    · refine OdS_cg (h10 i (by omega)).2 (fun o x1 x2 => ?_)
      obtain ⟨y1, y2, y3⟩ := lo o (by omega)
      exact ⟨y1, y2, (rlo o (by omega)).trans y3⟩
theorem ShK.fin {S : Sc} {M : Nat → Nat → Int32} {b m : Nat} (h : ShK S M b m m) : ShS S b m := by
  obtain ⟨h1, h2, h3, h4, h5, h6, h7, h8, h9, h10⟩ := h
  exact ⟨h2, h3, h4, h5, h6, h7, h8, h10⟩
theorem kp_step {S : Sc} {M M' : Nat → Nat → Int32} {b c k x : Nat} (hc : b + 1 ≤ c) (hn : S.1 + 1 = c) (hM : ∀ o, o < c → M' o = M o) : Kp b S (reS (oS (alS S 2 0) c) (b + 1) k x) M M' := fun o ho => by
  obtain ⟨x1, x2, x3⟩ := oS_lo (S := alS S 2 0) (b := c) hn (o := o) (by omega)
  exact ⟨x1.trans (upA_n _ _ (by omega)), x2.trans (upA_n _ _ (by omega)), (upA_n _ _ (by omega)).trans (x3.trans (upA_n _ _ (by omega))), hM o (by omega)⟩
set_option maxHeartbeats 4000000 in
theorem L_shelf14 {d : Nat} {Q : Res → Wd → Prop} {b : Nat} (hb0 : 1 ≤ b) (hb : b < 1000) : ∀ (f k : Nat) (S : Sc) (M : Nat → Nat → Int32) (J : Nat → Nat → Int64), k + f = 14 → ShK S M b 14 k → (∀ S' M' J', ShK S' M' b 14 14 → Kp b S S' M M' → (∀ q, M' b q = M b q) → Q (.inl none) (S', M', J')) → EE (SJ (d + 5) 48 (Wp (d + 4)) Q) (27, [(0, .ref b), (3, .int (nI (k)))], [], (S, M, J), 2 + 7 * k, 28 + 120 * k) := by
  intro f
  induction f with
  | zero =>
    intro k S M J hk h hQ
    have hk : k = 14 := by omega
    subst hk
    have h' := h
    obtain ⟨h1, h2, h3, h4, h5, h6, h7, h8, h9, h10⟩ := h'
    refine EE.runN (stop := noStop) 20 _ ?_
    refine ⟨by rw [h2], ?_⟩
    refine ⟨by rw [h3, h5]; decide, ?_⟩
    refine ⟨fun _ => ?_, fun hx => ?_⟩
    · exact ⟨⟨Nat.le_of_ble_eq_true rfl, Nat.le_of_ble_eq_true rfl⟩, hQ S M J h (fun o _ => ⟨rfl, rfl, rfl, rfl⟩) (fun _ => rfl)⟩
    · exfalso
      have hx : ¬ Int32.ofNat (S.2.2.1 (S.2.2.2 b 0)) ≤ nI 14 := hx
      rw [h3, h6] at hx
      exact hx (by decide)
  | succ f ih =>
    intro k S M J hk h hQ
    have h' := h
    obtain ⟨h1, h2, h3, h4, h5, h6, h7, h8, h9, h10⟩ := h'
    obtain ⟨n, kd, ln, rf⟩ := S
    have h1 : n = b + 2 + 7 * k := h1
    subst h1
    have h2 : kd b = 4 := h2
    have h3 : rf b 0 = b + 1 := h3
    have h5 : kd (b + 1) = 11 := h5
    have h6 : ln (b + 1) = 14 := h6
    have hkx : (alS (b + 2 + 7 * k, kd, ln, rf) 2 0).2.1 (b + 3 + 7 * k) = 2 := upA_e (by show b + 3 + 7 * k = b + 2 + 7 * k + 1; omega)
    have e7 : b + 2 + 7 * k + 1 = b + 3 + 7 * k := by omega
    refine EE.runN (stop := atPc [27]) 40 _ ?_
    refine ⟨h2, ?_⟩
    refine ⟨by show 8 ≤ kd (rf b 0) ∧ kd (rf b 0) ≤ 11; rw [h3, h5]; decide, ?_⟩
    refine ⟨fun hx => ?_, fun hx => ?_⟩
    · exfalso
      have hx : Int32.ofNat (ln (rf b 0)) ≤ nI k := hx
      rw [h3, h6, show Int32.ofNat 14 = nI 14 from rfl, nI_leI (by omega) (by omega)] at hx
      omega
    refine ⟨h2, ?_⟩
    refine ⟨⟨(by show 2 + 7 * k + 1 ≤ 100; omega), (by show 28 + 120 * k + 17 ≤ 1708; omega), (by show b + 2 + 7 * k + 1 < 1000000; omega), fs2 (fs1 (Or.inl (by show rf b 0 ≤ b + 2 + 7 * k; omega)) fs0), fl1 (Or.inl (by show b ≤ b + 2 + 7 * k; omega)) (fl2 fl0)⟩, ?_⟩
    refine ⟨⟨Nat.le_of_ble_eq_true rfl, (by show 2 + 7 * k + 1 + 6 ≤ 100; omega), (by show 28 + 120 * k + 17 + 103 ≤ 1708; omega)⟩, (by show upA kd (b + 2 + 7 * k + 1) 2 (b + 2 + 7 * k + 1) = 2; exact upA_s _ _ _), _, (by show Wp _ _ [.ref (b + 2 + 7 * k + 1)] _ _; rw [e7]; exact T_i19 (S := alS (b + 2 + 7 * k, kd, ln, rf) 2 0) (b := b + 3 + 7 * k) e7 hkx (by omega) (by omega)), ?_⟩
    rintro _ w1 ⟨rfl, M2, J2, hw, hM2, -⟩
    subst hw
    have hM3 : ∀ o, o < b + 3 + 7 * k → M2 o = M o := fun o ho => (hM2 o ho).trans (upA_n _ _ (by show o ≠ b + 2 + 7 * k + 1; omega))
    have lo : ∀ o, o < b + 3 + 7 * k → (oS (alS (b + 2 + 7 * k, kd, ln, rf) 2 0) (b + 3 + 7 * k)).2.1 o = kd o ∧ (oS (alS (b + 2 + 7 * k, kd, ln, rf) 2 0) (b + 3 + 7 * k)).2.2.1 o = ln o := fun o ho => by
      obtain ⟨x1, x2, x3⟩ := oS_lo (S := alS (b + 2 + 7 * k, kd, ln, rf) 2 0) (b := b + 3 + 7 * k) e7 ho
      exact ⟨x1.trans (upA_n _ _ (by show o ≠ b + 2 + 7 * k + 1; omega)), x2.trans (upA_n _ _ (by show o ≠ b + 2 + 7 * k + 1; omega))⟩
    have hks := oS_k (S := alS (b + 2 + 7 * k, kd, ln, rf) 2 0) (b := b + 3 + 7 * k) e7 hkx
    refine ⟨Or.inr ⟨fs1 (Or.inl (by show b + 2 + 7 * k + 1 ≤ b + 2 + 7 * k + 1; omega)) (fs2 (fs1 (Or.inl (by show rf b 0 ≤ b + 2 + 7 * k + 1; omega)) fs0)), fl1 (Or.inl (by show b ≤ b + 2 + 7 * k + 1; omega)) (fl2 fl0)⟩, ?_⟩
    refine ⟨(by show (oS (alS (b + 2 + 7 * k, kd, ln, rf) 2 0) (b + 3 + 7 * k)).2.1 (rf b 0) = 11; rw [h3, (lo (b + 1) (by omega)).1]; exact h5), (by show (oS (alS (b + 2 + 7 * k, kd, ln, rf) 2 0) (b + 3 + 7 * k)).2.1 (b + 2 + 7 * k + 1) = 2; rw [e7]; exact hks.1.1), (by show vp_in (nI k) ((oS (alS (b + 2 + 7 * k, kd, ln, rf) 2 0) (b + 3 + 7 * k)).2.2.1 (rf b 0)); rw [h3, (lo (b + 1) (by omega)).2, h6]; exact vp_in_nI (by omega) (by omega)), ?_⟩
    have hst := ShK.step h hM3
    refine ee_at (nt := nzT 48) [(0, .ref b), (3, .int (nI (k + 1)))] (reS (oS (alS (b + 2 + 7 * k, kd, ln, rf) 2 0) (b + 3 + 7 * k)) (b + 1) k (b + 3 + 7 * k), M2, J2) rfl (by rw [← nI_1 k]; rfl) (by show (_, _, _) = (_, _, _); simp only [wR, reS, h3, e7, ck (show k < 2147483648 by omega)]) ?_
    have hnn : 2 + 7 * k + 1 + (mjT 19).1 = 2 + 7 * (k + 1) := by show 2 + 7 * k + 1 + 6 = _; omega
    have hns : 28 + 120 * k + 17 + (mjT 19).2 = 28 + 120 * (k + 1) := by show 28 + 120 * k + 17 + 103 = _; omega
    have fin := ih (k + 1) _ M2 J2 (by omega) hst (fun S' M' J' a1 a2 a3 => hQ S' M' J' a1 ((kp_step (by omega) e7 hM3).tr a2 (Nat.le_refl _)) (fun q => (a3 q).trans (by rw [hM3 b (by omega)])))
    rw [← hnn, ← hns] at fin
    exact fin
set_option maxHeartbeats 4000000 in
theorem L_shelf2 {d : Nat} {Q : Res → Wd → Prop} {b : Nat} (hb0 : 1 ≤ b) (hb : b < 1000) : ∀ (f k : Nat) (S : Sc) (M : Nat → Nat → Int32) (J : Nat → Nat → Int64), k + f = 2 → ShK S M b 2 k → (∀ S' M' J', ShK S' M' b 2 2 → Kp b S S' M M' → (∀ q, M' b q = M b q) → Q (.inl none) (S', M', J')) → EE (SJ (d + 5) 48 (Wp (d + 4)) Q) (27, [(0, .ref b), (3, .int (nI (k)))], [], (S, M, J), 2 + 7 * k, 4 + 120 * k) := by
  intro f
  induction f with
  | zero =>
    intro k S M J hk h hQ
    have hk : k = 2 := by omega
    subst hk
    have h' := h
    obtain ⟨h1, h2, h3, h4, h5, h6, h7, h8, h9, h10⟩ := h'
    refine EE.runN (stop := noStop) 20 _ ?_
    refine ⟨by rw [h2], ?_⟩
    refine ⟨by rw [h3, h5]; decide, ?_⟩
    refine ⟨fun _ => ?_, fun hx => ?_⟩
    · exact ⟨⟨Nat.le_of_ble_eq_true rfl, Nat.le_of_ble_eq_true rfl⟩, hQ S M J h (fun o _ => ⟨rfl, rfl, rfl, rfl⟩) (fun _ => rfl)⟩
    · exfalso
      have hx : ¬ Int32.ofNat (S.2.2.1 (S.2.2.2 b 0)) ≤ nI 2 := hx
      rw [h3, h6] at hx
      exact hx (by decide)
  | succ f ih =>
    intro k S M J hk h hQ
    have h' := h
    obtain ⟨h1, h2, h3, h4, h5, h6, h7, h8, h9, h10⟩ := h'
    obtain ⟨n, kd, ln, rf⟩ := S
    have h1 : n = b + 2 + 7 * k := h1
    subst h1
    have h2 : kd b = 4 := h2
    have h3 : rf b 0 = b + 1 := h3
    have h5 : kd (b + 1) = 11 := h5
    have h6 : ln (b + 1) = 2 := h6
    have hkx : (alS (b + 2 + 7 * k, kd, ln, rf) 2 0).2.1 (b + 3 + 7 * k) = 2 := upA_e (by show b + 3 + 7 * k = b + 2 + 7 * k + 1; omega)
    have e7 : b + 2 + 7 * k + 1 = b + 3 + 7 * k := by omega
    refine EE.runN (stop := atPc [27]) 40 _ ?_
    refine ⟨h2, ?_⟩
    refine ⟨by show 8 ≤ kd (rf b 0) ∧ kd (rf b 0) ≤ 11; rw [h3, h5]; decide, ?_⟩
    refine ⟨fun hx => ?_, fun hx => ?_⟩
    · exfalso
      have hx : Int32.ofNat (ln (rf b 0)) ≤ nI k := hx
      rw [h3, h6, show Int32.ofNat 2 = nI 2 from rfl, nI_leI (by omega) (by omega)] at hx
      omega
    refine ⟨h2, ?_⟩
    refine ⟨⟨(by show 2 + 7 * k + 1 ≤ 100; omega), (by show 4 + 120 * k + 17 ≤ 1708; omega), (by show b + 2 + 7 * k + 1 < 1000000; omega), fs2 (fs1 (Or.inl (by show rf b 0 ≤ b + 2 + 7 * k; omega)) fs0), fl1 (Or.inl (by show b ≤ b + 2 + 7 * k; omega)) (fl2 fl0)⟩, ?_⟩
    refine ⟨⟨Nat.le_of_ble_eq_true rfl, (by show 2 + 7 * k + 1 + 6 ≤ 100; omega), (by show 4 + 120 * k + 17 + 103 ≤ 1708; omega)⟩, (by show upA kd (b + 2 + 7 * k + 1) 2 (b + 2 + 7 * k + 1) = 2; exact upA_s _ _ _), _, (by show Wp _ _ [.ref (b + 2 + 7 * k + 1)] _ _; rw [e7]; exact T_i19 (S := alS (b + 2 + 7 * k, kd, ln, rf) 2 0) (b := b + 3 + 7 * k) e7 hkx (by omega) (by omega)), ?_⟩
    rintro _ w1 ⟨rfl, M2, J2, hw, hM2, -⟩
    subst hw
    have hM3 : ∀ o, o < b + 3 + 7 * k → M2 o = M o := fun o ho => (hM2 o ho).trans (upA_n _ _ (by show o ≠ b + 2 + 7 * k + 1; omega))
    have lo : ∀ o, o < b + 3 + 7 * k → (oS (alS (b + 2 + 7 * k, kd, ln, rf) 2 0) (b + 3 + 7 * k)).2.1 o = kd o ∧ (oS (alS (b + 2 + 7 * k, kd, ln, rf) 2 0) (b + 3 + 7 * k)).2.2.1 o = ln o := fun o ho => by
      obtain ⟨x1, x2, x3⟩ := oS_lo (S := alS (b + 2 + 7 * k, kd, ln, rf) 2 0) (b := b + 3 + 7 * k) e7 ho
      exact ⟨x1.trans (upA_n _ _ (by show o ≠ b + 2 + 7 * k + 1; omega)), x2.trans (upA_n _ _ (by show o ≠ b + 2 + 7 * k + 1; omega))⟩
    have hks := oS_k (S := alS (b + 2 + 7 * k, kd, ln, rf) 2 0) (b := b + 3 + 7 * k) e7 hkx
    refine ⟨Or.inr ⟨fs1 (Or.inl (by show b + 2 + 7 * k + 1 ≤ b + 2 + 7 * k + 1; omega)) (fs2 (fs1 (Or.inl (by show rf b 0 ≤ b + 2 + 7 * k + 1; omega)) fs0)), fl1 (Or.inl (by show b ≤ b + 2 + 7 * k + 1; omega)) (fl2 fl0)⟩, ?_⟩
    refine ⟨(by show (oS (alS (b + 2 + 7 * k, kd, ln, rf) 2 0) (b + 3 + 7 * k)).2.1 (rf b 0) = 11; rw [h3, (lo (b + 1) (by omega)).1]; exact h5), (by show (oS (alS (b + 2 + 7 * k, kd, ln, rf) 2 0) (b + 3 + 7 * k)).2.1 (b + 2 + 7 * k + 1) = 2; rw [e7]; exact hks.1.1), (by show vp_in (nI k) ((oS (alS (b + 2 + 7 * k, kd, ln, rf) 2 0) (b + 3 + 7 * k)).2.2.1 (rf b 0)); rw [h3, (lo (b + 1) (by omega)).2, h6]; exact vp_in_nI (by omega) (by omega)), ?_⟩
    have hst := ShK.step h hM3
    refine ee_at (nt := nzT 48) [(0, .ref b), (3, .int (nI (k + 1)))] (reS (oS (alS (b + 2 + 7 * k, kd, ln, rf) 2 0) (b + 3 + 7 * k)) (b + 1) k (b + 3 + 7 * k), M2, J2) rfl (by rw [← nI_1 k]; rfl) (by show (_, _, _) = (_, _, _); simp only [wR, reS, h3, e7, ck (show k < 2147483648 by omega)]) ?_
    have hnn : 2 + 7 * k + 1 + (mjT 19).1 = 2 + 7 * (k + 1) := by show 2 + 7 * k + 1 + 6 = _; omega
    have hns : 4 + 120 * k + 17 + (mjT 19).2 = 4 + 120 * (k + 1) := by show 4 + 120 * k + 17 + 103 = _; omega
    have fin := ih (k + 1) _ M2 J2 (by omega) hst (fun S' M' J' a1 a2 a3 => hQ S' M' J' a1 ((kp_step (by omega) e7 hM3).tr a2 (Nat.le_refl _)) (fun q => (a3 q).trans (by rw [hM3 b (by omega)])))
    rw [← hnn, ← hns] at fin
    exact fin
