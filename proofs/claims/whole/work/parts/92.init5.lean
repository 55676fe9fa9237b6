/-! THE LAW: its beginning: written by wip/whole/pure3.py -/
def mS (S : Sc) : Sc := reS (alS (reS (alS (reS (alS (reS (alS (reS (alS (reS (alS (S) 8 90) 137 1 (S.1 + 1)) 8 114) 137 8 (S.1 + 2)) 8 114) 137 9 (S.1 + 3)) 8 1596) 137 10 (S.1 + 4)) 8 228) 137 12 (S.1 + 5)) 9 2) 137 13 (S.1 + 6)
def mMz (M : Nat → Nat → Int32) : Nat → Nat → Int32 := zM (zM (zM (zM (zM (zM (M) 138) 139) 140) 141) 142) 143
def mJz (J : Nat → Nat → Int64) : Nat → Nat → Int64 := zJ (zJ (zJ (zJ (zJ (zJ (J) 138) 139) 140) 141) 142) 143
theorem RgS_cg {S S' : Sc} (h : RgS S) (hk : ∀ o, o < 137 → S'.2.1 o = S.2.1 o ∧ S'.2.2.1 o = S.2.2.1 o ∧ S'.2.2.2 o = S.2.2.2 o) : RgS S' := by
  obtain ⟨⟨a1, a2, a3, a4⟩, h4, h11, ⟨b1, r0, r1, r2, r3, r4⟩, ⟨b18, r18⟩, hH, hV⟩ := h
  have k1 := hk 1 (by omega)
  exact ⟨⟨(hk 2 (by omega)).1.trans a1, (hk 3 (by omega)).1.trans a2, (hk 3 (by omega)).2.1.trans a3, (congrFun (hk 2 (by omega)).2.2 8).trans a4⟩, OdS_cg h4 (fun o _ _ => hk o (by omega)), OdS_cg h11 (fun o _ _ => hk o (by omega)), ⟨k1.1.trans b1, (congrFun k1.2.2 0).trans r0, (congrFun k1.2.2 1).trans r1, (congrFun k1.2.2 2).trans r2, (congrFun k1.2.2 3).trans r3, (congrFun k1.2.2 4).trans r4⟩, ⟨(hk 18 (by omega)).1.trans b18, (congrFun (hk 18 (by omega)).2.2 2).trans r18⟩, ShS_cg hH (fun o _ _ => hk o (by omega)), ShS_cg hV (fun o _ _ => hk o (by omega))⟩
set_option maxRecDepth 20000 in
set_option maxHeartbeats 8000000 in
theorem T_i97 {d : Nat} {S : Sc} {M : Nat → Nat → Int32} {J : Nat → Nat → Int64} (hn : S.1 = 137) (hk : S.2.1 137 = 7) : Wp (d + 2) 97 [.ref 137] (S, M, J) (fun rs w' => rs = .inl none ∧ w' = (mS S, upA (mMz M) 139 (rClean (mMz M 139) 4 10 100), mJz J)) := by
  obtain ⟨n, kd, ln, rf⟩ := S
  have hn : n = 137 := hn
  subst hn
  have hk : kd 137 = 7 := hk
  refine ⟨rfl, ?_⟩
  refine EE.runN (stop := noStop) 80 _ ?_
  refine ⟨by (first | exact hk | exact Nat.le_of_ble_eq_true rfl | rfl | (simp (disch := omega) only [alS, reS, wAl, wR, upA_e, upA_n, hk]; done)), Nat.le_of_ble_eq_true rfl, ?_⟩
  refine ⟨⟨by decide, by decide, Nat.le_of_ble_eq_true rfl, Nat.le_of_ble_eq_true rfl, (by exact Nat.le_of_ble_eq_true rfl), ⟨fs1 (Or.inl (by exact Nat.le_of_ble_eq_true rfl)) fs0, fl1 (Or.inl (by exact Nat.le_of_ble_eq_true rfl)) fl0⟩⟩, ?_⟩
  refine ⟨by (first | exact hk | exact Nat.le_of_ble_eq_true rfl | rfl | (simp (disch := omega) only [alS, reS, wAl, wR, upA_e, upA_n, hk]; done)), by (first | exact hk | exact Nat.le_of_ble_eq_true rfl | rfl | (simp (disch := omega) only [alS, reS, wAl, wR, upA_e, upA_n, hk]; done)), ?_⟩
  refine ⟨⟨by decide, by decide, Nat.le_of_ble_eq_true rfl, Nat.le_of_ble_eq_true rfl, (by exact Nat.le_of_ble_eq_true rfl), ⟨fs1 (Or.inl (by exact Nat.le_of_ble_eq_true rfl)) fs0, fl1 (Or.inl (by exact Nat.le_of_ble_eq_true rfl)) fl0⟩⟩, ?_⟩
  refine ⟨by (first | exact hk | exact Nat.le_of_ble_eq_true rfl | rfl | (simp (disch := omega) only [alS, reS, wAl, wR, upA_e, upA_n, hk]; done)), by (first | exact hk | exact Nat.le_of_ble_eq_true rfl | rfl | (simp (disch := omega) only [alS, reS, wAl, wR, upA_e, upA_n, hk]; done)), ?_⟩
  refine ⟨⟨by decide, by decide, Nat.le_of_ble_eq_true rfl, Nat.le_of_ble_eq_true rfl, (by exact Nat.le_of_ble_eq_true rfl), ⟨fs1 (Or.inl (by exact Nat.le_of_ble_eq_true rfl)) fs0, fl1 (Or.inl (by exact Nat.le_of_ble_eq_true rfl)) fl0⟩⟩, ?_⟩
  refine ⟨by (first | exact hk | exact Nat.le_of_ble_eq_true rfl | rfl | (simp (disch := omega) only [alS, reS, wAl, wR, upA_e, upA_n, hk]; done)), by (first | exact hk | exact Nat.le_of_ble_eq_true rfl | rfl | (simp (disch := omega) only [alS, reS, wAl, wR, upA_e, upA_n, hk]; done)), ?_⟩
  refine ⟨⟨by decide, by decide, Nat.le_of_ble_eq_true rfl, Nat.le_of_ble_eq_true rfl, (by exact Nat.le_of_ble_eq_true rfl), ⟨fs1 (Or.inl (by exact Nat.le_of_ble_eq_true rfl)) fs0, fl1 (Or.inl (by exact Nat.le_of_ble_eq_true rfl)) fl0⟩⟩, ?_⟩
  refine ⟨by (first | exact hk | exact Nat.le_of_ble_eq_true rfl | rfl | (simp (disch := omega) only [alS, reS, wAl, wR, upA_e, upA_n, hk]; done)), by (first | exact hk | exact Nat.le_of_ble_eq_true rfl | rfl | (simp (disch := omega) only [alS, reS, wAl, wR, upA_e, upA_n, hk]; done)), ?_⟩
  refine ⟨⟨by decide, by decide, Nat.le_of_ble_eq_true rfl, Nat.le_of_ble_eq_true rfl, (by exact Nat.le_of_ble_eq_true rfl), ⟨fs1 (Or.inl (by exact Nat.le_of_ble_eq_true rfl)) fs0, fl1 (Or.inl (by exact Nat.le_of_ble_eq_true rfl)) fl0⟩⟩, ?_⟩
  refine ⟨by (first | exact hk | exact Nat.le_of_ble_eq_true rfl | rfl | (simp (disch := omega) only [alS, reS, wAl, wR, upA_e, upA_n, hk]; done)), by (first | exact hk | exact Nat.le_of_ble_eq_true rfl | rfl | (simp (disch := omega) only [alS, reS, wAl, wR, upA_e, upA_n, hk]; done)), ?_⟩
  refine ⟨⟨by decide, by decide, Nat.le_of_ble_eq_true rfl, Nat.le_of_ble_eq_true rfl, (by exact Nat.le_of_ble_eq_true rfl), ⟨fs1 (Or.inl (by exact Nat.le_of_ble_eq_true rfl)) fs0, fl1 (Or.inl (by exact Nat.le_of_ble_eq_true rfl)) fl0⟩⟩, ?_⟩
  refine ⟨by (first | exact hk | exact Nat.le_of_ble_eq_true rfl | rfl | (simp (disch := omega) only [alS, reS, wAl, wR, upA_e, upA_n, hk]; done)), by (first | exact hk | exact Nat.le_of_ble_eq_true rfl | rfl | (simp (disch := omega) only [alS, reS, wAl, wR, upA_e, upA_n, hk]; done)), ?_⟩
  refine ⟨by (first | exact hk | exact Nat.le_of_ble_eq_true rfl | rfl | (simp (disch := omega) only [alS, reS, wAl, wR, upA_e, upA_n, hk]; done)), ?_⟩
  refine ⟨⟨Nat.le_of_ble_eq_true rfl, Nat.le_of_ble_eq_true rfl, Nat.le_of_ble_eq_true rfl⟩, _, by exact T_clean (S := mS (137, kd, ln, rf)) (M := mMz M) (J := mJz J) (r := 139) ⟨rfl, rfl⟩, ?_⟩
  rintro _ w1 ⟨rfl, rfl⟩
  refine ⟨Or.inl rfl, ?_⟩
  exact ⟨⟨Nat.le_of_ble_eq_true rfl, Nat.le_of_ble_eq_true rfl⟩, rfl, rfl⟩
theorem law_S {kd ln : Nat → Nat} {rf : Nat → Nat → Nat} (h : RgS (136, kd, ln, rf)) : AllS (alS (mS (alS (136, kd, ln, rf) 7 0)) 10 1) := by
  refine ⟨RgS_cg h (fun o ho => ?_), ⟨⟨rfl, rfl, rfl, rfl, rfl, rfl, rfl⟩, ⟨rfl, rfl, rfl, rfl, rfl, rfl⟩, rfl, rfl, rfl, rfl, rfl, rfl⟩, rfl, rfl⟩
  refine ⟨?_, ?_, ?_⟩ <;> simp (disch := omega) only [mS, alS, reS, upA_n]
theorem law_M {M1 : Nat → Nat → Int32} {σ : Rw} (hσ : ∀ q, q < 114 → vO M1 4 q = cNew σ 4 10 100 q) (m2 : ∀ q, M1 2 q = 0) (m3 : ∀ q, M1 3 q = 0) (m18 : ∀ q, M1 18 q = 0) (m122 : ∀ q, M1 (120 + 2) q = 0) : LG (100000 + 1000 * 0) (zM (upA (mMz (zM M1 137)) 139 (rClean (mMz (zM M1 137) 139) 4 10 100)) 144) := by
  obtain ⟨Mf, hf⟩ : ∃ Mf, Mf = zM (upA (mMz (zM M1 137)) 139 (rClean (mMz (zM M1 137) 139) 4 10 100)) 144 := ⟨_, rfl⟩
  rw [← hf]
  have lo : ∀ o, o < 137 → Mf o = M1 o := fun o ho => by
    rw [hf]
    simp (disch := omega) only [zM, mMz, upA_n]
  have f137 : Mf 137 = fun _ => 0 := by rw [hf]; rfl
  have f138 : Mf 138 = fun _ => 0 := by rw [hf]; rfl
  have f143 : Mf 143 = fun _ => 0 := by rw [hf]; rfl
  have f139 : Mf 139 = rClean (mMz (zM M1 137) 139) (nI 4) (nI 10) (nI 100) := by rw [hf]; rfl
  refine ⟨⟨0, fun _ => 0, ⟨?_, by omega, fun q hq => ?_⟩, ⟨?_, by omega, fun q hq => ?_⟩⟩, ?_, ⟨0, 0, by omega, by omega, ?_, ?_, ?_, fun i hi => absurd hi (by omega)⟩, fun k hk => ?_⟩
  · rw [lo 2 (by omega), m2]; rfl
  · rw [lo 3 (by omega), m3]; exact ⟨Nat.zero_le _, rfl⟩
  · rw [f137]; rfl
  · rw [f138]; exact ⟨Nat.zero_le _, rfl⟩
  · have hI : I2 0 (Mf 139) := by rw [f139]; exact rClean_I2 (by omega) (by omega) (by omega) (by omega) (by omega)
    refine ⟨?_, hI.mono (by omega)⟩
    have hq : Rq (cNew σ (nI 4) (nI 10) (nI 100)) (Mf 139) := by rw [f139]; exact cNew_rq (by omega)
    refine Rp.tr (Rp.of fun q h1 _ => ?_) hq
    rw [vO_eqv (M := M1) (M' := Mf) (b := 4) (fun o k z1 z2 => by rw [lo o (by omega)]) q]
    exact hσ q h1
  · rw [lo 18 (by omega), m18]; rfl
  · rw [lo 18 (by omega), m18]; rfl
  · rw [f137]; rfl
  · rw [lo 122 (by omega), f143]
    exact ⟨m122 k, fun h_ => absurd rfl h_⟩
set_option maxRecDepth 100000 in
set_option maxHeartbeats 8000000 in
theorem law_ok {xs : Nat → Int32} {L : Nat} (hL : L ≤ 2048) : LawOk xs L := by
  refine EE.runN (stop := atPc [23]) 40 _ ?_
  refine ⟨⟨Nat.le_of_ble_eq_true rfl, Nat.le_of_ble_eq_true rfl, (by exact Nat.le_of_ble_eq_true rfl), ⟨fs0, (fl1 (Or.inr (by exact Nat.le_of_ble_eq_true rfl)) fl0)⟩⟩, ?_⟩
  refine ⟨⟨Nat.le_of_ble_eq_true rfl, Nat.le_of_ble_eq_true rfl, Nat.le_of_ble_eq_true rfl⟩, by (first | rfl | exact Nat.le_of_ble_eq_true rfl | (exact upA_s _ _ _)), _, T_i62 (S := alS (0, fun _ => 99, fun _ => 0, fun _ _ => 0) 6 0) rfl rfl, ?_⟩
  rintro _ w1 ⟨rfl, S1, M1, J1, rfl, ⟨hRg, n1⟩, ⟨σ, hσ⟩, m2, m3, m18, m122⟩
  obtain ⟨n1_, kd, ln, rf⟩ := S1
  have n1 : n1_ = 136 := n1
  subst n1
  refine ⟨Or.inr ⟨fs1 (Or.inl (by exact Nat.le_of_ble_eq_true rfl)) fs0, fl1 (Or.inr (by exact Nat.le_of_ble_eq_true rfl)) fl0⟩, ?_⟩
  refine ⟨⟨Nat.le_of_ble_eq_true rfl, Nat.le_of_ble_eq_true rfl, (by exact Nat.le_of_ble_eq_true rfl), ⟨fs0, (fl1 (Or.inl (by exact Nat.le_of_ble_eq_true rfl)) (fl1 (Or.inr (by exact Nat.le_of_ble_eq_true rfl)) fl0))⟩⟩, ?_⟩
  refine ⟨⟨Nat.le_of_ble_eq_true rfl, Nat.le_of_ble_eq_true rfl, Nat.le_of_ble_eq_true rfl⟩, by (first | rfl | exact Nat.le_of_ble_eq_true rfl | (exact upA_s _ _ _)), _, T_i97 (S := alS (136, kd, ln, rf) 7 0) (M := zM M1 137) (J := zJ J1 137) rfl rfl, ?_⟩
  rintro _ w1 ⟨rfl, rfl⟩
  refine ⟨Or.inr ⟨fs1 (Or.inl (by exact Nat.le_of_ble_eq_true rfl)) fs0, fl1 (Or.inl (by exact Nat.le_of_ble_eq_true rfl)) (fl1 (Or.inr (by exact Nat.le_of_ble_eq_true rfl)) fl0)⟩, ?_⟩
  refine ⟨⟨by decide, by decide, Nat.le_of_ble_eq_true rfl, Nat.le_of_ble_eq_true rfl, (by exact Nat.le_of_ble_eq_true rfl), ⟨fs0, (fl1 (Or.inl (by exact Nat.le_of_ble_eq_true rfl)) (fl1 (Or.inl (by exact Nat.le_of_ble_eq_true rfl)) (fl1 (Or.inr (by exact Nat.le_of_ble_eq_true rfl)) fl0)))⟩⟩, ?_⟩
  refine ee_at (nt := nzT 195) [(0, .ref 1000001), (1, .ref 1), (2, .ref 137), (3, .ref 144), (4, .int (nI (4 * 0)))] (alS (mS (alS (136, kd, ln, rf) 7 0)) 10 1, zM (upA (mMz (zM M1 137)) 139 (rClean (mMz (zM M1 137) 139) 4 10 100)) 144, zJ (mJz (zJ J1 137)) 144) rfl rfl rfl ?_
  exact L_law (law_S hRg) hL 520 0 _ _ _ _ rfl (law_M hσ m2 m3 m18 m122) (by exact Nat.le_of_ble_eq_true rfl) (by exact Nat.le_of_ble_eq_true rfl)
