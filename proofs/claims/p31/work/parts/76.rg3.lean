/-! THE CLASS: what would be: written by wip/whole/pure3.py -/
def cFin (σ : Rw) (x y : Int32) : Rw := if ¬ rStore (upd (upd σ 10 x) 11 y) 3 = 0 then rStore (upd (upd σ 10 x) 11 y) else rPower (rStore (upd (upd σ 10 x) 11 y))
def tWc (σ δ : Rw) : Nat → Rw
  | 0 => δ
  | k + 1 => cFin σ (nI (1 + k / 3)) (nI (k % 3))
theorem vO_11 (M : Nat → Nat → Int32) (τ : Rw) : vO (sO M 11 τ) 4 = vO M 4 := by
  funext q
  unfold vO
  have := ps_le' q
  rw [sO_ot _ _ _ (Or.inl (by omega))]
def vTill (σ : Rw) : Int32 := if (cTl 10000 0 σ).1 ≤ 9999 then nI (cTl 10000 0 σ).1 else -99999
def aTill (σ : Rw) (x : Int32) : Nat × Int32 := if ¬ x < 1 ∧ ¬ 99 < x then (if σ 3 = 0 then (2, 0) else (0, vTill (upd (upd σ 1 x) 10 0))) else (1, 0)
theorem lgl {x y : Int64} : lg_cmp x y < 0 ↔ x < y := @lg_cmp_lt x y
theorem cmp0 {x y : Int64} : lg_cmp x y = 0 ↔ x = y := by
  have h1 := @lg_cmp_lt x y
  have h2 := @lg_cmp_gt x y
  constructor
  · intro h
    rw [h] at h1 h2
    have a : ¬ x < y := fun h_ => absurd (h1.mpr h_) (by decide)
    have c : ¬ y < x := fun h_ => absurd (h2.mpr h_) (by decide)
    rw [Int64.lt_iff_toInt_lt] at a c
    exact Int64.toInt_inj.mp (by omega)
  · intro h
    subst h
    have a : ¬ lg_cmp x x < 0 := fun h_ => by
      have := h1.mp h_
      rw [Int64.lt_iff_toInt_lt] at this
      omega
    have c : ¬ 0 < lg_cmp x x := fun h_ => by
      have := h2.mp h_
      rw [Int64.lt_iff_toInt_lt] at this
      omega
    rw [Int32.lt_iff_toInt_lt] at a c
    exact Int32.toInt_inj.mp (by
      have h0 : (0 : Int32).toInt = 0 := by decide
      omega)
set_option maxHeartbeats 1000000 in
theorem T_told {d : Nat} {S : Sc} {M : Nat → Nat → Int32} {J : Nat → Nat → Int64} {BB : Nat} (hR : RgS S) (hI : I2 BB (vO M 4)) (hBB : BB < 1000000) {x y : Int32} {q : Nat} (hx : x = nI q) (hq1 : 1 ≤ q) (hq : q ≤ 36) (hy : y = 0 ∨ y = 1 ∨ y = 2) (h3 : vO M 4 3 = 1) (h12 : vO M 4 12 = 0) : Wp (d + 7) 91 [.ref 1, .int x, .int y] (S, M, J) (fun rs w' => rs = .inl (some (.int (aFound (vO M 4) x y))) ∧ w' = (S, (sO M 11 (cFin (vO M 4) x y)), J)) := by
  obtain ⟨hSt, hO, hOt, ⟨b1, r10, r11, r12, r13, r14⟩, ⟨b18, r182⟩, hH, hV⟩ := id hR
  have k0 : S.2.1 4 = 2 := hO.1.1
  have k1 : S.2.1 5 = 0 := hO.1.2.1
  have k4 : S.2.1 8 = 3 := hO.1.2.2.2.2.1
  have q0 : S.2.2.2 4 0 = 5 := hO.2.1.1
  have q1 : S.2.2.2 4 1 = 8 := hO.2.1.2.1
  have kt : S.2.1 11 = 2 := hOt.1.1
  have kst : S.2.1 2 = 5 := hSt.1
  have k120 : S.2.1 120 = 4 := hV.1
  have hUI : I2 BB (upd (upd (vO M 4) 10 x) 11 y) := by rw [hx]; exact setCut_I2 hI hq1 hq hy
  have hUS := rStore_I2 hUI (by omega) h3 h12
  have hU3 := hUS.1.2.1.1
  refine ⟨rfl, ?_⟩
  refine EE.runN (stop := noStop) 80 _ ?_
  refine ⟨by simp only [wI_M, wI_1, wI_w, b1, r10, r11, r12, r13, r14, b18, r182, k0, k1, k4, q0, q1, kt, kst, k120] <;> first | rfl | decide, ?_⟩
  refine ⟨by simp only [wI_M, wI_1, wI_w, b1, r10, r11, r12, r13, r14, b18, r182, k0, k1, k4, q0, q1, kt, kst, k120] <;> first | rfl | decide, ?_⟩
  refine ⟨⟨Nat.le_of_ble_eq_true rfl, Nat.le_of_ble_eq_true rfl, Nat.le_of_ble_eq_true rfl⟩, by simp only [wI_M, wI_1, wI_w, b1, r10, r11, r12, r13, r14, b18, r182, k0, k1, k4, q0, q1, kt, kst, k120] <;> first | rfl | decide, _, by simp only [r11, r12]; exact V_oLike (b := 11) (b2 := 4) hOt hO (Or.inl (by omega)) hI.1.2.1.1 hI.1.2.1.2, ?_⟩
  rintro _ w1 ⟨rfl, hw⟩
  have hw : w1 = (S, sO M 11 (vO M 4), J) := by exact hw
  subst hw
  refine ⟨Or.inl rfl, ?_⟩
  refine ⟨by simp only [wI_M, wI_1, wI_w, b1, r10, r11, r12, r13, r14, b18, r182, k0, k1, k4, q0, q1, kt, kst, k120] <;> first | rfl | decide, ?_⟩
  refine ⟨⟨Nat.le_of_ble_eq_true rfl, Nat.le_of_ble_eq_true rfl, Nat.le_of_ble_eq_true rfl⟩, by simp only [wI_M, wI_1, wI_w, b1, r10, r11, r12, r13, r14, b18, r182, k0, k1, k4, q0, q1, kt, kst, k120] <;> first | rfl | decide, _, by simp only [r12]; exact T_setCut hOt, ?_⟩
  rintro _ w1 ⟨rfl, hw⟩
  have hw : w1 = (S, sO M 11 (upd (upd (vO M 4) 10 x) 11 y), J) := by exact hw
  subst hw
  refine ⟨Or.inl rfl, ?_⟩
  refine ⟨by simp only [wI_M, wI_1, wI_w, b1, r10, r11, r12, r13, r14, b18, r182, k0, k1, k4, q0, q1, kt, kst, k120] <;> first | rfl | decide, ?_⟩
  refine ⟨⟨Nat.le_of_ble_eq_true rfl, Nat.le_of_ble_eq_true rfl, Nat.le_of_ble_eq_true rfl⟩, by simp only [wI_M, wI_1, wI_w, b1, r10, r11, r12, r13, r14, b18, r182, k0, k1, k4, q0, q1, kt, kst, k120] <;> first | rfl | decide, _, by simp only [r12]; exact T_cStore hOt hUI.1.1 h3 h12 hUI.1.2.2.1, ?_⟩
  rintro _ w1 ⟨rfl, hw⟩
  have hw : w1 = (S, sO M 11 (rStore (upd (upd (vO M 4) 10 x) 11 y)), J) := by exact hw
  subst hw
  refine ⟨Or.inl rfl, ?_⟩
  refine ⟨by simp only [wI_M, wI_1, wI_w, b1, r10, r11, r12, r13, r14, b18, r182, k0, k1, k4, q0, q1, kt, kst, k120] <;> first | rfl | decide, ?_⟩
  refine ⟨by simp only [wI_M, wI_1, wI_w, b1, r10, r11, r12, r13, r14, b18, r182, k0, k1, k4, q0, q1, kt, kst, k120] <;> first | rfl | decide, ?_⟩
  refine ⟨fun h1 => ?_, fun h1 => ?_⟩
  · refine ⟨by simp only [wI_M, wI_1, wI_w, b1, r10, r11, r12, r13, r14, b18, r182, k0, k1, k4, q0, q1, kt, kst, k120] <;> first | rfl | decide, ?_⟩
    refine ⟨⟨Nat.le_of_ble_eq_true rfl, Nat.le_of_ble_eq_true rfl, Nat.le_of_ble_eq_true rfl⟩, by simp only [wI_M, wI_1, wI_w, b1, r10, r11, r12, r13, r14, b18, r182, k0, k1, k4, q0, q1, kt, kst, k120] <;> first | rfl | decide, _, by simp only [r12]; exact T_switchOn hOt (B := BB) hUS.1 (by omega), ?_⟩
    rintro _ w1 ⟨rfl, hw⟩
    have hw : w1 = (S, sO M 11 (rPower (rStore (upd (upd (vO M 4) 10 x) 11 y))), J) := by exact hw
    subst hw
    refine ⟨Or.inl rfl, ?_⟩
    (try simp only [wI_M, wI_1, wI_w, b1, r10, r11, r12, r13, r14, b18, r182, k0, k1, k4, q0, q1, kt, kst, k120, rd0_3, rd0_5, rd0_8, rd0_2, rd0_11, bI_e0, Classical.not_not] at h1)
    refine ⟨⟨Nat.zero_le _, Nat.zero_le _⟩, ?_, ?_⟩
    · refine congrArg (fun v => Sum.inl (some (Value.int v))) ?_
      unfold aFound
      rw [if_neg (fun h_ => by rw [h1] at h_; exact absurd h_ (by decide))]
    · unfold cFin; rw [if_neg (fun h_ => h_ h1)]
  · refine ⟨by simp only [wI_M, wI_1, wI_w, b1, r10, r11, r12, r13, r14, b18, r182, k0, k1, k4, q0, q1, kt, kst, k120] <;> first | rfl | decide, ?_⟩
    refine ⟨by simp only [wI_M, wI_1, wI_w, b1, r10, r11, r12, r13, r14, b18, r182, k0, k1, k4, q0, q1, kt, kst, k120] <;> first | rfl | decide, ?_⟩
    (try simp only [wI_M, wI_1, wI_w, b1, r10, r11, r12, r13, r14, b18, r182, k0, k1, k4, q0, q1, kt, kst, k120, rd0_3, rd0_5, rd0_8, rd0_2, rd0_11, bI_e0, Classical.not_not] at h1)
    refine ⟨⟨Nat.zero_le _, Nat.zero_le _⟩, ?_, ?_⟩
    · refine congrArg (fun v => Sum.inl (some (Value.int v))) ?_
      unfold aFound
      rw [if_pos (hU3.resolve_left h1)]; simp only [wI_M, wI_1, wI_w, b1, r10, r11, r12, r13, r14, b18, r182, k0, k1, k4, q0, q1, kt, kst, k120, rd0_3, rd0_5, rd0_8, rd0_2, rd0_11, bI_e0, Classical.not_not]; exact rStore_keep (by omega)
    · unfold cFin; rw [if_pos h1]
set_option maxHeartbeats 1000000 in
theorem C_after {d : Nat} {S : Sc} {M : Nat → Nat → Int32} {J : Nat → Nat → Int64} {BB : Nat} (hR : RgS S) (hI : I2 BB (vO M 4)) (hBB : BB < 1000000) {u v : Int32} : Wp (d + 9) 82 [.ref 1, .int u, .int v] (S, M, J) (fun rs w' => ∃ M', w' = (S, M', J) ∧ Jk M M' ∧ rs = cRs (fun c => if c = 1 then 0 else 1) (aAfter (vO M 4) u v)) := by
  obtain ⟨hSt, hO, hOt, ⟨b1, r10, r11, r12, r13, r14⟩, ⟨b18, r182⟩, hH, hV⟩ := id hR
  have k0 : S.2.1 4 = 2 := hO.1.1
  have k1 : S.2.1 5 = 0 := hO.1.2.1
  have k4 : S.2.1 8 = 3 := hO.1.2.2.2.2.1
  have q0 : S.2.2.2 4 0 = 5 := hO.2.1.1
  have q1 : S.2.2.2 4 1 = 8 := hO.2.1.2.1
  have kt : S.2.1 11 = 2 := hOt.1.1
  have kst : S.2.1 2 = 5 := hSt.1
  have k120 : S.2.1 120 = 4 := hV.1
  have v3 : M 4 3 = vO M 4 3 := rfl
  have v4 : M 4 5 = vO M 4 4 := rfl
  have v12 : M 4 4 = vO M 4 12 := rfl
  have v5 : M 4 8 = vO M 4 5 := rfl
  have v13 : M 4 13 = vO M 4 13 := rfl
  have v14 : M 4 14 = vO M 4 14 := rfl
  have v15 : M 4 15 = vO M 4 15 := rfl
  have v16 : M 4 16 = vO M 4 16 := rfl
  have v1 : M 4 2 = vO M 4 1 := rfl
  have v0 : M 5 0 = vO M 4 0 := rfl
  have v17 : M 8 0 = vO M 4 17 := rfl
  have v6 : M 4 6 = vO M 4 6 := rfl
  have v7 : M 4 7 = vO M 4 7 := rfl
  have v8 : M 4 9 = vO M 4 8 := rfl
  have v9 : M 4 10 = vO M 4 9 := rfl
  have v10 : M 4 11 = vO M 4 10 := rfl
  have v11 : M 4 12 = vO M 4 11 := rfl
  have v2 : M 5 1 = vO M 4 2 := rfl
  obtain ⟨n, cur, hn3, hn, hcur, e0, e7⟩ := id hI.1.1
  have hc17 := hI.cnt
  refine ⟨rfl, ?_⟩
  refine EE.runN (stop := noStop) 80 _ ?_
  refine ⟨⟨Nat.le_of_ble_eq_true rfl, Nat.le_of_ble_eq_true rfl, Nat.le_of_ble_eq_true rfl⟩, _, T_isC, ?_⟩
  rintro _ _ ⟨rfl, rfl⟩
  refine ⟨Or.inl rfl, ?_⟩
  refine ⟨fun h1 => ?_, fun h1 => ?_⟩
  · refine ⟨by simp only [wI_M, wI_1, wI_w, b1, r10, r11, r12, r13, r14, b18, r182, k0, k1, k4, q0, q1, kt, kst, k120] <;> first | rfl | decide, ?_⟩
    refine ⟨by simp only [wI_M, wI_1, wI_w, b1, r10, r11, r12, r13, r14, b18, r182, k0, k1, k4, q0, q1, kt, kst, k120] <;> first | rfl | decide, ?_⟩
    refine ⟨fun h2 => ?_, fun h2 => ?_⟩
    · (try simp only [wI_M, wI_1, wI_w, b1, r10, r11, r12, r13, r14, b18, r182, k0, k1, k4, q0, q1, kt, kst, k120, v3, v4, v12, v5, v13, v14, v15, v16, v1, v0, v17, v6, v7, v8, v9, v10, v11, v2, bI_e0, Classical.not_not] at h1)
      (try simp only [wI_M, wI_1, wI_w, b1, r10, r11, r12, r13, r14, b18, r182, k0, k1, k4, q0, q1, kt, kst, k120, v3, v4, v12, v5, v13, v14, v15, v16, v1, v0, v17, v6, v7, v8, v9, v10, v11, v2, bI_e0, Classical.not_not] at h2)
      refine ⟨Nat.le_of_ble_eq_true rfl, ⟨by omega, Nat.le_of_ble_eq_true rfl, Nat.le_of_ble_eq_true rfl, rfl⟩, M, rfl, Jk.rf M, ?_⟩
      unfold aAfter; rw [if_pos h1, if_pos (Or.inl h2)]; rfl
    · refine ⟨by simp only [wI_M, wI_1, wI_w, b1, r10, r11, r12, r13, r14, b18, r182, k0, k1, k4, q0, q1, kt, kst, k120] <;> first | rfl | decide, ?_⟩
      refine ⟨by simp only [wI_M, wI_1, wI_w, b1, r10, r11, r12, r13, r14, b18, r182, k0, k1, k4, q0, q1, kt, kst, k120] <;> first | rfl | decide, ?_⟩
      refine ⟨fun h3 => ?_, fun h3 => ?_⟩
      · have g1 := h1
        have g2 := h2
        have g3 := h3
        simp only [wI_M, wI_1, wI_w, b1, r10, r11, r12, r13, r14, b18, r182, k0, k1, k4, q0, q1, kt, kst, k120, v3, v4, v12, v5, v13, v14, v15, v16, v1, v0, v17, v6, v7, v8, v9, v10, v11, v2, bI_e0, Classical.not_not] at g1 g2 g3
        obtain ⟨q, hq1, hq, hx_⟩ := in_nat1 (k := 36) rfl (by omega) ⟨g1.1, g1.2.1⟩
        obtain ⟨w, hw_, hyw⟩ := in_nat (k := 2) rfl (by omega) g1.2.2
        have hy_ : v = 0 ∨ v = 1 ∨ v = 2 := by rw [hyw]; exact n012 hw_
        have h31 : vO M 4 3 = 1 := hI.1.2.1.1.resolve_left g2
        have h120 : vO M 4 12 = 0 := g3
        refine ⟨⟨Nat.le_of_ble_eq_true rfl, Nat.le_of_ble_eq_true rfl, Nat.le_of_ble_eq_true rfl⟩, by simp only [wI_M, wI_1, wI_w, b1, r10, r11, r12, r13, r14, b18, r182, k0, k1, k4, q0, q1, kt, kst, k120] <;> first | rfl | decide, _, by exact T_told hR hI hBB hx_ hq1 hq hy_ h31 h120, ?_⟩
        rintro _ _ ⟨rfl, rfl⟩
        refine ⟨Or.inl rfl, ?_⟩
        (try simp only [wI_M, wI_1, wI_w, b1, r10, r11, r12, r13, r14, b18, r182, k0, k1, k4, q0, q1, kt, kst, k120, v3, v4, v12, v5, v13, v14, v15, v16, v1, v0, v17, v6, v7, v8, v9, v10, v11, v2, bI_e0, Classical.not_not] at h1)
        (try simp only [wI_M, wI_1, wI_w, b1, r10, r11, r12, r13, r14, b18, r182, k0, k1, k4, q0, q1, kt, kst, k120, v3, v4, v12, v5, v13, v14, v15, v16, v1, v0, v17, v6, v7, v8, v9, v10, v11, v2, bI_e0, Classical.not_not] at h2)
        (try simp only [wI_M, wI_1, wI_w, b1, r10, r11, r12, r13, r14, b18, r182, k0, k1, k4, q0, q1, kt, kst, k120, v3, v4, v12, v5, v13, v14, v15, v16, v1, v0, v17, v6, v7, v8, v9, v10, v11, v2, bI_e0, Classical.not_not] at h3)
        refine ⟨⟨Nat.zero_le _, Nat.zero_le _⟩, _, rfl, Jk_sO M _, ?_⟩
        unfold aAfter; rw [if_pos h1, if_neg (fun h_ => h_.elim h2 (fun h2_ => by rw [h3] at h2_; exact absurd h2_ (by decide)))]
        refine congrArg (fun v => Sum.inl (some (Value.int v))) ?_
        rfl
      · (try simp only [wI_M, wI_1, wI_w, b1, r10, r11, r12, r13, r14, b18, r182, k0, k1, k4, q0, q1, kt, kst, k120, v3, v4, v12, v5, v13, v14, v15, v16, v1, v0, v17, v6, v7, v8, v9, v10, v11, v2, bI_e0, Classical.not_not] at h1)
        (try simp only [wI_M, wI_1, wI_w, b1, r10, r11, r12, r13, r14, b18, r182, k0, k1, k4, q0, q1, kt, kst, k120, v3, v4, v12, v5, v13, v14, v15, v16, v1, v0, v17, v6, v7, v8, v9, v10, v11, v2, bI_e0, Classical.not_not] at h2)
        (try simp only [wI_M, wI_1, wI_w, b1, r10, r11, r12, r13, r14, b18, r182, k0, k1, k4, q0, q1, kt, kst, k120, v3, v4, v12, v5, v13, v14, v15, v16, v1, v0, v17, v6, v7, v8, v9, v10, v11, v2, bI_e0, Classical.not_not] at h3)
        refine ⟨Nat.le_of_ble_eq_true rfl, ⟨by omega, Nat.le_of_ble_eq_true rfl, Nat.le_of_ble_eq_true rfl, rfl⟩, M, rfl, Jk.rf M, ?_⟩
        unfold aAfter; rw [if_pos h1, if_pos (Or.inr (hI.1.2.1.2.resolve_left h3))]; rfl
  · (try simp only [wI_M, wI_1, wI_w, b1, r10, r11, r12, r13, r14, b18, r182, k0, k1, k4, q0, q1, kt, kst, k120, v3, v4, v12, v5, v13, v14, v15, v16, v1, v0, v17, v6, v7, v8, v9, v10, v11, v2, bI_e0, Classical.not_not] at h1)
    refine ⟨Nat.le_of_ble_eq_true rfl, ⟨by omega, Nat.le_of_ble_eq_true rfl, Nat.le_of_ble_eq_true rfl, rfl⟩, M, rfl, Jk.rf M, ?_⟩
    unfold aAfter; rw [if_neg h1]; rfl
theorem min_w {a c : Int32} : (if c < a then c else a) = (if a ≤ c then a else c) := by
  by_cases h : c < a
  · rw [if_pos h, if_neg (fun h_ => Int32.not_le.mpr h h_)]
  · rw [if_neg h, if_pos (Int32.not_lt.mp h)]
theorem rd4_11 {M : Nat → Nat → Int32} {τ : Rw} {k : Nat} : sO M 11 τ 4 k = M 4 k := by rw [sO_ot _ _ _ (Or.inl (by omega))]
set_option maxHeartbeats 1000000 in
theorem C_worst {d : Nat} {S : Sc} {M : Nat → Nat → Int32} {J : Nat → Nat → Int64} {BB : Nat} (hR : RgS S) (hI : I2 BB (vO M 4)) (hBB : BB < 1000000) : Wp (d + 9) 83 [.ref 1] (S, M, J) (fun rs w' => ∃ M', w' = (S, M', J) ∧ Jk M M' ∧ rs = cRs (fun c => 1) (aWorst (vO M 4))) := by
  obtain ⟨hSt, hO, hOt, ⟨b1, r10, r11, r12, r13, r14⟩, ⟨b18, r182⟩, hH, hV⟩ := id hR
  have k0 : S.2.1 4 = 2 := hO.1.1
  have k1 : S.2.1 5 = 0 := hO.1.2.1
  have k4 : S.2.1 8 = 3 := hO.1.2.2.2.2.1
  have q0 : S.2.2.2 4 0 = 5 := hO.2.1.1
  have q1 : S.2.2.2 4 1 = 8 := hO.2.1.2.1
  have kt : S.2.1 11 = 2 := hOt.1.1
  have kst : S.2.1 2 = 5 := hSt.1
  have k120 : S.2.1 120 = 4 := hV.1
  have v3 : M 4 3 = vO M 4 3 := rfl
  have v4 : M 4 5 = vO M 4 4 := rfl
  have v12 : M 4 4 = vO M 4 12 := rfl
  have v5 : M 4 8 = vO M 4 5 := rfl
  have v13 : M 4 13 = vO M 4 13 := rfl
  have v14 : M 4 14 = vO M 4 14 := rfl
  have v15 : M 4 15 = vO M 4 15 := rfl
  have v16 : M 4 16 = vO M 4 16 := rfl
  have v1 : M 4 2 = vO M 4 1 := rfl
  have v0 : M 5 0 = vO M 4 0 := rfl
  have v17 : M 8 0 = vO M 4 17 := rfl
  have v6 : M 4 6 = vO M 4 6 := rfl
  have v7 : M 4 7 = vO M 4 7 := rfl
  have v8 : M 4 9 = vO M 4 8 := rfl
  have v9 : M 4 10 = vO M 4 9 := rfl
  have v10 : M 4 11 = vO M 4 10 := rfl
  have v11 : M 4 12 = vO M 4 11 := rfl
  have v2 : M 5 1 = vO M 4 2 := rfl
  obtain ⟨n, cur, hn3, hn, hcur, e0, e7⟩ := id hI.1.1
  have hc17 := hI.cnt
  refine ⟨rfl, ?_⟩
  refine EE.runN (stop := atPc [41, 49]) 80 _ ?_
  refine ⟨by simp only [wI_M, wI_1, wI_w, b1, r10, r11, r12, r13, r14, b18, r182, k0, k1, k4, q0, q1, kt, kst, k120] <;> first | rfl | decide, ?_⟩
  refine ⟨by simp only [wI_M, wI_1, wI_w, b1, r10, r11, r12, r13, r14, b18, r182, k0, k1, k4, q0, q1, kt, kst, k120] <;> first | rfl | decide, ?_⟩
  refine ⟨fun h1 => ?_, fun h1 => ?_⟩
  · (try simp only [wI_M, wI_1, wI_w, b1, r10, r11, r12, r13, r14, b18, r182, k0, k1, k4, q0, q1, kt, kst, k120, v3, v4, v12, v5, v13, v14, v15, v16, v1, v0, v17, v6, v7, v8, v9, v10, v11, v2, bI_e0, Classical.not_not] at h1)
    refine ⟨Nat.le_of_ble_eq_true rfl, ⟨by omega, Nat.le_of_ble_eq_true rfl, Nat.le_of_ble_eq_true rfl, rfl⟩, M, rfl, Jk.rf M, ?_⟩
    unfold aWorst; rw [if_pos (Or.inl h1)]; rfl
  · refine ⟨by simp only [wI_M, wI_1, wI_w, b1, r10, r11, r12, r13, r14, b18, r182, k0, k1, k4, q0, q1, kt, kst, k120] <;> first | rfl | decide, ?_⟩
    refine ⟨by simp only [wI_M, wI_1, wI_w, b1, r10, r11, r12, r13, r14, b18, r182, k0, k1, k4, q0, q1, kt, kst, k120] <;> first | rfl | decide, ?_⟩
    refine ⟨fun h2 => ?_, fun h2 => ?_⟩
    · have g2 := h1
      have g3 := h2
      simp only [wI_M, wI_1, wI_w, b1, r10, r11, r12, r13, r14, b18, r182, k0, k1, k4, q0, q1, kt, kst, k120, v3, v4, v12, v5, v13, v14, v15, v16, v1, v0, v17, v6, v7, v8, v9, v10, v11, v2, bI_e0, Classical.not_not] at g2 g3
      have h31 : vO M 4 3 = 1 := hI.1.2.1.1.resolve_left g2
      have h120 : vO M 4 12 = 0 := g3
      refine ⟨by simp only [wI_M, wI_1, wI_w, b1, r10, r11, r12, r13, r14, b18, r182, k0, k1, k4, q0, q1, kt, kst, k120] <;> first | rfl | decide, ?_⟩
      refine ⟨by simp only [wI_M, wI_1, wI_w, b1, r10, r11, r12, r13, r14, b18, r182, k0, k1, k4, q0, q1, kt, kst, k120] <;> first | rfl | decide, ?_⟩
      refine ee_at (nt := nzT 83) [(0, .ref 1), (1, .int (rWl (vO M 4) (3 * (0)))), (2, .int (nI ((0) + 1)))] (S, sO M 11 (tWc (vO M 4) (vO M 11) (3 * (0))), J) rfl (by simp only [wI_M, wI_1, wI_w, b1, r10, r11, r12, r13, r14, b18, r182, k0, k1, k4, q0, q1, kt, kst, k120, v3, v4, v12, v5, v13, v14, v15, v16, v1, v0, v17, v6, v7, v8, v9, v10, v11, v2, bI_e0, Classical.not_not]; rfl) (by rw [show tWc (vO M 4) (vO M 11) (3 * 0) = vO M 11 from rfl, sO_vO]) ?_
      refine ee_loop (fun k => (41, [(0, .ref 1), (1, .int (rWl (vO M 4) (3 * (k)))), (2, .int (nI ((k) + 1)))], [], (S, sO M 11 (tWc (vO M 4) (vO M 11) (3 * (k))), J), 0, 0)) (36) (fun k h_k ih_k => ?_) ?_
      · refine EE.runN (stop := atPc [41, 49]) 80 _ ?_
        refine ⟨fun h3 => ?_, fun h3 => ?_⟩
        · (have h_ := h3; rw [show (36 : Int32) = nI 36 from rfl, nI_ltI (by omega) (by omega)] at h_; omega)
        · refine ee_at (nt := nzT 83) [(0, .ref 1), (1, .int (rWl (vO M 4) (3 * k + (0)))), (2, .int (nI (k + 1))), (3, .int (nI (0)))] (S, sO M 11 (tWc (vO M 4) (vO M 11) (3 * k + (0))), J) rfl (by rfl) (by rfl) ?_
          refine ee_loop (fun i => (49, [(0, .ref 1), (1, .int (rWl (vO M 4) (3 * k + (i)))), (2, .int (nI (k + 1))), (3, .int (nI (i)))], [], (S, sO M 11 (tWc (vO M 4) (vO M 11) (3 * k + (i))), J), 0, 0)) (3) (fun i h_i ih_i => ?_) ?_
          · refine EE.runN (stop := atPc [41, 49]) 80 _ ?_
            have eki : 1 + (3 * k + i) / 3 = k + 1 ∧ (3 * k + i) % 3 = i := by omega
            refine ⟨fun h4 => ?_, fun h4 => ?_⟩
            · (have h_ := h4; rw [o_2, nI_ltI (by omega) (by omega)] at h_; omega)
            · refine ⟨⟨Nat.le_of_ble_eq_true rfl, Nat.le_of_ble_eq_true rfl, Nat.le_of_ble_eq_true rfl⟩, by simp only [wI_M, wI_1, wI_w, b1, r10, r11, r12, r13, r14, b18, r182, k0, k1, k4, q0, q1, kt, kst, k120] <;> first | rfl | decide, _, by exact T_told (M := sO M 11 (tWc (vO M 4) (vO M 11) (3 * k + i))) (x := nI (k + 1)) (y := nI i) (q := k + 1) hR (by rw [vO_11]; exact hI) hBB rfl (by omega) (by omega) (n012 (by omega)) (by rw [vO_11]; exact h31) (by rw [vO_11]; exact h120), ?_⟩
              rintro _ w1 ⟨rfl, hw⟩
              rw [vO_11, sO_sO] at hw
              rw [vO_11]
              subst hw
              refine ⟨Or.inl rfl, ?_⟩
              refine ⟨⟨Nat.le_of_ble_eq_true rfl, Nat.zero_le _, Nat.zero_le _⟩, ?_⟩
              refine ee_at (nt := nzT 83) [(0, .ref 1), (1, .int (rWl (vO M 4) (3 * k + ((i + 1))))), (2, .int (nI (k + 1))), (3, .int (nI ((i + 1))))] (S, sO M 11 (tWc (vO M 4) (vO M 11) (3 * k + ((i + 1)))), J) rfl (by rw [show 3 * k + (i + 1) = (3 * k + i) + 1 by omega, rWl, eki.1, eki.2, ← nI_1 i, ← min_w]; rfl) (by show (S, _, J) = (S, _, J); rw [show 3 * k + (i + 1) = (3 * k + i) + 1 by omega, tWc, eki.1, eki.2]) ?_
              exact ih_i
          · refine EE.runN (stop := atPc [41, 49]) 80 _ ?_
            refine ⟨fun h5 => ?_, fun h5 => ?_⟩
            · refine ee_at (nt := nzT 83) [(0, .ref 1), (1, .int (rWl (vO M 4) (3 * ((k + 1))))), (2, .int (nI (((k + 1)) + 1)))] (S, sO M 11 (tWc (vO M 4) (vO M 11) (3 * ((k + 1)))), J) rfl (by rw [show 3 * (k + 1) = 3 * k + 3 by omega, show k + 1 + 1 = (k + 1) + 1 from rfl, ← nI_1 (k + 1)]; rfl) (by rw [show 3 * (k + 1) = 3 * k + 3 by omega]) ?_
              exact ih_k
            · (have h_ := h5; rw [o_2, nI_ltI (by omega) (by omega)] at h_; omega)
      · refine EE.runN (stop := atPc [41, 49]) 80 _ ?_
        refine ⟨fun h6 => ?_, fun h6 => ?_⟩
        · refine ⟨by simp only [wI_M, wI_1, wI_w, b1, r10, r11, r12, r13, r14, b18, r182, k0, k1, k4, q0, q1, kt, kst, k120] <;> first | rfl | decide, ?_⟩
          refine ⟨by simp only [wI_M, wI_1, wI_w, b1, r10, r11, r12, r13, r14, b18, r182, k0, k1, k4, q0, q1, kt, kst, k120] <;> first | rfl | decide, ?_⟩
          (try simp only [wI_M, wI_1, wI_w, b1, r10, r11, r12, r13, r14, b18, r182, k0, k1, k4, q0, q1, kt, kst, k120, v3, v4, v12, v5, v13, v14, v15, v16, v1, v0, v17, v6, v7, v8, v9, v10, v11, v2, bI_e0, Classical.not_not] at h1)
          (try simp only [wI_M, wI_1, wI_w, b1, r10, r11, r12, r13, r14, b18, r182, k0, k1, k4, q0, q1, kt, kst, k120, v3, v4, v12, v5, v13, v14, v15, v16, v1, v0, v17, v6, v7, v8, v9, v10, v11, v2, bI_e0, Classical.not_not] at h2)
          (try simp only [wI_M, wI_1, wI_w, b1, r10, r11, r12, r13, r14, b18, r182, k0, k1, k4, q0, q1, kt, kst, k120, v3, v4, v12, v5, v13, v14, v15, v16, v1, v0, v17, v6, v7, v8, v9, v10, v11, v2, bI_e0, Classical.not_not] at h6)
          refine ⟨⟨Nat.zero_le _, Nat.zero_le _⟩, _, rfl, Jk_sO M _, ?_⟩
          unfold aWorst; rw [if_neg (fun h_ => h_.elim h1 (fun h2_ => by rw [h2] at h2_; exact absurd h2_ (by decide)))]
          refine congrArg (fun v => Sum.inl (some (Value.int v))) ?_
          simp only [wI_M, wI_1, wI_w, b1, r10, r11, r12, r13, r14, b18, r182, k0, k1, k4, q0, q1, kt, kst, k120, rd4_11]; rfl
        · (have h_ := h6; rw [show (36 : Int32) = nI 36 from rfl, nI_ltI (by omega) (by omega)] at h_; omega)
    · (try simp only [wI_M, wI_1, wI_w, b1, r10, r11, r12, r13, r14, b18, r182, k0, k1, k4, q0, q1, kt, kst, k120, v3, v4, v12, v5, v13, v14, v15, v16, v1, v0, v17, v6, v7, v8, v9, v10, v11, v2, bI_e0, Classical.not_not] at h1)
      (try simp only [wI_M, wI_1, wI_w, b1, r10, r11, r12, r13, r14, b18, r182, k0, k1, k4, q0, q1, kt, kst, k120, v3, v4, v12, v5, v13, v14, v15, v16, v1, v0, v17, v6, v7, v8, v9, v10, v11, v2, bI_e0, Classical.not_not] at h2)
      refine ⟨Nat.le_of_ble_eq_true rfl, ⟨by omega, Nat.le_of_ble_eq_true rfl, Nat.le_of_ble_eq_true rfl, rfl⟩, M, rfl, Jk.rf M, ?_⟩
      unfold aWorst; rw [if_pos (Or.inr (hI.1.2.1.2.resolve_left h2))]; rfl
set_option maxHeartbeats 1000000 in
theorem C_lasts {d : Nat} {S : Sc} {M : Nat → Nat → Int32} {J : Nat → Nat → Int64} {BB : Nat} (hR : RgS S) (hI : I2 BB (vO M 4)) (hBB : BB < 1000000) {x : Int32} : Wp (d + 9) 84 [.ref 1, .int x] (S, M, J) (fun rs w' => ∃ M', w' = (S, M', J) ∧ Jk M M' ∧ rs = cRs (fun c => if c = 1 then 0 else 1) (aTill (vO M 4) x)) := by
  obtain ⟨hSt, hO, hOt, ⟨b1, r10, r11, r12, r13, r14⟩, ⟨b18, r182⟩, hH, hV⟩ := id hR
  have k0 : S.2.1 4 = 2 := hO.1.1
  have k1 : S.2.1 5 = 0 := hO.1.2.1
  have k4 : S.2.1 8 = 3 := hO.1.2.2.2.2.1
  have q0 : S.2.2.2 4 0 = 5 := hO.2.1.1
  have q1 : S.2.2.2 4 1 = 8 := hO.2.1.2.1
  have kt : S.2.1 11 = 2 := hOt.1.1
  have kst : S.2.1 2 = 5 := hSt.1
  have k120 : S.2.1 120 = 4 := hV.1
  have v3 : M 4 3 = vO M 4 3 := rfl
  have v4 : M 4 5 = vO M 4 4 := rfl
  have v12 : M 4 4 = vO M 4 12 := rfl
  have v5 : M 4 8 = vO M 4 5 := rfl
  have v13 : M 4 13 = vO M 4 13 := rfl
  have v14 : M 4 14 = vO M 4 14 := rfl
  have v15 : M 4 15 = vO M 4 15 := rfl
  have v16 : M 4 16 = vO M 4 16 := rfl
  have v1 : M 4 2 = vO M 4 1 := rfl
  have v0 : M 5 0 = vO M 4 0 := rfl
  have v17 : M 8 0 = vO M 4 17 := rfl
  have v6 : M 4 6 = vO M 4 6 := rfl
  have v7 : M 4 7 = vO M 4 7 := rfl
  have v8 : M 4 9 = vO M 4 8 := rfl
  have v9 : M 4 10 = vO M 4 9 := rfl
  have v10 : M 4 11 = vO M 4 10 := rfl
  have v11 : M 4 12 = vO M 4 11 := rfl
  have v2 : M 5 1 = vO M 4 2 := rfl
  obtain ⟨n, cur, hn3, hn, hcur, e0, e7⟩ := id hI.1.1
  have hc17 := hI.cnt
  refine ⟨rfl, ?_⟩
  refine EE.runN (stop := noStop) 80 _ ?_
  refine ⟨⟨Nat.le_of_ble_eq_true rfl, Nat.le_of_ble_eq_true rfl, Nat.le_of_ble_eq_true rfl⟩, _, T_isP, ?_⟩
  rintro _ _ ⟨rfl, rfl⟩
  refine ⟨Or.inl rfl, ?_⟩
  refine ⟨fun h1 => ?_, fun h1 => ?_⟩
  · refine ⟨by simp only [wI_M, wI_1, wI_w, b1, r10, r11, r12, r13, r14, b18, r182, k0, k1, k4, q0, q1, kt, kst, k120] <;> first | rfl | decide, ?_⟩
    refine ⟨by simp only [wI_M, wI_1, wI_w, b1, r10, r11, r12, r13, r14, b18, r182, k0, k1, k4, q0, q1, kt, kst, k120] <;> first | rfl | decide, ?_⟩
    refine ⟨fun h2 => ?_, fun h2 => ?_⟩
    · have g_ := h1
      have g2_ := h2
      simp only [wI_M, wI_1, wI_w, b1, r10, r11, r12, r13, r14, b18, r182, k0, k1, k4, q0, q1, kt, kst, k120, v3, v4, v12, v5, v13, v14, v15, v16, v1, v0, v17, v6, v7, v8, v9, v10, v11, v2, bI_e0, Classical.not_not] at g_ g2_
      obtain ⟨q, hq1, hq, hxq⟩ := in_nat1 (k := 99) rfl (by omega) g_
      have h31 : vO M 4 3 = 1 := hI.1.2.1.1.resolve_left g2_
      have hT1 : True → Inv BB (upd (upd (vO M 4) 1 x) 10 0) := fun _ => by rw [hxq]; exact cut0_I (step_I hI.1 hq1 hq)
      have ew1 := wr0_2 M 11 (vO M 4) x
      have ew2 := wr0_11 M 11 (upd (vO M 4) 1 x) 0
      refine ⟨by simp only [wI_M, wI_1, wI_w, b1, r10, r11, r12, r13, r14, b18, r182, k0, k1, k4, q0, q1, kt, kst, k120] <;> first | rfl | decide, ?_⟩
      refine ⟨by simp only [wI_M, wI_1, wI_w, b1, r10, r11, r12, r13, r14, b18, r182, k0, k1, k4, q0, q1, kt, kst, k120] <;> first | rfl | decide, ?_⟩
      refine ⟨⟨Nat.le_of_ble_eq_true rfl, Nat.le_of_ble_eq_true rfl, Nat.le_of_ble_eq_true rfl⟩, by simp only [wI_M, wI_1, wI_w, b1, r10, r11, r12, r13, r14, b18, r182, k0, k1, k4, q0, q1, kt, kst, k120] <;> first | rfl | decide, _, by simp only [r11, r12]; exact V_oLike (b := 11) (b2 := 4) hOt hO (Or.inl (by omega)) hI.1.2.1.1 hI.1.2.1.2, ?_⟩
      rintro _ w1 ⟨rfl, hw⟩
      have hw : w1 = (S, sO M 11 (vO M 4), J) := by exact hw
      subst hw
      refine ⟨Or.inl rfl, ?_⟩
      refine ⟨by simp only [wI_M, wI_1, wI_w, b1, r10, r11, r12, r13, r14, b18, r182, k0, k1, k4, q0, q1, kt, kst, k120] <;> first | rfl | decide, ?_⟩
      refine ⟨by simp only [wI_M, wI_1, wI_w, b1, r10, r11, r12, r13, r14, b18, r182, k0, k1, k4, q0, q1, kt, kst, k120] <;> first | rfl | decide, trivial, ?_⟩
      refine ⟨by simp only [wI_M, wI_1, wI_w, b1, r10, r11, r12, r13, r14, b18, r182, k0, k1, k4, q0, q1, kt, kst, k120] <;> first | rfl | decide, ?_⟩
      refine ⟨by simp only [wI_M, wI_1, wI_w, b1, r10, r11, r12, r13, r14, b18, r182, k0, k1, k4, q0, q1, kt, kst, k120] <;> first | rfl | decide, trivial, ?_⟩
      refine ⟨by simp only [wI_M, wI_1, wI_w, b1, r10, r11, r12, r13, r14, b18, r182, k0, k1, k4, q0, q1, kt, kst, k120] <;> first | rfl | decide, ?_⟩
      refine ⟨⟨Nat.le_of_ble_eq_true rfl, Nat.le_of_ble_eq_true rfl, Nat.le_of_ble_eq_true rfl⟩, by simp only [wI_M, wI_1, wI_w, b1, r10, r11, r12, r13, r14, b18, r182, k0, k1, k4, q0, q1, kt, kst, k120] <;> first | rfl | decide, _, by simp only [wI_w, r12, ew1, ew2]; exact T_till hOt (B := BB) (hT1 trivial) (by omega) h31 rfl, ?_⟩
      rintro _ _ ⟨rfl, rfl⟩
      refine ⟨Or.inl rfl, ?_⟩
      (try simp only [wI_M, wI_1, wI_w, b1, r10, r11, r12, r13, r14, b18, r182, k0, k1, k4, q0, q1, kt, kst, k120, v3, v4, v12, v5, v13, v14, v15, v16, v1, v0, v17, v6, v7, v8, v9, v10, v11, v2, bI_e0, Classical.not_not] at h1)
      (try simp only [wI_M, wI_1, wI_w, b1, r10, r11, r12, r13, r14, b18, r182, k0, k1, k4, q0, q1, kt, kst, k120, v3, v4, v12, v5, v13, v14, v15, v16, v1, v0, v17, v6, v7, v8, v9, v10, v11, v2, bI_e0, Classical.not_not] at h2)
      refine ⟨⟨Nat.zero_le _, Nat.zero_le _⟩, _, rfl, Jk_sO M _, ?_⟩
      unfold aTill; rw [if_pos h1, if_neg h2]
      refine congrArg (fun v => Sum.inl (some (Value.int v))) ?_
      rfl
    · (try simp only [wI_M, wI_1, wI_w, b1, r10, r11, r12, r13, r14, b18, r182, k0, k1, k4, q0, q1, kt, kst, k120, v3, v4, v12, v5, v13, v14, v15, v16, v1, v0, v17, v6, v7, v8, v9, v10, v11, v2, bI_e0, Classical.not_not] at h1)
      (try simp only [wI_M, wI_1, wI_w, b1, r10, r11, r12, r13, r14, b18, r182, k0, k1, k4, q0, q1, kt, kst, k120, v3, v4, v12, v5, v13, v14, v15, v16, v1, v0, v17, v6, v7, v8, v9, v10, v11, v2, bI_e0, Classical.not_not] at h2)
      refine ⟨Nat.le_of_ble_eq_true rfl, ⟨by omega, Nat.le_of_ble_eq_true rfl, Nat.le_of_ble_eq_true rfl, rfl⟩, M, rfl, Jk.rf M, ?_⟩
      unfold aTill; rw [if_pos h1, if_pos h2]; rfl
  · (try simp only [wI_M, wI_1, wI_w, b1, r10, r11, r12, r13, r14, b18, r182, k0, k1, k4, q0, q1, kt, kst, k120, v3, v4, v12, v5, v13, v14, v15, v16, v1, v0, v17, v6, v7, v8, v9, v10, v11, v2, bI_e0, Classical.not_not] at h1)
    refine ⟨Nat.le_of_ble_eq_true rfl, ⟨by omega, Nat.le_of_ble_eq_true rfl, Nat.le_of_ble_eq_true rfl, rfl⟩, M, rfl, Jk.rf M, ?_⟩
    unfold aTill; rw [if_neg h1]; rfl
set_option maxHeartbeats 2000000 in
theorem L_cscript {d : Nat} {Q : Res → Wd → Prop} {S : Sc} {M : Nat → Nat → Int32} {J : Nat → Nat → Int64} {m : Nat} {told : Int64} (hR : RgS S) (hm : m ≤ 4) (ht : ¬ told < 0) : ∀ (f k : Nat) (τ : Rw) (BB : Nat), k + f = m → I2 BB τ → BB + 1000 * f < 1073741824 → (∀ τ', Q (.inl (some (.int (sRun told f k τ)))) (S, sO M 11 τ', J)) → EE (SJ (d + 9) 87 (Wp (d + 8)) Q) (51, [(0, .ref 1), (1, .int (nI m)), (2, .long told), (4, .int (nI k))], [], (S, sO M 11 τ, J), 0, 0) := by
  obtain ⟨hSt, hO, hOt, ⟨b1, r10, r11, r12, r13, r14⟩, ⟨b18, r182⟩, hH, hV⟩ := id hR
  have k0 : S.2.1 4 = 2 := hO.1.1
  have k1 : S.2.1 5 = 0 := hO.1.2.1
  have k4 : S.2.1 8 = 3 := hO.1.2.2.2.2.1
  have q0 : S.2.2.2 4 0 = 5 := hO.2.1.1
  have q1 : S.2.2.2 4 1 = 8 := hO.2.1.2.1
  have kt : S.2.1 11 = 2 := hOt.1.1
  have kst : S.2.1 2 = 5 := hSt.1
  have k120 : S.2.1 120 = 4 := hV.1
  have ht0 := lnn.mp ht
  intro f
  induction f with
  | zero =>
    intro k τ BB hk hI hB hQ
    refine EE.runN (stop := noStop) 60 _ ?_
    refine ⟨fun h1 => ?_, fun h1 => ?_⟩
    · refine ⟨⟨Nat.zero_le _, Nat.zero_le _⟩, ?_⟩
      exact hQ τ
    · exact absurd (nI_le (show m ≤ k by omega) (by omega)) h1
  | succ f ih =>
    intro k τ BB hk hI hB hQ
    have hB1 : BB + 999 + 1000 * f < 1073741824 := by rw [Nat.mul_succ] at hB; omega
    have hB2 : BB + 999 < 1073741824 := Nat.lt_of_le_of_lt (Nat.le_add_right _ _) hB1
    have e1 : (nI m - 1 - nI k : Int32) = nI f := by
      rw [o_1, pk_sub (by omega), pk_sub (by omega)]
      congr 1
      omega
    rw [sRun] at hQ
    refine EE.runN (stop := atPc [51]) 80 _ ?_
    refine ⟨fun h1 => ?_, fun h1 => ?_⟩
    · exact absurd h1 (nI_ge (show k < m by omega) (by omega))
    · refine ⟨⟨Nat.le_of_ble_eq_true rfl, Nat.le_of_ble_eq_true rfl, Nat.le_of_ble_eq_true rfl⟩, _, by rw [e1]; exact T_less (by omega), ?_⟩
      rintro _ _ ⟨rfl, rfl⟩
      refine ⟨Or.inl rfl, ?_⟩
      refine ⟨by first | decide | simp only [wI_M, wI_1, wI_w, b1, r10, r11, r12, r13, r14, b18, r182, k0, k1, k4, q0, q1, kt, kst, k120] <;> first | rfl | decide, ?_⟩
      refine ⟨by simp only [wI_M, wI_1, wI_w, b1, r10, r11, r12, r13, r14, b18, r182, k0, k1, k4, q0, q1, kt, kst, k120] <;> first | rfl | decide, ?_⟩
      refine ⟨⟨Nat.le_of_ble_eq_true rfl, Nat.le_of_ble_eq_true rfl, Nat.le_of_ble_eq_true rfl⟩, by simp only [wI_M, wI_1, wI_w, b1, r10, r11, r12, r13, r14, b18, r182, k0, k1, k4, q0, q1, kt, kst, k120] <;> first | rfl | decide, _, by simp only [r12]; rw [sG_c ht0]; exact T_obeyGroup hOt hI.1 (by omega) (sG_lt _ _), ?_⟩
      rintro _ _ ⟨rfl, rfl⟩
      refine ⟨Or.inl rfl, ?_⟩
      refine ⟨fun h2 => ?_, fun h2 => ?_⟩
      · refine ee_at (nt := nzT 87) [(0, .ref 1), (1, .int (nI m)), (2, .long told), (4, .int (nI (k + 1)))] (S, sO M 11 (gRow τ (sG told f) (sG told f / 1000)), J) rfl (by rw [← nI_1 k]; rfl) rfl ?_
        refine ih (k + 1) _ (BB + 999) (by omega) (gRow_I2 hI hB2 (sG_lt _ _) _) hB1 (fun τ' => ?_)
        have := hQ τ'
        rw [if_neg h2] at this
        exact this
      · (try simp only [Classical.not_not] at h2)
        refine ⟨⟨Nat.zero_le _, Nat.zero_le _⟩, ?_⟩
        have := hQ (gRow τ (sG told f) (sG told f / 1000))
        rw [if_pos h2] at this
        exact this
set_option maxHeartbeats 1000000 in
theorem C_script {d : Nat} {S : Sc} {M : Nat → Nat → Int32} {J : Nat → Nat → Int64} {BB : Nat} (hR : RgS S) (hI : I2 BB (vO M 4)) (hBB : BB < 1000000) {x : Int32} {told : Int64} : Wp (d + 9) 87 [.ref 1, .int x, .long told] (S, M, J) (fun rs w' => ∃ M', w' = (S, M', J) ∧ Jk M M' ∧ rs = cRs (fun c => 0) (aScript (vO M 4) x told)) := by
  obtain ⟨hSt, hO, hOt, ⟨b1, r10, r11, r12, r13, r14⟩, ⟨b18, r182⟩, hH, hV⟩ := id hR
  have k0 : S.2.1 4 = 2 := hO.1.1
  have k1 : S.2.1 5 = 0 := hO.1.2.1
  have k4 : S.2.1 8 = 3 := hO.1.2.2.2.2.1
  have q0 : S.2.2.2 4 0 = 5 := hO.2.1.1
  have q1 : S.2.2.2 4 1 = 8 := hO.2.1.2.1
  have kt : S.2.1 11 = 2 := hOt.1.1
  have kst : S.2.1 2 = 5 := hSt.1
  have k120 : S.2.1 120 = 4 := hV.1
  have v3 : M 4 3 = vO M 4 3 := rfl
  have v4 : M 4 5 = vO M 4 4 := rfl
  have v12 : M 4 4 = vO M 4 12 := rfl
  have v5 : M 4 8 = vO M 4 5 := rfl
  have v13 : M 4 13 = vO M 4 13 := rfl
  have v14 : M 4 14 = vO M 4 14 := rfl
  have v15 : M 4 15 = vO M 4 15 := rfl
  have v16 : M 4 16 = vO M 4 16 := rfl
  have v1 : M 4 2 = vO M 4 1 := rfl
  have v0 : M 5 0 = vO M 4 0 := rfl
  have v17 : M 8 0 = vO M 4 17 := rfl
  have v6 : M 4 6 = vO M 4 6 := rfl
  have v7 : M 4 7 = vO M 4 7 := rfl
  have v8 : M 4 9 = vO M 4 8 := rfl
  have v9 : M 4 10 = vO M 4 9 := rfl
  have v10 : M 4 11 = vO M 4 10 := rfl
  have v11 : M 4 12 = vO M 4 11 := rfl
  have v2 : M 5 1 = vO M 4 2 := rfl
  obtain ⟨n, cur, hn3, hn, hcur, e0, e7⟩ := id hI.1.1
  have hc17 := hI.cnt
  refine ⟨rfl, ?_⟩
  refine EE.runN (stop := atPc [51]) 80 _ ?_
  refine ⟨fun h1 => ?_, fun h1 => ?_⟩
  · refine ⟨Nat.le_of_ble_eq_true rfl, ⟨by omega, Nat.le_of_ble_eq_true rfl, Nat.le_of_ble_eq_true rfl, rfl⟩, M, rfl, Jk.rf M, ?_⟩
    unfold aScript; rw [if_neg (fun h_ => h_.1 h1)]; rfl
  · refine ⟨fun h2 => ?_, fun h2 => ?_⟩
    · refine ⟨Nat.le_of_ble_eq_true rfl, ⟨by omega, Nat.le_of_ble_eq_true rfl, Nat.le_of_ble_eq_true rfl, rfl⟩, M, rfl, Jk.rf M, ?_⟩
      unfold aScript; rw [if_neg (fun h_ => h_.2 h2)]; rfl
    · refine ⟨fun h3 => ?_, fun h3 => ?_⟩
      · have gz : ¬ x < 1 ∧ ¬ 4 < x := ⟨h1, h2⟩
        have g_ := lgl.mp h3
        refine ⟨Nat.le_of_ble_eq_true rfl, ⟨by omega, Nat.le_of_ble_eq_true rfl, Nat.le_of_ble_eq_true rfl, rfl⟩, M, rfl, Jk.rf M, ?_⟩
        unfold aScript; rw [if_pos gz, if_neg (fun h_ => h_.1 g_)]; rfl
      · have gz : ¬ x < 1 ∧ ¬ 4 < x := ⟨h1, h2⟩
        obtain ⟨m, hm1, hm, rfl⟩ := in_nat1 (k := 4) rfl (by omega) gz
        refine ⟨⟨Nat.le_of_ble_eq_true rfl, Nat.le_of_ble_eq_true rfl, Nat.le_of_ble_eq_true rfl⟩, _, T_less (by omega), ?_⟩
        rintro _ _ ⟨rfl, rfl⟩
        refine ⟨Or.inl rfl, ?_⟩
        refine ⟨fun h4 => ?_, fun h4 => ?_⟩
        · refine ⟨by simp only [wI_M, wI_1, wI_w, b1, r10, r11, r12, r13, r14, b18, r182, k0, k1, k4, q0, q1, kt, kst, k120] <;> first | rfl | decide, ?_⟩
          refine ⟨by simp only [wI_M, wI_1, wI_w, b1, r10, r11, r12, r13, r14, b18, r182, k0, k1, k4, q0, q1, kt, kst, k120] <;> first | rfl | decide, ?_⟩
          refine ⟨⟨Nat.le_of_ble_eq_true rfl, Nat.le_of_ble_eq_true rfl, Nat.le_of_ble_eq_true rfl⟩, by simp only [wI_M, wI_1, wI_w, b1, r10, r11, r12, r13, r14, b18, r182, k0, k1, k4, q0, q1, kt, kst, k120] <;> first | rfl | decide, _, by simp only [r11, r12]; exact V_oLike (b := 11) (b2 := 4) hOt hO (Or.inl (by omega)) hI.1.2.1.1 hI.1.2.1.2, ?_⟩
          rintro _ w1 ⟨rfl, hw⟩
          have hw : w1 = (S, sO M 11 (vO M 4), J) := by exact hw
          subst hw
          refine ⟨Or.inl rfl, ?_⟩
          have hr_ : ¬ told < 0 := fun h_ => h3 (lgl.mpr h_)
          have hr2_ := cmp0.mp h4
          refine ee_at (nt := nzT 87) [(0, .ref 1), (1, .int (nI m)), (2, .long told), (4, .int (nI 0))] (S, sO M 11 (vO M 4), J) rfl rfl rfl ?_
          refine L_cscript hR (by omega) hr_ m 0 _ BB (by omega) hI (by omega) (fun τ' => ⟨_, rfl, Jk_sO M _, ?_⟩)
          unfold aScript; rw [if_pos gz, ck (show m < 2147483648 by omega), if_pos ⟨hr_, hr2_⟩]; rfl
        · refine ⟨Nat.le_of_ble_eq_true rfl, ⟨by omega, Nat.le_of_ble_eq_true rfl, Nat.le_of_ble_eq_true rfl, rfl⟩, M, rfl, Jk.rf M, ?_⟩
          unfold aScript; rw [if_pos gz, ck (show m < 2147483648 by omega), if_neg (fun h_ => h4 (cmp0.mpr h_.2))]; rfl
theorem min_9 {a t : Int32} : 10000 * t + (if 9999 < a then 9999 else a) = 10000 * t + (if a ≤ 9999 then a else 9999) := by
  rw [min_w]
set_option maxHeartbeats 1000000 in
theorem C_sim {d : Nat} {S : Sc} {M : Nat → Nat → Int32} {J : Nat → Nat → Int64} {BB : Nat} (hR : RgS S) (hI : I2 BB (vO M 4)) (hBB : BB < 1000000) {x : Int64} {z : Int32} : Wp (d + 9) 88 [.ref 1, .long x, .int z] (S, M, J) (fun rs w' => ∃ M', w' = (S, M', J) ∧ Jk M M' ∧ rs = cRs (fun c => 0) (aSim (vO M 4) x z)) := by
  obtain ⟨hSt, hO, hOt, ⟨b1, r10, r11, r12, r13, r14⟩, ⟨b18, r182⟩, hH, hV⟩ := id hR
  have k0 : S.2.1 4 = 2 := hO.1.1
  have k1 : S.2.1 5 = 0 := hO.1.2.1
  have k4 : S.2.1 8 = 3 := hO.1.2.2.2.2.1
  have q0 : S.2.2.2 4 0 = 5 := hO.2.1.1
  have q1 : S.2.2.2 4 1 = 8 := hO.2.1.2.1
  have kt : S.2.1 11 = 2 := hOt.1.1
  have kst : S.2.1 2 = 5 := hSt.1
  have k120 : S.2.1 120 = 4 := hV.1
  have v3 : M 4 3 = vO M 4 3 := rfl
  have v4 : M 4 5 = vO M 4 4 := rfl
  have v12 : M 4 4 = vO M 4 12 := rfl
  have v5 : M 4 8 = vO M 4 5 := rfl
  have v13 : M 4 13 = vO M 4 13 := rfl
  have v14 : M 4 14 = vO M 4 14 := rfl
  have v15 : M 4 15 = vO M 4 15 := rfl
  have v16 : M 4 16 = vO M 4 16 := rfl
  have v1 : M 4 2 = vO M 4 1 := rfl
  have v0 : M 5 0 = vO M 4 0 := rfl
  have v17 : M 8 0 = vO M 4 17 := rfl
  have v6 : M 4 6 = vO M 4 6 := rfl
  have v7 : M 4 7 = vO M 4 7 := rfl
  have v8 : M 4 9 = vO M 4 8 := rfl
  have v9 : M 4 10 = vO M 4 9 := rfl
  have v10 : M 4 11 = vO M 4 10 := rfl
  have v11 : M 4 12 = vO M 4 11 := rfl
  have v2 : M 5 1 = vO M 4 2 := rfl
  obtain ⟨n, cur, hn3, hn, hcur, e0, e7⟩ := id hI.1.1
  have hc17 := hI.cnt
  refine ⟨rfl, ?_⟩
  refine EE.runN (stop := atPc [39]) 80 _ ?_
  refine ⟨fun h1 => ?_, fun h1 => ?_⟩
  · refine ⟨Nat.le_of_ble_eq_true rfl, ⟨by omega, Nat.le_of_ble_eq_true rfl, Nat.le_of_ble_eq_true rfl, rfl⟩, M, rfl, Jk.rf M, ?_⟩
    unfold aSim; rw [if_neg (fun h_ => h_.1 h1)]; rfl
  · refine ⟨fun h2 => ?_, fun h2 => ?_⟩
    · have gz : ¬ z < 1 ∧ ¬ 99 < z := ⟨h1, c_le.mp h2⟩
      obtain ⟨m, hm1, hm, rfl⟩ := in_nat1 (k := 99) rfl (by omega) gz
      refine ⟨by simp only [wI_M, wI_1, wI_w, b1, r10, r11, r12, r13, r14, b18, r182, k0, k1, k4, q0, q1, kt, kst, k120] <;> first | rfl | decide, ?_⟩
      refine ⟨by simp only [wI_M, wI_1, wI_w, b1, r10, r11, r12, r13, r14, b18, r182, k0, k1, k4, q0, q1, kt, kst, k120] <;> first | rfl | decide, ?_⟩
      refine ⟨⟨Nat.le_of_ble_eq_true rfl, Nat.le_of_ble_eq_true rfl, Nat.le_of_ble_eq_true rfl⟩, by simp only [wI_M, wI_1, wI_w, b1, r10, r11, r12, r13, r14, b18, r182, k0, k1, k4, q0, q1, kt, kst, k120] <;> first | rfl | decide, _, by simp only [r11, r12]; exact V_oLike (b := 11) (b2 := 4) hOt hO (Or.inl (by omega)) hI.1.2.1.1 hI.1.2.1.2, ?_⟩
      rintro _ w1 ⟨rfl, hw⟩
      have hw : w1 = (S, sO M 11 (vO M 4), J) := by exact hw
      subst hw
      refine ⟨Or.inl rfl, ?_⟩
      refine ee_at (nt := nzT 88) [(0, .ref 1), (1, .long x), (3, .int (nI m)), (4, .long (sXs x (0))), (6, .int (nI (0)))] (S, sO M 11 (sRow x (vO M 4) (0)), J) rfl (by rfl) (by rfl) ?_
      refine ee_loop (fun k => (39, [(0, .ref 1), (1, .long x), (3, .int (nI m)), (4, .long (sXs x (k))), (6, .int (nI (k)))], [], (S, sO M 11 (sRow x (vO M 4) (k)), J), 0, 0)) (m) (fun k h_k ih_k => ?_) ?_
      · refine EE.runN (stop := atPc [39]) 80 _ ?_
        have hk1 := sRow_I2 (x := x) hI k (by omega)
        refine ⟨fun h3 => ?_, fun h3 => ?_⟩
        · exact absurd h3 (nI_ge h_k (by omega))
        · refine ⟨by simp only [wI_M, wI_1, wI_w, b1, r10, r11, r12, r13, r14, b18, r182, k0, k1, k4, q0, q1, kt, kst, k120] <;> first | rfl | decide, ?_⟩
          refine ⟨⟨Nat.le_of_ble_eq_true rfl, Nat.le_of_ble_eq_true rfl, Nat.le_of_ble_eq_true rfl⟩, by simp only [wI_M, wI_1, wI_w, b1, r10, r11, r12, r13, r14, b18, r182, k0, k1, k4, q0, q1, kt, kst, k120] <;> first | rfl | decide, _, by simp only [sQ_e, r12]; exact T_round hOt (q := sQ (sXs x (k + 1))) hk1.1 (by omega) (sQ_lt _), ?_⟩
          rintro _ w1 ⟨rfl, hw⟩
          have hw : w1 = (S, sO M 11 (sRow x (vO M 4) (k + 1)), J) := by exact hw
          subst hw
          refine ⟨Or.inl rfl, ?_⟩
          refine ee_at (nt := nzT 88) [(0, .ref 1), (1, .long x), (3, .int (nI m)), (4, .long (sXs x ((k + 1)))), (6, .int (nI ((k + 1))))] (S, sO M 11 (sRow x (vO M 4) ((k + 1))), J) rfl (by rw [← nI_1 k]; rfl) (by rfl) ?_
          exact ih_k
      · refine EE.runN (stop := atPc [39]) 80 _ ?_
        refine ⟨fun h4 => ?_, fun h4 => ?_⟩
        · refine ⟨by simp only [wI_M, wI_1, wI_w, b1, r10, r11, r12, r13, r14, b18, r182, k0, k1, k4, q0, q1, kt, kst, k120] <;> first | rfl | decide, ?_⟩
          refine ⟨by simp only [wI_M, wI_1, wI_w, b1, r10, r11, r12, r13, r14, b18, r182, k0, k1, k4, q0, q1, kt, kst, k120] <;> first | rfl | decide, ?_⟩
          refine ⟨fun h5 => ?_, fun h5 => ?_⟩
          · refine ⟨by simp only [wI_M, wI_1, wI_w, b1, r10, r11, r12, r13, r14, b18, r182, k0, k1, k4, q0, q1, kt, kst, k120] <;> first | rfl | decide, ?_⟩
            refine ⟨by simp only [wI_M, wI_1, wI_w, b1, r10, r11, r12, r13, r14, b18, r182, k0, k1, k4, q0, q1, kt, kst, k120] <;> first | rfl | decide, ?_⟩
            refine ⟨by simp only [wI_M, wI_1, wI_w, b1, r10, r11, r12, r13, r14, b18, r182, k0, k1, k4, q0, q1, kt, kst, k120] <;> first | rfl | decide, ?_⟩
            refine ⟨by simp only [wI_M, wI_1, wI_w, b1, r10, r11, r12, r13, r14, b18, r182, k0, k1, k4, q0, q1, kt, kst, k120] <;> first | rfl | decide, ?_⟩
            refine ⟨by simp only [wI_M, wI_1, wI_w, b1, r10, r11, r12, r13, r14, b18, r182, k0, k1, k4, q0, q1, kt, kst, k120] <;> first | rfl | decide, ?_⟩
            refine ⟨by simp only [wI_M, wI_1, wI_w, b1, r10, r11, r12, r13, r14, b18, r182, k0, k1, k4, q0, q1, kt, kst, k120] <;> first | rfl | decide, ?_⟩
            refine ⟨by simp only [wI_M, wI_1, wI_w, b1, r10, r11, r12, r13, r14, b18, r182, k0, k1, k4, q0, q1, kt, kst, k120] <;> first | rfl | decide, ?_⟩
            refine ⟨by simp only [wI_M, wI_1, wI_w, b1, r10, r11, r12, r13, r14, b18, r182, k0, k1, k4, q0, q1, kt, kst, k120] <;> first | rfl | decide, ?_⟩
            refine ⟨⟨Nat.le_of_ble_eq_true rfl, Nat.zero_le _, Nat.zero_le _⟩, ?_⟩
            have g_ := h5
            simp only [wI_M, wI_1, wI_w, b1, r10, r11, r12, r13, r14, b18, r182, k0, k1, k4, q0, q1, kt, kst, k120, rd0_3, rd0_5, rd0_8, rd0_2, rd0_11, bI_e0, Classical.not_not] at g_
            have er : rRd1 (sRow x (vO M 4) m) = sRow x (vO M 4) m := if_neg g_
            refine ⟨⟨Nat.zero_le _, Nat.zero_le _⟩, _, rfl, Jk_sO M _, ?_⟩
            unfold aSim; rw [if_pos gz, ck (show m < 2147483648 by omega)]
            refine congrArg (fun v => Sum.inl (some (Value.int v))) ?_
            unfold vSim; rw [er]
            simp only [wI_M, wI_1, wI_w, b1, r10, r11, r12, r13, r14, b18, r182, k0, k1, k4, q0, q1, kt, kst, k120, rd4_11, rd0_8, rd0_5, rd0_3]
            rw [min_9]
            rfl
          · refine ⟨by simp only [wI_M, wI_1, wI_w, b1, r10, r11, r12, r13, r14, b18, r182, k0, k1, k4, q0, q1, kt, kst, k120] <;> first | rfl | decide, ?_⟩
            refine ⟨⟨Nat.le_of_ble_eq_true rfl, Nat.le_of_ble_eq_true rfl, Nat.le_of_ble_eq_true rfl⟩, by simp only [wI_M, wI_1, wI_w, b1, r10, r11, r12, r13, r14, b18, r182, k0, k1, k4, q0, q1, kt, kst, k120] <;> first | rfl | decide, _, by simp only [r12]; exact T_switchOn hOt (sRow_I2 (x := x) hI m (by omega)).1 (by omega), ?_⟩
            rintro _ w1 ⟨rfl, hw⟩
            have hw : w1 = (S, sO M 11 (rPower (sRow x (vO M 4) m)), J) := by exact hw
            subst hw
            refine ⟨Or.inl rfl, ?_⟩
            refine ⟨by simp only [wI_M, wI_1, wI_w, b1, r10, r11, r12, r13, r14, b18, r182, k0, k1, k4, q0, q1, kt, kst, k120] <;> first | rfl | decide, ?_⟩
            refine ⟨by simp only [wI_M, wI_1, wI_w, b1, r10, r11, r12, r13, r14, b18, r182, k0, k1, k4, q0, q1, kt, kst, k120] <;> first | rfl | decide, ?_⟩
            refine ⟨by simp only [wI_M, wI_1, wI_w, b1, r10, r11, r12, r13, r14, b18, r182, k0, k1, k4, q0, q1, kt, kst, k120] <;> first | rfl | decide, ?_⟩
            refine ⟨by simp only [wI_M, wI_1, wI_w, b1, r10, r11, r12, r13, r14, b18, r182, k0, k1, k4, q0, q1, kt, kst, k120] <;> first | rfl | decide, ?_⟩
            refine ⟨by simp only [wI_M, wI_1, wI_w, b1, r10, r11, r12, r13, r14, b18, r182, k0, k1, k4, q0, q1, kt, kst, k120] <;> first | rfl | decide, ?_⟩
            refine ⟨by simp only [wI_M, wI_1, wI_w, b1, r10, r11, r12, r13, r14, b18, r182, k0, k1, k4, q0, q1, kt, kst, k120] <;> first | rfl | decide, ?_⟩
            refine ⟨by simp only [wI_M, wI_1, wI_w, b1, r10, r11, r12, r13, r14, b18, r182, k0, k1, k4, q0, q1, kt, kst, k120] <;> first | rfl | decide, ?_⟩
            refine ⟨by simp only [wI_M, wI_1, wI_w, b1, r10, r11, r12, r13, r14, b18, r182, k0, k1, k4, q0, q1, kt, kst, k120] <;> first | rfl | decide, ?_⟩
            refine ⟨⟨Nat.le_of_ble_eq_true rfl, Nat.zero_le _, Nat.zero_le _⟩, ?_⟩
            have g_ := h5
            simp only [wI_M, wI_1, wI_w, b1, r10, r11, r12, r13, r14, b18, r182, k0, k1, k4, q0, q1, kt, kst, k120, rd0_3, rd0_5, rd0_8, rd0_2, rd0_11, bI_e0, Classical.not_not] at g_
            have er : rRd1 (sRow x (vO M 4) m) = rPower (sRow x (vO M 4) m) := if_pos g_
            refine ⟨⟨Nat.zero_le _, Nat.zero_le _⟩, _, rfl, Jk_sO M _, ?_⟩
            unfold aSim; rw [if_pos gz, ck (show m < 2147483648 by omega)]
            refine congrArg (fun v => Sum.inl (some (Value.int v))) ?_
            unfold vSim; rw [er]
            simp only [wI_M, wI_1, wI_w, b1, r10, r11, r12, r13, r14, b18, r182, k0, k1, k4, q0, q1, kt, kst, k120, rd4_11, rd0_8, rd0_5, rd0_3]
            rw [min_9]
            rfl
        · exact absurd (nI_le (Nat.le_refl m) (by omega)) h4
    · refine ⟨Nat.le_of_ble_eq_true rfl, ⟨by omega, Nat.le_of_ble_eq_true rfl, Nat.le_of_ble_eq_true rfl, rfl⟩, M, rfl, Jk.rf M, ?_⟩
      unfold aSim; rw [if_neg (fun h_ => h_.2 (Int32.not_le.mp h2))]; rfl
