/-! THE CLASS: questions: written by wip/whole/pure3.py -/
def cRs (E : Nat → Nat) (a : Nat × Int32) : Res := if a.1 = 0 then .inl (some (.int a.2)) else .inr (excN (E a.1))
theorem c_lt {x : Int32} {k : Nat} (hk : k < 1000000) : x < nI (k + 1) ↔ ¬ nI k < x := by
  rw [Int32.lt_iff_toInt_lt, Int32.lt_iff_toInt_lt, nI_toInt (by omega), nI_toInt (by omega)]
  omega
theorem c_le {x y : Int32} : x ≤ y ↔ ¬ y < x := Int32.not_lt.symm
set_option maxHeartbeats 1000000 in
theorem C_says {d : Nat} {S : Sc} {M : Nat → Nat → Int32} {J : Nat → Nat → Int64} {BB : Nat} (hR : RgS S) (hI : I2 BB (vO M 4)) {x : Int32} : Wp (d + 9) 69 [.ref 1, .int x] (S, M, J) (fun rs w' => ∃ M', w' = (S, M', J) ∧ Jk M M' ∧ rs = cRs (fun c => 2) (aSays (vO M 4) (vO M 4 0).toNatClampNeg x)) := by
  obtain ⟨hSt, hO, hOt, ⟨b1, r10, r11, r12, r13, r14⟩, ⟨b18, r182⟩, hH, hV⟩ := id hR
  have k0 : S.2.1 4 = 2 := hO.1.1
  have k1 : S.2.1 5 = 0 := hO.1.2.1
  have k4 : S.2.1 8 = 3 := hO.1.2.2.2.2.1
  have q0 : S.2.2.2 4 0 = 5 := hO.2.1.1
  have q1 : S.2.2.2 4 1 = 8 := hO.2.1.2.1
  have kt : S.2.1 11 = 2 := hOt.1.1
  have kst : S.2.1 2 = 5 := hSt.1
  have k120 : S.2.1 120 = 4 := hV.1
  have v3 : M 4 3 = vO M 4 3 := rfl
  have v4 : M 4 5 = vO M 4 4 := rfl
  have v12 : M 4 4 = vO M 4 12 := rfl
  have v5 : M 4 8 = vO M 4 5 := rfl
  have v13 : M 4 13 = vO M 4 13 := rfl
  have v14 : M 4 14 = vO M 4 14 := rfl
  have v15 : M 4 15 = vO M 4 15 := rfl
  have v16 : M 4 16 = vO M 4 16 := rfl
  have v1 : M 4 2 = vO M 4 1 := rfl
  have v0 : M 5 0 = vO M 4 0 := rfl
  have v17 : M 8 0 = vO M 4 17 := rfl
  have v6 : M 4 6 = vO M 4 6 := rfl
  have v7 : M 4 7 = vO M 4 7 := rfl
  have v8 : M 4 9 = vO M 4 8 := rfl
  have v9 : M 4 10 = vO M 4 9 := rfl
  have v10 : M 4 11 = vO M 4 10 := rfl
  have v11 : M 4 12 = vO M 4 11 := rfl
  have v2 : M 5 1 = vO M 4 2 := rfl
  obtain ⟨n, cur, hn3, hn, hcur, e0, e7⟩ := id hI.1.1
  have hc17 := hI.cnt
  have ez : (vO M 4 0).toNatClampNeg = n := by rw [e0, ck (by omega)]
  rw [ez]
  refine ⟨rfl, ?_⟩
  refine EE.runN (stop := noStop) 80 _ ?_
  refine ⟨by simp only [wI_M, wI_1, wI_w, b1, r10, r11, r12, r13, r14, b18, r182, k0, k1, k4, q0, q1, kt, kst, k120] <;> first | rfl | decide, ?_⟩
  refine ⟨by simp only [wI_M, wI_1, wI_w, b1, r10, r11, r12, r13, r14, b18, r182, k0, k1, k4, q0, q1, kt, kst, k120] <;> first | rfl | decide, ?_⟩
  refine ⟨⟨Nat.le_of_ble_eq_true rfl, Nat.le_of_ble_eq_true rfl, Nat.le_of_ble_eq_true rfl⟩, by simp only [wI_M, wI_1, wI_w, b1, r10, r11, r12, r13, r14, b18, r182, k0, k1, k4, q0, q1, kt, kst, k120] <;> first | rfl | decide, _, by simp only [wI_M, wI_1, wI_w, b1, r10, r11, r12, r13, r14, b18, r182, k0, k1, k4, q0, q1, kt, kst, k120]; exact V_hasSlot (b := 4) (o := 5) hO rfl, ?_⟩
  rintro _ _ ⟨rfl, rfl⟩
  refine ⟨Or.inl rfl, ?_⟩
  refine ⟨fun h1 => ?_, fun h1 => ?_⟩
  · have g_ := h1
    simp only [wI_M, wI_1, wI_w, b1, r10, r11, r12, r13, r14, b18, r182, k0, k1, k4, q0, q1, kt, kst, k120, v3, v4, v12, v5, v13, v14, v15, v16, v1, v0, v17, v6, v7, v8, v9, v10, v11, v2, bI_e0, Classical.not_not] at g_
    rw [e0] at g_
    obtain ⟨q, hq, rfl⟩ := in_nat' (by omega) g_
    refine ⟨by simp only [wI_M, wI_1, wI_w, b1, r10, r11, r12, r13, r14, b18, r182, k0, k1, k4, q0, q1, kt, kst, k120] <;> first | rfl | decide, ?_⟩
    refine ⟨by simp only [wI_M, wI_1, wI_w, b1, r10, r11, r12, r13, r14, b18, r182, k0, k1, k4, q0, q1, kt, kst, k120] <;> first | rfl | decide, ?_⟩
    refine ⟨⟨Nat.le_of_ble_eq_true rfl, Nat.le_of_ble_eq_true rfl, Nat.le_of_ble_eq_true rfl⟩, by simp only [wI_M, wI_1, wI_w, b1, r10, r11, r12, r13, r14, b18, r182, k0, k1, k4, q0, q1, kt, kst, k120] <;> first | rfl | decide, _, by simp only [wI_M, wI_1, wI_w, b1, r10, r11, r12, r13, r14, b18, r182, k0, k1, k4, q0, q1, kt, kst, k120]; exact V_spokenBy (b := 4) (o := 5) hO rfl (by omega), ?_⟩
    rintro _ _ ⟨rfl, rfl⟩
    refine ⟨Or.inl rfl, ?_⟩
    (try simp only [wI_M, wI_1, wI_w, b1, r10, r11, r12, r13, r14, b18, r182, k0, k1, k4, q0, q1, kt, kst, k120, v3, v4, v12, v5, v13, v14, v15, v16, v1, v0, v17, v6, v7, v8, v9, v10, v11, v2, bI_e0, Classical.not_not] at h1)
    rw [e0] at h1
    refine ⟨⟨Nat.zero_le _, Nat.zero_le _⟩, M, rfl, Jk.rf M, ?_⟩
    unfold aSays; rw [if_pos h1]
    refine congrArg (fun v => Sum.inl (some (Value.int v))) ?_
    rw [ck (show q < 2147483648 by omega)]
  · (try simp only [wI_M, wI_1, wI_w, b1, r10, r11, r12, r13, r14, b18, r182, k0, k1, k4, q0, q1, kt, kst, k120, v3, v4, v12, v5, v13, v14, v15, v16, v1, v0, v17, v6, v7, v8, v9, v10, v11, v2, bI_e0, Classical.not_not] at h1)
    rw [e0] at h1
    refine ⟨Nat.le_of_ble_eq_true rfl, ⟨by omega, Nat.le_of_ble_eq_true rfl, Nat.le_of_ble_eq_true rfl, rfl⟩, M, rfl, Jk.rf M, ?_⟩
    unfold aSays; rw [if_neg h1]; rfl
set_option maxHeartbeats 1000000 in
theorem C_why {d : Nat} {S : Sc} {M : Nat → Nat → Int32} {J : Nat → Nat → Int64} {BB : Nat} (hR : RgS S) (hI : I2 BB (vO M 4)) {x : Int32} : Wp (d + 9) 70 [.ref 1, .int x] (S, M, J) (fun rs w' => ∃ M', w' = (S, M', J) ∧ Jk M M' ∧ rs = cRs (fun c => 2) (aWhy (vO M 4) (vO M 4 0).toNatClampNeg x)) := by
  obtain ⟨hSt, hO, hOt, ⟨b1, r10, r11, r12, r13, r14⟩, ⟨b18, r182⟩, hH, hV⟩ := id hR
  have k0 : S.2.1 4 = 2 := hO.1.1
  have k1 : S.2.1 5 = 0 := hO.1.2.1
  have k4 : S.2.1 8 = 3 := hO.1.2.2.2.2.1
  have q0 : S.2.2.2 4 0 = 5 := hO.2.1.1
  have q1 : S.2.2.2 4 1 = 8 := hO.2.1.2.1
  have kt : S.2.1 11 = 2 := hOt.1.1
  have kst : S.2.1 2 = 5 := hSt.1
  have k120 : S.2.1 120 = 4 := hV.1
  have v3 : M 4 3 = vO M 4 3 := rfl
  have v4 : M 4 5 = vO M 4 4 := rfl
  have v12 : M 4 4 = vO M 4 12 := rfl
  have v5 : M 4 8 = vO M 4 5 := rfl
  have v13 : M 4 13 = vO M 4 13 := rfl
  have v14 : M 4 14 = vO M 4 14 := rfl
  have v15 : M 4 15 = vO M 4 15 := rfl
  have v16 : M 4 16 = vO M 4 16 := rfl
  have v1 : M 4 2 = vO M 4 1 := rfl
  have v0 : M 5 0 = vO M 4 0 := rfl
  have v17 : M 8 0 = vO M 4 17 := rfl
  have v6 : M 4 6 = vO M 4 6 := rfl
  have v7 : M 4 7 = vO M 4 7 := rfl
  have v8 : M 4 9 = vO M 4 8 := rfl
  have v9 : M 4 10 = vO M 4 9 := rfl
  have v10 : M 4 11 = vO M 4 10 := rfl
  have v11 : M 4 12 = vO M 4 11 := rfl
  have v2 : M 5 1 = vO M 4 2 := rfl
  obtain ⟨n, cur, hn3, hn, hcur, e0, e7⟩ := id hI.1.1
  have hc17 := hI.cnt
  have ez : (vO M 4 0).toNatClampNeg = n := by rw [e0, ck (by omega)]
  rw [ez]
  refine ⟨rfl, ?_⟩
  refine EE.runN (stop := noStop) 80 _ ?_
  refine ⟨by simp only [wI_M, wI_1, wI_w, b1, r10, r11, r12, r13, r14, b18, r182, k0, k1, k4, q0, q1, kt, kst, k120] <;> first | rfl | decide, ?_⟩
  refine ⟨by simp only [wI_M, wI_1, wI_w, b1, r10, r11, r12, r13, r14, b18, r182, k0, k1, k4, q0, q1, kt, kst, k120] <;> first | rfl | decide, ?_⟩
  refine ⟨⟨Nat.le_of_ble_eq_true rfl, Nat.le_of_ble_eq_true rfl, Nat.le_of_ble_eq_true rfl⟩, by simp only [wI_M, wI_1, wI_w, b1, r10, r11, r12, r13, r14, b18, r182, k0, k1, k4, q0, q1, kt, kst, k120] <;> first | rfl | decide, _, by simp only [wI_M, wI_1, wI_w, b1, r10, r11, r12, r13, r14, b18, r182, k0, k1, k4, q0, q1, kt, kst, k120]; exact V_hasSlot (b := 4) (o := 5) hO rfl, ?_⟩
  rintro _ _ ⟨rfl, rfl⟩
  refine ⟨Or.inl rfl, ?_⟩
  refine ⟨fun h1 => ?_, fun h1 => ?_⟩
  · have g_ := h1
    simp only [wI_M, wI_1, wI_w, b1, r10, r11, r12, r13, r14, b18, r182, k0, k1, k4, q0, q1, kt, kst, k120, v3, v4, v12, v5, v13, v14, v15, v16, v1, v0, v17, v6, v7, v8, v9, v10, v11, v2, bI_e0, Classical.not_not] at g_
    rw [e0] at g_
    obtain ⟨q, hq, rfl⟩ := in_nat' (by omega) g_
    refine ⟨by simp only [wI_M, wI_1, wI_w, b1, r10, r11, r12, r13, r14, b18, r182, k0, k1, k4, q0, q1, kt, kst, k120] <;> first | rfl | decide, ?_⟩
    refine ⟨by simp only [wI_M, wI_1, wI_w, b1, r10, r11, r12, r13, r14, b18, r182, k0, k1, k4, q0, q1, kt, kst, k120] <;> first | rfl | decide, ?_⟩
    refine ⟨⟨Nat.le_of_ble_eq_true rfl, Nat.le_of_ble_eq_true rfl, Nat.le_of_ble_eq_true rfl⟩, by simp only [wI_M, wI_1, wI_w, b1, r10, r11, r12, r13, r14, b18, r182, k0, k1, k4, q0, q1, kt, kst, k120] <;> first | rfl | decide, _, by simp only [wI_M, wI_1, wI_w, b1, r10, r11, r12, r13, r14, b18, r182, k0, k1, k4, q0, q1, kt, kst, k120]; exact V_spokenBy (b := 4) (o := 5) hO rfl (by omega), ?_⟩
    rintro _ _ ⟨rfl, rfl⟩
    refine ⟨Or.inl rfl, ?_⟩
    refine ⟨fun h2 => ?_, fun h2 => ?_⟩
    · refine ⟨by simp only [wI_M, wI_1, wI_w, b1, r10, r11, r12, r13, r14, b18, r182, k0, k1, k4, q0, q1, kt, kst, k120] <;> first | rfl | decide, ?_⟩
      refine ⟨by simp only [wI_M, wI_1, wI_w, b1, r10, r11, r12, r13, r14, b18, r182, k0, k1, k4, q0, q1, kt, kst, k120] <;> first | rfl | decide, ?_⟩
      refine ⟨⟨Nat.le_of_ble_eq_true rfl, Nat.le_of_ble_eq_true rfl, Nat.le_of_ble_eq_true rfl⟩, by simp only [wI_M, wI_1, wI_w, b1, r10, r11, r12, r13, r14, b18, r182, k0, k1, k4, q0, q1, kt, kst, k120] <;> first | rfl | decide, _, by simp only [wI_M, wI_1, wI_w, b1, r10, r11, r12, r13, r14, b18, r182, k0, k1, k4, q0, q1, kt, kst, k120]; exact V_readableIn (b := 4) (o := 5) hO rfl (by omega), ?_⟩
      rintro _ _ ⟨rfl, rfl⟩
      refine ⟨Or.inl rfl, ?_⟩
      refine ⟨fun h3 => ?_, fun h3 => ?_⟩
      · (try simp only [wI_M, wI_1, wI_w, b1, r10, r11, r12, r13, r14, b18, r182, k0, k1, k4, q0, q1, kt, kst, k120, v3, v4, v12, v5, v13, v14, v15, v16, v1, v0, v17, v6, v7, v8, v9, v10, v11, v2, bI_e0, Classical.not_not] at h1)
        (try simp only [wI_M, wI_1, wI_w, b1, r10, r11, r12, r13, r14, b18, r182, k0, k1, k4, q0, q1, kt, kst, k120, v3, v4, v12, v5, v13, v14, v15, v16, v1, v0, v17, v6, v7, v8, v9, v10, v11, v2, bI_e0, Classical.not_not] at h2)
        (try simp only [wI_M, wI_1, wI_w, b1, r10, r11, r12, r13, r14, b18, r182, k0, k1, k4, q0, q1, kt, kst, k120, v3, v4, v12, v5, v13, v14, v15, v16, v1, v0, v17, v6, v7, v8, v9, v10, v11, v2, bI_e0, Classical.not_not] at h3)
        rw [e0] at h1
        refine ⟨⟨Nat.zero_le _, Nat.zero_le _⟩, M, rfl, Jk.rf M, ?_⟩
        unfold aWhy; rw [if_pos h1, ck (show q < 2147483648 by omega), if_pos h2, if_pos h3]
        refine congrArg (fun v => Sum.inl (some (Value.int v))) ?_
        rfl
      · (try simp only [wI_M, wI_1, wI_w, b1, r10, r11, r12, r13, r14, b18, r182, k0, k1, k4, q0, q1, kt, kst, k120, v3, v4, v12, v5, v13, v14, v15, v16, v1, v0, v17, v6, v7, v8, v9, v10, v11, v2, bI_e0, Classical.not_not] at h1)
        (try simp only [wI_M, wI_1, wI_w, b1, r10, r11, r12, r13, r14, b18, r182, k0, k1, k4, q0, q1, kt, kst, k120, v3, v4, v12, v5, v13, v14, v15, v16, v1, v0, v17, v6, v7, v8, v9, v10, v11, v2, bI_e0, Classical.not_not] at h2)
        (try simp only [wI_M, wI_1, wI_w, b1, r10, r11, r12, r13, r14, b18, r182, k0, k1, k4, q0, q1, kt, kst, k120, v3, v4, v12, v5, v13, v14, v15, v16, v1, v0, v17, v6, v7, v8, v9, v10, v11, v2, bI_e0, Classical.not_not] at h3)
        rw [e0] at h1
        refine ⟨⟨Nat.zero_le _, Nat.zero_le _⟩, M, rfl, Jk.rf M, ?_⟩
        unfold aWhy; rw [if_pos h1, ck (show q < 2147483648 by omega), if_pos h2, if_neg h3]
        refine congrArg (fun v => Sum.inl (some (Value.int v))) ?_
        rfl
    · (try simp only [wI_M, wI_1, wI_w, b1, r10, r11, r12, r13, r14, b18, r182, k0, k1, k4, q0, q1, kt, kst, k120, v3, v4, v12, v5, v13, v14, v15, v16, v1, v0, v17, v6, v7, v8, v9, v10, v11, v2, bI_e0, Classical.not_not] at h1)
      (try simp only [wI_M, wI_1, wI_w, b1, r10, r11, r12, r13, r14, b18, r182, k0, k1, k4, q0, q1, kt, kst, k120, v3, v4, v12, v5, v13, v14, v15, v16, v1, v0, v17, v6, v7, v8, v9, v10, v11, v2, bI_e0, Classical.not_not] at h2)
      rw [e0] at h1
      refine ⟨⟨Nat.zero_le _, Nat.zero_le _⟩, M, rfl, Jk.rf M, ?_⟩
      unfold aWhy; rw [if_pos h1, ck (show q < 2147483648 by omega), if_neg h2]
      refine congrArg (fun v => Sum.inl (some (Value.int v))) ?_
      rfl
  · (try simp only [wI_M, wI_1, wI_w, b1, r10, r11, r12, r13, r14, b18, r182, k0, k1, k4, q0, q1, kt, kst, k120, v3, v4, v12, v5, v13, v14, v15, v16, v1, v0, v17, v6, v7, v8, v9, v10, v11, v2, bI_e0, Classical.not_not] at h1)
    rw [e0] at h1
    refine ⟨Nat.le_of_ble_eq_true rfl, ⟨by omega, Nat.le_of_ble_eq_true rfl, Nat.le_of_ble_eq_true rfl, rfl⟩, M, rfl, Jk.rf M, ?_⟩
    unfold aWhy; rw [if_neg h1]; rfl
set_option maxHeartbeats 1000000 in
theorem C_share {d : Nat} {S : Sc} {M : Nat → Nat → Int32} {J : Nat → Nat → Int64} {BB : Nat} (hR : RgS S) (hI : I2 BB (vO M 4)) {x : Int32} : Wp (d + 9) 71 [.ref 1, .int x] (S, M, J) (fun rs w' => ∃ M', w' = (S, M', J) ∧ Jk M M' ∧ rs = cRs (fun c => 2) (aShare (vO M 4) (vO M 4 0).toNatClampNeg x)) := by
  obtain ⟨hSt, hO, hOt, ⟨b1, r10, r11, r12, r13, r14⟩, ⟨b18, r182⟩, hH, hV⟩ := id hR
  have k0 : S.2.1 4 = 2 := hO.1.1
  have k1 : S.2.1 5 = 0 := hO.1.2.1
  have k4 : S.2.1 8 = 3 := hO.1.2.2.2.2.1
  have q0 : S.2.2.2 4 0 = 5 := hO.2.1.1
  have q1 : S.2.2.2 4 1 = 8 := hO.2.1.2.1
  have kt : S.2.1 11 = 2 := hOt.1.1
  have kst : S.2.1 2 = 5 := hSt.1
  have k120 : S.2.1 120 = 4 := hV.1
  have v3 : M 4 3 = vO M 4 3 := rfl
  have v4 : M 4 5 = vO M 4 4 := rfl
  have v12 : M 4 4 = vO M 4 12 := rfl
  have v5 : M 4 8 = vO M 4 5 := rfl
  have v13 : M 4 13 = vO M 4 13 := rfl
  have v14 : M 4 14 = vO M 4 14 := rfl
  have v15 : M 4 15 = vO M 4 15 := rfl
  have v16 : M 4 16 = vO M 4 16 := rfl
  have v1 : M 4 2 = vO M 4 1 := rfl
  have v0 : M 5 0 = vO M 4 0 := rfl
  have v17 : M 8 0 = vO M 4 17 := rfl
  have v6 : M 4 6 = vO M 4 6 := rfl
  have v7 : M 4 7 = vO M 4 7 := rfl
  have v8 : M 4 9 = vO M 4 8 := rfl
  have v9 : M 4 10 = vO M 4 9 := rfl
  have v10 : M 4 11 = vO M 4 10 := rfl
  have v11 : M 4 12 = vO M 4 11 := rfl
  have v2 : M 5 1 = vO M 4 2 := rfl
  obtain ⟨n, cur, hn3, hn, hcur, e0, e7⟩ := id hI.1.1
  have hc17 := hI.cnt
  have ez : (vO M 4 0).toNatClampNeg = n := by rw [e0, ck (by omega)]
  rw [ez]
  refine ⟨rfl, ?_⟩
  refine EE.runN (stop := atPc [28]) 80 _ ?_
  refine ⟨by simp only [wI_M, wI_1, wI_w, b1, r10, r11, r12, r13, r14, b18, r182, k0, k1, k4, q0, q1, kt, kst, k120] <;> first | rfl | decide, ?_⟩
  refine ⟨by simp only [wI_M, wI_1, wI_w, b1, r10, r11, r12, r13, r14, b18, r182, k0, k1, k4, q0, q1, kt, kst, k120] <;> first | rfl | decide, ?_⟩
  refine ⟨⟨Nat.le_of_ble_eq_true rfl, Nat.le_of_ble_eq_true rfl, Nat.le_of_ble_eq_true rfl⟩, by simp only [wI_M, wI_1, wI_w, b1, r10, r11, r12, r13, r14, b18, r182, k0, k1, k4, q0, q1, kt, kst, k120] <;> first | rfl | decide, _, by simp only [wI_M, wI_1, wI_w, b1, r10, r11, r12, r13, r14, b18, r182, k0, k1, k4, q0, q1, kt, kst, k120]; exact V_hasSlot (b := 4) (o := 5) hO rfl, ?_⟩
  rintro _ _ ⟨rfl, rfl⟩
  refine ⟨Or.inl rfl, ?_⟩
  refine ⟨fun h1 => ?_, fun h1 => ?_⟩
  · have g_ := h1
    simp only [wI_M, wI_1, wI_w, b1, r10, r11, r12, r13, r14, b18, r182, k0, k1, k4, q0, q1, kt, kst, k120, v3, v4, v12, v5, v13, v14, v15, v16, v1, v0, v17, v6, v7, v8, v9, v10, v11, v2, bI_e0, Classical.not_not] at g_
    rw [e0] at g_
    obtain ⟨q, hq, rfl⟩ := in_nat' (by omega) g_
    refine ee_at (nt := nzT 71) [(0, .ref 1), (1, .int (nI q)), (2, .int (rAll (vO M 4) (0))), (3, .int (nI (0)))] (S, M, J) rfl (by rfl) (by rfl) ?_
    refine ee_loop (fun k => (28, [(0, .ref 1), (1, .int (nI q)), (2, .int (rAll (vO M 4) (k))), (3, .int (nI (k)))], [], (S, M, J), 0, 0)) (n) (fun k h_k ih_k => ?_) ?_
    · refine EE.runN (stop := atPc [28]) 80 _ ?_
      refine ⟨by simp only [wI_M, wI_1, wI_w, b1, r10, r11, r12, r13, r14, b18, r182, k0, k1, k4, q0, q1, kt, kst, k120] <;> first | rfl | decide, ?_⟩
      refine ⟨by simp only [wI_M, wI_1, wI_w, b1, r10, r11, r12, r13, r14, b18, r182, k0, k1, k4, q0, q1, kt, kst, k120] <;> first | rfl | decide, ?_⟩
      refine ⟨by simp only [wI_M, wI_1, wI_w, b1, r10, r11, r12, r13, r14, b18, r182, k0, k1, k4, q0, q1, kt, kst, k120] <;> first | rfl | decide, ?_⟩
      refine ⟨fun h2 => ?_, fun h2 => ?_⟩
      · (simp only [wI_M, wI_1, wI_w, b1, r10, r11, r12, r13, r14, b18, r182, k0, k1, k4, q0, q1, kt, kst, k120, v3, v4, v12, v5, v13, v14, v15, v16, v1, v0, v17, v6, v7, v8, v9, v10, v11, v2, bI_e0, Classical.not_not, e0] at h2; exact absurd h2 (nI_ge h_k (by omega)))
      · refine ⟨by simp only [wI_M, wI_1, wI_w, b1, r10, r11, r12, r13, r14, b18, r182, k0, k1, k4, q0, q1, kt, kst, k120] <;> first | rfl | decide, ?_⟩
        refine ⟨by simp only [wI_M, wI_1, wI_w, b1, r10, r11, r12, r13, r14, b18, r182, k0, k1, k4, q0, q1, kt, kst, k120] <;> first | rfl | decide, ?_⟩
        refine ⟨⟨Nat.le_of_ble_eq_true rfl, Nat.le_of_ble_eq_true rfl, Nat.le_of_ble_eq_true rfl⟩, by simp only [wI_M, wI_1, wI_w, b1, r10, r11, r12, r13, r14, b18, r182, k0, k1, k4, q0, q1, kt, kst, k120] <;> first | rfl | decide, _, by simp only [wI_M, wI_1, wI_w, b1, r10, r11, r12, r13, r14, b18, r182, k0, k1, k4, q0, q1, kt, kst, k120]; exact V_wearOfSlot (b := 4) (o := 5) hO rfl (by omega), ?_⟩
        rintro _ _ ⟨rfl, rfl⟩
        refine ⟨Or.inl rfl, ?_⟩
        refine ee_at (nt := nzT 71) [(0, .ref 1), (1, .int (nI q)), (2, .int (rAll (vO M 4) ((k + 1)))), (3, .int (nI ((k + 1))))] (S, M, J) rfl (by rw [rAll, ← nI_1 k]; rfl) (by rfl) ?_
        exact ih_k
    · refine EE.runN (stop := atPc [28]) 80 _ ?_
      refine ⟨by simp only [wI_M, wI_1, wI_w, b1, r10, r11, r12, r13, r14, b18, r182, k0, k1, k4, q0, q1, kt, kst, k120] <;> first | rfl | decide, ?_⟩
      refine ⟨by simp only [wI_M, wI_1, wI_w, b1, r10, r11, r12, r13, r14, b18, r182, k0, k1, k4, q0, q1, kt, kst, k120] <;> first | rfl | decide, ?_⟩
      refine ⟨by simp only [wI_M, wI_1, wI_w, b1, r10, r11, r12, r13, r14, b18, r182, k0, k1, k4, q0, q1, kt, kst, k120] <;> first | rfl | decide, ?_⟩
      refine ⟨fun h3 => ?_, fun h3 => ?_⟩
      · refine ⟨fun h4 => ?_, fun h4 => ?_⟩
        · have h_all := h4
          refine ⟨by simp only [wI_M, wI_1, wI_w, b1, r10, r11, r12, r13, r14, b18, r182, k0, k1, k4, q0, q1, kt, kst, k120] <;> first | rfl | decide, ?_⟩
          refine ⟨by simp only [wI_M, wI_1, wI_w, b1, r10, r11, r12, r13, r14, b18, r182, k0, k1, k4, q0, q1, kt, kst, k120] <;> first | rfl | decide, ?_⟩
          refine ⟨⟨Nat.le_of_ble_eq_true rfl, Nat.le_of_ble_eq_true rfl, Nat.le_of_ble_eq_true rfl⟩, by simp only [wI_M, wI_1, wI_w, b1, r10, r11, r12, r13, r14, b18, r182, k0, k1, k4, q0, q1, kt, kst, k120] <;> first | rfl | decide, _, by simp only [wI_M, wI_1, wI_w, b1, r10, r11, r12, r13, r14, b18, r182, k0, k1, k4, q0, q1, kt, kst, k120]; exact V_wearOfSlot (b := 4) (o := 5) hO rfl (by omega), ?_⟩
          rintro _ _ ⟨rfl, rfl⟩
          refine ⟨Or.inl rfl, ?_⟩
          refine ⟨by first | decide | exact h_all, ?_⟩
          (try simp only [wI_M, wI_1, wI_w, b1, r10, r11, r12, r13, r14, b18, r182, k0, k1, k4, q0, q1, kt, kst, k120, v3, v4, v12, v5, v13, v14, v15, v16, v1, v0, v17, v6, v7, v8, v9, v10, v11, v2, bI_e0, Classical.not_not] at h1)
          (try simp only [wI_M, wI_1, wI_w, b1, r10, r11, r12, r13, r14, b18, r182, k0, k1, k4, q0, q1, kt, kst, k120, v3, v4, v12, v5, v13, v14, v15, v16, v1, v0, v17, v6, v7, v8, v9, v10, v11, v2, bI_e0, Classical.not_not] at h3)
          (try simp only [wI_M, wI_1, wI_w, b1, r10, r11, r12, r13, r14, b18, r182, k0, k1, k4, q0, q1, kt, kst, k120, v3, v4, v12, v5, v13, v14, v15, v16, v1, v0, v17, v6, v7, v8, v9, v10, v11, v2, bI_e0, Classical.not_not] at h4)
          rw [e0] at h1
          refine ⟨⟨Nat.zero_le _, Nat.zero_le _⟩, M, rfl, Jk.rf M, ?_⟩
          unfold aShare; rw [if_pos h1, if_neg h4]
          refine congrArg (fun v => Sum.inl (some (Value.int v))) ?_
          rw [ck (show q < 2147483648 by omega)]
        · (try simp only [wI_M, wI_1, wI_w, b1, r10, r11, r12, r13, r14, b18, r182, k0, k1, k4, q0, q1, kt, kst, k120, v3, v4, v12, v5, v13, v14, v15, v16, v1, v0, v17, v6, v7, v8, v9, v10, v11, v2, bI_e0, Classical.not_not] at h1)
          (try simp only [wI_M, wI_1, wI_w, b1, r10, r11, r12, r13, r14, b18, r182, k0, k1, k4, q0, q1, kt, kst, k120, v3, v4, v12, v5, v13, v14, v15, v16, v1, v0, v17, v6, v7, v8, v9, v10, v11, v2, bI_e0, Classical.not_not] at h3)
          (try simp only [wI_M, wI_1, wI_w, b1, r10, r11, r12, r13, r14, b18, r182, k0, k1, k4, q0, q1, kt, kst, k120, v3, v4, v12, v5, v13, v14, v15, v16, v1, v0, v17, v6, v7, v8, v9, v10, v11, v2, bI_e0, Classical.not_not] at h4)
          rw [e0] at h1
          refine ⟨⟨Nat.zero_le _, Nat.zero_le _⟩, M, rfl, Jk.rf M, ?_⟩
          unfold aShare; rw [if_pos h1, if_pos h4]
          refine congrArg (fun v => Sum.inl (some (Value.int v))) ?_
          rfl
      · (simp only [wI_M, wI_1, wI_w, b1, r10, r11, r12, r13, r14, b18, r182, k0, k1, k4, q0, q1, kt, kst, k120, v3, v4, v12, v5, v13, v14, v15, v16, v1, v0, v17, v6, v7, v8, v9, v10, v11, v2, bI_e0, Classical.not_not, e0] at h3; exact absurd (nI_le (Nat.le_refl n) (by omega)) h3)
  · (try simp only [wI_M, wI_1, wI_w, b1, r10, r11, r12, r13, r14, b18, r182, k0, k1, k4, q0, q1, kt, kst, k120, v3, v4, v12, v5, v13, v14, v15, v16, v1, v0, v17, v6, v7, v8, v9, v10, v11, v2, bI_e0, Classical.not_not] at h1)
    rw [e0] at h1
    refine ⟨Nat.le_of_ble_eq_true rfl, ⟨by omega, Nat.le_of_ble_eq_true rfl, Nat.le_of_ble_eq_true rfl, rfl⟩, M, rfl, Jk.rf M, ?_⟩
    unfold aShare; rw [if_neg h1]; rfl
set_option maxHeartbeats 4000000 in
theorem C_cell {d : Nat} {S : Sc} {M : Nat → Nat → Int32} {J : Nat → Nat → Int64} {BB : Nat} (hR : RgS S) (hI : I2 BB (vO M 4)) {x i z : Int32} : Wp (d + 8) 68 [.ref 1, .int x, .int i, .int z] (S, M, J) (fun rs w' => ∃ M', w' = (S, M', J) ∧ Jk M M' ∧ rs = cRs (fun c => if c = 1 then 2 else 0) (aCell (vO M 4) (vO M 4 0).toNatClampNeg x i z)) := by
  obtain ⟨hSt, hO, hOt, ⟨b1, r10, r11, r12, r13, r14⟩, ⟨b18, r182⟩, hH, hV⟩ := id hR
  have k0 : S.2.1 4 = 2 := hO.1.1
  have k1 : S.2.1 5 = 0 := hO.1.2.1
  have k4 : S.2.1 8 = 3 := hO.1.2.2.2.2.1
  have q0 : S.2.2.2 4 0 = 5 := hO.2.1.1
  have q1 : S.2.2.2 4 1 = 8 := hO.2.1.2.1
  have kt : S.2.1 11 = 2 := hOt.1.1
  have kst : S.2.1 2 = 5 := hSt.1
  have k120 : S.2.1 120 = 4 := hV.1
  have v3 : M 4 3 = vO M 4 3 := rfl
  have v4 : M 4 5 = vO M 4 4 := rfl
  have v12 : M 4 4 = vO M 4 12 := rfl
  have v5 : M 4 8 = vO M 4 5 := rfl
  have v13 : M 4 13 = vO M 4 13 := rfl
  have v14 : M 4 14 = vO M 4 14 := rfl
  have v15 : M 4 15 = vO M 4 15 := rfl
  have v16 : M 4 16 = vO M 4 16 := rfl
  have v1 : M 4 2 = vO M 4 1 := rfl
  have v0 : M 5 0 = vO M 4 0 := rfl
  have v17 : M 8 0 = vO M 4 17 := rfl
  have v6 : M 4 6 = vO M 4 6 := rfl
  have v7 : M 4 7 = vO M 4 7 := rfl
  have v8 : M 4 9 = vO M 4 8 := rfl
  have v9 : M 4 10 = vO M 4 9 := rfl
  have v10 : M 4 11 = vO M 4 10 := rfl
  have v11 : M 4 12 = vO M 4 11 := rfl
  have v2 : M 5 1 = vO M 4 2 := rfl
  obtain ⟨n, cur, hn3, hn, hcur, e0, e7⟩ := id hI.1.1
  have hc17 := hI.cnt
  have ez : (vO M 4 0).toNatClampNeg = n := by rw [e0, ck (by omega)]
  rw [ez]
  refine ⟨rfl, ?_⟩
  refine EE.runN (stop := noStop) 80 _ ?_
  refine ⟨by simp only [wI_M, wI_1, wI_w, b1, r10, r11, r12, r13, r14, b18, r182, k0, k1, k4, q0, q1, kt, kst, k120] <;> first | rfl | decide, ?_⟩
  refine ⟨by simp only [wI_M, wI_1, wI_w, b1, r10, r11, r12, r13, r14, b18, r182, k0, k1, k4, q0, q1, kt, kst, k120] <;> first | rfl | decide, ?_⟩
  refine ⟨⟨Nat.le_of_ble_eq_true rfl, Nat.le_of_ble_eq_true rfl, Nat.le_of_ble_eq_true rfl⟩, by simp only [wI_M, wI_1, wI_w, b1, r10, r11, r12, r13, r14, b18, r182, k0, k1, k4, q0, q1, kt, kst, k120] <;> first | rfl | decide, _, by simp only [wI_M, wI_1, wI_w, b1, r10, r11, r12, r13, r14, b18, r182, k0, k1, k4, q0, q1, kt, kst, k120]; exact V_hasSlot (b := 4) (o := 5) hO rfl, ?_⟩
  rintro _ _ ⟨rfl, rfl⟩
  refine ⟨Or.inl rfl, ?_⟩
  refine ⟨fun h1 => ?_, fun h1 => ?_⟩
  · (try simp only [wI_M, wI_1, wI_w, b1, r10, r11, r12, r13, r14, b18, r182, k0, k1, k4, q0, q1, kt, kst, k120, v3, v4, v12, v5, v13, v14, v15, v16, v1, v0, v17, v6, v7, v8, v9, v10, v11, v2, bI_e0, Classical.not_not] at h1)
    rw [e0] at h1
    refine ⟨Nat.le_of_ble_eq_true rfl, ⟨by omega, Nat.le_of_ble_eq_true rfl, Nat.le_of_ble_eq_true rfl, rfl⟩, M, rfl, Jk.rf M, ?_⟩
    unfold aCell; rw [if_neg h1]; rfl
  · refine ⟨fun h2 => ?_, fun h2 => ?_⟩
    · (try simp only [wI_M, wI_1, wI_w, b1, r10, r11, r12, r13, r14, b18, r182, k0, k1, k4, q0, q1, kt, kst, k120, v3, v4, v12, v5, v13, v14, v15, v16, v1, v0, v17, v6, v7, v8, v9, v10, v11, v2, bI_e0, Classical.not_not] at h1)
      (try simp only [wI_M, wI_1, wI_w, b1, r10, r11, r12, r13, r14, b18, r182, k0, k1, k4, q0, q1, kt, kst, k120, v3, v4, v12, v5, v13, v14, v15, v16, v1, v0, v17, v6, v7, v8, v9, v10, v11, v2, bI_e0, Classical.not_not] at h2)
      rw [e0] at h1
      refine ⟨Nat.le_of_ble_eq_true rfl, ⟨by omega, Nat.le_of_ble_eq_true rfl, Nat.le_of_ble_eq_true rfl, rfl⟩, M, rfl, Jk.rf M, ?_⟩
      unfold aCell; rw [if_pos h1, if_neg (fun h_ => h_.1 h2)]; rfl
    · refine ⟨fun h3 => ?_, fun h3 => ?_⟩
      · refine ⟨fun h4 => ?_, fun h4 => ?_⟩
        · (try simp only [wI_M, wI_1, wI_w, b1, r10, r11, r12, r13, r14, b18, r182, k0, k1, k4, q0, q1, kt, kst, k120, v3, v4, v12, v5, v13, v14, v15, v16, v1, v0, v17, v6, v7, v8, v9, v10, v11, v2, bI_e0, Classical.not_not] at h1)
          (try simp only [wI_M, wI_1, wI_w, b1, r10, r11, r12, r13, r14, b18, r182, k0, k1, k4, q0, q1, kt, kst, k120, v3, v4, v12, v5, v13, v14, v15, v16, v1, v0, v17, v6, v7, v8, v9, v10, v11, v2, bI_e0, Classical.not_not] at h2)
          (try simp only [wI_M, wI_1, wI_w, b1, r10, r11, r12, r13, r14, b18, r182, k0, k1, k4, q0, q1, kt, kst, k120, v3, v4, v12, v5, v13, v14, v15, v16, v1, v0, v17, v6, v7, v8, v9, v10, v11, v2, bI_e0, Classical.not_not] at h3)
          (try simp only [wI_M, wI_1, wI_w, b1, r10, r11, r12, r13, r14, b18, r182, k0, k1, k4, q0, q1, kt, kst, k120, v3, v4, v12, v5, v13, v14, v15, v16, v1, v0, v17, v6, v7, v8, v9, v10, v11, v2, bI_e0, Classical.not_not] at h4)
          rw [e0] at h1
          have gi : ¬ i < 0 ∧ ¬ 2 < i := ⟨h2, (c_lt (k := 2) (by omega)).mp h3⟩
          refine ⟨Nat.le_of_ble_eq_true rfl, ⟨by omega, Nat.le_of_ble_eq_true rfl, Nat.le_of_ble_eq_true rfl, rfl⟩, M, rfl, Jk.rf M, ?_⟩
          unfold aCell; rw [if_pos h1, if_pos gi, if_neg (fun h_ => h_.1 h4)]; rfl
        · refine ⟨fun h5 => ?_, fun h5 => ?_⟩
          · have g_ := h1
            simp only [wI_M, wI_1, wI_w, b1, r10, r11, r12, r13, r14, b18, r182, k0, k1, k4, q0, q1, kt, kst, k120, v3, v4, v12, v5, v13, v14, v15, v16, v1, v0, v17, v6, v7, v8, v9, v10, v11, v2, bI_e0, Classical.not_not] at g_
            rw [e0] at g_
            obtain ⟨q, hq, rfl⟩ := in_nat' (by omega) g_
            have gi : ¬ i < 0 ∧ ¬ 2 < i := ⟨h2, (c_lt (k := 2) (by omega)).mp h3⟩
            obtain ⟨i_, hi_, rfl⟩ := in_nat (k := 2) rfl (by omega) gi
            have gz : ¬ z < 0 ∧ ¬ 2 < z := ⟨h4, c_le.mp h5⟩
            obtain ⟨z_, hz_, rfl⟩ := in_nat (k := 2) rfl (by omega) gz
            refine ⟨fun h6 => ?_, fun h6 => ?_⟩
            · refine ⟨fun h7 => ?_, fun h7 => ?_⟩
              · refine ⟨by simp only [wI_M, wI_1, wI_w, b1, r10, r11, r12, r13, r14, b18, r182, k0, k1, k4, q0, q1, kt, kst, k120] <;> first | rfl | decide, ?_⟩
                refine ⟨by simp only [wI_M, wI_1, wI_w, b1, r10, r11, r12, r13, r14, b18, r182, k0, k1, k4, q0, q1, kt, kst, k120] <;> first | rfl | decide, ?_⟩
                refine ⟨⟨Nat.le_of_ble_eq_true rfl, Nat.le_of_ble_eq_true rfl, Nat.le_of_ble_eq_true rfl⟩, by simp only [wI_M, wI_1, wI_w, b1, r10, r11, r12, r13, r14, b18, r182, k0, k1, k4, q0, q1, kt, kst, k120] <;> first | rfl | decide, _, by simp only [wI_M, wI_1, wI_w, b1, r10, r11, r12, r13, r14, b18, r182, k0, k1, k4, q0, q1, kt, kst, k120]; exact V_isStuck (b := 4) (o := 5) hO rfl (by omega) (by omega), ?_⟩
                rintro _ _ ⟨rfl, rfl⟩
                refine ⟨Or.inl rfl, ?_⟩
                refine ⟨fun h8 => ?_, fun h8 => ?_⟩
                · (try simp only [wI_M, wI_1, wI_w, b1, r10, r11, r12, r13, r14, b18, r182, k0, k1, k4, q0, q1, kt, kst, k120, v3, v4, v12, v5, v13, v14, v15, v16, v1, v0, v17, v6, v7, v8, v9, v10, v11, v2, bI_e0, Classical.not_not] at h1)
                  (try simp only [wI_M, wI_1, wI_w, b1, r10, r11, r12, r13, r14, b18, r182, k0, k1, k4, q0, q1, kt, kst, k120, v3, v4, v12, v5, v13, v14, v15, v16, v1, v0, v17, v6, v7, v8, v9, v10, v11, v2, bI_e0, Classical.not_not] at h2)
                  (try simp only [wI_M, wI_1, wI_w, b1, r10, r11, r12, r13, r14, b18, r182, k0, k1, k4, q0, q1, kt, kst, k120, v3, v4, v12, v5, v13, v14, v15, v16, v1, v0, v17, v6, v7, v8, v9, v10, v11, v2, bI_e0, Classical.not_not] at h3)
                  (try simp only [wI_M, wI_1, wI_w, b1, r10, r11, r12, r13, r14, b18, r182, k0, k1, k4, q0, q1, kt, kst, k120, v3, v4, v12, v5, v13, v14, v15, v16, v1, v0, v17, v6, v7, v8, v9, v10, v11, v2, bI_e0, Classical.not_not] at h4)
                  (try simp only [wI_M, wI_1, wI_w, b1, r10, r11, r12, r13, r14, b18, r182, k0, k1, k4, q0, q1, kt, kst, k120, v3, v4, v12, v5, v13, v14, v15, v16, v1, v0, v17, v6, v7, v8, v9, v10, v11, v2, bI_e0, Classical.not_not] at h5)
                  (try simp only [wI_M, wI_1, wI_w, b1, r10, r11, r12, r13, r14, b18, r182, k0, k1, k4, q0, q1, kt, kst, k120, v3, v4, v12, v5, v13, v14, v15, v16, v1, v0, v17, v6, v7, v8, v9, v10, v11, v2, bI_e0, Classical.not_not] at h6)
                  (try simp only [wI_M, wI_1, wI_w, b1, r10, r11, r12, r13, r14, b18, r182, k0, k1, k4, q0, q1, kt, kst, k120, v3, v4, v12, v5, v13, v14, v15, v16, v1, v0, v17, v6, v7, v8, v9, v10, v11, v2, bI_e0, Classical.not_not] at h7)
                  (try simp only [wI_M, wI_1, wI_w, b1, r10, r11, r12, r13, r14, b18, r182, k0, k1, k4, q0, q1, kt, kst, k120, v3, v4, v12, v5, v13, v14, v15, v16, v1, v0, v17, v6, v7, v8, v9, v10, v11, v2, bI_e0, Classical.not_not] at h8)
                  rw [e0] at h1
                  have z0 := nI_eq (a := z_) (b := 0) (by omega) (by omega)
                  have z1 := nI_eq (a := z_) (b := 1) (by omega) (by omega)
                  have z2 : 2 ≤ nI z_ ↔ 2 ≤ z_ := by rw [o_2, nI_leI (by omega) (by omega)]
                  have zz : z_ = 2 := by have a_ : ¬ z_ = 0 := fun h_ => h6 (z0.mpr h_); have b_ : ¬ z_ = 1 := fun h_ => h7 (z1.mpr h_); omega
                  refine ⟨⟨Nat.zero_le _, Nat.zero_le _⟩, M, rfl, Jk.rf M, ?_⟩
                  unfold aCell; rw [if_pos h1, if_pos gi, if_pos gz, if_pos (z2.mpr (by omega))]
                  refine congrArg (fun v => Sum.inl (some (Value.int v))) ?_
                  rw [ck (show q < 2147483648 by omega), ck (show i_ < 2147483648 by omega)]; exact (bI_f (fun h_ => h_ h8)).symm
                · (try simp only [wI_M, wI_1, wI_w, b1, r10, r11, r12, r13, r14, b18, r182, k0, k1, k4, q0, q1, kt, kst, k120, v3, v4, v12, v5, v13, v14, v15, v16, v1, v0, v17, v6, v7, v8, v9, v10, v11, v2, bI_e0, Classical.not_not] at h1)
                  (try simp only [wI_M, wI_1, wI_w, b1, r10, r11, r12, r13, r14, b18, r182, k0, k1, k4, q0, q1, kt, kst, k120, v3, v4, v12, v5, v13, v14, v15, v16, v1, v0, v17, v6, v7, v8, v9, v10, v11, v2, bI_e0, Classical.not_not] at h2)
                  (try simp only [wI_M, wI_1, wI_w, b1, r10, r11, r12, r13, r14, b18, r182, k0, k1, k4, q0, q1, kt, kst, k120, v3, v4, v12, v5, v13, v14, v15, v16, v1, v0, v17, v6, v7, v8, v9, v10, v11, v2, bI_e0, Classical.not_not] at h3)
                  (try simp only [wI_M, wI_1, wI_w, b1, r10, r11, r12, r13, r14, b18, r182, k0, k1, k4, q0, q1, kt, kst, k120, v3, v4, v12, v5, v13, v14, v15, v16, v1, v0, v17, v6, v7, v8, v9, v10, v11, v2, bI_e0, Classical.not_not] at h4)
                  (try simp only [wI_M, wI_1, wI_w, b1, r10, r11, r12, r13, r14, b18, r182, k0, k1, k4, q0, q1, kt, kst, k120, v3, v4, v12, v5, v13, v14, v15, v16, v1, v0, v17, v6, v7, v8, v9, v10, v11, v2, bI_e0, Classical.not_not] at h5)
                  (try simp only [wI_M, wI_1, wI_w, b1, r10, r11, r12, r13, r14, b18, r182, k0, k1, k4, q0, q1, kt, kst, k120, v3, v4, v12, v5, v13, v14, v15, v16, v1, v0, v17, v6, v7, v8, v9, v10, v11, v2, bI_e0, Classical.not_not] at h6)
                  (try simp only [wI_M, wI_1, wI_w, b1, r10, r11, r12, r13, r14, b18, r182, k0, k1, k4, q0, q1, kt, kst, k120, v3, v4, v12, v5, v13, v14, v15, v16, v1, v0, v17, v6, v7, v8, v9, v10, v11, v2, bI_e0, Classical.not_not] at h7)
                  (try simp only [wI_M, wI_1, wI_w, b1, r10, r11, r12, r13, r14, b18, r182, k0, k1, k4, q0, q1, kt, kst, k120, v3, v4, v12, v5, v13, v14, v15, v16, v1, v0, v17, v6, v7, v8, v9, v10, v11, v2, bI_e0, Classical.not_not] at h8)
                  rw [e0] at h1
                  have z0 := nI_eq (a := z_) (b := 0) (by omega) (by omega)
                  have z1 := nI_eq (a := z_) (b := 1) (by omega) (by omega)
                  have z2 : 2 ≤ nI z_ ↔ 2 ≤ z_ := by rw [o_2, nI_leI (by omega) (by omega)]
                  have zz : z_ = 2 := by have a_ : ¬ z_ = 0 := fun h_ => h6 (z0.mpr h_); have b_ : ¬ z_ = 1 := fun h_ => h7 (z1.mpr h_); omega
                  refine ⟨⟨Nat.zero_le _, Nat.zero_le _⟩, M, rfl, Jk.rf M, ?_⟩
                  unfold aCell; rw [if_pos h1, if_pos gi, if_pos gz, if_pos (z2.mpr (by omega))]
                  refine congrArg (fun v => Sum.inl (some (Value.int v))) ?_
                  rw [ck (show q < 2147483648 by omega), ck (show i_ < 2147483648 by omega)]; exact (bI_t h8).symm
              · refine ⟨by simp only [wI_M, wI_1, wI_w, b1, r10, r11, r12, r13, r14, b18, r182, k0, k1, k4, q0, q1, kt, kst, k120] <;> first | rfl | decide, ?_⟩
                refine ⟨by simp only [wI_M, wI_1, wI_w, b1, r10, r11, r12, r13, r14, b18, r182, k0, k1, k4, q0, q1, kt, kst, k120] <;> first | rfl | decide, ?_⟩
                refine ⟨⟨Nat.le_of_ble_eq_true rfl, Nat.le_of_ble_eq_true rfl, Nat.le_of_ble_eq_true rfl⟩, by simp only [wI_M, wI_1, wI_w, b1, r10, r11, r12, r13, r14, b18, r182, k0, k1, k4, q0, q1, kt, kst, k120] <;> first | rfl | decide, _, by simp only [wI_M, wI_1, wI_w, b1, r10, r11, r12, r13, r14, b18, r182, k0, k1, k4, q0, q1, kt, kst, k120]; exact V_wearOf (b := 4) (o := 5) hO rfl (by omega) (by omega), ?_⟩
                rintro _ _ ⟨rfl, rfl⟩
                refine ⟨Or.inl rfl, ?_⟩
                (try simp only [wI_M, wI_1, wI_w, b1, r10, r11, r12, r13, r14, b18, r182, k0, k1, k4, q0, q1, kt, kst, k120, v3, v4, v12, v5, v13, v14, v15, v16, v1, v0, v17, v6, v7, v8, v9, v10, v11, v2, bI_e0, Classical.not_not] at h1)
                (try simp only [wI_M, wI_1, wI_w, b1, r10, r11, r12, r13, r14, b18, r182, k0, k1, k4, q0, q1, kt, kst, k120, v3, v4, v12, v5, v13, v14, v15, v16, v1, v0, v17, v6, v7, v8, v9, v10, v11, v2, bI_e0, Classical.not_not] at h2)
                (try simp only [wI_M, wI_1, wI_w, b1, r10, r11, r12, r13, r14, b18, r182, k0, k1, k4, q0, q1, kt, kst, k120, v3, v4, v12, v5, v13, v14, v15, v16, v1, v0, v17, v6, v7, v8, v9, v10, v11, v2, bI_e0, Classical.not_not] at h3)
                (try simp only [wI_M, wI_1, wI_w, b1, r10, r11, r12, r13, r14, b18, r182, k0, k1, k4, q0, q1, kt, kst, k120, v3, v4, v12, v5, v13, v14, v15, v16, v1, v0, v17, v6, v7, v8, v9, v10, v11, v2, bI_e0, Classical.not_not] at h4)
                (try simp only [wI_M, wI_1, wI_w, b1, r10, r11, r12, r13, r14, b18, r182, k0, k1, k4, q0, q1, kt, kst, k120, v3, v4, v12, v5, v13, v14, v15, v16, v1, v0, v17, v6, v7, v8, v9, v10, v11, v2, bI_e0, Classical.not_not] at h5)
                (try simp only [wI_M, wI_1, wI_w, b1, r10, r11, r12, r13, r14, b18, r182, k0, k1, k4, q0, q1, kt, kst, k120, v3, v4, v12, v5, v13, v14, v15, v16, v1, v0, v17, v6, v7, v8, v9, v10, v11, v2, bI_e0, Classical.not_not] at h6)
                (try simp only [wI_M, wI_1, wI_w, b1, r10, r11, r12, r13, r14, b18, r182, k0, k1, k4, q0, q1, kt, kst, k120, v3, v4, v12, v5, v13, v14, v15, v16, v1, v0, v17, v6, v7, v8, v9, v10, v11, v2, bI_e0, Classical.not_not] at h7)
                rw [e0] at h1
                have z0 := nI_eq (a := z_) (b := 0) (by omega) (by omega)
                have z1 := nI_eq (a := z_) (b := 1) (by omega) (by omega)
                have z2 : 2 ≤ nI z_ ↔ 2 ≤ z_ := by rw [o_2, nI_leI (by omega) (by omega)]
                have zz := z1.mp h7
                subst zz
                refine ⟨⟨Nat.zero_le _, Nat.zero_le _⟩, M, rfl, Jk.rf M, ?_⟩
                unfold aCell; rw [if_pos h1, if_pos gi, if_pos gz, if_neg (fun h_ => by have := z2.mp h_; omega)]
                refine congrArg (fun v => Sum.inl (some (Value.int v))) ?_
                rw [ck (show q < 2147483648 by omega), ck (show i_ < 2147483648 by omega)]; exact congrArg (vO M 4) (by rw [show (nI 1).toNatClampNeg = 1 from rfl]; omega)
            · refine ⟨by simp only [wI_M, wI_1, wI_w, b1, r10, r11, r12, r13, r14, b18, r182, k0, k1, k4, q0, q1, kt, kst, k120] <;> first | rfl | decide, ?_⟩
              refine ⟨by simp only [wI_M, wI_1, wI_w, b1, r10, r11, r12, r13, r14, b18, r182, k0, k1, k4, q0, q1, kt, kst, k120] <;> first | rfl | decide, ?_⟩
              refine ⟨⟨Nat.le_of_ble_eq_true rfl, Nat.le_of_ble_eq_true rfl, Nat.le_of_ble_eq_true rfl⟩, by simp only [wI_M, wI_1, wI_w, b1, r10, r11, r12, r13, r14, b18, r182, k0, k1, k4, q0, q1, kt, kst, k120] <;> first | rfl | decide, _, by simp only [wI_M, wI_1, wI_w, b1, r10, r11, r12, r13, r14, b18, r182, k0, k1, k4, q0, q1, kt, kst, k120]; exact V_numberIn (b := 4) (o := 5) hO rfl (by omega) (by omega), ?_⟩
              rintro _ _ ⟨rfl, rfl⟩
              refine ⟨Or.inl rfl, ?_⟩
              (try simp only [wI_M, wI_1, wI_w, b1, r10, r11, r12, r13, r14, b18, r182, k0, k1, k4, q0, q1, kt, kst, k120, v3, v4, v12, v5, v13, v14, v15, v16, v1, v0, v17, v6, v7, v8, v9, v10, v11, v2, bI_e0, Classical.not_not] at h1)
              (try simp only [wI_M, wI_1, wI_w, b1, r10, r11, r12, r13, r14, b18, r182, k0, k1, k4, q0, q1, kt, kst, k120, v3, v4, v12, v5, v13, v14, v15, v16, v1, v0, v17, v6, v7, v8, v9, v10, v11, v2, bI_e0, Classical.not_not] at h2)
              (try simp only [wI_M, wI_1, wI_w, b1, r10, r11, r12, r13, r14, b18, r182, k0, k1, k4, q0, q1, kt, kst, k120, v3, v4, v12, v5, v13, v14, v15, v16, v1, v0, v17, v6, v7, v8, v9, v10, v11, v2, bI_e0, Classical.not_not] at h3)
              (try simp only [wI_M, wI_1, wI_w, b1, r10, r11, r12, r13, r14, b18, r182, k0, k1, k4, q0, q1, kt, kst, k120, v3, v4, v12, v5, v13, v14, v15, v16, v1, v0, v17, v6, v7, v8, v9, v10, v11, v2, bI_e0, Classical.not_not] at h4)
              (try simp only [wI_M, wI_1, wI_w, b1, r10, r11, r12, r13, r14, b18, r182, k0, k1, k4, q0, q1, kt, kst, k120, v3, v4, v12, v5, v13, v14, v15, v16, v1, v0, v17, v6, v7, v8, v9, v10, v11, v2, bI_e0, Classical.not_not] at h5)
              (try simp only [wI_M, wI_1, wI_w, b1, r10, r11, r12, r13, r14, b18, r182, k0, k1, k4, q0, q1, kt, kst, k120, v3, v4, v12, v5, v13, v14, v15, v16, v1, v0, v17, v6, v7, v8, v9, v10, v11, v2, bI_e0, Classical.not_not] at h6)
              rw [e0] at h1
              have z0 := nI_eq (a := z_) (b := 0) (by omega) (by omega)
              have z1 := nI_eq (a := z_) (b := 1) (by omega) (by omega)
              have z2 : 2 ≤ nI z_ ↔ 2 ≤ z_ := by rw [o_2, nI_leI (by omega) (by omega)]
              have zz := z0.mp h6
              subst zz
              refine ⟨⟨Nat.zero_le _, Nat.zero_le _⟩, M, rfl, Jk.rf M, ?_⟩
              unfold aCell; rw [if_pos h1, if_pos gi, if_pos gz, if_neg (fun h_ => by have := z2.mp h_; omega)]
              refine congrArg (fun v => Sum.inl (some (Value.int v))) ?_
              rw [ck (show q < 2147483648 by omega), ck (show i_ < 2147483648 by omega)]; rfl
          · (try simp only [wI_M, wI_1, wI_w, b1, r10, r11, r12, r13, r14, b18, r182, k0, k1, k4, q0, q1, kt, kst, k120, v3, v4, v12, v5, v13, v14, v15, v16, v1, v0, v17, v6, v7, v8, v9, v10, v11, v2, bI_e0, Classical.not_not] at h1)
            (try simp only [wI_M, wI_1, wI_w, b1, r10, r11, r12, r13, r14, b18, r182, k0, k1, k4, q0, q1, kt, kst, k120, v3, v4, v12, v5, v13, v14, v15, v16, v1, v0, v17, v6, v7, v8, v9, v10, v11, v2, bI_e0, Classical.not_not] at h2)
            (try simp only [wI_M, wI_1, wI_w, b1, r10, r11, r12, r13, r14, b18, r182, k0, k1, k4, q0, q1, kt, kst, k120, v3, v4, v12, v5, v13, v14, v15, v16, v1, v0, v17, v6, v7, v8, v9, v10, v11, v2, bI_e0, Classical.not_not] at h3)
            (try simp only [wI_M, wI_1, wI_w, b1, r10, r11, r12, r13, r14, b18, r182, k0, k1, k4, q0, q1, kt, kst, k120, v3, v4, v12, v5, v13, v14, v15, v16, v1, v0, v17, v6, v7, v8, v9, v10, v11, v2, bI_e0, Classical.not_not] at h4)
            (try simp only [wI_M, wI_1, wI_w, b1, r10, r11, r12, r13, r14, b18, r182, k0, k1, k4, q0, q1, kt, kst, k120, v3, v4, v12, v5, v13, v14, v15, v16, v1, v0, v17, v6, v7, v8, v9, v10, v11, v2, bI_e0, Classical.not_not] at h5)
            rw [e0] at h1
            have gi : ¬ i < 0 ∧ ¬ 2 < i := ⟨h2, (c_lt (k := 2) (by omega)).mp h3⟩
            refine ⟨Nat.le_of_ble_eq_true rfl, ⟨by omega, Nat.le_of_ble_eq_true rfl, Nat.le_of_ble_eq_true rfl, rfl⟩, M, rfl, Jk.rf M, ?_⟩
            unfold aCell; rw [if_pos h1, if_pos gi, if_neg (fun h_ => h_.2 (Int32.not_le.mp h5))]; rfl
      · (try simp only [wI_M, wI_1, wI_w, b1, r10, r11, r12, r13, r14, b18, r182, k0, k1, k4, q0, q1, kt, kst, k120, v3, v4, v12, v5, v13, v14, v15, v16, v1, v0, v17, v6, v7, v8, v9, v10, v11, v2, bI_e0, Classical.not_not] at h1)
        (try simp only [wI_M, wI_1, wI_w, b1, r10, r11, r12, r13, r14, b18, r182, k0, k1, k4, q0, q1, kt, kst, k120, v3, v4, v12, v5, v13, v14, v15, v16, v1, v0, v17, v6, v7, v8, v9, v10, v11, v2, bI_e0, Classical.not_not] at h2)
        (try simp only [wI_M, wI_1, wI_w, b1, r10, r11, r12, r13, r14, b18, r182, k0, k1, k4, q0, q1, kt, kst, k120, v3, v4, v12, v5, v13, v14, v15, v16, v1, v0, v17, v6, v7, v8, v9, v10, v11, v2, bI_e0, Classical.not_not] at h3)
        rw [e0] at h1
        refine ⟨Nat.le_of_ble_eq_true rfl, ⟨by omega, Nat.le_of_ble_eq_true rfl, Nat.le_of_ble_eq_true rfl, rfl⟩, M, rfl, Jk.rf M, ?_⟩
        unfold aCell; rw [if_pos h1, if_neg (fun h_ => h3 ((c_lt (k := 2) (by omega)).mpr h_.2))]; rfl
set_option maxHeartbeats 1000000 in
theorem C_serviceAt {d : Nat} {S : Sc} {M : Nat → Nat → Int32} {J : Nat → Nat → Int64} {BB : Nat} (hR : RgS S) (hI : I2 BB (vO M 4)) {x z : Int32} : Wp (d + 8) 72 [.ref 1, .int x, .int z] (S, M, J) (fun rs w' => ∃ M', w' = (S, M', J) ∧ Jk M M' ∧ rs = cRs (fun c => 0) (aServ (vO M 4) x z)) := by
  obtain ⟨hSt, hO, hOt, ⟨b1, r10, r11, r12, r13, r14⟩, ⟨b18, r182⟩, hH, hV⟩ := id hR
  have k0 : S.2.1 4 = 2 := hO.1.1
  have k1 : S.2.1 5 = 0 := hO.1.2.1
  have k4 : S.2.1 8 = 3 := hO.1.2.2.2.2.1
  have q0 : S.2.2.2 4 0 = 5 := hO.2.1.1
  have q1 : S.2.2.2 4 1 = 8 := hO.2.1.2.1
  have kt : S.2.1 11 = 2 := hOt.1.1
  have kst : S.2.1 2 = 5 := hSt.1
  have k120 : S.2.1 120 = 4 := hV.1
  have v3 : M 4 3 = vO M 4 3 := rfl
  have v4 : M 4 5 = vO M 4 4 := rfl
  have v12 : M 4 4 = vO M 4 12 := rfl
  have v5 : M 4 8 = vO M 4 5 := rfl
  have v13 : M 4 13 = vO M 4 13 := rfl
  have v14 : M 4 14 = vO M 4 14 := rfl
  have v15 : M 4 15 = vO M 4 15 := rfl
  have v16 : M 4 16 = vO M 4 16 := rfl
  have v1 : M 4 2 = vO M 4 1 := rfl
  have v0 : M 5 0 = vO M 4 0 := rfl
  have v17 : M 8 0 = vO M 4 17 := rfl
  have v6 : M 4 6 = vO M 4 6 := rfl
  have v7 : M 4 7 = vO M 4 7 := rfl
  have v8 : M 4 9 = vO M 4 8 := rfl
  have v9 : M 4 10 = vO M 4 9 := rfl
  have v10 : M 4 11 = vO M 4 10 := rfl
  have v11 : M 4 12 = vO M 4 11 := rfl
  have v2 : M 5 1 = vO M 4 2 := rfl
  obtain ⟨n, cur, hn3, hn, hcur, e0, e7⟩ := id hI.1.1
  have hc17 := hI.cnt
  refine ⟨rfl, ?_⟩
  refine EE.runN (stop := noStop) 80 _ ?_
  refine ⟨fun h1 => ?_, fun h1 => ?_⟩
  · (try simp only [wI_M, wI_1, wI_w, b1, r10, r11, r12, r13, r14, b18, r182, k0, k1, k4, q0, q1, kt, kst, k120, v3, v4, v12, v5, v13, v14, v15, v16, v1, v0, v17, v6, v7, v8, v9, v10, v11, v2, bI_e0, Classical.not_not] at h1)
    refine ⟨Nat.le_of_ble_eq_true rfl, ⟨by omega, Nat.le_of_ble_eq_true rfl, Nat.le_of_ble_eq_true rfl, rfl⟩, M, rfl, Jk.rf M, ?_⟩
    unfold aServ; rw [if_pos h1]; rfl
  · refine ⟨fun h2 => ?_, fun h2 => ?_⟩
    · (try simp only [wI_M, wI_1, wI_w, b1, r10, r11, r12, r13, r14, b18, r182, k0, k1, k4, q0, q1, kt, kst, k120, v3, v4, v12, v5, v13, v14, v15, v16, v1, v0, v17, v6, v7, v8, v9, v10, v11, v2, bI_e0, Classical.not_not] at h1)
      (try simp only [wI_M, wI_1, wI_w, b1, r10, r11, r12, r13, r14, b18, r182, k0, k1, k4, q0, q1, kt, kst, k120, v3, v4, v12, v5, v13, v14, v15, v16, v1, v0, v17, v6, v7, v8, v9, v10, v11, v2, bI_e0, Classical.not_not] at h2)
      refine ⟨Nat.le_of_ble_eq_true rfl, ⟨by omega, Nat.le_of_ble_eq_true rfl, Nat.le_of_ble_eq_true rfl, rfl⟩, M, rfl, Jk.rf M, ?_⟩
      unfold aServ; rw [if_neg h1, if_neg (fun h_ => h_.1 h2)]; rfl
    · refine ⟨fun h3 => ?_, fun h3 => ?_⟩
      · refine ⟨by simp only [wI_M, wI_1, wI_w, b1, r10, r11, r12, r13, r14, b18, r182, k0, k1, k4, q0, q1, kt, kst, k120] <;> first | rfl | decide, ?_⟩
        refine ⟨by simp only [wI_M, wI_1, wI_w, b1, r10, r11, r12, r13, r14, b18, r182, k0, k1, k4, q0, q1, kt, kst, k120] <;> first | rfl | decide, ?_⟩
        refine ⟨by simp only [wI_M, wI_1, wI_w, b1, r10, r11, r12, r13, r14, b18, r182, k0, k1, k4, q0, q1, kt, kst, k120] <;> first | rfl | decide, ?_⟩
        refine ⟨fun h4 => ?_, fun h4 => ?_⟩
        · have g_ := h4
          simp only [wI_M, wI_1, wI_w, b1, r10, r11, r12, r13, r14, b18, r182, k0, k1, k4, q0, q1, kt, kst, k120, v3, v4, v12, v5, v13, v14, v15, v16, v1, v0, v17, v6, v7, v8, v9, v10, v11, v2, bI_e0, Classical.not_not] at g_
          rw [hc17.1] at g_
          obtain ⟨q, hq, rfl⟩ := in_nat' (by omega) ⟨h1, Int32.not_le.mpr g_⟩
          refine ⟨fun h5 => ?_, fun h5 => ?_⟩
          · refine ⟨by simp only [wI_M, wI_1, wI_w, b1, r10, r11, r12, r13, r14, b18, r182, k0, k1, k4, q0, q1, kt, kst, k120] <;> first | rfl | decide, ?_⟩
            refine ⟨by simp only [wI_M, wI_1, wI_w, b1, r10, r11, r12, r13, r14, b18, r182, k0, k1, k4, q0, q1, kt, kst, k120] <;> first | rfl | decide, ?_⟩
            refine ⟨⟨Nat.le_of_ble_eq_true rfl, Nat.le_of_ble_eq_true rfl, Nat.le_of_ble_eq_true rfl⟩, by simp only [wI_M, wI_1, wI_w, b1, r10, r11, r12, r13, r14, b18, r182, k0, k1, k4, q0, q1, kt, kst, k120] <;> first | rfl | decide, _, by simp only [wI_M, wI_1, wI_w, b1, r10, r11, r12, r13, r14, b18, r182, k0, k1, k4, q0, q1, kt, kst, k120]; exact V_codeAt (b := 4) (o := 8) hO rfl (by omega), ?_⟩
            rintro _ _ ⟨rfl, rfl⟩
            refine ⟨Or.inl rfl, ?_⟩
            refine ⟨fun h6 => ?_, fun h6 => ?_⟩
            · refine ⟨by first | decide | simp only [wI_M, wI_1, wI_w, b1, r10, r11, r12, r13, r14, b18, r182, k0, k1, k4, q0, q1, kt, kst, k120] <;> first | rfl | decide, ?_⟩
              (try simp only [wI_M, wI_1, wI_w, b1, r10, r11, r12, r13, r14, b18, r182, k0, k1, k4, q0, q1, kt, kst, k120, v3, v4, v12, v5, v13, v14, v15, v16, v1, v0, v17, v6, v7, v8, v9, v10, v11, v2, bI_e0, Classical.not_not] at h1)
              (try simp only [wI_M, wI_1, wI_w, b1, r10, r11, r12, r13, r14, b18, r182, k0, k1, k4, q0, q1, kt, kst, k120, v3, v4, v12, v5, v13, v14, v15, v16, v1, v0, v17, v6, v7, v8, v9, v10, v11, v2, bI_e0, Classical.not_not] at h2)
              (try simp only [wI_M, wI_1, wI_w, b1, r10, r11, r12, r13, r14, b18, r182, k0, k1, k4, q0, q1, kt, kst, k120, v3, v4, v12, v5, v13, v14, v15, v16, v1, v0, v17, v6, v7, v8, v9, v10, v11, v2, bI_e0, Classical.not_not] at h3)
              (try simp only [wI_M, wI_1, wI_w, b1, r10, r11, r12, r13, r14, b18, r182, k0, k1, k4, q0, q1, kt, kst, k120, v3, v4, v12, v5, v13, v14, v15, v16, v1, v0, v17, v6, v7, v8, v9, v10, v11, v2, bI_e0, Classical.not_not] at h4)
              (try simp only [wI_M, wI_1, wI_w, b1, r10, r11, r12, r13, r14, b18, r182, k0, k1, k4, q0, q1, kt, kst, k120, v3, v4, v12, v5, v13, v14, v15, v16, v1, v0, v17, v6, v7, v8, v9, v10, v11, v2, bI_e0, Classical.not_not] at h5)
              (try simp only [wI_M, wI_1, wI_w, b1, r10, r11, r12, r13, r14, b18, r182, k0, k1, k4, q0, q1, kt, kst, k120, v3, v4, v12, v5, v13, v14, v15, v16, v1, v0, v17, v6, v7, v8, v9, v10, v11, v2, bI_e0, Classical.not_not] at h6)
              have gz : ¬ z < 0 ∧ ¬ 2 < z := ⟨h2, c_le.mp h3⟩
              have z1 : z = 1 := by
                obtain ⟨w, hw, rfl⟩ := in_nat (k := 2) rfl (by omega) gz
                rcases (by omega : w = 0 ∨ w = 1 ∨ w = 2) with e | e | e <;> subst e
                · exact absurd rfl h6
                · rfl
                · exact absurd rfl h5
              subst z1
              refine ⟨⟨Nat.zero_le _, Nat.zero_le _⟩, M, rfl, Jk.rf M, ?_⟩
              unfold aServ; rw [if_neg h1, if_pos gz, if_pos h4, if_neg (by decide), if_pos rfl]
              refine congrArg (fun v => Sum.inl (some (Value.int v))) ?_
              rw [ck (show q < 2147483648 by omega)]
            · refine ⟨by first | decide | simp only [wI_M, wI_1, wI_w, b1, r10, r11, r12, r13, r14, b18, r182, k0, k1, k4, q0, q1, kt, kst, k120] <;> first | rfl | decide, ?_⟩
              (try simp only [wI_M, wI_1, wI_w, b1, r10, r11, r12, r13, r14, b18, r182, k0, k1, k4, q0, q1, kt, kst, k120, v3, v4, v12, v5, v13, v14, v15, v16, v1, v0, v17, v6, v7, v8, v9, v10, v11, v2, bI_e0, Classical.not_not] at h1)
              (try simp only [wI_M, wI_1, wI_w, b1, r10, r11, r12, r13, r14, b18, r182, k0, k1, k4, q0, q1, kt, kst, k120, v3, v4, v12, v5, v13, v14, v15, v16, v1, v0, v17, v6, v7, v8, v9, v10, v11, v2, bI_e0, Classical.not_not] at h2)
              (try simp only [wI_M, wI_1, wI_w, b1, r10, r11, r12, r13, r14, b18, r182, k0, k1, k4, q0, q1, kt, kst, k120, v3, v4, v12, v5, v13, v14, v15, v16, v1, v0, v17, v6, v7, v8, v9, v10, v11, v2, bI_e0, Classical.not_not] at h3)
              (try simp only [wI_M, wI_1, wI_w, b1, r10, r11, r12, r13, r14, b18, r182, k0, k1, k4, q0, q1, kt, kst, k120, v3, v4, v12, v5, v13, v14, v15, v16, v1, v0, v17, v6, v7, v8, v9, v10, v11, v2, bI_e0, Classical.not_not] at h4)
              (try simp only [wI_M, wI_1, wI_w, b1, r10, r11, r12, r13, r14, b18, r182, k0, k1, k4, q0, q1, kt, kst, k120, v3, v4, v12, v5, v13, v14, v15, v16, v1, v0, v17, v6, v7, v8, v9, v10, v11, v2, bI_e0, Classical.not_not] at h5)
              (try simp only [wI_M, wI_1, wI_w, b1, r10, r11, r12, r13, r14, b18, r182, k0, k1, k4, q0, q1, kt, kst, k120, v3, v4, v12, v5, v13, v14, v15, v16, v1, v0, v17, v6, v7, v8, v9, v10, v11, v2, bI_e0, Classical.not_not] at h6)
              have gz : ¬ z < 0 ∧ ¬ 2 < z := ⟨h2, c_le.mp h3⟩
              refine ⟨⟨Nat.zero_le _, Nat.zero_le _⟩, M, rfl, Jk.rf M, ?_⟩
              unfold aServ; rw [if_neg h1, if_pos gz, if_pos h4, if_pos h6]
              refine congrArg (fun v => Sum.inl (some (Value.int v))) ?_
              rw [ck (show q < 2147483648 by omega)]
          · refine ⟨by simp only [wI_M, wI_1, wI_w, b1, r10, r11, r12, r13, r14, b18, r182, k0, k1, k4, q0, q1, kt, kst, k120] <;> first | rfl | decide, ?_⟩
            refine ⟨by simp only [wI_M, wI_1, wI_w, b1, r10, r11, r12, r13, r14, b18, r182, k0, k1, k4, q0, q1, kt, kst, k120] <;> first | rfl | decide, ?_⟩
            refine ⟨⟨Nat.le_of_ble_eq_true rfl, Nat.le_of_ble_eq_true rfl, Nat.le_of_ble_eq_true rfl⟩, by simp only [wI_M, wI_1, wI_w, b1, r10, r11, r12, r13, r14, b18, r182, k0, k1, k4, q0, q1, kt, kst, k120] <;> first | rfl | decide, _, by simp only [wI_M, wI_1, wI_w, b1, r10, r11, r12, r13, r14, b18, r182, k0, k1, k4, q0, q1, kt, kst, k120]; exact V_notedAt (b := 4) (o := 8) hO rfl (by omega), ?_⟩
            rintro _ _ ⟨rfl, rfl⟩
            refine ⟨Or.inl rfl, ?_⟩
            (try simp only [wI_M, wI_1, wI_w, b1, r10, r11, r12, r13, r14, b18, r182, k0, k1, k4, q0, q1, kt, kst, k120, v3, v4, v12, v5, v13, v14, v15, v16, v1, v0, v17, v6, v7, v8, v9, v10, v11, v2, bI_e0, Classical.not_not] at h1)
            (try simp only [wI_M, wI_1, wI_w, b1, r10, r11, r12, r13, r14, b18, r182, k0, k1, k4, q0, q1, kt, kst, k120, v3, v4, v12, v5, v13, v14, v15, v16, v1, v0, v17, v6, v7, v8, v9, v10, v11, v2, bI_e0, Classical.not_not] at h2)
            (try simp only [wI_M, wI_1, wI_w, b1, r10, r11, r12, r13, r14, b18, r182, k0, k1, k4, q0, q1, kt, kst, k120, v3, v4, v12, v5, v13, v14, v15, v16, v1, v0, v17, v6, v7, v8, v9, v10, v11, v2, bI_e0, Classical.not_not] at h3)
            (try simp only [wI_M, wI_1, wI_w, b1, r10, r11, r12, r13, r14, b18, r182, k0, k1, k4, q0, q1, kt, kst, k120, v3, v4, v12, v5, v13, v14, v15, v16, v1, v0, v17, v6, v7, v8, v9, v10, v11, v2, bI_e0, Classical.not_not] at h4)
            (try simp only [wI_M, wI_1, wI_w, b1, r10, r11, r12, r13, r14, b18, r182, k0, k1, k4, q0, q1, kt, kst, k120, v3, v4, v12, v5, v13, v14, v15, v16, v1, v0, v17, v6, v7, v8, v9, v10, v11, v2, bI_e0, Classical.not_not] at h5)
            have gz : ¬ z < 0 ∧ ¬ 2 < z := ⟨h2, c_le.mp h3⟩
            have z2 : z = 2 := h5
            subst z2
            refine ⟨⟨Nat.zero_le _, Nat.zero_le _⟩, M, rfl, Jk.rf M, ?_⟩
            unfold aServ; rw [if_neg h1, if_pos gz, if_pos h4, if_neg (by decide), if_neg (by decide)]
            refine congrArg (fun v => Sum.inl (some (Value.int v))) ?_
            rw [ck (show q < 2147483648 by omega)]
        · (try simp only [wI_M, wI_1, wI_w, b1, r10, r11, r12, r13, r14, b18, r182, k0, k1, k4, q0, q1, kt, kst, k120, v3, v4, v12, v5, v13, v14, v15, v16, v1, v0, v17, v6, v7, v8, v9, v10, v11, v2, bI_e0, Classical.not_not] at h1)
          (try simp only [wI_M, wI_1, wI_w, b1, r10, r11, r12, r13, r14, b18, r182, k0, k1, k4, q0, q1, kt, kst, k120, v3, v4, v12, v5, v13, v14, v15, v16, v1, v0, v17, v6, v7, v8, v9, v10, v11, v2, bI_e0, Classical.not_not] at h2)
          (try simp only [wI_M, wI_1, wI_w, b1, r10, r11, r12, r13, r14, b18, r182, k0, k1, k4, q0, q1, kt, kst, k120, v3, v4, v12, v5, v13, v14, v15, v16, v1, v0, v17, v6, v7, v8, v9, v10, v11, v2, bI_e0, Classical.not_not] at h3)
          (try simp only [wI_M, wI_1, wI_w, b1, r10, r11, r12, r13, r14, b18, r182, k0, k1, k4, q0, q1, kt, kst, k120, v3, v4, v12, v5, v13, v14, v15, v16, v1, v0, v17, v6, v7, v8, v9, v10, v11, v2, bI_e0, Classical.not_not] at h4)
          have gz : ¬ z < 0 ∧ ¬ 2 < z := ⟨h2, c_le.mp h3⟩
          refine ⟨⟨Nat.zero_le _, Nat.zero_le _⟩, M, rfl, Jk.rf M, ?_⟩
          unfold aServ; rw [if_neg h1, if_pos gz, if_neg h4]
          refine congrArg (fun v => Sum.inl (some (Value.int v))) ?_
          rfl
      · (try simp only [wI_M, wI_1, wI_w, b1, r10, r11, r12, r13, r14, b18, r182, k0, k1, k4, q0, q1, kt, kst, k120, v3, v4, v12, v5, v13, v14, v15, v16, v1, v0, v17, v6, v7, v8, v9, v10, v11, v2, bI_e0, Classical.not_not] at h1)
        (try simp only [wI_M, wI_1, wI_w, b1, r10, r11, r12, r13, r14, b18, r182, k0, k1, k4, q0, q1, kt, kst, k120, v3, v4, v12, v5, v13, v14, v15, v16, v1, v0, v17, v6, v7, v8, v9, v10, v11, v2, bI_e0, Classical.not_not] at h2)
        (try simp only [wI_M, wI_1, wI_w, b1, r10, r11, r12, r13, r14, b18, r182, k0, k1, k4, q0, q1, kt, kst, k120, v3, v4, v12, v5, v13, v14, v15, v16, v1, v0, v17, v6, v7, v8, v9, v10, v11, v2, bI_e0, Classical.not_not] at h3)
        refine ⟨Nat.le_of_ble_eq_true rfl, ⟨by omega, Nat.le_of_ble_eq_true rfl, Nat.le_of_ble_eq_true rfl, rfl⟩, M, rfl, Jk.rf M, ?_⟩
        unfold aServ; rw [if_neg h1, if_neg (fun h_ => h_.2 (Int32.not_le.mp h3))]; rfl
set_option maxHeartbeats 1000000 in
theorem C_lastCut {d : Nat} {S : Sc} {M : Nat → Nat → Int32} {J : Nat → Nat → Int64} {BB : Nat} (hR : RgS S) (hI : I2 BB (vO M 4)) {x : Int32} : Wp (d + 8) 73 [.ref 1, .int x] (S, M, J) (fun rs w' => ∃ M', w' = (S, M', J) ∧ Jk M M' ∧ rs = cRs (fun c => 0) (aLast (vO M 4) x)) := by
  obtain ⟨hSt, hO, hOt, ⟨b1, r10, r11, r12, r13, r14⟩, ⟨b18, r182⟩, hH, hV⟩ := id hR
  have k0 : S.2.1 4 = 2 := hO.1.1
  have k1 : S.2.1 5 = 0 := hO.1.2.1
  have k4 : S.2.1 8 = 3 := hO.1.2.2.2.2.1
  have q0 : S.2.2.2 4 0 = 5 := hO.2.1.1
  have q1 : S.2.2.2 4 1 = 8 := hO.2.1.2.1
  have kt : S.2.1 11 = 2 := hOt.1.1
  have kst : S.2.1 2 = 5 := hSt.1
  have k120 : S.2.1 120 = 4 := hV.1
  have v3 : M 4 3 = vO M 4 3 := rfl
  have v4 : M 4 5 = vO M 4 4 := rfl
  have v12 : M 4 4 = vO M 4 12 := rfl
  have v5 : M 4 8 = vO M 4 5 := rfl
  have v13 : M 4 13 = vO M 4 13 := rfl
  have v14 : M 4 14 = vO M 4 14 := rfl
  have v15 : M 4 15 = vO M 4 15 := rfl
  have v16 : M 4 16 = vO M 4 16 := rfl
  have v1 : M 4 2 = vO M 4 1 := rfl
  have v0 : M 5 0 = vO M 4 0 := rfl
  have v17 : M 8 0 = vO M 4 17 := rfl
  have v6 : M 4 6 = vO M 4 6 := rfl
  have v7 : M 4 7 = vO M 4 7 := rfl
  have v8 : M 4 9 = vO M 4 8 := rfl
  have v9 : M 4 10 = vO M 4 9 := rfl
  have v10 : M 4 11 = vO M 4 10 := rfl
  have v11 : M 4 12 = vO M 4 11 := rfl
  have v2 : M 5 1 = vO M 4 2 := rfl
  obtain ⟨n, cur, hn3, hn, hcur, e0, e7⟩ := id hI.1.1
  have hc17 := hI.cnt
  refine ⟨rfl, ?_⟩
  refine EE.runN (stop := noStop) 80 _ ?_
  refine ⟨fun h1 => ?_, fun h1 => ?_⟩
  · refine ⟨by simp only [wI_M, wI_1, wI_w, b1, r10, r11, r12, r13, r14, b18, r182, k0, k1, k4, q0, q1, kt, kst, k120] <;> first | rfl | decide, ?_⟩
    refine ⟨by simp only [wI_M, wI_1, wI_w, b1, r10, r11, r12, r13, r14, b18, r182, k0, k1, k4, q0, q1, kt, kst, k120] <;> first | rfl | decide, ?_⟩
    (try simp only [wI_M, wI_1, wI_w, b1, r10, r11, r12, r13, r14, b18, r182, k0, k1, k4, q0, q1, kt, kst, k120, v3, v4, v12, v5, v13, v14, v15, v16, v1, v0, v17, v6, v7, v8, v9, v10, v11, v2, bI_e0, Classical.not_not] at h1)
    have gx := h1
    subst gx
    refine ⟨⟨Nat.zero_le _, Nat.zero_le _⟩, M, rfl, Jk.rf M, ?_⟩
    unfold aLast; rw [if_pos (by decide)]
    refine congrArg (fun v => Sum.inl (some (Value.int v))) ?_
    simp only [wI_M, wI_1, wI_w, b1, r10, r11, r12, r13, r14, b18, r182, k0, k1, k4, q0, q1, kt, kst, k120]; rfl
  refine ⟨fun h2 => ?_, fun h2 => ?_⟩
  · refine ⟨by simp only [wI_M, wI_1, wI_w, b1, r10, r11, r12, r13, r14, b18, r182, k0, k1, k4, q0, q1, kt, kst, k120] <;> first | rfl | decide, ?_⟩
    refine ⟨by simp only [wI_M, wI_1, wI_w, b1, r10, r11, r12, r13, r14, b18, r182, k0, k1, k4, q0, q1, kt, kst, k120] <;> first | rfl | decide, ?_⟩
    (try simp only [wI_M, wI_1, wI_w, b1, r10, r11, r12, r13, r14, b18, r182, k0, k1, k4, q0, q1, kt, kst, k120, v3, v4, v12, v5, v13, v14, v15, v16, v1, v0, v17, v6, v7, v8, v9, v10, v11, v2, bI_e0, Classical.not_not] at h1)
    (try simp only [wI_M, wI_1, wI_w, b1, r10, r11, r12, r13, r14, b18, r182, k0, k1, k4, q0, q1, kt, kst, k120, v3, v4, v12, v5, v13, v14, v15, v16, v1, v0, v17, v6, v7, v8, v9, v10, v11, v2, bI_e0, Classical.not_not] at h2)
    have gx := h2
    subst gx
    refine ⟨⟨Nat.zero_le _, Nat.zero_le _⟩, M, rfl, Jk.rf M, ?_⟩
    unfold aLast; rw [if_pos (by decide)]
    refine congrArg (fun v => Sum.inl (some (Value.int v))) ?_
    simp only [wI_M, wI_1, wI_w, b1, r10, r11, r12, r13, r14, b18, r182, k0, k1, k4, q0, q1, kt, kst, k120]; rfl
  refine ⟨fun h3 => ?_, fun h3 => ?_⟩
  · refine ⟨by simp only [wI_M, wI_1, wI_w, b1, r10, r11, r12, r13, r14, b18, r182, k0, k1, k4, q0, q1, kt, kst, k120] <;> first | rfl | decide, ?_⟩
    refine ⟨by simp only [wI_M, wI_1, wI_w, b1, r10, r11, r12, r13, r14, b18, r182, k0, k1, k4, q0, q1, kt, kst, k120] <;> first | rfl | decide, ?_⟩
    (try simp only [wI_M, wI_1, wI_w, b1, r10, r11, r12, r13, r14, b18, r182, k0, k1, k4, q0, q1, kt, kst, k120, v3, v4, v12, v5, v13, v14, v15, v16, v1, v0, v17, v6, v7, v8, v9, v10, v11, v2, bI_e0, Classical.not_not] at h1)
    (try simp only [wI_M, wI_1, wI_w, b1, r10, r11, r12, r13, r14, b18, r182, k0, k1, k4, q0, q1, kt, kst, k120, v3, v4, v12, v5, v13, v14, v15, v16, v1, v0, v17, v6, v7, v8, v9, v10, v11, v2, bI_e0, Classical.not_not] at h2)
    (try simp only [wI_M, wI_1, wI_w, b1, r10, r11, r12, r13, r14, b18, r182, k0, k1, k4, q0, q1, kt, kst, k120, v3, v4, v12, v5, v13, v14, v15, v16, v1, v0, v17, v6, v7, v8, v9, v10, v11, v2, bI_e0, Classical.not_not] at h3)
    have gx := h3
    subst gx
    refine ⟨⟨Nat.zero_le _, Nat.zero_le _⟩, M, rfl, Jk.rf M, ?_⟩
    unfold aLast; rw [if_pos (by decide)]
    refine congrArg (fun v => Sum.inl (some (Value.int v))) ?_
    simp only [wI_M, wI_1, wI_w, b1, r10, r11, r12, r13, r14, b18, r182, k0, k1, k4, q0, q1, kt, kst, k120]; rfl
  refine ⟨fun h4 => ?_, fun h4 => ?_⟩
  · refine ⟨by simp only [wI_M, wI_1, wI_w, b1, r10, r11, r12, r13, r14, b18, r182, k0, k1, k4, q0, q1, kt, kst, k120] <;> first | rfl | decide, ?_⟩
    refine ⟨by simp only [wI_M, wI_1, wI_w, b1, r10, r11, r12, r13, r14, b18, r182, k0, k1, k4, q0, q1, kt, kst, k120] <;> first | rfl | decide, ?_⟩
    (try simp only [wI_M, wI_1, wI_w, b1, r10, r11, r12, r13, r14, b18, r182, k0, k1, k4, q0, q1, kt, kst, k120, v3, v4, v12, v5, v13, v14, v15, v16, v1, v0, v17, v6, v7, v8, v9, v10, v11, v2, bI_e0, Classical.not_not] at h1)
    (try simp only [wI_M, wI_1, wI_w, b1, r10, r11, r12, r13, r14, b18, r182, k0, k1, k4, q0, q1, kt, kst, k120, v3, v4, v12, v5, v13, v14, v15, v16, v1, v0, v17, v6, v7, v8, v9, v10, v11, v2, bI_e0, Classical.not_not] at h2)
    (try simp only [wI_M, wI_1, wI_w, b1, r10, r11, r12, r13, r14, b18, r182, k0, k1, k4, q0, q1, kt, kst, k120, v3, v4, v12, v5, v13, v14, v15, v16, v1, v0, v17, v6, v7, v8, v9, v10, v11, v2, bI_e0, Classical.not_not] at h3)
    (try simp only [wI_M, wI_1, wI_w, b1, r10, r11, r12, r13, r14, b18, r182, k0, k1, k4, q0, q1, kt, kst, k120, v3, v4, v12, v5, v13, v14, v15, v16, v1, v0, v17, v6, v7, v8, v9, v10, v11, v2, bI_e0, Classical.not_not] at h4)
    have gx := h4
    subst gx
    refine ⟨⟨Nat.zero_le _, Nat.zero_le _⟩, M, rfl, Jk.rf M, ?_⟩
    unfold aLast; rw [if_pos (by decide)]
    refine congrArg (fun v => Sum.inl (some (Value.int v))) ?_
    simp only [wI_M, wI_1, wI_w, b1, r10, r11, r12, r13, r14, b18, r182, k0, k1, k4, q0, q1, kt, kst, k120]; rfl
  (try simp only [wI_M, wI_1, wI_w, b1, r10, r11, r12, r13, r14, b18, r182, k0, k1, k4, q0, q1, kt, kst, k120, v3, v4, v12, v5, v13, v14, v15, v16, v1, v0, v17, v6, v7, v8, v9, v10, v11, v2, bI_e0, Classical.not_not] at h1)
  (try simp only [wI_M, wI_1, wI_w, b1, r10, r11, r12, r13, r14, b18, r182, k0, k1, k4, q0, q1, kt, kst, k120, v3, v4, v12, v5, v13, v14, v15, v16, v1, v0, v17, v6, v7, v8, v9, v10, v11, v2, bI_e0, Classical.not_not] at h2)
  (try simp only [wI_M, wI_1, wI_w, b1, r10, r11, r12, r13, r14, b18, r182, k0, k1, k4, q0, q1, kt, kst, k120, v3, v4, v12, v5, v13, v14, v15, v16, v1, v0, v17, v6, v7, v8, v9, v10, v11, v2, bI_e0, Classical.not_not] at h3)
  (try simp only [wI_M, wI_1, wI_w, b1, r10, r11, r12, r13, r14, b18, r182, k0, k1, k4, q0, q1, kt, kst, k120, v3, v4, v12, v5, v13, v14, v15, v16, v1, v0, v17, v6, v7, v8, v9, v10, v11, v2, bI_e0, Classical.not_not] at h4)
  have gn : ¬ (¬ x < 0 ∧ ¬ 3 < x) := by
    intro g
    obtain ⟨q, hq, rfl⟩ := in_nat (k := 3) rfl (by omega) g
    rcases (by omega : q = 0 ∨ q = 1 ∨ q = 2 ∨ q = 3) with e | e | e | e <;> subst e
    · exact h1 rfl
    · exact h2 rfl
    · exact h3 rfl
    · exact h4 rfl
  refine ⟨Nat.le_of_ble_eq_true rfl, ⟨by omega, Nat.le_of_ble_eq_true rfl, Nat.le_of_ble_eq_true rfl, rfl⟩, M, rfl, Jk.rf M, ?_⟩
  unfold aLast; rw [if_neg gn]; rfl
set_option maxHeartbeats 1000000 in
theorem C_dueIn {d : Nat} {S : Sc} {M : Nat → Nat → Int32} {J : Nat → Nat → Int64} {BB : Nat} (hR : RgS S) (hI : I2 BB (vO M 4)) {x y z : Int32} : Wp (d + 9) 85 [.ref 1, .int x, .int y, .int z] (S, M, J) (fun rs w' => ∃ M', w' = (S, M', J) ∧ Jk M M' ∧ rs = cRs (fun c => if c = 1 then 0 else 1) (aDue (vO M 4) (vO M 4 17).toNatClampNeg x y z)) := by
  obtain ⟨hSt, hO, hOt, ⟨b1, r10, r11, r12, r13, r14⟩, ⟨b18, r182⟩, hH, hV⟩ := id hR
  have k0 : S.2.1 4 = 2 := hO.1.1
  have k1 : S.2.1 5 = 0 := hO.1.2.1
  have k4 : S.2.1 8 = 3 := hO.1.2.2.2.2.1
  have q0 : S.2.2.2 4 0 = 5 := hO.2.1.1
  have q1 : S.2.2.2 4 1 = 8 := hO.2.1.2.1
  have kt : S.2.1 11 = 2 := hOt.1.1
  have kst : S.2.1 2 = 5 := hSt.1
  have k120 : S.2.1 120 = 4 := hV.1
  have v3 : M 4 3 = vO M 4 3 := rfl
  have v4 : M 4 5 = vO M 4 4 := rfl
  have v12 : M 4 4 = vO M 4 12 := rfl
  have v5 : M 4 8 = vO M 4 5 := rfl
  have v13 : M 4 13 = vO M 4 13 := rfl
  have v14 : M 4 14 = vO M 4 14 := rfl
  have v15 : M 4 15 = vO M 4 15 := rfl
  have v16 : M 4 16 = vO M 4 16 := rfl
  have v1 : M 4 2 = vO M 4 1 := rfl
  have v0 : M 5 0 = vO M 4 0 := rfl
  have v17 : M 8 0 = vO M 4 17 := rfl
  have v6 : M 4 6 = vO M 4 6 := rfl
  have v7 : M 4 7 = vO M 4 7 := rfl
  have v8 : M 4 9 = vO M 4 8 := rfl
  have v9 : M 4 10 = vO M 4 9 := rfl
  have v10 : M 4 11 = vO M 4 10 := rfl
  have v11 : M 4 12 = vO M 4 11 := rfl
  have v2 : M 5 1 = vO M 4 2 := rfl
  obtain ⟨n, cur, hn3, hn, hcur, e0, e7⟩ := id hI.1.1
  have hc17 := hI.cnt
  refine ⟨rfl, ?_⟩
  refine EE.runN (stop := noStop) 80 _ ?_
  refine ⟨⟨Nat.le_of_ble_eq_true rfl, Nat.le_of_ble_eq_true rfl, Nat.le_of_ble_eq_true rfl⟩, _, T_isV, ?_⟩
  rintro _ _ ⟨rfl, rfl⟩
  refine ⟨Or.inl rfl, ?_⟩
  refine ⟨fun h1 => ?_, fun h1 => ?_⟩
  · (try simp only [wI_M, wI_1, wI_w, b1, r10, r11, r12, r13, r14, b18, r182, k0, k1, k4, q0, q1, kt, kst, k120, v3, v4, v12, v5, v13, v14, v15, v16, v1, v0, v17, v6, v7, v8, v9, v10, v11, v2, bI_e0, Classical.not_not] at h1)
    refine ⟨Nat.le_of_ble_eq_true rfl, ⟨by omega, Nat.le_of_ble_eq_true rfl, Nat.le_of_ble_eq_true rfl, rfl⟩, M, rfl, Jk.rf M, ?_⟩
    unfold aDue; rw [if_neg h1]; rfl
  · refine ⟨fun h2 => ?_, fun h2 => ?_⟩
    · (try simp only [wI_M, wI_1, wI_w, b1, r10, r11, r12, r13, r14, b18, r182, k0, k1, k4, q0, q1, kt, kst, k120, v3, v4, v12, v5, v13, v14, v15, v16, v1, v0, v17, v6, v7, v8, v9, v10, v11, v2, bI_e0, Classical.not_not] at h1)
      (try simp only [wI_M, wI_1, wI_w, b1, r10, r11, r12, r13, r14, b18, r182, k0, k1, k4, q0, q1, kt, kst, k120, v3, v4, v12, v5, v13, v14, v15, v16, v1, v0, v17, v6, v7, v8, v9, v10, v11, v2, bI_e0, Classical.not_not] at h2)
      refine ⟨Nat.le_of_ble_eq_true rfl, ⟨by omega, Nat.le_of_ble_eq_true rfl, Nat.le_of_ble_eq_true rfl, rfl⟩, M, rfl, Jk.rf M, ?_⟩
      unfold aDue; rw [if_pos h1, if_neg (fun h_ => h_.1 h2)]; rfl
    · refine ⟨fun h3 => ?_, fun h3 => ?_⟩
      · refine ⟨by simp only [wI_M, wI_1, wI_w, b1, r10, r11, r12, r13, r14, b18, r182, k0, k1, k4, q0, q1, kt, kst, k120] <;> first | rfl | decide, ?_⟩
        refine ⟨by simp only [wI_M, wI_1, wI_w, b1, r10, r11, r12, r13, r14, b18, r182, k0, k1, k4, q0, q1, kt, kst, k120] <;> first | rfl | decide, ?_⟩
        refine ⟨fun h4 => ?_, fun h4 => ?_⟩
        · refine ⟨by simp only [wI_M, wI_1, wI_w, b1, r10, r11, r12, r13, r14, b18, r182, k0, k1, k4, q0, q1, kt, kst, k120] <;> first | rfl | decide, ?_⟩
          refine ⟨by simp only [wI_M, wI_1, wI_w, b1, r10, r11, r12, r13, r14, b18, r182, k0, k1, k4, q0, q1, kt, kst, k120] <;> first | rfl | decide, ?_⟩
          refine ⟨⟨Nat.le_of_ble_eq_true rfl, Nat.le_of_ble_eq_true rfl, Nat.le_of_ble_eq_true rfl⟩, by simp only [wI_M, wI_1, wI_w, b1, r10, r11, r12, r13, r14, b18, r182, k0, k1, k4, q0, q1, kt, kst, k120] <;> first | rfl | decide, _, by simp only [wI_M, wI_1, wI_w, b1, r10, r11, r12, r13, r14, b18, r182, k0, k1, k4, q0, q1, kt, kst, k120]; exact V_placeOf (b := 4) (o := 8) hO rfl hc17.2 hc17.1 hI.dst, ?_⟩
          rintro _ _ ⟨rfl, rfl⟩
          refine ⟨Or.inl rfl, ?_⟩
          refine ⟨fun h5 => ?_, fun h5 => ?_⟩
          · have g_ := h5
            obtain ⟨i, hi, hf⟩ := (rFnd_or (vO M 4) (10 * x + y) (vO M 4 17).toNatClampNeg).resolve_left g_
            refine ⟨by simp only [wI_M, wI_1, wI_w, b1, r10, r11, r12, r13, r14, b18, r182, k0, k1, k4, q0, q1, kt, kst, k120] <;> first | rfl | decide, ?_⟩
            refine ⟨by simp only [wI_M, wI_1, wI_w, b1, r10, r11, r12, r13, r14, b18, r182, k0, k1, k4, q0, q1, kt, kst, k120] <;> first | rfl | decide, ?_⟩
            refine ⟨⟨Nat.le_of_ble_eq_true rfl, Nat.le_of_ble_eq_true rfl, Nat.le_of_ble_eq_true rfl⟩, by simp only [wI_M, wI_1, wI_w, b1, r10, r11, r12, r13, r14, b18, r182, k0, k1, k4, q0, q1, kt, kst, k120] <;> first | rfl | decide, _, by simp only [wI_M, wI_1, wI_w, b1, r10, r11, r12, r13, r14, b18, r182, k0, k1, k4, q0, q1, kt, kst, k120, hf]; exact V_notedAt (b := 4) (o := 8) hO rfl (by omega), ?_⟩
            rintro _ _ ⟨rfl, rfl⟩
            refine ⟨Or.inl rfl, ?_⟩
            refine ⟨by simp only [wI_M, wI_1, wI_w, b1, r10, r11, r12, r13, r14, b18, r182, k0, k1, k4, q0, q1, kt, kst, k120] <;> first | rfl | decide, ?_⟩
            refine ⟨by simp only [wI_M, wI_1, wI_w, b1, r10, r11, r12, r13, r14, b18, r182, k0, k1, k4, q0, q1, kt, kst, k120] <;> first | rfl | decide, ?_⟩
            (try simp only [wI_M, wI_1, wI_w, b1, r10, r11, r12, r13, r14, b18, r182, k0, k1, k4, q0, q1, kt, kst, k120, v3, v4, v12, v5, v13, v14, v15, v16, v1, v0, v17, v6, v7, v8, v9, v10, v11, v2, bI_e0, Classical.not_not] at h1)
            (try simp only [wI_M, wI_1, wI_w, b1, r10, r11, r12, r13, r14, b18, r182, k0, k1, k4, q0, q1, kt, kst, k120, v3, v4, v12, v5, v13, v14, v15, v16, v1, v0, v17, v6, v7, v8, v9, v10, v11, v2, bI_e0, Classical.not_not] at h2)
            (try simp only [wI_M, wI_1, wI_w, b1, r10, r11, r12, r13, r14, b18, r182, k0, k1, k4, q0, q1, kt, kst, k120, v3, v4, v12, v5, v13, v14, v15, v16, v1, v0, v17, v6, v7, v8, v9, v10, v11, v2, bI_e0, Classical.not_not] at h3)
            (try simp only [wI_M, wI_1, wI_w, b1, r10, r11, r12, r13, r14, b18, r182, k0, k1, k4, q0, q1, kt, kst, k120, v3, v4, v12, v5, v13, v14, v15, v16, v1, v0, v17, v6, v7, v8, v9, v10, v11, v2, bI_e0, Classical.not_not] at h4)
            (try simp only [wI_M, wI_1, wI_w, b1, r10, r11, r12, r13, r14, b18, r182, k0, k1, k4, q0, q1, kt, kst, k120, v3, v4, v12, v5, v13, v14, v15, v16, v1, v0, v17, v6, v7, v8, v9, v10, v11, v2, bI_e0, Classical.not_not] at h5)
            have gz : ¬ z < 1 ∧ ¬ 9999 < z := ⟨h2, c_le.mp h3⟩
            refine ⟨⟨Nat.zero_le _, Nat.zero_le _⟩, M, rfl, Jk.rf M, ?_⟩
            unfold aDue; rw [if_pos h1, if_pos gz, if_neg h4, if_neg h5]
            refine congrArg (fun v => Sum.inl (some (Value.int v))) ?_
            simp only [wI_M, wI_1, wI_w, b1, r10, r11, r12, r13, r14, b18, r182, k0, k1, k4, q0, q1, kt, kst, k120, v3, v4, v12, v5, v13, v14, v15, v16, v1, v0, v17, v6, v7, v8, v9, v10, v11, v2, bI_e0, Classical.not_not, hf, ck (show i < 2147483648 by omega)]
          · (try simp only [wI_M, wI_1, wI_w, b1, r10, r11, r12, r13, r14, b18, r182, k0, k1, k4, q0, q1, kt, kst, k120, v3, v4, v12, v5, v13, v14, v15, v16, v1, v0, v17, v6, v7, v8, v9, v10, v11, v2, bI_e0, Classical.not_not] at h1)
            (try simp only [wI_M, wI_1, wI_w, b1, r10, r11, r12, r13, r14, b18, r182, k0, k1, k4, q0, q1, kt, kst, k120, v3, v4, v12, v5, v13, v14, v15, v16, v1, v0, v17, v6, v7, v8, v9, v10, v11, v2, bI_e0, Classical.not_not] at h2)
            (try simp only [wI_M, wI_1, wI_w, b1, r10, r11, r12, r13, r14, b18, r182, k0, k1, k4, q0, q1, kt, kst, k120, v3, v4, v12, v5, v13, v14, v15, v16, v1, v0, v17, v6, v7, v8, v9, v10, v11, v2, bI_e0, Classical.not_not] at h3)
            (try simp only [wI_M, wI_1, wI_w, b1, r10, r11, r12, r13, r14, b18, r182, k0, k1, k4, q0, q1, kt, kst, k120, v3, v4, v12, v5, v13, v14, v15, v16, v1, v0, v17, v6, v7, v8, v9, v10, v11, v2, bI_e0, Classical.not_not] at h4)
            (try simp only [wI_M, wI_1, wI_w, b1, r10, r11, r12, r13, r14, b18, r182, k0, k1, k4, q0, q1, kt, kst, k120, v3, v4, v12, v5, v13, v14, v15, v16, v1, v0, v17, v6, v7, v8, v9, v10, v11, v2, bI_e0, Classical.not_not] at h5)
            have gz : ¬ z < 1 ∧ ¬ 9999 < z := ⟨h2, c_le.mp h3⟩
            refine ⟨⟨Nat.zero_le _, Nat.zero_le _⟩, M, rfl, Jk.rf M, ?_⟩
            unfold aDue; rw [if_pos h1, if_pos gz, if_neg h4, if_pos h5]
            refine congrArg (fun v => Sum.inl (some (Value.int v))) ?_
            rfl
        · (try simp only [wI_M, wI_1, wI_w, b1, r10, r11, r12, r13, r14, b18, r182, k0, k1, k4, q0, q1, kt, kst, k120, v3, v4, v12, v5, v13, v14, v15, v16, v1, v0, v17, v6, v7, v8, v9, v10, v11, v2, bI_e0, Classical.not_not] at h1)
          (try simp only [wI_M, wI_1, wI_w, b1, r10, r11, r12, r13, r14, b18, r182, k0, k1, k4, q0, q1, kt, kst, k120, v3, v4, v12, v5, v13, v14, v15, v16, v1, v0, v17, v6, v7, v8, v9, v10, v11, v2, bI_e0, Classical.not_not] at h2)
          (try simp only [wI_M, wI_1, wI_w, b1, r10, r11, r12, r13, r14, b18, r182, k0, k1, k4, q0, q1, kt, kst, k120, v3, v4, v12, v5, v13, v14, v15, v16, v1, v0, v17, v6, v7, v8, v9, v10, v11, v2, bI_e0, Classical.not_not] at h3)
          (try simp only [wI_M, wI_1, wI_w, b1, r10, r11, r12, r13, r14, b18, r182, k0, k1, k4, q0, q1, kt, kst, k120, v3, v4, v12, v5, v13, v14, v15, v16, v1, v0, v17, v6, v7, v8, v9, v10, v11, v2, bI_e0, Classical.not_not] at h4)
          have gz : ¬ z < 1 ∧ ¬ 9999 < z := ⟨h2, c_le.mp h3⟩
          refine ⟨Nat.le_of_ble_eq_true rfl, ⟨by omega, Nat.le_of_ble_eq_true rfl, Nat.le_of_ble_eq_true rfl, rfl⟩, M, rfl, Jk.rf M, ?_⟩
          unfold aDue; rw [if_pos h1, if_pos gz, if_pos h4]; rfl
      · (try simp only [wI_M, wI_1, wI_w, b1, r10, r11, r12, r13, r14, b18, r182, k0, k1, k4, q0, q1, kt, kst, k120, v3, v4, v12, v5, v13, v14, v15, v16, v1, v0, v17, v6, v7, v8, v9, v10, v11, v2, bI_e0, Classical.not_not] at h1)
        (try simp only [wI_M, wI_1, wI_w, b1, r10, r11, r12, r13, r14, b18, r182, k0, k1, k4, q0, q1, kt, kst, k120, v3, v4, v12, v5, v13, v14, v15, v16, v1, v0, v17, v6, v7, v8, v9, v10, v11, v2, bI_e0, Classical.not_not] at h2)
        (try simp only [wI_M, wI_1, wI_w, b1, r10, r11, r12, r13, r14, b18, r182, k0, k1, k4, q0, q1, kt, kst, k120, v3, v4, v12, v5, v13, v14, v15, v16, v1, v0, v17, v6, v7, v8, v9, v10, v11, v2, bI_e0, Classical.not_not] at h3)
        refine ⟨Nat.le_of_ble_eq_true rfl, ⟨by omega, Nat.le_of_ble_eq_true rfl, Nat.le_of_ble_eq_true rfl, rfl⟩, M, rfl, Jk.rf M, ?_⟩
        unfold aDue; rw [if_pos h1, if_neg (fun h_ => h_.2 (Int32.not_le.mp h3))]; rfl
set_option maxHeartbeats 1000000 in
theorem C_dueFirst {d : Nat} {S : Sc} {M : Nat → Nat → Int32} {J : Nat → Nat → Int64} {BB : Nat} (hR : RgS S) (hI : I2 BB (vO M 4)) : Wp (d + 9) 86 [.ref 1] (S, M, J) (fun rs w' => ∃ M', w' = (S, M', J) ∧ Jk M M' ∧ rs = cRs (fun c => 0) (aFirst (vO M 4) (vO M 4 17).toNatClampNeg)) := by
  obtain ⟨hSt, hO, hOt, ⟨b1, r10, r11, r12, r13, r14⟩, ⟨b18, r182⟩, hH, hV⟩ := id hR
  have k0 : S.2.1 4 = 2 := hO.1.1
  have k1 : S.2.1 5 = 0 := hO.1.2.1
  have k4 : S.2.1 8 = 3 := hO.1.2.2.2.2.1
  have q0 : S.2.2.2 4 0 = 5 := hO.2.1.1
  have q1 : S.2.2.2 4 1 = 8 := hO.2.1.2.1
  have kt : S.2.1 11 = 2 := hOt.1.1
  have kst : S.2.1 2 = 5 := hSt.1
  have k120 : S.2.1 120 = 4 := hV.1
  have v3 : M 4 3 = vO M 4 3 := rfl
  have v4 : M 4 5 = vO M 4 4 := rfl
  have v12 : M 4 4 = vO M 4 12 := rfl
  have v5 : M 4 8 = vO M 4 5 := rfl
  have v13 : M 4 13 = vO M 4 13 := rfl
  have v14 : M 4 14 = vO M 4 14 := rfl
  have v15 : M 4 15 = vO M 4 15 := rfl
  have v16 : M 4 16 = vO M 4 16 := rfl
  have v1 : M 4 2 = vO M 4 1 := rfl
  have v0 : M 5 0 = vO M 4 0 := rfl
  have v17 : M 8 0 = vO M 4 17 := rfl
  have v6 : M 4 6 = vO M 4 6 := rfl
  have v7 : M 4 7 = vO M 4 7 := rfl
  have v8 : M 4 9 = vO M 4 8 := rfl
  have v9 : M 4 10 = vO M 4 9 := rfl
  have v10 : M 4 11 = vO M 4 10 := rfl
  have v11 : M 4 12 = vO M 4 11 := rfl
  have v2 : M 5 1 = vO M 4 2 := rfl
  obtain ⟨n, cur, hn3, hn, hcur, e0, e7⟩ := id hI.1.1
  have hc17 := hI.cnt
  refine ⟨rfl, ?_⟩
  refine EE.runN (stop := noStop) 80 _ ?_
  refine ⟨by simp only [wI_M, wI_1, wI_w, b1, r10, r11, r12, r13, r14, b18, r182, k0, k1, k4, q0, q1, kt, kst, k120] <;> first | rfl | decide, ?_⟩
  refine ⟨by simp only [wI_M, wI_1, wI_w, b1, r10, r11, r12, r13, r14, b18, r182, k0, k1, k4, q0, q1, kt, kst, k120] <;> first | rfl | decide, ?_⟩
  refine ⟨⟨Nat.le_of_ble_eq_true rfl, Nat.le_of_ble_eq_true rfl, Nat.le_of_ble_eq_true rfl⟩, by simp only [wI_M, wI_1, wI_w, b1, r10, r11, r12, r13, r14, b18, r182, k0, k1, k4, q0, q1, kt, kst, k120] <;> first | rfl | decide, _, by simp only [wI_M, wI_1, wI_w, b1, r10, r11, r12, r13, r14, b18, r182, k0, k1, k4, q0, q1, kt, kst, k120]; exact V_smallest (b := 4) (o := 8) hO rfl hc17.2 hc17.1, ?_⟩
  rintro _ _ ⟨rfl, rfl⟩
  refine ⟨Or.inl rfl, ?_⟩
  refine ⟨fun h1 => ?_, fun h1 => ?_⟩
  · obtain ⟨i, hi, hf⟩ := rSm_nat h1
    refine ⟨by simp only [wI_M, wI_1, wI_w, b1, r10, r11, r12, r13, r14, b18, r182, k0, k1, k4, q0, q1, kt, kst, k120] <;> first | rfl | decide, ?_⟩
    refine ⟨by simp only [wI_M, wI_1, wI_w, b1, r10, r11, r12, r13, r14, b18, r182, k0, k1, k4, q0, q1, kt, kst, k120] <;> first | rfl | decide, ?_⟩
    refine ⟨⟨Nat.le_of_ble_eq_true rfl, Nat.le_of_ble_eq_true rfl, Nat.le_of_ble_eq_true rfl⟩, by simp only [wI_M, wI_1, wI_w, b1, r10, r11, r12, r13, r14, b18, r182, k0, k1, k4, q0, q1, kt, kst, k120] <;> first | rfl | decide, _, by simp only [wI_M, wI_1, wI_w, b1, r10, r11, r12, r13, r14, b18, r182, k0, k1, k4, q0, q1, kt, kst, k120, hf]; exact V_codeAt (b := 4) (o := 8) hO rfl (by omega), ?_⟩
    rintro _ _ ⟨rfl, rfl⟩
    refine ⟨Or.inl rfl, ?_⟩
    (try simp only [wI_M, wI_1, wI_w, b1, r10, r11, r12, r13, r14, b18, r182, k0, k1, k4, q0, q1, kt, kst, k120, v3, v4, v12, v5, v13, v14, v15, v16, v1, v0, v17, v6, v7, v8, v9, v10, v11, v2, bI_e0, Classical.not_not] at h1)
    refine ⟨⟨Nat.zero_le _, Nat.zero_le _⟩, M, rfl, Jk.rf M, ?_⟩
    unfold aFirst; rw [if_neg h1]
    refine congrArg (fun v => Sum.inl (some (Value.int v))) ?_
    rw [hf, ck (show i < 2147483648 by omega)]
  · (try simp only [wI_M, wI_1, wI_w, b1, r10, r11, r12, r13, r14, b18, r182, k0, k1, k4, q0, q1, kt, kst, k120, v3, v4, v12, v5, v13, v14, v15, v16, v1, v0, v17, v6, v7, v8, v9, v10, v11, v2, bI_e0, Classical.not_not] at h1)
    refine ⟨⟨Nat.zero_le _, Nat.zero_le _⟩, M, rfl, Jk.rf M, ?_⟩
    unfold aFirst; rw [if_pos h1]
    refine congrArg (fun v => Sum.inl (some (Value.int v))) ?_
    rfl
