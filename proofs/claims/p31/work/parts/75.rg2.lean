/-! THE CLASS: about, deeds: written by wip/whole/pure3.py -/
theorem ps_le' (q : Nat) : (ps q).1 ≤ 6 := by
  unfold ps
  split
  · unfold ps0
    split <;> decide
  · split
    · dsimp only
      omega
    · dsimp only
      omega
theorem hRem_vO {M : Nat → Nat → Int32} {a y : Nat} : vO (hRem M a y) 4 = vO M 4 := by
  funext q
  unfold vO hRem
  have hs : (ps q).1 ≤ 6 := ps_le' q
  rw [upA_n _ _ (by omega), upA_n _ _ (by omega), sO_ot _ _ _ (Or.inl (by omega))]
theorem sO_set {M : Nat → Nat → Int32} {x : Int32} : upA M 4 (upd (M 4) 2 x) = sO M 4 (upd (vO M 4) 1 x) := by
  have := wr0_2 M 4 (vO M 4) x
  rw [sO_vO] at this
  exact this
set_option maxHeartbeats 2000000 in
theorem V_tellD {d : Nat} {S : Sc} {M : Nat → Nat → Int32} {J : Nat → Nat → Int64} {BB : Nat} (hR : RgS S) (hI : I2 BB (vO M 4)) {q : Nat} (hq : 0 ≤ q) (hq2 : q ≤ 7) : Wp (d + 4) 22 [.ref 4, .int (nI q)] (S, M, J) (fun rs w' => rs = .inl (some (.int (vAbout (vO M 4) (vO M 4 0).toNatClampNeg q))) ∧ w' = (S, M, J)) := by
  obtain ⟨hSt, hO, hOt, ⟨b1, r10, r11, r12, r13, r14⟩, ⟨b18, r182⟩, hH, hV⟩ := id hR
  have k0 : S.2.1 4 = 2 := hO.1.1
  have k1 : S.2.1 5 = 0 := hO.1.2.1
  have k4 : S.2.1 8 = 3 := hO.1.2.2.2.2.1
  have q0 : S.2.2.2 4 0 = 5 := hO.2.1.1
  have q1 : S.2.2.2 4 1 = 8 := hO.2.1.2.1
  have kt : S.2.1 11 = 2 := hOt.1.1
  have kst : S.2.1 2 = 5 := hSt.1
  have k120 : S.2.1 120 = 4 := hV.1
  have v3 : M 4 3 = vO M 4 3 := rfl
  have v4 : M 4 5 = vO M 4 4 := rfl
  have v12 : M 4 4 = vO M 4 12 := rfl
  have v5 : M 4 8 = vO M 4 5 := rfl
  have v13 : M 4 13 = vO M 4 13 := rfl
  have v14 : M 4 14 = vO M 4 14 := rfl
  have v15 : M 4 15 = vO M 4 15 := rfl
  have v16 : M 4 16 = vO M 4 16 := rfl
  have v1 : M 4 2 = vO M 4 1 := rfl
  have v0 : M 5 0 = vO M 4 0 := rfl
  have v17 : M 8 0 = vO M 4 17 := rfl
  have v6 : M 4 6 = vO M 4 6 := rfl
  have v7 : M 4 7 = vO M 4 7 := rfl
  have v8 : M 4 9 = vO M 4 8 := rfl
  have v9 : M 4 10 = vO M 4 9 := rfl
  have v10 : M 4 11 = vO M 4 10 := rfl
  have v11 : M 4 12 = vO M 4 11 := rfl
  have v2 : M 5 1 = vO M 4 2 := rfl
  obtain ⟨n, cur, hn3, hn, hcur, e0, e7⟩ := id hI.1.1
  have hc17 := hI.cnt
  have ez : (vO M 4 0).toNatClampNeg = n := by rw [e0, ck (by omega)]
  rw [ez]
  rcases (by omega : q = 0 ∨ q = 1 ∨ q = 2 ∨ q = 3 ∨ q = 4 ∨ q = 5 ∨ q = 6 ∨ q = 7) with rfl | rfl | rfl | rfl | rfl | rfl | rfl | rfl
  · refine ⟨rfl, ?_⟩
    refine EE.runN (stop := noStop) 40 _ ?_
    refine ⟨fun _ => ?_, fun h => absurd rfl h⟩
    refine ⟨by simp only [wI_M, wI_1, wI_w, b1, r10, r11, r12, r13, r14, b18, r182, k0, k1, k4, q0, q1, kt, kst, k120] <;> first | rfl | decide, ?_⟩
    refine ⟨by simp only [wI_M, wI_1, wI_w, b1, r10, r11, r12, r13, r14, b18, r182, k0, k1, k4, q0, q1, kt, kst, k120] <;> first | rfl | decide, ?_⟩
    refine ⟨⟨Nat.zero_le _, Nat.zero_le _⟩, congrArg (fun v => Sum.inl (some (Value.int v))) ?_, rfl⟩
    unfold vAbout; rw [if_neg (by omega), if_neg (by omega), if_neg (by omega)]; simp only [wI_M, wI_1, wI_w, b1, r10, r11, r12, r13, r14, b18, r182, k0, k1, k4, q0, q1, kt, kst, k120, v3, v4, v12, v5, v13, v14, v15, v16, v1, v0, v17, v6, v7, v8, v9, v10, v11, v2, bI_e0, Classical.not_not]
  · refine ⟨rfl, ?_⟩
    refine EE.runN (stop := noStop) 40 _ ?_
    refine ⟨fun h => absurd h (by decide), fun _ => ?_⟩
    refine ⟨fun _ => ?_, fun h => absurd rfl h⟩
    refine ⟨by simp only [wI_M, wI_1, wI_w, b1, r10, r11, r12, r13, r14, b18, r182, k0, k1, k4, q0, q1, kt, kst, k120] <;> first | rfl | decide, ?_⟩
    refine ⟨⟨Nat.zero_le _, Nat.zero_le _⟩, congrArg (fun v => Sum.inl (some (Value.int v))) ?_, rfl⟩
    unfold vAbout; rw [if_neg (by omega), if_neg (by omega), if_neg (by omega)]; simp only [wI_M, wI_1, wI_w, b1, r10, r11, r12, r13, r14, b18, r182, k0, k1, k4, q0, q1, kt, kst, k120, v3, v4, v12, v5, v13, v14, v15, v16, v1, v0, v17, v6, v7, v8, v9, v10, v11, v2, bI_e0, Classical.not_not]
  · refine ⟨rfl, ?_⟩
    refine EE.runN (stop := noStop) 40 _ ?_
    refine ⟨fun h => absurd h (by decide), fun _ => ?_⟩
    refine ⟨fun h => absurd h (by decide), fun _ => ?_⟩
    refine ⟨fun _ => ?_, fun h => absurd rfl h⟩
    refine ⟨by simp only [wI_M, wI_1, wI_w, b1, r10, r11, r12, r13, r14, b18, r182, k0, k1, k4, q0, q1, kt, kst, k120] <;> first | rfl | decide, ?_⟩
    refine ⟨by simp only [wI_M, wI_1, wI_w, b1, r10, r11, r12, r13, r14, b18, r182, k0, k1, k4, q0, q1, kt, kst, k120] <;> first | rfl | decide, ?_⟩
    refine ⟨⟨Nat.zero_le _, Nat.zero_le _⟩, congrArg (fun v => Sum.inl (some (Value.int v))) ?_, rfl⟩
    unfold vAbout; rw [if_neg (by omega), if_neg (by omega), if_neg (by omega)]; simp only [wI_M, wI_1, wI_w, b1, r10, r11, r12, r13, r14, b18, r182, k0, k1, k4, q0, q1, kt, kst, k120, v3, v4, v12, v5, v13, v14, v15, v16, v1, v0, v17, v6, v7, v8, v9, v10, v11, v2, bI_e0, Classical.not_not]
  · refine ⟨rfl, ?_⟩
    refine EE.runN (stop := noStop) 40 _ ?_
    refine ⟨fun h => absurd h (by decide), fun _ => ?_⟩
    refine ⟨fun h => absurd h (by decide), fun _ => ?_⟩
    refine ⟨fun h => absurd h (by decide), fun _ => ?_⟩
    refine ⟨fun _ => ?_, fun h => absurd rfl h⟩
    refine ⟨by simp only [wI_M, wI_1, wI_w, b1, r10, r11, r12, r13, r14, b18, r182, k0, k1, k4, q0, q1, kt, kst, k120] <;> first | rfl | decide, ?_⟩
    refine ⟨fun h1 => ?_, fun h1 => ?_⟩
    · (try simp only [wI_M, wI_1, wI_w, b1, r10, r11, r12, r13, r14, b18, r182, k0, k1, k4, q0, q1, kt, kst, k120, v3, v4, v12, v5, v13, v14, v15, v16, v1, v0, v17, v6, v7, v8, v9, v10, v11, v2, bI_e0, Classical.not_not] at h1)
      refine ⟨⟨Nat.zero_le _, Nat.zero_le _⟩, congrArg (fun v => Sum.inl (some (Value.int v))) ?_, rfl⟩
      unfold vAbout; rw [if_neg (by omega), if_neg (by omega), if_neg (by omega)]; exact h1.symm
    · (try simp only [wI_M, wI_1, wI_w, b1, r10, r11, r12, r13, r14, b18, r182, k0, k1, k4, q0, q1, kt, kst, k120, v3, v4, v12, v5, v13, v14, v15, v16, v1, v0, v17, v6, v7, v8, v9, v10, v11, v2, bI_e0, Classical.not_not] at h1)
      refine ⟨⟨Nat.zero_le _, Nat.zero_le _⟩, congrArg (fun v => Sum.inl (some (Value.int v))) ?_, rfl⟩
      unfold vAbout; rw [if_neg (by omega), if_neg (by omega), if_neg (by omega)]; exact (hI.1.2.1.1.resolve_left h1).symm
  · refine ⟨rfl, ?_⟩
    refine EE.runN (stop := noStop) 40 _ ?_
    refine ⟨fun h => absurd h (by decide), fun _ => ?_⟩
    refine ⟨fun h => absurd h (by decide), fun _ => ?_⟩
    refine ⟨fun h => absurd h (by decide), fun _ => ?_⟩
    refine ⟨fun h => absurd h (by decide), fun _ => ?_⟩
    refine ⟨fun _ => ?_, fun h => absurd rfl h⟩
    refine ⟨by simp only [wI_M, wI_1, wI_w, b1, r10, r11, r12, r13, r14, b18, r182, k0, k1, k4, q0, q1, kt, kst, k120] <;> first | rfl | decide, ?_⟩
    refine ⟨fun h1 => ?_, fun h1 => ?_⟩
    · (try simp only [wI_M, wI_1, wI_w, b1, r10, r11, r12, r13, r14, b18, r182, k0, k1, k4, q0, q1, kt, kst, k120, v3, v4, v12, v5, v13, v14, v15, v16, v1, v0, v17, v6, v7, v8, v9, v10, v11, v2, bI_e0, Classical.not_not] at h1)
      refine ⟨⟨Nat.zero_le _, Nat.zero_le _⟩, congrArg (fun v => Sum.inl (some (Value.int v))) ?_, rfl⟩
      unfold vAbout; rw [if_pos (by omega), if_pos h1]; first | done | simp only [wI_M, wI_1, wI_w, b1, r10, r11, r12, r13, r14, b18, r182, k0, k1, k4, q0, q1, kt, kst, k120, v3, v4, v12, v5, v13, v14, v15, v16, v1, v0, v17, v6, v7, v8, v9, v10, v11, v2, bI_e0, Classical.not_not]
    · refine ⟨by simp only [wI_M, wI_1, wI_w, b1, r10, r11, r12, r13, r14, b18, r182, k0, k1, k4, q0, q1, kt, kst, k120] <;> first | rfl | decide, ?_⟩
      (try simp only [wI_M, wI_1, wI_w, b1, r10, r11, r12, r13, r14, b18, r182, k0, k1, k4, q0, q1, kt, kst, k120, v3, v4, v12, v5, v13, v14, v15, v16, v1, v0, v17, v6, v7, v8, v9, v10, v11, v2, bI_e0, Classical.not_not] at h1)
      refine ⟨⟨Nat.zero_le _, Nat.zero_le _⟩, congrArg (fun v => Sum.inl (some (Value.int v))) ?_, rfl⟩
      unfold vAbout; rw [if_pos (by omega), if_neg h1]; first | done | simp only [wI_M, wI_1, wI_w, b1, r10, r11, r12, r13, r14, b18, r182, k0, k1, k4, q0, q1, kt, kst, k120, v3, v4, v12, v5, v13, v14, v15, v16, v1, v0, v17, v6, v7, v8, v9, v10, v11, v2, bI_e0, Classical.not_not]
  · refine ⟨rfl, ?_⟩
    refine EE.runN (stop := noStop) 40 _ ?_
    refine ⟨fun h => absurd h (by decide), fun _ => ?_⟩
    refine ⟨fun h => absurd h (by decide), fun _ => ?_⟩
    refine ⟨fun h => absurd h (by decide), fun _ => ?_⟩
    refine ⟨fun h => absurd h (by decide), fun _ => ?_⟩
    refine ⟨fun h => absurd h (by decide), fun _ => ?_⟩
    refine ⟨fun _ => ?_, fun h => absurd rfl h⟩
    refine ⟨by simp only [wI_M, wI_1, wI_w, b1, r10, r11, r12, r13, r14, b18, r182, k0, k1, k4, q0, q1, kt, kst, k120] <;> first | rfl | decide, ?_⟩
    refine ⟨⟨Nat.zero_le _, Nat.zero_le _⟩, congrArg (fun v => Sum.inl (some (Value.int v))) ?_, rfl⟩
    unfold vAbout; rw [if_neg (by omega), if_neg (by omega), if_neg (by omega)]; simp only [wI_M, wI_1, wI_w, b1, r10, r11, r12, r13, r14, b18, r182, k0, k1, k4, q0, q1, kt, kst, k120, v3, v4, v12, v5, v13, v14, v15, v16, v1, v0, v17, v6, v7, v8, v9, v10, v11, v2, bI_e0, Classical.not_not]
  · refine ⟨rfl, ?_⟩
    refine EE.runN (stop := noStop) 40 _ ?_
    refine ⟨fun h => absurd h (by decide), fun _ => ?_⟩
    refine ⟨fun h => absurd h (by decide), fun _ => ?_⟩
    refine ⟨fun h => absurd h (by decide), fun _ => ?_⟩
    refine ⟨fun h => absurd h (by decide), fun _ => ?_⟩
    refine ⟨fun h => absurd h (by decide), fun _ => ?_⟩
    refine ⟨fun h => absurd h (by decide), fun _ => ?_⟩
    refine ⟨fun _ => ?_, fun h => absurd rfl h⟩
    refine ⟨by simp only [wI_M, wI_1, wI_w, b1, r10, r11, r12, r13, r14, b18, r182, k0, k1, k4, q0, q1, kt, kst, k120] <;> first | rfl | decide, ?_⟩
    refine ⟨fun h1 => ?_, fun h1 => ?_⟩
    · (try simp only [wI_M, wI_1, wI_w, b1, r10, r11, r12, r13, r14, b18, r182, k0, k1, k4, q0, q1, kt, kst, k120, v3, v4, v12, v5, v13, v14, v15, v16, v1, v0, v17, v6, v7, v8, v9, v10, v11, v2, bI_e0, Classical.not_not] at h1)
      refine ⟨⟨Nat.zero_le _, Nat.zero_le _⟩, congrArg (fun v => Sum.inl (some (Value.int v))) ?_, rfl⟩
      unfold vAbout; rw [if_pos (by omega), if_pos h1]; first | done | simp only [wI_M, wI_1, wI_w, b1, r10, r11, r12, r13, r14, b18, r182, k0, k1, k4, q0, q1, kt, kst, k120, v3, v4, v12, v5, v13, v14, v15, v16, v1, v0, v17, v6, v7, v8, v9, v10, v11, v2, bI_e0, Classical.not_not]
    · refine ⟨by simp only [wI_M, wI_1, wI_w, b1, r10, r11, r12, r13, r14, b18, r182, k0, k1, k4, q0, q1, kt, kst, k120] <;> first | rfl | decide, ?_⟩
      (try simp only [wI_M, wI_1, wI_w, b1, r10, r11, r12, r13, r14, b18, r182, k0, k1, k4, q0, q1, kt, kst, k120, v3, v4, v12, v5, v13, v14, v15, v16, v1, v0, v17, v6, v7, v8, v9, v10, v11, v2, bI_e0, Classical.not_not] at h1)
      refine ⟨⟨Nat.zero_le _, Nat.zero_le _⟩, congrArg (fun v => Sum.inl (some (Value.int v))) ?_, rfl⟩
      unfold vAbout; rw [if_pos (by omega), if_neg h1]; first | done | simp only [wI_M, wI_1, wI_w, b1, r10, r11, r12, r13, r14, b18, r182, k0, k1, k4, q0, q1, kt, kst, k120, v3, v4, v12, v5, v13, v14, v15, v16, v1, v0, v17, v6, v7, v8, v9, v10, v11, v2, bI_e0, Classical.not_not]
  · refine ⟨rfl, ?_⟩
    refine EE.runN (stop := noStop) 40 _ ?_
    refine ⟨fun h => absurd h (by decide), fun _ => ?_⟩
    refine ⟨fun h => absurd h (by decide), fun _ => ?_⟩
    refine ⟨fun h => absurd h (by decide), fun _ => ?_⟩
    refine ⟨fun h => absurd h (by decide), fun _ => ?_⟩
    refine ⟨fun h => absurd h (by decide), fun _ => ?_⟩
    refine ⟨fun h => absurd h (by decide), fun _ => ?_⟩
    refine ⟨fun h => absurd h (by decide), fun _ => ?_⟩
    refine ⟨fun _ => ?_, fun h => absurd rfl h⟩
    refine ⟨by simp only [wI_M, wI_1, wI_w, b1, r10, r11, r12, r13, r14, b18, r182, k0, k1, k4, q0, q1, kt, kst, k120] <;> first | rfl | decide, ?_⟩
    refine ⟨fun h1 => ?_, fun h1 => ?_⟩
    · (try simp only [wI_M, wI_1, wI_w, b1, r10, r11, r12, r13, r14, b18, r182, k0, k1, k4, q0, q1, kt, kst, k120, v3, v4, v12, v5, v13, v14, v15, v16, v1, v0, v17, v6, v7, v8, v9, v10, v11, v2, bI_e0, Classical.not_not] at h1)
      refine ⟨⟨Nat.zero_le _, Nat.zero_le _⟩, congrArg (fun v => Sum.inl (some (Value.int v))) ?_, rfl⟩
      unfold vAbout; rw [if_pos (by omega), if_pos h1]; first | done | simp only [wI_M, wI_1, wI_w, b1, r10, r11, r12, r13, r14, b18, r182, k0, k1, k4, q0, q1, kt, kst, k120, v3, v4, v12, v5, v13, v14, v15, v16, v1, v0, v17, v6, v7, v8, v9, v10, v11, v2, bI_e0, Classical.not_not]
    · refine ⟨by simp only [wI_M, wI_1, wI_w, b1, r10, r11, r12, r13, r14, b18, r182, k0, k1, k4, q0, q1, kt, kst, k120] <;> first | rfl | decide, ?_⟩
      (try simp only [wI_M, wI_1, wI_w, b1, r10, r11, r12, r13, r14, b18, r182, k0, k1, k4, q0, q1, kt, kst, k120, v3, v4, v12, v5, v13, v14, v15, v16, v1, v0, v17, v6, v7, v8, v9, v10, v11, v2, bI_e0, Classical.not_not] at h1)
      refine ⟨⟨Nat.zero_le _, Nat.zero_le _⟩, congrArg (fun v => Sum.inl (some (Value.int v))) ?_, rfl⟩
      unfold vAbout; rw [if_pos (by omega), if_neg h1]; first | done | simp only [wI_M, wI_1, wI_w, b1, r10, r11, r12, r13, r14, b18, r182, k0, k1, k4, q0, q1, kt, kst, k120, v3, v4, v12, v5, v13, v14, v15, v16, v1, v0, v17, v6, v7, v8, v9, v10, v11, v2, bI_e0, Classical.not_not]
set_option maxHeartbeats 2000000 in
theorem V_tellM {d : Nat} {S : Sc} {M : Nat → Nat → Int32} {J : Nat → Nat → Int64} {BB : Nat} (hR : RgS S) (hI : I2 BB (vO M 4)) {q : Nat} (hq : 8 ≤ q) (hq2 : q ≤ 14) : Wp (d + 4) 23 [.ref 4, .int (nI q)] (S, M, J) (fun rs w' => rs = .inl (some (.int (vAbout (vO M 4) (vO M 4 0).toNatClampNeg q))) ∧ w' = (S, M, J)) := by
  obtain ⟨hSt, hO, hOt, ⟨b1, r10, r11, r12, r13, r14⟩, ⟨b18, r182⟩, hH, hV⟩ := id hR
  have k0 : S.2.1 4 = 2 := hO.1.1
  have k1 : S.2.1 5 = 0 := hO.1.2.1
  have k4 : S.2.1 8 = 3 := hO.1.2.2.2.2.1
  have q0 : S.2.2.2 4 0 = 5 := hO.2.1.1
  have q1 : S.2.2.2 4 1 = 8 := hO.2.1.2.1
  have kt : S.2.1 11 = 2 := hOt.1.1
  have kst : S.2.1 2 = 5 := hSt.1
  have k120 : S.2.1 120 = 4 := hV.1
  have v3 : M 4 3 = vO M 4 3 := rfl
  have v4 : M 4 5 = vO M 4 4 := rfl
  have v12 : M 4 4 = vO M 4 12 := rfl
  have v5 : M 4 8 = vO M 4 5 := rfl
  have v13 : M 4 13 = vO M 4 13 := rfl
  have v14 : M 4 14 = vO M 4 14 := rfl
  have v15 : M 4 15 = vO M 4 15 := rfl
  have v16 : M 4 16 = vO M 4 16 := rfl
  have v1 : M 4 2 = vO M 4 1 := rfl
  have v0 : M 5 0 = vO M 4 0 := rfl
  have v17 : M 8 0 = vO M 4 17 := rfl
  have v6 : M 4 6 = vO M 4 6 := rfl
  have v7 : M 4 7 = vO M 4 7 := rfl
  have v8 : M 4 9 = vO M 4 8 := rfl
  have v9 : M 4 10 = vO M 4 9 := rfl
  have v10 : M 4 11 = vO M 4 10 := rfl
  have v11 : M 4 12 = vO M 4 11 := rfl
  have v2 : M 5 1 = vO M 4 2 := rfl
  obtain ⟨n, cur, hn3, hn, hcur, e0, e7⟩ := id hI.1.1
  have hc17 := hI.cnt
  have ez : (vO M 4 0).toNatClampNeg = n := by rw [e0, ck (by omega)]
  rw [ez]
  rcases (by omega : q = 8 ∨ q = 9 ∨ q = 10 ∨ q = 11 ∨ q = 12 ∨ q = 13 ∨ q = 14) with rfl | rfl | rfl | rfl | rfl | rfl | rfl
  · refine ⟨rfl, ?_⟩
    refine EE.runN (stop := noStop) 40 _ ?_
    refine ⟨fun _ => ?_, fun h => absurd rfl h⟩
    refine ⟨by simp only [wI_M, wI_1, wI_w, b1, r10, r11, r12, r13, r14, b18, r182, k0, k1, k4, q0, q1, kt, kst, k120] <;> first | rfl | decide, ?_⟩
    refine ⟨⟨Nat.zero_le _, Nat.zero_le _⟩, congrArg (fun v => Sum.inl (some (Value.int v))) ?_, rfl⟩
    unfold vAbout; rw [if_neg (by omega), if_neg (by omega), if_neg (by omega)]; simp only [wI_M, wI_1, wI_w, b1, r10, r11, r12, r13, r14, b18, r182, k0, k1, k4, q0, q1, kt, kst, k120, v3, v4, v12, v5, v13, v14, v15, v16, v1, v0, v17, v6, v7, v8, v9, v10, v11, v2, bI_e0, Classical.not_not]
  · refine ⟨rfl, ?_⟩
    refine EE.runN (stop := noStop) 40 _ ?_
    refine ⟨fun h => absurd h (by decide), fun _ => ?_⟩
    refine ⟨fun _ => ?_, fun h => absurd rfl h⟩
    refine ⟨by simp only [wI_M, wI_1, wI_w, b1, r10, r11, r12, r13, r14, b18, r182, k0, k1, k4, q0, q1, kt, kst, k120] <;> first | rfl | decide, ?_⟩
    refine ⟨⟨Nat.zero_le _, Nat.zero_le _⟩, congrArg (fun v => Sum.inl (some (Value.int v))) ?_, rfl⟩
    unfold vAbout; rw [if_neg (by omega), if_neg (by omega), if_neg (by omega)]; simp only [wI_M, wI_1, wI_w, b1, r10, r11, r12, r13, r14, b18, r182, k0, k1, k4, q0, q1, kt, kst, k120, v3, v4, v12, v5, v13, v14, v15, v16, v1, v0, v17, v6, v7, v8, v9, v10, v11, v2, bI_e0, Classical.not_not]
  · refine ⟨rfl, ?_⟩
    refine EE.runN (stop := noStop) 40 _ ?_
    refine ⟨fun h => absurd h (by decide), fun _ => ?_⟩
    refine ⟨fun h => absurd h (by decide), fun _ => ?_⟩
    refine ⟨fun _ => ?_, fun h => absurd rfl h⟩
    refine ⟨by simp only [wI_M, wI_1, wI_w, b1, r10, r11, r12, r13, r14, b18, r182, k0, k1, k4, q0, q1, kt, kst, k120] <;> first | rfl | decide, ?_⟩
    refine ⟨⟨Nat.zero_le _, Nat.zero_le _⟩, congrArg (fun v => Sum.inl (some (Value.int v))) ?_, rfl⟩
    unfold vAbout; rw [if_neg (by omega), if_neg (by omega), if_neg (by omega)]; simp only [wI_M, wI_1, wI_w, b1, r10, r11, r12, r13, r14, b18, r182, k0, k1, k4, q0, q1, kt, kst, k120, v3, v4, v12, v5, v13, v14, v15, v16, v1, v0, v17, v6, v7, v8, v9, v10, v11, v2, bI_e0, Classical.not_not]
  · refine ⟨rfl, ?_⟩
    refine EE.runN (stop := noStop) 40 _ ?_
    refine ⟨fun h => absurd h (by decide), fun _ => ?_⟩
    refine ⟨fun h => absurd h (by decide), fun _ => ?_⟩
    refine ⟨fun h => absurd h (by decide), fun _ => ?_⟩
    refine ⟨fun _ => ?_, fun h => absurd rfl h⟩
    refine ⟨by simp only [wI_M, wI_1, wI_w, b1, r10, r11, r12, r13, r14, b18, r182, k0, k1, k4, q0, q1, kt, kst, k120] <;> first | rfl | decide, ?_⟩
    refine ⟨fun h1 => ?_, fun h1 => ?_⟩
    · refine ⟨by simp only [wI_M, wI_1, wI_w, b1, r10, r11, r12, r13, r14, b18, r182, k0, k1, k4, q0, q1, kt, kst, k120] <;> first | rfl | decide, ?_⟩
      (try simp only [wI_M, wI_1, wI_w, b1, r10, r11, r12, r13, r14, b18, r182, k0, k1, k4, q0, q1, kt, kst, k120, v3, v4, v12, v5, v13, v14, v15, v16, v1, v0, v17, v6, v7, v8, v9, v10, v11, v2, bI_e0, Classical.not_not] at h1)
      refine ⟨⟨Nat.zero_le _, Nat.zero_le _⟩, congrArg (fun v => Sum.inl (some (Value.int v))) ?_, rfl⟩
      unfold vAbout; rw [if_neg (by omega), if_neg (by omega), if_neg (by omega)]; simp only [wI_M, wI_1, wI_w, b1, r10, r11, r12, r13, r14, b18, r182, k0, k1, k4, q0, q1, kt, kst, k120, v3, v4, v12, v5, v13, v14, v15, v16, v1, v0, v17, v6, v7, v8, v9, v10, v11, v2, bI_e0, Classical.not_not]
    · (try simp only [wI_M, wI_1, wI_w, b1, r10, r11, r12, r13, r14, b18, r182, k0, k1, k4, q0, q1, kt, kst, k120, v3, v4, v12, v5, v13, v14, v15, v16, v1, v0, v17, v6, v7, v8, v9, v10, v11, v2, bI_e0, Classical.not_not] at h1)
      refine ⟨⟨Nat.zero_le _, Nat.zero_le _⟩, congrArg (fun v => Sum.inl (some (Value.int v))) ?_, rfl⟩
      unfold vAbout; rw [if_neg (by omega), if_neg (by omega), if_neg (by omega)]; exact (hI.2.1 h1).symm
  · refine ⟨rfl, ?_⟩
    refine EE.runN (stop := noStop) 40 _ ?_
    refine ⟨fun h => absurd h (by decide), fun _ => ?_⟩
    refine ⟨fun h => absurd h (by decide), fun _ => ?_⟩
    refine ⟨fun h => absurd h (by decide), fun _ => ?_⟩
    refine ⟨fun h => absurd h (by decide), fun _ => ?_⟩
    refine ⟨fun _ => ?_, fun h => absurd rfl h⟩
    refine ⟨by simp only [wI_M, wI_1, wI_w, b1, r10, r11, r12, r13, r14, b18, r182, k0, k1, k4, q0, q1, kt, kst, k120] <;> first | rfl | decide, ?_⟩
    refine ⟨fun h1 => ?_, fun h1 => ?_⟩
    · (try simp only [wI_M, wI_1, wI_w, b1, r10, r11, r12, r13, r14, b18, r182, k0, k1, k4, q0, q1, kt, kst, k120, v3, v4, v12, v5, v13, v14, v15, v16, v1, v0, v17, v6, v7, v8, v9, v10, v11, v2, bI_e0, Classical.not_not] at h1)
      refine ⟨⟨Nat.zero_le _, Nat.zero_le _⟩, congrArg (fun v => Sum.inl (some (Value.int v))) ?_, rfl⟩
      unfold vAbout; rw [if_neg (by omega), if_neg (by omega), if_neg (by omega)]; exact (hI.2.2 h1).symm
    · refine ⟨by simp only [wI_M, wI_1, wI_w, b1, r10, r11, r12, r13, r14, b18, r182, k0, k1, k4, q0, q1, kt, kst, k120] <;> first | rfl | decide, ?_⟩
      refine ⟨fun h2 => ?_, fun h2 => ?_⟩
      · (try simp only [wI_M, wI_1, wI_w, b1, r10, r11, r12, r13, r14, b18, r182, k0, k1, k4, q0, q1, kt, kst, k120, v3, v4, v12, v5, v13, v14, v15, v16, v1, v0, v17, v6, v7, v8, v9, v10, v11, v2, bI_e0, Classical.not_not] at h1)
        (try simp only [wI_M, wI_1, wI_w, b1, r10, r11, r12, r13, r14, b18, r182, k0, k1, k4, q0, q1, kt, kst, k120, v3, v4, v12, v5, v13, v14, v15, v16, v1, v0, v17, v6, v7, v8, v9, v10, v11, v2, bI_e0, Classical.not_not] at h2)
        refine ⟨⟨Nat.zero_le _, Nat.zero_le _⟩, congrArg (fun v => Sum.inl (some (Value.int v))) ?_, rfl⟩
        unfold vAbout; rw [if_neg (by omega), if_neg (by omega), if_neg (by omega)]; exact h2.symm
      · (try simp only [wI_M, wI_1, wI_w, b1, r10, r11, r12, r13, r14, b18, r182, k0, k1, k4, q0, q1, kt, kst, k120, v3, v4, v12, v5, v13, v14, v15, v16, v1, v0, v17, v6, v7, v8, v9, v10, v11, v2, bI_e0, Classical.not_not] at h1)
        (try simp only [wI_M, wI_1, wI_w, b1, r10, r11, r12, r13, r14, b18, r182, k0, k1, k4, q0, q1, kt, kst, k120, v3, v4, v12, v5, v13, v14, v15, v16, v1, v0, v17, v6, v7, v8, v9, v10, v11, v2, bI_e0, Classical.not_not] at h2)
        refine ⟨⟨Nat.zero_le _, Nat.zero_le _⟩, congrArg (fun v => Sum.inl (some (Value.int v))) ?_, rfl⟩
        unfold vAbout; rw [if_neg (by omega), if_neg (by omega), if_neg (by omega)]; exact (hI.1.2.1.2.resolve_left h2).symm
  · refine ⟨rfl, ?_⟩
    refine EE.runN (stop := noStop) 40 _ ?_
    refine ⟨fun h => absurd h (by decide), fun _ => ?_⟩
    refine ⟨fun h => absurd h (by decide), fun _ => ?_⟩
    refine ⟨fun h => absurd h (by decide), fun _ => ?_⟩
    refine ⟨fun h => absurd h (by decide), fun _ => ?_⟩
    refine ⟨fun h => absurd h (by decide), fun _ => ?_⟩
    refine ⟨fun _ => ?_, fun h => absurd rfl h⟩
    refine ⟨by simp only [wI_M, wI_1, wI_w, b1, r10, r11, r12, r13, r14, b18, r182, k0, k1, k4, q0, q1, kt, kst, k120] <;> first | rfl | decide, ?_⟩
    refine ⟨⟨Nat.le_of_ble_eq_true rfl, Nat.le_of_ble_eq_true rfl, Nat.le_of_ble_eq_true rfl⟩, by simp only [wI_M, wI_1, wI_w, b1, r10, r11, r12, r13, r14, b18, r182, k0, k1, k4, q0, q1, kt, kst, k120] <;> first | rfl | decide, _, by simp only [wI_M, wI_1, wI_w, b1, r10, r11, r12, r13, r14, b18, r182, k0, k1, k4, q0, q1, kt, kst, k120]; exact V_wearGap (b := 4) (o := 5) hO rfl e0 hn, ?_⟩
    rintro _ _ ⟨rfl, rfl⟩
    refine ⟨Or.inl rfl, ?_⟩
    refine ⟨⟨Nat.zero_le _, Nat.zero_le _⟩, congrArg (fun v => Sum.inl (some (Value.int v))) ?_, rfl⟩
    unfold vAbout; rw [if_neg (by omega), if_pos rfl]; exact gap_e hI.1.2.2.2.1 (by omega)
  · refine ⟨rfl, ?_⟩
    refine EE.runN (stop := noStop) 40 _ ?_
    refine ⟨fun h => absurd h (by decide), fun _ => ?_⟩
    refine ⟨fun h => absurd h (by decide), fun _ => ?_⟩
    refine ⟨fun h => absurd h (by decide), fun _ => ?_⟩
    refine ⟨fun h => absurd h (by decide), fun _ => ?_⟩
    refine ⟨fun h => absurd h (by decide), fun _ => ?_⟩
    refine ⟨fun h => absurd h (by decide), fun _ => ?_⟩
    refine ⟨fun _ => ?_, fun h => absurd rfl h⟩
    refine ⟨by simp only [wI_M, wI_1, wI_w, b1, r10, r11, r12, r13, r14, b18, r182, k0, k1, k4, q0, q1, kt, kst, k120] <;> first | rfl | decide, ?_⟩
    refine ⟨by simp only [wI_M, wI_1, wI_w, b1, r10, r11, r12, r13, r14, b18, r182, k0, k1, k4, q0, q1, kt, kst, k120] <;> first | rfl | decide, ?_⟩
    refine ⟨⟨Nat.zero_le _, Nat.zero_le _⟩, congrArg (fun v => Sum.inl (some (Value.int v))) ?_, rfl⟩
    unfold vAbout; rw [if_neg (by omega), if_neg (by omega), if_pos rfl]; simp only [wI_M, wI_1, wI_w, b1, r10, r11, r12, r13, r14, b18, r182, k0, k1, k4, q0, q1, kt, kst, k120, v3, v4, v12, v5, v13, v14, v15, v16, v1, v0, v17, v6, v7, v8, v9, v10, v11, v2, bI_e0, Classical.not_not]
set_option maxHeartbeats 1000000 in
theorem C_about {d : Nat} {S : Sc} {M : Nat → Nat → Int32} {J : Nat → Nat → Int64} {BB : Nat} (hR : RgS S) (hI : I2 BB (vO M 4)) {x : Int32} : Wp (d + 8) 67 [.ref 1, .int x] (S, M, J) (fun rs w' => ∃ M', w' = (S, M', J) ∧ Jk M M' ∧ rs = cRs (fun c => 0) (aAbout (vO M 4) (vO M 4 0).toNatClampNeg x)) := by
  obtain ⟨hSt, hO, hOt, ⟨b1, r10, r11, r12, r13, r14⟩, ⟨b18, r182⟩, hH, hV⟩ := id hR
  have k0 : S.2.1 4 = 2 := hO.1.1
  have k1 : S.2.1 5 = 0 := hO.1.2.1
  have k4 : S.2.1 8 = 3 := hO.1.2.2.2.2.1
  have q0 : S.2.2.2 4 0 = 5 := hO.2.1.1
  have q1 : S.2.2.2 4 1 = 8 := hO.2.1.2.1
  have kt : S.2.1 11 = 2 := hOt.1.1
  have kst : S.2.1 2 = 5 := hSt.1
  have k120 : S.2.1 120 = 4 := hV.1
  have v3 : M 4 3 = vO M 4 3 := rfl
  have v4 : M 4 5 = vO M 4 4 := rfl
  have v12 : M 4 4 = vO M 4 12 := rfl
  have v5 : M 4 8 = vO M 4 5 := rfl
  have v13 : M 4 13 = vO M 4 13 := rfl
  have v14 : M 4 14 = vO M 4 14 := rfl
  have v15 : M 4 15 = vO M 4 15 := rfl
  have v16 : M 4 16 = vO M 4 16 := rfl
  have v1 : M 4 2 = vO M 4 1 := rfl
  have v0 : M 5 0 = vO M 4 0 := rfl
  have v17 : M 8 0 = vO M 4 17 := rfl
  have v6 : M 4 6 = vO M 4 6 := rfl
  have v7 : M 4 7 = vO M 4 7 := rfl
  have v8 : M 4 9 = vO M 4 8 := rfl
  have v9 : M 4 10 = vO M 4 9 := rfl
  have v10 : M 4 11 = vO M 4 10 := rfl
  have v11 : M 4 12 = vO M 4 11 := rfl
  have v2 : M 5 1 = vO M 4 2 := rfl
  obtain ⟨n, cur, hn3, hn, hcur, e0, e7⟩ := id hI.1.1
  have hc17 := hI.cnt
  refine ⟨rfl, ?_⟩
  refine EE.runN (stop := noStop) 80 _ ?_
  refine ⟨fun h1 => ?_, fun h1 => ?_⟩
  · (try simp only [wI_M, wI_1, wI_w, b1, r10, r11, r12, r13, r14, b18, r182, k0, k1, k4, q0, q1, kt, kst, k120, v3, v4, v12, v5, v13, v14, v15, v16, v1, v0, v17, v6, v7, v8, v9, v10, v11, v2, bI_e0, Classical.not_not] at h1)
    refine ⟨Nat.le_of_ble_eq_true rfl, ⟨by omega, Nat.le_of_ble_eq_true rfl, Nat.le_of_ble_eq_true rfl, rfl⟩, M, rfl, Jk.rf M, ?_⟩
    unfold aAbout; rw [if_neg (fun h_ => h_.1 h1)]; rfl
  · refine ⟨fun h2 => ?_, fun h2 => ?_⟩
    · have gz : ¬ x < 0 ∧ ¬ 14 < x := ⟨h1, c_le.mp h2⟩
      obtain ⟨q, hq, rfl⟩ := in_nat (k := 14) rfl (by omega) gz
      refine ⟨fun h3 => ?_, fun h3 => ?_⟩
      · refine ⟨by simp only [wI_M, wI_1, wI_w, b1, r10, r11, r12, r13, r14, b18, r182, k0, k1, k4, q0, q1, kt, kst, k120] <;> first | rfl | decide, ?_⟩
        refine ⟨⟨Nat.le_of_ble_eq_true rfl, Nat.le_of_ble_eq_true rfl, Nat.le_of_ble_eq_true rfl⟩, by simp only [wI_M, wI_1, wI_w, b1, r10, r11, r12, r13, r14, b18, r182, k0, k1, k4, q0, q1, kt, kst, k120] <;> first | rfl | decide, _, by simp only [wI_M, wI_1, wI_w, b1, r10, r11, r12, r13, r14, b18, r182, k0, k1, k4, q0, q1, kt, kst, k120]; exact V_tellM hR hI (by have h_ := h3; rw [show (8 : Int32) = nI 8 from rfl, nI_leI (by omega) (by omega)] at h_; omega) (by omega), ?_⟩
        rintro _ _ ⟨rfl, rfl⟩
        refine ⟨Or.inl rfl, ?_⟩
        (try simp only [wI_M, wI_1, wI_w, b1, r10, r11, r12, r13, r14, b18, r182, k0, k1, k4, q0, q1, kt, kst, k120, v3, v4, v12, v5, v13, v14, v15, v16, v1, v0, v17, v6, v7, v8, v9, v10, v11, v2, bI_e0, Classical.not_not] at h1)
        (try simp only [wI_M, wI_1, wI_w, b1, r10, r11, r12, r13, r14, b18, r182, k0, k1, k4, q0, q1, kt, kst, k120, v3, v4, v12, v5, v13, v14, v15, v16, v1, v0, v17, v6, v7, v8, v9, v10, v11, v2, bI_e0, Classical.not_not] at h2)
        (try simp only [wI_M, wI_1, wI_w, b1, r10, r11, r12, r13, r14, b18, r182, k0, k1, k4, q0, q1, kt, kst, k120, v3, v4, v12, v5, v13, v14, v15, v16, v1, v0, v17, v6, v7, v8, v9, v10, v11, v2, bI_e0, Classical.not_not] at h3)
        refine ⟨⟨Nat.zero_le _, Nat.zero_le _⟩, M, rfl, Jk.rf M, ?_⟩
        unfold aAbout; rw [if_pos gz, ck (show q < 2147483648 by omega)]
        refine congrArg (fun v => Sum.inl (some (Value.int v))) ?_
        rfl
      · refine ⟨by simp only [wI_M, wI_1, wI_w, b1, r10, r11, r12, r13, r14, b18, r182, k0, k1, k4, q0, q1, kt, kst, k120] <;> first | rfl | decide, ?_⟩
        refine ⟨⟨Nat.le_of_ble_eq_true rfl, Nat.le_of_ble_eq_true rfl, Nat.le_of_ble_eq_true rfl⟩, by simp only [wI_M, wI_1, wI_w, b1, r10, r11, r12, r13, r14, b18, r182, k0, k1, k4, q0, q1, kt, kst, k120] <;> first | rfl | decide, _, by simp only [wI_M, wI_1, wI_w, b1, r10, r11, r12, r13, r14, b18, r182, k0, k1, k4, q0, q1, kt, kst, k120]; exact V_tellD hR hI (by omega) (by have h_ := h3; rw [show (8 : Int32) = nI 8 from rfl, nI_leI (by omega) (by omega)] at h_; omega), ?_⟩
        rintro _ _ ⟨rfl, rfl⟩
        refine ⟨Or.inl rfl, ?_⟩
        (try simp only [wI_M, wI_1, wI_w, b1, r10, r11, r12, r13, r14, b18, r182, k0, k1, k4, q0, q1, kt, kst, k120, v3, v4, v12, v5, v13, v14, v15, v16, v1, v0, v17, v6, v7, v8, v9, v10, v11, v2, bI_e0, Classical.not_not] at h1)
        (try simp only [wI_M, wI_1, wI_w, b1, r10, r11, r12, r13, r14, b18, r182, k0, k1, k4, q0, q1, kt, kst, k120, v3, v4, v12, v5, v13, v14, v15, v16, v1, v0, v17, v6, v7, v8, v9, v10, v11, v2, bI_e0, Classical.not_not] at h2)
        (try simp only [wI_M, wI_1, wI_w, b1, r10, r11, r12, r13, r14, b18, r182, k0, k1, k4, q0, q1, kt, kst, k120, v3, v4, v12, v5, v13, v14, v15, v16, v1, v0, v17, v6, v7, v8, v9, v10, v11, v2, bI_e0, Classical.not_not] at h3)
        refine ⟨⟨Nat.zero_le _, Nat.zero_le _⟩, M, rfl, Jk.rf M, ?_⟩
        unfold aAbout; rw [if_pos gz, ck (show q < 2147483648 by omega)]
        refine congrArg (fun v => Sum.inl (some (Value.int v))) ?_
        rfl
    · (try simp only [wI_M, wI_1, wI_w, b1, r10, r11, r12, r13, r14, b18, r182, k0, k1, k4, q0, q1, kt, kst, k120, v3, v4, v12, v5, v13, v14, v15, v16, v1, v0, v17, v6, v7, v8, v9, v10, v11, v2, bI_e0, Classical.not_not] at h1)
      (try simp only [wI_M, wI_1, wI_w, b1, r10, r11, r12, r13, r14, b18, r182, k0, k1, k4, q0, q1, kt, kst, k120, v3, v4, v12, v5, v13, v14, v15, v16, v1, v0, v17, v6, v7, v8, v9, v10, v11, v2, bI_e0, Classical.not_not] at h2)
      refine ⟨Nat.le_of_ble_eq_true rfl, ⟨by omega, Nat.le_of_ble_eq_true rfl, Nat.le_of_ble_eq_true rfl, rfl⟩, M, rfl, Jk.rf M, ?_⟩
      unfold aAbout; rw [if_neg (fun h_ => h_.2 (Int32.not_le.mp h2))]; rfl
set_option maxHeartbeats 1000000 in
theorem C_drive {d : Nat} {S : Sc} {M : Nat → Nat → Int32} {J : Nat → Nat → Int64} {BB : Nat} (hR : RgS S) (hI : I2 BB (vO M 4)) (hBB : BB < 1000000) {a y : Nat} (ha : a ≤ 14) (hy : y < 14) (h180 : M 18 0 = nI a) (h181 : M 18 1 = nI y) {x : Int32} : Wp (d + 9) 74 [.ref 1, .int x] (S, M, J) (fun rs w' => ∃ M', w' = (S, M', J) ∧ (¬ (aDrive (vO M 4) x).1 = 0 → M' = M) ∧ ((aDrive (vO M 4) x).1 = 0 → M' = sO (hRem M a y) 4 (rGo x.toNatClampNeg (vO M 4))) ∧ rs = cRs (fun c => if c = 1 then 0 else 1) (aDrive (vO M 4) x)) := by
  obtain ⟨hSt, hO, hOt, ⟨b1, r10, r11, r12, r13, r14⟩, ⟨b18, r182⟩, hH, hV⟩ := id hR
  have k0 : S.2.1 4 = 2 := hO.1.1
  have k1 : S.2.1 5 = 0 := hO.1.2.1
  have k4 : S.2.1 8 = 3 := hO.1.2.2.2.2.1
  have q0 : S.2.2.2 4 0 = 5 := hO.2.1.1
  have q1 : S.2.2.2 4 1 = 8 := hO.2.1.2.1
  have kt : S.2.1 11 = 2 := hOt.1.1
  have kst : S.2.1 2 = 5 := hSt.1
  have k120 : S.2.1 120 = 4 := hV.1
  have v3 : M 4 3 = vO M 4 3 := rfl
  have v4 : M 4 5 = vO M 4 4 := rfl
  have v12 : M 4 4 = vO M 4 12 := rfl
  have v5 : M 4 8 = vO M 4 5 := rfl
  have v13 : M 4 13 = vO M 4 13 := rfl
  have v14 : M 4 14 = vO M 4 14 := rfl
  have v15 : M 4 15 = vO M 4 15 := rfl
  have v16 : M 4 16 = vO M 4 16 := rfl
  have v1 : M 4 2 = vO M 4 1 := rfl
  have v0 : M 5 0 = vO M 4 0 := rfl
  have v17 : M 8 0 = vO M 4 17 := rfl
  have v6 : M 4 6 = vO M 4 6 := rfl
  have v7 : M 4 7 = vO M 4 7 := rfl
  have v8 : M 4 9 = vO M 4 8 := rfl
  have v9 : M 4 10 = vO M 4 9 := rfl
  have v10 : M 4 11 = vO M 4 10 := rfl
  have v11 : M 4 12 = vO M 4 11 := rfl
  have v2 : M 5 1 = vO M 4 2 := rfl
  obtain ⟨n, cur, hn3, hn, hcur, e0, e7⟩ := id hI.1.1
  have hc17 := hI.cnt
  have hB3 := bok3 hI.1.2.1
  obtain ⟨N, hN⟩ : ∃ N, N = hRem M a y := ⟨_, rfl⟩
  have eN : vO N 4 = vO M 4 := by rw [hN, hRem_vO]
  have hIN : I2 BB (vO N 4) := by rw [eN]; exact hI
  refine ⟨rfl, ?_⟩
  refine EE.runN (stop := noStop) 80 _ ?_
  refine ⟨⟨Nat.le_of_ble_eq_true rfl, Nat.le_of_ble_eq_true rfl, Nat.le_of_ble_eq_true rfl⟩, _, T_isT, ?_⟩
  rintro _ _ ⟨rfl, rfl⟩
  refine ⟨Or.inl rfl, ?_⟩
  refine ⟨fun h1 => ?_, fun h1 => ?_⟩
  · refine ⟨by simp only [wI_M, wI_1, wI_w, b1, r10, r11, r12, r13, r14, b18, r182, k0, k1, k4, q0, q1, kt, kst, k120] <;> first | rfl | decide, ?_⟩
    refine ⟨by simp only [wI_M, wI_1, wI_w, b1, r10, r11, r12, r13, r14, b18, r182, k0, k1, k4, q0, q1, kt, kst, k120] <;> first | rfl | decide, ?_⟩
    refine ⟨fun h2 => ?_, fun h2 => ?_⟩
    · have g_ := h1
      simp only [wI_M, wI_1, wI_w, b1, r10, r11, r12, r13, r14, b18, r182, k0, k1, k4, q0, q1, kt, kst, k120, v3, v4, v12, v5, v13, v14, v15, v16, v1, v0, v17, v6, v7, v8, v9, v10, v11, v2, bI_e0, Classical.not_not] at g_
      obtain ⟨q, hq1, hq, rfl⟩ := in_nat1 (k := 999) rfl (by omega) g_
      refine ⟨by simp only [wI_M, wI_1, wI_w, b1, r10, r11, r12, r13, r14, b18, r182, k0, k1, k4, q0, q1, kt, kst, k120] <;> first | rfl | decide, ?_⟩
      refine ⟨by simp only [wI_M, wI_1, wI_w, b1, r10, r11, r12, r13, r14, b18, r182, k0, k1, k4, q0, q1, kt, kst, k120] <;> first | rfl | decide, ?_⟩
      refine ⟨⟨Nat.le_of_ble_eq_true rfl, Nat.le_of_ble_eq_true rfl, Nat.le_of_ble_eq_true rfl⟩, by simp only [wI_M, wI_1, wI_w, b1, r10, r11, r12, r13, r14, b18, r182, k0, k1, k4, q0, q1, kt, kst, k120] <;> first | rfl | decide, _, by simp only [r11, r13]; exact T_remember hR ha hy h180 h181 hI.1.2.1.1 hI.1.2.1.2, ?_⟩
      rintro _ w1 ⟨rfl, hw⟩
      have hw : w1 = (S, N, J) := by rw [hw, hN]
      subst hw
      refine ⟨Or.inl rfl, ?_⟩
      refine ⟨by simp only [wI_M, wI_1, wI_w, b1, r10, r11, r12, r13, r14, b18, r182, k0, k1, k4, q0, q1, kt, kst, k120] <;> first | rfl | decide, ?_⟩
      refine ⟨⟨Nat.le_of_ble_eq_true rfl, Nat.le_of_ble_eq_true rfl, Nat.le_of_ble_eq_true rfl⟩, by simp only [wI_M, wI_1, wI_w, b1, r10, r11, r12, r13, r14, b18, r182, k0, k1, k4, q0, q1, kt, kst, k120] <;> first | rfl | decide, _, by simp only [wI_M, wI_1, wI_w, b1, r10, r11, r12, r13, r14, b18, r182, k0, k1, k4, q0, q1, kt, kst, k120]; exact V_cGo (b := 4) hO (t := q) (by omega) hIN.1.1 hIN.1.2.1 hIN.1.2.2.1, ?_⟩
      rintro _ _ ⟨rfl, rfl⟩
      refine ⟨Or.inl rfl, ?_⟩
      (try simp only [wI_M, wI_1, wI_w, b1, r10, r11, r12, r13, r14, b18, r182, k0, k1, k4, q0, q1, kt, kst, k120, v3, v4, v12, v5, v13, v14, v15, v16, v1, v0, v17, v6, v7, v8, v9, v10, v11, v2, bI_e0, Classical.not_not] at h1)
      (try simp only [wI_M, wI_1, wI_w, b1, r10, r11, r12, r13, r14, b18, r182, k0, k1, k4, q0, q1, kt, kst, k120, v3, v4, v12, v5, v13, v14, v15, v16, v1, v0, v17, v6, v7, v8, v9, v10, v11, v2, bI_e0, Classical.not_not] at h2)
      refine ⟨⟨Nat.zero_le _, Nat.zero_le _⟩, _, rfl, ?_, ?_, ?_⟩
      · unfold aDrive; rw [if_pos h1, if_neg h2]; intro h_; exact absurd rfl h_
      · intro _; rw [eN, hN, ck (show q < 2147483648 by omega)]
      · unfold aDrive; rw [if_pos h1, if_neg h2]
        refine congrArg (fun v => Sum.inl (some (Value.int v))) ?_
        rw [eN, ck (show q < 2147483648 by omega)]
    · (try simp only [wI_M, wI_1, wI_w, b1, r10, r11, r12, r13, r14, b18, r182, k0, k1, k4, q0, q1, kt, kst, k120, v3, v4, v12, v5, v13, v14, v15, v16, v1, v0, v17, v6, v7, v8, v9, v10, v11, v2, bI_e0, Classical.not_not] at h1)
      (try simp only [wI_M, wI_1, wI_w, b1, r10, r11, r12, r13, r14, b18, r182, k0, k1, k4, q0, q1, kt, kst, k120, v3, v4, v12, v5, v13, v14, v15, v16, v1, v0, v17, v6, v7, v8, v9, v10, v11, v2, bI_e0, Classical.not_not] at h2)
      refine ⟨Nat.le_of_ble_eq_true rfl, ⟨by omega, Nat.le_of_ble_eq_true rfl, Nat.le_of_ble_eq_true rfl, rfl⟩, M, rfl, fun _ => rfl, ?_, ?_⟩
      · unfold aDrive; rw [if_pos h1, if_pos h2]; intro h_; exact absurd h_ (by decide)
      · unfold aDrive; rw [if_pos h1, if_pos h2]; rfl
  · (try simp only [wI_M, wI_1, wI_w, b1, r10, r11, r12, r13, r14, b18, r182, k0, k1, k4, q0, q1, kt, kst, k120, v3, v4, v12, v5, v13, v14, v15, v16, v1, v0, v17, v6, v7, v8, v9, v10, v11, v2, bI_e0, Classical.not_not] at h1)
    refine ⟨Nat.le_of_ble_eq_true rfl, ⟨by omega, Nat.le_of_ble_eq_true rfl, Nat.le_of_ble_eq_true rfl, rfl⟩, M, rfl, fun _ => rfl, ?_, ?_⟩
    · unfold aDrive; rw [if_neg h1]; intro h_; exact absurd h_ (by decide)
    · unfold aDrive; rw [if_neg h1]; rfl
set_option maxHeartbeats 1000000 in
theorem C_cut {d : Nat} {S : Sc} {M : Nat → Nat → Int32} {J : Nat → Nat → Int64} {BB : Nat} (hR : RgS S) (hI : I2 BB (vO M 4)) (hBB : BB < 1000000) {a y : Nat} (ha : a ≤ 14) (hy : y < 14) (h180 : M 18 0 = nI a) (h181 : M 18 1 = nI y) {u v : Int32} : Wp (d + 9) 75 [.ref 1, .int u, .int v] (S, M, J) (fun rs w' => ∃ M', w' = (S, M', J) ∧ (¬ (aCut (vO M 4) u v).1 = 0 → M' = M) ∧ ((aCut (vO M 4) u v).1 = 0 → M' = sO (hRem M a y) 4 (upd (upd (vO M 4) 10 u) 11 v)) ∧ rs = cRs (fun c => if c = 1 then 0 else 1) (aCut (vO M 4) u v)) := by
  obtain ⟨hSt, hO, hOt, ⟨b1, r10, r11, r12, r13, r14⟩, ⟨b18, r182⟩, hH, hV⟩ := id hR
  have k0 : S.2.1 4 = 2 := hO.1.1
  have k1 : S.2.1 5 = 0 := hO.1.2.1
  have k4 : S.2.1 8 = 3 := hO.1.2.2.2.2.1
  have q0 : S.2.2.2 4 0 = 5 := hO.2.1.1
  have q1 : S.2.2.2 4 1 = 8 := hO.2.1.2.1
  have kt : S.2.1 11 = 2 := hOt.1.1
  have kst : S.2.1 2 = 5 := hSt.1
  have k120 : S.2.1 120 = 4 := hV.1
  have v3 : M 4 3 = vO M 4 3 := rfl
  have v4 : M 4 5 = vO M 4 4 := rfl
  have v12 : M 4 4 = vO M 4 12 := rfl
  have v5 : M 4 8 = vO M 4 5 := rfl
  have v13 : M 4 13 = vO M 4 13 := rfl
  have v14 : M 4 14 = vO M 4 14 := rfl
  have v15 : M 4 15 = vO M 4 15 := rfl
  have v16 : M 4 16 = vO M 4 16 := rfl
  have v1 : M 4 2 = vO M 4 1 := rfl
  have v0 : M 5 0 = vO M 4 0 := rfl
  have v17 : M 8 0 = vO M 4 17 := rfl
  have v6 : M 4 6 = vO M 4 6 := rfl
  have v7 : M 4 7 = vO M 4 7 := rfl
  have v8 : M 4 9 = vO M 4 8 := rfl
  have v9 : M 4 10 = vO M 4 9 := rfl
  have v10 : M 4 11 = vO M 4 10 := rfl
  have v11 : M 4 12 = vO M 4 11 := rfl
  have v2 : M 5 1 = vO M 4 2 := rfl
  obtain ⟨n, cur, hn3, hn, hcur, e0, e7⟩ := id hI.1.1
  have hc17 := hI.cnt
  have hB3 := bok3 hI.1.2.1
  obtain ⟨N, hN⟩ : ∃ N, N = hRem M a y := ⟨_, rfl⟩
  have eN : vO N 4 = vO M 4 := by rw [hN, hRem_vO]
  have hIN : I2 BB (vO N 4) := by rw [eN]; exact hI
  refine ⟨rfl, ?_⟩
  refine EE.runN (stop := noStop) 80 _ ?_
  refine ⟨⟨Nat.le_of_ble_eq_true rfl, Nat.le_of_ble_eq_true rfl, Nat.le_of_ble_eq_true rfl⟩, _, T_isC, ?_⟩
  rintro _ _ ⟨rfl, rfl⟩
  refine ⟨Or.inl rfl, ?_⟩
  refine ⟨fun h1 => ?_, fun h1 => ?_⟩
  · refine ⟨by simp only [wI_M, wI_1, wI_w, b1, r10, r11, r12, r13, r14, b18, r182, k0, k1, k4, q0, q1, kt, kst, k120] <;> first | rfl | decide, ?_⟩
    refine ⟨by simp only [wI_M, wI_1, wI_w, b1, r10, r11, r12, r13, r14, b18, r182, k0, k1, k4, q0, q1, kt, kst, k120] <;> first | rfl | decide, ?_⟩
    refine ⟨fun h2 => ?_, fun h2 => ?_⟩
    · refine ⟨by simp only [wI_M, wI_1, wI_w, b1, r10, r11, r12, r13, r14, b18, r182, k0, k1, k4, q0, q1, kt, kst, k120] <;> first | rfl | decide, ?_⟩
      refine ⟨by simp only [wI_M, wI_1, wI_w, b1, r10, r11, r12, r13, r14, b18, r182, k0, k1, k4, q0, q1, kt, kst, k120] <;> first | rfl | decide, ?_⟩
      refine ⟨⟨Nat.le_of_ble_eq_true rfl, Nat.le_of_ble_eq_true rfl, Nat.le_of_ble_eq_true rfl⟩, by simp only [wI_M, wI_1, wI_w, b1, r10, r11, r12, r13, r14, b18, r182, k0, k1, k4, q0, q1, kt, kst, k120] <;> first | rfl | decide, _, by simp only [r11, r13]; exact T_remember hR ha hy h180 h181 hI.1.2.1.1 hI.1.2.1.2, ?_⟩
      rintro _ w1 ⟨rfl, hw⟩
      have hw : w1 = (S, N, J) := by rw [hw, hN]
      subst hw
      refine ⟨Or.inl rfl, ?_⟩
      refine ⟨by simp only [wI_M, wI_1, wI_w, b1, r10, r11, r12, r13, r14, b18, r182, k0, k1, k4, q0, q1, kt, kst, k120] <;> first | rfl | decide, ?_⟩
      refine ⟨⟨Nat.le_of_ble_eq_true rfl, Nat.le_of_ble_eq_true rfl, Nat.le_of_ble_eq_true rfl⟩, by simp only [wI_M, wI_1, wI_w, b1, r10, r11, r12, r13, r14, b18, r182, k0, k1, k4, q0, q1, kt, kst, k120] <;> first | rfl | decide, _, by simp only [wI_M, wI_1, wI_w, b1, r10, r11, r12, r13, r14, b18, r182, k0, k1, k4, q0, q1, kt, kst, k120]; exact V_setCut (b := 4) hO, ?_⟩
      rintro _ _ ⟨rfl, rfl⟩
      refine ⟨Or.inl rfl, ?_⟩
      (try simp only [wI_M, wI_1, wI_w, b1, r10, r11, r12, r13, r14, b18, r182, k0, k1, k4, q0, q1, kt, kst, k120, v3, v4, v12, v5, v13, v14, v15, v16, v1, v0, v17, v6, v7, v8, v9, v10, v11, v2, bI_e0, Classical.not_not] at h1)
      (try simp only [wI_M, wI_1, wI_w, b1, r10, r11, r12, r13, r14, b18, r182, k0, k1, k4, q0, q1, kt, kst, k120, v3, v4, v12, v5, v13, v14, v15, v16, v1, v0, v17, v6, v7, v8, v9, v10, v11, v2, bI_e0, Classical.not_not] at h2)
      refine ⟨⟨Nat.zero_le _, Nat.zero_le _⟩, _, rfl, ?_, ?_, ?_⟩
      · unfold aCut; rw [if_pos h1, if_neg h2]; intro h_; exact absurd rfl h_
      · intro _; rw [eN, hN]
      · unfold aCut; rw [if_pos h1, if_neg h2]
        refine congrArg (fun v => Sum.inl (some (Value.int v))) ?_
        rw [eN]
    · (try simp only [wI_M, wI_1, wI_w, b1, r10, r11, r12, r13, r14, b18, r182, k0, k1, k4, q0, q1, kt, kst, k120, v3, v4, v12, v5, v13, v14, v15, v16, v1, v0, v17, v6, v7, v8, v9, v10, v11, v2, bI_e0, Classical.not_not] at h1)
      (try simp only [wI_M, wI_1, wI_w, b1, r10, r11, r12, r13, r14, b18, r182, k0, k1, k4, q0, q1, kt, kst, k120, v3, v4, v12, v5, v13, v14, v15, v16, v1, v0, v17, v6, v7, v8, v9, v10, v11, v2, bI_e0, Classical.not_not] at h2)
      refine ⟨Nat.le_of_ble_eq_true rfl, ⟨by omega, Nat.le_of_ble_eq_true rfl, Nat.le_of_ble_eq_true rfl, rfl⟩, M, rfl, fun _ => rfl, ?_, ?_⟩
      · unfold aCut; rw [if_pos h1, if_pos h2]; intro h_; exact absurd h_ (by decide)
      · unfold aCut; rw [if_pos h1, if_pos h2]; rfl
  · (try simp only [wI_M, wI_1, wI_w, b1, r10, r11, r12, r13, r14, b18, r182, k0, k1, k4, q0, q1, kt, kst, k120, v3, v4, v12, v5, v13, v14, v15, v16, v1, v0, v17, v6, v7, v8, v9, v10, v11, v2, bI_e0, Classical.not_not] at h1)
    refine ⟨Nat.le_of_ble_eq_true rfl, ⟨by omega, Nat.le_of_ble_eq_true rfl, Nat.le_of_ble_eq_true rfl, rfl⟩, M, rfl, fun _ => rfl, ?_, ?_⟩
    · unfold aCut; rw [if_neg h1]; intro h_; exact absurd h_ (by decide)
    · unfold aCut; rw [if_neg h1]; rfl
set_option maxHeartbeats 1000000 in
theorem C_start {d : Nat} {S : Sc} {M : Nat → Nat → Int32} {J : Nat → Nat → Int64} {BB : Nat} (hR : RgS S) (hI : I2 BB (vO M 4)) (hBB : BB < 1000000) {a y : Nat} (ha : a ≤ 14) (hy : y < 14) (h180 : M 18 0 = nI a) (h181 : M 18 1 = nI y) : Wp (d + 9) 76 [.ref 1] (S, M, J) (fun rs w' => ∃ M', w' = (S, M', J) ∧ (¬ (aStart (vO M 4)).1 = 0 → M' = M) ∧ ((aStart (vO M 4)).1 = 0 → M' = sO (hRem M a y) 4 (rPower (vO M 4))) ∧ rs = cRs (fun c => 1) (aStart (vO M 4))) := by
  obtain ⟨hSt, hO, hOt, ⟨b1, r10, r11, r12, r13, r14⟩, ⟨b18, r182⟩, hH, hV⟩ := id hR
  have k0 : S.2.1 4 = 2 := hO.1.1
  have k1 : S.2.1 5 = 0 := hO.1.2.1
  have k4 : S.2.1 8 = 3 := hO.1.2.2.2.2.1
  have q0 : S.2.2.2 4 0 = 5 := hO.2.1.1
  have q1 : S.2.2.2 4 1 = 8 := hO.2.1.2.1
  have kt : S.2.1 11 = 2 := hOt.1.1
  have kst : S.2.1 2 = 5 := hSt.1
  have k120 : S.2.1 120 = 4 := hV.1
  have v3 : M 4 3 = vO M 4 3 := rfl
  have v4 : M 4 5 = vO M 4 4 := rfl
  have v12 : M 4 4 = vO M 4 12 := rfl
  have v5 : M 4 8 = vO M 4 5 := rfl
  have v13 : M 4 13 = vO M 4 13 := rfl
  have v14 : M 4 14 = vO M 4 14 := rfl
  have v15 : M 4 15 = vO M 4 15 := rfl
  have v16 : M 4 16 = vO M 4 16 := rfl
  have v1 : M 4 2 = vO M 4 1 := rfl
  have v0 : M 5 0 = vO M 4 0 := rfl
  have v17 : M 8 0 = vO M 4 17 := rfl
  have v6 : M 4 6 = vO M 4 6 := rfl
  have v7 : M 4 7 = vO M 4 7 := rfl
  have v8 : M 4 9 = vO M 4 8 := rfl
  have v9 : M 4 10 = vO M 4 9 := rfl
  have v10 : M 4 11 = vO M 4 10 := rfl
  have v11 : M 4 12 = vO M 4 11 := rfl
  have v2 : M 5 1 = vO M 4 2 := rfl
  obtain ⟨n, cur, hn3, hn, hcur, e0, e7⟩ := id hI.1.1
  have hc17 := hI.cnt
  have hB3 := bok3 hI.1.2.1
  obtain ⟨N, hN⟩ : ∃ N, N = hRem M a y := ⟨_, rfl⟩
  have eN : vO N 4 = vO M 4 := by rw [hN, hRem_vO]
  have hIN : I2 BB (vO N 4) := by rw [eN]; exact hI
  refine ⟨rfl, ?_⟩
  refine EE.runN (stop := noStop) 80 _ ?_
  refine ⟨by simp only [wI_M, wI_1, wI_w, b1, r10, r11, r12, r13, r14, b18, r182, k0, k1, k4, q0, q1, kt, kst, k120] <;> first | rfl | decide, ?_⟩
  refine ⟨by simp only [wI_M, wI_1, wI_w, b1, r10, r11, r12, r13, r14, b18, r182, k0, k1, k4, q0, q1, kt, kst, k120] <;> first | rfl | decide, ?_⟩
  refine ⟨fun h1 => ?_, fun h1 => ?_⟩
  · refine ⟨by simp only [wI_M, wI_1, wI_w, b1, r10, r11, r12, r13, r14, b18, r182, k0, k1, k4, q0, q1, kt, kst, k120] <;> first | rfl | decide, ?_⟩
    refine ⟨by simp only [wI_M, wI_1, wI_w, b1, r10, r11, r12, r13, r14, b18, r182, k0, k1, k4, q0, q1, kt, kst, k120] <;> first | rfl | decide, ?_⟩
    refine ⟨⟨Nat.le_of_ble_eq_true rfl, Nat.le_of_ble_eq_true rfl, Nat.le_of_ble_eq_true rfl⟩, by simp only [wI_M, wI_1, wI_w, b1, r10, r11, r12, r13, r14, b18, r182, k0, k1, k4, q0, q1, kt, kst, k120] <;> first | rfl | decide, _, by simp only [r11, r13]; exact T_remember hR ha hy h180 h181 hI.1.2.1.1 hI.1.2.1.2, ?_⟩
    rintro _ w1 ⟨rfl, hw⟩
    have hw : w1 = (S, N, J) := by rw [hw, hN]
    subst hw
    refine ⟨Or.inl rfl, ?_⟩
    refine ⟨by simp only [wI_M, wI_1, wI_w, b1, r10, r11, r12, r13, r14, b18, r182, k0, k1, k4, q0, q1, kt, kst, k120] <;> first | rfl | decide, ?_⟩
    refine ⟨⟨Nat.le_of_ble_eq_true rfl, Nat.le_of_ble_eq_true rfl, Nat.le_of_ble_eq_true rfl⟩, by simp only [wI_M, wI_1, wI_w, b1, r10, r11, r12, r13, r14, b18, r182, k0, k1, k4, q0, q1, kt, kst, k120] <;> first | rfl | decide, _, by simp only [wI_M, wI_1, wI_w, b1, r10, r11, r12, r13, r14, b18, r182, k0, k1, k4, q0, q1, kt, kst, k120]; exact V_switchOn (b := 4) hO hIN.1 (by omega), ?_⟩
    rintro _ _ ⟨rfl, rfl⟩
    refine ⟨Or.inl rfl, ?_⟩
    (try simp only [wI_M, wI_1, wI_w, b1, r10, r11, r12, r13, r14, b18, r182, k0, k1, k4, q0, q1, kt, kst, k120, v3, v4, v12, v5, v13, v14, v15, v16, v1, v0, v17, v6, v7, v8, v9, v10, v11, v2, bI_e0, Classical.not_not] at h1)
    have g1 : ¬ vO M 4 3 = 1 := fun h_ => by rw [h1] at h_; exact absurd h_ (by decide)
    refine ⟨⟨Nat.zero_le _, Nat.zero_le _⟩, _, rfl, ?_, ?_, ?_⟩
    · unfold aStart; rw [if_neg g1]; intro h_; exact absurd rfl h_
    · intro _; rw [eN, hN]
    · unfold aStart; rw [if_neg g1]
      refine congrArg (fun v => Sum.inl (some (Value.int v))) ?_
      rw [eN]
  · (try simp only [wI_M, wI_1, wI_w, b1, r10, r11, r12, r13, r14, b18, r182, k0, k1, k4, q0, q1, kt, kst, k120, v3, v4, v12, v5, v13, v14, v15, v16, v1, v0, v17, v6, v7, v8, v9, v10, v11, v2, bI_e0, Classical.not_not] at h1)
    have g1 : vO M 4 3 = 1 := hI.1.2.1.1.resolve_left h1
    refine ⟨Nat.le_of_ble_eq_true rfl, ⟨by omega, Nat.le_of_ble_eq_true rfl, Nat.le_of_ble_eq_true rfl, rfl⟩, M, rfl, fun _ => rfl, ?_, ?_⟩
    · unfold aStart; rw [if_pos g1]; intro h_; exact absurd h_ (by decide)
    · unfold aStart; rw [if_pos g1]; rfl
set_option maxHeartbeats 1000000 in
theorem C_service {d : Nat} {S : Sc} {M : Nat → Nat → Int32} {J : Nat → Nat → Int64} {BB : Nat} (hR : RgS S) (hI : I2 BB (vO M 4)) (hBB : BB < 1000000) {a y : Nat} (ha : a ≤ 14) (hy : y < 14) (h180 : M 18 0 = nI a) (h181 : M 18 1 = nI y) {u v : Int32} : Wp (d + 9) 77 [.ref 1, .int u, .int v] (S, M, J) (fun rs w' => ∃ M', w' = (S, M', J) ∧ (¬ (aService (vO M 4) (vO M 4 17).toNatClampNeg u v).1 = 0 → M' = M) ∧ ((aService (vO M 4) (vO M 4 17).toNatClampNeg u v).1 = 0 → M' = sO (hRem M a y) 4 (rServe (vO M 4) (10 * u + v) (vO M 4 17).toNatClampNeg)) ∧ rs = cRs (fun c => if c = 1 then 0 else 1) (aService (vO M 4) (vO M 4 17).toNatClampNeg u v)) := by
  obtain ⟨hSt, hO, hOt, ⟨b1, r10, r11, r12, r13, r14⟩, ⟨b18, r182⟩, hH, hV⟩ := id hR
  have k0 : S.2.1 4 = 2 := hO.1.1
  have k1 : S.2.1 5 = 0 := hO.1.2.1
  have k4 : S.2.1 8 = 3 := hO.1.2.2.2.2.1
  have q0 : S.2.2.2 4 0 = 5 := hO.2.1.1
  have q1 : S.2.2.2 4 1 = 8 := hO.2.1.2.1
  have kt : S.2.1 11 = 2 := hOt.1.1
  have kst : S.2.1 2 = 5 := hSt.1
  have k120 : S.2.1 120 = 4 := hV.1
  have v3 : M 4 3 = vO M 4 3 := rfl
  have v4 : M 4 5 = vO M 4 4 := rfl
  have v12 : M 4 4 = vO M 4 12 := rfl
  have v5 : M 4 8 = vO M 4 5 := rfl
  have v13 : M 4 13 = vO M 4 13 := rfl
  have v14 : M 4 14 = vO M 4 14 := rfl
  have v15 : M 4 15 = vO M 4 15 := rfl
  have v16 : M 4 16 = vO M 4 16 := rfl
  have v1 : M 4 2 = vO M 4 1 := rfl
  have v0 : M 5 0 = vO M 4 0 := rfl
  have v17 : M 8 0 = vO M 4 17 := rfl
  have v6 : M 4 6 = vO M 4 6 := rfl
  have v7 : M 4 7 = vO M 4 7 := rfl
  have v8 : M 4 9 = vO M 4 8 := rfl
  have v9 : M 4 10 = vO M 4 9 := rfl
  have v10 : M 4 11 = vO M 4 10 := rfl
  have v11 : M 4 12 = vO M 4 11 := rfl
  have v2 : M 5 1 = vO M 4 2 := rfl
  obtain ⟨n, cur, hn3, hn, hcur, e0, e7⟩ := id hI.1.1
  have hc17 := hI.cnt
  have hB3 := bok3 hI.1.2.1
  obtain ⟨N, hN⟩ : ∃ N, N = hRem M a y := ⟨_, rfl⟩
  have eN : vO N 4 = vO M 4 := by rw [hN, hRem_vO]
  have hIN : I2 BB (vO N 4) := by rw [eN]; exact hI
  refine ⟨rfl, ?_⟩
  refine EE.runN (stop := noStop) 80 _ ?_
  refine ⟨⟨Nat.le_of_ble_eq_true rfl, Nat.le_of_ble_eq_true rfl, Nat.le_of_ble_eq_true rfl⟩, _, T_isV, ?_⟩
  rintro _ _ ⟨rfl, rfl⟩
  refine ⟨Or.inl rfl, ?_⟩
  refine ⟨fun h1 => ?_, fun h1 => ?_⟩
  · refine ⟨by simp only [wI_M, wI_1, wI_w, b1, r10, r11, r12, r13, r14, b18, r182, k0, k1, k4, q0, q1, kt, kst, k120] <;> first | rfl | decide, ?_⟩
    refine ⟨by simp only [wI_M, wI_1, wI_w, b1, r10, r11, r12, r13, r14, b18, r182, k0, k1, k4, q0, q1, kt, kst, k120] <;> first | rfl | decide, ?_⟩
    refine ⟨fun h2 => ?_, fun h2 => ?_⟩
    · (try simp only [wI_M, wI_1, wI_w, b1, r10, r11, r12, r13, r14, b18, r182, k0, k1, k4, q0, q1, kt, kst, k120, v3, v4, v12, v5, v13, v14, v15, v16, v1, v0, v17, v6, v7, v8, v9, v10, v11, v2, bI_e0, Classical.not_not] at h1)
      (try simp only [wI_M, wI_1, wI_w, b1, r10, r11, r12, r13, r14, b18, r182, k0, k1, k4, q0, q1, kt, kst, k120, v3, v4, v12, v5, v13, v14, v15, v16, v1, v0, v17, v6, v7, v8, v9, v10, v11, v2, bI_e0, Classical.not_not] at h2)
      have g1 : ¬ (vO M 4 3 = 1 ∧ (vO M 4 17 < 12 ∨ ¬ rFnd (vO M 4) (10 * u + v) (vO M 4 17).toNatClampNeg = -99999)) := fun h_ => by have h2_ := h_.1; rw [h2] at h2_; exact absurd h2_ (by decide)
      refine ⟨Nat.le_of_ble_eq_true rfl, ⟨by omega, Nat.le_of_ble_eq_true rfl, Nat.le_of_ble_eq_true rfl, rfl⟩, M, rfl, fun _ => rfl, ?_, ?_⟩
      · unfold aService; rw [if_pos h1, if_neg g1]; intro h_; exact absurd h_ (by decide)
      · unfold aService; rw [if_pos h1, if_neg g1]; rfl
    · refine ⟨by simp only [wI_M, wI_1, wI_w, b1, r10, r11, r12, r13, r14, b18, r182, k0, k1, k4, q0, q1, kt, kst, k120] <;> first | rfl | decide, ?_⟩
      refine ⟨by simp only [wI_M, wI_1, wI_w, b1, r10, r11, r12, r13, r14, b18, r182, k0, k1, k4, q0, q1, kt, kst, k120] <;> first | rfl | decide, ?_⟩
      refine ⟨⟨Nat.le_of_ble_eq_true rfl, Nat.le_of_ble_eq_true rfl, Nat.le_of_ble_eq_true rfl⟩, by simp only [wI_M, wI_1, wI_w, b1, r10, r11, r12, r13, r14, b18, r182, k0, k1, k4, q0, q1, kt, kst, k120] <;> first | rfl | decide, _, by simp only [wI_M, wI_1, wI_w, b1, r10, r11, r12, r13, r14, b18, r182, k0, k1, k4, q0, q1, kt, kst, k120]; exact V_hasRoom (b := 4) (o := 8) hO rfl hc17.2 hc17.1 hI.dst, ?_⟩
      rintro _ _ ⟨rfl, rfl⟩
      refine ⟨Or.inl rfl, ?_⟩
      refine ⟨fun h3 => ?_, fun h3 => ?_⟩
      · have g_ := h3
        simp only [wI_M, wI_1, wI_w, b1, r10, r11, r12, r13, r14, b18, r182, k0, k1, k4, q0, q1, kt, kst, k120, v3, v4, v12, v5, v13, v14, v15, v16, v1, v0, v17, v6, v7, v8, v9, v10, v11, v2, bI_e0, Classical.not_not] at g_
        have hr_ : (vO M 4 17).toNatClampNeg < 12 ∨ ¬ rFnd (vO M 4) (10 * u + v) (vO M 4 17).toNatClampNeg = -99999 := g_.imp (fun h_ => by rw [hc17.1, o_12, nI_ltI (by omega) (by omega)] at h_; exact h_) (fun h_ => h_)
        refine ⟨by simp only [wI_M, wI_1, wI_w, b1, r10, r11, r12, r13, r14, b18, r182, k0, k1, k4, q0, q1, kt, kst, k120] <;> first | rfl | decide, ?_⟩
        refine ⟨by simp only [wI_M, wI_1, wI_w, b1, r10, r11, r12, r13, r14, b18, r182, k0, k1, k4, q0, q1, kt, kst, k120] <;> first | rfl | decide, ?_⟩
        refine ⟨⟨Nat.le_of_ble_eq_true rfl, Nat.le_of_ble_eq_true rfl, Nat.le_of_ble_eq_true rfl⟩, by simp only [wI_M, wI_1, wI_w, b1, r10, r11, r12, r13, r14, b18, r182, k0, k1, k4, q0, q1, kt, kst, k120] <;> first | rfl | decide, _, by simp only [r11, r13]; exact T_remember hR ha hy h180 h181 hI.1.2.1.1 hI.1.2.1.2, ?_⟩
        rintro _ w1 ⟨rfl, hw⟩
        have hw : w1 = (S, N, J) := by rw [hw, hN]
        subst hw
        refine ⟨Or.inl rfl, ?_⟩
        refine ⟨by simp only [wI_M, wI_1, wI_w, b1, r10, r11, r12, r13, r14, b18, r182, k0, k1, k4, q0, q1, kt, kst, k120] <;> first | rfl | decide, ?_⟩
        refine ⟨⟨Nat.le_of_ble_eq_true rfl, Nat.le_of_ble_eq_true rfl, Nat.le_of_ble_eq_true rfl⟩, by simp only [wI_M, wI_1, wI_w, b1, r10, r11, r12, r13, r14, b18, r182, k0, k1, k4, q0, q1, kt, kst, k120] <;> first | rfl | decide, _, by simp only [wI_M, wI_1, wI_w, b1, r10, r11, r12, r13, r14, b18, r182, k0, k1, k4, q0, q1, kt, kst, k120]; exact V_noteService (b := 4) (n := (vO M 4 17).toNatClampNeg) hO hc17.2 (by rw [eN]; exact hc17.1) (by rw [eN]; exact hI.dst) (by rw [eN]; exact hr_), ?_⟩
        rintro _ _ ⟨rfl, rfl⟩
        refine ⟨Or.inl rfl, ?_⟩
        (try simp only [wI_M, wI_1, wI_w, b1, r10, r11, r12, r13, r14, b18, r182, k0, k1, k4, q0, q1, kt, kst, k120, v3, v4, v12, v5, v13, v14, v15, v16, v1, v0, v17, v6, v7, v8, v9, v10, v11, v2, bI_e0, Classical.not_not] at h1)
        (try simp only [wI_M, wI_1, wI_w, b1, r10, r11, r12, r13, r14, b18, r182, k0, k1, k4, q0, q1, kt, kst, k120, v3, v4, v12, v5, v13, v14, v15, v16, v1, v0, v17, v6, v7, v8, v9, v10, v11, v2, bI_e0, Classical.not_not] at h2)
        (try simp only [wI_M, wI_1, wI_w, b1, r10, r11, r12, r13, r14, b18, r182, k0, k1, k4, q0, q1, kt, kst, k120, v3, v4, v12, v5, v13, v14, v15, v16, v1, v0, v17, v6, v7, v8, v9, v10, v11, v2, bI_e0, Classical.not_not] at h3)
        refine ⟨⟨Nat.zero_le _, Nat.zero_le _⟩, _, rfl, ?_, ?_, ?_⟩
        · unfold aService; rw [if_pos h1, if_pos ⟨hB3.mpr h2, h3⟩]; intro h_; exact absurd rfl h_
        · intro _; rw [eN, hN]
        · unfold aService; rw [if_pos h1, if_pos ⟨hB3.mpr h2, h3⟩]
          refine congrArg (fun v => Sum.inl (some (Value.int v))) ?_
          rw [eN]
      · (try simp only [wI_M, wI_1, wI_w, b1, r10, r11, r12, r13, r14, b18, r182, k0, k1, k4, q0, q1, kt, kst, k120, v3, v4, v12, v5, v13, v14, v15, v16, v1, v0, v17, v6, v7, v8, v9, v10, v11, v2, bI_e0, Classical.not_not] at h1)
        (try simp only [wI_M, wI_1, wI_w, b1, r10, r11, r12, r13, r14, b18, r182, k0, k1, k4, q0, q1, kt, kst, k120, v3, v4, v12, v5, v13, v14, v15, v16, v1, v0, v17, v6, v7, v8, v9, v10, v11, v2, bI_e0, Classical.not_not] at h2)
        (try simp only [wI_M, wI_1, wI_w, b1, r10, r11, r12, r13, r14, b18, r182, k0, k1, k4, q0, q1, kt, kst, k120, v3, v4, v12, v5, v13, v14, v15, v16, v1, v0, v17, v6, v7, v8, v9, v10, v11, v2, bI_e0, Classical.not_not] at h3)
        refine ⟨Nat.le_of_ble_eq_true rfl, ⟨by omega, Nat.le_of_ble_eq_true rfl, Nat.le_of_ble_eq_true rfl, rfl⟩, M, rfl, fun _ => rfl, ?_, ?_⟩
        · unfold aService; rw [if_pos h1, if_neg (fun h_ => h3 h_.2)]; intro h_; exact absurd h_ (by decide)
        · unfold aService; rw [if_pos h1, if_neg (fun h_ => h3 h_.2)]; rfl
  · (try simp only [wI_M, wI_1, wI_w, b1, r10, r11, r12, r13, r14, b18, r182, k0, k1, k4, q0, q1, kt, kst, k120, v3, v4, v12, v5, v13, v14, v15, v16, v1, v0, v17, v6, v7, v8, v9, v10, v11, v2, bI_e0, Classical.not_not] at h1)
    refine ⟨Nat.le_of_ble_eq_true rfl, ⟨by omega, Nat.le_of_ble_eq_true rfl, Nat.le_of_ble_eq_true rfl, rfl⟩, M, rfl, fun _ => rfl, ?_, ?_⟩
    · unfold aService; rw [if_neg h1]; intro h_; exact absurd h_ (by decide)
    · unfold aService; rw [if_neg h1]; rfl
set_option maxHeartbeats 1000000 in
theorem C_forget {d : Nat} {S : Sc} {M : Nat → Nat → Int32} {J : Nat → Nat → Int64} {BB : Nat} (hR : RgS S) (hI : I2 BB (vO M 4)) (hBB : BB < 1000000) {a y : Nat} (ha : a ≤ 14) (hy : y < 14) (h180 : M 18 0 = nI a) (h181 : M 18 1 = nI y) {u v : Int32} : Wp (d + 9) 78 [.ref 1, .int u, .int v] (S, M, J) (fun rs w' => ∃ M', w' = (S, M', J) ∧ (¬ (aForget (vO M 4) (vO M 4 17).toNatClampNeg u v).1 = 0 → M' = M) ∧ ((aForget (vO M 4) (vO M 4 17).toNatClampNeg u v).1 = 0 → M' = sO (hRem M a y) 4 (rDrop (vO M 4) (rFnd (vO M 4) (10 * u + v) (vO M 4 17).toNatClampNeg).toNatClampNeg (vO M 4 17).toNatClampNeg)) ∧ rs = cRs (fun c => if c = 1 then 0 else 1) (aForget (vO M 4) (vO M 4 17).toNatClampNeg u v)) := by
  obtain ⟨hSt, hO, hOt, ⟨b1, r10, r11, r12, r13, r14⟩, ⟨b18, r182⟩, hH, hV⟩ := id hR
  have k0 : S.2.1 4 = 2 := hO.1.1
  have k1 : S.2.1 5 = 0 := hO.1.2.1
  have k4 : S.2.1 8 = 3 := hO.1.2.2.2.2.1
  have q0 : S.2.2.2 4 0 = 5 := hO.2.1.1
  have q1 : S.2.2.2 4 1 = 8 := hO.2.1.2.1
  have kt : S.2.1 11 = 2 := hOt.1.1
  have kst : S.2.1 2 = 5 := hSt.1
  have k120 : S.2.1 120 = 4 := hV.1
  have v3 : M 4 3 = vO M 4 3 := rfl
  have v4 : M 4 5 = vO M 4 4 := rfl
  have v12 : M 4 4 = vO M 4 12 := rfl
  have v5 : M 4 8 = vO M 4 5 := rfl
  have v13 : M 4 13 = vO M 4 13 := rfl
  have v14 : M 4 14 = vO M 4 14 := rfl
  have v15 : M 4 15 = vO M 4 15 := rfl
  have v16 : M 4 16 = vO M 4 16 := rfl
  have v1 : M 4 2 = vO M 4 1 := rfl
  have v0 : M 5 0 = vO M 4 0 := rfl
  have v17 : M 8 0 = vO M 4 17 := rfl
  have v6 : M 4 6 = vO M 4 6 := rfl
  have v7 : M 4 7 = vO M 4 7 := rfl
  have v8 : M 4 9 = vO M 4 8 := rfl
  have v9 : M 4 10 = vO M 4 9 := rfl
  have v10 : M 4 11 = vO M 4 10 := rfl
  have v11 : M 4 12 = vO M 4 11 := rfl
  have v2 : M 5 1 = vO M 4 2 := rfl
  obtain ⟨n, cur, hn3, hn, hcur, e0, e7⟩ := id hI.1.1
  have hc17 := hI.cnt
  have hB3 := bok3 hI.1.2.1
  obtain ⟨N, hN⟩ : ∃ N, N = hRem M a y := ⟨_, rfl⟩
  have eN : vO N 4 = vO M 4 := by rw [hN, hRem_vO]
  have hIN : I2 BB (vO N 4) := by rw [eN]; exact hI
  refine ⟨rfl, ?_⟩
  refine EE.runN (stop := noStop) 80 _ ?_
  refine ⟨⟨Nat.le_of_ble_eq_true rfl, Nat.le_of_ble_eq_true rfl, Nat.le_of_ble_eq_true rfl⟩, _, T_isV, ?_⟩
  rintro _ _ ⟨rfl, rfl⟩
  refine ⟨Or.inl rfl, ?_⟩
  refine ⟨fun h1 => ?_, fun h1 => ?_⟩
  · refine ⟨by simp only [wI_M, wI_1, wI_w, b1, r10, r11, r12, r13, r14, b18, r182, k0, k1, k4, q0, q1, kt, kst, k120] <;> first | rfl | decide, ?_⟩
    refine ⟨by simp only [wI_M, wI_1, wI_w, b1, r10, r11, r12, r13, r14, b18, r182, k0, k1, k4, q0, q1, kt, kst, k120] <;> first | rfl | decide, ?_⟩
    refine ⟨⟨Nat.le_of_ble_eq_true rfl, Nat.le_of_ble_eq_true rfl, Nat.le_of_ble_eq_true rfl⟩, by simp only [wI_M, wI_1, wI_w, b1, r10, r11, r12, r13, r14, b18, r182, k0, k1, k4, q0, q1, kt, kst, k120] <;> first | rfl | decide, _, by simp only [wI_M, wI_1, wI_w, b1, r10, r11, r12, r13, r14, b18, r182, k0, k1, k4, q0, q1, kt, kst, k120]; exact V_placeOf (b := 4) (o := 8) hO rfl hc17.2 hc17.1 hI.dst, ?_⟩
    rintro _ _ ⟨rfl, rfl⟩
    refine ⟨Or.inl rfl, ?_⟩
    refine ⟨fun h2 => ?_, fun h2 => ?_⟩
    · obtain ⟨i, hi, hf⟩ := (rFnd_or (vO M 4) (10 * u + v) (vO M 4 17).toNatClampNeg).resolve_left h2
      refine ⟨by simp only [wI_M, wI_1, wI_w, b1, r10, r11, r12, r13, r14, b18, r182, k0, k1, k4, q0, q1, kt, kst, k120] <;> first | rfl | decide, ?_⟩
      refine ⟨by simp only [wI_M, wI_1, wI_w, b1, r10, r11, r12, r13, r14, b18, r182, k0, k1, k4, q0, q1, kt, kst, k120] <;> first | rfl | decide, ?_⟩
      refine ⟨⟨Nat.le_of_ble_eq_true rfl, Nat.le_of_ble_eq_true rfl, Nat.le_of_ble_eq_true rfl⟩, by simp only [wI_M, wI_1, wI_w, b1, r10, r11, r12, r13, r14, b18, r182, k0, k1, k4, q0, q1, kt, kst, k120] <;> first | rfl | decide, _, by simp only [r11, r13]; exact T_remember hR ha hy h180 h181 hI.1.2.1.1 hI.1.2.1.2, ?_⟩
      rintro _ w1 ⟨rfl, hw⟩
      have hw : w1 = (S, N, J) := by rw [hw, hN]
      subst hw
      refine ⟨Or.inl rfl, ?_⟩
      refine ⟨by simp only [wI_M, wI_1, wI_w, b1, r10, r11, r12, r13, r14, b18, r182, k0, k1, k4, q0, q1, kt, kst, k120] <;> first | rfl | decide, ?_⟩
      refine ⟨by simp only [wI_M, wI_1, wI_w, b1, r10, r11, r12, r13, r14, b18, r182, k0, k1, k4, q0, q1, kt, kst, k120] <;> first | rfl | decide, ?_⟩
      refine ⟨⟨Nat.le_of_ble_eq_true rfl, Nat.le_of_ble_eq_true rfl, Nat.le_of_ble_eq_true rfl⟩, by simp only [wI_M, wI_1, wI_w, b1, r10, r11, r12, r13, r14, b18, r182, k0, k1, k4, q0, q1, kt, kst, k120] <;> first | rfl | decide, _, by simp only [wI_M, wI_1, wI_w, b1, r10, r11, r12, r13, r14, b18, r182, k0, k1, k4, q0, q1, kt, kst, k120, hf]; exact V_takeOut (b := 4) (o := 8) hO rfl (i := i) (n := (vO M 4 17).toNatClampNeg) hi hc17.2 (by rw [eN]; exact hc17.1), ?_⟩
      rintro _ _ ⟨rfl, rfl⟩
      refine ⟨Or.inl rfl, ?_⟩
      (try simp only [wI_M, wI_1, wI_w, b1, r10, r11, r12, r13, r14, b18, r182, k0, k1, k4, q0, q1, kt, kst, k120, v3, v4, v12, v5, v13, v14, v15, v16, v1, v0, v17, v6, v7, v8, v9, v10, v11, v2, bI_e0, Classical.not_not] at h1)
      (try simp only [wI_M, wI_1, wI_w, b1, r10, r11, r12, r13, r14, b18, r182, k0, k1, k4, q0, q1, kt, kst, k120, v3, v4, v12, v5, v13, v14, v15, v16, v1, v0, v17, v6, v7, v8, v9, v10, v11, v2, bI_e0, Classical.not_not] at h2)
      refine ⟨⟨Nat.zero_le _, Nat.zero_le _⟩, _, rfl, ?_, ?_, ?_⟩
      · unfold aForget; rw [if_pos h1, if_neg h2]; intro h_; exact absurd rfl h_
      · intro _; rw [eN, hN, hf, ck (show i < 2147483648 by omega)]
      · unfold aForget; rw [if_pos h1, if_neg h2]
        refine congrArg (fun v => Sum.inl (some (Value.int v))) ?_
        rw [eN, hf, ck (show i < 2147483648 by omega)]
    · (try simp only [wI_M, wI_1, wI_w, b1, r10, r11, r12, r13, r14, b18, r182, k0, k1, k4, q0, q1, kt, kst, k120, v3, v4, v12, v5, v13, v14, v15, v16, v1, v0, v17, v6, v7, v8, v9, v10, v11, v2, bI_e0, Classical.not_not] at h1)
      (try simp only [wI_M, wI_1, wI_w, b1, r10, r11, r12, r13, r14, b18, r182, k0, k1, k4, q0, q1, kt, kst, k120, v3, v4, v12, v5, v13, v14, v15, v16, v1, v0, v17, v6, v7, v8, v9, v10, v11, v2, bI_e0, Classical.not_not] at h2)
      refine ⟨Nat.le_of_ble_eq_true rfl, ⟨by omega, Nat.le_of_ble_eq_true rfl, Nat.le_of_ble_eq_true rfl, rfl⟩, M, rfl, fun _ => rfl, ?_, ?_⟩
      · unfold aForget; rw [if_pos h1, if_pos h2]; intro h_; exact absurd h_ (by decide)
      · unfold aForget; rw [if_pos h1, if_pos h2]; rfl
  · (try simp only [wI_M, wI_1, wI_w, b1, r10, r11, r12, r13, r14, b18, r182, k0, k1, k4, q0, q1, kt, kst, k120, v3, v4, v12, v5, v13, v14, v15, v16, v1, v0, v17, v6, v7, v8, v9, v10, v11, v2, bI_e0, Classical.not_not] at h1)
    refine ⟨Nat.le_of_ble_eq_true rfl, ⟨by omega, Nat.le_of_ble_eq_true rfl, Nat.le_of_ble_eq_true rfl, rfl⟩, M, rfl, fun _ => rfl, ?_, ?_⟩
    · unfold aForget; rw [if_neg h1]; intro h_; exact absurd h_ (by decide)
    · unfold aForget; rw [if_neg h1]; rfl
set_option maxHeartbeats 1000000 in
theorem C_setStep {d : Nat} {S : Sc} {M : Nat → Nat → Int32} {J : Nat → Nat → Int64} {BB : Nat} (hR : RgS S) (hI : I2 BB (vO M 4)) (hBB : BB < 1000000) {a y : Nat} (ha : a ≤ 14) (hy : y < 14) (h180 : M 18 0 = nI a) (h181 : M 18 1 = nI y) {x : Int32} : Wp (d + 9) 79 [.ref 1, .int x] (S, M, J) (fun rs w' => ∃ M', w' = (S, M', J) ∧ (¬ (aStep (vO M 4) x).1 = 0 → M' = M) ∧ ((aStep (vO M 4) x).1 = 0 → M' = sO (hRem M a y) 4 (upd (vO M 4) 1 x)) ∧ rs = cRs (fun c => 0) (aStep (vO M 4) x)) := by
  obtain ⟨hSt, hO, hOt, ⟨b1, r10, r11, r12, r13, r14⟩, ⟨b18, r182⟩, hH, hV⟩ := id hR
  have k0 : S.2.1 4 = 2 := hO.1.1
  have k1 : S.2.1 5 = 0 := hO.1.2.1
  have k4 : S.2.1 8 = 3 := hO.1.2.2.2.2.1
  have q0 : S.2.2.2 4 0 = 5 := hO.2.1.1
  have q1 : S.2.2.2 4 1 = 8 := hO.2.1.2.1
  have kt : S.2.1 11 = 2 := hOt.1.1
  have kst : S.2.1 2 = 5 := hSt.1
  have k120 : S.2.1 120 = 4 := hV.1
  have v3 : M 4 3 = vO M 4 3 := rfl
  have v4 : M 4 5 = vO M 4 4 := rfl
  have v12 : M 4 4 = vO M 4 12 := rfl
  have v5 : M 4 8 = vO M 4 5 := rfl
  have v13 : M 4 13 = vO M 4 13 := rfl
  have v14 : M 4 14 = vO M 4 14 := rfl
  have v15 : M 4 15 = vO M 4 15 := rfl
  have v16 : M 4 16 = vO M 4 16 := rfl
  have v1 : M 4 2 = vO M 4 1 := rfl
  have v0 : M 5 0 = vO M 4 0 := rfl
  have v17 : M 8 0 = vO M 4 17 := rfl
  have v6 : M 4 6 = vO M 4 6 := rfl
  have v7 : M 4 7 = vO M 4 7 := rfl
  have v8 : M 4 9 = vO M 4 8 := rfl
  have v9 : M 4 10 = vO M 4 9 := rfl
  have v10 : M 4 11 = vO M 4 10 := rfl
  have v11 : M 4 12 = vO M 4 11 := rfl
  have v2 : M 5 1 = vO M 4 2 := rfl
  obtain ⟨n, cur, hn3, hn, hcur, e0, e7⟩ := id hI.1.1
  have hc17 := hI.cnt
  have hB3 := bok3 hI.1.2.1
  obtain ⟨N, hN⟩ : ∃ N, N = hRem M a y := ⟨_, rfl⟩
  have eN : vO N 4 = vO M 4 := by rw [hN, hRem_vO]
  have hIN : I2 BB (vO N 4) := by rw [eN]; exact hI
  refine ⟨rfl, ?_⟩
  refine EE.runN (stop := noStop) 80 _ ?_
  refine ⟨⟨Nat.le_of_ble_eq_true rfl, Nat.le_of_ble_eq_true rfl, Nat.le_of_ble_eq_true rfl⟩, _, T_isP, ?_⟩
  rintro _ _ ⟨rfl, rfl⟩
  refine ⟨Or.inl rfl, ?_⟩
  refine ⟨fun h1 => ?_, fun h1 => ?_⟩
  · refine ⟨by simp only [wI_M, wI_1, wI_w, b1, r10, r11, r12, r13, r14, b18, r182, k0, k1, k4, q0, q1, kt, kst, k120] <;> first | rfl | decide, ?_⟩
    refine ⟨by simp only [wI_M, wI_1, wI_w, b1, r10, r11, r12, r13, r14, b18, r182, k0, k1, k4, q0, q1, kt, kst, k120] <;> first | rfl | decide, ?_⟩
    refine ⟨⟨Nat.le_of_ble_eq_true rfl, Nat.le_of_ble_eq_true rfl, Nat.le_of_ble_eq_true rfl⟩, by simp only [wI_M, wI_1, wI_w, b1, r10, r11, r12, r13, r14, b18, r182, k0, k1, k4, q0, q1, kt, kst, k120] <;> first | rfl | decide, _, by simp only [r11, r13]; exact T_remember hR ha hy h180 h181 hI.1.2.1.1 hI.1.2.1.2, ?_⟩
    rintro _ w1 ⟨rfl, hw⟩
    have hw : w1 = (S, N, J) := by rw [hw, hN]
    subst hw
    refine ⟨Or.inl rfl, ?_⟩
    refine ⟨by simp only [wI_M, wI_1, wI_w, b1, r10, r11, r12, r13, r14, b18, r182, k0, k1, k4, q0, q1, kt, kst, k120] <;> first | rfl | decide, ?_⟩
    refine ⟨by simp only [wI_M, wI_1, wI_w, b1, r10, r11, r12, r13, r14, b18, r182, k0, k1, k4, q0, q1, kt, kst, k120] <;> first | rfl | decide, ?_⟩
    refine ⟨by simp only [wI_M, wI_1, wI_w, b1, r10, r11, r12, r13, r14, b18, r182, k0, k1, k4, q0, q1, kt, kst, k120] <;> first | rfl | decide, ?_⟩
    refine ⟨by simp only [wI_M, wI_1, wI_w, b1, r10, r11, r12, r13, r14, b18, r182, k0, k1, k4, q0, q1, kt, kst, k120] <;> first | rfl | decide, trivial, ?_⟩
    (try simp only [wI_M, wI_1, wI_w, b1, r10, r11, r12, r13, r14, b18, r182, k0, k1, k4, q0, q1, kt, kst, k120, v3, v4, v12, v5, v13, v14, v15, v16, v1, v0, v17, v6, v7, v8, v9, v10, v11, v2, bI_e0, Classical.not_not] at h1)
    refine ⟨⟨Nat.zero_le _, Nat.zero_le _⟩, _, rfl, ?_, ?_, ?_⟩
    · unfold aStep; rw [if_pos h1]; intro h_; exact absurd rfl h_
    · intro _; simp only [wI_M, wI_1, wI_w, b1, r10, r11, r12, r13, r14, b18, r182, k0, k1, k4, q0, q1, kt, kst, k120]; rw [sO_set, eN, hN]
    · unfold aStep; rw [if_pos h1]
      refine congrArg (fun v => Sum.inl (some (Value.int v))) ?_
      simp only [wI_M, wI_1, wI_w, b1, r10, r11, r12, r13, r14, b18, r182, k0, k1, k4, q0, q1, kt, kst, k120]; exact congrFun eN 1
  · (try simp only [wI_M, wI_1, wI_w, b1, r10, r11, r12, r13, r14, b18, r182, k0, k1, k4, q0, q1, kt, kst, k120, v3, v4, v12, v5, v13, v14, v15, v16, v1, v0, v17, v6, v7, v8, v9, v10, v11, v2, bI_e0, Classical.not_not] at h1)
    refine ⟨Nat.le_of_ble_eq_true rfl, ⟨by omega, Nat.le_of_ble_eq_true rfl, Nat.le_of_ble_eq_true rfl, rfl⟩, M, rfl, fun _ => rfl, ?_, ?_⟩
    · unfold aStep; rw [if_neg h1]; intro h_; exact absurd h_ (by decide)
    · unfold aStep; rw [if_neg h1]; rfl
set_option maxHeartbeats 1000000 in
theorem C_replace {d : Nat} {S : Sc} {M : Nat → Nat → Int32} {J : Nat → Nat → Int64} {BB : Nat} (hR : RgS S) (hI : I2 BB (vO M 4)) (hBB : BB < 1000000) {a y : Nat} (ha : a ≤ 14) (hy : y < 14) (h180 : M 18 0 = nI a) (h181 : M 18 1 = nI y) {x : Int32} : Wp (d + 9) 80 [.ref 1, .int x] (S, M, J) (fun rs w' => ∃ M', w' = (S, M', J) ∧ (¬ (aRepl (vO M 4) (vO M 4 0).toNatClampNeg x).1 = 0 → M' = M) ∧ ((aRepl (vO M 4) (vO M 4 0).toNatClampNeg x).1 = 0 → M' = sO (hRem M a y) 4 (rRenew (vO M 4) x.toNatClampNeg)) ∧ rs = cRs (fun c => if c = 1 then 2 else 1) (aRepl (vO M 4) (vO M 4 0).toNatClampNeg x)) := by
  obtain ⟨hSt, hO, hOt, ⟨b1, r10, r11, r12, r13, r14⟩, ⟨b18, r182⟩, hH, hV⟩ := id hR
  have k0 : S.2.1 4 = 2 := hO.1.1
  have k1 : S.2.1 5 = 0 := hO.1.2.1
  have k4 : S.2.1 8 = 3 := hO.1.2.2.2.2.1
  have q0 : S.2.2.2 4 0 = 5 := hO.2.1.1
  have q1 : S.2.2.2 4 1 = 8 := hO.2.1.2.1
  have kt : S.2.1 11 = 2 := hOt.1.1
  have kst : S.2.1 2 = 5 := hSt.1
  have k120 : S.2.1 120 = 4 := hV.1
  have v3 : M 4 3 = vO M 4 3 := rfl
  have v4 : M 4 5 = vO M 4 4 := rfl
  have v12 : M 4 4 = vO M 4 12 := rfl
  have v5 : M 4 8 = vO M 4 5 := rfl
  have v13 : M 4 13 = vO M 4 13 := rfl
  have v14 : M 4 14 = vO M 4 14 := rfl
  have v15 : M 4 15 = vO M 4 15 := rfl
  have v16 : M 4 16 = vO M 4 16 := rfl
  have v1 : M 4 2 = vO M 4 1 := rfl
  have v0 : M 5 0 = vO M 4 0 := rfl
  have v17 : M 8 0 = vO M 4 17 := rfl
  have v6 : M 4 6 = vO M 4 6 := rfl
  have v7 : M 4 7 = vO M 4 7 := rfl
  have v8 : M 4 9 = vO M 4 8 := rfl
  have v9 : M 4 10 = vO M 4 9 := rfl
  have v10 : M 4 11 = vO M 4 10 := rfl
  have v11 : M 4 12 = vO M 4 11 := rfl
  have v2 : M 5 1 = vO M 4 2 := rfl
  obtain ⟨n, cur, hn3, hn, hcur, e0, e7⟩ := id hI.1.1
  have hc17 := hI.cnt
  have hB3 := bok3 hI.1.2.1
  obtain ⟨N, hN⟩ : ∃ N, N = hRem M a y := ⟨_, rfl⟩
  have eN : vO N 4 = vO M 4 := by rw [hN, hRem_vO]
  have hIN : I2 BB (vO N 4) := by rw [eN]; exact hI
  have ez : (vO M 4 0).toNatClampNeg = n := by rw [e0, ck (by omega)]
  rw [ez]
  refine ⟨rfl, ?_⟩
  refine EE.runN (stop := noStop) 80 _ ?_
  refine ⟨by simp only [wI_M, wI_1, wI_w, b1, r10, r11, r12, r13, r14, b18, r182, k0, k1, k4, q0, q1, kt, kst, k120] <;> first | rfl | decide, ?_⟩
  refine ⟨by simp only [wI_M, wI_1, wI_w, b1, r10, r11, r12, r13, r14, b18, r182, k0, k1, k4, q0, q1, kt, kst, k120] <;> first | rfl | decide, ?_⟩
  refine ⟨⟨Nat.le_of_ble_eq_true rfl, Nat.le_of_ble_eq_true rfl, Nat.le_of_ble_eq_true rfl⟩, by simp only [wI_M, wI_1, wI_w, b1, r10, r11, r12, r13, r14, b18, r182, k0, k1, k4, q0, q1, kt, kst, k120] <;> first | rfl | decide, _, by simp only [wI_M, wI_1, wI_w, b1, r10, r11, r12, r13, r14, b18, r182, k0, k1, k4, q0, q1, kt, kst, k120]; exact V_hasSlot (b := 4) (o := 5) hO rfl, ?_⟩
  rintro _ _ ⟨rfl, rfl⟩
  refine ⟨Or.inl rfl, ?_⟩
  refine ⟨fun h1 => ?_, fun h1 => ?_⟩
  · refine ⟨by simp only [wI_M, wI_1, wI_w, b1, r10, r11, r12, r13, r14, b18, r182, k0, k1, k4, q0, q1, kt, kst, k120] <;> first | rfl | decide, ?_⟩
    refine ⟨⟨Nat.le_of_ble_eq_true rfl, Nat.le_of_ble_eq_true rfl, Nat.le_of_ble_eq_true rfl⟩, by simp only [wI_M, wI_1, wI_w, b1, r10, r11, r12, r13, r14, b18, r182, k0, k1, k4, q0, q1, kt, kst, k120] <;> first | rfl | decide, _, by simp only [wI_M, wI_1, wI_w, b1, r10, r11, r12, r13, r14, b18, r182, k0, k1, k4, q0, q1, kt, kst, k120]; exact V_canReplace (b := 4) hO, ?_⟩
    rintro _ _ ⟨rfl, rfl⟩
    refine ⟨Or.inl rfl, ?_⟩
    refine ⟨fun h2 => ?_, fun h2 => ?_⟩
    · have g_ := h1
      simp only [wI_M, wI_1, wI_w, b1, r10, r11, r12, r13, r14, b18, r182, k0, k1, k4, q0, q1, kt, kst, k120, v3, v4, v12, v5, v13, v14, v15, v16, v1, v0, v17, v6, v7, v8, v9, v10, v11, v2, bI_e0, Classical.not_not] at g_
      rw [e0] at g_
      obtain ⟨q, hq, rfl⟩ := in_nat' (by omega) g_
      refine ⟨by simp only [wI_M, wI_1, wI_w, b1, r10, r11, r12, r13, r14, b18, r182, k0, k1, k4, q0, q1, kt, kst, k120] <;> first | rfl | decide, ?_⟩
      refine ⟨by simp only [wI_M, wI_1, wI_w, b1, r10, r11, r12, r13, r14, b18, r182, k0, k1, k4, q0, q1, kt, kst, k120] <;> first | rfl | decide, ?_⟩
      refine ⟨⟨Nat.le_of_ble_eq_true rfl, Nat.le_of_ble_eq_true rfl, Nat.le_of_ble_eq_true rfl⟩, by simp only [wI_M, wI_1, wI_w, b1, r10, r11, r12, r13, r14, b18, r182, k0, k1, k4, q0, q1, kt, kst, k120] <;> first | rfl | decide, _, by simp only [r11, r13]; exact T_remember hR ha hy h180 h181 hI.1.2.1.1 hI.1.2.1.2, ?_⟩
      rintro _ w1 ⟨rfl, hw⟩
      have hw : w1 = (S, N, J) := by rw [hw, hN]
      subst hw
      refine ⟨Or.inl rfl, ?_⟩
      refine ⟨by simp only [wI_M, wI_1, wI_w, b1, r10, r11, r12, r13, r14, b18, r182, k0, k1, k4, q0, q1, kt, kst, k120] <;> first | rfl | decide, ?_⟩
      refine ⟨by simp only [wI_M, wI_1, wI_w, b1, r10, r11, r12, r13, r14, b18, r182, k0, k1, k4, q0, q1, kt, kst, k120] <;> first | rfl | decide, ?_⟩
      refine ⟨⟨Nat.le_of_ble_eq_true rfl, Nat.le_of_ble_eq_true rfl, Nat.le_of_ble_eq_true rfl⟩, by simp only [wI_M, wI_1, wI_w, b1, r10, r11, r12, r13, r14, b18, r182, k0, k1, k4, q0, q1, kt, kst, k120] <;> first | rfl | decide, _, by simp only [wI_M, wI_1, wI_w, b1, r10, r11, r12, r13, r14, b18, r182, k0, k1, k4, q0, q1, kt, kst, k120]; exact V_renew (b := 4) (o := 5) hO rfl (s := q) (by omega), ?_⟩
      rintro _ _ ⟨rfl, rfl⟩
      refine ⟨Or.inl rfl, ?_⟩
      (try simp only [wI_M, wI_1, wI_w, b1, r10, r11, r12, r13, r14, b18, r182, k0, k1, k4, q0, q1, kt, kst, k120, v3, v4, v12, v5, v13, v14, v15, v16, v1, v0, v17, v6, v7, v8, v9, v10, v11, v2, bI_e0, Classical.not_not] at h1)
      (try simp only [wI_M, wI_1, wI_w, b1, r10, r11, r12, r13, r14, b18, r182, k0, k1, k4, q0, q1, kt, kst, k120, v3, v4, v12, v5, v13, v14, v15, v16, v1, v0, v17, v6, v7, v8, v9, v10, v11, v2, bI_e0, Classical.not_not] at h2)
      rw [e0] at h1
      refine ⟨⟨Nat.zero_le _, Nat.zero_le _⟩, _, rfl, ?_, ?_, ?_⟩
      · unfold aRepl; rw [if_pos h1, if_pos ⟨hB3.mpr h2.1, h2.2.2⟩]; intro h_; exact absurd rfl h_
      · intro _; rw [eN, hN, ck (show q < 2147483648 by omega)]
      · unfold aRepl; rw [if_pos h1, if_pos ⟨hB3.mpr h2.1, h2.2.2⟩]
        refine congrArg (fun v => Sum.inl (some (Value.int v))) ?_
        rw [eN, ck (show q < 2147483648 by omega)]
    · (try simp only [wI_M, wI_1, wI_w, b1, r10, r11, r12, r13, r14, b18, r182, k0, k1, k4, q0, q1, kt, kst, k120, v3, v4, v12, v5, v13, v14, v15, v16, v1, v0, v17, v6, v7, v8, v9, v10, v11, v2, bI_e0, Classical.not_not] at h1)
      (try simp only [wI_M, wI_1, wI_w, b1, r10, r11, r12, r13, r14, b18, r182, k0, k1, k4, q0, q1, kt, kst, k120, v3, v4, v12, v5, v13, v14, v15, v16, v1, v0, v17, v6, v7, v8, v9, v10, v11, v2, bI_e0, Classical.not_not] at h2)
      rw [e0] at h1
      refine ⟨Nat.le_of_ble_eq_true rfl, ⟨by omega, Nat.le_of_ble_eq_true rfl, Nat.le_of_ble_eq_true rfl, rfl⟩, M, rfl, fun _ => rfl, ?_, ?_⟩
      · unfold aRepl; rw [if_pos h1, if_neg (fun h_ => h2 ⟨hB3.mp h_.1, by rw [e0]; exact h1, h_.2⟩)]; intro h_; exact absurd h_ (by decide)
      · unfold aRepl; rw [if_pos h1, if_neg (fun h_ => h2 ⟨hB3.mp h_.1, by rw [e0]; exact h1, h_.2⟩)]; rfl
  · (try simp only [wI_M, wI_1, wI_w, b1, r10, r11, r12, r13, r14, b18, r182, k0, k1, k4, q0, q1, kt, kst, k120, v3, v4, v12, v5, v13, v14, v15, v16, v1, v0, v17, v6, v7, v8, v9, v10, v11, v2, bI_e0, Classical.not_not] at h1)
    rw [e0] at h1
    refine ⟨Nat.le_of_ble_eq_true rfl, ⟨by omega, Nat.le_of_ble_eq_true rfl, Nat.le_of_ble_eq_true rfl, rfl⟩, M, rfl, fun _ => rfl, ?_, ?_⟩
    · unfold aRepl; rw [if_neg h1]; intro h_; exact absurd h_ (by decide)
    · unfold aRepl; rw [if_neg h1]; rfl
set_option maxHeartbeats 1000000 in
theorem C_undo {d : Nat} {S : Sc} {M : Nat → Nat → Int32} {J : Nat → Nat → Int64} {BB : Nat} (hR : RgS S) (hI : I2 BB (vO M 4)) (hBB : BB < 1000000) {a y : Nat} (ha : a ≤ 14) (hy : y < 14) (h180 : M 18 0 = nI a) (h181 : M 18 1 = nI y) (hU : 1 ≤ a → Bok (vO M (22 + 7 * ((y + 13) % 14)))) : Wp (d + 9) 81 [.ref 1] (S, M, J) (fun rs w' => ∃ M', w' = (S, M', J) ∧ (¬ (aUndo a).1 = 0 → M' = M) ∧ ((aUndo a).1 = 0 → M' = hBack M a y) ∧ rs = cRs (fun c => 1) (aUndo a)) := by
  obtain ⟨hSt, hO, hOt, ⟨b1, r10, r11, r12, r13, r14⟩, ⟨b18, r182⟩, hH, hV⟩ := id hR
  have k0 : S.2.1 4 = 2 := hO.1.1
  have k1 : S.2.1 5 = 0 := hO.1.2.1
  have k4 : S.2.1 8 = 3 := hO.1.2.2.2.2.1
  have q0 : S.2.2.2 4 0 = 5 := hO.2.1.1
  have q1 : S.2.2.2 4 1 = 8 := hO.2.1.2.1
  have kt : S.2.1 11 = 2 := hOt.1.1
  have kst : S.2.1 2 = 5 := hSt.1
  have k120 : S.2.1 120 = 4 := hV.1
  have v3 : M 4 3 = vO M 4 3 := rfl
  have v4 : M 4 5 = vO M 4 4 := rfl
  have v12 : M 4 4 = vO M 4 12 := rfl
  have v5 : M 4 8 = vO M 4 5 := rfl
  have v13 : M 4 13 = vO M 4 13 := rfl
  have v14 : M 4 14 = vO M 4 14 := rfl
  have v15 : M 4 15 = vO M 4 15 := rfl
  have v16 : M 4 16 = vO M 4 16 := rfl
  have v1 : M 4 2 = vO M 4 1 := rfl
  have v0 : M 5 0 = vO M 4 0 := rfl
  have v17 : M 8 0 = vO M 4 17 := rfl
  have v6 : M 4 6 = vO M 4 6 := rfl
  have v7 : M 4 7 = vO M 4 7 := rfl
  have v8 : M 4 9 = vO M 4 8 := rfl
  have v9 : M 4 10 = vO M 4 9 := rfl
  have v10 : M 4 11 = vO M 4 10 := rfl
  have v11 : M 4 12 = vO M 4 11 := rfl
  have v2 : M 5 1 = vO M 4 2 := rfl
  obtain ⟨n, cur, hn3, hn, hcur, e0, e7⟩ := id hI.1.1
  have hc17 := hI.cnt
  have hB3 := bok3 hI.1.2.1
  refine ⟨rfl, ?_⟩
  refine EE.runN (stop := noStop) 80 _ ?_
  refine ⟨by simp only [wI_M, wI_1, wI_w, b1, r10, r11, r12, r13, r14, b18, r182, k0, k1, k4, q0, q1, kt, kst, k120] <;> first | rfl | decide, ?_⟩
  refine ⟨by simp only [wI_M, wI_1, wI_w, b1, r10, r11, r12, r13, r14, b18, r182, k0, k1, k4, q0, q1, kt, kst, k120] <;> first | rfl | decide, ?_⟩
  refine ⟨fun h1 => ?_, fun h1 => ?_⟩
  · have h1a : 1 ≤ a := by
      rcases Nat.eq_zero_or_pos a with h_ | h_
      · exact absurd (by simp only [wI_M, wI_1, wI_w, b1, r10, r11, r12, r13, r14, b18, r182, k0, k1, k4, q0, q1, kt, kst, k120]; rw [h180, h_]; rfl) h1
      · exact h_
    refine ⟨by simp only [wI_M, wI_1, wI_w, b1, r10, r11, r12, r13, r14, b18, r182, k0, k1, k4, q0, q1, kt, kst, k120] <;> first | rfl | decide, ?_⟩
    refine ⟨by simp only [wI_M, wI_1, wI_w, b1, r10, r11, r12, r13, r14, b18, r182, k0, k1, k4, q0, q1, kt, kst, k120] <;> first | rfl | decide, ?_⟩
    refine ⟨⟨Nat.le_of_ble_eq_true rfl, Nat.le_of_ble_eq_true rfl, Nat.le_of_ble_eq_true rfl⟩, by simp only [wI_M, wI_1, wI_w, b1, r10, r11, r12, r13, r14, b18, r182, k0, k1, k4, q0, q1, kt, kst, k120] <;> first | rfl | decide, _, by simp only [r11, r13]; exact T_takeBack hR ha hy h180 h181 h1a (hU h1a).1 (hU h1a).2, ?_⟩
    rintro _ _ ⟨rfl, rfl⟩
    refine ⟨Or.inl rfl, ?_⟩
    (try simp only [wI_M, wI_1, wI_w, b1, r10, r11, r12, r13, r14, b18, r182, k0, k1, k4, q0, q1, kt, kst, k120, v3, v4, v12, v5, v13, v14, v15, v16, v1, v0, v17, v6, v7, v8, v9, v10, v11, v2, bI_e0, Classical.not_not] at h1)
    rw [h180] at h1
    refine ⟨⟨Nat.zero_le _, Nat.zero_le _⟩, _, rfl, ?_, ?_, ?_⟩
    · unfold aUndo; rw [if_neg h1]; intro h_; exact absurd rfl h_
    · intro _; rfl
    · unfold aUndo; rw [if_neg h1]
      refine congrArg (fun v => Sum.inl (some (Value.int v))) ?_
      rfl
  · (try simp only [wI_M, wI_1, wI_w, b1, r10, r11, r12, r13, r14, b18, r182, k0, k1, k4, q0, q1, kt, kst, k120, v3, v4, v12, v5, v13, v14, v15, v16, v1, v0, v17, v6, v7, v8, v9, v10, v11, v2, bI_e0, Classical.not_not] at h1)
    rw [h180] at h1
    refine ⟨Nat.le_of_ble_eq_true rfl, ⟨by omega, Nat.le_of_ble_eq_true rfl, Nat.le_of_ble_eq_true rfl, rfl⟩, M, rfl, fun _ => rfl, ?_, ?_⟩
    · unfold aUndo; rw [if_pos h1]; intro h_; exact absurd h_ (by decide)
    · unfold aUndo; rw [if_pos h1]; rfl
set_option maxHeartbeats 1000000 in
theorem C_save {d : Nat} {S : Sc} {M : Nat → Nat → Int32} {J : Nat → Nat → Int64} {BB : Nat} (hR : RgS S) (hI : I2 BB (vO M 4)) (hBB : BB < 1000000) {x : Int32} : Wp (d + 9) 89 [.ref 1, .int x] (S, M, J) (fun rs w' => ∃ M', w' = (S, M', J) ∧ (¬ (aSave (vO M 4) x).1 = 0 → M' = M) ∧ ((aSave (vO M 4) x).1 = 0 → M' = upA (sO M (120 + 3 + 7 * x.toNatClampNeg) (vO M 4)) (120 + 2) (upd (M (120 + 2)) x.toNatClampNeg 1)) ∧ rs = cRs (fun c => 2) (aSave (vO M 4) x)) := by
  obtain ⟨hSt, hO, hOt, ⟨b1, r10, r11, r12, r13, r14⟩, ⟨b18, r182⟩, hH, hV⟩ := id hR
  have k0 : S.2.1 4 = 2 := hO.1.1
  have k1 : S.2.1 5 = 0 := hO.1.2.1
  have k4 : S.2.1 8 = 3 := hO.1.2.2.2.2.1
  have q0 : S.2.2.2 4 0 = 5 := hO.2.1.1
  have q1 : S.2.2.2 4 1 = 8 := hO.2.1.2.1
  have kt : S.2.1 11 = 2 := hOt.1.1
  have kst : S.2.1 2 = 5 := hSt.1
  have k120 : S.2.1 120 = 4 := hV.1
  have v3 : M 4 3 = vO M 4 3 := rfl
  have v4 : M 4 5 = vO M 4 4 := rfl
  have v12 : M 4 4 = vO M 4 12 := rfl
  have v5 : M 4 8 = vO M 4 5 := rfl
  have v13 : M 4 13 = vO M 4 13 := rfl
  have v14 : M 4 14 = vO M 4 14 := rfl
  have v15 : M 4 15 = vO M 4 15 := rfl
  have v16 : M 4 16 = vO M 4 16 := rfl
  have v1 : M 4 2 = vO M 4 1 := rfl
  have v0 : M 5 0 = vO M 4 0 := rfl
  have v17 : M 8 0 = vO M 4 17 := rfl
  have v6 : M 4 6 = vO M 4 6 := rfl
  have v7 : M 4 7 = vO M 4 7 := rfl
  have v8 : M 4 9 = vO M 4 8 := rfl
  have v9 : M 4 10 = vO M 4 9 := rfl
  have v10 : M 4 11 = vO M 4 10 := rfl
  have v11 : M 4 12 = vO M 4 11 := rfl
  have v2 : M 5 1 = vO M 4 2 := rfl
  obtain ⟨n, cur, hn3, hn, hcur, e0, e7⟩ := id hI.1.1
  have hc17 := hI.cnt
  have hB3 := bok3 hI.1.2.1
  refine ⟨rfl, ?_⟩
  refine EE.runN (stop := noStop) 80 _ ?_
  refine ⟨fun h1 => ?_, fun h1 => ?_⟩
  · (try simp only [wI_M, wI_1, wI_w, b1, r10, r11, r12, r13, r14, b18, r182, k0, k1, k4, q0, q1, kt, kst, k120, v3, v4, v12, v5, v13, v14, v15, v16, v1, v0, v17, v6, v7, v8, v9, v10, v11, v2, bI_e0, Classical.not_not] at h1)
    refine ⟨Nat.le_of_ble_eq_true rfl, ⟨by omega, Nat.le_of_ble_eq_true rfl, Nat.le_of_ble_eq_true rfl, rfl⟩, M, rfl, fun _ => rfl, ?_, ?_⟩
    · unfold aSave; rw [if_neg (fun h_ => h_.1 h1)]; intro h_; exact absurd h_ (by decide)
    · unfold aSave; rw [if_neg (fun h_ => h_.1 h1)]; rfl
  · refine ⟨fun h2 => ?_, fun h2 => ?_⟩
    · have gz : ¬ x < 0 ∧ ¬ 1 < x := ⟨h1, (c_lt (k := 1) (by omega)).mp h2⟩
      obtain ⟨q, hq, rfl⟩ := in_nat (k := 1) rfl (by omega) gz
      refine ⟨by simp only [wI_M, wI_1, wI_w, b1, r10, r11, r12, r13, r14, b18, r182, k0, k1, k4, q0, q1, kt, kst, k120] <;> first | rfl | decide, ?_⟩
      refine ⟨by simp only [wI_M, wI_1, wI_w, b1, r10, r11, r12, r13, r14, b18, r182, k0, k1, k4, q0, q1, kt, kst, k120] <;> first | rfl | decide, ?_⟩
      refine ⟨⟨Nat.le_of_ble_eq_true rfl, Nat.le_of_ble_eq_true rfl, Nat.le_of_ble_eq_true rfl⟩, by simp only [wI_M, wI_1, wI_w, b1, r10, r11, r12, r13, r14, b18, r182, k0, k1, k4, q0, q1, kt, kst, k120] <;> first | rfl | decide, _, by simp only [r14, r11]; exact T_shPut (b := 120) hV (by omega) (by omega) hO (by omega) hI.1.2.1.1 hI.1.2.1.2, ?_⟩
      rintro _ _ ⟨rfl, rfl⟩
      refine ⟨Or.inl rfl, ?_⟩
      refine ⟨by simp only [wI_M, wI_1, wI_w, b1, r10, r11, r12, r13, r14, b18, r182, k0, k1, k4, q0, q1, kt, kst, k120] <;> first | rfl | decide, ?_⟩
      refine ⟨by simp only [wI_M, wI_1, wI_w, b1, r10, r11, r12, r13, r14, b18, r182, k0, k1, k4, q0, q1, kt, kst, k120] <;> first | rfl | decide, ?_⟩
      (try simp only [wI_M, wI_1, wI_w, b1, r10, r11, r12, r13, r14, b18, r182, k0, k1, k4, q0, q1, kt, kst, k120, v3, v4, v12, v5, v13, v14, v15, v16, v1, v0, v17, v6, v7, v8, v9, v10, v11, v2, bI_e0, Classical.not_not] at h1)
      (try simp only [wI_M, wI_1, wI_w, b1, r10, r11, r12, r13, r14, b18, r182, k0, k1, k4, q0, q1, kt, kst, k120, v3, v4, v12, v5, v13, v14, v15, v16, v1, v0, v17, v6, v7, v8, v9, v10, v11, v2, bI_e0, Classical.not_not] at h2)
      refine ⟨⟨Nat.zero_le _, Nat.zero_le _⟩, _, rfl, ?_, ?_, ?_⟩
      · unfold aSave; rw [if_pos gz]; intro h_; exact absurd rfl h_
      · intro _; rw [ck (show q < 2147483648 by omega)]
      · unfold aSave; rw [if_pos gz]
        refine congrArg (fun v => Sum.inl (some (Value.int v))) ?_
        simp only [wI_M, wI_1, wI_w, b1, r10, r11, r12, r13, r14, b18, r182, k0, k1, k4, q0, q1, kt, kst, k120, upA_n _ _ (show (4 : Nat) ≠ 120 + 2 by omega), sO_ot _ _ _ (show 4 < 120 + 3 + 7 * q ∨ 120 + 3 + 7 * q + 7 ≤ 4 by omega)]; rfl
    · (try simp only [wI_M, wI_1, wI_w, b1, r10, r11, r12, r13, r14, b18, r182, k0, k1, k4, q0, q1, kt, kst, k120, v3, v4, v12, v5, v13, v14, v15, v16, v1, v0, v17, v6, v7, v8, v9, v10, v11, v2, bI_e0, Classical.not_not] at h1)
      (try simp only [wI_M, wI_1, wI_w, b1, r10, r11, r12, r13, r14, b18, r182, k0, k1, k4, q0, q1, kt, kst, k120, v3, v4, v12, v5, v13, v14, v15, v16, v1, v0, v17, v6, v7, v8, v9, v10, v11, v2, bI_e0, Classical.not_not] at h2)
      refine ⟨Nat.le_of_ble_eq_true rfl, ⟨by omega, Nat.le_of_ble_eq_true rfl, Nat.le_of_ble_eq_true rfl, rfl⟩, M, rfl, fun _ => rfl, ?_, ?_⟩
      · unfold aSave; rw [if_neg (fun h_ => h2 ((c_lt (k := 1) (by omega)).mpr h_.2))]; intro h_; exact absurd h_ (by decide)
      · unfold aSave; rw [if_neg (fun h_ => h2 ((c_lt (k := 1) (by omega)).mpr h_.2))]; rfl
set_option maxHeartbeats 1000000 in
theorem C_restore {d : Nat} {S : Sc} {M : Nat → Nat → Int32} {J : Nat → Nat → Int64} {BB : Nat} (hR : RgS S) (hI : I2 BB (vO M 4)) (hBB : BB < 1000000) {x : Int32} (hW : ∀ q, q < 2 → ¬ M (120 + 2) q = 0 → Bok (vO M (120 + 3 + 7 * q))) : Wp (d + 9) 90 [.ref 1, .int x] (S, M, J) (fun rs w' => ∃ M', w' = (S, M', J) ∧ (¬ (aRest (fun k => vO M (120 + 3 + 7 * (k / 114)) (k % 114)) (M (120 + 2)) x).1 = 0 → M' = M) ∧ ((aRest (fun k => vO M (120 + 3 + 7 * (k / 114)) (k % 114)) (M (120 + 2)) x).1 = 0 → M' = upA (sO M 4 (vO M (120 + 3 + 7 * x.toNatClampNeg))) 18 (upd (sO M 4 (vO M (120 + 3 + 7 * x.toNatClampNeg)) 18) 0 0)) ∧ rs = cRs (fun c => if c = 1 then 2 else 1) (aRest (fun k => vO M (120 + 3 + 7 * (k / 114)) (k % 114)) (M (120 + 2)) x)) := by
  obtain ⟨hSt, hO, hOt, ⟨b1, r10, r11, r12, r13, r14⟩, ⟨b18, r182⟩, hH, hV⟩ := id hR
  have k0 : S.2.1 4 = 2 := hO.1.1
  have k1 : S.2.1 5 = 0 := hO.1.2.1
  have k4 : S.2.1 8 = 3 := hO.1.2.2.2.2.1
  have q0 : S.2.2.2 4 0 = 5 := hO.2.1.1
  have q1 : S.2.2.2 4 1 = 8 := hO.2.1.2.1
  have kt : S.2.1 11 = 2 := hOt.1.1
  have kst : S.2.1 2 = 5 := hSt.1
  have k120 : S.2.1 120 = 4 := hV.1
  have v3 : M 4 3 = vO M 4 3 := rfl
  have v4 : M 4 5 = vO M 4 4 := rfl
  have v12 : M 4 4 = vO M 4 12 := rfl
  have v5 : M 4 8 = vO M 4 5 := rfl
  have v13 : M 4 13 = vO M 4 13 := rfl
  have v14 : M 4 14 = vO M 4 14 := rfl
  have v15 : M 4 15 = vO M 4 15 := rfl
  have v16 : M 4 16 = vO M 4 16 := rfl
  have v1 : M 4 2 = vO M 4 1 := rfl
  have v0 : M 5 0 = vO M 4 0 := rfl
  have v17 : M 8 0 = vO M 4 17 := rfl
  have v6 : M 4 6 = vO M 4 6 := rfl
  have v7 : M 4 7 = vO M 4 7 := rfl
  have v8 : M 4 9 = vO M 4 8 := rfl
  have v9 : M 4 10 = vO M 4 9 := rfl
  have v10 : M 4 11 = vO M 4 10 := rfl
  have v11 : M 4 12 = vO M 4 11 := rfl
  have v2 : M 5 1 = vO M 4 2 := rfl
  obtain ⟨n, cur, hn3, hn, hcur, e0, e7⟩ := id hI.1.1
  have hc17 := hI.cnt
  have hB3 := bok3 hI.1.2.1
  refine ⟨rfl, ?_⟩
  refine EE.runN (stop := noStop) 80 _ ?_
  refine ⟨fun h1 => ?_, fun h1 => ?_⟩
  · (try simp only [wI_M, wI_1, wI_w, b1, r10, r11, r12, r13, r14, b18, r182, k0, k1, k4, q0, q1, kt, kst, k120, v3, v4, v12, v5, v13, v14, v15, v16, v1, v0, v17, v6, v7, v8, v9, v10, v11, v2, bI_e0, Classical.not_not] at h1)
    refine ⟨Nat.le_of_ble_eq_true rfl, ⟨by omega, Nat.le_of_ble_eq_true rfl, Nat.le_of_ble_eq_true rfl, rfl⟩, M, rfl, fun _ => rfl, ?_, ?_⟩
    · unfold aRest; rw [if_neg (fun h_ => h_.1 h1)]; intro h_; exact absurd h_ (by decide)
    · unfold aRest; rw [if_neg (fun h_ => h_.1 h1)]; rfl
  · refine ⟨fun h2 => ?_, fun h2 => ?_⟩
    · have gz : ¬ x < 0 ∧ ¬ 1 < x := ⟨h1, (c_lt (k := 1) (by omega)).mp h2⟩
      obtain ⟨q, hq, rfl⟩ := in_nat (k := 1) rfl (by omega) gz
      refine ⟨by simp only [wI_M, wI_1, wI_w, b1, r10, r11, r12, r13, r14, b18, r182, k0, k1, k4, q0, q1, kt, kst, k120] <;> first | rfl | decide, ?_⟩
      refine ⟨⟨Nat.le_of_ble_eq_true rfl, Nat.le_of_ble_eq_true rfl, Nat.le_of_ble_eq_true rfl⟩, by simp only [wI_M, wI_1, wI_w, b1, r10, r11, r12, r13, r14, b18, r182, k0, k1, k4, q0, q1, kt, kst, k120] <;> first | rfl | decide, _, by simp only [r14]; exact T_isFull (b := 120) hV (by omega) (x := q) (by omega), ?_⟩
      rintro _ _ ⟨rfl, rfl⟩
      refine ⟨Or.inl rfl, ?_⟩
      refine ⟨fun h3 => ?_, fun h3 => ?_⟩
      · have hfl := h3
        simp only [wI_M, wI_1, wI_w, b1, r10, r11, r12, r13, r14, b18, r182, k0, k1, k4, q0, q1, kt, kst, k120, v3, v4, v12, v5, v13, v14, v15, v16, v1, v0, v17, v6, v7, v8, v9, v10, v11, v2, bI_e0, Classical.not_not] at hfl
        refine ⟨by simp only [wI_M, wI_1, wI_w, b1, r10, r11, r12, r13, r14, b18, r182, k0, k1, k4, q0, q1, kt, kst, k120] <;> first | rfl | decide, ?_⟩
        refine ⟨by simp only [wI_M, wI_1, wI_w, b1, r10, r11, r12, r13, r14, b18, r182, k0, k1, k4, q0, q1, kt, kst, k120] <;> first | rfl | decide, ?_⟩
        refine ⟨⟨Nat.le_of_ble_eq_true rfl, Nat.le_of_ble_eq_true rfl, Nat.le_of_ble_eq_true rfl⟩, by simp only [wI_M, wI_1, wI_w, b1, r10, r11, r12, r13, r14, b18, r182, k0, k1, k4, q0, q1, kt, kst, k120] <;> first | rfl | decide, _, by simp only [r14, r11]; exact T_shTake (b := 120) hV (by omega) (x := q) (by omega) hO (by omega) (hW q (by omega) hfl).1 (hW q (by omega) hfl).2, ?_⟩
        rintro _ _ ⟨rfl, rfl⟩
        refine ⟨Or.inl rfl, ?_⟩
        refine ⟨by simp only [wI_M, wI_1, wI_w, b1, r10, r11, r12, r13, r14, b18, r182, k0, k1, k4, q0, q1, kt, kst, k120] <;> first | rfl | decide, ?_⟩
        refine ⟨⟨Nat.le_of_ble_eq_true rfl, Nat.le_of_ble_eq_true rfl, Nat.le_of_ble_eq_true rfl⟩, by simp only [wI_M, wI_1, wI_w, b1, r10, r11, r12, r13, r14, b18, r182, k0, k1, k4, q0, q1, kt, kst, k120] <;> first | rfl | decide, _, by simp only [r13]; exact T_forgetAll hR, ?_⟩
        rintro _ _ ⟨rfl, rfl⟩
        refine ⟨Or.inl rfl, ?_⟩
        refine ⟨by simp only [wI_M, wI_1, wI_w, b1, r10, r11, r12, r13, r14, b18, r182, k0, k1, k4, q0, q1, kt, kst, k120] <;> first | rfl | decide, ?_⟩
        refine ⟨by simp only [wI_M, wI_1, wI_w, b1, r10, r11, r12, r13, r14, b18, r182, k0, k1, k4, q0, q1, kt, kst, k120] <;> first | rfl | decide, ?_⟩
        (try simp only [wI_M, wI_1, wI_w, b1, r10, r11, r12, r13, r14, b18, r182, k0, k1, k4, q0, q1, kt, kst, k120, v3, v4, v12, v5, v13, v14, v15, v16, v1, v0, v17, v6, v7, v8, v9, v10, v11, v2, bI_e0, Classical.not_not] at h1)
        (try simp only [wI_M, wI_1, wI_w, b1, r10, r11, r12, r13, r14, b18, r182, k0, k1, k4, q0, q1, kt, kst, k120, v3, v4, v12, v5, v13, v14, v15, v16, v1, v0, v17, v6, v7, v8, v9, v10, v11, v2, bI_e0, Classical.not_not] at h2)
        (try simp only [wI_M, wI_1, wI_w, b1, r10, r11, r12, r13, r14, b18, r182, k0, k1, k4, q0, q1, kt, kst, k120, v3, v4, v12, v5, v13, v14, v15, v16, v1, v0, v17, v6, v7, v8, v9, v10, v11, v2, bI_e0, Classical.not_not] at h3)
        refine ⟨⟨Nat.zero_le _, Nat.zero_le _⟩, _, rfl, ?_, ?_, ?_⟩
        · unfold aRest; rw [if_pos gz, ck (show q < 2147483648 by omega), if_neg h3]; intro h_; exact absurd rfl h_
        · intro _; rw [ck (show q < 2147483648 by omega)]
        · unfold aRest; rw [if_pos gz, ck (show q < 2147483648 by omega), if_neg h3]
          refine congrArg (fun v => Sum.inl (some (Value.int v))) ?_
          simp only [wI_M, wI_1, wI_w, b1, r10, r11, r12, r13, r14, b18, r182, k0, k1, k4, q0, q1, kt, kst, k120, upA_n _ _ (show (4 : Nat) ≠ 18 by omega)]; rw [show (114 * q + 5) / 114 = q by omega, show (114 * q + 5) % 114 = 5 by omega]; exact sO_rd M 4 _ 0 8 (by decide)
      · (try simp only [wI_M, wI_1, wI_w, b1, r10, r11, r12, r13, r14, b18, r182, k0, k1, k4, q0, q1, kt, kst, k120, v3, v4, v12, v5, v13, v14, v15, v16, v1, v0, v17, v6, v7, v8, v9, v10, v11, v2, bI_e0, Classical.not_not] at h1)
        (try simp only [wI_M, wI_1, wI_w, b1, r10, r11, r12, r13, r14, b18, r182, k0, k1, k4, q0, q1, kt, kst, k120, v3, v4, v12, v5, v13, v14, v15, v16, v1, v0, v17, v6, v7, v8, v9, v10, v11, v2, bI_e0, Classical.not_not] at h2)
        (try simp only [wI_M, wI_1, wI_w, b1, r10, r11, r12, r13, r14, b18, r182, k0, k1, k4, q0, q1, kt, kst, k120, v3, v4, v12, v5, v13, v14, v15, v16, v1, v0, v17, v6, v7, v8, v9, v10, v11, v2, bI_e0, Classical.not_not] at h3)
        refine ⟨Nat.le_of_ble_eq_true rfl, ⟨by omega, Nat.le_of_ble_eq_true rfl, Nat.le_of_ble_eq_true rfl, rfl⟩, M, rfl, fun _ => rfl, ?_, ?_⟩
        · unfold aRest; rw [if_pos gz, ck (show q < 2147483648 by omega), if_pos h3]; intro h_; exact absurd h_ (by decide)
        · unfold aRest; rw [if_pos gz, ck (show q < 2147483648 by omega), if_pos h3]; rfl
    · (try simp only [wI_M, wI_1, wI_w, b1, r10, r11, r12, r13, r14, b18, r182, k0, k1, k4, q0, q1, kt, kst, k120, v3, v4, v12, v5, v13, v14, v15, v16, v1, v0, v17, v6, v7, v8, v9, v10, v11, v2, bI_e0, Classical.not_not] at h1)
      (try simp only [wI_M, wI_1, wI_w, b1, r10, r11, r12, r13, r14, b18, r182, k0, k1, k4, q0, q1, kt, kst, k120, v3, v4, v12, v5, v13, v14, v15, v16, v1, v0, v17, v6, v7, v8, v9, v10, v11, v2, bI_e0, Classical.not_not] at h2)
      refine ⟨Nat.le_of_ble_eq_true rfl, ⟨by omega, Nat.le_of_ble_eq_true rfl, Nat.le_of_ble_eq_true rfl, rfl⟩, M, rfl, fun _ => rfl, ?_, ?_⟩
      · unfold aRest; rw [if_neg (fun h_ => h2 ((c_lt (k := 1) (by omega)).mpr h_.2))]; intro h_; exact absurd h_ (by decide)
      · unfold aRest; rw [if_neg (fun h_ => h2 ((c_lt (k := 1) (by omega)).mpr h_.2))]; rfl
set_option maxHeartbeats 1000000 in
theorem C_append {d : Nat} {S : Sc} {M : Nat → Nat → Int32} {J : Nat → Nat → Int64} {BB : Nat} (hR : RgS S) (hI : I2 BB (vO M 4)) (hBB : BB < 1000000) {x : Int32} {m : Nat} {τ : Nat → Nat} (hT : TxC M m τ) : Wp (d + 8) 63 [.ref 1, .int x] (S, M, J) (fun rs w' => ∃ M', w' = (S, M', J) ∧ (¬ (aApp m x).1 = 0 → M' = M) ∧ ((aApp m x).1 = 0 → M' = upA (upA M 3 (upd (M 3) m x)) 2 (upd (M 2) 0 (nI (m + 1)))) ∧ rs = cRs (fun c => if c = 1 then 0 else 1) (aApp m x)) := by
  obtain ⟨hSt, hO, hOt, ⟨b1, r10, r11, r12, r13, r14⟩, ⟨b18, r182⟩, hH, hV⟩ := id hR
  have k0 : S.2.1 4 = 2 := hO.1.1
  have k1 : S.2.1 5 = 0 := hO.1.2.1
  have k4 : S.2.1 8 = 3 := hO.1.2.2.2.2.1
  have q0 : S.2.2.2 4 0 = 5 := hO.2.1.1
  have q1 : S.2.2.2 4 1 = 8 := hO.2.1.2.1
  have kt : S.2.1 11 = 2 := hOt.1.1
  have kst : S.2.1 2 = 5 := hSt.1
  have k120 : S.2.1 120 = 4 := hV.1
  have v3 : M 4 3 = vO M 4 3 := rfl
  have v4 : M 4 5 = vO M 4 4 := rfl
  have v12 : M 4 4 = vO M 4 12 := rfl
  have v5 : M 4 8 = vO M 4 5 := rfl
  have v13 : M 4 13 = vO M 4 13 := rfl
  have v14 : M 4 14 = vO M 4 14 := rfl
  have v15 : M 4 15 = vO M 4 15 := rfl
  have v16 : M 4 16 = vO M 4 16 := rfl
  have v1 : M 4 2 = vO M 4 1 := rfl
  have v0 : M 5 0 = vO M 4 0 := rfl
  have v17 : M 8 0 = vO M 4 17 := rfl
  have v6 : M 4 6 = vO M 4 6 := rfl
  have v7 : M 4 7 = vO M 4 7 := rfl
  have v8 : M 4 9 = vO M 4 8 := rfl
  have v9 : M 4 10 = vO M 4 9 := rfl
  have v10 : M 4 11 = vO M 4 10 := rfl
  have v11 : M 4 12 = vO M 4 11 := rfl
  have v2 : M 5 1 = vO M 4 2 := rfl
  obtain ⟨n, cur, hn3, hn, hcur, e0, e7⟩ := id hI.1.1
  have hc17 := hI.cnt
  have hB3 := bok3 hI.1.2.1
  have hm := hT.2.1
  refine ⟨rfl, ?_⟩
  refine EE.runN (stop := noStop) 80 _ ?_
  refine ⟨fun h1 => ?_, fun h1 => ?_⟩
  · (try simp only [wI_M, wI_1, wI_w, b1, r10, r11, r12, r13, r14, b18, r182, k0, k1, k4, q0, q1, kt, kst, k120, v3, v4, v12, v5, v13, v14, v15, v16, v1, v0, v17, v6, v7, v8, v9, v10, v11, v2, bI_e0, Classical.not_not] at h1)
    refine ⟨Nat.le_of_ble_eq_true rfl, ⟨by omega, Nat.le_of_ble_eq_true rfl, Nat.le_of_ble_eq_true rfl, rfl⟩, M, rfl, fun _ => rfl, ?_, ?_⟩
    · unfold aApp; rw [if_neg (fun h_ => h_.1 h1)]; intro h_; exact absurd h_ (by decide)
    · unfold aApp; rw [if_neg (fun h_ => h_.1 h1)]; rfl
  · refine ⟨fun h2 => ?_, fun h2 => ?_⟩
    · refine ⟨by simp only [wI_M, wI_1, wI_w, b1, r10, r11, r12, r13, r14, b18, r182, k0, k1, k4, q0, q1, kt, kst, k120] <;> first | rfl | decide, ?_⟩
      refine ⟨by simp only [wI_M, wI_1, wI_w, b1, r10, r11, r12, r13, r14, b18, r182, k0, k1, k4, q0, q1, kt, kst, k120] <;> first | rfl | decide, ?_⟩
      refine ⟨fun h3 => ?_, fun h3 => ?_⟩
      · have hlt : m < 90 := by have h_ := h3; simp only [wI_M, wI_1, wI_w, b1, r10, r11, r12, r13, r14, b18, r182, k0, k1, k4, q0, q1, kt, kst, k120, v3, v4, v12, v5, v13, v14, v15, v16, v1, v0, v17, v6, v7, v8, v9, v10, v11, v2, bI_e0, Classical.not_not, hT.1] at h_; rw [o_90, nI_ltI (by omega) (by omega)] at h_; exact h_
        refine ⟨by simp only [wI_M, wI_1, wI_w, b1, r10, r11, r12, r13, r14, b18, r182, k0, k1, k4, q0, q1, kt, kst, k120] <;> first | rfl | decide, ?_⟩
        refine ⟨⟨Nat.le_of_ble_eq_true rfl, Nat.le_of_ble_eq_true rfl, Nat.le_of_ble_eq_true rfl⟩, by simp only [wI_M, wI_1, wI_w, b1, r10, r11, r12, r13, r14, b18, r182, k0, k1, k4, q0, q1, kt, kst, k120] <;> first | rfl | decide, _, by simp only [r10]; exact T_add hSt hT hlt, ?_⟩
        rintro _ _ ⟨rfl, rfl⟩
        refine ⟨Or.inl rfl, ?_⟩
        (try simp only [wI_M, wI_1, wI_w, b1, r10, r11, r12, r13, r14, b18, r182, k0, k1, k4, q0, q1, kt, kst, k120, v3, v4, v12, v5, v13, v14, v15, v16, v1, v0, v17, v6, v7, v8, v9, v10, v11, v2, bI_e0, Classical.not_not] at h1)
        (try simp only [wI_M, wI_1, wI_w, b1, r10, r11, r12, r13, r14, b18, r182, k0, k1, k4, q0, q1, kt, kst, k120, v3, v4, v12, v5, v13, v14, v15, v16, v1, v0, v17, v6, v7, v8, v9, v10, v11, v2, bI_e0, Classical.not_not] at h2)
        (try simp only [wI_M, wI_1, wI_w, b1, r10, r11, r12, r13, r14, b18, r182, k0, k1, k4, q0, q1, kt, kst, k120, v3, v4, v12, v5, v13, v14, v15, v16, v1, v0, v17, v6, v7, v8, v9, v10, v11, v2, bI_e0, Classical.not_not] at h3)
        have g90 : ¬ nI m = 90 := by intro h_; rw [o_90, nI_eq (by omega) (by omega)] at h_; omega
        refine ⟨⟨Nat.zero_le _, Nat.zero_le _⟩, _, rfl, ?_, ?_, ?_⟩
        · unfold aApp; rw [if_pos ⟨h1, c_le.mp h2⟩, if_neg g90]; intro h_; exact absurd rfl h_
        · intro _; rfl
        · unfold aApp; rw [if_pos ⟨h1, c_le.mp h2⟩, if_neg g90]
          refine congrArg (fun v => Sum.inl (some (Value.int v))) ?_
          rfl
      · (try simp only [wI_M, wI_1, wI_w, b1, r10, r11, r12, r13, r14, b18, r182, k0, k1, k4, q0, q1, kt, kst, k120, v3, v4, v12, v5, v13, v14, v15, v16, v1, v0, v17, v6, v7, v8, v9, v10, v11, v2, bI_e0, Classical.not_not] at h1)
        (try simp only [wI_M, wI_1, wI_w, b1, r10, r11, r12, r13, r14, b18, r182, k0, k1, k4, q0, q1, kt, kst, k120, v3, v4, v12, v5, v13, v14, v15, v16, v1, v0, v17, v6, v7, v8, v9, v10, v11, v2, bI_e0, Classical.not_not] at h2)
        (try simp only [wI_M, wI_1, wI_w, b1, r10, r11, r12, r13, r14, b18, r182, k0, k1, k4, q0, q1, kt, kst, k120, v3, v4, v12, v5, v13, v14, v15, v16, v1, v0, v17, v6, v7, v8, v9, v10, v11, v2, bI_e0, Classical.not_not] at h3)
        have g90 : nI m = 90 := by have h_ := h3; rw [hT.1, o_90, nI_ltI (by omega) (by omega)] at h_; rw [show m = 90 by omega]; rfl
        refine ⟨Nat.le_of_ble_eq_true rfl, ⟨by omega, Nat.le_of_ble_eq_true rfl, Nat.le_of_ble_eq_true rfl, rfl⟩, M, rfl, fun _ => rfl, ?_, ?_⟩
        · unfold aApp; rw [if_pos ⟨h1, c_le.mp h2⟩, if_pos g90]; intro h_; exact absurd h_ (by decide)
        · unfold aApp; rw [if_pos ⟨h1, c_le.mp h2⟩, if_pos g90]; rfl
    · (try simp only [wI_M, wI_1, wI_w, b1, r10, r11, r12, r13, r14, b18, r182, k0, k1, k4, q0, q1, kt, kst, k120, v3, v4, v12, v5, v13, v14, v15, v16, v1, v0, v17, v6, v7, v8, v9, v10, v11, v2, bI_e0, Classical.not_not] at h1)
      (try simp only [wI_M, wI_1, wI_w, b1, r10, r11, r12, r13, r14, b18, r182, k0, k1, k4, q0, q1, kt, kst, k120, v3, v4, v12, v5, v13, v14, v15, v16, v1, v0, v17, v6, v7, v8, v9, v10, v11, v2, bI_e0, Classical.not_not] at h2)
      refine ⟨Nat.le_of_ble_eq_true rfl, ⟨by omega, Nat.le_of_ble_eq_true rfl, Nat.le_of_ble_eq_true rfl, rfl⟩, M, rfl, fun _ => rfl, ?_, ?_⟩
      · unfold aApp; rw [if_neg (fun h_ => h_.2 (Int32.not_le.mp h2))]; intro h_; exact absurd h_ (by decide)
      · unfold aApp; rw [if_neg (fun h_ => h_.2 (Int32.not_le.mp h2))]; rfl
set_option maxHeartbeats 1000000 in
theorem C_clear {d : Nat} {S : Sc} {M : Nat → Nat → Int32} {J : Nat → Nat → Int64} {m : Nat} {τ : Nat → Nat} (hR : RgS S) (hT : TxC M m τ) : Wp (d + 9) 64 [.ref 1] (S, M, J) (fun rs w' => rs = .inl (some (.int (nI m))) ∧ w' = (S, (upA M 2 (upd (M 2) 0 0)), J)) := by
  obtain ⟨hSt, hO, hOt, ⟨b1, r10, r11, r12, r13, r14⟩, ⟨b18, r182⟩, hH, hV⟩ := id hR
  have k0 : S.2.1 4 = 2 := hO.1.1
  have k1 : S.2.1 5 = 0 := hO.1.2.1
  have k4 : S.2.1 8 = 3 := hO.1.2.2.2.2.1
  have q0 : S.2.2.2 4 0 = 5 := hO.2.1.1
  have q1 : S.2.2.2 4 1 = 8 := hO.2.1.2.1
  have kt : S.2.1 11 = 2 := hOt.1.1
  have kst : S.2.1 2 = 5 := hSt.1
  have k120 : S.2.1 120 = 4 := hV.1
  refine ⟨rfl, ?_⟩
  refine EE.runN (stop := noStop) 80 _ ?_
  refine ⟨by simp only [wI_M, wI_1, wI_w, b1, r10, r11, r12, r13, r14, b18, r182, k0, k1, k4, q0, q1, kt, kst, k120] <;> first | rfl | decide, ?_⟩
  refine ⟨⟨Nat.le_of_ble_eq_true rfl, Nat.le_of_ble_eq_true rfl, Nat.le_of_ble_eq_true rfl⟩, by simp only [wI_M, wI_1, wI_w, b1, r10, r11, r12, r13, r14, b18, r182, k0, k1, k4, q0, q1, kt, kst, k120] <;> first | rfl | decide, _, by simp only [r10]; exact T_empty hSt hT, ?_⟩
  rintro _ _ ⟨rfl, rfl⟩
  refine ⟨Or.inl rfl, ?_⟩
  exact ⟨⟨Nat.zero_le _, Nat.zero_le _⟩, rfl, rfl⟩
set_option maxHeartbeats 1000000 in
theorem C_error {d : Nat} {S : Sc} {M : Nat → Nat → Int32} {J : Nat → Nat → Int64} {m : Nat} {τ : Nat → Nat} (hR : RgS S) (hT : TxC M m τ) : Wp (d + 9) 65 [.ref 1] (S, M, J) (fun rs w' => rs = .inl (some (.int (mTv (mEnd m τ)))) ∧ ∃ M', w' = (S, M', J) ∧ TxC M' m τ ∧ ∀ o, o ≠ 2 → M' o = M o) := by
  obtain ⟨hSt, hO, hOt, ⟨b1, r10, r11, r12, r13, r14⟩, ⟨b18, r182⟩, hH, hV⟩ := id hR
  have k0 : S.2.1 4 = 2 := hO.1.1
  have k1 : S.2.1 5 = 0 := hO.1.2.1
  have k4 : S.2.1 8 = 3 := hO.1.2.2.2.2.1
  have q0 : S.2.2.2 4 0 = 5 := hO.2.1.1
  have q1 : S.2.2.2 4 1 = 8 := hO.2.1.2.1
  have kt : S.2.1 11 = 2 := hOt.1.1
  have kst : S.2.1 2 = 5 := hSt.1
  have k120 : S.2.1 120 = 4 := hV.1
  refine ⟨rfl, ?_⟩
  refine EE.runN (stop := noStop) 80 _ ?_
  refine ⟨by simp only [wI_M, wI_1, wI_w, b1, r10, r11, r12, r13, r14, b18, r182, k0, k1, k4, q0, q1, kt, kst, k120] <;> first | rfl | decide, ?_⟩
  refine ⟨⟨Nat.le_of_ble_eq_true rfl, Nat.le_of_ble_eq_true rfl, Nat.le_of_ble_eq_true rfl⟩, by simp only [wI_M, wI_1, wI_w, b1, r10, r11, r12, r13, r14, b18, r182, k0, k1, k4, q0, q1, kt, kst, k120] <;> first | rfl | decide, _, by simp only [r10]; exact T_errorAt hSt hT, ?_⟩
  rintro _ w1 ⟨rfl, A, rfl, h1, h2⟩
  refine ⟨Or.inl rfl, ?_⟩
  exact ⟨⟨Nat.zero_le _, Nat.zero_le _⟩, rfl, A, rfl, h1, h2⟩
