/-! THE CLASS: its writes are the reference's: written by wip/whole/pure3.py -/
/-- the cut that is set: on the q-th write, and of which kind -/
def Kok (ρ : Rw) : Prop := ∃ q, q ≤ 36 ∧ ρ 10 = nI q ∧ (q = 0 ∨ ρ 11 = 0 ∨ ρ 11 = 1 ∨ ρ 11 = 2)
theorem q_cut {q : Nat} (hq : q ≤ 36) (h1 : ¬ nI q = 1) : (if 0 < nI q - 1 then nI q - 1 else 0) = nI q - (if nI q ≤ 0 then 0 else 1) := by
  rcases Nat.eq_zero_or_pos q with h | h
  · subst h
    decide
  · have h2 : q ≠ 1 := fun e => h1 (e ▸ rfl)
    have e : nI q - 1 = nI (q - 1) := by rw [show (1 : Int32) = nI 1 from rfl, pk_sub (by omega)]
    rw [if_neg (nI_nle h (by omega)), e, if_pos]
    exact nI_lt (a := 0) (b := q - 1) (by omega) (by omega)
theorem q_cut' {q : Nat} (hq : q ≤ 36) : nI q - (if nI q ≤ 0 then 0 else 1) = nI (q - 1) := by
  rcases Nat.eq_zero_or_pos q with h | h
  · subst h
    rfl
  · rw [if_neg (nI_nle h (by omega)), show (1 : Int32) = nI 1 from rfl, pk_sub (by omega)]
theorem i_rem (v : Int32) : v - (v - v / 100 * 100) = v / 100 * 100 := by
  generalize v / 100 * 100 = w
  rw [Int32.sub_eq_add_neg v (v - w), Int32.neg_sub, Int32.add_comm, Int32.sub_add_cancel]
set_option maxHeartbeats 4000000 in
theorem cW_r {σ : Rw} {s i : Nat} {t : Int32} (hD : σ 12 = 0) (hK : Kok σ) : cW σ s i t = rWr σ s i (σ 4) t := by
  obtain ⟨q, hq, h10, hk⟩ := hK
  have n42_2 : ¬ 42 + 2 * (3 * s + i) = 2 := by omega
  have n42_3 : ¬ 42 + 2 * (3 * s + i) = 3 := by omega
  have n42_4 : ¬ 42 + 2 * (3 * s + i) = 4 := by omega
  have n42_8 : ¬ 42 + 2 * (3 * s + i) = 8 := by omega
  have n42_9 : ¬ 42 + 2 * (3 * s + i) = 9 := by omega
  have n42_10 : ¬ 42 + 2 * (3 * s + i) = 10 := by omega
  have n42_11 : ¬ 42 + 2 * (3 * s + i) = 11 := by omega
  have n42_12 : ¬ 42 + 2 * (3 * s + i) = 12 := by omega
  have n42_13 : ¬ 42 + 2 * (3 * s + i) = 13 := by omega
  have n42_14 : ¬ 42 + 2 * (3 * s + i) = 14 := by omega
  have n42_15 : ¬ 42 + 2 * (3 * s + i) = 15 := by omega
  have n42_16 : ¬ 42 + 2 * (3 * s + i) = 16 := by omega
  have n43_2 : ¬ 43 + 2 * (3 * s + i) = 2 := by omega
  have n43_3 : ¬ 43 + 2 * (3 * s + i) = 3 := by omega
  have n43_4 : ¬ 43 + 2 * (3 * s + i) = 4 := by omega
  have n43_8 : ¬ 43 + 2 * (3 * s + i) = 8 := by omega
  have n43_9 : ¬ 43 + 2 * (3 * s + i) = 9 := by omega
  have n43_10 : ¬ 43 + 2 * (3 * s + i) = 10 := by omega
  have n43_11 : ¬ 43 + 2 * (3 * s + i) = 11 := by omega
  have n43_12 : ¬ 43 + 2 * (3 * s + i) = 12 := by omega
  have n43_13 : ¬ 43 + 2 * (3 * s + i) = 13 := by omega
  have n43_14 : ¬ 43 + 2 * (3 * s + i) = 14 := by omega
  have n43_15 : ¬ 43 + 2 * (3 * s + i) = 15 := by omega
  have n43_16 : ¬ 43 + 2 * (3 * s + i) = 16 := by omega
  have m42_2 : ¬ 2 = 42 + 2 * (3 * s + i) := by omega
  have m42_3 : ¬ 3 = 42 + 2 * (3 * s + i) := by omega
  have m42_4 : ¬ 4 = 42 + 2 * (3 * s + i) := by omega
  have m42_8 : ¬ 8 = 42 + 2 * (3 * s + i) := by omega
  have m42_9 : ¬ 9 = 42 + 2 * (3 * s + i) := by omega
  have m42_10 : ¬ 10 = 42 + 2 * (3 * s + i) := by omega
  have m42_11 : ¬ 11 = 42 + 2 * (3 * s + i) := by omega
  have m42_12 : ¬ 12 = 42 + 2 * (3 * s + i) := by omega
  have m42_13 : ¬ 13 = 42 + 2 * (3 * s + i) := by omega
  have m42_14 : ¬ 14 = 42 + 2 * (3 * s + i) := by omega
  have m42_15 : ¬ 15 = 42 + 2 * (3 * s + i) := by omega
  have m42_16 : ¬ 16 = 42 + 2 * (3 * s + i) := by omega
  have m43_2 : ¬ 2 = 43 + 2 * (3 * s + i) := by omega
  have m43_3 : ¬ 3 = 43 + 2 * (3 * s + i) := by omega
  have m43_4 : ¬ 4 = 43 + 2 * (3 * s + i) := by omega
  have m43_8 : ¬ 8 = 43 + 2 * (3 * s + i) := by omega
  have m43_9 : ¬ 9 = 43 + 2 * (3 * s + i) := by omega
  have m43_10 : ¬ 10 = 43 + 2 * (3 * s + i) := by omega
  have m43_11 : ¬ 11 = 43 + 2 * (3 * s + i) := by omega
  have m43_12 : ¬ 12 = 43 + 2 * (3 * s + i) := by omega
  have m43_13 : ¬ 13 = 43 + 2 * (3 * s + i) := by omega
  have m43_14 : ¬ 14 = 43 + 2 * (3 * s + i) := by omega
  have m43_15 : ¬ 15 = 43 + 2 * (3 * s + i) := by omega
  have m43_16 : ¬ 16 = 43 + 2 * (3 * s + i) := by omega
  have q1 : ¬ 42 + 2 * (3 * s + i) = 43 + 2 * (3 * s + i) := by omega
  have q2 : ¬ 43 + 2 * (3 * s + i) = 42 + 2 * (3 * s + i) := by omega
  unfold cW rWr
  by_cases hc : σ 10 = 1
  · have hq1 : q ≠ 0 := by
      intro e
      rw [h10, e] at hc
      exact absurd hc (by decide)
    rw [if_pos hc, if_pos hc]
    by_cases hw : σ (43 + 2 * (3 * s + i)) < σ 2
    · rcases hk.resolve_left hq1 with h | h | h
      · funext k
        by_cases z0 : k = 3
        · subst z0
          simp [rOff, rPut, rCut, rCell, cLose, cLeft, upd, n42_2, n42_3, n42_4, n42_8, n42_9, n42_10, n42_11, n42_12, n42_13, n42_14, n42_15, n42_16, n43_2, n43_3, n43_4, n43_8, n43_9, n43_10, n43_11, n43_12, n43_13, n43_14, n43_15, n43_16, m42_2, m42_3, m42_4, m42_8, m42_9, m42_10, m42_11, m42_12, m42_13, m42_14, m42_15, m42_16, m43_2, m43_3, m43_4, m43_8, m43_9, m43_10, m43_11, m43_12, m43_13, m43_14, m43_15, m43_16, q1, q2, hw, h, hc, hD, i_rem]
        by_cases z1 : k = 8
        · subst z1
          simp [rOff, rPut, rCut, rCell, cLose, cLeft, upd, n42_2, n42_3, n42_4, n42_8, n42_9, n42_10, n42_11, n42_12, n42_13, n42_14, n42_15, n42_16, n43_2, n43_3, n43_4, n43_8, n43_9, n43_10, n43_11, n43_12, n43_13, n43_14, n43_15, n43_16, m42_2, m42_3, m42_4, m42_8, m42_9, m42_10, m42_11, m42_12, m42_13, m42_14, m42_15, m42_16, m43_2, m43_3, m43_4, m43_8, m43_9, m43_10, m43_11, m43_12, m43_13, m43_14, m43_15, m43_16, q1, q2, hw, h, hc, hD, i_rem]
        by_cases z2 : k = 9
        · subst z2
          simp [rOff, rPut, rCut, rCell, cLose, cLeft, upd, n42_2, n42_3, n42_4, n42_8, n42_9, n42_10, n42_11, n42_12, n42_13, n42_14, n42_15, n42_16, n43_2, n43_3, n43_4, n43_8, n43_9, n43_10, n43_11, n43_12, n43_13, n43_14, n43_15, n43_16, m42_2, m42_3, m42_4, m42_8, m42_9, m42_10, m42_11, m42_12, m42_13, m42_14, m42_15, m42_16, m43_2, m43_3, m43_4, m43_8, m43_9, m43_10, m43_11, m43_12, m43_13, m43_14, m43_15, m43_16, q1, q2, hw, h, hc, hD, i_rem]
        by_cases z3 : k = 10
        · subst z3
          simp [rOff, rPut, rCut, rCell, cLose, cLeft, upd, n42_2, n42_3, n42_4, n42_8, n42_9, n42_10, n42_11, n42_12, n42_13, n42_14, n42_15, n42_16, n43_2, n43_3, n43_4, n43_8, n43_9, n43_10, n43_11, n43_12, n43_13, n43_14, n43_15, n43_16, m42_2, m42_3, m42_4, m42_8, m42_9, m42_10, m42_11, m42_12, m42_13, m42_14, m42_15, m42_16, m43_2, m43_3, m43_4, m43_8, m43_9, m43_10, m43_11, m43_12, m43_13, m43_14, m43_15, m43_16, q1, q2, hw, h, hc, hD, i_rem]
        by_cases z4 : k = 11
        · subst z4
          simp [rOff, rPut, rCut, rCell, cLose, cLeft, upd, n42_2, n42_3, n42_4, n42_8, n42_9, n42_10, n42_11, n42_12, n42_13, n42_14, n42_15, n42_16, n43_2, n43_3, n43_4, n43_8, n43_9, n43_10, n43_11, n43_12, n43_13, n43_14, n43_15, n43_16, m42_2, m42_3, m42_4, m42_8, m42_9, m42_10, m42_11, m42_12, m42_13, m42_14, m42_15, m42_16, m43_2, m43_3, m43_4, m43_8, m43_9, m43_10, m43_11, m43_12, m43_13, m43_14, m43_15, m43_16, q1, q2, hw, h, hc, hD, i_rem]
        by_cases z5 : k = 12
        · subst z5
          simp [rOff, rPut, rCut, rCell, cLose, cLeft, upd, n42_2, n42_3, n42_4, n42_8, n42_9, n42_10, n42_11, n42_12, n42_13, n42_14, n42_15, n42_16, n43_2, n43_3, n43_4, n43_8, n43_9, n43_10, n43_11, n43_12, n43_13, n43_14, n43_15, n43_16, m42_2, m42_3, m42_4, m42_8, m42_9, m42_10, m42_11, m42_12, m42_13, m42_14, m42_15, m42_16, m43_2, m43_3, m43_4, m43_8, m43_9, m43_10, m43_11, m43_12, m43_13, m43_14, m43_15, m43_16, q1, q2, hw, h, hc, hD, i_rem]
        by_cases z6 : k = 13
        · subst z6
          simp [rOff, rPut, rCut, rCell, cLose, cLeft, upd, n42_2, n42_3, n42_4, n42_8, n42_9, n42_10, n42_11, n42_12, n42_13, n42_14, n42_15, n42_16, n43_2, n43_3, n43_4, n43_8, n43_9, n43_10, n43_11, n43_12, n43_13, n43_14, n43_15, n43_16, m42_2, m42_3, m42_4, m42_8, m42_9, m42_10, m42_11, m42_12, m42_13, m42_14, m42_15, m42_16, m43_2, m43_3, m43_4, m43_8, m43_9, m43_10, m43_11, m43_12, m43_13, m43_14, m43_15, m43_16, q1, q2, hw, h, hc, hD, i_rem]
        by_cases z7 : k = 14
        · subst z7
          simp [rOff, rPut, rCut, rCell, cLose, cLeft, upd, n42_2, n42_3, n42_4, n42_8, n42_9, n42_10, n42_11, n42_12, n42_13, n42_14, n42_15, n42_16, n43_2, n43_3, n43_4, n43_8, n43_9, n43_10, n43_11, n43_12, n43_13, n43_14, n43_15, n43_16, m42_2, m42_3, m42_4, m42_8, m42_9, m42_10, m42_11, m42_12, m42_13, m42_14, m42_15, m42_16, m43_2, m43_3, m43_4, m43_8, m43_9, m43_10, m43_11, m43_12, m43_13, m43_14, m43_15, m43_16, q1, q2, hw, h, hc, hD, i_rem]
        by_cases z8 : k = 15
        · subst z8
          simp [rOff, rPut, rCut, rCell, cLose, cLeft, upd, n42_2, n42_3, n42_4, n42_8, n42_9, n42_10, n42_11, n42_12, n42_13, n42_14, n42_15, n42_16, n43_2, n43_3, n43_4, n43_8, n43_9, n43_10, n43_11, n43_12, n43_13, n43_14, n43_15, n43_16, m42_2, m42_3, m42_4, m42_8, m42_9, m42_10, m42_11, m42_12, m42_13, m42_14, m42_15, m42_16, m43_2, m43_3, m43_4, m43_8, m43_9, m43_10, m43_11, m43_12, m43_13, m43_14, m43_15, m43_16, q1, q2, hw, h, hc, hD, i_rem]
        by_cases z9 : k = 16
        · subst z9
          simp [rOff, rPut, rCut, rCell, cLose, cLeft, upd, n42_2, n42_3, n42_4, n42_8, n42_9, n42_10, n42_11, n42_12, n42_13, n42_14, n42_15, n42_16, n43_2, n43_3, n43_4, n43_8, n43_9, n43_10, n43_11, n43_12, n43_13, n43_14, n43_15, n43_16, m42_2, m42_3, m42_4, m42_8, m42_9, m42_10, m42_11, m42_12, m42_13, m42_14, m42_15, m42_16, m43_2, m43_3, m43_4, m43_8, m43_9, m43_10, m43_11, m43_12, m43_13, m43_14, m43_15, m43_16, q1, q2, hw, h, hc, hD, i_rem]
        by_cases z10 : k = 42 + 2 * (3 * s + i)
        · subst z10
          simp [rOff, rPut, rCut, rCell, cLose, cLeft, upd, n42_2, n42_3, n42_4, n42_8, n42_9, n42_10, n42_11, n42_12, n42_13, n42_14, n42_15, n42_16, n43_2, n43_3, n43_4, n43_8, n43_9, n43_10, n43_11, n43_12, n43_13, n43_14, n43_15, n43_16, m42_2, m42_3, m42_4, m42_8, m42_9, m42_10, m42_11, m42_12, m42_13, m42_14, m42_15, m42_16, m43_2, m43_3, m43_4, m43_8, m43_9, m43_10, m43_11, m43_12, m43_13, m43_14, m43_15, m43_16, q1, q2, hw, h, hc, hD, i_rem]
        by_cases z11 : k = 43 + 2 * (3 * s + i)
        · subst z11
          simp [rOff, rPut, rCut, rCell, cLose, cLeft, upd, n42_2, n42_3, n42_4, n42_8, n42_9, n42_10, n42_11, n42_12, n42_13, n42_14, n42_15, n42_16, n43_2, n43_3, n43_4, n43_8, n43_9, n43_10, n43_11, n43_12, n43_13, n43_14, n43_15, n43_16, m42_2, m42_3, m42_4, m42_8, m42_9, m42_10, m42_11, m42_12, m42_13, m42_14, m42_15, m42_16, m43_2, m43_3, m43_4, m43_8, m43_9, m43_10, m43_11, m43_12, m43_13, m43_14, m43_15, m43_16, q1, q2, hw, h, hc, hD, i_rem]
        simp [rOff, rPut, rCut, rCell, cLose, cLeft, upd, n42_2, n42_3, n42_4, n42_8, n42_9, n42_10, n42_11, n42_12, n42_13, n42_14, n42_15, n42_16, n43_2, n43_3, n43_4, n43_8, n43_9, n43_10, n43_11, n43_12, n43_13, n43_14, n43_15, n43_16, m42_2, m42_3, m42_4, m42_8, m42_9, m42_10, m42_11, m42_12, m42_13, m42_14, m42_15, m42_16, m43_2, m43_3, m43_4, m43_8, m43_9, m43_10, m43_11, m43_12, m43_13, m43_14, m43_15, m43_16, q1, q2, hw, h, hc, hD, i_rem, z0, z1, z2, z3, z4, z5, z6, z7, z8, z9, z10, z11]
      · funext k
        by_cases z0 : k = 3
        · subst z0
          simp [rOff, rPut, rCut, rCell, cLose, cLeft, upd, n42_2, n42_3, n42_4, n42_8, n42_9, n42_10, n42_11, n42_12, n42_13, n42_14, n42_15, n42_16, n43_2, n43_3, n43_4, n43_8, n43_9, n43_10, n43_11, n43_12, n43_13, n43_14, n43_15, n43_16, m42_2, m42_3, m42_4, m42_8, m42_9, m42_10, m42_11, m42_12, m42_13, m42_14, m42_15, m42_16, m43_2, m43_3, m43_4, m43_8, m43_9, m43_10, m43_11, m43_12, m43_13, m43_14, m43_15, m43_16, q1, q2, hw, h, hc, hD, i_rem]
        by_cases z1 : k = 8
        · subst z1
          simp [rOff, rPut, rCut, rCell, cLose, cLeft, upd, n42_2, n42_3, n42_4, n42_8, n42_9, n42_10, n42_11, n42_12, n42_13, n42_14, n42_15, n42_16, n43_2, n43_3, n43_4, n43_8, n43_9, n43_10, n43_11, n43_12, n43_13, n43_14, n43_15, n43_16, m42_2, m42_3, m42_4, m42_8, m42_9, m42_10, m42_11, m42_12, m42_13, m42_14, m42_15, m42_16, m43_2, m43_3, m43_4, m43_8, m43_9, m43_10, m43_11, m43_12, m43_13, m43_14, m43_15, m43_16, q1, q2, hw, h, hc, hD, i_rem]
        by_cases z2 : k = 9
        · subst z2
          simp [rOff, rPut, rCut, rCell, cLose, cLeft, upd, n42_2, n42_3, n42_4, n42_8, n42_9, n42_10, n42_11, n42_12, n42_13, n42_14, n42_15, n42_16, n43_2, n43_3, n43_4, n43_8, n43_9, n43_10, n43_11, n43_12, n43_13, n43_14, n43_15, n43_16, m42_2, m42_3, m42_4, m42_8, m42_9, m42_10, m42_11, m42_12, m42_13, m42_14, m42_15, m42_16, m43_2, m43_3, m43_4, m43_8, m43_9, m43_10, m43_11, m43_12, m43_13, m43_14, m43_15, m43_16, q1, q2, hw, h, hc, hD, i_rem]
        by_cases z3 : k = 10
        · subst z3
          simp [rOff, rPut, rCut, rCell, cLose, cLeft, upd, n42_2, n42_3, n42_4, n42_8, n42_9, n42_10, n42_11, n42_12, n42_13, n42_14, n42_15, n42_16, n43_2, n43_3, n43_4, n43_8, n43_9, n43_10, n43_11, n43_12, n43_13, n43_14, n43_15, n43_16, m42_2, m42_3, m42_4, m42_8, m42_9, m42_10, m42_11, m42_12, m42_13, m42_14, m42_15, m42_16, m43_2, m43_3, m43_4, m43_8, m43_9, m43_10, m43_11, m43_12, m43_13, m43_14, m43_15, m43_16, q1, q2, hw, h, hc, hD, i_rem]
        by_cases z4 : k = 11
        · subst z4
          simp [rOff, rPut, rCut, rCell, cLose, cLeft, upd, n42_2, n42_3, n42_4, n42_8, n42_9, n42_10, n42_11, n42_12, n42_13, n42_14, n42_15, n42_16, n43_2, n43_3, n43_4, n43_8, n43_9, n43_10, n43_11, n43_12, n43_13, n43_14, n43_15, n43_16, m42_2, m42_3, m42_4, m42_8, m42_9, m42_10, m42_11, m42_12, m42_13, m42_14, m42_15, m42_16, m43_2, m43_3, m43_4, m43_8, m43_9, m43_10, m43_11, m43_12, m43_13, m43_14, m43_15, m43_16, q1, q2, hw, h, hc, hD, i_rem]
        by_cases z5 : k = 12
        · subst z5
          simp [rOff, rPut, rCut, rCell, cLose, cLeft, upd, n42_2, n42_3, n42_4, n42_8, n42_9, n42_10, n42_11, n42_12, n42_13, n42_14, n42_15, n42_16, n43_2, n43_3, n43_4, n43_8, n43_9, n43_10, n43_11, n43_12, n43_13, n43_14, n43_15, n43_16, m42_2, m42_3, m42_4, m42_8, m42_9, m42_10, m42_11, m42_12, m42_13, m42_14, m42_15, m42_16, m43_2, m43_3, m43_4, m43_8, m43_9, m43_10, m43_11, m43_12, m43_13, m43_14, m43_15, m43_16, q1, q2, hw, h, hc, hD, i_rem]
        by_cases z6 : k = 13
        · subst z6
          simp [rOff, rPut, rCut, rCell, cLose, cLeft, upd, n42_2, n42_3, n42_4, n42_8, n42_9, n42_10, n42_11, n42_12, n42_13, n42_14, n42_15, n42_16, n43_2, n43_3, n43_4, n43_8, n43_9, n43_10, n43_11, n43_12, n43_13, n43_14, n43_15, n43_16, m42_2, m42_3, m42_4, m42_8, m42_9, m42_10, m42_11, m42_12, m42_13, m42_14, m42_15, m42_16, m43_2, m43_3, m43_4, m43_8, m43_9, m43_10, m43_11, m43_12, m43_13, m43_14, m43_15, m43_16, q1, q2, hw, h, hc, hD, i_rem]
        by_cases z7 : k = 14
        · subst z7
          simp [rOff, rPut, rCut, rCell, cLose, cLeft, upd, n42_2, n42_3, n42_4, n42_8, n42_9, n42_10, n42_11, n42_12, n42_13, n42_14, n42_15, n42_16, n43_2, n43_3, n43_4, n43_8, n43_9, n43_10, n43_11, n43_12, n43_13, n43_14, n43_15, n43_16, m42_2, m42_3, m42_4, m42_8, m42_9, m42_10, m42_11, m42_12, m42_13, m42_14, m42_15, m42_16, m43_2, m43_3, m43_4, m43_8, m43_9, m43_10, m43_11, m43_12, m43_13, m43_14, m43_15, m43_16, q1, q2, hw, h, hc, hD, i_rem]
        by_cases z8 : k = 15
        · subst z8
          simp [rOff, rPut, rCut, rCell, cLose, cLeft, upd, n42_2, n42_3, n42_4, n42_8, n42_9, n42_10, n42_11, n42_12, n42_13, n42_14, n42_15, n42_16, n43_2, n43_3, n43_4, n43_8, n43_9, n43_10, n43_11, n43_12, n43_13, n43_14, n43_15, n43_16, m42_2, m42_3, m42_4, m42_8, m42_9, m42_10, m42_11, m42_12, m42_13, m42_14, m42_15, m42_16, m43_2, m43_3, m43_4, m43_8, m43_9, m43_10, m43_11, m43_12, m43_13, m43_14, m43_15, m43_16, q1, q2, hw, h, hc, hD, i_rem]
        by_cases z9 : k = 16
        · subst z9
          simp [rOff, rPut, rCut, rCell, cLose, cLeft, upd, n42_2, n42_3, n42_4, n42_8, n42_9, n42_10, n42_11, n42_12, n42_13, n42_14, n42_15, n42_16, n43_2, n43_3, n43_4, n43_8, n43_9, n43_10, n43_11, n43_12, n43_13, n43_14, n43_15, n43_16, m42_2, m42_3, m42_4, m42_8, m42_9, m42_10, m42_11, m42_12, m42_13, m42_14, m42_15, m42_16, m43_2, m43_3, m43_4, m43_8, m43_9, m43_10, m43_11, m43_12, m43_13, m43_14, m43_15, m43_16, q1, q2, hw, h, hc, hD, i_rem]
        by_cases z10 : k = 42 + 2 * (3 * s + i)
        · subst z10
          simp [rOff, rPut, rCut, rCell, cLose, cLeft, upd, n42_2, n42_3, n42_4, n42_8, n42_9, n42_10, n42_11, n42_12, n42_13, n42_14, n42_15, n42_16, n43_2, n43_3, n43_4, n43_8, n43_9, n43_10, n43_11, n43_12, n43_13, n43_14, n43_15, n43_16, m42_2, m42_3, m42_4, m42_8, m42_9, m42_10, m42_11, m42_12, m42_13, m42_14, m42_15, m42_16, m43_2, m43_3, m43_4, m43_8, m43_9, m43_10, m43_11, m43_12, m43_13, m43_14, m43_15, m43_16, q1, q2, hw, h, hc, hD, i_rem]
        by_cases z11 : k = 43 + 2 * (3 * s + i)
        · subst z11
          simp [rOff, rPut, rCut, rCell, cLose, cLeft, upd, n42_2, n42_3, n42_4, n42_8, n42_9, n42_10, n42_11, n42_12, n42_13, n42_14, n42_15, n42_16, n43_2, n43_3, n43_4, n43_8, n43_9, n43_10, n43_11, n43_12, n43_13, n43_14, n43_15, n43_16, m42_2, m42_3, m42_4, m42_8, m42_9, m42_10, m42_11, m42_12, m42_13, m42_14, m42_15, m42_16, m43_2, m43_3, m43_4, m43_8, m43_9, m43_10, m43_11, m43_12, m43_13, m43_14, m43_15, m43_16, q1, q2, hw, h, hc, hD, i_rem]
        simp [rOff, rPut, rCut, rCell, cLose, cLeft, upd, n42_2, n42_3, n42_4, n42_8, n42_9, n42_10, n42_11, n42_12, n42_13, n42_14, n42_15, n42_16, n43_2, n43_3, n43_4, n43_8, n43_9, n43_10, n43_11, n43_12, n43_13, n43_14, n43_15, n43_16, m42_2, m42_3, m42_4, m42_8, m42_9, m42_10, m42_11, m42_12, m42_13, m42_14, m42_15, m42_16, m43_2, m43_3, m43_4, m43_8, m43_9, m43_10, m43_11, m43_12, m43_13, m43_14, m43_15, m43_16, q1, q2, hw, h, hc, hD, i_rem, z0, z1, z2, z3, z4, z5, z6, z7, z8, z9, z10, z11]
      · funext k
        by_cases z0 : k = 3
        · subst z0
          simp [rOff, rPut, rCut, rCell, cLose, cLeft, upd, n42_2, n42_3, n42_4, n42_8, n42_9, n42_10, n42_11, n42_12, n42_13, n42_14, n42_15, n42_16, n43_2, n43_3, n43_4, n43_8, n43_9, n43_10, n43_11, n43_12, n43_13, n43_14, n43_15, n43_16, m42_2, m42_3, m42_4, m42_8, m42_9, m42_10, m42_11, m42_12, m42_13, m42_14, m42_15, m42_16, m43_2, m43_3, m43_4, m43_8, m43_9, m43_10, m43_11, m43_12, m43_13, m43_14, m43_15, m43_16, q1, q2, hw, h, hc, hD, i_rem]
        by_cases z1 : k = 8
        · subst z1
          simp [rOff, rPut, rCut, rCell, cLose, cLeft, upd, n42_2, n42_3, n42_4, n42_8, n42_9, n42_10, n42_11, n42_12, n42_13, n42_14, n42_15, n42_16, n43_2, n43_3, n43_4, n43_8, n43_9, n43_10, n43_11, n43_12, n43_13, n43_14, n43_15, n43_16, m42_2, m42_3, m42_4, m42_8, m42_9, m42_10, m42_11, m42_12, m42_13, m42_14, m42_15, m42_16, m43_2, m43_3, m43_4, m43_8, m43_9, m43_10, m43_11, m43_12, m43_13, m43_14, m43_15, m43_16, q1, q2, hw, h, hc, hD, i_rem]
        by_cases z2 : k = 9
        · subst z2
          simp [rOff, rPut, rCut, rCell, cLose, cLeft, upd, n42_2, n42_3, n42_4, n42_8, n42_9, n42_10, n42_11, n42_12, n42_13, n42_14, n42_15, n42_16, n43_2, n43_3, n43_4, n43_8, n43_9, n43_10, n43_11, n43_12, n43_13, n43_14, n43_15, n43_16, m42_2, m42_3, m42_4, m42_8, m42_9, m42_10, m42_11, m42_12, m42_13, m42_14, m42_15, m42_16, m43_2, m43_3, m43_4, m43_8, m43_9, m43_10, m43_11, m43_12, m43_13, m43_14, m43_15, m43_16, q1, q2, hw, h, hc, hD, i_rem]
        by_cases z3 : k = 10
        · subst z3
          simp [rOff, rPut, rCut, rCell, cLose, cLeft, upd, n42_2, n42_3, n42_4, n42_8, n42_9, n42_10, n42_11, n42_12, n42_13, n42_14, n42_15, n42_16, n43_2, n43_3, n43_4, n43_8, n43_9, n43_10, n43_11, n43_12, n43_13, n43_14, n43_15, n43_16, m42_2, m42_3, m42_4, m42_8, m42_9, m42_10, m42_11, m42_12, m42_13, m42_14, m42_15, m42_16, m43_2, m43_3, m43_4, m43_8, m43_9, m43_10, m43_11, m43_12, m43_13, m43_14, m43_15, m43_16, q1, q2, hw, h, hc, hD, i_rem]
        by_cases z4 : k = 11
        · subst z4
          simp [rOff, rPut, rCut, rCell, cLose, cLeft, upd, n42_2, n42_3, n42_4, n42_8, n42_9, n42_10, n42_11, n42_12, n42_13, n42_14, n42_15, n42_16, n43_2, n43_3, n43_4, n43_8, n43_9, n43_10, n43_11, n43_12, n43_13, n43_14, n43_15, n43_16, m42_2, m42_3, m42_4, m42_8, m42_9, m42_10, m42_11, m42_12, m42_13, m42_14, m42_15, m42_16, m43_2, m43_3, m43_4, m43_8, m43_9, m43_10, m43_11, m43_12, m43_13, m43_14, m43_15, m43_16, q1, q2, hw, h, hc, hD, i_rem]
        by_cases z5 : k = 12
        · subst z5
          simp [rOff, rPut, rCut, rCell, cLose, cLeft, upd, n42_2, n42_3, n42_4, n42_8, n42_9, n42_10, n42_11, n42_12, n42_13, n42_14, n42_15, n42_16, n43_2, n43_3, n43_4, n43_8, n43_9, n43_10, n43_11, n43_12, n43_13, n43_14, n43_15, n43_16, m42_2, m42_3, m42_4, m42_8, m42_9, m42_10, m42_11, m42_12, m42_13, m42_14, m42_15, m42_16, m43_2, m43_3, m43_4, m43_8, m43_9, m43_10, m43_11, m43_12, m43_13, m43_14, m43_15, m43_16, q1, q2, hw, h, hc, hD, i_rem]
        by_cases z6 : k = 13
        · subst z6
          simp [rOff, rPut, rCut, rCell, cLose, cLeft, upd, n42_2, n42_3, n42_4, n42_8, n42_9, n42_10, n42_11, n42_12, n42_13, n42_14, n42_15, n42_16, n43_2, n43_3, n43_4, n43_8, n43_9, n43_10, n43_11, n43_12, n43_13, n43_14, n43_15, n43_16, m42_2, m42_3, m42_4, m42_8, m42_9, m42_10, m42_11, m42_12, m42_13, m42_14, m42_15, m42_16, m43_2, m43_3, m43_4, m43_8, m43_9, m43_10, m43_11, m43_12, m43_13, m43_14, m43_15, m43_16, q1, q2, hw, h, hc, hD, i_rem]
        by_cases z7 : k = 14
        · subst z7
          simp [rOff, rPut, rCut, rCell, cLose, cLeft, upd, n42_2, n42_3, n42_4, n42_8, n42_9, n42_10, n42_11, n42_12, n42_13, n42_14, n42_15, n42_16, n43_2, n43_3, n43_4, n43_8, n43_9, n43_10, n43_11, n43_12, n43_13, n43_14, n43_15, n43_16, m42_2, m42_3, m42_4, m42_8, m42_9, m42_10, m42_11, m42_12, m42_13, m42_14, m42_15, m42_16, m43_2, m43_3, m43_4, m43_8, m43_9, m43_10, m43_11, m43_12, m43_13, m43_14, m43_15, m43_16, q1, q2, hw, h, hc, hD, i_rem]
        by_cases z8 : k = 15
        · subst z8
          simp [rOff, rPut, rCut, rCell, cLose, cLeft, upd, n42_2, n42_3, n42_4, n42_8, n42_9, n42_10, n42_11, n42_12, n42_13, n42_14, n42_15, n42_16, n43_2, n43_3, n43_4, n43_8, n43_9, n43_10, n43_11, n43_12, n43_13, n43_14, n43_15, n43_16, m42_2, m42_3, m42_4, m42_8, m42_9, m42_10, m42_11, m42_12, m42_13, m42_14, m42_15, m42_16, m43_2, m43_3, m43_4, m43_8, m43_9, m43_10, m43_11, m43_12, m43_13, m43_14, m43_15, m43_16, q1, q2, hw, h, hc, hD, i_rem]
        by_cases z9 : k = 16
        · subst z9
          simp [rOff, rPut, rCut, rCell, cLose, cLeft, upd, n42_2, n42_3, n42_4, n42_8, n42_9, n42_10, n42_11, n42_12, n42_13, n42_14, n42_15, n42_16, n43_2, n43_3, n43_4, n43_8, n43_9, n43_10, n43_11, n43_12, n43_13, n43_14, n43_15, n43_16, m42_2, m42_3, m42_4, m42_8, m42_9, m42_10, m42_11, m42_12, m42_13, m42_14, m42_15, m42_16, m43_2, m43_3, m43_4, m43_8, m43_9, m43_10, m43_11, m43_12, m43_13, m43_14, m43_15, m43_16, q1, q2, hw, h, hc, hD, i_rem]
        by_cases z10 : k = 42 + 2 * (3 * s + i)
        · subst z10
          simp [rOff, rPut, rCut, rCell, cLose, cLeft, upd, n42_2, n42_3, n42_4, n42_8, n42_9, n42_10, n42_11, n42_12, n42_13, n42_14, n42_15, n42_16, n43_2, n43_3, n43_4, n43_8, n43_9, n43_10, n43_11, n43_12, n43_13, n43_14, n43_15, n43_16, m42_2, m42_3, m42_4, m42_8, m42_9, m42_10, m42_11, m42_12, m42_13, m42_14, m42_15, m42_16, m43_2, m43_3, m43_4, m43_8, m43_9, m43_10, m43_11, m43_12, m43_13, m43_14, m43_15, m43_16, q1, q2, hw, h, hc, hD, i_rem]
        by_cases z11 : k = 43 + 2 * (3 * s + i)
        · subst z11
          simp [rOff, rPut, rCut, rCell, cLose, cLeft, upd, n42_2, n42_3, n42_4, n42_8, n42_9, n42_10, n42_11, n42_12, n42_13, n42_14, n42_15, n42_16, n43_2, n43_3, n43_4, n43_8, n43_9, n43_10, n43_11, n43_12, n43_13, n43_14, n43_15, n43_16, m42_2, m42_3, m42_4, m42_8, m42_9, m42_10, m42_11, m42_12, m42_13, m42_14, m42_15, m42_16, m43_2, m43_3, m43_4, m43_8, m43_9, m43_10, m43_11, m43_12, m43_13, m43_14, m43_15, m43_16, q1, q2, hw, h, hc, hD, i_rem]
        simp [rOff, rPut, rCut, rCell, cLose, cLeft, upd, n42_2, n42_3, n42_4, n42_8, n42_9, n42_10, n42_11, n42_12, n42_13, n42_14, n42_15, n42_16, n43_2, n43_3, n43_4, n43_8, n43_9, n43_10, n43_11, n43_12, n43_13, n43_14, n43_15, n43_16, m42_2, m42_3, m42_4, m42_8, m42_9, m42_10, m42_11, m42_12, m42_13, m42_14, m42_15, m42_16, m43_2, m43_3, m43_4, m43_8, m43_9, m43_10, m43_11, m43_12, m43_13, m43_14, m43_15, m43_16, q1, q2, hw, h, hc, hD, i_rem, z0, z1, z2, z3, z4, z5, z6, z7, z8, z9, z10, z11]
    · funext k
      by_cases z0 : k = 3
      · subst z0
        simp [rOff, rPut, rCut, rCell, cLose, cLeft, upd, n42_2, n42_3, n42_4, n42_8, n42_9, n42_10, n42_11, n42_12, n42_13, n42_14, n42_15, n42_16, n43_2, n43_3, n43_4, n43_8, n43_9, n43_10, n43_11, n43_12, n43_13, n43_14, n43_15, n43_16, m42_2, m42_3, m42_4, m42_8, m42_9, m42_10, m42_11, m42_12, m42_13, m42_14, m42_15, m42_16, m43_2, m43_3, m43_4, m43_8, m43_9, m43_10, m43_11, m43_12, m43_13, m43_14, m43_15, m43_16, q1, q2, hw, hc, hD]
      by_cases z1 : k = 8
      · subst z1
        simp [rOff, rPut, rCut, rCell, cLose, cLeft, upd, n42_2, n42_3, n42_4, n42_8, n42_9, n42_10, n42_11, n42_12, n42_13, n42_14, n42_15, n42_16, n43_2, n43_3, n43_4, n43_8, n43_9, n43_10, n43_11, n43_12, n43_13, n43_14, n43_15, n43_16, m42_2, m42_3, m42_4, m42_8, m42_9, m42_10, m42_11, m42_12, m42_13, m42_14, m42_15, m42_16, m43_2, m43_3, m43_4, m43_8, m43_9, m43_10, m43_11, m43_12, m43_13, m43_14, m43_15, m43_16, q1, q2, hw, hc, hD]
      by_cases z2 : k = 9
      · subst z2
        simp [rOff, rPut, rCut, rCell, cLose, cLeft, upd, n42_2, n42_3, n42_4, n42_8, n42_9, n42_10, n42_11, n42_12, n42_13, n42_14, n42_15, n42_16, n43_2, n43_3, n43_4, n43_8, n43_9, n43_10, n43_11, n43_12, n43_13, n43_14, n43_15, n43_16, m42_2, m42_3, m42_4, m42_8, m42_9, m42_10, m42_11, m42_12, m42_13, m42_14, m42_15, m42_16, m43_2, m43_3, m43_4, m43_8, m43_9, m43_10, m43_11, m43_12, m43_13, m43_14, m43_15, m43_16, q1, q2, hw, hc, hD]
      by_cases z3 : k = 10
      · subst z3
        simp [rOff, rPut, rCut, rCell, cLose, cLeft, upd, n42_2, n42_3, n42_4, n42_8, n42_9, n42_10, n42_11, n42_12, n42_13, n42_14, n42_15, n42_16, n43_2, n43_3, n43_4, n43_8, n43_9, n43_10, n43_11, n43_12, n43_13, n43_14, n43_15, n43_16, m42_2, m42_3, m42_4, m42_8, m42_9, m42_10, m42_11, m42_12, m42_13, m42_14, m42_15, m42_16, m43_2, m43_3, m43_4, m43_8, m43_9, m43_10, m43_11, m43_12, m43_13, m43_14, m43_15, m43_16, q1, q2, hw, hc, hD]
      by_cases z4 : k = 11
      · subst z4
        simp [rOff, rPut, rCut, rCell, cLose, cLeft, upd, n42_2, n42_3, n42_4, n42_8, n42_9, n42_10, n42_11, n42_12, n42_13, n42_14, n42_15, n42_16, n43_2, n43_3, n43_4, n43_8, n43_9, n43_10, n43_11, n43_12, n43_13, n43_14, n43_15, n43_16, m42_2, m42_3, m42_4, m42_8, m42_9, m42_10, m42_11, m42_12, m42_13, m42_14, m42_15, m42_16, m43_2, m43_3, m43_4, m43_8, m43_9, m43_10, m43_11, m43_12, m43_13, m43_14, m43_15, m43_16, q1, q2, hw, hc, hD]
      by_cases z5 : k = 12
      · subst z5
        simp [rOff, rPut, rCut, rCell, cLose, cLeft, upd, n42_2, n42_3, n42_4, n42_8, n42_9, n42_10, n42_11, n42_12, n42_13, n42_14, n42_15, n42_16, n43_2, n43_3, n43_4, n43_8, n43_9, n43_10, n43_11, n43_12, n43_13, n43_14, n43_15, n43_16, m42_2, m42_3, m42_4, m42_8, m42_9, m42_10, m42_11, m42_12, m42_13, m42_14, m42_15, m42_16, m43_2, m43_3, m43_4, m43_8, m43_9, m43_10, m43_11, m43_12, m43_13, m43_14, m43_15, m43_16, q1, q2, hw, hc, hD]
      by_cases z6 : k = 13
      · subst z6
        simp [rOff, rPut, rCut, rCell, cLose, cLeft, upd, n42_2, n42_3, n42_4, n42_8, n42_9, n42_10, n42_11, n42_12, n42_13, n42_14, n42_15, n42_16, n43_2, n43_3, n43_4, n43_8, n43_9, n43_10, n43_11, n43_12, n43_13, n43_14, n43_15, n43_16, m42_2, m42_3, m42_4, m42_8, m42_9, m42_10, m42_11, m42_12, m42_13, m42_14, m42_15, m42_16, m43_2, m43_3, m43_4, m43_8, m43_9, m43_10, m43_11, m43_12, m43_13, m43_14, m43_15, m43_16, q1, q2, hw, hc, hD]
      by_cases z7 : k = 14
      · subst z7
        simp [rOff, rPut, rCut, rCell, cLose, cLeft, upd, n42_2, n42_3, n42_4, n42_8, n42_9, n42_10, n42_11, n42_12, n42_13, n42_14, n42_15, n42_16, n43_2, n43_3, n43_4, n43_8, n43_9, n43_10, n43_11, n43_12, n43_13, n43_14, n43_15, n43_16, m42_2, m42_3, m42_4, m42_8, m42_9, m42_10, m42_11, m42_12, m42_13, m42_14, m42_15, m42_16, m43_2, m43_3, m43_4, m43_8, m43_9, m43_10, m43_11, m43_12, m43_13, m43_14, m43_15, m43_16, q1, q2, hw, hc, hD]
      by_cases z8 : k = 15
      · subst z8
        simp [rOff, rPut, rCut, rCell, cLose, cLeft, upd, n42_2, n42_3, n42_4, n42_8, n42_9, n42_10, n42_11, n42_12, n42_13, n42_14, n42_15, n42_16, n43_2, n43_3, n43_4, n43_8, n43_9, n43_10, n43_11, n43_12, n43_13, n43_14, n43_15, n43_16, m42_2, m42_3, m42_4, m42_8, m42_9, m42_10, m42_11, m42_12, m42_13, m42_14, m42_15, m42_16, m43_2, m43_3, m43_4, m43_8, m43_9, m43_10, m43_11, m43_12, m43_13, m43_14, m43_15, m43_16, q1, q2, hw, hc, hD]
      by_cases z9 : k = 16
      · subst z9
        simp [rOff, rPut, rCut, rCell, cLose, cLeft, upd, n42_2, n42_3, n42_4, n42_8, n42_9, n42_10, n42_11, n42_12, n42_13, n42_14, n42_15, n42_16, n43_2, n43_3, n43_4, n43_8, n43_9, n43_10, n43_11, n43_12, n43_13, n43_14, n43_15, n43_16, m42_2, m42_3, m42_4, m42_8, m42_9, m42_10, m42_11, m42_12, m42_13, m42_14, m42_15, m42_16, m43_2, m43_3, m43_4, m43_8, m43_9, m43_10, m43_11, m43_12, m43_13, m43_14, m43_15, m43_16, q1, q2, hw, hc, hD]
      by_cases z10 : k = 42 + 2 * (3 * s + i)
      · subst z10
        simp [rOff, rPut, rCut, rCell, cLose, cLeft, upd, n42_2, n42_3, n42_4, n42_8, n42_9, n42_10, n42_11, n42_12, n42_13, n42_14, n42_15, n42_16, n43_2, n43_3, n43_4, n43_8, n43_9, n43_10, n43_11, n43_12, n43_13, n43_14, n43_15, n43_16, m42_2, m42_3, m42_4, m42_8, m42_9, m42_10, m42_11, m42_12, m42_13, m42_14, m42_15, m42_16, m43_2, m43_3, m43_4, m43_8, m43_9, m43_10, m43_11, m43_12, m43_13, m43_14, m43_15, m43_16, q1, q2, hw, hc, hD]
      by_cases z11 : k = 43 + 2 * (3 * s + i)
      · subst z11
        simp [rOff, rPut, rCut, rCell, cLose, cLeft, upd, n42_2, n42_3, n42_4, n42_8, n42_9, n42_10, n42_11, n42_12, n42_13, n42_14, n42_15, n42_16, n43_2, n43_3, n43_4, n43_8, n43_9, n43_10, n43_11, n43_12, n43_13, n43_14, n43_15, n43_16, m42_2, m42_3, m42_4, m42_8, m42_9, m42_10, m42_11, m42_12, m42_13, m42_14, m42_15, m42_16, m43_2, m43_3, m43_4, m43_8, m43_9, m43_10, m43_11, m43_12, m43_13, m43_14, m43_15, m43_16, q1, q2, hw, hc, hD]
      simp [rOff, rPut, rCut, rCell, cLose, cLeft, upd, n42_2, n42_3, n42_4, n42_8, n42_9, n42_10, n42_11, n42_12, n42_13, n42_14, n42_15, n42_16, n43_2, n43_3, n43_4, n43_8, n43_9, n43_10, n43_11, n43_12, n43_13, n43_14, n43_15, n43_16, m42_2, m42_3, m42_4, m42_8, m42_9, m42_10, m42_11, m42_12, m42_13, m42_14, m42_15, m42_16, m43_2, m43_3, m43_4, m43_8, m43_9, m43_10, m43_11, m43_12, m43_13, m43_14, m43_15, m43_16, q1, q2, hw, hc, hD, z0, z1, z2, z3, z4, z5, z6, z7, z8, z9, z10, z11]
  · have hm := q_cut hq (h10 ▸ hc)
    rw [if_neg hc, if_neg hc]
    rw [← h10] at hm
    rw [hm]
    unfold rCell rPut rCut
    by_cases hw : σ (43 + 2 * (3 * s + i)) < σ 2
    · simp [upd, n42_2, n42_3, n42_4, n42_8, n42_9, n42_10, n42_11, n42_12, n42_13, n42_14, n42_15, n42_16, n43_2, n43_3, n43_4, n43_8, n43_9, n43_10, n43_11, n43_12, n43_13, n43_14, n43_15, n43_16, m42_2, m42_3, m42_4, m42_8, m42_9, m42_10, m42_11, m42_12, m42_13, m42_14, m42_15, m42_16, m43_2, m43_3, m43_4, m43_8, m43_9, m43_10, m43_11, m43_12, m43_13, m43_14, m43_15, m43_16, q1, q2, hw]
    · simp [upd, n42_2, n42_3, n42_4, n42_8, n42_9, n42_10, n42_11, n42_12, n42_13, n42_14, n42_15, n42_16, n43_2, n43_3, n43_4, n43_8, n43_9, n43_10, n43_11, n43_12, n43_13, n43_14, n43_15, n43_16, m42_2, m42_3, m42_4, m42_8, m42_9, m42_10, m42_11, m42_12, m42_13, m42_14, m42_15, m42_16, m43_2, m43_3, m43_4, m43_8, m43_9, m43_10, m43_11, m43_12, m43_13, m43_14, m43_15, m43_16, q1, q2, hw]
theorem rPut_ot {ρ : Rw} {c : Prop} [Decidable c] {s i : Nat} {v : Int32} {k : Nat} (hk : k < 42) : rPut ρ c s i v k = ρ k := by
  have h1 : k ≠ 42 + 2 * (3 * s + i) := by omega
  have h2 : k ≠ 43 + 2 * (3 * s + i) := by omega
  unfold rPut
  (repeat' split) <;> simp [upd, h1, h2]
theorem rWr_3 {ρ : Rw} {s i : Nat} {v t : Int32} : rWr ρ s i v t 3 = if ρ 10 = 1 then 0 else ρ 3 := by
  unfold rWr
  by_cases hc : ρ 10 = 1
  · rw [if_pos hc, if_pos hc]
    rfl
  · rw [if_neg hc, if_neg hc, rPut_ot (by omega)]
    rfl
theorem rWr_12 {ρ : Rw} {s i : Nat} {v t : Int32} (h : ρ 12 = 0) : rWr ρ s i v t 12 = 0 := by
  unfold rWr
  by_cases hc : ρ 10 = 1
  · rw [if_pos hc]
    rfl
  · rw [if_neg hc, rPut_ot (by omega)]
    exact h
theorem rWr_K {ρ : Rw} {s i : Nat} {v t : Int32} (h : Kok ρ) : Kok (rWr ρ s i v t) := by
  obtain ⟨q, hq, h10, hk⟩ := h
  unfold rWr
  by_cases hc : ρ 10 = 1
  · rw [if_pos hc]
    refine ⟨0, by omega, ?_, Or.inl rfl⟩
    show rOff (rPut (rCut ρ) True s i v) (nI s) (nI i) (ρ 11) t 10 = nI 0
    have e : rOff (rPut (rCut ρ) True s i v) (nI s) (nI i) (ρ 11) t 10 = rPut (rCut ρ) True s i v 10 := rfl
    rw [e, rPut_ot (by omega)]
    have e2 : rCut ρ 10 = ρ 10 - (if ρ 10 ≤ 0 then 0 else 1) := rfl
    rw [e2, hc]
    decide
  · rw [if_neg hc]
    refine ⟨q - 1, by omega, ?_, ?_⟩
    · rw [rPut_ot (by omega)]
      have e2 : rCut ρ 10 = ρ 10 - (if ρ 10 ≤ 0 then 0 else 1) := rfl
      rw [e2, h10, q_cut' hq]
    · rw [rPut_ot (by omega)]
      rcases hk with h | h
      · exact Or.inl (by omega)
      · exact Or.inr h
/-- three writes: the power, the cut, the row -/
theorem rW3_f {ρ : Rw} {s : Nat} {t : Int32} (h3 : ρ 3 = 1) (hD : ρ 12 = 0) (hK : Kok ρ) : cWs s t 3 0 ρ = (rW3 ρ s t).1 ∧ Kok (rW3 ρ s t).1 ∧ (rW3 ρ s t).1 12 = 0 ∧ (rW3 ρ s t).1 3 = if (rW3 ρ s t).2 = true then 1 else 0 := by
  have a0 : ¬ ρ 3 = 0 := by rw [h3]; decide
  have f1 : ∀ (σ : Rw) i, Kok σ → Kok (rWr σ s i (σ 4) t) := fun σ i h => rWr_K h
  have e1 := cW_r (s := s) (i := 0) (t := t) hD hK
  have k1 := rWr_K (s := s) (i := 0) (v := ρ 4) (t := t) hK
  have d1 := rWr_12 (s := s) (i := 0) (v := ρ 4) (t := t) hD
  have o1 := rWr_3 (ρ := ρ) (s := s) (i := 0) (v := ρ 4) (t := t)
  unfold rW3
  rw [cWs, if_neg a0, e1]
  generalize rWr ρ s 0 (ρ 4) t = ρ1 at *
  by_cases c1 : ρ 10 = 1
  · rw [if_pos c1] at o1 ⊢
    exact ⟨by rw [cWs, if_pos o1], k1, d1, o1⟩
  rw [if_neg c1] at o1 ⊢
  rw [h3] at o1
  have a1 : ¬ ρ1 3 = 0 := by rw [o1]; decide
  have e2 := cW_r (s := s) (i := 1) (t := t) d1 k1
  have k2 := rWr_K (s := s) (i := 1) (v := ρ1 4) (t := t) k1
  have d2 := rWr_12 (s := s) (i := 1) (v := ρ1 4) (t := t) d1
  have o2 := rWr_3 (ρ := ρ1) (s := s) (i := 1) (v := ρ1 4) (t := t)
  rw [cWs, if_neg a1, e2]
  generalize rWr ρ1 s 1 (ρ1 4) t = ρ2 at *
  by_cases c2 : ρ1 10 = 1
  · rw [if_pos c2] at o2 ⊢
    exact ⟨by rw [cWs, if_pos o2], k2, d2, o2⟩
  rw [if_neg c2] at o2 ⊢
  rw [o1] at o2
  have a2 : ¬ ρ2 3 = 0 := by rw [o2]; decide
  have e3 := cW_r (s := s) (i := 2) (t := t) d2 k2
  have k3 := rWr_K (s := s) (i := 2) (v := ρ2 4) (t := t) k2
  have d3 := rWr_12 (s := s) (i := 2) (v := ρ2 4) (t := t) d2
  have o3 := rWr_3 (ρ := ρ2) (s := s) (i := 2) (v := ρ2 4) (t := t)
  rw [cWs, if_neg a2, e3]
  generalize rWr ρ2 s 2 (ρ2 4) t = ρ3 at *
  by_cases c3 : ρ2 10 = 1
  · rw [if_pos c3] at o3 ⊢
    exact ⟨rfl, k3, d3, o3⟩
  · rw [if_neg c3] at o3 ⊢
    rw [o2] at o3
    exact ⟨rfl, k3, d3, o3⟩
