/-! THE LAW: what questions answer -/
theorem mjA : ((mjT 98).1 = 0 ∧ (mjT 98).2 = 0) ∧ ((mjT 101).1 = 1 ∧ (mjT 101).2 = 6) ∧ ((mjT 102).1 = 1 ∧ (mjT 102).2 = 6) ∧ ((mjT 103).1 = 1 ∧ (mjT 103).2 = 6) ∧ ((mjT 104).1 = 1 ∧ (mjT 104).2 = 6) ∧ ((mjT 105).1 = 1 ∧ (mjT 105).2 = 6) ∧ ((mjT 106).1 = 1 ∧ (mjT 106).2 = 6) ∧ ((mjT 107).1 = 1 ∧ (mjT 107).2 = 6) ∧ ((mjT 119).1 = 1 ∧ (mjT 119).2 = 6) ∧ ((mjT 86).1 = 0 ∧ (mjT 86).2 = 0) ∧ ((mjT 126).1 = 700 ∧ (mjT 126).2 = 4200) := ⟨⟨rfl, rfl⟩, ⟨rfl, rfl⟩, ⟨rfl, rfl⟩, ⟨rfl, rfl⟩, ⟨rfl, rfl⟩, ⟨rfl, rfl⟩, ⟨rfl, rfl⟩, ⟨rfl, rfl⟩, ⟨rfl, rfl⟩, ⟨rfl, rfl⟩, ⟨rfl, rfl⟩⟩
theorem t64 {x y : Int32} : x.toInt64 = y.toInt64 ↔ x = y := by
  refine ⟨fun h => ?_, fun h => by rw [h]⟩
  have := congrArg Int64.toInt32 h
  rwa [l2i_n, l2i_n] at this
theorem q64 {x y : Int32} : lg_cmp x.toInt64 y.toInt64 = 0 ↔ x = y := cmp0.trans t64
theorem q64' {x : Int32} : lg_cmp x.toInt64 (-99999) = 0 ↔ x = -99999 := by
  rw [show (-99999 : Int64) = (-99999 : Int32).toInt64 from rfl]
  exact q64
theorem lt64 {x y : Int32} : x.toInt64 < y.toInt64 ↔ x < y := by
  rw [Int64.lt_iff_toInt_lt, Int32.toInt_toInt64, Int32.toInt_toInt64, Int32.lt_iff_toInt_lt]
theorem le64 {x y : Int32} : x.toInt64 ≤ y.toInt64 ↔ x ≤ y := by
  rw [Int64.le_iff_toInt_le, Int32.toInt_toInt64, Int32.toInt_toInt64, Int32.le_iff_toInt_le]
section
variable {ρ : Rw} {n : Nat}
theorem okSl {s : Nat} (hs : s < n) (hn : n ≤ 12) : ¬ nI s < 0 ∧ ¬ nI n ≤ nI s := ⟨nI_pos (by omega), nI_ge hs (by omega)⟩
theorem okI2 {i : Nat} (hi : i < 3) : ¬ nI i < 0 ∧ ¬ 2 < nI i := ⟨nI_pos (by omega), by rw [o_2, nI_ltI (by omega) (by omega)]; omega⟩
theorem cl_0 {s i : Nat} (ec : (ρ 0).toNatClampNeg = n) (hn : n ≤ 12) (hs : s < n) (hi : i < 3) : cl ρ (nI s) (nI i) 0 = (ρ (42 + 2 * (3 * s + i))).toInt64 := by
  unfold cl aCell
  rw [ec, if_pos (okSl hs hn), if_pos (okI2 hi), if_pos (by decide), if_neg (by decide), ck (by omega), ck (by omega), tk_0, eL_0 rfl]
  rfl
theorem cl_1 {s i : Nat} (ec : (ρ 0).toNatClampNeg = n) (hn : n ≤ 12) (hs : s < n) (hi : i < 3) : cl ρ (nI s) (nI i) 1 = (ρ (43 + 2 * (3 * s + i))).toInt64 := by
  unfold cl aCell
  rw [ec, if_pos (okSl hs hn), if_pos (okI2 hi), if_pos (by decide), if_neg (by decide), ck (by omega), ck (by omega), tk_1, eL_0 rfl]
  show (ρ (42 + 2 * (3 * s + i) + 1)).toInt64 = _
  rw [show 42 + 2 * (3 * s + i) + 1 = 43 + 2 * (3 * s + i) by omega]
theorem cl_2 {s i : Nat} (ec : (ρ 0).toNatClampNeg = n) (hn : n ≤ 12) (hs : s < n) (hi : i < 3) : cl ρ (nI s) (nI i) 2 = (bI (¬ ρ (43 + 2 * (3 * s + i)) < ρ 2)).toInt64 := by
  unfold cl aCell
  rw [ec, if_pos (okSl hs hn), if_pos (okI2 hi), if_pos (by decide), if_pos (by decide), ck (by omega), ck (by omega), eL_0 rfl]
theorem sa_v {s : Nat} (ec : (ρ 0).toNatClampNeg = n) (hn : n ≤ 12) (hs : s < n) : eL (fun c => 2) (aSays ρ (ρ 0).toNatClampNeg (nI s)) = (rSays ρ s).toInt64 := by
  unfold aSays
  rw [ec, if_pos (okSl hs hn), ck (by omega), eL_0 rfl]
/-- why a slot is silent, as a number -/
def whyV (ρ : Rw) (s : Nat) : Int32 := if rSays ρ s = -99999 then (if 2 ≤ rReadable ρ s 3 then 2 else 1) else 0
theorem wy_v {s : Nat} (ec : (ρ 0).toNatClampNeg = n) (hn : n ≤ 12) (hs : s < n) : eL (fun c => 2) (aWhy ρ (ρ 0).toNatClampNeg (nI s)) = (whyV ρ s).toInt64 := by
  unfold aWhy whyV
  rw [ec, if_pos (okSl hs hn), ck (by omega)]
  (repeat' split) <;> exact eL_0 rfl
theorem sh_v {s : Nat} (ec : (ρ 0).toNatClampNeg = n) (hn : n ≤ 12) (hs : s < n) : eL (fun c => 2) (aShare ρ (ρ 0).toNatClampNeg (nI s)) = (if rAll ρ n = 0 then (0 : Int32) else 100 * rWear ρ s / rAll ρ n).toInt64 := by
  unfold aShare
  rw [ec, if_pos (okSl hs hn), ck (by omega)]
  split <;> exact eL_0 rfl
theorem ab_o {k : Nat} (hk : k ≤ 14) (h4 : k ≠ 4) (h6 : k ≠ 6) (h7 : k ≠ 7) (h13 : k ≠ 13) (h14 : k ≠ 14) : ab ρ (nI k) = (ρ k).toInt64 := by
  rw [ab_v hk]
  unfold vAbout
  rw [if_neg (by omega), if_neg (by omega), if_neg (by omega)]
theorem ab_p {k : Nat} (hk : k = 4 ∨ k = 6 ∨ k = 7) : ab ρ (nI k) = (if ρ 3 = 0 then -99999 else ρ k).toInt64 := by
  rw [ab_v (by omega)]
  unfold vAbout
  rw [if_pos hk]
theorem ab_13 (ec : (ρ 0).toNatClampNeg = n) : ab ρ 13 = (rMost ρ (3 * n) - rLeast ρ (3 * n)).toInt64 := by
  have := ab_v (ρ := ρ) (k := 13) (by omega)
  rw [show nI 13 = 13 from rfl] at this
  rw [this]
  unfold vAbout
  rw [if_neg (by omega), if_pos rfl, ec]
theorem lc_v {k : Nat} (hk : k ≤ 3) : lc ρ (nI k) = (ρ (13 + k)).toInt64 := by
  unfold lc aLast
  rw [if_pos ⟨nI_pos (by omega), by rw [o_3, nI_ltI (by omega) (by omega)]; omega⟩, ck (by omega), eL_0 rfl]
end
/-- who holds what is said -/
theorem held_gt {a b c : Int32} (h : ¬ sy a b c = -99999) : 1 < bI (a = sy a b c) + bI (b = sy a b c) + bI (c = sy a b c) := by
  unfold sy at h ⊢
  by_cases g : ¬ a = -99999 ∧ (a = b ∨ a = c)
  · rw [if_pos g]
    rcases g.2 with e | e
    · rw [bI_t rfl, bI_t e.symm]
      rcases bI_01 (c = a) with q | q <;> rw [q] <;> decide
    · rw [bI_t rfl, bI_t e.symm]
      rcases bI_01 (b = a) with q | q <;> rw [q] <;> decide
  · rw [if_neg g] at h ⊢
    by_cases g2 : ¬ b = -99999 ∧ b = c
    · rw [if_pos g2, bI_t (c := b = b) rfl, bI_t (c := c = b) g2.2.symm]
      rcases bI_01 (a = b) with q | q <;> rw [q] <;> decide
    · rw [if_neg g2] at h
      exact absurd rfl h
theorem two_iff {a b c : Int32} : ((¬ a = -99999 ∧ (a = b ∨ a = c)) ∨ (¬ b = -99999 ∧ b = c)) ↔ ¬ sy a b c = -99999 := by
  unfold sy
  by_cases g : ¬ a = -99999 ∧ (a = b ∨ a = c)
  · rw [if_pos g]
    exact ⟨fun _ => g.1, fun _ => Or.inl g⟩
  · rw [if_neg g]
    by_cases g2 : ¬ b = -99999 ∧ b = c
    · rw [if_pos g2]
      exact ⟨fun _ => g2.1, fun _ => Or.inr g2⟩
    · rw [if_neg g2]
      exact ⟨fun z => z.elim (fun z => absurd z g) (fun z => absurd z g2), fun z => absurd rfl z⟩
theorem read_sum {ρ : Rw} {s : Nat} : rReadable ρ s 3 = bI (¬ ρ (42 + 2 * (3 * s + 0)) = -99999) + bI (¬ ρ (42 + 2 * (3 * s + 1)) = -99999) + bI (¬ ρ (42 + 2 * (3 * s + 2)) = -99999) := by
  have step : ∀ (x : Int32) (y : Int32), (if x = -99999 then y else y + 1) = y + bI (¬ x = -99999) := fun x y => by
    by_cases h : x = -99999
    · rw [if_pos h, bI_f (fun q => q h), Int32.add_zero]
    · rw [if_neg h, bI_t h]
  show (if ρ (42 + 2 * (3 * s + 2)) = -99999 then (if ρ (42 + 2 * (3 * s + 1)) = -99999 then (if ρ (42 + 2 * (3 * s + 0)) = -99999 then 0 else 0 + 1) else (if ρ (42 + 2 * (3 * s + 0)) = -99999 then 0 else 0 + 1) + 1) else (if ρ (42 + 2 * (3 * s + 1)) = -99999 then (if ρ (42 + 2 * (3 * s + 0)) = -99999 then 0 else 0 + 1) else (if ρ (42 + 2 * (3 * s + 0)) = -99999 then 0 else 0 + 1) + 1) + 1) = _
  rw [step _ 0, step, step, Int32.zero_add]
