/-! WHAT ELSE HOLDS OF EVERY ROW: a story -/
theorem wS_0 {ρ : Rw} : ∀ k, (∀ q, q < k → ρ (43 + 2 * q) = 0) → wS ρ k = 0
  | 0, _ => rfl
  | k + 1, h => by rw [wS, wS_0 k (fun q hq => h q (by omega)), h k (by omega), tk_0]
theorem clean_V {ρ : Rw} {a st l : Nat} (ha : 3 ≤ a) (ha2 : a ≤ 12) (hs : 1 ≤ st) (hs2 : st ≤ 99) (hl : l ≤ 999) : Iv 0 (rClean ρ (nI a) (nI st) (nI l)) := by
  have z : ∀ q, q < 114 → q ≠ 0 → q ≠ 1 → q ≠ 2 → q ≠ 3 → q ≠ 11 → (q < 13 ∨ 17 ≤ q) → rClean ρ (nI a) (nI st) (nI l) q = 0 := fun q h x0 x1 x2 x3 x11 x13 => by
    rw [rClean_at h, if_neg x0, if_neg x1, if_neg x2, if_neg x3, if_neg (by omega)]
  have e0 : rClean ρ (nI a) (nI st) (nI l) 0 = nI a := by rw [rClean_at (by omega), if_pos rfl]
  have e2 : rClean ρ (nI a) (nI st) (nI l) 2 = nI l := by rw [rClean_at (by omega), if_neg (by omega), if_neg (by omega), if_pos rfl]
  have e3 : rClean ρ (nI a) (nI st) (nI l) 3 = 1 := by rw [rClean_at (by omega), if_neg (by omega), if_neg (by omega), if_neg (by omega), if_pos rfl]
  have es : ∀ k, k < 12 → rSays (rClean ρ (nI a) (nI st) (nI l)) k = 0 := fun k hk => by
    rw [rSays_sy, z _ (by omega) (by omega) (by omega) (by omega) (by omega) (by omega) (by omega), z _ (by omega) (by omega) (by omega) (by omega) (by omega) (by omega) (by omega), z _ (by omega) (by omega) (by omega) (by omega) (by omega) (by omega) (by omega)]
    rfl
  refine ⟨z 5 (by omega) (by omega) (by omega) (by omega) (by omega) (by omega) (by omega), rClean_I2 ha ha2 hs hs2 hl, a, 0, 0, 0, l, 0, 0, 0, ⟨ha, ha2, e0⟩, ⟨⟨z 4 (by omega) (by omega) (by omega) (by omega) (by omega) (by omega) (by omega), z 6 (by omega) (by omega) (by omega) (by omega) (by omega) (by omega) (by omega), z 7 (by omega) (by omega) (by omega) (by omega) (by omega) (by omega) (by omega), by omega, Nat.le_refl _, fun k hk => ?_, Or.inl rfl⟩, Nat.le_refl _⟩, ⟨⟨e2, hl, z 8 (by omega) (by omega) (by omega) (by omega) (by omega) (by omega) (by omega), fun q hq => ⟨0, by omega, z _ (by omega) (by omega) (by omega) (by omega) (by omega) (by omega) (by omega)⟩, ?_⟩, by omega⟩, ⟨by omega, z 9 (by omega) (by omega) (by omega) (by omega) (by omega) (by omega) (by omega), fun h => ?_⟩, by omega, z 17 (by omega) (by omega) (by omega) (by omega) (by omega) (by omega) (by omega), fun k hk => by omega⟩
  · rw [es k (by omega)]
    exact Or.inr ⟨0, Nat.le_refl _, rfl⟩
  · rw [wS_0 36 (fun q hq => z _ (by omega) (by omega) (by omega) (by omega) (by omega) (by omega) (by omega))]
    exact Nat.le_refl _
  · rw [e3] at h
    exact absurd h (by decide)
theorem code_e (a b : Nat) : 10 * nI a + nI b = nI (10 * a + b) := by rw [o_10, pk_mul, nI_add]
theorem mDo_V {t sl : Nat} {ρ : Rw} {c : Nat × Nat × Nat} (h : Iv t ρ) (hc : Okc sl c) (hs : sl ≤ 12) (ht : t + 999 < 1073741824) : ∃ t', t' ≤ t + 999 ∧ Iv t' (mDo ρ c) := by
  obtain ⟨k, a, b⟩ := c
  rcases hc with ⟨rfl, g1, g2⟩ | ⟨rfl, g1, g2, g3⟩ | ⟨rfl, g1, g2⟩ | ⟨rfl, g1⟩ | rfl
  · dsimp only at g1 g2
    show ∃ t', t' ≤ t + 999 ∧ Iv t' (rDoDrive ρ a)
    unfold rDoDrive
    split
    · exact ⟨t, by omega, h⟩
    · obtain ⟨x1, x2, _⟩ := rGo_V a h (by omega)
      exact ⟨_, by omega, x1⟩
  · dsimp only at g1 g2 g3
    show ∃ t', t' ≤ t + 999 ∧ Iv t' (rDoCut ρ (nI a) (nI b))
    unfold rDoCut
    split
    · exact ⟨t, by omega, h⟩
    · exact ⟨t, by omega, cut_V h g1 g2 (n012 g3)⟩
  · dsimp only at g1 g2
    show ∃ t', t' ≤ t + 999 ∧ Iv t' (rDoServe ρ (10 * nI a + nI b) (ρ 17).toNatClampNeg)
    unfold rDoServe
    split
    · rename_i g
      rw [code_e] at g ⊢
      refine ⟨t, by omega, serve_V h h.2.1.cnt.1 h.2.1.cnt.2 (by omega) ?_⟩
      rcases g.2 with g | g
      · refine Or.inl ?_
        rw [h.2.1.cnt.1, o_12, nI_ltI (by have := h.2.1.cnt.2; omega) (by omega)] at g
        exact g
      · exact Or.inr g
    · exact ⟨t, by omega, h⟩
  · dsimp only at g1
    show ∃ t', t' ≤ t + 999 ∧ Iv t' (rDoReplace ρ a)
    unfold rDoReplace
    split
    · rename_i g
      refine ⟨t, by omega, rRenew_V h ?_ g.2⟩
      have : 1 ≤ sl ∨ sl = 0 := by omega
      omega
    · exact ⟨t, by omega, h⟩
  · show ∃ t', t' ≤ t + 999 ∧ Iv t' (rDoStart ρ)
    unfold rDoStart
    split
    · exact ⟨t, by omega, h⟩
    · exact ⟨t, by omega, rPower_V h (by omega)⟩
set_option maxRecDepth 20000 in
theorem mLd_V {n : Nat} {τ : Nat → Nat} {sl : Nat} (hs : sl ≤ 12) : ∀ (f : Nat) {t : Nat} {s : PS} {ρ : Rw} {l : Int32}, Iv t ρ → t + 999 * f < 1073741824 → ∃ t', t' ≤ t + 999 * f ∧ Iv t' (mLd n τ sl f s ρ l).1
  | 0, t, _, _, _, h, _ => ⟨t, by omega, h⟩
  | f + 1, t, s, ρ, l, h, ht => by
    rw [mLd]
    split
    · obtain ⟨t1, h1, h2⟩ := mDo_V h (mCmd_v (n := n) (τ := τ) (s := s) hs) hs (by omega)
      obtain ⟨t2, h3, h4⟩ := mLd_V (n := n) (τ := τ) (sl := sl) hs f (s := (mCmd n τ sl s).1) (l := l + mNo ρ (mCmd n τ sl s).2) h2 (by omega)
      exact ⟨t2, by omega, h4⟩
    · exact ⟨t, by omega, h⟩
