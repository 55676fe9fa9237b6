/-! WHAT WOULD BE lies between what is stored and the distance -/
theorem Iv.ed {t d s : Nat} {ρ : Rw} (h : Iv t ρ) (ht : t < 1073741824) (h4 : ρ 4 = nI d) (hd : d < 1073741824) (h6 : ρ 6 = nI s) (hs : s < 1073741824) : ∃ n cur, 3 ≤ n ∧ n ≤ 12 ∧ ρ 0 = nI n ∧ Ed n d s cur ρ := by
  obtain ⟨_, _, n, d', s', cur, l, w, c, m, ⟨h1, h2, h3⟩, ⟨hE, hd'⟩, _⟩ := h
  have e1 : d' = d := by
    have := hE.1.symm.trans h4
    rwa [nI_eq (by omega) (by omega)] at this
  have e2 : s' = s := by
    have := hE.2.1.symm.trans h6
    have hs' := hE.2.2.2.2.1
    rwa [nI_eq (by omega) (by omega)] at this
  subst e1
  subst e2
  exact ⟨n, cur, h1, h2, h3, hE⟩
theorem Iv.ds {t : Nat} {ρ : Rw} (h : Iv t ρ) : ∃ d s, ρ 4 = nI d ∧ ρ 6 = nI s ∧ s ≤ d ∧ d ≤ t := by
  obtain ⟨_, _, n, d, s, cur, l, w, c, m, _, ⟨hE, hd⟩, _⟩ := h
  exact ⟨d, s, hE.1, hE.2.1, hE.2.2.2.2.1, hd⟩
theorem found_in {t d s q : Nat} {k : Int32} {ρ : Rw} (h : Iv t ρ) (ht : t < 1073741824) (h3 : ρ 3 = 1) (h12 : ρ 12 = 0) (h1 : 1 ≤ q) (hq : q ≤ 36) (hk : k = 0 ∨ k = 1 ∨ k = 2) (h4 : ρ 4 = nI d) (hd : d < 1073741824) (h6 : ρ 6 = nI s) (hs : s < 1073741824) : ∃ v, s ≤ v ∧ v ≤ d ∧ aFound ρ (nI q) k = nI v := by
  have hC := cut_V h h1 hq hk
  obtain ⟨n, cur, hn3, hn, h0, hE⟩ := hC.ed ht (d := d) (s := s) (by rw [pk_un (by omega), pk_un (by omega)]; exact h4) hd (by rw [pk_un (by omega), pk_un (by omega)]; exact h6) hs
  have g3 : upd (upd ρ 10 (nI q)) 11 k 3 = 1 := by rw [pk_un (by omega), pk_un (by omega)]; exact h3
  have g12 : upd (upd ρ 10 (nI q)) 11 k 12 = 0 := by rw [pk_un (by omega), pk_un (by omega)]; exact h12
  have hS := rStore_Ed h0 hn hd g3 g12 hC.2.1.1.2.2.1 hE
  unfold aFound
  split
  · exact ⟨d, hE.2.2.2.2.1, Nat.le_refl _, h4⟩
  · rename_i hoff
    rcases hS with hS | ⟨hS, _⟩
    · obtain ⟨v, c, v1, v2, v3⟩ := rPower_v ((rStore_keep (by omega)).trans h0) (by omega) hn hd hS
      exact ⟨v, v1, v2, v3.1⟩
    · exact absurd hS hoff
theorem n_min {a b : Nat} (ha : a < 1073741824) (hb : b < 1073741824) : (if nI a ≤ nI b then nI a else nI b) = nI (min a b) := by
  by_cases h : a ≤ b
  · rw [if_pos (by rw [nI_leI (by omega) (by omega)]; exact h), Nat.min_eq_left h]
  · rw [if_neg (by rw [nI_leI (by omega) (by omega)]; exact h), Nat.min_eq_right (by omega)]
theorem wl_in {t d s : Nat} {ρ : Rw} (h : Iv t ρ) (ht : t < 1073741824) (h3 : ρ 3 = 1) (h12 : ρ 12 = 0) (h4 : ρ 4 = nI d) (hd : d < 1073741824) (h6 : ρ 6 = nI s) (hs : s ≤ d) : ∀ K, K ≤ 108 → ∃ v, s ≤ v ∧ v ≤ d ∧ rWl ρ K = nI v ∧ ∀ k, k < K → ∀ u, u < 1073741824 → aFound ρ (nI (1 + k / 3)) (nI (k % 3)) = nI u → v ≤ u
  | 0, _ => ⟨d, hs, Nat.le_refl _, h4, fun k hk => by omega⟩
  | K + 1, hK => by
    obtain ⟨v, v1, v2, v3, v4⟩ := wl_in h ht h3 h12 h4 hd h6 hs K (by omega)
    obtain ⟨u, u1, u2, u3⟩ := found_in (q := 1 + K / 3) (k := nI (K % 3)) h ht h3 h12 (by omega) (by omega) (n012 (by omega)) h4 hd h6 (by omega)
    refine ⟨min v u, by omega, by omega, ?_, fun k hk x hx e => ?_⟩
    · rw [rWl, v3, u3]
      exact n_min (by omega) (by omega)
    · rcases Nat.lt_or_ge k K with g | g
      · have := v4 k g x hx e
        omega
      · have : k = K := by omega
        subst this
        rw [u3, nI_eq (by omega) (by omega)] at e
        omega
theorem worst_in {t d s : Nat} {ρ : Rw} (h : Iv t ρ) (ht : t < 1073741824) (h3 : ρ 3 = 1) (h12 : ρ 12 = 0) (h4 : ρ 4 = nI d) (hd : d < 1073741824) (h6 : ρ 6 = nI s) (hs : s ≤ d) : ∃ v, s ≤ v ∧ v ≤ d ∧ aWorst ρ = (0, nI (d - v)) ∧ ∀ q k u, 1 ≤ q → q ≤ 36 → k ≤ 2 → u < 1073741824 → aFound ρ (nI q) (nI k) = nI u → v ≤ u := by
  obtain ⟨v, v1, v2, v3, v4⟩ := wl_in h ht h3 h12 h4 hd h6 hs 108 (by omega)
  refine ⟨v, v1, v2, ?_, fun q k u h1 hq hk hu e => ?_⟩
  · unfold aWorst
    rw [if_neg (by
      rintro (g | g)
      · rw [h3] at g; exact absurd g (by decide)
      · rw [h12] at g; exact absurd g (by decide)), h4, v3, pk_sub v2]
  · have := v4 (3 * (q - 1) + k) (by omega) u hu
    rw [show 1 + (3 * (q - 1) + k) / 3 = q by omega, show (3 * (q - 1) + k) % 3 = k by omega] at this
    exact this e
theorem cTl_ge : ∀ (f k : Nat) (σ : Rw), k ≤ (cTl f k σ).1
  | 0, k, σ => Nat.le_refl _
  | f + 1, k, σ => by
    rw [cTl]
    split
    · have := cTl_ge f (k + cNext σ) (rStore (cJump σ))
      omega
    · exact Nat.le_refl _
theorem cTl_ge1 {f : Nat} {σ : Rw} (h : σ 12 = 0) : 1 ≤ (cTl (f + 1) 0 σ).1 := by
  rw [cTl, if_pos ⟨by omega, h⟩]
  have := cTl_ge f (0 + cNext σ) (rStore (cJump σ))
  have h2 : 1 ≤ cNext σ := by
    unfold cNext
    omega
  omega
theorem cTl_dead {f : Nat} {σ : Rw} (h : σ 12 = 1) : (cTl (f + 1) 0 σ).1 = 0 := by
  rw [cTl, if_neg (fun q => absurd (h.symm.trans q.2) (by decide))]
