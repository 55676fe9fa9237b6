/-! WHAT ELSE HOLDS OF EVERY ROW: its steps -/
/-- with K writes and C cuts to spare at t tenths -/
def Xs (K C t : Nat) (ρ : Rw) : Prop := ∃ n d s cur l w c m, (3 ≤ n ∧ n ≤ 12 ∧ ρ 0 = nI n) ∧ (Ed n d s cur ρ ∧ d ≤ t) ∧ (Fw l w w ρ ∧ w + K ≤ 36 * t) ∧ (c + C ≤ t ∧ ρ 9 = nI c ∧ (ρ 3 = 0 → 1 ≤ c ∧ Lc n ρ)) ∧ (m ≤ 12 ∧ ρ 17 = nI m ∧ Es t m ρ)
theorem Lc.cg {n : Nat} {ρ ρ' : Rw} (h : Lc n ρ) (hl : ∀ k, 13 ≤ k → k < 17 → ρ' k = ρ k) : Lc n ρ' := by
  obtain ⟨a, b, e, f, x1, x2, x3, x4, y1, y2, y3, y4⟩ := h
  exact ⟨a, b, e, f, x1, x2, x3, x4, (hl 13 (by omega) (by omega)).trans y1, (hl 14 (by omega) (by omega)).trans y2, (hl 15 (by omega) (by omega)).trans y3, (hl 16 (by omega) (by omega)).trans y4⟩
theorem Xs.mono {K C t t' : Nat} {ρ : Rw} (h : Xs K C t ρ) (ht : t ≤ t') : Xs K C t' ρ := by
  obtain ⟨n, d, s, cur, l, w, c, m, h1, ⟨h2, h3⟩, ⟨h4, h5⟩, ⟨h6, h7⟩, h8, h9, h10⟩ := h
  exact ⟨n, d, s, cur, l, w, c, m, h1, ⟨h2, by omega⟩, ⟨h4, by omega⟩, ⟨by omega, h7⟩, h8, h9, h10.mono ht⟩
theorem rTick_X {t : Nat} {ρ : Rw} (h : Xs 0 0 t ρ) : Xs 36 1 (t + 1) (rTick ρ) := by
  obtain ⟨n, d, s, cur, l, w, c, m, ⟨h1, h1', h1''⟩, ⟨⟨a1, a2, a3, a4, a5, a6, a7⟩, h3⟩, ⟨h4, h5⟩, ⟨h6, h7, h7'⟩, h8, h9, h10⟩ := h
  have es : ∀ k, rSays (rTick ρ) k = rSays ρ k := fun k => by
    unfold rTick
    rw [says_o (by omega), says_o (by omega)]
  have eo : ∀ k, k ≠ 4 → k ≠ 5 → rTick ρ k = ρ k := fun k x1 x2 => by
    unfold rTick
    rw [pk_un x1, pk_un x2]
  have e4 : rTick ρ 4 = nI (d + 1) := by
    show ρ 4 + 1 = _
    rw [a1, nI_1]
  refine ⟨n, d + 1, s, cur, l, w, c, m, ⟨h1, h1', (eo 0 (by omega) (by omega)).trans h1''⟩, ⟨⟨e4, (eo 6 (by omega) (by omega)).trans a2, (eo 7 (by omega) (by omega)).trans a3, a4, by omega, (a6.mono (Nat.le_succ d)).cg (fun k _ => es k), ?_⟩, by omega⟩, ⟨h4.cg (eo 2 (by omega) (by omega)) (eo 8 (by omega) (by omega)) (fun q _ => eo _ (by omega) (by omega)), by omega⟩, ⟨by omega, (eo 9 (by omega) (by omega)).trans h7, fun z => ?_⟩, h8, (eo 17 (by omega) (by omega)).trans h9, (h10.mono (Nat.le_succ t)).cg (fun k x1 x2 => eo k (by omega) (by omega))⟩
  · rw [es]
    exact a7
  · rw [eo 3 (by omega) (by omega)] at z
    exact ⟨(h7' z).1, (h7' z).2.cg (fun k x1 x2 => eo k (by omega) (by omega))⟩
theorem rStore_e {n cur : Nat} {ρ : Rw} (h0 : ρ 0 = nI n) (hn : n ≤ 12) (h7 : ρ 7 = nI cur) (hc : cur < n) : rStore ρ = rSt n cur (n - 1) 0 ρ := by
  unfold rStore
  rw [h0, h7, ck (by omega), ck (by omega)]
theorem rStore_Ed {n d s cur : Nat} {ρ : Rw} (h0 : ρ 0 = nI n) (hn : n ≤ 12) (hd : d < 1073741824) (h3 : ρ 3 = 1) (h12 : ρ 12 = 0) (hK : Kok ρ) (h : Ed n d s cur ρ) : Ed n d s cur (rStore ρ) ∨ (rStore ρ 3 = 1 ∧ ∃ c, Ed n d d c (rStore ρ)) := by
  have hc := h.2.2.2.1
  rw [rStore_e h0 hn h.2.2.1 hc]
  exact rSt_Ed hd hc (n - 1) 0 ρ (by omega) h3 h12 hK h
theorem rStore_X {t : Nat} {ρ : Rw} (hK : Kok ρ) (h3 : ρ 3 = 1) (h12 : ρ 12 = 0) (h : Xs 36 1 t ρ) (ht : t < 1073741824) : Xs 0 0 t (rStore ρ) := by
  obtain ⟨n, d, s, cur, l, w, c, m, ⟨hn3, hn, h0⟩, ⟨hE, hd⟩, ⟨h4, h5⟩, ⟨h6, h7, -⟩, h8, h9, h10⟩ := h
  have hE' := rStore_Ed h0 hn (by omega) h3 h12 hK hE
  have e := rStore_e h0 hn hE.2.2.1 hE.2.2.2.1
  have hF := rSt_F (n := n) (cur := cur) hn (by omega) (n - 1) 0 w ρ h4
  have hO := rSt_Of (n := n) (c := c) (cur := cur) (by omega) (n - 1) 0 ρ (by omega) h3 h12 h7 hK
  rw [← e] at hF hO
  obtain ⟨j, hj, hF⟩ := hF
  have k0 : rStore ρ 0 = nI n := (rStore_keep (by omega)).trans h0
  have k17 : rStore ρ 17 = nI m := (rStore_keep (by omega)).trans h9
  have ks : Es t m (rStore ρ) := h10.cg (fun k x1 x2 => rStore_keep (by omega))
  have hEd : ∃ s' cur', Ed n d s' cur' (rStore ρ) := by
    rcases hE' with hE' | ⟨_, c', hE'⟩
    · exact ⟨s, cur, hE'⟩
    · exact ⟨d, c', hE'⟩
  obtain ⟨s', cur', hE2⟩ := hEd
  rcases hO with ⟨o1, o2⟩ | ⟨o1, o2, o3⟩
  · exact ⟨n, d, s', cur', l, w + j, c, m, ⟨hn3, hn, k0⟩, ⟨hE2, hd⟩, ⟨hF, by omega⟩, ⟨by omega, o2, fun z => absurd (o1.symm.trans z) (by decide)⟩, h8, k17, ks⟩
  · exact ⟨n, d, s', cur', l, w + j, c + 1, m, ⟨hn3, hn, k0⟩, ⟨hE2, hd⟩, ⟨hF, by omega⟩, ⟨by omega, o2, fun _ => ⟨by omega, o3⟩⟩, h8, k17, ks⟩
theorem Xs.less {K C t : Nat} {ρ : Rw} (h : Xs K C t ρ) : Xs 0 0 t ρ := by
  obtain ⟨n, d, s, cur, l, w, c, m, h1, h2, ⟨h4, h5⟩, ⟨h6, h7⟩, h8⟩ := h
  exact ⟨n, d, s, cur, l, w, c, m, h1, h2, ⟨h4, by omega⟩, ⟨by omega, h7⟩, h8⟩
theorem rGo1_X {t : Nat} {ρ : Rw} (hI : I2 t ρ) (h3 : ρ 3 = 1) (h : Xs 0 0 t ρ) (ht : t + 1 < 1073741824) : Xs 0 0 (t + 1) (rGo1 ρ) := by
  unfold rGo1
  split
  · rename_i hD
    split
    · exact (rTick_X h).less
    · exact rStore_X (rTick_I hI.1).2.2.1 h3 hD (rTick_X h) ht
  · exact (rTick_X h).less
theorem rGo1_5 {ρ : Rw} : rGo1 ρ 5 = ρ 5 + 1 ∧ rGo1 ρ 4 = ρ 4 + 1 := by
  have e5 : rTick ρ 5 = ρ 5 + 1 := rfl
  have e4 : rTick ρ 4 = ρ 4 + 1 := rfl
  unfold rGo1
  split
  · split
    · exact ⟨e5, e4⟩
    · exact ⟨(rStore_keep (by omega)).trans e5, (rStore_keep (by omega)).trans e4⟩
  · exact ⟨e5, e4⟩
theorem rGo1_I2 {t : Nat} {ρ : Rw} (h : I2 t ρ) (h3 : ρ 3 = 1) (ht : t + 1 < 1073741824) : I2 (t + 1) (rGo1 ρ) := by
  have e : rGo 1 ρ = rGo1 ρ := by
    unfold rGo
    rw [if_pos h3]
    rfl
  rw [← e]
  exact rGo_I2 h ht
/-- a row of t tenths -/
def Iv (t : Nat) (ρ : Rw) : Prop := ρ 5 = nI t ∧ I2 t ρ ∧ Xs 0 0 t ρ
theorem rGo_V : ∀ (f : Nat) {t : Nat} {ρ : Rw}, Iv t ρ → t + f < 1073741824 → Iv (t + rGone f ρ) (rGo f ρ) ∧ rGone f ρ ≤ f ∧ (rGo f ρ 3 = 1 → rGone f ρ = f ∧ rGo f ρ 4 = ρ 4 + nI f) ∧ (ρ 3 = 1 → 1 ≤ f → 1 ≤ rGone f ρ)
  | 0, t, ρ, h, _ => by
    refine ⟨h, Nat.le_refl _, fun _ => ⟨rfl, ?_⟩, fun _ h => by omega⟩
    show ρ 4 = ρ 4 + nI 0
    rw [nI_0, Int32.add_zero]
  | f + 1, t, ρ, h, ht => by
    by_cases h3 : ρ 3 = 1
    · obtain ⟨h5, hI, hX⟩ := h
      have hn : Iv (t + 1) (rGo1 ρ) := ⟨by rw [rGo1_5.1, h5, nI_1], rGo1_I2 hI h3 (by omega), rGo1_X hI h3 hX (by omega)⟩
      obtain ⟨a1, a2, a3, _⟩ := rGo_V f hn (by omega)
      rw [rGo, rGone, if_pos h3, if_pos h3]
      refine ⟨?_, by omega, fun z => ?_, fun _ _ => by omega⟩
      · rw [show t + (rGone f (rGo1 ρ) + 1) = t + 1 + rGone f (rGo1 ρ) by omega]
        exact a1
      · obtain ⟨b1, b2⟩ := a3 z
        refine ⟨by omega, ?_⟩
        rw [b2, rGo1_5.2, Int32.add_assoc, o_1, nI_add, Nat.add_comm 1 f]
    · rw [rGo, rGone, if_neg h3, if_neg h3]
      exact ⟨h, by omega, fun z => absurd z h3, fun z => absurd z h3⟩
theorem Int32_le_total (a b : Int32) : a ≤ b ∨ b ≤ a := by
  rw [Int32.le_iff_toInt_le, Int32.le_iff_toInt_le]
  omega
theorem rBest_max (ρ : Rw) : ∀ K k, k ≤ K → rSays ρ k ≤ rSays ρ (rBest ρ K)
  | 0, k, hk => by
    have : k = 0 := by omega
    subst this
    exact Int32.le_refl _
  | K + 1, k, hk => by
    have ih := rBest_max ρ K
    rw [rBest]
    split
    · rename_i h
      rcases Nat.lt_or_ge k (K + 1) with g | g
      · exact ih k (by omega)
      · have : k = K + 1 := by omega
        subst this
        exact h
    · rename_i h
      have h' : rSays ρ (rBest ρ K) ≤ rSays ρ (K + 1) := (Int32_le_total _ _).resolve_left h
      rcases Nat.lt_or_ge k (K + 1) with g | g
      · exact Int32.le_trans (ih k (by omega)) h'
      · have : k = K + 1 := by omega
        subst this
        exact Int32.le_refl _
theorem nI_nn {m : Nat} (h : m < 1073741824) : ¬ nI m ≤ -99999 := by
  rw [Int32.le_iff_toInt_le, nI_toInt (by omega)]
  show ¬ (m : Int) ≤ -99999
  omega
/-- the power comes: the distance lies between what was stored and what it was -/
theorem rPower_v {n d s cur : Nat} {ρ : Rw} (h0 : ρ 0 = nI n) (hn0 : 1 ≤ n) (hn : n ≤ 12) (hd : d < 1073741824) (h : Ed n d s cur ρ) : ∃ v c, s ≤ v ∧ v ≤ d ∧ Ed n v v c (rPower ρ) := by
  obtain ⟨a1, a2, a3, a4, a5, a6, a7⟩ := h
  have hb := rBest_le ρ (n - 1)
  have e : rPower ρ = rPow ρ (rBest ρ (n - 1)) := by
    unfold rPower
    rw [h0, ck (by omega)]
  have es : ∀ k, rSays (rPow ρ (rBest ρ (n - 1))) k = rSays ρ k := fun k => by
    unfold rPow
    rw [says_o (by omega), says_o (by omega), says_o (by omega), says_o (by omega), says_o (by omega)]
  have hmax := rBest_max ρ (n - 1)
  have hB := a6 (rBest ρ (n - 1)) (by omega)
  rw [e]
  rcases hB with hB | ⟨v, hv, hB⟩
  · have hall : ∀ k, k < n → rSays ρ k = -99999 := fun k hk => by
      have h1 := hmax k (by omega)
      rw [hB] at h1
      rcases a6 k hk with h2 | ⟨m, hm, h2⟩
      · exact h2
      · rw [h2] at h1
        exact absurd h1 (nI_nn (by omega))
    have hs : s = 0 := by
      rcases a7 with a7 | a7
      · exact a7
      · rw [hall cur a4] at a7
        exact absurd (show nI s ≤ -99999 by rw [← a7]; exact Int32.le_refl _) (nI_nn (by omega))
    refine ⟨0, 0, by omega, by omega, ?_, ?_, ?_, by omega, Nat.le_refl _, fun k hk => ?_, Or.inl rfl⟩
    · unfold rPow
      rw [pk_un (by omega), pk_un (by omega), pk_un (by omega), pk_us, if_pos hB]
      rfl
    · unfold rPow
      rw [pk_un (by omega), pk_un (by omega), pk_us, if_pos hB]
      rfl
    · unfold rPow
      rw [pk_un (by omega), pk_un (by omega), pk_un (by omega), pk_un (by omega), pk_us, if_pos hB]
      rfl
    · rw [es, hall k hk]
      exact Or.inl rfl
  · have hne : ¬ rSays ρ (rBest ρ (n - 1)) = -99999 := by
      rw [hB]
      exact fun q => nI_nn (m := v) (by omega) (by rw [q]; exact Int32.le_refl _)
    refine ⟨v, rBest ρ (n - 1), ?_, hv, ?_, ?_, ?_, by omega, Nat.le_refl _, fun k hk => ?_, Or.inr ?_⟩
    · rcases a7 with a7 | a7
      · omega
      · have h1 := hmax cur (by omega)
        rw [a7, hB, nI_leI (by omega) (by omega)] at h1
        exact h1
    · unfold rPow
      rw [pk_un (by omega), pk_un (by omega), pk_un (by omega), pk_us, if_neg hne, hB]
    · unfold rPow
      rw [pk_un (by omega), pk_un (by omega), pk_us, if_neg hne, hB]
    · unfold rPow
      rw [pk_un (by omega), pk_un (by omega), pk_un (by omega), pk_un (by omega), pk_us, if_neg hne]
    · rw [es]
      have h1 := hmax k (by omega)
      rcases a6 k hk with h2 | ⟨m, hm, h2⟩
      · exact Or.inl h2
      · rw [h2, hB, nI_leI (by omega) (by omega)] at h1
        exact Or.inr ⟨m, h1, h2⟩
    · rw [es, hB]
theorem rPower_o {ρ : Rw} {k : Nat} (h3 : k ≠ 3) (h4 : k ≠ 4) (h6 : k ≠ 6) (h7 : k ≠ 7) (h12 : k ≠ 12) : rPower ρ k = ρ k := by
  unfold rPower rPow
  rw [pk_un h12, pk_un h3, pk_un h6, pk_un h4, pk_un h7]
theorem rPower_V {t : Nat} {ρ : Rw} (h : Iv t ρ) (ht : t < 1073741824) : Iv t (rPower ρ) := by
  obtain ⟨h5, hI, n, d, s, cur, l, w, c, m, ⟨hn3, hn, h0⟩, ⟨hE, hd⟩, ⟨h4, h5'⟩, ⟨h6, h7, -⟩, h8, h9, h10⟩ := h
  obtain ⟨v, c', hv1, hv2, hE'⟩ := rPower_v h0 (by omega) hn (by omega) hE
  refine ⟨(rPower_o (by omega) (by omega) (by omega) (by omega) (by omega)).trans h5, rPower_I2 hI, n, v, v, c', l, w, c, m, ⟨hn3, hn, (rPower_o (by omega) (by omega) (by omega) (by omega) (by omega)).trans h0⟩, ⟨hE', by omega⟩, ⟨h4.cg (rPower_o (by omega) (by omega) (by omega) (by omega) (by omega)) (rPower_o (by omega) (by omega) (by omega) (by omega) (by omega)) (fun q _ => rPower_o (by omega) (by omega) (by omega) (by omega) (by omega)), h5'⟩, ⟨h6, (rPower_o (by omega) (by omega) (by omega) (by omega) (by omega)).trans h7, fun z => ?_⟩, h8, (rPower_o (by omega) (by omega) (by omega) (by omega) (by omega)).trans h9, h10.cg (fun k x1 x2 => rPower_o (by omega) (by omega) (by omega) (by omega) (by omega))⟩
  exact absurd (show (1 : Int32) = 0 from z) (by decide)
/-- a place that nothing here looks at -/
theorem Xs.o {K C t k : Nat} {ρ : Rw} {x : Int32} (h : Xs K C t ρ) (hk : k = 1 ∨ k = 10 ∨ k = 11) : Xs K C t (upd ρ k x) := by
  obtain ⟨n, d, s, cur, l, w, c, m, ⟨h1, h1', h1''⟩, ⟨hE, h3⟩, ⟨h4, h5⟩, ⟨h6, h7, h7'⟩, h8, h9, h10⟩ := h
  refine ⟨n, d, s, cur, l, w, c, m, ⟨h1, h1', (pk_un (by omega)).trans h1''⟩, ⟨hE.cg (pk_un (by omega)) (pk_un (by omega)) (pk_un (by omega)) (fun k _ => says_o (by omega)), h3⟩, ⟨h4.o (by omega) (by omega) (by omega), h5⟩, ⟨h6, (pk_un (by omega)).trans h7, fun z => ?_⟩, h8, (pk_un (by omega)).trans h9, h10.cg (fun k x1 x2 => pk_un (by omega))⟩
  rw [pk_un (by omega)] at z
  exact ⟨(h7' z).1, (h7' z).2.cg (fun k x1 x2 => pk_un (by omega))⟩
theorem cut_V {t q : Nat} {ρ : Rw} {k : Int32} (h : Iv t ρ) (h1 : 1 ≤ q) (hq : q ≤ 36) (hk : k = 0 ∨ k = 1 ∨ k = 2) : Iv t (upd (upd ρ 10 (nI q)) 11 k) :=
  ⟨by rw [pk_un (by omega), pk_un (by omega)]; exact h.1, setCut_I2 h.2.1 h1 hq hk, (h.2.2.o (by omega)).o (by omega)⟩
theorem step_V {t q : Nat} {ρ : Rw} (h : Iv t ρ) (h1 : 1 ≤ q) (hq : q ≤ 99) : Iv t (upd ρ 1 (nI q)) :=
  ⟨by rw [pk_un (by omega)]; exact h.1, step_I2 h.2.1 h1 hq, h.2.2.o (by omega)⟩
theorem rRn_F {l w V s : Nat} {ρ : Rw} (h : Fw l w V ρ) (hs : s < 12) : ∀ k, k ≤ 3 → Fw l w V (rRn ρ s k)
  | 0, _ => h
  | k + 1, hk => by
    rw [rRn]
    exact ((rRn_F h hs k (by omega)).n).z (by omega)
theorem rRn_says {s k : Nat} {ρ : Rw} (hk : k ≠ s) : ∀ j, j ≤ 3 → rSays (rRn ρ s j) k = rSays ρ k
  | 0, _ => rfl
  | j + 1, hj => by
    rw [rRn, says_w, says_n (by omega) hk, rRn_says hk j (by omega)]
theorem rRenew_0 {s : Nat} {ρ : Rw} : rSays (rRenew ρ s) s = 0 := by
  have e : ∀ i, i < 3 → rRenew ρ s (42 + 2 * (3 * s + i)) = 0 := fun i hi => by
    unfold rRenew
    rw [rRn_z 3, if_pos (by omega)]
  rw [rSays_sy, e 0 (by omega), e 1 (by omega), e 2 (by omega)]
  rfl
theorem rRenew_V {t s : Nat} {ρ : Rw} (h : Iv t ρ) (hs : s < 12) (hc : ¬ nI s = ρ 7) : Iv t (rRenew ρ s) := by
  obtain ⟨h5, hI, n, d, s0, cur, l, w, c, m, ⟨hn3, hn, h0⟩, ⟨⟨a1, a2, a3, a4, a5, a6, a7⟩, hd⟩, ⟨h4, h5'⟩, ⟨h6, h7, h7'⟩, h8, h9, h10⟩ := h
  have eo : ∀ k, k < 42 → rRenew ρ s k = ρ k := fun k hk => rRn_hi hk 3
  have hne : cur ≠ s := fun e => hc (by rw [a3, e])
  refine ⟨(eo 5 (by omega)).trans h5, rRenew_I2 hI, n, d, s0, cur, l, w, c, m, ⟨hn3, hn, (eo 0 (by omega)).trans h0⟩, ⟨⟨(eo 4 (by omega)).trans a1, (eo 6 (by omega)).trans a2, (eo 7 (by omega)).trans a3, a4, a5, fun k hk => ?_, ?_⟩, hd⟩, ⟨rRn_F h4 hs 3 (by omega), h5'⟩, ⟨h6, (eo 9 (by omega)).trans h7, fun z => ?_⟩, h8, (eo 17 (by omega)).trans h9, h10.cg (fun k x1 x2 => eo k (by omega))⟩
  · by_cases e : k = s
    · subst e
      rw [rRenew_0]
      exact Or.inr ⟨0, by omega, rfl⟩
    · have : rSays (rRenew ρ s) k = rSays ρ k := rRn_says e 3 (by omega)
      rw [this]
      exact a6 k hk
  · have : rSays (rRenew ρ s) cur = rSays ρ cur := rRn_says hne 3 (by omega)
    rw [this]
    exact a7
  · rw [eo 3 (by omega)] at z
    exact ⟨(h7' z).1, (h7' z).2.cg (fun k x1 x2 => eo k (by omega))⟩
/-- only the services change -/
theorem Xs.serv {K C t m' : Nat} {ρ ρ' : Rw} (h : Xs K C t ρ) (ho : ∀ k, k < 17 ∨ 42 ≤ k → ρ' k = ρ k) (hm : m' ≤ 12) (h17 : ρ' 17 = nI m') (hE : Es t m' ρ') : Xs K C t ρ' := by
  obtain ⟨n, d, s, cur, l, w, c, m, ⟨h1, h1', h1''⟩, ⟨hEd, h3⟩, ⟨h4, h5⟩, ⟨h6, h7, h7'⟩, h8, h9, h10⟩ := h
  refine ⟨n, d, s, cur, l, w, c, m', ⟨h1, h1', (ho 0 (by omega)).trans h1''⟩, ⟨hEd.cg (ho 4 (by omega)) (ho 6 (by omega)) (ho 7 (by omega)) (fun k _ => says_cg (fun i _ => ho _ (by omega))), h3⟩, ⟨h4.cg (ho 2 (by omega)) (ho 8 (by omega)) (fun q _ => ho _ (by omega)), h5⟩, ⟨h6, (ho 9 (by omega)).trans h7, fun z => ?_⟩, hm, h17, hE⟩
  rw [ho 3 (by omega)] at z
  exact ⟨(h7' z).1, (h7' z).2.cg (fun k x1 x2 => ho k (by omega))⟩
theorem rDrop_n17 {ρ : Rw} {i n : Nat} : rDrop ρ i n 17 = nI (n - 1) := by
  unfold rDrop
  rw [pk_us]
theorem rAdd_o {ρ : Rw} {c : Int32} {n k : Nat} (hk : k < 17 ∨ 42 ≤ k) (hn : n < 12) : rAdd ρ c n k = ρ k := by
  unfold rAdd
  rw [pk_un (by omega), pk_un (by omega), pk_un (by omega)]
theorem rAdd_17 {ρ : Rw} {c : Int32} {n : Nat} : rAdd ρ c n 17 = nI (n + 1) := by
  unfold rAdd
  rw [pk_us]
theorem drop_V {t i m : Nat} {ρ : Rw} (h : Iv t ρ) (h17 : ρ 17 = nI m) (hm : m ≤ 12) (hi : i < m) : Iv t (rDrop ρ i m) := by
  refine ⟨(rDrop_lo' ρ (by omega) hm hi).trans h.1, rDrop_I2 h.2.1 h17 hm hi, h.2.2.serv (m' := m - 1) (fun k hk => rDrop_lo' ρ hk hm hi) (by omega) rDrop_n17 ?_⟩
  obtain ⟨n, d, s, cur, l, w, c, m0, _, _, _, _, h8, h9, h10⟩ := h.2.2
  have e : m0 = m := by
    rw [h9, nI_eq (by omega) (by omega)] at h17
    exact h17
  subst e
  exact rDrop_Es h10
theorem serve_V {t m c : Nat} {ρ : Rw} (h : Iv t ρ) (h17 : ρ 17 = nI m) (hm : m ≤ 12) (hc : c ≤ 99) (hr : m < 12 ∨ ¬ rFnd ρ (nI c) m = -99999) : Iv t (rServe ρ (nI c) m) := by
  obtain ⟨n, d, s, cur, l, w, c0, m0, _, ⟨hE, hd⟩, _, _, h8, h9, h10⟩ := h.2.2
  have e : m0 = m := by
    have h17' := h17
    rw [h9, nI_eq (by omega) (by omega)] at h17'
    exact h17'
  subst e
  have hI := rServe_I2 h.2.1 h17 hm hr
  unfold rServe at hI ⊢
  split at hI
  · rename_i hf
    have hm' : m0 < 12 := hr.resolve_right (fun q => q hf)
    rw [if_pos hf]
    refine ⟨(rAdd_o (by omega) hm').trans h.1, hI, h.2.2.serv (m' := m0 + 1) (fun k hk => rAdd_o hk hm') (by omega) rAdd_17 (rAdd_Es h10 hE.1 hd hc)⟩
  · rename_i hf
    rw [if_neg hf]
    obtain ⟨i, hi, e⟩ := (rFnd_or ρ (nI c) m0).resolve_left hf
    rw [e, ck (by omega)] at hI ⊢
    have k4 : rDrop ρ i m0 4 = nI d := (rDrop_lo' ρ (by omega) hm hi).trans hE.1
    have ho : ∀ k, k < 17 ∨ 42 ≤ k → rAdd (rDrop ρ i m0) (nI c) (m0 - 1) k = ρ k := fun k hk => (rAdd_o hk (by omega)).trans (rDrop_lo' ρ hk hm hi)
    refine ⟨(ho 5 (by omega)).trans h.1, hI, h.2.2.serv (m' := m0 - 1 + 1) ho (by omega) rAdd_17 (rAdd_Es (rDrop_Es h10) k4 hd hc)⟩
