/-! THE REFERENCE: its text as a whole: written by wip/whole/pure3.py -/
def K0 (ρ : Rw) : Prop := ρ 10 = 0 → ρ 11 = -99999
def KK (ρ : Rw) : Prop := Kok ρ ∧ K0 ρ
theorem rPut_lo {ρ : Rw} {c : Prop} [Decidable c] {s i q : Nat} {v : Int32} (h : q < 42) : rPut ρ c s i v q = ρ q := by
  unfold rPut
  split
  · rfl
  · split
    · split
      · rw [pk_un (by omega)]
      · rw [pk_un (by omega), pk_un (by omega)]
    · rw [pk_un (by omega), pk_un (by omega)]
theorem rWr_KK {ρ : Rw} {s i : Nat} {v t : Int32} (h : KK ρ) : KK (rWr ρ s i v t) := by
  refine ⟨rWr_K h.1, ?_⟩
  obtain ⟨⟨q, hq, h10, _⟩, h0⟩ := h
  unfold rWr
  split
  · exact fun _ => rfl
  · rename_i hne
    intro h1
    rw [rPut_lo (by omega)] at h1 ⊢
    have e1 : rCut ρ 10 = ρ 10 - (if ρ 10 ≤ 0 then 0 else 1) := rfl
    have e2 : rCut ρ 11 = ρ 11 := rfl
    rw [e1, h10] at h1
    rw [e2]
    rcases Nat.eq_zero_or_pos q with g | g
    · refine h0 ?_
      rw [h10, g]
      rfl
    · rw [if_neg (fun h_ => by rw [o_0, nI_leI (by omega) (by omega)] at h_; omega), o_1, pk_sub g, o_0, nI_eq (by omega) (by omega)] at h1
      exact absurd (by rw [h10, show q = 1 by omega]; rfl) hne
theorem rW3_KK {ρ : Rw} {s : Nat} {t : Int32} (h : KK ρ) : KK (rW3 ρ s t).1 := by
  unfold rW3
  split
  · exact rWr_KK h
  · split
    · exact rWr_KK (rWr_KK h)
    · split
      · exact rWr_KK (rWr_KK (rWr_KK h))
      · exact rWr_KK (rWr_KK (rWr_KK h))
theorem rSt_KK {n cur : Nat} : ∀ (f vain : Nat) (ρ : Rw), KK ρ → KK (rSt n cur f vain ρ)
  | 0, _, _, h => h
  | f + 1, vain, ρ, h => by
    have hR := rW3_KK (s := (cur + 1 + vain) % n) (t := nI vain) h
    rw [rSt]
    generalize rW3 ρ ((cur + 1 + vain) % n) (nI vain) = R at hR
    split
    · exact hR
    · split
      · exact hR
      · exact rSt_KK f (vain + 1) R.1 hR
theorem rStore_KK {ρ : Rw} (h : KK ρ) : KK (rStore ρ) := rSt_KK _ _ _ h
theorem rGo1_KK {ρ : Rw} (h : KK ρ) : KK (rGo1 ρ) := by
  unfold rGo1
  split
  · split
    · exact h
    · exact rStore_KK h
  · exact h
theorem rGo_KK : ∀ (f : Nat) {ρ : Rw}, KK ρ → KK (rGo f ρ)
  | 0, _, h => h
  | f + 1, ρ, h => by
    unfold rGo
    split
    · exact rGo_KK f (rGo1_KK h)
    · exact h
def D0 (ρ : Rw) : Prop := ρ 3 = 0 → ρ 12 = 0
theorem rSt_D {n cur : Nat} : ∀ (f vain : Nat) (ρ : Rw), ρ 3 = 1 → ρ 12 = 0 → Kok ρ → D0 (rSt n cur f vain ρ)
  | 0, vain, ρ, h3, hD, hK => by
    unfold rSt
    intro h
    have h : ρ 3 = 0 := h
    rw [h3] at h
    exact absurd h (by decide)
  | f + 1, vain, ρ, h3, hD, hK => by
    have hR := rW3_f (s := (cur + 1 + vain) % n) (t := nI vain) h3 hD hK
    rw [rSt]
    generalize rW3 ρ ((cur + 1 + vain) % n) (nI vain) = R at hR
    obtain ⟨_, g2, g3, g4⟩ := hR
    split
    · exact fun _ => g3
    · rename_i g6
      split
      · exact fun _ => g3
      · refine rSt_D f (vain + 1) R.1 ?_ g3 g2
        rw [g4, if_pos (by cases h_ : R.2 with | false => exact absurd h_ g6 | true => rfl)]
theorem rGo1_D {ρ : Rw} (hK : KK ρ) (h : D0 ρ) (h3 : ρ 3 = 1) : D0 (rGo1 ρ) := by
  unfold rGo1
  split
  · rename_i hD
    split
    · exact h
    · exact rSt_D _ _ _ h3 hD hK.1
  · exact h
theorem rGo_D : ∀ (f : Nat) {ρ : Rw}, KK ρ → D0 ρ → D0 (rGo f ρ)
  | 0, _, _, h => h
  | f + 1, ρ, hK, h => by
    unfold rGo
    split
    · rename_i h3
      exact rGo_D f (rGo1_KK hK) (rGo1_D hK h h3)
    · exact h
def I2 (B : Nat) (ρ : Rw) : Prop := Inv B ρ ∧ K0 ρ ∧ D0 ρ
theorem I2.mono {B B' : Nat} {ρ : Rw} (h : I2 B ρ) (hB : B ≤ B') : I2 B' ρ := ⟨h.1.mono hB, h.2⟩
theorem I2.kk {B : Nat} {ρ : Rw} (h : I2 B ρ) : KK ρ := ⟨h.1.2.2.1, h.2.1⟩
theorem I2.cnt {B : Nat} {ρ : Rw} (h : I2 B ρ) : ρ 17 = nI (ρ 17).toNatClampNeg ∧ (ρ 17).toNatClampNeg ≤ 12 := by
  obtain ⟨m, hm, e, _⟩ := h.1.2.2.2.2.2.2.2
  rw [e, ck (by omega)]
  exact ⟨rfl, hm⟩
theorem I2.dst {B : Nat} {ρ : Rw} (h : I2 B ρ) : Dst ρ (ρ 17).toNatClampNeg := by
  obtain ⟨m, hm, e, hd⟩ := h.1.2.2.2.2.2.2.2
  rw [e, ck (by omega)]
  exact hd
theorem rGo_I2 {f B : Nat} {ρ : Rw} (h : I2 B ρ) (hB : B + f < 1073741824) : I2 (B + f) (rGo f ρ) := ⟨rGo_I f h.1 hB, (rGo_KK f h.kk).2, rGo_D f h.kk h.2.2⟩
theorem rStore_I2 {B : Nat} {ρ : Rw} (h : I2 B ρ) (hB : B < 1073741824) (h3 : ρ 3 = 1) (hD : ρ 12 = 0) : I2 B (rStore ρ) := ⟨rStore_I h.1 hB h3 hD, (rStore_KK h.kk).2, rSt_D _ _ _ h3 hD h.kk.1⟩
theorem rPower_I2 {B : Nat} {ρ : Rw} (h : I2 B ρ) : I2 B (rPower ρ) := ⟨rPower_I h.1, h.2.1, fun _ => rfl⟩
theorem rRenew_I2 {B : Nat} {ρ : Rw} {s : Nat} (h : I2 B ρ) : I2 B (rRenew ρ s) := by
  refine ⟨rRenew_I h.1, ?_⟩
  unfold K0 D0
  unfold rRenew
  rw [rRn_hi (by omega), rRn_hi (by omega), rRn_hi (by omega), rRn_hi (by omega)]
  exact h.2
theorem setCut_I2 {B q : Nat} {ρ : Rw} {k : Int32} (h : I2 B ρ) (h1 : 1 ≤ q) (hq : q ≤ 36) (hk : k = 0 ∨ k = 1 ∨ k = 2) : I2 B (upd (upd ρ 10 (nI q)) 11 k) := by
  refine ⟨setCut_I h.1 hq hk, ?_, h.2.2⟩
  intro h0
  have h0 : nI q = 0 := h0
  rw [o_0, nI_eq (by omega) (by omega)] at h0
  omega
theorem step_I2 {B m : Nat} {ρ : Rw} (h : I2 B ρ) (h1 : 1 ≤ m) (hm : m ≤ 99) : I2 B (upd ρ 1 (nI m)) := ⟨step_I h.1 h1 hm, h.2⟩
theorem rDrop_I2 {B : Nat} {ρ : Rw} {i n : Nat} (h : I2 B ρ) (h17 : ρ 17 = nI n) (hn : n ≤ 12) (hi : i < n) : I2 B (rDrop ρ i n) := by
  refine ⟨rDrop_I h.1 h17 hn hi, ?_⟩
  unfold K0 D0
  rw [rDrop_lo _ (by omega), rDrop_lo _ (by omega), rDrop_lo _ (by omega), rDrop_lo _ (by omega)]
  exact h.2
theorem rAdd_lo (ρ : Rw) {c : Int32} {n k : Nat} (h : k < 17) : rAdd ρ c n k = ρ k := by
  unfold rAdd
  rw [pk_un (by omega), pk_un (by omega), pk_un (by omega)]
theorem rServe_I2 {B : Nat} {ρ : Rw} {n : Nat} {c : Int32} (h : I2 B ρ) (h17 : ρ 17 = nI n) (hn : n ≤ 12) (hr : n < 12 ∨ ¬ rFnd ρ c n = -99999) : I2 B (rServe ρ c n) := by
  refine ⟨rServe_I h.1 h17 hn hr, ?_⟩
  unfold K0 D0 rServe
  split
  · rw [rAdd_lo _ (by omega), rAdd_lo _ (by omega), rAdd_lo _ (by omega), rAdd_lo _ (by omega)]
    exact h.2
  · rw [rAdd_lo _ (by omega), rAdd_lo _ (by omega), rAdd_lo _ (by omega), rAdd_lo _ (by omega), rDrop_lo _ (by omega), rDrop_lo _ (by omega), rDrop_lo _ (by omega), rDrop_lo _ (by omega)]
    exact h.2
theorem rClean_I2 {ρ : Rw} {a st l : Nat} (ha : 3 ≤ a) (ha2 : a ≤ 12) (hs : 1 ≤ st) (hs2 : st ≤ 99) (hl : l ≤ 999) : I2 0 (rClean ρ (nI a) (nI st) (nI l)) := by
  have e : ∀ q, q < 114 → rClean ρ (nI a) (nI st) (nI l) q = _ := fun q hq => rClean_at hq
  refine ⟨⟨⟨a, 0, ha, ha2, by omega, rfl, e 7 (by omega)⟩, ⟨Or.inr (e 3 (by omega)), Or.inl (e 12 (by omega))⟩, ⟨0, by omega, e 10 (by omega), Or.inl rfl⟩, ⟨fun q hq => ?_, fun q hq => ?_, l, hl, e 2 (by omega)⟩, ⟨0, by omega, e 4 (by omega)⟩, ⟨0, by omega, e 6 (by omega)⟩, ⟨st, hs, hs2, e 1 (by omega)⟩, 0, by omega, e 17 (by omega), fun i k hi => absurd hi (by omega)⟩, fun _ => e 11 (by omega), fun _ => e 12 (by omega)⟩
  · refine Or.inr ⟨0, by omega, ?_⟩
    rw [e _ (by omega), if_neg (by omega), if_neg (by omega), if_neg (by omega), if_neg (by omega), if_neg (by omega)]
    rfl
  · refine ⟨0, by omega, ?_⟩
    rw [e _ (by omega), if_neg (by omega), if_neg (by omega), if_neg (by omega), if_neg (by omega), if_neg (by omega)]
    rfl
/-- a command that was read -/
def Okc (sl : Nat) (c : Nat × Nat × Nat) : Prop := (c.1 = 0 ∧ 1 ≤ c.2.1 ∧ c.2.1 ≤ 999) ∨ (c.1 = 1 ∧ 1 ≤ c.2.1 ∧ c.2.1 ≤ 36 ∧ c.2.2 ≤ 2) ∨ (c.1 = 2 ∧ c.2.1 ≤ 9 ∧ c.2.2 ≤ 9) ∨ (c.1 = 3 ∧ c.2.1 ≤ sl - 1) ∨ c.1 = 4
theorem mCmd_v {n : Nat} {τ : Nat → Nat} {sl : Nat} {s : PS} (h : sl ≤ 12) : Okc sl (mCmd n τ sl s).2 := by
  unfold mCmd
  split
  · exact Or.inl ⟨rfl, mThree_v (by omega)⟩
  · split
    · have a := mTwo_v (n := n) (τ := τ) (lo := 1) (hi := 36) (s := mAcc true s) (by omega) (by omega)
      exact Or.inr (Or.inl ⟨rfl, a.1, a.2, (mDig_v (by omega) (by omega)).2⟩)
    · split
      · exact Or.inr (Or.inr (Or.inl ⟨rfl, (mDig_v (by omega) (by omega)).2, (mDig_v (by omega) (by omega)).2⟩))
      · split
        · exact Or.inr (Or.inr (Or.inr (Or.inl ⟨rfl, (mTwo_v (by omega) (by omega)).2⟩)))
        · exact Or.inr (Or.inr (Or.inr (Or.inr rfl)))
theorem rDoDrive_I2 {B t : Nat} {ρ : Rw} (h : I2 B ρ) (hB : B + t < 1073741824) : I2 (B + t) (rDoDrive ρ t) := by
  unfold rDoDrive
  split
  · exact h.mono (by omega)
  · exact rGo_I2 h hB
theorem rDoCut_I2 {B q : Nat} {ρ : Rw} {k : Int32} (h : I2 B ρ) (h1 : 1 ≤ q) (hq : q ≤ 36) (hk : k = 0 ∨ k = 1 ∨ k = 2) : I2 B (rDoCut ρ (nI q) k) := by
  unfold rDoCut
  split
  · exact h
  · exact setCut_I2 h h1 hq hk
theorem rDoStart_I2 {B : Nat} {ρ : Rw} (h : I2 B ρ) : I2 B (rDoStart ρ) := by
  unfold rDoStart
  split
  · exact h
  · exact rPower_I2 h
theorem rDoServe_I2 {B : Nat} {ρ : Rw} {c : Int32} (h : I2 B ρ) : I2 B (rDoServe ρ c (ρ 17).toNatClampNeg) := by
  unfold rDoServe
  split
  · rename_i g
    refine rServe_I2 h h.cnt.1 h.cnt.2 ?_
    rcases g.2 with g | g
    · refine Or.inl ?_
      rw [h.cnt.1, o_12, nI_ltI (by have := h.cnt.2; omega) (by omega)] at g
      exact g
    · exact Or.inr g
  · exact h
theorem rDoReplace_I2 {B s : Nat} {ρ : Rw} (h : I2 B ρ) : I2 B (rDoReplace ρ s) := by
  unfold rDoReplace
  split
  · exact rRenew_I2 h
  · exact h
theorem n012 {b : Nat} (h : b ≤ 2) : nI b = 0 ∨ nI b = 1 ∨ nI b = 2 := by
  rcases (by omega : b = 0 ∨ b = 1 ∨ b = 2) with e | e | e <;> subst e
  · exact Or.inl rfl
  · exact Or.inr (Or.inl rfl)
  · exact Or.inr (Or.inr rfl)
theorem mDo_I2 {B sl : Nat} {ρ : Rw} {c : Nat × Nat × Nat} (h : I2 B ρ) (hc : Okc sl c) (hB : B + 999 < 1073741824) : I2 (B + 999) (mDo ρ c) := by
  obtain ⟨k, a, b⟩ := c
  rcases hc with ⟨rfl, g1, g2⟩ | ⟨rfl, g1, g2, g3⟩ | ⟨rfl, g1, g2⟩ | ⟨rfl, g1⟩ | rfl
  · exact (rDoDrive_I2 h (t := a) (show B + a < 1073741824 by dsimp only at g2; omega)).mono (by dsimp only at g2; omega)
  · exact (rDoCut_I2 h g1 g2 (n012 g3)).mono (by omega)
  · exact (rDoServe_I2 h).mono (by omega)
  · exact (rDoReplace_I2 h).mono (by omega)
  · exact (rDoStart_I2 h).mono (by omega)
def mText (n : Nat) (τ : Nat → Nat) (sl : Nat) : Nat → PS → PS
  | 0, s => s
  | f + 1, s => if s.1 = true ∧ s.2 < n then mText n τ sl f (mCmd n τ sl s).1 else s
theorem mText_out {n : Nat} {τ : Nat → Nat} {sl : Nat} {s : PS} (h : ¬ (s.1 = true ∧ s.2 < n)) : ∀ f, mText n τ sl f s = s
  | 0 => rfl
  | f + 1 => by rw [mText, if_neg h]
def mTv (s : PS) : Int32 := if s.1 = true then -99999 else nI s.2
def mHS (n : Nat) (τ : Nat → Nat) : Nat := (mHd2 n τ).2
theorem mHS_v (n : Nat) (τ : Nat → Nat) : 3 ≤ mHS n τ ∧ mHS n τ ≤ 12 := mTwo_v (by omega) (by omega)
theorem mHdM_5 {M : Nat → Nat → Int32} {n : Nat} {τ : Nat → Nat} : mHdM M n τ 137 5 = nI (mHS n τ) := by
  unfold mHdM
  rw [setQ_k (by omega), setQ_k (by omega), setQ_s]
  rfl
theorem mHdM_6 {M : Nat → Nat → Int32} {n : Nat} {τ : Nat → Nat} : mHdM M n τ 137 6 = nI (mHd3 n τ).2 := by
  unfold mHdM
  rw [setQ_k (by omega), setQ_s]
theorem mHdM_7 {M : Nat → Nat → Int32} {n : Nat} {τ : Nat → Nat} : mHdM M n τ 137 7 = nI (mHd4 n τ).2 := by
  unfold mHdM
  rw [setQ_s]
theorem mHdM_k {M : Nat → Nat → Int32} {n : Nat} {τ : Nat → Nat} {k : Nat} (h5 : k ≠ 5) (h6 : k ≠ 6) (h7 : k ≠ 7) : mHdM M n τ 137 k = M 137 k := by
  unfold mHdM
  rw [setQ_k h7, setQ_k h6, setQ_k h5]
def mEnd (n : Nat) (τ : Nat → Nat) : PS := mText n τ (mHS n τ) 90 (mHd4 n τ).1
