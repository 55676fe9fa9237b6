/-! ROWS THAT STAND FOR THE SAME: written by wip/whole/pure3.py -/
def pS (m : Nat) : Nat → Bool := fun q => decide ((18 + 2 * m ≤ q ∧ q < 42) ∨ 114 ≤ q)
theorem pS_f {m q : Nat} (h : q < 114) (h2 : q < 18 + 2 * m ∨ 42 ≤ q) : pS m q = false := decide_eq_false (by omega)
theorem pS_st (m : Nat) : Pst (pS m) := fun q h => pS_f (by omega) (by omega)
def Rp (m : Nat) (σ ρ : Rw) : Prop := ∃ δ, σ = ovP (pS m) δ ρ
theorem Rp.at {m : Nat} {σ ρ : Rw} (h : Rp m σ ρ) {q : Nat} (h1 : q < 114) (h2 : q < 18 + 2 * m ∨ 42 ≤ q) : σ q = ρ q := by
  obtain ⟨δ, rfl⟩ := h
  exact ovP_at (pS_f h1 h2)
theorem Rp.of {m : Nat} {σ ρ : Rw} (h : ∀ q, q < 114 → q < 18 + 2 * m ∨ 42 ≤ q → σ q = ρ q) : Rp m σ ρ := by
  refine ⟨σ, funext fun q => ?_⟩
  unfold ovP
  by_cases e : pS m q = true
  · rw [if_pos e]
  · rw [if_neg e]
    have e : ¬ ((18 + 2 * m ≤ q ∧ q < 42) ∨ 114 ≤ q) := fun h_ => e (decide_eq_true h_)
    exact h q (by omega) (by omega)
theorem Rp.rf (m : Nat) (ρ : Rw) : Rp m ρ ρ := Rp.of fun _ _ _ => rfl
theorem Rp.tr {m : Nat} {σ ρ τ : Rw} (h : Rp m σ ρ) (h2 : Rp m ρ τ) : Rp m σ τ := Rp.of fun _ a c => (h.at a c).trans (h2.at a c)
theorem Rp.sy {m : Nat} {σ ρ : Rw} (h : Rp m σ ρ) : Rp m ρ σ := Rp.of fun _ a c => (h.at a c).symm
theorem Rp.set {m : Nat} {σ ρ : Rw} (h : Rp m σ ρ) {k : Nat} {x : Int32} (hk : k < 18 ∨ 42 ≤ k ∧ k < 114) : Rp m (upd σ k x) (upd ρ k x) := by
  obtain ⟨δ, rfl⟩ := h
  exact ⟨δ, ovP_upd (pS_f (by omega) (by omega))⟩
theorem Rp.ok {m : Nat} {σ ρ : Rw} (h : Rp m σ ρ) (hr : Rok ρ) : Rok σ := hr.cg (h.at (by omega) (by omega)) (h.at (by omega) (by omega))
theorem Rp.store {m : Nat} {σ ρ : Rw} (h : Rp m σ ρ) (hr : Rok ρ) : Rp m (rStore σ) (rStore ρ) := by
  obtain ⟨δ, rfl⟩ := h
  exact ⟨δ, rStore_ov (pS_st m) hr⟩
theorem Rp.power {m : Nat} {σ ρ : Rw} (h : Rp m σ ρ) (hr : Rok ρ) : Rp m (rPower σ) (rPower ρ) := by
  obtain ⟨δ, rfl⟩ := h
  exact ⟨δ, rPower_ov (pS_st m) hr⟩
theorem Rp.go {m : Nat} {σ ρ : Rw} (h : Rp m σ ρ) (hr : Rok ρ) (f : Nat) : Rp m (rGo f σ) (rGo f ρ) := by
  obtain ⟨δ, rfl⟩ := h
  exact ⟨δ, rGo_ov (pS_st m) (pS_f (by omega) (by omega)) (pS_f (by omega) (by omega)) f hr⟩
theorem Rp.gone {m : Nat} {σ ρ : Rw} (h : Rp m σ ρ) (hr : Rok ρ) (f : Nat) : rGone f σ = rGone f ρ := by
  obtain ⟨δ, rfl⟩ := h
  exact rGone_ov (pS_st m) (pS_f (by omega) (by omega)) (pS_f (by omega) (by omega)) f hr
theorem Rp.renew {m : Nat} {σ ρ : Rw} (h : Rp m σ ρ) {s : Nat} (hs : s < 12) : Rp m (rRenew σ s) (rRenew ρ s) := by
  obtain ⟨δ, rfl⟩ := h
  exact ⟨δ, rRenew_ov (pS_st m) hs⟩
theorem Rp.says {m : Nat} {σ ρ : Rw} (h : Rp m σ ρ) {s : Nat} (hs : s < 12) : rSays σ s = rSays ρ s := by
  obtain ⟨δ, rfl⟩ := h
  exact rSays_ov (pS_st m) hs
theorem Rp.wear {m : Nat} {σ ρ : Rw} (h : Rp m σ ρ) {s : Nat} (hs : s < 12) : rWear σ s = rWear ρ s := by
  obtain ⟨δ, rfl⟩ := h
  exact rWear_ov (pS_st m) hs
theorem Rp.gap {m : Nat} {σ ρ : Rw} (h : Rp m σ ρ) {n : Nat} (hn : n ≤ 12) : rGap σ n = rGap ρ n := by
  obtain ⟨δ, rfl⟩ := h
  exact rGap_ov (pS_st m) hn
theorem Rp.readable {m : Nat} {σ ρ : Rw} (h : Rp m σ ρ) {s : Nat} (hs : s < 12) : rReadable σ s 3 = rReadable ρ s 3 := by
  obtain ⟨δ, rfl⟩ := h
  exact rReadable_ov (pS_st m) hs 3 (by omega)
theorem Rp.fnd {m : Nat} {σ ρ : Rw} (h : Rp m σ ρ) (hm : m ≤ 12) {c : Int32} : ∀ k, k ≤ m → rFnd σ c k = rFnd ρ c k
  | 0, _ => rfl
  | k + 1, hk => by rw [rFnd, rFnd, h.fnd hm k (by omega), h.at (by omega) (by omega)]
theorem Rp.sm {m : Nat} {σ ρ : Rw} (h : Rp m σ ρ) (hm : m ≤ 12) : ∀ k, k ≤ m → rSm σ k = rSm ρ k
  | 0, _ => rfl
  | k + 1, hk => by
    rw [rSm, rSm, h.sm hm k (by omega), h.at (q := 19 + 2 * k) (by omega) (by omega)]
    rcases rSm_or ρ k with e | ⟨i, hi, e⟩
    · rw [if_pos e, if_pos e]
    · rw [e, ck (by omega), h.at (q := 19 + 2 * i) (by omega) (by omega)]
theorem Rp.all {m : Nat} {σ ρ : Rw} (h : Rp m σ ρ) : ∀ k, k ≤ 12 → rAll σ k = rAll ρ k
  | 0, _ => rfl
  | k + 1, hk => by rw [rAll, rAll, h.all k (by omega), h.wear (by omega)]
theorem Rp.drop {m i : Nat} {σ ρ : Rw} (h : Rp m σ ρ) (hm : m ≤ 12) (hi : i < m) : Rp (m - 1) (rDrop σ i m) (rDrop ρ i m) := by
  refine Rp.of fun q h1 h2 => ?_
  unfold rDrop rShift upd
  by_cases e : q = 17
  · subst e
    rfl
  · rw [if_neg e, if_neg e]
    dsimp only
    by_cases e2 : 18 + 2 * i ≤ q ∧ q < 18 + 2 * i + 2 * (m - 1 - i)
    · rw [if_pos e2, if_pos e2]
      exact h.at (by omega) (by omega)
    · rw [if_neg e2, if_neg e2]
      exact h.at (by omega) (by omega)
theorem Rp.add {m : Nat} {σ ρ : Rw} (h : Rp m σ ρ) (hm : m < 12) {c : Int32} : Rp (m + 1) (rAdd σ c m) (rAdd ρ c m) := by
  refine Rp.of fun q h1 h2 => ?_
  unfold rAdd upd
  by_cases e : q = 17
  · subst e
    rfl
  · rw [if_neg e, if_neg e]
    by_cases e2 : q = 19 + 2 * m
    · rw [if_pos e2, if_pos e2]
      exact h.at (by omega) (by omega)
    · rw [if_neg e2, if_neg e2]
      by_cases e3 : q = 18 + 2 * m
      · rw [if_pos e3, if_pos e3]
      · rw [if_neg e3, if_neg e3]
        exact h.at (by omega) (by omega)
def sCnt (ρ : Rw) (c : Int32) (m : Nat) : Nat := if rFnd ρ c m = -99999 then m + 1 else m
theorem rServe_17 {ρ : Rw} {c : Int32} {m : Nat} (hm : m ≤ 12) : rServe ρ c m 17 = nI (sCnt ρ c m) := by
  unfold rServe sCnt
  rcases rFnd_or ρ c m with e | ⟨i, hi, e⟩
  · rw [if_pos e, if_pos e]
    unfold rAdd
    rw [pk_us]
  · have : ¬ rFnd ρ c m = -99999 := by rw [e]; exact nI_ne_none (by omega)
    rw [if_neg this, if_neg this]
    unfold rAdd
    rw [pk_us]
    congr 1
    omega
theorem Rp.serve {m : Nat} {σ ρ : Rw} (h : Rp m σ ρ) (hm : m ≤ 12) {c : Int32} (hr : m < 12 ∨ ¬ rFnd ρ c m = -99999) : Rp (sCnt ρ c m) (rServe σ c m) (rServe ρ c m) := by
  unfold rServe sCnt
  rw [h.fnd hm m (Nat.le_refl m)]
  rcases rFnd_or ρ c m with e | ⟨i, hi, e⟩
  · rw [if_pos e, if_pos e, if_pos e]
    exact h.add (hr.resolve_right (fun h_ => h_ e))
  · have : ¬ rFnd ρ c m = -99999 := by rw [e]; exact nI_ne_none (by omega)
    rw [if_neg this, if_neg this, if_neg this, e, ck (by omega)]
    have := (h.drop hm hi).add (c := c) (by omega)
    rw [show m - 1 + 1 = m by omega] at this
    exact this
theorem Rp.served {m : Nat} {σ ρ : Rw} (h : Rp m σ ρ) (hm : m ≤ 12) {c : Int32} : rServed σ c m = rServed ρ c m := by
  unfold rServed
  rw [h.fnd hm m (Nat.le_refl m), h.at (q := 4) (by omega) (by omega)]
  rcases rFnd_or ρ c m with e | ⟨i, hi, e⟩
  · rw [if_pos e, if_pos e]
  · rw [e, ck (by omega), h.at (q := 19 + 2 * i) (by omega) (by omega)]
theorem Rp.I2 {m B : Nat} {σ ρ : Rw} (h : Rp m σ ρ) (hm : m ≤ 12) (h17 : ρ 17 = nI m) (hI : I2 B ρ) : I2 B σ := by
  obtain ⟨⟨a, b, c, ⟨e1, e2, e3⟩, h4, h6, h1, ⟨n, hn, hn17, hD⟩⟩, k0, d0⟩ := hI
  have hl : ∀ q, q < 18 → σ q = ρ q := fun q hq => h.at (by omega) (by omega)
  have hnm : n = m := by
    rw [hn17, nI_eq (by omega) (by omega)] at h17
    exact h17
  subst hnm
  refine ⟨⟨h.ok a, ?_, ?_, ⟨fun q hq => ?_, fun q hq => ?_, ?_⟩, ?_, ?_, ?_, n, hn, (hl 17 (by omega)).trans hn17, fun i k hi hk he => hD i k hi hk ?_⟩, ?_, ?_⟩
  · unfold Bok
    rw [hl 3 (by omega), hl 12 (by omega)]
    exact b
  · unfold Kok
    rw [hl 10 (by omega), hl 11 (by omega)]
    exact c
  · rw [h.at (by omega) (by omega)]
    exact e1 q hq
  · rw [h.at (by omega) (by omega)]
    exact e2 q hq
  · rw [hl 2 (by omega)]
    exact e3
  · rw [hl 4 (by omega)]
    exact h4
  · rw [hl 6 (by omega)]
    exact h6
  · rw [hl 1 (by omega)]
    exact h1
  · rw [h.at (by omega) (by omega), h.at (by omega) (by omega)] at he
    exact he
  · unfold K0
    rw [hl 10 (by omega), hl 11 (by omega)]
    exact k0
  · unfold D0
    rw [hl 3 (by omega), hl 12 (by omega)]
    exact d0
theorem rGo1_17 {ρ : Rw} : rGo1 ρ 17 = ρ 17 := by
  unfold rGo1
  split
  · split
    · rfl
    · exact rStore_keep (by omega)
  · rfl
theorem rGo_17 : ∀ (f : Nat) {ρ : Rw}, rGo f ρ 17 = ρ 17
  | 0, _ => rfl
  | f + 1, ρ => by
    unfold rGo
    split
    · rw [rGo_17 f, rGo1_17]
    · rfl
theorem rRenew_17 {ρ : Rw} {s : Nat} : rRenew ρ s 17 = ρ 17 := rRn_hi (by omega) 3
def cnt (ρ : Rw) : Nat := (ρ 17).toNatClampNeg
/-- σ stands for ρ -/
def Rq (σ ρ : Rw) : Prop := Rp (cnt ρ) σ ρ
theorem Rq.cg {σ ρ : Rw} {m : Nat} (h : Rp m σ ρ) (e : cnt ρ = m) : Rq σ ρ := by
  unfold Rq
  rw [e]
  exact h
theorem cnt_eq {ρ ρ' : Rw} (h : ρ 17 = ρ' 17) : cnt ρ = cnt ρ' := by
  unfold cnt
  rw [h]
theorem Rq.c17 {σ ρ : Rw} (h : Rq σ ρ) : cnt σ = cnt ρ := cnt_eq (Rp.at h (by omega) (by omega))
theorem Rq.I2 {B : Nat} {σ ρ : Rw} (h : Rq σ ρ) (hI : I2 B ρ) : I2 B σ := Rp.I2 h hI.cnt.2 hI.cnt.1 hI
theorem gAns_rq {B : Nat} {σ ρ : Rw} (h : Rq σ ρ) (hI : I2 B ρ) {g : Nat} (k : Nat) : gAns σ g k = gAns ρ g k := by
  have hl : ∀ q, q < 18 → σ q = ρ q := fun q hq => Rp.at h (by omega) (by omega)
  have hc := hI.cnt
  have hf : ∀ c, rFnd σ c (ρ 17).toNatClampNeg = rFnd ρ c (ρ 17).toNatClampNeg := fun c => Rp.fnd h hc.2 _ (Nat.le_refl _)
  obtain ⟨n, cur, h3, h12, hcu, e0, e7⟩ := hI.1.1
  have e0' : (ρ 0).toNatClampNeg = n := by rw [e0, ck (by omega)]
  unfold gAns
  split
  · rw [hl 3 (by omega)]
  · rw [hl 3 (by omega)]
  · rw [hl 3 (by omega)]
  · rw [hl 3 (by omega), hl 17 (by omega), hf]
  · rw [hl 3 (by omega), hl 4 (by omega)]
  · rfl
  · rw [hl 0 (by omega), e0']
    refine bI_cg (and_congr_right fun _ => and_congr_right fun hh => ?_)
    rw [Rp.says h (by omega)]
  · rw [hl 0 (by omega), e0', Rp.gap h h12]
  · rw [hl 0 (by omega), hl 3 (by omega), hl 7 (by omega)]
  · rfl
theorem gRow_rq {B : Nat} {σ ρ : Rw} (h : Rq σ ρ) (hI : I2 B ρ) {g : Nat} (k : Nat) : Rq (gRow σ g k) (gRow ρ g k) := by
  have hl : ∀ q, q < 18 → σ q = ρ q := fun q hq => Rp.at h (by omega) (by omega)
  have hc := hI.cnt
  have hf : ∀ c, rFnd σ c (ρ 17).toNatClampNeg = rFnd ρ c (ρ 17).toNatClampNeg := fun c => Rp.fnd h hc.2 _ (Nat.le_refl _)
  obtain ⟨n, cur, h3, h12, hcu, e0, e7⟩ := id hI.1.1
  have e0' : (ρ 0).toNatClampNeg = n := by rw [e0, ck (by omega)]
  unfold gRow
  split
  · rw [hl 3 (by omega)]
    split
    · exact Rq.cg (Rp.go h hI.1.1 _) (cnt_eq (rGo_17 _))
    · exact h
  · rw [hl 3 (by omega)]
    split
    · exact Rp.set (Rp.set h (by omega)) (by omega)
    · exact h
  · rw [hl 3 (by omega)]
    split
    · exact Rp.power h hI.1.1
    · exact h
  · rw [hl 3 (by omega), hl 17 (by omega), hf]
    split
    · rename_i hh
      refine Rq.cg (Rp.serve h hc.2 ?_) ?_
      · refine hh.2.2.imp (fun h_ => ?_) (fun h_ => h_)
        rw [hc.1, o_12, nI_ltI (by have := hc.2; omega) (by omega)] at h_
        exact h_
      · unfold cnt
        rw [rServe_17 hc.2, ck (by unfold sCnt; split <;> omega)]
    · exact h
  · split
    · exact Rp.set h (by omega)
    · exact h
  · rw [hl 0 (by omega), hl 3 (by omega), hl 7 (by omega), e0']
    split
    · rename_i hh
      exact Rq.cg (Rp.renew h (by omega)) (cnt_eq rRenew_17)
    · exact h
  · exact h
theorem gRow_I2 {B : Nat} {ρ : Rw} (hI : I2 B ρ) (hB : B + 999 < 1073741824) {g : Nat} (hg : g < 10000) (k : Nat) : I2 (B + 999) (gRow ρ g k) := by
  have hc := hI.cnt
  unfold gRow
  split
  · split
    · exact (rGo_I2 (f := g % 1000) hI (by omega)).mono (by omega)
    · exact hI.mono (by omega)
  · split
    · rename_i hh
      exact (setCut_I2 hI (by omega) (by omega) (n012 (by omega))).mono (by omega)
    · exact hI.mono (by omega)
  · split
    · exact (rPower_I2 hI).mono (by omega)
    · exact hI.mono (by omega)
  · split
    · rename_i hh
      refine (rServe_I2 hI hc.1 hc.2 (hh.2.2.imp (fun h_ => ?_) (fun h_ => h_))).mono (by omega)
      rw [hc.1, o_12, nI_ltI (by have := hc.2; omega) (by omega)] at h_
      exact h_
    · exact hI.mono (by omega)
  · split
    · exact (step_I2 hI (by omega) (by omega)).mono (by omega)
    · exact hI.mono (by omega)
  · split
    · exact (rRenew_I2 hI).mono (by omega)
    · exact hI.mono (by omega)
  · exact hI.mono (by omega)
