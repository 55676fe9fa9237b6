/-! THE INVARIANT of a row: written by wip/whole/pure4.py -/
def Cv (B : Nat) (x : Int32) : Prop := x = -99999 ∨ ∃ m, m ≤ B ∧ x = nI m
theorem Cv.mono {B B' : Nat} {x : Int32} (h : Cv B x) (hB : B ≤ B') : Cv B' x := by
  rcases h with h | ⟨m, h1, h2⟩
  · exact Or.inl h
  · exact Or.inr ⟨m, by omega, h2⟩
/-- the cells -/
def Cel (B : Nat) (ρ : Rw) : Prop := (∀ q, q < 36 → Cv B (ρ (42 + 2 * q))) ∧ (∀ q, q < 36 → ∃ m, m ≤ 999 ∧ ρ (43 + 2 * q) = nI m) ∧ (∃ m, m ≤ 999 ∧ ρ 2 = nI m)
theorem Cel.mono {B B' : Nat} {ρ : Rw} (h : Cel B ρ) (hB : B ≤ B') : Cel B' ρ := ⟨fun q hq => (h.1 q hq).mono hB, h.2⟩
theorem Cel.c {B : Nat} {ρ : Rw} {x : Int32} (h : Cel B ρ) (a : Nat) (hx : Cv B x) : Cel B (upd ρ (42 + 2 * a) x) := by
  refine ⟨fun q hq => ?_, fun q hq => ?_, ?_⟩
  · by_cases e : q = a
    · subst e
      rw [pk_us]
      exact hx
    · rw [pk_un (by omega)]
      exact h.1 q hq
  · rw [pk_un (by omega)]
    exact h.2.1 q hq
  · rw [pk_un (by omega)]
    exact h.2.2
theorem Cel.w {B : Nat} {ρ : Rw} {m : Nat} (h : Cel B ρ) (a : Nat) (hm : m ≤ 999) : Cel B (upd ρ (43 + 2 * a) (nI m)) := by
  refine ⟨fun q hq => ?_, fun q hq => ?_, ?_⟩
  · rw [pk_un (by omega)]
    exact h.1 q hq
  · by_cases e : q = a
    · subst e
      rw [pk_us]
      exact ⟨m, hm, rfl⟩
    · rw [pk_un (by omega)]
      exact h.2.1 q hq
  · rw [pk_un (by omega)]
    exact h.2.2
theorem Cel.o {B : Nat} {ρ : Rw} {x : Int32} (h : Cel B ρ) {k : Nat} (hk : k < 42) (h2 : k ≠ 2) : Cel B (upd ρ k x) := by
  refine ⟨fun q hq => ?_, fun q hq => ?_, ?_⟩
  · rw [pk_un (by omega)]
    exact h.1 q hq
  · rw [pk_un (by omega)]
    exact h.2.1 q hq
  · rw [pk_un (by omega)]
    exact h.2.2
theorem Cv.hund {B m : Nat} (hm : m ≤ B) (hB : B < 1073741824) : Cv B (nI m - (nI m - nI m / 100 * 100)) := by
  rw [i_rem, o_100, pk_div (by omega) (by omega) (by omega), pk_mul]
  exact Or.inr ⟨m / 100 * 100, by omega, rfl⟩
theorem rPut_C {B m : Nat} {ρ : Rw} {c : Prop} [Decidable c] {s i : Nat} (h : Cel B ρ) (hs : 3 * s + i < 36) (hm : m ≤ B) (hB : B < 1073741824) : Cel B (rPut ρ c s i (nI m)) := by
  unfold rPut
  split
  · exact h
  · rename_i hw
    obtain ⟨a, ha, hea⟩ := h.2.1 _ hs
    obtain ⟨l, hl, hel⟩ := h.2.2
    have hw' := Classical.not_not.mp hw
    rw [hea, hel, nI_ltI (by omega) (by omega)] at hw'
    have hW : Cel B (upd ρ (43 + 2 * (3 * s + i)) (ρ (43 + 2 * (3 * s + i)) + 1)) := by
      rw [hea, nI_1]
      exact h.w _ (by omega)
    have hV : Cv B (nI m) := Or.inr ⟨m, hm, rfl⟩
    split
    · split
      · exact hW
      · split
        · exact hW.c _ (Or.inl rfl)
        · exact hW.c _ (Cv.hund hm hB)
    · exact hW.c _ hV
theorem rWr_C {B m : Nat} {ρ : Rw} {s i : Nat} {t : Int32} (h : Cel B ρ) (hs : 3 * s + i < 36) (hm : m ≤ B) (hB : B < 1073741824) : Cel B (rWr ρ s i (nI m) t) := by
  have h1 : Cel B (rCut ρ) := (h.o (by omega) (by omega)).o (by omega) (by omega)
  unfold rWr
  split
  · unfold rOff
    exact ((((((((rPut_C h1 hs hm hB).o (by omega) (by omega)).o (by omega) (by omega)).o (by omega) (by omega)).o (by omega) (by omega)).o (by omega) (by omega)).o (by omega) (by omega)).o (by omega) (by omega)).o (by omega) (by omega)
  · exact rPut_C h1 hs hm hB
theorem rW3_C {B m : Nat} {ρ : Rw} {s : Nat} {t : Int32} (h : Cel B ρ) (hs : s < 12) (h4 : ρ 4 = nI m) (hm : m ≤ B) (hB : B < 1073741824) : Cel B (rW3 ρ s t).1 := by
  have k1 : rWr ρ s 0 (ρ 4) t 4 = nI m := (rWr_keep (by omega)).trans h4
  have a1 : Cel B (rWr ρ s 0 (ρ 4) t) := by rw [h4]; exact rWr_C h (by omega) hm hB
  unfold rW3
  split
  · exact a1
  generalize rWr ρ s 0 (ρ 4) t = ρ1 at *
  have k2 : rWr ρ1 s 1 (ρ1 4) t 4 = nI m := (rWr_keep (by omega)).trans k1
  have a2 : Cel B (rWr ρ1 s 1 (ρ1 4) t) := by rw [k1]; exact rWr_C a1 (by omega) hm hB
  split
  · exact a2
  generalize rWr ρ1 s 1 (ρ1 4) t = ρ2 at *
  have a3 : Cel B (rWr ρ2 s 2 (ρ2 4) t) := by rw [k2]; exact rWr_C a2 (by omega) hm hB
  split
  · exact a3
  · exact a3
theorem rSt_C {B m n cur : Nat} (hn : n ≤ 12) (hc : cur < n) (hm : m ≤ B) (hB : B < 1073741824) : ∀ (f vain : Nat) (ρ : Rw), Cel B ρ → ρ 4 = nI m → ((∃ m, m ≤ B ∧ ρ 6 = nI m)) → Cel B (rSt n cur f vain ρ) ∧ (∃ m, m ≤ B ∧ rSt n cur f vain ρ 6 = nI m)
  | 0, vain, ρ, h, h4, h6 => by
    unfold rSt
    exact ⟨h.o (by omega) (by omega), by rw [pk_un (by omega)]; exact h6⟩
  | f + 1, vain, ρ, h, h4, h6 => by
    have hs : (cur + 1 + vain) % n < 12 := Nat.lt_of_lt_of_le (Nat.mod_lt _ (by omega)) hn
    have a := rW3_C (t := nI vain) h hs h4 hm hB
    have k4 : (rW3 ρ ((cur + 1 + vain) % n) (nI vain)).1 4 = nI m := (rW3_keep (by omega)).trans h4
    have k6 : (rW3 ρ ((cur + 1 + vain) % n) (nI vain)).1 6 = ρ 6 := rW3_keep (by omega)
    rw [rSt]
    generalize rW3 ρ ((cur + 1 + vain) % n) (nI vain) = R at *
    split
    · exact ⟨a, k6 ▸ h6⟩
    · split
      · refine ⟨(a.o (by omega) (by omega)).o (by omega) (by omega), m, hm, ?_⟩
        rw [pk_us, pk_un (by omega), k4]
      · exact rSt_C hn hc hm hB f (vain + 1) R.1 a k4 (k6 ▸ h6)
def Sv (ρ : Rw) : Prop := ∃ m, m ≤ 12 ∧ ρ 17 = nI m ∧ Dst ρ m
theorem Sv.cg {ρ ρ' : Rw} (h : Sv ρ) (he : ∀ k, 17 ≤ k → k < 42 → ρ' k = ρ k) : Sv ρ' := by
  obtain ⟨m, a, b, c⟩ := h
  refine ⟨m, a, (he 17 (by omega) (by omega)).trans b, fun i k hi hk e => c i k hi hk ?_⟩
  rw [← he _ (by omega) (by omega), ← he _ (by omega) (by omega)]
  exact e
/-- the invariant: every number a cell holds is at most B -/
def Inv (B : Nat) (ρ : Rw) : Prop := Rok ρ ∧ Bok ρ ∧ Kok ρ ∧ Cel B ρ ∧ (∃ m, m ≤ B ∧ ρ 4 = nI m) ∧ (∃ m, m ≤ B ∧ ρ 6 = nI m) ∧ (∃ m, 1 ≤ m ∧ m ≤ 99 ∧ ρ 1 = nI m) ∧ Sv ρ
theorem Inv.mono {B B' : Nat} {ρ : Rw} (h : Inv B ρ) (hB : B ≤ B') : Inv B' ρ := by
  obtain ⟨a, b, c, e, ⟨m, hm, h4⟩, ⟨m6, hm6, h6⟩, g, i⟩ := h
  exact ⟨a, b, c, e.mono hB, ⟨m, by omega, h4⟩, ⟨m6, by omega, h6⟩, g, i⟩
theorem rStore_I {B : Nat} {ρ : Rw} (h : Inv B ρ) (hB : B < 1073741824) (h3 : ρ 3 = 1) (hD : ρ 12 = 0) : Inv B (rStore ρ) := by
  obtain ⟨a, b, c, e, ⟨m, hm, h4⟩, h6, g, i⟩ := h
  have hok := rStore_ok a
  have hK := rStore_K h3 hD c
  obtain ⟨n, cur, hn3, hn, hc, h0, h7⟩ := a
  have es : rStore ρ = rSt n cur (n - 1) 0 ρ := by
    unfold rStore
    rw [h0, h7, ck (by omega), ck (by omega)]
  have hC := rSt_C hn hc hm hB (n - 1) 0 ρ e h4 h6
  rw [← es] at hC
  refine ⟨hok, hK.2, hK.1, hC.1, ⟨m, hm, (rStore_keep (by omega)).trans h4⟩, hC.2, ?_, i.cg (fun k h1 h2 => rStore_keep (by omega))⟩
  obtain ⟨x, x1, x2, x3⟩ := g
  exact ⟨x, x1, x2, (rStore_keep (by omega)).trans x3⟩
theorem rTick_I {B : Nat} {ρ : Rw} (h : Inv B ρ) : Inv (B + 1) (rTick ρ) := by
  obtain ⟨a, b, c, e, ⟨m, hm, h4⟩, h6, g, i⟩ := h.mono (Nat.le_succ B)
  obtain ⟨_, _, _, _, ⟨m', hm', h4'⟩, _⟩ := h
  refine ⟨rTick_ok a, b, c, (e.o (by omega) (by omega)).o (by omega) (by omega), ⟨m' + 1, by omega, ?_⟩, h6, g, i.cg (fun k h1 h2 => ?_)⟩
  · show ρ 4 + 1 = _
    rw [h4', nI_1]
  · unfold rTick
    rw [pk_un (by omega), pk_un (by omega)]
theorem rGo1_I {B : Nat} {ρ : Rw} (h : Inv B ρ) (hB : B + 1 < 1073741824) (h3 : ρ 3 = 1) : Inv (B + 1) (rGo1 ρ) := by
  unfold rGo1
  split
  · rename_i hD
    split
    · exact rTick_I h
    · exact rStore_I (rTick_I h) hB h3 hD
  · exact rTick_I h
theorem rGo_I : ∀ (f : Nat) {B : Nat} {ρ : Rw}, Inv B ρ → B + f < 1073741824 → Inv (B + f) (rGo f ρ)
  | 0, _, _, h, _ => h
  | f + 1, B, ρ, h, hB => by
    unfold rGo
    split
    · rename_i h3
      have := rGo_I f (rGo1_I h (by omega) h3) (by omega)
      rw [show B + (f + 1) = B + 1 + f by omega]
      exact this
    · exact h.mono (by omega)
theorem rSays_C {B : Nat} {ρ : Rw} (h : Cel B ρ) {s : Nat} (hs : s < 12) : Cv B (rSays ρ s) := by
  unfold rSays
  split
  · exact h.1 _ (by omega)
  · split
    · exact h.1 _ (by omega)
    · exact Or.inl rfl
theorem Cv.ge {B : Nat} {x : Int32} (h : Cv B x) (hB : B < 1073741824) : -99999 ≤ x := by
  rcases h with h | ⟨m, h1, h2⟩
  · rw [h]
    exact Int32.le_refl _
  · rw [h2, Int32.le_iff_toInt_le, nI_toInt (by omega)]
    show (-99999 : Int) ≤ _
    omega
theorem rPower_I {B : Nat} {ρ : Rw} (h : Inv B ρ) : Inv B (rPower ρ) := by
  obtain ⟨a, b, c, e, h4, h6, g, i⟩ := h
  have hok := rPower_ok a
  obtain ⟨n, cur, hn3, hn, hc, h0, h7⟩ := a
  have hb := rBest_le ρ ((ρ 0).toNatClampNeg - 1)
  rw [h0, ck (by omega)] at hb
  have hv : ∃ m, m ≤ B ∧ (if rSays ρ (rBest ρ ((ρ 0).toNatClampNeg - 1)) = -99999 then 0 else rSays ρ (rBest ρ ((ρ 0).toNatClampNeg - 1))) = nI m := by
    rw [h0, ck (by omega)]
    split
    · exact ⟨0, by omega, rfl⟩
    · rename_i hne
      rcases rSays_C e (s := rBest ρ (n - 1)) (by omega) with hx | hx
      · exact absurd hx hne
      · exact hx
  refine ⟨hok, ⟨Or.inr rfl, Or.inl rfl⟩, c, ((((e.o (by omega) (by omega)).o (by omega) (by omega)).o (by omega) (by omega)).o (by omega) (by omega)).o (by omega) (by omega), hv, hv, g, i.cg (fun k h1 h2 => ?_)⟩
  unfold rPower rPow
  rw [pk_un (by omega), pk_un (by omega), pk_un (by omega), pk_un (by omega), pk_un (by omega)]
theorem rRn_hi {ρ : Rw} {s q : Nat} (h : q < 42) : ∀ k, rRn ρ s k q = ρ q
  | 0 => rfl
  | k + 1 => by rw [rRn, pk_un (by omega), pk_un (by omega), rRn_hi h k]
theorem rRn_C {B : Nat} {ρ : Rw} {s : Nat} (h : Cel B ρ) : ∀ k, Cel B (rRn ρ s k)
  | 0 => h
  | k + 1 => by
    rw [rRn]
    exact ((rRn_C h k).c _ (Or.inr ⟨0, by omega, rfl⟩)).w (m := 0) _ (by omega)
theorem rRenew_I {B : Nat} {ρ : Rw} {s : Nat} (h : Inv B ρ) : Inv B (rRenew ρ s) := by
  obtain ⟨a, b, c, e, h4, h6, g, i⟩ := h
  have hk : ∀ q, q < 42 → rRenew ρ s q = ρ q := fun q hq => rRn_hi hq 3
  refine ⟨a.cg (hk 0 (by omega)) (hk 7 (by omega)), ?_, ?_, rRn_C e 3, ?_, ?_, ?_, i.cg (fun k h1 h2 => hk k h2)⟩
  · unfold Bok
    rw [hk 3 (by omega), hk 12 (by omega)]
    exact b
  · unfold Kok
    rw [hk 10 (by omega), hk 11 (by omega)]
    exact c
  · rw [hk 4 (by omega)]
    exact h4
  · rw [hk 6 (by omega)]
    exact h6
  · rw [hk 1 (by omega)]
    exact g
theorem setCut_I {B q : Nat} {ρ : Rw} {k : Int32} (h : Inv B ρ) (hq : q ≤ 36) (hk : k = 0 ∨ k = 1 ∨ k = 2) : Inv B (upd (upd ρ 10 (nI q)) 11 k) := by
  obtain ⟨a, b, c, e, h4, h6, g, i⟩ := h
  refine ⟨a, b, ⟨q, hq, rfl, Or.inr hk⟩, (e.o (by omega) (by omega)).o (by omega) (by omega), h4, h6, g, i.cg (fun k h1 h2 => ?_)⟩
  rw [pk_un (by omega), pk_un (by omega)]
theorem cut0_I {B : Nat} {ρ : Rw} (h : Inv B ρ) : Inv B (upd ρ 10 0) := by
  obtain ⟨a, b, c, e, h4, h6, g, i⟩ := h
  refine ⟨a, b, ⟨0, by omega, rfl, Or.inl rfl⟩, e.o (by omega) (by omega), h4, h6, g, i.cg (fun k h1 h2 => ?_)⟩
  rw [pk_un (by omega)]
theorem step_I {B m : Nat} {ρ : Rw} (h : Inv B ρ) (h1 : 1 ≤ m) (hm : m ≤ 99) : Inv B (upd ρ 1 (nI m)) := by
  obtain ⟨a, b, c, e, h4, h6, g, i⟩ := h
  refine ⟨a, b, c, e.o (by omega) (by omega), h4, h6, ⟨m, h1, hm, rfl⟩, i.cg (fun k h1 h2 => ?_)⟩
  rw [pk_un (by omega)]
theorem rDrop_lo' (ρ : Rw) {i n k : Nat} (h : k < 17 ∨ 42 ≤ k) (hn : n ≤ 12) (hi : i < n) : rDrop ρ i n k = ρ k := by
  unfold rDrop rShift
  rw [pk_un (by omega), if_neg (by omega)]
theorem rDrop_code (ρ : Rw) {i n k : Nat} (hk : k < n - 1) : rDrop ρ i n (18 + 2 * k) = ρ (18 + 2 * (if k < i then k else k + 1)) := by
  unfold rDrop rShift
  rw [pk_un (by omega)]
  by_cases h : k < i
  · rw [if_pos h, if_neg (by omega)]
  · rw [if_neg h, if_pos (by omega)]
    congr 1
theorem rDrop_Sv {ρ : Rw} {i n : Nat} (hn : n ≤ 12) (hi : i < n) (hD : Dst ρ n) : Dst (rDrop ρ i n) (n - 1) := by
  intro x y hx hy e
  rw [rDrop_code ρ hx, rDrop_code ρ hy] at e
  have := hD _ _ (by split <;> omega) (by split <;> omega) e
  split at this <;> split at this <;> omega
theorem rDrop_I {B : Nat} {ρ : Rw} {i n : Nat} (h : Inv B ρ) (h17 : ρ 17 = nI n) (hn : n ≤ 12) (hi : i < n) : Inv B (rDrop ρ i n) := by
  obtain ⟨a, b, c, e, h4, h6, g, m, hm, e17, hD⟩ := h
  have hmn : m = n := by
    rw [e17, nI_eq (by omega) (by omega)] at h17
    exact h17
  subst hmn
  have hk : ∀ q, q < 17 ∨ 42 ≤ q → rDrop ρ i m q = ρ q := fun q hq => rDrop_lo' ρ hq hn hi
  refine ⟨a.cg (hk 0 (by omega)) (hk 7 (by omega)), ?_, ?_, ⟨fun q hq => ?_, fun q hq => ?_, ?_⟩, ?_, ?_, ?_, m - 1, by omega, ?_, rDrop_Sv hn hi hD⟩
  · unfold Bok
    rw [hk 3 (by omega), hk 12 (by omega)]
    exact b
  · unfold Kok
    rw [hk 10 (by omega), hk 11 (by omega)]
    exact c
  · rw [hk _ (by omega)]
    exact e.1 q hq
  · rw [hk _ (by omega)]
    exact e.2.1 q hq
  · rw [hk 2 (by omega)]
    exact e.2.2
  · rw [hk 4 (by omega)]
    exact h4
  · rw [hk 6 (by omega)]
    exact h6
  · rw [hk 1 (by omega)]
    exact g
  · unfold rDrop
    rw [pk_us]
theorem rAdd_I {B : Nat} {ρ : Rw} {n : Nat} {c : Int32} (h : Inv B ρ) (h17 : ρ 17 = nI n) (hn : n < 12) (hne : ∀ i, i < n → ¬ ρ (18 + 2 * i) = c) : Inv B (rAdd ρ c n) := by
  obtain ⟨a, b, cc, e, h4, h6, g, m, hm, e17, hD⟩ := h
  have hmn : m = n := by
    rw [e17, nI_eq (by omega) (by omega)] at h17
    exact h17
  subst hmn
  have hk : ∀ q, q < 17 ∨ 42 ≤ q → rAdd ρ c m q = ρ q := fun q hq => by
    unfold rAdd
    rw [pk_un (by omega), pk_un (by omega), pk_un (by omega)]
  have hc : ∀ q, q < m → rAdd ρ c m (18 + 2 * q) = ρ (18 + 2 * q) := fun q hq => by
    unfold rAdd
    rw [pk_un (by omega), pk_un (by omega), pk_un (by omega)]
  have hcm : rAdd ρ c m (18 + 2 * m) = c := by
    unfold rAdd
    rw [pk_un (by omega), pk_un (by omega), pk_us]
  refine ⟨a.cg (hk 0 (by omega)) (hk 7 (by omega)), ?_, ?_, ⟨fun q hq => ?_, fun q hq => ?_, ?_⟩, ?_, ?_, ?_, m + 1, by omega, ?_, fun x y hx hy ee => ?_⟩
  · unfold Bok
    rw [hk 3 (by omega), hk 12 (by omega)]
    exact b
  · unfold Kok
    rw [hk 10 (by omega), hk 11 (by omega)]
    exact cc
  · rw [hk _ (by omega)]
    exact e.1 q hq
  · rw [hk _ (by omega)]
    exact e.2.1 q hq
  · rw [hk 2 (by omega)]
    exact e.2.2
  · rw [hk 4 (by omega)]
    exact h4
  · rw [hk 6 (by omega)]
    exact h6
  · rw [hk 1 (by omega)]
    exact g
  · unfold rAdd
    rw [pk_us]
  · by_cases e1 : x = m
    · by_cases e2 : y = m
      · omega
      · subst e1
        rw [hcm, hc y (by omega)] at ee
        exact absurd ee.symm (hne y (by omega))
    · by_cases e2 : y = m
      · subst e2
        rw [hcm, hc x (by omega)] at ee
        exact absurd ee (hne x (by omega))
      · rw [hc x (by omega), hc y (by omega)] at ee
        exact hD x y (by omega) (by omega) ee
theorem rFnd_none {ρ : Rw} {c : Int32} : ∀ {n : Nat}, n < 1000 → rFnd ρ c n = -99999 → ∀ i, i < n → ¬ ρ (18 + 2 * i) = c
  | 0, _, _, i, hi => absurd hi (by omega)
  | n + 1, hn, h, i, hi => by
    unfold rFnd at h
    split at h
    · exact absurd h (nN (by omega))
    · by_cases e : i = n
      · subst e
        assumption
      · exact rFnd_none (by omega) h i (by omega)
theorem rFnd_at {ρ : Rw} {c : Int32} {i : Nat} : ∀ {n : Nat}, n < 1000 → i < 1000 → rFnd ρ c n = nI i → i < n ∧ ρ (18 + 2 * i) = c
  | 0, _, hi, h => absurd h.symm (nN (by omega))
  | n + 1, hn, hi, h => by
    unfold rFnd at h
    split at h
    · rw [nI_eq (by omega) (by omega)] at h
      subst h
      exact ⟨by omega, by assumption⟩
    · have := rFnd_at (by omega) hi h
      exact ⟨by omega, this.2⟩
theorem rServe_I {B : Nat} {ρ : Rw} {n : Nat} {c : Int32} (h : Inv B ρ) (h17 : ρ 17 = nI n) (hn : n ≤ 12) (hr : n < 12 ∨ ¬ rFnd ρ c n = -99999) : Inv B (rServe ρ c n) := by
  unfold rServe
  split
  · rename_i hf
    exact rAdd_I h h17 (hr.resolve_right (fun h => h hf)) (rFnd_none (by omega) hf)
  · rename_i hf
    obtain ⟨i, hi, he⟩ := (rFnd_or ρ c n).resolve_left hf
    rw [he, ck (by omega)]
    have hI := rDrop_I h h17 hn hi
    refine rAdd_I hI (rDrop_17 ρ) (by omega) (fun k hk e => ?_)
    rw [rDrop_code ρ hk] at e
    obtain ⟨_, _, _, _, _, _, _, m, hm, e17, hD⟩ := h
    have hmn : m = n := by
      rw [e17, nI_eq (by omega) (by omega)] at h17
      exact h17
    subst hmn
    have := hD _ i (by split <;> omega) hi (e.trans (rFnd_at (by omega) (by omega) he).2.symm)
    split at this <;> omega
