/-! THE REFERENCE: driving, power, commands: written by wip/whole/pure3.py -/
theorem rSt_keep {n cur k : Nat} (h : k = 0 ∨ k = 1 ∨ k = 2 ∨ k = 4 ∨ k = 5 ∨ (17 ≤ k ∧ k < 42)) : ∀ (f vain : Nat) (ρ : Rw), rSt n cur f vain ρ k = ρ k
  | 0, vain, ρ => by
    unfold rSt
    rw [pk_un (by omega)]
  | f + 1, vain, ρ => by
    have hk := fun (ρ : Rw) (s : Nat) (v : Int32) => rW3_keep (ρ := ρ) (s := s) (vain := v) (k := k) (by omega)
    unfold rSt
    split
    · exact hk _ _ _
    · split
      · rw [pk_un (by omega), pk_un (by omega)]
        exact hk _ _ _
      · rw [rSt_keep h f]
        exact hk _ _ _
theorem rSt_7 {n cur : Nat} (hc : cur < n) : ∀ (f vain : Nat) (ρ : Rw), ρ 7 = nI cur → ∃ c, c < n ∧ rSt n cur f vain ρ 7 = nI c
  | 0, vain, ρ, h => ⟨cur, hc, by
    unfold rSt
    rw [pk_un (by omega)]
    exact h⟩
  | f + 1, vain, ρ, h => by
    have hk := fun (s : Nat) (v : Int32) => rW3_keep (ρ := ρ) (s := s) (vain := v) (k := 7) (by omega)
    unfold rSt
    split
    · exact ⟨cur, hc, (hk _ _).trans h⟩
    · split
      · exact ⟨_, Nat.mod_lt _ (by omega), by rw [pk_un (by omega), pk_us]⟩
      · exact rSt_7 hc f _ _ ((hk _ _).trans h)
/-- three to twelve slots, the current one among them -/
def Rok (ρ : Rw) : Prop := ∃ n cur, 3 ≤ n ∧ n ≤ 12 ∧ cur < n ∧ ρ 0 = nI n ∧ ρ 7 = nI cur
theorem rStore_keep {ρ : Rw} {k : Nat} (h : k = 0 ∨ k = 1 ∨ k = 2 ∨ k = 4 ∨ k = 5 ∨ (17 ≤ k ∧ k < 42)) : rStore ρ k = ρ k := rSt_keep h _ _ _
theorem rStore_ok {ρ : Rw} (h : Rok ρ) : Rok (rStore ρ) := by
  obtain ⟨n, cur, h3, h12, hc, h0, h7⟩ := h
  have e : rStore ρ = rSt n cur (n - 1) 0 ρ := by
    unfold rStore
    rw [h0, h7, ck (by omega), ck (by omega)]
  obtain ⟨c, hcn, hc7⟩ := rSt_7 hc (n - 1) 0 ρ h7
  exact ⟨n, c, h3, h12, hcn, (rStore_keep (Or.inl rfl)).trans h0, e ▸ hc7⟩
theorem Rok.cg {ρ ρ' : Rw} (h : Rok ρ) (h0 : ρ' 0 = ρ 0) (h7 : ρ' 7 = ρ 7) : Rok ρ' := by
  obtain ⟨n, cur, a, b, c, d, e⟩ := h
  exact ⟨n, cur, a, b, c, h0.trans d, h7.trans e⟩
/-- a tenth -/
def rTick (ρ : Rw) : Rw := upd (upd ρ 5 (ρ 5 + 1)) 4 (ρ 4 + 1)
def rGo1 (ρ : Rw) : Rw := if ρ 12 = 0 then (if rTick ρ 4 < ρ 6 + ρ 1 then rTick ρ else rStore (rTick ρ)) else rTick ρ
theorem rTick_ok {ρ : Rw} (h : Rok ρ) : Rok (rTick ρ) := h.cg rfl rfl
theorem rGo1_ok {ρ : Rw} (h : Rok ρ) : Rok (rGo1 ρ) := by
  unfold rGo1
  split
  · split
    · exact rTick_ok h
    · exact rStore_ok (rTick_ok h)
  · exact rTick_ok h
def rGo : Nat → Rw → Rw
  | 0, ρ => ρ
  | f + 1, ρ => if ρ 3 = 1 then rGo f (rGo1 ρ) else ρ
def rGone : Nat → Rw → Nat
  | 0, _ => 0
  | f + 1, ρ => if ρ 3 = 1 then rGone f (rGo1 ρ) + 1 else 0
theorem rGo_ok : ∀ (f : Nat) {ρ : Rw}, Rok ρ → Rok (rGo f ρ)
  | 0, _, h => h
  | f + 1, ρ, h => by
    unfold rGo
    split
    · exact rGo_ok f (rGo1_ok h)
    · exact h
theorem rGone_le : ∀ (f : Nat) (ρ : Rw), rGone f ρ ≤ f
  | 0, _ => Nat.le_refl 0
  | f + 1, ρ => by
    unfold rGone
    split
    · have := rGone_le f (rGo1 ρ)
      omega
    · omega
/-- the first of the slots 0 to k that says the most -/
def rBest (ρ : Rw) : Nat → Nat
  | 0 => 0
  | k + 1 => if rSays ρ (k + 1) ≤ rSays ρ (rBest ρ k) then rBest ρ k else k + 1
theorem rBest_le (ρ : Rw) : ∀ k, rBest ρ k ≤ k
  | 0 => Nat.le_refl 0
  | k + 1 => by
    have := rBest_le ρ k
    unfold rBest
    split <;> omega
def rPow (ρ : Rw) (f : Nat) : Rw := upd (upd (upd (upd (upd ρ 7 (if rSays ρ f = -99999 then 0 else nI f)) 4 (if rSays ρ f = -99999 then 0 else rSays ρ f)) 6 (if rSays ρ f = -99999 then 0 else rSays ρ f)) 3 1) 12 0
def rPower (ρ : Rw) : Rw := rPow ρ (rBest ρ ((ρ 0).toNatClampNeg - 1))
theorem rPower_ok {ρ : Rw} (h : Rok ρ) : Rok (rPower ρ) := by
  obtain ⟨n, cur, a, b, c, h0, h7⟩ := h
  have e : rPower ρ 7 = if rSays ρ (rBest ρ ((ρ 0).toNatClampNeg - 1)) = -99999 then 0 else nI (rBest ρ ((ρ 0).toNatClampNeg - 1)) := rfl
  have hb := rBest_le ρ ((ρ 0).toNatClampNeg - 1)
  rw [h0, ck (by omega)] at hb e
  refine ⟨n, if rSays ρ (rBest ρ (n - 1)) = -99999 then 0 else rBest ρ (n - 1), a, b, ?_, h0, ?_⟩
  · split <;> omega
  · rw [e]
    split <;> rfl
