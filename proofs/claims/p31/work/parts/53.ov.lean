/-! ROWS THAT DIFFER WHERE NOBODY LOOKS: written by wip/whole/pure5.py -/
def ovP (p : Nat → Bool) (δ ρ : Rw) : Rw := fun q => if p q = true then δ q else ρ q
theorem ovP_at {p : Nat → Bool} {δ ρ : Rw} {k : Nat} (h : p k = false) : ovP p δ ρ k = ρ k := by
  unfold ovP
  rw [h, if_neg (by decide)]
theorem ovP_upd {p : Nat → Bool} {δ ρ : Rw} {k : Nat} {x : Int32} (h : p k = false) : upd (ovP p δ ρ) k x = ovP p δ (upd ρ k x) := by
  funext q
  unfold ovP
  by_cases e : q = k
  · subst e
    rw [pk_us, h, if_neg (by decide), pk_us]
  · rw [pk_un e, pk_un e]
theorem ovP_if {p : Nat → Bool} {δ ρ ρ' : Rw} {c : Prop} [Decidable c] : (if c then ovP p δ ρ else ovP p δ ρ') = ovP p δ (if c then ρ else ρ') := by
  by_cases h : c
  · rw [if_pos h, if_pos h]
  · rw [if_neg h, if_neg h]
/-- where storing looks -/
def Pst (p : Nat → Bool) : Prop := ∀ q, (q < 17 ∧ q ≠ 1 ∧ q ≠ 5) ∨ (42 ≤ q ∧ q < 114) → p q = false
section
variable {p : Nat → Bool} {δ : Rw}
theorem rSays_ov (hp : Pst p) {ρ : Rw} {s : Nat} (hs : s < 12) : rSays (ovP p δ ρ) s = rSays ρ s := by
  unfold rSays
  rw [ovP_at (hp _ (by omega)), ovP_at (hp _ (by omega)), ovP_at (hp _ (by omega))]
theorem rCut_ov (hp : Pst p) {ρ : Rw} : rCut (ovP p δ ρ) = ovP p δ (rCut ρ) := by
  unfold rCut
  rw [ovP_at (hp 8 (by omega)), ovP_at (hp 10 (by omega)), ovP_upd (hp 8 (by omega)), ovP_upd (hp 10 (by omega))]
theorem rPut_ov (hp : Pst p) {ρ : Rw} {c : Prop} [Decidable c] {s i : Nat} {v : Int32} (hs : 3 * s + i < 36) : rPut (ovP p δ ρ) c s i v = ovP p δ (rPut ρ c s i v) := by
  have a := hp (43 + 2 * (3 * s + i)) (by omega)
  have b := hp (42 + 2 * (3 * s + i)) (by omega)
  unfold rPut
  simp only [ovP_at a, ovP_at (hp 2 (by omega)), ovP_at (hp 11 (by omega)), ovP_upd a, ovP_upd b, ovP_if]
theorem rOff_ov (hp : Pst p) {ρ : Rw} {s i k t : Int32} : rOff (ovP p δ ρ) s i k t = ovP p δ (rOff ρ s i k t) := by
  unfold rOff
  simp only [ovP_at (hp 9 (by omega)), ovP_upd (hp 3 (by omega)), ovP_upd (hp 12 (by omega)), ovP_upd (hp 11 (by omega)), ovP_upd (hp 9 (by omega)), ovP_upd (hp 13 (by omega)), ovP_upd (hp 14 (by omega)), ovP_upd (hp 15 (by omega)), ovP_upd (hp 16 (by omega))]
theorem rWr_ov (hp : Pst p) {ρ : Rw} {s i : Nat} {v t : Int32} (hs : 3 * s + i < 36) : rWr (ovP p δ ρ) s i v t = ovP p δ (rWr ρ s i v t) := by
  unfold rWr
  simp only [ovP_at (hp 10 (by omega)), ovP_at (hp 11 (by omega)), rCut_ov hp, rPut_ov hp hs, rOff_ov hp, ovP_if]
theorem rW3_ov (hp : Pst p) {ρ : Rw} {s : Nat} {t : Int32} (hs : s < 12) : rW3 (ovP p δ ρ) s t = (ovP p δ (rW3 ρ s t).1, (rW3 ρ s t).2) := by
  unfold rW3
  simp only [ovP_at (hp 10 (by omega)), ovP_at (hp 4 (by omega)), rWr_ov hp (show 3 * s + 0 < 36 by omega), rWr_ov hp (show 3 * s + 1 < 36 by omega), rWr_ov hp (show 3 * s + 2 < 36 by omega)]
  by_cases c1 : ρ 10 = 1
  · rw [if_pos c1, if_pos c1]
  rw [if_neg c1, if_neg c1]
  by_cases c2 : rWr ρ s 0 (ρ 4) t 10 = 1
  · rw [if_pos c2, if_pos c2]
  rw [if_neg c2, if_neg c2]
  by_cases c3 : rWr (rWr ρ s 0 (ρ 4) t) s 1 (rWr ρ s 0 (ρ 4) t 4) t 10 = 1
  · rw [if_pos c3, if_pos c3]
  · rw [if_neg c3, if_neg c3]
theorem rSt_ov (hp : Pst p) {n cur : Nat} (hn : n ≤ 12) (hc : cur < n) : ∀ (f vain : Nat) (ρ : Rw), rSt n cur f vain (ovP p δ ρ) = ovP p δ (rSt n cur f vain ρ)
  | 0, vain, ρ => by
    unfold rSt
    rw [ovP_upd (hp 12 (by omega))]
  | f + 1, vain, ρ => by
    have hs : (cur + 1 + vain) % n < 12 := Nat.lt_of_lt_of_le (Nat.mod_lt _ (by omega)) hn
    rw [rSt, rSt, rW3_ov hp hs]
    simp only [rSays_ov hp hs, ovP_at (hp 4 (by omega)), ovP_upd (hp 7 (by omega)), ovP_upd (hp 6 (by omega)), rSt_ov hp hn hc f (vain + 1), ovP_if]
theorem rStore_ov (hp : Pst p) {ρ : Rw} (h : Rok ρ) : rStore (ovP p δ ρ) = ovP p δ (rStore ρ) := by
  obtain ⟨n, cur, hn3, hn, hc, h0, h7⟩ := h
  unfold rStore
  rw [ovP_at (hp 0 (by omega)), ovP_at (hp 7 (by omega)), h0, h7, ck (by omega), ck (by omega), rSt_ov hp hn hc]
theorem rBest_ov (hp : Pst p) {ρ : Rw} : ∀ k, k < 12 → rBest (ovP p δ ρ) k = rBest ρ k
  | 0, _ => rfl
  | k + 1, h => by
    have hb := rBest_le ρ k
    unfold rBest
    rw [rBest_ov hp k (by omega), rSays_ov hp (by omega), rSays_ov hp (by omega)]
theorem rPower_ov (hp : Pst p) {ρ : Rw} (h : Rok ρ) : rPower (ovP p δ ρ) = ovP p δ (rPower ρ) := by
  obtain ⟨n, cur, hn3, hn, hc, h0, h7⟩ := h
  have hb := rBest_le ρ (n - 1)
  unfold rPower rPow
  simp only [ovP_at (hp 0 (by omega)), h0, ck (show n < 2147483648 by omega), rBest_ov hp (n - 1) (by omega), rSays_ov hp (show rBest ρ (n - 1) < 12 by omega), ovP_upd (hp 7 (by omega)), ovP_upd (hp 4 (by omega)), ovP_upd (hp 6 (by omega)), ovP_upd (hp 3 (by omega)), ovP_upd (hp 12 (by omega))]
theorem rRn_ov (hp : Pst p) {ρ : Rw} {s : Nat} (hs : s < 12) : ∀ k, k ≤ 3 → rRn (ovP p δ ρ) s k = ovP p δ (rRn ρ s k)
  | 0, _ => rfl
  | k + 1, h => by
    rw [rRn, rRn, rRn_ov hp hs k (by omega), ovP_upd (hp _ (by omega)), ovP_upd (hp _ (by omega))]
theorem rRenew_ov (hp : Pst p) {ρ : Rw} {s : Nat} (hs : s < 12) : rRenew (ovP p δ ρ) s = ovP p δ (rRenew ρ s) := rRn_ov hp hs 3 (by omega)
theorem rWear_ov (hp : Pst p) {ρ : Rw} {s : Nat} (hs : s < 12) : rWear (ovP p δ ρ) s = rWear ρ s := by
  unfold rWear
  rw [ovP_at (hp _ (by omega)), ovP_at (hp _ (by omega)), ovP_at (hp _ (by omega))]
theorem rLeast_ov (hp : Pst p) {ρ : Rw} : ∀ k, k ≤ 36 → rLeast (ovP p δ ρ) k = rLeast ρ k
  | 0, _ => ovP_at (hp _ (by omega))
  | k + 1, h => by rw [rLeast, rLeast, rLeast_ov hp k (by omega), ovP_at (hp _ (by omega))]
theorem rMost_ov (hp : Pst p) {ρ : Rw} : ∀ k, k ≤ 36 → rMost (ovP p δ ρ) k = rMost ρ k
  | 0, _ => ovP_at (hp _ (by omega))
  | k + 1, h => by rw [rMost, rMost, rMost_ov hp k (by omega), ovP_at (hp _ (by omega))]
theorem rGap_ov (hp : Pst p) {ρ : Rw} {n : Nat} (hn : n ≤ 12) : rGap (ovP p δ ρ) n = rGap ρ n := by
  unfold rGap
  rw [rMost_ov hp _ (by omega), rLeast_ov hp _ (by omega)]
theorem rTick_ov (hp : Pst p) {ρ : Rw} (h5 : p 5 = false) : rTick (ovP p δ ρ) = ovP p δ (rTick ρ) := by
  unfold rTick
  rw [ovP_at h5, ovP_at (hp 4 (by omega)), ovP_upd h5, ovP_upd (hp 4 (by omega))]
theorem rGo1_ov (hp : Pst p) {ρ : Rw} (h : Rok ρ) (h5 : p 5 = false) (h1 : p 1 = false) : rGo1 (ovP p δ ρ) = ovP p δ (rGo1 ρ) := by
  unfold rGo1
  simp only [rTick_ov hp h5, ovP_at (hp 12 (by omega)), ovP_at (hp 4 (by omega)), ovP_at (hp 6 (by omega)), ovP_at h1, rStore_ov hp (rTick_ok h), ovP_if]
theorem rGo_ov (hp : Pst p) (h5 : p 5 = false) (h1 : p 1 = false) : ∀ (f : Nat) {ρ : Rw}, Rok ρ → rGo f (ovP p δ ρ) = ovP p δ (rGo f ρ)
  | 0, _, _ => rfl
  | f + 1, ρ, h => by
    rw [rGo, rGo, rGo1_ov hp h h5 h1, rGo_ov hp h5 h1 f (rGo1_ok h), ovP_at (hp 3 (by omega)), ovP_if]
theorem rGone_ov (hp : Pst p) (h5 : p 5 = false) (h1 : p 1 = false) : ∀ (f : Nat) {ρ : Rw}, Rok ρ → rGone f (ovP p δ ρ) = rGone f ρ
  | 0, _, _ => rfl
  | f + 1, ρ, h => by
    rw [rGone, rGone, rGo1_ov hp h h5 h1, rGone_ov hp h5 h1 f (rGo1_ok h), ovP_at (hp 3 (by omega))]
theorem rReadable_ov (hp : Pst p) {ρ : Rw} {s : Nat} (hs : s < 12) : ∀ k, k ≤ 3 → rReadable (ovP p δ ρ) s k = rReadable ρ s k
  | 0, _ => rfl
  | k + 1, h => by rw [rReadable, rReadable, rReadable_ov hp hs k (by omega), ovP_at (hp _ (by omega))]
end
