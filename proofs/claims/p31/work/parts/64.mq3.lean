/-! THE REFERENCE: what would be: written by wip/whole/pure3.py -/
theorem cpy_at {ρ δ : Rw} {q : Nat} (h : q < 114) : va_cpy ρ δ 0 0 114 q = ρ q := by
  unfold va_cpy
  rw [if_pos (by omega)]
  congr 1
  omega
theorem cpy_rp {ρ δ : Rw} (m : Nat) : Rp m (va_cpy ρ δ 0 0 114) ρ := Rp.of fun q h _ => cpy_at h
def fFin (σ : Rw) (x y : Int32) : Rw := if rStore (rDoCut σ x y) 3 = 1 then rStore (rDoCut σ x y) else rPower (rStore (rDoCut σ x y))
def aFound (ρ : Rw) (x y : Int32) : Int32 := if rStore (upd (upd ρ 10 x) 11 y) 3 = 1 then ρ 4 else rPower (rStore (upd (upd ρ 10 x) 11 y)) 4
theorem found_e {ρ δ : Rw} {x y : Int32} (hok : Rok ρ) (h3 : ¬ ρ 3 = 0) : (if rStore (rDoCut (va_cpy ρ δ 0 0 114) x y) 3 = 1 then ρ 4 else rPower (rStore (rDoCut (va_cpy ρ δ 0 0 114) x y)) 4) = aFound ρ x y := by
  have h := cpy_rp (ρ := ρ) (δ := δ) 12
  have e : rDoCut (va_cpy ρ δ 0 0 114) x y = upd (upd (va_cpy ρ δ 0 0 114) 10 x) 11 y := by
    unfold rDoCut
    rw [cpy_at (by omega), if_neg h3]
  have hok2 : Rok (upd (upd ρ 10 x) 11 y) := hok
  have h2 := ((h.set (k := 10) (x := x) (by omega)).set (k := 11) (x := y) (by omega)).store hok2
  unfold aFound
  rw [e, h2.at (q := 3) (by omega) (by omega), (h2.power (rStore_ok hok2)).at (q := 4) (by omega) (by omega)]
def rWl (ρ : Rw) : Nat → Int32
  | 0 => ρ 4
  | k + 1 => if rWl ρ k ≤ aFound ρ (nI (1 + k / 3)) (nI (k % 3)) then rWl ρ k else aFound ρ (nI (1 + k / 3)) (nI (k % 3))
def tWl (ρ δ : Rw) : Nat → Rw
  | 0 => δ
  | k + 1 => fFin (va_cpy ρ (tWl ρ δ k) 0 0 114) (nI (1 + k / 3)) (nI (k % 3))
def aAfter (ρ : Rw) (x y : Int32) : Nat × Int32 := if ¬ x < 1 ∧ ¬ 36 < x ∧ ¬ y < 0 ∧ ¬ 2 < y then (if ρ 3 = 0 ∨ ρ 12 = 1 then (2, 0) else (0, aFound ρ x y)) else (1, 0)
def aWorst (ρ : Rw) : Nat × Int32 := if ρ 3 = 0 ∨ ρ 12 = 1 then (1, 0) else (0, ρ 4 - rWl ρ 108)
def rLs : Nat → Nat → Rw → Nat × Rw
  | 0, k, τ => (k, τ)
  | f + 1, k, τ => if τ 12 = 0 then rLs f (k + 1) (rGo1 τ) else (k, τ)
def vLasts (ρ : Rw) : Int32 := if (rLs 9999 0 ρ).2 12 = 1 then nI (rLs 9999 0 ρ).1 else -99999
def aLasts (ρ : Rw) (x : Int32) : Nat × Int32 := if ¬ x < 1 ∧ ¬ 99 < x then (if ρ 3 = 0 then (2, 0) else (0, vLasts (upd (upd ρ 1 x) 10 0))) else (1, 0)
theorem Rp.go1 {m : Nat} {σ ρ : Rw} (h : Rp m σ ρ) (hr : Rok ρ) : Rp m (rGo1 σ) (rGo1 ρ) := by
  obtain ⟨δ, rfl⟩ := h
  exact ⟨δ, rGo1_ov (pS_st m) hr (pS_f (by omega) (by omega)) (pS_f (by omega) (by omega))⟩
theorem rLs_rp {m : Nat} : ∀ (f k : Nat) {σ ρ : Rw}, Rp m σ ρ → Rok ρ → (rLs f k σ).1 = (rLs f k ρ).1 ∧ (rLs f k σ).2 12 = (rLs f k ρ).2 12
  | 0, _, _, _, h, _ => ⟨rfl, h.at (by omega) (by omega)⟩
  | f + 1, k, σ, ρ, h, hr => by
    rw [rLs, rLs, h.at (q := 12) (by omega) (by omega)]
    split
    · exact rLs_rp f (k + 1) (h.go1 hr) (rGo1_ok hr)
    · exact ⟨rfl, h.at (by omega) (by omega)⟩
theorem vLasts_rp {m : Nat} {σ ρ : Rw} (h : Rp m σ ρ) (hr : Rok ρ) : vLasts σ = vLasts ρ := by
  unfold vLasts
  have := rLs_rp 9999 0 h hr
  rw [this.1, this.2]
theorem rLs_out {k : Nat} {τ : Rw} (h : ¬ τ 12 = 0) : ∀ f, rLs f k τ = (k, τ)
  | 0 => rfl
  | f + 1 => by rw [rLs, if_neg h]
theorem rGo1_p {B : Nat} {ρ : Rw} (hI : Inv B ρ) (h3 : ρ 3 = 1) (h10 : ρ 10 = 0) : rGo1 ρ 3 = 1 ∧ rGo1 ρ 10 = 0 := by
  unfold rGo1
  split
  · rename_i h12
    split
    · exact ⟨h3, h10⟩
    · have := rStore_nc (ρ := rTick ρ) h10
      exact ⟨this.2.trans h3, this.1⟩
  · exact ⟨h3, h10⟩
theorem rDoCut_ok {ρ : Rw} {x y : Int32} (h : Rok ρ) : Rok (rDoCut ρ x y) := by
  unfold rDoCut
  split
  · exact h
  · exact h
