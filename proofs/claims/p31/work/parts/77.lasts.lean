/-! LASTS: jumps and steps: written by wip/whole/pure3.py -/
def p5 : Nat → Bool := fun q => decide (q = 5)
theorem p5_st : Pst p5 := fun q h => decide_eq_false (by omega)
/-- i steps without a storing -/
def tkk (i : Nat) (τ : Rw) : Rw := upd (upd τ 5 (τ 5 + nI i)) 4 (τ 4 + nI i)
theorem tkk_0 (τ : Rw) : tkk 0 τ = τ := by
  funext q
  unfold tkk upd
  by_cases e : q = 4
  · rw [if_pos e, e]
    exact Int32.add_zero _
  · rw [if_neg e]
    by_cases e2 : q = 5
    · rw [if_pos e2, e2]
      exact Int32.add_zero _
    · rw [if_neg e2]
theorem tkk_s (i : Nat) (τ : Rw) : rTick (tkk i τ) = tkk (i + 1) τ := by
  have e5 : tkk i τ 5 = τ 5 + nI i := rfl
  have e4 : tkk i τ 4 = τ 4 + nI i := rfl
  have en : nI (i + 1) = nI i + 1 := (nI_1 i).symm
  funext q
  unfold rTick
  rw [e5, e4]
  unfold tkk upd
  by_cases e : q = 4
  · rw [if_pos e, if_pos e, en, Int32.add_assoc]
  · rw [if_neg e, if_neg e]
    by_cases e2 : q = 5
    · subst e2
      show τ 5 + nI i + 1 = τ 5 + nI (i + 1)
      rw [en, Int32.add_assoc]
    · rw [if_neg e2, if_neg e2, if_neg e, if_neg e2]
theorem tkk_at {i q : Nat} {τ : Rw} (h4 : q ≠ 4) (h5 : q ≠ 5) : tkk i τ q = τ q := by
  unfold tkk
  rw [pk_un h4, pk_un h5]
section
variable {τ : Rw} {m4 m6 m1 : Nat}
theorem tk_go (e4 : τ 4 = nI m4) (e6 : τ 6 = nI m6) (e1 : τ 1 = nI m1) (b4 : m4 < 500000000) (b6 : m6 < 500000000) (b1 : m1 ≤ 99) {i : Nat} (hi : i < 1000000) (h12 : τ 12 = 0) :
    rGo1 (tkk i τ) = if m4 + i + 1 < m6 + m1 then tkk (i + 1) τ else rStore (tkk (i + 1) τ) := by
  unfold rGo1
  rw [if_pos (show tkk i τ 12 = 0 from (tkk_at (by omega) (by omega)).trans h12), tkk_s]
  have e : tkk (i + 1) τ 4 = nI (m4 + i + 1) := by
    show τ 4 + nI (i + 1) = _
    rw [e4, nI_add]
    congr 1
  rw [e, show tkk i τ 6 = nI m6 from (tkk_at (by omega) (by omega)).trans e6, show tkk i τ 1 = nI m1 from (tkk_at (by omega) (by omega)).trans e1, nI_add]
  exact if_cg (nI_ltI (by omega) (by omega))
/-- steps that store nothing -/
theorem rLs_tk (e4 : τ 4 = nI m4) (e6 : τ 6 = nI m6) (e1 : τ 1 = nI m1) (b4 : m4 < 500000000) (b6 : m6 < 500000000) (b1 : m1 ≤ 99) (h12 : τ 12 = 0) {f k : Nat} : ∀ i, i < 1000000 → (i = 0 ∨ m4 + i < m6 + m1) → rLs (i + f) k τ = rLs f (k + i) (tkk i τ)
  | 0, _, _ => by rw [tkk_0, Nat.zero_add, Nat.add_zero]
  | i + 1, hi, h => by
    have ih := rLs_tk e4 e6 e1 b4 b6 b1 h12 (f := f + 1) (k := k) i (by omega) (by omega)
    rw [show i + 1 + f = i + (f + 1) by omega, ih, rLs, if_pos (show tkk i τ 12 = 0 from (tkk_at (by omega) (by omega)).trans h12), tk_go e4 e6 e1 b4 b6 b1 (by omega) h12, if_pos (by omega)]
    rfl
end
def E5 (σ τ : Rw) : Prop := ∀ q, q ≠ 5 → τ q = σ q
theorem E5.ov {σ τ : Rw} (h : E5 σ τ) : τ = ovP p5 τ σ := by
  funext q
  unfold ovP p5
  by_cases e : q = 5
  · rw [if_pos (decide_eq_true e)]
  · rw [if_neg (fun h_ => e (of_decide_eq_true h_))]
    exact h q e
theorem E5.store {σ τ : Rw} (h : E5 σ τ) (hr : Rok σ) : E5 (rStore σ) (rStore τ) := by
  rw [h.ov, rStore_ov p5_st hr]
  intro q hq
  exact ovP_at (decide_eq_false hq)
def tV (r : Nat × Rw) : Int32 := if r.1 ≤ 9999 then nI r.1 else -99999
def lV (r : Nat × Rw) : Int32 := if r.2 12 = 1 then nI r.1 else -99999
theorem till_eq {B : Nat} (hB : B < 1000000) : ∀ (fc k fm : Nat) (σ τ : Rw), k + fm = 9999 → 9999 < k + fc → Inv (B + k) σ → σ 3 = 1 → σ 10 = 0 → E5 σ τ → tV (cTl fc k σ) = lV (rLs fm k τ) := by
  intro fc
  induction fc with
  | zero => intro k fm σ τ hk hf; omega
  | succ fc ih =>
    intro k fm σ τ hk hf hI h3 h10 hE
    have hb := hI.2.1
    rw [cTl]
    by_cases h12 : σ 12 = 0
    · rw [if_pos ⟨by omega, h12⟩]
      have hJ := cJump_I hI (by omega) (by omega)
      obtain ⟨_, _, _, _, ⟨m4, hm4, e4⟩, ⟨m6, hm6, e6⟩, ⟨m1, h11, h1, e1⟩, _⟩ := id hI
      have ej : cNext σ = max 1 (m6 + m1 - m4) := by
        unfold cNext
        rw [e4, e6, e1, ck (by omega), ck (by omega), ck (by omega)]
      have t4 : τ 4 = nI m4 := (hE 4 (by omega)).trans e4
      have t6 : τ 6 = nI m6 := (hE 6 (by omega)).trans e6
      have t1 : τ 1 = nI m1 := (hE 1 (by omega)).trans e1
      have t12 : τ 12 = 0 := (hE 12 (by omega)).trans h12
      obtain ⟨j, hj⟩ : ∃ j, cNext σ = j + 1 := ⟨cNext σ - 1, by omega⟩
      by_cases hle : k + (j + 1) ≤ 9999
      · obtain ⟨f2, hf2⟩ : ∃ f2, fm = j + (f2 + 1) := ⟨fm - (j + 1), by omega⟩
        rw [hf2, rLs_tk t4 t6 t1 (by omega) (by omega) h1 t12 j (by omega) (by omega), rLs, if_pos ((tkk_at (by omega) (by omega)).trans t12), tk_go t4 t6 t1 (by omega) (by omega) h1 (by omega) t12, if_neg (by omega), hj]
        have hJr : Rok (cJump σ) := hJ.1.1
        have hEt : E5 (cJump σ) (tkk (j + 1) τ) := by
          intro q hq
          by_cases e : q = 4
          · subst e
            show τ 4 + nI (j + 1) = σ 4 + nI (cNext σ)
            rw [hE 4 hq, hj]
          · rw [tkk_at e hq, hE q hq]
            unfold cJump
            rw [pk_un e]
        have hS := hEt.store hJr
        have hnc := rStore_nc (ρ := cJump σ) h10
        have hI2 : Inv (B + (k + (j + 1))) (rStore (cJump σ)) := by
          have := hJ.1
          rw [hj] at this
          exact rStore_I this (by omega) h3 h12
        exact ih (k + (j + 1)) f2 _ _ (by omega) (by omega) hI2 (hnc.2.trans h3) hnc.1 hS
      · have e := rLs_tk t4 t6 t1 (by omega) (by omega) h1 t12 (f := 0) (k := k) fm (by omega) (by omega)
        rw [Nat.add_zero] at e
        rw [e, hj]
        have ec : cTl fc (k + (j + 1)) (rStore (cJump σ)) = (k + (j + 1), rStore (cJump σ)) := by
          cases fc with
          | zero => rfl
          | succ fc => rw [cTl, if_neg (fun h_ => by omega)]
        rw [ec]
        unfold tV lV
        rw [if_neg (show ¬ k + (j + 1) ≤ 9999 by omega), rLs, if_neg (fun h_ => by have h2_ : tkk fm τ 12 = 1 := h_; rw [show tkk fm τ 12 = 0 from (tkk_at (by omega) (by omega)).trans t12] at h2_; exact absurd h2_ (by decide))]
    · have h12' : σ 12 = 1 := hb.2.resolve_left h12
      have t12 : τ 12 = 1 := (hE 12 (by omega)).trans h12'
      rw [if_neg (fun h_ => h12 h_.2), rLs_out (by rw [t12]; decide)]
      unfold tV lV
      rw [if_pos (show k ≤ 9999 by omega), if_pos t12]
theorem till_lasts {B : Nat} {σ : Rw} (hI : Inv B σ) (hB : B < 1000000) (h3 : σ 3 = 1) (h10 : σ 10 = 0) : vTill σ = vLasts σ := till_eq hB 10000 0 9999 σ σ (by omega) (by omega) hI h3 h10 (fun _ _ => rfl)
theorem aTill_e {B : Nat} {ρ : Rw} (hI : I2 B ρ) (hB : B < 1000000) {x : Int32} : aTill ρ x = aLasts ρ x := by
  unfold aTill aLasts
  by_cases g : ¬ x < 1 ∧ ¬ 99 < x
  · rw [if_pos g, if_pos g]
    by_cases g2 : ρ 3 = 0
    · rw [if_pos g2, if_pos g2]
    · rw [if_neg g2, if_neg g2]
      obtain ⟨q, hq1, hq, hx⟩ := in_nat1 (k := 99) rfl (by omega) g
      have hT : Inv B (upd (upd ρ 1 x) 10 0) := by
        rw [hx]
        exact cut0_I (step_I hI.1 hq1 hq)
      rw [till_lasts hT hB (hI.1.2.1.1.resolve_left g2) rfl]
  · rw [if_neg g, if_neg g]
