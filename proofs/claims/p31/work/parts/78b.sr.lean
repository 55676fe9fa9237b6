/-! ROWS THAT STAND FOR ANOTHER answer alike -/
/-! BOTH SIDES: what holds between calls: written by wip/whole/pure3.py -/
/-- σ stands for ρ, and ρ is sound -/
def Sr (B : Nat) (σ ρ : Rw) : Prop := Rq σ ρ ∧ I2 B ρ
theorem Sr.mono {B B' : Nat} {σ ρ : Rw} (h : Sr B σ ρ) (hB : B ≤ B') : Sr B' σ ρ := ⟨h.1, h.2.mono hB⟩
theorem Sr.cg {B : Nat} {σ σ' ρ ρ' : Rw} (h : Sr B σ ρ) (h1 : ∀ q, q < 114 → σ' q = σ q) (h2 : ∀ q, q < 114 → ρ' q = ρ q) : Sr B σ' ρ' := by
  have hc : cnt ρ' = cnt ρ := cnt_eq (h2 17 (by omega))
  have hI : I2 B ρ' := Rp.I2 (m := cnt ρ) (Rp.of fun q a _ => h2 q a) h.2.cnt.2 h.2.cnt.1 h.2
  refine ⟨Rq.cg ?_ hc, hI⟩
  exact ((Rp.of fun q a _ => h1 q a).tr h.1).tr (Rp.of fun q a _ => (h2 q a).symm)
theorem vO_eqv {M M' : Nat → Nat → Int32} {b : Nat} (h : ∀ o k, b ≤ o → o < b + 7 → M' o k = M o k) (q : Nat) : vO M' b q = vO M b q := by
  unfold vO
  have := ps_le' q
  exact h _ _ (by omega) (by omega)
section
variable {B : Nat} {σ ρ : Rw}
theorem Sr.lo (h : Sr B σ ρ) {q : Nat} (hq : q < 18) : σ q = ρ q := Rp.at h.1 (by omega) (by omega)
theorem Sr.n (h : Sr B σ ρ) : ∃ n, 3 ≤ n ∧ n ≤ 12 ∧ ρ 0 = nI n ∧ σ 0 = nI n ∧ (ρ 0).toNatClampNeg = n ∧ (σ 0).toNatClampNeg = n := by
  obtain ⟨n, cur, h3, h12, _, e0, _⟩ := h.2.1.1
  have e := h.lo (q := 0) (by omega)
  exact ⟨n, h3, h12, e0, e.trans e0, by rw [e0, ck (by omega)], by rw [e, e0, ck (by omega)]⟩
theorem Sr.m (h : Sr B σ ρ) : (σ 17).toNatClampNeg = (ρ 17).toNatClampNeg := by rw [h.lo (by omega)]
theorem eq_about (h : Sr B σ ρ) {x : Int32} : aAbout σ (σ 0).toNatClampNeg x = aAbout ρ (ρ 0).toNatClampNeg x := by
  obtain ⟨n, h3, h12, e0, e1, e2, e3⟩ := h.n
  rw [e2, e3]
  unfold aAbout
  by_cases g : ¬ x < 0 ∧ ¬ 14 < x
  · rw [if_pos g, if_pos g]
    obtain ⟨q, hq, hx⟩ := in_nat (k := 14) rfl (by omega) g
    subst hx
    rw [ck (by omega)]
    unfold vAbout
    have hg := Rp.gap h.1 h12
    unfold rGap at hg
    rw [h.lo (q := 3) (by omega), h.lo (q := q) (by omega), h.lo (q := 17) (by omega), hg]
  · rw [if_neg g, if_neg g]
theorem eq_cell (h : Sr B σ ρ) {x i z : Int32} : aCell σ (σ 0).toNatClampNeg x i z = aCell ρ (ρ 0).toNatClampNeg x i z := by
  obtain ⟨n, h3, h12, e0, e1, e2, e3⟩ := h.n
  rw [e2, e3]
  unfold aCell
  by_cases g : ¬ x < 0 ∧ ¬ nI n ≤ x
  · rw [if_pos g, if_pos g]
    obtain ⟨s, hs, hx⟩ := in_nat' (by omega) g
    subst hx
    by_cases g2 : ¬ i < 0 ∧ ¬ 2 < i
    · rw [if_pos g2, if_pos g2]
      obtain ⟨j, hj, hx⟩ := in_nat (k := 2) rfl (by omega) g2
      subst hx
      by_cases g3 : ¬ z < 0 ∧ ¬ 2 < z
      · rw [if_pos g3, if_pos g3]
        obtain ⟨k, hk, hx⟩ := in_nat (k := 2) rfl (by omega) g3
        subst hx
        rw [ck (show s < 2147483648 by omega), ck (show j < 2147483648 by omega), ck (show k < 2147483648 by omega), Rp.at h.1 (q := 43 + 2 * (3 * s + j)) (by omega) (by omega), h.lo (q := 2) (by omega)]
        by_cases g4 : (2 : Int32) ≤ nI k
        · rw [if_pos g4, if_pos g4]
        · rw [if_neg g4, if_neg g4]
          have : ¬ 2 ≤ k := fun h_ => g4 (by rw [o_2, nI_leI (by omega) (by omega)]; exact h_)
          rw [Rp.at h.1 (q := 42 + 2 * (3 * s + j) + k) (by omega) (by omega)]
      · rw [if_neg g3, if_neg g3]
    · rw [if_neg g2, if_neg g2]
  · rw [if_neg g, if_neg g]
theorem eq_says (h : Sr B σ ρ) {x : Int32} : aSays σ (σ 0).toNatClampNeg x = aSays ρ (ρ 0).toNatClampNeg x := by
  obtain ⟨n, h3, h12, e0, e1, e2, e3⟩ := h.n
  rw [e2, e3]
  unfold aSays
  by_cases g : ¬ x < 0 ∧ ¬ nI n ≤ x
  · rw [if_pos g, if_pos g]
    obtain ⟨s, hs, hx⟩ := in_nat' (by omega) g
    subst hx
    rw [ck (show s < 2147483648 by omega), Rp.says h.1 (by omega)]
  · rw [if_neg g, if_neg g]
theorem eq_why (h : Sr B σ ρ) {x : Int32} : aWhy σ (σ 0).toNatClampNeg x = aWhy ρ (ρ 0).toNatClampNeg x := by
  obtain ⟨n, h3, h12, e0, e1, e2, e3⟩ := h.n
  rw [e2, e3]
  unfold aWhy
  by_cases g : ¬ x < 0 ∧ ¬ nI n ≤ x
  · rw [if_pos g, if_pos g]
    obtain ⟨s, hs, hx⟩ := in_nat' (by omega) g
    subst hx
    rw [ck (show s < 2147483648 by omega), Rp.says h.1 (by omega), Rp.readable h.1 (by omega)]
  · rw [if_neg g, if_neg g]
theorem eq_share (h : Sr B σ ρ) {x : Int32} : aShare σ (σ 0).toNatClampNeg x = aShare ρ (ρ 0).toNatClampNeg x := by
  obtain ⟨n, h3, h12, e0, e1, e2, e3⟩ := h.n
  rw [e2, e3]
  unfold aShare
  by_cases g : ¬ x < 0 ∧ ¬ nI n ≤ x
  · rw [if_pos g, if_pos g]
    obtain ⟨s, hs, hx⟩ := in_nat' (by omega) g
    subst hx
    rw [ck (show s < 2147483648 by omega), Rp.all h.1 n h12, Rp.wear h.1 (by omega)]
  · rw [if_neg g, if_neg g]
theorem eq_serv (h : Sr B σ ρ) {x z : Int32} : aServ σ x z = aServ ρ x z := by
  have hc := h.2.cnt
  unfold aServ
  rw [h.lo (q := 17) (by omega)]
  by_cases g : x < 0
  · rw [if_pos g, if_pos g]
  · rw [if_neg g, if_neg g]
    by_cases g2 : x < ρ 17
    · obtain ⟨q, hq, hx⟩ := in_nat' (k := (ρ 17).toNatClampNeg) (by omega) ⟨g, Int32.not_le.mpr (by rw [← hc.1]; exact g2)⟩
      subst hx
      rw [ck (show q < 2147483648 by omega), Rp.at h.1 (q := 18 + 2 * q) (by omega) (by unfold cnt; omega), Rp.at h.1 (q := 19 + 2 * q) (by omega) (by unfold cnt; omega)]
    · rw [if_neg g2, if_neg g2]
theorem eq_last (h : Sr B σ ρ) {x : Int32} : aLast σ x = aLast ρ x := by
  unfold aLast
  by_cases g : ¬ x < 0 ∧ ¬ 3 < x
  · rw [if_pos g, if_pos g]
    obtain ⟨q, hq, hx⟩ := in_nat (k := 3) rfl (by omega) g
    subst hx
    rw [ck (show q < 2147483648 by omega), h.lo (by omega)]
  · rw [if_neg g, if_neg g]
theorem eq_fnd (h : Sr B σ ρ) {c : Int32} : rFnd σ c (σ 17).toNatClampNeg = rFnd ρ c (ρ 17).toNatClampNeg := by
  rw [h.m]
  exact Rp.fnd h.1 h.2.cnt.2 _ (Nat.le_refl _)
theorem eq_due (h : Sr B σ ρ) {x y z : Int32} : aDue σ (σ 17).toNatClampNeg x y z = aDue ρ (ρ 17).toNatClampNeg x y z := by
  have hc := h.2.cnt
  unfold aDue
  rw [eq_fnd h, h.lo (q := 3) (by omega), h.lo (q := 4) (by omega)]
  rcases rFnd_or ρ (10 * x + y) (ρ 17).toNatClampNeg with e | ⟨i, hi, e⟩
  · rw [e]
    rfl
  · rw [e, ck (by omega), Rp.at h.1 (q := 19 + 2 * i) (by omega) (by unfold cnt; omega)]
theorem eq_first (h : Sr B σ ρ) : aFirst σ (σ 17).toNatClampNeg = aFirst ρ (ρ 17).toNatClampNeg := by
  have hc := h.2.cnt
  unfold aFirst
  have hs : rSm σ (ρ 17).toNatClampNeg = rSm ρ (ρ 17).toNatClampNeg := Rp.sm h.1 hc.2 _ (Nat.le_refl _)
  rw [h.m, hs]
  rcases rSm_or ρ (ρ 17).toNatClampNeg with e | ⟨i, hi, e⟩
  · rw [if_pos e, if_pos e]
  · rw [e, ck (by omega), Rp.at h.1 (q := 18 + 2 * i) (by omega) (by unfold cnt; omega)]
theorem eq_found (h : Sr B σ ρ) {x y : Int32} : aFound σ x y = aFound ρ x y := by
  have h1 : Rp (cnt ρ) (upd (upd σ 10 x) 11 y) (upd (upd ρ 10 x) 11 y) := (Rp.set (Rp.set h.1 (by omega)) (by omega))
  have hok : Rok (upd (upd ρ 10 x) 11 y) := h.2.1.1
  have h2 := h1.store hok
  unfold aFound
  rw [h2.at (q := 3) (by omega) (by omega), h.lo (q := 4) (by omega), (h2.power (rStore_ok hok)).at (q := 4) (by omega) (by omega)]
theorem eq_after (h : Sr B σ ρ) {x y : Int32} : aAfter σ x y = aAfter ρ x y := by
  unfold aAfter
  rw [eq_found h, h.lo (q := 3) (by omega), h.lo (q := 12) (by omega)]
theorem eq_wl (h : Sr B σ ρ) : ∀ k, rWl σ k = rWl ρ k
  | 0 => h.lo (by omega)
  | k + 1 => by rw [rWl, rWl, eq_wl h k, eq_found h]
theorem eq_worst (h : Sr B σ ρ) : aWorst σ = aWorst ρ := by
  unfold aWorst
  rw [eq_wl h, h.lo (q := 3) (by omega), h.lo (q := 12) (by omega), h.lo (q := 4) (by omega)]
theorem eq_lasts (h : Sr B σ ρ) (hB : B < 1000000) {x : Int32} : aTill σ x = aLasts ρ x := by
  rw [aTill_e (h.1.I2 h.2) hB]
  unfold aLasts
  rw [h.lo (q := 3) (by omega), vLasts_rp (Rp.set (Rp.set h.1 (k := 1) (x := x) (by omega)) (k := 10) (x := 0) (by omega)) h.2.1.1]
theorem eq_script (h : Sr B σ ρ) (hB : B < 1000000) {x : Int32} {told : Int64} : aScript σ x told = aScript ρ x told := by
  unfold aScript
  by_cases g : ¬ x < 1 ∧ ¬ 4 < x
  · rw [if_pos g, if_pos g]
    obtain ⟨q, hq1, hq, hx⟩ := in_nat1 (k := 4) rfl (by omega) g
    subst hx
    rw [ck (show q < 2147483648 by omega), sRun_rq q 0 h.1 h.2 (by omega)]
  · rw [if_neg g, if_neg g]
theorem eq_sim (h : Sr B σ ρ) (hB : B < 1000000) {x : Int64} {z : Int32} : aSim σ x z = aSim ρ x z := by
  unfold aSim
  by_cases g : ¬ z < 1 ∧ ¬ 99 < z
  · rw [if_pos g, if_pos g]
    obtain ⟨q, hq1, hq, hx⟩ := in_nat1 (k := 99) rfl (by omega) g
    subst hx
    rw [ck (show q < 2147483648 by omega), vSim_rp h.1 h.2 (show B + 50 * q < 1073741824 by omega)]
  · rw [if_neg g, if_neg g]
theorem eq_drive (h : Sr B σ ρ) {x : Int32} : aDrive σ x = aDrive ρ x := by
  unfold aDrive
  rw [h.lo (q := 3) (by omega), Rp.gone h.1 h.2.1.1]
theorem eq_cut (h : Sr B σ ρ) {x y : Int32} : aCut σ x y = aCut ρ x y := by
  unfold aCut
  rw [h.lo (q := 3) (by omega), h.lo (q := 10) (by omega)]
theorem eq_start (h : Sr B σ ρ) : aStart σ = aStart ρ := by
  unfold aStart
  rw [h.lo (q := 3) (by omega), Rp.at (Rp.power h.1 h.2.1.1) (q := 4) (by omega) (by omega)]
theorem eq_service (h : Sr B σ ρ) {x y : Int32} : aService σ (σ 17).toNatClampNeg x y = aService ρ (ρ 17).toNatClampNeg x y := by
  have hv : ∀ c, rServed σ c (ρ 17).toNatClampNeg = rServed ρ c (ρ 17).toNatClampNeg := fun c => Rp.served h.1 h.2.cnt.2
  unfold aService
  rw [eq_fnd h, h.lo (q := 3) (by omega), h.m, hv, h.lo (q := 17) (by omega)]
theorem eq_forget (h : Sr B σ ρ) {x y : Int32} : aForget σ (σ 17).toNatClampNeg x y = aForget ρ (ρ 17).toNatClampNeg x y := by
  have hc := h.2.cnt
  unfold aForget
  rw [eq_fnd h]
  rcases rFnd_or ρ (10 * x + y) (ρ 17).toNatClampNeg with e | ⟨i, hi, e⟩
  · rw [e]
    rfl
  · rw [e, ck (by omega), Rp.at h.1 (q := 19 + 2 * i) (by omega) (by unfold cnt; omega)]
theorem eq_step (h : Sr B σ ρ) {x : Int32} : aStep σ x = aStep ρ x := by
  unfold aStep
  rw [h.lo (q := 1) (by omega)]
theorem eq_repl (h : Sr B σ ρ) {x : Int32} : aRepl σ (σ 0).toNatClampNeg x = aRepl ρ (ρ 0).toNatClampNeg x := by
  obtain ⟨n, h3, h12, e0, e1, e2, e3⟩ := h.n
  rw [e2, e3]
  unfold aRepl
  by_cases g : ¬ x < 0 ∧ ¬ nI n ≤ x
  · rw [if_pos g, if_pos g]
    obtain ⟨s, hs, hx⟩ := in_nat' (by omega) g
    subst hx
    rw [ck (show s < 2147483648 by omega), Rp.wear h.1 (by omega), h.lo (q := 3) (by omega), h.lo (q := 7) (by omega)]
  · rw [if_neg g, if_neg g]
theorem eq_save (h : Sr B σ ρ) {x : Int32} : aSave σ x = aSave ρ x := by
  unfold aSave
  rw [h.lo (q := 5) (by omega)]
-- the rows behind the deeds
theorem sr_drive (h : Sr B σ ρ) {t : Nat} (ht : t ≤ 999) (hB : B < 1000000) : Sr (B + 1000) (rGo t σ) (rGo t ρ) := ⟨Rq.cg (Rp.go h.1 h.2.1.1 t) (cnt_eq (rGo_17 _)), (rGo_I2 h.2 (by omega)).mono (by omega)⟩
theorem sr_cut (h : Sr B σ ρ) {q : Nat} {y : Int32} (h1 : 1 ≤ q) (hq : q ≤ 36) (hy : y = 0 ∨ y = 1 ∨ y = 2) : Sr (B + 1000) (upd (upd σ 10 (nI q)) 11 y) (upd (upd ρ 10 (nI q)) 11 y) := ⟨Rp.set (Rp.set h.1 (by omega)) (by omega), (setCut_I2 h.2 h1 hq hy).mono (by omega)⟩
theorem sr_start (h : Sr B σ ρ) : Sr (B + 1000) (rPower σ) (rPower ρ) := ⟨Rq.cg (Rp.power h.1 h.2.1.1) (cnt_eq rfl), (rPower_I2 h.2).mono (by omega)⟩
theorem sr_service (h : Sr B σ ρ) {c : Int32} (hr : ρ 17 < 12 ∨ ¬ rFnd ρ c (ρ 17).toNatClampNeg = -99999) : Sr (B + 1000) (rServe σ c (σ 17).toNatClampNeg) (rServe ρ c (ρ 17).toNatClampNeg) := by
  have hc := h.2.cnt
  have hr' : (ρ 17).toNatClampNeg < 12 ∨ ¬ rFnd ρ c (ρ 17).toNatClampNeg = -99999 := hr.imp (fun h_ => by rw [hc.1, o_12, nI_ltI (by omega) (by omega)] at h_; exact h_) (fun h_ => h_)
  rw [h.m]
  refine ⟨Rq.cg (Rp.serve h.1 hc.2 hr') ?_, (rServe_I2 h.2 hc.1 hc.2 hr').mono (by omega)⟩
  unfold cnt
  rw [rServe_17 hc.2, ck (by unfold sCnt; split <;> omega)]
theorem sr_forget (h : Sr B σ ρ) {i : Nat} (hi : i < (ρ 17).toNatClampNeg) : Sr (B + 1000) (rDrop σ i (σ 17).toNatClampNeg) (rDrop ρ i (ρ 17).toNatClampNeg) := by
  have hc := h.2.cnt
  rw [h.m]
  refine ⟨Rq.cg (Rp.drop h.1 hc.2 hi) ?_, (rDrop_I2 h.2 hc.1 hc.2 hi).mono (by omega)⟩
  unfold cnt
  rw [rDrop_17, ck (by omega)]
theorem sr_step (h : Sr B σ ρ) {q : Nat} (h1 : 1 ≤ q) (hq : q ≤ 99) : Sr (B + 1000) (upd σ 1 (nI q)) (upd ρ 1 (nI q)) := ⟨Rp.set h.1 (by omega), (step_I2 h.2 h1 hq).mono (by omega)⟩
theorem sr_repl (h : Sr B σ ρ) {s : Nat} (hs : s < 12) : Sr (B + 1000) (rRenew σ s) (rRenew ρ s) := ⟨Rq.cg (Rp.renew h.1 hs) (cnt_eq rRenew_17), (rRenew_I2 h.2).mono (by omega)⟩
end
/-! THE LAW: its helpers: written by wip/whole/pure3.py -/
theorem aft_x {hn : Nat → String → Option Nat} {nx pc : Nat} {ls : List (Nat × Value)} {r : List Value} {w : Wd} {nc ns : Nat} {X : Fr → Prop} {E : String} {w' : Wd} {h : Nat} (e : hn pc E = some h) (h1 : w'.1.1 = w.1.1) (h2 : ∀ q ∈ ls, q.2 ≠ .ref 1000000) (hX : X (h, ls, [.ref 1000000], w', nc, ns)) : aftC hn nx pc ls r w nc ns X (.inr E) w' := by
  unfold aftC
  refine ⟨Or.inl h1, ?_⟩
  dsimp only
  rw [e]
  exact ⟨h2, hX⟩
theorem rs_t {E : Nat → Nat} {a : Nat × Int32} {c : Nat} (hc : a.1 = c) (h : c ≠ 0) : cRs E a = .inr (excN (E c)) := by
  unfold cRs
  rw [if_neg (by rw [hc]; exact h), hc]
theorem rs_0 {E : Nat → Nat} {a : Nat × Int32} (hc : a.1 = 0) : cRs E a = .inl (some (.int a.2)) := by
  unfold cRs
  rw [if_pos hc]
theorem cod_append {n : Nat} {x : Int32} : (aApp n x).1 = 1 ∨ (aApp n x).1 = 2 ∨ (aApp n x).1 = 0 := by
  unfold aApp
  (repeat' split) <;> first | exact Or.inl rfl | exact Or.inr (Or.inl rfl) | exact Or.inr (Or.inr rfl)
theorem cod_about {ρ : Rw} {n : Nat} {x : Int32} : (aAbout ρ n x).1 = 1 ∨ (aAbout ρ n x).1 = 0 := by
  unfold aAbout
  (repeat' split) <;> first | exact Or.inl rfl | exact Or.inr rfl
theorem cod_cell {ρ : Rw} {n : Nat} {x i z : Int32} : (aCell ρ n x i z).1 = 1 ∨ (aCell ρ n x i z).1 = 2 ∨ (aCell ρ n x i z).1 = 0 := by
  unfold aCell
  (repeat' split) <;> first | exact Or.inl rfl | exact Or.inr (Or.inl rfl) | exact Or.inr (Or.inr rfl)
theorem cod_says {ρ : Rw} {n : Nat} {x : Int32} : (aSays ρ n x).1 = 1 ∨ (aSays ρ n x).1 = 0 := by
  unfold aSays
  (repeat' split) <;> first | exact Or.inl rfl | exact Or.inr rfl
theorem cod_why {ρ : Rw} {n : Nat} {x : Int32} : (aWhy ρ n x).1 = 1 ∨ (aWhy ρ n x).1 = 0 := by
  unfold aWhy
  (repeat' split) <;> first | exact Or.inl rfl | exact Or.inr rfl
theorem cod_share {ρ : Rw} {n : Nat} {x : Int32} : (aShare ρ n x).1 = 1 ∨ (aShare ρ n x).1 = 0 := by
  unfold aShare
  (repeat' split) <;> first | exact Or.inl rfl | exact Or.inr rfl
theorem cod_serviceAt {ρ : Rw} {x z : Int32} : (aServ ρ x z).1 = 1 ∨ (aServ ρ x z).1 = 0 := by
  unfold aServ
  (repeat' split) <;> first | exact Or.inl rfl | exact Or.inr rfl
theorem cod_lastCut {ρ : Rw} {x : Int32} : (aLast ρ x).1 = 1 ∨ (aLast ρ x).1 = 0 := by
  unfold aLast
  (repeat' split) <;> first | exact Or.inl rfl | exact Or.inr rfl
theorem cod_drive {ρ : Rw} {x : Int32} : (aDrive ρ x).1 = 1 ∨ (aDrive ρ x).1 = 2 ∨ (aDrive ρ x).1 = 0 := by
  unfold aDrive
  (repeat' split) <;> first | exact Or.inl rfl | exact Or.inr (Or.inl rfl) | exact Or.inr (Or.inr rfl)
theorem cod_cut {ρ : Rw} {x y : Int32} : (aCut ρ x y).1 = 1 ∨ (aCut ρ x y).1 = 2 ∨ (aCut ρ x y).1 = 0 := by
  unfold aCut
  (repeat' split) <;> first | exact Or.inl rfl | exact Or.inr (Or.inl rfl) | exact Or.inr (Or.inr rfl)
theorem cod_start {ρ : Rw}  : (aStart ρ).1 = 1 ∨ (aStart ρ).1 = 0 := by
  unfold aStart
  (repeat' split) <;> first | exact Or.inl rfl | exact Or.inr rfl
theorem cod_service {ρ : Rw} {m : Nat} {x y : Int32} : (aService ρ m x y).1 = 1 ∨ (aService ρ m x y).1 = 2 ∨ (aService ρ m x y).1 = 0 := by
  unfold aService
  (repeat' split) <;> first | exact Or.inl rfl | exact Or.inr (Or.inl rfl) | exact Or.inr (Or.inr rfl)
theorem cod_forget {ρ : Rw} {m : Nat} {x y : Int32} : (aForget ρ m x y).1 = 1 ∨ (aForget ρ m x y).1 = 2 ∨ (aForget ρ m x y).1 = 0 := by
  unfold aForget
  (repeat' split) <;> first | exact Or.inl rfl | exact Or.inr (Or.inl rfl) | exact Or.inr (Or.inr rfl)
theorem cod_setStep {ρ : Rw} {x : Int32} : (aStep ρ x).1 = 1 ∨ (aStep ρ x).1 = 0 := by
  unfold aStep
  (repeat' split) <;> first | exact Or.inl rfl | exact Or.inr rfl
theorem cod_replace {ρ : Rw} {n : Nat} {x : Int32} : (aRepl ρ n x).1 = 1 ∨ (aRepl ρ n x).1 = 2 ∨ (aRepl ρ n x).1 = 0 := by
  unfold aRepl
  (repeat' split) <;> first | exact Or.inl rfl | exact Or.inr (Or.inl rfl) | exact Or.inr (Or.inr rfl)
theorem cod_undo {a : Nat} : (aUndo a).1 = 1 ∨ (aUndo a).1 = 0 := by
  unfold aUndo
  (repeat' split) <;> first | exact Or.inl rfl | exact Or.inr rfl
theorem cod_after {ρ : Rw} {x y : Int32} : (aAfter ρ x y).1 = 1 ∨ (aAfter ρ x y).1 = 2 ∨ (aAfter ρ x y).1 = 0 := by
  unfold aAfter
  (repeat' split) <;> first | exact Or.inl rfl | exact Or.inr (Or.inl rfl) | exact Or.inr (Or.inr rfl)
theorem cod_worst {ρ : Rw}  : (aWorst ρ).1 = 1 ∨ (aWorst ρ).1 = 0 := by
  unfold aWorst
  (repeat' split) <;> first | exact Or.inl rfl | exact Or.inr rfl
theorem cod_lasts {ρ : Rw} {x : Int32} : (aTill ρ x).1 = 1 ∨ (aTill ρ x).1 = 2 ∨ (aTill ρ x).1 = 0 := by
  unfold aTill
  (repeat' split) <;> first | exact Or.inl rfl | exact Or.inr (Or.inl rfl) | exact Or.inr (Or.inr rfl)
theorem cod_dueIn {ρ : Rw} {m : Nat} {x y z : Int32} : (aDue ρ m x y z).1 = 1 ∨ (aDue ρ m x y z).1 = 2 ∨ (aDue ρ m x y z).1 = 0 := by
  unfold aDue
  (repeat' split) <;> first | exact Or.inl rfl | exact Or.inr (Or.inl rfl) | exact Or.inr (Or.inr rfl)
theorem cod_script {ρ : Rw} {x : Int32} {told : Int64} : (aScript ρ x told).1 = 1 ∨ (aScript ρ x told).1 = 0 := by
  unfold aScript
  (repeat' split) <;> first | exact Or.inl rfl | exact Or.inr rfl
theorem cod_sim {ρ : Rw} {x : Int64} {z : Int32} : (aSim ρ x z).1 = 1 ∨ (aSim ρ x z).1 = 0 := by
  unfold aSim
  (repeat' split) <;> first | exact Or.inl rfl | exact Or.inr rfl
theorem cod_save {ρ : Rw} {x : Int32} : (aSave ρ x).1 = 1 ∨ (aSave ρ x).1 = 0 := by
  unfold aSave
  (repeat' split) <;> first | exact Or.inl rfl | exact Or.inr rfl
theorem cod_restore {κ β : Rw} {x : Int32} : (aRest κ β x).1 = 1 ∨ (aRest κ β x).1 = 2 ∨ (aRest κ β x).1 = 0 := by
  unfold aRest
  (repeat' split) <;> first | exact Or.inl rfl | exact Or.inr (Or.inl rfl) | exact Or.inr (Or.inr rfl)
