/-! THE CLASS: till it is dead; a new state: written by wip/whole/pure3.py -/
theorem rWr_nc {ρ : Rw} {s i : Nat} {v t : Int32} (h : ρ 10 = 0) : rWr ρ s i v t 10 = 0 ∧ rWr ρ s i v t 3 = ρ 3 := by
  have hc : ¬ ρ 10 = 1 := by rw [h]; decide
  unfold rWr
  rw [if_neg hc, rPut_ot (by omega), rPut_ot (by omega)]
  refine ⟨?_, rfl⟩
  have e2 : rCut ρ 10 = ρ 10 - (if ρ 10 ≤ 0 then 0 else 1) := rfl
  rw [e2, h]
  decide
theorem rW3_nc {ρ : Rw} {s : Nat} {t : Int32} (h : ρ 10 = 0) : (rW3 ρ s t).2 = true ∧ (rW3 ρ s t).1 10 = 0 ∧ (rW3 ρ s t).1 3 = ρ 3 := by
  have d : ¬ (0 : Int32) = 1 := by decide
  have a1 := rWr_nc (s := s) (i := 0) (v := ρ 4) (t := t) h
  unfold rW3
  rw [if_neg (by rw [h]; exact d)]
  generalize rWr ρ s 0 (ρ 4) t = ρ1 at *
  have a2 := rWr_nc (s := s) (i := 1) (v := ρ1 4) (t := t) a1.1
  rw [if_neg (by rw [a1.1]; exact d)]
  generalize rWr ρ1 s 1 (ρ1 4) t = ρ2 at *
  have a3 := rWr_nc (s := s) (i := 2) (v := ρ2 4) (t := t) a2.1
  rw [if_neg (by rw [a2.1]; exact d)]
  exact ⟨rfl, a3.1, a3.2.trans (a2.2.trans a1.2)⟩
theorem rSt_nc {n cur : Nat} : ∀ (f vain : Nat) (ρ : Rw), ρ 10 = 0 → rSt n cur f vain ρ 10 = 0 ∧ rSt n cur f vain ρ 3 = ρ 3
  | 0, vain, ρ, h => ⟨h, rfl⟩
  | f + 1, vain, ρ, h => by
    have a := rW3_nc (s := (cur + 1 + vain) % n) (t := nI vain) h
    rw [rSt]
    generalize rW3 ρ ((cur + 1 + vain) % n) (nI vain) = R at *
    rw [if_neg (by rw [a.1]; decide)]
    split
    · exact ⟨a.2.1, a.2.2⟩
    · have := rSt_nc (n := n) (cur := cur) f (vain + 1) R.1 a.2.1
      exact ⟨this.1, this.2.trans a.2.2⟩
theorem rStore_nc {ρ : Rw} (h : ρ 10 = 0) : rStore ρ 10 = 0 ∧ rStore ρ 3 = ρ 3 := rSt_nc _ _ _ h
/-- from one storing to the next -/
def cNext (σ : Rw) : Nat := max 1 ((σ 6).toNatClampNeg + (σ 1).toNatClampNeg - (σ 4).toNatClampNeg)
def cJump (σ : Rw) : Rw := upd σ 4 (σ 4 + nI (cNext σ))
def cTl : Nat → Nat → Rw → Nat × Rw
  | 0, k, σ => (k, σ)
  | f + 1, k, σ => if k ≤ 9999 ∧ σ 12 = 0 then cTl f (k + cNext σ) (rStore (cJump σ)) else (k, σ)
theorem i_next {a c : Nat} (ha : a < 1073741824) (hc : c < 1073741824) : (if 1 < nI a - nI c then nI a - nI c else 1) = nI (max 1 (a - c)) := by
  rcases Nat.lt_or_ge a c with h | h
  · have hn := pk_sneg hc h
    rw [if_neg (fun h1 => Int32.lt_irrefl (Int32.lt_trans hn (Int32.lt_trans (show (0 : Int32) < 1 by decide) h1))), show a - c = 0 by omega]
    rfl
  · rw [pk_sub h, o_1]
    by_cases g : 1 < a - c
    · rw [if_pos ((nI_ltI (by omega) (by omega)).mpr g), show max 1 (a - c) = a - c by omega]
    · rw [if_neg (fun h2 => g ((nI_ltI (by omega) (by omega)).mp h2)), show max 1 (a - c) = 1 by omega]
theorem cJump_I {B k : Nat} {σ : Rw} (h : Inv (B + k) σ) (hk : k ≤ 9999) (hB : B < 100000000) : Inv (B + (k + cNext σ)) (cJump σ) ∧ cNext σ ≤ B + 20000 ∧ 1 ≤ cNext σ := by
  obtain ⟨a, b, c, e, ⟨m, hm, h4⟩, ⟨m6, hm6, h6⟩, ⟨m1, h11, hm1, h1⟩, i⟩ := h.mono (show B + k ≤ B + (k + cNext σ) by omega)
  obtain ⟨_, _, _, _, ⟨x, hx, h4'⟩, ⟨x6, hx6, h6'⟩, _⟩ := h
  have hn : cNext σ ≤ B + 20000 := by
    unfold cNext
    rw [h6', h1, ck (by omega), ck (by omega)]
    omega
  have hn1 : 1 ≤ cNext σ := by
    unfold cNext
    omega
  refine ⟨⟨a, b, c, e.o (by omega) (by omega), ⟨x + cNext σ, by omega, ?_⟩, ⟨m6, hm6, h6⟩, ⟨m1, h11, hm1, h1⟩, i.cg (fun q h1 h2 => ?_)⟩, hn, hn1⟩
  · show σ 4 + nI (cNext σ) = _
    rw [h4', nI_add]
  · unfold cJump
    rw [pk_un (by omega)]
set_option maxHeartbeats 2000000 in
theorem L_till {d : Nat} {Q : Res → Wd → Prop} {S : Sc} {M : Nat → Nat → Int32} {J : Nat → Nat → Int64} {b B : Nat} (hS : OdS S b) (hB : B < 100000000) : ∀ (f k : Nat) (σ : Rw), 9999 < k + f → k < 500000000 → (k ≤ 9999 → Inv (B + k) σ ∧ σ 3 = 1 ∧ σ 10 = 0) → Bok σ → Q (.inl (some (.int (if (cTl f k σ).1 ≤ 9999 then nI (cTl f k σ).1 else -99999)))) (S, sO M b (cTl f k σ).2, J) → EE (SJ (d + 5) 25 (Wp (d + 4)) Q) (2, [(0, .ref b), (1, .int (nI k))], [], (S, sO M b σ, J), 0, 0) := by
  intro f
  obtain ⟨⟨k0, k1, k2, k3, k4, k5, k6⟩, ⟨r0, r1, r12, r13, r41, r42⟩, l2, l3, l5, l6⟩ := id hS
  induction f with
  | zero =>
    intro k σ hk hk2 hI hBk hQ
    have hQ1 : ¬ (cTl 0 k σ).1 ≤ 9999 := by show ¬ k ≤ 9999; omega
    rw [if_neg hQ1] at hQ
    refine EE.runN (stop := atPc [2]) 80 _ ?_
    refine ⟨fun h1 => ?_, fun h1 => ?_⟩
    · refine ⟨fun h2 => ?_, fun h2 => ?_⟩
      · refine ⟨⟨Nat.zero_le _, Nat.zero_le _⟩, ?_⟩
        exact hQ
      · exact absurd (nI_lt (a := 9999) (b := k) (by omega) (by omega)) h2
    · exact absurd (nI_lt (a := 9999) (b := k) (by omega) (by omega)) h1
  | succ f ih =>
    intro k σ hk hk2 hI hBk hQ
    refine EE.runN (stop := atPc [2]) 100 _ ?_
    refine ⟨fun h1 => ?_, fun h1 => ?_⟩
    · refine ⟨fun h2 => ?_, fun h2 => ?_⟩
      · have g : ¬ k ≤ 9999 := by have := (nI_ltI (a := 9999) (b := k) (by omega) (by omega)).mp h1; omega
        rw [show cTl (f + 1) k σ = (k, σ) by rw [cTl, if_neg (fun h => g h.1)], if_neg g] at hQ
        refine ⟨⟨Nat.zero_le _, Nat.zero_le _⟩, ?_⟩
        exact hQ
      · first | exact absurd h2 h1 | exact absurd h1 h2
    · refine ⟨by simp only [wI_1, r0, r1, r12, r13, r41, r42, k0, k1, k2, k3, k4, k5, k6] <;> first | rfl | decide, ?_⟩
      refine ⟨fun h3 => ?_, fun h3 => ?_⟩
      · refine ⟨fun h4 => ?_, fun h4 => ?_⟩
        · first | exact absurd h4 h1 | exact absurd h1 h4
        · have g : k ≤ 9999 := Nat.le_of_not_lt (fun h => h1 ((nI_ltI (a := 9999) (b := k) (by omega) (by omega)).mpr h))
          simp only [wI_M, tk_0, tk_1, tk_2, tk_3, tk_4, tk_5, tk_6, tk_7, tk_8, tk_9, tk_10, tk_11, tk_12, tk_13, tk_14, tk_15, tk_16, tk_17, rd0_2, wr0_2, rd0_3, wr0_3, rd0_4, wr0_4, rd0_5, wr0_5, rd0_6, wr0_6, rd0_7, wr0_7, rd0_8, wr0_8, rd0_9, wr0_9, rd0_10, wr0_10, rd0_11, wr0_11, rd0_12, wr0_12, rd0_13, wr0_13, rd0_14, wr0_14, rd0_15, wr0_15, rd0_16, wr0_16, rd1_0, wr1_0, rd1_1, wr1_1, rd4_0, wr4_0, wI_1, r0, r1, r12, r13, r41, r42, wI_w] at h3
          rw [show cTl (f + 1) k σ = (k, σ) by rw [cTl, if_neg (fun h => h3 h.2)], if_pos g] at hQ
          refine ⟨⟨Nat.zero_le _, Nat.zero_le _⟩, ?_⟩
          exact hQ
      · have g : k ≤ 9999 := Nat.le_of_not_lt (fun h => h1 ((nI_ltI (a := 9999) (b := k) (by omega) (by omega)).mpr h))
        have hD := h3
        simp only [wI_M, tk_0, tk_1, tk_2, tk_3, tk_4, tk_5, tk_6, tk_7, tk_8, tk_9, tk_10, tk_11, tk_12, tk_13, tk_14, tk_15, tk_16, tk_17, rd0_2, wr0_2, rd0_3, wr0_3, rd0_4, wr0_4, rd0_5, wr0_5, rd0_6, wr0_6, rd0_7, wr0_7, rd0_8, wr0_8, rd0_9, wr0_9, rd0_10, wr0_10, rd0_11, wr0_11, rd0_12, wr0_12, rd0_13, wr0_13, rd0_14, wr0_14, rd0_15, wr0_15, rd0_16, wr0_16, rd1_0, wr1_0, rd1_1, wr1_1, rd4_0, wr4_0, wI_1, r0, r1, r12, r13, r41, r42, wI_w] at hD
        obtain ⟨hI1, hI3, hI10⟩ := hI g
        have hJ := cJump_I hI1 g hB
        obtain ⟨_, _, _, _, ⟨x4, hx4, e4⟩, ⟨x6, hx6, e6⟩, ⟨x1, _, hx1, e1⟩, _⟩ := id hI1
        have en : cNext σ = max 1 (x6 + x1 - x4) := by unfold cNext; rw [e6, e1, e4, ck (by omega), ck (by omega), ck (by omega)]
        have ex : (if 1 < σ 6 + σ 1 - σ 4 then σ 6 + σ 1 - σ 4 else 1) = nI (cNext σ) := by rw [e6, e1, e4, nI_add, i_next (by omega) (by omega), en]
        rw [show cTl (f + 1) k σ = cTl f (k + cNext σ) (rStore (cJump σ)) by rw [cTl, if_pos ⟨g, hD⟩]] at hQ
        refine ⟨by simp only [wI_1, r0, r1, r12, r13, r41, r42, k0, k1, k2, k3, k4, k5, k6] <;> first | rfl | decide, ?_⟩
        refine ⟨by simp only [wI_1, r0, r1, r12, r13, r41, r42, k0, k1, k2, k3, k4, k5, k6] <;> first | rfl | decide, ?_⟩
        refine ⟨by simp only [wI_1, r0, r1, r12, r13, r41, r42, k0, k1, k2, k3, k4, k5, k6] <;> first | rfl | decide, ?_⟩
        refine ⟨⟨Nat.le_of_ble_eq_true rfl, Nat.zero_le _, Nat.zero_le _⟩, ?_⟩
        refine ⟨by simp only [wI_1, r0, r1, r12, r13, r41, r42, k0, k1, k2, k3, k4, k5, k6] <;> first | rfl | decide, ?_⟩
        refine ⟨by simp only [wI_1, r0, r1, r12, r13, r41, r42, k0, k1, k2, k3, k4, k5, k6] <;> first | rfl | decide, trivial, ?_⟩
        refine ⟨⟨Nat.le_of_ble_eq_true rfl, Nat.le_of_ble_eq_true rfl, Nat.le_of_ble_eq_true rfl⟩, by simp only [wI_1, r0, r1, r12, r13, r41, r42, k0, k1, k2, k3, k4, k5, k6] <;> first | rfl | decide, _, by simp only [wI_M, tk_0, tk_1, tk_2, tk_3, tk_4, tk_5, tk_6, tk_7, tk_8, tk_9, tk_10, tk_11, tk_12, tk_13, tk_14, tk_15, tk_16, tk_17, rd0_2, wr0_2, rd0_3, wr0_3, rd0_4, wr0_4, rd0_5, wr0_5, rd0_6, wr0_6, rd0_7, wr0_7, rd0_8, wr0_8, rd0_9, wr0_9, rd0_10, wr0_10, rd0_11, wr0_11, rd0_12, wr0_12, rd0_13, wr0_13, rd0_14, wr0_14, rd0_15, wr0_15, rd0_16, wr0_16, rd1_0, wr1_0, rd1_1, wr1_1, rd4_0, wr4_0, wI_1, r0, r1, r12, r13, r41, r42, wI_w]; rw [ex]; exact T_cStore (σ := cJump σ) hS hJ.1.1 hI3 hD hJ.1.2.2.1, ?_⟩
        rintro _ _ ⟨rfl, rfl⟩
        refine ⟨Or.inl rfl, ?_⟩
        have hnc := rStore_nc (ρ := cJump σ) hI10
        have hI2 := rStore_I hJ.1 (by omega) hI3 hD
        refine ee_at (nt := nzT 25) [(0, .ref b), (1, .int (nI (k + cNext σ)))] (S, sO M b (rStore (cJump σ)), J) rfl (by rw [← nI_add, ← ex]; simp only [wI_M, tk_0, tk_1, tk_2, tk_3, tk_4, tk_5, tk_6, tk_7, tk_8, tk_9, tk_10, tk_11, tk_12, tk_13, tk_14, tk_15, tk_16, tk_17, rd0_2, wr0_2, rd0_3, wr0_3, rd0_4, wr0_4, rd0_5, wr0_5, rd0_6, wr0_6, rd0_7, wr0_7, rd0_8, wr0_8, rd0_9, wr0_9, rd0_10, wr0_10, rd0_11, wr0_11, rd0_12, wr0_12, rd0_13, wr0_13, rd0_14, wr0_14, rd0_15, wr0_15, rd0_16, wr0_16, rd1_0, wr1_0, rd1_1, wr1_1, rd4_0, wr4_0, wI_1, r0, r1, r12, r13, r41, r42, wI_w]; rfl) rfl (ih (k + cNext σ) (rStore (cJump σ)) (by omega) (by omega) (fun _ => ⟨hI2, hnc.2.trans hI3, hnc.1⟩) hI2.2.1 hQ)
theorem T_till {d : Nat} {S : Sc} {M : Nat → Nat → Int32} {J : Nat → Nat → Int64} {b : Nat} {σ : Rw} (hS : OdS S b) {B : Nat} (hI : Inv B σ) (hB : B < 100000000) (h3 : σ 3 = 1) (h10 : σ 10 = 0) : Wp (d + 5) 25 [.ref b] (S, sO M b σ, J) (fun rs w' => rs = .inl (some (.int (if (cTl 10000 0 σ).1 ≤ 9999 then nI (cTl 10000 0 σ).1 else -99999))) ∧ w' = (S, sO M b ((cTl 10000 0 σ).2), J)) := by
  refine ⟨rfl, ?_⟩
  refine EE.runN (stop := atPc [2]) 2 _ ?_
  refine ee_at (nt := nzT 25) [(0, .ref b), (1, .int (nI 0))] (S, sO M b σ, J) rfl rfl rfl ?_
  exact L_till hS hB 10000 0 σ (by omega) (by omega) (fun _ => ⟨hI, h3, h10⟩) hI.2.1 ⟨rfl, rfl⟩
theorem rRn_z {ρ : Rw} {s q : Nat} : ∀ k, rRn ρ s k q = if 42 + 6 * s ≤ q ∧ q < 42 + 6 * s + 2 * k then 0 else ρ q
  | 0 => by rw [rRn, if_neg (by omega)]
  | k + 1 => by
    rw [rRn]
    by_cases e : q = 43 + 2 * (3 * s + k)
    · subst e
      rw [pk_us, if_pos (by omega)]
    · rw [pk_un e]
      by_cases e2 : q = 42 + 2 * (3 * s + k)
      · subst e2
        rw [pk_us, if_pos (by omega)]
      · rw [pk_un e2, rRn_z k]
        by_cases h : 42 + 6 * s ≤ q ∧ q < 42 + 6 * s + 2 * k
        · rw [if_pos h, if_pos (by omega)]
        · rw [if_neg h, if_neg (by omega)]
theorem rRenAll_z {ρ : Rw} {q : Nat} : ∀ k, rRenAll ρ k q = if 42 ≤ q ∧ q < 42 + 6 * k then 0 else ρ q
  | 0 => by rw [rRenAll, if_neg (by omega)]
  | k + 1 => by
    rw [rRenAll, rRenew, rRn_z, rRenAll_z k]
    by_cases h : 42 + 6 * k ≤ q ∧ q < 42 + 6 * k + 2 * 3
    · rw [if_pos h, if_pos (by omega)]
    · rw [if_neg h]
      by_cases h2 : 42 ≤ q ∧ q < 42 + 6 * k
      · rw [if_pos h2, if_pos (by omega)]
      · rw [if_neg h2, if_neg (by omega)]
theorem rClean_at {ρ : Rw} {a st l : Int32} {q : Nat} (h : q < 114) : rClean ρ a st l q = if q = 0 then a else if q = 1 then st else if q = 2 then l else if q = 3 then 1 else if q = 11 ∨ (13 ≤ q ∧ q < 17) then -99999 else 0 := by
  have e : rClean ρ a st l = upd (upd (upd (upd (rHead ρ a st l) 13 (-99999)) 14 (-99999)) 15 (-99999)) 16 (-99999) := rfl
  rw [e]
  unfold rHead rClear upd
  by_cases e0 : q = 0
  · subst e0; rfl
  by_cases e1 : q = 1
  · subst e1; rfl
  by_cases e2 : q = 2
  · subst e2; rfl
  by_cases e3 : q = 3
  · subst e3; rfl
  by_cases e4 : q = 11
  · subst e4; rfl
  by_cases e5 : q = 13
  · subst e5; rfl
  by_cases e6 : q = 14
  · subst e6; rfl
  by_cases e7 : q = 15
  · subst e7; rfl
  by_cases e8 : q = 16
  · subst e8; rfl
  rw [if_neg e8, if_neg e7, if_neg e6, if_neg e5, if_neg e4, if_neg e3, if_neg e2, if_neg e1, if_neg e0]
  show (if q < 114 then (0 : Int32) else ρ q) = _
  rw [if_pos h, if_neg e0, if_neg e1, if_neg e2, if_neg e3, if_neg (by omega)]
theorem cNew_at {σ : Rw} {n : Nat} {st l : Int32} {q : Nat} (hn : n ≤ 12) (h : q < 18 ∨ 42 ≤ q ∧ q < 114) : cNew σ (nI n) st l q = if q = 0 then nI n else if q = 1 then st else if q = 2 then l else if q = 3 then 1 else if q = 11 ∨ (13 ≤ q ∧ q < 17) then -99999 else 0 := by
  have hc : ∀ q, q < 114 → cMk σ (nI n) l q = if 42 ≤ q then 0 else if q = 2 then l else if q = 0 then nI n else σ q := by
    intro q hq
    unfold cMk
    rw [rRenAll_z]
    by_cases h42 : 42 ≤ q
    · rw [if_pos (by omega), if_pos h42]
    · rw [if_neg (by omega), if_neg h42]
      unfold upd
      by_cases e2 : q = 2
      · rw [if_pos e2, if_pos e2]
      · rw [if_neg e2, if_neg e2]
        by_cases e0 : q = 0
        · rw [if_pos e0, if_pos e0, if_neg]
          exact nI_nlt (a := 12) (b := n) hn (by omega) |> fun h => h
        · rw [if_neg e0, if_neg e0]
  unfold cNew
  by_cases e0 : q = 0
  · subst e0
    rw [pk_us, hc 0 (by omega)]
    rfl
  rw [pk_un e0, if_neg e0]
  by_cases e1 : q = 1
  · subst e1; rfl
  by_cases e2 : q = 2
  · subst e2
    exact hc 2 (by omega)
  by_cases e3 : q = 3
  · subst e3; rfl
  by_cases e4 : q = 11
  · subst e4; rfl
  by_cases e5 : q = 13
  · subst e5; rfl
  by_cases e6 : q = 14
  · subst e6; rfl
  by_cases e7 : q = 15
  · subst e7; rfl
  by_cases e8 : q = 16
  · subst e8; rfl
  rw [if_neg e1, if_neg e2, if_neg e3, if_neg (by omega)]
  by_cases h42 : 42 ≤ q
  · rw [pk_un e8, pk_un e7, pk_un e6, pk_un e5, pk_un e4, pk_un (by omega), pk_un (by omega), pk_un (by omega), pk_un (by omega), pk_un (by omega), pk_un (by omega), pk_un (by omega), pk_un (by omega), pk_un e3, pk_un e1, pk_un (by omega), hc q (by omega), if_pos h42]
  · have hx : q = 4 ∨ q = 5 ∨ q = 6 ∨ q = 7 ∨ q = 8 ∨ q = 9 ∨ q = 10 ∨ q = 12 ∨ q = 17 := by omega
    rcases hx with e | e | e | e | e | e | e | e | e <;> (subst e; rfl)
