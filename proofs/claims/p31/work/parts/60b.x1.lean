/-! WHAT ELSE HOLDS OF EVERY ROW: what slots say, wear, writes, the last cut, services -/
def sy (a b c : Int32) : Int32 := if ¬ a = -99999 ∧ (a = b ∨ a = c) then a else if ¬ b = -99999 ∧ b = c then b else -99999
theorem rSays_sy (ρ : Rw) (s : Nat) : rSays ρ s = sy (ρ (42 + 2 * (3 * s + 0))) (ρ (42 + 2 * (3 * s + 1))) (ρ (42 + 2 * (3 * s + 2))) := rfl
theorem sy_a (a b c a' : Int32) : sy a' b c = sy a b c ∨ sy a' b c = a' ∨ sy a' b c = -99999 := by
  by_cases h : ¬ b = -99999 ∧ b = c
  · left
    obtain ⟨h1, rfl⟩ := h
    have key : ∀ x : Int32, sy x b b = b := by
      intro x
      unfold sy
      split
      · rename_i h2
        rcases h2.2 with h3 | h3 <;> exact h3
      · rw [if_pos ⟨h1, rfl⟩]
    rw [key, key]
  · right
    unfold sy
    split
    · exact Or.inl rfl
    · exact Or.inr rfl
theorem sy_b (a b c b' : Int32) : sy a b' c = sy a b c ∨ sy a b' c = b' ∨ sy a b' c = -99999 := by
  by_cases h : ¬ a = -99999 ∧ a = c
  · left
    unfold sy
    rw [if_pos ⟨h.1, Or.inr h.2⟩, if_pos ⟨h.1, Or.inr h.2⟩]
  · right
    unfold sy
    split
    · rename_i h2
      rcases h2.2 with h3 | h3
      · exact Or.inl h3
      · exact absurd ⟨h2.1, h3⟩ h
    · split
      · exact Or.inl rfl
      · exact Or.inr rfl
theorem sy_c (a b c c' : Int32) : sy a b c' = sy a b c ∨ sy a b c' = c' ∨ sy a b c' = -99999 := by
  by_cases h : ¬ a = -99999 ∧ a = b
  · left
    unfold sy
    rw [if_pos ⟨h.1, Or.inl h.2⟩, if_pos ⟨h.1, Or.inl h.2⟩]
  · right
    unfold sy
    split
    · rename_i h2
      rcases h2.2 with h3 | h3
      · exact absurd ⟨h2.1, h3⟩ h
      · exact Or.inl h3
    · split
      · rename_i h2
        exact Or.inl h2.2
      · exact Or.inr rfl
theorem says_cg {ρ ρ' : Rw} {s : Nat} (h : ∀ i, i < 3 → ρ' (42 + 2 * (3 * s + i)) = ρ (42 + 2 * (3 * s + i))) : rSays ρ' s = rSays ρ s := by
  rw [rSays_sy, rSays_sy, h 0 (by omega), h 1 (by omega), h 2 (by omega)]
theorem says_o {ρ : Rw} {s k : Nat} {x : Int32} (hk : k < 42) : rSays (upd ρ k x) s = rSays ρ s := says_cg (fun i _ => pk_un (by omega))
theorem says_w {ρ : Rw} {s q : Nat} {x : Int32} : rSays (upd ρ (43 + 2 * q) x) s = rSays ρ s := says_cg (fun i _ => pk_un (by omega))
theorem says_n {ρ : Rw} {s i k : Nat} {x : Int32} (hi : i < 3) (hk : k ≠ s) : rSays (upd ρ (42 + 2 * (3 * s + i)) x) k = rSays ρ k := says_cg (fun j _ => pk_un (by omega))
theorem says_c {ρ : Rw} {s i k : Nat} {x : Int32} (hi : i < 3) : rSays (upd ρ (42 + 2 * (3 * s + i)) x) k = rSays ρ k ∨ rSays (upd ρ (42 + 2 * (3 * s + i)) x) k = x ∨ rSays (upd ρ (42 + 2 * (3 * s + i)) x) k = -99999 := by
  by_cases hk : k = s
  · subst hk
    rw [rSays_sy, rSays_sy]
    rcases (show i = 0 ∨ i = 1 ∨ i = 2 by omega) with rfl | rfl | rfl
    · rw [pk_us, pk_un (by omega), pk_un (by omega)]
      exact sy_a _ _ _ _
    · rw [pk_us, pk_un (by omega), pk_un (by omega)]
      exact sy_b _ _ _ _
    · rw [pk_us, pk_un (by omega), pk_un (by omega)]
      exact sy_c _ _ _ _
  · exact Or.inl (says_n hi hk)
/-- every slot below n says a number up to d, or nothing -/
def S1 (n d : Nat) (ρ : Rw) : Prop := ∀ k, k < n → Cv d (rSays ρ k)
theorem S1.cg {n d : Nat} {ρ ρ' : Rw} (h : S1 n d ρ) (he : ∀ k, k < n → rSays ρ' k = rSays ρ k) : S1 n d ρ' := fun k hk => by
  rw [he k hk]
  exact h k hk
theorem S1.mono {n d d' : Nat} {ρ : Rw} (h : S1 n d ρ) (hd : d ≤ d') : S1 n d' ρ := fun k hk => (h k hk).mono hd
theorem S1.c {n d s i : Nat} {ρ : Rw} {x : Int32} (h : S1 n d ρ) (hi : i < 3) (hx : Cv d x) : S1 n d (upd ρ (42 + 2 * (3 * s + i)) x) := fun k hk => by
  rcases says_c (ρ := ρ) (s := s) (k := k) (x := x) hi with e | e | e
  · rw [e]; exact h k hk
  · rw [e]; exact hx
  · rw [e]; exact Or.inl rfl
theorem rPut_S {n d s i : Nat} {ρ : Rw} {c : Prop} [Decidable c] (h : S1 n d ρ) (hi : i < 3) (hd : d < 1073741824) : S1 n d (rPut ρ c s i (nI d)) := by
  have hW : S1 n d (upd ρ (43 + 2 * (3 * s + i)) (ρ (43 + 2 * (3 * s + i)) + 1)) := h.cg (fun k _ => says_w)
  have hV : Cv d (nI d) := Or.inr ⟨d, Nat.le_refl _, rfl⟩
  unfold rPut
  split
  · exact h
  · split
    · split
      · exact hW
      · split
        · exact hW.c hi (Or.inl rfl)
        · exact hW.c hi (Cv.hund (Nat.le_refl _) hd)
    · exact hW.c hi hV
theorem rPut_ns {s i k : Nat} {ρ : Rw} {v : Int32} {c : Prop} [Decidable c] (hi : i < 3) (hk : k ≠ s) : rSays (rPut ρ c s i v) k = rSays ρ k := by
  unfold rPut
  split
  · rfl
  · split
    · split
      · exact says_w
      · rw [says_n hi hk, says_w]
    · rw [says_n hi hk, says_w]
theorem says_Off {ρ : Rw} {a b c e : Int32} {k : Nat} : rSays (rOff ρ a b c e) k = rSays ρ k := by
  unfold rOff
  rw [says_o (by omega), says_o (by omega), says_o (by omega), says_o (by omega), says_o (by omega), says_o (by omega), says_o (by omega), says_o (by omega)]
theorem says_Cut {ρ : Rw} {k : Nat} : rSays (rCut ρ) k = rSays ρ k := by
  unfold rCut
  rw [says_o (by omega), says_o (by omega)]
theorem rWr_S {n d s i : Nat} {ρ : Rw} {t : Int32} (h : S1 n d ρ) (hi : i < 3) (hd : d < 1073741824) : S1 n d (rWr ρ s i (nI d) t) := by
  have h1 : S1 n d (rCut ρ) := h.cg (fun k _ => says_Cut)
  unfold rWr
  split
  · exact (rPut_S h1 hi hd).cg (fun k _ => says_Off)
  · exact rPut_S h1 hi hd
theorem rWr_ns {s i k : Nat} {ρ : Rw} {v t : Int32} (hi : i < 3) (hk : k ≠ s) : rSays (rWr ρ s i v t) k = rSays ρ k := by
  unfold rWr
  split
  · rw [says_Off, rPut_ns hi hk, says_Cut]
  · rw [rPut_ns hi hk, says_Cut]
/-- what each write keeps, three keep -/
theorem rW3_ind {P : Nat → Rw → Prop} {s : Nat} {t : Int32} (hm : ∀ i ρ, P i ρ → P (i + 1) ρ) (hs : ∀ i ρ, i < 3 → P i ρ → P (i + 1) (rWr ρ s i (ρ 4) t)) {ρ : Rw} (h : P 0 ρ) : P 3 (rW3 ρ s t).1 := by
  have a1 := hs 0 ρ (by omega) h
  unfold rW3
  split
  · exact hm _ _ (hm _ _ a1)
  generalize rWr ρ s 0 (ρ 4) t = ρ1 at *
  have a2 := hs 1 ρ1 (by omega) a1
  split
  · exact hm _ _ a2
  generalize rWr ρ1 s 1 (ρ1 4) t = ρ2 at *
  have a3 := hs 2 ρ2 (by omega) a2
  split
  · exact a3
  · exact a3
theorem rW3_S {n d s : Nat} {ρ : Rw} {t : Int32} (h : S1 n d ρ) (h4 : ρ 4 = nI d) (hd : d < 1073741824) : S1 n d (rW3 ρ s t).1 :=
  (rW3_ind (P := fun _ ρ => S1 n d ρ ∧ ρ 4 = nI d) (fun _ _ h => h) (fun i ρ hi h => ⟨by rw [h.2]; exact rWr_S h.1 hi hd, (rWr_keep (by omega)).trans h.2⟩) ⟨h, h4⟩).1
theorem rW3_ns {s k : Nat} {ρ : Rw} {t : Int32} (hk : k ≠ s) : rSays (rW3 ρ s t).1 k = rSays ρ k :=
  rW3_ind (P := fun _ ρ' => rSays ρ' k = rSays ρ k) (fun _ _ h => h) (fun i ρ' hi h => (rWr_ns hi hk).trans h) rfl
/-- distance, what is stored, the current slot -/
def Ed (n d s cur : Nat) (ρ : Rw) : Prop := ρ 4 = nI d ∧ ρ 6 = nI s ∧ ρ 7 = nI cur ∧ cur < n ∧ s ≤ d ∧ S1 n d ρ ∧ (s = 0 ∨ rSays ρ cur = nI s)
theorem Ed.cg {n d s cur : Nat} {ρ ρ' : Rw} (h : Ed n d s cur ρ) (h4 : ρ' 4 = ρ 4) (h6 : ρ' 6 = ρ 6) (h7 : ρ' 7 = ρ 7) (he : ∀ k, k < n → rSays ρ' k = rSays ρ k) : Ed n d s cur ρ' := by
  obtain ⟨a1, a2, a3, a4, a5, a6, a7⟩ := h
  exact ⟨h4.trans a1, h6.trans a2, h7.trans a3, a4, a5, a6.cg he, by rw [he cur a4]; exact a7⟩
theorem rW3_Ed {n d s cur c : Nat} {ρ : Rw} {t : Int32} (h : Ed n d s cur ρ) (hc : cur ≠ c) (hd : d < 1073741824) : Ed n d s cur (rW3 ρ c t).1 := by
  obtain ⟨a1, a2, a3, a4, a5, a6, a7⟩ := h
  exact ⟨(rW3_keep (by omega)).trans a1, (rW3_keep (by omega)).trans a2, (rW3_keep (by omega)).trans a3, a4, a5, rW3_S a6 a1 hd, by rw [rW3_ns hc]; exact a7⟩
theorem rSt_Ed {n d s cur : Nat} (hd : d < 1073741824) (hc : cur < n) : ∀ (f vain : Nat) (ρ : Rw), vain + f + 1 = n → ρ 3 = 1 → ρ 12 = 0 → Kok ρ → Ed n d s cur ρ → Ed n d s cur (rSt n cur f vain ρ) ∨ (rSt n cur f vain ρ 3 = 1 ∧ ∃ c, Ed n d d c (rSt n cur f vain ρ))
  | 0, vain, ρ, _, _, _, _, h => by
    unfold rSt
    exact Or.inl (h.cg (pk_un (by omega)) (pk_un (by omega)) (pk_un (by omega)) (fun k _ => says_o (by omega)))
  | f + 1, vain, ρ, hf, h3, h12, hK, h => by
    have hne : cur ≠ (cur + 1 + vain) % n := by
      intro e
      rcases Nat.lt_or_ge (cur + 1 + vain) n with g | g
      · rw [Nat.mod_eq_of_lt g] at e
        omega
      · rw [Nat.mod_eq_sub_mod g, Nat.mod_eq_of_lt (by omega)] at e
        omega
    have hsl : (cur + 1 + vain) % n < n := Nat.mod_lt _ (by omega)
    have a := rW3_Ed (t := nI vain) h hne hd
    obtain ⟨-, k1, k2, k3⟩ := rW3_f (s := (cur + 1 + vain) % n) (t := nI vain) h3 h12 hK
    rw [rSt]
    generalize rW3 ρ ((cur + 1 + vain) % n) (nI vain) = R at *
    split
    · exact Or.inl a
    · rename_i hb
      have hb : R.2 = true := by cases hR : R.2 with
        | true => rfl
        | false => exact absurd hR hb
      rw [hb, if_pos rfl] at k3
      split
      · rename_i hs
        obtain ⟨a1, a2, a3, a4, a5, a6, a7⟩ := a
        refine Or.inr ⟨?_, (cur + 1 + vain) % n, ?_, ?_, ?_, hsl, Nat.le_refl _, ?_, Or.inr ?_⟩
        · rw [pk_un (by omega), pk_un (by omega)]; exact k3
        · rw [pk_un (by omega), pk_un (by omega)]; exact a1
        · rw [pk_us, pk_un (by omega)]; exact a1
        · rw [pk_un (by omega), pk_us]
        · exact a6.cg (fun k _ => by rw [says_o (by omega), says_o (by omega)])
        · rw [says_o (by omega), says_o (by omega), hs]; exact a1
      · exact rSt_Ed hd hc f (vain + 1) R.1 (by omega) k3 k2 k1 a
/-- wear: each cell's up to the limit, all together up to the writes -/
def wS (ρ : Rw) : Nat → Nat
  | 0 => 0
  | k + 1 => wS ρ k + (ρ (43 + 2 * k)).toNatClampNeg
theorem wS_cg {ρ ρ' : Rw} : ∀ k, (∀ q, q < k → ρ' (43 + 2 * q) = ρ (43 + 2 * q)) → wS ρ' k = wS ρ k
  | 0, _ => rfl
  | k + 1, h => by rw [wS, wS, wS_cg k (fun q hq => h q (by omega)), h k (by omega)]
theorem wS_upd {ρ : Rw} {q : Nat} {x : Int32} (k : Nat) : wS (upd ρ (43 + 2 * q) x) k + (if q < k then (ρ (43 + 2 * q)).toNatClampNeg else 0) = wS ρ k + (if q < k then x.toNatClampNeg else 0) := by
  induction k with
  | zero => rw [if_neg (Nat.not_lt_zero _), if_neg (Nat.not_lt_zero _)]; rfl
  | succ k ih =>
    rw [wS, wS]
    by_cases e : k = q
    · subst e
      rw [pk_us]
      rw [if_neg (by omega), if_neg (by omega)] at ih
      rw [if_pos (by omega), if_pos (by omega)]
      omega
    · rw [pk_un (by omega)]
      by_cases g : q < k
      · rw [if_pos g, if_pos g] at ih
        rw [if_pos (by omega), if_pos (by omega)]
        omega
      · rw [if_neg g, if_neg g] at ih
        rw [if_neg (by omega), if_neg (by omega)]
        omega
def Fw (l w V : Nat) (ρ : Rw) : Prop := ρ 2 = nI l ∧ l ≤ 999 ∧ ρ 8 = nI w ∧ (∀ q, q < 36 → ∃ m, m ≤ l ∧ ρ (43 + 2 * q) = nI m) ∧ wS ρ 36 ≤ V
theorem Fw.mono {l w V V' : Nat} {ρ : Rw} (h : Fw l w V ρ) (hV : V ≤ V') : Fw l w V' ρ := ⟨h.1, h.2.1, h.2.2.1, h.2.2.2.1, Nat.le_trans h.2.2.2.2 hV⟩
theorem Fw.cg {l w V : Nat} {ρ ρ' : Rw} (h : Fw l w V ρ) (h2 : ρ' 2 = ρ 2) (h8 : ρ' 8 = ρ 8) (hw : ∀ q, q < 36 → ρ' (43 + 2 * q) = ρ (43 + 2 * q)) : Fw l w V ρ' := by
  obtain ⟨a1, a2, a3, a4, a5⟩ := h
  exact ⟨h2.trans a1, a2, h8.trans a3, fun q hq => by rw [hw q hq]; exact a4 q hq, by rw [wS_cg 36 hw]; exact a5⟩
theorem Fw.o {l w V k : Nat} {ρ : Rw} {x : Int32} (h : Fw l w V ρ) (hk : k < 42) (h2 : k ≠ 2) (h8 : k ≠ 8) : Fw l w V (upd ρ k x) := h.cg (pk_un (by omega)) (pk_un (by omega)) (fun q _ => pk_un (by omega))
theorem Fw.n {l w V q : Nat} {ρ : Rw} {x : Int32} (h : Fw l w V ρ) : Fw l w V (upd ρ (42 + 2 * q) x) := h.cg (pk_un (by omega)) (pk_un (by omega)) (fun q _ => pk_un (by omega))
theorem Fw.z {l w V q : Nat} {ρ : Rw} (h : Fw l w V ρ) (hq : q < 36) : Fw l w V (upd ρ (43 + 2 * q) 0) := by
  obtain ⟨a1, a2, a3, a4, a5⟩ := h
  refine ⟨(pk_un (by omega)).trans a1, a2, (pk_un (by omega)).trans a3, fun k hk => ?_, ?_⟩
  · by_cases e : k = q
    · subst e
      rw [pk_us]
      exact ⟨0, by omega, rfl⟩
    · rw [pk_un (by omega)]
      exact a4 k hk
  · have := wS_upd (ρ := ρ) (q := q) (x := 0) 36
    rw [if_pos hq, if_pos hq, tk_0] at this
    omega
theorem rCut_F {l w V : Nat} {ρ : Rw} (h : Fw l w V ρ) : Fw l (w + 1) V (rCut ρ) := by
  obtain ⟨a1, a2, a3, a4, a5⟩ := h
  have hw : ∀ q, q < 36 → rCut ρ (43 + 2 * q) = ρ (43 + 2 * q) := fun q _ => by
    unfold rCut
    rw [pk_un (by omega), pk_un (by omega)]
  refine ⟨?_, a2, ?_, fun q hq => by rw [hw q hq]; exact a4 q hq, by rw [wS_cg 36 hw]; exact a5⟩
  · unfold rCut
    rw [pk_un (by omega), pk_un (by omega)]
    exact a1
  · unfold rCut
    rw [pk_un (by omega), pk_us, a3, nI_1]
theorem rPut_F {l w V s i : Nat} {ρ : Rw} {v : Int32} {c : Prop} [Decidable c] (h : Fw l w V ρ) (hs : 3 * s + i < 36) : Fw l w (V + 1) (rPut ρ c s i v) := by
  unfold rPut
  split
  · exact h.mono (Nat.le_succ _)
  · rename_i hw
    have hF : Fw l w (V + 1) (upd ρ (43 + 2 * (3 * s + i)) (ρ (43 + 2 * (3 * s + i)) + 1)) := by
      obtain ⟨a1, a2, a3, a4, a5⟩ := h
      obtain ⟨m, b1, b2⟩ := a4 _ hs
      have hw' := Classical.not_not.mp hw
      rw [b2, a1, nI_ltI (by omega) (by omega)] at hw'
      rw [b2, nI_1]
      refine ⟨(pk_un (by omega)).trans a1, a2, (pk_un (by omega)).trans a3, fun k hk => ?_, ?_⟩
      · by_cases e : k = 3 * s + i
        · subst e
          rw [pk_us]
          exact ⟨m + 1, by omega, rfl⟩
        · rw [pk_un (by omega)]
          exact a4 k hk
      · have := wS_upd (ρ := ρ) (q := 3 * s + i) (x := nI (m + 1)) 36
        rw [if_pos hs, if_pos hs, b2, ck (by omega), ck (by omega)] at this
        omega
    split
    · split
      · exact hF
      · exact hF.n
    · exact hF.n
theorem rWr_F {l w V s i : Nat} {ρ : Rw} {v t : Int32} (h : Fw l w V ρ) (hs : 3 * s + i < 36) : Fw l (w + 1) (V + 1) (rWr ρ s i v t) := by
  have h1 := rCut_F h
  unfold rWr
  split
  · unfold rOff
    exact ((((((((rPut_F h1 hs).o (by omega) (by omega) (by omega)).o (by omega) (by omega) (by omega)).o (by omega) (by omega) (by omega)).o (by omega) (by omega) (by omega)).o (by omega) (by omega) (by omega)).o (by omega) (by omega) (by omega)).o (by omega) (by omega) (by omega)).o (by omega) (by omega) (by omega)
  · exact rPut_F h1 hs
theorem rW3_F {l w s : Nat} {ρ : Rw} {t : Int32} (h : Fw l w w ρ) (hs : s < 12) : ∃ j, j ≤ 3 ∧ Fw l (w + j) (w + j) (rW3 ρ s t).1 :=
  rW3_ind (P := fun i ρ => ∃ j, j ≤ i ∧ Fw l (w + j) (w + j) ρ) (fun i ρ ⟨j, h1, h2⟩ => ⟨j, by omega, h2⟩) (fun i ρ hi ⟨j, h1, h2⟩ => ⟨j + 1, by omega, rWr_F h2 (by omega)⟩) ⟨0, Nat.le_refl _, h⟩
theorem rSt_F {l n cur : Nat} (hn : n ≤ 12) (hn0 : 0 < n) : ∀ (f vain w : Nat) (ρ : Rw), Fw l w w ρ → ∃ j, j ≤ 3 * f ∧ Fw l (w + j) (w + j) (rSt n cur f vain ρ)
  | 0, vain, w, ρ, h => by
    unfold rSt
    exact ⟨0, by omega, h.o (by omega) (by omega) (by omega)⟩
  | f + 1, vain, w, ρ, h => by
    have hs : (cur + 1 + vain) % n < 12 := Nat.lt_of_lt_of_le (Nat.mod_lt _ hn0) hn
    obtain ⟨j, hj, a⟩ := rW3_F (t := nI vain) h hs
    rw [rSt]
    generalize rW3 ρ ((cur + 1 + vain) % n) (nI vain) = R at *
    split
    · exact ⟨j, by omega, a⟩
    · split
      · exact ⟨j, by omega, (a.o (by omega) (by omega) (by omega)).o (by omega) (by omega) (by omega)⟩
      · obtain ⟨j2, hj2, a2⟩ := rSt_F hn hn0 f (vain + 1) (w + j) R.1 a
        exact ⟨j + j2, by omega, by rw [← Nat.add_assoc]; exact a2⟩
/-- the power: on, or where it was cut -/
def Lc (n : Nat) (ρ : Rw) : Prop := ∃ a b e f, a < n ∧ b ≤ 2 ∧ e ≤ 2 ∧ f + 1 < n ∧ ρ 13 = nI a ∧ ρ 14 = nI b ∧ ρ 15 = nI e ∧ ρ 16 = nI f
def Of (n c : Nat) (ρ : Rw) : Prop := (ρ 3 = 1 ∧ ρ 9 = nI c) ∨ (ρ 3 = 0 ∧ ρ 9 = nI (c + 1) ∧ Lc n ρ)
theorem Of.cg {n c : Nat} {ρ ρ' : Rw} (h : Of n c ρ) (h3 : ρ' 3 = ρ 3) (h9 : ρ' 9 = ρ 9) (hl : ∀ k, 13 ≤ k → k < 17 → ρ' k = ρ k) : Of n c ρ' := by
  rcases h with ⟨h, h'⟩ | ⟨h, h', a, b, e, f, x1, x2, x3, x4, y1, y2, y3, y4⟩
  · exact Or.inl ⟨h3.trans h, h9.trans h'⟩
  · exact Or.inr ⟨h3.trans h, h9.trans h', a, b, e, f, x1, x2, x3, x4, (hl 13 (by omega) (by omega)).trans y1, (hl 14 (by omega) (by omega)).trans y2, (hl 15 (by omega) (by omega)).trans y3, (hl 16 (by omega) (by omega)).trans y4⟩
theorem rWr_Of {n c s i f : Nat} {ρ : Rw} {v : Int32} (h3 : ρ 3 = 1) (h9 : ρ 9 = nI c) (hK : Kok ρ) (hs : s < n) (hi : i < 3) (hf : f + 1 < n) : Of n c (rWr ρ s i v (nI f)) := by
  unfold rWr
  split
  · rename_i h10
    have hkind : ρ 11 = 0 ∨ ρ 11 = 1 ∨ ρ 11 = 2 := by
      obtain ⟨q, hq, e10, hk⟩ := hK
      rcases hk with rfl | hk
      · rw [e10] at h10
        exact absurd h10 (by decide)
      · exact hk
    refine Or.inr ⟨rfl, ?_, ?_⟩
    · show rPut (rCut ρ) True s i v 9 + 1 = _
      rw [rPut_ot (by omega)]
      unfold rCut
      rw [pk_un (by omega), pk_un (by omega), h9, nI_1]
    · rcases hkind with e | e | e
      · exact ⟨s, i, 0, f, hs, by omega, by omega, hf, rfl, rfl, e, rfl⟩
      · exact ⟨s, i, 1, f, hs, by omega, by omega, hf, rfl, rfl, e, rfl⟩
      · exact ⟨s, i, 2, f, hs, by omega, by omega, hf, rfl, rfl, e, rfl⟩
  · refine Or.inl ⟨?_, ?_⟩
    · rw [rPut_ot (by omega)]
      exact h3
    · rw [rPut_ot (by omega)]
      exact h9
theorem rW3_Of {n c s f : Nat} {ρ : Rw} (h3 : ρ 3 = 1) (h9 : ρ 9 = nI c) (hK : Kok ρ) (hs : s < n) (hf : f + 1 < n) : Of n c (rW3 ρ s (nI f)).1 := by
  have a1 := rWr_Of (v := ρ 4) h3 h9 hK hs (show 0 < 3 by omega) hf
  have k1 := rWr_K (s := s) (i := 0) (v := ρ 4) (t := nI f) hK
  have o1 := rWr_3 (ρ := ρ) (s := s) (i := 0) (v := ρ 4) (t := nI f)
  unfold rW3
  split
  · exact a1
  rename_i c1
  rw [if_neg c1, h3] at o1
  generalize rWr ρ s 0 (ρ 4) (nI f) = ρ1 at *
  have b1 : ρ1 9 = nI c := by
    rcases a1 with a1 | a1
    · exact a1.2
    · exact absurd (o1.symm.trans a1.1) (by decide)
  have a2 := rWr_Of (v := ρ1 4) o1 b1 k1 hs (show 1 < 3 by omega) hf
  have k2 := rWr_K (s := s) (i := 1) (v := ρ1 4) (t := nI f) k1
  have o2 := rWr_3 (ρ := ρ1) (s := s) (i := 1) (v := ρ1 4) (t := nI f)
  split
  · exact a2
  rename_i c2
  rw [if_neg c2, o1] at o2
  generalize rWr ρ1 s 1 (ρ1 4) (nI f) = ρ2 at *
  have b2 : ρ2 9 = nI c := by
    rcases a2 with a2 | a2
    · exact a2.2
    · exact absurd (o2.symm.trans a2.1) (by decide)
  have a3 := rWr_Of (v := ρ2 4) o2 b2 k2 hs (show 2 < 3 by omega) hf
  split
  · exact a3
  · exact a3
theorem rSt_Of {n c cur : Nat} (hn0 : 0 < n) : ∀ (f vain : Nat) (ρ : Rw), vain + f + 1 = n → ρ 3 = 1 → ρ 12 = 0 → ρ 9 = nI c → Kok ρ → Of n c (rSt n cur f vain ρ)
  | 0, vain, ρ, _, h3, _, h9, _ => by
    unfold rSt
    exact Or.inl ⟨(pk_un (by omega)).trans h3, (pk_un (by omega)).trans h9⟩
  | f + 1, vain, ρ, hf, h3, h12, h9, hK => by
    have hsl : (cur + 1 + vain) % n < n := Nat.mod_lt _ hn0
    have a := rW3_Of (f := vain) h3 h9 hK hsl (by omega)
    obtain ⟨-, k1, k2, k3⟩ := rW3_f (s := (cur + 1 + vain) % n) (t := nI vain) h3 h12 hK
    rw [rSt]
    generalize rW3 ρ ((cur + 1 + vain) % n) (nI vain) = R at *
    split
    · exact a
    · rename_i hb
      have hb : R.2 = true := by cases hR : R.2 with
        | true => rfl
        | false => exact absurd hR hb
      rw [hb, if_pos rfl] at k3
      have b1 : R.1 9 = nI c := by
        rcases a with a | a
        · exact a.2
        · exact absurd (k3.symm.trans a.1) (by decide)
      split
      · exact a.cg (by rw [pk_un (by omega), pk_un (by omega)]) (by rw [pk_un (by omega), pk_un (by omega)]) (fun k x1 x2 => by rw [pk_un (by omega), pk_un (by omega)])
      · exact rSt_Of hn0 f (vain + 1) R.1 (by omega) k3 k2 b1 k1
/-- services: kinds and parts, at what distance -/
def Es (t m : Nat) (ρ : Rw) : Prop := ∀ k, k < m → ∃ c e, c ≤ 99 ∧ e ≤ t ∧ ρ (18 + 2 * k) = nI c ∧ ρ (19 + 2 * k) = nI e
theorem Es.cg {t m : Nat} {ρ ρ' : Rw} (h : Es t m ρ) (he : ∀ k, 18 ≤ k → k < 18 + 2 * m → ρ' k = ρ k) : Es t m ρ' := fun k hk => by
  rw [he _ (by omega) (by omega), he _ (by omega) (by omega)]
  exact h k hk
theorem Es.mono {t t' m : Nat} {ρ : Rw} (h : Es t m ρ) (ht : t ≤ t') : Es t' m ρ := fun k hk => by
  obtain ⟨c, e, x1, x2, x3⟩ := h k hk
  exact ⟨c, e, x1, by omega, x3⟩
theorem rDrop_note (ρ : Rw) {i n k : Nat} (hk : k < n - 1) : rDrop ρ i n (19 + 2 * k) = ρ (19 + 2 * (if k < i then k else k + 1)) := by
  unfold rDrop rShift
  rw [pk_un (by omega)]
  by_cases h : k < i
  · rw [if_pos h, if_neg (by omega)]
  · rw [if_neg h, if_pos (by omega)]
    congr 1
theorem rDrop_Es {t m i : Nat} {ρ : Rw} (h : Es t m ρ) : Es t (m - 1) (rDrop ρ i m) := fun k hk => by
  rw [rDrop_code ρ hk, rDrop_note ρ hk]
  exact h _ (by split <;> omega)
theorem rAdd_Es {t m c d : Nat} {ρ : Rw} (h : Es t m ρ) (h4 : ρ 4 = nI d) (hd : d ≤ t) (hc : c ≤ 99) : Es t (m + 1) (rAdd ρ (nI c) m) := fun k hk => by
  unfold rAdd
  by_cases e : k = m
  · subst e
    refine ⟨c, d, hc, hd, ?_, ?_⟩
    · rw [pk_un (by omega), pk_un (by omega), pk_us]
    · rw [pk_un (by omega), pk_us]
      exact h4
  · rw [pk_un (by omega), pk_un (by omega), pk_un (by omega), pk_un (by omega), pk_un (by omega), pk_un (by omega)]
    exact h k (by omega)
