/-! THE CLASS: an Odometer read as a row of 114 numbers: written by wip/whole/pure3.py -/
def vw0 : Nat → Nat
  | 2 => 1
  | 3 => 3
  | 4 => 12
  | 5 => 4
  | 6 => 6
  | 7 => 7
  | 8 => 5
  | 9 => 8
  | 10 => 9
  | 11 => 10
  | 12 => 11
  | 13 => 13
  | 14 => 14
  | 15 => 15
  | 16 => 16
  | _ => 114
/-- the place in the row of slot k of cell b + o -/
def vw1 : Nat → Nat
  | 0 => 0
  | 1 => 2
  | _ => 114
def vw4 : Nat → Nat
  | 0 => 17
  | _ => 114
def vw (o k : Nat) : Nat := match o with
  | 0 => vw0 k
  | 1 => vw1 k
  | 2 => if k < 36 then 42 + 2 * k else 114
  | 3 => if k < 36 then 43 + 2 * k else 114
  | 4 => vw4 k
  | 5 => if k < 12 then 18 + 2 * k else 114
  | 6 => if k < 12 then 19 + 2 * k else 114
  | _ => 114
def ps0 : Nat → Nat × Nat
  | 0 => (1, 0)
  | 1 => (0, 2)
  | 2 => (1, 1)
  | 3 => (0, 3)
  | 4 => (0, 5)
  | 5 => (0, 8)
  | 6 => (0, 6)
  | 7 => (0, 7)
  | 8 => (0, 9)
  | 9 => (0, 10)
  | 10 => (0, 11)
  | 11 => (0, 12)
  | 12 => (0, 4)
  | 13 => (0, 13)
  | 14 => (0, 14)
  | 15 => (0, 15)
  | 16 => (0, 16)
  | _ => (4, 0)
def ps (q : Nat) : Nat × Nat := if q < 18 then ps0 q else if q < 42 then (5 + (q - 18) % 2, (q - 18) / 2) else (2 + (q - 42) % 2, (q - 42) / 2)
theorem vw0_hi : ∀ k, 17 ≤ k → vw0 k = 114 := by
  intro k h
  unfold vw0
  split <;> first | omega | rfl
theorem ps_vw : ∀ o k, vw o k < 114 → ps (vw o k) = (o, k) := by
  intro o k h
  have h0 : ∀ k, k < 17 → vw0 k < 114 → ps (vw0 k) = (0, k) := by decide
  match o, h with
  | 0, h =>
    have hk : k < 17 := by
      rcases Nat.lt_or_ge k 17 with h1 | h1
      · exact h1
      · have h2 := vw0_hi k h1
        have h3 : vw0 k < 114 := h
        omega
    exact h0 k hk h
  | 1, h => match k, h with
    | 0, _ => rfl
    | 1, _ => rfl
    | k + 2, h => exact absurd (show 114 < 114 from h) (by omega)
  | 4, h => match k, h with
    | 0, _ => rfl
    | k + 1, h => exact absurd (show 114 < 114 from h) (by omega)
  | 2, h =>
    have h : (if k < 36 then 42 + 2 * k else 114) < 114 := h
    show ps (if k < 36 then 42 + 2 * k else 114) = (2, k)
    split at h
    · rename_i h1
      rw [if_pos h1]
      unfold ps
      rw [if_neg (by omega), if_neg (by omega)]
      refine Prod.ext ?_ ?_
      · show 2 + (42 + 2 * k - 42) % 2 = 2
        omega
      · show (42 + 2 * k - 42) / 2 = k
        omega
    · exact absurd h (by omega)
  | 3, h =>
    have h : (if k < 36 then 43 + 2 * k else 114) < 114 := h
    show ps (if k < 36 then 43 + 2 * k else 114) = (3, k)
    split at h
    · rename_i h1
      rw [if_pos h1]
      unfold ps
      rw [if_neg (by omega), if_neg (by omega)]
      refine Prod.ext ?_ ?_
      · show 2 + (43 + 2 * k - 42) % 2 = 3
        omega
      · show (43 + 2 * k - 42) / 2 = k
        omega
    · exact absurd h (by omega)
  | 5, h =>
    have h : (if k < 12 then 18 + 2 * k else 114) < 114 := h
    show ps (if k < 12 then 18 + 2 * k else 114) = (5, k)
    split at h
    · rename_i h1
      rw [if_pos h1]
      unfold ps
      rw [if_neg (by omega), if_pos (by omega)]
      refine Prod.ext ?_ ?_
      · show 5 + (18 + 2 * k - 18) % 2 = 5
        omega
      · show (18 + 2 * k - 18) / 2 = k
        omega
    · exact absurd h (by omega)
  | 6, h =>
    have h : (if k < 12 then 19 + 2 * k else 114) < 114 := h
    show ps (if k < 12 then 19 + 2 * k else 114) = (6, k)
    split at h
    · rename_i h1
      rw [if_pos h1]
      unfold ps
      rw [if_neg (by omega), if_pos (by omega)]
      refine Prod.ext ?_ ?_
      · show 5 + (19 + 2 * k - 18) % 2 = 6
        omega
      · show (19 + 2 * k - 18) / 2 = k
        omega
    · exact absurd h (by omega)
  | o + 7, h => exact absurd (show 114 < 114 from h) (by omega)
theorem vw_ps : ∀ q, q < 114 → vw (ps q).1 (ps q).2 = q := by decide
/-- the world's ints with the row σ in the Odometer at b -/
def sO (M : Nat → Nat → Int32) (b : Nat) (σ : Rw) : Nat → Nat → Int32 := fun c k => if b ≤ c ∧ vw (c - b) k < 114 then σ (vw (c - b) k) else M c k
/-- the row of the Odometer at b -/
def vO (M : Nat → Nat → Int32) (b : Nat) : Rw := fun q => M (b + (ps q).1) (ps q).2
theorem sO_rd (M : Nat → Nat → Int32) (b : Nat) (σ : Rw) (o k : Nat) (h : vw o k < 114) : sO M b σ (b + o) k = σ (vw o k) := by
  unfold sO
  rw [Nat.add_sub_cancel_left, if_pos ⟨Nat.le_add_right _ _, h⟩]
theorem sO_wr (M : Nat → Nat → Int32) (b : Nat) (σ : Rw) (o k : Nat) (x : Int32) (h : vw o k < 114) : upA (sO M b σ) (b + o) (upd (sO M b σ (b + o)) k x) = sO M b (upd σ (vw o k) x) := by
  funext c q
  by_cases hc : c = b + o
  · subst hc
    rw [upA_s]
    by_cases hq : q = k
    · subst hq
      rw [pk_us, sO_rd _ _ _ _ _ h, pk_us]
    · rw [pk_un hq]
      unfold sO
      rw [Nat.add_sub_cancel_left]
      by_cases h2 : vw o q < 114
      · rw [if_pos ⟨Nat.le_add_right _ _, h2⟩, if_pos ⟨Nat.le_add_right _ _, h2⟩, pk_un]
        intro e
        have e1 := ps_vw o q h2
        have e2 := ps_vw o k h
        rw [e] at e1
        rw [e1] at e2
        exact hq (congrArg Prod.snd e2)
      · rw [if_neg (fun h3 => h2 h3.2), if_neg (fun h3 => h2 h3.2)]
  · rw [upA_n _ _ hc]
    unfold sO
    by_cases h2 : b ≤ c ∧ vw (c - b) q < 114
    · rw [if_pos h2, if_pos h2, pk_un]
      intro e
      have e1 := ps_vw _ _ h2.2
      have e2 := ps_vw o k h
      rw [e, e2] at e1
      have : o = c - b := congrArg Prod.fst e1
      omega
    · rw [if_neg h2, if_neg h2]
theorem sO_sO (M : Nat → Nat → Int32) (b : Nat) (σ τ : Rw) : sO (sO M b σ) b τ = sO M b τ := by
  funext c k
  unfold sO
  by_cases h : b ≤ c ∧ vw (c - b) k < 114
  · rw [if_pos h, if_pos h]
  · rw [if_neg h, if_neg h, if_neg h]
theorem sO_vO (M : Nat → Nat → Int32) (b : Nat) : sO M b (vO M b) = M := by
  funext c k
  unfold sO
  by_cases h : b ≤ c ∧ vw (c - b) k < 114
  · rw [if_pos h]
    unfold vO
    rw [ps_vw _ _ h.2]
    show M (b + (c - b)) k = M c k
    rw [show b + (c - b) = c by omega]
  · rw [if_neg h]
theorem vO_sO (M : Nat → Nat → Int32) (b : Nat) (σ : Rw) {q : Nat} (h : q < 114) : vO (sO M b σ) b q = σ q := by
  unfold vO
  have := vw_ps q h
  rw [sO_rd _ _ _ _ _ (by omega), this]
theorem vw_o {o k : Nat} (h : 7 ≤ o) : vw o k = 114 := by
  match o, h with
  | o + 7, _ => rfl
theorem sO_ot (M : Nat → Nat → Int32) (b : Nat) (σ : Rw) {c : Nat} (h : c < b ∨ b + 7 ≤ c) : sO M b σ c = M c := by
  funext k
  unfold sO
  rw [if_neg]
  intro h2
  rcases h with h | h
  · omega
  · have := vw_o (o := c - b) (k := k) (by omega)
    omega
theorem sO_cg (M : Nat → Nat → Int32) (b : Nat) {σ τ : Rw} (h : ∀ q, q < 114 → σ q = τ q) : sO M b σ = sO M b τ := by
  funext c k
  unfold sO
  by_cases h2 : b ≤ c ∧ vw (c - b) k < 114
  · rw [if_pos h2, if_pos h2, h _ h2.2]
  · rw [if_neg h2, if_neg h2]
/-- the shape of an Odometer at b -/
def OdS (S : Sc) (b : Nat) : Prop := (S.2.1 b = 2 ∧ S.2.1 (b + 1) = 0 ∧ S.2.1 (b + 2) = 8 ∧ S.2.1 (b + 3) = 8 ∧ S.2.1 (b + 4) = 3 ∧ S.2.1 (b + 5) = 8 ∧ S.2.1 (b + 6) = 8) ∧ (S.2.2.2 b 0 = b + 1 ∧ S.2.2.2 b 1 = b + 4 ∧ S.2.2.2 (b + 1) 2 = b + 2 ∧ S.2.2.2 (b + 1) 3 = b + 3 ∧ S.2.2.2 (b + 4) 1 = b + 5 ∧ S.2.2.2 (b + 4) 2 = b + 6) ∧ (S.2.2.1 (b + 2) = 36 ∧ S.2.2.1 (b + 3) = 36 ∧ S.2.2.1 (b + 5) = 12 ∧ S.2.2.1 (b + 6) = 12)
theorem rd0_2 (M : Nat → Nat → Int32) (b : Nat) (σ : Rw) : sO M b σ b 2 = σ 1 := sO_rd M b σ 0 2 (by decide)
theorem wr0_2 (M : Nat → Nat → Int32) (b : Nat) (σ : Rw) (x : Int32) : upA (sO M b σ) b (upd (sO M b σ b) 2 x) = sO M b (upd σ 1 x) := sO_wr M b σ 0 2 x (by decide)
theorem rd0_3 (M : Nat → Nat → Int32) (b : Nat) (σ : Rw) : sO M b σ b 3 = σ 3 := sO_rd M b σ 0 3 (by decide)
theorem wr0_3 (M : Nat → Nat → Int32) (b : Nat) (σ : Rw) (x : Int32) : upA (sO M b σ) b (upd (sO M b σ b) 3 x) = sO M b (upd σ 3 x) := sO_wr M b σ 0 3 x (by decide)
theorem rd0_4 (M : Nat → Nat → Int32) (b : Nat) (σ : Rw) : sO M b σ b 4 = σ 12 := sO_rd M b σ 0 4 (by decide)
theorem wr0_4 (M : Nat → Nat → Int32) (b : Nat) (σ : Rw) (x : Int32) : upA (sO M b σ) b (upd (sO M b σ b) 4 x) = sO M b (upd σ 12 x) := sO_wr M b σ 0 4 x (by decide)
theorem rd0_5 (M : Nat → Nat → Int32) (b : Nat) (σ : Rw) : sO M b σ b 5 = σ 4 := sO_rd M b σ 0 5 (by decide)
theorem wr0_5 (M : Nat → Nat → Int32) (b : Nat) (σ : Rw) (x : Int32) : upA (sO M b σ) b (upd (sO M b σ b) 5 x) = sO M b (upd σ 4 x) := sO_wr M b σ 0 5 x (by decide)
theorem rd0_6 (M : Nat → Nat → Int32) (b : Nat) (σ : Rw) : sO M b σ b 6 = σ 6 := sO_rd M b σ 0 6 (by decide)
theorem wr0_6 (M : Nat → Nat → Int32) (b : Nat) (σ : Rw) (x : Int32) : upA (sO M b σ) b (upd (sO M b σ b) 6 x) = sO M b (upd σ 6 x) := sO_wr M b σ 0 6 x (by decide)
theorem rd0_7 (M : Nat → Nat → Int32) (b : Nat) (σ : Rw) : sO M b σ b 7 = σ 7 := sO_rd M b σ 0 7 (by decide)
theorem wr0_7 (M : Nat → Nat → Int32) (b : Nat) (σ : Rw) (x : Int32) : upA (sO M b σ) b (upd (sO M b σ b) 7 x) = sO M b (upd σ 7 x) := sO_wr M b σ 0 7 x (by decide)
theorem rd0_8 (M : Nat → Nat → Int32) (b : Nat) (σ : Rw) : sO M b σ b 8 = σ 5 := sO_rd M b σ 0 8 (by decide)
theorem wr0_8 (M : Nat → Nat → Int32) (b : Nat) (σ : Rw) (x : Int32) : upA (sO M b σ) b (upd (sO M b σ b) 8 x) = sO M b (upd σ 5 x) := sO_wr M b σ 0 8 x (by decide)
theorem rd0_9 (M : Nat → Nat → Int32) (b : Nat) (σ : Rw) : sO M b σ b 9 = σ 8 := sO_rd M b σ 0 9 (by decide)
theorem wr0_9 (M : Nat → Nat → Int32) (b : Nat) (σ : Rw) (x : Int32) : upA (sO M b σ) b (upd (sO M b σ b) 9 x) = sO M b (upd σ 8 x) := sO_wr M b σ 0 9 x (by decide)
theorem rd0_10 (M : Nat → Nat → Int32) (b : Nat) (σ : Rw) : sO M b σ b 10 = σ 9 := sO_rd M b σ 0 10 (by decide)
theorem wr0_10 (M : Nat → Nat → Int32) (b : Nat) (σ : Rw) (x : Int32) : upA (sO M b σ) b (upd (sO M b σ b) 10 x) = sO M b (upd σ 9 x) := sO_wr M b σ 0 10 x (by decide)
theorem rd0_11 (M : Nat → Nat → Int32) (b : Nat) (σ : Rw) : sO M b σ b 11 = σ 10 := sO_rd M b σ 0 11 (by decide)
theorem wr0_11 (M : Nat → Nat → Int32) (b : Nat) (σ : Rw) (x : Int32) : upA (sO M b σ) b (upd (sO M b σ b) 11 x) = sO M b (upd σ 10 x) := sO_wr M b σ 0 11 x (by decide)
theorem rd0_12 (M : Nat → Nat → Int32) (b : Nat) (σ : Rw) : sO M b σ b 12 = σ 11 := sO_rd M b σ 0 12 (by decide)
theorem wr0_12 (M : Nat → Nat → Int32) (b : Nat) (σ : Rw) (x : Int32) : upA (sO M b σ) b (upd (sO M b σ b) 12 x) = sO M b (upd σ 11 x) := sO_wr M b σ 0 12 x (by decide)
theorem rd0_13 (M : Nat → Nat → Int32) (b : Nat) (σ : Rw) : sO M b σ b 13 = σ 13 := sO_rd M b σ 0 13 (by decide)
theorem wr0_13 (M : Nat → Nat → Int32) (b : Nat) (σ : Rw) (x : Int32) : upA (sO M b σ) b (upd (sO M b σ b) 13 x) = sO M b (upd σ 13 x) := sO_wr M b σ 0 13 x (by decide)
theorem rd0_14 (M : Nat → Nat → Int32) (b : Nat) (σ : Rw) : sO M b σ b 14 = σ 14 := sO_rd M b σ 0 14 (by decide)
theorem wr0_14 (M : Nat → Nat → Int32) (b : Nat) (σ : Rw) (x : Int32) : upA (sO M b σ) b (upd (sO M b σ b) 14 x) = sO M b (upd σ 14 x) := sO_wr M b σ 0 14 x (by decide)
theorem rd0_15 (M : Nat → Nat → Int32) (b : Nat) (σ : Rw) : sO M b σ b 15 = σ 15 := sO_rd M b σ 0 15 (by decide)
theorem wr0_15 (M : Nat → Nat → Int32) (b : Nat) (σ : Rw) (x : Int32) : upA (sO M b σ) b (upd (sO M b σ b) 15 x) = sO M b (upd σ 15 x) := sO_wr M b σ 0 15 x (by decide)
theorem rd0_16 (M : Nat → Nat → Int32) (b : Nat) (σ : Rw) : sO M b σ b 16 = σ 16 := sO_rd M b σ 0 16 (by decide)
theorem wr0_16 (M : Nat → Nat → Int32) (b : Nat) (σ : Rw) (x : Int32) : upA (sO M b σ) b (upd (sO M b σ b) 16 x) = sO M b (upd σ 16 x) := sO_wr M b σ 0 16 x (by decide)
theorem rd1_0 (M : Nat → Nat → Int32) (b : Nat) (σ : Rw) : sO M b σ (b + 1) 0 = σ 0 := sO_rd M b σ 1 0 (by decide)
theorem wr1_0 (M : Nat → Nat → Int32) (b : Nat) (σ : Rw) (x : Int32) : upA (sO M b σ) (b + 1) (upd (sO M b σ (b + 1)) 0 x) = sO M b (upd σ 0 x) := sO_wr M b σ 1 0 x (by decide)
theorem rd1_1 (M : Nat → Nat → Int32) (b : Nat) (σ : Rw) : sO M b σ (b + 1) 1 = σ 2 := sO_rd M b σ 1 1 (by decide)
theorem wr1_1 (M : Nat → Nat → Int32) (b : Nat) (σ : Rw) (x : Int32) : upA (sO M b σ) (b + 1) (upd (sO M b σ (b + 1)) 1 x) = sO M b (upd σ 2 x) := sO_wr M b σ 1 1 x (by decide)
theorem rd4_0 (M : Nat → Nat → Int32) (b : Nat) (σ : Rw) : sO M b σ (b + 4) 0 = σ 17 := sO_rd M b σ 4 0 (by decide)
theorem wr4_0 (M : Nat → Nat → Int32) (b : Nat) (σ : Rw) (x : Int32) : upA (sO M b σ) (b + 4) (upd (sO M b σ (b + 4)) 0 x) = sO M b (upd σ 17 x) := sO_wr M b σ 4 0 x (by decide)
theorem rd2 (M : Nat → Nat → Int32) (b : Nat) (σ : Rw) {q : Nat} (h : q < 36) : sO M b σ (b + 2) q = σ (42 + 2 * q) := by
  have e : vw 2 q = 42 + 2 * q := if_pos h
  rw [sO_rd M b σ 2 q (by omega), e]
theorem wr2 (M : Nat → Nat → Int32) (b : Nat) (σ : Rw) (x : Int32) {q : Nat} (h : q < 36) : upA (sO M b σ) (b + 2) (upd (sO M b σ (b + 2)) q x) = sO M b (upd σ (42 + 2 * q) x) := by
  have e : vw 2 q = 42 + 2 * q := if_pos h
  rw [sO_wr M b σ 2 q x (by omega), e]
theorem rd3 (M : Nat → Nat → Int32) (b : Nat) (σ : Rw) {q : Nat} (h : q < 36) : sO M b σ (b + 3) q = σ (43 + 2 * q) := by
  have e : vw 3 q = 43 + 2 * q := if_pos h
  rw [sO_rd M b σ 3 q (by omega), e]
theorem wr3 (M : Nat → Nat → Int32) (b : Nat) (σ : Rw) (x : Int32) {q : Nat} (h : q < 36) : upA (sO M b σ) (b + 3) (upd (sO M b σ (b + 3)) q x) = sO M b (upd σ (43 + 2 * q) x) := by
  have e : vw 3 q = 43 + 2 * q := if_pos h
  rw [sO_wr M b σ 3 q x (by omega), e]
theorem rd5 (M : Nat → Nat → Int32) (b : Nat) (σ : Rw) {q : Nat} (h : q < 12) : sO M b σ (b + 5) q = σ (18 + 2 * q) := by
  have e : vw 5 q = 18 + 2 * q := if_pos h
  rw [sO_rd M b σ 5 q (by omega), e]
theorem wr5 (M : Nat → Nat → Int32) (b : Nat) (σ : Rw) (x : Int32) {q : Nat} (h : q < 12) : upA (sO M b σ) (b + 5) (upd (sO M b σ (b + 5)) q x) = sO M b (upd σ (18 + 2 * q) x) := by
  have e : vw 5 q = 18 + 2 * q := if_pos h
  rw [sO_wr M b σ 5 q x (by omega), e]
theorem rd6 (M : Nat → Nat → Int32) (b : Nat) (σ : Rw) {q : Nat} (h : q < 12) : sO M b σ (b + 6) q = σ (19 + 2 * q) := by
  have e : vw 6 q = 19 + 2 * q := if_pos h
  rw [sO_rd M b σ 6 q (by omega), e]
theorem wr6 (M : Nat → Nat → Int32) (b : Nat) (σ : Rw) (x : Int32) {q : Nat} (h : q < 12) : upA (sO M b σ) (b + 6) (upd (sO M b σ (b + 6)) q x) = sO M b (upd σ (19 + 2 * q) x) := by
  have e : vw 6 q = 19 + 2 * q := if_pos h
  rw [sO_wr M b σ 6 q x (by omega), e]
