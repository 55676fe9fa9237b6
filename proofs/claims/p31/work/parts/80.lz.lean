/-! LONGS as integers -/
def lz (z : Int) : Int64 := Int64.ofInt z
theorem lz_toInt {z : Int} (h1 : -4611686018427387904 < z) (h2 : z < 4611686018427387904) : (lz z).toInt = z := Int64.toInt_ofInt_of_le (by omega) (by omega)
theorem lz_add (a b : Int) : lz a + lz b = lz (a + b) := (Int64.ofInt_add a b).symm
theorem lz_sub (a b : Int) : lz a - lz b = lz (a - b) := (Int64.ofInt_sub a b).symm
theorem lz_mul (a b : Int) : lz a * lz b = lz (a * b) := (Int64.ofInt_mul a b).symm
theorem lz_n {n : Nat} (h : n < 2147483648) : (nI n).toInt64 = lz n := Int64.toInt_inj.mp (by rw [Int32.toInt_toInt64, nI_toInt h, lz_toInt (by omega) (by omega)])
theorem lz_i (x : Int32) : x.toInt64 = lz x.toInt := (Int64.ofInt_int32ToInt x).symm
theorem lz_none : (-99999 : Int32).toInt64 = lz (-99999) := rfl
theorem lz_eq {a b : Int} (ha : -4611686018427387904 < a) (ha' : a < 4611686018427387904) (hb : -4611686018427387904 < b) (hb' : b < 4611686018427387904) : lz a = lz b ↔ a = b := by
  refine ⟨fun h => ?_, fun h => by rw [h]⟩
  have := congrArg Int64.toInt h
  rwa [lz_toInt ha ha', lz_toInt hb hb'] at this
theorem lz_lt {a b : Int} (ha : -4611686018427387904 < a) (ha' : a < 4611686018427387904) (hb : -4611686018427387904 < b) (hb' : b < 4611686018427387904) : lz a < lz b ↔ a < b := by
  rw [Int64.lt_iff_toInt_lt, lz_toInt ha ha', lz_toInt hb hb']
theorem lz_le {a b : Int} (ha : -4611686018427387904 < a) (ha' : a < 4611686018427387904) (hb : -4611686018427387904 < b) (hb' : b < 4611686018427387904) : lz a ≤ lz b ↔ a ≤ b := by
  rw [Int64.le_iff_toInt_le, lz_toInt ha ha', lz_toInt hb hb']
theorem lcmp_lt {x y : Int64} : lg_cmp x y < 0 ↔ x < y := lgl
theorem lcmp_eq {x y : Int64} : lg_cmp x y = 0 ↔ x = y := cmp0
theorem lcmp_v (x y : Int64) : (x < y ∧ lg_cmp x y = -1) ∨ (x = y ∧ lg_cmp x y = 0) ∨ (y < x ∧ lg_cmp x y = 1) := by
  rcases Int.lt_trichotomy x.toInt y.toInt with h | h | h
  · have h' : x < y := Int64.lt_iff_toInt_lt.mpr h
    refine Or.inl ⟨h', ?_⟩
    have h1 := lcmp_lt.mpr h'
    unfold lg_cmp at h1 ⊢
    revert h1
    (repeat' split) <;> intro h1 <;> first | rfl | exact absurd h1 (by decide)
  · have h' : x = y := Int64.toInt_inj.mp h
    exact Or.inr (Or.inl ⟨h', lcmp_eq.mpr h'⟩)
  · have h' : y < x := Int64.lt_iff_toInt_lt.mpr h
    refine Or.inr (Or.inr ⟨h', ?_⟩)
    have h1 : ¬ lg_cmp x y < 0 := fun z => by
      have := Int64.lt_iff_toInt_lt.mp (lcmp_lt.mp z)
      omega
    have h2 : ¬ lg_cmp x y = 0 := fun z => by
      have := lcmp_eq.mp z
      rw [this] at h
      omega
    unfold lg_cmp at h1 h2 ⊢
    revert h1 h2
    (repeat' split) <;> intro h1 h2 <;> first | rfl | exact absurd rfl h2 | exact absurd (by decide) h1
theorem lcmp_le {x y : Int64} : lg_cmp x y ≤ 0 ↔ x ≤ y := by
  rw [Int64.le_iff_toInt_le]
  rcases lcmp_v x y with ⟨h, e⟩ | ⟨h, e⟩ | ⟨h, e⟩
  · rw [e]
    have := Int64.lt_iff_toInt_lt.mp h
    exact ⟨fun _ => by omega, fun _ => by decide⟩
  · rw [e, h]
    exact ⟨fun _ => Int.le_refl _, fun _ => by decide⟩
  · rw [e]
    have := Int64.lt_iff_toInt_lt.mp h
    exact ⟨fun z => absurd z (by decide), fun z => by omega⟩
theorem lcmp_ge {x y : Int64} : 0 ≤ lg_cmp x y ↔ y ≤ x := by
  rw [Int64.le_iff_toInt_le]
  rcases lcmp_v x y with ⟨h, e⟩ | ⟨h, e⟩ | ⟨h, e⟩
  · rw [e]
    have := Int64.lt_iff_toInt_lt.mp h
    exact ⟨fun z => absurd z (by decide), fun z => by omega⟩
  · rw [e, h]
    exact ⟨fun _ => Int.le_refl _, fun _ => by decide⟩
  · rw [e]
    have := Int64.lt_iff_toInt_lt.mp h
    exact ⟨fun _ => by omega, fun _ => by decide⟩
theorem lcmp_gt {x y : Int64} : 0 < lg_cmp x y ↔ y < x := by
  rw [Int64.lt_iff_toInt_lt]
  rcases lcmp_v x y with ⟨h, e⟩ | ⟨h, e⟩ | ⟨h, e⟩
  · rw [e]
    have := Int64.lt_iff_toInt_lt.mp h
    exact ⟨fun z => absurd z (by decide), fun z => by omega⟩
  · rw [e, h]
    exact ⟨fun z => absurd z (by decide), fun z => by omega⟩
  · rw [e]
    have := Int64.lt_iff_toInt_lt.mp h
    exact ⟨fun _ => by omega, fun _ => by decide⟩
theorem l2i_n (x : Int32) : x.toInt64.toInt32 = x := Int32.toInt32_toInt64 x
theorem ee_ls {S : SF} {pc : Nat} {ls : List (Nat × Value)} (ls' : List (Nat × Value)) {st : List Value} {w : Wd} {nc ns : Nat} (he : ls = ls') (h : EE S (pc, ls', st, w, nc, ns)) : EE S (pc, ls, st, w, nc, ns) := by
  rw [he]
  exact h
/-- what a row tells of itself -/
def ab (ρ : Rw) (x : Int32) : Int64 := eL (fun _ => 0) (aAbout ρ (ρ 0).toNatClampNeg x)
def cl (ρ : Rw) (x i z : Int32) : Int64 := eL (fun c => if c = 1 then 2 else 0) (aCell ρ (ρ 0).toNatClampNeg x i z)
def sv (ρ : Rw) (x z : Int32) : Int64 := eL (fun _ => 0) (aServ ρ x z)
def lc (ρ : Rw) (x : Int32) : Int64 := eL (fun _ => 0) (aLast ρ x)
theorem ab_v {ρ : Rw} {k : Nat} (hk : k ≤ 14) : ab ρ (nI k) = (vAbout ρ (ρ 0).toNatClampNeg k).toInt64 := by
  unfold ab aAbout
  rw [if_pos ⟨nI_pos (by omega), by rw [o_14, nI_ltI (by omega) (by omega)]; omega⟩, ck (by omega), eL_0 rfl]
theorem I2.n {B : Nat} {ρ : Rw} (h : I2 B ρ) : ∃ n cur, 3 ≤ n ∧ n ≤ 12 ∧ cur < n ∧ ρ 0 = nI n ∧ ρ 7 = nI cur ∧ (ρ 0).toNatClampNeg = n := by
  obtain ⟨n, cur, h3, h12, hc, e0, e7⟩ := h.1.1
  exact ⟨n, cur, h3, h12, hc, e0, e7, by rw [e0, ck (by omega)]⟩
theorem ab_0 {n : Nat} {ρ : Rw} (h : ρ 0 = nI n) (hn : n ≤ 12) : ab ρ 0 = lz n := by
  have := ab_v (ρ := ρ) (k := 0) (by omega)
  rw [show nI 0 = 0 from rfl] at this
  rw [this]
  unfold vAbout
  rw [if_neg (by omega), if_neg (by omega), if_neg (by omega), h, lz_n (by omega)]
theorem ab_14 {m : Nat} {ρ : Rw} (h : ρ 17 = nI m) (hm : m ≤ 12) : ab ρ 14 = lz m := by
  have := ab_v (ρ := ρ) (k := 14) (by omega)
  rw [show nI 14 = 14 from rfl] at this
  rw [this]
  unfold vAbout
  rw [if_neg (by omega), if_neg (by omega), if_pos rfl, h, lz_n (by omega)]
def n1 (ρ : Rw) : Nat → Int64
  | 0 => 23
  | k + 1 => 31 * n1 ρ k + ab ρ (nI k)
def n2 (ρ : Rw) : Nat → Int64
  | 0 => n1 ρ 15
  | k + 1 => 31 * (31 * n2 ρ k + cl ρ (nI k / 3) (nI k - nI k / 3 * 3) 0) + cl ρ (nI k / 3) (nI k - nI k / 3 * 3) 1
def n3 (ρ : Rw) (n : Nat) : Nat → Int64
  | 0 => n2 ρ (3 * n)
  | k + 1 => 31 * (31 * n3 ρ n k + 10 * sv ρ (nI k) 0 + sv ρ (nI k) 1) + sv ρ (nI k) 2
/-- all that is told of a row, as one number -/
def nowV (ρ : Rw) : Int64 := n3 ρ (ρ 0).toNatClampNeg (ρ 17).toNatClampNeg + lc ρ 0 + 37 * lc ρ 1 + 41 * lc ρ 2 + 43 * lc ρ 3
