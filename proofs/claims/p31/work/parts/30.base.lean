/-! TOOLS OF THE PURE PART -/
theorem stepF_m {nt : List (Nat × List Nat)} {cd : List (Nat × Row)} {C : Cal} {mj : Nat → Nat × Nat} {kj nj : Nat → Nat} {SX : Option (Nat × (Nat → Int32))} {mxc mxs : Nat} {hn : Nat → String → Option Nat} {Rt : Option Value → Wd → Nat → Nat → Prop} {Th : String → Wd → Nat → Nat → Prop} (f : Fr) (X Y : Fr → Prop) (hY : ∀ g, Y g → X g) (h : stepF nt cd C mj kj nj SX mxc mxs hn Rt Th f Y) : stepF nt cd C mj kj nj SX mxc mxs hn Rt Th f X := by
  obtain ⟨pc, ls, st, w, nc, ns⟩ := f
  unfold stepF at h ⊢
  dsimp only at h ⊢
  revert h
  cases lkp cd pc with
  | none => exact fun h => h
  | some r => exact fun h => stepI_m hY h
theorem EE.inv {S : SF} (hm : ∀ (f : Fr) (X Y : Fr → Prop), (∀ g, Y g → X g) → S f Y → S f X) {f : Fr} (h : EE S f) : S f (EE S) :=
  h (fun g => S g (EE S)) (fun g _ hg hY => hm g _ _ (fun g' hg' => EE.step (hY g' hg')) hg)
/-- at a loop's head only the living locals count -/
theorem EE.nz {nt : List (Nat × List Nat)} {cd : List (Nat × Row)} {C : Cal} {mj : Nat → Nat × Nat} {kj nj : Nat → Nat} {SX : Option (Nat × (Nat → Int32))} {mxc mxs : Nat} {hn : Nat → String → Option Nat} {Rt : Option Value → Wd → Nat → Nat → Prop} {Th : String → Wd → Nat → Nat → Prop} {pc : Nat} {ks : List Nat} {ls ls' : List (Nat × Value)} {st : List Value} {w : Wd} {nc ns : Nat}
    (hk : lkp nt pc = some ks) (he : nz ks ls = nz ks ls') (h : EE (stepF nt cd C mj kj nj SX mxc mxs hn Rt Th) (pc, ls', st, w, nc, ns)) : EE (stepF nt cd C mj kj nj SX mxc mxs hn Rt Th) (pc, ls, st, w, nc, ns) := by
  have h1 := EE.inv stepF_m h
  refine EE.step ?_
  have e : nzA nt pc ls = nzA nt pc ls' := by
    unfold nzA
    rw [hk]
    exact he
  unfold stepF at h1 ⊢
  dsimp only at h1 ⊢
  rw [e]
  exact h1
abbrev Rw : Type := Nat → Int32
def bI (c : Prop) [Decidable c] : Int32 := if c then 1 else 0
theorem bI_t {c : Prop} [Decidable c] (h : c) : bI c = 1 := if_pos h
theorem bI_f {c : Prop} [Decidable c] (h : ¬ c) : bI c = 0 := if_neg h
theorem bI_01 (c : Prop) [Decidable c] : bI c = 0 ∨ bI c = 1 := by
  unfold bI
  split
  · exact Or.inr rfl
  · exact Or.inl rfl
theorem bI_e0 {c : Prop} [Decidable c] : bI c = 0 ↔ ¬ c := by
  unfold bI
  split
  · exact ⟨fun h => absurd h (by decide), fun h => absurd ‹c› h⟩
  · exact ⟨fun _ => ‹¬ c›, fun _ => rfl⟩
theorem bI_e1 {c : Prop} [Decidable c] : bI c = 1 ↔ c := by
  unfold bI
  split
  · exact ⟨fun _ => ‹c›, fun _ => rfl⟩
  · exact ⟨fun h => absurd h (by decide), fun h => absurd h ‹¬ c›⟩
theorem vpC {x : Int32} {n : Nat} (h : ¬ x < 0) (h2 : ¬ Int32.ofNat n ≤ x) (hn : n < 2147483648) : vp_in x n := by
  intro h3
  rcases h3 with h3 | h3
  · exact h h3
  · apply h2
    rw [Int32.le_iff_toInt_le]
    have h0 : 0 ≤ x.toInt := by
      rw [Int32.lt_iff_toInt_lt] at h
      simpa using h
    have e : (Int32.ofNat n).toInt = (n : Int) := Int32.toInt_ofNat_of_lt hn
    rw [e]
    have : x.toNatClampNeg = x.toInt.toNat := rfl
    omega
/-- a row of 114 numbers -/
def RowS (S : Sc) (r : Nat) : Prop := S.2.1 r = 8 ∧ S.2.2.1 r = 114
theorem RowS.vp {S : Sc} {r k : Nat} (h : RowS S r) (hk : k < 114) : vp_in (nI k) (S.2.2.1 r) := by
  rw [h.2]
  exact vp_in_nI hk (by omega)
theorem ck {k : Nat} (h : k < 2147483648) : (nI k).toNatClampNeg = k := nI_clamp h
theorem i_at (s i : Nat) : (42 : Int32) + 2 * (3 * nI s + nI i) = nI (42 + 2 * (3 * s + i)) := by
  rw [show (42 : Int32) = nI 42 from rfl, show (2 : Int32) = nI 2 from rfl, show (3 : Int32) = nI 3 from rfl, pk_mul, nI_add, pk_mul, nI_add]
theorem tk_0 : (0 : Int32).toNatClampNeg = 0 := rfl
theorem tk_1 : (1 : Int32).toNatClampNeg = 1 := rfl
theorem tk_2 : (2 : Int32).toNatClampNeg = 2 := rfl
theorem tk_3 : (3 : Int32).toNatClampNeg = 3 := rfl
theorem tk_4 : (4 : Int32).toNatClampNeg = 4 := rfl
theorem tk_5 : (5 : Int32).toNatClampNeg = 5 := rfl
theorem tk_6 : (6 : Int32).toNatClampNeg = 6 := rfl
theorem tk_7 : (7 : Int32).toNatClampNeg = 7 := rfl
theorem tk_8 : (8 : Int32).toNatClampNeg = 8 := rfl
theorem tk_9 : (9 : Int32).toNatClampNeg = 9 := rfl
theorem tk_10 : (10 : Int32).toNatClampNeg = 10 := rfl
theorem tk_11 : (11 : Int32).toNatClampNeg = 11 := rfl
theorem tk_12 : (12 : Int32).toNatClampNeg = 12 := rfl
theorem tk_13 : (13 : Int32).toNatClampNeg = 13 := rfl
theorem tk_14 : (14 : Int32).toNatClampNeg = 14 := rfl
theorem tk_15 : (15 : Int32).toNatClampNeg = 15 := rfl
theorem tk_16 : (16 : Int32).toNatClampNeg = 16 := rfl
theorem tk_17 : (17 : Int32).toNatClampNeg = 17 := rfl
theorem tk_18 : (18 : Int32).toNatClampNeg = 18 := rfl
theorem tk_42 : (42 : Int32).toNatClampNeg = 42 := rfl
theorem tk_43 : (43 : Int32).toNatClampNeg = 43 := rfl
theorem wI_M (w : Wd) (a : Nat) (g : Nat → Int32) : (wI w a g).2.1 = upA w.2.1 a g := rfl
theorem wI_1 (w : Wd) (a : Nat) (g : Nat → Int32) : (wI w a g).1 = w.1 := rfl
theorem upA_uu {α : Type} (f : Nat → α) (a : Nat) (x y : α) : upA (upA f a x) a y = upA f a y := by
  funext i
  by_cases h : i = a
  · subst h
    rw [upA_s, upA_s]
  · rw [upA_n _ _ h, upA_n _ _ h, upA_n _ _ h]
theorem upA_id {α : Type} (f : Nat → α) (a : Nat) : upA f a (f a) = f := by
  funext i
  by_cases h : i = a
  · subst h
    rw [upA_s]
  · rw [upA_n _ _ h]
