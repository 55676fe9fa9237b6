/-! MORE TOOLS: loop heads -/
theorem ee_at {nt : List (Nat × List Nat)} {cd : List (Nat × Row)} {C : Cal} {mj : Nat → Nat × Nat} {kj nj : Nat → Nat} {SX : Option (Nat × (Nat → Int32))} {mxc mxs : Nat} {hn : Nat → String → Option Nat} {Rt : Option Value → Wd → Nat → Nat → Prop} {Th : String → Wd → Nat → Nat → Prop} {pc : Nat} {ks : List Nat} {ls : List (Nat × Value)} (ls' : List (Nat × Value)) {st : List Value} {w : Wd} (w' : Wd) {nc ns : Nat}
    (hk : lkp nt pc = some ks) (he : nz ks ls = nz ks ls') (hw : w = w') (h : EE (stepF nt cd C mj kj nj SX mxc mxs hn Rt Th) (pc, ls', st, w', nc, ns)) : EE (stepF nt cd C mj kj nj SX mxc mxs hn Rt Th) (pc, ls, st, w, nc, ns) := by
  subst hw
  exact EE.nz hk he h
theorem ee_loop {S : SF} (I : Nat → Fr) (n : Nat) (hs : ∀ k, k < n → EE S (I (k + 1)) → EE S (I k)) (he : EE S (I n)) : EE S (I 0) := by
  have key : ∀ m, m ≤ n → EE S (I (n - m)) := by
    intro m
    induction m with
    | zero => exact fun _ => he
    | succ m ih =>
      intro hm
      have := ih (by omega)
      have e : n - m = n - (m + 1) + 1 := by omega
      rw [e] at this
      exact hs _ (by omega) this
  have := key n (Nat.le_refl n)
  rw [Nat.sub_self] at this
  exact this
theorem i_1 (k : Nat) : nI k + 1 = nI (k + 1) := nI_1 k
theorem upd_same {α : Type} (f : Nat → α) (k : Nat) : (fun j => if j = k then f k else f j) = f := by
  funext j
  by_cases h : j = k
  · rw [if_pos h, h]
  · rw [if_neg h]
theorem o_0 : (0 : Int32) = nI 0 := rfl
theorem o_1 : (1 : Int32) = nI 1 := rfl
theorem o_2 : (2 : Int32) = nI 2 := rfl
theorem o_3 : (3 : Int32) = nI 3 := rfl
theorem o_4 : (4 : Int32) = nI 4 := rfl
theorem o_5 : (5 : Int32) = nI 5 := rfl
theorem o_6 : (6 : Int32) = nI 6 := rfl
theorem o_7 : (7 : Int32) = nI 7 := rfl
theorem o_8 : (8 : Int32) = nI 8 := rfl
theorem o_9 : (9 : Int32) = nI 9 := rfl
theorem o_10 : (10 : Int32) = nI 10 := rfl
theorem o_11 : (11 : Int32) = nI 11 := rfl
theorem o_12 : (12 : Int32) = nI 12 := rfl
theorem o_13 : (13 : Int32) = nI 13 := rfl
theorem o_14 : (14 : Int32) = nI 14 := rfl
theorem o_15 : (15 : Int32) = nI 15 := rfl
theorem o_16 : (16 : Int32) = nI 16 := rfl
theorem o_17 : (17 : Int32) = nI 17 := rfl
theorem o_18 : (18 : Int32) = nI 18 := rfl
theorem o_36 : (36 : Int32) = nI 36 := rfl
theorem o_42 : (42 : Int32) = nI 42 := rfl
theorem o_43 : (43 : Int32) = nI 43 := rfl
theorem o_48 : (48 : Int32) = nI 48 := rfl
theorem o_60 : (60 : Int32) = nI 60 := rfl
theorem o_90 : (90 : Int32) = nI 90 := rfl
theorem o_100 : (100 : Int32) = nI 100 := rfl
theorem o_114 : (114 : Int32) = nI 114 := rfl
theorem o_999 : (999 : Int32) = nI 999 := rfl
theorem o_1000 : (1000 : Int32) = nI 1000 := rfl
theorem o_1482 : (1482 : Int32) = nI 1482 := rfl
theorem o_9999 : (9999 : Int32) = nI 9999 := rfl
