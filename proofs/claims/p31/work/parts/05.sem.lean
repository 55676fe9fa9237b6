/-! WHAT A METHOD DOES, over the abstract machine: the least predicate that is closed under its steps. -/
/-- the locals ks of a frame, in this order -/
def nz (ks : List Nat) (ls : List (Nat × Value)) : List (Nat × Value) := ks.filterMap (fun k => match lkp ls k with
  | some v => some (k, v)
  | none => none)
def nzA (nt : List (Nat × List Nat)) (pc : Nat) (ls : List (Nat × Value)) : List (Nat × Value) := match lkp nt pc with
  | some ks => nz ks ls
  | none => ls
def stepF (nt : List (Nat × List Nat)) (cd : List (Nat × Row)) (C : Cal) (mj : Nat → Nat × Nat) (kj : Nat → Nat) (nj : Nat → Nat) (SX : Option (Nat × (Nat → Int32))) (mxc mxs : Nat) (hn : Nat → String → Option Nat) (Rt : Option Value → Wd → Nat → Nat → Prop) (Th : String → Wd → Nat → Nat → Prop) (f : Fr) (X : Fr → Prop) : Prop :=
  match f with
  | (pc, ls, st, w, nc, ns) => match lkp cd pc with
    | some (ins, nx, aux, kc, kl) => stepI C mj kj nj SX mxc mxs hn Rt Th ins nx aux kc kl pc (nzA nt pc ls) st w nc ns X
    | none => False
/-- the steps of method j -/
abbrev SF : Type := Fr → (Fr → Prop) → Prop
def EE (S : SF) (f : Fr) : Prop := ∀ X : Fr → Prop, (∀ (g : Fr) (Y : Fr → Prop), S g Y → (∀ h, Y h → X h) → X g) → X f
theorem EE.step {S : SF} {f : Fr} (h : S f (EE S)) : EE S f := fun X hX => hX f (EE S) h (fun _ hg => hg X hX)
theorem EE.stepY {S : SF} {f : Fr} {Y : Fr → Prop} (h : S f Y) (hY : ∀ g, Y g → EE S g) : EE S f := fun X hX => hX f Y h (fun g hg => hY g hg X hX)
/-- n steps at once, up to the stops -/
def runN (S : SF) (stop : Nat → Bool) : Nat → Fr → (Fr → Prop) → Prop
  | 0, f, X => X f
  | n + 1, f, X => S f (fun g => match stop g.1 with
    | true => X g
    | false => runN S stop n g X)
theorem EE.runN {S : SF} {stop : Nat → Bool} : ∀ (n : Nat) (f : Fr), runN S stop n f (EE S) → EE S f
  | 0, _, h => h
  | n + 1, f, h => by
    refine EE.stepY h (fun g hg => ?_)
    revert hg
    cases stop g.1 with
    | true => exact fun hg => hg
    | false => exact fun hg => EE.runN n g hg
def noStop : Nat → Bool := fun _ => false
def atPc : List Nat → Nat → Bool
  | [], _ => false
  | a :: l, k => match Nat.beq a k with
    | true => true
    | false => atPc l k
/-- cells and slots that a call of a method may make -/
def mjT : Nat → Nat × Nat := fun j => match lkp mkT j with
  | some x => x
  | none => (0, 0)
def hnT (j : Nat) (pc : Nat) (E : String) : Option Nat := match lkp hxT j with
  | some (lo, hi, l) => match Nat.ble lo pc && Nat.blt pc hi with
    | true => (l.find? (fun q => q.1 == E)).map Prod.snd
    | false => none
  | none => none
/-- a return of method j -/
def RtJ (j : Nat) (Q : Res → Wd → Prop) (v : Option Value) (w : Wd) (nc ns : Nat) : Prop :=
  (nc ≤ (mjT j).1 ∧ ns ≤ (mjT j).2) ∧ match rT j, v with
    | some .int, some (.int x) => Q (.inl (some (.int x))) w
    | some .boolean, some (.int x) => (x = 0 ∨ x = 1) ∧ Q (.inl (some (.int x))) w
    | some .long, some (.long x) => Q (.inl (some (.long x))) w
    | none, none => Q (.inl none) w
    | _, _ => False
def ThJ (d j : Nat) (Q : Res → Wd → Prop) (E : String) (w : Wd) (nc ns : Nat) : Prop := (6 ≤ d ∧ nc + 1 ≤ (mjT j).1 ∧ ns + 6 ≤ (mjT j).2 ∧ hhT j = []) ∧ Q (.inr E) w
def SJ (d j : Nat) (C : Cal) (Q : Res → Wd → Prop) : SF := stepF (nzT j) (cdT j) C mjT kO nA none (mjT j).1 (mjT j).2 (hnT j) (RtJ j Q) (ThJ d j Q)
/-- method j, at depth d, from these arguments in this world, comes to an end with Q -/
def Wp : Nat → Cal
  | 0 => fun _ _ _ _ => False
  | d + 1 => fun j as w Q => Nat.ble (catS as) (mL j) = true ∧ EE (SJ (d + 1) j (Wp d) Q) (0, lv_args 0 as, [], w, 0, 0)
