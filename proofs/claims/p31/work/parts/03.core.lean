/-! THE ABSTRACT MACHINE. Cells are numbered from 1 (0 is null); a world: how many cells, each cell's kind (0..7 an object of that class of vwCl, 8 int[], 9 boolean[], 10 long[], 11 an array of Odometers), the arrays' lengths, the reference fields, the ints, the longs. -/
abbrev Row : Type := Instr × Nat × List Nat × Int32 × Int64
abbrev Sc : Type := Nat × (Nat → Nat) × (Nat → Nat) × (Nat → Nat → Nat)
abbrev Wd : Type := Sc × (Nat → Nat → Int32) × (Nat → Nat → Int64)
abbrev Res : Type := Option Value ⊕ String
abbrev Fr : Type := Nat × List (Nat × Value) × List Value × Wd × Nat × Nat
abbrev Cal : Type := Nat → List Value → Wd → (Res → Wd → Prop) → Prop
def lkp {α : Type} : List (Nat × α) → Nat → Option α
  | [], _ => none
  | (a, x) :: t, k => match Nat.beq a k with
    | true => some x
    | false => lkp t k
theorem lkp_mem {α : Type} : ∀ (l : List (Nat × α)) (k : Nat) (x : α), lkp l k = some x → ∃ i : Nat, l[i]? = some (k, x)
  | [], _, _, h => by cases h
  | (a, y) :: t, k, x, h => by
    unfold lkp at h
    cases hb : Nat.beq a k with
    | true =>
      rw [hb] at h
      have ha : a = k := Nat.eq_of_beq_eq_true hb
      cases h
      exact ⟨0, by rw [← ha]; rfl⟩
    | false =>
      rw [hb] at h
      obtain ⟨i, hi⟩ := lkp_mem t k x h
      exact ⟨i + 1, hi⟩
def upA {α : Type} (f : Nat → α) (a : Nat) (v : α) : Nat → α := fun j => if j = a then v else f j
theorem upA_s {α : Type} (f : Nat → α) (a : Nat) (v : α) : upA f a v a = v := by simp [upA]
theorem upA_n {α : Type} (f : Nat → α) {a j : Nat} (v : α) (h : j ≠ a) : upA f a v j = f j := by simp [upA, h]
/-- a new cell of kind k and length N -/
def wAl (w : Wd) (k N : Nat) : Wd :=
  ((w.1.1 + 1, upA w.1.2.1 (w.1.1 + 1) k, upA w.1.2.2.1 (w.1.1 + 1) N, upA w.1.2.2.2 (w.1.1 + 1) (fun _ => 0)), upA w.2.1 (w.1.1 + 1) (fun _ => 0), upA w.2.2 (w.1.1 + 1) (fun _ => 0))
/-- the row of ints of cell a becomes g -/
def wI (w : Wd) (a : Nat) (g : Nat → Int32) : Wd := (w.1, upA w.2.1 a g, w.2.2)
def wJ (w : Wd) (a : Nat) (g : Nat → Int64) : Wd := (w.1, w.2.1, upA w.2.2 a g)
def wR (w : Wd) (a : Nat) (g : Nat → Nat) : Wd := ((w.1.1, w.1.2.1, w.1.2.2.1, upA w.1.2.2.2 a g), w.2.1, w.2.2)
def stI (i : Nat) (v : Value) (ls : List (Nat × Value)) : List (Nat × Value) := (i, v) :: ls.filter (fun q => !(q.1 == i) && !(q.1 + 1 == i && q.2.category == 2))
def stL (i : Nat) (v : Value) (ls : List (Nat × Value)) : List (Nat × Value) := (i, v) :: ls.filter (fun q => !(q.1 == i) && (!(q.1 == i + 1) && !(q.1 + 1 == i && q.2.category == 2)))
/-- the first n of the stack, the last pushed last -/
def popN : Nat → List Value → List Value → Option (List Value × List Value)
  | 0, st, acc => some (acc, st)
  | _ + 1, [], _ => none
  | n + 1, v :: st, acc => popN n st (v :: acc)
theorem popN_spec : ∀ (n : Nat) (st acc as rest : List Value), popN n st acc = some (as, rest) → ∃ l : List Value, l.length = n ∧ as = l ++ acc ∧ st = l.reverse ++ rest
  | 0, st, acc, as, rest, h => by
    cases h
    exact ⟨[], rfl, rfl, rfl⟩
  | n + 1, [], acc, as, rest, h => by cases h
  | n + 1, v :: st, acc, as, rest, h => by
    obtain ⟨l, h1, h2, h3⟩ := popN_spec n st (v :: acc) as rest h
    exact ⟨l ++ [v], by simp [h1], by simp [h2], by simp [h3]⟩
def catS : List Value → Nat
  | [] => 0
  | v :: t => v.category + catS t
/-- a switch: key, target, key, target .. -/
def swC (x : Int32) : List Nat → Nat → (Nat → Prop) → Prop
  | k :: t :: r, d, f => (x = Int32.ofNat k → f t) ∧ (¬ x = Int32.ofNat k → swC x r d f)
  | _, d, f => f d
/-- fields of a class -/
def nF : Nat → Nat
  | 0 => 4
  | 1 => 3
  | 2 => 17
  | 3 => 3
  | 4 => 2
  | 5 => 9
  | 6 => 5
  | 7 => 14
  | _ => 0
/-- how a field holds: 0 int, 1 reference, 2 boolean -/
def fK : Nat → Nat → Nat
  | 0, 2 => 1
  | 0, 3 => 1
  | 1, 2 => 1
  | 2, 0 => 1
  | 2, 1 => 1
  | 2, 3 => 2
  | 2, 4 => 2
  | 3, 1 => 1
  | 3, 2 => 1
  | 4, 0 => 1
  | 4, 1 => 1
  | 5, 8 => 1
  | 6, _ => 1
  | 7, 1 => 1
  | 7, 4 => 2
  | 7, 8 => 1
  | 7, 9 => 1
  | 7, 10 => 1
  | 7, 12 => 1
  | 7, 13 => 1
  | _, _ => 0
def excN : Nat → String
  | 0 => "java/lang/IllegalArgumentException"
  | 1 => "java/lang/IllegalStateException"
  | _ => "java/lang/IndexOutOfBoundsException"
/-- no reference of the frame lies behind n, up to n' -/
def frB (n n' : Nat) (st : List Value) (ls : List (Nat × Value)) : Prop := (∀ v ∈ st, ∀ x, v = .ref x → x ≤ n ∨ n' < x) ∧ ∀ q ∈ ls, ∀ x, q.2 = .ref x → x ≤ n ∨ n' < x
def pI (st : List Value) (F : Int32 → List Value → Prop) : Prop := match st with
  | .int x :: r => F x r
  | _ => False
theorem pI_s {st : List Value} {F : Int32 → List Value → Prop} (h : pI st F) : ∃ x r, st = .int x :: r ∧ F x r := by
  unfold pI at h
  split at h
  · exact ⟨_, _, rfl, h⟩
  · exact h.elim
def pL (st : List Value) (F : Int64 → List Value → Prop) : Prop := match st with
  | .long x :: r => F x r
  | _ => False
theorem pL_s {st : List Value} {F : Int64 → List Value → Prop} (h : pL st F) : ∃ x r, st = .long x :: r ∧ F x r := by
  unfold pL at h
  split at h
  · exact ⟨_, _, rfl, h⟩
  · exact h.elim
def pR (st : List Value) (F : Nat → List Value → Prop) : Prop := match st with
  | .ref x :: r => F x r
  | _ => False
theorem pR_s {st : List Value} {F : Nat → List Value → Prop} (h : pR st F) : ∃ x r, st = .ref x :: r ∧ F x r := by
  unfold pR at h
  split at h
  · exact ⟨_, _, rfl, h⟩
  · exact h.elim
def pN (st : List Value) (F : Prop) : Prop := match st with
  | [] => F
  | _ => False
theorem pN_s {st : List Value} {F : Prop} (h : pN st F) : st = [] ∧ F := by
  unfold pN at h
  split at h
  · exact ⟨rfl, h⟩
  · exact h.elim
/-- the top: an int or a reference, not looked at -/
def p1 (st : List Value) (F : Value → List Value → Prop) : Prop := match st with
  | .int x :: r => F (.int x) r
  | .ref x :: r => F (.ref x) r
  | _ => False
theorem p1_s {st : List Value} {F : Value → List Value → Prop} (h : p1 st F) : ∃ v r, st = v :: r ∧ v.category = 1 ∧ F v r := by
  unfold p1 at h
  split at h
  · exact ⟨_, _, rfl, rfl, h⟩
  · exact ⟨_, _, rfl, rfl, h⟩
  · exact h.elim
def gI (ls : List (Nat × Value)) (aux : List Nat) (F : Nat → Int32 → Prop) : Prop := match aux with
  | [i] => match lkp ls i with
    | some (.int x) => F i x
    | _ => False
  | _ => False
theorem gI_s {ls : List (Nat × Value)} {aux : List Nat} {F : Nat → Int32 → Prop} (h : gI ls aux F) : ∃ i x, aux = [i] ∧ lkp ls i = some (.int x) ∧ F i x := by
  unfold gI at h
  split at h
  · split at h
    · exact ⟨_, _, rfl, by assumption, h⟩
    · exact h.elim
  · exact h.elim
def gL (ls : List (Nat × Value)) (aux : List Nat) (F : Nat → Int64 → Prop) : Prop := match aux with
  | [i] => match lkp ls i with
    | some (.long x) => F i x
    | _ => False
  | _ => False
theorem gL_s {ls : List (Nat × Value)} {aux : List Nat} {F : Nat → Int64 → Prop} (h : gL ls aux F) : ∃ i x, aux = [i] ∧ lkp ls i = some (.long x) ∧ F i x := by
  unfold gL at h
  split at h
  · split at h
    · exact ⟨_, _, rfl, by assumption, h⟩
    · exact h.elim
  · exact h.elim
def gR (ls : List (Nat × Value)) (aux : List Nat) (F : Nat → Nat → Prop) : Prop := match aux with
  | [i] => match lkp ls i with
    | some (.ref x) => F i x
    | _ => False
  | _ => False
theorem gR_s {ls : List (Nat × Value)} {aux : List Nat} {F : Nat → Nat → Prop} (h : gR ls aux F) : ∃ i x, aux = [i] ∧ lkp ls i = some (.ref x) ∧ F i x := by
  unfold gR at h
  split at h
  · split at h
    · exact ⟨_, _, rfl, by assumption, h⟩
    · exact h.elim
  · exact h.elim
def a1 (aux : List Nat) (F : Nat → Prop) : Prop := match aux with
  | [i] => F i
  | _ => False
theorem a1_s {aux : List Nat} {F : Nat → Prop} (h : a1 aux F) : ∃ i, aux = [i] ∧ F i := by
  unfold a1 at h
  split at h
  · exact ⟨_, rfl, h⟩
  · exact h.elim
def aC (aux : List Nat) (F : Nat → List Nat → Prop) : Prop := match aux with
  | i :: r => F i r
  | _ => False
theorem aC_s {aux : List Nat} {F : Nat → List Nat → Prop} (h : aC aux F) : ∃ i r, aux = i :: r ∧ F i r := by
  unfold aC at h
  split at h
  · exact ⟨_, _, rfl, h⟩
  · exact h.elim
/-- of a field: its class, its place, how it holds -/
def aF (aux : List Nat) (F : Nat → Nat → Nat → Prop) : Prop := match aux with
  | ci :: k :: t :: _ => F ci k t
  | _ => False
theorem aF_s {aux : List Nat} {F : Nat → Nat → Nat → Prop} (h : aF aux F) : ∃ ci k t r, aux = ci :: k :: t :: r ∧ F ci k t := by
  unfold aF at h
  split at h
  · exact ⟨_, _, _, _, rfl, h⟩
  · exact h.elim
/-- a choice by a written number -/
def nI1 {α : Sort _} (n k : Nat) (a b : α) : α := match Nat.beq n k with
  | true => a
  | false => b
theorem nI1_s {n k : Nat} {a b : Prop} (h : nI1 n k a b) : (n = k ∧ a) ∨ (n ≠ k ∧ b) := by
  unfold nI1 at h
  cases hb : Nat.beq n k with
  | true =>
    rw [hb] at h
    exact Or.inl ⟨Nat.eq_of_beq_eq_true hb, h⟩
  | false =>
    rw [hb] at h
    exact Or.inr ⟨Nat.ne_of_beq_eq_false hb, h⟩
/-- the arguments of a call -/
def pA (n : Nat) (st : List Value) (F : List Value → List Value → Prop) : Prop := match popN n st [] with
  | some (as, r) => F as r
  | none => False
theorem pA_s {n : Nat} {st : List Value} {F : List Value → List Value → Prop} (h : pA n st F) : ∃ as r, as.length = n ∧ st = as.reverse ++ r ∧ F as r := by
  unfold pA at h
  split at h
  · rename_i as r hp
    obtain ⟨l, h1, h2, h3⟩ := popN_spec _ _ _ _ _ hp
    rw [List.append_nil] at h2
    subst h2
    exact ⟨_, _, h1, h3, h⟩
  · exact h.elim
def pB (as : List Value) (F : Nat → List Value → Prop) : Prop := match as with
  | .ref b :: r => F b r
  | _ => False
theorem pB_s {as : List Value} {F : Nat → List Value → Prop} (h : pB as F) : ∃ b r, as = .ref b :: r ∧ F b r := by
  unfold pB at h
  split at h
  · exact ⟨_, _, rfl, h⟩
  · exact h.elim
/-- what follows a call -/
def aftC (hn : Nat → String → Option Nat) (nx pc : Nat) (ls : List (Nat × Value)) (r : List Value) (w : Wd) (nc ns : Nat) (X : Fr → Prop) (rs : Res) (w' : Wd) : Prop := (w'.1.1 = w.1.1 ∨ frB w.1.1 w'.1.1 r ls) ∧ match rs with
  | .inl (some v) => X (nx, ls, v :: r, w', nc, ns)
  | .inl none => X (nx, ls, r, w', nc, ns)
  | .inr E => match hn pc E with
    | some h => (∀ q ∈ ls, q.2 ≠ .ref 1000000) ∧ X (h, ls, [.ref 1000000], w', nc, ns)
    | none => False
def brE (o : ClassFile.Cond) (x y : Int32) (T F : Prop) : Prop := match o with
  | .eq => (x = y → T) ∧ (¬ x = y → F)
  | .ne => (¬ x = y → T) ∧ (x = y → F)
  | .lt => (x < y → T) ∧ (¬ x < y → F)
  | .ge => (y ≤ x → T) ∧ (¬ y ≤ x → F)
  | .gt => (y < x → T) ∧ (¬ y < x → F)
  | .le => (x ≤ y → T) ∧ (¬ x ≤ y → F)
/-- the law's numbers: the script's, and behind its end others -/
def drV (xs : Nat → Int32) (L : Nat) (k : Int32) : Int32 := (if Int32.ofNat L ≤ k then 15593239 * k + 10343 else xs k.toNatClampNeg) &&& 2147483647
def drI (SX : Option (Nat × (Nat → Int32))) (a : Nat) (k : Int32) (F : Int32 → Prop) : Prop := match SX with
  | some (L, xs) => a = 1000001 ∧ ¬ k < 0 ∧ F (drV xs L k)
  | none => False
theorem drI_s {SX : Option (Nat × (Nat → Int32))} {a : Nat} {k : Int32} {F : Int32 → Prop} (h : drI SX a k F) : ∃ L xs, SX = some (L, xs) ∧ a = 1000001 ∧ ¬ k < 0 ∧ F (drV xs L k) := by
  unfold drI at h
  split at h
  · exact ⟨_, _, rfl, h⟩
  · exact h.elim
/-- what one instruction does: X is what is wanted of the next frame -/
def stepI (C : Cal) (mj : Nat → Nat × Nat) (kj : Nat → Nat) (nj : Nat → Nat) (SX : Option (Nat × (Nat → Int32))) (mxc mxs : Nat) (hn : Nat → String → Option Nat) (Rt : Option Value → Wd → Nat → Nat → Prop) (Th : String → Wd → Nat → Nat → Prop)
    (ins : Instr) (nx : Nat) (aux : List Nat) (kc : Int32) (kl : Int64) (pc : Nat) (ls : List (Nat × Value)) (st : List Value) (w : Wd) (nc ns : Nat) (X : Fr → Prop) : Prop :=
  match ins with
  | .iconst _ => X (nx, ls, .int kc :: st, w, nc, ns)
  | .bipush _ => X (nx, ls, .int kc :: st, w, nc, ns)
  | .sipush _ => X (nx, ls, .int kc :: st, w, nc, ns)
  | .ldc _ => X (nx, ls, .int kc :: st, w, nc, ns)
  | .ldc_w _ => X (nx, ls, .int kc :: st, w, nc, ns)
  | .lconst _ => X (nx, ls, .long kl :: st, w, nc, ns)
  | .ldc2_w _ => X (nx, ls, .long kl :: st, w, nc, ns)
  | .iload_n _ => gI ls aux (fun _ x => X (nx, ls, .int x :: st, w, nc, ns))
  | .iload _ => gI ls aux (fun _ x => X (nx, ls, .int x :: st, w, nc, ns))
  | .lload_n _ => gL ls aux (fun _ x => X (nx, ls, .long x :: st, w, nc, ns))
  | .lload _ => gL ls aux (fun _ x => X (nx, ls, .long x :: st, w, nc, ns))
  | .aload_n _ => gR ls aux (fun _ x => X (nx, ls, .ref x :: st, w, nc, ns))
  | .aload _ => gR ls aux (fun _ x => X (nx, ls, .ref x :: st, w, nc, ns))
  | .istore_n _ => a1 aux (fun i => pI st (fun x r => X (nx, stI i (.int x) ls, r, w, nc, ns)))
  | .istore _ => a1 aux (fun i => pI st (fun x r => X (nx, stI i (.int x) ls, r, w, nc, ns)))
  | .lstore_n _ => a1 aux (fun i => pL st (fun x r => X (nx, stL i (.long x) ls, r, w, nc, ns)))
  | .lstore _ => a1 aux (fun i => pL st (fun x r => X (nx, stL i (.long x) ls, r, w, nc, ns)))
  | .astore_n _ => a1 aux (fun i => pR st (fun x r => X (nx, stI i (.ref x) ls, r, w, nc, ns)))
  | .astore _ => a1 aux (fun i => pR st (fun x r => X (nx, stI i (.ref x) ls, r, w, nc, ns)))
  | .iinc _ _ => gI ls aux (fun i x => X (nx, stI i (.int (x + kc)) ls, st, w, nc, ns))
  | .iadd => pI st (fun y r1 => pI r1 (fun x r => X (nx, ls, .int (x + y) :: r, w, nc, ns)))
  | .isub => pI st (fun y r1 => pI r1 (fun x r => X (nx, ls, .int (x - y) :: r, w, nc, ns)))
  | .imul => pI st (fun y r1 => pI r1 (fun x r => X (nx, ls, .int (x * y) :: r, w, nc, ns)))
  | .ishr => pI st (fun y r1 => pI r1 (fun x r => X (nx, ls, .int (x >>> (y &&& 31)) :: r, w, nc, ns)))
  | .iand => pI st (fun y r1 => pI r1 (fun x r => X (nx, ls, .int (x &&& y) :: r, w, nc, ns)))
  | .idiv => pI st (fun y r1 => pI r1 (fun x r => (¬ y = 0) ∧ X (nx, ls, .int (x / y) :: r, w, nc, ns)))
  | .irem => pI st (fun y r1 => pI r1 (fun x r => (¬ y = 0) ∧ X (nx, ls, .int (x - x / y * y) :: r, w, nc, ns)))
  | .ladd => pL st (fun y r1 => pL r1 (fun x r => X (nx, ls, .long (x + y) :: r, w, nc, ns)))
  | .lsub => pL st (fun y r1 => pL r1 (fun x r => X (nx, ls, .long (x - y) :: r, w, nc, ns)))
  | .lmul => pL st (fun y r1 => pL r1 (fun x r => X (nx, ls, .long (x * y) :: r, w, nc, ns)))
  | .land => pL st (fun y r1 => pL r1 (fun x r => X (nx, ls, .long (x &&& y) :: r, w, nc, ns)))
  | .lor => pL st (fun y r1 => pL r1 (fun x r => X (nx, ls, .long (x ||| y) :: r, w, nc, ns)))
  | .ldiv => pL st (fun y r1 => pL r1 (fun x r => (¬ y = 0) ∧ X (nx, ls, .long (x / y) :: r, w, nc, ns)))
  | .lrem => pL st (fun y r1 => pL r1 (fun x r => (¬ y = 0) ∧ X (nx, ls, .long (x - x / y * y) :: r, w, nc, ns)))
  | .lushr => pI st (fun y r1 => pL r1 (fun x r => X (nx, ls, .long (x.toUInt64 >>> (y.toInt64.toUInt64 &&& Int64.toUInt64 63)).toInt64 :: r, w, nc, ns)))
  | .lshl => pI st (fun y r1 => pL r1 (fun x r => X (nx, ls, .long (x <<< (y.toInt64 &&& 63)) :: r, w, nc, ns)))
  | .i2l => pI st (fun x r => X (nx, ls, .long x.toInt64 :: r, w, nc, ns))
  | .l2i => pL st (fun x r => X (nx, ls, .int x.toInt32 :: r, w, nc, ns))
  | .lcmp => pL st (fun y r1 => pL r1 (fun x r => X (nx, ls, .int (lg_cmp x y) :: r, w, nc, ns)))
  | .dup => p1 st (fun v r => X (nx, ls, v :: v :: r, w, nc, ns))
  | .dup2 => p1 st (fun v r1 => p1 r1 (fun u r => X (nx, ls, v :: u :: v :: u :: r, w, nc, ns)))
  | .pop => p1 st (fun _ r => X (nx, ls, r, w, nc, ns))
  | .ifCond o _ => a1 aux (fun t => pI st (fun x r => brE o x 0 (X (t, ls, r, w, nc, ns)) (X (nx, ls, r, w, nc, ns))))
  | .if_icmp o _ => a1 aux (fun t => pI st (fun y r1 => pI r1 (fun x r => brE o x y (X (t, ls, r, w, nc, ns)) (X (nx, ls, r, w, nc, ns)))))
  | .goto _ => a1 aux (fun t => X (t, ls, st, w, nc, ns))
  | .ifnull _ => a1 aux (fun t => pR st (fun x r => (x = 0 → X (t, ls, r, w, nc, ns)) ∧ (¬ x = 0 → X (nx, ls, r, w, nc, ns))))
  | .tableswitch _ _ _ _ => aC aux (fun d ks => pI st (fun x r => swC x ks d (fun t => X (t, ls, r, w, nc, ns))))
  | .lookupswitch _ _ => aC aux (fun d ks => pI st (fun x r => swC x ks d (fun t => X (t, ls, r, w, nc, ns))))
  | .getfield _ => aF aux (fun ci k t => pR st (fun a r => w.1.2.1 a = ci ∧ nI1 t 1 (X (nx, ls, .ref (w.1.2.2.2 a k) :: r, w, nc, ns)) (X (nx, ls, .int (w.2.1 a k) :: r, w, nc, ns))))
  | .putfield _ => aF aux (fun ci k t => nI1 t 1 (pR st (fun x r1 => pR r1 (fun a r => w.1.2.1 a = ci ∧ x ≤ w.1.1 ∧ X (nx, ls, r, wR w a (upA (w.1.2.2.2 a) k x), nc, ns)))) (pI st (fun x r1 => pR r1 (fun a r => w.1.2.1 a = ci ∧ nI1 t 2 (x = 0 ∨ x = 1) True ∧ X (nx, ls, r, wI w a (upd (w.2.1 a) k x), nc, ns)))))
  | .iaload => pI st (fun i r1 => pR r1 (fun a r => match SX with
    | some (L, xs) => nI1 a 1000001 (vp_in i L ∧ X (nx, ls, .int (xs i.toNatClampNeg) :: r, w, nc, ns)) (w.1.2.1 a = 8 ∧ vp_in i (w.1.2.2.1 a) ∧ X (nx, ls, .int (w.2.1 a i.toNatClampNeg) :: r, w, nc, ns))
    | none => w.1.2.1 a = 8 ∧ vp_in i (w.1.2.2.1 a) ∧ X (nx, ls, .int (w.2.1 a i.toNatClampNeg) :: r, w, nc, ns)))
  | .iastore => pI st (fun x r2 => pI r2 (fun i r1 => pR r1 (fun a r => w.1.2.1 a = 8 ∧ vp_in i (w.1.2.2.1 a) ∧ X (nx, ls, r, wI w a (upd (w.2.1 a) i.toNatClampNeg x), nc, ns))))
  | .baload => pI st (fun i r1 => pR r1 (fun a r => w.1.2.1 a = 9 ∧ vp_in i (w.1.2.2.1 a) ∧ X (nx, ls, .int (w.2.1 a i.toNatClampNeg) :: r, w, nc, ns)))
  | .bastore => pI st (fun x r2 => pI r2 (fun i r1 => pR r1 (fun a r => w.1.2.1 a = 9 ∧ vp_in i (w.1.2.2.1 a) ∧ X (nx, ls, r, wI w a (upd (w.2.1 a) i.toNatClampNeg (vp_nar .boolean x)), nc, ns))))
  | .aaload => pI st (fun i r1 => pR r1 (fun a r => w.1.2.1 a = 11 ∧ vp_in i (w.1.2.2.1 a) ∧ X (nx, ls, .ref (w.1.2.2.2 a i.toNatClampNeg) :: r, w, nc, ns)))
  | .aastore => pR st (fun x r2 => pI r2 (fun i r1 => pR r1 (fun a r => w.1.2.1 a = 11 ∧ w.1.2.1 x = 2 ∧ vp_in i (w.1.2.2.1 a) ∧ X (nx, ls, r, wR w a (upA (w.1.2.2.2 a) i.toNatClampNeg x), nc, ns))))
  | .arraylength => pR st (fun a r => match SX with
    | some (L, _) => nI1 a 1000001 (X (nx, ls, .int (Int32.ofNat L) :: r, w, nc, ns)) (w.1.2.1 a = 8 ∧ X (nx, ls, .int (Int32.ofNat (w.1.2.2.1 a)) :: r, w, nc, ns))
    | none => (8 ≤ w.1.2.1 a ∧ w.1.2.1 a ≤ 11) ∧ X (nx, ls, .int (Int32.ofNat (w.1.2.2.1 a)) :: r, w, nc, ns))
  | .newarray _ => aC aux (fun k _ => pI st (fun n r => (¬ n < 0 ∧ n.toNatClampNeg ≤ 2000 ∧ nc + 1 ≤ mxc ∧ ns + n.toNatClampNeg ≤ mxs ∧ w.1.1 + 1 < 1000000 ∧ frB w.1.1 (w.1.1 + 1) r ls) ∧ X (nx, ls, .ref (w.1.1 + 1) :: r, wAl w k n.toNatClampNeg, nc + 1, ns + n.toNatClampNeg)))
  | .anewarray _ => pI st (fun n r => (¬ n < 0 ∧ n.toNatClampNeg ≤ 2000 ∧ nc + 1 ≤ mxc ∧ ns + n.toNatClampNeg ≤ mxs ∧ w.1.1 + 1 < 1000000 ∧ frB w.1.1 (w.1.1 + 1) r ls) ∧ X (nx, ls, .ref (w.1.1 + 1) :: r, wAl w 11 n.toNatClampNeg, nc + 1, ns + n.toNatClampNeg))
  | .new _ => aC aux (fun t r => aC r (fun ci _ => nI1 t 0 ((nc + 1 ≤ mxc ∧ ns + nF ci ≤ mxs ∧ w.1.1 + 1 < 1000000 ∧ frB w.1.1 (w.1.1 + 1) st ls) ∧ X (nx, ls, .ref (w.1.1 + 1) :: st, wAl w ci 0, nc + 1, ns + nF ci)) (catS st ≤ 8 ∧ Th (excN ci) w nc ns)))
  | .invokespecial _ => aC aux (fun t q => nI1 t 0 (pR st (fun a r => 1 ≤ a ∧ catS r ≤ 8 ∧ X (nx, ls, r, w, nc, ns))) (aC q (fun j _ => pA (nj j + 1) st (fun ba r => pB ba (fun b as => (catS r ≤ 8 ∧ nc + (mj j).1 ≤ mxc ∧ ns + (mj j).2 ≤ mxs) ∧ w.1.2.1 b = kj j ∧ ∃ P : Res → Wd → Prop, C j (.ref b :: as) w P ∧ ∀ (rs : Res) (w' : Wd), P rs w' → aftC hn nx pc ls r w (nc + (mj j).1) (ns + (mj j).2) X rs w')))))
  | .invokevirtual _ => aC aux (fun j _ => pA (nj j + 1) st (fun ba r => pB ba (fun b as => (catS r ≤ 8 ∧ nc + (mj j).1 ≤ mxc ∧ ns + (mj j).2 ≤ mxs) ∧ w.1.2.1 b = kj j ∧ ∃ P : Res → Wd → Prop, C j (.ref b :: as) w P ∧ ∀ (rs : Res) (w' : Wd), P rs w' → aftC hn nx pc ls r w (nc + (mj j).1) (ns + (mj j).2) X rs w')))
  | .invokestatic _ => aC aux (fun t q => nI1 t 1 (pI st (fun y r1 => pI r1 (fun x r => (catS r ≤ 8 ∧ nc ≤ mxc ∧ ns ≤ mxs) ∧ X (nx, ls, .int (if y < x then y else x) :: r, w, nc, ns))))
      (nI1 t 2 (pI st (fun y r1 => pI r1 (fun x r => (catS r ≤ 8 ∧ nc ≤ mxc ∧ ns ≤ mxs) ∧ X (nx, ls, .int (if x < y then y else x) :: r, w, nc, ns))))
      (nI1 t 3 (pI st (fun n r4 => pI r4 (fun dp r3 => pR r3 (fun a r2 => pI r2 (fun sp r1 => pR r1 (fun a0 r => (catS r ≤ 8 ∧ w.1.2.1 a0 = 8 ∧ w.1.2.1 a = 8 ∧ ¬ sp < 0 ∧ ¬ dp < 0 ∧ ¬ n < 0 ∧ sp.toNatClampNeg + n.toNatClampNeg ≤ w.1.2.2.1 a0 ∧ dp.toNatClampNeg + n.toNatClampNeg ≤ w.1.2.2.1 a) ∧
        X (nx, ls, r, wI w a (va_cpy (w.2.1 a0) (w.2.1 a) sp.toNatClampNeg dp.toNatClampNeg n.toNatClampNeg), nc, ns)))))))
      (nI1 t 5 (pI st (fun k r1 => pR r1 (fun a r => drI SX a k (fun v => (catS r ≤ 8 ∧ nc ≤ mxc ∧ ns ≤ mxs) ∧ X (nx, ls, .int v :: r, w, nc, ns)))))
      (aC q (fun j _ => pA (nj j) st (fun as r => (catS r ≤ 8 ∧ nc + (mj j).1 ≤ mxc ∧ ns + (mj j).2 ≤ mxs) ∧ ∃ P : Res → Wd → Prop, C j as w P ∧ ∀ (rs : Res) (w' : Wd), P rs w' → aftC hn nx pc ls r w (nc + (mj j).1) (ns + (mj j).2) X rs w')))))))
  | .ireturn => pI st (fun x r => pN r (Rt (some (.int x)) w nc ns))
  | .lreturn => pL st (fun x r => pN r (Rt (some (.long x)) w nc ns))
  | .return_ => pN st (Rt none w nc ns)
  | _ => False
