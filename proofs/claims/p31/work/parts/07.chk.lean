/-! WHAT A ROW OF THE TABLES MUST BE, decided by program -/
def GG : List Cond := lw_tbl.filter goodWord
def wAt (i : Nat) (w : Cond) : Bool := decide (lw_tbl[i]? = some w) && goodWord w
theorem wAt_in {i : Nat} {w : Cond} (h : wAt i w = true) : w ∈ GG := by
  simp only [wAt, Bool.and_eq_true, decide_eq_true_eq] at h
  exact List.mem_filter.mpr ⟨List.mem_of_getElem? h.1, h.2⟩
def ownO (j : Nat) : String := (yN j).cls
def hdW (j : Nat) : Cond := match hhT j with
  | [] => .code (yN j) (bC j) (mL j) (rT j)
  | hh => .codeWith (yN j) (bC j) (mL j) (rT j) hh
def dOk (j pc : Nat) (ins : Instr) (nx L : Nat) : Bool := decide (decode (bC j) pc = .ok (ins, L)) && decide (nx = pc + L)
def tOk (pc : Nat) (off : Int) (aux : List Nat) : Bool := match aux with
  | [t] => decide ((pc : Int) + off = (t : Int))
  | _ => false
def swOK (pc : Nat) : Int → List Nat → List Int → Bool
  | lo, k :: t :: r, o :: os => decide ((k : Int) = lo) && (decide ((pc : Int) + o = (t : Int)) && swOK pc (lo + 1) r os)
  | _, [], [] => true
  | _, _, _ => false
def swOL (pc : Nat) : List Nat → List (Int × Int) → Bool
  | k :: t :: r, (a, o) :: os => decide ((k : Int) = a) && (decide (k < 2147483648) && (decide ((pc : Int) + o = (t : Int)) && swOL pc r os))
  | [], [] => true
  | _, _ => false
/-- the greatest frame that a method may call -/
def mxO (j : Nat) : Nat := if j = 132 then 44 else 12
/-- a callee: its head's word, its class, how many arguments -/
def cOk (o j ph pi : Nat) : Bool := wAt ph (hdW j) && (wAt pi (.initialized (yN j).cls) && (decide ((yN j).cls ≠ "java/lang/invoke/MethodHandle") && (decide ((yN j).cls ≠ "java/lang/invoke/VarHandle") && (decide ((parseMethodDescriptor (yN j).desc).map (fun d => d.parameters.length) = some (nA j)) && (plainName (yN j).cls && decide (mL j ≤ mxO o))))))
def nestOk (i own : Nat) (idx : Nat) (y : MethodName) (o : String) : Bool := decide (nestW[i]? = some (.methodLinkNest o idx y ((nestH[i]?).getD "")))
def okRow (j pc : Nat) (r : Row) : Bool := match r with
  | (ins, nx, aux, kc, kl) => match ins with
    | .iconst n => dOk j pc ins nx 1 && decide (Int32.ofInt n = kc)
    | .bipush n => dOk j pc ins nx 2 && decide ((Int8.ofInt n).toInt32 = kc)
    | .sipush n => dOk j pc ins nx 3 && decide ((Int16.ofInt n).toInt32 = kc)
    | .ldc i => dOk j pc ins nx 2 && (match aux with
      | [p] => wAt p (.constant (ownO j) i kc)
      | _ => false)
    | .ldc_w i => dOk j pc ins nx 3 && (match aux with
      | [p] => wAt p (.constant (ownO j) i kc)
      | _ => false)
    | .lconst n => dOk j pc ins nx 1 && decide (Int64.ofNat (n : Nat) = kl)
    | .ldc2_w i => dOk j pc ins nx 3 && (match aux with
      | [p] => wAt p (.constantLong (ownO j) i kl)
      | _ => false)
    | .iload_n k => dOk j pc ins nx 1 && decide (aux = [(k : Nat)])
    | .lload_n k => dOk j pc ins nx 1 && decide (aux = [(k : Nat)])
    | .aload_n k => dOk j pc ins nx 1 && decide (aux = [(k : Nat)])
    | .iload i => dOk j pc ins nx 2 && decide (aux = [i])
    | .lload i => dOk j pc ins nx 2 && decide (aux = [i])
    | .aload i => dOk j pc ins nx 2 && decide (aux = [i])
    | .istore_n k => dOk j pc ins nx 1 && (decide (aux = [(k : Nat)]) && decide ((k : Nat) < mL j))
    | .astore_n k => dOk j pc ins nx 1 && (decide (aux = [(k : Nat)]) && decide ((k : Nat) < mL j))
    | .lstore_n k => dOk j pc ins nx 1 && (decide (aux = [(k : Nat)]) && decide ((k : Nat) + 1 < mL j))
    | .istore i => dOk j pc ins nx 2 && (decide (aux = [i]) && decide (i < mL j))
    | .astore i => dOk j pc ins nx 2 && (decide (aux = [i]) && decide (i < mL j))
    | .lstore i => dOk j pc ins nx 2 && (decide (aux = [i]) && decide (i + 1 < mL j))
    | .iinc i n => dOk j pc ins nx 3 && (decide (aux = [i]) && (decide (Int32.ofInt n = kc) && decide (i < mL j)))
    | .ifCond _ off => dOk j pc ins nx 3 && tOk pc off aux
    | .if_icmp _ off => dOk j pc ins nx 3 && tOk pc off aux
    | .goto off => dOk j pc ins nx 3 && tOk pc off aux
    | .ifnull off => dOk j pc ins nx 3 && tOk pc off aux
    | .tableswitch d lo hi offs => decide (decode (bC j) pc = .ok (ins, nx - pc)) && (match aux with
      | dt :: ks => decide ((pc : Int) + d = (dt : Int)) && (swOK pc lo ks offs.toList && (decide (hi = lo + offs.toList.length - 1) && (decide (0 ≤ lo) && decide (lo + offs.toList.length < 2147483648))))
      | _ => false)
    | .lookupswitch d ps => decide (decode (bC j) pc = .ok (ins, nx - pc)) && (match aux with
      | dt :: ks => decide ((pc : Int) + d = (dt : Int)) && (swOL pc ks ps.toList && (ps.toList.zip (ps.toList.drop 1)).all (fun (a, next) => a.1 < next.1))
      | _ => false)
    | .getfield i => dOk j pc ins nx 3 && (match aux with
      | [ci, k, t, p] => decide (ci < 7) && (decide (k < nF ci) && (wAt p (.fieldLink (ownO j) i (RXc ci) (TXc ci k).2.1 (TXc ci k).2.2.1) && (decide ((TXc ci k).1 = RXc ci) && decide (t = 1 ↔ fK ci k = 1))))
      | _ => false)
    | .putfield i => dOk j pc ins nx 3 && (match aux with
      | [ci, k, t, fin, p] => decide (ci < 7) && (decide (k < nF ci) && (wAt p (.fieldLink (ownO j) i (RXc ci) (TXc ci k).2.1 (TXc ci k).2.2.1) && (decide ((TXc ci k).1 = RXc ci) && (decide (t = 1 ↔ fK ci k = 1) &&
          ((match t with
            | 0 => decide (tyXc ci k = .int)
            | 1 => refKind (tyXc ci k)
            | 2 => decide (tyXc ci k = .boolean)
            | _ => false) &&
          (match fin with
            | 0 => decide ((TXc ci k).2.2.2 = false)
            | _ => decide ((TXc ci k).2.2.2 = true) && (decide ((yN j).name = "<init>") && decide ((TXc ci k).1 = ownO j))))))))
      | _ => false)
    | .newarray a => dOk j pc ins nx 2 && (match aux with
      | [k, p] => wAt p (.arrayClass (newarray.typeOf a)) && ((decide (k = 8) && decide (a = .int)) || (decide (k = 9) && decide (a = .boolean)))
      | _ => false)
    | .anewarray i => dOk j pc ins nx 3 && (match aux with
      | [p] => wAt p (.classLink (ownO j) i "OdometerRing$Odometer")
      | _ => false)
    | .new i => match aux with
      | [0, ci, p1, p2, p3] => dOk j pc ins nx 3 && (decide (ci < 7) && (wAt p1 (.classLink (ownO j) i (RXc ci)) && (wAt p2 (.instantiable (RXc ci) (nF ci)) && wAt p3 (.initialized (RXc ci)))))
      | [1, e, wd, is, ic, sx, p1, p2] => decide (decode (bC j) pc = .ok (ins, 3)) && (decide (decode (bC j) (pc + 3) = .ok (.dup, 1)) && (wAt p1 (.classLink (ownO j) i (excN e)) && (wAt p2 (.initialized (excN e)) && (decide (ownO j = "OdometerRing") && (decide ((strT[sx]?).map (fun q => (q.1, q.2.1)) = some (ownO j, is)) && (decide ((e = 0 ∧ ic = 46) ∨ (e = 1 ∧ ic = 57) ∨ (e = 2 ∧ ic = 136)) &&
          (match wd with
            | 0 => decide (decode (bC j) (pc + 4) = .ok (.ldc is, 2)) && (decide (decode (bC j) (pc + 6) = .ok (.invokespecial ic, 3)) && decide (decode (bC j) (pc + 9) = .ok (.athrow, 1)))
            | _ => decide (decode (bC j) (pc + 4) = .ok (.ldc_w is, 3)) && (decide (decode (bC j) (pc + 7) = .ok (.invokespecial ic, 3)) && decide (decode (bC j) (pc + 10) = .ok (.athrow, 1))))))))))
      | _ => false
    | .invokespecial i => dOk j pc ins nx 3 && (match aux with
      | [0, p1, p2, p3] => wAt p1 (.methodLink (ownO j) i objectInit) && (wAt p2 (.instanceMethod objectInit) && wAt p3 (.code objectInit ⟨#[0xb1]⟩ 1 none))
      | [1, jc, p1, p2, p3, p4] => cOk j jc p3 p2 && (wAt p1 (.instanceMethod (yN jc)) && (wAt p4 (.methodLink (ownO j) i (yN jc)) && (decide ((yN jc).name = "<init>") && (decide (rT jc = none) && decide (hhT jc = [])))))
      | [2, jc, p1, p2, p3, q] => cOk j jc p3 p2 && (wAt p1 (.instanceMethod (yN jc)) && (nestOk q j i (yN jc) (ownO j) && (decide ((yN jc).name = "<init>") && (decide (rT jc = none) && decide (hhT jc = [])))))
      | _ => false)
    | .invokevirtual i => dOk j pc ins nx 3 && (match aux with
      | [jc, p1, p2, p3, p4, p5] => cOk j jc p5 p4 && (wAt p1 (.methodLink (ownO j) i (yN jc)) && (wAt p2 (.instanceMethod (yN jc)) && (wAt p3 (.selects (yN jc).cls (yN jc) (yN jc)) && (decide (hhT jc = []) && (decide (kO jc < 7) && decide (RXc (kO jc) = (yN jc).cls))))))
      | _ => false)
    | .invokestatic i => dOk j pc ins nx 3 && (match aux with
      | [0, jc, p1, p2, p3, p4] => cOk j jc p4 p3 && (wAt p1 (.methodLink (ownO j) i (yN jc)) && wAt p2 (.static (yN jc)))
      | [4, jc, q, p2, p3, p4] => cOk j jc p4 p3 && (nestOk q j i (yN jc) (ownO j) && (wAt p2 (.static (yN jc)) && decide (hhT jc = [])))
      | [5, jc, p1, p2, p3, p4] => cOk j jc p4 p3 && (wAt p1 (.methodLink (ownO j) i (yN jc)) && (wAt p2 (.static (yN jc)) && decide (jc = 97)))
      | [1, p1, p2, p3, p4] => wAt p1 (.methodLink (ownO j) i Lib.Math.min.name) && (wAt p2 (.static Lib.Math.min.name) && (wAt p3 (.initialized "java/lang/Math") && wAt p4 (.code Lib.Math.min.name Lib.Math.min.code 2 (some .int))))
      | [2, p1, p2, p3, p4] => wAt p1 (.methodLink (ownO j) i Lib.Math.max.name) && (wAt p2 (.static Lib.Math.max.name) && (wAt p3 (.initialized "java/lang/Math") && wAt p4 (.code Lib.Math.max.name Lib.Math.max.code 2 (some .int))))
      | [3, p1, p2, p3, p4] => wAt p1 (.methodLink (ownO j) i arraycopyName) && (wAt p2 (.native arraycopyName) && (wAt p3 (.static arraycopyName) && wAt p4 (.initialized "java/lang/System")))
      | _ => false)
    | _ => dOk j pc ins nx 1
def okM (j : Nat) : Bool := (cdT j).all (fun q => okRow j q.1 q.2)
theorem okM_at {j pc : Nat} {r : Row} (h : okM j = true) (hr : lkp (cdT j) pc = some r) : okRow j pc r = true := by
  obtain ⟨i, hi⟩ := lkp_mem _ _ _ hr
  exact List.all_eq_true.mp h (pc, r) (List.mem_of_getElem? hi)
