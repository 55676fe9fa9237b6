/-! A STEP FOR MORE IS A STEP FOR LESS: written by wip/whole/mono.py -/
theorem pI_m {st : List Value} {F G : Int32 → List Value → Prop} (k : ∀ x r, F x r → G x r) (h : pI st F) : pI st G := by
  obtain ⟨x, r, rfl, h⟩ := pI_s h
  exact k _ _ h
theorem pL_m {st : List Value} {F G : Int64 → List Value → Prop} (k : ∀ x r, F x r → G x r) (h : pL st F) : pL st G := by
  obtain ⟨x, r, rfl, h⟩ := pL_s h
  exact k _ _ h
theorem pR_m {st : List Value} {F G : Nat → List Value → Prop} (k : ∀ x r, F x r → G x r) (h : pR st F) : pR st G := by
  obtain ⟨x, r, rfl, h⟩ := pR_s h
  exact k _ _ h
theorem p1_m {st : List Value} {F G : Value → List Value → Prop} (k : ∀ x r, F x r → G x r) (h : p1 st F) : p1 st G := by
  unfold p1 at h ⊢
  split at h
  · exact k _ _ h
  · exact k _ _ h
  · exact h.elim
theorem gI_m {ls : List (Nat × Value)} {aux : List Nat} {F G : Nat → Int32 → Prop} (k : ∀ i x, F i x → G i x) (h : gI ls aux F) : gI ls aux G := by
  obtain ⟨i, x, rfl, hl, h⟩ := gI_s h
  show (match lkp ls i with
    | some (.int x) => G i x
    | _ => False)
  rw [hl]
  exact k _ _ h
theorem gL_m {ls : List (Nat × Value)} {aux : List Nat} {F G : Nat → Int64 → Prop} (k : ∀ i x, F i x → G i x) (h : gL ls aux F) : gL ls aux G := by
  obtain ⟨i, x, rfl, hl, h⟩ := gL_s h
  show (match lkp ls i with
    | some (.long x) => G i x
    | _ => False)
  rw [hl]
  exact k _ _ h
theorem gR_m {ls : List (Nat × Value)} {aux : List Nat} {F G : Nat → Nat → Prop} (k : ∀ i x, F i x → G i x) (h : gR ls aux F) : gR ls aux G := by
  obtain ⟨i, x, rfl, hl, h⟩ := gR_s h
  show (match lkp ls i with
    | some (.ref x) => G i x
    | _ => False)
  rw [hl]
  exact k _ _ h
theorem a1_m {aux : List Nat} {F G : Nat → Prop} (k : ∀ i, F i → G i) (h : a1 aux F) : a1 aux G := by
  obtain ⟨i, rfl, h⟩ := a1_s h
  exact k _ h
theorem aC_m {aux : List Nat} {F G : Nat → List Nat → Prop} (k : ∀ i r, F i r → G i r) (h : aC aux F) : aC aux G := by
  obtain ⟨i, r, rfl, h⟩ := aC_s h
  exact k _ _ h
theorem aF_m {aux : List Nat} {F G : Nat → Nat → Nat → Prop} (k : ∀ a b t, F a b t → G a b t) (h : aF aux F) : aF aux G := by
  obtain ⟨a, b, t, r, rfl, h⟩ := aF_s h
  exact k _ _ _ h
theorem nI1_m {n k : Nat} {a b a' b' : Prop} (ha : a → a') (hb : b → b') (h : nI1 n k a b) : nI1 n k a' b' := by
  unfold nI1 at h ⊢
  revert h
  cases Nat.beq n k with
  | true => exact ha
  | false => exact hb
theorem pA_m {n : Nat} {st : List Value} {F G : List Value → List Value → Prop} (k : ∀ as r, F as r → G as r) (h : pA n st F) : pA n st G := by
  unfold pA at h ⊢
  revert h
  cases popN n st [] with
  | none => exact fun h => h
  | some q => exact fun h => k _ _ h
theorem pB_m {as : List Value} {F G : Nat → List Value → Prop} (k : ∀ b r, F b r → G b r) (h : pB as F) : pB as G := by
  obtain ⟨b, r, rfl, h⟩ := pB_s h
  exact k _ _ h
theorem drI_m {SX : Option (Nat × (Nat → Int32))} {a : Nat} {k : Int32} {F G : Int32 → Prop} (h : ∀ v, F v → G v) (hI : drI SX a k F) : drI SX a k G := by
  unfold drI at hI ⊢
  split at hI
  · exact ⟨hI.1, hI.2.1, h _ hI.2.2⟩
  · exact hI
theorem brE_m {o : ClassFile.Cond} {x y : Int32} {T F T' F' : Prop} (ht : T → T') (hf : F → F') (h : brE o x y T F) : brE o x y T' F' := by
  cases o <;> exact ⟨fun q => ht (h.1 q), fun q => hf (h.2 q)⟩
theorem swC_m {x : Int32} {f g : Nat → Prop} (k : ∀ t, f t → g t) : ∀ (ks : List Nat) (d : Nat), swC x ks d f → swC x ks d g
  | [], _, h => k _ h
  | [_], _, h => k _ h
  | _ :: _ :: r, d, h => ⟨fun q => k _ (h.1 q), fun q => swC_m k r d (h.2 q)⟩
theorem aftC_m {hn : Nat → String → Option Nat} {nx pc : Nat} {ls : List (Nat × Value)} {r : List Value} {w : Wd} {nc ns : Nat} {X Y : Fr → Prop} (hY : ∀ g, Y g → X g) {rs : Res} {w' : Wd} (h : aftC hn nx pc ls r w nc ns Y rs w') : aftC hn nx pc ls r w nc ns X rs w' := by
  obtain ⟨h1, h2⟩ := h
  refine ⟨h1, ?_⟩
  rcases rs with (_ | v) | E
  · exact hY _ h2
  · exact hY _ h2
  · revert h2
    dsimp only
    cases hn pc E with
    | none => exact fun h => h
    | some h9 => exact fun h => ⟨h.1, hY _ h.2⟩
set_option maxHeartbeats 4000000 in
theorem stepI_m {C : Cal} {mj : Nat → Nat × Nat} {kj nj : Nat → Nat} {SX : Option (Nat × (Nat → Int32))} {mxc mxs : Nat} {hn : Nat → String → Option Nat} {Rt : Option Value → Wd → Nat → Nat → Prop} {Th : String → Wd → Nat → Nat → Prop} {ins : Instr} {nx : Nat} {aux : List Nat} {kc : Int32} {kl : Int64} {pc : Nat} {ls : List (Nat × Value)} {st : List Value} {w : Wd} {nc ns : Nat} {X Y : Fr → Prop}
    (hY : ∀ g, Y g → X g) (h : stepI C mj kj nj SX mxc mxs hn Rt Th ins nx aux kc kl pc ls st w nc ns Y) : stepI C mj kj nj SX mxc mxs hn Rt Th ins nx aux kc kl pc ls st w nc ns X := by
  cases ins with
  | iconst _ => exact hY _ h
  | bipush _ => exact hY _ h
  | sipush _ => exact hY _ h
  | ldc _ => exact hY _ h
  | ldc_w _ => exact hY _ h
  | lconst _ => exact hY _ h
  | ldc2_w _ => exact hY _ h
  | iload_n _ => exact gI_m (fun _ _ => hY _) h
  | iload _ => exact gI_m (fun _ _ => hY _) h
  | lload_n _ => exact gL_m (fun _ _ => hY _) h
  | lload _ => exact gL_m (fun _ _ => hY _) h
  | aload_n _ => exact gR_m (fun _ _ => hY _) h
  | aload _ => exact gR_m (fun _ _ => hY _) h
  | istore_n _ => exact a1_m (fun _ => pI_m (fun _ _ => hY _)) h
  | istore _ => exact a1_m (fun _ => pI_m (fun _ _ => hY _)) h
  | lstore_n _ => exact a1_m (fun _ => pL_m (fun _ _ => hY _)) h
  | lstore _ => exact a1_m (fun _ => pL_m (fun _ _ => hY _)) h
  | astore_n _ => exact a1_m (fun _ => pR_m (fun _ _ => hY _)) h
  | astore _ => exact a1_m (fun _ => pR_m (fun _ _ => hY _)) h
  | iinc _ _ => exact gI_m (fun _ _ => hY _) h
  | iadd => exact pI_m (fun _ _ => pI_m (fun _ _ => hY _)) h
  | isub => exact pI_m (fun _ _ => pI_m (fun _ _ => hY _)) h
  | imul => exact pI_m (fun _ _ => pI_m (fun _ _ => hY _)) h
  | ishr => exact pI_m (fun _ _ => pI_m (fun _ _ => hY _)) h
  | iand => exact pI_m (fun _ _ => pI_m (fun _ _ => hY _)) h
  | idiv => exact pI_m (fun _ _ => pI_m (fun _ _ q => ⟨q.1, hY _ q.2⟩)) h
  | irem => exact pI_m (fun _ _ => pI_m (fun _ _ q => ⟨q.1, hY _ q.2⟩)) h
  | ladd => exact pL_m (fun _ _ => pL_m (fun _ _ => hY _)) h
  | lsub => exact pL_m (fun _ _ => pL_m (fun _ _ => hY _)) h
  | lmul => exact pL_m (fun _ _ => pL_m (fun _ _ => hY _)) h
  | land => exact pL_m (fun _ _ => pL_m (fun _ _ => hY _)) h
  | lor => exact pL_m (fun _ _ => pL_m (fun _ _ => hY _)) h
  | lcmp => exact pL_m (fun _ _ => pL_m (fun _ _ => hY _)) h
  | ldiv => exact pL_m (fun _ _ => pL_m (fun _ _ q => ⟨q.1, hY _ q.2⟩)) h
  | lrem => exact pL_m (fun _ _ => pL_m (fun _ _ q => ⟨q.1, hY _ q.2⟩)) h
  | lushr => exact pI_m (fun _ _ => pL_m (fun _ _ => hY _)) h
  | lshl => exact pI_m (fun _ _ => pL_m (fun _ _ => hY _)) h
  | i2l => exact pI_m (fun _ _ => hY _) h
  | l2i => exact pL_m (fun _ _ => hY _) h
  | dup => exact p1_m (F := fun v r => Y (nx, ls, v :: v :: r, w, nc, ns)) (fun _ _ => hY _) h
  | pop => exact p1_m (F := fun _ r => Y (nx, ls, r, w, nc, ns)) (fun _ _ => hY _) h
  | dup2 => exact p1_m (F := fun v r1 => p1 r1 (fun u r => Y (nx, ls, v :: u :: v :: u :: r, w, nc, ns))) (fun _ _ => p1_m (fun _ _ => hY _)) h
  | ifCond _ _ => exact a1_m (fun _ => pI_m (fun _ _ => brE_m (hY _) (hY _))) h
  | if_icmp _ _ => exact a1_m (fun _ => pI_m (fun _ _ => pI_m (fun _ _ => brE_m (hY _) (hY _)))) h
  | goto _ => exact a1_m (fun _ => hY _) h
  | ifnull _ => exact a1_m (fun _ => pR_m (fun _ _ q => ⟨fun z => hY _ (q.1 z), fun z => hY _ (q.2 z)⟩)) h
  | tableswitch _ _ _ _ => exact aC_m (fun _ _ => pI_m (fun _ _ => swC_m (fun _ => hY _) _ _)) h
  | lookupswitch _ _ => exact aC_m (fun _ _ => pI_m (fun _ _ => swC_m (fun _ => hY _) _ _)) h
  | getfield _ => exact aF_m (fun _ _ _ => pR_m (fun _ _ q => ⟨q.1, nI1_m (hY _) (hY _) q.2⟩)) h
  | putfield _ => exact aF_m (fun _ _ _ => nI1_m (pR_m (fun _ _ => pR_m (fun _ _ q => ⟨q.1, q.2.1, hY _ q.2.2⟩))) (pI_m (fun _ _ => pR_m (fun _ _ q => ⟨q.1, q.2.1, hY _ q.2.2⟩)))) h
  | iaload =>
    refine pI_m (fun i _ => pR_m (fun a r => ?_)) h
    cases SX with
    | none => exact fun q => ⟨q.1, q.2.1, hY _ q.2.2⟩
    | some q9 => exact fun q => nI1_m (fun q => ⟨q.1, hY _ q.2⟩) (fun q => ⟨q.1, q.2.1, hY _ q.2.2⟩) q
  | arraylength =>
    refine pR_m (fun a r => ?_) h
    cases SX with
    | none => exact fun q => ⟨q.1, hY _ q.2⟩
    | some q9 => exact fun q => nI1_m (hY _) (fun q => ⟨q.1, hY _ q.2⟩) q
  | iastore => exact pI_m (fun _ _ => pI_m (fun _ _ => pR_m (fun _ _ q => ⟨q.1, q.2.1, hY _ q.2.2⟩))) h
  | bastore => exact pI_m (fun _ _ => pI_m (fun _ _ => pR_m (fun _ _ q => ⟨q.1, q.2.1, hY _ q.2.2⟩))) h
  | baload => exact pI_m (fun _ _ => pR_m (fun _ _ q => ⟨q.1, q.2.1, hY _ q.2.2⟩)) h
  | aaload => exact pI_m (fun _ _ => pR_m (fun _ _ q => ⟨q.1, q.2.1, hY _ q.2.2⟩)) h
  | aastore => exact pR_m (fun _ _ => pI_m (fun _ _ => pR_m (fun _ _ q => ⟨q.1, q.2.1, q.2.2.1, hY _ q.2.2.2⟩))) h
  | newarray _ => exact aC_m (fun _ _ => pI_m (fun _ _ q => ⟨q.1, hY _ q.2⟩)) h
  | anewarray _ => exact pI_m (fun _ _ q => ⟨q.1, hY _ q.2⟩) h
  | new _ => exact aC_m (fun _ _ => aC_m (fun _ _ => nI1_m (fun q => ⟨q.1, hY _ q.2⟩) (fun q => q))) h
  | invokespecial _ => exact aC_m (fun _ _ => nI1_m (pR_m (fun _ _ q => ⟨q.1, q.2.1, hY _ q.2.2⟩)) (aC_m (fun _ _ => pA_m (fun _ _ => pB_m (fun _ _ q => ⟨q.1, q.2.1, by obtain ⟨P, hP, hk⟩ := q.2.2; exact ⟨P, hP, fun rs w9 z => aftC_m hY (hk rs w9 z)⟩⟩))))) h
  | invokevirtual _ => exact aC_m (fun _ _ => pA_m (fun _ _ => pB_m (fun _ _ q => ⟨q.1, q.2.1, by obtain ⟨P, hP, hk⟩ := q.2.2; exact ⟨P, hP, fun rs w9 z => aftC_m hY (hk rs w9 z)⟩⟩))) h
  | invokestatic _ => exact aC_m (fun _ _ => nI1_m (pI_m (fun _ _ => pI_m (fun _ _ q => ⟨q.1, hY _ q.2⟩))) (nI1_m (pI_m (fun _ _ => pI_m (fun _ _ q => ⟨q.1, hY _ q.2⟩))) (nI1_m (pI_m (fun _ _ => pI_m (fun _ _ => pR_m (fun _ _ => pI_m (fun _ _ => pR_m (fun _ _ q => ⟨q.1, hY _ q.2⟩)))))) (nI1_m (pI_m (fun _ _ => pR_m (fun _ _ => drI_m (fun _ q => ⟨q.1, hY _ q.2⟩)))) (aC_m (fun _ _ => pA_m (fun _ _ q => ⟨q.1, by obtain ⟨P, hP, hk⟩ := q.2; exact ⟨P, hP, fun rs w9 z => aftC_m hY (hk rs w9 z)⟩⟩))))))) h
  | ireturn => exact h
  | lreturn => exact h
  | return_ => exact h
  | _ => exact h
