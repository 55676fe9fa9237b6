/-! A RING at A + 1 to A + 136, as a value: its text, its row, what is remembered, what is saved -/
theorem pN_m {st : List Value} {F G : Prop} (k : F → G) (h : pN st F) : pN st G := by
  obtain ⟨rfl, h⟩ := pN_s h
  exact k h
theorem stepI_r {C : Cal} {mj : Nat → Nat × Nat} {kj nj : Nat → Nat} {SX : Option (Nat × (Nat → Int32))} {mxc mxs : Nat} {hn : Nat → String → Option Nat} {Rt Rt' : Option Value → Wd → Nat → Nat → Prop} {Th Th' : String → Wd → Nat → Nat → Prop} {ins : Instr} {nx : Nat} {aux : List Nat} {kc : Int32} {kl : Int64} {pc : Nat} {ls : List (Nat × Value)} {st : List Value} {w : Wd} {nc ns : Nat} {X : Fr → Prop}
    (hR : ∀ v w nc ns, Rt v w nc ns → Rt' v w nc ns) (hT : ∀ E w nc ns, Th E w nc ns → Th' E w nc ns) (h : stepI C mj kj nj SX mxc mxs hn Rt Th ins nx aux kc kl pc ls st w nc ns X) : stepI C mj kj nj SX mxc mxs hn Rt' Th' ins nx aux kc kl pc ls st w nc ns X := by
  cases ins with
  | ireturn => exact pI_m (fun x r => pN_m (hR _ _ _ _)) h
  | lreturn => exact pL_m (fun x r => pN_m (hR _ _ _ _)) h
  | return_ => exact pN_m (hR _ _ _ _) h
  | new _ => exact aC_m (fun _ _ => aC_m (fun _ _ => nI1_m (fun q => q) (fun q => ⟨q.1, hT _ _ _ _ q.2⟩))) h
  | _ => exact h
theorem Wp_mono {d j : Nat} {as : List Value} {w : Wd} {Q Q' : Res → Wd → Prop} (h : Wp d j as w Q) (hQ : ∀ rs w', Q rs w' → Q' rs w') : Wp d j as w Q' := by
  cases d with
  | zero => exact h
  | succ d =>
    obtain ⟨hc, hE⟩ := h
    refine ⟨hc, fun X hX => hE X (fun g Y hg hY => hX g Y ?_ hY)⟩
    obtain ⟨pc, ls, st, w, nc, ns⟩ := g
    have hg : (match lkp (cdT j) pc with
      | some (ins, nx, aux, kc, kl) => stepI (Wp d) mjT kO nA none (mjT j).1 (mjT j).2 (hnT j) (RtJ j Q) (ThJ (d + 1) j Q) ins nx aux kc kl pc (nzA (nzT j) pc ls) st w nc ns Y
      | none => False) := hg
    show (match lkp (cdT j) pc with
      | some (ins, nx, aux, kc, kl) => stepI (Wp d) mjT kO nA none (mjT j).1 (mjT j).2 (hnT j) (RtJ j Q') (ThJ (d + 1) j Q') ins nx aux kc kl pc (nzA (nzT j) pc ls) st w nc ns Y
      | none => False)
    cases hl : lkp (cdT j) pc with
    | none => rw [hl] at hg; exact hg
    | some row =>
      obtain ⟨ins, nx, aux, kc, kl⟩ := row
      rw [hl] at hg
      refine stepI_r (fun v w nc ns hR => ?_) (fun E w nc ns hT => ⟨hT.1, hQ _ _ hT.2⟩) hg
      obtain ⟨h1, h2⟩ := hR
      refine ⟨h1, ?_⟩
      split at h2
      · exact hQ _ _ h2
      · exact ⟨h2.1, hQ _ _ h2.2⟩
      · exact hQ _ _ h2
      · exact hQ _ _ h2
      · exact h2
def pbS (A : Nat) (S : Sc) : Sc := (136, fun c => if 1 ≤ c ∧ c ≤ 136 then S.2.1 (A + c) else 99, fun c => S.2.2.1 (A + c), fun c k => S.2.2.2 (A + c) k - A)
def pbM (A : Nat) (N : Nat → Nat → Int32) : Nat → Nat → Int32 := fun c => N (A + c)
/-- the scene has a ring from A + 1 on -/
def Scn (A : Nat) (S : Sc) : Prop := RgS (pbS A S) ∧ A < 1000
theorem fK_1 {ci k : Nat} (h : fK ci k = 1) (hk : k < nF ci) : (ci = 0 ∧ (k = 2 ∨ k = 3)) ∨ (ci = 1 ∧ k = 2) ∨ (ci = 2 ∧ (k = 0 ∨ k = 1)) ∨ (ci = 3 ∧ (k = 1 ∨ k = 2)) ∨ (ci = 4 ∧ (k = 0 ∨ k = 1)) ∨ (ci = 5 ∧ k = 8) ∨ (ci = 6 ∧ k < 5) ∨ ci = 7 := by
  unfold fK at h
  split at h <;> first | omega | exact absurd h (by decide) | skip
  exact Or.inr (Or.inr (Or.inr (Or.inr (Or.inr (Or.inr (Or.inl ⟨rfl, hk⟩))))))
theorem OdS_used {S : Sc} {b : Nat} (h : OdS S b) (o k : Nat) (ho : o < 7) (hu : usedR S (b + o) k) : 1 ≤ S.2.2.2 (b + o) k := by
  obtain ⟨⟨k0, k1, k2, k3, k4, k5, k6⟩, ⟨r0, r1, r2, r3, r4, r5⟩, _⟩ := h
  rcases (show o = 0 ∨ o = 1 ∨ o = 2 ∨ o = 3 ∨ o = 4 ∨ o = 5 ∨ o = 6 by omega) with rfl | rfl | rfl | rfl | rfl | rfl | rfl
  · rw [Nat.add_zero] at hu ⊢
    rcases hu with ⟨u1, u2, u3⟩ | ⟨u1, u2⟩
    · rw [k0] at u2 u3
      rcases fK_1 u3 u2 with g | g | g | g | g | g | g | g <;> first | (exfalso; omega) | skip
      rcases g.2 with rfl | rfl <;> omega
    · omega
  · rcases hu with ⟨u1, u2, u3⟩ | ⟨u1, u2⟩
    · rw [k1] at u2 u3
      rcases fK_1 u3 u2 with g | g | g | g | g | g | g | g <;> first | (exfalso; omega) | skip
      rcases g.2 with rfl | rfl <;> omega
    · omega
  · rcases hu with ⟨u1, u2, u3⟩ | ⟨u1, u2⟩ <;> omega
  · rcases hu with ⟨u1, u2, u3⟩ | ⟨u1, u2⟩ <;> omega
  · rcases hu with ⟨u1, u2, u3⟩ | ⟨u1, u2⟩
    · rw [k4] at u2 u3
      rcases fK_1 u3 u2 with g | g | g | g | g | g | g | g <;> first | (exfalso; omega) | skip
      rcases g.2 with rfl | rfl <;> omega
    · omega
  · rcases hu with ⟨u1, u2, u3⟩ | ⟨u1, u2⟩ <;> omega
  · rcases hu with ⟨u1, u2, u3⟩ | ⟨u1, u2⟩ <;> omega
theorem ShS_used {S : Sc} {b n : Nat} (h : ShS S b n) (hb : 1 ≤ b) (o k : Nat) (ho : o < 3 + 7 * n) (hu : usedR S (b + o) k) : 1 ≤ S.2.2.2 (b + o) k := by
  obtain ⟨k0, r0, r1, k1, l1, k2, l2, hO⟩ := h
  rcases Nat.lt_or_ge o 3 with g | g
  · rcases (show o = 0 ∨ o = 1 ∨ o = 2 by omega) with rfl | rfl | rfl
    · rw [Nat.add_zero] at hu ⊢
      rcases hu with ⟨u1, u2, u3⟩ | ⟨u1, u2⟩
      · rw [k0] at u2 u3
        rcases fK_1 u3 u2 with g | g | g | g | g | g | g | g <;> first | (exfalso; omega) | skip
        rcases g.2 with rfl | rfl <;> omega
      · omega
    · rcases hu with ⟨u1, u2, u3⟩ | ⟨u1, u2⟩
      · omega
      · rw [l1] at u2
        have := (hO k u2).1
        omega
    · rcases hu with ⟨u1, u2, u3⟩ | ⟨u1, u2⟩ <;> omega
  · have e : b + o = b + 3 + 7 * ((o - 3) / 7) + (o - 3) % 7 := by omega
    rw [e] at hu ⊢
    exact OdS_used (hO ((o - 3) / 7) (by omega)).2 _ k (by omega) hu
theorem ring_used {S : Sc} (h : RgS S) (c k : Nat) (h1 : 1 ≤ c) (h2 : c ≤ 136) (hu : usedR S c k) : 1 ≤ S.2.2.2 c k := by
  obtain ⟨⟨s1, s2, s3, s4⟩, hO, hT, ⟨b1, r0, r1, r2, r3, r4⟩, ⟨b18, r18⟩, hH, hV⟩ := h
  rcases (show c = 1 ∨ c = 2 ∨ c = 3 ∨ (4 ≤ c ∧ c < 11) ∨ (11 ≤ c ∧ c < 18) ∨ c = 18 ∨ (19 ≤ c ∧ c < 120) ∨ 120 ≤ c by omega) with rfl | rfl | rfl | g | g | rfl | g | g
  · rcases hu with ⟨u1, u2, u3⟩ | ⟨u1, u2⟩
    · rw [b1] at u2 u3
      rcases fK_1 u3 u2 with g | g | g | g | g | g | g | g <;> first | (exfalso; omega) | skip
      rcases (show k = 0 ∨ k = 1 ∨ k = 2 ∨ k = 3 ∨ k = 4 by omega) with rfl | rfl | rfl | rfl | rfl <;> omega
    · omega
  · rcases hu with ⟨u1, u2, u3⟩ | ⟨u1, u2⟩
    · rw [s1] at u2 u3
      rcases fK_1 u3 u2 with g | g | g | g | g | g | g | g <;> first | (exfalso; omega) | skip
      obtain ⟨_, rfl⟩ := g
      omega
    · omega
  · rcases hu with ⟨u1, u2, u3⟩ | ⟨u1, u2⟩ <;> omega
  · have e : c = 4 + (c - 4) := by omega
    rw [e] at hu ⊢
    exact OdS_used hO _ k (by omega) hu
  · have e : c = 11 + (c - 11) := by omega
    rw [e] at hu ⊢
    exact OdS_used hT _ k (by omega) hu
  · rcases hu with ⟨u1, u2, u3⟩ | ⟨u1, u2⟩
    · rw [b18] at u2 u3
      rcases fK_1 u3 u2 with g | g | g | g | g | g | g | g <;> first | (exfalso; omega) | skip
      obtain ⟨_, rfl⟩ := g
      omega
    · omega
  · have e : c = 19 + (c - 19) := by omega
    rw [e] at hu ⊢
    exact ShS_used hH (by omega) _ k (by omega) hu
  · have e : c = 120 + (c - 120) := by omega
    rw [e] at hu ⊢
    exact ShS_used hV (by omega) _ k (by omega) hu
theorem Scn.emb {A : Nat} {S : Sc} (h : Scn A S) : Emb A (pbS A S) S := by
  refine ⟨fun c h1 h2 => ⟨?_, rfl, fun k hu => ?_⟩, fun c hc => ?_⟩
  · show S.2.1 (A + c) = if 1 ≤ c ∧ c ≤ 136 then S.2.1 (A + c) else 99
    rw [if_pos ⟨h1, h2⟩]
  · have := ring_used h.1 c k h1 h2 hu
    have this : 1 ≤ S.2.2.2 (A + c) k - A := this
    show S.2.2.2 (A + c) k = fA A (S.2.2.2 (A + c) k - A)
    rw [fA_p this]
    omega
  · have hc : (if 1 ≤ c ∧ c ≤ 136 then S.2.1 (A + c) else 99) < 20 := hc
    by_cases g : 1 ≤ c ∧ c ≤ 136
    · exact g
    · rw [if_neg g] at hc
      omega
theorem ovl_pb {A : Nat} {N : Nat → Nat → Int32} : ovl A N (pbM A N) = N := by
  funext c
  unfold ovl
  split
  · show N (A + (c - A)) = N c
    rw [show A + (c - A) = c by omega]
  · rfl
theorem pb_ovl {A : Nat} {N M : Nat → Nat → Int32} {c : Nat} (h1 : 1 ≤ c) (h2 : c ≤ 136) : pbM A (ovl A N M) c = M c := ovl_at h1 h2
theorem lift {A d j : Nat} {S : Sc} {N : Nat → Nat → Int32} {J : Nat → Nat → Int64} {as : List Value} {Q : Res → Wd → Prop} (hs : Scn A S) (hj : shJ j = true) (h : Wp d j as (pbS A S, pbM A N, J) Q) : Wp d j (as.map (fV A)) (S, N, J) (fun rs w' => ∃ M', Q rs (pbS A S, M', J) ∧ w' = (S, ovl A N M', J)) := by
  have := shift (N := N) hs.emb d j as (pbM A N) Q hj h
  rw [ovl_pb] at this
  exact Wp_mono this (fun rs w' ⟨M', h1, _, h3⟩ => ⟨M', h1, h3⟩)
/-- nothing but the ring at A changes -/
def Frm (A : Nat) (N N' : Nat → Nat → Int32) : Prop := ∀ c, ¬ (A < c ∧ c ≤ A + 136) → N' c = N c
theorem Frm.rf (A : Nat) (N : Nat → Nat → Int32) : Frm A N N := fun _ _ => rfl
theorem Frm.tr {A : Nat} {N N' N'' : Nat → Nat → Int32} (h : Frm A N N') (h' : Frm A N' N'') : Frm A N N'' := fun c hc => (h' c hc).trans (h c hc)
theorem frm_ovl {A : Nat} {N M : Nat → Nat → Int32} : Frm A N (ovl A N M) := fun c hc => if_neg hc
abbrev Tx : Type := Nat × (Nat → Nat)
abbrev Pst9 : Type := Nat × (Nat → Rw)
abbrev Sav : Type := (Nat → Bool) × (Nat → Rw)
def RI (B : Nat) (T : Tx) (ρ : Rw) (P : Pst9) (V : Sav) (M : Nat → Nat → Int32) : Prop :=
  TxC M T.1 T.2 ∧ Sr B (vO M 4) ρ ∧
  (∃ y, y < 14 ∧ P.1 ≤ 14 ∧ M 18 0 = nI P.1 ∧ M 18 1 = nI y ∧ ∀ i, i < P.1 → Sr B (vO M (22 + 7 * ((y + 13 - i) % 14))) (P.2 i)) ∧
  (∀ k, k < 2 → (V.1 k = true → M 122 k = 1 ∧ Sr B (vO M (123 + 7 * k)) (V.2 k)) ∧ (V.1 k = false → M 122 k = 0))
section
variable {B B' : Nat} {T : Tx} {ρ ρ' σ' : Rw} {P : Pst9} {V : Sav} {M M' : Nat → Nat → Int32}
theorem RI.mono (h : RI B T ρ P V M) (hB : B ≤ B') : RI B' T ρ P V M := by
  obtain ⟨h1, h2, ⟨y, a1, a2, a3, a4, a5⟩, h4⟩ := h
  exact ⟨h1, h2.mono hB, ⟨y, a1, a2, a3, a4, fun i hi => (a5 i hi).mono hB⟩, fun k hk => ⟨fun z => ⟨((h4 k hk).1 z).1, ((h4 k hk).1 z).2.mono hB⟩, (h4 k hk).2⟩⟩
/-- what isn't spoken of may change -/
theorem RI.cg (h : RI B T ρ P V M) (he : ∀ c k, 1 ≤ c → c ≤ 136 → (c < 11 ∨ 18 ≤ c) → (c = 2 → k = 0) → M' c k = M c k) : RI B T ρ P V M' := by
  obtain ⟨c1, h2, ⟨y, a1, a2, a3, a4, a5⟩, h4⟩ := h
  have ev : ∀ b, (b = 4 ∨ (18 ≤ b ∧ b < 131)) → ∀ q, vO M' b q = vO M b q := fun b hb q => vO_eqv (fun o k x1 x2 => he o k (by omega) (by omega) (by omega) (by omega)) q
  refine ⟨⟨(he 2 0 (by omega) (by omega) (by omega) (by omega)).trans c1.1, c1.2.1, fun q hq => ?_⟩, h2.cg (fun q _ => ev 4 (by omega) q) (fun q _ => rfl), ⟨y, a1, a2, (he 18 0 (by omega) (by omega) (by omega) (by omega)).trans a3, (he 18 1 (by omega) (by omega) (by omega) (by omega)).trans a4, fun i hi => (a5 i hi).cg (fun q _ => ev _ (by omega) q) (fun q _ => rfl)⟩, fun k hk => ⟨fun z => ⟨?_, ((h4 k hk).1 z).2.cg (fun q _ => ev _ (by omega) q) (fun q _ => rfl)⟩, fun z => ?_⟩⟩
  · rw [he 3 q (by omega) (by omega) (by omega) (by omega)]
    exact c1.2.2 q hq
  · rw [he 122 k (by omega) (by omega) (by omega) (by omega)]
    exact ((h4 k hk).1 z).1
  · rw [he 122 k (by omega) (by omega) (by omega) (by omega)]
    exact (h4 k hk).2 z
theorem RI.jk (h : RI B T ρ P V M) (hJ : Jk M M') : RI B T ρ P V M' := h.cg (fun c k _ _ x3 x4 => hJ c k ⟨by omega, x3, fun z => by omega, x4⟩)
theorem RI.pb {A : Nat} {N : Nat → Nat → Int32} (h : RI B T ρ P V M) : RI B T ρ P V (pbM A (ovl A N M)) := h.cg (fun c k x1 x2 _ _ => by rw [pb_ovl x1 x2])
theorem RI.frm {A A' : Nat} {N N' : Nat → Nat → Int32} (h : RI B T ρ P V (pbM A N)) (hF : Frm A' N N') (hA : A + 136 ≤ A' ∨ A' + 136 ≤ A) : RI B T ρ P V (pbM A N') := h.cg (fun c k x1 x2 _ _ => by
  show N' (A + c) k = N (A + c) k
  rw [hF (A + c) (by omega)])
def push (ρ : Rw) (P : Pst9) : Pst9 := (min (P.1 + 1) 14, fun i => if i = 0 then ρ else P.2 (i - 1))
def back (P : Pst9) : Pst9 := (P.1 - 1, fun i => P.2 (i + 1))
theorem RI_push (h : RI B T ρ P V M) (hB : B ≤ B') {y : Nat} (hy : y < 14) (hH : ∀ i, i < P.1 → Sr B (vO M (22 + 7 * ((y + 13 - i) % 14))) (P.2 i)) (hs : Sr B' σ' ρ') : RI B' T ρ' (push ρ P) V (sO (hRem M P.1 y) 4 σ') := by
  obtain ⟨c1, h2, ⟨_, _, a2, _, _, _⟩, h4⟩ := h
  obtain ⟨M1, hM1⟩ : ∃ M1, M1 = sO (hRem M P.1 y) 4 σ' := ⟨_, rfl⟩
  rw [← hM1]
  have k1 : ∀ o, (o < 4 ∨ 11 ≤ o) → o ≠ 18 → o ≠ 21 → (o < 22 + 7 * y ∨ 29 + 7 * y ≤ o) → M1 o = M o := by
    intro o x1 x2 x3 x4
    rw [hM1, sO_ot _ _ _ (by omega)]
    unfold hRem
    rw [upA_n _ _ x2, upA_n _ _ x3, sO_ot _ _ _ (by omega)]
  have k18 : M1 18 = upd (upd (M 18) 1 (nI ((y + 1) % 14))) 0 (nI (min (P.1 + 1) 14)) := by
    rw [hM1, sO_ot _ _ _ (by omega)]
    unfold hRem
    rw [upA_s]
  have kv4 : ∀ q, q < 114 → vO M1 4 q = σ' q := fun q hq => by rw [hM1]; exact vO_sO _ _ _ hq
  have kvy : ∀ q, q < 114 → vO M1 (22 + 7 * y) q = vO M 4 q := by
    intro q hq
    have e : vO M1 (22 + 7 * y) q = vO (sO M (22 + 7 * y) (vO M 4)) (22 + 7 * y) q := by
      refine vO_eqv (fun o k x1 x2 => ?_) q
      rw [hM1, sO_ot _ _ _ (by omega)]
      unfold hRem
      rw [upA_n _ _ (by omega), upA_n _ _ (by omega)]
    rw [e]
    exact vO_sO _ _ _ hq
  have kvs : ∀ b, 22 ≤ b → (b + 7 ≤ 22 + 7 * y ∨ 29 + 7 * y ≤ b) → ∀ q, vO M1 b q = vO M b q := fun b x1 x2 q => vO_eqv (fun o k z1 z2 => by rw [k1 o (by omega) (by omega) (by omega) (by omega)]) q
  refine ⟨⟨?_, c1.2.1, fun q hq => ?_⟩, hs.cg kv4 (fun q _ => rfl), ⟨(y + 1) % 14, by omega, ?_, ?_, ?_, fun i hi => ?_⟩, fun k hk => ⟨fun z => ⟨?_, ?_⟩, fun z => ?_⟩⟩
  · rw [k1 2 (by omega) (by omega) (by omega) (by omega)]
    exact c1.1
  · rw [k1 3 (by omega) (by omega) (by omega) (by omega)]
    exact c1.2.2 q hq
  · show min (P.1 + 1) 14 ≤ 14
    omega
  · rw [k18, pk_us]
    rfl
  · rw [k18, pk_un (by omega), pk_us]
  · have hi : i < min (P.1 + 1) 14 := hi
    show Sr B' (vO M1 (22 + 7 * (((y + 1) % 14 + 13 - i) % 14))) (if i = 0 then ρ else P.2 (i - 1))
    by_cases e : i = 0
    · rw [if_pos e, show ((y + 1) % 14 + 13 - i) % 14 = y by omega]
      exact (h2.mono hB).cg kvy (fun q _ => rfl)
    · rw [if_neg e, show ((y + 1) % 14 + 13 - i) % 14 = (y + 13 - (i - 1)) % 14 by omega]
      have hne : (y + 13 - (i - 1)) % 14 ≠ y := by omega
      exact ((hH (i - 1) (by omega)).mono hB).cg (fun q _ => kvs _ (by omega) (by omega) q) (fun q _ => rfl)
  · rw [k1 122 (by omega) (by omega) (by omega) (by omega)]
    exact ((h4 k hk).1 z).1
  · exact (((h4 k hk).1 z).2.mono hB).cg (fun q _ => kvs _ (by omega) (by omega) q) (fun q _ => rfl)
  · rw [k1 122 (by omega) (by omega) (by omega) (by omega)]
    exact (h4 k hk).2 z
theorem RI_back (h : RI B T ρ P V M) (ha : 1 ≤ P.1) {y : Nat} (hy : y < 14) (hH : ∀ i, i < P.1 → Sr B (vO M (22 + 7 * ((y + 13 - i) % 14))) (P.2 i)) : RI B T (P.2 0) (back P) V (hBack M P.1 y) := by
  obtain ⟨c1, h2, ⟨_, _, a2, _, _, _⟩, h4⟩ := h
  obtain ⟨M1, hM1⟩ : ∃ M1, M1 = hBack M P.1 y := ⟨_, rfl⟩
  rw [← hM1]
  have k1 : ∀ o, (o < 4 ∨ 11 ≤ o) → o ≠ 18 → M1 o = M o := by
    intro o x1 x2
    rw [hM1]
    unfold hBack
    rw [upA_n _ _ x2, sO_ot _ _ _ (by omega)]
  have k18 : M1 18 = upd (upd (M 18) 1 (nI ((y + 13) % 14))) 0 (nI (P.1 - 1)) := by
    rw [hM1]
    unfold hBack
    rw [upA_s]
  have kv4 : ∀ q, q < 114 → vO M1 4 q = vO M (22 + 7 * ((y + 13) % 14)) q := by
    intro q hq
    have e : vO M1 4 q = vO (sO M 4 (vO M (22 + 7 * ((y + 13) % 14)))) 4 q := by
      refine vO_eqv (fun o k x1 x2 => ?_) q
      rw [hM1]
      unfold hBack
      rw [upA_n _ _ (by omega)]
    rw [e]
    exact vO_sO _ _ _ hq
  have kvs : ∀ b, 22 ≤ b → ∀ q, vO M1 b q = vO M b q := fun b x1 q => vO_eqv (fun o k z1 z2 => by rw [k1 o (by omega) (by omega)]) q
  refine ⟨⟨?_, c1.2.1, fun q hq => ?_⟩, (hH 0 ha).cg (fun q hq => (kv4 q hq).trans (by rw [Nat.sub_zero])) (fun q _ => rfl), ⟨(y + 13) % 14, by omega, ?_, ?_, ?_, fun i hi => ?_⟩, fun k hk => ⟨fun z => ⟨?_, ?_⟩, fun z => ?_⟩⟩
  · rw [k1 2 (by omega) (by omega)]
    exact c1.1
  · rw [k1 3 (by omega) (by omega)]
    exact c1.2.2 q hq
  · show P.1 - 1 ≤ 14
    omega
  · rw [k18, pk_us]
    rfl
  · rw [k18, pk_un (by omega), pk_us]
  · have hi : i < P.1 - 1 := hi
    show Sr B (vO M1 (22 + 7 * (((y + 13) % 14 + 13 - i) % 14))) (P.2 (i + 1))
    rw [show ((y + 13) % 14 + 13 - i) % 14 = (y + 13 - (i + 1)) % 14 by omega]
    exact (hH (i + 1) (by omega)).cg (fun q _ => kvs _ (by omega) q) (fun q _ => rfl)
  · rw [k1 122 (by omega) (by omega)]
    exact ((h4 k hk).1 z).1
  · exact ((h4 k hk).1 z).2.cg (fun q _ => kvs _ (by omega) q) (fun q _ => rfl)
  · rw [k1 122 (by omega) (by omega)]
    exact (h4 k hk).2 z
def keep (V : Sav) (x : Nat) (ρ : Rw) : Sav := (fun k => if k = x then true else V.1 k, fun k => if k = x then ρ else V.2 k)
theorem RI_save (h : RI B T ρ P V M) {x : Nat} (hx : x < 2) : RI B T ρ P (keep V x ρ) (upA (sO M (120 + 3 + 7 * x) (vO M 4)) (120 + 2) (upd (M (120 + 2)) x 1)) := by
  obtain ⟨c1, h2, ⟨y, a1, a2, a3, a4, a5⟩, h4⟩ := h
  obtain ⟨M1, hM1⟩ : ∃ M1, M1 = upA (sO M (120 + 3 + 7 * x) (vO M 4)) (120 + 2) (upd (M (120 + 2)) x 1) := ⟨_, rfl⟩
  rw [← hM1]
  have k1 : ∀ o, o ≠ 122 → (o < 123 + 7 * x ∨ 130 + 7 * x ≤ o) → M1 o = M o := by
    intro o x1 x2
    rw [hM1, upA_n _ _ (by omega), sO_ot _ _ _ (by omega)]
  have k122 : M1 122 = upd (M 122) x 1 := by
    rw [hM1]
    exact upA_s _ _ _
  have kvs : ∀ b, (b + 7 ≤ 122 ∨ 123 ≤ b) → (b + 7 ≤ 123 + 7 * x ∨ 130 + 7 * x ≤ b) → ∀ q, vO M1 b q = vO M b q := fun b x1 x2 q => vO_eqv (fun o k z1 z2 => by rw [k1 o (by omega) (by omega)]) q
  have kvx : ∀ q, q < 114 → vO M1 (123 + 7 * x) q = vO M 4 q := by
    intro q hq
    have e : vO M1 (123 + 7 * x) q = vO (sO M (120 + 3 + 7 * x) (vO M 4)) (120 + 3 + 7 * x) q := by
      refine vO_eqv (fun o k x1 x2 => ?_) q
      rw [hM1, upA_n _ _ (by omega)]
    rw [e]
    exact vO_sO _ _ _ hq
  refine ⟨⟨?_, c1.2.1, fun q hq => ?_⟩, h2.cg (fun q _ => kvs 4 (by omega) (by omega) q) (fun q _ => rfl), ⟨y, a1, a2, ?_, ?_, fun i hi => (a5 i hi).cg (fun q _ => kvs _ (by omega) (by omega) q) (fun q _ => rfl)⟩, fun k hk => ?_⟩
  · rw [k1 2 (by omega) (by omega)]
    exact c1.1
  · rw [k1 3 (by omega) (by omega)]
    exact c1.2.2 q hq
  · rw [k1 18 (by omega) (by omega)]
    exact a3
  · rw [k1 18 (by omega) (by omega)]
    exact a4
  · by_cases e : k = x
    · subst e
      refine ⟨fun z => ⟨?_, ?_⟩, fun z => ?_⟩
      · rw [k122, pk_us]
      · show Sr B (vO M1 (123 + 7 * k)) (if k = k then ρ else V.2 k)
        rw [if_pos rfl]
        exact h2.cg kvx (fun q _ => rfl)
      · have z : (if k = k then true else V.1 k) = false := z
        rw [if_pos rfl] at z
        cases z
    · refine ⟨fun z => ?_, fun z => ?_⟩
      · have z : (if k = x then true else V.1 k) = true := z
        rw [if_neg e] at z
        refine ⟨?_, ?_⟩
        · rw [k122, pk_un e]
          exact ((h4 k hk).1 z).1
        · show Sr B (vO M1 (123 + 7 * k)) (if k = x then ρ else V.2 k)
          rw [if_neg e]
          exact ((h4 k hk).1 z).2.cg (fun q _ => kvs _ (by omega) (by omega) q) (fun q _ => rfl)
      · have z : (if k = x then true else V.1 k) = false := z
        rw [if_neg e] at z
        rw [k122, pk_un e]
        exact (h4 k hk).2 z
theorem RI_rest (h : RI B T ρ P V M) {x : Nat} (hx : x < 2) (hf : V.1 x = true) : RI B T (V.2 x) (0, P.2) V (upA (sO M 4 (vO M (120 + 3 + 7 * x))) 18 (upd (sO M 4 (vO M (120 + 3 + 7 * x)) 18) 0 0)) := by
  obtain ⟨c1, h2, ⟨y, a1, a2, a3, a4, a5⟩, h4⟩ := h
  obtain ⟨M1, hM1⟩ : ∃ M1, M1 = upA (sO M 4 (vO M (120 + 3 + 7 * x))) 18 (upd (sO M 4 (vO M (120 + 3 + 7 * x)) 18) 0 0) := ⟨_, rfl⟩
  rw [← hM1]
  have k1 : ∀ o, (o < 4 ∨ 11 ≤ o) → o ≠ 18 → M1 o = M o := by
    intro o x1 x2
    rw [hM1, upA_n _ _ x2, sO_ot _ _ _ (by omega)]
  have k18 : M1 18 = upd (M 18) 0 0 := by
    rw [hM1, upA_s, sO_ot _ _ _ (by omega)]
  have kv4 : ∀ q, q < 114 → vO M1 4 q = vO M (123 + 7 * x) q := by
    intro q hq
    have e : vO M1 4 q = vO (sO M 4 (vO M (120 + 3 + 7 * x))) 4 q := by
      refine vO_eqv (fun o k x1 x2 => ?_) q
      rw [hM1, upA_n _ _ (by omega)]
    rw [e]
    exact vO_sO _ _ _ hq
  have kvs : ∀ b, 22 ≤ b → ∀ q, vO M1 b q = vO M b q := fun b x1 q => vO_eqv (fun o k z1 z2 => by rw [k1 o (by omega) (by omega)]) q
  refine ⟨⟨?_, c1.2.1, fun q hq => ?_⟩, ((h4 x hx).1 hf).2.cg kv4 (fun q _ => rfl), ⟨y, a1, Nat.zero_le _, ?_, ?_, fun i hi => absurd hi (Nat.not_lt_zero _)⟩, fun k hk => ⟨fun z => ⟨?_, ((h4 k hk).1 z).2.cg (fun q _ => kvs _ (by omega) q) (fun q _ => rfl)⟩, fun z => ?_⟩⟩
  · rw [k1 2 (by omega) (by omega)]
    exact c1.1
  · rw [k1 3 (by omega) (by omega)]
    exact c1.2.2 q hq
  · rw [k18, pk_us]
    rfl
  · rw [k18, pk_un (by omega)]
    exact a4
  · rw [k1 122 (by omega) (by omega)]
    exact ((h4 k hk).1 z).1
  · rw [k1 122 (by omega) (by omega)]
    exact (h4 k hk).2 z
theorem RI_app {m q : Nat} {τ : Nat → Nat} (h : RI B (m, τ) ρ P V M) (hm : m < 90) (hq : q ≤ 255) : RI B (m + 1, fun k => if k = m then q else τ k) ρ P V (upA (upA M 3 (upd (M 3) m (nI q))) 2 (upd (M 2) 0 (nI (m + 1)))) := by
  have e : ∀ o, o ≠ 2 → o ≠ 3 → upA (upA M 3 (upd (M 3) m (nI q))) 2 (upd (M 2) 0 (nI (m + 1))) o = M o := fun o x1 x2 => by rw [upA_n _ _ x1, upA_n _ _ x2]
  have e3 : upA (upA M 3 (upd (M 3) m (nI q))) 2 (upd (M 2) 0 (nI (m + 1))) 3 = upd (M 3) m (nI q) := by rw [upA_n _ _ (by omega), upA_s]
  obtain ⟨c1, h2, ⟨y, a1, a2, a3, a4, a5⟩, h4⟩ := h
  have ev : ∀ b, 4 ≤ b → ∀ q', vO (upA (upA M 3 (upd (M 3) m (nI q))) 2 (upd (M 2) 0 (nI (m + 1)))) b q' = vO M b q' := fun b hb q' => vO_eqv (fun o k x1 x2 => by rw [e o (by omega) (by omega)]) q'
  refine ⟨⟨by rw [upA_s, pk_us], by show m + 1 ≤ 90; omega, fun k hk => ?_⟩, h2.cg (fun q _ => ev 4 (by omega) q) (fun q _ => rfl), ⟨y, a1, a2, by rw [e 18 (by omega) (by omega)]; exact a3, by rw [e 18 (by omega) (by omega)]; exact a4, fun i hi => (a5 i hi).cg (fun q _ => ev _ (by omega) q) (fun q _ => rfl)⟩, fun k hk => ⟨fun z => ⟨by rw [e 122 (by omega) (by omega)]; exact ((h4 k hk).1 z).1, ((h4 k hk).1 z).2.cg (fun q _ => ev _ (by omega) q) (fun q _ => rfl)⟩, fun z => by rw [e 122 (by omega) (by omega)]; exact (h4 k hk).2 z⟩⟩
  rw [e3]
  show (if k = m then q else τ k) ≤ 255 ∧ upd (M 3) m (nI q) k = nI (if k = m then q else τ k)
  by_cases g : k = m
  · rw [if_pos g, g, pk_us]
    exact ⟨hq, rfl⟩
  · rw [if_neg g, pk_un g]
    exact c1.2.2 k hk
theorem RI_clear (h : RI B T ρ P V M) : RI B (0, T.2) ρ P V (upA M 2 (upd (M 2) 0 0)) := by
  have e : ∀ o, o ≠ 2 → upA M 2 (upd (M 2) 0 0) o = M o := fun o x1 => by rw [upA_n _ _ x1]
  obtain ⟨c1, h2, ⟨y, a1, a2, a3, a4, a5⟩, h4⟩ := h
  have ev : ∀ b, 4 ≤ b → ∀ q', vO (upA M 2 (upd (M 2) 0 0)) b q' = vO M b q' := fun b hb q' => vO_eqv (fun o k x1 x2 => by rw [e o (by omega)]) q'
  exact ⟨⟨by rw [upA_s, pk_us]; rfl, Nat.zero_le _, fun k hk => by rw [e 3 (by omega)]; exact c1.2.2 k hk⟩, h2.cg (fun q _ => ev 4 (by omega) q) (fun q _ => rfl), ⟨y, a1, a2, by rw [e 18 (by omega)]; exact a3, by rw [e 18 (by omega)]; exact a4, fun i hi => (a5 i hi).cg (fun q _ => ev _ (by omega) q) (fun q _ => rfl)⟩, fun k hk => ⟨fun z => ⟨by rw [e 122 (by omega)]; exact ((h4 k hk).1 z).1, ((h4 k hk).1 z).2.cg (fun q _ => ev _ (by omega) q) (fun q _ => rfl)⟩, fun z => by rw [e 122 (by omega)]; exact (h4 k hk).2 z⟩⟩
theorem RI_2 (h : RI B T ρ P V M) (h1 : TxC M' T.1 T.2) (h2 : ∀ o, o ≠ 2 → M' o = M o) : RI B T ρ P V M' := by
  obtain ⟨c1, g2, ⟨y, a1, a2, a3, a4, a5⟩, g4⟩ := h
  have ev : ∀ b, 4 ≤ b → ∀ q', vO M' b q' = vO M b q' := fun b hb q' => vO_eqv (fun o k x1 x2 => by rw [h2 o (by omega)]) q'
  exact ⟨h1, g2.cg (fun q _ => ev 4 (by omega) q) (fun q _ => rfl), ⟨y, a1, a2, by rw [h2 18 (by omega)]; exact a3, by rw [h2 18 (by omega)]; exact a4, fun i hi => (a5 i hi).cg (fun q _ => ev _ (by omega) q) (fun q _ => rfl)⟩, fun k hk => ⟨fun z => ⟨by rw [h2 122 (by omega)]; exact ((g4 k hk).1 z).1, ((g4 k hk).1 z).2.cg (fun q _ => ev _ (by omega) q) (fun q _ => rfl)⟩, fun z => by rw [h2 122 (by omega)]; exact (g4 k hk).2 z⟩⟩
theorem RI_load (h : RI B T ρ P V M) (h1 : TxC M' T.1 T.2) (hs : Sr B' (vO M' 4) ρ') (k18 : M' 18 0 = 0) (k181 : M' 18 1 = M 18 1) (k122 : ∀ k, k < 2 → M' 122 k = 0) : RI B' T ρ' (0, P.2) (fun _ => false, V.2) M' := by
  obtain ⟨c1, g2, ⟨y, a1, a2, a3, a4, a5⟩, g4⟩ := h
  exact ⟨h1, hs, ⟨y, a1, Nat.zero_le _, k18, k181.trans a4, fun i hi => absurd hi (Nat.not_lt_zero _)⟩, fun k hk => ⟨fun z => (by cases z), fun _ => k122 k hk⟩⟩
end
