/-! BOTH SIDES: what holds between calls: written by wip/whole/pure3.py -/
/-- σ stands for ρ, and ρ is sound -/
def Sr (B : Nat) (σ ρ : Rw) : Prop := Rq σ ρ ∧ I2 B ρ
theorem Sr.mono {B B' : Nat} {σ ρ : Rw} (h : Sr B σ ρ) (hB : B ≤ B') : Sr B' σ ρ := ⟨h.1, h.2.mono hB⟩
theorem Sr.cg {B : Nat} {σ σ' ρ ρ' : Rw} (h : Sr B σ ρ) (h1 : ∀ q, q < 114 → σ' q = σ q) (h2 : ∀ q, q < 114 → ρ' q = ρ q) : Sr B σ' ρ' := by
  have hc : cnt ρ' = cnt ρ := cnt_eq (h2 17 (by omega))
  have hI : I2 B ρ' := Rp.I2 (m := cnt ρ) (Rp.of fun q a _ => h2 q a) h.2.cnt.2 h.2.cnt.1 h.2
  refine ⟨Rq.cg ?_ hc, hI⟩
  exact ((Rp.of fun q a _ => h1 q a).tr h.1).tr (Rp.of fun q a _ => (h2 q a).symm)
def LG (B : Nat) (M : Nat → Nat → Int32) : Prop :=
  (∃ n τ, TxC M n τ ∧ TxM M n τ) ∧ Sr B (vO M 4) (M 139) ∧
  (∃ a y, a ≤ 14 ∧ y < 14 ∧ M 18 0 = nI a ∧ M 18 1 = nI y ∧ M 137 11 = nI a ∧ ∀ i, i < a → Sr B (vO M (22 + 7 * ((y + 14 - a + i) % 14))) (fun q => M 141 (114 * i + q))) ∧
  (∀ k, k < 2 → M 122 k = M 143 k ∧ (¬ M 143 k = 0 → Sr B (vO M (123 + 7 * k)) (fun q => M 142 (114 * k + q))))
theorem LG.mono {B B' : Nat} {M : Nat → Nat → Int32} (h : LG B M) (hB : B ≤ B') : LG B' M := by
  obtain ⟨h1, h2, ⟨a, y, a1, a2, a3, a4, a5, a6⟩, h4⟩ := h
  exact ⟨h1, h2.mono hB, ⟨a, y, a1, a2, a3, a4, a5, fun i hi => (a6 i hi).mono hB⟩, fun k hk => ⟨(h4 k hk).1, fun h_ => ((h4 k hk).2 h_).mono hB⟩⟩
theorem vO_eqv {M M' : Nat → Nat → Int32} {b : Nat} (h : ∀ o k, b ≤ o → o < b + 7 → M' o k = M o k) (q : Nat) : vO M' b q = vO M b q := by
  unfold vO
  have := ps_le' q
  exact h _ _ (by omega) (by omega)
/-- what isn't spoken of may change -/
theorem LG_jk {B : Nat} {M M' : Nat → Nat → Int32} (h : LG B M) (hJ : Jk M M') : LG B M' := by
  obtain ⟨⟨n, τ, c1, c2⟩, h2, ⟨a, y, a1, a2, a3, a4, a5, a6⟩, h4⟩ := h
  have e : ∀ c k, c ≠ 140 → (c < 11 ∨ 18 ≤ c) → c ≠ 137 → c ≠ 2 → M' c k = M c k := fun c k x1 x2 x3 x4 => hJ c k ⟨x1, x2, fun h_ => absurd h_ x3, fun h_ => absurd h_ x4⟩
  have e2 : M' 2 0 = M 2 0 := hJ 2 0 ⟨by omega, by omega, fun h_ => by omega, fun _ => rfl⟩
  have e7 : ∀ k, k = 2 ∨ 8 ≤ k → M' 137 k = M 137 k := fun k hk => hJ 137 k ⟨by omega, by omega, fun _ => hk, fun h_ => by omega⟩
  have ev : ∀ b, (b = 4 ∨ (18 ≤ b ∧ b < 131)) → ∀ q, vO M' b q = vO M b q := fun b hb q => vO_eqv (fun o k x1 x2 => e o k (by omega) (by omega) (by omega) (by omega)) q
  refine ⟨⟨n, τ, ⟨e2.trans c1.1, c1.2.1, fun q hq => ?_⟩, ⟨(e7 2 (by omega)).trans c2.1, c2.2.1, fun q hq => ?_⟩⟩, h2.cg (fun q _ => ev 4 (by omega) q) (fun q _ => e 139 q (by omega) (by omega) (by omega) (by omega)), ⟨a, y, a1, a2, (e 18 0 (by omega) (by omega) (by omega) (by omega)).trans a3, (e 18 1 (by omega) (by omega) (by omega) (by omega)).trans a4, (e7 11 (by omega)).trans a5, fun i hi => (a6 i hi).cg (fun q _ => ev _ (by omega) q) (fun q _ => e 141 _ (by omega) (by omega) (by omega) (by omega))⟩, fun k hk => ⟨?_, fun h_ => ?_⟩⟩
  · rw [e 3 q (by omega) (by omega) (by omega) (by omega)]
    exact c1.2.2 q hq
  · rw [e 138 q (by omega) (by omega) (by omega) (by omega)]
    exact c2.2.2 q hq
  · rw [e 122 k (by omega) (by omega) (by omega) (by omega), e 143 k (by omega) (by omega) (by omega) (by omega)]
    exact (h4 k hk).1
  · rw [e 143 k (by omega) (by omega) (by omega) (by omega)] at h_
    exact ((h4 k hk).2 h_).cg (fun q _ => ev _ (by omega) q) (fun q _ => e 142 _ (by omega) (by omega) (by omega) (by omega))
/-- only the class's reading has moved -/
theorem LG_2 {B n : Nat} {τ : Nat → Nat} {M M' : Nat → Nat → Int32} (h : LG B M) (hT : TxM M n τ) (h1 : TxC M' n τ) (h2 : ∀ o, o ≠ 2 → M' o = M o) : LG B M' := by
  obtain ⟨_, h2', ⟨a, y, a1, a2, a3, a4, a5, a6⟩, h4⟩ := h
  have ev : ∀ b, 4 ≤ b → ∀ q, vO M' b q = vO M b q := fun b hb q => vO_eqv (fun o k x1 x2 => by rw [h2 o (by omega)]) q
  refine ⟨⟨n, τ, h1, ⟨by rw [h2 137 (by omega)]; exact hT.1, hT.2.1, fun q hq => by rw [h2 138 (by omega)]; exact hT.2.2 q hq⟩⟩, h2'.cg (fun q _ => ev 4 (by omega) q) (fun q _ => by rw [h2 139 (by omega)]), ⟨a, y, a1, a2, by rw [h2 18 (by omega)]; exact a3, by rw [h2 18 (by omega)]; exact a4, by rw [h2 137 (by omega)]; exact a5, fun i hi => (a6 i hi).cg (fun q _ => ev _ (by omega) q) (fun q _ => by rw [h2 141 (by omega)])⟩, fun k hk => ⟨?_, fun h_ => ?_⟩⟩
  · rw [h2 122 (by omega), h2 143 (by omega)]
    exact (h4 k hk).1
  · rw [h2 143 (by omega)] at h_
    exact ((h4 k hk).2 h_).cg (fun q _ => ev _ (by omega) q) (fun q _ => by rw [h2 142 (by omega)])
/-- a deed behind a note of what was -/
theorem LG_note {B B' a y : Nat} {M : Nat → Nat → Int32} {σ' ρ' : Rw} (hB : B ≤ B') (ht : ∃ n τ, TxC M n τ ∧ TxM M n τ) (h2 : Sr B (vO M 4) (M 139)) (a1 : a ≤ 14) (a2 : y < 14) (a6 : ∀ i, i < a → Sr B (vO M (22 + 7 * ((y + 14 - a + i) % 14))) (fun q => M 141 (114 * i + q)))
    (h4 : ∀ k, k < 2 → M 122 k = M 143 k ∧ (¬ M 143 k = 0 → Sr B (vO M (123 + 7 * k)) (fun q => M 142 (114 * k + q)))) (hs : Sr B' σ' ρ') : LG B' (upA (mNote (setQ (sO (hRem M a y) 4 σ') 0 0) a) 139 ρ') := by
  obtain ⟨M1, hM1⟩ : ∃ M1, M1 = sO (hRem M a y) 4 σ' := ⟨_, rfl⟩
  obtain ⟨M2, hM2⟩ : ∃ M2, M2 = upA (mNote (setQ M1 0 0) a) 139 ρ' := ⟨_, rfl⟩
  rw [← hM1, ← hM2]
  -- the class's side
  have k1 : ∀ o, (o < 4 ∨ 11 ≤ o) → o ≠ 18 → o ≠ 21 → (o < 22 + 7 * y ∨ 29 + 7 * y ≤ o) → M1 o = M o := by
    intro o x1 x2 x3 x4
    rw [hM1, sO_ot _ _ _ (by omega)]
    unfold hRem
    rw [upA_n _ _ x2, upA_n _ _ x3, sO_ot _ _ _ (by omega)]
  have k18 : M1 18 = upd (upd (M 18) 1 (nI ((y + 1) % 14))) 0 (nI (min (a + 1) 14)) := by
    rw [hM1, sO_ot _ _ _ (by omega)]
    unfold hRem
    rw [upA_s]
  have kv4 : ∀ q, q < 114 → vO M1 4 q = σ' q := fun q hq => by rw [hM1]; exact vO_sO _ _ _ hq
  have kvy : ∀ q, q < 114 → vO M1 (22 + 7 * y) q = vO M 4 q := by
    intro q hq
    have e : vO M1 (22 + 7 * y) q = vO (sO M (22 + 7 * y) (vO M 4)) (22 + 7 * y) q := by
      refine vO_eqv (fun o k x1 x2 => ?_) q
      rw [hM1, sO_ot _ _ _ (by omega)]
      unfold hRem
      rw [upA_n _ _ (by omega), upA_n _ _ (by omega)]
    rw [e]
    exact vO_sO _ _ _ hq
  have kvs : ∀ b, 22 ≤ b → (b + 7 ≤ 22 + 7 * y ∨ 29 + 7 * y ≤ b) → ∀ q, vO M1 b q = vO M b q := fun b x1 x2 q => vO_eqv (fun o k z1 z2 => by rw [k1 o (by omega) (by omega) (by omega) (by omega)]) q
  -- the reference's side
  have j1 : ∀ o, o ≠ 137 → o ≠ 141 → o ≠ 139 → M2 o = M1 o := by
    intro o x1 x2 x3
    rw [hM2, upA_n _ _ x3, nt_o x1 x2, setQ_o x1]
  have j39 : M2 139 = ρ' := by rw [hM2, upA_s]
  have jv : ∀ b, b + 7 ≤ 137 → ∀ q, vO M2 b q = vO M1 b q := fun b hb q => vO_eqv (fun o k z1 z2 => by rw [j1 o (by omega) (by omega) (by omega)]) q
  have j2 : M2 137 2 = M 137 2 := by
    rw [hM2, upA_n _ _ (by omega)]
    have : mNote (setQ M1 0 0) a 137 2 = setQ M1 0 0 137 2 := by
      unfold mNote
      split
      · unfold mPush mDown
        rw [upA_s, pk_un (by omega), upA_s, pk_un (by omega)]
      · unfold mPush
        rw [upA_s, pk_un (by omega)]
    rw [this, setQ_k (by omega), k1 137 (by omega) (by omega) (by omega) (by omega)]
  have j11 : M2 137 11 = nI (min (a + 1) 14) := by
    rw [hM2, upA_n _ _ (by omega)]
    unfold mNote
    split
    · rename_i e
      unfold mPush
      rw [upA_s, pk_us, e]
      rfl
    · unfold mPush
      rw [upA_s, pk_us]
      congr 1
      omega
  have s39 : setQ M1 0 0 139 = M 139 := (setQ_o (by omega)).trans (k1 139 (by omega) (by omega) (by omega) (by omega))
  have s41 : setQ M1 0 0 141 = M 141 := (setQ_o (by omega)).trans (k1 141 (by omega) (by omega) (by omega) (by omega))
  obtain ⟨n, τ, c1, c2⟩ := ht
  refine ⟨⟨n, τ, ⟨?_, c1.2.1, fun q hq => ?_⟩, ⟨j2.trans c2.1, c2.2.1, fun q hq => ?_⟩⟩, ?_, ⟨min (a + 1) 14, (y + 1) % 14, by omega, by omega, ?_, ?_, j11, fun i hi => ?_⟩, fun k hk => ⟨?_, fun h_ => ?_⟩⟩
  · rw [j1 2 (by omega) (by omega) (by omega), k1 2 (by omega) (by omega) (by omega) (by omega)]
    exact c1.1
  · rw [j1 3 (by omega) (by omega) (by omega), k1 3 (by omega) (by omega) (by omega) (by omega)]
    exact c1.2.2 q hq
  · rw [j1 138 (by omega) (by omega) (by omega), k1 138 (by omega) (by omega) (by omega) (by omega)]
    exact c2.2.2 q hq
  · exact hs.cg (fun q hq => (jv 4 (by omega) q).trans (kv4 q hq)) (fun q _ => by rw [j39])
  · rw [j1 18 (by omega) (by omega) (by omega), k18, pk_us]
  · rw [j1 18 (by omega) (by omega) (by omega), k18, pk_un (by omega), pk_us]
  · have d41 : ∀ q, q < 114 → M2 141 (114 * i + q) = if i + 1 = min (a + 1) 14 then M 139 q else if a = 14 then M 141 (114 * (i + 1) + q) else M 141 (114 * i + q) := by
      intro q hq
      rw [hM2, upA_n _ _ (by omega)]
      unfold mNote
      by_cases e14 : a = 14
      · rw [if_pos e14]
        unfold mPush mDown
        rw [upA_n _ _ (by omega), upA_s, upA_n _ _ (by omega), upA_n _ _ (by omega), upA_n _ _ (by omega), upA_s, s39, s41]
        unfold va_cpy
        by_cases e : i + 1 = min (a + 1) 14
        · rw [if_pos (by omega), if_pos e]
          exact congrArg (M 139) (by omega)
        · rw [if_neg (by omega), if_pos (by omega), if_neg e, if_pos e14]
          exact congrArg (M 141) (by omega)
      · rw [if_neg e14]
        unfold mPush
        rw [upA_n _ _ (by omega), upA_s, s39, s41]
        unfold va_cpy
        by_cases e : i + 1 = min (a + 1) 14
        · rw [if_pos (by omega), if_pos e]
          exact congrArg (M 139) (by omega)
        · rw [if_neg (by omega), if_neg e, if_neg e14]
    by_cases e : i + 1 = min (a + 1) 14
    · have ex : ((y + 1) % 14 + 14 - min (a + 1) 14 + i) % 14 = y := by omega
      rw [ex]
      exact (h2.mono hB).cg (fun q hq => (jv _ (by omega) q).trans (kvy q hq)) (fun q hq => (d41 q hq).trans (if_pos e))
    · by_cases e14 : a = 14
      · have ex : ((y + 1) % 14 + 14 - min (a + 1) 14 + i) % 14 = (y + 14 - a + (i + 1)) % 14 := by omega
        rw [ex]
        have hne : (y + 14 - a + (i + 1)) % 14 ≠ y := by omega
        exact ((a6 (i + 1) (by omega)).mono hB).cg (fun q _ => (jv _ (by omega) q).trans (kvs _ (by omega) (by omega) q)) (fun q hq => (d41 q hq).trans (by rw [if_neg e, if_pos e14]))
      · have ex : ((y + 1) % 14 + 14 - min (a + 1) 14 + i) % 14 = (y + 14 - a + i) % 14 := by omega
        rw [ex]
        have hne : (y + 14 - a + i) % 14 ≠ y := by omega
        exact ((a6 i (by omega)).mono hB).cg (fun q _ => (jv _ (by omega) q).trans (kvs _ (by omega) (by omega) q)) (fun q hq => (d41 q hq).trans (by rw [if_neg e, if_neg e14]))
  · rw [j1 122 (by omega) (by omega) (by omega), j1 143 (by omega) (by omega) (by omega), k1 122 (by omega) (by omega) (by omega) (by omega), k1 143 (by omega) (by omega) (by omega) (by omega)]
    exact (h4 k hk).1
  · rw [j1 143 (by omega) (by omega) (by omega), k1 143 (by omega) (by omega) (by omega) (by omega)] at h_
    exact (((h4 k hk).2 h_).mono hB).cg (fun q _ => (jv _ (by omega) q).trans (kvs _ (by omega) (by omega) q)) (fun q _ => by rw [j1 142 (by omega) (by omega) (by omega), k1 142 (by omega) (by omega) (by omega) (by omega)])
