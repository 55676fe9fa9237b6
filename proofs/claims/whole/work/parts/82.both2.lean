/-! BOTH SIDES: undo, save, restore, load, text: written by wip/whole/pure3.py -/
theorem LG_keep {B B' : Nat} {M M2 : Nat → Nat → Int32} (hB : B ≤ B') (h : LG B M) (ht : ∃ n τ, TxC M2 n τ ∧ TxM M2 n τ) (hs : Sr B' (vO M2 4) (M2 139)) (hk : ∀ o, 18 ≤ o → o ≠ 137 → o ≠ 138 → o ≠ 139 → o ≠ 140 → M2 o = M o) (h11 : M2 137 11 = M 137 11) : LG B' M2 := by
  obtain ⟨_, _, ⟨a, y, a1, a2, a3, a4, a5, a6⟩, h4⟩ := h.mono hB
  have ev : ∀ b, 18 ≤ b → b < 131 → ∀ q, vO M2 b q = vO M b q := fun b h1 h2 q => vO_eqv (fun o k z1 z2 => by rw [hk o (by omega) (by omega) (by omega) (by omega) (by omega)]) q
  refine ⟨ht, hs, ⟨a, y, a1, a2, by rw [hk 18 (by omega) (by omega) (by omega) (by omega) (by omega)]; exact a3, by rw [hk 18 (by omega) (by omega) (by omega) (by omega) (by omega)]; exact a4, h11.trans a5, fun i hi => (a6 i hi).cg (fun q _ => ev _ (by omega) (by omega) q) (fun q _ => by rw [hk 141 (by omega) (by omega) (by omega) (by omega) (by omega)])⟩, fun k hk2 => ⟨?_, fun h_ => ?_⟩⟩
  · rw [hk 122 (by omega) (by omega) (by omega) (by omega) (by omega), hk 143 (by omega) (by omega) (by omega) (by omega) (by omega)]
    exact (h4 k hk2).1
  · rw [hk 143 (by omega) (by omega) (by omega) (by omega) (by omega)] at h_
    exact ((h4 k hk2).2 h_).cg (fun q _ => ev _ (by omega) (by omega) q) (fun q _ => by rw [hk 142 (by omega) (by omega) (by omega) (by omega) (by omega)])
theorem LG_app {B n : Nat} {τ : Nat → Nat} {M : Nat → Nat → Int32} {q : Nat} (h : LG B M) (c1 : TxC M n τ) (c2 : TxM M n τ) (hn : n < 90) (hq : q ≤ 255) {M1 : Nat → Nat → Int32} (e1 : M1 = upA (upA M 3 (upd (M 3) n (nI q))) 2 (upd (M 2) 0 (nI (n + 1)))) : LG B (setQ (upA (setQ M1 0 0) 138 (upd (M1 138) n (nI q))) 2 (nI (n + 1))) := by
  obtain ⟨M2, hM2⟩ : ∃ M2, M2 = setQ (upA (setQ M1 0 0) 138 (upd (M1 138) n (nI q))) 2 (nI (n + 1)) := ⟨_, rfl⟩
  rw [← hM2]
  have k1 : ∀ o, o ≠ 2 → o ≠ 3 → M1 o = M o := fun o x1 x2 => by rw [e1, upA_n _ _ x1, upA_n _ _ x2]
  have k2 : ∀ o, o ≠ 137 → o ≠ 138 → M2 o = M1 o := fun o x1 x2 => by rw [hM2, setQ_o x1, upA_n _ _ x2, setQ_o x1]
  have e137 : ∀ k, k ≠ 0 → k ≠ 2 → M2 137 k = M 137 k := fun k x1 x2 => by rw [hM2, setQ_k x2, upA_n _ _ (by omega), setQ_k x1, k1 137 (by omega) (by omega)]
  refine LG_keep (Nat.le_refl B) h ⟨n + 1, fun k => if k = n then q else τ k, ⟨?_, by omega, fun k hk => ?_⟩, ⟨?_, by omega, fun k hk => ?_⟩⟩ (h.2.1.cg (fun q _ => vO_eqv (fun o k z1 z2 => by rw [k2 o (by omega) (by omega), k1 o (by omega) (by omega)]) q) (fun q _ => by rw [k2 139 (by omega) (by omega), k1 139 (by omega) (by omega)])) (fun o x1 x2 x3 _ _ => (k2 o x2 x3).trans (k1 o (by omega) (by omega))) (e137 11 (by omega) (by omega))
  · rw [k2 2 (by omega) (by omega), e1, upA_s, pk_us]
  · have := (c1.2.2 k hk)
    dsimp only
    rw [k2 3 (by omega) (by omega), e1, upA_n _ _ (by omega), upA_s]
    by_cases e : k = n
    · rw [if_pos e, e, pk_us]
      exact ⟨hq, rfl⟩
    · rw [if_neg e, pk_un e]
      exact this
  · rw [hM2, setQ_s]
  · have := (c2.2.2 k hk)
    dsimp only
    rw [hM2, setQ_o (by omega), upA_s, k1 138 (by omega) (by omega)]
    by_cases e : k = n
    · rw [if_pos e, e, pk_us]
      exact ⟨hq, rfl⟩
    · rw [if_neg e, pk_un e]
      exact this
theorem LG_clear {B n : Nat} {τ : Nat → Nat} {M : Nat → Nat → Int32} (h : LG B M) (c1 : TxC M n τ) (c2 : TxM M n τ) : LG B (setQ (setQ (upA M 2 (upd (M 2) 0 0)) 0 0) 2 0) := by
  have k1 : ∀ o, o ≠ 2 → o ≠ 137 → setQ (setQ (upA M 2 (upd (M 2) 0 0)) 0 0) 2 0 o = M o := fun o x1 x2 => by rw [setQ_o x2, setQ_o x2, upA_n _ _ x1]
  refine LG_keep (Nat.le_refl B) h ⟨0, τ, ⟨?_, by omega, fun k hk => ?_⟩, ⟨setQ_s, by omega, fun k hk => ?_⟩⟩ (h.2.1.cg (fun q _ => vO_eqv (fun o k z1 z2 => by rw [k1 o (by omega) (by omega)]) q) (fun q _ => by rw [k1 139 (by omega) (by omega)])) (fun o x1 x2 x3 _ _ => k1 o (by omega) x2) ?_
  · rw [setQ_o (by omega), setQ_o (by omega), upA_s, pk_us]
    rfl
  · rw [k1 3 (by omega) (by omega)]
    exact c1.2.2 k hk
  · rw [k1 138 (by omega) (by omega)]
    exact c2.2.2 k hk
  · rw [setQ_k (by omega), setQ_k (by omega), upA_n _ _ (by omega)]
theorem LG_undo {B a y : Nat} {M : Nat → Nat → Int32} (ht : ∃ n τ, TxC M n τ ∧ TxM M n τ) (a0 : 1 ≤ a) (a1 : a ≤ 14) (a2 : y < 14) (a6 : ∀ i, i < a → Sr B (vO M (22 + 7 * ((y + 14 - a + i) % 14))) (fun q => M 141 (114 * i + q)))
    (h4 : ∀ k, k < 2 → M 122 k = M 143 k ∧ (¬ M 143 k = 0 → Sr B (vO M (123 + 7 * k)) (fun q => M 142 (114 * k + q)))) {M1 : Nat → Nat → Int32} (e1 : M1 = hBack M a y) : LG B (upA (setQ (setQ M1 0 0) 11 (nI (a - 1))) 139 (va_cpy (M1 141) (M1 139) (114 * (a - 1)) 0 114)) := by
  obtain ⟨M2, hM2⟩ : ∃ M2, M2 = upA (setQ (setQ M1 0 0) 11 (nI (a - 1))) 139 (va_cpy (M1 141) (M1 139) (114 * (a - 1)) 0 114) := ⟨_, rfl⟩
  rw [← hM2]
  have k1 : ∀ o, (o < 4 ∨ 11 ≤ o) → o ≠ 18 → M1 o = M o := fun o x1 x2 => by
    rw [e1]
    unfold hBack
    rw [upA_n _ _ x2, sO_ot _ _ _ (by omega)]
  have k18 : M1 18 = upd (upd (M 18) 1 (nI ((y + 13) % 14))) 0 (nI (a - 1)) := by
    rw [e1]
    unfold hBack
    rw [upA_s]
  have kv : ∀ q, q < 114 → vO M1 4 q = vO M (22 + 7 * ((y + 13) % 14)) q := fun q hq => by
    have e : vO M1 4 q = vO (sO M 4 (vO M (22 + 7 * ((y + 13) % 14)))) 4 q := vO_eqv (fun o k z1 z2 => by
      rw [e1]
      unfold hBack
      rw [upA_n _ _ (by omega)]) q
    rw [e]
    exact vO_sO _ _ _ hq
  have k2 : ∀ o, o ≠ 137 → o ≠ 139 → M2 o = M1 o := fun o x1 x2 => by rw [hM2, upA_n _ _ x2, setQ_o x1, setQ_o x1]
  have ev : ∀ b, 19 ≤ b → b < 131 → ∀ q, vO M2 b q = vO M b q := fun b x1 x2 q => vO_eqv (fun o k z1 z2 => by rw [k2 o (by omega) (by omega), k1 o (by omega) (by omega)]) q
  obtain ⟨n, τ, c1, c2⟩ := ht
  refine ⟨⟨n, τ, ⟨?_, c1.2.1, fun q hq => ?_⟩, ⟨?_, c2.2.1, fun q hq => ?_⟩⟩, ?_, ⟨a - 1, (y + 13) % 14, by omega, by omega, ?_, ?_, ?_, fun i hi => ?_⟩, fun k hk => ⟨?_, fun h_ => ?_⟩⟩
  · rw [k2 2 (by omega) (by omega), k1 2 (by omega) (by omega)]
    exact c1.1
  · rw [k2 3 (by omega) (by omega), k1 3 (by omega) (by omega)]
    exact c1.2.2 q hq
  · rw [hM2, upA_n _ _ (by omega), setQ_k (by omega), setQ_k (by omega), k1 137 (by omega) (by omega)]
    exact c2.1
  · rw [k2 138 (by omega) (by omega), k1 138 (by omega) (by omega)]
    exact c2.2.2 q hq
  · have hs := a6 (a - 1) (by omega)
    rw [show (y + 14 - a + (a - 1)) % 14 = (y + 13) % 14 by omega] at hs
    refine hs.cg (fun q hq => ?_) (fun q hq => ?_)
    · rw [← kv q hq]
      exact vO_eqv (fun o k z1 z2 => by rw [k2 o (by omega) (by omega)]) q
    · rw [hM2, upA_s, k1 141 (by omega) (by omega)]
      unfold va_cpy
      rw [if_pos (by omega)]
      exact congrArg (M 141) (by omega)
  · rw [k2 18 (by omega) (by omega), k18, pk_us]
  · rw [k2 18 (by omega) (by omega), k18, pk_un (by omega), pk_us]
  · rw [hM2, upA_n _ _ (by omega), setQ_s]
  · rw [show ((y + 13) % 14 + 14 - (a - 1) + i) % 14 = (y + 14 - a + i) % 14 by omega]
    exact (a6 i (by omega)).cg (fun q _ => ev _ (by omega) (by omega) q) (fun q _ => by rw [k2 141 (by omega) (by omega), k1 141 (by omega) (by omega)])
  · rw [k2 122 (by omega) (by omega), k1 122 (by omega) (by omega), k2 143 (by omega) (by omega), k1 143 (by omega) (by omega)]
    exact (h4 k hk).1
  · rw [k2 143 (by omega) (by omega), k1 143 (by omega) (by omega)] at h_
    exact ((h4 k hk).2 h_).cg (fun q _ => ev _ (by omega) (by omega) q) (fun q _ => by rw [k2 142 (by omega) (by omega), k1 142 (by omega) (by omega)])
theorem LG_save {B x : Nat} {M : Nat → Nat → Int32} (h : LG B M) (hx : x < 2) {M1 : Nat → Nat → Int32} (e1 : M1 = upA (sO M (120 + 3 + 7 * x) (vO M 4)) (120 + 2) (upd (M (120 + 2)) x 1)) : LG B (upA (upA (setQ M1 0 0) 142 (va_cpy (M1 139) (M1 142) 0 (114 * x) 114)) 143 (upd (M1 143) x 1)) := by
  obtain ⟨M2, hM2⟩ : ∃ M2, M2 = upA (upA (setQ M1 0 0) 142 (va_cpy (M1 139) (M1 142) 0 (114 * x) 114)) 143 (upd (M1 143) x 1) := ⟨_, rfl⟩
  rw [← hM2]
  have k1 : ∀ o, o ≠ 122 → (o < 123 + 7 * x ∨ 130 + 7 * x ≤ o) → M1 o = M o := fun o x1 x2 => by rw [e1, upA_n _ _ (by omega), sO_ot _ _ _ (by omega)]
  have k122 : M1 122 = upd (M 122) x 1 := by
    rw [e1]
    exact upA_s _ _ _
  have kv : ∀ q, q < 114 → vO M1 (123 + 7 * x) q = vO M 4 q := fun q hq => by
    have e : vO M1 (123 + 7 * x) q = vO (sO M (120 + 3 + 7 * x) (vO M 4)) (120 + 3 + 7 * x) q := by
      rw [show 123 + 7 * x = 120 + 3 + 7 * x by omega]
      exact vO_eqv (fun o k z1 z2 => by rw [e1, upA_n _ _ (by omega)]) q
    rw [e]
    exact vO_sO _ _ _ hq
  have k2 : ∀ o, o ≠ 137 → o ≠ 142 → o ≠ 143 → M2 o = M1 o := fun o x1 x2 x3 => by rw [hM2, upA_n _ _ x3, upA_n _ _ x2, setQ_o x1]
  have e137 : ∀ k, k ≠ 0 → M2 137 k = M 137 k := fun k x1 => by rw [hM2, upA_n _ _ (by omega), upA_n _ _ (by omega), setQ_k x1, k1 137 (by omega) (by omega)]
  obtain ⟨⟨n, τ, c1, c2⟩, h2, ⟨a, y, a1, a2, a3, a4, a5, a6⟩, h4⟩ := h
  have ev : ∀ b, b + 7 ≤ 122 → ∀ q, vO M2 b q = vO M b q := fun b x1 q => vO_eqv (fun o k z1 z2 => by rw [k2 o (by omega) (by omega) (by omega), k1 o (by omega) (by omega)]) q
  refine ⟨⟨n, τ, ⟨?_, c1.2.1, fun q hq => ?_⟩, ⟨(e137 2 (by omega)).trans c2.1, c2.2.1, fun q hq => ?_⟩⟩, h2.cg (fun q _ => ev 4 (by omega) q) (fun q _ => by rw [k2 139 (by omega) (by omega) (by omega), k1 139 (by omega) (by omega)]), ⟨a, y, a1, a2, ?_, ?_, (e137 11 (by omega)).trans a5, fun i hi => (a6 i hi).cg (fun q _ => ev _ (by omega) q) (fun q _ => by rw [k2 141 (by omega) (by omega) (by omega), k1 141 (by omega) (by omega)])⟩, fun k hk => ?_⟩
  · rw [k2 2 (by omega) (by omega) (by omega), k1 2 (by omega) (by omega)]
    exact c1.1
  · rw [k2 3 (by omega) (by omega) (by omega), k1 3 (by omega) (by omega)]
    exact c1.2.2 q hq
  · rw [k2 138 (by omega) (by omega) (by omega), k1 138 (by omega) (by omega)]
    exact c2.2.2 q hq
  · rw [k2 18 (by omega) (by omega) (by omega), k1 18 (by omega) (by omega)]
    exact a3
  · rw [k2 18 (by omega) (by omega) (by omega), k1 18 (by omega) (by omega)]
    exact a4
  · have m43 : M2 143 = upd (M 143) x 1 := by rw [hM2, upA_s, k1 143 (by omega) (by omega)]
    have m42 : ∀ j, M2 142 j = va_cpy (M 139) (M 142) 0 (114 * x) 114 j := fun j => by rw [hM2, upA_n _ _ (by omega), upA_s, k1 139 (by omega) (by omega), k1 142 (by omega) (by omega)]
    rw [k2 122 (by omega) (by omega) (by omega), k122, m43]
    by_cases e : k = x
    · subst e
      rw [pk_us, pk_us]
      refine ⟨rfl, fun _ => h2.cg (fun q hq => ?_) (fun q hq => ?_)⟩
      · rw [← kv q hq]
        exact vO_eqv (fun o k z1 z2 => by rw [k2 o (by omega) (by omega) (by omega)]) q
      · rw [m42]
        unfold va_cpy
        rw [if_pos (by omega)]
        exact congrArg (M 139) (by omega)
    · rw [pk_un e, pk_un e]
      refine ⟨(h4 k hk).1, fun h_ => ((h4 k hk).2 h_).cg (fun q hq => ?_) (fun q hq => ?_)⟩
      · exact vO_eqv (fun o k z1 z2 => by rw [k2 o (by omega) (by omega) (by omega), k1 o (by omega) (by omega)]) q
      · rw [m42]
        unfold va_cpy
        rw [if_neg (by omega)]
theorem LG_rest {B x : Nat} {M : Nat → Nat → Int32} (h : LG B M) (hx : x < 2) (hf : ¬ M 143 x = 0) {M1 : Nat → Nat → Int32} (e1 : M1 = upA (sO M 4 (vO M (120 + 3 + 7 * x))) 18 (upd (sO M 4 (vO M (120 + 3 + 7 * x)) 18) 0 0)) : LG B (setQ (upA (setQ M1 0 0) 139 (va_cpy (M1 142) (M1 139) (114 * x) 0 114)) 11 0) := by
  obtain ⟨M2, hM2⟩ : ∃ M2, M2 = setQ (upA (setQ M1 0 0) 139 (va_cpy (M1 142) (M1 139) (114 * x) 0 114)) 11 0 := ⟨_, rfl⟩
  rw [← hM2]
  have k1 : ∀ o, (o < 4 ∨ 11 ≤ o) → o ≠ 18 → M1 o = M o := fun o x1 x2 => by rw [e1, upA_n _ _ x2, sO_ot _ _ _ (by omega)]
  have k18 : M1 18 = upd (M 18) 0 0 := by rw [e1, upA_s, sO_ot _ _ _ (by omega)]
  have kv : ∀ q, q < 114 → vO M1 4 q = vO M (123 + 7 * x) q := fun q hq => by
    have e : vO M1 4 q = vO (sO M 4 (vO M (120 + 3 + 7 * x))) 4 q := vO_eqv (fun o k z1 z2 => by rw [e1, upA_n _ _ (by omega)]) q
    rw [e, vO_sO _ _ _ hq, show 120 + 3 + 7 * x = 123 + 7 * x by omega]
  have k2 : ∀ o, o ≠ 137 → o ≠ 139 → M2 o = M1 o := fun o x1 x2 => by rw [hM2, setQ_o x1, upA_n _ _ x2, setQ_o x1]
  have ev : ∀ b, 19 ≤ b → b < 131 → ∀ q, vO M2 b q = vO M b q := fun b x1 x2 q => vO_eqv (fun o k z1 z2 => by rw [k2 o (by omega) (by omega), k1 o (by omega) (by omega)]) q
  obtain ⟨⟨n, τ, c1, c2⟩, h2, ⟨a, y, a1, a2, a3, a4, a5, a6⟩, h4⟩ := h
  refine ⟨⟨n, τ, ⟨?_, c1.2.1, fun q hq => ?_⟩, ⟨?_, c2.2.1, fun q hq => ?_⟩⟩, ?_, ⟨0, y, by omega, a2, ?_, ?_, ?_, fun i hi => absurd hi (by omega)⟩, fun k hk => ⟨?_, fun h_ => ?_⟩⟩
  · rw [k2 2 (by omega) (by omega), k1 2 (by omega) (by omega)]
    exact c1.1
  · rw [k2 3 (by omega) (by omega), k1 3 (by omega) (by omega)]
    exact c1.2.2 q hq
  · rw [hM2, setQ_k (by omega), upA_n _ _ (by omega), setQ_k (by omega), k1 137 (by omega) (by omega)]
    exact c2.1
  · rw [k2 138 (by omega) (by omega), k1 138 (by omega) (by omega)]
    exact c2.2.2 q hq
  · refine ((h4 x hx).2 hf).cg (fun q hq => ?_) (fun q hq => ?_)
    · rw [← kv q hq]
      exact vO_eqv (fun o k z1 z2 => by rw [k2 o (by omega) (by omega)]) q
    · rw [hM2, setQ_o (by omega), upA_s, k1 142 (by omega) (by omega)]
      unfold va_cpy
      rw [if_pos (by omega)]
      exact congrArg (M 142) (by omega)
  · rw [k2 18 (by omega) (by omega), k18, pk_us]
    rfl
  · rw [k2 18 (by omega) (by omega), k18, pk_un (by omega)]
    exact a4
  · rw [hM2, setQ_s]
    rfl
  · rw [k2 122 (by omega) (by omega), k1 122 (by omega) (by omega), k2 143 (by omega) (by omega), k1 143 (by omega) (by omega)]
    exact (h4 k hk).1
  · rw [k2 143 (by omega) (by omega), k1 143 (by omega) (by omega)] at h_
    exact ((h4 k hk).2 h_).cg (fun q _ => ev _ (by omega) (by omega) q) (fun q _ => by rw [k2 142 (by omega) (by omega), k1 142 (by omega) (by omega)])
theorem LG_load {B B' n : Nat} {τ : Nat → Nat} {M M1 M2 : Nat → Nat → Int32} (h : LG B M) (c2 : TxM M n τ) (c1 : TxC M1 n τ) (hs : Sr B' (vO M1 4) (M2 139)) (k18 : M1 18 0 = 0) (k181 : M1 18 1 = M 18 1) (k122 : ∀ k, k < 2 → M1 122 k = 0) (k1 : ∀ o, o ≠ 2 → (o < 4 ∨ 11 ≤ o) → o ≠ 18 → o ≠ 122 → M1 o = M o) (m2 : M2 137 2 = M1 137 2) (m11 : M2 137 11 = 0) (m430 : M2 143 0 = 0) (m431 : M2 143 1 = 0) (k2 : ∀ c, c ≠ 137 → c ≠ 139 → c ≠ 143 → M2 c = M1 c) : LG B' M2 := by
  obtain ⟨_, _, ⟨a, y, a1, a2, a3, a4, a5, a6⟩, h4⟩ := h
  refine ⟨⟨n, τ, ⟨by rw [k2 2 (by omega) (by omega) (by omega)]; exact c1.1, c1.2.1, fun q hq => by rw [k2 3 (by omega) (by omega) (by omega)]; exact c1.2.2 q hq⟩, ⟨?_, c2.2.1, fun q hq => ?_⟩⟩, hs.cg (fun q _ => vO_eqv (fun o k z1 z2 => by rw [k2 o (by omega) (by omega) (by omega)]) q) (fun q _ => rfl), ⟨0, y, by omega, a2, ?_, ?_, m11, fun i hi => absurd hi (by omega)⟩, fun k hk => ?_⟩
  · rw [m2, k1 137 (by omega) (by omega) (by omega) (by omega)]
    exact c2.1
  · rw [k2 138 (by omega) (by omega) (by omega), k1 138 (by omega) (by omega) (by omega) (by omega)]
    exact c2.2.2 q hq
  · rw [k2 18 (by omega) (by omega) (by omega)]
    exact k18
  · rw [k2 18 (by omega) (by omega) (by omega)]
    exact k181.trans a4
  · have e : M2 143 k = 0 := by
      rcases (by omega : k = 0 ∨ k = 1) with e | e <;> subst e
      · exact m430
      · exact m431
    rw [k2 122 (by omega) (by omega) (by omega), k122 k hk, e]
    exact ⟨rfl, fun h_ => absurd rfl h_⟩
