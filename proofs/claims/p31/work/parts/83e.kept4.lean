/-! THE LAW: kept, the whole -/
section
variable {ρ : Rw}
theorem rWear_w {s w0 w1 w2 : Nat} (a0 : ρ (43 + 2 * (3 * s + 0)) = nI w0) (a1 : ρ (43 + 2 * (3 * s + 1)) = nI w1) (a2 : ρ (43 + 2 * (3 * s + 2)) = nI w2) : rWear ρ s = nI (w0 + w1 + w2) := by
  unfold rWear
  rw [a0, a1, a2, Int32.zero_add, nI_add, nI_add]
theorem wS_3 {k w0 w1 w2 : Nat} (a0 : ρ (43 + 2 * (3 * k + 0)) = nI w0) (a1 : ρ (43 + 2 * (3 * k + 1)) = nI w1) (a2 : ρ (43 + 2 * (3 * k + 2)) = nI w2) (b0 : w0 ≤ 999) (b1 : w1 ≤ 999) (b2 : w2 ≤ 999) : wS ρ (3 * (k + 1)) = wS ρ (3 * k) + (w0 + w1 + w2) := by
  rw [show 3 * (k + 1) = 3 * k + 1 + 1 + 1 by omega, wS, wS, wS]
  rw [Nat.add_zero] at a0
  rw [a0, show 43 + 2 * (3 * k + 1 + 1) = 43 + 2 * (3 * k + 2) by omega, a1, a2, ck (by omega), ck (by omega), ck (by omega)]
  omega
theorem wS_le {l : Nat} (hl : l ≤ 999) (hw : ∀ q, q < 36 → ∃ m, m ≤ l ∧ ρ (43 + 2 * q) = nI m) (k : Nat) (hk : k ≤ 36) : wS ρ k ≤ 999 * k := by
  induction k with
  | zero => exact Nat.zero_le _
  | succ k ih =>
    obtain ⟨m, hm, e⟩ := hw k (by omega)
    rw [wS, e, ck (by omega)]
    have := ih (by omega)
    omega
theorem wS_mono (k : Nat) : ∀ j, wS ρ k ≤ wS ρ (k + j) := by
  intro j
  induction j with
  | zero => exact Nat.le_refl _
  | succ j ih =>
    rw [← Nat.add_assoc, wS]
    omega
theorem rAll_w {l : Nat} (hl : l ≤ 999) (hw : ∀ q, q < 36 → ∃ m, m ≤ l ∧ ρ (43 + 2 * q) = nI m) (k : Nat) (hk : k ≤ 12) : rAll ρ k = nI (wS ρ (3 * k)) := by
  induction k with
  | zero => rfl
  | succ k ih =>
    obtain ⟨w0, h0, a0⟩ := hw (3 * k + 0) (by omega)
    obtain ⟨w1, h1, a1⟩ := hw (3 * k + 1) (by omega)
    obtain ⟨w2, h2, a2⟩ := hw (3 * k + 2) (by omega)
    rw [rAll, ih (by omega), rWear_w a0 a1 a2, nI_add, wS_3 a0 a1 a2 (by omega) (by omega) (by omega)]
/-- what the shares of the slots below s come to -/
def shS (ρ : Rw) (W : Nat) : Nat → Nat
  | 0 => 0
  | s + 1 => shS ρ W s + (if W = 0 then 0 else 100 * ((ρ (43 + 2 * (3 * s + 0))).toNatClampNeg + (ρ (43 + 2 * (3 * s + 1))).toNatClampNeg + (ρ (43 + 2 * (3 * s + 2))).toNatClampNeg) / W)
theorem shS_le {W l : Nat} (hl : l ≤ 999) (hw : ∀ q, q < 36 → ∃ m, m ≤ l ∧ ρ (43 + 2 * q) = nI m) (s : Nat) (hs : s ≤ 12) : W * shS ρ W s ≤ 100 * wS ρ (3 * s) := by
  induction s with
  | zero => exact Nat.zero_le _
  | succ k ih =>
    obtain ⟨w0, h0, a0⟩ := hw (3 * k + 0) (by omega)
    obtain ⟨w1, h1, a1⟩ := hw (3 * k + 1) (by omega)
    obtain ⟨w2, h2, a2⟩ := hw (3 * k + 2) (by omega)
    rw [wS_3 a0 a1 a2 (by omega) (by omega) (by omega), shS, a0, a1, a2, ck (by omega), ck (by omega), ck (by omega), Nat.mul_add]
    have i1 := ih (by omega)
    split
    · omega
    · have := Nat.mul_div_le (100 * (w0 + w1 + w2)) W
      omega
theorem shS_100 {n l : Nat} (hl : l ≤ 999) (hw : ∀ q, q < 36 → ∃ m, m ≤ l ∧ ρ (43 + 2 * q) = nI m) (hn : n ≤ 12) : shS ρ (wS ρ (3 * n)) n ≤ 100 := by
  rcases Nat.eq_zero_or_pos (wS ρ (3 * n)) with h | h
  · have z : ∀ s, shS ρ (wS ρ (3 * n)) s = 0 := by
      intro s
      induction s with
      | zero => rfl
      | succ s ih => rw [shS, ih, if_pos h]
    rw [z]
    omega
  · have := shS_le (W := wS ρ (3 * n)) hl hw n hn
    rw [Nat.mul_comm 100] at this
    exact Nat.le_of_mul_le_mul_left this h
theorem sh_hv {n l s w0 w1 w2 : Nat} (hl : l ≤ 999) (hw : ∀ q, q < 36 → ∃ m, m ≤ l ∧ ρ (43 + 2 * q) = nI m) (hn : n ≤ 12) (a0 : ρ (43 + 2 * (3 * s + 0)) = nI w0) (a1 : ρ (43 + 2 * (3 * s + 1)) = nI w1) (a2 : ρ (43 + 2 * (3 * s + 2)) = nI w2) (b0 : w0 ≤ 999) (b1 : w1 ≤ 999) (b2 : w2 ≤ 999) : (if rAll ρ n = 0 then (0 : Int32) else 100 * rWear ρ s / rAll ρ n) = nI (if wS ρ (3 * n) = 0 then 0 else 100 * (w0 + w1 + w2) / wS ρ (3 * n)) := by
  have hW := wS_le hl hw (3 * n) (by omega)
  rw [rAll_w hl hw n hn, rWear_w a0 a1 a2]
  by_cases h : wS ρ (3 * n) = 0
  · rw [if_pos h, if_pos (by rw [h]; rfl)]
    rfl
  · rw [if_neg h, if_neg (fun q => h (by
      have q : nI (wS ρ (3 * n)) = nI 0 := q
      rwa [nI_eq (by omega) (by omega)] at q)), o_100, pk_mul, pk_div (by omega) (by omega) (by omega)]
theorem rSm_min : ∀ (K : Nat), 1 ≤ K → K ≤ 12 → ∃ j, j < K ∧ rSm ρ K = nI j ∧ ∀ k, k < K → ρ (19 + 2 * j) ≤ ρ (19 + 2 * k)
  | 0, h, _ => by omega
  | 1, _, _ => by
    refine ⟨0, by omega, ?_, fun k hk => ?_⟩
    · show (if (-99999 : Int32) = -99999 then nI 0 else _) = _
      rw [if_pos rfl]
    · have : k = 0 := by omega
      subst this
      exact Int32.le_refl _
  | K + 2, _, hK => by
    obtain ⟨j, h1, h2, h3⟩ := rSm_min (K + 1) (by omega) (by omega)
    have hne : ¬ rSm ρ (K + 1) = -99999 := by
      rw [h2]
      exact fun q => nI_nn (m := j) (by omega) (by rw [q]; exact Int32.le_refl _)
    rw [rSm, if_neg hne, h2, ck (by omega)]
    by_cases g : ρ (19 + 2 * j) ≤ ρ (19 + 2 * (K + 1))
    · rw [if_pos g]
      refine ⟨j, by omega, rfl, fun k hk => ?_⟩
      rcases Nat.lt_or_ge k (K + 1) with w | w
      · exact h3 k w
      · have : k = K + 1 := by omega
        subst this
        exact g
    · rw [if_neg g]
      refine ⟨K + 1, by omega, rfl, fun k hk => ?_⟩
      have g' := (Int32_le_total (ρ (19 + 2 * j)) (ρ (19 + 2 * (K + 1)))).resolve_left g
      rcases Nat.lt_or_ge k (K + 1) with w | w
      · exact Int32.le_trans g' (h3 k w)
      · have : k = K + 1 := by omega
        subst this
        exact Int32.le_refl _
theorem sv_0 {m k kd pt : Nat} (e17 : ρ 17 = nI m) (hm : m ≤ 12) (hk : k < m) (hkd : kd ≤ 9) (hpt : pt ≤ 9) (hc : ρ (18 + 2 * k) = nI (10 * kd + pt)) : sv ρ (nI k) 0 = (nI kd).toInt64 ∧ sv ρ (nI k) 1 = (nI pt).toInt64 := by
  have hlt : nI k < ρ 17 := by
    rw [e17, nI_ltI (by omega) (by omega)]
    exact hk
  have e1 : nI (10 * kd + pt) / 10 = nI kd := by
    rw [o_10, pk_div (by omega) (by omega) (by omega), show (10 * kd + pt) / 10 = kd by omega]
  refine ⟨?_, ?_⟩
  · unfold sv aServ
    rw [if_neg (nI_pos (by omega)), if_pos (by decide), if_pos hlt, if_pos rfl, ck (by omega), hc, e1, eL_0 rfl]
  · unfold sv aServ
    rw [if_neg (nI_pos (by omega)), if_pos (by decide), if_pos hlt, if_neg (by decide), if_pos rfl, ck (by omega), hc, e1, o_10, pk_mul, pk_sub (by omega), show 10 * kd + pt - kd * 10 = pt by omega, eL_0 rfl]
theorem sv_2 {m k e : Nat} (e17 : ρ 17 = nI m) (hm : m ≤ 12) (hk : k < m) (he : e < 100000000) (hc : ρ (19 + 2 * k) = nI e) : sv ρ (nI k) 2 = lz e := by
  have hlt : nI k < ρ 17 := by
    rw [e17, nI_ltI (by omega) (by omega)]
    exact hk
  unfold sv aServ
  rw [if_neg (nI_pos (by omega)), if_pos (by decide), if_pos hlt, if_neg (by decide), if_neg (by decide), ck (by omega), hc, eL_0 rfl, lz_n (by omega)]
theorem due_5 {m k kd pt e dd : Nat} (h3 : ¬ ρ 3 = 0) (e17 : ρ 17 = nI m) (ec17 : (ρ 17).toNatClampNeg = m) (hm : m ≤ 12) (hD : Dst ρ m) (hk : k < m) (hkd : kd ≤ 9) (hpt : pt ≤ 9) (hc : ρ (18 + 2 * k) = nI (10 * kd + pt)) (he : e < 100000000) (hn : ρ (19 + 2 * k) = nI e) (h4 : ρ 4 = nI dd) (hdd : dd < 100000000) : eL (fun c => if c = 1 then 0 else 1) (aDue ρ (ρ 17).toNatClampNeg (nI kd) (nI pt) 5) = lz ((e : Int) + 5 - dd) := by
  have hf : rFnd ρ (10 * nI kd + nI pt) m = nI k := rFnd_un hD hk (by rw [hc, code_e])
  unfold aDue
  rw [if_pos (isV_t hkd hpt), if_pos (by decide), if_neg h3, ec17, hf, if_neg (fun q => nI_nn (m := k) (by omega) (by rw [q]; exact Int32.le_refl _)), ck (by omega), hn, h4, eL_0 rfl, o_5, nI_add, lz_i, pk_sub_toInt (by omega) (by omega)]
  congr 1
end
section
variable {A d : Nat} {S : Sc} {J : Nat → Nat → Int64} {B : Nat} {T : Tx} {ρ : Rw} {P : Pst9} {V : Sav} {Q : Res → Wd → Prop}
theorem K_share (hs : Scn A S) (hB : B < 990000) (N0 : Nat → Nat → Int32) {n t l : Nat} {o : Int32} {le mo gr : Int64} (hK : Kf n t l ρ) : ∀ (f s : Nat) (N : Nat → Nat → Int32) (nc ns : Nat), s + f = n → Frm A N0 N → RI B T ρ P V (pbM A N) → nc + 5 * f ≤ 700 → ns + 30 * f ≤ 4200 → (∀ N' nc' ns', Frm A N0 N' → RI B T ρ P V (pbM A N') → nc' ≤ nc + 5 * f → ns' ≤ ns + 30 * f → EE (SJ (d + 11) 126 (Wp (d + 10)) Q) (480, [(0, .ref (A + 1)), (1, .int (nI n)), (2, .int o), (3, .int 1), (4, .long (lz (wS ρ (3 * n)))), (6, .long le), (8, .long mo), (10, .long gr), (12, .long (lz (shS ρ (wS ρ (3 * n)) n))), (14, .int (nI n))], [], (S, N', J), nc', ns')) → EE (SJ (d + 11) 126 (Wp (d + 10)) Q) (480, [(0, .ref (A + 1)), (1, .int (nI n)), (2, .int o), (3, .int 1), (4, .long (lz (wS ρ (3 * n)))), (6, .long le), (8, .long mo), (10, .long gr), (12, .long (lz (shS ρ (wS ρ (3 * n)) s))), (14, .int (nI s))], [], (S, N, J), nc, ns)
  | 0, s, N, nc, ns, hi, hF, h, hc, hn', K => by
    have hi : n = s := by omega
    subst hi
    exact K N nc ns hF h (by omega) (by omega)
  | f + 1, s, N, nc, ns, hi, hF, h, hc, hn', K => by
    obtain ⟨⟨hn3, hn, e0, ec⟩, ⟨ht, e5⟩, ⟨e2, hl, hw⟩, hS⟩ := id hK
    have hsn : s < n := by omega
    obtain ⟨w0, h0, a0⟩ := hw (3 * s + 0) (by omega)
    obtain ⟨w1, h1, a1⟩ := hw (3 * s + 1) (by omega)
    obtain ⟨w2, h2, a2⟩ := hw (3 * s + 2) (by omega)
    have hW := wS_le hl hw (3 * n) (by omega)
    refine k_480 hs h hB ec hn hsn a0 a1 a2 (by omega) (by omega) (by omega) (by omega) (sh_hv hl hw hn a0 a1 a2 (by omega) (by omega) (by omega)) (by omega) (by omega) (fun N1 nc1 ns1 hF1 h1' hc1 hn1 => ?_)
    rw [lz_add]
    have e : ((shS ρ (wS ρ (3 * n)) s : Nat) : Int) + ((if wS ρ (3 * n) = 0 then 0 else 100 * (w0 + w1 + w2) / wS ρ (3 * n) : Nat) : Int) = ((shS ρ (wS ρ (3 * n)) (s + 1) : Nat) : Int) := by
      rw [shS, a0, a1, a2, ck (by omega), ck (by omega), ck (by omega)]
      omega
    rw [e]
    exact K_share hs hB N0 hK f (s + 1) N1 nc1 ns1 (by omega) (hF.tr hF1) h1' (by omega) (by omega) (fun N' nc' ns' x1 x2 x3 x4 => K N' nc' ns' x1 x2 (by omega) (by omega))
/-- what is known of the services -/
def Ks (m dd : Nat) (ρ : Rw) : Prop := ¬ ρ 3 = 0 ∧ ρ 17 = nI m ∧ (ρ 17).toNatClampNeg = m ∧ m ≤ 12 ∧ Dst ρ m ∧ ρ 4 = nI dd ∧ dd < 100000000 ∧ ∀ k, k < m → ∃ c e, c ≤ 99 ∧ e < 100000000 ∧ ρ (18 + 2 * k) = nI c ∧ ρ (19 + 2 * k) = nI e
theorem K_svin (hs : Scn A S) (hB : B < 990000) (N0 : Nat → Nat → Int32) {m dd k kd pt : Nat} (hK : Ks m dd ρ) (hk : k < m) (hkd : kd ≤ 9) (hpt : pt ≤ 9) (hck : ρ (18 + 2 * k) = nI (10 * kd + pt)) : ∀ (f j : Nat) (N : Nat → Nat → Int32) (nc ns : Nat), j + f = k → Frm A N0 N → RI B T ρ P V (pbM A N) → nc + 2 * f ≤ 700 → ns + 12 * f ≤ 4200 → (∀ N' nc' ns', Frm A N0 N' → RI B T ρ P V (pbM A N') → nc' ≤ nc + 2 * f → ns' ≤ ns + 12 * f → EE (SJ (d + 11) 126 (Wp (d + 10)) Q) (1070, [(0, .ref (A + 1)), (3, .int 1), (14, .long (lz dd)), (18, .int (nI m)), (19, .int (nI k)), (20, .int (nI kd)), (21, .int (nI pt)), (22, .int (nI k))], [], (S, N', J), nc', ns')) → EE (SJ (d + 11) 126 (Wp (d + 10)) Q) (1070, [(0, .ref (A + 1)), (3, .int 1), (14, .long (lz dd)), (18, .int (nI m)), (19, .int (nI k)), (20, .int (nI kd)), (21, .int (nI pt)), (22, .int (nI j))], [], (S, N, J), nc, ns)
  | 0, j, N, nc, ns, hi, hF, h, hc, hn', K => by
    have hi : k = j := by omega
    subst hi
    exact K N nc ns hF h (by omega) (by omega)
  | f + 1, j, N, nc, ns, hi, hF, h, hc, hn', K => by
    obtain ⟨h3, e17, ec17, hm, hD, h4, hdd, hE⟩ := id hK
    obtain ⟨cj, ej, hcj, hej, aj, bj⟩ := hE j (by omega)
    have hcj' : ρ (18 + 2 * j) = nI (10 * (cj / 10) + cj % 10) := by rw [aj, show 10 * (cj / 10) + cj % 10 = cj by omega]
    have q := sv_0 e17 hm (by omega) (show cj / 10 ≤ 9 by omega) (show cj % 10 ≤ 9 by omega) hcj'
    refine k_1070 hs h hB (by omega) (by omega) hkd hpt (show cj / 10 ≤ 9 by omega) (show cj % 10 ≤ 9 by omega) q.1 q.2 (fun z => ?_) (by omega) (by omega) (fun N1 nc1 ns1 hF1 h1' hc1 hn1 => ?_)
    · have : j = k := hD j k (by omega) hk (by rw [hcj', hck, z.1, z.2])
      omega
    · exact K_svin hs hB N0 hK hk hkd hpt hck f (j + 1) N1 nc1 ns1 (by omega) (hF.tr hF1) h1' (by omega) (by omega) (fun N' nc' ns' x1 x2 x3 x4 => K N' nc' ns' x1 x2 (by omega) (by omega))
theorem K_serv (hs : Scn A S) (hB : B < 990000) (N0 : Nat → Nat → Int32) {m dd : Nat} (hK : Ks m dd ρ) : ∀ (f k : Nat) (N : Nat → Nat → Int32) (nc ns : Nat), k + f = m → Frm A N0 N → RI B T ρ P V (pbM A N) → nc + 32 * f ≤ 690 → ns + 192 * f ≤ 4140 → (∀ N', Frm A N0 N' → RI B T ρ P V (pbM A N') → Q (.inl (some (.int 1))) (S, N', J)) → EE (SJ (d + 11) 126 (Wp (d + 10)) Q) (945, [(0, .ref (A + 1)), (3, .int 1), (14, .long (lz dd)), (18, .int (nI m)), (19, .int (nI k))], [], (S, N, J), nc, ns)
  | 0, k, N, nc, ns, hi, hF, h, hc, hn', K => by
    obtain ⟨_, _, _, _, _, _, _, _, _, _, ⟨g126, g126'⟩⟩ := mjA
    have hi : m = k := by omega
    subst hi
    refine k_1127 ?_
    exact ⟨by omega, by omega, K N hF h⟩
  | f + 1, k, N, nc, ns, hi, hF, h, hc, hn', K => by
    obtain ⟨h3, e17, ec17, hm, hD, h4, hdd, hE⟩ := id hK
    have hk : k < m := by omega
    obtain ⟨c, e, hc', he, ac, bc⟩ := hE k hk
    have hck : ρ (18 + 2 * k) = nI (10 * (c / 10) + c % 10) := by rw [ac, show 10 * (c / 10) + c % 10 = c by omega]
    have q := sv_0 e17 hm hk (show c / 10 ≤ 9 by omega) (show c % 10 ≤ 9 by omega) hck
    obtain ⟨j, hj, ej, hmin⟩ := rSm_min (ρ := ρ) m (by omega) hm
    obtain ⟨cj, g, hcj, hg, aj, bj⟩ := hE j hj
    have hcj' : ρ (18 + 2 * j) = nI (10 * (cj / 10) + cj % 10) := by rw [aj, show 10 * (cj / 10) + cj % 10 = cj by omega]
    have hfi : fiV ρ = nI (10 * (cj / 10) + cj % 10) := by
      unfold fiV
      rw [ec17, ej, if_neg (fun q => nI_nn (m := j) (by omega) (by rw [q]; exact Int32.le_refl _)), ck (by omega), hcj']
    have hge : g ≤ e := by
      have := hmin k hk
      rwa [bj, bc, nI_leI (by omega) (by omega)] at this
    have d0 := due_5 h3 e17 ec17 hm hD hk (show c / 10 ≤ 9 by omega) (show c % 10 ≤ 9 by omega) hck he bc h4 hdd
    have d1 := due_5 h3 e17 ec17 hm hD hj (show cj / 10 ≤ 9 by omega) (show cj % 10 ≤ 9 by omega) hcj' hg bj h4 hdd
    refine k_945 hs h hB e17 ec17 hm hk (by omega) (by omega) q.1 q.2 (sv_2 e17 hm hk he bc) d0 hfi (by omega) (by omega) d1 hge he hdd (by omega) (by omega) (fun N1 nc1 ns1 hF1 h1 hc1 hn1 => ?_)
    refine k_976 hs h1 hB e17 ec17 hm hk (by omega) (by omega) q.1 q.2 (sv_2 e17 hm hk he bc) d0 hfi (by omega) (by omega) d1 hge he hdd (by omega) (by omega) (fun N2 nc2 ns2 hF2 h2 hc2 hn2 => ?_)
    refine K_svin hs hB N0 hK hk (by omega) (by omega) hck k 0 N2 nc2 ns2 (by omega) ((hF.tr hF1).tr hF2) h2 (by omega) (by omega) (fun N3 nc3 ns3 hF3 h3' hc3 hn3 => ?_)
    refine k_1121 ?_
    exact K_serv hs hB N0 hK f (k + 1) N3 nc3 ns3 (by omega) hF3 h3' (by omega) (by omega) K
end
