/-! THE LAW: follows, its calls -/
/-- the newest rows behind -/
def Hs (l : List Rw) (P : Pst9) : Prop := l.length ≤ P.1 ∧ ∀ i ρ, l[i]? = some ρ → P.2 i = ρ
theorem Hs.nil {P : Pst9} : Hs [] P := ⟨Nat.zero_le _, fun i ρ h => by cases h⟩
theorem Hs.push {l : List Rw} {P : Pst9} (h : Hs l P) {ρ : Rw} (hl : l.length ≤ 13) : Hs (ρ :: l) (push ρ P) := by
  obtain ⟨h1, h2⟩ := h
  refine ⟨?_, fun i ρ' hi => ?_⟩
  · show l.length + 1 ≤ min (P.1 + 1) 14
    omega
  · cases i with
    | zero =>
      have hi : some ρ = some ρ' := hi
      injection hi
    | succ i => exact h2 i ρ' hi
theorem Hs.back {l : List Rw} {P : Pst9} {ρ : Rw} (h : Hs (ρ :: l) P) : Hs l (back P) ∧ P.2 0 = ρ ∧ 1 ≤ P.1 := by
  obtain ⟨h1, h2⟩ := h
  have h1 : l.length + 1 ≤ P.1 := h1
  refine ⟨⟨?_, fun i ρ' hi => h2 (i + 1) ρ' hi⟩, h2 0 ρ rfl, by omega⟩
  show l.length ≤ P.1 - 1
  omega
theorem mjB : (mjT 98).1 = 0 ∧ (mjT 98).2 = 0 ∧ (mjT 101).1 = 1 ∧ (mjT 101).2 = 6 ∧ (mjT 102).1 = 1 ∧ (mjT 102).2 = 6 ∧ (mjT 103).1 = 1 ∧ (mjT 103).2 = 6 ∧ (mjT 108).1 = 1 ∧ (mjT 108).2 = 6 ∧ (mjT 109).1 = 1 ∧ (mjT 109).2 = 6 ∧ (mjT 110).1 = 1 ∧ (mjT 110).2 = 6 ∧ (mjT 113).1 = 1 ∧ (mjT 113).2 = 6 ∧ (mjT 114).1 = 1 ∧ (mjT 114).2 = 6 ∧ (mjT 115).1 = 1 ∧ (mjT 115).2 = 6 ∧ (mjT 116).1 = 1 ∧ (mjT 116).2 = 6 ∧ (mjT 117).1 = 1 ∧ (mjT 117).2 = 6 ∧ (mjT 118).1 = 1 ∧ (mjT 118).2 = 6 ∧ (mjT 121).1 = 1 ∧ (mjT 121).2 = 6 ∧ (mjT 122).1 = 1 ∧ (mjT 122).2 = 6 ∧ (mjT 123).1 = 1 ∧ (mjT 123).2 = 6 ∧ (mjT 124).1 = 200 ∧ (mjT 124).2 = 1200 ∧ (mjT 127).1 = 2400 ∧ (mjT 127).2 = 14400 := ⟨rfl, rfl, rfl, rfl, rfl, rfl, rfl, rfl, rfl, rfl, rfl, rfl, rfl, rfl, rfl, rfl, rfl, rfl, rfl, rfl, rfl, rfl, rfl, rfl, rfl, rfl, rfl, rfl, rfl, rfl, rfl, rfl, rfl, rfl, rfl, rfl⟩
section
variable {A d : Nat} {S : Sc} {N : Nat → Nat → Int32} {J : Nat → Nat → Int64} {B : Nat} {T : Tx} {ρ : Rw} {P : Pst9} {V : Sav} {l : List Rw}
theorem U_undo (hs : Scn A S) (h : RI B T ρ P V (pbM A N)) (hB : B < 990000) {ρ0 : Rw} (hP : Hs (ρ0 :: l) P) : Wp (d + 10) 115 [.ref (A + 1)] (S, N, J) (fun rs w' => ∃ N', w' = (S, N', J) ∧ Frm A N N' ∧ ∃ P' r, r < 14 ∧ Hs l P' ∧ RI B T ρ0 P' V (pbM A N') ∧ rs = .inl (some (.long (lz (r : Nat))))) := by
  obtain ⟨g1, g2, g3⟩ := hP.back
  have h14 : P.1 ≤ 14 := h.2.2.1.elim (fun _ q => q.2.1)
  have hz : aUndo P.1 = (0, nI (P.1 - 1)) := by
    unfold aUndo
    rw [if_neg (fun q => ?_)]
    have q : nI P.1 = nI 0 := q
    rw [nI_eq (by omega) (by omega)] at q
    omega
  refine Wp_mono (X_undo hs h hB) ?_
  rintro rs_ w1 ⟨N1, rfl, hF, ⟨-, k1⟩, rfl⟩
  have k1 := k1 (by rw [hz])
  rw [g2] at k1
  refine ⟨N1, rfl, hF, back P, P.1 - 1, by omega, g1, k1, ?_⟩
  rw [hz, eL_0 rfl, lz_n (by omega)]
theorem U_undo0 (hs : Scn A S) {H : Nat → Rw} (h : RI B T ρ (0, H) V (pbM A N)) (hB : B < 990000) : Wp (d + 10) 115 [.ref (A + 1)] (S, N, J) (fun rs w' => ∃ N', w' = (S, N', J) ∧ Frm A N N' ∧ RI B T ρ (0, H) V (pbM A N') ∧ rs = .inl (some (.long (-9000000000000000003)))) := by
  have hz : aUndo (0, H).1 = (1, 0) := by
    exact if_pos rfl
  refine Wp_mono (X_undo hs h hB) ?_
  rintro rs_ w1 ⟨N1, rfl, hF, ⟨k0, -⟩, rfl⟩
  refine ⟨N1, rfl, hF, k0 (by rw [hz]; decide), ?_⟩
  rw [eL_t (c := 1) (by rw [hz]) (by decide)]
  rfl
theorem U_start (hs : Scn A S) (h : RI B T ρ P V (pbM A N)) (hB : B < 990000) (hP : Hs l P) (hl : l.length ≤ 13) {v : Nat} (h3 : ρ 3 = 0) (hv : rPower ρ 4 = nI v) (hv2 : v < 2147483648) : Wp (d + 10) 110 [.ref (A + 1)] (S, N, J) (fun rs w' => ∃ N', w' = (S, N', J) ∧ Frm A N N' ∧ ∃ P', Hs (ρ :: l) P' ∧ RI (B + 1000) T (rPower ρ) P' V (pbM A N') ∧ rs = .inl (some (.long (lz v)))) := by
  have hz : aStart ρ = (0, nI v) := by
    unfold aStart
    rw [if_neg (by rw [h3]; decide), hv]
  refine Wp_mono (X_start hs h hB) ?_
  rintro rs_ w1 ⟨N1, rfl, hF, ⟨-, k1⟩, rfl⟩
  refine ⟨N1, rfl, hF, push ρ P, hP.push hl, k1 (by rw [hz]), ?_⟩
  rw [hz, eL_0 rfl, lz_n hv2]
theorem U_drive (hs : Scn A S) (h : RI B T ρ P V (pbM A N)) (hB : B < 990000) (hP : Hs l P) (hl : l.length ≤ 13) {f : Nat} (h3 : ρ 3 = 1) (h1 : 1 ≤ f) (hf : f ≤ 999) : Wp (d + 10) 108 [.ref (A + 1), .int (nI f)] (S, N, J) (fun rs w' => ∃ N', w' = (S, N', J) ∧ Frm A N N' ∧ ∃ P', Hs (ρ :: l) P' ∧ RI (B + 1000) T (rGo f ρ) P' V (pbM A N') ∧ rs = .inl (some (.long (lz (rGone f ρ))))) := by
  have hz : aDrive ρ (nI f) = (0, nI (rGone f ρ)) := by
    unfold aDrive
    rw [if_pos ⟨by rw [o_1, nI_ltI (by omega) (by omega)]; omega, by rw [show (999 : Int32) = nI 999 from rfl, nI_ltI (by omega) (by omega)]; omega⟩, if_neg (by rw [h3]; decide), ck (by omega)]
  have hg := rGone_le f ρ
  refine Wp_mono (X_drive hs h hB) ?_
  rintro rs_ w1 ⟨N1, rfl, hF, ⟨-, k1⟩, rfl⟩
  have k1 := k1 (by rw [hz])
  rw [ck (by omega)] at k1
  refine ⟨N1, rfl, hF, push ρ P, hP.push hl, k1, ?_⟩
  rw [hz, eL_0 rfl, lz_n (by omega)]
theorem U_cut (hs : Scn A S) (h : RI B T ρ P V (pbM A N)) (hB : B < 990000) (hP : Hs l P) (hl : l.length ≤ 13) {q kd m : Nat} (h3 : ρ 3 = 1) (h1 : 1 ≤ q) (hq : q ≤ 36) (hk : kd ≤ 2) (h10 : ρ 10 = nI m) (hm : m ≤ 36) : Wp (d + 10) 109 [.ref (A + 1), .int (nI q), .int (nI kd)] (S, N, J) (fun rs w' => ∃ N', w' = (S, N', J) ∧ Frm A N N' ∧ ∃ P', Hs (ρ :: l) P' ∧ RI (B + 1000) T (upd (upd ρ 10 (nI q)) 11 (nI kd)) P' V (pbM A N') ∧ rs = .inl (some (.long (lz m)))) := by
  have hz : aCut ρ (nI q) (nI kd) = (0, nI m) := by
    unfold aCut
    rw [if_pos ⟨by rw [o_1, nI_ltI (by omega) (by omega)]; omega, by rw [show (36 : Int32) = nI 36 from rfl, nI_ltI (by omega) (by omega)]; omega, nI_pos (by omega), by rw [o_2, nI_ltI (by omega) (by omega)]; omega⟩, if_neg (by rw [h3]; decide), h10]
  refine Wp_mono (X_cut hs h hB) ?_
  rintro rs_ w1 ⟨N1, rfl, hF, ⟨-, k1⟩, rfl⟩
  refine ⟨N1, rfl, hF, push ρ P, hP.push hl, k1 (by rw [hz]), ?_⟩
  rw [hz, eL_0 rfl, lz_n (by omega)]
theorem U_step (hs : Scn A S) (h : RI B T ρ P V (pbM A N)) (hB : B < 990000) (hP : Hs l P) (hl : l.length ≤ 13) {m : Nat} (h1 : ρ 1 = nI m) (hm : m ≤ 99) : Wp (d + 10) 113 [.ref (A + 1), .int 1] (S, N, J) (fun rs w' => ∃ N', w' = (S, N', J) ∧ Frm A N N' ∧ ∃ P', Hs (ρ :: l) P' ∧ RI (B + 1000) T (upd ρ 1 1) P' V (pbM A N') ∧ rs = .inl (some (.long (lz m)))) := by
  have hz : aStep ρ 1 = (0, nI m) := by
    unfold aStep
    rw [if_pos (by decide), h1]
  refine Wp_mono (X_setStep hs h hB) ?_
  rintro rs_ w1 ⟨N1, rfl, hF, ⟨-, k1⟩, rfl⟩
  refine ⟨N1, rfl, hF, push ρ P, hP.push hl, k1 (by rw [hz]), ?_⟩
  rw [hz, eL_0 rfl, lz_n (by omega)]
theorem U_repl (hs : Scn A S) (h : RI B T ρ P V (pbM A N)) (hB : B < 990000) (hP : Hs l P) (hl : l.length ≤ 13) {n s w : Nat} (ec : (ρ 0).toNatClampNeg = n) (hn : n ≤ 12) (hsn : s < n) (h3 : ρ 3 = 1) (hc : ¬ nI s = ρ 7) (hw : rWear ρ s = nI w) (hw2 : w < 2147483648) : Wp (d + 10) 114 [.ref (A + 1), .int (nI s)] (S, N, J) (fun rs w' => ∃ N', w' = (S, N', J) ∧ Frm A N N' ∧ ∃ P', Hs (ρ :: l) P' ∧ RI (B + 1000) T (rRenew ρ s) P' V (pbM A N') ∧ rs = .inl (some (.long (lz w)))) := by
  have hz : aRepl ρ (ρ 0).toNatClampNeg (nI s) = (0, nI w) := by
    unfold aRepl
    rw [ec, if_pos ⟨nI_pos (by omega), nI_ge hsn (by omega)⟩, if_pos ⟨h3, hc⟩, ck (by omega), hw]
  refine Wp_mono (X_replace hs h hB) ?_
  rintro rs_ w1 ⟨N1, rfl, hF, ⟨-, k1⟩, rfl⟩
  have k1 := k1 (by rw [hz])
  rw [ck (by omega)] at k1
  refine ⟨N1, rfl, hF, push ρ P, hP.push hl, k1, ?_⟩
  rw [hz, eL_0 rfl, lz_n hw2]
theorem U_save (hs : Scn A S) (h : RI B T ρ P V (pbM A N)) (hB : B < 990000) {t : Nat} (h5 : ρ 5 = nI t) (ht : t < 2147483648) : Wp (d + 10) 122 [.ref (A + 1), .int 1] (S, N, J) (fun rs w' => ∃ N', w' = (S, N', J) ∧ Frm A N N' ∧ RI B T ρ P (keep V 1 ρ) (pbM A N') ∧ rs = .inl (some (.long (lz t)))) := by
  have hz : aSave ρ 1 = (0, nI t) := by
    unfold aSave
    rw [if_pos (by decide), h5]
  refine Wp_mono (X_save hs h hB) ?_
  rintro rs_ w1 ⟨N1, rfl, hF, ⟨-, k1⟩, rfl⟩
  refine ⟨N1, rfl, hF, k1 (by rw [hz]), ?_⟩
  rw [hz, eL_0 rfl, lz_n ht]
theorem U_rest (hs : Scn A S) {σ : Rw} (h : RI B T σ P (keep V 1 ρ) (pbM A N)) (hB : B < 990000) {t : Nat} (h5 : ρ 5 = nI t) (ht : t < 2147483648) : Wp (d + 10) 123 [.ref (A + 1), .int 1] (S, N, J) (fun rs w' => ∃ N', w' = (S, N', J) ∧ Frm A N N' ∧ RI B T ρ (0, P.2) (keep V 1 ρ) (pbM A N') ∧ rs = .inl (some (.long (lz t)))) := by
  have hz : aRs (keep V 1 ρ) 1 = (0, nI t) := by
    unfold aRs
    rw [if_pos (by decide), if_pos (by rfl)]
    exact congrArg (fun z => (0, z)) h5
  refine Wp_mono (X_restore hs h hB) ?_
  rintro rs_ w1 ⟨N1, rfl, hF, ⟨-, k1⟩, rfl⟩
  refine ⟨N1, rfl, hF, k1 (by rw [hz]), ?_⟩
  rw [hz, eL_0 rfl, lz_n ht]
theorem RI.zero {H H' : Nat → Rw} {M : Nat → Nat → Int32} (h : RI B T ρ (0, H) V M) : RI B T ρ (0, H') V M := by
  obtain ⟨h1, h2, ⟨y, a1, a2, a3, a4, -⟩, h4⟩ := h
  exact ⟨h1, h2, ⟨y, a1, a2, a3, a4, fun i hi => absurd hi (Nat.not_lt_zero _)⟩, h4⟩
end
section
variable {ρ : Rw} {t : Nat}
theorem rGo_1 (h3 : ρ 3 = 1) : rGo 1 ρ = rGo1 ρ := by
  unfold rGo
  rw [if_pos h3]
  rfl
theorem rGone_1 (h3 : ρ 3 = 1) : rGone 1 ρ = 1 := by
  unfold rGone
  rw [if_pos h3]
  rfl
theorem rPower_3 : rPower ρ 3 = 1 := by
  unfold rPower rPow
  first | rfl | (split <;> rfl)
/-- what a start finds -/
theorem start_in (h : Iv t ρ) (ht : t < 1073741824) {d s : Nat} (h4 : ρ 4 = nI d) (hd : d < 1073741824) (h6 : ρ 6 = nI s) (hs : s < 1073741824) : ∃ n v c, n ≤ 12 ∧ ρ 0 = nI n ∧ s ≤ v ∧ v ≤ d ∧ Ed n v v c (rPower ρ) := by
  obtain ⟨n, cur, hn3, hn, h0, hE⟩ := h.ed ht h4 hd h6 hs
  obtain ⟨v, c, x1, x2, x3⟩ := rPower_v h0 (by omega) hn hd hE
  exact ⟨n, v, c, hn, h0, x1, x2, x3⟩
/-- what a start finds behind one tenth -/
theorem go1_in (h : Iv t ρ) (ht : t + 1 < 1073741824) (h3 : ρ 3 = 1) {d s : Nat} (h4 : ρ 4 = nI d) (hd : d < 1000000000) (h6 : ρ 6 = nI s) (hs : s < 1000000000) : ∃ v, s ≤ v ∧ v ≤ d + 1 ∧ rPower (rGo 1 ρ) 4 = nI v := by
  rw [rGo_1 h3]
  obtain ⟨n, cur, hn3, hn, h0, hE⟩ := h.ed (by omega) h4 (by omega) h6 (by omega)
  have hT : Ed n (d + 1) s cur (rTick ρ) := by
    obtain ⟨a1, a2, a3, a4, a5, a6, a7⟩ := hE
    have es : ∀ k, rSays (rTick ρ) k = rSays ρ k := fun k => by
      unfold rTick
      rw [says_o (by omega), says_o (by omega)]
    refine ⟨?_, a2, a3, a4, by omega, (a6.mono (Nat.le_succ d)).cg (fun k _ => es k), by rw [es]; exact a7⟩
    show ρ 4 + 1 = _
    rw [a1, nI_1]
  have h0T : rTick ρ 0 = nI n := h0
  have out : ∀ σ : Rw, σ 0 = nI n → (∃ s' c', s ≤ s' ∧ s' ≤ d + 1 ∧ Ed n (d + 1) s' c' σ) → ∃ v, s ≤ v ∧ v ≤ d + 1 ∧ rPower σ 4 = nI v := by
    rintro σ e0 ⟨s', c', y1, y2, y3⟩
    obtain ⟨v, c, x1, x2, x3⟩ := rPower_v e0 (by omega) hn (by omega) y3
    exact ⟨v, by omega, x2, x3.1⟩
  have hsd : s ≤ d := hE.2.2.2.2.1
  unfold rGo1
  split
  · rename_i hD
    split
    · exact out _ h0T ⟨s, cur, Nat.le_refl _, by omega, hT⟩
    · refine out _ ((rStore_keep (by omega)).trans h0T) ?_
      rcases rStore_Ed h0T hn (by omega) h3 hD (rTick_I h.2.1.1).2.2.1 hT with g | ⟨-, c', g⟩
      · exact ⟨s, cur, Nat.le_refl _, by omega, g⟩
      · exact ⟨d + 1, c', by omega, Nat.le_refl _, g⟩
  · exact out _ h0T ⟨s, cur, Nat.le_refl _, by omega, hT⟩
theorem till_v {σ : Rw} (h12 : σ 12 = 0) : vTill σ = -99999 ∨ ∃ c, 1 ≤ c ∧ c ≤ 9999 ∧ vTill σ = nI c := by
  unfold vTill
  split
  · rename_i g
    exact Or.inr ⟨_, cTl_ge1 (f := 9999) h12, g, rfl⟩
  · exact Or.inl rfl
theorem renew_o {s k : Nat} (hk : k < 42) : rRenew ρ s k = ρ k := rRn_hi hk 3
end
