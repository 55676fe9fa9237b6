/-! THE LAW: kept -/
section
variable {ρ : Rw}
theorem cGr_le {n dd : Nat} (hd : dd < 1073741824) (hS : S1 n dd ρ) (k : Nat) (hk : k ≤ n) : cGr ρ k ≤ nI dd := by
  induction k with
  | zero =>
    show (-99999 : Int32) ≤ nI dd
    rw [Int32.le_iff_toInt_le, nI_toInt (by omega)]
    show (-99999 : Int) ≤ _
    omega
  | succ k ih =>
    rw [cGr]
    split
    · exact ih (by omega)
    · rcases hS k (by omega) with g | ⟨v, hv, g⟩
      · rw [g]
        rw [Int32.le_iff_toInt_le, nI_toInt (by omega)]
        show (-99999 : Int) ≤ _
        omega
      · rw [g, nI_leI (by omega) (by omega)]
        exact hv
theorem rMost_v {l : Nat} (hl : l ≤ 999) (hw : ∀ q, q < 36 → ∃ m, m ≤ l ∧ ρ (43 + 2 * q) = nI m) (k : Nat) (hk : k ≤ 36) : ∃ a, a ≤ 999 ∧ rMost ρ k = nI a := by
  induction k with
  | zero =>
    obtain ⟨m, hm, e⟩ := hw 0 (by omega)
    exact ⟨m, by omega, e⟩
  | succ k ih =>
    rw [rMost]
    split
    · exact ih (by omega)
    · obtain ⟨m, hm, e⟩ := hw k (by omega)
      exact ⟨m, by omega, e⟩
theorem rLeast_v {l : Nat} (hl : l ≤ 999) (hw : ∀ q, q < 36 → ∃ m, m ≤ l ∧ ρ (43 + 2 * q) = nI m) (k : Nat) (hk : k ≤ 36) : ∃ a, a ≤ 999 ∧ rLeast ρ k = nI a := by
  induction k with
  | zero =>
    obtain ⟨m, hm, e⟩ := hw 0 (by omega)
    exact ⟨m, by omega, e⟩
  | succ k ih =>
    rw [rLeast]
    split
    · exact ih (by omega)
    · obtain ⟨m, hm, e⟩ := hw k (by omega)
      exact ⟨m, by omega, e⟩
theorem gap_64 {a b : Nat} (ha : a ≤ 999) (hb : b ≤ 999) : (nI a - nI b).toInt64 = (nI a).toInt64 - (nI b).toInt64 := by
  rw [lz_i, pk_sub_toInt (by omega) (by omega), lz_n (by omega), lz_n (by omega), lz_sub]
end
section
variable {A d : Nat} {S : Sc} {J : Nat → Nat → Int64} {B : Nat} {T : Tx} {ρ : Rw} {P : Pst9} {V : Sav}
set_option maxHeartbeats 1000000 in
theorem Z_kept {N : Nat → Nat → Int32} {t : Nat} (hs : Scn A S) (h : RI B T ρ P V (pbM A N)) (hB : B < 990000) (hI : Iv t ρ) (ht : t < 1000000) : Wp (d + 11) 126 [.ref (A + 1)] (S, N, J) (fun rs w' => ∃ N', w' = (S, N', J) ∧ Frm A N N' ∧ RI B T ρ P V (pbM A N') ∧ rs = .inl (some (.int 1))) := by
  obtain ⟨h5, hI2, n, dd, ss, cur, l, w, c, m, ⟨hn3, hn, h0⟩, ⟨⟨e4, e6, e7, hcur, hss, hS1, hsc⟩, hd⟩, ⟨⟨e2, hl, e8, hcells, hsum⟩, hw⟩, ⟨hc, h9, hoff⟩, hm, h17, hEs⟩ := id hI
  have ec : (ρ 0).toNatClampNeg = n := by rw [h0, ck (by omega)]
  have ec17 : (ρ 17).toNatClampNeg = m := by rw [h17, ck (by omega)]
  have hK : Kf n t l ρ := ⟨⟨hn3, hn, h0, ec⟩, ⟨ht, h5⟩, ⟨e2, hl, hcells⟩, hS1.mono hd⟩
  have hW : wS ρ (3 * n) ≤ w := by
    have := wS_mono (ρ := ρ) (3 * n) (36 - 3 * n)
    rw [show 3 * n + (36 - 3 * n) = 36 by omega] at this
    omega
  have hsm := shS_100 (n := n) hl hcells hn
  obtain ⟨ga, hga, ega⟩ := rMost_v hl hcells (3 * n) (by omega)
  obtain ⟨gb, hgb, egb⟩ := rLeast_v hl hcells (3 * n) (by omega)
  have hgap : (rMost ρ (3 * n) - rLeast ρ (3 * n)).toInt64 = (rMost ρ (3 * n)).toInt64 - (rLeast ρ (3 * n)).toInt64 := by
    rw [ega, egb]
    exact gap_64 hga hgb
  have hgr : ¬ lz dd < (cGr ρ n).toInt64 := by
    rw [← lz_n (show dd < 2147483648 by omega)]
    exact fun q => absurd (cGr_le (by omega) hS1 n (Nat.le_refl _)) (Int32.not_le.mpr (lt64.mp q))
  refine ⟨rfl, ?_⟩
  refine k_0 hs h hB h0 ec hn3 hn hI2.1.2.1.1 (fun N1 o nc1 ns1 ho hF1 h1 hc1 hn1 => ?_)
  refine K_slots hs hB N hK n 0 N1 nc1 ns1 (by omega) hF1 h1 (by omega) (by omega) (fun N2 nc2 ns2 hF2 h2 hc2 hn2 => ?_)
  rw [show (0 : Int64) = lz ((shS ρ (wS ρ (3 * n)) 0 : Nat) : Int) from rfl]
  refine K_share hs hB N hK n 0 N2 nc2 ns2 (by omega) hF2 h2 (by omega) (by omega) (fun N3 nc3 ns3 hF3 h3 hc3 hn3' => ?_)
  refine k_567 hs h3 hB ec hsm hgap e8 (by omega) hW (by omega) (by omega) (fun N4 nc4 ns4 hF4 h4 hc4 hn4 => ?_)
  have hF4' := hF3.tr hF4
  rcases ho with ⟨ho, p3⟩ | ⟨ho, p3⟩
  · obtain ⟨hc1', a, b, e, f, x1, x2, x3, x4, y1, y2, y3, y4⟩ := hoff p3
    exact k_off hs h4 hB ho p3 (hI2.2.2 p3) h9 hc1' (by omega) y1 y2 y3 y4 x1 x2 x3 x4 hn3 hn (by omega) (by omega) (fun N5 hF5 h5' => ⟨N5, rfl, hF4'.tr hF5, h5', rfl⟩)
  · have p3' : ¬ ρ 3 = 0 := by rw [p3]; decide
    refine k_749 hs h4 hB ho p3' e4 e6 h17 hm (by omega) hss (by omega) (by omega) (fun N5 nc5 ns5 hF5 h5' hc5 hn5 => ?_)
    refine k_773 hs h5' hB p3' h5 e7 ec hn3 hn hcur (by omega) hd hss hgr (fun q => hsc.resolve_left q) (by omega) (by omega) (fun N6 nc6 ns6 hF6 h6 hc6 hn6 => ?_)
    refine k_845 hs h6 hB hI2.2.1 (fun q => ?_) (by omega) (by omega) (fun N7 nc7 ns7 hF7 h7 hc7 hn7 => ?_)
    · obtain ⟨k, hk, k10, k11⟩ := hI2.1.2.2.1
      rcases k11 with rfl | k11
      · exact absurd k10 q
      · rcases k11 with e | e | e <;> rw [e] <;> decide
    refine k_882 hs h7 hB h17 hm (fun q => ?_) (fun q => ?_) (by omega) (by omega) (fun N8 nc8 ns8 hF8 h8 hc8 hn8 => ?_)
    · unfold fiV
      rw [ec17, q]
      rfl
    · obtain ⟨j, hj, ej, _⟩ := rSm_min (ρ := ρ) m (by omega) hm
      obtain ⟨cj, g, hcj, hg, aj, bj⟩ := hEs j hj
      unfold fiV
      rw [ec17, ej, if_neg (fun q => nI_nn (m := j) (by omega) (by rw [q]; exact Int32.le_refl _)), ck (by omega), aj]
      exact fun q => nI_nn (m := cj) (by omega) (by rw [q]; exact Int32.le_refl _)
    have hKs : Ks m dd ρ := by
      refine ⟨p3', h17, ec17, hm, ?_, e4, by omega, fun k hk => ?_⟩
      · obtain ⟨m', hm', h17', hD⟩ := hI2.1.2.2.2.2.2.2.2
        have : m' = m := by
          rw [h17, nI_eq (by omega) (by omega)] at h17'
          exact h17'.symm
        rw [← this]
        exact hD
      · obtain ⟨cj, g, hcj, hg, aj, bj⟩ := hEs k hk
        exact ⟨cj, g, hcj, by omega, aj, bj⟩
    exact K_serv hs hB N hKs m 0 N8 nc8 ns8 (by omega) ((((hF4'.tr hF5).tr hF6).tr hF7).tr hF8) h8 (by omega) (by omega) (fun N9 hF9 h9 => ⟨N9, rfl, hF9, h9, rfl⟩)
end
