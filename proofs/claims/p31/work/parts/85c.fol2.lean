/-! THE LAW: follows, the whole: written by wip/p31/fol2.py -/
section
variable {A d : Nat} {S : Sc} {J : Nat → Nat → Int64} {B : Nat} {T : Tx} {ρ : Rw} {P : Pst9} {V : Sav}
set_option maxHeartbeats 4000000 in
theorem Z_follows {N : Nat → Nat → Int32} {t k : Nat} (hs : Scn A S) (h : RI B T ρ P V (pbM A N)) (hB : B < 970000) (hI : Iv t ρ) (ht : t < 990000) (hk : k < 2147483648) : Wp (d + 11) 127 [.ref (A + 1), .int (nI k)] (S, N, J) (fun rs w' => ∃ N' P', w' = (S, N', J) ∧ Frm A N N' ∧ RI (B + 7000) T ρ (0, P') (keep V 1 ρ) (pbM A N') ∧ rs = .inl (some (.int 1))) := by
  obtain ⟨h5, hI2, n, dd, ss, cur, l, w, c, m, ⟨hn3, hn, h0⟩, ⟨⟨e4, e6, e7, hcur, hss, hS1, hsc⟩, hd⟩, ⟨⟨e2, hl, e8, hcells, hsum⟩, hw⟩, ⟨hc, h9, hoff⟩, hm, h17, hEs⟩ := id hI
  have ec : (ρ 0).toNatClampNeg = n := by rw [h0, ck (by omega)]
  obtain ⟨sl, hsl⟩ : ∃ sl, k / 11 % n = sl := ⟨_, rfl⟩
  have hsn : sl < n := by
    rw [← hsl]
    exact Nat.mod_lt _ (by omega)
  obtain ⟨w0, b0, a0⟩ := hcells (3 * sl + 0) (by omega)
  obtain ⟨w1, b1, a1⟩ := hcells (3 * sl + 1) (by omega)
  obtain ⟨w2, b2, a2⟩ := hcells (3 * sl + 2) (by omega)
  have b0 : w0 ≤ 999 := by omega
  have b1 : w1 ≤ 999 := by omega
  have b2 : w2 ≤ 999 := by omega
  refine ⟨rfl, ?_⟩
  refine f_0 hs h (by omega) (by omega) hk hI2.1.2.1.1 h5 (by omega) (by omega) (by omega) (fun N1 P1 o nc1 ns1 ho hF1 h1 hc1 hn1 => ?_)
  rcases ho with ⟨rfl, on3⟩ | ⟨rfl, off3⟩
  · have h30 : ¬ ρ 3 = 0 := by rw [on3]; decide
    obtain ⟨x1, x2, x3, x4⟩ := rGo_V (1 + k / 7 % 300) hI (by omega)
    refine f_n1 hs h1 (by omega) hk rfl h30 e4 e6 (by omega) hss (by omega) (by omega) (fun N2 P2 nc2 ns2 hF2 h2 hc2 hn2 => ?_)
    refine f_n2 hs h2 (by omega) on3 (by omega) (by omega) (x4 on3 (by omega)) x2 x1.1 (by omega) (by omega) ?_ (by omega) (by omega) (fun N3 P3 nc3 ns3 hF3 hP3 h3 hc3 hn3' => ?_)
    · rcases x1.2.1.1.2.1.1 with g | g
      · obtain ⟨-, -, _, _, _, _, _, _, c', _, _, _, _, ⟨hc', h9', hoff'⟩, _⟩ := id x1
        exact Or.inl ⟨g, c', (hoff' g).1, by omega, h9'⟩
      · obtain ⟨y1, y2⟩ := x3 g
        exact Or.inr ⟨g, y1, by rw [y2, e4, nI_add]⟩
    refine f_n3 hs h3 (by omega) hP3 (by omega) (by omega) (fun N4 P4 nc4 ns4 hF4 h4 hc4 hn4 => ?_)
    have hF4' := ((hF1.tr hF2).tr hF3).tr hF4
    rcases hI2.1.2.1.2 with h12 | h12
    · have hkd : k / 36 % 3 ≤ 2 := by omega
      obtain ⟨v, hv1, hv2, hA⟩ := found_in (q := 1 + k % 36) (k := nI (k / 36 % 3)) hI (by omega) on3 h12 (by omega) (by omega) (n012 hkd) e4 (by omega) e6 (by omega)
      obtain ⟨u, hu1, hu2, hW, hmin⟩ := worst_in hI (by omega) on3 h12 e4 (by omega) e6 hss
      have huv := hmin (1 + k % 36) (k / 36 % 3) v (by omega) (by omega) hkd (by omega) hA
      have hA2 : aAfter ρ (nI (1 + k % 36)) (nI (k / 36 % 3)) = (0, nI v) := by
        unfold aAfter
        rw [if_pos ⟨by rw [o_1, nI_ltI (by omega) (by omega)]; omega, by rw [show (36 : Int32) = nI 36 from rfl, nI_ltI (by omega) (by omega)]; omega, nI_pos (by omega), by rw [o_2, nI_ltI (by omega) (by omega)]; omega⟩, if_neg (fun q => q.elim h30 (fun q => by rw [h12] at q; exact absurd q (by decide))), hA]
      have hT : aTill ρ (nI (1 + k / 5 % 99)) = (0, vTill (upd (upd ρ 1 (nI (1 + k / 5 % 99))) 10 0)) := by
        unfold aTill
        rw [if_pos ⟨by rw [o_1, nI_ltI (by omega) (by omega)]; omega, by rw [show (99 : Int32) = nI 99 from rfl, nI_ltI (by omega) (by omega)]; omega⟩, if_neg h30]
      obtain ⟨st, hst1, hst2, e1⟩ := hI2.1.2.2.2.2.2.2.1
      obtain ⟨m10, hm10, e10, _⟩ := hI2.1.2.2.1
      have hR1 : Iv t (upd (upd ρ 10 (nI (1 + k % 36))) 11 (nI (k / 36 % 3))) := cut_V hI (by omega) (by omega) (n012 hkd)
      have hR2 : Iv t (upd (upd (upd ρ 10 (nI (1 + k % 36))) 11 (nI (k / 36 % 3))) 1 1) := step_V (q := 1) hR1 (by omega) (by omega)
      refine f_l1 hs h4 (by omega) h12 hA2 hW (by omega) hv1 hv2 hu1 huv (by omega) (by omega) (fun N5 P5 nc5 ns5 hF5 h5' hc5 hn5 => ?_)
      refine f_l2 hs h5' (by omega) hk hT (till_v (σ := upd (upd ρ 1 (nI (1 + k / 5 % 99))) 10 0) h12) (by omega) (by omega) (fun N6 P6 r nc6 ns6 hF6 h6 hc6 hn6 => ?_)
      refine f_l3 hs h6 (by omega) on3 (by omega) (by omega) hkd e10 hm10 (st := st) e1 hst1 hst2 (by omega) (by omega) (fun N7 P7 nc7 ns7 hF7 hP7 h7 hc7 hn7 => ?_)
      have hF7' := ((hF4'.tr hF5).tr hF6).tr hF7
      obtain ⟨z1, -, -, -⟩ := rGo_V 1 hR2 (by omega)
      refine f_l4 hs h7 (by omega) hP7 rfl (by omega) hss ?_ (by omega) (by omega) (fun N8 P8 u' nc8 ns8 hF8 hP8 h8 hc8 hn8 => ?_) (fun N8 P8 nc8 ns8 hF8 hP8 h8 hc8 hn8 => ?_)
      · rcases z1.2.1.1.2.1.1 with g | g
        · obtain ⟨u', y1, y2, y3⟩ := go1_in hR2 (by omega) on3 (d := dd) (s := ss) e4 (by omega) e6 (by omega)
          exact Or.inl ⟨g, u', y1, y2, y3⟩
        · exact Or.inr g
      · refine f_l5a hs h8 (by omega) hP8 (by omega) (by omega) (fun N9 P9 nc9 ns9 hF9 h9' hc9 hn9 => ?_)
        subst hsl
        refine f_s0a hs h9' (by omega) hk h0 hn3 hn rfl (by omega) (by omega) (fun Na Pa nca nsa hFa ha hca hna => ?_)
        refine f_s1a hs ha (by omega) on3 ec hn hsn a0 a1 a2 b0 b1 b2 e4 (by omega) (by omega) (by omega) (fun Nb Pb ncb nsb hFb hb hcb hnb => ?_) (fun Nb Pb ncb nsb hFb hb hcb hnb => ?_)
        · exact f_e1a hs hb (by omega) h5 (by omega) (by omega) (by omega) (fun N' P' hF' hR => ⟨N', P', rfl, ((((hF7'.tr hF8).tr hF9).tr hFa).tr hFb).tr hF', hR.mono (by omega), rfl⟩)
        · exact f_e2a hs hb (by omega) h5 (by omega) (by omega) (by omega) (fun N' P' hF' hR => ⟨N', P', rfl, ((((hF7'.tr hF8).tr hF9).tr hFa).tr hFb).tr hF', hR.mono (by omega), rfl⟩)
      · refine f_l5b hs h8 (by omega) hP8 (by omega) (by omega) (fun N9 P9 nc9 ns9 hF9 h9' hc9 hn9 => ?_)
        subst hsl
        refine f_s0b hs h9' (by omega) hk h0 hn3 hn rfl (by omega) (by omega) (fun Na Pa nca nsa hFa ha hca hna => ?_)
        refine f_s1b hs ha (by omega) on3 ec hn hsn a0 a1 a2 b0 b1 b2 e4 (by omega) (by omega) (by omega) (fun Nb Pb ncb nsb hFb hb hcb hnb => ?_) (fun Nb Pb ncb nsb hFb hb hcb hnb => ?_)
        · exact f_e1b hs hb (by omega) h5 (by omega) (by omega) (by omega) (fun N' P' hF' hR => ⟨N', P', rfl, ((((hF7'.tr hF8).tr hF9).tr hFa).tr hFb).tr hF', hR.mono (by omega), rfl⟩)
        · exact f_e2b hs hb (by omega) h5 (by omega) (by omega) (by omega) (fun N' P' hF' hR => ⟨N', P', rfl, ((((hF7'.tr hF8).tr hF9).tr hFa).tr hFb).tr hF', hR.mono (by omega), rfl⟩)
    · refine f_d hs h4 (by omega) h12 (by omega) (by omega) (fun N5 P5 nc5 ns5 hF5 h5' hc5 hn5 => ?_)
      subst hsl
      refine f_s0d hs h5' (by omega) hk h0 hn3 hn rfl (by omega) (by omega) (fun Na Pa nca nsa hFa ha hca hna => ?_)
      refine f_s1d hs ha (by omega) on3 ec hn hsn a0 a1 a2 b0 b1 b2 e4 (by omega) (by omega) (by omega) (fun Nb Pb ncb nsb hFb hb hcb hnb => ?_) (fun Nb Pb ncb nsb hFb hb hcb hnb => ?_)
      · exact f_e1d hs hb (by omega) h5 (by omega) (by omega) (by omega) (fun N' P' hF' hR => ⟨N', P', rfl, (((hF4'.tr hF5).tr hFa).tr hFb).tr hF', hR.mono (by omega), rfl⟩)
      · exact f_e2d hs hb (by omega) h5 (by omega) (by omega) (by omega) (fun N' P' hF' hR => ⟨N', P', rfl, (((hF4'.tr hF5).tr hFa).tr hFb).tr hF', hR.mono (by omega), rfl⟩)
  · obtain ⟨n', v, c', hn', h0', hv1, hv2, hE⟩ := start_in hI (by omega) e4 (by omega) e6 (by omega)
    have p30 : ¬ rPower ρ 3 = 0 := by rw [rPower_3]; decide
    refine f_o1 hs h1 (by omega) off3 hE.1 hE.2.1 (by omega) (by omega) (by omega) (by omega) (fun N2 P2 nc2 ns2 hF2 hP2 h2 hc2 hn2 => ?_)
    refine f_o2 hs h2 (by omega) hP2 p30 hE.2.2.1 (by rw [rPower_o (by omega) (by omega) (by omega) (by omega) (by omega), h0', ck (by omega)]) hn' hE.2.2.2.1 hE.2.2.2.2.2.2 (by omega) (by omega) (by omega) (fun N3 P3 nc3 ns3 hF3 hP3 h3 hc3 hn3' => ?_)
    refine f_o3 hs h3 (by omega) hP3 (by omega) (by omega) (fun N4 P4 nc4 ns4 hF4 h4 hc4 hn4 => ?_)
    exact f_eo hs h4 (by omega) h5 (by omega) (by omega) (by omega) (fun N' P' hF' hR => ⟨N', P', rfl, (((hF1.tr hF2).tr hF3).tr hF4).tr hF', hR.mono (by omega), rfl⟩)
end
