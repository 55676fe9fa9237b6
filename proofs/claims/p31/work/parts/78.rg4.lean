/-! THE CLASS: load: written by wip/whole/pure3.py -/
theorem mDo_0 {B sl : Nat} {ρ : Rw} {c : Nat × Nat × Nat} (_ : I2 B ρ) (hc : Okc sl c) : mDo ρ c 0 = ρ 0 := by
  obtain ⟨k, a, b⟩ := c
  rcases hc with ⟨rfl, _⟩ | ⟨rfl, _⟩ | ⟨rfl, _⟩ | ⟨rfl, _⟩ | rfl
  · show rDoDrive ρ a 0 = ρ 0
    unfold rDoDrive
    split
    · rfl
    · exact rGo_0 _
  · show rDoCut ρ (nI a) (nI b) 0 = ρ 0
    unfold rDoCut
    split <;> rfl
  · show rDoServe ρ (10 * nI a + nI b) (ρ 17).toNatClampNeg 0 = ρ 0
    unfold rDoServe
    split
    · unfold rServe
      split
      · exact rAdd_lo _ (by omega)
      · exact (rAdd_lo _ (by omega)).trans (rDrop_lo _ (by omega))
    · rfl
  · show rDoReplace ρ a 0 = ρ 0
    unfold rDoReplace
    split
    · exact rRn_hi (by omega) 3
    · rfl
  · show rDoStart ρ 0 = ρ 0
    unfold rDoStart
    split <;> rfl
theorem cNew_rq {σ ρ : Rw} {n : Nat} {st l : Int32} (hn : n ≤ 12) : Rq (cNew σ (nI n) st l) (rClean ρ (nI n) st l) := by
  have hc : cnt (rClean ρ (nI n) st l) = 0 := by
    unfold cnt
    rw [rClean_at (by omega)]
    rfl
  refine Rq.cg (m := 0) (Rp.of fun q h1 h2 => ?_) hc
  rw [cNew_at hn (by omega), rClean_at h1]
set_option maxHeartbeats 2000000 in
theorem V_obeyC {d : Nat} {S : Sc} {M : Nat → Nat → Int32} {J : Nat → Nat → Int64} {B sl : Nat} {ρ : Rw} {c : Nat × Nat × Nat} (hO : OdS S 4) (hq : Rq (vO M 4) ρ) (hI : I2 B ρ) (hB : B < 1000000) (hc : Okc sl c) (h0 : ρ 0 = nI sl) (hs1 : 1 ≤ sl) (hs12 : sl ≤ 12) : ∃ P, Wp (d + 6) 34 [.ref 4, .int (cLet c.1), .int (nI c.2.1), .int (nI c.2.2)] (S, M, J) P ∧ ∀ rs w', P rs w' → ∃ y row, rs = .inl (some (.int y)) ∧ w' = (S, sO M 4 row, J) ∧ ((y = 0 ∧ mNo ρ c = 1) ∨ (y = 1 ∧ mNo ρ c = 0)) ∧ Rq row (mDo ρ c) := by
  have hI' := hq.I2 hI
  have hl : ∀ q, q < 18 → vO M 4 q = ρ q := fun q h => Rp.at hq (by omega) (by omega)
  have hcn := hI.cnt
  have hB3 := bok3 hI.1.2.1
  have hf : ∀ x, rFnd (vO M 4) x (ρ 17).toNatClampNeg = rFnd ρ x (ρ 17).toNatClampNeg := fun x => Rp.fnd hq hcn.2 _ (Nat.le_refl _)
  obtain ⟨k, a, b⟩ := c
  have e3 := hl 3 (by omega)
  have e17 := hl 17 (by omega)
  have e7 := hl 7 (by omega)
  have e0 := hl 0 (by omega)
  rcases hc with ⟨rfl, g1, g2⟩ | ⟨rfl, g1, g2, g3⟩ | ⟨rfl, g1, g2⟩ | ⟨rfl, g1⟩ | rfl
  · have g1 : 1 ≤ a := g1
    have g2 : a ≤ 999 := g2
    have h := V_obey_d (d := d) (M := M) (J := J) (b := 4) hO (t := a) (y := nI b) (by omega) hI'.1 (show B < 1073741824 by omega)
    refine ⟨_, h, ?_⟩
    rintro rs w' ⟨rfl, rfl⟩
    have ht : ¬ nI a < 1 ∧ ¬ 999 < nI a := ⟨(lt1 (by omega)).mpr g1, by rw [o_999, nI_ltI (by omega) (by omega)]; omega⟩
    refine ⟨_, _, rfl, rfl, ?_, ?_⟩
    · rw [e3]
      by_cases g : ρ 3 = 0
      · exact Or.inl ⟨bI_f (fun h_ => h_.1 g), bI_t (fun h_ => h_ g)⟩
      · exact Or.inr ⟨bI_t ⟨g, ht⟩, bI_f (fun h_ => h_ g)⟩
    · show Rq _ (rDoDrive ρ a)
      unfold rDoDrive
      rw [e3]
      by_cases g : ρ 3 = 0
      · rw [if_pos g, if_neg (fun h_ => h_.1 g)]
        exact hq
      · rw [if_neg g, if_pos ⟨g, ht⟩]
        exact Rq.cg (Rp.go hq hI.1.1 _) (cnt_eq (rGo_17 _))
  · have g1 : 1 ≤ a := g1
    have g2 : a ≤ 36 := g2
    have g3 : b ≤ 2 := g3
    have h := V_obey_c (d := d + 4) (M := M) (J := J) (b := 4) hO (x := nI a) (y := nI b) hI'.1 (show B < 1073741824 by omega)
    refine ⟨_, h, ?_⟩
    rintro rs w' ⟨rfl, rfl⟩
    have ht : ¬ nI a < 1 ∧ ¬ 36 < nI a ∧ ¬ nI b < 0 ∧ ¬ 2 < nI b := ⟨(lt1 (by omega)).mpr g1, by rw [o_36, nI_ltI (by omega) (by omega)]; omega, nI_pos (by omega), by rw [o_2, nI_ltI (by omega) (by omega)]; omega⟩
    refine ⟨_, _, rfl, rfl, ?_, ?_⟩
    · rw [e3]
      by_cases g : ρ 3 = 0
      · exact Or.inl ⟨bI_f (fun h_ => h_.1 g), bI_t (fun h_ => h_ g)⟩
      · exact Or.inr ⟨bI_t ⟨g, ht⟩, bI_f (fun h_ => h_ g)⟩
    · show Rq _ (rDoCut ρ (nI a) (nI b))
      unfold rDoCut
      rw [e3]
      by_cases g : ρ 3 = 0
      · rw [if_pos g, if_neg (fun h_ => h_.1 g)]
        exact hq
      · rw [if_neg g, if_pos ⟨g, ht⟩]
        exact Rp.set (Rp.set hq (by omega)) (by omega)
  · have g1 : a ≤ 9 := g1
    have g2 : b ≤ 9 := g2
    have h := V_obey_m (d := d + 2) (M := M) (J := J) (b := 4) hO (x := nI a) (y := nI b) hI'.1 (show B < 1073741824 by omega)
    refine ⟨_, h, ?_⟩
    rintro rs w' ⟨rfl, rfl⟩
    have ht := isV_t g1 g2
    refine ⟨_, _, rfl, rfl, ?_, ?_⟩
    · rw [e3, e17, hf]
      by_cases g : ρ 3 = 1 ∧ (ρ 17 < 12 ∨ ¬ rFnd ρ (10 * nI a + nI b) (ρ 17).toNatClampNeg = -99999)
      · exact Or.inr ⟨bI_t ⟨hB3.mp g.1, ht, g.2⟩, bI_f (fun h_ => h_ g)⟩
      · exact Or.inl ⟨bI_f (fun h_ => g ⟨hB3.mpr h_.1, h_.2.2⟩), bI_t g⟩
    · show Rq _ (rDoServe ρ (10 * nI a + nI b) (ρ 17).toNatClampNeg)
      unfold rDoServe
      rw [e3, e17, hf]
      by_cases g : ρ 3 = 1 ∧ (ρ 17 < 12 ∨ ¬ rFnd ρ (10 * nI a + nI b) (ρ 17).toNatClampNeg = -99999)
      · rw [if_pos g, if_pos ⟨hB3.mp g.1, ht, g.2⟩]
        refine Rq.cg (Rp.serve hq hcn.2 ?_) ?_
        · refine g.2.imp (fun h_ => ?_) (fun h_ => h_)
          rw [hcn.1, o_12, nI_ltI (by have := hcn.2; omega) (by omega)] at h_
          exact h_
        · unfold cnt
          rw [rServe_17 hcn.2, ck (by unfold sCnt; split <;> omega)]
      · rw [if_neg g, if_neg (fun h_ => g ⟨hB3.mpr h_.1, h_.2.2⟩)]
        exact hq
  · have g1 : a ≤ sl - 1 := g1
    have h := V_obey_r (d := d + 2) (M := M) (J := J) (b := 4) hO (s := a) (y := nI b) (by omega) hI'.1 (show B < 1073741824 by omega)
    refine ⟨_, h, ?_⟩
    rintro rs w' ⟨rfl, rfl⟩
    have ht : ¬ nI a < 0 ∧ ¬ ρ 0 ≤ nI a := by rw [h0]; exact (slot_i (by omega) (by omega)).mpr (by omega)
    refine ⟨_, _, rfl, rfl, ?_, ?_⟩
    · rw [e3, e0, e7]
      by_cases g : ρ 3 = 1 ∧ ¬ nI a = ρ 7
      · exact Or.inr ⟨bI_t ⟨hB3.mp g.1, ht, g.2⟩, bI_f (fun h_ => h_ g)⟩
      · exact Or.inl ⟨bI_f (fun h_ => g ⟨hB3.mpr h_.1, h_.2.2⟩), bI_t g⟩
    · show Rq _ (rDoReplace ρ a)
      unfold rDoReplace
      rw [e3, e0, e7]
      by_cases g : ρ 3 = 1 ∧ ¬ nI a = ρ 7
      · rw [if_pos g, if_pos ⟨hB3.mp g.1, ht, g.2⟩]
        exact Rq.cg (Rp.renew hq (by omega)) (cnt_eq rRenew_17)
      · rw [if_neg g, if_neg (fun h_ => g ⟨hB3.mpr h_.1, h_.2.2⟩)]
        exact hq
  · have h := V_obey_s (d := d + 1) (M := M) (J := J) (b := 4) hO (x := nI a) (y := nI b) hI'.1 (show B < 1073741824 by omega)
    refine ⟨_, h, ?_⟩
    rintro rs w' ⟨rfl, rfl⟩
    refine ⟨_, _, rfl, rfl, ?_, ?_⟩
    · rw [e3]
      by_cases g : ρ 3 = 0
      · exact Or.inr ⟨bI_t g, bI_f (fun h_ => h_ (fun h2_ => by rw [g] at h2_; exact absurd h2_ (by decide)))⟩
      · exact Or.inl ⟨bI_f g, bI_t (fun h_ => h_ (hB3.mpr g))⟩
    · show Rq _ (rDoStart ρ)
      unfold rDoStart
      rw [e3]
      by_cases g : ρ 3 = 0
      · have n1 : ¬ ρ 3 = 1 := fun h2_ => by rw [g] at h2_; exact absurd h2_ (by decide)
        rw [if_neg n1, if_pos g]
        exact Rq.cg (Rp.power hq hI.1.1) (cnt_eq rfl)
      · rw [if_pos (hB3.mpr g), if_neg g]
        exact hq
theorem vO_cg {M M' : Nat → Nat → Int32} {b : Nat} (h : ∀ o, b ≤ o → o < b + 7 → M' o = M o) : vO M' b = vO M b := by
  funext q
  unfold vO
  have := ps_le' q
  rw [h _ (by omega) (by omega)]
set_option maxHeartbeats 2000000 in
theorem L_cld {d : Nat} {Q : Res → Wd → Prop} {S : Sc} {M : Nat → Nat → Int32} {J : Nat → Nat → Int64} {n : Nat} {τ : Nat → Nat} {sl : Nat} (hR : RgS S) (hs1 : 1 ≤ sl) (hs12 : sl ≤ 12) : ∀ (f i c : Nat) (A : Nat → Nat → Int32) (ρ : Rw) (l : Int32) (BB : Nat), i + f = 90 → i ≤ c → c < 300 → TxC A n τ → A 2 7 = nI c → A 2 1 = nI sl → (mText n τ sl f (true, c)).1 = true → Rq (vO A 4) ρ → I2 BB ρ → BB + 1000 * f < 1000000 → ρ 0 = nI sl → (∀ o, o ≠ 2 → (o < 4 ∨ 11 ≤ o) → A o = M o) → (∀ A', TxC A' n τ → (∀ o, o ≠ 2 → (o < 4 ∨ 11 ≤ o) → A' o = M o) → Rq (vO A' 4) (mLd n τ sl f (true, c) ρ l).1 → Q (.inl (some (.int (mLd n τ sl f (true, c) ρ l).2))) (S, A', J)) → EE (SJ (d + 9) 66 (Wp (d + 8)) Q) (78, [(0, .ref 1), (1, .int l), (2, .int (nI i))], [], (S, A, J), 0, 0) := by
  obtain ⟨hSt, hO, hOt, ⟨b1, r10, r11, r12, r13, r14⟩, ⟨b18, r182⟩, hH, hV⟩ := id hR
  have k0 : S.2.1 4 = 2 := hO.1.1
  have k1 : S.2.1 5 = 0 := hO.1.2.1
  have k4 : S.2.1 8 = 3 := hO.1.2.2.2.2.1
  have q0 : S.2.2.2 4 0 = 5 := hO.2.1.1
  have q1 : S.2.2.2 4 1 = 8 := hO.2.1.2.1
  have kt : S.2.1 11 = 2 := hOt.1.1
  have kst : S.2.1 2 = 5 := hSt.1
  have k120 : S.2.1 120 = 4 := hV.1
  intro f
  induction f with
  | zero =>
    intro i c A ρ l BB hi hic hc hT h7 hx1 hg hq hI hB h0 ho hQ
    refine EE.runN (stop := noStop) 60 _ ?_
    refine ⟨fun h1 => ?_, fun h1 => ?_⟩
    · refine ⟨⟨Nat.zero_le _, Nat.zero_le _⟩, ?_⟩
      exact hQ A hT ho hq
    · exact absurd (nI_le (show 90 ≤ i by omega) (by omega)) h1
  | succ f ih =>
    intro i c A ρ l BB hi hic hc hT h7 hx1 hg hq hI hB h0 ho hQ
    obtain ⟨t0, tn, tq⟩ := id hT
    have hB1 : BB + 999 + 1000 * f < 1000000 := by rw [Nat.mul_succ] at hB; omega
    have hBB : BB < 1000000 := Nat.lt_of_le_of_lt (Nat.le_add_right _ _) hB
    have hB2 : BB + 999 < 1073741824 := Nat.lt_trans (Nat.lt_of_le_of_lt (Nat.le_add_right _ _) hB1) (by decide)
    refine EE.runN (stop := atPc [78]) 100 _ ?_
    refine ⟨fun h1 => ?_, fun h1 => ?_⟩
    · exact absurd h1 (nI_ge (b := 90) (show i < 90 by omega) (by omega))
    · refine ⟨by simp only [wI_M, wI_1, wI_w, b1, r10, r11, r12, r13, r14, b18, r182, k0, k1, k4, q0, q1, kt, kst, k120] <;> first | rfl | decide, ?_⟩
      refine ⟨⟨Nat.le_of_ble_eq_true rfl, Nat.le_of_ble_eq_true rfl, Nat.le_of_ble_eq_true rfl⟩, by simp only [wI_M, wI_1, wI_w, b1, r10, r11, r12, r13, r14, b18, r182, k0, k1, k4, q0, q1, kt, kst, k120] <;> first | rfl | decide, _, by simp only [r10]; exact T_isAtEnd hSt hT (by omega) h7, ?_⟩
      rintro _ _ ⟨rfl, rfl⟩
      refine ⟨Or.inl rfl, ?_⟩
      refine ⟨fun h2 => ?_, fun h2 => ?_⟩
      · have g := h2
        simp only [bI_e0, Classical.not_not] at g
        have e : mLd n τ sl (f + 1) (true, c) ρ l = (ρ, l) := mLd_out (by dsimp only; omega) _
        refine ⟨⟨Nat.zero_le _, Nat.zero_le _⟩, ?_⟩
        have h_ := hQ A hT ho
        rw [e] at h_
        exact h_ hq
      · have g2 := h2
        simp only [bI_e0] at g2
        have et : mText n τ sl (f + 1) (true, c) = mText n τ sl f (mCmd n τ sl (true, c)).1 := by rw [mText, if_pos ⟨rfl, by dsimp only; omega⟩]
        have hg1 : (mCmd n τ sl (true, c)).1.1 = true := by
          cases h_ : (mCmd n τ sl (true, c)).1.1 with
          | true => rfl
          | false => rw [et, mText_out (fun hh => by rw [h_] at hh; exact Bool.false_ne_true hh.1), h_] at hg; exact absurd hg Bool.false_ne_true
        have e1 : (mCmd n τ sl (true, c)).1 = (true, (mCmd n τ sl (true, c)).1.2) := Prod.ext hg1 rfl
        rw [et, e1] at hg
        have el : mLd n τ sl (f + 1) (true, c) ρ l = mLd n τ sl f (true, (mCmd n τ sl (true, c)).1.2) (mDo ρ (mCmd n τ sl (true, c)).2) (l + mNo ρ (mCmd n τ sl (true, c)).2) := by rw [mLd, if_pos (show (true, c).2 < n by dsimp only; omega), ← e1]
        have hcv := mCmd_v (n := n) (τ := τ) (sl := sl) (s := (true, c)) hs12
        refine ⟨by simp only [wI_M, wI_1, wI_w, b1, r10, r11, r12, r13, r14, b18, r182, k0, k1, k4, q0, q1, kt, kst, k120] <;> first | rfl | decide, ?_⟩
        refine ⟨⟨Nat.le_of_ble_eq_true rfl, Nat.le_of_ble_eq_true rfl, Nat.le_of_ble_eq_true rfl⟩, by simp only [wI_M, wI_1, wI_w, b1, r10, r11, r12, r13, r14, b18, r182, k0, k1, k4, q0, q1, kt, kst, k120] <;> first | rfl | decide, _, by simp only [r10]; exact T_readCommand hSt hT (by omega) h7 hx1 hs1 hs12, ?_⟩
        rintro _ w1 ⟨rfl, A1, hw, tA1, oA1, cA1, sA1, fA1⟩
        subst hw
        obtain ⟨fl, ff, fs⟩ := fA1 hg1
        have hv1 : vO A1 4 = vO A 4 := vO_cg (fun o h1_ h2_ => oA1 o (by omega))
        obtain ⟨Po, hPo, hQo⟩ := V_obeyC (d := d + 2) (S := S) (M := A1) (J := J) hO (by rw [hv1]; exact hq) hI hBB hcv h0 hs1 hs12
        refine ⟨Or.inl rfl, ?_⟩
        refine ⟨fun h3 => ?_, fun h3 => ?_⟩
        · (have h_ := h3; rw [bI_e0] at h_; exact absurd hg1 h_)
        · refine ⟨by simp only [wI_M, wI_1, wI_w, b1, r10, r11, r12, r13, r14, b18, r182, k0, k1, k4, q0, q1, kt, kst, k120] <;> first | rfl | decide, ?_⟩
          refine ⟨by simp only [wI_M, wI_1, wI_w, b1, r10, r11, r12, r13, r14, b18, r182, k0, k1, k4, q0, q1, kt, kst, k120] <;> first | rfl | decide, ?_⟩
          refine ⟨by simp only [wI_M, wI_1, wI_w, b1, r10, r11, r12, r13, r14, b18, r182, k0, k1, k4, q0, q1, kt, kst, k120] <;> first | rfl | decide, ?_⟩
          refine ⟨by simp only [wI_M, wI_1, wI_w, b1, r10, r11, r12, r13, r14, b18, r182, k0, k1, k4, q0, q1, kt, kst, k120] <;> first | rfl | decide, ?_⟩
          refine ⟨by simp only [wI_M, wI_1, wI_w, b1, r10, r11, r12, r13, r14, b18, r182, k0, k1, k4, q0, q1, kt, kst, k120] <;> first | rfl | decide, ?_⟩
          refine ⟨by simp only [wI_M, wI_1, wI_w, b1, r10, r11, r12, r13, r14, b18, r182, k0, k1, k4, q0, q1, kt, kst, k120] <;> first | rfl | decide, ?_⟩
          refine ⟨by simp only [wI_M, wI_1, wI_w, b1, r10, r11, r12, r13, r14, b18, r182, k0, k1, k4, q0, q1, kt, kst, k120] <;> first | rfl | decide, ?_⟩
          refine ⟨⟨Nat.le_of_ble_eq_true rfl, Nat.le_of_ble_eq_true rfl, Nat.le_of_ble_eq_true rfl⟩, by simp only [wI_M, wI_1, wI_w, b1, r10, r11, r12, r13, r14, b18, r182, k0, k1, k4, q0, q1, kt, kst, k120] <;> first | rfl | decide, _, by simp only [r10, r11, fl, ff, fs]; exact hPo, ?_⟩
          rintro rs_ w1 hp_
          obtain ⟨y, row, rfl, hw, hy_, hrow⟩ := hQo _ _ hp_
          subst hw
          refine ⟨Or.inl rfl, ?_⟩
          refine ⟨fun h4 => ?_, fun h4 => ?_⟩
          · have em : mNo ρ (mCmd n τ sl (true, c)).2 = 0 := hy_.elim (fun h_ => absurd h_.1 h4) (fun h_ => h_.2)
            have pg := mCmd_go (n := n) (τ := τ) (sl := sl) (s := (true, c)) rfl hg1
            dsimp only at pg
            have lc := mCmd_le (n := n) (τ := τ) (sl := sl) (s := (true, c))
            dsimp only at lc
            have o2 : ∀ o, (o < 4 ∨ 11 ≤ o) → sO A1 4 row o = A1 o := fun o h_ => sO_ot _ _ _ (by omega)
            have tA2 : TxC (sO A1 4 row) n τ := ⟨by rw [o2 2 (by omega)]; exact tA1.1, tA1.2.1, fun q hq_ => by rw [o2 3 (by omega)]; exact tA1.2.2 q hq_⟩
            refine ee_at (nt := nzT 66) [(0, .ref 1), (1, .int (l + mNo ρ (mCmd n τ sl (true, c)).2)), (2, .int (nI (i + 1)))] (S, sO A1 4 row, J) rfl (by rw [em, ← nI_1 i]; simp only [Int32.add_zero]; rfl) rfl ?_
            refine ih (i + 1) _ (sO A1 4 row) (mDo ρ (mCmd n τ sl (true, c)).2) _ (BB + 999) (by omega) (by omega) (by omega) tA2 (by rw [o2 2 (by omega)]; exact cA1) (by rw [o2 2 (by omega)]; exact sA1.trans hx1) hg (Rp.tr (Rp.of fun q h1_ _ => vO_sO A1 4 row h1_) hrow) (mDo_I2 (B := BB) (sl := sl) hI hcv hB2) hB1 ((mDo_0 (sl := sl) hI hcv).trans h0) (fun o h1_ h2_ => (o2 o h2_).trans ((oA1 o h1_).trans (ho o h1_ h2_))) (fun A' a1 a2 a3 => ?_)
            have h_ := hQ A' a1 a2
            rw [el] at h_
            exact h_ a3
          · have em : mNo ρ (mCmd n τ sl (true, c)).2 = 1 := hy_.elim (fun h_ => h_.2) (fun h_ => absurd (h_.1.symm.trans h4) (by decide))
            have pg := mCmd_go (n := n) (τ := τ) (sl := sl) (s := (true, c)) rfl hg1
            dsimp only at pg
            have lc := mCmd_le (n := n) (τ := τ) (sl := sl) (s := (true, c))
            dsimp only at lc
            have o2 : ∀ o, (o < 4 ∨ 11 ≤ o) → sO A1 4 row o = A1 o := fun o h_ => sO_ot _ _ _ (by omega)
            have tA2 : TxC (sO A1 4 row) n τ := ⟨by rw [o2 2 (by omega)]; exact tA1.1, tA1.2.1, fun q hq_ => by rw [o2 3 (by omega)]; exact tA1.2.2 q hq_⟩
            refine ee_at (nt := nzT 66) [(0, .ref 1), (1, .int (l + mNo ρ (mCmd n τ sl (true, c)).2)), (2, .int (nI (i + 1)))] (S, sO A1 4 row, J) rfl (by rw [em, ← nI_1 i]; rfl) rfl ?_
            refine ih (i + 1) _ (sO A1 4 row) (mDo ρ (mCmd n τ sl (true, c)).2) _ (BB + 999) (by omega) (by omega) (by omega) tA2 (by rw [o2 2 (by omega)]; exact cA1) (by rw [o2 2 (by omega)]; exact sA1.trans hx1) hg (Rp.tr (Rp.of fun q h1_ _ => vO_sO A1 4 row h1_) hrow) (mDo_I2 (B := BB) (sl := sl) hI hcv hB2) hB1 ((mDo_0 (sl := sl) hI hcv).trans h0) (fun o h1_ h2_ => (o2 o h2_).trans ((oA1 o h1_).trans (ho o h1_ h2_))) (fun A' a1 a2 a3 => ?_)
            have h_ := hQ A' a1 a2
            rw [el] at h_
            exact h_ a3
set_option maxHeartbeats 1000000 in
theorem C_load_bad {d : Nat} {S : Sc} {M : Nat → Nat → Int32} {J : Nat → Nat → Int64} {n : Nat} {τ : Nat → Nat} (hR : RgS S) (hT : TxC M n τ) (hb : (mEnd n τ).1 = false) : Wp (d + 9) 66 [.ref 1] (S, M, J) (fun rs w' => rs = .inr (excN 1) ∧ ∃ M', w' = (S, M', J) ∧ TxC M' n τ ∧ ∀ o, o ≠ 2 → M' o = M o) := by
  obtain ⟨hSt, hO, hOt, ⟨b1, r10, r11, r12, r13, r14⟩, ⟨b18, r182⟩, hH, hV⟩ := id hR
  have k0 : S.2.1 4 = 2 := hO.1.1
  have k1 : S.2.1 5 = 0 := hO.1.2.1
  have k4 : S.2.1 8 = 3 := hO.1.2.2.2.2.1
  have q0 : S.2.2.2 4 0 = 5 := hO.2.1.1
  have q1 : S.2.2.2 4 1 = 8 := hO.2.1.2.1
  have kt : S.2.1 11 = 2 := hOt.1.1
  have kst : S.2.1 2 = 5 := hSt.1
  have k120 : S.2.1 120 = 4 := hV.1
  have hle : (mEnd n τ).2 < 2147483648 := by have := mEnd_le (τ := τ) hT.2.1; have := hT.2.1; omega
  have hne : ¬ mTv (mEnd n τ) = -99999 := by unfold mTv; rw [if_neg (by rw [hb]; decide)]; exact nI_ne_none hle
  refine ⟨rfl, ?_⟩
  refine EE.runN (stop := noStop) 80 _ ?_
  refine ⟨by simp only [wI_M, wI_1, wI_w, b1, r10, r11, r12, r13, r14, b18, r182, k0, k1, k4, q0, q1, kt, kst, k120] <;> first | rfl | decide, ?_⟩
  refine ⟨⟨Nat.le_of_ble_eq_true rfl, Nat.le_of_ble_eq_true rfl, Nat.le_of_ble_eq_true rfl⟩, by simp only [wI_M, wI_1, wI_w, b1, r10, r11, r12, r13, r14, b18, r182, k0, k1, k4, q0, q1, kt, kst, k120] <;> first | rfl | decide, _, by simp only [r10]; exact T_errorAt hSt hT, ?_⟩
  rintro _ w1 ⟨rfl, A, hw, tA, oA⟩
  subst hw
  refine ⟨Or.inl rfl, ?_⟩
  refine ⟨fun h1 => ?_, fun h1 => ?_⟩
  · refine ⟨Nat.le_of_ble_eq_true rfl, ⟨by omega, Nat.le_of_ble_eq_true rfl, Nat.le_of_ble_eq_true rfl, rfl⟩, rfl, A, rfl, tA, oA⟩
  · exact absurd h1 hne
set_option maxHeartbeats 2000000 in
theorem C_load_good {d : Nat} {S : Sc} {M : Nat → Nat → Int32} {J : Nat → Nat → Int64} {n : Nat} {τ : Nat → Nat} (hR : RgS S) (hT : TxC M n τ) (hg : (mEnd n τ).1 = true) (ρ0 : Rw) : Wp (d + 9) 66 [.ref 1] (S, M, J) (fun rs w' => rs = .inl (some (.int (mLd n τ (mHS n τ) 90 (mHd4 n τ).1 (rClean ρ0 (nI (mHS n τ)) (nI (mHd3 n τ).2) (nI (mHd4 n τ).2)) 0).2)) ∧ ∃ M', w' = (S, M', J) ∧ TxC M' n τ ∧ Rq (vO M' 4) (mLd n τ (mHS n τ) 90 (mHd4 n τ).1 (rClean ρ0 (nI (mHS n τ)) (nI (mHd3 n τ).2) (nI (mHd4 n τ).2)) 0).1 ∧ M' 18 0 = 0 ∧ M' 18 1 = M 18 1 ∧ (∀ k, k < 2 → M' 122 k = 0) ∧ ∀ o, o ≠ 2 → (o < 4 ∨ 11 ≤ o) → o ≠ 18 → o ≠ 122 → M' o = M o) := by
  obtain ⟨hSt, hO, hOt, ⟨b1, r10, r11, r12, r13, r14⟩, ⟨b18, r182⟩, hH, hV⟩ := id hR
  have k0 : S.2.1 4 = 2 := hO.1.1
  have k1 : S.2.1 5 = 0 := hO.1.2.1
  have k4 : S.2.1 8 = 3 := hO.1.2.2.2.2.1
  have q0 : S.2.2.2 4 0 = 5 := hO.2.1.1
  have q1 : S.2.2.2 4 1 = 8 := hO.2.1.2.1
  have kt : S.2.1 11 = 2 := hOt.1.1
  have kst : S.2.1 2 = 5 := hSt.1
  have k120 : S.2.1 120 = 4 := hV.1
  have hne : mTv (mEnd n τ) = -99999 := by unfold mTv; rw [if_pos hg]
  have v := mHS_v n τ
  have v3_ := mTwo_v (n := n) (τ := τ) (lo := 1) (hi := 99) (s := (mHd2 n τ).1) (by omega) (by omega)
  have v4_ := mThree_v (n := n) (τ := τ) (lo := 10) (s := (mHd3 n τ).1) (by omega)
  have h4 : (mHd4 n τ).1.1 = true := by
    cases h_ : (mHd4 n τ).1.1 with
    | true => rfl
    | false => unfold mEnd at hg; rw [mText_out (fun hh => by rw [h_] at hh; exact absurd hh.1 (by decide)), h_] at hg; exact absurd hg (by decide)
  have e4 : (mHd4 n τ).1 = (true, (mHd4 n τ).1.2) := Prod.ext h4 rfl
  have le4 := (mHd_le n τ).2.2.2
  have hI0 : I2 0 (rClean ρ0 (nI (mHS n τ)) (nI (mHd3 n τ).2) (nI (mHd4 n τ).2)) := rClean_I2 v.1 v.2 v3_.1 v3_.2 v4_.2
  refine ⟨rfl, ?_⟩
  refine EE.runN (stop := atPc [78]) 120 _ ?_
  refine ⟨by simp only [wI_M, wI_1, wI_w, b1, r10, r11, r12, r13, r14, b18, r182, k0, k1, k4, q0, q1, kt, kst, k120] <;> first | rfl | decide, ?_⟩
  refine ⟨⟨Nat.le_of_ble_eq_true rfl, Nat.le_of_ble_eq_true rfl, Nat.le_of_ble_eq_true rfl⟩, by simp only [wI_M, wI_1, wI_w, b1, r10, r11, r12, r13, r14, b18, r182, k0, k1, k4, q0, q1, kt, kst, k120] <;> first | rfl | decide, _, by simp only [r10]; exact T_errorAt hSt hT, ?_⟩
  rintro _ w1 ⟨rfl, A, hw, tA, oA⟩
  subst hw
  refine ⟨Or.inl rfl, ?_⟩
  refine ⟨fun h1 => ?_, fun h1 => ?_⟩
  · exact absurd hne h1
  · refine ⟨by simp only [wI_M, wI_1, wI_w, b1, r10, r11, r12, r13, r14, b18, r182, k0, k1, k4, q0, q1, kt, kst, k120] <;> first | rfl | decide, ?_⟩
    refine ⟨⟨Nat.le_of_ble_eq_true rfl, Nat.le_of_ble_eq_true rfl, Nat.le_of_ble_eq_true rfl⟩, by simp only [wI_M, wI_1, wI_w, b1, r10, r11, r12, r13, r14, b18, r182, k0, k1, k4, q0, q1, kt, kst, k120] <;> first | rfl | decide, _, by simp only [r10]; exact T_readHead hSt tA, ?_⟩
    rintro _ w1 ⟨rfl, A0, hw, tA0, oA0, cA0, fA0⟩
    subst hw
    obtain ⟨f1, f2, f3⟩ := fA0 h4
    obtain ⟨A3, hA3⟩ : ∃ A3, A3 = (upA (upA (sO A0 4 (cNew (vO A0 4) (nI (mHS n τ)) (nI (mHd3 n τ).2) (nI (mHd4 n τ).2))) 18 (upd ((sO A0 4 (cNew (vO A0 4) (nI (mHS n τ)) (nI (mHd3 n τ).2) (nI (mHd4 n τ).2))) 18) 0 0)) (120 + 2) (rClear ((upA (sO A0 4 (cNew (vO A0 4) (nI (mHS n τ)) (nI (mHd3 n τ).2) (nI (mHd4 n τ).2))) 18 (upd ((sO A0 4 (cNew (vO A0 4) (nI (mHS n τ)) (nI (mHd3 n τ).2) (nI (mHd4 n τ).2))) 18) 0 0)) (120 + 2)) 2)) := ⟨_, rfl⟩
    have o3 : ∀ o, o < 4 → A3 o = A0 o := fun o h_ => by rw [hA3, upA_n _ _ (by omega), upA_n _ _ (by omega), sO_ot _ _ _ (by omega)]
    have tA3 : TxC A3 n τ := ⟨by rw [o3 2 (by omega)]; exact tA0.1, tA0.2.1, fun q hq_ => by rw [o3 3 (by omega)]; exact tA0.2.2 q hq_⟩
    have cA3 : A3 2 7 = nI (mHd4 n τ).1.2 := by rw [o3 2 (by omega)]; exact cA0
    have s3 : A3 2 1 = nI (mHS n τ) := by rw [o3 2 (by omega)]; exact f1
    have v3 : vO A3 4 = vO (sO A0 4 (cNew (vO A0 4) (nI (mHS n τ)) (nI (mHd3 n τ).2) (nI (mHd4 n τ).2))) 4 := vO_cg (fun o h1_ h2_ => by rw [hA3, upA_n _ _ (by omega), upA_n _ _ (by omega)])
    have q3 : Rq (vO A3 4) (rClean ρ0 (nI (mHS n τ)) (nI (mHd3 n τ).2) (nI (mHd4 n τ).2)) := by rw [v3]; exact Rp.tr (Rp.of fun q h1_ _ => vO_sO A0 4 _ h1_) (cNew_rq (by omega))
    refine ⟨Or.inl rfl, ?_⟩
    refine ⟨fun h2 => ?_, fun h2 => ?_⟩
    · refine ⟨by simp only [wI_M, wI_1, wI_w, b1, r10, r11, r12, r13, r14, b18, r182, k0, k1, k4, q0, q1, kt, kst, k120] <;> first | rfl | decide, ?_⟩
      refine ⟨by simp only [wI_M, wI_1, wI_w, b1, r10, r11, r12, r13, r14, b18, r182, k0, k1, k4, q0, q1, kt, kst, k120] <;> first | rfl | decide, ?_⟩
      refine ⟨by simp only [wI_M, wI_1, wI_w, b1, r10, r11, r12, r13, r14, b18, r182, k0, k1, k4, q0, q1, kt, kst, k120] <;> first | rfl | decide, ?_⟩
      refine ⟨by simp only [wI_M, wI_1, wI_w, b1, r10, r11, r12, r13, r14, b18, r182, k0, k1, k4, q0, q1, kt, kst, k120] <;> first | rfl | decide, ?_⟩
      refine ⟨by simp only [wI_M, wI_1, wI_w, b1, r10, r11, r12, r13, r14, b18, r182, k0, k1, k4, q0, q1, kt, kst, k120] <;> first | rfl | decide, ?_⟩
      refine ⟨by simp only [wI_M, wI_1, wI_w, b1, r10, r11, r12, r13, r14, b18, r182, k0, k1, k4, q0, q1, kt, kst, k120] <;> first | rfl | decide, ?_⟩
      refine ⟨by simp only [wI_M, wI_1, wI_w, b1, r10, r11, r12, r13, r14, b18, r182, k0, k1, k4, q0, q1, kt, kst, k120] <;> first | rfl | decide, ?_⟩
      refine ⟨⟨Nat.le_of_ble_eq_true rfl, Nat.le_of_ble_eq_true rfl, Nat.le_of_ble_eq_true rfl⟩, by simp only [wI_M, wI_1, wI_w, b1, r10, r11, r12, r13, r14, b18, r182, k0, k1, k4, q0, q1, kt, kst, k120] <;> first | rfl | decide, _, by simp only [r10, r11, f1, f2, f3]; exact V_cNew (b := 4) hO, ?_⟩
      rintro _ w1 ⟨rfl, rfl⟩
      refine ⟨Or.inl rfl, ?_⟩
      refine ⟨by simp only [wI_M, wI_1, wI_w, b1, r10, r11, r12, r13, r14, b18, r182, k0, k1, k4, q0, q1, kt, kst, k120] <;> first | rfl | decide, ?_⟩
      refine ⟨⟨Nat.le_of_ble_eq_true rfl, Nat.le_of_ble_eq_true rfl, Nat.le_of_ble_eq_true rfl⟩, by simp only [wI_M, wI_1, wI_w, b1, r10, r11, r12, r13, r14, b18, r182, k0, k1, k4, q0, q1, kt, kst, k120] <;> first | rfl | decide, _, by simp only [r13]; exact T_forgetAll hR, ?_⟩
      rintro _ _ ⟨rfl, rfl⟩
      refine ⟨Or.inl rfl, ?_⟩
      refine ⟨by simp only [wI_M, wI_1, wI_w, b1, r10, r11, r12, r13, r14, b18, r182, k0, k1, k4, q0, q1, kt, kst, k120] <;> first | rfl | decide, ?_⟩
      refine ⟨⟨Nat.le_of_ble_eq_true rfl, Nat.le_of_ble_eq_true rfl, Nat.le_of_ble_eq_true rfl⟩, by simp only [wI_M, wI_1, wI_w, b1, r10, r11, r12, r13, r14, b18, r182, k0, k1, k4, q0, q1, kt, kst, k120] <;> first | rfl | decide, _, by simp only [r14]; exact T_emptyAll (b := 120) hV (by omega), ?_⟩
      rintro _ w1 ⟨rfl, hw⟩
      have hw : w1 = (S, A3, J) := by rw [hA3]; exact hw
      subst hw
      refine ⟨Or.inl rfl, ?_⟩
      refine ee_at (nt := nzT 66) [(0, .ref 1), (1, .int 0), (2, .int (nI 0))] (S, A3, J) rfl rfl rfl ?_
      refine L_cld (M := A3) hR (by omega) (by omega) 90 0 (mHd4 n τ).1.2 A3 (rClean ρ0 (nI (mHS n τ)) (nI (mHd3 n τ).2) (nI (mHd4 n τ).2)) 0 0 (by omega) (by omega) (by omega) tA3 cA3 s3 (by rw [← e4]; exact hg) q3 hI0 (by omega) rfl (fun _ _ _ => rfl) (fun A' a1 a2 a3 => ?_)
      rw [← e4] at a3 ⊢
      refine ⟨rfl, A', rfl, a1, a3, ?_, ?_, fun k hk => ?_, fun o h1_ h2_ h3_ h4_ => ?_⟩
      · rw [a2 18 (by omega) (by omega), hA3, upA_n _ _ (by omega), upA_s, pk_us]
      · rw [a2 18 (by omega) (by omega), hA3, upA_n _ _ (by omega), upA_s, pk_un (by omega), sO_ot _ _ _ (by omega), oA0 18 (by omega), oA 18 (by omega)]
      · rw [a2 122 (by omega) (by omega), hA3, upA_s]; exact if_pos hk
      · rw [a2 o h1_ (by omega), hA3, upA_n _ _ (by omega), upA_n _ _ h3_, sO_ot _ _ _ (by omega), oA0 o h1_, oA o h1_]
    · (have h_ := h2; rw [bI_e0] at h_; exact absurd h4 h_)
