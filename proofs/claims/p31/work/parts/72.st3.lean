/-! THE CLASS: error position of its text: written by wip/whole/pure3.py -/
set_option maxHeartbeats 2000000 in
theorem L_err {d : Nat} {Q : Res → Wd → Prop} {S : Sc} {M : Nat → Nat → Int32} {J : Nat → Nat → Int64} {n : Nat} {τ : Nat → Nat} (hS : StS S) {sl : Nat} (hs1 : 1 ≤ sl) (hs12 : sl ≤ 12) : ∀ (f i c : Nat) (A : Nat → Nat → Int32), i + f = 90 → i ≤ c → c < 300 → TxC A n τ → A 2 7 = nI c → A 2 1 = nI sl → (∀ o, o ≠ 2 → A o = M o) → (∀ A', TxC A' n τ → (∀ o, o ≠ 2 → A' o = M o) → Q (.inl (some (.int (mTv (mText n τ sl f (true, c)))))) (S, A', J)) → EE (SJ (d + 4) 56 (Wp (d + 3)) Q) (14, [(0, .ref 2), (1, .int (nI i))], [], (S, A, J), 0, 0) := by
  obtain ⟨b2, b3, n3, p8⟩ := id hS
  intro f
  induction f with
  | zero =>
    intro i c A hi hic hc hT h7 hx1 ho hQ
    refine EE.runN (stop := noStop) 60 _ ?_
    refine ⟨fun h1 => ?_, fun h1 => ?_⟩
    · refine ⟨⟨Nat.zero_le _, Nat.zero_le _⟩, ?_⟩
      exact hQ A hT ho
    · exact absurd (nI_le (show 90 ≤ i by omega) (by omega)) h1
  | succ f ih =>
    intro i c A hi hic hc hT h7 hx1 ho hQ
    obtain ⟨t0, tn, tq⟩ := id hT
    refine EE.runN (stop := atPc [14]) 60 _ ?_
    refine ⟨fun h1 => ?_, fun h1 => ?_⟩
    · exact absurd h1 (nI_ge (b := 90) (show i < 90 by omega) (by omega))
    · refine ⟨⟨Nat.le_of_ble_eq_true rfl, Nat.le_of_ble_eq_true rfl, Nat.le_of_ble_eq_true rfl⟩, by simp only [wI_1, wI_w, b2, b3, n3, p8] <;> first | rfl | decide, _, T_isAtEnd hS hT (by omega) h7, ?_⟩
      rintro _ _ ⟨rfl, rfl⟩
      refine ⟨Or.inl rfl, ?_⟩
      refine ⟨fun h2 => ?_, fun h2 => ?_⟩
      · have g := h2
        simp only [bI_e0, Classical.not_not] at g
        have e : mText n τ sl (f + 1) (true, c) = (true, c) := mText_out (fun h_ => by have := h_.2; dsimp only at this; omega) _
        refine ⟨⟨Nat.zero_le _, Nat.zero_le _⟩, ?_⟩
        have h_ := hQ A hT ho
        rw [e] at h_
        exact h_
      · refine ⟨⟨Nat.le_of_ble_eq_true rfl, Nat.le_of_ble_eq_true rfl, Nat.le_of_ble_eq_true rfl⟩, by simp only [wI_1, wI_w, b2, b3, n3, p8] <;> first | rfl | decide, _, T_readCommand hS hT (by have h_ := h2; simp only [bI_e0] at h_; omega) h7 hx1 hs1 hs12, ?_⟩
        rintro _ w1 ⟨rfl, A1, hw, tA1, oA1', cA1, sA1, -⟩
        subst hw
        have oA1 : ∀ o, o ≠ 2 → A1 o = M o := fun o h_ => (oA1' o h_).trans (ho o h_)
        refine ⟨Or.inl rfl, ?_⟩
        refine ⟨fun h3 => ?_, fun h3 => ?_⟩
        · have g := h3
          simp only [bI_e0, Classical.not_not] at g
          have g2 := h2
          simp only [bI_e0] at g2
          have e1 : (mCmd n τ sl (true, c)).1 = (true, (mCmd n τ sl (true, c)).1.2) := Prod.ext g rfl
          have e : mText n τ sl (f + 1) (true, c) = mText n τ sl f (true, (mCmd n τ sl (true, c)).1.2) := by rw [mText, if_pos ⟨rfl, by dsimp only; omega⟩, ← e1]
          have pg := mCmd_go (n := n) (τ := τ) (sl := sl) (s := (true, c)) rfl g
          dsimp only at pg
          have lc := mCmd_le (n := n) (τ := τ) (sl := sl) (s := (true, c))
          dsimp only at lc
          refine ee_at (nt := nzT 56) [(0, .ref 2), (1, .int (nI (i + 1)))] (S, A1, J) rfl (by rw [← nI_1 i]; rfl) rfl ?_
          refine ih (i + 1) _ A1 (by omega) (by omega) (by omega) tA1 cA1 (sA1.trans hx1) oA1 (fun A' h1_ h2_ => ?_)
          have h_ := hQ A' h1_ h2_
          rw [e] at h_
          exact h_
        · refine ⟨by simp only [wI_1, wI_w, b2, b3, n3, p8] <;> first | rfl | decide, ?_⟩
          have g := h3
          simp only [bI_e0] at g
          have g2 := h2
          simp only [bI_e0] at g2
          have hf : (mCmd n τ sl (true, c)).1.1 = false := by cases h_ : (mCmd n τ sl (true, c)).1.1 with | false => rfl | true => exact absurd h_ g
          have e : mText n τ sl (f + 1) (true, c) = (mCmd n τ sl (true, c)).1 := by rw [mText, if_pos ⟨rfl, by dsimp only; omega⟩]; exact mText_out (fun h_ => by rw [hf] at h_; exact Bool.false_ne_true h_.1) _
          have h_ := hQ A1 tA1 oA1
          rw [e] at h_
          unfold mTv at h_
          rw [hf, if_neg Bool.false_ne_true, ← cA1] at h_
          refine ⟨⟨Nat.zero_le _, Nat.zero_le _⟩, ?_⟩
          exact h_
set_option maxHeartbeats 1000000 in
theorem T_errorAt {d : Nat} {S : Sc} {M : Nat → Nat → Int32} {J : Nat → Nat → Int64} {n : Nat} {τ : Nat → Nat} (hS : StS S) (hT : TxC M n τ) : Wp (d + 4) 56 [.ref 2] (S, M, J) (fun rs w' => rs = .inl (some (.int (mTv (mEnd n τ)))) ∧ ∃ M', w' = (S, M', J) ∧ TxC M' n τ ∧ ∀ o, o ≠ 2 → M' o = M o) := by
  obtain ⟨b2, b3, n3, p8⟩ := id hS
  refine ⟨rfl, ?_⟩
  refine EE.runN (stop := atPc [14]) 80 _ ?_
  refine ⟨⟨Nat.le_of_ble_eq_true rfl, Nat.le_of_ble_eq_true rfl, Nat.le_of_ble_eq_true rfl⟩, by simp only [wI_1, wI_w, b2, b3, n3, p8] <;> first | rfl | decide, _, T_readHead hS hT, ?_⟩
  rintro _ w1 ⟨rfl, A0, hw, tA0, oA0, cA0, fA0⟩
  subst hw
  refine ⟨Or.inl rfl, ?_⟩
  refine ⟨fun h1 => ?_, fun h1 => ?_⟩
  · have g := h1
    simp only [bI_e0, Classical.not_not] at g
    have e1 : (mHd4 n τ).1 = (true, (mHd4 n τ).1.2) := Prod.ext g rfl
    have v := mHS_v n τ
    have le := (mHd_le n τ).2.2.2
    refine ee_at (nt := nzT 56) [(0, .ref 2), (1, .int (nI 0))] (S, A0, J) rfl rfl rfl ?_
    refine L_err (M := M) hS (show 1 ≤ mHS n τ by omega) (by omega) 90 0 _ A0 (by omega) (by omega) (by omega) tA0 cA0 (fA0 g).1 oA0 (fun A' h1_ h2_ => ⟨?_, A', rfl, h1_, h2_⟩)
    rw [← e1]
    rfl
  · refine ⟨by simp only [wI_1, wI_w, b2, b3, n3, p8] <;> first | rfl | decide, ?_⟩
    have g := h1
    simp only [bI_e0] at g
    have hf : (mHd4 n τ).1.1 = false := by cases h_ : (mHd4 n τ).1.1 with | false => rfl | true => exact absurd h_ g
    have e : mEnd n τ = (mHd4 n τ).1 := mText_out (fun h_ => by rw [hf] at h_; exact Bool.false_ne_true h_.1) _
    refine ⟨⟨Nat.zero_le _, Nat.zero_le _⟩, ?_, A0, rfl, tA0, oA0⟩
    refine congrArg (fun v => Sum.inl (some (Value.int v))) ?_
    unfold mTv
    rw [e, hf, if_neg Bool.false_ne_true]
    exact cA0
