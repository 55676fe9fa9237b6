/-! THE REFERENCE: load, append, clearText, errorPosition: written by wip/whole/pure3.py -/
/-- the entries that the law's state speaks of -/
def Imp (c k : Nat) : Prop := c ≠ 140 ∧ (c < 11 ∨ 18 ≤ c) ∧ (c = 137 → k = 2 ∨ 8 ≤ k) ∧ (c = 2 → k = 0)
def Jk (M M' : Nat → Nat → Int32) : Prop := ∀ c k, Imp c k → M' c k = M c k
theorem Jk.rf (M : Nat → Nat → Int32) : Jk M M := fun _ _ _ => rfl
theorem Jk.tr {M M1 M2 : Nat → Nat → Int32} (h : Jk M M1) (h2 : Jk M1 M2) : Jk M M2 := fun c k hi => (h2 c k hi).trans (h c k hi)
theorem Jk_Q (M : Nat → Nat → Int32) {k : Nat} {v : Int32} (h : k ≠ 2 ∧ k < 8) : Jk M (setQ M k v) := by
  intro c q hi
  by_cases e : c = 137
  · subst e
    have := hi.2.2.1 rfl
    exact setQ_k (by omega)
  · rw [setQ_o e]
theorem Jk_P (M : Nat → Nat → Int32) (s : PS) : Jk M (setP M s) := by
  intro c q hi
  by_cases e : c = 137
  · subst e
    have := hi.2.2.1 rfl
    exact setP_k M s (by omega) (by omega)
  · rw [setP_o M s e]
theorem Jk_H (M : Nat → Nat → Int32) (n : Nat) (τ : Nat → Nat) : Jk M (mHdM M n τ) := ((Jk_Q M (by omega)).tr (Jk_Q _ (by omega))).tr (Jk_Q _ (by omega))
theorem Jk_140 (M : Nat → Nat → Int32) (g : Nat → Int32) : Jk M (upA M 140 g) := fun c k hi => by rw [upA_n _ _ hi.1]
theorem Jk_sO (M : Nat → Nat → Int32) (σ : Rw) : Jk M (sO M 11 σ) := fun c k hi => by rw [sO_ot M 11 σ (by have := hi.2.1; omega)]
theorem Jk_2 (M : Nat → Nat → Int32) {k : Nat} {v : Int32} (h : k ≠ 0) : Jk M (upA M 2 (upd (M 2) k v)) := by
  intro c q hi
  by_cases e : c = 2
  · subst e
    have := hi.2.2.2 rfl
    rw [upA_s, pk_un (by omega)]
  · rw [upA_n _ _ e]
def mLd (n : Nat) (τ : Nat → Nat) (sl : Nat) : Nat → PS → Rw → Int32 → Rw × Int32
  | 0, _, ρ, l => (ρ, l)
  | f + 1, s, ρ, l => if s.2 < n then mLd n τ sl f (mCmd n τ sl s).1 (mDo ρ (mCmd n τ sl s).2) (l + mNo ρ (mCmd n τ sl s).2) else (ρ, l)
theorem mLd_out {n : Nat} {τ : Nat → Nat} {sl : Nat} {s : PS} {ρ : Rw} {l : Int32} (h : ¬ s.2 < n) : ∀ f, mLd n τ sl f s ρ l = (ρ, l)
  | 0 => rfl
  | f + 1 => by rw [mLd, if_neg h]
set_option maxRecDepth 20000 in
theorem mLd_I2 {n : Nat} {τ : Nat → Nat} {sl : Nat} (hs : sl ≤ 12) : ∀ (f : Nat) {B : Nat} {s : PS} {ρ : Rw} {l : Int32}, I2 B ρ → B + 999 * f < 1073741824 → I2 (B + 999 * f) (mLd n τ sl f s ρ l).1
  | 0, _, _, _, _, h, _ => h
  | f + 1, B, s, ρ, l, h, hB => by
    rw [mLd]
    split
    · rw [Nat.mul_succ] at hB ⊢
      have hB2 : B + 999 < 1073741824 := by omega
      have hB3 : B + 999 + 999 * f < 1073741824 := by omega
      have := mLd_I2 (n := n) (τ := τ) (sl := sl) hs f (s := (mCmd n τ sl s).1) (l := l + mNo ρ (mCmd n τ sl s).2) (mDo_I2 (B := B) (sl := sl) (c := (mCmd n τ sl s).2) h (mCmd_v (n := n) (τ := τ) (s := s) hs) hB2) hB3
      rw [show B + (999 * f + 999) = B + 999 + 999 * f by omega]
      exact this
    · exact h.mono (by omega)
theorem mNo_01 (ρ : Rw) (c : Nat × Nat × Nat) : mNo ρ c = 0 ∨ mNo ρ c = 1 := by
  unfold mNo
  split <;> exact bI_01 _
theorem setP_A {M : Nat → Nat → Int32} {ρ ρ' : Rw} {s : PS} : upA (setP (upA M 139 ρ) s) 139 ρ' = setP (upA M 139 ρ') s := by
  unfold setP
  funext c
  by_cases e : c = 139
  · subst e
    rw [upA_s, upA_n _ _ (by omega), upA_s]
  · rw [upA_n _ _ e]
    by_cases e2 : c = 137
    · subst e2
      rw [upA_s, upA_s, upA_n _ _ e, upA_n _ _ e]
    · rw [upA_n _ _ e2, upA_n _ _ e2, upA_n _ _ e, upA_n _ _ e]
theorem setP_A' {M : Nat → Nat → Int32} {ρ' : Rw} {s : PS} : upA (setP M s) 139 ρ' = setP (upA M 139 ρ') s := by
  have := setP_A (M := M) (ρ := M 139) (ρ' := ρ') (s := s)
  rw [upA_id] at this
  exact this
theorem TxM.o {M : Nat → Nat → Int32} {n : Nat} {τ : Nat → Nat} (h : TxM M n τ) {c : Nat} {g : Nat → Int32} (h1 : c ≠ 137) (h2 : c ≠ 138) : TxM (upA M c g) n τ := by
  refine ⟨?_, h.2.1, fun q hq => ?_⟩
  · rw [upA_n _ _ (fun e => h1 e.symm)]
    exact h.1
  · rw [upA_n _ _ (fun e => h2 e.symm)]
    exact h.2.2 q hq
theorem X_cmd1 {d : Nat} {S : Sc} {M : Nat → Nat → Int32} {J : Nat → Nat → Int64} {n : Nat} {τ : Nat → Nat} {s : PS} {sl B : Nat} {ρ : Rw} (hM : MoS S) (hT : TxM M n τ) (hs : s.2 < 900) (h5 : M 137 5 = nI sl) (hs1 : 1 ≤ sl) (hs12 : sl ≤ 12) (hI : I2 B ρ) : Wp (d + 7) 129 [.ref 137, .int 1] (S, setP (upA M 139 ρ) s, J) (fun rs w' => rs = .inl (some (.int (mNo ρ (mCmd n τ sl s).2))) ∧ w' = (S, setP (upA M 139 (mDo ρ (mCmd n τ sl s).2)) (mCmd n τ sl s).1, J)) := by
  have := T_cmd1 (d := d) (M := upA M 139 ρ) (J := J) hM (hT.o (c := 139) (g := ρ) (by omega) (by omega)) hs (by rw [upA_n _ _ (by omega)]; exact h5) hs1 hs12 (by rw [upA_s]; exact hI.1.1) (by rw [upA_s]; exact hI.cnt)
  rw [upA_s, setP_A] at this
  exact this
set_option maxRecDepth 20000 in
set_option maxHeartbeats 1000000 in
theorem L_ld {d : Nat} {Q : Res → Wd → Prop} {S : Sc} {M : Nat → Nat → Int32} {J : Nat → Nat → Int64} {n : Nat} {τ : Nat → Nat} {sl : Nat} (hM : MoS S) (hT : TxM M n τ) (h5 : M 137 5 = nI sl) (hs1 : 1 ≤ sl) (hs12 : sl ≤ 12) : ∀ (f : Nat) (s : PS) (ρ : Rw) (l : Int32) (B : Nat), (mText n τ sl f s).1 = true → s.1 = true → n ≤ s.2 + f → s.2 < 200 → I2 B ρ → B + 999 * f < 1073741824 → (∀ s', EE (SJ (d + 8) 137 (Wp (d + 7)) Q) (78, [(0, .ref 137), (1, .int (mLd n τ sl f s ρ l).2)], [], (S, setP (upA M 139 (mLd n τ sl f s ρ l).1) s', J), 0, 0)) → EE (SJ (d + 8) 137 (Wp (d + 7)) Q) (48, [(0, .ref 137), (1, .int l)], [], (S, setP (upA M 139 ρ) s, J), 0, 0) := by
  obtain ⟨⟨b137, p1, p8, p9, p10, p12, p13⟩, ⟨b138, b139, b140, b141, b142, b143⟩, n138, n139, n140, n141, n142, n143⟩ := id hM
  have tn := hT.2.1
  intro f
  induction f using Nat.strongRecOn with
  | _ f ih =>
    intro s ρ l B hfin hg hf hs hI hB hE
    have e2 : setP (upA M 139 ρ) s 137 2 = nI n := (setP_k _ s (by omega) (by omega)).trans ((congrFun (upA_n _ _ (by omega)) 2).trans hT.1)
    refine EE.runN (stop := atPc [48, 78]) 40 _ ?_
    refine ⟨by simp only [wI_1, wI_w, p1, p8, p9, p10, p12, p13, b137, b138, b139, b140, b141, b142, b143] <;> first | rfl | decide, ?_⟩
    refine ⟨by simp only [wI_1, wI_w, p1, p8, p9, p10, p12, p13, b137, b138, b139, b140, b141, b142, b143] <;> first | rfl | decide, ?_⟩
    refine ⟨fun h1 => ?_, fun h1 => ?_⟩
    · simp only [wI_M, wI_1, wI_w, wI_1, wI_w, p1, p8, p9, p10, p12, p13, setP_3, setP_4] at h1
      rw [e2, nI_leI (by omega) (by omega)] at h1
      rw [mLd_out (by omega)] at hE
      exact hE s
    · refine ⟨⟨Nat.le_of_ble_eq_true rfl, Nat.le_of_ble_eq_true rfl, Nat.le_of_ble_eq_true rfl⟩, by simp only [wI_1, wI_w, p1, p8, p9, p10, p12, p13, b137, b138, b139, b140, b141, b142, b143] <;> first | rfl | decide, _, X_cmd1 hM hT (by omega) h5 hs1 hs12 hI, ?_⟩
      rintro _ _ ⟨rfl, rfl⟩
      refine ⟨Or.inl rfl, ?_⟩
      refine ⟨fun h2 => ?_, fun h2 => ?_⟩
      · simp only [wI_M, wI_1, wI_w, wI_1, wI_w, p1, p8, p9, p10, p12, p13, setP_3, setP_4] at h1
        rw [e2, nI_leI (by omega) (by omega)] at h1
        obtain ⟨g, rfl⟩ : ∃ g, f = g + 1 := ⟨f - 1, by omega⟩
        have hlt : s.2 < n := Nat.lt_of_not_le h1
        have et : mText n τ sl (g + 1) s = mText n τ sl g (mCmd n τ sl s).1 := by rw [mText, if_pos ⟨hg, hlt⟩]
        rw [et] at hfin
        have hg2 : (mCmd n τ sl s).1.1 = true := by
          cases h_ : (mCmd n τ sl s).1.1 with
          | true => rfl
          | false => rw [mText_out (fun hh => by rw [h_] at hh; exact absurd hh.1 (by decide)), h_] at hfin; exact absurd hfin (by decide)
        have e : mLd n τ sl (g + 1) s ρ l = mLd n τ sl g (mCmd n τ sl s).1 (mDo ρ (mCmd n τ sl s).2) (l + mNo ρ (mCmd n τ sl s).2) := by rw [mLd, if_pos hlt]
        rw [e] at hE
        have lc := mCmd_le (n := n) (τ := τ) (sl := sl) (s := s)
        have gc := mCmd_go (n := n) (τ := τ) (sl := sl) hg hg2
        have en : mNo ρ (mCmd n τ sl s).2 = 0 := h2
        refine ee_at (nt := nzT 137) [(0, .ref 137), (1, .int (l + mNo ρ (mCmd n τ sl s).2))] (S, setP (upA M 139 (mDo ρ (mCmd n τ sl s).2)) (mCmd n τ sl s).1, J) rfl (by rw [en]; rfl) rfl ?_
        rw [Nat.mul_succ] at hB
        have hB2 : B + 999 < 1073741824 := by omega
        have hB3 : B + 999 + 999 * g < 1073741824 := by omega
        exact ih g (by omega) _ _ _ _ hfin hg2 (by omega) (by omega) (mDo_I2 (B := B) (sl := sl) (c := (mCmd n τ sl s).2) hI (mCmd_v (n := n) (τ := τ) (s := s) hs12) hB2) hB3 hE
      · simp only [wI_M, wI_1, wI_w, wI_1, wI_w, p1, p8, p9, p10, p12, p13, setP_3, setP_4] at h1
        rw [e2, nI_leI (by omega) (by omega)] at h1
        obtain ⟨g, rfl⟩ : ∃ g, f = g + 1 := ⟨f - 1, by omega⟩
        have hlt : s.2 < n := Nat.lt_of_not_le h1
        have et : mText n τ sl (g + 1) s = mText n τ sl g (mCmd n τ sl s).1 := by rw [mText, if_pos ⟨hg, hlt⟩]
        rw [et] at hfin
        have hg2 : (mCmd n τ sl s).1.1 = true := by
          cases h_ : (mCmd n τ sl s).1.1 with
          | true => rfl
          | false => rw [mText_out (fun hh => by rw [h_] at hh; exact absurd hh.1 (by decide)), h_] at hfin; exact absurd hfin (by decide)
        have e : mLd n τ sl (g + 1) s ρ l = mLd n τ sl g (mCmd n τ sl s).1 (mDo ρ (mCmd n τ sl s).2) (l + mNo ρ (mCmd n τ sl s).2) := by rw [mLd, if_pos hlt]
        rw [e] at hE
        have lc := mCmd_le (n := n) (τ := τ) (sl := sl) (s := s)
        have gc := mCmd_go (n := n) (τ := τ) (sl := sl) hg hg2
        have en : mNo ρ (mCmd n τ sl s).2 = 1 := (mNo_01 _ _).resolve_left h2
        refine ee_at (nt := nzT 137) [(0, .ref 137), (1, .int (l + mNo ρ (mCmd n τ sl s).2))] (S, setP (upA M 139 (mDo ρ (mCmd n τ sl s).2)) (mCmd n τ sl s).1, J) rfl (by rw [en]; rfl) rfl ?_
        rw [Nat.mul_succ] at hB
        have hB2 : B + 999 < 1073741824 := by omega
        have hB3 : B + 999 + 999 * g < 1073741824 := by omega
        exact ih g (by omega) _ _ _ _ hfin hg2 (by omega) (by omega) (mDo_I2 (B := B) (sl := sl) (c := (mCmd n τ sl s).2) hI (mCmd_v (n := n) (τ := τ) (s := s) hs12) hB2) hB3 hE
theorem mText_le {n : Nat} {τ : Nat → Nat} {sl : Nat} : ∀ (f : Nat) {s : PS}, s.2 ≤ n + 8 → (mText n τ sl f s).2 ≤ n + 8
  | 0, _, h => h
  | f + 1, s, h => by
    rw [mText]
    split
    · have := mCmd_le (n := n) (τ := τ) (sl := sl) (s := s)
      exact mText_le f (by omega)
    · exact h
theorem mEnd_le {n : Nat} {τ : Nat → Nat} (_ : n ≤ 90) : (mEnd n τ).2 ≤ n + 8 := mText_le 90 (by have := (mHd_le n τ).2.2.2; omega)
theorem nI_ne_none {k : Nat} (h : k < 2147483648) : ¬ nI k = -99999 := by
  intro e
  have := nI_pos' h
  rw [e] at this
  exact absurd this (by decide)
set_option maxHeartbeats 1000000 in
theorem T_mload_bad {d : Nat} {S : Sc} {M : Nat → Nat → Int32} {J : Nat → Nat → Int64} {n : Nat} {τ : Nat → Nat} (hM : MoS S) (hT : TxM M n τ) (hb : (mEnd n τ).1 = false) : Wp (d + 8) 137 [.ref 137] (S, M, J) (fun rs w' => rs = .inl (some (.int 0)) ∧ ∃ M', w' = (S, M', J) ∧ M' 137 0 = 1 ∧ Jk M M') := by
  obtain ⟨⟨b137, p1, p8, p9, p10, p12, p13⟩, ⟨b138, b139, b140, b141, b142, b143⟩, n138, n139, n140, n141, n142, n143⟩ := id hM
  have hle : (mEnd n τ).2 < 2147483648 := by have := mEnd_le (τ := τ) hT.2.1; have := hT.2.1; omega
  have hne : ¬ mTv (mEnd n τ) = -99999 := by unfold mTv; rw [if_neg (by rw [hb]; decide)]; exact nI_ne_none hle
  refine ⟨rfl, ?_⟩
  refine EE.runN (stop := noStop) 80 _ ?_
  refine ⟨⟨Nat.le_of_ble_eq_true rfl, Nat.le_of_ble_eq_true rfl, Nat.le_of_ble_eq_true rfl⟩, by simp only [wI_1, wI_w, p1, p8, p9, p10, p12, p13, b137, b138, b139, b140, b141, b142, b143] <;> first | rfl | decide, _, T_readText hM hT, ?_⟩
  rintro _ _ ⟨rfl, hw⟩
  subst hw
  refine ⟨Or.inl rfl, ?_⟩
  refine ⟨fun h1 => ?_, fun h1 => ?_⟩
  · refine ⟨⟨Nat.le_of_ble_eq_true rfl, Nat.le_of_ble_eq_true rfl, Nat.le_of_ble_eq_true rfl⟩, by simp only [wI_1, wI_w, p1, p8, p9, p10, p12, p13, b137, b138, b139, b140, b141, b142, b143] <;> first | rfl | decide, _, T_refused (x := 1) hM, ?_⟩
    rintro _ w1 ⟨rfl, hw⟩
    have hw : w1 = (S, setP (setQ (mHdM M n τ) 0 1) (mEnd n τ), J) := hw.trans (congrArg (fun m => (S, m, J)) (setQ_P (by omega) (by omega)))
    subst hw
    refine ⟨Or.inl rfl, ?_⟩
    refine ⟨fun h2 => ?_, fun h2 => ?_⟩
    · exact absurd h2 (by decide)
    · refine ⟨⟨Nat.zero_le _, Nat.zero_le _⟩, rfl, _, rfl, ?_, ?_⟩
      · rw [setP_k _ _ (by omega) (by omega), setQ_s]
      · exact ((Jk_H M n τ).tr (Jk_Q _ (by omega))).tr (Jk_P _ _)
  · exact absurd h1 hne
set_option maxHeartbeats 1000000 in
theorem T_mload_good {d : Nat} {S : Sc} {M : Nat → Nat → Int32} {J : Nat → Nat → Int64} {n : Nat} {τ : Nat → Nat} (hM : MoS S) (hT : TxM M n τ) (hg : (mEnd n τ).1 = true) : Wp (d + 8) 137 [.ref 137] (S, M, J) (fun rs w' => rs = .inl (some (.int (mLd n τ (mHS n τ) 90 (mHd4 n τ).1 (rClean (M 139) (nI (mHS n τ)) (nI (mHd3 n τ).2) (nI (mHd4 n τ).2)) 0).2)) ∧ ∃ M', w' = (S, M', J) ∧ M' 137 0 = 0 ∧ M' 137 2 = M 137 2 ∧ M' 137 11 = 0 ∧ M' 139 = (mLd n τ (mHS n τ) 90 (mHd4 n τ).1 (rClean (M 139) (nI (mHS n τ)) (nI (mHd3 n τ).2) (nI (mHd4 n τ).2)) 0).1 ∧ M' 143 0 = 0 ∧ M' 143 1 = 0 ∧ ∀ c, c ≠ 137 → c ≠ 139 → c ≠ 143 → M' c = M c) := by
  obtain ⟨⟨b137, p1, p8, p9, p10, p12, p13⟩, ⟨b138, b139, b140, b141, b142, b143⟩, n138, n139, n140, n141, n142, n143⟩ := id hM
  have hne : mTv (mEnd n τ) = -99999 := by unfold mTv; rw [if_pos hg]
  have v := mHS_v n τ
  have v3 := mTwo_v (n := n) (τ := τ) (lo := 1) (hi := 99) (s := (mHd2 n τ).1) (by omega) (by omega)
  have v4 := mThree_v (n := n) (τ := τ) (lo := 10) (s := (mHd3 n τ).1) (by omega)
  have ht1 : TxM (setP (setQ (mHdM M n τ) 0 0) (mEnd n τ)) n τ := ((hT.H).Q (by omega)).P _
  obtain ⟨M3, hM3⟩ : ∃ M3, M3 = (mHdM (setP (setQ (mHdM M n τ) 0 0) (mEnd n τ)) n τ) := ⟨_, rfl⟩
  have ht3 : TxM M3 n τ := by rw [hM3]; exact ht1.H
  have f5' : M3 137 5 = nI (mHS n τ) := by rw [hM3]; exact mHdM_5
  have f5 : setP M3 (mHd4 n τ).1 137 5 = nI (mHS n τ) := (setP_k _ _ (by omega) (by omega)).trans f5'
  have f6 : setP M3 (mHd4 n τ).1 137 6 = nI (mHd3 n τ).2 := (setP_k _ _ (by omega) (by omega)).trans (by rw [hM3]; exact mHdM_6)
  have f7 : setP M3 (mHd4 n τ).1 137 7 = nI (mHd4 n τ).2 := (setP_k _ _ (by omega) (by omega)).trans (by rw [hM3]; exact mHdM_7)
  have o3 : ∀ c, c ≠ 137 → M3 c = M c := by intro c hc; rw [hM3, mHdM_o hc, setP_o _ _ hc, setQ_o hc, mHdM_o hc]
  have e139 : setP M3 (mHd4 n τ).1 139 = M 139 := (setP_o _ _ (by omega)).trans (o3 139 (by omega))
  have z0 : M3 137 0 = 0 := by rw [hM3, mHdM_k (by omega) (by omega) (by omega), setP_k _ _ (by omega) (by omega), setQ_s]
  have z2 : M3 137 2 = M 137 2 := by rw [hM3, mHdM_k (by omega) (by omega) (by omega), setP_k _ _ (by omega) (by omega), setQ_k (by omega), mHdM_k (by omega) (by omega) (by omega)]
  have h4 : (mHd4 n τ).1.1 = true := by
    cases h_ : (mHd4 n τ).1.1 with
    | true => rfl
    | false => unfold mEnd at hg; rw [mText_out (fun hh => by rw [h_] at hh; exact absurd hh.1 (by decide)), h_] at hg; exact absurd hg (by decide)
  have hI : I2 0 (rClean (M 139) (nI (mHS n τ)) (nI (mHd3 n τ).2) (nI (mHd4 n τ).2)) := rClean_I2 v.1 v.2 v3.1 v3.2 v4.2
  refine ⟨rfl, ?_⟩
  refine EE.runN (stop := atPc [48]) 80 _ ?_
  refine ⟨⟨Nat.le_of_ble_eq_true rfl, Nat.le_of_ble_eq_true rfl, Nat.le_of_ble_eq_true rfl⟩, by simp only [wI_1, wI_w, p1, p8, p9, p10, p12, p13, b137, b138, b139, b140, b141, b142, b143] <;> first | rfl | decide, _, T_readText hM hT, ?_⟩
  rintro _ _ ⟨rfl, hw⟩
  subst hw
  refine ⟨Or.inl rfl, ?_⟩
  refine ⟨fun h1 => ?_, fun h1 => ?_⟩
  · exact absurd hne h1
  · refine ⟨⟨Nat.le_of_ble_eq_true rfl, Nat.le_of_ble_eq_true rfl, Nat.le_of_ble_eq_true rfl⟩, by simp only [wI_1, wI_w, p1, p8, p9, p10, p12, p13, b137, b138, b139, b140, b141, b142, b143] <;> first | rfl | decide, _, T_refused (x := 0) hM, ?_⟩
    rintro _ w1 ⟨rfl, hw⟩
    have hw : w1 = (S, setP (setQ (mHdM M n τ) 0 0) (mEnd n τ), J) := hw.trans (congrArg (fun m => (S, m, J)) (setQ_P (by omega) (by omega)))
    subst hw
    refine ⟨Or.inl rfl, ?_⟩
    refine ⟨fun h2 => ?_, fun h2 => ?_⟩
    · refine ⟨⟨Nat.le_of_ble_eq_true rfl, Nat.le_of_ble_eq_true rfl, Nat.le_of_ble_eq_true rfl⟩, by simp only [wI_1, wI_w, p1, p8, p9, p10, p12, p13, b137, b138, b139, b140, b141, b142, b143] <;> first | rfl | decide, _, by exact T_head (M := (setP (setQ (mHdM M n τ) 0 0) (mEnd n τ))) hM ht1, ?_⟩
      rintro _ w1 ⟨rfl, hw⟩
      have hw : w1 = (S, setP M3 (mHd4 n τ).1, J) := by rw [hM3]; exact hw
      subst hw
      refine ⟨Or.inl rfl, ?_⟩
      refine ⟨by simp only [wI_1, wI_w, p1, p8, p9, p10, p12, p13, b137, b138, b139, b140, b141, b142, b143] <;> first | rfl | decide, ?_⟩
      refine ⟨by simp only [wI_1, wI_w, p1, p8, p9, p10, p12, p13, b137, b138, b139, b140, b141, b142, b143] <;> first | rfl | decide, ?_⟩
      refine ⟨by simp only [wI_1, wI_w, p1, p8, p9, p10, p12, p13, b137, b138, b139, b140, b141, b142, b143] <;> first | rfl | decide, ?_⟩
      refine ⟨by simp only [wI_1, wI_w, p1, p8, p9, p10, p12, p13, b137, b138, b139, b140, b141, b142, b143] <;> first | rfl | decide, ?_⟩
      refine ⟨⟨Nat.le_of_ble_eq_true rfl, Nat.le_of_ble_eq_true rfl, Nat.le_of_ble_eq_true rfl⟩, _, by simp only [wI_M, wI_1, wI_w, wI_1, wI_w, p1, p8, p9, p10, p12, p13, setP_3, setP_4, f5, f6, f7]; exact T_clean (r := 139) hM.now, ?_⟩
      rintro _ w1 ⟨rfl, hw⟩
      have hw : w1 = (S, setP (upA M3 139 (rClean (M 139) (nI (mHS n τ)) (nI (mHd3 n τ).2) (nI (mHd4 n τ).2))) (mHd4 n τ).1, J) := hw.trans (congrArg (fun m => (S, m, J)) (by rw [setP_A', e139]))
      subst hw
      refine ⟨Or.inl rfl, ?_⟩
      refine ee_at (nt := nzT 137) [(0, .ref 137), (1, .int 0)] (S, setP (upA M3 139 (rClean (M 139) (nI (mHS n τ)) (nI (mHd3 n τ).2) (nI (mHd4 n τ).2))) (mHd4 n τ).1, J) rfl rfl rfl ?_
      refine L_ld (M := M3) hM ht3 f5' (by omega) (by omega) 90 _ _ _ 0 hg h4 (by have := hT.2.1; omega) (by have := (mHd_le n τ).2.2.2; omega) hI (by omega) (fun s' => ?_)
      refine EE.runN (stop := noStop) 40 _ ?_
      refine ⟨by simp only [wI_1, wI_w, p1, p8, p9, p10, p12, p13, b137, b138, b139, b140, b141, b142, b143] <;> first | rfl | decide, trivial, ?_⟩
      refine ⟨by simp only [wI_1, wI_w, p1, p8, p9, p10, p12, p13, b137, b138, b139, b140, b141, b142, b143] <;> first | rfl | decide, ?_⟩
      refine ⟨by simp only [wI_1, wI_w, p1, p8, p9, p10, p12, p13, b137, b138, b139, b140, b141, b142, b143] <;> first | rfl | decide, (by simp only [wI_1, wI_w, p1, p8, p9, p10, p12, p13, n138, n139, n140, n141, n142, n143]; exact vp_in_nI (show 0 < 2 by omega) (by omega)), ?_⟩
      refine ⟨by simp only [wI_1, wI_w, p1, p8, p9, p10, p12, p13, b137, b138, b139, b140, b141, b142, b143] <;> first | rfl | decide, ?_⟩
      refine ⟨by simp only [wI_1, wI_w, p1, p8, p9, p10, p12, p13, b137, b138, b139, b140, b141, b142, b143] <;> first | rfl | decide, (by simp only [wI_1, wI_w, p1, p8, p9, p10, p12, p13, n138, n139, n140, n141, n142, n143]; exact vp_in_nI (show 1 < 2 by omega) (by omega)), ?_⟩
      refine ⟨⟨Nat.zero_le _, Nat.zero_le _⟩, rfl, _, rfl, ?_, ?_, ?_, ?_, ?_, ?_, fun c h1 h2 h3 => ?_⟩
      all_goals simp only [wI_M, wI_w, p13, tk_0, tk_1, upA_s, upA_n _ _ (show (137 : Nat) ≠ 143 by omega), upA_n _ _ (show (139 : Nat) ≠ 143 by omega), upA_n _ _ (show (139 : Nat) ≠ 137 by omega), upA_n _ _ (show (143 : Nat) ≠ 137 by omega), setP_o _ _ (show (139 : Nat) ≠ 137 by omega)]
      · rw [pk_un (by omega), setP_k _ _ (by omega) (by omega), upA_n _ _ (by omega)]; exact z0
      · rw [pk_un (by omega), setP_k _ _ (by omega) (by omega), upA_n _ _ (by omega)]; exact z2
      · exact pk_us
      · rfl
      · rfl
      · rw [upA_n _ _ h3, upA_n _ _ h3, upA_n _ _ h1, setP_o _ _ h1, upA_n _ _ h2]; exact o3 c h1
    · exact absurd h2 (by decide)
set_option maxHeartbeats 1000000 in
theorem T_mErr {d : Nat} {S : Sc} {M : Nat → Nat → Int32} {J : Nat → Nat → Int64} {n : Nat} {τ : Nat → Nat} (hM : MoS S) (hT : TxM M n τ) : Wp (d + 7) 136 [.ref 137] (S, M, J) (fun rs w' => rs = .inl (some (.int (mTv (mEnd n τ)))) ∧ ∃ M', w' = (S, M', J) ∧ M' 137 0 = 0 ∧ Jk M M') := by
  obtain ⟨⟨b137, p1, p8, p9, p10, p12, p13⟩, ⟨b138, b139, b140, b141, b142, b143⟩, n138, n139, n140, n141, n142, n143⟩ := id hM
  refine ⟨rfl, ?_⟩
  refine EE.runN (stop := noStop) 80 _ ?_
  refine ⟨by simp only [wI_1, wI_w, p1, p8, p9, p10, p12, p13, b137, b138, b139, b140, b141, b142, b143] <;> first | rfl | decide, trivial, ?_⟩
  refine ⟨⟨Nat.le_of_ble_eq_true rfl, Nat.le_of_ble_eq_true rfl, Nat.le_of_ble_eq_true rfl⟩, by simp only [wI_1, wI_w, p1, p8, p9, p10, p12, p13, b137, b138, b139, b140, b141, b142, b143] <;> first | rfl | decide, _, T_readText (M := setQ M 0 0) hM (hT.Q (by omega)), ?_⟩
  rintro _ w1 ⟨rfl, hw⟩
  subst hw
  refine ⟨Or.inl rfl, ?_⟩
  refine ⟨⟨Nat.zero_le _, Nat.zero_le _⟩, rfl, _, rfl, ?_, ?_⟩
  · rw [setP_k _ _ (by omega) (by omega), mHdM_k (by omega) (by omega) (by omega), setQ_s]
  · exact ((Jk_Q M (by omega)).tr (Jk_H _ n τ)).tr (Jk_P _ _)
