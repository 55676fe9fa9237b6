/-! THE REFERENCE: runScript: written by wip/whole/pure3.py -/
theorem rGo_0 : ∀ (f : Nat) {ρ : Rw}, rGo f ρ 0 = ρ 0
  | 0, _ => rfl
  | f + 1, ρ => by
    unfold rGo
    split
    · rw [rGo_0 f]
      unfold rGo1
      split
      · split
        · rfl
        · exact rStore_keep (by omega)
      · rfl
    · rfl
theorem gRow_0 {B : Nat} {ρ : Rw} (_ : I2 B ρ) (g k : Nat) : gRow ρ g k 0 = ρ 0 := by
  unfold gRow
  split
  · split
    · exact rGo_0 _
    · rfl
  · split <;> rfl
  · split <;> rfl
  · split
    · unfold rServe
      split
      · exact rAdd_lo _ (by omega)
      · exact (rAdd_lo _ (by omega)).trans (rDrop_lo _ (by omega))
    · rfl
  · split <;> rfl
  · split
    · exact rRn_hi (by omega) 3
    · rfl
  · rfl
theorem p10_ne {f : Nat} (hf : f ≤ 4) : ¬ p10 (4 * f) = 0 := by
  intro h
  have h1 := p10_i f hf
  have h2 := p10_pos f
  rw [h, show (0 : Int64).toInt = 0 by decide] at h1
  omega
set_option maxHeartbeats 2000000 in
theorem L_script {d : Nat} {Q : Res → Wd → Prop} {S : Sc} {M : Nat → Nat → Int32} {J : Nat → Nat → Int64} {n m : Nat} {told : Int64} {s4 : Int32} (hM : MoS S) (h0 : M 139 0 = nI n) (hn3 : 3 ≤ n) (hn : n ≤ 12) (hm : m ≤ 4) (ht : ¬ told < 0) : ∀ (f k : Nat) (τ : Rw) (B : Nat), k + f = m → I2 B τ → B + 1000 * f < 1073741824 → τ 0 = nI n → (∀ τ', Q (.inl (some (.int (sRun told f k τ)))) (S, upA M 140 τ', J)) → EE (SJ (d + 9) 165 (Wp (d + 8)) Q) (62, [(0, .ref 137), (1, .int (nI m)), (2, .long told), (5, .int (nI k))], [], (S, upA M 140 τ, J), 0, 0) := by
  obtain ⟨⟨b137, p1, p8, p9, p10, p12, p13⟩, ⟨b138, b139, b140, b141, b142, b143⟩, n138, n139, n140, n141, n142, n143⟩ := id hM
  have ht0 := lnn.mp ht
  intro f
  induction f with
  | zero =>
    intro k τ B hk hI hB h0t hQ
    refine EE.runN (stop := noStop) 60 _ ?_
    refine ⟨fun h1 => ?_, fun h1 => ?_⟩
    · refine ⟨⟨Nat.zero_le _, Nat.zero_le _⟩, ?_⟩
      exact hQ _
    · exact absurd (nI_le (show m ≤ k by omega) (by omega)) h1
  | succ f ih =>
    intro k τ B hk hI hB h0t hQ
    have hB1 : B + 999 + 1000 * f < 1073741824 := by rw [Nat.mul_succ] at hB; omega
    have hB2 : B + 999 < 1073741824 := Nat.lt_of_le_of_lt (Nat.le_add_right _ _) hB1
    have e1 : (4 * (nI m - 1 - nI k) : Int32) = nI (4 * f) := by
      rw [o_4, o_1, pk_sub (by omega), pk_sub (by omega), pk_mul]
      congr 1
      omega
    rw [sRun] at hQ
    refine EE.runN (stop := atPc [62]) 80 _ ?_
    refine ⟨fun h1 => ?_, fun h1 => ?_⟩
    · exact absurd h1 (nI_ge (show k < m by omega) (by omega))
    · refine ⟨⟨Nat.le_of_ble_eq_true rfl, Nat.le_of_ble_eq_true rfl, Nat.le_of_ble_eq_true rfl⟩, _, by rw [e1]; exact T_tenTo (by omega), ?_⟩
      rintro _ _ ⟨rfl, rfl⟩
      refine ⟨Or.inl rfl, ?_⟩
      refine ⟨by first | decide | exact p10_ne (by omega), ?_⟩
      refine ⟨by first | decide | exact p10_ne (by omega), ?_⟩
      refine ⟨⟨Nat.le_of_ble_eq_true rfl, Nat.le_of_ble_eq_true rfl, Nat.le_of_ble_eq_true rfl⟩, by simp only [wI_1, wI_w, p1, p8, p9, p10, p12, p13, b137, b138, b139, b140, b141, b142, b143] <;> first | rfl | decide, _, by rw [sG_m ht0 (by omega)]; exact T_does hM h0 hI h0t hn3 hn (sG_lt _ _), ?_⟩
      rintro _ _ ⟨rfl, rfl⟩
      refine ⟨Or.inl rfl, ?_⟩
      refine ⟨fun h2 => ?_, fun h2 => ?_⟩
      · refine ee_at (nt := nzT 165) [(0, .ref 137), (1, .int (nI m)), (2, .long told), (5, .int (nI (k + 1)))] (S, upA M 140 (gRow τ (sG told f) (sG told f / 1000)), J) rfl (by rw [← nI_1 k]; rfl) rfl ?_
        refine ih (k + 1) _ (B + 999) (by omega) (gRow_I2 hI hB2 (sG_lt _ _) _) hB1 ((gRow_0 hI _ _).trans h0t) (fun τ' => ?_)
        have := hQ τ'
        rw [if_neg h2] at this
        exact this
      · (try simp only [Classical.not_not] at h2)
        refine ⟨⟨Nat.zero_le _, Nat.zero_le _⟩, ?_⟩
        have := hQ (gRow τ (sG told f) (sG told f / 1000))
        rw [if_pos h2] at this
        exact this
set_option maxHeartbeats 1000000 in
theorem R_script {d : Nat} {S : Sc} {M : Nat → Nat → Int32} {J : Nat → Nat → Int64} {x : Int32} {told : Int64} {n B : Nat} (hM : MoS S) (hI : I2 B (M 139)) (hB : B < 900000) (h0 : M 139 0 = nI n) (hn3 : 3 ≤ n) (hn : n ≤ 12) : Wp (d + 9) 165 [.ref 137, .int x, .long told] (S, M, J) (fun rs w' => ∃ v M', rs = .inl (some (.int v)) ∧ w' = (S, M', J) ∧ M' 137 0 = nI (aScript (M 139) x told).1 ∧ ((aScript (M 139) x told).1 = 0 → v = (aScript (M 139) x told).2) ∧ Jk M M') := by
  obtain ⟨⟨b137, p1, p8, p9, p10, p12, p13⟩, ⟨b138, b139, b140, b141, b142, b143⟩, n138, n139, n140, n141, n142, n143⟩ := id hM
  refine ⟨rfl, ?_⟩
  refine EE.runN (stop := atPc [62]) 80 _ ?_
  refine ⟨⟨Nat.le_of_ble_eq_true rfl, Nat.le_of_ble_eq_true rfl, Nat.le_of_ble_eq_true rfl⟩, _, T_in32 1 4 rfl rfl, ?_⟩
  rintro _ _ ⟨rfl, rfl⟩
  refine ⟨Or.inl rfl, ?_⟩
  refine ⟨fun h1 => ?_, fun h1 => ?_⟩
  · refine ⟨⟨Nat.le_of_ble_eq_true rfl, Nat.le_of_ble_eq_true rfl, Nat.le_of_ble_eq_true rfl⟩, by simp only [wI_1, wI_w, p1, p8, p9, p10, p12, p13, b137, b138, b139, b140, b141, b142, b143] <;> first | rfl | decide, _, T_refused (x := 1) hM, ?_⟩
    rintro _ w1 ⟨rfl, hw⟩
    have hw : w1 = (S, setQ M 0 1, J) := hw
    subst hw
    refine ⟨Or.inl rfl, ?_⟩
    refine ⟨fun h2 => ?_, fun h2 => ?_⟩
    · exact absurd h2 (by decide)
    · (try simp only [wI_M, wI_1, wI_w, wI_1, wI_w, p1, p8, p9, p10, p12, p13, q139, q140, q138, q141, q142, q143, bI_e0, Classical.not_not, tk_0, tk_1, tk_2, tk_3, tk_4, tk_5, tk_6, tk_7, tk_8, tk_9, tk_10, tk_11, tk_12, tk_13, tk_14, tk_15, tk_16, tk_17] at h1)
      refine ⟨⟨Nat.zero_le _, Nat.zero_le _⟩, _, _, rfl, rfl, ?_, ?_, Jk_Q M (by omega)⟩
      · unfold aScript; rw [if_neg h1]; exact setQ_s
      · unfold aScript; rw [if_neg h1]; intro h_; exact absurd h_ (by decide)
  · have hz := h1
    have h1_ := h1
    simp only [wI_M, wI_1, wI_w, wI_1, wI_w, p1, p8, p9, p10, p12, p13, q139, q140, q138, q141, q142, q143, bI_e0, Classical.not_not, tk_0, tk_1, tk_2, tk_3, tk_4, tk_5, tk_6, tk_7, tk_8, tk_9, tk_10, tk_11, tk_12, tk_13, tk_14, tk_15, tk_16, tk_17] at hz
    obtain ⟨m, hm1, hm, rfl⟩ := in_nat1 (k := 4) rfl (by omega) hz
    have e4m : (4 * nI m : Int32) = nI (4 * m) := by rw [o_4, pk_mul]
    refine ⟨fun h3 => ?_, fun h3 => ?_⟩
    · exact absurd h3 h1_
    · refine ⟨⟨Nat.le_of_ble_eq_true rfl, Nat.le_of_ble_eq_true rfl, Nat.le_of_ble_eq_true rfl⟩, _, by rw [e4m]; exact T_tenTo (by omega), ?_⟩
      rintro _ _ ⟨rfl, rfl⟩
      refine ⟨Or.inl rfl, ?_⟩
      refine ⟨⟨Nat.le_of_ble_eq_true rfl, Nat.le_of_ble_eq_true rfl, Nat.le_of_ble_eq_true rfl⟩, _, T_in, ?_⟩
      rintro _ _ ⟨rfl, rfl⟩
      refine ⟨Or.inl rfl, ?_⟩
      refine ⟨fun h4 => ?_, fun h4 => ?_⟩
      · refine ⟨⟨Nat.le_of_ble_eq_true rfl, Nat.le_of_ble_eq_true rfl, Nat.le_of_ble_eq_true rfl⟩, by simp only [wI_1, wI_w, p1, p8, p9, p10, p12, p13, b137, b138, b139, b140, b141, b142, b143] <;> first | rfl | decide, _, T_refused (x := 1) hM, ?_⟩
        rintro _ w1 ⟨rfl, hw⟩
        have hw : w1 = (S, setQ M 0 1, J) := hw
        subst hw
        refine ⟨Or.inl rfl, ?_⟩
        refine ⟨fun h5 => ?_, fun h5 => ?_⟩
        · exact absurd h5 (by decide)
        · (try simp only [wI_M, wI_1, wI_w, wI_1, wI_w, p1, p8, p9, p10, p12, p13, q139, q140, q138, q141, q142, q143, bI_e0, Classical.not_not, tk_0, tk_1, tk_2, tk_3, tk_4, tk_5, tk_6, tk_7, tk_8, tk_9, tk_10, tk_11, tk_12, tk_13, tk_14, tk_15, tk_16, tk_17] at h1)
          (try simp only [wI_M, wI_1, wI_w, wI_1, wI_w, p1, p8, p9, p10, p12, p13, q139, q140, q138, q141, q142, q143, bI_e0, Classical.not_not, tk_0, tk_1, tk_2, tk_3, tk_4, tk_5, tk_6, tk_7, tk_8, tk_9, tk_10, tk_11, tk_12, tk_13, tk_14, tk_15, tk_16, tk_17] at h4)
          replace h4 : ¬ (¬ told < 0 ∧ lGr told (nI m).toNatClampNeg = 0) := by rw [ck (show m < 2147483648 by omega)]; exact fun hh => h4 ⟨hh.1, (told_i hh.1 (by omega) hm1).mpr hh.2⟩
          refine ⟨⟨Nat.zero_le _, Nat.zero_le _⟩, _, _, rfl, rfl, ?_, ?_, Jk_Q M (by omega)⟩
          · unfold aScript; rw [if_pos h1, if_neg h4]; exact setQ_s
          · unfold aScript; rw [if_pos h1, if_neg h4]; intro h_; exact absurd h_ (by decide)
      · refine ⟨⟨Nat.le_of_ble_eq_true rfl, Nat.le_of_ble_eq_true rfl, Nat.le_of_ble_eq_true rfl⟩, by simp only [wI_1, wI_w, p1, p8, p9, p10, p12, p13, b137, b138, b139, b140, b141, b142, b143] <;> first | rfl | decide, _, T_refused (x := 0) hM, ?_⟩
        rintro _ w1 ⟨rfl, hw⟩
        have hw : w1 = (S, setQ M 0 0, J) := hw
        subst hw
        refine ⟨Or.inl rfl, ?_⟩
        refine ⟨fun h6 => ?_, fun h6 => ?_⟩
        · refine ⟨⟨Nat.le_of_ble_eq_true rfl, Nat.le_of_ble_eq_true rfl, Nat.le_of_ble_eq_true rfl⟩, by simp only [wI_1, wI_w, p1, p8, p9, p10, p12, p13, b137, b138, b139, b140, b141, b142, b143] <;> first | rfl | decide, _, T_begin hM, ?_⟩
          rintro _ w1 ⟨rfl, hw⟩
          have hw : w1 = (S, upA (setQ M 0 0) 140 (va_cpy (M 139) (M 140) 0 0 114), J) := by rw [hw]; unfold mBegin; rw [q139, q140]
          subst hw
          refine ⟨Or.inl rfl, ?_⟩
          have hI0 : I2 B (va_cpy (M 139) (M 140) 0 0 114) := (cpy_rp _).I2 hI.cnt.2 hI.cnt.1 hI
          have hr_ := h4
          simp only [bI_e0, Classical.not_not] at hr_
          have hrq : sRun told m 0 (va_cpy (M 139) (M 140) 0 0 114) = sRun told m 0 (M 139) := sRun_rq m 0 (Rq.cg (cpy_rp _) rfl) hI (by omega)
          refine ee_at (nt := nzT 165) [(0, .ref 137), (1, .int (nI m)), (2, .long told), (5, .int (nI 0))] (S, upA (setQ M 0 0) 140 (va_cpy (M 139) (M 140) 0 0 114), J) rfl rfl rfl ?_
          refine L_script (n := n) (s4 := 0) hM (by rw [q139]; exact h0) hn3 hn (by omega) hr_.1 m 0 _ B (by omega) hI0 (by omega) ((cpy_at (by omega)).trans h0) (fun τ' => ?_)
          refine ⟨_, _, rfl, rfl, ?_, ?_, (Jk_Q M (by omega)).tr (Jk_140 _ _)⟩
          · unfold aScript; rw [if_pos hz, ck (show m < 2147483648 by omega), if_pos ⟨hr_.1, (told_i hr_.1 (by omega) hm1).mp hr_.2⟩, upA_n _ _ (by omega)]; exact setQ_s
          · unfold aScript; rw [if_pos hz, ck (show m < 2147483648 by omega), if_pos ⟨hr_.1, (told_i hr_.1 (by omega) hm1).mp hr_.2⟩]; intro _; exact hrq
        · exact absurd h6 (by decide)
