/-! THE REFERENCE: what would be: written by wip/whole/pure3.py -/
theorem cpy_at {ρ δ : Rw} {q : Nat} (h : q < 114) : va_cpy ρ δ 0 0 114 q = ρ q := by
  unfold va_cpy
  rw [if_pos (by omega)]
  congr 1
  omega
theorem cpy_rp {ρ δ : Rw} (m : Nat) : Rp m (va_cpy ρ δ 0 0 114) ρ := Rp.of fun q h _ => cpy_at h
def fFin (σ : Rw) (x y : Int32) : Rw := if rStore (rDoCut σ x y) 3 = 1 then rStore (rDoCut σ x y) else rPower (rStore (rDoCut σ x y))
def aFound (ρ : Rw) (x y : Int32) : Int32 := if rStore (upd (upd ρ 10 x) 11 y) 3 = 1 then ρ 4 else rPower (rStore (upd (upd ρ 10 x) 11 y)) 4
theorem found_e {ρ δ : Rw} {x y : Int32} (hok : Rok ρ) (h3 : ¬ ρ 3 = 0) : (if rStore (rDoCut (va_cpy ρ δ 0 0 114) x y) 3 = 1 then ρ 4 else rPower (rStore (rDoCut (va_cpy ρ δ 0 0 114) x y)) 4) = aFound ρ x y := by
  have h := cpy_rp (ρ := ρ) (δ := δ) 12
  have e : rDoCut (va_cpy ρ δ 0 0 114) x y = upd (upd (va_cpy ρ δ 0 0 114) 10 x) 11 y := by
    unfold rDoCut
    rw [cpy_at (by omega), if_neg h3]
  have hok2 : Rok (upd (upd ρ 10 x) 11 y) := hok
  have h2 := ((h.set (k := 10) (x := x) (by omega)).set (k := 11) (x := y) (by omega)).store hok2
  unfold aFound
  rw [e, h2.at (q := 3) (by omega) (by omega), (h2.power (rStore_ok hok2)).at (q := 4) (by omega) (by omega)]
def rWl (ρ : Rw) : Nat → Int32
  | 0 => ρ 4
  | k + 1 => if rWl ρ k ≤ aFound ρ (nI (1 + k / 3)) (nI (k % 3)) then rWl ρ k else aFound ρ (nI (1 + k / 3)) (nI (k % 3))
def tWl (ρ δ : Rw) : Nat → Rw
  | 0 => δ
  | k + 1 => fFin (va_cpy ρ (tWl ρ δ k) 0 0 114) (nI (1 + k / 3)) (nI (k % 3))
def aAfter (ρ : Rw) (x y : Int32) : Nat × Int32 := if ¬ x < 1 ∧ ¬ 36 < x ∧ ¬ y < 0 ∧ ¬ 2 < y then (if ρ 3 = 0 ∨ ρ 12 = 1 then (2, 0) else (0, aFound ρ x y)) else (1, 0)
def aWorst (ρ : Rw) : Nat × Int32 := if ρ 3 = 0 ∨ ρ 12 = 1 then (1, 0) else (0, ρ 4 - rWl ρ 108)
def rLs : Nat → Nat → Rw → Nat × Rw
  | 0, k, τ => (k, τ)
  | f + 1, k, τ => if τ 12 = 0 then rLs f (k + 1) (rGo1 τ) else (k, τ)
def vLasts (ρ : Rw) : Int32 := if (rLs 9999 0 ρ).2 12 = 1 then nI (rLs 9999 0 ρ).1 else -99999
def aLasts (ρ : Rw) (x : Int32) : Nat × Int32 := if ¬ x < 1 ∧ ¬ 99 < x then (if ρ 3 = 0 then (2, 0) else (0, vLasts (upd (upd ρ 1 x) 10 0))) else (1, 0)
theorem Rp.go1 {m : Nat} {σ ρ : Rw} (h : Rp m σ ρ) (hr : Rok ρ) : Rp m (rGo1 σ) (rGo1 ρ) := by
  obtain ⟨δ, rfl⟩ := h
  exact ⟨δ, rGo1_ov (pS_st m) hr (pS_f (by omega) (by omega)) (pS_f (by omega) (by omega))⟩
theorem rLs_rp {m : Nat} : ∀ (f k : Nat) {σ ρ : Rw}, Rp m σ ρ → Rok ρ → (rLs f k σ).1 = (rLs f k ρ).1 ∧ (rLs f k σ).2 12 = (rLs f k ρ).2 12
  | 0, _, _, _, h, _ => ⟨rfl, h.at (by omega) (by omega)⟩
  | f + 1, k, σ, ρ, h, hr => by
    rw [rLs, rLs, h.at (q := 12) (by omega) (by omega)]
    split
    · exact rLs_rp f (k + 1) (h.go1 hr) (rGo1_ok hr)
    · exact ⟨rfl, h.at (by omega) (by omega)⟩
theorem vLasts_rp {m : Nat} {σ ρ : Rw} (h : Rp m σ ρ) (hr : Rok ρ) : vLasts σ = vLasts ρ := by
  unfold vLasts
  have := rLs_rp 9999 0 h hr
  rw [this.1, this.2]
theorem rLs_out {k : Nat} {τ : Rw} (h : ¬ τ 12 = 0) : ∀ f, rLs f k τ = (k, τ)
  | 0 => rfl
  | f + 1 => by rw [rLs, if_neg h]
theorem rGo1_p {B : Nat} {ρ : Rw} (hI : Inv B ρ) (h3 : ρ 3 = 1) (h10 : ρ 10 = 0) : rGo1 ρ 3 = 1 ∧ rGo1 ρ 10 = 0 := by
  unfold rGo1
  split
  · rename_i h12
    split
    · exact ⟨h3, h10⟩
    · have := rStore_nc (ρ := rTick ρ) h10
      exact ⟨this.2.trans h3, this.1⟩
  · exact ⟨h3, h10⟩
set_option maxHeartbeats 1000000 in
theorem T_isBroken {d : Nat} {S : Sc} {M : Nat → Nat → Int32} {J : Nat → Nat → Int64} (hM : MoS S) : Wp (d + 1) 157 [.ref 137] (S, M, J) (fun rs w' => rs = .inl (some (.int (bI (M 139 3 = 0 ∨ M 139 12 = 1)))) ∧ w' = (S, M, J)) := by
  obtain ⟨⟨b137, p1, p8, p9, p10, p12, p13⟩, ⟨b138, b139, b140, b141, b142, b143⟩, n138, n139, n140, n141, n142, n143⟩ := id hM
  refine ⟨rfl, ?_⟩
  refine EE.runN (stop := noStop) 80 _ ?_
  refine ⟨by simp only [wI_1, wI_w, p1, p8, p9, p10, p12, p13, b137, b138, b139, b140, b141, b142, b143] <;> first | rfl | decide, ?_⟩
  refine ⟨by simp only [wI_1, wI_w, p1, p8, p9, p10, p12, p13, b137, b138, b139, b140, b141, b142, b143] <;> first | rfl | decide, (by simp only [wI_1, wI_w, p1, p8, p9, p10, p12, p13, n138, n139, n140, n141, n142, n143]; exact vp_in_nI (show 3 < 114 by omega) (by omega)), ?_⟩
  refine ⟨fun h1 => ?_, fun h1 => ?_⟩
  · simp only [wI_1, wI_w, p1, p8, p9, p10, p12, p13, tk_0, tk_1, tk_2, tk_3, tk_4, tk_5, tk_6, tk_7, tk_8, tk_9, tk_10, tk_11, tk_12, tk_13, tk_14, tk_15, tk_16, tk_17, Classical.not_not] at h1
    refine ⟨⟨Nat.zero_le _, Nat.zero_le _⟩, by decide, congrArg (fun v => Sum.inl (some (Value.int v))) ?_, rfl⟩
    exact (bI_t (Or.inl h1)).symm
  · refine ⟨by simp only [wI_1, wI_w, p1, p8, p9, p10, p12, p13, b137, b138, b139, b140, b141, b142, b143] <;> first | rfl | decide, ?_⟩
    refine ⟨by simp only [wI_1, wI_w, p1, p8, p9, p10, p12, p13, b137, b138, b139, b140, b141, b142, b143] <;> first | rfl | decide, (by simp only [wI_1, wI_w, p1, p8, p9, p10, p12, p13, n138, n139, n140, n141, n142, n143]; exact vp_in_nI (show 12 < 114 by omega) (by omega)), ?_⟩
    refine ⟨fun h2 => ?_, fun h2 => ?_⟩
    · simp only [wI_1, wI_w, p1, p8, p9, p10, p12, p13, tk_0, tk_1, tk_2, tk_3, tk_4, tk_5, tk_6, tk_7, tk_8, tk_9, tk_10, tk_11, tk_12, tk_13, tk_14, tk_15, tk_16, tk_17, Classical.not_not] at h1 h2
      refine ⟨⟨Nat.zero_le _, Nat.zero_le _⟩, by decide, congrArg (fun v => Sum.inl (some (Value.int v))) ?_, rfl⟩
      exact (bI_f (fun h_ => h_.elim h1 h2)).symm
    · simp only [wI_1, wI_w, p1, p8, p9, p10, p12, p13, tk_0, tk_1, tk_2, tk_3, tk_4, tk_5, tk_6, tk_7, tk_8, tk_9, tk_10, tk_11, tk_12, tk_13, tk_14, tk_15, tk_16, tk_17, Classical.not_not] at h1 h2
      refine ⟨⟨Nat.zero_le _, Nat.zero_le _⟩, by decide, congrArg (fun v => Sum.inl (some (Value.int v))) ?_, rfl⟩
      exact (bI_t (Or.inr h2)).symm
theorem Z_store {d : Nat} {S : Sc} {M : Nat → Nat → Int32} {J : Nat → Nat → Int64} {r : Nat} (hR : RowS S r) (hok : Rok (M r)) : Wp (d + 4) 112 [.ref r] (S, M, J) (fun rs w' => rs = .inl none ∧ w' = (S, upA M r (rStore (M r)), J)) := by
  obtain ⟨n, cur, a, b, c, h0, h7⟩ := hok
  exact T_store hR a b c h0 h7
theorem rDoCut_ok {ρ : Rw} {x y : Int32} (h : Rok ρ) : Rok (rDoCut ρ x y) := by
  unfold rDoCut
  split
  · exact h
  · exact h
set_option maxHeartbeats 1000000 in
theorem T_found {d : Nat} {S : Sc} {M : Nat → Nat → Int32} {J : Nat → Nat → Int64} {x y : Int32} (hM : MoS S) (hok : Rok (M 139)) (h3 : ¬ M 139 3 = 0) : Wp (d + 6) 158 [.ref 137, .int x, .int y] (S, M, J) (fun rs w' => rs = .inl (some (.int (aFound (M 139) x y))) ∧ w' = (S, (upA M 140 (fFin (va_cpy (M 139) (M 140) 0 0 114) x y)), J)) := by
  obtain ⟨⟨b137, p1, p8, p9, p10, p12, p13⟩, ⟨b138, b139, b140, b141, b142, b143⟩, n138, n139, n140, n141, n142, n143⟩ := id hM
  have hok1 : Rok (rDoCut (va_cpy (M 139) (M 140) 0 0 114) x y) := rDoCut_ok ((cpy_rp 12).ok hok)
  refine ⟨rfl, ?_⟩
  refine EE.runN (stop := noStop) 80 _ ?_
  refine ⟨⟨Nat.le_of_ble_eq_true rfl, Nat.le_of_ble_eq_true rfl, Nat.le_of_ble_eq_true rfl⟩, by simp only [wI_1, wI_w, p1, p8, p9, p10, p12, p13, b137, b138, b139, b140, b141, b142, b143] <;> first | rfl | decide, _, T_begin hM, ?_⟩
  rintro _ w1 ⟨rfl, hw⟩
  have hw : w1 = (S, upA M 140 (va_cpy (M 139) (M 140) 0 0 114), J) := hw
  subst hw
  refine ⟨Or.inl rfl, ?_⟩
  refine ⟨by simp only [wI_1, wI_w, p1, p8, p9, p10, p12, p13, b137, b138, b139, b140, b141, b142, b143] <;> first | rfl | decide, ?_⟩
  refine ⟨⟨Nat.le_of_ble_eq_true rfl, Nat.le_of_ble_eq_true rfl, Nat.le_of_ble_eq_true rfl⟩, _, by simp only [wI_1, wI_w, p1, p8, p9, p10, p12, p13]; exact T_doCut hM.trial, ?_⟩
  rintro _ w1 ⟨rfl, hw⟩
  have hw : w1 = (S, upA M 140 (rDoCut (va_cpy (M 139) (M 140) 0 0 114) x y), J) := by rw [hw, upA_s, upA_uu]
  subst hw
  refine ⟨Or.inl rfl, ?_⟩
  refine ⟨by simp only [wI_1, wI_w, p1, p8, p9, p10, p12, p13, b137, b138, b139, b140, b141, b142, b143] <;> first | rfl | decide, ?_⟩
  refine ⟨⟨Nat.le_of_ble_eq_true rfl, Nat.le_of_ble_eq_true rfl, Nat.le_of_ble_eq_true rfl⟩, _, by simp only [wI_1, wI_w, p1, p8, p9, p10, p12, p13]; exact Z_store hM.trial (by rw [upA_s]; exact hok1), ?_⟩
  rintro _ w1 ⟨rfl, hw⟩
  have hw : w1 = (S, upA M 140 (rStore (rDoCut (va_cpy (M 139) (M 140) 0 0 114) x y)), J) := by rw [hw, upA_s, upA_uu]
  subst hw
  refine ⟨Or.inl rfl, ?_⟩
  refine ⟨by simp only [wI_1, wI_w, p1, p8, p9, p10, p12, p13, b137, b138, b139, b140, b141, b142, b143] <;> first | rfl | decide, ?_⟩
  refine ⟨by simp only [wI_1, wI_w, p1, p8, p9, p10, p12, p13, b137, b138, b139, b140, b141, b142, b143] <;> first | rfl | decide, (by simp only [wI_1, wI_w, p1, p8, p9, p10, p12, p13, n138, n139, n140, n141, n142, n143]; exact vp_in_nI (show 3 < 114 by omega) (by omega)), ?_⟩
  refine ⟨fun h1 => ?_, fun h1 => ?_⟩
  · refine ⟨by simp only [wI_1, wI_w, p1, p8, p9, p10, p12, p13, b137, b138, b139, b140, b141, b142, b143] <;> first | rfl | decide, ?_⟩
    refine ⟨⟨Nat.le_of_ble_eq_true rfl, Nat.le_of_ble_eq_true rfl, Nat.le_of_ble_eq_true rfl⟩, _, by simp only [wI_1, wI_w, p1, p8, p9, p10, p12, p13]; exact T_power hM.trial (by rw [upA_s]; exact rStore_ok hok1), ?_⟩
    rintro _ w1 ⟨rfl, hw⟩
    have hw : w1 = (S, upA M 140 (rPower (rStore (rDoCut (va_cpy (M 139) (M 140) 0 0 114) x y))), J) := by rw [hw, upA_s, upA_uu]
    subst hw
    refine ⟨Or.inl rfl, ?_⟩
    refine ⟨by simp only [wI_1, wI_w, p1, p8, p9, p10, p12, p13, b137, b138, b139, b140, b141, b142, b143] <;> first | rfl | decide, ?_⟩
    refine ⟨by simp only [wI_1, wI_w, p1, p8, p9, p10, p12, p13, b137, b138, b139, b140, b141, b142, b143] <;> first | rfl | decide, (by simp only [wI_1, wI_w, p1, p8, p9, p10, p12, p13, n138, n139, n140, n141, n142, n143]; exact vp_in_nI (show 4 < 114 by omega) (by omega)), ?_⟩
    have h_ : ¬ rStore (rDoCut (va_cpy (M 139) (M 140) 0 0 114) x y) 3 = 1 := by have h_ := h1; simp only [wI_1, wI_w, p1, p8, p9, p10, p12, p13, tk_0, tk_1, tk_2, tk_3, tk_4, tk_5, tk_6, tk_7, tk_8, tk_9, tk_10, tk_11, tk_12, tk_13, tk_14, tk_15, tk_16, tk_17, upA_s] at h_; exact h_
    refine ⟨⟨Nat.zero_le _, Nat.zero_le _⟩, ?_, ?_⟩
    · refine congrArg (fun v => Sum.inl (some (Value.int v))) ?_
      rw [← found_e (δ := M 140) hok h3, if_neg h_]
      simp only [wI_1, wI_w, p1, p8, p9, p10, p12, p13, tk_0, tk_1, tk_2, tk_3, tk_4, tk_5, tk_6, tk_7, tk_8, tk_9, tk_10, tk_11, tk_12, tk_13, tk_14, tk_15, tk_16, tk_17, upA_s, upA_n _ _ (show (139 : Nat) ≠ 140 by omega)]
    · unfold fFin
      rw [if_neg h_]
  · refine ⟨by simp only [wI_1, wI_w, p1, p8, p9, p10, p12, p13, b137, b138, b139, b140, b141, b142, b143] <;> first | rfl | decide, ?_⟩
    refine ⟨by simp only [wI_1, wI_w, p1, p8, p9, p10, p12, p13, b137, b138, b139, b140, b141, b142, b143] <;> first | rfl | decide, (by simp only [wI_1, wI_w, p1, p8, p9, p10, p12, p13, n138, n139, n140, n141, n142, n143]; exact vp_in_nI (show 4 < 114 by omega) (by omega)), ?_⟩
    have h_ : rStore (rDoCut (va_cpy (M 139) (M 140) 0 0 114) x y) 3 = 1 := by have h_ := h1; simp only [wI_1, wI_w, p1, p8, p9, p10, p12, p13, tk_0, tk_1, tk_2, tk_3, tk_4, tk_5, tk_6, tk_7, tk_8, tk_9, tk_10, tk_11, tk_12, tk_13, tk_14, tk_15, tk_16, tk_17, upA_s] at h_; exact h_
    refine ⟨⟨Nat.zero_le _, Nat.zero_le _⟩, ?_, ?_⟩
    · refine congrArg (fun v => Sum.inl (some (Value.int v))) ?_
      rw [← found_e (δ := M 140) hok h3, if_pos h_]
      simp only [wI_1, wI_w, p1, p8, p9, p10, p12, p13, tk_0, tk_1, tk_2, tk_3, tk_4, tk_5, tk_6, tk_7, tk_8, tk_9, tk_10, tk_11, tk_12, tk_13, tk_14, tk_15, tk_16, tk_17, upA_s, upA_n _ _ (show (139 : Nat) ≠ 140 by omega)]
    · unfold fFin
      rw [if_pos h_]
set_option maxHeartbeats 1000000 in
theorem R_afterCut {d : Nat} {S : Sc} {M : Nat → Nat → Int32} {J : Nat → Nat → Int64} {x y : Int32} (hM : MoS S) (hok : Rok (M 139)) : Wp (d + 8) 159 [.ref 137, .int x, .int y] (S, M, J) (fun rs w' => ∃ v M', rs = .inl (some (.int v)) ∧ w' = (S, M', J) ∧ M' 137 0 = nI (aAfter (M 139) x y).1 ∧ ((aAfter (M 139) x y).1 = 0 → v = (aAfter (M 139) x y).2) ∧ Jk M M') := by
  obtain ⟨⟨b137, p1, p8, p9, p10, p12, p13⟩, ⟨b138, b139, b140, b141, b142, b143⟩, n138, n139, n140, n141, n142, n143⟩ := id hM
  refine ⟨rfl, ?_⟩
  refine EE.runN (stop := noStop) 80 _ ?_
  refine ⟨⟨Nat.le_of_ble_eq_true rfl, Nat.le_of_ble_eq_true rfl, Nat.le_of_ble_eq_true rfl⟩, _, T_mC, ?_⟩
  rintro _ _ ⟨rfl, rfl⟩
  refine ⟨Or.inl rfl, ?_⟩
  refine ⟨fun h1 => ?_, fun h1 => ?_⟩
  · refine ⟨⟨Nat.le_of_ble_eq_true rfl, Nat.le_of_ble_eq_true rfl, Nat.le_of_ble_eq_true rfl⟩, by simp only [wI_1, wI_w, p1, p8, p9, p10, p12, p13, b137, b138, b139, b140, b141, b142, b143] <;> first | rfl | decide, _, T_isBroken hM, ?_⟩
    rintro _ _ ⟨rfl, rfl⟩
    refine ⟨Or.inl rfl, ?_⟩
    refine ⟨fun h2 => ?_, fun h2 => ?_⟩
    · refine ⟨⟨Nat.le_of_ble_eq_true rfl, Nat.le_of_ble_eq_true rfl, Nat.le_of_ble_eq_true rfl⟩, by simp only [wI_1, wI_w, p1, p8, p9, p10, p12, p13, b137, b138, b139, b140, b141, b142, b143] <;> first | rfl | decide, _, T_refused (x := 0) hM, ?_⟩
      rintro _ w1 ⟨rfl, hw⟩
      have hw : w1 = (S, setQ M 0 0, J) := hw
      subst hw
      refine ⟨Or.inl rfl, ?_⟩
      refine ⟨fun h3 => ?_, fun h3 => ?_⟩
      · have g_ := h2
        simp only [wI_M, wI_1, wI_w, wI_1, wI_w, p1, p8, p9, p10, p12, p13, q139, q140, q138, q141, q142, q143, bI_e0, Classical.not_not, tk_0, tk_1, tk_2, tk_3, tk_4, tk_5, tk_6, tk_7, tk_8, tk_9, tk_10, tk_11, tk_12, tk_13, tk_14, tk_15, tk_16, tk_17] at g_
        have h3_ : ¬ M 139 3 = 0 := fun h_ => g_ (Or.inl h_)
        refine ⟨⟨Nat.le_of_ble_eq_true rfl, Nat.le_of_ble_eq_true rfl, Nat.le_of_ble_eq_true rfl⟩, by simp only [wI_1, wI_w, p1, p8, p9, p10, p12, p13, b137, b138, b139, b140, b141, b142, b143] <;> first | rfl | decide, _, T_found hM (by rw [q139]; exact hok) (by rw [q139]; exact h3_), ?_⟩
        rintro _ _ ⟨rfl, rfl⟩
        refine ⟨Or.inl rfl, ?_⟩
        (try simp only [wI_M, wI_1, wI_w, wI_1, wI_w, p1, p8, p9, p10, p12, p13, q139, q140, q138, q141, q142, q143, bI_e0, Classical.not_not, tk_0, tk_1, tk_2, tk_3, tk_4, tk_5, tk_6, tk_7, tk_8, tk_9, tk_10, tk_11, tk_12, tk_13, tk_14, tk_15, tk_16, tk_17] at h1)
        (try simp only [wI_M, wI_1, wI_w, wI_1, wI_w, p1, p8, p9, p10, p12, p13, q139, q140, q138, q141, q142, q143, bI_e0, Classical.not_not, tk_0, tk_1, tk_2, tk_3, tk_4, tk_5, tk_6, tk_7, tk_8, tk_9, tk_10, tk_11, tk_12, tk_13, tk_14, tk_15, tk_16, tk_17] at h2)
        refine ⟨⟨Nat.zero_le _, Nat.zero_le _⟩, _, _, rfl, rfl, ?_, ?_, (Jk_Q M (by omega)).tr (Jk_140 _ _)⟩
        · unfold aAfter; rw [if_pos h1, if_neg h2]; rw [upA_n _ _ (by omega)]; exact setQ_s
        · unfold aAfter; rw [if_pos h1, if_neg h2]; intro _; first | rfl | rw [q139]
      · exact absurd h3 (by decide)
    · refine ⟨⟨Nat.le_of_ble_eq_true rfl, Nat.le_of_ble_eq_true rfl, Nat.le_of_ble_eq_true rfl⟩, by simp only [wI_1, wI_w, p1, p8, p9, p10, p12, p13, b137, b138, b139, b140, b141, b142, b143] <;> first | rfl | decide, _, T_refused (x := 2) hM, ?_⟩
      rintro _ w1 ⟨rfl, hw⟩
      have hw : w1 = (S, setQ M 0 2, J) := hw
      subst hw
      refine ⟨Or.inl rfl, ?_⟩
      refine ⟨fun h4 => ?_, fun h4 => ?_⟩
      · exact absurd h4 (by decide)
      · (try simp only [wI_M, wI_1, wI_w, wI_1, wI_w, p1, p8, p9, p10, p12, p13, q139, q140, q138, q141, q142, q143, bI_e0, Classical.not_not, tk_0, tk_1, tk_2, tk_3, tk_4, tk_5, tk_6, tk_7, tk_8, tk_9, tk_10, tk_11, tk_12, tk_13, tk_14, tk_15, tk_16, tk_17] at h1)
        (try simp only [wI_M, wI_1, wI_w, wI_1, wI_w, p1, p8, p9, p10, p12, p13, q139, q140, q138, q141, q142, q143, bI_e0, Classical.not_not, tk_0, tk_1, tk_2, tk_3, tk_4, tk_5, tk_6, tk_7, tk_8, tk_9, tk_10, tk_11, tk_12, tk_13, tk_14, tk_15, tk_16, tk_17] at h2)
        refine ⟨⟨Nat.zero_le _, Nat.zero_le _⟩, _, _, rfl, rfl, ?_, ?_, Jk_Q M (by omega)⟩
        · unfold aAfter; rw [if_pos h1, if_pos h2]; exact setQ_s
        · unfold aAfter; rw [if_pos h1, if_pos h2]; intro h_; exact absurd h_ (by decide)
  · refine ⟨⟨Nat.le_of_ble_eq_true rfl, Nat.le_of_ble_eq_true rfl, Nat.le_of_ble_eq_true rfl⟩, by simp only [wI_1, wI_w, p1, p8, p9, p10, p12, p13, b137, b138, b139, b140, b141, b142, b143] <;> first | rfl | decide, _, T_refused (x := 1) hM, ?_⟩
    rintro _ w1 ⟨rfl, hw⟩
    have hw : w1 = (S, setQ M 0 1, J) := hw
    subst hw
    refine ⟨Or.inl rfl, ?_⟩
    refine ⟨fun h5 => ?_, fun h5 => ?_⟩
    · exact absurd h5 (by decide)
    · (try simp only [wI_M, wI_1, wI_w, wI_1, wI_w, p1, p8, p9, p10, p12, p13, q139, q140, q138, q141, q142, q143, bI_e0, Classical.not_not, tk_0, tk_1, tk_2, tk_3, tk_4, tk_5, tk_6, tk_7, tk_8, tk_9, tk_10, tk_11, tk_12, tk_13, tk_14, tk_15, tk_16, tk_17] at h1)
      refine ⟨⟨Nat.zero_le _, Nat.zero_le _⟩, _, _, rfl, rfl, ?_, ?_, Jk_Q M (by omega)⟩
      · unfold aAfter; rw [if_neg h1]; exact setQ_s
      · unfold aAfter; rw [if_neg h1]; intro h_; exact absurd h_ (by decide)
set_option maxHeartbeats 1000000 in
theorem R_worst {d : Nat} {S : Sc} {M : Nat → Nat → Int32} {J : Nat → Nat → Int64} (hM : MoS S) (hok : Rok (M 139)) : Wp (d + 8) 160 [.ref 137] (S, M, J) (fun rs w' => ∃ v M', rs = .inl (some (.int v)) ∧ w' = (S, M', J) ∧ M' 137 0 = nI (aWorst (M 139)).1 ∧ ((aWorst (M 139)).1 = 0 → v = (aWorst (M 139)).2) ∧ Jk M M') := by
  obtain ⟨⟨b137, p1, p8, p9, p10, p12, p13⟩, ⟨b138, b139, b140, b141, b142, b143⟩, n138, n139, n140, n141, n142, n143⟩ := id hM
  refine ⟨rfl, ?_⟩
  refine EE.runN (stop := atPc [30]) 80 _ ?_
  refine ⟨⟨Nat.le_of_ble_eq_true rfl, Nat.le_of_ble_eq_true rfl, Nat.le_of_ble_eq_true rfl⟩, by simp only [wI_1, wI_w, p1, p8, p9, p10, p12, p13, b137, b138, b139, b140, b141, b142, b143] <;> first | rfl | decide, _, T_isBroken hM, ?_⟩
  rintro _ _ ⟨rfl, rfl⟩
  refine ⟨Or.inl rfl, ?_⟩
  refine ⟨fun h1 => ?_, fun h1 => ?_⟩
  · refine ⟨⟨Nat.le_of_ble_eq_true rfl, Nat.le_of_ble_eq_true rfl, Nat.le_of_ble_eq_true rfl⟩, by simp only [wI_1, wI_w, p1, p8, p9, p10, p12, p13, b137, b138, b139, b140, b141, b142, b143] <;> first | rfl | decide, _, T_refused (x := 0) hM, ?_⟩
    rintro _ w1 ⟨rfl, hw⟩
    have hw : w1 = (S, setQ M 0 0, J) := hw
    subst hw
    refine ⟨Or.inl rfl, ?_⟩
    refine ⟨fun h2 => ?_, fun h2 => ?_⟩
    · have g_ := h1
      simp only [wI_M, wI_1, wI_w, wI_1, wI_w, p1, p8, p9, p10, p12, p13, q139, q140, q138, q141, q142, q143, bI_e0, Classical.not_not, tk_0, tk_1, tk_2, tk_3, tk_4, tk_5, tk_6, tk_7, tk_8, tk_9, tk_10, tk_11, tk_12, tk_13, tk_14, tk_15, tk_16, tk_17] at g_
      have h3_ : ¬ M 139 3 = 0 := fun h_ => g_ (Or.inl h_)
      refine ⟨by simp only [wI_1, wI_w, p1, p8, p9, p10, p12, p13, b137, b138, b139, b140, b141, b142, b143] <;> first | rfl | decide, ?_⟩
      refine ⟨by simp only [wI_1, wI_w, p1, p8, p9, p10, p12, p13, b137, b138, b139, b140, b141, b142, b143] <;> first | rfl | decide, (by simp only [wI_1, wI_w, p1, p8, p9, p10, p12, p13, n138, n139, n140, n141, n142, n143]; exact vp_in_nI (show 4 < 114 by omega) (by omega)), ?_⟩
      refine ee_at (nt := nzT 160) [(0, .ref 137), (1, .int (rWl (M 139) (0))), (2, .int (nI (0)))] (S, upA (setQ M 0 0) 140 (tWl (M 139) (M 140) (0)), J) rfl (by simp only [wI_M, wI_1, wI_w, wI_1, wI_w, p1, p8, p9, p10, p12, p13, q139, q140, q138, q141, q142, q143, bI_e0, Classical.not_not, tk_0, tk_1, tk_2, tk_3, tk_4, tk_5, tk_6, tk_7, tk_8, tk_9, tk_10, tk_11, tk_12, tk_13, tk_14, tk_15, tk_16, tk_17]; rfl) (by show (S, _, J) = (S, _, J); unfold tWl; rw [← q140 (M := M) (k := 0) (v := 0), upA_id]) ?_
      refine ee_loop (fun k => (30, [(0, .ref 137), (1, .int (rWl (M 139) (k))), (2, .int (nI (k)))], [], (S, upA (setQ M 0 0) 140 (tWl (M 139) (M 140) (k)), J), 0, 0)) (108) (fun k h_k ih_k => ?_) ?_
      · refine EE.runN (stop := atPc [30]) 80 _ ?_
        have e9 : upA (setQ M 0 0) 140 (tWl (M 139) (M 140) k) 139 = M 139 := (upA_n _ _ (by omega)).trans q139
        have e1_ : (1 + nI k / 3 : Int32) = nI (1 + k / 3) := by rw [o_3, pk_div (by omega) (by omega) (by omega), o_1, nI_add]
        have e2_ : (nI k - nI k / 3 * 3 : Int32) = nI (k % 3) := by rw [o_3, pk_rem (by omega) (by omega) (by omega)]
        refine ⟨fun h3 => ?_, fun h3 => ?_⟩
        · exact absurd h3 (nI_ge (b := 108) h_k (by omega))
        · refine ⟨by first | decide | simp only [wI_1, wI_w, p1, p8, p9, p10, p12, p13, b137, b138, b139, b140, b141, b142, b143] <;> first | rfl | decide, ?_⟩
          refine ⟨by first | decide | simp only [wI_1, wI_w, p1, p8, p9, p10, p12, p13, b137, b138, b139, b140, b141, b142, b143] <;> first | rfl | decide, ?_⟩
          refine ⟨⟨Nat.le_of_ble_eq_true rfl, Nat.le_of_ble_eq_true rfl, Nat.le_of_ble_eq_true rfl⟩, by simp only [wI_1, wI_w, p1, p8, p9, p10, p12, p13, b137, b138, b139, b140, b141, b142, b143] <;> first | rfl | decide, _, by rw [e1_, e2_]; exact T_found (M := upA (setQ M 0 0) 140 (tWl (M 139) (M 140) k)) (x := nI (1 + k / 3)) (y := nI (k % 3)) hM (by rw [e9]; exact hok) (by rw [e9]; exact h3_), ?_⟩
          rintro _ w1 ⟨rfl, hw⟩
          rw [e9]
          have hw : w1 = (S, upA (setQ M 0 0) 140 (tWl (M 139) (M 140) (k + 1)), J) := by rw [hw, e9, upA_s, upA_uu]; rfl
          subst hw
          refine ⟨Or.inl rfl, ?_⟩
          refine ⟨fun h4 => ?_, fun h4 => ?_⟩
          · refine ee_at (nt := nzT 160) [(0, .ref 137), (1, .int (rWl (M 139) ((k + 1)))), (2, .int (nI ((k + 1))))] (S, upA (setQ M 0 0) 140 (tWl (M 139) (M 140) ((k + 1))), J) rfl (by rw [rWl, if_pos h4, ← nI_1 k]; rfl) (by rfl) ?_
            exact ih_k
          · refine ee_at (nt := nzT 160) [(0, .ref 137), (1, .int (rWl (M 139) ((k + 1)))), (2, .int (nI ((k + 1))))] (S, upA (setQ M 0 0) 140 (tWl (M 139) (M 140) ((k + 1))), J) rfl (by rw [rWl, if_neg h4, ← nI_1 k]; rfl) (by rfl) ?_
            exact ih_k
      · refine EE.runN (stop := atPc [30]) 80 _ ?_
        refine ⟨fun h5 => ?_, fun h5 => ?_⟩
        · refine ⟨by simp only [wI_1, wI_w, p1, p8, p9, p10, p12, p13, b137, b138, b139, b140, b141, b142, b143] <;> first | rfl | decide, ?_⟩
          refine ⟨by simp only [wI_1, wI_w, p1, p8, p9, p10, p12, p13, b137, b138, b139, b140, b141, b142, b143] <;> first | rfl | decide, (by simp only [wI_1, wI_w, p1, p8, p9, p10, p12, p13, n138, n139, n140, n141, n142, n143]; exact vp_in_nI (show 4 < 114 by omega) (by omega)), ?_⟩
          (try simp only [wI_M, wI_1, wI_w, wI_1, wI_w, p1, p8, p9, p10, p12, p13, q139, q140, q138, q141, q142, q143, bI_e0, Classical.not_not, tk_0, tk_1, tk_2, tk_3, tk_4, tk_5, tk_6, tk_7, tk_8, tk_9, tk_10, tk_11, tk_12, tk_13, tk_14, tk_15, tk_16, tk_17] at h1)
          refine ⟨⟨Nat.zero_le _, Nat.zero_le _⟩, _, _, rfl, rfl, ?_, ?_, (Jk_Q M (by omega)).tr (Jk_140 _ _)⟩
          · unfold aWorst; rw [if_neg h1]; rw [upA_n _ _ (by omega)]; exact setQ_s
          · unfold aWorst; rw [if_neg h1]; intro _; simp only [wI_M, wI_1, wI_w, wI_1, wI_w, p1, p8, p9, p10, p12, p13, q139, q140, q138, q141, q142, q143, bI_e0, Classical.not_not, tk_0, tk_1, tk_2, tk_3, tk_4, tk_5, tk_6, tk_7, tk_8, tk_9, tk_10, tk_11, tk_12, tk_13, tk_14, tk_15, tk_16, tk_17, upA_n _ _ (show (139 : Nat) ≠ 140 by omega)]
        · exact absurd (nI_le (Nat.le_refl 108) (by omega)) h5
    · exact absurd h2 (by decide)
  · refine ⟨⟨Nat.le_of_ble_eq_true rfl, Nat.le_of_ble_eq_true rfl, Nat.le_of_ble_eq_true rfl⟩, by simp only [wI_1, wI_w, p1, p8, p9, p10, p12, p13, b137, b138, b139, b140, b141, b142, b143] <;> first | rfl | decide, _, T_refused (x := 1) hM, ?_⟩
    rintro _ w1 ⟨rfl, hw⟩
    have hw : w1 = (S, setQ M 0 1, J) := hw
    subst hw
    refine ⟨Or.inl rfl, ?_⟩
    refine ⟨fun h6 => ?_, fun h6 => ?_⟩
    · exact absurd h6 (by decide)
    · (try simp only [wI_M, wI_1, wI_w, wI_1, wI_w, p1, p8, p9, p10, p12, p13, q139, q140, q138, q141, q142, q143, bI_e0, Classical.not_not, tk_0, tk_1, tk_2, tk_3, tk_4, tk_5, tk_6, tk_7, tk_8, tk_9, tk_10, tk_11, tk_12, tk_13, tk_14, tk_15, tk_16, tk_17] at h1)
      refine ⟨⟨Nat.zero_le _, Nat.zero_le _⟩, _, _, rfl, rfl, ?_, ?_, Jk_Q M (by omega)⟩
      · unfold aWorst; rw [if_pos h1]; exact setQ_s
      · unfold aWorst; rw [if_pos h1]; intro h_; exact absurd h_ (by decide)
set_option maxHeartbeats 1000000 in
theorem L_lasts {d : Nat} {Q : Res → Wd → Prop} {S : Sc} {M : Nat → Nat → Int32} {J : Nat → Nat → Int64} {x : Int32} (hM : MoS S) : ∀ (f k : Nat) (τ : Rw) (B : Nat), k + f = 9999 → Inv (B + k) τ → B < 1000000000 → τ 3 = 1 → τ 10 = 0 → Q (.inl (some (.int (if (rLs f k τ).2 12 = 1 then nI (rLs f k τ).1 else -99999)))) (S, upA M 140 (rLs f k τ).2, J) → EE (SJ (d + 6) 161 (Wp (d + 5)) Q) (55, [(0, .ref 137), (1, .int x), (2, .int (nI k))], [], (S, upA M 140 τ, J), 0, 0) := by
  obtain ⟨⟨b137, p1, p8, p9, p10, p12, p13⟩, ⟨b138, b139, b140, b141, b142, b143⟩, n138, n139, n140, n141, n142, n143⟩ := id hM
  intro f
  induction f with
  | zero =>
    intro k τ B hk hI hB h3 h10 hQ
    refine EE.runN (stop := noStop) 60 _ ?_
    refine ⟨fun h1 => ?_, fun h1 => ?_⟩
    · refine ⟨by simp only [wI_1, wI_w, p1, p8, p9, p10, p12, p13, b137, b138, b139, b140, b141, b142, b143] <;> first | rfl | decide, ?_⟩
      refine ⟨by simp only [wI_1, wI_w, p1, p8, p9, p10, p12, p13, b137, b138, b139, b140, b141, b142, b143] <;> first | rfl | decide, (by simp only [wI_1, wI_w, p1, p8, p9, p10, p12, p13, n138, n139, n140, n141, n142, n143]; exact vp_in_nI (show 12 < 114 by omega) (by omega)), ?_⟩
      refine ⟨fun h2 => ?_, fun h2 => ?_⟩
      · have h_ : ¬ τ 12 = 1 := by have h_ := h2; simp only [wI_1, wI_w, p1, p8, p9, p10, p12, p13, tk_0, tk_1, tk_2, tk_3, tk_4, tk_5, tk_6, tk_7, tk_8, tk_9, tk_10, tk_11, tk_12, tk_13, tk_14, tk_15, tk_16, tk_17, upA_s] at h_; exact h_
        rw [rLs] at hQ
        dsimp only at hQ
        rw [if_neg h_] at hQ
        refine ⟨⟨Nat.zero_le _, Nat.zero_le _⟩, ?_⟩
        exact hQ
      · have h_ : τ 12 = 1 := by have h_ := h2; simp only [wI_1, wI_w, p1, p8, p9, p10, p12, p13, tk_0, tk_1, tk_2, tk_3, tk_4, tk_5, tk_6, tk_7, tk_8, tk_9, tk_10, tk_11, tk_12, tk_13, tk_14, tk_15, tk_16, tk_17, upA_s] at h_; exact h_
        rw [rLs] at hQ
        dsimp only at hQ
        rw [if_pos h_] at hQ
        refine ⟨⟨Nat.zero_le _, Nat.zero_le _⟩, ?_⟩
        exact hQ
    · (rw [show (9999 : Int32) = nI 9999 from rfl, nI_leI (by omega) (by omega)] at h1; omega)
  | succ f ih =>
    intro k τ B hk hI hB h3 h10 hQ
    have hg : rGone 1 τ = 1 := by rw [rGone, if_pos h3]; rfl
    have hg2 : rGo 1 τ = rGo1 τ := by rw [rGo, if_pos h3]; rfl
    refine EE.runN (stop := atPc [55]) 60 _ ?_
    refine ⟨fun h1 => ?_, fun h1 => ?_⟩
    · (rw [show (9999 : Int32) = nI 9999 from rfl, nI_leI (by omega) (by omega)] at h1; omega)
    · refine ⟨by simp only [wI_1, wI_w, p1, p8, p9, p10, p12, p13, b137, b138, b139, b140, b141, b142, b143] <;> first | rfl | decide, ?_⟩
      refine ⟨by simp only [wI_1, wI_w, p1, p8, p9, p10, p12, p13, b137, b138, b139, b140, b141, b142, b143] <;> first | rfl | decide, (by simp only [wI_1, wI_w, p1, p8, p9, p10, p12, p13, n138, n139, n140, n141, n142, n143]; exact vp_in_nI (show 12 < 114 by omega) (by omega)), ?_⟩
      refine ⟨fun h2 => ?_, fun h2 => ?_⟩
      · refine ⟨by simp only [wI_1, wI_w, p1, p8, p9, p10, p12, p13, b137, b138, b139, b140, b141, b142, b143] <;> first | rfl | decide, ?_⟩
        refine ⟨by simp only [wI_1, wI_w, p1, p8, p9, p10, p12, p13, b137, b138, b139, b140, b141, b142, b143] <;> first | rfl | decide, (by simp only [wI_1, wI_w, p1, p8, p9, p10, p12, p13, n138, n139, n140, n141, n142, n143]; exact vp_in_nI (show 12 < 114 by omega) (by omega)), ?_⟩
        refine ⟨fun h3 => ?_, fun h3 => ?_⟩
        · have h_ : ¬ τ 12 = 1 := by have h_ := h3; simp only [wI_1, wI_w, p1, p8, p9, p10, p12, p13, tk_0, tk_1, tk_2, tk_3, tk_4, tk_5, tk_6, tk_7, tk_8, tk_9, tk_10, tk_11, tk_12, tk_13, tk_14, tk_15, tk_16, tk_17, upA_s] at h_; exact h_
          have h0_ : ¬ τ 12 = 0 := by have h_ := h2; simp only [wI_1, wI_w, p1, p8, p9, p10, p12, p13, tk_0, tk_1, tk_2, tk_3, tk_4, tk_5, tk_6, tk_7, tk_8, tk_9, tk_10, tk_11, tk_12, tk_13, tk_14, tk_15, tk_16, tk_17, upA_s] at h_; exact h_
          rw [rLs_out h0_] at hQ
          dsimp only at hQ
          rw [if_neg h_] at hQ
          refine ⟨⟨Nat.zero_le _, Nat.zero_le _⟩, ?_⟩
          exact hQ
        · have h_ : τ 12 = 1 := by have h_ := h3; simp only [wI_1, wI_w, p1, p8, p9, p10, p12, p13, tk_0, tk_1, tk_2, tk_3, tk_4, tk_5, tk_6, tk_7, tk_8, tk_9, tk_10, tk_11, tk_12, tk_13, tk_14, tk_15, tk_16, tk_17, upA_s] at h_; exact h_
          have h0_ : ¬ τ 12 = 0 := by have h_ := h2; simp only [wI_1, wI_w, p1, p8, p9, p10, p12, p13, tk_0, tk_1, tk_2, tk_3, tk_4, tk_5, tk_6, tk_7, tk_8, tk_9, tk_10, tk_11, tk_12, tk_13, tk_14, tk_15, tk_16, tk_17, upA_s] at h_; exact h_
          rw [rLs_out h0_] at hQ
          dsimp only at hQ
          rw [if_pos h_] at hQ
          refine ⟨⟨Nat.zero_le _, Nat.zero_le _⟩, ?_⟩
          exact hQ
      · refine ⟨by simp only [wI_1, wI_w, p1, p8, p9, p10, p12, p13, b137, b138, b139, b140, b141, b142, b143] <;> first | rfl | decide, ?_⟩
        refine ⟨⟨Nat.le_of_ble_eq_true rfl, Nat.le_of_ble_eq_true rfl, Nat.le_of_ble_eq_true rfl⟩, _, by simp only [wI_1, wI_w, p1, p8, p9, p10, p12, p13]; exact T_go (t := 1) hM.trial (by omega) (by rw [upA_s]; exact hI.1), ?_⟩
        rintro _ w1 ⟨rfl, hw⟩
        have hw : w1 = (S, upA M 140 (rGo1 τ), J) := by rw [hw, upA_s, upA_uu, hg2]
        subst hw
        rw [upA_s, hg]
        refine ⟨Or.inl rfl, ?_⟩
        have h_ : τ 12 = 0 := by have h_ := h2; simp only [wI_1, wI_w, p1, p8, p9, p10, p12, p13, tk_0, tk_1, tk_2, tk_3, tk_4, tk_5, tk_6, tk_7, tk_8, tk_9, tk_10, tk_11, tk_12, tk_13, tk_14, tk_15, tk_16, tk_17, upA_s] at h_; exact h_
        rw [rLs, if_pos h_] at hQ
        have hp := rGo1_p hI h3 h10
        have hI2 := rGo1_I hI (by omega) h3
        refine ee_at (nt := nzT 161) [(0, .ref 137), (1, .int x), (2, .int (nI (k + 1)))] (S, upA M 140 (rGo1 τ), J) rfl (by rw [← nI_1 k]; rfl) rfl (ih (k + 1) (rGo1 τ) B (by omega) hI2 hB hp.1 hp.2 hQ)
set_option maxHeartbeats 1000000 in
theorem R_lasts {d : Nat} {S : Sc} {M : Nat → Nat → Int32} {J : Nat → Nat → Int64} {x : Int32} {B : Nat} (hM : MoS S) (hI : I2 B (M 139)) (hB : B < 1000000000) : Wp (d + 6) 161 [.ref 137, .int x] (S, M, J) (fun rs w' => ∃ v M', rs = .inl (some (.int v)) ∧ w' = (S, M', J) ∧ M' 137 0 = nI (aLasts (M 139) x).1 ∧ ((aLasts (M 139) x).1 = 0 → v = (aLasts (M 139) x).2) ∧ Jk M M') := by
  obtain ⟨⟨b137, p1, p8, p9, p10, p12, p13⟩, ⟨b138, b139, b140, b141, b142, b143⟩, n138, n139, n140, n141, n142, n143⟩ := id hM
  refine ⟨rfl, ?_⟩
  refine EE.runN (stop := atPc [55]) 80 _ ?_
  refine ⟨⟨Nat.le_of_ble_eq_true rfl, Nat.le_of_ble_eq_true rfl, Nat.le_of_ble_eq_true rfl⟩, _, T_mP, ?_⟩
  rintro _ _ ⟨rfl, rfl⟩
  refine ⟨Or.inl rfl, ?_⟩
  refine ⟨fun h1 => ?_, fun h1 => ?_⟩
  · refine ⟨by simp only [wI_1, wI_w, p1, p8, p9, p10, p12, p13, b137, b138, b139, b140, b141, b142, b143] <;> first | rfl | decide, ?_⟩
    refine ⟨by simp only [wI_1, wI_w, p1, p8, p9, p10, p12, p13, b137, b138, b139, b140, b141, b142, b143] <;> first | rfl | decide, (by simp only [wI_1, wI_w, p1, p8, p9, p10, p12, p13, n138, n139, n140, n141, n142, n143]; exact vp_in_nI (show 3 < 114 by omega) (by omega)), ?_⟩
    refine ⟨fun h2 => ?_, fun h2 => ?_⟩
    · refine ⟨⟨Nat.le_of_ble_eq_true rfl, Nat.le_of_ble_eq_true rfl, Nat.le_of_ble_eq_true rfl⟩, by simp only [wI_1, wI_w, p1, p8, p9, p10, p12, p13, b137, b138, b139, b140, b141, b142, b143] <;> first | rfl | decide, _, T_refused (x := 0) hM, ?_⟩
      rintro _ w1 ⟨rfl, hw⟩
      have hw : w1 = (S, setQ M 0 0, J) := hw
      subst hw
      refine ⟨Or.inl rfl, ?_⟩
      refine ⟨fun h3 => ?_, fun h3 => ?_⟩
      · refine ⟨⟨Nat.le_of_ble_eq_true rfl, Nat.le_of_ble_eq_true rfl, Nat.le_of_ble_eq_true rfl⟩, by simp only [wI_1, wI_w, p1, p8, p9, p10, p12, p13, b137, b138, b139, b140, b141, b142, b143] <;> first | rfl | decide, _, T_begin hM, ?_⟩
        rintro _ w1 ⟨rfl, hw⟩
        have hw : w1 = (S, upA (setQ M 0 0) 140 (va_cpy (M 139) (M 140) 0 0 114), J) := by rw [hw]; unfold mBegin; rw [q139, q140]
        subst hw
        refine ⟨Or.inl rfl, ?_⟩
        refine ⟨by simp only [wI_1, wI_w, p1, p8, p9, p10, p12, p13, b137, b138, b139, b140, b141, b142, b143] <;> first | rfl | decide, ?_⟩
        refine ⟨by simp only [wI_1, wI_w, p1, p8, p9, p10, p12, p13, b137, b138, b139, b140, b141, b142, b143] <;> first | rfl | decide, (by simp only [wI_1, wI_w, p1, p8, p9, p10, p12, p13, n138, n139, n140, n141, n142, n143]; exact vp_in_nI (show 1 < 114 by omega) (by omega)), ?_⟩
        refine ⟨by simp only [wI_1, wI_w, p1, p8, p9, p10, p12, p13, b137, b138, b139, b140, b141, b142, b143] <;> first | rfl | decide, ?_⟩
        refine ⟨by simp only [wI_1, wI_w, p1, p8, p9, p10, p12, p13, b137, b138, b139, b140, b141, b142, b143] <;> first | rfl | decide, (by simp only [wI_1, wI_w, p1, p8, p9, p10, p12, p13, n138, n139, n140, n141, n142, n143]; exact vp_in_nI (show 10 < 114 by omega) (by omega)), ?_⟩
        have g1_ := h1
        have g2_ := h2
        simp only [wI_M, wI_1, wI_w, wI_1, wI_w, p1, p8, p9, p10, p12, p13, q139, q140, q138, q141, q142, q143, bI_e0, Classical.not_not, tk_0, tk_1, tk_2, tk_3, tk_4, tk_5, tk_6, tk_7, tk_8, tk_9, tk_10, tk_11, tk_12, tk_13, tk_14, tk_15, tk_16, tk_17] at g1_ g2_
        obtain ⟨q, hq1, hq, hx⟩ := in_nat1 (k := 99) rfl (by omega) g1_
        have hI2 : Inv (B + 0) (upd (upd (va_cpy (M 139) (M 140) 0 0 114) 1 x) 10 0) := by rw [hx]; exact cut0_I (step_I ((cpy_rp _).I2 hI.cnt.2 hI.cnt.1 hI).1 hq1 hq)
        have h31 : M 139 3 = 1 := hI.1.2.1.1.resolve_left g2_
        have hv : vLasts (upd (upd (va_cpy (M 139) (M 140) 0 0 114) 1 x) 10 0) = vLasts (upd (upd (M 139) 1 x) 10 0) := vLasts_rp (((cpy_rp 12).set (by omega)).set (by omega)) hI.1.1
        refine ee_at (nt := nzT 161) [(0, .ref 137), (1, .int x), (2, .int (nI 0))] (S, upA (setQ M 0 0) 140 (upd (upd (va_cpy (M 139) (M 140) 0 0 114) 1 x) 10 0), J) rfl rfl (by simp only [wI_M, wI_w, wI_1, wI_w, p1, p8, p9, p10, p12, p13, tk_0, tk_1, tk_2, tk_3, tk_4, tk_5, tk_6, tk_7, tk_8, tk_9, tk_10, tk_11, tk_12, tk_13, tk_14, tk_15, tk_16, tk_17, upA_s, upA_uu, q139, q140]) ?_
        refine L_lasts hM 9999 0 _ B (by omega) hI2 (by omega) ((pk_un (by omega)).trans ((pk_un (by omega)).trans ((cpy_at (by omega)).trans h31))) pk_us ?_
        refine ⟨_, _, rfl, rfl, ?_, ?_, (Jk_Q M (by omega)).tr (Jk_140 _ _)⟩
        · unfold aLasts; rw [if_pos g1_, if_neg g2_, upA_n _ _ (by omega)]; exact setQ_s
        · unfold aLasts; rw [if_pos g1_, if_neg g2_]; intro _; exact hv
      · exact absurd h3 (by decide)
    · refine ⟨⟨Nat.le_of_ble_eq_true rfl, Nat.le_of_ble_eq_true rfl, Nat.le_of_ble_eq_true rfl⟩, by simp only [wI_1, wI_w, p1, p8, p9, p10, p12, p13, b137, b138, b139, b140, b141, b142, b143] <;> first | rfl | decide, _, T_refused (x := 2) hM, ?_⟩
      rintro _ w1 ⟨rfl, hw⟩
      have hw : w1 = (S, setQ M 0 2, J) := hw
      subst hw
      refine ⟨Or.inl rfl, ?_⟩
      refine ⟨fun h4 => ?_, fun h4 => ?_⟩
      · exact absurd h4 (by decide)
      · (try simp only [wI_M, wI_1, wI_w, wI_1, wI_w, p1, p8, p9, p10, p12, p13, q139, q140, q138, q141, q142, q143, bI_e0, Classical.not_not, tk_0, tk_1, tk_2, tk_3, tk_4, tk_5, tk_6, tk_7, tk_8, tk_9, tk_10, tk_11, tk_12, tk_13, tk_14, tk_15, tk_16, tk_17] at h1)
        (try simp only [wI_M, wI_1, wI_w, wI_1, wI_w, p1, p8, p9, p10, p12, p13, q139, q140, q138, q141, q142, q143, bI_e0, Classical.not_not, tk_0, tk_1, tk_2, tk_3, tk_4, tk_5, tk_6, tk_7, tk_8, tk_9, tk_10, tk_11, tk_12, tk_13, tk_14, tk_15, tk_16, tk_17] at h2)
        refine ⟨⟨Nat.zero_le _, Nat.zero_le _⟩, _, _, rfl, rfl, ?_, ?_, Jk_Q M (by omega)⟩
        · unfold aLasts; rw [if_pos h1, if_pos h2]; exact setQ_s
        · unfold aLasts; rw [if_pos h1, if_pos h2]; intro h_; exact absurd h_ (by decide)
  · refine ⟨⟨Nat.le_of_ble_eq_true rfl, Nat.le_of_ble_eq_true rfl, Nat.le_of_ble_eq_true rfl⟩, by simp only [wI_1, wI_w, p1, p8, p9, p10, p12, p13, b137, b138, b139, b140, b141, b142, b143] <;> first | rfl | decide, _, T_refused (x := 1) hM, ?_⟩
    rintro _ w1 ⟨rfl, hw⟩
    have hw : w1 = (S, setQ M 0 1, J) := hw
    subst hw
    refine ⟨Or.inl rfl, ?_⟩
    refine ⟨fun h5 => ?_, fun h5 => ?_⟩
    · exact absurd h5 (by decide)
    · (try simp only [wI_M, wI_1, wI_w, wI_1, wI_w, p1, p8, p9, p10, p12, p13, q139, q140, q138, q141, q142, q143, bI_e0, Classical.not_not, tk_0, tk_1, tk_2, tk_3, tk_4, tk_5, tk_6, tk_7, tk_8, tk_9, tk_10, tk_11, tk_12, tk_13, tk_14, tk_15, tk_16, tk_17] at h1)
      refine ⟨⟨Nat.zero_le _, Nat.zero_le _⟩, _, _, rfl, rfl, ?_, ?_, Jk_Q M (by omega)⟩
      · unfold aLasts; rw [if_neg h1]; exact setQ_s
      · unfold aLasts; rw [if_neg h1]; intro h_; exact absurd h_ (by decide)
