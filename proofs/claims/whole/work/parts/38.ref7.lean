/-! THE REFERENCE: driving, power, commands: written by wip/whole/pure3.py -/
theorem rSt_keep {n cur k : Nat} (h : k = 0 ∨ k = 1 ∨ k = 2 ∨ k = 4 ∨ k = 5 ∨ (17 ≤ k ∧ k < 42)) : ∀ (f vain : Nat) (ρ : Rw), rSt n cur f vain ρ k = ρ k
  | 0, vain, ρ => by
    unfold rSt
    rw [pk_un (by omega)]
  | f + 1, vain, ρ => by
    have hk := fun (ρ : Rw) (s : Nat) (v : Int32) => rW3_keep (ρ := ρ) (s := s) (vain := v) (k := k) (by omega)
    unfold rSt
    split
    · exact hk _ _ _
    · split
      · rw [pk_un (by omega), pk_un (by omega)]
        exact hk _ _ _
      · rw [rSt_keep h f]
        exact hk _ _ _
theorem rSt_7 {n cur : Nat} (hc : cur < n) : ∀ (f vain : Nat) (ρ : Rw), ρ 7 = nI cur → ∃ c, c < n ∧ rSt n cur f vain ρ 7 = nI c
  | 0, vain, ρ, h => ⟨cur, hc, by
    unfold rSt
    rw [pk_un (by omega)]
    exact h⟩
  | f + 1, vain, ρ, h => by
    have hk := fun (s : Nat) (v : Int32) => rW3_keep (ρ := ρ) (s := s) (vain := v) (k := 7) (by omega)
    unfold rSt
    split
    · exact ⟨cur, hc, (hk _ _).trans h⟩
    · split
      · exact ⟨_, Nat.mod_lt _ (by omega), by rw [pk_un (by omega), pk_us]⟩
      · exact rSt_7 hc f _ _ ((hk _ _).trans h)
/-- three to twelve slots, the current one among them -/
def Rok (ρ : Rw) : Prop := ∃ n cur, 3 ≤ n ∧ n ≤ 12 ∧ cur < n ∧ ρ 0 = nI n ∧ ρ 7 = nI cur
theorem rStore_keep {ρ : Rw} {k : Nat} (h : k = 0 ∨ k = 1 ∨ k = 2 ∨ k = 4 ∨ k = 5 ∨ (17 ≤ k ∧ k < 42)) : rStore ρ k = ρ k := rSt_keep h _ _ _
theorem rStore_ok {ρ : Rw} (h : Rok ρ) : Rok (rStore ρ) := by
  obtain ⟨n, cur, h3, h12, hc, h0, h7⟩ := h
  have e : rStore ρ = rSt n cur (n - 1) 0 ρ := by
    unfold rStore
    rw [h0, h7, ck (by omega), ck (by omega)]
  obtain ⟨c, hcn, hc7⟩ := rSt_7 hc (n - 1) 0 ρ h7
  exact ⟨n, c, h3, h12, hcn, (rStore_keep (Or.inl rfl)).trans h0, e ▸ hc7⟩
theorem Rok.cg {ρ ρ' : Rw} (h : Rok ρ) (h0 : ρ' 0 = ρ 0) (h7 : ρ' 7 = ρ 7) : Rok ρ' := by
  obtain ⟨n, cur, a, b, c, d, e⟩ := h
  exact ⟨n, cur, a, b, c, h0.trans d, h7.trans e⟩
theorem T_store' {d : Nat} {S : Sc} {M : Nat → Nat → Int32} {J : Nat → Nat → Int64} {r : Nat} (hR : RowS S r) (h : Rok (M r)) : Wp (d + 4) 112 [.ref r] (S, M, J) (fun rs w' => rs = .inl none ∧ w' = (S, upA M r (rStore (M r)), J)) := by
  obtain ⟨n, cur, h3, h12, hc, h0, h7⟩ := h
  exact T_store hR h3 h12 hc h0 h7
/-- a tenth -/
def rTick (ρ : Rw) : Rw := upd (upd ρ 5 (ρ 5 + 1)) 4 (ρ 4 + 1)
def rGo1 (ρ : Rw) : Rw := if ρ 12 = 0 then (if rTick ρ 4 < ρ 6 + ρ 1 then rTick ρ else rStore (rTick ρ)) else rTick ρ
theorem rTick_ok {ρ : Rw} (h : Rok ρ) : Rok (rTick ρ) := h.cg rfl rfl
theorem rGo1_ok {ρ : Rw} (h : Rok ρ) : Rok (rGo1 ρ) := by
  unfold rGo1
  split
  · split
    · exact rTick_ok h
    · exact rStore_ok (rTick_ok h)
  · exact rTick_ok h
def rGo : Nat → Rw → Rw
  | 0, ρ => ρ
  | f + 1, ρ => if ρ 3 = 1 then rGo f (rGo1 ρ) else ρ
def rGone : Nat → Rw → Nat
  | 0, _ => 0
  | f + 1, ρ => if ρ 3 = 1 then rGone f (rGo1 ρ) + 1 else 0
theorem rGo_ok : ∀ (f : Nat) {ρ : Rw}, Rok ρ → Rok (rGo f ρ)
  | 0, _, h => h
  | f + 1, ρ, h => by
    unfold rGo
    split
    · exact rGo_ok f (rGo1_ok h)
    · exact h
theorem rGone_le : ∀ (f : Nat) (ρ : Rw), rGone f ρ ≤ f
  | 0, _ => Nat.le_refl 0
  | f + 1, ρ => by
    unfold rGone
    split
    · have := rGone_le f (rGo1 ρ)
      omega
    · omega
set_option maxHeartbeats 2000000 in
theorem L_go {d : Nat} {Q : Res → Wd → Prop} {S : Sc} {M : Nat → Nat → Int32} {J : Nat → Nat → Int64} {r t : Nat} (hR : RowS S r) (ht : t < 1000000) : ∀ (f k : Nat) (ρ : Rw), k + f = t → Rok ρ → Q (.inl (some (.int (nI (k + rGone f ρ))))) (S, upA M r (rGo f ρ), J) → EE (SJ (d + 5) 113 (Wp (d + 4)) Q) (2, [(0, .ref r), (1, .int (nI t)), (2, .int (nI k))], [], (S, upA M r ρ, J), 0, 0) := by
  intro f
  induction f with
  | zero =>
    intro k ρ hk hok hQ
    refine EE.runN (stop := atPc [2]) 80 _ ?_
    refine ⟨fun h1 => ?_, fun h1 => ?_⟩
    · refine ⟨⟨Nat.zero_le _, Nat.zero_le _⟩, ?_⟩
      exact hQ
    · exact absurd (nI_le (show t ≤ k by omega) (by omega)) h1
  | succ f ih =>
    intro k ρ hk hok hQ
    have upd_n : ∀ (ρ : Rw) (x y : Int32), upd (upd ρ 5 x) 4 y 12 = ρ 12 := fun _ _ _ => rfl
    refine EE.runN (stop := atPc [2]) 80 _ ?_
    refine ⟨fun h1 => ?_, fun h1 => ?_⟩
    · exact absurd h1 (nI_ge (by omega) (by omega))
    · refine ⟨by exact hR.1, hR.vp (k := 3) (by omega), ?_⟩
      refine ⟨fun h2 => ?_, fun h2 => ?_⟩
      · simp only [wI_M, wI_1, upA_s, upA_uu, tk_0, tk_1, tk_2, tk_3, tk_4, tk_5, tk_6, tk_7, tk_8, tk_9, tk_10, tk_11, tk_12, tk_13, tk_14, tk_15, tk_16, tk_17] at h1 h2
        refine ⟨⟨Nat.zero_le _, Nat.zero_le _⟩, ?_⟩
        rw [rGo, rGone, if_neg h2, if_neg h2] at hQ
        exact hQ
      · refine ⟨by exact hR.1, hR.vp (k := 5) (by omega), ?_⟩
        refine ⟨by exact hR.1, hR.vp (k := 5) (by omega), ?_⟩
        refine ⟨by exact hR.1, hR.vp (k := 4) (by omega), ?_⟩
        refine ⟨by exact hR.1, hR.vp (k := 4) (by omega), ?_⟩
        refine ⟨by exact hR.1, hR.vp (k := 12) (by omega), ?_⟩
        refine ⟨fun h3 => ?_, fun h3 => ?_⟩
        · simp only [wI_M, wI_1, upA_s, upA_uu, tk_0, tk_1, tk_2, tk_3, tk_4, tk_5, tk_6, tk_7, tk_8, tk_9, tk_10, tk_11, tk_12, tk_13, tk_14, tk_15, tk_16, tk_17, upd_n] at h1 h2 h3
          refine ee_at (nt := nzT 113) [(0, .ref r), (1, .int (nI t)), (2, .int (nI (k + 1)))] (S, upA M r (rGo1 ρ), J) rfl (by rw [← nI_1 k]; rfl) ?_ (ih (k + 1) (rGo1 ρ) (by omega) (rGo1_ok hok) ?_)
          · show (S, _, J) = (S, _, J)
            try simp only [wI_M, wI_1, upA_s, upA_uu, tk_0, tk_1, tk_2, tk_3, tk_4, tk_5, tk_6, tk_7, tk_8, tk_9, tk_10, tk_11, tk_12, tk_13, tk_14, tk_15, tk_16, tk_17]
            refine congrArg (fun m => (S, upA M r m, J)) ?_
            unfold rGo1
            rw [if_neg (show ¬ ρ 12 = 0 from h3)]
            rfl
          · rw [rGo, rGone, if_pos h2, if_pos h2] at hQ
            rw [show k + 1 + rGone f (rGo1 ρ) = k + (rGone f (rGo1 ρ) + 1) by omega]
            exact hQ
        · refine ⟨by exact hR.1, hR.vp (k := 4) (by omega), ?_⟩
          refine ⟨by exact hR.1, hR.vp (k := 6) (by omega), ?_⟩
          refine ⟨by exact hR.1, hR.vp (k := 1) (by omega), ?_⟩
          refine ⟨fun h4 => ?_, fun h4 => ?_⟩
          · simp only [wI_M, wI_1, upA_s, upA_uu, tk_0, tk_1, tk_2, tk_3, tk_4, tk_5, tk_6, tk_7, tk_8, tk_9, tk_10, tk_11, tk_12, tk_13, tk_14, tk_15, tk_16, tk_17, upd_n] at h1 h2 h3 h4
            refine ee_at (nt := nzT 113) [(0, .ref r), (1, .int (nI t)), (2, .int (nI (k + 1)))] (S, upA M r (rGo1 ρ), J) rfl (by rw [← nI_1 k]; rfl) ?_ (ih (k + 1) (rGo1 ρ) (by omega) (rGo1_ok hok) ?_)
            · show (S, _, J) = (S, _, J)
              try simp only [wI_M, wI_1, upA_s, upA_uu, tk_0, tk_1, tk_2, tk_3, tk_4, tk_5, tk_6, tk_7, tk_8, tk_9, tk_10, tk_11, tk_12, tk_13, tk_14, tk_15, tk_16, tk_17]
              refine congrArg (fun m => (S, upA M r m, J)) ?_
              unfold rGo1
              rw [if_pos (show ρ 12 = 0 from h3)]
              first | rw [if_pos (show rTick ρ 4 < ρ 6 + ρ 1 from h4)] | rw [if_neg (show ¬ rTick ρ 4 < ρ 6 + ρ 1 from h4)]
              rfl
            · rw [rGo, rGone, if_pos h2, if_pos h2] at hQ
              rw [show k + 1 + rGone f (rGo1 ρ) = k + (rGone f (rGo1 ρ) + 1) by omega]
              exact hQ
          · refine ⟨⟨Nat.le_of_ble_eq_true rfl, Nat.le_of_ble_eq_true rfl, Nat.le_of_ble_eq_true rfl⟩, _, T_store' hR (by simp only [wI_M, upA_s, upA_uu]; exact rTick_ok hok), ?_⟩
            rintro _ _ ⟨rfl, rfl⟩
            refine ⟨Or.inl rfl, ?_⟩
            simp only [wI_M, wI_1, upA_s, upA_uu, tk_0, tk_1, tk_2, tk_3, tk_4, tk_5, tk_6, tk_7, tk_8, tk_9, tk_10, tk_11, tk_12, tk_13, tk_14, tk_15, tk_16, tk_17, upd_n] at h1 h2 h3 h4
            refine ee_at (nt := nzT 113) [(0, .ref r), (1, .int (nI t)), (2, .int (nI (k + 1)))] (S, upA M r (rGo1 ρ), J) rfl (by rw [← nI_1 k]; rfl) ?_ (ih (k + 1) (rGo1 ρ) (by omega) (rGo1_ok hok) ?_)
            · show (S, _, J) = (S, _, J)
              try simp only [wI_M, wI_1, upA_s, upA_uu, tk_0, tk_1, tk_2, tk_3, tk_4, tk_5, tk_6, tk_7, tk_8, tk_9, tk_10, tk_11, tk_12, tk_13, tk_14, tk_15, tk_16, tk_17]
              refine congrArg (fun m => (S, upA M r m, J)) ?_
              unfold rGo1
              rw [if_pos (show ρ 12 = 0 from h3)]
              first | rw [if_pos (show rTick ρ 4 < ρ 6 + ρ 1 from h4)] | rw [if_neg (show ¬ rTick ρ 4 < ρ 6 + ρ 1 from h4)]
              rfl
            · rw [rGo, rGone, if_pos h2, if_pos h2] at hQ
              rw [show k + 1 + rGone f (rGo1 ρ) = k + (rGone f (rGo1 ρ) + 1) by omega]
              exact hQ
theorem T_go {d : Nat} {S : Sc} {M : Nat → Nat → Int32} {J : Nat → Nat → Int64} {r t : Nat} (hR : RowS S r) (ht : t < 1000000) (hok : Rok (M r)) : Wp (d + 5) 113 [.ref r, .int (nI t)] (S, M, J) (fun rs w' => rs = .inl (some (.int (nI (rGone t (M r))))) ∧ w' = (S, upA M r (rGo t (M r)), J)) := by
  refine ⟨rfl, ?_⟩
  refine EE.runN (stop := atPc [2]) 2 _ ?_
  refine ee_at (nt := nzT 113) [(0, .ref r), (1, .int (nI t)), (2, .int (nI 0))] (S, upA M r (M r), J) rfl rfl (by rw [upA_id]) ?_
  refine L_go hR ht t 0 (M r) (by omega) hok ?_
  rw [Nat.zero_add]
  exact ⟨rfl, rfl⟩
/-- the first of the slots 0 to k that says the most -/
def rBest (ρ : Rw) : Nat → Nat
  | 0 => 0
  | k + 1 => if rSays ρ (k + 1) ≤ rSays ρ (rBest ρ k) then rBest ρ k else k + 1
theorem rBest_le (ρ : Rw) : ∀ k, rBest ρ k ≤ k
  | 0 => Nat.le_refl 0
  | k + 1 => by
    have := rBest_le ρ k
    unfold rBest
    split <;> omega
def rPow (ρ : Rw) (f : Nat) : Rw := upd (upd (upd (upd (upd ρ 7 (if rSays ρ f = -99999 then 0 else nI f)) 4 (if rSays ρ f = -99999 then 0 else rSays ρ f)) 6 (if rSays ρ f = -99999 then 0 else rSays ρ f)) 3 1) 12 0
def rPower (ρ : Rw) : Rw := rPow ρ (rBest ρ ((ρ 0).toNatClampNeg - 1))
theorem rPower_ok {ρ : Rw} (h : Rok ρ) : Rok (rPower ρ) := by
  obtain ⟨n, cur, a, b, c, h0, h7⟩ := h
  have e : rPower ρ 7 = if rSays ρ (rBest ρ ((ρ 0).toNatClampNeg - 1)) = -99999 then 0 else nI (rBest ρ ((ρ 0).toNatClampNeg - 1)) := rfl
  have hb := rBest_le ρ ((ρ 0).toNatClampNeg - 1)
  rw [h0, ck (by omega)] at hb e
  refine ⟨n, if rSays ρ (rBest ρ (n - 1)) = -99999 then 0 else rBest ρ (n - 1), a, b, ?_, h0, ?_⟩
  · split <;> omega
  · rw [e]
    split <;> rfl
set_option maxHeartbeats 1000000 in
theorem T_power {d : Nat} {S : Sc} {M : Nat → Nat → Int32} {J : Nat → Nat → Int64} {r : Nat} (hR : RowS S r) (hok : Rok (M r)) : Wp (d + 4) 114 [.ref r] (S, M, J) (fun rs w' => rs = .inl none ∧ w' = (S, upA M r (rPower (M r)), J)) := by
  obtain ⟨n, cur, h3_, h12, hc, h0, h7⟩ := hok
  refine ⟨rfl, ?_⟩
  refine EE.runN (stop := atPc [4]) 80 _ ?_
  refine ee_at (nt := nzT 114) [(0, .ref r), (1, .int (nI (rBest (M r) 0))), (2, .int (nI (0 + 1)))] (S, M, J) rfl (by rfl) (by rfl) ?_
  refine ee_loop (fun k => (4, [(0, .ref r), (1, .int (nI (rBest (M r) k))), (2, .int (nI (k + 1)))], [], (S, M, J), 0, 0)) (n - 1) (fun k h_k ih_k => ?_) ?_
  · refine EE.runN (stop := atPc [4]) 80 _ ?_
    refine ⟨by exact hR.1, hR.vp (k := 0) (by omega), ?_⟩
    refine ⟨fun h1 => ?_, fun h1 => ?_⟩
    · (simp only [tk_0, h0] at h1; exact absurd h1 (nI_ge (by omega) (by omega)))
    · refine ⟨⟨Nat.le_of_ble_eq_true rfl, Nat.le_of_ble_eq_true rfl, Nat.le_of_ble_eq_true rfl⟩, _, T_saysOf (s := k + 1) hR (by omega), ?_⟩
      rintro _ _ ⟨rfl, rfl⟩
      refine ⟨Or.inl rfl, ?_⟩
      refine ⟨⟨Nat.le_of_ble_eq_true rfl, Nat.le_of_ble_eq_true rfl, Nat.le_of_ble_eq_true rfl⟩, _, T_saysOf (s := rBest (M r) k) hR (by have := rBest_le (M r) k; omega), ?_⟩
      rintro _ _ ⟨rfl, rfl⟩
      refine ⟨Or.inl rfl, ?_⟩
      refine ⟨fun h2 => ?_, fun h2 => ?_⟩
      · refine ee_at (nt := nzT 114) [(0, .ref r), (1, .int (nI (rBest (M r) (k + 1)))), (2, .int (nI ((k + 1) + 1)))] (S, M, J) rfl (by rw [rBest, if_pos h2, ← nI_1 (k + 1)]; rfl) (by rfl) ?_
        exact ih_k
      · refine ee_at (nt := nzT 114) [(0, .ref r), (1, .int (nI (rBest (M r) (k + 1)))), (2, .int (nI ((k + 1) + 1)))] (S, M, J) rfl (by rw [rBest, if_neg h2, ← nI_1 (k + 1)]; rfl) (by rfl) ?_
        exact ih_k
  · refine EE.runN (stop := atPc [4]) 80 _ ?_
    refine ⟨by exact hR.1, hR.vp (k := 0) (by omega), ?_⟩
    refine ⟨fun h3 => ?_, fun h3 => ?_⟩
    · refine ⟨⟨Nat.le_of_ble_eq_true rfl, Nat.le_of_ble_eq_true rfl, Nat.le_of_ble_eq_true rfl⟩, _, T_saysOf (s := rBest (M r) (n - 1)) hR (by have := rBest_le (M r) (n - 1); omega), ?_⟩
      rintro _ _ ⟨rfl, rfl⟩
      refine ⟨Or.inl rfl, ?_⟩
      refine ⟨fun h4 => ?_, fun h4 => ?_⟩
      · refine ⟨by exact hR.1, hR.vp (k := 7) (by omega), ?_⟩
        refine ⟨fun h5 => ?_, fun h5 => ?_⟩
        · refine ⟨by exact hR.1, hR.vp (k := 4) (by omega), ?_⟩
          refine ⟨by exact hR.1, hR.vp (k := 4) (by omega), ?_⟩
          refine ⟨by exact hR.1, hR.vp (k := 6) (by omega), ?_⟩
          refine ⟨by exact hR.1, hR.vp (k := 3) (by omega), ?_⟩
          refine ⟨by exact hR.1, hR.vp (k := 12) (by omega), ?_⟩
          refine ⟨⟨Nat.zero_le _, Nat.zero_le _⟩, rfl, ?_⟩
          show (S, _, J) = (S, _, J)
          simp only [wI_M, wI_1, upA_s, upA_uu, tk_0, tk_1, tk_2, tk_3, tk_4, tk_5, tk_6, tk_7, tk_8, tk_9, tk_10, tk_11, tk_12, tk_13, tk_14, tk_15, tk_16, tk_17]
          refine congrArg (fun m => (S, upA M r m, J)) ?_
          unfold rPower rPow
          rw [h0, ck (by omega)]
          first | rw [if_neg h4, if_neg h4] | rw [if_pos h4, if_pos h4]
          rfl
        · first | exact absurd h5 h4 | exact absurd h4 h5
      · refine ⟨by exact hR.1, hR.vp (k := 7) (by omega), ?_⟩
        refine ⟨fun h6 => ?_, fun h6 => ?_⟩
        · first | exact absurd h6 h4 | exact absurd h4 h6
        · refine ⟨by exact hR.1, hR.vp (k := 4) (by omega), ?_⟩
          refine ⟨by exact hR.1, hR.vp (k := 4) (by omega), ?_⟩
          refine ⟨by exact hR.1, hR.vp (k := 6) (by omega), ?_⟩
          refine ⟨by exact hR.1, hR.vp (k := 3) (by omega), ?_⟩
          refine ⟨by exact hR.1, hR.vp (k := 12) (by omega), ?_⟩
          refine ⟨⟨Nat.zero_le _, Nat.zero_le _⟩, rfl, ?_⟩
          show (S, _, J) = (S, _, J)
          simp only [wI_M, wI_1, upA_s, upA_uu, tk_0, tk_1, tk_2, tk_3, tk_4, tk_5, tk_6, tk_7, tk_8, tk_9, tk_10, tk_11, tk_12, tk_13, tk_14, tk_15, tk_16, tk_17]
          refine congrArg (fun m => (S, upA M r m, J)) ?_
          unfold rPower rPow
          rw [h0, ck (by omega)]
          first | rw [if_neg h4, if_neg h4] | rw [if_pos h4, if_pos h4]
          rfl
    · (simp only [tk_0, h0] at h3; exact absurd (nI_le (by omega) (by omega)) h3)
