/-! THE REFERENCE: storing the distance: written by wip/whole/pure2.py -/
/-- three writes; whether the power stays on -/
def rW3 (ρ : Rw) (s : Nat) (vain : Int32) : Rw × Bool :=
  if ρ 10 = 1 then (rWr ρ s 0 (ρ 4) vain, false)
  else if rWr ρ s 0 (ρ 4) vain 10 = 1 then (rWr (rWr ρ s 0 (ρ 4) vain) s 1 (rWr ρ s 0 (ρ 4) vain 4) vain, false)
  else if rWr (rWr ρ s 0 (ρ 4) vain) s 1 (rWr ρ s 0 (ρ 4) vain 4) vain 10 = 1 then (rWr (rWr (rWr ρ s 0 (ρ 4) vain) s 1 (rWr ρ s 0 (ρ 4) vain 4) vain) s 2 (rWr (rWr ρ s 0 (ρ 4) vain) s 1 (rWr ρ s 0 (ρ 4) vain 4) vain 4) vain, false)
  else (rWr (rWr (rWr ρ s 0 (ρ 4) vain) s 1 (rWr ρ s 0 (ρ 4) vain 4) vain) s 2 (rWr (rWr ρ s 0 (ρ 4) vain) s 1 (rWr ρ s 0 (ρ 4) vain 4) vain 4) vain, true)
def rSt (n cur : Nat) : Nat → Nat → Rw → Rw
  | 0, _, ρ => upd ρ 12 1
  | f + 1, vain, ρ => if (rW3 ρ ((cur + 1 + vain) % n) (nI vain)).2 = false then (rW3 ρ ((cur + 1 + vain) % n) (nI vain)).1
    else if rSays (rW3 ρ ((cur + 1 + vain) % n) (nI vain)).1 ((cur + 1 + vain) % n) = (rW3 ρ ((cur + 1 + vain) % n) (nI vain)).1 4 then upd (upd (rW3 ρ ((cur + 1 + vain) % n) (nI vain)).1 7 (nI ((cur + 1 + vain) % n))) 6 (upd (rW3 ρ ((cur + 1 + vain) % n) (nI vain)).1 7 (nI ((cur + 1 + vain) % n)) 4)
    else rSt n cur f (vain + 1) (rW3 ρ ((cur + 1 + vain) % n) (nI vain)).1
theorem rWr_keep {ρ : Rw} {s i : Nat} {v vain : Int32} {k : Nat} (h : k = 0 ∨ k = 1 ∨ k = 2 ∨ k = 4 ∨ k = 5 ∨ k = 6 ∨ k = 7 ∨ (17 ≤ k ∧ k < 42)) : rWr ρ s i v vain k = ρ k := by
  have h1 : k ≠ 42 + 2 * (3 * s + i) := by omega
  have h2 : k ≠ 43 + 2 * (3 * s + i) := by omega
  have h3 : k ≠ 8 ∧ k ≠ 10 ∧ k ≠ 3 ∧ k ≠ 12 ∧ k ≠ 11 ∧ k ≠ 9 ∧ k ≠ 13 ∧ k ≠ 14 ∧ k ≠ 15 ∧ k ≠ 16 := by omega
  obtain ⟨a1, a2, a3, a4, a5, a6, a7, a8, a9, a10⟩ := h3
  unfold rWr rOff rPut rCut
  split <;> (repeat' split) <;> simp [upd, h1, h2, a1, a2, a3, a4, a5, a6, a7, a8, a9, a10]
theorem rW3_keep {ρ : Rw} {s : Nat} {vain : Int32} {k : Nat} (h : k = 0 ∨ k = 1 ∨ k = 2 ∨ k = 4 ∨ k = 5 ∨ k = 6 ∨ k = 7 ∨ (17 ≤ k ∧ k < 42)) : (rW3 ρ s vain).1 k = ρ k := by
  unfold rW3
  (repeat' split) <;> simp only [rWr_keep h]
theorem i_slot {n cur vain : Nat} (hn : 0 < n) (hb : n < 1000) (hc : cur < 1000) (hv : vain < 1000) : nI cur + 1 + nI vain - (nI cur + 1 + nI vain) / nI n * nI n = nI ((cur + 1 + vain) % n) := by
  rw [nI_1, nI_add, pk_rem (by omega) hn (by omega)]
set_option maxHeartbeats 4000000 in
theorem L_store {d : Nat} {Q : Res → Wd → Prop} {S : Sc} {M : Nat → Nat → Int32} {J : Nat → Nat → Int64} {r n cur : Nat} (hR : RowS S r) (hn3 : 3 ≤ n) (hn : n ≤ 12) (hcur : cur < n) : ∀ (f vain : Nat) (ρ : Rw), vain + f + 1 = n → ρ 0 = nI n → ρ 7 = nI cur → Q (.inl none) (S, upA M r (rSt n cur f vain ρ), J) → EE (SJ (d + 4) 112 (Wp (d + 3)) Q) (2, [(0, .ref r), (1, .int (nI vain))], [], (S, upA M r ρ, J), 0, 0) := by
  intro f
  induction f with
  | zero =>
    intro vain ρ hf z0 z7 hQ
    have hn1 : nI n - 1 = nI (n - 1) := by rw [show (1 : Int32) = nI 1 from rfl, pk_sub (by omega)]
    refine EE.runN (stop := atPc [2, 26]) 80 _ ?_
    refine ⟨by exact hR.1, hR.vp (k := 0) (by omega), ?_⟩
    refine ⟨fun h1 => ?_, fun h1 => ?_⟩
    · refine ⟨by exact hR.1, hR.vp (k := 12) (by omega), ?_⟩
      refine ⟨⟨Nat.zero_le _, Nat.zero_le _⟩, ?_⟩
      show Q (.inl none) (S, upA (upA M r ρ) r (upd (upA M r ρ r) 12 1), J)
      rw [upA_s, upA_uu]
      exact hQ
    · refine absurd ?_ h1
      show upA M r ρ r 0 - 1 ≤ nI vain
      rw [upA_s, z0, hn1]
      exact nI_le (by omega) (by omega)
  | succ f ih =>
    intro vain ρ hf z0 z7 hQ
    have hn1 : nI n - 1 = nI (n - 1) := by rw [show (1 : Int32) = nI 1 from rfl, pk_sub (by omega)]
    have hslot : upA M r ρ r 7 + 1 + nI vain - (upA M r ρ r 7 + 1 + nI vain) / (upA M r ρ r 0) * (upA M r ρ r 0) = nI ((cur + 1 + vain) % n) := by rw [upA_s, z0, z7]; exact i_slot (by omega) (by omega) (by omega) (by omega)
    have hsl : ((cur + 1 + vain) % n) < 12 := Nat.lt_of_lt_of_le (Nat.mod_lt _ (by omega)) hn
    refine EE.runN (stop := atPc [2, 26]) 80 _ ?_
    refine ⟨by first | exact hR.1 | (show ¬ upA M r ρ r 0 = 0; rw [upA_s, z0]; exact nI_ne0 (by omega) (by omega)), hR.vp (k := 0) (by omega), ?_⟩
    refine ⟨fun h1 => ?_, fun h1 => ?_⟩
    · refine absurd (show upA M r ρ r 0 - 1 ≤ nI vain from h1) ?_
      rw [upA_s, z0, hn1]
      exact nI_ge (by omega) (by omega)
    · refine ⟨by first | exact hR.1 | (show ¬ upA M r ρ r 0 = 0; rw [upA_s, z0]; exact nI_ne0 (by omega) (by omega)), hR.vp (k := 7) (by omega), ?_⟩
      refine ⟨by first | exact hR.1 | (show ¬ upA M r ρ r 0 = 0; rw [upA_s, z0]; exact nI_ne0 (by omega) (by omega)), hR.vp (k := 0) (by omega), ?_⟩
      refine ⟨by first | decide | first | exact hR.1 | (show ¬ upA M r ρ r 0 = 0; rw [upA_s, z0]; exact nI_ne0 (by omega) (by omega)), ?_⟩
      refine EE.nz (nt := nzT 112) (ls' := [(0, .ref r), (1, .int (nI vain)), (2, .int (nI ((cur + 1 + vain) % n))), (3, .int 0)]) rfl (by rw [← hslot]; rfl) ?_
      refine EE.runN (stop := atPc [2, 26]) 80 _ ?_
      refine ⟨fun h2 => ?_, fun h2 => ?_⟩
      · exact absurd h2 (by decide)
      · refine ⟨by first | exact hR.1 | (show ¬ upA M r ρ r 0 = 0; rw [upA_s, z0]; exact nI_ne0 (by omega) (by omega)), hR.vp (k := 4) (by omega), ?_⟩
        refine ⟨⟨Nat.le_of_ble_eq_true rfl, Nat.le_of_ble_eq_true rfl, Nat.le_of_ble_eq_true rfl⟩, _, T_writes (s := ((cur + 1 + vain) % n)) (i := 0) hR hsl (by omega), ?_⟩
        rintro _ w1 ⟨rfl, hw⟩
        simp only [upA_s, upA_uu, tk_4] at hw
        subst hw
        refine ⟨Or.inl rfl, ?_⟩
        refine ⟨fun h3 => ?_, fun h3 => ?_⟩
        · refine EE.nz (nt := nzT 112) (ls' := [(0, .ref r), (1, .int (nI vain)), (2, .int (nI ((cur + 1 + vain) % n))), (3, .int 1)]) rfl rfl ?_
          refine EE.runN (stop := atPc [2, 26]) 80 _ ?_
          refine ⟨fun h4 => ?_, fun h4 => ?_⟩
          · exact absurd h4 (by decide)
          · refine ⟨by first | exact hR.1 | (show ¬ upA M r ρ r 0 = 0; rw [upA_s, z0]; exact nI_ne0 (by omega) (by omega)), hR.vp (k := 4) (by omega), ?_⟩
            refine ⟨⟨Nat.le_of_ble_eq_true rfl, Nat.le_of_ble_eq_true rfl, Nat.le_of_ble_eq_true rfl⟩, _, T_writes (s := ((cur + 1 + vain) % n)) (i := 1) hR hsl (by omega), ?_⟩
            rintro _ w1 ⟨rfl, hw⟩
            simp only [upA_s, upA_uu, tk_4] at hw
            subst hw
            refine ⟨Or.inl rfl, ?_⟩
            refine ⟨fun h5 => ?_, fun h5 => ?_⟩
            · refine EE.nz (nt := nzT 112) (ls' := [(0, .ref r), (1, .int (nI vain)), (2, .int (nI ((cur + 1 + vain) % n))), (3, .int 2)]) rfl rfl ?_
              refine EE.runN (stop := atPc [2, 26]) 80 _ ?_
              refine ⟨fun h6 => ?_, fun h6 => ?_⟩
              · exact absurd h6 (by decide)
              · refine ⟨by first | exact hR.1 | (show ¬ upA M r ρ r 0 = 0; rw [upA_s, z0]; exact nI_ne0 (by omega) (by omega)), hR.vp (k := 4) (by omega), ?_⟩
                refine ⟨⟨Nat.le_of_ble_eq_true rfl, Nat.le_of_ble_eq_true rfl, Nat.le_of_ble_eq_true rfl⟩, _, T_writes (s := ((cur + 1 + vain) % n)) (i := 2) hR hsl (by omega), ?_⟩
                rintro _ w1 ⟨rfl, hw⟩
                simp only [upA_s, upA_uu, tk_4] at hw
                subst hw
                refine ⟨Or.inl rfl, ?_⟩
                refine ⟨fun h7 => ?_, fun h7 => ?_⟩
                · refine EE.nz (nt := nzT 112) (ls' := [(0, .ref r), (1, .int (nI vain)), (2, .int (nI ((cur + 1 + vain) % n))), (3, .int 3)]) rfl rfl ?_
                  refine EE.runN (stop := atPc [2, 26]) 80 _ ?_
                  refine ⟨fun h8 => ?_, fun h8 => ?_⟩
                  · refine ⟨⟨Nat.le_of_ble_eq_true rfl, Nat.le_of_ble_eq_true rfl, Nat.le_of_ble_eq_true rfl⟩, _, T_saysOf (s := ((cur + 1 + vain) % n)) hR hsl, ?_⟩
                    rintro _ w1 ⟨rfl, rfl⟩
                    refine ⟨Or.inl rfl, ?_⟩
                    refine ⟨by first | exact hR.1 | (show ¬ upA M r ρ r 0 = 0; rw [upA_s, z0]; exact nI_ne0 (by omega) (by omega)), hR.vp (k := 4) (by omega), ?_⟩
                    refine ⟨fun h9 => ?_, fun h9 => ?_⟩
                    · simp only [upA_s, upA_uu, tk_0, tk_4, tk_6, tk_7, tk_10, tk_12, bI_e0, Classical.not_not] at h1 h2 h3 h4 h5 h6 h7 h8 h9
                      refine EE.nz (nt := nzT 112) (ls' := [(0, .ref r), (1, .int (nI (vain + 1)))]) rfl (by rw [← nI_1 vain]; rfl) ?_
                      have e3 : (rW3 ρ ((cur + 1 + vain) % n) (nI vain)) = ((rWr (rWr (rWr ρ ((cur + 1 + vain) % n) 0 (ρ 4) (nI vain)) ((cur + 1 + vain) % n) 1 ((rWr ρ ((cur + 1 + vain) % n) 0 (ρ 4) (nI vain)) 4) (nI vain)) ((cur + 1 + vain) % n) 2 ((rWr (rWr ρ ((cur + 1 + vain) % n) 0 (ρ 4) (nI vain)) ((cur + 1 + vain) % n) 1 ((rWr ρ ((cur + 1 + vain) % n) 0 (ρ 4) (nI vain)) 4) (nI vain)) 4) (nI vain)), true) := by unfold rW3; simp [h1, h2, h3, h4, h5, h6, h7, h8, h9]
                      refine ih (vain + 1) (rWr (rWr (rWr ρ ((cur + 1 + vain) % n) 0 (ρ 4) (nI vain)) ((cur + 1 + vain) % n) 1 ((rWr ρ ((cur + 1 + vain) % n) 0 (ρ 4) (nI vain)) 4) (nI vain)) ((cur + 1 + vain) % n) 2 ((rWr (rWr ρ ((cur + 1 + vain) % n) 0 (ρ 4) (nI vain)) ((cur + 1 + vain) % n) 1 ((rWr ρ ((cur + 1 + vain) % n) 0 (ρ 4) (nI vain)) 4) (nI vain)) 4) (nI vain)) (by omega) (by rw [rWr_keep (by omega), rWr_keep (by omega), rWr_keep (by omega)]; exact z0) (by rw [rWr_keep (by omega), rWr_keep (by omega), rWr_keep (by omega)]; exact z7) ?_
                      refine (congrArg (fun ρ9 => Q (.inl none) (S, upA M r ρ9, J)) ?_).mp hQ
                      rw [rSt, e3]
                      simp [h1, h2, h3, h4, h5, h6, h7, h8, h9]
                    · refine ⟨by first | exact hR.1 | (show ¬ upA M r ρ r 0 = 0; rw [upA_s, z0]; exact nI_ne0 (by omega) (by omega)), hR.vp (k := 7) (by omega), ?_⟩
                      refine ⟨by first | exact hR.1 | (show ¬ upA M r ρ r 0 = 0; rw [upA_s, z0]; exact nI_ne0 (by omega) (by omega)), hR.vp (k := 4) (by omega), ?_⟩
                      refine ⟨by first | exact hR.1 | (show ¬ upA M r ρ r 0 = 0; rw [upA_s, z0]; exact nI_ne0 (by omega) (by omega)), hR.vp (k := 6) (by omega), ?_⟩
                      simp only [upA_s, upA_uu, tk_0, tk_4, tk_6, tk_7, tk_10, tk_12, bI_e0, Classical.not_not] at h1 h2 h3 h4 h5 h6 h7 h8 h9
                      refine ⟨⟨Nat.zero_le _, Nat.zero_le _⟩, ?_⟩
                      show Q (.inl none) _
                      refine (congrArg (Q (.inl none)) ?_).mp hQ
                      show (S, _, J) = (S, _, J)
                      refine congrArg (fun m => (S, m, J)) ?_
                      try simp only [wI_M, wI_1, upA_s, upA_uu, tk_0, tk_4, tk_6, tk_7, tk_10, tk_12]
                      refine congrArg (upA M r) ?_
                      unfold rSt rW3
                      simp [h1, h2, h3, h4, h5, h6, h7, h8, h9]
                  · exact absurd h8 (by decide)
                · simp only [upA_s, upA_uu, tk_0, tk_4, tk_6, tk_7, tk_10, tk_12, bI_e0, Classical.not_not] at h1 h2 h3 h4 h5 h6 h7
                  refine ⟨⟨Nat.zero_le _, Nat.zero_le _⟩, ?_⟩
                  show Q (.inl none) _
                  refine (congrArg (Q (.inl none)) ?_).mp hQ
                  show (S, _, J) = (S, _, J)
                  refine congrArg (fun m => (S, m, J)) ?_
                  try simp only [wI_M, wI_1, upA_s, upA_uu, tk_0, tk_4, tk_6, tk_7, tk_10, tk_12]
                  refine congrArg (upA M r) ?_
                  unfold rSt rW3
                  simp [h1, h2, h3, h4, h5, h6, h7]
            · simp only [upA_s, upA_uu, tk_0, tk_4, tk_6, tk_7, tk_10, tk_12, bI_e0, Classical.not_not] at h1 h2 h3 h4 h5
              refine ⟨⟨Nat.zero_le _, Nat.zero_le _⟩, ?_⟩
              show Q (.inl none) _
              refine (congrArg (Q (.inl none)) ?_).mp hQ
              show (S, _, J) = (S, _, J)
              refine congrArg (fun m => (S, m, J)) ?_
              try simp only [wI_M, wI_1, upA_s, upA_uu, tk_0, tk_4, tk_6, tk_7, tk_10, tk_12]
              refine congrArg (upA M r) ?_
              unfold rSt rW3
              simp [h1, h2, h3, h4, h5]
        · simp only [upA_s, upA_uu, tk_0, tk_4, tk_6, tk_7, tk_10, tk_12, bI_e0, Classical.not_not] at h1 h2 h3
          refine ⟨⟨Nat.zero_le _, Nat.zero_le _⟩, ?_⟩
          show Q (.inl none) _
          refine (congrArg (Q (.inl none)) ?_).mp hQ
          show (S, _, J) = (S, _, J)
          refine congrArg (fun m => (S, m, J)) ?_
          try simp only [wI_M, wI_1, upA_s, upA_uu, tk_0, tk_4, tk_6, tk_7, tk_10, tk_12]
          refine congrArg (upA M r) ?_
          unfold rSt rW3
          simp [h1, h2, h3]
/-- storing the distance -/
def rStore (ρ : Rw) : Rw := rSt (ρ 0).toNatClampNeg (ρ 7).toNatClampNeg ((ρ 0).toNatClampNeg - 1) 0 ρ
theorem T_store {d : Nat} {S : Sc} {M : Nat → Nat → Int32} {J : Nat → Nat → Int64} {r n cur : Nat} (hR : RowS S r) (hn3 : 3 ≤ n) (hn : n ≤ 12) (hcur : cur < n) (h0 : M r 0 = nI n) (h7 : M r 7 = nI cur) : Wp (d + 4) 112 [.ref r] (S, M, J) (fun rs w' => rs = .inl none ∧ w' = (S, upA M r (rStore (M r)), J)) := by
  refine ⟨rfl, ?_⟩
  refine EE.runN (stop := atPc [2]) 2 _ ?_
  refine EE.nz (nt := nzT 112) (ls' := [(0, .ref r), (1, .int (nI 0))]) rfl rfl ?_
  have e : rStore (M r) = rSt n cur (n - 1) 0 (M r) := by
    unfold rStore
    rw [h0, h7, ck (by omega), ck (by omega)]
  have := L_store (d := d) (Q := fun rs w' => rs = .inl none ∧ w' = (S, upA M r (rStore (M r)), J)) (S := S) (M := M) (J := J) hR hn3 hn hcur (n - 1) 0 (M r) (by omega) h0 h7 ⟨rfl, by rw [e]⟩
  rw [upA_id] at this
  exact this
