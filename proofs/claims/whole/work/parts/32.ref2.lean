/-! THE REFERENCE, loops over rows of numbers: written by wip/whole/pure2.py -/
theorem cpy_step {M : Nat → Nat → Int32} {f t fa ta k : Nat} (hne : f ≠ t ∨ ta ≤ fa) : upA (upA M t (va_cpy (M f) (M t) fa ta k)) t (upd (upA M t (va_cpy (M f) (M t) fa ta k) t) (ta + k) (upA M t (va_cpy (M f) (M t) fa ta k) f (fa + k))) = upA M t (va_cpy (M f) (M t) fa ta (k + 1)) := by
  have e : upA M t (va_cpy (M f) (M t) fa ta k) f (fa + k) = M f (fa + k) := by
    by_cases h : f = t
    · subst h
      rw [upA_s]
      unfold va_cpy
      rw [if_neg (by rcases hne with h | h
                     · exact absurd rfl h
                     · omega)]
    · rw [upA_n _ _ h]
  rw [e, upA_s]
  funext i
  by_cases hi : i = t
  · subst hi
    rw [upA_s, upA_s]
    funext q
    unfold upd va_cpy
    by_cases hq : q = ta + k
    · subst hq
      rw [if_pos rfl, if_pos (by omega)]
      congr 1
      omega
    · rw [if_neg hq]
      by_cases h2 : ta ≤ q ∧ q < ta + k
      · rw [if_pos h2, if_pos (by omega)]
      · rw [if_neg h2, if_neg (by omega)]
  · rw [upA_n _ _ hi, upA_n _ _ hi, upA_n _ _ hi]
theorem cpy_0 (M : Nat → Nat → Int32) (f t fa ta : Nat) : upA M t (va_cpy (M f) (M t) fa ta 0) = M := by
  funext i
  by_cases hi : i = t
  · subst hi
    rw [upA_s]
    funext q
    unfold va_cpy
    rw [if_neg (by omega)]
  · rw [upA_n _ _ hi]
set_option maxHeartbeats 1000000 in
theorem L_copy {d : Nat} {C : Cal} {Q : Res → Wd → Prop} {S : Sc} {M : Nat → Nat → Int32} {J : Nat → Nat → Int64} {f t fa ta n : Nat} (hf : S.2.1 f = 8) (ht : S.2.1 t = 8) (hfl : fa + n ≤ S.2.2.1 f) (htl : ta + n ≤ S.2.2.1 t) (hfm : S.2.2.1 f < 2147483648) (htm : S.2.2.1 t < 2147483648) (hne : f ≠ t ∨ ta ≤ fa) (hQ : Q (.inl none) (S, upA M t (va_cpy (M f) (M t) fa ta n), J)) :
    ∀ m k, k + m = n → EE (SJ d 101 C Q) (3, [(0, .ref f), (1, .int (nI fa)), (2, .ref t), (3, .int (nI ta)), (4, .int (nI n)), (5, .int (nI k))], [], (S, upA M t (va_cpy (M f) (M t) fa ta k), J), 0, 0) := by
  intro m
  induction m with
  | zero =>
    intro k hk
    have hk : k = n := by omega
    subst hk
    refine EE.runN (stop := atPc [3]) 40 _ ?_
    refine ⟨fun h1 => ?_, fun h1 => ?_⟩
    · exact ⟨⟨Nat.zero_le _, Nat.zero_le _⟩, hQ⟩
    · exact absurd (Int32.le_refl _) h1
  | succ m ih =>
    intro k hk
    refine EE.runN (stop := atPc [3]) 40 _ ?_
    refine ⟨fun h1 => ?_, fun h1 => ?_⟩
    · exact absurd h1 (nI_ge (by omega) (by omega))
    · refine ⟨by first | exact hf | exact ht, (by rw [nI_add]; first | exact vp_in_nI (show _ < S.2.2.1 f by omega) (by omega) | exact vp_in_nI (show _ < S.2.2.1 t by omega) (by omega)), ?_⟩
      refine ⟨by first | exact hf | exact ht, (by rw [nI_add]; first | exact vp_in_nI (show _ < S.2.2.1 f by omega) (by omega) | exact vp_in_nI (show _ < S.2.2.1 t by omega) (by omega)), ?_⟩
      refine EE.nz (nt := nzT 101) (ls' := [(0, .ref f), (1, .int (nI fa)), (2, .ref t), (3, .int (nI ta)), (4, .int (nI n)), (5, .int (nI (k + 1)))]) rfl (by rw [← nI_1 k]; rfl) ?_
      show EE _ (3, _, [], (S, upA (upA M t (va_cpy (M f) (M t) fa ta k)) t (upd (upA M t (va_cpy (M f) (M t) fa ta k) t) (nI ta + nI k).toNatClampNeg (upA M t (va_cpy (M f) (M t) fa ta k) f (nI fa + nI k).toNatClampNeg)), J), 0, 0)
      rw [nI_add, nI_add, ck (by omega), ck (by omega), cpy_step hne]
      exact ih (k + 1) (by omega)
theorem T_copy {d : Nat} {S : Sc} {M : Nat → Nat → Int32} {J : Nat → Nat → Int64} {f t fa ta n : Nat} (hf : S.2.1 f = 8) (ht : S.2.1 t = 8) (hfl : fa + n ≤ S.2.2.1 f) (htl : ta + n ≤ S.2.2.1 t) (hfm : S.2.2.1 f < 2147483648) (htm : S.2.2.1 t < 2147483648) (hne : f ≠ t ∨ ta ≤ fa) : Wp (d + 1) 101 [.ref f, .int (nI fa), .ref t, .int (nI ta), .int (nI n)] (S, M, J) (fun rs w' => rs = .inl none ∧ w' = (S, upA M t (va_cpy (M f) (M t) fa ta n), J)) := by
  refine ⟨rfl, ?_⟩
  refine EE.runN (stop := atPc [3]) 2 _ ?_
  refine EE.nz (nt := nzT 101) (ls' := [(0, .ref f), (1, .int (nI fa)), (2, .ref t), (3, .int (nI ta)), (4, .int (nI n)), (5, .int (nI 0))]) rfl rfl ?_
  have := L_copy (d := d + 1) (C := Wp d) (Q := fun rs w' => rs = .inl none ∧ w' = (S, upA M t (va_cpy (M f) (M t) fa ta n), J)) (S := S) (M := M) (J := J) hf ht hfl htl hfm htm hne ⟨rfl, rfl⟩ n 0 (by omega)
  rw [cpy_0] at this
  exact this
def rWear (ρ : Rw) (s : Nat) : Int32 := 0 + ρ (43 + 2 * (3 * s + 0)) + ρ (43 + 2 * (3 * s + 1)) + ρ (43 + 2 * (3 * s + 2))
set_option maxHeartbeats 1000000 in
theorem T_rWear {d : Nat} {S : Sc} {M : Nat → Nat → Int32} {J : Nat → Nat → Int64} {r s : Nat} (hR : RowS S r) (hs : s < 12) : Wp (d + 2) 109 [.ref r, .int (nI s)] (S, M, J) (fun rs w' => rs = .inl (some (.int (rWear (M r) s))) ∧ w' = (S, M, J)) := by
  have f0 : nI (42 + 2 * (3 * s + 0)) + 1 = nI (43 + 2 * (3 * s + 0)) := by rw [nI_1]; congr 1; omega
  have f1 : nI (42 + 2 * (3 * s + 1)) + 1 = nI (43 + 2 * (3 * s + 1)) := by rw [nI_1]; congr 1; omega
  have f2 : nI (42 + 2 * (3 * s + 2)) + 1 = nI (43 + 2 * (3 * s + 2)) := by rw [nI_1]; congr 1; omega
  have c0 := ck (k := 43 + 2 * (3 * s + 0)) (by omega)
  have c1 := ck (k := 43 + 2 * (3 * s + 1)) (by omega)
  have c2 := ck (k := 43 + 2 * (3 * s + 2)) (by omega)
  refine ⟨rfl, ?_⟩
  refine EE.runN (stop := atPc [4]) 60 _ ?_
  refine EE.nz (nt := nzT 109) (ls' := [(0, .ref r), (1, .int (nI s)), (2, .int (0)), (3, .int 0)]) rfl rfl ?_
  refine EE.runN (stop := atPc [4]) 80 _ ?_
  refine ⟨fun h1 => ?_, fun h1 => ?_⟩
  · exact absurd h1 (by decide)
  · refine ⟨⟨Nat.le_of_ble_eq_true rfl, Nat.le_of_ble_eq_true rfl, Nat.le_of_ble_eq_true rfl⟩, _, T_at (s := s) (i := 0), ?_⟩
    rintro _ _ ⟨rfl, rfl⟩
    refine ⟨Or.inl rfl, ?_⟩
    refine ⟨by exact hR.1, (by first | (rw [f0]; exact hR.vp (by omega)) | (rw [f1]; exact hR.vp (by omega)) | (rw [f2]; exact hR.vp (by omega))), ?_⟩
    refine EE.nz (nt := nzT 109) (ls' := [(0, .ref r), (1, .int (nI s)), (2, .int (0 + M r (nI (42 + 2 * (3 * s + 0)) + 1).toNatClampNeg)), (3, .int 1)]) rfl rfl ?_
    refine EE.runN (stop := atPc [4]) 80 _ ?_
    refine ⟨fun h2 => ?_, fun h2 => ?_⟩
    · exact absurd h2 (by decide)
    · refine ⟨⟨Nat.le_of_ble_eq_true rfl, Nat.le_of_ble_eq_true rfl, Nat.le_of_ble_eq_true rfl⟩, _, T_at (s := s) (i := 1), ?_⟩
      rintro _ _ ⟨rfl, rfl⟩
      refine ⟨Or.inl rfl, ?_⟩
      refine ⟨by exact hR.1, (by first | (rw [f0]; exact hR.vp (by omega)) | (rw [f1]; exact hR.vp (by omega)) | (rw [f2]; exact hR.vp (by omega))), ?_⟩
      refine EE.nz (nt := nzT 109) (ls' := [(0, .ref r), (1, .int (nI s)), (2, .int (0 + M r (nI (42 + 2 * (3 * s + 0)) + 1).toNatClampNeg + M r (nI (42 + 2 * (3 * s + 1)) + 1).toNatClampNeg)), (3, .int 2)]) rfl rfl ?_
      refine EE.runN (stop := atPc [4]) 80 _ ?_
      refine ⟨fun h3 => ?_, fun h3 => ?_⟩
      · exact absurd h3 (by decide)
      · refine ⟨⟨Nat.le_of_ble_eq_true rfl, Nat.le_of_ble_eq_true rfl, Nat.le_of_ble_eq_true rfl⟩, _, T_at (s := s) (i := 2), ?_⟩
        rintro _ _ ⟨rfl, rfl⟩
        refine ⟨Or.inl rfl, ?_⟩
        refine ⟨by exact hR.1, (by first | (rw [f0]; exact hR.vp (by omega)) | (rw [f1]; exact hR.vp (by omega)) | (rw [f2]; exact hR.vp (by omega))), ?_⟩
        refine EE.nz (nt := nzT 109) (ls' := [(0, .ref r), (1, .int (nI s)), (2, .int (0 + M r (nI (42 + 2 * (3 * s + 0)) + 1).toNatClampNeg + M r (nI (42 + 2 * (3 * s + 1)) + 1).toNatClampNeg + M r (nI (42 + 2 * (3 * s + 2)) + 1).toNatClampNeg)), (3, .int 3)]) rfl rfl ?_
        refine EE.runN (stop := atPc [4]) 80 _ ?_
        refine ⟨fun h4 => ?_, fun h4 => ?_⟩
        · refine ⟨⟨Nat.zero_le _, Nat.zero_le _⟩, ?_, rfl⟩
          rw [f0, f1, f2, c0, c1, c2]; rfl
        · exact absurd h4 (by decide)
