/-! THE OBJECTS ARE MADE: written by wip/whole/pure3.py -/
def alS (S : Sc) (k N : Nat) : Sc := (S.1 + 1, upA S.2.1 (S.1 + 1) k, upA S.2.2.1 (S.1 + 1) N, upA S.2.2.2 (S.1 + 1) (fun _ => 0))
def reS (S : Sc) (a k x : Nat) : Sc := (S.1, S.2.1, S.2.2.1, upA S.2.2.2 a (upA (S.2.2.2 a) k x))
def oS1 (S : Sc) : Sc := alS S 0 0
def oS2 (S : Sc) (b : Nat) : Sc := reS (alS (reS (alS (oS1 S) 8 36) (b + 1) 2 ((oS1 S).1 + 1)) 8 36) (b + 1) 3 ((oS1 S).1 + 2)
def oS3 (S : Sc) (b : Nat) : Sc := reS (oS2 S b) b 0 (b + 1)
def oS4 (S : Sc) (b : Nat) : Sc := alS (oS3 S b) 3 0
def oS5 (S : Sc) (b : Nat) : Sc := reS (alS (reS (alS (oS4 S b) 8 12) (b + 4) 1 ((oS4 S b).1 + 1)) 8 12) (b + 4) 2 ((oS4 S b).1 + 2)
def oS (S : Sc) (b : Nat) : Sc := reS (oS5 S b) b 1 (b + 4)
def zM (M : Nat → Nat → Int32) (a : Nat) : Nat → Nat → Int32 := upA M a (fun _ => 0)
def zJ (J : Nat → Nat → Int64) (a : Nat) : Nat → Nat → Int64 := upA J a (fun _ => 0)
theorem upA_e {α : Type} {f : Nat → α} {a j : Nat} {v : α} (h : j = a) : upA f a v j = v := by
  subst h
  exact upA_s _ _ _
theorem kO_0 : kO 0 = 0 := rfl
theorem kO_38 : kO 38 = 3 := rfl
theorem kO_20 : kO 20 = 2 := rfl
theorem kO_19 : kO 19 = 2 := rfl
theorem kO_48 : kO 48 = 4 := rfl
theorem kO_15 : kO 15 = 1 := rfl
theorem kO_53 : kO 53 = 5 := rfl
theorem kO_62 : kO 62 = 6 := rfl
theorem fs0 {n m : Nat} : ∀ v ∈ ([] : List Value), ∀ x, v = .ref x → x ≤ n ∨ m < x := by
  intro v h
  cases h
theorem fs1 {n m b : Nat} {l : List Value} (hb : b ≤ n ∨ m < b) (h : ∀ v ∈ l, ∀ x, v = .ref x → x ≤ n ∨ m < x) : ∀ v ∈ (Value.ref b :: l), ∀ x, v = .ref x → x ≤ n ∨ m < x := by
  intro v hv x hx
  cases hv with
  | head => cases hx; exact hb
  | tail _ hv => exact h v hv x hx
theorem fs2 {n m : Nat} {y : Int32} {l : List Value} (h : ∀ v ∈ l, ∀ x, v = .ref x → x ≤ n ∨ m < x) : ∀ v ∈ (Value.int y :: l), ∀ x, v = .ref x → x ≤ n ∨ m < x := by
  intro v hv x hx
  cases hv with
  | head => cases hx
  | tail _ hv => exact h v hv x hx
theorem fl0 {n m : Nat} : ∀ q ∈ ([] : List (Nat × Value)), ∀ x, q.2 = .ref x → x ≤ n ∨ m < x := by
  intro v h
  cases h
theorem fl1 {n m b i : Nat} {l : List (Nat × Value)} (hb : b ≤ n ∨ m < b) (h : ∀ q ∈ l, ∀ x, q.2 = .ref x → x ≤ n ∨ m < x) : ∀ q ∈ ((i, Value.ref b) :: l), ∀ x, q.2 = .ref x → x ≤ n ∨ m < x := by
  intro v hv x hx
  cases hv with
  | head => cases hx; exact hb
  | tail _ hv => exact h v hv x hx
theorem fl2 {n m i : Nat} {y : Int32} {l : List (Nat × Value)} (h : ∀ q ∈ l, ∀ x, q.2 = .ref x → x ≤ n ∨ m < x) : ∀ q ∈ ((i, Value.int y) :: l), ∀ x, q.2 = .ref x → x ≤ n ∨ m < x := by
  intro v hv x hx
  cases hv with
  | head => cases hx
  | tail _ hv => exact h v hv x hx
set_option maxHeartbeats 1000000 in
theorem T_i0 {d : Nat} {S : Sc} {M : Nat → Nat → Int32} {J : Nat → Nat → Int64} {b : Nat} (hk : S.2.1 b = 0) (hb0 : 1 ≤ b) (hb : b ≤ S.1) (hn : S.1 < 900000) : Wp (d + 1) 0 [.ref b] (S, M, J) (fun rs w' => rs = .inl none ∧ w' = (reS (alS (reS (alS (S) 8 36) b 2 (S.1 + 1)) 8 36) b 3 (S.1 + 2), zM (zM (M) (S.1 + 1)) (S.1 + 2), zJ (zJ (J) (S.1 + 1)) (S.1 + 2))) := by
  refine ⟨rfl, ?_⟩
  refine EE.runN (stop := noStop) 80 _ ?_
  refine ⟨by (first | assumption | exact hk | (simp only [wAl, wR, alS, reS]; rw [upA_n _ _ (by omega)]; assumption) | (simp only [wAl, wR, alS, reS]; rw [upA_n _ _ (by omega), upA_n _ _ (by omega)]; assumption) | (simp only [wAl, wR, alS, reS]; exact upA_s _ _ _) | exact Nat.le_refl _ | (simp only [wAl, wR, alS, reS]; omega)  | decide), Nat.le_of_ble_eq_true rfl, ?_⟩
  refine ⟨⟨by decide, by decide, Nat.le_of_ble_eq_true rfl, Nat.le_of_ble_eq_true rfl, (by first | omega | (simp only [alS, reS, wR, wAl, wI, oS1, oS2, oS3, oS4, oS5, oS] <;> omega)), ⟨(fs1 (Or.inl (by first | omega | (simp only [alS, reS, wR, wAl, wI, oS1, oS2, oS3, oS4, oS5, oS] <;> omega))) fs0), (fl1 (Or.inl (by first | omega | (simp only [alS, reS, wR, wAl, wI, oS1, oS2, oS3, oS4, oS5, oS] <;> omega))) fl0)⟩⟩, ?_⟩
  refine ⟨by (first | assumption | exact hk | (simp only [wAl, wR, alS, reS]; rw [upA_n _ _ (by omega)]; assumption) | (simp only [wAl, wR, alS, reS]; rw [upA_n _ _ (by omega), upA_n _ _ (by omega)]; assumption) | (simp only [wAl, wR, alS, reS]; exact upA_s _ _ _) | exact Nat.le_refl _ | (simp only [wAl, wR, alS, reS]; omega)  | decide), by (first | assumption | exact hk | (simp only [wAl, wR, alS, reS]; rw [upA_n _ _ (by omega)]; assumption) | (simp only [wAl, wR, alS, reS]; rw [upA_n _ _ (by omega), upA_n _ _ (by omega)]; assumption) | (simp only [wAl, wR, alS, reS]; exact upA_s _ _ _) | exact Nat.le_refl _ | (simp only [wAl, wR, alS, reS]; omega)  | decide), ?_⟩
  refine ⟨⟨by decide, by decide, Nat.le_of_ble_eq_true rfl, Nat.le_of_ble_eq_true rfl, (by first | omega | (simp only [alS, reS, wR, wAl, wI, oS1, oS2, oS3, oS4, oS5, oS] <;> omega)), ⟨(fs1 (Or.inl (by first | omega | (simp only [alS, reS, wR, wAl, wI, oS1, oS2, oS3, oS4, oS5, oS] <;> omega))) fs0), (fl1 (Or.inl (by first | omega | (simp only [alS, reS, wR, wAl, wI, oS1, oS2, oS3, oS4, oS5, oS] <;> omega))) fl0)⟩⟩, ?_⟩
  refine ⟨by (first | assumption | exact hk | (simp only [wAl, wR, alS, reS]; rw [upA_n _ _ (by omega)]; assumption) | (simp only [wAl, wR, alS, reS]; rw [upA_n _ _ (by omega), upA_n _ _ (by omega)]; assumption) | (simp only [wAl, wR, alS, reS]; exact upA_s _ _ _) | exact Nat.le_refl _ | (simp only [wAl, wR, alS, reS]; omega)  | decide), by (first | assumption | exact hk | (simp only [wAl, wR, alS, reS]; rw [upA_n _ _ (by omega)]; assumption) | (simp only [wAl, wR, alS, reS]; rw [upA_n _ _ (by omega), upA_n _ _ (by omega)]; assumption) | (simp only [wAl, wR, alS, reS]; exact upA_s _ _ _) | exact Nat.le_refl _ | (simp only [wAl, wR, alS, reS]; omega)  | decide), ?_⟩
  exact ⟨⟨Nat.le_of_ble_eq_true rfl, Nat.le_of_ble_eq_true rfl⟩, rfl, rfl⟩
set_option maxHeartbeats 1000000 in
theorem T_i38 {d : Nat} {S : Sc} {M : Nat → Nat → Int32} {J : Nat → Nat → Int64} {b : Nat} (hk : S.2.1 b = 3) (hb0 : 1 ≤ b) (hb : b ≤ S.1) (hn : S.1 < 900000) : Wp (d + 1) 38 [.ref b] (S, M, J) (fun rs w' => rs = .inl none ∧ w' = (reS (alS (reS (alS (S) 8 12) b 1 (S.1 + 1)) 8 12) b 2 (S.1 + 2), zM (zM (M) (S.1 + 1)) (S.1 + 2), zJ (zJ (J) (S.1 + 1)) (S.1 + 2))) := by
  refine ⟨rfl, ?_⟩
  refine EE.runN (stop := noStop) 80 _ ?_
  refine ⟨by (first | assumption | exact hk | (simp only [wAl, wR, alS, reS]; rw [upA_n _ _ (by omega)]; assumption) | (simp only [wAl, wR, alS, reS]; rw [upA_n _ _ (by omega), upA_n _ _ (by omega)]; assumption) | (simp only [wAl, wR, alS, reS]; exact upA_s _ _ _) | exact Nat.le_refl _ | (simp only [wAl, wR, alS, reS]; omega)  | decide), Nat.le_of_ble_eq_true rfl, ?_⟩
  refine ⟨⟨by decide, by decide, Nat.le_of_ble_eq_true rfl, Nat.le_of_ble_eq_true rfl, (by first | omega | (simp only [alS, reS, wR, wAl, wI, oS1, oS2, oS3, oS4, oS5, oS] <;> omega)), ⟨(fs1 (Or.inl (by first | omega | (simp only [alS, reS, wR, wAl, wI, oS1, oS2, oS3, oS4, oS5, oS] <;> omega))) fs0), (fl1 (Or.inl (by first | omega | (simp only [alS, reS, wR, wAl, wI, oS1, oS2, oS3, oS4, oS5, oS] <;> omega))) fl0)⟩⟩, ?_⟩
  refine ⟨by (first | assumption | exact hk | (simp only [wAl, wR, alS, reS]; rw [upA_n _ _ (by omega)]; assumption) | (simp only [wAl, wR, alS, reS]; rw [upA_n _ _ (by omega), upA_n _ _ (by omega)]; assumption) | (simp only [wAl, wR, alS, reS]; exact upA_s _ _ _) | exact Nat.le_refl _ | (simp only [wAl, wR, alS, reS]; omega)  | decide), by (first | assumption | exact hk | (simp only [wAl, wR, alS, reS]; rw [upA_n _ _ (by omega)]; assumption) | (simp only [wAl, wR, alS, reS]; rw [upA_n _ _ (by omega), upA_n _ _ (by omega)]; assumption) | (simp only [wAl, wR, alS, reS]; exact upA_s _ _ _) | exact Nat.le_refl _ | (simp only [wAl, wR, alS, reS]; omega)  | decide), ?_⟩
  refine ⟨⟨by decide, by decide, Nat.le_of_ble_eq_true rfl, Nat.le_of_ble_eq_true rfl, (by first | omega | (simp only [alS, reS, wR, wAl, wI, oS1, oS2, oS3, oS4, oS5, oS] <;> omega)), ⟨(fs1 (Or.inl (by first | omega | (simp only [alS, reS, wR, wAl, wI, oS1, oS2, oS3, oS4, oS5, oS] <;> omega))) fs0), (fl1 (Or.inl (by first | omega | (simp only [alS, reS, wR, wAl, wI, oS1, oS2, oS3, oS4, oS5, oS] <;> omega))) fl0)⟩⟩, ?_⟩
  refine ⟨by (first | assumption | exact hk | (simp only [wAl, wR, alS, reS]; rw [upA_n _ _ (by omega)]; assumption) | (simp only [wAl, wR, alS, reS]; rw [upA_n _ _ (by omega), upA_n _ _ (by omega)]; assumption) | (simp only [wAl, wR, alS, reS]; exact upA_s _ _ _) | exact Nat.le_refl _ | (simp only [wAl, wR, alS, reS]; omega)  | decide), by (first | assumption | exact hk | (simp only [wAl, wR, alS, reS]; rw [upA_n _ _ (by omega)]; assumption) | (simp only [wAl, wR, alS, reS]; rw [upA_n _ _ (by omega), upA_n _ _ (by omega)]; assumption) | (simp only [wAl, wR, alS, reS]; exact upA_s _ _ _) | exact Nat.le_refl _ | (simp only [wAl, wR, alS, reS]; omega)  | decide), ?_⟩
  exact ⟨⟨Nat.le_of_ble_eq_true rfl, Nat.le_of_ble_eq_true rfl⟩, rfl, rfl⟩
set_option maxHeartbeats 1000000 in
theorem T_i53 {d : Nat} {S : Sc} {M : Nat → Nat → Int32} {J : Nat → Nat → Int64} {b : Nat} (hk : S.2.1 b = 5) (hb0 : 1 ≤ b) (hb : b ≤ S.1) (hn : S.1 < 900000) : Wp (d + 1) 53 [.ref b] (S, M, J) (fun rs w' => rs = .inl none ∧ w' = (reS (alS (S) 8 90) b 8 (S.1 + 1), zM (M) (S.1 + 1), zJ (J) (S.1 + 1))) := by
  refine ⟨rfl, ?_⟩
  refine EE.runN (stop := noStop) 80 _ ?_
  refine ⟨by (first | assumption | exact hk | (simp only [wAl, wR, alS, reS]; rw [upA_n _ _ (by omega)]; assumption) | (simp only [wAl, wR, alS, reS]; rw [upA_n _ _ (by omega), upA_n _ _ (by omega)]; assumption) | (simp only [wAl, wR, alS, reS]; exact upA_s _ _ _) | exact Nat.le_refl _ | (simp only [wAl, wR, alS, reS]; omega)  | decide), Nat.le_of_ble_eq_true rfl, ?_⟩
  refine ⟨⟨by decide, by decide, Nat.le_of_ble_eq_true rfl, Nat.le_of_ble_eq_true rfl, (by first | omega | (simp only [alS, reS, wR, wAl, wI, oS1, oS2, oS3, oS4, oS5, oS] <;> omega)), ⟨(fs1 (Or.inl (by first | omega | (simp only [alS, reS, wR, wAl, wI, oS1, oS2, oS3, oS4, oS5, oS] <;> omega))) fs0), (fl1 (Or.inl (by first | omega | (simp only [alS, reS, wR, wAl, wI, oS1, oS2, oS3, oS4, oS5, oS] <;> omega))) fl0)⟩⟩, ?_⟩
  refine ⟨by (first | assumption | exact hk | (simp only [wAl, wR, alS, reS]; rw [upA_n _ _ (by omega)]; assumption) | (simp only [wAl, wR, alS, reS]; rw [upA_n _ _ (by omega), upA_n _ _ (by omega)]; assumption) | (simp only [wAl, wR, alS, reS]; exact upA_s _ _ _) | exact Nat.le_refl _ | (simp only [wAl, wR, alS, reS]; omega)  | decide), by (first | assumption | exact hk | (simp only [wAl, wR, alS, reS]; rw [upA_n _ _ (by omega)]; assumption) | (simp only [wAl, wR, alS, reS]; rw [upA_n _ _ (by omega), upA_n _ _ (by omega)]; assumption) | (simp only [wAl, wR, alS, reS]; exact upA_s _ _ _) | exact Nat.le_refl _ | (simp only [wAl, wR, alS, reS]; omega)  | decide), ?_⟩
  exact ⟨⟨Nat.le_of_ble_eq_true rfl, Nat.le_of_ble_eq_true rfl⟩, rfl, rfl⟩
theorem oS_n {S : Sc} {b : Nat} : (oS S b).1 = S.1 + 6 := rfl
theorem oS_lo {S : Sc} {b : Nat} (hn : S.1 = b) {o : Nat} (ho : o < b) : (oS S b).2.1 o = S.2.1 o ∧ (oS S b).2.2.1 o = S.2.2.1 o ∧ (oS S b).2.2.2 o = S.2.2.2 o := by
  obtain ⟨n, kd, ln, rf⟩ := S
  have hn : n = b := hn
  subst hn
  refine ⟨?_, ?_, ?_⟩ <;> simp (disch := omega) only [oS, oS5, oS4, oS3, oS2, oS1, alS, reS, upA_n]
theorem oS_k {S : Sc} {b : Nat} (hn : S.1 = b) (hk : S.2.1 b = 2) : OdS (oS S b) b := by
  obtain ⟨n, kd, ln, rf⟩ := S
  have hn : n = b := hn
  subst hn
  have hk : kd n = 2 := hk
  unfold OdS
  refine ⟨⟨?_, ?_, ?_, ?_, ?_, ?_, ?_⟩, ⟨?_, ?_, ?_, ?_, ?_, ?_⟩, ?_, ?_, ?_, ?_⟩ <;> simp (disch := omega) only [oS, oS5, oS4, oS3, oS2, oS1, alS, reS, upA_e, upA_n, hk]
set_option maxHeartbeats 4000000 in
theorem T_i19 {d : Nat} {S : Sc} {M : Nat → Nat → Int32} {J : Nat → Nat → Int64} {b : Nat} (hn : S.1 = b) (hk : S.2.1 b = 2) (hb0 : 1 ≤ b) (hb : b < 800000) : Wp (d + 4) 19 [.ref b] (S, M, J) (fun rs w' => rs = .inl none ∧ ∃ M' J', w' = (oS S b, M', J') ∧ (∀ o, o < b → M' o = M o) ∧ ∃ σ, ∀ q, q < 114 → vO M' b q = cNew σ 4 10 100 q) := by
  obtain ⟨n, kd, ln, rf⟩ := S
  have hn : n = b := hn
  subst hn
  have hk : kd n = 2 := hk
  refine ⟨rfl, ?_⟩
  refine EE.runN (stop := noStop) 60 _ ?_
  refine ⟨by (first | assumption | (simp (disch := omega) only [alS, reS, wAl, wR, wI, oS1, oS2, oS3, oS4, oS5, oS, upA_e, upA_n, kO_0, kO_38, kO_20, kO_19, kO_48, kO_15, kO_53, kO_62, hk]; done) | (simp only [wAl, wR, alS, reS, oS1, oS2, oS3, oS4, oS5, oS]; omega) | decide), Nat.le_of_ble_eq_true rfl, ?_⟩
  refine ⟨⟨Nat.le_of_ble_eq_true rfl, Nat.le_of_ble_eq_true rfl, (by first | omega | (simp only [alS, reS, wR, wAl, wI, oS1, oS2, oS3, oS4, oS5, oS] <;> omega)), ⟨(fs1 (Or.inl (by first | omega | (simp only [alS, reS, wR, wAl, wI, oS1, oS2, oS3, oS4, oS5, oS] <;> omega))) fs0), (fl1 (Or.inl (by first | omega | (simp only [alS, reS, wR, wAl, wI, oS1, oS2, oS3, oS4, oS5, oS] <;> omega))) fl0)⟩⟩, ?_⟩
  refine ⟨⟨Nat.le_of_ble_eq_true rfl, Nat.le_of_ble_eq_true rfl, Nat.le_of_ble_eq_true rfl⟩, by (first | assumption | (simp (disch := omega) only [alS, reS, wAl, wR, wI, oS1, oS2, oS3, oS4, oS5, oS, upA_e, upA_n, kO_0, kO_38, kO_20, kO_19, kO_48, kO_15, kO_53, kO_62, hk]; done) | (simp only [wAl, wR, alS, reS, oS1, oS2, oS3, oS4, oS5, oS]; omega) | decide), _, T_i0 (S := oS1 (n, kd, ln, rf)) (b := n + 1) (by simp (disch := omega) only [alS, reS, wAl, wR, wI, oS1, oS2, oS3, oS4, oS5, oS, upA_e, upA_n, kO_0, kO_38, kO_20, kO_19, kO_48, kO_15, kO_53, kO_62]) (by omega) (Nat.le_refl _) (show n + 1 < 900000 by omega), ?_⟩
  rintro _ w1 ⟨rfl, hw⟩
  obtain ⟨M2, hM2⟩ : ∃ M2, M2 = w1.2.1 := ⟨_, rfl⟩
  obtain ⟨J2, hJ2⟩ : ∃ J2, J2 = w1.2.2 := ⟨_, rfl⟩
  have h2 : ∀ o, o ≤ n → M2 o = M o := fun o ho => by rw [hM2, hw]; simp only [zM, oS1, alS, wAl]; rw [upA_n _ _ (by omega), upA_n _ _ (by omega), upA_n _ _ (by omega)]
  have hw : w1 = (oS2 (n, kd, ln, rf) n, M2, J2) := by rw [hM2, hJ2, hw]; rfl
  subst hw
  refine ⟨Or.inr ⟨fs1 (Or.inl (by first | omega | (simp only [alS, reS, wR, wAl, wI, oS1, oS2, oS3, oS4, oS5, oS] <;> omega))) (fs1 (Or.inl (by first | omega | (simp only [alS, reS, wR, wAl, wI, oS1, oS2, oS3, oS4, oS5, oS] <;> omega))) fs0), fl1 (Or.inl (by first | omega | (simp only [alS, reS, wR, wAl, wI, oS1, oS2, oS3, oS4, oS5, oS] <;> omega))) fl0⟩, ?_⟩
  refine ⟨by (first | assumption | (simp (disch := omega) only [alS, reS, wAl, wR, wI, oS1, oS2, oS3, oS4, oS5, oS, upA_e, upA_n, kO_0, kO_38, kO_20, kO_19, kO_48, kO_15, kO_53, kO_62, hk]; done) | (simp only [wAl, wR, alS, reS, oS1, oS2, oS3, oS4, oS5, oS]; omega) | decide), by (first | assumption | (simp (disch := omega) only [alS, reS, wAl, wR, wI, oS1, oS2, oS3, oS4, oS5, oS, upA_e, upA_n, kO_0, kO_38, kO_20, kO_19, kO_48, kO_15, kO_53, kO_62, hk]; done) | (simp only [wAl, wR, alS, reS, oS1, oS2, oS3, oS4, oS5, oS]; omega) | decide), ?_⟩
  refine ⟨⟨Nat.le_of_ble_eq_true rfl, Nat.le_of_ble_eq_true rfl, (by first | omega | (simp only [alS, reS, wR, wAl, wI, oS1, oS2, oS3, oS4, oS5, oS] <;> omega)), ⟨(fs1 (Or.inl (by first | omega | (simp only [alS, reS, wR, wAl, wI, oS1, oS2, oS3, oS4, oS5, oS] <;> omega))) fs0), (fl1 (Or.inl (by first | omega | (simp only [alS, reS, wR, wAl, wI, oS1, oS2, oS3, oS4, oS5, oS] <;> omega))) fl0)⟩⟩, ?_⟩
  refine ⟨⟨Nat.le_of_ble_eq_true rfl, Nat.le_of_ble_eq_true rfl, Nat.le_of_ble_eq_true rfl⟩, by (first | assumption | (simp (disch := omega) only [alS, reS, wAl, wR, wI, oS1, oS2, oS3, oS4, oS5, oS, upA_e, upA_n, kO_0, kO_38, kO_20, kO_19, kO_48, kO_15, kO_53, kO_62, hk]; done) | (simp only [wAl, wR, alS, reS, oS1, oS2, oS3, oS4, oS5, oS]; omega) | decide), _, T_i38 (S := oS4 (n, kd, ln, rf) n) (b := n + 4) (by simp (disch := omega) only [alS, reS, wAl, wR, wI, oS1, oS2, oS3, oS4, oS5, oS, upA_e, upA_n, kO_0, kO_38, kO_20, kO_19, kO_48, kO_15, kO_53, kO_62]) (by omega) (show n + 4 ≤ n + 1 + 1 + 1 + 1 by omega) (show n + 1 + 1 + 1 + 1 < 900000 by omega), ?_⟩
  rintro _ w1 ⟨rfl, hw⟩
  obtain ⟨M4, hM4⟩ : ∃ M4, M4 = w1.2.1 := ⟨_, rfl⟩
  obtain ⟨J4, hJ4⟩ : ∃ J4, J4 = w1.2.2 := ⟨_, rfl⟩
  have h4 : ∀ o, o ≤ n → M4 o = M o := fun o ho => by rw [hM4, hw]; simp only [zM, oS4, oS3, oS2, oS1, alS, reS, wAl, wR]; rw [upA_n _ _ (by omega), upA_n _ _ (by omega), upA_n _ _ (by omega)]; exact h2 o ho
  have hw : w1 = (oS5 (n, kd, ln, rf) n, M4, J4) := by rw [hM4, hJ4, hw]; rfl
  subst hw
  refine ⟨Or.inr ⟨fs1 (Or.inl (by first | omega | (simp only [alS, reS, wR, wAl, wI, oS1, oS2, oS3, oS4, oS5, oS] <;> omega))) (fs1 (Or.inl (by first | omega | (simp only [alS, reS, wR, wAl, wI, oS1, oS2, oS3, oS4, oS5, oS] <;> omega))) fs0), fl1 (Or.inl (by first | omega | (simp only [alS, reS, wR, wAl, wI, oS1, oS2, oS3, oS4, oS5, oS] <;> omega))) fl0⟩, ?_⟩
  refine ⟨by (first | assumption | (simp (disch := omega) only [alS, reS, wAl, wR, wI, oS1, oS2, oS3, oS4, oS5, oS, upA_e, upA_n, kO_0, kO_38, kO_20, kO_19, kO_48, kO_15, kO_53, kO_62, hk]; done) | (simp only [wAl, wR, alS, reS, oS1, oS2, oS3, oS4, oS5, oS]; omega) | decide), by (first | assumption | (simp (disch := omega) only [alS, reS, wAl, wR, wI, oS1, oS2, oS3, oS4, oS5, oS, upA_e, upA_n, kO_0, kO_38, kO_20, kO_19, kO_48, kO_15, kO_53, kO_62, hk]; done) | (simp only [wAl, wR, alS, reS, oS1, oS2, oS3, oS4, oS5, oS]; omega) | decide), ?_⟩
  refine ⟨⟨Nat.le_of_ble_eq_true rfl, Nat.le_of_ble_eq_true rfl, Nat.le_of_ble_eq_true rfl⟩, by (first | assumption | (simp (disch := omega) only [alS, reS, wAl, wR, wI, oS1, oS2, oS3, oS4, oS5, oS, upA_e, upA_n, kO_0, kO_38, kO_20, kO_19, kO_48, kO_15, kO_53, kO_62, hk]; done) | (simp only [wAl, wR, alS, reS, oS1, oS2, oS3, oS4, oS5, oS]; omega) | decide), _, by exact V_cNew (S := oS (n, kd, ln, rf) n) (b := n) (oS_k rfl hk), ?_⟩
  rintro _ _ ⟨rfl, rfl⟩
  refine ⟨Or.inl rfl, ?_⟩
  exact ⟨⟨Nat.le_of_ble_eq_true rfl, Nat.le_of_ble_eq_true rfl⟩, rfl, _, _, rfl, fun o ho => by rw [sO_ot _ _ _ (by omega)]; exact h4 o (by omega), _, fun q hq => vO_sO _ _ _ hq⟩
