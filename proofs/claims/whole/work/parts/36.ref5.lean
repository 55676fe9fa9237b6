/-! THE REFERENCE: clearing, driving, power, services: written by wip/whole/pure3.py -/
def rClear (ρ : Rw) (k : Nat) : Rw := fun q => if q < k then 0 else ρ q
def rLasts (ρ : Rw) : Nat → Rw
  | 0 => ρ
  | k + 1 => upd (rLasts ρ k) (13 + k) (-99999)
def rHead (ρ : Rw) (a b c : Int32) : Rw := upd (upd (upd (upd (upd (rClear ρ 114) 0 a) 1 b) 2 c) 3 1) 11 (-99999)
def rClean (ρ : Rw) (a b c : Int32) : Rw := rLasts (rHead ρ a b c) 4
theorem rClear_s (ρ : Rw) (k : Nat) : upd (rClear ρ k) k 0 = rClear ρ (k + 1) := by
  funext q
  unfold rClear
  by_cases h : q = k
  · subst h
    rw [pk_us, if_pos (by omega)]
  · rw [pk_un h]
    by_cases h2 : q < k
    · rw [if_pos h2, if_pos (by omega)]
    · rw [if_neg h2, if_neg (by omega)]
set_option maxHeartbeats 1000000 in
theorem T_clean {d : Nat} {S : Sc} {M : Nat → Nat → Int32} {J : Nat → Nat → Int64} {r : Nat} {a b c : Int32} (hR : RowS S r) : Wp (d + 1) 103 [.ref r, .int a, .int b, .int c] (S, M, J) (fun rs w' => rs = .inl none ∧ w' = (S, upA M r (rClean (M r) a b c), J)) := by
  refine ⟨rfl, ?_⟩
  refine EE.runN (stop := atPc [3, 46]) 80 _ ?_
  refine ee_at (nt := nzT 103) [(0, .ref r), (1, .int a), (2, .int b), (3, .int c), (4, .int (nI 0))] (S, upA M r (rClear (M r) 0), J) rfl (by rfl) (by show (S, M, J) = (S, _, J); rw [show rClear (M r) 0 = M r from rfl, upA_id]) ?_
  refine ee_loop (fun k => (3, [(0, .ref r), (1, .int a), (2, .int b), (3, .int c), (4, .int (nI k))], [], (S, upA M r (rClear (M r) k), J), 0, 0)) (114) (fun k h_k ih_k => ?_) ?_
  · refine EE.runN (stop := atPc [3, 46]) 80 _ ?_
    refine ⟨fun h1 => ?_, fun h1 => ?_⟩
    · exact absurd h1 (nI_ge (b := 114) h_k (by omega))
    · refine ⟨by exact hR.1, hR.vp (k := k) (by omega), ?_⟩
      refine ee_at (nt := nzT 103) [(0, .ref r), (1, .int a), (2, .int b), (3, .int c), (4, .int (nI (k + 1)))] (S, upA M r (rClear (M r) (k + 1)), J) rfl (by rw [← nI_1 k]; rfl) (by show (S, _, J) = (S, _, J); simp only [wI_M, wI_1, upA_s, upA_uu, tk_0, tk_1, tk_2, tk_3, tk_4, tk_5, tk_6, tk_7, tk_8, tk_9, tk_10, tk_11, tk_12, tk_13, tk_14, tk_15, tk_16, tk_17]; rw [ck (by omega), rClear_s]) ?_
      exact ih_k
  · refine EE.runN (stop := atPc [3, 46]) 80 _ ?_
    refine ⟨fun h2 => ?_, fun h2 => ?_⟩
    · refine ⟨by exact hR.1, hR.vp (k := 0) (by omega), ?_⟩
      refine ⟨by exact hR.1, hR.vp (k := 1) (by omega), ?_⟩
      refine ⟨by exact hR.1, hR.vp (k := 2) (by omega), ?_⟩
      refine ⟨by exact hR.1, hR.vp (k := 3) (by omega), ?_⟩
      refine ⟨by exact hR.1, hR.vp (k := 11) (by omega), ?_⟩
      refine ee_at (nt := nzT 103) [(0, .ref r), (4, .int (nI 0))] (S, upA M r (rLasts (rHead (M r) a b c) 0), J) rfl (by rfl) (by show (S, _, J) = (S, _, J); simp only [wI_M, wI_1, upA_s, upA_uu, tk_0, tk_1, tk_2, tk_3, tk_4, tk_5, tk_6, tk_7, tk_8, tk_9, tk_10, tk_11, tk_12, tk_13, tk_14, tk_15, tk_16, tk_17]; rfl) ?_
      refine ee_loop (fun k => (46, [(0, .ref r), (4, .int (nI k))], [], (S, upA M r (rLasts (rHead (M r) a b c) k), J), 0, 0)) (4) (fun k h_k ih_k => ?_) ?_
      · refine EE.runN (stop := atPc [3, 46]) 80 _ ?_
        refine ⟨fun h3 => ?_, fun h3 => ?_⟩
        · exact absurd h3 (nI_ge (b := 4) h_k (by omega))
        · refine ⟨by exact hR.1, (by rw [o_13, nI_add]; exact hR.vp (by omega)), ?_⟩
          refine ee_at (nt := nzT 103) [(0, .ref r), (4, .int (nI (k + 1)))] (S, upA M r (rLasts (rHead (M r) a b c) (k + 1)), J) rfl (by rw [← nI_1 k]; rfl) (by show (S, _, J) = (S, _, J); simp only [wI_M, wI_1, upA_s, upA_uu, tk_0, tk_1, tk_2, tk_3, tk_4, tk_5, tk_6, tk_7, tk_8, tk_9, tk_10, tk_11, tk_12, tk_13, tk_14, tk_15, tk_16, tk_17]; rw [o_13, nI_add, ck (by omega)]; rfl) ?_
          exact ih_k
      · refine EE.runN (stop := atPc [3, 46]) 80 _ ?_
        refine ⟨fun h4 => ?_, fun h4 => ?_⟩
        · exact ⟨⟨Nat.zero_le _, Nat.zero_le _⟩, rfl, rfl⟩
        · exact absurd (nI_le (Nat.le_refl 4) (by omega)) h4
    · exact absurd (nI_le (Nat.le_refl 114) (by omega)) h2
def p10 : Nat → Int64
  | 0 => 1
  | k + 1 => p10 k * 10
set_option maxHeartbeats 1000000 in
theorem T_tenTo {d : Nat} {w : Wd} {n : Nat} (hn : n < 1000) : Wp (d + 1) 102 [.int (nI n)] w (fun rs w' => rs = .inl (some (.long (p10 n))) ∧ w' = w) := by
  refine ⟨rfl, ?_⟩
  refine EE.runN (stop := atPc [4]) 80 _ ?_
  refine ee_at (nt := nzT 102) [(0, .int (nI n)), (1, .long (p10 0)), (3, .int (nI 0))] w rfl (by rfl) (by rfl) ?_
  refine ee_loop (fun k => (4, [(0, .int (nI n)), (1, .long (p10 k)), (3, .int (nI k))], [], w, 0, 0)) (n) (fun k h_k ih_k => ?_) ?_
  · refine EE.runN (stop := atPc [4]) 80 _ ?_
    refine ⟨fun h1 => ?_, fun h1 => ?_⟩
    · exact absurd h1 (nI_ge h_k (by omega))
    · refine ee_at (nt := nzT 102) [(0, .int (nI n)), (1, .long (p10 (k + 1))), (3, .int (nI (k + 1)))] w rfl (by rw [← nI_1 k]; rfl) (by rfl) ?_
      exact ih_k
  · refine EE.runN (stop := atPc [4]) 80 _ ?_
    refine ⟨fun h2 => ?_, fun h2 => ?_⟩
    · exact ⟨⟨Nat.zero_le _, Nat.zero_le _⟩, rfl, rfl⟩
    · exact absurd (nI_le (Nat.le_refl n) (by omega)) h2
def rFnd (ρ : Rw) (c : Int32) : Nat → Int32
  | 0 => -99999
  | k + 1 => if ρ (18 + 2 * k) = c then nI k else rFnd ρ c k
set_option maxHeartbeats 1000000 in
theorem T_serviceOf {d : Nat} {S : Sc} {M : Nat → Nat → Int32} {J : Nat → Nat → Int64} {r n : Nat} {x y : Int32} (hR : RowS S r) (hn : n ≤ 12) (h17 : M r 17 = nI n) : Wp (d + 1) 115 [.ref r, .int x, .int y] (S, M, J) (fun rs w' => rs = .inl (some (.int (rFnd (M r) (10 * x + y) n))) ∧ w' = (S, M, J)) := by
  refine ⟨rfl, ?_⟩
  refine EE.runN (stop := atPc [6]) 80 _ ?_
  refine ee_at (nt := nzT 115) [(0, .ref r), (1, .int x), (2, .int y), (3, .int (rFnd (M r) (10 * x + y) 0)), (4, .int (nI 0))] (S, M, J) rfl (by rfl) (by rfl) ?_
  refine ee_loop (fun k => (6, [(0, .ref r), (1, .int x), (2, .int y), (3, .int (rFnd (M r) (10 * x + y) k)), (4, .int (nI k))], [], (S, M, J), 0, 0)) (n) (fun k h_k ih_k => ?_) ?_
  · refine EE.runN (stop := atPc [6]) 80 _ ?_
    have ix : (18 + 2 * nI k : Int32) = nI (18 + 2 * k) := by rw [o_18, o_2, pk_mul, nI_add]
    refine ⟨by exact hR.1, hR.vp (k := 17) (by omega), ?_⟩
    refine ⟨fun h1 => ?_, fun h1 => ?_⟩
    · (simp only [upA_s, tk_17, h17] at h1; exact absurd h1 (nI_ge h_k (by omega)))
    · refine ⟨by exact hR.1, (by rw [ix]; exact hR.vp (by omega)), ?_⟩
      refine ⟨fun h2 => ?_, fun h2 => ?_⟩
      · simp only [ix, ck (show 18 + 2 * k < 2147483648 by omega)] at h2
        refine ee_at (nt := nzT 115) [(0, .ref r), (1, .int x), (2, .int y), (3, .int (rFnd (M r) (10 * x + y) (k + 1))), (4, .int (nI (k + 1)))] (S, M, J) rfl (by rw [rFnd, if_neg h2, ← nI_1 k]; rfl) (by rfl) ?_
        exact ih_k
      · simp only [ix, ck (show 18 + 2 * k < 2147483648 by omega)] at h2
        refine ee_at (nt := nzT 115) [(0, .ref r), (1, .int x), (2, .int y), (3, .int (rFnd (M r) (10 * x + y) (k + 1))), (4, .int (nI (k + 1)))] (S, M, J) rfl (by rw [rFnd, if_pos h2, ← nI_1 k]; rfl) (by rfl) ?_
        exact ih_k
  · refine EE.runN (stop := atPc [6]) 80 _ ?_
    refine ⟨by exact hR.1, hR.vp (k := 17) (by omega), ?_⟩
    refine ⟨fun h3 => ?_, fun h3 => ?_⟩
    · exact ⟨⟨Nat.zero_le _, Nat.zero_le _⟩, rfl, rfl⟩
    · (simp only [upA_s, tk_17, h17] at h3; exact absurd (nI_le (Nat.le_refl n) (by omega)) h3)
/-- a row whose pairs from i on, k numbers of them, have moved down -/
def rShift (ρ : Rw) (a k : Nat) : Rw := fun q => if a ≤ q ∧ q < a + k then ρ (q + 2) else ρ q
def rDrop (ρ : Rw) (i n : Nat) : Rw := upd (rShift ρ (18 + 2 * i) (2 * (n - 1 - i))) 17 (nI (n - 1))
theorem rShift_s (ρ : Rw) (a k : Nat) : upd (rShift ρ a k) (a + k) (rShift ρ a k (a + k + 2)) = rShift ρ a (k + 1) := by
  funext q
  unfold rShift
  by_cases h : q = a + k
  · subst h
    rw [pk_us, if_neg (by omega), if_pos (by omega)]
  · rw [pk_un h]
    by_cases h2 : a ≤ q ∧ q < a + k
    · rw [if_pos h2, if_pos (by omega)]
    · rw [if_neg h2, if_neg (by omega)]
theorem rShift_0 (ρ : Rw) (a : Nat) : rShift ρ a 0 = ρ := by
  funext q
  unfold rShift
  rw [if_neg (by omega)]
theorem rShift_lo (ρ : Rw) {a k q : Nat} (h : q < a) : rShift ρ a k q = ρ q := by
  unfold rShift
  rw [if_neg (by omega)]
set_option maxHeartbeats 1000000 in
theorem T_drop {d : Nat} {S : Sc} {M : Nat → Nat → Int32} {J : Nat → Nat → Int64} {r n i : Nat} (hR : RowS S r) (hi : i < n) (hn : n ≤ 12) (h17 : M r 17 = nI n) : Wp (d + 1) 116 [.ref r, .int (nI i)] (S, M, J) (fun rs w' => rs = .inl none ∧ w' = (S, upA M r (rDrop (M r) i n), J)) := by
  have hd : ∀ k, (18 + 2 * (upA M r (rShift (M r) (18 + 2 * i) k) r 17) - 2 : Int32) = nI (18 + 2 * i + 2 * (n - 1 - i)) := fun k => by rw [upA_s, rShift_lo _ (by omega), h17, o_18, o_2, pk_mul, nI_add, pk_sub (by omega)]; congr 1; omega
  refine ⟨rfl, ?_⟩
  refine EE.runN (stop := atPc [7]) 80 _ ?_
  refine ee_at (nt := nzT 116) [(0, .ref r), (2, .int (nI (18 + 2 * i + 0)))] (S, upA M r (rShift (M r) (18 + 2 * i) 0), J) rfl (by rw [Nat.add_zero, ← nI_add, ← pk_mul]; rfl) (by show (S, M, J) = (S, _, J); rw [rShift_0, upA_id]) ?_
  refine ee_loop (fun k => (7, [(0, .ref r), (2, .int (nI (18 + 2 * i + k)))], [], (S, upA M r (rShift (M r) (18 + 2 * i) k), J), 0, 0)) (2 * (n - 1 - i)) (fun k h_k ih_k => ?_) ?_
  · refine EE.runN (stop := atPc [7]) 80 _ ?_
    refine ⟨by exact hR.1, hR.vp (k := 17) (by omega), ?_⟩
    refine ⟨fun h1 => ?_, fun h1 => ?_⟩
    · (simp only [tk_17, hd] at h1; exact absurd h1 (nI_ge (by omega) (by omega)))
    · refine ⟨by exact hR.1, (by rw [o_2, nI_add]; exact hR.vp (k := 18 + 2 * i + k + 2) (by omega)), ?_⟩
      refine ⟨by exact hR.1, hR.vp (k := 18 + 2 * i + k) (by omega), ?_⟩
      refine ee_at (nt := nzT 116) [(0, .ref r), (2, .int (nI (18 + 2 * i + (k + 1))))] (S, upA M r (rShift (M r) (18 + 2 * i) (k + 1)), J) rfl (by rw [← Nat.add_assoc, ← nI_1]; rfl) (by show (S, _, J) = (S, _, J); simp only [wI_M, wI_1, upA_s, upA_uu, tk_0, tk_1, tk_2, tk_3, tk_4, tk_5, tk_6, tk_7, tk_8, tk_9, tk_10, tk_11, tk_12, tk_13, tk_14, tk_15, tk_16, tk_17]; rw [o_2, nI_add, ck (by omega), ck (by omega), rShift_s]) ?_
      exact ih_k
  · refine EE.runN (stop := atPc [7]) 80 _ ?_
    refine ⟨by exact hR.1, hR.vp (k := 17) (by omega), ?_⟩
    refine ⟨fun h2 => ?_, fun h2 => ?_⟩
    · refine ⟨by exact hR.1, hR.vp (k := 17) (by omega), ?_⟩
      refine ⟨by exact hR.1, hR.vp (k := 17) (by omega), ?_⟩
      refine ⟨⟨Nat.zero_le _, Nat.zero_le _⟩, rfl, ?_⟩
      show (S, _, J) = (S, _, J)
      simp only [wI_M, wI_1, upA_s, upA_uu, tk_0, tk_1, tk_2, tk_3, tk_4, tk_5, tk_6, tk_7, tk_8, tk_9, tk_10, tk_11, tk_12, tk_13, tk_14, tk_15, tk_16, tk_17]
      rw [rShift_lo _ (by omega), h17, show (1 : Int32) = nI 1 from rfl, pk_sub (by omega)]
      rfl
    · (simp only [tk_17, hd] at h2; exact absurd (nI_le (Nat.le_refl _) (by omega)) h2)
