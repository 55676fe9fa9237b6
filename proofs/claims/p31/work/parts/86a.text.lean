/-! THE LAW: tells, its texts -/
theorem and_le (z : Int32) {m : Nat} (hm : m < 2147483648) : ∃ q, q ≤ m ∧ z &&& nI m = nI q := by
  refine ⟨(z.toBitVec.toNat &&& m), Nat.and_le_right, ?_⟩
  have hq : z.toBitVec.toNat &&& m ≤ m := Nat.and_le_right
  apply Int32.toBitVec_inj.mp
  apply BitVec.eq_of_toNat_eq
  rw [Int32.toBitVec_and, BitVec.toNat_and]
  have e : ∀ k : Nat, k < 2147483648 → (nI k).toBitVec.toNat = k := fun k hk => by
    show (BitVec.ofInt 32 (k : Int)).toNat = k
    rw [BitVec.toNat_ofInt]
    omega
  rw [e _ hm, e _ (by omega)]
def tyc (T : Tx) (q : Nat) : Tx := (T.1 + 1, fun k => if k = T.1 then q else T.2 k)
def ty1 (T : Tx) (v : Nat) : Tx := tyc T (48 + v % 10)
def ty2 (T : Tx) (v : Nat) : Tx := tyc (tyc T (48 + v / 10 % 10)) (48 + v % 10)
def ty3 (T : Tx) (v : Nat) : Tx := tyc (tyc (tyc T (48 + v / 100 % 10)) (48 + v / 10 % 10)) (48 + v % 10)
def cmdT (κ : Nat) (T : Tx) : Tx :=
  if κ % 6 < 2 then ty3 (tyc T 100) (1 + κ / 6 % 999)
  else if κ % 6 = 2 then ty1 (ty2 (tyc T 99) (1 + κ / 6 % 36)) (κ / 216 % 3)
  else if κ % 6 = 3 then tyc T 115
  else if κ % 6 = 4 then ty1 (ty1 (tyc T 109) (κ / 6 % 3)) (κ / 18 % 3)
  else ty2 (tyc T 114) (κ / 6 % 3)
def hdT (a : Nat) (T : Tx) : Tx := ty3 (ty2 (ty2 (tyc (0, T.2) 79) (3 + a % 10)) (1 + a / 10 % 99)) (if a % 3 = 0 then 10 else 10 + a / 6 % 90)
/-- what lies behind c stays -/
def Ag (c : Nat) (τ τ' : Nat → Nat) : Prop := ∀ k, k < c → τ' k = τ k
theorem dg_v {n : Nat} {τ : Nat → Nat} {c v : Nat} (hc : c < n) (h : τ c = 48 + v % 10) : dg n τ c = v % 10 := by
  unfold dg
  rw [if_pos ⟨hc, by omega, by omega⟩, h]
  omega
theorem dig_go {n : Nat} {τ : Nat → Nat} {lo hi c v : Nat} (hc : c < n) (h : τ c = 48 + v % 10) (h1 : lo ≤ v % 10) (h2 : v % 10 ≤ hi) : mDig n τ lo hi (true, c) = ((true, c + 1), v % 10) := by
  have e := dg_v hc h
  rw [mDig_t (by rw [e]; omega), e]
theorem two_go {n : Nat} {τ : Nat → Nat} {lo hi c v : Nat} (hc : c + 1 < n) (h : τ c = 48 + v / 10 % 10) (h' : τ (c + 1) = 48 + v % 10) (h1 : lo ≤ v) (h2 : v ≤ hi) (h3 : hi ≤ 99) : mTwo n τ lo hi (true, c) = ((true, c + 2), v) := by
  have e1 : mDig n τ (lo / 10) (hi / 10) (true, c) = ((true, c + 1), v / 10 % 10) := dig_go (by omega) h (by omega) (by omega)
  unfold mTwo
  rw [e1]
  have e2 : mDig n τ (lo - 10 * (v / 10 % 10)) (min 9 (hi - 10 * (v / 10 % 10))) (true, c + 1) = ((true, c + 1 + 1), v % 10) := dig_go hc h' (by omega) (by omega)
  show ((mDig n τ (lo - 10 * (v / 10 % 10)) (min 9 (hi - 10 * (v / 10 % 10))) (true, c + 1)).1, 10 * (v / 10 % 10) + (mDig n τ (lo - 10 * (v / 10 % 10)) (min 9 (hi - 10 * (v / 10 % 10))) (true, c + 1)).2) = _
  rw [e2]
  show ((true, c + 1 + 1), 10 * (v / 10 % 10) + v % 10) = ((true, c + 2), v)
  rw [show 10 * (v / 10 % 10) + v % 10 = v by omega]
theorem three_go {n : Nat} {τ : Nat → Nat} {lo c v : Nat} (hc : c + 2 < n) (h : τ c = 48 + v / 100 % 10) (h' : τ (c + 1) = 48 + v / 10 % 10) (h'' : τ (c + 2) = 48 + v % 10) (h1 : lo ≤ v) (h2 : v ≤ 999) : mThree n τ lo (true, c) = ((true, c + 3), v) := by
  have e1 : mDig n τ 0 9 (true, c) = ((true, c + 1), v / 100 % 10) := dig_go (by omega) h (by omega) (by omega)
  unfold mThree
  rw [e1]
  have e2 : mTwo n τ (lo - 100 * (v / 100 % 10)) 99 (true, c + 1) = ((true, c + 1 + 2), v % 100) := two_go (v := v % 100) (by omega) (by rw [h']; omega) (by rw [show c + 1 + 1 = c + 2 by omega, h'']; omega) (by omega) (by omega) (by omega)
  show ((mTwo n τ (lo - 100 * (v / 100 % 10)) 99 (true, c + 1)).1, 100 * (v / 100 % 10) + (mTwo n τ (lo - 100 * (v / 100 % 10)) 99 (true, c + 1)).2) = _
  rw [e2]
  show ((true, c + 1 + 2), 100 * (v / 100 % 10) + v % 100) = ((true, c + 3), v)
  rw [show 100 * (v / 100 % 10) + v % 100 = v by omega]
/-- the text so far is a head and j commands -/
def Rn (sl j : Nat) (T : Tx) : Prop := 8 ≤ T.1 ∧ ∀ n τ, T.1 ≤ n → Ag T.1 T.2 τ → (mHd4 n τ).1 = (true, 8) ∧ (mHd2 n τ).2 = sl ∧ ∀ f, mText n τ sl (j + f) (true, 8) = mText n τ sl f (true, T.1)
theorem Rn.cmd {sl j : Nat} {T T' : Tx} (h : Rn sl j T) (hn : T.1 < T'.1) (hA : Ag T.1 T.2 T'.2) (hc : ∀ n τ, T'.1 ≤ n → Ag T'.1 T'.2 τ → (mCmd n τ sl (true, T.1)).1 = (true, T'.1)) : Rn sl (j + 1) T' := by
  obtain ⟨h8, h⟩ := h
  refine ⟨by omega, fun n τ hn' hA' => ?_⟩
  obtain ⟨a1, a2, a3⟩ := h n τ (by omega) (fun k hk => (hA' k (by omega)).trans (hA k hk))
  refine ⟨a1, a2, fun f => ?_⟩
  rw [show j + 1 + f = j + (f + 1) by omega, a3 (f + 1), mText, if_pos ⟨rfl, by show T.1 < n; omega⟩, hc n τ hn' hA']
theorem Rn.good {sl j : Nat} {T : Tx} (h : Rn sl j T) (hj : j ≤ 90) : (mEnd T.1 T.2).1 = true := by
  obtain ⟨a1, a2, a3⟩ := h.2 T.1 T.2 (Nat.le_refl _) (fun _ _ => rfl)
  unfold mEnd mHS
  rw [a1, a2, show (90 : Nat) = j + (90 - j) by omega, a3, mText_out (s := (true, T.1)) (fun q => absurd q.2 (Nat.lt_irrefl _))]
theorem tyc_at {T : Tx} {q : Nat} : (tyc T q).2 T.1 = q := if_pos rfl
theorem tyc_ne {T : Tx} {q k : Nat} (h : k ≠ T.1) : (tyc T q).2 k = T.2 k := if_neg h
theorem Ag.tyc {m q : Nat} {τ : Nat → Nat} {T : Tx} (h : Ag m τ T.2) (hm : m ≤ T.1) : Ag m τ (tyc T q).2 := fun k hk => (tyc_ne (by omega)).trans (h k hk)
theorem cmd_ag (κ : Nat) (T : Tx) : T.1 < (cmdT κ T).1 ∧ (cmdT κ T).1 ≤ T.1 + 4 ∧ Ag T.1 T.2 (cmdT κ T).2 := by
  have r : Ag T.1 T.2 T.2 := fun _ _ => rfl
  have k1 : ∀ q, Ag T.1 T.2 (tyc T q).2 := fun q => r.tyc (Nat.le_refl _)
  have k2 : ∀ q q', Ag T.1 T.2 (tyc (tyc T q) q').2 := fun q q' => (k1 q).tyc (by show T.1 ≤ T.1 + 1; omega)
  have k3 : ∀ q q' q'', Ag T.1 T.2 (tyc (tyc (tyc T q) q') q'').2 := fun q q' q'' => (k2 q q').tyc (by show T.1 ≤ T.1 + 1 + 1; omega)
  have k4 : ∀ q q' q'' u, Ag T.1 T.2 (tyc (tyc (tyc (tyc T q) q') q'') u).2 := fun q q' q'' u => (k3 q q' q'').tyc (by show T.1 ≤ T.1 + 1 + 1 + 1; omega)
  unfold cmdT
  split
  · exact ⟨by show T.1 < T.1 + 1 + 1 + 1 + 1; omega, by show T.1 + 1 + 1 + 1 + 1 ≤ T.1 + 4; omega, k4 _ _ _ _⟩
  · split
    · exact ⟨by show T.1 < T.1 + 1 + 1 + 1 + 1; omega, by show T.1 + 1 + 1 + 1 + 1 ≤ T.1 + 4; omega, k4 _ _ _ _⟩
    · split
      · exact ⟨by show T.1 < T.1 + 1; omega, by show T.1 + 1 ≤ T.1 + 4; omega, k1 _⟩
      · split
        · exact ⟨by show T.1 < T.1 + 1 + 1 + 1; omega, by show T.1 + 1 + 1 + 1 ≤ T.1 + 4; omega, k3 _ _ _⟩
        · exact ⟨by show T.1 < T.1 + 1 + 1 + 1; omega, by show T.1 + 1 + 1 + 1 ≤ T.1 + 4; omega, k3 _ _ _⟩
theorem at1 (T : Tx) (v : Nat) : (ty1 T v).2 T.1 = 48 + v % 10 ∧ Ag T.1 T.2 (ty1 T v).2 := ⟨tyc_at, Ag.tyc (fun _ _ => rfl) (Nat.le_refl _)⟩
theorem at2 (T : Tx) (v : Nat) : (ty2 T v).2 T.1 = 48 + v / 10 % 10 ∧ (ty2 T v).2 (T.1 + 1) = 48 + v % 10 ∧ Ag T.1 T.2 (ty2 T v).2 :=
  ⟨(tyc_ne (by show T.1 ≠ T.1 + 1; omega)).trans tyc_at, tyc_at, (Ag.tyc (fun _ _ => rfl) (Nat.le_refl _)).tyc (by show T.1 ≤ T.1 + 1; omega)⟩
theorem at3 (T : Tx) (v : Nat) : (ty3 T v).2 T.1 = 48 + v / 100 % 10 ∧ (ty3 T v).2 (T.1 + 1) = 48 + v / 10 % 10 ∧ (ty3 T v).2 (T.1 + 2) = 48 + v % 10 ∧ Ag T.1 T.2 (ty3 T v).2 :=
  ⟨(tyc_ne (by show T.1 ≠ T.1 + 1 + 1; omega)).trans ((tyc_ne (by show T.1 ≠ T.1 + 1; omega)).trans tyc_at), (tyc_ne (by show T.1 + 1 ≠ T.1 + 1 + 1; omega)).trans tyc_at, tyc_at, ((Ag.tyc (fun _ _ => rfl) (Nat.le_refl _)).tyc (by show T.1 ≤ T.1 + 1; omega)).tyc (by show T.1 ≤ T.1 + 1 + 1; omega)⟩
theorem cmd_go {sl κ n : Nat} {T : Tx} {τ : Nat → Nat} (h3 : 3 ≤ sl) (h12 : sl ≤ 12) (hn : (cmdT κ T).1 ≤ n) (hA : Ag (cmdT κ T).1 (cmdT κ T).2 τ) : (mCmd n τ sl (true, T.1)).1 = (true, (cmdT κ T).1) := by
  unfold cmdT at *
  by_cases g1 : κ % 6 < 2
  · rw [if_pos g1] at hn hA ⊢
    have hn : T.1 + 1 + 1 + 1 + 1 ≤ n := hn
    have hA : ∀ k, k < T.1 + 1 + 1 + 1 + 1 → τ k = _ := hA
    obtain ⟨b0, b1, b2, b3⟩ := at3 (tyc T 100) (1 + κ / 6 % 999)
    have k0 : τ T.1 = 100 := (hA T.1 (by omega)).trans ((b3 T.1 (Nat.lt_succ_self _)).trans tyc_at)
    have e := three_go (n := n) (τ := τ) (lo := 1) (c := T.1 + 1) (v := 1 + κ / 6 % 999) (by omega) ((hA _ (by omega)).trans b0) ((hA _ (by omega)).trans b1) ((hA _ (by omega)).trans b2) (by omega) (by omega)
    rw [mCmd_d ⟨by show T.1 < n; omega, k0⟩]
    show (mThree n τ 1 (true, T.1 + 1)).1 = _
    rw [e]
    rfl
  · rw [if_neg g1] at hn hA ⊢
    by_cases g2 : κ % 6 = 2
    · rw [if_pos g2] at hn hA ⊢
      have hn : T.1 + 1 + 1 + 1 + 1 ≤ n := hn
      have hA : ∀ k, k < T.1 + 1 + 1 + 1 + 1 → τ k = _ := hA
      obtain ⟨c0, c1⟩ := at1 (ty2 (tyc T 99) (1 + κ / 6 % 36)) (κ / 216 % 3)
      obtain ⟨b0, b1, b3⟩ := at2 (tyc T 99) (1 + κ / 6 % 36)
      have c1 : ∀ k, k < T.1 + 1 + 1 + 1 → _ = (ty2 (tyc T 99) (1 + κ / 6 % 36)).2 k := c1
      have k0 : τ T.1 = 99 := (hA T.1 (by omega)).trans ((c1 _ (by omega)).trans ((b3 T.1 (Nat.lt_succ_self _)).trans tyc_at))
      have e := two_go (n := n) (τ := τ) (lo := 1) (hi := 36) (c := T.1 + 1) (v := 1 + κ / 6 % 36) (by omega) ((hA _ (by omega)).trans ((c1 _ (by omega)).trans b0)) ((hA _ (by omega)).trans ((c1 _ (by omega)).trans b1)) (by omega) (by omega) (by omega)
      have e' := dig_go (n := n) (τ := τ) (lo := 0) (hi := 2) (c := T.1 + 1 + 2) (v := κ / 216 % 3) (by omega) ((hA _ (by omega)).trans c0) (by omega) (by omega)
      rw [mCmd_c ⟨by show T.1 < n; omega, k0⟩]
      show (mDig n τ 0 2 (mTwo n τ 1 36 (true, T.1 + 1)).1).1 = _
      rw [e]
      show (mDig n τ 0 2 (true, T.1 + 1 + 2)).1 = _
      rw [e']
      rfl
    · rw [if_neg g2] at hn hA ⊢
      by_cases g3 : κ % 6 = 3
      · rw [if_pos g3] at hn hA ⊢
        have hn : T.1 + 1 ≤ n := hn
        have k0 : τ T.1 = 115 := (hA T.1 (Nat.lt_succ_self _)).trans tyc_at
        have hx : ∀ m, m ≠ 115 → ¬ ((true, T.1).2 < n ∧ τ (true, T.1).2 = m) := fun m hm q => hm (q.2.symm.trans k0)
        rw [mCmd_s (hx _ (by decide)) (hx _ (by decide)) (hx _ (by decide)) (hx _ (by decide))]
        have hx : nxt n τ 115 (true, T.1) = true := decide_eq_true ⟨by show T.1 < n; omega, k0⟩
        show mAcc (nxt n τ 115 (true, T.1)) (true, T.1) = _
        rw [hx]
        rfl
      · rw [if_neg g3] at hn hA ⊢
        by_cases g4 : κ % 6 = 4
        · rw [if_pos g4] at hn hA ⊢
          have hn : T.1 + 1 + 1 + 1 ≤ n := hn
          have hA : ∀ k, k < T.1 + 1 + 1 + 1 → τ k = _ := hA
          obtain ⟨c0, c1⟩ := at1 (ty1 (tyc T 109) (κ / 6 % 3)) (κ / 18 % 3)
          obtain ⟨b0, b3⟩ := at1 (tyc T 109) (κ / 6 % 3)
          have c1 : ∀ k, k < T.1 + 1 + 1 → _ = (ty1 (tyc T 109) (κ / 6 % 3)).2 k := c1
          have k0 : τ T.1 = 109 := (hA T.1 (by omega)).trans ((c1 _ (by omega)).trans ((b3 T.1 (Nat.lt_succ_self _)).trans tyc_at))
          have e := dig_go (n := n) (τ := τ) (lo := 0) (hi := 9) (c := T.1 + 1) (v := κ / 6 % 3) (by omega) ((hA _ (by omega)).trans ((c1 _ (by omega)).trans b0)) (by omega) (by omega)
          have e' := dig_go (n := n) (τ := τ) (lo := 0) (hi := 9) (c := T.1 + 1 + 1) (v := κ / 18 % 3) (by omega) ((hA _ (by omega)).trans c0) (by omega) (by omega)
          rw [mCmd_m ⟨by show T.1 < n; omega, k0⟩]
          show (mDig n τ 0 9 (mDig n τ 0 9 (true, T.1 + 1)).1).1 = _
          rw [e]
          show (mDig n τ 0 9 (true, T.1 + 1 + 1)).1 = _
          rw [e']
          rfl
        · rw [if_neg g4] at hn hA ⊢
          have hn : T.1 + 1 + 1 + 1 ≤ n := hn
          have hA : ∀ k, k < T.1 + 1 + 1 + 1 → τ k = _ := hA
          obtain ⟨b0, b1, b3⟩ := at2 (tyc T 114) (κ / 6 % 3)
          have k0 : τ T.1 = 114 := (hA T.1 (by omega)).trans ((b3 T.1 (Nat.lt_succ_self _)).trans tyc_at)
          have e := two_go (n := n) (τ := τ) (lo := 0) (hi := sl - 1) (c := T.1 + 1) (v := κ / 6 % 3) (by omega) ((hA _ (by omega)).trans b0) ((hA _ (by omega)).trans b1) (by omega) (by omega) (by omega)
          rw [mCmd_r ⟨by show T.1 < n; omega, k0⟩]
          show (mTwo n τ 0 (sl - 1) (true, T.1 + 1)).1 = _
          rw [e]
          rfl
theorem Rn.step {sl j κ : Nat} {T : Tx} (h : Rn sl j T) (h3 : 3 ≤ sl) (h12 : sl ≤ 12) : Rn sl (j + 1) (cmdT κ T) := h.cmd (cmd_ag κ T).1 (cmd_ag κ T).2.2 (fun _ _ hn hA => cmd_go h3 h12 hn hA)
theorem hd_rn (a : Nat) (T : Tx) : Rn (3 + a % 10) 0 (hdT a T) := by
  obtain ⟨v4, hv4⟩ : ∃ v4, v4 = if a % 3 = 0 then 10 else 10 + a / 6 % 90 := ⟨_, rfl⟩
  have hv : 10 ≤ v4 ∧ v4 ≤ 99 := by
    rw [hv4]
    split <;> omega
  unfold hdT
  rw [← hv4]
  refine ⟨Nat.le_of_ble_eq_true rfl, fun n τ hn hA => ?_⟩
  have hn : 8 ≤ n := hn
  have hA : ∀ k, k < 8 → τ k = _ := hA
  have a0 : τ 0 = 79 := (hA 0 (by omega)).trans rfl
  have a1 : τ 1 = 48 + (3 + a % 10) / 10 % 10 := (hA 1 (by omega)).trans rfl
  have a2 : τ 2 = 48 + (3 + a % 10) % 10 := (hA 2 (by omega)).trans rfl
  have a3 : τ 3 = 48 + (1 + a / 10 % 99) / 10 % 10 := (hA 3 (by omega)).trans rfl
  have a4 : τ 4 = 48 + (1 + a / 10 % 99) % 10 := (hA 4 (by omega)).trans rfl
  have a5 : τ 5 = 48 + v4 / 100 % 10 := (hA 5 (by omega)).trans rfl
  have a6 : τ 6 = 48 + v4 / 10 % 10 := (hA 6 (by omega)).trans rfl
  have a7 : τ 7 = 48 + v4 % 10 := (hA 7 (by omega)).trans rfl
  have hx : nxt n τ 79 (true, 0) = true := decide_eq_true ⟨by show 0 < n; omega, a0⟩
  have e2 : mHd2 n τ = ((true, 3), 3 + a % 10) := (hd_1 hx).trans (two_go (v := 3 + a % 10) (by omega) a1 a2 (by omega) (by omega) (by omega))
  have e3 : mHd3 n τ = ((true, 5), 1 + a / 10 % 99) := (hd_2 (c := 3) (by rw [e2])).trans (two_go (v := 1 + a / 10 % 99) (by omega) a3 a4 (by omega) (by omega) (by omega))
  have e4 : mHd4 n τ = ((true, 8), v4) := (hd_3 (c := 5) (by rw [e3])).trans (three_go (v := v4) (by omega) a5 a6 a7 (by omega) (by omega))
  exact ⟨by rw [e4], by rw [e2], fun f => by rw [Nat.zero_add]; rfl⟩
