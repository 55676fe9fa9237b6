/-! BOTH RINGS: what is known of them at first -/
theorem pb_kd {A c : Nat} {S : Sc} (h1 : 1 ≤ c) (h2 : c ≤ 136) : (pbS A S).2.1 c = S.2.1 (A + c) := if_pos ⟨h1, h2⟩
theorem pb_rf {A c k x : Nat} {S : Sc} (h : S.2.2.2 (A + c) k = A + x) : (pbS A S).2.2.2 c k = x := by
  show S.2.2.2 (A + c) k - A = x
  omega
theorem OdS_pb {A b : Nat} {S : Sc} (h1 : 1 ≤ b) (h2 : b + 6 ≤ 136) (h : OdS S (A + b)) : OdS (pbS A S) b := by
  obtain ⟨⟨a0, a1, a2, a3, a4, a5, a6⟩, ⟨r0, r1, r12, r13, r41, r42⟩, l2, l3, l5, l6⟩ := h
  refine ⟨⟨?_, ?_, ?_, ?_, ?_, ?_, ?_⟩, ⟨pb_rf r0, pb_rf r1, pb_rf r12, pb_rf r13, pb_rf r41, pb_rf r42⟩, l2, l3, l5, l6⟩ <;> rw [pb_kd (by omega) (by omega)] <;> assumption
theorem ShS_pb {A b n : Nat} {S : Sc} (h1 : 1 ≤ b) (h2 : b + 2 + 7 * n ≤ 136) (h : ShS S (A + b) n) : ShS (pbS A S) b n := by
  obtain ⟨a2, a3, a4, a5, a6, a7, a8, a9⟩ := h
  refine ⟨?_, pb_rf a3, pb_rf a4, ?_, a6, ?_, a8, fun k hk => ⟨pb_rf ?_, OdS_pb (by omega) (by omega) ?_⟩⟩
  · rw [pb_kd (by omega) (by omega)]
    exact a2
  · rw [pb_kd (by omega) (by omega)]
    exact a5
  · rw [pb_kd (by omega) (by omega)]
    exact a7
  · have := (a9 k hk).1
    rw [show A + (b + 1) = A + b + 1 by omega]
    omega
  · have := (a9 k hk).2
    rw [show A + (b + 3 + 7 * k) = A + b + 3 + 7 * k by omega]
    exact this
theorem RgT_pb {A : Nat} {S : Sc} (h : RgT A S) : RgS (pbS A S) := by
  obtain ⟨⟨t1, t2, t3, t4⟩, h4, h11, ⟨b1, r0, r1, r2, r3, r4⟩, ⟨b18, r18⟩, hH, hV⟩ := h
  refine ⟨⟨?_, ?_, t3, pb_rf t4⟩, OdS_pb (by omega) (by omega) h4, OdS_pb (by omega) (by omega) h11, ⟨?_, pb_rf r0, pb_rf r1, pb_rf r2, pb_rf r3, pb_rf r4⟩, ⟨?_, pb_rf r18⟩, ShS_pb (by omega) (by omega) hH, ShS_pb (by omega) (by omega) hV⟩ <;> rw [pb_kd (by omega) (by omega)] <;> assumption
theorem RgS_T {S : Sc} (h : RgS S) : RgT 0 S := by
  obtain ⟨⟨t1, t2, t3, t4⟩, h4, h11, ⟨b1, r0, r1, r2, r3, r4⟩, ⟨b18, r18⟩, hH, hV⟩ := h
  exact ⟨⟨t1, t2, t3, t4⟩, h4, h11, ⟨b1, r0, r1, r2, r3, r4⟩, ⟨b18, r18⟩, hH, hV⟩
theorem RgS_cg {S S' : Sc} (h : RgS S) (hk : ∀ o, o < 137 → S'.2.1 o = S.2.1 o ∧ S'.2.2.1 o = S.2.2.1 o ∧ S'.2.2.2 o = S.2.2.2 o) : RgS S' := by
  obtain ⟨⟨a1, a2, a3, a4⟩, h4, h11, ⟨b1, r0, r1, r2, r3, r4⟩, ⟨b18, r18⟩, hH, hV⟩ := h
  have k1 := hk 1 (by omega)
  exact ⟨⟨(hk 2 (by omega)).1.trans a1, (hk 3 (by omega)).1.trans a2, (hk 3 (by omega)).2.1.trans a3, (congrFun (hk 2 (by omega)).2.2 8).trans a4⟩, OdS_cg h4 (fun o _ _ => hk o (by omega)), OdS_cg h11 (fun o _ _ => hk o (by omega)), ⟨k1.1.trans b1, (congrFun k1.2.2 0).trans r0, (congrFun k1.2.2 1).trans r1, (congrFun k1.2.2 2).trans r2, (congrFun k1.2.2 3).trans r3, (congrFun k1.2.2 4).trans r4⟩, ⟨(hk 18 (by omega)).1.trans b18, (congrFun (hk 18 (by omega)).2.2 2).trans r18⟩, ShS_cg hH (fun o _ _ => hk o (by omega)), ShS_cg hV (fun o _ _ => hk o (by omega))⟩
def ρ00 : Rw := rClean (fun _ => 0) (nI 4) (nI 10) (nI 100)
theorem Iv_00 : Iv 0 ρ00 := clean_V (by omega) (by omega) (by omega) (by omega) (by omega)
theorem RI_00 {M : Nat → Nat → Int32} {σ : Rw} (hσ : ∀ q, q < 114 → vO M 4 q = cNew σ 4 10 100 q) (m2 : ∀ q, M 2 q = 0) (m3 : ∀ q, M 3 q = 0) (m18 : ∀ q, M 18 q = 0) (m122 : ∀ q, M 122 q = 0) : RI 100000 (0, fun _ => 0) ρ00 (0, fun _ => ρ00) (fun _ => false, fun _ => ρ00) M := by
  refine ⟨⟨?_, Nat.zero_le _, fun q hq => ⟨Nat.zero_le _, ?_⟩⟩, ⟨?_, Iv_00.2.1.mono (by omega)⟩, ⟨0, by omega, Nat.zero_le _, ?_, ?_, fun i hi => absurd hi (Nat.not_lt_zero _)⟩, fun k hk => ⟨fun z => (by cases z), fun _ => m122 k⟩⟩
  · rw [m2]; rfl
  · rw [m3]; rfl
  · have hq : Rq (cNew σ (nI 4) (nI 10) (nI 100)) ρ00 := cNew_rq (by omega)
    exact Rp.tr (Rp.of fun q h1 _ => hσ q h1) hq
  · rw [m18]; rfl
  · rw [m18]; rfl
