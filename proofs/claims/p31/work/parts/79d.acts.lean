/-! THE CLASS at A: actions: written by wip/p31/ring.py -/
theorem drive_ok {ρ : Rw} {x : Int32} (h : (aDrive ρ x).1 = 0) : ∃ q, 1 ≤ q ∧ q ≤ 999 ∧ x = nI q := by
  unfold aDrive at h
  split at h
  · rename_i g
    obtain ⟨q, hq, rfl⟩ := nI_of2 (M := 999) (n := 999) rfl (fun z => g.1 (Int32.lt_of_lt_of_le z (by decide))) (Int32.not_lt.mp g.2)
    refine ⟨q, ?_, hq, rfl⟩
    have := (lt1 (a := q) (by omega)).mp g.1
    exact this
  · cases h
theorem cut_ok {ρ : Rw} {x y : Int32} (h : (aCut ρ x y).1 = 0) : ∃ q, 1 ≤ q ∧ q ≤ 36 ∧ x = nI q ∧ (y = 0 ∨ y = 1 ∨ y = 2) := by
  unfold aCut at h
  split at h
  · rename_i g
    obtain ⟨q, hq, rfl⟩ := nI_of2 (M := 36) (n := 36) rfl (fun z => g.1 (Int32.lt_of_lt_of_le z (by decide))) (Int32.not_lt.mp g.2.1)
    obtain ⟨k, hk, rfl⟩ := nI_of2 (M := 2) (n := 2) rfl g.2.2.1 (Int32.not_lt.mp g.2.2.2)
    exact ⟨q, (lt1 (a := q) (by omega)).mp g.1, hq, rfl, n012 hk⟩
  · cases h
theorem service_ok {ρ : Rw} {m : Nat} {x y : Int32} (h : (aService ρ m x y).1 = 0) : ρ 17 < 12 ∨ ¬ rFnd ρ (10 * x + y) m = -99999 := by
  unfold aService at h
  split at h
  · split at h
    · rename_i g
      exact g.2
    · cases h
  · cases h
theorem forget_ok {B : Nat} {ρ : Rw} {x y : Int32} (hI : I2 B ρ) (h : (aForget ρ (ρ 17).toNatClampNeg x y).1 = 0) : (rFnd ρ (10 * x + y) (ρ 17).toNatClampNeg).toNatClampNeg < (ρ 17).toNatClampNeg := by
  unfold aForget at h
  split at h
  · split at h
    · cases h
    · rename_i g
      obtain ⟨i, hi, e⟩ := (rFnd_or ρ (10 * x + y) (ρ 17).toNatClampNeg).resolve_left g
      rw [e, ck (by have := hI.cnt.2; omega)]
      exact hi
  · cases h
theorem step_ok {ρ : Rw} {x : Int32} (h : (aStep ρ x).1 = 0) : ∃ q, 1 ≤ q ∧ q ≤ 99 ∧ x = nI q := by
  unfold aStep at h
  split at h
  · rename_i g
    obtain ⟨q, hq, rfl⟩ := nI_of2 (M := 99) (n := 99) rfl (fun z => g.1 (Int32.lt_of_lt_of_le z (by decide))) (Int32.not_lt.mp g.2)
    exact ⟨q, (lt1 (a := q) (by omega)).mp g.1, hq, rfl⟩
  · cases h
theorem repl_ok {B : Nat} {σ ρ : Rw} {x : Int32} (hS : Sr B σ ρ) (h : (aRepl ρ (ρ 0).toNatClampNeg x).1 = 0) : ∃ q, q < 12 ∧ x = nI q := by
  obtain ⟨n, h3, h12, e0, e1, e2, e3⟩ := hS.n
  rw [e2] at h
  unfold aRepl at h
  split at h
  · rename_i g
    obtain ⟨q, hq, rfl⟩ := in_nat' (by omega) g
    exact ⟨q, by omega, rfl⟩
  · cases h
theorem Y_drive {A d : Nat} {S : Sc} {N : Nat → Nat → Int32} {J : Nat → Nat → Int64} {B : Nat} {T : Tx} {ρ : Rw} {P : Pst9} {V : Sav} (hs : Scn A S) (h : RI B T ρ P V (pbM A N)) (hB : B < 990000) {x : Int32} : Wp (d + 9) 74 [.ref (A + 1), .int x] (S, N, J) (fun rs w' => ∃ N', w' = (S, N', J) ∧ Frm A N N' ∧ ((¬ (aDrive ρ x).1 = 0 → RI B T ρ P V (pbM A N')) ∧ ((aDrive ρ x).1 = 0 → RI (B + 1000) T (rGo x.toNatClampNeg ρ) (push ρ P) V (pbM A N'))) ∧ rs = cRs (fun c => if c = 1 then 0 else 1) (aDrive ρ x)) := by
  have hI := h.2.1.1.I2 h.2.1.2
  have hBB : B < 1000000 := by omega
  obtain ⟨_, _, ⟨y9, hy9, ha, h180, h181, hH⟩, _⟩ := id h
  refine Wp_mono (lift hs rfl (C_drive hs.1 hI hBB ha hy9 h180 h181)) (fun rs w' hw => ?_)
  obtain ⟨M', ⟨M2, e2, hJ0, hJ1, hr⟩, rfl⟩ := hw
  have e2 : M' = M2 := congrArg (fun q => q.2.1) e2
  subst e2
  rw [eq_drive h.2.1] at hJ0 hJ1 hr
  refine ⟨_, rfl, frm_ovl, ⟨fun hz => ?_, fun hz => ?_⟩, hr⟩
  · rw [hJ0 hz, ovl_pb]
    exact h
  · rw [hJ1 hz]
    refine (RI_push h (Nat.le_add_right _ _) hy9 hH ?_).pb
    obtain ⟨q, h1, hq, rfl⟩ := drive_ok hz
    rw [ck (by omega)]
    exact sr_drive h.2.1 hq hBB
theorem Y_cut {A d : Nat} {S : Sc} {N : Nat → Nat → Int32} {J : Nat → Nat → Int64} {B : Nat} {T : Tx} {ρ : Rw} {P : Pst9} {V : Sav} (hs : Scn A S) (h : RI B T ρ P V (pbM A N)) (hB : B < 990000) {x : Int32} {y : Int32} : Wp (d + 9) 75 [.ref (A + 1), .int x, .int y] (S, N, J) (fun rs w' => ∃ N', w' = (S, N', J) ∧ Frm A N N' ∧ ((¬ (aCut ρ x y).1 = 0 → RI B T ρ P V (pbM A N')) ∧ ((aCut ρ x y).1 = 0 → RI (B + 1000) T (upd (upd ρ 10 x) 11 y) (push ρ P) V (pbM A N'))) ∧ rs = cRs (fun c => if c = 1 then 0 else 1) (aCut ρ x y)) := by
  have hI := h.2.1.1.I2 h.2.1.2
  have hBB : B < 1000000 := by omega
  obtain ⟨_, _, ⟨y9, hy9, ha, h180, h181, hH⟩, _⟩ := id h
  refine Wp_mono (lift hs rfl (C_cut hs.1 hI hBB ha hy9 h180 h181)) (fun rs w' hw => ?_)
  obtain ⟨M', ⟨M2, e2, hJ0, hJ1, hr⟩, rfl⟩ := hw
  have e2 : M' = M2 := congrArg (fun q => q.2.1) e2
  subst e2
  rw [eq_cut h.2.1] at hJ0 hJ1 hr
  refine ⟨_, rfl, frm_ovl, ⟨fun hz => ?_, fun hz => ?_⟩, hr⟩
  · rw [hJ0 hz, ovl_pb]
    exact h
  · rw [hJ1 hz]
    refine (RI_push h (Nat.le_add_right _ _) hy9 hH ?_).pb
    obtain ⟨q, h1, hq, rfl, hy⟩ := cut_ok hz
    exact sr_cut h.2.1 h1 hq hy
theorem Y_start {A d : Nat} {S : Sc} {N : Nat → Nat → Int32} {J : Nat → Nat → Int64} {B : Nat} {T : Tx} {ρ : Rw} {P : Pst9} {V : Sav} (hs : Scn A S) (h : RI B T ρ P V (pbM A N)) (hB : B < 990000)  : Wp (d + 9) 76 [.ref (A + 1)] (S, N, J) (fun rs w' => ∃ N', w' = (S, N', J) ∧ Frm A N N' ∧ ((¬ (aStart ρ).1 = 0 → RI B T ρ P V (pbM A N')) ∧ ((aStart ρ).1 = 0 → RI (B + 1000) T (rPower ρ) (push ρ P) V (pbM A N'))) ∧ rs = cRs (fun c => 1) (aStart ρ)) := by
  have hI := h.2.1.1.I2 h.2.1.2
  have hBB : B < 1000000 := by omega
  obtain ⟨_, _, ⟨y9, hy9, ha, h180, h181, hH⟩, _⟩ := id h
  refine Wp_mono (lift hs rfl (C_start hs.1 hI hBB ha hy9 h180 h181)) (fun rs w' hw => ?_)
  obtain ⟨M', ⟨M2, e2, hJ0, hJ1, hr⟩, rfl⟩ := hw
  have e2 : M' = M2 := congrArg (fun q => q.2.1) e2
  subst e2
  rw [eq_start h.2.1] at hJ0 hJ1 hr
  refine ⟨_, rfl, frm_ovl, ⟨fun hz => ?_, fun hz => ?_⟩, hr⟩
  · rw [hJ0 hz, ovl_pb]
    exact h
  · rw [hJ1 hz]
    refine (RI_push h (Nat.le_add_right _ _) hy9 hH ?_).pb
    exact sr_start h.2.1
theorem Y_service {A d : Nat} {S : Sc} {N : Nat → Nat → Int32} {J : Nat → Nat → Int64} {B : Nat} {T : Tx} {ρ : Rw} {P : Pst9} {V : Sav} (hs : Scn A S) (h : RI B T ρ P V (pbM A N)) (hB : B < 990000) {x : Int32} {y : Int32} : Wp (d + 9) 77 [.ref (A + 1), .int x, .int y] (S, N, J) (fun rs w' => ∃ N', w' = (S, N', J) ∧ Frm A N N' ∧ ((¬ (aService ρ (ρ 17).toNatClampNeg x y).1 = 0 → RI B T ρ P V (pbM A N')) ∧ ((aService ρ (ρ 17).toNatClampNeg x y).1 = 0 → RI (B + 1000) T (rServe ρ (10 * x + y) (ρ 17).toNatClampNeg) (push ρ P) V (pbM A N'))) ∧ rs = cRs (fun c => if c = 1 then 0 else 1) (aService ρ (ρ 17).toNatClampNeg x y)) := by
  have hI := h.2.1.1.I2 h.2.1.2
  have hBB : B < 1000000 := by omega
  obtain ⟨_, _, ⟨y9, hy9, ha, h180, h181, hH⟩, _⟩ := id h
  refine Wp_mono (lift hs rfl (C_service hs.1 hI hBB ha hy9 h180 h181)) (fun rs w' hw => ?_)
  obtain ⟨M', ⟨M2, e2, hJ0, hJ1, hr⟩, rfl⟩ := hw
  have e2 : M' = M2 := congrArg (fun q => q.2.1) e2
  subst e2
  rw [eq_service h.2.1] at hJ0 hJ1 hr
  refine ⟨_, rfl, frm_ovl, ⟨fun hz => ?_, fun hz => ?_⟩, hr⟩
  · rw [hJ0 hz, ovl_pb]
    exact h
  · rw [hJ1 hz]
    refine (RI_push h (Nat.le_add_right _ _) hy9 hH ?_).pb
    exact sr_service h.2.1 (service_ok hz)
theorem Y_forget {A d : Nat} {S : Sc} {N : Nat → Nat → Int32} {J : Nat → Nat → Int64} {B : Nat} {T : Tx} {ρ : Rw} {P : Pst9} {V : Sav} (hs : Scn A S) (h : RI B T ρ P V (pbM A N)) (hB : B < 990000) {x : Int32} {y : Int32} : Wp (d + 9) 78 [.ref (A + 1), .int x, .int y] (S, N, J) (fun rs w' => ∃ N', w' = (S, N', J) ∧ Frm A N N' ∧ ((¬ (aForget ρ (ρ 17).toNatClampNeg x y).1 = 0 → RI B T ρ P V (pbM A N')) ∧ ((aForget ρ (ρ 17).toNatClampNeg x y).1 = 0 → RI (B + 1000) T (rDrop ρ (rFnd ρ (10 * x + y) (ρ 17).toNatClampNeg).toNatClampNeg (ρ 17).toNatClampNeg) (push ρ P) V (pbM A N'))) ∧ rs = cRs (fun c => if c = 1 then 0 else 1) (aForget ρ (ρ 17).toNatClampNeg x y)) := by
  have hI := h.2.1.1.I2 h.2.1.2
  have hBB : B < 1000000 := by omega
  obtain ⟨_, _, ⟨y9, hy9, ha, h180, h181, hH⟩, _⟩ := id h
  refine Wp_mono (lift hs rfl (C_forget hs.1 hI hBB ha hy9 h180 h181)) (fun rs w' hw => ?_)
  obtain ⟨M', ⟨M2, e2, hJ0, hJ1, hr⟩, rfl⟩ := hw
  have e2 : M' = M2 := congrArg (fun q => q.2.1) e2
  subst e2
  rw [eq_forget h.2.1] at hJ0 hJ1 hr
  refine ⟨_, rfl, frm_ovl, ⟨fun hz => ?_, fun hz => ?_⟩, hr⟩
  · rw [hJ0 hz, ovl_pb]
    exact h
  · rw [hJ1 hz]
    refine (RI_push h (Nat.le_add_right _ _) hy9 hH ?_).pb
    rw [eq_fnd h.2.1]
    exact sr_forget h.2.1 (forget_ok h.2.1.2 hz)
theorem Y_setStep {A d : Nat} {S : Sc} {N : Nat → Nat → Int32} {J : Nat → Nat → Int64} {B : Nat} {T : Tx} {ρ : Rw} {P : Pst9} {V : Sav} (hs : Scn A S) (h : RI B T ρ P V (pbM A N)) (hB : B < 990000) {x : Int32} : Wp (d + 9) 79 [.ref (A + 1), .int x] (S, N, J) (fun rs w' => ∃ N', w' = (S, N', J) ∧ Frm A N N' ∧ ((¬ (aStep ρ x).1 = 0 → RI B T ρ P V (pbM A N')) ∧ ((aStep ρ x).1 = 0 → RI (B + 1000) T (upd ρ 1 x) (push ρ P) V (pbM A N'))) ∧ rs = cRs (fun c => 0) (aStep ρ x)) := by
  have hI := h.2.1.1.I2 h.2.1.2
  have hBB : B < 1000000 := by omega
  obtain ⟨_, _, ⟨y9, hy9, ha, h180, h181, hH⟩, _⟩ := id h
  refine Wp_mono (lift hs rfl (C_setStep hs.1 hI hBB ha hy9 h180 h181)) (fun rs w' hw => ?_)
  obtain ⟨M', ⟨M2, e2, hJ0, hJ1, hr⟩, rfl⟩ := hw
  have e2 : M' = M2 := congrArg (fun q => q.2.1) e2
  subst e2
  rw [eq_step h.2.1] at hJ0 hJ1 hr
  refine ⟨_, rfl, frm_ovl, ⟨fun hz => ?_, fun hz => ?_⟩, hr⟩
  · rw [hJ0 hz, ovl_pb]
    exact h
  · rw [hJ1 hz]
    refine (RI_push h (Nat.le_add_right _ _) hy9 hH ?_).pb
    obtain ⟨q, h1, hq, rfl⟩ := step_ok hz
    exact sr_step h.2.1 h1 hq
theorem Y_replace {A d : Nat} {S : Sc} {N : Nat → Nat → Int32} {J : Nat → Nat → Int64} {B : Nat} {T : Tx} {ρ : Rw} {P : Pst9} {V : Sav} (hs : Scn A S) (h : RI B T ρ P V (pbM A N)) (hB : B < 990000) {x : Int32} : Wp (d + 9) 80 [.ref (A + 1), .int x] (S, N, J) (fun rs w' => ∃ N', w' = (S, N', J) ∧ Frm A N N' ∧ ((¬ (aRepl ρ (ρ 0).toNatClampNeg x).1 = 0 → RI B T ρ P V (pbM A N')) ∧ ((aRepl ρ (ρ 0).toNatClampNeg x).1 = 0 → RI (B + 1000) T (rRenew ρ x.toNatClampNeg) (push ρ P) V (pbM A N'))) ∧ rs = cRs (fun c => if c = 1 then 2 else 1) (aRepl ρ (ρ 0).toNatClampNeg x)) := by
  have hI := h.2.1.1.I2 h.2.1.2
  have hBB : B < 1000000 := by omega
  obtain ⟨_, _, ⟨y9, hy9, ha, h180, h181, hH⟩, _⟩ := id h
  refine Wp_mono (lift hs rfl (C_replace hs.1 hI hBB ha hy9 h180 h181)) (fun rs w' hw => ?_)
  obtain ⟨M', ⟨M2, e2, hJ0, hJ1, hr⟩, rfl⟩ := hw
  have e2 : M' = M2 := congrArg (fun q => q.2.1) e2
  subst e2
  rw [eq_repl h.2.1] at hJ0 hJ1 hr
  refine ⟨_, rfl, frm_ovl, ⟨fun hz => ?_, fun hz => ?_⟩, hr⟩
  · rw [hJ0 hz, ovl_pb]
    exact h
  · rw [hJ1 hz]
    refine (RI_push h (Nat.le_add_right _ _) hy9 hH ?_).pb
    obtain ⟨q, hq, rfl⟩ := repl_ok h.2.1 hz
    rw [ck (by omega)]
    exact sr_repl h.2.1 hq
theorem Y_undo {A d : Nat} {S : Sc} {N : Nat → Nat → Int32} {J : Nat → Nat → Int64} {B : Nat} {T : Tx} {ρ : Rw} {P : Pst9} {V : Sav} (hs : Scn A S) (h : RI B T ρ P V (pbM A N)) (hB : B < 990000) : Wp (d + 9) 81 [.ref (A + 1)] (S, N, J) (fun rs w' => ∃ N', w' = (S, N', J) ∧ Frm A N N' ∧ ((¬ (aUndo P.1).1 = 0 → RI B T ρ P V (pbM A N')) ∧ ((aUndo P.1).1 = 0 → RI B T (P.2 0) (back P) V (pbM A N'))) ∧ rs = cRs (fun c => 1) (aUndo P.1)) := by
  have hI := h.2.1.1.I2 h.2.1.2
  have hBB : B < 1000000 := by omega
  obtain ⟨_, _, ⟨y9, hy9, ha, h180, h181, hH⟩, _⟩ := id h
  refine Wp_mono (lift hs rfl (C_undo hs.1 hI hBB ha hy9 h180 h181 (fun z => by
    have q := hH 0 z
    rw [Nat.sub_zero] at q
    exact (q.1.I2 q.2).1.2.1))) (fun rs w' hw => ?_)
  obtain ⟨M', ⟨M2, e2, hJ0, hJ1, hr⟩, rfl⟩ := hw
  have e2 : M' = M2 := congrArg (fun q => q.2.1) e2
  subst e2
  refine ⟨_, rfl, frm_ovl, ⟨fun hz => ?_, fun hz => ?_⟩, hr⟩
  · rw [hJ0 hz, ovl_pb]
    exact h
  · rw [hJ1 hz]
    refine (RI_back h ?_ hy9 hH).pb
    unfold aUndo at hz
    split at hz
    · cases hz
    · rename_i g
      rcases Nat.eq_zero_or_pos P.1 with z | z
      · rw [z] at g
        exact absurd rfl g
      · exact z
theorem save_ok {ρ : Rw} {x : Int32} (h : (aSave ρ x).1 = 0) : ∃ q, q < 2 ∧ x = nI q := by
  unfold aSave at h
  split at h
  · rename_i g
    obtain ⟨q, hq, rfl⟩ := nI_of2 (M := 1) (n := 1) rfl g.1 (Int32.not_lt.mp g.2)
    exact ⟨q, by omega, rfl⟩
  · cases h
theorem Y_save {A d : Nat} {S : Sc} {N : Nat → Nat → Int32} {J : Nat → Nat → Int64} {B : Nat} {T : Tx} {ρ : Rw} {P : Pst9} {V : Sav} (hs : Scn A S) (h : RI B T ρ P V (pbM A N)) (hB : B < 990000) {x : Int32} : Wp (d + 9) 89 [.ref (A + 1), .int x] (S, N, J) (fun rs w' => ∃ N', w' = (S, N', J) ∧ Frm A N N' ∧ ((¬ (aSave ρ x).1 = 0 → RI B T ρ P V (pbM A N')) ∧ ((aSave ρ x).1 = 0 → RI B T ρ P (keep V x.toNatClampNeg ρ) (pbM A N'))) ∧ rs = cRs (fun c => 2) (aSave ρ x)) := by
  have hI := h.2.1.1.I2 h.2.1.2
  have hBB : B < 1000000 := by omega
  refine Wp_mono (lift hs rfl (C_save hs.1 hI hBB)) (fun rs w' hw => ?_)
  obtain ⟨M', ⟨M2, e2, hJ0, hJ1, hr⟩, rfl⟩ := hw
  have e2 : M' = M2 := congrArg (fun q => q.2.1) e2
  subst e2
  rw [eq_save h.2.1] at hJ0 hJ1 hr
  refine ⟨_, rfl, frm_ovl, ⟨fun hz => ?_, fun hz => ?_⟩, hr⟩
  · rw [hJ0 hz, ovl_pb]
    exact h
  · rw [hJ1 hz]
    obtain ⟨q, hq, rfl⟩ := save_ok hz
    rw [ck (by omega)]
    exact (RI_save h hq).pb
/-- restore: which slot, what it holds -/
def aRs (V : Sav) (x : Int32) : Nat × Int32 := if ¬ x < 0 ∧ ¬ 1 < x then (if V.1 x.toNatClampNeg = true then (0, V.2 x.toNatClampNeg 5) else (2, 0)) else (1, 0)
theorem rs_eq {B : Nat} {T : Tx} {ρ : Rw} {P : Pst9} {V : Sav} {M : Nat → Nat → Int32} (h : RI B T ρ P V M) {x : Int32} : aRest (fun k => vO M (120 + 3 + 7 * (k / 114)) (k % 114)) (M (120 + 2)) x = aRs V x := by
  unfold aRest aRs
  by_cases g : ¬ x < 0 ∧ ¬ 1 < x
  · rw [if_pos g, if_pos g]
    obtain ⟨q, hq, rfl⟩ := nI_of2 (M := 1) (n := 1) rfl g.1 (Int32.not_lt.mp g.2)
    rw [ck (by omega)]
    obtain ⟨_, _, _, h4⟩ := h
    cases hv : V.1 q with
    | true =>
      obtain ⟨z1, z2⟩ := (h4 q (by omega)).1 hv
      have z1 : M (120 + 2) q = 1 := z1
      rw [if_neg (by rw [z1]; decide), if_pos rfl]
      show (0, vO M (120 + 3 + 7 * ((114 * q + 5) / 114)) ((114 * q + 5) % 114)) = _
      rw [show (114 * q + 5) / 114 = q by omega, show (114 * q + 5) % 114 = 5 by omega]
      have := z2.lo (q := 5) (by omega)
      rw [show 120 + 3 + 7 * q = 123 + 7 * q by omega, this]
    | false =>
      have z1 : M (120 + 2) q = 0 := (h4 q (by omega)).2 hv
      rw [if_pos z1, if_neg (by decide)]
  · rw [if_neg g, if_neg g]
theorem rest_ok {V : Sav} {x : Int32} (h : (aRs V x).1 = 0) : ∃ q, q < 2 ∧ x = nI q ∧ V.1 q = true := by
  unfold aRs at h
  split at h
  · rename_i g
    obtain ⟨q, hq, rfl⟩ := nI_of2 (M := 1) (n := 1) rfl g.1 (Int32.not_lt.mp g.2)
    rw [ck (by omega)] at h
    split at h
    · rename_i z
      exact ⟨q, by omega, rfl, z⟩
    · cases h
  · cases h
theorem Y_restore {A d : Nat} {S : Sc} {N : Nat → Nat → Int32} {J : Nat → Nat → Int64} {B : Nat} {T : Tx} {ρ : Rw} {P : Pst9} {V : Sav} (hs : Scn A S) (h : RI B T ρ P V (pbM A N)) (hB : B < 990000) {x : Int32} : Wp (d + 9) 90 [.ref (A + 1), .int x] (S, N, J) (fun rs w' => ∃ N', w' = (S, N', J) ∧ Frm A N N' ∧ ((¬ (aRs V x).1 = 0 → RI B T ρ P V (pbM A N')) ∧ ((aRs V x).1 = 0 → RI B T (V.2 x.toNatClampNeg) (0, P.2) V (pbM A N'))) ∧ rs = cRs (fun c => if c = 1 then 2 else 1) (aRs V x)) := by
  have hI := h.2.1.1.I2 h.2.1.2
  have hBB : B < 1000000 := by omega
  obtain ⟨_, _, _, h4⟩ := id h
  refine Wp_mono (lift hs rfl (C_restore hs.1 hI hBB (fun q hq hz => by
    cases hv : V.1 q with
    | true =>
      have z := ((h4 q hq).1 hv).2
      exact (z.1.I2 z.2).1.2.1
    | false => exact absurd ((h4 q hq).2 hv) hz))) (fun rs w' hw => ?_)
  obtain ⟨M', ⟨M2, e2, hJ0, hJ1, hr⟩, rfl⟩ := hw
  have e2 : M' = M2 := congrArg (fun q => q.2.1) e2
  subst e2
  rw [rs_eq h] at hJ0 hJ1 hr
  refine ⟨_, rfl, frm_ovl, ⟨fun hz => ?_, fun hz => ?_⟩, hr⟩
  · rw [hJ0 hz, ovl_pb]
    exact h
  · rw [hJ1 hz]
    obtain ⟨q, hq, rfl, hv⟩ := rest_ok hz
    rw [ck (by omega)]
    exact (RI_rest h hq hv).pb
theorem app_ok {m : Nat} {x : Int32} (hm : m ≤ 90) (h : (aApp m x).1 = 0) : ∃ q, q ≤ 255 ∧ x = nI q ∧ m < 90 := by
  unfold aApp at h
  split at h
  · rename_i g
    obtain ⟨q, hq, rfl⟩ := nI_of2 (M := 255) (n := 255) rfl g.1 (Int32.not_lt.mp g.2)
    split at h
    · cases h
    · rename_i z
      refine ⟨q, hq, rfl, ?_⟩
      rcases Nat.lt_or_ge m 90 with w | w
      · exact w
      · have : m = 90 := by omega
        subst this
        exact absurd rfl z
  · cases h
def typ9 (T : Tx) (x : Int32) : Tx := (T.1 + 1, fun k => if k = T.1 then x.toNatClampNeg else T.2 k)
theorem Y_append {A d : Nat} {S : Sc} {N : Nat → Nat → Int32} {J : Nat → Nat → Int64} {B : Nat} {T : Tx} {ρ : Rw} {P : Pst9} {V : Sav} (hs : Scn A S) (h : RI B T ρ P V (pbM A N)) (hB : B < 990000) {x : Int32} : Wp (d + 8) 63 [.ref (A + 1), .int x] (S, N, J) (fun rs w' => ∃ N', w' = (S, N', J) ∧ Frm A N N' ∧ ((¬ (aApp T.1 x).1 = 0 → RI B T ρ P V (pbM A N')) ∧ ((aApp T.1 x).1 = 0 → RI B (typ9 T x) ρ P V (pbM A N'))) ∧ rs = cRs (fun c => if c = 1 then 0 else 1) (aApp T.1 x)) := by
  have hI := h.2.1.1.I2 h.2.1.2
  have hBB : B < 1000000 := by omega
  refine Wp_mono (lift hs rfl (C_append hs.1 hI hBB h.1)) (fun rs w' hw => ?_)
  obtain ⟨M', ⟨M2, e2, hJ0, hJ1, hr⟩, rfl⟩ := hw
  have e2 : M' = M2 := congrArg (fun q => q.2.1) e2
  subst e2
  refine ⟨_, rfl, frm_ovl, ⟨fun hz => ?_, fun hz => ?_⟩, hr⟩
  · rw [hJ0 hz, ovl_pb]
    exact h
  · rw [hJ1 hz]
    obtain ⟨q, hq, rfl, hm⟩ := app_ok h.1.2.1 hz
    unfold typ9
    rw [ck (by omega)]
    exact (RI_app h hm hq).pb
theorem Y_clear {A d : Nat} {S : Sc} {N : Nat → Nat → Int32} {J : Nat → Nat → Int64} {B : Nat} {T : Tx} {ρ : Rw} {P : Pst9} {V : Sav} (hs : Scn A S) (h : RI B T ρ P V (pbM A N)) (hB : B < 990000) : Wp (d + 9) 64 [.ref (A + 1)] (S, N, J) (fun rs w' => ∃ N', w' = (S, N', J) ∧ Frm A N N' ∧ RI B (0, T.2) ρ P V (pbM A N') ∧ rs = .inl (some (.int (nI T.1)))) := by
  refine Wp_mono (lift hs rfl (C_clear hs.1 h.1)) (fun rs w' hw => ?_)
  obtain ⟨M', ⟨hr, e2⟩, rfl⟩ := hw
  have e2 : M' = upA (pbM A N) 2 (upd (pbM A N 2) 0 0) := congrArg (fun q => q.2.1) e2
  subst e2
  exact ⟨_, rfl, frm_ovl, (RI_clear h).pb, hr⟩
theorem Y_error {A d : Nat} {S : Sc} {N : Nat → Nat → Int32} {J : Nat → Nat → Int64} {B : Nat} {T : Tx} {ρ : Rw} {P : Pst9} {V : Sav} (hs : Scn A S) (h : RI B T ρ P V (pbM A N)) (hB : B < 990000) : Wp (d + 9) 65 [.ref (A + 1)] (S, N, J) (fun rs w' => ∃ N', w' = (S, N', J) ∧ Frm A N N' ∧ RI B T ρ P V (pbM A N') ∧ rs = .inl (some (.int (mTv (mEnd T.1 T.2))))) := by
  refine Wp_mono (lift hs rfl (C_error hs.1 h.1)) (fun rs w' hw => ?_)
  obtain ⟨M', ⟨hr, M2, e2, hT, ho⟩, rfl⟩ := hw
  have e2 : M' = M2 := congrArg (fun q => q.2.1) e2
  subst e2
  exact ⟨_, rfl, frm_ovl, (RI_2 h hT ho).pb, hr⟩
/-- the row that a story loads -/
def ldR (T : Tx) : Rw × Int32 := mLd T.1 T.2 (mHS T.1 T.2) 90 (mHd4 T.1 T.2).1 (rClean (fun _ => 0) (nI (mHS T.1 T.2)) (nI (mHd3 T.1 T.2).2) (nI (mHd4 T.1 T.2).2)) 0
theorem Y_load {A d : Nat} {S : Sc} {N : Nat → Nat → Int32} {J : Nat → Nat → Int64} {B : Nat} {T : Tx} {ρ : Rw} {P : Pst9} {V : Sav} (hs : Scn A S) (h : RI B T ρ P V (pbM A N)) (hB : B < 990000) (hg : (mEnd T.1 T.2).1 = true) {B' : Nat} (hI' : I2 B' (ldR T).1) : Wp (d + 9) 66 [.ref (A + 1)] (S, N, J) (fun rs w' => ∃ N', w' = (S, N', J) ∧ Frm A N N' ∧ RI B' T (ldR T).1 (0, P.2) (fun _ => false, V.2) (pbM A N') ∧ rs = .inl (some (.int (ldR T).2))) := by
  refine Wp_mono (lift hs rfl (C_load_good hs.1 h.1 hg (fun _ => 0))) (fun rs w' hw => ?_)
  obtain ⟨M', ⟨hr, M2, e2, hT, hq, k18, k181, k122, _⟩, rfl⟩ := hw
  have e2 : M' = M2 := congrArg (fun q => q.2.1) e2
  subst e2
  exact ⟨_, rfl, frm_ovl, (RI_load h hT ⟨hq, hI'⟩ k18 k181 k122).pb, hr⟩
