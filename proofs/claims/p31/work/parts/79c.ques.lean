/-! THE CLASS at A: questions: written by wip/p31/ring.py -/
theorem Y_says {A d : Nat} {S : Sc} {N : Nat → Nat → Int32} {J : Nat → Nat → Int64} {B : Nat} {T : Tx} {ρ : Rw} {P : Pst9} {V : Sav} (hs : Scn A S) (h : RI B T ρ P V (pbM A N)) (hB : B < 990000) {x : Int32} : Wp (d + 9) 69 [.ref (A + 1), .int x] (S, N, J) (fun rs w' => ∃ N', w' = (S, N', J) ∧ Frm A N N' ∧ RI B T ρ P V (pbM A N') ∧ rs = cRs (fun c => 2) (aSays ρ (ρ 0).toNatClampNeg x)) := by
  have hI := h.2.1.1.I2 h.2.1.2
  have hBB : B < 1000000 := by omega
  refine Wp_mono (lift hs rfl (C_says hs.1 hI)) (fun rs w' hw => ?_)
  obtain ⟨M', ⟨M2, e2, hJk, hr⟩, rfl⟩ := hw
  have e2 : M' = M2 := congrArg (fun q => q.2.1) e2
  subst e2
  refine ⟨_, rfl, frm_ovl, (h.jk hJk).pb, ?_⟩
  rw [← eq_says h.2.1]
  exact hr
theorem Y_why {A d : Nat} {S : Sc} {N : Nat → Nat → Int32} {J : Nat → Nat → Int64} {B : Nat} {T : Tx} {ρ : Rw} {P : Pst9} {V : Sav} (hs : Scn A S) (h : RI B T ρ P V (pbM A N)) (hB : B < 990000) {x : Int32} : Wp (d + 9) 70 [.ref (A + 1), .int x] (S, N, J) (fun rs w' => ∃ N', w' = (S, N', J) ∧ Frm A N N' ∧ RI B T ρ P V (pbM A N') ∧ rs = cRs (fun c => 2) (aWhy ρ (ρ 0).toNatClampNeg x)) := by
  have hI := h.2.1.1.I2 h.2.1.2
  have hBB : B < 1000000 := by omega
  refine Wp_mono (lift hs rfl (C_why hs.1 hI)) (fun rs w' hw => ?_)
  obtain ⟨M', ⟨M2, e2, hJk, hr⟩, rfl⟩ := hw
  have e2 : M' = M2 := congrArg (fun q => q.2.1) e2
  subst e2
  refine ⟨_, rfl, frm_ovl, (h.jk hJk).pb, ?_⟩
  rw [← eq_why h.2.1]
  exact hr
theorem Y_share {A d : Nat} {S : Sc} {N : Nat → Nat → Int32} {J : Nat → Nat → Int64} {B : Nat} {T : Tx} {ρ : Rw} {P : Pst9} {V : Sav} (hs : Scn A S) (h : RI B T ρ P V (pbM A N)) (hB : B < 990000) {x : Int32} : Wp (d + 9) 71 [.ref (A + 1), .int x] (S, N, J) (fun rs w' => ∃ N', w' = (S, N', J) ∧ Frm A N N' ∧ RI B T ρ P V (pbM A N') ∧ rs = cRs (fun c => 2) (aShare ρ (ρ 0).toNatClampNeg x)) := by
  have hI := h.2.1.1.I2 h.2.1.2
  have hBB : B < 1000000 := by omega
  refine Wp_mono (lift hs rfl (C_share hs.1 hI)) (fun rs w' hw => ?_)
  obtain ⟨M', ⟨M2, e2, hJk, hr⟩, rfl⟩ := hw
  have e2 : M' = M2 := congrArg (fun q => q.2.1) e2
  subst e2
  refine ⟨_, rfl, frm_ovl, (h.jk hJk).pb, ?_⟩
  rw [← eq_share h.2.1]
  exact hr
theorem Y_cell {A d : Nat} {S : Sc} {N : Nat → Nat → Int32} {J : Nat → Nat → Int64} {B : Nat} {T : Tx} {ρ : Rw} {P : Pst9} {V : Sav} (hs : Scn A S) (h : RI B T ρ P V (pbM A N)) (hB : B < 990000) {x : Int32} {i : Int32} {z : Int32} : Wp (d + 8) 68 [.ref (A + 1), .int x, .int i, .int z] (S, N, J) (fun rs w' => ∃ N', w' = (S, N', J) ∧ Frm A N N' ∧ RI B T ρ P V (pbM A N') ∧ rs = cRs (fun c => if c = 1 then 2 else 0) (aCell ρ (ρ 0).toNatClampNeg x i z)) := by
  have hI := h.2.1.1.I2 h.2.1.2
  have hBB : B < 1000000 := by omega
  refine Wp_mono (lift hs rfl (C_cell hs.1 hI)) (fun rs w' hw => ?_)
  obtain ⟨M', ⟨M2, e2, hJk, hr⟩, rfl⟩ := hw
  have e2 : M' = M2 := congrArg (fun q => q.2.1) e2
  subst e2
  refine ⟨_, rfl, frm_ovl, (h.jk hJk).pb, ?_⟩
  rw [← eq_cell h.2.1]
  exact hr
theorem Y_serviceAt {A d : Nat} {S : Sc} {N : Nat → Nat → Int32} {J : Nat → Nat → Int64} {B : Nat} {T : Tx} {ρ : Rw} {P : Pst9} {V : Sav} (hs : Scn A S) (h : RI B T ρ P V (pbM A N)) (hB : B < 990000) {x : Int32} {z : Int32} : Wp (d + 8) 72 [.ref (A + 1), .int x, .int z] (S, N, J) (fun rs w' => ∃ N', w' = (S, N', J) ∧ Frm A N N' ∧ RI B T ρ P V (pbM A N') ∧ rs = cRs (fun c => 0) (aServ ρ x z)) := by
  have hI := h.2.1.1.I2 h.2.1.2
  have hBB : B < 1000000 := by omega
  refine Wp_mono (lift hs rfl (C_serviceAt hs.1 hI)) (fun rs w' hw => ?_)
  obtain ⟨M', ⟨M2, e2, hJk, hr⟩, rfl⟩ := hw
  have e2 : M' = M2 := congrArg (fun q => q.2.1) e2
  subst e2
  refine ⟨_, rfl, frm_ovl, (h.jk hJk).pb, ?_⟩
  rw [← eq_serv h.2.1]
  exact hr
theorem Y_lastCut {A d : Nat} {S : Sc} {N : Nat → Nat → Int32} {J : Nat → Nat → Int64} {B : Nat} {T : Tx} {ρ : Rw} {P : Pst9} {V : Sav} (hs : Scn A S) (h : RI B T ρ P V (pbM A N)) (hB : B < 990000) {x : Int32} : Wp (d + 8) 73 [.ref (A + 1), .int x] (S, N, J) (fun rs w' => ∃ N', w' = (S, N', J) ∧ Frm A N N' ∧ RI B T ρ P V (pbM A N') ∧ rs = cRs (fun c => 0) (aLast ρ x)) := by
  have hI := h.2.1.1.I2 h.2.1.2
  have hBB : B < 1000000 := by omega
  refine Wp_mono (lift hs rfl (C_lastCut hs.1 hI)) (fun rs w' hw => ?_)
  obtain ⟨M', ⟨M2, e2, hJk, hr⟩, rfl⟩ := hw
  have e2 : M' = M2 := congrArg (fun q => q.2.1) e2
  subst e2
  refine ⟨_, rfl, frm_ovl, (h.jk hJk).pb, ?_⟩
  rw [← eq_last h.2.1]
  exact hr
theorem Y_about {A d : Nat} {S : Sc} {N : Nat → Nat → Int32} {J : Nat → Nat → Int64} {B : Nat} {T : Tx} {ρ : Rw} {P : Pst9} {V : Sav} (hs : Scn A S) (h : RI B T ρ P V (pbM A N)) (hB : B < 990000) {x : Int32} : Wp (d + 8) 67 [.ref (A + 1), .int x] (S, N, J) (fun rs w' => ∃ N', w' = (S, N', J) ∧ Frm A N N' ∧ RI B T ρ P V (pbM A N') ∧ rs = cRs (fun c => 0) (aAbout ρ (ρ 0).toNatClampNeg x)) := by
  have hI := h.2.1.1.I2 h.2.1.2
  have hBB : B < 1000000 := by omega
  refine Wp_mono (lift hs rfl (C_about hs.1 hI)) (fun rs w' hw => ?_)
  obtain ⟨M', ⟨M2, e2, hJk, hr⟩, rfl⟩ := hw
  have e2 : M' = M2 := congrArg (fun q => q.2.1) e2
  subst e2
  refine ⟨_, rfl, frm_ovl, (h.jk hJk).pb, ?_⟩
  rw [← eq_about h.2.1]
  exact hr
theorem Y_dueIn {A d : Nat} {S : Sc} {N : Nat → Nat → Int32} {J : Nat → Nat → Int64} {B : Nat} {T : Tx} {ρ : Rw} {P : Pst9} {V : Sav} (hs : Scn A S) (h : RI B T ρ P V (pbM A N)) (hB : B < 990000) {x : Int32} {y : Int32} {z : Int32} : Wp (d + 9) 85 [.ref (A + 1), .int x, .int y, .int z] (S, N, J) (fun rs w' => ∃ N', w' = (S, N', J) ∧ Frm A N N' ∧ RI B T ρ P V (pbM A N') ∧ rs = cRs (fun c => if c = 1 then 0 else 1) (aDue ρ (ρ 17).toNatClampNeg x y z)) := by
  have hI := h.2.1.1.I2 h.2.1.2
  have hBB : B < 1000000 := by omega
  refine Wp_mono (lift hs rfl (C_dueIn hs.1 hI)) (fun rs w' hw => ?_)
  obtain ⟨M', ⟨M2, e2, hJk, hr⟩, rfl⟩ := hw
  have e2 : M' = M2 := congrArg (fun q => q.2.1) e2
  subst e2
  refine ⟨_, rfl, frm_ovl, (h.jk hJk).pb, ?_⟩
  rw [← eq_due h.2.1]
  exact hr
theorem Y_dueFirst {A d : Nat} {S : Sc} {N : Nat → Nat → Int32} {J : Nat → Nat → Int64} {B : Nat} {T : Tx} {ρ : Rw} {P : Pst9} {V : Sav} (hs : Scn A S) (h : RI B T ρ P V (pbM A N)) (hB : B < 990000)  : Wp (d + 9) 86 [.ref (A + 1)] (S, N, J) (fun rs w' => ∃ N', w' = (S, N', J) ∧ Frm A N N' ∧ RI B T ρ P V (pbM A N') ∧ rs = cRs (fun c => 0) (aFirst ρ (ρ 17).toNatClampNeg)) := by
  have hI := h.2.1.1.I2 h.2.1.2
  have hBB : B < 1000000 := by omega
  refine Wp_mono (lift hs rfl (C_dueFirst hs.1 hI)) (fun rs w' hw => ?_)
  obtain ⟨M', ⟨M2, e2, hJk, hr⟩, rfl⟩ := hw
  have e2 : M' = M2 := congrArg (fun q => q.2.1) e2
  subst e2
  refine ⟨_, rfl, frm_ovl, (h.jk hJk).pb, ?_⟩
  rw [← eq_first h.2.1]
  exact hr
theorem Y_after {A d : Nat} {S : Sc} {N : Nat → Nat → Int32} {J : Nat → Nat → Int64} {B : Nat} {T : Tx} {ρ : Rw} {P : Pst9} {V : Sav} (hs : Scn A S) (h : RI B T ρ P V (pbM A N)) (hB : B < 990000) {x : Int32} {y : Int32} : Wp (d + 9) 82 [.ref (A + 1), .int x, .int y] (S, N, J) (fun rs w' => ∃ N', w' = (S, N', J) ∧ Frm A N N' ∧ RI B T ρ P V (pbM A N') ∧ rs = cRs (fun c => if c = 1 then 0 else 1) (aAfter ρ x y)) := by
  have hI := h.2.1.1.I2 h.2.1.2
  have hBB : B < 1000000 := by omega
  refine Wp_mono (lift hs rfl (C_after hs.1 hI hBB)) (fun rs w' hw => ?_)
  obtain ⟨M', ⟨M2, e2, hJk, hr⟩, rfl⟩ := hw
  have e2 : M' = M2 := congrArg (fun q => q.2.1) e2
  subst e2
  refine ⟨_, rfl, frm_ovl, (h.jk hJk).pb, ?_⟩
  rw [← eq_after h.2.1]
  exact hr
theorem Y_worst {A d : Nat} {S : Sc} {N : Nat → Nat → Int32} {J : Nat → Nat → Int64} {B : Nat} {T : Tx} {ρ : Rw} {P : Pst9} {V : Sav} (hs : Scn A S) (h : RI B T ρ P V (pbM A N)) (hB : B < 990000)  : Wp (d + 9) 83 [.ref (A + 1)] (S, N, J) (fun rs w' => ∃ N', w' = (S, N', J) ∧ Frm A N N' ∧ RI B T ρ P V (pbM A N') ∧ rs = cRs (fun c => 1) (aWorst ρ)) := by
  have hI := h.2.1.1.I2 h.2.1.2
  have hBB : B < 1000000 := by omega
  refine Wp_mono (lift hs rfl (C_worst hs.1 hI hBB)) (fun rs w' hw => ?_)
  obtain ⟨M', ⟨M2, e2, hJk, hr⟩, rfl⟩ := hw
  have e2 : M' = M2 := congrArg (fun q => q.2.1) e2
  subst e2
  refine ⟨_, rfl, frm_ovl, (h.jk hJk).pb, ?_⟩
  rw [← eq_worst h.2.1]
  exact hr
theorem Y_lasts {A d : Nat} {S : Sc} {N : Nat → Nat → Int32} {J : Nat → Nat → Int64} {B : Nat} {T : Tx} {ρ : Rw} {P : Pst9} {V : Sav} (hs : Scn A S) (h : RI B T ρ P V (pbM A N)) (hB : B < 990000) {x : Int32} : Wp (d + 9) 84 [.ref (A + 1), .int x] (S, N, J) (fun rs w' => ∃ N', w' = (S, N', J) ∧ Frm A N N' ∧ RI B T ρ P V (pbM A N') ∧ rs = cRs (fun c => if c = 1 then 0 else 1) (aTill ρ x)) := by
  have hI := h.2.1.1.I2 h.2.1.2
  have hBB : B < 1000000 := by omega
  refine Wp_mono (lift hs rfl (C_lasts hs.1 hI hBB)) (fun rs w' hw => ?_)
  obtain ⟨M', ⟨M2, e2, hJk, hr⟩, rfl⟩ := hw
  have e2 : M' = M2 := congrArg (fun q => q.2.1) e2
  subst e2
  refine ⟨_, rfl, frm_ovl, (h.jk hJk).pb, ?_⟩
  rw [← ((eq_lasts h.2.1 hBB).trans (aTill_e h.2.1.2 hBB).symm)]
  exact hr
theorem Y_script {A d : Nat} {S : Sc} {N : Nat → Nat → Int32} {J : Nat → Nat → Int64} {B : Nat} {T : Tx} {ρ : Rw} {P : Pst9} {V : Sav} (hs : Scn A S) (h : RI B T ρ P V (pbM A N)) (hB : B < 990000) {x : Int32} {told : Int64} : Wp (d + 9) 87 [.ref (A + 1), .int x, .long told] (S, N, J) (fun rs w' => ∃ N', w' = (S, N', J) ∧ Frm A N N' ∧ RI B T ρ P V (pbM A N') ∧ rs = cRs (fun c => 0) (aScript ρ x told)) := by
  have hI := h.2.1.1.I2 h.2.1.2
  have hBB : B < 1000000 := by omega
  refine Wp_mono (lift hs rfl (C_script hs.1 hI hBB)) (fun rs w' hw => ?_)
  obtain ⟨M', ⟨M2, e2, hJk, hr⟩, rfl⟩ := hw
  have e2 : M' = M2 := congrArg (fun q => q.2.1) e2
  subst e2
  refine ⟨_, rfl, frm_ovl, (h.jk hJk).pb, ?_⟩
  rw [← eq_script h.2.1 hBB]
  exact hr
theorem Y_sim {A d : Nat} {S : Sc} {N : Nat → Nat → Int32} {J : Nat → Nat → Int64} {B : Nat} {T : Tx} {ρ : Rw} {P : Pst9} {V : Sav} (hs : Scn A S) (h : RI B T ρ P V (pbM A N)) (hB : B < 990000) {x : Int64} {z : Int32} : Wp (d + 9) 88 [.ref (A + 1), .long x, .int z] (S, N, J) (fun rs w' => ∃ N', w' = (S, N', J) ∧ Frm A N N' ∧ RI B T ρ P V (pbM A N') ∧ rs = cRs (fun c => 0) (aSim ρ x z)) := by
  have hI := h.2.1.1.I2 h.2.1.2
  have hBB : B < 1000000 := by omega
  refine Wp_mono (lift hs rfl (C_sim hs.1 hI hBB)) (fun rs w' hw => ?_)
  obtain ⟨M', ⟨M2, e2, hJk, hr⟩, rfl⟩ := hw
  have e2 : M' = M2 := congrArg (fun q => q.2.1) e2
  subst e2
  refine ⟨_, rfl, frm_ovl, (h.jk hJk).pb, ?_⟩
  rw [← eq_sim h.2.1 hBB]
  exact hr
