/-! the law's table is right -/
theorem okl_132_0 : cd132_0.all (fun q => okRow 132 q.1 q.2) = true := by decide +kernel
theorem okl_132_1 : cd132_1.all (fun q => okRow 132 q.1 q.2) = true := by decide +kernel
theorem ok_132 : cd132.all (fun q => okRow 132 q.1 q.2) = true := by
  show cd132.all (fun q => okRow 132 q.1 q.2) = true
  unfold cd132
  simp only [List.all_append, Bool.and_eq_true]
  exact ⟨okl_132_0, okl_132_1⟩
theorem okAll (j : Nat) (h : j < 132) : okM j = true := by
  by_cases h1 : j < 62
  · exact okr_0 j (Nat.zero_le _) h1
  by_cases h2 : j < 125
  · exact okr_62 j (by omega) h2
  · exact okr_125 j (by omega) h
theorem okL_at {pc : Nat} {r : Row} (hr : lkp cd132 pc = some r) : okRow 132 pc r = true := by
  obtain ⟨i, hi⟩ := lkp_mem _ _ _ hr
  exact List.all_eq_true.mp ok_132 (pc, r) (List.mem_of_getElem? hi)
