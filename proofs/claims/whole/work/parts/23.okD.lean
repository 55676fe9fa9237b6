/-! the law's table is right -/
theorem okl_0 : cd195_0.all (fun q => okRow 195 q.1 q.2) = true := by decide +kernel
theorem okl_1 : cd195_1.all (fun q => okRow 195 q.1 q.2) = true := by decide +kernel
theorem okl_2 : cd195_2.all (fun q => okRow 195 q.1 q.2) = true := by decide +kernel
theorem okl_3 : cd195_3.all (fun q => okRow 195 q.1 q.2) = true := by decide +kernel
theorem okl_4 : cd195_4.all (fun q => okRow 195 q.1 q.2) = true := by decide +kernel
theorem okl_5 : cd195_5.all (fun q => okRow 195 q.1 q.2) = true := by decide +kernel
theorem okl_6 : cd195_6.all (fun q => okRow 195 q.1 q.2) = true := by decide +kernel
theorem okl_7 : cd195_7.all (fun q => okRow 195 q.1 q.2) = true := by decide +kernel
theorem okl_8 : cd195_8.all (fun q => okRow 195 q.1 q.2) = true := by decide +kernel
theorem okl_9 : cd195_9.all (fun q => okRow 195 q.1 q.2) = true := by decide +kernel
theorem okl_10 : cd195_10.all (fun q => okRow 195 q.1 q.2) = true := by decide +kernel
theorem okl_11 : cd195_11.all (fun q => okRow 195 q.1 q.2) = true := by decide +kernel
theorem okl_12 : cd195_12.all (fun q => okRow 195 q.1 q.2) = true := by decide +kernel
theorem okl_13 : cd195_13.all (fun q => okRow 195 q.1 q.2) = true := by decide +kernel
theorem ok_195 : okM 195 = true := by
  show cd195.all (fun q => okRow 195 q.1 q.2) = true
  unfold cd195
  simp only [List.all_append, Bool.and_eq_true]
  exact ⟨okl_0, okl_1, okl_2, okl_3, okl_4, okl_5, okl_6, okl_7, okl_8, okl_9, okl_10, okl_11, okl_12, okl_13⟩
theorem okAll (j : Nat) (h : j < 196) : okM j = true := by
  by_cases h1 : j < 65
  · exact okr_0 j (Nat.zero_le _) h1
  by_cases h2 : j < 130
  · exact okr_65 j (by omega) h2
  by_cases h3 : j < 195
  · exact okr_130 j (by omega) h3
  have : j = 195 := by omega
  rw [this]
  exact ok_195
