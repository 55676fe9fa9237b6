/-! the tables are right -/
theorem okl_125_0 : cd125_0.all (fun q => okRow 125 q.1 q.2) = true := by decide +kernel
theorem okl_125_1 : cd125_1.all (fun q => okRow 125 q.1 q.2) = true := by decide +kernel
theorem okl_125_2 : cd125_2.all (fun q => okRow 125 q.1 q.2) = true := by decide +kernel
theorem okl_125_3 : cd125_3.all (fun q => okRow 125 q.1 q.2) = true := by decide +kernel
theorem ok_125 : okM 125 = true := by
  show cd125.all (fun q => okRow 125 q.1 q.2) = true
  unfold cd125
  simp only [List.all_append, Bool.and_eq_true]
  exact ⟨okl_125_0, okl_125_1, okl_125_2, okl_125_3⟩
theorem okl_126_0 : cd126_0.all (fun q => okRow 126 q.1 q.2) = true := by decide +kernel
theorem okl_126_1 : cd126_1.all (fun q => okRow 126 q.1 q.2) = true := by decide +kernel
theorem okl_126_2 : cd126_2.all (fun q => okRow 126 q.1 q.2) = true := by decide +kernel
theorem okl_126_3 : cd126_3.all (fun q => okRow 126 q.1 q.2) = true := by decide +kernel
theorem okl_126_4 : cd126_4.all (fun q => okRow 126 q.1 q.2) = true := by decide +kernel
theorem okl_126_5 : cd126_5.all (fun q => okRow 126 q.1 q.2) = true := by decide +kernel
theorem okl_126_6 : cd126_6.all (fun q => okRow 126 q.1 q.2) = true := by decide +kernel
theorem okl_126_7 : cd126_7.all (fun q => okRow 126 q.1 q.2) = true := by decide +kernel
theorem ok_126 : okM 126 = true := by
  show cd126.all (fun q => okRow 126 q.1 q.2) = true
  unfold cd126
  simp only [List.all_append, Bool.and_eq_true]
  exact ⟨okl_126_0, okl_126_1, okl_126_2, okl_126_3, okl_126_4, okl_126_5, okl_126_6, okl_126_7⟩
theorem okl_127_0 : cd127_0.all (fun q => okRow 127 q.1 q.2) = true := by decide +kernel
theorem okl_127_1 : cd127_1.all (fun q => okRow 127 q.1 q.2) = true := by decide +kernel
theorem okl_127_2 : cd127_2.all (fun q => okRow 127 q.1 q.2) = true := by decide +kernel
theorem okl_127_3 : cd127_3.all (fun q => okRow 127 q.1 q.2) = true := by decide +kernel
theorem okl_127_4 : cd127_4.all (fun q => okRow 127 q.1 q.2) = true := by decide +kernel
theorem okl_127_5 : cd127_5.all (fun q => okRow 127 q.1 q.2) = true := by decide +kernel
theorem ok_127 : okM 127 = true := by
  show cd127.all (fun q => okRow 127 q.1 q.2) = true
  unfold cd127
  simp only [List.all_append, Bool.and_eq_true]
  exact ⟨okl_127_0, okl_127_1, okl_127_2, okl_127_3, okl_127_4, okl_127_5⟩
theorem ok_128 : okM 128 = true := by decide +kernel
theorem ok_129 : okM 129 = true := by decide +kernel
theorem okl_130_0 : cd130_0.all (fun q => okRow 130 q.1 q.2) = true := by decide +kernel
theorem okl_130_1 : cd130_1.all (fun q => okRow 130 q.1 q.2) = true := by decide +kernel
theorem okl_130_2 : cd130_2.all (fun q => okRow 130 q.1 q.2) = true := by decide +kernel
theorem ok_130 : okM 130 = true := by
  show cd130.all (fun q => okRow 130 q.1 q.2) = true
  unfold cd130
  simp only [List.all_append, Bool.and_eq_true]
  exact ⟨okl_130_0, okl_130_1, okl_130_2⟩
theorem ok_131 : okM 131 = true := by decide +kernel
theorem okr_125 (j : Nat) (h1 : 125 ≤ j) (h2 : j < 132) : okM j = true := by
  obtain ⟨k, rfl⟩ : ∃ k, j = 125 + k := ⟨j - 125, by omega⟩
  match k, h2 with
  | 0, _ => exact ok_125
  | 1, _ => exact ok_126
  | 2, _ => exact ok_127
  | 3, _ => exact ok_128
  | 4, _ => exact ok_129
  | 5, _ => exact ok_130
  | 6, _ => exact ok_131
  | k + 7, h2 => omega
