/-! the law's table is right; its big callees by name -/
set_option maxRecDepth 100000 in
theorem hd_125 : lw_tbl[548]? = some (hdW 125) := by rfl
theorem hg_125 : wAt 548 (hdW 125) = true := by
  unfold wAt
  rw [hd_125, decide_eq_true rfl, Bool.true_and]
  decide +kernel
set_option maxRecDepth 100000 in
theorem hd_126 : lw_tbl[838]? = some (hdW 126) := by rfl
theorem hg_126 : wAt 838 (hdW 126) = true := by
  unfold wAt
  rw [hd_126, decide_eq_true rfl, Bool.true_and]
  decide +kernel
set_option maxRecDepth 100000 in
theorem hd_127 : lw_tbl[859]? = some (hdW 127) := by rfl
theorem hg_127 : wAt 859 (hdW 127) = true := by
  unfold wAt
  rw [hd_127, decide_eq_true rfl, Bool.true_and]
  decide +kernel
set_option maxRecDepth 100000 in
theorem hd_130 : lw_tbl[884]? = some (hdW 130) := by rfl
theorem hg_130 : wAt 884 (hdW 130) = true := by
  unfold wAt
  rw [hd_130, decide_eq_true rfl, Bool.true_and]
  decide +kernel
def bigA (aux : List Nat) : Bool := match aux with
  | 0 :: jc :: _ => Nat.beq jc 125 || (Nat.beq jc 126 || (Nat.beq jc 127 || Nat.beq jc 130))
  | _ => false
theorem row_big {pc i nx jc p1 p2 p3 p4 : Nat} (h1 : dOk 132 pc (.invokestatic i) nx 3 = true) (h2 : wAt p4 (hdW jc) = true) (h3 : (wAt p3 (.initialized (yN jc).cls) && (decide ((yN jc).cls ≠ "java/lang/invoke/MethodHandle") && (decide ((yN jc).cls ≠ "java/lang/invoke/VarHandle") && (decide ((parseMethodDescriptor (yN jc).desc).map (fun d => d.parameters.length) = some (nA jc)) && (plainName (yN jc).cls && decide (mL jc ≤ mxO 132)))))) = true) (h4 : (wAt p1 (.methodLink (ownO 132) i (yN jc)) && wAt p2 (.static (yN jc))) = true) : okRow 132 pc (.invokestatic i, nx, [0, jc, p1, p2, p3, p4], 0, 0) = true := by
  show (dOk 132 pc (.invokestatic i) nx 3 && ((wAt p4 (hdW jc) && (wAt p3 (.initialized (yN jc).cls) && (decide ((yN jc).cls ≠ "java/lang/invoke/MethodHandle") && (decide ((yN jc).cls ≠ "java/lang/invoke/VarHandle") && (decide ((parseMethodDescriptor (yN jc).desc).map (fun d => d.parameters.length) = some (nA jc)) && (plainName (yN jc).cls && decide (mL jc ≤ mxO 132))))))) && (wAt p1 (.methodLink (ownO 132) i (yN jc)) && wAt p2 (.static (yN jc))))) = true
  rw [h1, h2, h3, h4]
  rfl
theorem okl_132_0 : cd132_0.all (fun q => bigA q.2.2.2.1 || okRow 132 q.1 q.2) = true := by decide +kernel
theorem okl_132_1 : cd132_1.all (fun q => bigA q.2.2.2.1 || okRow 132 q.1 q.2) = true := by decide +kernel
theorem okl_132 : cd132.all (fun q => bigA q.2.2.2.1 || okRow 132 q.1 q.2) = true := by
  unfold cd132
  simp only [List.all_append, Bool.and_eq_true]
  exact ⟨okl_132_0, okl_132_1⟩
set_option maxRecDepth 100000 in
theorem big_132 : cd132.filter (fun q => bigA q.2.2.2.1) = [(30, .invokestatic 225, 33, [0, 125, 546, 547, 9, 548], 0, 0), (37, .invokestatic 229, 40, [0, 126, 836, 837, 9, 838], 0, 0), (98, .invokestatic 232, 101, [0, 130, 882, 883, 9, 884], 0, 0), (109, .invokestatic 232, 112, [0, 130, 882, 883, 9, 884], 0, 0), (174, .invokestatic 225, 177, [0, 125, 546, 547, 9, 548], 0, 0), (181, .invokestatic 229, 184, [0, 126, 836, 837, 9, 838], 0, 0), (210, .invokestatic 240, 213, [0, 127, 857, 858, 9, 859], 0, 0)] := by rfl
theorem okAll (j : Nat) (h : j < 132) : okM j = true := by
  by_cases h1 : j < 62
  · exact okr_0 j (Nat.zero_le _) h1
  by_cases h2 : j < 125
  · exact okr_62 j (by omega) h2
  · exact okr_125 j (by omega) h
theorem okL_at {pc : Nat} {r : Row} (hr : lkp cd132 pc = some r) : okRow 132 pc r = true := by
  obtain ⟨i, hi⟩ := lkp_mem _ _ _ hr
  have hm := List.mem_of_getElem? hi
  have h1 := List.all_eq_true.mp okl_132 (pc, r) hm
  simp only [Bool.or_eq_true] at h1
  rcases h1 with h1 | h1
  · have h2 : (pc, r) ∈ cd132.filter (fun q => bigA q.2.2.2.1) := List.mem_filter.mpr ⟨hm, h1⟩
    rw [big_132] at h2
    simp only [List.mem_cons, List.not_mem_nil, or_false, Prod.mk.injEq] at h2
    rcases h2 with ⟨rfl, rfl, rfl, rfl, rfl, rfl⟩ | ⟨rfl, rfl, rfl, rfl, rfl, rfl⟩ | ⟨rfl, rfl, rfl, rfl, rfl, rfl⟩ | ⟨rfl, rfl, rfl, rfl, rfl, rfl⟩ | ⟨rfl, rfl, rfl, rfl, rfl, rfl⟩ | ⟨rfl, rfl, rfl, rfl, rfl, rfl⟩ | ⟨rfl, rfl, rfl, rfl, rfl, rfl⟩
    · exact row_big (by decide +kernel) hg_125 (by decide +kernel) (by decide +kernel)
    · exact row_big (by decide +kernel) hg_126 (by decide +kernel) (by decide +kernel)
    · exact row_big (by decide +kernel) hg_130 (by decide +kernel) (by decide +kernel)
    · exact row_big (by decide +kernel) hg_130 (by decide +kernel) (by decide +kernel)
    · exact row_big (by decide +kernel) hg_125 (by decide +kernel) (by decide +kernel)
    · exact row_big (by decide +kernel) hg_126 (by decide +kernel) (by decide +kernel)
    · exact row_big (by decide +kernel) hg_127 (by decide +kernel) (by decide +kernel)
  · exact h1
