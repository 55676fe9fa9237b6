/-! the tables are right -/
theorem ok_0 : okM 0 = true := by decide +kernel
theorem ok_1 : okM 1 = true := by decide +kernel
theorem ok_2 : okM 2 = true := by decide +kernel
theorem ok_3 : okM 3 = true := by decide +kernel
theorem ok_4 : okM 4 = true := by decide +kernel
theorem ok_5 : okM 5 = true := by decide +kernel
theorem ok_6 : okM 6 = true := by decide +kernel
theorem ok_7 : okM 7 = true := by decide +kernel
theorem ok_8 : okM 8 = true := by decide +kernel
theorem ok_9 : okM 9 = true := by decide +kernel
theorem ok_10 : okM 10 = true := by decide +kernel
theorem ok_11 : okM 11 = true := by decide +kernel
theorem ok_12 : okM 12 = true := by decide +kernel
theorem ok_13 : okM 13 = true := by decide +kernel
theorem ok_14 : okM 14 = true := by decide +kernel
theorem ok_15 : okM 15 = true := by decide +kernel
theorem ok_16 : okM 16 = true := by decide +kernel
theorem ok_17 : okM 17 = true := by decide +kernel
theorem ok_18 : okM 18 = true := by decide +kernel
theorem ok_19 : okM 19 = true := by decide +kernel
theorem ok_20 : okM 20 = true := by decide +kernel
theorem ok_21 : okM 21 = true := by decide +kernel
theorem ok_22 : okM 22 = true := by decide +kernel
theorem ok_23 : okM 23 = true := by decide +kernel
theorem ok_24 : okM 24 = true := by decide +kernel
theorem ok_25 : okM 25 = true := by decide +kernel
theorem ok_26 : okM 26 = true := by decide +kernel
theorem ok_27 : okM 27 = true := by decide +kernel
theorem ok_28 : okM 28 = true := by decide +kernel
theorem ok_29 : okM 29 = true := by decide +kernel
theorem ok_30 : okM 30 = true := by decide +kernel
theorem ok_31 : okM 31 = true := by decide +kernel
theorem ok_32 : okM 32 = true := by decide +kernel
theorem ok_33 : okM 33 = true := by decide +kernel
theorem ok_34 : okM 34 = true := by decide +kernel
theorem ok_35 : okM 35 = true := by decide +kernel
theorem ok_36 : okM 36 = true := by decide +kernel
theorem ok_37 : okM 37 = true := by decide +kernel
theorem ok_38 : okM 38 = true := by decide +kernel
theorem ok_39 : okM 39 = true := by decide +kernel
theorem ok_40 : okM 40 = true := by decide +kernel
theorem ok_41 : okM 41 = true := by decide +kernel
theorem ok_42 : okM 42 = true := by decide +kernel
theorem ok_43 : okM 43 = true := by decide +kernel
theorem ok_44 : okM 44 = true := by decide +kernel
theorem ok_45 : okM 45 = true := by decide +kernel
theorem ok_46 : okM 46 = true := by decide +kernel
theorem ok_47 : okM 47 = true := by decide +kernel
theorem ok_48 : okM 48 = true := by decide +kernel
theorem ok_49 : okM 49 = true := by decide +kernel
theorem ok_50 : okM 50 = true := by decide +kernel
theorem ok_51 : okM 51 = true := by decide +kernel
theorem ok_52 : okM 52 = true := by decide +kernel
theorem ok_53 : okM 53 = true := by decide +kernel
theorem ok_54 : okM 54 = true := by decide +kernel
theorem ok_55 : okM 55 = true := by decide +kernel
theorem ok_56 : okM 56 = true := by decide +kernel
theorem ok_57 : okM 57 = true := by decide +kernel
theorem ok_58 : okM 58 = true := by decide +kernel
theorem ok_59 : okM 59 = true := by decide +kernel
theorem ok_60 : okM 60 = true := by decide +kernel
theorem ok_61 : okM 61 = true := by decide +kernel
theorem okr_0 (j : Nat) (h1 : 0 ≤ j) (h2 : j < 62) : okM j = true := by
  obtain ⟨k, rfl⟩ : ∃ k, j = 0 + k := ⟨j - 0, by omega⟩
  match k, h2 with
  | 0, _ => exact ok_0
  | 1, _ => exact ok_1
  | 2, _ => exact ok_2
  | 3, _ => exact ok_3
  | 4, _ => exact ok_4
  | 5, _ => exact ok_5
  | 6, _ => exact ok_6
  | 7, _ => exact ok_7
  | 8, _ => exact ok_8
  | 9, _ => exact ok_9
  | 10, _ => exact ok_10
  | 11, _ => exact ok_11
  | 12, _ => exact ok_12
  | 13, _ => exact ok_13
  | 14, _ => exact ok_14
  | 15, _ => exact ok_15
  | 16, _ => exact ok_16
  | 17, _ => exact ok_17
  | 18, _ => exact ok_18
  | 19, _ => exact ok_19
  | 20, _ => exact ok_20
  | 21, _ => exact ok_21
  | 22, _ => exact ok_22
  | 23, _ => exact ok_23
  | 24, _ => exact ok_24
  | 25, _ => exact ok_25
  | 26, _ => exact ok_26
  | 27, _ => exact ok_27
  | 28, _ => exact ok_28
  | 29, _ => exact ok_29
  | 30, _ => exact ok_30
  | 31, _ => exact ok_31
  | 32, _ => exact ok_32
  | 33, _ => exact ok_33
  | 34, _ => exact ok_34
  | 35, _ => exact ok_35
  | 36, _ => exact ok_36
  | 37, _ => exact ok_37
  | 38, _ => exact ok_38
  | 39, _ => exact ok_39
  | 40, _ => exact ok_40
  | 41, _ => exact ok_41
  | 42, _ => exact ok_42
  | 43, _ => exact ok_43
  | 44, _ => exact ok_44
  | 45, _ => exact ok_45
  | 46, _ => exact ok_46
  | 47, _ => exact ok_47
  | 48, _ => exact ok_48
  | 49, _ => exact ok_49
  | 50, _ => exact ok_50
  | 51, _ => exact ok_51
  | 52, _ => exact ok_52
  | 53, _ => exact ok_53
  | 54, _ => exact ok_54
  | 55, _ => exact ok_55
  | 56, _ => exact ok_56
  | 57, _ => exact ok_57
  | 58, _ => exact ok_58
  | 59, _ => exact ok_59
  | 60, _ => exact ok_60
  | 61, _ => exact ok_61
  | k + 62, h2 => omega
