/-! the tables are right -/
theorem ok_62 : okM 62 = true := by decide +kernel
theorem ok_63 : okM 63 = true := by decide +kernel
theorem ok_64 : okM 64 = true := by decide +kernel
theorem ok_65 : okM 65 = true := by decide +kernel
theorem ok_66 : okM 66 = true := by decide +kernel
theorem ok_67 : okM 67 = true := by decide +kernel
theorem ok_68 : okM 68 = true := by decide +kernel
theorem ok_69 : okM 69 = true := by decide +kernel
theorem ok_70 : okM 70 = true := by decide +kernel
theorem ok_71 : okM 71 = true := by decide +kernel
theorem ok_72 : okM 72 = true := by decide +kernel
theorem ok_73 : okM 73 = true := by decide +kernel
theorem ok_74 : okM 74 = true := by decide +kernel
theorem ok_75 : okM 75 = true := by decide +kernel
theorem ok_76 : okM 76 = true := by decide +kernel
theorem ok_77 : okM 77 = true := by decide +kernel
theorem ok_78 : okM 78 = true := by decide +kernel
theorem ok_79 : okM 79 = true := by decide +kernel
theorem ok_80 : okM 80 = true := by decide +kernel
theorem ok_81 : okM 81 = true := by decide +kernel
theorem ok_82 : okM 82 = true := by decide +kernel
theorem ok_83 : okM 83 = true := by decide +kernel
theorem ok_84 : okM 84 = true := by decide +kernel
theorem ok_85 : okM 85 = true := by decide +kernel
theorem ok_86 : okM 86 = true := by decide +kernel
theorem ok_87 : okM 87 = true := by decide +kernel
theorem ok_88 : okM 88 = true := by decide +kernel
theorem ok_89 : okM 89 = true := by decide +kernel
theorem ok_90 : okM 90 = true := by decide +kernel
theorem ok_91 : okM 91 = true := by decide +kernel
theorem ok_92 : okM 92 = true := by decide +kernel
theorem ok_93 : okM 93 = true := by decide +kernel
theorem ok_94 : okM 94 = true := by decide +kernel
theorem ok_95 : okM 95 = true := by decide +kernel
theorem ok_96 : okM 96 = true := by decide +kernel
theorem ok_97 : okM 97 = true := by decide +kernel
theorem ok_98 : okM 98 = true := by decide +kernel
theorem ok_99 : okM 99 = true := by decide +kernel
theorem ok_100 : okM 100 = true := by decide +kernel
theorem ok_101 : okM 101 = true := by decide +kernel
theorem ok_102 : okM 102 = true := by decide +kernel
theorem ok_103 : okM 103 = true := by decide +kernel
theorem ok_104 : okM 104 = true := by decide +kernel
theorem ok_105 : okM 105 = true := by decide +kernel
theorem ok_106 : okM 106 = true := by decide +kernel
theorem ok_107 : okM 107 = true := by decide +kernel
theorem ok_108 : okM 108 = true := by decide +kernel
theorem ok_109 : okM 109 = true := by decide +kernel
theorem ok_110 : okM 110 = true := by decide +kernel
theorem ok_111 : okM 111 = true := by decide +kernel
theorem ok_112 : okM 112 = true := by decide +kernel
theorem ok_113 : okM 113 = true := by decide +kernel
theorem ok_114 : okM 114 = true := by decide +kernel
theorem ok_115 : okM 115 = true := by decide +kernel
theorem ok_116 : okM 116 = true := by decide +kernel
theorem ok_117 : okM 117 = true := by decide +kernel
theorem ok_118 : okM 118 = true := by decide +kernel
theorem ok_119 : okM 119 = true := by decide +kernel
theorem ok_120 : okM 120 = true := by decide +kernel
theorem ok_121 : okM 121 = true := by decide +kernel
theorem ok_122 : okM 122 = true := by decide +kernel
theorem ok_123 : okM 123 = true := by decide +kernel
theorem ok_124 : okM 124 = true := by decide +kernel
theorem okr_62 (j : Nat) (h1 : 62 ≤ j) (h2 : j < 125) : okM j = true := by
  obtain ⟨k, rfl⟩ : ∃ k, j = 62 + k := ⟨j - 62, by omega⟩
  match k, h2 with
  | 0, _ => exact ok_62
  | 1, _ => exact ok_63
  | 2, _ => exact ok_64
  | 3, _ => exact ok_65
  | 4, _ => exact ok_66
  | 5, _ => exact ok_67
  | 6, _ => exact ok_68
  | 7, _ => exact ok_69
  | 8, _ => exact ok_70
  | 9, _ => exact ok_71
  | 10, _ => exact ok_72
  | 11, _ => exact ok_73
  | 12, _ => exact ok_74
  | 13, _ => exact ok_75
  | 14, _ => exact ok_76
  | 15, _ => exact ok_77
  | 16, _ => exact ok_78
  | 17, _ => exact ok_79
  | 18, _ => exact ok_80
  | 19, _ => exact ok_81
  | 20, _ => exact ok_82
  | 21, _ => exact ok_83
  | 22, _ => exact ok_84
  | 23, _ => exact ok_85
  | 24, _ => exact ok_86
  | 25, _ => exact ok_87
  | 26, _ => exact ok_88
  | 27, _ => exact ok_89
  | 28, _ => exact ok_90
  | 29, _ => exact ok_91
  | 30, _ => exact ok_92
  | 31, _ => exact ok_93
  | 32, _ => exact ok_94
  | 33, _ => exact ok_95
  | 34, _ => exact ok_96
  | 35, _ => exact ok_97
  | 36, _ => exact ok_98
  | 37, _ => exact ok_99
  | 38, _ => exact ok_100
  | 39, _ => exact ok_101
  | 40, _ => exact ok_102
  | 41, _ => exact ok_103
  | 42, _ => exact ok_104
  | 43, _ => exact ok_105
  | 44, _ => exact ok_106
  | 45, _ => exact ok_107
  | 46, _ => exact ok_108
  | 47, _ => exact ok_109
  | 48, _ => exact ok_110
  | 49, _ => exact ok_111
  | 50, _ => exact ok_112
  | 51, _ => exact ok_113
  | 52, _ => exact ok_114
  | 53, _ => exact ok_115
  | 54, _ => exact ok_116
  | 55, _ => exact ok_117
  | 56, _ => exact ok_118
  | 57, _ => exact ok_119
  | 58, _ => exact ok_120
  | 59, _ => exact ok_121
  | 60, _ => exact ok_122
  | 61, _ => exact ok_123
  | 62, _ => exact ok_124
  | k + 63, h2 => omega
