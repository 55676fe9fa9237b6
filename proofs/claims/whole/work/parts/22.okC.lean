/-! the tables are right -/
theorem ok_130 : okM 130 = true := by decide +kernel
theorem ok_131 : okM 131 = true := by decide +kernel
theorem ok_132 : okM 132 = true := by decide +kernel
theorem ok_133 : okM 133 = true := by decide +kernel
theorem ok_134 : okM 134 = true := by decide +kernel
theorem ok_135 : okM 135 = true := by decide +kernel
theorem ok_136 : okM 136 = true := by decide +kernel
theorem ok_137 : okM 137 = true := by decide +kernel
theorem ok_138 : okM 138 = true := by decide +kernel
theorem ok_139 : okM 139 = true := by decide +kernel
theorem ok_140 : okM 140 = true := by decide +kernel
theorem ok_141 : okM 141 = true := by decide +kernel
theorem ok_142 : okM 142 = true := by decide +kernel
theorem ok_143 : okM 143 = true := by decide +kernel
theorem ok_144 : okM 144 = true := by decide +kernel
theorem ok_145 : okM 145 = true := by decide +kernel
theorem ok_146 : okM 146 = true := by decide +kernel
theorem ok_147 : okM 147 = true := by decide +kernel
theorem ok_148 : okM 148 = true := by decide +kernel
theorem ok_149 : okM 149 = true := by decide +kernel
theorem ok_150 : okM 150 = true := by decide +kernel
theorem ok_151 : okM 151 = true := by decide +kernel
theorem ok_152 : okM 152 = true := by decide +kernel
theorem ok_153 : okM 153 = true := by decide +kernel
theorem ok_154 : okM 154 = true := by decide +kernel
theorem ok_155 : okM 155 = true := by decide +kernel
theorem ok_156 : okM 156 = true := by decide +kernel
theorem ok_157 : okM 157 = true := by decide +kernel
theorem ok_158 : okM 158 = true := by decide +kernel
theorem ok_159 : okM 159 = true := by decide +kernel
theorem ok_160 : okM 160 = true := by decide +kernel
theorem ok_161 : okM 161 = true := by decide +kernel
theorem ok_162 : okM 162 = true := by decide +kernel
theorem ok_163 : okM 163 = true := by decide +kernel
theorem ok_164 : okM 164 = true := by decide +kernel
theorem ok_165 : okM 165 = true := by decide +kernel
theorem ok_166 : okM 166 = true := by decide +kernel
theorem ok_167 : okM 167 = true := by decide +kernel
theorem ok_168 : okM 168 = true := by decide +kernel
theorem ok_169 : okM 169 = true := by decide +kernel
theorem ok_170 : okM 170 = true := by decide +kernel
theorem ok_171 : okM 171 = true := by decide +kernel
theorem ok_172 : okM 172 = true := by decide +kernel
theorem ok_173 : okM 173 = true := by decide +kernel
theorem ok_174 : okM 174 = true := by decide +kernel
theorem ok_175 : okM 175 = true := by decide +kernel
theorem ok_176 : okM 176 = true := by decide +kernel
theorem ok_177 : okM 177 = true := by decide +kernel
theorem ok_178 : okM 178 = true := by decide +kernel
theorem ok_179 : okM 179 = true := by decide +kernel
theorem ok_180 : okM 180 = true := by decide +kernel
theorem ok_181 : okM 181 = true := by decide +kernel
theorem ok_182 : okM 182 = true := by decide +kernel
theorem ok_183 : okM 183 = true := by decide +kernel
theorem ok_184 : okM 184 = true := by decide +kernel
theorem ok_185 : okM 185 = true := by decide +kernel
theorem ok_186 : okM 186 = true := by decide +kernel
theorem ok_187 : okM 187 = true := by decide +kernel
theorem ok_188 : okM 188 = true := by decide +kernel
theorem ok_189 : okM 189 = true := by decide +kernel
theorem ok_190 : okM 190 = true := by decide +kernel
theorem ok_191 : okM 191 = true := by decide +kernel
theorem ok_192 : okM 192 = true := by decide +kernel
theorem ok_193 : okM 193 = true := by decide +kernel
theorem ok_194 : okM 194 = true := by decide +kernel
theorem okr_130 (j : Nat) (h1 : 130 ≤ j) (h2 : j < 195) : okM j = true := by
  obtain ⟨k, rfl⟩ : ∃ k, j = 130 + k := ⟨j - 130, by omega⟩
  match k, h2 with
  | 0, _ => exact ok_130
  | 1, _ => exact ok_131
  | 2, _ => exact ok_132
  | 3, _ => exact ok_133
  | 4, _ => exact ok_134
  | 5, _ => exact ok_135
  | 6, _ => exact ok_136
  | 7, _ => exact ok_137
  | 8, _ => exact ok_138
  | 9, _ => exact ok_139
  | 10, _ => exact ok_140
  | 11, _ => exact ok_141
  | 12, _ => exact ok_142
  | 13, _ => exact ok_143
  | 14, _ => exact ok_144
  | 15, _ => exact ok_145
  | 16, _ => exact ok_146
  | 17, _ => exact ok_147
  | 18, _ => exact ok_148
  | 19, _ => exact ok_149
  | 20, _ => exact ok_150
  | 21, _ => exact ok_151
  | 22, _ => exact ok_152
  | 23, _ => exact ok_153
  | 24, _ => exact ok_154
  | 25, _ => exact ok_155
  | 26, _ => exact ok_156
  | 27, _ => exact ok_157
  | 28, _ => exact ok_158
  | 29, _ => exact ok_159
  | 30, _ => exact ok_160
  | 31, _ => exact ok_161
  | 32, _ => exact ok_162
  | 33, _ => exact ok_163
  | 34, _ => exact ok_164
  | 35, _ => exact ok_165
  | 36, _ => exact ok_166
  | 37, _ => exact ok_167
  | 38, _ => exact ok_168
  | 39, _ => exact ok_169
  | 40, _ => exact ok_170
  | 41, _ => exact ok_171
  | 42, _ => exact ok_172
  | 43, _ => exact ok_173
  | 44, _ => exact ok_174
  | 45, _ => exact ok_175
  | 46, _ => exact ok_176
  | 47, _ => exact ok_177
  | 48, _ => exact ok_178
  | 49, _ => exact ok_179
  | 50, _ => exact ok_180
  | 51, _ => exact ok_181
  | 52, _ => exact ok_182
  | 53, _ => exact ok_183
  | 54, _ => exact ok_184
  | 55, _ => exact ok_185
  | 56, _ => exact ok_186
  | 57, _ => exact ok_187
  | 58, _ => exact ok_188
  | 59, _ => exact ok_189
  | 60, _ => exact ok_190
  | 61, _ => exact ok_191
  | 62, _ => exact ok_192
  | 63, _ => exact ok_193
  | 64, _ => exact ok_194
  | k + 65, h2 => omega
