/-! the table of the methods is sound -/
theorem okm_95 : okMb 95 = true := by decide +kernel
theorem okA_96 : ∀ a, a < 96 → okMb a = true := lt_s okA_95 okm_95
theorem okm_96 : okMb 96 = true := by decide +kernel
theorem okA_97 : ∀ a, a < 97 → okMb a = true := lt_s okA_96 okm_96
theorem okm_97 : okMb 97 = true := by decide +kernel
theorem okA_98 : ∀ a, a < 98 → okMb a = true := lt_s okA_97 okm_97
theorem okm_98 : okMb 98 = true := by decide +kernel
theorem okA_99 : ∀ a, a < 99 → okMb a = true := lt_s okA_98 okm_98
theorem okm_99 : okMb 99 = true := by decide +kernel
theorem okA_100 : ∀ a, a < 100 → okMb a = true := lt_s okA_99 okm_99
theorem okm_100 : okMb 100 = true := by decide +kernel
theorem okA_101 : ∀ a, a < 101 → okMb a = true := lt_s okA_100 okm_100
theorem okm_101 : okMb 101 = true := by decide +kernel
theorem okA_102 : ∀ a, a < 102 → okMb a = true := lt_s okA_101 okm_101
theorem okm_102 : okMb 102 = true := by decide +kernel
theorem okA_103 : ∀ a, a < 103 → okMb a = true := lt_s okA_102 okm_102
theorem okm_103 : okMb 103 = true := by decide +kernel
theorem okA_104 : ∀ a, a < 104 → okMb a = true := lt_s okA_103 okm_103
theorem okm_104 : okMb 104 = true := by decide +kernel
theorem okA_105 : ∀ a, a < 105 → okMb a = true := lt_s okA_104 okm_104
theorem okm_105 : okMb 105 = true := by decide +kernel
theorem okA_106 : ∀ a, a < 106 → okMb a = true := lt_s okA_105 okm_105
theorem okm_106 : okMb 106 = true := by decide +kernel
theorem okA_107 : ∀ a, a < 107 → okMb a = true := lt_s okA_106 okm_106
theorem okm_107 : okMb 107 = true := by decide +kernel
theorem okA_108 : ∀ a, a < 108 → okMb a = true := lt_s okA_107 okm_107
theorem okm_108 : okMb 108 = true := by decide +kernel
theorem okA_109 : ∀ a, a < 109 → okMb a = true := lt_s okA_108 okm_108
theorem okm_109 : okMb 109 = true := by decide +kernel
theorem okA_110 : ∀ a, a < 110 → okMb a = true := lt_s okA_109 okm_109
theorem okm_110 : okMb 110 = true := by decide +kernel
theorem okA_111 : ∀ a, a < 111 → okMb a = true := lt_s okA_110 okm_110
theorem okm_111 : okMb 111 = true := by decide +kernel
theorem okA_112 : ∀ a, a < 112 → okMb a = true := lt_s okA_111 okm_111
theorem okm_112 : okMb 112 = true := by decide +kernel
theorem okA_113 : ∀ a, a < 113 → okMb a = true := lt_s okA_112 okm_112
theorem okm_113 : okMb 113 = true := by decide +kernel
theorem okA_114 : ∀ a, a < 114 → okMb a = true := lt_s okA_113 okm_113
theorem okm_114 : okMb 114 = true := by decide +kernel
theorem okA_115 : ∀ a, a < 115 → okMb a = true := lt_s okA_114 okm_114
theorem okm_115 : okMb 115 = true := by decide +kernel
theorem okA_116 : ∀ a, a < 116 → okMb a = true := lt_s okA_115 okm_115
theorem okm_116 : okMb 116 = true := by decide +kernel
theorem okA_117 : ∀ a, a < 117 → okMb a = true := lt_s okA_116 okm_116
theorem okm_117 : okMb 117 = true := by decide +kernel
theorem okA_118 : ∀ a, a < 118 → okMb a = true := lt_s okA_117 okm_117
theorem okm_118 : okMb 118 = true := by decide +kernel
theorem okA_119 : ∀ a, a < 119 → okMb a = true := lt_s okA_118 okm_118
theorem okm_119 : okMb 119 = true := by decide +kernel
theorem okA_120 : ∀ a, a < 120 → okMb a = true := lt_s okA_119 okm_119
theorem okm_120 : okMb 120 = true := by decide +kernel
theorem okA_121 : ∀ a, a < 121 → okMb a = true := lt_s okA_120 okm_120
theorem okm_121 : okMb 121 = true := by decide +kernel
theorem okA_122 : ∀ a, a < 122 → okMb a = true := lt_s okA_121 okm_121
theorem okm_122 : okMb 122 = true := by decide +kernel
theorem okA_123 : ∀ a, a < 123 → okMb a = true := lt_s okA_122 okm_122
theorem okm_123 : okMb 123 = true := by decide +kernel
theorem okA_124 : ∀ a, a < 124 → okMb a = true := lt_s okA_123 okm_123
theorem okm_124 : okMb 124 = true := by decide +kernel
theorem okA_125 : ∀ a, a < 125 → okMb a = true := lt_s okA_124 okm_124
theorem okm_125 : okMb 125 = true := by decide +kernel
theorem okA_126 : ∀ a, a < 126 → okMb a = true := lt_s okA_125 okm_125
theorem okm_126 : okMb 126 = true := by decide +kernel
theorem okA_127 : ∀ a, a < 127 → okMb a = true := lt_s okA_126 okm_126
theorem okm_127 : okMb 127 = true := by decide +kernel
theorem okA_128 : ∀ a, a < 128 → okMb a = true := lt_s okA_127 okm_127
theorem okm_128 : okMb 128 = true := by decide +kernel
theorem okA_129 : ∀ a, a < 129 → okMb a = true := lt_s okA_128 okm_128
theorem okm_129 : okMb 129 = true := by decide +kernel
theorem okA_130 : ∀ a, a < 130 → okMb a = true := lt_s okA_129 okm_129
theorem okm_130 : okMb 130 = true := by decide +kernel
theorem okA_131 : ∀ a, a < 131 → okMb a = true := lt_s okA_130 okm_130
theorem okm_131 : okMb 131 = true := by decide +kernel
theorem okA_132 : ∀ a, a < 132 → okMb a = true := lt_s okA_131 okm_131
theorem okm_132 : okMb 132 = true := by decide +kernel
theorem okA_133 : ∀ a, a < 133 → okMb a = true := lt_s okA_132 okm_132
theorem okm_133 : okMb 133 = true := by decide +kernel
theorem okA_134 : ∀ a, a < 134 → okMb a = true := lt_s okA_133 okm_133
theorem okm_134 : okMb 134 = true := by decide +kernel
theorem okA_135 : ∀ a, a < 135 → okMb a = true := lt_s okA_134 okm_134
theorem okm_135 : okMb 135 = true := by decide +kernel
theorem okA_136 : ∀ a, a < 136 → okMb a = true := lt_s okA_135 okm_135
theorem okm_136 : okMb 136 = true := by decide +kernel
theorem okA_137 : ∀ a, a < 137 → okMb a = true := lt_s okA_136 okm_136
theorem okm_137 : okMb 137 = true := by decide +kernel
theorem okA_138 : ∀ a, a < 138 → okMb a = true := lt_s okA_137 okm_137
theorem okm_138 : okMb 138 = true := by decide +kernel
theorem okA_139 : ∀ a, a < 139 → okMb a = true := lt_s okA_138 okm_138
theorem okm_139 : okMb 139 = true := by decide +kernel
theorem okA_140 : ∀ a, a < 140 → okMb a = true := lt_s okA_139 okm_139
theorem okm_140 : okMb 140 = true := by decide +kernel
theorem okA_141 : ∀ a, a < 141 → okMb a = true := lt_s okA_140 okm_140
theorem okm_141 : okMb 141 = true := by decide +kernel
theorem okA_142 : ∀ a, a < 142 → okMb a = true := lt_s okA_141 okm_141
theorem okm_142 : okMb 142 = true := by decide +kernel
theorem okA_143 : ∀ a, a < 143 → okMb a = true := lt_s okA_142 okm_142
theorem okm_143 : okMb 143 = true := by decide +kernel
theorem okA_144 : ∀ a, a < 144 → okMb a = true := lt_s okA_143 okm_143
theorem okm_144 : okMb 144 = true := by decide +kernel
theorem okA_145 : ∀ a, a < 145 → okMb a = true := lt_s okA_144 okm_144
theorem okm_145 : okMb 145 = true := by decide +kernel
theorem okA_146 : ∀ a, a < 146 → okMb a = true := lt_s okA_145 okm_145
theorem okm_146 : okMb 146 = true := by decide +kernel
theorem okA_147 : ∀ a, a < 147 → okMb a = true := lt_s okA_146 okm_146
theorem okm_147 : okMb 147 = true := by decide +kernel
theorem okA_148 : ∀ a, a < 148 → okMb a = true := lt_s okA_147 okm_147
theorem okm_148 : okMb 148 = true := by decide +kernel
theorem okA_149 : ∀ a, a < 149 → okMb a = true := lt_s okA_148 okm_148
theorem okm_149 : okMb 149 = true := by decide +kernel
theorem okA_150 : ∀ a, a < 150 → okMb a = true := lt_s okA_149 okm_149
theorem okm_150 : okMb 150 = true := by decide +kernel
theorem okA_151 : ∀ a, a < 151 → okMb a = true := lt_s okA_150 okm_150
theorem okm_151 : okMb 151 = true := by decide +kernel
theorem okA_152 : ∀ a, a < 152 → okMb a = true := lt_s okA_151 okm_151
theorem okm_152 : okMb 152 = true := by decide +kernel
theorem okA_153 : ∀ a, a < 153 → okMb a = true := lt_s okA_152 okm_152
theorem okm_153 : okMb 153 = true := by decide +kernel
theorem okA_154 : ∀ a, a < 154 → okMb a = true := lt_s okA_153 okm_153
theorem okm_154 : okMb 154 = true := by decide +kernel
theorem okA_155 : ∀ a, a < 155 → okMb a = true := lt_s okA_154 okm_154
theorem okm_155 : okMb 155 = true := by decide +kernel
theorem okA_156 : ∀ a, a < 156 → okMb a = true := lt_s okA_155 okm_155
theorem okm_156 : okMb 156 = true := by decide +kernel
theorem okA_157 : ∀ a, a < 157 → okMb a = true := lt_s okA_156 okm_156
theorem okm_157 : okMb 157 = true := by decide +kernel
theorem okA_158 : ∀ a, a < 158 → okMb a = true := lt_s okA_157 okm_157
theorem okm_158 : okMb 158 = true := by decide +kernel
theorem okA_159 : ∀ a, a < 159 → okMb a = true := lt_s okA_158 okm_158
theorem okm_159 : okMb 159 = true := by decide +kernel
theorem okA_160 : ∀ a, a < 160 → okMb a = true := lt_s okA_159 okm_159
theorem okm_160 : okMb 160 = true := by decide +kernel
theorem okA_161 : ∀ a, a < 161 → okMb a = true := lt_s okA_160 okm_160
theorem okm_161 : okMb 161 = true := by decide +kernel
theorem okA_162 : ∀ a, a < 162 → okMb a = true := lt_s okA_161 okm_161
theorem okm_162 : okMb 162 = true := by decide +kernel
theorem okA_163 : ∀ a, a < 163 → okMb a = true := lt_s okA_162 okm_162
theorem okm_163 : okMb 163 = true := by decide +kernel
theorem okA_164 : ∀ a, a < 164 → okMb a = true := lt_s okA_163 okm_163
theorem okm_164 : okMb 164 = true := by decide +kernel
theorem okA_165 : ∀ a, a < 165 → okMb a = true := lt_s okA_164 okm_164
theorem okm_165 : okMb 165 = true := by decide +kernel
theorem okA_166 : ∀ a, a < 166 → okMb a = true := lt_s okA_165 okm_165
theorem okm_166 : okMb 166 = true := by decide +kernel
theorem okA_167 : ∀ a, a < 167 → okMb a = true := lt_s okA_166 okm_166
theorem okm_167 : okMb 167 = true := by decide +kernel
theorem okA_168 : ∀ a, a < 168 → okMb a = true := lt_s okA_167 okm_167
theorem okm_168 : okMb 168 = true := by decide +kernel
theorem okA_169 : ∀ a, a < 169 → okMb a = true := lt_s okA_168 okm_168
theorem okm_169 : okMb 169 = true := by decide +kernel
theorem okA_170 : ∀ a, a < 170 → okMb a = true := lt_s okA_169 okm_169
theorem okm_170 : okMb 170 = true := by decide +kernel
theorem okA_171 : ∀ a, a < 171 → okMb a = true := lt_s okA_170 okm_170
theorem okm_171 : okMb 171 = true := by decide +kernel
theorem okA_172 : ∀ a, a < 172 → okMb a = true := lt_s okA_171 okm_171
theorem okm_172 : okMb 172 = true := by decide +kernel
theorem okA_173 : ∀ a, a < 173 → okMb a = true := lt_s okA_172 okm_172
theorem okm_173 : okMb 173 = true := by decide +kernel
theorem okA_174 : ∀ a, a < 174 → okMb a = true := lt_s okA_173 okm_173
theorem okm_174 : okMb 174 = true := by decide +kernel
theorem okA_175 : ∀ a, a < 175 → okMb a = true := lt_s okA_174 okm_174
theorem okm_175 : okMb 175 = true := by decide +kernel
theorem okA_176 : ∀ a, a < 176 → okMb a = true := lt_s okA_175 okm_175
theorem okm_176 : okMb 176 = true := by decide +kernel
theorem okA_177 : ∀ a, a < 177 → okMb a = true := lt_s okA_176 okm_176
theorem okm_177 : okMb 177 = true := by decide +kernel
theorem okA_178 : ∀ a, a < 178 → okMb a = true := lt_s okA_177 okm_177
theorem okm_178 : okMb 178 = true := by decide +kernel
theorem okA_179 : ∀ a, a < 179 → okMb a = true := lt_s okA_178 okm_178
theorem okm_179 : okMb 179 = true := by decide +kernel
theorem okA_180 : ∀ a, a < 180 → okMb a = true := lt_s okA_179 okm_179
theorem okm_180 : okMb 180 = true := by decide +kernel
theorem okA_181 : ∀ a, a < 181 → okMb a = true := lt_s okA_180 okm_180
theorem okm_181 : okMb 181 = true := by decide +kernel
theorem okA_182 : ∀ a, a < 182 → okMb a = true := lt_s okA_181 okm_181
theorem okm_182 : okMb 182 = true := by decide +kernel
theorem okA_183 : ∀ a, a < 183 → okMb a = true := lt_s okA_182 okm_182
theorem okm_183 : okMb 183 = true := by decide +kernel
theorem okA_184 : ∀ a, a < 184 → okMb a = true := lt_s okA_183 okm_183
theorem okm_184 : okMb 184 = true := by decide +kernel
theorem okA_185 : ∀ a, a < 185 → okMb a = true := lt_s okA_184 okm_184
theorem okm_185 : okMb 185 = true := by decide +kernel
theorem okA_186 : ∀ a, a < 186 → okMb a = true := lt_s okA_185 okm_185
theorem okm_186 : okMb 186 = true := by decide +kernel
theorem okA_187 : ∀ a, a < 187 → okMb a = true := lt_s okA_186 okm_186
theorem okm_187 : okMb 187 = true := by decide +kernel
theorem okA_188 : ∀ a, a < 188 → okMb a = true := lt_s okA_187 okm_187
theorem okm_188 : okMb 188 = true := by decide +kernel
theorem okA_189 : ∀ a, a < 189 → okMb a = true := lt_s okA_188 okm_188
theorem okm_189 : okMb 189 = true := by decide +kernel
theorem okA_190 : ∀ a, a < 190 → okMb a = true := lt_s okA_189 okm_189
