/-! THE CHECK of the tables, part 6. -/
set_option maxRecDepth 1000000 in
theorem zk_151 : Z_zck 151 = true := by decide +kernel
theorem zka_151 : ∀ a, a < 152 → Z_zck a = true := lt_s zka_150 zk_151
set_option maxRecDepth 1000000 in
theorem zk_152 : Z_zck 152 = true := by decide +kernel
theorem zka_152 : ∀ a, a < 153 → Z_zck a = true := lt_s zka_151 zk_152
set_option maxRecDepth 1000000 in
theorem zk_153 : Z_zck 153 = true := by decide +kernel
theorem zka_153 : ∀ a, a < 154 → Z_zck a = true := lt_s zka_152 zk_153
set_option maxRecDepth 1000000 in
theorem zk_154 : Z_zck 154 = true := by decide +kernel
theorem zka_154 : ∀ a, a < 155 → Z_zck a = true := lt_s zka_153 zk_154
set_option maxRecDepth 1000000 in
theorem zk_155 : Z_zck 155 = true := by decide +kernel
theorem zka_155 : ∀ a, a < 156 → Z_zck a = true := lt_s zka_154 zk_155
set_option maxRecDepth 1000000 in
theorem zk_156 : Z_zck 156 = true := by decide +kernel
theorem zka_156 : ∀ a, a < 157 → Z_zck a = true := lt_s zka_155 zk_156
set_option maxRecDepth 1000000 in
theorem zk_157 : Z_zck 157 = true := by decide +kernel
theorem zka_157 : ∀ a, a < 158 → Z_zck a = true := lt_s zka_156 zk_157
set_option maxRecDepth 1000000 in
theorem zk_158 : Z_zck 158 = true := by decide +kernel
theorem zka_158 : ∀ a, a < 159 → Z_zck a = true := lt_s zka_157 zk_158
set_option maxRecDepth 1000000 in
theorem zk_159 : Z_zck 159 = true := by decide +kernel
theorem zka_159 : ∀ a, a < 160 → Z_zck a = true := lt_s zka_158 zk_159
set_option maxRecDepth 1000000 in
theorem zk_160 : Z_zck 160 = true := by decide +kernel
theorem zka_160 : ∀ a, a < 161 → Z_zck a = true := lt_s zka_159 zk_160
set_option maxRecDepth 1000000 in
theorem zk_161 : Z_zck 161 = true := by decide +kernel
theorem zka_161 : ∀ a, a < 162 → Z_zck a = true := lt_s zka_160 zk_161
set_option maxRecDepth 1000000 in
theorem zk_162 : Z_zck 162 = true := by decide +kernel
theorem zka_162 : ∀ a, a < 163 → Z_zck a = true := lt_s zka_161 zk_162
set_option maxRecDepth 1000000 in
theorem zk_163 : Z_zck 163 = true := by decide +kernel
theorem zka_163 : ∀ a, a < 164 → Z_zck a = true := lt_s zka_162 zk_163
set_option maxRecDepth 1000000 in
theorem zk_164 : Z_zck 164 = true := by decide +kernel
theorem zka_164 : ∀ a, a < 165 → Z_zck a = true := lt_s zka_163 zk_164
set_option maxRecDepth 1000000 in
theorem zk_165 : Z_zck 165 = true := by decide +kernel
theorem zka_165 : ∀ a, a < 166 → Z_zck a = true := lt_s zka_164 zk_165
set_option maxRecDepth 1000000 in
theorem zk_166 : Z_zck 166 = true := by decide +kernel
theorem zka_166 : ∀ a, a < 167 → Z_zck a = true := lt_s zka_165 zk_166
set_option maxRecDepth 1000000 in
theorem zk_167 : Z_zck 167 = true := by decide +kernel
theorem zka_167 : ∀ a, a < 168 → Z_zck a = true := lt_s zka_166 zk_167
set_option maxRecDepth 1000000 in
theorem zk_168 : Z_zck 168 = true := by decide +kernel
theorem zka_168 : ∀ a, a < 169 → Z_zck a = true := lt_s zka_167 zk_168
set_option maxRecDepth 1000000 in
theorem zk_169 : Z_zck 169 = true := by decide +kernel
theorem zka_169 : ∀ a, a < 170 → Z_zck a = true := lt_s zka_168 zk_169
set_option maxRecDepth 1000000 in
theorem zk_170 : Z_zck 170 = true := by decide +kernel
theorem zka_170 : ∀ a, a < 171 → Z_zck a = true := lt_s zka_169 zk_170
set_option maxRecDepth 1000000 in
theorem zk_171 : Z_zck 171 = true := by decide +kernel
theorem zka_171 : ∀ a, a < 172 → Z_zck a = true := lt_s zka_170 zk_171
set_option maxRecDepth 1000000 in
theorem zk_172 : Z_zck 172 = true := by decide +kernel
theorem zka_172 : ∀ a, a < 173 → Z_zck a = true := lt_s zka_171 zk_172
set_option maxRecDepth 1000000 in
theorem zk_173 : Z_zck 173 = true := by decide +kernel
theorem zka_173 : ∀ a, a < 174 → Z_zck a = true := lt_s zka_172 zk_173
set_option maxRecDepth 1000000 in
theorem zk_174 : Z_zck 174 = true := by decide +kernel
theorem zka_174 : ∀ a, a < 175 → Z_zck a = true := lt_s zka_173 zk_174
set_option maxRecDepth 1000000 in
theorem zk_175 : Z_zck 175 = true := by decide +kernel
theorem zka_175 : ∀ a, a < 176 → Z_zck a = true := lt_s zka_174 zk_175
set_option maxRecDepth 1000000 in
theorem zk_176 : Z_zck 176 = true := by decide +kernel
theorem zka_176 : ∀ a, a < 177 → Z_zck a = true := lt_s zka_175 zk_176
set_option maxRecDepth 1000000 in
theorem zk_177 : Z_zck 177 = true := by decide +kernel
theorem zka_177 : ∀ a, a < 178 → Z_zck a = true := lt_s zka_176 zk_177
set_option maxRecDepth 1000000 in
theorem zk_178 : Z_zck 178 = true := by decide +kernel
theorem zka_178 : ∀ a, a < 179 → Z_zck a = true := lt_s zka_177 zk_178
set_option maxRecDepth 1000000 in
theorem zk_179 : Z_zck 179 = true := by decide +kernel
theorem zka_179 : ∀ a, a < 180 → Z_zck a = true := lt_s zka_178 zk_179
set_option maxRecDepth 1000000 in
theorem zk_180 : Z_zck 180 = true := by decide +kernel
theorem zka_180 : ∀ a, a < 181 → Z_zck a = true := lt_s zka_179 zk_180
set_option maxRecDepth 1000000 in
theorem zk_181 : Z_zck 181 = true := by decide +kernel
theorem zka_181 : ∀ a, a < 182 → Z_zck a = true := lt_s zka_180 zk_181
set_option maxRecDepth 1000000 in
theorem zk_182 : Z_zck 182 = true := by decide +kernel
theorem zka_182 : ∀ a, a < 183 → Z_zck a = true := lt_s zka_181 zk_182
set_option maxRecDepth 1000000 in
theorem zk_183 : Z_zck 183 = true := by decide +kernel
theorem zka_183 : ∀ a, a < 184 → Z_zck a = true := lt_s zka_182 zk_183
set_option maxRecDepth 1000000 in
theorem zk_184 : Z_zck 184 = true := by decide +kernel
theorem zka_184 : ∀ a, a < 185 → Z_zck a = true := lt_s zka_183 zk_184
set_option maxRecDepth 1000000 in
theorem zk_185 : Z_zck 185 = true := by decide +kernel
theorem zka_185 : ∀ a, a < 186 → Z_zck a = true := lt_s zka_184 zk_185
set_option maxRecDepth 1000000 in
theorem zk_186 : Z_zck 186 = true := by decide +kernel
theorem zka_186 : ∀ a, a < 187 → Z_zck a = true := lt_s zka_185 zk_186
set_option maxRecDepth 1000000 in
theorem zk_187 : Z_zck 187 = true := by decide +kernel
theorem zka_187 : ∀ a, a < 188 → Z_zck a = true := lt_s zka_186 zk_187
set_option maxRecDepth 1000000 in
theorem zk_188 : Z_zck 188 = true := by decide +kernel
theorem zka_188 : ∀ a, a < 189 → Z_zck a = true := lt_s zka_187 zk_188
set_option maxRecDepth 1000000 in
theorem zk_189 : Z_zck 189 = true := by decide +kernel
theorem zka_189 : ∀ a, a < 190 → Z_zck a = true := lt_s zka_188 zk_189
set_option maxRecDepth 1000000 in
theorem zk_190 : Z_zck 190 = true := by decide +kernel
theorem zka_190 : ∀ a, a < 191 → Z_zck a = true := lt_s zka_189 zk_190
set_option maxRecDepth 1000000 in
theorem zk_191 : Z_zck 191 = true := by decide +kernel
theorem zka_191 : ∀ a, a < 192 → Z_zck a = true := lt_s zka_190 zk_191
