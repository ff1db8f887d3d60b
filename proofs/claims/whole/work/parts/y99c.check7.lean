/-! THE CHECK of the tables, part 7. -/
set_option maxRecDepth 1000000 in
theorem zk_192 : Z_zck 192 = true := by decide +kernel
theorem zka_192 : ∀ a, a < 193 → Z_zck a = true := lt_s zka_191 zk_192
set_option maxRecDepth 1000000 in
theorem zk_193 : Z_zck 193 = true := by decide +kernel
theorem zka_193 : ∀ a, a < 194 → Z_zck a = true := lt_s zka_192 zk_193
set_option maxRecDepth 1000000 in
theorem zk_194 : Z_zck 194 = true := by decide +kernel
theorem zka_194 : ∀ a, a < 195 → Z_zck a = true := lt_s zka_193 zk_194
set_option maxRecDepth 1000000 in
theorem zk_195 : Z_zck 195 = true := by decide +kernel
theorem zka_195 : ∀ a, a < 196 → Z_zck a = true := lt_s zka_194 zk_195
set_option maxRecDepth 1000000 in
theorem zk_196 : Z_zck 196 = true := by decide +kernel
theorem zka_196 : ∀ a, a < 197 → Z_zck a = true := lt_s zka_195 zk_196
set_option maxRecDepth 1000000 in
theorem zk_197 : Z_zck 197 = true := by decide +kernel
theorem zka_197 : ∀ a, a < 198 → Z_zck a = true := lt_s zka_196 zk_197
set_option maxRecDepth 1000000 in
theorem zk_198 : Z_zck 198 = true := by decide +kernel
theorem zka_198 : ∀ a, a < 199 → Z_zck a = true := lt_s zka_197 zk_198
set_option maxRecDepth 1000000 in
theorem zk_199 : Z_zck 199 = true := by decide +kernel
theorem zka_199 : ∀ a, a < 200 → Z_zck a = true := lt_s zka_198 zk_199
set_option maxRecDepth 1000000 in
theorem zk_200 : Z_zck 200 = true := by decide +kernel
theorem zka_200 : ∀ a, a < 201 → Z_zck a = true := lt_s zka_199 zk_200
set_option maxRecDepth 1000000 in
theorem zk_201 : Z_zck 201 = true := by decide +kernel
theorem zka_201 : ∀ a, a < 202 → Z_zck a = true := lt_s zka_200 zk_201
set_option maxRecDepth 1000000 in
theorem zk_202 : Z_zck 202 = true := by decide +kernel
theorem zka_202 : ∀ a, a < 203 → Z_zck a = true := lt_s zka_201 zk_202
set_option maxRecDepth 1000000 in
theorem zk_203 : Z_zck 203 = true := by decide +kernel
theorem zka_203 : ∀ a, a < 204 → Z_zck a = true := lt_s zka_202 zk_203
set_option maxRecDepth 1000000 in
theorem zk_204 : Z_zck 204 = true := by decide +kernel
theorem zka_204 : ∀ a, a < 205 → Z_zck a = true := lt_s zka_203 zk_204
set_option maxRecDepth 1000000 in
theorem zk_205 : Z_zck 205 = true := by decide +kernel
theorem zka_205 : ∀ a, a < 206 → Z_zck a = true := lt_s zka_204 zk_205
set_option maxRecDepth 1000000 in
theorem zk_206 : Z_zck 206 = true := by decide +kernel
theorem zka_206 : ∀ a, a < 207 → Z_zck a = true := lt_s zka_205 zk_206
set_option maxRecDepth 1000000 in
theorem zk_207 : Z_zck 207 = true := by decide +kernel
theorem zka_207 : ∀ a, a < 208 → Z_zck a = true := lt_s zka_206 zk_207
set_option maxRecDepth 1000000 in
theorem zk_208 : Z_zck 208 = true := by decide +kernel
theorem zka_208 : ∀ a, a < 209 → Z_zck a = true := lt_s zka_207 zk_208
set_option maxRecDepth 1000000 in
theorem zk_209 : Z_zck 209 = true := by decide +kernel
theorem zka_209 : ∀ a, a < 210 → Z_zck a = true := lt_s zka_208 zk_209
set_option maxRecDepth 1000000 in
theorem zk_210 : Z_zck 210 = true := by decide +kernel
theorem zka_210 : ∀ a, a < 211 → Z_zck a = true := lt_s zka_209 zk_210
set_option maxRecDepth 1000000 in
theorem zk_211 : Z_zck 211 = true := by decide +kernel
theorem zka_211 : ∀ a, a < 212 → Z_zck a = true := lt_s zka_210 zk_211
set_option maxRecDepth 1000000 in
theorem zk_212 : Z_zck 212 = true := by decide +kernel
theorem zka_212 : ∀ a, a < 213 → Z_zck a = true := lt_s zka_211 zk_212
set_option maxRecDepth 1000000 in
theorem zk_213 : Z_zck 213 = true := by decide +kernel
theorem zka_213 : ∀ a, a < 214 → Z_zck a = true := lt_s zka_212 zk_213
set_option maxRecDepth 1000000 in
theorem zk_214 : Z_zck 214 = true := by decide +kernel
theorem zka_214 : ∀ a, a < 215 → Z_zck a = true := lt_s zka_213 zk_214
set_option maxRecDepth 1000000 in
theorem zk_215 : Z_zck 215 = true := by decide +kernel
theorem zka_215 : ∀ a, a < 216 → Z_zck a = true := lt_s zka_214 zk_215
set_option maxRecDepth 1000000 in
theorem zk_216 : Z_zck 216 = true := by decide +kernel
theorem zka_216 : ∀ a, a < 217 → Z_zck a = true := lt_s zka_215 zk_216
set_option maxRecDepth 1000000 in
theorem zk_217 : Z_zck 217 = true := by decide +kernel
theorem zka_217 : ∀ a, a < 218 → Z_zck a = true := lt_s zka_216 zk_217
set_option maxRecDepth 1000000 in
theorem zk_218 : Z_zck 218 = true := by decide +kernel
theorem zka_218 : ∀ a, a < 219 → Z_zck a = true := lt_s zka_217 zk_218
set_option maxRecDepth 1000000 in
theorem zk_219 : Z_zck 219 = true := by decide +kernel
theorem zka_219 : ∀ a, a < 220 → Z_zck a = true := lt_s zka_218 zk_219
set_option maxRecDepth 1000000 in
theorem zk_220 : Z_zck 220 = true := by decide +kernel
theorem zka_220 : ∀ a, a < 221 → Z_zck a = true := lt_s zka_219 zk_220
set_option maxRecDepth 1000000 in
theorem zk_221 : Z_zck 221 = true := by decide +kernel
theorem zka_221 : ∀ a, a < 222 → Z_zck a = true := lt_s zka_220 zk_221
set_option maxRecDepth 1000000 in
theorem zk_222 : Z_zck 222 = true := by decide +kernel
theorem zka_222 : ∀ a, a < 223 → Z_zck a = true := lt_s zka_221 zk_222
set_option maxRecDepth 1000000 in
theorem zk_223 : Z_zck 223 = true := by decide +kernel
theorem zka_223 : ∀ a, a < 224 → Z_zck a = true := lt_s zka_222 zk_223
set_option maxRecDepth 1000000 in
theorem zk_224 : Z_zck 224 = true := by decide +kernel
theorem zka_224 : ∀ a, a < 225 → Z_zck a = true := lt_s zka_223 zk_224
set_option maxRecDepth 1000000 in
theorem zk_225 : Z_zck 225 = true := by decide +kernel
theorem zka_225 : ∀ a, a < 226 → Z_zck a = true := lt_s zka_224 zk_225
set_option maxRecDepth 1000000 in
theorem zk_226 : Z_zck 226 = true := by decide +kernel
theorem zka_226 : ∀ a, a < 227 → Z_zck a = true := lt_s zka_225 zk_226
set_option maxRecDepth 1000000 in
theorem zk_227 : Z_zck 227 = true := by decide +kernel
theorem zka_227 : ∀ a, a < 228 → Z_zck a = true := lt_s zka_226 zk_227
set_option maxRecDepth 1000000 in
theorem zk_228 : Z_zck 228 = true := by decide +kernel
theorem zka_228 : ∀ a, a < 229 → Z_zck a = true := lt_s zka_227 zk_228
set_option maxRecDepth 1000000 in
theorem zk_229 : Z_zck 229 = true := by decide +kernel
theorem zka_229 : ∀ a, a < 230 → Z_zck a = true := lt_s zka_228 zk_229
set_option maxRecDepth 1000000 in
theorem zk_230 : Z_zck 230 = true := by decide +kernel
theorem zka_230 : ∀ a, a < 231 → Z_zck a = true := lt_s zka_229 zk_230
set_option maxRecDepth 1000000 in
theorem zk_231 : Z_zck 231 = true := by decide +kernel
theorem zka_231 : ∀ a, a < 232 → Z_zck a = true := lt_s zka_230 zk_231
set_option maxRecDepth 1000000 in
theorem zk_232 : Z_zck 232 = true := by decide +kernel
theorem zka_232 : ∀ a, a < 233 → Z_zck a = true := lt_s zka_231 zk_232
