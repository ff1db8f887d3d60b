/-! THE CHECK of the tables, part 7. -/
set_option maxRecDepth 1000000 in
theorem zk_192 : zck 192 = true := by decide +kernel
theorem zka_192 : ∀ a, a < 193 → zck a = true := lt_s zka_191 zk_192
set_option maxRecDepth 1000000 in
theorem zk_193 : zck 193 = true := by decide +kernel
theorem zka_193 : ∀ a, a < 194 → zck a = true := lt_s zka_192 zk_193
set_option maxRecDepth 1000000 in
theorem zk_194 : zck 194 = true := by decide +kernel
theorem zka_194 : ∀ a, a < 195 → zck a = true := lt_s zka_193 zk_194
set_option maxRecDepth 1000000 in
theorem zk_195 : zck 195 = true := by decide +kernel
theorem zka_195 : ∀ a, a < 196 → zck a = true := lt_s zka_194 zk_195
set_option maxRecDepth 1000000 in
theorem zk_196 : zck 196 = true := by decide +kernel
theorem zka_196 : ∀ a, a < 197 → zck a = true := lt_s zka_195 zk_196
set_option maxRecDepth 1000000 in
theorem zk_197 : zck 197 = true := by decide +kernel
theorem zka_197 : ∀ a, a < 198 → zck a = true := lt_s zka_196 zk_197
set_option maxRecDepth 1000000 in
theorem zk_198 : zck 198 = true := by decide +kernel
theorem zka_198 : ∀ a, a < 199 → zck a = true := lt_s zka_197 zk_198
set_option maxRecDepth 1000000 in
theorem zk_199 : zck 199 = true := by decide +kernel
theorem zka_199 : ∀ a, a < 200 → zck a = true := lt_s zka_198 zk_199
set_option maxRecDepth 1000000 in
theorem zk_200 : zck 200 = true := by decide +kernel
theorem zka_200 : ∀ a, a < 201 → zck a = true := lt_s zka_199 zk_200
set_option maxRecDepth 1000000 in
theorem zk_201 : zck 201 = true := by decide +kernel
theorem zka_201 : ∀ a, a < 202 → zck a = true := lt_s zka_200 zk_201
set_option maxRecDepth 1000000 in
theorem zk_202 : zck 202 = true := by decide +kernel
theorem zka_202 : ∀ a, a < 203 → zck a = true := lt_s zka_201 zk_202
set_option maxRecDepth 1000000 in
theorem zk_203 : zck 203 = true := by decide +kernel
theorem zka_203 : ∀ a, a < 204 → zck a = true := lt_s zka_202 zk_203
set_option maxRecDepth 1000000 in
theorem zk_204 : zck 204 = true := by decide +kernel
theorem zka_204 : ∀ a, a < 205 → zck a = true := lt_s zka_203 zk_204
set_option maxRecDepth 1000000 in
theorem zk_205 : zck 205 = true := by decide +kernel
theorem zka_205 : ∀ a, a < 206 → zck a = true := lt_s zka_204 zk_205
set_option maxRecDepth 1000000 in
theorem zk_206 : zck 206 = true := by decide +kernel
theorem zka_206 : ∀ a, a < 207 → zck a = true := lt_s zka_205 zk_206
set_option maxRecDepth 1000000 in
theorem zk_207 : zck 207 = true := by decide +kernel
theorem zka_207 : ∀ a, a < 208 → zck a = true := lt_s zka_206 zk_207
set_option maxRecDepth 1000000 in
theorem zk_208 : zck 208 = true := by decide +kernel
theorem zka_208 : ∀ a, a < 209 → zck a = true := lt_s zka_207 zk_208
set_option maxRecDepth 1000000 in
theorem zk_209 : zck 209 = true := by decide +kernel
theorem zka_209 : ∀ a, a < 210 → zck a = true := lt_s zka_208 zk_209
set_option maxRecDepth 1000000 in
theorem zk_210 : zck 210 = true := by decide +kernel
theorem zka_210 : ∀ a, a < 211 → zck a = true := lt_s zka_209 zk_210
set_option maxRecDepth 1000000 in
theorem zk_211 : zck 211 = true := by decide +kernel
theorem zka_211 : ∀ a, a < 212 → zck a = true := lt_s zka_210 zk_211
set_option maxRecDepth 1000000 in
theorem zk_212 : zck 212 = true := by decide +kernel
theorem zka_212 : ∀ a, a < 213 → zck a = true := lt_s zka_211 zk_212
set_option maxRecDepth 1000000 in
theorem zk_213 : zck 213 = true := by decide +kernel
theorem zka_213 : ∀ a, a < 214 → zck a = true := lt_s zka_212 zk_213
set_option maxRecDepth 1000000 in
theorem zk_214 : zck 214 = true := by decide +kernel
theorem zka_214 : ∀ a, a < 215 → zck a = true := lt_s zka_213 zk_214
set_option maxRecDepth 1000000 in
theorem zk_215 : zck 215 = true := by decide +kernel
theorem zka_215 : ∀ a, a < 216 → zck a = true := lt_s zka_214 zk_215
set_option maxRecDepth 1000000 in
theorem zk_216 : zck 216 = true := by decide +kernel
theorem zka_216 : ∀ a, a < 217 → zck a = true := lt_s zka_215 zk_216
set_option maxRecDepth 1000000 in
theorem zk_217 : zck 217 = true := by decide +kernel
theorem zka_217 : ∀ a, a < 218 → zck a = true := lt_s zka_216 zk_217
set_option maxRecDepth 1000000 in
theorem zk_218 : zck 218 = true := by decide +kernel
theorem zka_218 : ∀ a, a < 219 → zck a = true := lt_s zka_217 zk_218
set_option maxRecDepth 1000000 in
theorem zk_219 : zck 219 = true := by decide +kernel
theorem zka_219 : ∀ a, a < 220 → zck a = true := lt_s zka_218 zk_219
set_option maxRecDepth 1000000 in
theorem zk_220 : zck 220 = true := by decide +kernel
theorem zka_220 : ∀ a, a < 221 → zck a = true := lt_s zka_219 zk_220
set_option maxRecDepth 1000000 in
theorem zk_221 : zck 221 = true := by decide +kernel
theorem zka_221 : ∀ a, a < 222 → zck a = true := lt_s zka_220 zk_221
set_option maxRecDepth 1000000 in
theorem zk_222 : zck 222 = true := by decide +kernel
theorem zka_222 : ∀ a, a < 223 → zck a = true := lt_s zka_221 zk_222
set_option maxRecDepth 1000000 in
theorem zk_223 : zck 223 = true := by decide +kernel
theorem zka_223 : ∀ a, a < 224 → zck a = true := lt_s zka_222 zk_223
set_option maxRecDepth 1000000 in
theorem zk_224 : zck 224 = true := by decide +kernel
theorem zka_224 : ∀ a, a < 225 → zck a = true := lt_s zka_223 zk_224
set_option maxRecDepth 1000000 in
theorem zk_225 : zck 225 = true := by decide +kernel
theorem zka_225 : ∀ a, a < 226 → zck a = true := lt_s zka_224 zk_225
set_option maxRecDepth 1000000 in
theorem zk_226 : zck 226 = true := by decide +kernel
theorem zka_226 : ∀ a, a < 227 → zck a = true := lt_s zka_225 zk_226
set_option maxRecDepth 1000000 in
theorem zk_227 : zck 227 = true := by decide +kernel
theorem zka_227 : ∀ a, a < 228 → zck a = true := lt_s zka_226 zk_227
set_option maxRecDepth 1000000 in
theorem zk_228 : zck 228 = true := by decide +kernel
theorem zka_228 : ∀ a, a < 229 → zck a = true := lt_s zka_227 zk_228
set_option maxRecDepth 1000000 in
theorem zk_229 : zck 229 = true := by decide +kernel
theorem zka_229 : ∀ a, a < 230 → zck a = true := lt_s zka_228 zk_229
set_option maxRecDepth 1000000 in
theorem zk_230 : zck 230 = true := by decide +kernel
theorem zka_230 : ∀ a, a < 231 → zck a = true := lt_s zka_229 zk_230
set_option maxRecDepth 1000000 in
theorem zk_231 : zck 231 = true := by decide +kernel
theorem zka_231 : ∀ a, a < 232 → zck a = true := lt_s zka_230 zk_231
set_option maxRecDepth 1000000 in
theorem zk_232 : zck 232 = true := by decide +kernel
theorem zka_232 : ∀ a, a < 233 → zck a = true := lt_s zka_231 zk_232
