/-! THE CHECK of the tables, part 8. -/
set_option maxRecDepth 1000000 in
theorem zk_233 : Z_zck 233 = true := by decide +kernel
theorem zka_233 : ∀ a, a < 234 → Z_zck a = true := lt_s zka_232 zk_233
set_option maxRecDepth 1000000 in
theorem zk_234 : Z_zck 234 = true := by decide +kernel
theorem zka_234 : ∀ a, a < 235 → Z_zck a = true := lt_s zka_233 zk_234
set_option maxRecDepth 1000000 in
theorem zk_235 : Z_zck 235 = true := by decide +kernel
theorem zka_235 : ∀ a, a < 236 → Z_zck a = true := lt_s zka_234 zk_235
set_option maxRecDepth 1000000 in
theorem zk_236 : Z_zck 236 = true := by decide +kernel
theorem zka_236 : ∀ a, a < 237 → Z_zck a = true := lt_s zka_235 zk_236
set_option maxRecDepth 1000000 in
theorem zk_237 : Z_zck 237 = true := by decide +kernel
theorem zka_237 : ∀ a, a < 238 → Z_zck a = true := lt_s zka_236 zk_237
set_option maxRecDepth 1000000 in
theorem zk_238 : Z_zck 238 = true := by decide +kernel
theorem zka_238 : ∀ a, a < 239 → Z_zck a = true := lt_s zka_237 zk_238
set_option maxRecDepth 1000000 in
theorem zk_239 : Z_zck 239 = true := by decide +kernel
theorem zka_239 : ∀ a, a < 240 → Z_zck a = true := lt_s zka_238 zk_239
set_option maxRecDepth 1000000 in
theorem zk_240 : Z_zck 240 = true := by decide +kernel
theorem zka_240 : ∀ a, a < 241 → Z_zck a = true := lt_s zka_239 zk_240
set_option maxRecDepth 1000000 in
theorem zk_241 : Z_zck 241 = true := by decide +kernel
theorem zka_241 : ∀ a, a < 242 → Z_zck a = true := lt_s zka_240 zk_241
set_option maxRecDepth 1000000 in
theorem zk_242 : Z_zck 242 = true := by decide +kernel
theorem zka_242 : ∀ a, a < 243 → Z_zck a = true := lt_s zka_241 zk_242
set_option maxRecDepth 1000000 in
theorem zk_243 : Z_zck 243 = true := by decide +kernel
theorem zka_243 : ∀ a, a < 244 → Z_zck a = true := lt_s zka_242 zk_243
set_option maxRecDepth 1000000 in
theorem zk_244 : Z_zck 244 = true := by decide +kernel
theorem zka_244 : ∀ a, a < 245 → Z_zck a = true := lt_s zka_243 zk_244
set_option maxRecDepth 1000000 in
theorem zk_245 : Z_zck 245 = true := by decide +kernel
theorem zka_245 : ∀ a, a < 246 → Z_zck a = true := lt_s zka_244 zk_245
set_option maxRecDepth 1000000 in
theorem zk_246 : Z_zck 246 = true := by decide +kernel
theorem zka_246 : ∀ a, a < 247 → Z_zck a = true := lt_s zka_245 zk_246
set_option maxRecDepth 1000000 in
theorem zk_247 : Z_zck 247 = true := by decide +kernel
theorem zka_247 : ∀ a, a < 248 → Z_zck a = true := lt_s zka_246 zk_247
set_option maxRecDepth 1000000 in
theorem zk_248 : Z_zck 248 = true := by decide +kernel
theorem zka_248 : ∀ a, a < 249 → Z_zck a = true := lt_s zka_247 zk_248
set_option maxRecDepth 1000000 in
theorem zk_249 : Z_zck 249 = true := by decide +kernel
theorem zka_249 : ∀ a, a < 250 → Z_zck a = true := lt_s zka_248 zk_249
set_option maxRecDepth 1000000 in
theorem zk_250 : Z_zck 250 = true := by decide +kernel
theorem zka_250 : ∀ a, a < 251 → Z_zck a = true := lt_s zka_249 zk_250
set_option maxRecDepth 1000000 in
theorem zk_251 : Z_zck 251 = true := by decide +kernel
theorem zka_251 : ∀ a, a < 252 → Z_zck a = true := lt_s zka_250 zk_251
set_option maxRecDepth 1000000 in
theorem zk_252 : Z_zck 252 = true := by decide +kernel
theorem zka_252 : ∀ a, a < 253 → Z_zck a = true := lt_s zka_251 zk_252
set_option maxRecDepth 1000000 in
theorem zk_253 : Z_zck 253 = true := by decide +kernel
theorem zka_253 : ∀ a, a < 254 → Z_zck a = true := lt_s zka_252 zk_253
set_option maxRecDepth 1000000 in
theorem zk_254 : Z_zck 254 = true := by decide +kernel
theorem zka_254 : ∀ a, a < 255 → Z_zck a = true := lt_s zka_253 zk_254
set_option maxRecDepth 1000000 in
theorem zk_255 : Z_zck 255 = true := by decide +kernel
theorem zka_255 : ∀ a, a < 256 → Z_zck a = true := lt_s zka_254 zk_255
set_option maxRecDepth 1000000 in
theorem zk_256 : Z_zck 256 = true := by decide +kernel
theorem zka_256 : ∀ a, a < 257 → Z_zck a = true := lt_s zka_255 zk_256
set_option maxRecDepth 1000000 in
theorem zk_257 : Z_zck 257 = true := by decide +kernel
theorem zka_257 : ∀ a, a < 258 → Z_zck a = true := lt_s zka_256 zk_257
set_option maxRecDepth 1000000 in
theorem zk_258 : Z_zck 258 = true := by decide +kernel
theorem zka_258 : ∀ a, a < 259 → Z_zck a = true := lt_s zka_257 zk_258
set_option maxRecDepth 1000000 in
theorem zk_259 : Z_zck 259 = true := by decide +kernel
theorem zka_259 : ∀ a, a < 260 → Z_zck a = true := lt_s zka_258 zk_259
set_option maxRecDepth 1000000 in
theorem zk_260 : Z_zck 260 = true := by decide +kernel
theorem zka_260 : ∀ a, a < 261 → Z_zck a = true := lt_s zka_259 zk_260
set_option maxRecDepth 1000000 in
theorem zk_261 : Z_zck 261 = true := by decide +kernel
theorem zka_261 : ∀ a, a < 262 → Z_zck a = true := lt_s zka_260 zk_261
set_option maxRecDepth 1000000 in
theorem zk_262 : Z_zck 262 = true := by decide +kernel
theorem zka_262 : ∀ a, a < 263 → Z_zck a = true := lt_s zka_261 zk_262
set_option maxRecDepth 1000000 in
theorem zk_263 : Z_zck 263 = true := by decide +kernel
theorem zka_263 : ∀ a, a < 264 → Z_zck a = true := lt_s zka_262 zk_263
set_option maxRecDepth 1000000 in
theorem zk_264 : Z_zck 264 = true := by decide +kernel
theorem zka_264 : ∀ a, a < 265 → Z_zck a = true := lt_s zka_263 zk_264
set_option maxRecDepth 1000000 in
theorem zk_265 : Z_zck 265 = true := by decide +kernel
theorem zka_265 : ∀ a, a < 266 → Z_zck a = true := lt_s zka_264 zk_265
set_option maxRecDepth 1000000 in
theorem zk_266 : Z_zck 266 = true := by decide +kernel
theorem zka_266 : ∀ a, a < 267 → Z_zck a = true := lt_s zka_265 zk_266
set_option maxRecDepth 1000000 in
theorem zk_267 : Z_zck 267 = true := by decide +kernel
theorem zka_267 : ∀ a, a < 268 → Z_zck a = true := lt_s zka_266 zk_267
set_option maxRecDepth 1000000 in
theorem zk_268 : Z_zck 268 = true := by decide +kernel
theorem zka_268 : ∀ a, a < 269 → Z_zck a = true := lt_s zka_267 zk_268
set_option maxRecDepth 1000000 in
theorem zk_269 : Z_zck 269 = true := by decide +kernel
theorem zka_269 : ∀ a, a < 270 → Z_zck a = true := lt_s zka_268 zk_269
set_option maxRecDepth 1000000 in
theorem zk_270 : Z_zck 270 = true := by decide +kernel
theorem zka_270 : ∀ a, a < 271 → Z_zck a = true := lt_s zka_269 zk_270
set_option maxRecDepth 1000000 in
theorem zk_271 : Z_zck 271 = true := by decide +kernel
theorem zka_271 : ∀ a, a < 272 → Z_zck a = true := lt_s zka_270 zk_271
set_option maxRecDepth 1000000 in
theorem zk_272 : Z_zck 272 = true := by decide +kernel
theorem zka_272 : ∀ a, a < 273 → Z_zck a = true := lt_s zka_271 zk_272
set_option maxRecDepth 1000000 in
theorem zk_273 : Z_zck 273 = true := by decide +kernel
theorem zka_273 : ∀ a, a < 274 → Z_zck a = true := lt_s zka_272 zk_273
set_option maxRecDepth 1000000 in
theorem zk_274 : Z_zck 274 = true := by decide +kernel
theorem zka_274 : ∀ a, a < 275 → Z_zck a = true := lt_s zka_273 zk_274
set_option maxRecDepth 1000000 in
theorem zk_275 : Z_zck 275 = true := by decide +kernel
theorem zka_275 : ∀ a, a < 276 → Z_zck a = true := lt_s zka_274 zk_275
set_option maxRecDepth 1000000 in
theorem zk_276 : Z_zck 276 = true := by decide +kernel
theorem zka_276 : ∀ a, a < 277 → Z_zck a = true := lt_s zka_275 zk_276
set_option maxRecDepth 1000000 in
theorem zk_277 : Z_zck 277 = true := by decide +kernel
theorem zka_277 : ∀ a, a < 278 → Z_zck a = true := lt_s zka_276 zk_277
set_option maxRecDepth 1000000 in
theorem zk_278 : Z_zck 278 = true := by decide +kernel
theorem zka_278 : ∀ a, a < 279 → Z_zck a = true := lt_s zka_277 zk_278
set_option maxRecDepth 1000000 in
theorem zk_279 : Z_zck 279 = true := by decide +kernel
theorem zka_279 : ∀ a, a < 280 → Z_zck a = true := lt_s zka_278 zk_279
set_option maxRecDepth 1000000 in
theorem zk_280 : Z_zck 280 = true := by decide +kernel
theorem zka_280 : ∀ a, a < 281 → Z_zck a = true := lt_s zka_279 zk_280
set_option maxRecDepth 1000000 in
theorem zk_281 : Z_zck 281 = true := by decide +kernel
theorem zka_281 : ∀ a, a < 282 → Z_zck a = true := lt_s zka_280 zk_281
set_option maxRecDepth 1000000 in
theorem zk_282 : Z_zck 282 = true := by decide +kernel
theorem zka_282 : ∀ a, a < 283 → Z_zck a = true := lt_s zka_281 zk_282
set_option maxRecDepth 1000000 in
theorem zk_283 : Z_zck 283 = true := by decide +kernel
theorem zka_283 : ∀ a, a < 284 → Z_zck a = true := lt_s zka_282 zk_283
theorem zck_all : ∀ k ≤ 283, Z_zck k = true := fun k hk => zka_283 k (Nat.lt_succ_of_le hk)
