/-! part 90: the law's loop over any invariant: laid by wip/flat/lawf.py -/
section
variable {d nc ns : Nat} {t : zx_MT} {pc : Nat} {L : List (Option zx_V)} {S r : List zx_V} {m : zf_Me} {Q : Option zx_V → zf_Me → Prop} {N : Nat} {xs : Nat → Int32}
theorem zf_sld {i : Int32} {pc' : Nat} (hdg : decode (zx_mb t) pc = .ok (.iaload, 1)) (hp : pc + 1 = pc') (hi : 0 ≤ i.toInt ∧ i.toInt < N) (k : zf_W (some (N, xs)) nc ns d t pc' L (.inl (xs i.toInt.toNat) :: r) m Q) : zf_W (some (N, xs)) nc ns d t pc L (.inl i :: .inr (.inr (5, 0)) :: r) m Q := by
  subst hp
  intro L' hL
  refine zx_W_ins hdg rfl (fun run => ?_) rfl (k L' hL)
  show zx_ial (some (N, xs)) pc L' (.inl i :: .inr (.inr (5, 0)) :: r) (zf_E m) nc ns = _
  unfold zx_ial
  simp only
  rw [if_pos (zi_in hi)]
  rfl
theorem zf_sal {pc' : Nat} (hdg : decode (zx_mb t) pc = .ok (.arraylength, 1)) (hp : pc + 1 = pc') (k : zf_W (some (N, xs)) nc ns d t pc' L (.inl (Int32.ofNat N) :: r) m Q) : zf_W (some (N, xs)) nc ns d t pc L (.inr (.inr (5, 0)) :: r) m Q := by
  subst hp
  intro L' hL
  exact zx_W_ins hdg rfl (fun run => rfl) rfl (k L' hL)
theorem zf_sr {v : Int32} {ty : FieldType} (hdg : decode (zx_mb t) pc = .ok (.ireturn, 1)) (hr : zx_mr t = some ty) (hn : zx_nr ty v = true) (q : Q (some (.inl v)) m) : zf_W (some (N, xs)) nc ns d t pc L [.inl v] m Q :=
  fun _ _ => zw_iret hdg hr hn ⟨m, rfl, q⟩
theorem zf_si6 {i k : Int32} {n : Int} {N : Nat} (hk : k.toInt = n) (h0 : 0 ≤ i.toInt) (hi : i.toInt + 6 ≤ N) (hN : N ≤ 3072) (hn : 0 ≤ n ∧ n < 6) : 0 ≤ (i + k).toInt ∧ (i + k).toInt < N := by
  have e := fb_addI (x := i) (y := k) (by omega) (by omega)
  omega
end
theorem dL_law_r18 : zdcP cL_law 18 [(.iload_n 3, 1), (.aload_n 0, 1), (.arraylength, 1), (.bipush 6, 2), (.isub, 1), (.if_icmp .gt 1393, 3), (.aload_n 0, 1), (.iload_n 3, 1), (.iaload, 1), (.bipush 63, 2), (.iand, 1)] := zdcA_ok (by decide +kernel)
theorem dL_law_18 : decode cL_law 18 = .ok (.iload_n 3, 1) := dL_law_r18.1
theorem dL_law_19 : decode cL_law 19 = .ok (.aload_n 0, 1) := dL_law_r18.2.1
theorem dL_law_20 : decode cL_law 20 = .ok (.arraylength, 1) := dL_law_r18.2.2.1
theorem dL_law_21 : decode cL_law 21 = .ok (.bipush 6, 2) := dL_law_r18.2.2.2.1
theorem dL_law_23 : decode cL_law 23 = .ok (.isub, 1) := dL_law_r18.2.2.2.2.1
theorem dL_law_24 : decode cL_law 24 = .ok (.if_icmp .gt 1393, 3) := dL_law_r18.2.2.2.2.2.1
theorem dL_law_27 : decode cL_law 27 = .ok (.aload_n 0, 1) := dL_law_r18.2.2.2.2.2.2.1
theorem dL_law_28 : decode cL_law 28 = .ok (.iload_n 3, 1) := dL_law_r18.2.2.2.2.2.2.2.1
theorem dL_law_29 : decode cL_law 29 = .ok (.iaload, 1) := dL_law_r18.2.2.2.2.2.2.2.2.1
theorem dL_law_30 : decode cL_law 30 = .ok (.bipush 63, 2) := dL_law_r18.2.2.2.2.2.2.2.2.2.1
theorem dL_law_32 : decode cL_law 32 = .ok (.iand, 1) := dL_law_r18.2.2.2.2.2.2.2.2.2.2.1
theorem dL_law_33 : decode cL_law 33 = .ok (.tableswitch 1378 0 40 #[179, 222, 295, 358, 391, 424, 447, 480, 529, 562, 595, 628, 661, 694, 717, 740, 753, 786, 809, 822, 855, 888, 911, 934, 967, 990, 1013, 1046, 1089, 1122, 1145, 1158, 1181, 1204, 1227, 1240, 1263, 1306, 1329, 1342, 1355], 179) := by decide +kernel
theorem dL_law_r212 : zdcP cL_law 212 [(.aload_n 1, 1), (.aload_n 0, 1), (.iload_n 3, 1), (.iconst 1, 1), (.iadd, 1), (.iaload, 1), (.aload_n 0, 1), (.iload_n 3, 1), (.iconst 2, 1), (.iadd, 1), (.iaload, 1), (.aload_n 0, 1), (.iload_n 3, 1), (.iconst 3, 1), (.iadd, 1), (.iaload, 1)] := zdcA_ok (by decide +kernel)
theorem dL_law_212 : decode cL_law 212 = .ok (.aload_n 1, 1) := dL_law_r212.1
theorem dL_law_213 : decode cL_law 213 = .ok (.aload_n 0, 1) := dL_law_r212.2.1
theorem dL_law_214 : decode cL_law 214 = .ok (.iload_n 3, 1) := dL_law_r212.2.2.1
theorem dL_law_215 : decode cL_law 215 = .ok (.iconst 1, 1) := dL_law_r212.2.2.2.1
theorem dL_law_216 : decode cL_law 216 = .ok (.iadd, 1) := dL_law_r212.2.2.2.2.1
theorem dL_law_217 : decode cL_law 217 = .ok (.iaload, 1) := dL_law_r212.2.2.2.2.2.1
theorem dL_law_218 : decode cL_law 218 = .ok (.aload_n 0, 1) := dL_law_r212.2.2.2.2.2.2.1
theorem dL_law_219 : decode cL_law 219 = .ok (.iload_n 3, 1) := dL_law_r212.2.2.2.2.2.2.2.1
theorem dL_law_220 : decode cL_law 220 = .ok (.iconst 2, 1) := dL_law_r212.2.2.2.2.2.2.2.2.1
theorem dL_law_221 : decode cL_law 221 = .ok (.iadd, 1) := dL_law_r212.2.2.2.2.2.2.2.2.2.1
theorem dL_law_222 : decode cL_law 222 = .ok (.iaload, 1) := dL_law_r212.2.2.2.2.2.2.2.2.2.2.1
theorem dL_law_223 : decode cL_law 223 = .ok (.aload_n 0, 1) := dL_law_r212.2.2.2.2.2.2.2.2.2.2.2.1
theorem dL_law_224 : decode cL_law 224 = .ok (.iload_n 3, 1) := dL_law_r212.2.2.2.2.2.2.2.2.2.2.2.2.1
theorem dL_law_225 : decode cL_law 225 = .ok (.iconst 3, 1) := dL_law_r212.2.2.2.2.2.2.2.2.2.2.2.2.2.1
theorem dL_law_226 : decode cL_law 226 = .ok (.iadd, 1) := dL_law_r212.2.2.2.2.2.2.2.2.2.2.2.2.2.2.1
theorem dL_law_227 : decode cL_law 227 = .ok (.iaload, 1) := dL_law_r212.2.2.2.2.2.2.2.2.2.2.2.2.2.2.2.1
theorem dL_law_r228 : zdcP cL_law 228 [(.invokevirtual 13, 3), (.pop, 1), (.aload_n 2, 1), (.aload_n 0, 1), (.iload_n 3, 1), (.iconst 1, 1), (.iadd, 1), (.iaload, 1), (.aload_n 0, 1), (.iload_n 3, 1), (.iconst 2, 1), (.iadd, 1), (.iaload, 1), (.aload_n 0, 1), (.iload_n 3, 1), (.iconst 3, 1)] := zdcA_ok (by decide +kernel)
theorem dL_law_228 : decode cL_law 228 = .ok (.invokevirtual 13, 3) := dL_law_r228.1
theorem dL_law_231 : decode cL_law 231 = .ok (.pop, 1) := dL_law_r228.2.1
theorem dL_law_232 : decode cL_law 232 = .ok (.aload_n 2, 1) := dL_law_r228.2.2.1
theorem dL_law_233 : decode cL_law 233 = .ok (.aload_n 0, 1) := dL_law_r228.2.2.2.1
theorem dL_law_234 : decode cL_law 234 = .ok (.iload_n 3, 1) := dL_law_r228.2.2.2.2.1
theorem dL_law_235 : decode cL_law 235 = .ok (.iconst 1, 1) := dL_law_r228.2.2.2.2.2.1
theorem dL_law_236 : decode cL_law 236 = .ok (.iadd, 1) := dL_law_r228.2.2.2.2.2.2.1
theorem dL_law_237 : decode cL_law 237 = .ok (.iaload, 1) := dL_law_r228.2.2.2.2.2.2.2.1
theorem dL_law_238 : decode cL_law 238 = .ok (.aload_n 0, 1) := dL_law_r228.2.2.2.2.2.2.2.2.1
theorem dL_law_239 : decode cL_law 239 = .ok (.iload_n 3, 1) := dL_law_r228.2.2.2.2.2.2.2.2.2.1
theorem dL_law_240 : decode cL_law 240 = .ok (.iconst 2, 1) := dL_law_r228.2.2.2.2.2.2.2.2.2.2.1
theorem dL_law_241 : decode cL_law 241 = .ok (.iadd, 1) := dL_law_r228.2.2.2.2.2.2.2.2.2.2.2.1
theorem dL_law_242 : decode cL_law 242 = .ok (.iaload, 1) := dL_law_r228.2.2.2.2.2.2.2.2.2.2.2.2.1
theorem dL_law_243 : decode cL_law 243 = .ok (.aload_n 0, 1) := dL_law_r228.2.2.2.2.2.2.2.2.2.2.2.2.2.1
theorem dL_law_244 : decode cL_law 244 = .ok (.iload_n 3, 1) := dL_law_r228.2.2.2.2.2.2.2.2.2.2.2.2.2.2.1
theorem dL_law_245 : decode cL_law 245 = .ok (.iconst 3, 1) := dL_law_r228.2.2.2.2.2.2.2.2.2.2.2.2.2.2.2.1
theorem dL_law_r246 : zdcP cL_law 246 [(.iadd, 1), (.iaload, 1), (.invokevirtual 17, 3), (.pop, 1), (.goto 1159, 3), (.aload_n 1, 1), (.aload_n 0, 1), (.iload_n 3, 1), (.iconst 1, 1), (.iadd, 1), (.iaload, 1), (.aload_n 0, 1), (.iload_n 3, 1), (.iconst 2, 1), (.iadd, 1), (.iaload, 1)] := zdcA_ok (by decide +kernel)
theorem dL_law_246 : decode cL_law 246 = .ok (.iadd, 1) := dL_law_r246.1
theorem dL_law_247 : decode cL_law 247 = .ok (.iaload, 1) := dL_law_r246.2.1
theorem dL_law_248 : decode cL_law 248 = .ok (.invokevirtual 17, 3) := dL_law_r246.2.2.1
theorem dL_law_251 : decode cL_law 251 = .ok (.pop, 1) := dL_law_r246.2.2.2.1
theorem dL_law_252 : decode cL_law 252 = .ok (.goto 1159, 3) := dL_law_r246.2.2.2.2.1
theorem dL_law_255 : decode cL_law 255 = .ok (.aload_n 1, 1) := dL_law_r246.2.2.2.2.2.1
theorem dL_law_256 : decode cL_law 256 = .ok (.aload_n 0, 1) := dL_law_r246.2.2.2.2.2.2.1
theorem dL_law_257 : decode cL_law 257 = .ok (.iload_n 3, 1) := dL_law_r246.2.2.2.2.2.2.2.1
theorem dL_law_258 : decode cL_law 258 = .ok (.iconst 1, 1) := dL_law_r246.2.2.2.2.2.2.2.2.1
theorem dL_law_259 : decode cL_law 259 = .ok (.iadd, 1) := dL_law_r246.2.2.2.2.2.2.2.2.2.1
theorem dL_law_260 : decode cL_law 260 = .ok (.iaload, 1) := dL_law_r246.2.2.2.2.2.2.2.2.2.2.1
theorem dL_law_261 : decode cL_law 261 = .ok (.aload_n 0, 1) := dL_law_r246.2.2.2.2.2.2.2.2.2.2.2.1
theorem dL_law_262 : decode cL_law 262 = .ok (.iload_n 3, 1) := dL_law_r246.2.2.2.2.2.2.2.2.2.2.2.2.1
theorem dL_law_263 : decode cL_law 263 = .ok (.iconst 2, 1) := dL_law_r246.2.2.2.2.2.2.2.2.2.2.2.2.2.1
theorem dL_law_264 : decode cL_law 264 = .ok (.iadd, 1) := dL_law_r246.2.2.2.2.2.2.2.2.2.2.2.2.2.2.1
theorem dL_law_265 : decode cL_law 265 = .ok (.iaload, 1) := dL_law_r246.2.2.2.2.2.2.2.2.2.2.2.2.2.2.2.1
theorem dL_law_r266 : zdcP cL_law 266 [(.aload_n 0, 1), (.iload_n 3, 1), (.iconst 3, 1), (.iadd, 1), (.iaload, 1), (.i2l, 1), (.bipush 32, 2), (.lshl, 1), (.aload_n 0, 1), (.iload_n 3, 1), (.iconst 4, 1), (.iadd, 1), (.iaload, 1), (.i2l, 1), (.ldc2_w 18, 3), (.land, 1)] := zdcA_ok (by decide +kernel)
theorem dL_law_266 : decode cL_law 266 = .ok (.aload_n 0, 1) := dL_law_r266.1
theorem dL_law_267 : decode cL_law 267 = .ok (.iload_n 3, 1) := dL_law_r266.2.1
theorem dL_law_268 : decode cL_law 268 = .ok (.iconst 3, 1) := dL_law_r266.2.2.1
theorem dL_law_269 : decode cL_law 269 = .ok (.iadd, 1) := dL_law_r266.2.2.2.1
theorem dL_law_270 : decode cL_law 270 = .ok (.iaload, 1) := dL_law_r266.2.2.2.2.1
theorem dL_law_271 : decode cL_law 271 = .ok (.i2l, 1) := dL_law_r266.2.2.2.2.2.1
theorem dL_law_272 : decode cL_law 272 = .ok (.bipush 32, 2) := dL_law_r266.2.2.2.2.2.2.1
theorem dL_law_274 : decode cL_law 274 = .ok (.lshl, 1) := dL_law_r266.2.2.2.2.2.2.2.1
theorem dL_law_275 : decode cL_law 275 = .ok (.aload_n 0, 1) := dL_law_r266.2.2.2.2.2.2.2.2.1
theorem dL_law_276 : decode cL_law 276 = .ok (.iload_n 3, 1) := dL_law_r266.2.2.2.2.2.2.2.2.2.1
theorem dL_law_277 : decode cL_law 277 = .ok (.iconst 4, 1) := dL_law_r266.2.2.2.2.2.2.2.2.2.2.1
theorem dL_law_278 : decode cL_law 278 = .ok (.iadd, 1) := dL_law_r266.2.2.2.2.2.2.2.2.2.2.2.1
theorem dL_law_279 : decode cL_law 279 = .ok (.iaload, 1) := dL_law_r266.2.2.2.2.2.2.2.2.2.2.2.2.1
theorem dL_law_280 : decode cL_law 280 = .ok (.i2l, 1) := dL_law_r266.2.2.2.2.2.2.2.2.2.2.2.2.2.1
theorem dL_law_281 : decode cL_law 281 = .ok (.ldc2_w 18, 3) := dL_law_r266.2.2.2.2.2.2.2.2.2.2.2.2.2.2.1
theorem dL_law_284 : decode cL_law 284 = .ok (.land, 1) := dL_law_r266.2.2.2.2.2.2.2.2.2.2.2.2.2.2.2.1
theorem dL_law_r285 : zdcP cL_law 285 [(.lor, 1), (.invokevirtual 20, 3), (.pop, 1), (.aload_n 2, 1), (.aload_n 0, 1), (.iload_n 3, 1), (.iconst 1, 1), (.iadd, 1), (.iaload, 1), (.aload_n 0, 1), (.iload_n 3, 1), (.iconst 2, 1), (.iadd, 1), (.iaload, 1), (.aload_n 0, 1), (.iload_n 3, 1)] := zdcA_ok (by decide +kernel)
theorem dL_law_285 : decode cL_law 285 = .ok (.lor, 1) := dL_law_r285.1
theorem dL_law_286 : decode cL_law 286 = .ok (.invokevirtual 20, 3) := dL_law_r285.2.1
theorem dL_law_289 : decode cL_law 289 = .ok (.pop, 1) := dL_law_r285.2.2.1
theorem dL_law_290 : decode cL_law 290 = .ok (.aload_n 2, 1) := dL_law_r285.2.2.2.1
theorem dL_law_291 : decode cL_law 291 = .ok (.aload_n 0, 1) := dL_law_r285.2.2.2.2.1
theorem dL_law_292 : decode cL_law 292 = .ok (.iload_n 3, 1) := dL_law_r285.2.2.2.2.2.1
theorem dL_law_293 : decode cL_law 293 = .ok (.iconst 1, 1) := dL_law_r285.2.2.2.2.2.2.1
theorem dL_law_294 : decode cL_law 294 = .ok (.iadd, 1) := dL_law_r285.2.2.2.2.2.2.2.1
theorem dL_law_295 : decode cL_law 295 = .ok (.iaload, 1) := dL_law_r285.2.2.2.2.2.2.2.2.1
theorem dL_law_296 : decode cL_law 296 = .ok (.aload_n 0, 1) := dL_law_r285.2.2.2.2.2.2.2.2.2.1
theorem dL_law_297 : decode cL_law 297 = .ok (.iload_n 3, 1) := dL_law_r285.2.2.2.2.2.2.2.2.2.2.1
theorem dL_law_298 : decode cL_law 298 = .ok (.iconst 2, 1) := dL_law_r285.2.2.2.2.2.2.2.2.2.2.2.1
theorem dL_law_299 : decode cL_law 299 = .ok (.iadd, 1) := dL_law_r285.2.2.2.2.2.2.2.2.2.2.2.2.1
theorem dL_law_300 : decode cL_law 300 = .ok (.iaload, 1) := dL_law_r285.2.2.2.2.2.2.2.2.2.2.2.2.2.1
theorem dL_law_301 : decode cL_law 301 = .ok (.aload_n 0, 1) := dL_law_r285.2.2.2.2.2.2.2.2.2.2.2.2.2.2.1
theorem dL_law_302 : decode cL_law 302 = .ok (.iload_n 3, 1) := dL_law_r285.2.2.2.2.2.2.2.2.2.2.2.2.2.2.2.1
theorem dL_law_r303 : zdcP cL_law 303 [(.iconst 3, 1), (.iadd, 1), (.iaload, 1), (.i2l, 1), (.bipush 32, 2), (.lshl, 1), (.aload_n 0, 1), (.iload_n 3, 1), (.iconst 4, 1), (.iadd, 1), (.iaload, 1), (.i2l, 1), (.ldc2_w 18, 3), (.land, 1), (.lor, 1), (.invokevirtual 24, 3)] := zdcA_ok (by decide +kernel)
theorem dL_law_303 : decode cL_law 303 = .ok (.iconst 3, 1) := dL_law_r303.1
theorem dL_law_304 : decode cL_law 304 = .ok (.iadd, 1) := dL_law_r303.2.1
theorem dL_law_305 : decode cL_law 305 = .ok (.iaload, 1) := dL_law_r303.2.2.1
theorem dL_law_306 : decode cL_law 306 = .ok (.i2l, 1) := dL_law_r303.2.2.2.1
theorem dL_law_307 : decode cL_law 307 = .ok (.bipush 32, 2) := dL_law_r303.2.2.2.2.1
theorem dL_law_309 : decode cL_law 309 = .ok (.lshl, 1) := dL_law_r303.2.2.2.2.2.1
theorem dL_law_310 : decode cL_law 310 = .ok (.aload_n 0, 1) := dL_law_r303.2.2.2.2.2.2.1
theorem dL_law_311 : decode cL_law 311 = .ok (.iload_n 3, 1) := dL_law_r303.2.2.2.2.2.2.2.1
theorem dL_law_312 : decode cL_law 312 = .ok (.iconst 4, 1) := dL_law_r303.2.2.2.2.2.2.2.2.1
theorem dL_law_313 : decode cL_law 313 = .ok (.iadd, 1) := dL_law_r303.2.2.2.2.2.2.2.2.2.1
theorem dL_law_314 : decode cL_law 314 = .ok (.iaload, 1) := dL_law_r303.2.2.2.2.2.2.2.2.2.2.1
theorem dL_law_315 : decode cL_law 315 = .ok (.i2l, 1) := dL_law_r303.2.2.2.2.2.2.2.2.2.2.2.1
theorem dL_law_316 : decode cL_law 316 = .ok (.ldc2_w 18, 3) := dL_law_r303.2.2.2.2.2.2.2.2.2.2.2.2.1
theorem dL_law_319 : decode cL_law 319 = .ok (.land, 1) := dL_law_r303.2.2.2.2.2.2.2.2.2.2.2.2.2.1
theorem dL_law_320 : decode cL_law 320 = .ok (.lor, 1) := dL_law_r303.2.2.2.2.2.2.2.2.2.2.2.2.2.2.1
theorem dL_law_321 : decode cL_law 321 = .ok (.invokevirtual 24, 3) := dL_law_r303.2.2.2.2.2.2.2.2.2.2.2.2.2.2.2.1
theorem dL_law_r324 : zdcP cL_law 324 [(.pop, 1), (.goto 1086, 3), (.aload_n 1, 1), (.aload_n 0, 1), (.iload_n 3, 1), (.iconst 1, 1), (.iadd, 1), (.iaload, 1), (.aload_n 0, 1), (.iload_n 3, 1), (.iconst 2, 1), (.iadd, 1), (.iaload, 1), (.aload_n 0, 1), (.iload_n 3, 1), (.iconst 3, 1)] := zdcA_ok (by decide +kernel)
theorem dL_law_324 : decode cL_law 324 = .ok (.pop, 1) := dL_law_r324.1
theorem dL_law_325 : decode cL_law 325 = .ok (.goto 1086, 3) := dL_law_r324.2.1
theorem dL_law_328 : decode cL_law 328 = .ok (.aload_n 1, 1) := dL_law_r324.2.2.1
theorem dL_law_329 : decode cL_law 329 = .ok (.aload_n 0, 1) := dL_law_r324.2.2.2.1
theorem dL_law_330 : decode cL_law 330 = .ok (.iload_n 3, 1) := dL_law_r324.2.2.2.2.1
theorem dL_law_331 : decode cL_law 331 = .ok (.iconst 1, 1) := dL_law_r324.2.2.2.2.2.1
theorem dL_law_332 : decode cL_law 332 = .ok (.iadd, 1) := dL_law_r324.2.2.2.2.2.2.1
theorem dL_law_333 : decode cL_law 333 = .ok (.iaload, 1) := dL_law_r324.2.2.2.2.2.2.2.1
theorem dL_law_334 : decode cL_law 334 = .ok (.aload_n 0, 1) := dL_law_r324.2.2.2.2.2.2.2.2.1
theorem dL_law_335 : decode cL_law 335 = .ok (.iload_n 3, 1) := dL_law_r324.2.2.2.2.2.2.2.2.2.1
theorem dL_law_336 : decode cL_law 336 = .ok (.iconst 2, 1) := dL_law_r324.2.2.2.2.2.2.2.2.2.2.1
theorem dL_law_337 : decode cL_law 337 = .ok (.iadd, 1) := dL_law_r324.2.2.2.2.2.2.2.2.2.2.2.1
theorem dL_law_338 : decode cL_law 338 = .ok (.iaload, 1) := dL_law_r324.2.2.2.2.2.2.2.2.2.2.2.2.1
theorem dL_law_339 : decode cL_law 339 = .ok (.aload_n 0, 1) := dL_law_r324.2.2.2.2.2.2.2.2.2.2.2.2.2.1
theorem dL_law_340 : decode cL_law 340 = .ok (.iload_n 3, 1) := dL_law_r324.2.2.2.2.2.2.2.2.2.2.2.2.2.2.1
theorem dL_law_341 : decode cL_law 341 = .ok (.iconst 3, 1) := dL_law_r324.2.2.2.2.2.2.2.2.2.2.2.2.2.2.2.1
theorem dL_law_r342 : zdcP cL_law 342 [(.iadd, 1), (.iaload, 1), (.aload_n 0, 1), (.iload_n 3, 1), (.iconst 4, 1), (.iadd, 1), (.iaload, 1), (.aload_n 0, 1), (.iload_n 3, 1), (.iconst 5, 1), (.iadd, 1), (.iaload, 1), (.invokevirtual 25, 3), (.pop, 1), (.aload_n 2, 1), (.aload_n 0, 1)] := zdcA_ok (by decide +kernel)
theorem dL_law_342 : decode cL_law 342 = .ok (.iadd, 1) := dL_law_r342.1
theorem dL_law_343 : decode cL_law 343 = .ok (.iaload, 1) := dL_law_r342.2.1
theorem dL_law_344 : decode cL_law 344 = .ok (.aload_n 0, 1) := dL_law_r342.2.2.1
theorem dL_law_345 : decode cL_law 345 = .ok (.iload_n 3, 1) := dL_law_r342.2.2.2.1
theorem dL_law_346 : decode cL_law 346 = .ok (.iconst 4, 1) := dL_law_r342.2.2.2.2.1
theorem dL_law_347 : decode cL_law 347 = .ok (.iadd, 1) := dL_law_r342.2.2.2.2.2.1
theorem dL_law_348 : decode cL_law 348 = .ok (.iaload, 1) := dL_law_r342.2.2.2.2.2.2.1
theorem dL_law_349 : decode cL_law 349 = .ok (.aload_n 0, 1) := dL_law_r342.2.2.2.2.2.2.2.1
theorem dL_law_350 : decode cL_law 350 = .ok (.iload_n 3, 1) := dL_law_r342.2.2.2.2.2.2.2.2.1
theorem dL_law_351 : decode cL_law 351 = .ok (.iconst 5, 1) := dL_law_r342.2.2.2.2.2.2.2.2.2.1
theorem dL_law_352 : decode cL_law 352 = .ok (.iadd, 1) := dL_law_r342.2.2.2.2.2.2.2.2.2.2.1
theorem dL_law_353 : decode cL_law 353 = .ok (.iaload, 1) := dL_law_r342.2.2.2.2.2.2.2.2.2.2.2.1
theorem dL_law_354 : decode cL_law 354 = .ok (.invokevirtual 25, 3) := dL_law_r342.2.2.2.2.2.2.2.2.2.2.2.2.1
theorem dL_law_357 : decode cL_law 357 = .ok (.pop, 1) := dL_law_r342.2.2.2.2.2.2.2.2.2.2.2.2.2.1
theorem dL_law_358 : decode cL_law 358 = .ok (.aload_n 2, 1) := dL_law_r342.2.2.2.2.2.2.2.2.2.2.2.2.2.2.1
theorem dL_law_359 : decode cL_law 359 = .ok (.aload_n 0, 1) := dL_law_r342.2.2.2.2.2.2.2.2.2.2.2.2.2.2.2.1
theorem dL_law_r360 : zdcP cL_law 360 [(.iload_n 3, 1), (.iconst 1, 1), (.iadd, 1), (.iaload, 1), (.aload_n 0, 1), (.iload_n 3, 1), (.iconst 2, 1), (.iadd, 1), (.iaload, 1), (.aload_n 0, 1), (.iload_n 3, 1), (.iconst 3, 1), (.iadd, 1), (.iaload, 1), (.aload_n 0, 1), (.iload_n 3, 1)] := zdcA_ok (by decide +kernel)
theorem dL_law_360 : decode cL_law 360 = .ok (.iload_n 3, 1) := dL_law_r360.1
theorem dL_law_361 : decode cL_law 361 = .ok (.iconst 1, 1) := dL_law_r360.2.1
theorem dL_law_362 : decode cL_law 362 = .ok (.iadd, 1) := dL_law_r360.2.2.1
theorem dL_law_363 : decode cL_law 363 = .ok (.iaload, 1) := dL_law_r360.2.2.2.1
theorem dL_law_364 : decode cL_law 364 = .ok (.aload_n 0, 1) := dL_law_r360.2.2.2.2.1
theorem dL_law_365 : decode cL_law 365 = .ok (.iload_n 3, 1) := dL_law_r360.2.2.2.2.2.1
theorem dL_law_366 : decode cL_law 366 = .ok (.iconst 2, 1) := dL_law_r360.2.2.2.2.2.2.1
theorem dL_law_367 : decode cL_law 367 = .ok (.iadd, 1) := dL_law_r360.2.2.2.2.2.2.2.1
theorem dL_law_368 : decode cL_law 368 = .ok (.iaload, 1) := dL_law_r360.2.2.2.2.2.2.2.2.1
theorem dL_law_369 : decode cL_law 369 = .ok (.aload_n 0, 1) := dL_law_r360.2.2.2.2.2.2.2.2.2.1
theorem dL_law_370 : decode cL_law 370 = .ok (.iload_n 3, 1) := dL_law_r360.2.2.2.2.2.2.2.2.2.2.1
theorem dL_law_371 : decode cL_law 371 = .ok (.iconst 3, 1) := dL_law_r360.2.2.2.2.2.2.2.2.2.2.2.1
theorem dL_law_372 : decode cL_law 372 = .ok (.iadd, 1) := dL_law_r360.2.2.2.2.2.2.2.2.2.2.2.2.1
theorem dL_law_373 : decode cL_law 373 = .ok (.iaload, 1) := dL_law_r360.2.2.2.2.2.2.2.2.2.2.2.2.2.1
theorem dL_law_374 : decode cL_law 374 = .ok (.aload_n 0, 1) := dL_law_r360.2.2.2.2.2.2.2.2.2.2.2.2.2.2.1
theorem dL_law_375 : decode cL_law 375 = .ok (.iload_n 3, 1) := dL_law_r360.2.2.2.2.2.2.2.2.2.2.2.2.2.2.2.1
theorem dL_law_r376 : zdcP cL_law 376 [(.iconst 4, 1), (.iadd, 1), (.iaload, 1), (.aload_n 0, 1), (.iload_n 3, 1), (.iconst 5, 1), (.iadd, 1), (.iaload, 1), (.invokevirtual 29, 3), (.pop, 1), (.goto 1023, 3), (.aload_n 1, 1), (.aload_n 0, 1), (.iload_n 3, 1), (.iconst 1, 1), (.iadd, 1)] := zdcA_ok (by decide +kernel)
theorem dL_law_376 : decode cL_law 376 = .ok (.iconst 4, 1) := dL_law_r376.1
theorem dL_law_377 : decode cL_law 377 = .ok (.iadd, 1) := dL_law_r376.2.1
theorem dL_law_378 : decode cL_law 378 = .ok (.iaload, 1) := dL_law_r376.2.2.1
theorem dL_law_379 : decode cL_law 379 = .ok (.aload_n 0, 1) := dL_law_r376.2.2.2.1
theorem dL_law_380 : decode cL_law 380 = .ok (.iload_n 3, 1) := dL_law_r376.2.2.2.2.1
theorem dL_law_381 : decode cL_law 381 = .ok (.iconst 5, 1) := dL_law_r376.2.2.2.2.2.1
theorem dL_law_382 : decode cL_law 382 = .ok (.iadd, 1) := dL_law_r376.2.2.2.2.2.2.1
theorem dL_law_383 : decode cL_law 383 = .ok (.iaload, 1) := dL_law_r376.2.2.2.2.2.2.2.1
theorem dL_law_384 : decode cL_law 384 = .ok (.invokevirtual 29, 3) := dL_law_r376.2.2.2.2.2.2.2.2.1
theorem dL_law_387 : decode cL_law 387 = .ok (.pop, 1) := dL_law_r376.2.2.2.2.2.2.2.2.2.1
theorem dL_law_388 : decode cL_law 388 = .ok (.goto 1023, 3) := dL_law_r376.2.2.2.2.2.2.2.2.2.2.1
theorem dL_law_391 : decode cL_law 391 = .ok (.aload_n 1, 1) := dL_law_r376.2.2.2.2.2.2.2.2.2.2.2.1
theorem dL_law_392 : decode cL_law 392 = .ok (.aload_n 0, 1) := dL_law_r376.2.2.2.2.2.2.2.2.2.2.2.2.1
theorem dL_law_393 : decode cL_law 393 = .ok (.iload_n 3, 1) := dL_law_r376.2.2.2.2.2.2.2.2.2.2.2.2.2.1
theorem dL_law_394 : decode cL_law 394 = .ok (.iconst 1, 1) := dL_law_r376.2.2.2.2.2.2.2.2.2.2.2.2.2.2.1
theorem dL_law_395 : decode cL_law 395 = .ok (.iadd, 1) := dL_law_r376.2.2.2.2.2.2.2.2.2.2.2.2.2.2.2.1
theorem dL_law_r396 : zdcP cL_law 396 [(.iaload, 1), (.aload_n 0, 1), (.iload_n 3, 1), (.iconst 2, 1), (.iadd, 1), (.iaload, 1), (.invokevirtual 30, 3), (.pop2, 1), (.aload_n 2, 1), (.aload_n 0, 1), (.iload_n 3, 1), (.iconst 1, 1), (.iadd, 1), (.iaload, 1), (.aload_n 0, 1), (.iload_n 3, 1)] := zdcA_ok (by decide +kernel)
theorem dL_law_396 : decode cL_law 396 = .ok (.iaload, 1) := dL_law_r396.1
theorem dL_law_397 : decode cL_law 397 = .ok (.aload_n 0, 1) := dL_law_r396.2.1
theorem dL_law_398 : decode cL_law 398 = .ok (.iload_n 3, 1) := dL_law_r396.2.2.1
theorem dL_law_399 : decode cL_law 399 = .ok (.iconst 2, 1) := dL_law_r396.2.2.2.1
theorem dL_law_400 : decode cL_law 400 = .ok (.iadd, 1) := dL_law_r396.2.2.2.2.1
theorem dL_law_401 : decode cL_law 401 = .ok (.iaload, 1) := dL_law_r396.2.2.2.2.2.1
theorem dL_law_402 : decode cL_law 402 = .ok (.invokevirtual 30, 3) := dL_law_r396.2.2.2.2.2.2.1
theorem dL_law_405 : decode cL_law 405 = .ok (.pop2, 1) := dL_law_r396.2.2.2.2.2.2.2.1
theorem dL_law_406 : decode cL_law 406 = .ok (.aload_n 2, 1) := dL_law_r396.2.2.2.2.2.2.2.2.1
theorem dL_law_407 : decode cL_law 407 = .ok (.aload_n 0, 1) := dL_law_r396.2.2.2.2.2.2.2.2.2.1
theorem dL_law_408 : decode cL_law 408 = .ok (.iload_n 3, 1) := dL_law_r396.2.2.2.2.2.2.2.2.2.2.1
theorem dL_law_409 : decode cL_law 409 = .ok (.iconst 1, 1) := dL_law_r396.2.2.2.2.2.2.2.2.2.2.2.1
theorem dL_law_410 : decode cL_law 410 = .ok (.iadd, 1) := dL_law_r396.2.2.2.2.2.2.2.2.2.2.2.2.1
theorem dL_law_411 : decode cL_law 411 = .ok (.iaload, 1) := dL_law_r396.2.2.2.2.2.2.2.2.2.2.2.2.2.1
theorem dL_law_412 : decode cL_law 412 = .ok (.aload_n 0, 1) := dL_law_r396.2.2.2.2.2.2.2.2.2.2.2.2.2.2.1
theorem dL_law_413 : decode cL_law 413 = .ok (.iload_n 3, 1) := dL_law_r396.2.2.2.2.2.2.2.2.2.2.2.2.2.2.2.1
theorem dL_law_r414 : zdcP cL_law 414 [(.iconst 2, 1), (.iadd, 1), (.iaload, 1), (.invokevirtual 34, 3), (.pop2, 1), (.goto 990, 3), (.aload_n 1, 1), (.aload_n 0, 1), (.iload_n 3, 1), (.iconst 1, 1), (.iadd, 1), (.iaload, 1), (.aload_n 0, 1), (.iload_n 3, 1), (.iconst 2, 1), (.iadd, 1)] := zdcA_ok (by decide +kernel)
theorem dL_law_414 : decode cL_law 414 = .ok (.iconst 2, 1) := dL_law_r414.1
theorem dL_law_415 : decode cL_law 415 = .ok (.iadd, 1) := dL_law_r414.2.1
theorem dL_law_416 : decode cL_law 416 = .ok (.iaload, 1) := dL_law_r414.2.2.1
theorem dL_law_417 : decode cL_law 417 = .ok (.invokevirtual 34, 3) := dL_law_r414.2.2.2.1
theorem dL_law_420 : decode cL_law 420 = .ok (.pop2, 1) := dL_law_r414.2.2.2.2.1
theorem dL_law_421 : decode cL_law 421 = .ok (.goto 990, 3) := dL_law_r414.2.2.2.2.2.1
theorem dL_law_424 : decode cL_law 424 = .ok (.aload_n 1, 1) := dL_law_r414.2.2.2.2.2.2.1
theorem dL_law_425 : decode cL_law 425 = .ok (.aload_n 0, 1) := dL_law_r414.2.2.2.2.2.2.2.1
theorem dL_law_426 : decode cL_law 426 = .ok (.iload_n 3, 1) := dL_law_r414.2.2.2.2.2.2.2.2.1
theorem dL_law_427 : decode cL_law 427 = .ok (.iconst 1, 1) := dL_law_r414.2.2.2.2.2.2.2.2.2.1
theorem dL_law_428 : decode cL_law 428 = .ok (.iadd, 1) := dL_law_r414.2.2.2.2.2.2.2.2.2.2.1
theorem dL_law_429 : decode cL_law 429 = .ok (.iaload, 1) := dL_law_r414.2.2.2.2.2.2.2.2.2.2.2.1
theorem dL_law_430 : decode cL_law 430 = .ok (.aload_n 0, 1) := dL_law_r414.2.2.2.2.2.2.2.2.2.2.2.2.1
theorem dL_law_431 : decode cL_law 431 = .ok (.iload_n 3, 1) := dL_law_r414.2.2.2.2.2.2.2.2.2.2.2.2.2.1
theorem dL_law_432 : decode cL_law 432 = .ok (.iconst 2, 1) := dL_law_r414.2.2.2.2.2.2.2.2.2.2.2.2.2.2.1
theorem dL_law_433 : decode cL_law 433 = .ok (.iadd, 1) := dL_law_r414.2.2.2.2.2.2.2.2.2.2.2.2.2.2.2.1
theorem dL_law_r434 : zdcP cL_law 434 [(.iaload, 1), (.invokevirtual 35, 3), (.pop, 1), (.aload_n 2, 1), (.aload_n 0, 1), (.iload_n 3, 1), (.iconst 1, 1), (.iadd, 1), (.iaload, 1), (.aload_n 0, 1), (.iload_n 3, 1), (.iconst 2, 1), (.iadd, 1), (.iaload, 1), (.invokevirtual 39, 3), (.pop, 1)] := zdcA_ok (by decide +kernel)
theorem dL_law_434 : decode cL_law 434 = .ok (.iaload, 1) := dL_law_r434.1
theorem dL_law_435 : decode cL_law 435 = .ok (.invokevirtual 35, 3) := dL_law_r434.2.1
theorem dL_law_438 : decode cL_law 438 = .ok (.pop, 1) := dL_law_r434.2.2.1
theorem dL_law_439 : decode cL_law 439 = .ok (.aload_n 2, 1) := dL_law_r434.2.2.2.1
theorem dL_law_440 : decode cL_law 440 = .ok (.aload_n 0, 1) := dL_law_r434.2.2.2.2.1
theorem dL_law_441 : decode cL_law 441 = .ok (.iload_n 3, 1) := dL_law_r434.2.2.2.2.2.1
theorem dL_law_442 : decode cL_law 442 = .ok (.iconst 1, 1) := dL_law_r434.2.2.2.2.2.2.1
theorem dL_law_443 : decode cL_law 443 = .ok (.iadd, 1) := dL_law_r434.2.2.2.2.2.2.2.1
theorem dL_law_444 : decode cL_law 444 = .ok (.iaload, 1) := dL_law_r434.2.2.2.2.2.2.2.2.1
theorem dL_law_445 : decode cL_law 445 = .ok (.aload_n 0, 1) := dL_law_r434.2.2.2.2.2.2.2.2.2.1
theorem dL_law_446 : decode cL_law 446 = .ok (.iload_n 3, 1) := dL_law_r434.2.2.2.2.2.2.2.2.2.2.1
theorem dL_law_447 : decode cL_law 447 = .ok (.iconst 2, 1) := dL_law_r434.2.2.2.2.2.2.2.2.2.2.2.1
theorem dL_law_448 : decode cL_law 448 = .ok (.iadd, 1) := dL_law_r434.2.2.2.2.2.2.2.2.2.2.2.2.1
theorem dL_law_449 : decode cL_law 449 = .ok (.iaload, 1) := dL_law_r434.2.2.2.2.2.2.2.2.2.2.2.2.2.1
theorem dL_law_450 : decode cL_law 450 = .ok (.invokevirtual 39, 3) := dL_law_r434.2.2.2.2.2.2.2.2.2.2.2.2.2.2.1
theorem dL_law_453 : decode cL_law 453 = .ok (.pop, 1) := dL_law_r434.2.2.2.2.2.2.2.2.2.2.2.2.2.2.2.1
theorem dL_law_r454 : zdcP cL_law 454 [(.goto 957, 3), (.aload_n 1, 1), (.aload_n 0, 1), (.iload_n 3, 1), (.iconst 1, 1), (.iadd, 1), (.iaload, 1), (.invokevirtual 40, 3), (.pop, 1), (.aload_n 2, 1), (.aload_n 0, 1), (.iload_n 3, 1), (.iconst 1, 1), (.iadd, 1), (.iaload, 1), (.invokevirtual 44, 3)] := zdcA_ok (by decide +kernel)
theorem dL_law_454 : decode cL_law 454 = .ok (.goto 957, 3) := dL_law_r454.1
theorem dL_law_457 : decode cL_law 457 = .ok (.aload_n 1, 1) := dL_law_r454.2.1
theorem dL_law_458 : decode cL_law 458 = .ok (.aload_n 0, 1) := dL_law_r454.2.2.1
theorem dL_law_459 : decode cL_law 459 = .ok (.iload_n 3, 1) := dL_law_r454.2.2.2.1
theorem dL_law_460 : decode cL_law 460 = .ok (.iconst 1, 1) := dL_law_r454.2.2.2.2.1
theorem dL_law_461 : decode cL_law 461 = .ok (.iadd, 1) := dL_law_r454.2.2.2.2.2.1
theorem dL_law_462 : decode cL_law 462 = .ok (.iaload, 1) := dL_law_r454.2.2.2.2.2.2.1
theorem dL_law_463 : decode cL_law 463 = .ok (.invokevirtual 40, 3) := dL_law_r454.2.2.2.2.2.2.2.1
theorem dL_law_466 : decode cL_law 466 = .ok (.pop, 1) := dL_law_r454.2.2.2.2.2.2.2.2.1
theorem dL_law_467 : decode cL_law 467 = .ok (.aload_n 2, 1) := dL_law_r454.2.2.2.2.2.2.2.2.2.1
theorem dL_law_468 : decode cL_law 468 = .ok (.aload_n 0, 1) := dL_law_r454.2.2.2.2.2.2.2.2.2.2.1
theorem dL_law_469 : decode cL_law 469 = .ok (.iload_n 3, 1) := dL_law_r454.2.2.2.2.2.2.2.2.2.2.2.1
theorem dL_law_470 : decode cL_law 470 = .ok (.iconst 1, 1) := dL_law_r454.2.2.2.2.2.2.2.2.2.2.2.2.1
theorem dL_law_471 : decode cL_law 471 = .ok (.iadd, 1) := dL_law_r454.2.2.2.2.2.2.2.2.2.2.2.2.2.1
theorem dL_law_472 : decode cL_law 472 = .ok (.iaload, 1) := dL_law_r454.2.2.2.2.2.2.2.2.2.2.2.2.2.2.1
theorem dL_law_473 : decode cL_law 473 = .ok (.invokevirtual 44, 3) := dL_law_r454.2.2.2.2.2.2.2.2.2.2.2.2.2.2.2.1
theorem dL_law_r476 : zdcP cL_law 476 [(.pop, 1), (.goto 934, 3), (.aload_n 1, 1), (.aload_n 0, 1), (.iload_n 3, 1), (.iconst 1, 1), (.iadd, 1), (.iaload, 1), (.aload_n 0, 1), (.iload_n 3, 1), (.iconst 2, 1), (.iadd, 1), (.iaload, 1), (.invokevirtual 45, 3), (.pop, 1), (.aload_n 2, 1)] := zdcA_ok (by decide +kernel)
theorem dL_law_476 : decode cL_law 476 = .ok (.pop, 1) := dL_law_r476.1
theorem dL_law_477 : decode cL_law 477 = .ok (.goto 934, 3) := dL_law_r476.2.1
theorem dL_law_480 : decode cL_law 480 = .ok (.aload_n 1, 1) := dL_law_r476.2.2.1
theorem dL_law_481 : decode cL_law 481 = .ok (.aload_n 0, 1) := dL_law_r476.2.2.2.1
theorem dL_law_482 : decode cL_law 482 = .ok (.iload_n 3, 1) := dL_law_r476.2.2.2.2.1
theorem dL_law_483 : decode cL_law 483 = .ok (.iconst 1, 1) := dL_law_r476.2.2.2.2.2.1
theorem dL_law_484 : decode cL_law 484 = .ok (.iadd, 1) := dL_law_r476.2.2.2.2.2.2.1
theorem dL_law_485 : decode cL_law 485 = .ok (.iaload, 1) := dL_law_r476.2.2.2.2.2.2.2.1
theorem dL_law_486 : decode cL_law 486 = .ok (.aload_n 0, 1) := dL_law_r476.2.2.2.2.2.2.2.2.1
theorem dL_law_487 : decode cL_law 487 = .ok (.iload_n 3, 1) := dL_law_r476.2.2.2.2.2.2.2.2.2.1
theorem dL_law_488 : decode cL_law 488 = .ok (.iconst 2, 1) := dL_law_r476.2.2.2.2.2.2.2.2.2.2.1
theorem dL_law_489 : decode cL_law 489 = .ok (.iadd, 1) := dL_law_r476.2.2.2.2.2.2.2.2.2.2.2.1
theorem dL_law_490 : decode cL_law 490 = .ok (.iaload, 1) := dL_law_r476.2.2.2.2.2.2.2.2.2.2.2.2.1
theorem dL_law_491 : decode cL_law 491 = .ok (.invokevirtual 45, 3) := dL_law_r476.2.2.2.2.2.2.2.2.2.2.2.2.2.1
theorem dL_law_494 : decode cL_law 494 = .ok (.pop, 1) := dL_law_r476.2.2.2.2.2.2.2.2.2.2.2.2.2.2.1
theorem dL_law_495 : decode cL_law 495 = .ok (.aload_n 2, 1) := dL_law_r476.2.2.2.2.2.2.2.2.2.2.2.2.2.2.2.1
theorem dL_law_r496 : zdcP cL_law 496 [(.aload_n 0, 1), (.iload_n 3, 1), (.iconst 1, 1), (.iadd, 1), (.iaload, 1), (.aload_n 0, 1), (.iload_n 3, 1), (.iconst 2, 1), (.iadd, 1), (.iaload, 1), (.invokevirtual 48, 3), (.pop, 1), (.goto 901, 3), (.aload_n 1, 1), (.aload_n 0, 1), (.iload_n 3, 1)] := zdcA_ok (by decide +kernel)
theorem dL_law_496 : decode cL_law 496 = .ok (.aload_n 0, 1) := dL_law_r496.1
theorem dL_law_497 : decode cL_law 497 = .ok (.iload_n 3, 1) := dL_law_r496.2.1
theorem dL_law_498 : decode cL_law 498 = .ok (.iconst 1, 1) := dL_law_r496.2.2.1
theorem dL_law_499 : decode cL_law 499 = .ok (.iadd, 1) := dL_law_r496.2.2.2.1
theorem dL_law_500 : decode cL_law 500 = .ok (.iaload, 1) := dL_law_r496.2.2.2.2.1
theorem dL_law_501 : decode cL_law 501 = .ok (.aload_n 0, 1) := dL_law_r496.2.2.2.2.2.1
theorem dL_law_502 : decode cL_law 502 = .ok (.iload_n 3, 1) := dL_law_r496.2.2.2.2.2.2.1
theorem dL_law_503 : decode cL_law 503 = .ok (.iconst 2, 1) := dL_law_r496.2.2.2.2.2.2.2.1
theorem dL_law_504 : decode cL_law 504 = .ok (.iadd, 1) := dL_law_r496.2.2.2.2.2.2.2.2.1
theorem dL_law_505 : decode cL_law 505 = .ok (.iaload, 1) := dL_law_r496.2.2.2.2.2.2.2.2.2.1
theorem dL_law_506 : decode cL_law 506 = .ok (.invokevirtual 48, 3) := dL_law_r496.2.2.2.2.2.2.2.2.2.2.1
theorem dL_law_509 : decode cL_law 509 = .ok (.pop, 1) := dL_law_r496.2.2.2.2.2.2.2.2.2.2.2.1
theorem dL_law_510 : decode cL_law 510 = .ok (.goto 901, 3) := dL_law_r496.2.2.2.2.2.2.2.2.2.2.2.2.1
theorem dL_law_513 : decode cL_law 513 = .ok (.aload_n 1, 1) := dL_law_r496.2.2.2.2.2.2.2.2.2.2.2.2.2.1
theorem dL_law_514 : decode cL_law 514 = .ok (.aload_n 0, 1) := dL_law_r496.2.2.2.2.2.2.2.2.2.2.2.2.2.2.1
theorem dL_law_515 : decode cL_law 515 = .ok (.iload_n 3, 1) := dL_law_r496.2.2.2.2.2.2.2.2.2.2.2.2.2.2.2.1
theorem dL_law_r516 : zdcP cL_law 516 [(.iconst 1, 1), (.iadd, 1), (.iaload, 1), (.aload_n 0, 1), (.iload_n 3, 1), (.iconst 2, 1), (.iadd, 1), (.iaload, 1), (.ifCond .eq 7, 3), (.iconst 1, 1), (.goto 4, 3), (.iconst 0, 1), (.invokevirtual 49, 3), (.pop, 1), (.aload_n 2, 1), (.aload_n 0, 1)] := zdcA_ok (by decide +kernel)
theorem dL_law_516 : decode cL_law 516 = .ok (.iconst 1, 1) := dL_law_r516.1
theorem dL_law_517 : decode cL_law 517 = .ok (.iadd, 1) := dL_law_r516.2.1
theorem dL_law_518 : decode cL_law 518 = .ok (.iaload, 1) := dL_law_r516.2.2.1
theorem dL_law_519 : decode cL_law 519 = .ok (.aload_n 0, 1) := dL_law_r516.2.2.2.1
theorem dL_law_520 : decode cL_law 520 = .ok (.iload_n 3, 1) := dL_law_r516.2.2.2.2.1
theorem dL_law_521 : decode cL_law 521 = .ok (.iconst 2, 1) := dL_law_r516.2.2.2.2.2.1
theorem dL_law_522 : decode cL_law 522 = .ok (.iadd, 1) := dL_law_r516.2.2.2.2.2.2.1
theorem dL_law_523 : decode cL_law 523 = .ok (.iaload, 1) := dL_law_r516.2.2.2.2.2.2.2.1
theorem dL_law_524 : decode cL_law 524 = .ok (.ifCond .eq 7, 3) := dL_law_r516.2.2.2.2.2.2.2.2.1
theorem dL_law_527 : decode cL_law 527 = .ok (.iconst 1, 1) := dL_law_r516.2.2.2.2.2.2.2.2.2.1
theorem dL_law_528 : decode cL_law 528 = .ok (.goto 4, 3) := dL_law_r516.2.2.2.2.2.2.2.2.2.2.1
theorem dL_law_531 : decode cL_law 531 = .ok (.iconst 0, 1) := dL_law_r516.2.2.2.2.2.2.2.2.2.2.2.1
theorem dL_law_532 : decode cL_law 532 = .ok (.invokevirtual 49, 3) := dL_law_r516.2.2.2.2.2.2.2.2.2.2.2.2.1
theorem dL_law_535 : decode cL_law 535 = .ok (.pop, 1) := dL_law_r516.2.2.2.2.2.2.2.2.2.2.2.2.2.1
theorem dL_law_536 : decode cL_law 536 = .ok (.aload_n 2, 1) := dL_law_r516.2.2.2.2.2.2.2.2.2.2.2.2.2.2.1
theorem dL_law_537 : decode cL_law 537 = .ok (.aload_n 0, 1) := dL_law_r516.2.2.2.2.2.2.2.2.2.2.2.2.2.2.2.1
theorem dL_law_r538 : zdcP cL_law 538 [(.iload_n 3, 1), (.iconst 1, 1), (.iadd, 1), (.iaload, 1), (.aload_n 0, 1), (.iload_n 3, 1), (.iconst 2, 1), (.iadd, 1), (.iaload, 1), (.ifCond .eq 7, 3), (.iconst 1, 1), (.goto 4, 3), (.iconst 0, 1), (.invokevirtual 53, 3), (.pop, 1), (.goto 852, 3)] := zdcA_ok (by decide +kernel)
theorem dL_law_538 : decode cL_law 538 = .ok (.iload_n 3, 1) := dL_law_r538.1
theorem dL_law_539 : decode cL_law 539 = .ok (.iconst 1, 1) := dL_law_r538.2.1
theorem dL_law_540 : decode cL_law 540 = .ok (.iadd, 1) := dL_law_r538.2.2.1
theorem dL_law_541 : decode cL_law 541 = .ok (.iaload, 1) := dL_law_r538.2.2.2.1
theorem dL_law_542 : decode cL_law 542 = .ok (.aload_n 0, 1) := dL_law_r538.2.2.2.2.1
theorem dL_law_543 : decode cL_law 543 = .ok (.iload_n 3, 1) := dL_law_r538.2.2.2.2.2.1
theorem dL_law_544 : decode cL_law 544 = .ok (.iconst 2, 1) := dL_law_r538.2.2.2.2.2.2.1
theorem dL_law_545 : decode cL_law 545 = .ok (.iadd, 1) := dL_law_r538.2.2.2.2.2.2.2.1
theorem dL_law_546 : decode cL_law 546 = .ok (.iaload, 1) := dL_law_r538.2.2.2.2.2.2.2.2.1
theorem dL_law_547 : decode cL_law 547 = .ok (.ifCond .eq 7, 3) := dL_law_r538.2.2.2.2.2.2.2.2.2.1
theorem dL_law_550 : decode cL_law 550 = .ok (.iconst 1, 1) := dL_law_r538.2.2.2.2.2.2.2.2.2.2.1
theorem dL_law_551 : decode cL_law 551 = .ok (.goto 4, 3) := dL_law_r538.2.2.2.2.2.2.2.2.2.2.2.1
theorem dL_law_554 : decode cL_law 554 = .ok (.iconst 0, 1) := dL_law_r538.2.2.2.2.2.2.2.2.2.2.2.2.1
theorem dL_law_555 : decode cL_law 555 = .ok (.invokevirtual 53, 3) := dL_law_r538.2.2.2.2.2.2.2.2.2.2.2.2.2.1
theorem dL_law_558 : decode cL_law 558 = .ok (.pop, 1) := dL_law_r538.2.2.2.2.2.2.2.2.2.2.2.2.2.2.1
theorem dL_law_559 : decode cL_law 559 = .ok (.goto 852, 3) := dL_law_r538.2.2.2.2.2.2.2.2.2.2.2.2.2.2.2.1
theorem dL_law_r562 : zdcP cL_law 562 [(.aload_n 1, 1), (.aload_n 0, 1), (.iload_n 3, 1), (.iconst 1, 1), (.iadd, 1), (.iaload, 1), (.aload_n 0, 1), (.iload_n 3, 1), (.iconst 2, 1), (.iadd, 1), (.iaload, 1), (.invokevirtual 54, 3), (.pop, 1), (.aload_n 2, 1), (.aload_n 0, 1), (.iload_n 3, 1)] := zdcA_ok (by decide +kernel)
theorem dL_law_562 : decode cL_law 562 = .ok (.aload_n 1, 1) := dL_law_r562.1
theorem dL_law_563 : decode cL_law 563 = .ok (.aload_n 0, 1) := dL_law_r562.2.1
theorem dL_law_564 : decode cL_law 564 = .ok (.iload_n 3, 1) := dL_law_r562.2.2.1
theorem dL_law_565 : decode cL_law 565 = .ok (.iconst 1, 1) := dL_law_r562.2.2.2.1
theorem dL_law_566 : decode cL_law 566 = .ok (.iadd, 1) := dL_law_r562.2.2.2.2.1
theorem dL_law_567 : decode cL_law 567 = .ok (.iaload, 1) := dL_law_r562.2.2.2.2.2.1
theorem dL_law_568 : decode cL_law 568 = .ok (.aload_n 0, 1) := dL_law_r562.2.2.2.2.2.2.1
theorem dL_law_569 : decode cL_law 569 = .ok (.iload_n 3, 1) := dL_law_r562.2.2.2.2.2.2.2.1
theorem dL_law_570 : decode cL_law 570 = .ok (.iconst 2, 1) := dL_law_r562.2.2.2.2.2.2.2.2.1
theorem dL_law_571 : decode cL_law 571 = .ok (.iadd, 1) := dL_law_r562.2.2.2.2.2.2.2.2.2.1
theorem dL_law_572 : decode cL_law 572 = .ok (.iaload, 1) := dL_law_r562.2.2.2.2.2.2.2.2.2.2.1
theorem dL_law_573 : decode cL_law 573 = .ok (.invokevirtual 54, 3) := dL_law_r562.2.2.2.2.2.2.2.2.2.2.2.1
theorem dL_law_576 : decode cL_law 576 = .ok (.pop, 1) := dL_law_r562.2.2.2.2.2.2.2.2.2.2.2.2.1
theorem dL_law_577 : decode cL_law 577 = .ok (.aload_n 2, 1) := dL_law_r562.2.2.2.2.2.2.2.2.2.2.2.2.2.1
theorem dL_law_578 : decode cL_law 578 = .ok (.aload_n 0, 1) := dL_law_r562.2.2.2.2.2.2.2.2.2.2.2.2.2.2.1
theorem dL_law_579 : decode cL_law 579 = .ok (.iload_n 3, 1) := dL_law_r562.2.2.2.2.2.2.2.2.2.2.2.2.2.2.2.1
theorem dL_law_r580 : zdcP cL_law 580 [(.iconst 1, 1), (.iadd, 1), (.iaload, 1), (.aload_n 0, 1), (.iload_n 3, 1), (.iconst 2, 1), (.iadd, 1), (.iaload, 1), (.invokevirtual 57, 3), (.pop, 1), (.goto 819, 3), (.aload_n 1, 1), (.aload_n 0, 1), (.iload_n 3, 1), (.iconst 1, 1), (.iadd, 1)] := zdcA_ok (by decide +kernel)
theorem dL_law_580 : decode cL_law 580 = .ok (.iconst 1, 1) := dL_law_r580.1
theorem dL_law_581 : decode cL_law 581 = .ok (.iadd, 1) := dL_law_r580.2.1
theorem dL_law_582 : decode cL_law 582 = .ok (.iaload, 1) := dL_law_r580.2.2.1
theorem dL_law_583 : decode cL_law 583 = .ok (.aload_n 0, 1) := dL_law_r580.2.2.2.1
theorem dL_law_584 : decode cL_law 584 = .ok (.iload_n 3, 1) := dL_law_r580.2.2.2.2.1
theorem dL_law_585 : decode cL_law 585 = .ok (.iconst 2, 1) := dL_law_r580.2.2.2.2.2.1
theorem dL_law_586 : decode cL_law 586 = .ok (.iadd, 1) := dL_law_r580.2.2.2.2.2.2.1
theorem dL_law_587 : decode cL_law 587 = .ok (.iaload, 1) := dL_law_r580.2.2.2.2.2.2.2.1
theorem dL_law_588 : decode cL_law 588 = .ok (.invokevirtual 57, 3) := dL_law_r580.2.2.2.2.2.2.2.2.1
theorem dL_law_591 : decode cL_law 591 = .ok (.pop, 1) := dL_law_r580.2.2.2.2.2.2.2.2.2.1
theorem dL_law_592 : decode cL_law 592 = .ok (.goto 819, 3) := dL_law_r580.2.2.2.2.2.2.2.2.2.2.1
theorem dL_law_595 : decode cL_law 595 = .ok (.aload_n 1, 1) := dL_law_r580.2.2.2.2.2.2.2.2.2.2.2.1
theorem dL_law_596 : decode cL_law 596 = .ok (.aload_n 0, 1) := dL_law_r580.2.2.2.2.2.2.2.2.2.2.2.2.1
theorem dL_law_597 : decode cL_law 597 = .ok (.iload_n 3, 1) := dL_law_r580.2.2.2.2.2.2.2.2.2.2.2.2.2.1
theorem dL_law_598 : decode cL_law 598 = .ok (.iconst 1, 1) := dL_law_r580.2.2.2.2.2.2.2.2.2.2.2.2.2.2.1
theorem dL_law_599 : decode cL_law 599 = .ok (.iadd, 1) := dL_law_r580.2.2.2.2.2.2.2.2.2.2.2.2.2.2.2.1
theorem dL_law_r600 : zdcP cL_law 600 [(.iaload, 1), (.aload_n 0, 1), (.iload_n 3, 1), (.iconst 2, 1), (.iadd, 1), (.iaload, 1), (.invokevirtual 58, 3), (.pop, 1), (.aload_n 2, 1), (.aload_n 0, 1), (.iload_n 3, 1), (.iconst 1, 1), (.iadd, 1), (.iaload, 1), (.aload_n 0, 1), (.iload_n 3, 1)] := zdcA_ok (by decide +kernel)
theorem dL_law_600 : decode cL_law 600 = .ok (.iaload, 1) := dL_law_r600.1
theorem dL_law_601 : decode cL_law 601 = .ok (.aload_n 0, 1) := dL_law_r600.2.1
theorem dL_law_602 : decode cL_law 602 = .ok (.iload_n 3, 1) := dL_law_r600.2.2.1
theorem dL_law_603 : decode cL_law 603 = .ok (.iconst 2, 1) := dL_law_r600.2.2.2.1
theorem dL_law_604 : decode cL_law 604 = .ok (.iadd, 1) := dL_law_r600.2.2.2.2.1
theorem dL_law_605 : decode cL_law 605 = .ok (.iaload, 1) := dL_law_r600.2.2.2.2.2.1
theorem dL_law_606 : decode cL_law 606 = .ok (.invokevirtual 58, 3) := dL_law_r600.2.2.2.2.2.2.1
theorem dL_law_609 : decode cL_law 609 = .ok (.pop, 1) := dL_law_r600.2.2.2.2.2.2.2.1
theorem dL_law_610 : decode cL_law 610 = .ok (.aload_n 2, 1) := dL_law_r600.2.2.2.2.2.2.2.2.1
theorem dL_law_611 : decode cL_law 611 = .ok (.aload_n 0, 1) := dL_law_r600.2.2.2.2.2.2.2.2.2.1
theorem dL_law_612 : decode cL_law 612 = .ok (.iload_n 3, 1) := dL_law_r600.2.2.2.2.2.2.2.2.2.2.1
theorem dL_law_613 : decode cL_law 613 = .ok (.iconst 1, 1) := dL_law_r600.2.2.2.2.2.2.2.2.2.2.2.1
theorem dL_law_614 : decode cL_law 614 = .ok (.iadd, 1) := dL_law_r600.2.2.2.2.2.2.2.2.2.2.2.2.1
theorem dL_law_615 : decode cL_law 615 = .ok (.iaload, 1) := dL_law_r600.2.2.2.2.2.2.2.2.2.2.2.2.2.1
theorem dL_law_616 : decode cL_law 616 = .ok (.aload_n 0, 1) := dL_law_r600.2.2.2.2.2.2.2.2.2.2.2.2.2.2.1
theorem dL_law_617 : decode cL_law 617 = .ok (.iload_n 3, 1) := dL_law_r600.2.2.2.2.2.2.2.2.2.2.2.2.2.2.2.1
theorem dL_law_r618 : zdcP cL_law 618 [(.iconst 2, 1), (.iadd, 1), (.iaload, 1), (.invokevirtual 61, 3), (.pop, 1), (.goto 786, 3), (.aload_n 1, 1), (.aload_n 0, 1), (.iload_n 3, 1), (.iconst 1, 1), (.iadd, 1), (.iaload, 1), (.aload_n 0, 1), (.iload_n 3, 1), (.iconst 2, 1), (.iadd, 1)] := zdcA_ok (by decide +kernel)
theorem dL_law_618 : decode cL_law 618 = .ok (.iconst 2, 1) := dL_law_r618.1
theorem dL_law_619 : decode cL_law 619 = .ok (.iadd, 1) := dL_law_r618.2.1
theorem dL_law_620 : decode cL_law 620 = .ok (.iaload, 1) := dL_law_r618.2.2.1
theorem dL_law_621 : decode cL_law 621 = .ok (.invokevirtual 61, 3) := dL_law_r618.2.2.2.1
theorem dL_law_624 : decode cL_law 624 = .ok (.pop, 1) := dL_law_r618.2.2.2.2.1
theorem dL_law_625 : decode cL_law 625 = .ok (.goto 786, 3) := dL_law_r618.2.2.2.2.2.1
theorem dL_law_628 : decode cL_law 628 = .ok (.aload_n 1, 1) := dL_law_r618.2.2.2.2.2.2.1
theorem dL_law_629 : decode cL_law 629 = .ok (.aload_n 0, 1) := dL_law_r618.2.2.2.2.2.2.2.1
theorem dL_law_630 : decode cL_law 630 = .ok (.iload_n 3, 1) := dL_law_r618.2.2.2.2.2.2.2.2.1
theorem dL_law_631 : decode cL_law 631 = .ok (.iconst 1, 1) := dL_law_r618.2.2.2.2.2.2.2.2.2.1
theorem dL_law_632 : decode cL_law 632 = .ok (.iadd, 1) := dL_law_r618.2.2.2.2.2.2.2.2.2.2.1
theorem dL_law_633 : decode cL_law 633 = .ok (.iaload, 1) := dL_law_r618.2.2.2.2.2.2.2.2.2.2.2.1
theorem dL_law_634 : decode cL_law 634 = .ok (.aload_n 0, 1) := dL_law_r618.2.2.2.2.2.2.2.2.2.2.2.2.1
theorem dL_law_635 : decode cL_law 635 = .ok (.iload_n 3, 1) := dL_law_r618.2.2.2.2.2.2.2.2.2.2.2.2.2.1
theorem dL_law_636 : decode cL_law 636 = .ok (.iconst 2, 1) := dL_law_r618.2.2.2.2.2.2.2.2.2.2.2.2.2.2.1
theorem dL_law_637 : decode cL_law 637 = .ok (.iadd, 1) := dL_law_r618.2.2.2.2.2.2.2.2.2.2.2.2.2.2.2.1
theorem dL_law_r638 : zdcP cL_law 638 [(.iaload, 1), (.invokevirtual 62, 3), (.pop, 1), (.aload_n 2, 1), (.aload_n 0, 1), (.iload_n 3, 1), (.iconst 1, 1), (.iadd, 1), (.iaload, 1), (.aload_n 0, 1), (.iload_n 3, 1), (.iconst 2, 1), (.iadd, 1), (.iaload, 1), (.invokevirtual 65, 3), (.pop, 1)] := zdcA_ok (by decide +kernel)
theorem dL_law_638 : decode cL_law 638 = .ok (.iaload, 1) := dL_law_r638.1
theorem dL_law_639 : decode cL_law 639 = .ok (.invokevirtual 62, 3) := dL_law_r638.2.1
theorem dL_law_642 : decode cL_law 642 = .ok (.pop, 1) := dL_law_r638.2.2.1
theorem dL_law_643 : decode cL_law 643 = .ok (.aload_n 2, 1) := dL_law_r638.2.2.2.1
theorem dL_law_644 : decode cL_law 644 = .ok (.aload_n 0, 1) := dL_law_r638.2.2.2.2.1
theorem dL_law_645 : decode cL_law 645 = .ok (.iload_n 3, 1) := dL_law_r638.2.2.2.2.2.1
theorem dL_law_646 : decode cL_law 646 = .ok (.iconst 1, 1) := dL_law_r638.2.2.2.2.2.2.1
theorem dL_law_647 : decode cL_law 647 = .ok (.iadd, 1) := dL_law_r638.2.2.2.2.2.2.2.1
theorem dL_law_648 : decode cL_law 648 = .ok (.iaload, 1) := dL_law_r638.2.2.2.2.2.2.2.2.1
theorem dL_law_649 : decode cL_law 649 = .ok (.aload_n 0, 1) := dL_law_r638.2.2.2.2.2.2.2.2.2.1
theorem dL_law_650 : decode cL_law 650 = .ok (.iload_n 3, 1) := dL_law_r638.2.2.2.2.2.2.2.2.2.2.1
theorem dL_law_651 : decode cL_law 651 = .ok (.iconst 2, 1) := dL_law_r638.2.2.2.2.2.2.2.2.2.2.2.1
theorem dL_law_652 : decode cL_law 652 = .ok (.iadd, 1) := dL_law_r638.2.2.2.2.2.2.2.2.2.2.2.2.1
theorem dL_law_653 : decode cL_law 653 = .ok (.iaload, 1) := dL_law_r638.2.2.2.2.2.2.2.2.2.2.2.2.2.1
theorem dL_law_654 : decode cL_law 654 = .ok (.invokevirtual 65, 3) := dL_law_r638.2.2.2.2.2.2.2.2.2.2.2.2.2.2.1
theorem dL_law_657 : decode cL_law 657 = .ok (.pop, 1) := dL_law_r638.2.2.2.2.2.2.2.2.2.2.2.2.2.2.2.1
theorem dL_law_r658 : zdcP cL_law 658 [(.goto 753, 3), (.aload_n 1, 1), (.aload_n 0, 1), (.iload_n 3, 1), (.iconst 1, 1), (.iadd, 1), (.iaload, 1), (.aload_n 0, 1), (.iload_n 3, 1), (.iconst 2, 1), (.iadd, 1), (.iaload, 1), (.invokevirtual 66, 3), (.pop, 1), (.aload_n 2, 1), (.aload_n 0, 1)] := zdcA_ok (by decide +kernel)
theorem dL_law_658 : decode cL_law 658 = .ok (.goto 753, 3) := dL_law_r658.1
theorem dL_law_661 : decode cL_law 661 = .ok (.aload_n 1, 1) := dL_law_r658.2.1
theorem dL_law_662 : decode cL_law 662 = .ok (.aload_n 0, 1) := dL_law_r658.2.2.1
theorem dL_law_663 : decode cL_law 663 = .ok (.iload_n 3, 1) := dL_law_r658.2.2.2.1
theorem dL_law_664 : decode cL_law 664 = .ok (.iconst 1, 1) := dL_law_r658.2.2.2.2.1
theorem dL_law_665 : decode cL_law 665 = .ok (.iadd, 1) := dL_law_r658.2.2.2.2.2.1
theorem dL_law_666 : decode cL_law 666 = .ok (.iaload, 1) := dL_law_r658.2.2.2.2.2.2.1
theorem dL_law_667 : decode cL_law 667 = .ok (.aload_n 0, 1) := dL_law_r658.2.2.2.2.2.2.2.1
theorem dL_law_668 : decode cL_law 668 = .ok (.iload_n 3, 1) := dL_law_r658.2.2.2.2.2.2.2.2.1
theorem dL_law_669 : decode cL_law 669 = .ok (.iconst 2, 1) := dL_law_r658.2.2.2.2.2.2.2.2.2.1
theorem dL_law_670 : decode cL_law 670 = .ok (.iadd, 1) := dL_law_r658.2.2.2.2.2.2.2.2.2.2.1
theorem dL_law_671 : decode cL_law 671 = .ok (.iaload, 1) := dL_law_r658.2.2.2.2.2.2.2.2.2.2.2.1
theorem dL_law_672 : decode cL_law 672 = .ok (.invokevirtual 66, 3) := dL_law_r658.2.2.2.2.2.2.2.2.2.2.2.2.1
theorem dL_law_675 : decode cL_law 675 = .ok (.pop, 1) := dL_law_r658.2.2.2.2.2.2.2.2.2.2.2.2.2.1
theorem dL_law_676 : decode cL_law 676 = .ok (.aload_n 2, 1) := dL_law_r658.2.2.2.2.2.2.2.2.2.2.2.2.2.2.1
theorem dL_law_677 : decode cL_law 677 = .ok (.aload_n 0, 1) := dL_law_r658.2.2.2.2.2.2.2.2.2.2.2.2.2.2.2.1
theorem dL_law_r678 : zdcP cL_law 678 [(.iload_n 3, 1), (.iconst 1, 1), (.iadd, 1), (.iaload, 1), (.aload_n 0, 1), (.iload_n 3, 1), (.iconst 2, 1), (.iadd, 1), (.iaload, 1), (.invokevirtual 69, 3), (.pop, 1), (.goto 720, 3), (.aload_n 1, 1), (.aload_n 0, 1), (.iload_n 3, 1), (.iconst 1, 1)] := zdcA_ok (by decide +kernel)
theorem dL_law_678 : decode cL_law 678 = .ok (.iload_n 3, 1) := dL_law_r678.1
theorem dL_law_679 : decode cL_law 679 = .ok (.iconst 1, 1) := dL_law_r678.2.1
theorem dL_law_680 : decode cL_law 680 = .ok (.iadd, 1) := dL_law_r678.2.2.1
theorem dL_law_681 : decode cL_law 681 = .ok (.iaload, 1) := dL_law_r678.2.2.2.1
theorem dL_law_682 : decode cL_law 682 = .ok (.aload_n 0, 1) := dL_law_r678.2.2.2.2.1
theorem dL_law_683 : decode cL_law 683 = .ok (.iload_n 3, 1) := dL_law_r678.2.2.2.2.2.1
theorem dL_law_684 : decode cL_law 684 = .ok (.iconst 2, 1) := dL_law_r678.2.2.2.2.2.2.1
theorem dL_law_685 : decode cL_law 685 = .ok (.iadd, 1) := dL_law_r678.2.2.2.2.2.2.2.1
theorem dL_law_686 : decode cL_law 686 = .ok (.iaload, 1) := dL_law_r678.2.2.2.2.2.2.2.2.1
theorem dL_law_687 : decode cL_law 687 = .ok (.invokevirtual 69, 3) := dL_law_r678.2.2.2.2.2.2.2.2.2.1
theorem dL_law_690 : decode cL_law 690 = .ok (.pop, 1) := dL_law_r678.2.2.2.2.2.2.2.2.2.2.1
theorem dL_law_691 : decode cL_law 691 = .ok (.goto 720, 3) := dL_law_r678.2.2.2.2.2.2.2.2.2.2.2.1
theorem dL_law_694 : decode cL_law 694 = .ok (.aload_n 1, 1) := dL_law_r678.2.2.2.2.2.2.2.2.2.2.2.2.1
theorem dL_law_695 : decode cL_law 695 = .ok (.aload_n 0, 1) := dL_law_r678.2.2.2.2.2.2.2.2.2.2.2.2.2.1
theorem dL_law_696 : decode cL_law 696 = .ok (.iload_n 3, 1) := dL_law_r678.2.2.2.2.2.2.2.2.2.2.2.2.2.2.1
theorem dL_law_697 : decode cL_law 697 = .ok (.iconst 1, 1) := dL_law_r678.2.2.2.2.2.2.2.2.2.2.2.2.2.2.2.1
theorem dL_law_r698 : zdcP cL_law 698 [(.iadd, 1), (.iaload, 1), (.aload_n 0, 1), (.iload_n 3, 1), (.iconst 2, 1), (.iadd, 1), (.iaload, 1), (.invokevirtual 70, 3), (.pop, 1), (.aload_n 2, 1), (.aload_n 0, 1), (.iload_n 3, 1), (.iconst 1, 1), (.iadd, 1), (.iaload, 1), (.aload_n 0, 1)] := zdcA_ok (by decide +kernel)
theorem dL_law_698 : decode cL_law 698 = .ok (.iadd, 1) := dL_law_r698.1
theorem dL_law_699 : decode cL_law 699 = .ok (.iaload, 1) := dL_law_r698.2.1
theorem dL_law_700 : decode cL_law 700 = .ok (.aload_n 0, 1) := dL_law_r698.2.2.1
theorem dL_law_701 : decode cL_law 701 = .ok (.iload_n 3, 1) := dL_law_r698.2.2.2.1
theorem dL_law_702 : decode cL_law 702 = .ok (.iconst 2, 1) := dL_law_r698.2.2.2.2.1
theorem dL_law_703 : decode cL_law 703 = .ok (.iadd, 1) := dL_law_r698.2.2.2.2.2.1
theorem dL_law_704 : decode cL_law 704 = .ok (.iaload, 1) := dL_law_r698.2.2.2.2.2.2.1
theorem dL_law_705 : decode cL_law 705 = .ok (.invokevirtual 70, 3) := dL_law_r698.2.2.2.2.2.2.2.1
theorem dL_law_708 : decode cL_law 708 = .ok (.pop, 1) := dL_law_r698.2.2.2.2.2.2.2.2.1
theorem dL_law_709 : decode cL_law 709 = .ok (.aload_n 2, 1) := dL_law_r698.2.2.2.2.2.2.2.2.2.1
theorem dL_law_710 : decode cL_law 710 = .ok (.aload_n 0, 1) := dL_law_r698.2.2.2.2.2.2.2.2.2.2.1
theorem dL_law_711 : decode cL_law 711 = .ok (.iload_n 3, 1) := dL_law_r698.2.2.2.2.2.2.2.2.2.2.2.1
theorem dL_law_712 : decode cL_law 712 = .ok (.iconst 1, 1) := dL_law_r698.2.2.2.2.2.2.2.2.2.2.2.2.1
theorem dL_law_713 : decode cL_law 713 = .ok (.iadd, 1) := dL_law_r698.2.2.2.2.2.2.2.2.2.2.2.2.2.1
theorem dL_law_714 : decode cL_law 714 = .ok (.iaload, 1) := dL_law_r698.2.2.2.2.2.2.2.2.2.2.2.2.2.2.1
theorem dL_law_715 : decode cL_law 715 = .ok (.aload_n 0, 1) := dL_law_r698.2.2.2.2.2.2.2.2.2.2.2.2.2.2.2.1
theorem dL_law_r716 : zdcP cL_law 716 [(.iload_n 3, 1), (.iconst 2, 1), (.iadd, 1), (.iaload, 1), (.invokevirtual 73, 3), (.pop, 1), (.goto 687, 3), (.aload_n 1, 1), (.aload_n 0, 1), (.iload_n 3, 1), (.iconst 1, 1), (.iadd, 1), (.iaload, 1), (.invokevirtual 74, 3), (.pop, 1), (.aload_n 2, 1)] := zdcA_ok (by decide +kernel)
theorem dL_law_716 : decode cL_law 716 = .ok (.iload_n 3, 1) := dL_law_r716.1
theorem dL_law_717 : decode cL_law 717 = .ok (.iconst 2, 1) := dL_law_r716.2.1
theorem dL_law_718 : decode cL_law 718 = .ok (.iadd, 1) := dL_law_r716.2.2.1
theorem dL_law_719 : decode cL_law 719 = .ok (.iaload, 1) := dL_law_r716.2.2.2.1
theorem dL_law_720 : decode cL_law 720 = .ok (.invokevirtual 73, 3) := dL_law_r716.2.2.2.2.1
theorem dL_law_723 : decode cL_law 723 = .ok (.pop, 1) := dL_law_r716.2.2.2.2.2.1
theorem dL_law_724 : decode cL_law 724 = .ok (.goto 687, 3) := dL_law_r716.2.2.2.2.2.2.1
theorem dL_law_727 : decode cL_law 727 = .ok (.aload_n 1, 1) := dL_law_r716.2.2.2.2.2.2.2.1
theorem dL_law_728 : decode cL_law 728 = .ok (.aload_n 0, 1) := dL_law_r716.2.2.2.2.2.2.2.2.1
theorem dL_law_729 : decode cL_law 729 = .ok (.iload_n 3, 1) := dL_law_r716.2.2.2.2.2.2.2.2.2.1
theorem dL_law_730 : decode cL_law 730 = .ok (.iconst 1, 1) := dL_law_r716.2.2.2.2.2.2.2.2.2.2.1
theorem dL_law_731 : decode cL_law 731 = .ok (.iadd, 1) := dL_law_r716.2.2.2.2.2.2.2.2.2.2.2.1
theorem dL_law_732 : decode cL_law 732 = .ok (.iaload, 1) := dL_law_r716.2.2.2.2.2.2.2.2.2.2.2.2.1
theorem dL_law_733 : decode cL_law 733 = .ok (.invokevirtual 74, 3) := dL_law_r716.2.2.2.2.2.2.2.2.2.2.2.2.2.1
theorem dL_law_736 : decode cL_law 736 = .ok (.pop, 1) := dL_law_r716.2.2.2.2.2.2.2.2.2.2.2.2.2.2.1
theorem dL_law_737 : decode cL_law 737 = .ok (.aload_n 2, 1) := dL_law_r716.2.2.2.2.2.2.2.2.2.2.2.2.2.2.2.1
theorem dL_law_r738 : zdcP cL_law 738 [(.aload_n 0, 1), (.iload_n 3, 1), (.iconst 1, 1), (.iadd, 1), (.iaload, 1), (.invokevirtual 77, 3), (.pop, 1), (.goto 664, 3), (.aload_n 1, 1), (.aload_n 0, 1), (.iload_n 3, 1), (.iconst 1, 1), (.iadd, 1), (.iaload, 1), (.invokevirtual 78, 3), (.pop, 1)] := zdcA_ok (by decide +kernel)
theorem dL_law_738 : decode cL_law 738 = .ok (.aload_n 0, 1) := dL_law_r738.1
theorem dL_law_739 : decode cL_law 739 = .ok (.iload_n 3, 1) := dL_law_r738.2.1
theorem dL_law_740 : decode cL_law 740 = .ok (.iconst 1, 1) := dL_law_r738.2.2.1
theorem dL_law_741 : decode cL_law 741 = .ok (.iadd, 1) := dL_law_r738.2.2.2.1
theorem dL_law_742 : decode cL_law 742 = .ok (.iaload, 1) := dL_law_r738.2.2.2.2.1
theorem dL_law_743 : decode cL_law 743 = .ok (.invokevirtual 77, 3) := dL_law_r738.2.2.2.2.2.1
theorem dL_law_746 : decode cL_law 746 = .ok (.pop, 1) := dL_law_r738.2.2.2.2.2.2.1
theorem dL_law_747 : decode cL_law 747 = .ok (.goto 664, 3) := dL_law_r738.2.2.2.2.2.2.2.1
theorem dL_law_750 : decode cL_law 750 = .ok (.aload_n 1, 1) := dL_law_r738.2.2.2.2.2.2.2.2.1
theorem dL_law_751 : decode cL_law 751 = .ok (.aload_n 0, 1) := dL_law_r738.2.2.2.2.2.2.2.2.2.1
theorem dL_law_752 : decode cL_law 752 = .ok (.iload_n 3, 1) := dL_law_r738.2.2.2.2.2.2.2.2.2.2.1
theorem dL_law_753 : decode cL_law 753 = .ok (.iconst 1, 1) := dL_law_r738.2.2.2.2.2.2.2.2.2.2.2.1
theorem dL_law_754 : decode cL_law 754 = .ok (.iadd, 1) := dL_law_r738.2.2.2.2.2.2.2.2.2.2.2.2.1
theorem dL_law_755 : decode cL_law 755 = .ok (.iaload, 1) := dL_law_r738.2.2.2.2.2.2.2.2.2.2.2.2.2.1
theorem dL_law_756 : decode cL_law 756 = .ok (.invokevirtual 78, 3) := dL_law_r738.2.2.2.2.2.2.2.2.2.2.2.2.2.2.1
theorem dL_law_759 : decode cL_law 759 = .ok (.pop, 1) := dL_law_r738.2.2.2.2.2.2.2.2.2.2.2.2.2.2.2.1
theorem dL_law_r760 : zdcP cL_law 760 [(.aload_n 2, 1), (.aload_n 0, 1), (.iload_n 3, 1), (.iconst 1, 1), (.iadd, 1), (.iaload, 1), (.invokevirtual 81, 3), (.pop, 1), (.goto 641, 3), (.aload_n 1, 1), (.invokevirtual 82, 3), (.pop, 1), (.aload_n 2, 1), (.invokevirtual 86, 3), (.pop, 1), (.goto 628, 3)] := zdcA_ok (by decide +kernel)
theorem dL_law_760 : decode cL_law 760 = .ok (.aload_n 2, 1) := dL_law_r760.1
theorem dL_law_761 : decode cL_law 761 = .ok (.aload_n 0, 1) := dL_law_r760.2.1
theorem dL_law_762 : decode cL_law 762 = .ok (.iload_n 3, 1) := dL_law_r760.2.2.1
theorem dL_law_763 : decode cL_law 763 = .ok (.iconst 1, 1) := dL_law_r760.2.2.2.1
theorem dL_law_764 : decode cL_law 764 = .ok (.iadd, 1) := dL_law_r760.2.2.2.2.1
theorem dL_law_765 : decode cL_law 765 = .ok (.iaload, 1) := dL_law_r760.2.2.2.2.2.1
theorem dL_law_766 : decode cL_law 766 = .ok (.invokevirtual 81, 3) := dL_law_r760.2.2.2.2.2.2.1
theorem dL_law_769 : decode cL_law 769 = .ok (.pop, 1) := dL_law_r760.2.2.2.2.2.2.2.1
theorem dL_law_770 : decode cL_law 770 = .ok (.goto 641, 3) := dL_law_r760.2.2.2.2.2.2.2.2.1
theorem dL_law_773 : decode cL_law 773 = .ok (.aload_n 1, 1) := dL_law_r760.2.2.2.2.2.2.2.2.2.1
theorem dL_law_774 : decode cL_law 774 = .ok (.invokevirtual 82, 3) := dL_law_r760.2.2.2.2.2.2.2.2.2.2.1
theorem dL_law_777 : decode cL_law 777 = .ok (.pop, 1) := dL_law_r760.2.2.2.2.2.2.2.2.2.2.2.1
theorem dL_law_778 : decode cL_law 778 = .ok (.aload_n 2, 1) := dL_law_r760.2.2.2.2.2.2.2.2.2.2.2.2.1
theorem dL_law_779 : decode cL_law 779 = .ok (.invokevirtual 86, 3) := dL_law_r760.2.2.2.2.2.2.2.2.2.2.2.2.2.1
theorem dL_law_782 : decode cL_law 782 = .ok (.pop, 1) := dL_law_r760.2.2.2.2.2.2.2.2.2.2.2.2.2.2.1
theorem dL_law_783 : decode cL_law 783 = .ok (.goto 628, 3) := dL_law_r760.2.2.2.2.2.2.2.2.2.2.2.2.2.2.2.1
theorem dL_law_r786 : zdcP cL_law 786 [(.aload_n 1, 1), (.aload_n 0, 1), (.iload_n 3, 1), (.iconst 1, 1), (.iadd, 1), (.iaload, 1), (.aload_n 0, 1), (.iload_n 3, 1), (.iconst 2, 1), (.iadd, 1), (.iaload, 1), (.invokevirtual 87, 3), (.pop, 1), (.aload_n 2, 1), (.aload_n 0, 1), (.iload_n 3, 1)] := zdcA_ok (by decide +kernel)
theorem dL_law_786 : decode cL_law 786 = .ok (.aload_n 1, 1) := dL_law_r786.1
theorem dL_law_787 : decode cL_law 787 = .ok (.aload_n 0, 1) := dL_law_r786.2.1
theorem dL_law_788 : decode cL_law 788 = .ok (.iload_n 3, 1) := dL_law_r786.2.2.1
theorem dL_law_789 : decode cL_law 789 = .ok (.iconst 1, 1) := dL_law_r786.2.2.2.1
theorem dL_law_790 : decode cL_law 790 = .ok (.iadd, 1) := dL_law_r786.2.2.2.2.1
theorem dL_law_791 : decode cL_law 791 = .ok (.iaload, 1) := dL_law_r786.2.2.2.2.2.1
theorem dL_law_792 : decode cL_law 792 = .ok (.aload_n 0, 1) := dL_law_r786.2.2.2.2.2.2.1
theorem dL_law_793 : decode cL_law 793 = .ok (.iload_n 3, 1) := dL_law_r786.2.2.2.2.2.2.2.1
theorem dL_law_794 : decode cL_law 794 = .ok (.iconst 2, 1) := dL_law_r786.2.2.2.2.2.2.2.2.1
theorem dL_law_795 : decode cL_law 795 = .ok (.iadd, 1) := dL_law_r786.2.2.2.2.2.2.2.2.2.1
theorem dL_law_796 : decode cL_law 796 = .ok (.iaload, 1) := dL_law_r786.2.2.2.2.2.2.2.2.2.2.1
theorem dL_law_797 : decode cL_law 797 = .ok (.invokevirtual 87, 3) := dL_law_r786.2.2.2.2.2.2.2.2.2.2.2.1
theorem dL_law_800 : decode cL_law 800 = .ok (.pop, 1) := dL_law_r786.2.2.2.2.2.2.2.2.2.2.2.2.1
theorem dL_law_801 : decode cL_law 801 = .ok (.aload_n 2, 1) := dL_law_r786.2.2.2.2.2.2.2.2.2.2.2.2.2.1
theorem dL_law_802 : decode cL_law 802 = .ok (.aload_n 0, 1) := dL_law_r786.2.2.2.2.2.2.2.2.2.2.2.2.2.2.1
theorem dL_law_803 : decode cL_law 803 = .ok (.iload_n 3, 1) := dL_law_r786.2.2.2.2.2.2.2.2.2.2.2.2.2.2.2.1
theorem dL_law_r804 : zdcP cL_law 804 [(.iconst 1, 1), (.iadd, 1), (.iaload, 1), (.aload_n 0, 1), (.iload_n 3, 1), (.iconst 2, 1), (.iadd, 1), (.iaload, 1), (.invokevirtual 90, 3), (.pop, 1), (.goto 595, 3), (.aload_n 1, 1), (.aload_n 0, 1), (.iload_n 3, 1), (.iconst 1, 1), (.iadd, 1)] := zdcA_ok (by decide +kernel)
theorem dL_law_804 : decode cL_law 804 = .ok (.iconst 1, 1) := dL_law_r804.1
theorem dL_law_805 : decode cL_law 805 = .ok (.iadd, 1) := dL_law_r804.2.1
theorem dL_law_806 : decode cL_law 806 = .ok (.iaload, 1) := dL_law_r804.2.2.1
theorem dL_law_807 : decode cL_law 807 = .ok (.aload_n 0, 1) := dL_law_r804.2.2.2.1
theorem dL_law_808 : decode cL_law 808 = .ok (.iload_n 3, 1) := dL_law_r804.2.2.2.2.1
theorem dL_law_809 : decode cL_law 809 = .ok (.iconst 2, 1) := dL_law_r804.2.2.2.2.2.1
theorem dL_law_810 : decode cL_law 810 = .ok (.iadd, 1) := dL_law_r804.2.2.2.2.2.2.1
theorem dL_law_811 : decode cL_law 811 = .ok (.iaload, 1) := dL_law_r804.2.2.2.2.2.2.2.1
theorem dL_law_812 : decode cL_law 812 = .ok (.invokevirtual 90, 3) := dL_law_r804.2.2.2.2.2.2.2.2.1
theorem dL_law_815 : decode cL_law 815 = .ok (.pop, 1) := dL_law_r804.2.2.2.2.2.2.2.2.2.1
theorem dL_law_816 : decode cL_law 816 = .ok (.goto 595, 3) := dL_law_r804.2.2.2.2.2.2.2.2.2.2.1
theorem dL_law_819 : decode cL_law 819 = .ok (.aload_n 1, 1) := dL_law_r804.2.2.2.2.2.2.2.2.2.2.2.1
theorem dL_law_820 : decode cL_law 820 = .ok (.aload_n 0, 1) := dL_law_r804.2.2.2.2.2.2.2.2.2.2.2.2.1
theorem dL_law_821 : decode cL_law 821 = .ok (.iload_n 3, 1) := dL_law_r804.2.2.2.2.2.2.2.2.2.2.2.2.2.1
theorem dL_law_822 : decode cL_law 822 = .ok (.iconst 1, 1) := dL_law_r804.2.2.2.2.2.2.2.2.2.2.2.2.2.2.1
theorem dL_law_823 : decode cL_law 823 = .ok (.iadd, 1) := dL_law_r804.2.2.2.2.2.2.2.2.2.2.2.2.2.2.2.1
theorem dL_law_r824 : zdcP cL_law 824 [(.iaload, 1), (.invokevirtual 91, 3), (.pop, 1), (.aload_n 2, 1), (.aload_n 0, 1), (.iload_n 3, 1), (.iconst 1, 1), (.iadd, 1), (.iaload, 1), (.invokevirtual 94, 3), (.pop, 1), (.goto 572, 3), (.aload_n 1, 1), (.invokevirtual 95, 3), (.pop, 1), (.aload_n 2, 1)] := zdcA_ok (by decide +kernel)
theorem dL_law_824 : decode cL_law 824 = .ok (.iaload, 1) := dL_law_r824.1
theorem dL_law_825 : decode cL_law 825 = .ok (.invokevirtual 91, 3) := dL_law_r824.2.1
theorem dL_law_828 : decode cL_law 828 = .ok (.pop, 1) := dL_law_r824.2.2.1
theorem dL_law_829 : decode cL_law 829 = .ok (.aload_n 2, 1) := dL_law_r824.2.2.2.1
theorem dL_law_830 : decode cL_law 830 = .ok (.aload_n 0, 1) := dL_law_r824.2.2.2.2.1
theorem dL_law_831 : decode cL_law 831 = .ok (.iload_n 3, 1) := dL_law_r824.2.2.2.2.2.1
theorem dL_law_832 : decode cL_law 832 = .ok (.iconst 1, 1) := dL_law_r824.2.2.2.2.2.2.1
theorem dL_law_833 : decode cL_law 833 = .ok (.iadd, 1) := dL_law_r824.2.2.2.2.2.2.2.1
theorem dL_law_834 : decode cL_law 834 = .ok (.iaload, 1) := dL_law_r824.2.2.2.2.2.2.2.2.1
theorem dL_law_835 : decode cL_law 835 = .ok (.invokevirtual 94, 3) := dL_law_r824.2.2.2.2.2.2.2.2.2.1
theorem dL_law_838 : decode cL_law 838 = .ok (.pop, 1) := dL_law_r824.2.2.2.2.2.2.2.2.2.2.1
theorem dL_law_839 : decode cL_law 839 = .ok (.goto 572, 3) := dL_law_r824.2.2.2.2.2.2.2.2.2.2.2.1
theorem dL_law_842 : decode cL_law 842 = .ok (.aload_n 1, 1) := dL_law_r824.2.2.2.2.2.2.2.2.2.2.2.2.1
theorem dL_law_843 : decode cL_law 843 = .ok (.invokevirtual 95, 3) := dL_law_r824.2.2.2.2.2.2.2.2.2.2.2.2.2.1
theorem dL_law_846 : decode cL_law 846 = .ok (.pop, 1) := dL_law_r824.2.2.2.2.2.2.2.2.2.2.2.2.2.2.1
theorem dL_law_847 : decode cL_law 847 = .ok (.aload_n 2, 1) := dL_law_r824.2.2.2.2.2.2.2.2.2.2.2.2.2.2.2.1
theorem dL_law_r848 : zdcP cL_law 848 [(.invokevirtual 98, 3), (.pop, 1), (.goto 559, 3), (.aload_n 1, 1), (.aload_n 0, 1), (.iload_n 3, 1), (.iconst 1, 1), (.iadd, 1), (.iaload, 1), (.aload_n 0, 1), (.iload_n 3, 1), (.iconst 2, 1), (.iadd, 1), (.iaload, 1), (.invokevirtual 99, 3), (.pop, 1)] := zdcA_ok (by decide +kernel)
theorem dL_law_848 : decode cL_law 848 = .ok (.invokevirtual 98, 3) := dL_law_r848.1
theorem dL_law_851 : decode cL_law 851 = .ok (.pop, 1) := dL_law_r848.2.1
theorem dL_law_852 : decode cL_law 852 = .ok (.goto 559, 3) := dL_law_r848.2.2.1
theorem dL_law_855 : decode cL_law 855 = .ok (.aload_n 1, 1) := dL_law_r848.2.2.2.1
theorem dL_law_856 : decode cL_law 856 = .ok (.aload_n 0, 1) := dL_law_r848.2.2.2.2.1
theorem dL_law_857 : decode cL_law 857 = .ok (.iload_n 3, 1) := dL_law_r848.2.2.2.2.2.1
theorem dL_law_858 : decode cL_law 858 = .ok (.iconst 1, 1) := dL_law_r848.2.2.2.2.2.2.1
theorem dL_law_859 : decode cL_law 859 = .ok (.iadd, 1) := dL_law_r848.2.2.2.2.2.2.2.1
theorem dL_law_860 : decode cL_law 860 = .ok (.iaload, 1) := dL_law_r848.2.2.2.2.2.2.2.2.1
theorem dL_law_861 : decode cL_law 861 = .ok (.aload_n 0, 1) := dL_law_r848.2.2.2.2.2.2.2.2.2.1
theorem dL_law_862 : decode cL_law 862 = .ok (.iload_n 3, 1) := dL_law_r848.2.2.2.2.2.2.2.2.2.2.1
theorem dL_law_863 : decode cL_law 863 = .ok (.iconst 2, 1) := dL_law_r848.2.2.2.2.2.2.2.2.2.2.2.1
theorem dL_law_864 : decode cL_law 864 = .ok (.iadd, 1) := dL_law_r848.2.2.2.2.2.2.2.2.2.2.2.2.1
theorem dL_law_865 : decode cL_law 865 = .ok (.iaload, 1) := dL_law_r848.2.2.2.2.2.2.2.2.2.2.2.2.2.1
theorem dL_law_866 : decode cL_law 866 = .ok (.invokevirtual 99, 3) := dL_law_r848.2.2.2.2.2.2.2.2.2.2.2.2.2.2.1
theorem dL_law_869 : decode cL_law 869 = .ok (.pop, 1) := dL_law_r848.2.2.2.2.2.2.2.2.2.2.2.2.2.2.2.1
theorem dL_law_r870 : zdcP cL_law 870 [(.aload_n 2, 1), (.aload_n 0, 1), (.iload_n 3, 1), (.iconst 1, 1), (.iadd, 1), (.iaload, 1), (.aload_n 0, 1), (.iload_n 3, 1), (.iconst 2, 1), (.iadd, 1), (.iaload, 1), (.invokevirtual 102, 3), (.pop, 1), (.goto 526, 3), (.aload_n 1, 1), (.aload_n 0, 1)] := zdcA_ok (by decide +kernel)
theorem dL_law_870 : decode cL_law 870 = .ok (.aload_n 2, 1) := dL_law_r870.1
theorem dL_law_871 : decode cL_law 871 = .ok (.aload_n 0, 1) := dL_law_r870.2.1
theorem dL_law_872 : decode cL_law 872 = .ok (.iload_n 3, 1) := dL_law_r870.2.2.1
theorem dL_law_873 : decode cL_law 873 = .ok (.iconst 1, 1) := dL_law_r870.2.2.2.1
theorem dL_law_874 : decode cL_law 874 = .ok (.iadd, 1) := dL_law_r870.2.2.2.2.1
theorem dL_law_875 : decode cL_law 875 = .ok (.iaload, 1) := dL_law_r870.2.2.2.2.2.1
theorem dL_law_876 : decode cL_law 876 = .ok (.aload_n 0, 1) := dL_law_r870.2.2.2.2.2.2.1
theorem dL_law_877 : decode cL_law 877 = .ok (.iload_n 3, 1) := dL_law_r870.2.2.2.2.2.2.2.1
theorem dL_law_878 : decode cL_law 878 = .ok (.iconst 2, 1) := dL_law_r870.2.2.2.2.2.2.2.2.1
theorem dL_law_879 : decode cL_law 879 = .ok (.iadd, 1) := dL_law_r870.2.2.2.2.2.2.2.2.2.1
theorem dL_law_880 : decode cL_law 880 = .ok (.iaload, 1) := dL_law_r870.2.2.2.2.2.2.2.2.2.2.1
theorem dL_law_881 : decode cL_law 881 = .ok (.invokevirtual 102, 3) := dL_law_r870.2.2.2.2.2.2.2.2.2.2.2.1
theorem dL_law_884 : decode cL_law 884 = .ok (.pop, 1) := dL_law_r870.2.2.2.2.2.2.2.2.2.2.2.2.1
theorem dL_law_885 : decode cL_law 885 = .ok (.goto 526, 3) := dL_law_r870.2.2.2.2.2.2.2.2.2.2.2.2.2.1
theorem dL_law_888 : decode cL_law 888 = .ok (.aload_n 1, 1) := dL_law_r870.2.2.2.2.2.2.2.2.2.2.2.2.2.2.1
theorem dL_law_889 : decode cL_law 889 = .ok (.aload_n 0, 1) := dL_law_r870.2.2.2.2.2.2.2.2.2.2.2.2.2.2.2.1
theorem dL_law_r890 : zdcP cL_law 890 [(.iload_n 3, 1), (.iconst 1, 1), (.iadd, 1), (.iaload, 1), (.aload_n 0, 1), (.iload_n 3, 1), (.iconst 2, 1), (.iadd, 1), (.iaload, 1), (.invokevirtual 103, 3), (.pop, 1), (.aload_n 2, 1), (.aload_n 0, 1), (.iload_n 3, 1), (.iconst 1, 1), (.iadd, 1)] := zdcA_ok (by decide +kernel)
theorem dL_law_890 : decode cL_law 890 = .ok (.iload_n 3, 1) := dL_law_r890.1
theorem dL_law_891 : decode cL_law 891 = .ok (.iconst 1, 1) := dL_law_r890.2.1
theorem dL_law_892 : decode cL_law 892 = .ok (.iadd, 1) := dL_law_r890.2.2.1
theorem dL_law_893 : decode cL_law 893 = .ok (.iaload, 1) := dL_law_r890.2.2.2.1
theorem dL_law_894 : decode cL_law 894 = .ok (.aload_n 0, 1) := dL_law_r890.2.2.2.2.1
theorem dL_law_895 : decode cL_law 895 = .ok (.iload_n 3, 1) := dL_law_r890.2.2.2.2.2.1
theorem dL_law_896 : decode cL_law 896 = .ok (.iconst 2, 1) := dL_law_r890.2.2.2.2.2.2.1
theorem dL_law_897 : decode cL_law 897 = .ok (.iadd, 1) := dL_law_r890.2.2.2.2.2.2.2.1
theorem dL_law_898 : decode cL_law 898 = .ok (.iaload, 1) := dL_law_r890.2.2.2.2.2.2.2.2.1
theorem dL_law_899 : decode cL_law 899 = .ok (.invokevirtual 103, 3) := dL_law_r890.2.2.2.2.2.2.2.2.2.1
theorem dL_law_902 : decode cL_law 902 = .ok (.pop, 1) := dL_law_r890.2.2.2.2.2.2.2.2.2.2.1
theorem dL_law_903 : decode cL_law 903 = .ok (.aload_n 2, 1) := dL_law_r890.2.2.2.2.2.2.2.2.2.2.2.1
theorem dL_law_904 : decode cL_law 904 = .ok (.aload_n 0, 1) := dL_law_r890.2.2.2.2.2.2.2.2.2.2.2.2.1
theorem dL_law_905 : decode cL_law 905 = .ok (.iload_n 3, 1) := dL_law_r890.2.2.2.2.2.2.2.2.2.2.2.2.2.1
theorem dL_law_906 : decode cL_law 906 = .ok (.iconst 1, 1) := dL_law_r890.2.2.2.2.2.2.2.2.2.2.2.2.2.2.1
theorem dL_law_907 : decode cL_law 907 = .ok (.iadd, 1) := dL_law_r890.2.2.2.2.2.2.2.2.2.2.2.2.2.2.2.1
theorem dL_law_r908 : zdcP cL_law 908 [(.iaload, 1), (.aload_n 0, 1), (.iload_n 3, 1), (.iconst 2, 1), (.iadd, 1), (.iaload, 1), (.invokevirtual 106, 3), (.pop, 1), (.goto 493, 3), (.aload_n 1, 1), (.aload_n 0, 1), (.iload_n 3, 1), (.iconst 1, 1), (.iadd, 1), (.iaload, 1), (.invokevirtual 107, 3)] := zdcA_ok (by decide +kernel)
theorem dL_law_908 : decode cL_law 908 = .ok (.iaload, 1) := dL_law_r908.1
theorem dL_law_909 : decode cL_law 909 = .ok (.aload_n 0, 1) := dL_law_r908.2.1
theorem dL_law_910 : decode cL_law 910 = .ok (.iload_n 3, 1) := dL_law_r908.2.2.1
theorem dL_law_911 : decode cL_law 911 = .ok (.iconst 2, 1) := dL_law_r908.2.2.2.1
theorem dL_law_912 : decode cL_law 912 = .ok (.iadd, 1) := dL_law_r908.2.2.2.2.1
theorem dL_law_913 : decode cL_law 913 = .ok (.iaload, 1) := dL_law_r908.2.2.2.2.2.1
theorem dL_law_914 : decode cL_law 914 = .ok (.invokevirtual 106, 3) := dL_law_r908.2.2.2.2.2.2.1
theorem dL_law_917 : decode cL_law 917 = .ok (.pop, 1) := dL_law_r908.2.2.2.2.2.2.2.1
theorem dL_law_918 : decode cL_law 918 = .ok (.goto 493, 3) := dL_law_r908.2.2.2.2.2.2.2.2.1
theorem dL_law_921 : decode cL_law 921 = .ok (.aload_n 1, 1) := dL_law_r908.2.2.2.2.2.2.2.2.2.1
theorem dL_law_922 : decode cL_law 922 = .ok (.aload_n 0, 1) := dL_law_r908.2.2.2.2.2.2.2.2.2.2.1
theorem dL_law_923 : decode cL_law 923 = .ok (.iload_n 3, 1) := dL_law_r908.2.2.2.2.2.2.2.2.2.2.2.1
theorem dL_law_924 : decode cL_law 924 = .ok (.iconst 1, 1) := dL_law_r908.2.2.2.2.2.2.2.2.2.2.2.2.1
theorem dL_law_925 : decode cL_law 925 = .ok (.iadd, 1) := dL_law_r908.2.2.2.2.2.2.2.2.2.2.2.2.2.1
theorem dL_law_926 : decode cL_law 926 = .ok (.iaload, 1) := dL_law_r908.2.2.2.2.2.2.2.2.2.2.2.2.2.2.1
theorem dL_law_927 : decode cL_law 927 = .ok (.invokevirtual 107, 3) := dL_law_r908.2.2.2.2.2.2.2.2.2.2.2.2.2.2.2.1
theorem dL_law_r930 : zdcP cL_law 930 [(.pop, 1), (.aload_n 2, 1), (.aload_n 0, 1), (.iload_n 3, 1), (.iconst 1, 1), (.iadd, 1), (.iaload, 1), (.invokevirtual 110, 3), (.pop, 1), (.goto 470, 3), (.aload_n 1, 1), (.aload_n 0, 1), (.iload_n 3, 1), (.iconst 1, 1), (.iadd, 1), (.iaload, 1)] := zdcA_ok (by decide +kernel)
theorem dL_law_930 : decode cL_law 930 = .ok (.pop, 1) := dL_law_r930.1
theorem dL_law_931 : decode cL_law 931 = .ok (.aload_n 2, 1) := dL_law_r930.2.1
theorem dL_law_932 : decode cL_law 932 = .ok (.aload_n 0, 1) := dL_law_r930.2.2.1
theorem dL_law_933 : decode cL_law 933 = .ok (.iload_n 3, 1) := dL_law_r930.2.2.2.1
theorem dL_law_934 : decode cL_law 934 = .ok (.iconst 1, 1) := dL_law_r930.2.2.2.2.1
theorem dL_law_935 : decode cL_law 935 = .ok (.iadd, 1) := dL_law_r930.2.2.2.2.2.1
theorem dL_law_936 : decode cL_law 936 = .ok (.iaload, 1) := dL_law_r930.2.2.2.2.2.2.1
theorem dL_law_937 : decode cL_law 937 = .ok (.invokevirtual 110, 3) := dL_law_r930.2.2.2.2.2.2.2.1
theorem dL_law_940 : decode cL_law 940 = .ok (.pop, 1) := dL_law_r930.2.2.2.2.2.2.2.2.1
theorem dL_law_941 : decode cL_law 941 = .ok (.goto 470, 3) := dL_law_r930.2.2.2.2.2.2.2.2.2.1
theorem dL_law_944 : decode cL_law 944 = .ok (.aload_n 1, 1) := dL_law_r930.2.2.2.2.2.2.2.2.2.2.1
theorem dL_law_945 : decode cL_law 945 = .ok (.aload_n 0, 1) := dL_law_r930.2.2.2.2.2.2.2.2.2.2.2.1
theorem dL_law_946 : decode cL_law 946 = .ok (.iload_n 3, 1) := dL_law_r930.2.2.2.2.2.2.2.2.2.2.2.2.1
theorem dL_law_947 : decode cL_law 947 = .ok (.iconst 1, 1) := dL_law_r930.2.2.2.2.2.2.2.2.2.2.2.2.2.1
theorem dL_law_948 : decode cL_law 948 = .ok (.iadd, 1) := dL_law_r930.2.2.2.2.2.2.2.2.2.2.2.2.2.2.1
theorem dL_law_949 : decode cL_law 949 = .ok (.iaload, 1) := dL_law_r930.2.2.2.2.2.2.2.2.2.2.2.2.2.2.2.1
theorem dL_law_r950 : zdcP cL_law 950 [(.invokevirtual 111, 3), (.pop, 1), (.aload_n 2, 1), (.aload_n 0, 1), (.iload_n 3, 1), (.iconst 1, 1), (.iadd, 1), (.iaload, 1), (.invokevirtual 114, 3), (.pop, 1), (.goto 447, 3), (.aload_n 1, 1), (.aload_n 0, 1), (.iload_n 3, 1), (.iconst 1, 1), (.iadd, 1)] := zdcA_ok (by decide +kernel)
theorem dL_law_950 : decode cL_law 950 = .ok (.invokevirtual 111, 3) := dL_law_r950.1
theorem dL_law_953 : decode cL_law 953 = .ok (.pop, 1) := dL_law_r950.2.1
theorem dL_law_954 : decode cL_law 954 = .ok (.aload_n 2, 1) := dL_law_r950.2.2.1
theorem dL_law_955 : decode cL_law 955 = .ok (.aload_n 0, 1) := dL_law_r950.2.2.2.1
theorem dL_law_956 : decode cL_law 956 = .ok (.iload_n 3, 1) := dL_law_r950.2.2.2.2.1
theorem dL_law_957 : decode cL_law 957 = .ok (.iconst 1, 1) := dL_law_r950.2.2.2.2.2.1
theorem dL_law_958 : decode cL_law 958 = .ok (.iadd, 1) := dL_law_r950.2.2.2.2.2.2.1
theorem dL_law_959 : decode cL_law 959 = .ok (.iaload, 1) := dL_law_r950.2.2.2.2.2.2.2.1
theorem dL_law_960 : decode cL_law 960 = .ok (.invokevirtual 114, 3) := dL_law_r950.2.2.2.2.2.2.2.2.1
theorem dL_law_963 : decode cL_law 963 = .ok (.pop, 1) := dL_law_r950.2.2.2.2.2.2.2.2.2.1
theorem dL_law_964 : decode cL_law 964 = .ok (.goto 447, 3) := dL_law_r950.2.2.2.2.2.2.2.2.2.2.1
theorem dL_law_967 : decode cL_law 967 = .ok (.aload_n 1, 1) := dL_law_r950.2.2.2.2.2.2.2.2.2.2.2.1
theorem dL_law_968 : decode cL_law 968 = .ok (.aload_n 0, 1) := dL_law_r950.2.2.2.2.2.2.2.2.2.2.2.2.1
theorem dL_law_969 : decode cL_law 969 = .ok (.iload_n 3, 1) := dL_law_r950.2.2.2.2.2.2.2.2.2.2.2.2.2.1
theorem dL_law_970 : decode cL_law 970 = .ok (.iconst 1, 1) := dL_law_r950.2.2.2.2.2.2.2.2.2.2.2.2.2.2.1
theorem dL_law_971 : decode cL_law 971 = .ok (.iadd, 1) := dL_law_r950.2.2.2.2.2.2.2.2.2.2.2.2.2.2.2.1
theorem dL_law_r972 : zdcP cL_law 972 [(.iaload, 1), (.aload_n 0, 1), (.iload_n 3, 1), (.iconst 2, 1), (.iadd, 1), (.iaload, 1), (.invokevirtual 115, 3), (.pop, 1), (.aload_n 2, 1), (.aload_n 0, 1), (.iload_n 3, 1), (.iconst 1, 1), (.iadd, 1), (.iaload, 1), (.aload_n 0, 1), (.iload_n 3, 1)] := zdcA_ok (by decide +kernel)
theorem dL_law_972 : decode cL_law 972 = .ok (.iaload, 1) := dL_law_r972.1
theorem dL_law_973 : decode cL_law 973 = .ok (.aload_n 0, 1) := dL_law_r972.2.1
theorem dL_law_974 : decode cL_law 974 = .ok (.iload_n 3, 1) := dL_law_r972.2.2.1
theorem dL_law_975 : decode cL_law 975 = .ok (.iconst 2, 1) := dL_law_r972.2.2.2.1
theorem dL_law_976 : decode cL_law 976 = .ok (.iadd, 1) := dL_law_r972.2.2.2.2.1
theorem dL_law_977 : decode cL_law 977 = .ok (.iaload, 1) := dL_law_r972.2.2.2.2.2.1
theorem dL_law_978 : decode cL_law 978 = .ok (.invokevirtual 115, 3) := dL_law_r972.2.2.2.2.2.2.1
theorem dL_law_981 : decode cL_law 981 = .ok (.pop, 1) := dL_law_r972.2.2.2.2.2.2.2.1
theorem dL_law_982 : decode cL_law 982 = .ok (.aload_n 2, 1) := dL_law_r972.2.2.2.2.2.2.2.2.1
theorem dL_law_983 : decode cL_law 983 = .ok (.aload_n 0, 1) := dL_law_r972.2.2.2.2.2.2.2.2.2.1
theorem dL_law_984 : decode cL_law 984 = .ok (.iload_n 3, 1) := dL_law_r972.2.2.2.2.2.2.2.2.2.2.1
theorem dL_law_985 : decode cL_law 985 = .ok (.iconst 1, 1) := dL_law_r972.2.2.2.2.2.2.2.2.2.2.2.1
theorem dL_law_986 : decode cL_law 986 = .ok (.iadd, 1) := dL_law_r972.2.2.2.2.2.2.2.2.2.2.2.2.1
theorem dL_law_987 : decode cL_law 987 = .ok (.iaload, 1) := dL_law_r972.2.2.2.2.2.2.2.2.2.2.2.2.2.1
theorem dL_law_988 : decode cL_law 988 = .ok (.aload_n 0, 1) := dL_law_r972.2.2.2.2.2.2.2.2.2.2.2.2.2.2.1
theorem dL_law_989 : decode cL_law 989 = .ok (.iload_n 3, 1) := dL_law_r972.2.2.2.2.2.2.2.2.2.2.2.2.2.2.2.1
theorem dL_law_r990 : zdcP cL_law 990 [(.iconst 2, 1), (.iadd, 1), (.iaload, 1), (.invokevirtual 118, 3), (.pop, 1), (.goto 414, 3), (.aload_n 1, 1), (.aload_n 0, 1), (.iload_n 3, 1), (.iconst 1, 1), (.iadd, 1), (.iaload, 1), (.invokevirtual 119, 3), (.pop, 1), (.aload_n 2, 1), (.aload_n 0, 1)] := zdcA_ok (by decide +kernel)
theorem dL_law_990 : decode cL_law 990 = .ok (.iconst 2, 1) := dL_law_r990.1
theorem dL_law_991 : decode cL_law 991 = .ok (.iadd, 1) := dL_law_r990.2.1
theorem dL_law_992 : decode cL_law 992 = .ok (.iaload, 1) := dL_law_r990.2.2.1
theorem dL_law_993 : decode cL_law 993 = .ok (.invokevirtual 118, 3) := dL_law_r990.2.2.2.1
theorem dL_law_996 : decode cL_law 996 = .ok (.pop, 1) := dL_law_r990.2.2.2.2.1
theorem dL_law_997 : decode cL_law 997 = .ok (.goto 414, 3) := dL_law_r990.2.2.2.2.2.1
theorem dL_law_1000 : decode cL_law 1000 = .ok (.aload_n 1, 1) := dL_law_r990.2.2.2.2.2.2.1
theorem dL_law_1001 : decode cL_law 1001 = .ok (.aload_n 0, 1) := dL_law_r990.2.2.2.2.2.2.2.1
theorem dL_law_1002 : decode cL_law 1002 = .ok (.iload_n 3, 1) := dL_law_r990.2.2.2.2.2.2.2.2.1
theorem dL_law_1003 : decode cL_law 1003 = .ok (.iconst 1, 1) := dL_law_r990.2.2.2.2.2.2.2.2.2.1
theorem dL_law_1004 : decode cL_law 1004 = .ok (.iadd, 1) := dL_law_r990.2.2.2.2.2.2.2.2.2.2.1
theorem dL_law_1005 : decode cL_law 1005 = .ok (.iaload, 1) := dL_law_r990.2.2.2.2.2.2.2.2.2.2.2.1
theorem dL_law_1006 : decode cL_law 1006 = .ok (.invokevirtual 119, 3) := dL_law_r990.2.2.2.2.2.2.2.2.2.2.2.2.1
theorem dL_law_1009 : decode cL_law 1009 = .ok (.pop, 1) := dL_law_r990.2.2.2.2.2.2.2.2.2.2.2.2.2.1
theorem dL_law_1010 : decode cL_law 1010 = .ok (.aload_n 2, 1) := dL_law_r990.2.2.2.2.2.2.2.2.2.2.2.2.2.2.1
theorem dL_law_1011 : decode cL_law 1011 = .ok (.aload_n 0, 1) := dL_law_r990.2.2.2.2.2.2.2.2.2.2.2.2.2.2.2.1
theorem dL_law_r1012 : zdcP cL_law 1012 [(.iload_n 3, 1), (.iconst 1, 1), (.iadd, 1), (.iaload, 1), (.invokevirtual 122, 3), (.pop, 1), (.goto 391, 3), (.aload_n 1, 1), (.aload_n 0, 1), (.iload_n 3, 1), (.iconst 1, 1), (.iadd, 1), (.iaload, 1), (.invokevirtual 123, 3), (.pop, 1), (.aload_n 2, 1)] := zdcA_ok (by decide +kernel)
theorem dL_law_1012 : decode cL_law 1012 = .ok (.iload_n 3, 1) := dL_law_r1012.1
theorem dL_law_1013 : decode cL_law 1013 = .ok (.iconst 1, 1) := dL_law_r1012.2.1
theorem dL_law_1014 : decode cL_law 1014 = .ok (.iadd, 1) := dL_law_r1012.2.2.1
theorem dL_law_1015 : decode cL_law 1015 = .ok (.iaload, 1) := dL_law_r1012.2.2.2.1
theorem dL_law_1016 : decode cL_law 1016 = .ok (.invokevirtual 122, 3) := dL_law_r1012.2.2.2.2.1
theorem dL_law_1019 : decode cL_law 1019 = .ok (.pop, 1) := dL_law_r1012.2.2.2.2.2.1
theorem dL_law_1020 : decode cL_law 1020 = .ok (.goto 391, 3) := dL_law_r1012.2.2.2.2.2.2.1
theorem dL_law_1023 : decode cL_law 1023 = .ok (.aload_n 1, 1) := dL_law_r1012.2.2.2.2.2.2.2.1
theorem dL_law_1024 : decode cL_law 1024 = .ok (.aload_n 0, 1) := dL_law_r1012.2.2.2.2.2.2.2.2.1
theorem dL_law_1025 : decode cL_law 1025 = .ok (.iload_n 3, 1) := dL_law_r1012.2.2.2.2.2.2.2.2.2.1
theorem dL_law_1026 : decode cL_law 1026 = .ok (.iconst 1, 1) := dL_law_r1012.2.2.2.2.2.2.2.2.2.2.1
theorem dL_law_1027 : decode cL_law 1027 = .ok (.iadd, 1) := dL_law_r1012.2.2.2.2.2.2.2.2.2.2.2.1
theorem dL_law_1028 : decode cL_law 1028 = .ok (.iaload, 1) := dL_law_r1012.2.2.2.2.2.2.2.2.2.2.2.2.1
theorem dL_law_1029 : decode cL_law 1029 = .ok (.invokevirtual 123, 3) := dL_law_r1012.2.2.2.2.2.2.2.2.2.2.2.2.2.1
theorem dL_law_1032 : decode cL_law 1032 = .ok (.pop, 1) := dL_law_r1012.2.2.2.2.2.2.2.2.2.2.2.2.2.2.1
theorem dL_law_1033 : decode cL_law 1033 = .ok (.aload_n 2, 1) := dL_law_r1012.2.2.2.2.2.2.2.2.2.2.2.2.2.2.2.1
theorem dL_law_r1034 : zdcP cL_law 1034 [(.aload_n 0, 1), (.iload_n 3, 1), (.iconst 1, 1), (.iadd, 1), (.iaload, 1), (.invokevirtual 126, 3), (.pop, 1), (.goto 368, 3), (.aload_n 1, 1), (.aload_n 0, 1), (.iload_n 3, 1), (.iconst 1, 1), (.iadd, 1), (.iaload, 1), (.aload_n 0, 1), (.iload_n 3, 1)] := zdcA_ok (by decide +kernel)
theorem dL_law_1034 : decode cL_law 1034 = .ok (.aload_n 0, 1) := dL_law_r1034.1
theorem dL_law_1035 : decode cL_law 1035 = .ok (.iload_n 3, 1) := dL_law_r1034.2.1
theorem dL_law_1036 : decode cL_law 1036 = .ok (.iconst 1, 1) := dL_law_r1034.2.2.1
theorem dL_law_1037 : decode cL_law 1037 = .ok (.iadd, 1) := dL_law_r1034.2.2.2.1
theorem dL_law_1038 : decode cL_law 1038 = .ok (.iaload, 1) := dL_law_r1034.2.2.2.2.1
theorem dL_law_1039 : decode cL_law 1039 = .ok (.invokevirtual 126, 3) := dL_law_r1034.2.2.2.2.2.1
theorem dL_law_1042 : decode cL_law 1042 = .ok (.pop, 1) := dL_law_r1034.2.2.2.2.2.2.1
theorem dL_law_1043 : decode cL_law 1043 = .ok (.goto 368, 3) := dL_law_r1034.2.2.2.2.2.2.2.1
theorem dL_law_1046 : decode cL_law 1046 = .ok (.aload_n 1, 1) := dL_law_r1034.2.2.2.2.2.2.2.2.1
theorem dL_law_1047 : decode cL_law 1047 = .ok (.aload_n 0, 1) := dL_law_r1034.2.2.2.2.2.2.2.2.2.1
theorem dL_law_1048 : decode cL_law 1048 = .ok (.iload_n 3, 1) := dL_law_r1034.2.2.2.2.2.2.2.2.2.2.1
theorem dL_law_1049 : decode cL_law 1049 = .ok (.iconst 1, 1) := dL_law_r1034.2.2.2.2.2.2.2.2.2.2.2.1
theorem dL_law_1050 : decode cL_law 1050 = .ok (.iadd, 1) := dL_law_r1034.2.2.2.2.2.2.2.2.2.2.2.2.1
theorem dL_law_1051 : decode cL_law 1051 = .ok (.iaload, 1) := dL_law_r1034.2.2.2.2.2.2.2.2.2.2.2.2.2.1
theorem dL_law_1052 : decode cL_law 1052 = .ok (.aload_n 0, 1) := dL_law_r1034.2.2.2.2.2.2.2.2.2.2.2.2.2.2.1
theorem dL_law_1053 : decode cL_law 1053 = .ok (.iload_n 3, 1) := dL_law_r1034.2.2.2.2.2.2.2.2.2.2.2.2.2.2.2.1
theorem dL_law_r1054 : zdcP cL_law 1054 [(.iconst 2, 1), (.iadd, 1), (.iaload, 1), (.invokevirtual 127, 3), (.pop, 1), (.aload_n 2, 1), (.aload_n 0, 1), (.iload_n 3, 1), (.iconst 1, 1), (.iadd, 1), (.iaload, 1), (.aload_n 0, 1), (.iload_n 3, 1), (.iconst 2, 1), (.iadd, 1), (.iaload, 1)] := zdcA_ok (by decide +kernel)
theorem dL_law_1054 : decode cL_law 1054 = .ok (.iconst 2, 1) := dL_law_r1054.1
theorem dL_law_1055 : decode cL_law 1055 = .ok (.iadd, 1) := dL_law_r1054.2.1
theorem dL_law_1056 : decode cL_law 1056 = .ok (.iaload, 1) := dL_law_r1054.2.2.1
theorem dL_law_1057 : decode cL_law 1057 = .ok (.invokevirtual 127, 3) := dL_law_r1054.2.2.2.1
theorem dL_law_1060 : decode cL_law 1060 = .ok (.pop, 1) := dL_law_r1054.2.2.2.2.1
theorem dL_law_1061 : decode cL_law 1061 = .ok (.aload_n 2, 1) := dL_law_r1054.2.2.2.2.2.1
theorem dL_law_1062 : decode cL_law 1062 = .ok (.aload_n 0, 1) := dL_law_r1054.2.2.2.2.2.2.1
theorem dL_law_1063 : decode cL_law 1063 = .ok (.iload_n 3, 1) := dL_law_r1054.2.2.2.2.2.2.2.1
theorem dL_law_1064 : decode cL_law 1064 = .ok (.iconst 1, 1) := dL_law_r1054.2.2.2.2.2.2.2.2.1
theorem dL_law_1065 : decode cL_law 1065 = .ok (.iadd, 1) := dL_law_r1054.2.2.2.2.2.2.2.2.2.1
theorem dL_law_1066 : decode cL_law 1066 = .ok (.iaload, 1) := dL_law_r1054.2.2.2.2.2.2.2.2.2.2.1
theorem dL_law_1067 : decode cL_law 1067 = .ok (.aload_n 0, 1) := dL_law_r1054.2.2.2.2.2.2.2.2.2.2.2.1
theorem dL_law_1068 : decode cL_law 1068 = .ok (.iload_n 3, 1) := dL_law_r1054.2.2.2.2.2.2.2.2.2.2.2.2.1
theorem dL_law_1069 : decode cL_law 1069 = .ok (.iconst 2, 1) := dL_law_r1054.2.2.2.2.2.2.2.2.2.2.2.2.2.1
theorem dL_law_1070 : decode cL_law 1070 = .ok (.iadd, 1) := dL_law_r1054.2.2.2.2.2.2.2.2.2.2.2.2.2.2.1
theorem dL_law_1071 : decode cL_law 1071 = .ok (.iaload, 1) := dL_law_r1054.2.2.2.2.2.2.2.2.2.2.2.2.2.2.2.1
theorem dL_law_r1072 : zdcP cL_law 1072 [(.invokevirtual 130, 3), (.pop, 1), (.goto 335, 3), (.aload_n 1, 1), (.aload_n 0, 1), (.iload_n 3, 1), (.iconst 1, 1), (.iadd, 1), (.iaload, 1), (.aload_n 0, 1), (.iload_n 3, 1), (.iconst 2, 1), (.iadd, 1), (.iaload, 1), (.aload_n 0, 1), (.iload_n 3, 1)] := zdcA_ok (by decide +kernel)
theorem dL_law_1072 : decode cL_law 1072 = .ok (.invokevirtual 130, 3) := dL_law_r1072.1
theorem dL_law_1075 : decode cL_law 1075 = .ok (.pop, 1) := dL_law_r1072.2.1
theorem dL_law_1076 : decode cL_law 1076 = .ok (.goto 335, 3) := dL_law_r1072.2.2.1
theorem dL_law_1079 : decode cL_law 1079 = .ok (.aload_n 1, 1) := dL_law_r1072.2.2.2.1
theorem dL_law_1080 : decode cL_law 1080 = .ok (.aload_n 0, 1) := dL_law_r1072.2.2.2.2.1
theorem dL_law_1081 : decode cL_law 1081 = .ok (.iload_n 3, 1) := dL_law_r1072.2.2.2.2.2.1
theorem dL_law_1082 : decode cL_law 1082 = .ok (.iconst 1, 1) := dL_law_r1072.2.2.2.2.2.2.1
theorem dL_law_1083 : decode cL_law 1083 = .ok (.iadd, 1) := dL_law_r1072.2.2.2.2.2.2.2.1
theorem dL_law_1084 : decode cL_law 1084 = .ok (.iaload, 1) := dL_law_r1072.2.2.2.2.2.2.2.2.1
theorem dL_law_1085 : decode cL_law 1085 = .ok (.aload_n 0, 1) := dL_law_r1072.2.2.2.2.2.2.2.2.2.1
theorem dL_law_1086 : decode cL_law 1086 = .ok (.iload_n 3, 1) := dL_law_r1072.2.2.2.2.2.2.2.2.2.2.1
theorem dL_law_1087 : decode cL_law 1087 = .ok (.iconst 2, 1) := dL_law_r1072.2.2.2.2.2.2.2.2.2.2.2.1
theorem dL_law_1088 : decode cL_law 1088 = .ok (.iadd, 1) := dL_law_r1072.2.2.2.2.2.2.2.2.2.2.2.2.1
theorem dL_law_1089 : decode cL_law 1089 = .ok (.iaload, 1) := dL_law_r1072.2.2.2.2.2.2.2.2.2.2.2.2.2.1
theorem dL_law_1090 : decode cL_law 1090 = .ok (.aload_n 0, 1) := dL_law_r1072.2.2.2.2.2.2.2.2.2.2.2.2.2.2.1
theorem dL_law_1091 : decode cL_law 1091 = .ok (.iload_n 3, 1) := dL_law_r1072.2.2.2.2.2.2.2.2.2.2.2.2.2.2.2.1
theorem dL_law_r1092 : zdcP cL_law 1092 [(.iconst 3, 1), (.iadd, 1), (.iaload, 1), (.invokevirtual 131, 3), (.pop, 1), (.aload_n 2, 1), (.aload_n 0, 1), (.iload_n 3, 1), (.iconst 1, 1), (.iadd, 1), (.iaload, 1), (.aload_n 0, 1), (.iload_n 3, 1), (.iconst 2, 1), (.iadd, 1), (.iaload, 1)] := zdcA_ok (by decide +kernel)
theorem dL_law_1092 : decode cL_law 1092 = .ok (.iconst 3, 1) := dL_law_r1092.1
theorem dL_law_1093 : decode cL_law 1093 = .ok (.iadd, 1) := dL_law_r1092.2.1
theorem dL_law_1094 : decode cL_law 1094 = .ok (.iaload, 1) := dL_law_r1092.2.2.1
theorem dL_law_1095 : decode cL_law 1095 = .ok (.invokevirtual 131, 3) := dL_law_r1092.2.2.2.1
theorem dL_law_1098 : decode cL_law 1098 = .ok (.pop, 1) := dL_law_r1092.2.2.2.2.1
theorem dL_law_1099 : decode cL_law 1099 = .ok (.aload_n 2, 1) := dL_law_r1092.2.2.2.2.2.1
theorem dL_law_1100 : decode cL_law 1100 = .ok (.aload_n 0, 1) := dL_law_r1092.2.2.2.2.2.2.1
theorem dL_law_1101 : decode cL_law 1101 = .ok (.iload_n 3, 1) := dL_law_r1092.2.2.2.2.2.2.2.1
theorem dL_law_1102 : decode cL_law 1102 = .ok (.iconst 1, 1) := dL_law_r1092.2.2.2.2.2.2.2.2.1
theorem dL_law_1103 : decode cL_law 1103 = .ok (.iadd, 1) := dL_law_r1092.2.2.2.2.2.2.2.2.2.1
theorem dL_law_1104 : decode cL_law 1104 = .ok (.iaload, 1) := dL_law_r1092.2.2.2.2.2.2.2.2.2.2.1
theorem dL_law_1105 : decode cL_law 1105 = .ok (.aload_n 0, 1) := dL_law_r1092.2.2.2.2.2.2.2.2.2.2.2.1
theorem dL_law_1106 : decode cL_law 1106 = .ok (.iload_n 3, 1) := dL_law_r1092.2.2.2.2.2.2.2.2.2.2.2.2.1
theorem dL_law_1107 : decode cL_law 1107 = .ok (.iconst 2, 1) := dL_law_r1092.2.2.2.2.2.2.2.2.2.2.2.2.2.1
theorem dL_law_1108 : decode cL_law 1108 = .ok (.iadd, 1) := dL_law_r1092.2.2.2.2.2.2.2.2.2.2.2.2.2.2.1
theorem dL_law_1109 : decode cL_law 1109 = .ok (.iaload, 1) := dL_law_r1092.2.2.2.2.2.2.2.2.2.2.2.2.2.2.2.1
theorem dL_law_r1110 : zdcP cL_law 1110 [(.aload_n 0, 1), (.iload_n 3, 1), (.iconst 3, 1), (.iadd, 1), (.iaload, 1), (.invokevirtual 134, 3), (.pop, 1), (.goto 292, 3), (.aload_n 1, 1), (.aload_n 0, 1), (.iload_n 3, 1), (.iconst 1, 1), (.iadd, 1), (.iaload, 1), (.aload_n 0, 1), (.iload_n 3, 1)] := zdcA_ok (by decide +kernel)
theorem dL_law_1110 : decode cL_law 1110 = .ok (.aload_n 0, 1) := dL_law_r1110.1
theorem dL_law_1111 : decode cL_law 1111 = .ok (.iload_n 3, 1) := dL_law_r1110.2.1
theorem dL_law_1112 : decode cL_law 1112 = .ok (.iconst 3, 1) := dL_law_r1110.2.2.1
theorem dL_law_1113 : decode cL_law 1113 = .ok (.iadd, 1) := dL_law_r1110.2.2.2.1
theorem dL_law_1114 : decode cL_law 1114 = .ok (.iaload, 1) := dL_law_r1110.2.2.2.2.1
theorem dL_law_1115 : decode cL_law 1115 = .ok (.invokevirtual 134, 3) := dL_law_r1110.2.2.2.2.2.1
theorem dL_law_1118 : decode cL_law 1118 = .ok (.pop, 1) := dL_law_r1110.2.2.2.2.2.2.1
theorem dL_law_1119 : decode cL_law 1119 = .ok (.goto 292, 3) := dL_law_r1110.2.2.2.2.2.2.2.1
theorem dL_law_1122 : decode cL_law 1122 = .ok (.aload_n 1, 1) := dL_law_r1110.2.2.2.2.2.2.2.2.1
theorem dL_law_1123 : decode cL_law 1123 = .ok (.aload_n 0, 1) := dL_law_r1110.2.2.2.2.2.2.2.2.2.1
theorem dL_law_1124 : decode cL_law 1124 = .ok (.iload_n 3, 1) := dL_law_r1110.2.2.2.2.2.2.2.2.2.2.1
theorem dL_law_1125 : decode cL_law 1125 = .ok (.iconst 1, 1) := dL_law_r1110.2.2.2.2.2.2.2.2.2.2.2.1
theorem dL_law_1126 : decode cL_law 1126 = .ok (.iadd, 1) := dL_law_r1110.2.2.2.2.2.2.2.2.2.2.2.2.1
theorem dL_law_1127 : decode cL_law 1127 = .ok (.iaload, 1) := dL_law_r1110.2.2.2.2.2.2.2.2.2.2.2.2.2.1
theorem dL_law_1128 : decode cL_law 1128 = .ok (.aload_n 0, 1) := dL_law_r1110.2.2.2.2.2.2.2.2.2.2.2.2.2.2.1
theorem dL_law_1129 : decode cL_law 1129 = .ok (.iload_n 3, 1) := dL_law_r1110.2.2.2.2.2.2.2.2.2.2.2.2.2.2.2.1
theorem dL_law_r1130 : zdcP cL_law 1130 [(.iconst 2, 1), (.iadd, 1), (.iaload, 1), (.invokevirtual 135, 3), (.pop, 1), (.aload_n 2, 1), (.aload_n 0, 1), (.iload_n 3, 1), (.iconst 1, 1), (.iadd, 1), (.iaload, 1), (.aload_n 0, 1), (.iload_n 3, 1), (.iconst 2, 1), (.iadd, 1), (.iaload, 1)] := zdcA_ok (by decide +kernel)
theorem dL_law_1130 : decode cL_law 1130 = .ok (.iconst 2, 1) := dL_law_r1130.1
theorem dL_law_1131 : decode cL_law 1131 = .ok (.iadd, 1) := dL_law_r1130.2.1
theorem dL_law_1132 : decode cL_law 1132 = .ok (.iaload, 1) := dL_law_r1130.2.2.1
theorem dL_law_1133 : decode cL_law 1133 = .ok (.invokevirtual 135, 3) := dL_law_r1130.2.2.2.1
theorem dL_law_1136 : decode cL_law 1136 = .ok (.pop, 1) := dL_law_r1130.2.2.2.2.1
theorem dL_law_1137 : decode cL_law 1137 = .ok (.aload_n 2, 1) := dL_law_r1130.2.2.2.2.2.1
theorem dL_law_1138 : decode cL_law 1138 = .ok (.aload_n 0, 1) := dL_law_r1130.2.2.2.2.2.2.1
theorem dL_law_1139 : decode cL_law 1139 = .ok (.iload_n 3, 1) := dL_law_r1130.2.2.2.2.2.2.2.1
theorem dL_law_1140 : decode cL_law 1140 = .ok (.iconst 1, 1) := dL_law_r1130.2.2.2.2.2.2.2.2.1
theorem dL_law_1141 : decode cL_law 1141 = .ok (.iadd, 1) := dL_law_r1130.2.2.2.2.2.2.2.2.2.1
theorem dL_law_1142 : decode cL_law 1142 = .ok (.iaload, 1) := dL_law_r1130.2.2.2.2.2.2.2.2.2.2.1
theorem dL_law_1143 : decode cL_law 1143 = .ok (.aload_n 0, 1) := dL_law_r1130.2.2.2.2.2.2.2.2.2.2.2.1
theorem dL_law_1144 : decode cL_law 1144 = .ok (.iload_n 3, 1) := dL_law_r1130.2.2.2.2.2.2.2.2.2.2.2.2.1
theorem dL_law_1145 : decode cL_law 1145 = .ok (.iconst 2, 1) := dL_law_r1130.2.2.2.2.2.2.2.2.2.2.2.2.2.1
theorem dL_law_1146 : decode cL_law 1146 = .ok (.iadd, 1) := dL_law_r1130.2.2.2.2.2.2.2.2.2.2.2.2.2.2.1
theorem dL_law_1147 : decode cL_law 1147 = .ok (.iaload, 1) := dL_law_r1130.2.2.2.2.2.2.2.2.2.2.2.2.2.2.2.1
theorem dL_law_r1148 : zdcP cL_law 1148 [(.invokevirtual 138, 3), (.pop, 1), (.goto 259, 3), (.aload_n 1, 1), (.aload_n 0, 1), (.iload_n 3, 1), (.iconst 1, 1), (.iadd, 1), (.iaload, 1), (.invokevirtual 139, 3), (.pop, 1), (.aload_n 2, 1), (.aload_n 0, 1), (.iload_n 3, 1), (.iconst 1, 1), (.iadd, 1)] := zdcA_ok (by decide +kernel)
theorem dL_law_1148 : decode cL_law 1148 = .ok (.invokevirtual 138, 3) := dL_law_r1148.1
theorem dL_law_1151 : decode cL_law 1151 = .ok (.pop, 1) := dL_law_r1148.2.1
theorem dL_law_1152 : decode cL_law 1152 = .ok (.goto 259, 3) := dL_law_r1148.2.2.1
theorem dL_law_1155 : decode cL_law 1155 = .ok (.aload_n 1, 1) := dL_law_r1148.2.2.2.1
theorem dL_law_1156 : decode cL_law 1156 = .ok (.aload_n 0, 1) := dL_law_r1148.2.2.2.2.1
theorem dL_law_1157 : decode cL_law 1157 = .ok (.iload_n 3, 1) := dL_law_r1148.2.2.2.2.2.1
theorem dL_law_1158 : decode cL_law 1158 = .ok (.iconst 1, 1) := dL_law_r1148.2.2.2.2.2.2.1
theorem dL_law_1159 : decode cL_law 1159 = .ok (.iadd, 1) := dL_law_r1148.2.2.2.2.2.2.2.1
theorem dL_law_1160 : decode cL_law 1160 = .ok (.iaload, 1) := dL_law_r1148.2.2.2.2.2.2.2.2.1
theorem dL_law_1161 : decode cL_law 1161 = .ok (.invokevirtual 139, 3) := dL_law_r1148.2.2.2.2.2.2.2.2.2.1
theorem dL_law_1164 : decode cL_law 1164 = .ok (.pop, 1) := dL_law_r1148.2.2.2.2.2.2.2.2.2.2.1
theorem dL_law_1165 : decode cL_law 1165 = .ok (.aload_n 2, 1) := dL_law_r1148.2.2.2.2.2.2.2.2.2.2.2.1
theorem dL_law_1166 : decode cL_law 1166 = .ok (.aload_n 0, 1) := dL_law_r1148.2.2.2.2.2.2.2.2.2.2.2.2.1
theorem dL_law_1167 : decode cL_law 1167 = .ok (.iload_n 3, 1) := dL_law_r1148.2.2.2.2.2.2.2.2.2.2.2.2.2.1
theorem dL_law_1168 : decode cL_law 1168 = .ok (.iconst 1, 1) := dL_law_r1148.2.2.2.2.2.2.2.2.2.2.2.2.2.2.1
theorem dL_law_1169 : decode cL_law 1169 = .ok (.iadd, 1) := dL_law_r1148.2.2.2.2.2.2.2.2.2.2.2.2.2.2.2.1
theorem dL_law_r1170 : zdcP cL_law 1170 [(.iaload, 1), (.invokevirtual 142, 3), (.pop, 1), (.goto 236, 3), (.aload_n 1, 1), (.invokevirtual 143, 3), (.pop, 1), (.aload_n 2, 1), (.invokevirtual 146, 3), (.pop, 1), (.goto 223, 3), (.aload_n 1, 1), (.aload_n 0, 1), (.iload_n 3, 1), (.iconst 1, 1), (.iadd, 1)] := zdcA_ok (by decide +kernel)
theorem dL_law_1170 : decode cL_law 1170 = .ok (.iaload, 1) := dL_law_r1170.1
theorem dL_law_1171 : decode cL_law 1171 = .ok (.invokevirtual 142, 3) := dL_law_r1170.2.1
theorem dL_law_1174 : decode cL_law 1174 = .ok (.pop, 1) := dL_law_r1170.2.2.1
theorem dL_law_1175 : decode cL_law 1175 = .ok (.goto 236, 3) := dL_law_r1170.2.2.2.1
theorem dL_law_1178 : decode cL_law 1178 = .ok (.aload_n 1, 1) := dL_law_r1170.2.2.2.2.1
theorem dL_law_1179 : decode cL_law 1179 = .ok (.invokevirtual 143, 3) := dL_law_r1170.2.2.2.2.2.1
theorem dL_law_1182 : decode cL_law 1182 = .ok (.pop, 1) := dL_law_r1170.2.2.2.2.2.2.1
theorem dL_law_1183 : decode cL_law 1183 = .ok (.aload_n 2, 1) := dL_law_r1170.2.2.2.2.2.2.2.1
theorem dL_law_1184 : decode cL_law 1184 = .ok (.invokevirtual 146, 3) := dL_law_r1170.2.2.2.2.2.2.2.2.1
theorem dL_law_1187 : decode cL_law 1187 = .ok (.pop, 1) := dL_law_r1170.2.2.2.2.2.2.2.2.2.1
theorem dL_law_1188 : decode cL_law 1188 = .ok (.goto 223, 3) := dL_law_r1170.2.2.2.2.2.2.2.2.2.2.1
theorem dL_law_1191 : decode cL_law 1191 = .ok (.aload_n 1, 1) := dL_law_r1170.2.2.2.2.2.2.2.2.2.2.2.1
theorem dL_law_1192 : decode cL_law 1192 = .ok (.aload_n 0, 1) := dL_law_r1170.2.2.2.2.2.2.2.2.2.2.2.2.1
theorem dL_law_1193 : decode cL_law 1193 = .ok (.iload_n 3, 1) := dL_law_r1170.2.2.2.2.2.2.2.2.2.2.2.2.2.1
theorem dL_law_1194 : decode cL_law 1194 = .ok (.iconst 1, 1) := dL_law_r1170.2.2.2.2.2.2.2.2.2.2.2.2.2.2.1
theorem dL_law_1195 : decode cL_law 1195 = .ok (.iadd, 1) := dL_law_r1170.2.2.2.2.2.2.2.2.2.2.2.2.2.2.2.1
theorem dL_law_r1196 : zdcP cL_law 1196 [(.iaload, 1), (.invokevirtual 147, 3), (.pop, 1), (.aload_n 2, 1), (.aload_n 0, 1), (.iload_n 3, 1), (.iconst 1, 1), (.iadd, 1), (.iaload, 1), (.invokevirtual 150, 3), (.pop, 1), (.goto 200, 3), (.aload_n 1, 1), (.aload_n 0, 1), (.iload_n 3, 1), (.iconst 1, 1)] := zdcA_ok (by decide +kernel)
theorem dL_law_1196 : decode cL_law 1196 = .ok (.iaload, 1) := dL_law_r1196.1
theorem dL_law_1197 : decode cL_law 1197 = .ok (.invokevirtual 147, 3) := dL_law_r1196.2.1
theorem dL_law_1200 : decode cL_law 1200 = .ok (.pop, 1) := dL_law_r1196.2.2.1
theorem dL_law_1201 : decode cL_law 1201 = .ok (.aload_n 2, 1) := dL_law_r1196.2.2.2.1
theorem dL_law_1202 : decode cL_law 1202 = .ok (.aload_n 0, 1) := dL_law_r1196.2.2.2.2.1
theorem dL_law_1203 : decode cL_law 1203 = .ok (.iload_n 3, 1) := dL_law_r1196.2.2.2.2.2.1
theorem dL_law_1204 : decode cL_law 1204 = .ok (.iconst 1, 1) := dL_law_r1196.2.2.2.2.2.2.1
theorem dL_law_1205 : decode cL_law 1205 = .ok (.iadd, 1) := dL_law_r1196.2.2.2.2.2.2.2.1
theorem dL_law_1206 : decode cL_law 1206 = .ok (.iaload, 1) := dL_law_r1196.2.2.2.2.2.2.2.2.1
theorem dL_law_1207 : decode cL_law 1207 = .ok (.invokevirtual 150, 3) := dL_law_r1196.2.2.2.2.2.2.2.2.2.1
theorem dL_law_1210 : decode cL_law 1210 = .ok (.pop, 1) := dL_law_r1196.2.2.2.2.2.2.2.2.2.2.1
theorem dL_law_1211 : decode cL_law 1211 = .ok (.goto 200, 3) := dL_law_r1196.2.2.2.2.2.2.2.2.2.2.2.1
theorem dL_law_1214 : decode cL_law 1214 = .ok (.aload_n 1, 1) := dL_law_r1196.2.2.2.2.2.2.2.2.2.2.2.2.1
theorem dL_law_1215 : decode cL_law 1215 = .ok (.aload_n 0, 1) := dL_law_r1196.2.2.2.2.2.2.2.2.2.2.2.2.2.1
theorem dL_law_1216 : decode cL_law 1216 = .ok (.iload_n 3, 1) := dL_law_r1196.2.2.2.2.2.2.2.2.2.2.2.2.2.2.1
theorem dL_law_1217 : decode cL_law 1217 = .ok (.iconst 1, 1) := dL_law_r1196.2.2.2.2.2.2.2.2.2.2.2.2.2.2.2.1
theorem dL_law_r1218 : zdcP cL_law 1218 [(.iadd, 1), (.iaload, 1), (.invokevirtual 151, 3), (.pop, 1), (.aload_n 2, 1), (.aload_n 0, 1), (.iload_n 3, 1), (.iconst 1, 1), (.iadd, 1), (.iaload, 1), (.invokevirtual 154, 3), (.pop, 1), (.goto 177, 3), (.aload_n 1, 1), (.aload_n 0, 1), (.iload_n 3, 1)] := zdcA_ok (by decide +kernel)
theorem dL_law_1218 : decode cL_law 1218 = .ok (.iadd, 1) := dL_law_r1218.1
theorem dL_law_1219 : decode cL_law 1219 = .ok (.iaload, 1) := dL_law_r1218.2.1
theorem dL_law_1220 : decode cL_law 1220 = .ok (.invokevirtual 151, 3) := dL_law_r1218.2.2.1
theorem dL_law_1223 : decode cL_law 1223 = .ok (.pop, 1) := dL_law_r1218.2.2.2.1
theorem dL_law_1224 : decode cL_law 1224 = .ok (.aload_n 2, 1) := dL_law_r1218.2.2.2.2.1
theorem dL_law_1225 : decode cL_law 1225 = .ok (.aload_n 0, 1) := dL_law_r1218.2.2.2.2.2.1
theorem dL_law_1226 : decode cL_law 1226 = .ok (.iload_n 3, 1) := dL_law_r1218.2.2.2.2.2.2.1
theorem dL_law_1227 : decode cL_law 1227 = .ok (.iconst 1, 1) := dL_law_r1218.2.2.2.2.2.2.2.1
theorem dL_law_1228 : decode cL_law 1228 = .ok (.iadd, 1) := dL_law_r1218.2.2.2.2.2.2.2.2.1
theorem dL_law_1229 : decode cL_law 1229 = .ok (.iaload, 1) := dL_law_r1218.2.2.2.2.2.2.2.2.2.1
theorem dL_law_1230 : decode cL_law 1230 = .ok (.invokevirtual 154, 3) := dL_law_r1218.2.2.2.2.2.2.2.2.2.2.1
theorem dL_law_1233 : decode cL_law 1233 = .ok (.pop, 1) := dL_law_r1218.2.2.2.2.2.2.2.2.2.2.2.1
theorem dL_law_1234 : decode cL_law 1234 = .ok (.goto 177, 3) := dL_law_r1218.2.2.2.2.2.2.2.2.2.2.2.2.1
theorem dL_law_1237 : decode cL_law 1237 = .ok (.aload_n 1, 1) := dL_law_r1218.2.2.2.2.2.2.2.2.2.2.2.2.2.1
theorem dL_law_1238 : decode cL_law 1238 = .ok (.aload_n 0, 1) := dL_law_r1218.2.2.2.2.2.2.2.2.2.2.2.2.2.2.1
theorem dL_law_1239 : decode cL_law 1239 = .ok (.iload_n 3, 1) := dL_law_r1218.2.2.2.2.2.2.2.2.2.2.2.2.2.2.2.1
theorem dL_law_r1240 : zdcP cL_law 1240 [(.iconst 1, 1), (.iadd, 1), (.iaload, 1), (.invokevirtual 155, 3), (.pop, 1), (.aload_n 2, 1), (.aload_n 0, 1), (.iload_n 3, 1), (.iconst 1, 1), (.iadd, 1), (.iaload, 1), (.invokevirtual 158, 3), (.pop, 1), (.goto 154, 3), (.aload_n 1, 1), (.invokevirtual 159, 3)] := zdcA_ok (by decide +kernel)
theorem dL_law_1240 : decode cL_law 1240 = .ok (.iconst 1, 1) := dL_law_r1240.1
theorem dL_law_1241 : decode cL_law 1241 = .ok (.iadd, 1) := dL_law_r1240.2.1
theorem dL_law_1242 : decode cL_law 1242 = .ok (.iaload, 1) := dL_law_r1240.2.2.1
theorem dL_law_1243 : decode cL_law 1243 = .ok (.invokevirtual 155, 3) := dL_law_r1240.2.2.2.1
theorem dL_law_1246 : decode cL_law 1246 = .ok (.pop, 1) := dL_law_r1240.2.2.2.2.1
theorem dL_law_1247 : decode cL_law 1247 = .ok (.aload_n 2, 1) := dL_law_r1240.2.2.2.2.2.1
theorem dL_law_1248 : decode cL_law 1248 = .ok (.aload_n 0, 1) := dL_law_r1240.2.2.2.2.2.2.1
theorem dL_law_1249 : decode cL_law 1249 = .ok (.iload_n 3, 1) := dL_law_r1240.2.2.2.2.2.2.2.1
theorem dL_law_1250 : decode cL_law 1250 = .ok (.iconst 1, 1) := dL_law_r1240.2.2.2.2.2.2.2.2.1
theorem dL_law_1251 : decode cL_law 1251 = .ok (.iadd, 1) := dL_law_r1240.2.2.2.2.2.2.2.2.2.1
theorem dL_law_1252 : decode cL_law 1252 = .ok (.iaload, 1) := dL_law_r1240.2.2.2.2.2.2.2.2.2.2.1
theorem dL_law_1253 : decode cL_law 1253 = .ok (.invokevirtual 158, 3) := dL_law_r1240.2.2.2.2.2.2.2.2.2.2.2.1
theorem dL_law_1256 : decode cL_law 1256 = .ok (.pop, 1) := dL_law_r1240.2.2.2.2.2.2.2.2.2.2.2.2.1
theorem dL_law_1257 : decode cL_law 1257 = .ok (.goto 154, 3) := dL_law_r1240.2.2.2.2.2.2.2.2.2.2.2.2.2.1
theorem dL_law_1260 : decode cL_law 1260 = .ok (.aload_n 1, 1) := dL_law_r1240.2.2.2.2.2.2.2.2.2.2.2.2.2.2.1
theorem dL_law_1261 : decode cL_law 1261 = .ok (.invokevirtual 159, 3) := dL_law_r1240.2.2.2.2.2.2.2.2.2.2.2.2.2.2.2.1
theorem dL_law_r1264 : zdcP cL_law 1264 [(.pop, 1), (.aload_n 2, 1), (.invokevirtual 162, 3), (.pop, 1), (.goto 141, 3), (.aload_n 1, 1), (.aload_n 0, 1), (.iload_n 3, 1), (.iconst 1, 1), (.iadd, 1), (.iaload, 1), (.invokevirtual 163, 3), (.pop, 1), (.aload_n 2, 1), (.aload_n 0, 1), (.iload_n 3, 1)] := zdcA_ok (by decide +kernel)
theorem dL_law_1264 : decode cL_law 1264 = .ok (.pop, 1) := dL_law_r1264.1
theorem dL_law_1265 : decode cL_law 1265 = .ok (.aload_n 2, 1) := dL_law_r1264.2.1
theorem dL_law_1266 : decode cL_law 1266 = .ok (.invokevirtual 162, 3) := dL_law_r1264.2.2.1
theorem dL_law_1269 : decode cL_law 1269 = .ok (.pop, 1) := dL_law_r1264.2.2.2.1
theorem dL_law_1270 : decode cL_law 1270 = .ok (.goto 141, 3) := dL_law_r1264.2.2.2.2.1
theorem dL_law_1273 : decode cL_law 1273 = .ok (.aload_n 1, 1) := dL_law_r1264.2.2.2.2.2.1
theorem dL_law_1274 : decode cL_law 1274 = .ok (.aload_n 0, 1) := dL_law_r1264.2.2.2.2.2.2.1
theorem dL_law_1275 : decode cL_law 1275 = .ok (.iload_n 3, 1) := dL_law_r1264.2.2.2.2.2.2.2.1
theorem dL_law_1276 : decode cL_law 1276 = .ok (.iconst 1, 1) := dL_law_r1264.2.2.2.2.2.2.2.2.1
theorem dL_law_1277 : decode cL_law 1277 = .ok (.iadd, 1) := dL_law_r1264.2.2.2.2.2.2.2.2.2.1
theorem dL_law_1278 : decode cL_law 1278 = .ok (.iaload, 1) := dL_law_r1264.2.2.2.2.2.2.2.2.2.2.1
theorem dL_law_1279 : decode cL_law 1279 = .ok (.invokevirtual 163, 3) := dL_law_r1264.2.2.2.2.2.2.2.2.2.2.2.1
theorem dL_law_1282 : decode cL_law 1282 = .ok (.pop, 1) := dL_law_r1264.2.2.2.2.2.2.2.2.2.2.2.2.1
theorem dL_law_1283 : decode cL_law 1283 = .ok (.aload_n 2, 1) := dL_law_r1264.2.2.2.2.2.2.2.2.2.2.2.2.2.1
theorem dL_law_1284 : decode cL_law 1284 = .ok (.aload_n 0, 1) := dL_law_r1264.2.2.2.2.2.2.2.2.2.2.2.2.2.2.1
theorem dL_law_1285 : decode cL_law 1285 = .ok (.iload_n 3, 1) := dL_law_r1264.2.2.2.2.2.2.2.2.2.2.2.2.2.2.2.1
theorem dL_law_r1286 : zdcP cL_law 1286 [(.iconst 1, 1), (.iadd, 1), (.iaload, 1), (.invokevirtual 166, 3), (.pop, 1), (.goto 118, 3), (.aload_n 1, 1), (.aload_n 0, 1), (.iload_n 3, 1), (.iconst 1, 1), (.iadd, 1), (.iaload, 1), (.aload_n 0, 1), (.iload_n 3, 1), (.iconst 2, 1), (.iadd, 1)] := zdcA_ok (by decide +kernel)
theorem dL_law_1286 : decode cL_law 1286 = .ok (.iconst 1, 1) := dL_law_r1286.1
theorem dL_law_1287 : decode cL_law 1287 = .ok (.iadd, 1) := dL_law_r1286.2.1
theorem dL_law_1288 : decode cL_law 1288 = .ok (.iaload, 1) := dL_law_r1286.2.2.1
theorem dL_law_1289 : decode cL_law 1289 = .ok (.invokevirtual 166, 3) := dL_law_r1286.2.2.2.1
theorem dL_law_1292 : decode cL_law 1292 = .ok (.pop, 1) := dL_law_r1286.2.2.2.2.1
theorem dL_law_1293 : decode cL_law 1293 = .ok (.goto 118, 3) := dL_law_r1286.2.2.2.2.2.1
theorem dL_law_1296 : decode cL_law 1296 = .ok (.aload_n 1, 1) := dL_law_r1286.2.2.2.2.2.2.1
theorem dL_law_1297 : decode cL_law 1297 = .ok (.aload_n 0, 1) := dL_law_r1286.2.2.2.2.2.2.2.1
theorem dL_law_1298 : decode cL_law 1298 = .ok (.iload_n 3, 1) := dL_law_r1286.2.2.2.2.2.2.2.2.1
theorem dL_law_1299 : decode cL_law 1299 = .ok (.iconst 1, 1) := dL_law_r1286.2.2.2.2.2.2.2.2.2.1
theorem dL_law_1300 : decode cL_law 1300 = .ok (.iadd, 1) := dL_law_r1286.2.2.2.2.2.2.2.2.2.2.1
theorem dL_law_1301 : decode cL_law 1301 = .ok (.iaload, 1) := dL_law_r1286.2.2.2.2.2.2.2.2.2.2.2.1
theorem dL_law_1302 : decode cL_law 1302 = .ok (.aload_n 0, 1) := dL_law_r1286.2.2.2.2.2.2.2.2.2.2.2.2.1
theorem dL_law_1303 : decode cL_law 1303 = .ok (.iload_n 3, 1) := dL_law_r1286.2.2.2.2.2.2.2.2.2.2.2.2.2.1
theorem dL_law_1304 : decode cL_law 1304 = .ok (.iconst 2, 1) := dL_law_r1286.2.2.2.2.2.2.2.2.2.2.2.2.2.2.1
theorem dL_law_1305 : decode cL_law 1305 = .ok (.iadd, 1) := dL_law_r1286.2.2.2.2.2.2.2.2.2.2.2.2.2.2.2.1
theorem dL_law_r1306 : zdcP cL_law 1306 [(.iaload, 1), (.aload_n 0, 1), (.iload_n 3, 1), (.iconst 3, 1), (.iadd, 1), (.iaload, 1), (.invokevirtual 167, 3), (.pop, 1), (.aload_n 2, 1), (.aload_n 0, 1), (.iload_n 3, 1), (.iconst 1, 1), (.iadd, 1), (.iaload, 1), (.aload_n 0, 1), (.iload_n 3, 1)] := zdcA_ok (by decide +kernel)
theorem dL_law_1306 : decode cL_law 1306 = .ok (.iaload, 1) := dL_law_r1306.1
theorem dL_law_1307 : decode cL_law 1307 = .ok (.aload_n 0, 1) := dL_law_r1306.2.1
theorem dL_law_1308 : decode cL_law 1308 = .ok (.iload_n 3, 1) := dL_law_r1306.2.2.1
theorem dL_law_1309 : decode cL_law 1309 = .ok (.iconst 3, 1) := dL_law_r1306.2.2.2.1
theorem dL_law_1310 : decode cL_law 1310 = .ok (.iadd, 1) := dL_law_r1306.2.2.2.2.1
theorem dL_law_1311 : decode cL_law 1311 = .ok (.iaload, 1) := dL_law_r1306.2.2.2.2.2.1
theorem dL_law_1312 : decode cL_law 1312 = .ok (.invokevirtual 167, 3) := dL_law_r1306.2.2.2.2.2.2.1
theorem dL_law_1315 : decode cL_law 1315 = .ok (.pop, 1) := dL_law_r1306.2.2.2.2.2.2.2.1
theorem dL_law_1316 : decode cL_law 1316 = .ok (.aload_n 2, 1) := dL_law_r1306.2.2.2.2.2.2.2.2.1
theorem dL_law_1317 : decode cL_law 1317 = .ok (.aload_n 0, 1) := dL_law_r1306.2.2.2.2.2.2.2.2.2.1
theorem dL_law_1318 : decode cL_law 1318 = .ok (.iload_n 3, 1) := dL_law_r1306.2.2.2.2.2.2.2.2.2.2.1
theorem dL_law_1319 : decode cL_law 1319 = .ok (.iconst 1, 1) := dL_law_r1306.2.2.2.2.2.2.2.2.2.2.2.1
theorem dL_law_1320 : decode cL_law 1320 = .ok (.iadd, 1) := dL_law_r1306.2.2.2.2.2.2.2.2.2.2.2.2.1
theorem dL_law_1321 : decode cL_law 1321 = .ok (.iaload, 1) := dL_law_r1306.2.2.2.2.2.2.2.2.2.2.2.2.2.1
theorem dL_law_1322 : decode cL_law 1322 = .ok (.aload_n 0, 1) := dL_law_r1306.2.2.2.2.2.2.2.2.2.2.2.2.2.2.1
theorem dL_law_1323 : decode cL_law 1323 = .ok (.iload_n 3, 1) := dL_law_r1306.2.2.2.2.2.2.2.2.2.2.2.2.2.2.2.1
theorem dL_law_r1324 : zdcP cL_law 1324 [(.iconst 2, 1), (.iadd, 1), (.iaload, 1), (.aload_n 0, 1), (.iload_n 3, 1), (.iconst 3, 1), (.iadd, 1), (.iaload, 1), (.invokevirtual 170, 3), (.pop, 1), (.goto 75, 3), (.aload_n 1, 1), (.aload_n 0, 1), (.iload_n 3, 1), (.iconst 1, 1), (.iadd, 1)] := zdcA_ok (by decide +kernel)
theorem dL_law_1324 : decode cL_law 1324 = .ok (.iconst 2, 1) := dL_law_r1324.1
theorem dL_law_1325 : decode cL_law 1325 = .ok (.iadd, 1) := dL_law_r1324.2.1
theorem dL_law_1326 : decode cL_law 1326 = .ok (.iaload, 1) := dL_law_r1324.2.2.1
theorem dL_law_1327 : decode cL_law 1327 = .ok (.aload_n 0, 1) := dL_law_r1324.2.2.2.1
theorem dL_law_1328 : decode cL_law 1328 = .ok (.iload_n 3, 1) := dL_law_r1324.2.2.2.2.1
theorem dL_law_1329 : decode cL_law 1329 = .ok (.iconst 3, 1) := dL_law_r1324.2.2.2.2.2.1
theorem dL_law_1330 : decode cL_law 1330 = .ok (.iadd, 1) := dL_law_r1324.2.2.2.2.2.2.1
theorem dL_law_1331 : decode cL_law 1331 = .ok (.iaload, 1) := dL_law_r1324.2.2.2.2.2.2.2.1
theorem dL_law_1332 : decode cL_law 1332 = .ok (.invokevirtual 170, 3) := dL_law_r1324.2.2.2.2.2.2.2.2.1
theorem dL_law_1335 : decode cL_law 1335 = .ok (.pop, 1) := dL_law_r1324.2.2.2.2.2.2.2.2.2.1
theorem dL_law_1336 : decode cL_law 1336 = .ok (.goto 75, 3) := dL_law_r1324.2.2.2.2.2.2.2.2.2.2.1
theorem dL_law_1339 : decode cL_law 1339 = .ok (.aload_n 1, 1) := dL_law_r1324.2.2.2.2.2.2.2.2.2.2.2.1
theorem dL_law_1340 : decode cL_law 1340 = .ok (.aload_n 0, 1) := dL_law_r1324.2.2.2.2.2.2.2.2.2.2.2.2.1
theorem dL_law_1341 : decode cL_law 1341 = .ok (.iload_n 3, 1) := dL_law_r1324.2.2.2.2.2.2.2.2.2.2.2.2.2.1
theorem dL_law_1342 : decode cL_law 1342 = .ok (.iconst 1, 1) := dL_law_r1324.2.2.2.2.2.2.2.2.2.2.2.2.2.2.1
theorem dL_law_1343 : decode cL_law 1343 = .ok (.iadd, 1) := dL_law_r1324.2.2.2.2.2.2.2.2.2.2.2.2.2.2.2.1
theorem dL_law_r1344 : zdcP cL_law 1344 [(.iaload, 1), (.invokevirtual 171, 3), (.pop, 1), (.aload_n 2, 1), (.aload_n 0, 1), (.iload_n 3, 1), (.iconst 1, 1), (.iadd, 1), (.iaload, 1), (.invokevirtual 174, 3), (.pop, 1), (.goto 52, 3), (.aload_n 1, 1), (.invokevirtual 175, 3), (.pop, 1), (.aload_n 2, 1)] := zdcA_ok (by decide +kernel)
theorem dL_law_1344 : decode cL_law 1344 = .ok (.iaload, 1) := dL_law_r1344.1
theorem dL_law_1345 : decode cL_law 1345 = .ok (.invokevirtual 171, 3) := dL_law_r1344.2.1
theorem dL_law_1348 : decode cL_law 1348 = .ok (.pop, 1) := dL_law_r1344.2.2.1
theorem dL_law_1349 : decode cL_law 1349 = .ok (.aload_n 2, 1) := dL_law_r1344.2.2.2.1
theorem dL_law_1350 : decode cL_law 1350 = .ok (.aload_n 0, 1) := dL_law_r1344.2.2.2.2.1
theorem dL_law_1351 : decode cL_law 1351 = .ok (.iload_n 3, 1) := dL_law_r1344.2.2.2.2.2.1
theorem dL_law_1352 : decode cL_law 1352 = .ok (.iconst 1, 1) := dL_law_r1344.2.2.2.2.2.2.1
theorem dL_law_1353 : decode cL_law 1353 = .ok (.iadd, 1) := dL_law_r1344.2.2.2.2.2.2.2.1
theorem dL_law_1354 : decode cL_law 1354 = .ok (.iaload, 1) := dL_law_r1344.2.2.2.2.2.2.2.2.1
theorem dL_law_1355 : decode cL_law 1355 = .ok (.invokevirtual 174, 3) := dL_law_r1344.2.2.2.2.2.2.2.2.2.1
theorem dL_law_1358 : decode cL_law 1358 = .ok (.pop, 1) := dL_law_r1344.2.2.2.2.2.2.2.2.2.2.1
theorem dL_law_1359 : decode cL_law 1359 = .ok (.goto 52, 3) := dL_law_r1344.2.2.2.2.2.2.2.2.2.2.2.1
theorem dL_law_1362 : decode cL_law 1362 = .ok (.aload_n 1, 1) := dL_law_r1344.2.2.2.2.2.2.2.2.2.2.2.2.1
theorem dL_law_1363 : decode cL_law 1363 = .ok (.invokevirtual 175, 3) := dL_law_r1344.2.2.2.2.2.2.2.2.2.2.2.2.2.1
theorem dL_law_1366 : decode cL_law 1366 = .ok (.pop, 1) := dL_law_r1344.2.2.2.2.2.2.2.2.2.2.2.2.2.2.1
theorem dL_law_1367 : decode cL_law 1367 = .ok (.aload_n 2, 1) := dL_law_r1344.2.2.2.2.2.2.2.2.2.2.2.2.2.2.2.1
theorem dL_law_r1368 : zdcP cL_law 1368 [(.invokevirtual 178, 3), (.pop, 1), (.goto 39, 3), (.aload_n 1, 1), (.invokevirtual 179, 3), (.aload_n 2, 1), (.invokevirtual 182, 3), (.if_icmp .eq 28, 3), (.iconst 0, 1), (.ireturn, 1), (.aload_n 1, 1), (.aload_n 0, 1), (.iload_n 3, 1), (.iconst 1, 1), (.iadd, 1), (.iaload, 1)] := zdcA_ok (by decide +kernel)
theorem dL_law_1368 : decode cL_law 1368 = .ok (.invokevirtual 178, 3) := dL_law_r1368.1
theorem dL_law_1371 : decode cL_law 1371 = .ok (.pop, 1) := dL_law_r1368.2.1
theorem dL_law_1372 : decode cL_law 1372 = .ok (.goto 39, 3) := dL_law_r1368.2.2.1
theorem dL_law_1375 : decode cL_law 1375 = .ok (.aload_n 1, 1) := dL_law_r1368.2.2.2.1
theorem dL_law_1376 : decode cL_law 1376 = .ok (.invokevirtual 179, 3) := dL_law_r1368.2.2.2.2.1
theorem dL_law_1379 : decode cL_law 1379 = .ok (.aload_n 2, 1) := dL_law_r1368.2.2.2.2.2.1
theorem dL_law_1380 : decode cL_law 1380 = .ok (.invokevirtual 182, 3) := dL_law_r1368.2.2.2.2.2.2.1
theorem dL_law_1383 : decode cL_law 1383 = .ok (.if_icmp .eq 28, 3) := dL_law_r1368.2.2.2.2.2.2.2.1
theorem dL_law_1386 : decode cL_law 1386 = .ok (.iconst 0, 1) := dL_law_r1368.2.2.2.2.2.2.2.2.1
theorem dL_law_1387 : decode cL_law 1387 = .ok (.ireturn, 1) := dL_law_r1368.2.2.2.2.2.2.2.2.2.1
theorem dL_law_1388 : decode cL_law 1388 = .ok (.aload_n 1, 1) := dL_law_r1368.2.2.2.2.2.2.2.2.2.2.1
theorem dL_law_1389 : decode cL_law 1389 = .ok (.aload_n 0, 1) := dL_law_r1368.2.2.2.2.2.2.2.2.2.2.2.1
theorem dL_law_1390 : decode cL_law 1390 = .ok (.iload_n 3, 1) := dL_law_r1368.2.2.2.2.2.2.2.2.2.2.2.2.1
theorem dL_law_1391 : decode cL_law 1391 = .ok (.iconst 1, 1) := dL_law_r1368.2.2.2.2.2.2.2.2.2.2.2.2.2.1
theorem dL_law_1392 : decode cL_law 1392 = .ok (.iadd, 1) := dL_law_r1368.2.2.2.2.2.2.2.2.2.2.2.2.2.2.1
theorem dL_law_1393 : decode cL_law 1393 = .ok (.iaload, 1) := dL_law_r1368.2.2.2.2.2.2.2.2.2.2.2.2.2.2.2.1
theorem dL_law_r1394 : zdcP cL_law 1394 [(.invokevirtual 183, 3), (.pop, 1), (.aload_n 2, 1), (.aload_n 0, 1), (.iload_n 3, 1), (.iconst 1, 1), (.iadd, 1), (.iaload, 1), (.invokevirtual 186, 3), (.pop, 1), (.goto 3, 3), (.iinc 3 6, 3), (.goto (-1396), 3), (.iconst 1, 1), (.ireturn, 1)] := zdcA_ok (by decide +kernel)
theorem dL_law_1394 : decode cL_law 1394 = .ok (.invokevirtual 183, 3) := dL_law_r1394.1
theorem dL_law_1397 : decode cL_law 1397 = .ok (.pop, 1) := dL_law_r1394.2.1
theorem dL_law_1398 : decode cL_law 1398 = .ok (.aload_n 2, 1) := dL_law_r1394.2.2.1
theorem dL_law_1399 : decode cL_law 1399 = .ok (.aload_n 0, 1) := dL_law_r1394.2.2.2.1
theorem dL_law_1400 : decode cL_law 1400 = .ok (.iload_n 3, 1) := dL_law_r1394.2.2.2.2.1
theorem dL_law_1401 : decode cL_law 1401 = .ok (.iconst 1, 1) := dL_law_r1394.2.2.2.2.2.1
theorem dL_law_1402 : decode cL_law 1402 = .ok (.iadd, 1) := dL_law_r1394.2.2.2.2.2.2.1
theorem dL_law_1403 : decode cL_law 1403 = .ok (.iaload, 1) := dL_law_r1394.2.2.2.2.2.2.2.1
theorem dL_law_1404 : decode cL_law 1404 = .ok (.invokevirtual 186, 3) := dL_law_r1394.2.2.2.2.2.2.2.2.1
theorem dL_law_1407 : decode cL_law 1407 = .ok (.pop, 1) := dL_law_r1394.2.2.2.2.2.2.2.2.2.1
theorem dL_law_1408 : decode cL_law 1408 = .ok (.goto 3, 3) := dL_law_r1394.2.2.2.2.2.2.2.2.2.2.1
theorem dL_law_1411 : decode cL_law 1411 = .ok (.iinc 3 6, 3) := dL_law_r1394.2.2.2.2.2.2.2.2.2.2.2.1
theorem dL_law_1414 : decode cL_law 1414 = .ok (.goto (-1396), 3) := dL_law_r1394.2.2.2.2.2.2.2.2.2.2.2.2.1
theorem dL_law_1417 : decode cL_law 1417 = .ok (.iconst 1, 1) := dL_law_r1394.2.2.2.2.2.2.2.2.2.2.2.2.2.1
theorem dL_law_1418 : decode cL_law 1418 = .ok (.ireturn, 1) := dL_law_r1394.2.2.2.2.2.2.2.2.2.2.2.2.2.2.1
set_option maxHeartbeats 4000000 in
theorem zf_loop {J : zf_Me → Prop}
    (hk0 : ∀ m, J m → ∀ (a0 : Int32) (a1 : Int32) (a2 : Int32), wp_68 a0 a1 a2 m (fun x m1 => wp_130 a0 a1 a2 m1 (fun z m2 => J m2)))
    (hk1 : ∀ m, J m → ∀ (a0 : Int32) (a1 : Int32) (a2 : Int64), wp_69 a0 a1 a2 m (fun x m1 => wp_131 a0 a1 a2 m1 (fun z m2 => J m2)))
    (hk2 : ∀ m, J m → ∀ (a0 : Int32) (a1 : Int32) (a2 : Int32) (a3 : Int32) (a4 : Int32), wp_70 a0 a1 a2 a3 a4 m (fun x m1 => wp_132 a0 a1 a2 a3 a4 m1 (fun z m2 => J m2)))
    (hk3 : ∀ m, J m → ∀ (a0 : Int32) (a1 : Int32), wp_71 a0 a1 m (fun x m1 => wp_133 a0 a1 m1 (fun z m2 => J m2)))
    (hk4 : ∀ m, J m → ∀ (a0 : Int32) (a1 : Int32), wp_72 a0 a1 m (fun x m1 => wp_134 a0 a1 m1 (fun z m2 => J m2)))
    (hk5 : ∀ m, J m → ∀ (a0 : Int32), wp_73 a0 m (fun x m1 => wp_135 a0 m1 (fun z m2 => J m2)))
    (hk6 : ∀ m, J m → ∀ (a0 : Int32) (a1 : Int32), wp_74 a0 a1 m (fun x m1 => wp_136 a0 a1 m1 (fun z m2 => J m2)))
    (hk7 : ∀ m, J m → ∀ (a0 : Int32) (a1 : Int32), (a1 = 0 ∨ a1 = 1) → wp_75 a0 a1 m (fun x m1 => wp_142 a0 a1 m1 (fun z m2 => J m2)))
    (hk8 : ∀ m, J m → ∀ (a0 : Int32) (a1 : Int32), wp_76 a0 a1 m (fun x m1 => wp_143 a0 a1 m1 (fun z m2 => J m2)))
    (hk9 : ∀ m, J m → ∀ (a0 : Int32) (a1 : Int32), wp_77 a0 a1 m (fun x m1 => wp_144 a0 a1 m1 (fun z m2 => J m2)))
    (hk10 : ∀ m, J m → ∀ (a0 : Int32) (a1 : Int32), wp_78 a0 a1 m (fun x m1 => wp_145 a0 a1 m1 (fun z m2 => J m2)))
    (hk11 : ∀ m, J m → ∀ (a0 : Int32) (a1 : Int32), wp_79 a0 a1 m (fun x m1 => wp_150 a0 a1 m1 (fun z m2 => J m2)))
    (hk12 : ∀ m, J m → ∀ (a0 : Int32) (a1 : Int32), wp_80 a0 a1 m (fun x m1 => wp_151 a0 a1 m1 (fun z m2 => J m2)))
    (hk13 : ∀ m, J m → ∀ (a0 : Int32), wp_81 a0 m (fun x m1 => wp_152 a0 m1 (fun z m2 => J m2)))
    (hk14 : ∀ m, J m → ∀ (a0 : Int32), wp_82 a0 m (fun x m1 => wp_162 a0 m1 (fun z m2 => J m2)))
    (hk15 : ∀ m, J m → wp_83 m (fun x m1 => wp_163 m1 (fun z m2 => J m2)))
    (hk16 : ∀ m, J m → ∀ (a0 : Int32) (a1 : Int32), wp_84 a0 a1 m (fun x m1 => wp_171 a0 a1 m1 (fun z m2 => J m2)))
    (hk17 : ∀ m, J m → ∀ (a0 : Int32), wp_85 a0 m (fun x m1 => wp_172 a0 m1 (fun z m2 => J m2)))
    (hk18 : ∀ m, J m → wp_86 m (fun x m1 => wp_173 m1 (fun z m2 => J m2)))
    (hk19 : ∀ m, J m → ∀ (a0 : Int32) (a1 : Int32), wp_87 a0 a1 m (fun x m1 => wp_175 a0 a1 m1 (fun z m2 => J m2)))
    (hk20 : ∀ m, J m → ∀ (a0 : Int32) (a1 : Int32), wp_88 a0 a1 m (fun x m1 => wp_183 a0 a1 m1 (fun z m2 => J m2)))
    (hk21 : ∀ m, J m → ∀ (a0 : Int32), wp_89 a0 m (fun x m1 => wp_184 a0 m1 (fun z m2 => J m2)))
    (hk22 : ∀ m, J m → ∀ (a0 : Int32), wp_90 a0 m (fun x m1 => wp_185 a0 m1 (fun z m2 => J m2)))
    (hk23 : ∀ m, J m → ∀ (a0 : Int32) (a1 : Int32), wp_91 a0 a1 m (fun x m1 => wp_186 a0 a1 m1 (fun z m2 => J m2)))
    (hk24 : ∀ m, J m → ∀ (a0 : Int32), wp_92 a0 m (fun x m1 => wp_187 a0 m1 (fun z m2 => J m2)))
    (hk25 : ∀ m, J m → ∀ (a0 : Int32), wp_93 a0 m (fun x m1 => wp_188 a0 m1 (fun z m2 => J m2)))
    (hk26 : ∀ m, J m → ∀ (a0 : Int32) (a1 : Int32), wp_94 a0 a1 m (fun x m1 => wp_191 a0 a1 m1 (fun z m2 => J m2)))
    (hk27 : ∀ m, J m → ∀ (a0 : Int32) (a1 : Int32) (a2 : Int32), wp_95 a0 a1 a2 m (fun x m1 => wp_192 a0 a1 a2 m1 (fun z m2 => J m2)))
    (hk28 : ∀ m, J m → ∀ (a0 : Int32) (a1 : Int32), wp_96 a0 a1 m (fun x m1 => wp_193 a0 a1 m1 (fun z m2 => J m2)))
    (hk29 : ∀ m, J m → ∀ (a0 : Int32), wp_97 a0 m (fun x m1 => wp_194 a0 m1 (fun z m2 => J m2)))
    (hk30 : ∀ m, J m → wp_98 m (fun x m1 => wp_195 m1 (fun z m2 => J m2)))
    (hk31 : ∀ m, J m → ∀ (a0 : Int32), wp_99 a0 m (fun x m1 => wp_196 a0 m1 (fun z m2 => J m2)))
    (hk32 : ∀ m, J m → ∀ (a0 : Int32), wp_100 a0 m (fun x m1 => wp_197 a0 m1 (fun z m2 => J m2)))
    (hk33 : ∀ m, J m → ∀ (a0 : Int32), wp_101 a0 m (fun x m1 => wp_199 a0 m1 (fun z m2 => J m2)))
    (hk34 : ∀ m, J m → wp_102 m (fun x m1 => wp_200 m1 (fun z m2 => J m2)))
    (hk35 : ∀ m, J m → ∀ (a0 : Int32), wp_103 a0 m (fun x m1 => wp_201 a0 m1 (fun z m2 => J m2)))
    (hk36 : ∀ m, J m → ∀ (a0 : Int32) (a1 : Int32) (a2 : Int32), wp_104 a0 a1 a2 m (fun x m1 => wp_206 a0 a1 a2 m1 (fun z m2 => J m2)))
    (hk37 : ∀ m, J m → ∀ (a0 : Int32), wp_105 a0 m (fun x m1 => wp_207 a0 m1 (fun z m2 => J m2)))
    (hk38 : ∀ m, J m → wp_106 m (fun x m1 => wp_208 m1 (fun z m2 => J m2)))
    (hk39 : ∀ m, J m → wp_107 m (fun x m1 => wp_209 m1 (fun z m2 => x = z ∧ J m2)))
    (hk40 : ∀ m, J m → ∀ (a0 : Int32), wp_108 a0 m (fun x m1 => wp_210 a0 m1 (fun z m2 => J m2)))
    {N : Nat} {xs : Nat → Int32} (hN : N ≤ 3072) : ∀ (n : Nat) (i : Int32) (m : zf_Me), 0 ≤ i.toInt → i.toInt ≤ N → (N : Int) + 1 ≤ i.toInt + n → J m → zf_W (some (N, xs)) zx_nc zx_ns (199 + 1) zx_tl 18 [some (.inr (.inr (5, 0))), some (.inr (.inr (1, 0))), some (.inr (.inr (1, 63))), some (.inl i)] [] m (fun v _ => v = some (.inl 1)) := by
  intro n
  induction n with
  | zero => intro i m hi0 hiN hn _; exact absurd hn (by omega)
  | succ n ih =>
    intro i m hi0 hiN hn h
    have e6 : (6 : Int32).toInt = 6 := rfl
    have eN : (Int32.ofNat N).toInt = (N : Int) := nI_toInt (by omega)
    have eN6 := fb_subI (x := Int32.ofNat N) (y := 6) (by omega) (by omega)
    refine zf_ld (pc' := 19) (v := .inl i) dL_law_18 rfl (fun _ _ _ => rfl) rfl rfl rfl ?_
    refine zf_ld (pc' := 20) (v := .inr (.inr (5, 0))) dL_law_19 rfl (fun _ _ _ => rfl) rfl rfl rfl ?_
    refine zf_sal (pc' := 21) dL_law_20 rfl ?_
    refine zf_bi (v := 6) (pc' := 23) dL_law_21 rfl rfl ?_
    refine zf_in (pc' := 24) (S' := [.inl (Int32.ofNat N - 6), .inl i]) dL_law_23 rfl (fun _ _ _ => rfl) ?_
    refine zf_icmp_gt (tgt := 1417) (pc' := 27) dL_law_24 rfl rfl (fun g => ?_) (fun g => ?_)
    · refine zf_ic (v := 1) (pc' := 1418) dL_law_1417 rfl rfl ?_
      exact zf_sr dL_law_1418 rfl (by decide) rfl
    have hi6 : i.toInt + 6 ≤ N := by omega
    have ei6 := fb_addI (x := i) (y := 6) (by omega) (by omega)
    refine zf_ld (pc' := 28) (v := .inr (.inr (5, 0))) dL_law_27 rfl (fun _ _ _ => rfl) rfl rfl rfl ?_
    refine zf_ld (pc' := 29) (v := .inl i) dL_law_28 rfl (fun _ _ _ => rfl) rfl rfl rfl ?_
    refine zf_sld (pc' := 30) dL_law_29 rfl ⟨hi0, by omega⟩ ?_
    refine zf_bi (v := 63) (pc' := 32) dL_law_30 rfl rfl ?_
    refine zf_in (pc' := 33) (S' := [.inl (xs i.toInt.toNat &&& 63)]) dL_law_32 rfl (fun _ _ _ => rfl) ?_
    refine zf_tsc (tgd := 1411) dL_law_33 rfl [212, 255, 328, 391, 424, 457, 480, 513, 562, 595, 628, 661, 694, 727, 750, 773, 786, 819, 842, 855, 888, 921, 944, 967, 1000, 1023, 1046, 1079, 1122, 1155, 1178, 1191, 1214, 1237, 1260, 1273, 1296, 1339, 1362, 1375, 1388] (by decide) (by decide) (fun _ => ?_) (zl_cons (fun _ => ?_) (zl_cons (fun _ => ?_) (zl_cons (fun _ => ?_) (zl_cons (fun _ => ?_) (zl_cons (fun _ => ?_) (zl_cons (fun _ => ?_) (zl_cons (fun _ => ?_) (zl_cons (fun _ => ?_) (zl_cons (fun _ => ?_) (zl_cons (fun _ => ?_) (zl_cons (fun _ => ?_) (zl_cons (fun _ => ?_) (zl_cons (fun _ => ?_) (zl_cons (fun _ => ?_) (zl_cons (fun _ => ?_) (zl_cons (fun _ => ?_) (zl_cons (fun _ => ?_) (zl_cons (fun _ => ?_) (zl_cons (fun _ => ?_) (zl_cons (fun _ => ?_) (zl_cons (fun _ => ?_) (zl_cons (fun _ => ?_) (zl_cons (fun _ => ?_) (zl_cons (fun _ => ?_) (zl_cons (fun _ => ?_) (zl_cons (fun _ => ?_) (zl_cons (fun _ => ?_) (zl_cons (fun _ => ?_) (zl_cons (fun _ => ?_) (zl_cons (fun _ => ?_) (zl_cons (fun _ => ?_) (zl_cons (fun _ => ?_) (zl_cons (fun _ => ?_) (zl_cons (fun _ => ?_) (zl_cons (fun _ => ?_) (zl_cons (fun _ => ?_) (zl_cons (fun _ => ?_) (zl_cons (fun _ => ?_) (zl_cons (fun _ => ?_) (zl_cons (fun _ => ?_) (zl_cons (fun _ => ?_) (zl_nil))))))))))))))))))))))))))))))))))))))))))
    · refine zf_ii (y := i + 6) (L2 := [some (.inr (.inr (5, 0))), some (.inr (.inr (1, 0))), some (.inr (.inr (1, 63))), some (.inl (i + 6))]) (pc' := 1414) dL_law_1411 rfl rfl rfl rfl rfl ?_
      refine zf_goto (tgt := 18) dL_law_1414 rfl ?_
      exact ih (i + 6) m (by omega) (by omega) (by omega) h
    · refine zf_ld (pc' := 213) (v := .inr (.inr (1, 0))) dL_law_212 rfl (fun _ _ _ => rfl) rfl rfl rfl ?_
      refine zf_ld (pc' := 214) (v := .inr (.inr (5, 0))) dL_law_213 rfl (fun _ _ _ => rfl) rfl rfl rfl ?_
      refine zf_ld (pc' := 215) (v := .inl i) dL_law_214 rfl (fun _ _ _ => rfl) rfl rfl rfl ?_
      refine zf_ic (v := 1) (pc' := 216) dL_law_215 rfl rfl ?_
      refine zf_in (pc' := 217) (S' := [.inl (i + 1), .inr (.inr (5, 0)), .inr (.inr (1, 0))]) dL_law_216 rfl (fun _ _ _ => rfl) ?_
      refine zf_sld (pc' := 218) dL_law_217 rfl (zf_si6 (by rfl : (1 : Int32).toInt = 1) hi0 hi6 hN (by decide)) ?_
      refine zf_ld (pc' := 219) (v := .inr (.inr (5, 0))) dL_law_218 rfl (fun _ _ _ => rfl) rfl rfl rfl ?_
      refine zf_ld (pc' := 220) (v := .inl i) dL_law_219 rfl (fun _ _ _ => rfl) rfl rfl rfl ?_
      refine zf_ic (v := 2) (pc' := 221) dL_law_220 rfl rfl ?_
      refine zf_in (pc' := 222) (S' := [.inl (i + 2), .inr (.inr (5, 0)), .inl (xs (Int32.toInt (i + 1)).toNat), .inr (.inr (1, 0))]) dL_law_221 rfl (fun _ _ _ => rfl) ?_
      refine zf_sld (pc' := 223) dL_law_222 rfl (zf_si6 (by rfl : (2 : Int32).toInt = 2) hi0 hi6 hN (by decide)) ?_
      refine zf_ld (pc' := 224) (v := .inr (.inr (5, 0))) dL_law_223 rfl (fun _ _ _ => rfl) rfl rfl rfl ?_
      refine zf_ld (pc' := 225) (v := .inl i) dL_law_224 rfl (fun _ _ _ => rfl) rfl rfl rfl ?_
      refine zf_ic (v := 3) (pc' := 226) dL_law_225 rfl rfl ?_
      refine zf_in (pc' := 227) (S' := [.inl (i + 3), .inr (.inr (5, 0)), .inl (xs (Int32.toInt (i + 2)).toNat), .inl (xs (Int32.toInt (i + 1)).toNat), .inr (.inr (1, 0))]) dL_law_226 rfl (fun _ _ _ => rfl) ?_
      refine zf_sld (pc' := 228) dL_law_227 rfl (zf_si6 (by rfl : (3 : Int32).toInt = 3) hi0 hi6 hN (by decide)) ?_
      refine zf_iv (k := 68) (pc' := 231) (r := []) dL_law_228 rfl rfl rfl rfl (by decide) rfl rfl rfl (zr_68 (by omega) (hk0 m h (xs (Int32.toInt (i + 1)).toNat) (xs (Int32.toInt (i + 2)).toNat) (xs (Int32.toInt (i + 3)).toNat))) (zf_kI (fun x1 m1 h => ?_))
      refine zf_in (pc' := 232) (S' := []) dL_law_231 rfl (fun _ _ _ => rfl) ?_
      refine zf_ld (pc' := 233) (v := .inr (.inr (1, 63))) dL_law_232 rfl (fun _ _ _ => rfl) rfl rfl rfl ?_
      refine zf_ld (pc' := 234) (v := .inr (.inr (5, 0))) dL_law_233 rfl (fun _ _ _ => rfl) rfl rfl rfl ?_
      refine zf_ld (pc' := 235) (v := .inl i) dL_law_234 rfl (fun _ _ _ => rfl) rfl rfl rfl ?_
      refine zf_ic (v := 1) (pc' := 236) dL_law_235 rfl rfl ?_
      refine zf_in (pc' := 237) (S' := [.inl (i + 1), .inr (.inr (5, 0)), .inr (.inr (1, 63))]) dL_law_236 rfl (fun _ _ _ => rfl) ?_
      refine zf_sld (pc' := 238) dL_law_237 rfl (zf_si6 (by rfl : (1 : Int32).toInt = 1) hi0 hi6 hN (by decide)) ?_
      refine zf_ld (pc' := 239) (v := .inr (.inr (5, 0))) dL_law_238 rfl (fun _ _ _ => rfl) rfl rfl rfl ?_
      refine zf_ld (pc' := 240) (v := .inl i) dL_law_239 rfl (fun _ _ _ => rfl) rfl rfl rfl ?_
      refine zf_ic (v := 2) (pc' := 241) dL_law_240 rfl rfl ?_
      refine zf_in (pc' := 242) (S' := [.inl (i + 2), .inr (.inr (5, 0)), .inl (xs (Int32.toInt (i + 1)).toNat), .inr (.inr (1, 63))]) dL_law_241 rfl (fun _ _ _ => rfl) ?_
      refine zf_sld (pc' := 243) dL_law_242 rfl (zf_si6 (by rfl : (2 : Int32).toInt = 2) hi0 hi6 hN (by decide)) ?_
      refine zf_ld (pc' := 244) (v := .inr (.inr (5, 0))) dL_law_243 rfl (fun _ _ _ => rfl) rfl rfl rfl ?_
      refine zf_ld (pc' := 245) (v := .inl i) dL_law_244 rfl (fun _ _ _ => rfl) rfl rfl rfl ?_
      refine zf_ic (v := 3) (pc' := 246) dL_law_245 rfl rfl ?_
      refine zf_in (pc' := 247) (S' := [.inl (i + 3), .inr (.inr (5, 0)), .inl (xs (Int32.toInt (i + 2)).toNat), .inl (xs (Int32.toInt (i + 1)).toNat), .inr (.inr (1, 63))]) dL_law_246 rfl (fun _ _ _ => rfl) ?_
      refine zf_sld (pc' := 248) dL_law_247 rfl (zf_si6 (by rfl : (3 : Int32).toInt = 3) hi0 hi6 hN (by decide)) ?_
      refine zf_iv (k := 130) (pc' := 251) (r := []) dL_law_248 rfl rfl rfl rfl (by decide) rfl rfl rfl (zr_130 (by omega) h) (zf_kI (fun x2 m2 h => ?_))
      refine zf_in (pc' := 252) (S' := []) dL_law_251 rfl (fun _ _ _ => rfl) ?_
      refine zf_goto (tgt := 1411) dL_law_252 rfl ?_
      refine zf_ii (y := i + 6) (L2 := [some (.inr (.inr (5, 0))), some (.inr (.inr (1, 0))), some (.inr (.inr (1, 63))), some (.inl (i + 6))]) (pc' := 1414) dL_law_1411 rfl rfl rfl rfl rfl ?_
      refine zf_goto (tgt := 18) dL_law_1414 rfl ?_
      exact ih (i + 6) m2 (by omega) (by omega) (by omega) h
    · refine zf_ld (pc' := 256) (v := .inr (.inr (1, 0))) dL_law_255 rfl (fun _ _ _ => rfl) rfl rfl rfl ?_
      refine zf_ld (pc' := 257) (v := .inr (.inr (5, 0))) dL_law_256 rfl (fun _ _ _ => rfl) rfl rfl rfl ?_
      refine zf_ld (pc' := 258) (v := .inl i) dL_law_257 rfl (fun _ _ _ => rfl) rfl rfl rfl ?_
      refine zf_ic (v := 1) (pc' := 259) dL_law_258 rfl rfl ?_
      refine zf_in (pc' := 260) (S' := [.inl (i + 1), .inr (.inr (5, 0)), .inr (.inr (1, 0))]) dL_law_259 rfl (fun _ _ _ => rfl) ?_
      refine zf_sld (pc' := 261) dL_law_260 rfl (zf_si6 (by rfl : (1 : Int32).toInt = 1) hi0 hi6 hN (by decide)) ?_
      refine zf_ld (pc' := 262) (v := .inr (.inr (5, 0))) dL_law_261 rfl (fun _ _ _ => rfl) rfl rfl rfl ?_
      refine zf_ld (pc' := 263) (v := .inl i) dL_law_262 rfl (fun _ _ _ => rfl) rfl rfl rfl ?_
      refine zf_ic (v := 2) (pc' := 264) dL_law_263 rfl rfl ?_
      refine zf_in (pc' := 265) (S' := [.inl (i + 2), .inr (.inr (5, 0)), .inl (xs (Int32.toInt (i + 1)).toNat), .inr (.inr (1, 0))]) dL_law_264 rfl (fun _ _ _ => rfl) ?_
      refine zf_sld (pc' := 266) dL_law_265 rfl (zf_si6 (by rfl : (2 : Int32).toInt = 2) hi0 hi6 hN (by decide)) ?_
      refine zf_ld (pc' := 267) (v := .inr (.inr (5, 0))) dL_law_266 rfl (fun _ _ _ => rfl) rfl rfl rfl ?_
      refine zf_ld (pc' := 268) (v := .inl i) dL_law_267 rfl (fun _ _ _ => rfl) rfl rfl rfl ?_
      refine zf_ic (v := 3) (pc' := 269) dL_law_268 rfl rfl ?_
      refine zf_in (pc' := 270) (S' := [.inl (i + 3), .inr (.inr (5, 0)), .inl (xs (Int32.toInt (i + 2)).toNat), .inl (xs (Int32.toInt (i + 1)).toNat), .inr (.inr (1, 0))]) dL_law_269 rfl (fun _ _ _ => rfl) ?_
      refine zf_sld (pc' := 271) dL_law_270 rfl (zf_si6 (by rfl : (3 : Int32).toInt = 3) hi0 hi6 hN (by decide)) ?_
      refine zf_in (pc' := 272) (S' := [.inr (.inl (Int32.toInt64 (xs (Int32.toInt (i + 3)).toNat))), .inl (xs (Int32.toInt (i + 2)).toNat), .inl (xs (Int32.toInt (i + 1)).toNat), .inr (.inr (1, 0))]) dL_law_271 rfl (fun _ _ _ => rfl) ?_
      refine zf_bi (v := 32) (pc' := 274) dL_law_272 rfl rfl ?_
      refine zf_in (pc' := 275) (S' := [.inr (.inl ((Int32.toInt64 (xs (Int32.toInt (i + 3)).toNat)) <<< ((Int32.toInt64 32) &&& 63))), .inl (xs (Int32.toInt (i + 2)).toNat), .inl (xs (Int32.toInt (i + 1)).toNat), .inr (.inr (1, 0))]) dL_law_274 rfl (fun _ _ _ => rfl) ?_
      refine zf_ld (pc' := 276) (v := .inr (.inr (5, 0))) dL_law_275 rfl (fun _ _ _ => rfl) rfl rfl rfl ?_
      refine zf_ld (pc' := 277) (v := .inl i) dL_law_276 rfl (fun _ _ _ => rfl) rfl rfl rfl ?_
      refine zf_ic (v := 4) (pc' := 278) dL_law_277 rfl rfl ?_
      refine zf_in (pc' := 279) (S' := [.inl (i + 4), .inr (.inr (5, 0)), .inr (.inl ((Int32.toInt64 (xs (Int32.toInt (i + 3)).toNat)) <<< ((Int32.toInt64 32) &&& 63))), .inl (xs (Int32.toInt (i + 2)).toNat), .inl (xs (Int32.toInt (i + 1)).toNat), .inr (.inr (1, 0))]) dL_law_278 rfl (fun _ _ _ => rfl) ?_
      refine zf_sld (pc' := 280) dL_law_279 rfl (zf_si6 (by rfl : (4 : Int32).toInt = 4) hi0 hi6 hN (by decide)) ?_
      refine zf_in (pc' := 281) (S' := [.inr (.inl (Int32.toInt64 (xs (Int32.toInt (i + 4)).toNat))), .inr (.inl ((Int32.toInt64 (xs (Int32.toInt (i + 3)).toNat)) <<< ((Int32.toInt64 32) &&& 63))), .inl (xs (Int32.toInt (i + 2)).toNat), .inl (xs (Int32.toInt (i + 1)).toNat), .inr (.inr (1, 0))]) dL_law_280 rfl (fun _ _ _ => rfl) ?_
      refine zf_in (pc' := 284) (S' := [.inr (.inl 4294967295), .inr (.inl (Int32.toInt64 (xs (Int32.toInt (i + 4)).toNat))), .inr (.inl ((Int32.toInt64 (xs (Int32.toInt (i + 3)).toNat)) <<< ((Int32.toInt64 32) &&& 63))), .inl (xs (Int32.toInt (i + 2)).toNat), .inl (xs (Int32.toInt (i + 1)).toNat), .inr (.inr (1, 0))]) dL_law_281 rfl (fun _ _ _ => rfl) ?_
      refine zf_in (pc' := 285) (S' := [.inr (.inl ((Int32.toInt64 (xs (Int32.toInt (i + 4)).toNat)) &&& 4294967295)), .inr (.inl ((Int32.toInt64 (xs (Int32.toInt (i + 3)).toNat)) <<< ((Int32.toInt64 32) &&& 63))), .inl (xs (Int32.toInt (i + 2)).toNat), .inl (xs (Int32.toInt (i + 1)).toNat), .inr (.inr (1, 0))]) dL_law_284 rfl (fun _ _ _ => rfl) ?_
      refine zf_in (pc' := 286) (S' := [.inr (.inl (((Int32.toInt64 (xs (Int32.toInt (i + 3)).toNat)) <<< ((Int32.toInt64 32) &&& 63)) ||| ((Int32.toInt64 (xs (Int32.toInt (i + 4)).toNat)) &&& 4294967295))), .inl (xs (Int32.toInt (i + 2)).toNat), .inl (xs (Int32.toInt (i + 1)).toNat), .inr (.inr (1, 0))]) dL_law_285 rfl (fun _ _ _ => rfl) ?_
      refine zf_iv (k := 69) (pc' := 289) (r := []) dL_law_286 rfl rfl rfl rfl (by decide) rfl rfl rfl (zr_69 (by omega) (hk1 m h (xs (Int32.toInt (i + 1)).toNat) (xs (Int32.toInt (i + 2)).toNat) (((Int32.toInt64 (xs (Int32.toInt (i + 3)).toNat)) <<< ((Int32.toInt64 32) &&& 63)) ||| ((Int32.toInt64 (xs (Int32.toInt (i + 4)).toNat)) &&& 4294967295)))) (zf_kI (fun x1 m1 h => ?_))
      refine zf_in (pc' := 290) (S' := []) dL_law_289 rfl (fun _ _ _ => rfl) ?_
      refine zf_ld (pc' := 291) (v := .inr (.inr (1, 63))) dL_law_290 rfl (fun _ _ _ => rfl) rfl rfl rfl ?_
      refine zf_ld (pc' := 292) (v := .inr (.inr (5, 0))) dL_law_291 rfl (fun _ _ _ => rfl) rfl rfl rfl ?_
      refine zf_ld (pc' := 293) (v := .inl i) dL_law_292 rfl (fun _ _ _ => rfl) rfl rfl rfl ?_
      refine zf_ic (v := 1) (pc' := 294) dL_law_293 rfl rfl ?_
      refine zf_in (pc' := 295) (S' := [.inl (i + 1), .inr (.inr (5, 0)), .inr (.inr (1, 63))]) dL_law_294 rfl (fun _ _ _ => rfl) ?_
      refine zf_sld (pc' := 296) dL_law_295 rfl (zf_si6 (by rfl : (1 : Int32).toInt = 1) hi0 hi6 hN (by decide)) ?_
      refine zf_ld (pc' := 297) (v := .inr (.inr (5, 0))) dL_law_296 rfl (fun _ _ _ => rfl) rfl rfl rfl ?_
      refine zf_ld (pc' := 298) (v := .inl i) dL_law_297 rfl (fun _ _ _ => rfl) rfl rfl rfl ?_
      refine zf_ic (v := 2) (pc' := 299) dL_law_298 rfl rfl ?_
      refine zf_in (pc' := 300) (S' := [.inl (i + 2), .inr (.inr (5, 0)), .inl (xs (Int32.toInt (i + 1)).toNat), .inr (.inr (1, 63))]) dL_law_299 rfl (fun _ _ _ => rfl) ?_
      refine zf_sld (pc' := 301) dL_law_300 rfl (zf_si6 (by rfl : (2 : Int32).toInt = 2) hi0 hi6 hN (by decide)) ?_
      refine zf_ld (pc' := 302) (v := .inr (.inr (5, 0))) dL_law_301 rfl (fun _ _ _ => rfl) rfl rfl rfl ?_
      refine zf_ld (pc' := 303) (v := .inl i) dL_law_302 rfl (fun _ _ _ => rfl) rfl rfl rfl ?_
      refine zf_ic (v := 3) (pc' := 304) dL_law_303 rfl rfl ?_
      refine zf_in (pc' := 305) (S' := [.inl (i + 3), .inr (.inr (5, 0)), .inl (xs (Int32.toInt (i + 2)).toNat), .inl (xs (Int32.toInt (i + 1)).toNat), .inr (.inr (1, 63))]) dL_law_304 rfl (fun _ _ _ => rfl) ?_
      refine zf_sld (pc' := 306) dL_law_305 rfl (zf_si6 (by rfl : (3 : Int32).toInt = 3) hi0 hi6 hN (by decide)) ?_
      refine zf_in (pc' := 307) (S' := [.inr (.inl (Int32.toInt64 (xs (Int32.toInt (i + 3)).toNat))), .inl (xs (Int32.toInt (i + 2)).toNat), .inl (xs (Int32.toInt (i + 1)).toNat), .inr (.inr (1, 63))]) dL_law_306 rfl (fun _ _ _ => rfl) ?_
      refine zf_bi (v := 32) (pc' := 309) dL_law_307 rfl rfl ?_
      refine zf_in (pc' := 310) (S' := [.inr (.inl ((Int32.toInt64 (xs (Int32.toInt (i + 3)).toNat)) <<< ((Int32.toInt64 32) &&& 63))), .inl (xs (Int32.toInt (i + 2)).toNat), .inl (xs (Int32.toInt (i + 1)).toNat), .inr (.inr (1, 63))]) dL_law_309 rfl (fun _ _ _ => rfl) ?_
      refine zf_ld (pc' := 311) (v := .inr (.inr (5, 0))) dL_law_310 rfl (fun _ _ _ => rfl) rfl rfl rfl ?_
      refine zf_ld (pc' := 312) (v := .inl i) dL_law_311 rfl (fun _ _ _ => rfl) rfl rfl rfl ?_
      refine zf_ic (v := 4) (pc' := 313) dL_law_312 rfl rfl ?_
      refine zf_in (pc' := 314) (S' := [.inl (i + 4), .inr (.inr (5, 0)), .inr (.inl ((Int32.toInt64 (xs (Int32.toInt (i + 3)).toNat)) <<< ((Int32.toInt64 32) &&& 63))), .inl (xs (Int32.toInt (i + 2)).toNat), .inl (xs (Int32.toInt (i + 1)).toNat), .inr (.inr (1, 63))]) dL_law_313 rfl (fun _ _ _ => rfl) ?_
      refine zf_sld (pc' := 315) dL_law_314 rfl (zf_si6 (by rfl : (4 : Int32).toInt = 4) hi0 hi6 hN (by decide)) ?_
      refine zf_in (pc' := 316) (S' := [.inr (.inl (Int32.toInt64 (xs (Int32.toInt (i + 4)).toNat))), .inr (.inl ((Int32.toInt64 (xs (Int32.toInt (i + 3)).toNat)) <<< ((Int32.toInt64 32) &&& 63))), .inl (xs (Int32.toInt (i + 2)).toNat), .inl (xs (Int32.toInt (i + 1)).toNat), .inr (.inr (1, 63))]) dL_law_315 rfl (fun _ _ _ => rfl) ?_
      refine zf_in (pc' := 319) (S' := [.inr (.inl 4294967295), .inr (.inl (Int32.toInt64 (xs (Int32.toInt (i + 4)).toNat))), .inr (.inl ((Int32.toInt64 (xs (Int32.toInt (i + 3)).toNat)) <<< ((Int32.toInt64 32) &&& 63))), .inl (xs (Int32.toInt (i + 2)).toNat), .inl (xs (Int32.toInt (i + 1)).toNat), .inr (.inr (1, 63))]) dL_law_316 rfl (fun _ _ _ => rfl) ?_
      refine zf_in (pc' := 320) (S' := [.inr (.inl ((Int32.toInt64 (xs (Int32.toInt (i + 4)).toNat)) &&& 4294967295)), .inr (.inl ((Int32.toInt64 (xs (Int32.toInt (i + 3)).toNat)) <<< ((Int32.toInt64 32) &&& 63))), .inl (xs (Int32.toInt (i + 2)).toNat), .inl (xs (Int32.toInt (i + 1)).toNat), .inr (.inr (1, 63))]) dL_law_319 rfl (fun _ _ _ => rfl) ?_
      refine zf_in (pc' := 321) (S' := [.inr (.inl (((Int32.toInt64 (xs (Int32.toInt (i + 3)).toNat)) <<< ((Int32.toInt64 32) &&& 63)) ||| ((Int32.toInt64 (xs (Int32.toInt (i + 4)).toNat)) &&& 4294967295))), .inl (xs (Int32.toInt (i + 2)).toNat), .inl (xs (Int32.toInt (i + 1)).toNat), .inr (.inr (1, 63))]) dL_law_320 rfl (fun _ _ _ => rfl) ?_
      refine zf_iv (k := 131) (pc' := 324) (r := []) dL_law_321 rfl rfl rfl rfl (by decide) rfl rfl rfl (zr_131 (by omega) h) (zf_kI (fun x2 m2 h => ?_))
      refine zf_in (pc' := 325) (S' := []) dL_law_324 rfl (fun _ _ _ => rfl) ?_
      refine zf_goto (tgt := 1411) dL_law_325 rfl ?_
      refine zf_ii (y := i + 6) (L2 := [some (.inr (.inr (5, 0))), some (.inr (.inr (1, 0))), some (.inr (.inr (1, 63))), some (.inl (i + 6))]) (pc' := 1414) dL_law_1411 rfl rfl rfl rfl rfl ?_
      refine zf_goto (tgt := 18) dL_law_1414 rfl ?_
      exact ih (i + 6) m2 (by omega) (by omega) (by omega) h
    · refine zf_ld (pc' := 329) (v := .inr (.inr (1, 0))) dL_law_328 rfl (fun _ _ _ => rfl) rfl rfl rfl ?_
      refine zf_ld (pc' := 330) (v := .inr (.inr (5, 0))) dL_law_329 rfl (fun _ _ _ => rfl) rfl rfl rfl ?_
      refine zf_ld (pc' := 331) (v := .inl i) dL_law_330 rfl (fun _ _ _ => rfl) rfl rfl rfl ?_
      refine zf_ic (v := 1) (pc' := 332) dL_law_331 rfl rfl ?_
      refine zf_in (pc' := 333) (S' := [.inl (i + 1), .inr (.inr (5, 0)), .inr (.inr (1, 0))]) dL_law_332 rfl (fun _ _ _ => rfl) ?_
      refine zf_sld (pc' := 334) dL_law_333 rfl (zf_si6 (by rfl : (1 : Int32).toInt = 1) hi0 hi6 hN (by decide)) ?_
      refine zf_ld (pc' := 335) (v := .inr (.inr (5, 0))) dL_law_334 rfl (fun _ _ _ => rfl) rfl rfl rfl ?_
      refine zf_ld (pc' := 336) (v := .inl i) dL_law_335 rfl (fun _ _ _ => rfl) rfl rfl rfl ?_
      refine zf_ic (v := 2) (pc' := 337) dL_law_336 rfl rfl ?_
      refine zf_in (pc' := 338) (S' := [.inl (i + 2), .inr (.inr (5, 0)), .inl (xs (Int32.toInt (i + 1)).toNat), .inr (.inr (1, 0))]) dL_law_337 rfl (fun _ _ _ => rfl) ?_
      refine zf_sld (pc' := 339) dL_law_338 rfl (zf_si6 (by rfl : (2 : Int32).toInt = 2) hi0 hi6 hN (by decide)) ?_
      refine zf_ld (pc' := 340) (v := .inr (.inr (5, 0))) dL_law_339 rfl (fun _ _ _ => rfl) rfl rfl rfl ?_
      refine zf_ld (pc' := 341) (v := .inl i) dL_law_340 rfl (fun _ _ _ => rfl) rfl rfl rfl ?_
      refine zf_ic (v := 3) (pc' := 342) dL_law_341 rfl rfl ?_
      refine zf_in (pc' := 343) (S' := [.inl (i + 3), .inr (.inr (5, 0)), .inl (xs (Int32.toInt (i + 2)).toNat), .inl (xs (Int32.toInt (i + 1)).toNat), .inr (.inr (1, 0))]) dL_law_342 rfl (fun _ _ _ => rfl) ?_
      refine zf_sld (pc' := 344) dL_law_343 rfl (zf_si6 (by rfl : (3 : Int32).toInt = 3) hi0 hi6 hN (by decide)) ?_
      refine zf_ld (pc' := 345) (v := .inr (.inr (5, 0))) dL_law_344 rfl (fun _ _ _ => rfl) rfl rfl rfl ?_
      refine zf_ld (pc' := 346) (v := .inl i) dL_law_345 rfl (fun _ _ _ => rfl) rfl rfl rfl ?_
      refine zf_ic (v := 4) (pc' := 347) dL_law_346 rfl rfl ?_
      refine zf_in (pc' := 348) (S' := [.inl (i + 4), .inr (.inr (5, 0)), .inl (xs (Int32.toInt (i + 3)).toNat), .inl (xs (Int32.toInt (i + 2)).toNat), .inl (xs (Int32.toInt (i + 1)).toNat), .inr (.inr (1, 0))]) dL_law_347 rfl (fun _ _ _ => rfl) ?_
      refine zf_sld (pc' := 349) dL_law_348 rfl (zf_si6 (by rfl : (4 : Int32).toInt = 4) hi0 hi6 hN (by decide)) ?_
      refine zf_ld (pc' := 350) (v := .inr (.inr (5, 0))) dL_law_349 rfl (fun _ _ _ => rfl) rfl rfl rfl ?_
      refine zf_ld (pc' := 351) (v := .inl i) dL_law_350 rfl (fun _ _ _ => rfl) rfl rfl rfl ?_
      refine zf_ic (v := 5) (pc' := 352) dL_law_351 rfl rfl ?_
      refine zf_in (pc' := 353) (S' := [.inl (i + 5), .inr (.inr (5, 0)), .inl (xs (Int32.toInt (i + 4)).toNat), .inl (xs (Int32.toInt (i + 3)).toNat), .inl (xs (Int32.toInt (i + 2)).toNat), .inl (xs (Int32.toInt (i + 1)).toNat), .inr (.inr (1, 0))]) dL_law_352 rfl (fun _ _ _ => rfl) ?_
      refine zf_sld (pc' := 354) dL_law_353 rfl (zf_si6 (by rfl : (5 : Int32).toInt = 5) hi0 hi6 hN (by decide)) ?_
      refine zf_iv (k := 70) (pc' := 357) (r := []) dL_law_354 rfl rfl rfl rfl (by decide) rfl rfl rfl (zr_70 (by omega) (hk2 m h (xs (Int32.toInt (i + 1)).toNat) (xs (Int32.toInt (i + 2)).toNat) (xs (Int32.toInt (i + 3)).toNat) (xs (Int32.toInt (i + 4)).toNat) (xs (Int32.toInt (i + 5)).toNat))) (zf_kI (fun x1 m1 h => ?_))
      refine zf_in (pc' := 358) (S' := []) dL_law_357 rfl (fun _ _ _ => rfl) ?_
      refine zf_ld (pc' := 359) (v := .inr (.inr (1, 63))) dL_law_358 rfl (fun _ _ _ => rfl) rfl rfl rfl ?_
      refine zf_ld (pc' := 360) (v := .inr (.inr (5, 0))) dL_law_359 rfl (fun _ _ _ => rfl) rfl rfl rfl ?_
      refine zf_ld (pc' := 361) (v := .inl i) dL_law_360 rfl (fun _ _ _ => rfl) rfl rfl rfl ?_
      refine zf_ic (v := 1) (pc' := 362) dL_law_361 rfl rfl ?_
      refine zf_in (pc' := 363) (S' := [.inl (i + 1), .inr (.inr (5, 0)), .inr (.inr (1, 63))]) dL_law_362 rfl (fun _ _ _ => rfl) ?_
      refine zf_sld (pc' := 364) dL_law_363 rfl (zf_si6 (by rfl : (1 : Int32).toInt = 1) hi0 hi6 hN (by decide)) ?_
      refine zf_ld (pc' := 365) (v := .inr (.inr (5, 0))) dL_law_364 rfl (fun _ _ _ => rfl) rfl rfl rfl ?_
      refine zf_ld (pc' := 366) (v := .inl i) dL_law_365 rfl (fun _ _ _ => rfl) rfl rfl rfl ?_
      refine zf_ic (v := 2) (pc' := 367) dL_law_366 rfl rfl ?_
      refine zf_in (pc' := 368) (S' := [.inl (i + 2), .inr (.inr (5, 0)), .inl (xs (Int32.toInt (i + 1)).toNat), .inr (.inr (1, 63))]) dL_law_367 rfl (fun _ _ _ => rfl) ?_
      refine zf_sld (pc' := 369) dL_law_368 rfl (zf_si6 (by rfl : (2 : Int32).toInt = 2) hi0 hi6 hN (by decide)) ?_
      refine zf_ld (pc' := 370) (v := .inr (.inr (5, 0))) dL_law_369 rfl (fun _ _ _ => rfl) rfl rfl rfl ?_
      refine zf_ld (pc' := 371) (v := .inl i) dL_law_370 rfl (fun _ _ _ => rfl) rfl rfl rfl ?_
      refine zf_ic (v := 3) (pc' := 372) dL_law_371 rfl rfl ?_
      refine zf_in (pc' := 373) (S' := [.inl (i + 3), .inr (.inr (5, 0)), .inl (xs (Int32.toInt (i + 2)).toNat), .inl (xs (Int32.toInt (i + 1)).toNat), .inr (.inr (1, 63))]) dL_law_372 rfl (fun _ _ _ => rfl) ?_
      refine zf_sld (pc' := 374) dL_law_373 rfl (zf_si6 (by rfl : (3 : Int32).toInt = 3) hi0 hi6 hN (by decide)) ?_
      refine zf_ld (pc' := 375) (v := .inr (.inr (5, 0))) dL_law_374 rfl (fun _ _ _ => rfl) rfl rfl rfl ?_
      refine zf_ld (pc' := 376) (v := .inl i) dL_law_375 rfl (fun _ _ _ => rfl) rfl rfl rfl ?_
      refine zf_ic (v := 4) (pc' := 377) dL_law_376 rfl rfl ?_
      refine zf_in (pc' := 378) (S' := [.inl (i + 4), .inr (.inr (5, 0)), .inl (xs (Int32.toInt (i + 3)).toNat), .inl (xs (Int32.toInt (i + 2)).toNat), .inl (xs (Int32.toInt (i + 1)).toNat), .inr (.inr (1, 63))]) dL_law_377 rfl (fun _ _ _ => rfl) ?_
      refine zf_sld (pc' := 379) dL_law_378 rfl (zf_si6 (by rfl : (4 : Int32).toInt = 4) hi0 hi6 hN (by decide)) ?_
      refine zf_ld (pc' := 380) (v := .inr (.inr (5, 0))) dL_law_379 rfl (fun _ _ _ => rfl) rfl rfl rfl ?_
      refine zf_ld (pc' := 381) (v := .inl i) dL_law_380 rfl (fun _ _ _ => rfl) rfl rfl rfl ?_
      refine zf_ic (v := 5) (pc' := 382) dL_law_381 rfl rfl ?_
      refine zf_in (pc' := 383) (S' := [.inl (i + 5), .inr (.inr (5, 0)), .inl (xs (Int32.toInt (i + 4)).toNat), .inl (xs (Int32.toInt (i + 3)).toNat), .inl (xs (Int32.toInt (i + 2)).toNat), .inl (xs (Int32.toInt (i + 1)).toNat), .inr (.inr (1, 63))]) dL_law_382 rfl (fun _ _ _ => rfl) ?_
      refine zf_sld (pc' := 384) dL_law_383 rfl (zf_si6 (by rfl : (5 : Int32).toInt = 5) hi0 hi6 hN (by decide)) ?_
      refine zf_iv (k := 132) (pc' := 387) (r := []) dL_law_384 rfl rfl rfl rfl (by decide) rfl rfl rfl (zr_132 (by omega) h) (zf_kI (fun x2 m2 h => ?_))
      refine zf_in (pc' := 388) (S' := []) dL_law_387 rfl (fun _ _ _ => rfl) ?_
      refine zf_goto (tgt := 1411) dL_law_388 rfl ?_
      refine zf_ii (y := i + 6) (L2 := [some (.inr (.inr (5, 0))), some (.inr (.inr (1, 0))), some (.inr (.inr (1, 63))), some (.inl (i + 6))]) (pc' := 1414) dL_law_1411 rfl rfl rfl rfl rfl ?_
      refine zf_goto (tgt := 18) dL_law_1414 rfl ?_
      exact ih (i + 6) m2 (by omega) (by omega) (by omega) h
    · refine zf_ld (pc' := 392) (v := .inr (.inr (1, 0))) dL_law_391 rfl (fun _ _ _ => rfl) rfl rfl rfl ?_
      refine zf_ld (pc' := 393) (v := .inr (.inr (5, 0))) dL_law_392 rfl (fun _ _ _ => rfl) rfl rfl rfl ?_
      refine zf_ld (pc' := 394) (v := .inl i) dL_law_393 rfl (fun _ _ _ => rfl) rfl rfl rfl ?_
      refine zf_ic (v := 1) (pc' := 395) dL_law_394 rfl rfl ?_
      refine zf_in (pc' := 396) (S' := [.inl (i + 1), .inr (.inr (5, 0)), .inr (.inr (1, 0))]) dL_law_395 rfl (fun _ _ _ => rfl) ?_
      refine zf_sld (pc' := 397) dL_law_396 rfl (zf_si6 (by rfl : (1 : Int32).toInt = 1) hi0 hi6 hN (by decide)) ?_
      refine zf_ld (pc' := 398) (v := .inr (.inr (5, 0))) dL_law_397 rfl (fun _ _ _ => rfl) rfl rfl rfl ?_
      refine zf_ld (pc' := 399) (v := .inl i) dL_law_398 rfl (fun _ _ _ => rfl) rfl rfl rfl ?_
      refine zf_ic (v := 2) (pc' := 400) dL_law_399 rfl rfl ?_
      refine zf_in (pc' := 401) (S' := [.inl (i + 2), .inr (.inr (5, 0)), .inl (xs (Int32.toInt (i + 1)).toNat), .inr (.inr (1, 0))]) dL_law_400 rfl (fun _ _ _ => rfl) ?_
      refine zf_sld (pc' := 402) dL_law_401 rfl (zf_si6 (by rfl : (2 : Int32).toInt = 2) hi0 hi6 hN (by decide)) ?_
      refine zf_iv (k := 71) (pc' := 405) (r := []) dL_law_402 rfl rfl rfl rfl (by decide) rfl rfl rfl (zr_71 (by omega) (hk3 m h (xs (Int32.toInt (i + 1)).toNat) (xs (Int32.toInt (i + 2)).toNat))) (zf_kJ (fun x1 m1 h => ?_))
      refine zf_in (pc' := 406) (S' := []) dL_law_405 rfl (fun _ _ _ => rfl) ?_
      refine zf_ld (pc' := 407) (v := .inr (.inr (1, 63))) dL_law_406 rfl (fun _ _ _ => rfl) rfl rfl rfl ?_
      refine zf_ld (pc' := 408) (v := .inr (.inr (5, 0))) dL_law_407 rfl (fun _ _ _ => rfl) rfl rfl rfl ?_
      refine zf_ld (pc' := 409) (v := .inl i) dL_law_408 rfl (fun _ _ _ => rfl) rfl rfl rfl ?_
      refine zf_ic (v := 1) (pc' := 410) dL_law_409 rfl rfl ?_
      refine zf_in (pc' := 411) (S' := [.inl (i + 1), .inr (.inr (5, 0)), .inr (.inr (1, 63))]) dL_law_410 rfl (fun _ _ _ => rfl) ?_
      refine zf_sld (pc' := 412) dL_law_411 rfl (zf_si6 (by rfl : (1 : Int32).toInt = 1) hi0 hi6 hN (by decide)) ?_
      refine zf_ld (pc' := 413) (v := .inr (.inr (5, 0))) dL_law_412 rfl (fun _ _ _ => rfl) rfl rfl rfl ?_
      refine zf_ld (pc' := 414) (v := .inl i) dL_law_413 rfl (fun _ _ _ => rfl) rfl rfl rfl ?_
      refine zf_ic (v := 2) (pc' := 415) dL_law_414 rfl rfl ?_
      refine zf_in (pc' := 416) (S' := [.inl (i + 2), .inr (.inr (5, 0)), .inl (xs (Int32.toInt (i + 1)).toNat), .inr (.inr (1, 63))]) dL_law_415 rfl (fun _ _ _ => rfl) ?_
      refine zf_sld (pc' := 417) dL_law_416 rfl (zf_si6 (by rfl : (2 : Int32).toInt = 2) hi0 hi6 hN (by decide)) ?_
      refine zf_iv (k := 133) (pc' := 420) (r := []) dL_law_417 rfl rfl rfl rfl (by decide) rfl rfl rfl (zr_133 (by omega) h) (zf_kJ (fun x2 m2 h => ?_))
      refine zf_in (pc' := 421) (S' := []) dL_law_420 rfl (fun _ _ _ => rfl) ?_
      refine zf_goto (tgt := 1411) dL_law_421 rfl ?_
      refine zf_ii (y := i + 6) (L2 := [some (.inr (.inr (5, 0))), some (.inr (.inr (1, 0))), some (.inr (.inr (1, 63))), some (.inl (i + 6))]) (pc' := 1414) dL_law_1411 rfl rfl rfl rfl rfl ?_
      refine zf_goto (tgt := 18) dL_law_1414 rfl ?_
      exact ih (i + 6) m2 (by omega) (by omega) (by omega) h
    · refine zf_ld (pc' := 425) (v := .inr (.inr (1, 0))) dL_law_424 rfl (fun _ _ _ => rfl) rfl rfl rfl ?_
      refine zf_ld (pc' := 426) (v := .inr (.inr (5, 0))) dL_law_425 rfl (fun _ _ _ => rfl) rfl rfl rfl ?_
      refine zf_ld (pc' := 427) (v := .inl i) dL_law_426 rfl (fun _ _ _ => rfl) rfl rfl rfl ?_
      refine zf_ic (v := 1) (pc' := 428) dL_law_427 rfl rfl ?_
      refine zf_in (pc' := 429) (S' := [.inl (i + 1), .inr (.inr (5, 0)), .inr (.inr (1, 0))]) dL_law_428 rfl (fun _ _ _ => rfl) ?_
      refine zf_sld (pc' := 430) dL_law_429 rfl (zf_si6 (by rfl : (1 : Int32).toInt = 1) hi0 hi6 hN (by decide)) ?_
      refine zf_ld (pc' := 431) (v := .inr (.inr (5, 0))) dL_law_430 rfl (fun _ _ _ => rfl) rfl rfl rfl ?_
      refine zf_ld (pc' := 432) (v := .inl i) dL_law_431 rfl (fun _ _ _ => rfl) rfl rfl rfl ?_
      refine zf_ic (v := 2) (pc' := 433) dL_law_432 rfl rfl ?_
      refine zf_in (pc' := 434) (S' := [.inl (i + 2), .inr (.inr (5, 0)), .inl (xs (Int32.toInt (i + 1)).toNat), .inr (.inr (1, 0))]) dL_law_433 rfl (fun _ _ _ => rfl) ?_
      refine zf_sld (pc' := 435) dL_law_434 rfl (zf_si6 (by rfl : (2 : Int32).toInt = 2) hi0 hi6 hN (by decide)) ?_
      refine zf_iv (k := 72) (pc' := 438) (r := []) dL_law_435 rfl rfl rfl rfl (by decide) rfl rfl rfl (zr_72 (by omega) (hk4 m h (xs (Int32.toInt (i + 1)).toNat) (xs (Int32.toInt (i + 2)).toNat))) (zf_kI (fun x1 m1 h => ?_))
      refine zf_in (pc' := 439) (S' := []) dL_law_438 rfl (fun _ _ _ => rfl) ?_
      refine zf_ld (pc' := 440) (v := .inr (.inr (1, 63))) dL_law_439 rfl (fun _ _ _ => rfl) rfl rfl rfl ?_
      refine zf_ld (pc' := 441) (v := .inr (.inr (5, 0))) dL_law_440 rfl (fun _ _ _ => rfl) rfl rfl rfl ?_
      refine zf_ld (pc' := 442) (v := .inl i) dL_law_441 rfl (fun _ _ _ => rfl) rfl rfl rfl ?_
      refine zf_ic (v := 1) (pc' := 443) dL_law_442 rfl rfl ?_
      refine zf_in (pc' := 444) (S' := [.inl (i + 1), .inr (.inr (5, 0)), .inr (.inr (1, 63))]) dL_law_443 rfl (fun _ _ _ => rfl) ?_
      refine zf_sld (pc' := 445) dL_law_444 rfl (zf_si6 (by rfl : (1 : Int32).toInt = 1) hi0 hi6 hN (by decide)) ?_
      refine zf_ld (pc' := 446) (v := .inr (.inr (5, 0))) dL_law_445 rfl (fun _ _ _ => rfl) rfl rfl rfl ?_
      refine zf_ld (pc' := 447) (v := .inl i) dL_law_446 rfl (fun _ _ _ => rfl) rfl rfl rfl ?_
      refine zf_ic (v := 2) (pc' := 448) dL_law_447 rfl rfl ?_
      refine zf_in (pc' := 449) (S' := [.inl (i + 2), .inr (.inr (5, 0)), .inl (xs (Int32.toInt (i + 1)).toNat), .inr (.inr (1, 63))]) dL_law_448 rfl (fun _ _ _ => rfl) ?_
      refine zf_sld (pc' := 450) dL_law_449 rfl (zf_si6 (by rfl : (2 : Int32).toInt = 2) hi0 hi6 hN (by decide)) ?_
      refine zf_iv (k := 134) (pc' := 453) (r := []) dL_law_450 rfl rfl rfl rfl (by decide) rfl rfl rfl (zr_134 (by omega) h) (zf_kI (fun x2 m2 h => ?_))
      refine zf_in (pc' := 454) (S' := []) dL_law_453 rfl (fun _ _ _ => rfl) ?_
      refine zf_goto (tgt := 1411) dL_law_454 rfl ?_
      refine zf_ii (y := i + 6) (L2 := [some (.inr (.inr (5, 0))), some (.inr (.inr (1, 0))), some (.inr (.inr (1, 63))), some (.inl (i + 6))]) (pc' := 1414) dL_law_1411 rfl rfl rfl rfl rfl ?_
      refine zf_goto (tgt := 18) dL_law_1414 rfl ?_
      exact ih (i + 6) m2 (by omega) (by omega) (by omega) h
    · refine zf_ld (pc' := 458) (v := .inr (.inr (1, 0))) dL_law_457 rfl (fun _ _ _ => rfl) rfl rfl rfl ?_
      refine zf_ld (pc' := 459) (v := .inr (.inr (5, 0))) dL_law_458 rfl (fun _ _ _ => rfl) rfl rfl rfl ?_
      refine zf_ld (pc' := 460) (v := .inl i) dL_law_459 rfl (fun _ _ _ => rfl) rfl rfl rfl ?_
      refine zf_ic (v := 1) (pc' := 461) dL_law_460 rfl rfl ?_
      refine zf_in (pc' := 462) (S' := [.inl (i + 1), .inr (.inr (5, 0)), .inr (.inr (1, 0))]) dL_law_461 rfl (fun _ _ _ => rfl) ?_
      refine zf_sld (pc' := 463) dL_law_462 rfl (zf_si6 (by rfl : (1 : Int32).toInt = 1) hi0 hi6 hN (by decide)) ?_
      refine zf_iv (k := 73) (pc' := 466) (r := []) dL_law_463 rfl rfl rfl rfl (by decide) rfl rfl rfl (zr_73 (by omega) (hk5 m h (xs (Int32.toInt (i + 1)).toNat))) (zf_kI (fun x1 m1 h => ?_))
      refine zf_in (pc' := 467) (S' := []) dL_law_466 rfl (fun _ _ _ => rfl) ?_
      refine zf_ld (pc' := 468) (v := .inr (.inr (1, 63))) dL_law_467 rfl (fun _ _ _ => rfl) rfl rfl rfl ?_
      refine zf_ld (pc' := 469) (v := .inr (.inr (5, 0))) dL_law_468 rfl (fun _ _ _ => rfl) rfl rfl rfl ?_
      refine zf_ld (pc' := 470) (v := .inl i) dL_law_469 rfl (fun _ _ _ => rfl) rfl rfl rfl ?_
      refine zf_ic (v := 1) (pc' := 471) dL_law_470 rfl rfl ?_
      refine zf_in (pc' := 472) (S' := [.inl (i + 1), .inr (.inr (5, 0)), .inr (.inr (1, 63))]) dL_law_471 rfl (fun _ _ _ => rfl) ?_
      refine zf_sld (pc' := 473) dL_law_472 rfl (zf_si6 (by rfl : (1 : Int32).toInt = 1) hi0 hi6 hN (by decide)) ?_
      refine zf_iv (k := 135) (pc' := 476) (r := []) dL_law_473 rfl rfl rfl rfl (by decide) rfl rfl rfl (zr_135 (by omega) h) (zf_kI (fun x2 m2 h => ?_))
      refine zf_in (pc' := 477) (S' := []) dL_law_476 rfl (fun _ _ _ => rfl) ?_
      refine zf_goto (tgt := 1411) dL_law_477 rfl ?_
      refine zf_ii (y := i + 6) (L2 := [some (.inr (.inr (5, 0))), some (.inr (.inr (1, 0))), some (.inr (.inr (1, 63))), some (.inl (i + 6))]) (pc' := 1414) dL_law_1411 rfl rfl rfl rfl rfl ?_
      refine zf_goto (tgt := 18) dL_law_1414 rfl ?_
      exact ih (i + 6) m2 (by omega) (by omega) (by omega) h
    · refine zf_ld (pc' := 481) (v := .inr (.inr (1, 0))) dL_law_480 rfl (fun _ _ _ => rfl) rfl rfl rfl ?_
      refine zf_ld (pc' := 482) (v := .inr (.inr (5, 0))) dL_law_481 rfl (fun _ _ _ => rfl) rfl rfl rfl ?_
      refine zf_ld (pc' := 483) (v := .inl i) dL_law_482 rfl (fun _ _ _ => rfl) rfl rfl rfl ?_
      refine zf_ic (v := 1) (pc' := 484) dL_law_483 rfl rfl ?_
      refine zf_in (pc' := 485) (S' := [.inl (i + 1), .inr (.inr (5, 0)), .inr (.inr (1, 0))]) dL_law_484 rfl (fun _ _ _ => rfl) ?_
      refine zf_sld (pc' := 486) dL_law_485 rfl (zf_si6 (by rfl : (1 : Int32).toInt = 1) hi0 hi6 hN (by decide)) ?_
      refine zf_ld (pc' := 487) (v := .inr (.inr (5, 0))) dL_law_486 rfl (fun _ _ _ => rfl) rfl rfl rfl ?_
      refine zf_ld (pc' := 488) (v := .inl i) dL_law_487 rfl (fun _ _ _ => rfl) rfl rfl rfl ?_
      refine zf_ic (v := 2) (pc' := 489) dL_law_488 rfl rfl ?_
      refine zf_in (pc' := 490) (S' := [.inl (i + 2), .inr (.inr (5, 0)), .inl (xs (Int32.toInt (i + 1)).toNat), .inr (.inr (1, 0))]) dL_law_489 rfl (fun _ _ _ => rfl) ?_
      refine zf_sld (pc' := 491) dL_law_490 rfl (zf_si6 (by rfl : (2 : Int32).toInt = 2) hi0 hi6 hN (by decide)) ?_
      refine zf_iv (k := 74) (pc' := 494) (r := []) dL_law_491 rfl rfl rfl rfl (by decide) rfl rfl rfl (zr_74 (by omega) (hk6 m h (xs (Int32.toInt (i + 1)).toNat) (xs (Int32.toInt (i + 2)).toNat))) (zf_kI (fun x1 m1 h => ?_))
      refine zf_in (pc' := 495) (S' := []) dL_law_494 rfl (fun _ _ _ => rfl) ?_
      refine zf_ld (pc' := 496) (v := .inr (.inr (1, 63))) dL_law_495 rfl (fun _ _ _ => rfl) rfl rfl rfl ?_
      refine zf_ld (pc' := 497) (v := .inr (.inr (5, 0))) dL_law_496 rfl (fun _ _ _ => rfl) rfl rfl rfl ?_
      refine zf_ld (pc' := 498) (v := .inl i) dL_law_497 rfl (fun _ _ _ => rfl) rfl rfl rfl ?_
      refine zf_ic (v := 1) (pc' := 499) dL_law_498 rfl rfl ?_
      refine zf_in (pc' := 500) (S' := [.inl (i + 1), .inr (.inr (5, 0)), .inr (.inr (1, 63))]) dL_law_499 rfl (fun _ _ _ => rfl) ?_
      refine zf_sld (pc' := 501) dL_law_500 rfl (zf_si6 (by rfl : (1 : Int32).toInt = 1) hi0 hi6 hN (by decide)) ?_
      refine zf_ld (pc' := 502) (v := .inr (.inr (5, 0))) dL_law_501 rfl (fun _ _ _ => rfl) rfl rfl rfl ?_
      refine zf_ld (pc' := 503) (v := .inl i) dL_law_502 rfl (fun _ _ _ => rfl) rfl rfl rfl ?_
      refine zf_ic (v := 2) (pc' := 504) dL_law_503 rfl rfl ?_
      refine zf_in (pc' := 505) (S' := [.inl (i + 2), .inr (.inr (5, 0)), .inl (xs (Int32.toInt (i + 1)).toNat), .inr (.inr (1, 63))]) dL_law_504 rfl (fun _ _ _ => rfl) ?_
      refine zf_sld (pc' := 506) dL_law_505 rfl (zf_si6 (by rfl : (2 : Int32).toInt = 2) hi0 hi6 hN (by decide)) ?_
      refine zf_iv (k := 136) (pc' := 509) (r := []) dL_law_506 rfl rfl rfl rfl (by decide) rfl rfl rfl (zr_136 (by omega) h) (zf_kI (fun x2 m2 h => ?_))
      refine zf_in (pc' := 510) (S' := []) dL_law_509 rfl (fun _ _ _ => rfl) ?_
      refine zf_goto (tgt := 1411) dL_law_510 rfl ?_
      refine zf_ii (y := i + 6) (L2 := [some (.inr (.inr (5, 0))), some (.inr (.inr (1, 0))), some (.inr (.inr (1, 63))), some (.inl (i + 6))]) (pc' := 1414) dL_law_1411 rfl rfl rfl rfl rfl ?_
      refine zf_goto (tgt := 18) dL_law_1414 rfl ?_
      exact ih (i + 6) m2 (by omega) (by omega) (by omega) h
    · refine zf_ld (pc' := 514) (v := .inr (.inr (1, 0))) dL_law_513 rfl (fun _ _ _ => rfl) rfl rfl rfl ?_
      refine zf_ld (pc' := 515) (v := .inr (.inr (5, 0))) dL_law_514 rfl (fun _ _ _ => rfl) rfl rfl rfl ?_
      refine zf_ld (pc' := 516) (v := .inl i) dL_law_515 rfl (fun _ _ _ => rfl) rfl rfl rfl ?_
      refine zf_ic (v := 1) (pc' := 517) dL_law_516 rfl rfl ?_
      refine zf_in (pc' := 518) (S' := [.inl (i + 1), .inr (.inr (5, 0)), .inr (.inr (1, 0))]) dL_law_517 rfl (fun _ _ _ => rfl) ?_
      refine zf_sld (pc' := 519) dL_law_518 rfl (zf_si6 (by rfl : (1 : Int32).toInt = 1) hi0 hi6 hN (by decide)) ?_
      refine zf_ld (pc' := 520) (v := .inr (.inr (5, 0))) dL_law_519 rfl (fun _ _ _ => rfl) rfl rfl rfl ?_
      refine zf_ld (pc' := 521) (v := .inl i) dL_law_520 rfl (fun _ _ _ => rfl) rfl rfl rfl ?_
      refine zf_ic (v := 2) (pc' := 522) dL_law_521 rfl rfl ?_
      refine zf_in (pc' := 523) (S' := [.inl (i + 2), .inr (.inr (5, 0)), .inl (xs (Int32.toInt (i + 1)).toNat), .inr (.inr (1, 0))]) dL_law_522 rfl (fun _ _ _ => rfl) ?_
      refine zf_sld (pc' := 524) dL_law_523 rfl (zf_si6 (by rfl : (2 : Int32).toInt = 2) hi0 hi6 hN (by decide)) ?_
      refine zf_if_eq (tgt := 531) (pc' := 527) dL_law_524 rfl rfl (fun gz => ?_) (fun gz => ?_)
      · refine zf_ic (v := 0) (pc' := 532) dL_law_531 rfl rfl ?_
        refine zf_iv (k := 75) (pc' := 535) (r := []) dL_law_532 rfl rfl rfl rfl (by decide) rfl rfl rfl (zr_75 (by omega) (hk7 m h (xs (Int32.toInt (i + 1)).toNat) 0 (by decide))) (zf_kI (fun x1 m1 h => ?_))
        refine zf_in (pc' := 536) (S' := []) dL_law_535 rfl (fun _ _ _ => rfl) ?_
        refine zf_ld (pc' := 537) (v := .inr (.inr (1, 63))) dL_law_536 rfl (fun _ _ _ => rfl) rfl rfl rfl ?_
        refine zf_ld (pc' := 538) (v := .inr (.inr (5, 0))) dL_law_537 rfl (fun _ _ _ => rfl) rfl rfl rfl ?_
        refine zf_ld (pc' := 539) (v := .inl i) dL_law_538 rfl (fun _ _ _ => rfl) rfl rfl rfl ?_
        refine zf_ic (v := 1) (pc' := 540) dL_law_539 rfl rfl ?_
        refine zf_in (pc' := 541) (S' := [.inl (i + 1), .inr (.inr (5, 0)), .inr (.inr (1, 63))]) dL_law_540 rfl (fun _ _ _ => rfl) ?_
        refine zf_sld (pc' := 542) dL_law_541 rfl (zf_si6 (by rfl : (1 : Int32).toInt = 1) hi0 hi6 hN (by decide)) ?_
        refine zf_ld (pc' := 543) (v := .inr (.inr (5, 0))) dL_law_542 rfl (fun _ _ _ => rfl) rfl rfl rfl ?_
        refine zf_ld (pc' := 544) (v := .inl i) dL_law_543 rfl (fun _ _ _ => rfl) rfl rfl rfl ?_
        refine zf_ic (v := 2) (pc' := 545) dL_law_544 rfl rfl ?_
        refine zf_in (pc' := 546) (S' := [.inl (i + 2), .inr (.inr (5, 0)), .inl (xs (Int32.toInt (i + 1)).toNat), .inr (.inr (1, 63))]) dL_law_545 rfl (fun _ _ _ => rfl) ?_
        refine zf_sld (pc' := 547) dL_law_546 rfl (zf_si6 (by rfl : (2 : Int32).toInt = 2) hi0 hi6 hN (by decide)) ?_
        refine zf_if_eq (tgt := 554) (pc' := 550) dL_law_547 rfl rfl (fun _ => ?_) (fun g => absurd gz g)
        refine zf_ic (v := 0) (pc' := 555) dL_law_554 rfl rfl ?_
        refine zf_iv (k := 142) (pc' := 558) (r := []) dL_law_555 rfl rfl rfl rfl (by decide) rfl rfl rfl (zr_142 (by omega) h) (zf_kI (fun x2 m2 h => ?_))
        refine zf_in (pc' := 559) (S' := []) dL_law_558 rfl (fun _ _ _ => rfl) ?_
        refine zf_goto (tgt := 1411) dL_law_559 rfl ?_
        refine zf_ii (y := i + 6) (L2 := [some (.inr (.inr (5, 0))), some (.inr (.inr (1, 0))), some (.inr (.inr (1, 63))), some (.inl (i + 6))]) (pc' := 1414) dL_law_1411 rfl rfl rfl rfl rfl ?_
        refine zf_goto (tgt := 18) dL_law_1414 rfl ?_
        exact ih (i + 6) m2 (by omega) (by omega) (by omega) h
      · refine zf_ic (v := 1) (pc' := 528) dL_law_527 rfl rfl ?_
        refine zf_goto (tgt := 532) dL_law_528 rfl ?_
        refine zf_iv (k := 75) (pc' := 535) (r := []) dL_law_532 rfl rfl rfl rfl (by decide) rfl rfl rfl (zr_75 (by omega) (hk7 m h (xs (Int32.toInt (i + 1)).toNat) 1 (by decide))) (zf_kI (fun x3 m3 h => ?_))
        refine zf_in (pc' := 536) (S' := []) dL_law_535 rfl (fun _ _ _ => rfl) ?_
        refine zf_ld (pc' := 537) (v := .inr (.inr (1, 63))) dL_law_536 rfl (fun _ _ _ => rfl) rfl rfl rfl ?_
        refine zf_ld (pc' := 538) (v := .inr (.inr (5, 0))) dL_law_537 rfl (fun _ _ _ => rfl) rfl rfl rfl ?_
        refine zf_ld (pc' := 539) (v := .inl i) dL_law_538 rfl (fun _ _ _ => rfl) rfl rfl rfl ?_
        refine zf_ic (v := 1) (pc' := 540) dL_law_539 rfl rfl ?_
        refine zf_in (pc' := 541) (S' := [.inl (i + 1), .inr (.inr (5, 0)), .inr (.inr (1, 63))]) dL_law_540 rfl (fun _ _ _ => rfl) ?_
        refine zf_sld (pc' := 542) dL_law_541 rfl (zf_si6 (by rfl : (1 : Int32).toInt = 1) hi0 hi6 hN (by decide)) ?_
        refine zf_ld (pc' := 543) (v := .inr (.inr (5, 0))) dL_law_542 rfl (fun _ _ _ => rfl) rfl rfl rfl ?_
        refine zf_ld (pc' := 544) (v := .inl i) dL_law_543 rfl (fun _ _ _ => rfl) rfl rfl rfl ?_
        refine zf_ic (v := 2) (pc' := 545) dL_law_544 rfl rfl ?_
        refine zf_in (pc' := 546) (S' := [.inl (i + 2), .inr (.inr (5, 0)), .inl (xs (Int32.toInt (i + 1)).toNat), .inr (.inr (1, 63))]) dL_law_545 rfl (fun _ _ _ => rfl) ?_
        refine zf_sld (pc' := 547) dL_law_546 rfl (zf_si6 (by rfl : (2 : Int32).toInt = 2) hi0 hi6 hN (by decide)) ?_
        refine zf_if_eq (tgt := 554) (pc' := 550) dL_law_547 rfl rfl (fun g => absurd g gz) (fun _ => ?_)
        refine zf_ic (v := 1) (pc' := 551) dL_law_550 rfl rfl ?_
        refine zf_goto (tgt := 555) dL_law_551 rfl ?_
        refine zf_iv (k := 142) (pc' := 558) (r := []) dL_law_555 rfl rfl rfl rfl (by decide) rfl rfl rfl (zr_142 (by omega) h) (zf_kI (fun x4 m4 h => ?_))
        refine zf_in (pc' := 559) (S' := []) dL_law_558 rfl (fun _ _ _ => rfl) ?_
        refine zf_goto (tgt := 1411) dL_law_559 rfl ?_
        refine zf_ii (y := i + 6) (L2 := [some (.inr (.inr (5, 0))), some (.inr (.inr (1, 0))), some (.inr (.inr (1, 63))), some (.inl (i + 6))]) (pc' := 1414) dL_law_1411 rfl rfl rfl rfl rfl ?_
        refine zf_goto (tgt := 18) dL_law_1414 rfl ?_
        exact ih (i + 6) m4 (by omega) (by omega) (by omega) h
    · refine zf_ld (pc' := 563) (v := .inr (.inr (1, 0))) dL_law_562 rfl (fun _ _ _ => rfl) rfl rfl rfl ?_
      refine zf_ld (pc' := 564) (v := .inr (.inr (5, 0))) dL_law_563 rfl (fun _ _ _ => rfl) rfl rfl rfl ?_
      refine zf_ld (pc' := 565) (v := .inl i) dL_law_564 rfl (fun _ _ _ => rfl) rfl rfl rfl ?_
      refine zf_ic (v := 1) (pc' := 566) dL_law_565 rfl rfl ?_
      refine zf_in (pc' := 567) (S' := [.inl (i + 1), .inr (.inr (5, 0)), .inr (.inr (1, 0))]) dL_law_566 rfl (fun _ _ _ => rfl) ?_
      refine zf_sld (pc' := 568) dL_law_567 rfl (zf_si6 (by rfl : (1 : Int32).toInt = 1) hi0 hi6 hN (by decide)) ?_
      refine zf_ld (pc' := 569) (v := .inr (.inr (5, 0))) dL_law_568 rfl (fun _ _ _ => rfl) rfl rfl rfl ?_
      refine zf_ld (pc' := 570) (v := .inl i) dL_law_569 rfl (fun _ _ _ => rfl) rfl rfl rfl ?_
      refine zf_ic (v := 2) (pc' := 571) dL_law_570 rfl rfl ?_
      refine zf_in (pc' := 572) (S' := [.inl (i + 2), .inr (.inr (5, 0)), .inl (xs (Int32.toInt (i + 1)).toNat), .inr (.inr (1, 0))]) dL_law_571 rfl (fun _ _ _ => rfl) ?_
      refine zf_sld (pc' := 573) dL_law_572 rfl (zf_si6 (by rfl : (2 : Int32).toInt = 2) hi0 hi6 hN (by decide)) ?_
      refine zf_iv (k := 76) (pc' := 576) (r := []) dL_law_573 rfl rfl rfl rfl (by decide) rfl rfl rfl (zr_76 (by omega) (hk8 m h (xs (Int32.toInt (i + 1)).toNat) (xs (Int32.toInt (i + 2)).toNat))) (zf_kI (fun x1 m1 h => ?_))
      refine zf_in (pc' := 577) (S' := []) dL_law_576 rfl (fun _ _ _ => rfl) ?_
      refine zf_ld (pc' := 578) (v := .inr (.inr (1, 63))) dL_law_577 rfl (fun _ _ _ => rfl) rfl rfl rfl ?_
      refine zf_ld (pc' := 579) (v := .inr (.inr (5, 0))) dL_law_578 rfl (fun _ _ _ => rfl) rfl rfl rfl ?_
      refine zf_ld (pc' := 580) (v := .inl i) dL_law_579 rfl (fun _ _ _ => rfl) rfl rfl rfl ?_
      refine zf_ic (v := 1) (pc' := 581) dL_law_580 rfl rfl ?_
      refine zf_in (pc' := 582) (S' := [.inl (i + 1), .inr (.inr (5, 0)), .inr (.inr (1, 63))]) dL_law_581 rfl (fun _ _ _ => rfl) ?_
      refine zf_sld (pc' := 583) dL_law_582 rfl (zf_si6 (by rfl : (1 : Int32).toInt = 1) hi0 hi6 hN (by decide)) ?_
      refine zf_ld (pc' := 584) (v := .inr (.inr (5, 0))) dL_law_583 rfl (fun _ _ _ => rfl) rfl rfl rfl ?_
      refine zf_ld (pc' := 585) (v := .inl i) dL_law_584 rfl (fun _ _ _ => rfl) rfl rfl rfl ?_
      refine zf_ic (v := 2) (pc' := 586) dL_law_585 rfl rfl ?_
      refine zf_in (pc' := 587) (S' := [.inl (i + 2), .inr (.inr (5, 0)), .inl (xs (Int32.toInt (i + 1)).toNat), .inr (.inr (1, 63))]) dL_law_586 rfl (fun _ _ _ => rfl) ?_
      refine zf_sld (pc' := 588) dL_law_587 rfl (zf_si6 (by rfl : (2 : Int32).toInt = 2) hi0 hi6 hN (by decide)) ?_
      refine zf_iv (k := 143) (pc' := 591) (r := []) dL_law_588 rfl rfl rfl rfl (by decide) rfl rfl rfl (zr_143 (by omega) h) (zf_kI (fun x2 m2 h => ?_))
      refine zf_in (pc' := 592) (S' := []) dL_law_591 rfl (fun _ _ _ => rfl) ?_
      refine zf_goto (tgt := 1411) dL_law_592 rfl ?_
      refine zf_ii (y := i + 6) (L2 := [some (.inr (.inr (5, 0))), some (.inr (.inr (1, 0))), some (.inr (.inr (1, 63))), some (.inl (i + 6))]) (pc' := 1414) dL_law_1411 rfl rfl rfl rfl rfl ?_
      refine zf_goto (tgt := 18) dL_law_1414 rfl ?_
      exact ih (i + 6) m2 (by omega) (by omega) (by omega) h
    · refine zf_ld (pc' := 596) (v := .inr (.inr (1, 0))) dL_law_595 rfl (fun _ _ _ => rfl) rfl rfl rfl ?_
      refine zf_ld (pc' := 597) (v := .inr (.inr (5, 0))) dL_law_596 rfl (fun _ _ _ => rfl) rfl rfl rfl ?_
      refine zf_ld (pc' := 598) (v := .inl i) dL_law_597 rfl (fun _ _ _ => rfl) rfl rfl rfl ?_
      refine zf_ic (v := 1) (pc' := 599) dL_law_598 rfl rfl ?_
      refine zf_in (pc' := 600) (S' := [.inl (i + 1), .inr (.inr (5, 0)), .inr (.inr (1, 0))]) dL_law_599 rfl (fun _ _ _ => rfl) ?_
      refine zf_sld (pc' := 601) dL_law_600 rfl (zf_si6 (by rfl : (1 : Int32).toInt = 1) hi0 hi6 hN (by decide)) ?_
      refine zf_ld (pc' := 602) (v := .inr (.inr (5, 0))) dL_law_601 rfl (fun _ _ _ => rfl) rfl rfl rfl ?_
      refine zf_ld (pc' := 603) (v := .inl i) dL_law_602 rfl (fun _ _ _ => rfl) rfl rfl rfl ?_
      refine zf_ic (v := 2) (pc' := 604) dL_law_603 rfl rfl ?_
      refine zf_in (pc' := 605) (S' := [.inl (i + 2), .inr (.inr (5, 0)), .inl (xs (Int32.toInt (i + 1)).toNat), .inr (.inr (1, 0))]) dL_law_604 rfl (fun _ _ _ => rfl) ?_
      refine zf_sld (pc' := 606) dL_law_605 rfl (zf_si6 (by rfl : (2 : Int32).toInt = 2) hi0 hi6 hN (by decide)) ?_
      refine zf_iv (k := 77) (pc' := 609) (r := []) dL_law_606 rfl rfl rfl rfl (by decide) rfl rfl rfl (zr_77 (by omega) (hk9 m h (xs (Int32.toInt (i + 1)).toNat) (xs (Int32.toInt (i + 2)).toNat))) (zf_kI (fun x1 m1 h => ?_))
      refine zf_in (pc' := 610) (S' := []) dL_law_609 rfl (fun _ _ _ => rfl) ?_
      refine zf_ld (pc' := 611) (v := .inr (.inr (1, 63))) dL_law_610 rfl (fun _ _ _ => rfl) rfl rfl rfl ?_
      refine zf_ld (pc' := 612) (v := .inr (.inr (5, 0))) dL_law_611 rfl (fun _ _ _ => rfl) rfl rfl rfl ?_
      refine zf_ld (pc' := 613) (v := .inl i) dL_law_612 rfl (fun _ _ _ => rfl) rfl rfl rfl ?_
      refine zf_ic (v := 1) (pc' := 614) dL_law_613 rfl rfl ?_
      refine zf_in (pc' := 615) (S' := [.inl (i + 1), .inr (.inr (5, 0)), .inr (.inr (1, 63))]) dL_law_614 rfl (fun _ _ _ => rfl) ?_
      refine zf_sld (pc' := 616) dL_law_615 rfl (zf_si6 (by rfl : (1 : Int32).toInt = 1) hi0 hi6 hN (by decide)) ?_
      refine zf_ld (pc' := 617) (v := .inr (.inr (5, 0))) dL_law_616 rfl (fun _ _ _ => rfl) rfl rfl rfl ?_
      refine zf_ld (pc' := 618) (v := .inl i) dL_law_617 rfl (fun _ _ _ => rfl) rfl rfl rfl ?_
      refine zf_ic (v := 2) (pc' := 619) dL_law_618 rfl rfl ?_
      refine zf_in (pc' := 620) (S' := [.inl (i + 2), .inr (.inr (5, 0)), .inl (xs (Int32.toInt (i + 1)).toNat), .inr (.inr (1, 63))]) dL_law_619 rfl (fun _ _ _ => rfl) ?_
      refine zf_sld (pc' := 621) dL_law_620 rfl (zf_si6 (by rfl : (2 : Int32).toInt = 2) hi0 hi6 hN (by decide)) ?_
      refine zf_iv (k := 144) (pc' := 624) (r := []) dL_law_621 rfl rfl rfl rfl (by decide) rfl rfl rfl (zr_144 (by omega) h) (zf_kI (fun x2 m2 h => ?_))
      refine zf_in (pc' := 625) (S' := []) dL_law_624 rfl (fun _ _ _ => rfl) ?_
      refine zf_goto (tgt := 1411) dL_law_625 rfl ?_
      refine zf_ii (y := i + 6) (L2 := [some (.inr (.inr (5, 0))), some (.inr (.inr (1, 0))), some (.inr (.inr (1, 63))), some (.inl (i + 6))]) (pc' := 1414) dL_law_1411 rfl rfl rfl rfl rfl ?_
      refine zf_goto (tgt := 18) dL_law_1414 rfl ?_
      exact ih (i + 6) m2 (by omega) (by omega) (by omega) h
    · refine zf_ld (pc' := 629) (v := .inr (.inr (1, 0))) dL_law_628 rfl (fun _ _ _ => rfl) rfl rfl rfl ?_
      refine zf_ld (pc' := 630) (v := .inr (.inr (5, 0))) dL_law_629 rfl (fun _ _ _ => rfl) rfl rfl rfl ?_
      refine zf_ld (pc' := 631) (v := .inl i) dL_law_630 rfl (fun _ _ _ => rfl) rfl rfl rfl ?_
      refine zf_ic (v := 1) (pc' := 632) dL_law_631 rfl rfl ?_
      refine zf_in (pc' := 633) (S' := [.inl (i + 1), .inr (.inr (5, 0)), .inr (.inr (1, 0))]) dL_law_632 rfl (fun _ _ _ => rfl) ?_
      refine zf_sld (pc' := 634) dL_law_633 rfl (zf_si6 (by rfl : (1 : Int32).toInt = 1) hi0 hi6 hN (by decide)) ?_
      refine zf_ld (pc' := 635) (v := .inr (.inr (5, 0))) dL_law_634 rfl (fun _ _ _ => rfl) rfl rfl rfl ?_
      refine zf_ld (pc' := 636) (v := .inl i) dL_law_635 rfl (fun _ _ _ => rfl) rfl rfl rfl ?_
      refine zf_ic (v := 2) (pc' := 637) dL_law_636 rfl rfl ?_
      refine zf_in (pc' := 638) (S' := [.inl (i + 2), .inr (.inr (5, 0)), .inl (xs (Int32.toInt (i + 1)).toNat), .inr (.inr (1, 0))]) dL_law_637 rfl (fun _ _ _ => rfl) ?_
      refine zf_sld (pc' := 639) dL_law_638 rfl (zf_si6 (by rfl : (2 : Int32).toInt = 2) hi0 hi6 hN (by decide)) ?_
      refine zf_iv (k := 78) (pc' := 642) (r := []) dL_law_639 rfl rfl rfl rfl (by decide) rfl rfl rfl (zr_78 (by omega) (hk10 m h (xs (Int32.toInt (i + 1)).toNat) (xs (Int32.toInt (i + 2)).toNat))) (zf_kI (fun x1 m1 h => ?_))
      refine zf_in (pc' := 643) (S' := []) dL_law_642 rfl (fun _ _ _ => rfl) ?_
      refine zf_ld (pc' := 644) (v := .inr (.inr (1, 63))) dL_law_643 rfl (fun _ _ _ => rfl) rfl rfl rfl ?_
      refine zf_ld (pc' := 645) (v := .inr (.inr (5, 0))) dL_law_644 rfl (fun _ _ _ => rfl) rfl rfl rfl ?_
      refine zf_ld (pc' := 646) (v := .inl i) dL_law_645 rfl (fun _ _ _ => rfl) rfl rfl rfl ?_
      refine zf_ic (v := 1) (pc' := 647) dL_law_646 rfl rfl ?_
      refine zf_in (pc' := 648) (S' := [.inl (i + 1), .inr (.inr (5, 0)), .inr (.inr (1, 63))]) dL_law_647 rfl (fun _ _ _ => rfl) ?_
      refine zf_sld (pc' := 649) dL_law_648 rfl (zf_si6 (by rfl : (1 : Int32).toInt = 1) hi0 hi6 hN (by decide)) ?_
      refine zf_ld (pc' := 650) (v := .inr (.inr (5, 0))) dL_law_649 rfl (fun _ _ _ => rfl) rfl rfl rfl ?_
      refine zf_ld (pc' := 651) (v := .inl i) dL_law_650 rfl (fun _ _ _ => rfl) rfl rfl rfl ?_
      refine zf_ic (v := 2) (pc' := 652) dL_law_651 rfl rfl ?_
      refine zf_in (pc' := 653) (S' := [.inl (i + 2), .inr (.inr (5, 0)), .inl (xs (Int32.toInt (i + 1)).toNat), .inr (.inr (1, 63))]) dL_law_652 rfl (fun _ _ _ => rfl) ?_
      refine zf_sld (pc' := 654) dL_law_653 rfl (zf_si6 (by rfl : (2 : Int32).toInt = 2) hi0 hi6 hN (by decide)) ?_
      refine zf_iv (k := 145) (pc' := 657) (r := []) dL_law_654 rfl rfl rfl rfl (by decide) rfl rfl rfl (zr_145 (by omega) h) (zf_kI (fun x2 m2 h => ?_))
      refine zf_in (pc' := 658) (S' := []) dL_law_657 rfl (fun _ _ _ => rfl) ?_
      refine zf_goto (tgt := 1411) dL_law_658 rfl ?_
      refine zf_ii (y := i + 6) (L2 := [some (.inr (.inr (5, 0))), some (.inr (.inr (1, 0))), some (.inr (.inr (1, 63))), some (.inl (i + 6))]) (pc' := 1414) dL_law_1411 rfl rfl rfl rfl rfl ?_
      refine zf_goto (tgt := 18) dL_law_1414 rfl ?_
      exact ih (i + 6) m2 (by omega) (by omega) (by omega) h
    · refine zf_ld (pc' := 662) (v := .inr (.inr (1, 0))) dL_law_661 rfl (fun _ _ _ => rfl) rfl rfl rfl ?_
      refine zf_ld (pc' := 663) (v := .inr (.inr (5, 0))) dL_law_662 rfl (fun _ _ _ => rfl) rfl rfl rfl ?_
      refine zf_ld (pc' := 664) (v := .inl i) dL_law_663 rfl (fun _ _ _ => rfl) rfl rfl rfl ?_
      refine zf_ic (v := 1) (pc' := 665) dL_law_664 rfl rfl ?_
      refine zf_in (pc' := 666) (S' := [.inl (i + 1), .inr (.inr (5, 0)), .inr (.inr (1, 0))]) dL_law_665 rfl (fun _ _ _ => rfl) ?_
      refine zf_sld (pc' := 667) dL_law_666 rfl (zf_si6 (by rfl : (1 : Int32).toInt = 1) hi0 hi6 hN (by decide)) ?_
      refine zf_ld (pc' := 668) (v := .inr (.inr (5, 0))) dL_law_667 rfl (fun _ _ _ => rfl) rfl rfl rfl ?_
      refine zf_ld (pc' := 669) (v := .inl i) dL_law_668 rfl (fun _ _ _ => rfl) rfl rfl rfl ?_
      refine zf_ic (v := 2) (pc' := 670) dL_law_669 rfl rfl ?_
      refine zf_in (pc' := 671) (S' := [.inl (i + 2), .inr (.inr (5, 0)), .inl (xs (Int32.toInt (i + 1)).toNat), .inr (.inr (1, 0))]) dL_law_670 rfl (fun _ _ _ => rfl) ?_
      refine zf_sld (pc' := 672) dL_law_671 rfl (zf_si6 (by rfl : (2 : Int32).toInt = 2) hi0 hi6 hN (by decide)) ?_
      refine zf_iv (k := 79) (pc' := 675) (r := []) dL_law_672 rfl rfl rfl rfl (by decide) rfl rfl rfl (zr_79 (by omega) (hk11 m h (xs (Int32.toInt (i + 1)).toNat) (xs (Int32.toInt (i + 2)).toNat))) (zf_kI (fun x1 m1 h => ?_))
      refine zf_in (pc' := 676) (S' := []) dL_law_675 rfl (fun _ _ _ => rfl) ?_
      refine zf_ld (pc' := 677) (v := .inr (.inr (1, 63))) dL_law_676 rfl (fun _ _ _ => rfl) rfl rfl rfl ?_
      refine zf_ld (pc' := 678) (v := .inr (.inr (5, 0))) dL_law_677 rfl (fun _ _ _ => rfl) rfl rfl rfl ?_
      refine zf_ld (pc' := 679) (v := .inl i) dL_law_678 rfl (fun _ _ _ => rfl) rfl rfl rfl ?_
      refine zf_ic (v := 1) (pc' := 680) dL_law_679 rfl rfl ?_
      refine zf_in (pc' := 681) (S' := [.inl (i + 1), .inr (.inr (5, 0)), .inr (.inr (1, 63))]) dL_law_680 rfl (fun _ _ _ => rfl) ?_
      refine zf_sld (pc' := 682) dL_law_681 rfl (zf_si6 (by rfl : (1 : Int32).toInt = 1) hi0 hi6 hN (by decide)) ?_
      refine zf_ld (pc' := 683) (v := .inr (.inr (5, 0))) dL_law_682 rfl (fun _ _ _ => rfl) rfl rfl rfl ?_
      refine zf_ld (pc' := 684) (v := .inl i) dL_law_683 rfl (fun _ _ _ => rfl) rfl rfl rfl ?_
      refine zf_ic (v := 2) (pc' := 685) dL_law_684 rfl rfl ?_
      refine zf_in (pc' := 686) (S' := [.inl (i + 2), .inr (.inr (5, 0)), .inl (xs (Int32.toInt (i + 1)).toNat), .inr (.inr (1, 63))]) dL_law_685 rfl (fun _ _ _ => rfl) ?_
      refine zf_sld (pc' := 687) dL_law_686 rfl (zf_si6 (by rfl : (2 : Int32).toInt = 2) hi0 hi6 hN (by decide)) ?_
      refine zf_iv (k := 150) (pc' := 690) (r := []) dL_law_687 rfl rfl rfl rfl (by decide) rfl rfl rfl (zr_150 (by omega) h) (zf_kI (fun x2 m2 h => ?_))
      refine zf_in (pc' := 691) (S' := []) dL_law_690 rfl (fun _ _ _ => rfl) ?_
      refine zf_goto (tgt := 1411) dL_law_691 rfl ?_
      refine zf_ii (y := i + 6) (L2 := [some (.inr (.inr (5, 0))), some (.inr (.inr (1, 0))), some (.inr (.inr (1, 63))), some (.inl (i + 6))]) (pc' := 1414) dL_law_1411 rfl rfl rfl rfl rfl ?_
      refine zf_goto (tgt := 18) dL_law_1414 rfl ?_
      exact ih (i + 6) m2 (by omega) (by omega) (by omega) h
    · refine zf_ld (pc' := 695) (v := .inr (.inr (1, 0))) dL_law_694 rfl (fun _ _ _ => rfl) rfl rfl rfl ?_
      refine zf_ld (pc' := 696) (v := .inr (.inr (5, 0))) dL_law_695 rfl (fun _ _ _ => rfl) rfl rfl rfl ?_
      refine zf_ld (pc' := 697) (v := .inl i) dL_law_696 rfl (fun _ _ _ => rfl) rfl rfl rfl ?_
      refine zf_ic (v := 1) (pc' := 698) dL_law_697 rfl rfl ?_
      refine zf_in (pc' := 699) (S' := [.inl (i + 1), .inr (.inr (5, 0)), .inr (.inr (1, 0))]) dL_law_698 rfl (fun _ _ _ => rfl) ?_
      refine zf_sld (pc' := 700) dL_law_699 rfl (zf_si6 (by rfl : (1 : Int32).toInt = 1) hi0 hi6 hN (by decide)) ?_
      refine zf_ld (pc' := 701) (v := .inr (.inr (5, 0))) dL_law_700 rfl (fun _ _ _ => rfl) rfl rfl rfl ?_
      refine zf_ld (pc' := 702) (v := .inl i) dL_law_701 rfl (fun _ _ _ => rfl) rfl rfl rfl ?_
      refine zf_ic (v := 2) (pc' := 703) dL_law_702 rfl rfl ?_
      refine zf_in (pc' := 704) (S' := [.inl (i + 2), .inr (.inr (5, 0)), .inl (xs (Int32.toInt (i + 1)).toNat), .inr (.inr (1, 0))]) dL_law_703 rfl (fun _ _ _ => rfl) ?_
      refine zf_sld (pc' := 705) dL_law_704 rfl (zf_si6 (by rfl : (2 : Int32).toInt = 2) hi0 hi6 hN (by decide)) ?_
      refine zf_iv (k := 80) (pc' := 708) (r := []) dL_law_705 rfl rfl rfl rfl (by decide) rfl rfl rfl (zr_80 (by omega) (hk12 m h (xs (Int32.toInt (i + 1)).toNat) (xs (Int32.toInt (i + 2)).toNat))) (zf_kI (fun x1 m1 h => ?_))
      refine zf_in (pc' := 709) (S' := []) dL_law_708 rfl (fun _ _ _ => rfl) ?_
      refine zf_ld (pc' := 710) (v := .inr (.inr (1, 63))) dL_law_709 rfl (fun _ _ _ => rfl) rfl rfl rfl ?_
      refine zf_ld (pc' := 711) (v := .inr (.inr (5, 0))) dL_law_710 rfl (fun _ _ _ => rfl) rfl rfl rfl ?_
      refine zf_ld (pc' := 712) (v := .inl i) dL_law_711 rfl (fun _ _ _ => rfl) rfl rfl rfl ?_
      refine zf_ic (v := 1) (pc' := 713) dL_law_712 rfl rfl ?_
      refine zf_in (pc' := 714) (S' := [.inl (i + 1), .inr (.inr (5, 0)), .inr (.inr (1, 63))]) dL_law_713 rfl (fun _ _ _ => rfl) ?_
      refine zf_sld (pc' := 715) dL_law_714 rfl (zf_si6 (by rfl : (1 : Int32).toInt = 1) hi0 hi6 hN (by decide)) ?_
      refine zf_ld (pc' := 716) (v := .inr (.inr (5, 0))) dL_law_715 rfl (fun _ _ _ => rfl) rfl rfl rfl ?_
      refine zf_ld (pc' := 717) (v := .inl i) dL_law_716 rfl (fun _ _ _ => rfl) rfl rfl rfl ?_
      refine zf_ic (v := 2) (pc' := 718) dL_law_717 rfl rfl ?_
      refine zf_in (pc' := 719) (S' := [.inl (i + 2), .inr (.inr (5, 0)), .inl (xs (Int32.toInt (i + 1)).toNat), .inr (.inr (1, 63))]) dL_law_718 rfl (fun _ _ _ => rfl) ?_
      refine zf_sld (pc' := 720) dL_law_719 rfl (zf_si6 (by rfl : (2 : Int32).toInt = 2) hi0 hi6 hN (by decide)) ?_
      refine zf_iv (k := 151) (pc' := 723) (r := []) dL_law_720 rfl rfl rfl rfl (by decide) rfl rfl rfl (zr_151 (by omega) h) (zf_kI (fun x2 m2 h => ?_))
      refine zf_in (pc' := 724) (S' := []) dL_law_723 rfl (fun _ _ _ => rfl) ?_
      refine zf_goto (tgt := 1411) dL_law_724 rfl ?_
      refine zf_ii (y := i + 6) (L2 := [some (.inr (.inr (5, 0))), some (.inr (.inr (1, 0))), some (.inr (.inr (1, 63))), some (.inl (i + 6))]) (pc' := 1414) dL_law_1411 rfl rfl rfl rfl rfl ?_
      refine zf_goto (tgt := 18) dL_law_1414 rfl ?_
      exact ih (i + 6) m2 (by omega) (by omega) (by omega) h
    · refine zf_ld (pc' := 728) (v := .inr (.inr (1, 0))) dL_law_727 rfl (fun _ _ _ => rfl) rfl rfl rfl ?_
      refine zf_ld (pc' := 729) (v := .inr (.inr (5, 0))) dL_law_728 rfl (fun _ _ _ => rfl) rfl rfl rfl ?_
      refine zf_ld (pc' := 730) (v := .inl i) dL_law_729 rfl (fun _ _ _ => rfl) rfl rfl rfl ?_
      refine zf_ic (v := 1) (pc' := 731) dL_law_730 rfl rfl ?_
      refine zf_in (pc' := 732) (S' := [.inl (i + 1), .inr (.inr (5, 0)), .inr (.inr (1, 0))]) dL_law_731 rfl (fun _ _ _ => rfl) ?_
      refine zf_sld (pc' := 733) dL_law_732 rfl (zf_si6 (by rfl : (1 : Int32).toInt = 1) hi0 hi6 hN (by decide)) ?_
      refine zf_iv (k := 81) (pc' := 736) (r := []) dL_law_733 rfl rfl rfl rfl (by decide) rfl rfl rfl (zr_81 (by omega) (hk13 m h (xs (Int32.toInt (i + 1)).toNat))) (zf_kI (fun x1 m1 h => ?_))
      refine zf_in (pc' := 737) (S' := []) dL_law_736 rfl (fun _ _ _ => rfl) ?_
      refine zf_ld (pc' := 738) (v := .inr (.inr (1, 63))) dL_law_737 rfl (fun _ _ _ => rfl) rfl rfl rfl ?_
      refine zf_ld (pc' := 739) (v := .inr (.inr (5, 0))) dL_law_738 rfl (fun _ _ _ => rfl) rfl rfl rfl ?_
      refine zf_ld (pc' := 740) (v := .inl i) dL_law_739 rfl (fun _ _ _ => rfl) rfl rfl rfl ?_
      refine zf_ic (v := 1) (pc' := 741) dL_law_740 rfl rfl ?_
      refine zf_in (pc' := 742) (S' := [.inl (i + 1), .inr (.inr (5, 0)), .inr (.inr (1, 63))]) dL_law_741 rfl (fun _ _ _ => rfl) ?_
      refine zf_sld (pc' := 743) dL_law_742 rfl (zf_si6 (by rfl : (1 : Int32).toInt = 1) hi0 hi6 hN (by decide)) ?_
      refine zf_iv (k := 152) (pc' := 746) (r := []) dL_law_743 rfl rfl rfl rfl (by decide) rfl rfl rfl (zr_152 (by omega) h) (zf_kI (fun x2 m2 h => ?_))
      refine zf_in (pc' := 747) (S' := []) dL_law_746 rfl (fun _ _ _ => rfl) ?_
      refine zf_goto (tgt := 1411) dL_law_747 rfl ?_
      refine zf_ii (y := i + 6) (L2 := [some (.inr (.inr (5, 0))), some (.inr (.inr (1, 0))), some (.inr (.inr (1, 63))), some (.inl (i + 6))]) (pc' := 1414) dL_law_1411 rfl rfl rfl rfl rfl ?_
      refine zf_goto (tgt := 18) dL_law_1414 rfl ?_
      exact ih (i + 6) m2 (by omega) (by omega) (by omega) h
    · refine zf_ld (pc' := 751) (v := .inr (.inr (1, 0))) dL_law_750 rfl (fun _ _ _ => rfl) rfl rfl rfl ?_
      refine zf_ld (pc' := 752) (v := .inr (.inr (5, 0))) dL_law_751 rfl (fun _ _ _ => rfl) rfl rfl rfl ?_
      refine zf_ld (pc' := 753) (v := .inl i) dL_law_752 rfl (fun _ _ _ => rfl) rfl rfl rfl ?_
      refine zf_ic (v := 1) (pc' := 754) dL_law_753 rfl rfl ?_
      refine zf_in (pc' := 755) (S' := [.inl (i + 1), .inr (.inr (5, 0)), .inr (.inr (1, 0))]) dL_law_754 rfl (fun _ _ _ => rfl) ?_
      refine zf_sld (pc' := 756) dL_law_755 rfl (zf_si6 (by rfl : (1 : Int32).toInt = 1) hi0 hi6 hN (by decide)) ?_
      refine zf_iv (k := 82) (pc' := 759) (r := []) dL_law_756 rfl rfl rfl rfl (by decide) rfl rfl rfl (zr_82 (by omega) (hk14 m h (xs (Int32.toInt (i + 1)).toNat))) (zf_kI (fun x1 m1 h => ?_))
      refine zf_in (pc' := 760) (S' := []) dL_law_759 rfl (fun _ _ _ => rfl) ?_
      refine zf_ld (pc' := 761) (v := .inr (.inr (1, 63))) dL_law_760 rfl (fun _ _ _ => rfl) rfl rfl rfl ?_
      refine zf_ld (pc' := 762) (v := .inr (.inr (5, 0))) dL_law_761 rfl (fun _ _ _ => rfl) rfl rfl rfl ?_
      refine zf_ld (pc' := 763) (v := .inl i) dL_law_762 rfl (fun _ _ _ => rfl) rfl rfl rfl ?_
      refine zf_ic (v := 1) (pc' := 764) dL_law_763 rfl rfl ?_
      refine zf_in (pc' := 765) (S' := [.inl (i + 1), .inr (.inr (5, 0)), .inr (.inr (1, 63))]) dL_law_764 rfl (fun _ _ _ => rfl) ?_
      refine zf_sld (pc' := 766) dL_law_765 rfl (zf_si6 (by rfl : (1 : Int32).toInt = 1) hi0 hi6 hN (by decide)) ?_
      refine zf_iv (k := 162) (pc' := 769) (r := []) dL_law_766 rfl rfl rfl rfl (by decide) rfl rfl rfl (zr_162 (by omega) h) (zf_kI (fun x2 m2 h => ?_))
      refine zf_in (pc' := 770) (S' := []) dL_law_769 rfl (fun _ _ _ => rfl) ?_
      refine zf_goto (tgt := 1411) dL_law_770 rfl ?_
      refine zf_ii (y := i + 6) (L2 := [some (.inr (.inr (5, 0))), some (.inr (.inr (1, 0))), some (.inr (.inr (1, 63))), some (.inl (i + 6))]) (pc' := 1414) dL_law_1411 rfl rfl rfl rfl rfl ?_
      refine zf_goto (tgt := 18) dL_law_1414 rfl ?_
      exact ih (i + 6) m2 (by omega) (by omega) (by omega) h
    · refine zf_ld (pc' := 774) (v := .inr (.inr (1, 0))) dL_law_773 rfl (fun _ _ _ => rfl) rfl rfl rfl ?_
      refine zf_iv (k := 83) (pc' := 777) (r := []) dL_law_774 rfl rfl rfl rfl (by decide) rfl rfl rfl (zr_83 (by omega) (hk15 m h)) (zf_kI (fun x1 m1 h => ?_))
      refine zf_in (pc' := 778) (S' := []) dL_law_777 rfl (fun _ _ _ => rfl) ?_
      refine zf_ld (pc' := 779) (v := .inr (.inr (1, 63))) dL_law_778 rfl (fun _ _ _ => rfl) rfl rfl rfl ?_
      refine zf_iv (k := 163) (pc' := 782) (r := []) dL_law_779 rfl rfl rfl rfl (by decide) rfl rfl rfl (zr_163 (by omega) h) (zf_kI (fun x2 m2 h => ?_))
      refine zf_in (pc' := 783) (S' := []) dL_law_782 rfl (fun _ _ _ => rfl) ?_
      refine zf_goto (tgt := 1411) dL_law_783 rfl ?_
      refine zf_ii (y := i + 6) (L2 := [some (.inr (.inr (5, 0))), some (.inr (.inr (1, 0))), some (.inr (.inr (1, 63))), some (.inl (i + 6))]) (pc' := 1414) dL_law_1411 rfl rfl rfl rfl rfl ?_
      refine zf_goto (tgt := 18) dL_law_1414 rfl ?_
      exact ih (i + 6) m2 (by omega) (by omega) (by omega) h
    · refine zf_ld (pc' := 787) (v := .inr (.inr (1, 0))) dL_law_786 rfl (fun _ _ _ => rfl) rfl rfl rfl ?_
      refine zf_ld (pc' := 788) (v := .inr (.inr (5, 0))) dL_law_787 rfl (fun _ _ _ => rfl) rfl rfl rfl ?_
      refine zf_ld (pc' := 789) (v := .inl i) dL_law_788 rfl (fun _ _ _ => rfl) rfl rfl rfl ?_
      refine zf_ic (v := 1) (pc' := 790) dL_law_789 rfl rfl ?_
      refine zf_in (pc' := 791) (S' := [.inl (i + 1), .inr (.inr (5, 0)), .inr (.inr (1, 0))]) dL_law_790 rfl (fun _ _ _ => rfl) ?_
      refine zf_sld (pc' := 792) dL_law_791 rfl (zf_si6 (by rfl : (1 : Int32).toInt = 1) hi0 hi6 hN (by decide)) ?_
      refine zf_ld (pc' := 793) (v := .inr (.inr (5, 0))) dL_law_792 rfl (fun _ _ _ => rfl) rfl rfl rfl ?_
      refine zf_ld (pc' := 794) (v := .inl i) dL_law_793 rfl (fun _ _ _ => rfl) rfl rfl rfl ?_
      refine zf_ic (v := 2) (pc' := 795) dL_law_794 rfl rfl ?_
      refine zf_in (pc' := 796) (S' := [.inl (i + 2), .inr (.inr (5, 0)), .inl (xs (Int32.toInt (i + 1)).toNat), .inr (.inr (1, 0))]) dL_law_795 rfl (fun _ _ _ => rfl) ?_
      refine zf_sld (pc' := 797) dL_law_796 rfl (zf_si6 (by rfl : (2 : Int32).toInt = 2) hi0 hi6 hN (by decide)) ?_
      refine zf_iv (k := 84) (pc' := 800) (r := []) dL_law_797 rfl rfl rfl rfl (by decide) rfl rfl rfl (zr_84 (by omega) (hk16 m h (xs (Int32.toInt (i + 1)).toNat) (xs (Int32.toInt (i + 2)).toNat))) (zf_kI (fun x1 m1 h => ?_))
      refine zf_in (pc' := 801) (S' := []) dL_law_800 rfl (fun _ _ _ => rfl) ?_
      refine zf_ld (pc' := 802) (v := .inr (.inr (1, 63))) dL_law_801 rfl (fun _ _ _ => rfl) rfl rfl rfl ?_
      refine zf_ld (pc' := 803) (v := .inr (.inr (5, 0))) dL_law_802 rfl (fun _ _ _ => rfl) rfl rfl rfl ?_
      refine zf_ld (pc' := 804) (v := .inl i) dL_law_803 rfl (fun _ _ _ => rfl) rfl rfl rfl ?_
      refine zf_ic (v := 1) (pc' := 805) dL_law_804 rfl rfl ?_
      refine zf_in (pc' := 806) (S' := [.inl (i + 1), .inr (.inr (5, 0)), .inr (.inr (1, 63))]) dL_law_805 rfl (fun _ _ _ => rfl) ?_
      refine zf_sld (pc' := 807) dL_law_806 rfl (zf_si6 (by rfl : (1 : Int32).toInt = 1) hi0 hi6 hN (by decide)) ?_
      refine zf_ld (pc' := 808) (v := .inr (.inr (5, 0))) dL_law_807 rfl (fun _ _ _ => rfl) rfl rfl rfl ?_
      refine zf_ld (pc' := 809) (v := .inl i) dL_law_808 rfl (fun _ _ _ => rfl) rfl rfl rfl ?_
      refine zf_ic (v := 2) (pc' := 810) dL_law_809 rfl rfl ?_
      refine zf_in (pc' := 811) (S' := [.inl (i + 2), .inr (.inr (5, 0)), .inl (xs (Int32.toInt (i + 1)).toNat), .inr (.inr (1, 63))]) dL_law_810 rfl (fun _ _ _ => rfl) ?_
      refine zf_sld (pc' := 812) dL_law_811 rfl (zf_si6 (by rfl : (2 : Int32).toInt = 2) hi0 hi6 hN (by decide)) ?_
      refine zf_iv (k := 171) (pc' := 815) (r := []) dL_law_812 rfl rfl rfl rfl (by decide) rfl rfl rfl (zr_171 (by omega) h) (zf_kI (fun x2 m2 h => ?_))
      refine zf_in (pc' := 816) (S' := []) dL_law_815 rfl (fun _ _ _ => rfl) ?_
      refine zf_goto (tgt := 1411) dL_law_816 rfl ?_
      refine zf_ii (y := i + 6) (L2 := [some (.inr (.inr (5, 0))), some (.inr (.inr (1, 0))), some (.inr (.inr (1, 63))), some (.inl (i + 6))]) (pc' := 1414) dL_law_1411 rfl rfl rfl rfl rfl ?_
      refine zf_goto (tgt := 18) dL_law_1414 rfl ?_
      exact ih (i + 6) m2 (by omega) (by omega) (by omega) h
    · refine zf_ld (pc' := 820) (v := .inr (.inr (1, 0))) dL_law_819 rfl (fun _ _ _ => rfl) rfl rfl rfl ?_
      refine zf_ld (pc' := 821) (v := .inr (.inr (5, 0))) dL_law_820 rfl (fun _ _ _ => rfl) rfl rfl rfl ?_
      refine zf_ld (pc' := 822) (v := .inl i) dL_law_821 rfl (fun _ _ _ => rfl) rfl rfl rfl ?_
      refine zf_ic (v := 1) (pc' := 823) dL_law_822 rfl rfl ?_
      refine zf_in (pc' := 824) (S' := [.inl (i + 1), .inr (.inr (5, 0)), .inr (.inr (1, 0))]) dL_law_823 rfl (fun _ _ _ => rfl) ?_
      refine zf_sld (pc' := 825) dL_law_824 rfl (zf_si6 (by rfl : (1 : Int32).toInt = 1) hi0 hi6 hN (by decide)) ?_
      refine zf_iv (k := 85) (pc' := 828) (r := []) dL_law_825 rfl rfl rfl rfl (by decide) rfl rfl rfl (zr_85 (by omega) (hk17 m h (xs (Int32.toInt (i + 1)).toNat))) (zf_kI (fun x1 m1 h => ?_))
      refine zf_in (pc' := 829) (S' := []) dL_law_828 rfl (fun _ _ _ => rfl) ?_
      refine zf_ld (pc' := 830) (v := .inr (.inr (1, 63))) dL_law_829 rfl (fun _ _ _ => rfl) rfl rfl rfl ?_
      refine zf_ld (pc' := 831) (v := .inr (.inr (5, 0))) dL_law_830 rfl (fun _ _ _ => rfl) rfl rfl rfl ?_
      refine zf_ld (pc' := 832) (v := .inl i) dL_law_831 rfl (fun _ _ _ => rfl) rfl rfl rfl ?_
      refine zf_ic (v := 1) (pc' := 833) dL_law_832 rfl rfl ?_
      refine zf_in (pc' := 834) (S' := [.inl (i + 1), .inr (.inr (5, 0)), .inr (.inr (1, 63))]) dL_law_833 rfl (fun _ _ _ => rfl) ?_
      refine zf_sld (pc' := 835) dL_law_834 rfl (zf_si6 (by rfl : (1 : Int32).toInt = 1) hi0 hi6 hN (by decide)) ?_
      refine zf_iv (k := 172) (pc' := 838) (r := []) dL_law_835 rfl rfl rfl rfl (by decide) rfl rfl rfl (zr_172 (by omega) h) (zf_kI (fun x2 m2 h => ?_))
      refine zf_in (pc' := 839) (S' := []) dL_law_838 rfl (fun _ _ _ => rfl) ?_
      refine zf_goto (tgt := 1411) dL_law_839 rfl ?_
      refine zf_ii (y := i + 6) (L2 := [some (.inr (.inr (5, 0))), some (.inr (.inr (1, 0))), some (.inr (.inr (1, 63))), some (.inl (i + 6))]) (pc' := 1414) dL_law_1411 rfl rfl rfl rfl rfl ?_
      refine zf_goto (tgt := 18) dL_law_1414 rfl ?_
      exact ih (i + 6) m2 (by omega) (by omega) (by omega) h
    · refine zf_ld (pc' := 843) (v := .inr (.inr (1, 0))) dL_law_842 rfl (fun _ _ _ => rfl) rfl rfl rfl ?_
      refine zf_iv (k := 86) (pc' := 846) (r := []) dL_law_843 rfl rfl rfl rfl (by decide) rfl rfl rfl (zr_86 (by omega) (hk18 m h)) (zf_kI (fun x1 m1 h => ?_))
      refine zf_in (pc' := 847) (S' := []) dL_law_846 rfl (fun _ _ _ => rfl) ?_
      refine zf_ld (pc' := 848) (v := .inr (.inr (1, 63))) dL_law_847 rfl (fun _ _ _ => rfl) rfl rfl rfl ?_
      refine zf_iv (k := 173) (pc' := 851) (r := []) dL_law_848 rfl rfl rfl rfl (by decide) rfl rfl rfl (zr_173 (by omega) h) (zf_kI (fun x2 m2 h => ?_))
      refine zf_in (pc' := 852) (S' := []) dL_law_851 rfl (fun _ _ _ => rfl) ?_
      refine zf_goto (tgt := 1411) dL_law_852 rfl ?_
      refine zf_ii (y := i + 6) (L2 := [some (.inr (.inr (5, 0))), some (.inr (.inr (1, 0))), some (.inr (.inr (1, 63))), some (.inl (i + 6))]) (pc' := 1414) dL_law_1411 rfl rfl rfl rfl rfl ?_
      refine zf_goto (tgt := 18) dL_law_1414 rfl ?_
      exact ih (i + 6) m2 (by omega) (by omega) (by omega) h
    · refine zf_ld (pc' := 856) (v := .inr (.inr (1, 0))) dL_law_855 rfl (fun _ _ _ => rfl) rfl rfl rfl ?_
      refine zf_ld (pc' := 857) (v := .inr (.inr (5, 0))) dL_law_856 rfl (fun _ _ _ => rfl) rfl rfl rfl ?_
      refine zf_ld (pc' := 858) (v := .inl i) dL_law_857 rfl (fun _ _ _ => rfl) rfl rfl rfl ?_
      refine zf_ic (v := 1) (pc' := 859) dL_law_858 rfl rfl ?_
      refine zf_in (pc' := 860) (S' := [.inl (i + 1), .inr (.inr (5, 0)), .inr (.inr (1, 0))]) dL_law_859 rfl (fun _ _ _ => rfl) ?_
      refine zf_sld (pc' := 861) dL_law_860 rfl (zf_si6 (by rfl : (1 : Int32).toInt = 1) hi0 hi6 hN (by decide)) ?_
      refine zf_ld (pc' := 862) (v := .inr (.inr (5, 0))) dL_law_861 rfl (fun _ _ _ => rfl) rfl rfl rfl ?_
      refine zf_ld (pc' := 863) (v := .inl i) dL_law_862 rfl (fun _ _ _ => rfl) rfl rfl rfl ?_
      refine zf_ic (v := 2) (pc' := 864) dL_law_863 rfl rfl ?_
      refine zf_in (pc' := 865) (S' := [.inl (i + 2), .inr (.inr (5, 0)), .inl (xs (Int32.toInt (i + 1)).toNat), .inr (.inr (1, 0))]) dL_law_864 rfl (fun _ _ _ => rfl) ?_
      refine zf_sld (pc' := 866) dL_law_865 rfl (zf_si6 (by rfl : (2 : Int32).toInt = 2) hi0 hi6 hN (by decide)) ?_
      refine zf_iv (k := 87) (pc' := 869) (r := []) dL_law_866 rfl rfl rfl rfl (by decide) rfl rfl rfl (zr_87 (by omega) (hk19 m h (xs (Int32.toInt (i + 1)).toNat) (xs (Int32.toInt (i + 2)).toNat))) (zf_kI (fun x1 m1 h => ?_))
      refine zf_in (pc' := 870) (S' := []) dL_law_869 rfl (fun _ _ _ => rfl) ?_
      refine zf_ld (pc' := 871) (v := .inr (.inr (1, 63))) dL_law_870 rfl (fun _ _ _ => rfl) rfl rfl rfl ?_
      refine zf_ld (pc' := 872) (v := .inr (.inr (5, 0))) dL_law_871 rfl (fun _ _ _ => rfl) rfl rfl rfl ?_
      refine zf_ld (pc' := 873) (v := .inl i) dL_law_872 rfl (fun _ _ _ => rfl) rfl rfl rfl ?_
      refine zf_ic (v := 1) (pc' := 874) dL_law_873 rfl rfl ?_
      refine zf_in (pc' := 875) (S' := [.inl (i + 1), .inr (.inr (5, 0)), .inr (.inr (1, 63))]) dL_law_874 rfl (fun _ _ _ => rfl) ?_
      refine zf_sld (pc' := 876) dL_law_875 rfl (zf_si6 (by rfl : (1 : Int32).toInt = 1) hi0 hi6 hN (by decide)) ?_
      refine zf_ld (pc' := 877) (v := .inr (.inr (5, 0))) dL_law_876 rfl (fun _ _ _ => rfl) rfl rfl rfl ?_
      refine zf_ld (pc' := 878) (v := .inl i) dL_law_877 rfl (fun _ _ _ => rfl) rfl rfl rfl ?_
      refine zf_ic (v := 2) (pc' := 879) dL_law_878 rfl rfl ?_
      refine zf_in (pc' := 880) (S' := [.inl (i + 2), .inr (.inr (5, 0)), .inl (xs (Int32.toInt (i + 1)).toNat), .inr (.inr (1, 63))]) dL_law_879 rfl (fun _ _ _ => rfl) ?_
      refine zf_sld (pc' := 881) dL_law_880 rfl (zf_si6 (by rfl : (2 : Int32).toInt = 2) hi0 hi6 hN (by decide)) ?_
      refine zf_iv (k := 175) (pc' := 884) (r := []) dL_law_881 rfl rfl rfl rfl (by decide) rfl rfl rfl (zr_175 (by omega) h) (zf_kI (fun x2 m2 h => ?_))
      refine zf_in (pc' := 885) (S' := []) dL_law_884 rfl (fun _ _ _ => rfl) ?_
      refine zf_goto (tgt := 1411) dL_law_885 rfl ?_
      refine zf_ii (y := i + 6) (L2 := [some (.inr (.inr (5, 0))), some (.inr (.inr (1, 0))), some (.inr (.inr (1, 63))), some (.inl (i + 6))]) (pc' := 1414) dL_law_1411 rfl rfl rfl rfl rfl ?_
      refine zf_goto (tgt := 18) dL_law_1414 rfl ?_
      exact ih (i + 6) m2 (by omega) (by omega) (by omega) h
    · refine zf_ld (pc' := 889) (v := .inr (.inr (1, 0))) dL_law_888 rfl (fun _ _ _ => rfl) rfl rfl rfl ?_
      refine zf_ld (pc' := 890) (v := .inr (.inr (5, 0))) dL_law_889 rfl (fun _ _ _ => rfl) rfl rfl rfl ?_
      refine zf_ld (pc' := 891) (v := .inl i) dL_law_890 rfl (fun _ _ _ => rfl) rfl rfl rfl ?_
      refine zf_ic (v := 1) (pc' := 892) dL_law_891 rfl rfl ?_
      refine zf_in (pc' := 893) (S' := [.inl (i + 1), .inr (.inr (5, 0)), .inr (.inr (1, 0))]) dL_law_892 rfl (fun _ _ _ => rfl) ?_
      refine zf_sld (pc' := 894) dL_law_893 rfl (zf_si6 (by rfl : (1 : Int32).toInt = 1) hi0 hi6 hN (by decide)) ?_
      refine zf_ld (pc' := 895) (v := .inr (.inr (5, 0))) dL_law_894 rfl (fun _ _ _ => rfl) rfl rfl rfl ?_
      refine zf_ld (pc' := 896) (v := .inl i) dL_law_895 rfl (fun _ _ _ => rfl) rfl rfl rfl ?_
      refine zf_ic (v := 2) (pc' := 897) dL_law_896 rfl rfl ?_
      refine zf_in (pc' := 898) (S' := [.inl (i + 2), .inr (.inr (5, 0)), .inl (xs (Int32.toInt (i + 1)).toNat), .inr (.inr (1, 0))]) dL_law_897 rfl (fun _ _ _ => rfl) ?_
      refine zf_sld (pc' := 899) dL_law_898 rfl (zf_si6 (by rfl : (2 : Int32).toInt = 2) hi0 hi6 hN (by decide)) ?_
      refine zf_iv (k := 88) (pc' := 902) (r := []) dL_law_899 rfl rfl rfl rfl (by decide) rfl rfl rfl (zr_88 (by omega) (hk20 m h (xs (Int32.toInt (i + 1)).toNat) (xs (Int32.toInt (i + 2)).toNat))) (zf_kI (fun x1 m1 h => ?_))
      refine zf_in (pc' := 903) (S' := []) dL_law_902 rfl (fun _ _ _ => rfl) ?_
      refine zf_ld (pc' := 904) (v := .inr (.inr (1, 63))) dL_law_903 rfl (fun _ _ _ => rfl) rfl rfl rfl ?_
      refine zf_ld (pc' := 905) (v := .inr (.inr (5, 0))) dL_law_904 rfl (fun _ _ _ => rfl) rfl rfl rfl ?_
      refine zf_ld (pc' := 906) (v := .inl i) dL_law_905 rfl (fun _ _ _ => rfl) rfl rfl rfl ?_
      refine zf_ic (v := 1) (pc' := 907) dL_law_906 rfl rfl ?_
      refine zf_in (pc' := 908) (S' := [.inl (i + 1), .inr (.inr (5, 0)), .inr (.inr (1, 63))]) dL_law_907 rfl (fun _ _ _ => rfl) ?_
      refine zf_sld (pc' := 909) dL_law_908 rfl (zf_si6 (by rfl : (1 : Int32).toInt = 1) hi0 hi6 hN (by decide)) ?_
      refine zf_ld (pc' := 910) (v := .inr (.inr (5, 0))) dL_law_909 rfl (fun _ _ _ => rfl) rfl rfl rfl ?_
      refine zf_ld (pc' := 911) (v := .inl i) dL_law_910 rfl (fun _ _ _ => rfl) rfl rfl rfl ?_
      refine zf_ic (v := 2) (pc' := 912) dL_law_911 rfl rfl ?_
      refine zf_in (pc' := 913) (S' := [.inl (i + 2), .inr (.inr (5, 0)), .inl (xs (Int32.toInt (i + 1)).toNat), .inr (.inr (1, 63))]) dL_law_912 rfl (fun _ _ _ => rfl) ?_
      refine zf_sld (pc' := 914) dL_law_913 rfl (zf_si6 (by rfl : (2 : Int32).toInt = 2) hi0 hi6 hN (by decide)) ?_
      refine zf_iv (k := 183) (pc' := 917) (r := []) dL_law_914 rfl rfl rfl rfl (by decide) rfl rfl rfl (zr_183 (by omega) h) (zf_kI (fun x2 m2 h => ?_))
      refine zf_in (pc' := 918) (S' := []) dL_law_917 rfl (fun _ _ _ => rfl) ?_
      refine zf_goto (tgt := 1411) dL_law_918 rfl ?_
      refine zf_ii (y := i + 6) (L2 := [some (.inr (.inr (5, 0))), some (.inr (.inr (1, 0))), some (.inr (.inr (1, 63))), some (.inl (i + 6))]) (pc' := 1414) dL_law_1411 rfl rfl rfl rfl rfl ?_
      refine zf_goto (tgt := 18) dL_law_1414 rfl ?_
      exact ih (i + 6) m2 (by omega) (by omega) (by omega) h
    · refine zf_ld (pc' := 922) (v := .inr (.inr (1, 0))) dL_law_921 rfl (fun _ _ _ => rfl) rfl rfl rfl ?_
      refine zf_ld (pc' := 923) (v := .inr (.inr (5, 0))) dL_law_922 rfl (fun _ _ _ => rfl) rfl rfl rfl ?_
      refine zf_ld (pc' := 924) (v := .inl i) dL_law_923 rfl (fun _ _ _ => rfl) rfl rfl rfl ?_
      refine zf_ic (v := 1) (pc' := 925) dL_law_924 rfl rfl ?_
      refine zf_in (pc' := 926) (S' := [.inl (i + 1), .inr (.inr (5, 0)), .inr (.inr (1, 0))]) dL_law_925 rfl (fun _ _ _ => rfl) ?_
      refine zf_sld (pc' := 927) dL_law_926 rfl (zf_si6 (by rfl : (1 : Int32).toInt = 1) hi0 hi6 hN (by decide)) ?_
      refine zf_iv (k := 89) (pc' := 930) (r := []) dL_law_927 rfl rfl rfl rfl (by decide) rfl rfl rfl (zr_89 (by omega) (hk21 m h (xs (Int32.toInt (i + 1)).toNat))) (zf_kI (fun x1 m1 h => ?_))
      refine zf_in (pc' := 931) (S' := []) dL_law_930 rfl (fun _ _ _ => rfl) ?_
      refine zf_ld (pc' := 932) (v := .inr (.inr (1, 63))) dL_law_931 rfl (fun _ _ _ => rfl) rfl rfl rfl ?_
      refine zf_ld (pc' := 933) (v := .inr (.inr (5, 0))) dL_law_932 rfl (fun _ _ _ => rfl) rfl rfl rfl ?_
      refine zf_ld (pc' := 934) (v := .inl i) dL_law_933 rfl (fun _ _ _ => rfl) rfl rfl rfl ?_
      refine zf_ic (v := 1) (pc' := 935) dL_law_934 rfl rfl ?_
      refine zf_in (pc' := 936) (S' := [.inl (i + 1), .inr (.inr (5, 0)), .inr (.inr (1, 63))]) dL_law_935 rfl (fun _ _ _ => rfl) ?_
      refine zf_sld (pc' := 937) dL_law_936 rfl (zf_si6 (by rfl : (1 : Int32).toInt = 1) hi0 hi6 hN (by decide)) ?_
      refine zf_iv (k := 184) (pc' := 940) (r := []) dL_law_937 rfl rfl rfl rfl (by decide) rfl rfl rfl (zr_184 (by omega) h) (zf_kI (fun x2 m2 h => ?_))
      refine zf_in (pc' := 941) (S' := []) dL_law_940 rfl (fun _ _ _ => rfl) ?_
      refine zf_goto (tgt := 1411) dL_law_941 rfl ?_
      refine zf_ii (y := i + 6) (L2 := [some (.inr (.inr (5, 0))), some (.inr (.inr (1, 0))), some (.inr (.inr (1, 63))), some (.inl (i + 6))]) (pc' := 1414) dL_law_1411 rfl rfl rfl rfl rfl ?_
      refine zf_goto (tgt := 18) dL_law_1414 rfl ?_
      exact ih (i + 6) m2 (by omega) (by omega) (by omega) h
    · refine zf_ld (pc' := 945) (v := .inr (.inr (1, 0))) dL_law_944 rfl (fun _ _ _ => rfl) rfl rfl rfl ?_
      refine zf_ld (pc' := 946) (v := .inr (.inr (5, 0))) dL_law_945 rfl (fun _ _ _ => rfl) rfl rfl rfl ?_
      refine zf_ld (pc' := 947) (v := .inl i) dL_law_946 rfl (fun _ _ _ => rfl) rfl rfl rfl ?_
      refine zf_ic (v := 1) (pc' := 948) dL_law_947 rfl rfl ?_
      refine zf_in (pc' := 949) (S' := [.inl (i + 1), .inr (.inr (5, 0)), .inr (.inr (1, 0))]) dL_law_948 rfl (fun _ _ _ => rfl) ?_
      refine zf_sld (pc' := 950) dL_law_949 rfl (zf_si6 (by rfl : (1 : Int32).toInt = 1) hi0 hi6 hN (by decide)) ?_
      refine zf_iv (k := 90) (pc' := 953) (r := []) dL_law_950 rfl rfl rfl rfl (by decide) rfl rfl rfl (zr_90 (by omega) (hk22 m h (xs (Int32.toInt (i + 1)).toNat))) (zf_kI (fun x1 m1 h => ?_))
      refine zf_in (pc' := 954) (S' := []) dL_law_953 rfl (fun _ _ _ => rfl) ?_
      refine zf_ld (pc' := 955) (v := .inr (.inr (1, 63))) dL_law_954 rfl (fun _ _ _ => rfl) rfl rfl rfl ?_
      refine zf_ld (pc' := 956) (v := .inr (.inr (5, 0))) dL_law_955 rfl (fun _ _ _ => rfl) rfl rfl rfl ?_
      refine zf_ld (pc' := 957) (v := .inl i) dL_law_956 rfl (fun _ _ _ => rfl) rfl rfl rfl ?_
      refine zf_ic (v := 1) (pc' := 958) dL_law_957 rfl rfl ?_
      refine zf_in (pc' := 959) (S' := [.inl (i + 1), .inr (.inr (5, 0)), .inr (.inr (1, 63))]) dL_law_958 rfl (fun _ _ _ => rfl) ?_
      refine zf_sld (pc' := 960) dL_law_959 rfl (zf_si6 (by rfl : (1 : Int32).toInt = 1) hi0 hi6 hN (by decide)) ?_
      refine zf_iv (k := 185) (pc' := 963) (r := []) dL_law_960 rfl rfl rfl rfl (by decide) rfl rfl rfl (zr_185 (by omega) h) (zf_kI (fun x2 m2 h => ?_))
      refine zf_in (pc' := 964) (S' := []) dL_law_963 rfl (fun _ _ _ => rfl) ?_
      refine zf_goto (tgt := 1411) dL_law_964 rfl ?_
      refine zf_ii (y := i + 6) (L2 := [some (.inr (.inr (5, 0))), some (.inr (.inr (1, 0))), some (.inr (.inr (1, 63))), some (.inl (i + 6))]) (pc' := 1414) dL_law_1411 rfl rfl rfl rfl rfl ?_
      refine zf_goto (tgt := 18) dL_law_1414 rfl ?_
      exact ih (i + 6) m2 (by omega) (by omega) (by omega) h
    · refine zf_ld (pc' := 968) (v := .inr (.inr (1, 0))) dL_law_967 rfl (fun _ _ _ => rfl) rfl rfl rfl ?_
      refine zf_ld (pc' := 969) (v := .inr (.inr (5, 0))) dL_law_968 rfl (fun _ _ _ => rfl) rfl rfl rfl ?_
      refine zf_ld (pc' := 970) (v := .inl i) dL_law_969 rfl (fun _ _ _ => rfl) rfl rfl rfl ?_
      refine zf_ic (v := 1) (pc' := 971) dL_law_970 rfl rfl ?_
      refine zf_in (pc' := 972) (S' := [.inl (i + 1), .inr (.inr (5, 0)), .inr (.inr (1, 0))]) dL_law_971 rfl (fun _ _ _ => rfl) ?_
      refine zf_sld (pc' := 973) dL_law_972 rfl (zf_si6 (by rfl : (1 : Int32).toInt = 1) hi0 hi6 hN (by decide)) ?_
      refine zf_ld (pc' := 974) (v := .inr (.inr (5, 0))) dL_law_973 rfl (fun _ _ _ => rfl) rfl rfl rfl ?_
      refine zf_ld (pc' := 975) (v := .inl i) dL_law_974 rfl (fun _ _ _ => rfl) rfl rfl rfl ?_
      refine zf_ic (v := 2) (pc' := 976) dL_law_975 rfl rfl ?_
      refine zf_in (pc' := 977) (S' := [.inl (i + 2), .inr (.inr (5, 0)), .inl (xs (Int32.toInt (i + 1)).toNat), .inr (.inr (1, 0))]) dL_law_976 rfl (fun _ _ _ => rfl) ?_
      refine zf_sld (pc' := 978) dL_law_977 rfl (zf_si6 (by rfl : (2 : Int32).toInt = 2) hi0 hi6 hN (by decide)) ?_
      refine zf_iv (k := 91) (pc' := 981) (r := []) dL_law_978 rfl rfl rfl rfl (by decide) rfl rfl rfl (zr_91 (by omega) (hk23 m h (xs (Int32.toInt (i + 1)).toNat) (xs (Int32.toInt (i + 2)).toNat))) (zf_kI (fun x1 m1 h => ?_))
      refine zf_in (pc' := 982) (S' := []) dL_law_981 rfl (fun _ _ _ => rfl) ?_
      refine zf_ld (pc' := 983) (v := .inr (.inr (1, 63))) dL_law_982 rfl (fun _ _ _ => rfl) rfl rfl rfl ?_
      refine zf_ld (pc' := 984) (v := .inr (.inr (5, 0))) dL_law_983 rfl (fun _ _ _ => rfl) rfl rfl rfl ?_
      refine zf_ld (pc' := 985) (v := .inl i) dL_law_984 rfl (fun _ _ _ => rfl) rfl rfl rfl ?_
      refine zf_ic (v := 1) (pc' := 986) dL_law_985 rfl rfl ?_
      refine zf_in (pc' := 987) (S' := [.inl (i + 1), .inr (.inr (5, 0)), .inr (.inr (1, 63))]) dL_law_986 rfl (fun _ _ _ => rfl) ?_
      refine zf_sld (pc' := 988) dL_law_987 rfl (zf_si6 (by rfl : (1 : Int32).toInt = 1) hi0 hi6 hN (by decide)) ?_
      refine zf_ld (pc' := 989) (v := .inr (.inr (5, 0))) dL_law_988 rfl (fun _ _ _ => rfl) rfl rfl rfl ?_
      refine zf_ld (pc' := 990) (v := .inl i) dL_law_989 rfl (fun _ _ _ => rfl) rfl rfl rfl ?_
      refine zf_ic (v := 2) (pc' := 991) dL_law_990 rfl rfl ?_
      refine zf_in (pc' := 992) (S' := [.inl (i + 2), .inr (.inr (5, 0)), .inl (xs (Int32.toInt (i + 1)).toNat), .inr (.inr (1, 63))]) dL_law_991 rfl (fun _ _ _ => rfl) ?_
      refine zf_sld (pc' := 993) dL_law_992 rfl (zf_si6 (by rfl : (2 : Int32).toInt = 2) hi0 hi6 hN (by decide)) ?_
      refine zf_iv (k := 186) (pc' := 996) (r := []) dL_law_993 rfl rfl rfl rfl (by decide) rfl rfl rfl (zr_186 (by omega) h) (zf_kI (fun x2 m2 h => ?_))
      refine zf_in (pc' := 997) (S' := []) dL_law_996 rfl (fun _ _ _ => rfl) ?_
      refine zf_goto (tgt := 1411) dL_law_997 rfl ?_
      refine zf_ii (y := i + 6) (L2 := [some (.inr (.inr (5, 0))), some (.inr (.inr (1, 0))), some (.inr (.inr (1, 63))), some (.inl (i + 6))]) (pc' := 1414) dL_law_1411 rfl rfl rfl rfl rfl ?_
      refine zf_goto (tgt := 18) dL_law_1414 rfl ?_
      exact ih (i + 6) m2 (by omega) (by omega) (by omega) h
    · refine zf_ld (pc' := 1001) (v := .inr (.inr (1, 0))) dL_law_1000 rfl (fun _ _ _ => rfl) rfl rfl rfl ?_
      refine zf_ld (pc' := 1002) (v := .inr (.inr (5, 0))) dL_law_1001 rfl (fun _ _ _ => rfl) rfl rfl rfl ?_
      refine zf_ld (pc' := 1003) (v := .inl i) dL_law_1002 rfl (fun _ _ _ => rfl) rfl rfl rfl ?_
      refine zf_ic (v := 1) (pc' := 1004) dL_law_1003 rfl rfl ?_
      refine zf_in (pc' := 1005) (S' := [.inl (i + 1), .inr (.inr (5, 0)), .inr (.inr (1, 0))]) dL_law_1004 rfl (fun _ _ _ => rfl) ?_
      refine zf_sld (pc' := 1006) dL_law_1005 rfl (zf_si6 (by rfl : (1 : Int32).toInt = 1) hi0 hi6 hN (by decide)) ?_
      refine zf_iv (k := 92) (pc' := 1009) (r := []) dL_law_1006 rfl rfl rfl rfl (by decide) rfl rfl rfl (zr_92 (by omega) (hk24 m h (xs (Int32.toInt (i + 1)).toNat))) (zf_kI (fun x1 m1 h => ?_))
      refine zf_in (pc' := 1010) (S' := []) dL_law_1009 rfl (fun _ _ _ => rfl) ?_
      refine zf_ld (pc' := 1011) (v := .inr (.inr (1, 63))) dL_law_1010 rfl (fun _ _ _ => rfl) rfl rfl rfl ?_
      refine zf_ld (pc' := 1012) (v := .inr (.inr (5, 0))) dL_law_1011 rfl (fun _ _ _ => rfl) rfl rfl rfl ?_
      refine zf_ld (pc' := 1013) (v := .inl i) dL_law_1012 rfl (fun _ _ _ => rfl) rfl rfl rfl ?_
      refine zf_ic (v := 1) (pc' := 1014) dL_law_1013 rfl rfl ?_
      refine zf_in (pc' := 1015) (S' := [.inl (i + 1), .inr (.inr (5, 0)), .inr (.inr (1, 63))]) dL_law_1014 rfl (fun _ _ _ => rfl) ?_
      refine zf_sld (pc' := 1016) dL_law_1015 rfl (zf_si6 (by rfl : (1 : Int32).toInt = 1) hi0 hi6 hN (by decide)) ?_
      refine zf_iv (k := 187) (pc' := 1019) (r := []) dL_law_1016 rfl rfl rfl rfl (by decide) rfl rfl rfl (zr_187 (by omega) h) (zf_kI (fun x2 m2 h => ?_))
      refine zf_in (pc' := 1020) (S' := []) dL_law_1019 rfl (fun _ _ _ => rfl) ?_
      refine zf_goto (tgt := 1411) dL_law_1020 rfl ?_
      refine zf_ii (y := i + 6) (L2 := [some (.inr (.inr (5, 0))), some (.inr (.inr (1, 0))), some (.inr (.inr (1, 63))), some (.inl (i + 6))]) (pc' := 1414) dL_law_1411 rfl rfl rfl rfl rfl ?_
      refine zf_goto (tgt := 18) dL_law_1414 rfl ?_
      exact ih (i + 6) m2 (by omega) (by omega) (by omega) h
    · refine zf_ld (pc' := 1024) (v := .inr (.inr (1, 0))) dL_law_1023 rfl (fun _ _ _ => rfl) rfl rfl rfl ?_
      refine zf_ld (pc' := 1025) (v := .inr (.inr (5, 0))) dL_law_1024 rfl (fun _ _ _ => rfl) rfl rfl rfl ?_
      refine zf_ld (pc' := 1026) (v := .inl i) dL_law_1025 rfl (fun _ _ _ => rfl) rfl rfl rfl ?_
      refine zf_ic (v := 1) (pc' := 1027) dL_law_1026 rfl rfl ?_
      refine zf_in (pc' := 1028) (S' := [.inl (i + 1), .inr (.inr (5, 0)), .inr (.inr (1, 0))]) dL_law_1027 rfl (fun _ _ _ => rfl) ?_
      refine zf_sld (pc' := 1029) dL_law_1028 rfl (zf_si6 (by rfl : (1 : Int32).toInt = 1) hi0 hi6 hN (by decide)) ?_
      refine zf_iv (k := 93) (pc' := 1032) (r := []) dL_law_1029 rfl rfl rfl rfl (by decide) rfl rfl rfl (zr_93 (by omega) (hk25 m h (xs (Int32.toInt (i + 1)).toNat))) (zf_kI (fun x1 m1 h => ?_))
      refine zf_in (pc' := 1033) (S' := []) dL_law_1032 rfl (fun _ _ _ => rfl) ?_
      refine zf_ld (pc' := 1034) (v := .inr (.inr (1, 63))) dL_law_1033 rfl (fun _ _ _ => rfl) rfl rfl rfl ?_
      refine zf_ld (pc' := 1035) (v := .inr (.inr (5, 0))) dL_law_1034 rfl (fun _ _ _ => rfl) rfl rfl rfl ?_
      refine zf_ld (pc' := 1036) (v := .inl i) dL_law_1035 rfl (fun _ _ _ => rfl) rfl rfl rfl ?_
      refine zf_ic (v := 1) (pc' := 1037) dL_law_1036 rfl rfl ?_
      refine zf_in (pc' := 1038) (S' := [.inl (i + 1), .inr (.inr (5, 0)), .inr (.inr (1, 63))]) dL_law_1037 rfl (fun _ _ _ => rfl) ?_
      refine zf_sld (pc' := 1039) dL_law_1038 rfl (zf_si6 (by rfl : (1 : Int32).toInt = 1) hi0 hi6 hN (by decide)) ?_
      refine zf_iv (k := 188) (pc' := 1042) (r := []) dL_law_1039 rfl rfl rfl rfl (by decide) rfl rfl rfl (zr_188 (by omega) h) (zf_kI (fun x2 m2 h => ?_))
      refine zf_in (pc' := 1043) (S' := []) dL_law_1042 rfl (fun _ _ _ => rfl) ?_
      refine zf_goto (tgt := 1411) dL_law_1043 rfl ?_
      refine zf_ii (y := i + 6) (L2 := [some (.inr (.inr (5, 0))), some (.inr (.inr (1, 0))), some (.inr (.inr (1, 63))), some (.inl (i + 6))]) (pc' := 1414) dL_law_1411 rfl rfl rfl rfl rfl ?_
      refine zf_goto (tgt := 18) dL_law_1414 rfl ?_
      exact ih (i + 6) m2 (by omega) (by omega) (by omega) h
    · refine zf_ld (pc' := 1047) (v := .inr (.inr (1, 0))) dL_law_1046 rfl (fun _ _ _ => rfl) rfl rfl rfl ?_
      refine zf_ld (pc' := 1048) (v := .inr (.inr (5, 0))) dL_law_1047 rfl (fun _ _ _ => rfl) rfl rfl rfl ?_
      refine zf_ld (pc' := 1049) (v := .inl i) dL_law_1048 rfl (fun _ _ _ => rfl) rfl rfl rfl ?_
      refine zf_ic (v := 1) (pc' := 1050) dL_law_1049 rfl rfl ?_
      refine zf_in (pc' := 1051) (S' := [.inl (i + 1), .inr (.inr (5, 0)), .inr (.inr (1, 0))]) dL_law_1050 rfl (fun _ _ _ => rfl) ?_
      refine zf_sld (pc' := 1052) dL_law_1051 rfl (zf_si6 (by rfl : (1 : Int32).toInt = 1) hi0 hi6 hN (by decide)) ?_
      refine zf_ld (pc' := 1053) (v := .inr (.inr (5, 0))) dL_law_1052 rfl (fun _ _ _ => rfl) rfl rfl rfl ?_
      refine zf_ld (pc' := 1054) (v := .inl i) dL_law_1053 rfl (fun _ _ _ => rfl) rfl rfl rfl ?_
      refine zf_ic (v := 2) (pc' := 1055) dL_law_1054 rfl rfl ?_
      refine zf_in (pc' := 1056) (S' := [.inl (i + 2), .inr (.inr (5, 0)), .inl (xs (Int32.toInt (i + 1)).toNat), .inr (.inr (1, 0))]) dL_law_1055 rfl (fun _ _ _ => rfl) ?_
      refine zf_sld (pc' := 1057) dL_law_1056 rfl (zf_si6 (by rfl : (2 : Int32).toInt = 2) hi0 hi6 hN (by decide)) ?_
      refine zf_iv (k := 94) (pc' := 1060) (r := []) dL_law_1057 rfl rfl rfl rfl (by decide) rfl rfl rfl (zr_94 (by omega) (hk26 m h (xs (Int32.toInt (i + 1)).toNat) (xs (Int32.toInt (i + 2)).toNat))) (zf_kI (fun x1 m1 h => ?_))
      refine zf_in (pc' := 1061) (S' := []) dL_law_1060 rfl (fun _ _ _ => rfl) ?_
      refine zf_ld (pc' := 1062) (v := .inr (.inr (1, 63))) dL_law_1061 rfl (fun _ _ _ => rfl) rfl rfl rfl ?_
      refine zf_ld (pc' := 1063) (v := .inr (.inr (5, 0))) dL_law_1062 rfl (fun _ _ _ => rfl) rfl rfl rfl ?_
      refine zf_ld (pc' := 1064) (v := .inl i) dL_law_1063 rfl (fun _ _ _ => rfl) rfl rfl rfl ?_
      refine zf_ic (v := 1) (pc' := 1065) dL_law_1064 rfl rfl ?_
      refine zf_in (pc' := 1066) (S' := [.inl (i + 1), .inr (.inr (5, 0)), .inr (.inr (1, 63))]) dL_law_1065 rfl (fun _ _ _ => rfl) ?_
      refine zf_sld (pc' := 1067) dL_law_1066 rfl (zf_si6 (by rfl : (1 : Int32).toInt = 1) hi0 hi6 hN (by decide)) ?_
      refine zf_ld (pc' := 1068) (v := .inr (.inr (5, 0))) dL_law_1067 rfl (fun _ _ _ => rfl) rfl rfl rfl ?_
      refine zf_ld (pc' := 1069) (v := .inl i) dL_law_1068 rfl (fun _ _ _ => rfl) rfl rfl rfl ?_
      refine zf_ic (v := 2) (pc' := 1070) dL_law_1069 rfl rfl ?_
      refine zf_in (pc' := 1071) (S' := [.inl (i + 2), .inr (.inr (5, 0)), .inl (xs (Int32.toInt (i + 1)).toNat), .inr (.inr (1, 63))]) dL_law_1070 rfl (fun _ _ _ => rfl) ?_
      refine zf_sld (pc' := 1072) dL_law_1071 rfl (zf_si6 (by rfl : (2 : Int32).toInt = 2) hi0 hi6 hN (by decide)) ?_
      refine zf_iv (k := 191) (pc' := 1075) (r := []) dL_law_1072 rfl rfl rfl rfl (by decide) rfl rfl rfl (zr_191 (by omega) h) (zf_kI (fun x2 m2 h => ?_))
      refine zf_in (pc' := 1076) (S' := []) dL_law_1075 rfl (fun _ _ _ => rfl) ?_
      refine zf_goto (tgt := 1411) dL_law_1076 rfl ?_
      refine zf_ii (y := i + 6) (L2 := [some (.inr (.inr (5, 0))), some (.inr (.inr (1, 0))), some (.inr (.inr (1, 63))), some (.inl (i + 6))]) (pc' := 1414) dL_law_1411 rfl rfl rfl rfl rfl ?_
      refine zf_goto (tgt := 18) dL_law_1414 rfl ?_
      exact ih (i + 6) m2 (by omega) (by omega) (by omega) h
    · refine zf_ld (pc' := 1080) (v := .inr (.inr (1, 0))) dL_law_1079 rfl (fun _ _ _ => rfl) rfl rfl rfl ?_
      refine zf_ld (pc' := 1081) (v := .inr (.inr (5, 0))) dL_law_1080 rfl (fun _ _ _ => rfl) rfl rfl rfl ?_
      refine zf_ld (pc' := 1082) (v := .inl i) dL_law_1081 rfl (fun _ _ _ => rfl) rfl rfl rfl ?_
      refine zf_ic (v := 1) (pc' := 1083) dL_law_1082 rfl rfl ?_
      refine zf_in (pc' := 1084) (S' := [.inl (i + 1), .inr (.inr (5, 0)), .inr (.inr (1, 0))]) dL_law_1083 rfl (fun _ _ _ => rfl) ?_
      refine zf_sld (pc' := 1085) dL_law_1084 rfl (zf_si6 (by rfl : (1 : Int32).toInt = 1) hi0 hi6 hN (by decide)) ?_
      refine zf_ld (pc' := 1086) (v := .inr (.inr (5, 0))) dL_law_1085 rfl (fun _ _ _ => rfl) rfl rfl rfl ?_
      refine zf_ld (pc' := 1087) (v := .inl i) dL_law_1086 rfl (fun _ _ _ => rfl) rfl rfl rfl ?_
      refine zf_ic (v := 2) (pc' := 1088) dL_law_1087 rfl rfl ?_
      refine zf_in (pc' := 1089) (S' := [.inl (i + 2), .inr (.inr (5, 0)), .inl (xs (Int32.toInt (i + 1)).toNat), .inr (.inr (1, 0))]) dL_law_1088 rfl (fun _ _ _ => rfl) ?_
      refine zf_sld (pc' := 1090) dL_law_1089 rfl (zf_si6 (by rfl : (2 : Int32).toInt = 2) hi0 hi6 hN (by decide)) ?_
      refine zf_ld (pc' := 1091) (v := .inr (.inr (5, 0))) dL_law_1090 rfl (fun _ _ _ => rfl) rfl rfl rfl ?_
      refine zf_ld (pc' := 1092) (v := .inl i) dL_law_1091 rfl (fun _ _ _ => rfl) rfl rfl rfl ?_
      refine zf_ic (v := 3) (pc' := 1093) dL_law_1092 rfl rfl ?_
      refine zf_in (pc' := 1094) (S' := [.inl (i + 3), .inr (.inr (5, 0)), .inl (xs (Int32.toInt (i + 2)).toNat), .inl (xs (Int32.toInt (i + 1)).toNat), .inr (.inr (1, 0))]) dL_law_1093 rfl (fun _ _ _ => rfl) ?_
      refine zf_sld (pc' := 1095) dL_law_1094 rfl (zf_si6 (by rfl : (3 : Int32).toInt = 3) hi0 hi6 hN (by decide)) ?_
      refine zf_iv (k := 95) (pc' := 1098) (r := []) dL_law_1095 rfl rfl rfl rfl (by decide) rfl rfl rfl (zr_95 (by omega) (hk27 m h (xs (Int32.toInt (i + 1)).toNat) (xs (Int32.toInt (i + 2)).toNat) (xs (Int32.toInt (i + 3)).toNat))) (zf_kI (fun x1 m1 h => ?_))
      refine zf_in (pc' := 1099) (S' := []) dL_law_1098 rfl (fun _ _ _ => rfl) ?_
      refine zf_ld (pc' := 1100) (v := .inr (.inr (1, 63))) dL_law_1099 rfl (fun _ _ _ => rfl) rfl rfl rfl ?_
      refine zf_ld (pc' := 1101) (v := .inr (.inr (5, 0))) dL_law_1100 rfl (fun _ _ _ => rfl) rfl rfl rfl ?_
      refine zf_ld (pc' := 1102) (v := .inl i) dL_law_1101 rfl (fun _ _ _ => rfl) rfl rfl rfl ?_
      refine zf_ic (v := 1) (pc' := 1103) dL_law_1102 rfl rfl ?_
      refine zf_in (pc' := 1104) (S' := [.inl (i + 1), .inr (.inr (5, 0)), .inr (.inr (1, 63))]) dL_law_1103 rfl (fun _ _ _ => rfl) ?_
      refine zf_sld (pc' := 1105) dL_law_1104 rfl (zf_si6 (by rfl : (1 : Int32).toInt = 1) hi0 hi6 hN (by decide)) ?_
      refine zf_ld (pc' := 1106) (v := .inr (.inr (5, 0))) dL_law_1105 rfl (fun _ _ _ => rfl) rfl rfl rfl ?_
      refine zf_ld (pc' := 1107) (v := .inl i) dL_law_1106 rfl (fun _ _ _ => rfl) rfl rfl rfl ?_
      refine zf_ic (v := 2) (pc' := 1108) dL_law_1107 rfl rfl ?_
      refine zf_in (pc' := 1109) (S' := [.inl (i + 2), .inr (.inr (5, 0)), .inl (xs (Int32.toInt (i + 1)).toNat), .inr (.inr (1, 63))]) dL_law_1108 rfl (fun _ _ _ => rfl) ?_
      refine zf_sld (pc' := 1110) dL_law_1109 rfl (zf_si6 (by rfl : (2 : Int32).toInt = 2) hi0 hi6 hN (by decide)) ?_
      refine zf_ld (pc' := 1111) (v := .inr (.inr (5, 0))) dL_law_1110 rfl (fun _ _ _ => rfl) rfl rfl rfl ?_
      refine zf_ld (pc' := 1112) (v := .inl i) dL_law_1111 rfl (fun _ _ _ => rfl) rfl rfl rfl ?_
      refine zf_ic (v := 3) (pc' := 1113) dL_law_1112 rfl rfl ?_
      refine zf_in (pc' := 1114) (S' := [.inl (i + 3), .inr (.inr (5, 0)), .inl (xs (Int32.toInt (i + 2)).toNat), .inl (xs (Int32.toInt (i + 1)).toNat), .inr (.inr (1, 63))]) dL_law_1113 rfl (fun _ _ _ => rfl) ?_
      refine zf_sld (pc' := 1115) dL_law_1114 rfl (zf_si6 (by rfl : (3 : Int32).toInt = 3) hi0 hi6 hN (by decide)) ?_
      refine zf_iv (k := 192) (pc' := 1118) (r := []) dL_law_1115 rfl rfl rfl rfl (by decide) rfl rfl rfl (zr_192 (by omega) h) (zf_kI (fun x2 m2 h => ?_))
      refine zf_in (pc' := 1119) (S' := []) dL_law_1118 rfl (fun _ _ _ => rfl) ?_
      refine zf_goto (tgt := 1411) dL_law_1119 rfl ?_
      refine zf_ii (y := i + 6) (L2 := [some (.inr (.inr (5, 0))), some (.inr (.inr (1, 0))), some (.inr (.inr (1, 63))), some (.inl (i + 6))]) (pc' := 1414) dL_law_1411 rfl rfl rfl rfl rfl ?_
      refine zf_goto (tgt := 18) dL_law_1414 rfl ?_
      exact ih (i + 6) m2 (by omega) (by omega) (by omega) h
    · refine zf_ld (pc' := 1123) (v := .inr (.inr (1, 0))) dL_law_1122 rfl (fun _ _ _ => rfl) rfl rfl rfl ?_
      refine zf_ld (pc' := 1124) (v := .inr (.inr (5, 0))) dL_law_1123 rfl (fun _ _ _ => rfl) rfl rfl rfl ?_
      refine zf_ld (pc' := 1125) (v := .inl i) dL_law_1124 rfl (fun _ _ _ => rfl) rfl rfl rfl ?_
      refine zf_ic (v := 1) (pc' := 1126) dL_law_1125 rfl rfl ?_
      refine zf_in (pc' := 1127) (S' := [.inl (i + 1), .inr (.inr (5, 0)), .inr (.inr (1, 0))]) dL_law_1126 rfl (fun _ _ _ => rfl) ?_
      refine zf_sld (pc' := 1128) dL_law_1127 rfl (zf_si6 (by rfl : (1 : Int32).toInt = 1) hi0 hi6 hN (by decide)) ?_
      refine zf_ld (pc' := 1129) (v := .inr (.inr (5, 0))) dL_law_1128 rfl (fun _ _ _ => rfl) rfl rfl rfl ?_
      refine zf_ld (pc' := 1130) (v := .inl i) dL_law_1129 rfl (fun _ _ _ => rfl) rfl rfl rfl ?_
      refine zf_ic (v := 2) (pc' := 1131) dL_law_1130 rfl rfl ?_
      refine zf_in (pc' := 1132) (S' := [.inl (i + 2), .inr (.inr (5, 0)), .inl (xs (Int32.toInt (i + 1)).toNat), .inr (.inr (1, 0))]) dL_law_1131 rfl (fun _ _ _ => rfl) ?_
      refine zf_sld (pc' := 1133) dL_law_1132 rfl (zf_si6 (by rfl : (2 : Int32).toInt = 2) hi0 hi6 hN (by decide)) ?_
      refine zf_iv (k := 96) (pc' := 1136) (r := []) dL_law_1133 rfl rfl rfl rfl (by decide) rfl rfl rfl (zr_96 (by omega) (hk28 m h (xs (Int32.toInt (i + 1)).toNat) (xs (Int32.toInt (i + 2)).toNat))) (zf_kI (fun x1 m1 h => ?_))
      refine zf_in (pc' := 1137) (S' := []) dL_law_1136 rfl (fun _ _ _ => rfl) ?_
      refine zf_ld (pc' := 1138) (v := .inr (.inr (1, 63))) dL_law_1137 rfl (fun _ _ _ => rfl) rfl rfl rfl ?_
      refine zf_ld (pc' := 1139) (v := .inr (.inr (5, 0))) dL_law_1138 rfl (fun _ _ _ => rfl) rfl rfl rfl ?_
      refine zf_ld (pc' := 1140) (v := .inl i) dL_law_1139 rfl (fun _ _ _ => rfl) rfl rfl rfl ?_
      refine zf_ic (v := 1) (pc' := 1141) dL_law_1140 rfl rfl ?_
      refine zf_in (pc' := 1142) (S' := [.inl (i + 1), .inr (.inr (5, 0)), .inr (.inr (1, 63))]) dL_law_1141 rfl (fun _ _ _ => rfl) ?_
      refine zf_sld (pc' := 1143) dL_law_1142 rfl (zf_si6 (by rfl : (1 : Int32).toInt = 1) hi0 hi6 hN (by decide)) ?_
      refine zf_ld (pc' := 1144) (v := .inr (.inr (5, 0))) dL_law_1143 rfl (fun _ _ _ => rfl) rfl rfl rfl ?_
      refine zf_ld (pc' := 1145) (v := .inl i) dL_law_1144 rfl (fun _ _ _ => rfl) rfl rfl rfl ?_
      refine zf_ic (v := 2) (pc' := 1146) dL_law_1145 rfl rfl ?_
      refine zf_in (pc' := 1147) (S' := [.inl (i + 2), .inr (.inr (5, 0)), .inl (xs (Int32.toInt (i + 1)).toNat), .inr (.inr (1, 63))]) dL_law_1146 rfl (fun _ _ _ => rfl) ?_
      refine zf_sld (pc' := 1148) dL_law_1147 rfl (zf_si6 (by rfl : (2 : Int32).toInt = 2) hi0 hi6 hN (by decide)) ?_
      refine zf_iv (k := 193) (pc' := 1151) (r := []) dL_law_1148 rfl rfl rfl rfl (by decide) rfl rfl rfl (zr_193 (by omega) h) (zf_kI (fun x2 m2 h => ?_))
      refine zf_in (pc' := 1152) (S' := []) dL_law_1151 rfl (fun _ _ _ => rfl) ?_
      refine zf_goto (tgt := 1411) dL_law_1152 rfl ?_
      refine zf_ii (y := i + 6) (L2 := [some (.inr (.inr (5, 0))), some (.inr (.inr (1, 0))), some (.inr (.inr (1, 63))), some (.inl (i + 6))]) (pc' := 1414) dL_law_1411 rfl rfl rfl rfl rfl ?_
      refine zf_goto (tgt := 18) dL_law_1414 rfl ?_
      exact ih (i + 6) m2 (by omega) (by omega) (by omega) h
    · refine zf_ld (pc' := 1156) (v := .inr (.inr (1, 0))) dL_law_1155 rfl (fun _ _ _ => rfl) rfl rfl rfl ?_
      refine zf_ld (pc' := 1157) (v := .inr (.inr (5, 0))) dL_law_1156 rfl (fun _ _ _ => rfl) rfl rfl rfl ?_
      refine zf_ld (pc' := 1158) (v := .inl i) dL_law_1157 rfl (fun _ _ _ => rfl) rfl rfl rfl ?_
      refine zf_ic (v := 1) (pc' := 1159) dL_law_1158 rfl rfl ?_
      refine zf_in (pc' := 1160) (S' := [.inl (i + 1), .inr (.inr (5, 0)), .inr (.inr (1, 0))]) dL_law_1159 rfl (fun _ _ _ => rfl) ?_
      refine zf_sld (pc' := 1161) dL_law_1160 rfl (zf_si6 (by rfl : (1 : Int32).toInt = 1) hi0 hi6 hN (by decide)) ?_
      refine zf_iv (k := 97) (pc' := 1164) (r := []) dL_law_1161 rfl rfl rfl rfl (by decide) rfl rfl rfl (zr_97 (by omega) (hk29 m h (xs (Int32.toInt (i + 1)).toNat))) (zf_kI (fun x1 m1 h => ?_))
      refine zf_in (pc' := 1165) (S' := []) dL_law_1164 rfl (fun _ _ _ => rfl) ?_
      refine zf_ld (pc' := 1166) (v := .inr (.inr (1, 63))) dL_law_1165 rfl (fun _ _ _ => rfl) rfl rfl rfl ?_
      refine zf_ld (pc' := 1167) (v := .inr (.inr (5, 0))) dL_law_1166 rfl (fun _ _ _ => rfl) rfl rfl rfl ?_
      refine zf_ld (pc' := 1168) (v := .inl i) dL_law_1167 rfl (fun _ _ _ => rfl) rfl rfl rfl ?_
      refine zf_ic (v := 1) (pc' := 1169) dL_law_1168 rfl rfl ?_
      refine zf_in (pc' := 1170) (S' := [.inl (i + 1), .inr (.inr (5, 0)), .inr (.inr (1, 63))]) dL_law_1169 rfl (fun _ _ _ => rfl) ?_
      refine zf_sld (pc' := 1171) dL_law_1170 rfl (zf_si6 (by rfl : (1 : Int32).toInt = 1) hi0 hi6 hN (by decide)) ?_
      refine zf_iv (k := 194) (pc' := 1174) (r := []) dL_law_1171 rfl rfl rfl rfl (by decide) rfl rfl rfl (zr_194 (by omega) h) (zf_kI (fun x2 m2 h => ?_))
      refine zf_in (pc' := 1175) (S' := []) dL_law_1174 rfl (fun _ _ _ => rfl) ?_
      refine zf_goto (tgt := 1411) dL_law_1175 rfl ?_
      refine zf_ii (y := i + 6) (L2 := [some (.inr (.inr (5, 0))), some (.inr (.inr (1, 0))), some (.inr (.inr (1, 63))), some (.inl (i + 6))]) (pc' := 1414) dL_law_1411 rfl rfl rfl rfl rfl ?_
      refine zf_goto (tgt := 18) dL_law_1414 rfl ?_
      exact ih (i + 6) m2 (by omega) (by omega) (by omega) h
    · refine zf_ld (pc' := 1179) (v := .inr (.inr (1, 0))) dL_law_1178 rfl (fun _ _ _ => rfl) rfl rfl rfl ?_
      refine zf_iv (k := 98) (pc' := 1182) (r := []) dL_law_1179 rfl rfl rfl rfl (by decide) rfl rfl rfl (zr_98 (by omega) (hk30 m h)) (zf_kI (fun x1 m1 h => ?_))
      refine zf_in (pc' := 1183) (S' := []) dL_law_1182 rfl (fun _ _ _ => rfl) ?_
      refine zf_ld (pc' := 1184) (v := .inr (.inr (1, 63))) dL_law_1183 rfl (fun _ _ _ => rfl) rfl rfl rfl ?_
      refine zf_iv (k := 195) (pc' := 1187) (r := []) dL_law_1184 rfl rfl rfl rfl (by decide) rfl rfl rfl (zr_195 (by omega) h) (zf_kI (fun x2 m2 h => ?_))
      refine zf_in (pc' := 1188) (S' := []) dL_law_1187 rfl (fun _ _ _ => rfl) ?_
      refine zf_goto (tgt := 1411) dL_law_1188 rfl ?_
      refine zf_ii (y := i + 6) (L2 := [some (.inr (.inr (5, 0))), some (.inr (.inr (1, 0))), some (.inr (.inr (1, 63))), some (.inl (i + 6))]) (pc' := 1414) dL_law_1411 rfl rfl rfl rfl rfl ?_
      refine zf_goto (tgt := 18) dL_law_1414 rfl ?_
      exact ih (i + 6) m2 (by omega) (by omega) (by omega) h
    · refine zf_ld (pc' := 1192) (v := .inr (.inr (1, 0))) dL_law_1191 rfl (fun _ _ _ => rfl) rfl rfl rfl ?_
      refine zf_ld (pc' := 1193) (v := .inr (.inr (5, 0))) dL_law_1192 rfl (fun _ _ _ => rfl) rfl rfl rfl ?_
      refine zf_ld (pc' := 1194) (v := .inl i) dL_law_1193 rfl (fun _ _ _ => rfl) rfl rfl rfl ?_
      refine zf_ic (v := 1) (pc' := 1195) dL_law_1194 rfl rfl ?_
      refine zf_in (pc' := 1196) (S' := [.inl (i + 1), .inr (.inr (5, 0)), .inr (.inr (1, 0))]) dL_law_1195 rfl (fun _ _ _ => rfl) ?_
      refine zf_sld (pc' := 1197) dL_law_1196 rfl (zf_si6 (by rfl : (1 : Int32).toInt = 1) hi0 hi6 hN (by decide)) ?_
      refine zf_iv (k := 99) (pc' := 1200) (r := []) dL_law_1197 rfl rfl rfl rfl (by decide) rfl rfl rfl (zr_99 (by omega) (hk31 m h (xs (Int32.toInt (i + 1)).toNat))) (zf_kI (fun x1 m1 h => ?_))
      refine zf_in (pc' := 1201) (S' := []) dL_law_1200 rfl (fun _ _ _ => rfl) ?_
      refine zf_ld (pc' := 1202) (v := .inr (.inr (1, 63))) dL_law_1201 rfl (fun _ _ _ => rfl) rfl rfl rfl ?_
      refine zf_ld (pc' := 1203) (v := .inr (.inr (5, 0))) dL_law_1202 rfl (fun _ _ _ => rfl) rfl rfl rfl ?_
      refine zf_ld (pc' := 1204) (v := .inl i) dL_law_1203 rfl (fun _ _ _ => rfl) rfl rfl rfl ?_
      refine zf_ic (v := 1) (pc' := 1205) dL_law_1204 rfl rfl ?_
      refine zf_in (pc' := 1206) (S' := [.inl (i + 1), .inr (.inr (5, 0)), .inr (.inr (1, 63))]) dL_law_1205 rfl (fun _ _ _ => rfl) ?_
      refine zf_sld (pc' := 1207) dL_law_1206 rfl (zf_si6 (by rfl : (1 : Int32).toInt = 1) hi0 hi6 hN (by decide)) ?_
      refine zf_iv (k := 196) (pc' := 1210) (r := []) dL_law_1207 rfl rfl rfl rfl (by decide) rfl rfl rfl (zr_196 (by omega) h) (zf_kI (fun x2 m2 h => ?_))
      refine zf_in (pc' := 1211) (S' := []) dL_law_1210 rfl (fun _ _ _ => rfl) ?_
      refine zf_goto (tgt := 1411) dL_law_1211 rfl ?_
      refine zf_ii (y := i + 6) (L2 := [some (.inr (.inr (5, 0))), some (.inr (.inr (1, 0))), some (.inr (.inr (1, 63))), some (.inl (i + 6))]) (pc' := 1414) dL_law_1411 rfl rfl rfl rfl rfl ?_
      refine zf_goto (tgt := 18) dL_law_1414 rfl ?_
      exact ih (i + 6) m2 (by omega) (by omega) (by omega) h
    · refine zf_ld (pc' := 1215) (v := .inr (.inr (1, 0))) dL_law_1214 rfl (fun _ _ _ => rfl) rfl rfl rfl ?_
      refine zf_ld (pc' := 1216) (v := .inr (.inr (5, 0))) dL_law_1215 rfl (fun _ _ _ => rfl) rfl rfl rfl ?_
      refine zf_ld (pc' := 1217) (v := .inl i) dL_law_1216 rfl (fun _ _ _ => rfl) rfl rfl rfl ?_
      refine zf_ic (v := 1) (pc' := 1218) dL_law_1217 rfl rfl ?_
      refine zf_in (pc' := 1219) (S' := [.inl (i + 1), .inr (.inr (5, 0)), .inr (.inr (1, 0))]) dL_law_1218 rfl (fun _ _ _ => rfl) ?_
      refine zf_sld (pc' := 1220) dL_law_1219 rfl (zf_si6 (by rfl : (1 : Int32).toInt = 1) hi0 hi6 hN (by decide)) ?_
      refine zf_iv (k := 100) (pc' := 1223) (r := []) dL_law_1220 rfl rfl rfl rfl (by decide) rfl rfl rfl (zr_100 (by omega) (hk32 m h (xs (Int32.toInt (i + 1)).toNat))) (zf_kI (fun x1 m1 h => ?_))
      refine zf_in (pc' := 1224) (S' := []) dL_law_1223 rfl (fun _ _ _ => rfl) ?_
      refine zf_ld (pc' := 1225) (v := .inr (.inr (1, 63))) dL_law_1224 rfl (fun _ _ _ => rfl) rfl rfl rfl ?_
      refine zf_ld (pc' := 1226) (v := .inr (.inr (5, 0))) dL_law_1225 rfl (fun _ _ _ => rfl) rfl rfl rfl ?_
      refine zf_ld (pc' := 1227) (v := .inl i) dL_law_1226 rfl (fun _ _ _ => rfl) rfl rfl rfl ?_
      refine zf_ic (v := 1) (pc' := 1228) dL_law_1227 rfl rfl ?_
      refine zf_in (pc' := 1229) (S' := [.inl (i + 1), .inr (.inr (5, 0)), .inr (.inr (1, 63))]) dL_law_1228 rfl (fun _ _ _ => rfl) ?_
      refine zf_sld (pc' := 1230) dL_law_1229 rfl (zf_si6 (by rfl : (1 : Int32).toInt = 1) hi0 hi6 hN (by decide)) ?_
      refine zf_iv (k := 197) (pc' := 1233) (r := []) dL_law_1230 rfl rfl rfl rfl (by decide) rfl rfl rfl (zr_197 (by omega) h) (zf_kI (fun x2 m2 h => ?_))
      refine zf_in (pc' := 1234) (S' := []) dL_law_1233 rfl (fun _ _ _ => rfl) ?_
      refine zf_goto (tgt := 1411) dL_law_1234 rfl ?_
      refine zf_ii (y := i + 6) (L2 := [some (.inr (.inr (5, 0))), some (.inr (.inr (1, 0))), some (.inr (.inr (1, 63))), some (.inl (i + 6))]) (pc' := 1414) dL_law_1411 rfl rfl rfl rfl rfl ?_
      refine zf_goto (tgt := 18) dL_law_1414 rfl ?_
      exact ih (i + 6) m2 (by omega) (by omega) (by omega) h
    · refine zf_ld (pc' := 1238) (v := .inr (.inr (1, 0))) dL_law_1237 rfl (fun _ _ _ => rfl) rfl rfl rfl ?_
      refine zf_ld (pc' := 1239) (v := .inr (.inr (5, 0))) dL_law_1238 rfl (fun _ _ _ => rfl) rfl rfl rfl ?_
      refine zf_ld (pc' := 1240) (v := .inl i) dL_law_1239 rfl (fun _ _ _ => rfl) rfl rfl rfl ?_
      refine zf_ic (v := 1) (pc' := 1241) dL_law_1240 rfl rfl ?_
      refine zf_in (pc' := 1242) (S' := [.inl (i + 1), .inr (.inr (5, 0)), .inr (.inr (1, 0))]) dL_law_1241 rfl (fun _ _ _ => rfl) ?_
      refine zf_sld (pc' := 1243) dL_law_1242 rfl (zf_si6 (by rfl : (1 : Int32).toInt = 1) hi0 hi6 hN (by decide)) ?_
      refine zf_iv (k := 101) (pc' := 1246) (r := []) dL_law_1243 rfl rfl rfl rfl (by decide) rfl rfl rfl (zr_101 (by omega) (hk33 m h (xs (Int32.toInt (i + 1)).toNat))) (zf_kI (fun x1 m1 h => ?_))
      refine zf_in (pc' := 1247) (S' := []) dL_law_1246 rfl (fun _ _ _ => rfl) ?_
      refine zf_ld (pc' := 1248) (v := .inr (.inr (1, 63))) dL_law_1247 rfl (fun _ _ _ => rfl) rfl rfl rfl ?_
      refine zf_ld (pc' := 1249) (v := .inr (.inr (5, 0))) dL_law_1248 rfl (fun _ _ _ => rfl) rfl rfl rfl ?_
      refine zf_ld (pc' := 1250) (v := .inl i) dL_law_1249 rfl (fun _ _ _ => rfl) rfl rfl rfl ?_
      refine zf_ic (v := 1) (pc' := 1251) dL_law_1250 rfl rfl ?_
      refine zf_in (pc' := 1252) (S' := [.inl (i + 1), .inr (.inr (5, 0)), .inr (.inr (1, 63))]) dL_law_1251 rfl (fun _ _ _ => rfl) ?_
      refine zf_sld (pc' := 1253) dL_law_1252 rfl (zf_si6 (by rfl : (1 : Int32).toInt = 1) hi0 hi6 hN (by decide)) ?_
      refine zf_iv (k := 199) (pc' := 1256) (r := []) dL_law_1253 rfl rfl rfl rfl (by decide) rfl rfl rfl (zr_199 (by omega) h) (zf_kI (fun x2 m2 h => ?_))
      refine zf_in (pc' := 1257) (S' := []) dL_law_1256 rfl (fun _ _ _ => rfl) ?_
      refine zf_goto (tgt := 1411) dL_law_1257 rfl ?_
      refine zf_ii (y := i + 6) (L2 := [some (.inr (.inr (5, 0))), some (.inr (.inr (1, 0))), some (.inr (.inr (1, 63))), some (.inl (i + 6))]) (pc' := 1414) dL_law_1411 rfl rfl rfl rfl rfl ?_
      refine zf_goto (tgt := 18) dL_law_1414 rfl ?_
      exact ih (i + 6) m2 (by omega) (by omega) (by omega) h
    · refine zf_ld (pc' := 1261) (v := .inr (.inr (1, 0))) dL_law_1260 rfl (fun _ _ _ => rfl) rfl rfl rfl ?_
      refine zf_iv (k := 102) (pc' := 1264) (r := []) dL_law_1261 rfl rfl rfl rfl (by decide) rfl rfl rfl (zr_102 (by omega) (hk34 m h)) (zf_kI (fun x1 m1 h => ?_))
      refine zf_in (pc' := 1265) (S' := []) dL_law_1264 rfl (fun _ _ _ => rfl) ?_
      refine zf_ld (pc' := 1266) (v := .inr (.inr (1, 63))) dL_law_1265 rfl (fun _ _ _ => rfl) rfl rfl rfl ?_
      refine zf_iv (k := 200) (pc' := 1269) (r := []) dL_law_1266 rfl rfl rfl rfl (by decide) rfl rfl rfl (zr_200 (by omega) h) (zf_kI (fun x2 m2 h => ?_))
      refine zf_in (pc' := 1270) (S' := []) dL_law_1269 rfl (fun _ _ _ => rfl) ?_
      refine zf_goto (tgt := 1411) dL_law_1270 rfl ?_
      refine zf_ii (y := i + 6) (L2 := [some (.inr (.inr (5, 0))), some (.inr (.inr (1, 0))), some (.inr (.inr (1, 63))), some (.inl (i + 6))]) (pc' := 1414) dL_law_1411 rfl rfl rfl rfl rfl ?_
      refine zf_goto (tgt := 18) dL_law_1414 rfl ?_
      exact ih (i + 6) m2 (by omega) (by omega) (by omega) h
    · refine zf_ld (pc' := 1274) (v := .inr (.inr (1, 0))) dL_law_1273 rfl (fun _ _ _ => rfl) rfl rfl rfl ?_
      refine zf_ld (pc' := 1275) (v := .inr (.inr (5, 0))) dL_law_1274 rfl (fun _ _ _ => rfl) rfl rfl rfl ?_
      refine zf_ld (pc' := 1276) (v := .inl i) dL_law_1275 rfl (fun _ _ _ => rfl) rfl rfl rfl ?_
      refine zf_ic (v := 1) (pc' := 1277) dL_law_1276 rfl rfl ?_
      refine zf_in (pc' := 1278) (S' := [.inl (i + 1), .inr (.inr (5, 0)), .inr (.inr (1, 0))]) dL_law_1277 rfl (fun _ _ _ => rfl) ?_
      refine zf_sld (pc' := 1279) dL_law_1278 rfl (zf_si6 (by rfl : (1 : Int32).toInt = 1) hi0 hi6 hN (by decide)) ?_
      refine zf_iv (k := 103) (pc' := 1282) (r := []) dL_law_1279 rfl rfl rfl rfl (by decide) rfl rfl rfl (zr_103 (by omega) (hk35 m h (xs (Int32.toInt (i + 1)).toNat))) (zf_kI (fun x1 m1 h => ?_))
      refine zf_in (pc' := 1283) (S' := []) dL_law_1282 rfl (fun _ _ _ => rfl) ?_
      refine zf_ld (pc' := 1284) (v := .inr (.inr (1, 63))) dL_law_1283 rfl (fun _ _ _ => rfl) rfl rfl rfl ?_
      refine zf_ld (pc' := 1285) (v := .inr (.inr (5, 0))) dL_law_1284 rfl (fun _ _ _ => rfl) rfl rfl rfl ?_
      refine zf_ld (pc' := 1286) (v := .inl i) dL_law_1285 rfl (fun _ _ _ => rfl) rfl rfl rfl ?_
      refine zf_ic (v := 1) (pc' := 1287) dL_law_1286 rfl rfl ?_
      refine zf_in (pc' := 1288) (S' := [.inl (i + 1), .inr (.inr (5, 0)), .inr (.inr (1, 63))]) dL_law_1287 rfl (fun _ _ _ => rfl) ?_
      refine zf_sld (pc' := 1289) dL_law_1288 rfl (zf_si6 (by rfl : (1 : Int32).toInt = 1) hi0 hi6 hN (by decide)) ?_
      refine zf_iv (k := 201) (pc' := 1292) (r := []) dL_law_1289 rfl rfl rfl rfl (by decide) rfl rfl rfl (zr_201 (by omega) h) (zf_kI (fun x2 m2 h => ?_))
      refine zf_in (pc' := 1293) (S' := []) dL_law_1292 rfl (fun _ _ _ => rfl) ?_
      refine zf_goto (tgt := 1411) dL_law_1293 rfl ?_
      refine zf_ii (y := i + 6) (L2 := [some (.inr (.inr (5, 0))), some (.inr (.inr (1, 0))), some (.inr (.inr (1, 63))), some (.inl (i + 6))]) (pc' := 1414) dL_law_1411 rfl rfl rfl rfl rfl ?_
      refine zf_goto (tgt := 18) dL_law_1414 rfl ?_
      exact ih (i + 6) m2 (by omega) (by omega) (by omega) h
    · refine zf_ld (pc' := 1297) (v := .inr (.inr (1, 0))) dL_law_1296 rfl (fun _ _ _ => rfl) rfl rfl rfl ?_
      refine zf_ld (pc' := 1298) (v := .inr (.inr (5, 0))) dL_law_1297 rfl (fun _ _ _ => rfl) rfl rfl rfl ?_
      refine zf_ld (pc' := 1299) (v := .inl i) dL_law_1298 rfl (fun _ _ _ => rfl) rfl rfl rfl ?_
      refine zf_ic (v := 1) (pc' := 1300) dL_law_1299 rfl rfl ?_
      refine zf_in (pc' := 1301) (S' := [.inl (i + 1), .inr (.inr (5, 0)), .inr (.inr (1, 0))]) dL_law_1300 rfl (fun _ _ _ => rfl) ?_
      refine zf_sld (pc' := 1302) dL_law_1301 rfl (zf_si6 (by rfl : (1 : Int32).toInt = 1) hi0 hi6 hN (by decide)) ?_
      refine zf_ld (pc' := 1303) (v := .inr (.inr (5, 0))) dL_law_1302 rfl (fun _ _ _ => rfl) rfl rfl rfl ?_
      refine zf_ld (pc' := 1304) (v := .inl i) dL_law_1303 rfl (fun _ _ _ => rfl) rfl rfl rfl ?_
      refine zf_ic (v := 2) (pc' := 1305) dL_law_1304 rfl rfl ?_
      refine zf_in (pc' := 1306) (S' := [.inl (i + 2), .inr (.inr (5, 0)), .inl (xs (Int32.toInt (i + 1)).toNat), .inr (.inr (1, 0))]) dL_law_1305 rfl (fun _ _ _ => rfl) ?_
      refine zf_sld (pc' := 1307) dL_law_1306 rfl (zf_si6 (by rfl : (2 : Int32).toInt = 2) hi0 hi6 hN (by decide)) ?_
      refine zf_ld (pc' := 1308) (v := .inr (.inr (5, 0))) dL_law_1307 rfl (fun _ _ _ => rfl) rfl rfl rfl ?_
      refine zf_ld (pc' := 1309) (v := .inl i) dL_law_1308 rfl (fun _ _ _ => rfl) rfl rfl rfl ?_
      refine zf_ic (v := 3) (pc' := 1310) dL_law_1309 rfl rfl ?_
      refine zf_in (pc' := 1311) (S' := [.inl (i + 3), .inr (.inr (5, 0)), .inl (xs (Int32.toInt (i + 2)).toNat), .inl (xs (Int32.toInt (i + 1)).toNat), .inr (.inr (1, 0))]) dL_law_1310 rfl (fun _ _ _ => rfl) ?_
      refine zf_sld (pc' := 1312) dL_law_1311 rfl (zf_si6 (by rfl : (3 : Int32).toInt = 3) hi0 hi6 hN (by decide)) ?_
      refine zf_iv (k := 104) (pc' := 1315) (r := []) dL_law_1312 rfl rfl rfl rfl (by decide) rfl rfl rfl (zr_104 (by omega) (hk36 m h (xs (Int32.toInt (i + 1)).toNat) (xs (Int32.toInt (i + 2)).toNat) (xs (Int32.toInt (i + 3)).toNat))) (zf_kI (fun x1 m1 h => ?_))
      refine zf_in (pc' := 1316) (S' := []) dL_law_1315 rfl (fun _ _ _ => rfl) ?_
      refine zf_ld (pc' := 1317) (v := .inr (.inr (1, 63))) dL_law_1316 rfl (fun _ _ _ => rfl) rfl rfl rfl ?_
      refine zf_ld (pc' := 1318) (v := .inr (.inr (5, 0))) dL_law_1317 rfl (fun _ _ _ => rfl) rfl rfl rfl ?_
      refine zf_ld (pc' := 1319) (v := .inl i) dL_law_1318 rfl (fun _ _ _ => rfl) rfl rfl rfl ?_
      refine zf_ic (v := 1) (pc' := 1320) dL_law_1319 rfl rfl ?_
      refine zf_in (pc' := 1321) (S' := [.inl (i + 1), .inr (.inr (5, 0)), .inr (.inr (1, 63))]) dL_law_1320 rfl (fun _ _ _ => rfl) ?_
      refine zf_sld (pc' := 1322) dL_law_1321 rfl (zf_si6 (by rfl : (1 : Int32).toInt = 1) hi0 hi6 hN (by decide)) ?_
      refine zf_ld (pc' := 1323) (v := .inr (.inr (5, 0))) dL_law_1322 rfl (fun _ _ _ => rfl) rfl rfl rfl ?_
      refine zf_ld (pc' := 1324) (v := .inl i) dL_law_1323 rfl (fun _ _ _ => rfl) rfl rfl rfl ?_
      refine zf_ic (v := 2) (pc' := 1325) dL_law_1324 rfl rfl ?_
      refine zf_in (pc' := 1326) (S' := [.inl (i + 2), .inr (.inr (5, 0)), .inl (xs (Int32.toInt (i + 1)).toNat), .inr (.inr (1, 63))]) dL_law_1325 rfl (fun _ _ _ => rfl) ?_
      refine zf_sld (pc' := 1327) dL_law_1326 rfl (zf_si6 (by rfl : (2 : Int32).toInt = 2) hi0 hi6 hN (by decide)) ?_
      refine zf_ld (pc' := 1328) (v := .inr (.inr (5, 0))) dL_law_1327 rfl (fun _ _ _ => rfl) rfl rfl rfl ?_
      refine zf_ld (pc' := 1329) (v := .inl i) dL_law_1328 rfl (fun _ _ _ => rfl) rfl rfl rfl ?_
      refine zf_ic (v := 3) (pc' := 1330) dL_law_1329 rfl rfl ?_
      refine zf_in (pc' := 1331) (S' := [.inl (i + 3), .inr (.inr (5, 0)), .inl (xs (Int32.toInt (i + 2)).toNat), .inl (xs (Int32.toInt (i + 1)).toNat), .inr (.inr (1, 63))]) dL_law_1330 rfl (fun _ _ _ => rfl) ?_
      refine zf_sld (pc' := 1332) dL_law_1331 rfl (zf_si6 (by rfl : (3 : Int32).toInt = 3) hi0 hi6 hN (by decide)) ?_
      refine zf_iv (k := 206) (pc' := 1335) (r := []) dL_law_1332 rfl rfl rfl rfl (by decide) rfl rfl rfl (zr_206 (by omega) h) (zf_kI (fun x2 m2 h => ?_))
      refine zf_in (pc' := 1336) (S' := []) dL_law_1335 rfl (fun _ _ _ => rfl) ?_
      refine zf_goto (tgt := 1411) dL_law_1336 rfl ?_
      refine zf_ii (y := i + 6) (L2 := [some (.inr (.inr (5, 0))), some (.inr (.inr (1, 0))), some (.inr (.inr (1, 63))), some (.inl (i + 6))]) (pc' := 1414) dL_law_1411 rfl rfl rfl rfl rfl ?_
      refine zf_goto (tgt := 18) dL_law_1414 rfl ?_
      exact ih (i + 6) m2 (by omega) (by omega) (by omega) h
    · refine zf_ld (pc' := 1340) (v := .inr (.inr (1, 0))) dL_law_1339 rfl (fun _ _ _ => rfl) rfl rfl rfl ?_
      refine zf_ld (pc' := 1341) (v := .inr (.inr (5, 0))) dL_law_1340 rfl (fun _ _ _ => rfl) rfl rfl rfl ?_
      refine zf_ld (pc' := 1342) (v := .inl i) dL_law_1341 rfl (fun _ _ _ => rfl) rfl rfl rfl ?_
      refine zf_ic (v := 1) (pc' := 1343) dL_law_1342 rfl rfl ?_
      refine zf_in (pc' := 1344) (S' := [.inl (i + 1), .inr (.inr (5, 0)), .inr (.inr (1, 0))]) dL_law_1343 rfl (fun _ _ _ => rfl) ?_
      refine zf_sld (pc' := 1345) dL_law_1344 rfl (zf_si6 (by rfl : (1 : Int32).toInt = 1) hi0 hi6 hN (by decide)) ?_
      refine zf_iv (k := 105) (pc' := 1348) (r := []) dL_law_1345 rfl rfl rfl rfl (by decide) rfl rfl rfl (zr_105 (by omega) (hk37 m h (xs (Int32.toInt (i + 1)).toNat))) (zf_kI (fun x1 m1 h => ?_))
      refine zf_in (pc' := 1349) (S' := []) dL_law_1348 rfl (fun _ _ _ => rfl) ?_
      refine zf_ld (pc' := 1350) (v := .inr (.inr (1, 63))) dL_law_1349 rfl (fun _ _ _ => rfl) rfl rfl rfl ?_
      refine zf_ld (pc' := 1351) (v := .inr (.inr (5, 0))) dL_law_1350 rfl (fun _ _ _ => rfl) rfl rfl rfl ?_
      refine zf_ld (pc' := 1352) (v := .inl i) dL_law_1351 rfl (fun _ _ _ => rfl) rfl rfl rfl ?_
      refine zf_ic (v := 1) (pc' := 1353) dL_law_1352 rfl rfl ?_
      refine zf_in (pc' := 1354) (S' := [.inl (i + 1), .inr (.inr (5, 0)), .inr (.inr (1, 63))]) dL_law_1353 rfl (fun _ _ _ => rfl) ?_
      refine zf_sld (pc' := 1355) dL_law_1354 rfl (zf_si6 (by rfl : (1 : Int32).toInt = 1) hi0 hi6 hN (by decide)) ?_
      refine zf_iv (k := 207) (pc' := 1358) (r := []) dL_law_1355 rfl rfl rfl rfl (by decide) rfl rfl rfl (zr_207 (by omega) h) (zf_kI (fun x2 m2 h => ?_))
      refine zf_in (pc' := 1359) (S' := []) dL_law_1358 rfl (fun _ _ _ => rfl) ?_
      refine zf_goto (tgt := 1411) dL_law_1359 rfl ?_
      refine zf_ii (y := i + 6) (L2 := [some (.inr (.inr (5, 0))), some (.inr (.inr (1, 0))), some (.inr (.inr (1, 63))), some (.inl (i + 6))]) (pc' := 1414) dL_law_1411 rfl rfl rfl rfl rfl ?_
      refine zf_goto (tgt := 18) dL_law_1414 rfl ?_
      exact ih (i + 6) m2 (by omega) (by omega) (by omega) h
    · refine zf_ld (pc' := 1363) (v := .inr (.inr (1, 0))) dL_law_1362 rfl (fun _ _ _ => rfl) rfl rfl rfl ?_
      refine zf_iv (k := 106) (pc' := 1366) (r := []) dL_law_1363 rfl rfl rfl rfl (by decide) rfl rfl rfl (zr_106 (by omega) (hk38 m h)) (zf_kI (fun x1 m1 h => ?_))
      refine zf_in (pc' := 1367) (S' := []) dL_law_1366 rfl (fun _ _ _ => rfl) ?_
      refine zf_ld (pc' := 1368) (v := .inr (.inr (1, 63))) dL_law_1367 rfl (fun _ _ _ => rfl) rfl rfl rfl ?_
      refine zf_iv (k := 208) (pc' := 1371) (r := []) dL_law_1368 rfl rfl rfl rfl (by decide) rfl rfl rfl (zr_208 (by omega) h) (zf_kI (fun x2 m2 h => ?_))
      refine zf_in (pc' := 1372) (S' := []) dL_law_1371 rfl (fun _ _ _ => rfl) ?_
      refine zf_goto (tgt := 1411) dL_law_1372 rfl ?_
      refine zf_ii (y := i + 6) (L2 := [some (.inr (.inr (5, 0))), some (.inr (.inr (1, 0))), some (.inr (.inr (1, 63))), some (.inl (i + 6))]) (pc' := 1414) dL_law_1411 rfl rfl rfl rfl rfl ?_
      refine zf_goto (tgt := 18) dL_law_1414 rfl ?_
      exact ih (i + 6) m2 (by omega) (by omega) (by omega) h
    · refine zf_ld (pc' := 1376) (v := .inr (.inr (1, 0))) dL_law_1375 rfl (fun _ _ _ => rfl) rfl rfl rfl ?_
      refine zf_iv (k := 107) (pc' := 1379) (r := []) dL_law_1376 rfl rfl rfl rfl (by decide) rfl rfl rfl (zr_107 (by omega) (hk39 m h)) (zf_kI (fun x1 m1 h => ?_))
      refine zf_ld (pc' := 1380) (v := .inr (.inr (1, 63))) dL_law_1379 rfl (fun _ _ _ => rfl) rfl rfl rfl ?_
      refine zf_iv (k := 209) (pc' := 1383) (r := [.inl x1]) dL_law_1380 rfl rfl rfl rfl (by decide) rfl rfl rfl (zr_209 (by omega) h) (zf_kI (fun x2 m2 h => ?_))
      refine zf_icmp_eq (tgt := 1411) (pc' := 1386) dL_law_1383 rfl rfl (fun _ => ?_) (fun g => absurd (congrArg Int32.toInt h.1) g)
      refine zf_ii (y := i + 6) (L2 := [some (.inr (.inr (5, 0))), some (.inr (.inr (1, 0))), some (.inr (.inr (1, 63))), some (.inl (i + 6))]) (pc' := 1414) dL_law_1411 rfl rfl rfl rfl rfl ?_
      refine zf_goto (tgt := 18) dL_law_1414 rfl ?_
      exact ih (i + 6) m2 (by omega) (by omega) (by omega) h.2
    · refine zf_ld (pc' := 1389) (v := .inr (.inr (1, 0))) dL_law_1388 rfl (fun _ _ _ => rfl) rfl rfl rfl ?_
      refine zf_ld (pc' := 1390) (v := .inr (.inr (5, 0))) dL_law_1389 rfl (fun _ _ _ => rfl) rfl rfl rfl ?_
      refine zf_ld (pc' := 1391) (v := .inl i) dL_law_1390 rfl (fun _ _ _ => rfl) rfl rfl rfl ?_
      refine zf_ic (v := 1) (pc' := 1392) dL_law_1391 rfl rfl ?_
      refine zf_in (pc' := 1393) (S' := [.inl (i + 1), .inr (.inr (5, 0)), .inr (.inr (1, 0))]) dL_law_1392 rfl (fun _ _ _ => rfl) ?_
      refine zf_sld (pc' := 1394) dL_law_1393 rfl (zf_si6 (by rfl : (1 : Int32).toInt = 1) hi0 hi6 hN (by decide)) ?_
      refine zf_iv (k := 108) (pc' := 1397) (r := []) dL_law_1394 rfl rfl rfl rfl (by decide) rfl rfl rfl (zr_108 (by omega) (hk40 m h (xs (Int32.toInt (i + 1)).toNat))) (zf_kI (fun x1 m1 h => ?_))
      refine zf_in (pc' := 1398) (S' := []) dL_law_1397 rfl (fun _ _ _ => rfl) ?_
      refine zf_ld (pc' := 1399) (v := .inr (.inr (1, 63))) dL_law_1398 rfl (fun _ _ _ => rfl) rfl rfl rfl ?_
      refine zf_ld (pc' := 1400) (v := .inr (.inr (5, 0))) dL_law_1399 rfl (fun _ _ _ => rfl) rfl rfl rfl ?_
      refine zf_ld (pc' := 1401) (v := .inl i) dL_law_1400 rfl (fun _ _ _ => rfl) rfl rfl rfl ?_
      refine zf_ic (v := 1) (pc' := 1402) dL_law_1401 rfl rfl ?_
      refine zf_in (pc' := 1403) (S' := [.inl (i + 1), .inr (.inr (5, 0)), .inr (.inr (1, 63))]) dL_law_1402 rfl (fun _ _ _ => rfl) ?_
      refine zf_sld (pc' := 1404) dL_law_1403 rfl (zf_si6 (by rfl : (1 : Int32).toInt = 1) hi0 hi6 hN (by decide)) ?_
      refine zf_iv (k := 210) (pc' := 1407) (r := []) dL_law_1404 rfl rfl rfl rfl (by decide) rfl rfl rfl (zr_210 (by omega) h) (zf_kI (fun x2 m2 h => ?_))
      refine zf_in (pc' := 1408) (S' := []) dL_law_1407 rfl (fun _ _ _ => rfl) ?_
      refine zf_goto (tgt := 1411) dL_law_1408 rfl ?_
      refine zf_ii (y := i + 6) (L2 := [some (.inr (.inr (5, 0))), some (.inr (.inr (1, 0))), some (.inr (.inr (1, 63))), some (.inl (i + 6))]) (pc' := 1414) dL_law_1411 rfl rfl rfl rfl rfl ?_
      refine zf_goto (tgt := 18) dL_law_1414 rfl ?_
      exact ih (i + 6) m2 (by omega) (by omega) (by omega) h
