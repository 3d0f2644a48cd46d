theorem dX8_item_0 : decode cX8_item 0 = .ok (.aload_n 0, 1) := by decide +kernel
theorem dX8_item_1 : decode cX8_item 1 = .ok (.invokevirtual 138, 3) := by decide +kernel
theorem dX8_item_4 : decode cX8_item 4 = .ok (.lookupswitch 370 #[(98, 60), (103, 215), (104, 143), (105, 286), (115, 179), (119, 327)], 60) := by decide +kernel
theorem dX8_item_64 : decode cX8_item 64 = .ok (.aload_n 0, 1) := by decide +kernel
theorem dX8_item_65 : decode cX8_item 65 = .ok (.ldc 159, 2) := by decide +kernel
theorem dX8_item_67 : decode cX8_item 67 = .ok (.aload_n 0, 1) := by decide +kernel
theorem dX8_item_68 : decode cX8_item 68 = .ok (.getfield 85, 3) := by decide +kernel
theorem dX8_item_71 : decode cX8_item 71 = .ok (.bipush 7, 2) := by decide +kernel
theorem dX8_item_73 : decode cX8_item 73 = .ok (.if_icmp .ge 7, 3) := by decide +kernel
theorem dX8_item_76 : decode cX8_item 76 = .ok (.iconst 1, 1) := by decide +kernel
theorem dX8_item_77 : decode cX8_item 77 = .ok (.goto 4, 3) := by decide +kernel
theorem dX8_item_80 : decode cX8_item 80 = .ok (.iconst 0, 1) := by decide +kernel
theorem dX8_item_81 : decode cX8_item 81 = .ok (.invokevirtual 161, 3) := by decide +kernel
theorem dX8_item_84 : decode cX8_item 84 = .ok (.ifCond .eq 36, 3) := by decide +kernel
theorem dX8_item_87 : decode cX8_item 87 = .ok (.aload_n 0, 1) := by decide +kernel
theorem dX8_item_88 : decode cX8_item 88 = .ok (.iconst 0, 1) := by decide +kernel
theorem dX8_item_89 : decode cX8_item 89 = .ok (.iconst 0, 1) := by decide +kernel
theorem dX8_item_90 : decode cX8_item 90 = .ok (.bipush 6, 2) := by decide +kernel
theorem dX8_item_92 : decode cX8_item 92 = .ok (.invokevirtual 164, 3) := by decide +kernel
theorem dX8_item_95 : decode cX8_item 95 = .ok (.ifCond .eq 25, 3) := by decide +kernel
theorem dX8_item_98 : decode cX8_item 98 = .ok (.aload_n 0, 1) := by decide +kernel
theorem dX8_item_99 : decode cX8_item 99 = .ok (.iconst 1, 1) := by decide +kernel
theorem dX8_item_100 : decode cX8_item 100 = .ok (.iconst 0, 1) := by decide +kernel
theorem dX8_item_101 : decode cX8_item 101 = .ok (.bipush 9, 2) := by decide +kernel
theorem dX8_item_103 : decode cX8_item 103 = .ok (.invokevirtual 164, 3) := by decide +kernel
theorem dX8_item_106 : decode cX8_item 106 = .ok (.ifCond .eq 14, 3) := by decide +kernel
theorem dX8_item_109 : decode cX8_item 109 = .ok (.aload_n 0, 1) := by decide +kernel
theorem dX8_item_110 : decode cX8_item 110 = .ok (.iconst 2, 1) := by decide +kernel
theorem dX8_item_111 : decode cX8_item 111 = .ok (.iconst 0, 1) := by decide +kernel
theorem dX8_item_112 : decode cX8_item 112 = .ok (.bipush 19, 2) := by decide +kernel
theorem dX8_item_114 : decode cX8_item 114 = .ok (.invokevirtual 164, 3) := by decide +kernel
theorem dX8_item_117 : decode cX8_item 117 = .ok (.ifCond .ne 5, 3) := by decide +kernel
theorem dX8_item_120 : decode cX8_item 120 = .ok (.iconst 0, 1) := by decide +kernel
theorem dX8_item_121 : decode cX8_item 121 = .ok (.ireturn, 1) := by decide +kernel
theorem dX8_item_122 : decode cX8_item 122 = .ok (.aload_n 0, 1) := by decide +kernel
theorem dX8_item_123 : decode cX8_item 123 = .ok (.aload_n 0, 1) := by decide +kernel
theorem dX8_item_124 : decode cX8_item 124 = .ok (.getfield 35, 3) := by decide +kernel
theorem dX8_item_127 : decode cX8_item 127 = .ok (.iconst 0, 1) := by decide +kernel
theorem dX8_item_128 : decode cX8_item 128 = .ok (.iaload, 1) := by decide +kernel
theorem dX8_item_129 : decode cX8_item 129 = .ok (.aload_n 0, 1) := by decide +kernel
theorem dX8_item_130 : decode cX8_item 130 = .ok (.getfield 35, 3) := by decide +kernel
theorem dX8_item_133 : decode cX8_item 133 = .ok (.iconst 1, 1) := by decide +kernel
theorem dX8_item_134 : decode cX8_item 134 = .ok (.iaload, 1) := by decide +kernel
theorem dX8_item_135 : decode cX8_item 135 = .ok (.aload_n 0, 1) := by decide +kernel
theorem dX8_item_136 : decode cX8_item 136 = .ok (.getfield 35, 3) := by decide +kernel
theorem dX8_item_139 : decode cX8_item 139 = .ok (.iconst 2, 1) := by decide +kernel
theorem dX8_item_140 : decode cX8_item 140 = .ok (.iaload, 1) := by decide +kernel
theorem dX8_item_141 : decode cX8_item 141 = .ok (.invokevirtual 122, 3) := by decide +kernel
theorem dX8_item_144 : decode cX8_item 144 = .ok (.pop, 1) := by decide +kernel
theorem dX8_item_145 : decode cX8_item 145 = .ok (.iconst 1, 1) := by decide +kernel
theorem dX8_item_146 : decode cX8_item 146 = .ok (.ireturn, 1) := by decide +kernel
theorem dX8_item_147 : decode cX8_item 147 = .ok (.aload_n 0, 1) := by decide +kernel
theorem dX8_item_148 : decode cX8_item 148 = .ok (.ldc 167, 2) := by decide +kernel
theorem dX8_item_150 : decode cX8_item 150 = .ok (.invokevirtual 155, 3) := by decide +kernel
theorem dX8_item_153 : decode cX8_item 153 = .ok (.ifCond .eq 14, 3) := by decide +kernel
theorem dX8_item_156 : decode cX8_item 156 = .ok (.aload_n 0, 1) := by decide +kernel
theorem dX8_item_157 : decode cX8_item 157 = .ok (.iconst 0, 1) := by decide +kernel
theorem dX8_item_158 : decode cX8_item 158 = .ok (.iconst 0, 1) := by decide +kernel
theorem dX8_item_159 : decode cX8_item 159 = .ok (.bipush 9, 2) := by decide +kernel
theorem dX8_item_161 : decode cX8_item 161 = .ok (.invokevirtual 164, 3) := by decide +kernel
theorem dX8_item_164 : decode cX8_item 164 = .ok (.ifCond .ne 5, 3) := by decide +kernel
theorem dX8_item_167 : decode cX8_item 167 = .ok (.iconst 0, 1) := by decide +kernel
theorem dX8_item_168 : decode cX8_item 168 = .ok (.ireturn, 1) := by decide +kernel
theorem dX8_item_169 : decode cX8_item 169 = .ok (.aload_n 0, 1) := by decide +kernel
theorem dX8_item_170 : decode cX8_item 170 = .ok (.getfield 19, 3) := by decide +kernel
theorem dX8_item_173 : decode cX8_item 173 = .ok (.iconst 0, 1) := by decide +kernel
theorem dX8_item_174 : decode cX8_item 174 = .ok (.aload_n 0, 1) := by decide +kernel
theorem dX8_item_175 : decode cX8_item 175 = .ok (.getfield 35, 3) := by decide +kernel
theorem dX8_item_178 : decode cX8_item 178 = .ok (.iconst 0, 1) := by decide +kernel
theorem dX8_item_179 : decode cX8_item 179 = .ok (.iaload, 1) := by decide +kernel
theorem dX8_item_180 : decode cX8_item 180 = .ok (.iastore, 1) := by decide +kernel
theorem dX8_item_181 : decode cX8_item 181 = .ok (.iconst 1, 1) := by decide +kernel
theorem dX8_item_182 : decode cX8_item 182 = .ok (.ireturn, 1) := by decide +kernel
theorem dX8_item_183 : decode cX8_item 183 = .ok (.aload_n 0, 1) := by decide +kernel
theorem dX8_item_184 : decode cX8_item 184 = .ok (.ldc 169, 2) := by decide +kernel
theorem dX8_item_186 : decode cX8_item 186 = .ok (.invokevirtual 155, 3) := by decide +kernel
theorem dX8_item_189 : decode cX8_item 189 = .ok (.ifCond .eq 14, 3) := by decide +kernel
theorem dX8_item_192 : decode cX8_item 192 = .ok (.aload_n 0, 1) := by decide +kernel
theorem dX8_item_193 : decode cX8_item 193 = .ok (.iconst 0, 1) := by decide +kernel
theorem dX8_item_194 : decode cX8_item 194 = .ok (.iconst 0, 1) := by decide +kernel
theorem dX8_item_195 : decode cX8_item 195 = .ok (.bipush 7, 2) := by decide +kernel
theorem dX8_item_197 : decode cX8_item 197 = .ok (.invokevirtual 164, 3) := by decide +kernel
theorem dX8_item_200 : decode cX8_item 200 = .ok (.ifCond .ne 5, 3) := by decide +kernel
theorem dX8_item_203 : decode cX8_item 203 = .ok (.iconst 0, 1) := by decide +kernel
theorem dX8_item_204 : decode cX8_item 204 = .ok (.ireturn, 1) := by decide +kernel
theorem dX8_item_205 : decode cX8_item 205 = .ok (.aload_n 0, 1) := by decide +kernel
theorem dX8_item_206 : decode cX8_item 206 = .ok (.getfield 19, 3) := by decide +kernel
theorem dX8_item_209 : decode cX8_item 209 = .ok (.iconst 1, 1) := by decide +kernel
theorem dX8_item_210 : decode cX8_item 210 = .ok (.aload_n 0, 1) := by decide +kernel
theorem dX8_item_211 : decode cX8_item 211 = .ok (.getfield 35, 3) := by decide +kernel
theorem dX8_item_214 : decode cX8_item 214 = .ok (.iconst 0, 1) := by decide +kernel
theorem dX8_item_215 : decode cX8_item 215 = .ok (.iaload, 1) := by decide +kernel
theorem dX8_item_216 : decode cX8_item 216 = .ok (.iastore, 1) := by decide +kernel
theorem dX8_item_217 : decode cX8_item 217 = .ok (.iconst 1, 1) := by decide +kernel
theorem dX8_item_218 : decode cX8_item 218 = .ok (.ireturn, 1) := by decide +kernel
theorem dX8_item_219 : decode cX8_item 219 = .ok (.aload_n 0, 1) := by decide +kernel
theorem dX8_item_220 : decode cX8_item 220 = .ok (.ldc 171, 2) := by decide +kernel
theorem dX8_item_222 : decode cX8_item 222 = .ok (.invokevirtual 155, 3) := by decide +kernel
theorem dX8_item_225 : decode cX8_item 225 = .ok (.ifCond .eq 35, 3) := by decide +kernel
theorem dX8_item_228 : decode cX8_item 228 = .ok (.aload_n 0, 1) := by decide +kernel
theorem dX8_item_229 : decode cX8_item 229 = .ok (.iconst 0, 1) := by decide +kernel
theorem dX8_item_230 : decode cX8_item 230 = .ok (.iconst 0, 1) := by decide +kernel
theorem dX8_item_231 : decode cX8_item 231 = .ok (.bipush 7, 2) := by decide +kernel
theorem dX8_item_233 : decode cX8_item 233 = .ok (.invokevirtual 164, 3) := by decide +kernel
theorem dX8_item_236 : decode cX8_item 236 = .ok (.ifCond .eq 24, 3) := by decide +kernel
theorem dX8_item_239 : decode cX8_item 239 = .ok (.aload_n 0, 1) := by decide +kernel
theorem dX8_item_240 : decode cX8_item 240 = .ok (.iconst 1, 1) := by decide +kernel
theorem dX8_item_241 : decode cX8_item 241 = .ok (.iconst 0, 1) := by decide +kernel
theorem dX8_item_242 : decode cX8_item 242 = .ok (.iconst 4, 1) := by decide +kernel
theorem dX8_item_243 : decode cX8_item 243 = .ok (.invokevirtual 164, 3) := by decide +kernel
theorem dX8_item_246 : decode cX8_item 246 = .ok (.ifCond .eq 14, 3) := by decide +kernel
theorem dX8_item_249 : decode cX8_item 249 = .ok (.aload_n 0, 1) := by decide +kernel
theorem dX8_item_250 : decode cX8_item 250 = .ok (.iconst 2, 1) := by decide +kernel
theorem dX8_item_251 : decode cX8_item 251 = .ok (.iconst 0, 1) := by decide +kernel
theorem dX8_item_252 : decode cX8_item 252 = .ok (.bipush 7, 2) := by decide +kernel
theorem dX8_item_254 : decode cX8_item 254 = .ok (.invokevirtual 164, 3) := by decide +kernel
theorem dX8_item_257 : decode cX8_item 257 = .ok (.ifCond .ne 5, 3) := by decide +kernel
theorem dX8_item_260 : decode cX8_item 260 = .ok (.iconst 0, 1) := by decide +kernel
theorem dX8_item_261 : decode cX8_item 261 = .ok (.ireturn, 1) := by decide +kernel
theorem dX8_item_262 : decode cX8_item 262 = .ok (.aload_n 0, 1) := by decide +kernel
theorem dX8_item_263 : decode cX8_item 263 = .ok (.getfield 22, 3) := by decide +kernel
theorem dX8_item_266 : decode cX8_item 266 = .ok (.iconst 5, 1) := by decide +kernel
theorem dX8_item_267 : decode cX8_item 267 = .ok (.aload_n 0, 1) := by decide +kernel
theorem dX8_item_268 : decode cX8_item 268 = .ok (.getfield 35, 3) := by decide +kernel
theorem dX8_item_271 : decode cX8_item 271 = .ok (.iconst 0, 1) := by decide +kernel
theorem dX8_item_272 : decode cX8_item 272 = .ok (.iaload, 1) := by decide +kernel
theorem dX8_item_273 : decode cX8_item 273 = .ok (.imul, 1) := by decide +kernel
theorem dX8_item_274 : decode cX8_item 274 = .ok (.aload_n 0, 1) := by decide +kernel
theorem dX8_item_275 : decode cX8_item 275 = .ok (.getfield 35, 3) := by decide +kernel
theorem dX8_item_278 : decode cX8_item 278 = .ok (.iconst 1, 1) := by decide +kernel
theorem dX8_item_279 : decode cX8_item 279 = .ok (.iaload, 1) := by decide +kernel
theorem dX8_item_280 : decode cX8_item 280 = .ok (.iadd, 1) := by decide +kernel
theorem dX8_item_281 : decode cX8_item 281 = .ok (.aload_n 0, 1) := by decide +kernel
theorem dX8_item_282 : decode cX8_item 282 = .ok (.getfield 35, 3) := by decide +kernel
theorem dX8_item_285 : decode cX8_item 285 = .ok (.iconst 2, 1) := by decide +kernel
theorem dX8_item_286 : decode cX8_item 286 = .ok (.iaload, 1) := by decide +kernel
theorem dX8_item_287 : decode cX8_item 287 = .ok (.iastore, 1) := by decide +kernel
theorem dX8_item_288 : decode cX8_item 288 = .ok (.iconst 1, 1) := by decide +kernel
theorem dX8_item_289 : decode cX8_item 289 = .ok (.ireturn, 1) := by decide +kernel
theorem dX8_item_290 : decode cX8_item 290 = .ok (.aload_n 0, 1) := by decide +kernel
theorem dX8_item_291 : decode cX8_item 291 = .ok (.ldc 173, 2) := by decide +kernel
theorem dX8_item_293 : decode cX8_item 293 = .ok (.invokevirtual 155, 3) := by decide +kernel
theorem dX8_item_296 : decode cX8_item 296 = .ok (.ifCond .eq 14, 3) := by decide +kernel
theorem dX8_item_299 : decode cX8_item 299 = .ok (.aload_n 0, 1) := by decide +kernel
theorem dX8_item_300 : decode cX8_item 300 = .ok (.iconst 0, 1) := by decide +kernel
theorem dX8_item_301 : decode cX8_item 301 = .ok (.iconst 0, 1) := by decide +kernel
theorem dX8_item_302 : decode cX8_item 302 = .ok (.bipush 7, 2) := by decide +kernel
theorem dX8_item_304 : decode cX8_item 304 = .ok (.invokevirtual 164, 3) := by decide +kernel
theorem dX8_item_307 : decode cX8_item 307 = .ok (.ifCond .ne 5, 3) := by decide +kernel
theorem dX8_item_310 : decode cX8_item 310 = .ok (.iconst 0, 1) := by decide +kernel
theorem dX8_item_311 : decode cX8_item 311 = .ok (.ireturn, 1) := by decide +kernel
theorem dX8_item_312 : decode cX8_item 312 = .ok (.aload_n 0, 1) := by decide +kernel
theorem dX8_item_313 : decode cX8_item 313 = .ok (.getfield 19, 3) := by decide +kernel
theorem dX8_item_316 : decode cX8_item 316 = .ok (.iconst 2, 1) := by decide +kernel
theorem dX8_item_317 : decode cX8_item 317 = .ok (.dup2, 1) := by decide +kernel
theorem dX8_item_318 : decode cX8_item 318 = .ok (.iaload, 1) := by decide +kernel
theorem dX8_item_319 : decode cX8_item 319 = .ok (.iconst 1, 1) := by decide +kernel
theorem dX8_item_320 : decode cX8_item 320 = .ok (.aload_n 0, 1) := by decide +kernel
theorem dX8_item_321 : decode cX8_item 321 = .ok (.getfield 35, 3) := by decide +kernel
theorem dX8_item_324 : decode cX8_item 324 = .ok (.iconst 0, 1) := by decide +kernel
theorem dX8_item_325 : decode cX8_item 325 = .ok (.iaload, 1) := by decide +kernel
theorem dX8_item_326 : decode cX8_item 326 = .ok (.ishl, 1) := by decide +kernel
theorem dX8_item_327 : decode cX8_item 327 = .ok (.ior, 1) := by decide +kernel
theorem dX8_item_328 : decode cX8_item 328 = .ok (.iastore, 1) := by decide +kernel
theorem dX8_item_329 : decode cX8_item 329 = .ok (.iconst 1, 1) := by decide +kernel
theorem dX8_item_330 : decode cX8_item 330 = .ok (.ireturn, 1) := by decide +kernel
theorem dX8_item_331 : decode cX8_item 331 = .ok (.aload_n 0, 1) := by decide +kernel
theorem dX8_item_332 : decode cX8_item 332 = .ok (.ldc 175, 2) := by decide +kernel
theorem dX8_item_334 : decode cX8_item 334 = .ok (.invokevirtual 155, 3) := by decide +kernel
theorem dX8_item_337 : decode cX8_item 337 = .ok (.ifCond .eq 14, 3) := by decide +kernel
theorem dX8_item_340 : decode cX8_item 340 = .ok (.aload_n 0, 1) := by decide +kernel
theorem dX8_item_341 : decode cX8_item 341 = .ok (.iconst 0, 1) := by decide +kernel
theorem dX8_item_342 : decode cX8_item 342 = .ok (.iconst 0, 1) := by decide +kernel
theorem dX8_item_343 : decode cX8_item 343 = .ok (.bipush 7, 2) := by decide +kernel
theorem dX8_item_345 : decode cX8_item 345 = .ok (.invokevirtual 164, 3) := by decide +kernel
theorem dX8_item_348 : decode cX8_item 348 = .ok (.ifCond .ne 5, 3) := by decide +kernel
theorem dX8_item_351 : decode cX8_item 351 = .ok (.iconst 0, 1) := by decide +kernel
theorem dX8_item_352 : decode cX8_item 352 = .ok (.ireturn, 1) := by decide +kernel
theorem dX8_item_353 : decode cX8_item 353 = .ok (.aload_n 0, 1) := by decide +kernel
theorem dX8_item_354 : decode cX8_item 354 = .ok (.getfield 19, 3) := by decide +kernel
theorem dX8_item_357 : decode cX8_item 357 = .ok (.iconst 2, 1) := by decide +kernel
theorem dX8_item_358 : decode cX8_item 358 = .ok (.dup2, 1) := by decide +kernel
theorem dX8_item_359 : decode cX8_item 359 = .ok (.iaload, 1) := by decide +kernel
theorem dX8_item_360 : decode cX8_item 360 = .ok (.iconst 1, 1) := by decide +kernel
theorem dX8_item_361 : decode cX8_item 361 = .ok (.aload_n 0, 1) := by decide +kernel
theorem dX8_item_362 : decode cX8_item 362 = .ok (.getfield 35, 3) := by decide +kernel
theorem dX8_item_365 : decode cX8_item 365 = .ok (.iconst 0, 1) := by decide +kernel
theorem dX8_item_366 : decode cX8_item 366 = .ok (.iaload, 1) := by decide +kernel
theorem dX8_item_367 : decode cX8_item 367 = .ok (.ishl, 1) := by decide +kernel
theorem dX8_item_368 : decode cX8_item 368 = .ok (.iconst (-1), 1) := by decide +kernel
theorem dX8_item_369 : decode cX8_item 369 = .ok (.ixor, 1) := by decide +kernel
theorem dX8_item_370 : decode cX8_item 370 = .ok (.iand, 1) := by decide +kernel
theorem dX8_item_371 : decode cX8_item 371 = .ok (.iastore, 1) := by decide +kernel
theorem dX8_item_372 : decode cX8_item 372 = .ok (.iconst 1, 1) := by decide +kernel
theorem dX8_item_373 : decode cX8_item 373 = .ok (.ireturn, 1) := by decide +kernel
theorem dX8_item_374 : decode cX8_item 374 = .ok (.iconst 0, 1) := by decide +kernel
theorem dX8_item_375 : decode cX8_item 375 = .ok (.ireturn, 1) := by decide +kernel
def B8_item_81 (s1 : Nat) (s2 : Int32) (st : fkS) : Option (Int32 × fkS) :=
 fk_bind (F8_word_ s1 s2 st) <| fun x48 st49 =>
 if x48 = 0 then
 (some ((0 : Int32), st49))
 else
 (fk_bind (F8_number (0 : Int32) (0 : Int32) (6 : Int32) st49) <| fun x50 st51 =>
 if x50 = 0 then
 (some ((0 : Int32), st51))
 else
 (fk_bind (F8_number (1 : Int32) (0 : Int32) (9 : Int32) st51) <| fun x52 st53 =>
 if x52 = 0 then
 (some ((0 : Int32), st53))
 else
 (fk_bind (F8_number (2 : Int32) (0 : Int32) (19 : Int32) st53) <| fun x54 st55 =>
 if x54 = 0 then
 (some ((0 : Int32), st55))
 else
 (fk_chk (fk_in (0 : Int32) 3) <| fk_let (gA st55 9 (0 : Int32).toNatClampNeg) <| fun x56 =>
 fk_chk (fk_in (1 : Int32) 3) <| fk_let (gA st55 9 (1 : Int32).toNatClampNeg) <| fun x57 =>
 fk_chk (fk_in (2 : Int32) 3) <| fk_let (gA st55 9 (2 : Int32).toNatClampNeg) <| fun x58 =>
 fk_bind (F8_newBird x56 x57 x58 st55) <| fun x59 st60 =>
 some ((1 : Int32), st60)))))
set_option maxHeartbeats 1000000 in
set_option maxRecDepth 20000 in
theorem T8_item_81 {g : fkG} {k : fkK} (hk : fk_ok wM g k RX8 cX8_item 1 (some (.boolean)) 9 370) : ∀ (s1 : Nat) (hs1 : s1 < 7) (s2 : Int32) (st : fkS), fk_J wM g fk_eI k 81 [(0, fk_r g 0)] [.int s2, fk_q g s1, fk_r g 0] st (B8_item_81 s1 s2 st) := by
  intro s1 hs1 s2 st
  unfold B8_item_81
  refine j_callVi (pc := 81) hk [fk_q g s1, .int s2] [] rfl (fun l o hq9 => C8_word_ s1 (hs1) s2 st l o hq9) (rcv_8 (rfl)) yv_X8_word_ ml_8_161 rfl (Nat.le_of_ble_eq_true rfl) (Nat.le_of_ble_eq_true rfl) (Nat.le_of_ble_eq_true rfl) dX8_item_81 (fun x48 st49 => ?_)
  refine j_if_eq (tgt := 120) (pc := 84) hk (by decide) dX8_item_84 (fun _ => ?_) (fun _ => ?_)
  · refine j_iconst (pc := 120) hk dX8_item_120 (v := 0) (by decide) ?_
    exact j_zret (pc := 121) hk rfl dX8_item_121
  · refine j_aload_n (pc := 87) hk 0 rfl ⟨_, rfl⟩ dX8_item_87 ?_
    refine j_iconst (pc := 88) hk dX8_item_88 (v := 0) (by decide) ?_
    refine j_iconst (pc := 89) hk dX8_item_89 (v := 0) (by decide) ?_
    refine j_bipush (pc := 90) hk dX8_item_90 (v := 6) (by decide) ?_
    refine j_callVi (pc := 92) hk [.int (0 : Int32), .int (0 : Int32), .int (6 : Int32)] [] rfl (fun l o hq9 => C8_number (0 : Int32) (0 : Int32) (6 : Int32) st49 l o hq9) (rcv_8 (rfl)) yv_X8_number ml_8_164 rfl (Nat.le_of_ble_eq_true rfl) (Nat.le_of_ble_eq_true rfl) (Nat.le_of_ble_eq_true rfl) dX8_item_92 (fun x50 st51 => ?_)
    refine j_if_eq (tgt := 120) (pc := 95) hk (by decide) dX8_item_95 (fun _ => ?_) (fun _ => ?_)
    · refine j_iconst (pc := 120) hk dX8_item_120 (v := 0) (by decide) ?_
      exact j_zret (pc := 121) hk rfl dX8_item_121
    · refine j_aload_n (pc := 98) hk 0 rfl ⟨_, rfl⟩ dX8_item_98 ?_
      refine j_iconst (pc := 99) hk dX8_item_99 (v := 1) (by decide) ?_
      refine j_iconst (pc := 100) hk dX8_item_100 (v := 0) (by decide) ?_
      refine j_bipush (pc := 101) hk dX8_item_101 (v := 9) (by decide) ?_
      refine j_callVi (pc := 103) hk [.int (1 : Int32), .int (0 : Int32), .int (9 : Int32)] [] rfl (fun l o hq9 => C8_number (1 : Int32) (0 : Int32) (9 : Int32) st51 l o hq9) (rcv_8 (rfl)) yv_X8_number ml_8_164 rfl (Nat.le_of_ble_eq_true rfl) (Nat.le_of_ble_eq_true rfl) (Nat.le_of_ble_eq_true rfl) dX8_item_103 (fun x52 st53 => ?_)
      refine j_if_eq (tgt := 120) (pc := 106) hk (by decide) dX8_item_106 (fun _ => ?_) (fun _ => ?_)
      · refine j_iconst (pc := 120) hk dX8_item_120 (v := 0) (by decide) ?_
        exact j_zret (pc := 121) hk rfl dX8_item_121
      · refine j_aload_n (pc := 109) hk 0 rfl ⟨_, rfl⟩ dX8_item_109 ?_
        refine j_iconst (pc := 110) hk dX8_item_110 (v := 2) (by decide) ?_
        refine j_iconst (pc := 111) hk dX8_item_111 (v := 0) (by decide) ?_
        refine j_bipush (pc := 112) hk dX8_item_112 (v := 19) (by decide) ?_
        refine j_callVi (pc := 114) hk [.int (2 : Int32), .int (0 : Int32), .int (19 : Int32)] [] rfl (fun l o hq9 => C8_number (2 : Int32) (0 : Int32) (19 : Int32) st53 l o hq9) (rcv_8 (rfl)) yv_X8_number ml_8_164 rfl (Nat.le_of_ble_eq_true rfl) (Nat.le_of_ble_eq_true rfl) (Nat.le_of_ble_eq_true rfl) dX8_item_114 (fun x54 st55 => ?_)
        refine j_if_ne (tgt := 122) (pc := 117) hk (by decide) dX8_item_117 (fun _ => ?_) (fun _ => ?_)
        · refine j_iconst (pc := 120) hk dX8_item_120 (v := 0) (by decide) ?_
          exact j_zret (pc := 121) hk rfl dX8_item_121
        · refine j_aload_n (pc := 122) hk 0 rfl ⟨_, rfl⟩ dX8_item_122 ?_
          refine j_aload_n (pc := 123) hk 0 rfl ⟨_, rfl⟩ dX8_item_123 ?_
          refine f_8_35 (pc := 124) hk (rfl) dX8_item_124 ?_
          refine j_iconst (pc := 127) hk dX8_item_127 (v := 0) (by decide) ?_
          refine a_iload (pc := 128) hk (isI_8_14) dX8_item_128 (fun x56 => ?_)
          refine j_aload_n (pc := 129) hk 0 rfl ⟨_, rfl⟩ dX8_item_129 ?_
          refine f_8_35 (pc := 130) hk (rfl) dX8_item_130 ?_
          refine j_iconst (pc := 133) hk dX8_item_133 (v := 1) (by decide) ?_
          refine a_iload (pc := 134) hk (isI_8_14) dX8_item_134 (fun x57 => ?_)
          refine j_aload_n (pc := 135) hk 0 rfl ⟨_, rfl⟩ dX8_item_135 ?_
          refine f_8_35 (pc := 136) hk (rfl) dX8_item_136 ?_
          refine j_iconst (pc := 139) hk dX8_item_139 (v := 2) (by decide) ?_
          refine a_iload (pc := 140) hk (isI_8_14) dX8_item_140 (fun x58 => ?_)
          refine j_callVi (pc := 141) hk [.int x56, .int x57, .int x58] [] rfl (fun l o hq9 => C8_newBird x56 x57 x58 st55 l o hq9) (rcv_8 (rfl)) yv_X8_newBird ml_8_122 rfl (Nat.le_of_ble_eq_true rfl) (Nat.le_of_ble_eq_true rfl) (Nat.le_of_ble_eq_true rfl) dX8_item_141 (fun x59 st60 => ?_)
          refine j_pop (pc := 144) hk rfl dX8_item_144 ?_
          refine j_iconst (pc := 145) hk dX8_item_145 (v := 1) (by decide) ?_
          exact j_zret (pc := 146) hk rfl dX8_item_146
def F8_item (st : fkS) : Option (Int32 × fkS) :=
 fk_bind (F8_sign st) <| fun x1 st2 =>
 if x1 = (98 : Int32) then
 (fk_let (gI st2 0 0) <| fun x4 =>
 if (7 : Int32) ≤ x4 then
 (B8_item_81 0 (0 : Int32) st2)
 else
 (B8_item_81 0 (1 : Int32) st2))
 else
 (if x1 = (103 : Int32) then
 (fk_bind (F8_word 3 st2) <| fun x6 st7 =>
 if x6 = 0 then
 (some ((0 : Int32), st7))
 else
 (fk_bind (F8_number (0 : Int32) (0 : Int32) (7 : Int32) st7) <| fun x8 st9 =>
 if x8 = 0 then
 (some ((0 : Int32), st9))
 else
 (fk_bind (F8_number (1 : Int32) (0 : Int32) (4 : Int32) st9) <| fun x10 st11 =>
 if x10 = 0 then
 (some ((0 : Int32), st11))
 else
 (fk_bind (F8_number (2 : Int32) (0 : Int32) (7 : Int32) st11) <| fun x12 st13 =>
 if x12 = 0 then
 (some ((0 : Int32), st13))
 else
 (fk_chk (fk_in (0 : Int32) 3) <| fk_let (gA st13 9 (0 : Int32).toNatClampNeg) <| fun x14 =>
 fk_chk (fk_in (1 : Int32) 3) <| fk_let (gA st13 9 (1 : Int32).toNatClampNeg) <| fun x15 =>
 fk_chk (fk_in (2 : Int32) 3) <| fk_let (gA st13 9 (2 : Int32).toNatClampNeg) <| fun x16 =>
 fk_chk (fk_in (((5 : Int32) * x14) + x15) 40) <| fk_let (sA st13 5 (((5 : Int32) * x14) + x15).toNatClampNeg x16) <| fun st17 =>
 some ((1 : Int32), st17))))))
 else
 (if x1 = (104 : Int32) then
 (fk_bind (F8_word 1 st2) <| fun x19 st20 =>
 if x19 = 0 then
 (some ((0 : Int32), st20))
 else
 (fk_bind (F8_number (0 : Int32) (0 : Int32) (9 : Int32) st20) <| fun x21 st22 =>
 if x21 = 0 then
 (some ((0 : Int32), st22))
 else
 (fk_chk (fk_in (0 : Int32) 3) <| fk_let (gA st22 9 (0 : Int32).toNatClampNeg) <| fun x23 =>
 fk_chk (fk_in (0 : Int32) 3) <| fk_let (sA st22 4 (0 : Int32).toNatClampNeg x23) <| fun st24 =>
 some ((1 : Int32), st24))))
 else
 (if x1 = (105 : Int32) then
 (fk_bind (F8_word 4 st2) <| fun x26 st27 =>
 if x26 = 0 then
 (some ((0 : Int32), st27))
 else
 (fk_bind (F8_number (0 : Int32) (0 : Int32) (7 : Int32) st27) <| fun x28 st29 =>
 if x28 = 0 then
 (some ((0 : Int32), st29))
 else
 (fk_chk (fk_in (2 : Int32) 3) <| fk_let (gA st29 4 (2 : Int32).toNatClampNeg) <| fun x30 =>
 fk_chk (fk_in (0 : Int32) 3) <| fk_let (gA st29 9 (0 : Int32).toNatClampNeg) <| fun x31 =>
 fk_chk (fk_in (2 : Int32) 3) <| fk_let (sA st29 4 (2 : Int32).toNatClampNeg (x30 ||| ((1 : Int32) <<< (x31 &&& 31)))) <| fun st32 =>
 some ((1 : Int32), st32))))
 else
 (if x1 = (115 : Int32) then
 (fk_bind (F8_word 2 st2) <| fun x34 st35 =>
 if x34 = 0 then
 (some ((0 : Int32), st35))
 else
 (fk_bind (F8_number (0 : Int32) (0 : Int32) (7 : Int32) st35) <| fun x36 st37 =>
 if x36 = 0 then
 (some ((0 : Int32), st37))
 else
 (fk_chk (fk_in (0 : Int32) 3) <| fk_let (gA st37 9 (0 : Int32).toNatClampNeg) <| fun x38 =>
 fk_chk (fk_in (1 : Int32) 3) <| fk_let (sA st37 4 (1 : Int32).toNatClampNeg x38) <| fun st39 =>
 some ((1 : Int32), st39))))
 else
 (if x1 = (119 : Int32) then
 (fk_bind (F8_word 5 st2) <| fun x41 st42 =>
 if x41 = 0 then
 (some ((0 : Int32), st42))
 else
 (fk_bind (F8_number (0 : Int32) (0 : Int32) (7 : Int32) st42) <| fun x43 st44 =>
 if x43 = 0 then
 (some ((0 : Int32), st44))
 else
 (fk_chk (fk_in (2 : Int32) 3) <| fk_let (gA st44 4 (2 : Int32).toNatClampNeg) <| fun x45 =>
 fk_chk (fk_in (0 : Int32) 3) <| fk_let (gA st44 9 (0 : Int32).toNatClampNeg) <| fun x46 =>
 fk_chk (fk_in (2 : Int32) 3) <| fk_let (sA st44 4 (2 : Int32).toNatClampNeg (x45 &&& (((1 : Int32) <<< (x46 &&& 31)) ^^^ (-1 : Int32)))) <| fun st47 =>
 some ((1 : Int32), st47))))
 else
 (some ((0 : Int32), st2)))))))
set_option maxHeartbeats 1000000 in
set_option maxRecDepth 20000 in
theorem C8_item (st : fkS) {g : fkG} (l : Launch) (o : Int32 × fkS) (hF : F8_item st = some o) : fk_C wM yX8_item cX8_item 1 (some (.boolean)) 9 370 l g [fk_r g 0] st (fk_eI o.1) o.2 := by
  refine fk_begin rfl (Nat.le_of_ble_eq_true rfl) (fun k hk => ?_) o hF
  have hk : fk_ok wM g k RX8 cX8_item 1 (some (.boolean)) 9 370 := hk
  show fk_J wM g fk_eI k 0 [(0, fk_r g 0)] [] st (F8_item st)
  unfold F8_item
  refine j_aload_n (pc := 0) hk 0 rfl ⟨_, rfl⟩ dX8_item_0 ?_
  refine j_callVi (pc := 1) hk [] [] rfl (fun l o hq9 => C8_sign st l o hq9) (rcv_8 (rfl)) yv_X8_sign ml_8_138 rfl (Nat.le_of_ble_eq_true rfl) (Nat.le_of_ble_eq_true rfl) (Nat.le_of_ble_eq_true rfl) dX8_item_1 (fun x1 st2 => ?_)
  refine j_case (pc := 4) hk (fun n3 => ?_) (fun n3 => ?_)
  · refine j_lsw (off := 60) (tgt := 64) (pc := 4) hk (by decide) (by rw [n3]; decide) (by decide) dX8_item_4 ?_
    refine j_aload_n (pc := 64) hk 0 rfl ⟨_, rfl⟩ dX8_item_64 ?_
    refine j_ldcS (q := 0) (tx := "bird") (pc := 65) hk dX8_item_65 (by decide +kernel) ?_
    refine j_aload_n (pc := 67) hk 0 rfl ⟨_, rfl⟩ dX8_item_67 ?_
    refine f_8_85 (pc := 68) hk (rfl) dX8_item_68 (fun x4 => ?_)
    refine j_bipush (pc := 71) hk dX8_item_71 (v := 7) (by decide) ?_
    refine j_icmp_ge (tgt := 80) (pc := 73) hk (by decide) dX8_item_73 (fun _ => ?_) (fun _ => ?_)
    · refine j_iconst (pc := 80) hk dX8_item_80 (v := 0) (by decide) ?_
      exact j_sub hk [0] rfl (T8_item_81 hk 0 (by decide) (0 : Int32) st2)
    · refine j_iconst (pc := 76) hk dX8_item_76 (v := 1) (by decide) ?_
      refine j_goto (tgt := 81) (pc := 77) hk (by decide) dX8_item_77 ?_
      exact j_sub hk [0] rfl (T8_item_81 hk 0 (by decide) (1 : Int32) st2)
  · refine j_case (pc := 4) hk (fun n5 => ?_) (fun n5 => ?_)
    · refine j_lsw (off := 215) (tgt := 219) (pc := 4) hk (by decide) (by rw [n5]; decide) (by decide) dX8_item_4 ?_
      refine j_aload_n (pc := 219) hk 0 rfl ⟨_, rfl⟩ dX8_item_219 ?_
      refine j_ldcS (q := 3) (tx := "goes") (pc := 220) hk dX8_item_220 (by decide +kernel) ?_
      refine j_callVi (pc := 222) hk [fk_q g 3] [] rfl (fun l o hq9 => C8_word 3 (by decide) st2 l o hq9) (rcv_8 (rfl)) yv_X8_word ml_8_155 rfl (Nat.le_of_ble_eq_true rfl) (Nat.le_of_ble_eq_true rfl) (Nat.le_of_ble_eq_true rfl) dX8_item_222 (fun x6 st7 => ?_)
      refine j_if_eq (tgt := 260) (pc := 225) hk (by decide) dX8_item_225 (fun _ => ?_) (fun _ => ?_)
      · refine j_iconst (pc := 260) hk dX8_item_260 (v := 0) (by decide) ?_
        exact j_zret (pc := 261) hk rfl dX8_item_261
      · refine j_aload_n (pc := 228) hk 0 rfl ⟨_, rfl⟩ dX8_item_228 ?_
        refine j_iconst (pc := 229) hk dX8_item_229 (v := 0) (by decide) ?_
        refine j_iconst (pc := 230) hk dX8_item_230 (v := 0) (by decide) ?_
        refine j_bipush (pc := 231) hk dX8_item_231 (v := 7) (by decide) ?_
        refine j_callVi (pc := 233) hk [.int (0 : Int32), .int (0 : Int32), .int (7 : Int32)] [] rfl (fun l o hq9 => C8_number (0 : Int32) (0 : Int32) (7 : Int32) st7 l o hq9) (rcv_8 (rfl)) yv_X8_number ml_8_164 rfl (Nat.le_of_ble_eq_true rfl) (Nat.le_of_ble_eq_true rfl) (Nat.le_of_ble_eq_true rfl) dX8_item_233 (fun x8 st9 => ?_)
        refine j_if_eq (tgt := 260) (pc := 236) hk (by decide) dX8_item_236 (fun _ => ?_) (fun _ => ?_)
        · refine j_iconst (pc := 260) hk dX8_item_260 (v := 0) (by decide) ?_
          exact j_zret (pc := 261) hk rfl dX8_item_261
        · refine j_aload_n (pc := 239) hk 0 rfl ⟨_, rfl⟩ dX8_item_239 ?_
          refine j_iconst (pc := 240) hk dX8_item_240 (v := 1) (by decide) ?_
          refine j_iconst (pc := 241) hk dX8_item_241 (v := 0) (by decide) ?_
          refine j_iconst (pc := 242) hk dX8_item_242 (v := 4) (by decide) ?_
          refine j_callVi (pc := 243) hk [.int (1 : Int32), .int (0 : Int32), .int (4 : Int32)] [] rfl (fun l o hq9 => C8_number (1 : Int32) (0 : Int32) (4 : Int32) st9 l o hq9) (rcv_8 (rfl)) yv_X8_number ml_8_164 rfl (Nat.le_of_ble_eq_true rfl) (Nat.le_of_ble_eq_true rfl) (Nat.le_of_ble_eq_true rfl) dX8_item_243 (fun x10 st11 => ?_)
          refine j_if_eq (tgt := 260) (pc := 246) hk (by decide) dX8_item_246 (fun _ => ?_) (fun _ => ?_)
          · refine j_iconst (pc := 260) hk dX8_item_260 (v := 0) (by decide) ?_
            exact j_zret (pc := 261) hk rfl dX8_item_261
          · refine j_aload_n (pc := 249) hk 0 rfl ⟨_, rfl⟩ dX8_item_249 ?_
            refine j_iconst (pc := 250) hk dX8_item_250 (v := 2) (by decide) ?_
            refine j_iconst (pc := 251) hk dX8_item_251 (v := 0) (by decide) ?_
            refine j_bipush (pc := 252) hk dX8_item_252 (v := 7) (by decide) ?_
            refine j_callVi (pc := 254) hk [.int (2 : Int32), .int (0 : Int32), .int (7 : Int32)] [] rfl (fun l o hq9 => C8_number (2 : Int32) (0 : Int32) (7 : Int32) st11 l o hq9) (rcv_8 (rfl)) yv_X8_number ml_8_164 rfl (Nat.le_of_ble_eq_true rfl) (Nat.le_of_ble_eq_true rfl) (Nat.le_of_ble_eq_true rfl) dX8_item_254 (fun x12 st13 => ?_)
            refine j_if_ne (tgt := 262) (pc := 257) hk (by decide) dX8_item_257 (fun _ => ?_) (fun _ => ?_)
            · refine j_iconst (pc := 260) hk dX8_item_260 (v := 0) (by decide) ?_
              exact j_zret (pc := 261) hk rfl dX8_item_261
            · refine j_aload_n (pc := 262) hk 0 rfl ⟨_, rfl⟩ dX8_item_262 ?_
              refine f_8_22 (pc := 263) hk (rfl) dX8_item_263 ?_
              refine j_iconst (pc := 266) hk dX8_item_266 (v := 5) (by decide) ?_
              refine j_aload_n (pc := 267) hk 0 rfl ⟨_, rfl⟩ dX8_item_267 ?_
              refine f_8_35 (pc := 268) hk (rfl) dX8_item_268 ?_
              refine j_iconst (pc := 271) hk dX8_item_271 (v := 0) (by decide) ?_
              refine a_iload (pc := 272) hk (isI_8_14) dX8_item_272 (fun x14 => ?_)
              refine j_imul (pc := 273) hk dX8_item_273 ?_
              refine j_aload_n (pc := 274) hk 0 rfl ⟨_, rfl⟩ dX8_item_274 ?_
              refine f_8_35 (pc := 275) hk (rfl) dX8_item_275 ?_
              refine j_iconst (pc := 278) hk dX8_item_278 (v := 1) (by decide) ?_
              refine a_iload (pc := 279) hk (isI_8_14) dX8_item_279 (fun x15 => ?_)
              refine j_iadd (pc := 280) hk dX8_item_280 ?_
              refine j_aload_n (pc := 281) hk 0 rfl ⟨_, rfl⟩ dX8_item_281 ?_
              refine f_8_35 (pc := 282) hk (rfl) dX8_item_282 ?_
              refine j_iconst (pc := 285) hk dX8_item_285 (v := 2) (by decide) ?_
              refine a_iload (pc := 286) hk (isI_8_14) dX8_item_286 (fun x16 => ?_)
              refine a_istore (pc := 287) hk (isI_8_5) dX8_item_287 (fun st17 => ?_)
              refine j_iconst (pc := 288) hk dX8_item_288 (v := 1) (by decide) ?_
              exact j_zret (pc := 289) hk rfl dX8_item_289
    · refine j_case (pc := 4) hk (fun n18 => ?_) (fun n18 => ?_)
      · refine j_lsw (off := 143) (tgt := 147) (pc := 4) hk (by decide) (by rw [n18]; decide) (by decide) dX8_item_4 ?_
        refine j_aload_n (pc := 147) hk 0 rfl ⟨_, rfl⟩ dX8_item_147 ?_
        refine j_ldcS (q := 1) (tx := "heat") (pc := 148) hk dX8_item_148 (by decide +kernel) ?_
        refine j_callVi (pc := 150) hk [fk_q g 1] [] rfl (fun l o hq9 => C8_word 1 (by decide) st2 l o hq9) (rcv_8 (rfl)) yv_X8_word ml_8_155 rfl (Nat.le_of_ble_eq_true rfl) (Nat.le_of_ble_eq_true rfl) (Nat.le_of_ble_eq_true rfl) dX8_item_150 (fun x19 st20 => ?_)
        refine j_if_eq (tgt := 167) (pc := 153) hk (by decide) dX8_item_153 (fun _ => ?_) (fun _ => ?_)
        · refine j_iconst (pc := 167) hk dX8_item_167 (v := 0) (by decide) ?_
          exact j_zret (pc := 168) hk rfl dX8_item_168
        · refine j_aload_n (pc := 156) hk 0 rfl ⟨_, rfl⟩ dX8_item_156 ?_
          refine j_iconst (pc := 157) hk dX8_item_157 (v := 0) (by decide) ?_
          refine j_iconst (pc := 158) hk dX8_item_158 (v := 0) (by decide) ?_
          refine j_bipush (pc := 159) hk dX8_item_159 (v := 9) (by decide) ?_
          refine j_callVi (pc := 161) hk [.int (0 : Int32), .int (0 : Int32), .int (9 : Int32)] [] rfl (fun l o hq9 => C8_number (0 : Int32) (0 : Int32) (9 : Int32) st20 l o hq9) (rcv_8 (rfl)) yv_X8_number ml_8_164 rfl (Nat.le_of_ble_eq_true rfl) (Nat.le_of_ble_eq_true rfl) (Nat.le_of_ble_eq_true rfl) dX8_item_161 (fun x21 st22 => ?_)
          refine j_if_ne (tgt := 169) (pc := 164) hk (by decide) dX8_item_164 (fun _ => ?_) (fun _ => ?_)
          · refine j_iconst (pc := 167) hk dX8_item_167 (v := 0) (by decide) ?_
            exact j_zret (pc := 168) hk rfl dX8_item_168
          · refine j_aload_n (pc := 169) hk 0 rfl ⟨_, rfl⟩ dX8_item_169 ?_
            refine f_8_19 (pc := 170) hk (rfl) dX8_item_170 ?_
            refine j_iconst (pc := 173) hk dX8_item_173 (v := 0) (by decide) ?_
            refine j_aload_n (pc := 174) hk 0 rfl ⟨_, rfl⟩ dX8_item_174 ?_
            refine f_8_35 (pc := 175) hk (rfl) dX8_item_175 ?_
            refine j_iconst (pc := 178) hk dX8_item_178 (v := 0) (by decide) ?_
            refine a_iload (pc := 179) hk (isI_8_14) dX8_item_179 (fun x23 => ?_)
            refine a_istore (pc := 180) hk (isI_8_4) dX8_item_180 (fun st24 => ?_)
            refine j_iconst (pc := 181) hk dX8_item_181 (v := 1) (by decide) ?_
            exact j_zret (pc := 182) hk rfl dX8_item_182
      · refine j_case (pc := 4) hk (fun n25 => ?_) (fun n25 => ?_)
        · refine j_lsw (off := 286) (tgt := 290) (pc := 4) hk (by decide) (by rw [n25]; decide) (by decide) dX8_item_4 ?_
          refine j_aload_n (pc := 290) hk 0 rfl ⟨_, rfl⟩ dX8_item_290 ?_
          refine j_ldcS (q := 4) (tx := "ill") (pc := 291) hk dX8_item_291 (by decide +kernel) ?_
          refine j_callVi (pc := 293) hk [fk_q g 4] [] rfl (fun l o hq9 => C8_word 4 (by decide) st2 l o hq9) (rcv_8 (rfl)) yv_X8_word ml_8_155 rfl (Nat.le_of_ble_eq_true rfl) (Nat.le_of_ble_eq_true rfl) (Nat.le_of_ble_eq_true rfl) dX8_item_293 (fun x26 st27 => ?_)
          refine j_if_eq (tgt := 310) (pc := 296) hk (by decide) dX8_item_296 (fun _ => ?_) (fun _ => ?_)
          · refine j_iconst (pc := 310) hk dX8_item_310 (v := 0) (by decide) ?_
            exact j_zret (pc := 311) hk rfl dX8_item_311
          · refine j_aload_n (pc := 299) hk 0 rfl ⟨_, rfl⟩ dX8_item_299 ?_
            refine j_iconst (pc := 300) hk dX8_item_300 (v := 0) (by decide) ?_
            refine j_iconst (pc := 301) hk dX8_item_301 (v := 0) (by decide) ?_
            refine j_bipush (pc := 302) hk dX8_item_302 (v := 7) (by decide) ?_
            refine j_callVi (pc := 304) hk [.int (0 : Int32), .int (0 : Int32), .int (7 : Int32)] [] rfl (fun l o hq9 => C8_number (0 : Int32) (0 : Int32) (7 : Int32) st27 l o hq9) (rcv_8 (rfl)) yv_X8_number ml_8_164 rfl (Nat.le_of_ble_eq_true rfl) (Nat.le_of_ble_eq_true rfl) (Nat.le_of_ble_eq_true rfl) dX8_item_304 (fun x28 st29 => ?_)
            refine j_if_ne (tgt := 312) (pc := 307) hk (by decide) dX8_item_307 (fun _ => ?_) (fun _ => ?_)
            · refine j_iconst (pc := 310) hk dX8_item_310 (v := 0) (by decide) ?_
              exact j_zret (pc := 311) hk rfl dX8_item_311
            · refine j_aload_n (pc := 312) hk 0 rfl ⟨_, rfl⟩ dX8_item_312 ?_
              refine f_8_19 (pc := 313) hk (rfl) dX8_item_313 ?_
              refine j_iconst (pc := 316) hk dX8_item_316 (v := 2) (by decide) ?_
              refine j_dup2 (pc := 317) hk rfl rfl dX8_item_317 ?_
              refine a_iload (pc := 318) hk (isI_8_4) dX8_item_318 (fun x30 => ?_)
              refine j_iconst (pc := 319) hk dX8_item_319 (v := 1) (by decide) ?_
              refine j_aload_n (pc := 320) hk 0 rfl ⟨_, rfl⟩ dX8_item_320 ?_
              refine f_8_35 (pc := 321) hk (rfl) dX8_item_321 ?_
              refine j_iconst (pc := 324) hk dX8_item_324 (v := 0) (by decide) ?_
              refine a_iload (pc := 325) hk (isI_8_14) dX8_item_325 (fun x31 => ?_)
              refine j_ishl (pc := 326) hk dX8_item_326 ?_
              refine j_ior (pc := 327) hk dX8_item_327 ?_
              refine a_istore (pc := 328) hk (isI_8_4) dX8_item_328 (fun st32 => ?_)
              refine j_iconst (pc := 329) hk dX8_item_329 (v := 1) (by decide) ?_
              exact j_zret (pc := 330) hk rfl dX8_item_330
        · refine j_case (pc := 4) hk (fun n33 => ?_) (fun n33 => ?_)
          · refine j_lsw (off := 179) (tgt := 183) (pc := 4) hk (by decide) (by rw [n33]; decide) (by decide) dX8_item_4 ?_
            refine j_aload_n (pc := 183) hk 0 rfl ⟨_, rfl⟩ dX8_item_183 ?_
            refine j_ldcS (q := 2) (tx := "state") (pc := 184) hk dX8_item_184 (by decide +kernel) ?_
            refine j_callVi (pc := 186) hk [fk_q g 2] [] rfl (fun l o hq9 => C8_word 2 (by decide) st2 l o hq9) (rcv_8 (rfl)) yv_X8_word ml_8_155 rfl (Nat.le_of_ble_eq_true rfl) (Nat.le_of_ble_eq_true rfl) (Nat.le_of_ble_eq_true rfl) dX8_item_186 (fun x34 st35 => ?_)
            refine j_if_eq (tgt := 203) (pc := 189) hk (by decide) dX8_item_189 (fun _ => ?_) (fun _ => ?_)
            · refine j_iconst (pc := 203) hk dX8_item_203 (v := 0) (by decide) ?_
              exact j_zret (pc := 204) hk rfl dX8_item_204
            · refine j_aload_n (pc := 192) hk 0 rfl ⟨_, rfl⟩ dX8_item_192 ?_
              refine j_iconst (pc := 193) hk dX8_item_193 (v := 0) (by decide) ?_
              refine j_iconst (pc := 194) hk dX8_item_194 (v := 0) (by decide) ?_
              refine j_bipush (pc := 195) hk dX8_item_195 (v := 7) (by decide) ?_
              refine j_callVi (pc := 197) hk [.int (0 : Int32), .int (0 : Int32), .int (7 : Int32)] [] rfl (fun l o hq9 => C8_number (0 : Int32) (0 : Int32) (7 : Int32) st35 l o hq9) (rcv_8 (rfl)) yv_X8_number ml_8_164 rfl (Nat.le_of_ble_eq_true rfl) (Nat.le_of_ble_eq_true rfl) (Nat.le_of_ble_eq_true rfl) dX8_item_197 (fun x36 st37 => ?_)
              refine j_if_ne (tgt := 205) (pc := 200) hk (by decide) dX8_item_200 (fun _ => ?_) (fun _ => ?_)
              · refine j_iconst (pc := 203) hk dX8_item_203 (v := 0) (by decide) ?_
                exact j_zret (pc := 204) hk rfl dX8_item_204
              · refine j_aload_n (pc := 205) hk 0 rfl ⟨_, rfl⟩ dX8_item_205 ?_
                refine f_8_19 (pc := 206) hk (rfl) dX8_item_206 ?_
                refine j_iconst (pc := 209) hk dX8_item_209 (v := 1) (by decide) ?_
                refine j_aload_n (pc := 210) hk 0 rfl ⟨_, rfl⟩ dX8_item_210 ?_
                refine f_8_35 (pc := 211) hk (rfl) dX8_item_211 ?_
                refine j_iconst (pc := 214) hk dX8_item_214 (v := 0) (by decide) ?_
                refine a_iload (pc := 215) hk (isI_8_14) dX8_item_215 (fun x38 => ?_)
                refine a_istore (pc := 216) hk (isI_8_4) dX8_item_216 (fun st39 => ?_)
                refine j_iconst (pc := 217) hk dX8_item_217 (v := 1) (by decide) ?_
                exact j_zret (pc := 218) hk rfl dX8_item_218
          · refine j_case (pc := 4) hk (fun n40 => ?_) (fun n40 => ?_)
            · refine j_lsw (off := 327) (tgt := 331) (pc := 4) hk (by decide) (by rw [n40]; decide) (by decide) dX8_item_4 ?_
              refine j_aload_n (pc := 331) hk 0 rfl ⟨_, rfl⟩ dX8_item_331 ?_
              refine j_ldcS (q := 5) (tx := "well") (pc := 332) hk dX8_item_332 (by decide +kernel) ?_
              refine j_callVi (pc := 334) hk [fk_q g 5] [] rfl (fun l o hq9 => C8_word 5 (by decide) st2 l o hq9) (rcv_8 (rfl)) yv_X8_word ml_8_155 rfl (Nat.le_of_ble_eq_true rfl) (Nat.le_of_ble_eq_true rfl) (Nat.le_of_ble_eq_true rfl) dX8_item_334 (fun x41 st42 => ?_)
              refine j_if_eq (tgt := 351) (pc := 337) hk (by decide) dX8_item_337 (fun _ => ?_) (fun _ => ?_)
              · refine j_iconst (pc := 351) hk dX8_item_351 (v := 0) (by decide) ?_
                exact j_zret (pc := 352) hk rfl dX8_item_352
              · refine j_aload_n (pc := 340) hk 0 rfl ⟨_, rfl⟩ dX8_item_340 ?_
                refine j_iconst (pc := 341) hk dX8_item_341 (v := 0) (by decide) ?_
                refine j_iconst (pc := 342) hk dX8_item_342 (v := 0) (by decide) ?_
                refine j_bipush (pc := 343) hk dX8_item_343 (v := 7) (by decide) ?_
                refine j_callVi (pc := 345) hk [.int (0 : Int32), .int (0 : Int32), .int (7 : Int32)] [] rfl (fun l o hq9 => C8_number (0 : Int32) (0 : Int32) (7 : Int32) st42 l o hq9) (rcv_8 (rfl)) yv_X8_number ml_8_164 rfl (Nat.le_of_ble_eq_true rfl) (Nat.le_of_ble_eq_true rfl) (Nat.le_of_ble_eq_true rfl) dX8_item_345 (fun x43 st44 => ?_)
                refine j_if_ne (tgt := 353) (pc := 348) hk (by decide) dX8_item_348 (fun _ => ?_) (fun _ => ?_)
                · refine j_iconst (pc := 351) hk dX8_item_351 (v := 0) (by decide) ?_
                  exact j_zret (pc := 352) hk rfl dX8_item_352
                · refine j_aload_n (pc := 353) hk 0 rfl ⟨_, rfl⟩ dX8_item_353 ?_
                  refine f_8_19 (pc := 354) hk (rfl) dX8_item_354 ?_
                  refine j_iconst (pc := 357) hk dX8_item_357 (v := 2) (by decide) ?_
                  refine j_dup2 (pc := 358) hk rfl rfl dX8_item_358 ?_
                  refine a_iload (pc := 359) hk (isI_8_4) dX8_item_359 (fun x45 => ?_)
                  refine j_iconst (pc := 360) hk dX8_item_360 (v := 1) (by decide) ?_
                  refine j_aload_n (pc := 361) hk 0 rfl ⟨_, rfl⟩ dX8_item_361 ?_
                  refine f_8_35 (pc := 362) hk (rfl) dX8_item_362 ?_
                  refine j_iconst (pc := 365) hk dX8_item_365 (v := 0) (by decide) ?_
                  refine a_iload (pc := 366) hk (isI_8_14) dX8_item_366 (fun x46 => ?_)
                  refine j_ishl (pc := 367) hk dX8_item_367 ?_
                  refine j_iconst (pc := 368) hk dX8_item_368 (v := -1) (by decide) ?_
                  refine j_ixor (pc := 369) hk dX8_item_369 ?_
                  refine j_iand (pc := 370) hk dX8_item_370 ?_
                  refine a_istore (pc := 371) hk (isI_8_4) dX8_item_371 (fun st47 => ?_)
                  refine j_iconst (pc := 372) hk dX8_item_372 (v := 1) (by decide) ?_
                  exact j_zret (pc := 373) hk rfl dX8_item_373
            · have mn3 := lv_neT (a := 98) n3 (by decide)
              have mn5 := lv_neT (a := 103) n5 (by decide)
              have mn18 := lv_neT (a := 104) n18 (by decide)
              have mn25 := lv_neT (a := 105) n25 (by decide)
              have mn33 := lv_neT (a := 115) n33 (by decide)
              have mn40 := lv_neT (a := 119) n40 (by decide)
              refine j_lsw (off := 370) (tgt := 374) (pc := 4) hk (by decide) (fk_lsw (by intro q hq; simp only [List.mem_cons, List.not_mem_nil, or_false] at hq; rcases hq with rfl | rfl | rfl | rfl | rfl | rfl <;> simpa using by assumption)) (by decide) dX8_item_4 ?_
              refine j_iconst (pc := 374) hk dX8_item_374 (v := 0) (by decide) ?_
              exact j_zret (pc := 375) hk rfl dX8_item_375
theorem dX8_keep_0 : decode cX8_keep 0 = .ok (.iconst 0, 1) := by decide +kernel
theorem dX8_keep_1 : decode cX8_keep 1 = .ok (.istore_n 2, 1) := by decide +kernel
theorem dX8_keep_2 : decode cX8_keep 2 = .ok (.iload_n 2, 1) := by decide +kernel
theorem dX8_keep_3 : decode cX8_keep 3 = .ok (.bipush 7, 2) := by decide +kernel
theorem dX8_keep_5 : decode cX8_keep 5 = .ok (.if_icmp .ge 42, 3) := by decide +kernel
theorem dX8_keep_8 : decode cX8_keep 8 = .ok (.aload_n 1, 1) := by decide +kernel
theorem dX8_keep_9 : decode cX8_keep 9 = .ok (.iload_n 2, 1) := by decide +kernel
theorem dX8_keep_10 : decode cX8_keep 10 = .ok (.aload_n 0, 1) := by decide +kernel
theorem dX8_keep_11 : decode cX8_keep 11 = .ok (.getfield 7, 3) := by decide +kernel
theorem dX8_keep_14 : decode cX8_keep 14 = .ok (.iload_n 2, 1) := by decide +kernel
theorem dX8_keep_15 : decode cX8_keep 15 = .ok (.iaload, 1) := by decide +kernel
theorem dX8_keep_16 : decode cX8_keep 16 = .ok (.iastore, 1) := by decide +kernel
theorem dX8_keep_17 : decode cX8_keep 17 = .ok (.aload_n 1, 1) := by decide +kernel
theorem dX8_keep_18 : decode cX8_keep 18 = .ok (.bipush 7, 2) := by decide +kernel
theorem dX8_keep_20 : decode cX8_keep 20 = .ok (.iload_n 2, 1) := by decide +kernel
theorem dX8_keep_21 : decode cX8_keep 21 = .ok (.iadd, 1) := by decide +kernel
theorem dX8_keep_22 : decode cX8_keep 22 = .ok (.aload_n 0, 1) := by decide +kernel
theorem dX8_keep_23 : decode cX8_keep 23 = .ok (.getfield 13, 3) := by decide +kernel
theorem dX8_keep_26 : decode cX8_keep 26 = .ok (.iload_n 2, 1) := by decide +kernel
theorem dX8_keep_27 : decode cX8_keep 27 = .ok (.iaload, 1) := by decide +kernel
theorem dX8_keep_28 : decode cX8_keep 28 = .ok (.iastore, 1) := by decide +kernel
theorem dX8_keep_29 : decode cX8_keep 29 = .ok (.aload_n 1, 1) := by decide +kernel
theorem dX8_keep_30 : decode cX8_keep 30 = .ok (.bipush 14, 2) := by decide +kernel
theorem dX8_keep_32 : decode cX8_keep 32 = .ok (.iload_n 2, 1) := by decide +kernel
theorem dX8_keep_33 : decode cX8_keep 33 = .ok (.iadd, 1) := by decide +kernel
theorem dX8_keep_34 : decode cX8_keep 34 = .ok (.aload_n 0, 1) := by decide +kernel
theorem dX8_keep_35 : decode cX8_keep 35 = .ok (.getfield 16, 3) := by decide +kernel
theorem dX8_keep_38 : decode cX8_keep 38 = .ok (.iload_n 2, 1) := by decide +kernel
theorem dX8_keep_39 : decode cX8_keep 39 = .ok (.iaload, 1) := by decide +kernel
theorem dX8_keep_40 : decode cX8_keep 40 = .ok (.iastore, 1) := by decide +kernel
theorem dX8_keep_41 : decode cX8_keep 41 = .ok (.iinc 2 1, 3) := by decide +kernel
theorem dX8_keep_44 : decode cX8_keep 44 = .ok (.goto (-42), 3) := by decide +kernel
theorem dX8_keep_47 : decode cX8_keep 47 = .ok (.iconst 0, 1) := by decide +kernel
theorem dX8_keep_48 : decode cX8_keep 48 = .ok (.istore_n 2, 1) := by decide +kernel
theorem dX8_keep_49 : decode cX8_keep 49 = .ok (.iload_n 2, 1) := by decide +kernel
theorem dX8_keep_50 : decode cX8_keep 50 = .ok (.bipush 40, 2) := by decide +kernel
theorem dX8_keep_52 : decode cX8_keep 52 = .ok (.if_icmp .ge 21, 3) := by decide +kernel
theorem dX8_keep_55 : decode cX8_keep 55 = .ok (.aload_n 1, 1) := by decide +kernel
theorem dX8_keep_56 : decode cX8_keep 56 = .ok (.bipush 21, 2) := by decide +kernel
theorem dX8_keep_58 : decode cX8_keep 58 = .ok (.iload_n 2, 1) := by decide +kernel
theorem dX8_keep_59 : decode cX8_keep 59 = .ok (.iadd, 1) := by decide +kernel
theorem dX8_keep_60 : decode cX8_keep 60 = .ok (.aload_n 0, 1) := by decide +kernel
theorem dX8_keep_61 : decode cX8_keep 61 = .ok (.getfield 22, 3) := by decide +kernel
theorem dX8_keep_64 : decode cX8_keep 64 = .ok (.iload_n 2, 1) := by decide +kernel
theorem dX8_keep_65 : decode cX8_keep 65 = .ok (.iaload, 1) := by decide +kernel
theorem dX8_keep_66 : decode cX8_keep 66 = .ok (.iastore, 1) := by decide +kernel
theorem dX8_keep_67 : decode cX8_keep 67 = .ok (.iinc 2 1, 3) := by decide +kernel
theorem dX8_keep_70 : decode cX8_keep 70 = .ok (.goto (-21), 3) := by decide +kernel
theorem dX8_keep_73 : decode cX8_keep 73 = .ok (.iconst 0, 1) := by decide +kernel
theorem dX8_keep_74 : decode cX8_keep 74 = .ok (.istore_n 2, 1) := by decide +kernel
theorem dX8_keep_75 : decode cX8_keep 75 = .ok (.iload_n 2, 1) := by decide +kernel
theorem dX8_keep_76 : decode cX8_keep 76 = .ok (.iconst 3, 1) := by decide +kernel
theorem dX8_keep_77 : decode cX8_keep 77 = .ok (.if_icmp .ge 21, 3) := by decide +kernel
theorem dX8_keep_80 : decode cX8_keep 80 = .ok (.aload_n 1, 1) := by decide +kernel
theorem dX8_keep_81 : decode cX8_keep 81 = .ok (.bipush 61, 2) := by decide +kernel
theorem dX8_keep_83 : decode cX8_keep 83 = .ok (.iload_n 2, 1) := by decide +kernel
theorem dX8_keep_84 : decode cX8_keep 84 = .ok (.iadd, 1) := by decide +kernel
theorem dX8_keep_85 : decode cX8_keep 85 = .ok (.aload_n 0, 1) := by decide +kernel
theorem dX8_keep_86 : decode cX8_keep 86 = .ok (.getfield 19, 3) := by decide +kernel
theorem dX8_keep_89 : decode cX8_keep 89 = .ok (.iload_n 2, 1) := by decide +kernel
theorem dX8_keep_90 : decode cX8_keep 90 = .ok (.iaload, 1) := by decide +kernel
theorem dX8_keep_91 : decode cX8_keep 91 = .ok (.iastore, 1) := by decide +kernel
theorem dX8_keep_92 : decode cX8_keep 92 = .ok (.iinc 2 1, 3) := by decide +kernel
theorem dX8_keep_95 : decode cX8_keep 95 = .ok (.goto (-20), 3) := by decide +kernel
theorem dX8_keep_98 : decode cX8_keep 98 = .ok (.aload_n 1, 1) := by decide +kernel
theorem dX8_keep_99 : decode cX8_keep 99 = .ok (.bipush 64, 2) := by decide +kernel
theorem dX8_keep_101 : decode cX8_keep 101 = .ok (.aload_n 0, 1) := by decide +kernel
theorem dX8_keep_102 : decode cX8_keep 102 = .ok (.getfield 85, 3) := by decide +kernel
theorem dX8_keep_105 : decode cX8_keep 105 = .ok (.iastore, 1) := by decide +kernel
theorem dX8_keep_106 : decode cX8_keep 106 = .ok (.aload_n 1, 1) := by decide +kernel
theorem dX8_keep_107 : decode cX8_keep 107 = .ok (.bipush 65, 2) := by decide +kernel
theorem dX8_keep_109 : decode cX8_keep 109 = .ok (.aload_n 0, 1) := by decide +kernel
theorem dX8_keep_110 : decode cX8_keep 110 = .ok (.getfield 277, 3) := by decide +kernel
theorem dX8_keep_113 : decode cX8_keep 113 = .ok (.iastore, 1) := by decide +kernel
theorem dX8_keep_114 : decode cX8_keep 114 = .ok (.aload_n 1, 1) := by decide +kernel
theorem dX8_keep_115 : decode cX8_keep 115 = .ok (.bipush 66, 2) := by decide +kernel
theorem dX8_keep_117 : decode cX8_keep 117 = .ok (.aload_n 0, 1) := by decide +kernel
theorem dX8_keep_118 : decode cX8_keep 118 = .ok (.getfield 280, 3) := by decide +kernel
theorem dX8_keep_121 : decode cX8_keep 121 = .ok (.iastore, 1) := by decide +kernel
theorem dX8_keep_122 : decode cX8_keep 122 = .ok (.return_, 1) := by decide +kernel
def B8_keep_75 (o1 : Nat) (k75 : Int32 → fkS → Option (Unit × fkS)) (v2 : Int32) (st : fkS) : Option (Unit × fkS) :=
 if (3 : Int32) ≤ v2 then
 (fk_let (gI st 0 0) <| fun x9 =>
 fk_chk (fk_in (64 : Int32) 67) <| fk_let (sA st o1 (64 : Int32).toNatClampNeg x9) <| fun st10 =>
 fk_let (gI st10 6 0) <| fun x11 =>
 fk_chk (fk_in (65 : Int32) 67) <| fk_let (sA st10 o1 (65 : Int32).toNatClampNeg x11) <| fun st12 =>
 fk_let (gI st12 7 0) <| fun x13 =>
 fk_chk (fk_in (66 : Int32) 67) <| fk_let (sA st12 o1 (66 : Int32).toNatClampNeg x13) <| fun st14 =>
 some ((), st14))
 else
 (fk_chk (fk_in v2 3) <| fk_let (gA st 4 v2.toNatClampNeg) <| fun x15 =>
 fk_chk (fk_in ((61 : Int32) + v2) 67) <| fk_let (sA st o1 ((61 : Int32) + v2).toNatClampNeg x15) <| fun st16 =>
 k75 (v2 + (1 : Int32)) st16)
set_option maxHeartbeats 1000000 in
set_option maxRecDepth 20000 in
theorem T8_keep_75 {g : fkG} {k : fkK} (o1 : Nat) (ho1 : ∀ g : fkG, fk_isI wM g o1 67) (hk : fk_ok wM g k RX8 cX8_keep 3 none 0 0) (k75 : Int32 → fkS → Option (Unit × fkS)) (H75 : ∀ (v2 : Int32) (st : fkS), fk_J wM g fk_eU k 75 [(0, fk_r g 0), (1, fk_r g o1), (2, .int v2)] [] st (k75 v2 st)) : ∀ (v2 : Int32) (st : fkS), fk_J wM g fk_eU k 75 [(0, fk_r g 0), (1, fk_r g o1), (2, .int v2)] [] st (B8_keep_75 o1 k75 v2 st) := by
  intro v2 st
  unfold B8_keep_75
  refine j_iload_n (pc := 75) hk 2 rfl dX8_keep_75 ?_
  refine j_iconst (pc := 76) hk dX8_keep_76 (v := 3) (by decide) ?_
  refine j_icmp_ge (tgt := 98) (pc := 77) hk (by decide) dX8_keep_77 (fun _ => ?_) (fun _ => ?_)
  · refine j_aload_n (pc := 98) hk 1 rfl ⟨_, rfl⟩ dX8_keep_98 ?_
    refine j_bipush (pc := 99) hk dX8_keep_99 (v := 64) (by decide) ?_
    refine j_aload_n (pc := 101) hk 0 rfl ⟨_, rfl⟩ dX8_keep_101 ?_
    refine f_8_85 (pc := 102) hk (rfl) dX8_keep_102 (fun x9 => ?_)
    refine a_istore (pc := 105) hk (ho1 _) dX8_keep_105 (fun st10 => ?_)
    refine j_aload_n (pc := 106) hk 1 rfl ⟨_, rfl⟩ dX8_keep_106 ?_
    refine j_bipush (pc := 107) hk dX8_keep_107 (v := 65) (by decide) ?_
    refine j_aload_n (pc := 109) hk 0 rfl ⟨_, rfl⟩ dX8_keep_109 ?_
    refine f_8_277 (pc := 110) hk (rfl) dX8_keep_110 (fun x11 => ?_)
    refine a_istore (pc := 113) hk (ho1 _) dX8_keep_113 (fun st12 => ?_)
    refine j_aload_n (pc := 114) hk 1 rfl ⟨_, rfl⟩ dX8_keep_114 ?_
    refine j_bipush (pc := 115) hk dX8_keep_115 (v := 66) (by decide) ?_
    refine j_aload_n (pc := 117) hk 0 rfl ⟨_, rfl⟩ dX8_keep_117 ?_
    refine f_8_280 (pc := 118) hk (rfl) dX8_keep_118 (fun x13 => ?_)
    refine a_istore (pc := 121) hk (ho1 _) dX8_keep_121 (fun st14 => ?_)
    exact j_vret (pc := 122) hk dX8_keep_122
  · refine j_aload_n (pc := 80) hk 1 rfl ⟨_, rfl⟩ dX8_keep_80 ?_
    refine j_bipush (pc := 81) hk dX8_keep_81 (v := 61) (by decide) ?_
    refine j_iload_n (pc := 83) hk 2 rfl dX8_keep_83 ?_
    refine j_iadd (pc := 84) hk dX8_keep_84 ?_
    refine j_aload_n (pc := 85) hk 0 rfl ⟨_, rfl⟩ dX8_keep_85 ?_
    refine f_8_19 (pc := 86) hk (rfl) dX8_keep_86 ?_
    refine j_iload_n (pc := 89) hk 2 rfl dX8_keep_89 ?_
    refine a_iload (pc := 90) hk (isI_8_4) dX8_keep_90 (fun x15 => ?_)
    refine a_istore (pc := 91) hk (ho1 _) dX8_keep_91 (fun st16 => ?_)
    refine j_iinc (dd := (1 : Int32)) (lv' := ((2, .int (v2 + (1 : Int32))) :: [(0, fk_r g 0), (1, fk_r g o1)])) (pc := 92) hk 2 rfl (by decide) (by decide) rfl dX8_keep_92 ?_
    refine j_sub hk (lv' := [(0, fk_r g 0), (1, fk_r g o1), (2, .int (v2 + (1 : Int32)))]) [1, 2, 0] rfl ?_
    refine j_goto (tgt := 75) (pc := 95) hk (by decide) dX8_keep_95 ?_
    exact j_sub hk [0, 1, 2] rfl (H75 (v2 + (1 : Int32)) st16)
set_option maxHeartbeats 1000000 in
set_option maxRecDepth 20000 in
theorem L8_keep_75 {g : fkG} {k : fkK} (o1 : Nat) (ho1 : ∀ g : fkG, fk_isI wM g o1 67) (hk : fk_ok wM g k RX8 cX8_keep 3 none 0 0) (fu : Nat) : ∀ (v2 : Int32) (st : fkS), fk_J wM g fk_eU k 75 [(0, fk_r g 0), (1, fk_r g o1), (2, .int v2)] [] st (fk_lp1 (B8_keep_75 o1) fu v2 st) := by
  induction fu with
  | zero =>
    intro v2 st
    exact j_none hk
  | succ fu ih =>
    exact T8_keep_75 o1 ho1 hk _ ih
def B8_keep_49 (o1 : Nat) (k49 : Int32 → fkS → Option (Unit × fkS)) (v2 : Int32) (st : fkS) : Option (Unit × fkS) :=
 if (40 : Int32) ≤ v2 then
 (fk_lp1 (B8_keep_75 o1) fk_fuel (0 : Int32) st)
 else
 (fk_chk (fk_in v2 40) <| fk_let (gA st 5 v2.toNatClampNeg) <| fun x7 =>
 fk_chk (fk_in ((21 : Int32) + v2) 67) <| fk_let (sA st o1 ((21 : Int32) + v2).toNatClampNeg x7) <| fun st8 =>
 k49 (v2 + (1 : Int32)) st8)
set_option maxHeartbeats 1000000 in
set_option maxRecDepth 20000 in
theorem T8_keep_49 {g : fkG} {k : fkK} (o1 : Nat) (ho1 : ∀ g : fkG, fk_isI wM g o1 67) (hk : fk_ok wM g k RX8 cX8_keep 3 none 0 0) (k49 : Int32 → fkS → Option (Unit × fkS)) (H49 : ∀ (v2 : Int32) (st : fkS), fk_J wM g fk_eU k 49 [(0, fk_r g 0), (1, fk_r g o1), (2, .int v2)] [] st (k49 v2 st)) : ∀ (v2 : Int32) (st : fkS), fk_J wM g fk_eU k 49 [(0, fk_r g 0), (1, fk_r g o1), (2, .int v2)] [] st (B8_keep_49 o1 k49 v2 st) := by
  intro v2 st
  unfold B8_keep_49
  refine j_iload_n (pc := 49) hk 2 rfl dX8_keep_49 ?_
  refine j_bipush (pc := 50) hk dX8_keep_50 (v := 40) (by decide) ?_
  refine j_icmp_ge (tgt := 73) (pc := 52) hk (by decide) dX8_keep_52 (fun _ => ?_) (fun _ => ?_)
  · refine j_iconst (pc := 73) hk dX8_keep_73 (v := 0) (by decide) ?_
    refine j_istore_n (lv' := ((2, .int (0 : Int32)) :: [(0, fk_r g 0), (1, fk_r g o1)])) (pc := 74) hk rfl (by decide) rfl dX8_keep_74 ?_
    refine j_sub hk (lv' := [(0, fk_r g 0), (1, fk_r g o1), (2, .int (0 : Int32))]) [1, 2, 0] rfl ?_
    exact j_sub hk [0, 1, 2] rfl (L8_keep_75 o1 ho1 hk fk_fuel (0 : Int32) st)
  · refine j_aload_n (pc := 55) hk 1 rfl ⟨_, rfl⟩ dX8_keep_55 ?_
    refine j_bipush (pc := 56) hk dX8_keep_56 (v := 21) (by decide) ?_
    refine j_iload_n (pc := 58) hk 2 rfl dX8_keep_58 ?_
    refine j_iadd (pc := 59) hk dX8_keep_59 ?_
    refine j_aload_n (pc := 60) hk 0 rfl ⟨_, rfl⟩ dX8_keep_60 ?_
    refine f_8_22 (pc := 61) hk (rfl) dX8_keep_61 ?_
    refine j_iload_n (pc := 64) hk 2 rfl dX8_keep_64 ?_
    refine a_iload (pc := 65) hk (isI_8_5) dX8_keep_65 (fun x7 => ?_)
    refine a_istore (pc := 66) hk (ho1 _) dX8_keep_66 (fun st8 => ?_)
    refine j_iinc (dd := (1 : Int32)) (lv' := ((2, .int (v2 + (1 : Int32))) :: [(0, fk_r g 0), (1, fk_r g o1)])) (pc := 67) hk 2 rfl (by decide) (by decide) rfl dX8_keep_67 ?_
    refine j_sub hk (lv' := [(0, fk_r g 0), (1, fk_r g o1), (2, .int (v2 + (1 : Int32)))]) [1, 2, 0] rfl ?_
    refine j_goto (tgt := 49) (pc := 70) hk (by decide) dX8_keep_70 ?_
    exact j_sub hk [0, 1, 2] rfl (H49 (v2 + (1 : Int32)) st8)
set_option maxHeartbeats 1000000 in
set_option maxRecDepth 20000 in
theorem L8_keep_49 {g : fkG} {k : fkK} (o1 : Nat) (ho1 : ∀ g : fkG, fk_isI wM g o1 67) (hk : fk_ok wM g k RX8 cX8_keep 3 none 0 0) (fu : Nat) : ∀ (v2 : Int32) (st : fkS), fk_J wM g fk_eU k 49 [(0, fk_r g 0), (1, fk_r g o1), (2, .int v2)] [] st (fk_lp1 (B8_keep_49 o1) fu v2 st) := by
  induction fu with
  | zero =>
    intro v2 st
    exact j_none hk
  | succ fu ih =>
    exact T8_keep_49 o1 ho1 hk _ ih
def B8_keep_2 (o1 : Nat) (k2 : Int32 → fkS → Option (Unit × fkS)) (v2 : Int32) (st : fkS) : Option (Unit × fkS) :=
 if (7 : Int32) ≤ v2 then
 (fk_lp1 (B8_keep_49 o1) fk_fuel (0 : Int32) st)
 else
 (fk_chk (fk_in v2 7) <| fk_let (gA st 1 v2.toNatClampNeg) <| fun x1 =>
 fk_chk (fk_in v2 67) <| fk_let (sA st o1 v2.toNatClampNeg x1) <| fun st2 =>
 fk_chk (fk_in v2 7) <| fk_let (gA st2 2 v2.toNatClampNeg) <| fun x3 =>
 fk_chk (fk_in ((7 : Int32) + v2) 67) <| fk_let (sA st2 o1 ((7 : Int32) + v2).toNatClampNeg x3) <| fun st4 =>
 fk_chk (fk_in v2 7) <| fk_let (gA st4 3 v2.toNatClampNeg) <| fun x5 =>
 fk_chk (fk_in ((14 : Int32) + v2) 67) <| fk_let (sA st4 o1 ((14 : Int32) + v2).toNatClampNeg x5) <| fun st6 =>
 k2 (v2 + (1 : Int32)) st6)
set_option maxHeartbeats 1000000 in
set_option maxRecDepth 20000 in
theorem T8_keep_2 {g : fkG} {k : fkK} (o1 : Nat) (ho1 : ∀ g : fkG, fk_isI wM g o1 67) (hk : fk_ok wM g k RX8 cX8_keep 3 none 0 0) (k2 : Int32 → fkS → Option (Unit × fkS)) (H2 : ∀ (v2 : Int32) (st : fkS), fk_J wM g fk_eU k 2 [(0, fk_r g 0), (1, fk_r g o1), (2, .int v2)] [] st (k2 v2 st)) : ∀ (v2 : Int32) (st : fkS), fk_J wM g fk_eU k 2 [(0, fk_r g 0), (1, fk_r g o1), (2, .int v2)] [] st (B8_keep_2 o1 k2 v2 st) := by
  intro v2 st
  unfold B8_keep_2
  refine j_iload_n (pc := 2) hk 2 rfl dX8_keep_2 ?_
  refine j_bipush (pc := 3) hk dX8_keep_3 (v := 7) (by decide) ?_
  refine j_icmp_ge (tgt := 47) (pc := 5) hk (by decide) dX8_keep_5 (fun _ => ?_) (fun _ => ?_)
  · refine j_iconst (pc := 47) hk dX8_keep_47 (v := 0) (by decide) ?_
    refine j_istore_n (lv' := ((2, .int (0 : Int32)) :: [(0, fk_r g 0), (1, fk_r g o1)])) (pc := 48) hk rfl (by decide) rfl dX8_keep_48 ?_
    refine j_sub hk (lv' := [(0, fk_r g 0), (1, fk_r g o1), (2, .int (0 : Int32))]) [1, 2, 0] rfl ?_
    exact j_sub hk [0, 1, 2] rfl (L8_keep_49 o1 ho1 hk fk_fuel (0 : Int32) st)
  · refine j_aload_n (pc := 8) hk 1 rfl ⟨_, rfl⟩ dX8_keep_8 ?_
    refine j_iload_n (pc := 9) hk 2 rfl dX8_keep_9 ?_
    refine j_aload_n (pc := 10) hk 0 rfl ⟨_, rfl⟩ dX8_keep_10 ?_
    refine f_8_7 (pc := 11) hk (rfl) dX8_keep_11 ?_
    refine j_iload_n (pc := 14) hk 2 rfl dX8_keep_14 ?_
    refine a_iload (pc := 15) hk (isI_8_1) dX8_keep_15 (fun x1 => ?_)
    refine a_istore (pc := 16) hk (ho1 _) dX8_keep_16 (fun st2 => ?_)
    refine j_aload_n (pc := 17) hk 1 rfl ⟨_, rfl⟩ dX8_keep_17 ?_
    refine j_bipush (pc := 18) hk dX8_keep_18 (v := 7) (by decide) ?_
    refine j_iload_n (pc := 20) hk 2 rfl dX8_keep_20 ?_
    refine j_iadd (pc := 21) hk dX8_keep_21 ?_
    refine j_aload_n (pc := 22) hk 0 rfl ⟨_, rfl⟩ dX8_keep_22 ?_
    refine f_8_13 (pc := 23) hk (rfl) dX8_keep_23 ?_
    refine j_iload_n (pc := 26) hk 2 rfl dX8_keep_26 ?_
    refine a_iload (pc := 27) hk (isI_8_2) dX8_keep_27 (fun x3 => ?_)
    refine a_istore (pc := 28) hk (ho1 _) dX8_keep_28 (fun st4 => ?_)
    refine j_aload_n (pc := 29) hk 1 rfl ⟨_, rfl⟩ dX8_keep_29 ?_
    refine j_bipush (pc := 30) hk dX8_keep_30 (v := 14) (by decide) ?_
    refine j_iload_n (pc := 32) hk 2 rfl dX8_keep_32 ?_
    refine j_iadd (pc := 33) hk dX8_keep_33 ?_
    refine j_aload_n (pc := 34) hk 0 rfl ⟨_, rfl⟩ dX8_keep_34 ?_
    refine f_8_16 (pc := 35) hk (rfl) dX8_keep_35 ?_
    refine j_iload_n (pc := 38) hk 2 rfl dX8_keep_38 ?_
    refine a_iload (pc := 39) hk (isI_8_3) dX8_keep_39 (fun x5 => ?_)
    refine a_istore (pc := 40) hk (ho1 _) dX8_keep_40 (fun st6 => ?_)
    refine j_iinc (dd := (1 : Int32)) (lv' := ((2, .int (v2 + (1 : Int32))) :: [(0, fk_r g 0), (1, fk_r g o1)])) (pc := 41) hk 2 rfl (by decide) (by decide) rfl dX8_keep_41 ?_
    refine j_sub hk (lv' := [(0, fk_r g 0), (1, fk_r g o1), (2, .int (v2 + (1 : Int32)))]) [1, 2, 0] rfl ?_
    refine j_goto (tgt := 2) (pc := 44) hk (by decide) dX8_keep_44 ?_
    exact j_sub hk [0, 1, 2] rfl (H2 (v2 + (1 : Int32)) st6)
set_option maxHeartbeats 1000000 in
set_option maxRecDepth 20000 in
theorem L8_keep_2 {g : fkG} {k : fkK} (o1 : Nat) (ho1 : ∀ g : fkG, fk_isI wM g o1 67) (hk : fk_ok wM g k RX8 cX8_keep 3 none 0 0) (fu : Nat) : ∀ (v2 : Int32) (st : fkS), fk_J wM g fk_eU k 2 [(0, fk_r g 0), (1, fk_r g o1), (2, .int v2)] [] st (fk_lp1 (B8_keep_2 o1) fu v2 st) := by
  induction fu with
  | zero =>
    intro v2 st
    exact j_none hk
  | succ fu ih =>
    exact T8_keep_2 o1 ho1 hk _ ih
def F8_keep (o1 : Nat) (st : fkS) : Option (Unit × fkS) :=
 fk_lp1 (B8_keep_2 o1) fk_fuel (0 : Int32) st
set_option maxHeartbeats 1000000 in
set_option maxRecDepth 20000 in
theorem C8_keep (o1 : Nat) (ho1 : ∀ g : fkG, fk_isI wM g o1 67) (st : fkS) {g : fkG} (l : Launch) (o : Unit × fkS) (hF : F8_keep o1 st = some o) : fk_C wM yX8_keep cX8_keep 3 none 0 0 l g [fk_r g 0, fk_r g o1] st (fk_eU o.1) o.2 := by
  refine fk_begin rfl (Nat.le_of_ble_eq_true rfl) (fun k hk => ?_) o hF
  have hk : fk_ok wM g k RX8 cX8_keep 3 none 0 0 := hk
  show fk_J wM g fk_eU k 0 [(0, fk_r g 0), (1, fk_r g o1)] [] st (F8_keep o1 st)
  unfold F8_keep
  refine j_iconst (pc := 0) hk dX8_keep_0 (v := 0) (by decide) ?_
  refine j_istore_n (lv' := ((2, .int (0 : Int32)) :: [(0, fk_r g 0), (1, fk_r g o1)])) (pc := 1) hk rfl (by decide) rfl dX8_keep_1 ?_
  refine j_sub hk (lv' := [(0, fk_r g 0), (1, fk_r g o1), (2, .int (0 : Int32))]) [1, 2, 0] rfl ?_
  exact j_sub hk [0, 1, 2] rfl (L8_keep_2 o1 ho1 hk fk_fuel (0 : Int32) st)
theorem dX8_again_0 : decode cX8_again 0 = .ok (.iconst 0, 1) := by decide +kernel
theorem dX8_again_1 : decode cX8_again 1 = .ok (.istore_n 2, 1) := by decide +kernel
theorem dX8_again_2 : decode cX8_again 2 = .ok (.iload_n 2, 1) := by decide +kernel
theorem dX8_again_3 : decode cX8_again 3 = .ok (.bipush 7, 2) := by decide +kernel
theorem dX8_again_5 : decode cX8_again 5 = .ok (.if_icmp .ge 42, 3) := by decide +kernel
theorem dX8_again_8 : decode cX8_again 8 = .ok (.aload_n 0, 1) := by decide +kernel
theorem dX8_again_9 : decode cX8_again 9 = .ok (.getfield 7, 3) := by decide +kernel
theorem dX8_again_12 : decode cX8_again 12 = .ok (.iload_n 2, 1) := by decide +kernel
theorem dX8_again_13 : decode cX8_again 13 = .ok (.aload_n 1, 1) := by decide +kernel
theorem dX8_again_14 : decode cX8_again 14 = .ok (.iload_n 2, 1) := by decide +kernel
theorem dX8_again_15 : decode cX8_again 15 = .ok (.iaload, 1) := by decide +kernel
theorem dX8_again_16 : decode cX8_again 16 = .ok (.iastore, 1) := by decide +kernel
theorem dX8_again_17 : decode cX8_again 17 = .ok (.aload_n 0, 1) := by decide +kernel
theorem dX8_again_18 : decode cX8_again 18 = .ok (.getfield 13, 3) := by decide +kernel
theorem dX8_again_21 : decode cX8_again 21 = .ok (.iload_n 2, 1) := by decide +kernel
theorem dX8_again_22 : decode cX8_again 22 = .ok (.aload_n 1, 1) := by decide +kernel
theorem dX8_again_23 : decode cX8_again 23 = .ok (.bipush 7, 2) := by decide +kernel
theorem dX8_again_25 : decode cX8_again 25 = .ok (.iload_n 2, 1) := by decide +kernel
theorem dX8_again_26 : decode cX8_again 26 = .ok (.iadd, 1) := by decide +kernel
theorem dX8_again_27 : decode cX8_again 27 = .ok (.iaload, 1) := by decide +kernel
theorem dX8_again_28 : decode cX8_again 28 = .ok (.iastore, 1) := by decide +kernel
theorem dX8_again_29 : decode cX8_again 29 = .ok (.aload_n 0, 1) := by decide +kernel
theorem dX8_again_30 : decode cX8_again 30 = .ok (.getfield 16, 3) := by decide +kernel
theorem dX8_again_33 : decode cX8_again 33 = .ok (.iload_n 2, 1) := by decide +kernel
theorem dX8_again_34 : decode cX8_again 34 = .ok (.aload_n 1, 1) := by decide +kernel
theorem dX8_again_35 : decode cX8_again 35 = .ok (.bipush 14, 2) := by decide +kernel
theorem dX8_again_37 : decode cX8_again 37 = .ok (.iload_n 2, 1) := by decide +kernel
theorem dX8_again_38 : decode cX8_again 38 = .ok (.iadd, 1) := by decide +kernel
theorem dX8_again_39 : decode cX8_again 39 = .ok (.iaload, 1) := by decide +kernel
theorem dX8_again_40 : decode cX8_again 40 = .ok (.iastore, 1) := by decide +kernel
theorem dX8_again_41 : decode cX8_again 41 = .ok (.iinc 2 1, 3) := by decide +kernel
theorem dX8_again_44 : decode cX8_again 44 = .ok (.goto (-42), 3) := by decide +kernel
theorem dX8_again_47 : decode cX8_again 47 = .ok (.iconst 0, 1) := by decide +kernel
theorem dX8_again_48 : decode cX8_again 48 = .ok (.istore_n 2, 1) := by decide +kernel
theorem dX8_again_49 : decode cX8_again 49 = .ok (.iload_n 2, 1) := by decide +kernel
theorem dX8_again_50 : decode cX8_again 50 = .ok (.bipush 40, 2) := by decide +kernel
theorem dX8_again_52 : decode cX8_again 52 = .ok (.if_icmp .ge 21, 3) := by decide +kernel
theorem dX8_again_55 : decode cX8_again 55 = .ok (.aload_n 0, 1) := by decide +kernel
theorem dX8_again_56 : decode cX8_again 56 = .ok (.getfield 22, 3) := by decide +kernel
theorem dX8_again_59 : decode cX8_again 59 = .ok (.iload_n 2, 1) := by decide +kernel
theorem dX8_again_60 : decode cX8_again 60 = .ok (.aload_n 1, 1) := by decide +kernel
theorem dX8_again_61 : decode cX8_again 61 = .ok (.bipush 21, 2) := by decide +kernel
theorem dX8_again_63 : decode cX8_again 63 = .ok (.iload_n 2, 1) := by decide +kernel
theorem dX8_again_64 : decode cX8_again 64 = .ok (.iadd, 1) := by decide +kernel
theorem dX8_again_65 : decode cX8_again 65 = .ok (.iaload, 1) := by decide +kernel
theorem dX8_again_66 : decode cX8_again 66 = .ok (.iastore, 1) := by decide +kernel
theorem dX8_again_67 : decode cX8_again 67 = .ok (.iinc 2 1, 3) := by decide +kernel
theorem dX8_again_70 : decode cX8_again 70 = .ok (.goto (-21), 3) := by decide +kernel
theorem dX8_again_73 : decode cX8_again 73 = .ok (.iconst 0, 1) := by decide +kernel
theorem dX8_again_74 : decode cX8_again 74 = .ok (.istore_n 2, 1) := by decide +kernel
theorem dX8_again_75 : decode cX8_again 75 = .ok (.iload_n 2, 1) := by decide +kernel
theorem dX8_again_76 : decode cX8_again 76 = .ok (.iconst 3, 1) := by decide +kernel
theorem dX8_again_77 : decode cX8_again 77 = .ok (.if_icmp .ge 21, 3) := by decide +kernel
theorem dX8_again_80 : decode cX8_again 80 = .ok (.aload_n 0, 1) := by decide +kernel
theorem dX8_again_81 : decode cX8_again 81 = .ok (.getfield 19, 3) := by decide +kernel
theorem dX8_again_84 : decode cX8_again 84 = .ok (.iload_n 2, 1) := by decide +kernel
theorem dX8_again_85 : decode cX8_again 85 = .ok (.aload_n 1, 1) := by decide +kernel
theorem dX8_again_86 : decode cX8_again 86 = .ok (.bipush 61, 2) := by decide +kernel
theorem dX8_again_88 : decode cX8_again 88 = .ok (.iload_n 2, 1) := by decide +kernel
theorem dX8_again_89 : decode cX8_again 89 = .ok (.iadd, 1) := by decide +kernel
theorem dX8_again_90 : decode cX8_again 90 = .ok (.iaload, 1) := by decide +kernel
theorem dX8_again_91 : decode cX8_again 91 = .ok (.iastore, 1) := by decide +kernel
theorem dX8_again_92 : decode cX8_again 92 = .ok (.iinc 2 1, 3) := by decide +kernel
theorem dX8_again_95 : decode cX8_again 95 = .ok (.goto (-20), 3) := by decide +kernel
theorem dX8_again_98 : decode cX8_again 98 = .ok (.aload_n 0, 1) := by decide +kernel
theorem dX8_again_99 : decode cX8_again 99 = .ok (.aload_n 1, 1) := by decide +kernel
theorem dX8_again_100 : decode cX8_again 100 = .ok (.bipush 64, 2) := by decide +kernel
theorem dX8_again_102 : decode cX8_again 102 = .ok (.iaload, 1) := by decide +kernel
theorem dX8_again_103 : decode cX8_again 103 = .ok (.putfield 85, 3) := by decide +kernel
theorem dX8_again_106 : decode cX8_again 106 = .ok (.aload_n 0, 1) := by decide +kernel
theorem dX8_again_107 : decode cX8_again 107 = .ok (.aload_n 1, 1) := by decide +kernel
theorem dX8_again_108 : decode cX8_again 108 = .ok (.bipush 65, 2) := by decide +kernel
theorem dX8_again_110 : decode cX8_again 110 = .ok (.iaload, 1) := by decide +kernel
theorem dX8_again_111 : decode cX8_again 111 = .ok (.putfield 277, 3) := by decide +kernel
theorem dX8_again_114 : decode cX8_again 114 = .ok (.aload_n 0, 1) := by decide +kernel
theorem dX8_again_115 : decode cX8_again 115 = .ok (.aload_n 1, 1) := by decide +kernel
theorem dX8_again_116 : decode cX8_again 116 = .ok (.bipush 66, 2) := by decide +kernel
theorem dX8_again_118 : decode cX8_again 118 = .ok (.iaload, 1) := by decide +kernel
theorem dX8_again_119 : decode cX8_again 119 = .ok (.putfield 280, 3) := by decide +kernel
theorem dX8_again_122 : decode cX8_again 122 = .ok (.return_, 1) := by decide +kernel
def B8_again_75 (o1 : Nat) (k75 : Int32 → fkS → Option (Unit × fkS)) (v2 : Int32) (st : fkS) : Option (Unit × fkS) :=
 if (3 : Int32) ≤ v2 then
 (fk_chk (fk_in (64 : Int32) 67) <| fk_let (gA st o1 (64 : Int32).toNatClampNeg) <| fun x9 =>
 fk_let (sI st 0 0 x9) <| fun st10 =>
 fk_chk (fk_in (65 : Int32) 67) <| fk_let (gA st10 o1 (65 : Int32).toNatClampNeg) <| fun x11 =>
 fk_let (sI st10 6 0 x11) <| fun st12 =>
 fk_chk (fk_in (66 : Int32) 67) <| fk_let (gA st12 o1 (66 : Int32).toNatClampNeg) <| fun x13 =>
 fk_let (sI st12 7 0 x13) <| fun st14 =>
 some ((), st14))
 else
 (fk_chk (fk_in ((61 : Int32) + v2) 67) <| fk_let (gA st o1 ((61 : Int32) + v2).toNatClampNeg) <| fun x15 =>
 fk_chk (fk_in v2 3) <| fk_let (sA st 4 v2.toNatClampNeg x15) <| fun st16 =>
 k75 (v2 + (1 : Int32)) st16)
set_option maxHeartbeats 1000000 in
set_option maxRecDepth 20000 in
theorem T8_again_75 {g : fkG} {k : fkK} (o1 : Nat) (ho1 : ∀ g : fkG, fk_isI wM g o1 67) (hk : fk_ok wM g k RX8 cX8_again 3 none 0 0) (k75 : Int32 → fkS → Option (Unit × fkS)) (H75 : ∀ (v2 : Int32) (st : fkS), fk_J wM g fk_eU k 75 [(0, fk_r g 0), (1, fk_r g o1), (2, .int v2)] [] st (k75 v2 st)) : ∀ (v2 : Int32) (st : fkS), fk_J wM g fk_eU k 75 [(0, fk_r g 0), (1, fk_r g o1), (2, .int v2)] [] st (B8_again_75 o1 k75 v2 st) := by
  intro v2 st
  unfold B8_again_75
  refine j_iload_n (pc := 75) hk 2 rfl dX8_again_75 ?_
  refine j_iconst (pc := 76) hk dX8_again_76 (v := 3) (by decide) ?_
  refine j_icmp_ge (tgt := 98) (pc := 77) hk (by decide) dX8_again_77 (fun _ => ?_) (fun _ => ?_)
  · refine j_aload_n (pc := 98) hk 0 rfl ⟨_, rfl⟩ dX8_again_98 ?_
    refine j_aload_n (pc := 99) hk 1 rfl ⟨_, rfl⟩ dX8_again_99 ?_
    refine j_bipush (pc := 100) hk dX8_again_100 (v := 64) (by decide) ?_
    refine a_iload (pc := 102) hk (ho1 _) dX8_again_102 (fun x9 => ?_)
    refine p_8_85 (pc := 103) hk (rfl) dX8_again_103 (fun st10 => ?_)
    refine j_aload_n (pc := 106) hk 0 rfl ⟨_, rfl⟩ dX8_again_106 ?_
    refine j_aload_n (pc := 107) hk 1 rfl ⟨_, rfl⟩ dX8_again_107 ?_
    refine j_bipush (pc := 108) hk dX8_again_108 (v := 65) (by decide) ?_
    refine a_iload (pc := 110) hk (ho1 _) dX8_again_110 (fun x11 => ?_)
    refine p_8_277 (pc := 111) hk (rfl) dX8_again_111 (fun st12 => ?_)
    refine j_aload_n (pc := 114) hk 0 rfl ⟨_, rfl⟩ dX8_again_114 ?_
    refine j_aload_n (pc := 115) hk 1 rfl ⟨_, rfl⟩ dX8_again_115 ?_
    refine j_bipush (pc := 116) hk dX8_again_116 (v := 66) (by decide) ?_
    refine a_iload (pc := 118) hk (ho1 _) dX8_again_118 (fun x13 => ?_)
    refine p_8_280 (pc := 119) hk (rfl) dX8_again_119 (fun st14 => ?_)
    exact j_vret (pc := 122) hk dX8_again_122
  · refine j_aload_n (pc := 80) hk 0 rfl ⟨_, rfl⟩ dX8_again_80 ?_
    refine f_8_19 (pc := 81) hk (rfl) dX8_again_81 ?_
    refine j_iload_n (pc := 84) hk 2 rfl dX8_again_84 ?_
    refine j_aload_n (pc := 85) hk 1 rfl ⟨_, rfl⟩ dX8_again_85 ?_
    refine j_bipush (pc := 86) hk dX8_again_86 (v := 61) (by decide) ?_
    refine j_iload_n (pc := 88) hk 2 rfl dX8_again_88 ?_
    refine j_iadd (pc := 89) hk dX8_again_89 ?_
    refine a_iload (pc := 90) hk (ho1 _) dX8_again_90 (fun x15 => ?_)
    refine a_istore (pc := 91) hk (isI_8_4) dX8_again_91 (fun st16 => ?_)
    refine j_iinc (dd := (1 : Int32)) (lv' := ((2, .int (v2 + (1 : Int32))) :: [(0, fk_r g 0), (1, fk_r g o1)])) (pc := 92) hk 2 rfl (by decide) (by decide) rfl dX8_again_92 ?_
    refine j_sub hk (lv' := [(0, fk_r g 0), (1, fk_r g o1), (2, .int (v2 + (1 : Int32)))]) [1, 2, 0] rfl ?_
    refine j_goto (tgt := 75) (pc := 95) hk (by decide) dX8_again_95 ?_
    exact j_sub hk [0, 1, 2] rfl (H75 (v2 + (1 : Int32)) st16)
set_option maxHeartbeats 1000000 in
set_option maxRecDepth 20000 in
theorem L8_again_75 {g : fkG} {k : fkK} (o1 : Nat) (ho1 : ∀ g : fkG, fk_isI wM g o1 67) (hk : fk_ok wM g k RX8 cX8_again 3 none 0 0) (fu : Nat) : ∀ (v2 : Int32) (st : fkS), fk_J wM g fk_eU k 75 [(0, fk_r g 0), (1, fk_r g o1), (2, .int v2)] [] st (fk_lp1 (B8_again_75 o1) fu v2 st) := by
  induction fu with
  | zero =>
    intro v2 st
    exact j_none hk
  | succ fu ih =>
    exact T8_again_75 o1 ho1 hk _ ih
def B8_again_49 (o1 : Nat) (k49 : Int32 → fkS → Option (Unit × fkS)) (v2 : Int32) (st : fkS) : Option (Unit × fkS) :=
 if (40 : Int32) ≤ v2 then
 (fk_lp1 (B8_again_75 o1) fk_fuel (0 : Int32) st)
 else
 (fk_chk (fk_in ((21 : Int32) + v2) 67) <| fk_let (gA st o1 ((21 : Int32) + v2).toNatClampNeg) <| fun x7 =>
 fk_chk (fk_in v2 40) <| fk_let (sA st 5 v2.toNatClampNeg x7) <| fun st8 =>
 k49 (v2 + (1 : Int32)) st8)
set_option maxHeartbeats 1000000 in
set_option maxRecDepth 20000 in
theorem T8_again_49 {g : fkG} {k : fkK} (o1 : Nat) (ho1 : ∀ g : fkG, fk_isI wM g o1 67) (hk : fk_ok wM g k RX8 cX8_again 3 none 0 0) (k49 : Int32 → fkS → Option (Unit × fkS)) (H49 : ∀ (v2 : Int32) (st : fkS), fk_J wM g fk_eU k 49 [(0, fk_r g 0), (1, fk_r g o1), (2, .int v2)] [] st (k49 v2 st)) : ∀ (v2 : Int32) (st : fkS), fk_J wM g fk_eU k 49 [(0, fk_r g 0), (1, fk_r g o1), (2, .int v2)] [] st (B8_again_49 o1 k49 v2 st) := by
  intro v2 st
  unfold B8_again_49
  refine j_iload_n (pc := 49) hk 2 rfl dX8_again_49 ?_
  refine j_bipush (pc := 50) hk dX8_again_50 (v := 40) (by decide) ?_
  refine j_icmp_ge (tgt := 73) (pc := 52) hk (by decide) dX8_again_52 (fun _ => ?_) (fun _ => ?_)
  · refine j_iconst (pc := 73) hk dX8_again_73 (v := 0) (by decide) ?_
    refine j_istore_n (lv' := ((2, .int (0 : Int32)) :: [(0, fk_r g 0), (1, fk_r g o1)])) (pc := 74) hk rfl (by decide) rfl dX8_again_74 ?_
    refine j_sub hk (lv' := [(0, fk_r g 0), (1, fk_r g o1), (2, .int (0 : Int32))]) [1, 2, 0] rfl ?_
    exact j_sub hk [0, 1, 2] rfl (L8_again_75 o1 ho1 hk fk_fuel (0 : Int32) st)
  · refine j_aload_n (pc := 55) hk 0 rfl ⟨_, rfl⟩ dX8_again_55 ?_
    refine f_8_22 (pc := 56) hk (rfl) dX8_again_56 ?_
    refine j_iload_n (pc := 59) hk 2 rfl dX8_again_59 ?_
    refine j_aload_n (pc := 60) hk 1 rfl ⟨_, rfl⟩ dX8_again_60 ?_
    refine j_bipush (pc := 61) hk dX8_again_61 (v := 21) (by decide) ?_
    refine j_iload_n (pc := 63) hk 2 rfl dX8_again_63 ?_
    refine j_iadd (pc := 64) hk dX8_again_64 ?_
    refine a_iload (pc := 65) hk (ho1 _) dX8_again_65 (fun x7 => ?_)
    refine a_istore (pc := 66) hk (isI_8_5) dX8_again_66 (fun st8 => ?_)
    refine j_iinc (dd := (1 : Int32)) (lv' := ((2, .int (v2 + (1 : Int32))) :: [(0, fk_r g 0), (1, fk_r g o1)])) (pc := 67) hk 2 rfl (by decide) (by decide) rfl dX8_again_67 ?_
    refine j_sub hk (lv' := [(0, fk_r g 0), (1, fk_r g o1), (2, .int (v2 + (1 : Int32)))]) [1, 2, 0] rfl ?_
    refine j_goto (tgt := 49) (pc := 70) hk (by decide) dX8_again_70 ?_
    exact j_sub hk [0, 1, 2] rfl (H49 (v2 + (1 : Int32)) st8)
set_option maxHeartbeats 1000000 in
set_option maxRecDepth 20000 in
theorem L8_again_49 {g : fkG} {k : fkK} (o1 : Nat) (ho1 : ∀ g : fkG, fk_isI wM g o1 67) (hk : fk_ok wM g k RX8 cX8_again 3 none 0 0) (fu : Nat) : ∀ (v2 : Int32) (st : fkS), fk_J wM g fk_eU k 49 [(0, fk_r g 0), (1, fk_r g o1), (2, .int v2)] [] st (fk_lp1 (B8_again_49 o1) fu v2 st) := by
  induction fu with
  | zero =>
    intro v2 st
    exact j_none hk
  | succ fu ih =>
    exact T8_again_49 o1 ho1 hk _ ih
def B8_again_2 (o1 : Nat) (k2 : Int32 → fkS → Option (Unit × fkS)) (v2 : Int32) (st : fkS) : Option (Unit × fkS) :=
 if (7 : Int32) ≤ v2 then
 (fk_lp1 (B8_again_49 o1) fk_fuel (0 : Int32) st)
 else
 (fk_chk (fk_in v2 67) <| fk_let (gA st o1 v2.toNatClampNeg) <| fun x1 =>
 fk_chk (fk_in v2 7) <| fk_let (sA st 1 v2.toNatClampNeg x1) <| fun st2 =>
 fk_chk (fk_in ((7 : Int32) + v2) 67) <| fk_let (gA st2 o1 ((7 : Int32) + v2).toNatClampNeg) <| fun x3 =>
 fk_chk (fk_in v2 7) <| fk_let (sA st2 2 v2.toNatClampNeg x3) <| fun st4 =>
 fk_chk (fk_in ((14 : Int32) + v2) 67) <| fk_let (gA st4 o1 ((14 : Int32) + v2).toNatClampNeg) <| fun x5 =>
 fk_chk (fk_in v2 7) <| fk_let (sA st4 3 v2.toNatClampNeg x5) <| fun st6 =>
 k2 (v2 + (1 : Int32)) st6)
set_option maxHeartbeats 1000000 in
set_option maxRecDepth 20000 in
theorem T8_again_2 {g : fkG} {k : fkK} (o1 : Nat) (ho1 : ∀ g : fkG, fk_isI wM g o1 67) (hk : fk_ok wM g k RX8 cX8_again 3 none 0 0) (k2 : Int32 → fkS → Option (Unit × fkS)) (H2 : ∀ (v2 : Int32) (st : fkS), fk_J wM g fk_eU k 2 [(0, fk_r g 0), (1, fk_r g o1), (2, .int v2)] [] st (k2 v2 st)) : ∀ (v2 : Int32) (st : fkS), fk_J wM g fk_eU k 2 [(0, fk_r g 0), (1, fk_r g o1), (2, .int v2)] [] st (B8_again_2 o1 k2 v2 st) := by
  intro v2 st
  unfold B8_again_2
  refine j_iload_n (pc := 2) hk 2 rfl dX8_again_2 ?_
  refine j_bipush (pc := 3) hk dX8_again_3 (v := 7) (by decide) ?_
  refine j_icmp_ge (tgt := 47) (pc := 5) hk (by decide) dX8_again_5 (fun _ => ?_) (fun _ => ?_)
  · refine j_iconst (pc := 47) hk dX8_again_47 (v := 0) (by decide) ?_
    refine j_istore_n (lv' := ((2, .int (0 : Int32)) :: [(0, fk_r g 0), (1, fk_r g o1)])) (pc := 48) hk rfl (by decide) rfl dX8_again_48 ?_
    refine j_sub hk (lv' := [(0, fk_r g 0), (1, fk_r g o1), (2, .int (0 : Int32))]) [1, 2, 0] rfl ?_
    exact j_sub hk [0, 1, 2] rfl (L8_again_49 o1 ho1 hk fk_fuel (0 : Int32) st)
  · refine j_aload_n (pc := 8) hk 0 rfl ⟨_, rfl⟩ dX8_again_8 ?_
    refine f_8_7 (pc := 9) hk (rfl) dX8_again_9 ?_
    refine j_iload_n (pc := 12) hk 2 rfl dX8_again_12 ?_
    refine j_aload_n (pc := 13) hk 1 rfl ⟨_, rfl⟩ dX8_again_13 ?_
    refine j_iload_n (pc := 14) hk 2 rfl dX8_again_14 ?_
    refine a_iload (pc := 15) hk (ho1 _) dX8_again_15 (fun x1 => ?_)
    refine a_istore (pc := 16) hk (isI_8_1) dX8_again_16 (fun st2 => ?_)
    refine j_aload_n (pc := 17) hk 0 rfl ⟨_, rfl⟩ dX8_again_17 ?_
    refine f_8_13 (pc := 18) hk (rfl) dX8_again_18 ?_
    refine j_iload_n (pc := 21) hk 2 rfl dX8_again_21 ?_
    refine j_aload_n (pc := 22) hk 1 rfl ⟨_, rfl⟩ dX8_again_22 ?_
    refine j_bipush (pc := 23) hk dX8_again_23 (v := 7) (by decide) ?_
    refine j_iload_n (pc := 25) hk 2 rfl dX8_again_25 ?_
    refine j_iadd (pc := 26) hk dX8_again_26 ?_
    refine a_iload (pc := 27) hk (ho1 _) dX8_again_27 (fun x3 => ?_)
    refine a_istore (pc := 28) hk (isI_8_2) dX8_again_28 (fun st4 => ?_)
    refine j_aload_n (pc := 29) hk 0 rfl ⟨_, rfl⟩ dX8_again_29 ?_
    refine f_8_16 (pc := 30) hk (rfl) dX8_again_30 ?_
    refine j_iload_n (pc := 33) hk 2 rfl dX8_again_33 ?_
    refine j_aload_n (pc := 34) hk 1 rfl ⟨_, rfl⟩ dX8_again_34 ?_
    refine j_bipush (pc := 35) hk dX8_again_35 (v := 14) (by decide) ?_
    refine j_iload_n (pc := 37) hk 2 rfl dX8_again_37 ?_
    refine j_iadd (pc := 38) hk dX8_again_38 ?_
    refine a_iload (pc := 39) hk (ho1 _) dX8_again_39 (fun x5 => ?_)
    refine a_istore (pc := 40) hk (isI_8_3) dX8_again_40 (fun st6 => ?_)
    refine j_iinc (dd := (1 : Int32)) (lv' := ((2, .int (v2 + (1 : Int32))) :: [(0, fk_r g 0), (1, fk_r g o1)])) (pc := 41) hk 2 rfl (by decide) (by decide) rfl dX8_again_41 ?_
    refine j_sub hk (lv' := [(0, fk_r g 0), (1, fk_r g o1), (2, .int (v2 + (1 : Int32)))]) [1, 2, 0] rfl ?_
    refine j_goto (tgt := 2) (pc := 44) hk (by decide) dX8_again_44 ?_
    exact j_sub hk [0, 1, 2] rfl (H2 (v2 + (1 : Int32)) st6)
set_option maxHeartbeats 1000000 in
set_option maxRecDepth 20000 in
theorem L8_again_2 {g : fkG} {k : fkK} (o1 : Nat) (ho1 : ∀ g : fkG, fk_isI wM g o1 67) (hk : fk_ok wM g k RX8 cX8_again 3 none 0 0) (fu : Nat) : ∀ (v2 : Int32) (st : fkS), fk_J wM g fk_eU k 2 [(0, fk_r g 0), (1, fk_r g o1), (2, .int v2)] [] st (fk_lp1 (B8_again_2 o1) fu v2 st) := by
  induction fu with
  | zero =>
    intro v2 st
    exact j_none hk
  | succ fu ih =>
    exact T8_again_2 o1 ho1 hk _ ih
def F8_again (o1 : Nat) (st : fkS) : Option (Unit × fkS) :=
 fk_lp1 (B8_again_2 o1) fk_fuel (0 : Int32) st
set_option maxHeartbeats 1000000 in
set_option maxRecDepth 20000 in
theorem C8_again (o1 : Nat) (ho1 : ∀ g : fkG, fk_isI wM g o1 67) (st : fkS) {g : fkG} (l : Launch) (o : Unit × fkS) (hF : F8_again o1 st = some o) : fk_C wM yX8_again cX8_again 3 none 0 0 l g [fk_r g 0, fk_r g o1] st (fk_eU o.1) o.2 := by
  refine fk_begin rfl (Nat.le_of_ble_eq_true rfl) (fun k hk => ?_) o hF
  have hk : fk_ok wM g k RX8 cX8_again 3 none 0 0 := hk
  show fk_J wM g fk_eU k 0 [(0, fk_r g 0), (1, fk_r g o1)] [] st (F8_again o1 st)
  unfold F8_again
  refine j_iconst (pc := 0) hk dX8_again_0 (v := 0) (by decide) ?_
  refine j_istore_n (lv' := ((2, .int (0 : Int32)) :: [(0, fk_r g 0), (1, fk_r g o1)])) (pc := 1) hk rfl (by decide) rfl dX8_again_1 ?_
  refine j_sub hk (lv' := [(0, fk_r g 0), (1, fk_r g o1), (2, .int (0 : Int32))]) [1, 2, 0] rfl ?_
  exact j_sub hk [0, 1, 2] rfl (L8_again_2 o1 ho1 hk fk_fuel (0 : Int32) st)
theorem dX8_bakery_0 : decode cX8_bakery 0 = .ok (.aload_n 0, 1) := by decide +kernel
theorem dX8_bakery_1 : decode cX8_bakery 1 = .ok (.iload_n 1, 1) := by decide +kernel
theorem dX8_bakery_2 : decode cX8_bakery 2 = .ok (.invokevirtual 96, 3) := by decide +kernel
theorem dX8_bakery_5 : decode cX8_bakery 5 = .ok (.istore_n 2, 1) := by decide +kernel
theorem dX8_bakery_6 : decode cX8_bakery 6 = .ok (.iload_n 2, 1) := by decide +kernel
theorem dX8_bakery_7 : decode cX8_bakery 7 = .ok (.ifCond .ge 9, 3) := by decide +kernel
theorem dX8_bakery_10 : decode cX8_bakery 10 = .ok (.aload_n 0, 1) := by decide +kernel
theorem dX8_bakery_11 : decode cX8_bakery 11 = .ok (.iload_n 2, 1) := by decide +kernel
theorem dX8_bakery_12 : decode cX8_bakery 12 = .ok (.invokevirtual 81, 3) := by decide +kernel
theorem dX8_bakery_15 : decode cX8_bakery 15 = .ok (.ireturn, 1) := by decide +kernel
theorem dX8_bakery_16 : decode cX8_bakery 16 = .ok (.aload_n 0, 1) := by decide +kernel
theorem dX8_bakery_17 : decode cX8_bakery 17 = .ok (.aload_n 0, 1) := by decide +kernel
theorem dX8_bakery_18 : decode cX8_bakery 18 = .ok (.getfield 38, 3) := by decide +kernel
theorem dX8_bakery_21 : decode cX8_bakery 21 = .ok (.invokevirtual 177, 3) := by decide +kernel
theorem dX8_bakery_24 : decode cX8_bakery 24 = .ok (.aload_n 0, 1) := by decide +kernel
theorem dX8_bakery_25 : decode cX8_bakery 25 = .ok (.iload_n 1, 1) := by decide +kernel
theorem dX8_bakery_26 : decode cX8_bakery 26 = .ok (.putfield 135, 3) := by decide +kernel
theorem dX8_bakery_29 : decode cX8_bakery 29 = .ok (.aload_n 0, 1) := by decide +kernel
theorem dX8_bakery_30 : decode cX8_bakery 30 = .ok (.iconst 0, 1) := by decide +kernel
theorem dX8_bakery_31 : decode cX8_bakery 31 = .ok (.putfield 132, 3) := by decide +kernel
theorem dX8_bakery_34 : decode cX8_bakery 34 = .ok (.iconst 0, 1) := by decide +kernel
theorem dX8_bakery_35 : decode cX8_bakery 35 = .ok (.istore_n 3, 1) := by decide +kernel
theorem dX8_bakery_36 : decode cX8_bakery 36 = .ok (.iconst 1, 1) := by decide +kernel
theorem dX8_bakery_37 : decode cX8_bakery 37 = .ok (.istore 4, 2) := by decide +kernel
theorem dX8_bakery_39 : decode cX8_bakery 39 = .ok (.iload 4, 2) := by decide +kernel
theorem dX8_bakery_41 : decode cX8_bakery 41 = .ok (.ifCond .eq 58, 3) := by decide +kernel
theorem dX8_bakery_44 : decode cX8_bakery 44 = .ok (.aload_n 0, 1) := by decide +kernel
theorem dX8_bakery_45 : decode cX8_bakery 45 = .ok (.invokevirtual 181, 3) := by decide +kernel
theorem dX8_bakery_48 : decode cX8_bakery 48 = .ok (.istore 4, 2) := by decide +kernel
theorem dX8_bakery_50 : decode cX8_bakery 50 = .ok (.iload 4, 2) := by decide +kernel
theorem dX8_bakery_52 : decode cX8_bakery 52 = .ok (.ifCond .eq 6, 3) := by decide +kernel
theorem dX8_bakery_55 : decode cX8_bakery 55 = .ok (.iinc 3 1, 3) := by decide +kernel
theorem dX8_bakery_58 : decode cX8_bakery 58 = .ok (.iload 4, 2) := by decide +kernel
theorem dX8_bakery_60 : decode cX8_bakery 60 = .ok (.ifCond .eq 23, 3) := by decide +kernel
theorem dX8_bakery_63 : decode cX8_bakery 63 = .ok (.aload_n 0, 1) := by decide +kernel
theorem dX8_bakery_64 : decode cX8_bakery 64 = .ok (.getfield 132, 3) := by decide +kernel
theorem dX8_bakery_67 : decode cX8_bakery 67 = .ok (.aload_n 0, 1) := by decide +kernel
theorem dX8_bakery_68 : decode cX8_bakery 68 = .ok (.getfield 28, 3) := by decide +kernel
theorem dX8_bakery_71 : decode cX8_bakery 71 = .ok (.iload_n 1, 1) := by decide +kernel
theorem dX8_bakery_72 : decode cX8_bakery 72 = .ok (.iaload, 1) := by decide +kernel
theorem dX8_bakery_73 : decode cX8_bakery 73 = .ok (.if_icmp .ne 10, 3) := by decide +kernel
theorem dX8_bakery_76 : decode cX8_bakery 76 = .ok (.aload_n 0, 1) := by decide +kernel
theorem dX8_bakery_77 : decode cX8_bakery 77 = .ok (.iconst (-1), 1) := by decide +kernel
theorem dX8_bakery_78 : decode cX8_bakery 78 = .ok (.putfield 78, 3) := by decide +kernel
theorem dX8_bakery_81 : decode cX8_bakery 81 = .ok (.iload_n 3, 1) := by decide +kernel
theorem dX8_bakery_82 : decode cX8_bakery 82 = .ok (.ireturn, 1) := by decide +kernel
theorem dX8_bakery_83 : decode cX8_bakery 83 = .ok (.iload 4, 2) := by decide +kernel
theorem dX8_bakery_85 : decode cX8_bakery 85 = .ok (.ifCond .eq (-46), 3) := by decide +kernel
theorem dX8_bakery_88 : decode cX8_bakery 88 = .ok (.aload_n 0, 1) := by decide +kernel
theorem dX8_bakery_89 : decode cX8_bakery 89 = .ok (.bipush 59, 2) := by decide +kernel
theorem dX8_bakery_91 : decode cX8_bakery 91 = .ok (.invokevirtual 151, 3) := by decide +kernel
theorem dX8_bakery_94 : decode cX8_bakery 94 = .ok (.istore 4, 2) := by decide +kernel
theorem dX8_bakery_96 : decode cX8_bakery 96 = .ok (.goto (-57), 3) := by decide +kernel
theorem dX8_bakery_99 : decode cX8_bakery 99 = .ok (.aload_n 0, 1) := by decide +kernel
theorem dX8_bakery_100 : decode cX8_bakery 100 = .ok (.aload_n 0, 1) := by decide +kernel
theorem dX8_bakery_101 : decode cX8_bakery 101 = .ok (.getfield 132, 3) := by decide +kernel
theorem dX8_bakery_104 : decode cX8_bakery 104 = .ok (.putfield 78, 3) := by decide +kernel
theorem dX8_bakery_107 : decode cX8_bakery 107 = .ok (.aload_n 0, 1) := by decide +kernel
theorem dX8_bakery_108 : decode cX8_bakery 108 = .ok (.aload_n 0, 1) := by decide +kernel
theorem dX8_bakery_109 : decode cX8_bakery 109 = .ok (.getfield 38, 3) := by decide +kernel
theorem dX8_bakery_112 : decode cX8_bakery 112 = .ok (.invokevirtual 185, 3) := by decide +kernel
theorem dX8_bakery_115 : decode cX8_bakery 115 = .ok (.aload_n 0, 1) := by decide +kernel
theorem dX8_bakery_116 : decode cX8_bakery 116 = .ok (.bipush (-6), 2) := by decide +kernel
theorem dX8_bakery_118 : decode cX8_bakery 118 = .ok (.invokevirtual 81, 3) := by decide +kernel
theorem dX8_bakery_121 : decode cX8_bakery 121 = .ok (.ireturn, 1) := by decide +kernel
def B8_bakery_83 (k39 : Int32 → Int32 → Int32 → fkS → Option (Int32 × fkS)) (v1 : Int32) (v3 : Int32) (v4 : Int32) (st : fkS) : Option (Int32 × fkS) :=
 if v4 = 0 then
 (k39 v1 v3 v4 st)
 else
 (fk_bind (F8_is (59 : Int32) st) <| fun x18 st19 =>
 k39 v1 v3 x18 st19)
set_option maxHeartbeats 1000000 in
set_option maxRecDepth 20000 in
theorem T8_bakery_83 {g : fkG} {k : fkK} (hk : fk_ok wM g k RX8 cX8_bakery 5 (some (.int)) 10 390) (k39 : Int32 → Int32 → Int32 → fkS → Option (Int32 × fkS)) (H39 : ∀ (v1 : Int32) (v3 : Int32) (v4 : Int32) (st : fkS), fk_J wM g fk_eI k 39 [(0, fk_r g 0), (1, .int v1), (3, .int v3), (4, .int v4)] [] st (k39 v1 v3 v4 st)) : ∀ (v1 : Int32) (v3 : Int32) (v4 : Int32) (st : fkS), fk_J wM g fk_eI k 83 [(0, fk_r g 0), (1, .int v1), (3, .int v3), (4, .int v4)] [] st (B8_bakery_83 k39 v1 v3 v4 st) := by
  intro v1 v3 v4 st
  unfold B8_bakery_83
  refine j_iload (pc := 83) hk 3 rfl dX8_bakery_83 ?_
  refine j_if_eq (tgt := 39) (pc := 85) hk (by decide) dX8_bakery_85 (fun _ => ?_) (fun _ => ?_)
  · exact j_sub hk [0, 1, 2, 3] rfl (H39 v1 v3 v4 st)
  · refine j_aload_n (pc := 88) hk 0 rfl ⟨_, rfl⟩ dX8_bakery_88 ?_
    refine j_bipush (pc := 89) hk dX8_bakery_89 (v := 59) (by decide) ?_
    refine j_callVi (pc := 91) hk [.int (59 : Int32)] [] rfl (fun l o hq9 => C8_is (59 : Int32) st l o hq9) (rcv_8 (rfl)) yv_X8_is ml_8_151 rfl (Nat.le_of_ble_eq_true rfl) (Nat.le_of_ble_eq_true rfl) (Nat.le_of_ble_eq_true rfl) dX8_bakery_91 (fun x18 st19 => ?_)
    refine j_istore (lv' := ((4, .int x18) :: [(0, fk_r g 0), (1, .int v1), (3, .int v3)])) (pc := 94) hk (by decide) rfl dX8_bakery_94 ?_
    refine j_sub hk (lv' := [(0, fk_r g 0), (1, .int v1), (3, .int v3), (4, .int x18)]) [1, 2, 3, 0] rfl ?_
    refine j_goto (tgt := 39) (pc := 96) hk (by decide) dX8_bakery_96 ?_
    exact j_sub hk [0, 1, 2, 3] rfl (H39 v1 v3 x18 st19)
def B8_bakery_58 (k39 : Int32 → Int32 → Int32 → fkS → Option (Int32 × fkS)) (v1 : Int32) (v3 : Int32) (v4 : Int32) (st : fkS) : Option (Int32 × fkS) :=
 if v4 = 0 then
 (B8_bakery_83 k39 v1 v3 v4 st)
 else
 (fk_let (gI st 13 0) <| fun x15 =>
 fk_chk (fk_in v1 8) <| fk_let (gA st 7 v1.toNatClampNeg) <| fun x16 =>
 if x15 = x16 then
 (fk_let (sI st 15 0 (-1 : Int32)) <| fun st17 =>
 some (v3, st17))
 else
 (B8_bakery_83 k39 v1 v3 v4 st))
set_option maxHeartbeats 1000000 in
set_option maxRecDepth 20000 in
theorem T8_bakery_58 {g : fkG} {k : fkK} (hk : fk_ok wM g k RX8 cX8_bakery 5 (some (.int)) 10 390) (k39 : Int32 → Int32 → Int32 → fkS → Option (Int32 × fkS)) (H39 : ∀ (v1 : Int32) (v3 : Int32) (v4 : Int32) (st : fkS), fk_J wM g fk_eI k 39 [(0, fk_r g 0), (1, .int v1), (3, .int v3), (4, .int v4)] [] st (k39 v1 v3 v4 st)) : ∀ (v1 : Int32) (v3 : Int32) (v4 : Int32) (st : fkS), fk_J wM g fk_eI k 58 [(0, fk_r g 0), (1, .int v1), (3, .int v3), (4, .int v4)] [] st (B8_bakery_58 k39 v1 v3 v4 st) := by
  intro v1 v3 v4 st
  unfold B8_bakery_58
  refine j_iload (pc := 58) hk 3 rfl dX8_bakery_58 ?_
  refine j_if_eq (tgt := 83) (pc := 60) hk (by decide) dX8_bakery_60 (fun _ => ?_) (fun _ => ?_)
  · exact j_sub hk [0, 1, 2, 3] rfl (T8_bakery_83 hk k39 H39 v1 v3 v4 st)
  · refine j_aload_n (pc := 63) hk 0 rfl ⟨_, rfl⟩ dX8_bakery_63 ?_
    refine f_8_132 (pc := 64) hk (rfl) dX8_bakery_64 (fun x15 => ?_)
    refine j_aload_n (pc := 67) hk 0 rfl ⟨_, rfl⟩ dX8_bakery_67 ?_
    refine f_8_28 (pc := 68) hk (rfl) dX8_bakery_68 ?_
    refine j_iload_n (pc := 71) hk 1 rfl dX8_bakery_71 ?_
    refine a_iload (pc := 72) hk (isI_8_10) dX8_bakery_72 (fun x16 => ?_)
    refine j_icmp_ne (tgt := 83) (pc := 73) hk (by decide) dX8_bakery_73 (fun _ => ?_) (fun _ => ?_)
    · refine j_aload_n (pc := 76) hk 0 rfl ⟨_, rfl⟩ dX8_bakery_76 ?_
      refine j_iconst (pc := 77) hk dX8_bakery_77 (v := -1) (by decide) ?_
      refine p_8_78 (pc := 78) hk (rfl) dX8_bakery_78 (fun st17 => ?_)
      refine j_iload_n (pc := 81) hk 2 rfl dX8_bakery_81 ?_
      exact j_iret (pc := 82) hk dX8_bakery_82
    · exact j_sub hk [0, 1, 2, 3] rfl (T8_bakery_83 hk k39 H39 v1 v3 v4 st)
def B8_bakery_39 (k39 : Int32 → Int32 → Int32 → fkS → Option (Int32 × fkS)) (v1 : Int32) (v3 : Int32) (v4 : Int32) (st : fkS) : Option (Int32 × fkS) :=
 if v4 = 0 then
 (fk_let (gI st 13 0) <| fun x8 =>
 fk_let (sI st 15 0 x8) <| fun st9 =>
 fk_bind (F8_again 10 st9) <| fun _ st10 =>
 fk_bind (F8_no (-6 : Int32) st10) <| fun x11 st12 =>
 some (x11, st12))
 else
 (fk_bind (F8_item st) <| fun x13 st14 =>
 if x13 = 0 then
 (B8_bakery_58 k39 v1 v3 x13 st14)
 else
 (B8_bakery_58 k39 v1 (v3 + (1 : Int32)) x13 st14))
set_option maxHeartbeats 1000000 in
set_option maxRecDepth 20000 in
theorem T8_bakery_39 {g : fkG} {k : fkK} (hk : fk_ok wM g k RX8 cX8_bakery 5 (some (.int)) 10 390) (k39 : Int32 → Int32 → Int32 → fkS → Option (Int32 × fkS)) (H39 : ∀ (v1 : Int32) (v3 : Int32) (v4 : Int32) (st : fkS), fk_J wM g fk_eI k 39 [(0, fk_r g 0), (1, .int v1), (3, .int v3), (4, .int v4)] [] st (k39 v1 v3 v4 st)) : ∀ (v1 : Int32) (v3 : Int32) (v4 : Int32) (st : fkS), fk_J wM g fk_eI k 39 [(0, fk_r g 0), (1, .int v1), (3, .int v3), (4, .int v4)] [] st (B8_bakery_39 k39 v1 v3 v4 st) := by
  intro v1 v3 v4 st
  unfold B8_bakery_39
  refine j_iload (pc := 39) hk 3 rfl dX8_bakery_39 ?_
  refine j_if_eq (tgt := 99) (pc := 41) hk (by decide) dX8_bakery_41 (fun _ => ?_) (fun _ => ?_)
  · refine j_aload_n (pc := 99) hk 0 rfl ⟨_, rfl⟩ dX8_bakery_99 ?_
    refine j_aload_n (pc := 100) hk 0 rfl ⟨_, rfl⟩ dX8_bakery_100 ?_
    refine f_8_132 (pc := 101) hk (rfl) dX8_bakery_101 (fun x8 => ?_)
    refine p_8_78 (pc := 104) hk (rfl) dX8_bakery_104 (fun st9 => ?_)
    refine j_aload_n (pc := 107) hk 0 rfl ⟨_, rfl⟩ dX8_bakery_107 ?_
    refine j_aload_n (pc := 108) hk 0 rfl ⟨_, rfl⟩ dX8_bakery_108 ?_
    refine f_8_38 (pc := 109) hk (rfl) dX8_bakery_109 ?_
    refine j_callVv (pc := 112) hk [fk_r g 10] [] rfl (fun l o hq9 => C8_again 10 (fun g => isI_8_16) st9 l o hq9) (rcv_8 (rfl)) yv_X8_again ml_8_185 rfl (Nat.le_of_ble_eq_true rfl) (Nat.le_of_ble_eq_true rfl) (Nat.le_of_ble_eq_true rfl) dX8_bakery_112 (fun _ st10 => ?_)
    refine j_aload_n (pc := 115) hk 0 rfl ⟨_, rfl⟩ dX8_bakery_115 ?_
    refine j_bipush (pc := 116) hk dX8_bakery_116 (v := -6) (by decide) ?_
    refine j_callVi (pc := 118) hk [.int (-6 : Int32)] [] rfl (fun l o hq9 => C8_no (-6 : Int32) st10 l o hq9) (rcv_8 (rfl)) yv_X8_no ml_8_81 rfl (Nat.le_of_ble_eq_true rfl) (Nat.le_of_ble_eq_true rfl) (Nat.le_of_ble_eq_true rfl) dX8_bakery_118 (fun x11 st12 => ?_)
    exact j_iret (pc := 121) hk dX8_bakery_121
  · refine j_aload_n (pc := 44) hk 0 rfl ⟨_, rfl⟩ dX8_bakery_44 ?_
    refine j_callVi (pc := 45) hk [] [] rfl (fun l o hq9 => C8_item st l o hq9) (rcv_8 (rfl)) yv_X8_item ml_8_181 rfl (Nat.le_of_ble_eq_true rfl) (Nat.le_of_ble_eq_true rfl) (Nat.le_of_ble_eq_true rfl) dX8_bakery_45 (fun x13 st14 => ?_)
    refine j_istore (lv' := ((4, .int x13) :: [(0, fk_r g 0), (1, .int v1), (3, .int v3)])) (pc := 48) hk (by decide) rfl dX8_bakery_48 ?_
    refine j_sub hk (lv' := [(0, fk_r g 0), (1, .int v1), (3, .int v3), (4, .int x13)]) [1, 2, 3, 0] rfl ?_
    refine j_iload (pc := 50) hk 3 rfl dX8_bakery_50 ?_
    refine j_if_eq (tgt := 58) (pc := 52) hk (by decide) dX8_bakery_52 (fun _ => ?_) (fun _ => ?_)
    · exact j_sub hk [0, 1, 2, 3] rfl (T8_bakery_58 hk k39 H39 v1 v3 x13 st14)
    · refine j_iinc (dd := (1 : Int32)) (lv' := ((3, .int (v3 + (1 : Int32))) :: [(0, fk_r g 0), (1, .int v1), (4, .int x13)])) (pc := 55) hk 2 rfl (by decide) (by decide) rfl dX8_bakery_55 ?_
      refine j_sub hk (lv' := [(0, fk_r g 0), (1, .int v1), (3, .int (v3 + (1 : Int32))), (4, .int x13)]) [1, 2, 0, 3] rfl ?_
      exact j_sub hk [0, 1, 2, 3] rfl (T8_bakery_58 hk k39 H39 v1 (v3 + (1 : Int32)) x13 st14)
set_option maxHeartbeats 1000000 in
set_option maxRecDepth 20000 in
theorem L8_bakery_39 {g : fkG} {k : fkK} (hk : fk_ok wM g k RX8 cX8_bakery 5 (some (.int)) 10 390) (fu : Nat) : ∀ (v1 : Int32) (v3 : Int32) (v4 : Int32) (st : fkS), fk_J wM g fk_eI k 39 [(0, fk_r g 0), (1, .int v1), (3, .int v3), (4, .int v4)] [] st (fk_lp3 (B8_bakery_39) fu v1 v3 v4 st) := by
  induction fu with
  | zero =>
    intro v1 v3 v4 st
    exact j_none hk
  | succ fu ih =>
    exact T8_bakery_39 hk _ ih
def F8_bakery (p1 : Int32) (st : fkS) : Option (Int32 × fkS) :=
 fk_bind (F8_noRow p1 st) <| fun x1 st2 =>
 if 0 ≤ x1 then
 (fk_bind (F8_keep 10 st2) <| fun _ st3 =>
 fk_let (sI st3 12 0 p1) <| fun st4 =>
 fk_let (sI st4 13 0 (0 : Int32)) <| fun st5 =>
 fk_lp3 (B8_bakery_39) fk_fuel p1 (0 : Int32) (1 : Int32) st5)
 else
 (fk_bind (F8_no x1 st2) <| fun x6 st7 =>
 some (x6, st7))
set_option maxHeartbeats 1000000 in
set_option maxRecDepth 20000 in
theorem C8_bakery (p1 : Int32) (st : fkS) {g : fkG} (l : Launch) (o : Int32 × fkS) (hF : F8_bakery p1 st = some o) : fk_C wM yX8_bakery cX8_bakery 5 (some (.int)) 10 390 l g [fk_r g 0, .int p1] st (fk_eI o.1) o.2 := by
  refine fk_begin rfl (Nat.le_of_ble_eq_true rfl) (fun k hk => ?_) o hF
  have hk : fk_ok wM g k RX8 cX8_bakery 5 (some (.int)) 10 390 := hk
  show fk_J wM g fk_eI k 0 [(0, fk_r g 0), (1, .int p1)] [] st (F8_bakery p1 st)
  unfold F8_bakery
  refine j_aload_n (pc := 0) hk 0 rfl ⟨_, rfl⟩ dX8_bakery_0 ?_
  refine j_iload_n (pc := 1) hk 1 rfl dX8_bakery_1 ?_
  refine j_callVi (pc := 2) hk [.int p1] [] rfl (fun l o hq9 => C8_noRow p1 st l o hq9) (rcv_8 (rfl)) yv_X8_noRow ml_8_96 rfl (Nat.le_of_ble_eq_true rfl) (Nat.le_of_ble_eq_true rfl) (Nat.le_of_ble_eq_true rfl) dX8_bakery_2 (fun x1 st2 => ?_)
  refine j_istore_n (lv' := ((2, .int x1) :: [(0, fk_r g 0), (1, .int p1)])) (pc := 5) hk rfl (by decide) rfl dX8_bakery_5 ?_
  refine j_sub hk (lv' := [(0, fk_r g 0), (1, .int p1), (2, .int x1)]) [1, 2, 0] rfl ?_
  refine j_iload_n (pc := 6) hk 2 rfl dX8_bakery_6 ?_
  refine j_if_ge (tgt := 16) (pc := 7) hk (by decide) dX8_bakery_7 (fun _ => ?_) (fun _ => ?_)
  · refine j_aload_n (pc := 16) hk 0 rfl ⟨_, rfl⟩ dX8_bakery_16 ?_
    refine j_aload_n (pc := 17) hk 0 rfl ⟨_, rfl⟩ dX8_bakery_17 ?_
    refine f_8_38 (pc := 18) hk (rfl) dX8_bakery_18 ?_
    refine j_callVv (pc := 21) hk [fk_r g 10] [] rfl (fun l o hq9 => C8_keep 10 (fun g => isI_8_16) st2 l o hq9) (rcv_8 (rfl)) yv_X8_keep ml_8_177 rfl (Nat.le_of_ble_eq_true rfl) (Nat.le_of_ble_eq_true rfl) (Nat.le_of_ble_eq_true rfl) dX8_bakery_21 (fun _ st3 => ?_)
    refine j_aload_n (pc := 24) hk 0 rfl ⟨_, rfl⟩ dX8_bakery_24 ?_
    refine j_iload_n (pc := 25) hk 1 rfl dX8_bakery_25 ?_
    refine p_8_135 (pc := 26) hk (rfl) dX8_bakery_26 (fun st4 => ?_)
    refine j_aload_n (pc := 29) hk 0 rfl ⟨_, rfl⟩ dX8_bakery_29 ?_
    refine j_iconst (pc := 30) hk dX8_bakery_30 (v := 0) (by decide) ?_
    refine p_8_132 (pc := 31) hk (rfl) dX8_bakery_31 (fun st5 => ?_)
    refine j_iconst (pc := 34) hk dX8_bakery_34 (v := 0) (by decide) ?_
    refine j_istore_n (lv' := ((3, .int (0 : Int32)) :: [(0, fk_r g 0), (1, .int p1), (2, .int x1)])) (pc := 35) hk rfl (by decide) rfl dX8_bakery_35 ?_
    refine j_sub hk (lv' := [(0, fk_r g 0), (1, .int p1), (2, .int x1), (3, .int (0 : Int32))]) [1, 2, 3, 0] rfl ?_
    refine j_iconst (pc := 36) hk dX8_bakery_36 (v := 1) (by decide) ?_
    refine j_istore (lv' := ((4, .int (1 : Int32)) :: [(0, fk_r g 0), (1, .int p1), (2, .int x1), (3, .int (0 : Int32))])) (pc := 37) hk (by decide) rfl dX8_bakery_37 ?_
    refine j_sub hk (lv' := [(0, fk_r g 0), (1, .int p1), (2, .int x1), (3, .int (0 : Int32)), (4, .int (1 : Int32))]) [1, 2, 3, 4, 0] rfl ?_
    exact j_sub hk [0, 1, 3, 4] rfl (L8_bakery_39 hk fk_fuel p1 (0 : Int32) (1 : Int32) st5)
  · refine j_aload_n (pc := 10) hk 0 rfl ⟨_, rfl⟩ dX8_bakery_10 ?_
    refine j_iload_n (pc := 11) hk 2 rfl dX8_bakery_11 ?_
    refine j_callVi (pc := 12) hk [.int x1] [] rfl (fun l o hq9 => C8_no x1 st2 l o hq9) (rcv_8 (rfl)) yv_X8_no ml_8_81 rfl (Nat.le_of_ble_eq_true rfl) (Nat.le_of_ble_eq_true rfl) (Nat.le_of_ble_eq_true rfl) dX8_bakery_12 (fun x6 st7 => ?_)
    exact j_iret (pc := 15) hk dX8_bakery_15
theorem dX8_fault_0 : decode cX8_fault 0 = .ok (.aload_n 0, 1) := by decide +kernel
theorem dX8_fault_1 : decode cX8_fault 1 = .ok (.getfield 78, 3) := by decide +kernel
theorem dX8_fault_4 : decode cX8_fault 4 = .ok (.ireturn, 1) := by decide +kernel
def F8_fault (st : fkS) : Option (Int32 × fkS) :=
 fk_let (gI st 15 0) <| fun x1 =>
 some (x1, st)
set_option maxHeartbeats 1000000 in
set_option maxRecDepth 20000 in
theorem C8_fault (st : fkS) {g : fkG} (l : Launch) (o : Int32 × fkS) (hF : F8_fault st = some o) : fk_C wM yX8_fault cX8_fault 1 (some (.int)) 0 0 l g [fk_r g 0] st (fk_eI o.1) o.2 := by
  refine fk_begin rfl (Nat.le_of_ble_eq_true rfl) (fun k hk => ?_) o hF
  have hk : fk_ok wM g k RX8 cX8_fault 1 (some (.int)) 0 0 := hk
  show fk_J wM g fk_eI k 0 [(0, fk_r g 0)] [] st (F8_fault st)
  unfold F8_fault
  refine j_aload_n (pc := 0) hk 0 rfl ⟨_, rfl⟩ dX8_fault_0 ?_
  refine f_8_78 (pc := 1) hk (rfl) dX8_fault_1 (fun x1 => ?_)
  exact j_iret (pc := 4) hk dX8_fault_4
theorem dX8_toldAt_0 : decode cX8_toldAt 0 = .ok (.aload_n 0, 1) := by decide +kernel
theorem dX8_toldAt_1 : decode cX8_toldAt 1 = .ok (.getfield 31, 3) := by decide +kernel
theorem dX8_toldAt_4 : decode cX8_toldAt 4 = .ok (.sipush 160, 3) := by decide +kernel
theorem dX8_toldAt_7 : decode cX8_toldAt 7 = .ok (.iload_n 1, 1) := by decide +kernel
theorem dX8_toldAt_8 : decode cX8_toldAt 8 = .ok (.imul, 1) := by decide +kernel
theorem dX8_toldAt_9 : decode cX8_toldAt 9 = .ok (.iload_n 2, 1) := by decide +kernel
theorem dX8_toldAt_10 : decode cX8_toldAt 10 = .ok (.iadd, 1) := by decide +kernel
theorem dX8_toldAt_11 : decode cX8_toldAt 11 = .ok (.laload, 1) := by decide +kernel
theorem dX8_toldAt_12 : decode cX8_toldAt 12 = .ok (.l2i, 1) := by decide +kernel
theorem dX8_toldAt_13 : decode cX8_toldAt 13 = .ok (.ireturn, 1) := by decide +kernel
def F8_toldAt (p1 : Int32) (p2 : Int32) (st : fkS) : Option (Int32 × fkS) :=
 fk_chk (fk_in (((160 : Int32) * p1) + p2) 1280) <| fk_let (gL st 8 (((160 : Int32) * p1) + p2).toNatClampNeg) <| fun x1 =>
 some (x1.toInt32, st)
set_option maxHeartbeats 1000000 in
set_option maxRecDepth 20000 in
theorem C8_toldAt (p1 : Int32) (p2 : Int32) (st : fkS) {g : fkG} (l : Launch) (o : Int32 × fkS) (hF : F8_toldAt p1 p2 st = some o) : fk_C wM yX8_toldAt cX8_toldAt 3 (some (.int)) 0 0 l g [fk_r g 0, .int p1, .int p2] st (fk_eI o.1) o.2 := by
  refine fk_begin rfl (Nat.le_of_ble_eq_true rfl) (fun k hk => ?_) o hF
  have hk : fk_ok wM g k RX8 cX8_toldAt 3 (some (.int)) 0 0 := hk
  show fk_J wM g fk_eI k 0 [(0, fk_r g 0), (1, .int p1), (2, .int p2)] [] st (F8_toldAt p1 p2 st)
  unfold F8_toldAt
  refine j_aload_n (pc := 0) hk 0 rfl ⟨_, rfl⟩ dX8_toldAt_0 ?_
  refine f_8_31 (pc := 1) hk (rfl) dX8_toldAt_1 ?_
  refine j_sipush (pc := 4) hk dX8_toldAt_4 (v := 160) (by decide) ?_
  refine j_iload_n (pc := 7) hk 1 rfl dX8_toldAt_7 ?_
  refine j_imul (pc := 8) hk dX8_toldAt_8 ?_
  refine j_iload_n (pc := 9) hk 2 rfl dX8_toldAt_9 ?_
  refine j_iadd (pc := 10) hk dX8_toldAt_10 ?_
  refine a_lload (pc := 11) hk (isL_8_11) dX8_toldAt_11 (fun x1 => ?_)
  refine j_l2i (pc := 12) hk dX8_toldAt_12 ?_
  exact j_iret (pc := 13) hk dX8_toldAt_13
theorem dX8_isPie_0 : decode cX8_isPie 0 = .ok (.aload_n 0, 1) := by decide +kernel
theorem dX8_isPie_1 : decode cX8_isPie 1 = .ok (.aload_n 0, 1) := by decide +kernel
theorem dX8_isPie_2 : decode cX8_isPie 2 = .ok (.getfield 28, 3) := by decide +kernel
theorem dX8_isPie_5 : decode cX8_isPie 5 = .ok (.iload_n 1, 1) := by decide +kernel
theorem dX8_isPie_6 : decode cX8_isPie 6 = .ok (.iaload, 1) := by decide +kernel
theorem dX8_isPie_7 : decode cX8_isPie 7 = .ok (.putfield 112, 3) := by decide +kernel
theorem dX8_isPie_10 : decode cX8_isPie 10 = .ok (.aload_n 0, 1) := by decide +kernel
theorem dX8_isPie_11 : decode cX8_isPie 11 = .ok (.getfield 112, 3) := by decide +kernel
theorem dX8_isPie_14 : decode cX8_isPie 14 = .ok (.bipush 8, 2) := by decide +kernel
theorem dX8_isPie_16 : decode cX8_isPie 16 = .ok (.if_icmp .le 5, 3) := by decide +kernel
theorem dX8_isPie_19 : decode cX8_isPie 19 = .ok (.iconst 0, 1) := by decide +kernel
theorem dX8_isPie_20 : decode cX8_isPie 20 = .ok (.ireturn, 1) := by decide +kernel
theorem dX8_isPie_21 : decode cX8_isPie 21 = .ok (.iconst 0, 1) := by decide +kernel
theorem dX8_isPie_22 : decode cX8_isPie 22 = .ok (.istore_n 3, 1) := by decide +kernel
theorem dX8_isPie_23 : decode cX8_isPie 23 = .ok (.iload_n 3, 1) := by decide +kernel
theorem dX8_isPie_24 : decode cX8_isPie 24 = .ok (.aload_n 0, 1) := by decide +kernel
theorem dX8_isPie_25 : decode cX8_isPie 25 = .ok (.getfield 112, 3) := by decide +kernel
theorem dX8_isPie_28 : decode cX8_isPie 28 = .ok (.if_icmp .ge 38, 3) := by decide +kernel
theorem dX8_isPie_31 : decode cX8_isPie 31 = .ok (.aload_n 0, 1) := by decide +kernel
theorem dX8_isPie_32 : decode cX8_isPie 32 = .ok (.getfield 50, 3) := by decide +kernel
theorem dX8_isPie_35 : decode cX8_isPie 35 = .ok (.iload_n 3, 1) := by decide +kernel
theorem dX8_isPie_36 : decode cX8_isPie 36 = .ok (.aload_n 0, 1) := by decide +kernel
theorem dX8_isPie_37 : decode cX8_isPie 37 = .ok (.iload_n 1, 1) := by decide +kernel
theorem dX8_isPie_38 : decode cX8_isPie 38 = .ok (.iload_n 3, 1) := by decide +kernel
theorem dX8_isPie_39 : decode cX8_isPie 39 = .ok (.invokevirtual 188, 3) := by decide +kernel
theorem dX8_isPie_42 : decode cX8_isPie 42 = .ok (.iastore, 1) := by decide +kernel
theorem dX8_isPie_43 : decode cX8_isPie 43 = .ok (.aload_n 0, 1) := by decide +kernel
theorem dX8_isPie_44 : decode cX8_isPie 44 = .ok (.getfield 50, 3) := by decide +kernel
theorem dX8_isPie_47 : decode cX8_isPie 47 = .ok (.iload_n 3, 1) := by decide +kernel
theorem dX8_isPie_48 : decode cX8_isPie 48 = .ok (.iaload, 1) := by decide +kernel
theorem dX8_isPie_49 : decode cX8_isPie 49 = .ok (.iload_n 2, 1) := by decide +kernel
theorem dX8_isPie_50 : decode cX8_isPie 50 = .ok (.bipush 9, 2) := by decide +kernel
theorem dX8_isPie_52 : decode cX8_isPie 52 = .ok (.invokestatic 88, 3) := by decide +kernel
theorem dX8_isPie_55 : decode cX8_isPie 55 = .ok (.ifCond .ne 5, 3) := by decide +kernel
theorem dX8_isPie_58 : decode cX8_isPie 58 = .ok (.iconst 0, 1) := by decide +kernel
theorem dX8_isPie_59 : decode cX8_isPie 59 = .ok (.ireturn, 1) := by decide +kernel
theorem dX8_isPie_60 : decode cX8_isPie 60 = .ok (.iinc 3 1, 3) := by decide +kernel
theorem dX8_isPie_63 : decode cX8_isPie 63 = .ok (.goto (-40), 3) := by decide +kernel
theorem dX8_isPie_66 : decode cX8_isPie 66 = .ok (.iconst 1, 1) := by decide +kernel
theorem dX8_isPie_67 : decode cX8_isPie 67 = .ok (.ireturn, 1) := by decide +kernel
def B8_isPie_23 (k23 : Int32 → Int32 → Int32 → fkS → Option (Int32 × fkS)) (v1 : Int32) (v2 : Int32) (v3 : Int32) (st : fkS) : Option (Int32 × fkS) :=
 fk_let (gI st 22 0) <| fun x4 =>
 if x4 ≤ v3 then
 (some ((1 : Int32), st))
 else
 (fk_bind (F8_toldAt v1 v3 st) <| fun x5 st6 =>
 fk_chk (fk_in v3 8) <| fk_let (sA st6 14 v3.toNatClampNeg x5) <| fun st7 =>
 fk_chk (fk_in v3 8) <| fk_let (gA st7 14 v3.toNatClampNeg) <| fun x8 =>
 fk_bind (F8_within x8 v2 (9 : Int32) st7) <| fun x9 st10 =>
 if x9 = 0 then
 (some ((0 : Int32), st10))
 else
 (k23 v1 v2 (v3 + (1 : Int32)) st10))
set_option maxHeartbeats 1000000 in
set_option maxRecDepth 20000 in
theorem T8_isPie_23 {g : fkG} {k : fkK} (hk : fk_ok wM g k RX8 cX8_isPie 4 (some (.boolean)) 1 22) (k23 : Int32 → Int32 → Int32 → fkS → Option (Int32 × fkS)) (H23 : ∀ (v1 : Int32) (v2 : Int32) (v3 : Int32) (st : fkS), fk_J wM g fk_eI k 23 [(0, fk_r g 0), (1, .int v1), (2, .int v2), (3, .int v3)] [] st (k23 v1 v2 v3 st)) : ∀ (v1 : Int32) (v2 : Int32) (v3 : Int32) (st : fkS), fk_J wM g fk_eI k 23 [(0, fk_r g 0), (1, .int v1), (2, .int v2), (3, .int v3)] [] st (B8_isPie_23 k23 v1 v2 v3 st) := by
  intro v1 v2 v3 st
  unfold B8_isPie_23
  refine j_iload_n (pc := 23) hk 3 rfl dX8_isPie_23 ?_
  refine j_aload_n (pc := 24) hk 0 rfl ⟨_, rfl⟩ dX8_isPie_24 ?_
  refine f_8_112 (pc := 25) hk (rfl) dX8_isPie_25 (fun x4 => ?_)
  refine j_icmp_ge (tgt := 66) (pc := 28) hk (by decide) dX8_isPie_28 (fun _ => ?_) (fun _ => ?_)
  · refine j_iconst (pc := 66) hk dX8_isPie_66 (v := 1) (by decide) ?_
    exact j_zret (pc := 67) hk rfl dX8_isPie_67
  · refine j_aload_n (pc := 31) hk 0 rfl ⟨_, rfl⟩ dX8_isPie_31 ?_
    refine f_8_50 (pc := 32) hk (rfl) dX8_isPie_32 ?_
    refine j_iload_n (pc := 35) hk 3 rfl dX8_isPie_35 ?_
    refine j_aload_n (pc := 36) hk 0 rfl ⟨_, rfl⟩ dX8_isPie_36 ?_
    refine j_iload_n (pc := 37) hk 1 rfl dX8_isPie_37 ?_
    refine j_iload_n (pc := 38) hk 3 rfl dX8_isPie_38 ?_
    refine j_callVi (pc := 39) hk [.int v1, .int v3] [.int v3, fk_r g 14] rfl (fun l o hq9 => C8_toldAt v1 v3 st l o hq9) (rcv_8 (rfl)) yv_X8_toldAt ml_8_188 rfl (Nat.le_of_ble_eq_true rfl) (Nat.le_of_ble_eq_true rfl) (Nat.le_of_ble_eq_true rfl) dX8_isPie_39 (fun x5 st6 => ?_)
    refine a_istore (pc := 42) hk (isI_8_23) dX8_isPie_42 (fun st7 => ?_)
    refine j_aload_n (pc := 43) hk 0 rfl ⟨_, rfl⟩ dX8_isPie_43 ?_
    refine f_8_50 (pc := 44) hk (rfl) dX8_isPie_44 ?_
    refine j_iload_n (pc := 47) hk 3 rfl dX8_isPie_47 ?_
    refine a_iload (pc := 48) hk (isI_8_23) dX8_isPie_48 (fun x8 => ?_)
    refine j_iload_n (pc := 49) hk 2 rfl dX8_isPie_49 ?_
    refine j_bipush (pc := 50) hk dX8_isPie_50 (v := 9) (by decide) ?_
    refine j_callSi (pc := 52) hk [.int x8, .int v2, .int (9 : Int32)] [] rfl (fun l o hq9 => C8_within x8 v2 (9 : Int32) st7 l o hq9) yv_X8_within ml_8_88 rfl (Nat.le_of_ble_eq_true rfl) (Nat.le_of_ble_eq_true rfl) (Nat.le_of_ble_eq_true rfl) dX8_isPie_52 (fun x9 st10 => ?_)
    refine j_if_ne (tgt := 60) (pc := 55) hk (by decide) dX8_isPie_55 (fun _ => ?_) (fun _ => ?_)
    · refine j_iconst (pc := 58) hk dX8_isPie_58 (v := 0) (by decide) ?_
      exact j_zret (pc := 59) hk rfl dX8_isPie_59
    · refine j_iinc (dd := (1 : Int32)) (lv' := ((3, .int (v3 + (1 : Int32))) :: [(0, fk_r g 0), (1, .int v1), (2, .int v2)])) (pc := 60) hk 3 rfl (by decide) (by decide) rfl dX8_isPie_60 ?_
      refine j_sub hk (lv' := [(0, fk_r g 0), (1, .int v1), (2, .int v2), (3, .int (v3 + (1 : Int32)))]) [1, 2, 3, 0] rfl ?_
      refine j_goto (tgt := 23) (pc := 63) hk (by decide) dX8_isPie_63 ?_
      exact j_sub hk [0, 1, 2, 3] rfl (H23 v1 v2 (v3 + (1 : Int32)) st10)
set_option maxHeartbeats 1000000 in
set_option maxRecDepth 20000 in
theorem L8_isPie_23 {g : fkG} {k : fkK} (hk : fk_ok wM g k RX8 cX8_isPie 4 (some (.boolean)) 1 22) (fu : Nat) : ∀ (v1 : Int32) (v2 : Int32) (v3 : Int32) (st : fkS), fk_J wM g fk_eI k 23 [(0, fk_r g 0), (1, .int v1), (2, .int v2), (3, .int v3)] [] st (fk_lp3 (B8_isPie_23) fu v1 v2 v3 st) := by
  induction fu with
  | zero =>
    intro v1 v2 v3 st
    exact j_none hk
  | succ fu ih =>
    exact T8_isPie_23 hk _ ih
def F8_isPie (p1 : Int32) (p2 : Int32) (st : fkS) : Option (Int32 × fkS) :=
 fk_chk (fk_in p1 8) <| fk_let (gA st 7 p1.toNatClampNeg) <| fun x1 =>
 fk_let (sI st 22 0 x1) <| fun st2 =>
 fk_let (gI st2 22 0) <| fun x3 =>
 if x3 ≤ (8 : Int32) then
 (fk_lp3 (B8_isPie_23) fk_fuel p1 p2 (0 : Int32) st2)
 else
 (some ((0 : Int32), st2))
set_option maxHeartbeats 1000000 in
set_option maxRecDepth 20000 in
theorem C8_isPie (p1 : Int32) (p2 : Int32) (st : fkS) {g : fkG} (l : Launch) (o : Int32 × fkS) (hF : F8_isPie p1 p2 st = some o) : fk_C wM yX8_isPie cX8_isPie 4 (some (.boolean)) 1 22 l g [fk_r g 0, .int p1, .int p2] st (fk_eI o.1) o.2 := by
  refine fk_begin rfl (Nat.le_of_ble_eq_true rfl) (fun k hk => ?_) o hF
  have hk : fk_ok wM g k RX8 cX8_isPie 4 (some (.boolean)) 1 22 := hk
  show fk_J wM g fk_eI k 0 [(0, fk_r g 0), (1, .int p1), (2, .int p2)] [] st (F8_isPie p1 p2 st)
  unfold F8_isPie
  refine j_aload_n (pc := 0) hk 0 rfl ⟨_, rfl⟩ dX8_isPie_0 ?_
  refine j_aload_n (pc := 1) hk 0 rfl ⟨_, rfl⟩ dX8_isPie_1 ?_
  refine f_8_28 (pc := 2) hk (rfl) dX8_isPie_2 ?_
  refine j_iload_n (pc := 5) hk 1 rfl dX8_isPie_5 ?_
  refine a_iload (pc := 6) hk (isI_8_10) dX8_isPie_6 (fun x1 => ?_)
  refine p_8_112 (pc := 7) hk (rfl) dX8_isPie_7 (fun st2 => ?_)
  refine j_aload_n (pc := 10) hk 0 rfl ⟨_, rfl⟩ dX8_isPie_10 ?_
  refine f_8_112 (pc := 11) hk (rfl) dX8_isPie_11 (fun x3 => ?_)
  refine j_bipush (pc := 14) hk dX8_isPie_14 (v := 8) (by decide) ?_
  refine j_icmp_le (tgt := 21) (pc := 16) hk (by decide) dX8_isPie_16 (fun _ => ?_) (fun _ => ?_)
  · refine j_iconst (pc := 21) hk dX8_isPie_21 (v := 0) (by decide) ?_
    refine j_istore_n (lv' := ((3, .int (0 : Int32)) :: [(0, fk_r g 0), (1, .int p1), (2, .int p2)])) (pc := 22) hk rfl (by decide) rfl dX8_isPie_22 ?_
    refine j_sub hk (lv' := [(0, fk_r g 0), (1, .int p1), (2, .int p2), (3, .int (0 : Int32))]) [1, 2, 3, 0] rfl ?_
    exact j_sub hk [0, 1, 2, 3] rfl (L8_isPie_23 hk fk_fuel p1 p2 (0 : Int32) st2)
  · refine j_iconst (pc := 19) hk dX8_isPie_19 (v := 0) (by decide) ?_
    exact j_zret (pc := 20) hk rfl dX8_isPie_20
theorem dX8_has_0 : decode cX8_has 0 = .ok (.iload_n 0, 1) := by decide +kernel
theorem dX8_has_1 : decode cX8_has 1 = .ok (.iload_n 1, 1) := by decide +kernel
theorem dX8_has_2 : decode cX8_has 2 = .ok (.ishr, 1) := by decide +kernel
theorem dX8_has_3 : decode cX8_has 3 = .ok (.iconst 1, 1) := by decide +kernel
theorem dX8_has_4 : decode cX8_has 4 = .ok (.iand, 1) := by decide +kernel
theorem dX8_has_5 : decode cX8_has 5 = .ok (.iconst 1, 1) := by decide +kernel
theorem dX8_has_6 : decode cX8_has 6 = .ok (.if_icmp .ne 7, 3) := by decide +kernel
theorem dX8_has_9 : decode cX8_has 9 = .ok (.iconst 1, 1) := by decide +kernel
theorem dX8_has_10 : decode cX8_has 10 = .ok (.goto 4, 3) := by decide +kernel
theorem dX8_has_13 : decode cX8_has 13 = .ok (.iconst 0, 1) := by decide +kernel
theorem dX8_has_14 : decode cX8_has 14 = .ok (.ireturn, 1) := by decide +kernel
def F8_has (p0 : Int32) (p1 : Int32) (st : fkS) : Option (Int32 × fkS) :=
 if ((p0 >>> (p1 &&& 31)) &&& (1 : Int32)) = (1 : Int32) then
 (some ((1 : Int32), st))
 else
 (some ((0 : Int32), st))
set_option maxHeartbeats 1000000 in
set_option maxRecDepth 20000 in
theorem C8_has (p0 : Int32) (p1 : Int32) (st : fkS) {g : fkG} (l : Launch) (o : Int32 × fkS) (hF : F8_has p0 p1 st = some o) : fk_C wM yX8_has cX8_has 2 (some (.boolean)) 0 0 l g [.int p0, .int p1] st (fk_eI o.1) o.2 := by
  refine fk_begin rfl (Nat.le_of_ble_eq_true rfl) (fun k hk => ?_) o hF
  have hk : fk_ok wM g k RX8 cX8_has 2 (some (.boolean)) 0 0 := hk
  show fk_J wM g fk_eI k 0 [(0, .int p0), (1, .int p1)] [] st (F8_has p0 p1 st)
  unfold F8_has
  refine j_iload_n (pc := 0) hk 0 rfl dX8_has_0 ?_
  refine j_iload_n (pc := 1) hk 1 rfl dX8_has_1 ?_
  refine j_ishr (pc := 2) hk dX8_has_2 ?_
  refine j_iconst (pc := 3) hk dX8_has_3 (v := 1) (by decide) ?_
  refine j_iand (pc := 4) hk dX8_has_4 ?_
  refine j_iconst (pc := 5) hk dX8_has_5 (v := 1) (by decide) ?_
  refine j_icmp_ne (tgt := 13) (pc := 6) hk (by decide) dX8_has_6 (fun _ => ?_) (fun _ => ?_)
  · refine j_iconst (pc := 9) hk dX8_has_9 (v := 1) (by decide) ?_
    refine j_goto (tgt := 14) (pc := 10) hk (by decide) dX8_has_10 ?_
    exact j_zret (pc := 14) hk rfl dX8_has_14
  · refine j_iconst (pc := 13) hk dX8_has_13 (v := 0) (by decide) ?_
    exact j_zret (pc := 14) hk rfl dX8_has_14
theorem dX8_goes_0 : decode cX8_goes 0 = .ok (.aload_n 0, 1) := by decide +kernel
theorem dX8_goes_1 : decode cX8_goes 1 = .ok (.iload_n 1, 1) := by decide +kernel
theorem dX8_goes_2 : decode cX8_goes 2 = .ok (.invokevirtual 115, 3) := by decide +kernel
theorem dX8_goes_5 : decode cX8_goes 5 = .ok (.aload_n 0, 1) := by decide +kernel
theorem dX8_goes_6 : decode cX8_goes 6 = .ok (.iload_n 2, 1) := by decide +kernel
theorem dX8_goes_7 : decode cX8_goes 7 = .ok (.putfield 209, 3) := by decide +kernel
theorem dX8_goes_10 : decode cX8_goes 10 = .ok (.aload_n 0, 1) := by decide +kernel
theorem dX8_goes_11 : decode cX8_goes 11 = .ok (.iconst 0, 1) := by decide +kernel
theorem dX8_goes_12 : decode cX8_goes 12 = .ok (.putfield 212, 3) := by decide +kernel
theorem dX8_goes_15 : decode cX8_goes 15 = .ok (.iconst 0, 1) := by decide +kernel
theorem dX8_goes_16 : decode cX8_goes 16 = .ok (.istore_n 3, 1) := by decide +kernel
theorem dX8_goes_17 : decode cX8_goes 17 = .ok (.iload_n 3, 1) := by decide +kernel
theorem dX8_goes_18 : decode cX8_goes 18 = .ok (.aload_n 0, 1) := by decide +kernel
theorem dX8_goes_19 : decode cX8_goes 19 = .ok (.getfield 119, 3) := by decide +kernel
theorem dX8_goes_22 : decode cX8_goes 22 = .ok (.if_icmp .ge 59, 3) := by decide +kernel
theorem dX8_goes_25 : decode cX8_goes 25 = .ok (.aload_n 0, 1) := by decide +kernel
theorem dX8_goes_26 : decode cX8_goes 26 = .ok (.aload_n 0, 1) := by decide +kernel
theorem dX8_goes_27 : decode cX8_goes 27 = .ok (.getfield 22, 3) := by decide +kernel
theorem dX8_goes_30 : decode cX8_goes 30 = .ok (.iconst 5, 1) := by decide +kernel
theorem dX8_goes_31 : decode cX8_goes 31 = .ok (.aload_n 0, 1) := by decide +kernel
theorem dX8_goes_32 : decode cX8_goes 32 = .ok (.getfield 209, 3) := by decide +kernel
theorem dX8_goes_35 : decode cX8_goes 35 = .ok (.imul, 1) := by decide +kernel
theorem dX8_goes_36 : decode cX8_goes 36 = .ok (.aload_n 0, 1) := by decide +kernel
theorem dX8_goes_37 : decode cX8_goes 37 = .ok (.getfield 53, 3) := by decide +kernel
theorem dX8_goes_40 : decode cX8_goes 40 = .ok (.iload_n 3, 1) := by decide +kernel
theorem dX8_goes_41 : decode cX8_goes 41 = .ok (.iaload, 1) := by decide +kernel
theorem dX8_goes_42 : decode cX8_goes 42 = .ok (.iconst 5, 1) := by decide +kernel
theorem dX8_goes_43 : decode cX8_goes 43 = .ok (.irem, 1) := by decide +kernel
theorem dX8_goes_44 : decode cX8_goes 44 = .ok (.iadd, 1) := by decide +kernel
theorem dX8_goes_45 : decode cX8_goes 45 = .ok (.iaload, 1) := by decide +kernel
theorem dX8_goes_46 : decode cX8_goes 46 = .ok (.putfield 209, 3) := by decide +kernel
theorem dX8_goes_49 : decode cX8_goes 49 = .ok (.aload_n 0, 1) := by decide +kernel
theorem dX8_goes_50 : decode cX8_goes 50 = .ok (.getfield 19, 3) := by decide +kernel
theorem dX8_goes_53 : decode cX8_goes 53 = .ok (.iconst 2, 1) := by decide +kernel
theorem dX8_goes_54 : decode cX8_goes 54 = .ok (.iaload, 1) := by decide +kernel
theorem dX8_goes_55 : decode cX8_goes 55 = .ok (.aload_n 0, 1) := by decide +kernel
theorem dX8_goes_56 : decode cX8_goes 56 = .ok (.getfield 209, 3) := by decide +kernel
theorem dX8_goes_59 : decode cX8_goes 59 = .ok (.invokestatic 215, 3) := by decide +kernel
theorem dX8_goes_62 : decode cX8_goes 62 = .ok (.ifCond .eq 13, 3) := by decide +kernel
theorem dX8_goes_65 : decode cX8_goes 65 = .ok (.aload_n 0, 1) := by decide +kernel
theorem dX8_goes_66 : decode cX8_goes 66 = .ok (.dup, 1) := by decide +kernel
theorem dX8_goes_67 : decode cX8_goes 67 = .ok (.getfield 212, 3) := by decide +kernel
theorem dX8_goes_70 : decode cX8_goes 70 = .ok (.iconst 1, 1) := by decide +kernel
theorem dX8_goes_71 : decode cX8_goes 71 = .ok (.iadd, 1) := by decide +kernel
theorem dX8_goes_72 : decode cX8_goes 72 = .ok (.putfield 212, 3) := by decide +kernel
theorem dX8_goes_75 : decode cX8_goes 75 = .ok (.iinc 3 1, 3) := by decide +kernel
theorem dX8_goes_78 : decode cX8_goes 78 = .ok (.goto (-61), 3) := by decide +kernel
theorem dX8_goes_81 : decode cX8_goes 81 = .ok (.return_, 1) := by decide +kernel
def B8_goes_75 (k17 : Int32 → fkS → Option (Unit × fkS)) (v3 : Int32) (st : fkS) : Option (Unit × fkS) :=
 k17 (v3 + (1 : Int32)) st
set_option maxHeartbeats 1000000 in
set_option maxRecDepth 20000 in
theorem T8_goes_75 {g : fkG} {k : fkK} (hk : fk_ok wM g k RX8 cX8_goes 4 none 4 123) (k17 : Int32 → fkS → Option (Unit × fkS)) (H17 : ∀ (v3 : Int32) (st : fkS), fk_J wM g fk_eU k 17 [(0, fk_r g 0), (3, .int v3)] [] st (k17 v3 st)) : ∀ (v3 : Int32) (st : fkS), fk_J wM g fk_eU k 75 [(0, fk_r g 0), (3, .int v3)] [] st (B8_goes_75 k17 v3 st) := by
  intro v3 st
  unfold B8_goes_75
  refine j_iinc (dd := (1 : Int32)) (lv' := ((3, .int (v3 + (1 : Int32))) :: [(0, fk_r g 0)])) (pc := 75) hk 1 rfl (by decide) (by decide) rfl dX8_goes_75 ?_
  refine j_sub hk (lv' := [(0, fk_r g 0), (3, .int (v3 + (1 : Int32)))]) [1, 0] rfl ?_
  refine j_goto (tgt := 17) (pc := 78) hk (by decide) dX8_goes_78 ?_
  exact j_sub hk [0, 1] rfl (H17 (v3 + (1 : Int32)) st)
def B8_goes_17 (k17 : Int32 → fkS → Option (Unit × fkS)) (v3 : Int32) (st : fkS) : Option (Unit × fkS) :=
 fk_let (gI st 24 0) <| fun x4 =>
 if x4 ≤ v3 then
 (some ((), st))
 else
 (fk_let (gI st 26 0) <| fun x5 =>
 fk_chk (fk_in v3 16) <| fk_let (gA st 15 v3.toNatClampNeg) <| fun x6 =>
 fk_chk (fk_in (((5 : Int32) * x5) + (fk_rem x6 (5 : Int32))) 40) <| fk_let (gA st 5 (((5 : Int32) * x5) + (fk_rem x6 (5 : Int32))).toNatClampNeg) <| fun x7 =>
 fk_let (sI st 26 0 x7) <| fun st8 =>
 fk_chk (fk_in (2 : Int32) 3) <| fk_let (gA st8 4 (2 : Int32).toNatClampNeg) <| fun x9 =>
 fk_let (gI st8 26 0) <| fun x10 =>
 fk_bind (F8_has x9 x10 st8) <| fun x11 st12 =>
 if x11 = 0 then
 (B8_goes_75 k17 v3 st12)
 else
 (fk_let (gI st12 27 0) <| fun x13 =>
 fk_let (sI st12 27 0 (x13 + (1 : Int32))) <| fun st14 =>
 B8_goes_75 k17 v3 st14))
set_option maxHeartbeats 1000000 in
set_option maxRecDepth 20000 in
theorem T8_goes_17 {g : fkG} {k : fkK} (hk : fk_ok wM g k RX8 cX8_goes 4 none 4 123) (k17 : Int32 → fkS → Option (Unit × fkS)) (H17 : ∀ (v3 : Int32) (st : fkS), fk_J wM g fk_eU k 17 [(0, fk_r g 0), (3, .int v3)] [] st (k17 v3 st)) : ∀ (v3 : Int32) (st : fkS), fk_J wM g fk_eU k 17 [(0, fk_r g 0), (3, .int v3)] [] st (B8_goes_17 k17 v3 st) := by
  intro v3 st
  unfold B8_goes_17
  refine j_iload_n (pc := 17) hk 1 rfl dX8_goes_17 ?_
  refine j_aload_n (pc := 18) hk 0 rfl ⟨_, rfl⟩ dX8_goes_18 ?_
  refine f_8_119 (pc := 19) hk (rfl) dX8_goes_19 (fun x4 => ?_)
  refine j_icmp_ge (tgt := 81) (pc := 22) hk (by decide) dX8_goes_22 (fun _ => ?_) (fun _ => ?_)
  · exact j_vret (pc := 81) hk dX8_goes_81
  · refine j_aload_n (pc := 25) hk 0 rfl ⟨_, rfl⟩ dX8_goes_25 ?_
    refine j_aload_n (pc := 26) hk 0 rfl ⟨_, rfl⟩ dX8_goes_26 ?_
    refine f_8_22 (pc := 27) hk (rfl) dX8_goes_27 ?_
    refine j_iconst (pc := 30) hk dX8_goes_30 (v := 5) (by decide) ?_
    refine j_aload_n (pc := 31) hk 0 rfl ⟨_, rfl⟩ dX8_goes_31 ?_
    refine f_8_209 (pc := 32) hk (rfl) dX8_goes_32 (fun x5 => ?_)
    refine j_imul (pc := 35) hk dX8_goes_35 ?_
    refine j_aload_n (pc := 36) hk 0 rfl ⟨_, rfl⟩ dX8_goes_36 ?_
    refine f_8_53 (pc := 37) hk (rfl) dX8_goes_37 ?_
    refine j_iload_n (pc := 40) hk 1 rfl dX8_goes_40 ?_
    refine a_iload (pc := 41) hk (isI_8_25) dX8_goes_41 (fun x6 => ?_)
    refine j_iconst (pc := 42) hk dX8_goes_42 (v := 5) (by decide) ?_
    refine j_irem (pc := 43) hk (show fk_nz (5 : Int32) = true from by decide) dX8_goes_43 ?_
    refine j_iadd (pc := 44) hk dX8_goes_44 ?_
    refine a_iload (pc := 45) hk (isI_8_5) dX8_goes_45 (fun x7 => ?_)
    refine p_8_209 (pc := 46) hk (rfl) dX8_goes_46 (fun st8 => ?_)
    refine j_aload_n (pc := 49) hk 0 rfl ⟨_, rfl⟩ dX8_goes_49 ?_
    refine f_8_19 (pc := 50) hk (rfl) dX8_goes_50 ?_
    refine j_iconst (pc := 53) hk dX8_goes_53 (v := 2) (by decide) ?_
    refine a_iload (pc := 54) hk (isI_8_4) dX8_goes_54 (fun x9 => ?_)
    refine j_aload_n (pc := 55) hk 0 rfl ⟨_, rfl⟩ dX8_goes_55 ?_
    refine f_8_209 (pc := 56) hk (rfl) dX8_goes_56 (fun x10 => ?_)
    refine j_callSi (pc := 59) hk [.int x9, .int x10] [] rfl (fun l o hq9 => C8_has x9 x10 st8 l o hq9) yv_X8_has ml_8_215 rfl (Nat.le_of_ble_eq_true rfl) (Nat.le_of_ble_eq_true rfl) (Nat.le_of_ble_eq_true rfl) dX8_goes_59 (fun x11 st12 => ?_)
    refine j_if_eq (tgt := 75) (pc := 62) hk (by decide) dX8_goes_62 (fun _ => ?_) (fun _ => ?_)
    · exact j_sub hk [0, 1] rfl (T8_goes_75 hk k17 H17 v3 st12)
    · refine j_aload_n (pc := 65) hk 0 rfl ⟨_, rfl⟩ dX8_goes_65 ?_
      refine j_dup (pc := 66) hk rfl dX8_goes_66 ?_
      refine f_8_212 (pc := 67) hk (rfl) dX8_goes_67 (fun x13 => ?_)
      refine j_iconst (pc := 70) hk dX8_goes_70 (v := 1) (by decide) ?_
      refine j_iadd (pc := 71) hk dX8_goes_71 ?_
      refine p_8_212 (pc := 72) hk (rfl) dX8_goes_72 (fun st14 => ?_)
      exact j_sub hk [0, 1] rfl (T8_goes_75 hk k17 H17 v3 st14)
set_option maxHeartbeats 1000000 in
set_option maxRecDepth 20000 in
theorem L8_goes_17 {g : fkG} {k : fkK} (hk : fk_ok wM g k RX8 cX8_goes 4 none 4 123) (fu : Nat) : ∀ (v3 : Int32) (st : fkS), fk_J wM g fk_eU k 17 [(0, fk_r g 0), (3, .int v3)] [] st (fk_lp1 (B8_goes_17) fu v3 st) := by
  induction fu with
  | zero =>
    intro v3 st
    exact j_none hk
  | succ fu ih =>
    exact T8_goes_17 hk _ ih
def F8_goes (p1 : Int32) (p2 : Int32) (st : fkS) : Option (Unit × fkS) :=
 fk_bind (F8_tells p1 st) <| fun _ st1 =>
 fk_let (sI st1 26 0 p2) <| fun st2 =>
 fk_let (sI st2 27 0 (0 : Int32)) <| fun st3 =>
 fk_lp1 (B8_goes_17) fk_fuel (0 : Int32) st3
set_option maxHeartbeats 1000000 in
set_option maxRecDepth 20000 in
theorem C8_goes (p1 : Int32) (p2 : Int32) (st : fkS) {g : fkG} (l : Launch) (o : Unit × fkS) (hF : F8_goes p1 p2 st = some o) : fk_C wM yX8_goes cX8_goes 4 none 4 123 l g [fk_r g 0, .int p1, .int p2] st (fk_eU o.1) o.2 := by
  refine fk_begin rfl (Nat.le_of_ble_eq_true rfl) (fun k hk => ?_) o hF
  have hk : fk_ok wM g k RX8 cX8_goes 4 none 4 123 := hk
  show fk_J wM g fk_eU k 0 [(0, fk_r g 0), (1, .int p1), (2, .int p2)] [] st (F8_goes p1 p2 st)
  unfold F8_goes
  refine j_aload_n (pc := 0) hk 0 rfl ⟨_, rfl⟩ dX8_goes_0 ?_
  refine j_iload_n (pc := 1) hk 1 rfl dX8_goes_1 ?_
  refine j_callVv (pc := 2) hk [.int p1] [] rfl (fun l o hq9 => C8_tells p1 st l o hq9) (rcv_8 (rfl)) yv_X8_tells ml_8_115 rfl (Nat.le_of_ble_eq_true rfl) (Nat.le_of_ble_eq_true rfl) (Nat.le_of_ble_eq_true rfl) dX8_goes_2 (fun _ st1 => ?_)
  refine j_aload_n (pc := 5) hk 0 rfl ⟨_, rfl⟩ dX8_goes_5 ?_
  refine j_iload_n (pc := 6) hk 2 rfl dX8_goes_6 ?_
  refine p_8_209 (pc := 7) hk (rfl) dX8_goes_7 (fun st2 => ?_)
  refine j_aload_n (pc := 10) hk 0 rfl ⟨_, rfl⟩ dX8_goes_10 ?_
  refine j_iconst (pc := 11) hk dX8_goes_11 (v := 0) (by decide) ?_
  refine p_8_212 (pc := 12) hk (rfl) dX8_goes_12 (fun st3 => ?_)
  refine j_iconst (pc := 15) hk dX8_goes_15 (v := 0) (by decide) ?_
  refine j_istore_n (lv' := ((3, .int (0 : Int32)) :: [(0, fk_r g 0), (1, .int p1), (2, .int p2)])) (pc := 16) hk rfl (by decide) rfl dX8_goes_16 ?_
  refine j_sub hk (lv' := [(0, fk_r g 0), (1, .int p1), (2, .int p2), (3, .int (0 : Int32))]) [1, 2, 3, 0] rfl ?_
  exact j_sub hk [0, 3] rfl (L8_goes_17 hk fk_fuel (0 : Int32) st3)
theorem dX8_noPie_0 : decode cX8_noPie 0 = .ok (.iload_n 1, 1) := by decide +kernel
theorem dX8_noPie_1 : decode cX8_noPie 1 = .ok (.iconst 0, 1) := by decide +kernel
theorem dX8_noPie_2 : decode cX8_noPie 2 = .ok (.bipush 7, 2) := by decide +kernel
theorem dX8_noPie_4 : decode cX8_noPie 4 = .ok (.invokestatic 88, 3) := by decide +kernel
theorem dX8_noPie_7 : decode cX8_noPie 7 = .ok (.ifCond .eq 11, 3) := by decide +kernel
theorem dX8_noPie_10 : decode cX8_noPie 10 = .ok (.aload_n 0, 1) := by decide +kernel
theorem dX8_noPie_11 : decode cX8_noPie 11 = .ok (.iload_n 2, 1) := by decide +kernel
theorem dX8_noPie_12 : decode cX8_noPie 12 = .ok (.invokevirtual 99, 3) := by decide +kernel
theorem dX8_noPie_15 : decode cX8_noPie 15 = .ok (.ifCond .ne 7, 3) := by decide +kernel
theorem dX8_noPie_18 : decode cX8_noPie 18 = .ok (.iconst (-1), 1) := by decide +kernel
theorem dX8_noPie_19 : decode cX8_noPie 19 = .ok (.goto 8, 3) := by decide +kernel
theorem dX8_noPie_22 : decode cX8_noPie 22 = .ok (.aload_n 0, 1) := by decide +kernel
theorem dX8_noPie_23 : decode cX8_noPie 23 = .ok (.iload_n 1, 1) := by decide +kernel
theorem dX8_noPie_24 : decode cX8_noPie 24 = .ok (.invokevirtual 96, 3) := by decide +kernel
theorem dX8_noPie_27 : decode cX8_noPie 27 = .ok (.ireturn, 1) := by decide +kernel
def F8_noPie (p1 : Int32) (p2 : Int32) (st : fkS) : Option (Int32 × fkS) :=
 fk_bind (F8_within p1 (0 : Int32) (7 : Int32) st) <| fun x1 st2 =>
 if x1 = 0 then
 (some ((-1 : Int32), st2))
 else
 (fk_bind (F8_isBird p2 st2) <| fun x3 st4 =>
 if x3 = 0 then
 (some ((-1 : Int32), st4))
 else
 (fk_bind (F8_noRow p1 st4) <| fun x5 st6 =>
 some (x5, st6)))
set_option maxHeartbeats 1000000 in
set_option maxRecDepth 20000 in
theorem C8_noPie (p1 : Int32) (p2 : Int32) (st : fkS) {g : fkG} (l : Launch) (o : Int32 × fkS) (hF : F8_noPie p1 p2 st = some o) : fk_C wM yX8_noPie cX8_noPie 3 (some (.int)) 2 43 l g [fk_r g 0, .int p1, .int p2] st (fk_eI o.1) o.2 := by
  refine fk_begin rfl (Nat.le_of_ble_eq_true rfl) (fun k hk => ?_) o hF
  have hk : fk_ok wM g k RX8 cX8_noPie 3 (some (.int)) 2 43 := hk
  show fk_J wM g fk_eI k 0 [(0, fk_r g 0), (1, .int p1), (2, .int p2)] [] st (F8_noPie p1 p2 st)
  unfold F8_noPie
  refine j_iload_n (pc := 0) hk 1 rfl dX8_noPie_0 ?_
  refine j_iconst (pc := 1) hk dX8_noPie_1 (v := 0) (by decide) ?_
  refine j_bipush (pc := 2) hk dX8_noPie_2 (v := 7) (by decide) ?_
  refine j_callSi (pc := 4) hk [.int p1, .int (0 : Int32), .int (7 : Int32)] [] rfl (fun l o hq9 => C8_within p1 (0 : Int32) (7 : Int32) st l o hq9) yv_X8_within ml_8_88 rfl (Nat.le_of_ble_eq_true rfl) (Nat.le_of_ble_eq_true rfl) (Nat.le_of_ble_eq_true rfl) dX8_noPie_4 (fun x1 st2 => ?_)
  refine j_if_eq (tgt := 18) (pc := 7) hk (by decide) dX8_noPie_7 (fun _ => ?_) (fun _ => ?_)
  · refine j_iconst (pc := 18) hk dX8_noPie_18 (v := -1) (by decide) ?_
    refine j_goto (tgt := 27) (pc := 19) hk (by decide) dX8_noPie_19 ?_
    exact j_iret (pc := 27) hk dX8_noPie_27
  · refine j_aload_n (pc := 10) hk 0 rfl ⟨_, rfl⟩ dX8_noPie_10 ?_
    refine j_iload_n (pc := 11) hk 2 rfl dX8_noPie_11 ?_
    refine j_callVi (pc := 12) hk [.int p2] [] rfl (fun l o hq9 => C8_isBird p2 st2 l o hq9) (rcv_8 (rfl)) yv_X8_isBird ml_8_99 rfl (Nat.le_of_ble_eq_true rfl) (Nat.le_of_ble_eq_true rfl) (Nat.le_of_ble_eq_true rfl) dX8_noPie_12 (fun x3 st4 => ?_)
    refine j_if_ne (tgt := 22) (pc := 15) hk (by decide) dX8_noPie_15 (fun _ => ?_) (fun _ => ?_)
    · refine j_iconst (pc := 18) hk dX8_noPie_18 (v := -1) (by decide) ?_
      refine j_goto (tgt := 27) (pc := 19) hk (by decide) dX8_noPie_19 ?_
      exact j_iret (pc := 27) hk dX8_noPie_27
    · refine j_aload_n (pc := 22) hk 0 rfl ⟨_, rfl⟩ dX8_noPie_22 ?_
      refine j_iload_n (pc := 23) hk 1 rfl dX8_noPie_23 ?_
      refine j_callVi (pc := 24) hk [.int p1] [] rfl (fun l o hq9 => C8_noRow p1 st4 l o hq9) (rcv_8 (rfl)) yv_X8_noRow ml_8_96 rfl (Nat.le_of_ble_eq_true rfl) (Nat.le_of_ble_eq_true rfl) (Nat.le_of_ble_eq_true rfl) dX8_noPie_24 (fun x5 st6 => ?_)
      exact j_iret (pc := 27) hk dX8_noPie_27
theorem dX8_noRows_0 : decode cX8_noRows 0 = .ok (.iload_n 1, 1) := by decide +kernel
theorem dX8_noRows_1 : decode cX8_noRows 1 = .ok (.iconst 0, 1) := by decide +kernel
theorem dX8_noRows_2 : decode cX8_noRows 2 = .ok (.bipush 7, 2) := by decide +kernel
theorem dX8_noRows_4 : decode cX8_noRows 4 = .ok (.invokestatic 88, 3) := by decide +kernel
theorem dX8_noRows_7 : decode cX8_noRows 7 = .ok (.ifCond .eq 13, 3) := by decide +kernel
theorem dX8_noRows_10 : decode cX8_noRows 10 = .ok (.iload_n 2, 1) := by decide +kernel
theorem dX8_noRows_11 : decode cX8_noRows 11 = .ok (.iconst 0, 1) := by decide +kernel
theorem dX8_noRows_12 : decode cX8_noRows 12 = .ok (.bipush 7, 2) := by decide +kernel
theorem dX8_noRows_14 : decode cX8_noRows 14 = .ok (.invokestatic 88, 3) := by decide +kernel
theorem dX8_noRows_17 : decode cX8_noRows 17 = .ok (.ifCond .ne 5, 3) := by decide +kernel
theorem dX8_noRows_20 : decode cX8_noRows 20 = .ok (.iconst (-1), 1) := by decide +kernel
theorem dX8_noRows_21 : decode cX8_noRows 21 = .ok (.ireturn, 1) := by decide +kernel
theorem dX8_noRows_22 : decode cX8_noRows 22 = .ok (.aload_n 0, 1) := by decide +kernel
theorem dX8_noRows_23 : decode cX8_noRows 23 = .ok (.iload_n 1, 1) := by decide +kernel
theorem dX8_noRows_24 : decode cX8_noRows 24 = .ok (.invokevirtual 96, 3) := by decide +kernel
theorem dX8_noRows_27 : decode cX8_noRows 27 = .ok (.istore_n 3, 1) := by decide +kernel
theorem dX8_noRows_28 : decode cX8_noRows 28 = .ok (.aload_n 0, 1) := by decide +kernel
theorem dX8_noRows_29 : decode cX8_noRows 29 = .ok (.iload_n 2, 1) := by decide +kernel
theorem dX8_noRows_30 : decode cX8_noRows 30 = .ok (.invokevirtual 96, 3) := by decide +kernel
theorem dX8_noRows_33 : decode cX8_noRows 33 = .ok (.istore 4, 2) := by decide +kernel
theorem dX8_noRows_35 : decode cX8_noRows 35 = .ok (.iload_n 3, 1) := by decide +kernel
theorem dX8_noRows_36 : decode cX8_noRows 36 = .ok (.bipush (-2), 2) := by decide +kernel
theorem dX8_noRows_38 : decode cX8_noRows 38 = .ok (.if_icmp .eq 10, 3) := by decide +kernel
theorem dX8_noRows_41 : decode cX8_noRows 41 = .ok (.iload 4, 2) := by decide +kernel
theorem dX8_noRows_43 : decode cX8_noRows 43 = .ok (.bipush (-2), 2) := by decide +kernel
theorem dX8_noRows_45 : decode cX8_noRows 45 = .ok (.if_icmp .ne 8, 3) := by decide +kernel
theorem dX8_noRows_48 : decode cX8_noRows 48 = .ok (.bipush (-2), 2) := by decide +kernel
theorem dX8_noRows_50 : decode cX8_noRows 50 = .ok (.goto 13, 3) := by decide +kernel
theorem dX8_noRows_53 : decode cX8_noRows 53 = .ok (.iload_n 3, 1) := by decide +kernel
theorem dX8_noRows_54 : decode cX8_noRows 54 = .ok (.ifCond .ge 7, 3) := by decide +kernel
theorem dX8_noRows_57 : decode cX8_noRows 57 = .ok (.iload_n 3, 1) := by decide +kernel
theorem dX8_noRows_58 : decode cX8_noRows 58 = .ok (.goto 5, 3) := by decide +kernel
theorem dX8_noRows_61 : decode cX8_noRows 61 = .ok (.iload 4, 2) := by decide +kernel
theorem dX8_noRows_63 : decode cX8_noRows 63 = .ok (.ireturn, 1) := by decide +kernel
def F8_noRows (p1 : Int32) (p2 : Int32) (st : fkS) : Option (Int32 × fkS) :=
 fk_bind (F8_within p1 (0 : Int32) (7 : Int32) st) <| fun x1 st2 =>
 if x1 = 0 then
 (some ((-1 : Int32), st2))
 else
 (fk_bind (F8_within p2 (0 : Int32) (7 : Int32) st2) <| fun x3 st4 =>
 if x3 = 0 then
 (some ((-1 : Int32), st4))
 else
 (fk_bind (F8_noRow p1 st4) <| fun x5 st6 =>
 fk_bind (F8_noRow p2 st6) <| fun x7 st8 =>
 if x5 = (-2 : Int32) then
 (some ((-2 : Int32), st8))
 else
 (if x7 = (-2 : Int32) then
 (some ((-2 : Int32), st8))
 else
 (if 0 ≤ x5 then
 (some (x7, st8))
 else
 (some (x5, st8))))))
set_option maxHeartbeats 1000000 in
set_option maxRecDepth 20000 in
theorem C8_noRows (p1 : Int32) (p2 : Int32) (st : fkS) {g : fkG} (l : Launch) (o : Int32 × fkS) (hF : F8_noRows p1 p2 st = some o) : fk_C wM yX8_noRows cX8_noRows 5 (some (.int)) 2 43 l g [fk_r g 0, .int p1, .int p2] st (fk_eI o.1) o.2 := by
  refine fk_begin rfl (Nat.le_of_ble_eq_true rfl) (fun k hk => ?_) o hF
  have hk : fk_ok wM g k RX8 cX8_noRows 5 (some (.int)) 2 43 := hk
  show fk_J wM g fk_eI k 0 [(0, fk_r g 0), (1, .int p1), (2, .int p2)] [] st (F8_noRows p1 p2 st)
  unfold F8_noRows
  refine j_iload_n (pc := 0) hk 1 rfl dX8_noRows_0 ?_
  refine j_iconst (pc := 1) hk dX8_noRows_1 (v := 0) (by decide) ?_
  refine j_bipush (pc := 2) hk dX8_noRows_2 (v := 7) (by decide) ?_
  refine j_callSi (pc := 4) hk [.int p1, .int (0 : Int32), .int (7 : Int32)] [] rfl (fun l o hq9 => C8_within p1 (0 : Int32) (7 : Int32) st l o hq9) yv_X8_within ml_8_88 rfl (Nat.le_of_ble_eq_true rfl) (Nat.le_of_ble_eq_true rfl) (Nat.le_of_ble_eq_true rfl) dX8_noRows_4 (fun x1 st2 => ?_)
  refine j_if_eq (tgt := 20) (pc := 7) hk (by decide) dX8_noRows_7 (fun _ => ?_) (fun _ => ?_)
  · refine j_iconst (pc := 20) hk dX8_noRows_20 (v := -1) (by decide) ?_
    exact j_iret (pc := 21) hk dX8_noRows_21
  · refine j_iload_n (pc := 10) hk 2 rfl dX8_noRows_10 ?_
    refine j_iconst (pc := 11) hk dX8_noRows_11 (v := 0) (by decide) ?_
    refine j_bipush (pc := 12) hk dX8_noRows_12 (v := 7) (by decide) ?_
    refine j_callSi (pc := 14) hk [.int p2, .int (0 : Int32), .int (7 : Int32)] [] rfl (fun l o hq9 => C8_within p2 (0 : Int32) (7 : Int32) st2 l o hq9) yv_X8_within ml_8_88 rfl (Nat.le_of_ble_eq_true rfl) (Nat.le_of_ble_eq_true rfl) (Nat.le_of_ble_eq_true rfl) dX8_noRows_14 (fun x3 st4 => ?_)
    refine j_if_ne (tgt := 22) (pc := 17) hk (by decide) dX8_noRows_17 (fun _ => ?_) (fun _ => ?_)
    · refine j_iconst (pc := 20) hk dX8_noRows_20 (v := -1) (by decide) ?_
      exact j_iret (pc := 21) hk dX8_noRows_21
    · refine j_aload_n (pc := 22) hk 0 rfl ⟨_, rfl⟩ dX8_noRows_22 ?_
      refine j_iload_n (pc := 23) hk 1 rfl dX8_noRows_23 ?_
      refine j_callVi (pc := 24) hk [.int p1] [] rfl (fun l o hq9 => C8_noRow p1 st4 l o hq9) (rcv_8 (rfl)) yv_X8_noRow ml_8_96 rfl (Nat.le_of_ble_eq_true rfl) (Nat.le_of_ble_eq_true rfl) (Nat.le_of_ble_eq_true rfl) dX8_noRows_24 (fun x5 st6 => ?_)
      refine j_istore_n (lv' := ((3, .int x5) :: [(0, fk_r g 0), (1, .int p1), (2, .int p2)])) (pc := 27) hk rfl (by decide) rfl dX8_noRows_27 ?_
      refine j_sub hk (lv' := [(0, fk_r g 0), (1, .int p1), (2, .int p2), (3, .int x5)]) [1, 2, 3, 0] rfl ?_
      refine j_aload_n (pc := 28) hk 0 rfl ⟨_, rfl⟩ dX8_noRows_28 ?_
      refine j_iload_n (pc := 29) hk 2 rfl dX8_noRows_29 ?_
      refine j_callVi (pc := 30) hk [.int p2] [] rfl (fun l o hq9 => C8_noRow p2 st6 l o hq9) (rcv_8 (rfl)) yv_X8_noRow ml_8_96 rfl (Nat.le_of_ble_eq_true rfl) (Nat.le_of_ble_eq_true rfl) (Nat.le_of_ble_eq_true rfl) dX8_noRows_30 (fun x7 st8 => ?_)
      refine j_istore (lv' := ((4, .int x7) :: [(0, fk_r g 0), (1, .int p1), (2, .int p2), (3, .int x5)])) (pc := 33) hk (by decide) rfl dX8_noRows_33 ?_
      refine j_sub hk (lv' := [(0, fk_r g 0), (1, .int p1), (2, .int p2), (3, .int x5), (4, .int x7)]) [1, 2, 3, 4, 0] rfl ?_
      refine j_iload_n (pc := 35) hk 3 rfl dX8_noRows_35 ?_
      refine j_bipush (pc := 36) hk dX8_noRows_36 (v := -2) (by decide) ?_
      refine j_icmp_eq (tgt := 48) (pc := 38) hk (by decide) dX8_noRows_38 (fun _ => ?_) (fun _ => ?_)
      · refine j_bipush (pc := 48) hk dX8_noRows_48 (v := -2) (by decide) ?_
        refine j_goto (tgt := 63) (pc := 50) hk (by decide) dX8_noRows_50 ?_
        exact j_iret (pc := 63) hk dX8_noRows_63
      · refine j_iload (pc := 41) hk 4 rfl dX8_noRows_41 ?_
        refine j_bipush (pc := 43) hk dX8_noRows_43 (v := -2) (by decide) ?_
        refine j_icmp_ne (tgt := 53) (pc := 45) hk (by decide) dX8_noRows_45 (fun _ => ?_) (fun _ => ?_)
        · refine j_bipush (pc := 48) hk dX8_noRows_48 (v := -2) (by decide) ?_
          refine j_goto (tgt := 63) (pc := 50) hk (by decide) dX8_noRows_50 ?_
          exact j_iret (pc := 63) hk dX8_noRows_63
        · refine j_iload_n (pc := 53) hk 3 rfl dX8_noRows_53 ?_
          refine j_if_ge (tgt := 61) (pc := 54) hk (by decide) dX8_noRows_54 (fun _ => ?_) (fun _ => ?_)
          · refine j_iload (pc := 61) hk 4 rfl dX8_noRows_61 ?_
            exact j_iret (pc := 63) hk dX8_noRows_63
          · refine j_iload_n (pc := 57) hk 3 rfl dX8_noRows_57 ?_
            refine j_goto (tgt := 63) (pc := 58) hk (by decide) dX8_noRows_58 ?_
            exact j_iret (pc := 63) hk dX8_noRows_63
theorem dX8_said_0 : decode cX8_said 0 = .ok (.aload_n 0, 1) := by decide +kernel
theorem dX8_said_1 : decode cX8_said 1 = .ok (.iload_n 1, 1) := by decide +kernel
theorem dX8_said_2 : decode cX8_said 2 = .ok (.iload_n 2, 1) := by decide +kernel
theorem dX8_said_3 : decode cX8_said 3 = .ok (.invokevirtual 218, 3) := by decide +kernel
theorem dX8_said_6 : decode cX8_said 6 = .ok (.istore 4, 2) := by decide +kernel
theorem dX8_said_8 : decode cX8_said 8 = .ok (.iload 4, 2) := by decide +kernel
theorem dX8_said_10 : decode cX8_said 10 = .ok (.ifCond .ge 10, 3) := by decide +kernel
theorem dX8_said_13 : decode cX8_said 13 = .ok (.aload_n 0, 1) := by decide +kernel
theorem dX8_said_14 : decode cX8_said 14 = .ok (.iload 4, 2) := by decide +kernel
theorem dX8_said_16 : decode cX8_said 16 = .ok (.invokevirtual 81, 3) := by decide +kernel
theorem dX8_said_19 : decode cX8_said 19 = .ok (.ireturn, 1) := by decide +kernel
theorem dX8_said_20 : decode cX8_said 20 = .ok (.aload_n 0, 1) := by decide +kernel
theorem dX8_said_21 : decode cX8_said 21 = .ok (.iload_n 1, 1) := by decide +kernel
theorem dX8_said_22 : decode cX8_said 22 = .ok (.iconst 0, 1) := by decide +kernel
theorem dX8_said_23 : decode cX8_said 23 = .ok (.invokevirtual 221, 3) := by decide +kernel
theorem dX8_said_26 : decode cX8_said 26 = .ok (.ifCond .ne 10, 3) := by decide +kernel
theorem dX8_said_29 : decode cX8_said 29 = .ok (.aload_n 0, 1) := by decide +kernel
theorem dX8_said_30 : decode cX8_said 30 = .ok (.bipush (-6), 2) := by decide +kernel
theorem dX8_said_32 : decode cX8_said 32 = .ok (.invokevirtual 81, 3) := by decide +kernel
theorem dX8_said_35 : decode cX8_said 35 = .ok (.ireturn, 1) := by decide +kernel
theorem dX8_said_36 : decode cX8_said 36 = .ok (.aload_n 0, 1) := by decide +kernel
theorem dX8_said_37 : decode cX8_said 37 = .ok (.iload_n 2, 1) := by decide +kernel
theorem dX8_said_38 : decode cX8_said 38 = .ok (.invokevirtual 115, 3) := by decide +kernel
theorem dX8_said_41 : decode cX8_said 41 = .ok (.iload_n 3, 1) := by decide +kernel
theorem dX8_said_42 : decode cX8_said 42 = .ok (.iconst (-1), 1) := by decide +kernel
theorem dX8_said_43 : decode cX8_said 43 = .ok (.if_icmp .ne 8, 3) := by decide +kernel
theorem dX8_said_46 : decode cX8_said 46 = .ok (.aload_n 0, 1) := by decide +kernel
theorem dX8_said_47 : decode cX8_said 47 = .ok (.getfield 119, 3) := by decide +kernel
theorem dX8_said_50 : decode cX8_said 50 = .ok (.ireturn, 1) := by decide +kernel
theorem dX8_said_51 : decode cX8_said 51 = .ok (.iload_n 3, 1) := by decide +kernel
theorem dX8_said_52 : decode cX8_said 52 = .ok (.iconst 0, 1) := by decide +kernel
theorem dX8_said_53 : decode cX8_said 53 = .ok (.aload_n 0, 1) := by decide +kernel
theorem dX8_said_54 : decode cX8_said 54 = .ok (.getfield 119, 3) := by decide +kernel
theorem dX8_said_57 : decode cX8_said 57 = .ok (.iconst 1, 1) := by decide +kernel
theorem dX8_said_58 : decode cX8_said 58 = .ok (.isub, 1) := by decide +kernel
theorem dX8_said_59 : decode cX8_said 59 = .ok (.invokestatic 88, 3) := by decide +kernel
theorem dX8_said_62 : decode cX8_said 62 = .ok (.ifCond .eq 12, 3) := by decide +kernel
theorem dX8_said_65 : decode cX8_said 65 = .ok (.aload_n 0, 1) := by decide +kernel
theorem dX8_said_66 : decode cX8_said 66 = .ok (.getfield 53, 3) := by decide +kernel
theorem dX8_said_69 : decode cX8_said 69 = .ok (.iload_n 3, 1) := by decide +kernel
theorem dX8_said_70 : decode cX8_said 70 = .ok (.iaload, 1) := by decide +kernel
theorem dX8_said_71 : decode cX8_said 71 = .ok (.goto 9, 3) := by decide +kernel
theorem dX8_said_74 : decode cX8_said 74 = .ok (.aload_n 0, 1) := by decide +kernel
theorem dX8_said_75 : decode cX8_said 75 = .ok (.bipush (-5), 2) := by decide +kernel
theorem dX8_said_77 : decode cX8_said 77 = .ok (.invokevirtual 81, 3) := by decide +kernel
theorem dX8_said_80 : decode cX8_said 80 = .ok (.ireturn, 1) := by decide +kernel
def F8_said (p1 : Int32) (p2 : Int32) (p3 : Int32) (st : fkS) : Option (Int32 × fkS) :=
 fk_bind (F8_noPie p1 p2 st) <| fun x1 st2 =>
 if 0 ≤ x1 then
 (fk_bind (F8_isPie p1 (0 : Int32) st2) <| fun x3 st4 =>
 if x3 = 0 then
 (fk_bind (F8_no (-6 : Int32) st4) <| fun x5 st6 =>
 some (x5, st6))
 else
 (fk_bind (F8_tells p2 st4) <| fun _ st7 =>
 if p3 = (-1 : Int32) then
 (fk_let (gI st7 24 0) <| fun x8 =>
 some (x8, st7))
 else
 (fk_let (gI st7 24 0) <| fun x9 =>
 fk_bind (F8_within p3 (0 : Int32) (x9 - (1 : Int32)) st7) <| fun x10 st11 =>
 if x10 = 0 then
 (fk_bind (F8_no (-5 : Int32) st11) <| fun x12 st13 =>
 some (x12, st13))
 else
 (fk_chk (fk_in p3 16) <| fk_let (gA st11 15 p3.toNatClampNeg) <| fun x14 =>
 some (x14, st11)))))
 else
 (fk_bind (F8_no x1 st2) <| fun x15 st16 =>
 some (x15, st16))
set_option maxHeartbeats 1000000 in
set_option maxRecDepth 20000 in
theorem C8_said (p1 : Int32) (p2 : Int32) (p3 : Int32) (st : fkS) {g : fkG} (l : Launch) (o : Int32 × fkS) (hF : F8_said p1 p2 p3 st = some o) : fk_C wM yX8_said cX8_said 5 (some (.int)) 4 123 l g [fk_r g 0, .int p1, .int p2, .int p3] st (fk_eI o.1) o.2 := by
  refine fk_begin rfl (Nat.le_of_ble_eq_true rfl) (fun k hk => ?_) o hF
  have hk : fk_ok wM g k RX8 cX8_said 5 (some (.int)) 4 123 := hk
  show fk_J wM g fk_eI k 0 [(0, fk_r g 0), (1, .int p1), (2, .int p2), (3, .int p3)] [] st (F8_said p1 p2 p3 st)
  unfold F8_said
  refine j_aload_n (pc := 0) hk 0 rfl ⟨_, rfl⟩ dX8_said_0 ?_
  refine j_iload_n (pc := 1) hk 1 rfl dX8_said_1 ?_
  refine j_iload_n (pc := 2) hk 2 rfl dX8_said_2 ?_
  refine j_callVi (pc := 3) hk [.int p1, .int p2] [] rfl (fun l o hq9 => C8_noPie p1 p2 st l o hq9) (rcv_8 (rfl)) yv_X8_noPie ml_8_218 rfl (Nat.le_of_ble_eq_true rfl) (Nat.le_of_ble_eq_true rfl) (Nat.le_of_ble_eq_true rfl) dX8_said_3 (fun x1 st2 => ?_)
  refine j_istore (lv' := ((4, .int x1) :: [(0, fk_r g 0), (1, .int p1), (2, .int p2), (3, .int p3)])) (pc := 6) hk (by decide) rfl dX8_said_6 ?_
  refine j_sub hk (lv' := [(0, fk_r g 0), (1, .int p1), (2, .int p2), (3, .int p3), (4, .int x1)]) [1, 2, 3, 4, 0] rfl ?_
  refine j_iload (pc := 8) hk 4 rfl dX8_said_8 ?_
  refine j_if_ge (tgt := 20) (pc := 10) hk (by decide) dX8_said_10 (fun _ => ?_) (fun _ => ?_)
  · refine j_aload_n (pc := 20) hk 0 rfl ⟨_, rfl⟩ dX8_said_20 ?_
    refine j_iload_n (pc := 21) hk 1 rfl dX8_said_21 ?_
    refine j_iconst (pc := 22) hk dX8_said_22 (v := 0) (by decide) ?_
    refine j_callVi (pc := 23) hk [.int p1, .int (0 : Int32)] [] rfl (fun l o hq9 => C8_isPie p1 (0 : Int32) st2 l o hq9) (rcv_8 (rfl)) yv_X8_isPie ml_8_221 rfl (Nat.le_of_ble_eq_true rfl) (Nat.le_of_ble_eq_true rfl) (Nat.le_of_ble_eq_true rfl) dX8_said_23 (fun x3 st4 => ?_)
    refine j_if_ne (tgt := 36) (pc := 26) hk (by decide) dX8_said_26 (fun _ => ?_) (fun _ => ?_)
    · refine j_aload_n (pc := 29) hk 0 rfl ⟨_, rfl⟩ dX8_said_29 ?_
      refine j_bipush (pc := 30) hk dX8_said_30 (v := -6) (by decide) ?_
      refine j_callVi (pc := 32) hk [.int (-6 : Int32)] [] rfl (fun l o hq9 => C8_no (-6 : Int32) st4 l o hq9) (rcv_8 (rfl)) yv_X8_no ml_8_81 rfl (Nat.le_of_ble_eq_true rfl) (Nat.le_of_ble_eq_true rfl) (Nat.le_of_ble_eq_true rfl) dX8_said_32 (fun x5 st6 => ?_)
      exact j_iret (pc := 35) hk dX8_said_35
    · refine j_aload_n (pc := 36) hk 0 rfl ⟨_, rfl⟩ dX8_said_36 ?_
      refine j_iload_n (pc := 37) hk 2 rfl dX8_said_37 ?_
      refine j_callVv (pc := 38) hk [.int p2] [] rfl (fun l o hq9 => C8_tells p2 st4 l o hq9) (rcv_8 (rfl)) yv_X8_tells ml_8_115 rfl (Nat.le_of_ble_eq_true rfl) (Nat.le_of_ble_eq_true rfl) (Nat.le_of_ble_eq_true rfl) dX8_said_38 (fun _ st7 => ?_)
      refine j_iload_n (pc := 41) hk 3 rfl dX8_said_41 ?_
      refine j_iconst (pc := 42) hk dX8_said_42 (v := -1) (by decide) ?_
      refine j_icmp_ne (tgt := 51) (pc := 43) hk (by decide) dX8_said_43 (fun _ => ?_) (fun _ => ?_)
      · refine j_aload_n (pc := 46) hk 0 rfl ⟨_, rfl⟩ dX8_said_46 ?_
        refine f_8_119 (pc := 47) hk (rfl) dX8_said_47 (fun x8 => ?_)
        exact j_iret (pc := 50) hk dX8_said_50
      · refine j_iload_n (pc := 51) hk 3 rfl dX8_said_51 ?_
        refine j_iconst (pc := 52) hk dX8_said_52 (v := 0) (by decide) ?_
        refine j_aload_n (pc := 53) hk 0 rfl ⟨_, rfl⟩ dX8_said_53 ?_
        refine f_8_119 (pc := 54) hk (rfl) dX8_said_54 (fun x9 => ?_)
        refine j_iconst (pc := 57) hk dX8_said_57 (v := 1) (by decide) ?_
        refine j_isub (pc := 58) hk dX8_said_58 ?_
        refine j_callSi (pc := 59) hk [.int p3, .int (0 : Int32), .int (x9 - (1 : Int32))] [] rfl (fun l o hq9 => C8_within p3 (0 : Int32) (x9 - (1 : Int32)) st7 l o hq9) yv_X8_within ml_8_88 rfl (Nat.le_of_ble_eq_true rfl) (Nat.le_of_ble_eq_true rfl) (Nat.le_of_ble_eq_true rfl) dX8_said_59 (fun x10 st11 => ?_)
        refine j_if_eq (tgt := 74) (pc := 62) hk (by decide) dX8_said_62 (fun _ => ?_) (fun _ => ?_)
        · refine j_aload_n (pc := 74) hk 0 rfl ⟨_, rfl⟩ dX8_said_74 ?_
          refine j_bipush (pc := 75) hk dX8_said_75 (v := -5) (by decide) ?_
          refine j_callVi (pc := 77) hk [.int (-5 : Int32)] [] rfl (fun l o hq9 => C8_no (-5 : Int32) st11 l o hq9) (rcv_8 (rfl)) yv_X8_no ml_8_81 rfl (Nat.le_of_ble_eq_true rfl) (Nat.le_of_ble_eq_true rfl) (Nat.le_of_ble_eq_true rfl) dX8_said_77 (fun x12 st13 => ?_)
          exact j_iret (pc := 80) hk dX8_said_80
        · refine j_aload_n (pc := 65) hk 0 rfl ⟨_, rfl⟩ dX8_said_65 ?_
          refine f_8_53 (pc := 66) hk (rfl) dX8_said_66 ?_
          refine j_iload_n (pc := 69) hk 3 rfl dX8_said_69 ?_
          refine a_iload (pc := 70) hk (isI_8_25) dX8_said_70 (fun x14 => ?_)
          refine j_goto (tgt := 80) (pc := 71) hk (by decide) dX8_said_71 ?_
          exact j_iret (pc := 80) hk dX8_said_80
  · refine j_aload_n (pc := 13) hk 0 rfl ⟨_, rfl⟩ dX8_said_13 ?_
    refine j_iload (pc := 14) hk 4 rfl dX8_said_14 ?_
    refine j_callVi (pc := 16) hk [.int x1] [] rfl (fun l o hq9 => C8_no x1 st2 l o hq9) (rcv_8 (rfl)) yv_X8_no ml_8_81 rfl (Nat.le_of_ble_eq_true rfl) (Nat.le_of_ble_eq_true rfl) (Nat.le_of_ble_eq_true rfl) dX8_said_16 (fun x15 st16 => ?_)
    exact j_iret (pc := 19) hk dX8_said_19
theorem dX8_brings_0 : decode cX8_brings 0 = .ok (.aload_n 0, 1) := by decide +kernel
theorem dX8_brings_1 : decode cX8_brings 1 = .ok (.iload_n 1, 1) := by decide +kernel
theorem dX8_brings_2 : decode cX8_brings 2 = .ok (.iload_n 2, 1) := by decide +kernel
theorem dX8_brings_3 : decode cX8_brings 3 = .ok (.invokevirtual 218, 3) := by decide +kernel
theorem dX8_brings_6 : decode cX8_brings 6 = .ok (.istore 4, 2) := by decide +kernel
theorem dX8_brings_8 : decode cX8_brings 8 = .ok (.iload 4, 2) := by decide +kernel
theorem dX8_brings_10 : decode cX8_brings 10 = .ok (.ifCond .ge 10, 3) := by decide +kernel
theorem dX8_brings_13 : decode cX8_brings 13 = .ok (.aload_n 0, 1) := by decide +kernel
theorem dX8_brings_14 : decode cX8_brings 14 = .ok (.iload 4, 2) := by decide +kernel
theorem dX8_brings_16 : decode cX8_brings 16 = .ok (.invokevirtual 81, 3) := by decide +kernel
theorem dX8_brings_19 : decode cX8_brings 19 = .ok (.ireturn, 1) := by decide +kernel
theorem dX8_brings_20 : decode cX8_brings 20 = .ok (.iload_n 3, 1) := by decide +kernel
theorem dX8_brings_21 : decode cX8_brings 21 = .ok (.iconst 0, 1) := by decide +kernel
theorem dX8_brings_22 : decode cX8_brings 22 = .ok (.iconst 1, 1) := by decide +kernel
theorem dX8_brings_23 : decode cX8_brings 23 = .ok (.invokestatic 88, 3) := by decide +kernel
theorem dX8_brings_26 : decode cX8_brings 26 = .ok (.ifCond .ne 10, 3) := by decide +kernel
theorem dX8_brings_29 : decode cX8_brings 29 = .ok (.aload_n 0, 1) := by decide +kernel
theorem dX8_brings_30 : decode cX8_brings 30 = .ok (.bipush (-5), 2) := by decide +kernel
theorem dX8_brings_32 : decode cX8_brings 32 = .ok (.invokevirtual 81, 3) := by decide +kernel
theorem dX8_brings_35 : decode cX8_brings 35 = .ok (.ireturn, 1) := by decide +kernel
theorem dX8_brings_36 : decode cX8_brings 36 = .ok (.aload_n 0, 1) := by decide +kernel
theorem dX8_brings_37 : decode cX8_brings 37 = .ok (.iload_n 1, 1) := by decide +kernel
theorem dX8_brings_38 : decode cX8_brings 38 = .ok (.iconst 0, 1) := by decide +kernel
theorem dX8_brings_39 : decode cX8_brings 39 = .ok (.invokevirtual 221, 3) := by decide +kernel
theorem dX8_brings_42 : decode cX8_brings 42 = .ok (.ifCond .ne 10, 3) := by decide +kernel
theorem dX8_brings_45 : decode cX8_brings 45 = .ok (.aload_n 0, 1) := by decide +kernel
theorem dX8_brings_46 : decode cX8_brings 46 = .ok (.bipush (-6), 2) := by decide +kernel
theorem dX8_brings_48 : decode cX8_brings 48 = .ok (.invokevirtual 81, 3) := by decide +kernel
theorem dX8_brings_51 : decode cX8_brings 51 = .ok (.ireturn, 1) := by decide +kernel
theorem dX8_brings_52 : decode cX8_brings 52 = .ok (.aload_n 0, 1) := by decide +kernel
theorem dX8_brings_53 : decode cX8_brings 53 = .ok (.iload_n 2, 1) := by decide +kernel
theorem dX8_brings_54 : decode cX8_brings 54 = .ok (.aload_n 0, 1) := by decide +kernel
theorem dX8_brings_55 : decode cX8_brings 55 = .ok (.getfield 19, 3) := by decide +kernel
theorem dX8_brings_58 : decode cX8_brings 58 = .ok (.iconst 1, 1) := by decide +kernel
theorem dX8_brings_59 : decode cX8_brings 59 = .ok (.iaload, 1) := by decide +kernel
theorem dX8_brings_60 : decode cX8_brings 60 = .ok (.invokevirtual 224, 3) := by decide +kernel
theorem dX8_brings_63 : decode cX8_brings 63 = .ok (.iload_n 3, 1) := by decide +kernel
theorem dX8_brings_64 : decode cX8_brings 64 = .ok (.ifCond .ne 10, 3) := by decide +kernel
theorem dX8_brings_67 : decode cX8_brings 67 = .ok (.aload_n 0, 1) := by decide +kernel
theorem dX8_brings_68 : decode cX8_brings 68 = .ok (.getfield 209, 3) := by decide +kernel
theorem dX8_brings_71 : decode cX8_brings 71 = .ok (.goto 7, 3) := by decide +kernel
theorem dX8_brings_74 : decode cX8_brings 74 = .ok (.aload_n 0, 1) := by decide +kernel
theorem dX8_brings_75 : decode cX8_brings 75 = .ok (.getfield 212, 3) := by decide +kernel
theorem dX8_brings_78 : decode cX8_brings 78 = .ok (.ireturn, 1) := by decide +kernel
def F8_brings (p1 : Int32) (p2 : Int32) (p3 : Int32) (st : fkS) : Option (Int32 × fkS) :=
 fk_bind (F8_noPie p1 p2 st) <| fun x1 st2 =>
 if 0 ≤ x1 then
 (fk_bind (F8_within p3 (0 : Int32) (1 : Int32) st2) <| fun x3 st4 =>
 if x3 = 0 then
 (fk_bind (F8_no (-5 : Int32) st4) <| fun x5 st6 =>
 some (x5, st6))
 else
 (fk_bind (F8_isPie p1 (0 : Int32) st4) <| fun x7 st8 =>
 if x7 = 0 then
 (fk_bind (F8_no (-6 : Int32) st8) <| fun x9 st10 =>
 some (x9, st10))
 else
 (fk_chk (fk_in (1 : Int32) 3) <| fk_let (gA st8 4 (1 : Int32).toNatClampNeg) <| fun x11 =>
 fk_bind (F8_goes p2 x11 st8) <| fun _ st12 =>
 if p3 = 0 then
 (fk_let (gI st12 26 0) <| fun x13 =>
 some (x13, st12))
 else
 (fk_let (gI st12 27 0) <| fun x14 =>
 some (x14, st12)))))
 else
 (fk_bind (F8_no x1 st2) <| fun x15 st16 =>
 some (x15, st16))
set_option maxHeartbeats 1000000 in
set_option maxRecDepth 20000 in
theorem C8_brings (p1 : Int32) (p2 : Int32) (p3 : Int32) (st : fkS) {g : fkG} (l : Launch) (o : Int32 × fkS) (hF : F8_brings p1 p2 p3 st = some o) : fk_C wM yX8_brings cX8_brings 5 (some (.int)) 5 146 l g [fk_r g 0, .int p1, .int p2, .int p3] st (fk_eI o.1) o.2 := by
  refine fk_begin rfl (Nat.le_of_ble_eq_true rfl) (fun k hk => ?_) o hF
  have hk : fk_ok wM g k RX8 cX8_brings 5 (some (.int)) 5 146 := hk
  show fk_J wM g fk_eI k 0 [(0, fk_r g 0), (1, .int p1), (2, .int p2), (3, .int p3)] [] st (F8_brings p1 p2 p3 st)
  unfold F8_brings
  refine j_aload_n (pc := 0) hk 0 rfl ⟨_, rfl⟩ dX8_brings_0 ?_
  refine j_iload_n (pc := 1) hk 1 rfl dX8_brings_1 ?_
  refine j_iload_n (pc := 2) hk 2 rfl dX8_brings_2 ?_
  refine j_callVi (pc := 3) hk [.int p1, .int p2] [] rfl (fun l o hq9 => C8_noPie p1 p2 st l o hq9) (rcv_8 (rfl)) yv_X8_noPie ml_8_218 rfl (Nat.le_of_ble_eq_true rfl) (Nat.le_of_ble_eq_true rfl) (Nat.le_of_ble_eq_true rfl) dX8_brings_3 (fun x1 st2 => ?_)
  refine j_istore (lv' := ((4, .int x1) :: [(0, fk_r g 0), (1, .int p1), (2, .int p2), (3, .int p3)])) (pc := 6) hk (by decide) rfl dX8_brings_6 ?_
  refine j_sub hk (lv' := [(0, fk_r g 0), (1, .int p1), (2, .int p2), (3, .int p3), (4, .int x1)]) [1, 2, 3, 4, 0] rfl ?_
  refine j_iload (pc := 8) hk 4 rfl dX8_brings_8 ?_
  refine j_if_ge (tgt := 20) (pc := 10) hk (by decide) dX8_brings_10 (fun _ => ?_) (fun _ => ?_)
  · refine j_iload_n (pc := 20) hk 3 rfl dX8_brings_20 ?_
    refine j_iconst (pc := 21) hk dX8_brings_21 (v := 0) (by decide) ?_
    refine j_iconst (pc := 22) hk dX8_brings_22 (v := 1) (by decide) ?_
    refine j_callSi (pc := 23) hk [.int p3, .int (0 : Int32), .int (1 : Int32)] [] rfl (fun l o hq9 => C8_within p3 (0 : Int32) (1 : Int32) st2 l o hq9) yv_X8_within ml_8_88 rfl (Nat.le_of_ble_eq_true rfl) (Nat.le_of_ble_eq_true rfl) (Nat.le_of_ble_eq_true rfl) dX8_brings_23 (fun x3 st4 => ?_)
    refine j_if_ne (tgt := 36) (pc := 26) hk (by decide) dX8_brings_26 (fun _ => ?_) (fun _ => ?_)
    · refine j_aload_n (pc := 29) hk 0 rfl ⟨_, rfl⟩ dX8_brings_29 ?_
      refine j_bipush (pc := 30) hk dX8_brings_30 (v := -5) (by decide) ?_
      refine j_callVi (pc := 32) hk [.int (-5 : Int32)] [] rfl (fun l o hq9 => C8_no (-5 : Int32) st4 l o hq9) (rcv_8 (rfl)) yv_X8_no ml_8_81 rfl (Nat.le_of_ble_eq_true rfl) (Nat.le_of_ble_eq_true rfl) (Nat.le_of_ble_eq_true rfl) dX8_brings_32 (fun x5 st6 => ?_)
      exact j_iret (pc := 35) hk dX8_brings_35
    · refine j_aload_n (pc := 36) hk 0 rfl ⟨_, rfl⟩ dX8_brings_36 ?_
      refine j_iload_n (pc := 37) hk 1 rfl dX8_brings_37 ?_
      refine j_iconst (pc := 38) hk dX8_brings_38 (v := 0) (by decide) ?_
      refine j_callVi (pc := 39) hk [.int p1, .int (0 : Int32)] [] rfl (fun l o hq9 => C8_isPie p1 (0 : Int32) st4 l o hq9) (rcv_8 (rfl)) yv_X8_isPie ml_8_221 rfl (Nat.le_of_ble_eq_true rfl) (Nat.le_of_ble_eq_true rfl) (Nat.le_of_ble_eq_true rfl) dX8_brings_39 (fun x7 st8 => ?_)
      refine j_if_ne (tgt := 52) (pc := 42) hk (by decide) dX8_brings_42 (fun _ => ?_) (fun _ => ?_)
      · refine j_aload_n (pc := 45) hk 0 rfl ⟨_, rfl⟩ dX8_brings_45 ?_
        refine j_bipush (pc := 46) hk dX8_brings_46 (v := -6) (by decide) ?_
        refine j_callVi (pc := 48) hk [.int (-6 : Int32)] [] rfl (fun l o hq9 => C8_no (-6 : Int32) st8 l o hq9) (rcv_8 (rfl)) yv_X8_no ml_8_81 rfl (Nat.le_of_ble_eq_true rfl) (Nat.le_of_ble_eq_true rfl) (Nat.le_of_ble_eq_true rfl) dX8_brings_48 (fun x9 st10 => ?_)
        exact j_iret (pc := 51) hk dX8_brings_51
      · refine j_aload_n (pc := 52) hk 0 rfl ⟨_, rfl⟩ dX8_brings_52 ?_
        refine j_iload_n (pc := 53) hk 2 rfl dX8_brings_53 ?_
        refine j_aload_n (pc := 54) hk 0 rfl ⟨_, rfl⟩ dX8_brings_54 ?_
        refine f_8_19 (pc := 55) hk (rfl) dX8_brings_55 ?_
        refine j_iconst (pc := 58) hk dX8_brings_58 (v := 1) (by decide) ?_
        refine a_iload (pc := 59) hk (isI_8_4) dX8_brings_59 (fun x11 => ?_)
        refine j_callVv (pc := 60) hk [.int p2, .int x11] [] rfl (fun l o hq9 => C8_goes p2 x11 st8 l o hq9) (rcv_8 (rfl)) yv_X8_goes ml_8_224 rfl (Nat.le_of_ble_eq_true rfl) (Nat.le_of_ble_eq_true rfl) (Nat.le_of_ble_eq_true rfl) dX8_brings_60 (fun _ st12 => ?_)
        refine j_iload_n (pc := 63) hk 3 rfl dX8_brings_63 ?_
        refine j_if_ne (tgt := 74) (pc := 64) hk (by decide) dX8_brings_64 (fun _ => ?_) (fun _ => ?_)
        · refine j_aload_n (pc := 67) hk 0 rfl ⟨_, rfl⟩ dX8_brings_67 ?_
          refine f_8_209 (pc := 68) hk (rfl) dX8_brings_68 (fun x13 => ?_)
          refine j_goto (tgt := 78) (pc := 71) hk (by decide) dX8_brings_71 ?_
          exact j_iret (pc := 78) hk dX8_brings_78
        · refine j_aload_n (pc := 74) hk 0 rfl ⟨_, rfl⟩ dX8_brings_74 ?_
          refine f_8_212 (pc := 75) hk (rfl) dX8_brings_75 (fun x14 => ?_)
          exact j_iret (pc := 78) hk dX8_brings_78
  · refine j_aload_n (pc := 13) hk 0 rfl ⟨_, rfl⟩ dX8_brings_13 ?_
    refine j_iload (pc := 14) hk 4 rfl dX8_brings_14 ?_
    refine j_callVi (pc := 16) hk [.int x1] [] rfl (fun l o hq9 => C8_no x1 st2 l o hq9) (rcv_8 (rfl)) yv_X8_no ml_8_81 rfl (Nat.le_of_ble_eq_true rfl) (Nat.le_of_ble_eq_true rfl) (Nat.le_of_ble_eq_true rfl) dX8_brings_16 (fun x15 st16 => ?_)
    exact j_iret (pc := 19) hk dX8_brings_19
theorem dX8_pow_0 : decode cX8_pow 0 = .ok (.iconst 1, 1) := by decide +kernel
theorem dX8_pow_1 : decode cX8_pow 1 = .ok (.istore_n 1, 1) := by decide +kernel
theorem dX8_pow_2 : decode cX8_pow 2 = .ok (.iconst 0, 1) := by decide +kernel
theorem dX8_pow_3 : decode cX8_pow 3 = .ok (.istore_n 2, 1) := by decide +kernel
theorem dX8_pow_4 : decode cX8_pow 4 = .ok (.iload_n 2, 1) := by decide +kernel
theorem dX8_pow_5 : decode cX8_pow 5 = .ok (.iload_n 0, 1) := by decide +kernel
theorem dX8_pow_6 : decode cX8_pow 6 = .ok (.if_icmp .ge 14, 3) := by decide +kernel
theorem dX8_pow_9 : decode cX8_pow 9 = .ok (.iload_n 1, 1) := by decide +kernel
theorem dX8_pow_10 : decode cX8_pow 10 = .ok (.bipush 10, 2) := by decide +kernel
theorem dX8_pow_12 : decode cX8_pow 12 = .ok (.imul, 1) := by decide +kernel
theorem dX8_pow_13 : decode cX8_pow 13 = .ok (.istore_n 1, 1) := by decide +kernel
theorem dX8_pow_14 : decode cX8_pow 14 = .ok (.iinc 2 1, 3) := by decide +kernel
theorem dX8_pow_17 : decode cX8_pow 17 = .ok (.goto (-13), 3) := by decide +kernel
theorem dX8_pow_20 : decode cX8_pow 20 = .ok (.iload_n 1, 1) := by decide +kernel
theorem dX8_pow_21 : decode cX8_pow 21 = .ok (.ireturn, 1) := by decide +kernel
def B8_pow_4 (k4 : Int32 → Int32 → Int32 → fkS → Option (Int32 × fkS)) (v0 : Int32) (v1 : Int32) (v2 : Int32) (st : fkS) : Option (Int32 × fkS) :=
 if v0 ≤ v2 then
 (some (v1, st))
 else
 (k4 v0 (v1 * (10 : Int32)) (v2 + (1 : Int32)) st)
set_option maxHeartbeats 1000000 in
set_option maxRecDepth 20000 in
theorem T8_pow_4 {g : fkG} {k : fkK} (hk : fk_ok wM g k RX8 cX8_pow 3 (some (.int)) 0 0) (k4 : Int32 → Int32 → Int32 → fkS → Option (Int32 × fkS)) (H4 : ∀ (v0 : Int32) (v1 : Int32) (v2 : Int32) (st : fkS), fk_J wM g fk_eI k 4 [(0, .int v0), (1, .int v1), (2, .int v2)] [] st (k4 v0 v1 v2 st)) : ∀ (v0 : Int32) (v1 : Int32) (v2 : Int32) (st : fkS), fk_J wM g fk_eI k 4 [(0, .int v0), (1, .int v1), (2, .int v2)] [] st (B8_pow_4 k4 v0 v1 v2 st) := by
  intro v0 v1 v2 st
  unfold B8_pow_4
  refine j_iload_n (pc := 4) hk 2 rfl dX8_pow_4 ?_
  refine j_iload_n (pc := 5) hk 0 rfl dX8_pow_5 ?_
  refine j_icmp_ge (tgt := 20) (pc := 6) hk (by decide) dX8_pow_6 (fun _ => ?_) (fun _ => ?_)
  · refine j_iload_n (pc := 20) hk 1 rfl dX8_pow_20 ?_
    exact j_iret (pc := 21) hk dX8_pow_21
  · refine j_iload_n (pc := 9) hk 1 rfl dX8_pow_9 ?_
    refine j_bipush (pc := 10) hk dX8_pow_10 (v := 10) (by decide) ?_
    refine j_imul (pc := 12) hk dX8_pow_12 ?_
    refine j_istore_n (lv' := ((1, .int (v1 * (10 : Int32))) :: [(0, .int v0), (2, .int v2)])) (pc := 13) hk rfl (by decide) rfl dX8_pow_13 ?_
    refine j_sub hk (lv' := [(0, .int v0), (1, .int (v1 * (10 : Int32))), (2, .int v2)]) [1, 0, 2] rfl ?_
    refine j_iinc (dd := (1 : Int32)) (lv' := ((2, .int (v2 + (1 : Int32))) :: [(0, .int v0), (1, .int (v1 * (10 : Int32)))])) (pc := 14) hk 2 rfl (by decide) (by decide) rfl dX8_pow_14 ?_
    refine j_sub hk (lv' := [(0, .int v0), (1, .int (v1 * (10 : Int32))), (2, .int (v2 + (1 : Int32)))]) [1, 2, 0] rfl ?_
    refine j_goto (tgt := 4) (pc := 17) hk (by decide) dX8_pow_17 ?_
    exact j_sub hk [0, 1, 2] rfl (H4 v0 (v1 * (10 : Int32)) (v2 + (1 : Int32)) st)
set_option maxHeartbeats 1000000 in
set_option maxRecDepth 20000 in
theorem L8_pow_4 {g : fkG} {k : fkK} (hk : fk_ok wM g k RX8 cX8_pow 3 (some (.int)) 0 0) (fu : Nat) : ∀ (v0 : Int32) (v1 : Int32) (v2 : Int32) (st : fkS), fk_J wM g fk_eI k 4 [(0, .int v0), (1, .int v1), (2, .int v2)] [] st (fk_lp3 (B8_pow_4) fu v0 v1 v2 st) := by
  induction fu with
  | zero =>
    intro v0 v1 v2 st
    exact j_none hk
  | succ fu ih =>
    exact T8_pow_4 hk _ ih
def F8_pow (p0 : Int32) (st : fkS) : Option (Int32 × fkS) :=
 fk_lp3 (B8_pow_4) fk_fuel p0 (1 : Int32) (0 : Int32) st
set_option maxHeartbeats 1000000 in
set_option maxRecDepth 20000 in
theorem C8_pow (p0 : Int32) (st : fkS) {g : fkG} (l : Launch) (o : Int32 × fkS) (hF : F8_pow p0 st = some o) : fk_C wM yX8_pow cX8_pow 3 (some (.int)) 0 0 l g [.int p0] st (fk_eI o.1) o.2 := by
  refine fk_begin rfl (Nat.le_of_ble_eq_true rfl) (fun k hk => ?_) o hF
  have hk : fk_ok wM g k RX8 cX8_pow 3 (some (.int)) 0 0 := hk
  show fk_J wM g fk_eI k 0 [(0, .int p0)] [] st (F8_pow p0 st)
  unfold F8_pow
  refine j_iconst (pc := 0) hk dX8_pow_0 (v := 1) (by decide) ?_
  refine j_istore_n (lv' := ((1, .int (1 : Int32)) :: [(0, .int p0)])) (pc := 1) hk rfl (by decide) rfl dX8_pow_1 ?_
  refine j_sub hk (lv' := [(0, .int p0), (1, .int (1 : Int32))]) [1, 0] rfl ?_
  refine j_iconst (pc := 2) hk dX8_pow_2 (v := 0) (by decide) ?_
  refine j_istore_n (lv' := ((2, .int (0 : Int32)) :: [(0, .int p0), (1, .int (1 : Int32))])) (pc := 3) hk rfl (by decide) rfl dX8_pow_3 ?_
  refine j_sub hk (lv' := [(0, .int p0), (1, .int (1 : Int32)), (2, .int (0 : Int32))]) [1, 2, 0] rfl ?_
  exact j_sub hk [0, 1, 2] rfl (L8_pow_4 hk fk_fuel p0 (1 : Int32) (0 : Int32) st)
