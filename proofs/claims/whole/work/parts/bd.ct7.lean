section
def lit12_0 (b : Nat) (μ : Mem) : Mem := wr (wr (wr (wr (wr (wr (wr (wr (wr (wr (wr (wr (wr (wr (wr (wr (wr (wr (wr (wr (wr (wr (μ) b 0 (32 : Int32)) b 1 (121 : Int32)) b 2 (101 : Int32)) b 3 (115 : Int32)) b 4 (32 : Int32)) b 5 (99 : Int32)) b 6 (111 : Int32)) b 7 (117 : Int32)) b 8 (110 : Int32)) b 9 (116 : Int32)) b 10 (115 : Int32)) b 11 (32 : Int32)) b 12 (106 : Int32)) b 13 (111 : Int32)) b 14 (121 : Int32)) b 15 (32 : Int32)) b 16 (119 : Int32)) b 17 (104 : Int32)) b 18 (101 : Int32)) b 19 (110 : Int32)) b 20 (32 : Int32)) b 21 (111 : Int32)
set_option maxHeartbeats 4000000 in
set_option maxRecDepth 100000 in
theorem lit12_0_ok {own : String} {nL : Nat} {ret : Option FieldType} {ini : Bool} {d mc ms : Nat} {post : Option Int32 → List Shp → Mem → Prop} {loc : List (Option Value)} {sh : List Shp} {μ : Mem} {nc ns a b : Nat} (he : sh[b]? = some (.inl 132)) (kk : Ev own cX12_init nL ret ini d mc ms post 219 loc [.ref b, .ref a] sh (lit12_0 b μ) nc ns) : Ev own cX12_init nL ret ini d mc ms post 93 loc [.ref b, .ref a] sh μ nc ns := by
  refine ev_dup dX12_init_93 (by rfl) ?_
  refine ev_iconst (v := (0 : Int32)) dX12_init_94 (by decide) ?_
  refine ev_bipush (v := (32 : Int32)) dX12_init_95 (by decide) ?_
  refine ev_iastL (j := 0) he (by decide) (vpl _ _ (by decide)) dX12_init_97 ?_
  refine ev_dup dX12_init_98 (by rfl) ?_
  refine ev_iconst (v := (1 : Int32)) dX12_init_99 (by decide) ?_
  refine ev_bipush (v := (121 : Int32)) dX12_init_100 (by decide) ?_
  refine ev_iastL (j := 1) he (by decide) (vpl _ _ (by decide)) dX12_init_102 ?_
  refine ev_dup dX12_init_103 (by rfl) ?_
  refine ev_iconst (v := (2 : Int32)) dX12_init_104 (by decide) ?_
  refine ev_bipush (v := (101 : Int32)) dX12_init_105 (by decide) ?_
  refine ev_iastL (j := 2) he (by decide) (vpl _ _ (by decide)) dX12_init_107 ?_
  refine ev_dup dX12_init_108 (by rfl) ?_
  refine ev_iconst (v := (3 : Int32)) dX12_init_109 (by decide) ?_
  refine ev_bipush (v := (115 : Int32)) dX12_init_110 (by decide) ?_
  refine ev_iastL (j := 3) he (by decide) (vpl _ _ (by decide)) dX12_init_112 ?_
  refine ev_dup dX12_init_113 (by rfl) ?_
  refine ev_iconst (v := (4 : Int32)) dX12_init_114 (by decide) ?_
  refine ev_bipush (v := (32 : Int32)) dX12_init_115 (by decide) ?_
  refine ev_iastL (j := 4) he (by decide) (vpl _ _ (by decide)) dX12_init_117 ?_
  refine ev_dup dX12_init_118 (by rfl) ?_
  refine ev_iconst (v := (5 : Int32)) dX12_init_119 (by decide) ?_
  refine ev_bipush (v := (99 : Int32)) dX12_init_120 (by decide) ?_
  refine ev_iastL (j := 5) he (by decide) (vpl _ _ (by decide)) dX12_init_122 ?_
  refine ev_dup dX12_init_123 (by rfl) ?_
  refine ev_bipush (v := (6 : Int32)) dX12_init_124 (by decide) ?_
  refine ev_bipush (v := (111 : Int32)) dX12_init_126 (by decide) ?_
  refine ev_iastL (j := 6) he (by decide) (vpl _ _ (by decide)) dX12_init_128 ?_
  refine ev_dup dX12_init_129 (by rfl) ?_
  refine ev_bipush (v := (7 : Int32)) dX12_init_130 (by decide) ?_
  refine ev_bipush (v := (117 : Int32)) dX12_init_132 (by decide) ?_
  refine ev_iastL (j := 7) he (by decide) (vpl _ _ (by decide)) dX12_init_134 ?_
  refine ev_dup dX12_init_135 (by rfl) ?_
  refine ev_bipush (v := (8 : Int32)) dX12_init_136 (by decide) ?_
  refine ev_bipush (v := (110 : Int32)) dX12_init_138 (by decide) ?_
  refine ev_iastL (j := 8) he (by decide) (vpl _ _ (by decide)) dX12_init_140 ?_
  refine ev_dup dX12_init_141 (by rfl) ?_
  refine ev_bipush (v := (9 : Int32)) dX12_init_142 (by decide) ?_
  refine ev_bipush (v := (116 : Int32)) dX12_init_144 (by decide) ?_
  refine ev_iastL (j := 9) he (by decide) (vpl _ _ (by decide)) dX12_init_146 ?_
  refine ev_dup dX12_init_147 (by rfl) ?_
  refine ev_bipush (v := (10 : Int32)) dX12_init_148 (by decide) ?_
  refine ev_bipush (v := (115 : Int32)) dX12_init_150 (by decide) ?_
  refine ev_iastL (j := 10) he (by decide) (vpl _ _ (by decide)) dX12_init_152 ?_
  refine ev_dup dX12_init_153 (by rfl) ?_
  refine ev_bipush (v := (11 : Int32)) dX12_init_154 (by decide) ?_
  refine ev_bipush (v := (32 : Int32)) dX12_init_156 (by decide) ?_
  refine ev_iastL (j := 11) he (by decide) (vpl _ _ (by decide)) dX12_init_158 ?_
  refine ev_dup dX12_init_159 (by rfl) ?_
  refine ev_bipush (v := (12 : Int32)) dX12_init_160 (by decide) ?_
  refine ev_bipush (v := (106 : Int32)) dX12_init_162 (by decide) ?_
  refine ev_iastL (j := 12) he (by decide) (vpl _ _ (by decide)) dX12_init_164 ?_
  refine ev_dup dX12_init_165 (by rfl) ?_
  refine ev_bipush (v := (13 : Int32)) dX12_init_166 (by decide) ?_
  refine ev_bipush (v := (111 : Int32)) dX12_init_168 (by decide) ?_
  refine ev_iastL (j := 13) he (by decide) (vpl _ _ (by decide)) dX12_init_170 ?_
  refine ev_dup dX12_init_171 (by rfl) ?_
  refine ev_bipush (v := (14 : Int32)) dX12_init_172 (by decide) ?_
  refine ev_bipush (v := (121 : Int32)) dX12_init_174 (by decide) ?_
  refine ev_iastL (j := 14) he (by decide) (vpl _ _ (by decide)) dX12_init_176 ?_
  refine ev_dup dX12_init_177 (by rfl) ?_
  refine ev_bipush (v := (15 : Int32)) dX12_init_178 (by decide) ?_
  refine ev_bipush (v := (32 : Int32)) dX12_init_180 (by decide) ?_
  refine ev_iastL (j := 15) he (by decide) (vpl _ _ (by decide)) dX12_init_182 ?_
  refine ev_dup dX12_init_183 (by rfl) ?_
  refine ev_bipush (v := (16 : Int32)) dX12_init_184 (by decide) ?_
  refine ev_bipush (v := (119 : Int32)) dX12_init_186 (by decide) ?_
  refine ev_iastL (j := 16) he (by decide) (vpl _ _ (by decide)) dX12_init_188 ?_
  refine ev_dup dX12_init_189 (by rfl) ?_
  refine ev_bipush (v := (17 : Int32)) dX12_init_190 (by decide) ?_
  refine ev_bipush (v := (104 : Int32)) dX12_init_192 (by decide) ?_
  refine ev_iastL (j := 17) he (by decide) (vpl _ _ (by decide)) dX12_init_194 ?_
  refine ev_dup dX12_init_195 (by rfl) ?_
  refine ev_bipush (v := (18 : Int32)) dX12_init_196 (by decide) ?_
  refine ev_bipush (v := (101 : Int32)) dX12_init_198 (by decide) ?_
  refine ev_iastL (j := 18) he (by decide) (vpl _ _ (by decide)) dX12_init_200 ?_
  refine ev_dup dX12_init_201 (by rfl) ?_
  refine ev_bipush (v := (19 : Int32)) dX12_init_202 (by decide) ?_
  refine ev_bipush (v := (110 : Int32)) dX12_init_204 (by decide) ?_
  refine ev_iastL (j := 19) he (by decide) (vpl _ _ (by decide)) dX12_init_206 ?_
  refine ev_dup dX12_init_207 (by rfl) ?_
  refine ev_bipush (v := (20 : Int32)) dX12_init_208 (by decide) ?_
  refine ev_bipush (v := (32 : Int32)) dX12_init_210 (by decide) ?_
  refine ev_iastL (j := 20) he (by decide) (vpl _ _ (by decide)) dX12_init_212 ?_
  refine ev_dup dX12_init_213 (by rfl) ?_
  refine ev_bipush (v := (21 : Int32)) dX12_init_214 (by decide) ?_
  refine ev_bipush (v := (111 : Int32)) dX12_init_216 (by decide) ?_
  refine ev_iastL (j := 21) he (by decide) (vpl _ _ (by decide)) dX12_init_218 ?_
  exact kk
def lit12_1 (b : Nat) (μ : Mem) : Mem := wr (wr (wr (wr (wr (wr (wr (wr (wr (wr (wr (wr (wr (wr (wr (wr (wr (wr (wr (wr (wr (wr (μ) b 22 (114 : Int32)) b 23 (32 : Int32)) b 24 (97 : Int32)) b 25 (110 : Int32)) b 26 (100 : Int32)) b 27 (32 : Int32)) b 28 (110 : Int32)) b 29 (111 : Int32)) b 30 (116 : Int32)) b 31 (32 : Int32)) b 32 (115 : Int32)) b 33 (116 : Int32)) b 34 (101 : Int32)) b 35 (112 : Int32)) b 36 (32 : Int32)) b 37 (104 : Int32)) b 38 (101 : Int32)) b 39 (97 : Int32)) b 40 (114 : Int32)) b 41 (116 : Int32)) b 42 (32 : Int32)) b 43 (114 : Int32)
set_option maxHeartbeats 4000000 in
set_option maxRecDepth 100000 in
theorem lit12_1_ok {own : String} {nL : Nat} {ret : Option FieldType} {ini : Bool} {d mc ms : Nat} {post : Option Int32 → List Shp → Mem → Prop} {loc : List (Option Value)} {sh : List Shp} {μ : Mem} {nc ns a b : Nat} (he : sh[b]? = some (.inl 132)) (kk : Ev own cX12_init nL ret ini d mc ms post 351 loc [.ref b, .ref a] sh (lit12_1 b μ) nc ns) : Ev own cX12_init nL ret ini d mc ms post 219 loc [.ref b, .ref a] sh μ nc ns := by
  refine ev_dup dX12_init_219 (by rfl) ?_
  refine ev_bipush (v := (22 : Int32)) dX12_init_220 (by decide) ?_
  refine ev_bipush (v := (114 : Int32)) dX12_init_222 (by decide) ?_
  refine ev_iastL (j := 22) he (by decide) (vpl _ _ (by decide)) dX12_init_224 ?_
  refine ev_dup dX12_init_225 (by rfl) ?_
  refine ev_bipush (v := (23 : Int32)) dX12_init_226 (by decide) ?_
  refine ev_bipush (v := (32 : Int32)) dX12_init_228 (by decide) ?_
  refine ev_iastL (j := 23) he (by decide) (vpl _ _ (by decide)) dX12_init_230 ?_
  refine ev_dup dX12_init_231 (by rfl) ?_
  refine ev_bipush (v := (24 : Int32)) dX12_init_232 (by decide) ?_
  refine ev_bipush (v := (97 : Int32)) dX12_init_234 (by decide) ?_
  refine ev_iastL (j := 24) he (by decide) (vpl _ _ (by decide)) dX12_init_236 ?_
  refine ev_dup dX12_init_237 (by rfl) ?_
  refine ev_bipush (v := (25 : Int32)) dX12_init_238 (by decide) ?_
  refine ev_bipush (v := (110 : Int32)) dX12_init_240 (by decide) ?_
  refine ev_iastL (j := 25) he (by decide) (vpl _ _ (by decide)) dX12_init_242 ?_
  refine ev_dup dX12_init_243 (by rfl) ?_
  refine ev_bipush (v := (26 : Int32)) dX12_init_244 (by decide) ?_
  refine ev_bipush (v := (100 : Int32)) dX12_init_246 (by decide) ?_
  refine ev_iastL (j := 26) he (by decide) (vpl _ _ (by decide)) dX12_init_248 ?_
  refine ev_dup dX12_init_249 (by rfl) ?_
  refine ev_bipush (v := (27 : Int32)) dX12_init_250 (by decide) ?_
  refine ev_bipush (v := (32 : Int32)) dX12_init_252 (by decide) ?_
  refine ev_iastL (j := 27) he (by decide) (vpl _ _ (by decide)) dX12_init_254 ?_
  refine ev_dup dX12_init_255 (by rfl) ?_
  refine ev_bipush (v := (28 : Int32)) dX12_init_256 (by decide) ?_
  refine ev_bipush (v := (110 : Int32)) dX12_init_258 (by decide) ?_
  refine ev_iastL (j := 28) he (by decide) (vpl _ _ (by decide)) dX12_init_260 ?_
  refine ev_dup dX12_init_261 (by rfl) ?_
  refine ev_bipush (v := (29 : Int32)) dX12_init_262 (by decide) ?_
  refine ev_bipush (v := (111 : Int32)) dX12_init_264 (by decide) ?_
  refine ev_iastL (j := 29) he (by decide) (vpl _ _ (by decide)) dX12_init_266 ?_
  refine ev_dup dX12_init_267 (by rfl) ?_
  refine ev_bipush (v := (30 : Int32)) dX12_init_268 (by decide) ?_
  refine ev_bipush (v := (116 : Int32)) dX12_init_270 (by decide) ?_
  refine ev_iastL (j := 30) he (by decide) (vpl _ _ (by decide)) dX12_init_272 ?_
  refine ev_dup dX12_init_273 (by rfl) ?_
  refine ev_bipush (v := (31 : Int32)) dX12_init_274 (by decide) ?_
  refine ev_bipush (v := (32 : Int32)) dX12_init_276 (by decide) ?_
  refine ev_iastL (j := 31) he (by decide) (vpl _ _ (by decide)) dX12_init_278 ?_
  refine ev_dup dX12_init_279 (by rfl) ?_
  refine ev_bipush (v := (32 : Int32)) dX12_init_280 (by decide) ?_
  refine ev_bipush (v := (115 : Int32)) dX12_init_282 (by decide) ?_
  refine ev_iastL (j := 32) he (by decide) (vpl _ _ (by decide)) dX12_init_284 ?_
  refine ev_dup dX12_init_285 (by rfl) ?_
  refine ev_bipush (v := (33 : Int32)) dX12_init_286 (by decide) ?_
  refine ev_bipush (v := (116 : Int32)) dX12_init_288 (by decide) ?_
  refine ev_iastL (j := 33) he (by decide) (vpl _ _ (by decide)) dX12_init_290 ?_
  refine ev_dup dX12_init_291 (by rfl) ?_
  refine ev_bipush (v := (34 : Int32)) dX12_init_292 (by decide) ?_
  refine ev_bipush (v := (101 : Int32)) dX12_init_294 (by decide) ?_
  refine ev_iastL (j := 34) he (by decide) (vpl _ _ (by decide)) dX12_init_296 ?_
  refine ev_dup dX12_init_297 (by rfl) ?_
  refine ev_bipush (v := (35 : Int32)) dX12_init_298 (by decide) ?_
  refine ev_bipush (v := (112 : Int32)) dX12_init_300 (by decide) ?_
  refine ev_iastL (j := 35) he (by decide) (vpl _ _ (by decide)) dX12_init_302 ?_
  refine ev_dup dX12_init_303 (by rfl) ?_
  refine ev_bipush (v := (36 : Int32)) dX12_init_304 (by decide) ?_
  refine ev_bipush (v := (32 : Int32)) dX12_init_306 (by decide) ?_
  refine ev_iastL (j := 36) he (by decide) (vpl _ _ (by decide)) dX12_init_308 ?_
  refine ev_dup dX12_init_309 (by rfl) ?_
  refine ev_bipush (v := (37 : Int32)) dX12_init_310 (by decide) ?_
  refine ev_bipush (v := (104 : Int32)) dX12_init_312 (by decide) ?_
  refine ev_iastL (j := 37) he (by decide) (vpl _ _ (by decide)) dX12_init_314 ?_
  refine ev_dup dX12_init_315 (by rfl) ?_
  refine ev_bipush (v := (38 : Int32)) dX12_init_316 (by decide) ?_
  refine ev_bipush (v := (101 : Int32)) dX12_init_318 (by decide) ?_
  refine ev_iastL (j := 38) he (by decide) (vpl _ _ (by decide)) dX12_init_320 ?_
  refine ev_dup dX12_init_321 (by rfl) ?_
  refine ev_bipush (v := (39 : Int32)) dX12_init_322 (by decide) ?_
  refine ev_bipush (v := (97 : Int32)) dX12_init_324 (by decide) ?_
  refine ev_iastL (j := 39) he (by decide) (vpl _ _ (by decide)) dX12_init_326 ?_
  refine ev_dup dX12_init_327 (by rfl) ?_
  refine ev_bipush (v := (40 : Int32)) dX12_init_328 (by decide) ?_
  refine ev_bipush (v := (114 : Int32)) dX12_init_330 (by decide) ?_
  refine ev_iastL (j := 40) he (by decide) (vpl _ _ (by decide)) dX12_init_332 ?_
  refine ev_dup dX12_init_333 (by rfl) ?_
  refine ev_bipush (v := (41 : Int32)) dX12_init_334 (by decide) ?_
  refine ev_bipush (v := (116 : Int32)) dX12_init_336 (by decide) ?_
  refine ev_iastL (j := 41) he (by decide) (vpl _ _ (by decide)) dX12_init_338 ?_
  refine ev_dup dX12_init_339 (by rfl) ?_
  refine ev_bipush (v := (42 : Int32)) dX12_init_340 (by decide) ?_
  refine ev_bipush (v := (32 : Int32)) dX12_init_342 (by decide) ?_
  refine ev_iastL (j := 42) he (by decide) (vpl _ _ (by decide)) dX12_init_344 ?_
  refine ev_dup dX12_init_345 (by rfl) ?_
  refine ev_bipush (v := (43 : Int32)) dX12_init_346 (by decide) ?_
  refine ev_bipush (v := (114 : Int32)) dX12_init_348 (by decide) ?_
  refine ev_iastL (j := 43) he (by decide) (vpl _ _ (by decide)) dX12_init_350 ?_
  exact kk
def lit12_2 (b : Nat) (μ : Mem) : Mem := wr (wr (wr (wr (wr (wr (wr (wr (wr (wr (wr (wr (wr (wr (wr (wr (wr (wr (wr (wr (wr (wr (μ) b 44 (111 : Int32)) b 45 (116 : Int32)) b 46 (101 : Int32)) b 47 (32 : Int32)) b 48 (115 : Int32)) b 49 (104 : Int32)) b 50 (101 : Int32)) b 51 (32 : Int32)) b 52 (115 : Int32)) b 53 (97 : Int32)) b 54 (105 : Int32)) b 55 (100 : Int32)) b 56 (32 : Int32)) b 57 (113 : Int32)) b 58 (117 : Int32)) b 59 (101 : Int32)) b 60 (115 : Int32)) b 61 (116 : Int32)) b 62 (105 : Int32)) b 63 (111 : Int32)) b 64 (110 : Int32)) b 65 (32 : Int32)
set_option maxHeartbeats 4000000 in
set_option maxRecDepth 100000 in
theorem lit12_2_ok {own : String} {nL : Nat} {ret : Option FieldType} {ini : Bool} {d mc ms : Nat} {post : Option Int32 → List Shp → Mem → Prop} {loc : List (Option Value)} {sh : List Shp} {μ : Mem} {nc ns a b : Nat} (he : sh[b]? = some (.inl 132)) (kk : Ev own cX12_init nL ret ini d mc ms post 483 loc [.ref b, .ref a] sh (lit12_2 b μ) nc ns) : Ev own cX12_init nL ret ini d mc ms post 351 loc [.ref b, .ref a] sh μ nc ns := by
  refine ev_dup dX12_init_351 (by rfl) ?_
  refine ev_bipush (v := (44 : Int32)) dX12_init_352 (by decide) ?_
  refine ev_bipush (v := (111 : Int32)) dX12_init_354 (by decide) ?_
  refine ev_iastL (j := 44) he (by decide) (vpl _ _ (by decide)) dX12_init_356 ?_
  refine ev_dup dX12_init_357 (by rfl) ?_
  refine ev_bipush (v := (45 : Int32)) dX12_init_358 (by decide) ?_
  refine ev_bipush (v := (116 : Int32)) dX12_init_360 (by decide) ?_
  refine ev_iastL (j := 45) he (by decide) (vpl _ _ (by decide)) dX12_init_362 ?_
  refine ev_dup dX12_init_363 (by rfl) ?_
  refine ev_bipush (v := (46 : Int32)) dX12_init_364 (by decide) ?_
  refine ev_bipush (v := (101 : Int32)) dX12_init_366 (by decide) ?_
  refine ev_iastL (j := 46) he (by decide) (vpl _ _ (by decide)) dX12_init_368 ?_
  refine ev_dup dX12_init_369 (by rfl) ?_
  refine ev_bipush (v := (47 : Int32)) dX12_init_370 (by decide) ?_
  refine ev_bipush (v := (32 : Int32)) dX12_init_372 (by decide) ?_
  refine ev_iastL (j := 47) he (by decide) (vpl _ _ (by decide)) dX12_init_374 ?_
  refine ev_dup dX12_init_375 (by rfl) ?_
  refine ev_bipush (v := (48 : Int32)) dX12_init_376 (by decide) ?_
  refine ev_bipush (v := (115 : Int32)) dX12_init_378 (by decide) ?_
  refine ev_iastL (j := 48) he (by decide) (vpl _ _ (by decide)) dX12_init_380 ?_
  refine ev_dup dX12_init_381 (by rfl) ?_
  refine ev_bipush (v := (49 : Int32)) dX12_init_382 (by decide) ?_
  refine ev_bipush (v := (104 : Int32)) dX12_init_384 (by decide) ?_
  refine ev_iastL (j := 49) he (by decide) (vpl _ _ (by decide)) dX12_init_386 ?_
  refine ev_dup dX12_init_387 (by rfl) ?_
  refine ev_bipush (v := (50 : Int32)) dX12_init_388 (by decide) ?_
  refine ev_bipush (v := (101 : Int32)) dX12_init_390 (by decide) ?_
  refine ev_iastL (j := 50) he (by decide) (vpl _ _ (by decide)) dX12_init_392 ?_
  refine ev_dup dX12_init_393 (by rfl) ?_
  refine ev_bipush (v := (51 : Int32)) dX12_init_394 (by decide) ?_
  refine ev_bipush (v := (32 : Int32)) dX12_init_396 (by decide) ?_
  refine ev_iastL (j := 51) he (by decide) (vpl _ _ (by decide)) dX12_init_398 ?_
  refine ev_dup dX12_init_399 (by rfl) ?_
  refine ev_bipush (v := (52 : Int32)) dX12_init_400 (by decide) ?_
  refine ev_bipush (v := (115 : Int32)) dX12_init_402 (by decide) ?_
  refine ev_iastL (j := 52) he (by decide) (vpl _ _ (by decide)) dX12_init_404 ?_
  refine ev_dup dX12_init_405 (by rfl) ?_
  refine ev_bipush (v := (53 : Int32)) dX12_init_406 (by decide) ?_
  refine ev_bipush (v := (97 : Int32)) dX12_init_408 (by decide) ?_
  refine ev_iastL (j := 53) he (by decide) (vpl _ _ (by decide)) dX12_init_410 ?_
  refine ev_dup dX12_init_411 (by rfl) ?_
  refine ev_bipush (v := (54 : Int32)) dX12_init_412 (by decide) ?_
  refine ev_bipush (v := (105 : Int32)) dX12_init_414 (by decide) ?_
  refine ev_iastL (j := 54) he (by decide) (vpl _ _ (by decide)) dX12_init_416 ?_
  refine ev_dup dX12_init_417 (by rfl) ?_
  refine ev_bipush (v := (55 : Int32)) dX12_init_418 (by decide) ?_
  refine ev_bipush (v := (100 : Int32)) dX12_init_420 (by decide) ?_
  refine ev_iastL (j := 55) he (by decide) (vpl _ _ (by decide)) dX12_init_422 ?_
  refine ev_dup dX12_init_423 (by rfl) ?_
  refine ev_bipush (v := (56 : Int32)) dX12_init_424 (by decide) ?_
  refine ev_bipush (v := (32 : Int32)) dX12_init_426 (by decide) ?_
  refine ev_iastL (j := 56) he (by decide) (vpl _ _ (by decide)) dX12_init_428 ?_
  refine ev_dup dX12_init_429 (by rfl) ?_
  refine ev_bipush (v := (57 : Int32)) dX12_init_430 (by decide) ?_
  refine ev_bipush (v := (113 : Int32)) dX12_init_432 (by decide) ?_
  refine ev_iastL (j := 57) he (by decide) (vpl _ _ (by decide)) dX12_init_434 ?_
  refine ev_dup dX12_init_435 (by rfl) ?_
  refine ev_bipush (v := (58 : Int32)) dX12_init_436 (by decide) ?_
  refine ev_bipush (v := (117 : Int32)) dX12_init_438 (by decide) ?_
  refine ev_iastL (j := 58) he (by decide) (vpl _ _ (by decide)) dX12_init_440 ?_
  refine ev_dup dX12_init_441 (by rfl) ?_
  refine ev_bipush (v := (59 : Int32)) dX12_init_442 (by decide) ?_
  refine ev_bipush (v := (101 : Int32)) dX12_init_444 (by decide) ?_
  refine ev_iastL (j := 59) he (by decide) (vpl _ _ (by decide)) dX12_init_446 ?_
  refine ev_dup dX12_init_447 (by rfl) ?_
  refine ev_bipush (v := (60 : Int32)) dX12_init_448 (by decide) ?_
  refine ev_bipush (v := (115 : Int32)) dX12_init_450 (by decide) ?_
  refine ev_iastL (j := 60) he (by decide) (vpl _ _ (by decide)) dX12_init_452 ?_
  refine ev_dup dX12_init_453 (by rfl) ?_
  refine ev_bipush (v := (61 : Int32)) dX12_init_454 (by decide) ?_
  refine ev_bipush (v := (116 : Int32)) dX12_init_456 (by decide) ?_
  refine ev_iastL (j := 61) he (by decide) (vpl _ _ (by decide)) dX12_init_458 ?_
  refine ev_dup dX12_init_459 (by rfl) ?_
  refine ev_bipush (v := (62 : Int32)) dX12_init_460 (by decide) ?_
  refine ev_bipush (v := (105 : Int32)) dX12_init_462 (by decide) ?_
  refine ev_iastL (j := 62) he (by decide) (vpl _ _ (by decide)) dX12_init_464 ?_
  refine ev_dup dX12_init_465 (by rfl) ?_
  refine ev_bipush (v := (63 : Int32)) dX12_init_466 (by decide) ?_
  refine ev_bipush (v := (111 : Int32)) dX12_init_468 (by decide) ?_
  refine ev_iastL (j := 63) he (by decide) (vpl _ _ (by decide)) dX12_init_470 ?_
  refine ev_dup dX12_init_471 (by rfl) ?_
  refine ev_bipush (v := (64 : Int32)) dX12_init_472 (by decide) ?_
  refine ev_bipush (v := (110 : Int32)) dX12_init_474 (by decide) ?_
  refine ev_iastL (j := 64) he (by decide) (vpl _ _ (by decide)) dX12_init_476 ?_
  refine ev_dup dX12_init_477 (by rfl) ?_
  refine ev_bipush (v := (65 : Int32)) dX12_init_478 (by decide) ?_
  refine ev_bipush (v := (32 : Int32)) dX12_init_480 (by decide) ?_
  refine ev_iastL (j := 65) he (by decide) (vpl _ _ (by decide)) dX12_init_482 ?_
  exact kk
def lit12_3 (b : Nat) (μ : Mem) : Mem := wr (wr (wr (wr (wr (wr (wr (wr (wr (wr (wr (wr (wr (wr (wr (wr (wr (wr (wr (wr (wr (wr (μ) b 66 (112 : Int32)) b 67 (108 : Int32)) b 68 (97 : Int32)) b 69 (99 : Int32)) b 70 (101 : Int32)) b 71 (32 : Int32)) b 72 (110 : Int32)) b 73 (101 : Int32)) b 74 (114 : Int32)) b 75 (118 : Int32)) b 76 (101 : Int32)) b 77 (32 : Int32)) b 78 (121 : Int32)) b 79 (101 : Int32)) b 80 (97 : Int32)) b 81 (114 : Int32)) b 82 (32 : Int32)) b 83 (99 : Int32)) b 84 (104 : Int32)) b 85 (105 : Int32)) b 86 (108 : Int32)) b 87 (100 : Int32)
set_option maxHeartbeats 4000000 in
set_option maxRecDepth 100000 in
theorem lit12_3_ok {own : String} {nL : Nat} {ret : Option FieldType} {ini : Bool} {d mc ms : Nat} {post : Option Int32 → List Shp → Mem → Prop} {loc : List (Option Value)} {sh : List Shp} {μ : Mem} {nc ns a b : Nat} (he : sh[b]? = some (.inl 132)) (kk : Ev own cX12_init nL ret ini d mc ms post 615 loc [.ref b, .ref a] sh (lit12_3 b μ) nc ns) : Ev own cX12_init nL ret ini d mc ms post 483 loc [.ref b, .ref a] sh μ nc ns := by
  refine ev_dup dX12_init_483 (by rfl) ?_
  refine ev_bipush (v := (66 : Int32)) dX12_init_484 (by decide) ?_
  refine ev_bipush (v := (112 : Int32)) dX12_init_486 (by decide) ?_
  refine ev_iastL (j := 66) he (by decide) (vpl _ _ (by decide)) dX12_init_488 ?_
  refine ev_dup dX12_init_489 (by rfl) ?_
  refine ev_bipush (v := (67 : Int32)) dX12_init_490 (by decide) ?_
  refine ev_bipush (v := (108 : Int32)) dX12_init_492 (by decide) ?_
  refine ev_iastL (j := 67) he (by decide) (vpl _ _ (by decide)) dX12_init_494 ?_
  refine ev_dup dX12_init_495 (by rfl) ?_
  refine ev_bipush (v := (68 : Int32)) dX12_init_496 (by decide) ?_
  refine ev_bipush (v := (97 : Int32)) dX12_init_498 (by decide) ?_
  refine ev_iastL (j := 68) he (by decide) (vpl _ _ (by decide)) dX12_init_500 ?_
  refine ev_dup dX12_init_501 (by rfl) ?_
  refine ev_bipush (v := (69 : Int32)) dX12_init_502 (by decide) ?_
  refine ev_bipush (v := (99 : Int32)) dX12_init_504 (by decide) ?_
  refine ev_iastL (j := 69) he (by decide) (vpl _ _ (by decide)) dX12_init_506 ?_
  refine ev_dup dX12_init_507 (by rfl) ?_
  refine ev_bipush (v := (70 : Int32)) dX12_init_508 (by decide) ?_
  refine ev_bipush (v := (101 : Int32)) dX12_init_510 (by decide) ?_
  refine ev_iastL (j := 70) he (by decide) (vpl _ _ (by decide)) dX12_init_512 ?_
  refine ev_dup dX12_init_513 (by rfl) ?_
  refine ev_bipush (v := (71 : Int32)) dX12_init_514 (by decide) ?_
  refine ev_bipush (v := (32 : Int32)) dX12_init_516 (by decide) ?_
  refine ev_iastL (j := 71) he (by decide) (vpl _ _ (by decide)) dX12_init_518 ?_
  refine ev_dup dX12_init_519 (by rfl) ?_
  refine ev_bipush (v := (72 : Int32)) dX12_init_520 (by decide) ?_
  refine ev_bipush (v := (110 : Int32)) dX12_init_522 (by decide) ?_
  refine ev_iastL (j := 72) he (by decide) (vpl _ _ (by decide)) dX12_init_524 ?_
  refine ev_dup dX12_init_525 (by rfl) ?_
  refine ev_bipush (v := (73 : Int32)) dX12_init_526 (by decide) ?_
  refine ev_bipush (v := (101 : Int32)) dX12_init_528 (by decide) ?_
  refine ev_iastL (j := 73) he (by decide) (vpl _ _ (by decide)) dX12_init_530 ?_
  refine ev_dup dX12_init_531 (by rfl) ?_
  refine ev_bipush (v := (74 : Int32)) dX12_init_532 (by decide) ?_
  refine ev_bipush (v := (114 : Int32)) dX12_init_534 (by decide) ?_
  refine ev_iastL (j := 74) he (by decide) (vpl _ _ (by decide)) dX12_init_536 ?_
  refine ev_dup dX12_init_537 (by rfl) ?_
  refine ev_bipush (v := (75 : Int32)) dX12_init_538 (by decide) ?_
  refine ev_bipush (v := (118 : Int32)) dX12_init_540 (by decide) ?_
  refine ev_iastL (j := 75) he (by decide) (vpl _ _ (by decide)) dX12_init_542 ?_
  refine ev_dup dX12_init_543 (by rfl) ?_
  refine ev_bipush (v := (76 : Int32)) dX12_init_544 (by decide) ?_
  refine ev_bipush (v := (101 : Int32)) dX12_init_546 (by decide) ?_
  refine ev_iastL (j := 76) he (by decide) (vpl _ _ (by decide)) dX12_init_548 ?_
  refine ev_dup dX12_init_549 (by rfl) ?_
  refine ev_bipush (v := (77 : Int32)) dX12_init_550 (by decide) ?_
  refine ev_bipush (v := (32 : Int32)) dX12_init_552 (by decide) ?_
  refine ev_iastL (j := 77) he (by decide) (vpl _ _ (by decide)) dX12_init_554 ?_
  refine ev_dup dX12_init_555 (by rfl) ?_
  refine ev_bipush (v := (78 : Int32)) dX12_init_556 (by decide) ?_
  refine ev_bipush (v := (121 : Int32)) dX12_init_558 (by decide) ?_
  refine ev_iastL (j := 78) he (by decide) (vpl _ _ (by decide)) dX12_init_560 ?_
  refine ev_dup dX12_init_561 (by rfl) ?_
  refine ev_bipush (v := (79 : Int32)) dX12_init_562 (by decide) ?_
  refine ev_bipush (v := (101 : Int32)) dX12_init_564 (by decide) ?_
  refine ev_iastL (j := 79) he (by decide) (vpl _ _ (by decide)) dX12_init_566 ?_
  refine ev_dup dX12_init_567 (by rfl) ?_
  refine ev_bipush (v := (80 : Int32)) dX12_init_568 (by decide) ?_
  refine ev_bipush (v := (97 : Int32)) dX12_init_570 (by decide) ?_
  refine ev_iastL (j := 80) he (by decide) (vpl _ _ (by decide)) dX12_init_572 ?_
  refine ev_dup dX12_init_573 (by rfl) ?_
  refine ev_bipush (v := (81 : Int32)) dX12_init_574 (by decide) ?_
  refine ev_bipush (v := (114 : Int32)) dX12_init_576 (by decide) ?_
  refine ev_iastL (j := 81) he (by decide) (vpl _ _ (by decide)) dX12_init_578 ?_
  refine ev_dup dX12_init_579 (by rfl) ?_
  refine ev_bipush (v := (82 : Int32)) dX12_init_580 (by decide) ?_
  refine ev_bipush (v := (32 : Int32)) dX12_init_582 (by decide) ?_
  refine ev_iastL (j := 82) he (by decide) (vpl _ _ (by decide)) dX12_init_584 ?_
  refine ev_dup dX12_init_585 (by rfl) ?_
  refine ev_bipush (v := (83 : Int32)) dX12_init_586 (by decide) ?_
  refine ev_bipush (v := (99 : Int32)) dX12_init_588 (by decide) ?_
  refine ev_iastL (j := 83) he (by decide) (vpl _ _ (by decide)) dX12_init_590 ?_
  refine ev_dup dX12_init_591 (by rfl) ?_
  refine ev_bipush (v := (84 : Int32)) dX12_init_592 (by decide) ?_
  refine ev_bipush (v := (104 : Int32)) dX12_init_594 (by decide) ?_
  refine ev_iastL (j := 84) he (by decide) (vpl _ _ (by decide)) dX12_init_596 ?_
  refine ev_dup dX12_init_597 (by rfl) ?_
  refine ev_bipush (v := (85 : Int32)) dX12_init_598 (by decide) ?_
  refine ev_bipush (v := (105 : Int32)) dX12_init_600 (by decide) ?_
  refine ev_iastL (j := 85) he (by decide) (vpl _ _ (by decide)) dX12_init_602 ?_
  refine ev_dup dX12_init_603 (by rfl) ?_
  refine ev_bipush (v := (86 : Int32)) dX12_init_604 (by decide) ?_
  refine ev_bipush (v := (108 : Int32)) dX12_init_606 (by decide) ?_
  refine ev_iastL (j := 86) he (by decide) (vpl _ _ (by decide)) dX12_init_608 ?_
  refine ev_dup dX12_init_609 (by rfl) ?_
  refine ev_bipush (v := (87 : Int32)) dX12_init_610 (by decide) ?_
  refine ev_bipush (v := (100 : Int32)) dX12_init_612 (by decide) ?_
  refine ev_iastL (j := 87) he (by decide) (vpl _ _ (by decide)) dX12_init_614 ?_
  exact kk
def lit12_4 (b : Nat) (μ : Mem) : Mem := wr (wr (wr (wr (wr (wr (wr (wr (wr (wr (wr (wr (wr (wr (wr (wr (wr (wr (wr (wr (wr (wr (μ) b 88 (114 : Int32)) b 89 (101 : Int32)) b 90 (110 : Int32)) b 91 (32 : Int32)) b 92 (103 : Int32)) b 93 (108 : Int32)) b 94 (97 : Int32)) b 95 (100 : Int32)) b 96 (32 : Int32)) b 97 (97 : Int32)) b 98 (115 : Int32)) b 99 (107 : Int32)) b 100 (32 : Int32)) b 101 (105 : Int32)) b 102 (110 : Int32)) b 103 (32 : Int32)) b 104 (119 : Int32)) b 105 (101 : Int32)) b 106 (100 : Int32)) b 107 (32 : Int32)) b 108 (99 : Int32)) b 109 (111 : Int32)
set_option maxHeartbeats 4000000 in
set_option maxRecDepth 100000 in
theorem lit12_4_ok {own : String} {nL : Nat} {ret : Option FieldType} {ini : Bool} {d mc ms : Nat} {post : Option Int32 → List Shp → Mem → Prop} {loc : List (Option Value)} {sh : List Shp} {μ : Mem} {nc ns a b : Nat} (he : sh[b]? = some (.inl 132)) (kk : Ev own cX12_init nL ret ini d mc ms post 747 loc [.ref b, .ref a] sh (lit12_4 b μ) nc ns) : Ev own cX12_init nL ret ini d mc ms post 615 loc [.ref b, .ref a] sh μ nc ns := by
  refine ev_dup dX12_init_615 (by rfl) ?_
  refine ev_bipush (v := (88 : Int32)) dX12_init_616 (by decide) ?_
  refine ev_bipush (v := (114 : Int32)) dX12_init_618 (by decide) ?_
  refine ev_iastL (j := 88) he (by decide) (vpl _ _ (by decide)) dX12_init_620 ?_
  refine ev_dup dX12_init_621 (by rfl) ?_
  refine ev_bipush (v := (89 : Int32)) dX12_init_622 (by decide) ?_
  refine ev_bipush (v := (101 : Int32)) dX12_init_624 (by decide) ?_
  refine ev_iastL (j := 89) he (by decide) (vpl _ _ (by decide)) dX12_init_626 ?_
  refine ev_dup dX12_init_627 (by rfl) ?_
  refine ev_bipush (v := (90 : Int32)) dX12_init_628 (by decide) ?_
  refine ev_bipush (v := (110 : Int32)) dX12_init_630 (by decide) ?_
  refine ev_iastL (j := 90) he (by decide) (vpl _ _ (by decide)) dX12_init_632 ?_
  refine ev_dup dX12_init_633 (by rfl) ?_
  refine ev_bipush (v := (91 : Int32)) dX12_init_634 (by decide) ?_
  refine ev_bipush (v := (32 : Int32)) dX12_init_636 (by decide) ?_
  refine ev_iastL (j := 91) he (by decide) (vpl _ _ (by decide)) dX12_init_638 ?_
  refine ev_dup dX12_init_639 (by rfl) ?_
  refine ev_bipush (v := (92 : Int32)) dX12_init_640 (by decide) ?_
  refine ev_bipush (v := (103 : Int32)) dX12_init_642 (by decide) ?_
  refine ev_iastL (j := 92) he (by decide) (vpl _ _ (by decide)) dX12_init_644 ?_
  refine ev_dup dX12_init_645 (by rfl) ?_
  refine ev_bipush (v := (93 : Int32)) dX12_init_646 (by decide) ?_
  refine ev_bipush (v := (108 : Int32)) dX12_init_648 (by decide) ?_
  refine ev_iastL (j := 93) he (by decide) (vpl _ _ (by decide)) dX12_init_650 ?_
  refine ev_dup dX12_init_651 (by rfl) ?_
  refine ev_bipush (v := (94 : Int32)) dX12_init_652 (by decide) ?_
  refine ev_bipush (v := (97 : Int32)) dX12_init_654 (by decide) ?_
  refine ev_iastL (j := 94) he (by decide) (vpl _ _ (by decide)) dX12_init_656 ?_
  refine ev_dup dX12_init_657 (by rfl) ?_
  refine ev_bipush (v := (95 : Int32)) dX12_init_658 (by decide) ?_
  refine ev_bipush (v := (100 : Int32)) dX12_init_660 (by decide) ?_
  refine ev_iastL (j := 95) he (by decide) (vpl _ _ (by decide)) dX12_init_662 ?_
  refine ev_dup dX12_init_663 (by rfl) ?_
  refine ev_bipush (v := (96 : Int32)) dX12_init_664 (by decide) ?_
  refine ev_bipush (v := (32 : Int32)) dX12_init_666 (by decide) ?_
  refine ev_iastL (j := 96) he (by decide) (vpl _ _ (by decide)) dX12_init_668 ?_
  refine ev_dup dX12_init_669 (by rfl) ?_
  refine ev_bipush (v := (97 : Int32)) dX12_init_670 (by decide) ?_
  refine ev_bipush (v := (97 : Int32)) dX12_init_672 (by decide) ?_
  refine ev_iastL (j := 97) he (by decide) (vpl _ _ (by decide)) dX12_init_674 ?_
  refine ev_dup dX12_init_675 (by rfl) ?_
  refine ev_bipush (v := (98 : Int32)) dX12_init_676 (by decide) ?_
  refine ev_bipush (v := (115 : Int32)) dX12_init_678 (by decide) ?_
  refine ev_iastL (j := 98) he (by decide) (vpl _ _ (by decide)) dX12_init_680 ?_
  refine ev_dup dX12_init_681 (by rfl) ?_
  refine ev_bipush (v := (99 : Int32)) dX12_init_682 (by decide) ?_
  refine ev_bipush (v := (107 : Int32)) dX12_init_684 (by decide) ?_
  refine ev_iastL (j := 99) he (by decide) (vpl _ _ (by decide)) dX12_init_686 ?_
  refine ev_dup dX12_init_687 (by rfl) ?_
  refine ev_bipush (v := (100 : Int32)) dX12_init_688 (by decide) ?_
  refine ev_bipush (v := (32 : Int32)) dX12_init_690 (by decide) ?_
  refine ev_iastL (j := 100) he (by decide) (vpl _ _ (by decide)) dX12_init_692 ?_
  refine ev_dup dX12_init_693 (by rfl) ?_
  refine ev_bipush (v := (101 : Int32)) dX12_init_694 (by decide) ?_
  refine ev_bipush (v := (105 : Int32)) dX12_init_696 (by decide) ?_
  refine ev_iastL (j := 101) he (by decide) (vpl _ _ (by decide)) dX12_init_698 ?_
  refine ev_dup dX12_init_699 (by rfl) ?_
  refine ev_bipush (v := (102 : Int32)) dX12_init_700 (by decide) ?_
  refine ev_bipush (v := (110 : Int32)) dX12_init_702 (by decide) ?_
  refine ev_iastL (j := 102) he (by decide) (vpl _ _ (by decide)) dX12_init_704 ?_
  refine ev_dup dX12_init_705 (by rfl) ?_
  refine ev_bipush (v := (103 : Int32)) dX12_init_706 (by decide) ?_
  refine ev_bipush (v := (32 : Int32)) dX12_init_708 (by decide) ?_
  refine ev_iastL (j := 103) he (by decide) (vpl _ _ (by decide)) dX12_init_710 ?_
  refine ev_dup dX12_init_711 (by rfl) ?_
  refine ev_bipush (v := (104 : Int32)) dX12_init_712 (by decide) ?_
  refine ev_bipush (v := (119 : Int32)) dX12_init_714 (by decide) ?_
  refine ev_iastL (j := 104) he (by decide) (vpl _ _ (by decide)) dX12_init_716 ?_
  refine ev_dup dX12_init_717 (by rfl) ?_
  refine ev_bipush (v := (105 : Int32)) dX12_init_718 (by decide) ?_
  refine ev_bipush (v := (101 : Int32)) dX12_init_720 (by decide) ?_
  refine ev_iastL (j := 105) he (by decide) (vpl _ _ (by decide)) dX12_init_722 ?_
  refine ev_dup dX12_init_723 (by rfl) ?_
  refine ev_bipush (v := (106 : Int32)) dX12_init_724 (by decide) ?_
  refine ev_bipush (v := (100 : Int32)) dX12_init_726 (by decide) ?_
  refine ev_iastL (j := 106) he (by decide) (vpl _ _ (by decide)) dX12_init_728 ?_
  refine ev_dup dX12_init_729 (by rfl) ?_
  refine ev_bipush (v := (107 : Int32)) dX12_init_730 (by decide) ?_
  refine ev_bipush (v := (32 : Int32)) dX12_init_732 (by decide) ?_
  refine ev_iastL (j := 107) he (by decide) (vpl _ _ (by decide)) dX12_init_734 ?_
  refine ev_dup dX12_init_735 (by rfl) ?_
  refine ev_bipush (v := (108 : Int32)) dX12_init_736 (by decide) ?_
  refine ev_bipush (v := (99 : Int32)) dX12_init_738 (by decide) ?_
  refine ev_iastL (j := 108) he (by decide) (vpl _ _ (by decide)) dX12_init_740 ?_
  refine ev_dup dX12_init_741 (by rfl) ?_
  refine ev_bipush (v := (109 : Int32)) dX12_init_742 (by decide) ?_
  refine ev_bipush (v := (111 : Int32)) dX12_init_744 (by decide) ?_
  refine ev_iastL (j := 109) he (by decide) (vpl _ _ (by decide)) dX12_init_746 ?_
  exact kk
def lit12_5 (b : Nat) (μ : Mem) : Mem := wr (wr (wr (wr (wr (wr (wr (wr (wr (wr (wr (wr (wr (wr (wr (wr (wr (wr (wr (wr (wr (wr (μ) b 110 (117 : Int32)) b 111 (103 : Int32)) b 112 (104 : Int32)) b 113 (32 : Int32)) b 114 (112 : Int32)) b 115 (97 : Int32)) b 116 (114 : Int32)) b 117 (116 : Int32)) b 118 (32 : Int32)) b 119 (119 : Int32)) b 120 (111 : Int32)) b 121 (109 : Int32)) b 122 (97 : Int32)) b 123 (110 : Int32)) b 124 (32 : Int32)) b 125 (115 : Int32)) b 126 (105 : Int32)) b 127 (115 : Int32)) b 128 (116 : Int32)) b 129 (101 : Int32)) b 130 (114 : Int32)) b 131 (32 : Int32)
set_option maxHeartbeats 4000000 in
set_option maxRecDepth 100000 in
theorem lit12_5_ok {own : String} {nL : Nat} {ret : Option FieldType} {ini : Bool} {d mc ms : Nat} {post : Option Int32 → List Shp → Mem → Prop} {loc : List (Option Value)} {sh : List Shp} {μ : Mem} {nc ns a b : Nat} (he : sh[b]? = some (.inl 132)) (kk : Ev own cX12_init nL ret ini d mc ms post 883 loc [.ref b, .ref a] sh (lit12_5 b μ) nc ns) : Ev own cX12_init nL ret ini d mc ms post 747 loc [.ref b, .ref a] sh μ nc ns := by
  refine ev_dup dX12_init_747 (by rfl) ?_
  refine ev_bipush (v := (110 : Int32)) dX12_init_748 (by decide) ?_
  refine ev_bipush (v := (117 : Int32)) dX12_init_750 (by decide) ?_
  refine ev_iastL (j := 110) he (by decide) (vpl _ _ (by decide)) dX12_init_752 ?_
  refine ev_dup dX12_init_753 (by rfl) ?_
  refine ev_bipush (v := (111 : Int32)) dX12_init_754 (by decide) ?_
  refine ev_bipush (v := (103 : Int32)) dX12_init_756 (by decide) ?_
  refine ev_iastL (j := 111) he (by decide) (vpl _ _ (by decide)) dX12_init_758 ?_
  refine ev_dup dX12_init_759 (by rfl) ?_
  refine ev_bipush (v := (112 : Int32)) dX12_init_760 (by decide) ?_
  refine ev_bipush (v := (104 : Int32)) dX12_init_762 (by decide) ?_
  refine ev_iastL (j := 112) he (by decide) (vpl _ _ (by decide)) dX12_init_764 ?_
  refine ev_dup dX12_init_765 (by rfl) ?_
  refine ev_bipush (v := (113 : Int32)) dX12_init_766 (by decide) ?_
  refine ev_bipush (v := (32 : Int32)) dX12_init_768 (by decide) ?_
  refine ev_iastL (j := 113) he (by decide) (vpl _ _ (by decide)) dX12_init_770 ?_
  refine ev_dup dX12_init_771 (by rfl) ?_
  refine ev_bipush (v := (114 : Int32)) dX12_init_772 (by decide) ?_
  refine ev_bipush (v := (112 : Int32)) dX12_init_774 (by decide) ?_
  refine ev_iastL (j := 114) he (by decide) (vpl _ _ (by decide)) dX12_init_776 ?_
  refine ev_dup dX12_init_777 (by rfl) ?_
  refine ev_bipush (v := (115 : Int32)) dX12_init_778 (by decide) ?_
  refine ev_bipush (v := (97 : Int32)) dX12_init_780 (by decide) ?_
  refine ev_iastL (j := 115) he (by decide) (vpl _ _ (by decide)) dX12_init_782 ?_
  refine ev_dup dX12_init_783 (by rfl) ?_
  refine ev_bipush (v := (116 : Int32)) dX12_init_784 (by decide) ?_
  refine ev_bipush (v := (114 : Int32)) dX12_init_786 (by decide) ?_
  refine ev_iastL (j := 116) he (by decide) (vpl _ _ (by decide)) dX12_init_788 ?_
  refine ev_dup dX12_init_789 (by rfl) ?_
  refine ev_bipush (v := (117 : Int32)) dX12_init_790 (by decide) ?_
  refine ev_bipush (v := (116 : Int32)) dX12_init_792 (by decide) ?_
  refine ev_iastL (j := 117) he (by decide) (vpl _ _ (by decide)) dX12_init_794 ?_
  refine ev_dup dX12_init_795 (by rfl) ?_
  refine ev_bipush (v := (118 : Int32)) dX12_init_796 (by decide) ?_
  refine ev_bipush (v := (32 : Int32)) dX12_init_798 (by decide) ?_
  refine ev_iastL (j := 118) he (by decide) (vpl _ _ (by decide)) dX12_init_800 ?_
  refine ev_dup dX12_init_801 (by rfl) ?_
  refine ev_bipush (v := (119 : Int32)) dX12_init_802 (by decide) ?_
  refine ev_bipush (v := (119 : Int32)) dX12_init_804 (by decide) ?_
  refine ev_iastL (j := 119) he (by decide) (vpl _ _ (by decide)) dX12_init_806 ?_
  refine ev_dup dX12_init_807 (by rfl) ?_
  refine ev_bipush (v := (120 : Int32)) dX12_init_808 (by decide) ?_
  refine ev_bipush (v := (111 : Int32)) dX12_init_810 (by decide) ?_
  refine ev_iastL (j := 120) he (by decide) (vpl _ _ (by decide)) dX12_init_812 ?_
  refine ev_dup dX12_init_813 (by rfl) ?_
  refine ev_bipush (v := (121 : Int32)) dX12_init_814 (by decide) ?_
  refine ev_bipush (v := (109 : Int32)) dX12_init_816 (by decide) ?_
  refine ev_iastL (j := 121) he (by decide) (vpl _ _ (by decide)) dX12_init_818 ?_
  refine ev_dup dX12_init_819 (by rfl) ?_
  refine ev_bipush (v := (122 : Int32)) dX12_init_820 (by decide) ?_
  refine ev_bipush (v := (97 : Int32)) dX12_init_822 (by decide) ?_
  refine ev_iastL (j := 122) he (by decide) (vpl _ _ (by decide)) dX12_init_824 ?_
  refine ev_dup dX12_init_825 (by rfl) ?_
  refine ev_bipush (v := (123 : Int32)) dX12_init_826 (by decide) ?_
  refine ev_bipush (v := (110 : Int32)) dX12_init_828 (by decide) ?_
  refine ev_iastL (j := 123) he (by decide) (vpl _ _ (by decide)) dX12_init_830 ?_
  refine ev_dup dX12_init_831 (by rfl) ?_
  refine ev_bipush (v := (124 : Int32)) dX12_init_832 (by decide) ?_
  refine ev_bipush (v := (32 : Int32)) dX12_init_834 (by decide) ?_
  refine ev_iastL (j := 124) he (by decide) (vpl _ _ (by decide)) dX12_init_836 ?_
  refine ev_dup dX12_init_837 (by rfl) ?_
  refine ev_bipush (v := (125 : Int32)) dX12_init_838 (by decide) ?_
  refine ev_bipush (v := (115 : Int32)) dX12_init_840 (by decide) ?_
  refine ev_iastL (j := 125) he (by decide) (vpl _ _ (by decide)) dX12_init_842 ?_
  refine ev_dup dX12_init_843 (by rfl) ?_
  refine ev_bipush (v := (126 : Int32)) dX12_init_844 (by decide) ?_
  refine ev_bipush (v := (105 : Int32)) dX12_init_846 (by decide) ?_
  refine ev_iastL (j := 126) he (by decide) (vpl _ _ (by decide)) dX12_init_848 ?_
  refine ev_dup dX12_init_849 (by rfl) ?_
  refine ev_bipush (v := (127 : Int32)) dX12_init_850 (by decide) ?_
  refine ev_bipush (v := (115 : Int32)) dX12_init_852 (by decide) ?_
  refine ev_iastL (j := 127) he (by decide) (vpl _ _ (by decide)) dX12_init_854 ?_
  refine ev_dup dX12_init_855 (by rfl) ?_
  refine ev_sipush (v := (128 : Int32)) dX12_init_856 (by decide) ?_
  refine ev_bipush (v := (116 : Int32)) dX12_init_859 (by decide) ?_
  refine ev_iastL (j := 128) he (by decide) (vpl _ _ (by decide)) dX12_init_861 ?_
  refine ev_dup dX12_init_862 (by rfl) ?_
  refine ev_sipush (v := (129 : Int32)) dX12_init_863 (by decide) ?_
  refine ev_bipush (v := (101 : Int32)) dX12_init_866 (by decide) ?_
  refine ev_iastL (j := 129) he (by decide) (vpl _ _ (by decide)) dX12_init_868 ?_
  refine ev_dup dX12_init_869 (by rfl) ?_
  refine ev_sipush (v := (130 : Int32)) dX12_init_870 (by decide) ?_
  refine ev_bipush (v := (114 : Int32)) dX12_init_873 (by decide) ?_
  refine ev_iastL (j := 130) he (by decide) (vpl _ _ (by decide)) dX12_init_875 ?_
  refine ev_dup dX12_init_876 (by rfl) ?_
  refine ev_sipush (v := (131 : Int32)) dX12_init_877 (by decide) ?_
  refine ev_bipush (v := (32 : Int32)) dX12_init_880 (by decide) ?_
  refine ev_iastL (j := 131) he (by decide) (vpl _ _ (by decide)) dX12_init_882 ?_
  exact kk
def m12_0 (a : Nat) (μ : Mem) : Mem := (zr (zr (zr (zr (zr μ (a + 1)) (a + 2)) (a + 3)) (a + 4)) (a + 5))
set_option maxHeartbeats 8000000 in
set_option maxRecDepth 100000 in
theorem g12_0 {nL : Nat} {ret : Option FieldType} {d : Nat} {post : Option Int32 → List Shp → Mem → Prop} {pre : List Shp} {a : Nat} {μ : Mem} (ha : pre.length = a) (hw : wfS (pre ++ [.inr (.inr (10, [none, some none, some none, none, some none, none, none, none, some none, some none, some none, some none, some none, some none, some none, none, none, none, none, none, some none, some none, some none, some none, some none, some none, some none, some none, none, none, none, some none, none, none, none, none, none, none, some none, none, some none, none, some none, some none, some none, some none, some none, none, some none, some none, some none, none, some none, some none, some none, none, some none, none, some none, some none, none, some none, some none, some none, none, some none, some none, some none, none, some none, some none, some none, none, none, none, some none]))])) (kk : wfS (pre ++ [.inr (.inr (10, [none, some (some (a + 1)), some (some (a + 2)), none, some (some (a + 3)), none, none, none, some (some (a + 4)), some (some (a + 5)), some none, some none, some none, some none, some none, none, none, none, none, none, some none, some none, some none, some none, some none, some none, some none, some none, none, none, none, some none, none, none, none, none, none, none, some none, none, some none, none, some none, some none, some none, some none, some none, none, some none, some none, some none, none, some none, some none, some none, none, some none, none, some none, some none, none, some none, some none, some none, none, some none, some none, some none, none, some none, some none, some none, none, none, none, some none])), .inl 49, .inl 294, .inl 49, .inl 12, .inl 12]) → Ev RX12 cX12_init nL ret true d 45 7954 post 45 [some (.ref a)] [] (pre ++ [.inr (.inr (10, [none, some (some (a + 1)), some (some (a + 2)), none, some (some (a + 3)), none, none, none, some (some (a + 4)), some (some (a + 5)), some none, some none, some none, some none, some none, none, none, none, none, none, some none, some none, some none, some none, some none, some none, some none, some none, none, none, none, some none, none, none, none, none, none, none, some none, none, some none, none, some none, some none, some none, some none, some none, none, some none, some none, some none, none, some none, some none, some none, none, some none, none, some none, some none, none, some none, some none, some none, none, some none, some none, some none, none, some none, some none, some none, none, none, none, some none])), .inl 49, .inl 294, .inl 49, .inl 12, .inl 12]) (m12_0 a μ) 5 416) : Ev RX12 cX12_init nL ret true d 45 7954 post 4 [some (.ref a)] [] (pre ++ [.inr (.inr (10, [none, some none, some none, none, some none, none, none, none, some none, some none, some none, some none, some none, some none, some none, none, none, none, none, none, some none, some none, some none, some none, some none, some none, some none, some none, none, none, none, some none, none, none, none, none, none, none, some none, none, some none, none, some none, some none, some none, some none, some none, none, some none, some none, some none, none, some none, some none, some none, none, some none, none, some none, some none, none, some none, some none, some none, none, some none, some none, some none, none, some none, some none, some none, none, none, none, some none]))]) μ 0 0 := by
  refine ev_aload_n dX12_init_4 rfl ?_
  refine ev_bipush (v := (49 : Int32)) dX12_init_5 (by decide) ?_
  refine ev_newaT (N := 49) (q := a + 1) (L' := [_, _]) dX12_init_7 (by decide) (by decide) (by decide) (by rw [ha]; rfl) rfl hw (okR_of (by simp only [okRl, List.length_cons, List.length_nil, and_true, Nat.lt_eq]; first | done | omega) (by simp only [okRs, List.length_cons, List.length_nil, and_true, Nat.lt_eq]; first | done | omega)) (Nat.le_of_ble_eq_true rfl) (Nat.le_of_ble_eq_true rfl) (fun hw => ?_)
  refine ev_putRT (L' := [_, _]) (k := 0) fr_X12_7 rfl rfl dX12_init_9 ha rfl rfl (fun _ => rfl) (fun _ => rfl) (by simp only [List.length_cons, List.length_nil]; omega) rfl hw (fun hw => ?_)
  refine ev_aload_n dX12_init_12 rfl ?_
  refine ev_sipush (v := (294 : Int32)) dX12_init_13 (by decide) ?_
  refine ev_newaT (N := 294) (q := a + 2) (L' := [_, _, _]) dX12_init_16 (by decide) (by decide) (by decide) (by rw [ha]; rfl) rfl hw (okR_of (by simp only [okRl, List.length_cons, List.length_nil, and_true, Nat.lt_eq]; first | done | omega) (by simp only [okRs, List.length_cons, List.length_nil, and_true, Nat.lt_eq]; first | done | omega)) (Nat.le_of_ble_eq_true rfl) (Nat.le_of_ble_eq_true rfl) (fun hw => ?_)
  refine ev_putRT (L' := [_, _, _]) (k := 0) fr_X12_13 rfl rfl dX12_init_18 ha rfl rfl (fun _ => rfl) (fun _ => rfl) (by simp only [List.length_cons, List.length_nil]; omega) rfl hw (fun hw => ?_)
  refine ev_aload_n dX12_init_21 rfl ?_
  refine ev_bipush (v := (49 : Int32)) dX12_init_22 (by decide) ?_
  refine ev_newaT (N := 49) (q := a + 3) (L' := [_, _, _, _]) dX12_init_24 (by decide) (by decide) (by decide) (by rw [ha]; rfl) rfl hw (okR_of (by simp only [okRl, List.length_cons, List.length_nil, and_true, Nat.lt_eq]; first | done | omega) (by simp only [okRs, List.length_cons, List.length_nil, and_true, Nat.lt_eq]; first | done | omega)) (Nat.le_of_ble_eq_true rfl) (Nat.le_of_ble_eq_true rfl) (fun hw => ?_)
  refine ev_putRT (L' := [_, _, _, _]) (k := 0) fr_X12_16 rfl rfl dX12_init_26 ha rfl rfl (fun _ => rfl) (fun _ => rfl) (by simp only [List.length_cons, List.length_nil]; omega) rfl hw (fun hw => ?_)
  refine ev_aload_n dX12_init_29 rfl ?_
  refine ev_bipush (v := (12 : Int32)) dX12_init_30 (by decide) ?_
  refine ev_newaT (N := 12) (q := a + 4) (L' := [_, _, _, _, _]) dX12_init_32 (by decide) (by decide) (by decide) (by rw [ha]; rfl) rfl hw (okR_of (by simp only [okRl, List.length_cons, List.length_nil, and_true, Nat.lt_eq]; first | done | omega) (by simp only [okRs, List.length_cons, List.length_nil, and_true, Nat.lt_eq]; first | done | omega)) (Nat.le_of_ble_eq_true rfl) (Nat.le_of_ble_eq_true rfl) (fun hw => ?_)
  refine ev_putRT (L' := [_, _, _, _, _]) (k := 0) fr_X12_19 rfl rfl dX12_init_34 ha rfl rfl (fun _ => rfl) (fun _ => rfl) (by simp only [List.length_cons, List.length_nil]; omega) rfl hw (fun hw => ?_)
  refine ev_aload_n dX12_init_37 rfl ?_
  refine ev_bipush (v := (12 : Int32)) dX12_init_38 (by decide) ?_
  refine ev_newaT (N := 12) (q := a + 5) (L' := [_, _, _, _, _, _]) dX12_init_40 (by decide) (by decide) (by decide) (by rw [ha]; rfl) rfl hw (okR_of (by simp only [okRl, List.length_cons, List.length_nil, and_true, Nat.lt_eq]; first | done | omega) (by simp only [okRs, List.length_cons, List.length_nil, and_true, Nat.lt_eq]; first | done | omega)) (Nat.le_of_ble_eq_true rfl) (Nat.le_of_ble_eq_true rfl) (fun hw => ?_)
  refine ev_putRT (L' := [_, _, _, _, _, _]) (k := 0) fr_X12_22 rfl rfl dX12_init_42 ha rfl rfl (fun _ => rfl) (fun _ => rfl) (by simp only [List.length_cons, List.length_nil]; omega) rfl hw (fun hw => ?_)
  exact kk hw
def m12_1 (a : Nat) (μ : Mem) : Mem := (zr (zr (zr (zr (zr μ (a + 6)) (a + 7)) (a + 8)) (a + 9)) (a + 10))
set_option maxHeartbeats 8000000 in
set_option maxRecDepth 100000 in
theorem g12_1 {nL : Nat} {ret : Option FieldType} {d : Nat} {post : Option Int32 → List Shp → Mem → Prop} {pre : List Shp} {a : Nat} {μ : Mem} (ha : pre.length = a) (hw : wfS (pre ++ [.inr (.inr (10, [none, some (some (a + 1)), some (some (a + 2)), none, some (some (a + 3)), none, none, none, some (some (a + 4)), some (some (a + 5)), some none, some none, some none, some none, some none, none, none, none, none, none, some none, some none, some none, some none, some none, some none, some none, some none, none, none, none, some none, none, none, none, none, none, none, some none, none, some none, none, some none, some none, some none, some none, some none, none, some none, some none, some none, none, some none, some none, some none, none, some none, none, some none, some none, none, some none, some none, some none, none, some none, some none, some none, none, some none, some none, some none, none, none, none, some none])), .inl 49, .inl 294, .inl 49, .inl 12, .inl 12])) (kk : wfS (pre ++ [.inr (.inr (10, [none, some (some (a + 1)), some (some (a + 2)), none, some (some (a + 3)), none, none, none, some (some (a + 4)), some (some (a + 5)), some (some (a + 6)), some (some (a + 7)), some (some (a + 8)), some (some (a + 9)), some (some (a + 10)), none, none, none, none, none, some none, some none, some none, some none, some none, some none, some none, some none, none, none, none, some none, none, none, none, none, none, none, some none, none, some none, none, some none, some none, some none, some none, some none, none, some none, some none, some none, none, some none, some none, some none, none, some none, none, some none, some none, none, some none, some none, some none, none, some none, some none, some none, none, some none, some none, some none, none, none, none, some none])), .inl 49, .inl 294, .inl 49, .inl 12, .inl 12, .inl 12, .inl 8, .inl 8, .inl 600, .inl 400]) → Ev RX12 cX12_init nL ret true d 45 7954 post 87 [some (.ref a)] [] (pre ++ [.inr (.inr (10, [none, some (some (a + 1)), some (some (a + 2)), none, some (some (a + 3)), none, none, none, some (some (a + 4)), some (some (a + 5)), some (some (a + 6)), some (some (a + 7)), some (some (a + 8)), some (some (a + 9)), some (some (a + 10)), none, none, none, none, none, some none, some none, some none, some none, some none, some none, some none, some none, none, none, none, some none, none, none, none, none, none, none, some none, none, some none, none, some none, some none, some none, some none, some none, none, some none, some none, some none, none, some none, some none, some none, none, some none, none, some none, some none, none, some none, some none, some none, none, some none, some none, some none, none, some none, some none, some none, none, none, none, some none])), .inl 49, .inl 294, .inl 49, .inl 12, .inl 12, .inl 12, .inl 8, .inl 8, .inl 600, .inl 400]) (m12_1 a μ) 10 1444) : Ev RX12 cX12_init nL ret true d 45 7954 post 45 [some (.ref a)] [] (pre ++ [.inr (.inr (10, [none, some (some (a + 1)), some (some (a + 2)), none, some (some (a + 3)), none, none, none, some (some (a + 4)), some (some (a + 5)), some none, some none, some none, some none, some none, none, none, none, none, none, some none, some none, some none, some none, some none, some none, some none, some none, none, none, none, some none, none, none, none, none, none, none, some none, none, some none, none, some none, some none, some none, some none, some none, none, some none, some none, some none, none, some none, some none, some none, none, some none, none, some none, some none, none, some none, some none, some none, none, some none, some none, some none, none, some none, some none, some none, none, none, none, some none])), .inl 49, .inl 294, .inl 49, .inl 12, .inl 12]) μ 5 416 := by
  refine ev_aload_n dX12_init_45 rfl ?_
  refine ev_bipush (v := (12 : Int32)) dX12_init_46 (by decide) ?_
  refine ev_newaT (N := 12) (q := a + 6) (L' := [_, _, _, _, _, _, _]) dX12_init_48 (by decide) (by decide) (by decide) (by rw [ha]; rfl) rfl hw (okR_of (by simp only [okRl, List.length_cons, List.length_nil, and_true, Nat.lt_eq]; first | done | omega) (by simp only [okRs, List.length_cons, List.length_nil, and_true, Nat.lt_eq]; first | done | omega)) (Nat.le_of_ble_eq_true rfl) (Nat.le_of_ble_eq_true rfl) (fun hw => ?_)
  refine ev_putRT (L' := [_, _, _, _, _, _, _]) (k := 0) fr_X12_25 rfl rfl dX12_init_50 ha rfl rfl (fun _ => rfl) (fun _ => rfl) (by simp only [List.length_cons, List.length_nil]; omega) rfl hw (fun hw => ?_)
  refine ev_aload_n dX12_init_53 rfl ?_
  refine ev_bipush (v := (8 : Int32)) dX12_init_54 (by decide) ?_
  refine ev_newaT (N := 8) (q := a + 7) (L' := [_, _, _, _, _, _, _, _]) dX12_init_56 (by decide) (by decide) (by decide) (by rw [ha]; rfl) rfl hw (okR_of (by simp only [okRl, List.length_cons, List.length_nil, and_true, Nat.lt_eq]; first | done | omega) (by simp only [okRs, List.length_cons, List.length_nil, and_true, Nat.lt_eq]; first | done | omega)) (Nat.le_of_ble_eq_true rfl) (Nat.le_of_ble_eq_true rfl) (fun hw => ?_)
  refine ev_putRT (L' := [_, _, _, _, _, _, _, _]) (k := 0) fr_X12_28 rfl rfl dX12_init_58 ha rfl rfl (fun _ => rfl) (fun _ => rfl) (by simp only [List.length_cons, List.length_nil]; omega) rfl hw (fun hw => ?_)
  refine ev_aload_n dX12_init_61 rfl ?_
  refine ev_bipush (v := (8 : Int32)) dX12_init_62 (by decide) ?_
  refine ev_newaT (N := 8) (q := a + 8) (L' := [_, _, _, _, _, _, _, _, _]) dX12_init_64 (by decide) (by decide) (by decide) (by rw [ha]; rfl) rfl hw (okR_of (by simp only [okRl, List.length_cons, List.length_nil, and_true, Nat.lt_eq]; first | done | omega) (by simp only [okRs, List.length_cons, List.length_nil, and_true, Nat.lt_eq]; first | done | omega)) (Nat.le_of_ble_eq_true rfl) (Nat.le_of_ble_eq_true rfl) (fun hw => ?_)
  refine ev_putRT (L' := [_, _, _, _, _, _, _, _, _]) (k := 0) fr_X12_31 rfl rfl dX12_init_66 ha rfl rfl (fun _ => rfl) (fun _ => rfl) (by simp only [List.length_cons, List.length_nil]; omega) rfl hw (fun hw => ?_)
  refine ev_aload_n dX12_init_69 rfl ?_
  refine ev_sipush (v := (600 : Int32)) dX12_init_70 (by decide) ?_
  refine ev_newaT (N := 600) (q := a + 9) (L' := [_, _, _, _, _, _, _, _, _, _]) dX12_init_73 (by decide) (by decide) (by decide) (by rw [ha]; rfl) rfl hw (okR_of (by simp only [okRl, List.length_cons, List.length_nil, and_true, Nat.lt_eq]; first | done | omega) (by simp only [okRs, List.length_cons, List.length_nil, and_true, Nat.lt_eq]; first | done | omega)) (Nat.le_of_ble_eq_true rfl) (Nat.le_of_ble_eq_true rfl) (fun hw => ?_)
  refine ev_putRT (L' := [_, _, _, _, _, _, _, _, _, _]) (k := 0) fr_X12_34 rfl rfl dX12_init_75 ha rfl rfl (fun _ => rfl) (fun _ => rfl) (by simp only [List.length_cons, List.length_nil]; omega) rfl hw (fun hw => ?_)
  refine ev_aload_n dX12_init_78 rfl ?_
  refine ev_sipush (v := (400 : Int32)) dX12_init_79 (by decide) ?_
  refine ev_newaT (N := 400) (q := a + 10) (L' := [_, _, _, _, _, _, _, _, _, _, _]) dX12_init_82 (by decide) (by decide) (by decide) (by rw [ha]; rfl) rfl hw (okR_of (by simp only [okRl, List.length_cons, List.length_nil, and_true, Nat.lt_eq]; first | done | omega) (by simp only [okRs, List.length_cons, List.length_nil, and_true, Nat.lt_eq]; first | done | omega)) (Nat.le_of_ble_eq_true rfl) (Nat.le_of_ble_eq_true rfl) (fun hw => ?_)
  refine ev_putRT (L' := [_, _, _, _, _, _, _, _, _, _, _]) (k := 0) fr_X12_37 rfl rfl dX12_init_84 ha rfl rfl (fun _ => rfl) (fun _ => rfl) (by simp only [List.length_cons, List.length_nil]; omega) rfl hw (fun hw => ?_)
  exact kk hw
def m12_2 (a : Nat) (μ : Mem) : Mem := (zr (zr (zr (zr (lit12_5 (a + 11) (lit12_4 (a + 11) (lit12_3 (a + 11) (lit12_2 (a + 11) (lit12_1 (a + 11) (lit12_0 (a + 11) (zr μ (a + 11)))))))) (a + 12)) (a + 13)) (a + 14)) (a + 15))
set_option maxHeartbeats 8000000 in
set_option maxRecDepth 100000 in
theorem g12_2 {nL : Nat} {ret : Option FieldType} {d : Nat} {post : Option Int32 → List Shp → Mem → Prop} {pre : List Shp} {a : Nat} {μ : Mem} (ha : pre.length = a) (hw : wfS (pre ++ [.inr (.inr (10, [none, some (some (a + 1)), some (some (a + 2)), none, some (some (a + 3)), none, none, none, some (some (a + 4)), some (some (a + 5)), some (some (a + 6)), some (some (a + 7)), some (some (a + 8)), some (some (a + 9)), some (some (a + 10)), none, none, none, none, none, some none, some none, some none, some none, some none, some none, some none, some none, none, none, none, some none, none, none, none, none, none, none, some none, none, some none, none, some none, some none, some none, some none, some none, none, some none, some none, some none, none, some none, some none, some none, none, some none, none, some none, some none, none, some none, some none, some none, none, some none, some none, some none, none, some none, some none, some none, none, none, none, some none])), .inl 49, .inl 294, .inl 49, .inl 12, .inl 12, .inl 12, .inl 8, .inl 8, .inl 600, .inl 400])) (kk : wfS (pre ++ [.inr (.inr (10, [none, some (some (a + 1)), some (some (a + 2)), none, some (some (a + 3)), none, none, none, some (some (a + 4)), some (some (a + 5)), some (some (a + 6)), some (some (a + 7)), some (some (a + 8)), some (some (a + 9)), some (some (a + 10)), none, none, none, none, none, some (some (a + 11)), some (some (a + 12)), some (some (a + 13)), some (some (a + 14)), some (some (a + 15)), some none, some none, some none, none, none, none, some none, none, none, none, none, none, none, some none, none, some none, none, some none, some none, some none, some none, some none, none, some none, some none, some none, none, some none, some none, some none, none, some none, none, some none, some none, none, some none, some none, some none, none, some none, some none, some none, none, some none, some none, some none, none, none, none, some none])), .inl 49, .inl 294, .inl 49, .inl 12, .inl 12, .inl 12, .inl 8, .inl 8, .inl 600, .inl 400, .inl 132, .inl 2, .inl 48, .inl 48, .inl 48]) → Ev RX12 cX12_init nL ret true d 45 7954 post 917 [some (.ref a)] [] (pre ++ [.inr (.inr (10, [none, some (some (a + 1)), some (some (a + 2)), none, some (some (a + 3)), none, none, none, some (some (a + 4)), some (some (a + 5)), some (some (a + 6)), some (some (a + 7)), some (some (a + 8)), some (some (a + 9)), some (some (a + 10)), none, none, none, none, none, some (some (a + 11)), some (some (a + 12)), some (some (a + 13)), some (some (a + 14)), some (some (a + 15)), some none, some none, some none, none, none, none, some none, none, none, none, none, none, none, some none, none, some none, none, some none, some none, some none, some none, some none, none, some none, some none, some none, none, some none, some none, some none, none, some none, none, some none, some none, none, some none, some none, some none, none, some none, some none, some none, none, some none, some none, some none, none, none, none, some none])), .inl 49, .inl 294, .inl 49, .inl 12, .inl 12, .inl 12, .inl 8, .inl 8, .inl 600, .inl 400, .inl 132, .inl 2, .inl 48, .inl 48, .inl 48]) (m12_2 a μ) 15 1722) : Ev RX12 cX12_init nL ret true d 45 7954 post 87 [some (.ref a)] [] (pre ++ [.inr (.inr (10, [none, some (some (a + 1)), some (some (a + 2)), none, some (some (a + 3)), none, none, none, some (some (a + 4)), some (some (a + 5)), some (some (a + 6)), some (some (a + 7)), some (some (a + 8)), some (some (a + 9)), some (some (a + 10)), none, none, none, none, none, some none, some none, some none, some none, some none, some none, some none, some none, none, none, none, some none, none, none, none, none, none, none, some none, none, some none, none, some none, some none, some none, some none, some none, none, some none, some none, some none, none, some none, some none, some none, none, some none, none, some none, some none, none, some none, some none, some none, none, some none, some none, some none, none, some none, some none, some none, none, none, none, some none])), .inl 49, .inl 294, .inl 49, .inl 12, .inl 12, .inl 12, .inl 8, .inl 8, .inl 600, .inl 400]) μ 10 1444 := by
  refine ev_aload_n dX12_init_87 rfl ?_
  refine ev_sipush (v := (132 : Int32)) dX12_init_88 (by decide) ?_
  refine ev_newaT (N := 132) (q := a + 11) (L' := [_, _, _, _, _, _, _, _, _, _, _, _]) dX12_init_91 (by decide) (by decide) (by decide) (by rw [ha]; rfl) rfl hw (okR_of (by simp only [okRl, List.length_cons, List.length_nil, and_true, Nat.lt_eq]; first | done | omega) (by simp only [okRs, List.length_cons, List.length_nil, and_true, Nat.lt_eq]; first | done | omega)) (Nat.le_of_ble_eq_true rfl) (Nat.le_of_ble_eq_true rfl) (fun hw => ?_)
  refine lit12_0_ok (tlg (k := 11) ha rfl) ?_
  refine lit12_1_ok (tlg (k := 11) ha rfl) ?_
  refine lit12_2_ok (tlg (k := 11) ha rfl) ?_
  refine lit12_3_ok (tlg (k := 11) ha rfl) ?_
  refine lit12_4_ok (tlg (k := 11) ha rfl) ?_
  refine lit12_5_ok (tlg (k := 11) ha rfl) ?_
  refine ev_putRT (L' := [_, _, _, _, _, _, _, _, _, _, _, _]) (k := 0) fr_X12_40 rfl rfl dX12_init_883 ha rfl rfl (fun _ => rfl) (fun _ => rfl) (by simp only [List.length_cons, List.length_nil]; omega) rfl hw (fun hw => ?_)
  refine ev_aload_n dX12_init_886 rfl ?_
  refine ev_iconst (v := (2 : Int32)) dX12_init_887 (by decide) ?_
  refine ev_newaT (N := 2) (q := a + 12) (L' := [_, _, _, _, _, _, _, _, _, _, _, _, _]) dX12_init_888 (by decide) (by decide) (by decide) (by rw [ha]; rfl) rfl hw (okR_of (by simp only [okRl, List.length_cons, List.length_nil, and_true, Nat.lt_eq]; first | done | omega) (by simp only [okRs, List.length_cons, List.length_nil, and_true, Nat.lt_eq]; first | done | omega)) (Nat.le_of_ble_eq_true rfl) (Nat.le_of_ble_eq_true rfl) (fun hw => ?_)
  refine ev_putRT (L' := [_, _, _, _, _, _, _, _, _, _, _, _, _]) (k := 0) fr_X12_43 rfl rfl dX12_init_890 ha rfl rfl (fun _ => rfl) (fun _ => rfl) (by simp only [List.length_cons, List.length_nil]; omega) rfl hw (fun hw => ?_)
  refine ev_aload_n dX12_init_893 rfl ?_
  refine ev_bipush (v := (48 : Int32)) dX12_init_894 (by decide) ?_
  refine ev_newaT (N := 48) (q := a + 13) (L' := [_, _, _, _, _, _, _, _, _, _, _, _, _, _]) dX12_init_896 (by decide) (by decide) (by decide) (by rw [ha]; rfl) rfl hw (okR_of (by simp only [okRl, List.length_cons, List.length_nil, and_true, Nat.lt_eq]; first | done | omega) (by simp only [okRs, List.length_cons, List.length_nil, and_true, Nat.lt_eq]; first | done | omega)) (Nat.le_of_ble_eq_true rfl) (Nat.le_of_ble_eq_true rfl) (fun hw => ?_)
  refine ev_putRT (L' := [_, _, _, _, _, _, _, _, _, _, _, _, _, _]) (k := 0) fr_X12_46 rfl rfl dX12_init_898 ha rfl rfl (fun _ => rfl) (fun _ => rfl) (by simp only [List.length_cons, List.length_nil]; omega) rfl hw (fun hw => ?_)
  refine ev_aload_n dX12_init_901 rfl ?_
  refine ev_bipush (v := (48 : Int32)) dX12_init_902 (by decide) ?_
  refine ev_newaT (N := 48) (q := a + 14) (L' := [_, _, _, _, _, _, _, _, _, _, _, _, _, _, _]) dX12_init_904 (by decide) (by decide) (by decide) (by rw [ha]; rfl) rfl hw (okR_of (by simp only [okRl, List.length_cons, List.length_nil, and_true, Nat.lt_eq]; first | done | omega) (by simp only [okRs, List.length_cons, List.length_nil, and_true, Nat.lt_eq]; first | done | omega)) (Nat.le_of_ble_eq_true rfl) (Nat.le_of_ble_eq_true rfl) (fun hw => ?_)
  refine ev_putRT (L' := [_, _, _, _, _, _, _, _, _, _, _, _, _, _, _]) (k := 0) fr_X12_49 rfl rfl dX12_init_906 ha rfl rfl (fun _ => rfl) (fun _ => rfl) (by simp only [List.length_cons, List.length_nil]; omega) rfl hw (fun hw => ?_)
  refine ev_aload_n dX12_init_909 rfl ?_
  refine ev_bipush (v := (48 : Int32)) dX12_init_910 (by decide) ?_
  refine ev_newaT (N := 48) (q := a + 15) (L' := [_, _, _, _, _, _, _, _, _, _, _, _, _, _, _, _]) dX12_init_912 (by decide) (by decide) (by decide) (by rw [ha]; rfl) rfl hw (okR_of (by simp only [okRl, List.length_cons, List.length_nil, and_true, Nat.lt_eq]; first | done | omega) (by simp only [okRs, List.length_cons, List.length_nil, and_true, Nat.lt_eq]; first | done | omega)) (Nat.le_of_ble_eq_true rfl) (Nat.le_of_ble_eq_true rfl) (fun hw => ?_)
  refine ev_putRT (L' := [_, _, _, _, _, _, _, _, _, _, _, _, _, _, _, _]) (k := 0) fr_X12_52 rfl rfl dX12_init_914 ha rfl rfl (fun _ => rfl) (fun _ => rfl) (by simp only [List.length_cons, List.length_nil]; omega) rfl hw (fun hw => ?_)
  exact kk hw
def m12_3 (a : Nat) (μ : Mem) : Mem := (wr (zr (zr (zr (zr μ (a + 16)) (a + 17)) (a + 18)) (a + 19)) a 36 (-1 : Int32))
set_option maxHeartbeats 8000000 in
set_option maxRecDepth 100000 in
theorem g12_3 {nL : Nat} {ret : Option FieldType} {d : Nat} {post : Option Int32 → List Shp → Mem → Prop} {pre : List Shp} {a : Nat} {μ : Mem} (ha : pre.length = a) (hw : wfS (pre ++ [.inr (.inr (10, [none, some (some (a + 1)), some (some (a + 2)), none, some (some (a + 3)), none, none, none, some (some (a + 4)), some (some (a + 5)), some (some (a + 6)), some (some (a + 7)), some (some (a + 8)), some (some (a + 9)), some (some (a + 10)), none, none, none, none, none, some (some (a + 11)), some (some (a + 12)), some (some (a + 13)), some (some (a + 14)), some (some (a + 15)), some none, some none, some none, none, none, none, some none, none, none, none, none, none, none, some none, none, some none, none, some none, some none, some none, some none, some none, none, some none, some none, some none, none, some none, some none, some none, none, some none, none, some none, some none, none, some none, some none, some none, none, some none, some none, some none, none, some none, some none, some none, none, none, none, some none])), .inl 49, .inl 294, .inl 49, .inl 12, .inl 12, .inl 12, .inl 8, .inl 8, .inl 600, .inl 400, .inl 132, .inl 2, .inl 48, .inl 48, .inl 48])) (kk : wfS (pre ++ [.inr (.inr (10, [none, some (some (a + 1)), some (some (a + 2)), none, some (some (a + 3)), none, none, none, some (some (a + 4)), some (some (a + 5)), some (some (a + 6)), some (some (a + 7)), some (some (a + 8)), some (some (a + 9)), some (some (a + 10)), none, none, none, none, none, some (some (a + 11)), some (some (a + 12)), some (some (a + 13)), some (some (a + 14)), some (some (a + 15)), some (some (a + 16)), some (some (a + 17)), some (some (a + 18)), none, none, none, some (some (a + 19)), none, none, none, none, none, none, some none, none, some none, none, some none, some none, some none, some none, some none, none, some none, some none, some none, none, some none, some none, some none, none, some none, none, some none, some none, none, some none, some none, some none, none, some none, some none, some none, none, some none, some none, some none, none, none, none, some none])), .inl 49, .inl 294, .inl 49, .inl 12, .inl 12, .inl 12, .inl 8, .inl 8, .inl 600, .inl 400, .inl 132, .inl 2, .inl 48, .inl 48, .inl 48, .inl 48, .inl 1200, .inl 1200, .inl 40]) → Ev RX12 cX12_init nL ret true d 45 7954 post 956 [some (.ref a)] [] (pre ++ [.inr (.inr (10, [none, some (some (a + 1)), some (some (a + 2)), none, some (some (a + 3)), none, none, none, some (some (a + 4)), some (some (a + 5)), some (some (a + 6)), some (some (a + 7)), some (some (a + 8)), some (some (a + 9)), some (some (a + 10)), none, none, none, none, none, some (some (a + 11)), some (some (a + 12)), some (some (a + 13)), some (some (a + 14)), some (some (a + 15)), some (some (a + 16)), some (some (a + 17)), some (some (a + 18)), none, none, none, some (some (a + 19)), none, none, none, none, none, none, some none, none, some none, none, some none, some none, some none, some none, some none, none, some none, some none, some none, none, some none, some none, some none, none, some none, none, some none, some none, none, some none, some none, some none, none, some none, some none, some none, none, some none, some none, some none, none, none, none, some none])), .inl 49, .inl 294, .inl 49, .inl 12, .inl 12, .inl 12, .inl 8, .inl 8, .inl 600, .inl 400, .inl 132, .inl 2, .inl 48, .inl 48, .inl 48, .inl 48, .inl 1200, .inl 1200, .inl 40]) (m12_3 a μ) 19 4210) : Ev RX12 cX12_init nL ret true d 45 7954 post 917 [some (.ref a)] [] (pre ++ [.inr (.inr (10, [none, some (some (a + 1)), some (some (a + 2)), none, some (some (a + 3)), none, none, none, some (some (a + 4)), some (some (a + 5)), some (some (a + 6)), some (some (a + 7)), some (some (a + 8)), some (some (a + 9)), some (some (a + 10)), none, none, none, none, none, some (some (a + 11)), some (some (a + 12)), some (some (a + 13)), some (some (a + 14)), some (some (a + 15)), some none, some none, some none, none, none, none, some none, none, none, none, none, none, none, some none, none, some none, none, some none, some none, some none, some none, some none, none, some none, some none, some none, none, some none, some none, some none, none, some none, none, some none, some none, none, some none, some none, some none, none, some none, some none, some none, none, some none, some none, some none, none, none, none, some none])), .inl 49, .inl 294, .inl 49, .inl 12, .inl 12, .inl 12, .inl 8, .inl 8, .inl 600, .inl 400, .inl 132, .inl 2, .inl 48, .inl 48, .inl 48]) μ 15 1722 := by
  refine ev_aload_n dX12_init_917 rfl ?_
  refine ev_bipush (v := (48 : Int32)) dX12_init_918 (by decide) ?_
  refine ev_newaT (N := 48) (q := a + 16) (L' := [_, _, _, _, _, _, _, _, _, _, _, _, _, _, _, _, _]) dX12_init_920 (by decide) (by decide) (by decide) (by rw [ha]; rfl) rfl hw (okR_of (by simp only [okRl, List.length_cons, List.length_nil, and_true, Nat.lt_eq]; first | done | omega) (by simp only [okRs, List.length_cons, List.length_nil, and_true, Nat.lt_eq]; first | done | omega)) (Nat.le_of_ble_eq_true rfl) (Nat.le_of_ble_eq_true rfl) (fun hw => ?_)
  refine ev_putRT (L' := [_, _, _, _, _, _, _, _, _, _, _, _, _, _, _, _, _]) (k := 0) fr_X12_55 rfl rfl dX12_init_922 ha rfl rfl (fun _ => rfl) (fun _ => rfl) (by simp only [List.length_cons, List.length_nil]; omega) rfl hw (fun hw => ?_)
  refine ev_aload_n dX12_init_925 rfl ?_
  refine ev_sipush (v := (1200 : Int32)) dX12_init_926 (by decide) ?_
  refine ev_newaT (N := 1200) (q := a + 17) (L' := [_, _, _, _, _, _, _, _, _, _, _, _, _, _, _, _, _, _]) dX12_init_929 (by decide) (by decide) (by decide) (by rw [ha]; rfl) rfl hw (okR_of (by simp only [okRl, List.length_cons, List.length_nil, and_true, Nat.lt_eq]; first | done | omega) (by simp only [okRs, List.length_cons, List.length_nil, and_true, Nat.lt_eq]; first | done | omega)) (Nat.le_of_ble_eq_true rfl) (Nat.le_of_ble_eq_true rfl) (fun hw => ?_)
  refine ev_putRT (L' := [_, _, _, _, _, _, _, _, _, _, _, _, _, _, _, _, _, _]) (k := 0) fr_X12_58 rfl rfl dX12_init_931 ha rfl rfl (fun _ => rfl) (fun _ => rfl) (by simp only [List.length_cons, List.length_nil]; omega) rfl hw (fun hw => ?_)
  refine ev_aload_n dX12_init_934 rfl ?_
  refine ev_sipush (v := (1200 : Int32)) dX12_init_935 (by decide) ?_
  refine ev_newaT (N := 1200) (q := a + 18) (L' := [_, _, _, _, _, _, _, _, _, _, _, _, _, _, _, _, _, _, _]) dX12_init_938 (by decide) (by decide) (by decide) (by rw [ha]; rfl) rfl hw (okR_of (by simp only [okRl, List.length_cons, List.length_nil, and_true, Nat.lt_eq]; first | done | omega) (by simp only [okRs, List.length_cons, List.length_nil, and_true, Nat.lt_eq]; first | done | omega)) (Nat.le_of_ble_eq_true rfl) (Nat.le_of_ble_eq_true rfl) (fun hw => ?_)
  refine ev_putRT (L' := [_, _, _, _, _, _, _, _, _, _, _, _, _, _, _, _, _, _, _]) (k := 0) fr_X12_61 rfl rfl dX12_init_940 ha rfl rfl (fun _ => rfl) (fun _ => rfl) (by simp only [List.length_cons, List.length_nil]; omega) rfl hw (fun hw => ?_)
  refine ev_aload_n dX12_init_943 rfl ?_
  refine ev_bipush (v := (40 : Int32)) dX12_init_944 (by decide) ?_
  refine ev_newaT (N := 40) (q := a + 19) (L' := [_, _, _, _, _, _, _, _, _, _, _, _, _, _, _, _, _, _, _, _]) dX12_init_946 (by decide) (by decide) (by decide) (by rw [ha]; rfl) rfl hw (okR_of (by simp only [okRl, List.length_cons, List.length_nil, and_true, Nat.lt_eq]; first | done | omega) (by simp only [okRs, List.length_cons, List.length_nil, and_true, Nat.lt_eq]; first | done | omega)) (Nat.le_of_ble_eq_true rfl) (Nat.le_of_ble_eq_true rfl) (fun hw => ?_)
  refine ev_putRT (L' := [_, _, _, _, _, _, _, _, _, _, _, _, _, _, _, _, _, _, _, _]) (k := 0) fr_X12_64 rfl rfl dX12_init_948 ha rfl rfl (fun _ => rfl) (fun _ => rfl) (by simp only [List.length_cons, List.length_nil]; omega) rfl hw (fun hw => ?_)
  refine ev_aload_n dX12_init_951 rfl ?_
  refine ev_iconst (v := (-1 : Int32)) dX12_init_952 (by decide) ?_
  refine ev_putI fr_X12_67 (tlg (k := 0) ha rfl) rfl rfl rfl dX12_init_953 ?_
  exact kk hw
def m12_4 (a : Nat) (μ : Mem) : Mem := (zr (zr (zr (zr (zr μ (a + 20)) (a + 21)) (a + 22)) (a + 23)) (a + 24))
set_option maxHeartbeats 8000000 in
set_option maxRecDepth 100000 in
theorem g12_4 {nL : Nat} {ret : Option FieldType} {d : Nat} {post : Option Int32 → List Shp → Mem → Prop} {pre : List Shp} {a : Nat} {μ : Mem} (ha : pre.length = a) (hw : wfS (pre ++ [.inr (.inr (10, [none, some (some (a + 1)), some (some (a + 2)), none, some (some (a + 3)), none, none, none, some (some (a + 4)), some (some (a + 5)), some (some (a + 6)), some (some (a + 7)), some (some (a + 8)), some (some (a + 9)), some (some (a + 10)), none, none, none, none, none, some (some (a + 11)), some (some (a + 12)), some (some (a + 13)), some (some (a + 14)), some (some (a + 15)), some (some (a + 16)), some (some (a + 17)), some (some (a + 18)), none, none, none, some (some (a + 19)), none, none, none, none, none, none, some none, none, some none, none, some none, some none, some none, some none, some none, none, some none, some none, some none, none, some none, some none, some none, none, some none, none, some none, some none, none, some none, some none, some none, none, some none, some none, some none, none, some none, some none, some none, none, none, none, some none])), .inl 49, .inl 294, .inl 49, .inl 12, .inl 12, .inl 12, .inl 8, .inl 8, .inl 600, .inl 400, .inl 132, .inl 2, .inl 48, .inl 48, .inl 48, .inl 48, .inl 1200, .inl 1200, .inl 40])) (kk : wfS (pre ++ [.inr (.inr (10, [none, some (some (a + 1)), some (some (a + 2)), none, some (some (a + 3)), none, none, none, some (some (a + 4)), some (some (a + 5)), some (some (a + 6)), some (some (a + 7)), some (some (a + 8)), some (some (a + 9)), some (some (a + 10)), none, none, none, none, none, some (some (a + 11)), some (some (a + 12)), some (some (a + 13)), some (some (a + 14)), some (some (a + 15)), some (some (a + 16)), some (some (a + 17)), some (some (a + 18)), none, none, none, some (some (a + 19)), none, none, none, none, none, none, some (some (a + 20)), none, some (some (a + 21)), none, some (some (a + 22)), some (some (a + 23)), some (some (a + 24)), some none, some none, none, some none, some none, some none, none, some none, some none, some none, none, some none, none, some none, some none, none, some none, some none, some none, none, some none, some none, some none, none, some none, some none, some none, none, none, none, some none])), .inl 49, .inl 294, .inl 49, .inl 12, .inl 12, .inl 12, .inl 8, .inl 8, .inl 600, .inl 400, .inl 132, .inl 2, .inl 48, .inl 48, .inl 48, .inl 48, .inl 1200, .inl 1200, .inl 40, .inl 32, .inl 192, .inl 24, .inl 11, .inl 420]) → Ev RX12 cX12_init nL ret true d 45 7954 post 998 [some (.ref a)] [] (pre ++ [.inr (.inr (10, [none, some (some (a + 1)), some (some (a + 2)), none, some (some (a + 3)), none, none, none, some (some (a + 4)), some (some (a + 5)), some (some (a + 6)), some (some (a + 7)), some (some (a + 8)), some (some (a + 9)), some (some (a + 10)), none, none, none, none, none, some (some (a + 11)), some (some (a + 12)), some (some (a + 13)), some (some (a + 14)), some (some (a + 15)), some (some (a + 16)), some (some (a + 17)), some (some (a + 18)), none, none, none, some (some (a + 19)), none, none, none, none, none, none, some (some (a + 20)), none, some (some (a + 21)), none, some (some (a + 22)), some (some (a + 23)), some (some (a + 24)), some none, some none, none, some none, some none, some none, none, some none, some none, some none, none, some none, none, some none, some none, none, some none, some none, some none, none, some none, some none, some none, none, some none, some none, some none, none, none, none, some none])), .inl 49, .inl 294, .inl 49, .inl 12, .inl 12, .inl 12, .inl 8, .inl 8, .inl 600, .inl 400, .inl 132, .inl 2, .inl 48, .inl 48, .inl 48, .inl 48, .inl 1200, .inl 1200, .inl 40, .inl 32, .inl 192, .inl 24, .inl 11, .inl 420]) (m12_4 a μ) 24 4889) : Ev RX12 cX12_init nL ret true d 45 7954 post 956 [some (.ref a)] [] (pre ++ [.inr (.inr (10, [none, some (some (a + 1)), some (some (a + 2)), none, some (some (a + 3)), none, none, none, some (some (a + 4)), some (some (a + 5)), some (some (a + 6)), some (some (a + 7)), some (some (a + 8)), some (some (a + 9)), some (some (a + 10)), none, none, none, none, none, some (some (a + 11)), some (some (a + 12)), some (some (a + 13)), some (some (a + 14)), some (some (a + 15)), some (some (a + 16)), some (some (a + 17)), some (some (a + 18)), none, none, none, some (some (a + 19)), none, none, none, none, none, none, some none, none, some none, none, some none, some none, some none, some none, some none, none, some none, some none, some none, none, some none, some none, some none, none, some none, none, some none, some none, none, some none, some none, some none, none, some none, some none, some none, none, some none, some none, some none, none, none, none, some none])), .inl 49, .inl 294, .inl 49, .inl 12, .inl 12, .inl 12, .inl 8, .inl 8, .inl 600, .inl 400, .inl 132, .inl 2, .inl 48, .inl 48, .inl 48, .inl 48, .inl 1200, .inl 1200, .inl 40]) μ 19 4210 := by
  refine ev_aload_n dX12_init_956 rfl ?_
  refine ev_bipush (v := (32 : Int32)) dX12_init_957 (by decide) ?_
  refine ev_newaT (N := 32) (q := a + 20) (L' := [_, _, _, _, _, _, _, _, _, _, _, _, _, _, _, _, _, _, _, _, _]) dX12_init_959 (by decide) (by decide) (by decide) (by rw [ha]; rfl) rfl hw (okR_of (by simp only [okRl, List.length_cons, List.length_nil, and_true, Nat.lt_eq]; first | done | omega) (by simp only [okRs, List.length_cons, List.length_nil, and_true, Nat.lt_eq]; first | done | omega)) (Nat.le_of_ble_eq_true rfl) (Nat.le_of_ble_eq_true rfl) (fun hw => ?_)
  refine ev_putRT (L' := [_, _, _, _, _, _, _, _, _, _, _, _, _, _, _, _, _, _, _, _, _]) (k := 0) fr_X12_71 rfl rfl dX12_init_961 ha rfl rfl (fun _ => rfl) (fun _ => rfl) (by simp only [List.length_cons, List.length_nil]; omega) rfl hw (fun hw => ?_)
  refine ev_aload_n dX12_init_964 rfl ?_
  refine ev_sipush (v := (192 : Int32)) dX12_init_965 (by decide) ?_
  refine ev_newaT (N := 192) (q := a + 21) (L' := [_, _, _, _, _, _, _, _, _, _, _, _, _, _, _, _, _, _, _, _, _, _]) dX12_init_968 (by decide) (by decide) (by decide) (by rw [ha]; rfl) rfl hw (okR_of (by simp only [okRl, List.length_cons, List.length_nil, and_true, Nat.lt_eq]; first | done | omega) (by simp only [okRs, List.length_cons, List.length_nil, and_true, Nat.lt_eq]; first | done | omega)) (Nat.le_of_ble_eq_true rfl) (Nat.le_of_ble_eq_true rfl) (fun hw => ?_)
  refine ev_putRT (L' := [_, _, _, _, _, _, _, _, _, _, _, _, _, _, _, _, _, _, _, _, _, _]) (k := 0) fr_X12_74 rfl rfl dX12_init_970 ha rfl rfl (fun _ => rfl) (fun _ => rfl) (by simp only [List.length_cons, List.length_nil]; omega) rfl hw (fun hw => ?_)
  refine ev_aload_n dX12_init_973 rfl ?_
  refine ev_bipush (v := (24 : Int32)) dX12_init_974 (by decide) ?_
  refine ev_newaT (N := 24) (q := a + 22) (L' := [_, _, _, _, _, _, _, _, _, _, _, _, _, _, _, _, _, _, _, _, _, _, _]) dX12_init_976 (by decide) (by decide) (by decide) (by rw [ha]; rfl) rfl hw (okR_of (by simp only [okRl, List.length_cons, List.length_nil, and_true, Nat.lt_eq]; first | done | omega) (by simp only [okRs, List.length_cons, List.length_nil, and_true, Nat.lt_eq]; first | done | omega)) (Nat.le_of_ble_eq_true rfl) (Nat.le_of_ble_eq_true rfl) (fun hw => ?_)
  refine ev_putRT (L' := [_, _, _, _, _, _, _, _, _, _, _, _, _, _, _, _, _, _, _, _, _, _, _]) (k := 0) fr_X12_77 rfl rfl dX12_init_978 ha rfl rfl (fun _ => rfl) (fun _ => rfl) (by simp only [List.length_cons, List.length_nil]; omega) rfl hw (fun hw => ?_)
  refine ev_aload_n dX12_init_981 rfl ?_
  refine ev_bipush (v := (11 : Int32)) dX12_init_982 (by decide) ?_
  refine ev_newaT (N := 11) (q := a + 23) (L' := [_, _, _, _, _, _, _, _, _, _, _, _, _, _, _, _, _, _, _, _, _, _, _, _]) dX12_init_984 (by decide) (by decide) (by decide) (by rw [ha]; rfl) rfl hw (okR_of (by simp only [okRl, List.length_cons, List.length_nil, and_true, Nat.lt_eq]; first | done | omega) (by simp only [okRs, List.length_cons, List.length_nil, and_true, Nat.lt_eq]; first | done | omega)) (Nat.le_of_ble_eq_true rfl) (Nat.le_of_ble_eq_true rfl) (fun hw => ?_)
  refine ev_putRT (L' := [_, _, _, _, _, _, _, _, _, _, _, _, _, _, _, _, _, _, _, _, _, _, _, _]) (k := 0) fr_X12_80 rfl rfl dX12_init_986 ha rfl rfl (fun _ => rfl) (fun _ => rfl) (by simp only [List.length_cons, List.length_nil]; omega) rfl hw (fun hw => ?_)
  refine ev_aload_n dX12_init_989 rfl ?_
  refine ev_sipush (v := (420 : Int32)) dX12_init_990 (by decide) ?_
  refine ev_newaT (N := 420) (q := a + 24) (L' := [_, _, _, _, _, _, _, _, _, _, _, _, _, _, _, _, _, _, _, _, _, _, _, _, _]) dX12_init_993 (by decide) (by decide) (by decide) (by rw [ha]; rfl) rfl hw (okR_of (by simp only [okRl, List.length_cons, List.length_nil, and_true, Nat.lt_eq]; first | done | omega) (by simp only [okRs, List.length_cons, List.length_nil, and_true, Nat.lt_eq]; first | done | omega)) (Nat.le_of_ble_eq_true rfl) (Nat.le_of_ble_eq_true rfl) (fun hw => ?_)
  refine ev_putRT (L' := [_, _, _, _, _, _, _, _, _, _, _, _, _, _, _, _, _, _, _, _, _, _, _, _, _]) (k := 0) fr_X12_83 rfl rfl dX12_init_995 ha rfl rfl (fun _ => rfl) (fun _ => rfl) (by simp only [List.length_cons, List.length_nil]; omega) rfl hw (fun hw => ?_)
  exact kk hw
def m12_5 (a : Nat) (μ : Mem) : Mem := (zr (zr (zr (zr (zr μ (a + 25)) (a + 26)) (a + 27)) (a + 28)) (a + 29))
set_option maxHeartbeats 8000000 in
set_option maxRecDepth 100000 in
theorem g12_5 {nL : Nat} {ret : Option FieldType} {d : Nat} {post : Option Int32 → List Shp → Mem → Prop} {pre : List Shp} {a : Nat} {μ : Mem} (ha : pre.length = a) (hw : wfS (pre ++ [.inr (.inr (10, [none, some (some (a + 1)), some (some (a + 2)), none, some (some (a + 3)), none, none, none, some (some (a + 4)), some (some (a + 5)), some (some (a + 6)), some (some (a + 7)), some (some (a + 8)), some (some (a + 9)), some (some (a + 10)), none, none, none, none, none, some (some (a + 11)), some (some (a + 12)), some (some (a + 13)), some (some (a + 14)), some (some (a + 15)), some (some (a + 16)), some (some (a + 17)), some (some (a + 18)), none, none, none, some (some (a + 19)), none, none, none, none, none, none, some (some (a + 20)), none, some (some (a + 21)), none, some (some (a + 22)), some (some (a + 23)), some (some (a + 24)), some none, some none, none, some none, some none, some none, none, some none, some none, some none, none, some none, none, some none, some none, none, some none, some none, some none, none, some none, some none, some none, none, some none, some none, some none, none, none, none, some none])), .inl 49, .inl 294, .inl 49, .inl 12, .inl 12, .inl 12, .inl 8, .inl 8, .inl 600, .inl 400, .inl 132, .inl 2, .inl 48, .inl 48, .inl 48, .inl 48, .inl 1200, .inl 1200, .inl 40, .inl 32, .inl 192, .inl 24, .inl 11, .inl 420])) (kk : wfS (pre ++ [.inr (.inr (10, [none, some (some (a + 1)), some (some (a + 2)), none, some (some (a + 3)), none, none, none, some (some (a + 4)), some (some (a + 5)), some (some (a + 6)), some (some (a + 7)), some (some (a + 8)), some (some (a + 9)), some (some (a + 10)), none, none, none, none, none, some (some (a + 11)), some (some (a + 12)), some (some (a + 13)), some (some (a + 14)), some (some (a + 15)), some (some (a + 16)), some (some (a + 17)), some (some (a + 18)), none, none, none, some (some (a + 19)), none, none, none, none, none, none, some (some (a + 20)), none, some (some (a + 21)), none, some (some (a + 22)), some (some (a + 23)), some (some (a + 24)), some (some (a + 25)), some (some (a + 26)), none, some (some (a + 27)), some (some (a + 28)), some (some (a + 29)), none, some none, some none, some none, none, some none, none, some none, some none, none, some none, some none, some none, none, some none, some none, some none, none, some none, some none, some none, none, none, none, some none])), .inl 49, .inl 294, .inl 49, .inl 12, .inl 12, .inl 12, .inl 8, .inl 8, .inl 600, .inl 400, .inl 132, .inl 2, .inl 48, .inl 48, .inl 48, .inl 48, .inl 1200, .inl 1200, .inl 40, .inl 32, .inl 192, .inl 24, .inl 11, .inl 420, .inl 3, .inl 3, .inl 10, .inl 10, .inl 10]) → Ev RX12 cX12_init nL ret true d 45 7954 post 1036 [some (.ref a)] [] (pre ++ [.inr (.inr (10, [none, some (some (a + 1)), some (some (a + 2)), none, some (some (a + 3)), none, none, none, some (some (a + 4)), some (some (a + 5)), some (some (a + 6)), some (some (a + 7)), some (some (a + 8)), some (some (a + 9)), some (some (a + 10)), none, none, none, none, none, some (some (a + 11)), some (some (a + 12)), some (some (a + 13)), some (some (a + 14)), some (some (a + 15)), some (some (a + 16)), some (some (a + 17)), some (some (a + 18)), none, none, none, some (some (a + 19)), none, none, none, none, none, none, some (some (a + 20)), none, some (some (a + 21)), none, some (some (a + 22)), some (some (a + 23)), some (some (a + 24)), some (some (a + 25)), some (some (a + 26)), none, some (some (a + 27)), some (some (a + 28)), some (some (a + 29)), none, some none, some none, some none, none, some none, none, some none, some none, none, some none, some none, some none, none, some none, some none, some none, none, some none, some none, some none, none, none, none, some none])), .inl 49, .inl 294, .inl 49, .inl 12, .inl 12, .inl 12, .inl 8, .inl 8, .inl 600, .inl 400, .inl 132, .inl 2, .inl 48, .inl 48, .inl 48, .inl 48, .inl 1200, .inl 1200, .inl 40, .inl 32, .inl 192, .inl 24, .inl 11, .inl 420, .inl 3, .inl 3, .inl 10, .inl 10, .inl 10]) (m12_5 a μ) 29 4925) : Ev RX12 cX12_init nL ret true d 45 7954 post 998 [some (.ref a)] [] (pre ++ [.inr (.inr (10, [none, some (some (a + 1)), some (some (a + 2)), none, some (some (a + 3)), none, none, none, some (some (a + 4)), some (some (a + 5)), some (some (a + 6)), some (some (a + 7)), some (some (a + 8)), some (some (a + 9)), some (some (a + 10)), none, none, none, none, none, some (some (a + 11)), some (some (a + 12)), some (some (a + 13)), some (some (a + 14)), some (some (a + 15)), some (some (a + 16)), some (some (a + 17)), some (some (a + 18)), none, none, none, some (some (a + 19)), none, none, none, none, none, none, some (some (a + 20)), none, some (some (a + 21)), none, some (some (a + 22)), some (some (a + 23)), some (some (a + 24)), some none, some none, none, some none, some none, some none, none, some none, some none, some none, none, some none, none, some none, some none, none, some none, some none, some none, none, some none, some none, some none, none, some none, some none, some none, none, none, none, some none])), .inl 49, .inl 294, .inl 49, .inl 12, .inl 12, .inl 12, .inl 8, .inl 8, .inl 600, .inl 400, .inl 132, .inl 2, .inl 48, .inl 48, .inl 48, .inl 48, .inl 1200, .inl 1200, .inl 40, .inl 32, .inl 192, .inl 24, .inl 11, .inl 420]) μ 24 4889 := by
  refine ev_aload_n dX12_init_998 rfl ?_
  refine ev_iconst (v := (3 : Int32)) dX12_init_999 (by decide) ?_
  refine ev_newaT (N := 3) (q := a + 25) (L' := [_, _, _, _, _, _, _, _, _, _, _, _, _, _, _, _, _, _, _, _, _, _, _, _, _, _]) dX12_init_1000 (by decide) (by decide) (by decide) (by rw [ha]; rfl) rfl hw (okR_of (by simp only [okRl, List.length_cons, List.length_nil, and_true, Nat.lt_eq]; first | done | omega) (by simp only [okRs, List.length_cons, List.length_nil, and_true, Nat.lt_eq]; first | done | omega)) (Nat.le_of_ble_eq_true rfl) (Nat.le_of_ble_eq_true rfl) (fun hw => ?_)
  refine ev_putRT (L' := [_, _, _, _, _, _, _, _, _, _, _, _, _, _, _, _, _, _, _, _, _, _, _, _, _, _]) (k := 0) fr_X12_86 rfl rfl dX12_init_1002 ha rfl rfl (fun _ => rfl) (fun _ => rfl) (by simp only [List.length_cons, List.length_nil]; omega) rfl hw (fun hw => ?_)
  refine ev_aload_n dX12_init_1005 rfl ?_
  refine ev_iconst (v := (3 : Int32)) dX12_init_1006 (by decide) ?_
  refine ev_newaT (N := 3) (q := a + 26) (L' := [_, _, _, _, _, _, _, _, _, _, _, _, _, _, _, _, _, _, _, _, _, _, _, _, _, _, _]) dX12_init_1007 (by decide) (by decide) (by decide) (by rw [ha]; rfl) rfl hw (okR_of (by simp only [okRl, List.length_cons, List.length_nil, and_true, Nat.lt_eq]; first | done | omega) (by simp only [okRs, List.length_cons, List.length_nil, and_true, Nat.lt_eq]; first | done | omega)) (Nat.le_of_ble_eq_true rfl) (Nat.le_of_ble_eq_true rfl) (fun hw => ?_)
  refine ev_putRT (L' := [_, _, _, _, _, _, _, _, _, _, _, _, _, _, _, _, _, _, _, _, _, _, _, _, _, _, _]) (k := 0) fr_X12_89 rfl rfl dX12_init_1009 ha rfl rfl (fun _ => rfl) (fun _ => rfl) (by simp only [List.length_cons, List.length_nil]; omega) rfl hw (fun hw => ?_)
  refine ev_aload_n dX12_init_1012 rfl ?_
  refine ev_bipush (v := (10 : Int32)) dX12_init_1013 (by decide) ?_
  refine ev_newaT (N := 10) (q := a + 27) (L' := [_, _, _, _, _, _, _, _, _, _, _, _, _, _, _, _, _, _, _, _, _, _, _, _, _, _, _, _]) dX12_init_1015 (by decide) (by decide) (by decide) (by rw [ha]; rfl) rfl hw (okR_of (by simp only [okRl, List.length_cons, List.length_nil, and_true, Nat.lt_eq]; first | done | omega) (by simp only [okRs, List.length_cons, List.length_nil, and_true, Nat.lt_eq]; first | done | omega)) (Nat.le_of_ble_eq_true rfl) (Nat.le_of_ble_eq_true rfl) (fun hw => ?_)
  refine ev_putRT (L' := [_, _, _, _, _, _, _, _, _, _, _, _, _, _, _, _, _, _, _, _, _, _, _, _, _, _, _, _]) (k := 0) fr_X12_92 rfl rfl dX12_init_1017 ha rfl rfl (fun _ => rfl) (fun _ => rfl) (by simp only [List.length_cons, List.length_nil]; omega) rfl hw (fun hw => ?_)
  refine ev_aload_n dX12_init_1020 rfl ?_
  refine ev_bipush (v := (10 : Int32)) dX12_init_1021 (by decide) ?_
  refine ev_newaT (N := 10) (q := a + 28) (L' := [_, _, _, _, _, _, _, _, _, _, _, _, _, _, _, _, _, _, _, _, _, _, _, _, _, _, _, _, _]) dX12_init_1023 (by decide) (by decide) (by decide) (by rw [ha]; rfl) rfl hw (okR_of (by simp only [okRl, List.length_cons, List.length_nil, and_true, Nat.lt_eq]; first | done | omega) (by simp only [okRs, List.length_cons, List.length_nil, and_true, Nat.lt_eq]; first | done | omega)) (Nat.le_of_ble_eq_true rfl) (Nat.le_of_ble_eq_true rfl) (fun hw => ?_)
  refine ev_putRT (L' := [_, _, _, _, _, _, _, _, _, _, _, _, _, _, _, _, _, _, _, _, _, _, _, _, _, _, _, _, _]) (k := 0) fr_X12_95 rfl rfl dX12_init_1025 ha rfl rfl (fun _ => rfl) (fun _ => rfl) (by simp only [List.length_cons, List.length_nil]; omega) rfl hw (fun hw => ?_)
  refine ev_aload_n dX12_init_1028 rfl ?_
  refine ev_bipush (v := (10 : Int32)) dX12_init_1029 (by decide) ?_
  refine ev_newaT (N := 10) (q := a + 29) (L' := [_, _, _, _, _, _, _, _, _, _, _, _, _, _, _, _, _, _, _, _, _, _, _, _, _, _, _, _, _, _]) dX12_init_1031 (by decide) (by decide) (by decide) (by rw [ha]; rfl) rfl hw (okR_of (by simp only [okRl, List.length_cons, List.length_nil, and_true, Nat.lt_eq]; first | done | omega) (by simp only [okRs, List.length_cons, List.length_nil, and_true, Nat.lt_eq]; first | done | omega)) (Nat.le_of_ble_eq_true rfl) (Nat.le_of_ble_eq_true rfl) (fun hw => ?_)
  refine ev_putRT (L' := [_, _, _, _, _, _, _, _, _, _, _, _, _, _, _, _, _, _, _, _, _, _, _, _, _, _, _, _, _, _]) (k := 0) fr_X12_98 rfl rfl dX12_init_1033 ha rfl rfl (fun _ => rfl) (fun _ => rfl) (by simp only [List.length_cons, List.length_nil]; omega) rfl hw (fun hw => ?_)
  exact kk hw
def m12_6 (a : Nat) (μ : Mem) : Mem := (zr (zr (zr (zr (zr μ (a + 30)) (a + 31)) (a + 32)) (a + 33)) (a + 34))
set_option maxHeartbeats 8000000 in
set_option maxRecDepth 100000 in
theorem g12_6 {nL : Nat} {ret : Option FieldType} {d : Nat} {post : Option Int32 → List Shp → Mem → Prop} {pre : List Shp} {a : Nat} {μ : Mem} (ha : pre.length = a) (hw : wfS (pre ++ [.inr (.inr (10, [none, some (some (a + 1)), some (some (a + 2)), none, some (some (a + 3)), none, none, none, some (some (a + 4)), some (some (a + 5)), some (some (a + 6)), some (some (a + 7)), some (some (a + 8)), some (some (a + 9)), some (some (a + 10)), none, none, none, none, none, some (some (a + 11)), some (some (a + 12)), some (some (a + 13)), some (some (a + 14)), some (some (a + 15)), some (some (a + 16)), some (some (a + 17)), some (some (a + 18)), none, none, none, some (some (a + 19)), none, none, none, none, none, none, some (some (a + 20)), none, some (some (a + 21)), none, some (some (a + 22)), some (some (a + 23)), some (some (a + 24)), some (some (a + 25)), some (some (a + 26)), none, some (some (a + 27)), some (some (a + 28)), some (some (a + 29)), none, some none, some none, some none, none, some none, none, some none, some none, none, some none, some none, some none, none, some none, some none, some none, none, some none, some none, some none, none, none, none, some none])), .inl 49, .inl 294, .inl 49, .inl 12, .inl 12, .inl 12, .inl 8, .inl 8, .inl 600, .inl 400, .inl 132, .inl 2, .inl 48, .inl 48, .inl 48, .inl 48, .inl 1200, .inl 1200, .inl 40, .inl 32, .inl 192, .inl 24, .inl 11, .inl 420, .inl 3, .inl 3, .inl 10, .inl 10, .inl 10])) (kk : wfS (pre ++ [.inr (.inr (10, [none, some (some (a + 1)), some (some (a + 2)), none, some (some (a + 3)), none, none, none, some (some (a + 4)), some (some (a + 5)), some (some (a + 6)), some (some (a + 7)), some (some (a + 8)), some (some (a + 9)), some (some (a + 10)), none, none, none, none, none, some (some (a + 11)), some (some (a + 12)), some (some (a + 13)), some (some (a + 14)), some (some (a + 15)), some (some (a + 16)), some (some (a + 17)), some (some (a + 18)), none, none, none, some (some (a + 19)), none, none, none, none, none, none, some (some (a + 20)), none, some (some (a + 21)), none, some (some (a + 22)), some (some (a + 23)), some (some (a + 24)), some (some (a + 25)), some (some (a + 26)), none, some (some (a + 27)), some (some (a + 28)), some (some (a + 29)), none, some (some (a + 30)), some (some (a + 31)), some (some (a + 32)), none, some (some (a + 33)), none, some (some (a + 34)), some none, none, some none, some none, some none, none, some none, some none, some none, none, some none, some none, some none, none, none, none, some none])), .inl 49, .inl 294, .inl 49, .inl 12, .inl 12, .inl 12, .inl 8, .inl 8, .inl 600, .inl 400, .inl 132, .inl 2, .inl 48, .inl 48, .inl 48, .inl 48, .inl 1200, .inl 1200, .inl 40, .inl 32, .inl 192, .inl 24, .inl 11, .inl 420, .inl 3, .inl 3, .inl 10, .inl 10, .inl 10, .inl 8, .inl 8, .inl 16, .inl 216, .inl 6]) → Ev RX12 cX12_init nL ret true d 45 7954 post 1077 [some (.ref a)] [] (pre ++ [.inr (.inr (10, [none, some (some (a + 1)), some (some (a + 2)), none, some (some (a + 3)), none, none, none, some (some (a + 4)), some (some (a + 5)), some (some (a + 6)), some (some (a + 7)), some (some (a + 8)), some (some (a + 9)), some (some (a + 10)), none, none, none, none, none, some (some (a + 11)), some (some (a + 12)), some (some (a + 13)), some (some (a + 14)), some (some (a + 15)), some (some (a + 16)), some (some (a + 17)), some (some (a + 18)), none, none, none, some (some (a + 19)), none, none, none, none, none, none, some (some (a + 20)), none, some (some (a + 21)), none, some (some (a + 22)), some (some (a + 23)), some (some (a + 24)), some (some (a + 25)), some (some (a + 26)), none, some (some (a + 27)), some (some (a + 28)), some (some (a + 29)), none, some (some (a + 30)), some (some (a + 31)), some (some (a + 32)), none, some (some (a + 33)), none, some (some (a + 34)), some none, none, some none, some none, some none, none, some none, some none, some none, none, some none, some none, some none, none, none, none, some none])), .inl 49, .inl 294, .inl 49, .inl 12, .inl 12, .inl 12, .inl 8, .inl 8, .inl 600, .inl 400, .inl 132, .inl 2, .inl 48, .inl 48, .inl 48, .inl 48, .inl 1200, .inl 1200, .inl 40, .inl 32, .inl 192, .inl 24, .inl 11, .inl 420, .inl 3, .inl 3, .inl 10, .inl 10, .inl 10, .inl 8, .inl 8, .inl 16, .inl 216, .inl 6]) (m12_6 a μ) 34 5179) : Ev RX12 cX12_init nL ret true d 45 7954 post 1036 [some (.ref a)] [] (pre ++ [.inr (.inr (10, [none, some (some (a + 1)), some (some (a + 2)), none, some (some (a + 3)), none, none, none, some (some (a + 4)), some (some (a + 5)), some (some (a + 6)), some (some (a + 7)), some (some (a + 8)), some (some (a + 9)), some (some (a + 10)), none, none, none, none, none, some (some (a + 11)), some (some (a + 12)), some (some (a + 13)), some (some (a + 14)), some (some (a + 15)), some (some (a + 16)), some (some (a + 17)), some (some (a + 18)), none, none, none, some (some (a + 19)), none, none, none, none, none, none, some (some (a + 20)), none, some (some (a + 21)), none, some (some (a + 22)), some (some (a + 23)), some (some (a + 24)), some (some (a + 25)), some (some (a + 26)), none, some (some (a + 27)), some (some (a + 28)), some (some (a + 29)), none, some none, some none, some none, none, some none, none, some none, some none, none, some none, some none, some none, none, some none, some none, some none, none, some none, some none, some none, none, none, none, some none])), .inl 49, .inl 294, .inl 49, .inl 12, .inl 12, .inl 12, .inl 8, .inl 8, .inl 600, .inl 400, .inl 132, .inl 2, .inl 48, .inl 48, .inl 48, .inl 48, .inl 1200, .inl 1200, .inl 40, .inl 32, .inl 192, .inl 24, .inl 11, .inl 420, .inl 3, .inl 3, .inl 10, .inl 10, .inl 10]) μ 29 4925 := by
  refine ev_aload_n dX12_init_1036 rfl ?_
  refine ev_bipush (v := (8 : Int32)) dX12_init_1037 (by decide) ?_
  refine ev_newaT (N := 8) (q := a + 30) (L' := [_, _, _, _, _, _, _, _, _, _, _, _, _, _, _, _, _, _, _, _, _, _, _, _, _, _, _, _, _, _, _]) dX12_init_1039 (by decide) (by decide) (by decide) (by rw [ha]; rfl) rfl hw (okR_of (by simp only [okRl, List.length_cons, List.length_nil, and_true, Nat.lt_eq]; first | done | omega) (by simp only [okRs, List.length_cons, List.length_nil, and_true, Nat.lt_eq]; first | done | omega)) (Nat.le_of_ble_eq_true rfl) (Nat.le_of_ble_eq_true rfl) (fun hw => ?_)
  refine ev_putRT (L' := [_, _, _, _, _, _, _, _, _, _, _, _, _, _, _, _, _, _, _, _, _, _, _, _, _, _, _, _, _, _, _]) (k := 0) fr_X12_101 rfl rfl dX12_init_1041 ha rfl rfl (fun _ => rfl) (fun _ => rfl) (by simp only [List.length_cons, List.length_nil]; omega) rfl hw (fun hw => ?_)
  refine ev_aload_n dX12_init_1044 rfl ?_
  refine ev_bipush (v := (8 : Int32)) dX12_init_1045 (by decide) ?_
  refine ev_newaT (N := 8) (q := a + 31) (L' := [_, _, _, _, _, _, _, _, _, _, _, _, _, _, _, _, _, _, _, _, _, _, _, _, _, _, _, _, _, _, _, _]) dX12_init_1047 (by decide) (by decide) (by decide) (by rw [ha]; rfl) rfl hw (okR_of (by simp only [okRl, List.length_cons, List.length_nil, and_true, Nat.lt_eq]; first | done | omega) (by simp only [okRs, List.length_cons, List.length_nil, and_true, Nat.lt_eq]; first | done | omega)) (Nat.le_of_ble_eq_true rfl) (Nat.le_of_ble_eq_true rfl) (fun hw => ?_)
  refine ev_putRT (L' := [_, _, _, _, _, _, _, _, _, _, _, _, _, _, _, _, _, _, _, _, _, _, _, _, _, _, _, _, _, _, _, _]) (k := 0) fr_X12_104 rfl rfl dX12_init_1049 ha rfl rfl (fun _ => rfl) (fun _ => rfl) (by simp only [List.length_cons, List.length_nil]; omega) rfl hw (fun hw => ?_)
  refine ev_aload_n dX12_init_1052 rfl ?_
  refine ev_bipush (v := (16 : Int32)) dX12_init_1053 (by decide) ?_
  refine ev_newaT (N := 16) (q := a + 32) (L' := [_, _, _, _, _, _, _, _, _, _, _, _, _, _, _, _, _, _, _, _, _, _, _, _, _, _, _, _, _, _, _, _, _]) dX12_init_1055 (by decide) (by decide) (by decide) (by rw [ha]; rfl) rfl hw (okR_of (by simp only [okRl, List.length_cons, List.length_nil, and_true, Nat.lt_eq]; first | done | omega) (by simp only [okRs, List.length_cons, List.length_nil, and_true, Nat.lt_eq]; first | done | omega)) (Nat.le_of_ble_eq_true rfl) (Nat.le_of_ble_eq_true rfl) (fun hw => ?_)
  refine ev_putRT (L' := [_, _, _, _, _, _, _, _, _, _, _, _, _, _, _, _, _, _, _, _, _, _, _, _, _, _, _, _, _, _, _, _, _]) (k := 0) fr_X12_107 rfl rfl dX12_init_1057 ha rfl rfl (fun _ => rfl) (fun _ => rfl) (by simp only [List.length_cons, List.length_nil]; omega) rfl hw (fun hw => ?_)
  refine ev_aload_n dX12_init_1060 rfl ?_
  refine ev_sipush (v := (216 : Int32)) dX12_init_1061 (by decide) ?_
  refine ev_newaT (N := 216) (q := a + 33) (L' := [_, _, _, _, _, _, _, _, _, _, _, _, _, _, _, _, _, _, _, _, _, _, _, _, _, _, _, _, _, _, _, _, _, _]) dX12_init_1064 (by decide) (by decide) (by decide) (by rw [ha]; rfl) rfl hw (okR_of (by simp only [okRl, List.length_cons, List.length_nil, and_true, Nat.lt_eq]; first | done | omega) (by simp only [okRs, List.length_cons, List.length_nil, and_true, Nat.lt_eq]; first | done | omega)) (Nat.le_of_ble_eq_true rfl) (Nat.le_of_ble_eq_true rfl) (fun hw => ?_)
  refine ev_putRT (L' := [_, _, _, _, _, _, _, _, _, _, _, _, _, _, _, _, _, _, _, _, _, _, _, _, _, _, _, _, _, _, _, _, _, _]) (k := 0) fr_X12_110 rfl rfl dX12_init_1066 ha rfl rfl (fun _ => rfl) (fun _ => rfl) (by simp only [List.length_cons, List.length_nil]; omega) rfl hw (fun hw => ?_)
  refine ev_aload_n dX12_init_1069 rfl ?_
  refine ev_bipush (v := (6 : Int32)) dX12_init_1070 (by decide) ?_
  refine ev_newaT (N := 6) (q := a + 34) (L' := [_, _, _, _, _, _, _, _, _, _, _, _, _, _, _, _, _, _, _, _, _, _, _, _, _, _, _, _, _, _, _, _, _, _, _]) dX12_init_1072 (by decide) (by decide) (by decide) (by rw [ha]; rfl) rfl hw (okR_of (by simp only [okRl, List.length_cons, List.length_nil, and_true, Nat.lt_eq]; first | done | omega) (by simp only [okRs, List.length_cons, List.length_nil, and_true, Nat.lt_eq]; first | done | omega)) (Nat.le_of_ble_eq_true rfl) (Nat.le_of_ble_eq_true rfl) (fun hw => ?_)
  refine ev_putRT (L' := [_, _, _, _, _, _, _, _, _, _, _, _, _, _, _, _, _, _, _, _, _, _, _, _, _, _, _, _, _, _, _, _, _, _, _]) (k := 0) fr_X12_113 rfl rfl dX12_init_1074 ha rfl rfl (fun _ => rfl) (fun _ => rfl) (by simp only [List.length_cons, List.length_nil]; omega) rfl hw (fun hw => ?_)
  exact kk hw
def m12_7 (a : Nat) (μ : Mem) : Mem := (zr (zr (zr (zr (zr μ (a + 35)) (a + 36)) (a + 37)) (a + 38)) (a + 39))
set_option maxHeartbeats 8000000 in
set_option maxRecDepth 100000 in
theorem g12_7 {nL : Nat} {ret : Option FieldType} {d : Nat} {post : Option Int32 → List Shp → Mem → Prop} {pre : List Shp} {a : Nat} {μ : Mem} (ha : pre.length = a) (hw : wfS (pre ++ [.inr (.inr (10, [none, some (some (a + 1)), some (some (a + 2)), none, some (some (a + 3)), none, none, none, some (some (a + 4)), some (some (a + 5)), some (some (a + 6)), some (some (a + 7)), some (some (a + 8)), some (some (a + 9)), some (some (a + 10)), none, none, none, none, none, some (some (a + 11)), some (some (a + 12)), some (some (a + 13)), some (some (a + 14)), some (some (a + 15)), some (some (a + 16)), some (some (a + 17)), some (some (a + 18)), none, none, none, some (some (a + 19)), none, none, none, none, none, none, some (some (a + 20)), none, some (some (a + 21)), none, some (some (a + 22)), some (some (a + 23)), some (some (a + 24)), some (some (a + 25)), some (some (a + 26)), none, some (some (a + 27)), some (some (a + 28)), some (some (a + 29)), none, some (some (a + 30)), some (some (a + 31)), some (some (a + 32)), none, some (some (a + 33)), none, some (some (a + 34)), some none, none, some none, some none, some none, none, some none, some none, some none, none, some none, some none, some none, none, none, none, some none])), .inl 49, .inl 294, .inl 49, .inl 12, .inl 12, .inl 12, .inl 8, .inl 8, .inl 600, .inl 400, .inl 132, .inl 2, .inl 48, .inl 48, .inl 48, .inl 48, .inl 1200, .inl 1200, .inl 40, .inl 32, .inl 192, .inl 24, .inl 11, .inl 420, .inl 3, .inl 3, .inl 10, .inl 10, .inl 10, .inl 8, .inl 8, .inl 16, .inl 216, .inl 6])) (kk : wfS (pre ++ [.inr (.inr (10, [none, some (some (a + 1)), some (some (a + 2)), none, some (some (a + 3)), none, none, none, some (some (a + 4)), some (some (a + 5)), some (some (a + 6)), some (some (a + 7)), some (some (a + 8)), some (some (a + 9)), some (some (a + 10)), none, none, none, none, none, some (some (a + 11)), some (some (a + 12)), some (some (a + 13)), some (some (a + 14)), some (some (a + 15)), some (some (a + 16)), some (some (a + 17)), some (some (a + 18)), none, none, none, some (some (a + 19)), none, none, none, none, none, none, some (some (a + 20)), none, some (some (a + 21)), none, some (some (a + 22)), some (some (a + 23)), some (some (a + 24)), some (some (a + 25)), some (some (a + 26)), none, some (some (a + 27)), some (some (a + 28)), some (some (a + 29)), none, some (some (a + 30)), some (some (a + 31)), some (some (a + 32)), none, some (some (a + 33)), none, some (some (a + 34)), some (some (a + 35)), none, some (some (a + 36)), some (some (a + 37)), some (some (a + 38)), none, some (some (a + 39)), some none, some none, none, some none, some none, some none, none, none, none, some none])), .inl 49, .inl 294, .inl 49, .inl 12, .inl 12, .inl 12, .inl 8, .inl 8, .inl 600, .inl 400, .inl 132, .inl 2, .inl 48, .inl 48, .inl 48, .inl 48, .inl 1200, .inl 1200, .inl 40, .inl 32, .inl 192, .inl 24, .inl 11, .inl 420, .inl 3, .inl 3, .inl 10, .inl 10, .inl 10, .inl 8, .inl 8, .inl 16, .inl 216, .inl 6, .inl 6, .inl 10, .inl 400, .inl 20, .inl 12]) → Ev RX12 cX12_init nL ret true d 45 7954 post 1118 [some (.ref a)] [] (pre ++ [.inr (.inr (10, [none, some (some (a + 1)), some (some (a + 2)), none, some (some (a + 3)), none, none, none, some (some (a + 4)), some (some (a + 5)), some (some (a + 6)), some (some (a + 7)), some (some (a + 8)), some (some (a + 9)), some (some (a + 10)), none, none, none, none, none, some (some (a + 11)), some (some (a + 12)), some (some (a + 13)), some (some (a + 14)), some (some (a + 15)), some (some (a + 16)), some (some (a + 17)), some (some (a + 18)), none, none, none, some (some (a + 19)), none, none, none, none, none, none, some (some (a + 20)), none, some (some (a + 21)), none, some (some (a + 22)), some (some (a + 23)), some (some (a + 24)), some (some (a + 25)), some (some (a + 26)), none, some (some (a + 27)), some (some (a + 28)), some (some (a + 29)), none, some (some (a + 30)), some (some (a + 31)), some (some (a + 32)), none, some (some (a + 33)), none, some (some (a + 34)), some (some (a + 35)), none, some (some (a + 36)), some (some (a + 37)), some (some (a + 38)), none, some (some (a + 39)), some none, some none, none, some none, some none, some none, none, none, none, some none])), .inl 49, .inl 294, .inl 49, .inl 12, .inl 12, .inl 12, .inl 8, .inl 8, .inl 600, .inl 400, .inl 132, .inl 2, .inl 48, .inl 48, .inl 48, .inl 48, .inl 1200, .inl 1200, .inl 40, .inl 32, .inl 192, .inl 24, .inl 11, .inl 420, .inl 3, .inl 3, .inl 10, .inl 10, .inl 10, .inl 8, .inl 8, .inl 16, .inl 216, .inl 6, .inl 6, .inl 10, .inl 400, .inl 20, .inl 12]) (m12_7 a μ) 39 5627) : Ev RX12 cX12_init nL ret true d 45 7954 post 1077 [some (.ref a)] [] (pre ++ [.inr (.inr (10, [none, some (some (a + 1)), some (some (a + 2)), none, some (some (a + 3)), none, none, none, some (some (a + 4)), some (some (a + 5)), some (some (a + 6)), some (some (a + 7)), some (some (a + 8)), some (some (a + 9)), some (some (a + 10)), none, none, none, none, none, some (some (a + 11)), some (some (a + 12)), some (some (a + 13)), some (some (a + 14)), some (some (a + 15)), some (some (a + 16)), some (some (a + 17)), some (some (a + 18)), none, none, none, some (some (a + 19)), none, none, none, none, none, none, some (some (a + 20)), none, some (some (a + 21)), none, some (some (a + 22)), some (some (a + 23)), some (some (a + 24)), some (some (a + 25)), some (some (a + 26)), none, some (some (a + 27)), some (some (a + 28)), some (some (a + 29)), none, some (some (a + 30)), some (some (a + 31)), some (some (a + 32)), none, some (some (a + 33)), none, some (some (a + 34)), some none, none, some none, some none, some none, none, some none, some none, some none, none, some none, some none, some none, none, none, none, some none])), .inl 49, .inl 294, .inl 49, .inl 12, .inl 12, .inl 12, .inl 8, .inl 8, .inl 600, .inl 400, .inl 132, .inl 2, .inl 48, .inl 48, .inl 48, .inl 48, .inl 1200, .inl 1200, .inl 40, .inl 32, .inl 192, .inl 24, .inl 11, .inl 420, .inl 3, .inl 3, .inl 10, .inl 10, .inl 10, .inl 8, .inl 8, .inl 16, .inl 216, .inl 6]) μ 34 5179 := by
  refine ev_aload_n dX12_init_1077 rfl ?_
  refine ev_bipush (v := (6 : Int32)) dX12_init_1078 (by decide) ?_
  refine ev_newaT (N := 6) (q := a + 35) (L' := [_, _, _, _, _, _, _, _, _, _, _, _, _, _, _, _, _, _, _, _, _, _, _, _, _, _, _, _, _, _, _, _, _, _, _, _]) dX12_init_1080 (by decide) (by decide) (by decide) (by rw [ha]; rfl) rfl hw (okR_of (by simp only [okRl, List.length_cons, List.length_nil, and_true, Nat.lt_eq]; first | done | omega) (by simp only [okRs, List.length_cons, List.length_nil, and_true, Nat.lt_eq]; first | done | omega)) (Nat.le_of_ble_eq_true rfl) (Nat.le_of_ble_eq_true rfl) (fun hw => ?_)
  refine ev_putRT (L' := [_, _, _, _, _, _, _, _, _, _, _, _, _, _, _, _, _, _, _, _, _, _, _, _, _, _, _, _, _, _, _, _, _, _, _, _]) (k := 0) fr_X12_116 rfl rfl dX12_init_1082 ha rfl rfl (fun _ => rfl) (fun _ => rfl) (by simp only [List.length_cons, List.length_nil]; omega) rfl hw (fun hw => ?_)
  refine ev_aload_n dX12_init_1085 rfl ?_
  refine ev_bipush (v := (10 : Int32)) dX12_init_1086 (by decide) ?_
  refine ev_newaT (N := 10) (q := a + 36) (L' := [_, _, _, _, _, _, _, _, _, _, _, _, _, _, _, _, _, _, _, _, _, _, _, _, _, _, _, _, _, _, _, _, _, _, _, _, _]) dX12_init_1088 (by decide) (by decide) (by decide) (by rw [ha]; rfl) rfl hw (okR_of (by simp only [okRl, List.length_cons, List.length_nil, and_true, Nat.lt_eq]; first | done | omega) (by simp only [okRs, List.length_cons, List.length_nil, and_true, Nat.lt_eq]; first | done | omega)) (Nat.le_of_ble_eq_true rfl) (Nat.le_of_ble_eq_true rfl) (fun hw => ?_)
  refine ev_putRT (L' := [_, _, _, _, _, _, _, _, _, _, _, _, _, _, _, _, _, _, _, _, _, _, _, _, _, _, _, _, _, _, _, _, _, _, _, _, _]) (k := 0) fr_X12_119 rfl rfl dX12_init_1090 ha rfl rfl (fun _ => rfl) (fun _ => rfl) (by simp only [List.length_cons, List.length_nil]; omega) rfl hw (fun hw => ?_)
  refine ev_aload_n dX12_init_1093 rfl ?_
  refine ev_sipush (v := (400 : Int32)) dX12_init_1094 (by decide) ?_
  refine ev_newaT (N := 400) (q := a + 37) (L' := [_, _, _, _, _, _, _, _, _, _, _, _, _, _, _, _, _, _, _, _, _, _, _, _, _, _, _, _, _, _, _, _, _, _, _, _, _, _]) dX12_init_1097 (by decide) (by decide) (by decide) (by rw [ha]; rfl) rfl hw (okR_of (by simp only [okRl, List.length_cons, List.length_nil, and_true, Nat.lt_eq]; first | done | omega) (by simp only [okRs, List.length_cons, List.length_nil, and_true, Nat.lt_eq]; first | done | omega)) (Nat.le_of_ble_eq_true rfl) (Nat.le_of_ble_eq_true rfl) (fun hw => ?_)
  refine ev_putRT (L' := [_, _, _, _, _, _, _, _, _, _, _, _, _, _, _, _, _, _, _, _, _, _, _, _, _, _, _, _, _, _, _, _, _, _, _, _, _, _]) (k := 0) fr_X12_122 rfl rfl dX12_init_1099 ha rfl rfl (fun _ => rfl) (fun _ => rfl) (by simp only [List.length_cons, List.length_nil]; omega) rfl hw (fun hw => ?_)
  refine ev_aload_n dX12_init_1102 rfl ?_
  refine ev_bipush (v := (20 : Int32)) dX12_init_1103 (by decide) ?_
  refine ev_newaT (N := 20) (q := a + 38) (L' := [_, _, _, _, _, _, _, _, _, _, _, _, _, _, _, _, _, _, _, _, _, _, _, _, _, _, _, _, _, _, _, _, _, _, _, _, _, _, _]) dX12_init_1105 (by decide) (by decide) (by decide) (by rw [ha]; rfl) rfl hw (okR_of (by simp only [okRl, List.length_cons, List.length_nil, and_true, Nat.lt_eq]; first | done | omega) (by simp only [okRs, List.length_cons, List.length_nil, and_true, Nat.lt_eq]; first | done | omega)) (Nat.le_of_ble_eq_true rfl) (Nat.le_of_ble_eq_true rfl) (fun hw => ?_)
  refine ev_putRT (L' := [_, _, _, _, _, _, _, _, _, _, _, _, _, _, _, _, _, _, _, _, _, _, _, _, _, _, _, _, _, _, _, _, _, _, _, _, _, _, _]) (k := 0) fr_X12_125 rfl rfl dX12_init_1107 ha rfl rfl (fun _ => rfl) (fun _ => rfl) (by simp only [List.length_cons, List.length_nil]; omega) rfl hw (fun hw => ?_)
  refine ev_aload_n dX12_init_1110 rfl ?_
  refine ev_bipush (v := (12 : Int32)) dX12_init_1111 (by decide) ?_
  refine ev_newaT (N := 12) (q := a + 39) (L' := [_, _, _, _, _, _, _, _, _, _, _, _, _, _, _, _, _, _, _, _, _, _, _, _, _, _, _, _, _, _, _, _, _, _, _, _, _, _, _, _]) dX12_init_1113 (by decide) (by decide) (by decide) (by rw [ha]; rfl) rfl hw (okR_of (by simp only [okRl, List.length_cons, List.length_nil, and_true, Nat.lt_eq]; first | done | omega) (by simp only [okRs, List.length_cons, List.length_nil, and_true, Nat.lt_eq]; first | done | omega)) (Nat.le_of_ble_eq_true rfl) (Nat.le_of_ble_eq_true rfl) (fun hw => ?_)
  refine ev_putRT (L' := [_, _, _, _, _, _, _, _, _, _, _, _, _, _, _, _, _, _, _, _, _, _, _, _, _, _, _, _, _, _, _, _, _, _, _, _, _, _, _, _]) (k := 0) fr_X12_128 rfl rfl dX12_init_1115 ha rfl rfl (fun _ => rfl) (fun _ => rfl) (by simp only [List.length_cons, List.length_nil]; omega) rfl hw (fun hw => ?_)
  exact kk hw
def m12_8 (a : Nat) (μ : Mem) : Mem := (zr (zr (zr (zr (zr μ (a + 40)) (a + 41)) (a + 42)) (a + 43)) (a + 44))
set_option maxHeartbeats 8000000 in
set_option maxRecDepth 100000 in
theorem g12_8 {nL : Nat} {ret : Option FieldType} {d : Nat} {post : Option Int32 → List Shp → Mem → Prop} {pre : List Shp} {a : Nat} {μ : Mem} (ha : pre.length = a) (hw : wfS (pre ++ [.inr (.inr (10, [none, some (some (a + 1)), some (some (a + 2)), none, some (some (a + 3)), none, none, none, some (some (a + 4)), some (some (a + 5)), some (some (a + 6)), some (some (a + 7)), some (some (a + 8)), some (some (a + 9)), some (some (a + 10)), none, none, none, none, none, some (some (a + 11)), some (some (a + 12)), some (some (a + 13)), some (some (a + 14)), some (some (a + 15)), some (some (a + 16)), some (some (a + 17)), some (some (a + 18)), none, none, none, some (some (a + 19)), none, none, none, none, none, none, some (some (a + 20)), none, some (some (a + 21)), none, some (some (a + 22)), some (some (a + 23)), some (some (a + 24)), some (some (a + 25)), some (some (a + 26)), none, some (some (a + 27)), some (some (a + 28)), some (some (a + 29)), none, some (some (a + 30)), some (some (a + 31)), some (some (a + 32)), none, some (some (a + 33)), none, some (some (a + 34)), some (some (a + 35)), none, some (some (a + 36)), some (some (a + 37)), some (some (a + 38)), none, some (some (a + 39)), some none, some none, none, some none, some none, some none, none, none, none, some none])), .inl 49, .inl 294, .inl 49, .inl 12, .inl 12, .inl 12, .inl 8, .inl 8, .inl 600, .inl 400, .inl 132, .inl 2, .inl 48, .inl 48, .inl 48, .inl 48, .inl 1200, .inl 1200, .inl 40, .inl 32, .inl 192, .inl 24, .inl 11, .inl 420, .inl 3, .inl 3, .inl 10, .inl 10, .inl 10, .inl 8, .inl 8, .inl 16, .inl 216, .inl 6, .inl 6, .inl 10, .inl 400, .inl 20, .inl 12])) (kk : wfS (pre ++ [.inr (.inr (10, [none, some (some (a + 1)), some (some (a + 2)), none, some (some (a + 3)), none, none, none, some (some (a + 4)), some (some (a + 5)), some (some (a + 6)), some (some (a + 7)), some (some (a + 8)), some (some (a + 9)), some (some (a + 10)), none, none, none, none, none, some (some (a + 11)), some (some (a + 12)), some (some (a + 13)), some (some (a + 14)), some (some (a + 15)), some (some (a + 16)), some (some (a + 17)), some (some (a + 18)), none, none, none, some (some (a + 19)), none, none, none, none, none, none, some (some (a + 20)), none, some (some (a + 21)), none, some (some (a + 22)), some (some (a + 23)), some (some (a + 24)), some (some (a + 25)), some (some (a + 26)), none, some (some (a + 27)), some (some (a + 28)), some (some (a + 29)), none, some (some (a + 30)), some (some (a + 31)), some (some (a + 32)), none, some (some (a + 33)), none, some (some (a + 34)), some (some (a + 35)), none, some (some (a + 36)), some (some (a + 37)), some (some (a + 38)), none, some (some (a + 39)), some (some (a + 40)), some (some (a + 41)), none, some (some (a + 42)), some (some (a + 43)), some (some (a + 44)), none, none, none, some none])), .inl 49, .inl 294, .inl 49, .inl 12, .inl 12, .inl 12, .inl 8, .inl 8, .inl 600, .inl 400, .inl 132, .inl 2, .inl 48, .inl 48, .inl 48, .inl 48, .inl 1200, .inl 1200, .inl 40, .inl 32, .inl 192, .inl 24, .inl 11, .inl 420, .inl 3, .inl 3, .inl 10, .inl 10, .inl 10, .inl 8, .inl 8, .inl 16, .inl 216, .inl 6, .inl 6, .inl 10, .inl 400, .inl 20, .inl 12, .inl 3, .inl 3, .inl 7, .inl 7, .inl 7]) → Ev RX12 cX12_init nL ret true d 45 7954 post 1156 [some (.ref a)] [] (pre ++ [.inr (.inr (10, [none, some (some (a + 1)), some (some (a + 2)), none, some (some (a + 3)), none, none, none, some (some (a + 4)), some (some (a + 5)), some (some (a + 6)), some (some (a + 7)), some (some (a + 8)), some (some (a + 9)), some (some (a + 10)), none, none, none, none, none, some (some (a + 11)), some (some (a + 12)), some (some (a + 13)), some (some (a + 14)), some (some (a + 15)), some (some (a + 16)), some (some (a + 17)), some (some (a + 18)), none, none, none, some (some (a + 19)), none, none, none, none, none, none, some (some (a + 20)), none, some (some (a + 21)), none, some (some (a + 22)), some (some (a + 23)), some (some (a + 24)), some (some (a + 25)), some (some (a + 26)), none, some (some (a + 27)), some (some (a + 28)), some (some (a + 29)), none, some (some (a + 30)), some (some (a + 31)), some (some (a + 32)), none, some (some (a + 33)), none, some (some (a + 34)), some (some (a + 35)), none, some (some (a + 36)), some (some (a + 37)), some (some (a + 38)), none, some (some (a + 39)), some (some (a + 40)), some (some (a + 41)), none, some (some (a + 42)), some (some (a + 43)), some (some (a + 44)), none, none, none, some none])), .inl 49, .inl 294, .inl 49, .inl 12, .inl 12, .inl 12, .inl 8, .inl 8, .inl 600, .inl 400, .inl 132, .inl 2, .inl 48, .inl 48, .inl 48, .inl 48, .inl 1200, .inl 1200, .inl 40, .inl 32, .inl 192, .inl 24, .inl 11, .inl 420, .inl 3, .inl 3, .inl 10, .inl 10, .inl 10, .inl 8, .inl 8, .inl 16, .inl 216, .inl 6, .inl 6, .inl 10, .inl 400, .inl 20, .inl 12, .inl 3, .inl 3, .inl 7, .inl 7, .inl 7]) (m12_8 a μ) 44 5654) : Ev RX12 cX12_init nL ret true d 45 7954 post 1118 [some (.ref a)] [] (pre ++ [.inr (.inr (10, [none, some (some (a + 1)), some (some (a + 2)), none, some (some (a + 3)), none, none, none, some (some (a + 4)), some (some (a + 5)), some (some (a + 6)), some (some (a + 7)), some (some (a + 8)), some (some (a + 9)), some (some (a + 10)), none, none, none, none, none, some (some (a + 11)), some (some (a + 12)), some (some (a + 13)), some (some (a + 14)), some (some (a + 15)), some (some (a + 16)), some (some (a + 17)), some (some (a + 18)), none, none, none, some (some (a + 19)), none, none, none, none, none, none, some (some (a + 20)), none, some (some (a + 21)), none, some (some (a + 22)), some (some (a + 23)), some (some (a + 24)), some (some (a + 25)), some (some (a + 26)), none, some (some (a + 27)), some (some (a + 28)), some (some (a + 29)), none, some (some (a + 30)), some (some (a + 31)), some (some (a + 32)), none, some (some (a + 33)), none, some (some (a + 34)), some (some (a + 35)), none, some (some (a + 36)), some (some (a + 37)), some (some (a + 38)), none, some (some (a + 39)), some none, some none, none, some none, some none, some none, none, none, none, some none])), .inl 49, .inl 294, .inl 49, .inl 12, .inl 12, .inl 12, .inl 8, .inl 8, .inl 600, .inl 400, .inl 132, .inl 2, .inl 48, .inl 48, .inl 48, .inl 48, .inl 1200, .inl 1200, .inl 40, .inl 32, .inl 192, .inl 24, .inl 11, .inl 420, .inl 3, .inl 3, .inl 10, .inl 10, .inl 10, .inl 8, .inl 8, .inl 16, .inl 216, .inl 6, .inl 6, .inl 10, .inl 400, .inl 20, .inl 12]) μ 39 5627 := by
  refine ev_aload_n dX12_init_1118 rfl ?_
  refine ev_iconst (v := (3 : Int32)) dX12_init_1119 (by decide) ?_
  refine ev_newaT (N := 3) (q := a + 40) (L' := [_, _, _, _, _, _, _, _, _, _, _, _, _, _, _, _, _, _, _, _, _, _, _, _, _, _, _, _, _, _, _, _, _, _, _, _, _, _, _, _, _]) dX12_init_1120 (by decide) (by decide) (by decide) (by rw [ha]; rfl) rfl hw (okR_of (by simp only [okRl, List.length_cons, List.length_nil, and_true, Nat.lt_eq]; first | done | omega) (by simp only [okRs, List.length_cons, List.length_nil, and_true, Nat.lt_eq]; first | done | omega)) (Nat.le_of_ble_eq_true rfl) (Nat.le_of_ble_eq_true rfl) (fun hw => ?_)
  refine ev_putRT (L' := [_, _, _, _, _, _, _, _, _, _, _, _, _, _, _, _, _, _, _, _, _, _, _, _, _, _, _, _, _, _, _, _, _, _, _, _, _, _, _, _, _]) (k := 0) fr_X12_131 rfl rfl dX12_init_1122 ha rfl rfl (fun _ => rfl) (fun _ => rfl) (by simp only [List.length_cons, List.length_nil]; omega) rfl hw (fun hw => ?_)
  refine ev_aload_n dX12_init_1125 rfl ?_
  refine ev_iconst (v := (3 : Int32)) dX12_init_1126 (by decide) ?_
  refine ev_newaT (N := 3) (q := a + 41) (L' := [_, _, _, _, _, _, _, _, _, _, _, _, _, _, _, _, _, _, _, _, _, _, _, _, _, _, _, _, _, _, _, _, _, _, _, _, _, _, _, _, _, _]) dX12_init_1127 (by decide) (by decide) (by decide) (by rw [ha]; rfl) rfl hw (okR_of (by simp only [okRl, List.length_cons, List.length_nil, and_true, Nat.lt_eq]; first | done | omega) (by simp only [okRs, List.length_cons, List.length_nil, and_true, Nat.lt_eq]; first | done | omega)) (Nat.le_of_ble_eq_true rfl) (Nat.le_of_ble_eq_true rfl) (fun hw => ?_)
  refine ev_putRT (L' := [_, _, _, _, _, _, _, _, _, _, _, _, _, _, _, _, _, _, _, _, _, _, _, _, _, _, _, _, _, _, _, _, _, _, _, _, _, _, _, _, _, _]) (k := 0) fr_X12_134 rfl rfl dX12_init_1129 ha rfl rfl (fun _ => rfl) (fun _ => rfl) (by simp only [List.length_cons, List.length_nil]; omega) rfl hw (fun hw => ?_)
  refine ev_aload_n dX12_init_1132 rfl ?_
  refine ev_bipush (v := (7 : Int32)) dX12_init_1133 (by decide) ?_
  refine ev_newaT (N := 7) (q := a + 42) (L' := [_, _, _, _, _, _, _, _, _, _, _, _, _, _, _, _, _, _, _, _, _, _, _, _, _, _, _, _, _, _, _, _, _, _, _, _, _, _, _, _, _, _, _]) dX12_init_1135 (by decide) (by decide) (by decide) (by rw [ha]; rfl) rfl hw (okR_of (by simp only [okRl, List.length_cons, List.length_nil, and_true, Nat.lt_eq]; first | done | omega) (by simp only [okRs, List.length_cons, List.length_nil, and_true, Nat.lt_eq]; first | done | omega)) (Nat.le_of_ble_eq_true rfl) (Nat.le_of_ble_eq_true rfl) (fun hw => ?_)
  refine ev_putRT (L' := [_, _, _, _, _, _, _, _, _, _, _, _, _, _, _, _, _, _, _, _, _, _, _, _, _, _, _, _, _, _, _, _, _, _, _, _, _, _, _, _, _, _, _]) (k := 0) fr_X12_137 rfl rfl dX12_init_1137 ha rfl rfl (fun _ => rfl) (fun _ => rfl) (by simp only [List.length_cons, List.length_nil]; omega) rfl hw (fun hw => ?_)
  refine ev_aload_n dX12_init_1140 rfl ?_
  refine ev_bipush (v := (7 : Int32)) dX12_init_1141 (by decide) ?_
  refine ev_newaT (N := 7) (q := a + 43) (L' := [_, _, _, _, _, _, _, _, _, _, _, _, _, _, _, _, _, _, _, _, _, _, _, _, _, _, _, _, _, _, _, _, _, _, _, _, _, _, _, _, _, _, _, _]) dX12_init_1143 (by decide) (by decide) (by decide) (by rw [ha]; rfl) rfl hw (okR_of (by simp only [okRl, List.length_cons, List.length_nil, and_true, Nat.lt_eq]; first | done | omega) (by simp only [okRs, List.length_cons, List.length_nil, and_true, Nat.lt_eq]; first | done | omega)) (Nat.le_of_ble_eq_true rfl) (Nat.le_of_ble_eq_true rfl) (fun hw => ?_)
  refine ev_putRT (L' := [_, _, _, _, _, _, _, _, _, _, _, _, _, _, _, _, _, _, _, _, _, _, _, _, _, _, _, _, _, _, _, _, _, _, _, _, _, _, _, _, _, _, _, _]) (k := 0) fr_X12_140 rfl rfl dX12_init_1145 ha rfl rfl (fun _ => rfl) (fun _ => rfl) (by simp only [List.length_cons, List.length_nil]; omega) rfl hw (fun hw => ?_)
  refine ev_aload_n dX12_init_1148 rfl ?_
  refine ev_bipush (v := (7 : Int32)) dX12_init_1149 (by decide) ?_
  refine ev_newaT (N := 7) (q := a + 44) (L' := [_, _, _, _, _, _, _, _, _, _, _, _, _, _, _, _, _, _, _, _, _, _, _, _, _, _, _, _, _, _, _, _, _, _, _, _, _, _, _, _, _, _, _, _, _]) dX12_init_1151 (by decide) (by decide) (by decide) (by rw [ha]; rfl) rfl hw (okR_of (by simp only [okRl, List.length_cons, List.length_nil, and_true, Nat.lt_eq]; first | done | omega) (by simp only [okRs, List.length_cons, List.length_nil, and_true, Nat.lt_eq]; first | done | omega)) (Nat.le_of_ble_eq_true rfl) (Nat.le_of_ble_eq_true rfl) (fun hw => ?_)
  refine ev_putRT (L' := [_, _, _, _, _, _, _, _, _, _, _, _, _, _, _, _, _, _, _, _, _, _, _, _, _, _, _, _, _, _, _, _, _, _, _, _, _, _, _, _, _, _, _, _, _]) (k := 0) fr_X12_143 rfl rfl dX12_init_1153 ha rfl rfl (fun _ => rfl) (fun _ => rfl) (by simp only [List.length_cons, List.length_nil]; omega) rfl hw (fun hw => ?_)
  exact kk hw
def m12_9 (a : Nat) (μ : Mem) : Mem := (zr μ (a + 45))
set_option maxHeartbeats 8000000 in
set_option maxRecDepth 100000 in
theorem g12_9 {nL : Nat} {ret : Option FieldType} {d : Nat} {post : Option Int32 → List Shp → Mem → Prop} {pre : List Shp} {a : Nat} {μ : Mem} (ha : pre.length = a) (hw : wfS (pre ++ [.inr (.inr (10, [none, some (some (a + 1)), some (some (a + 2)), none, some (some (a + 3)), none, none, none, some (some (a + 4)), some (some (a + 5)), some (some (a + 6)), some (some (a + 7)), some (some (a + 8)), some (some (a + 9)), some (some (a + 10)), none, none, none, none, none, some (some (a + 11)), some (some (a + 12)), some (some (a + 13)), some (some (a + 14)), some (some (a + 15)), some (some (a + 16)), some (some (a + 17)), some (some (a + 18)), none, none, none, some (some (a + 19)), none, none, none, none, none, none, some (some (a + 20)), none, some (some (a + 21)), none, some (some (a + 22)), some (some (a + 23)), some (some (a + 24)), some (some (a + 25)), some (some (a + 26)), none, some (some (a + 27)), some (some (a + 28)), some (some (a + 29)), none, some (some (a + 30)), some (some (a + 31)), some (some (a + 32)), none, some (some (a + 33)), none, some (some (a + 34)), some (some (a + 35)), none, some (some (a + 36)), some (some (a + 37)), some (some (a + 38)), none, some (some (a + 39)), some (some (a + 40)), some (some (a + 41)), none, some (some (a + 42)), some (some (a + 43)), some (some (a + 44)), none, none, none, some none])), .inl 49, .inl 294, .inl 49, .inl 12, .inl 12, .inl 12, .inl 8, .inl 8, .inl 600, .inl 400, .inl 132, .inl 2, .inl 48, .inl 48, .inl 48, .inl 48, .inl 1200, .inl 1200, .inl 40, .inl 32, .inl 192, .inl 24, .inl 11, .inl 420, .inl 3, .inl 3, .inl 10, .inl 10, .inl 10, .inl 8, .inl 8, .inl 16, .inl 216, .inl 6, .inl 6, .inl 10, .inl 400, .inl 20, .inl 12, .inl 3, .inl 3, .inl 7, .inl 7, .inl 7])) (kk : wfS (pre ++ [.inr (.inr (10, [none, some (some (a + 1)), some (some (a + 2)), none, some (some (a + 3)), none, none, none, some (some (a + 4)), some (some (a + 5)), some (some (a + 6)), some (some (a + 7)), some (some (a + 8)), some (some (a + 9)), some (some (a + 10)), none, none, none, none, none, some (some (a + 11)), some (some (a + 12)), some (some (a + 13)), some (some (a + 14)), some (some (a + 15)), some (some (a + 16)), some (some (a + 17)), some (some (a + 18)), none, none, none, some (some (a + 19)), none, none, none, none, none, none, some (some (a + 20)), none, some (some (a + 21)), none, some (some (a + 22)), some (some (a + 23)), some (some (a + 24)), some (some (a + 25)), some (some (a + 26)), none, some (some (a + 27)), some (some (a + 28)), some (some (a + 29)), none, some (some (a + 30)), some (some (a + 31)), some (some (a + 32)), none, some (some (a + 33)), none, some (some (a + 34)), some (some (a + 35)), none, some (some (a + 36)), some (some (a + 37)), some (some (a + 38)), none, some (some (a + 39)), some (some (a + 40)), some (some (a + 41)), none, some (some (a + 42)), some (some (a + 43)), some (some (a + 44)), none, none, none, some (some (a + 45))])), .inl 49, .inl 294, .inl 49, .inl 12, .inl 12, .inl 12, .inl 8, .inl 8, .inl 600, .inl 400, .inl 132, .inl 2, .inl 48, .inl 48, .inl 48, .inl 48, .inl 1200, .inl 1200, .inl 40, .inl 32, .inl 192, .inl 24, .inl 11, .inl 420, .inl 3, .inl 3, .inl 10, .inl 10, .inl 10, .inl 8, .inl 8, .inl 16, .inl 216, .inl 6, .inl 6, .inl 10, .inl 400, .inl 20, .inl 12, .inl 3, .inl 3, .inl 7, .inl 7, .inl 7, .inl 2300]) → Ev RX12 cX12_init nL ret true d 45 7954 post 1165 [some (.ref a)] [] (pre ++ [.inr (.inr (10, [none, some (some (a + 1)), some (some (a + 2)), none, some (some (a + 3)), none, none, none, some (some (a + 4)), some (some (a + 5)), some (some (a + 6)), some (some (a + 7)), some (some (a + 8)), some (some (a + 9)), some (some (a + 10)), none, none, none, none, none, some (some (a + 11)), some (some (a + 12)), some (some (a + 13)), some (some (a + 14)), some (some (a + 15)), some (some (a + 16)), some (some (a + 17)), some (some (a + 18)), none, none, none, some (some (a + 19)), none, none, none, none, none, none, some (some (a + 20)), none, some (some (a + 21)), none, some (some (a + 22)), some (some (a + 23)), some (some (a + 24)), some (some (a + 25)), some (some (a + 26)), none, some (some (a + 27)), some (some (a + 28)), some (some (a + 29)), none, some (some (a + 30)), some (some (a + 31)), some (some (a + 32)), none, some (some (a + 33)), none, some (some (a + 34)), some (some (a + 35)), none, some (some (a + 36)), some (some (a + 37)), some (some (a + 38)), none, some (some (a + 39)), some (some (a + 40)), some (some (a + 41)), none, some (some (a + 42)), some (some (a + 43)), some (some (a + 44)), none, none, none, some (some (a + 45))])), .inl 49, .inl 294, .inl 49, .inl 12, .inl 12, .inl 12, .inl 8, .inl 8, .inl 600, .inl 400, .inl 132, .inl 2, .inl 48, .inl 48, .inl 48, .inl 48, .inl 1200, .inl 1200, .inl 40, .inl 32, .inl 192, .inl 24, .inl 11, .inl 420, .inl 3, .inl 3, .inl 10, .inl 10, .inl 10, .inl 8, .inl 8, .inl 16, .inl 216, .inl 6, .inl 6, .inl 10, .inl 400, .inl 20, .inl 12, .inl 3, .inl 3, .inl 7, .inl 7, .inl 7, .inl 2300]) (m12_9 a μ) 45 7954) : Ev RX12 cX12_init nL ret true d 45 7954 post 1156 [some (.ref a)] [] (pre ++ [.inr (.inr (10, [none, some (some (a + 1)), some (some (a + 2)), none, some (some (a + 3)), none, none, none, some (some (a + 4)), some (some (a + 5)), some (some (a + 6)), some (some (a + 7)), some (some (a + 8)), some (some (a + 9)), some (some (a + 10)), none, none, none, none, none, some (some (a + 11)), some (some (a + 12)), some (some (a + 13)), some (some (a + 14)), some (some (a + 15)), some (some (a + 16)), some (some (a + 17)), some (some (a + 18)), none, none, none, some (some (a + 19)), none, none, none, none, none, none, some (some (a + 20)), none, some (some (a + 21)), none, some (some (a + 22)), some (some (a + 23)), some (some (a + 24)), some (some (a + 25)), some (some (a + 26)), none, some (some (a + 27)), some (some (a + 28)), some (some (a + 29)), none, some (some (a + 30)), some (some (a + 31)), some (some (a + 32)), none, some (some (a + 33)), none, some (some (a + 34)), some (some (a + 35)), none, some (some (a + 36)), some (some (a + 37)), some (some (a + 38)), none, some (some (a + 39)), some (some (a + 40)), some (some (a + 41)), none, some (some (a + 42)), some (some (a + 43)), some (some (a + 44)), none, none, none, some none])), .inl 49, .inl 294, .inl 49, .inl 12, .inl 12, .inl 12, .inl 8, .inl 8, .inl 600, .inl 400, .inl 132, .inl 2, .inl 48, .inl 48, .inl 48, .inl 48, .inl 1200, .inl 1200, .inl 40, .inl 32, .inl 192, .inl 24, .inl 11, .inl 420, .inl 3, .inl 3, .inl 10, .inl 10, .inl 10, .inl 8, .inl 8, .inl 16, .inl 216, .inl 6, .inl 6, .inl 10, .inl 400, .inl 20, .inl 12, .inl 3, .inl 3, .inl 7, .inl 7, .inl 7]) μ 44 5654 := by
  refine ev_aload_n dX12_init_1156 rfl ?_
  refine ev_sipush (v := (2300 : Int32)) dX12_init_1157 (by decide) ?_
  refine ev_newaT (N := 2300) (q := a + 45) (L' := [_, _, _, _, _, _, _, _, _, _, _, _, _, _, _, _, _, _, _, _, _, _, _, _, _, _, _, _, _, _, _, _, _, _, _, _, _, _, _, _, _, _, _, _, _, _]) dX12_init_1160 (by decide) (by decide) (by decide) (by rw [ha]; rfl) rfl hw (okR_of (by simp only [okRl, List.length_cons, List.length_nil, and_true, Nat.lt_eq]; first | done | omega) (by simp only [okRs, List.length_cons, List.length_nil, and_true, Nat.lt_eq]; first | done | omega)) (Nat.le_of_ble_eq_true rfl) (Nat.le_of_ble_eq_true rfl) (fun hw => ?_)
  refine ev_putRT (L' := [_, _, _, _, _, _, _, _, _, _, _, _, _, _, _, _, _, _, _, _, _, _, _, _, _, _, _, _, _, _, _, _, _, _, _, _, _, _, _, _, _, _, _, _, _, _]) (k := 0) fr_X12_146 rfl rfl dX12_init_1162 ha rfl rfl (fun _ => rfl) (fun _ => rfl) (by simp only [List.length_cons, List.length_nil]; omega) rfl hw (fun hw => ?_)
  exact kk hw
def full_X12 (a : Nat ) : List Shp := [.inr (.inr (10, [none, some (some (a + 1)), some (some (a + 2)), none, some (some (a + 3)), none, none, none, some (some (a + 4)), some (some (a + 5)), some (some (a + 6)), some (some (a + 7)), some (some (a + 8)), some (some (a + 9)), some (some (a + 10)), none, none, none, none, none, some (some (a + 11)), some (some (a + 12)), some (some (a + 13)), some (some (a + 14)), some (some (a + 15)), some (some (a + 16)), some (some (a + 17)), some (some (a + 18)), none, none, none, some (some (a + 19)), none, none, none, none, none, none, some (some (a + 20)), none, some (some (a + 21)), none, some (some (a + 22)), some (some (a + 23)), some (some (a + 24)), some (some (a + 25)), some (some (a + 26)), none, some (some (a + 27)), some (some (a + 28)), some (some (a + 29)), none, some (some (a + 30)), some (some (a + 31)), some (some (a + 32)), none, some (some (a + 33)), none, some (some (a + 34)), some (some (a + 35)), none, some (some (a + 36)), some (some (a + 37)), some (some (a + 38)), none, some (some (a + 39)), some (some (a + 40)), some (some (a + 41)), none, some (some (a + 42)), some (some (a + 43)), some (some (a + 44)), none, none, none, some (some (a + 45))])), .inl 49, .inl 294, .inl 49, .inl 12, .inl 12, .inl 12, .inl 8, .inl 8, .inl 600, .inl 400, .inl 132, .inl 2, .inl 48, .inl 48, .inl 48, .inl 48, .inl 1200, .inl 1200, .inl 40, .inl 32, .inl 192, .inl 24, .inl 11, .inl 420, .inl 3, .inl 3, .inl 10, .inl 10, .inl 10, .inl 8, .inl 8, .inl 16, .inl 216, .inl 6, .inl 6, .inl 10, .inl 400, .inl 20, .inl 12, .inl 3, .inl 3, .inl 7, .inl 7, .inl 7, .inl 2300]
def f_X12_init (_ : Nat) (a : Nat) (μ : Mem) : Option Mem := some (m12_9 a (m12_8 a (m12_7 a (m12_6 a (m12_5 a (m12_4 a (m12_3 a (m12_2 a (m12_1 a (m12_0 a μ))))))))))
set_option maxHeartbeats 8000000 in
set_option maxRecDepth 100000 in
theorem c_X12_init {pre : List Shp} {G : Nat} {a : Nat} {μ : Mem} {μr : Mem} (ha : pre.length = a) (hw : wfS (pre ++ [.inr (.inr (10, [none, some none, some none, none, some none, none, none, none, some none, some none, some none, some none, some none, some none, some none, none, none, none, none, none, some none, some none, some none, some none, some none, some none, some none, some none, none, none, none, some none, none, none, none, none, none, none, some none, none, some none, none, some none, some none, some none, some none, some none, none, some none, some none, some none, none, some none, some none, some none, none, some none, none, some none, some none, none, some none, some none, some none, none, some none, some none, some none, none, some none, some none, some none, none, none, none, some none]))])) (h : f_X12_init G a μ = some μr) : Cn yX12_init cX12_init 1 none 2 45 7954 [.ref a] (pre ++ [.inr (.inr (10, [none, some none, some none, none, some none, none, none, none, some none, some none, some none, some none, some none, some none, some none, none, none, none, none, none, some none, some none, some none, some none, some none, some none, some none, some none, none, none, none, some none, none, none, none, none, none, none, some none, none, some none, none, some none, some none, some none, some none, some none, none, some none, some none, some none, none, some none, some none, some none, none, some none, none, some none, some none, none, some none, some none, some none, none, some none, some none, some none, none, some none, some none, some none, none, none, none, some none]))]) μ (ctP (pre ++ full_X12 a) μr) := by
  refine cn_of (own := RX12) (ini := true) (loc := [some (.ref a)]) rfl (by decide) (fun _ => rfl) (Nat.le_of_ble_eq_true rfl) (by rfl) rfl ?_
  unfold f_X12_init at h
  refine ev_aload_n dX12_init_0 rfl ?_
  refine ev_objInit ml_X12_1 w_oi1 w_oi2 dX12_init_1 (Nat.le_of_ble_eq_true rfl) (by rfl) (Nat.le_of_ble_eq_true rfl) ?_
  refine g12_0 ha hw (fun hw => ?_)
  refine g12_1 ha hw (fun hw => ?_)
  refine g12_2 ha hw (fun hw => ?_)
  refine g12_3 ha hw (fun hw => ?_)
  refine g12_4 ha hw (fun hw => ?_)
  refine g12_5 ha hw (fun hw => ?_)
  refine g12_6 ha hw (fun hw => ?_)
  refine g12_7 ha hw (fun hw => ?_)
  refine g12_8 ha hw (fun hw => ?_)
  refine g12_9 ha hw (fun hw => ?_)
  exact ev_vret rfl (Nat.le_of_ble_eq_true rfl) (Nat.le_of_ble_eq_true rfl) dX12_init_1165 (ctP_i hw h)
end
