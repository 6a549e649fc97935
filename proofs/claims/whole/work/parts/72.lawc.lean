/-! The law: one case after the other. -/
section LC
variable {κ : KX} {nL : Nat} {rt : Option FieldType} {δ : EX} {rm : Room} {A0 : Nat → Prop} {hh : List (Nat × Nat × Nat × Nat)} {Q : State → Prop} {cs sl : Nat} {sc n o i : Nat} {F : Nat → Int32} {ad b : Nat → Nat} {M : DS} {f : Nat → Int64} {th wd hg : Nat} {s : SS} {w : WS}
set_option maxHeartbeats 4000000 in
set_option maxRecDepth 100000 in
theorem lc_shape (X : XO κ R_L code nL rt δ rm A0 hh) (htr : (xl κ).stackTraces = false) (hE : Ncs (xs κ)) (hX : SC κ A0 sc n F) (hinj : Inj ad) (hR : Rel M s) (g : LG (fun q => A0 q ∨ (xs κ).heap.size ≤ q) o ad b) (hnL : 8 ≤ nL) (h1 : 13 ≤ rm.frames) (h2 : 400 ≤ rm.locals) (h3 : cs + 2 ≤ rm.cells) (h4 : sl + 12 ≤ rm.slots) (hi : i + 7 ≤ n) (h31 : n < 2 ^ 31) (nx : ∀ ad' M' f' th' wd' hg' s' w', Inj ad' → Ar ad' = Ar ad → ad' 0 = ad 0 → Rel M' s' → G κ nL δ (Kn κ A0) Q (cs + 1) (sl + 6) (LW δ ad' M' o f' b th' wd' hg' s' w') [(0, .ref sc), (1, .ref (ad 0)), (2, .ref (b 0)), (3, .ref o), (4, .int (nI i))] [] 1335) : G κ nL δ (Kn κ A0) Q cs sl (LW δ ad M o f b th wd hg s w) [(0, .ref sc), (1, .ref (ad 0)), (2, .ref (b 0)), (3, .ref o), (4, .int (nI i))] [] 116 := by
  have hJ := j_shape (δ := δ) (f := f) (th := th) (wd := wd) (hg := hg) (w := w) htr hinj g.1 hR g.2.1 (x0 := F (i + 1)) (x1 := F (i + 2)) (x2 := F (i + 3))
  refine g_aload_n X 1 d_L_law_116 rfl rfl ?_
  refine g_aload_n X 0 d_L_law_117 rfl rfl ?_
  refine g_iload X d_L_law_118 rfl ?_
  refine g_iconst X (v := nI 1) d_L_law_120 (by decide) ?_
  refine n_add X d_L_law_121 ?_
  refine g_sld X hX (by omega) h31 d_L_law_122 ?_
  refine g_aload_n X 0 d_L_law_123 rfl rfl ?_
  refine g_iload X d_L_law_124 rfl ?_
  refine g_iconst X (v := nI 2) d_L_law_126 (by decide) ?_
  refine n_add X d_L_law_127 ?_
  refine g_sld X hX (by omega) h31 d_L_law_128 ?_
  refine g_aload_n X 0 d_L_law_129 rfl rfl ?_
  refine g_iload X d_L_law_130 rfl ?_
  refine g_iconst X (v := nI 3) d_L_law_132 (by decide) ?_
  refine n_add X d_L_law_133 ?_
  refine g_sld X hX (by omega) h31 d_L_law_134 ?_
  refine l_call X hE hinj g s_L_77 hJ d_L_law_135 rfl (rk h1 h2 (by omega) (by omega) (by decide) (by decide)) (fun k ad' M' f' hk i1 i2 i3 hK => ?_)
  refine g_istore X d_L_law_138 (by omega) ?_
  refine g_aload_n X 2 d_L_law_140 rfl rfl ?_
  refine g_aload_n X 0 d_L_law_141 rfl rfl ?_
  refine g_iload X d_L_law_142 rfl ?_
  refine g_iconst X (v := nI 1) d_L_law_144 (by decide) ?_
  refine n_add X d_L_law_145 ?_
  refine g_sld X hX (by omega) h31 d_L_law_146 ?_
  refine g_aload_n X 0 d_L_law_147 rfl rfl ?_
  refine g_iload X d_L_law_148 rfl ?_
  refine g_iconst X (v := nI 2) d_L_law_150 (by decide) ?_
  refine n_add X d_L_law_151 ?_
  refine g_sld X hX (by omega) h31 d_L_law_152 ?_
  refine g_aload_n X 0 d_L_law_153 rfl rfl ?_
  refine g_iload X d_L_law_154 rfl ?_
  refine g_iconst X (v := nI 3) d_L_law_156 (by decide) ?_
  refine n_add X d_L_law_157 ?_
  refine g_sld X hX (by omega) h31 d_L_law_158 ?_
  refine r_call X i1 (g.swap i2) v_L_82 rfl hK d_L_law_159 rfl (rk h1 h2 (by omega) (by omega) (by decide) (by decide)) (fun u wd' hg' s' w' hu hR2 => ?_)
  obtain rfl : u = none := hu
  refine g_aload_n X 2 d_L_law_162 rfl rfl ?_
  refine t_call X htr i1 (g.swap i2) d_L_law_163 (rk h1 h2 (by omega) (by omega) (by decide) (by decide)) ?_
  refine g_iload X d_L_law_166 rfl ?_
  refine n_eq X 173 d_L_law_168 (by decide) (by omega) (by omega) (fun _ => ?_) (fun q => absurd rfl q)
  refine g_goto X 1335 d_L_law_173 (by decide) ?_
  exact g_sb (nx ad' M' f' k wd' hg' s' w' i1 i2 i3 hR2) ⟨rfl, rfl, rfl, rfl, rfl, trivial⟩
set_option maxHeartbeats 4000000 in
set_option maxRecDepth 100000 in
theorem lc_put (X : XO κ R_L code nL rt δ rm A0 hh) (htr : (xl κ).stackTraces = false) (hE : Ncs (xs κ)) (hX : SC κ A0 sc n F) (hinj : Inj ad) (hR : Rel M s) (g : LG (fun q => A0 q ∨ (xs κ).heap.size ≤ q) o ad b) (hnL : 8 ≤ nL) (h1 : 13 ≤ rm.frames) (h2 : 400 ≤ rm.locals) (h3 : cs + 2 ≤ rm.cells) (h4 : sl + 12 ≤ rm.slots) (hi : i + 7 ≤ n) (h31 : n < 2 ^ 31) (nx : ∀ ad' M' f' th' wd' hg' s' w', Inj ad' → Ar ad' = Ar ad → ad' 0 = ad 0 → Rel M' s' → G κ nL δ (Kn κ A0) Q (cs + 1) (sl + 6) (LW δ ad' M' o f' b th' wd' hg' s' w') [(0, .ref sc), (1, .ref (ad 0)), (2, .ref (b 0)), (3, .ref o), (4, .int (nI i))] [] 1335) : G κ nL δ (Kn κ A0) Q cs sl (LW δ ad M o f b th wd hg s w) [(0, .ref sc), (1, .ref (ad 0)), (2, .ref (b 0)), (3, .ref o), (4, .int (nI i))] [] 176 := by
  have hJ := j_put (δ := δ) (f := f) (th := th) (wd := wd) (hg := hg) (w := w) htr hinj g.1 hR g.2.1 (x0 := F (i + 1)) (x1 := F (i + 2)) (x2 := F (i + 3)) (x3 := ((F (i + 4)).toInt64 <<< ((nI 32).toInt64 &&& 63) ||| ((F (i + 5)).toInt64 &&& 4294967295)))
  refine g_aload_n X 1 d_L_law_176 rfl rfl ?_
  refine g_aload_n X 0 d_L_law_177 rfl rfl ?_
  refine g_iload X d_L_law_178 rfl ?_
  refine g_iconst X (v := nI 1) d_L_law_180 (by decide) ?_
  refine n_add X d_L_law_181 ?_
  refine g_sld X hX (by omega) h31 d_L_law_182 ?_
  refine g_aload_n X 0 d_L_law_183 rfl rfl ?_
  refine g_iload X d_L_law_184 rfl ?_
  refine g_iconst X (v := nI 2) d_L_law_186 (by decide) ?_
  refine n_add X d_L_law_187 ?_
  refine g_sld X hX (by omega) h31 d_L_law_188 ?_
  refine g_aload_n X 0 d_L_law_189 rfl rfl ?_
  refine g_iload X d_L_law_190 rfl ?_
  refine g_iconst X (v := nI 3) d_L_law_192 (by decide) ?_
  refine n_add X d_L_law_193 ?_
  refine g_sld X hX (by omega) h31 d_L_law_194 ?_
  refine g_aload_n X 0 d_L_law_195 rfl rfl ?_
  refine g_iload X d_L_law_196 rfl ?_
  refine g_iconst X (v := nI 4) d_L_law_198 (by decide) ?_
  refine n_add X d_L_law_199 ?_
  refine g_sld X hX (by omega) h31 d_L_law_200 ?_
  refine g_i2l X d_L_law_201 ?_
  refine g_bipush X (v := nI 32) d_L_law_202 (by decide) ?_
  refine g_lshl X d_L_law_204 ?_
  refine g_aload_n X 0 d_L_law_205 rfl rfl ?_
  refine g_iload X d_L_law_206 rfl ?_
  refine g_iconst X (v := nI 5) d_L_law_208 (by decide) ?_
  refine n_add X d_L_law_209 ?_
  refine g_sld X hX (by omega) h31 d_L_law_210 ?_
  refine g_i2l X d_L_law_211 ?_
  refine g_ldc2 X d_L_law_212 kq_L_87 ?_
  refine g_land X d_L_law_215 ?_
  refine g_lor X d_L_law_216 ?_
  refine l_call X hE hinj g s_L_89 hJ d_L_law_217 rfl (rk h1 h2 (by omega) (by omega) (by decide) (by decide)) (fun k ad' M' f' hk i1 i2 i3 hK => ?_)
  refine g_istore X d_L_law_220 (by omega) ?_
  refine g_aload_n X 2 d_L_law_222 rfl rfl ?_
  refine g_aload_n X 0 d_L_law_223 rfl rfl ?_
  refine g_iload X d_L_law_224 rfl ?_
  refine g_iconst X (v := nI 1) d_L_law_226 (by decide) ?_
  refine n_add X d_L_law_227 ?_
  refine g_sld X hX (by omega) h31 d_L_law_228 ?_
  refine g_aload_n X 0 d_L_law_229 rfl rfl ?_
  refine g_iload X d_L_law_230 rfl ?_
  refine g_iconst X (v := nI 2) d_L_law_232 (by decide) ?_
  refine n_add X d_L_law_233 ?_
  refine g_sld X hX (by omega) h31 d_L_law_234 ?_
  refine g_aload_n X 0 d_L_law_235 rfl rfl ?_
  refine g_iload X d_L_law_236 rfl ?_
  refine g_iconst X (v := nI 3) d_L_law_238 (by decide) ?_
  refine n_add X d_L_law_239 ?_
  refine g_sld X hX (by omega) h31 d_L_law_240 ?_
  refine g_aload_n X 0 d_L_law_241 rfl rfl ?_
  refine g_iload X d_L_law_242 rfl ?_
  refine g_iconst X (v := nI 4) d_L_law_244 (by decide) ?_
  refine n_add X d_L_law_245 ?_
  refine g_sld X hX (by omega) h31 d_L_law_246 ?_
  refine g_i2l X d_L_law_247 ?_
  refine g_bipush X (v := nI 32) d_L_law_248 (by decide) ?_
  refine g_lshl X d_L_law_250 ?_
  refine g_aload_n X 0 d_L_law_251 rfl rfl ?_
  refine g_iload X d_L_law_252 rfl ?_
  refine g_iconst X (v := nI 5) d_L_law_254 (by decide) ?_
  refine n_add X d_L_law_255 ?_
  refine g_sld X hX (by omega) h31 d_L_law_256 ?_
  refine g_i2l X d_L_law_257 ?_
  refine g_ldc2 X d_L_law_258 kq_L_87 ?_
  refine g_land X d_L_law_261 ?_
  refine g_lor X d_L_law_262 ?_
  refine r_call X i1 (g.swap i2) v_L_92 rfl hK d_L_law_263 rfl (rk h1 h2 (by omega) (by omega) (by decide) (by decide)) (fun u wd' hg' s' w' hu hR2 => ?_)
  obtain rfl : u = none := hu
  refine g_aload_n X 2 d_L_law_266 rfl rfl ?_
  refine t_call X htr i1 (g.swap i2) d_L_law_267 (rk h1 h2 (by omega) (by omega) (by decide) (by decide)) ?_
  refine g_iload X d_L_law_270 rfl ?_
  refine n_eq X 277 d_L_law_272 (by decide) (by omega) (by omega) (fun _ => ?_) (fun q => absurd rfl q)
  refine g_goto X 1335 d_L_law_277 (by decide) ?_
  exact g_sb (nx ad' M' f' k wd' hg' s' w' i1 i2 i3 hR2) ⟨rfl, rfl, rfl, rfl, rfl, trivial⟩
set_option maxHeartbeats 4000000 in
set_option maxRecDepth 100000 in
theorem lc_drop (X : XO κ R_L code nL rt δ rm A0 hh) (htr : (xl κ).stackTraces = false) (hE : Ncs (xs κ)) (hX : SC κ A0 sc n F) (hinj : Inj ad) (hR : Rel M s) (g : LG (fun q => A0 q ∨ (xs κ).heap.size ≤ q) o ad b) (hnL : 8 ≤ nL) (h1 : 13 ≤ rm.frames) (h2 : 400 ≤ rm.locals) (h3 : cs + 2 ≤ rm.cells) (h4 : sl + 12 ≤ rm.slots) (hi : i + 7 ≤ n) (h31 : n < 2 ^ 31) (nx : ∀ ad' M' f' th' wd' hg' s' w', Inj ad' → Ar ad' = Ar ad → ad' 0 = ad 0 → Rel M' s' → G κ nL δ (Kn κ A0) Q (cs + 1) (sl + 6) (LW δ ad' M' o f' b th' wd' hg' s' w') [(0, .ref sc), (1, .ref (ad 0)), (2, .ref (b 0)), (3, .ref o), (4, .int (nI i))] [] 1335) : G κ nL δ (Kn κ A0) Q cs sl (LW δ ad M o f b th wd hg s w) [(0, .ref sc), (1, .ref (ad 0)), (2, .ref (b 0)), (3, .ref o), (4, .int (nI i))] [] 280 := by
  have hJ := j_drop (δ := δ) (f := f) (th := th) (wd := wd) (hg := hg) (w := w) htr hinj g.1 hR g.2.1 (x0 := F (i + 1)) (x1 := F (i + 2)) (x2 := F (i + 3))
  refine g_aload_n X 1 d_L_law_280 rfl rfl ?_
  refine g_aload_n X 0 d_L_law_281 rfl rfl ?_
  refine g_iload X d_L_law_282 rfl ?_
  refine g_iconst X (v := nI 1) d_L_law_284 (by decide) ?_
  refine n_add X d_L_law_285 ?_
  refine g_sld X hX (by omega) h31 d_L_law_286 ?_
  refine g_aload_n X 0 d_L_law_287 rfl rfl ?_
  refine g_iload X d_L_law_288 rfl ?_
  refine g_iconst X (v := nI 2) d_L_law_290 (by decide) ?_
  refine n_add X d_L_law_291 ?_
  refine g_sld X hX (by omega) h31 d_L_law_292 ?_
  refine g_aload_n X 0 d_L_law_293 rfl rfl ?_
  refine g_iload X d_L_law_294 rfl ?_
  refine g_iconst X (v := nI 3) d_L_law_296 (by decide) ?_
  refine n_add X d_L_law_297 ?_
  refine g_sld X hX (by omega) h31 d_L_law_298 ?_
  refine g_aload_n X 3 d_L_law_299 rfl rfl ?_
  refine l_call X hE hinj g s_L_93 hJ d_L_law_300 rfl (rk h1 h2 (by omega) (by omega) (by decide) (by decide)) (fun k ad' M' f' hk i1 i2 i3 hK => ?_)
  refine g_istore X d_L_law_303 (by omega) ?_
  refine g_aload_n X 2 d_L_law_305 rfl rfl ?_
  refine g_aload_n X 0 d_L_law_306 rfl rfl ?_
  refine g_iload X d_L_law_307 rfl ?_
  refine g_iconst X (v := nI 1) d_L_law_309 (by decide) ?_
  refine n_add X d_L_law_310 ?_
  refine g_sld X hX (by omega) h31 d_L_law_311 ?_
  refine g_aload_n X 0 d_L_law_312 rfl rfl ?_
  refine g_iload X d_L_law_313 rfl ?_
  refine g_iconst X (v := nI 2) d_L_law_315 (by decide) ?_
  refine n_add X d_L_law_316 ?_
  refine g_sld X hX (by omega) h31 d_L_law_317 ?_
  refine g_aload_n X 0 d_L_law_318 rfl rfl ?_
  refine g_iload X d_L_law_319 rfl ?_
  refine g_iconst X (v := nI 3) d_L_law_321 (by decide) ?_
  refine n_add X d_L_law_322 ?_
  refine g_sld X hX (by omega) h31 d_L_law_323 ?_
  refine r_call X i1 (g.swap i2) v_L_96 rfl hK d_L_law_324 rfl (rk h1 h2 (by omega) (by omega) (by decide) (by decide)) (fun u wd' hg' s' w' hu hR2 => ?_)
  obtain ⟨z, rfl, hz⟩ : ∃ z : Bool, u = some (.int (b2 z)) ∧ (k = 0 → f' 0 = if z = true then 1 else 0) := hu
  refine g_istore X d_L_law_327 (by omega) ?_
  refine g_aload_n X 2 d_L_law_329 rfl rfl ?_
  refine t_call X htr i1 (g.swap i2) d_L_law_330 (rk h1 h2 (by omega) (by omega) (by decide) (by decide)) ?_
  refine g_iload X d_L_law_333 rfl ?_
  refine n_eq X 340 d_L_law_335 (by decide) (by omega) (by omega) (fun _ => ?_) (fun q => absurd rfl q)
  refine g_iload X d_L_law_340 rfl ?_
  refine n_zn X 364 d_L_law_342 (by decide) (by omega) (fun _ => ?_) (fun h0 => ?_)
  · refine g_goto X 1335 d_L_law_364 (by decide) ?_
    exact g_sb (nx ad' M' f' k wd' hg' s' w' i1 i2 i3 hR2) ⟨rfl, rfl, rfl, rfl, rfl, trivial⟩
  · refine g_aload_n X 3 d_L_law_345 rfl rfl ?_
    refine g_iconst X (v := nI 0) d_L_law_346 (by decide) ?_
    refine g_lald X (q0 := 23) LW_o rfl (by decide) (by decide) d_L_law_347 ?_
    refine g_iload X d_L_law_348 rfl ?_
    refine z_eq X 357 d_L_law_350 (by decide) (fun hq => ?_) (fun hq => ?_)
    · subst hq
      refine g_lconst X (v := 0) d_L_law_357 (by decide) ?_
      refine l_eq X 364 d_L_law_358 d_L_law_359 (by decide) (fun _ => ?_) (fun q => absurd (hz h0) q)
      refine g_goto X 1335 d_L_law_364 (by decide) ?_
      exact g_sb (nx ad' M' f' k wd' hg' s' w' i1 i2 i3 hR2) ⟨rfl, rfl, rfl, rfl, rfl, trivial⟩
    · subst hq
      refine g_lconst X (v := 1) d_L_law_353 (by decide) ?_
      refine g_goto X 358 d_L_law_354 (by decide) ?_
      refine l_eq X 364 d_L_law_358 d_L_law_359 (by decide) (fun _ => ?_) (fun q => absurd (hz h0) q)
      refine g_goto X 1335 d_L_law_364 (by decide) ?_
      exact g_sb (nx ad' M' f' k wd' hg' s' w' i1 i2 i3 hR2) ⟨rfl, rfl, rfl, rfl, rfl, trivial⟩
set_option maxHeartbeats 4000000 in
set_option maxRecDepth 100000 in
theorem lc_at (X : XO κ R_L code nL rt δ rm A0 hh) (htr : (xl κ).stackTraces = false) (hE : Ncs (xs κ)) (hX : SC κ A0 sc n F) (hinj : Inj ad) (hR : Rel M s) (g : LG (fun q => A0 q ∨ (xs κ).heap.size ≤ q) o ad b) (hnL : 8 ≤ nL) (h1 : 13 ≤ rm.frames) (h2 : 400 ≤ rm.locals) (h3 : cs + 2 ≤ rm.cells) (h4 : sl + 12 ≤ rm.slots) (hi : i + 7 ≤ n) (h31 : n < 2 ^ 31) (nx : ∀ ad' M' f' th' wd' hg' s' w', Inj ad' → Ar ad' = Ar ad → ad' 0 = ad 0 → Rel M' s' → G κ nL δ (Kn κ A0) Q (cs + 1) (sl + 6) (LW δ ad' M' o f' b th' wd' hg' s' w') [(0, .ref sc), (1, .ref (ad 0)), (2, .ref (b 0)), (3, .ref o), (4, .int (nI i))] [] 1335) : G κ nL δ (Kn κ A0) Q cs sl (LW δ ad M o f b th wd hg s w) [(0, .ref sc), (1, .ref (ad 0)), (2, .ref (b 0)), (3, .ref o), (4, .int (nI i))] [] 367 := by
  have hJ := j_at (δ := δ) (f := f) (th := th) (wd := wd) (hg := hg) (w := w) htr hinj g.1 hR g.2.1 (x0 := F (i + 1)) (x1 := F (i + 2)) (x2 := F (i + 3))
  refine g_aload_n X 1 d_L_law_367 rfl rfl ?_
  refine g_aload_n X 0 d_L_law_368 rfl rfl ?_
  refine g_iload X d_L_law_369 rfl ?_
  refine g_iconst X (v := nI 1) d_L_law_371 (by decide) ?_
  refine n_add X d_L_law_372 ?_
  refine g_sld X hX (by omega) h31 d_L_law_373 ?_
  refine g_aload_n X 0 d_L_law_374 rfl rfl ?_
  refine g_iload X d_L_law_375 rfl ?_
  refine g_iconst X (v := nI 2) d_L_law_377 (by decide) ?_
  refine n_add X d_L_law_378 ?_
  refine g_sld X hX (by omega) h31 d_L_law_379 ?_
  refine g_aload_n X 0 d_L_law_380 rfl rfl ?_
  refine g_iload X d_L_law_381 rfl ?_
  refine g_iconst X (v := nI 3) d_L_law_383 (by decide) ?_
  refine n_add X d_L_law_384 ?_
  refine g_sld X hX (by omega) h31 d_L_law_385 ?_
  refine g_aload_n X 3 d_L_law_386 rfl rfl ?_
  refine l_call X hE hinj g s_L_97 hJ d_L_law_387 rfl (rk h1 h2 (by omega) (by omega) (by decide) (by decide)) (fun k ad' M' f' hk i1 i2 i3 hK => ?_)
  refine g_istore X d_L_law_390 (by omega) ?_
  refine g_aload_n X 2 d_L_law_392 rfl rfl ?_
  refine g_aload_n X 0 d_L_law_393 rfl rfl ?_
  refine g_iload X d_L_law_394 rfl ?_
  refine g_iconst X (v := nI 1) d_L_law_396 (by decide) ?_
  refine n_add X d_L_law_397 ?_
  refine g_sld X hX (by omega) h31 d_L_law_398 ?_
  refine g_aload_n X 0 d_L_law_399 rfl rfl ?_
  refine g_iload X d_L_law_400 rfl ?_
  refine g_iconst X (v := nI 2) d_L_law_402 (by decide) ?_
  refine n_add X d_L_law_403 ?_
  refine g_sld X hX (by omega) h31 d_L_law_404 ?_
  refine g_aload_n X 0 d_L_law_405 rfl rfl ?_
  refine g_iload X d_L_law_406 rfl ?_
  refine g_iconst X (v := nI 3) d_L_law_408 (by decide) ?_
  refine n_add X d_L_law_409 ?_
  refine g_sld X hX (by omega) h31 d_L_law_410 ?_
  refine r_call X i1 (g.swap i2) v_L_99 rfl hK d_L_law_411 rfl (rk h1 h2 (by omega) (by omega) (by decide) (by decide)) (fun u wd' hg' s' w' hu hR2 => ?_)
  obtain ⟨z, rfl, hz⟩ : ∃ z : Int64, u = some (.long z) ∧ (k = 0 → f' 0 = z) := hu
  refine g_lstore X d_L_law_414 (by omega) ?_
  refine g_aload_n X 2 d_L_law_416 rfl rfl ?_
  refine t_call X htr i1 (g.swap i2) d_L_law_417 (rk h1 h2 (by omega) (by omega) (by decide) (by decide)) ?_
  refine g_iload X d_L_law_420 rfl ?_
  refine n_eq X 427 d_L_law_422 (by decide) (by omega) (by omega) (fun _ => ?_) (fun q => absurd rfl q)
  refine g_iload X d_L_law_427 rfl ?_
  refine n_zn X 443 d_L_law_429 (by decide) (by omega) (fun _ => ?_) (fun h0 => ?_)
  · refine g_goto X 1335 d_L_law_443 (by decide) ?_
    exact g_sb (nx ad' M' f' k wd' hg' s' w' i1 i2 i3 hR2) ⟨rfl, rfl, rfl, rfl, rfl, trivial⟩
  · refine g_aload_n X 3 d_L_law_432 rfl rfl ?_
    refine g_iconst X (v := nI 0) d_L_law_433 (by decide) ?_
    refine g_lald X (q0 := 23) LW_o rfl (by decide) (by decide) d_L_law_434 ?_
    refine g_lload X d_L_law_435 rfl ?_
    refine l_eq X 443 d_L_law_437 d_L_law_438 (by decide) (fun _ => ?_) (fun q => absurd (hz h0) q)
    refine g_goto X 1335 d_L_law_443 (by decide) ?_
    exact g_sb (nx ad' M' f' k wd' hg' s' w' i1 i2 i3 hR2) ⟨rfl, rfl, rfl, rfl, rfl, trivial⟩
set_option maxHeartbeats 4000000 in
set_option maxRecDepth 100000 in
theorem lc_size (X : XO κ R_L code nL rt δ rm A0 hh) (htr : (xl κ).stackTraces = false) (hE : Ncs (xs κ)) (hX : SC κ A0 sc n F) (hinj : Inj ad) (hR : Rel M s) (g : LG (fun q => A0 q ∨ (xs κ).heap.size ≤ q) o ad b) (hnL : 8 ≤ nL) (h1 : 13 ≤ rm.frames) (h2 : 400 ≤ rm.locals) (h3 : cs + 2 ≤ rm.cells) (h4 : sl + 12 ≤ rm.slots) (hi : i + 7 ≤ n) (h31 : n < 2 ^ 31) (nx : ∀ ad' M' f' th' wd' hg' s' w', Inj ad' → Ar ad' = Ar ad → ad' 0 = ad 0 → Rel M' s' → G κ nL δ (Kn κ A0) Q (cs + 1) (sl + 6) (LW δ ad' M' o f' b th' wd' hg' s' w') [(0, .ref sc), (1, .ref (ad 0)), (2, .ref (b 0)), (3, .ref o), (4, .int (nI i))] [] 1335) : G κ nL δ (Kn κ A0) Q cs sl (LW δ ad M o f b th wd hg s w) [(0, .ref sc), (1, .ref (ad 0)), (2, .ref (b 0)), (3, .ref o), (4, .int (nI i))] [] 446 := by
  have hJ := j_size (δ := δ) (f := f) (th := th) (wd := wd) (hg := hg) (w := w) htr hinj g.1 hR g.2.1 (x0 := F (i + 1))
  refine g_aload_n X 1 d_L_law_446 rfl rfl ?_
  refine g_aload_n X 0 d_L_law_447 rfl rfl ?_
  refine g_iload X d_L_law_448 rfl ?_
  refine g_iconst X (v := nI 1) d_L_law_450 (by decide) ?_
  refine n_add X d_L_law_451 ?_
  refine g_sld X hX (by omega) h31 d_L_law_452 ?_
  refine g_aload_n X 3 d_L_law_453 rfl rfl ?_
  refine l_call X hE hinj g s_L_100 hJ d_L_law_454 rfl (rk h1 h2 (by omega) (by omega) (by decide) (by decide)) (fun k ad' M' f' hk i1 i2 i3 hK => ?_)
  refine g_istore X d_L_law_457 (by omega) ?_
  refine g_aload_n X 2 d_L_law_459 rfl rfl ?_
  refine g_aload_n X 0 d_L_law_460 rfl rfl ?_
  refine g_iload X d_L_law_461 rfl ?_
  refine g_iconst X (v := nI 1) d_L_law_463 (by decide) ?_
  refine n_add X d_L_law_464 ?_
  refine g_sld X hX (by omega) h31 d_L_law_465 ?_
  refine r_call X i1 (g.swap i2) v_L_103 rfl hK d_L_law_466 rfl (rk h1 h2 (by omega) (by omega) (by decide) (by decide)) (fun u wd' hg' s' w' hu hR2 => ?_)
  obtain ⟨z, rfl, hz⟩ : ∃ z : Int32, u = some (.int z) ∧ (k = 0 → f' 0 = z.toInt64) := hu
  refine g_istore X d_L_law_469 (by omega) ?_
  refine g_aload_n X 2 d_L_law_471 rfl rfl ?_
  refine t_call X htr i1 (g.swap i2) d_L_law_472 (rk h1 h2 (by omega) (by omega) (by decide) (by decide)) ?_
  refine g_iload X d_L_law_475 rfl ?_
  refine n_eq X 482 d_L_law_477 (by decide) (by omega) (by omega) (fun _ => ?_) (fun q => absurd rfl q)
  refine g_iload X d_L_law_482 rfl ?_
  refine n_zn X 499 d_L_law_484 (by decide) (by omega) (fun _ => ?_) (fun h0 => ?_)
  · refine g_goto X 1335 d_L_law_499 (by decide) ?_
    exact g_sb (nx ad' M' f' k wd' hg' s' w' i1 i2 i3 hR2) ⟨rfl, rfl, rfl, rfl, rfl, trivial⟩
  · refine g_aload_n X 3 d_L_law_487 rfl rfl ?_
    refine g_iconst X (v := nI 0) d_L_law_488 (by decide) ?_
    refine g_lald X (q0 := 23) LW_o rfl (by decide) (by decide) d_L_law_489 ?_
    refine g_iload X d_L_law_490 rfl ?_
    refine g_i2l X d_L_law_492 ?_
    refine l_eq X 499 d_L_law_493 d_L_law_494 (by decide) (fun _ => ?_) (fun q => absurd (hz h0) q)
    refine g_goto X 1335 d_L_law_499 (by decide) ?_
    exact g_sb (nx ad' M' f' k wd' hg' s' w' i1 i2 i3 hR2) ⟨rfl, rfl, rfl, rfl, rfl, trivial⟩
set_option maxHeartbeats 4000000 in
set_option maxRecDepth 100000 in
theorem lc_multiply (X : XO κ R_L code nL rt δ rm A0 hh) (htr : (xl κ).stackTraces = false) (hE : Ncs (xs κ)) (hX : SC κ A0 sc n F) (hinj : Inj ad) (hR : Rel M s) (g : LG (fun q => A0 q ∨ (xs κ).heap.size ≤ q) o ad b) (hnL : 8 ≤ nL) (h1 : 13 ≤ rm.frames) (h2 : 400 ≤ rm.locals) (h3 : cs + 2 ≤ rm.cells) (h4 : sl + 12 ≤ rm.slots) (hi : i + 7 ≤ n) (h31 : n < 2 ^ 31) (nx : ∀ ad' M' f' th' wd' hg' s' w', Inj ad' → Ar ad' = Ar ad → ad' 0 = ad 0 → Rel M' s' → G κ nL δ (Kn κ A0) Q (cs + 1) (sl + 6) (LW δ ad' M' o f' b th' wd' hg' s' w') [(0, .ref sc), (1, .ref (ad 0)), (2, .ref (b 0)), (3, .ref o), (4, .int (nI i))] [] 1335) : G κ nL δ (Kn κ A0) Q cs sl (LW δ ad M o f b th wd hg s w) [(0, .ref sc), (1, .ref (ad 0)), (2, .ref (b 0)), (3, .ref o), (4, .int (nI i))] [] 502 := by
  have hJ := j_multiply (δ := δ) (f := f) (th := th) (wd := wd) (hg := hg) (w := w) htr hinj g.1 hR g.2.1 (x0 := F (i + 1)) (x1 := F (i + 2)) (x2 := F (i + 3)) (x3 := F (i + 4)) (x4 := F (i + 5)) (x5 := F (i + 6))
  refine g_aload_n X 1 d_L_law_502 rfl rfl ?_
  refine g_aload_n X 0 d_L_law_503 rfl rfl ?_
  refine g_iload X d_L_law_504 rfl ?_
  refine g_iconst X (v := nI 1) d_L_law_506 (by decide) ?_
  refine n_add X d_L_law_507 ?_
  refine g_sld X hX (by omega) h31 d_L_law_508 ?_
  refine g_aload_n X 0 d_L_law_509 rfl rfl ?_
  refine g_iload X d_L_law_510 rfl ?_
  refine g_iconst X (v := nI 2) d_L_law_512 (by decide) ?_
  refine n_add X d_L_law_513 ?_
  refine g_sld X hX (by omega) h31 d_L_law_514 ?_
  refine g_aload_n X 0 d_L_law_515 rfl rfl ?_
  refine g_iload X d_L_law_516 rfl ?_
  refine g_iconst X (v := nI 3) d_L_law_518 (by decide) ?_
  refine n_add X d_L_law_519 ?_
  refine g_sld X hX (by omega) h31 d_L_law_520 ?_
  refine g_aload_n X 0 d_L_law_521 rfl rfl ?_
  refine g_iload X d_L_law_522 rfl ?_
  refine g_iconst X (v := nI 4) d_L_law_524 (by decide) ?_
  refine n_add X d_L_law_525 ?_
  refine g_sld X hX (by omega) h31 d_L_law_526 ?_
  refine g_aload_n X 0 d_L_law_527 rfl rfl ?_
  refine g_iload X d_L_law_528 rfl ?_
  refine g_iconst X (v := nI 5) d_L_law_530 (by decide) ?_
  refine n_add X d_L_law_531 ?_
  refine g_sld X hX (by omega) h31 d_L_law_532 ?_
  refine g_aload_n X 0 d_L_law_533 rfl rfl ?_
  refine g_iload X d_L_law_534 rfl ?_
  refine g_bipush X (v := nI 6) d_L_law_536 (by decide) ?_
  refine n_add X d_L_law_538 ?_
  refine g_sld X hX (by omega) h31 d_L_law_539 ?_
  refine g_aload_n X 3 d_L_law_540 rfl rfl ?_
  refine l_call X hE hinj g s_L_104 hJ d_L_law_541 rfl (rk h1 h2 (by omega) (by omega) (by decide) (by decide)) (fun k ad' M' f' hk i1 i2 i3 hK => ?_)
  refine g_istore X d_L_law_544 (by omega) ?_
  refine g_aload_n X 2 d_L_law_546 rfl rfl ?_
  refine g_aload_n X 0 d_L_law_547 rfl rfl ?_
  refine g_iload X d_L_law_548 rfl ?_
  refine g_iconst X (v := nI 1) d_L_law_550 (by decide) ?_
  refine n_add X d_L_law_551 ?_
  refine g_sld X hX (by omega) h31 d_L_law_552 ?_
  refine g_aload_n X 0 d_L_law_553 rfl rfl ?_
  refine g_iload X d_L_law_554 rfl ?_
  refine g_iconst X (v := nI 2) d_L_law_556 (by decide) ?_
  refine n_add X d_L_law_557 ?_
  refine g_sld X hX (by omega) h31 d_L_law_558 ?_
  refine g_aload_n X 0 d_L_law_559 rfl rfl ?_
  refine g_iload X d_L_law_560 rfl ?_
  refine g_iconst X (v := nI 3) d_L_law_562 (by decide) ?_
  refine n_add X d_L_law_563 ?_
  refine g_sld X hX (by omega) h31 d_L_law_564 ?_
  refine g_aload_n X 0 d_L_law_565 rfl rfl ?_
  refine g_iload X d_L_law_566 rfl ?_
  refine g_iconst X (v := nI 4) d_L_law_568 (by decide) ?_
  refine n_add X d_L_law_569 ?_
  refine g_sld X hX (by omega) h31 d_L_law_570 ?_
  refine g_aload_n X 0 d_L_law_571 rfl rfl ?_
  refine g_iload X d_L_law_572 rfl ?_
  refine g_iconst X (v := nI 5) d_L_law_574 (by decide) ?_
  refine n_add X d_L_law_575 ?_
  refine g_sld X hX (by omega) h31 d_L_law_576 ?_
  refine g_aload_n X 0 d_L_law_577 rfl rfl ?_
  refine g_iload X d_L_law_578 rfl ?_
  refine g_bipush X (v := nI 6) d_L_law_580 (by decide) ?_
  refine n_add X d_L_law_582 ?_
  refine g_sld X hX (by omega) h31 d_L_law_583 ?_
  refine r_call X i1 (g.swap i2) v_L_107 rfl hK d_L_law_584 rfl (rk h1 h2 (by omega) (by omega) (by decide) (by decide)) (fun u wd' hg' s' w' hu hR2 => ?_)
  obtain ⟨z, rfl, hz⟩ : ∃ z : Int32, u = some (.int z) ∧ (k = 0 → f' 0 = z.toInt64) := hu
  refine g_istore X d_L_law_587 (by omega) ?_
  refine g_aload_n X 2 d_L_law_589 rfl rfl ?_
  refine t_call X htr i1 (g.swap i2) d_L_law_590 (rk h1 h2 (by omega) (by omega) (by decide) (by decide)) ?_
  refine g_iload X d_L_law_593 rfl ?_
  refine n_eq X 600 d_L_law_595 (by decide) (by omega) (by omega) (fun _ => ?_) (fun q => absurd rfl q)
  refine g_iload X d_L_law_600 rfl ?_
  refine n_zn X 617 d_L_law_602 (by decide) (by omega) (fun _ => ?_) (fun h0 => ?_)
  · refine g_goto X 1335 d_L_law_617 (by decide) ?_
    exact g_sb (nx ad' M' f' k wd' hg' s' w' i1 i2 i3 hR2) ⟨rfl, rfl, rfl, rfl, rfl, trivial⟩
  · refine g_aload_n X 3 d_L_law_605 rfl rfl ?_
    refine g_iconst X (v := nI 0) d_L_law_606 (by decide) ?_
    refine g_lald X (q0 := 23) LW_o rfl (by decide) (by decide) d_L_law_607 ?_
    refine g_iload X d_L_law_608 rfl ?_
    refine g_i2l X d_L_law_610 ?_
    refine l_eq X 617 d_L_law_611 d_L_law_612 (by decide) (fun _ => ?_) (fun q => absurd (hz h0) q)
    refine g_goto X 1335 d_L_law_617 (by decide) ?_
    exact g_sb (nx ad' M' f' k wd' hg' s' w' i1 i2 i3 hR2) ⟨rfl, rfl, rfl, rfl, rfl, trivial⟩
set_option maxHeartbeats 4000000 in
set_option maxRecDepth 100000 in
theorem lc_add (X : XO κ R_L code nL rt δ rm A0 hh) (htr : (xl κ).stackTraces = false) (hE : Ncs (xs κ)) (hX : SC κ A0 sc n F) (hinj : Inj ad) (hR : Rel M s) (g : LG (fun q => A0 q ∨ (xs κ).heap.size ≤ q) o ad b) (hnL : 8 ≤ nL) (h1 : 13 ≤ rm.frames) (h2 : 400 ≤ rm.locals) (h3 : cs + 2 ≤ rm.cells) (h4 : sl + 12 ≤ rm.slots) (hi : i + 7 ≤ n) (h31 : n < 2 ^ 31) (nx : ∀ ad' M' f' th' wd' hg' s' w', Inj ad' → Ar ad' = Ar ad → ad' 0 = ad 0 → Rel M' s' → G κ nL δ (Kn κ A0) Q (cs + 1) (sl + 6) (LW δ ad' M' o f' b th' wd' hg' s' w') [(0, .ref sc), (1, .ref (ad 0)), (2, .ref (b 0)), (3, .ref o), (4, .int (nI i))] [] 1335) : G κ nL δ (Kn κ A0) Q cs sl (LW δ ad M o f b th wd hg s w) [(0, .ref sc), (1, .ref (ad 0)), (2, .ref (b 0)), (3, .ref o), (4, .int (nI i))] [] 620 := by
  have hJ := j_add (δ := δ) (f := f) (th := th) (wd := wd) (hg := hg) (w := w) htr hinj g.1 hR g.2.1 (x0 := F (i + 1)) (x1 := F (i + 2)) (x2 := F (i + 3)) (x3 := F (i + 4))
  refine g_aload_n X 1 d_L_law_620 rfl rfl ?_
  refine g_aload_n X 0 d_L_law_621 rfl rfl ?_
  refine g_iload X d_L_law_622 rfl ?_
  refine g_iconst X (v := nI 1) d_L_law_624 (by decide) ?_
  refine n_add X d_L_law_625 ?_
  refine g_sld X hX (by omega) h31 d_L_law_626 ?_
  refine g_aload_n X 0 d_L_law_627 rfl rfl ?_
  refine g_iload X d_L_law_628 rfl ?_
  refine g_iconst X (v := nI 2) d_L_law_630 (by decide) ?_
  refine n_add X d_L_law_631 ?_
  refine g_sld X hX (by omega) h31 d_L_law_632 ?_
  refine g_aload_n X 0 d_L_law_633 rfl rfl ?_
  refine g_iload X d_L_law_634 rfl ?_
  refine g_iconst X (v := nI 3) d_L_law_636 (by decide) ?_
  refine n_add X d_L_law_637 ?_
  refine g_sld X hX (by omega) h31 d_L_law_638 ?_
  refine g_aload_n X 0 d_L_law_639 rfl rfl ?_
  refine g_iload X d_L_law_640 rfl ?_
  refine g_iconst X (v := nI 4) d_L_law_642 (by decide) ?_
  refine n_add X d_L_law_643 ?_
  refine g_sld X hX (by omega) h31 d_L_law_644 ?_
  refine g_aload_n X 3 d_L_law_645 rfl rfl ?_
  refine l_call X hE hinj g s_L_108 hJ d_L_law_646 rfl (rk h1 h2 (by omega) (by omega) (by decide) (by decide)) (fun k ad' M' f' hk i1 i2 i3 hK => ?_)
  refine g_istore X d_L_law_649 (by omega) ?_
  refine g_aload_n X 2 d_L_law_651 rfl rfl ?_
  refine g_aload_n X 0 d_L_law_652 rfl rfl ?_
  refine g_iload X d_L_law_653 rfl ?_
  refine g_iconst X (v := nI 1) d_L_law_655 (by decide) ?_
  refine n_add X d_L_law_656 ?_
  refine g_sld X hX (by omega) h31 d_L_law_657 ?_
  refine g_aload_n X 0 d_L_law_658 rfl rfl ?_
  refine g_iload X d_L_law_659 rfl ?_
  refine g_iconst X (v := nI 2) d_L_law_661 (by decide) ?_
  refine n_add X d_L_law_662 ?_
  refine g_sld X hX (by omega) h31 d_L_law_663 ?_
  refine g_aload_n X 0 d_L_law_664 rfl rfl ?_
  refine g_iload X d_L_law_665 rfl ?_
  refine g_iconst X (v := nI 3) d_L_law_667 (by decide) ?_
  refine n_add X d_L_law_668 ?_
  refine g_sld X hX (by omega) h31 d_L_law_669 ?_
  refine g_aload_n X 0 d_L_law_670 rfl rfl ?_
  refine g_iload X d_L_law_671 rfl ?_
  refine g_iconst X (v := nI 4) d_L_law_673 (by decide) ?_
  refine n_add X d_L_law_674 ?_
  refine g_sld X hX (by omega) h31 d_L_law_675 ?_
  refine r_call X i1 (g.swap i2) v_L_111 rfl hK d_L_law_676 rfl (rk h1 h2 (by omega) (by omega) (by decide) (by decide)) (fun u wd' hg' s' w' hu hR2 => ?_)
  obtain ⟨z, rfl, hz⟩ : ∃ z : Int32, u = some (.int z) ∧ (k = 0 → f' 0 = z.toInt64) := hu
  refine g_istore X d_L_law_679 (by omega) ?_
  refine g_aload_n X 2 d_L_law_681 rfl rfl ?_
  refine t_call X htr i1 (g.swap i2) d_L_law_682 (rk h1 h2 (by omega) (by omega) (by decide) (by decide)) ?_
  refine g_iload X d_L_law_685 rfl ?_
  refine n_eq X 692 d_L_law_687 (by decide) (by omega) (by omega) (fun _ => ?_) (fun q => absurd rfl q)
  refine g_iload X d_L_law_692 rfl ?_
  refine n_zn X 709 d_L_law_694 (by decide) (by omega) (fun _ => ?_) (fun h0 => ?_)
  · refine g_goto X 1335 d_L_law_709 (by decide) ?_
    exact g_sb (nx ad' M' f' k wd' hg' s' w' i1 i2 i3 hR2) ⟨rfl, rfl, rfl, rfl, rfl, trivial⟩
  · refine g_aload_n X 3 d_L_law_697 rfl rfl ?_
    refine g_iconst X (v := nI 0) d_L_law_698 (by decide) ?_
    refine g_lald X (q0 := 23) LW_o rfl (by decide) (by decide) d_L_law_699 ?_
    refine g_iload X d_L_law_700 rfl ?_
    refine g_i2l X d_L_law_702 ?_
    refine l_eq X 709 d_L_law_703 d_L_law_704 (by decide) (fun _ => ?_) (fun q => absurd (hz h0) q)
    refine g_goto X 1335 d_L_law_709 (by decide) ?_
    exact g_sb (nx ad' M' f' k wd' hg' s' w' i1 i2 i3 hR2) ⟨rfl, rfl, rfl, rfl, rfl, trivial⟩
set_option maxHeartbeats 4000000 in
set_option maxRecDepth 100000 in
theorem lc_each (X : XO κ R_L code nL rt δ rm A0 hh) (htr : (xl κ).stackTraces = false) (hE : Ncs (xs κ)) (hX : SC κ A0 sc n F) (hinj : Inj ad) (hR : Rel M s) (g : LG (fun q => A0 q ∨ (xs κ).heap.size ≤ q) o ad b) (hnL : 8 ≤ nL) (h1 : 13 ≤ rm.frames) (h2 : 400 ≤ rm.locals) (h3 : cs + 2 ≤ rm.cells) (h4 : sl + 12 ≤ rm.slots) (hi : i + 7 ≤ n) (h31 : n < 2 ^ 31) (nx : ∀ ad' M' f' th' wd' hg' s' w', Inj ad' → Ar ad' = Ar ad → ad' 0 = ad 0 → Rel M' s' → G κ nL δ (Kn κ A0) Q (cs + 1) (sl + 6) (LW δ ad' M' o f' b th' wd' hg' s' w') [(0, .ref sc), (1, .ref (ad 0)), (2, .ref (b 0)), (3, .ref o), (4, .int (nI i))] [] 1335) : G κ nL δ (Kn κ A0) Q cs sl (LW δ ad M o f b th wd hg s w) [(0, .ref sc), (1, .ref (ad 0)), (2, .ref (b 0)), (3, .ref o), (4, .int (nI i))] [] 712 := by
  have hJ := j_each (δ := δ) (f := f) (th := th) (wd := wd) (hg := hg) (w := w) htr hinj g.1 hR g.2.1 (x0 := F (i + 1)) (x1 := F (i + 2)) (x2 := F (i + 3)) (x3 := F (i + 4))
  refine g_aload_n X 1 d_L_law_712 rfl rfl ?_
  refine g_aload_n X 0 d_L_law_713 rfl rfl ?_
  refine g_iload X d_L_law_714 rfl ?_
  refine g_iconst X (v := nI 1) d_L_law_716 (by decide) ?_
  refine n_add X d_L_law_717 ?_
  refine g_sld X hX (by omega) h31 d_L_law_718 ?_
  refine g_aload_n X 0 d_L_law_719 rfl rfl ?_
  refine g_iload X d_L_law_720 rfl ?_
  refine g_iconst X (v := nI 2) d_L_law_722 (by decide) ?_
  refine n_add X d_L_law_723 ?_
  refine g_sld X hX (by omega) h31 d_L_law_724 ?_
  refine g_aload_n X 0 d_L_law_725 rfl rfl ?_
  refine g_iload X d_L_law_726 rfl ?_
  refine g_iconst X (v := nI 3) d_L_law_728 (by decide) ?_
  refine n_add X d_L_law_729 ?_
  refine g_sld X hX (by omega) h31 d_L_law_730 ?_
  refine g_aload_n X 0 d_L_law_731 rfl rfl ?_
  refine g_iload X d_L_law_732 rfl ?_
  refine g_iconst X (v := nI 4) d_L_law_734 (by decide) ?_
  refine n_add X d_L_law_735 ?_
  refine g_sld X hX (by omega) h31 d_L_law_736 ?_
  refine g_aload_n X 3 d_L_law_737 rfl rfl ?_
  refine l_call X hE hinj g s_L_112 hJ d_L_law_738 rfl (rk h1 h2 (by omega) (by omega) (by decide) (by decide)) (fun k ad' M' f' hk i1 i2 i3 hK => ?_)
  refine g_istore X d_L_law_741 (by omega) ?_
  refine g_aload_n X 2 d_L_law_743 rfl rfl ?_
  refine g_aload_n X 0 d_L_law_744 rfl rfl ?_
  refine g_iload X d_L_law_745 rfl ?_
  refine g_iconst X (v := nI 1) d_L_law_747 (by decide) ?_
  refine n_add X d_L_law_748 ?_
  refine g_sld X hX (by omega) h31 d_L_law_749 ?_
  refine g_aload_n X 0 d_L_law_750 rfl rfl ?_
  refine g_iload X d_L_law_751 rfl ?_
  refine g_iconst X (v := nI 2) d_L_law_753 (by decide) ?_
  refine n_add X d_L_law_754 ?_
  refine g_sld X hX (by omega) h31 d_L_law_755 ?_
  refine g_aload_n X 0 d_L_law_756 rfl rfl ?_
  refine g_iload X d_L_law_757 rfl ?_
  refine g_iconst X (v := nI 3) d_L_law_759 (by decide) ?_
  refine n_add X d_L_law_760 ?_
  refine g_sld X hX (by omega) h31 d_L_law_761 ?_
  refine g_aload_n X 0 d_L_law_762 rfl rfl ?_
  refine g_iload X d_L_law_763 rfl ?_
  refine g_iconst X (v := nI 4) d_L_law_765 (by decide) ?_
  refine n_add X d_L_law_766 ?_
  refine g_sld X hX (by omega) h31 d_L_law_767 ?_
  refine r_call X i1 (g.swap i2) v_L_114 rfl hK d_L_law_768 rfl (rk h1 h2 (by omega) (by omega) (by decide) (by decide)) (fun u wd' hg' s' w' hu hR2 => ?_)
  obtain ⟨z, rfl, hz⟩ : ∃ z : Int32, u = some (.int z) ∧ (k = 0 → f' 0 = z.toInt64) := hu
  refine g_istore X d_L_law_771 (by omega) ?_
  refine g_aload_n X 2 d_L_law_773 rfl rfl ?_
  refine t_call X htr i1 (g.swap i2) d_L_law_774 (rk h1 h2 (by omega) (by omega) (by decide) (by decide)) ?_
  refine g_iload X d_L_law_777 rfl ?_
  refine n_eq X 784 d_L_law_779 (by decide) (by omega) (by omega) (fun _ => ?_) (fun q => absurd rfl q)
  refine g_iload X d_L_law_784 rfl ?_
  refine n_zn X 801 d_L_law_786 (by decide) (by omega) (fun _ => ?_) (fun h0 => ?_)
  · refine g_goto X 1335 d_L_law_801 (by decide) ?_
    exact g_sb (nx ad' M' f' k wd' hg' s' w' i1 i2 i3 hR2) ⟨rfl, rfl, rfl, rfl, rfl, trivial⟩
  · refine g_aload_n X 3 d_L_law_789 rfl rfl ?_
    refine g_iconst X (v := nI 0) d_L_law_790 (by decide) ?_
    refine g_lald X (q0 := 23) LW_o rfl (by decide) (by decide) d_L_law_791 ?_
    refine g_iload X d_L_law_792 rfl ?_
    refine g_i2l X d_L_law_794 ?_
    refine l_eq X 801 d_L_law_795 d_L_law_796 (by decide) (fun _ => ?_) (fun q => absurd (hz h0) q)
    refine g_goto X 1335 d_L_law_801 (by decide) ?_
    exact g_sb (nx ad' M' f' k wd' hg' s' w' i1 i2 i3 hR2) ⟨rfl, rfl, rfl, rfl, rfl, trivial⟩
set_option maxHeartbeats 4000000 in
set_option maxRecDepth 100000 in
theorem lc_transpose (X : XO κ R_L code nL rt δ rm A0 hh) (htr : (xl κ).stackTraces = false) (hE : Ncs (xs κ)) (hX : SC κ A0 sc n F) (hinj : Inj ad) (hR : Rel M s) (g : LG (fun q => A0 q ∨ (xs κ).heap.size ≤ q) o ad b) (hnL : 8 ≤ nL) (h1 : 13 ≤ rm.frames) (h2 : 400 ≤ rm.locals) (h3 : cs + 2 ≤ rm.cells) (h4 : sl + 12 ≤ rm.slots) (hi : i + 7 ≤ n) (h31 : n < 2 ^ 31) (nx : ∀ ad' M' f' th' wd' hg' s' w', Inj ad' → Ar ad' = Ar ad → ad' 0 = ad 0 → Rel M' s' → G κ nL δ (Kn κ A0) Q (cs + 1) (sl + 6) (LW δ ad' M' o f' b th' wd' hg' s' w') [(0, .ref sc), (1, .ref (ad 0)), (2, .ref (b 0)), (3, .ref o), (4, .int (nI i))] [] 1335) : G κ nL δ (Kn κ A0) Q cs sl (LW δ ad M o f b th wd hg s w) [(0, .ref sc), (1, .ref (ad 0)), (2, .ref (b 0)), (3, .ref o), (4, .int (nI i))] [] 804 := by
  have hJ := j_transpose (δ := δ) (f := f) (th := th) (wd := wd) (hg := hg) (w := w) htr hinj g.1 hR g.2.1 (x0 := F (i + 1)) (x1 := F (i + 2))
  refine g_aload_n X 1 d_L_law_804 rfl rfl ?_
  refine g_aload_n X 0 d_L_law_805 rfl rfl ?_
  refine g_iload X d_L_law_806 rfl ?_
  refine g_iconst X (v := nI 1) d_L_law_808 (by decide) ?_
  refine n_add X d_L_law_809 ?_
  refine g_sld X hX (by omega) h31 d_L_law_810 ?_
  refine g_aload_n X 0 d_L_law_811 rfl rfl ?_
  refine g_iload X d_L_law_812 rfl ?_
  refine g_iconst X (v := nI 2) d_L_law_814 (by decide) ?_
  refine n_add X d_L_law_815 ?_
  refine g_sld X hX (by omega) h31 d_L_law_816 ?_
  refine g_aload_n X 3 d_L_law_817 rfl rfl ?_
  refine l_call X hE hinj g s_L_115 hJ d_L_law_818 rfl (rk h1 h2 (by omega) (by omega) (by decide) (by decide)) (fun k ad' M' f' hk i1 i2 i3 hK => ?_)
  refine g_istore X d_L_law_821 (by omega) ?_
  refine g_aload_n X 2 d_L_law_823 rfl rfl ?_
  refine g_aload_n X 0 d_L_law_824 rfl rfl ?_
  refine g_iload X d_L_law_825 rfl ?_
  refine g_iconst X (v := nI 1) d_L_law_827 (by decide) ?_
  refine n_add X d_L_law_828 ?_
  refine g_sld X hX (by omega) h31 d_L_law_829 ?_
  refine g_aload_n X 0 d_L_law_830 rfl rfl ?_
  refine g_iload X d_L_law_831 rfl ?_
  refine g_iconst X (v := nI 2) d_L_law_833 (by decide) ?_
  refine n_add X d_L_law_834 ?_
  refine g_sld X hX (by omega) h31 d_L_law_835 ?_
  refine r_call X i1 (g.swap i2) v_L_118 rfl hK d_L_law_836 rfl (rk h1 h2 (by omega) (by omega) (by decide) (by decide)) (fun u wd' hg' s' w' hu hR2 => ?_)
  obtain ⟨z, rfl, hz⟩ : ∃ z : Int32, u = some (.int z) ∧ (k = 0 → f' 0 = z.toInt64) := hu
  refine g_istore X d_L_law_839 (by omega) ?_
  refine g_aload_n X 2 d_L_law_841 rfl rfl ?_
  refine t_call X htr i1 (g.swap i2) d_L_law_842 (rk h1 h2 (by omega) (by omega) (by decide) (by decide)) ?_
  refine g_iload X d_L_law_845 rfl ?_
  refine n_eq X 852 d_L_law_847 (by decide) (by omega) (by omega) (fun _ => ?_) (fun q => absurd rfl q)
  refine g_iload X d_L_law_852 rfl ?_
  refine n_zn X 869 d_L_law_854 (by decide) (by omega) (fun _ => ?_) (fun h0 => ?_)
  · refine g_goto X 1335 d_L_law_869 (by decide) ?_
    exact g_sb (nx ad' M' f' k wd' hg' s' w' i1 i2 i3 hR2) ⟨rfl, rfl, rfl, rfl, rfl, trivial⟩
  · refine g_aload_n X 3 d_L_law_857 rfl rfl ?_
    refine g_iconst X (v := nI 0) d_L_law_858 (by decide) ?_
    refine g_lald X (q0 := 23) LW_o rfl (by decide) (by decide) d_L_law_859 ?_
    refine g_iload X d_L_law_860 rfl ?_
    refine g_i2l X d_L_law_862 ?_
    refine l_eq X 869 d_L_law_863 d_L_law_864 (by decide) (fun _ => ?_) (fun q => absurd (hz h0) q)
    refine g_goto X 1335 d_L_law_869 (by decide) ?_
    exact g_sb (nx ad' M' f' k wd' hg' s' w' i1 i2 i3 hR2) ⟨rfl, rfl, rfl, rfl, rfl, trivial⟩
set_option maxHeartbeats 4000000 in
set_option maxRecDepth 100000 in
theorem lc_select (X : XO κ R_L code nL rt δ rm A0 hh) (htr : (xl κ).stackTraces = false) (hE : Ncs (xs κ)) (hX : SC κ A0 sc n F) (hinj : Inj ad) (hR : Rel M s) (g : LG (fun q => A0 q ∨ (xs κ).heap.size ≤ q) o ad b) (hnL : 8 ≤ nL) (h1 : 13 ≤ rm.frames) (h2 : 400 ≤ rm.locals) (h3 : cs + 2 ≤ rm.cells) (h4 : sl + 12 ≤ rm.slots) (hi : i + 7 ≤ n) (h31 : n < 2 ^ 31) (nx : ∀ ad' M' f' th' wd' hg' s' w', Inj ad' → Ar ad' = Ar ad → ad' 0 = ad 0 → Rel M' s' → G κ nL δ (Kn κ A0) Q (cs + 1) (sl + 6) (LW δ ad' M' o f' b th' wd' hg' s' w') [(0, .ref sc), (1, .ref (ad 0)), (2, .ref (b 0)), (3, .ref o), (4, .int (nI i))] [] 1335) : G κ nL δ (Kn κ A0) Q cs sl (LW δ ad M o f b th wd hg s w) [(0, .ref sc), (1, .ref (ad 0)), (2, .ref (b 0)), (3, .ref o), (4, .int (nI i))] [] 872 := by
  have hJ := j_select (δ := δ) (f := f) (th := th) (wd := wd) (hg := hg) (w := w) htr hinj g.1 hR g.2.1 (x0 := F (i + 1)) (x1 := F (i + 2)) (x2 := F (i + 3)) (x3 := ((F (i + 4)).toInt64 <<< ((nI 32).toInt64 &&& 63) ||| ((F (i + 5)).toInt64 &&& 4294967295)))
  refine g_aload_n X 1 d_L_law_872 rfl rfl ?_
  refine g_aload_n X 0 d_L_law_873 rfl rfl ?_
  refine g_iload X d_L_law_874 rfl ?_
  refine g_iconst X (v := nI 1) d_L_law_876 (by decide) ?_
  refine n_add X d_L_law_877 ?_
  refine g_sld X hX (by omega) h31 d_L_law_878 ?_
  refine g_aload_n X 0 d_L_law_879 rfl rfl ?_
  refine g_iload X d_L_law_880 rfl ?_
  refine g_iconst X (v := nI 2) d_L_law_882 (by decide) ?_
  refine n_add X d_L_law_883 ?_
  refine g_sld X hX (by omega) h31 d_L_law_884 ?_
  refine g_aload_n X 0 d_L_law_885 rfl rfl ?_
  refine g_iload X d_L_law_886 rfl ?_
  refine g_iconst X (v := nI 3) d_L_law_888 (by decide) ?_
  refine n_add X d_L_law_889 ?_
  refine g_sld X hX (by omega) h31 d_L_law_890 ?_
  refine g_aload_n X 0 d_L_law_891 rfl rfl ?_
  refine g_iload X d_L_law_892 rfl ?_
  refine g_iconst X (v := nI 4) d_L_law_894 (by decide) ?_
  refine n_add X d_L_law_895 ?_
  refine g_sld X hX (by omega) h31 d_L_law_896 ?_
  refine g_i2l X d_L_law_897 ?_
  refine g_bipush X (v := nI 32) d_L_law_898 (by decide) ?_
  refine g_lshl X d_L_law_900 ?_
  refine g_aload_n X 0 d_L_law_901 rfl rfl ?_
  refine g_iload X d_L_law_902 rfl ?_
  refine g_iconst X (v := nI 5) d_L_law_904 (by decide) ?_
  refine n_add X d_L_law_905 ?_
  refine g_sld X hX (by omega) h31 d_L_law_906 ?_
  refine g_i2l X d_L_law_907 ?_
  refine g_ldc2 X d_L_law_908 kq_L_87 ?_
  refine g_land X d_L_law_911 ?_
  refine g_lor X d_L_law_912 ?_
  refine g_aload_n X 3 d_L_law_913 rfl rfl ?_
  refine l_call X hE hinj g s_L_119 hJ d_L_law_914 rfl (rk h1 h2 (by omega) (by omega) (by decide) (by decide)) (fun k ad' M' f' hk i1 i2 i3 hK => ?_)
  refine g_istore X d_L_law_917 (by omega) ?_
  refine g_aload_n X 2 d_L_law_919 rfl rfl ?_
  refine g_aload_n X 0 d_L_law_920 rfl rfl ?_
  refine g_iload X d_L_law_921 rfl ?_
  refine g_iconst X (v := nI 1) d_L_law_923 (by decide) ?_
  refine n_add X d_L_law_924 ?_
  refine g_sld X hX (by omega) h31 d_L_law_925 ?_
  refine g_aload_n X 0 d_L_law_926 rfl rfl ?_
  refine g_iload X d_L_law_927 rfl ?_
  refine g_iconst X (v := nI 2) d_L_law_929 (by decide) ?_
  refine n_add X d_L_law_930 ?_
  refine g_sld X hX (by omega) h31 d_L_law_931 ?_
  refine g_aload_n X 0 d_L_law_932 rfl rfl ?_
  refine g_iload X d_L_law_933 rfl ?_
  refine g_iconst X (v := nI 3) d_L_law_935 (by decide) ?_
  refine n_add X d_L_law_936 ?_
  refine g_sld X hX (by omega) h31 d_L_law_937 ?_
  refine g_aload_n X 0 d_L_law_938 rfl rfl ?_
  refine g_iload X d_L_law_939 rfl ?_
  refine g_iconst X (v := nI 4) d_L_law_941 (by decide) ?_
  refine n_add X d_L_law_942 ?_
  refine g_sld X hX (by omega) h31 d_L_law_943 ?_
  refine g_i2l X d_L_law_944 ?_
  refine g_bipush X (v := nI 32) d_L_law_945 (by decide) ?_
  refine g_lshl X d_L_law_947 ?_
  refine g_aload_n X 0 d_L_law_948 rfl rfl ?_
  refine g_iload X d_L_law_949 rfl ?_
  refine g_iconst X (v := nI 5) d_L_law_951 (by decide) ?_
  refine n_add X d_L_law_952 ?_
  refine g_sld X hX (by omega) h31 d_L_law_953 ?_
  refine g_i2l X d_L_law_954 ?_
  refine g_ldc2 X d_L_law_955 kq_L_87 ?_
  refine g_land X d_L_law_958 ?_
  refine g_lor X d_L_law_959 ?_
  refine r_call X i1 (g.swap i2) v_L_122 rfl hK d_L_law_960 rfl (rk h1 h2 (by omega) (by omega) (by decide) (by decide)) (fun u wd' hg' s' w' hu hR2 => ?_)
  obtain ⟨z, rfl, hz⟩ : ∃ z : Int32, u = some (.int z) ∧ (k = 0 → f' 0 = z.toInt64) := hu
  refine g_istore X d_L_law_963 (by omega) ?_
  refine g_aload_n X 2 d_L_law_965 rfl rfl ?_
  refine t_call X htr i1 (g.swap i2) d_L_law_966 (rk h1 h2 (by omega) (by omega) (by decide) (by decide)) ?_
  refine g_iload X d_L_law_969 rfl ?_
  refine n_eq X 976 d_L_law_971 (by decide) (by omega) (by omega) (fun _ => ?_) (fun q => absurd rfl q)
  refine g_iload X d_L_law_976 rfl ?_
  refine n_zn X 993 d_L_law_978 (by decide) (by omega) (fun _ => ?_) (fun h0 => ?_)
  · refine g_goto X 1335 d_L_law_993 (by decide) ?_
    exact g_sb (nx ad' M' f' k wd' hg' s' w' i1 i2 i3 hR2) ⟨rfl, rfl, rfl, rfl, rfl, trivial⟩
  · refine g_aload_n X 3 d_L_law_981 rfl rfl ?_
    refine g_iconst X (v := nI 0) d_L_law_982 (by decide) ?_
    refine g_lald X (q0 := 23) LW_o rfl (by decide) (by decide) d_L_law_983 ?_
    refine g_iload X d_L_law_984 rfl ?_
    refine g_i2l X d_L_law_986 ?_
    refine l_eq X 993 d_L_law_987 d_L_law_988 (by decide) (fun _ => ?_) (fun q => absurd (hz h0) q)
    refine g_goto X 1335 d_L_law_993 (by decide) ?_
    exact g_sb (nx ad' M' f' k wd' hg' s' w' i1 i2 i3 hR2) ⟨rfl, rfl, rfl, rfl, rfl, trivial⟩
set_option maxHeartbeats 4000000 in
set_option maxRecDepth 100000 in
theorem lc_reduce (X : XO κ R_L code nL rt δ rm A0 hh) (htr : (xl κ).stackTraces = false) (hE : Ncs (xs κ)) (hX : SC κ A0 sc n F) (hinj : Inj ad) (hR : Rel M s) (g : LG (fun q => A0 q ∨ (xs κ).heap.size ≤ q) o ad b) (hnL : 8 ≤ nL) (h1 : 13 ≤ rm.frames) (h2 : 400 ≤ rm.locals) (h3 : cs + 2 ≤ rm.cells) (h4 : sl + 12 ≤ rm.slots) (hi : i + 7 ≤ n) (h31 : n < 2 ^ 31) (nx : ∀ ad' M' f' th' wd' hg' s' w', Inj ad' → Ar ad' = Ar ad → ad' 0 = ad 0 → Rel M' s' → G κ nL δ (Kn κ A0) Q (cs + 1) (sl + 6) (LW δ ad' M' o f' b th' wd' hg' s' w') [(0, .ref sc), (1, .ref (ad 0)), (2, .ref (b 0)), (3, .ref o), (4, .int (nI i))] [] 1335) : G κ nL δ (Kn κ A0) Q cs sl (LW δ ad M o f b th wd hg s w) [(0, .ref sc), (1, .ref (ad 0)), (2, .ref (b 0)), (3, .ref o), (4, .int (nI i))] [] 996 := by
  have hJ := j_reduce (δ := δ) (f := f) (th := th) (wd := wd) (hg := hg) (w := w) htr hinj g.1 hR g.2.1 (x0 := F (i + 1)) (x1 := F (i + 2))
  refine g_aload_n X 1 d_L_law_996 rfl rfl ?_
  refine g_aload_n X 0 d_L_law_997 rfl rfl ?_
  refine g_iload X d_L_law_998 rfl ?_
  refine g_iconst X (v := nI 1) d_L_law_1000 (by decide) ?_
  refine n_add X d_L_law_1001 ?_
  refine g_sld X hX (by omega) h31 d_L_law_1002 ?_
  refine g_aload_n X 0 d_L_law_1003 rfl rfl ?_
  refine g_iload X d_L_law_1004 rfl ?_
  refine g_iconst X (v := nI 2) d_L_law_1006 (by decide) ?_
  refine n_add X d_L_law_1007 ?_
  refine g_sld X hX (by omega) h31 d_L_law_1008 ?_
  refine g_aload_n X 3 d_L_law_1009 rfl rfl ?_
  refine l_call X hE hinj g s_L_123 hJ d_L_law_1010 rfl (rk h1 h2 (by omega) (by omega) (by decide) (by decide)) (fun k ad' M' f' hk i1 i2 i3 hK => ?_)
  refine g_istore X d_L_law_1013 (by omega) ?_
  refine g_aload_n X 2 d_L_law_1015 rfl rfl ?_
  refine g_aload_n X 0 d_L_law_1016 rfl rfl ?_
  refine g_iload X d_L_law_1017 rfl ?_
  refine g_iconst X (v := nI 1) d_L_law_1019 (by decide) ?_
  refine n_add X d_L_law_1020 ?_
  refine g_sld X hX (by omega) h31 d_L_law_1021 ?_
  refine g_aload_n X 0 d_L_law_1022 rfl rfl ?_
  refine g_iload X d_L_law_1023 rfl ?_
  refine g_iconst X (v := nI 2) d_L_law_1025 (by decide) ?_
  refine n_add X d_L_law_1026 ?_
  refine g_sld X hX (by omega) h31 d_L_law_1027 ?_
  refine r_call X i1 (g.swap i2) v_L_125 rfl hK d_L_law_1028 rfl (rk h1 h2 (by omega) (by omega) (by decide) (by decide)) (fun u wd' hg' s' w' hu hR2 => ?_)
  obtain ⟨z, rfl, hz⟩ : ∃ z : Int64, u = some (.long z) ∧ (k = 0 → f' 0 = z) := hu
  refine g_lstore X d_L_law_1031 (by omega) ?_
  refine g_aload_n X 2 d_L_law_1033 rfl rfl ?_
  refine t_call X htr i1 (g.swap i2) d_L_law_1034 (rk h1 h2 (by omega) (by omega) (by decide) (by decide)) ?_
  refine g_iload X d_L_law_1037 rfl ?_
  refine n_eq X 1044 d_L_law_1039 (by decide) (by omega) (by omega) (fun _ => ?_) (fun q => absurd rfl q)
  refine g_iload X d_L_law_1044 rfl ?_
  refine n_zn X 1060 d_L_law_1046 (by decide) (by omega) (fun _ => ?_) (fun h0 => ?_)
  · refine g_goto X 1335 d_L_law_1060 (by decide) ?_
    exact g_sb (nx ad' M' f' k wd' hg' s' w' i1 i2 i3 hR2) ⟨rfl, rfl, rfl, rfl, rfl, trivial⟩
  · refine g_aload_n X 3 d_L_law_1049 rfl rfl ?_
    refine g_iconst X (v := nI 0) d_L_law_1050 (by decide) ?_
    refine g_lald X (q0 := 23) LW_o rfl (by decide) (by decide) d_L_law_1051 ?_
    refine g_lload X d_L_law_1052 rfl ?_
    refine l_eq X 1060 d_L_law_1054 d_L_law_1055 (by decide) (fun _ => ?_) (fun q => absurd (hz h0) q)
    refine g_goto X 1335 d_L_law_1060 (by decide) ?_
    exact g_sb (nx ad' M' f' k wd' hg' s' w' i1 i2 i3 hR2) ⟨rfl, rfl, rfl, rfl, rfl, trivial⟩
set_option maxHeartbeats 4000000 in
set_option maxRecDepth 100000 in
theorem lc_levels (X : XO κ R_L code nL rt δ rm A0 hh) (htr : (xl κ).stackTraces = false) (hE : Ncs (xs κ)) (hX : SC κ A0 sc n F) (hinj : Inj ad) (hR : Rel M s) (g : LG (fun q => A0 q ∨ (xs κ).heap.size ≤ q) o ad b) (hnL : 8 ≤ nL) (h1 : 13 ≤ rm.frames) (h2 : 400 ≤ rm.locals) (h3 : cs + 2 ≤ rm.cells) (h4 : sl + 12 ≤ rm.slots) (hi : i + 7 ≤ n) (h31 : n < 2 ^ 31) (nx : ∀ ad' M' f' th' wd' hg' s' w', Inj ad' → Ar ad' = Ar ad → ad' 0 = ad 0 → Rel M' s' → G κ nL δ (Kn κ A0) Q (cs + 1) (sl + 6) (LW δ ad' M' o f' b th' wd' hg' s' w') [(0, .ref sc), (1, .ref (ad 0)), (2, .ref (b 0)), (3, .ref o), (4, .int (nI i))] [] 1335) : G κ nL δ (Kn κ A0) Q cs sl (LW δ ad M o f b th wd hg s w) [(0, .ref sc), (1, .ref (ad 0)), (2, .ref (b 0)), (3, .ref o), (4, .int (nI i))] [] 1063 := by
  have hJ := j_levels (δ := δ) (f := f) (th := th) (wd := wd) (hg := hg) (w := w) htr hinj g.1 hR g.2.1 (x0 := F (i + 1)) (x1 := F (i + 2)) (x2 := F (i + 3))
  refine g_aload_n X 1 d_L_law_1063 rfl rfl ?_
  refine g_aload_n X 0 d_L_law_1064 rfl rfl ?_
  refine g_iload X d_L_law_1065 rfl ?_
  refine g_iconst X (v := nI 1) d_L_law_1067 (by decide) ?_
  refine n_add X d_L_law_1068 ?_
  refine g_sld X hX (by omega) h31 d_L_law_1069 ?_
  refine g_aload_n X 0 d_L_law_1070 rfl rfl ?_
  refine g_iload X d_L_law_1071 rfl ?_
  refine g_iconst X (v := nI 2) d_L_law_1073 (by decide) ?_
  refine n_add X d_L_law_1074 ?_
  refine g_sld X hX (by omega) h31 d_L_law_1075 ?_
  refine g_aload_n X 0 d_L_law_1076 rfl rfl ?_
  refine g_iload X d_L_law_1077 rfl ?_
  refine g_iconst X (v := nI 3) d_L_law_1079 (by decide) ?_
  refine n_add X d_L_law_1080 ?_
  refine g_sld X hX (by omega) h31 d_L_law_1081 ?_
  refine g_aload_n X 3 d_L_law_1082 rfl rfl ?_
  refine l_call X hE hinj g s_L_126 hJ d_L_law_1083 rfl (rk h1 h2 (by omega) (by omega) (by decide) (by decide)) (fun k ad' M' f' hk i1 i2 i3 hK => ?_)
  refine g_istore X d_L_law_1086 (by omega) ?_
  refine g_aload_n X 2 d_L_law_1088 rfl rfl ?_
  refine g_aload_n X 0 d_L_law_1089 rfl rfl ?_
  refine g_iload X d_L_law_1090 rfl ?_
  refine g_iconst X (v := nI 1) d_L_law_1092 (by decide) ?_
  refine n_add X d_L_law_1093 ?_
  refine g_sld X hX (by omega) h31 d_L_law_1094 ?_
  refine g_aload_n X 0 d_L_law_1095 rfl rfl ?_
  refine g_iload X d_L_law_1096 rfl ?_
  refine g_iconst X (v := nI 2) d_L_law_1098 (by decide) ?_
  refine n_add X d_L_law_1099 ?_
  refine g_sld X hX (by omega) h31 d_L_law_1100 ?_
  refine g_aload_n X 0 d_L_law_1101 rfl rfl ?_
  refine g_iload X d_L_law_1102 rfl ?_
  refine g_iconst X (v := nI 3) d_L_law_1104 (by decide) ?_
  refine n_add X d_L_law_1105 ?_
  refine g_sld X hX (by omega) h31 d_L_law_1106 ?_
  refine r_call X i1 (g.swap i2) v_L_128 rfl hK d_L_law_1107 rfl (rk h1 h2 (by omega) (by omega) (by decide) (by decide)) (fun u wd' hg' s' w' hu hR2 => ?_)
  obtain ⟨z, rfl, hz⟩ : ∃ z : Int32, u = some (.int z) ∧ (k = 0 → f' 0 = z.toInt64) := hu
  refine g_istore X d_L_law_1110 (by omega) ?_
  refine g_aload_n X 2 d_L_law_1112 rfl rfl ?_
  refine t_call X htr i1 (g.swap i2) d_L_law_1113 (rk h1 h2 (by omega) (by omega) (by decide) (by decide)) ?_
  refine g_iload X d_L_law_1116 rfl ?_
  refine n_eq X 1123 d_L_law_1118 (by decide) (by omega) (by omega) (fun _ => ?_) (fun q => absurd rfl q)
  refine g_iload X d_L_law_1123 rfl ?_
  refine n_zn X 1140 d_L_law_1125 (by decide) (by omega) (fun _ => ?_) (fun h0 => ?_)
  · refine g_goto X 1335 d_L_law_1140 (by decide) ?_
    exact g_sb (nx ad' M' f' k wd' hg' s' w' i1 i2 i3 hR2) ⟨rfl, rfl, rfl, rfl, rfl, trivial⟩
  · refine g_aload_n X 3 d_L_law_1128 rfl rfl ?_
    refine g_iconst X (v := nI 0) d_L_law_1129 (by decide) ?_
    refine g_lald X (q0 := 23) LW_o rfl (by decide) (by decide) d_L_law_1130 ?_
    refine g_iload X d_L_law_1131 rfl ?_
    refine g_i2l X d_L_law_1133 ?_
    refine l_eq X 1140 d_L_law_1134 d_L_law_1135 (by decide) (fun _ => ?_) (fun q => absurd (hz h0) q)
    refine g_goto X 1335 d_L_law_1140 (by decide) ?_
    exact g_sb (nx ad' M' f' k wd' hg' s' w' i1 i2 i3 hR2) ⟨rfl, rfl, rfl, rfl, rfl, trivial⟩
set_option maxHeartbeats 4000000 in
set_option maxRecDepth 100000 in
theorem lc_paths (X : XO κ R_L code nL rt δ rm A0 hh) (htr : (xl κ).stackTraces = false) (hE : Ncs (xs κ)) (hX : SC κ A0 sc n F) (hinj : Inj ad) (hR : Rel M s) (g : LG (fun q => A0 q ∨ (xs κ).heap.size ≤ q) o ad b) (hnL : 8 ≤ nL) (h1 : 13 ≤ rm.frames) (h2 : 400 ≤ rm.locals) (h3 : cs + 2 ≤ rm.cells) (h4 : sl + 12 ≤ rm.slots) (hi : i + 7 ≤ n) (h31 : n < 2 ^ 31) (nx : ∀ ad' M' f' th' wd' hg' s' w', Inj ad' → Ar ad' = Ar ad → ad' 0 = ad 0 → Rel M' s' → G κ nL δ (Kn κ A0) Q (cs + 1) (sl + 6) (LW δ ad' M' o f' b th' wd' hg' s' w') [(0, .ref sc), (1, .ref (ad 0)), (2, .ref (b 0)), (3, .ref o), (4, .int (nI i))] [] 1335) : G κ nL δ (Kn κ A0) Q cs sl (LW δ ad M o f b th wd hg s w) [(0, .ref sc), (1, .ref (ad 0)), (2, .ref (b 0)), (3, .ref o), (4, .int (nI i))] [] 1143 := by
  have hJ := j_paths (δ := δ) (f := f) (th := th) (wd := wd) (hg := hg) (w := w) htr hinj g.1 hR g.2.1 (x0 := F (i + 1)) (x1 := F (i + 2))
  refine g_aload_n X 1 d_L_law_1143 rfl rfl ?_
  refine g_aload_n X 0 d_L_law_1144 rfl rfl ?_
  refine g_iload X d_L_law_1145 rfl ?_
  refine g_iconst X (v := nI 1) d_L_law_1147 (by decide) ?_
  refine n_add X d_L_law_1148 ?_
  refine g_sld X hX (by omega) h31 d_L_law_1149 ?_
  refine g_aload_n X 0 d_L_law_1150 rfl rfl ?_
  refine g_iload X d_L_law_1151 rfl ?_
  refine g_iconst X (v := nI 2) d_L_law_1153 (by decide) ?_
  refine n_add X d_L_law_1154 ?_
  refine g_sld X hX (by omega) h31 d_L_law_1155 ?_
  refine g_aload_n X 3 d_L_law_1156 rfl rfl ?_
  refine l_call X hE hinj g s_L_129 hJ d_L_law_1157 rfl (rk h1 h2 (by omega) (by omega) (by decide) (by decide)) (fun k ad' M' f' hk i1 i2 i3 hK => ?_)
  refine g_istore X d_L_law_1160 (by omega) ?_
  refine g_aload_n X 2 d_L_law_1162 rfl rfl ?_
  refine g_aload_n X 0 d_L_law_1163 rfl rfl ?_
  refine g_iload X d_L_law_1164 rfl ?_
  refine g_iconst X (v := nI 1) d_L_law_1166 (by decide) ?_
  refine n_add X d_L_law_1167 ?_
  refine g_sld X hX (by omega) h31 d_L_law_1168 ?_
  refine g_aload_n X 0 d_L_law_1169 rfl rfl ?_
  refine g_iload X d_L_law_1170 rfl ?_
  refine g_iconst X (v := nI 2) d_L_law_1172 (by decide) ?_
  refine n_add X d_L_law_1173 ?_
  refine g_sld X hX (by omega) h31 d_L_law_1174 ?_
  refine r_call X i1 (g.swap i2) v_L_131 rfl hK d_L_law_1175 rfl (rk h1 h2 (by omega) (by omega) (by decide) (by decide)) (fun u wd' hg' s' w' hu hR2 => ?_)
  obtain ⟨z, rfl, hz⟩ : ∃ z : Int32, u = some (.int z) ∧ (k = 0 → f' 0 = z.toInt64) := hu
  refine g_istore X d_L_law_1178 (by omega) ?_
  refine g_aload_n X 2 d_L_law_1180 rfl rfl ?_
  refine t_call X htr i1 (g.swap i2) d_L_law_1181 (rk h1 h2 (by omega) (by omega) (by decide) (by decide)) ?_
  refine g_iload X d_L_law_1184 rfl ?_
  refine n_eq X 1191 d_L_law_1186 (by decide) (by omega) (by omega) (fun _ => ?_) (fun q => absurd rfl q)
  refine g_iload X d_L_law_1191 rfl ?_
  refine n_zn X 1208 d_L_law_1193 (by decide) (by omega) (fun _ => ?_) (fun h0 => ?_)
  · refine g_goto X 1335 d_L_law_1208 (by decide) ?_
    exact g_sb (nx ad' M' f' k wd' hg' s' w' i1 i2 i3 hR2) ⟨rfl, rfl, rfl, rfl, rfl, trivial⟩
  · refine g_aload_n X 3 d_L_law_1196 rfl rfl ?_
    refine g_iconst X (v := nI 0) d_L_law_1197 (by decide) ?_
    refine g_lald X (q0 := 23) LW_o rfl (by decide) (by decide) d_L_law_1198 ?_
    refine g_iload X d_L_law_1199 rfl ?_
    refine g_i2l X d_L_law_1201 ?_
    refine l_eq X 1208 d_L_law_1202 d_L_law_1203 (by decide) (fun _ => ?_) (fun q => absurd (hz h0) q)
    refine g_goto X 1335 d_L_law_1208 (by decide) ?_
    exact g_sb (nx ad' M' f' k wd' hg' s' w' i1 i2 i3 hR2) ⟨rfl, rfl, rfl, rfl, rfl, trivial⟩
set_option maxHeartbeats 4000000 in
set_option maxRecDepth 100000 in
theorem lc_triangles (X : XO κ R_L code nL rt δ rm A0 hh) (htr : (xl κ).stackTraces = false) (hE : Ncs (xs κ)) (hX : SC κ A0 sc n F) (hinj : Inj ad) (hR : Rel M s) (g : LG (fun q => A0 q ∨ (xs κ).heap.size ≤ q) o ad b) (hnL : 8 ≤ nL) (h1 : 13 ≤ rm.frames) (h2 : 400 ≤ rm.locals) (h3 : cs + 2 ≤ rm.cells) (h4 : sl + 12 ≤ rm.slots) (hi : i + 7 ≤ n) (h31 : n < 2 ^ 31) (nx : ∀ ad' M' f' th' wd' hg' s' w', Inj ad' → Ar ad' = Ar ad → ad' 0 = ad 0 → Rel M' s' → G κ nL δ (Kn κ A0) Q (cs + 1) (sl + 6) (LW δ ad' M' o f' b th' wd' hg' s' w') [(0, .ref sc), (1, .ref (ad 0)), (2, .ref (b 0)), (3, .ref o), (4, .int (nI i))] [] 1335) : G κ nL δ (Kn κ A0) Q cs sl (LW δ ad M o f b th wd hg s w) [(0, .ref sc), (1, .ref (ad 0)), (2, .ref (b 0)), (3, .ref o), (4, .int (nI i))] [] 1211 := by
  have hJ := j_triangles (δ := δ) (f := f) (th := th) (wd := wd) (hg := hg) (w := w) htr hinj g.1 hR g.2.1 (x0 := F (i + 1))
  refine g_aload_n X 1 d_L_law_1211 rfl rfl ?_
  refine g_aload_n X 0 d_L_law_1212 rfl rfl ?_
  refine g_iload X d_L_law_1213 rfl ?_
  refine g_iconst X (v := nI 1) d_L_law_1215 (by decide) ?_
  refine n_add X d_L_law_1216 ?_
  refine g_sld X hX (by omega) h31 d_L_law_1217 ?_
  refine g_aload_n X 3 d_L_law_1218 rfl rfl ?_
  refine l_call X hE hinj g s_L_132 hJ d_L_law_1219 rfl (rk h1 h2 (by omega) (by omega) (by decide) (by decide)) (fun k ad' M' f' hk i1 i2 i3 hK => ?_)
  refine g_istore X d_L_law_1222 (by omega) ?_
  refine g_aload_n X 2 d_L_law_1224 rfl rfl ?_
  refine g_aload_n X 0 d_L_law_1225 rfl rfl ?_
  refine g_iload X d_L_law_1226 rfl ?_
  refine g_iconst X (v := nI 1) d_L_law_1228 (by decide) ?_
  refine n_add X d_L_law_1229 ?_
  refine g_sld X hX (by omega) h31 d_L_law_1230 ?_
  refine r_call X i1 (g.swap i2) v_L_134 rfl hK d_L_law_1231 rfl (rk h1 h2 (by omega) (by omega) (by decide) (by decide)) (fun u wd' hg' s' w' hu hR2 => ?_)
  obtain ⟨z, rfl, hz⟩ : ∃ z : Int32, u = some (.int z) ∧ (k = 0 → f' 0 = z.toInt64) := hu
  refine g_istore X d_L_law_1234 (by omega) ?_
  refine g_aload_n X 2 d_L_law_1236 rfl rfl ?_
  refine t_call X htr i1 (g.swap i2) d_L_law_1237 (rk h1 h2 (by omega) (by omega) (by decide) (by decide)) ?_
  refine g_iload X d_L_law_1240 rfl ?_
  refine n_eq X 1247 d_L_law_1242 (by decide) (by omega) (by omega) (fun _ => ?_) (fun q => absurd rfl q)
  refine g_iload X d_L_law_1247 rfl ?_
  refine n_zn X 1264 d_L_law_1249 (by decide) (by omega) (fun _ => ?_) (fun h0 => ?_)
  · refine g_goto X 1335 d_L_law_1264 (by decide) ?_
    exact g_sb (nx ad' M' f' k wd' hg' s' w' i1 i2 i3 hR2) ⟨rfl, rfl, rfl, rfl, rfl, trivial⟩
  · refine g_aload_n X 3 d_L_law_1252 rfl rfl ?_
    refine g_iconst X (v := nI 0) d_L_law_1253 (by decide) ?_
    refine g_lald X (q0 := 23) LW_o rfl (by decide) (by decide) d_L_law_1254 ?_
    refine g_iload X d_L_law_1255 rfl ?_
    refine g_i2l X d_L_law_1257 ?_
    refine l_eq X 1264 d_L_law_1258 d_L_law_1259 (by decide) (fun _ => ?_) (fun q => absurd (hz h0) q)
    refine g_goto X 1335 d_L_law_1264 (by decide) ?_
    exact g_sb (nx ad' M' f' k wd' hg' s' w' i1 i2 i3 hR2) ⟨rfl, rfl, rfl, rfl, rfl, trivial⟩
set_option maxHeartbeats 4000000 in
set_option maxRecDepth 100000 in
theorem lc_components (X : XO κ R_L code nL rt δ rm A0 hh) (htr : (xl κ).stackTraces = false) (hE : Ncs (xs κ)) (hX : SC κ A0 sc n F) (hinj : Inj ad) (hR : Rel M s) (g : LG (fun q => A0 q ∨ (xs κ).heap.size ≤ q) o ad b) (hnL : 8 ≤ nL) (h1 : 13 ≤ rm.frames) (h2 : 400 ≤ rm.locals) (h3 : cs + 2 ≤ rm.cells) (h4 : sl + 12 ≤ rm.slots) (hi : i + 7 ≤ n) (h31 : n < 2 ^ 31) (nx : ∀ ad' M' f' th' wd' hg' s' w', Inj ad' → Ar ad' = Ar ad → ad' 0 = ad 0 → Rel M' s' → G κ nL δ (Kn κ A0) Q (cs + 1) (sl + 6) (LW δ ad' M' o f' b th' wd' hg' s' w') [(0, .ref sc), (1, .ref (ad 0)), (2, .ref (b 0)), (3, .ref o), (4, .int (nI i))] [] 1335) : G κ nL δ (Kn κ A0) Q cs sl (LW δ ad M o f b th wd hg s w) [(0, .ref sc), (1, .ref (ad 0)), (2, .ref (b 0)), (3, .ref o), (4, .int (nI i))] [] 1267 := by
  have hJ := j_components (δ := δ) (f := f) (th := th) (wd := wd) (hg := hg) (w := w) htr hinj g.1 hR g.2.1 (x0 := F (i + 1)) (x1 := F (i + 2))
  refine g_aload_n X 1 d_L_law_1267 rfl rfl ?_
  refine g_aload_n X 0 d_L_law_1268 rfl rfl ?_
  refine g_iload X d_L_law_1269 rfl ?_
  refine g_iconst X (v := nI 1) d_L_law_1271 (by decide) ?_
  refine n_add X d_L_law_1272 ?_
  refine g_sld X hX (by omega) h31 d_L_law_1273 ?_
  refine g_aload_n X 0 d_L_law_1274 rfl rfl ?_
  refine g_iload X d_L_law_1275 rfl ?_
  refine g_iconst X (v := nI 2) d_L_law_1277 (by decide) ?_
  refine n_add X d_L_law_1278 ?_
  refine g_sld X hX (by omega) h31 d_L_law_1279 ?_
  refine g_aload_n X 3 d_L_law_1280 rfl rfl ?_
  refine l_call X hE hinj g s_L_135 hJ d_L_law_1281 rfl (rk h1 h2 (by omega) (by omega) (by decide) (by decide)) (fun k ad' M' f' hk i1 i2 i3 hK => ?_)
  refine g_istore X d_L_law_1284 (by omega) ?_
  refine g_aload_n X 2 d_L_law_1286 rfl rfl ?_
  refine g_aload_n X 0 d_L_law_1287 rfl rfl ?_
  refine g_iload X d_L_law_1288 rfl ?_
  refine g_iconst X (v := nI 1) d_L_law_1290 (by decide) ?_
  refine n_add X d_L_law_1291 ?_
  refine g_sld X hX (by omega) h31 d_L_law_1292 ?_
  refine g_aload_n X 0 d_L_law_1293 rfl rfl ?_
  refine g_iload X d_L_law_1294 rfl ?_
  refine g_iconst X (v := nI 2) d_L_law_1296 (by decide) ?_
  refine n_add X d_L_law_1297 ?_
  refine g_sld X hX (by omega) h31 d_L_law_1298 ?_
  refine r_call X i1 (g.swap i2) v_L_137 rfl hK d_L_law_1299 rfl (rk h1 h2 (by omega) (by omega) (by decide) (by decide)) (fun u wd' hg' s' w' hu hR2 => ?_)
  obtain ⟨z, rfl, hz⟩ : ∃ z : Int32, u = some (.int z) ∧ (k = 0 → f' 0 = z.toInt64) := hu
  refine g_istore X d_L_law_1302 (by omega) ?_
  refine g_aload_n X 2 d_L_law_1304 rfl rfl ?_
  refine t_call X htr i1 (g.swap i2) d_L_law_1305 (rk h1 h2 (by omega) (by omega) (by decide) (by decide)) ?_
  refine g_iload X d_L_law_1308 rfl ?_
  refine n_eq X 1315 d_L_law_1310 (by decide) (by omega) (by omega) (fun _ => ?_) (fun q => absurd rfl q)
  refine g_iload X d_L_law_1315 rfl ?_
  refine n_zn X 1332 d_L_law_1317 (by decide) (by omega) (fun _ => ?_) (fun h0 => ?_)
  · refine g_goto X 1335 d_L_law_1332 (by decide) ?_
    exact g_sb (nx ad' M' f' k wd' hg' s' w' i1 i2 i3 hR2) ⟨rfl, rfl, rfl, rfl, rfl, trivial⟩
  · refine g_aload_n X 3 d_L_law_1320 rfl rfl ?_
    refine g_iconst X (v := nI 0) d_L_law_1321 (by decide) ?_
    refine g_lald X (q0 := 23) LW_o rfl (by decide) (by decide) d_L_law_1322 ?_
    refine g_iload X d_L_law_1323 rfl ?_
    refine g_i2l X d_L_law_1325 ?_
    refine l_eq X 1332 d_L_law_1326 d_L_law_1327 (by decide) (fun _ => ?_) (fun q => absurd (hz h0) q)
    refine g_goto X 1335 d_L_law_1332 (by decide) ?_
    exact g_sb (nx ad' M' f' k wd' hg' s' w' i1 i2 i3 hR2) ⟨rfl, rfl, rfl, rfl, rfl, trivial⟩
end LC
