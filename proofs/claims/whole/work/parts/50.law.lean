/-! the law: one turn of its loop, a row for each case -/
def LZ (p : Program) (m : MethodId) (c : Code) (s : State) (args : Array Value) (D : va_G) (cI cZ cS : ClassId) (b L : Nat) (xs : Nat → Int32) : Prop := CallFix p m c cL_law 4 s args TB RL ∧ va_K D vwCl (TY cI cZ cS) s ∧ va_X b L xs s s.heap ∧ b < s.heap.size ∧ L ≤ 3072
abbrev LA (s : State) : Nat → Prop := fun q => s.heap.size ≤ q
abbrev lvL (d : Nat → Nat → Nat) (b i : Nat) : List (Nat × Value) := [(3, .int (nI i)), (2, .ref (d 7 0)), (1, .ref (d 0 0)), (0, .ref b)]
theorem hcat (r : Value) : (([r] : List Value).map fun v => v.category).sum ≤ 8 := by
  cases r <;> exact Nat.le_of_ble_eq_true rfl
section Law9
variable {p : Program} {l : Launch} {e : Env} {s : State} {m : MethodId} {args : Array Value} {below : List Frame} {meth : Method} {c : Code} {H : Heap} {locs : List Loc} {cells slots : Nat} {Q : State → Prop}
variable {ls : Array Slot} {rest : List Value} {D : va_G} {cI cZ cS : ClassId} {d : Nat → Nat → Nat} {b L : Nat} {xs : Nat → Int32} {R : Room}
/-- an int of the script, by its place behind i -/
theorem ldS {pc i : Nat} (Z : LZ p m c s args D cI cZ cS b L xs) (hl : lv_has ls 4 (lvL d b i)) (hS : va_S (LA s) s.heap H locs) (hi : i + 6 ≤ L) {k : Nat} (hk : k ≤ 5) (h0 : decode cL_law pc = .ok (.aload_n 0, 1)) (h1 : decode cL_law (pc + 1) = .ok (.iload_n 3, 1)) (h2 : decode cL_law (pc + 1 + 1) = .ok (.iconst (k : Int), 1)) (h3 : decode cL_law (pc + 1 + 1 + 1) = .ok (.iadd, 1)) (h4 : decode cL_law (pc + 1 + 1 + 1 + 1) = .ok (.iaload, 1))
    (kk : W p l e R s m args below meth c H locs cells slots Q (F0 m (pc + 1 + 1 + 1 + 1 + 1) ls (.int (xs (i + k)) :: rest))) : W p l e R s m args below meth c H locs cells slots Q (F0 m pc ls rest) := by
  obtain ⟨G, K, X, hbl, hL⟩ := Z
  refine lv_aload_n G.1 G.2.1 h0 rfl (lv_at hl 3 rfl) ?_
  refine lv_iload_n G.1 G.2.1 h1 rfl (lv_at hl 0 rfl) ?_
  refine lv_iconst (v := nI k) G.1 G.2.1 h2 rfl ?_
  refine t_add G h3 ?_
  refine va_sld G.1 G.2.1 X hbl (Nat.not_le.mpr hbl) hS (i := nI (i + k)) (vp_in_nI (by omega) (by omega)) h4 (t_i ?_ kk)
  rw [nI_clamp (by omega)]
theorem lw_put {i : Nat} {x : S9} (Z : LZ p m c s args D cI cZ cS b L xs) (hst : Step l D cI cZ cS d yX5_put cX5_put 5 yX6_put cX6_put 4 .int [.int (xs (i + 1)), .int (xs (i + 2)), .int (xs (i + 3))]) (hx : Inv x) (hi : i + 6 ≤ L) (hc9 : cells ≤ room_1.cells) (hs9 : slots ≤ room_1.slots) (w : WW D (LA s) s.heap (x.C cI cZ cS d ++ x.R cI cZ d) H locs) (hl : lv_has ls 4 (lvL d b i))
    (kk : ∀ (r : Value) (x' : S9) (H1 : Heap) (locs1 : List Loc), vI .int r → Inv x' → WW D (LA s) s.heap (x'.C cI cZ cS d ++ x'.R cI cZ d) H1 locs1 → W p l e room_1 s m args below meth c H1 locs1 cells slots Q (F0 m 202 ls [r, r])) : W p l e room_1 s m args below meth c H locs cells slots Q (F0 m 164 ls []) := by
  have G := Z.1
  have K := Z.2.1
  obtain ⟨r, x', hx', c5, c6, hv⟩ := hst x hx
  refine lv_aload_n G.1 G.2.1 dL_law_164 rfl (lv_at hl 2 rfl) ?_
  refine ldS Z hl w.2.2 hi (k := 1) (by decide) dL_law_165 dL_law_166 dL_law_167 dL_law_168 dL_law_169 ?_
  refine ldS Z hl w.2.2 hi (k := 2) (by decide) dL_law_170 dL_law_171 dL_law_172 dL_law_173 dL_law_174 ?_
  refine ldS Z hl w.2.2 hi (k := 3) (by decide) dL_law_175 dL_law_176 dL_law_177 dL_law_178 dL_law_179 ?_
  refine lawC (As := [.int (xs (i + 1)), .int (xs (i + 2)), .int (xs (i + 3))]) (rest := []) G K (fun q h => h) w F_X5_put c5 ml_L_13 rfl (Nat.le_of_ble_eq_true rfl) (Nat.le_of_ble_eq_true rfl) (Nat.le_of_ble_eq_true rfl) rfl hl.1 (Nat.le_of_ble_eq_true rfl) dL_law_180 hc9 hs9 (fun H5 lo5 w => ?_)
  refine lv_aload_n G.1 G.2.1 dL_law_183 rfl (lv_at hl 1 rfl) ?_
  refine ldS Z hl w.2.2 hi (k := 1) (by decide) dL_law_184 dL_law_185 dL_law_186 dL_law_187 dL_law_188 ?_
  refine ldS Z hl w.2.2 hi (k := 2) (by decide) dL_law_189 dL_law_190 dL_law_191 dL_law_192 dL_law_193 ?_
  refine ldS Z hl w.2.2 hi (k := 3) (by decide) dL_law_194 dL_law_195 dL_law_196 dL_law_197 dL_law_198 ?_
  refine lawR (As := [.int (xs (i + 1)), .int (xs (i + 2)), .int (xs (i + 3))]) (rest := [r]) G K (fun q h => h) w F_X6_put c6 ml_L_17 rfl (Nat.le_of_ble_eq_true rfl) (Nat.le_of_ble_eq_true rfl) (Nat.le_of_ble_eq_true rfl) rfl hl.1 (hcat r) dL_law_199 hc9 hs9 (fun H6 lo6 w => ?_)
  exact kk r x' H6 lo6 hv hx' w
theorem lw_close {i : Nat} {x : S9} (Z : LZ p m c s args D cI cZ cS b L xs) (hst : Step l D cI cZ cS d yX5_close cX5_close 1 yX6_close cX6_close 2 .int []) (hx : Inv x) (hi : i + 6 ≤ L) (hc9 : cells ≤ room_1.cells) (hs9 : slots ≤ room_1.slots) (w : WW D (LA s) s.heap (x.C cI cZ cS d ++ x.R cI cZ d) H locs) (hl : lv_has ls 4 (lvL d b i))
    (kk : ∀ (r : Value) (x' : S9) (H1 : Heap) (locs1 : List Loc), vI .int r → Inv x' → WW D (LA s) s.heap (x'.C cI cZ cS d ++ x'.R cI cZ d) H1 locs1 → W p l e room_1 s m args below meth c H1 locs1 cells slots Q (F0 m 215 ls [r, r])) : W p l e room_1 s m args below meth c H locs cells slots Q (F0 m 207 ls []) := by
  have G := Z.1
  have K := Z.2.1
  obtain ⟨r, x', hx', c5, c6, hv⟩ := hst x hx
  refine lv_aload_n G.1 G.2.1 dL_law_207 rfl (lv_at hl 2 rfl) ?_
  refine lawC (As := []) (rest := []) G K (fun q h => h) w F_X5_close c5 ml_L_18 rfl (Nat.le_of_ble_eq_true rfl) (Nat.le_of_ble_eq_true rfl) (Nat.le_of_ble_eq_true rfl) rfl hl.1 (Nat.le_of_ble_eq_true rfl) dL_law_208 hc9 hs9 (fun H5 lo5 w => ?_)
  refine lv_aload_n G.1 G.2.1 dL_law_211 rfl (lv_at hl 1 rfl) ?_
  refine lawR (As := []) (rest := [r]) G K (fun q h => h) w F_X6_close c6 ml_L_22 rfl (Nat.le_of_ble_eq_true rfl) (Nat.le_of_ble_eq_true rfl) (Nat.le_of_ble_eq_true rfl) rfl hl.1 (hcat r) dL_law_212 hc9 hs9 (fun H6 lo6 w => ?_)
  exact kk r x' H6 lo6 hv hx' w
theorem lw_undo {i : Nat} {x : S9} (Z : LZ p m c s args D cI cZ cS b L xs) (hst : Step l D cI cZ cS d yX5_undo cX5_undo 1 yX6_undo cX6_undo 1 .int []) (hx : Inv x) (hi : i + 6 ≤ L) (hc9 : cells ≤ room_1.cells) (hs9 : slots ≤ room_1.slots) (w : WW D (LA s) s.heap (x.C cI cZ cS d ++ x.R cI cZ d) H locs) (hl : lv_has ls 4 (lvL d b i))
    (kk : ∀ (r : Value) (x' : S9) (H1 : Heap) (locs1 : List Loc), vI .int r → Inv x' → WW D (LA s) s.heap (x'.C cI cZ cS d ++ x'.R cI cZ d) H1 locs1 → W p l e room_1 s m args below meth c H1 locs1 cells slots Q (F0 m 228 ls [r, r])) : W p l e room_1 s m args below meth c H locs cells slots Q (F0 m 220 ls []) := by
  have G := Z.1
  have K := Z.2.1
  obtain ⟨r, x', hx', c5, c6, hv⟩ := hst x hx
  refine lv_aload_n G.1 G.2.1 dL_law_220 rfl (lv_at hl 2 rfl) ?_
  refine lawC (As := []) (rest := []) G K (fun q h => h) w F_X5_undo c5 ml_L_23 rfl (Nat.le_of_ble_eq_true rfl) (Nat.le_of_ble_eq_true rfl) (Nat.le_of_ble_eq_true rfl) rfl hl.1 (Nat.le_of_ble_eq_true rfl) dL_law_221 hc9 hs9 (fun H5 lo5 w => ?_)
  refine lv_aload_n G.1 G.2.1 dL_law_224 rfl (lv_at hl 1 rfl) ?_
  refine lawR (As := []) (rest := [r]) G K (fun q h => h) w F_X6_undo c6 ml_L_26 rfl (Nat.le_of_ble_eq_true rfl) (Nat.le_of_ble_eq_true rfl) (Nat.le_of_ble_eq_true rfl) rfl hl.1 (hcat r) dL_law_225 hc9 hs9 (fun H6 lo6 w => ?_)
  exact kk r x' H6 lo6 hv hx' w
theorem lw_cover {i : Nat} {x : S9} (Z : LZ p m c s args D cI cZ cS b L xs) (hst : Step l D cI cZ cS d yX5_cover cX5_cover 7 yX6_cover cX6_cover 6 .int [.int (xs (i + 1)), .int (xs (i + 2)), .int (xs (i + 3)), .int (xs (i + 4)), .int (xs (i + 5))]) (hx : Inv x) (hi : i + 6 ≤ L) (hc9 : cells ≤ room_1.cells) (hs9 : slots ≤ room_1.slots) (w : WW D (LA s) s.heap (x.C cI cZ cS d ++ x.R cI cZ d) H locs) (hl : lv_has ls 4 (lvL d b i))
    (kk : ∀ (r : Value) (x' : S9) (H1 : Heap) (locs1 : List Loc), vI .int r → Inv x' → WW D (LA s) s.heap (x'.C cI cZ cS d ++ x'.R cI cZ d) H1 locs1 → W p l e room_1 s m args below meth c H1 locs1 cells slots Q (F0 m 291 ls [r, r])) : W p l e room_1 s m args below meth c H locs cells slots Q (F0 m 233 ls []) := by
  have G := Z.1
  have K := Z.2.1
  obtain ⟨r, x', hx', c5, c6, hv⟩ := hst x hx
  refine lv_aload_n G.1 G.2.1 dL_law_233 rfl (lv_at hl 2 rfl) ?_
  refine ldS Z hl w.2.2 hi (k := 1) (by decide) dL_law_234 dL_law_235 dL_law_236 dL_law_237 dL_law_238 ?_
  refine ldS Z hl w.2.2 hi (k := 2) (by decide) dL_law_239 dL_law_240 dL_law_241 dL_law_242 dL_law_243 ?_
  refine ldS Z hl w.2.2 hi (k := 3) (by decide) dL_law_244 dL_law_245 dL_law_246 dL_law_247 dL_law_248 ?_
  refine ldS Z hl w.2.2 hi (k := 4) (by decide) dL_law_249 dL_law_250 dL_law_251 dL_law_252 dL_law_253 ?_
  refine ldS Z hl w.2.2 hi (k := 5) (by decide) dL_law_254 dL_law_255 dL_law_256 dL_law_257 dL_law_258 ?_
  refine lawC (As := [.int (xs (i + 1)), .int (xs (i + 2)), .int (xs (i + 3)), .int (xs (i + 4)), .int (xs (i + 5))]) (rest := []) G K (fun q h => h) w F_X5_cover c5 ml_L_27 rfl (Nat.le_of_ble_eq_true rfl) (Nat.le_of_ble_eq_true rfl) (Nat.le_of_ble_eq_true rfl) rfl hl.1 (Nat.le_of_ble_eq_true rfl) dL_law_259 hc9 hs9 (fun H5 lo5 w => ?_)
  refine lv_aload_n G.1 G.2.1 dL_law_262 rfl (lv_at hl 1 rfl) ?_
  refine ldS Z hl w.2.2 hi (k := 1) (by decide) dL_law_263 dL_law_264 dL_law_265 dL_law_266 dL_law_267 ?_
  refine ldS Z hl w.2.2 hi (k := 2) (by decide) dL_law_268 dL_law_269 dL_law_270 dL_law_271 dL_law_272 ?_
  refine ldS Z hl w.2.2 hi (k := 3) (by decide) dL_law_273 dL_law_274 dL_law_275 dL_law_276 dL_law_277 ?_
  refine ldS Z hl w.2.2 hi (k := 4) (by decide) dL_law_278 dL_law_279 dL_law_280 dL_law_281 dL_law_282 ?_
  refine ldS Z hl w.2.2 hi (k := 5) (by decide) dL_law_283 dL_law_284 dL_law_285 dL_law_286 dL_law_287 ?_
  refine lawR (As := [.int (xs (i + 1)), .int (xs (i + 2)), .int (xs (i + 3)), .int (xs (i + 4)), .int (xs (i + 5))]) (rest := [r]) G K (fun q h => h) w F_X6_cover c6 ml_L_31 rfl (Nat.le_of_ble_eq_true rfl) (Nat.le_of_ble_eq_true rfl) (Nat.le_of_ble_eq_true rfl) rfl hl.1 (hcat r) dL_law_288 hc9 hs9 (fun H6 lo6 w => ?_)
  exact kk r x' H6 lo6 hv hx' w
theorem lw_alter {i : Nat} {x : S9} (Z : LZ p m c s args D cI cZ cS b L xs) (hst : Step l D cI cZ cS d yX5_alter cX5_alter 4 yX6_alter cX6_alter 4 .int [.int (xs (i + 1)), .int (xs (i + 2))]) (hx : Inv x) (hi : i + 6 ≤ L) (hc9 : cells ≤ room_1.cells) (hs9 : slots ≤ room_1.slots) (w : WW D (LA s) s.heap (x.C cI cZ cS d ++ x.R cI cZ d) H locs) (hl : lv_has ls 4 (lvL d b i))
    (kk : ∀ (r : Value) (x' : S9) (H1 : Heap) (locs1 : List Loc), vI .int r → Inv x' → WW D (LA s) s.heap (x'.C cI cZ cS d ++ x'.R cI cZ d) H1 locs1 → W p l e room_1 s m args below meth c H1 locs1 cells slots Q (F0 m 324 ls [r, r])) : W p l e room_1 s m args below meth c H locs cells slots Q (F0 m 296 ls []) := by
  have G := Z.1
  have K := Z.2.1
  obtain ⟨r, x', hx', c5, c6, hv⟩ := hst x hx
  refine lv_aload_n G.1 G.2.1 dL_law_296 rfl (lv_at hl 2 rfl) ?_
  refine ldS Z hl w.2.2 hi (k := 1) (by decide) dL_law_297 dL_law_298 dL_law_299 dL_law_300 dL_law_301 ?_
  refine ldS Z hl w.2.2 hi (k := 2) (by decide) dL_law_302 dL_law_303 dL_law_304 dL_law_305 dL_law_306 ?_
  refine lawC (As := [.int (xs (i + 1)), .int (xs (i + 2))]) (rest := []) G K (fun q h => h) w F_X5_alter c5 ml_L_32 rfl (Nat.le_of_ble_eq_true rfl) (Nat.le_of_ble_eq_true rfl) (Nat.le_of_ble_eq_true rfl) rfl hl.1 (Nat.le_of_ble_eq_true rfl) dL_law_307 hc9 hs9 (fun H5 lo5 w => ?_)
  refine lv_aload_n G.1 G.2.1 dL_law_310 rfl (lv_at hl 1 rfl) ?_
  refine ldS Z hl w.2.2 hi (k := 1) (by decide) dL_law_311 dL_law_312 dL_law_313 dL_law_314 dL_law_315 ?_
  refine ldS Z hl w.2.2 hi (k := 2) (by decide) dL_law_316 dL_law_317 dL_law_318 dL_law_319 dL_law_320 ?_
  refine lawR (As := [.int (xs (i + 1)), .int (xs (i + 2))]) (rest := [r]) G K (fun q h => h) w F_X6_alter c6 ml_L_36 rfl (Nat.le_of_ble_eq_true rfl) (Nat.le_of_ble_eq_true rfl) (Nat.le_of_ble_eq_true rfl) rfl hl.1 (hcat r) dL_law_321 hc9 hs9 (fun H6 lo6 w => ?_)
  exact kk r x' H6 lo6 hv hx' w
theorem lw_read {i : Nat} {x : S9} (Z : LZ p m c s args D cI cZ cS b L xs) (hst : Step l D cI cZ cS d yX5_read cX5_read 5 yX6_read cX6_read 5 .int [.int (xs (i + 1))]) (hx : Inv x) (hi : i + 6 ≤ L) (hc9 : cells ≤ room_1.cells) (hs9 : slots ≤ room_1.slots) (w : WW D (LA s) s.heap (x.C cI cZ cS d ++ x.R cI cZ d) H locs) (hl : lv_has ls 4 (lvL d b i))
    (kk : ∀ (r : Value) (x' : S9) (H1 : Heap) (locs1 : List Loc), vI .int r → Inv x' → WW D (LA s) s.heap (x'.C cI cZ cS d ++ x'.R cI cZ d) H1 locs1 → W p l e room_1 s m args below meth c H1 locs1 cells slots Q (F0 m 347 ls [r, r])) : W p l e room_1 s m args below meth c H locs cells slots Q (F0 m 329 ls []) := by
  have G := Z.1
  have K := Z.2.1
  obtain ⟨r, x', hx', c5, c6, hv⟩ := hst x hx
  refine lv_aload_n G.1 G.2.1 dL_law_329 rfl (lv_at hl 2 rfl) ?_
  refine ldS Z hl w.2.2 hi (k := 1) (by decide) dL_law_330 dL_law_331 dL_law_332 dL_law_333 dL_law_334 ?_
  refine lawC (As := [.int (xs (i + 1))]) (rest := []) G K (fun q h => h) w F_X5_read c5 ml_L_37 rfl (Nat.le_of_ble_eq_true rfl) (Nat.le_of_ble_eq_true rfl) (Nat.le_of_ble_eq_true rfl) rfl hl.1 (Nat.le_of_ble_eq_true rfl) dL_law_335 hc9 hs9 (fun H5 lo5 w => ?_)
  refine lv_aload_n G.1 G.2.1 dL_law_338 rfl (lv_at hl 1 rfl) ?_
  refine ldS Z hl w.2.2 hi (k := 1) (by decide) dL_law_339 dL_law_340 dL_law_341 dL_law_342 dL_law_343 ?_
  refine lawR (As := [.int (xs (i + 1))]) (rest := [r]) G K (fun q h => h) w F_X6_read c6 ml_L_41 rfl (Nat.le_of_ble_eq_true rfl) (Nat.le_of_ble_eq_true rfl) (Nat.le_of_ble_eq_true rfl) rfl hl.1 (hcat r) dL_law_344 hc9 hs9 (fun H6 lo6 w => ?_)
  exact kk r x' H6 lo6 hv hx' w
theorem lw_write {i : Nat} {x : S9} (Z : LZ p m c s args D cI cZ cS b L xs) (hst : Step l D cI cZ cS d yX5_write cX5_write 3 yX6_write cX6_write 3 .int [.int (xs (i + 1)), .int (xs (i + 2))]) (hx : Inv x) (hi : i + 6 ≤ L) (hc9 : cells ≤ room_1.cells) (hs9 : slots ≤ room_1.slots) (w : WW D (LA s) s.heap (x.C cI cZ cS d ++ x.R cI cZ d) H locs) (hl : lv_has ls 4 (lvL d b i))
    (kk : ∀ (r : Value) (x' : S9) (H1 : Heap) (locs1 : List Loc), vI .int r → Inv x' → WW D (LA s) s.heap (x'.C cI cZ cS d ++ x'.R cI cZ d) H1 locs1 → W p l e room_1 s m args below meth c H1 locs1 cells slots Q (F0 m 380 ls [r, r])) : W p l e room_1 s m args below meth c H locs cells slots Q (F0 m 352 ls []) := by
  have G := Z.1
  have K := Z.2.1
  obtain ⟨r, x', hx', c5, c6, hv⟩ := hst x hx
  refine lv_aload_n G.1 G.2.1 dL_law_352 rfl (lv_at hl 2 rfl) ?_
  refine ldS Z hl w.2.2 hi (k := 1) (by decide) dL_law_353 dL_law_354 dL_law_355 dL_law_356 dL_law_357 ?_
  refine ldS Z hl w.2.2 hi (k := 2) (by decide) dL_law_358 dL_law_359 dL_law_360 dL_law_361 dL_law_362 ?_
  refine lawC (As := [.int (xs (i + 1)), .int (xs (i + 2))]) (rest := []) G K (fun q h => h) w F_X5_write c5 ml_L_42 rfl (Nat.le_of_ble_eq_true rfl) (Nat.le_of_ble_eq_true rfl) (Nat.le_of_ble_eq_true rfl) rfl hl.1 (Nat.le_of_ble_eq_true rfl) dL_law_363 hc9 hs9 (fun H5 lo5 w => ?_)
  refine lv_aload_n G.1 G.2.1 dL_law_366 rfl (lv_at hl 1 rfl) ?_
  refine ldS Z hl w.2.2 hi (k := 1) (by decide) dL_law_367 dL_law_368 dL_law_369 dL_law_370 dL_law_371 ?_
  refine ldS Z hl w.2.2 hi (k := 2) (by decide) dL_law_372 dL_law_373 dL_law_374 dL_law_375 dL_law_376 ?_
  refine lawR (As := [.int (xs (i + 1)), .int (xs (i + 2))]) (rest := [r]) G K (fun q h => h) w F_X6_write c6 ml_L_45 rfl (Nat.le_of_ble_eq_true rfl) (Nat.le_of_ble_eq_true rfl) (Nat.le_of_ble_eq_true rfl) rfl hl.1 (hcat r) dL_law_377 hc9 hs9 (fun H6 lo6 w => ?_)
  exact kk r x' H6 lo6 hv hx' w
theorem lw_revision {i : Nat} {x : S9} (Z : LZ p m c s args D cI cZ cS b L xs) (hst : Step l D cI cZ cS d yX5_revision cX5_revision 3 yX6_revision cX6_revision 3 .int [.int (xs (i + 1)), .int (xs (i + 2))]) (hx : Inv x) (hi : i + 6 ≤ L) (hc9 : cells ≤ room_1.cells) (hs9 : slots ≤ room_1.slots) (w : WW D (LA s) s.heap (x.C cI cZ cS d ++ x.R cI cZ d) H locs) (hl : lv_has ls 4 (lvL d b i))
    (kk : ∀ (r : Value) (x' : S9) (H1 : Heap) (locs1 : List Loc), vI .int r → Inv x' → WW D (LA s) s.heap (x'.C cI cZ cS d ++ x'.R cI cZ d) H1 locs1 → W p l e room_1 s m args below meth c H1 locs1 cells slots Q (F0 m 413 ls [r, r])) : W p l e room_1 s m args below meth c H locs cells slots Q (F0 m 385 ls []) := by
  have G := Z.1
  have K := Z.2.1
  obtain ⟨r, x', hx', c5, c6, hv⟩ := hst x hx
  refine lv_aload_n G.1 G.2.1 dL_law_385 rfl (lv_at hl 2 rfl) ?_
  refine ldS Z hl w.2.2 hi (k := 1) (by decide) dL_law_386 dL_law_387 dL_law_388 dL_law_389 dL_law_390 ?_
  refine ldS Z hl w.2.2 hi (k := 2) (by decide) dL_law_391 dL_law_392 dL_law_393 dL_law_394 dL_law_395 ?_
  refine lawC (As := [.int (xs (i + 1)), .int (xs (i + 2))]) (rest := []) G K (fun q h => h) w F_X5_revision c5 ml_L_46 rfl (Nat.le_of_ble_eq_true rfl) (Nat.le_of_ble_eq_true rfl) (Nat.le_of_ble_eq_true rfl) rfl hl.1 (Nat.le_of_ble_eq_true rfl) dL_law_396 hc9 hs9 (fun H5 lo5 w => ?_)
  refine lv_aload_n G.1 G.2.1 dL_law_399 rfl (lv_at hl 1 rfl) ?_
  refine ldS Z hl w.2.2 hi (k := 1) (by decide) dL_law_400 dL_law_401 dL_law_402 dL_law_403 dL_law_404 ?_
  refine ldS Z hl w.2.2 hi (k := 2) (by decide) dL_law_405 dL_law_406 dL_law_407 dL_law_408 dL_law_409 ?_
  refine lawR (As := [.int (xs (i + 1)), .int (xs (i + 2))]) (rest := [r]) G K (fun q h => h) w F_X6_revision c6 ml_L_49 rfl (Nat.le_of_ble_eq_true rfl) (Nat.le_of_ble_eq_true rfl) (Nat.le_of_ble_eq_true rfl) rfl hl.1 (hcat r) dL_law_410 hc9 hs9 (fun H6 lo6 w => ?_)
  exact kk r x' H6 lo6 hv hx' w
theorem lw_bytes {i : Nat} {x : S9} (Z : LZ p m c s args D cI cZ cS b L xs) (hst : Step l D cI cZ cS d yX5_bytes cX5_bytes 2 yX6_bytes cX6_bytes 2 .int [.int (xs (i + 1))]) (hx : Inv x) (hi : i + 6 ≤ L) (hc9 : cells ≤ room_1.cells) (hs9 : slots ≤ room_1.slots) (w : WW D (LA s) s.heap (x.C cI cZ cS d ++ x.R cI cZ d) H locs) (hl : lv_has ls 4 (lvL d b i))
    (kk : ∀ (r : Value) (x' : S9) (H1 : Heap) (locs1 : List Loc), vI .int r → Inv x' → WW D (LA s) s.heap (x'.C cI cZ cS d ++ x'.R cI cZ d) H1 locs1 → W p l e room_1 s m args below meth c H1 locs1 cells slots Q (F0 m 436 ls [r, r])) : W p l e room_1 s m args below meth c H locs cells slots Q (F0 m 418 ls []) := by
  have G := Z.1
  have K := Z.2.1
  obtain ⟨r, x', hx', c5, c6, hv⟩ := hst x hx
  refine lv_aload_n G.1 G.2.1 dL_law_418 rfl (lv_at hl 2 rfl) ?_
  refine ldS Z hl w.2.2 hi (k := 1) (by decide) dL_law_419 dL_law_420 dL_law_421 dL_law_422 dL_law_423 ?_
  refine lawC (As := [.int (xs (i + 1))]) (rest := []) G K (fun q h => h) w F_X5_bytes c5 ml_L_50 rfl (Nat.le_of_ble_eq_true rfl) (Nat.le_of_ble_eq_true rfl) (Nat.le_of_ble_eq_true rfl) rfl hl.1 (Nat.le_of_ble_eq_true rfl) dL_law_424 hc9 hs9 (fun H5 lo5 w => ?_)
  refine lv_aload_n G.1 G.2.1 dL_law_427 rfl (lv_at hl 1 rfl) ?_
  refine ldS Z hl w.2.2 hi (k := 1) (by decide) dL_law_428 dL_law_429 dL_law_430 dL_law_431 dL_law_432 ?_
  refine lawR (As := [.int (xs (i + 1))]) (rest := [r]) G K (fun q h => h) w F_X6_bytes c6 ml_L_53 rfl (Nat.le_of_ble_eq_true rfl) (Nat.le_of_ble_eq_true rfl) (Nat.le_of_ble_eq_true rfl) rfl hl.1 (hcat r) dL_law_433 hc9 hs9 (fun H6 lo6 w => ?_)
  exact kk r x' H6 lo6 hv hx' w
theorem lw_thing {i : Nat} {x : S9} (Z : LZ p m c s args D cI cZ cS b L xs) (hst : Step l D cI cZ cS d yX5_thing cX5_thing 5 yX6_thing cX6_thing 4 .int [.int (xs (i + 1)), .int (xs (i + 2)), .int (xs (i + 3))]) (hx : Inv x) (hi : i + 6 ≤ L) (hc9 : cells ≤ room_1.cells) (hs9 : slots ≤ room_1.slots) (w : WW D (LA s) s.heap (x.C cI cZ cS d ++ x.R cI cZ d) H locs) (hl : lv_has ls 4 (lvL d b i))
    (kk : ∀ (r : Value) (x' : S9) (H1 : Heap) (locs1 : List Loc), vI .int r → Inv x' → WW D (LA s) s.heap (x'.C cI cZ cS d ++ x'.R cI cZ d) H1 locs1 → W p l e room_1 s m args below meth c H1 locs1 cells slots Q (F0 m 479 ls [r, r])) : W p l e room_1 s m args below meth c H locs cells slots Q (F0 m 441 ls []) := by
  have G := Z.1
  have K := Z.2.1
  obtain ⟨r, x', hx', c5, c6, hv⟩ := hst x hx
  refine lv_aload_n G.1 G.2.1 dL_law_441 rfl (lv_at hl 2 rfl) ?_
  refine ldS Z hl w.2.2 hi (k := 1) (by decide) dL_law_442 dL_law_443 dL_law_444 dL_law_445 dL_law_446 ?_
  refine ldS Z hl w.2.2 hi (k := 2) (by decide) dL_law_447 dL_law_448 dL_law_449 dL_law_450 dL_law_451 ?_
  refine ldS Z hl w.2.2 hi (k := 3) (by decide) dL_law_452 dL_law_453 dL_law_454 dL_law_455 dL_law_456 ?_
  refine lawC (As := [.int (xs (i + 1)), .int (xs (i + 2)), .int (xs (i + 3))]) (rest := []) G K (fun q h => h) w F_X5_thing c5 ml_L_54 rfl (Nat.le_of_ble_eq_true rfl) (Nat.le_of_ble_eq_true rfl) (Nat.le_of_ble_eq_true rfl) rfl hl.1 (Nat.le_of_ble_eq_true rfl) dL_law_457 hc9 hs9 (fun H5 lo5 w => ?_)
  refine lv_aload_n G.1 G.2.1 dL_law_460 rfl (lv_at hl 1 rfl) ?_
  refine ldS Z hl w.2.2 hi (k := 1) (by decide) dL_law_461 dL_law_462 dL_law_463 dL_law_464 dL_law_465 ?_
  refine ldS Z hl w.2.2 hi (k := 2) (by decide) dL_law_466 dL_law_467 dL_law_468 dL_law_469 dL_law_470 ?_
  refine ldS Z hl w.2.2 hi (k := 3) (by decide) dL_law_471 dL_law_472 dL_law_473 dL_law_474 dL_law_475 ?_
  refine lawR (As := [.int (xs (i + 1)), .int (xs (i + 2)), .int (xs (i + 3))]) (rest := [r]) G K (fun q h => h) w F_X6_thing c6 ml_L_57 rfl (Nat.le_of_ble_eq_true rfl) (Nat.le_of_ble_eq_true rfl) (Nat.le_of_ble_eq_true rfl) rfl hl.1 (hcat r) dL_law_476 hc9 hs9 (fun H6 lo6 w => ?_)
  exact kk r x' H6 lo6 hv hx' w
theorem lw_shadows {i : Nat} {x : S9} (Z : LZ p m c s args D cI cZ cS b L xs) (hst : Step l D cI cZ cS d yX5_shadows cX5_shadows 2 yX6_shadows cX6_shadows 2 .int [.int (xs (i + 1))]) (hx : Inv x) (hi : i + 6 ≤ L) (hc9 : cells ≤ room_1.cells) (hs9 : slots ≤ room_1.slots) (w : WW D (LA s) s.heap (x.C cI cZ cS d ++ x.R cI cZ d) H locs) (hl : lv_has ls 4 (lvL d b i))
    (kk : ∀ (r : Value) (x' : S9) (H1 : Heap) (locs1 : List Loc), vI .int r → Inv x' → WW D (LA s) s.heap (x'.C cI cZ cS d ++ x'.R cI cZ d) H1 locs1 → W p l e room_1 s m args below meth c H1 locs1 cells slots Q (F0 m 502 ls [r, r])) : W p l e room_1 s m args below meth c H locs cells slots Q (F0 m 484 ls []) := by
  have G := Z.1
  have K := Z.2.1
  obtain ⟨r, x', hx', c5, c6, hv⟩ := hst x hx
  refine lv_aload_n G.1 G.2.1 dL_law_484 rfl (lv_at hl 2 rfl) ?_
  refine ldS Z hl w.2.2 hi (k := 1) (by decide) dL_law_485 dL_law_486 dL_law_487 dL_law_488 dL_law_489 ?_
  refine lawC (As := [.int (xs (i + 1))]) (rest := []) G K (fun q h => h) w F_X5_shadows c5 ml_L_58 rfl (Nat.le_of_ble_eq_true rfl) (Nat.le_of_ble_eq_true rfl) (Nat.le_of_ble_eq_true rfl) rfl hl.1 (Nat.le_of_ble_eq_true rfl) dL_law_490 hc9 hs9 (fun H5 lo5 w => ?_)
  refine lv_aload_n G.1 G.2.1 dL_law_493 rfl (lv_at hl 1 rfl) ?_
  refine ldS Z hl w.2.2 hi (k := 1) (by decide) dL_law_494 dL_law_495 dL_law_496 dL_law_497 dL_law_498 ?_
  refine lawR (As := [.int (xs (i + 1))]) (rest := [r]) G K (fun q h => h) w F_X6_shadows c6 ml_L_61 rfl (Nat.le_of_ble_eq_true rfl) (Nat.le_of_ble_eq_true rfl) (Nat.le_of_ble_eq_true rfl) rfl hl.1 (hcat r) dL_law_499 hc9 hs9 (fun H6 lo6 w => ?_)
  exact kk r x' H6 lo6 hv hx' w
theorem lw_covers {i : Nat} {x : S9} (Z : LZ p m c s args D cI cZ cS b L xs) (hst : Step l D cI cZ cS d yX5_covers cX5_covers 3 yX6_covers cX6_covers 3 .int [.int (xs (i + 1)), .int (xs (i + 2))]) (hx : Inv x) (hi : i + 6 ≤ L) (hc9 : cells ≤ room_1.cells) (hs9 : slots ≤ room_1.slots) (w : WW D (LA s) s.heap (x.C cI cZ cS d ++ x.R cI cZ d) H locs) (hl : lv_has ls 4 (lvL d b i))
    (kk : ∀ (r : Value) (x' : S9) (H1 : Heap) (locs1 : List Loc), vI .int r → Inv x' → WW D (LA s) s.heap (x'.C cI cZ cS d ++ x'.R cI cZ d) H1 locs1 → W p l e room_1 s m args below meth c H1 locs1 cells slots Q (F0 m 535 ls [r, r])) : W p l e room_1 s m args below meth c H locs cells slots Q (F0 m 507 ls []) := by
  have G := Z.1
  have K := Z.2.1
  obtain ⟨r, x', hx', c5, c6, hv⟩ := hst x hx
  refine lv_aload_n G.1 G.2.1 dL_law_507 rfl (lv_at hl 2 rfl) ?_
  refine ldS Z hl w.2.2 hi (k := 1) (by decide) dL_law_508 dL_law_509 dL_law_510 dL_law_511 dL_law_512 ?_
  refine ldS Z hl w.2.2 hi (k := 2) (by decide) dL_law_513 dL_law_514 dL_law_515 dL_law_516 dL_law_517 ?_
  refine lawC (As := [.int (xs (i + 1)), .int (xs (i + 2))]) (rest := []) G K (fun q h => h) w F_X5_covers c5 ml_L_62 rfl (Nat.le_of_ble_eq_true rfl) (Nat.le_of_ble_eq_true rfl) (Nat.le_of_ble_eq_true rfl) rfl hl.1 (Nat.le_of_ble_eq_true rfl) dL_law_518 hc9 hs9 (fun H5 lo5 w => ?_)
  refine lv_aload_n G.1 G.2.1 dL_law_521 rfl (lv_at hl 1 rfl) ?_
  refine ldS Z hl w.2.2 hi (k := 1) (by decide) dL_law_522 dL_law_523 dL_law_524 dL_law_525 dL_law_526 ?_
  refine ldS Z hl w.2.2 hi (k := 2) (by decide) dL_law_527 dL_law_528 dL_law_529 dL_law_530 dL_law_531 ?_
  refine lawR (As := [.int (xs (i + 1)), .int (xs (i + 2))]) (rest := [r]) G K (fun q h => h) w F_X6_covers c6 ml_L_65 rfl (Nat.le_of_ble_eq_true rfl) (Nat.le_of_ble_eq_true rfl) (Nat.le_of_ble_eq_true rfl) rfl hl.1 (hcat r) dL_law_532 hc9 hs9 (fun H6 lo6 w => ?_)
  exact kk r x' H6 lo6 hv hx' w
theorem lw_covered {i : Nat} {x : S9} (Z : LZ p m c s args D cI cZ cS b L xs) (hst : Step l D cI cZ cS d yX5_covered cX5_covered 2 yX6_covered cX6_covered 2 .int [.int (xs (i + 1))]) (hx : Inv x) (hi : i + 6 ≤ L) (hc9 : cells ≤ room_1.cells) (hs9 : slots ≤ room_1.slots) (w : WW D (LA s) s.heap (x.C cI cZ cS d ++ x.R cI cZ d) H locs) (hl : lv_has ls 4 (lvL d b i))
    (kk : ∀ (r : Value) (x' : S9) (H1 : Heap) (locs1 : List Loc), vI .int r → Inv x' → WW D (LA s) s.heap (x'.C cI cZ cS d ++ x'.R cI cZ d) H1 locs1 → W p l e room_1 s m args below meth c H1 locs1 cells slots Q (F0 m 558 ls [r, r])) : W p l e room_1 s m args below meth c H locs cells slots Q (F0 m 540 ls []) := by
  have G := Z.1
  have K := Z.2.1
  obtain ⟨r, x', hx', c5, c6, hv⟩ := hst x hx
  refine lv_aload_n G.1 G.2.1 dL_law_540 rfl (lv_at hl 2 rfl) ?_
  refine ldS Z hl w.2.2 hi (k := 1) (by decide) dL_law_541 dL_law_542 dL_law_543 dL_law_544 dL_law_545 ?_
  refine lawC (As := [.int (xs (i + 1))]) (rest := []) G K (fun q h => h) w F_X5_covered c5 ml_L_66 rfl (Nat.le_of_ble_eq_true rfl) (Nat.le_of_ble_eq_true rfl) (Nat.le_of_ble_eq_true rfl) rfl hl.1 (Nat.le_of_ble_eq_true rfl) dL_law_546 hc9 hs9 (fun H5 lo5 w => ?_)
  refine lv_aload_n G.1 G.2.1 dL_law_549 rfl (lv_at hl 1 rfl) ?_
  refine ldS Z hl w.2.2 hi (k := 1) (by decide) dL_law_550 dL_law_551 dL_law_552 dL_law_553 dL_law_554 ?_
  refine lawR (As := [.int (xs (i + 1))]) (rest := [r]) G K (fun q h => h) w F_X6_covered c6 ml_L_69 rfl (Nat.le_of_ble_eq_true rfl) (Nat.le_of_ble_eq_true rfl) (Nat.le_of_ble_eq_true rfl) rfl hl.1 (hcat r) dL_law_555 hc9 hs9 (fun H6 lo6 w => ?_)
  exact kk r x' H6 lo6 hv hx' w
theorem lw_number {i : Nat} {x : S9} (Z : LZ p m c s args D cI cZ cS b L xs) (hst : Step l D cI cZ cS d yX5_number cX5_number 3 yX6_number cX6_number 3 .int [.int (xs (i + 1)), .int (xs (i + 2))]) (hx : Inv x) (hi : i + 6 ≤ L) (hc9 : cells ≤ room_1.cells) (hs9 : slots ≤ room_1.slots) (w : WW D (LA s) s.heap (x.C cI cZ cS d ++ x.R cI cZ d) H locs) (hl : lv_has ls 4 (lvL d b i))
    (kk : ∀ (r : Value) (x' : S9) (H1 : Heap) (locs1 : List Loc), vI .int r → Inv x' → WW D (LA s) s.heap (x'.C cI cZ cS d ++ x'.R cI cZ d) H1 locs1 → W p l e room_1 s m args below meth c H1 locs1 cells slots Q (F0 m 591 ls [r, r])) : W p l e room_1 s m args below meth c H locs cells slots Q (F0 m 563 ls []) := by
  have G := Z.1
  have K := Z.2.1
  obtain ⟨r, x', hx', c5, c6, hv⟩ := hst x hx
  refine lv_aload_n G.1 G.2.1 dL_law_563 rfl (lv_at hl 2 rfl) ?_
  refine ldS Z hl w.2.2 hi (k := 1) (by decide) dL_law_564 dL_law_565 dL_law_566 dL_law_567 dL_law_568 ?_
  refine ldS Z hl w.2.2 hi (k := 2) (by decide) dL_law_569 dL_law_570 dL_law_571 dL_law_572 dL_law_573 ?_
  refine lawC (As := [.int (xs (i + 1)), .int (xs (i + 2))]) (rest := []) G K (fun q h => h) w F_X5_number c5 ml_L_70 rfl (Nat.le_of_ble_eq_true rfl) (Nat.le_of_ble_eq_true rfl) (Nat.le_of_ble_eq_true rfl) rfl hl.1 (Nat.le_of_ble_eq_true rfl) dL_law_574 hc9 hs9 (fun H5 lo5 w => ?_)
  refine lv_aload_n G.1 G.2.1 dL_law_577 rfl (lv_at hl 1 rfl) ?_
  refine ldS Z hl w.2.2 hi (k := 1) (by decide) dL_law_578 dL_law_579 dL_law_580 dL_law_581 dL_law_582 ?_
  refine ldS Z hl w.2.2 hi (k := 2) (by decide) dL_law_583 dL_law_584 dL_law_585 dL_law_586 dL_law_587 ?_
  refine lawR (As := [.int (xs (i + 1)), .int (xs (i + 2))]) (rest := [r]) G K (fun q h => h) w F_X6_number c6 ml_L_73 rfl (Nat.le_of_ble_eq_true rfl) (Nat.le_of_ble_eq_true rfl) (Nat.le_of_ble_eq_true rfl) rfl hl.1 (hcat r) dL_law_588 hc9 hs9 (fun H6 lo6 w => ?_)
  exact kk r x' H6 lo6 hv hx' w
theorem lw_flaws {i : Nat} {x : S9} (Z : LZ p m c s args D cI cZ cS b L xs) (hst : Step l D cI cZ cS d yX5_flaws cX5_flaws 2 yX6_flaws cX6_flaws 2 .int [.int (xs (i + 1))]) (hx : Inv x) (hi : i + 6 ≤ L) (hc9 : cells ≤ room_1.cells) (hs9 : slots ≤ room_1.slots) (w : WW D (LA s) s.heap (x.C cI cZ cS d ++ x.R cI cZ d) H locs) (hl : lv_has ls 4 (lvL d b i))
    (kk : ∀ (r : Value) (x' : S9) (H1 : Heap) (locs1 : List Loc), vI .int r → Inv x' → WW D (LA s) s.heap (x'.C cI cZ cS d ++ x'.R cI cZ d) H1 locs1 → W p l e room_1 s m args below meth c H1 locs1 cells slots Q (F0 m 614 ls [r, r])) : W p l e room_1 s m args below meth c H locs cells slots Q (F0 m 596 ls []) := by
  have G := Z.1
  have K := Z.2.1
  obtain ⟨r, x', hx', c5, c6, hv⟩ := hst x hx
  refine lv_aload_n G.1 G.2.1 dL_law_596 rfl (lv_at hl 2 rfl) ?_
  refine ldS Z hl w.2.2 hi (k := 1) (by decide) dL_law_597 dL_law_598 dL_law_599 dL_law_600 dL_law_601 ?_
  refine lawC (As := [.int (xs (i + 1))]) (rest := []) G K (fun q h => h) w F_X5_flaws c5 ml_L_74 rfl (Nat.le_of_ble_eq_true rfl) (Nat.le_of_ble_eq_true rfl) (Nat.le_of_ble_eq_true rfl) rfl hl.1 (Nat.le_of_ble_eq_true rfl) dL_law_602 hc9 hs9 (fun H5 lo5 w => ?_)
  refine lv_aload_n G.1 G.2.1 dL_law_605 rfl (lv_at hl 1 rfl) ?_
  refine ldS Z hl w.2.2 hi (k := 1) (by decide) dL_law_606 dL_law_607 dL_law_608 dL_law_609 dL_law_610 ?_
  refine lawR (As := [.int (xs (i + 1))]) (rest := [r]) G K (fun q h => h) w F_X6_flaws c6 ml_L_77 rfl (Nat.le_of_ble_eq_true rfl) (Nat.le_of_ble_eq_true rfl) (Nat.le_of_ble_eq_true rfl) rfl hl.1 (hcat r) dL_law_611 hc9 hs9 (fun H6 lo6 w => ?_)
  exact kk r x' H6 lo6 hv hx' w
theorem lw_judge {i : Nat} {x : S9} (Z : LZ p m c s args D cI cZ cS b L xs) (hst : Step l D cI cZ cS d yX5_judge cX5_judge 4 yX6_judge cX6_judge 3 .int [.int (xs (i + 1)), .int (xs (i + 2))]) (hx : Inv x) (hi : i + 6 ≤ L) (hc9 : cells ≤ room_1.cells) (hs9 : slots ≤ room_1.slots) (w : WW D (LA s) s.heap (x.C cI cZ cS d ++ x.R cI cZ d) H locs) (hl : lv_has ls 4 (lvL d b i))
    (kk : ∀ (r : Value) (x' : S9) (H1 : Heap) (locs1 : List Loc), vI .int r → Inv x' → WW D (LA s) s.heap (x'.C cI cZ cS d ++ x'.R cI cZ d) H1 locs1 → W p l e room_1 s m args below meth c H1 locs1 cells slots Q (F0 m 647 ls [r, r])) : W p l e room_1 s m args below meth c H locs cells slots Q (F0 m 619 ls []) := by
  have G := Z.1
  have K := Z.2.1
  obtain ⟨r, x', hx', c5, c6, hv⟩ := hst x hx
  refine lv_aload_n G.1 G.2.1 dL_law_619 rfl (lv_at hl 2 rfl) ?_
  refine ldS Z hl w.2.2 hi (k := 1) (by decide) dL_law_620 dL_law_621 dL_law_622 dL_law_623 dL_law_624 ?_
  refine ldS Z hl w.2.2 hi (k := 2) (by decide) dL_law_625 dL_law_626 dL_law_627 dL_law_628 dL_law_629 ?_
  refine lawC (As := [.int (xs (i + 1)), .int (xs (i + 2))]) (rest := []) G K (fun q h => h) w F_X5_judge c5 ml_L_78 rfl (Nat.le_of_ble_eq_true rfl) (Nat.le_of_ble_eq_true rfl) (Nat.le_of_ble_eq_true rfl) rfl hl.1 (Nat.le_of_ble_eq_true rfl) dL_law_630 hc9 hs9 (fun H5 lo5 w => ?_)
  refine lv_aload_n G.1 G.2.1 dL_law_633 rfl (lv_at hl 1 rfl) ?_
  refine ldS Z hl w.2.2 hi (k := 1) (by decide) dL_law_634 dL_law_635 dL_law_636 dL_law_637 dL_law_638 ?_
  refine ldS Z hl w.2.2 hi (k := 2) (by decide) dL_law_639 dL_law_640 dL_law_641 dL_law_642 dL_law_643 ?_
  refine lawR (As := [.int (xs (i + 1)), .int (xs (i + 2))]) (rest := [r]) G K (fun q h => h) w F_X6_judge c6 ml_L_81 rfl (Nat.le_of_ble_eq_true rfl) (Nat.le_of_ble_eq_true rfl) (Nat.le_of_ble_eq_true rfl) rfl hl.1 (hcat r) dL_law_644 hc9 hs9 (fun H6 lo6 w => ?_)
  exact kk r x' H6 lo6 hv hx' w
theorem lw_change {i : Nat} {x : S9} (Z : LZ p m c s args D cI cZ cS b L xs) (hst : Step l D cI cZ cS d yX5_change cX5_change 6 yX6_change cX6_change 4 .int [.int (xs (i + 1)), .int (xs (i + 2)), .int (xs (i + 3))]) (hx : Inv x) (hi : i + 6 ≤ L) (hc9 : cells ≤ room_1.cells) (hs9 : slots ≤ room_1.slots) (w : WW D (LA s) s.heap (x.C cI cZ cS d ++ x.R cI cZ d) H locs) (hl : lv_has ls 4 (lvL d b i))
    (kk : ∀ (r : Value) (x' : S9) (H1 : Heap) (locs1 : List Loc), vI .int r → Inv x' → WW D (LA s) s.heap (x'.C cI cZ cS d ++ x'.R cI cZ d) H1 locs1 → W p l e room_1 s m args below meth c H1 locs1 cells slots Q (F0 m 690 ls [r, r])) : W p l e room_1 s m args below meth c H locs cells slots Q (F0 m 652 ls []) := by
  have G := Z.1
  have K := Z.2.1
  obtain ⟨r, x', hx', c5, c6, hv⟩ := hst x hx
  refine lv_aload_n G.1 G.2.1 dL_law_652 rfl (lv_at hl 2 rfl) ?_
  refine ldS Z hl w.2.2 hi (k := 1) (by decide) dL_law_653 dL_law_654 dL_law_655 dL_law_656 dL_law_657 ?_
  refine ldS Z hl w.2.2 hi (k := 2) (by decide) dL_law_658 dL_law_659 dL_law_660 dL_law_661 dL_law_662 ?_
  refine ldS Z hl w.2.2 hi (k := 3) (by decide) dL_law_663 dL_law_664 dL_law_665 dL_law_666 dL_law_667 ?_
  refine lawC (As := [.int (xs (i + 1)), .int (xs (i + 2)), .int (xs (i + 3))]) (rest := []) G K (fun q h => h) w F_X5_change c5 ml_L_82 rfl (Nat.le_of_ble_eq_true rfl) (Nat.le_of_ble_eq_true rfl) (Nat.le_of_ble_eq_true rfl) rfl hl.1 (Nat.le_of_ble_eq_true rfl) dL_law_668 hc9 hs9 (fun H5 lo5 w => ?_)
  refine lv_aload_n G.1 G.2.1 dL_law_671 rfl (lv_at hl 1 rfl) ?_
  refine ldS Z hl w.2.2 hi (k := 1) (by decide) dL_law_672 dL_law_673 dL_law_674 dL_law_675 dL_law_676 ?_
  refine ldS Z hl w.2.2 hi (k := 2) (by decide) dL_law_677 dL_law_678 dL_law_679 dL_law_680 dL_law_681 ?_
  refine ldS Z hl w.2.2 hi (k := 3) (by decide) dL_law_682 dL_law_683 dL_law_684 dL_law_685 dL_law_686 ?_
  refine lawR (As := [.int (xs (i + 1)), .int (xs (i + 2)), .int (xs (i + 3))]) (rest := [r]) G K (fun q h => h) w F_X6_change c6 ml_L_85 rfl (Nat.le_of_ble_eq_true rfl) (Nat.le_of_ble_eq_true rfl) (Nat.le_of_ble_eq_true rfl) rfl hl.1 (hcat r) dL_law_687 hc9 hs9 (fun H6 lo6 w => ?_)
  exact kk r x' H6 lo6 hv hx' w
theorem lw_allowed {i : Nat} {x : S9} (Z : LZ p m c s args D cI cZ cS b L xs) (hst : Step l D cI cZ cS d yX5_allowed cX5_allowed 4 yX6_allowed cX6_allowed 2 .int [.int (xs (i + 1))]) (hx : Inv x) (hi : i + 6 ≤ L) (hc9 : cells ≤ room_1.cells) (hs9 : slots ≤ room_1.slots) (w : WW D (LA s) s.heap (x.C cI cZ cS d ++ x.R cI cZ d) H locs) (hl : lv_has ls 4 (lvL d b i))
    (kk : ∀ (r : Value) (x' : S9) (H1 : Heap) (locs1 : List Loc), vI .int r → Inv x' → WW D (LA s) s.heap (x'.C cI cZ cS d ++ x'.R cI cZ d) H1 locs1 → W p l e room_1 s m args below meth c H1 locs1 cells slots Q (F0 m 713 ls [r, r])) : W p l e room_1 s m args below meth c H locs cells slots Q (F0 m 695 ls []) := by
  have G := Z.1
  have K := Z.2.1
  obtain ⟨r, x', hx', c5, c6, hv⟩ := hst x hx
  refine lv_aload_n G.1 G.2.1 dL_law_695 rfl (lv_at hl 2 rfl) ?_
  refine ldS Z hl w.2.2 hi (k := 1) (by decide) dL_law_696 dL_law_697 dL_law_698 dL_law_699 dL_law_700 ?_
  refine lawC (As := [.int (xs (i + 1))]) (rest := []) G K (fun q h => h) w F_X5_allowed c5 ml_L_86 rfl (Nat.le_of_ble_eq_true rfl) (Nat.le_of_ble_eq_true rfl) (Nat.le_of_ble_eq_true rfl) rfl hl.1 (Nat.le_of_ble_eq_true rfl) dL_law_701 hc9 hs9 (fun H5 lo5 w => ?_)
  refine lv_aload_n G.1 G.2.1 dL_law_704 rfl (lv_at hl 1 rfl) ?_
  refine ldS Z hl w.2.2 hi (k := 1) (by decide) dL_law_705 dL_law_706 dL_law_707 dL_law_708 dL_law_709 ?_
  refine lawR (As := [.int (xs (i + 1))]) (rest := [r]) G K (fun q h => h) w F_X6_allowed c6 ml_L_89 rfl (Nat.le_of_ble_eq_true rfl) (Nat.le_of_ble_eq_true rfl) (Nat.le_of_ble_eq_true rfl) rfl hl.1 (hcat r) dL_law_710 hc9 hs9 (fun H6 lo6 w => ?_)
  exact kk r x' H6 lo6 hv hx' w
theorem lw_first {i : Nat} {x : S9} (Z : LZ p m c s args D cI cZ cS b L xs) (hst : Step l D cI cZ cS d yX5_first cX5_first 4 yX6_first cX6_first 2 .int [.int (xs (i + 1))]) (hx : Inv x) (hi : i + 6 ≤ L) (hc9 : cells ≤ room_1.cells) (hs9 : slots ≤ room_1.slots) (w : WW D (LA s) s.heap (x.C cI cZ cS d ++ x.R cI cZ d) H locs) (hl : lv_has ls 4 (lvL d b i))
    (kk : ∀ (r : Value) (x' : S9) (H1 : Heap) (locs1 : List Loc), vI .int r → Inv x' → WW D (LA s) s.heap (x'.C cI cZ cS d ++ x'.R cI cZ d) H1 locs1 → W p l e room_1 s m args below meth c H1 locs1 cells slots Q (F0 m 736 ls [r, r])) : W p l e room_1 s m args below meth c H locs cells slots Q (F0 m 718 ls []) := by
  have G := Z.1
  have K := Z.2.1
  obtain ⟨r, x', hx', c5, c6, hv⟩ := hst x hx
  refine lv_aload_n G.1 G.2.1 dL_law_718 rfl (lv_at hl 2 rfl) ?_
  refine ldS Z hl w.2.2 hi (k := 1) (by decide) dL_law_719 dL_law_720 dL_law_721 dL_law_722 dL_law_723 ?_
  refine lawC (As := [.int (xs (i + 1))]) (rest := []) G K (fun q h => h) w F_X5_first c5 ml_L_90 rfl (Nat.le_of_ble_eq_true rfl) (Nat.le_of_ble_eq_true rfl) (Nat.le_of_ble_eq_true rfl) rfl hl.1 (Nat.le_of_ble_eq_true rfl) dL_law_724 hc9 hs9 (fun H5 lo5 w => ?_)
  refine lv_aload_n G.1 G.2.1 dL_law_727 rfl (lv_at hl 1 rfl) ?_
  refine ldS Z hl w.2.2 hi (k := 1) (by decide) dL_law_728 dL_law_729 dL_law_730 dL_law_731 dL_law_732 ?_
  refine lawR (As := [.int (xs (i + 1))]) (rest := [r]) G K (fun q h => h) w F_X6_first c6 ml_L_93 rfl (Nat.le_of_ble_eq_true rfl) (Nat.le_of_ble_eq_true rfl) (Nat.le_of_ble_eq_true rfl) rfl hl.1 (hcat r) dL_law_733 hc9 hs9 (fun H6 lo6 w => ?_)
  exact kk r x' H6 lo6 hv hx' w
theorem lw_holding {i : Nat} {x : S9} (Z : LZ p m c s args D cI cZ cS b L xs) (hst : Step l D cI cZ cS d yX5_holding cX5_holding 2 yX6_holding cX6_holding 2 .int [.int (xs (i + 1))]) (hx : Inv x) (hi : i + 6 ≤ L) (hc9 : cells ≤ room_1.cells) (hs9 : slots ≤ room_1.slots) (w : WW D (LA s) s.heap (x.C cI cZ cS d ++ x.R cI cZ d) H locs) (hl : lv_has ls 4 (lvL d b i))
    (kk : ∀ (r : Value) (x' : S9) (H1 : Heap) (locs1 : List Loc), vI .int r → Inv x' → WW D (LA s) s.heap (x'.C cI cZ cS d ++ x'.R cI cZ d) H1 locs1 → W p l e room_1 s m args below meth c H1 locs1 cells slots Q (F0 m 759 ls [r, r])) : W p l e room_1 s m args below meth c H locs cells slots Q (F0 m 741 ls []) := by
  have G := Z.1
  have K := Z.2.1
  obtain ⟨r, x', hx', c5, c6, hv⟩ := hst x hx
  refine lv_aload_n G.1 G.2.1 dL_law_741 rfl (lv_at hl 2 rfl) ?_
  refine ldS Z hl w.2.2 hi (k := 1) (by decide) dL_law_742 dL_law_743 dL_law_744 dL_law_745 dL_law_746 ?_
  refine lawC (As := [.int (xs (i + 1))]) (rest := []) G K (fun q h => h) w F_X5_holding c5 ml_L_94 rfl (Nat.le_of_ble_eq_true rfl) (Nat.le_of_ble_eq_true rfl) (Nat.le_of_ble_eq_true rfl) rfl hl.1 (Nat.le_of_ble_eq_true rfl) dL_law_747 hc9 hs9 (fun H5 lo5 w => ?_)
  refine lv_aload_n G.1 G.2.1 dL_law_750 rfl (lv_at hl 1 rfl) ?_
  refine ldS Z hl w.2.2 hi (k := 1) (by decide) dL_law_751 dL_law_752 dL_law_753 dL_law_754 dL_law_755 ?_
  refine lawR (As := [.int (xs (i + 1))]) (rest := [r]) G K (fun q h => h) w F_X6_holding c6 ml_L_97 rfl (Nat.le_of_ble_eq_true rfl) (Nat.le_of_ble_eq_true rfl) (Nat.le_of_ble_eq_true rfl) rfl hl.1 (hcat r) dL_law_756 hc9 hs9 (fun H6 lo6 w => ?_)
  exact kk r x' H6 lo6 hv hx' w
theorem lw_better {i : Nat} {x : S9} (Z : LZ p m c s args D cI cZ cS b L xs) (hst : Step l D cI cZ cS d yX5_better cX5_better 6 yX6_better cX6_better 2 .int [.int (xs (i + 1))]) (hx : Inv x) (hi : i + 6 ≤ L) (hc9 : cells ≤ room_1.cells) (hs9 : slots ≤ room_1.slots) (w : WW D (LA s) s.heap (x.C cI cZ cS d ++ x.R cI cZ d) H locs) (hl : lv_has ls 4 (lvL d b i))
    (kk : ∀ (r : Value) (x' : S9) (H1 : Heap) (locs1 : List Loc), vI .int r → Inv x' → WW D (LA s) s.heap (x'.C cI cZ cS d ++ x'.R cI cZ d) H1 locs1 → W p l e room_1 s m args below meth c H1 locs1 cells slots Q (F0 m 782 ls [r, r])) : W p l e room_1 s m args below meth c H locs cells slots Q (F0 m 764 ls []) := by
  have G := Z.1
  have K := Z.2.1
  obtain ⟨r, x', hx', c5, c6, hv⟩ := hst x hx
  refine lv_aload_n G.1 G.2.1 dL_law_764 rfl (lv_at hl 2 rfl) ?_
  refine ldS Z hl w.2.2 hi (k := 1) (by decide) dL_law_765 dL_law_766 dL_law_767 dL_law_768 dL_law_769 ?_
  refine lawC (As := [.int (xs (i + 1))]) (rest := []) G K (fun q h => h) w F_X5_better c5 ml_L_98 rfl (Nat.le_of_ble_eq_true rfl) (Nat.le_of_ble_eq_true rfl) (Nat.le_of_ble_eq_true rfl) rfl hl.1 (Nat.le_of_ble_eq_true rfl) dL_law_770 hc9 hs9 (fun H5 lo5 w => ?_)
  refine lv_aload_n G.1 G.2.1 dL_law_773 rfl (lv_at hl 1 rfl) ?_
  refine ldS Z hl w.2.2 hi (k := 1) (by decide) dL_law_774 dL_law_775 dL_law_776 dL_law_777 dL_law_778 ?_
  refine lawR (As := [.int (xs (i + 1))]) (rest := [r]) G K (fun q h => h) w F_X6_better c6 ml_L_101 rfl (Nat.le_of_ble_eq_true rfl) (Nat.le_of_ble_eq_true rfl) (Nat.le_of_ble_eq_true rfl) rfl hl.1 (hcat r) dL_law_779 hc9 hs9 (fun H6 lo6 w => ?_)
  exact kk r x' H6 lo6 hv hx' w
theorem lw_sheet {i : Nat} {x : S9} (Z : LZ p m c s args D cI cZ cS b L xs) (hst : Step l D cI cZ cS d yX5_sheet cX5_sheet 4 yX6_sheet cX6_sheet 5 .int [.int (xs (i + 1)), .int (xs (i + 2)), .int (xs (i + 3))]) (hx : Inv x) (hi : i + 6 ≤ L) (hc9 : cells ≤ room_1.cells) (hs9 : slots ≤ room_1.slots) (w : WW D (LA s) s.heap (x.C cI cZ cS d ++ x.R cI cZ d) H locs) (hl : lv_has ls 4 (lvL d b i))
    (kk : ∀ (r : Value) (x' : S9) (H1 : Heap) (locs1 : List Loc), vI .int r → Inv x' → WW D (LA s) s.heap (x'.C cI cZ cS d ++ x'.R cI cZ d) H1 locs1 → W p l e room_1 s m args below meth c H1 locs1 cells slots Q (F0 m 825 ls [r, r])) : W p l e room_1 s m args below meth c H locs cells slots Q (F0 m 787 ls []) := by
  have G := Z.1
  have K := Z.2.1
  obtain ⟨r, x', hx', c5, c6, hv⟩ := hst x hx
  refine lv_aload_n G.1 G.2.1 dL_law_787 rfl (lv_at hl 2 rfl) ?_
  refine ldS Z hl w.2.2 hi (k := 1) (by decide) dL_law_788 dL_law_789 dL_law_790 dL_law_791 dL_law_792 ?_
  refine ldS Z hl w.2.2 hi (k := 2) (by decide) dL_law_793 dL_law_794 dL_law_795 dL_law_796 dL_law_797 ?_
  refine ldS Z hl w.2.2 hi (k := 3) (by decide) dL_law_798 dL_law_799 dL_law_800 dL_law_801 dL_law_802 ?_
  refine lawC (As := [.int (xs (i + 1)), .int (xs (i + 2)), .int (xs (i + 3))]) (rest := []) G K (fun q h => h) w F_X5_sheet c5 ml_L_102 rfl (Nat.le_of_ble_eq_true rfl) (Nat.le_of_ble_eq_true rfl) (Nat.le_of_ble_eq_true rfl) rfl hl.1 (Nat.le_of_ble_eq_true rfl) dL_law_803 hc9 hs9 (fun H5 lo5 w => ?_)
  refine lv_aload_n G.1 G.2.1 dL_law_806 rfl (lv_at hl 1 rfl) ?_
  refine ldS Z hl w.2.2 hi (k := 1) (by decide) dL_law_807 dL_law_808 dL_law_809 dL_law_810 dL_law_811 ?_
  refine ldS Z hl w.2.2 hi (k := 2) (by decide) dL_law_812 dL_law_813 dL_law_814 dL_law_815 dL_law_816 ?_
  refine ldS Z hl w.2.2 hi (k := 3) (by decide) dL_law_817 dL_law_818 dL_law_819 dL_law_820 dL_law_821 ?_
  refine lawR (As := [.int (xs (i + 1)), .int (xs (i + 2)), .int (xs (i + 3))]) (rest := [r]) G K (fun q h => h) w F_X6_sheet c6 ml_L_105 rfl (Nat.le_of_ble_eq_true rfl) (Nat.le_of_ble_eq_true rfl) (Nat.le_of_ble_eq_true rfl) rfl hl.1 (hcat r) dL_law_822 hc9 hs9 (fun H6 lo6 w => ?_)
  exact kk r x' H6 lo6 hv hx' w
theorem lw_lose {i : Nat} {x : S9} (Z : LZ p m c s args D cI cZ cS b L xs) (hst : Step l D cI cZ cS d yX5_lose cX5_lose 2 yX6_lose cX6_lose 2 .int [.int (xs (i + 1))]) (hx : Inv x) (hi : i + 6 ≤ L) (hc9 : cells ≤ room_1.cells) (hs9 : slots ≤ room_1.slots) (w : WW D (LA s) s.heap (x.C cI cZ cS d ++ x.R cI cZ d) H locs) (hl : lv_has ls 4 (lvL d b i))
    (kk : ∀ (r : Value) (x' : S9) (H1 : Heap) (locs1 : List Loc), vI .int r → Inv x' → WW D (LA s) s.heap (x'.C cI cZ cS d ++ x'.R cI cZ d) H1 locs1 → W p l e room_1 s m args below meth c H1 locs1 cells slots Q (F0 m 848 ls [r, r])) : W p l e room_1 s m args below meth c H locs cells slots Q (F0 m 830 ls []) := by
  have G := Z.1
  have K := Z.2.1
  obtain ⟨r, x', hx', c5, c6, hv⟩ := hst x hx
  refine lv_aload_n G.1 G.2.1 dL_law_830 rfl (lv_at hl 2 rfl) ?_
  refine ldS Z hl w.2.2 hi (k := 1) (by decide) dL_law_831 dL_law_832 dL_law_833 dL_law_834 dL_law_835 ?_
  refine lawC (As := [.int (xs (i + 1))]) (rest := []) G K (fun q h => h) w F_X5_lose c5 ml_L_106 rfl (Nat.le_of_ble_eq_true rfl) (Nat.le_of_ble_eq_true rfl) (Nat.le_of_ble_eq_true rfl) rfl hl.1 (Nat.le_of_ble_eq_true rfl) dL_law_836 hc9 hs9 (fun H5 lo5 w => ?_)
  refine lv_aload_n G.1 G.2.1 dL_law_839 rfl (lv_at hl 1 rfl) ?_
  refine ldS Z hl w.2.2 hi (k := 1) (by decide) dL_law_840 dL_law_841 dL_law_842 dL_law_843 dL_law_844 ?_
  refine lawR (As := [.int (xs (i + 1))]) (rest := [r]) G K (fun q h => h) w F_X6_lose c6 ml_L_109 rfl (Nat.le_of_ble_eq_true rfl) (Nat.le_of_ble_eq_true rfl) (Nat.le_of_ble_eq_true rfl) rfl hl.1 (hcat r) dL_law_845 hc9 hs9 (fun H6 lo6 w => ?_)
  exact kk r x' H6 lo6 hv hx' w
theorem lw_lay {i : Nat} {x : S9} (Z : LZ p m c s args D cI cZ cS b L xs) (hst : Step l D cI cZ cS d yX5_lay cX5_lay 6 yX6_lay cX6_lay 6 .int [.int (xs (i + 1)), .int (xs (i + 2)), .int (xs (i + 3)), .int (xs (i + 4))]) (hx : Inv x) (hi : i + 6 ≤ L) (hc9 : cells ≤ room_1.cells) (hs9 : slots ≤ room_1.slots) (w : WW D (LA s) s.heap (x.C cI cZ cS d ++ x.R cI cZ d) H locs) (hl : lv_has ls 4 (lvL d b i))
    (kk : ∀ (r : Value) (x' : S9) (H1 : Heap) (locs1 : List Loc), vI .int r → Inv x' → WW D (LA s) s.heap (x'.C cI cZ cS d ++ x'.R cI cZ d) H1 locs1 → W p l e room_1 s m args below meth c H1 locs1 cells slots Q (F0 m 901 ls [r, r])) : W p l e room_1 s m args below meth c H locs cells slots Q (F0 m 853 ls []) := by
  have G := Z.1
  have K := Z.2.1
  obtain ⟨r, x', hx', c5, c6, hv⟩ := hst x hx
  refine lv_aload_n G.1 G.2.1 dL_law_853 rfl (lv_at hl 2 rfl) ?_
  refine ldS Z hl w.2.2 hi (k := 1) (by decide) dL_law_854 dL_law_855 dL_law_856 dL_law_857 dL_law_858 ?_
  refine ldS Z hl w.2.2 hi (k := 2) (by decide) dL_law_859 dL_law_860 dL_law_861 dL_law_862 dL_law_863 ?_
  refine ldS Z hl w.2.2 hi (k := 3) (by decide) dL_law_864 dL_law_865 dL_law_866 dL_law_867 dL_law_868 ?_
  refine ldS Z hl w.2.2 hi (k := 4) (by decide) dL_law_869 dL_law_870 dL_law_871 dL_law_872 dL_law_873 ?_
  refine lawC (As := [.int (xs (i + 1)), .int (xs (i + 2)), .int (xs (i + 3)), .int (xs (i + 4))]) (rest := []) G K (fun q h => h) w F_X5_lay c5 ml_L_110 rfl (Nat.le_of_ble_eq_true rfl) (Nat.le_of_ble_eq_true rfl) (Nat.le_of_ble_eq_true rfl) rfl hl.1 (Nat.le_of_ble_eq_true rfl) dL_law_874 hc9 hs9 (fun H5 lo5 w => ?_)
  refine lv_aload_n G.1 G.2.1 dL_law_877 rfl (lv_at hl 1 rfl) ?_
  refine ldS Z hl w.2.2 hi (k := 1) (by decide) dL_law_878 dL_law_879 dL_law_880 dL_law_881 dL_law_882 ?_
  refine ldS Z hl w.2.2 hi (k := 2) (by decide) dL_law_883 dL_law_884 dL_law_885 dL_law_886 dL_law_887 ?_
  refine ldS Z hl w.2.2 hi (k := 3) (by decide) dL_law_888 dL_law_889 dL_law_890 dL_law_891 dL_law_892 ?_
  refine ldS Z hl w.2.2 hi (k := 4) (by decide) dL_law_893 dL_law_894 dL_law_895 dL_law_896 dL_law_897 ?_
  refine lawR (As := [.int (xs (i + 1)), .int (xs (i + 2)), .int (xs (i + 3)), .int (xs (i + 4))]) (rest := [r]) G K (fun q h => h) w F_X6_lay c6 ml_L_114 rfl (Nat.le_of_ble_eq_true rfl) (Nat.le_of_ble_eq_true rfl) (Nat.le_of_ble_eq_true rfl) rfl hl.1 (hcat r) dL_law_898 hc9 hs9 (fun H6 lo6 w => ?_)
  exact kk r x' H6 lo6 hv hx' w
theorem lw_get {i : Nat} {x : S9} (Z : LZ p m c s args D cI cZ cS b L xs) (hst : Step l D cI cZ cS d yX5_get cX5_get 5 yX6_get cX6_get 4 .int [.int (xs (i + 1)), .int (xs (i + 2)), .int (xs (i + 3))]) (hx : Inv x) (hi : i + 6 ≤ L) (hc9 : cells ≤ room_1.cells) (hs9 : slots ≤ room_1.slots) (w : WW D (LA s) s.heap (x.C cI cZ cS d ++ x.R cI cZ d) H locs) (hl : lv_has ls 4 (lvL d b i))
    (kk : ∀ (r : Value) (x' : S9) (H1 : Heap) (locs1 : List Loc), vI .int r → Inv x' → WW D (LA s) s.heap (x'.C cI cZ cS d ++ x'.R cI cZ d) H1 locs1 → W p l e room_1 s m args below meth c H1 locs1 cells slots Q (F0 m 944 ls [r, r])) : W p l e room_1 s m args below meth c H locs cells slots Q (F0 m 906 ls []) := by
  have G := Z.1
  have K := Z.2.1
  obtain ⟨r, x', hx', c5, c6, hv⟩ := hst x hx
  refine lv_aload_n G.1 G.2.1 dL_law_906 rfl (lv_at hl 2 rfl) ?_
  refine ldS Z hl w.2.2 hi (k := 1) (by decide) dL_law_907 dL_law_908 dL_law_909 dL_law_910 dL_law_911 ?_
  refine ldS Z hl w.2.2 hi (k := 2) (by decide) dL_law_912 dL_law_913 dL_law_914 dL_law_915 dL_law_916 ?_
  refine ldS Z hl w.2.2 hi (k := 3) (by decide) dL_law_917 dL_law_918 dL_law_919 dL_law_920 dL_law_921 ?_
  refine lawC (As := [.int (xs (i + 1)), .int (xs (i + 2)), .int (xs (i + 3))]) (rest := []) G K (fun q h => h) w F_X5_get c5 ml_L_115 rfl (Nat.le_of_ble_eq_true rfl) (Nat.le_of_ble_eq_true rfl) (Nat.le_of_ble_eq_true rfl) rfl hl.1 (Nat.le_of_ble_eq_true rfl) dL_law_922 hc9 hs9 (fun H5 lo5 w => ?_)
  refine lv_aload_n G.1 G.2.1 dL_law_925 rfl (lv_at hl 1 rfl) ?_
  refine ldS Z hl w.2.2 hi (k := 1) (by decide) dL_law_926 dL_law_927 dL_law_928 dL_law_929 dL_law_930 ?_
  refine ldS Z hl w.2.2 hi (k := 2) (by decide) dL_law_931 dL_law_932 dL_law_933 dL_law_934 dL_law_935 ?_
  refine ldS Z hl w.2.2 hi (k := 3) (by decide) dL_law_936 dL_law_937 dL_law_938 dL_law_939 dL_law_940 ?_
  refine lawR (As := [.int (xs (i + 1)), .int (xs (i + 2)), .int (xs (i + 3))]) (rest := [r]) G K (fun q h => h) w F_X6_get c6 ml_L_118 rfl (Nat.le_of_ble_eq_true rfl) (Nat.le_of_ble_eq_true rfl) (Nat.le_of_ble_eq_true rfl) rfl hl.1 (hcat r) dL_law_941 hc9 hs9 (fun H6 lo6 w => ?_)
  exact kk r x' H6 lo6 hv hx' w
theorem lw_copy {i : Nat} {x : S9} (Z : LZ p m c s args D cI cZ cS b L xs) (hst : Step l D cI cZ cS d yX5_copy cX5_copy 8 yX6_copy cX6_copy 7 .int [.int (xs (i + 1)), .int (xs (i + 2)), .int (xs (i + 3)), .int (xs (i + 4)), .int (xs (i + 5))]) (hx : Inv x) (hi : i + 6 ≤ L) (hc9 : cells ≤ room_1.cells) (hs9 : slots ≤ room_1.slots) (w : WW D (LA s) s.heap (x.C cI cZ cS d ++ x.R cI cZ d) H locs) (hl : lv_has ls 4 (lvL d b i))
    (kk : ∀ (r : Value) (x' : S9) (H1 : Heap) (locs1 : List Loc), vI .int r → Inv x' → WW D (LA s) s.heap (x'.C cI cZ cS d ++ x'.R cI cZ d) H1 locs1 → W p l e room_1 s m args below meth c H1 locs1 cells slots Q (F0 m 1007 ls [r, r])) : W p l e room_1 s m args below meth c H locs cells slots Q (F0 m 949 ls []) := by
  have G := Z.1
  have K := Z.2.1
  obtain ⟨r, x', hx', c5, c6, hv⟩ := hst x hx
  refine lv_aload_n G.1 G.2.1 dL_law_949 rfl (lv_at hl 2 rfl) ?_
  refine ldS Z hl w.2.2 hi (k := 1) (by decide) dL_law_950 dL_law_951 dL_law_952 dL_law_953 dL_law_954 ?_
  refine ldS Z hl w.2.2 hi (k := 2) (by decide) dL_law_955 dL_law_956 dL_law_957 dL_law_958 dL_law_959 ?_
  refine ldS Z hl w.2.2 hi (k := 3) (by decide) dL_law_960 dL_law_961 dL_law_962 dL_law_963 dL_law_964 ?_
  refine ldS Z hl w.2.2 hi (k := 4) (by decide) dL_law_965 dL_law_966 dL_law_967 dL_law_968 dL_law_969 ?_
  refine ldS Z hl w.2.2 hi (k := 5) (by decide) dL_law_970 dL_law_971 dL_law_972 dL_law_973 dL_law_974 ?_
  refine lawC (As := [.int (xs (i + 1)), .int (xs (i + 2)), .int (xs (i + 3)), .int (xs (i + 4)), .int (xs (i + 5))]) (rest := []) G K (fun q h => h) w F_X5_copy c5 ml_L_119 rfl (Nat.le_of_ble_eq_true rfl) (Nat.le_of_ble_eq_true rfl) (Nat.le_of_ble_eq_true rfl) rfl hl.1 (Nat.le_of_ble_eq_true rfl) dL_law_975 hc9 hs9 (fun H5 lo5 w => ?_)
  refine lv_aload_n G.1 G.2.1 dL_law_978 rfl (lv_at hl 1 rfl) ?_
  refine ldS Z hl w.2.2 hi (k := 1) (by decide) dL_law_979 dL_law_980 dL_law_981 dL_law_982 dL_law_983 ?_
  refine ldS Z hl w.2.2 hi (k := 2) (by decide) dL_law_984 dL_law_985 dL_law_986 dL_law_987 dL_law_988 ?_
  refine ldS Z hl w.2.2 hi (k := 3) (by decide) dL_law_989 dL_law_990 dL_law_991 dL_law_992 dL_law_993 ?_
  refine ldS Z hl w.2.2 hi (k := 4) (by decide) dL_law_994 dL_law_995 dL_law_996 dL_law_997 dL_law_998 ?_
  refine ldS Z hl w.2.2 hi (k := 5) (by decide) dL_law_999 dL_law_1000 dL_law_1001 dL_law_1002 dL_law_1003 ?_
  refine lawR (As := [.int (xs (i + 1)), .int (xs (i + 2)), .int (xs (i + 3)), .int (xs (i + 4)), .int (xs (i + 5))]) (rest := [r]) G K (fun q h => h) w F_X6_copy c6 ml_L_122 rfl (Nat.le_of_ble_eq_true rfl) (Nat.le_of_ble_eq_true rfl) (Nat.le_of_ble_eq_true rfl) rfl hl.1 (hcat r) dL_law_1004 hc9 hs9 (fun H6 lo6 w => ?_)
  exact kk r x' H6 lo6 hv hx' w
theorem lw_tell {i : Nat} {x : S9} (Z : LZ p m c s args D cI cZ cS b L xs) (hst : Step l D cI cZ cS d yX5_tell cX5_tell 6 yX6_tell cX6_tell 5 .int [.int (xs (i + 1)), .int (xs (i + 2))]) (hx : Inv x) (hi : i + 6 ≤ L) (hc9 : cells ≤ room_1.cells) (hs9 : slots ≤ room_1.slots) (w : WW D (LA s) s.heap (x.C cI cZ cS d ++ x.R cI cZ d) H locs) (hl : lv_has ls 4 (lvL d b i))
    (kk : ∀ (r : Value) (x' : S9) (H1 : Heap) (locs1 : List Loc), vI .int r → Inv x' → WW D (LA s) s.heap (x'.C cI cZ cS d ++ x'.R cI cZ d) H1 locs1 → W p l e room_1 s m args below meth c H1 locs1 cells slots Q (F0 m 1040 ls [r, r])) : W p l e room_1 s m args below meth c H locs cells slots Q (F0 m 1012 ls []) := by
  have G := Z.1
  have K := Z.2.1
  obtain ⟨r, x', hx', c5, c6, hv⟩ := hst x hx
  refine lv_aload_n G.1 G.2.1 dL_law_1012 rfl (lv_at hl 2 rfl) ?_
  refine ldS Z hl w.2.2 hi (k := 1) (by decide) dL_law_1013 dL_law_1014 dL_law_1015 dL_law_1016 dL_law_1017 ?_
  refine ldS Z hl w.2.2 hi (k := 2) (by decide) dL_law_1018 dL_law_1019 dL_law_1020 dL_law_1021 dL_law_1022 ?_
  refine lawC (As := [.int (xs (i + 1)), .int (xs (i + 2))]) (rest := []) G K (fun q h => h) w F_X5_tell c5 ml_L_123 rfl (Nat.le_of_ble_eq_true rfl) (Nat.le_of_ble_eq_true rfl) (Nat.le_of_ble_eq_true rfl) rfl hl.1 (Nat.le_of_ble_eq_true rfl) dL_law_1023 hc9 hs9 (fun H5 lo5 w => ?_)
  refine lv_aload_n G.1 G.2.1 dL_law_1026 rfl (lv_at hl 1 rfl) ?_
  refine ldS Z hl w.2.2 hi (k := 1) (by decide) dL_law_1027 dL_law_1028 dL_law_1029 dL_law_1030 dL_law_1031 ?_
  refine ldS Z hl w.2.2 hi (k := 2) (by decide) dL_law_1032 dL_law_1033 dL_law_1034 dL_law_1035 dL_law_1036 ?_
  refine lawR (As := [.int (xs (i + 1)), .int (xs (i + 2))]) (rest := [r]) G K (fun q h => h) w F_X6_tell c6 ml_L_126 rfl (Nat.le_of_ble_eq_true rfl) (Nat.le_of_ble_eq_true rfl) (Nat.le_of_ble_eq_true rfl) rfl hl.1 (hcat r) dL_law_1037 hc9 hs9 (fun H6 lo6 w => ?_)
  exact kk r x' H6 lo6 hv hx' w
theorem lw_count {i : Nat} {x : S9} (Z : LZ p m c s args D cI cZ cS b L xs) (hst : Step l D cI cZ cS d yX5_count cX5_count 2 yX6_count cX6_count 2 .int [.int (xs (i + 1))]) (hx : Inv x) (hi : i + 6 ≤ L) (hc9 : cells ≤ room_1.cells) (hs9 : slots ≤ room_1.slots) (w : WW D (LA s) s.heap (x.C cI cZ cS d ++ x.R cI cZ d) H locs) (hl : lv_has ls 4 (lvL d b i))
    (kk : ∀ (r : Value) (x' : S9) (H1 : Heap) (locs1 : List Loc), vI .int r → Inv x' → WW D (LA s) s.heap (x'.C cI cZ cS d ++ x'.R cI cZ d) H1 locs1 → W p l e room_1 s m args below meth c H1 locs1 cells slots Q (F0 m 1063 ls [r, r])) : W p l e room_1 s m args below meth c H locs cells slots Q (F0 m 1045 ls []) := by
  have G := Z.1
  have K := Z.2.1
  obtain ⟨r, x', hx', c5, c6, hv⟩ := hst x hx
  refine lv_aload_n G.1 G.2.1 dL_law_1045 rfl (lv_at hl 2 rfl) ?_
  refine ldS Z hl w.2.2 hi (k := 1) (by decide) dL_law_1046 dL_law_1047 dL_law_1048 dL_law_1049 dL_law_1050 ?_
  refine lawC (As := [.int (xs (i + 1))]) (rest := []) G K (fun q h => h) w F_X5_count c5 ml_L_127 rfl (Nat.le_of_ble_eq_true rfl) (Nat.le_of_ble_eq_true rfl) (Nat.le_of_ble_eq_true rfl) rfl hl.1 (Nat.le_of_ble_eq_true rfl) dL_law_1051 hc9 hs9 (fun H5 lo5 w => ?_)
  refine lv_aload_n G.1 G.2.1 dL_law_1054 rfl (lv_at hl 1 rfl) ?_
  refine ldS Z hl w.2.2 hi (k := 1) (by decide) dL_law_1055 dL_law_1056 dL_law_1057 dL_law_1058 dL_law_1059 ?_
  refine lawR (As := [.int (xs (i + 1))]) (rest := [r]) G K (fun q h => h) w F_X6_count c6 ml_L_130 rfl (Nat.le_of_ble_eq_true rfl) (Nat.le_of_ble_eq_true rfl) (Nat.le_of_ble_eq_true rfl) rfl hl.1 (hcat r) dL_law_1060 hc9 hs9 (fun H6 lo6 w => ?_)
  exact kk r x' H6 lo6 hv hx' w
theorem lw_digest {i : Nat} {x : S9} (Z : LZ p m c s args D cI cZ cS b L xs) (hst : Step l D cI cZ cS d yX5_digest cX5_digest 4 yX6_digest cX6_digest 5 .long []) (hx : Inv x) (hi : i + 6 ≤ L) (hc9 : cells ≤ room_1.cells) (hs9 : slots ≤ room_1.slots) (w : WW D (LA s) s.heap (x.C cI cZ cS d ++ x.R cI cZ d) H locs) (hl : lv_has ls 4 (lvL d b i))
    (kk : ∀ (r : Value) (x' : S9) (H1 : Heap) (locs1 : List Loc), vI .long r → Inv x' → WW D (LA s) s.heap (x'.C cI cZ cS d ++ x'.R cI cZ d) H1 locs1 → W p l e room_1 s m args below meth c H1 locs1 cells slots Q (F0 m 1076 ls [r, r])) : W p l e room_1 s m args below meth c H locs cells slots Q (F0 m 1068 ls []) := by
  have G := Z.1
  have K := Z.2.1
  obtain ⟨r, x', hx', c5, c6, hv⟩ := hst x hx
  refine lv_aload_n G.1 G.2.1 dL_law_1068 rfl (lv_at hl 2 rfl) ?_
  refine lawC (As := []) (rest := []) G K (fun q h => h) w F_X5_digest c5 ml_L_131 rfl (Nat.le_of_ble_eq_true rfl) (Nat.le_of_ble_eq_true rfl) (Nat.le_of_ble_eq_true rfl) rfl hl.1 (Nat.le_of_ble_eq_true rfl) dL_law_1069 hc9 hs9 (fun H5 lo5 w => ?_)
  refine lv_aload_n G.1 G.2.1 dL_law_1072 rfl (lv_at hl 1 rfl) ?_
  refine lawR (As := []) (rest := [r]) G K (fun q h => h) w F_X6_digest c6 ml_L_135 rfl (Nat.le_of_ble_eq_true rfl) (Nat.le_of_ble_eq_true rfl) (Nat.le_of_ble_eq_true rfl) rfl hl.1 (hcat r) dL_law_1073 hc9 hs9 (fun H6 lo6 w => ?_)
  exact kk r x' H6 lo6 hv hx' w
end Law9
