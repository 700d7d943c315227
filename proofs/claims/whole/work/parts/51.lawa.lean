set_option maxRecDepth 20000 in
theorem la_c0 {p : Program} {l : Launch} {e : Env} {s : State} {m : MethodId} {below : List Frame} {meth : Method} {c : Code} {b L : Nat} {xs : Nat → Int32} {D : va_G} {ad : Nat → Nat} {ca : Nat → ClassId} {i : Int32} {M N : nb_M} {H : Heap} {locs : List Loc} {ls : Array Slot} (A : la_A p s m meth c b L xs D ad ca) (R : hs_Rel M N) (hI : la_I i L) (hP : va_P D vwCl (nb_w ad ca M N) H) (hS : va_S (fun q : Nat => s.heap.size ≤ q) s.heap H locs) (hl : lv_has ls 4 [(0, .ref b), (1, .ref (ad 0)), (2, .ref (ad 52)), (3, .int i)]) (kk : la_G p l e s m below meth c b D ad ca ls) : W p l e room_1 s m #[Value.ref b] below meth c H locs 600000 7302250 (lw_Z below #[Value.ref b] s) (F0 m 200 ls []) := by
  obtain ⟨⟨hx, hb, hr, hml, hown, hts, hX, hbl, hlocks, hgv⟩, had, hK, hZ, ht⟩ := A
  obtain ⟨h1, h2, h3, h4, h5⟩ := hI
  obtain ⟨v, M1, N1, e1, e2, R1⟩ := s_person R (xs (i + 1).toNatClampNeg) (xs (i + 2).toNatClampNeg)
  refine lv_aload_n hx hb dL_law_200 rfl (lv_at hl 1 rfl) ?_
  refine la_ld (j := 1) hx hb hX hbl hS hl h1 (by decide) dL_law_201 dL_law_202 dL_law_203 dL_law_204 dL_law_205 ?_
  refine la_ld (j := 2) hx hb hX hbl hS hl h2 (by decide) dL_law_206 dL_law_207 dL_law_208 dL_law_209 dL_law_210 ?_
  refine la_callV (n := 2) (As := [.int (xs (i + 1).toNatClampNeg), .int (xs (i + 2).toNatClampNeg)]) (rest := []) hx hb hml hown ht hK hZ hP hS (k_X6_person had M N _ _ e1) gL_law_X6_person rfl (by decide +kernel) ⟨(Nat.le_of_ble_eq_true rfl), (Nat.le_of_ble_eq_true rfl)⟩ nb_a0 rfl rfl rfl hl.1 rfl (Nat.le_of_ble_eq_true rfl) dL_law_211 (fun H locs hP hS => ?_)
  refine lv_aload_n hx hb dL_law_214 rfl (lv_at hl 2 rfl) ?_
  refine la_ld (j := 1) hx hb hX hbl hS hl h1 (by decide) dL_law_215 dL_law_216 dL_law_217 dL_law_218 dL_law_219 ?_
  refine la_ld (j := 2) hx hb hX hbl hS hl h2 (by decide) dL_law_220 dL_law_221 dL_law_222 dL_law_223 dL_law_224 ?_
  refine la_callV (n := 2) (As := [.int (xs (i + 1).toNatClampNeg), .int (xs (i + 2).toNatClampNeg)]) (rest := [.int v]) hx hb hml hown ht hK hZ hP hS (k_X7_person had N M1 _ _ e2) gL_law_X7_person rfl (by decide +kernel) ⟨(Nat.le_of_ble_eq_true rfl), (Nat.le_of_ble_eq_true rfl)⟩ nb_a52 rfl rfl rfl hl.1 rfl (Nat.le_of_ble_eq_true rfl) dL_law_225 (fun H locs hP hS => ?_)
  exact lv_icmp_eq (tgt := 1396) hx hb dL_law_228 (by decide) (fun _ => kk M1 N1 H locs R1 hP hS) (fun q => absurd rfl q)
set_option maxRecDepth 20000 in
theorem la_c1 {p : Program} {l : Launch} {e : Env} {s : State} {m : MethodId} {below : List Frame} {meth : Method} {c : Code} {b L : Nat} {xs : Nat → Int32} {D : va_G} {ad : Nat → Nat} {ca : Nat → ClassId} {i : Int32} {M N : nb_M} {H : Heap} {locs : List Loc} {ls : Array Slot} (A : la_A p s m meth c b L xs D ad ca) (R : hs_Rel M N) (hI : la_I i L) (hP : va_P D vwCl (nb_w ad ca M N) H) (hS : va_S (fun q : Nat => s.heap.size ≤ q) s.heap H locs) (hl : lv_has ls 4 [(0, .ref b), (1, .ref (ad 0)), (2, .ref (ad 52)), (3, .int i)]) (kk : la_G p l e s m below meth c b D ad ca ls) : W p l e room_1 s m #[Value.ref b] below meth c H locs 600000 7302250 (lw_Z below #[Value.ref b] s) (F0 m 233 ls []) := by
  obtain ⟨⟨hx, hb, hr, hml, hown, hts, hX, hbl, hlocks, hgv⟩, had, hK, hZ, ht⟩ := A
  obtain ⟨h1, h2, h3, h4, h5⟩ := hI
  obtain ⟨v, M1, N1, e1, e2, R1⟩ := s_personIs R (xs (i + 1).toNatClampNeg) (xs (i + 2).toNatClampNeg)
  refine lv_aload_n hx hb dL_law_233 rfl (lv_at hl 1 rfl) ?_
  refine la_ld (j := 1) hx hb hX hbl hS hl h1 (by decide) dL_law_234 dL_law_235 dL_law_236 dL_law_237 dL_law_238 ?_
  refine la_ld (j := 2) hx hb hX hbl hS hl h2 (by decide) dL_law_239 dL_law_240 dL_law_241 dL_law_242 dL_law_243 ?_
  refine la_callV (n := 2) (As := [.int (xs (i + 1).toNatClampNeg), .int (xs (i + 2).toNatClampNeg)]) (rest := []) hx hb hml hown ht hK hZ hP hS (k_X6_personIs had M N _ _ e1) gL_law_X6_personIs rfl (by decide +kernel) ⟨(Nat.le_of_ble_eq_true rfl), (Nat.le_of_ble_eq_true rfl)⟩ nb_a0 rfl rfl rfl hl.1 rfl (Nat.le_of_ble_eq_true rfl) dL_law_244 (fun H locs hP hS => ?_)
  refine lv_aload_n hx hb dL_law_247 rfl (lv_at hl 2 rfl) ?_
  refine la_ld (j := 1) hx hb hX hbl hS hl h1 (by decide) dL_law_248 dL_law_249 dL_law_250 dL_law_251 dL_law_252 ?_
  refine la_ld (j := 2) hx hb hX hbl hS hl h2 (by decide) dL_law_253 dL_law_254 dL_law_255 dL_law_256 dL_law_257 ?_
  refine la_callV (n := 2) (As := [.int (xs (i + 1).toNatClampNeg), .int (xs (i + 2).toNatClampNeg)]) (rest := [.int v]) hx hb hml hown ht hK hZ hP hS (k_X7_personIs had N M1 _ _ e2) gL_law_X7_personIs rfl (by decide +kernel) ⟨(Nat.le_of_ble_eq_true rfl), (Nat.le_of_ble_eq_true rfl)⟩ nb_a52 rfl rfl rfl hl.1 rfl (Nat.le_of_ble_eq_true rfl) dL_law_258 (fun H locs hP hS => ?_)
  exact lv_icmp_eq (tgt := 1396) hx hb dL_law_261 (by decide) (fun _ => kk M1 N1 H locs R1 hP hS) (fun q => absurd rfl q)
set_option maxRecDepth 20000 in
theorem la_c2 {p : Program} {l : Launch} {e : Env} {s : State} {m : MethodId} {below : List Frame} {meth : Method} {c : Code} {b L : Nat} {xs : Nat → Int32} {D : va_G} {ad : Nat → Nat} {ca : Nat → ClassId} {i : Int32} {M N : nb_M} {H : Heap} {locs : List Loc} {ls : Array Slot} (A : la_A p s m meth c b L xs D ad ca) (R : hs_Rel M N) (hI : la_I i L) (hP : va_P D vwCl (nb_w ad ca M N) H) (hS : va_S (fun q : Nat => s.heap.size ≤ q) s.heap H locs) (hl : lv_has ls 4 [(0, .ref b), (1, .ref (ad 0)), (2, .ref (ad 52)), (3, .int i)]) (kk : la_G p l e s m below meth c b D ad ca ls) : W p l e room_1 s m #[Value.ref b] below meth c H locs 600000 7302250 (lw_Z below #[Value.ref b] s) (F0 m 266 ls []) := by
  obtain ⟨⟨hx, hb, hr, hml, hown, hts, hX, hbl, hlocks, hgv⟩, had, hK, hZ, ht⟩ := A
  obtain ⟨h1, h2, h3, h4, h5⟩ := hI
  obtain ⟨v, M1, N1, e1, e2, R1⟩ := s_piece R (xs (i + 1).toNatClampNeg) (xs (i + 2).toNatClampNeg)
  refine lv_aload_n hx hb dL_law_266 rfl (lv_at hl 1 rfl) ?_
  refine la_ld (j := 1) hx hb hX hbl hS hl h1 (by decide) dL_law_267 dL_law_268 dL_law_269 dL_law_270 dL_law_271 ?_
  refine la_ld (j := 2) hx hb hX hbl hS hl h2 (by decide) dL_law_272 dL_law_273 dL_law_274 dL_law_275 dL_law_276 ?_
  refine la_callV (n := 2) (As := [.int (xs (i + 1).toNatClampNeg), .int (xs (i + 2).toNatClampNeg)]) (rest := []) hx hb hml hown ht hK hZ hP hS (k_X6_piece had M N _ _ e1) gL_law_X6_piece rfl (by decide +kernel) ⟨(Nat.le_of_ble_eq_true rfl), (Nat.le_of_ble_eq_true rfl)⟩ nb_a0 rfl rfl rfl hl.1 rfl (Nat.le_of_ble_eq_true rfl) dL_law_277 (fun H locs hP hS => ?_)
  refine lv_aload_n hx hb dL_law_280 rfl (lv_at hl 2 rfl) ?_
  refine la_ld (j := 1) hx hb hX hbl hS hl h1 (by decide) dL_law_281 dL_law_282 dL_law_283 dL_law_284 dL_law_285 ?_
  refine la_ld (j := 2) hx hb hX hbl hS hl h2 (by decide) dL_law_286 dL_law_287 dL_law_288 dL_law_289 dL_law_290 ?_
  refine la_callV (n := 2) (As := [.int (xs (i + 1).toNatClampNeg), .int (xs (i + 2).toNatClampNeg)]) (rest := [.int v]) hx hb hml hown ht hK hZ hP hS (k_X7_piece had N M1 _ _ e2) gL_law_X7_piece rfl (by decide +kernel) ⟨(Nat.le_of_ble_eq_true rfl), (Nat.le_of_ble_eq_true rfl)⟩ nb_a52 rfl rfl rfl hl.1 rfl (Nat.le_of_ble_eq_true rfl) dL_law_291 (fun H locs hP hS => ?_)
  exact lv_icmp_eq (tgt := 1396) hx hb dL_law_294 (by decide) (fun _ => kk M1 N1 H locs R1 hP hS) (fun q => absurd rfl q)
set_option maxRecDepth 20000 in
theorem la_c3 {p : Program} {l : Launch} {e : Env} {s : State} {m : MethodId} {below : List Frame} {meth : Method} {c : Code} {b L : Nat} {xs : Nat → Int32} {D : va_G} {ad : Nat → Nat} {ca : Nat → ClassId} {i : Int32} {M N : nb_M} {H : Heap} {locs : List Loc} {ls : Array Slot} (A : la_A p s m meth c b L xs D ad ca) (R : hs_Rel M N) (hI : la_I i L) (hP : va_P D vwCl (nb_w ad ca M N) H) (hS : va_S (fun q : Nat => s.heap.size ≤ q) s.heap H locs) (hl : lv_has ls 4 [(0, .ref b), (1, .ref (ad 0)), (2, .ref (ad 52)), (3, .int i)]) (kk : la_G p l e s m below meth c b D ad ca ls) : W p l e room_1 s m #[Value.ref b] below meth c H locs 600000 7302250 (lw_Z below #[Value.ref b] s) (F0 m 299 ls []) := by
  obtain ⟨⟨hx, hb, hr, hml, hown, hts, hX, hbl, hlocks, hgv⟩, had, hK, hZ, ht⟩ := A
  obtain ⟨h1, h2, h3, h4, h5⟩ := hI
  obtain ⟨v, M1, N1, e1, e2, R1⟩ := s_pieceIs R (xs (i + 1).toNatClampNeg) (xs (i + 2).toNatClampNeg)
  refine lv_aload_n hx hb dL_law_299 rfl (lv_at hl 1 rfl) ?_
  refine la_ld (j := 1) hx hb hX hbl hS hl h1 (by decide) dL_law_300 dL_law_301 dL_law_302 dL_law_303 dL_law_304 ?_
  refine la_ld (j := 2) hx hb hX hbl hS hl h2 (by decide) dL_law_305 dL_law_306 dL_law_307 dL_law_308 dL_law_309 ?_
  refine la_callV (n := 2) (As := [.int (xs (i + 1).toNatClampNeg), .int (xs (i + 2).toNatClampNeg)]) (rest := []) hx hb hml hown ht hK hZ hP hS (k_X6_pieceIs had M N _ _ e1) gL_law_X6_pieceIs rfl (by decide +kernel) ⟨(Nat.le_of_ble_eq_true rfl), (Nat.le_of_ble_eq_true rfl)⟩ nb_a0 rfl rfl rfl hl.1 rfl (Nat.le_of_ble_eq_true rfl) dL_law_310 (fun H locs hP hS => ?_)
  refine lv_aload_n hx hb dL_law_313 rfl (lv_at hl 2 rfl) ?_
  refine la_ld (j := 1) hx hb hX hbl hS hl h1 (by decide) dL_law_314 dL_law_315 dL_law_316 dL_law_317 dL_law_318 ?_
  refine la_ld (j := 2) hx hb hX hbl hS hl h2 (by decide) dL_law_319 dL_law_320 dL_law_321 dL_law_322 dL_law_323 ?_
  refine la_callV (n := 2) (As := [.int (xs (i + 1).toNatClampNeg), .int (xs (i + 2).toNatClampNeg)]) (rest := [.int v]) hx hb hml hown ht hK hZ hP hS (k_X7_pieceIs had N M1 _ _ e2) gL_law_X7_pieceIs rfl (by decide +kernel) ⟨(Nat.le_of_ble_eq_true rfl), (Nat.le_of_ble_eq_true rfl)⟩ nb_a52 rfl rfl rfl hl.1 rfl (Nat.le_of_ble_eq_true rfl) dL_law_324 (fun H locs hP hS => ?_)
  exact lv_icmp_eq (tgt := 1396) hx hb dL_law_327 (by decide) (fun _ => kk M1 N1 H locs R1 hP hS) (fun q => absurd rfl q)
set_option maxRecDepth 20000 in
theorem la_c4 {p : Program} {l : Launch} {e : Env} {s : State} {m : MethodId} {below : List Frame} {meth : Method} {c : Code} {b L : Nat} {xs : Nat → Int32} {D : va_G} {ad : Nat → Nat} {ca : Nat → ClassId} {i : Int32} {M N : nb_M} {H : Heap} {locs : List Loc} {ls : Array Slot} (A : la_A p s m meth c b L xs D ad ca) (R : hs_Rel M N) (hI : la_I i L) (hP : va_P D vwCl (nb_w ad ca M N) H) (hS : va_S (fun q : Nat => s.heap.size ≤ q) s.heap H locs) (hl : lv_has ls 4 [(0, .ref b), (1, .ref (ad 0)), (2, .ref (ad 52)), (3, .int i)]) (kk : la_G p l e s m below meth c b D ad ca ls) : W p l e room_1 s m #[Value.ref b] below meth c H locs 600000 7302250 (lw_Z below #[Value.ref b] s) (F0 m 332 ls []) := by
  obtain ⟨⟨hx, hb, hr, hml, hown, hts, hX, hbl, hlocks, hgv⟩, had, hK, hZ, ht⟩ := A
  obtain ⟨h1, h2, h3, h4, h5⟩ := hI
  obtain ⟨v, M1, N1, e1, e2, R1⟩ := s_become R (xs (i + 1).toNatClampNeg) (xs (i + 2).toNatClampNeg)
  refine lv_aload_n hx hb dL_law_332 rfl (lv_at hl 1 rfl) ?_
  refine la_ld (j := 1) hx hb hX hbl hS hl h1 (by decide) dL_law_333 dL_law_334 dL_law_335 dL_law_336 dL_law_337 ?_
  refine la_ld (j := 2) hx hb hX hbl hS hl h2 (by decide) dL_law_338 dL_law_339 dL_law_340 dL_law_341 dL_law_342 ?_
  refine la_callV (n := 2) (As := [.int (xs (i + 1).toNatClampNeg), .int (xs (i + 2).toNatClampNeg)]) (rest := []) hx hb hml hown ht hK hZ hP hS (k_X6_become had M N _ _ e1) gL_law_X6_become rfl (by decide +kernel) ⟨(Nat.le_of_ble_eq_true rfl), (Nat.le_of_ble_eq_true rfl)⟩ nb_a0 rfl rfl rfl hl.1 rfl (Nat.le_of_ble_eq_true rfl) dL_law_343 (fun H locs hP hS => ?_)
  refine lv_aload_n hx hb dL_law_346 rfl (lv_at hl 2 rfl) ?_
  refine la_ld (j := 1) hx hb hX hbl hS hl h1 (by decide) dL_law_347 dL_law_348 dL_law_349 dL_law_350 dL_law_351 ?_
  refine la_ld (j := 2) hx hb hX hbl hS hl h2 (by decide) dL_law_352 dL_law_353 dL_law_354 dL_law_355 dL_law_356 ?_
  refine la_callV (n := 2) (As := [.int (xs (i + 1).toNatClampNeg), .int (xs (i + 2).toNatClampNeg)]) (rest := [.int v]) hx hb hml hown ht hK hZ hP hS (k_X7_become had N M1 _ _ e2) gL_law_X7_become rfl (by decide +kernel) ⟨(Nat.le_of_ble_eq_true rfl), (Nat.le_of_ble_eq_true rfl)⟩ nb_a52 rfl rfl rfl hl.1 rfl (Nat.le_of_ble_eq_true rfl) dL_law_357 (fun H locs hP hS => ?_)
  exact lv_icmp_eq (tgt := 1396) hx hb dL_law_360 (by decide) (fun _ => kk M1 N1 H locs R1 hP hS) (fun q => absurd rfl q)
set_option maxRecDepth 20000 in
theorem la_c5 {p : Program} {l : Launch} {e : Env} {s : State} {m : MethodId} {below : List Frame} {meth : Method} {c : Code} {b L : Nat} {xs : Nat → Int32} {D : va_G} {ad : Nat → Nat} {ca : Nat → ClassId} {i : Int32} {M N : nb_M} {H : Heap} {locs : List Loc} {ls : Array Slot} (A : la_A p s m meth c b L xs D ad ca) (R : hs_Rel M N) (hI : la_I i L) (hP : va_P D vwCl (nb_w ad ca M N) H) (hS : va_S (fun q : Nat => s.heap.size ≤ q) s.heap H locs) (hl : lv_has ls 4 [(0, .ref b), (1, .ref (ad 0)), (2, .ref (ad 52)), (3, .int i)]) (kk : la_G p l e s m below meth c b D ad ca ls) : W p l e room_1 s m #[Value.ref b] below meth c H locs 600000 7302250 (lw_Z below #[Value.ref b] s) (F0 m 365 ls []) := by
  obtain ⟨⟨hx, hb, hr, hml, hown, hts, hX, hbl, hlocks, hgv⟩, had, hK, hZ, ht⟩ := A
  obtain ⟨h1, h2, h3, h4, h5⟩ := hI
  obtain ⟨v, M1, N1, e1, e2, R1⟩ := s_as R (xs (i + 1).toNatClampNeg) (xs (i + 2).toNatClampNeg)
  refine lv_aload_n hx hb dL_law_365 rfl (lv_at hl 1 rfl) ?_
  refine la_ld (j := 1) hx hb hX hbl hS hl h1 (by decide) dL_law_366 dL_law_367 dL_law_368 dL_law_369 dL_law_370 ?_
  refine la_ld (j := 2) hx hb hX hbl hS hl h2 (by decide) dL_law_371 dL_law_372 dL_law_373 dL_law_374 dL_law_375 ?_
  refine la_callV (n := 2) (As := [.int (xs (i + 1).toNatClampNeg), .int (xs (i + 2).toNatClampNeg)]) (rest := []) hx hb hml hown ht hK hZ hP hS (k_X6_as had M N _ _ e1) gL_law_X6_as rfl (by decide +kernel) ⟨(Nat.le_of_ble_eq_true rfl), (Nat.le_of_ble_eq_true rfl)⟩ nb_a0 rfl rfl rfl hl.1 rfl (Nat.le_of_ble_eq_true rfl) dL_law_376 (fun H locs hP hS => ?_)
  refine lv_aload_n hx hb dL_law_379 rfl (lv_at hl 2 rfl) ?_
  refine la_ld (j := 1) hx hb hX hbl hS hl h1 (by decide) dL_law_380 dL_law_381 dL_law_382 dL_law_383 dL_law_384 ?_
  refine la_ld (j := 2) hx hb hX hbl hS hl h2 (by decide) dL_law_385 dL_law_386 dL_law_387 dL_law_388 dL_law_389 ?_
  refine la_callV (n := 2) (As := [.int (xs (i + 1).toNatClampNeg), .int (xs (i + 2).toNatClampNeg)]) (rest := [.int v]) hx hb hml hown ht hK hZ hP hS (k_X7_as had N M1 _ _ e2) gL_law_X7_as rfl (by decide +kernel) ⟨(Nat.le_of_ble_eq_true rfl), (Nat.le_of_ble_eq_true rfl)⟩ nb_a52 rfl rfl rfl hl.1 rfl (Nat.le_of_ble_eq_true rfl) dL_law_390 (fun H locs hP hS => ?_)
  exact lv_icmp_eq (tgt := 1396) hx hb dL_law_393 (by decide) (fun _ => kk M1 N1 H locs R1 hP hS) (fun q => absurd rfl q)
set_option maxRecDepth 20000 in
theorem la_c6 {p : Program} {l : Launch} {e : Env} {s : State} {m : MethodId} {below : List Frame} {meth : Method} {c : Code} {b L : Nat} {xs : Nat → Int32} {D : va_G} {ad : Nat → Nat} {ca : Nat → ClassId} {i : Int32} {M N : nb_M} {H : Heap} {locs : List Loc} {ls : Array Slot} (A : la_A p s m meth c b L xs D ad ca) (R : hs_Rel M N) (hI : la_I i L) (hP : va_P D vwCl (nb_w ad ca M N) H) (hS : va_S (fun q : Nat => s.heap.size ≤ q) s.heap H locs) (hl : lv_has ls 4 [(0, .ref b), (1, .ref (ad 0)), (2, .ref (ad 52)), (3, .int i)]) (kk : la_G p l e s m below meth c b D ad ca ls) : W p l e room_1 s m #[Value.ref b] below meth c H locs 600000 7302250 (lw_Z below #[Value.ref b] s) (F0 m 398 ls []) := by
  obtain ⟨⟨hx, hb, hr, hml, hown, hts, hX, hbl, hlocks, hgv⟩, had, hK, hZ, ht⟩ := A
  obtain ⟨h1, h2, h3, h4, h5⟩ := hI
  obtain ⟨v, M1, N1, e1, e2, R1⟩ := s_minds R (xs (i + 1).toNatClampNeg) (xs (i + 2).toNatClampNeg)
  refine lv_aload_n hx hb dL_law_398 rfl (lv_at hl 1 rfl) ?_
  refine la_ld (j := 1) hx hb hX hbl hS hl h1 (by decide) dL_law_399 dL_law_400 dL_law_401 dL_law_402 dL_law_403 ?_
  refine la_ld (j := 2) hx hb hX hbl hS hl h2 (by decide) dL_law_404 dL_law_405 dL_law_406 dL_law_407 dL_law_408 ?_
  refine la_callV (n := 2) (As := [.int (xs (i + 1).toNatClampNeg), .int (xs (i + 2).toNatClampNeg)]) (rest := []) hx hb hml hown ht hK hZ hP hS (k_X6_minds had M N _ _ e1) gL_law_X6_minds rfl (by decide +kernel) ⟨(Nat.le_of_ble_eq_true rfl), (Nat.le_of_ble_eq_true rfl)⟩ nb_a0 rfl rfl rfl hl.1 rfl (Nat.le_of_ble_eq_true rfl) dL_law_409 (fun H locs hP hS => ?_)
  refine lv_aload_n hx hb dL_law_412 rfl (lv_at hl 2 rfl) ?_
  refine la_ld (j := 1) hx hb hX hbl hS hl h1 (by decide) dL_law_413 dL_law_414 dL_law_415 dL_law_416 dL_law_417 ?_
  refine la_ld (j := 2) hx hb hX hbl hS hl h2 (by decide) dL_law_418 dL_law_419 dL_law_420 dL_law_421 dL_law_422 ?_
  refine la_callV (n := 2) (As := [.int (xs (i + 1).toNatClampNeg), .int (xs (i + 2).toNatClampNeg)]) (rest := [.int v]) hx hb hml hown ht hK hZ hP hS (k_X7_minds had N M1 _ _ e2) gL_law_X7_minds rfl (by decide +kernel) ⟨(Nat.le_of_ble_eq_true rfl), (Nat.le_of_ble_eq_true rfl)⟩ nb_a52 rfl rfl rfl hl.1 rfl (Nat.le_of_ble_eq_true rfl) dL_law_423 (fun H locs hP hS => ?_)
  exact lv_icmp_eq (tgt := 1396) hx hb dL_law_426 (by decide) (fun _ => kk M1 N1 H locs R1 hP hS) (fun q => absurd rfl q)
set_option maxRecDepth 20000 in
theorem la_c7 {p : Program} {l : Launch} {e : Env} {s : State} {m : MethodId} {below : List Frame} {meth : Method} {c : Code} {b L : Nat} {xs : Nat → Int32} {D : va_G} {ad : Nat → Nat} {ca : Nat → ClassId} {i : Int32} {M N : nb_M} {H : Heap} {locs : List Loc} {ls : Array Slot} (A : la_A p s m meth c b L xs D ad ca) (R : hs_Rel M N) (hI : la_I i L) (hP : va_P D vwCl (nb_w ad ca M N) H) (hS : va_S (fun q : Nat => s.heap.size ≤ q) s.heap H locs) (hl : lv_has ls 4 [(0, .ref b), (1, .ref (ad 0)), (2, .ref (ad 52)), (3, .int i)]) (kk : la_G p l e s m below meth c b D ad ca ls) : W p l e room_1 s m #[Value.ref b] below meth c H locs 600000 7302250 (lw_Z below #[Value.ref b] s) (F0 m 431 ls []) := by
  obtain ⟨⟨hx, hb, hr, hml, hown, hts, hX, hbl, hlocks, hgv⟩, had, hK, hZ, ht⟩ := A
  obtain ⟨h1, h2, h3, h4, h5⟩ := hI
  obtain ⟨v, M1, N1, e1, e2, R1⟩ := s_lend R (xs (i + 1).toNatClampNeg) (xs (i + 2).toNatClampNeg)
  refine lv_aload_n hx hb dL_law_431 rfl (lv_at hl 1 rfl) ?_
  refine la_ld (j := 1) hx hb hX hbl hS hl h1 (by decide) dL_law_432 dL_law_433 dL_law_434 dL_law_435 dL_law_436 ?_
  refine la_ld (j := 2) hx hb hX hbl hS hl h2 (by decide) dL_law_437 dL_law_438 dL_law_439 dL_law_440 dL_law_441 ?_
  refine la_callV (n := 2) (As := [.int (xs (i + 1).toNatClampNeg), .int (xs (i + 2).toNatClampNeg)]) (rest := []) hx hb hml hown ht hK hZ hP hS (k_X6_lend had M N _ _ e1) gL_law_X6_lend rfl (by decide +kernel) ⟨(Nat.le_of_ble_eq_true rfl), (Nat.le_of_ble_eq_true rfl)⟩ nb_a0 rfl rfl rfl hl.1 rfl (Nat.le_of_ble_eq_true rfl) dL_law_442 (fun H locs hP hS => ?_)
  refine lv_aload_n hx hb dL_law_445 rfl (lv_at hl 2 rfl) ?_
  refine la_ld (j := 1) hx hb hX hbl hS hl h1 (by decide) dL_law_446 dL_law_447 dL_law_448 dL_law_449 dL_law_450 ?_
  refine la_ld (j := 2) hx hb hX hbl hS hl h2 (by decide) dL_law_451 dL_law_452 dL_law_453 dL_law_454 dL_law_455 ?_
  refine la_callV (n := 2) (As := [.int (xs (i + 1).toNatClampNeg), .int (xs (i + 2).toNatClampNeg)]) (rest := [.int v]) hx hb hml hown ht hK hZ hP hS (k_X7_lend had N M1 _ _ e2) gL_law_X7_lend rfl (by decide +kernel) ⟨(Nat.le_of_ble_eq_true rfl), (Nat.le_of_ble_eq_true rfl)⟩ nb_a52 rfl rfl rfl hl.1 rfl (Nat.le_of_ble_eq_true rfl) dL_law_456 (fun H locs hP hS => ?_)
  exact lv_icmp_eq (tgt := 1396) hx hb dL_law_459 (by decide) (fun _ => kk M1 N1 H locs R1 hP hS) (fun q => absurd rfl q)
set_option maxRecDepth 20000 in
theorem la_c8 {p : Program} {l : Launch} {e : Env} {s : State} {m : MethodId} {below : List Frame} {meth : Method} {c : Code} {b L : Nat} {xs : Nat → Int32} {D : va_G} {ad : Nat → Nat} {ca : Nat → ClassId} {i : Int32} {M N : nb_M} {H : Heap} {locs : List Loc} {ls : Array Slot} (A : la_A p s m meth c b L xs D ad ca) (R : hs_Rel M N) (hI : la_I i L) (hP : va_P D vwCl (nb_w ad ca M N) H) (hS : va_S (fun q : Nat => s.heap.size ≤ q) s.heap H locs) (hl : lv_has ls 4 [(0, .ref b), (1, .ref (ad 0)), (2, .ref (ad 52)), (3, .int i)]) (kk : la_G p l e s m below meth c b D ad ca ls) : W p l e room_1 s m #[Value.ref b] below meth c H locs 600000 7302250 (lw_Z below #[Value.ref b] s) (F0 m 464 ls []) := by
  obtain ⟨⟨hx, hb, hr, hml, hown, hts, hX, hbl, hlocks, hgv⟩, had, hK, hZ, ht⟩ := A
  obtain ⟨h1, h2, h3, h4, h5⟩ := hI
  obtain ⟨v, M1, N1, e1, e2, R1⟩ := s_wall R (xs (i + 1).toNatClampNeg) (xs (i + 2).toNatClampNeg)
  refine lv_aload_n hx hb dL_law_464 rfl (lv_at hl 1 rfl) ?_
  refine la_ld (j := 1) hx hb hX hbl hS hl h1 (by decide) dL_law_465 dL_law_466 dL_law_467 dL_law_468 dL_law_469 ?_
  refine la_ld (j := 2) hx hb hX hbl hS hl h2 (by decide) dL_law_470 dL_law_471 dL_law_472 dL_law_473 dL_law_474 ?_
  refine la_callV (n := 2) (As := [.int (xs (i + 1).toNatClampNeg), .int (xs (i + 2).toNatClampNeg)]) (rest := []) hx hb hml hown ht hK hZ hP hS (k_X6_wall had M N _ _ e1) gL_law_X6_wall rfl (by decide +kernel) ⟨(Nat.le_of_ble_eq_true rfl), (Nat.le_of_ble_eq_true rfl)⟩ nb_a0 rfl rfl rfl hl.1 rfl (Nat.le_of_ble_eq_true rfl) dL_law_475 (fun H locs hP hS => ?_)
  refine lv_aload_n hx hb dL_law_478 rfl (lv_at hl 2 rfl) ?_
  refine la_ld (j := 1) hx hb hX hbl hS hl h1 (by decide) dL_law_479 dL_law_480 dL_law_481 dL_law_482 dL_law_483 ?_
  refine la_ld (j := 2) hx hb hX hbl hS hl h2 (by decide) dL_law_484 dL_law_485 dL_law_486 dL_law_487 dL_law_488 ?_
  refine la_callV (n := 2) (As := [.int (xs (i + 1).toNatClampNeg), .int (xs (i + 2).toNatClampNeg)]) (rest := [.int v]) hx hb hml hown ht hK hZ hP hS (k_X7_wall had N M1 _ _ e2) gL_law_X7_wall rfl (by decide +kernel) ⟨(Nat.le_of_ble_eq_true rfl), (Nat.le_of_ble_eq_true rfl)⟩ nb_a52 rfl rfl rfl hl.1 rfl (Nat.le_of_ble_eq_true rfl) dL_law_489 (fun H locs hP hS => ?_)
  exact lv_icmp_eq (tgt := 1396) hx hb dL_law_492 (by decide) (fun _ => kk M1 N1 H locs R1 hP hS) (fun q => absurd rfl q)
set_option maxRecDepth 20000 in
theorem la_c9 {p : Program} {l : Launch} {e : Env} {s : State} {m : MethodId} {below : List Frame} {meth : Method} {c : Code} {b L : Nat} {xs : Nat → Int32} {D : va_G} {ad : Nat → Nat} {ca : Nat → ClassId} {i : Int32} {M N : nb_M} {H : Heap} {locs : List Loc} {ls : Array Slot} (A : la_A p s m meth c b L xs D ad ca) (R : hs_Rel M N) (hI : la_I i L) (hP : va_P D vwCl (nb_w ad ca M N) H) (hS : va_S (fun q : Nat => s.heap.size ≤ q) s.heap H locs) (hl : lv_has ls 4 [(0, .ref b), (1, .ref (ad 0)), (2, .ref (ad 52)), (3, .int i)]) (kk : la_G p l e s m below meth c b D ad ca ls) : W p l e room_1 s m #[Value.ref b] below meth c H locs 600000 7302250 (lw_Z below #[Value.ref b] s) (F0 m 497 ls []) := by
  obtain ⟨⟨hx, hb, hr, hml, hown, hts, hX, hbl, hlocks, hgv⟩, had, hK, hZ, ht⟩ := A
  obtain ⟨h1, h2, h3, h4, h5⟩ := hI
  obtain ⟨v, M1, N1, e1, e2, R1⟩ := s_risk R (xs (i + 1).toNatClampNeg) (xs (i + 2).toNatClampNeg)
  refine lv_aload_n hx hb dL_law_497 rfl (lv_at hl 1 rfl) ?_
  refine la_ld (j := 1) hx hb hX hbl hS hl h1 (by decide) dL_law_498 dL_law_499 dL_law_500 dL_law_501 dL_law_502 ?_
  refine la_ld (j := 2) hx hb hX hbl hS hl h2 (by decide) dL_law_503 dL_law_504 dL_law_505 dL_law_506 dL_law_507 ?_
  refine la_callV (n := 2) (As := [.int (xs (i + 1).toNatClampNeg), .int (xs (i + 2).toNatClampNeg)]) (rest := []) hx hb hml hown ht hK hZ hP hS (k_X6_risk had M N _ _ e1) gL_law_X6_risk rfl (by decide +kernel) ⟨(Nat.le_of_ble_eq_true rfl), (Nat.le_of_ble_eq_true rfl)⟩ nb_a0 rfl rfl rfl hl.1 rfl (Nat.le_of_ble_eq_true rfl) dL_law_508 (fun H locs hP hS => ?_)
  refine lv_aload_n hx hb dL_law_511 rfl (lv_at hl 2 rfl) ?_
  refine la_ld (j := 1) hx hb hX hbl hS hl h1 (by decide) dL_law_512 dL_law_513 dL_law_514 dL_law_515 dL_law_516 ?_
  refine la_ld (j := 2) hx hb hX hbl hS hl h2 (by decide) dL_law_517 dL_law_518 dL_law_519 dL_law_520 dL_law_521 ?_
  refine la_callV (n := 2) (As := [.int (xs (i + 1).toNatClampNeg), .int (xs (i + 2).toNatClampNeg)]) (rest := [.int v]) hx hb hml hown ht hK hZ hP hS (k_X7_risk had N M1 _ _ e2) gL_law_X7_risk rfl (by decide +kernel) ⟨(Nat.le_of_ble_eq_true rfl), (Nat.le_of_ble_eq_true rfl)⟩ nb_a52 rfl rfl rfl hl.1 rfl (Nat.le_of_ble_eq_true rfl) dL_law_522 (fun H locs hP hS => ?_)
  exact lv_icmp_eq (tgt := 1396) hx hb dL_law_525 (by decide) (fun _ => kk M1 N1 H locs R1 hP hS) (fun q => absurd rfl q)
set_option maxRecDepth 20000 in
theorem la_c10 {p : Program} {l : Launch} {e : Env} {s : State} {m : MethodId} {below : List Frame} {meth : Method} {c : Code} {b L : Nat} {xs : Nat → Int32} {D : va_G} {ad : Nat → Nat} {ca : Nat → ClassId} {i : Int32} {M N : nb_M} {H : Heap} {locs : List Loc} {ls : Array Slot} (A : la_A p s m meth c b L xs D ad ca) (R : hs_Rel M N) (hI : la_I i L) (hP : va_P D vwCl (nb_w ad ca M N) H) (hS : va_S (fun q : Nat => s.heap.size ≤ q) s.heap H locs) (hl : lv_has ls 4 [(0, .ref b), (1, .ref (ad 0)), (2, .ref (ad 52)), (3, .int i)]) (kk : la_G p l e s m below meth c b D ad ca ls) : W p l e room_1 s m #[Value.ref b] below meth c H locs 600000 7302250 (lw_Z below #[Value.ref b] s) (F0 m 530 ls []) := by
  obtain ⟨⟨hx, hb, hr, hml, hown, hts, hX, hbl, hlocks, hgv⟩, had, hK, hZ, ht⟩ := A
  obtain ⟨h1, h2, h3, h4, h5⟩ := hI
  obtain ⟨v, M1, N1, e1, e2, R1⟩ := s_drop R (xs (i + 1).toNatClampNeg)
  refine lv_aload_n hx hb dL_law_530 rfl (lv_at hl 1 rfl) ?_
  refine la_ld (j := 1) hx hb hX hbl hS hl h1 (by decide) dL_law_531 dL_law_532 dL_law_533 dL_law_534 dL_law_535 ?_
  refine la_callV (n := 1) (As := [.int (xs (i + 1).toNatClampNeg)]) (rest := []) hx hb hml hown ht hK hZ hP hS (k_X6_drop had M N _ e1) gL_law_X6_drop rfl (by decide +kernel) ⟨(Nat.le_of_ble_eq_true rfl), (Nat.le_of_ble_eq_true rfl)⟩ nb_a0 rfl rfl rfl hl.1 rfl (Nat.le_of_ble_eq_true rfl) dL_law_536 (fun H locs hP hS => ?_)
  refine lv_aload_n hx hb dL_law_539 rfl (lv_at hl 2 rfl) ?_
  refine la_ld (j := 1) hx hb hX hbl hS hl h1 (by decide) dL_law_540 dL_law_541 dL_law_542 dL_law_543 dL_law_544 ?_
  refine la_callV (n := 1) (As := [.int (xs (i + 1).toNatClampNeg)]) (rest := [.int v]) hx hb hml hown ht hK hZ hP hS (k_X7_drop had N M1 _ e2) gL_law_X7_drop rfl (by decide +kernel) ⟨(Nat.le_of_ble_eq_true rfl), (Nat.le_of_ble_eq_true rfl)⟩ nb_a52 rfl rfl rfl hl.1 rfl (Nat.le_of_ble_eq_true rfl) dL_law_545 (fun H locs hP hS => ?_)
  exact lv_icmp_eq (tgt := 1396) hx hb dL_law_548 (by decide) (fun _ => kk M1 N1 H locs R1 hP hS) (fun q => absurd rfl q)
set_option maxRecDepth 20000 in
theorem la_c11 {p : Program} {l : Launch} {e : Env} {s : State} {m : MethodId} {below : List Frame} {meth : Method} {c : Code} {b L : Nat} {xs : Nat → Int32} {D : va_G} {ad : Nat → Nat} {ca : Nat → ClassId} {i : Int32} {M N : nb_M} {H : Heap} {locs : List Loc} {ls : Array Slot} (A : la_A p s m meth c b L xs D ad ca) (R : hs_Rel M N) (hI : la_I i L) (hP : va_P D vwCl (nb_w ad ca M N) H) (hS : va_S (fun q : Nat => s.heap.size ≤ q) s.heap H locs) (hl : lv_has ls 4 [(0, .ref b), (1, .ref (ad 0)), (2, .ref (ad 52)), (3, .int i)]) (kk : la_G p l e s m below meth c b D ad ca ls) : W p l e room_1 s m #[Value.ref b] below meth c H locs 600000 7302250 (lw_Z below #[Value.ref b] s) (F0 m 553 ls []) := by
  obtain ⟨⟨hx, hb, hr, hml, hown, hts, hX, hbl, hlocks, hgv⟩, had, hK, hZ, ht⟩ := A
  obtain ⟨h1, h2, h3, h4, h5⟩ := hI
  obtain ⟨v, M1, N1, e1, e2, R1⟩ := s_feed R ((((xs (i + 1).toNatClampNeg).toInt64 <<< ((32 : Int32).toInt64 &&& 63)) ||| ((xs (i + 2).toNatClampNeg).toInt64 &&& (4294967295 : Int64)))) (xs (i + 3).toNatClampNeg)
  refine lv_aload_n hx hb dL_law_553 rfl (lv_at hl 1 rfl) ?_
  refine la_ld (j := 1) hx hb hX hbl hS hl h1 (by decide) dL_law_554 dL_law_555 dL_law_556 dL_law_557 dL_law_558 ?_
  refine lv_i2l hx hb dL_law_559 rfl ?_
  refine lv_bipush (v := 32) hx hb dL_law_560 (by decide) ?_
  refine lv_lshl hx hb dL_law_562 rfl ?_
  refine la_ld (j := 2) hx hb hX hbl hS hl h2 (by decide) dL_law_563 dL_law_564 dL_law_565 dL_law_566 dL_law_567 ?_
  refine lv_i2l hx hb dL_law_568 rfl ?_
  refine lv_ldc2 (v := 4294967295) hx hb hown (ht (.constantLong RL 59 (4294967295)) la_k59) dL_law_569 ?_
  refine lv_land hx hb dL_law_572 ?_
  refine lv_lor hx hb dL_law_573 ?_
  refine la_ld (j := 3) hx hb hX hbl hS hl h3 (by decide) dL_law_574 dL_law_575 dL_law_576 dL_law_577 dL_law_578 ?_
  refine la_callV (n := 2) (As := [.long ((((xs (i + 1).toNatClampNeg).toInt64 <<< ((32 : Int32).toInt64 &&& 63)) ||| ((xs (i + 2).toNatClampNeg).toInt64 &&& (4294967295 : Int64)))), .int (xs (i + 3).toNatClampNeg)]) (rest := []) hx hb hml hown ht hK hZ hP hS (k_X6_feed had M N _ _ e1) gL_law_X6_feed rfl (by decide +kernel) ⟨(Nat.le_of_ble_eq_true rfl), (Nat.le_of_ble_eq_true rfl)⟩ nb_a0 rfl rfl rfl hl.1 rfl (Nat.le_of_ble_eq_true rfl) dL_law_579 (fun H locs hP hS => ?_)
  refine lv_aload_n hx hb dL_law_582 rfl (lv_at hl 2 rfl) ?_
  refine la_ld (j := 1) hx hb hX hbl hS hl h1 (by decide) dL_law_583 dL_law_584 dL_law_585 dL_law_586 dL_law_587 ?_
  refine lv_i2l hx hb dL_law_588 rfl ?_
  refine lv_bipush (v := 32) hx hb dL_law_589 (by decide) ?_
  refine lv_lshl hx hb dL_law_591 rfl ?_
  refine la_ld (j := 2) hx hb hX hbl hS hl h2 (by decide) dL_law_592 dL_law_593 dL_law_594 dL_law_595 dL_law_596 ?_
  refine lv_i2l hx hb dL_law_597 rfl ?_
  refine lv_ldc2 (v := 4294967295) hx hb hown (ht (.constantLong RL 59 (4294967295)) la_k59) dL_law_598 ?_
  refine lv_land hx hb dL_law_601 ?_
  refine lv_lor hx hb dL_law_602 ?_
  refine la_ld (j := 3) hx hb hX hbl hS hl h3 (by decide) dL_law_603 dL_law_604 dL_law_605 dL_law_606 dL_law_607 ?_
  refine la_callV (n := 2) (As := [.long ((((xs (i + 1).toNatClampNeg).toInt64 <<< ((32 : Int32).toInt64 &&& 63)) ||| ((xs (i + 2).toNatClampNeg).toInt64 &&& (4294967295 : Int64)))), .int (xs (i + 3).toNatClampNeg)]) (rest := [.int v]) hx hb hml hown ht hK hZ hP hS (k_X7_feed had N M1 _ _ e2) gL_law_X7_feed rfl (by decide +kernel) ⟨(Nat.le_of_ble_eq_true rfl), (Nat.le_of_ble_eq_true rfl)⟩ nb_a52 rfl rfl rfl hl.1 rfl (Nat.le_of_ble_eq_true rfl) dL_law_608 (fun H locs hP hS => ?_)
  exact lv_icmp_eq (tgt := 1396) hx hb dL_law_611 (by decide) (fun _ => kk M1 N1 H locs R1 hP hS) (fun q => absurd rfl q)
set_option maxRecDepth 20000 in
theorem la_c12 {p : Program} {l : Launch} {e : Env} {s : State} {m : MethodId} {below : List Frame} {meth : Method} {c : Code} {b L : Nat} {xs : Nat → Int32} {D : va_G} {ad : Nat → Nat} {ca : Nat → ClassId} {i : Int32} {M N : nb_M} {H : Heap} {locs : List Loc} {ls : Array Slot} (A : la_A p s m meth c b L xs D ad ca) (R : hs_Rel M N) (hI : la_I i L) (hP : va_P D vwCl (nb_w ad ca M N) H) (hS : va_S (fun q : Nat => s.heap.size ≤ q) s.heap H locs) (hl : lv_has ls 4 [(0, .ref b), (1, .ref (ad 0)), (2, .ref (ad 52)), (3, .int i)]) (kk : la_G p l e s m below meth c b D ad ca ls) : W p l e room_1 s m #[Value.ref b] below meth c H locs 600000 7302250 (lw_Z below #[Value.ref b] s) (F0 m 616 ls []) := by
  obtain ⟨⟨hx, hb, hr, hml, hown, hts, hX, hbl, hlocks, hgv⟩, had, hK, hZ, ht⟩ := A
  obtain ⟨h1, h2, h3, h4, h5⟩ := hI
  obtain ⟨v, M1, N1, e1, e2, R1⟩ := s_text R (xs (i + 1).toNatClampNeg)
  refine lv_aload_n hx hb dL_law_616 rfl (lv_at hl 1 rfl) ?_
  refine la_ld (j := 1) hx hb hX hbl hS hl h1 (by decide) dL_law_617 dL_law_618 dL_law_619 dL_law_620 dL_law_621 ?_
  refine la_callV (n := 1) (As := [.int (xs (i + 1).toNatClampNeg)]) (rest := []) hx hb hml hown ht hK hZ hP hS (k_X6_text had M N _ e1) gL_law_X6_text rfl (by decide +kernel) ⟨(Nat.le_of_ble_eq_true rfl), (Nat.le_of_ble_eq_true rfl)⟩ nb_a0 rfl rfl rfl hl.1 rfl (Nat.le_of_ble_eq_true rfl) dL_law_622 (fun H locs hP hS => ?_)
  refine lv_aload_n hx hb dL_law_625 rfl (lv_at hl 2 rfl) ?_
  refine la_ld (j := 1) hx hb hX hbl hS hl h1 (by decide) dL_law_626 dL_law_627 dL_law_628 dL_law_629 dL_law_630 ?_
  refine la_callV (n := 1) (As := [.int (xs (i + 1).toNatClampNeg)]) (rest := [.int v]) hx hb hml hown ht hK hZ hP hS (k_X7_text had N M1 _ e2) gL_law_X7_text rfl (by decide +kernel) ⟨(Nat.le_of_ble_eq_true rfl), (Nat.le_of_ble_eq_true rfl)⟩ nb_a52 rfl rfl rfl hl.1 rfl (Nat.le_of_ble_eq_true rfl) dL_law_631 (fun H locs hP hS => ?_)
  exact lv_icmp_eq (tgt := 1396) hx hb dL_law_634 (by decide) (fun _ => kk M1 N1 H locs R1 hP hS) (fun q => absurd rfl q)
