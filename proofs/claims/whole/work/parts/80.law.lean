/-! the law's cases, walked by program -/
set_option maxHeartbeats 4000000 in
theorem lc_set {p : Program} {l : Launch} {e : Env} {s : State} {m : MethodId} {below : List Frame} {meth : Method} {c : Code} {H : Heap} {locs : List Loc} {Q : State → Prop} {ls : Array Slot} {G : GD} {M N : Mem} {b L x : Nat} {xs : Nat → Int32} (C : LC p s m meth c G b L xs x) (S : ST G M N s H locs) (hR : Rel M N) (hl : lv_has ls 4 [(0, .ref b), (1, .ref (G.2.1 10)), (2, .ref (G.2.1 0)), (3, .int (nI x))]) (K : ∀ (M1 N1 : Mem) (H1 : Heap) (locs1 : List Loc), ST G M1 N1 s H1 locs1 → Rel M1 N1 → W p l e room_1 s m #[.ref b] below meth c H1 locs1 600000 7302250 Q (F0 m 1272 ls [])) : W p l e room_1 s m #[.ref b] below meth c H locs 600000 7302250 Q (F0 m 176 ls []) := by
  have F := C.1
  have hx := F.1
  have hb := F.2.1
  have hown := F.2.2.2.2.1
  have hts := F.2.2.2.2.2.1
  obtain ⟨r, M1, N1, e1, e2, hR1⟩ := op_set hR ((xs (x + 1))) ((xs (x + 2)))
  refine lv_aload_n (pc := 176) hx hb dL_law_176 rfl (lv_at hl 1 rfl) ?_
  refine law_ld (pc := 177) (k := 1) (kf := 1) (lv := []) C S hl (by omega) rfl dL_law_177 dL_law_178 dL_law_179 (by decide) dL_law_180 dL_law_181 ?_
  refine law_ld (pc := 182) (k := 2) (kf := 2) (lv := []) C S hl (by omega) rfl dL_law_182 dL_law_183 dL_law_184 (by decide) dL_law_185 dL_law_186 ?_
  refine gc_vI (pc := 187) (i := 10) (ci := 11) (na := 2) (av := [.int (xs (x + 1)), .int (xs (x + 2))]) (rest := []) F S (tX11_set e1) mfX11_set rfl (by decide) cl11 w347 ⟨Nat.le_of_ble_eq_true rfl, Nat.le_of_ble_eq_true rfl⟩ ⟨Nat.le_of_ble_eq_true rfl, Nat.le_of_ble_eq_true rfl⟩ rfl hl.1 rfl (Nat.le_of_ble_eq_true rfl) dL_law_187 (fun H locs S => ?_)
  refine lv_aload_n (pc := 190) hx hb dL_law_190 rfl (lv_at hl 2 rfl) ?_
  refine law_ld (pc := 191) (k := 1) (kf := 1) (lv := []) C S hl (by omega) rfl dL_law_191 dL_law_192 dL_law_193 (by decide) dL_law_194 dL_law_195 ?_
  refine law_ld (pc := 196) (k := 2) (kf := 2) (lv := []) C S hl (by omega) rfl dL_law_196 dL_law_197 dL_law_198 (by decide) dL_law_199 dL_law_200 ?_
  refine gc_vI (pc := 201) (i := 0) (ci := 12) (na := 2) (av := [.int (xs (x + 1)), .int (xs (x + 2))]) (rest := [.int r]) F S (tX12_set e2) mfX12_set rfl (by decide) cl12 w968 ⟨Nat.le_of_ble_eq_true rfl, Nat.le_of_ble_eq_true rfl⟩ ⟨Nat.le_of_ble_eq_true rfl, Nat.le_of_ble_eq_true rfl⟩ rfl hl.1 rfl (Nat.le_of_ble_eq_true rfl) dL_law_201 (fun H locs S => ?_)
  exact lv_icmp_eq (pc := 204) (tgt := 1272) hx hb dL_law_204 (by decide) (fun _ => K M1 N1 H locs S hR1) (fun c1 => absurd rfl c1)
set_option maxHeartbeats 4000000 in
theorem lc_type {p : Program} {l : Launch} {e : Env} {s : State} {m : MethodId} {below : List Frame} {meth : Method} {c : Code} {H : Heap} {locs : List Loc} {Q : State → Prop} {ls : Array Slot} {G : GD} {M N : Mem} {b L x : Nat} {xs : Nat → Int32} (C : LC p s m meth c G b L xs x) (S : ST G M N s H locs) (hR : Rel M N) (hl : lv_has ls 4 [(0, .ref b), (1, .ref (G.2.1 10)), (2, .ref (G.2.1 0)), (3, .int (nI x))]) (K : ∀ (M1 N1 : Mem) (H1 : Heap) (locs1 : List Loc), ST G M1 N1 s H1 locs1 → Rel M1 N1 → W p l e room_1 s m #[.ref b] below meth c H1 locs1 600000 7302250 Q (F0 m 1272 ls [])) : W p l e room_1 s m #[.ref b] below meth c H locs 600000 7302250 Q (F0 m 209 ls []) := by
  have F := C.1
  have hx := F.1
  have hb := F.2.1
  have hown := F.2.2.2.2.1
  have hts := F.2.2.2.2.2.1
  obtain ⟨r, M1, N1, e1, e2, hR1⟩ := op_type hR ((xs (x + 1))) ((xs (x + 2))) ((xs (x + 3)))
  refine lv_aload_n (pc := 209) hx hb dL_law_209 rfl (lv_at hl 1 rfl) ?_
  refine law_ld (pc := 210) (k := 1) (kf := 1) (lv := []) C S hl (by omega) rfl dL_law_210 dL_law_211 dL_law_212 (by decide) dL_law_213 dL_law_214 ?_
  refine law_ld (pc := 215) (k := 2) (kf := 2) (lv := []) C S hl (by omega) rfl dL_law_215 dL_law_216 dL_law_217 (by decide) dL_law_218 dL_law_219 ?_
  refine law_ld (pc := 220) (k := 3) (kf := 3) (lv := []) C S hl (by omega) rfl dL_law_220 dL_law_221 dL_law_222 (by decide) dL_law_223 dL_law_224 ?_
  refine gc_vI (pc := 225) (i := 10) (ci := 11) (na := 3) (av := [.int (xs (x + 1)), .int (xs (x + 2)), .int (xs (x + 3))]) (rest := []) F S (tX11_type e1) mfX11_type rfl (by decide) cl11 w393 ⟨Nat.le_of_ble_eq_true rfl, Nat.le_of_ble_eq_true rfl⟩ ⟨Nat.le_of_ble_eq_true rfl, Nat.le_of_ble_eq_true rfl⟩ rfl hl.1 rfl (Nat.le_of_ble_eq_true rfl) dL_law_225 (fun H locs S => ?_)
  refine lv_aload_n (pc := 228) hx hb dL_law_228 rfl (lv_at hl 2 rfl) ?_
  refine law_ld (pc := 229) (k := 1) (kf := 1) (lv := []) C S hl (by omega) rfl dL_law_229 dL_law_230 dL_law_231 (by decide) dL_law_232 dL_law_233 ?_
  refine law_ld (pc := 234) (k := 2) (kf := 2) (lv := []) C S hl (by omega) rfl dL_law_234 dL_law_235 dL_law_236 (by decide) dL_law_237 dL_law_238 ?_
  refine law_ld (pc := 239) (k := 3) (kf := 3) (lv := []) C S hl (by omega) rfl dL_law_239 dL_law_240 dL_law_241 (by decide) dL_law_242 dL_law_243 ?_
  refine gc_vI (pc := 244) (i := 0) (ci := 12) (na := 3) (av := [.int (xs (x + 1)), .int (xs (x + 2)), .int (xs (x + 3))]) (rest := [.int r]) F S (tX12_type e2) mfX12_type rfl (by decide) cl12 w979 ⟨Nat.le_of_ble_eq_true rfl, Nat.le_of_ble_eq_true rfl⟩ ⟨Nat.le_of_ble_eq_true rfl, Nat.le_of_ble_eq_true rfl⟩ rfl hl.1 rfl (Nat.le_of_ble_eq_true rfl) dL_law_244 (fun H locs S => ?_)
  exact lv_icmp_eq (pc := 247) (tgt := 1272) hx hb dL_law_247 (by decide) (fun _ => K M1 N1 H locs S hR1) (fun c1 => absurd rfl c1)
set_option maxHeartbeats 4000000 in
theorem lc_days {p : Program} {l : Launch} {e : Env} {s : State} {m : MethodId} {below : List Frame} {meth : Method} {c : Code} {H : Heap} {locs : List Loc} {Q : State → Prop} {ls : Array Slot} {G : GD} {M N : Mem} {b L x : Nat} {xs : Nat → Int32} (C : LC p s m meth c G b L xs x) (S : ST G M N s H locs) (hR : Rel M N) (hl : lv_has ls 4 [(0, .ref b), (1, .ref (G.2.1 10)), (2, .ref (G.2.1 0)), (3, .int (nI x))]) (K : ∀ (M1 N1 : Mem) (H1 : Heap) (locs1 : List Loc), ST G M1 N1 s H1 locs1 → Rel M1 N1 → W p l e room_1 s m #[.ref b] below meth c H1 locs1 600000 7302250 Q (F0 m 1272 ls [])) : W p l e room_1 s m #[.ref b] below meth c H locs 600000 7302250 Q (F0 m 252 ls []) := by
  have F := C.1
  have hx := F.1
  have hb := F.2.1
  have hown := F.2.2.2.2.1
  have hts := F.2.2.2.2.2.1
  obtain ⟨r, M1, N1, e1, e2, hR1⟩ := op_days hR ((xs (x + 1))) ((xs (x + 2))) ((xs (x + 3)))
  refine lv_aload_n (pc := 252) hx hb dL_law_252 rfl (lv_at hl 1 rfl) ?_
  refine law_ld (pc := 253) (k := 1) (kf := 1) (lv := []) C S hl (by omega) rfl dL_law_253 dL_law_254 dL_law_255 (by decide) dL_law_256 dL_law_257 ?_
  refine law_ld (pc := 258) (k := 2) (kf := 2) (lv := []) C S hl (by omega) rfl dL_law_258 dL_law_259 dL_law_260 (by decide) dL_law_261 dL_law_262 ?_
  refine law_ld (pc := 263) (k := 3) (kf := 3) (lv := []) C S hl (by omega) rfl dL_law_263 dL_law_264 dL_law_265 (by decide) dL_law_266 dL_law_267 ?_
  refine gc_vI (pc := 268) (i := 10) (ci := 11) (na := 3) (av := [.int (xs (x + 1)), .int (xs (x + 2)), .int (xs (x + 3))]) (rest := []) F S (tX11_days e1) mfX11_days rfl (by decide) cl11 w406 ⟨Nat.le_of_ble_eq_true rfl, Nat.le_of_ble_eq_true rfl⟩ ⟨Nat.le_of_ble_eq_true rfl, Nat.le_of_ble_eq_true rfl⟩ rfl hl.1 rfl (Nat.le_of_ble_eq_true rfl) dL_law_268 (fun H locs S => ?_)
  refine lv_aload_n (pc := 271) hx hb dL_law_271 rfl (lv_at hl 2 rfl) ?_
  refine law_ld (pc := 272) (k := 1) (kf := 1) (lv := []) C S hl (by omega) rfl dL_law_272 dL_law_273 dL_law_274 (by decide) dL_law_275 dL_law_276 ?_
  refine law_ld (pc := 277) (k := 2) (kf := 2) (lv := []) C S hl (by omega) rfl dL_law_277 dL_law_278 dL_law_279 (by decide) dL_law_280 dL_law_281 ?_
  refine law_ld (pc := 282) (k := 3) (kf := 3) (lv := []) C S hl (by omega) rfl dL_law_282 dL_law_283 dL_law_284 (by decide) dL_law_285 dL_law_286 ?_
  refine gc_vI (pc := 287) (i := 0) (ci := 12) (na := 3) (av := [.int (xs (x + 1)), .int (xs (x + 2)), .int (xs (x + 3))]) (rest := [.int r]) F S (tX12_days e2) mfX12_days rfl (by decide) cl12 w983 ⟨Nat.le_of_ble_eq_true rfl, Nat.le_of_ble_eq_true rfl⟩ ⟨Nat.le_of_ble_eq_true rfl, Nat.le_of_ble_eq_true rfl⟩ rfl hl.1 rfl (Nat.le_of_ble_eq_true rfl) dL_law_287 (fun H locs S => ?_)
  exact lv_icmp_eq (pc := 290) (tgt := 1272) hx hb dL_law_290 (by decide) (fun _ => K M1 N1 H locs S hR1) (fun c1 => absurd rfl c1)
set_option maxHeartbeats 4000000 in
theorem lc_hang {p : Program} {l : Launch} {e : Env} {s : State} {m : MethodId} {below : List Frame} {meth : Method} {c : Code} {H : Heap} {locs : List Loc} {Q : State → Prop} {ls : Array Slot} {G : GD} {M N : Mem} {b L x : Nat} {xs : Nat → Int32} (C : LC p s m meth c G b L xs x) (S : ST G M N s H locs) (hR : Rel M N) (hl : lv_has ls 4 [(0, .ref b), (1, .ref (G.2.1 10)), (2, .ref (G.2.1 0)), (3, .int (nI x))]) (K : ∀ (M1 N1 : Mem) (H1 : Heap) (locs1 : List Loc), ST G M1 N1 s H1 locs1 → Rel M1 N1 → W p l e room_1 s m #[.ref b] below meth c H1 locs1 600000 7302250 Q (F0 m 1272 ls [])) : W p l e room_1 s m #[.ref b] below meth c H locs 600000 7302250 Q (F0 m 295 ls []) := by
  have F := C.1
  have hx := F.1
  have hb := F.2.1
  have hown := F.2.2.2.2.1
  have hts := F.2.2.2.2.2.1
  obtain ⟨r, M1, N1, e1, e2, hR1⟩ := op_hang hR ((xs (x + 1))) ((xs (x + 2))) ((xs (x + 3)))
  refine lv_aload_n (pc := 295) hx hb dL_law_295 rfl (lv_at hl 1 rfl) ?_
  refine law_ld (pc := 296) (k := 1) (kf := 1) (lv := []) C S hl (by omega) rfl dL_law_296 dL_law_297 dL_law_298 (by decide) dL_law_299 dL_law_300 ?_
  refine law_ld (pc := 301) (k := 2) (kf := 2) (lv := []) C S hl (by omega) rfl dL_law_301 dL_law_302 dL_law_303 (by decide) dL_law_304 dL_law_305 ?_
  refine law_ld (pc := 306) (k := 3) (kf := 3) (lv := []) C S hl (by omega) rfl dL_law_306 dL_law_307 dL_law_308 (by decide) dL_law_309 dL_law_310 ?_
  refine gc_vI (pc := 311) (i := 10) (ci := 11) (na := 3) (av := [.int (xs (x + 1)), .int (xs (x + 2)), .int (xs (x + 3))]) (rest := []) F S (tX11_hang e1) mfX11_hang rfl (by decide) cl11 w418 ⟨Nat.le_of_ble_eq_true rfl, Nat.le_of_ble_eq_true rfl⟩ ⟨Nat.le_of_ble_eq_true rfl, Nat.le_of_ble_eq_true rfl⟩ rfl hl.1 rfl (Nat.le_of_ble_eq_true rfl) dL_law_311 (fun H locs S => ?_)
  refine lv_aload_n (pc := 314) hx hb dL_law_314 rfl (lv_at hl 2 rfl) ?_
  refine law_ld (pc := 315) (k := 1) (kf := 1) (lv := []) C S hl (by omega) rfl dL_law_315 dL_law_316 dL_law_317 (by decide) dL_law_318 dL_law_319 ?_
  refine law_ld (pc := 320) (k := 2) (kf := 2) (lv := []) C S hl (by omega) rfl dL_law_320 dL_law_321 dL_law_322 (by decide) dL_law_323 dL_law_324 ?_
  refine law_ld (pc := 325) (k := 3) (kf := 3) (lv := []) C S hl (by omega) rfl dL_law_325 dL_law_326 dL_law_327 (by decide) dL_law_328 dL_law_329 ?_
  refine gc_vI (pc := 330) (i := 0) (ci := 12) (na := 3) (av := [.int (xs (x + 1)), .int (xs (x + 2)), .int (xs (x + 3))]) (rest := [.int r]) F S (tX12_hang e2) mfX12_hang rfl (by decide) cl12 w990 ⟨Nat.le_of_ble_eq_true rfl, Nat.le_of_ble_eq_true rfl⟩ ⟨Nat.le_of_ble_eq_true rfl, Nat.le_of_ble_eq_true rfl⟩ rfl hl.1 rfl (Nat.le_of_ble_eq_true rfl) dL_law_330 (fun H locs S => ?_)
  exact lv_icmp_eq (pc := 333) (tgt := 1272) hx hb dL_law_333 (by decide) (fun _ => K M1 N1 H locs S hR1) (fun c1 => absurd rfl c1)
set_option maxHeartbeats 4000000 in
theorem lc_takeDown {p : Program} {l : Launch} {e : Env} {s : State} {m : MethodId} {below : List Frame} {meth : Method} {c : Code} {H : Heap} {locs : List Loc} {Q : State → Prop} {ls : Array Slot} {G : GD} {M N : Mem} {b L x : Nat} {xs : Nat → Int32} (C : LC p s m meth c G b L xs x) (S : ST G M N s H locs) (hR : Rel M N) (hl : lv_has ls 4 [(0, .ref b), (1, .ref (G.2.1 10)), (2, .ref (G.2.1 0)), (3, .int (nI x))]) (K : ∀ (M1 N1 : Mem) (H1 : Heap) (locs1 : List Loc), ST G M1 N1 s H1 locs1 → Rel M1 N1 → W p l e room_1 s m #[.ref b] below meth c H1 locs1 600000 7302250 Q (F0 m 1272 ls [])) : W p l e room_1 s m #[.ref b] below meth c H locs 600000 7302250 Q (F0 m 338 ls []) := by
  have F := C.1
  have hx := F.1
  have hb := F.2.1
  have hown := F.2.2.2.2.1
  have hts := F.2.2.2.2.2.1
  obtain ⟨r, M1, N1, e1, e2, hR1⟩ := op_take hR ((xs (x + 1))) ((xs (x + 2)))
  refine lv_aload_n (pc := 338) hx hb dL_law_338 rfl (lv_at hl 1 rfl) ?_
  refine law_ld (pc := 339) (k := 1) (kf := 1) (lv := []) C S hl (by omega) rfl dL_law_339 dL_law_340 dL_law_341 (by decide) dL_law_342 dL_law_343 ?_
  refine law_ld (pc := 344) (k := 2) (kf := 2) (lv := []) C S hl (by omega) rfl dL_law_344 dL_law_345 dL_law_346 (by decide) dL_law_347 dL_law_348 ?_
  refine gc_vI (pc := 349) (i := 10) (ci := 11) (na := 2) (av := [.int (xs (x + 1)), .int (xs (x + 2))]) (rest := []) F S (tX11_takeDown e1) mfX11_takeDown rfl (by decide) cl11 w441 ⟨Nat.le_of_ble_eq_true rfl, Nat.le_of_ble_eq_true rfl⟩ ⟨Nat.le_of_ble_eq_true rfl, Nat.le_of_ble_eq_true rfl⟩ rfl hl.1 rfl (Nat.le_of_ble_eq_true rfl) dL_law_349 (fun H locs S => ?_)
  refine lv_aload_n (pc := 352) hx hb dL_law_352 rfl (lv_at hl 2 rfl) ?_
  refine law_ld (pc := 353) (k := 1) (kf := 1) (lv := []) C S hl (by omega) rfl dL_law_353 dL_law_354 dL_law_355 (by decide) dL_law_356 dL_law_357 ?_
  refine law_ld (pc := 358) (k := 2) (kf := 2) (lv := []) C S hl (by omega) rfl dL_law_358 dL_law_359 dL_law_360 (by decide) dL_law_361 dL_law_362 ?_
  refine gc_vI (pc := 363) (i := 0) (ci := 12) (na := 2) (av := [.int (xs (x + 1)), .int (xs (x + 2))]) (rest := [.int r]) F S (tX12_takeDown e2) mfX12_takeDown rfl (by decide) cl12 w1003 ⟨Nat.le_of_ble_eq_true rfl, Nat.le_of_ble_eq_true rfl⟩ ⟨Nat.le_of_ble_eq_true rfl, Nat.le_of_ble_eq_true rfl⟩ rfl hl.1 rfl (Nat.le_of_ble_eq_true rfl) dL_law_363 (fun H locs S => ?_)
  exact lv_icmp_eq (pc := 366) (tgt := 1272) hx hb dL_law_366 (by decide) (fun _ => K M1 N1 H locs S hR1) (fun c1 => absurd rfl c1)
set_option maxHeartbeats 4000000 in
theorem lc_patch {p : Program} {l : Launch} {e : Env} {s : State} {m : MethodId} {below : List Frame} {meth : Method} {c : Code} {H : Heap} {locs : List Loc} {Q : State → Prop} {ls : Array Slot} {G : GD} {M N : Mem} {b L x : Nat} {xs : Nat → Int32} (C : LC p s m meth c G b L xs x) (S : ST G M N s H locs) (hR : Rel M N) (hl : lv_has ls 4 [(0, .ref b), (1, .ref (G.2.1 10)), (2, .ref (G.2.1 0)), (3, .int (nI x))]) (K : ∀ (M1 N1 : Mem) (H1 : Heap) (locs1 : List Loc), ST G M1 N1 s H1 locs1 → Rel M1 N1 → W p l e room_1 s m #[.ref b] below meth c H1 locs1 600000 7302250 Q (F0 m 1272 ls [])) : W p l e room_1 s m #[.ref b] below meth c H locs 600000 7302250 Q (F0 m 371 ls []) := by
  have F := C.1
  have hx := F.1
  have hb := F.2.1
  have hown := F.2.2.2.2.1
  have hts := F.2.2.2.2.2.1
  obtain ⟨r, M1, N1, e1, e2, hR1⟩ := op_patch hR ((xs (x + 1))) ((xs (x + 2))) ((xs (x + 3)))
  refine lv_aload_n (pc := 371) hx hb dL_law_371 rfl (lv_at hl 1 rfl) ?_
  refine law_ld (pc := 372) (k := 1) (kf := 1) (lv := []) C S hl (by omega) rfl dL_law_372 dL_law_373 dL_law_374 (by decide) dL_law_375 dL_law_376 ?_
  refine law_ld (pc := 377) (k := 2) (kf := 2) (lv := []) C S hl (by omega) rfl dL_law_377 dL_law_378 dL_law_379 (by decide) dL_law_380 dL_law_381 ?_
  refine law_ld (pc := 382) (k := 3) (kf := 3) (lv := []) C S hl (by omega) rfl dL_law_382 dL_law_383 dL_law_384 (by decide) dL_law_385 dL_law_386 ?_
  refine gc_vI (pc := 387) (i := 10) (ci := 11) (na := 3) (av := [.int (xs (x + 1)), .int (xs (x + 2)), .int (xs (x + 3))]) (rest := []) F S (tX11_patch e1) mfX11_patch rfl (by decide) cl11 w465 ⟨Nat.le_of_ble_eq_true rfl, Nat.le_of_ble_eq_true rfl⟩ ⟨Nat.le_of_ble_eq_true rfl, Nat.le_of_ble_eq_true rfl⟩ rfl hl.1 rfl (Nat.le_of_ble_eq_true rfl) dL_law_387 (fun H locs S => ?_)
  refine lv_aload_n (pc := 390) hx hb dL_law_390 rfl (lv_at hl 2 rfl) ?_
  refine law_ld (pc := 391) (k := 1) (kf := 1) (lv := []) C S hl (by omega) rfl dL_law_391 dL_law_392 dL_law_393 (by decide) dL_law_394 dL_law_395 ?_
  refine law_ld (pc := 396) (k := 2) (kf := 2) (lv := []) C S hl (by omega) rfl dL_law_396 dL_law_397 dL_law_398 (by decide) dL_law_399 dL_law_400 ?_
  refine law_ld (pc := 401) (k := 3) (kf := 3) (lv := []) C S hl (by omega) rfl dL_law_401 dL_law_402 dL_law_403 (by decide) dL_law_404 dL_law_405 ?_
  refine gc_vI (pc := 406) (i := 0) (ci := 12) (na := 3) (av := [.int (xs (x + 1)), .int (xs (x + 2)), .int (xs (x + 3))]) (rest := [.int r]) F S (tX12_patch e2) mfX12_patch rfl (by decide) cl12 w1011 ⟨Nat.le_of_ble_eq_true rfl, Nat.le_of_ble_eq_true rfl⟩ ⟨Nat.le_of_ble_eq_true rfl, Nat.le_of_ble_eq_true rfl⟩ rfl hl.1 rfl (Nat.le_of_ble_eq_true rfl) dL_law_406 (fun H locs S => ?_)
  exact lv_icmp_eq (pc := 409) (tgt := 1272) hx hb dL_law_409 (by decide) (fun _ => K M1 N1 H locs S hR1) (fun c1 => absurd rfl c1)
set_option maxHeartbeats 4000000 in
theorem lc_feed {p : Program} {l : Launch} {e : Env} {s : State} {m : MethodId} {below : List Frame} {meth : Method} {c : Code} {H : Heap} {locs : List Loc} {Q : State → Prop} {ls : Array Slot} {G : GD} {M N : Mem} {b L x : Nat} {xs : Nat → Int32} (C : LC p s m meth c G b L xs x) (S : ST G M N s H locs) (hR : Rel M N) (hl : lv_has ls 4 [(0, .ref b), (1, .ref (G.2.1 10)), (2, .ref (G.2.1 0)), (3, .int (nI x))]) (K : ∀ (M1 N1 : Mem) (H1 : Heap) (locs1 : List Loc), ST G M1 N1 s H1 locs1 → Rel M1 N1 → W p l e room_1 s m #[.ref b] below meth c H1 locs1 600000 7302250 Q (F0 m 1272 ls [])) : W p l e room_1 s m #[.ref b] below meth c H locs 600000 7302250 Q (F0 m 414 ls []) := by
  have F := C.1
  have hx := F.1
  have hb := F.2.1
  have hown := F.2.2.2.2.1
  have hts := F.2.2.2.2.2.1
  obtain ⟨r, M1, N1, e1, e2, hR1⟩ := op_feed hR ((xs (x + 1))) ((xs (x + 2))) ((xs (x + 3)))
  refine lv_aload_n (pc := 414) hx hb dL_law_414 rfl (lv_at hl 1 rfl) ?_
  refine law_ld (pc := 415) (k := 1) (kf := 1) (lv := []) C S hl (by omega) rfl dL_law_415 dL_law_416 dL_law_417 (by decide) dL_law_418 dL_law_419 ?_
  refine law_ld (pc := 420) (k := 2) (kf := 2) (lv := []) C S hl (by omega) rfl dL_law_420 dL_law_421 dL_law_422 (by decide) dL_law_423 dL_law_424 ?_
  refine law_ld (pc := 425) (k := 3) (kf := 3) (lv := []) C S hl (by omega) rfl dL_law_425 dL_law_426 dL_law_427 (by decide) dL_law_428 dL_law_429 ?_
  refine gc_vI (pc := 430) (i := 10) (ci := 11) (na := 3) (av := [.int (xs (x + 1)), .int (xs (x + 2)), .int (xs (x + 3))]) (rest := []) F S (tX11_feed e1) mfX11_feed rfl (by decide) cl11 w469 ⟨Nat.le_of_ble_eq_true rfl, Nat.le_of_ble_eq_true rfl⟩ ⟨Nat.le_of_ble_eq_true rfl, Nat.le_of_ble_eq_true rfl⟩ rfl hl.1 rfl (Nat.le_of_ble_eq_true rfl) dL_law_430 (fun H locs S => ?_)
  refine lv_aload_n (pc := 433) hx hb dL_law_433 rfl (lv_at hl 2 rfl) ?_
  refine law_ld (pc := 434) (k := 1) (kf := 1) (lv := []) C S hl (by omega) rfl dL_law_434 dL_law_435 dL_law_436 (by decide) dL_law_437 dL_law_438 ?_
  refine law_ld (pc := 439) (k := 2) (kf := 2) (lv := []) C S hl (by omega) rfl dL_law_439 dL_law_440 dL_law_441 (by decide) dL_law_442 dL_law_443 ?_
  refine law_ld (pc := 444) (k := 3) (kf := 3) (lv := []) C S hl (by omega) rfl dL_law_444 dL_law_445 dL_law_446 (by decide) dL_law_447 dL_law_448 ?_
  refine gc_vI (pc := 449) (i := 0) (ci := 12) (na := 3) (av := [.int (xs (x + 1)), .int (xs (x + 2)), .int (xs (x + 3))]) (rest := [.int r]) F S (tX12_feed e2) mfX12_feed rfl (by decide) cl12 w1015 ⟨Nat.le_of_ble_eq_true rfl, Nat.le_of_ble_eq_true rfl⟩ ⟨Nat.le_of_ble_eq_true rfl, Nat.le_of_ble_eq_true rfl⟩ rfl hl.1 rfl (Nat.le_of_ble_eq_true rfl) dL_law_449 (fun H locs S => ?_)
  exact lv_icmp_eq (pc := 452) (tgt := 1272) hx hb dL_law_452 (by decide) (fun _ => K M1 N1 H locs S hR1) (fun c1 => absurd rfl c1)
set_option maxHeartbeats 4000000 in
theorem lc_spread {p : Program} {l : Launch} {e : Env} {s : State} {m : MethodId} {below : List Frame} {meth : Method} {c : Code} {H : Heap} {locs : List Loc} {Q : State → Prop} {ls : Array Slot} {G : GD} {M N : Mem} {b L x : Nat} {xs : Nat → Int32} (C : LC p s m meth c G b L xs x) (S : ST G M N s H locs) (hR : Rel M N) (hl : lv_has ls 4 [(0, .ref b), (1, .ref (G.2.1 10)), (2, .ref (G.2.1 0)), (3, .int (nI x))]) (K : ∀ (M1 N1 : Mem) (H1 : Heap) (locs1 : List Loc), ST G M1 N1 s H1 locs1 → Rel M1 N1 → W p l e room_1 s m #[.ref b] below meth c H1 locs1 600000 7302250 Q (F0 m 1272 ls [])) : W p l e room_1 s m #[.ref b] below meth c H locs 600000 7302250 Q (F0 m 457 ls []) := by
  have F := C.1
  have hx := F.1
  have hb := F.2.1
  have hown := F.2.2.2.2.1
  have hts := F.2.2.2.2.2.1
  obtain ⟨r, M1, N1, e1, e2, hR1⟩ := op_spread hR ((xs (x + 1)))
  refine lv_aload_n (pc := 457) hx hb dL_law_457 rfl (lv_at hl 1 rfl) ?_
  refine law_ld (pc := 458) (k := 1) (kf := 1) (lv := []) C S hl (by omega) rfl dL_law_458 dL_law_459 dL_law_460 (by decide) dL_law_461 dL_law_462 ?_
  refine gc_vI (pc := 463) (i := 10) (ci := 11) (na := 1) (av := [.int (xs (x + 1))]) (rest := []) F S (tX11_spread e1) mfX11_spread rfl (by decide) cl11 w476 ⟨Nat.le_of_ble_eq_true rfl, Nat.le_of_ble_eq_true rfl⟩ ⟨Nat.le_of_ble_eq_true rfl, Nat.le_of_ble_eq_true rfl⟩ rfl hl.1 rfl (Nat.le_of_ble_eq_true rfl) dL_law_463 (fun H locs S => ?_)
  refine lv_aload_n (pc := 466) hx hb dL_law_466 rfl (lv_at hl 2 rfl) ?_
  refine law_ld (pc := 467) (k := 1) (kf := 1) (lv := []) C S hl (by omega) rfl dL_law_467 dL_law_468 dL_law_469 (by decide) dL_law_470 dL_law_471 ?_
  refine gc_vI (pc := 472) (i := 0) (ci := 12) (na := 1) (av := [.int (xs (x + 1))]) (rest := [.int r]) F S (tX12_spread e2) mfX12_spread rfl (by decide) cl12 w1019 ⟨Nat.le_of_ble_eq_true rfl, Nat.le_of_ble_eq_true rfl⟩ ⟨Nat.le_of_ble_eq_true rfl, Nat.le_of_ble_eq_true rfl⟩ rfl hl.1 rfl (Nat.le_of_ble_eq_true rfl) dL_law_472 (fun H locs S => ?_)
  exact lv_icmp_eq (pc := 475) (tgt := 1272) hx hb dL_law_475 (by decide) (fun _ => K M1 N1 H locs S hR1) (fun c1 => absurd rfl c1)
set_option maxHeartbeats 4000000 in
theorem lc_at {p : Program} {l : Launch} {e : Env} {s : State} {m : MethodId} {below : List Frame} {meth : Method} {c : Code} {H : Heap} {locs : List Loc} {Q : State → Prop} {ls : Array Slot} {G : GD} {M N : Mem} {b L x : Nat} {xs : Nat → Int32} (C : LC p s m meth c G b L xs x) (S : ST G M N s H locs) (hR : Rel M N) (hl : lv_has ls 4 [(0, .ref b), (1, .ref (G.2.1 10)), (2, .ref (G.2.1 0)), (3, .int (nI x))]) (K : ∀ (M1 N1 : Mem) (H1 : Heap) (locs1 : List Loc), ST G M1 N1 s H1 locs1 → Rel M1 N1 → W p l e room_1 s m #[.ref b] below meth c H1 locs1 600000 7302250 Q (F0 m 1272 ls [])) : W p l e room_1 s m #[.ref b] below meth c H locs 600000 7302250 Q (F0 m 480 ls []) := by
  have F := C.1
  have hx := F.1
  have hb := F.2.1
  have hown := F.2.2.2.2.1
  have hts := F.2.2.2.2.2.1
  obtain ⟨r, M1, N1, e1, e2, hR1⟩ := op_at hR ((xs (x + 1))) ((xs (x + 2))) ((xs (x + 3)))
  refine lv_aload_n (pc := 480) hx hb dL_law_480 rfl (lv_at hl 1 rfl) ?_
  refine law_ld (pc := 481) (k := 1) (kf := 1) (lv := []) C S hl (by omega) rfl dL_law_481 dL_law_482 dL_law_483 (by decide) dL_law_484 dL_law_485 ?_
  refine law_ld (pc := 486) (k := 2) (kf := 2) (lv := []) C S hl (by omega) rfl dL_law_486 dL_law_487 dL_law_488 (by decide) dL_law_489 dL_law_490 ?_
  refine law_ld (pc := 491) (k := 3) (kf := 3) (lv := []) C S hl (by omega) rfl dL_law_491 dL_law_492 dL_law_493 (by decide) dL_law_494 dL_law_495 ?_
  refine gc_vI (pc := 496) (i := 10) (ci := 11) (na := 3) (av := [.int (xs (x + 1)), .int (xs (x + 2)), .int (xs (x + 3))]) (rest := []) F S (tX11_at e1) mfX11_at rfl (by decide) cl11 w542 ⟨Nat.le_of_ble_eq_true rfl, Nat.le_of_ble_eq_true rfl⟩ ⟨Nat.le_of_ble_eq_true rfl, Nat.le_of_ble_eq_true rfl⟩ rfl hl.1 rfl (Nat.le_of_ble_eq_true rfl) dL_law_496 (fun H locs S => ?_)
  refine lv_aload_n (pc := 499) hx hb dL_law_499 rfl (lv_at hl 2 rfl) ?_
  refine law_ld (pc := 500) (k := 1) (kf := 1) (lv := []) C S hl (by omega) rfl dL_law_500 dL_law_501 dL_law_502 (by decide) dL_law_503 dL_law_504 ?_
  refine law_ld (pc := 505) (k := 2) (kf := 2) (lv := []) C S hl (by omega) rfl dL_law_505 dL_law_506 dL_law_507 (by decide) dL_law_508 dL_law_509 ?_
  refine law_ld (pc := 510) (k := 3) (kf := 3) (lv := []) C S hl (by omega) rfl dL_law_510 dL_law_511 dL_law_512 (by decide) dL_law_513 dL_law_514 ?_
  refine gc_vI (pc := 515) (i := 0) (ci := 12) (na := 3) (av := [.int (xs (x + 1)), .int (xs (x + 2)), .int (xs (x + 3))]) (rest := [.int r]) F S (tX12_at e2) mfX12_at rfl (by decide) cl12 w1035 ⟨Nat.le_of_ble_eq_true rfl, Nat.le_of_ble_eq_true rfl⟩ ⟨Nat.le_of_ble_eq_true rfl, Nat.le_of_ble_eq_true rfl⟩ rfl hl.1 rfl (Nat.le_of_ble_eq_true rfl) dL_law_515 (fun H locs S => ?_)
  exact lv_icmp_eq (pc := 518) (tgt := 1272) hx hb dL_law_518 (by decide) (fun _ => K M1 N1 H locs S hR1) (fun c1 => absurd rfl c1)
set_option maxHeartbeats 4000000 in
theorem lc_record {p : Program} {l : Launch} {e : Env} {s : State} {m : MethodId} {below : List Frame} {meth : Method} {c : Code} {H : Heap} {locs : List Loc} {Q : State → Prop} {ls : Array Slot} {G : GD} {M N : Mem} {b L x : Nat} {xs : Nat → Int32} (C : LC p s m meth c G b L xs x) (S : ST G M N s H locs) (hR : Rel M N) (hl : lv_has ls 4 [(0, .ref b), (1, .ref (G.2.1 10)), (2, .ref (G.2.1 0)), (3, .int (nI x))]) (K : ∀ (M1 N1 : Mem) (H1 : Heap) (locs1 : List Loc), ST G M1 N1 s H1 locs1 → Rel M1 N1 → W p l e room_1 s m #[.ref b] below meth c H1 locs1 600000 7302250 Q (F0 m 1272 ls [])) : W p l e room_1 s m #[.ref b] below meth c H locs 600000 7302250 Q (F0 m 523 ls []) := by
  have F := C.1
  have hx := F.1
  have hb := F.2.1
  have hown := F.2.2.2.2.1
  have hts := F.2.2.2.2.2.1
  obtain ⟨r, M1, N1, e1, e2, hR1⟩ := op_record hR ((xs (x + 1))) ((xs (x + 2))) ((xs (x + 3)))
  refine lv_aload_n (pc := 523) hx hb dL_law_523 rfl (lv_at hl 1 rfl) ?_
  refine law_ld (pc := 524) (k := 1) (kf := 1) (lv := []) C S hl (by omega) rfl dL_law_524 dL_law_525 dL_law_526 (by decide) dL_law_527 dL_law_528 ?_
  refine law_ld (pc := 529) (k := 2) (kf := 2) (lv := []) C S hl (by omega) rfl dL_law_529 dL_law_530 dL_law_531 (by decide) dL_law_532 dL_law_533 ?_
  refine law_ld (pc := 534) (k := 3) (kf := 3) (lv := []) C S hl (by omega) rfl dL_law_534 dL_law_535 dL_law_536 (by decide) dL_law_537 dL_law_538 ?_
  refine gc_vI (pc := 539) (i := 10) (ci := 11) (na := 3) (av := [.int (xs (x + 1)), .int (xs (x + 2)), .int (xs (x + 3))]) (rest := []) F S (tX11_record e1) mfX11_record rfl (by decide) cl11 w546 ⟨Nat.le_of_ble_eq_true rfl, Nat.le_of_ble_eq_true rfl⟩ ⟨Nat.le_of_ble_eq_true rfl, Nat.le_of_ble_eq_true rfl⟩ rfl hl.1 rfl (Nat.le_of_ble_eq_true rfl) dL_law_539 (fun H locs S => ?_)
  refine lv_aload_n (pc := 542) hx hb dL_law_542 rfl (lv_at hl 2 rfl) ?_
  refine law_ld (pc := 543) (k := 1) (kf := 1) (lv := []) C S hl (by omega) rfl dL_law_543 dL_law_544 dL_law_545 (by decide) dL_law_546 dL_law_547 ?_
  refine law_ld (pc := 548) (k := 2) (kf := 2) (lv := []) C S hl (by omega) rfl dL_law_548 dL_law_549 dL_law_550 (by decide) dL_law_551 dL_law_552 ?_
  refine law_ld (pc := 553) (k := 3) (kf := 3) (lv := []) C S hl (by omega) rfl dL_law_553 dL_law_554 dL_law_555 (by decide) dL_law_556 dL_law_557 ?_
  refine gc_vI (pc := 558) (i := 0) (ci := 12) (na := 3) (av := [.int (xs (x + 1)), .int (xs (x + 2)), .int (xs (x + 3))]) (rest := [.int r]) F S (tX12_record e2) mfX12_record rfl (by decide) cl12 w1043 ⟨Nat.le_of_ble_eq_true rfl, Nat.le_of_ble_eq_true rfl⟩ ⟨Nat.le_of_ble_eq_true rfl, Nat.le_of_ble_eq_true rfl⟩ rfl hl.1 rfl (Nat.le_of_ble_eq_true rfl) dL_law_558 (fun H locs S => ?_)
  exact lv_icmp_eq (pc := 561) (tgt := 1272) hx hb dL_law_561 (by decide) (fun _ => K M1 N1 H locs S hR1) (fun c1 => absurd rfl c1)
set_option maxHeartbeats 4000000 in
theorem lc_go {p : Program} {l : Launch} {e : Env} {s : State} {m : MethodId} {below : List Frame} {meth : Method} {c : Code} {H : Heap} {locs : List Loc} {Q : State → Prop} {ls : Array Slot} {G : GD} {M N : Mem} {b L x : Nat} {xs : Nat → Int32} (C : LC p s m meth c G b L xs x) (S : ST G M N s H locs) (hR : Rel M N) (hl : lv_has ls 4 [(0, .ref b), (1, .ref (G.2.1 10)), (2, .ref (G.2.1 0)), (3, .int (nI x))]) (K : ∀ (M1 N1 : Mem) (H1 : Heap) (locs1 : List Loc), ST G M1 N1 s H1 locs1 → Rel M1 N1 → W p l e room_1 s m #[.ref b] below meth c H1 locs1 600000 7302250 Q (F0 m 1272 ls [])) : W p l e room_1 s m #[.ref b] below meth c H locs 600000 7302250 Q (F0 m 566 ls []) := by
  have F := C.1
  have hx := F.1
  have hb := F.2.1
  have hown := F.2.2.2.2.1
  have hts := F.2.2.2.2.2.1
  obtain ⟨r, M1, N1, e1, e2, hR1⟩ := op_go hR ((xs (x + 1))) ((xs (x + 2)))
  refine lv_aload_n (pc := 566) hx hb dL_law_566 rfl (lv_at hl 1 rfl) ?_
  refine law_ld (pc := 567) (k := 1) (kf := 1) (lv := []) C S hl (by omega) rfl dL_law_567 dL_law_568 dL_law_569 (by decide) dL_law_570 dL_law_571 ?_
  refine law_ld (pc := 572) (k := 2) (kf := 2) (lv := []) C S hl (by omega) rfl dL_law_572 dL_law_573 dL_law_574 (by decide) dL_law_575 dL_law_576 ?_
  refine gc_vI (pc := 577) (i := 10) (ci := 11) (na := 2) (av := [.int (xs (x + 1)), .int (xs (x + 2))]) (rest := []) F S (tX11_go e1) mfX11_go rfl (by decide) cl11 w566 ⟨Nat.le_of_ble_eq_true rfl, Nat.le_of_ble_eq_true rfl⟩ ⟨Nat.le_of_ble_eq_true rfl, Nat.le_of_ble_eq_true rfl⟩ rfl hl.1 rfl (Nat.le_of_ble_eq_true rfl) dL_law_577 (fun H locs S => ?_)
  refine lv_aload_n (pc := 580) hx hb dL_law_580 rfl (lv_at hl 2 rfl) ?_
  refine law_ld (pc := 581) (k := 1) (kf := 1) (lv := []) C S hl (by omega) rfl dL_law_581 dL_law_582 dL_law_583 (by decide) dL_law_584 dL_law_585 ?_
  refine law_ld (pc := 586) (k := 2) (kf := 2) (lv := []) C S hl (by omega) rfl dL_law_586 dL_law_587 dL_law_588 (by decide) dL_law_589 dL_law_590 ?_
  refine gc_vI (pc := 591) (i := 0) (ci := 12) (na := 2) (av := [.int (xs (x + 1)), .int (xs (x + 2))]) (rest := [.int r]) F S (tX12_go e2) mfX12_go rfl (by decide) cl12 w1058 ⟨Nat.le_of_ble_eq_true rfl, Nat.le_of_ble_eq_true rfl⟩ ⟨Nat.le_of_ble_eq_true rfl, Nat.le_of_ble_eq_true rfl⟩ rfl hl.1 rfl (Nat.le_of_ble_eq_true rfl) dL_law_591 (fun H locs S => ?_)
  exact lv_icmp_eq (pc := 594) (tgt := 1272) hx hb dL_law_594 (by decide) (fun _ => K M1 N1 H locs S hR1) (fun c1 => absurd rfl c1)
set_option maxHeartbeats 4000000 in
theorem lc_reset {p : Program} {l : Launch} {e : Env} {s : State} {m : MethodId} {below : List Frame} {meth : Method} {c : Code} {H : Heap} {locs : List Loc} {Q : State → Prop} {ls : Array Slot} {G : GD} {M N : Mem} {b L x : Nat} {xs : Nat → Int32} (C : LC p s m meth c G b L xs x) (S : ST G M N s H locs) (hR : Rel M N) (hl : lv_has ls 4 [(0, .ref b), (1, .ref (G.2.1 10)), (2, .ref (G.2.1 0)), (3, .int (nI x))]) (K : ∀ (M1 N1 : Mem) (H1 : Heap) (locs1 : List Loc), ST G M1 N1 s H1 locs1 → Rel M1 N1 → W p l e room_1 s m #[.ref b] below meth c H1 locs1 600000 7302250 Q (F0 m 1272 ls [])) : W p l e room_1 s m #[.ref b] below meth c H locs 600000 7302250 Q (F0 m 599 ls []) := by
  have F := C.1
  have hx := F.1
  have hb := F.2.1
  have hown := F.2.2.2.2.1
  have hts := F.2.2.2.2.2.1
  obtain ⟨r, M1, N1, e1, e2, hR1⟩ := op_reset hR ((xs (x + 1)))
  refine lv_aload_n (pc := 599) hx hb dL_law_599 rfl (lv_at hl 1 rfl) ?_
  refine law_ld (pc := 600) (k := 1) (kf := 1) (lv := []) C S hl (by omega) rfl dL_law_600 dL_law_601 dL_law_602 (by decide) dL_law_603 dL_law_604 ?_
  refine gc_vI (pc := 605) (i := 10) (ci := 11) (na := 1) (av := [.int (xs (x + 1))]) (rest := []) F S (tX11_reset e1) mfX11_reset rfl (by decide) cl11 w579 ⟨Nat.le_of_ble_eq_true rfl, Nat.le_of_ble_eq_true rfl⟩ ⟨Nat.le_of_ble_eq_true rfl, Nat.le_of_ble_eq_true rfl⟩ rfl hl.1 rfl (Nat.le_of_ble_eq_true rfl) dL_law_605 (fun H locs S => ?_)
  refine lv_aload_n (pc := 608) hx hb dL_law_608 rfl (lv_at hl 2 rfl) ?_
  refine law_ld (pc := 609) (k := 1) (kf := 1) (lv := []) C S hl (by omega) rfl dL_law_609 dL_law_610 dL_law_611 (by decide) dL_law_612 dL_law_613 ?_
  refine gc_vI (pc := 614) (i := 0) (ci := 12) (na := 1) (av := [.int (xs (x + 1))]) (rest := [.int r]) F S (tX12_reset e2) mfX12_reset rfl (by decide) cl12 w1070 ⟨Nat.le_of_ble_eq_true rfl, Nat.le_of_ble_eq_true rfl⟩ ⟨Nat.le_of_ble_eq_true rfl, Nat.le_of_ble_eq_true rfl⟩ rfl hl.1 rfl (Nat.le_of_ble_eq_true rfl) dL_law_614 (fun H locs S => ?_)
  exact lv_icmp_eq (pc := 617) (tgt := 1272) hx hb dL_law_617 (by decide) (fun _ => K M1 N1 H locs S hR1) (fun c1 => absurd rfl c1)
set_option maxHeartbeats 4000000 in
theorem lc_tick {p : Program} {l : Launch} {e : Env} {s : State} {m : MethodId} {below : List Frame} {meth : Method} {c : Code} {H : Heap} {locs : List Loc} {Q : State → Prop} {ls : Array Slot} {G : GD} {M N : Mem} {b L x : Nat} {xs : Nat → Int32} (C : LC p s m meth c G b L xs x) (S : ST G M N s H locs) (hR : Rel M N) (hl : lv_has ls 4 [(0, .ref b), (1, .ref (G.2.1 10)), (2, .ref (G.2.1 0)), (3, .int (nI x))]) (K : ∀ (M1 N1 : Mem) (H1 : Heap) (locs1 : List Loc), ST G M1 N1 s H1 locs1 → Rel M1 N1 → W p l e room_1 s m #[.ref b] below meth c H1 locs1 600000 7302250 Q (F0 m 1272 ls [])) : W p l e room_1 s m #[.ref b] below meth c H locs 600000 7302250 Q (F0 m 622 ls []) := by
  have F := C.1
  have hx := F.1
  have hb := F.2.1
  have hown := F.2.2.2.2.1
  have hts := F.2.2.2.2.2.1
  obtain ⟨r, M1, N1, e1, e2, hR1⟩ := op_tick hR ((xs (x + 1)))
  refine lv_aload_n (pc := 622) hx hb dL_law_622 rfl (lv_at hl 1 rfl) ?_
  refine law_ld (pc := 623) (k := 1) (kf := 1) (lv := []) C S hl (by omega) rfl dL_law_623 dL_law_624 dL_law_625 (by decide) dL_law_626 dL_law_627 ?_
  refine gc_vI (pc := 628) (i := 10) (ci := 11) (na := 1) (av := [.int (xs (x + 1))]) (rest := []) F S (tX11_tick e1) mfX11_tick rfl (by decide) cl11 w593 ⟨Nat.le_of_ble_eq_true rfl, Nat.le_of_ble_eq_true rfl⟩ ⟨Nat.le_of_ble_eq_true rfl, Nat.le_of_ble_eq_true rfl⟩ rfl hl.1 rfl (Nat.le_of_ble_eq_true rfl) dL_law_628 (fun H locs S => ?_)
  refine lv_aload_n (pc := 631) hx hb dL_law_631 rfl (lv_at hl 2 rfl) ?_
  refine law_ld (pc := 632) (k := 1) (kf := 1) (lv := []) C S hl (by omega) rfl dL_law_632 dL_law_633 dL_law_634 (by decide) dL_law_635 dL_law_636 ?_
  refine gc_vI (pc := 637) (i := 0) (ci := 12) (na := 1) (av := [.int (xs (x + 1))]) (rest := [.int r]) F S (tX12_tick e2) mfX12_tick rfl (by decide) cl12 w1078 ⟨Nat.le_of_ble_eq_true rfl, Nat.le_of_ble_eq_true rfl⟩ ⟨Nat.le_of_ble_eq_true rfl, Nat.le_of_ble_eq_true rfl⟩ rfl hl.1 rfl (Nat.le_of_ble_eq_true rfl) dL_law_637 (fun H locs S => ?_)
  exact lv_icmp_eq (pc := 640) (tgt := 1272) hx hb dL_law_640 (by decide) (fun _ => K M1 N1 H locs S hR1) (fun c1 => absurd rfl c1)
set_option maxHeartbeats 4000000 in
theorem lc_carryOut {p : Program} {l : Launch} {e : Env} {s : State} {m : MethodId} {below : List Frame} {meth : Method} {c : Code} {H : Heap} {locs : List Loc} {Q : State → Prop} {ls : Array Slot} {G : GD} {M N : Mem} {b L x : Nat} {xs : Nat → Int32} (C : LC p s m meth c G b L xs x) (S : ST G M N s H locs) (hR : Rel M N) (hl : lv_has ls 4 [(0, .ref b), (1, .ref (G.2.1 10)), (2, .ref (G.2.1 0)), (3, .int (nI x))]) (K : ∀ (M1 N1 : Mem) (H1 : Heap) (locs1 : List Loc), ST G M1 N1 s H1 locs1 → Rel M1 N1 → W p l e room_1 s m #[.ref b] below meth c H1 locs1 600000 7302250 Q (F0 m 1272 ls [])) : W p l e room_1 s m #[.ref b] below meth c H locs 600000 7302250 Q (F0 m 645 ls []) := by
  have F := C.1
  have hx := F.1
  have hb := F.2.1
  have hown := F.2.2.2.2.1
  have hts := F.2.2.2.2.2.1
  obtain ⟨r, M1, N1, e1, e2, hR1⟩ := op_carryOut hR ((xs (x + 1)))
  refine lv_aload_n (pc := 645) hx hb dL_law_645 rfl (lv_at hl 1 rfl) ?_
  refine law_ld (pc := 646) (k := 1) (kf := 1) (lv := []) C S hl (by omega) rfl dL_law_646 dL_law_647 dL_law_648 (by decide) dL_law_649 dL_law_650 ?_
  refine gc_vI (pc := 651) (i := 10) (ci := 11) (na := 1) (av := [.int (xs (x + 1))]) (rest := []) F S (tX11_carryOut e1) mfX11_carryOut rfl (by decide) cl11 w628 ⟨Nat.le_of_ble_eq_true rfl, Nat.le_of_ble_eq_true rfl⟩ ⟨Nat.le_of_ble_eq_true rfl, Nat.le_of_ble_eq_true rfl⟩ rfl hl.1 rfl (Nat.le_of_ble_eq_true rfl) dL_law_651 (fun H locs S => ?_)
  refine lv_aload_n (pc := 654) hx hb dL_law_654 rfl (lv_at hl 2 rfl) ?_
  refine law_ld (pc := 655) (k := 1) (kf := 1) (lv := []) C S hl (by omega) rfl dL_law_655 dL_law_656 dL_law_657 (by decide) dL_law_658 dL_law_659 ?_
  refine gc_vI (pc := 660) (i := 0) (ci := 12) (na := 1) (av := [.int (xs (x + 1))]) (rest := [.int r]) F S (tX12_carryOut e2) mfX12_carryOut rfl (by decide) cl12 w1143 ⟨Nat.le_of_ble_eq_true rfl, Nat.le_of_ble_eq_true rfl⟩ ⟨Nat.le_of_ble_eq_true rfl, Nat.le_of_ble_eq_true rfl⟩ rfl hl.1 rfl (Nat.le_of_ble_eq_true rfl) dL_law_660 (fun H locs S => ?_)
  exact lv_icmp_eq (pc := 663) (tgt := 1272) hx hb dL_law_663 (by decide) (fun _ => K M1 N1 H locs S hR1) (fun c1 => absurd rfl c1)
set_option maxHeartbeats 4000000 in
theorem lc_lamp {p : Program} {l : Launch} {e : Env} {s : State} {m : MethodId} {below : List Frame} {meth : Method} {c : Code} {H : Heap} {locs : List Loc} {Q : State → Prop} {ls : Array Slot} {G : GD} {M N : Mem} {b L x : Nat} {xs : Nat → Int32} (C : LC p s m meth c G b L xs x) (S : ST G M N s H locs) (hR : Rel M N) (hl : lv_has ls 4 [(0, .ref b), (1, .ref (G.2.1 10)), (2, .ref (G.2.1 0)), (3, .int (nI x))]) (K : ∀ (M1 N1 : Mem) (H1 : Heap) (locs1 : List Loc), ST G M1 N1 s H1 locs1 → Rel M1 N1 → W p l e room_1 s m #[.ref b] below meth c H1 locs1 600000 7302250 Q (F0 m 1272 ls [])) : W p l e room_1 s m #[.ref b] below meth c H locs 600000 7302250 Q (F0 m 668 ls []) := by
  have F := C.1
  have hx := F.1
  have hb := F.2.1
  have hown := F.2.2.2.2.1
  have hts := F.2.2.2.2.2.1
  obtain ⟨r, e1, e2⟩ := op_lamp hR ((xs (x + 1))) ((xs (x + 2))) ((xs (x + 3)))
  refine lv_aload_n (pc := 668) hx hb dL_law_668 rfl (lv_at hl 1 rfl) ?_
  refine law_ld (pc := 669) (k := 1) (kf := 1) (lv := []) C S hl (by omega) rfl dL_law_669 dL_law_670 dL_law_671 (by decide) dL_law_672 dL_law_673 ?_
  refine law_ld (pc := 674) (k := 2) (kf := 2) (lv := []) C S hl (by omega) rfl dL_law_674 dL_law_675 dL_law_676 (by decide) dL_law_677 dL_law_678 ?_
  refine law_ld (pc := 679) (k := 3) (kf := 3) (lv := []) C S hl (by omega) rfl dL_law_679 dL_law_680 dL_law_681 (by decide) dL_law_682 dL_law_683 ?_
  refine gc_vI (pc := 684) (i := 10) (ci := 11) (na := 3) (av := [.int (xs (x + 1)), .int (xs (x + 2)), .int (xs (x + 3))]) (rest := []) F S (tX11_lamp e1) mfX11_lamp rfl (by decide) cl11 w704 ⟨Nat.le_of_ble_eq_true rfl, Nat.le_of_ble_eq_true rfl⟩ ⟨Nat.le_of_ble_eq_true rfl, Nat.le_of_ble_eq_true rfl⟩ rfl hl.1 rfl (Nat.le_of_ble_eq_true rfl) dL_law_684 (fun H locs S => ?_)
  refine lv_aload_n (pc := 687) hx hb dL_law_687 rfl (lv_at hl 2 rfl) ?_
  refine law_ld (pc := 688) (k := 1) (kf := 1) (lv := []) C S hl (by omega) rfl dL_law_688 dL_law_689 dL_law_690 (by decide) dL_law_691 dL_law_692 ?_
  refine law_ld (pc := 693) (k := 2) (kf := 2) (lv := []) C S hl (by omega) rfl dL_law_693 dL_law_694 dL_law_695 (by decide) dL_law_696 dL_law_697 ?_
  refine law_ld (pc := 698) (k := 3) (kf := 3) (lv := []) C S hl (by omega) rfl dL_law_698 dL_law_699 dL_law_700 (by decide) dL_law_701 dL_law_702 ?_
  refine gc_vI (pc := 703) (i := 0) (ci := 12) (na := 3) (av := [.int (xs (x + 1)), .int (xs (x + 2)), .int (xs (x + 3))]) (rest := [.int r]) F S (tX12_lamp e2) mfX12_lamp rfl (by decide) cl12 w1147 ⟨Nat.le_of_ble_eq_true rfl, Nat.le_of_ble_eq_true rfl⟩ ⟨Nat.le_of_ble_eq_true rfl, Nat.le_of_ble_eq_true rfl⟩ rfl hl.1 rfl (Nat.le_of_ble_eq_true rfl) dL_law_703 (fun H locs S => ?_)
  exact lv_icmp_eq (pc := 706) (tgt := 1272) hx hb dL_law_706 (by decide) (fun _ => K M N H locs S hR) (fun c1 => absurd rfl c1)
set_option maxHeartbeats 4000000 in
theorem lc_dimmer {p : Program} {l : Launch} {e : Env} {s : State} {m : MethodId} {below : List Frame} {meth : Method} {c : Code} {H : Heap} {locs : List Loc} {Q : State → Prop} {ls : Array Slot} {G : GD} {M N : Mem} {b L x : Nat} {xs : Nat → Int32} (C : LC p s m meth c G b L xs x) (S : ST G M N s H locs) (hR : Rel M N) (hl : lv_has ls 4 [(0, .ref b), (1, .ref (G.2.1 10)), (2, .ref (G.2.1 0)), (3, .int (nI x))]) (K : ∀ (M1 N1 : Mem) (H1 : Heap) (locs1 : List Loc), ST G M1 N1 s H1 locs1 → Rel M1 N1 → W p l e room_1 s m #[.ref b] below meth c H1 locs1 600000 7302250 Q (F0 m 1272 ls [])) : W p l e room_1 s m #[.ref b] below meth c H locs 600000 7302250 Q (F0 m 711 ls []) := by
  have F := C.1
  have hx := F.1
  have hb := F.2.1
  have hown := F.2.2.2.2.1
  have hts := F.2.2.2.2.2.1
  obtain ⟨r, M1, e1, e2, hR1⟩ := op_dimmer hR ((xs (x + 1))) ((xs (x + 2))) ((xs (x + 3)))
  refine lv_aload_n (pc := 711) hx hb dL_law_711 rfl (lv_at hl 1 rfl) ?_
  refine law_ld (pc := 712) (k := 1) (kf := 1) (lv := []) C S hl (by omega) rfl dL_law_712 dL_law_713 dL_law_714 (by decide) dL_law_715 dL_law_716 ?_
  refine law_ld (pc := 717) (k := 2) (kf := 2) (lv := []) C S hl (by omega) rfl dL_law_717 dL_law_718 dL_law_719 (by decide) dL_law_720 dL_law_721 ?_
  refine law_ld (pc := 722) (k := 3) (kf := 3) (lv := []) C S hl (by omega) rfl dL_law_722 dL_law_723 dL_law_724 (by decide) dL_law_725 dL_law_726 ?_
  refine gc_vI (pc := 727) (i := 10) (ci := 11) (na := 3) (av := [.int (xs (x + 1)), .int (xs (x + 2)), .int (xs (x + 3))]) (rest := []) F S (tX11_dimmer e1) mfX11_dimmer rfl (by decide) cl11 w709 ⟨Nat.le_of_ble_eq_true rfl, Nat.le_of_ble_eq_true rfl⟩ ⟨Nat.le_of_ble_eq_true rfl, Nat.le_of_ble_eq_true rfl⟩ rfl hl.1 rfl (Nat.le_of_ble_eq_true rfl) dL_law_727 (fun H locs S => ?_)
  refine lv_aload_n (pc := 730) hx hb dL_law_730 rfl (lv_at hl 2 rfl) ?_
  refine law_ld (pc := 731) (k := 1) (kf := 1) (lv := []) C S hl (by omega) rfl dL_law_731 dL_law_732 dL_law_733 (by decide) dL_law_734 dL_law_735 ?_
  refine law_ld (pc := 736) (k := 2) (kf := 2) (lv := []) C S hl (by omega) rfl dL_law_736 dL_law_737 dL_law_738 (by decide) dL_law_739 dL_law_740 ?_
  refine law_ld (pc := 741) (k := 3) (kf := 3) (lv := []) C S hl (by omega) rfl dL_law_741 dL_law_742 dL_law_743 (by decide) dL_law_744 dL_law_745 ?_
  refine gc_vI (pc := 746) (i := 0) (ci := 12) (na := 3) (av := [.int (xs (x + 1)), .int (xs (x + 2)), .int (xs (x + 3))]) (rest := [.int r]) F S (tX12_dimmer e2) mfX12_dimmer rfl (by decide) cl12 w1151 ⟨Nat.le_of_ble_eq_true rfl, Nat.le_of_ble_eq_true rfl⟩ ⟨Nat.le_of_ble_eq_true rfl, Nat.le_of_ble_eq_true rfl⟩ rfl hl.1 rfl (Nat.le_of_ble_eq_true rfl) dL_law_746 (fun H locs S => ?_)
  exact lv_icmp_eq (pc := 749) (tgt := 1272) hx hb dL_law_749 (by decide) (fun _ => K M1 N H locs S hR1) (fun c1 => absurd rfl c1)
