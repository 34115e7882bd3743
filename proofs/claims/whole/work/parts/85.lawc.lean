section LAW
variable {p : Program} {l : Launch} {e : Env} {s : State} {m : MethodId} {args : Array Value} {below : List Frame} {meth : Method} {c : Code} {H : Heap} {locs : List Loc} {cells slots : Nat} {Q : State → Prop}
variable {ls : Array Slot} {G : va_G} {ad1 ad2 : Nat → Nat} {CA : Nat → ClassId} {M S : Mem} {b L : Nat} {xs : Nat → Int32}
set_option maxRecDepth 100000
set_option maxHeartbeats 4000000
theorem law_feed (C : LC p s m args c b L xs) (hT : Tw G CA ad1 ad2 s M S H locs) (h : RR M S) (hc : cells ≤ room_1.cells ∧ slots ≤ room_1.slots) {i : Int} (hi : 0 ≤ i ∧ i + 5 ≤ L) (hl : lv_has ls 4 [(3, .int (iN i)), (2, .ref (ad2 0)), (1, .ref (ad1 0)), (0, .ref b)])
    (kk : ∀ (M' S' : Mem) (H1 : Heap) (locs1 : List Loc), Tw G CA ad1 ad2 s M' S' H1 locs1 → RR M' S' → W p l e room_1 s m args below meth c H1 locs1 cells slots Q (F0 m 1409 ls [])) : W p l e room_1 s m args below meth c H locs cells slots Q (F0 m 204 ls []) := by
  obtain ⟨hx, hb, hml, hts, hown, hX, hbl, hL⟩ := id C
  refine lv_aload_n hx hb dL_law_204 rfl (lv_at hl 2 rfl) ?_
  refine law_ld C hT.1.S (lv := [(2, .ref (ad2 0)), (1, .ref (ad1 0))]) hl (k := 1) hi (by omega) dL_law_205 dL_law_206 dL_law_207 dL_law_208 dL_law_209 ?_
  refine lv_i2l hx hb dL_law_210 rfl ?_
  refine rw_bipush hx hb dL_law_211 (by decide) ?_
  refine lv_lshl hx hb dL_law_213 rfl ?_
  refine law_ld C hT.1.S (lv := [(2, .ref (ad2 0)), (1, .ref (ad1 0))]) hl (k := 2) hi (by omega) dL_law_214 dL_law_215 dL_law_216 dL_law_217 dL_law_218 ?_
  refine lv_i2l hx hb dL_law_219 rfl ?_
  refine lv_ldc2 hx hb hown (hts _ (wm_1 _ (List.mem_of_getElem? (i := 6) rfl))) dL_law_220 ?_
  refine lv_land hx hb dL_law_223 ?_
  refine lv_lor hx hb dL_law_224 ?_
  refine law_call1 C hT hc [.long _] rfl (c_X10_feed (by decide) _ M h.KI) kL_15 rfl ⟨Nat.le_of_ble_eq_true rfl, Nat.le_of_ble_eq_true rfl⟩ hl.1 rfl (Nat.le_of_ble_eq_true rfl) dL_law_225 (fun v1 M1 H1 locs1 hp1 hT1 => ?_)
  obtain ⟨a1, ea1, -⟩ := id hp1
  subst ea1
  refine rw_stk (st' := [.int (iN a1)]) rfl ?_
  refine lv_aload_n hx hb dL_law_228 rfl (lv_at hl 1 rfl) ?_
  refine law_ld C hT1.1.S (lv := [(2, .ref (ad2 0)), (1, .ref (ad1 0))]) hl (k := 1) hi (by omega) dL_law_229 dL_law_230 dL_law_231 dL_law_232 dL_law_233 ?_
  refine lv_i2l hx hb dL_law_234 rfl ?_
  refine rw_bipush hx hb dL_law_235 (by decide) ?_
  refine lv_lshl hx hb dL_law_237 rfl ?_
  refine law_ld C hT1.1.S (lv := [(2, .ref (ad2 0)), (1, .ref (ad1 0))]) hl (k := 2) hi (by omega) dL_law_238 dL_law_239 dL_law_240 dL_law_241 dL_law_242 ?_
  refine lv_i2l hx hb dL_law_243 rfl ?_
  refine lv_ldc2 hx hb hown (hts _ (wm_1 _ (List.mem_of_getElem? (i := 6) rfl))) dL_law_244 ?_
  refine lv_land hx hb dL_law_247 ?_
  refine lv_lor hx hb dL_law_248 ?_
  refine law_call2 C hT1 hc [.long _] rfl (c_X11_feed (by decide) _ S h.2.2.2.1.2.1) kL_19 rfl ⟨Nat.le_of_ble_eq_true rfl, Nat.le_of_ble_eq_true rfl⟩ hl.1 rfl (Nat.le_of_ble_eq_true rfl) dL_law_249 (fun v2 S1 H2 locs2 hp2 hT2 => ?_)
  obtain ⟨ev, hr⟩ := ag_feed h _ _ _ _ _ hp1 hp2
  subst ev
  refine rw_stk (st' := [.int (iN a1), .int (iN a1)]) rfl ?_
  exact lv_icmp_eq (tgt := 1409) hx hb dL_law_252 (by decide) (fun _ => kk _ _ _ _ hT2 hr) (fun c9 => absurd rfl c9)
theorem law_end (C : LC p s m args c b L xs) (hT : Tw G CA ad1 ad2 s M S H locs) (h : RR M S) (hc : cells ≤ room_1.cells ∧ slots ≤ room_1.slots) {i : Int} (hi : 0 ≤ i ∧ i + 5 ≤ L) (hl : lv_has ls 4 [(3, .int (iN i)), (2, .ref (ad2 0)), (1, .ref (ad1 0)), (0, .ref b)])
    (kk : ∀ (M' S' : Mem) (H1 : Heap) (locs1 : List Loc), Tw G CA ad1 ad2 s M' S' H1 locs1 → RR M' S' → W p l e room_1 s m args below meth c H1 locs1 cells slots Q (F0 m 1409 ls [])) : W p l e room_1 s m args below meth c H locs cells slots Q (F0 m 257 ls []) := by
  obtain ⟨hx, hb, hml, hts, hown, hX, hbl, hL⟩ := id C
  obtain ⟨x1, hx1, e1⟩ := iN_of (xs (i + 1).toNat)
  refine lv_aload_n hx hb dL_law_257 rfl (lv_at hl 2 rfl) ?_
  refine law_ld C hT.1.S (lv := [(2, .ref (ad2 0)), (1, .ref (ad1 0))]) hl (k := 1) hi (by omega) dL_law_258 dL_law_259 dL_law_260 dL_law_261 dL_law_262 ?_
  rw [e1]
  refine law_call1 C hT hc [.int (iN x1)] rfl (c_X10_end (by decide) x1 hx1 M h.KI) kL_20 rfl ⟨Nat.le_of_ble_eq_true rfl, Nat.le_of_ble_eq_true rfl⟩ hl.1 rfl (Nat.le_of_ble_eq_true rfl) dL_law_263 (fun v1 M1 H1 locs1 hp1 hT1 => ?_)
  obtain ⟨a1, ea1, -⟩ := id hp1
  subst ea1
  refine rw_stk (st' := [.int (iN a1)]) rfl ?_
  refine lv_aload_n hx hb dL_law_266 rfl (lv_at hl 1 rfl) ?_
  refine law_ld C hT1.1.S (lv := [(2, .ref (ad2 0)), (1, .ref (ad1 0))]) hl (k := 1) hi (by omega) dL_law_267 dL_law_268 dL_law_269 dL_law_270 dL_law_271 ?_
  rw [e1]
  refine law_call2 C hT1 hc [.int (iN x1)] rfl (c_X11_end (by decide) x1 hx1 S h.2.2.2.1.2.1) kL_24 rfl ⟨Nat.le_of_ble_eq_true rfl, Nat.le_of_ble_eq_true rfl⟩ hl.1 rfl (Nat.le_of_ble_eq_true rfl) dL_law_272 (fun v2 S1 H2 locs2 hp2 hT2 => ?_)
  obtain ⟨ev, hr⟩ := ag_end h x1 _ _ _ _ hp1 hp2
  subst ev
  refine rw_stk (st' := [.int (iN a1), .int (iN a1)]) rfl ?_
  exact lv_icmp_eq (tgt := 1409) hx hb dL_law_275 (by decide) (fun _ => kk _ _ _ _ hT2 hr) (fun c9 => absurd rfl c9)
theorem law_text (C : LC p s m args c b L xs) {adK adV : Nat → Nat} (hE : SEL adK adV s) (hT : Tw G CA ad1 ad2 s M S H locs) (h : RR M S) (hc : cells ≤ room_1.cells ∧ slots ≤ room_1.slots) {i : Int} (hi : 0 ≤ i ∧ i + 5 ≤ L) (hl : lv_has ls 4 [(3, .int (iN i)), (2, .ref (ad2 0)), (1, .ref (ad1 0)), (0, .ref b)])
    (kk : ∀ (M' S' : Mem) (H1 : Heap) (locs1 : List Loc), Tw G CA ad1 ad2 s M' S' H1 locs1 → RR M' S' → W p l e room_1 s m args below meth c H1 locs1 cells slots Q (F0 m 1409 ls [])) : W p l e room_1 s m args below meth c H locs cells slots Q (F0 m 280 ls []) := by
  obtain ⟨hx, hb, hml, hts, hown, hX, hbl, hL⟩ := id C
  refine lv_aload_n hx hb dL_law_280 rfl (lv_at hl 2 rfl) ?_
  refine law_callE C hE hT hc [] rfl (c_X10_text (by decide) M (by rw [h.2.2.2.1.1]; exact h.2.2.2.1.2.1)) kL_25 rfl ⟨Nat.le_of_ble_eq_true rfl, Nat.le_of_ble_eq_true rfl⟩ hl.1 rfl (Nat.le_of_ble_eq_true rfl) dL_law_281 (fun v1 M1 H1 locs1 hp1 hT1 => ?_)
  obtain ⟨a1, ea1, -⟩ := id hp1
  subst ea1
  refine rw_stk (st' := [.int (iN a1)]) rfl ?_
  refine lv_aload_n hx hb dL_law_284 rfl (lv_at hl 1 rfl) ?_
  refine law_call2 C hT1 hc [] rfl (c_X11_text (by decide) S h.2.2.2.1.2.1 h.tapeB h.2.2.2.2.2.2.1 h.2.2.2.2.2.2.2) kL_29 rfl ⟨Nat.le_of_ble_eq_true rfl, Nat.le_of_ble_eq_true rfl⟩ hl.1 rfl (Nat.le_of_ble_eq_true rfl) dL_law_285 (fun v2 S1 H2 locs2 hp2 hT2 => ?_)
  obtain ⟨ev, hr⟩ := ag_text h  _ _ _ _ hp1 hp2
  subst ev
  refine rw_stk (st' := [.int (iN a1), .int (iN a1)]) rfl ?_
  exact lv_icmp_eq (tgt := 1409) hx hb dL_law_288 (by decide) (fun _ => kk _ _ _ _ hT2 hr) (fun c9 => absurd rfl c9)
theorem law_fault (C : LC p s m args c b L xs) (hT : Tw G CA ad1 ad2 s M S H locs) (h : RR M S) (hc : cells ≤ room_1.cells ∧ slots ≤ room_1.slots) {i : Int} (hi : 0 ≤ i ∧ i + 5 ≤ L) (hl : lv_has ls 4 [(3, .int (iN i)), (2, .ref (ad2 0)), (1, .ref (ad1 0)), (0, .ref b)])
    (kk : ∀ (M' S' : Mem) (H1 : Heap) (locs1 : List Loc), Tw G CA ad1 ad2 s M' S' H1 locs1 → RR M' S' → W p l e room_1 s m args below meth c H1 locs1 cells slots Q (F0 m 1409 ls [])) : W p l e room_1 s m args below meth c H locs cells slots Q (F0 m 293 ls []) := by
  obtain ⟨hx, hb, hml, hts, hown, hX, hbl, hL⟩ := id C
  refine lv_aload_n hx hb dL_law_293 rfl (lv_at hl 2 rfl) ?_
  refine law_call1 C hT hc [] rfl (c_X10_fault (by decide) M) kL_30 rfl ⟨Nat.le_of_ble_eq_true rfl, Nat.le_of_ble_eq_true rfl⟩ hl.1 rfl (Nat.le_of_ble_eq_true rfl) dL_law_294 (fun v1 M1 H1 locs1 hp1 hT1 => ?_)
  obtain ⟨a1, ea1, -⟩ := id hp1
  subst ea1
  refine rw_stk (st' := [.int (iN a1)]) rfl ?_
  refine lv_aload_n hx hb dL_law_297 rfl (lv_at hl 1 rfl) ?_
  refine law_call2 C hT1 hc [] rfl (c_X11_fault (by decide) S) kL_33 rfl ⟨Nat.le_of_ble_eq_true rfl, Nat.le_of_ble_eq_true rfl⟩ hl.1 rfl (Nat.le_of_ble_eq_true rfl) dL_law_298 (fun v2 S1 H2 locs2 hp2 hT2 => ?_)
  obtain ⟨ev, hr⟩ := ag_fault h  _ _ _ _ hp1 hp2
  subst ev
  refine rw_stk (st' := [.int (iN a1), .int (iN a1)]) rfl ?_
  exact lv_icmp_eq (tgt := 1409) hx hb dL_law_301 (by decide) (fun _ => kk _ _ _ _ hT2 hr) (fun c9 => absurd rfl c9)
theorem law_rule (C : LC p s m args c b L xs) (hT : Tw G CA ad1 ad2 s M S H locs) (h : RR M S) (hc : cells ≤ room_1.cells ∧ slots ≤ room_1.slots) {i : Int} (hi : 0 ≤ i ∧ i + 5 ≤ L) (hl : lv_has ls 4 [(3, .int (iN i)), (2, .ref (ad2 0)), (1, .ref (ad1 0)), (0, .ref b)])
    (kk : ∀ (M' S' : Mem) (H1 : Heap) (locs1 : List Loc), Tw G CA ad1 ad2 s M' S' H1 locs1 → RR M' S' → W p l e room_1 s m args below meth c H1 locs1 cells slots Q (F0 m 1409 ls [])) : W p l e room_1 s m args below meth c H locs cells slots Q (F0 m 306 ls []) := by
  obtain ⟨hx, hb, hml, hts, hown, hX, hbl, hL⟩ := id C
  obtain ⟨x1, hx1, e1⟩ := iN_of (xs (i + 1).toNat)
  refine lv_aload_n hx hb dL_law_306 rfl (lv_at hl 2 rfl) ?_
  refine law_ld C hT.1.S (lv := [(2, .ref (ad2 0)), (1, .ref (ad1 0))]) hl (k := 1) hi (by omega) dL_law_307 dL_law_308 dL_law_309 dL_law_310 dL_law_311 ?_
  rw [e1]
  refine law_call1 C hT hc [.int (iN x1)] rfl (c_X10_rule (by decide) x1 hx1 M) kL_34 rfl ⟨Nat.le_of_ble_eq_true rfl, Nat.le_of_ble_eq_true rfl⟩ hl.1 rfl (Nat.le_of_ble_eq_true rfl) dL_law_312 (fun v1 M1 H1 locs1 hp1 hT1 => ?_)
  obtain ⟨a1, ea1, -⟩ := id hp1
  subst ea1
  refine rw_stk (st' := [.int (iN a1)]) rfl ?_
  refine lv_aload_n hx hb dL_law_315 rfl (lv_at hl 1 rfl) ?_
  refine law_ld C hT1.1.S (lv := [(2, .ref (ad2 0)), (1, .ref (ad1 0))]) hl (k := 1) hi (by omega) dL_law_316 dL_law_317 dL_law_318 dL_law_319 dL_law_320 ?_
  rw [e1]
  refine law_call2 C hT1 hc [.int (iN x1)] rfl (c_X11_rule (by decide) x1 hx1 S) kL_37 rfl ⟨Nat.le_of_ble_eq_true rfl, Nat.le_of_ble_eq_true rfl⟩ hl.1 rfl (Nat.le_of_ble_eq_true rfl) dL_law_321 (fun v2 S1 H2 locs2 hp2 hT2 => ?_)
  obtain ⟨ev, hr⟩ := ag_rule h x1 _ _ _ _ hp1 hp2
  subst ev
  refine rw_stk (st' := [.int (iN a1), .int (iN a1)]) rfl ?_
  exact lv_icmp_eq (tgt := 1409) hx hb dL_law_324 (by decide) (fun _ => kk _ _ _ _ hT2 hr) (fun c9 => absurd rfl c9)
theorem law_cell (C : LC p s m args c b L xs) (hT : Tw G CA ad1 ad2 s M S H locs) (h : RR M S) (hc : cells ≤ room_1.cells ∧ slots ≤ room_1.slots) {i : Int} (hi : 0 ≤ i ∧ i + 5 ≤ L) (hl : lv_has ls 4 [(3, .int (iN i)), (2, .ref (ad2 0)), (1, .ref (ad1 0)), (0, .ref b)])
    (kk : ∀ (M' S' : Mem) (H1 : Heap) (locs1 : List Loc), Tw G CA ad1 ad2 s M' S' H1 locs1 → RR M' S' → W p l e room_1 s m args below meth c H1 locs1 cells slots Q (F0 m 1409 ls [])) : W p l e room_1 s m args below meth c H locs cells slots Q (F0 m 329 ls []) := by
  obtain ⟨hx, hb, hml, hts, hown, hX, hbl, hL⟩ := id C
  obtain ⟨x1, hx1, e1⟩ := iN_of (xs (i + 1).toNat)
  obtain ⟨x2, hx2, e2⟩ := iN_of (xs (i + 2).toNat)
  refine lv_aload_n hx hb dL_law_329 rfl (lv_at hl 2 rfl) ?_
  refine law_ld C hT.1.S (lv := [(2, .ref (ad2 0)), (1, .ref (ad1 0))]) hl (k := 1) hi (by omega) dL_law_330 dL_law_331 dL_law_332 dL_law_333 dL_law_334 ?_
  rw [e1]
  refine law_ld C hT.1.S (lv := [(2, .ref (ad2 0)), (1, .ref (ad1 0))]) hl (k := 2) hi (by omega) dL_law_335 dL_law_336 dL_law_337 dL_law_338 dL_law_339 ?_
  rw [e2]
  refine law_call1 C hT hc [.int (iN x1), .int (iN x2)] rfl (c_X10_cell (by decide) x1 hx1 x2 hx2 M h.KI) kL_38 rfl ⟨Nat.le_of_ble_eq_true rfl, Nat.le_of_ble_eq_true rfl⟩ hl.1 rfl (Nat.le_of_ble_eq_true rfl) dL_law_340 (fun v1 M1 H1 locs1 hp1 hT1 => ?_)
  obtain ⟨a1, ea1, -⟩ := id hp1
  subst ea1
  refine rw_stk (st' := [.int (iN a1)]) rfl ?_
  refine lv_aload_n hx hb dL_law_343 rfl (lv_at hl 1 rfl) ?_
  refine law_ld C hT1.1.S (lv := [(2, .ref (ad2 0)), (1, .ref (ad1 0))]) hl (k := 1) hi (by omega) dL_law_344 dL_law_345 dL_law_346 dL_law_347 dL_law_348 ?_
  rw [e1]
  refine law_ld C hT1.1.S (lv := [(2, .ref (ad2 0)), (1, .ref (ad1 0))]) hl (k := 2) hi (by omega) dL_law_349 dL_law_350 dL_law_351 dL_law_352 dL_law_353 ?_
  rw [e2]
  refine law_call2 C hT1 hc [.int (iN x1), .int (iN x2)] rfl (c_X11_cell (by decide) x1 hx1 x2 hx2 S h.inv.1) kL_42 rfl ⟨Nat.le_of_ble_eq_true rfl, Nat.le_of_ble_eq_true rfl⟩ hl.1 rfl (Nat.le_of_ble_eq_true rfl) dL_law_354 (fun v2 S1 H2 locs2 hp2 hT2 => ?_)
  obtain ⟨ev, hr⟩ := ag_cell h x1 x2 _ _ _ _ hp1 hp2
  subst ev
  refine rw_stk (st' := [.int (iN a1), .int (iN a1)]) rfl ?_
  exact lv_icmp_eq (tgt := 1409) hx hb dL_law_357 (by decide) (fun _ => kk _ _ _ _ hT2 hr) (fun c9 => absurd rfl c9)
theorem law_side (C : LC p s m args c b L xs) (hT : Tw G CA ad1 ad2 s M S H locs) (h : RR M S) (hc : cells ≤ room_1.cells ∧ slots ≤ room_1.slots) {i : Int} (hi : 0 ≤ i ∧ i + 5 ≤ L) (hl : lv_has ls 4 [(3, .int (iN i)), (2, .ref (ad2 0)), (1, .ref (ad1 0)), (0, .ref b)])
    (kk : ∀ (M' S' : Mem) (H1 : Heap) (locs1 : List Loc), Tw G CA ad1 ad2 s M' S' H1 locs1 → RR M' S' → W p l e room_1 s m args below meth c H1 locs1 cells slots Q (F0 m 1409 ls [])) : W p l e room_1 s m args below meth c H locs cells slots Q (F0 m 362 ls []) := by
  obtain ⟨hx, hb, hml, hts, hown, hX, hbl, hL⟩ := id C
  obtain ⟨x1, hx1, e1⟩ := iN_of (xs (i + 1).toNat)
  obtain ⟨x2, hx2, e2⟩ := iN_of (xs (i + 2).toNat)
  refine lv_aload_n hx hb dL_law_362 rfl (lv_at hl 2 rfl) ?_
  refine law_ld C hT.1.S (lv := [(2, .ref (ad2 0)), (1, .ref (ad1 0))]) hl (k := 1) hi (by omega) dL_law_363 dL_law_364 dL_law_365 dL_law_366 dL_law_367 ?_
  rw [e1]
  refine law_ld C hT.1.S (lv := [(2, .ref (ad2 0)), (1, .ref (ad1 0))]) hl (k := 2) hi (by omega) dL_law_368 dL_law_369 dL_law_370 dL_law_371 dL_law_372 ?_
  rw [e2]
  refine law_call1 C hT hc [.int (iN x1), .int (iN x2)] rfl (c_X10_side (by decide) x1 hx1 x2 hx2 M) kL_43 rfl ⟨Nat.le_of_ble_eq_true rfl, Nat.le_of_ble_eq_true rfl⟩ hl.1 rfl (Nat.le_of_ble_eq_true rfl) dL_law_373 (fun v1 M1 H1 locs1 hp1 hT1 => ?_)
  obtain ⟨a1, ea1, -⟩ := id hp1
  subst ea1
  refine rw_stk (st' := [.int (iN a1)]) rfl ?_
  refine lv_aload_n hx hb dL_law_376 rfl (lv_at hl 1 rfl) ?_
  refine law_ld C hT1.1.S (lv := [(2, .ref (ad2 0)), (1, .ref (ad1 0))]) hl (k := 1) hi (by omega) dL_law_377 dL_law_378 dL_law_379 dL_law_380 dL_law_381 ?_
  rw [e1]
  refine law_ld C hT1.1.S (lv := [(2, .ref (ad2 0)), (1, .ref (ad1 0))]) hl (k := 2) hi (by omega) dL_law_382 dL_law_383 dL_law_384 dL_law_385 dL_law_386 ?_
  rw [e2]
  refine law_call2 C hT1 hc [.int (iN x1), .int (iN x2)] rfl (c_X11_side (by decide) x1 hx1 x2 hx2 S) kL_46 rfl ⟨Nat.le_of_ble_eq_true rfl, Nat.le_of_ble_eq_true rfl⟩ hl.1 rfl (Nat.le_of_ble_eq_true rfl) dL_law_387 (fun v2 S1 H2 locs2 hp2 hT2 => ?_)
  obtain ⟨ev, hr⟩ := ag_side h x1 x2 _ _ _ _ hp1 hp2
  subst ev
  refine rw_stk (st' := [.int (iN a1), .int (iN a1)]) rfl ?_
  exact lv_icmp_eq (tgt := 1409) hx hb dL_law_390 (by decide) (fun _ => kk _ _ _ _ hT2 hr) (fun c9 => absurd rfl c9)
theorem law_room (C : LC p s m args c b L xs) (hT : Tw G CA ad1 ad2 s M S H locs) (h : RR M S) (hc : cells ≤ room_1.cells ∧ slots ≤ room_1.slots) {i : Int} (hi : 0 ≤ i ∧ i + 5 ≤ L) (hl : lv_has ls 4 [(3, .int (iN i)), (2, .ref (ad2 0)), (1, .ref (ad1 0)), (0, .ref b)])
    (kk : ∀ (M' S' : Mem) (H1 : Heap) (locs1 : List Loc), Tw G CA ad1 ad2 s M' S' H1 locs1 → RR M' S' → W p l e room_1 s m args below meth c H1 locs1 cells slots Q (F0 m 1409 ls [])) : W p l e room_1 s m args below meth c H locs cells slots Q (F0 m 395 ls []) := by
  obtain ⟨hx, hb, hml, hts, hown, hX, hbl, hL⟩ := id C
  obtain ⟨x1, hx1, e1⟩ := iN_of (xs (i + 1).toNat)
  obtain ⟨x2, hx2, e2⟩ := iN_of (xs (i + 2).toNat)
  refine lv_aload_n hx hb dL_law_395 rfl (lv_at hl 2 rfl) ?_
  refine law_ld C hT.1.S (lv := [(2, .ref (ad2 0)), (1, .ref (ad1 0))]) hl (k := 1) hi (by omega) dL_law_396 dL_law_397 dL_law_398 dL_law_399 dL_law_400 ?_
  rw [e1]
  refine law_ld C hT.1.S (lv := [(2, .ref (ad2 0)), (1, .ref (ad1 0))]) hl (k := 2) hi (by omega) dL_law_401 dL_law_402 dL_law_403 dL_law_404 dL_law_405 ?_
  rw [e2]
  refine law_call1 C hT hc [.int (iN x1), .int (iN x2)] rfl (c_X10_room (by decide) x1 hx1 x2 hx2 M h.KI) kL_47 rfl ⟨Nat.le_of_ble_eq_true rfl, Nat.le_of_ble_eq_true rfl⟩ hl.1 rfl (Nat.le_of_ble_eq_true rfl) dL_law_406 (fun v1 M1 H1 locs1 hp1 hT1 => ?_)
  obtain ⟨a1, ea1, -⟩ := id hp1
  subst ea1
  refine rw_stk (st' := [.int (iN a1)]) rfl ?_
  refine lv_aload_n hx hb dL_law_409 rfl (lv_at hl 1 rfl) ?_
  refine law_ld C hT1.1.S (lv := [(2, .ref (ad2 0)), (1, .ref (ad1 0))]) hl (k := 1) hi (by omega) dL_law_410 dL_law_411 dL_law_412 dL_law_413 dL_law_414 ?_
  rw [e1]
  refine law_ld C hT1.1.S (lv := [(2, .ref (ad2 0)), (1, .ref (ad1 0))]) hl (k := 2) hi (by omega) dL_law_415 dL_law_416 dL_law_417 dL_law_418 dL_law_419 ?_
  rw [e2]
  refine law_call2 C hT1 hc [.int (iN x1), .int (iN x2)] rfl (c_X11_room (by decide) x1 hx1 x2 hx2 S h.inv.1) kL_50 rfl ⟨Nat.le_of_ble_eq_true rfl, Nat.le_of_ble_eq_true rfl⟩ hl.1 rfl (Nat.le_of_ble_eq_true rfl) dL_law_420 (fun v2 S1 H2 locs2 hp2 hT2 => ?_)
  obtain ⟨ev, hr⟩ := ag_room h x1 x2 _ _ _ _ hp1 hp2
  subst ev
  refine rw_stk (st' := [.int (iN a1), .int (iN a1)]) rfl ?_
  exact lv_icmp_eq (tgt := 1409) hx hb dL_law_423 (by decide) (fun _ => kk _ _ _ _ hT2 hr) (fun c9 => absurd rfl c9)
theorem law_slope (C : LC p s m args c b L xs) (hT : Tw G CA ad1 ad2 s M S H locs) (h : RR M S) (hc : cells ≤ room_1.cells ∧ slots ≤ room_1.slots) {i : Int} (hi : 0 ≤ i ∧ i + 5 ≤ L) (hl : lv_has ls 4 [(3, .int (iN i)), (2, .ref (ad2 0)), (1, .ref (ad1 0)), (0, .ref b)])
    (kk : ∀ (M' S' : Mem) (H1 : Heap) (locs1 : List Loc), Tw G CA ad1 ad2 s M' S' H1 locs1 → RR M' S' → W p l e room_1 s m args below meth c H1 locs1 cells slots Q (F0 m 1409 ls [])) : W p l e room_1 s m args below meth c H locs cells slots Q (F0 m 428 ls []) := by
  obtain ⟨hx, hb, hml, hts, hown, hX, hbl, hL⟩ := id C
  obtain ⟨x1, hx1, e1⟩ := iN_of (xs (i + 1).toNat)
  obtain ⟨x2, hx2, e2⟩ := iN_of (xs (i + 2).toNat)
  refine lv_aload_n hx hb dL_law_428 rfl (lv_at hl 2 rfl) ?_
  refine law_ld C hT.1.S (lv := [(2, .ref (ad2 0)), (1, .ref (ad1 0))]) hl (k := 1) hi (by omega) dL_law_429 dL_law_430 dL_law_431 dL_law_432 dL_law_433 ?_
  rw [e1]
  refine law_ld C hT.1.S (lv := [(2, .ref (ad2 0)), (1, .ref (ad1 0))]) hl (k := 2) hi (by omega) dL_law_434 dL_law_435 dL_law_436 dL_law_437 dL_law_438 ?_
  rw [e2]
  refine law_call1 C hT hc [.int (iN x1), .int (iN x2)] rfl (c_X10_slope (by decide) x1 hx1 x2 hx2 M h.KI) kL_51 rfl ⟨Nat.le_of_ble_eq_true rfl, Nat.le_of_ble_eq_true rfl⟩ hl.1 rfl (Nat.le_of_ble_eq_true rfl) dL_law_439 (fun v1 M1 H1 locs1 hp1 hT1 => ?_)
  obtain ⟨a1, ea1, -⟩ := id hp1
  subst ea1
  refine rw_stk (st' := [.int (iN a1)]) rfl ?_
  refine lv_aload_n hx hb dL_law_442 rfl (lv_at hl 1 rfl) ?_
  refine law_ld C hT1.1.S (lv := [(2, .ref (ad2 0)), (1, .ref (ad1 0))]) hl (k := 1) hi (by omega) dL_law_443 dL_law_444 dL_law_445 dL_law_446 dL_law_447 ?_
  rw [e1]
  refine law_ld C hT1.1.S (lv := [(2, .ref (ad2 0)), (1, .ref (ad1 0))]) hl (k := 2) hi (by omega) dL_law_448 dL_law_449 dL_law_450 dL_law_451 dL_law_452 ?_
  rw [e2]
  refine law_call2 C hT1 hc [.int (iN x1), .int (iN x2)] rfl (c_X11_slope (by decide) x1 hx1 x2 hx2 S h.inv.1) kL_54 rfl ⟨Nat.le_of_ble_eq_true rfl, Nat.le_of_ble_eq_true rfl⟩ hl.1 rfl (Nat.le_of_ble_eq_true rfl) dL_law_453 (fun v2 S1 H2 locs2 hp2 hT2 => ?_)
  obtain ⟨ev, hr⟩ := ag_slope h x1 x2 _ _ _ _ hp1 hp2
  subst ev
  refine rw_stk (st' := [.int (iN a1), .int (iN a1)]) rfl ?_
  exact lv_icmp_eq (tgt := 1409) hx hb dL_law_456 (by decide) (fun _ => kk _ _ _ _ hT2 hr) (fun c9 => absurd rfl c9)
theorem law_hedge (C : LC p s m args c b L xs) (hT : Tw G CA ad1 ad2 s M S H locs) (h : RR M S) (hc : cells ≤ room_1.cells ∧ slots ≤ room_1.slots) {i : Int} (hi : 0 ≤ i ∧ i + 5 ≤ L) (hl : lv_has ls 4 [(3, .int (iN i)), (2, .ref (ad2 0)), (1, .ref (ad1 0)), (0, .ref b)])
    (kk : ∀ (M' S' : Mem) (H1 : Heap) (locs1 : List Loc), Tw G CA ad1 ad2 s M' S' H1 locs1 → RR M' S' → W p l e room_1 s m args below meth c H1 locs1 cells slots Q (F0 m 1409 ls [])) : W p l e room_1 s m args below meth c H locs cells slots Q (F0 m 461 ls []) := by
  obtain ⟨hx, hb, hml, hts, hown, hX, hbl, hL⟩ := id C
  obtain ⟨x1, hx1, e1⟩ := iN_of (xs (i + 1).toNat)
  obtain ⟨x2, hx2, e2⟩ := iN_of (xs (i + 2).toNat)
  refine lv_aload_n hx hb dL_law_461 rfl (lv_at hl 2 rfl) ?_
  refine law_ld C hT.1.S (lv := [(2, .ref (ad2 0)), (1, .ref (ad1 0))]) hl (k := 1) hi (by omega) dL_law_462 dL_law_463 dL_law_464 dL_law_465 dL_law_466 ?_
  rw [e1]
  refine law_ld C hT.1.S (lv := [(2, .ref (ad2 0)), (1, .ref (ad1 0))]) hl (k := 2) hi (by omega) dL_law_467 dL_law_468 dL_law_469 dL_law_470 dL_law_471 ?_
  rw [e2]
  refine law_call1 C hT hc [.int (iN x1), .int (iN x2)] rfl (c_X10_hedge (by decide) x1 hx1 x2 hx2 M h.KI) kL_55 rfl ⟨Nat.le_of_ble_eq_true rfl, Nat.le_of_ble_eq_true rfl⟩ hl.1 rfl (Nat.le_of_ble_eq_true rfl) dL_law_472 (fun v1 M1 H1 locs1 hp1 hT1 => ?_)
  obtain ⟨a1, ea1, -⟩ := id hp1
  subst ea1
  refine rw_stk (st' := [.int (iN a1)]) rfl ?_
  refine lv_aload_n hx hb dL_law_475 rfl (lv_at hl 1 rfl) ?_
  refine law_ld C hT1.1.S (lv := [(2, .ref (ad2 0)), (1, .ref (ad1 0))]) hl (k := 1) hi (by omega) dL_law_476 dL_law_477 dL_law_478 dL_law_479 dL_law_480 ?_
  rw [e1]
  refine law_ld C hT1.1.S (lv := [(2, .ref (ad2 0)), (1, .ref (ad1 0))]) hl (k := 2) hi (by omega) dL_law_481 dL_law_482 dL_law_483 dL_law_484 dL_law_485 ?_
  rw [e2]
  refine law_call2 C hT1 hc [.int (iN x1), .int (iN x2)] rfl (c_X11_hedge (by decide) x1 hx1 x2 hx2 S h.inv.1) kL_58 rfl ⟨Nat.le_of_ble_eq_true rfl, Nat.le_of_ble_eq_true rfl⟩ hl.1 rfl (Nat.le_of_ble_eq_true rfl) dL_law_486 (fun v2 S1 H2 locs2 hp2 hT2 => ?_)
  obtain ⟨ev, hr⟩ := ag_hedge h x1 x2 _ _ _ _ hp1 hp2
  subst ev
  refine rw_stk (st' := [.int (iN a1), .int (iN a1)]) rfl ?_
  exact lv_icmp_eq (tgt := 1409) hx hb dL_law_489 (by decide) (fun _ => kk _ _ _ _ hT2 hr) (fun c9 => absurd rfl c9)
theorem law_fool (C : LC p s m args c b L xs) (hT : Tw G CA ad1 ad2 s M S H locs) (h : RR M S) (hc : cells ≤ room_1.cells ∧ slots ≤ room_1.slots) {i : Int} (hi : 0 ≤ i ∧ i + 5 ≤ L) (hl : lv_has ls 4 [(3, .int (iN i)), (2, .ref (ad2 0)), (1, .ref (ad1 0)), (0, .ref b)])
    (kk : ∀ (M' S' : Mem) (H1 : Heap) (locs1 : List Loc), Tw G CA ad1 ad2 s M' S' H1 locs1 → RR M' S' → W p l e room_1 s m args below meth c H1 locs1 cells slots Q (F0 m 1409 ls [])) : W p l e room_1 s m args below meth c H locs cells slots Q (F0 m 494 ls []) := by
  obtain ⟨hx, hb, hml, hts, hown, hX, hbl, hL⟩ := id C
  obtain ⟨x1, hx1, e1⟩ := iN_of (xs (i + 1).toNat)
  obtain ⟨x2, hx2, e2⟩ := iN_of (xs (i + 2).toNat)
  refine lv_aload_n hx hb dL_law_494 rfl (lv_at hl 2 rfl) ?_
  refine law_ld C hT.1.S (lv := [(2, .ref (ad2 0)), (1, .ref (ad1 0))]) hl (k := 1) hi (by omega) dL_law_495 dL_law_496 dL_law_497 dL_law_498 dL_law_499 ?_
  rw [e1]
  refine law_ld C hT.1.S (lv := [(2, .ref (ad2 0)), (1, .ref (ad1 0))]) hl (k := 2) hi (by omega) dL_law_500 dL_law_501 dL_law_502 dL_law_503 dL_law_504 ?_
  rw [e2]
  refine law_call1 C hT hc [.int (iN x1), .int (iN x2)] rfl (c_X10_fool (by decide) x1 hx1 x2 hx2 M) kL_59 rfl ⟨Nat.le_of_ble_eq_true rfl, Nat.le_of_ble_eq_true rfl⟩ hl.1 rfl (Nat.le_of_ble_eq_true rfl) dL_law_505 (fun v1 M1 H1 locs1 hp1 hT1 => ?_)
  obtain ⟨a1, ea1, -⟩ := id hp1
  subst ea1
  refine rw_stk (st' := [.int (iN a1)]) rfl ?_
  refine lv_aload_n hx hb dL_law_508 rfl (lv_at hl 1 rfl) ?_
  refine law_ld C hT1.1.S (lv := [(2, .ref (ad2 0)), (1, .ref (ad1 0))]) hl (k := 1) hi (by omega) dL_law_509 dL_law_510 dL_law_511 dL_law_512 dL_law_513 ?_
  rw [e1]
  refine law_ld C hT1.1.S (lv := [(2, .ref (ad2 0)), (1, .ref (ad1 0))]) hl (k := 2) hi (by omega) dL_law_514 dL_law_515 dL_law_516 dL_law_517 dL_law_518 ?_
  rw [e2]
  refine law_call2 C hT1 hc [.int (iN x1), .int (iN x2)] rfl (c_X11_fool (by decide) x1 hx1 x2 hx2 S) kL_62 rfl ⟨Nat.le_of_ble_eq_true rfl, Nat.le_of_ble_eq_true rfl⟩ hl.1 rfl (Nat.le_of_ble_eq_true rfl) dL_law_519 (fun v2 S1 H2 locs2 hp2 hT2 => ?_)
  obtain ⟨ev, hr⟩ := ag_fool h x1 x2 _ _ _ _ hp1 hp2
  subst ev
  refine rw_stk (st' := [.int (iN a1), .int (iN a1)]) rfl ?_
  exact lv_icmp_eq (tgt := 1409) hx hb dL_law_522 (by decide) (fun _ => kk _ _ _ _ hT2 hr) (fun c9 => absurd rfl c9)
theorem law_men (C : LC p s m args c b L xs) (hT : Tw G CA ad1 ad2 s M S H locs) (h : RR M S) (hc : cells ≤ room_1.cells ∧ slots ≤ room_1.slots) {i : Int} (hi : 0 ≤ i ∧ i + 5 ≤ L) (hl : lv_has ls 4 [(3, .int (iN i)), (2, .ref (ad2 0)), (1, .ref (ad1 0)), (0, .ref b)])
    (kk : ∀ (M' S' : Mem) (H1 : Heap) (locs1 : List Loc), Tw G CA ad1 ad2 s M' S' H1 locs1 → RR M' S' → W p l e room_1 s m args below meth c H1 locs1 cells slots Q (F0 m 1409 ls [])) : W p l e room_1 s m args below meth c H locs cells slots Q (F0 m 527 ls []) := by
  obtain ⟨hx, hb, hml, hts, hown, hX, hbl, hL⟩ := id C
  obtain ⟨x1, hx1, e1⟩ := iN_of (xs (i + 1).toNat)
  obtain ⟨x2, hx2, e2⟩ := iN_of (xs (i + 2).toNat)
  refine lv_aload_n hx hb dL_law_527 rfl (lv_at hl 2 rfl) ?_
  refine law_ld C hT.1.S (lv := [(2, .ref (ad2 0)), (1, .ref (ad1 0))]) hl (k := 1) hi (by omega) dL_law_528 dL_law_529 dL_law_530 dL_law_531 dL_law_532 ?_
  rw [e1]
  refine law_ld C hT.1.S (lv := [(2, .ref (ad2 0)), (1, .ref (ad1 0))]) hl (k := 2) hi (by omega) dL_law_533 dL_law_534 dL_law_535 dL_law_536 dL_law_537 ?_
  rw [e2]
  refine law_call1 C hT hc [.int (iN x1), .int (iN x2)] rfl (c_X10_men (by decide) x1 hx1 x2 hx2 M h.KI) kL_63 rfl ⟨Nat.le_of_ble_eq_true rfl, Nat.le_of_ble_eq_true rfl⟩ hl.1 rfl (Nat.le_of_ble_eq_true rfl) dL_law_538 (fun v1 M1 H1 locs1 hp1 hT1 => ?_)
  obtain ⟨a1, ea1, -⟩ := id hp1
  subst ea1
  refine rw_stk (st' := [.int (iN a1)]) rfl ?_
  refine lv_aload_n hx hb dL_law_541 rfl (lv_at hl 1 rfl) ?_
  refine law_ld C hT1.1.S (lv := [(2, .ref (ad2 0)), (1, .ref (ad1 0))]) hl (k := 1) hi (by omega) dL_law_542 dL_law_543 dL_law_544 dL_law_545 dL_law_546 ?_
  rw [e1]
  refine law_ld C hT1.1.S (lv := [(2, .ref (ad2 0)), (1, .ref (ad1 0))]) hl (k := 2) hi (by omega) dL_law_547 dL_law_548 dL_law_549 dL_law_550 dL_law_551 ?_
  rw [e2]
  refine law_call2 C hT1 hc [.int (iN x1), .int (iN x2)] rfl (c_X11_men (by decide) x1 hx1 x2 hx2 S h.inv.1) kL_66 rfl ⟨Nat.le_of_ble_eq_true rfl, Nat.le_of_ble_eq_true rfl⟩ hl.1 rfl (Nat.le_of_ble_eq_true rfl) dL_law_552 (fun v2 S1 H2 locs2 hp2 hT2 => ?_)
  obtain ⟨ev, hr⟩ := ag_men h x1 x2 _ _ _ _ hp1 hp2
  subst ev
  refine rw_stk (st' := [.int (iN a1), .int (iN a1)]) rfl ?_
  exact lv_icmp_eq (tgt := 1409) hx hb dL_law_555 (by decide) (fun _ => kk _ _ _ _ hT2 hr) (fun c9 => absurd rfl c9)
theorem law_captain (C : LC p s m args c b L xs) (hT : Tw G CA ad1 ad2 s M S H locs) (h : RR M S) (hc : cells ≤ room_1.cells ∧ slots ≤ room_1.slots) {i : Int} (hi : 0 ≤ i ∧ i + 5 ≤ L) (hl : lv_has ls 4 [(3, .int (iN i)), (2, .ref (ad2 0)), (1, .ref (ad1 0)), (0, .ref b)])
    (kk : ∀ (M' S' : Mem) (H1 : Heap) (locs1 : List Loc), Tw G CA ad1 ad2 s M' S' H1 locs1 → RR M' S' → W p l e room_1 s m args below meth c H1 locs1 cells slots Q (F0 m 1409 ls [])) : W p l e room_1 s m args below meth c H locs cells slots Q (F0 m 560 ls []) := by
  obtain ⟨hx, hb, hml, hts, hown, hX, hbl, hL⟩ := id C
  obtain ⟨x1, hx1, e1⟩ := iN_of (xs (i + 1).toNat)
  obtain ⟨x2, hx2, e2⟩ := iN_of (xs (i + 2).toNat)
  obtain ⟨x3, hx3, e3⟩ := iN_of (xs (i + 3).toNat)
  refine lv_aload_n hx hb dL_law_560 rfl (lv_at hl 2 rfl) ?_
  refine law_ld C hT.1.S (lv := [(2, .ref (ad2 0)), (1, .ref (ad1 0))]) hl (k := 1) hi (by omega) dL_law_561 dL_law_562 dL_law_563 dL_law_564 dL_law_565 ?_
  rw [e1]
  refine law_ld C hT.1.S (lv := [(2, .ref (ad2 0)), (1, .ref (ad1 0))]) hl (k := 2) hi (by omega) dL_law_566 dL_law_567 dL_law_568 dL_law_569 dL_law_570 ?_
  rw [e2]
  refine law_ld C hT.1.S (lv := [(2, .ref (ad2 0)), (1, .ref (ad1 0))]) hl (k := 3) hi (by omega) dL_law_571 dL_law_572 dL_law_573 dL_law_574 dL_law_575 ?_
  rw [e3]
  refine law_call1 C hT hc [.int (iN x1), .int (iN x2), .int (iN x3)] rfl (c_X10_captain (by decide) x1 hx1 x2 hx2 x3 hx3 M) kL_67 rfl ⟨Nat.le_of_ble_eq_true rfl, Nat.le_of_ble_eq_true rfl⟩ hl.1 rfl (Nat.le_of_ble_eq_true rfl) dL_law_576 (fun v1 M1 H1 locs1 hp1 hT1 => ?_)
  obtain ⟨a1, ea1, -⟩ := id hp1
  subst ea1
  refine rw_stk (st' := [.int (iN a1)]) rfl ?_
  refine lv_aload_n hx hb dL_law_579 rfl (lv_at hl 1 rfl) ?_
  refine law_ld C hT1.1.S (lv := [(2, .ref (ad2 0)), (1, .ref (ad1 0))]) hl (k := 1) hi (by omega) dL_law_580 dL_law_581 dL_law_582 dL_law_583 dL_law_584 ?_
  rw [e1]
  refine law_ld C hT1.1.S (lv := [(2, .ref (ad2 0)), (1, .ref (ad1 0))]) hl (k := 2) hi (by omega) dL_law_585 dL_law_586 dL_law_587 dL_law_588 dL_law_589 ?_
  rw [e2]
  refine law_ld C hT1.1.S (lv := [(2, .ref (ad2 0)), (1, .ref (ad1 0))]) hl (k := 3) hi (by omega) dL_law_590 dL_law_591 dL_law_592 dL_law_593 dL_law_594 ?_
  rw [e3]
  refine law_call2 C hT1 hc [.int (iN x1), .int (iN x2), .int (iN x3)] rfl (c_X11_captain (by decide) x1 hx1 x2 hx2 x3 hx3 S) kL_71 rfl ⟨Nat.le_of_ble_eq_true rfl, Nat.le_of_ble_eq_true rfl⟩ hl.1 rfl (Nat.le_of_ble_eq_true rfl) dL_law_595 (fun v2 S1 H2 locs2 hp2 hT2 => ?_)
  obtain ⟨ev, hr⟩ := ag_captain h x1 x2 x3 _ _ _ _ hp1 hp2
  subst ev
  refine rw_stk (st' := [.int (iN a1), .int (iN a1)]) rfl ?_
  exact lv_icmp_eq (tgt := 1409) hx hb dL_law_598 (by decide) (fun _ => kk _ _ _ _ hT2 hr) (fun c9 => absurd rfl c9)
theorem law_rest (C : LC p s m args c b L xs) (hT : Tw G CA ad1 ad2 s M S H locs) (h : RR M S) (hc : cells ≤ room_1.cells ∧ slots ≤ room_1.slots) {i : Int} (hi : 0 ≤ i ∧ i + 5 ≤ L) (hl : lv_has ls 4 [(3, .int (iN i)), (2, .ref (ad2 0)), (1, .ref (ad1 0)), (0, .ref b)])
    (kk : ∀ (M' S' : Mem) (H1 : Heap) (locs1 : List Loc), Tw G CA ad1 ad2 s M' S' H1 locs1 → RR M' S' → W p l e room_1 s m args below meth c H1 locs1 cells slots Q (F0 m 1409 ls [])) : W p l e room_1 s m args below meth c H locs cells slots Q (F0 m 603 ls []) := by
  obtain ⟨hx, hb, hml, hts, hown, hX, hbl, hL⟩ := id C
  obtain ⟨x1, hx1, e1⟩ := iN_of (xs (i + 1).toNat)
  refine lv_aload_n hx hb dL_law_603 rfl (lv_at hl 2 rfl) ?_
  refine law_ld C hT.1.S (lv := [(2, .ref (ad2 0)), (1, .ref (ad1 0))]) hl (k := 1) hi (by omega) dL_law_604 dL_law_605 dL_law_606 dL_law_607 dL_law_608 ?_
  rw [e1]
  refine law_call1 C hT hc [.int (iN x1)] rfl (c_X10_rest (by decide) x1 hx1 M) kL_72 rfl ⟨Nat.le_of_ble_eq_true rfl, Nat.le_of_ble_eq_true rfl⟩ hl.1 rfl (Nat.le_of_ble_eq_true rfl) dL_law_609 (fun v1 M1 H1 locs1 hp1 hT1 => ?_)
  obtain ⟨a1, ea1, -⟩ := id hp1
  subst ea1
  refine rw_stk (st' := [.int (iN a1)]) rfl ?_
  refine lv_aload_n hx hb dL_law_612 rfl (lv_at hl 1 rfl) ?_
  refine law_ld C hT1.1.S (lv := [(2, .ref (ad2 0)), (1, .ref (ad1 0))]) hl (k := 1) hi (by omega) dL_law_613 dL_law_614 dL_law_615 dL_law_616 dL_law_617 ?_
  rw [e1]
  refine law_call2 C hT1 hc [.int (iN x1)] rfl (c_X11_rest (by decide) x1 hx1 S) kL_75 rfl ⟨Nat.le_of_ble_eq_true rfl, Nat.le_of_ble_eq_true rfl⟩ hl.1 rfl (Nat.le_of_ble_eq_true rfl) dL_law_618 (fun v2 S1 H2 locs2 hp2 hT2 => ?_)
  obtain ⟨ev, hr⟩ := ag_rest h x1 _ _ _ _ hp1 hp2
  subst ev
  refine rw_stk (st' := [.int (iN a1), .int (iN a1)]) rfl ?_
  exact lv_icmp_eq (tgt := 1409) hx hb dL_law_621 (by decide) (fun _ => kk _ _ _ _ hT2 hr) (fun c9 => absurd rfl c9)
theorem law_breaks (C : LC p s m args c b L xs) (hT : Tw G CA ad1 ad2 s M S H locs) (h : RR M S) (hc : cells ≤ room_1.cells ∧ slots ≤ room_1.slots) {i : Int} (hi : 0 ≤ i ∧ i + 5 ≤ L) (hl : lv_has ls 4 [(3, .int (iN i)), (2, .ref (ad2 0)), (1, .ref (ad1 0)), (0, .ref b)])
    (kk : ∀ (M' S' : Mem) (H1 : Heap) (locs1 : List Loc), Tw G CA ad1 ad2 s M' S' H1 locs1 → RR M' S' → W p l e room_1 s m args below meth c H1 locs1 cells slots Q (F0 m 1409 ls [])) : W p l e room_1 s m args below meth c H locs cells slots Q (F0 m 626 ls []) := by
  obtain ⟨hx, hb, hml, hts, hown, hX, hbl, hL⟩ := id C
  obtain ⟨x1, hx1, e1⟩ := iN_of (xs (i + 1).toNat)
  refine lv_aload_n hx hb dL_law_626 rfl (lv_at hl 2 rfl) ?_
  refine law_ld C hT.1.S (lv := [(2, .ref (ad2 0)), (1, .ref (ad1 0))]) hl (k := 1) hi (by omega) dL_law_627 dL_law_628 dL_law_629 dL_law_630 dL_law_631 ?_
  rw [e1]
  refine law_call1 C hT hc [.int (iN x1)] rfl (c_X10_breaks (by decide) x1 hx1 M) kL_76 rfl ⟨Nat.le_of_ble_eq_true rfl, Nat.le_of_ble_eq_true rfl⟩ hl.1 rfl (Nat.le_of_ble_eq_true rfl) dL_law_632 (fun v1 M1 H1 locs1 hp1 hT1 => ?_)
  obtain ⟨a1, ea1, -⟩ := id hp1
  subst ea1
  refine rw_stk (st' := [.int (iN a1)]) rfl ?_
  refine lv_aload_n hx hb dL_law_635 rfl (lv_at hl 1 rfl) ?_
  refine law_ld C hT1.1.S (lv := [(2, .ref (ad2 0)), (1, .ref (ad1 0))]) hl (k := 1) hi (by omega) dL_law_636 dL_law_637 dL_law_638 dL_law_639 dL_law_640 ?_
  rw [e1]
  refine law_call2 C hT1 hc [.int (iN x1)] rfl (c_X11_breaks (by decide) x1 hx1 S) kL_79 rfl ⟨Nat.le_of_ble_eq_true rfl, Nat.le_of_ble_eq_true rfl⟩ hl.1 rfl (Nat.le_of_ble_eq_true rfl) dL_law_641 (fun v2 S1 H2 locs2 hp2 hT2 => ?_)
  obtain ⟨ev, hr⟩ := ag_breaks h x1 _ _ _ _ hp1 hp2
  subst ev
  refine rw_stk (st' := [.int (iN a1), .int (iN a1)]) rfl ?_
  exact lv_icmp_eq (tgt := 1409) hx hb dL_law_644 (by decide) (fun _ => kk _ _ _ _ hT2 hr) (fun c9 => absurd rfl c9)
theorem law_put (C : LC p s m args c b L xs) (hT : Tw G CA ad1 ad2 s M S H locs) (h : RR M S) (hc : cells ≤ room_1.cells ∧ slots ≤ room_1.slots) {i : Int} (hi : 0 ≤ i ∧ i + 5 ≤ L) (hl : lv_has ls 4 [(3, .int (iN i)), (2, .ref (ad2 0)), (1, .ref (ad1 0)), (0, .ref b)])
    (kk : ∀ (M' S' : Mem) (H1 : Heap) (locs1 : List Loc), Tw G CA ad1 ad2 s M' S' H1 locs1 → RR M' S' → W p l e room_1 s m args below meth c H1 locs1 cells slots Q (F0 m 1409 ls [])) : W p l e room_1 s m args below meth c H locs cells slots Q (F0 m 649 ls []) := by
  obtain ⟨hx, hb, hml, hts, hown, hX, hbl, hL⟩ := id C
  obtain ⟨x1, hx1, e1⟩ := iN_of (xs (i + 1).toNat)
  refine lv_aload_n hx hb dL_law_649 rfl (lv_at hl 2 rfl) ?_
  refine law_ld C hT.1.S (lv := [(2, .ref (ad2 0)), (1, .ref (ad1 0))]) hl (k := 1) hi (by omega) dL_law_650 dL_law_651 dL_law_652 dL_law_653 dL_law_654 ?_
  rw [e1]
  refine law_call1 C hT hc [.int (iN x1)] rfl (c_X10_put (by decide) x1 hx1 M h.KI) kL_80 rfl ⟨Nat.le_of_ble_eq_true rfl, Nat.le_of_ble_eq_true rfl⟩ hl.1 rfl (Nat.le_of_ble_eq_true rfl) dL_law_655 (fun v1 M1 H1 locs1 hp1 hT1 => ?_)
  obtain ⟨a1, ea1, -⟩ := id hp1
  subst ea1
  refine rw_stk (st' := [.int (iN a1)]) rfl ?_
  refine lv_aload_n hx hb dL_law_658 rfl (lv_at hl 1 rfl) ?_
  refine law_ld C hT1.1.S (lv := [(2, .ref (ad2 0)), (1, .ref (ad1 0))]) hl (k := 1) hi (by omega) dL_law_659 dL_law_660 dL_law_661 dL_law_662 dL_law_663 ?_
  rw [e1]
  refine law_call2 C hT1 hc [.int (iN x1)] rfl (c_X11_put (by decide) x1 hx1 S h.inv.1) kL_83 rfl ⟨Nat.le_of_ble_eq_true rfl, Nat.le_of_ble_eq_true rfl⟩ hl.1 rfl (Nat.le_of_ble_eq_true rfl) dL_law_664 (fun v2 S1 H2 locs2 hp2 hT2 => ?_)
  obtain ⟨ev, hr⟩ := ag_put h x1 _ _ _ _ hp1 hp2
  subst ev
  refine rw_stk (st' := [.int (iN a1), .int (iN a1)]) rfl ?_
  exact lv_icmp_eq (tgt := 1409) hx hb dL_law_667 (by decide) (fun _ => kk _ _ _ _ hT2 hr) (fun c9 => absurd rfl c9)
theorem law_sends (C : LC p s m args c b L xs) (hT : Tw G CA ad1 ad2 s M S H locs) (h : RR M S) (hc : cells ≤ room_1.cells ∧ slots ≤ room_1.slots) {i : Int} (hi : 0 ≤ i ∧ i + 5 ≤ L) (hl : lv_has ls 4 [(3, .int (iN i)), (2, .ref (ad2 0)), (1, .ref (ad1 0)), (0, .ref b)])
    (kk : ∀ (M' S' : Mem) (H1 : Heap) (locs1 : List Loc), Tw G CA ad1 ad2 s M' S' H1 locs1 → RR M' S' → W p l e room_1 s m args below meth c H1 locs1 cells slots Q (F0 m 1409 ls [])) : W p l e room_1 s m args below meth c H locs cells slots Q (F0 m 672 ls []) := by
  obtain ⟨hx, hb, hml, hts, hown, hX, hbl, hL⟩ := id C
  obtain ⟨x1, hx1, e1⟩ := iN_of (xs (i + 1).toNat)
  refine lv_aload_n hx hb dL_law_672 rfl (lv_at hl 2 rfl) ?_
  refine law_ld C hT.1.S (lv := [(2, .ref (ad2 0)), (1, .ref (ad1 0))]) hl (k := 1) hi (by omega) dL_law_673 dL_law_674 dL_law_675 dL_law_676 dL_law_677 ?_
  rw [e1]
  refine law_call1 C hT hc [.int (iN x1)] rfl (c_X10_sends (by decide) x1 hx1 M h.KI) kL_84 rfl ⟨Nat.le_of_ble_eq_true rfl, Nat.le_of_ble_eq_true rfl⟩ hl.1 rfl (Nat.le_of_ble_eq_true rfl) dL_law_678 (fun v1 M1 H1 locs1 hp1 hT1 => ?_)
  obtain ⟨a1, ea1, -⟩ := id hp1
  subst ea1
  refine rw_stk (st' := [.int (iN a1)]) rfl ?_
  refine lv_aload_n hx hb dL_law_681 rfl (lv_at hl 1 rfl) ?_
  refine law_ld C hT1.1.S (lv := [(2, .ref (ad2 0)), (1, .ref (ad1 0))]) hl (k := 1) hi (by omega) dL_law_682 dL_law_683 dL_law_684 dL_law_685 dL_law_686 ?_
  rw [e1]
  refine law_call2 C hT1 hc [.int (iN x1)] rfl (c_X11_sends (by decide) x1 hx1 S h.inv.1) kL_87 rfl ⟨Nat.le_of_ble_eq_true rfl, Nat.le_of_ble_eq_true rfl⟩ hl.1 rfl (Nat.le_of_ble_eq_true rfl) dL_law_687 (fun v2 S1 H2 locs2 hp2 hT2 => ?_)
  obtain ⟨ev, hr⟩ := ag_sends h x1 _ _ _ _ hp1 hp2
  subst ev
  refine rw_stk (st' := [.int (iN a1), .int (iN a1)]) rfl ?_
  exact lv_icmp_eq (tgt := 1409) hx hb dL_law_690 (by decide) (fun _ => kk _ _ _ _ hT2 hr) (fun c9 => absurd rfl c9)
theorem law_net (C : LC p s m args c b L xs) (hT : Tw G CA ad1 ad2 s M S H locs) (h : RR M S) (hc : cells ≤ room_1.cells ∧ slots ≤ room_1.slots) {i : Int} (hi : 0 ≤ i ∧ i + 5 ≤ L) (hl : lv_has ls 4 [(3, .int (iN i)), (2, .ref (ad2 0)), (1, .ref (ad1 0)), (0, .ref b)])
    (kk : ∀ (M' S' : Mem) (H1 : Heap) (locs1 : List Loc), Tw G CA ad1 ad2 s M' S' H1 locs1 → RR M' S' → W p l e room_1 s m args below meth c H1 locs1 cells slots Q (F0 m 1409 ls [])) : W p l e room_1 s m args below meth c H locs cells slots Q (F0 m 695 ls []) := by
  obtain ⟨hx, hb, hml, hts, hown, hX, hbl, hL⟩ := id C
  obtain ⟨x1, hx1, e1⟩ := iN_of (xs (i + 1).toNat)
  obtain ⟨x2, hx2, e2⟩ := iN_of (xs (i + 2).toNat)
  refine lv_aload_n hx hb dL_law_695 rfl (lv_at hl 2 rfl) ?_
  refine law_ld C hT.1.S (lv := [(2, .ref (ad2 0)), (1, .ref (ad1 0))]) hl (k := 1) hi (by omega) dL_law_696 dL_law_697 dL_law_698 dL_law_699 dL_law_700 ?_
  rw [e1]
  refine law_ld C hT.1.S (lv := [(2, .ref (ad2 0)), (1, .ref (ad1 0))]) hl (k := 2) hi (by omega) dL_law_701 dL_law_702 dL_law_703 dL_law_704 dL_law_705 ?_
  rw [e2]
  refine law_call1 C hT hc [.int (iN x1), .int (iN x2)] rfl (c_X10_net (by decide) x1 hx1 x2 hx2 M h.KI) kL_88 rfl ⟨Nat.le_of_ble_eq_true rfl, Nat.le_of_ble_eq_true rfl⟩ hl.1 rfl (Nat.le_of_ble_eq_true rfl) dL_law_706 (fun v1 M1 H1 locs1 hp1 hT1 => ?_)
  obtain ⟨a1, ea1, -⟩ := id hp1
  subst ea1
  refine rw_stk (st' := [.int (iN a1)]) rfl ?_
  refine lv_aload_n hx hb dL_law_709 rfl (lv_at hl 1 rfl) ?_
  refine law_ld C hT1.1.S (lv := [(2, .ref (ad2 0)), (1, .ref (ad1 0))]) hl (k := 1) hi (by omega) dL_law_710 dL_law_711 dL_law_712 dL_law_713 dL_law_714 ?_
  rw [e1]
  refine law_ld C hT1.1.S (lv := [(2, .ref (ad2 0)), (1, .ref (ad1 0))]) hl (k := 2) hi (by omega) dL_law_715 dL_law_716 dL_law_717 dL_law_718 dL_law_719 ?_
  rw [e2]
  refine law_call2 C hT1 hc [.int (iN x1), .int (iN x2)] rfl (c_X11_net (by decide) x1 hx1 x2 hx2 S h.inv.1) kL_91 rfl ⟨Nat.le_of_ble_eq_true rfl, Nat.le_of_ble_eq_true rfl⟩ hl.1 rfl (Nat.le_of_ble_eq_true rfl) dL_law_720 (fun v2 S1 H2 locs2 hp2 hT2 => ?_)
  obtain ⟨ev, hr⟩ := ag_net h x1 x2 _ _ _ _ hp1 hp2
  subst ev
  refine rw_stk (st' := [.int (iN a1), .int (iN a1)]) rfl ?_
  exact lv_icmp_eq (tgt := 1409) hx hb dL_law_723 (by decide) (fun _ => kk _ _ _ _ hT2 hr) (fun c9 => absurd rfl c9)
theorem law_go (C : LC p s m args c b L xs) (hT : Tw G CA ad1 ad2 s M S H locs) (h : RR M S) (hc : cells ≤ room_1.cells ∧ slots ≤ room_1.slots) {i : Int} (hi : 0 ≤ i ∧ i + 5 ≤ L) (hl : lv_has ls 4 [(3, .int (iN i)), (2, .ref (ad2 0)), (1, .ref (ad1 0)), (0, .ref b)])
    (kk : ∀ (M' S' : Mem) (H1 : Heap) (locs1 : List Loc), Tw G CA ad1 ad2 s M' S' H1 locs1 → RR M' S' → W p l e room_1 s m args below meth c H1 locs1 cells slots Q (F0 m 1409 ls [])) : W p l e room_1 s m args below meth c H locs cells slots Q (F0 m 728 ls []) := by
  obtain ⟨hx, hb, hml, hts, hown, hX, hbl, hL⟩ := id C
  obtain ⟨x1, hx1, e1⟩ := iN_of (xs (i + 1).toNat)
  obtain ⟨x2, hx2, e2⟩ := iN_of (xs (i + 2).toNat)
  obtain ⟨x3, hx3, e3⟩ := iN_of (xs (i + 3).toNat)
  by_cases c3 : x3 = 0
  · refine lv_aload_n hx hb dL_law_728 rfl (lv_at hl 2 rfl) ?_
    refine law_ld C hT.1.S (lv := [(2, .ref (ad2 0)), (1, .ref (ad1 0))]) hl (k := 1) hi (by omega) dL_law_729 dL_law_730 dL_law_731 dL_law_732 dL_law_733 ?_
    rw [e1]
    refine law_ld C hT.1.S (lv := [(2, .ref (ad2 0)), (1, .ref (ad1 0))]) hl (k := 2) hi (by omega) dL_law_734 dL_law_735 dL_law_736 dL_law_737 dL_law_738 ?_
    rw [e2]
    refine law_ld C hT.1.S (lv := [(2, .ref (ad2 0)), (1, .ref (ad1 0))]) hl (k := 3) hi (by omega) dL_law_739 dL_law_740 dL_law_741 dL_law_742 dL_law_743 ?_
    rw [e3]
    refine rw_if_eq (tgt := 751) hx hb dL_law_744 (by decide) hx3 (fun _ => ?_) (fun c9 => absurd c3 c9)
    refine rw_iconst hx hb dL_law_751 ?_
    refine law_call1 C hT hc [.int (iN x1), .int (iN x2), .int (iN 0)] rfl (c_X10_go (by decide) x1 hx1 x2 hx2 0 (by decide) M h.KI) kL_92 rfl ⟨Nat.le_of_ble_eq_true rfl, Nat.le_of_ble_eq_true rfl⟩ hl.1 rfl (Nat.le_of_ble_eq_true rfl) dL_law_752 (fun v1 M1 H1 locs1 hp1 hT1 => ?_)
    obtain ⟨a1, ea1, -⟩ := id hp1
    subst ea1
    refine rw_stk (st' := [.int (iN a1)]) rfl ?_
    refine lv_aload_n hx hb dL_law_755 rfl (lv_at hl 1 rfl) ?_
    refine law_ld C hT1.1.S (lv := [(2, .ref (ad2 0)), (1, .ref (ad1 0))]) hl (k := 1) hi (by omega) dL_law_756 dL_law_757 dL_law_758 dL_law_759 dL_law_760 ?_
    rw [e1]
    refine law_ld C hT1.1.S (lv := [(2, .ref (ad2 0)), (1, .ref (ad1 0))]) hl (k := 2) hi (by omega) dL_law_761 dL_law_762 dL_law_763 dL_law_764 dL_law_765 ?_
    rw [e2]
    refine law_ld C hT1.1.S (lv := [(2, .ref (ad2 0)), (1, .ref (ad1 0))]) hl (k := 3) hi (by omega) dL_law_766 dL_law_767 dL_law_768 dL_law_769 dL_law_770 ?_
    rw [e3]
    refine rw_if_eq (tgt := 778) hx hb dL_law_771 (by decide) hx3 (fun _ => ?_) (fun c9 => absurd c3 c9)
    refine rw_iconst hx hb dL_law_778 ?_
    refine law_call2 C hT1 hc [.int (iN x1), .int (iN x2), .int (iN 0)] rfl (c_X11_go (by decide) x1 hx1 x2 hx2 0 (Or.inl rfl) S h.inv.1 h.inv.2) kL_96 rfl ⟨Nat.le_of_ble_eq_true rfl, Nat.le_of_ble_eq_true rfl⟩ hl.1 rfl (Nat.le_of_ble_eq_true rfl) dL_law_779 (fun v2 S1 H2 locs2 hp2 hT2 => ?_)
    obtain ⟨ev, hr⟩ := ag_go h x1 x2 0 _ _ _ _ hp1 hp2
    subst ev
    refine rw_stk (st' := [.int (iN a1), .int (iN a1)]) rfl ?_
    exact lv_icmp_eq (tgt := 1409) hx hb dL_law_782 (by decide) (fun _ => kk _ _ _ _ hT2 hr) (fun c9 => absurd rfl c9)
  · refine lv_aload_n hx hb dL_law_728 rfl (lv_at hl 2 rfl) ?_
    refine law_ld C hT.1.S (lv := [(2, .ref (ad2 0)), (1, .ref (ad1 0))]) hl (k := 1) hi (by omega) dL_law_729 dL_law_730 dL_law_731 dL_law_732 dL_law_733 ?_
    rw [e1]
    refine law_ld C hT.1.S (lv := [(2, .ref (ad2 0)), (1, .ref (ad1 0))]) hl (k := 2) hi (by omega) dL_law_734 dL_law_735 dL_law_736 dL_law_737 dL_law_738 ?_
    rw [e2]
    refine law_ld C hT.1.S (lv := [(2, .ref (ad2 0)), (1, .ref (ad1 0))]) hl (k := 3) hi (by omega) dL_law_739 dL_law_740 dL_law_741 dL_law_742 dL_law_743 ?_
    rw [e3]
    refine rw_if_eq (tgt := 751) hx hb dL_law_744 (by decide) hx3 (fun c9 => absurd c9 c3) (fun _ => ?_)
    refine rw_iconst hx hb dL_law_747 ?_
    refine lv_goto (tgt := 752) hx hb dL_law_748 (by decide) ?_
    refine law_call1 C hT hc [.int (iN x1), .int (iN x2), .int (iN 1)] rfl (c_X10_go (by decide) x1 hx1 x2 hx2 1 (by decide) M h.KI) kL_92 rfl ⟨Nat.le_of_ble_eq_true rfl, Nat.le_of_ble_eq_true rfl⟩ hl.1 rfl (Nat.le_of_ble_eq_true rfl) dL_law_752 (fun v1 M1 H1 locs1 hp1 hT1 => ?_)
    obtain ⟨a1, ea1, -⟩ := id hp1
    subst ea1
    refine rw_stk (st' := [.int (iN a1)]) rfl ?_
    refine lv_aload_n hx hb dL_law_755 rfl (lv_at hl 1 rfl) ?_
    refine law_ld C hT1.1.S (lv := [(2, .ref (ad2 0)), (1, .ref (ad1 0))]) hl (k := 1) hi (by omega) dL_law_756 dL_law_757 dL_law_758 dL_law_759 dL_law_760 ?_
    rw [e1]
    refine law_ld C hT1.1.S (lv := [(2, .ref (ad2 0)), (1, .ref (ad1 0))]) hl (k := 2) hi (by omega) dL_law_761 dL_law_762 dL_law_763 dL_law_764 dL_law_765 ?_
    rw [e2]
    refine law_ld C hT1.1.S (lv := [(2, .ref (ad2 0)), (1, .ref (ad1 0))]) hl (k := 3) hi (by omega) dL_law_766 dL_law_767 dL_law_768 dL_law_769 dL_law_770 ?_
    rw [e3]
    refine rw_if_eq (tgt := 778) hx hb dL_law_771 (by decide) hx3 (fun c9 => absurd c9 c3) (fun _ => ?_)
    refine rw_iconst hx hb dL_law_774 ?_
    refine lv_goto (tgt := 779) hx hb dL_law_775 (by decide) ?_
    refine law_call2 C hT1 hc [.int (iN x1), .int (iN x2), .int (iN 1)] rfl (c_X11_go (by decide) x1 hx1 x2 hx2 1 (Or.inr rfl) S h.inv.1 h.inv.2) kL_96 rfl ⟨Nat.le_of_ble_eq_true rfl, Nat.le_of_ble_eq_true rfl⟩ hl.1 rfl (Nat.le_of_ble_eq_true rfl) dL_law_779 (fun v2 S1 H2 locs2 hp2 hT2 => ?_)
    obtain ⟨ev, hr⟩ := ag_go h x1 x2 1 _ _ _ _ hp1 hp2
    subst ev
    refine rw_stk (st' := [.int (iN a1), .int (iN a1)]) rfl ?_
    exact lv_icmp_eq (tgt := 1409) hx hb dL_law_782 (by decide) (fun _ => kk _ _ _ _ hT2 hr) (fun c9 => absurd rfl c9)
theorem law_ahead (C : LC p s m args c b L xs) (hT : Tw G CA ad1 ad2 s M S H locs) (h : RR M S) (hc : cells ≤ room_1.cells ∧ slots ≤ room_1.slots) {i : Int} (hi : 0 ≤ i ∧ i + 5 ≤ L) (hl : lv_has ls 4 [(3, .int (iN i)), (2, .ref (ad2 0)), (1, .ref (ad1 0)), (0, .ref b)])
    (kk : ∀ (M' S' : Mem) (H1 : Heap) (locs1 : List Loc), Tw G CA ad1 ad2 s M' S' H1 locs1 → RR M' S' → W p l e room_1 s m args below meth c H1 locs1 cells slots Q (F0 m 1409 ls [])) : W p l e room_1 s m args below meth c H locs cells slots Q (F0 m 787 ls []) := by
  obtain ⟨hx, hb, hml, hts, hown, hX, hbl, hL⟩ := id C
  obtain ⟨x1, hx1, e1⟩ := iN_of (xs (i + 1).toNat)
  refine lv_aload_n hx hb dL_law_787 rfl (lv_at hl 2 rfl) ?_
  refine law_ld C hT.1.S (lv := [(2, .ref (ad2 0)), (1, .ref (ad1 0))]) hl (k := 1) hi (by omega) dL_law_788 dL_law_789 dL_law_790 dL_law_791 dL_law_792 ?_
  rw [e1]
  refine law_call1 C hT hc [.int (iN x1)] rfl (c_X10_ahead (by decide) x1 hx1 M h.KI) kL_97 rfl ⟨Nat.le_of_ble_eq_true rfl, Nat.le_of_ble_eq_true rfl⟩ hl.1 rfl (Nat.le_of_ble_eq_true rfl) dL_law_793 (fun v1 M1 H1 locs1 hp1 hT1 => ?_)
  obtain ⟨a1, ea1, -⟩ := id hp1
  subst ea1
  refine rw_stk (st' := [.int (iN a1)]) rfl ?_
  refine lv_aload_n hx hb dL_law_796 rfl (lv_at hl 1 rfl) ?_
  refine law_ld C hT1.1.S (lv := [(2, .ref (ad2 0)), (1, .ref (ad1 0))]) hl (k := 1) hi (by omega) dL_law_797 dL_law_798 dL_law_799 dL_law_800 dL_law_801 ?_
  rw [e1]
  refine law_call2 C hT1 hc [.int (iN x1)] rfl (c_X11_ahead (by decide) x1 hx1 S h.inv.1 h.inv.2) kL_100 rfl ⟨Nat.le_of_ble_eq_true rfl, Nat.le_of_ble_eq_true rfl⟩ hl.1 rfl (Nat.le_of_ble_eq_true rfl) dL_law_802 (fun v2 S1 H2 locs2 hp2 hT2 => ?_)
  obtain ⟨ev, hr⟩ := ag_ahead h x1 _ _ _ _ hp1 hp2
  subst ev
  refine rw_stk (st' := [.int (iN a1), .int (iN a1)]) rfl ?_
  exact lv_icmp_eq (tgt := 1409) hx hb dL_law_805 (by decide) (fun _ => kk _ _ _ _ hT2 hr) (fun c9 => absurd rfl c9)
theorem law_over (C : LC p s m args c b L xs) (hT : Tw G CA ad1 ad2 s M S H locs) (h : RR M S) (hc : cells ≤ room_1.cells ∧ slots ≤ room_1.slots) {i : Int} (hi : 0 ≤ i ∧ i + 5 ≤ L) (hl : lv_has ls 4 [(3, .int (iN i)), (2, .ref (ad2 0)), (1, .ref (ad1 0)), (0, .ref b)])
    (kk : ∀ (M' S' : Mem) (H1 : Heap) (locs1 : List Loc), Tw G CA ad1 ad2 s M' S' H1 locs1 → RR M' S' → W p l e room_1 s m args below meth c H1 locs1 cells slots Q (F0 m 1409 ls [])) : W p l e room_1 s m args below meth c H locs cells slots Q (F0 m 810 ls []) := by
  obtain ⟨hx, hb, hml, hts, hown, hX, hbl, hL⟩ := id C
  refine lv_aload_n hx hb dL_law_810 rfl (lv_at hl 2 rfl) ?_
  refine law_call1 C hT hc [] rfl (c_X10_over (by decide) M h.KI) kL_101 rfl ⟨Nat.le_of_ble_eq_true rfl, Nat.le_of_ble_eq_true rfl⟩ hl.1 rfl (Nat.le_of_ble_eq_true rfl) dL_law_811 (fun v1 M1 H1 locs1 hp1 hT1 => ?_)
  obtain ⟨a1, ea1, -⟩ := id hp1
  subst ea1
  refine rw_stk (st' := [.int (iN a1)]) rfl ?_
  refine lv_aload_n hx hb dL_law_814 rfl (lv_at hl 1 rfl) ?_
  refine law_call2 C hT1 hc [] rfl (c_X11_over (by decide) S h.inv.1 h.inv.2) kL_104 rfl ⟨Nat.le_of_ble_eq_true rfl, Nat.le_of_ble_eq_true rfl⟩ hl.1 rfl (Nat.le_of_ble_eq_true rfl) dL_law_815 (fun v2 S1 H2 locs2 hp2 hT2 => ?_)
  obtain ⟨ev, hr⟩ := ag_over h  _ _ _ _ hp1 hp2
  subst ev
  refine rw_stk (st' := [.int (iN a1), .int (iN a1)]) rfl ?_
  exact lv_icmp_eq (tgt := 1409) hx hb dL_law_818 (by decide) (fun _ => kk _ _ _ _ hT2 hr) (fun c9 => absurd rfl c9)
theorem law_odds (C : LC p s m args c b L xs) (hT : Tw G CA ad1 ad2 s M S H locs) (h : RR M S) (hc : cells ≤ room_1.cells ∧ slots ≤ room_1.slots) {i : Int} (hi : 0 ≤ i ∧ i + 5 ≤ L) (hl : lv_has ls 4 [(3, .int (iN i)), (2, .ref (ad2 0)), (1, .ref (ad1 0)), (0, .ref b)])
    (kk : ∀ (M' S' : Mem) (H1 : Heap) (locs1 : List Loc), Tw G CA ad1 ad2 s M' S' H1 locs1 → RR M' S' → W p l e room_1 s m args below meth c H1 locs1 cells slots Q (F0 m 1409 ls [])) : W p l e room_1 s m args below meth c H locs cells slots Q (F0 m 823 ls []) := by
  obtain ⟨hx, hb, hml, hts, hown, hX, hbl, hL⟩ := id C
  obtain ⟨x1, hx1, e1⟩ := iN_of (xs (i + 1).toNat)
  obtain ⟨x2, hx2, e2⟩ := iN_of (xs (i + 2).toNat)
  obtain ⟨x3, hx3, e3⟩ := iN_of (xs (i + 3).toNat)
  refine lv_aload_n hx hb dL_law_823 rfl (lv_at hl 2 rfl) ?_
  refine law_ld C hT.1.S (lv := [(2, .ref (ad2 0)), (1, .ref (ad1 0))]) hl (k := 1) hi (by omega) dL_law_824 dL_law_825 dL_law_826 dL_law_827 dL_law_828 ?_
  rw [e1]
  refine law_ld C hT.1.S (lv := [(2, .ref (ad2 0)), (1, .ref (ad1 0))]) hl (k := 2) hi (by omega) dL_law_829 dL_law_830 dL_law_831 dL_law_832 dL_law_833 ?_
  rw [e2]
  refine law_ld C hT.1.S (lv := [(2, .ref (ad2 0)), (1, .ref (ad1 0))]) hl (k := 3) hi (by omega) dL_law_834 dL_law_835 dL_law_836 dL_law_837 dL_law_838 ?_
  rw [e3]
  refine law_call1 C hT hc [.int (iN x1), .int (iN x2), .int (iN x3)] rfl (c_X10_odds (by decide) x1 hx1 x2 hx2 x3 hx3 M h.KI) kL_105 rfl ⟨Nat.le_of_ble_eq_true rfl, Nat.le_of_ble_eq_true rfl⟩ hl.1 rfl (Nat.le_of_ble_eq_true rfl) dL_law_839 (fun v1 M1 H1 locs1 hp1 hT1 => ?_)
  obtain ⟨a1, ea1, -⟩ := id hp1
  subst ea1
  refine rw_stk (st' := [.long (jN a1)]) rfl ?_
  refine lv_aload_n hx hb dL_law_842 rfl (lv_at hl 1 rfl) ?_
  refine law_ld C hT1.1.S (lv := [(2, .ref (ad2 0)), (1, .ref (ad1 0))]) hl (k := 1) hi (by omega) dL_law_843 dL_law_844 dL_law_845 dL_law_846 dL_law_847 ?_
  rw [e1]
  refine law_ld C hT1.1.S (lv := [(2, .ref (ad2 0)), (1, .ref (ad1 0))]) hl (k := 2) hi (by omega) dL_law_848 dL_law_849 dL_law_850 dL_law_851 dL_law_852 ?_
  rw [e2]
  refine law_ld C hT1.1.S (lv := [(2, .ref (ad2 0)), (1, .ref (ad1 0))]) hl (k := 3) hi (by omega) dL_law_853 dL_law_854 dL_law_855 dL_law_856 dL_law_857 ?_
  rw [e3]
  refine law_call2 C hT1 hc [.int (iN x1), .int (iN x2), .int (iN x3)] rfl (c_X11_odds (by decide) x1 hx1 x2 hx2 x3 hx3 S h.inv.1 h.inv.2) kL_109 rfl ⟨Nat.le_of_ble_eq_true rfl, Nat.le_of_ble_eq_true rfl⟩ hl.1 rfl (Nat.le_of_ble_eq_true rfl) dL_law_858 (fun v2 S1 H2 locs2 hp2 hT2 => ?_)
  obtain ⟨ev, hr⟩ := ag_odds h x1 x2 x3 _ _ _ _ hp1 hp2
  subst ev
  refine rw_stk (st' := [.long (jN a1), .long (jN a1)]) rfl ?_
  exact W.lcmp hx hb dL_law_861 (lv_if_eq (tgt := 1409) hx hb dL_law_862 (by decide) (fun _ => kk _ _ _ _ hT2 hr) (fun c9 => absurd ((lg_cmp_eq _ _).mpr rfl) c9))
theorem law_mean (C : LC p s m args c b L xs) (hT : Tw G CA ad1 ad2 s M S H locs) (h : RR M S) (hc : cells ≤ room_1.cells ∧ slots ≤ room_1.slots) {i : Int} (hi : 0 ≤ i ∧ i + 5 ≤ L) (hl : lv_has ls 4 [(3, .int (iN i)), (2, .ref (ad2 0)), (1, .ref (ad1 0)), (0, .ref b)])
    (kk : ∀ (M' S' : Mem) (H1 : Heap) (locs1 : List Loc), Tw G CA ad1 ad2 s M' S' H1 locs1 → RR M' S' → W p l e room_1 s m args below meth c H1 locs1 cells slots Q (F0 m 1409 ls [])) : W p l e room_1 s m args below meth c H locs cells slots Q (F0 m 867 ls []) := by
  obtain ⟨hx, hb, hml, hts, hown, hX, hbl, hL⟩ := id C
  obtain ⟨x1, hx1, e1⟩ := iN_of (xs (i + 1).toNat)
  obtain ⟨x2, hx2, e2⟩ := iN_of (xs (i + 2).toNat)
  refine lv_aload_n hx hb dL_law_867 rfl (lv_at hl 2 rfl) ?_
  refine law_ld C hT.1.S (lv := [(2, .ref (ad2 0)), (1, .ref (ad1 0))]) hl (k := 1) hi (by omega) dL_law_868 dL_law_869 dL_law_870 dL_law_871 dL_law_872 ?_
  rw [e1]
  refine law_ld C hT.1.S (lv := [(2, .ref (ad2 0)), (1, .ref (ad1 0))]) hl (k := 2) hi (by omega) dL_law_873 dL_law_874 dL_law_875 dL_law_876 dL_law_877 ?_
  rw [e2]
  refine law_call1 C hT hc [.int (iN x1), .int (iN x2)] rfl (c_X10_mean (by decide) x1 hx1 x2 hx2 M h.KI) kL_110 rfl ⟨Nat.le_of_ble_eq_true rfl, Nat.le_of_ble_eq_true rfl⟩ hl.1 rfl (Nat.le_of_ble_eq_true rfl) dL_law_878 (fun v1 M1 H1 locs1 hp1 hT1 => ?_)
  obtain ⟨a1, ea1, -⟩ := id hp1
  subst ea1
  refine rw_stk (st' := [.long (jN a1)]) rfl ?_
  refine lv_aload_n hx hb dL_law_881 rfl (lv_at hl 1 rfl) ?_
  refine law_ld C hT1.1.S (lv := [(2, .ref (ad2 0)), (1, .ref (ad1 0))]) hl (k := 1) hi (by omega) dL_law_882 dL_law_883 dL_law_884 dL_law_885 dL_law_886 ?_
  rw [e1]
  refine law_ld C hT1.1.S (lv := [(2, .ref (ad2 0)), (1, .ref (ad1 0))]) hl (k := 2) hi (by omega) dL_law_887 dL_law_888 dL_law_889 dL_law_890 dL_law_891 ?_
  rw [e2]
  refine law_call2 C hT1 hc [.int (iN x1), .int (iN x2)] rfl (c_X11_mean (by decide) x1 hx1 x2 hx2 S h.inv.1 h.inv.2) kL_114 rfl ⟨Nat.le_of_ble_eq_true rfl, Nat.le_of_ble_eq_true rfl⟩ hl.1 rfl (Nat.le_of_ble_eq_true rfl) dL_law_892 (fun v2 S1 H2 locs2 hp2 hT2 => ?_)
  obtain ⟨ev, hr⟩ := ag_mean h x1 x2 _ _ _ _ hp1 hp2
  subst ev
  refine rw_stk (st' := [.long (jN a1), .long (jN a1)]) rfl ?_
  exact W.lcmp hx hb dL_law_895 (lv_if_eq (tgt := 1409) hx hb dL_law_896 (by decide) (fun _ => kk _ _ _ _ hT2 hr) (fun c9 => absurd ((lg_cmp_eq _ _).mpr rfl) c9))
theorem law_reply (C : LC p s m args c b L xs) (hT : Tw G CA ad1 ad2 s M S H locs) (h : RR M S) (hc : cells ≤ room_1.cells ∧ slots ≤ room_1.slots) {i : Int} (hi : 0 ≤ i ∧ i + 5 ≤ L) (hl : lv_has ls 4 [(3, .int (iN i)), (2, .ref (ad2 0)), (1, .ref (ad1 0)), (0, .ref b)])
    (kk : ∀ (M' S' : Mem) (H1 : Heap) (locs1 : List Loc), Tw G CA ad1 ad2 s M' S' H1 locs1 → RR M' S' → W p l e room_1 s m args below meth c H1 locs1 cells slots Q (F0 m 1409 ls [])) : W p l e room_1 s m args below meth c H locs cells slots Q (F0 m 901 ls []) := by
  obtain ⟨hx, hb, hml, hts, hown, hX, hbl, hL⟩ := id C
  obtain ⟨x1, hx1, e1⟩ := iN_of (xs (i + 1).toNat)
  obtain ⟨x2, hx2, e2⟩ := iN_of (xs (i + 2).toNat)
  obtain ⟨x3, hx3, e3⟩ := iN_of (xs (i + 3).toNat)
  refine lv_aload_n hx hb dL_law_901 rfl (lv_at hl 2 rfl) ?_
  refine law_ld C hT.1.S (lv := [(2, .ref (ad2 0)), (1, .ref (ad1 0))]) hl (k := 1) hi (by omega) dL_law_902 dL_law_903 dL_law_904 dL_law_905 dL_law_906 ?_
  rw [e1]
  refine law_ld C hT.1.S (lv := [(2, .ref (ad2 0)), (1, .ref (ad1 0))]) hl (k := 2) hi (by omega) dL_law_907 dL_law_908 dL_law_909 dL_law_910 dL_law_911 ?_
  rw [e2]
  refine law_ld C hT.1.S (lv := [(2, .ref (ad2 0)), (1, .ref (ad1 0))]) hl (k := 3) hi (by omega) dL_law_912 dL_law_913 dL_law_914 dL_law_915 dL_law_916 ?_
  rw [e3]
  refine law_call1 C hT hc [.int (iN x1), .int (iN x2), .int (iN x3)] rfl (c_X10_reply (by decide) x1 hx1 x2 hx2 x3 hx3 M h.KI) kL_115 rfl ⟨Nat.le_of_ble_eq_true rfl, Nat.le_of_ble_eq_true rfl⟩ hl.1 rfl (Nat.le_of_ble_eq_true rfl) dL_law_917 (fun v1 M1 H1 locs1 hp1 hT1 => ?_)
  obtain ⟨a1, ea1, -⟩ := id hp1
  subst ea1
  refine rw_stk (st' := [.int (iN a1)]) rfl ?_
  refine lv_aload_n hx hb dL_law_920 rfl (lv_at hl 1 rfl) ?_
  refine law_ld C hT1.1.S (lv := [(2, .ref (ad2 0)), (1, .ref (ad1 0))]) hl (k := 1) hi (by omega) dL_law_921 dL_law_922 dL_law_923 dL_law_924 dL_law_925 ?_
  rw [e1]
  refine law_ld C hT1.1.S (lv := [(2, .ref (ad2 0)), (1, .ref (ad1 0))]) hl (k := 2) hi (by omega) dL_law_926 dL_law_927 dL_law_928 dL_law_929 dL_law_930 ?_
  rw [e2]
  refine law_ld C hT1.1.S (lv := [(2, .ref (ad2 0)), (1, .ref (ad1 0))]) hl (k := 3) hi (by omega) dL_law_931 dL_law_932 dL_law_933 dL_law_934 dL_law_935 ?_
  rw [e3]
  refine law_call2 C hT1 hc [.int (iN x1), .int (iN x2), .int (iN x3)] rfl (c_X11_reply (by decide) x1 hx1 x2 hx2 x3 hx3 S h.inv.1 h.inv.2) kL_118 rfl ⟨Nat.le_of_ble_eq_true rfl, Nat.le_of_ble_eq_true rfl⟩ hl.1 rfl (Nat.le_of_ble_eq_true rfl) dL_law_936 (fun v2 S1 H2 locs2 hp2 hT2 => ?_)
  obtain ⟨ev, hr⟩ := ag_reply h x1 x2 x3 _ _ _ _ hp1 hp2
  subst ev
  refine rw_stk (st' := [.int (iN a1), .int (iN a1)]) rfl ?_
  exact lv_icmp_eq (tgt := 1409) hx hb dL_law_939 (by decide) (fun _ => kk _ _ _ _ hT2 hr) (fun c9 => absurd rfl c9)
theorem law_hold (C : LC p s m args c b L xs) (hT : Tw G CA ad1 ad2 s M S H locs) (h : RR M S) (hc : cells ≤ room_1.cells ∧ slots ≤ room_1.slots) {i : Int} (hi : 0 ≤ i ∧ i + 5 ≤ L) (hl : lv_has ls 4 [(3, .int (iN i)), (2, .ref (ad2 0)), (1, .ref (ad1 0)), (0, .ref b)])
    (kk : ∀ (M' S' : Mem) (H1 : Heap) (locs1 : List Loc), Tw G CA ad1 ad2 s M' S' H1 locs1 → RR M' S' → W p l e room_1 s m args below meth c H1 locs1 cells slots Q (F0 m 1409 ls [])) : W p l e room_1 s m args below meth c H locs cells slots Q (F0 m 944 ls []) := by
  obtain ⟨hx, hb, hml, hts, hown, hX, hbl, hL⟩ := id C
  obtain ⟨x1, hx1, e1⟩ := iN_of (xs (i + 1).toNat)
  obtain ⟨x2, hx2, e2⟩ := iN_of (xs (i + 2).toNat)
  obtain ⟨x3, hx3, e3⟩ := iN_of (xs (i + 3).toNat)
  refine lv_aload_n hx hb dL_law_944 rfl (lv_at hl 2 rfl) ?_
  refine law_ld C hT.1.S (lv := [(2, .ref (ad2 0)), (1, .ref (ad1 0))]) hl (k := 1) hi (by omega) dL_law_945 dL_law_946 dL_law_947 dL_law_948 dL_law_949 ?_
  rw [e1]
  refine law_ld C hT.1.S (lv := [(2, .ref (ad2 0)), (1, .ref (ad1 0))]) hl (k := 2) hi (by omega) dL_law_950 dL_law_951 dL_law_952 dL_law_953 dL_law_954 ?_
  rw [e2]
  refine law_ld C hT.1.S (lv := [(2, .ref (ad2 0)), (1, .ref (ad1 0))]) hl (k := 3) hi (by omega) dL_law_955 dL_law_956 dL_law_957 dL_law_958 dL_law_959 ?_
  rw [e3]
  refine law_call1 C hT hc [.int (iN x1), .int (iN x2), .int (iN x3)] rfl (c_X10_hold (by decide) x1 hx1 x2 hx2 x3 hx3 M h.KI) kL_119 rfl ⟨Nat.le_of_ble_eq_true rfl, Nat.le_of_ble_eq_true rfl⟩ hl.1 rfl (Nat.le_of_ble_eq_true rfl) dL_law_960 (fun v1 M1 H1 locs1 hp1 hT1 => ?_)
  obtain ⟨a1, ea1, -⟩ := id hp1
  subst ea1
  refine rw_stk (st' := [.int (iN a1)]) rfl ?_
  refine lv_aload_n hx hb dL_law_963 rfl (lv_at hl 1 rfl) ?_
  refine law_ld C hT1.1.S (lv := [(2, .ref (ad2 0)), (1, .ref (ad1 0))]) hl (k := 1) hi (by omega) dL_law_964 dL_law_965 dL_law_966 dL_law_967 dL_law_968 ?_
  rw [e1]
  refine law_ld C hT1.1.S (lv := [(2, .ref (ad2 0)), (1, .ref (ad1 0))]) hl (k := 2) hi (by omega) dL_law_969 dL_law_970 dL_law_971 dL_law_972 dL_law_973 ?_
  rw [e2]
  refine law_ld C hT1.1.S (lv := [(2, .ref (ad2 0)), (1, .ref (ad1 0))]) hl (k := 3) hi (by omega) dL_law_974 dL_law_975 dL_law_976 dL_law_977 dL_law_978 ?_
  rw [e3]
  refine law_call2 C hT1 hc [.int (iN x1), .int (iN x2), .int (iN x3)] rfl (c_X11_hold (by decide) x1 hx1 x2 hx2 x3 hx3 S h.inv.1 h.inv.2) kL_122 rfl ⟨Nat.le_of_ble_eq_true rfl, Nat.le_of_ble_eq_true rfl⟩ hl.1 rfl (Nat.le_of_ble_eq_true rfl) dL_law_979 (fun v2 S1 H2 locs2 hp2 hT2 => ?_)
  obtain ⟨ev, hr⟩ := ag_hold h x1 x2 x3 _ _ _ _ hp1 hp2
  subst ev
  refine rw_stk (st' := [.int (iN a1), .int (iN a1)]) rfl ?_
  exact lv_icmp_eq (tgt := 1409) hx hb dL_law_982 (by decide) (fun _ => kk _ _ _ _ hT2 hr) (fun c9 => absurd rfl c9)
theorem law_table (C : LC p s m args c b L xs) (hT : Tw G CA ad1 ad2 s M S H locs) (h : RR M S) (hc : cells ≤ room_1.cells ∧ slots ≤ room_1.slots) {i : Int} (hi : 0 ≤ i ∧ i + 5 ≤ L) (hl : lv_has ls 4 [(3, .int (iN i)), (2, .ref (ad2 0)), (1, .ref (ad1 0)), (0, .ref b)])
    (kk : ∀ (M' S' : Mem) (H1 : Heap) (locs1 : List Loc), Tw G CA ad1 ad2 s M' S' H1 locs1 → RR M' S' → W p l e room_1 s m args below meth c H1 locs1 cells slots Q (F0 m 1409 ls [])) : W p l e room_1 s m args below meth c H locs cells slots Q (F0 m 987 ls []) := by
  obtain ⟨hx, hb, hml, hts, hown, hX, hbl, hL⟩ := id C
  obtain ⟨x1, hx1, e1⟩ := iN_of (xs (i + 1).toNat)
  obtain ⟨x2, hx2, e2⟩ := iN_of (xs (i + 2).toNat)
  obtain ⟨x3, hx3, e3⟩ := iN_of (xs (i + 3).toNat)
  refine lv_aload_n hx hb dL_law_987 rfl (lv_at hl 2 rfl) ?_
  refine law_ld C hT.1.S (lv := [(2, .ref (ad2 0)), (1, .ref (ad1 0))]) hl (k := 1) hi (by omega) dL_law_988 dL_law_989 dL_law_990 dL_law_991 dL_law_992 ?_
  rw [e1]
  refine law_ld C hT.1.S (lv := [(2, .ref (ad2 0)), (1, .ref (ad1 0))]) hl (k := 2) hi (by omega) dL_law_993 dL_law_994 dL_law_995 dL_law_996 dL_law_997 ?_
  rw [e2]
  refine law_ld C hT.1.S (lv := [(2, .ref (ad2 0)), (1, .ref (ad1 0))]) hl (k := 3) hi (by omega) dL_law_998 dL_law_999 dL_law_1000 dL_law_1001 dL_law_1002 ?_
  rw [e3]
  refine law_call1 C hT hc [.int (iN x1), .int (iN x2), .int (iN x3)] rfl (c_X10_table (by decide) x1 hx1 x2 hx2 x3 hx3 M h.KI) kL_123 rfl ⟨Nat.le_of_ble_eq_true rfl, Nat.le_of_ble_eq_true rfl⟩ hl.1 rfl (Nat.le_of_ble_eq_true rfl) dL_law_1003 (fun v1 M1 H1 locs1 hp1 hT1 => ?_)
  obtain ⟨a1, ea1, -⟩ := id hp1
  subst ea1
  refine rw_stk (st' := [.int (iN a1)]) rfl ?_
  refine lv_aload_n hx hb dL_law_1006 rfl (lv_at hl 1 rfl) ?_
  refine law_ld C hT1.1.S (lv := [(2, .ref (ad2 0)), (1, .ref (ad1 0))]) hl (k := 1) hi (by omega) dL_law_1007 dL_law_1008 dL_law_1009 dL_law_1010 dL_law_1011 ?_
  rw [e1]
  refine law_ld C hT1.1.S (lv := [(2, .ref (ad2 0)), (1, .ref (ad1 0))]) hl (k := 2) hi (by omega) dL_law_1012 dL_law_1013 dL_law_1014 dL_law_1015 dL_law_1016 ?_
  rw [e2]
  refine law_ld C hT1.1.S (lv := [(2, .ref (ad2 0)), (1, .ref (ad1 0))]) hl (k := 3) hi (by omega) dL_law_1017 dL_law_1018 dL_law_1019 dL_law_1020 dL_law_1021 ?_
  rw [e3]
  refine law_call2 C hT1 hc [.int (iN x1), .int (iN x2), .int (iN x3)] rfl (c_X11_table (by decide) x1 hx1 x2 hx2 x3 hx3 S h.inv.1 h.inv.2) kL_126 rfl ⟨Nat.le_of_ble_eq_true rfl, Nat.le_of_ble_eq_true rfl⟩ hl.1 rfl (Nat.le_of_ble_eq_true rfl) dL_law_1022 (fun v2 S1 H2 locs2 hp2 hT2 => ?_)
  obtain ⟨ev, hr⟩ := ag_table h x1 x2 x3 _ _ _ _ hp1 hp2
  subst ev
  refine rw_stk (st' := [.int (iN a1), .int (iN a1)]) rfl ?_
  exact lv_icmp_eq (tgt := 1409) hx hb dL_law_1025 (by decide) (fun _ => kk _ _ _ _ hT2 hr) (fun c9 => absurd rfl c9)
theorem law_without (C : LC p s m args c b L xs) (hT : Tw G CA ad1 ad2 s M S H locs) (h : RR M S) (hc : cells ≤ room_1.cells ∧ slots ≤ room_1.slots) {i : Int} (hi : 0 ≤ i ∧ i + 5 ≤ L) (hl : lv_has ls 4 [(3, .int (iN i)), (2, .ref (ad2 0)), (1, .ref (ad1 0)), (0, .ref b)])
    (kk : ∀ (M' S' : Mem) (H1 : Heap) (locs1 : List Loc), Tw G CA ad1 ad2 s M' S' H1 locs1 → RR M' S' → W p l e room_1 s m args below meth c H1 locs1 cells slots Q (F0 m 1409 ls [])) : W p l e room_1 s m args below meth c H locs cells slots Q (F0 m 1030 ls []) := by
  obtain ⟨hx, hb, hml, hts, hown, hX, hbl, hL⟩ := id C
  obtain ⟨x1, hx1, e1⟩ := iN_of (xs (i + 1).toNat)
  obtain ⟨x2, hx2, e2⟩ := iN_of (xs (i + 2).toNat)
  refine lv_aload_n hx hb dL_law_1030 rfl (lv_at hl 2 rfl) ?_
  refine law_ld C hT.1.S (lv := [(2, .ref (ad2 0)), (1, .ref (ad1 0))]) hl (k := 1) hi (by omega) dL_law_1031 dL_law_1032 dL_law_1033 dL_law_1034 dL_law_1035 ?_
  rw [e1]
  refine law_ld C hT.1.S (lv := [(2, .ref (ad2 0)), (1, .ref (ad1 0))]) hl (k := 2) hi (by omega) dL_law_1036 dL_law_1037 dL_law_1038 dL_law_1039 dL_law_1040 ?_
  rw [e2]
  refine law_call1 C hT hc [.int (iN x1), .int (iN x2)] rfl (c_X10_without (by decide) x1 hx1 x2 hx2 M h.KI) kL_127 rfl ⟨Nat.le_of_ble_eq_true rfl, Nat.le_of_ble_eq_true rfl⟩ hl.1 rfl (Nat.le_of_ble_eq_true rfl) dL_law_1041 (fun v1 M1 H1 locs1 hp1 hT1 => ?_)
  obtain ⟨a1, ea1, -⟩ := id hp1
  subst ea1
  refine rw_stk (st' := [.int (iN a1)]) rfl ?_
  refine lv_aload_n hx hb dL_law_1044 rfl (lv_at hl 1 rfl) ?_
  refine law_ld C hT1.1.S (lv := [(2, .ref (ad2 0)), (1, .ref (ad1 0))]) hl (k := 1) hi (by omega) dL_law_1045 dL_law_1046 dL_law_1047 dL_law_1048 dL_law_1049 ?_
  rw [e1]
  refine law_ld C hT1.1.S (lv := [(2, .ref (ad2 0)), (1, .ref (ad1 0))]) hl (k := 2) hi (by omega) dL_law_1050 dL_law_1051 dL_law_1052 dL_law_1053 dL_law_1054 ?_
  rw [e2]
  refine law_call2 C hT1 hc [.int (iN x1), .int (iN x2)] rfl (c_X11_without (by decide) x1 hx1 x2 hx2 S h.inv.1 h.inv.2) kL_130 rfl ⟨Nat.le_of_ble_eq_true rfl, Nat.le_of_ble_eq_true rfl⟩ hl.1 rfl (Nat.le_of_ble_eq_true rfl) dL_law_1055 (fun v2 S1 H2 locs2 hp2 hT2 => ?_)
  obtain ⟨ev, hr⟩ := ag_without h x1 x2 _ _ _ _ hp1 hp2
  subst ev
  refine rw_stk (st' := [.int (iN a1), .int (iN a1)]) rfl ?_
  exact lv_icmp_eq (tgt := 1409) hx hb dL_law_1058 (by decide) (fun _ => kk _ _ _ _ hT2 hr) (fun c9 => absurd rfl c9)
theorem law_tell (C : LC p s m args c b L xs) (hT : Tw G CA ad1 ad2 s M S H locs) (h : RR M S) (hc : cells ≤ room_1.cells ∧ slots ≤ room_1.slots) {i : Int} (hi : 0 ≤ i ∧ i + 5 ≤ L) (hl : lv_has ls 4 [(3, .int (iN i)), (2, .ref (ad2 0)), (1, .ref (ad1 0)), (0, .ref b)])
    (kk : ∀ (M' S' : Mem) (H1 : Heap) (locs1 : List Loc), Tw G CA ad1 ad2 s M' S' H1 locs1 → RR M' S' → W p l e room_1 s m args below meth c H1 locs1 cells slots Q (F0 m 1409 ls [])) : W p l e room_1 s m args below meth c H locs cells slots Q (F0 m 1063 ls []) := by
  obtain ⟨hx, hb, hml, hts, hown, hX, hbl, hL⟩ := id C
  obtain ⟨x1, hx1, e1⟩ := iN_of (xs (i + 1).toNat)
  obtain ⟨x2, hx2, e2⟩ := iN_of (xs (i + 2).toNat)
  refine lv_aload_n hx hb dL_law_1063 rfl (lv_at hl 2 rfl) ?_
  refine law_ld C hT.1.S (lv := [(2, .ref (ad2 0)), (1, .ref (ad1 0))]) hl (k := 1) hi (by omega) dL_law_1064 dL_law_1065 dL_law_1066 dL_law_1067 dL_law_1068 ?_
  rw [e1]
  refine law_ld C hT.1.S (lv := [(2, .ref (ad2 0)), (1, .ref (ad1 0))]) hl (k := 2) hi (by omega) dL_law_1069 dL_law_1070 dL_law_1071 dL_law_1072 dL_law_1073 ?_
  rw [e2]
  refine law_call1 C hT hc [.int (iN x1), .int (iN x2)] rfl (c_X10_tell (by decide) x1 hx1 x2 hx2 M h.KI) kL_131 rfl ⟨Nat.le_of_ble_eq_true rfl, Nat.le_of_ble_eq_true rfl⟩ hl.1 rfl (Nat.le_of_ble_eq_true rfl) dL_law_1074 (fun v1 M1 H1 locs1 hp1 hT1 => ?_)
  obtain ⟨a1, ea1, -⟩ := id hp1
  subst ea1
  refine rw_stk (st' := [.int (iN a1)]) rfl ?_
  refine lv_aload_n hx hb dL_law_1077 rfl (lv_at hl 1 rfl) ?_
  refine law_ld C hT1.1.S (lv := [(2, .ref (ad2 0)), (1, .ref (ad1 0))]) hl (k := 1) hi (by omega) dL_law_1078 dL_law_1079 dL_law_1080 dL_law_1081 dL_law_1082 ?_
  rw [e1]
  refine law_ld C hT1.1.S (lv := [(2, .ref (ad2 0)), (1, .ref (ad1 0))]) hl (k := 2) hi (by omega) dL_law_1083 dL_law_1084 dL_law_1085 dL_law_1086 dL_law_1087 ?_
  rw [e2]
  refine law_call2 C hT1 hc [.int (iN x1), .int (iN x2)] rfl (c_X11_tell (by decide) x1 hx1 x2 hx2 S h.told h.inv.1 h.inv.2) kL_134 rfl ⟨Nat.le_of_ble_eq_true rfl, Nat.le_of_ble_eq_true rfl⟩ hl.1 rfl (Nat.le_of_ble_eq_true rfl) dL_law_1088 (fun v2 S1 H2 locs2 hp2 hT2 => ?_)
  obtain ⟨ev, hr⟩ := ag_tell h x1 x2 _ _ _ _ hp1 hp2
  subst ev
  refine rw_stk (st' := [.int (iN a1), .int (iN a1)]) rfl ?_
  exact lv_icmp_eq (tgt := 1409) hx hb dL_law_1091 (by decide) (fun _ => kk _ _ _ _ hT2 hr) (fun c9 => absurd rfl c9)
theorem law_forget (C : LC p s m args c b L xs) (hT : Tw G CA ad1 ad2 s M S H locs) (h : RR M S) (hc : cells ≤ room_1.cells ∧ slots ≤ room_1.slots) {i : Int} (hi : 0 ≤ i ∧ i + 5 ≤ L) (hl : lv_has ls 4 [(3, .int (iN i)), (2, .ref (ad2 0)), (1, .ref (ad1 0)), (0, .ref b)])
    (kk : ∀ (M' S' : Mem) (H1 : Heap) (locs1 : List Loc), Tw G CA ad1 ad2 s M' S' H1 locs1 → RR M' S' → W p l e room_1 s m args below meth c H1 locs1 cells slots Q (F0 m 1409 ls [])) : W p l e room_1 s m args below meth c H locs cells slots Q (F0 m 1096 ls []) := by
  obtain ⟨hx, hb, hml, hts, hown, hX, hbl, hL⟩ := id C
  obtain ⟨x1, hx1, e1⟩ := iN_of (xs (i + 1).toNat)
  refine lv_aload_n hx hb dL_law_1096 rfl (lv_at hl 2 rfl) ?_
  refine law_ld C hT.1.S (lv := [(2, .ref (ad2 0)), (1, .ref (ad1 0))]) hl (k := 1) hi (by omega) dL_law_1097 dL_law_1098 dL_law_1099 dL_law_1100 dL_law_1101 ?_
  rw [e1]
  refine law_call1 C hT hc [.int (iN x1)] rfl (c_X10_forget (by decide) x1 hx1 M h.KI) kL_135 rfl ⟨Nat.le_of_ble_eq_true rfl, Nat.le_of_ble_eq_true rfl⟩ hl.1 rfl (Nat.le_of_ble_eq_true rfl) dL_law_1102 (fun v1 M1 H1 locs1 hp1 hT1 => ?_)
  obtain ⟨a1, ea1, -⟩ := id hp1
  subst ea1
  refine rw_stk (st' := [.int (iN a1)]) rfl ?_
  refine lv_aload_n hx hb dL_law_1105 rfl (lv_at hl 1 rfl) ?_
  refine law_ld C hT1.1.S (lv := [(2, .ref (ad2 0)), (1, .ref (ad1 0))]) hl (k := 1) hi (by omega) dL_law_1106 dL_law_1107 dL_law_1108 dL_law_1109 dL_law_1110 ?_
  rw [e1]
  refine law_call2 C hT1 hc [.int (iN x1)] rfl (c_X11_forget (by decide) x1 hx1 S h.told) kL_138 rfl ⟨Nat.le_of_ble_eq_true rfl, Nat.le_of_ble_eq_true rfl⟩ hl.1 rfl (Nat.le_of_ble_eq_true rfl) dL_law_1111 (fun v2 S1 H2 locs2 hp2 hT2 => ?_)
  obtain ⟨ev, hr⟩ := ag_forget h x1 _ _ _ _ hp1 hp2
  subst ev
  refine rw_stk (st' := [.int (iN a1), .int (iN a1)]) rfl ?_
  exact lv_icmp_eq (tgt := 1409) hx hb dL_law_1114 (by decide) (fun _ => kk _ _ _ _ hT2 hr) (fun c9 => absurd rfl c9)
theorem law_lies (C : LC p s m args c b L xs) (hT : Tw G CA ad1 ad2 s M S H locs) (h : RR M S) (hc : cells ≤ room_1.cells ∧ slots ≤ room_1.slots) {i : Int} (hi : 0 ≤ i ∧ i + 5 ≤ L) (hl : lv_has ls 4 [(3, .int (iN i)), (2, .ref (ad2 0)), (1, .ref (ad1 0)), (0, .ref b)])
    (kk : ∀ (M' S' : Mem) (H1 : Heap) (locs1 : List Loc), Tw G CA ad1 ad2 s M' S' H1 locs1 → RR M' S' → W p l e room_1 s m args below meth c H1 locs1 cells slots Q (F0 m 1409 ls [])) : W p l e room_1 s m args below meth c H locs cells slots Q (F0 m 1119 ls []) := by
  obtain ⟨hx, hb, hml, hts, hown, hX, hbl, hL⟩ := id C
  refine lv_aload_n hx hb dL_law_1119 rfl (lv_at hl 2 rfl) ?_
  refine law_call1 C hT hc [] rfl (c_X10_lies (by decide) M h.KI) kL_139 rfl ⟨Nat.le_of_ble_eq_true rfl, Nat.le_of_ble_eq_true rfl⟩ hl.1 rfl (Nat.le_of_ble_eq_true rfl) dL_law_1120 (fun v1 M1 H1 locs1 hp1 hT1 => ?_)
  obtain ⟨a1, ea1, -⟩ := id hp1
  subst ea1
  refine rw_stk (st' := [.int (iN a1)]) rfl ?_
  refine lv_aload_n hx hb dL_law_1123 rfl (lv_at hl 1 rfl) ?_
  refine law_call2 C hT1 hc [] rfl (c_X11_lies (by decide) S h.told h.inv.1 h.inv.2) kL_142 rfl ⟨Nat.le_of_ble_eq_true rfl, Nat.le_of_ble_eq_true rfl⟩ hl.1 rfl (Nat.le_of_ble_eq_true rfl) dL_law_1124 (fun v2 S1 H2 locs2 hp2 hT2 => ?_)
  obtain ⟨ev, hr⟩ := ag_lies h  _ _ _ _ hp1 hp2
  subst ev
  refine rw_stk (st' := [.int (iN a1), .int (iN a1)]) rfl ?_
  exact lv_icmp_eq (tgt := 1409) hx hb dL_law_1127 (by decide) (fun _ => kk _ _ _ _ hT2 hr) (fun c9 => absurd rfl c9)
theorem law_where (C : LC p s m args c b L xs) (hT : Tw G CA ad1 ad2 s M S H locs) (h : RR M S) (hc : cells ≤ room_1.cells ∧ slots ≤ room_1.slots) {i : Int} (hi : 0 ≤ i ∧ i + 5 ≤ L) (hl : lv_has ls 4 [(3, .int (iN i)), (2, .ref (ad2 0)), (1, .ref (ad1 0)), (0, .ref b)])
    (kk : ∀ (M' S' : Mem) (H1 : Heap) (locs1 : List Loc), Tw G CA ad1 ad2 s M' S' H1 locs1 → RR M' S' → W p l e room_1 s m args below meth c H1 locs1 cells slots Q (F0 m 1409 ls [])) : W p l e room_1 s m args below meth c H locs cells slots Q (F0 m 1132 ls []) := by
  obtain ⟨hx, hb, hml, hts, hown, hX, hbl, hL⟩ := id C
  refine lv_aload_n hx hb dL_law_1132 rfl (lv_at hl 2 rfl) ?_
  refine law_call1 C hT hc [] rfl (c_X10_where (by decide) M h.KI) kL_143 rfl ⟨Nat.le_of_ble_eq_true rfl, Nat.le_of_ble_eq_true rfl⟩ hl.1 rfl (Nat.le_of_ble_eq_true rfl) dL_law_1133 (fun v1 M1 H1 locs1 hp1 hT1 => ?_)
  obtain ⟨a1, ea1, -⟩ := id hp1
  subst ea1
  refine rw_stk (st' := [.int (iN a1)]) rfl ?_
  refine lv_aload_n hx hb dL_law_1136 rfl (lv_at hl 1 rfl) ?_
  refine law_call2 C hT1 hc [] rfl (c_X11_where (by decide) S h.told h.inv.1 h.inv.2) kL_146 rfl ⟨Nat.le_of_ble_eq_true rfl, Nat.le_of_ble_eq_true rfl⟩ hl.1 rfl (Nat.le_of_ble_eq_true rfl) dL_law_1137 (fun v2 S1 H2 locs2 hp2 hT2 => ?_)
  obtain ⟨ev, hr⟩ := ag_where h  _ _ _ _ hp1 hp2
  subst ev
  refine rw_stk (st' := [.int (iN a1), .int (iN a1)]) rfl ?_
  exact lv_icmp_eq (tgt := 1409) hx hb dL_law_1140 (by decide) (fun _ => kk _ _ _ _ hT2 hr) (fun c9 => absurd rfl c9)
theorem law_play (C : LC p s m args c b L xs) (hT : Tw G CA ad1 ad2 s M S H locs) (h : RR M S) (hc : cells ≤ room_1.cells ∧ slots ≤ room_1.slots) {i : Int} (hi : 0 ≤ i ∧ i + 5 ≤ L) (hl : lv_has ls 4 [(3, .int (iN i)), (2, .ref (ad2 0)), (1, .ref (ad1 0)), (0, .ref b)])
    (kk : ∀ (M' S' : Mem) (H1 : Heap) (locs1 : List Loc), Tw G CA ad1 ad2 s M' S' H1 locs1 → RR M' S' → W p l e room_1 s m args below meth c H1 locs1 cells slots Q (F0 m 1409 ls [])) : W p l e room_1 s m args below meth c H locs cells slots Q (F0 m 1145 ls []) := by
  obtain ⟨hx, hb, hml, hts, hown, hX, hbl, hL⟩ := id C
  obtain ⟨x2, hx2, e2⟩ := iN_of (xs (i + 2).toNat)
  obtain ⟨x3, hx3, e3⟩ := iN_of (xs (i + 3).toNat)
  refine lv_aload_n hx hb dL_law_1145 rfl (lv_at hl 2 rfl) ?_
  refine law_ld C hT.1.S (lv := [(2, .ref (ad2 0)), (1, .ref (ad1 0))]) hl (k := 1) hi (by omega) dL_law_1146 dL_law_1147 dL_law_1148 dL_law_1149 dL_law_1150 ?_
  refine law_ld C hT.1.S (lv := [(2, .ref (ad2 0)), (1, .ref (ad1 0))]) hl (k := 2) hi (by omega) dL_law_1151 dL_law_1152 dL_law_1153 dL_law_1154 dL_law_1155 ?_
  rw [e2]
  refine law_ld C hT.1.S (lv := [(2, .ref (ad2 0)), (1, .ref (ad1 0))]) hl (k := 3) hi (by omega) dL_law_1156 dL_law_1157 dL_law_1158 dL_law_1159 dL_law_1160 ?_
  rw [e3]
  refine law_call1 C hT hc [.int (xs (i + 1).toNat), .int (iN x2), .int (iN x3)] rfl (c_X10_play (by decide) (xs (i + 1).toNat) x2 hx2 x3 hx3 M h.KI) kL_147 rfl ⟨Nat.le_of_ble_eq_true rfl, Nat.le_of_ble_eq_true rfl⟩ hl.1 rfl (Nat.le_of_ble_eq_true rfl) dL_law_1161 (fun v1 M1 H1 locs1 hp1 hT1 => ?_)
  obtain ⟨a1, ea1, -⟩ := id hp1
  subst ea1
  refine rw_stk (st' := [.int (iN a1)]) rfl ?_
  refine lv_aload_n hx hb dL_law_1164 rfl (lv_at hl 1 rfl) ?_
  refine law_ld C hT1.1.S (lv := [(2, .ref (ad2 0)), (1, .ref (ad1 0))]) hl (k := 1) hi (by omega) dL_law_1165 dL_law_1166 dL_law_1167 dL_law_1168 dL_law_1169 ?_
  refine law_ld C hT1.1.S (lv := [(2, .ref (ad2 0)), (1, .ref (ad1 0))]) hl (k := 2) hi (by omega) dL_law_1170 dL_law_1171 dL_law_1172 dL_law_1173 dL_law_1174 ?_
  rw [e2]
  refine law_ld C hT1.1.S (lv := [(2, .ref (ad2 0)), (1, .ref (ad1 0))]) hl (k := 3) hi (by omega) dL_law_1175 dL_law_1176 dL_law_1177 dL_law_1178 dL_law_1179 ?_
  rw [e3]
  refine law_call2 C hT1 hc [.int (xs (i + 1).toNat), .int (iN x2), .int (iN x3)] rfl (c_X11_play (by decide) (xs (i + 1).toNat) x2 hx2 x3 hx3 S h.inv.1 h.inv.2) kL_150 rfl ⟨Nat.le_of_ble_eq_true rfl, Nat.le_of_ble_eq_true rfl⟩ hl.1 rfl (Nat.le_of_ble_eq_true rfl) dL_law_1180 (fun v2 S1 H2 locs2 hp2 hT2 => ?_)
  obtain ⟨ev, hr⟩ := ag_play h (xs (i + 1).toNat) x2 x3 _ _ _ _ hp1 hp2
  subst ev
  refine rw_stk (st' := [.int (iN a1), .int (iN a1)]) rfl ?_
  exact lv_icmp_eq (tgt := 1409) hx hb dL_law_1183 (by decide) (fun _ => kk _ _ _ _ hT2 hr) (fun c9 => absurd rfl c9)
theorem law_keep (C : LC p s m args c b L xs) (hT : Tw G CA ad1 ad2 s M S H locs) (h : RR M S) (hc : cells ≤ room_1.cells ∧ slots ≤ room_1.slots) {i : Int} (hi : 0 ≤ i ∧ i + 5 ≤ L) (hl : lv_has ls 4 [(3, .int (iN i)), (2, .ref (ad2 0)), (1, .ref (ad1 0)), (0, .ref b)])
    (kk : ∀ (M' S' : Mem) (H1 : Heap) (locs1 : List Loc), Tw G CA ad1 ad2 s M' S' H1 locs1 → RR M' S' → W p l e room_1 s m args below meth c H1 locs1 cells slots Q (F0 m 1409 ls [])) : W p l e room_1 s m args below meth c H locs cells slots Q (F0 m 1188 ls []) := by
  obtain ⟨hx, hb, hml, hts, hown, hX, hbl, hL⟩ := id C
  obtain ⟨x1, hx1, e1⟩ := iN_of (xs (i + 1).toNat)
  refine lv_aload_n hx hb dL_law_1188 rfl (lv_at hl 2 rfl) ?_
  refine law_ld C hT.1.S (lv := [(2, .ref (ad2 0)), (1, .ref (ad1 0))]) hl (k := 1) hi (by omega) dL_law_1189 dL_law_1190 dL_law_1191 dL_law_1192 dL_law_1193 ?_
  rw [e1]
  refine law_call1 C hT hc [.int (iN x1)] rfl (c_X10_keep (by decide) x1 hx1 M h.KI) kL_151 rfl ⟨Nat.le_of_ble_eq_true rfl, Nat.le_of_ble_eq_true rfl⟩ hl.1 rfl (Nat.le_of_ble_eq_true rfl) dL_law_1194 (fun v1 M1 H1 locs1 hp1 hT1 => ?_)
  obtain ⟨a1, ea1, -⟩ := id hp1
  subst ea1
  refine rw_stk (st' := [.int (iN a1)]) rfl ?_
  refine lv_aload_n hx hb dL_law_1197 rfl (lv_at hl 1 rfl) ?_
  refine law_ld C hT1.1.S (lv := [(2, .ref (ad2 0)), (1, .ref (ad1 0))]) hl (k := 1) hi (by omega) dL_law_1198 dL_law_1199 dL_law_1200 dL_law_1201 dL_law_1202 ?_
  rw [e1]
  refine law_call2 C hT1 hc [.int (iN x1)] rfl (c_X11_keep (by decide) x1 hx1 S ⟨h.2.1.1, h.2.1.2.1⟩) kL_154 rfl ⟨Nat.le_of_ble_eq_true rfl, Nat.le_of_ble_eq_true rfl⟩ hl.1 rfl (Nat.le_of_ble_eq_true rfl) dL_law_1203 (fun v2 S1 H2 locs2 hp2 hT2 => ?_)
  obtain ⟨ev, hr⟩ := ag_keep h x1 _ _ _ _ hp1 hp2
  subst ev
  refine rw_stk (st' := [.int (iN a1), .int (iN a1)]) rfl ?_
  exact lv_icmp_eq (tgt := 1409) hx hb dL_law_1206 (by decide) (fun _ => kk _ _ _ _ hT2 hr) (fun c9 => absurd rfl c9)
theorem law_back (C : LC p s m args c b L xs) (hT : Tw G CA ad1 ad2 s M S H locs) (h : RR M S) (hc : cells ≤ room_1.cells ∧ slots ≤ room_1.slots) {i : Int} (hi : 0 ≤ i ∧ i + 5 ≤ L) (hl : lv_has ls 4 [(3, .int (iN i)), (2, .ref (ad2 0)), (1, .ref (ad1 0)), (0, .ref b)])
    (kk : ∀ (M' S' : Mem) (H1 : Heap) (locs1 : List Loc), Tw G CA ad1 ad2 s M' S' H1 locs1 → RR M' S' → W p l e room_1 s m args below meth c H1 locs1 cells slots Q (F0 m 1409 ls [])) : W p l e room_1 s m args below meth c H locs cells slots Q (F0 m 1211 ls []) := by
  obtain ⟨hx, hb, hml, hts, hown, hX, hbl, hL⟩ := id C
  obtain ⟨x1, hx1, e1⟩ := iN_of (xs (i + 1).toNat)
  refine lv_aload_n hx hb dL_law_1211 rfl (lv_at hl 2 rfl) ?_
  refine law_ld C hT.1.S (lv := [(2, .ref (ad2 0)), (1, .ref (ad1 0))]) hl (k := 1) hi (by omega) dL_law_1212 dL_law_1213 dL_law_1214 dL_law_1215 dL_law_1216 ?_
  rw [e1]
  refine law_call1 C hT hc [.int (iN x1)] rfl (c_X10_back (by decide) x1 hx1 M h.KI) kL_155 rfl ⟨Nat.le_of_ble_eq_true rfl, Nat.le_of_ble_eq_true rfl⟩ hl.1 rfl (Nat.le_of_ble_eq_true rfl) dL_law_1217 (fun v1 M1 H1 locs1 hp1 hT1 => ?_)
  obtain ⟨a1, ea1, -⟩ := id hp1
  subst ea1
  refine rw_stk (st' := [.int (iN a1)]) rfl ?_
  refine lv_aload_n hx hb dL_law_1220 rfl (lv_at hl 1 rfl) ?_
  refine law_ld C hT1.1.S (lv := [(2, .ref (ad2 0)), (1, .ref (ad1 0))]) hl (k := 1) hi (by omega) dL_law_1221 dL_law_1222 dL_law_1223 dL_law_1224 dL_law_1225 ?_
  rw [e1]
  refine law_call2 C hT1 hc [.int (iN x1)] rfl (c_X11_back (by decide) x1 hx1 S ⟨h.2.1.1, h.2.1.2.1⟩) kL_158 rfl ⟨Nat.le_of_ble_eq_true rfl, Nat.le_of_ble_eq_true rfl⟩ hl.1 rfl (Nat.le_of_ble_eq_true rfl) dL_law_1226 (fun v2 S1 H2 locs2 hp2 hT2 => ?_)
  obtain ⟨ev, hr⟩ := ag_back h x1 _ _ _ _ hp1 hp2
  subst ev
  refine rw_stk (st' := [.int (iN a1), .int (iN a1)]) rfl ?_
  exact lv_icmp_eq (tgt := 1409) hx hb dL_law_1229 (by decide) (fun _ => kk _ _ _ _ hT2 hr) (fun c9 => absurd rfl c9)
theorem law_sheet (C : LC p s m args c b L xs) (hT : Tw G CA ad1 ad2 s M S H locs) (h : RR M S) (hc : cells ≤ room_1.cells ∧ slots ≤ room_1.slots) {i : Int} (hi : 0 ≤ i ∧ i + 5 ≤ L) (hl : lv_has ls 4 [(3, .int (iN i)), (2, .ref (ad2 0)), (1, .ref (ad1 0)), (0, .ref b)])
    (kk : ∀ (M' S' : Mem) (H1 : Heap) (locs1 : List Loc), Tw G CA ad1 ad2 s M' S' H1 locs1 → RR M' S' → W p l e room_1 s m args below meth c H1 locs1 cells slots Q (F0 m 1409 ls [])) : W p l e room_1 s m args below meth c H locs cells slots Q (F0 m 1234 ls []) := by
  obtain ⟨hx, hb, hml, hts, hown, hX, hbl, hL⟩ := id C
  obtain ⟨x1, hx1, e1⟩ := iN_of (xs (i + 1).toNat)
  obtain ⟨x2, hx2, e2⟩ := iN_of (xs (i + 2).toNat)
  obtain ⟨x3, hx3, e3⟩ := iN_of (xs (i + 3).toNat)
  refine lv_aload_n hx hb dL_law_1234 rfl (lv_at hl 2 rfl) ?_
  refine law_ld C hT.1.S (lv := [(2, .ref (ad2 0)), (1, .ref (ad1 0))]) hl (k := 1) hi (by omega) dL_law_1235 dL_law_1236 dL_law_1237 dL_law_1238 dL_law_1239 ?_
  rw [e1]
  refine law_ld C hT.1.S (lv := [(2, .ref (ad2 0)), (1, .ref (ad1 0))]) hl (k := 2) hi (by omega) dL_law_1240 dL_law_1241 dL_law_1242 dL_law_1243 dL_law_1244 ?_
  rw [e2]
  refine law_ld C hT.1.S (lv := [(2, .ref (ad2 0)), (1, .ref (ad1 0))]) hl (k := 3) hi (by omega) dL_law_1245 dL_law_1246 dL_law_1247 dL_law_1248 dL_law_1249 ?_
  rw [e3]
  refine law_call1 C hT hc [.int (iN x1), .int (iN x2), .int (iN x3)] rfl (c_X10_sheet (by decide) x1 hx1 x2 hx2 x3 hx3 M h.KI) kL_159 rfl ⟨Nat.le_of_ble_eq_true rfl, Nat.le_of_ble_eq_true rfl⟩ hl.1 rfl (Nat.le_of_ble_eq_true rfl) dL_law_1250 (fun v1 M1 H1 locs1 hp1 hT1 => ?_)
  obtain ⟨a1, ea1, -⟩ := id hp1
  subst ea1
  refine rw_stk (st' := [.int (iN a1)]) rfl ?_
  refine lv_aload_n hx hb dL_law_1253 rfl (lv_at hl 1 rfl) ?_
  refine law_ld C hT1.1.S (lv := [(2, .ref (ad2 0)), (1, .ref (ad1 0))]) hl (k := 1) hi (by omega) dL_law_1254 dL_law_1255 dL_law_1256 dL_law_1257 dL_law_1258 ?_
  rw [e1]
  refine law_ld C hT1.1.S (lv := [(2, .ref (ad2 0)), (1, .ref (ad1 0))]) hl (k := 2) hi (by omega) dL_law_1259 dL_law_1260 dL_law_1261 dL_law_1262 dL_law_1263 ?_
  rw [e2]
  refine law_ld C hT1.1.S (lv := [(2, .ref (ad2 0)), (1, .ref (ad1 0))]) hl (k := 3) hi (by omega) dL_law_1264 dL_law_1265 dL_law_1266 dL_law_1267 dL_law_1268 ?_
  rw [e3]
  refine law_call2 C hT1 hc [.int (iN x1), .int (iN x2), .int (iN x3)] rfl (c_X11_sheet (by decide) x1 hx1 x2 hx2 x3 hx3 S) kL_162 rfl ⟨Nat.le_of_ble_eq_true rfl, Nat.le_of_ble_eq_true rfl⟩ hl.1 rfl (Nat.le_of_ble_eq_true rfl) dL_law_1269 (fun v2 S1 H2 locs2 hp2 hT2 => ?_)
  obtain ⟨ev, hr⟩ := ag_sheet h x1 x2 x3 _ _ _ _ hp1 hp2
  subst ev
  refine rw_stk (st' := [.int (iN a1), .int (iN a1)]) rfl ?_
  exact lv_icmp_eq (tgt := 1409) hx hb dL_law_1272 (by decide) (fun _ => kk _ _ _ _ hT2 hr) (fun c9 => absurd rfl c9)
theorem law_lay (C : LC p s m args c b L xs) (hT : Tw G CA ad1 ad2 s M S H locs) (h : RR M S) (hc : cells ≤ room_1.cells ∧ slots ≤ room_1.slots) {i : Int} (hi : 0 ≤ i ∧ i + 5 ≤ L) (hl : lv_has ls 4 [(3, .int (iN i)), (2, .ref (ad2 0)), (1, .ref (ad1 0)), (0, .ref b)])
    (kk : ∀ (M' S' : Mem) (H1 : Heap) (locs1 : List Loc), Tw G CA ad1 ad2 s M' S' H1 locs1 → RR M' S' → W p l e room_1 s m args below meth c H1 locs1 cells slots Q (F0 m 1409 ls [])) : W p l e room_1 s m args below meth c H locs cells slots Q (F0 m 1277 ls []) := by
  obtain ⟨hx, hb, hml, hts, hown, hX, hbl, hL⟩ := id C
  obtain ⟨x1, hx1, e1⟩ := iN_of (xs (i + 1).toNat)
  obtain ⟨x2, hx2, e2⟩ := iN_of (xs (i + 2).toNat)
  obtain ⟨x3, hx3, e3⟩ := iN_of (xs (i + 3).toNat)
  refine lv_aload_n hx hb dL_law_1277 rfl (lv_at hl 2 rfl) ?_
  refine law_ld C hT.1.S (lv := [(2, .ref (ad2 0)), (1, .ref (ad1 0))]) hl (k := 1) hi (by omega) dL_law_1278 dL_law_1279 dL_law_1280 dL_law_1281 dL_law_1282 ?_
  rw [e1]
  refine law_ld C hT.1.S (lv := [(2, .ref (ad2 0)), (1, .ref (ad1 0))]) hl (k := 2) hi (by omega) dL_law_1283 dL_law_1284 dL_law_1285 dL_law_1286 dL_law_1287 ?_
  rw [e2]
  refine law_ld C hT.1.S (lv := [(2, .ref (ad2 0)), (1, .ref (ad1 0))]) hl (k := 3) hi (by omega) dL_law_1288 dL_law_1289 dL_law_1290 dL_law_1291 dL_law_1292 ?_
  rw [e3]
  refine law_call1 C hT hc [.int (iN x1), .int (iN x2), .int (iN x3)] rfl (c_X10_lay (by decide) x1 hx1 x2 hx2 x3 hx3 M h.KI) kL_163 rfl ⟨Nat.le_of_ble_eq_true rfl, Nat.le_of_ble_eq_true rfl⟩ hl.1 rfl (Nat.le_of_ble_eq_true rfl) dL_law_1293 (fun v1 M1 H1 locs1 hp1 hT1 => ?_)
  obtain ⟨a1, ea1, -⟩ := id hp1
  subst ea1
  refine rw_stk (st' := [.int (iN a1)]) rfl ?_
  refine lv_aload_n hx hb dL_law_1296 rfl (lv_at hl 1 rfl) ?_
  refine law_ld C hT1.1.S (lv := [(2, .ref (ad2 0)), (1, .ref (ad1 0))]) hl (k := 1) hi (by omega) dL_law_1297 dL_law_1298 dL_law_1299 dL_law_1300 dL_law_1301 ?_
  rw [e1]
  refine law_ld C hT1.1.S (lv := [(2, .ref (ad2 0)), (1, .ref (ad1 0))]) hl (k := 2) hi (by omega) dL_law_1302 dL_law_1303 dL_law_1304 dL_law_1305 dL_law_1306 ?_
  rw [e2]
  refine law_ld C hT1.1.S (lv := [(2, .ref (ad2 0)), (1, .ref (ad1 0))]) hl (k := 3) hi (by omega) dL_law_1307 dL_law_1308 dL_law_1309 dL_law_1310 dL_law_1311 ?_
  rw [e3]
  refine law_call2 C hT1 hc [.int (iN x1), .int (iN x2), .int (iN x3)] rfl (c_X11_lay (by decide) x1 hx1 x2 hx2 x3 hx3 S h.shr) kL_166 rfl ⟨Nat.le_of_ble_eq_true rfl, Nat.le_of_ble_eq_true rfl⟩ hl.1 rfl (Nat.le_of_ble_eq_true rfl) dL_law_1312 (fun v2 S1 H2 locs2 hp2 hT2 => ?_)
  obtain ⟨ev, hr⟩ := ag_lay h x1 x2 x3 hx3 _ _ _ _ hp1 hp2
  subst ev
  refine rw_stk (st' := [.int (iN a1), .int (iN a1)]) rfl ?_
  exact lv_icmp_eq (tgt := 1409) hx hb dL_law_1315 (by decide) (fun _ => kk _ _ _ _ hT2 hr) (fun c9 => absurd rfl c9)
theorem law_read (C : LC p s m args c b L xs) (hT : Tw G CA ad1 ad2 s M S H locs) (h : RR M S) (hc : cells ≤ room_1.cells ∧ slots ≤ room_1.slots) {i : Int} (hi : 0 ≤ i ∧ i + 5 ≤ L) (hl : lv_has ls 4 [(3, .int (iN i)), (2, .ref (ad2 0)), (1, .ref (ad1 0)), (0, .ref b)])
    (kk : ∀ (M' S' : Mem) (H1 : Heap) (locs1 : List Loc), Tw G CA ad1 ad2 s M' S' H1 locs1 → RR M' S' → W p l e room_1 s m args below meth c H1 locs1 cells slots Q (F0 m 1409 ls [])) : W p l e room_1 s m args below meth c H locs cells slots Q (F0 m 1320 ls []) := by
  obtain ⟨hx, hb, hml, hts, hown, hX, hbl, hL⟩ := id C
  obtain ⟨x1, hx1, e1⟩ := iN_of (xs (i + 1).toNat)
  obtain ⟨x2, hx2, e2⟩ := iN_of (xs (i + 2).toNat)
  obtain ⟨x3, hx3, e3⟩ := iN_of (xs (i + 3).toNat)
  obtain ⟨x4, hx4, e4⟩ := iN_of (xs (i + 4).toNat)
  refine lv_aload_n hx hb dL_law_1320 rfl (lv_at hl 2 rfl) ?_
  refine law_ld C hT.1.S (lv := [(2, .ref (ad2 0)), (1, .ref (ad1 0))]) hl (k := 1) hi (by omega) dL_law_1321 dL_law_1322 dL_law_1323 dL_law_1324 dL_law_1325 ?_
  rw [e1]
  refine law_ld C hT.1.S (lv := [(2, .ref (ad2 0)), (1, .ref (ad1 0))]) hl (k := 2) hi (by omega) dL_law_1326 dL_law_1327 dL_law_1328 dL_law_1329 dL_law_1330 ?_
  rw [e2]
  refine law_ld C hT.1.S (lv := [(2, .ref (ad2 0)), (1, .ref (ad1 0))]) hl (k := 3) hi (by omega) dL_law_1331 dL_law_1332 dL_law_1333 dL_law_1334 dL_law_1335 ?_
  rw [e3]
  refine law_ld C hT.1.S (lv := [(2, .ref (ad2 0)), (1, .ref (ad1 0))]) hl (k := 4) hi (by omega) dL_law_1336 dL_law_1337 dL_law_1338 dL_law_1339 dL_law_1340 ?_
  rw [e4]
  refine law_call1 C hT hc [.int (iN x1), .int (iN x2), .int (iN x3), .int (iN x4)] rfl (c_X10_read (by decide) x1 hx1 x2 hx2 x3 hx3 x4 hx4 M h.KI) kL_167 rfl ⟨Nat.le_of_ble_eq_true rfl, Nat.le_of_ble_eq_true rfl⟩ hl.1 rfl (Nat.le_of_ble_eq_true rfl) dL_law_1341 (fun v1 M1 H1 locs1 hp1 hT1 => ?_)
  obtain ⟨a1, ea1, -⟩ := id hp1
  subst ea1
  refine rw_stk (st' := [.int (iN a1)]) rfl ?_
  refine lv_aload_n hx hb dL_law_1344 rfl (lv_at hl 1 rfl) ?_
  refine law_ld C hT1.1.S (lv := [(2, .ref (ad2 0)), (1, .ref (ad1 0))]) hl (k := 1) hi (by omega) dL_law_1345 dL_law_1346 dL_law_1347 dL_law_1348 dL_law_1349 ?_
  rw [e1]
  refine law_ld C hT1.1.S (lv := [(2, .ref (ad2 0)), (1, .ref (ad1 0))]) hl (k := 2) hi (by omega) dL_law_1350 dL_law_1351 dL_law_1352 dL_law_1353 dL_law_1354 ?_
  rw [e2]
  refine law_ld C hT1.1.S (lv := [(2, .ref (ad2 0)), (1, .ref (ad1 0))]) hl (k := 3) hi (by omega) dL_law_1355 dL_law_1356 dL_law_1357 dL_law_1358 dL_law_1359 ?_
  rw [e3]
  refine law_ld C hT1.1.S (lv := [(2, .ref (ad2 0)), (1, .ref (ad1 0))]) hl (k := 4) hi (by omega) dL_law_1360 dL_law_1361 dL_law_1362 dL_law_1363 dL_law_1364 ?_
  rw [e4]
  refine law_call2 C hT1 hc [.int (iN x1), .int (iN x2), .int (iN x3), .int (iN x4)] rfl (c_X11_read (by decide) x1 hx1 x2 hx2 x3 hx3 x4 hx4 S h.shr h.inv.1 h.inv.2) kL_171 rfl ⟨Nat.le_of_ble_eq_true rfl, Nat.le_of_ble_eq_true rfl⟩ hl.1 rfl (Nat.le_of_ble_eq_true rfl) dL_law_1365 (fun v2 S1 H2 locs2 hp2 hT2 => ?_)
  obtain ⟨ev, hr⟩ := ag_read h x1 x2 x3 x4 _ _ _ _ hp1 hp2
  subst ev
  refine rw_stk (st' := [.int (iN a1), .int (iN a1)]) rfl ?_
  exact lv_icmp_eq (tgt := 1409) hx hb dL_law_1368 (by decide) (fun _ => kk _ _ _ _ hT2 hr) (fun c9 => absurd rfl c9)
theorem law_torn (C : LC p s m args c b L xs) (hT : Tw G CA ad1 ad2 s M S H locs) (h : RR M S) (hc : cells ≤ room_1.cells ∧ slots ≤ room_1.slots) {i : Int} (hi : 0 ≤ i ∧ i + 5 ≤ L) (hl : lv_has ls 4 [(3, .int (iN i)), (2, .ref (ad2 0)), (1, .ref (ad1 0)), (0, .ref b)])
    (kk : ∀ (M' S' : Mem) (H1 : Heap) (locs1 : List Loc), Tw G CA ad1 ad2 s M' S' H1 locs1 → RR M' S' → W p l e room_1 s m args below meth c H1 locs1 cells slots Q (F0 m 1409 ls [])) : W p l e room_1 s m args below meth c H locs cells slots Q (F0 m 1373 ls []) := by
  obtain ⟨hx, hb, hml, hts, hown, hX, hbl, hL⟩ := id C
  refine lv_aload_n hx hb dL_law_1373 rfl (lv_at hl 2 rfl) ?_
  refine law_call1 C hT hc [] rfl (c_X10_torn (by decide) M) kL_172 rfl ⟨Nat.le_of_ble_eq_true rfl, Nat.le_of_ble_eq_true rfl⟩ hl.1 rfl (Nat.le_of_ble_eq_true rfl) dL_law_1374 (fun v1 M1 H1 locs1 hp1 hT1 => ?_)
  obtain ⟨a1, ea1, -⟩ := id hp1
  subst ea1
  refine rw_stk (st' := [.int (iN a1)]) rfl ?_
  refine lv_aload_n hx hb dL_law_1377 rfl (lv_at hl 1 rfl) ?_
  refine law_call2 C hT1 hc [] rfl (c_X11_torn (by decide) S) kL_175 rfl ⟨Nat.le_of_ble_eq_true rfl, Nat.le_of_ble_eq_true rfl⟩ hl.1 rfl (Nat.le_of_ble_eq_true rfl) dL_law_1378 (fun v2 S1 H2 locs2 hp2 hT2 => ?_)
  obtain ⟨ev, hr⟩ := ag_torn h  _ _ _ _ hp1 hp2
  subst ev
  refine rw_stk (st' := [.int (iN a1), .int (iN a1)]) rfl ?_
  exact lv_icmp_eq (tgt := 1409) hx hb dL_law_1381 (by decide) (fun _ => kk _ _ _ _ hT2 hr) (fun c9 => absurd rfl c9)
theorem law_count (C : LC p s m args c b L xs) (hT : Tw G CA ad1 ad2 s M S H locs) (h : RR M S) (hc : cells ≤ room_1.cells ∧ slots ≤ room_1.slots) {i : Int} (hi : 0 ≤ i ∧ i + 5 ≤ L) (hl : lv_has ls 4 [(3, .int (iN i)), (2, .ref (ad2 0)), (1, .ref (ad1 0)), (0, .ref b)])
    (kk : ∀ (M' S' : Mem) (H1 : Heap) (locs1 : List Loc), Tw G CA ad1 ad2 s M' S' H1 locs1 → RR M' S' → W p l e room_1 s m args below meth c H1 locs1 cells slots Q (F0 m 1409 ls [])) : W p l e room_1 s m args below meth c H locs cells slots Q (F0 m 1386 ls []) := by
  obtain ⟨hx, hb, hml, hts, hown, hX, hbl, hL⟩ := id C
  obtain ⟨x1, hx1, e1⟩ := iN_of (xs (i + 1).toNat)
  refine lv_aload_n hx hb dL_law_1386 rfl (lv_at hl 2 rfl) ?_
  refine law_ld C hT.1.S (lv := [(2, .ref (ad2 0)), (1, .ref (ad1 0))]) hl (k := 1) hi (by omega) dL_law_1387 dL_law_1388 dL_law_1389 dL_law_1390 dL_law_1391 ?_
  rw [e1]
  refine law_call1 C hT hc [.int (iN x1)] rfl (c_X10_count (by decide) x1 hx1 M h.KI) kL_176 rfl ⟨Nat.le_of_ble_eq_true rfl, Nat.le_of_ble_eq_true rfl⟩ hl.1 rfl (Nat.le_of_ble_eq_true rfl) dL_law_1392 (fun v1 M1 H1 locs1 hp1 hT1 => ?_)
  obtain ⟨a1, ea1, -⟩ := id hp1
  subst ea1
  refine rw_stk (st' := [.int (iN a1)]) rfl ?_
  refine lv_aload_n hx hb dL_law_1395 rfl (lv_at hl 1 rfl) ?_
  refine law_ld C hT1.1.S (lv := [(2, .ref (ad2 0)), (1, .ref (ad1 0))]) hl (k := 1) hi (by omega) dL_law_1396 dL_law_1397 dL_law_1398 dL_law_1399 dL_law_1400 ?_
  rw [e1]
  refine law_call2 C hT1 hc [.int (iN x1)] rfl (c_X11_count (by decide) x1 hx1 S ⟨h.2.1.1, h.2.1.2.1⟩ (by have z := (h.shr 0 (by decide) (by decide)).1; exact ⟨by omega, by omega⟩) h.inv.1) kL_179 rfl ⟨Nat.le_of_ble_eq_true rfl, Nat.le_of_ble_eq_true rfl⟩ hl.1 rfl (Nat.le_of_ble_eq_true rfl) dL_law_1401 (fun v2 S1 H2 locs2 hp2 hT2 => ?_)
  obtain ⟨ev, hr⟩ := ag_count h x1 _ _ _ _ hp1 hp2
  subst ev
  refine rw_stk (st' := [.int (iN a1), .int (iN a1)]) rfl ?_
  exact lv_icmp_eq (tgt := 1409) hx hb dL_law_1404 (by decide) (fun _ => kk _ _ _ _ hT2 hr) (fun c9 => absurd rfl c9)
end LAW
