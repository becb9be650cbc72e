-- (laid by wip/whole/gen/law.py)
section
variable {p : Program} {l : Launch} {e : Env} {s : State} {m : MethodId} {below : List Frame} {meth : Method} {c : Code} {H : Heap} {locs : List Loc} {Q : State → Prop} {b L k : Nat} {xs : Nat → Int32} {E : EE} {a bb : Nat → Nat} {ls : Array Slot} {st : List Value} {cells slots : Nat}
set_option maxRecDepth 100000 in
set_option maxHeartbeats 2000000 in
theorem op_degree (C0 : LX p s m c b L xs E a bb) (hk : 3 * k + 2 < L) (hL : L ≤ 1536) {n : Nat} {ids : Nat → Int32} {par : Nat → Option Nat} {rows : Nat → Nat → Int32} {pr rd : Nat} {cols : Nat → Int32} {nx : Nat → Int32} {isin : Nat → Bool} {wi wo : Nat → Nat} {wf : Nat → Option Nat} (hP : XP E a ids par rows pr pr n rd H) (hM : MP E bb n ids par cols rd nx isin wi wo wf H) (hR : REL n ids par rows pr rd cols) (hrd : rd ≤ 22 * k) (hS : va_S (A0 s) s.heap H locs) (hl : lv_has ls 4 [(3, .int (nI (3 * k))), (2, .ref (bb 0)), (1, .ref (a 0)), (0, .ref b)]) (kk : KC p l e s m below meth c b E a bb k Q) : W p l e room_1 s m #[Value.ref b] below meth c H locs 31 1091 Q (F0 m 250 ls []) := by
  obtain ⟨hC, hK, hX, hbl, hIa, hIb, hAX, hAM, hAd⟩ := id C0
  have hx := hC.1
  have hb := hC.2.1
  have hn := hR.hn
  have hp := hR.hp
  have hpr := hR.hpr
  have hcol := hR.col
  have hrd1 : rd < 90000 := by omega
  have hrd2 : rd < 100000 := by omega
  have hRP : RP n ids par (rows, pr, rd) (cols, nx, rd) := ⟨hR, rfl⟩
  have cX : RO l E (XP E a ids par rows pr pr n rd) _ _ _ _ _ _ _ _ := cX_degree (xs (3 * k + 1)) hn hp
  have cM : RO l E (MP E bb n ids par cols rd nx isin wi wo wf) _ _ _ _ _ _ _ _ := cM_degree (xs (3 * k + 1)) hn hp
  refine lv_aload_n hx hb dL_law_250 rfl (lv_at hl 2 rfl) ?_
  refine law_arg1 C0 hk hL hS hl dL_law_251 dL_law_252 dL_law_253 dL_law_254 dL_law_255 ?_
  refine roV (As := [.int (xs (3 * k + 1))]) hC kL_31 cX hK hP (x_rec hK hP) rfl rfl hl ⟨Nat.le_of_ble_eq_true rfl, Nat.le_of_ble_eq_true rfl⟩ (Nat.le_of_ble_eq_true rfl) dL_law_256 ⟨Nat.le_of_ble_eq_true rfl, Nat.le_of_ble_eq_true rfl⟩ ?_
  refine lv_aload_n hx hb dL_law_259 rfl (lv_at hl 1 rfl) ?_
  refine law_arg1 C0 hk hL hS hl dL_law_260 dL_law_261 dL_law_262 dL_law_263 dL_law_264 ?_
  refine roV (As := [.int (xs (3 * k + 1))]) hC kL_34 cM hK hM (m_rec hK hM) rfl rfl hl ⟨Nat.le_of_ble_eq_true rfl, Nat.le_of_ble_eq_true rfl⟩ (Nat.le_of_ble_eq_true rfl) dL_law_265 ⟨Nat.le_of_ble_eq_true rfl, Nat.le_of_ble_eq_true rfl⟩ ?_
  refine lv_icmp_eq (tgt := 653) hx hb dL_law_268 (by decide) (fun _ => ?_) (fun h9 => absurd rfl h9)
  refine kk _ _ _ ?_ hS hl
  exact st_keep hP ⟨nx, isin, wi, wo, wf, hM⟩ hR hrd
set_option maxRecDepth 100000 in
set_option maxHeartbeats 2000000 in
theorem op_depth (C0 : LX p s m c b L xs E a bb) (hk : 3 * k + 2 < L) (hL : L ≤ 1536) {n : Nat} {ids : Nat → Int32} {par : Nat → Option Nat} {rows : Nat → Nat → Int32} {pr rd : Nat} {cols : Nat → Int32} {nx : Nat → Int32} {isin : Nat → Bool} {wi wo : Nat → Nat} {wf : Nat → Option Nat} (hP : XP E a ids par rows pr pr n rd H) (hM : MP E bb n ids par cols rd nx isin wi wo wf H) (hR : REL n ids par rows pr rd cols) (hrd : rd ≤ 22 * k) (hS : va_S (A0 s) s.heap H locs) (hl : lv_has ls 4 [(3, .int (nI (3 * k))), (2, .ref (bb 0)), (1, .ref (a 0)), (0, .ref b)]) (kk : KC p l e s m below meth c b E a bb k Q) : W p l e room_1 s m #[Value.ref b] below meth c H locs 31 1091 Q (F0 m 273 ls []) := by
  obtain ⟨hC, hK, hX, hbl, hIa, hIb, hAX, hAM, hAd⟩ := id C0
  have hx := hC.1
  have hb := hC.2.1
  have hn := hR.hn
  have hp := hR.hp
  have hpr := hR.hpr
  have hcol := hR.col
  have hrd1 : rd < 90000 := by omega
  have hrd2 : rd < 100000 := by omega
  have hRP : RP n ids par (rows, pr, rd) (cols, nx, rd) := ⟨hR, rfl⟩
  have cX : RO l E (XP E a ids par rows pr pr n rd) _ _ _ _ _ _ _ _ := cX_depth (xs (3 * k + 1)) hn hp
  have cM : RO l E (MP E bb n ids par cols rd nx isin wi wo wf) _ _ _ _ _ _ _ _ := cM_depth (xs (3 * k + 1)) hn hp
  have hEq : oN (vN n (xs (3 * k + 1))) (fun v => pe (depF par n v)) = oN (vN n (xs (3 * k + 1))) (fun v => pe (depF par (n + 1) v)) := by
    rcases vN_cases hn (xs (3 * k + 1)) with ⟨h, -⟩ | ⟨v, hv, -, h⟩
    · rw [h]; rfl
    · rw [h]; show _ = _; simp only [oN]; rw [dep_eq hp hv]
  refine lv_aload_n hx hb dL_law_273 rfl (lv_at hl 2 rfl) ?_
  refine law_arg1 C0 hk hL hS hl dL_law_274 dL_law_275 dL_law_276 dL_law_277 dL_law_278 ?_
  refine roV (As := [.int (xs (3 * k + 1))]) hC kL_35 cX hK hP (x_rec hK hP) rfl rfl hl ⟨Nat.le_of_ble_eq_true rfl, Nat.le_of_ble_eq_true rfl⟩ (Nat.le_of_ble_eq_true rfl) dL_law_279 ⟨Nat.le_of_ble_eq_true rfl, Nat.le_of_ble_eq_true rfl⟩ ?_
  refine lv_aload_n hx hb dL_law_282 rfl (lv_at hl 1 rfl) ?_
  refine law_arg1 C0 hk hL hS hl dL_law_283 dL_law_284 dL_law_285 dL_law_286 dL_law_287 ?_
  refine roV (As := [.int (xs (3 * k + 1))]) hC kL_38 cM hK hM (m_rec hK hM) rfl rfl hl ⟨Nat.le_of_ble_eq_true rfl, Nat.le_of_ble_eq_true rfl⟩ (Nat.le_of_ble_eq_true rfl) dL_law_288 ⟨Nat.le_of_ble_eq_true rfl, Nat.le_of_ble_eq_true rfl⟩ ?_
  refine lv_icmp_eq (tgt := 653) hx hb dL_law_291 (by decide) (fun _ => ?_) (fun h9 => absurd hEq h9)
  refine kk _ _ _ ?_ hS hl
  exact st_keep hP ⟨nx, isin, wi, wo, wf, hM⟩ hR hrd
set_option maxRecDepth 100000 in
set_option maxHeartbeats 2000000 in
theorem op_cycleLength (C0 : LX p s m c b L xs E a bb) (hk : 3 * k + 2 < L) (hL : L ≤ 1536) {n : Nat} {ids : Nat → Int32} {par : Nat → Option Nat} {rows : Nat → Nat → Int32} {pr rd : Nat} {cols : Nat → Int32} {nx : Nat → Int32} {isin : Nat → Bool} {wi wo : Nat → Nat} {wf : Nat → Option Nat} (hP : XP E a ids par rows pr pr n rd H) (hM : MP E bb n ids par cols rd nx isin wi wo wf H) (hR : REL n ids par rows pr rd cols) (hrd : rd ≤ 22 * k) (hS : va_S (A0 s) s.heap H locs) (hl : lv_has ls 4 [(3, .int (nI (3 * k))), (2, .ref (bb 0)), (1, .ref (a 0)), (0, .ref b)]) (kk : KC p l e s m below meth c b E a bb k Q) : W p l e room_1 s m #[Value.ref b] below meth c H locs 31 1091 Q (F0 m 296 ls []) := by
  obtain ⟨hC, hK, hX, hbl, hIa, hIb, hAX, hAM, hAd⟩ := id C0
  have hx := hC.1
  have hb := hC.2.1
  have hn := hR.hn
  have hp := hR.hp
  have hpr := hR.hpr
  have hcol := hR.col
  have hrd1 : rd < 90000 := by omega
  have hrd2 : rd < 100000 := by omega
  have hRP : RP n ids par (rows, pr, rd) (cols, nx, rd) := ⟨hR, rfl⟩
  have cX : RO l E (XP E a ids par rows pr pr n rd) _ _ _ _ _ _ _ _ := cX_cycleLength (xs (3 * k + 1)) hn hp
  have cM : RO l E (MP E bb n ids par cols rd nx isin wi wo wf) _ _ _ _ _ _ _ _ := cM_cycleLength (xs (3 * k + 1)) hn hp
  refine lv_aload_n hx hb dL_law_296 rfl (lv_at hl 2 rfl) ?_
  refine law_arg1 C0 hk hL hS hl dL_law_297 dL_law_298 dL_law_299 dL_law_300 dL_law_301 ?_
  refine roV (As := [.int (xs (3 * k + 1))]) hC kL_39 cX hK hP (x_rec hK hP) rfl rfl hl ⟨Nat.le_of_ble_eq_true rfl, Nat.le_of_ble_eq_true rfl⟩ (Nat.le_of_ble_eq_true rfl) dL_law_302 ⟨Nat.le_of_ble_eq_true rfl, Nat.le_of_ble_eq_true rfl⟩ ?_
  refine lv_aload_n hx hb dL_law_305 rfl (lv_at hl 1 rfl) ?_
  refine law_arg1 C0 hk hL hS hl dL_law_306 dL_law_307 dL_law_308 dL_law_309 dL_law_310 ?_
  refine roV (As := [.int (xs (3 * k + 1))]) hC kL_42 cM hK hM (m_rec hK hM) rfl rfl hl ⟨Nat.le_of_ble_eq_true rfl, Nat.le_of_ble_eq_true rfl⟩ (Nat.le_of_ble_eq_true rfl) dL_law_311 ⟨Nat.le_of_ble_eq_true rfl, Nat.le_of_ble_eq_true rfl⟩ ?_
  refine lv_icmp_eq (tgt := 653) hx hb dL_law_314 (by decide) (fun _ => ?_) (fun h9 => absurd rfl h9)
  refine kk _ _ _ ?_ hS hl
  exact st_keep hP ⟨nx, isin, wi, wo, wf, hM⟩ hR hrd
set_option maxRecDepth 100000 in
set_option maxHeartbeats 2000000 in
theorem op_partCount (C0 : LX p s m c b L xs E a bb) (hk : 3 * k + 2 < L) (hL : L ≤ 1536) {n : Nat} {ids : Nat → Int32} {par : Nat → Option Nat} {rows : Nat → Nat → Int32} {pr rd : Nat} {cols : Nat → Int32} {nx : Nat → Int32} {isin : Nat → Bool} {wi wo : Nat → Nat} {wf : Nat → Option Nat} (hP : XP E a ids par rows pr pr n rd H) (hM : MP E bb n ids par cols rd nx isin wi wo wf H) (hR : REL n ids par rows pr rd cols) (hrd : rd ≤ 22 * k) (hS : va_S (A0 s) s.heap H locs) (hl : lv_has ls 4 [(3, .int (nI (3 * k))), (2, .ref (bb 0)), (1, .ref (a 0)), (0, .ref b)]) (kk : KC p l e s m below meth c b E a bb k Q) : W p l e room_1 s m #[Value.ref b] below meth c H locs 31 1091 Q (F0 m 319 ls []) := by
  obtain ⟨hC, hK, hX, hbl, hIa, hIb, hAX, hAM, hAd⟩ := id C0
  have hx := hC.1
  have hb := hC.2.1
  have hn := hR.hn
  have hp := hR.hp
  have hpr := hR.hpr
  have hcol := hR.col
  have hrd1 : rd < 90000 := by omega
  have hrd2 : rd < 100000 := by omega
  have hRP : RP n ids par (rows, pr, rd) (cols, nx, rd) := ⟨hR, rfl⟩
  have cX : RO l E (XP E a ids par rows pr pr n rd) _ _ _ _ _ _ _ _ := cX_partCount  hn hp
  have cM : RO l E (MP E bb n ids par cols rd nx isin wi wo wf) _ _ _ _ _ _ _ _ := cM_partCount  hn hp
  have hEq : nI ((pcF par n n).1) = nI (fb_ct (fun j => decide (hdF par n j = j)) n) := by
    rw [parts_eq hp]
  refine lv_aload_n hx hb dL_law_319 rfl (lv_at hl 2 rfl) ?_
  refine roV (As := []) hC kL_43 cX hK hP (x_rec hK hP) rfl rfl hl ⟨Nat.le_of_ble_eq_true rfl, Nat.le_of_ble_eq_true rfl⟩ (Nat.le_of_ble_eq_true rfl) dL_law_320 ⟨Nat.le_of_ble_eq_true rfl, Nat.le_of_ble_eq_true rfl⟩ ?_
  refine lv_aload_n hx hb dL_law_323 rfl (lv_at hl 1 rfl) ?_
  refine roV (As := []) hC kL_47 cM hK hM (m_rec hK hM) rfl rfl hl ⟨Nat.le_of_ble_eq_true rfl, Nat.le_of_ble_eq_true rfl⟩ (Nat.le_of_ble_eq_true rfl) dL_law_324 ⟨Nat.le_of_ble_eq_true rfl, Nat.le_of_ble_eq_true rfl⟩ ?_
  refine lv_icmp_eq (tgt := 653) hx hb dL_law_327 (by decide) (fun _ => ?_) (fun h9 => absurd hEq h9)
  refine kk _ _ _ ?_ hS hl
  exact st_keep hP ⟨nx, isin, wi, wo, wf, hM⟩ hR hrd
set_option maxRecDepth 100000 in
set_option maxHeartbeats 2000000 in
theorem op_colour (C0 : LX p s m c b L xs E a bb) (hk : 3 * k + 2 < L) (hL : L ≤ 1536) {n : Nat} {ids : Nat → Int32} {par : Nat → Option Nat} {rows : Nat → Nat → Int32} {pr rd : Nat} {cols : Nat → Int32} {nx : Nat → Int32} {isin : Nat → Bool} {wi wo : Nat → Nat} {wf : Nat → Option Nat} (hP : XP E a ids par rows pr pr n rd H) (hM : MP E bb n ids par cols rd nx isin wi wo wf H) (hR : REL n ids par rows pr rd cols) (hrd : rd ≤ 22 * k) (hS : va_S (A0 s) s.heap H locs) (hl : lv_has ls 4 [(3, .int (nI (3 * k))), (2, .ref (bb 0)), (1, .ref (a 0)), (0, .ref b)]) (kk : KC p l e s m below meth c b E a bb k Q) : W p l e room_1 s m #[Value.ref b] below meth c H locs 31 1091 Q (F0 m 332 ls []) := by
  obtain ⟨hC, hK, hX, hbl, hIa, hIb, hAX, hAM, hAd⟩ := id C0
  have hx := hC.1
  have hb := hC.2.1
  have hn := hR.hn
  have hp := hR.hp
  have hpr := hR.hpr
  have hcol := hR.col
  have hrd1 : rd < 90000 := by omega
  have hrd2 : rd < 100000 := by omega
  have hRP : RP n ids par (rows, pr, rd) (cols, nx, rd) := ⟨hR, rfl⟩
  have cX : RO l E (XP E a ids par rows pr pr n rd) _ _ _ _ _ _ _ _ := cX_colour (xs (3 * k + 1)) hn hpr
  have cM : RO l E (MP E bb n ids par cols rd nx isin wi wo wf) _ _ _ _ _ _ _ _ := cM_colour (xs (3 * k + 1)) hn hrd2
  rw [hcol] at cM
  refine lv_aload_n hx hb dL_law_332 rfl (lv_at hl 2 rfl) ?_
  refine law_arg1 C0 hk hL hS hl dL_law_333 dL_law_334 dL_law_335 dL_law_336 dL_law_337 ?_
  refine roV (As := [.int (xs (3 * k + 1))]) hC kL_48 cX hK hP (x_rec hK hP) rfl rfl hl ⟨Nat.le_of_ble_eq_true rfl, Nat.le_of_ble_eq_true rfl⟩ (Nat.le_of_ble_eq_true rfl) dL_law_338 ⟨Nat.le_of_ble_eq_true rfl, Nat.le_of_ble_eq_true rfl⟩ ?_
  refine lv_aload_n hx hb dL_law_341 rfl (lv_at hl 1 rfl) ?_
  refine law_arg1 C0 hk hL hS hl dL_law_342 dL_law_343 dL_law_344 dL_law_345 dL_law_346 ?_
  refine roV (As := [.int (xs (3 * k + 1))]) hC kL_51 cM hK hM (m_rec hK hM) rfl rfl hl ⟨Nat.le_of_ble_eq_true rfl, Nat.le_of_ble_eq_true rfl⟩ (Nat.le_of_ble_eq_true rfl) dL_law_347 ⟨Nat.le_of_ble_eq_true rfl, Nat.le_of_ble_eq_true rfl⟩ ?_
  refine lv_icmp_eq (tgt := 653) hx hb dL_law_350 (by decide) (fun _ => ?_) (fun h9 => absurd rfl h9)
  refine kk _ _ _ ?_ hS hl
  exact st_keep hP ⟨nx, isin, wi, wo, wf, hM⟩ hR hrd
set_option maxRecDepth 100000 in
set_option maxHeartbeats 2000000 in
theorem op_setColour (C0 : LX p s m c b L xs E a bb) (hk : 3 * k + 2 < L) (hL : L ≤ 1536) {n : Nat} {ids : Nat → Int32} {par : Nat → Option Nat} {rows : Nat → Nat → Int32} {pr rd : Nat} {cols : Nat → Int32} {nx : Nat → Int32} {isin : Nat → Bool} {wi wo : Nat → Nat} {wf : Nat → Option Nat} (hP : XP E a ids par rows pr pr n rd H) (hM : MP E bb n ids par cols rd nx isin wi wo wf H) (hR : REL n ids par rows pr rd cols) (hrd : rd ≤ 22 * k) (hS : va_S (A0 s) s.heap H locs) (hl : lv_has ls 4 [(3, .int (nI (3 * k))), (2, .ref (bb 0)), (1, .ref (a 0)), (0, .ref b)]) (kk : KC p l e s m below meth c b E a bb k Q) : W p l e room_1 s m #[Value.ref b] below meth c H locs 31 1091 Q (F0 m 355 ls []) := by
  obtain ⟨hC, hK, hX, hbl, hIa, hIb, hAX, hAM, hAd⟩ := id C0
  have hx := hC.1
  have hb := hC.2.1
  have hn := hR.hn
  have hp := hR.hp
  have hpr := hR.hpr
  have hcol := hR.col
  have hrd1 : rd < 90000 := by omega
  have hrd2 : rd < 100000 := by omega
  have hRP : RP n ids par (rows, pr, rd) (cols, nx, rd) := ⟨hR, rfl⟩
  have cX : WR l E (XP E a ids par rows pr pr n rd) (AX a) _ _ _ _ _ _ _ _ _ := cX_setColour (xs (3 * k + 1)) (xs (3 * k + 2)) hIa hn hpr
  have cM : WR l E (MP E bb n ids par cols rd nx isin wi wo wf) (AM bb) _ _ _ _ _ _ _ _ _ := cM_setColour (xs (3 * k + 1)) (xs (3 * k + 2)) hIb hn hrd2
  rw [hcol] at cM
  refine lv_aload_n hx hb dL_law_355 rfl (lv_at hl 2 rfl) ?_
  refine law_arg1 C0 hk hL hS hl dL_law_356 dL_law_357 dL_law_358 dL_law_359 dL_law_360 ?_
  refine law_arg2 C0 hk hL hS hl dL_law_361 dL_law_362 dL_law_363 dL_law_364 dL_law_365 ?_
  refine wrV (As := [.int (xs (3 * k + 1)), .int (xs (3 * k + 2))]) hC kL_52 cX hK hP (x_rec hK hP) hS hAX rfl rfl hl ⟨Nat.le_of_ble_eq_true rfl, Nat.le_of_ble_eq_true rfl⟩ (Nat.le_of_ble_eq_true rfl) dL_law_366 ⟨Nat.le_of_ble_eq_true rfl, Nat.le_of_ble_eq_true rfl⟩ (fun H1 locs1 hP9 hS hz9 hk9 => ?_)
  have hM := MP.kept hM hk9 (fun q h1 h2 => hAd q h2 h1)
  have hP := hP9
  refine lv_aload_n hx hb dL_law_369 rfl (lv_at hl 1 rfl) ?_
  refine law_arg1 C0 hk hL hS hl dL_law_370 dL_law_371 dL_law_372 dL_law_373 dL_law_374 ?_
  refine law_arg2 C0 hk hL hS hl dL_law_375 dL_law_376 dL_law_377 dL_law_378 dL_law_379 ?_
  refine wrV (As := [.int (xs (3 * k + 1)), .int (xs (3 * k + 2))]) hC kL_55 cM hK hM (m_rec hK hM) hS hAM rfl rfl hl ⟨Nat.le_of_ble_eq_true rfl, Nat.le_of_ble_eq_true rfl⟩ (Nat.le_of_ble_eq_true rfl) dL_law_380 ⟨Nat.le_of_ble_eq_true rfl, Nat.le_of_ble_eq_true rfl⟩ (fun H1 locs1 hM9 hS hz9 hk9 => ?_)
  have hP := XP.kept hP hk9 (fun q h1 h2 => hAd q h1 h2)
  have hM := hM9
  refine lv_icmp_eq (tgt := 653) hx hb dL_law_383 (by decide) (fun _ => ?_) (fun h9 => absurd rfl h9)
  refine kk _ _ _ ?_ hS hl
  cases h : okSC n (xs (3 * k + 1)) (xs (3 * k + 2)) with
  | none =>
    simp only [oU_none h] at hP hM
    exact st_keep hP ⟨nx, isin, wi, wo, wf, hM⟩ hR hrd
  | some v =>
    simp only [oU_some h] at hP hM
    have h2 := sc_ok hn h
    exact ⟨_, _, _, _, _, _, _, hP, ⟨_, _, _, _, _, hM⟩, hR.start.set h2.1 (inV_vV.mp h2.2), by omega⟩
set_option maxRecDepth 100000 in
set_option maxHeartbeats 2000000 in
theorem op_resetColours (C0 : LX p s m c b L xs E a bb) (hk : 3 * k + 2 < L) (hL : L ≤ 1536) {n : Nat} {ids : Nat → Int32} {par : Nat → Option Nat} {rows : Nat → Nat → Int32} {pr rd : Nat} {cols : Nat → Int32} {nx : Nat → Int32} {isin : Nat → Bool} {wi wo : Nat → Nat} {wf : Nat → Option Nat} (hP : XP E a ids par rows pr pr n rd H) (hM : MP E bb n ids par cols rd nx isin wi wo wf H) (hR : REL n ids par rows pr rd cols) (hrd : rd ≤ 22 * k) (hS : va_S (A0 s) s.heap H locs) (hl : lv_has ls 4 [(3, .int (nI (3 * k))), (2, .ref (bb 0)), (1, .ref (a 0)), (0, .ref b)]) (kk : KC p l e s m below meth c b E a bb k Q) : W p l e room_1 s m #[Value.ref b] below meth c H locs 31 1091 Q (F0 m 388 ls []) := by
  obtain ⟨hC, hK, hX, hbl, hIa, hIb, hAX, hAM, hAd⟩ := id C0
  have hx := hC.1
  have hb := hC.2.1
  have hn := hR.hn
  have hp := hR.hp
  have hpr := hR.hpr
  have hcol := hR.col
  have hrd1 : rd < 90000 := by omega
  have hrd2 : rd < 100000 := by omega
  have hRP : RP n ids par (rows, pr, rd) (cols, nx, rd) := ⟨hR, rfl⟩
  have cX : WR l E (XP E a ids par rows pr pr n rd) (AX a) _ _ _ _ _ _ _ _ _ := cX_reset  hIa hn hpr
  have cM : WR l E (MP E bb n ids par cols rd nx isin wi wo wf) (AM bb) _ _ _ _ _ _ _ _ _ := cM_reset  hIb hn hrd2
  rw [hcol] at cM
  refine lv_aload_n hx hb dL_law_388 rfl (lv_at hl 2 rfl) ?_
  refine wrV (As := []) hC kL_56 cX hK hP (x_rec hK hP) hS hAX rfl rfl hl ⟨Nat.le_of_ble_eq_true rfl, Nat.le_of_ble_eq_true rfl⟩ (Nat.le_of_ble_eq_true rfl) dL_law_389 ⟨Nat.le_of_ble_eq_true rfl, Nat.le_of_ble_eq_true rfl⟩ (fun H1 locs1 hP9 hS hz9 hk9 => ?_)
  have hM := MP.kept hM hk9 (fun q h1 h2 => hAd q h2 h1)
  have hP := hP9
  refine lv_aload_n hx hb dL_law_392 rfl (lv_at hl 1 rfl) ?_
  refine wrV (As := []) hC kL_59 cM hK hM (m_rec hK hM) hS hAM rfl rfl hl ⟨Nat.le_of_ble_eq_true rfl, Nat.le_of_ble_eq_true rfl⟩ (Nat.le_of_ble_eq_true rfl) dL_law_393 ⟨Nat.le_of_ble_eq_true rfl, Nat.le_of_ble_eq_true rfl⟩ (fun H1 locs1 hM9 hS hz9 hk9 => ?_)
  have hP := XP.kept hP hk9 (fun q h1 h2 => hAd q h1 h2)
  have hM := hM9
  refine lv_icmp_eq (tgt := 653) hx hb dL_law_396 (by decide) (fun _ => ?_) (fun h9 => absurd rfl h9)
  refine kk _ _ _ ?_ hS hl
  exact ⟨_, _, _, _, _, _, _, hP, ⟨_, _, _, _, _, hM⟩, pr_reset hR, by omega⟩
set_option maxRecDepth 100000 in
set_option maxHeartbeats 2000000 in
theorem op_recolour (C0 : LX p s m c b L xs E a bb) (hk : 3 * k + 2 < L) (hL : L ≤ 1536) {n : Nat} {ids : Nat → Int32} {par : Nat → Option Nat} {rows : Nat → Nat → Int32} {pr rd : Nat} {cols : Nat → Int32} {nx : Nat → Int32} {isin : Nat → Bool} {wi wo : Nat → Nat} {wf : Nat → Option Nat} (hP : XP E a ids par rows pr pr n rd H) (hM : MP E bb n ids par cols rd nx isin wi wo wf H) (hR : REL n ids par rows pr rd cols) (hrd : rd ≤ 22 * k) (hS : va_S (A0 s) s.heap H locs) (hl : lv_has ls 4 [(3, .int (nI (3 * k))), (2, .ref (bb 0)), (1, .ref (a 0)), (0, .ref b)]) (kk : KC p l e s m below meth c b E a bb k Q) : W p l e room_1 s m #[Value.ref b] below meth c H locs 31 1091 Q (F0 m 401 ls []) := by
  obtain ⟨hC, hK, hX, hbl, hIa, hIb, hAX, hAM, hAd⟩ := id C0
  have hx := hC.1
  have hb := hC.2.1
  have hn := hR.hn
  have hp := hR.hp
  have hpr := hR.hpr
  have hcol := hR.col
  have hrd1 : rd < 90000 := by omega
  have hrd2 : rd < 100000 := by omega
  have hRP : RP n ids par (rows, pr, rd) (cols, nx, rd) := ⟨hR, rfl⟩
  have cX : WR l E (XP E a ids par rows pr pr n rd) (AX a) _ _ _ _ _ _ _ _ _ := cX_recolour (xs (3 * k + 1)) hIa hn hpr hp
  have cM : WR l E (MP E bb n ids par cols rd nx isin wi wo wf) (AM bb) _ _ _ _ _ _ _ _ _ := cM_recolour (xs (3 * k + 1)) hIb hn hp hrd2
  rw [hcol] at cM
  refine lv_aload_n hx hb dL_law_401 rfl (lv_at hl 2 rfl) ?_
  refine law_arg1 C0 hk hL hS hl dL_law_402 dL_law_403 dL_law_404 dL_law_405 dL_law_406 ?_
  refine wrV (As := [.int (xs (3 * k + 1))]) hC kL_60 cX hK hP (x_rec hK hP) hS hAX rfl rfl hl ⟨Nat.le_of_ble_eq_true rfl, Nat.le_of_ble_eq_true rfl⟩ (Nat.le_of_ble_eq_true rfl) dL_law_407 ⟨Nat.le_of_ble_eq_true rfl, Nat.le_of_ble_eq_true rfl⟩ (fun H1 locs1 hP9 hS hz9 hk9 => ?_)
  have hM := MP.kept hM hk9 (fun q h1 h2 => hAd q h2 h1)
  have hP := hP9
  refine lv_aload_n hx hb dL_law_410 rfl (lv_at hl 1 rfl) ?_
  refine law_arg1 C0 hk hL hS hl dL_law_411 dL_law_412 dL_law_413 dL_law_414 dL_law_415 ?_
  refine wrV (As := [.int (xs (3 * k + 1))]) hC kL_63 cM hK hM (m_rec hK hM) hS hAM rfl rfl hl ⟨Nat.le_of_ble_eq_true rfl, Nat.le_of_ble_eq_true rfl⟩ (Nat.le_of_ble_eq_true rfl) dL_law_416 ⟨Nat.le_of_ble_eq_true rfl, Nat.le_of_ble_eq_true rfl⟩ (fun H1 locs1 hM9 hS hz9 hk9 => ?_)
  have hP := XP.kept hP hk9 (fun q h1 h2 => hAd q h1 h2)
  have hM := hM9
  refine lv_icmp_eq (tgt := 653) hx hb dL_law_419 (by decide) (fun _ => ?_) (fun h9 => absurd rfl h9)
  refine kk _ _ _ ?_ hS hl
  cases h : vN n (xs (3 * k + 1)) with
  | none =>
    simp only [oU_none h] at hP hM
    exact st_keep hP ⟨nx, isin, wi, wo, wf, hM⟩ hR hrd
  | some v =>
    simp only [oU_some h] at hP hM
    have hv := vn_lt hn h
    obtain ⟨q, hq, hqn⟩ := free_ex hn hp (rows pr) hv
    exact ⟨_, _, _, _, _, _, _, hP, ⟨_, _, _, _, _, hM⟩, hR.start.set hv (by rw [hq]; exact inV_nI (by omega)), by omega⟩
end
