-- (laid by wip/whole/gen/law.py)
section
variable {p : Program} {l : Launch} {e : Env} {s : State} {m : MethodId} {below : List Frame} {meth : Method} {c : Code} {H : Heap} {locs : List Loc} {Q : State → Prop} {b L k : Nat} {xs : Nat → Int32} {E : EE} {a bb : Nat → Nat} {ls : Array Slot} {st : List Value} {cells slots : Nat}
set_option maxRecDepth 100000 in
set_option maxHeartbeats 2000000 in
theorem op_colourCount (C0 : LX p s m c b L xs E a bb) (hk : 3 * k + 2 < L) (hL : L ≤ 1536) {n : Nat} {ids : Nat → Int32} {par : Nat → Option Nat} {rows : Nat → Nat → Int32} {pr rd : Nat} {cols : Nat → Int32} {nx : Nat → Int32} {isin : Nat → Bool} {wi wo : Nat → Nat} {wf : Nat → Option Nat} (hP : XP E a ids par rows pr pr n rd H) (hM : MP E bb n ids par cols rd nx isin wi wo wf H) (hR : REL n ids par rows pr rd cols) (hrd : rd ≤ 22 * k) (hS : va_S (A0 s) s.heap H locs) (hl : lv_has ls 4 [(3, .int (nI (3 * k))), (2, .ref (bb 0)), (1, .ref (a 0)), (0, .ref b)]) (kk : KC p l e s m below meth c b E a bb k Q) : W p l e room_1 s m #[Value.ref b] below meth c H locs 31 1091 Q (F0 m 424 ls []) := by
  obtain ⟨hC, hK, hX, hbl, hIa, hIb, hAX, hAM, hAd⟩ := id C0
  have hx := hC.1
  have hb := hC.2.1
  have hn := hR.hn
  have hp := hR.hp
  have hpr := hR.hpr
  have hcol := hR.col
  have hrd1 : rd < 90000 := by omega
  have hrd2 : rd < 100000 := by omega
  have hRP : RP n ids par (rows, pr, rd) (cols, nx, rd) := ⟨hR, rfl⟩
  have cX : RO l E (XP E a ids par rows pr pr n rd) _ _ _ _ _ _ _ _ := cX_colourCount  hn hpr
  have cM : RO l E (MP E bb n ids par cols rd nx isin wi wo wf) _ _ _ _ _ _ _ _ := cM_colourCount  hn hrd2
  rw [hcol] at cM
  refine lv_aload_n hx hb dL_law_424 rfl (lv_at hl 2 rfl) ?_
  refine roV (As := []) hC kL_64 cX hK hP (x_rec hK hP) rfl rfl hl ⟨Nat.le_of_ble_eq_true rfl, Nat.le_of_ble_eq_true rfl⟩ (Nat.le_of_ble_eq_true rfl) dL_law_425 ⟨Nat.le_of_ble_eq_true rfl, Nat.le_of_ble_eq_true rfl⟩ ?_
  refine lv_aload_n hx hb dL_law_428 rfl (lv_at hl 1 rfl) ?_
  refine roV (As := []) hC kL_67 cM hK hM (m_rec hK hM) rfl rfl hl ⟨Nat.le_of_ble_eq_true rfl, Nat.le_of_ble_eq_true rfl⟩ (Nat.le_of_ble_eq_true rfl) dL_law_429 ⟨Nat.le_of_ble_eq_true rfl, Nat.le_of_ble_eq_true rfl⟩ ?_
  refine lv_icmp_eq (tgt := 653) hx hb dL_law_432 (by decide) (fun _ => ?_) (fun h9 => absurd rfl h9)
  refine kk _ _ _ ?_ hS hl
  exact st_keep hP ⟨nx, isin, wi, wo, wf, hM⟩ hR hrd
set_option maxRecDepth 100000 in
set_option maxHeartbeats 2000000 in
theorem op_greatestColour (C0 : LX p s m c b L xs E a bb) (hk : 3 * k + 2 < L) (hL : L ≤ 1536) {n : Nat} {ids : Nat → Int32} {par : Nat → Option Nat} {rows : Nat → Nat → Int32} {pr rd : Nat} {cols : Nat → Int32} {nx : Nat → Int32} {isin : Nat → Bool} {wi wo : Nat → Nat} {wf : Nat → Option Nat} (hP : XP E a ids par rows pr pr n rd H) (hM : MP E bb n ids par cols rd nx isin wi wo wf H) (hR : REL n ids par rows pr rd cols) (hrd : rd ≤ 22 * k) (hS : va_S (A0 s) s.heap H locs) (hl : lv_has ls 4 [(3, .int (nI (3 * k))), (2, .ref (bb 0)), (1, .ref (a 0)), (0, .ref b)]) (kk : KC p l e s m below meth c b E a bb k Q) : W p l e room_1 s m #[Value.ref b] below meth c H locs 31 1091 Q (F0 m 437 ls []) := by
  obtain ⟨hC, hK, hX, hbl, hIa, hIb, hAX, hAM, hAd⟩ := id C0
  have hx := hC.1
  have hb := hC.2.1
  have hn := hR.hn
  have hp := hR.hp
  have hpr := hR.hpr
  have hcol := hR.col
  have hrd1 : rd < 90000 := by omega
  have hrd2 : rd < 100000 := by omega
  have hRP : RP n ids par (rows, pr, rd) (cols, nx, rd) := ⟨hR, rfl⟩
  have cX : RO l E (XP E a ids par rows pr pr n rd) _ _ _ _ _ _ _ _ := cX_greatest  hn hpr
  have cM : RO l E (MP E bb n ids par cols rd nx isin wi wo wf) _ _ _ _ _ _ _ _ := cM_greatestColour  hn hrd2
  rw [hcol] at cM
  refine lv_aload_n hx hb dL_law_437 rfl (lv_at hl 2 rfl) ?_
  refine roV (As := []) hC kL_68 cX hK hP (x_rec hK hP) rfl rfl hl ⟨Nat.le_of_ble_eq_true rfl, Nat.le_of_ble_eq_true rfl⟩ (Nat.le_of_ble_eq_true rfl) dL_law_438 ⟨Nat.le_of_ble_eq_true rfl, Nat.le_of_ble_eq_true rfl⟩ ?_
  refine lv_aload_n hx hb dL_law_441 rfl (lv_at hl 1 rfl) ?_
  refine roV (As := []) hC kL_71 cM hK hM (m_rec hK hM) rfl rfl hl ⟨Nat.le_of_ble_eq_true rfl, Nat.le_of_ble_eq_true rfl⟩ (Nat.le_of_ble_eq_true rfl) dL_law_442 ⟨Nat.le_of_ble_eq_true rfl, Nat.le_of_ble_eq_true rfl⟩ ?_
  refine lv_icmp_eq (tgt := 653) hx hb dL_law_445 (by decide) (fun _ => ?_) (fun h9 => absurd rfl h9)
  refine kk _ _ _ ?_ hS hl
  exact st_keep hP ⟨nx, isin, wi, wo, wf, hM⟩ hR hrd
set_option maxRecDepth 100000 in
set_option maxHeartbeats 2000000 in
theorem op_conflictCount (C0 : LX p s m c b L xs E a bb) (hk : 3 * k + 2 < L) (hL : L ≤ 1536) {n : Nat} {ids : Nat → Int32} {par : Nat → Option Nat} {rows : Nat → Nat → Int32} {pr rd : Nat} {cols : Nat → Int32} {nx : Nat → Int32} {isin : Nat → Bool} {wi wo : Nat → Nat} {wf : Nat → Option Nat} (hP : XP E a ids par rows pr pr n rd H) (hM : MP E bb n ids par cols rd nx isin wi wo wf H) (hR : REL n ids par rows pr rd cols) (hrd : rd ≤ 22 * k) (hS : va_S (A0 s) s.heap H locs) (hl : lv_has ls 4 [(3, .int (nI (3 * k))), (2, .ref (bb 0)), (1, .ref (a 0)), (0, .ref b)]) (kk : KC p l e s m below meth c b E a bb k Q) : W p l e room_1 s m #[Value.ref b] below meth c H locs 31 1091 Q (F0 m 450 ls []) := by
  obtain ⟨hC, hK, hX, hbl, hIa, hIb, hAX, hAM, hAd⟩ := id C0
  have hx := hC.1
  have hb := hC.2.1
  have hn := hR.hn
  have hp := hR.hp
  have hpr := hR.hpr
  have hcol := hR.col
  have hrd1 : rd < 90000 := by omega
  have hrd2 : rd < 100000 := by omega
  have hRP : RP n ids par (rows, pr, rd) (cols, nx, rd) := ⟨hR, rfl⟩
  have cX : RO l E (XP E a ids par rows pr pr n rd) _ _ _ _ _ _ _ _ := cX_conflictCount  hn hpr hp
  have cM : RO l E (MP E bb n ids par cols rd nx isin wi wo wf) _ _ _ _ _ _ _ _ := cM_conflictCount  hn hp hrd2
  rw [hcol] at cM
  refine lv_aload_n hx hb dL_law_450 rfl (lv_at hl 2 rfl) ?_
  refine roV (As := []) hC kL_72 cX hK hP (x_rec hK hP) rfl rfl hl ⟨Nat.le_of_ble_eq_true rfl, Nat.le_of_ble_eq_true rfl⟩ (Nat.le_of_ble_eq_true rfl) dL_law_451 ⟨Nat.le_of_ble_eq_true rfl, Nat.le_of_ble_eq_true rfl⟩ ?_
  refine lv_aload_n hx hb dL_law_454 rfl (lv_at hl 1 rfl) ?_
  refine roV (As := []) hC kL_75 cM hK hM (m_rec hK hM) rfl rfl hl ⟨Nat.le_of_ble_eq_true rfl, Nat.le_of_ble_eq_true rfl⟩ (Nat.le_of_ble_eq_true rfl) dL_law_455 ⟨Nat.le_of_ble_eq_true rfl, Nat.le_of_ble_eq_true rfl⟩ ?_
  refine lv_icmp_eq (tgt := 653) hx hb dL_law_458 (by decide) (fun _ => ?_) (fun h9 => absurd rfl h9)
  refine kk _ _ _ ?_ hS hl
  exact st_keep hP ⟨nx, isin, wi, wo, wf, hM⟩ hR hrd
set_option maxRecDepth 100000 in
set_option maxHeartbeats 2000000 in
theorem op_differingBit (C0 : LX p s m c b L xs E a bb) (hk : 3 * k + 2 < L) (hL : L ≤ 1536) {n : Nat} {ids : Nat → Int32} {par : Nat → Option Nat} {rows : Nat → Nat → Int32} {pr rd : Nat} {cols : Nat → Int32} {nx : Nat → Int32} {isin : Nat → Bool} {wi wo : Nat → Nat} {wf : Nat → Option Nat} (hP : XP E a ids par rows pr pr n rd H) (hM : MP E bb n ids par cols rd nx isin wi wo wf H) (hR : REL n ids par rows pr rd cols) (hrd : rd ≤ 22 * k) (hS : va_S (A0 s) s.heap H locs) (hl : lv_has ls 4 [(3, .int (nI (3 * k))), (2, .ref (bb 0)), (1, .ref (a 0)), (0, .ref b)]) (kk : KC p l e s m below meth c b E a bb k Q) : W p l e room_1 s m #[Value.ref b] below meth c H locs 31 1091 Q (F0 m 463 ls []) := by
  obtain ⟨hC, hK, hX, hbl, hIa, hIb, hAX, hAM, hAd⟩ := id C0
  have hx := hC.1
  have hb := hC.2.1
  have hn := hR.hn
  have hp := hR.hp
  have hpr := hR.hpr
  have hcol := hR.col
  have hrd1 : rd < 90000 := by omega
  have hrd2 : rd < 100000 := by omega
  have hRP : RP n ids par (rows, pr, rd) (cols, nx, rd) := ⟨hR, rfl⟩
  have cX : RO l E (XP E a ids par rows pr pr n rd) _ _ _ _ _ _ _ _ := cX_differing (xs (3 * k + 1)) hn hpr hp
  have cM : RO l E (MP E bb n ids par cols rd nx isin wi wo wf) _ _ _ _ _ _ _ _ := cM_differing (xs (3 * k + 1)) hn hp hrd2
  rw [hcol] at cM
  refine lv_aload_n hx hb dL_law_463 rfl (lv_at hl 2 rfl) ?_
  refine law_arg1 C0 hk hL hS hl dL_law_464 dL_law_465 dL_law_466 dL_law_467 dL_law_468 ?_
  refine roV (As := [.int (xs (3 * k + 1))]) hC kL_76 cX hK hP (x_rec hK hP) rfl rfl hl ⟨Nat.le_of_ble_eq_true rfl, Nat.le_of_ble_eq_true rfl⟩ (Nat.le_of_ble_eq_true rfl) dL_law_469 ⟨Nat.le_of_ble_eq_true rfl, Nat.le_of_ble_eq_true rfl⟩ ?_
  refine lv_aload_n hx hb dL_law_472 rfl (lv_at hl 1 rfl) ?_
  refine law_arg1 C0 hk hL hS hl dL_law_473 dL_law_474 dL_law_475 dL_law_476 dL_law_477 ?_
  refine roV (As := [.int (xs (3 * k + 1))]) hC kL_79 cM hK hM (m_rec hK hM) rfl rfl hl ⟨Nat.le_of_ble_eq_true rfl, Nat.le_of_ble_eq_true rfl⟩ (Nat.le_of_ble_eq_true rfl) dL_law_478 ⟨Nat.le_of_ble_eq_true rfl, Nat.le_of_ble_eq_true rfl⟩ ?_
  refine lv_icmp_eq (tgt := 653) hx hb dL_law_481 (by decide) (fun _ => ?_) (fun h9 => absurd rfl h9)
  refine kk _ _ _ ?_ hS hl
  exact st_keep hP ⟨nx, isin, wi, wo, wf, hM⟩ hR hrd
set_option maxRecDepth 100000 in
set_option maxHeartbeats 2000000 in
theorem op_reduce (C0 : LX p s m c b L xs E a bb) (hk : 3 * k + 2 < L) (hL : L ≤ 1536) {n : Nat} {ids : Nat → Int32} {par : Nat → Option Nat} {rows : Nat → Nat → Int32} {pr rd : Nat} {cols : Nat → Int32} {nx : Nat → Int32} {isin : Nat → Bool} {wi wo : Nat → Nat} {wf : Nat → Option Nat} (hP : XP E a ids par rows pr pr n rd H) (hM : MP E bb n ids par cols rd nx isin wi wo wf H) (hR : REL n ids par rows pr rd cols) (hrd : rd ≤ 22 * k) (hS : va_S (A0 s) s.heap H locs) (hl : lv_has ls 4 [(3, .int (nI (3 * k))), (2, .ref (bb 0)), (1, .ref (a 0)), (0, .ref b)]) (kk : KC p l e s m below meth c b E a bb k Q) : W p l e room_1 s m #[Value.ref b] below meth c H locs 31 1091 Q (F0 m 486 ls []) := by
  obtain ⟨hC, hK, hX, hbl, hIa, hIb, hAX, hAM, hAd⟩ := id C0
  have hx := hC.1
  have hb := hC.2.1
  have hn := hR.hn
  have hp := hR.hp
  have hpr := hR.hpr
  have hcol := hR.col
  have hrd1 : rd < 90000 := by omega
  have hrd2 : rd < 100000 := by omega
  have hRP : RP n ids par (rows, pr, rd) (cols, nx, rd) := ⟨hR, rfl⟩
  have cX : WR l E (XP E a ids par rows pr pr n rd) (AX a) _ _ _ _ _ _ _ _ _ := cX_reduce  hIa hn hpr hp
  have cM : WR l E (MP E bb n ids par cols rd nx isin wi wo wf) (AM bb) _ _ _ _ _ _ _ _ _ := cM_reduce  hIb hn hp hrd1
  rw [hcol] at cM
  have hEq : (if propB n par (rows pr) = true then mxF ((redS par n (rows, pr, rd)).1 (redS par n (rows, pr, rd)).2.1) n else -5) = (if propB n par (rows pr) = true then mxF (mcol (mredS par n (cols, nx, rd)).1 (mredS par n (cols, nx, rd)).2.2) n else -5) := by
    by_cases h : propB n par (rows pr) = true
    · rw [if_pos h, if_pos h, (hRP.red h).col]
    · rw [if_neg h, if_neg h]
  refine lv_aload_n hx hb dL_law_486 rfl (lv_at hl 2 rfl) ?_
  refine wrV (As := []) hC kL_80 cX hK hP (x_rec hK hP) hS hAX rfl rfl hl ⟨Nat.le_of_ble_eq_true rfl, Nat.le_of_ble_eq_true rfl⟩ (Nat.le_of_ble_eq_true rfl) dL_law_487 ⟨Nat.le_of_ble_eq_true rfl, Nat.le_of_ble_eq_true rfl⟩ (fun H1 locs1 hP9 hS hz9 hk9 => ?_)
  have hM := MP.kept hM hk9 (fun q h1 h2 => hAd q h2 h1)
  have hP := hP9
  refine lv_aload_n hx hb dL_law_490 rfl (lv_at hl 1 rfl) ?_
  refine wrV (As := []) hC kL_83 cM hK hM (m_rec hK hM) hS hAM rfl rfl hl ⟨Nat.le_of_ble_eq_true rfl, Nat.le_of_ble_eq_true rfl⟩ (Nat.le_of_ble_eq_true rfl) dL_law_491 ⟨Nat.le_of_ble_eq_true rfl, Nat.le_of_ble_eq_true rfl⟩ (fun H1 locs1 hM9 hS hz9 hk9 => ?_)
  have hP := XP.kept hP hk9 (fun q h1 h2 => hAd q h1 h2)
  have hM := hM9
  refine lv_icmp_eq (tgt := 653) hx hb dL_law_494 (by decide) (fun _ => ?_) (fun h9 => absurd hEq h9)
  refine kk _ _ _ ?_ hS hl
  by_cases h : propB n par (rows pr) = true
  · simp only [if_pos h] at hP hM
    have h1 := hRP.red h
    have h2 : (redS par n (rows, pr, rd)).2.2 = rd + 1 := rfl
    rw [h1.2] at hM
    exact ⟨_, _, _, _, _, _, _, hP, ⟨_, _, _, _, _, hM⟩, h1.1, by omega⟩
  · simp only [if_neg h] at hP hM
    exact st_keep hP ⟨nx, isin, wi, wo, wf, hM⟩ hR hrd
set_option maxRecDepth 100000 in
set_option maxHeartbeats 2000000 in
theorem op_shift (C0 : LX p s m c b L xs E a bb) (hk : 3 * k + 2 < L) (hL : L ≤ 1536) {n : Nat} {ids : Nat → Int32} {par : Nat → Option Nat} {rows : Nat → Nat → Int32} {pr rd : Nat} {cols : Nat → Int32} {nx : Nat → Int32} {isin : Nat → Bool} {wi wo : Nat → Nat} {wf : Nat → Option Nat} (hP : XP E a ids par rows pr pr n rd H) (hM : MP E bb n ids par cols rd nx isin wi wo wf H) (hR : REL n ids par rows pr rd cols) (hrd : rd ≤ 22 * k) (hS : va_S (A0 s) s.heap H locs) (hl : lv_has ls 4 [(3, .int (nI (3 * k))), (2, .ref (bb 0)), (1, .ref (a 0)), (0, .ref b)]) (kk : KC p l e s m below meth c b E a bb k Q) : W p l e room_1 s m #[Value.ref b] below meth c H locs 31 1091 Q (F0 m 499 ls []) := by
  obtain ⟨hC, hK, hX, hbl, hIa, hIb, hAX, hAM, hAd⟩ := id C0
  have hx := hC.1
  have hb := hC.2.1
  have hn := hR.hn
  have hp := hR.hp
  have hpr := hR.hpr
  have hcol := hR.col
  have hrd1 : rd < 90000 := by omega
  have hrd2 : rd < 100000 := by omega
  have hRP : RP n ids par (rows, pr, rd) (cols, nx, rd) := ⟨hR, rfl⟩
  have cX : WR l E (XP E a ids par rows pr pr n rd) (AX a) _ _ _ _ _ _ _ _ _ := cX_shift  hIa hn hpr hp
  have cM : WR l E (MP E bb n ids par cols rd nx isin wi wo wf) (AM bb) _ _ _ _ _ _ _ _ _ := cM_shift  hIb hn hp hrd2
  rw [hcol] at cM
  refine lv_aload_n hx hb dL_law_499 rfl (lv_at hl 2 rfl) ?_
  refine wrV (As := []) hC kL_84 cX hK hP (x_rec hK hP) hS hAX rfl rfl hl ⟨Nat.le_of_ble_eq_true rfl, Nat.le_of_ble_eq_true rfl⟩ (Nat.le_of_ble_eq_true rfl) dL_law_500 ⟨Nat.le_of_ble_eq_true rfl, Nat.le_of_ble_eq_true rfl⟩ (fun H1 locs1 hP9 hS hz9 hk9 => ?_)
  have hM := MP.kept hM hk9 (fun q h1 h2 => hAd q h2 h1)
  have hP := hP9
  refine lv_aload_n hx hb dL_law_503 rfl (lv_at hl 1 rfl) ?_
  refine wrV (As := []) hC kL_87 cM hK hM (m_rec hK hM) hS hAM rfl rfl hl ⟨Nat.le_of_ble_eq_true rfl, Nat.le_of_ble_eq_true rfl⟩ (Nat.le_of_ble_eq_true rfl) dL_law_504 ⟨Nat.le_of_ble_eq_true rfl, Nat.le_of_ble_eq_true rfl⟩ (fun H1 locs1 hM9 hS hz9 hk9 => ?_)
  have hP := XP.kept hP hk9 (fun q h1 h2 => hAd q h1 h2)
  have hM := hM9
  refine lv_icmp_eq (tgt := 653) hx hb dL_law_507 (by decide) (fun _ => ?_) (fun h9 => absurd rfl h9)
  refine kk _ _ _ ?_ hS hl
  have h1 := hRP.sh
  have h2 : (shS par n (rows, pr, rd)).2.2 = rd + 1 := rfl
  rw [h1.2] at hM
  exact ⟨_, _, _, _, _, _, _, hP, ⟨_, _, _, _, _, hM⟩, h1.1, by omega⟩
set_option maxRecDepth 100000 in
set_option maxHeartbeats 2000000 in
theorem op_eliminate (C0 : LX p s m c b L xs E a bb) (hk : 3 * k + 2 < L) (hL : L ≤ 1536) {n : Nat} {ids : Nat → Int32} {par : Nat → Option Nat} {rows : Nat → Nat → Int32} {pr rd : Nat} {cols : Nat → Int32} {nx : Nat → Int32} {isin : Nat → Bool} {wi wo : Nat → Nat} {wf : Nat → Option Nat} (hP : XP E a ids par rows pr pr n rd H) (hM : MP E bb n ids par cols rd nx isin wi wo wf H) (hR : REL n ids par rows pr rd cols) (hrd : rd ≤ 22 * k) (hS : va_S (A0 s) s.heap H locs) (hl : lv_has ls 4 [(3, .int (nI (3 * k))), (2, .ref (bb 0)), (1, .ref (a 0)), (0, .ref b)]) (kk : KC p l e s m below meth c b E a bb k Q) : W p l e room_1 s m #[Value.ref b] below meth c H locs 31 1091 Q (F0 m 512 ls []) := by
  obtain ⟨hC, hK, hX, hbl, hIa, hIb, hAX, hAM, hAd⟩ := id C0
  have hx := hC.1
  have hb := hC.2.1
  have hn := hR.hn
  have hp := hR.hp
  have hpr := hR.hpr
  have hcol := hR.col
  have hrd1 : rd < 90000 := by omega
  have hrd2 : rd < 100000 := by omega
  have hRP : RP n ids par (rows, pr, rd) (cols, nx, rd) := ⟨hR, rfl⟩
  have cX : WR l E (XP E a ids par rows pr pr n rd) (AX a) _ _ _ _ _ _ _ _ _ := cX_eliminate (xs (3 * k + 1)) hIa hn hpr hp
  have cM : WR l E (MP E bb n ids par cols rd nx isin wi wo wf) (AM bb) _ _ _ _ _ _ _ _ _ := cM_eliminate (xs (3 * k + 1)) hIb hn hp hrd2 (fun v hv => by rw [hcol]; exact inV_7 (hR.2.2.1 v hv))
  rw [hcol] at cM
  refine lv_aload_n hx hb dL_law_512 rfl (lv_at hl 2 rfl) ?_
  refine law_arg1 C0 hk hL hS hl dL_law_513 dL_law_514 dL_law_515 dL_law_516 dL_law_517 ?_
  refine wrV (As := [.int (xs (3 * k + 1))]) hC kL_88 cX hK hP (x_rec hK hP) hS hAX rfl rfl hl ⟨Nat.le_of_ble_eq_true rfl, Nat.le_of_ble_eq_true rfl⟩ (Nat.le_of_ble_eq_true rfl) dL_law_518 ⟨Nat.le_of_ble_eq_true rfl, Nat.le_of_ble_eq_true rfl⟩ (fun H1 locs1 hP9 hS hz9 hk9 => ?_)
  have hM := MP.kept hM hk9 (fun q h1 h2 => hAd q h2 h1)
  have hP := hP9
  refine lv_aload_n hx hb dL_law_521 rfl (lv_at hl 1 rfl) ?_
  refine law_arg1 C0 hk hL hS hl dL_law_522 dL_law_523 dL_law_524 dL_law_525 dL_law_526 ?_
  refine wrV (As := [.int (xs (3 * k + 1))]) hC kL_91 cM hK hM (m_rec hK hM) hS hAM rfl rfl hl ⟨Nat.le_of_ble_eq_true rfl, Nat.le_of_ble_eq_true rfl⟩ (Nat.le_of_ble_eq_true rfl) dL_law_527 ⟨Nat.le_of_ble_eq_true rfl, Nat.le_of_ble_eq_true rfl⟩ (fun H1 locs1 hM9 hS hz9 hk9 => ?_)
  have hP := XP.kept hP hk9 (fun q h1 h2 => hAd q h1 h2)
  have hM := hM9
  refine lv_icmp_eq (tgt := 653) hx hb dL_law_530 (by decide) (fun _ => ?_) (fun h9 => absurd rfl h9)
  refine kk _ _ _ ?_ hS hl
  by_cases h : okEL n par (rows pr) (xs (3 * k + 1)) = true
  · simp only [if_pos h] at hP hM
    have h1 := hRP.el (xs (3 * k + 1))
    have h2 : (elS par n (xs (3 * k + 1)) (rows, pr, rd)).2.2 ≤ rd + 1 := el_rd
    rw [h1.2] at hM
    exact ⟨_, _, _, _, _, _, _, hP, ⟨_, _, _, _, _, hM⟩, h1.1, by omega⟩
  · simp only [if_neg h] at hP hM
    exact st_keep hP ⟨nx, isin, wi, wo, wf, hM⟩ hR hrd
end
