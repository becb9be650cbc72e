-- (laid by wip/whole/gen/law.py)
section
variable {p : Program} {l : Launch} {e : Env} {s : State} {m : MethodId} {below : List Frame} {meth : Method} {c : Code} {H : Heap} {locs : List Loc} {Q : State → Prop} {b L k : Nat} {xs : Nat → Int32} {E : EE} {a bb : Nat → Nat} {ls : Array Slot} {st : List Value} {cells slots : Nat}
set_option maxRecDepth 100000 in
set_option maxHeartbeats 2000000 in
theorem op_reduceToThree (C0 : LX p s m c b L xs E a bb) (hk : 3 * k + 2 < L) (hL : L ≤ 1536) {n : Nat} {ids : Nat → Int32} {par : Nat → Option Nat} {rows : Nat → Nat → Int32} {pr rd : Nat} {cols : Nat → Int32} {nx : Nat → Int32} {isin : Nat → Bool} {wi wo : Nat → Nat} {wf : Nat → Option Nat} (hP : XP E a ids par rows pr pr n rd H) (hM : MP E bb n ids par cols rd nx isin wi wo wf H) (hR : REL n ids par rows pr rd cols) (hrd : rd ≤ 22 * k) (hS : va_S (A0 s) s.heap H locs) (hl : lv_has ls 4 [(3, .int (nI (3 * k))), (2, .ref (bb 0)), (1, .ref (a 0)), (0, .ref b)]) (kk : KC p l e s m below meth c b E a bb k Q) : W p l e room_1 s m #[Value.ref b] below meth c H locs 31 1091 Q (F0 m 535 ls []) := by
  obtain ⟨hC, hK, hX, hbl, hIa, hIb, hAX, hAM, hAd⟩ := id C0
  have hx := hC.1
  have hb := hC.2.1
  have hn := hR.hn
  have hp := hR.hp
  have hpr := hR.hpr
  have hcol := hR.col
  have hrd1 : rd < 90000 := by omega
  have hrd2 : rd < 100000 := by omega
  have hRP : RP n ids par (rows, pr, rd) (cols, nx, rd) := ⟨hR, rfl⟩
  have cX : WR l E (XP E a ids par rows pr pr n rd) (AX a) _ _ _ _ _ _ _ _ _ := cX_rt3  hIa hn hpr hp
  have cM : WR l E (MP E bb n ids par cols rd nx isin wi wo wf) (AM bb) _ _ _ _ _ _ _ _ _ := cM_rt3  hIb hn hp hrd1 (fun hpb k h => rt3_T hRP hpb k h) (fun hpb j _ v hv => rt3_E hRP hpb j v hv)
  rw [hcol] at cM
  have hEq : (if propB n par (rows pr) = true then nI ((rt3S par n (rows, pr, rd)).2.2 - rd) else -5) = (if propB n par (rows pr) = true then nI ((mrt3S par n (cols, nx, rd)).2.2 - rd) else -5) := by
    by_cases h : propB n par (rows pr) = true
    · rw [if_pos h, if_pos h, (rt3_RP hRP h).2]
    · rw [if_neg h, if_neg h]
  refine lv_aload_n hx hb dL_law_535 rfl (lv_at hl 2 rfl) ?_
  refine wrV (As := []) hC kL_92 cX hK hP (x_rec hK hP) hS hAX rfl rfl hl ⟨Nat.le_of_ble_eq_true rfl, Nat.le_of_ble_eq_true rfl⟩ (Nat.le_of_ble_eq_true rfl) dL_law_536 ⟨Nat.le_of_ble_eq_true rfl, Nat.le_of_ble_eq_true rfl⟩ (fun H1 locs1 hP9 hS hz9 hk9 => ?_)
  have hM := MP.kept hM hk9 (fun q h1 h2 => hAd q h2 h1)
  have hP := hP9
  refine lv_aload_n hx hb dL_law_539 rfl (lv_at hl 1 rfl) ?_
  refine wrV (As := []) hC kL_95 cM hK hM (m_rec hK hM) hS hAM rfl rfl hl ⟨Nat.le_of_ble_eq_true rfl, Nat.le_of_ble_eq_true rfl⟩ (Nat.le_of_ble_eq_true rfl) dL_law_540 ⟨Nat.le_of_ble_eq_true rfl, Nat.le_of_ble_eq_true rfl⟩ (fun H1 locs1 hM9 hS hz9 hk9 => ?_)
  have hP := XP.kept hP hk9 (fun q h1 h2 => hAd q h1 h2)
  have hM := hM9
  refine lv_icmp_eq (tgt := 653) hx hb dL_law_543 (by decide) (fun _ => ?_) (fun h9 => absurd hEq h9)
  refine kk _ _ _ ?_ hS hl
  by_cases h : propB n par (rows pr) = true
  · simp only [if_pos h] at hP hM
    have h1 := rt3_RP hRP h
    have h2 : (mrt3S par n (cols, nx, rd)).2.2 ≤ rd + 22 := rt3_rd
    rw [h1.2] at hM h2
    exact ⟨_, _, _, _, _, _, _, hP, ⟨_, _, _, _, _, hM⟩, h1.1, by omega⟩
  · simp only [if_neg h] at hP hM
    exact st_keep hP ⟨nx, isin, wi, wo, wf, hM⟩ hR hrd
set_option maxRecDepth 100000 in
set_option maxHeartbeats 2000000 in
theorem op_roundCount (C0 : LX p s m c b L xs E a bb) (hk : 3 * k + 2 < L) (hL : L ≤ 1536) {n : Nat} {ids : Nat → Int32} {par : Nat → Option Nat} {rows : Nat → Nat → Int32} {pr rd : Nat} {cols : Nat → Int32} {nx : Nat → Int32} {isin : Nat → Bool} {wi wo : Nat → Nat} {wf : Nat → Option Nat} (hP : XP E a ids par rows pr pr n rd H) (hM : MP E bb n ids par cols rd nx isin wi wo wf H) (hR : REL n ids par rows pr rd cols) (hrd : rd ≤ 22 * k) (hS : va_S (A0 s) s.heap H locs) (hl : lv_has ls 4 [(3, .int (nI (3 * k))), (2, .ref (bb 0)), (1, .ref (a 0)), (0, .ref b)]) (kk : KC p l e s m below meth c b E a bb k Q) : W p l e room_1 s m #[Value.ref b] below meth c H locs 31 1091 Q (F0 m 548 ls []) := by
  obtain ⟨hC, hK, hX, hbl, hIa, hIb, hAX, hAM, hAd⟩ := id C0
  have hx := hC.1
  have hb := hC.2.1
  have hn := hR.hn
  have hp := hR.hp
  have hpr := hR.hpr
  have hcol := hR.col
  have hrd1 : rd < 90000 := by omega
  have hrd2 : rd < 100000 := by omega
  have hRP : RP n ids par (rows, pr, rd) (cols, nx, rd) := ⟨hR, rfl⟩
  have cX : RO l E (XP E a ids par rows pr pr n rd) _ _ _ _ _ _ _ _ := cX_roundCount  
  have cM : RO l E (MP E bb n ids par cols rd nx isin wi wo wf) _ _ _ _ _ _ _ _ := cM_roundCount  
  refine lv_aload_n hx hb dL_law_548 rfl (lv_at hl 2 rfl) ?_
  refine roV (As := []) hC kL_96 cX hK hP (x_rec hK hP) rfl rfl hl ⟨Nat.le_of_ble_eq_true rfl, Nat.le_of_ble_eq_true rfl⟩ (Nat.le_of_ble_eq_true rfl) dL_law_549 ⟨Nat.le_of_ble_eq_true rfl, Nat.le_of_ble_eq_true rfl⟩ ?_
  refine lv_aload_n hx hb dL_law_552 rfl (lv_at hl 1 rfl) ?_
  refine roV (As := []) hC kL_99 cM hK hM (m_rec hK hM) rfl rfl hl ⟨Nat.le_of_ble_eq_true rfl, Nat.le_of_ble_eq_true rfl⟩ (Nat.le_of_ble_eq_true rfl) dL_law_553 ⟨Nat.le_of_ble_eq_true rfl, Nat.le_of_ble_eq_true rfl⟩ ?_
  refine lv_icmp_eq (tgt := 653) hx hb dL_law_556 (by decide) (fun _ => ?_) (fun h9 => absurd rfl h9)
  refine kk _ _ _ ?_ hS hl
  exact st_keep hP ⟨nx, isin, wi, wo, wf, hM⟩ hR hrd
set_option maxRecDepth 100000 in
set_option maxHeartbeats 2000000 in
theorem op_pastColour (C0 : LX p s m c b L xs E a bb) (hk : 3 * k + 2 < L) (hL : L ≤ 1536) {n : Nat} {ids : Nat → Int32} {par : Nat → Option Nat} {rows : Nat → Nat → Int32} {pr rd : Nat} {cols : Nat → Int32} {nx : Nat → Int32} {isin : Nat → Bool} {wi wo : Nat → Nat} {wf : Nat → Option Nat} (hP : XP E a ids par rows pr pr n rd H) (hM : MP E bb n ids par cols rd nx isin wi wo wf H) (hR : REL n ids par rows pr rd cols) (hrd : rd ≤ 22 * k) (hS : va_S (A0 s) s.heap H locs) (hl : lv_has ls 4 [(3, .int (nI (3 * k))), (2, .ref (bb 0)), (1, .ref (a 0)), (0, .ref b)]) (kk : KC p l e s m below meth c b E a bb k Q) : W p l e room_1 s m #[Value.ref b] below meth c H locs 31 1091 Q (F0 m 561 ls []) := by
  obtain ⟨hC, hK, hX, hbl, hIa, hIb, hAX, hAM, hAd⟩ := id C0
  have hx := hC.1
  have hb := hC.2.1
  have hn := hR.hn
  have hp := hR.hp
  have hpr := hR.hpr
  have hcol := hR.col
  have hrd1 : rd < 90000 := by omega
  have hrd2 : rd < 100000 := by omega
  have hRP : RP n ids par (rows, pr, rd) (cols, nx, rd) := ⟨hR, rfl⟩
  have cX : RO l E (XP E a ids par rows pr pr n rd) _ _ _ _ _ _ _ _ := cX_past (xs (3 * k + 1)) (xs (3 * k + 2)) hn hpr hrd2
  have cM : RO l E (MP E bb n ids par cols rd nx isin wi wo wf) _ _ _ _ _ _ _ _ := cM_past (xs (3 * k + 1)) (xs (3 * k + 2)) hn hrd2
  have hEq : oN (vN n (xs (3 * k + 1))) (fun v => pastF rows pr rd (xs (3 * k + 2)) v) = oN (vN n (xs (3 * k + 1))) (fun v => mpast cols rd (xs (3 * k + 2)) v) := by
    congr 1
    funext v
    exact hR.past hrd2 _ v
  refine lv_aload_n hx hb dL_law_561 rfl (lv_at hl 2 rfl) ?_
  refine law_arg1 C0 hk hL hS hl dL_law_562 dL_law_563 dL_law_564 dL_law_565 dL_law_566 ?_
  refine law_arg2 C0 hk hL hS hl dL_law_567 dL_law_568 dL_law_569 dL_law_570 dL_law_571 ?_
  refine roV (As := [.int (xs (3 * k + 1)), .int (xs (3 * k + 2))]) hC kL_100 cX hK hP (x_rec hK hP) rfl rfl hl ⟨Nat.le_of_ble_eq_true rfl, Nat.le_of_ble_eq_true rfl⟩ (Nat.le_of_ble_eq_true rfl) dL_law_572 ⟨Nat.le_of_ble_eq_true rfl, Nat.le_of_ble_eq_true rfl⟩ ?_
  refine lv_aload_n hx hb dL_law_575 rfl (lv_at hl 1 rfl) ?_
  refine law_arg1 C0 hk hL hS hl dL_law_576 dL_law_577 dL_law_578 dL_law_579 dL_law_580 ?_
  refine law_arg2 C0 hk hL hS hl dL_law_581 dL_law_582 dL_law_583 dL_law_584 dL_law_585 ?_
  refine roV (As := [.int (xs (3 * k + 1)), .int (xs (3 * k + 2))]) hC kL_103 cM hK hM (m_rec hK hM) rfl rfl hl ⟨Nat.le_of_ble_eq_true rfl, Nat.le_of_ble_eq_true rfl⟩ (Nat.le_of_ble_eq_true rfl) dL_law_586 ⟨Nat.le_of_ble_eq_true rfl, Nat.le_of_ble_eq_true rfl⟩ ?_
  refine lv_icmp_eq (tgt := 653) hx hb dL_law_589 (by decide) (fun _ => ?_) (fun h9 => absurd hEq h9)
  refine kk _ _ _ ?_ hS hl
  exact st_keep hP ⟨nx, isin, wi, wo, wf, hM⟩ hR hrd
set_option maxRecDepth 100000 in
set_option maxHeartbeats 2000000 in
theorem op_inIndependentSet (C0 : LX p s m c b L xs E a bb) (hk : 3 * k + 2 < L) (hL : L ≤ 1536) {n : Nat} {ids : Nat → Int32} {par : Nat → Option Nat} {rows : Nat → Nat → Int32} {pr rd : Nat} {cols : Nat → Int32} {nx : Nat → Int32} {isin : Nat → Bool} {wi wo : Nat → Nat} {wf : Nat → Option Nat} (hP : XP E a ids par rows pr pr n rd H) (hM : MP E bb n ids par cols rd nx isin wi wo wf H) (hR : REL n ids par rows pr rd cols) (hrd : rd ≤ 22 * k) (hS : va_S (A0 s) s.heap H locs) (hl : lv_has ls 4 [(3, .int (nI (3 * k))), (2, .ref (bb 0)), (1, .ref (a 0)), (0, .ref b)]) (kk : KC p l e s m below meth c b E a bb k Q) : W p l e room_1 s m #[Value.ref b] below meth c H locs 31 1091 Q (F0 m 594 ls []) := by
  obtain ⟨hC, hK, hX, hbl, hIa, hIb, hAX, hAM, hAd⟩ := id C0
  have hx := hC.1
  have hb := hC.2.1
  have hn := hR.hn
  have hp := hR.hp
  have hpr := hR.hpr
  have hcol := hR.col
  have hrd1 : rd < 90000 := by omega
  have hrd2 : rd < 100000 := by omega
  have hRP : RP n ids par (rows, pr, rd) (cols, nx, rd) := ⟨hR, rfl⟩
  have cX : RO l E (XP E a ids par rows pr pr n rd) _ _ _ _ _ _ _ _ := cX_inSet (xs (3 * k + 1)) hn hpr hp
  have cM : WR l E (MP E bb n ids par cols rd nx isin wi wo wf) (AM bb) _ _ _ _ _ _ _ _ _ := cM_inSet (xs (3 * k + 1)) hIb hn hp hrd2 (fun v hv => by rw [hcol]; exact inV_0 (hR.2.2.1 v hv))
  rw [hcol] at cM
  refine lv_aload_n hx hb dL_law_594 rfl (lv_at hl 2 rfl) ?_
  refine law_arg1 C0 hk hL hS hl dL_law_595 dL_law_596 dL_law_597 dL_law_598 dL_law_599 ?_
  refine roV (As := [.int (xs (3 * k + 1))]) hC kL_104 cX hK hP (x_rec hK hP) rfl rfl hl ⟨Nat.le_of_ble_eq_true rfl, Nat.le_of_ble_eq_true rfl⟩ (Nat.le_of_ble_eq_true rfl) dL_law_600 ⟨Nat.le_of_ble_eq_true rfl, Nat.le_of_ble_eq_true rfl⟩ ?_
  refine lv_aload_n hx hb dL_law_603 rfl (lv_at hl 1 rfl) ?_
  refine law_arg1 C0 hk hL hS hl dL_law_604 dL_law_605 dL_law_606 dL_law_607 dL_law_608 ?_
  refine wrV (As := [.int (xs (3 * k + 1))]) hC kL_107 cM hK hM (m_rec hK hM) hS hAM rfl rfl hl ⟨Nat.le_of_ble_eq_true rfl, Nat.le_of_ble_eq_true rfl⟩ (Nat.le_of_ble_eq_true rfl) dL_law_609 ⟨Nat.le_of_ble_eq_true rfl, Nat.le_of_ble_eq_true rfl⟩ (fun H1 locs1 hM9 hS hz9 hk9 => ?_)
  have hP := XP.kept hP hk9 (fun q h1 h2 => hAd q h1 h2)
  have hM := hM9
  refine lv_icmp_eq (tgt := 653) hx hb dL_law_612 (by decide) (fun _ => ?_) (fun h9 => absurd rfl h9)
  refine kk _ _ _ ?_ hS hl
  exact st_keep hP hM hR hrd
set_option maxRecDepth 100000 in
set_option maxHeartbeats 2000000 in
theorem op_independentSetSize (C0 : LX p s m c b L xs E a bb) (hk : 3 * k + 2 < L) (hL : L ≤ 1536) {n : Nat} {ids : Nat → Int32} {par : Nat → Option Nat} {rows : Nat → Nat → Int32} {pr rd : Nat} {cols : Nat → Int32} {nx : Nat → Int32} {isin : Nat → Bool} {wi wo : Nat → Nat} {wf : Nat → Option Nat} (hP : XP E a ids par rows pr pr n rd H) (hM : MP E bb n ids par cols rd nx isin wi wo wf H) (hR : REL n ids par rows pr rd cols) (hrd : rd ≤ 22 * k) (hS : va_S (A0 s) s.heap H locs) (hl : lv_has ls 4 [(3, .int (nI (3 * k))), (2, .ref (bb 0)), (1, .ref (a 0)), (0, .ref b)]) (kk : KC p l e s m below meth c b E a bb k Q) : W p l e room_1 s m #[Value.ref b] below meth c H locs 31 1091 Q (F0 m 617 ls []) := by
  obtain ⟨hC, hK, hX, hbl, hIa, hIb, hAX, hAM, hAd⟩ := id C0
  have hx := hC.1
  have hb := hC.2.1
  have hn := hR.hn
  have hp := hR.hp
  have hpr := hR.hpr
  have hcol := hR.col
  have hrd1 : rd < 90000 := by omega
  have hrd2 : rd < 100000 := by omega
  have hRP : RP n ids par (rows, pr, rd) (cols, nx, rd) := ⟨hR, rfl⟩
  have cX : RO l E (XP E a ids par rows pr pr n rd) _ _ _ _ _ _ _ _ := cX_setSize  hn hpr hp
  have cM : WR l E (MP E bb n ids par cols rd nx isin wi wo wf) (AM bb) _ _ _ _ _ _ _ _ _ := cM_setSize  hIb hn hp hrd2 (fun v hv => by rw [hcol]; exact inV_0 (hR.2.2.1 v hv))
  rw [hcol] at cM
  refine lv_aload_n hx hb dL_law_617 rfl (lv_at hl 2 rfl) ?_
  refine roV (As := []) hC kL_108 cX hK hP (x_rec hK hP) rfl rfl hl ⟨Nat.le_of_ble_eq_true rfl, Nat.le_of_ble_eq_true rfl⟩ (Nat.le_of_ble_eq_true rfl) dL_law_618 ⟨Nat.le_of_ble_eq_true rfl, Nat.le_of_ble_eq_true rfl⟩ ?_
  refine lv_aload_n hx hb dL_law_621 rfl (lv_at hl 1 rfl) ?_
  refine wrV (As := []) hC kL_111 cM hK hM (m_rec hK hM) hS hAM rfl rfl hl ⟨Nat.le_of_ble_eq_true rfl, Nat.le_of_ble_eq_true rfl⟩ (Nat.le_of_ble_eq_true rfl) dL_law_622 ⟨Nat.le_of_ble_eq_true rfl, Nat.le_of_ble_eq_true rfl⟩ (fun H1 locs1 hM9 hS hz9 hk9 => ?_)
  have hP := XP.kept hP hk9 (fun q h1 h2 => hAd q h1 h2)
  have hM := hM9
  refine lv_icmp_eq (tgt := 653) hx hb dL_law_625 (by decide) (fun _ => ?_) (fun h9 => absurd rfl h9)
  refine kk _ _ _ ?_ hS hl
  exact st_keep hP hM hR hrd
set_option maxRecDepth 100000 in
set_option maxHeartbeats 2000000 in
theorem op_greatestIndependentSet (C0 : LX p s m c b L xs E a bb) (hk : 3 * k + 2 < L) (hL : L ≤ 1536) {n : Nat} {ids : Nat → Int32} {par : Nat → Option Nat} {rows : Nat → Nat → Int32} {pr rd : Nat} {cols : Nat → Int32} {nx : Nat → Int32} {isin : Nat → Bool} {wi wo : Nat → Nat} {wf : Nat → Option Nat} (hP : XP E a ids par rows pr pr n rd H) (hM : MP E bb n ids par cols rd nx isin wi wo wf H) (hR : REL n ids par rows pr rd cols) (hrd : rd ≤ 22 * k) (hS : va_S (A0 s) s.heap H locs) (hl : lv_has ls 4 [(3, .int (nI (3 * k))), (2, .ref (bb 0)), (1, .ref (a 0)), (0, .ref b)]) (kk : KC p l e s m below meth c b E a bb k Q) : W p l e room_1 s m #[Value.ref b] below meth c H locs 31 1091 Q (F0 m 630 ls []) := by
  obtain ⟨hC, hK, hX, hbl, hIa, hIb, hAX, hAM, hAd⟩ := id C0
  have hx := hC.1
  have hb := hC.2.1
  have hn := hR.hn
  have hp := hR.hp
  have hpr := hR.hpr
  have hcol := hR.col
  have hrd1 : rd < 90000 := by omega
  have hrd2 : rd < 100000 := by omega
  have hRP : RP n ids par (rows, pr, rd) (cols, nx, rd) := ⟨hR, rfl⟩
  have cX : RO l E (XP E a ids par rows pr pr n rd) _ _ _ _ _ _ _ _ := cX_gis (xs (3 * k + 1)) hn hp
  have cM : WR l E (MP E bb n ids par cols rd nx isin wi wo wf) (AM bb) _ _ _ _ _ _ _ _ _ := cM_gis (xs (3 * k + 1)) hIb hn hp
  have hEq : oN (vN n (xs (3 * k + 1))) (fun v => nI (giF par n n (partW par n v) 0)) = oN (vN n (xs (3 * k + 1))) (fun v => mgR par n (ttF par n wi wo wf).1 (ttF par n wi wo wf).2.1 v) := by
    rcases vN_cases hn (xs (3 * k + 1)) with ⟨h, -⟩ | ⟨v, hv, -, h⟩
    · rw [h]; rfl
    · rw [h]; show _ = _; simp only [oN]; exact gis_eq hp hn wi wo wf hv
  refine lv_aload_n hx hb dL_law_630 rfl (lv_at hl 2 rfl) ?_
  refine law_arg1 C0 hk hL hS hl dL_law_631 dL_law_632 dL_law_633 dL_law_634 dL_law_635 ?_
  refine roV (As := [.int (xs (3 * k + 1))]) hC kL_112 cX hK hP (x_rec hK hP) rfl rfl hl ⟨Nat.le_of_ble_eq_true rfl, Nat.le_of_ble_eq_true rfl⟩ (Nat.le_of_ble_eq_true rfl) dL_law_636 ⟨Nat.le_of_ble_eq_true rfl, Nat.le_of_ble_eq_true rfl⟩ ?_
  refine lv_aload_n hx hb dL_law_639 rfl (lv_at hl 1 rfl) ?_
  refine law_arg1 C0 hk hL hS hl dL_law_640 dL_law_641 dL_law_642 dL_law_643 dL_law_644 ?_
  refine wrV (As := [.int (xs (3 * k + 1))]) hC kL_115 cM hK hM (m_rec hK hM) hS hAM rfl rfl hl ⟨Nat.le_of_ble_eq_true rfl, Nat.le_of_ble_eq_true rfl⟩ (Nat.le_of_ble_eq_true rfl) dL_law_645 ⟨Nat.le_of_ble_eq_true rfl, Nat.le_of_ble_eq_true rfl⟩ (fun H1 locs1 hM9 hS hz9 hk9 => ?_)
  have hP := XP.kept hP hk9 (fun q h1 h2 => hAd q h1 h2)
  have hM := hM9
  refine lv_icmp_eq (tgt := 653) hx hb dL_law_648 (by decide) (fun _ => ?_) (fun h9 => absurd hEq h9)
  refine kk _ _ _ ?_ hS hl
  exact st_keep hP hM hR hrd
end
