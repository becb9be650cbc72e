-- the class: the remaining readers (laid by wip/whole/gen/spec_x3.py)
set_option maxRecDepth 100000 in
set_option maxHeartbeats 4000000 in
theorem cJ_bit0 {l : Launch} {E : EE}  (x : Int32)  : RO l E ((fun _ => True)) yJ6_bitCount_0f7a4 cJ6_bitCount_0f7a4 1 (some .int) 0 0 [.int (x)] (bcJ x) := by
  refine RO.mk (C := RJ6) rfl rfl (by decide) rfl (Nat.le_of_ble_eq_true rfl) ?_
  intro p e s m args below meth c H Q hC hK hP hret ls hl
  obtain ⟨hx, hb, hml, hown, hts⟩ := id hC
  have hl : lv_has ls 1 [(0, .int (x))] := hl
  refine lv_iload_n hx hb dJ6_bitCount_0f7a4_0 rfl (lv_at hl 0 rfl) ?_
  refine lv_iload_n hx hb dJ6_bitCount_0f7a4_1 rfl (lv_at hl 0 rfl) ?_
  refine lv_iconst (v := (1)) hx hb dJ6_bitCount_0f7a4_2 (by decide) ?_
  refine lv_iushr (v := (((x) : Int32).toUInt32 >>> (((1) : Int32).toUInt32 &&& Int32.toUInt32 31)).toInt32) hx hb dJ6_bitCount_0f7a4_3 rfl ?_
  refine tI ((ush x 1)) (rfl) ?_
  refine lv_ldcw (v := 1431655765) hx hb hown (hts _ qJ6_265) dJ6_bitCount_0f7a4_4 ?_
  refine lv_iand hx hb dJ6_bitCount_0f7a4_7 ?_
  refine lv_isub hx hb dJ6_bitCount_0f7a4_8 ?_
  refine tI ((bc1 x)) (rfl) ?_
  refine lv_istore_n (lv' := [(0, .int (bc1 x))]) hx hb dJ6_bitCount_0f7a4_9 rfl hl (by decide) rfl (fun ls hl => ?_)
  refine lv_iload_n hx hb dJ6_bitCount_0f7a4_10 rfl (lv_at hl 0 rfl) ?_
  refine lv_ldcw (v := 858993459) hx hb hown (hts _ qJ6_266) dJ6_bitCount_0f7a4_11 ?_
  refine lv_iand hx hb dJ6_bitCount_0f7a4_14 ?_
  refine lv_iload_n hx hb dJ6_bitCount_0f7a4_15 rfl (lv_at hl 0 rfl) ?_
  refine lv_iconst (v := (2)) hx hb dJ6_bitCount_0f7a4_16 (by decide) ?_
  refine lv_iushr (v := (((bc1 x) : Int32).toUInt32 >>> (((2) : Int32).toUInt32 &&& Int32.toUInt32 31)).toInt32) hx hb dJ6_bitCount_0f7a4_17 rfl ?_
  refine tI ((ush (bc1 x) 2)) (rfl) ?_
  refine lv_ldcw (v := 858993459) hx hb hown (hts _ qJ6_266) dJ6_bitCount_0f7a4_18 ?_
  refine lv_iand hx hb dJ6_bitCount_0f7a4_21 ?_
  refine lv_iadd hx hb dJ6_bitCount_0f7a4_22 ?_
  refine tI ((bc2 (bc1 x))) (rfl) ?_
  refine lv_istore_n (lv' := [(0, .int (bc2 (bc1 x)))]) hx hb dJ6_bitCount_0f7a4_23 rfl hl (by decide) rfl (fun ls hl => ?_)
  refine lv_iload_n hx hb dJ6_bitCount_0f7a4_24 rfl (lv_at hl 0 rfl) ?_
  refine lv_iload_n hx hb dJ6_bitCount_0f7a4_25 rfl (lv_at hl 0 rfl) ?_
  refine lv_iconst (v := (4)) hx hb dJ6_bitCount_0f7a4_26 (by decide) ?_
  refine lv_iushr (v := (((bc2 (bc1 x)) : Int32).toUInt32 >>> (((4) : Int32).toUInt32 &&& Int32.toUInt32 31)).toInt32) hx hb dJ6_bitCount_0f7a4_27 rfl ?_
  refine tI ((ush (bc2 (bc1 x)) 4)) (rfl) ?_
  refine lv_iadd hx hb dJ6_bitCount_0f7a4_28 ?_
  refine lv_ldcw (v := 252645135) hx hb hown (hts _ qJ6_267) dJ6_bitCount_0f7a4_29 ?_
  refine lv_iand hx hb dJ6_bitCount_0f7a4_32 ?_
  refine tI ((bc3 (bc2 (bc1 x)))) (rfl) ?_
  refine lv_istore_n (lv' := [(0, .int (bc3 (bc2 (bc1 x))))]) hx hb dJ6_bitCount_0f7a4_33 rfl hl (by decide) rfl (fun ls hl => ?_)
  refine lv_iload_n hx hb dJ6_bitCount_0f7a4_34 rfl (lv_at hl 0 rfl) ?_
  refine lv_iload_n hx hb dJ6_bitCount_0f7a4_35 rfl (lv_at hl 0 rfl) ?_
  refine lv_bipush (v := (8)) hx hb dJ6_bitCount_0f7a4_36 (by decide) ?_
  refine lv_iushr (v := (((bc3 (bc2 (bc1 x))) : Int32).toUInt32 >>> (((8) : Int32).toUInt32 &&& Int32.toUInt32 31)).toInt32) hx hb dJ6_bitCount_0f7a4_38 rfl ?_
  refine tI ((ush (bc3 (bc2 (bc1 x))) 8)) (rfl) ?_
  refine lv_iadd hx hb dJ6_bitCount_0f7a4_39 ?_
  refine tI ((bc4 (bc3 (bc2 (bc1 x))))) (rfl) ?_
  refine lv_istore_n (lv' := [(0, .int (bc4 (bc3 (bc2 (bc1 x)))))]) hx hb dJ6_bitCount_0f7a4_40 rfl hl (by decide) rfl (fun ls hl => ?_)
  refine lv_iload_n hx hb dJ6_bitCount_0f7a4_41 rfl (lv_at hl 0 rfl) ?_
  refine lv_iload_n hx hb dJ6_bitCount_0f7a4_42 rfl (lv_at hl 0 rfl) ?_
  refine lv_bipush (v := (16)) hx hb dJ6_bitCount_0f7a4_43 (by decide) ?_
  refine lv_iushr (v := (((bc4 (bc3 (bc2 (bc1 x)))) : Int32).toUInt32 >>> (((16) : Int32).toUInt32 &&& Int32.toUInt32 31)).toInt32) hx hb dJ6_bitCount_0f7a4_45 rfl ?_
  refine tI ((ush (bc4 (bc3 (bc2 (bc1 x)))) 16)) (rfl) ?_
  refine lv_iadd hx hb dJ6_bitCount_0f7a4_46 ?_
  refine tI ((bc5 (bc4 (bc3 (bc2 (bc1 x)))))) (rfl) ?_
  refine lv_istore_n (lv' := [(0, .int (bc5 (bc4 (bc3 (bc2 (bc1 x))))))]) hx hb dJ6_bitCount_0f7a4_47 rfl hl (by decide) rfl (fun ls hl => ?_)
  refine lv_iload_n hx hb dJ6_bitCount_0f7a4_48 rfl (lv_at hl 0 rfl) ?_
  refine lv_bipush (v := (63)) hx hb dJ6_bitCount_0f7a4_49 (by decide) ?_
  refine lv_iand hx hb dJ6_bitCount_0f7a4_51 ?_
  exact hret _ _ _ dJ6_bitCount_0f7a4_52 (rfl)
theorem cJ_bit {l : Launch} {E : EE} {n : Nat} (w : Nat → Bool) (hn : n ≤ 24) : RO l E (fun _ => True) yJ6_bitCount_0f7a4 cJ6_bitCount_0f7a4 1 (some .int) 0 0 [.int (mk n w)] (nI (fb_ct w n)) := by
  have h := cJ_bit0 (l := l) (E := E) (mk n w)
  rw [bc_mk hn] at h
  exact h
set_option maxRecDepth 100000 in
set_option maxHeartbeats 4000000 in
theorem cJ_ntz {l : Launch} {E : EE}  (x : Int32)  : RO l E ((fun _ => True)) yJ6_numberOfTrailingZeros_0f7a4 cJ6_numberOfTrailingZeros_0f7a4 2 (some .int) 0 0 [.int (x)] (ntzJ x) := by
  refine RO.mk (C := RJ6) rfl rfl (by decide) rfl (Nat.le_of_ble_eq_true rfl) ?_
  intro p e s m args below meth c H Q hC hK hP hret ls hl
  obtain ⟨hx, hb, hml, hown, hts⟩ := id hC
  have hl : lv_has ls 2 [(0, .int (x))] := hl
  refine lv_iload_n hx hb dJ6_numberOfTrailingZeros_0f7a4_0 rfl (lv_at hl 0 rfl) ?_
  refine lv_iconst (v := (-1)) hx hb dJ6_numberOfTrailingZeros_0f7a4_1 (by decide) ?_
  refine lv_ixor hx hb dJ6_numberOfTrailingZeros_0f7a4_2 ?_
  refine lv_iload_n hx hb dJ6_numberOfTrailingZeros_0f7a4_3 rfl (lv_at hl 0 rfl) ?_
  refine lv_iconst (v := (1)) hx hb dJ6_numberOfTrailingZeros_0f7a4_4 (by decide) ?_
  refine lv_isub hx hb dJ6_numberOfTrailingZeros_0f7a4_5 ?_
  refine lv_iand hx hb dJ6_numberOfTrailingZeros_0f7a4_6 ?_
  refine lv_topi (fun y hy => ?_)
  refine lv_istore_n (lv' := [(0, .int (y))]) hx hb dJ6_numberOfTrailingZeros_0f7a4_7 rfl hl (by decide) rfl (fun ls hl => ?_)
  refine lv_iload_n hx hb dJ6_numberOfTrailingZeros_0f7a4_8 rfl (lv_at hl 0 rfl) ?_
  refine lv_if_gt (tgt := 17) hx hb dJ6_numberOfTrailingZeros_0f7a4_9 (by decide) (fun c_9 => ?_) (fun c_9 => ?_)
  · refine lv_iconst (v := (1)) hx hb dJ6_numberOfTrailingZeros_0f7a4_17 (by decide) ?_
    refine lv_istore_n (lv' := [(1, .int (1)), (0, .int (y))]) hx hb dJ6_numberOfTrailingZeros_0f7a4_18 rfl hl (by decide) rfl (fun ls hl => ?_)
    have join_74 : ∀ (z : Int32) (q : Int32), (q + ush z 1 = ntzJ x) → ∀ (ls : Array Slot), lv_has ls 2 [(0, .int (z)), (1, .int (q))] → W p l e (k2_rm 0 0) s m args below meth c H [] 0 0 Q (F0 m 74 ls []) := by
      intro z q hj74 ls hl
      refine lv_iload_n hx hb dJ6_numberOfTrailingZeros_0f7a4_74 rfl (lv_at hl 1 rfl) ?_
      refine lv_iload_n hx hb dJ6_numberOfTrailingZeros_0f7a4_75 rfl (lv_at hl 0 rfl) ?_
      refine lv_iconst (v := (1)) hx hb dJ6_numberOfTrailingZeros_0f7a4_76 (by decide) ?_
      refine lv_iushr (v := (((z) : Int32).toUInt32 >>> (((1) : Int32).toUInt32 &&& Int32.toUInt32 31)).toInt32) hx hb dJ6_numberOfTrailingZeros_0f7a4_77 rfl ?_
      refine tI ((ush z 1)) (rfl) ?_
      refine lv_iadd hx hb dJ6_numberOfTrailingZeros_0f7a4_78 ?_
      exact hret _ _ _ dJ6_numberOfTrailingZeros_0f7a4_79 (hj74)
    have join_62 : ∀ (z : Int32) (q : Int32), (nz3 z q = ntzJ x) → ∀ (ls : Array Slot), lv_has ls 2 [(0, .int (z)), (1, .int (q))] → W p l e (k2_rm 0 0) s m args below meth c H [] 0 0 Q (F0 m 62 ls []) := by
      intro z q hj62 ls hl
      refine lv_iload_n hx hb dJ6_numberOfTrailingZeros_0f7a4_62 rfl (lv_at hl 0 rfl) ?_
      refine lv_iconst (v := (4)) hx hb dJ6_numberOfTrailingZeros_0f7a4_63 (by decide) ?_
      refine lv_icmp_le (tgt := 74) hx hb dJ6_numberOfTrailingZeros_0f7a4_64 (by decide) (fun c_64 => ?_) (fun c_64 => ?_)
      · exact join_74 z q (by rw [← hj62, nz3, if_pos c_64]) ls (lv_sub hl [0, 1] rfl)
      · refine lv_iinc (v := (((q)) + 2)) (lv' := [(1, .int (((q)) + 2)), (0, .int (z))]) hx hb dJ6_numberOfTrailingZeros_0f7a4_67 hl (k := 1) rfl (rfl) (by decide) rfl (fun ls hl => ?_)
        refine lv_iload_n hx hb dJ6_numberOfTrailingZeros_0f7a4_70 rfl (lv_at hl 1 rfl) ?_
        refine lv_iconst (v := (2)) hx hb dJ6_numberOfTrailingZeros_0f7a4_71 (by decide) ?_
        refine lv_iushr (v := (((z) : Int32).toUInt32 >>> (((2) : Int32).toUInt32 &&& Int32.toUInt32 31)).toInt32) hx hb dJ6_numberOfTrailingZeros_0f7a4_72 rfl ?_
        refine tI ((ush z 2)) (rfl) ?_
        refine lv_istore_n (lv' := [(0, .int (ush z 2)), (1, .int (((q)) + 2))]) hx hb dJ6_numberOfTrailingZeros_0f7a4_73 rfl hl (by decide) rfl (fun ls hl => ?_)
        exact join_74 (ush z 2) (q + 2) (by rw [← hj62, nz3, if_neg c_64]) ls (lv_sub hl [0, 1] rfl)
    have join_49 : ∀ (z : Int32) (q : Int32), (nz2 z q = ntzJ x) → ∀ (ls : Array Slot), lv_has ls 2 [(0, .int (z)), (1, .int (q))] → W p l e (k2_rm 0 0) s m args below meth c H [] 0 0 Q (F0 m 49 ls []) := by
      intro z q hj49 ls hl
      refine lv_iload_n hx hb dJ6_numberOfTrailingZeros_0f7a4_49 rfl (lv_at hl 0 rfl) ?_
      refine lv_bipush (v := (16)) hx hb dJ6_numberOfTrailingZeros_0f7a4_50 (by decide) ?_
      refine lv_icmp_le (tgt := 62) hx hb dJ6_numberOfTrailingZeros_0f7a4_52 (by decide) (fun c_52 => ?_) (fun c_52 => ?_)
      · exact join_62 z q (by rw [← hj49, nz2, if_pos c_52]) ls (lv_sub hl [0, 1] rfl)
      · refine lv_iinc (v := (((q)) + 4)) (lv' := [(1, .int (((q)) + 4)), (0, .int (z))]) hx hb dJ6_numberOfTrailingZeros_0f7a4_55 hl (k := 1) rfl (rfl) (by decide) rfl (fun ls hl => ?_)
        refine lv_iload_n hx hb dJ6_numberOfTrailingZeros_0f7a4_58 rfl (lv_at hl 1 rfl) ?_
        refine lv_iconst (v := (4)) hx hb dJ6_numberOfTrailingZeros_0f7a4_59 (by decide) ?_
        refine lv_iushr (v := (((z) : Int32).toUInt32 >>> (((4) : Int32).toUInt32 &&& Int32.toUInt32 31)).toInt32) hx hb dJ6_numberOfTrailingZeros_0f7a4_60 rfl ?_
        refine tI ((ush z 4)) (rfl) ?_
        refine lv_istore_n (lv' := [(0, .int (ush z 4)), (1, .int (((q)) + 4))]) hx hb dJ6_numberOfTrailingZeros_0f7a4_61 rfl hl (by decide) rfl (fun ls hl => ?_)
        exact join_62 (ush z 4) (q + 4) (by rw [← hj49, nz2, if_neg c_52]) ls (lv_sub hl [0, 1] rfl)
    have join_34 : ∀ (z : Int32) (q : Int32), (nz1 z q = ntzJ x) → ∀ (ls : Array Slot), lv_has ls 2 [(0, .int (z)), (1, .int (q))] → W p l e (k2_rm 0 0) s m args below meth c H [] 0 0 Q (F0 m 34 ls []) := by
      intro z q hj34 ls hl
      refine lv_iload_n hx hb dJ6_numberOfTrailingZeros_0f7a4_34 rfl (lv_at hl 0 rfl) ?_
      refine lv_sipush (v := (256)) hx hb dJ6_numberOfTrailingZeros_0f7a4_35 (by decide) ?_
      refine lv_icmp_le (tgt := 49) hx hb dJ6_numberOfTrailingZeros_0f7a4_38 (by decide) (fun c_38 => ?_) (fun c_38 => ?_)
      · exact join_49 z q (by rw [← hj34, nz1, if_pos c_38]) ls (lv_sub hl [0, 1] rfl)
      · refine lv_iinc (v := (((q)) + 8)) (lv' := [(1, .int (((q)) + 8)), (0, .int (z))]) hx hb dJ6_numberOfTrailingZeros_0f7a4_41 hl (k := 1) rfl (rfl) (by decide) rfl (fun ls hl => ?_)
        refine lv_iload_n hx hb dJ6_numberOfTrailingZeros_0f7a4_44 rfl (lv_at hl 1 rfl) ?_
        refine lv_bipush (v := (8)) hx hb dJ6_numberOfTrailingZeros_0f7a4_45 (by decide) ?_
        refine lv_iushr (v := (((z) : Int32).toUInt32 >>> (((8) : Int32).toUInt32 &&& Int32.toUInt32 31)).toInt32) hx hb dJ6_numberOfTrailingZeros_0f7a4_47 rfl ?_
        refine tI ((ush z 8)) (rfl) ?_
        refine lv_istore_n (lv' := [(0, .int (ush z 8)), (1, .int (((q)) + 8))]) hx hb dJ6_numberOfTrailingZeros_0f7a4_48 rfl hl (by decide) rfl (fun ls hl => ?_)
        exact join_49 (ush z 8) (q + 8) (by rw [← hj34, nz1, if_neg c_38]) ls (lv_sub hl [0, 1] rfl)
    refine lv_iload_n hx hb dJ6_numberOfTrailingZeros_0f7a4_19 rfl (lv_at hl 1 rfl) ?_
    refine lv_ldcw (v := 65536) hx hb hown (hts _ qJ6_264) dJ6_numberOfTrailingZeros_0f7a4_20 ?_
    refine lv_icmp_le (tgt := 34) hx hb dJ6_numberOfTrailingZeros_0f7a4_23 (by decide) (fun c_23 => ?_) (fun c_23 => ?_)
    · exact join_34 y 1 (by rw [ntzJ, ← hy, ntzY, if_pos c_9, nz0, if_pos c_23]) ls (lv_sub hl [1, 0] rfl)
    · refine lv_iinc (v := (((1)) + 16)) (lv' := [(1, .int (((1)) + 16)), (0, .int (y))]) hx hb dJ6_numberOfTrailingZeros_0f7a4_26 hl (k := 0) rfl (rfl) (by decide) rfl (fun ls hl => ?_)
      refine lv_iload_n hx hb dJ6_numberOfTrailingZeros_0f7a4_29 rfl (lv_at hl 1 rfl) ?_
      refine lv_bipush (v := (16)) hx hb dJ6_numberOfTrailingZeros_0f7a4_30 (by decide) ?_
      refine lv_iushr (v := (((y) : Int32).toUInt32 >>> (((16) : Int32).toUInt32 &&& Int32.toUInt32 31)).toInt32) hx hb dJ6_numberOfTrailingZeros_0f7a4_32 rfl ?_
      refine tI ((ush y 16)) (rfl) ?_
      refine lv_istore_n (lv' := [(0, .int (ush y 16)), (1, .int (((1)) + 16))]) hx hb dJ6_numberOfTrailingZeros_0f7a4_33 rfl hl (by decide) rfl (fun ls hl => ?_)
      exact join_34 (ush y 16) (1 + 16) (by rw [ntzJ, ← hy, ntzY, if_pos c_9, nz0, if_neg c_23]) ls (lv_sub hl [0, 1] rfl)
  · refine lv_iload_n hx hb dJ6_numberOfTrailingZeros_0f7a4_12 rfl (lv_at hl 0 rfl) ?_
    refine lv_bipush (v := (32)) hx hb dJ6_numberOfTrailingZeros_0f7a4_13 (by decide) ?_
    refine lv_iand hx hb dJ6_numberOfTrailingZeros_0f7a4_15 ?_
    exact hret _ _ _ dJ6_numberOfTrailingZeros_0f7a4_16 (by rw [ntzJ, ← hy, ntzY, if_neg c_9])
set_option maxRecDepth 100000 in
set_option maxHeartbeats 4000000 in
theorem cX_rbit {l : Launch} {E : EE} {a : Nat → Nat} {ids : Nat → Int32} {par : Nat → Option Nat} {rows : Nat → Nat → Int32} {cu pr n rd : Nat} (v : Nat) (hn : n ≤ 24)(hcu : cu < 18)(hp : PW n par)(hv : v < n) : RO l E (XP E a ids par rows cu pr n rd) yX0_reductionBit cX0_reductionBit 2 (some .int) 2 42 [.ref (a 0), .int (nI (v))] (rbit par (rows cu) v) := by
  refine RO.mk (C := RX0) rfl rfl (by decide) rfl (Nat.le_of_ble_eq_true rfl) ?_
  intro p e s m args below meth c H Q hC hK hP hret ls hl
  obtain ⟨hx, hb, hml, hown, hts⟩ := id hC
  have hl : lv_has ls 2 [(0, .ref (a 0)), (1, .int (nI (v)))] := hl
  refine lv_aload_n hx hb dX0_reductionBit_0 rfl (lv_at hl 0 rfl) ?_
  refine lv_iload_n hx hb dX0_reductionBit_1 rfl (lv_at hl 1 rfl) ?_
  refine roV (As := [.int (nI (v))]) hC kX0_60 (cX_isRoot v hn hp (by omega)) hK hP (x_rec hK hP) rfl rfl hl ⟨Nat.le_of_ble_eq_true rfl, Nat.le_of_ble_eq_true rfl⟩ (Nat.le_of_ble_eq_true rfl) dX0_reductionBit_2 ⟨Nat.le_of_ble_eq_true rfl, Nat.le_of_ble_eq_true rfl⟩ ?_
  refine bv_eq (tgt := 10) hx hb dX0_reductionBit_5 (by decide) (fun c_5 => ?_) (fun c_5 => ?_)
  · obtain ⟨u, hu⟩ := isNone_f c_5
    have hun := hp.lt hv hu
    refine lv_aload_n hx hb dX0_reductionBit_10 rfl (lv_at hl 0 rfl) ?_
    refine x_g3 hC hK hP dX0_reductionBit_11 ?_
    refine lv_iload_n hx hb dX0_reductionBit_14 rfl (lv_at hl 1 rfl) ?_
    refine x_ldC (by omega) hx hb hK hP (by omega) dX0_reductionBit_15 ?_
    refine lv_aload_n hx hb dX0_reductionBit_16 rfl (lv_at hl 0 rfl) ?_
    refine x_g3 hC hK hP dX0_reductionBit_17 ?_
    refine lv_aload_n hx hb dX0_reductionBit_20 rfl (lv_at hl 0 rfl) ?_
    refine x_g1 hC hK hP dX0_reductionBit_21 ?_
    refine lv_iload_n hx hb dX0_reductionBit_24 rfl (lv_at hl 1 rfl) ?_
    refine x_ldP hx hb hK hP (by omega) dX0_reductionBit_25 ?_
    refine tI ((nI (u))) (by rw [hu]; rfl) ?_
    refine x_ldC (by omega) hx hb hK hP (by omega) dX0_reductionBit_26 ?_
    refine lv_ixor hx hb dX0_reductionBit_27 ?_
    refine roS (As := [.int (((rows cu v)) ^^^ ((rows cu u)))]) hC kX0_123 (cJ_ntz ((((rows cu v)) ^^^ ((rows cu u)))) ) hK (P := fun _ => True) trivial rfl rfl hl ⟨Nat.le_of_ble_eq_true rfl, Nat.le_of_ble_eq_true rfl⟩ (Nat.le_of_ble_eq_true rfl) dX0_reductionBit_28 ⟨Nat.le_of_ble_eq_true rfl, Nat.le_of_ble_eq_true rfl⟩ ?_
    exact hret _ _ _ dX0_reductionBit_31 (by rw [rbit, hu])
  · refine lv_iconst (v := (0)) hx hb dX0_reductionBit_8 (by decide) ?_
    exact hret _ _ _ dX0_reductionBit_9 (by rw [rbit, isNone_t c_5])
set_option maxRecDepth 100000 in
set_option maxHeartbeats 4000000 in
theorem cX_differing {l : Launch} {E : EE} {a : Nat → Nat} {ids : Nat → Int32} {par : Nat → Option Nat} {rows : Nat → Nat → Int32} {cu pr n rd : Nat} (x : Int32) (hn : n ≤ 24)(hcu : cu < 18)(hp : PW n par) : RO l E (XP E a ids par rows cu pr n rd) yX0_differingBit cX0_differingBit 2 (some .int) 3 63 [.ref (a 0), .int (x)] (oN (vN n x) (fun v => if conf par (rows cu) v = true then -5 else rbit par (rows cu) v)) := by
  refine RO.mk (C := RX0) rfl rfl (by decide) rfl (Nat.le_of_ble_eq_true rfl) ?_
  intro p e s m args below meth c H Q hC hK hP hret ls hl
  obtain ⟨hx, hb, hml, hown, hts⟩ := id hC
  have hl : lv_has ls 2 [(0, .ref (a 0)), (1, .int (x))] := hl
  refine lv_aload_n hx hb dX0_differingBit_0 rfl (lv_at hl 0 rfl) ?_
  refine lv_iload_n hx hb dX0_differingBit_1 rfl (lv_at hl 1 rfl) ?_
  refine roV (As := [.int (x)]) hC kX0_44 (cX_isNode ((x)) ) hK hP (x_rec hK hP) rfl rfl hl ⟨Nat.le_of_ble_eq_true rfl, Nat.le_of_ble_eq_true rfl⟩ (Nat.le_of_ble_eq_true rfl) dX0_differingBit_2 ⟨Nat.le_of_ble_eq_true rfl, Nat.le_of_ble_eq_true rfl⟩ ?_
  refine bv_ne (tgt := 10) hx hb dX0_differingBit_5 (by decide) (fun c_5 => ?_) (fun c_5 => ?_)
  · obtain ⟨v, hv, rfl⟩ := vN_t hn c_5
    refine lv_aload_n hx hb dX0_differingBit_10 rfl (lv_at hl 0 rfl) ?_
    refine lv_iload_n hx hb dX0_differingBit_11 rfl (lv_at hl 1 rfl) ?_
    refine roV (As := [.int (nI (v))]) hC kX0_81 (cX_conf v hn hcu hp (by omega)) hK hP (x_rec hK hP) rfl rfl hl ⟨Nat.le_of_ble_eq_true rfl, Nat.le_of_ble_eq_true rfl⟩ (Nat.le_of_ble_eq_true rfl) dX0_differingBit_12 ⟨Nat.le_of_ble_eq_true rfl, Nat.le_of_ble_eq_true rfl⟩ ?_
    refine bv_eq (tgt := 21) hx hb dX0_differingBit_15 (by decide) (fun c_15 => ?_) (fun c_15 => ?_)
    · refine lv_aload_n hx hb dX0_differingBit_21 rfl (lv_at hl 0 rfl) ?_
      refine lv_iload_n hx hb dX0_differingBit_22 rfl (lv_at hl 1 rfl) ?_
      refine roV (As := [.int (nI (v))]) hC kX0_84 (cX_rbit v hn hcu hp (by omega)) hK hP (x_rec hK hP) rfl rfl hl ⟨Nat.le_of_ble_eq_true rfl, Nat.le_of_ble_eq_true rfl⟩ (Nat.le_of_ble_eq_true rfl) dX0_differingBit_23 ⟨Nat.le_of_ble_eq_true rfl, Nat.le_of_ble_eq_true rfl⟩ ?_
      exact hret _ _ _ dX0_differingBit_26 (by rw [oN_in hn hv, if_neg (by rw [c_15]; simp)])
    · refine lv_bipush (v := (-5)) hx hb dX0_differingBit_18 (by decide) ?_
      exact hret _ _ _ dX0_differingBit_20 (by rw [oN_in hn hv, if_pos c_15])
  · refine lv_iconst (v := (-1)) hx hb dX0_differingBit_8 (by decide) ?_
    exact hret _ _ _ dX0_differingBit_9 ((oN_out c_5 _).symm)
set_option maxRecDepth 100000 in
set_option maxHeartbeats 4000000 in
theorem cX_degree {l : Launch} {E : EE} {a : Nat → Nat} {ids : Nat → Int32} {par : Nat → Option Nat} {rows : Nat → Nat → Int32} {cu pr n rd : Nat} (x : Int32) (hn : n ≤ 24)(hp : PW n par) : RO l E (XP E a ids par rows cu pr n rd) yX0_degree cX0_degree 2 (some .int) 2 45 [.ref (a 0), .int (x)] (oN (vN n x) (fun v => nI (fb_ct (nb par v) n))) := by
  refine RO.mk (C := RX0) rfl rfl (by decide) rfl (Nat.le_of_ble_eq_true rfl) ?_
  intro p e s m args below meth c H Q hC hK hP hret ls hl
  obtain ⟨hx, hb, hml, hown, hts⟩ := id hC
  have hl : lv_has ls 2 [(0, .ref (a 0)), (1, .int (x))] := hl
  refine lv_aload_n hx hb dX0_degree_0 rfl (lv_at hl 0 rfl) ?_
  refine lv_iload_n hx hb dX0_degree_1 rfl (lv_at hl 1 rfl) ?_
  refine roV (As := [.int (x)]) hC kX0_44 (cX_isNode ((x)) ) hK hP (x_rec hK hP) rfl rfl hl ⟨Nat.le_of_ble_eq_true rfl, Nat.le_of_ble_eq_true rfl⟩ (Nat.le_of_ble_eq_true rfl) dX0_degree_2 ⟨Nat.le_of_ble_eq_true rfl, Nat.le_of_ble_eq_true rfl⟩ ?_
  refine bv_ne (tgt := 10) hx hb dX0_degree_5 (by decide) (fun c_5 => ?_) (fun c_5 => ?_)
  · obtain ⟨v, hv, rfl⟩ := vN_t hn c_5
    refine lv_aload_n hx hb dX0_degree_10 rfl (lv_at hl 0 rfl) ?_
    refine lv_iload_n hx hb dX0_degree_11 rfl (lv_at hl 1 rfl) ?_
    refine roV (As := [.int (nI (v))]) hC kX0_51 (cX_neigh v hn hp (by omega)) hK hP (x_rec hK hP) rfl rfl hl ⟨Nat.le_of_ble_eq_true rfl, Nat.le_of_ble_eq_true rfl⟩ (Nat.le_of_ble_eq_true rfl) dX0_degree_12 ⟨Nat.le_of_ble_eq_true rfl, Nat.le_of_ble_eq_true rfl⟩ ?_
    refine roS (As := [.int (mk n (nb par v))]) hC kX0_55 (cJ_bit (nb par v) hn) hK (P := fun _ => True) trivial rfl rfl hl ⟨Nat.le_of_ble_eq_true rfl, Nat.le_of_ble_eq_true rfl⟩ (Nat.le_of_ble_eq_true rfl) dX0_degree_15 ⟨Nat.le_of_ble_eq_true rfl, Nat.le_of_ble_eq_true rfl⟩ ?_
    exact hret _ _ _ dX0_degree_18 (by rw [oN_in hn hv])
  · refine lv_iconst (v := (-1)) hx hb dX0_degree_8 (by decide) ?_
    exact hret _ _ _ dX0_degree_9 ((oN_out c_5 _).symm)
set_option maxRecDepth 100000 in
set_option maxHeartbeats 4000000 in
theorem cX_end {l : Launch} {E : EE} {a : Nat → Nat} {ids : Nat → Int32} {par : Nat → Option Nat} {rows : Nat → Nat → Int32} {cu pr n rd : Nat} (w : Nat → Bool) (hn : n ≤ 24)(hp : PW n par) : RO l E (XP E a ids par rows cu pr n rd) yX0_nodeAtAnEnd cX0_nodeAtAnEnd 3 (some .int) 2 45 [.ref (a 0), .int (mk n (w))] (pe (endF par n w)) := by
  refine RO.mk (C := RX0) rfl rfl (by decide) rfl (Nat.le_of_ble_eq_true rfl) ?_
  intro p e s m args below meth c H Q hC hK hP hret ls hl
  obtain ⟨hx, hb, hml, hown, hts⟩ := id hC
  have hl : lv_has ls 3 [(0, .ref (a 0)), (1, .int (mk n (w)))] := hl
  refine lv_iconst (v := (nI (0))) hx hb dX0_nodeAtAnEnd_0 (by decide) ?_
  refine lv_istore_n (lv' := [(2, .int (nI (0))), (0, .ref (a 0)), (1, .int (mk n (w)))]) hx hb dX0_nodeAtAnEnd_1 rfl hl (by decide) rfl (fun ls hl => ?_)
  have loop_2 : ∀ (fuel : Nat) (k : Nat), (k ≤ n) → (∀ j, j < k → endB par n w j = false) → n - k < fuel → ∀ (ls : Array Slot), lv_has ls 3 [(0, .ref (a 0)), (1, .int (mk n (w))), (2, .int (nI (k)))] → W p l e (k2_rm 2 45) s m args below meth c H [] 0 0 Q (F0 m 2 ls []) := by
    intro fuel
    induction fuel with
    | zero => intro k hk hno hm; exact absurd hm (Nat.not_lt_zero _)
    | succ fuel ih_2 =>
      intro k hk hno hm ls hl
      refine lv_iload_n hx hb dX0_nodeAtAnEnd_2 rfl (lv_at hl 2 rfl) ?_
      refine lv_aload_n hx hb dX0_nodeAtAnEnd_3 rfl (lv_at hl 0 rfl) ?_
      refine x_g5 hC hK hP dX0_nodeAtAnEnd_4 ?_
      refine nv_ge (tgt := 40) hx hb (by omega) (by omega) dX0_nodeAtAnEnd_7 (by decide) (fun c_7 => ?_) (fun c_7 => ?_)
      · refine lv_bipush (v := (-7)) hx hb dX0_nodeAtAnEnd_40 (by decide) ?_
        exact hret _ _ _ dX0_nodeAtAnEnd_42 (by rw [endF, fst_none (fun j hj => hno j (by omega))]; rfl)
      · refine lv_iload_n hx hb dX0_nodeAtAnEnd_10 rfl (lv_at hl 1 rfl) ?_
        refine lv_iload_n hx hb dX0_nodeAtAnEnd_11 rfl (lv_at hl 2 rfl) ?_
        refine roS (As := [.int (mk n (w)), .int (nI (k))]) hC kX0_63 (cX_isIn w k hn (by omega)) hK (P := fun _ => True) trivial rfl rfl hl ⟨Nat.le_of_ble_eq_true rfl, Nat.le_of_ble_eq_true rfl⟩ (Nat.le_of_ble_eq_true rfl) dX0_nodeAtAnEnd_12 ⟨Nat.le_of_ble_eq_true rfl, Nat.le_of_ble_eq_true rfl⟩ ?_
        refine bv_eq (tgt := 34) hx hb dX0_nodeAtAnEnd_15 (by decide) (fun c_15 => ?_) (fun c_15 => ?_)
        · refine lv_iinc (v := (nI (k + 1))) (lv' := [(2, .int (nI (k + 1))), (0, .ref (a 0)), (1, .int (mk n (w)))]) hx hb dX0_nodeAtAnEnd_34 hl (k := 2) rfl (nI_inc _) (by decide) rfl (fun ls hl => ?_)
          refine lv_goto (tgt := 2) hx hb dX0_nodeAtAnEnd_37 (by decide) ?_
          exact ih_2 (k + 1) (by omega) (lt_s hno (by simp [endB, c_15])) (by omega) ls (lv_sub hl [1, 2, 0] rfl)
        · refine lv_aload_n hx hb dX0_nodeAtAnEnd_18 rfl (lv_at hl 0 rfl) ?_
          refine lv_iload_n hx hb dX0_nodeAtAnEnd_19 rfl (lv_at hl 2 rfl) ?_
          refine roV (As := [.int (nI (k))]) hC kX0_51 (cX_neigh k hn hp (by omega)) hK hP (x_rec hK hP) rfl rfl hl ⟨Nat.le_of_ble_eq_true rfl, Nat.le_of_ble_eq_true rfl⟩ (Nat.le_of_ble_eq_true rfl) dX0_nodeAtAnEnd_20 ⟨Nat.le_of_ble_eq_true rfl, Nat.le_of_ble_eq_true rfl⟩ ?_
          refine lv_iload_n hx hb dX0_nodeAtAnEnd_23 rfl (lv_at hl 1 rfl) ?_
          refine lv_iand hx hb dX0_nodeAtAnEnd_24 ?_
          refine tI ((mk n (fun o => nb par k o && w o))) (mk_and _ _ _) ?_
          refine roS (As := [.int (mk n (fun o => nb par k o && w o))]) hC kX0_55 (cJ_bit (fun o => nb par k o && w o) hn) hK (P := fun _ => True) trivial rfl rfl hl ⟨Nat.le_of_ble_eq_true rfl, Nat.le_of_ble_eq_true rfl⟩ (Nat.le_of_ble_eq_true rfl) dX0_nodeAtAnEnd_25 ⟨Nat.le_of_ble_eq_true rfl, Nat.le_of_ble_eq_true rfl⟩ ?_
          refine lv_iconst (v := (nI (1))) hx hb dX0_nodeAtAnEnd_28 (by decide) ?_
          refine nv_gt (tgt := 34) hx hb (by have := fb_ct_le (fun o => nb par k o && w o) n; omega) (by omega) dX0_nodeAtAnEnd_29 (by decide) (fun c_29 => ?_) (fun c_29 => ?_)
          · refine lv_iinc (v := (nI (k + 1))) (lv' := [(2, .int (nI (k + 1))), (0, .ref (a 0)), (1, .int (mk n (w)))]) hx hb dX0_nodeAtAnEnd_34 hl (k := 2) rfl (nI_inc _) (by decide) rfl (fun ls hl => ?_)
            refine lv_goto (tgt := 2) hx hb dX0_nodeAtAnEnd_37 (by decide) ?_
            exact ih_2 (k + 1) (by omega) (lt_s hno (by simp [endB]; intro _; omega)) (by omega) ls (lv_sub hl [1, 2, 0] rfl)
          · refine lv_iload_n hx hb dX0_nodeAtAnEnd_32 rfl (lv_at hl 2 rfl) ?_
            exact hret _ _ _ dX0_nodeAtAnEnd_33 (by rw [endF, fst_some (k := k) (by omega) (by simp [endB, c_15]; omega) hno]; rfl)
  exact loop_2 (n - 0 + 1) 0 (Nat.zero_le _) (lt_0) (Nat.lt_succ_self _) ls (lv_sub hl [1, 2, 0] rfl)
set_option maxRecDepth 100000 in
set_option maxHeartbeats 4000000 in
theorem cX_iset {l : Launch} {E : EE} {a : Nat → Nat} {ids : Nat → Int32} {par : Nat → Option Nat} {rows : Nat → Nat → Int32} {cu pr n rd : Nat}  (hn : n ≤ 24)(hcu : cu < 18)(hp : PW n par) : RO l E (XP E a ids par rows cu pr n rd) yX0_independentSet cX0_independentSet 5 (some .int) 2 45 [.ref (a 0)] (mk n ((isF par (rows cu) n n).1)) := by
  refine RO.mk (C := RX0) rfl rfl (by decide) rfl (Nat.le_of_ble_eq_true rfl) ?_
  intro p e s m args below meth c H Q hC hK hP hret ls hl
  obtain ⟨hx, hb, hml, hown, hts⟩ := id hC
  have hl : lv_has ls 5 [(0, .ref (a 0))] := hl
  refine lv_iconst (v := (0)) hx hb dX0_independentSet_0 (by decide) ?_
  refine tI ((mk n (fun _ => false))) (mk_0 n) ?_
  refine lv_istore_n (lv' := [(1, .int (mk n (fun _ => false))), (0, .ref (a 0))]) hx hb dX0_independentSet_1 rfl hl (by decide) rfl (fun ls hl => ?_)
  refine lv_iconst (v := (0)) hx hb dX0_independentSet_2 (by decide) ?_
  refine tI ((mk n (fun _ => false))) (mk_0 n) ?_
  refine lv_istore_n (lv' := [(2, .int (mk n (fun _ => false))), (1, .int (mk n (fun _ => false))), (0, .ref (a 0))]) hx hb dX0_independentSet_3 rfl hl (by decide) rfl (fun ls hl => ?_)
  refine lv_iconst (v := (nI (0))) hx hb dX0_independentSet_4 (by decide) ?_
  refine lv_istore_n (lv' := [(3, .int (nI (0))), (2, .int (mk n (fun _ => false))), (1, .int (mk n (fun _ => false))), (0, .ref (a 0))]) hx hb dX0_independentSet_5 rfl hl (by decide) rfl (fun ls hl => ?_)
  have loop_6 : ∀ (fuel : Nat) (k : Nat), (k ≤ n) → n - k < fuel → ∀ (ls : Array Slot), lv_has ls 5 [(0, .ref (a 0)), (1, .int (mk n ((isF par (rows cu) n k).1))), (2, .int (mk n ((isF par (rows cu) n k).2))), (3, .int (nI (k)))] → W p l e (k2_rm 2 45) s m args below meth c H [] 0 0 Q (F0 m 6 ls []) := by
    intro fuel
    induction fuel with
    | zero => intro k hk hm; exact absurd hm (Nat.not_lt_zero _)
    | succ fuel ih_6 =>
      intro k hk hm ls hl
      refine lv_iload_n hx hb dX0_independentSet_6 rfl (lv_at hl 3 rfl) ?_
      refine lv_aload_n hx hb dX0_independentSet_7 rfl (lv_at hl 0 rfl) ?_
      refine x_g5 hC hK hP dX0_independentSet_8 ?_
      refine nv_ge (tgt := 61) hx hb (by omega) (by omega) dX0_independentSet_11 (by decide) (fun c_11 => ?_) (fun c_11 => ?_)
      · refine lv_iload_n hx hb dX0_independentSet_61 rfl (lv_at hl 1 rfl) ?_
        exact hret _ _ _ dX0_independentSet_62 (by rw [show k = n by omega])
      · refine lv_aload_n hx hb dX0_independentSet_14 rfl (lv_at hl 0 rfl) ?_
        refine lv_iload_n hx hb dX0_independentSet_15 rfl (lv_at hl 2 rfl) ?_
        refine roV (As := [.int (mk n ((isF par (rows cu) n k).2))]) hC kX0_135 (cX_next ((isF par (rows cu) n k).2) hn hcu) hK hP (x_rec hK hP) rfl rfl hl ⟨Nat.le_of_ble_eq_true rfl, Nat.le_of_ble_eq_true rfl⟩ (Nat.le_of_ble_eq_true rfl) dX0_independentSet_16 ⟨Nat.le_of_ble_eq_true rfl, Nat.le_of_ble_eq_true rfl⟩ ?_
        refine lv_istore (lv' := [(4, .int (pe (nvF (rows cu) ((isF par (rows cu) n k).2) n))), (0, .ref (a 0)), (1, .int (mk n ((isF par (rows cu) n k).1))), (2, .int (mk n ((isF par (rows cu) n k).2))), (3, .int (nI (k)))]) hx hb dX0_independentSet_19 hl (by decide) rfl (fun ls hl => ?_)
        refine lv_iload hx hb dX0_independentSet_21 (lv_at hl 0 rfl) ?_
        refine lv_bipush (v := (-7)) hx hb dX0_independentSet_23 (by decide) ?_
        refine pv_ne7 (tgt := 30) hx hb (fun u hu => by have := (nvF_lt hu).1; omega) dX0_independentSet_25 (by decide) (fun c_25 => ?_) (fun c_25 => ?_)
        · obtain ⟨v, hv'⟩ := ex_some c_25
          have hv := (nvF_lt hv').1
          rw [hv', show pe (some v) = nI v from rfl] at hl
          refine lv_iload_n hx hb dX0_independentSet_30 rfl (lv_at hl 3 rfl) ?_
          refine lv_iconst (v := (1)) hx hb dX0_independentSet_31 (by decide) ?_
          refine lv_iload hx hb dX0_independentSet_32 (lv_at hl 0 rfl) ?_
          refine lv_ishl hx hb dX0_independentSet_34 ?_
          refine lv_ior hx hb dX0_independentSet_35 ?_
          refine tI ((mk n ((isF par (rows cu) n (k + 1)).2))) (by rw [mk_ins hn hv, isF_2 hv']) ?_
          refine lv_istore_n (lv' := [(2, .int (mk n ((isF par (rows cu) n (k + 1)).2))), (4, .int (nI (v))), (0, .ref (a 0)), (1, .int (mk n ((isF par (rows cu) n k).1))), (3, .int (nI (k)))]) hx hb dX0_independentSet_36 rfl hl (by decide) rfl (fun ls hl => ?_)
          refine lv_aload_n hx hb dX0_independentSet_37 rfl (lv_at hl 2 rfl) ?_
          refine lv_iload hx hb dX0_independentSet_38 (lv_at hl 1 rfl) ?_
          refine roV (As := [.int (nI (v))]) hC kX0_51 (cX_neigh v hn hp (by omega)) hK hP (x_rec hK hP) rfl rfl hl ⟨Nat.le_of_ble_eq_true rfl, Nat.le_of_ble_eq_true rfl⟩ (Nat.le_of_ble_eq_true rfl) dX0_independentSet_40 ⟨Nat.le_of_ble_eq_true rfl, Nat.le_of_ble_eq_true rfl⟩ ?_
          refine lv_iload_n hx hb dX0_independentSet_43 rfl (lv_at hl 3 rfl) ?_
          refine lv_iand hx hb dX0_independentSet_44 ?_
          refine lv_if_ne (tgt := 55) hx hb dX0_independentSet_45 (by decide) (fun c_45 => ?_) (fun c_45 => ?_)
          · rw [mk_and0 hn] at c_45
            rw [← isF_1f hv' (by simpa using c_45)] at hl
            refine lv_iinc (v := (nI (k + 1))) (lv' := [(3, .int (nI (k + 1))), (2, .int (mk n ((isF par (rows cu) n (k + 1)).2))), (4, .int (nI (v))), (0, .ref (a 0)), (1, .int (mk n ((isF par (rows cu) n (k + 1)).1)))]) hx hb dX0_independentSet_55 hl (k := 4) rfl (nI_inc _) (by decide) rfl (fun ls hl => ?_)
            refine lv_goto (tgt := 6) hx hb dX0_independentSet_58 (by decide) ?_
            exact ih_6 (k + 1) (by omega) (by omega) ls (lv_sub hl [3, 4, 1, 0] rfl)
          · rw [mk_and0 hn] at c_45
            refine lv_iload_n hx hb dX0_independentSet_48 rfl (lv_at hl 3 rfl) ?_
            refine lv_iconst (v := (1)) hx hb dX0_independentSet_49 (by decide) ?_
            refine lv_iload hx hb dX0_independentSet_50 (lv_at hl 1 rfl) ?_
            refine lv_ishl hx hb dX0_independentSet_52 ?_
            refine lv_ior hx hb dX0_independentSet_53 ?_
            refine tI ((mk n ((isF par (rows cu) n (k + 1)).1))) (by rw [mk_ins hn hv, isF_1t hv' c_45]) ?_
            refine lv_istore_n (lv' := [(1, .int (mk n ((isF par (rows cu) n (k + 1)).1))), (2, .int (mk n ((isF par (rows cu) n (k + 1)).2))), (4, .int (nI (v))), (0, .ref (a 0)), (3, .int (nI (k)))]) hx hb dX0_independentSet_54 rfl hl (by decide) rfl (fun ls hl => ?_)
            refine lv_iinc (v := (nI (k + 1))) (lv' := [(3, .int (nI (k + 1))), (1, .int (mk n ((isF par (rows cu) n (k + 1)).1))), (2, .int (mk n ((isF par (rows cu) n (k + 1)).2))), (4, .int (nI (v))), (0, .ref (a 0))]) hx hb dX0_independentSet_55 hl (k := 4) rfl (nI_inc _) (by decide) rfl (fun ls hl => ?_)
            refine lv_goto (tgt := 6) hx hb dX0_independentSet_58 (by decide) ?_
            exact ih_6 (k + 1) (by omega) (by omega) ls (lv_sub hl [4, 1, 2, 0] rfl)
        · refine lv_iload_n hx hb dX0_independentSet_28 rfl (lv_at hl 2 rfl) ?_
          exact hret _ _ _ dX0_independentSet_29 (by have h := isF_none c_25 (n - k); rw [show k + (n - k) = n by omega] at h; rw [h])
  exact loop_6 (n - 0 + 1) 0 (Nat.zero_le _) (Nat.lt_succ_self _) ls (lv_sub hl [3, 2, 1, 0] rfl)
set_option maxRecDepth 100000 in
set_option maxHeartbeats 4000000 in
theorem cX_inSet {l : Launch} {E : EE} {a : Nat → Nat} {ids : Nat → Int32} {par : Nat → Option Nat} {rows : Nat → Nat → Int32} {cu pr n rd : Nat} (x : Int32) (hn : n ≤ 24)(hcu : cu < 18)(hp : PW n par) : RO l E (XP E a ids par rows cu pr n rd) yX0_inIndependentSet cX0_inIndependentSet 2 (some .int) 5 105 [.ref (a 0), .int (x)] (oN (vN n x) (fun v => if propB n par (rows cu) = true then b2i ((isF par (rows cu) n n).1 v) else -5)) := by
  refine RO.mk (C := RX0) rfl rfl (by decide) rfl (Nat.le_of_ble_eq_true rfl) ?_
  intro p e s m args below meth c H Q hC hK hP hret ls hl
  obtain ⟨hx, hb, hml, hown, hts⟩ := id hC
  have hl : lv_has ls 2 [(0, .ref (a 0)), (1, .int (x))] := hl
  refine lv_aload_n hx hb dX0_inIndependentSet_0 rfl (lv_at hl 0 rfl) ?_
  refine lv_iload_n hx hb dX0_inIndependentSet_1 rfl (lv_at hl 1 rfl) ?_
  refine roV (As := [.int (x)]) hC kX0_44 (cX_isNode ((x)) ) hK hP (x_rec hK hP) rfl rfl hl ⟨Nat.le_of_ble_eq_true rfl, Nat.le_of_ble_eq_true rfl⟩ (Nat.le_of_ble_eq_true rfl) dX0_inIndependentSet_2 ⟨Nat.le_of_ble_eq_true rfl, Nat.le_of_ble_eq_true rfl⟩ ?_
  refine bv_ne (tgt := 10) hx hb dX0_inIndependentSet_5 (by decide) (fun c_5 => ?_) (fun c_5 => ?_)
  · obtain ⟨v, hv, rfl⟩ := vN_t hn c_5
    refine lv_aload_n hx hb dX0_inIndependentSet_10 rfl (lv_at hl 0 rfl) ?_
    refine roV (As := []) hC kX0_87 (cX_proper  hn hcu hp) hK hP (x_rec hK hP) rfl rfl hl ⟨Nat.le_of_ble_eq_true rfl, Nat.le_of_ble_eq_true rfl⟩ (Nat.le_of_ble_eq_true rfl) dX0_inIndependentSet_11 ⟨Nat.le_of_ble_eq_true rfl, Nat.le_of_ble_eq_true rfl⟩ ?_
    refine bv_ne (tgt := 20) hx hb dX0_inIndependentSet_14 (by decide) (fun c_14 => ?_) (fun c_14 => ?_)
    · refine lv_aload_n hx hb dX0_inIndependentSet_20 rfl (lv_at hl 0 rfl) ?_
      refine roV (As := []) hC kX0_104 (cX_iset  hn hcu hp) hK hP (x_rec hK hP) rfl rfl hl ⟨Nat.le_of_ble_eq_true rfl, Nat.le_of_ble_eq_true rfl⟩ (Nat.le_of_ble_eq_true rfl) dX0_inIndependentSet_21 ⟨Nat.le_of_ble_eq_true rfl, Nat.le_of_ble_eq_true rfl⟩ ?_
      refine lv_iload_n hx hb dX0_inIndependentSet_24 rfl (lv_at hl 1 rfl) ?_
      refine roS (As := [.int (mk n ((isF par (rows cu) n n).1)), .int (nI (v))]) hC kX0_63 (cX_isIn ((isF par (rows cu) n n).1) v hn (by omega)) hK (P := fun _ => True) trivial rfl rfl hl ⟨Nat.le_of_ble_eq_true rfl, Nat.le_of_ble_eq_true rfl⟩ (Nat.le_of_ble_eq_true rfl) dX0_inIndependentSet_25 ⟨Nat.le_of_ble_eq_true rfl, Nat.le_of_ble_eq_true rfl⟩ ?_
      refine bv_eq (tgt := 35) hx hb dX0_inIndependentSet_28 (by decide) (fun c_28 => ?_) (fun c_28 => ?_)
      · refine lv_iconst (v := (0)) hx hb dX0_inIndependentSet_35 (by decide) ?_
        exact hret _ _ _ dX0_inIndependentSet_36 (by rw [oN_in hn hv, if_pos c_14, c_28]; rfl)
      · refine lv_iconst (v := (1)) hx hb dX0_inIndependentSet_31 (by decide) ?_
        refine lv_goto (tgt := 36) hx hb dX0_inIndependentSet_32 (by decide) ?_
        exact hret _ _ _ dX0_inIndependentSet_36 (by rw [oN_in hn hv, if_pos c_14, c_28]; rfl)
    · refine lv_bipush (v := (-5)) hx hb dX0_inIndependentSet_17 (by decide) ?_
      exact hret _ _ _ dX0_inIndependentSet_19 (by rw [oN_in hn hv, if_neg (by rw [c_14]; simp)])
  · refine lv_iconst (v := (-1)) hx hb dX0_inIndependentSet_8 (by decide) ?_
    exact hret _ _ _ dX0_inIndependentSet_9 ((oN_out c_5 _).symm)
set_option maxRecDepth 100000 in
set_option maxHeartbeats 4000000 in
theorem cX_setSize {l : Launch} {E : EE} {a : Nat → Nat} {ids : Nat → Int32} {par : Nat → Option Nat} {rows : Nat → Nat → Int32} {cu pr n rd : Nat}  (hn : n ≤ 24)(hcu : cu < 18)(hp : PW n par) : RO l E (XP E a ids par rows cu pr n rd) yX0_independentSetSize cX0_independentSetSize 1 (some .int) 5 105 [.ref (a 0)] (if propB n par (rows cu) = true then nI (fb_ct (isF par (rows cu) n n).1 n) else -5) := by
  refine RO.mk (C := RX0) rfl rfl (by decide) rfl (Nat.le_of_ble_eq_true rfl) ?_
  intro p e s m args below meth c H Q hC hK hP hret ls hl
  obtain ⟨hx, hb, hml, hown, hts⟩ := id hC
  have hl : lv_has ls 1 [(0, .ref (a 0))] := hl
  refine lv_aload_n hx hb dX0_independentSetSize_0 rfl (lv_at hl 0 rfl) ?_
  refine roV (As := []) hC kX0_87 (cX_proper  hn hcu hp) hK hP (x_rec hK hP) rfl rfl hl ⟨Nat.le_of_ble_eq_true rfl, Nat.le_of_ble_eq_true rfl⟩ (Nat.le_of_ble_eq_true rfl) dX0_independentSetSize_1 ⟨Nat.le_of_ble_eq_true rfl, Nat.le_of_ble_eq_true rfl⟩ ?_
  refine bv_ne (tgt := 10) hx hb dX0_independentSetSize_4 (by decide) (fun c_4 => ?_) (fun c_4 => ?_)
  · refine lv_aload_n hx hb dX0_independentSetSize_10 rfl (lv_at hl 0 rfl) ?_
    refine roV (As := []) hC kX0_104 (cX_iset  hn hcu hp) hK hP (x_rec hK hP) rfl rfl hl ⟨Nat.le_of_ble_eq_true rfl, Nat.le_of_ble_eq_true rfl⟩ (Nat.le_of_ble_eq_true rfl) dX0_independentSetSize_11 ⟨Nat.le_of_ble_eq_true rfl, Nat.le_of_ble_eq_true rfl⟩ ?_
    refine roS (As := [.int (mk n ((isF par (rows cu) n n).1))]) hC kX0_55 (cJ_bit ((isF par (rows cu) n n).1) hn) hK (P := fun _ => True) trivial rfl rfl hl ⟨Nat.le_of_ble_eq_true rfl, Nat.le_of_ble_eq_true rfl⟩ (Nat.le_of_ble_eq_true rfl) dX0_independentSetSize_14 ⟨Nat.le_of_ble_eq_true rfl, Nat.le_of_ble_eq_true rfl⟩ ?_
    exact hret _ _ _ dX0_independentSetSize_17 (by rw [if_pos c_4])
  · refine lv_bipush (v := (-5)) hx hb dX0_independentSetSize_7 (by decide) ?_
    exact hret _ _ _ dX0_independentSetSize_9 (by rw [if_neg (by rw [c_4]; simp)])
set_option maxRecDepth 100000 in
set_option maxHeartbeats 4000000 in
theorem cX_gis {l : Launch} {E : EE} {a : Nat → Nat} {ids : Nat → Int32} {par : Nat → Option Nat} {rows : Nat → Nat → Int32} {cu pr n rd : Nat} (x : Int32) (hn : n ≤ 24)(hp : PW n par) : RO l E (XP E a ids par rows cu pr n rd) yX0_greatestIndependentSet cX0_greatestIndependentSet 6 (some .int) 4 89 [.ref (a 0), .int (x)] (oN (vN n x) (fun v => nI (giF par n n (partW par n v) 0))) := by
  refine RO.mk (C := RX0) rfl rfl (by decide) rfl (Nat.le_of_ble_eq_true rfl) ?_
  intro p e s m args below meth c H Q hC hK hP hret ls hl
  obtain ⟨hx, hb, hml, hown, hts⟩ := id hC
  have hl : lv_has ls 6 [(0, .ref (a 0)), (1, .int (x))] := hl
  refine lv_aload_n hx hb dX0_greatestIndependentSet_0 rfl (lv_at hl 0 rfl) ?_
  refine lv_iload_n hx hb dX0_greatestIndependentSet_1 rfl (lv_at hl 1 rfl) ?_
  refine roV (As := [.int (x)]) hC kX0_44 (cX_isNode ((x)) ) hK hP (x_rec hK hP) rfl rfl hl ⟨Nat.le_of_ble_eq_true rfl, Nat.le_of_ble_eq_true rfl⟩ (Nat.le_of_ble_eq_true rfl) dX0_greatestIndependentSet_2 ⟨Nat.le_of_ble_eq_true rfl, Nat.le_of_ble_eq_true rfl⟩ ?_
  refine bv_ne (tgt := 10) hx hb dX0_greatestIndependentSet_5 (by decide) (fun c_5 => ?_) (fun c_5 => ?_)
  · obtain ⟨v, hv, rfl⟩ := vN_t hn c_5
    refine lv_aload_n hx hb dX0_greatestIndependentSet_10 rfl (lv_at hl 0 rfl) ?_
    refine lv_iload_n hx hb dX0_greatestIndependentSet_11 rfl (lv_at hl 1 rfl) ?_
    refine roV (As := [.int (nI (v))]) hC kX0_67 (cX_part v hn hp (by omega)) hK hP (x_rec hK hP) rfl rfl hl ⟨Nat.le_of_ble_eq_true rfl, Nat.le_of_ble_eq_true rfl⟩ (Nat.le_of_ble_eq_true rfl) dX0_greatestIndependentSet_12 ⟨Nat.le_of_ble_eq_true rfl, Nat.le_of_ble_eq_true rfl⟩ ?_
    refine lv_istore_n (lv' := [(2, .int (mk n (partW par n v))), (0, .ref (a 0)), (1, .int (nI (v)))]) hx hb dX0_greatestIndependentSet_15 rfl hl (by decide) rfl (fun ls hl => ?_)
    refine lv_iconst (v := (nI (0))) hx hb dX0_greatestIndependentSet_16 (by decide) ?_
    refine lv_istore_n (lv' := [(3, .int (nI (0))), (2, .int (mk n (partW par n v))), (0, .ref (a 0)), (1, .int (nI (v)))]) hx hb dX0_greatestIndependentSet_17 rfl hl (by decide) rfl (fun ls hl => ?_)
    refine lv_iconst (v := (nI (0))) hx hb dX0_greatestIndependentSet_18 (by decide) ?_
    refine lv_istore (lv' := [(4, .int (nI (0))), (3, .int (nI (0))), (2, .int (mk n (partW par n v))), (0, .ref (a 0)), (1, .int (nI (v)))]) hx hb dX0_greatestIndependentSet_19 hl (by decide) rfl (fun ls hl => ?_)
    have loop_21 : ∀ (fuel : Nat) (k : Nat) (w : Nat → Bool) (z : Nat), (k ≤ n) → (z ≤ k) → (giF par n (n - k) w z = giF par n n (partW par n v) 0) → n - k < fuel → ∀ (ls : Array Slot), lv_has ls 6 [(0, .ref (a 0)), (1, .int (nI (v))), (2, .int (mk n (w))), (3, .int (nI (z))), (4, .int (nI (k)))] → W p l e (k2_rm 4 89) s m args below meth c H [] 0 0 Q (F0 m 21 ls []) := by
      intro fuel
      induction fuel with
      | zero => intro k w z hk hz hg hm; exact absurd hm (Nat.not_lt_zero _)
      | succ fuel ih_21 =>
        intro k w z hk hz hg hm ls hl
        refine lv_iload hx hb dX0_greatestIndependentSet_21 (lv_at hl 4 rfl) ?_
        refine lv_aload_n hx hb dX0_greatestIndependentSet_23 rfl (lv_at hl 0 rfl) ?_
        refine x_g5 hC hK hP dX0_greatestIndependentSet_24 ?_
        refine nv_ge (tgt := 82) hx hb (by omega) (by omega) dX0_greatestIndependentSet_27 (by decide) (fun c_27 => ?_) (fun c_27 => ?_)
        · refine lv_iload_n hx hb dX0_greatestIndependentSet_82 rfl (lv_at hl 3 rfl) ?_
          exact hret _ _ _ dX0_greatestIndependentSet_83 (by rw [oN_in hn hv, ← hg, show n - k = 0 by omega]; rfl)
        · refine lv_iload_n hx hb dX0_greatestIndependentSet_30 rfl (lv_at hl 2 rfl) ?_
          refine lv_if_eq (tgt := 82) hx hb dX0_greatestIndependentSet_31 (by decide) (fun c_31 => ?_) (fun c_31 => ?_)
          · rw [mk_any hn] at c_31
            refine lv_iload_n hx hb dX0_greatestIndependentSet_82 rfl (lv_at hl 3 rfl) ?_
            exact hret _ _ _ dX0_greatestIndependentSet_83 (by rw [oN_in hn hv, ← hg, giF_0 c_31])
          · rw [mk_any hn] at c_31
            have hw : anyB w n = true := by simpa using c_31
            refine lv_aload_n hx hb dX0_greatestIndependentSet_34 rfl (lv_at hl 0 rfl) ?_
            refine lv_iload_n hx hb dX0_greatestIndependentSet_35 rfl (lv_at hl 2 rfl) ?_
            refine roV (As := [.int (mk n (w))]) hC kX0_107 (cX_end w hn hp) hK hP (x_rec hK hP) rfl rfl hl ⟨Nat.le_of_ble_eq_true rfl, Nat.le_of_ble_eq_true rfl⟩ (Nat.le_of_ble_eq_true rfl) dX0_greatestIndependentSet_36 ⟨Nat.le_of_ble_eq_true rfl, Nat.le_of_ble_eq_true rfl⟩ ?_
            refine lv_istore (lv' := [(5, .int (pe (endF par n w))), (0, .ref (a 0)), (1, .int (nI (v))), (2, .int (mk n (w))), (3, .int (nI (z))), (4, .int (nI (k)))]) hx hb dX0_greatestIndependentSet_39 hl (by decide) rfl (fun ls hl => ?_)
            refine lv_iload hx hb dX0_greatestIndependentSet_41 (lv_at hl 0 rfl) ?_
            refine lv_bipush (v := (-7)) hx hb dX0_greatestIndependentSet_43 (by decide) ?_
            refine pv_ne7 (tgt := 57) hx hb (fun u hu => by have := (endF_lt hu).1; omega) dX0_greatestIndependentSet_45 (by decide) (fun c_45 => ?_) (fun c_45 => ?_)
            · obtain ⟨q, hq'⟩ := ex_some c_45
              have hq := (endF_lt hq').1
              rw [hq', show pe (some q) = nI q from rfl] at hl
              refine lv_iload_n hx hb dX0_greatestIndependentSet_57 rfl (lv_at hl 3 rfl) ?_
              refine lv_aload_n hx hb dX0_greatestIndependentSet_58 rfl (lv_at hl 1 rfl) ?_
              refine lv_iload hx hb dX0_greatestIndependentSet_59 (lv_at hl 0 rfl) ?_
              refine roV (As := [.int (nI (q))]) hC kX0_51 (cX_neigh q hn hp (by omega)) hK hP (x_rec hK hP) rfl rfl hl ⟨Nat.le_of_ble_eq_true rfl, Nat.le_of_ble_eq_true rfl⟩ (Nat.le_of_ble_eq_true rfl) dX0_greatestIndependentSet_61 ⟨Nat.le_of_ble_eq_true rfl, Nat.le_of_ble_eq_true rfl⟩ ?_
              refine lv_iconst (v := (1)) hx hb dX0_greatestIndependentSet_64 (by decide) ?_
              refine lv_iload hx hb dX0_greatestIndependentSet_65 (lv_at hl 0 rfl) ?_
              refine lv_ishl hx hb dX0_greatestIndependentSet_67 ?_
              refine lv_ior hx hb dX0_greatestIndependentSet_68 ?_
              refine tI ((mk n (fun j => nb par q j || j == q))) (mk_ins hn hq _) ?_
              refine lv_iconst (v := (-1)) hx hb dX0_greatestIndependentSet_69 (by decide) ?_
              refine lv_ixor hx hb dX0_greatestIndependentSet_70 ?_
              refine lv_iand hx hb dX0_greatestIndependentSet_71 ?_
              refine tI ((mk n (fun j => w j && !(nb par q j || j == q)))) (mk_sub _ _ _) ?_
              refine lv_istore_n (lv' := [(2, .int (mk n (fun j => w j && !(nb par q j || j == q)))), (5, .int (nI (q))), (0, .ref (a 0)), (1, .int (nI (v))), (3, .int (nI (z))), (4, .int (nI (k)))]) hx hb dX0_greatestIndependentSet_72 rfl hl (by decide) rfl (fun ls hl => ?_)
              refine lv_iinc (v := (nI (z + 1))) (lv' := [(3, .int (nI (z + 1))), (2, .int (mk n (fun j => w j && !(nb par q j || j == q)))), (5, .int (nI (q))), (0, .ref (a 0)), (1, .int (nI (v))), (4, .int (nI (k)))]) hx hb dX0_greatestIndependentSet_73 hl (k := 4) rfl (nI_inc _) (by decide) rfl (fun ls hl => ?_)
              refine lv_iinc (v := (nI (k + 1))) (lv' := [(4, .int (nI (k + 1))), (3, .int (nI (z + 1))), (2, .int (mk n (fun j => w j && !(nb par q j || j == q)))), (5, .int (nI (q))), (0, .ref (a 0)), (1, .int (nI (v)))]) hx hb dX0_greatestIndependentSet_76 hl (k := 5) rfl (nI_inc _) (by decide) rfl (fun ls hl => ?_)
              refine lv_goto (tgt := 21) hx hb dX0_greatestIndependentSet_79 (by decide) ?_
              exact ih_21 (k + 1) (fun j => w j && !(nb par q j || j == q)) (z + 1) (by omega) (by omega) (by rw [← hg, show n - k = (n - (k + 1)) + 1 by omega, giF_s hw hq']) (by omega) ls (lv_sub hl [4, 5, 2, 1, 0] rfl)
            · refine lv_iload_n hx hb dX0_greatestIndependentSet_48 rfl (lv_at hl 4 rfl) ?_
              refine lv_iload_n hx hb dX0_greatestIndependentSet_49 rfl (lv_at hl 3 rfl) ?_
              refine roS (As := [.int (mk n (w))]) hC kX0_55 (cJ_bit w hn) hK (P := fun _ => True) trivial rfl rfl hl ⟨Nat.le_of_ble_eq_true rfl, Nat.le_of_ble_eq_true rfl⟩ (Nat.le_of_ble_eq_true rfl) dX0_greatestIndependentSet_50 ⟨Nat.le_of_ble_eq_true rfl, Nat.le_of_ble_eq_true rfl⟩ ?_
              refine lv_iconst (v := (nI (2))) hx hb dX0_greatestIndependentSet_53 (by decide) ?_
              refine lv_idiv hx hb dX0_greatestIndependentSet_54 (by decide) ?_
              refine tI ((nI (fb_ct w n / 2))) (pk_div (by have := fb_ct_le w n; omega) (by omega) (by omega)) ?_
              refine lv_iadd hx hb dX0_greatestIndependentSet_55 ?_
              refine tI (nI (z + (fb_ct w n / 2))) (nI_add _ _) ?_
              exact hret _ _ _ dX0_greatestIndependentSet_56 (by rw [oN_in hn hv, ← hg, show n - k = (n - (k + 1)) + 1 by omega, giF_n hw c_45])
    exact loop_21 (n - 0 + 1) 0 (partW par n v) 0 (Nat.zero_le _) (Nat.le_refl _) (rfl) (Nat.lt_succ_self _) ls (lv_sub hl [3, 4, 2, 1, 0] rfl)
  · refine lv_iconst (v := (-1)) hx hb dX0_greatestIndependentSet_8 (by decide) ?_
    exact hret _ _ _ dX0_greatestIndependentSet_9 ((oN_out c_5 _).symm)
