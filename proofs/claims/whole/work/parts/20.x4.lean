-- the class: methods that write (laid by wip/whole/gen/spec_x4.py)
theorem fre_lt {par : Nat → Option Nat} {col : Nat → Int32} {n v m : Nat} (hm : m ≤ 24) : ∀ u, freF par col n v m = some u → u < 2 ^ 31 := by
  intro u hu
  rcases fst_spec (p := fun c => !bes par col n v (nI c)) (n := m) with ⟨h1, -⟩ | ⟨k, h1, h2, -, -⟩
  · rw [freF, h1] at hu; cases hu
  · rw [freF, h1] at hu; cases hu; omega
def okEL (n : Nat) (par : Nat → Option Nat) (col : Nat → Int32) (y : Int32) : Bool := !decide (y < 3) && vV y && propB n par col
theorem okEL_1 {n : Nat} {par : Nat → Option Nat} {col : Nat → Int32} {y : Int32} (h : y < 3) : okEL n par col y = false := by simp [okEL, h]
theorem okEL_2 {n : Nat} {par : Nat → Option Nat} {col : Nat → Int32} {y : Int32} (h : vV y = false) : okEL n par col y = false := by simp [okEL, h]
theorem okEL_3 {n : Nat} {par : Nat → Option Nat} {col : Nat → Int32} {y : Int32} (h : propB n par col = false) : okEL n par col y = false := by simp [okEL, h]
theorem okEL_4 {n : Nat} {par : Nat → Option Nat} {col : Nat → Int32} {y : Int32} (h1 : ¬ y < 3) (h2 : vV y = true) (h3 : propB n par col = true) : okEL n par col y = true := by simp [okEL, h1, h2, h3]
set_option maxRecDepth 100000 in
set_option maxHeartbeats 4000000 in
theorem cX_start {l : Launch} {E : EE} {a : Nat → Nat} {ids : Nat → Int32} {par : Nat → Option Nat} {rows : Nat → Nat → Int32} {cu pr n rd : Nat}  (hI : inj 22 a) : WR l E (XP E a ids par rows cu pr n rd) (AX a) yX0_startCount cX0_startCount 1 none 0 0 [.ref (a 0)] none (XP E a ids par rows cu pr n 0) := by
  refine WR.mkV (C := RX0) rfl (by decide) rfl (Nat.le_of_ble_eq_true rfl) ?_
  intro p e s m args below meth c H0 Q hC hK hP hret ls hl
  obtain ⟨hx, hb, hml, hown, hts⟩ := id hC
  have hl : lv_has ls 1 [(0, .ref (a 0))] := hl
  have hS : va_S (AX a) H0 H0 [] := va_S.rf
  have hP : XP E a ids par rows cu pr n rd H0 := hP
  refine lv_aload_n hx hb dX0_startCount_0 rfl (lv_at hl 0 rfl) ?_
  refine lv_iconst (v := (nI (0))) hx hb dX0_startCount_1 (by decide) ?_
  refine x_p6 hC hK hI hP hS dX0_startCount_2 (fun H locs hP hS => ?_)
  exact hret _ _ _ _ (hP) hS dX0_startCount_5
set_option maxRecDepth 100000 in
set_option maxHeartbeats 4000000 in
theorem cX_replace {l : Launch} {E : EE} {a : Nat → Nat} {ids : Nat → Int32} {par : Nat → Option Nat} {rows : Nat → Nat → Int32} {cu pr n rd : Nat} (v : Nat) (o : Option Nat) (hI : inj 22 a)(hv : v < 24) : WR l E (XP E a ids par rows cu pr n rd) (AX a) yX0_replaceParent cX0_replaceParent 4 (some .int) 1 20 [.ref (a 0), .int (nI (v)), .int (pe (o))] (some (.int (pe (par v)))) (XP E a ids (va_up par v o) rows cu pr n 0) := by
  refine WR.mkI (C := RX0) rfl rfl (by decide) rfl (Nat.le_of_ble_eq_true rfl) ?_
  intro p e s m args below meth c H0 Q hC hK hP hret ls hl
  obtain ⟨hx, hb, hml, hown, hts⟩ := id hC
  have hl : lv_has ls 4 [(0, .ref (a 0)), (1, .int (nI (v))), (2, .int (pe (o)))] := hl
  have hS : va_S (AX a) H0 H0 [] := va_S.rf
  have hP : XP E a ids par rows cu pr n rd H0 := hP
  refine lv_aload_n hx hb dX0_replaceParent_0 rfl (lv_at hl 0 rfl) ?_
  refine x_g1 hC hK hP dX0_replaceParent_1 ?_
  refine lv_iload_n hx hb dX0_replaceParent_4 rfl (lv_at hl 1 rfl) ?_
  refine x_ldP hx hb hK hP (by omega) dX0_replaceParent_5 ?_
  refine lv_istore_n (lv' := [(3, .int (pe (par v))), (0, .ref (a 0)), (1, .int (nI (v))), (2, .int (pe (o)))]) hx hb dX0_replaceParent_6 rfl hl (by decide) rfl (fun ls hl => ?_)
  refine lv_aload_n hx hb dX0_replaceParent_7 rfl (lv_at hl 1 rfl) ?_
  refine x_g1 hC hK hP dX0_replaceParent_8 ?_
  refine lv_iload_n hx hb dX0_replaceParent_11 rfl (lv_at hl 2 rfl) ?_
  refine lv_iload_n hx hb dX0_replaceParent_12 rfl (lv_at hl 3 rfl) ?_
  refine x_stP (x := o) hx hb hK hI hP hS (by omega) dX0_replaceParent_13 (fun H locs hP hS => ?_)
  refine lv_aload_n hx hb dX0_replaceParent_14 rfl (lv_at hl 1 rfl) ?_
  refine wrV (As := []) hC kX0_41 (cX_start  hI) hK hP (x_rec hK hP) hS (fun _ h => h) rfl rfl hl ⟨Nat.le_of_ble_eq_true rfl, Nat.le_of_ble_eq_true rfl⟩ (Nat.le_of_ble_eq_true rfl) dX0_replaceParent_15 ⟨Nat.le_of_ble_eq_true rfl, Nat.le_of_ble_eq_true rfl⟩ (fun H locs hP hS _ _ => ?_)
  refine lv_iload_n hx hb dX0_replaceParent_18 rfl (lv_at hl 0 rfl) ?_
  exact hret _ _ _ _ _ (hP) hS dX0_replaceParent_19 (by first | rfl | omega | simp_all)
set_option maxRecDepth 100000 in
set_option maxHeartbeats 4000000 in
theorem cX_setParent {l : Launch} {E : EE} {a : Nat → Nat} {ids : Nat → Int32} {par : Nat → Option Nat} {rows : Nat → Nat → Int32} {pr n rd : Nat} (x y : Int32) (hI : inj 22 a)(hn : n ≤ 24) : WR l E (XP E a ids par rows pr pr n rd) (AX a) yX0_setParent cX0_setParent 3 (some .int) 2 43 [.ref (a 0), .int (x), .int (y)] (some (.int (spRes n par x y))) (XP E a ids (oU (okSP n x y) (fun q => va_up par q.1 (some q.2)) par) rows pr pr n (oU (okSP n x y) (fun _ => 0) rd)) := by
  refine WR.mkI (C := RX0) rfl rfl (by decide) rfl (Nat.le_of_ble_eq_true rfl) ?_
  intro p e s m args below meth c H0 Q hC hK hP hret ls hl
  obtain ⟨hx, hb, hml, hown, hts⟩ := id hC
  have hl : lv_has ls 3 [(0, .ref (a 0)), (1, .int (x)), (2, .int (y))] := hl
  have hS : va_S (AX a) H0 H0 [] := va_S.rf
  have hP : XP E a ids par rows pr pr n rd H0 := hP
  refine lv_aload_n hx hb dX0_setParent_0 rfl (lv_at hl 0 rfl) ?_
  refine lv_iload_n hx hb dX0_setParent_1 rfl (lv_at hl 1 rfl) ?_
  refine roV (As := [.int (x)]) hC kX0_44 (cX_isNode ((x)) ) hK hP (x_rec hK hP) rfl rfl hl ⟨Nat.le_of_ble_eq_true rfl, Nat.le_of_ble_eq_true rfl⟩ (Nat.le_of_ble_eq_true rfl) dX0_setParent_2 ⟨Nat.le_of_ble_eq_true rfl, Nat.le_of_ble_eq_true rfl⟩ ?_
  refine bv_eq (tgt := 16) hx hb dX0_setParent_5 (by decide) (fun c_5 => ?_) (fun c_5 => ?_)
  · refine lv_iconst (v := (-1)) hx hb dX0_setParent_16 (by decide) ?_
    exact hret _ _ _ _ _ (by rw [oU_none (okSP_1 c_5), oU_none (okSP_1 c_5)]; exact hP) hS dX0_setParent_17 ((spRes_1 c_5).symm)
  · obtain ⟨v, hv, rfl⟩ := vN_t hn c_5
    refine lv_aload_n hx hb dX0_setParent_8 rfl (lv_at hl 0 rfl) ?_
    refine lv_iload_n hx hb dX0_setParent_9 rfl (lv_at hl 2 rfl) ?_
    refine roV (As := [.int (y)]) hC kX0_44 (cX_isNode ((y)) ) hK hP (x_rec hK hP) rfl rfl hl ⟨Nat.le_of_ble_eq_true rfl, Nat.le_of_ble_eq_true rfl⟩ (Nat.le_of_ble_eq_true rfl) dX0_setParent_10 ⟨Nat.le_of_ble_eq_true rfl, Nat.le_of_ble_eq_true rfl⟩ ?_
    refine bv_ne (tgt := 18) hx hb dX0_setParent_13 (by decide) (fun c_13 => ?_) (fun c_13 => ?_)
    · obtain ⟨u, hu, rfl⟩ := vN_t hn c_13
      refine lv_iload_n hx hb dX0_setParent_18 rfl (lv_at hl 1 rfl) ?_
      refine lv_iload_n hx hb dX0_setParent_19 rfl (lv_at hl 2 rfl) ?_
      refine nv_ne (tgt := 26) hx hb (by omega) (by omega) dX0_setParent_20 (by decide) (fun c_20 => ?_) (fun c_20 => ?_)
      · refine lv_aload_n hx hb dX0_setParent_26 rfl (lv_at hl 0 rfl) ?_
        refine lv_iload_n hx hb dX0_setParent_27 rfl (lv_at hl 1 rfl) ?_
        refine lv_iload_n hx hb dX0_setParent_28 rfl (lv_at hl 2 rfl) ?_
        refine wrV (As := [.int (nI (v)), .int (nI (u))]) hC kX0_47 (cX_replace v (some u) hI (by omega)) hK hP (x_rec hK hP) hS (fun _ h => h) rfl rfl hl ⟨Nat.le_of_ble_eq_true rfl, Nat.le_of_ble_eq_true rfl⟩ (Nat.le_of_ble_eq_true rfl) dX0_setParent_29 ⟨Nat.le_of_ble_eq_true rfl, Nat.le_of_ble_eq_true rfl⟩ (fun H locs hP hS _ _ => ?_)
        exact hret _ _ _ _ _ (by rw [oU_some (okSP_4 hn hv hu c_20), oU_some (okSP_4 hn hv hu c_20)]; exact hP) hS dX0_setParent_32 ((spRes_4 hn hv hu c_20).symm)
      · subst c_20
        refine lv_bipush (v := (-2)) hx hb dX0_setParent_23 (by decide) ?_
        exact hret _ _ _ _ _ (by rw [oU_none (okSP_3 hn hv), oU_none (okSP_3 hn hv)]; exact hP) hS dX0_setParent_25 ((spRes_3 hn hv).symm)
    · refine lv_iconst (v := (-1)) hx hb dX0_setParent_16 (by decide) ?_
      exact hret _ _ _ _ _ (by rw [oU_none (okSP_2 c_13), oU_none (okSP_2 c_13)]; exact hP) hS dX0_setParent_17 ((spRes_2 c_13).symm)
set_option maxRecDepth 100000 in
set_option maxHeartbeats 4000000 in
theorem cX_removeParent {l : Launch} {E : EE} {a : Nat → Nat} {ids : Nat → Int32} {par : Nat → Option Nat} {rows : Nat → Nat → Int32} {pr n rd : Nat} (x : Int32) (hI : inj 22 a)(hn : n ≤ 24) : WR l E (XP E a ids par rows pr pr n rd) (AX a) yX0_removeParent cX0_removeParent 2 (some .int) 2 43 [.ref (a 0), .int (x)] (some (.int (oN (vN n x) (fun v => pe (par v))))) (XP E a ids (oU (vN n x) (fun v => va_up par v none) par) rows pr pr n (oU (vN n x) (fun _ => 0) rd)) := by
  refine WR.mkI (C := RX0) rfl rfl (by decide) rfl (Nat.le_of_ble_eq_true rfl) ?_
  intro p e s m args below meth c H0 Q hC hK hP hret ls hl
  obtain ⟨hx, hb, hml, hown, hts⟩ := id hC
  have hl : lv_has ls 2 [(0, .ref (a 0)), (1, .int (x))] := hl
  have hS : va_S (AX a) H0 H0 [] := va_S.rf
  have hP : XP E a ids par rows pr pr n rd H0 := hP
  refine lv_aload_n hx hb dX0_removeParent_0 rfl (lv_at hl 0 rfl) ?_
  refine lv_iload_n hx hb dX0_removeParent_1 rfl (lv_at hl 1 rfl) ?_
  refine roV (As := [.int (x)]) hC kX0_44 (cX_isNode ((x)) ) hK hP (x_rec hK hP) rfl rfl hl ⟨Nat.le_of_ble_eq_true rfl, Nat.le_of_ble_eq_true rfl⟩ (Nat.le_of_ble_eq_true rfl) dX0_removeParent_2 ⟨Nat.le_of_ble_eq_true rfl, Nat.le_of_ble_eq_true rfl⟩ ?_
  refine bv_ne (tgt := 10) hx hb dX0_removeParent_5 (by decide) (fun c_5 => ?_) (fun c_5 => ?_)
  · obtain ⟨v, hv, rfl⟩ := vN_t hn c_5
    refine lv_aload_n hx hb dX0_removeParent_10 rfl (lv_at hl 0 rfl) ?_
    refine lv_iload_n hx hb dX0_removeParent_11 rfl (lv_at hl 1 rfl) ?_
    refine lv_bipush (v := (pe (none))) hx hb dX0_removeParent_12 (by decide) ?_
    refine wrV (As := [.int (nI (v)), .int (pe (none))]) hC kX0_47 (cX_replace v none hI (by omega)) hK hP (x_rec hK hP) hS (fun _ h => h) rfl rfl hl ⟨Nat.le_of_ble_eq_true rfl, Nat.le_of_ble_eq_true rfl⟩ (Nat.le_of_ble_eq_true rfl) dX0_removeParent_14 ⟨Nat.le_of_ble_eq_true rfl, Nat.le_of_ble_eq_true rfl⟩ (fun H locs hP hS _ _ => ?_)
    exact hret _ _ _ _ _ (by rw [oU_some (vN_nI hn hv), oU_some (vN_nI hn hv)]; exact hP) hS dX0_removeParent_17 (by rw [oN_in hn hv])
  · refine lv_iconst (v := (-1)) hx hb dX0_removeParent_8 (by decide) ?_
    exact hret _ _ _ _ _ (by rw [oU_none (vN_f c_5), oU_none (vN_f c_5)]; exact hP) hS dX0_removeParent_9 ((oN_out c_5 _).symm)
set_option maxRecDepth 100000 in
set_option maxHeartbeats 4000000 in
theorem cX_addNode {l : Launch} {E : EE} {a : Nat → Nat} {ids : Nat → Int32} {par : Nat → Option Nat} {rows : Nat → Nat → Int32} {pr n rd : Nat} (x : Int32) (hI : inj 22 a)(hn : n ≤ 24)(hpr : pr < 18) : WR l E (XP E a ids par rows pr pr n rd) (AX a) yX0_addNode cX0_addNode 3 (some .int) 1 22 [.ref (a 0), .int (x)] (some (.int (anRes n ids x))) (XP E a (if okAN n ids x = true then va_up ids n x else ids) (if okAN n ids x = true then va_up par n none else par) (if okAN n ids x = true then setR rows pr n x else rows) pr pr (if okAN n ids x = true then n + 1 else n) (if okAN n ids x = true then 0 else rd)) := by
  refine WR.mkI (C := RX0) rfl rfl (by decide) rfl (Nat.le_of_ble_eq_true rfl) ?_
  intro p e s m args below meth c H0 Q hC hK hP hret ls hl
  obtain ⟨hx, hb, hml, hown, hts⟩ := id hC
  have hl : lv_has ls 3 [(0, .ref (a 0)), (1, .int (x))] := hl
  have hS : va_S (AX a) H0 H0 [] := va_S.rf
  have hP : XP E a ids par rows pr pr n rd H0 := hP
  have hcu : pr < 18 := hpr
  refine lv_iload_n hx hb dX0_addNode_0 rfl (lv_at hl 1 rfl) ?_
  refine roS (As := [.int (x)]) hC kX0_34 (cX_isValue ((x)) ) hK (P := fun _ => True) trivial rfl rfl hl ⟨Nat.le_of_ble_eq_true rfl, Nat.le_of_ble_eq_true rfl⟩ (Nat.le_of_ble_eq_true rfl) dX0_addNode_1 ⟨Nat.le_of_ble_eq_true rfl, Nat.le_of_ble_eq_true rfl⟩ ?_
  refine bv_ne (tgt := 10) hx hb dX0_addNode_4 (by decide) (fun c_4 => ?_) (fun c_4 => ?_)
  · refine lv_aload_n hx hb dX0_addNode_10 rfl (lv_at hl 0 rfl) ?_
    refine lv_iload_n hx hb dX0_addNode_11 rfl (lv_at hl 1 rfl) ?_
    refine roV (As := [.int (x)]) hC kX0_38 (cX_taken ((x)) hn) hK hP (x_rec hK hP) rfl rfl hl ⟨Nat.le_of_ble_eq_true rfl, Nat.le_of_ble_eq_true rfl⟩ (Nat.le_of_ble_eq_true rfl) dX0_addNode_12 ⟨Nat.le_of_ble_eq_true rfl, Nat.le_of_ble_eq_true rfl⟩ ?_
    refine bv_eq (tgt := 21) hx hb dX0_addNode_15 (by decide) (fun c_15 => ?_) (fun c_15 => ?_)
    · refine lv_aload_n hx hb dX0_addNode_21 rfl (lv_at hl 0 rfl) ?_
      refine x_g5 hC hK hP dX0_addNode_22 ?_
      refine lv_bipush (v := (nI (24))) hx hb dX0_addNode_25 (by decide) ?_
      refine nv_lt (tgt := 33) hx hb (by omega) (by omega) dX0_addNode_27 (by decide) (fun c_27 => ?_) (fun c_27 => ?_)
      · refine lv_aload_n hx hb dX0_addNode_33 rfl (lv_at hl 0 rfl) ?_
        refine x_g5 hC hK hP dX0_addNode_34 ?_
        refine lv_istore_n (lv' := [(2, .int (nI (n))), (0, .ref (a 0)), (1, .int (x))]) hx hb dX0_addNode_37 rfl hl (by decide) rfl (fun ls hl => ?_)
        refine lv_aload_n hx hb dX0_addNode_38 rfl (lv_at hl 1 rfl) ?_
        refine lv_dup hx hb dX0_addNode_39 rfl ?_
        refine x_g5 hC hK hP dX0_addNode_40 ?_
        refine lv_iconst (v := (1)) hx hb dX0_addNode_43 (by decide) ?_
        refine lv_iadd hx hb dX0_addNode_44 ?_
        refine tI (nI (n + 1)) (nI_1 _) ?_
        refine x_p5 hC hK hI hP hS dX0_addNode_45 (fun H locs hP hS => ?_)
        refine lv_aload_n hx hb dX0_addNode_48 rfl (lv_at hl 1 rfl) ?_
        refine x_g0 hC hK hP dX0_addNode_49 ?_
        refine lv_iload_n hx hb dX0_addNode_52 rfl (lv_at hl 0 rfl) ?_
        refine lv_iload_n hx hb dX0_addNode_53 rfl (lv_at hl 2 rfl) ?_
        refine x_stI (x := (x)) hx hb hK hI hP hS (by omega) dX0_addNode_54 (fun H locs hP hS => ?_)
        refine lv_aload_n hx hb dX0_addNode_55 rfl (lv_at hl 1 rfl) ?_
        refine x_g1 hC hK hP dX0_addNode_56 ?_
        refine lv_iload_n hx hb dX0_addNode_59 rfl (lv_at hl 0 rfl) ?_
        refine lv_bipush (v := (pe (none))) hx hb dX0_addNode_60 (by decide) ?_
        refine x_stP (x := none) hx hb hK hI hP hS (by omega) dX0_addNode_62 (fun H locs hP hS => ?_)
        refine lv_aload_n hx hb dX0_addNode_63 rfl (lv_at hl 1 rfl) ?_
        refine x_g3 hC hK hP dX0_addNode_64 ?_
        refine lv_iload_n hx hb dX0_addNode_67 rfl (lv_at hl 0 rfl) ?_
        refine lv_iload_n hx hb dX0_addNode_68 rfl (lv_at hl 2 rfl) ?_
        refine x_stC (x := (x)) (by omega) hx hb hK hI hP hS (by omega) dX0_addNode_69 (fun H locs hP hS => ?_)
        refine lv_aload_n hx hb dX0_addNode_70 rfl (lv_at hl 1 rfl) ?_
        refine wrV (As := []) hC kX0_41 (cX_start  hI) hK hP (x_rec hK hP) hS (fun _ h => h) rfl rfl hl ⟨Nat.le_of_ble_eq_true rfl, Nat.le_of_ble_eq_true rfl⟩ (Nat.le_of_ble_eq_true rfl) dX0_addNode_71 ⟨Nat.le_of_ble_eq_true rfl, Nat.le_of_ble_eq_true rfl⟩ (fun H locs hP hS _ _ => ?_)
        refine lv_iload_n hx hb dX0_addNode_74 rfl (lv_at hl 0 rfl) ?_
        exact hret _ _ _ _ _ (by rw [show okAN n ids x = true by simp [okAN, c_4, c_15, c_27]]; exact hP) hS dX0_addNode_75 (by simp [anRes, c_4, c_15, c_27])
      · refine lv_bipush (v := (-4)) hx hb dX0_addNode_30 (by decide) ?_
        exact hret _ _ _ _ _ (by rw [show okAN n ids x = false by simp [okAN, show ¬ n < 24 by omega]]; exact hP) hS dX0_addNode_32 (by simp [anRes, c_4, c_15, show ¬ n < 24 by omega])
    · refine lv_bipush (v := (-3)) hx hb dX0_addNode_18 (by decide) ?_
      exact hret _ _ _ _ _ (by rw [show okAN n ids x = false by simp [okAN, c_15]]; exact hP) hS dX0_addNode_20 (by simp [anRes, c_4, c_15])
  · refine lv_bipush (v := (-2)) hx hb dX0_addNode_7 (by decide) ?_
    exact hret _ _ _ _ _ (by rw [show okAN n ids x = false by simp [okAN, c_4]]; exact hP) hS dX0_addNode_9 (by simp [anRes, c_4])
set_option maxRecDepth 100000 in
set_option maxHeartbeats 4000000 in
theorem cX_setColour {l : Launch} {E : EE} {a : Nat → Nat} {ids : Nat → Int32} {par : Nat → Option Nat} {rows : Nat → Nat → Int32} {pr n rd : Nat} (x y : Int32) (hI : inj 22 a)(hn : n ≤ 24)(hpr : pr < 18) : WR l E (XP E a ids par rows pr pr n rd) (AX a) yX0_setColour cX0_setColour 4 (some .int) 1 21 [.ref (a 0), .int (x), .int (y)] (some (.int (oN (vN n x) (fun v => if vV y = true then rows pr v else -2)))) (XP E a ids par (oU (okSC n x y) (fun v => setR rows pr v y) rows) pr pr n (oU (okSC n x y) (fun _ => 0) rd)) := by
  refine WR.mkI (C := RX0) rfl rfl (by decide) rfl (Nat.le_of_ble_eq_true rfl) ?_
  intro p e s m args below meth c H0 Q hC hK hP hret ls hl
  obtain ⟨hx, hb, hml, hown, hts⟩ := id hC
  have hl : lv_has ls 4 [(0, .ref (a 0)), (1, .int (x)), (2, .int (y))] := hl
  have hS : va_S (AX a) H0 H0 [] := va_S.rf
  have hP : XP E a ids par rows pr pr n rd H0 := hP
  have hcu : pr < 18 := hpr
  refine lv_aload_n hx hb dX0_setColour_0 rfl (lv_at hl 0 rfl) ?_
  refine lv_iload_n hx hb dX0_setColour_1 rfl (lv_at hl 1 rfl) ?_
  refine roV (As := [.int (x)]) hC kX0_44 (cX_isNode ((x)) ) hK hP (x_rec hK hP) rfl rfl hl ⟨Nat.le_of_ble_eq_true rfl, Nat.le_of_ble_eq_true rfl⟩ (Nat.le_of_ble_eq_true rfl) dX0_setColour_2 ⟨Nat.le_of_ble_eq_true rfl, Nat.le_of_ble_eq_true rfl⟩ ?_
  refine bv_ne (tgt := 10) hx hb dX0_setColour_5 (by decide) (fun c_5 => ?_) (fun c_5 => ?_)
  · obtain ⟨v, hv, rfl⟩ := vN_t hn c_5
    refine lv_iload_n hx hb dX0_setColour_10 rfl (lv_at hl 2 rfl) ?_
    refine roS (As := [.int (y)]) hC kX0_34 (cX_isValue ((y)) ) hK (P := fun _ => True) trivial rfl rfl hl ⟨Nat.le_of_ble_eq_true rfl, Nat.le_of_ble_eq_true rfl⟩ (Nat.le_of_ble_eq_true rfl) dX0_setColour_11 ⟨Nat.le_of_ble_eq_true rfl, Nat.le_of_ble_eq_true rfl⟩ ?_
    refine bv_ne (tgt := 20) hx hb dX0_setColour_14 (by decide) (fun c_14 => ?_) (fun c_14 => ?_)
    · refine lv_aload_n hx hb dX0_setColour_20 rfl (lv_at hl 0 rfl) ?_
      refine x_g3 hC hK hP dX0_setColour_21 ?_
      refine lv_iload_n hx hb dX0_setColour_24 rfl (lv_at hl 1 rfl) ?_
      refine x_ldC (by omega) hx hb hK hP (by omega) dX0_setColour_25 ?_
      refine lv_istore_n (lv' := [(3, .int (rows pr v)), (0, .ref (a 0)), (1, .int (nI (v))), (2, .int (y))]) hx hb dX0_setColour_26 rfl hl (by decide) rfl (fun ls hl => ?_)
      refine lv_aload_n hx hb dX0_setColour_27 rfl (lv_at hl 1 rfl) ?_
      refine x_g3 hC hK hP dX0_setColour_28 ?_
      refine lv_iload_n hx hb dX0_setColour_31 rfl (lv_at hl 2 rfl) ?_
      refine lv_iload_n hx hb dX0_setColour_32 rfl (lv_at hl 3 rfl) ?_
      refine x_stC (x := (y)) (by omega) hx hb hK hI hP hS (by omega) dX0_setColour_33 (fun H locs hP hS => ?_)
      refine lv_aload_n hx hb dX0_setColour_34 rfl (lv_at hl 1 rfl) ?_
      refine wrV (As := []) hC kX0_41 (cX_start  hI) hK hP (x_rec hK hP) hS (fun _ h => h) rfl rfl hl ⟨Nat.le_of_ble_eq_true rfl, Nat.le_of_ble_eq_true rfl⟩ (Nat.le_of_ble_eq_true rfl) dX0_setColour_35 ⟨Nat.le_of_ble_eq_true rfl, Nat.le_of_ble_eq_true rfl⟩ (fun H locs hP hS _ _ => ?_)
      refine lv_iload_n hx hb dX0_setColour_38 rfl (lv_at hl 0 rfl) ?_
      exact hret _ _ _ _ _ (by rw [oU_some (show okSC n (nI v) y = some v by unfold okSC; rw [if_pos c_14, vN_nI hn hv]), oU_some (show okSC n (nI v) y = some v by unfold okSC; rw [if_pos c_14, vN_nI hn hv])]; exact hP) hS dX0_setColour_39 (by rw [oN_in hn hv, if_pos c_14])
    · refine lv_bipush (v := (-2)) hx hb dX0_setColour_17 (by decide) ?_
      exact hret _ _ _ _ _ (by rw [oU_none (by unfold okSC; rw [c_14]; rfl), oU_none (by unfold okSC; rw [c_14]; rfl)]; exact hP) hS dX0_setColour_19 (by rw [oN_in hn hv, c_14]; rfl)
  · refine lv_iconst (v := (-1)) hx hb dX0_setColour_8 (by decide) ?_
    exact hret _ _ _ _ _ (by rw [oU_none (by unfold okSC; rw [vN_f c_5]; simp), oU_none (by unfold okSC; rw [vN_f c_5]; simp)]; exact hP) hS dX0_setColour_9 ((oN_out c_5 _).symm)
set_option maxRecDepth 100000 in
set_option maxHeartbeats 4000000 in
theorem cX_reset {l : Launch} {E : EE} {a : Nat → Nat} {ids : Nat → Int32} {par : Nat → Option Nat} {rows : Nat → Nat → Int32} {pr n rd : Nat}  (hI : inj 22 a)(hn : n ≤ 24)(hpr : pr < 18) : WR l E (XP E a ids par rows pr pr n rd) (AX a) yX0_resetColours cX0_resetColours 3 (some .int) 1 20 [.ref (a 0)] (some (.int (nI (fb_ct (fun j => !decide (rows pr j = ids j)) n)))) (XP E a ids par (rsR rows pr ids n) pr pr n 0) := by
  refine WR.mkI (C := RX0) rfl rfl (by decide) rfl (Nat.le_of_ble_eq_true rfl) ?_
  intro p e s m args below meth c H0 Q hC hK hP hret ls hl
  obtain ⟨hx, hb, hml, hown, hts⟩ := id hC
  have hl : lv_has ls 3 [(0, .ref (a 0))] := hl
  have hS : va_S (AX a) H0 H0 [] := va_S.rf
  have hP : XP E a ids par rows pr pr n rd H0 := hP
  have hcu : pr < 18 := hpr
  refine lv_iconst (v := (nI (0))) hx hb dX0_resetColours_0 (by decide) ?_
  refine lv_istore_n (lv' := [(1, .int (nI (0))), (0, .ref (a 0))]) hx hb dX0_resetColours_1 rfl hl (by decide) rfl (fun ls hl => ?_)
  refine lv_iconst (v := (nI (0))) hx hb dX0_resetColours_2 (by decide) ?_
  refine lv_istore_n (lv' := [(2, .int (nI (0))), (1, .int (nI (0))), (0, .ref (a 0))]) hx hb dX0_resetColours_3 rfl hl (by decide) rfl (fun ls hl => ?_)
  have loop_4 : ∀ (fuel : Nat) (k : Nat), (k ≤ n) → n - k < fuel → ∀ (H : Heap) (locs : List Loc), XP E a ids par (rsR rows pr ids k) pr pr n rd H → va_S (AX a) H0 H locs → ∀ (ls : Array Slot), lv_has ls 3 [(0, .ref (a 0)), (1, .int (nI (fb_ct (fun j => !decide (rows pr j = ids j)) k))), (2, .int (nI (k)))] → W p l e (k2_rm 1 20) s m args below meth c H locs 0 0 Q (F0 m 4 ls []) := by
    intro fuel
    induction fuel with
    | zero => intro k hk hm; exact absurd hm (Nat.not_lt_zero _)
    | succ fuel ih_4 =>
      intro k hk hm H locs hP hS ls hl
      refine lv_iload_n hx hb dX0_resetColours_4 rfl (lv_at hl 2 rfl) ?_
      refine lv_aload_n hx hb dX0_resetColours_5 rfl (lv_at hl 0 rfl) ?_
      refine x_g5 hC hK hP dX0_resetColours_6 ?_
      refine nv_ge (tgt := 48) hx hb (by omega) (by omega) dX0_resetColours_9 (by decide) (fun c_9 => ?_) (fun c_9 => ?_)
      · have hkn : k = n := by omega
        rw [hkn] at hP
        refine lv_aload_n hx hb dX0_resetColours_48 rfl (lv_at hl 0 rfl) ?_
        refine wrV (As := []) hC kX0_41 (cX_start  hI) hK hP (x_rec hK hP) hS (fun _ h => h) rfl rfl hl ⟨Nat.le_of_ble_eq_true rfl, Nat.le_of_ble_eq_true rfl⟩ (Nat.le_of_ble_eq_true rfl) dX0_resetColours_49 ⟨Nat.le_of_ble_eq_true rfl, Nat.le_of_ble_eq_true rfl⟩ (fun H locs hP hS _ _ => ?_)
        refine lv_iload_n hx hb dX0_resetColours_52 rfl (lv_at hl 1 rfl) ?_
        exact hret _ _ _ _ _ (hP) hS dX0_resetColours_53 (by rw [hkn])
      · refine lv_aload_n hx hb dX0_resetColours_12 rfl (lv_at hl 0 rfl) ?_
        refine x_g3 hC hK hP dX0_resetColours_13 ?_
        refine lv_iload_n hx hb dX0_resetColours_16 rfl (lv_at hl 2 rfl) ?_
        refine x_ldC (by omega) hx hb hK hP (by omega) dX0_resetColours_17 ?_
        refine tI ((rows pr k)) (rsR_at _ _ _ _) ?_
        refine lv_aload_n hx hb dX0_resetColours_18 rfl (lv_at hl 0 rfl) ?_
        refine x_g0 hC hK hP dX0_resetColours_19 ?_
        refine lv_iload_n hx hb dX0_resetColours_22 rfl (lv_at hl 2 rfl) ?_
        refine x_ldI hx hb hK hP (by omega) dX0_resetColours_23 ?_
        refine lv_icmp_eq (tgt := 42) hx hb dX0_resetColours_24 (by decide) (fun c_24 => ?_) (fun c_24 => ?_)
        · rw [← fb_ct_f (p := fun j => !decide (rows pr j = ids j)) (by simp [c_24])] at hl
          refine lv_iinc (v := (nI (k + 1))) (lv' := [(2, .int (nI (k + 1))), (0, .ref (a 0)), (1, .int (nI (fb_ct (fun j => !decide (rows pr j = ids j)) (k + 1))))]) hx hb dX0_resetColours_42 hl (k := 2) rfl (nI_inc _) (by decide) rfl (fun ls hl => ?_)
          refine lv_goto (tgt := 4) hx hb dX0_resetColours_45 (by decide) ?_
          exact ih_4 (k + 1) (by omega) (by omega) _ _ (by rw [rsR_e c_24]; exact hP) hS ls (lv_sub hl [1, 2, 0] rfl)
        · refine lv_aload_n hx hb dX0_resetColours_27 rfl (lv_at hl 0 rfl) ?_
          refine x_g3 hC hK hP dX0_resetColours_28 ?_
          refine lv_iload_n hx hb dX0_resetColours_31 rfl (lv_at hl 2 rfl) ?_
          refine lv_aload_n hx hb dX0_resetColours_32 rfl (lv_at hl 0 rfl) ?_
          refine x_g0 hC hK hP dX0_resetColours_33 ?_
          refine lv_iload_n hx hb dX0_resetColours_36 rfl (lv_at hl 2 rfl) ?_
          refine x_ldI hx hb hK hP (by omega) dX0_resetColours_37 ?_
          refine x_stC (x := (ids k)) (by omega) hx hb hK hI hP hS (by omega) dX0_resetColours_38 (fun H locs hP hS => ?_)
          have hP : XP E a ids par (rsR rows pr ids (k + 1)) pr pr n rd H := by rw [rsR_s] at hP; exact hP
          refine lv_iinc (v := (nI (fb_ct (fun j => !decide (rows pr j = ids j)) (k + 1)))) (lv' := [(1, .int (nI (fb_ct (fun j => !decide (rows pr j = ids j)) (k + 1)))), (0, .ref (a 0)), (2, .int (nI (k)))]) hx hb dX0_resetColours_39 hl (k := 1) rfl (by rw [fb_ct_t (by simp [c_24])]; exact nI_inc _) (by decide) rfl (fun ls hl => ?_)
          refine lv_iinc (v := (nI (k + 1))) (lv' := [(2, .int (nI (k + 1))), (1, .int (nI (fb_ct (fun j => !decide (rows pr j = ids j)) (k + 1)))), (0, .ref (a 0))]) hx hb dX0_resetColours_42 hl (k := 2) rfl (nI_inc _) (by decide) rfl (fun ls hl => ?_)
          refine lv_goto (tgt := 4) hx hb dX0_resetColours_45 (by decide) ?_
          exact ih_4 (k + 1) (by omega) (by omega) _ _ (hP) hS ls (lv_sub hl [2, 1, 0] rfl)
  exact loop_4 (n - 0 + 1) 0 (Nat.zero_le _) (Nat.lt_succ_self _) _ _ (by rw [rsR_0]; exact hP) hS ls (lv_sub hl [2, 1, 0] rfl)
set_option maxRecDepth 100000 in
set_option maxHeartbeats 4000000 in
theorem cX_recolour {l : Launch} {E : EE} {a : Nat → Nat} {ids : Nat → Int32} {par : Nat → Option Nat} {rows : Nat → Nat → Int32} {pr n rd : Nat} (x : Int32) (hI : inj 22 a)(hn : n ≤ 24)(hpr : pr < 18)(hp : PW n par) : WR l E (XP E a ids par rows pr pr n rd) (AX a) yX0_recolour cX0_recolour 2 (some .int) 3 68 [.ref (a 0), .int (x)] (some (.int (oN (vN n x) (fun v => pe (freF par (rows pr) n v n))))) (XP E a ids par (oU (vN n x) (fun v => setR rows pr v (pe (freF par (rows pr) n v n))) rows) pr pr n (oU (vN n x) (fun _ => 0) rd)) := by
  refine WR.mkI (C := RX0) rfl rfl (by decide) rfl (Nat.le_of_ble_eq_true rfl) ?_
  intro p e s m args below meth c H0 Q hC hK hP hret ls hl
  obtain ⟨hx, hb, hml, hown, hts⟩ := id hC
  have hl : lv_has ls 2 [(0, .ref (a 0)), (1, .int (x))] := hl
  have hS : va_S (AX a) H0 H0 [] := va_S.rf
  have hP : XP E a ids par rows pr pr n rd H0 := hP
  have hcu : pr < 18 := hpr
  refine lv_aload_n hx hb dX0_recolour_0 rfl (lv_at hl 0 rfl) ?_
  refine lv_iload_n hx hb dX0_recolour_1 rfl (lv_at hl 1 rfl) ?_
  refine roV (As := [.int (x)]) hC kX0_44 (cX_isNode ((x)) ) hK hP (x_rec hK hP) rfl rfl hl ⟨Nat.le_of_ble_eq_true rfl, Nat.le_of_ble_eq_true rfl⟩ (Nat.le_of_ble_eq_true rfl) dX0_recolour_2 ⟨Nat.le_of_ble_eq_true rfl, Nat.le_of_ble_eq_true rfl⟩ ?_
  refine bv_ne (tgt := 10) hx hb dX0_recolour_5 (by decide) (fun c_5 => ?_) (fun c_5 => ?_)
  · obtain ⟨v, hv, rfl⟩ := vN_t hn c_5
    refine lv_aload_n hx hb dX0_recolour_10 rfl (lv_at hl 0 rfl) ?_
    refine x_g3 hC hK hP dX0_recolour_11 ?_
    refine lv_iload_n hx hb dX0_recolour_14 rfl (lv_at hl 1 rfl) ?_
    refine lv_aload_n hx hb dX0_recolour_15 rfl (lv_at hl 0 rfl) ?_
    refine lv_iload_n hx hb dX0_recolour_16 rfl (lv_at hl 1 rfl) ?_
    refine lv_aload_n hx hb dX0_recolour_17 rfl (lv_at hl 0 rfl) ?_
    refine x_g5 hC hK hP dX0_recolour_18 ?_
    refine roV (As := [.int (nI (v)), .int (nI (n))]) hC kX0_70 (cX_lowest v n hn hpr hp hv hn) hK hP (x_rec hK hP) rfl rfl hl ⟨Nat.le_of_ble_eq_true rfl, Nat.le_of_ble_eq_true rfl⟩ (Nat.le_of_ble_eq_true rfl) dX0_recolour_21 ⟨Nat.le_of_ble_eq_true rfl, Nat.le_of_ble_eq_true rfl⟩ ?_
    refine x_stC (x := (pe (freF par (rows pr) n v n))) (by omega) hx hb hK hI hP hS (by omega) dX0_recolour_24 (fun H locs hP hS => ?_)
    refine lv_aload_n hx hb dX0_recolour_25 rfl (lv_at hl 0 rfl) ?_
    refine wrV (As := []) hC kX0_41 (cX_start  hI) hK hP (x_rec hK hP) hS (fun _ h => h) rfl rfl hl ⟨Nat.le_of_ble_eq_true rfl, Nat.le_of_ble_eq_true rfl⟩ (Nat.le_of_ble_eq_true rfl) dX0_recolour_26 ⟨Nat.le_of_ble_eq_true rfl, Nat.le_of_ble_eq_true rfl⟩ (fun H locs hP hS _ _ => ?_)
    refine lv_aload_n hx hb dX0_recolour_29 rfl (lv_at hl 0 rfl) ?_
    refine x_g3 hC hK hP dX0_recolour_30 ?_
    refine lv_iload_n hx hb dX0_recolour_33 rfl (lv_at hl 1 rfl) ?_
    refine x_ldC (by omega) hx hb hK hP (by omega) dX0_recolour_34 ?_
    refine tI ((pe (freF par (rows pr) n v n))) (by rw [va_up_self, va_up_self]) ?_
    exact hret _ _ _ _ _ (by rw [oU_some (vN_nI hn hv), oU_some (vN_nI hn hv)]; exact hP) hS dX0_recolour_35 (by rw [oN_in hn hv])
  · refine lv_iconst (v := (-1)) hx hb dX0_recolour_8 (by decide) ?_
    exact hret _ _ _ _ _ (by rw [oU_none (vN_f c_5), oU_none (vN_f c_5)]; exact hP) hS dX0_recolour_9 ((oN_out c_5 _).symm)
set_option maxRecDepth 100000 in
set_option maxHeartbeats 4000000 in
theorem cX_endRound {l : Launch} {E : EE} {a : Nat → Nat} {ids : Nat → Int32} {par : Nat → Option Nat} {rows : Nat → Nat → Int32} {cu pr n rd : Nat}  (hI : inj 22 a)(hpr : pr < 18) : WR l E (XP E a ids par rows cu pr n rd) (AX a) yX0_endRound cX0_endRound 1 none 1 20 [.ref (a 0)] none (XP E a ids par rows (nxR pr) (nxR pr) n (rd + 1)) := by
  refine WR.mkV (C := RX0) rfl (by decide) rfl (Nat.le_of_ble_eq_true rfl) ?_
  intro p e s m args below meth c H0 Q hC hK hP hret ls hl
  obtain ⟨hx, hb, hml, hown, hts⟩ := id hC
  have hl : lv_has ls 1 [(0, .ref (a 0))] := hl
  have hS : va_S (AX a) H0 H0 [] := va_S.rf
  have hP : XP E a ids par rows cu pr n rd H0 := hP
  refine lv_aload_n hx hb dX0_endRound_0 rfl (lv_at hl 0 rfl) ?_
  refine lv_aload_n hx hb dX0_endRound_1 rfl (lv_at hl 0 rfl) ?_
  refine roV (As := []) hC kX0_126 (cX_rowAfter  hpr) hK hP (x_rec hK hP) rfl rfl hl ⟨Nat.le_of_ble_eq_true rfl, Nat.le_of_ble_eq_true rfl⟩ (Nat.le_of_ble_eq_true rfl) dX0_endRound_2 ⟨Nat.le_of_ble_eq_true rfl, Nat.le_of_ble_eq_true rfl⟩ ?_
  refine x_p4 hC hK hI hP hS dX0_endRound_5 (fun H locs hP hS => ?_)
  refine lv_aload_n hx hb dX0_endRound_8 rfl (lv_at hl 0 rfl) ?_
  refine lv_aload_n hx hb dX0_endRound_9 rfl (lv_at hl 0 rfl) ?_
  refine x_g2 hC hK hP dX0_endRound_10 ?_
  refine lv_aload_n hx hb dX0_endRound_13 rfl (lv_at hl 0 rfl) ?_
  refine x_g4 hC hK hP dX0_endRound_14 ?_
  refine x_ldR hx hb hK hP (nxR_lt hpr) dX0_endRound_17 ?_
  refine x_p3 hC hK hI hP hS dX0_endRound_18 (fun H locs hP hS => ?_)
  refine lv_aload_n hx hb dX0_endRound_21 rfl (lv_at hl 0 rfl) ?_
  refine lv_dup hx hb dX0_endRound_22 rfl ?_
  refine x_g6 hC hK hP dX0_endRound_23 ?_
  refine lv_iconst (v := (1)) hx hb dX0_endRound_26 (by decide) ?_
  refine lv_iadd hx hb dX0_endRound_27 ?_
  refine tI (nI (rd + 1)) (nI_1 _) ?_
  refine x_p6 hC hK hI hP hS dX0_endRound_28 (fun H locs hP hS => ?_)
  exact hret _ _ _ _ (hP) hS dX0_endRound_31
set_option maxRecDepth 100000 in
set_option maxHeartbeats 4000000 in
theorem cX_doRed {l : Launch} {E : EE} {a : Nat → Nat} {ids : Nat → Int32} {par : Nat → Option Nat} {rows : Nat → Nat → Int32} {pr n rd : Nat}  (hI : inj 22 a)(hn : n ≤ 24)(hpr : pr < 18)(hp : PW n par) : WR l E (XP E a ids par rows pr pr n rd) (AX a) yX0_doReduction cX0_doReduction 4 none 3 63 [.ref (a 0)] none (XP E a ids par ((redS par n (rows, pr, rd)).1) ((redS par n (rows, pr, rd)).2.1) ((redS par n (rows, pr, rd)).2.1) n ((redS par n (rows, pr, rd)).2.2)) := by
  refine WR.mkV (C := RX0) rfl (by decide) rfl (Nat.le_of_ble_eq_true rfl) ?_
  intro p e s m args below meth c H0 Q hC hK hP hret ls hl
  obtain ⟨hx, hb, hml, hown, hts⟩ := id hC
  have hl : lv_has ls 4 [(0, .ref (a 0))] := hl
  have hS : va_S (AX a) H0 H0 [] := va_S.rf
  have hP : XP E a ids par rows pr pr n rd H0 := hP
  have hcu : pr < 18 := hpr
  refine lv_aload_n hx hb dX0_doReduction_0 rfl (lv_at hl 0 rfl) ?_
  refine x_g2 hC hK hP dX0_doReduction_1 ?_
  refine lv_aload_n hx hb dX0_doReduction_4 rfl (lv_at hl 0 rfl) ?_
  refine roV (As := []) hC kX0_126 (cX_rowAfter  hpr) hK hP (x_rec hK hP) rfl rfl hl ⟨Nat.le_of_ble_eq_true rfl, Nat.le_of_ble_eq_true rfl⟩ (Nat.le_of_ble_eq_true rfl) dX0_doReduction_5 ⟨Nat.le_of_ble_eq_true rfl, Nat.le_of_ble_eq_true rfl⟩ ?_
  refine x_ldR hx hb hK hP (nxR_lt hpr) dX0_doReduction_8 ?_
  refine lv_astore_n (lv' := [(1, .ref (a (4 + (nxR pr)))), (0, .ref (a 0))]) hx hb dX0_doReduction_9 rfl hl (by decide) rfl (fun ls hl => ?_)
  refine lv_iconst (v := (nI (0))) hx hb dX0_doReduction_10 (by decide) ?_
  refine lv_istore_n (lv' := [(2, .int (nI (0))), (1, .ref (a (4 + (nxR pr)))), (0, .ref (a 0))]) hx hb dX0_doReduction_11 rfl hl (by decide) rfl (fun ls hl => ?_)
  have loop_12 : ∀ (fuel : Nat) (k : Nat), (k ≤ n) → n - k < fuel → ∀ (H : Heap) (locs : List Loc), XP E a ids par (fR rows pr (redC par (rows pr)) k) pr pr n rd H → va_S (AX a) H0 H locs → ∀ (ls : Array Slot), lv_has ls 4 [(0, .ref (a 0)), (1, .ref (a (4 + (nxR pr)))), (2, .int (nI (k)))] → W p l e (k2_rm 3 63) s m args below meth c H locs 0 0 Q (F0 m 12 ls []) := by
    intro fuel
    induction fuel with
    | zero => intro k hk hm; exact absurd hm (Nat.not_lt_zero _)
    | succ fuel ih_12 =>
      intro k hk hm H locs hP hS ls hl
      refine lv_iload_n hx hb dX0_doReduction_12 rfl (lv_at hl 2 rfl) ?_
      refine lv_aload_n hx hb dX0_doReduction_13 rfl (lv_at hl 0 rfl) ?_
      refine x_g5 hC hK hP dX0_doReduction_14 ?_
      refine nv_ge (tgt := 49) hx hb (by omega) (by omega) dX0_doReduction_17 (by decide) (fun c_17 => ?_) (fun c_17 => ?_)
      · have hkn : k = n := by omega
        rw [hkn] at hP
        refine lv_aload_n hx hb dX0_doReduction_49 rfl (lv_at hl 0 rfl) ?_
        refine wrV (As := []) hC kX0_129 (cX_endRound  hI hpr) hK hP (x_rec hK hP) hS (fun _ h => h) rfl rfl hl ⟨Nat.le_of_ble_eq_true rfl, Nat.le_of_ble_eq_true rfl⟩ (Nat.le_of_ble_eq_true rfl) dX0_doReduction_50 ⟨Nat.le_of_ble_eq_true rfl, Nat.le_of_ble_eq_true rfl⟩ (fun H locs hP hS _ _ => ?_)
        exact hret _ _ _ _ (hP) hS dX0_doReduction_53
      · refine lv_aload_n hx hb dX0_doReduction_20 rfl (lv_at hl 0 rfl) ?_
        refine lv_iload_n hx hb dX0_doReduction_21 rfl (lv_at hl 2 rfl) ?_
        refine roV (As := [.int (nI (k))]) hC kX0_84 (cX_rbit k hn hcu hp (by omega)) hK hP (x_rec hK hP) rfl rfl hl ⟨Nat.le_of_ble_eq_true rfl, Nat.le_of_ble_eq_true rfl⟩ (Nat.le_of_ble_eq_true rfl) dX0_doReduction_22 ⟨Nat.le_of_ble_eq_true rfl, Nat.le_of_ble_eq_true rfl⟩ ?_
        refine tI ((rbit par (rows pr) k)) (by rw [fR_pr hpr]) ?_
        refine lv_istore_n (lv' := [(3, .int (rbit par (rows pr) k)), (0, .ref (a 0)), (1, .ref (a (4 + (nxR pr)))), (2, .int (nI (k)))]) hx hb dX0_doReduction_25 rfl hl (by decide) rfl (fun ls hl => ?_)
        refine lv_aload_n hx hb dX0_doReduction_26 rfl (lv_at hl 2 rfl) ?_
        refine lv_iload_n hx hb dX0_doReduction_27 rfl (lv_at hl 3 rfl) ?_
        refine lv_iconst (v := (2)) hx hb dX0_doReduction_28 (by decide) ?_
        refine lv_iload_n hx hb dX0_doReduction_29 rfl (lv_at hl 0 rfl) ?_
        refine lv_imul hx hb dX0_doReduction_30 ?_
        refine lv_aload_n hx hb dX0_doReduction_31 rfl (lv_at hl 1 rfl) ?_
        refine x_g3 hC hK hP dX0_doReduction_32 ?_
        refine lv_iload_n hx hb dX0_doReduction_35 rfl (lv_at hl 3 rfl) ?_
        refine x_ldC (by omega) hx hb hK hP (by omega) dX0_doReduction_36 ?_
        refine tI ((rows pr k)) (by rw [fR_pr hpr]) ?_
        refine lv_iload_n hx hb dX0_doReduction_37 rfl (lv_at hl 0 rfl) ?_
        refine lv_ishr hx hb dX0_doReduction_38 ?_
        refine lv_iconst (v := (1)) hx hb dX0_doReduction_39 (by decide) ?_
        refine lv_iand hx hb dX0_doReduction_40 ?_
        refine lv_iadd hx hb dX0_doReduction_41 ?_
        refine tI ((redC par (rows pr) k)) (rfl) ?_
        refine x_stC (x := (redC par (rows pr) k)) (nxR_lt hpr) hx hb hK hI hP hS (by omega) dX0_doReduction_42 (fun H locs hP hS => ?_)
        refine lv_iinc (v := (nI (k + 1))) (lv' := [(2, .int (nI (k + 1))), (3, .int (rbit par (rows pr) k)), (0, .ref (a 0)), (1, .ref (a (4 + (nxR pr))))]) hx hb dX0_doReduction_43 hl (k := 3) rfl (nI_inc _) (by decide) rfl (fun ls hl => ?_)
        refine lv_goto (tgt := 12) hx hb dX0_doReduction_46 (by decide) ?_
        exact ih_12 (k + 1) (by omega) (by omega) _ _ (by rw [fR_s] at hP; exact hP) hS ls (lv_sub hl [2, 3, 0] rfl)
  exact loop_12 (n - 0 + 1) 0 (Nat.zero_le _) (Nat.lt_succ_self _) _ _ (by rw [fR_0]; exact hP) hS ls (lv_sub hl [2, 1, 0] rfl)
set_option maxRecDepth 100000 in
set_option maxHeartbeats 4000000 in
theorem cX_doShift {l : Launch} {E : EE} {a : Nat → Nat} {ids : Nat → Int32} {par : Nat → Option Nat} {rows : Nat → Nat → Int32} {pr n rd : Nat}  (hI : inj 22 a)(hn : n ≤ 24)(hpr : pr < 18)(hp : PW n par) : WR l E (XP E a ids par rows pr pr n rd) (AX a) yX0_doShift cX0_doShift 4 (some .int) 3 63 [.ref (a 0)] (some (.int (nI (shCnt par (rows pr) n)))) (XP E a ids par ((shS par n (rows, pr, rd)).1) ((shS par n (rows, pr, rd)).2.1) ((shS par n (rows, pr, rd)).2.1) n ((shS par n (rows, pr, rd)).2.2)) := by
  refine WR.mkI (C := RX0) rfl rfl (by decide) rfl (Nat.le_of_ble_eq_true rfl) ?_
  intro p e s m args below meth c H0 Q hC hK hP hret ls hl
  obtain ⟨hx, hb, hml, hown, hts⟩ := id hC
  have hl : lv_has ls 4 [(0, .ref (a 0))] := hl
  have hS : va_S (AX a) H0 H0 [] := va_S.rf
  have hP : XP E a ids par rows pr pr n rd H0 := hP
  have hcu : pr < 18 := hpr
  refine lv_aload_n hx hb dX0_doShift_0 rfl (lv_at hl 0 rfl) ?_
  refine x_g2 hC hK hP dX0_doShift_1 ?_
  refine lv_aload_n hx hb dX0_doShift_4 rfl (lv_at hl 0 rfl) ?_
  refine roV (As := []) hC kX0_126 (cX_rowAfter  hpr) hK hP (x_rec hK hP) rfl rfl hl ⟨Nat.le_of_ble_eq_true rfl, Nat.le_of_ble_eq_true rfl⟩ (Nat.le_of_ble_eq_true rfl) dX0_doShift_5 ⟨Nat.le_of_ble_eq_true rfl, Nat.le_of_ble_eq_true rfl⟩ ?_
  refine x_ldR hx hb hK hP (nxR_lt hpr) dX0_doShift_8 ?_
  refine lv_astore_n (lv' := [(1, .ref (a (4 + (nxR pr)))), (0, .ref (a 0))]) hx hb dX0_doShift_9 rfl hl (by decide) rfl (fun ls hl => ?_)
  refine lv_iconst (v := (nI (0))) hx hb dX0_doShift_10 (by decide) ?_
  refine lv_istore_n (lv' := [(2, .int (nI (0))), (1, .ref (a (4 + (nxR pr)))), (0, .ref (a 0))]) hx hb dX0_doShift_11 rfl hl (by decide) rfl (fun ls hl => ?_)
  refine lv_iconst (v := (nI (0))) hx hb dX0_doShift_12 (by decide) ?_
  refine lv_istore_n (lv' := [(3, .int (nI (0))), (2, .int (nI (0))), (1, .ref (a (4 + (nxR pr)))), (0, .ref (a 0))]) hx hb dX0_doShift_13 rfl hl (by decide) rfl (fun ls hl => ?_)
  have loop_14 : ∀ (fuel : Nat) (k : Nat), (k ≤ n) → n - k < fuel → ∀ (H : Heap) (locs : List Loc), XP E a ids par (fR rows pr (shc par (rows pr)) k) pr pr n rd H → va_S (AX a) H0 H locs → ∀ (ls : Array Slot), lv_has ls 4 [(0, .ref (a 0)), (1, .ref (a (4 + (nxR pr)))), (2, .int (nI (fb_ct (fun j => !decide (shc par (rows pr) j = rows pr j)) k))), (3, .int (nI (k)))] → W p l e (k2_rm 3 63) s m args below meth c H locs 0 0 Q (F0 m 14 ls []) := by
    intro fuel
    induction fuel with
    | zero => intro k hk hm; exact absurd hm (Nat.not_lt_zero _)
    | succ fuel ih_14 =>
      intro k hk hm H locs hP hS ls hl
      refine lv_iload_n hx hb dX0_doShift_14 rfl (lv_at hl 3 rfl) ?_
      refine lv_aload_n hx hb dX0_doShift_15 rfl (lv_at hl 0 rfl) ?_
      refine x_g5 hC hK hP dX0_doShift_16 ?_
      refine nv_ge (tgt := 51) hx hb (by omega) (by omega) dX0_doShift_19 (by decide) (fun c_19 => ?_) (fun c_19 => ?_)
      · have hkn : k = n := by omega
        rw [hkn] at hP
        refine lv_aload_n hx hb dX0_doShift_51 rfl (lv_at hl 0 rfl) ?_
        refine wrV (As := []) hC kX0_129 (cX_endRound  hI hpr) hK hP (x_rec hK hP) hS (fun _ h => h) rfl rfl hl ⟨Nat.le_of_ble_eq_true rfl, Nat.le_of_ble_eq_true rfl⟩ (Nat.le_of_ble_eq_true rfl) dX0_doShift_52 ⟨Nat.le_of_ble_eq_true rfl, Nat.le_of_ble_eq_true rfl⟩ (fun H locs hP hS _ _ => ?_)
        refine lv_iload_n hx hb dX0_doShift_55 rfl (lv_at hl 2 rfl) ?_
        exact hret _ _ _ _ _ (hP) hS dX0_doShift_56 (by rw [hkn]; rfl)
      · refine lv_aload_n hx hb dX0_doShift_22 rfl (lv_at hl 1 rfl) ?_
        refine lv_iload_n hx hb dX0_doShift_23 rfl (lv_at hl 3 rfl) ?_
        refine lv_aload_n hx hb dX0_doShift_24 rfl (lv_at hl 0 rfl) ?_
        refine lv_iload_n hx hb dX0_doShift_25 rfl (lv_at hl 3 rfl) ?_
        refine roV (As := [.int (nI (k))]) hC kX0_132 (cX_shifted k hn hcu hp (by omega)) hK hP (x_rec hK hP) rfl rfl hl ⟨Nat.le_of_ble_eq_true rfl, Nat.le_of_ble_eq_true rfl⟩ (Nat.le_of_ble_eq_true rfl) dX0_doShift_26 ⟨Nat.le_of_ble_eq_true rfl, Nat.le_of_ble_eq_true rfl⟩ ?_
        refine tI ((shc par (rows pr) k)) (by rw [fR_pr hpr]) ?_
        refine x_stC (x := (shc par (rows pr) k)) (nxR_lt hpr) hx hb hK hI hP hS (by omega) dX0_doShift_29 (fun H locs hP hS => ?_)
        have hP : XP E a ids par (fR rows pr (shc par (rows pr)) (k + 1)) pr pr n rd H := by rw [fR_s] at hP; exact hP
        refine lv_aload_n hx hb dX0_doShift_30 rfl (lv_at hl 1 rfl) ?_
        refine lv_iload_n hx hb dX0_doShift_31 rfl (lv_at hl 3 rfl) ?_
        refine x_ldC (nxR_lt hpr) hx hb hK hP (by omega) dX0_doShift_32 ?_
        refine tI ((shc par (rows pr) k)) (by rw [fR_nx]; simp) ?_
        refine lv_aload_n hx hb dX0_doShift_33 rfl (lv_at hl 0 rfl) ?_
        refine x_g3 hC hK hP dX0_doShift_34 ?_
        refine lv_iload_n hx hb dX0_doShift_37 rfl (lv_at hl 3 rfl) ?_
        refine x_ldC (by omega) hx hb hK hP (by omega) dX0_doShift_38 ?_
        refine tI ((rows pr k)) (by rw [fR_pr hpr]) ?_
        refine lv_icmp_eq (tgt := 45) hx hb dX0_doShift_39 (by decide) (fun c_39 => ?_) (fun c_39 => ?_)
        · rw [← fb_ct_f (p := fun j => !decide (shc par (rows pr) j = rows pr j)) (by simp [c_39])] at hl
          refine lv_iinc (v := (nI (k + 1))) (lv' := [(3, .int (nI (k + 1))), (0, .ref (a 0)), (1, .ref (a (4 + (nxR pr)))), (2, .int (nI (fb_ct (fun j => !decide (shc par (rows pr) j = rows pr j)) (k + 1))))]) hx hb dX0_doShift_45 hl (k := 3) rfl (nI_inc _) (by decide) rfl (fun ls hl => ?_)
          refine lv_goto (tgt := 14) hx hb dX0_doShift_48 (by decide) ?_
          exact ih_14 (k + 1) (by omega) (by omega) _ _ (hP) hS ls (lv_sub hl [1, 2, 3, 0] rfl)
        · refine lv_iinc (v := (nI (fb_ct (fun j => !decide (shc par (rows pr) j = rows pr j)) (k + 1)))) (lv' := [(2, .int (nI (fb_ct (fun j => !decide (shc par (rows pr) j = rows pr j)) (k + 1)))), (0, .ref (a 0)), (1, .ref (a (4 + (nxR pr)))), (3, .int (nI (k)))]) hx hb dX0_doShift_42 hl (k := 2) rfl (by rw [fb_ct_t (by simp [c_39])]; exact nI_inc _) (by decide) rfl (fun ls hl => ?_)
          refine lv_iinc (v := (nI (k + 1))) (lv' := [(3, .int (nI (k + 1))), (2, .int (nI (fb_ct (fun j => !decide (shc par (rows pr) j = rows pr j)) (k + 1)))), (0, .ref (a 0)), (1, .ref (a (4 + (nxR pr))))]) hx hb dX0_doShift_45 hl (k := 3) rfl (nI_inc _) (by decide) rfl (fun ls hl => ?_)
          refine lv_goto (tgt := 14) hx hb dX0_doShift_48 (by decide) ?_
          exact ih_14 (k + 1) (by omega) (by omega) _ _ (hP) hS ls (lv_sub hl [2, 3, 1, 0] rfl)
  exact loop_14 (n - 0 + 1) 0 (Nat.zero_le _) (Nat.lt_succ_self _) _ _ (by rw [fR_0]; exact hP) hS ls (lv_sub hl [3, 2, 1, 0] rfl)
set_option maxRecDepth 100000 in
set_option maxHeartbeats 4000000 in
theorem cX_doElim {l : Launch} {E : EE} {a : Nat → Nat} {ids : Nat → Int32} {par : Nat → Option Nat} {rows : Nat → Nat → Int32} {pr n rd : Nat} (c0 : Int32) (hI : inj 22 a)(hn : n ≤ 24)(hpr : pr < 18)(hp : PW n par) : WR l E (XP E a ids par rows pr pr n rd) (AX a) yX0_doElimination cX0_doElimination 5 (some .int) 3 68 [.ref (a 0), .int (c0)] (some (.int (elRes par n c0 (rows pr)))) (XP E a ids par ((elS par n c0 (rows, pr, rd)).1) ((elS par n c0 (rows, pr, rd)).2.1) ((elS par n c0 (rows, pr, rd)).2.1) n ((elS par n c0 (rows, pr, rd)).2.2)) := by
  refine WR.mkI (C := RX0) rfl rfl (by decide) rfl (Nat.le_of_ble_eq_true rfl) ?_
  intro p e s m args below meth c H0 Q hC hK hP hret ls hl
  obtain ⟨hx, hb, hml, hown, hts⟩ := id hC
  have hl : lv_has ls 5 [(0, .ref (a 0)), (1, .int (c0))] := hl
  have hS : va_S (AX a) H0 H0 [] := va_S.rf
  have hP : XP E a ids par rows pr pr n rd H0 := hP
  have hcu : pr < 18 := hpr
  refine lv_aload_n hx hb dX0_doElimination_0 rfl (lv_at hl 0 rfl) ?_
  refine x_g2 hC hK hP dX0_doElimination_1 ?_
  refine lv_aload_n hx hb dX0_doElimination_4 rfl (lv_at hl 0 rfl) ?_
  refine roV (As := []) hC kX0_126 (cX_rowAfter  hpr) hK hP (x_rec hK hP) rfl rfl hl ⟨Nat.le_of_ble_eq_true rfl, Nat.le_of_ble_eq_true rfl⟩ (Nat.le_of_ble_eq_true rfl) dX0_doElimination_5 ⟨Nat.le_of_ble_eq_true rfl, Nat.le_of_ble_eq_true rfl⟩ ?_
  refine x_ldR hx hb hK hP (nxR_lt hpr) dX0_doElimination_8 ?_
  refine lv_astore_n (lv' := [(2, .ref (a (4 + (nxR pr)))), (0, .ref (a 0)), (1, .int (c0))]) hx hb dX0_doElimination_9 rfl hl (by decide) rfl (fun ls hl => ?_)
  refine lv_iconst (v := (nI (0))) hx hb dX0_doElimination_10 (by decide) ?_
  refine lv_istore_n (lv' := [(3, .int (nI (0))), (2, .ref (a (4 + (nxR pr)))), (0, .ref (a 0)), (1, .int (c0))]) hx hb dX0_doElimination_11 rfl hl (by decide) rfl (fun ls hl => ?_)
  refine lv_iconst (v := (nI (0))) hx hb dX0_doElimination_12 (by decide) ?_
  refine lv_istore (lv' := [(4, .int (nI (0))), (3, .int (nI (0))), (2, .ref (a (4 + (nxR pr)))), (0, .ref (a 0)), (1, .int (c0))]) hx hb dX0_doElimination_13 hl (by decide) rfl (fun ls hl => ?_)
  have loop_15 : ∀ (fuel : Nat) (k : Nat), (k ≤ n) → (∀ j, j < k → (decide (rows pr j = c0) && (freF par (rows pr) n j 3).isNone) = false) → n - k < fuel → ∀ (H : Heap) (locs : List Loc), XP E a ids par (fR rows pr (elC par n (rows pr) c0) k) pr pr n rd H → va_S (AX a) H0 H locs → ∀ (ls : Array Slot), lv_has ls 5 [(0, .ref (a 0)), (1, .int (c0)), (2, .ref (a (4 + (nxR pr)))), (3, .int (nI (fb_ct (fun j => decide (rows pr j = c0)) k))), (4, .int (nI (k)))] → W p l e (k2_rm 3 68) s m args below meth c H locs 0 0 Q (F0 m 15 ls []) := by
    intro fuel
    induction fuel with
    | zero => intro k hk hno hm; exact absurd hm (Nat.not_lt_zero _)
    | succ fuel ih_15 =>
      intro k hk hno hm H locs hP hS ls hl
      refine lv_iload hx hb dX0_doElimination_15 (lv_at hl 4 rfl) ?_
      refine lv_aload_n hx hb dX0_doElimination_17 rfl (lv_at hl 0 rfl) ?_
      refine x_g5 hC hK hP dX0_doElimination_18 ?_
      refine nv_ge (tgt := 78) hx hb (by omega) (by omega) dX0_doElimination_21 (by decide) (fun c_21 => ?_) (fun c_21 => ?_)
      · have hkn : k = n := by omega
        rw [hkn] at hP hno
        have hel : elK par n (rows pr) c0 = none := fst_none hno
        refine lv_aload_n hx hb dX0_doElimination_78 rfl (lv_at hl 0 rfl) ?_
        refine wrV (As := []) hC kX0_129 (cX_endRound  hI hpr) hK hP (x_rec hK hP) hS (fun _ h => h) rfl rfl hl ⟨Nat.le_of_ble_eq_true rfl, Nat.le_of_ble_eq_true rfl⟩ (Nat.le_of_ble_eq_true rfl) dX0_doElimination_79 ⟨Nat.le_of_ble_eq_true rfl, Nat.le_of_ble_eq_true rfl⟩ (fun H locs hP hS _ _ => ?_)
        refine lv_iload_n hx hb dX0_doElimination_82 rfl (lv_at hl 3 rfl) ?_
        exact hret _ _ _ _ _ (by rw [elS_n hel]; exact hP) hS dX0_doElimination_83 (by rw [elRes, hel, hkn])
      · refine lv_aload_n hx hb dX0_doElimination_24 rfl (lv_at hl 2 rfl) ?_
        refine lv_iload hx hb dX0_doElimination_25 (lv_at hl 4 rfl) ?_
        refine lv_aload_n hx hb dX0_doElimination_27 rfl (lv_at hl 0 rfl) ?_
        refine x_g3 hC hK hP dX0_doElimination_28 ?_
        refine lv_iload hx hb dX0_doElimination_31 (lv_at hl 4 rfl) ?_
        refine x_ldC (by omega) hx hb hK hP (by omega) dX0_doElimination_33 ?_
        refine tI ((rows pr k)) (by rw [fR_pr hpr]) ?_
        refine x_stC (x := (rows pr k)) (nxR_lt hpr) hx hb hK hI hP hS (by omega) dX0_doElimination_34 (fun H locs hP hS => ?_)
        refine lv_aload_n hx hb dX0_doElimination_35 rfl (lv_at hl 0 rfl) ?_
        refine x_g3 hC hK hP dX0_doElimination_36 ?_
        refine lv_iload hx hb dX0_doElimination_39 (lv_at hl 4 rfl) ?_
        refine x_ldC (by omega) hx hb hK hP (by omega) dX0_doElimination_41 ?_
        refine tI ((rows pr k)) (by rw [va_up_ne _ _ (nxR_ne hpr), fR_pr hpr]) ?_
        refine lv_iload_n hx hb dX0_doElimination_42 rfl (lv_at hl 1 rfl) ?_
        refine lv_icmp_ne (tgt := 72) hx hb dX0_doElimination_43 (by decide) (fun c_43 => ?_) (fun c_43 => ?_)
        · rw [show rows pr k = elC par n (rows pr) c0 k by simp [elC, c_43], fR_s] at hP
          rw [← fb_ct_f (p := fun j => decide (rows pr j = c0)) (by simp [c_43])] at hl
          refine lv_iinc (v := (nI (k + 1))) (lv' := [(4, .int (nI (k + 1))), (0, .ref (a 0)), (1, .int (c0)), (2, .ref (a (4 + (nxR pr)))), (3, .int (nI (fb_ct (fun j => decide (rows pr j = c0)) (k + 1))))]) hx hb dX0_doElimination_72 hl (k := 4) rfl (nI_inc _) (by decide) rfl (fun ls hl => ?_)
          refine lv_goto (tgt := 15) hx hb dX0_doElimination_75 (by decide) ?_
          exact ih_15 (k + 1) (by omega) (lt_s hno (by simp [c_43])) (by omega) _ _ (hP) hS ls (lv_sub hl [1, 2, 3, 4, 0] rfl)
        · have hrp : va_up (fR rows pr (elC par n (rows pr) c0) k) (nxR pr) (va_up (fR rows pr (elC par n (rows pr) c0) k (nxR pr)) k (rows pr k)) pr = rows pr := by rw [va_up_ne _ _ (nxR_ne hpr), fR_pr hpr]
          refine lv_aload_n hx hb dX0_doElimination_46 rfl (lv_at hl 2 rfl) ?_
          refine lv_iload hx hb dX0_doElimination_47 (lv_at hl 4 rfl) ?_
          refine lv_aload_n hx hb dX0_doElimination_49 rfl (lv_at hl 0 rfl) ?_
          refine lv_iload hx hb dX0_doElimination_50 (lv_at hl 4 rfl) ?_
          refine lv_iconst (v := (nI (3))) hx hb dX0_doElimination_52 (by decide) ?_
          refine roV (As := [.int (nI (k)), .int (nI (3))]) hC kX0_70 (cX_lowest k 3 hn hcu hp (by omega) (by omega)) hK hP (x_rec hK hP) rfl rfl hl ⟨Nat.le_of_ble_eq_true rfl, Nat.le_of_ble_eq_true rfl⟩ (Nat.le_of_ble_eq_true rfl) dX0_doElimination_53 ⟨Nat.le_of_ble_eq_true rfl, Nat.le_of_ble_eq_true rfl⟩ ?_
          refine tI ((elC par n (rows pr) c0 k)) (by rw [hrp]; simp [elC, c_43]) ?_
          refine x_stC (x := (elC par n (rows pr) c0 k)) (nxR_lt hpr) hx hb hK hI hP hS (by omega) dX0_doElimination_56 (fun H locs hP hS => ?_)
          have hP : XP E a ids par (fR rows pr (elC par n (rows pr) c0) (k + 1)) pr pr n rd H := by rw [fR_w, fR_s] at hP; exact hP
          refine lv_aload_n hx hb dX0_doElimination_57 rfl (lv_at hl 2 rfl) ?_
          refine lv_iload hx hb dX0_doElimination_58 (lv_at hl 4 rfl) ?_
          refine x_ldC (nxR_lt hpr) hx hb hK hP (by omega) dX0_doElimination_60 ?_
          refine tI ((pe (freF par (rows pr) n k 3))) (by rw [fR_nx]; simp [elC, c_43]) ?_
          refine lv_bipush (v := (-7)) hx hb dX0_doElimination_61 (by decide) ?_
          refine pv_ne7 (tgt := 69) hx hb (fre_lt (by omega)) dX0_doElimination_63 (by decide) (fun c_63 => ?_) (fun c_63 => ?_)
          · have hfr : (freF par (rows pr) n k 3).isNone = false := by cases h : freF par (rows pr) n k 3 with | none => exact absurd h c_63 | some q => rfl
            refine lv_iinc (v := (nI (fb_ct (fun j => decide (rows pr j = c0)) (k + 1)))) (lv' := [(3, .int (nI (fb_ct (fun j => decide (rows pr j = c0)) (k + 1)))), (0, .ref (a 0)), (1, .int (c0)), (2, .ref (a (4 + (nxR pr)))), (4, .int (nI (k)))]) hx hb dX0_doElimination_69 hl (k := 3) rfl (by rw [fb_ct_t (by simp [c_43])]; exact nI_inc _) (by decide) rfl (fun ls hl => ?_)
            refine lv_iinc (v := (nI (k + 1))) (lv' := [(4, .int (nI (k + 1))), (3, .int (nI (fb_ct (fun j => decide (rows pr j = c0)) (k + 1)))), (0, .ref (a 0)), (1, .int (c0)), (2, .ref (a (4 + (nxR pr))))]) hx hb dX0_doElimination_72 hl (k := 4) rfl (nI_inc _) (by decide) rfl (fun ls hl => ?_)
            refine lv_goto (tgt := 15) hx hb dX0_doElimination_75 (by decide) ?_
            exact ih_15 (k + 1) (by omega) (lt_s hno (by simp [hfr])) (by omega) _ _ (hP) hS ls (lv_sub hl [2, 3, 4, 1, 0] rfl)
          · have hel : elK par n (rows pr) c0 = some k := fst_some (by omega) (by simp [c_43, c_63]) hno
            refine lv_bipush (v := (-6)) hx hb dX0_doElimination_66 (by decide) ?_
            exact hret _ _ _ _ _ (by rw [elS_s hel]; exact hP) hS dX0_doElimination_68 (by rw [elRes, hel])
  exact loop_15 (n - 0 + 1) 0 (Nat.zero_le _) (lt_0) (Nat.lt_succ_self _) _ _ (by rw [fR_0]; exact hP) hS ls (lv_sub hl [3, 4, 2, 1, 0] rfl)
set_option maxRecDepth 100000 in
set_option maxHeartbeats 4000000 in
theorem cX_reduce {l : Launch} {E : EE} {a : Nat → Nat} {ids : Nat → Int32} {par : Nat → Option Nat} {rows : Nat → Nat → Int32} {pr n rd : Nat}  (hI : inj 22 a)(hn : n ≤ 24)(hpr : pr < 18)(hp : PW n par) : WR l E (XP E a ids par rows pr pr n rd) (AX a) yX0_reduce cX0_reduce 1 (some .int) 5 105 [.ref (a 0)] (some (.int (if propB n par (rows pr) = true then mxF ((redS par n (rows, pr, rd)).1 (redS par n (rows, pr, rd)).2.1) n else -5))) (XP E a ids par (if propB n par (rows pr) = true then (redS par n (rows, pr, rd)).1 else rows) (if propB n par (rows pr) = true then (redS par n (rows, pr, rd)).2.1 else pr) (if propB n par (rows pr) = true then (redS par n (rows, pr, rd)).2.1 else pr) n (if propB n par (rows pr) = true then (redS par n (rows, pr, rd)).2.2 else rd)) := by
  refine WR.mkI (C := RX0) rfl rfl (by decide) rfl (Nat.le_of_ble_eq_true rfl) ?_
  intro p e s m args below meth c H0 Q hC hK hP hret ls hl
  obtain ⟨hx, hb, hml, hown, hts⟩ := id hC
  have hl : lv_has ls 1 [(0, .ref (a 0))] := hl
  have hS : va_S (AX a) H0 H0 [] := va_S.rf
  have hP : XP E a ids par rows pr pr n rd H0 := hP
  have hcu : pr < 18 := hpr
  refine lv_aload_n hx hb dX0_reduce_0 rfl (lv_at hl 0 rfl) ?_
  refine roV (As := []) hC kX0_87 (cX_proper  hn hcu hp) hK hP (x_rec hK hP) rfl rfl hl ⟨Nat.le_of_ble_eq_true rfl, Nat.le_of_ble_eq_true rfl⟩ (Nat.le_of_ble_eq_true rfl) dX0_reduce_1 ⟨Nat.le_of_ble_eq_true rfl, Nat.le_of_ble_eq_true rfl⟩ ?_
  refine bv_ne (tgt := 10) hx hb dX0_reduce_4 (by decide) (fun c_4 => ?_) (fun c_4 => ?_)
  · refine lv_aload_n hx hb dX0_reduce_10 rfl (lv_at hl 0 rfl) ?_
    refine wrV (As := []) hC kX0_91 (cX_doRed  hI hn hpr hp) hK hP (x_rec hK hP) hS (fun _ h => h) rfl rfl hl ⟨Nat.le_of_ble_eq_true rfl, Nat.le_of_ble_eq_true rfl⟩ (Nat.le_of_ble_eq_true rfl) dX0_reduce_11 ⟨Nat.le_of_ble_eq_true rfl, Nat.le_of_ble_eq_true rfl⟩ (fun H locs hP hS _ _ => ?_)
    refine lv_aload_n hx hb dX0_reduce_14 rfl (lv_at hl 0 rfl) ?_
    refine roV (As := []) hC kX0_94 (cX_greatest  hn (redS_ok (S := (rows, pr, rd)) hpr)) hK hP (x_rec hK hP) rfl rfl hl ⟨Nat.le_of_ble_eq_true rfl, Nat.le_of_ble_eq_true rfl⟩ (Nat.le_of_ble_eq_true rfl) dX0_reduce_15 ⟨Nat.le_of_ble_eq_true rfl, Nat.le_of_ble_eq_true rfl⟩ ?_
    exact hret _ _ _ _ _ (by rw [c_4]; exact hP) hS dX0_reduce_18 (by rw [if_pos c_4])
  · refine lv_bipush (v := (-5)) hx hb dX0_reduce_7 (by decide) ?_
    exact hret _ _ _ _ _ (by rw [c_4]; exact hP) hS dX0_reduce_9 (by rw [if_neg (by rw [c_4]; simp)])
set_option maxRecDepth 100000 in
set_option maxHeartbeats 4000000 in
theorem cX_shift {l : Launch} {E : EE} {a : Nat → Nat} {ids : Nat → Int32} {par : Nat → Option Nat} {rows : Nat → Nat → Int32} {pr n rd : Nat}  (hI : inj 22 a)(hn : n ≤ 24)(hpr : pr < 18)(hp : PW n par) : WR l E (XP E a ids par rows pr pr n rd) (AX a) yX0_shift cX0_shift 1 (some .int) 4 86 [.ref (a 0)] (some (.int (nI (shCnt par (rows pr) n)))) (XP E a ids par ((shS par n (rows, pr, rd)).1) ((shS par n (rows, pr, rd)).2.1) ((shS par n (rows, pr, rd)).2.1) n ((shS par n (rows, pr, rd)).2.2)) := by
  refine WR.mkI (C := RX0) rfl rfl (by decide) rfl (Nat.le_of_ble_eq_true rfl) ?_
  intro p e s m args below meth c H0 Q hC hK hP hret ls hl
  obtain ⟨hx, hb, hml, hown, hts⟩ := id hC
  have hl : lv_has ls 1 [(0, .ref (a 0))] := hl
  have hS : va_S (AX a) H0 H0 [] := va_S.rf
  have hP : XP E a ids par rows pr pr n rd H0 := hP
  have hcu : pr < 18 := hpr
  refine lv_aload_n hx hb dX0_shift_0 rfl (lv_at hl 0 rfl) ?_
  refine wrV (As := []) hC kX0_98 (cX_doShift  hI hn hpr hp) hK hP (x_rec hK hP) hS (fun _ h => h) rfl rfl hl ⟨Nat.le_of_ble_eq_true rfl, Nat.le_of_ble_eq_true rfl⟩ (Nat.le_of_ble_eq_true rfl) dX0_shift_1 ⟨Nat.le_of_ble_eq_true rfl, Nat.le_of_ble_eq_true rfl⟩ (fun H locs hP hS _ _ => ?_)
  exact hret _ _ _ _ _ (hP) hS dX0_shift_4 (by first | rfl | omega | simp_all)
set_option maxRecDepth 100000 in
set_option maxHeartbeats 4000000 in
theorem cX_eliminate {l : Launch} {E : EE} {a : Nat → Nat} {ids : Nat → Int32} {par : Nat → Option Nat} {rows : Nat → Nat → Int32} {pr n rd : Nat} (y : Int32) (hI : inj 22 a)(hn : n ≤ 24)(hpr : pr < 18)(hp : PW n par) : WR l E (XP E a ids par rows pr pr n rd) (AX a) yX0_eliminate cX0_eliminate 2 (some .int) 5 105 [.ref (a 0), .int (y)] (some (.int (if y < 3 ∨ vV y = false then -2 else if propB n par (rows pr) = false then -5 else elRes par n y (rows pr)))) (XP E a ids par (if okEL n par (rows pr) y = true then (elS par n y (rows, pr, rd)).1 else rows) (if okEL n par (rows pr) y = true then (elS par n y (rows, pr, rd)).2.1 else pr) (if okEL n par (rows pr) y = true then (elS par n y (rows, pr, rd)).2.1 else pr) n (if okEL n par (rows pr) y = true then (elS par n y (rows, pr, rd)).2.2 else rd)) := by
  refine WR.mkI (C := RX0) rfl rfl (by decide) rfl (Nat.le_of_ble_eq_true rfl) ?_
  intro p e s m args below meth c H0 Q hC hK hP hret ls hl
  obtain ⟨hx, hb, hml, hown, hts⟩ := id hC
  have hl : lv_has ls 2 [(0, .ref (a 0)), (1, .int (y))] := hl
  have hS : va_S (AX a) H0 H0 [] := va_S.rf
  have hP : XP E a ids par rows pr pr n rd H0 := hP
  have hcu : pr < 18 := hpr
  refine lv_iload_n hx hb dX0_eliminate_0 rfl (lv_at hl 1 rfl) ?_
  refine lv_iconst (v := (3)) hx hb dX0_eliminate_1 (by decide) ?_
  refine lv_icmp_lt (tgt := 12) hx hb dX0_eliminate_2 (by decide) (fun c_2 => ?_) (fun c_2 => ?_)
  · refine lv_bipush (v := (-2)) hx hb dX0_eliminate_12 (by decide) ?_
    exact hret _ _ _ _ _ (by rw [okEL_1 c_2]; exact hP) hS dX0_eliminate_14 (by rw [if_pos (Or.inl c_2)])
  · refine lv_iload_n hx hb dX0_eliminate_5 rfl (lv_at hl 1 rfl) ?_
    refine roS (As := [.int (y)]) hC kX0_34 (cX_isValue ((y)) ) hK (P := fun _ => True) trivial rfl rfl hl ⟨Nat.le_of_ble_eq_true rfl, Nat.le_of_ble_eq_true rfl⟩ (Nat.le_of_ble_eq_true rfl) dX0_eliminate_6 ⟨Nat.le_of_ble_eq_true rfl, Nat.le_of_ble_eq_true rfl⟩ ?_
    refine bv_ne (tgt := 15) hx hb dX0_eliminate_9 (by decide) (fun c_9 => ?_) (fun c_9 => ?_)
    · refine lv_aload_n hx hb dX0_eliminate_15 rfl (lv_at hl 0 rfl) ?_
      refine roV (As := []) hC kX0_87 (cX_proper  hn hcu hp) hK hP (x_rec hK hP) rfl rfl hl ⟨Nat.le_of_ble_eq_true rfl, Nat.le_of_ble_eq_true rfl⟩ (Nat.le_of_ble_eq_true rfl) dX0_eliminate_16 ⟨Nat.le_of_ble_eq_true rfl, Nat.le_of_ble_eq_true rfl⟩ ?_
      refine bv_ne (tgt := 25) hx hb dX0_eliminate_19 (by decide) (fun c_19 => ?_) (fun c_19 => ?_)
      · refine lv_aload_n hx hb dX0_eliminate_25 rfl (lv_at hl 0 rfl) ?_
        refine lv_iload_n hx hb dX0_eliminate_26 rfl (lv_at hl 1 rfl) ?_
        refine wrV (As := [.int (y)]) hC kX0_101 (cX_doElim ((y)) hI hn hpr hp) hK hP (x_rec hK hP) hS (fun _ h => h) rfl rfl hl ⟨Nat.le_of_ble_eq_true rfl, Nat.le_of_ble_eq_true rfl⟩ (Nat.le_of_ble_eq_true rfl) dX0_eliminate_27 ⟨Nat.le_of_ble_eq_true rfl, Nat.le_of_ble_eq_true rfl⟩ (fun H locs hP hS _ _ => ?_)
        exact hret _ _ _ _ _ (by rw [okEL_4 c_2 c_9 c_19]; exact hP) hS dX0_eliminate_30 (by rw [if_neg (by rintro (h | h); exact c_2 h; rw [c_9] at h; cases h), if_neg (by rw [c_19]; simp)])
      · refine lv_bipush (v := (-5)) hx hb dX0_eliminate_22 (by decide) ?_
        exact hret _ _ _ _ _ (by rw [okEL_3 c_19]; exact hP) hS dX0_eliminate_24 (by rw [if_neg (by rintro (h | h); exact c_2 h; rw [c_9] at h; cases h), if_pos c_19])
    · refine lv_bipush (v := (-2)) hx hb dX0_eliminate_12 (by decide) ?_
      exact hret _ _ _ _ _ (by rw [okEL_2 c_9]; exact hP) hS dX0_eliminate_14 (by rw [if_pos (Or.inr c_9)])
set_option maxRecDepth 100000 in
set_option maxHeartbeats 4000000 in
theorem cX_rt3 {l : Launch} {E : EE} {a : Nat → Nat} {ids : Nat → Int32} {par : Nat → Option Nat} {rows : Nat → Nat → Int32} {pr n rd : Nat}  (hI : inj 22 a)(hn : n ≤ 24)(hpr : pr < 18)(hp : PW n par) : WR l E (XP E a ids par rows pr pr n rd) (AX a) yX0_reduceToThree cX0_reduceToThree 3 (some .int) 5 105 [.ref (a 0)] (some (.int (if propB n par (rows pr) = true then nI ((rt3S par n (rows, pr, rd)).2.2 - rd) else -5))) (XP E a ids par (if propB n par (rows pr) = true then (rt3S par n (rows, pr, rd)).1 else rows) (if propB n par (rows pr) = true then (rt3S par n (rows, pr, rd)).2.1 else pr) (if propB n par (rows pr) = true then (rt3S par n (rows, pr, rd)).2.1 else pr) n (if propB n par (rows pr) = true then (rt3S par n (rows, pr, rd)).2.2 else rd)) := by
  refine WR.mkI (C := RX0) rfl rfl (by decide) rfl (Nat.le_of_ble_eq_true rfl) ?_
  intro p e s m args below meth c H0 Q hC hK hP hret ls hl
  obtain ⟨hx, hb, hml, hown, hts⟩ := id hC
  have hl : lv_has ls 3 [(0, .ref (a 0))] := hl
  have hS : va_S (AX a) H0 H0 [] := va_S.rf
  have hP : XP E a ids par rows pr pr n rd H0 := hP
  have hcu : pr < 18 := hpr
  refine lv_aload_n hx hb dX0_reduceToThree_0 rfl (lv_at hl 0 rfl) ?_
  refine roV (As := []) hC kX0_87 (cX_proper  hn hcu hp) hK hP (x_rec hK hP) rfl rfl hl ⟨Nat.le_of_ble_eq_true rfl, Nat.le_of_ble_eq_true rfl⟩ (Nat.le_of_ble_eq_true rfl) dX0_reduceToThree_1 ⟨Nat.le_of_ble_eq_true rfl, Nat.le_of_ble_eq_true rfl⟩ ?_
  refine bv_ne (tgt := 10) hx hb dX0_reduceToThree_4 (by decide) (fun c_4 => ?_) (fun c_4 => ?_)
  · refine lv_aload_n hx hb dX0_reduceToThree_10 rfl (lv_at hl 0 rfl) ?_
    refine x_g6 hC hK hP dX0_reduceToThree_11 ?_
    refine lv_istore_n (lv' := [(1, .int (nI (rd))), (0, .ref (a 0))]) hx hb dX0_reduceToThree_14 rfl hl (by decide) rfl (fun ls hl => ?_)
    have join_41 : ∀ (S : RS), (S.2.1 < 18) → (redL par n 16 (rows, pr, rd) = S) → ∀ (H : Heap) (locs : List Loc), XP E a ids par S.1 S.2.1 S.2.1 n S.2.2 H → va_S (AX a) H0 H locs → ∀ (ls : Array Slot), lv_has ls 3 [(0, .ref (a 0)), (1, .int (nI (rd)))] → W p l e (k2_rm 5 105) s m args below meth c H locs 0 0 Q (F0 m 41 ls []) := by
      intro S hSp h41 H locs hP hS ls hl
      refine lv_iconst (v := (nI (5))) hx hb dX0_reduceToThree_41 (by decide) ?_
      refine lv_istore_n (lv' := [(2, .int (nI (5))), (0, .ref (a 0)), (1, .int (nI (rd)))]) hx hb dX0_reduceToThree_42 rfl hl (by decide) rfl (fun ls hl => ?_)
      have loop_43 : ∀ (fuel : Nat) (j : Nat), (j ≤ 3) → 3 - j < fuel → ∀ (H : Heap) (locs : List Loc), XP E a ids par ((tailS par n j S).1) ((tailS par n j S).2.1) ((tailS par n j S).2.1) n ((tailS par n j S).2.2) H → va_S (AX a) H0 H locs → ∀ (ls : Array Slot), lv_has ls 3 [(0, .ref (a 0)), (1, .int (nI (rd))), (2, .int (nI (5 - j)))] → W p l e (k2_rm 5 105) s m args below meth c H locs 0 0 Q (F0 m 43 ls []) := by
        intro fuel
        induction fuel with
        | zero => intro j hj hm; exact absurd hm (Nat.not_lt_zero _)
        | succ fuel ih_43 =>
          intro j hj hm H locs hP hS ls hl
          refine lv_iload_n hx hb dX0_reduceToThree_43 rfl (lv_at hl 2 rfl) ?_
          refine lv_iconst (v := (nI (3))) hx hb dX0_reduceToThree_44 (by decide) ?_
          refine nv_lt (tgt := 65) hx hb (by omega) (by omega) dX0_reduceToThree_45 (by decide) (fun c_45 => ?_) (fun c_45 => ?_)
          · have hj3 : j = 3 := by omega
            rw [hj3] at hP
            refine lv_aload_n hx hb dX0_reduceToThree_65 rfl (lv_at hl 0 rfl) ?_
            refine x_g6 hC hK hP dX0_reduceToThree_66 ?_
            refine lv_iload_n hx hb dX0_reduceToThree_69 rfl (lv_at hl 1 rfl) ?_
            refine lv_isub hx hb dX0_reduceToThree_70 ?_
            refine tI ((nI ((tailS par n 3 S).2.2 - rd))) (pk_sub (Nat.le_trans (by rw [← h41]; exact (redL_ok 16 (rows, pr, rd) hpr).2) (tailS_ok hSp 3).2)) ?_
            exact hret _ _ _ _ _ (by rw [c_4, rt3S, h41]; exact hP) hS dX0_reduceToThree_71 (by rw [if_pos c_4, rt3S, h41])
          · refine lv_aload_n hx hb dX0_reduceToThree_48 rfl (lv_at hl 0 rfl) ?_
            refine wrV (As := []) hC kX0_98 (cX_doShift  hI hn (tailS_ok hSp j).1 hp) hK hP (x_rec hK hP) hS (fun _ h => h) rfl rfl hl ⟨Nat.le_of_ble_eq_true rfl, Nat.le_of_ble_eq_true rfl⟩ (Nat.le_of_ble_eq_true rfl) dX0_reduceToThree_49 ⟨Nat.le_of_ble_eq_true rfl, Nat.le_of_ble_eq_true rfl⟩ (fun H locs hP hS _ _ => ?_)
            refine lv_pop hx hb dX0_reduceToThree_52 rfl ?_
            refine lv_aload_n hx hb dX0_reduceToThree_53 rfl (lv_at hl 0 rfl) ?_
            refine lv_iload_n hx hb dX0_reduceToThree_54 rfl (lv_at hl 2 rfl) ?_
            refine wrV (As := [.int (nI (5 - j))]) hC kX0_101 (cX_doElim ((nI (5 - j))) hI hn (shS_ok (tailS_ok hSp j).1) hp) hK hP (x_rec hK hP) hS (fun _ h => h) rfl rfl hl ⟨Nat.le_of_ble_eq_true rfl, Nat.le_of_ble_eq_true rfl⟩ (Nat.le_of_ble_eq_true rfl) dX0_reduceToThree_55 ⟨Nat.le_of_ble_eq_true rfl, Nat.le_of_ble_eq_true rfl⟩ (fun H locs hP hS _ _ => ?_)
            refine lv_pop hx hb dX0_reduceToThree_58 rfl ?_
            refine lv_iinc (v := (nI (5 - (j + 1)))) (lv' := [(2, .int (nI (5 - (j + 1)))), (0, .ref (a 0)), (1, .int (nI (rd)))]) hx hb dX0_reduceToThree_59 hl (k := 2) rfl (m1_5 (by omega)) (by decide) rfl (fun ls hl => ?_)
            refine lv_goto (tgt := 43) hx hb dX0_reduceToThree_62 (by decide) ?_
            exact ih_43 (j + 1) (by omega) (by omega) _ _ (hP) hS ls (lv_sub hl [1, 2, 0] rfl)
      exact loop_43 (3 - 0 + 1) 0 (Nat.zero_le _) (Nat.lt_succ_self _) _ _ (hP) hS ls (lv_sub hl [1, 2, 0] rfl)
    refine lv_iconst (v := (nI (0))) hx hb dX0_reduceToThree_15 (by decide) ?_
    refine lv_istore_n (lv' := [(2, .int (nI (0))), (1, .int (nI (rd))), (0, .ref (a 0))]) hx hb dX0_reduceToThree_16 rfl hl (by decide) rfl (fun ls hl => ?_)
    have loop_17 : ∀ (fuel : Nat) (k : Nat) (S : RS), (k ≤ 16) → (S.2.1 < 18) → (redL par n (16 - k) S = redL par n 16 (rows, pr, rd)) → 16 - k < fuel → ∀ (H : Heap) (locs : List Loc), XP E a ids par S.1 S.2.1 S.2.1 n S.2.2 H → va_S (AX a) H0 H locs → ∀ (ls : Array Slot), lv_has ls 3 [(0, .ref (a 0)), (1, .int (nI (rd))), (2, .int (nI (k)))] → W p l e (k2_rm 5 105) s m args below meth c H locs 0 0 Q (F0 m 17 ls []) := by
      intro fuel
      induction fuel with
      | zero => intro k S hk hSp hred hm; exact absurd hm (Nat.not_lt_zero _)
      | succ fuel ih_17 =>
        intro k S hk hSp hred hm H locs hP hS ls hl
        refine lv_iload_n hx hb dX0_reduceToThree_17 rfl (lv_at hl 2 rfl) ?_
        refine lv_bipush (v := (nI (16))) hx hb dX0_reduceToThree_18 (by decide) ?_
        refine nv_ge (tgt := 41) hx hb (by omega) (by omega) dX0_reduceToThree_20 (by decide) (fun c_20 => ?_) (fun c_20 => ?_)
        · exact join_41 S (hSp) (by rw [← hred, show 16 - k = 0 by omega]; rfl) _ _ (hP) hS ls (lv_sub hl [0, 1] rfl)
        · refine lv_aload_n hx hb dX0_reduceToThree_23 rfl (lv_at hl 0 rfl) ?_
          refine roV (As := []) hC kX0_94 (cX_greatest  hn hSp) hK hP (x_rec hK hP) rfl rfl hl ⟨Nat.le_of_ble_eq_true rfl, Nat.le_of_ble_eq_true rfl⟩ (Nat.le_of_ble_eq_true rfl) dX0_reduceToThree_24 ⟨Nat.le_of_ble_eq_true rfl, Nat.le_of_ble_eq_true rfl⟩ ?_
          refine lv_iconst (v := (5)) hx hb dX0_reduceToThree_27 (by decide) ?_
          refine lv_icmp_le (tgt := 41) hx hb dX0_reduceToThree_28 (by decide) (fun c_28 => ?_) (fun c_28 => ?_)
          · exact join_41 S (hSp) (by rw [← hred, redL_f (Int32.not_lt.mpr c_28)]) _ _ (hP) hS ls (lv_sub hl [0, 1] rfl)
          · refine lv_aload_n hx hb dX0_reduceToThree_31 rfl (lv_at hl 0 rfl) ?_
            refine wrV (As := []) hC kX0_91 (cX_doRed  hI hn hSp hp) hK hP (x_rec hK hP) hS (fun _ h => h) rfl rfl hl ⟨Nat.le_of_ble_eq_true rfl, Nat.le_of_ble_eq_true rfl⟩ (Nat.le_of_ble_eq_true rfl) dX0_reduceToThree_32 ⟨Nat.le_of_ble_eq_true rfl, Nat.le_of_ble_eq_true rfl⟩ (fun H locs hP hS _ _ => ?_)
            refine lv_iinc (v := (nI (k + 1))) (lv' := [(2, .int (nI (k + 1))), (0, .ref (a 0)), (1, .int (nI (rd)))]) hx hb dX0_reduceToThree_35 hl (k := 2) rfl (nI_inc _) (by decide) rfl (fun ls hl => ?_)
            refine lv_goto (tgt := 17) hx hb dX0_reduceToThree_38 (by decide) ?_
            exact ih_17 (k + 1) (redS par n S) (by omega) (redS_ok hSp) (by rw [← hred, show 16 - k = (16 - (k + 1)) + 1 by omega, redL_t (Int32.not_le.mp c_28)]) (by omega) _ _ (hP) hS ls (lv_sub hl [1, 2, 0] rfl)
    exact loop_17 (16 - 0 + 1) 0 ((rows, pr, rd)) (Nat.zero_le _) (hpr) (rfl) (Nat.lt_succ_self _) _ _ (hP) hS ls (lv_sub hl [2, 1, 0] rfl)
  · refine lv_bipush (v := (-5)) hx hb dX0_reduceToThree_7 (by decide) ?_
    exact hret _ _ _ _ _ (by rw [c_4]; exact hP) hS dX0_reduceToThree_9 (by rw [if_neg (by rw [c_4]; simp)])
