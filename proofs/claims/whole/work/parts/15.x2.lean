-- the class: methods that read (laid by wip/whole/gen/spec_x2.py)
set_option maxRecDepth 100000 in
set_option maxHeartbeats 4000000 in
theorem cX_parent {l : Launch} {E : EE} {a : Nat → Nat} {ids : Nat → Int32} {par : Nat → Option Nat} {rows : Nat → Nat → Int32} {cu pr n rd : Nat} (x : Int32) (hn : n ≤ 24) : RO l E (XP E a ids par rows cu pr n rd) yX0_parent cX0_parent 2 (some .int) 1 21 [.ref (a 0), .int (x)] (oN (vN n x) (fun v => pe (par v))) := by
  refine RO.mk (C := RX0) rfl rfl (by decide) rfl (Nat.le_of_ble_eq_true rfl) ?_
  intro p e s m args below meth c H Q hC hK hP hret ls hl
  obtain ⟨hx, hb, hml, hown, hts⟩ := id hC
  have hl : lv_has ls 2 [(0, .ref (a 0)), (1, .int (x))] := hl
  refine lv_aload_n hx hb dX0_parent_0 rfl (lv_at hl 0 rfl) ?_
  refine lv_iload_n hx hb dX0_parent_1 rfl (lv_at hl 1 rfl) ?_
  refine roV (As := [.int (x)]) hC kX0_44 (cX_isNode ((x)) ) hK hP (x_rec hK hP) rfl rfl hl ⟨Nat.le_of_ble_eq_true rfl, Nat.le_of_ble_eq_true rfl⟩ (Nat.le_of_ble_eq_true rfl) dX0_parent_2 ⟨Nat.le_of_ble_eq_true rfl, Nat.le_of_ble_eq_true rfl⟩ ?_
  refine bv_ne (tgt := 10) hx hb dX0_parent_5 (by decide) (fun c_5 => ?_) (fun c_5 => ?_)
  · obtain ⟨v, hv, rfl⟩ := vN_t hn c_5
    refine lv_aload_n hx hb dX0_parent_10 rfl (lv_at hl 0 rfl) ?_
    refine x_g1 hC hK hP dX0_parent_11 ?_
    refine lv_iload_n hx hb dX0_parent_14 rfl (lv_at hl 1 rfl) ?_
    refine x_ldP hx hb hK hP (by omega) dX0_parent_15 ?_
    exact hret _ _ _ dX0_parent_16 (by rw [oN_in hn hv])
  · refine lv_iconst (v := (-1)) hx hb dX0_parent_8 (by decide) ?_
    exact hret _ _ _ dX0_parent_9 ((oN_out c_5 _).symm)
set_option maxRecDepth 100000 in
set_option maxHeartbeats 4000000 in
theorem cX_colour {l : Launch} {E : EE} {a : Nat → Nat} {ids : Nat → Int32} {par : Nat → Option Nat} {rows : Nat → Nat → Int32} {cu pr n rd : Nat} (x : Int32) (hn : n ≤ 24)(hcu : cu < 18) : RO l E (XP E a ids par rows cu pr n rd) yX0_colour cX0_colour 2 (some .int) 1 21 [.ref (a 0), .int (x)] (oN (vN n x) (fun v => rows cu v)) := by
  refine RO.mk (C := RX0) rfl rfl (by decide) rfl (Nat.le_of_ble_eq_true rfl) ?_
  intro p e s m args below meth c H Q hC hK hP hret ls hl
  obtain ⟨hx, hb, hml, hown, hts⟩ := id hC
  have hl : lv_has ls 2 [(0, .ref (a 0)), (1, .int (x))] := hl
  refine lv_aload_n hx hb dX0_colour_0 rfl (lv_at hl 0 rfl) ?_
  refine lv_iload_n hx hb dX0_colour_1 rfl (lv_at hl 1 rfl) ?_
  refine roV (As := [.int (x)]) hC kX0_44 (cX_isNode ((x)) ) hK hP (x_rec hK hP) rfl rfl hl ⟨Nat.le_of_ble_eq_true rfl, Nat.le_of_ble_eq_true rfl⟩ (Nat.le_of_ble_eq_true rfl) dX0_colour_2 ⟨Nat.le_of_ble_eq_true rfl, Nat.le_of_ble_eq_true rfl⟩ ?_
  refine bv_ne (tgt := 10) hx hb dX0_colour_5 (by decide) (fun c_5 => ?_) (fun c_5 => ?_)
  · obtain ⟨v, hv, rfl⟩ := vN_t hn c_5
    refine lv_aload_n hx hb dX0_colour_10 rfl (lv_at hl 0 rfl) ?_
    refine x_g3 hC hK hP dX0_colour_11 ?_
    refine lv_iload_n hx hb dX0_colour_14 rfl (lv_at hl 1 rfl) ?_
    refine x_ldC (by omega) hx hb hK hP (by omega) dX0_colour_15 ?_
    exact hret _ _ _ dX0_colour_16 (by rw [oN_in hn hv])
  · refine lv_iconst (v := (-1)) hx hb dX0_colour_8 (by decide) ?_
    exact hret _ _ _ dX0_colour_9 ((oN_out c_5 _).symm)
set_option maxRecDepth 100000 in
set_option maxHeartbeats 4000000 in
theorem cX_depth {l : Launch} {E : EE} {a : Nat → Nat} {ids : Nat → Int32} {par : Nat → Option Nat} {rows : Nat → Nat → Int32} {cu pr n rd : Nat} (x : Int32) (hn : n ≤ 24)(hp : PW n par) : RO l E (XP E a ids par rows cu pr n rd) yX0_depth cX0_depth 4 (some .int) 2 42 [.ref (a 0), .int (x)] (oN (vN n x) (fun v => pe (depF par n v))) := by
  refine RO.mk (C := RX0) rfl rfl (by decide) rfl (Nat.le_of_ble_eq_true rfl) ?_
  intro p e s m args below meth c H Q hC hK hP hret ls hl
  obtain ⟨hx, hb, hml, hown, hts⟩ := id hC
  have hl : lv_has ls 4 [(0, .ref (a 0)), (1, .int (x))] := hl
  refine lv_aload_n hx hb dX0_depth_0 rfl (lv_at hl 0 rfl) ?_
  refine lv_iload_n hx hb dX0_depth_1 rfl (lv_at hl 1 rfl) ?_
  refine roV (As := [.int (x)]) hC kX0_44 (cX_isNode ((x)) ) hK hP (x_rec hK hP) rfl rfl hl ⟨Nat.le_of_ble_eq_true rfl, Nat.le_of_ble_eq_true rfl⟩ (Nat.le_of_ble_eq_true rfl) dX0_depth_2 ⟨Nat.le_of_ble_eq_true rfl, Nat.le_of_ble_eq_true rfl⟩ ?_
  refine bv_ne (tgt := 10) hx hb dX0_depth_5 (by decide) (fun c_5 => ?_) (fun c_5 => ?_)
  · obtain ⟨v, hv, rfl⟩ := vN_t hn c_5
    refine lv_iload_n hx hb dX0_depth_10 rfl (lv_at hl 1 rfl) ?_
    refine lv_istore_n (lv' := [(2, .int (nI (v))), (0, .ref (a 0)), (1, .int (nI (v)))]) hx hb dX0_depth_11 rfl hl (by decide) rfl (fun ls hl => ?_)
    refine lv_iconst (v := (nI (0))) hx hb dX0_depth_12 (by decide) ?_
    refine lv_istore_n (lv' := [(3, .int (nI (0))), (2, .int (nI (v))), (0, .ref (a 0)), (1, .int (nI (v)))]) hx hb dX0_depth_13 rfl hl (by decide) rfl (fun ls hl => ?_)
    have loop_14 : ∀ (fuel : Nat) (k : Nat) (t : Nat), (k ≤ n) → (anc par k v = some t) → (t < n) → (∀ j, j < k → (anc par (j + 1) v).isNone = false) → n - k < fuel → ∀ (ls : Array Slot), lv_has ls 4 [(0, .ref (a 0)), (1, .int (nI (v))), (2, .int (nI (t))), (3, .int (nI (k)))] → W p l e (k2_rm 2 42) s m args below meth c H [] 0 0 Q (F0 m 14 ls []) := by
      intro fuel
      induction fuel with
      | zero => intro k t hk ht htn hno hm; exact absurd hm (Nat.not_lt_zero _)
      | succ fuel ih_14 =>
        intro k t hk ht htn hno hm ls hl
        refine lv_iload_n hx hb dX0_depth_14 rfl (lv_at hl 3 rfl) ?_
        refine lv_aload_n hx hb dX0_depth_15 rfl (lv_at hl 0 rfl) ?_
        refine x_g5 hC hK hP dX0_depth_16 ?_
        refine nv_ge (tgt := 45) hx hb (by omega) (by omega) dX0_depth_19 (by decide) (fun c_19 => ?_) (fun c_19 => ?_)
        · refine lv_bipush (v := (-7)) hx hb dX0_depth_45 (by decide) ?_
          exact hret _ _ _ dX0_depth_47 (by rw [oN_in hn hv, depF, fst_none (fun j hj => hno j (by omega))]; rfl)
        · refine lv_aload_n hx hb dX0_depth_22 rfl (lv_at hl 0 rfl) ?_
          refine lv_iload_n hx hb dX0_depth_23 rfl (lv_at hl 2 rfl) ?_
          refine roV (As := [.int (nI (t))]) hC kX0_60 (cX_isRoot t hn hp (by omega)) hK hP (x_rec hK hP) rfl rfl hl ⟨Nat.le_of_ble_eq_true rfl, Nat.le_of_ble_eq_true rfl⟩ (Nat.le_of_ble_eq_true rfl) dX0_depth_24 ⟨Nat.le_of_ble_eq_true rfl, Nat.le_of_ble_eq_true rfl⟩ ?_
          refine bv_eq (tgt := 32) hx hb dX0_depth_27 (by decide) (fun c_27 => ?_) (fun c_27 => ?_)
          · obtain ⟨u, hu⟩ := isNone_f c_27
            refine lv_aload_n hx hb dX0_depth_32 rfl (lv_at hl 0 rfl) ?_
            refine x_g1 hC hK hP dX0_depth_33 ?_
            refine lv_iload_n hx hb dX0_depth_36 rfl (lv_at hl 2 rfl) ?_
            refine x_ldP hx hb hK hP (by omega) dX0_depth_37 ?_
            refine tI ((nI (u))) (by rw [hu]; rfl) ?_
            refine lv_istore_n (lv' := [(2, .int (nI (u))), (0, .ref (a 0)), (1, .int (nI (v))), (3, .int (nI (k)))]) hx hb dX0_depth_38 rfl hl (by decide) rfl (fun ls hl => ?_)
            refine lv_iinc (v := (nI (k + 1))) (lv' := [(3, .int (nI (k + 1))), (2, .int (nI (u))), (0, .ref (a 0)), (1, .int (nI (v)))]) hx hb dX0_depth_39 hl (k := 3) rfl (nI_inc _) (by decide) rfl (fun ls hl => ?_)
            refine lv_goto (tgt := 14) hx hb dX0_depth_42 (by decide) ?_
            exact ih_14 (k + 1) u (by omega) (by rw [anc_s ht, hu]) (hp.lt htn hu) (lt_s hno (by rw [anc_s ht]; exact c_27)) (by omega) ls (lv_sub hl [2, 3, 1, 0] rfl)
          · refine lv_iload_n hx hb dX0_depth_30 rfl (lv_at hl 3 rfl) ?_
            exact hret _ _ _ dX0_depth_31 (by rw [oN_in hn hv, depF, fst_some (k := k) (by omega) (by rw [anc_s ht]; exact c_27) hno]; rfl)
    exact loop_14 (n - 0 + 1) 0 v (Nat.zero_le _) (rfl) (hv) (lt_0) (Nat.lt_succ_self _) ls (lv_sub hl [2, 3, 1, 0] rfl)
  · refine lv_iconst (v := (-1)) hx hb dX0_depth_8 (by decide) ?_
    exact hret _ _ _ dX0_depth_9 ((oN_out c_5 _).symm)
set_option maxRecDepth 100000 in
set_option maxHeartbeats 4000000 in
theorem cX_cycleLength {l : Launch} {E : EE} {a : Nat → Nat} {ids : Nat → Int32} {par : Nat → Option Nat} {rows : Nat → Nat → Int32} {cu pr n rd : Nat} (x : Int32) (hn : n ≤ 24)(hp : PW n par) : RO l E (XP E a ids par rows cu pr n rd) yX0_cycleLength cX0_cycleLength 4 (some .int) 2 42 [.ref (a 0), .int (x)] (oN (vN n x) (fun v => pe (cycF par n v))) := by
  refine RO.mk (C := RX0) rfl rfl (by decide) rfl (Nat.le_of_ble_eq_true rfl) ?_
  intro p e s m args below meth c H Q hC hK hP hret ls hl
  obtain ⟨hx, hb, hml, hown, hts⟩ := id hC
  have hl : lv_has ls 4 [(0, .ref (a 0)), (1, .int (x))] := hl
  refine lv_aload_n hx hb dX0_cycleLength_0 rfl (lv_at hl 0 rfl) ?_
  refine lv_iload_n hx hb dX0_cycleLength_1 rfl (lv_at hl 1 rfl) ?_
  refine roV (As := [.int (x)]) hC kX0_44 (cX_isNode ((x)) ) hK hP (x_rec hK hP) rfl rfl hl ⟨Nat.le_of_ble_eq_true rfl, Nat.le_of_ble_eq_true rfl⟩ (Nat.le_of_ble_eq_true rfl) dX0_cycleLength_2 ⟨Nat.le_of_ble_eq_true rfl, Nat.le_of_ble_eq_true rfl⟩ ?_
  refine bv_ne (tgt := 10) hx hb dX0_cycleLength_5 (by decide) (fun c_5 => ?_) (fun c_5 => ?_)
  · obtain ⟨v, hv, rfl⟩ := vN_t hn c_5
    refine lv_iload_n hx hb dX0_cycleLength_10 rfl (lv_at hl 1 rfl) ?_
    refine lv_istore_n (lv' := [(2, .int (nI (v))), (0, .ref (a 0)), (1, .int (nI (v)))]) hx hb dX0_cycleLength_11 rfl hl (by decide) rfl (fun ls hl => ?_)
    refine lv_iconst (v := (nI (1))) hx hb dX0_cycleLength_12 (by decide) ?_
    refine lv_istore_n (lv' := [(3, .int (nI (1))), (2, .int (nI (v))), (0, .ref (a 0)), (1, .int (nI (v)))]) hx hb dX0_cycleLength_13 rfl hl (by decide) rfl (fun ls hl => ?_)
    have loop_14 : ∀ (fuel : Nat) (k : Nat) (t : Nat), (k ≤ n) → (anc par k v = some t) → (t < n) → (∀ j, j < k → (anc par (j + 1) v == some v) = false) → n - k < fuel → ∀ (ls : Array Slot), lv_has ls 4 [(0, .ref (a 0)), (1, .int (nI (v))), (2, .int (nI (t))), (3, .int (nI (k + 1)))] → W p l e (k2_rm 2 42) s m args below meth c H [] 0 0 Q (F0 m 14 ls []) := by
      intro fuel
      induction fuel with
      | zero => intro k t hk ht htn hno hm; exact absurd hm (Nat.not_lt_zero _)
      | succ fuel ih_14 =>
        intro k t hk ht htn hno hm ls hl
        refine lv_iload_n hx hb dX0_cycleLength_14 rfl (lv_at hl 3 rfl) ?_
        refine lv_aload_n hx hb dX0_cycleLength_15 rfl (lv_at hl 0 rfl) ?_
        refine x_g5 hC hK hP dX0_cycleLength_16 ?_
        refine nv_gt (tgt := 53) hx hb (by omega) (by omega) dX0_cycleLength_19 (by decide) (fun c_19 => ?_) (fun c_19 => ?_)
        · refine lv_bipush (v := (-7)) hx hb dX0_cycleLength_53 (by decide) ?_
          exact hret _ _ _ dX0_cycleLength_55 (by rw [oN_in hn hv, cycF, fst_none (fun j hj => hno j (by omega))]; rfl)
        · refine lv_aload_n hx hb dX0_cycleLength_22 rfl (lv_at hl 0 rfl) ?_
          refine lv_iload_n hx hb dX0_cycleLength_23 rfl (lv_at hl 2 rfl) ?_
          refine roV (As := [.int (nI (t))]) hC kX0_60 (cX_isRoot t hn hp (by omega)) hK hP (x_rec hK hP) rfl rfl hl ⟨Nat.le_of_ble_eq_true rfl, Nat.le_of_ble_eq_true rfl⟩ (Nat.le_of_ble_eq_true rfl) dX0_cycleLength_24 ⟨Nat.le_of_ble_eq_true rfl, Nat.le_of_ble_eq_true rfl⟩ ?_
          refine bv_eq (tgt := 33) hx hb dX0_cycleLength_27 (by decide) (fun c_27 => ?_) (fun c_27 => ?_)
          · obtain ⟨u, hu⟩ := isNone_f c_27
            have hun := hp.lt htn hu
            refine lv_aload_n hx hb dX0_cycleLength_33 rfl (lv_at hl 0 rfl) ?_
            refine x_g1 hC hK hP dX0_cycleLength_34 ?_
            refine lv_iload_n hx hb dX0_cycleLength_37 rfl (lv_at hl 2 rfl) ?_
            refine x_ldP hx hb hK hP (by omega) dX0_cycleLength_38 ?_
            refine tI ((nI (u))) (by rw [hu]; rfl) ?_
            refine lv_istore_n (lv' := [(2, .int (nI (u))), (0, .ref (a 0)), (1, .int (nI (v))), (3, .int (nI (k + 1)))]) hx hb dX0_cycleLength_39 rfl hl (by decide) rfl (fun ls hl => ?_)
            refine lv_iload_n hx hb dX0_cycleLength_40 rfl (lv_at hl 0 rfl) ?_
            refine lv_iload_n hx hb dX0_cycleLength_41 rfl (lv_at hl 2 rfl) ?_
            refine nv_ne (tgt := 47) hx hb (by omega) (by omega) dX0_cycleLength_42 (by decide) (fun c_42 => ?_) (fun c_42 => ?_)
            · refine lv_iinc (v := (nI ((k + 1) + 1))) (lv' := [(3, .int (nI ((k + 1) + 1))), (2, .int (nI (u))), (0, .ref (a 0)), (1, .int (nI (v)))]) hx hb dX0_cycleLength_47 hl (k := 3) rfl (nI_inc _) (by decide) rfl (fun ls hl => ?_)
              refine lv_goto (tgt := 14) hx hb dX0_cycleLength_50 (by decide) ?_
              exact ih_14 (k + 1) u (by omega) (by rw [anc_s ht, hu]) (hp.lt htn hu) (lt_s hno (by rw [anc_s ht, hu]; simp [c_42])) (by omega) ls (lv_sub hl [2, 3, 1, 0] rfl)
            · refine lv_iload_n hx hb dX0_cycleLength_45 rfl (lv_at hl 3 rfl) ?_
              exact hret _ _ _ dX0_cycleLength_46 (by rw [oN_in hn hv, cycF, fst_some (k := k) (by omega) (by rw [anc_s ht, hu, c_42]; simp) hno]; rfl)
          · refine lv_bipush (v := (-7)) hx hb dX0_cycleLength_30 (by decide) ?_
            exact hret _ _ _ dX0_cycleLength_32 (by rw [oN_in hn hv, cyc_root ht (isNone_t c_27) hno]; rfl)
    exact loop_14 (n - 0 + 1) 0 v (Nat.zero_le _) (rfl) (hv) (lt_0) (Nat.lt_succ_self _) ls (lv_sub hl [2, 3, 1, 0] rfl)
  · refine lv_iconst (v := (-1)) hx hb dX0_cycleLength_8 (by decide) ?_
    exact hret _ _ _ dX0_cycleLength_9 ((oN_out c_5 _).symm)
set_option maxRecDepth 100000 in
set_option maxHeartbeats 4000000 in
theorem cX_widened {l : Launch} {E : EE} {a : Nat → Nat} {ids : Nat → Int32} {par : Nat → Option Nat} {rows : Nat → Nat → Int32} {cu pr n rd : Nat} (w : Nat → Bool) (hn : n ≤ 24)(hp : PW n par) : RO l E (XP E a ids par rows cu pr n rd) yX0_widened cX0_widened 4 (some .int) 2 42 [.ref (a 0), .int (mk n (w))] (mk n (wid par n w)) := by
  refine RO.mk (C := RX0) rfl rfl (by decide) rfl (Nat.le_of_ble_eq_true rfl) ?_
  intro p e s m args below meth c H Q hC hK hP hret ls hl
  obtain ⟨hx, hb, hml, hown, hts⟩ := id hC
  have hl : lv_has ls 4 [(0, .ref (a 0)), (1, .int (mk n (w)))] := hl
  refine lv_iload_n hx hb dX0_widened_0 rfl (lv_at hl 1 rfl) ?_
  refine lv_istore_n (lv' := [(2, .int (mk n (w))), (0, .ref (a 0)), (1, .int (mk n (w)))]) hx hb dX0_widened_1 rfl hl (by decide) rfl (fun ls hl => ?_)
  refine lv_iconst (v := (nI (0))) hx hb dX0_widened_2 (by decide) ?_
  refine lv_istore_n (lv' := [(3, .int (nI (0))), (2, .int (mk n (w))), (0, .ref (a 0)), (1, .int (mk n (w)))]) hx hb dX0_widened_3 rfl hl (by decide) rfl (fun ls hl => ?_)
  have loop_4 : ∀ (fuel : Nat) (k : Nat), (k ≤ n) → n - k < fuel → ∀ (ls : Array Slot), lv_has ls 4 [(0, .ref (a 0)), (1, .int (mk n (w))), (2, .int (mk n (wid par k w))), (3, .int (nI (k)))] → W p l e (k2_rm 2 42) s m args below meth c H [] 0 0 Q (F0 m 4 ls []) := by
    intro fuel
    induction fuel with
    | zero => intro k hk hm; exact absurd hm (Nat.not_lt_zero _)
    | succ fuel ih_4 =>
      intro k hk hm ls hl
      refine lv_iload_n hx hb dX0_widened_4 rfl (lv_at hl 3 rfl) ?_
      refine lv_aload_n hx hb dX0_widened_5 rfl (lv_at hl 0 rfl) ?_
      refine x_g5 hC hK hP dX0_widened_6 ?_
      refine nv_ge (tgt := 62) hx hb (by omega) (by omega) dX0_widened_9 (by decide) (fun c_9 => ?_) (fun c_9 => ?_)
      · refine lv_iload_n hx hb dX0_widened_62 rfl (lv_at hl 2 rfl) ?_
        exact hret _ _ _ dX0_widened_63 (by rw [show k = n by omega])
      · refine lv_aload_n hx hb dX0_widened_12 rfl (lv_at hl 0 rfl) ?_
        refine lv_iload_n hx hb dX0_widened_13 rfl (lv_at hl 3 rfl) ?_
        refine roV (As := [.int (nI (k))]) hC kX0_60 (cX_isRoot k hn hp (by omega)) hK hP (x_rec hK hP) rfl rfl hl ⟨Nat.le_of_ble_eq_true rfl, Nat.le_of_ble_eq_true rfl⟩ (Nat.le_of_ble_eq_true rfl) dX0_widened_14 ⟨Nat.le_of_ble_eq_true rfl, Nat.le_of_ble_eq_true rfl⟩ ?_
        refine bv_ne (tgt := 56) hx hb dX0_widened_17 (by decide) (fun c_17 => ?_) (fun c_17 => ?_)
        · rw [← wid_none (w := w) (isNone_t c_17)] at hl
          refine lv_iinc (v := (nI (k + 1))) (lv' := [(3, .int (nI (k + 1))), (0, .ref (a 0)), (1, .int (mk n (w))), (2, .int (mk n (wid par (k + 1) w)))]) hx hb dX0_widened_56 hl (k := 3) rfl (nI_inc _) (by decide) rfl (fun ls hl => ?_)
          refine lv_goto (tgt := 4) hx hb dX0_widened_59 (by decide) ?_
          exact ih_4 (k + 1) (by omega) (by omega) ls (lv_sub hl [1, 2, 3, 0] rfl)
        · obtain ⟨u, hu⟩ := isNone_f c_17
          have hun := hp.lt (v := k) (by omega) hu
          refine lv_iload_n hx hb dX0_widened_20 rfl (lv_at hl 2 rfl) ?_
          refine lv_iload_n hx hb dX0_widened_21 rfl (lv_at hl 3 rfl) ?_
          refine roS (As := [.int (mk n (wid par k w)), .int (nI (k))]) hC kX0_63 (cX_isIn (wid par k w) k hn (by omega)) hK (P := fun _ => True) trivial rfl rfl hl ⟨Nat.le_of_ble_eq_true rfl, Nat.le_of_ble_eq_true rfl⟩ (Nat.le_of_ble_eq_true rfl) dX0_widened_22 ⟨Nat.le_of_ble_eq_true rfl, Nat.le_of_ble_eq_true rfl⟩ ?_
          refine bv_ne (tgt := 41) hx hb dX0_widened_25 (by decide) (fun c_25 => ?_) (fun c_25 => ?_)
          · refine lv_iload_n hx hb dX0_widened_41 rfl (lv_at hl 2 rfl) ?_
            refine lv_iconst (v := (1)) hx hb dX0_widened_42 (by decide) ?_
            refine lv_iload_n hx hb dX0_widened_43 rfl (lv_at hl 3 rfl) ?_
            refine lv_ishl hx hb dX0_widened_44 ?_
            refine lv_iconst (v := (1)) hx hb dX0_widened_45 (by decide) ?_
            refine lv_aload_n hx hb dX0_widened_46 rfl (lv_at hl 0 rfl) ?_
            refine x_g1 hC hK hP dX0_widened_47 ?_
            refine lv_iload_n hx hb dX0_widened_50 rfl (lv_at hl 3 rfl) ?_
            refine x_ldP hx hb hK hP (by omega) dX0_widened_51 ?_
            refine tI ((nI (u))) (by rw [hu]; rfl) ?_
            refine lv_ishl hx hb dX0_widened_52 ?_
            refine lv_ior hx hb dX0_widened_53 ?_
            refine lv_ior hx hb dX0_widened_54 ?_
            refine tI ((mk n (wid par (k + 1) w))) (by rw [mk_one hn (show k < n by omega), mk_one hn hun, mk_or, mk_or]; exact (mk_cong (fun j _ => wid_in hu (by rw [c_25]; rfl) j)).symm) ?_
            refine lv_istore_n (lv' := [(2, .int (mk n (wid par (k + 1) w))), (0, .ref (a 0)), (1, .int (mk n (w))), (3, .int (nI (k)))]) hx hb dX0_widened_55 rfl hl (by decide) rfl (fun ls hl => ?_)
            refine lv_iinc (v := (nI (k + 1))) (lv' := [(3, .int (nI (k + 1))), (2, .int (mk n (wid par (k + 1) w))), (0, .ref (a 0)), (1, .int (mk n (w)))]) hx hb dX0_widened_56 hl (k := 3) rfl (nI_inc _) (by decide) rfl (fun ls hl => ?_)
            refine lv_goto (tgt := 4) hx hb dX0_widened_59 (by decide) ?_
            exact ih_4 (k + 1) (by omega) (by omega) ls (lv_sub hl [2, 3, 1, 0] rfl)
          · refine lv_iload_n hx hb dX0_widened_28 rfl (lv_at hl 2 rfl) ?_
            refine lv_aload_n hx hb dX0_widened_29 rfl (lv_at hl 0 rfl) ?_
            refine x_g1 hC hK hP dX0_widened_30 ?_
            refine lv_iload_n hx hb dX0_widened_33 rfl (lv_at hl 3 rfl) ?_
            refine x_ldP hx hb hK hP (by omega) dX0_widened_34 ?_
            refine tI ((nI (u))) (by rw [hu]; rfl) ?_
            refine roS (As := [.int (mk n (wid par k w)), .int (nI (u))]) hC kX0_63 (cX_isIn (wid par k w) u hn (by omega)) hK (P := fun _ => True) trivial rfl rfl hl ⟨Nat.le_of_ble_eq_true rfl, Nat.le_of_ble_eq_true rfl⟩ (Nat.le_of_ble_eq_true rfl) dX0_widened_35 ⟨Nat.le_of_ble_eq_true rfl, Nat.le_of_ble_eq_true rfl⟩ ?_
            refine bv_eq (tgt := 56) hx hb dX0_widened_38 (by decide) (fun c_38 => ?_) (fun c_38 => ?_)
            · rw [← wid_out hu c_25 c_38] at hl
              refine lv_iinc (v := (nI (k + 1))) (lv' := [(3, .int (nI (k + 1))), (0, .ref (a 0)), (1, .int (mk n (w))), (2, .int (mk n (wid par (k + 1) w)))]) hx hb dX0_widened_56 hl (k := 3) rfl (nI_inc _) (by decide) rfl (fun ls hl => ?_)
              refine lv_goto (tgt := 4) hx hb dX0_widened_59 (by decide) ?_
              exact ih_4 (k + 1) (by omega) (by omega) ls (lv_sub hl [1, 2, 3, 0] rfl)
            · refine lv_iload_n hx hb dX0_widened_41 rfl (lv_at hl 2 rfl) ?_
              refine lv_iconst (v := (1)) hx hb dX0_widened_42 (by decide) ?_
              refine lv_iload_n hx hb dX0_widened_43 rfl (lv_at hl 3 rfl) ?_
              refine lv_ishl hx hb dX0_widened_44 ?_
              refine lv_iconst (v := (1)) hx hb dX0_widened_45 (by decide) ?_
              refine lv_aload_n hx hb dX0_widened_46 rfl (lv_at hl 0 rfl) ?_
              refine x_g1 hC hK hP dX0_widened_47 ?_
              refine lv_iload_n hx hb dX0_widened_50 rfl (lv_at hl 3 rfl) ?_
              refine x_ldP hx hb hK hP (by omega) dX0_widened_51 ?_
              refine tI ((nI (u))) (by rw [hu]; rfl) ?_
              refine lv_ishl hx hb dX0_widened_52 ?_
              refine lv_ior hx hb dX0_widened_53 ?_
              refine lv_ior hx hb dX0_widened_54 ?_
              refine tI ((mk n (wid par (k + 1) w))) (by rw [mk_one hn (show k < n by omega), mk_one hn hun, mk_or, mk_or]; exact (mk_cong (fun j _ => wid_in hu (by rw [c_38, Bool.or_true]) j)).symm) ?_
              refine lv_istore_n (lv' := [(2, .int (mk n (wid par (k + 1) w))), (0, .ref (a 0)), (1, .int (mk n (w))), (3, .int (nI (k)))]) hx hb dX0_widened_55 rfl hl (by decide) rfl (fun ls hl => ?_)
              refine lv_iinc (v := (nI (k + 1))) (lv' := [(3, .int (nI (k + 1))), (2, .int (mk n (wid par (k + 1) w))), (0, .ref (a 0)), (1, .int (mk n (w)))]) hx hb dX0_widened_56 hl (k := 3) rfl (nI_inc _) (by decide) rfl (fun ls hl => ?_)
              refine lv_goto (tgt := 4) hx hb dX0_widened_59 (by decide) ?_
              exact ih_4 (k + 1) (by omega) (by omega) ls (lv_sub hl [2, 3, 1, 0] rfl)
  exact loop_4 (n - 0 + 1) 0 (Nat.zero_le _) (Nat.lt_succ_self _) ls (lv_sub hl [2, 3, 1, 0] rfl)
set_option maxRecDepth 100000 in
set_option maxHeartbeats 4000000 in
theorem cX_part {l : Launch} {E : EE} {a : Nat → Nat} {ids : Nat → Int32} {par : Nat → Option Nat} {rows : Nat → Nat → Int32} {cu pr n rd : Nat} (v : Nat) (hn : n ≤ 24)(hp : PW n par)(hv : v < n) : RO l E (XP E a ids par rows cu pr n rd) yX0_part cX0_part 5 (some .int) 3 65 [.ref (a 0), .int (nI (v))] (mk n (partW par n v)) := by
  refine RO.mk (C := RX0) rfl rfl (by decide) rfl (Nat.le_of_ble_eq_true rfl) ?_
  intro p e s m args below meth c H Q hC hK hP hret ls hl
  obtain ⟨hx, hb, hml, hown, hts⟩ := id hC
  have hl : lv_has ls 5 [(0, .ref (a 0)), (1, .int (nI (v)))] := hl
  refine lv_iconst (v := (1)) hx hb dX0_part_0 (by decide) ?_
  refine lv_iload_n hx hb dX0_part_1 rfl (lv_at hl 1 rfl) ?_
  refine lv_ishl hx hb dX0_part_2 ?_
  refine tI ((mk n (sing v))) (mk_one hn hv) ?_
  refine lv_istore_n (lv' := [(2, .int (mk n (sing v))), (0, .ref (a 0)), (1, .int (nI (v)))]) hx hb dX0_part_3 rfl hl (by decide) rfl (fun ls hl => ?_)
  refine lv_iconst (v := (nI (0))) hx hb dX0_part_4 (by decide) ?_
  refine lv_istore_n (lv' := [(3, .int (nI (0))), (2, .int (mk n (sing v))), (0, .ref (a 0)), (1, .int (nI (v)))]) hx hb dX0_part_5 rfl hl (by decide) rfl (fun ls hl => ?_)
  have loop_6 : ∀ (fuel : Nat) (k : Nat), (k ≤ n) → n - k < fuel → ∀ (ls : Array Slot), lv_has ls 5 [(0, .ref (a 0)), (1, .int (nI (v))), (2, .int (mk n (itW par n k (sing v)))), (3, .int (nI (k)))] → W p l e (k2_rm 3 65) s m args below meth c H [] 0 0 Q (F0 m 6 ls []) := by
    intro fuel
    induction fuel with
    | zero => intro k hk hm; exact absurd hm (Nat.not_lt_zero _)
    | succ fuel ih_6 =>
      intro k hk hm ls hl
      refine lv_iload_n hx hb dX0_part_6 rfl (lv_at hl 3 rfl) ?_
      refine lv_aload_n hx hb dX0_part_7 rfl (lv_at hl 0 rfl) ?_
      refine x_g5 hC hK hP dX0_part_8 ?_
      refine nv_ge (tgt := 38) hx hb (by omega) (by omega) dX0_part_11 (by decide) (fun c_11 => ?_) (fun c_11 => ?_)
      · refine lv_iload_n hx hb dX0_part_38 rfl (lv_at hl 2 rfl) ?_
        exact hret _ _ _ dX0_part_39 (by rw [show k = n by omega]; rfl)
      · refine lv_aload_n hx hb dX0_part_14 rfl (lv_at hl 0 rfl) ?_
        refine lv_iload_n hx hb dX0_part_15 rfl (lv_at hl 2 rfl) ?_
        refine roV (As := [.int (mk n (itW par n k (sing v)))]) hC kX0_114 (cX_widened (itW par n k (sing v)) hn hp) hK hP (x_rec hK hP) rfl rfl hl ⟨Nat.le_of_ble_eq_true rfl, Nat.le_of_ble_eq_true rfl⟩ (Nat.le_of_ble_eq_true rfl) dX0_part_16 ⟨Nat.le_of_ble_eq_true rfl, Nat.le_of_ble_eq_true rfl⟩ ?_
        refine lv_istore (lv' := [(4, .int (mk n (wid par n (itW par n k (sing v))))), (0, .ref (a 0)), (1, .int (nI (v))), (2, .int (mk n (itW par n k (sing v)))), (3, .int (nI (k)))]) hx hb dX0_part_19 hl (by decide) rfl (fun ls hl => ?_)
        refine lv_iload hx hb dX0_part_21 (lv_at hl 0 rfl) ?_
        refine lv_iload_n hx hb dX0_part_23 rfl (lv_at hl 3 rfl) ?_
        refine lv_icmp_ne (tgt := 29) hx hb dX0_part_24 (by decide) (fun c_24 => ?_) (fun c_24 => ?_)
        · refine lv_iload hx hb dX0_part_29 (lv_at hl 0 rfl) ?_
          refine lv_istore_n (lv' := [(2, .int (mk n (wid par n (itW par n k (sing v))))), (4, .int (mk n (wid par n (itW par n k (sing v))))), (0, .ref (a 0)), (1, .int (nI (v))), (3, .int (nI (k)))]) hx hb dX0_part_31 rfl hl (by decide) rfl (fun ls hl => ?_)
          refine lv_iinc (v := (nI (k + 1))) (lv' := [(3, .int (nI (k + 1))), (2, .int (mk n (wid par n (itW par n k (sing v))))), (4, .int (mk n (wid par n (itW par n k (sing v))))), (0, .ref (a 0)), (1, .int (nI (v)))]) hx hb dX0_part_32 hl (k := 4) rfl (nI_inc _) (by decide) rfl (fun ls hl => ?_)
          refine lv_goto (tgt := 6) hx hb dX0_part_35 (by decide) ?_
          exact ih_6 (k + 1) (by omega) (by omega) ls (lv_sub hl [3, 4, 1, 0] rfl)
        · refine lv_iload_n hx hb dX0_part_27 rfl (lv_at hl 3 rfl) ?_
          exact hret _ _ _ dX0_part_28 ((mk_cong (fun j hj => by have h := itW_fix hp (w := sing v) (k := k) (fun i hi => mk_inj hn c_24 i hi) (n - k) j hj; rw [show k + (n - k) = n by omega] at h; exact h)).symm)
  exact loop_6 (n - 0 + 1) 0 (Nat.zero_le _) (Nat.lt_succ_self _) ls (lv_sub hl [2, 3, 1, 0] rfl)
set_option maxRecDepth 100000 in
set_option maxHeartbeats 4000000 in
theorem cX_partCount {l : Launch} {E : EE} {a : Nat → Nat} {ids : Nat → Int32} {par : Nat → Option Nat} {rows : Nat → Nat → Int32} {cu pr n rd : Nat}  (hn : n ≤ 24)(hp : PW n par) : RO l E (XP E a ids par rows cu pr n rd) yX0_partCount cX0_partCount 4 (some .int) 4 89 [.ref (a 0)] (nI ((pcF par n n).1)) := by
  refine RO.mk (C := RX0) rfl rfl (by decide) rfl (Nat.le_of_ble_eq_true rfl) ?_
  intro p e s m args below meth c H Q hC hK hP hret ls hl
  obtain ⟨hx, hb, hml, hown, hts⟩ := id hC
  have hl : lv_has ls 4 [(0, .ref (a 0))] := hl
  refine lv_iconst (v := (nI (0))) hx hb dX0_partCount_0 (by decide) ?_
  refine lv_istore_n (lv' := [(1, .int (nI (0))), (0, .ref (a 0))]) hx hb dX0_partCount_1 rfl hl (by decide) rfl (fun ls hl => ?_)
  refine lv_iconst (v := (0)) hx hb dX0_partCount_2 (by decide) ?_
  refine tI ((mk n (fun _ => false))) (mk_0 n) ?_
  refine lv_istore_n (lv' := [(2, .int (mk n (fun _ => false))), (1, .int (nI (0))), (0, .ref (a 0))]) hx hb dX0_partCount_3 rfl hl (by decide) rfl (fun ls hl => ?_)
  refine lv_iconst (v := (nI (0))) hx hb dX0_partCount_4 (by decide) ?_
  refine lv_istore_n (lv' := [(3, .int (nI (0))), (2, .int (mk n (fun _ => false))), (1, .int (nI (0))), (0, .ref (a 0))]) hx hb dX0_partCount_5 rfl hl (by decide) rfl (fun ls hl => ?_)
  have loop_6 : ∀ (fuel : Nat) (k : Nat), (k ≤ n) → n - k < fuel → ∀ (ls : Array Slot), lv_has ls 4 [(0, .ref (a 0)), (1, .int (nI ((pcF par n k).1))), (2, .int (mk n ((pcF par n k).2))), (3, .int (nI (k)))] → W p l e (k2_rm 4 89) s m args below meth c H [] 0 0 Q (F0 m 6 ls []) := by
    intro fuel
    induction fuel with
    | zero => intro k hk hm; exact absurd hm (Nat.not_lt_zero _)
    | succ fuel ih_6 =>
      intro k hk hm ls hl
      refine lv_iload_n hx hb dX0_partCount_6 rfl (lv_at hl 3 rfl) ?_
      refine lv_aload_n hx hb dX0_partCount_7 rfl (lv_at hl 0 rfl) ?_
      refine x_g5 hC hK hP dX0_partCount_8 ?_
      refine nv_ge (tgt := 39) hx hb (by omega) (by omega) dX0_partCount_11 (by decide) (fun c_11 => ?_) (fun c_11 => ?_)
      · refine lv_iload_n hx hb dX0_partCount_39 rfl (lv_at hl 1 rfl) ?_
        exact hret _ _ _ dX0_partCount_40 (by rw [show k = n by omega])
      · refine lv_iload_n hx hb dX0_partCount_14 rfl (lv_at hl 2 rfl) ?_
        refine lv_iload_n hx hb dX0_partCount_15 rfl (lv_at hl 3 rfl) ?_
        refine roS (As := [.int (mk n ((pcF par n k).2)), .int (nI (k))]) hC kX0_63 (cX_isIn ((pcF par n k).2) k hn (by omega)) hK (P := fun _ => True) trivial rfl rfl hl ⟨Nat.le_of_ble_eq_true rfl, Nat.le_of_ble_eq_true rfl⟩ (Nat.le_of_ble_eq_true rfl) dX0_partCount_16 ⟨Nat.le_of_ble_eq_true rfl, Nat.le_of_ble_eq_true rfl⟩ ?_
        refine bv_ne (tgt := 33) hx hb dX0_partCount_19 (by decide) (fun c_19 => ?_) (fun c_19 => ?_)
        · rw [← pcF_in c_19] at hl
          refine lv_iinc (v := (nI (k + 1))) (lv' := [(3, .int (nI (k + 1))), (0, .ref (a 0)), (1, .int (nI ((pcF par n (k + 1)).1))), (2, .int (mk n ((pcF par n (k + 1)).2)))]) hx hb dX0_partCount_33 hl (k := 3) rfl (nI_inc _) (by decide) rfl (fun ls hl => ?_)
          refine lv_goto (tgt := 6) hx hb dX0_partCount_36 (by decide) ?_
          exact ih_6 (k + 1) (by omega) (by omega) ls (lv_sub hl [1, 2, 3, 0] rfl)
        · refine lv_iload_n hx hb dX0_partCount_22 rfl (lv_at hl 2 rfl) ?_
          refine lv_aload_n hx hb dX0_partCount_23 rfl (lv_at hl 0 rfl) ?_
          refine lv_iload_n hx hb dX0_partCount_24 rfl (lv_at hl 3 rfl) ?_
          refine roV (As := [.int (nI (k))]) hC kX0_67 (cX_part k hn hp (by omega)) hK hP (x_rec hK hP) rfl rfl hl ⟨Nat.le_of_ble_eq_true rfl, Nat.le_of_ble_eq_true rfl⟩ (Nat.le_of_ble_eq_true rfl) dX0_partCount_25 ⟨Nat.le_of_ble_eq_true rfl, Nat.le_of_ble_eq_true rfl⟩ ?_
          refine lv_ior hx hb dX0_partCount_28 ?_
          refine tI ((mk n ((pcF par n (k + 1)).2))) (by rw [mk_or, pcF_out c_19]) ?_
          refine lv_istore_n (lv' := [(2, .int (mk n ((pcF par n (k + 1)).2))), (0, .ref (a 0)), (1, .int (nI ((pcF par n k).1))), (3, .int (nI (k)))]) hx hb dX0_partCount_29 rfl hl (by decide) rfl (fun ls hl => ?_)
          refine lv_iinc (v := (nI ((pcF par n (k + 1)).1))) (lv' := [(1, .int (nI ((pcF par n (k + 1)).1))), (2, .int (mk n ((pcF par n (k + 1)).2))), (0, .ref (a 0)), (3, .int (nI (k)))]) hx hb dX0_partCount_30 hl (k := 2) rfl (by rw [pcF_out c_19]; exact nI_inc _) (by decide) rfl (fun ls hl => ?_)
          refine lv_iinc (v := (nI (k + 1))) (lv' := [(3, .int (nI (k + 1))), (1, .int (nI ((pcF par n (k + 1)).1))), (2, .int (mk n ((pcF par n (k + 1)).2))), (0, .ref (a 0))]) hx hb dX0_partCount_33 hl (k := 3) rfl (nI_inc _) (by decide) rfl (fun ls hl => ?_)
          refine lv_goto (tgt := 6) hx hb dX0_partCount_36 (by decide) ?_
          exact ih_6 (k + 1) (by omega) (by omega) ls (lv_sub hl [3, 1, 2, 0] rfl)
  exact loop_6 (n - 0 + 1) 0 (Nat.zero_le _) (Nat.lt_succ_self _) ls (lv_sub hl [3, 2, 1, 0] rfl)
set_option maxRecDepth 100000 in
set_option maxHeartbeats 4000000 in
theorem cX_first {l : Launch} {E : EE} {a : Nat → Nat} {ids : Nat → Int32} {par : Nat → Option Nat} {rows : Nat → Nat → Int32} {cu pr n rd : Nat} (v : Nat) (hn : n ≤ 24)(hcu : cu < 18)(hv : v < n) : RO l E (XP E a ids par rows cu pr n rd) yX0_isFirstOfItsColour cX0_isFirstOfItsColour 3 (some .boolean) 0 0 [.ref (a 0), .int (nI (v))] (b2i (frst (rows cu) v)) := by
  refine RO.mk (C := RX0) rfl (b2i_nar _) (by decide) rfl (Nat.le_of_ble_eq_true rfl) ?_
  intro p e s m args below meth c H Q hC hK hP hret ls hl
  obtain ⟨hx, hb, hml, hown, hts⟩ := id hC
  have hl : lv_has ls 3 [(0, .ref (a 0)), (1, .int (nI (v)))] := hl
  refine lv_iconst (v := (nI (0))) hx hb dX0_isFirstOfItsColour_0 (by decide) ?_
  refine lv_istore_n (lv' := [(2, .int (nI (0))), (0, .ref (a 0)), (1, .int (nI (v)))]) hx hb dX0_isFirstOfItsColour_1 rfl hl (by decide) rfl (fun ls hl => ?_)
  have loop_2 : ∀ (fuel : Nat) (k : Nat), (k ≤ v) → (∀ j, j < k → ¬ rows cu j = rows cu v) → v - k < fuel → ∀ (ls : Array Slot), lv_has ls 3 [(0, .ref (a 0)), (1, .int (nI (v))), (2, .int (nI (k)))] → W p l e (k2_rm 0 0) s m args below meth c H [] 0 0 Q (F0 m 2 ls []) := by
    intro fuel
    induction fuel with
    | zero => intro k hk hno hm; exact absurd hm (Nat.not_lt_zero _)
    | succ fuel ih_2 =>
      intro k hk hno hm ls hl
      refine lv_iload_n hx hb dX0_isFirstOfItsColour_2 rfl (lv_at hl 2 rfl) ?_
      refine lv_iload_n hx hb dX0_isFirstOfItsColour_3 rfl (lv_at hl 1 rfl) ?_
      refine nv_ge (tgt := 30) hx hb (by omega) (by omega) dX0_isFirstOfItsColour_4 (by decide) (fun c_4 => ?_) (fun c_4 => ?_)
      · refine lv_iconst (v := (1)) hx hb dX0_isFirstOfItsColour_30 (by decide) ?_
        exact hret _ _ _ dX0_isFirstOfItsColour_31 (by rw [frst, anyB_no (fun j hj => by simp [hno j (by omega)])]; rfl)
      · refine lv_aload_n hx hb dX0_isFirstOfItsColour_7 rfl (lv_at hl 0 rfl) ?_
        refine x_g3 hC hK hP dX0_isFirstOfItsColour_8 ?_
        refine lv_iload_n hx hb dX0_isFirstOfItsColour_11 rfl (lv_at hl 2 rfl) ?_
        refine x_ldC (by omega) hx hb hK hP (by omega) dX0_isFirstOfItsColour_12 ?_
        refine lv_aload_n hx hb dX0_isFirstOfItsColour_13 rfl (lv_at hl 0 rfl) ?_
        refine x_g3 hC hK hP dX0_isFirstOfItsColour_14 ?_
        refine lv_iload_n hx hb dX0_isFirstOfItsColour_17 rfl (lv_at hl 1 rfl) ?_
        refine x_ldC (by omega) hx hb hK hP (by omega) dX0_isFirstOfItsColour_18 ?_
        refine lv_icmp_ne (tgt := 24) hx hb dX0_isFirstOfItsColour_19 (by decide) (fun c_19 => ?_) (fun c_19 => ?_)
        · refine lv_iinc (v := (nI (k + 1))) (lv' := [(2, .int (nI (k + 1))), (0, .ref (a 0)), (1, .int (nI (v)))]) hx hb dX0_isFirstOfItsColour_24 hl (k := 2) rfl (nI_inc _) (by decide) rfl (fun ls hl => ?_)
          refine lv_goto (tgt := 2) hx hb dX0_isFirstOfItsColour_27 (by decide) ?_
          exact ih_2 (k + 1) (by omega) (lt_s hno c_19) (by omega) ls (lv_sub hl [1, 2, 0] rfl)
        · refine lv_iconst (v := (0)) hx hb dX0_isFirstOfItsColour_22 (by decide) ?_
          exact hret _ _ _ dX0_isFirstOfItsColour_23 (by rw [frst, anyB_yes (k := k) (by omega) (by simp [c_19])]; rfl)
  exact loop_2 (v - 0 + 1) 0 (Nat.zero_le _) (lt_0) (Nat.lt_succ_self _) ls (lv_sub hl [1, 2, 0] rfl)
set_option maxRecDepth 100000 in
set_option maxHeartbeats 4000000 in
theorem cX_colourCount {l : Launch} {E : EE} {a : Nat → Nat} {ids : Nat → Int32} {par : Nat → Option Nat} {rows : Nat → Nat → Int32} {cu pr n rd : Nat}  (hn : n ≤ 24)(hcu : cu < 18) : RO l E (XP E a ids par rows cu pr n rd) yX0_colourCount cX0_colourCount 3 (some .int) 1 22 [.ref (a 0)] (nI (fb_ct (frst (rows cu)) n)) := by
  refine RO.mk (C := RX0) rfl rfl (by decide) rfl (Nat.le_of_ble_eq_true rfl) ?_
  intro p e s m args below meth c H Q hC hK hP hret ls hl
  obtain ⟨hx, hb, hml, hown, hts⟩ := id hC
  have hl : lv_has ls 3 [(0, .ref (a 0))] := hl
  refine lv_iconst (v := (nI (0))) hx hb dX0_colourCount_0 (by decide) ?_
  refine lv_istore_n (lv' := [(1, .int (nI (0))), (0, .ref (a 0))]) hx hb dX0_colourCount_1 rfl hl (by decide) rfl (fun ls hl => ?_)
  refine lv_iconst (v := (nI (0))) hx hb dX0_colourCount_2 (by decide) ?_
  refine lv_istore_n (lv' := [(2, .int (nI (0))), (1, .int (nI (0))), (0, .ref (a 0))]) hx hb dX0_colourCount_3 rfl hl (by decide) rfl (fun ls hl => ?_)
  have loop_4 : ∀ (fuel : Nat) (k : Nat), (k ≤ n) → n - k < fuel → ∀ (ls : Array Slot), lv_has ls 3 [(0, .ref (a 0)), (1, .int (nI (fb_ct (frst (rows cu)) k))), (2, .int (nI (k)))] → W p l e (k2_rm 1 22) s m args below meth c H [] 0 0 Q (F0 m 4 ls []) := by
    intro fuel
    induction fuel with
    | zero => intro k hk hm; exact absurd hm (Nat.not_lt_zero _)
    | succ fuel ih_4 =>
      intro k hk hm ls hl
      refine lv_iload_n hx hb dX0_colourCount_4 rfl (lv_at hl 2 rfl) ?_
      refine lv_aload_n hx hb dX0_colourCount_5 rfl (lv_at hl 0 rfl) ?_
      refine x_g5 hC hK hP dX0_colourCount_6 ?_
      refine nv_ge (tgt := 29) hx hb (by omega) (by omega) dX0_colourCount_9 (by decide) (fun c_9 => ?_) (fun c_9 => ?_)
      · refine lv_iload_n hx hb dX0_colourCount_29 rfl (lv_at hl 1 rfl) ?_
        exact hret _ _ _ dX0_colourCount_30 (by rw [show k = n by omega])
      · refine lv_aload_n hx hb dX0_colourCount_12 rfl (lv_at hl 0 rfl) ?_
        refine lv_iload_n hx hb dX0_colourCount_13 rfl (lv_at hl 2 rfl) ?_
        refine roV (As := [.int (nI (k))]) hC kX0_73 (cX_first k hn hcu (by omega)) hK hP (x_rec hK hP) rfl rfl hl ⟨Nat.le_of_ble_eq_true rfl, Nat.le_of_ble_eq_true rfl⟩ (Nat.le_of_ble_eq_true rfl) dX0_colourCount_14 ⟨Nat.le_of_ble_eq_true rfl, Nat.le_of_ble_eq_true rfl⟩ ?_
        refine bv_eq (tgt := 23) hx hb dX0_colourCount_17 (by decide) (fun c_17 => ?_) (fun c_17 => ?_)
        · rw [← fb_ct_f (p := frst (rows cu)) c_17] at hl
          refine lv_iinc (v := (nI (k + 1))) (lv' := [(2, .int (nI (k + 1))), (0, .ref (a 0)), (1, .int (nI (fb_ct (frst (rows cu)) (k + 1))))]) hx hb dX0_colourCount_23 hl (k := 2) rfl (nI_inc _) (by decide) rfl (fun ls hl => ?_)
          refine lv_goto (tgt := 4) hx hb dX0_colourCount_26 (by decide) ?_
          exact ih_4 (k + 1) (by omega) (by omega) ls (lv_sub hl [1, 2, 0] rfl)
        · refine lv_iinc (v := (nI (fb_ct (frst (rows cu)) (k + 1)))) (lv' := [(1, .int (nI (fb_ct (frst (rows cu)) (k + 1)))), (0, .ref (a 0)), (2, .int (nI (k)))]) hx hb dX0_colourCount_20 hl (k := 1) rfl (by rw [fb_ct_t c_17]; exact nI_inc _) (by decide) rfl (fun ls hl => ?_)
          refine lv_iinc (v := (nI (k + 1))) (lv' := [(2, .int (nI (k + 1))), (1, .int (nI (fb_ct (frst (rows cu)) (k + 1)))), (0, .ref (a 0))]) hx hb dX0_colourCount_23 hl (k := 2) rfl (nI_inc _) (by decide) rfl (fun ls hl => ?_)
          refine lv_goto (tgt := 4) hx hb dX0_colourCount_26 (by decide) ?_
          exact ih_4 (k + 1) (by omega) (by omega) ls (lv_sub hl [2, 1, 0] rfl)
  exact loop_4 (n - 0 + 1) 0 (Nat.zero_le _) (Nat.lt_succ_self _) ls (lv_sub hl [2, 1, 0] rfl)
set_option maxRecDepth 100000 in
set_option maxHeartbeats 4000000 in
theorem cJ_max {l : Launch} {E : EE}  (x y : Int32)  : RO l E ((fun _ => True)) yJ9_max_7cf53 cJ9_max_7cf53 2 (some .int) 0 0 [.int (x), .int (y)] (max32 x y) := by
  refine RO.mkF (C := RJ9) rfl rfl (by decide +kernel) rfl (Nat.le_of_ble_eq_true rfl) ?_
  intro p e s m args below meth c H Q hC hK hP hret ls hl
  obtain ⟨hx, hb, hml, hown, hts⟩ := id hC
  have hl : lv_has ls 2 [(0, .int (x)), (1, .int (y))] := hl
  refine lv_iload_n hx hb dJ9_max_7cf53_0 rfl (lv_at hl 0 rfl) ?_
  refine lv_iload_n hx hb dJ9_max_7cf53_1 rfl (lv_at hl 1 rfl) ?_
  refine lv_icmp_lt (tgt := 9) hx hb dJ9_max_7cf53_2 (by decide) (fun c_2 => ?_) (fun c_2 => ?_)
  · refine lv_iload_n hx hb dJ9_max_7cf53_9 rfl (lv_at hl 1 rfl) ?_
    exact hret _ _ _ dJ9_max_7cf53_10 (by simp [max32, c_2])
  · refine lv_iload_n hx hb dJ9_max_7cf53_5 rfl (lv_at hl 0 rfl) ?_
    refine lv_goto (tgt := 10) hx hb dJ9_max_7cf53_6 (by decide) ?_
    exact hret _ _ _ dJ9_max_7cf53_10 (by simp [max32, c_2])
set_option maxRecDepth 100000 in
set_option maxHeartbeats 4000000 in
theorem cX_greatest {l : Launch} {E : EE} {a : Nat → Nat} {ids : Nat → Int32} {par : Nat → Option Nat} {rows : Nat → Nat → Int32} {cu pr n rd : Nat}  (hn : n ≤ 24)(hcu : cu < 18) : RO l E (XP E a ids par rows cu pr n rd) yX0_greatestColour cX0_greatestColour 3 (some .int) 1 21 [.ref (a 0)] (mxF (rows cu) n) := by
  refine RO.mk (C := RX0) rfl rfl (by decide) rfl (Nat.le_of_ble_eq_true rfl) ?_
  intro p e s m args below meth c H Q hC hK hP hret ls hl
  obtain ⟨hx, hb, hml, hown, hts⟩ := id hC
  have hl : lv_has ls 3 [(0, .ref (a 0))] := hl
  refine lv_bipush (v := (-7)) hx hb dX0_greatestColour_0 (by decide) ?_
  refine lv_istore_n (lv' := [(1, .int (-7)), (0, .ref (a 0))]) hx hb dX0_greatestColour_2 rfl hl (by decide) rfl (fun ls hl => ?_)
  refine lv_iconst (v := (nI (0))) hx hb dX0_greatestColour_3 (by decide) ?_
  refine lv_istore_n (lv' := [(2, .int (nI (0))), (1, .int (-7)), (0, .ref (a 0))]) hx hb dX0_greatestColour_4 rfl hl (by decide) rfl (fun ls hl => ?_)
  have loop_5 : ∀ (fuel : Nat) (k : Nat), (k ≤ n) → n - k < fuel → ∀ (ls : Array Slot), lv_has ls 3 [(0, .ref (a 0)), (1, .int (mxF (rows cu) k)), (2, .int (nI (k)))] → W p l e (k2_rm 1 21) s m args below meth c H [] 0 0 Q (F0 m 5 ls []) := by
    intro fuel
    induction fuel with
    | zero => intro k hk hm; exact absurd hm (Nat.not_lt_zero _)
    | succ fuel ih_5 =>
      intro k hk hm ls hl
      refine lv_iload_n hx hb dX0_greatestColour_5 rfl (lv_at hl 2 rfl) ?_
      refine lv_aload_n hx hb dX0_greatestColour_6 rfl (lv_at hl 0 rfl) ?_
      refine x_g5 hC hK hP dX0_greatestColour_7 ?_
      refine nv_ge (tgt := 30) hx hb (by omega) (by omega) dX0_greatestColour_10 (by decide) (fun c_10 => ?_) (fun c_10 => ?_)
      · refine lv_iload_n hx hb dX0_greatestColour_30 rfl (lv_at hl 1 rfl) ?_
        exact hret _ _ _ dX0_greatestColour_31 (by rw [show k = n by omega])
      · refine lv_iload_n hx hb dX0_greatestColour_13 rfl (lv_at hl 1 rfl) ?_
        refine lv_aload_n hx hb dX0_greatestColour_14 rfl (lv_at hl 0 rfl) ?_
        refine x_g3 hC hK hP dX0_greatestColour_15 ?_
        refine lv_iload_n hx hb dX0_greatestColour_18 rfl (lv_at hl 2 rfl) ?_
        refine x_ldC (by omega) hx hb hK hP (by omega) dX0_greatestColour_19 ?_
        refine roS (As := [.int (mxF (rows cu) k), .int (rows cu k)]) hC kX0_76 (cJ_max ((mxF (rows cu) k)) ((rows cu k)) ) hK (P := fun _ => True) trivial rfl rfl hl ⟨Nat.le_of_ble_eq_true rfl, Nat.le_of_ble_eq_true rfl⟩ (Nat.le_of_ble_eq_true rfl) dX0_greatestColour_20 ⟨Nat.le_of_ble_eq_true rfl, Nat.le_of_ble_eq_true rfl⟩ ?_
        refine lv_istore_n (lv' := [(1, .int (max32 ((mxF (rows cu) k)) ((rows cu k)))), (0, .ref (a 0)), (2, .int (nI (k)))]) hx hb dX0_greatestColour_23 rfl hl (by decide) rfl (fun ls hl => ?_)
        refine lv_iinc (v := (nI (k + 1))) (lv' := [(2, .int (nI (k + 1))), (1, .int (max32 ((mxF (rows cu) k)) ((rows cu k)))), (0, .ref (a 0))]) hx hb dX0_greatestColour_24 hl (k := 2) rfl (nI_inc _) (by decide) rfl (fun ls hl => ?_)
        refine lv_goto (tgt := 5) hx hb dX0_greatestColour_27 (by decide) ?_
        exact ih_5 (k + 1) (by omega) (by omega) ls (lv_sub hl [2, 1, 0] rfl)
  exact loop_5 (n - 0 + 1) 0 (Nat.zero_le _) (Nat.lt_succ_self _) ls (lv_sub hl [2, 1, 0] rfl)
set_option maxRecDepth 100000 in
set_option maxHeartbeats 4000000 in
theorem cX_conf {l : Launch} {E : EE} {a : Nat → Nat} {ids : Nat → Int32} {par : Nat → Option Nat} {rows : Nat → Nat → Int32} {cu pr n rd : Nat} (v : Nat) (hn : n ≤ 24)(hcu : cu < 18)(hp : PW n par)(hv : v < n) : RO l E (XP E a ids par rows cu pr n rd) yX0_isInConflict cX0_isInConflict 2 (some .boolean) 2 42 [.ref (a 0), .int (nI (v))] (b2i (conf par (rows cu) v)) := by
  refine RO.mk (C := RX0) rfl (b2i_nar _) (by decide) rfl (Nat.le_of_ble_eq_true rfl) ?_
  intro p e s m args below meth c H Q hC hK hP hret ls hl
  obtain ⟨hx, hb, hml, hown, hts⟩ := id hC
  have hl : lv_has ls 2 [(0, .ref (a 0)), (1, .int (nI (v)))] := hl
  refine lv_aload_n hx hb dX0_isInConflict_0 rfl (lv_at hl 0 rfl) ?_
  refine lv_iload_n hx hb dX0_isInConflict_1 rfl (lv_at hl 1 rfl) ?_
  refine roV (As := [.int (nI (v))]) hC kX0_60 (cX_isRoot v hn hp (by omega)) hK hP (x_rec hK hP) rfl rfl hl ⟨Nat.le_of_ble_eq_true rfl, Nat.le_of_ble_eq_true rfl⟩ (Nat.le_of_ble_eq_true rfl) dX0_isInConflict_2 ⟨Nat.le_of_ble_eq_true rfl, Nat.le_of_ble_eq_true rfl⟩ ?_
  refine bv_ne (tgt := 32) hx hb dX0_isInConflict_5 (by decide) (fun c_5 => ?_) (fun c_5 => ?_)
  · refine lv_iconst (v := (0)) hx hb dX0_isInConflict_32 (by decide) ?_
    exact hret _ _ _ dX0_isInConflict_33 (by simp [conf, isNone_t c_5, b2i])
  · obtain ⟨u, hu⟩ := isNone_f c_5
    have hun := hp.lt hv hu
    refine lv_aload_n hx hb dX0_isInConflict_8 rfl (lv_at hl 0 rfl) ?_
    refine x_g3 hC hK hP dX0_isInConflict_9 ?_
    refine lv_iload_n hx hb dX0_isInConflict_12 rfl (lv_at hl 1 rfl) ?_
    refine x_ldC (by omega) hx hb hK hP (by omega) dX0_isInConflict_13 ?_
    refine lv_aload_n hx hb dX0_isInConflict_14 rfl (lv_at hl 0 rfl) ?_
    refine x_g3 hC hK hP dX0_isInConflict_15 ?_
    refine lv_aload_n hx hb dX0_isInConflict_18 rfl (lv_at hl 0 rfl) ?_
    refine x_g1 hC hK hP dX0_isInConflict_19 ?_
    refine lv_iload_n hx hb dX0_isInConflict_22 rfl (lv_at hl 1 rfl) ?_
    refine x_ldP hx hb hK hP (by omega) dX0_isInConflict_23 ?_
    refine tI ((nI (u))) (by rw [hu]; rfl) ?_
    refine x_ldC (by omega) hx hb hK hP (by omega) dX0_isInConflict_24 ?_
    refine lv_icmp_ne (tgt := 32) hx hb dX0_isInConflict_25 (by decide) (fun c_25 => ?_) (fun c_25 => ?_)
    · refine lv_iconst (v := (0)) hx hb dX0_isInConflict_32 (by decide) ?_
      exact hret _ _ _ dX0_isInConflict_33 (by simp [conf, hu, c_25, b2i])
    · refine lv_iconst (v := (1)) hx hb dX0_isInConflict_28 (by decide) ?_
      refine lv_goto (tgt := 33) hx hb dX0_isInConflict_29 (by decide) ?_
      exact hret _ _ _ dX0_isInConflict_33 (by simp [conf, hu, c_25, b2i])
set_option maxRecDepth 100000 in
set_option maxHeartbeats 4000000 in
theorem cX_conflictCount {l : Launch} {E : EE} {a : Nat → Nat} {ids : Nat → Int32} {par : Nat → Option Nat} {rows : Nat → Nat → Int32} {cu pr n rd : Nat}  (hn : n ≤ 24)(hcu : cu < 18)(hp : PW n par) : RO l E (XP E a ids par rows cu pr n rd) yX0_conflictCount cX0_conflictCount 3 (some .int) 3 63 [.ref (a 0)] (nI (fb_ct (conf par (rows cu)) n)) := by
  refine RO.mk (C := RX0) rfl rfl (by decide) rfl (Nat.le_of_ble_eq_true rfl) ?_
  intro p e s m args below meth c H Q hC hK hP hret ls hl
  obtain ⟨hx, hb, hml, hown, hts⟩ := id hC
  have hl : lv_has ls 3 [(0, .ref (a 0))] := hl
  refine lv_iconst (v := (nI (0))) hx hb dX0_conflictCount_0 (by decide) ?_
  refine lv_istore_n (lv' := [(1, .int (nI (0))), (0, .ref (a 0))]) hx hb dX0_conflictCount_1 rfl hl (by decide) rfl (fun ls hl => ?_)
  refine lv_iconst (v := (nI (0))) hx hb dX0_conflictCount_2 (by decide) ?_
  refine lv_istore_n (lv' := [(2, .int (nI (0))), (1, .int (nI (0))), (0, .ref (a 0))]) hx hb dX0_conflictCount_3 rfl hl (by decide) rfl (fun ls hl => ?_)
  have loop_4 : ∀ (fuel : Nat) (k : Nat), (k ≤ n) → n - k < fuel → ∀ (ls : Array Slot), lv_has ls 3 [(0, .ref (a 0)), (1, .int (nI (fb_ct (conf par (rows cu)) k))), (2, .int (nI (k)))] → W p l e (k2_rm 3 63) s m args below meth c H [] 0 0 Q (F0 m 4 ls []) := by
    intro fuel
    induction fuel with
    | zero => intro k hk hm; exact absurd hm (Nat.not_lt_zero _)
    | succ fuel ih_4 =>
      intro k hk hm ls hl
      refine lv_iload_n hx hb dX0_conflictCount_4 rfl (lv_at hl 2 rfl) ?_
      refine lv_aload_n hx hb dX0_conflictCount_5 rfl (lv_at hl 0 rfl) ?_
      refine x_g5 hC hK hP dX0_conflictCount_6 ?_
      refine nv_ge (tgt := 29) hx hb (by omega) (by omega) dX0_conflictCount_9 (by decide) (fun c_9 => ?_) (fun c_9 => ?_)
      · refine lv_iload_n hx hb dX0_conflictCount_29 rfl (lv_at hl 1 rfl) ?_
        exact hret _ _ _ dX0_conflictCount_30 (by rw [show k = n by omega])
      · refine lv_aload_n hx hb dX0_conflictCount_12 rfl (lv_at hl 0 rfl) ?_
        refine lv_iload_n hx hb dX0_conflictCount_13 rfl (lv_at hl 2 rfl) ?_
        refine roV (As := [.int (nI (k))]) hC kX0_81 (cX_conf k hn hcu hp (by omega)) hK hP (x_rec hK hP) rfl rfl hl ⟨Nat.le_of_ble_eq_true rfl, Nat.le_of_ble_eq_true rfl⟩ (Nat.le_of_ble_eq_true rfl) dX0_conflictCount_14 ⟨Nat.le_of_ble_eq_true rfl, Nat.le_of_ble_eq_true rfl⟩ ?_
        refine bv_eq (tgt := 23) hx hb dX0_conflictCount_17 (by decide) (fun c_17 => ?_) (fun c_17 => ?_)
        · rw [← fb_ct_f (p := conf par (rows cu)) c_17] at hl
          refine lv_iinc (v := (nI (k + 1))) (lv' := [(2, .int (nI (k + 1))), (0, .ref (a 0)), (1, .int (nI (fb_ct (conf par (rows cu)) (k + 1))))]) hx hb dX0_conflictCount_23 hl (k := 2) rfl (nI_inc _) (by decide) rfl (fun ls hl => ?_)
          refine lv_goto (tgt := 4) hx hb dX0_conflictCount_26 (by decide) ?_
          exact ih_4 (k + 1) (by omega) (by omega) ls (lv_sub hl [1, 2, 0] rfl)
        · refine lv_iinc (v := (nI (fb_ct (conf par (rows cu)) (k + 1)))) (lv' := [(1, .int (nI (fb_ct (conf par (rows cu)) (k + 1)))), (0, .ref (a 0)), (2, .int (nI (k)))]) hx hb dX0_conflictCount_20 hl (k := 1) rfl (by rw [fb_ct_t c_17]; exact nI_inc _) (by decide) rfl (fun ls hl => ?_)
          refine lv_iinc (v := (nI (k + 1))) (lv' := [(2, .int (nI (k + 1))), (1, .int (nI (fb_ct (conf par (rows cu)) (k + 1)))), (0, .ref (a 0))]) hx hb dX0_conflictCount_23 hl (k := 2) rfl (nI_inc _) (by decide) rfl (fun ls hl => ?_)
          refine lv_goto (tgt := 4) hx hb dX0_conflictCount_26 (by decide) ?_
          exact ih_4 (k + 1) (by omega) (by omega) ls (lv_sub hl [2, 1, 0] rfl)
  exact loop_4 (n - 0 + 1) 0 (Nat.zero_le _) (Nat.lt_succ_self _) ls (lv_sub hl [2, 1, 0] rfl)
set_option maxRecDepth 100000 in
set_option maxHeartbeats 4000000 in
theorem cX_proper {l : Launch} {E : EE} {a : Nat → Nat} {ids : Nat → Int32} {par : Nat → Option Nat} {rows : Nat → Nat → Int32} {cu pr n rd : Nat}  (hn : n ≤ 24)(hcu : cu < 18)(hp : PW n par) : RO l E (XP E a ids par rows cu pr n rd) yX0_isProper cX0_isProper 1 (some .boolean) 4 85 [.ref (a 0)] (b2i (propB n par (rows cu))) := by
  refine RO.mk (C := RX0) rfl (b2i_nar _) (by decide) rfl (Nat.le_of_ble_eq_true rfl) ?_
  intro p e s m args below meth c H Q hC hK hP hret ls hl
  obtain ⟨hx, hb, hml, hown, hts⟩ := id hC
  have hl : lv_has ls 1 [(0, .ref (a 0))] := hl
  have hle := fb_ct_le (conf par (rows cu)) n
  refine lv_aload_n hx hb dX0_isProper_0 rfl (lv_at hl 0 rfl) ?_
  refine roV (As := []) hC kX0_117 (cX_conflictCount  hn hcu hp) hK hP (x_rec hK hP) rfl rfl hl ⟨Nat.le_of_ble_eq_true rfl, Nat.le_of_ble_eq_true rfl⟩ (Nat.le_of_ble_eq_true rfl) dX0_isProper_1 ⟨Nat.le_of_ble_eq_true rfl, Nat.le_of_ble_eq_true rfl⟩ ?_
  refine lv_if_ne (tgt := 11) hx hb dX0_isProper_4 (by decide) (fun c_4 => ?_) (fun c_4 => ?_)
  · refine lv_iconst (v := (0)) hx hb dX0_isProper_11 (by decide) ?_
    exact hret _ _ _ dX0_isProper_12 (by rw [nI_z (by omega)] at c_4; simp [propB, c_4, b2i])
  · refine lv_iconst (v := (1)) hx hb dX0_isProper_7 (by decide) ?_
    refine lv_goto (tgt := 12) hx hb dX0_isProper_8 (by decide) ?_
    exact hret _ _ _ dX0_isProper_12 (by rw [nI_z (by omega)] at c_4; simp [propB, c_4, b2i])
set_option maxRecDepth 100000 in
set_option maxHeartbeats 4000000 in
theorem cX_has {l : Launch} {E : EE} {a : Nat → Nat} {ids : Nat → Int32} {par : Nat → Option Nat} {rows : Nat → Nat → Int32} {cu pr n rd : Nat} (v : Nat) (c0 : Int32) (hn : n ≤ 24)(hcu : cu < 18)(hp : PW n par)(hv : v < n) : RO l E (XP E a ids par rows cu pr n rd) yX0_hasNeighbourOfColour cX0_hasNeighbourOfColour 4 (some .boolean) 1 22 [.ref (a 0), .int (nI (v)), .int (c0)] (b2i (bes par (rows cu) n v c0)) := by
  refine RO.mk (C := RX0) rfl (b2i_nar _) (by decide) rfl (Nat.le_of_ble_eq_true rfl) ?_
  intro p e s m args below meth c H Q hC hK hP hret ls hl
  obtain ⟨hx, hb, hml, hown, hts⟩ := id hC
  have hl : lv_has ls 4 [(0, .ref (a 0)), (1, .int (nI (v))), (2, .int (c0))] := hl
  refine lv_iconst (v := (nI (0))) hx hb dX0_hasNeighbourOfColour_0 (by decide) ?_
  refine lv_istore_n (lv' := [(3, .int (nI (0))), (0, .ref (a 0)), (1, .int (nI (v))), (2, .int (c0))]) hx hb dX0_hasNeighbourOfColour_1 rfl hl (by decide) rfl (fun ls hl => ?_)
  have loop_2 : ∀ (fuel : Nat) (k : Nat), (k ≤ n) → (∀ j, j < k → (nb par v j && decide (rows cu j = c0)) = false) → n - k < fuel → ∀ (ls : Array Slot), lv_has ls 4 [(0, .ref (a 0)), (1, .int (nI (v))), (2, .int (c0)), (3, .int (nI (k)))] → W p l e (k2_rm 1 22) s m args below meth c H [] 0 0 Q (F0 m 2 ls []) := by
    intro fuel
    induction fuel with
    | zero => intro k hk hno hm; exact absurd hm (Nat.not_lt_zero _)
    | succ fuel ih_2 =>
      intro k hk hno hm ls hl
      refine lv_iload_n hx hb dX0_hasNeighbourOfColour_2 rfl (lv_at hl 3 rfl) ?_
      refine lv_aload_n hx hb dX0_hasNeighbourOfColour_3 rfl (lv_at hl 0 rfl) ?_
      refine x_g5 hC hK hP dX0_hasNeighbourOfColour_4 ?_
      refine nv_ge (tgt := 37) hx hb (by omega) (by omega) dX0_hasNeighbourOfColour_7 (by decide) (fun c_7 => ?_) (fun c_7 => ?_)
      · refine lv_iconst (v := (0)) hx hb dX0_hasNeighbourOfColour_37 (by decide) ?_
        exact hret _ _ _ dX0_hasNeighbourOfColour_38 (by rw [bes, anyB_no (fun j hj => hno j (by omega))]; rfl)
      · refine lv_aload_n hx hb dX0_hasNeighbourOfColour_10 rfl (lv_at hl 0 rfl) ?_
        refine x_g3 hC hK hP dX0_hasNeighbourOfColour_11 ?_
        refine lv_iload_n hx hb dX0_hasNeighbourOfColour_14 rfl (lv_at hl 3 rfl) ?_
        refine x_ldC (by omega) hx hb hK hP (by omega) dX0_hasNeighbourOfColour_15 ?_
        refine lv_iload_n hx hb dX0_hasNeighbourOfColour_16 rfl (lv_at hl 2 rfl) ?_
        refine lv_icmp_ne (tgt := 31) hx hb dX0_hasNeighbourOfColour_17 (by decide) (fun c_17 => ?_) (fun c_17 => ?_)
        · refine lv_iinc (v := (nI (k + 1))) (lv' := [(3, .int (nI (k + 1))), (0, .ref (a 0)), (1, .int (nI (v))), (2, .int (c0))]) hx hb dX0_hasNeighbourOfColour_31 hl (k := 3) rfl (nI_inc _) (by decide) rfl (fun ls hl => ?_)
          refine lv_goto (tgt := 2) hx hb dX0_hasNeighbourOfColour_34 (by decide) ?_
          exact ih_2 (k + 1) (by omega) (lt_s hno (by simp [c_17])) (by omega) ls (lv_sub hl [1, 2, 3, 0] rfl)
        · refine lv_aload_n hx hb dX0_hasNeighbourOfColour_20 rfl (lv_at hl 0 rfl) ?_
          refine lv_iload_n hx hb dX0_hasNeighbourOfColour_21 rfl (lv_at hl 1 rfl) ?_
          refine lv_iload_n hx hb dX0_hasNeighbourOfColour_22 rfl (lv_at hl 3 rfl) ?_
          refine roV (As := [.int (nI (v)), .int (nI (k))]) hC kX0_111 (cX_nb v k hn hp (by omega) (by omega)) hK hP (x_rec hK hP) rfl rfl hl ⟨Nat.le_of_ble_eq_true rfl, Nat.le_of_ble_eq_true rfl⟩ (Nat.le_of_ble_eq_true rfl) dX0_hasNeighbourOfColour_23 ⟨Nat.le_of_ble_eq_true rfl, Nat.le_of_ble_eq_true rfl⟩ ?_
          refine bv_eq (tgt := 31) hx hb dX0_hasNeighbourOfColour_26 (by decide) (fun c_26 => ?_) (fun c_26 => ?_)
          · refine lv_iinc (v := (nI (k + 1))) (lv' := [(3, .int (nI (k + 1))), (0, .ref (a 0)), (1, .int (nI (v))), (2, .int (c0))]) hx hb dX0_hasNeighbourOfColour_31 hl (k := 3) rfl (nI_inc _) (by decide) rfl (fun ls hl => ?_)
            refine lv_goto (tgt := 2) hx hb dX0_hasNeighbourOfColour_34 (by decide) ?_
            exact ih_2 (k + 1) (by omega) (lt_s hno (by simp [c_26])) (by omega) ls (lv_sub hl [1, 2, 3, 0] rfl)
          · refine lv_iconst (v := (1)) hx hb dX0_hasNeighbourOfColour_29 (by decide) ?_
            exact hret _ _ _ dX0_hasNeighbourOfColour_30 (by rw [bes, anyB_yes (k := k) (by omega) (by simp [c_17, c_26])]; rfl)
  exact loop_2 (n - 0 + 1) 0 (Nat.zero_le _) (lt_0) (Nat.lt_succ_self _) ls (lv_sub hl [1, 2, 3, 0] rfl)
set_option maxRecDepth 100000 in
set_option maxHeartbeats 4000000 in
theorem cX_lowest {l : Launch} {E : EE} {a : Nat → Nat} {ids : Nat → Int32} {par : Nat → Option Nat} {rows : Nat → Nat → Int32} {cu pr n rd : Nat} (v lim : Nat) (hn : n ≤ 24)(hcu : cu < 18)(hp : PW n par)(hv : v < n)(hlm : lim ≤ 24) : RO l E (XP E a ids par rows cu pr n rd) yX0_lowestFreeColour cX0_lowestFreeColour 4 (some .int) 2 45 [.ref (a 0), .int (nI (v)), .int (nI (lim))] (pe (freF par (rows cu) n v lim)) := by
  refine RO.mk (C := RX0) rfl rfl (by decide) rfl (Nat.le_of_ble_eq_true rfl) ?_
  intro p e s m args below meth c H Q hC hK hP hret ls hl
  obtain ⟨hx, hb, hml, hown, hts⟩ := id hC
  have hl : lv_has ls 4 [(0, .ref (a 0)), (1, .int (nI (v))), (2, .int (nI (lim)))] := hl
  refine lv_iconst (v := (nI (0))) hx hb dX0_lowestFreeColour_0 (by decide) ?_
  refine lv_istore_n (lv' := [(3, .int (nI (0))), (0, .ref (a 0)), (1, .int (nI (v))), (2, .int (nI (lim)))]) hx hb dX0_lowestFreeColour_1 rfl hl (by decide) rfl (fun ls hl => ?_)
  have loop_2 : ∀ (fuel : Nat) (k : Nat), (k ≤ lim) → (∀ j, j < k → (!bes par (rows cu) n v (nI j)) = false) → lim - k < fuel → ∀ (ls : Array Slot), lv_has ls 4 [(0, .ref (a 0)), (1, .int (nI (v))), (2, .int (nI (lim))), (3, .int (nI (k)))] → W p l e (k2_rm 2 45) s m args below meth c H [] 0 0 Q (F0 m 2 ls []) := by
    intro fuel
    induction fuel with
    | zero => intro k hk hno hm; exact absurd hm (Nat.not_lt_zero _)
    | succ fuel ih_2 =>
      intro k hk hno hm ls hl
      refine lv_iload_n hx hb dX0_lowestFreeColour_2 rfl (lv_at hl 3 rfl) ?_
      refine lv_iload_n hx hb dX0_lowestFreeColour_3 rfl (lv_at hl 2 rfl) ?_
      refine nv_ge (tgt := 24) hx hb (by omega) (by omega) dX0_lowestFreeColour_4 (by decide) (fun c_4 => ?_) (fun c_4 => ?_)
      · refine lv_bipush (v := (-7)) hx hb dX0_lowestFreeColour_24 (by decide) ?_
        exact hret _ _ _ dX0_lowestFreeColour_26 (by rw [freF, fst_none (fun j hj => hno j (by omega))]; rfl)
      · refine lv_aload_n hx hb dX0_lowestFreeColour_7 rfl (lv_at hl 0 rfl) ?_
        refine lv_iload_n hx hb dX0_lowestFreeColour_8 rfl (lv_at hl 1 rfl) ?_
        refine lv_iload_n hx hb dX0_lowestFreeColour_9 rfl (lv_at hl 3 rfl) ?_
        refine roV (As := [.int (nI (v)), .int (nI (k))]) hC kX0_120 (cX_has v ((nI (k))) hn hcu hp (by omega)) hK hP (x_rec hK hP) rfl rfl hl ⟨Nat.le_of_ble_eq_true rfl, Nat.le_of_ble_eq_true rfl⟩ (Nat.le_of_ble_eq_true rfl) dX0_lowestFreeColour_10 ⟨Nat.le_of_ble_eq_true rfl, Nat.le_of_ble_eq_true rfl⟩ ?_
        refine bv_ne (tgt := 18) hx hb dX0_lowestFreeColour_13 (by decide) (fun c_13 => ?_) (fun c_13 => ?_)
        · refine lv_iinc (v := (nI (k + 1))) (lv' := [(3, .int (nI (k + 1))), (0, .ref (a 0)), (1, .int (nI (v))), (2, .int (nI (lim)))]) hx hb dX0_lowestFreeColour_18 hl (k := 3) rfl (nI_inc _) (by decide) rfl (fun ls hl => ?_)
          refine lv_goto (tgt := 2) hx hb dX0_lowestFreeColour_21 (by decide) ?_
          exact ih_2 (k + 1) (by omega) (lt_s hno (by rw [c_13]; rfl)) (by omega) ls (lv_sub hl [1, 2, 3, 0] rfl)
        · refine lv_iload_n hx hb dX0_lowestFreeColour_16 rfl (lv_at hl 3 rfl) ?_
          exact hret _ _ _ dX0_lowestFreeColour_17 (by rw [freF, fst_some (k := k) (by omega) (by rw [c_13]; rfl) hno]; rfl)
  exact loop_2 (lim - 0 + 1) 0 (Nat.zero_le _) (lt_0) (Nat.lt_succ_self _) ls (lv_sub hl [1, 2, 3, 0] rfl)
set_option maxRecDepth 100000 in
set_option maxHeartbeats 4000000 in
theorem cX_rowAfter {l : Launch} {E : EE} {a : Nat → Nat} {ids : Nat → Int32} {par : Nat → Option Nat} {rows : Nat → Nat → Int32} {cu pr n rd : Nat}  (hpr : pr < 18) : RO l E (XP E a ids par rows cu pr n rd) yX0_rowAfterPresent cX0_rowAfterPresent 1 (some .int) 0 0 [.ref (a 0)] (nI (nxR pr)) := by
  refine RO.mk (C := RX0) rfl rfl (by decide) rfl (Nat.le_of_ble_eq_true rfl) ?_
  intro p e s m args below meth c H Q hC hK hP hret ls hl
  obtain ⟨hx, hb, hml, hown, hts⟩ := id hC
  have hl : lv_has ls 1 [(0, .ref (a 0))] := hl
  refine lv_aload_n hx hb dX0_rowAfterPresent_0 rfl (lv_at hl 0 rfl) ?_
  refine x_g4 hC hK hP dX0_rowAfterPresent_1 ?_
  refine lv_iconst (v := (1)) hx hb dX0_rowAfterPresent_4 (by decide) ?_
  refine lv_iadd hx hb dX0_rowAfterPresent_5 ?_
  refine tI (nI (pr + 1)) (nI_1 _) ?_
  refine lv_bipush (v := (nI (18))) hx hb dX0_rowAfterPresent_6 (by decide) ?_
  refine nv_ge (tgt := 20) hx hb (by omega) (by omega) dX0_rowAfterPresent_8 (by decide) (fun c_8 => ?_) (fun c_8 => ?_)
  · refine lv_iconst (v := (nI (0))) hx hb dX0_rowAfterPresent_20 (by decide) ?_
    exact hret _ _ _ dX0_rowAfterPresent_21 (by simp [nxR, show ¬ pr + 1 < 18 by omega])
  · refine lv_aload_n hx hb dX0_rowAfterPresent_11 rfl (lv_at hl 0 rfl) ?_
    refine x_g4 hC hK hP dX0_rowAfterPresent_12 ?_
    refine lv_iconst (v := (1)) hx hb dX0_rowAfterPresent_15 (by decide) ?_
    refine lv_iadd hx hb dX0_rowAfterPresent_16 ?_
    refine tI (nI (pr + 1)) (nI_1 _) ?_
    refine lv_goto (tgt := 21) hx hb dX0_rowAfterPresent_17 (by decide) ?_
    exact hret _ _ _ dX0_rowAfterPresent_21 (by simp [nxR, show pr + 1 < 18 by omega])
set_option maxRecDepth 100000 in
set_option maxHeartbeats 4000000 in
theorem cX_shifted {l : Launch} {E : EE} {a : Nat → Nat} {ids : Nat → Int32} {par : Nat → Option Nat} {rows : Nat → Nat → Int32} {cu pr n rd : Nat} (v : Nat) (hn : n ≤ 24)(hcu : cu < 18)(hp : PW n par)(hv : v < n) : RO l E (XP E a ids par rows cu pr n rd) yX0_shiftedColour cX0_shiftedColour 2 (some .int) 2 42 [.ref (a 0), .int (nI (v))] (shc par (rows cu) v) := by
  refine RO.mk (C := RX0) rfl rfl (by decide) rfl (Nat.le_of_ble_eq_true rfl) ?_
  intro p e s m args below meth c H Q hC hK hP hret ls hl
  obtain ⟨hx, hb, hml, hown, hts⟩ := id hC
  have hl : lv_has ls 2 [(0, .ref (a 0)), (1, .int (nI (v)))] := hl
  refine lv_aload_n hx hb dX0_shiftedColour_0 rfl (lv_at hl 0 rfl) ?_
  refine lv_iload_n hx hb dX0_shiftedColour_1 rfl (lv_at hl 1 rfl) ?_
  refine roV (As := [.int (nI (v))]) hC kX0_60 (cX_isRoot v hn hp (by omega)) hK hP (x_rec hK hP) rfl rfl hl ⟨Nat.le_of_ble_eq_true rfl, Nat.le_of_ble_eq_true rfl⟩ (Nat.le_of_ble_eq_true rfl) dX0_shiftedColour_2 ⟨Nat.le_of_ble_eq_true rfl, Nat.le_of_ble_eq_true rfl⟩ ?_
  refine bv_ne (tgt := 20) hx hb dX0_shiftedColour_5 (by decide) (fun c_5 => ?_) (fun c_5 => ?_)
  · refine lv_aload_n hx hb dX0_shiftedColour_20 rfl (lv_at hl 0 rfl) ?_
    refine x_g3 hC hK hP dX0_shiftedColour_21 ?_
    refine lv_iload_n hx hb dX0_shiftedColour_24 rfl (lv_at hl 1 rfl) ?_
    refine x_ldC (by omega) hx hb hK hP (by omega) dX0_shiftedColour_25 ?_
    refine lv_if_ne (tgt := 33) hx hb dX0_shiftedColour_26 (by decide) (fun c_26 => ?_) (fun c_26 => ?_)
    · refine lv_iconst (v := (0)) hx hb dX0_shiftedColour_33 (by decide) ?_
      exact hret _ _ _ dX0_shiftedColour_34 (by simp [shc, isNone_t c_5, c_26])
    · refine lv_iconst (v := (1)) hx hb dX0_shiftedColour_29 (by decide) ?_
      refine lv_goto (tgt := 34) hx hb dX0_shiftedColour_30 (by decide) ?_
      exact hret _ _ _ dX0_shiftedColour_34 (by simp [shc, isNone_t c_5, c_26])
  · obtain ⟨u, hu⟩ := isNone_f c_5
    have hun := hp.lt hv hu
    refine lv_aload_n hx hb dX0_shiftedColour_8 rfl (lv_at hl 0 rfl) ?_
    refine x_g3 hC hK hP dX0_shiftedColour_9 ?_
    refine lv_aload_n hx hb dX0_shiftedColour_12 rfl (lv_at hl 0 rfl) ?_
    refine x_g1 hC hK hP dX0_shiftedColour_13 ?_
    refine lv_iload_n hx hb dX0_shiftedColour_16 rfl (lv_at hl 1 rfl) ?_
    refine x_ldP hx hb hK hP (by omega) dX0_shiftedColour_17 ?_
    refine tI ((nI (u))) (by rw [hu]; rfl) ?_
    refine x_ldC (by omega) hx hb hK hP (by omega) dX0_shiftedColour_18 ?_
    exact hret _ _ _ dX0_shiftedColour_19 (by simp [shc, hu])
set_option maxRecDepth 100000 in
set_option maxHeartbeats 4000000 in
theorem cX_next {l : Launch} {E : EE} {a : Nat → Nat} {ids : Nat → Int32} {par : Nat → Option Nat} {rows : Nat → Nat → Int32} {cu pr n rd : Nat} (w : Nat → Bool) (hn : n ≤ 24)(hcu : cu < 18) : RO l E (XP E a ids par rows cu pr n rd) yX0_nextToVisit cX0_nextToVisit 4 (some .int) 1 21 [.ref (a 0), .int (mk n (w))] (pe (nvF (rows cu) w n)) := by
  refine RO.mk (C := RX0) rfl rfl (by decide) rfl (Nat.le_of_ble_eq_true rfl) ?_
  intro p e s m args below meth c H Q hC hK hP hret ls hl
  obtain ⟨hx, hb, hml, hown, hts⟩ := id hC
  have hl : lv_has ls 4 [(0, .ref (a 0)), (1, .int (mk n (w)))] := hl
  refine lv_bipush (v := (pe (none))) hx hb dX0_nextToVisit_0 (by decide) ?_
  refine lv_istore_n (lv' := [(2, .int (pe (none))), (0, .ref (a 0)), (1, .int (mk n (w)))]) hx hb dX0_nextToVisit_2 rfl hl (by decide) rfl (fun ls hl => ?_)
  refine lv_iconst (v := (nI (0))) hx hb dX0_nextToVisit_3 (by decide) ?_
  refine lv_istore_n (lv' := [(3, .int (nI (0))), (2, .int (pe (none))), (0, .ref (a 0)), (1, .int (mk n (w)))]) hx hb dX0_nextToVisit_4 rfl hl (by decide) rfl (fun ls hl => ?_)
  have loop_5 : ∀ (fuel : Nat) (k : Nat), (k ≤ n) → n - k < fuel → ∀ (ls : Array Slot), lv_has ls 4 [(0, .ref (a 0)), (1, .int (mk n (w))), (2, .int (pe (nvF (rows cu) w k))), (3, .int (nI (k)))] → W p l e (k2_rm 1 21) s m args below meth c H [] 0 0 Q (F0 m 5 ls []) := by
    intro fuel
    induction fuel with
    | zero => intro k hk hm; exact absurd hm (Nat.not_lt_zero _)
    | succ fuel ih_5 =>
      intro k hk hm ls hl
      refine lv_iload_n hx hb dX0_nextToVisit_5 rfl (lv_at hl 3 rfl) ?_
      refine lv_aload_n hx hb dX0_nextToVisit_6 rfl (lv_at hl 0 rfl) ?_
      refine x_g5 hC hK hP dX0_nextToVisit_7 ?_
      refine nv_ge (tgt := 50) hx hb (by omega) (by omega) dX0_nextToVisit_10 (by decide) (fun c_10 => ?_) (fun c_10 => ?_)
      · refine lv_iload_n hx hb dX0_nextToVisit_50 rfl (lv_at hl 2 rfl) ?_
        exact hret _ _ _ dX0_nextToVisit_51 (by rw [show k = n by omega])
      · refine lv_iload_n hx hb dX0_nextToVisit_13 rfl (lv_at hl 1 rfl) ?_
        refine lv_iload_n hx hb dX0_nextToVisit_14 rfl (lv_at hl 3 rfl) ?_
        refine roS (As := [.int (mk n (w)), .int (nI (k))]) hC kX0_63 (cX_isIn w k hn (by omega)) hK (P := fun _ => True) trivial rfl rfl hl ⟨Nat.le_of_ble_eq_true rfl, Nat.le_of_ble_eq_true rfl⟩ (Nat.le_of_ble_eq_true rfl) dX0_nextToVisit_15 ⟨Nat.le_of_ble_eq_true rfl, Nat.le_of_ble_eq_true rfl⟩ ?_
        refine bv_ne (tgt := 44) hx hb dX0_nextToVisit_18 (by decide) (fun c_18 => ?_) (fun c_18 => ?_)
        · rw [← nvF_in (col := rows cu) c_18] at hl
          refine lv_iinc (v := (nI (k + 1))) (lv' := [(3, .int (nI (k + 1))), (0, .ref (a 0)), (1, .int (mk n (w))), (2, .int (pe (nvF (rows cu) w (k + 1))))]) hx hb dX0_nextToVisit_44 hl (k := 3) rfl (nI_inc _) (by decide) rfl (fun ls hl => ?_)
          refine lv_goto (tgt := 5) hx hb dX0_nextToVisit_47 (by decide) ?_
          exact ih_5 (k + 1) (by omega) (by omega) ls (lv_sub hl [1, 2, 3, 0] rfl)
        · refine lv_iload_n hx hb dX0_nextToVisit_21 rfl (lv_at hl 2 rfl) ?_
          refine lv_bipush (v := (-7)) hx hb dX0_nextToVisit_22 (by decide) ?_
          refine pv_eq7 (tgt := 42) hx hb (fun u hu => by have := (nvF_lt hu).1; omega) dX0_nextToVisit_24 (by decide) (fun c_24 => ?_) (fun c_24 => ?_)
          · refine lv_iload_n hx hb dX0_nextToVisit_42 rfl (lv_at hl 3 rfl) ?_
            refine tI ((pe (nvF (rows cu) w (k + 1)))) (by rw [nvF_first c_18 c_24]; rfl) ?_
            refine lv_istore_n (lv' := [(2, .int (pe (nvF (rows cu) w (k + 1)))), (0, .ref (a 0)), (1, .int (mk n (w))), (3, .int (nI (k)))]) hx hb dX0_nextToVisit_43 rfl hl (by decide) rfl (fun ls hl => ?_)
            refine lv_iinc (v := (nI (k + 1))) (lv' := [(3, .int (nI (k + 1))), (2, .int (pe (nvF (rows cu) w (k + 1)))), (0, .ref (a 0)), (1, .int (mk n (w)))]) hx hb dX0_nextToVisit_44 hl (k := 3) rfl (nI_inc _) (by decide) rfl (fun ls hl => ?_)
            refine lv_goto (tgt := 5) hx hb dX0_nextToVisit_47 (by decide) ?_
            exact ih_5 (k + 1) (by omega) (by omega) ls (lv_sub hl [2, 3, 1, 0] rfl)
          · obtain ⟨j, hj⟩ := ex_some c_24
            have hjk := (nvF_lt hj).1
            refine lv_aload_n hx hb dX0_nextToVisit_27 rfl (lv_at hl 0 rfl) ?_
            refine x_g3 hC hK hP dX0_nextToVisit_28 ?_
            refine lv_iload_n hx hb dX0_nextToVisit_31 rfl (lv_at hl 3 rfl) ?_
            refine x_ldC (by omega) hx hb hK hP (by omega) dX0_nextToVisit_32 ?_
            refine lv_aload_n hx hb dX0_nextToVisit_33 rfl (lv_at hl 0 rfl) ?_
            refine x_g3 hC hK hP dX0_nextToVisit_34 ?_
            refine lv_iload_n hx hb dX0_nextToVisit_37 rfl (lv_at hl 2 rfl) ?_
            refine tI ((nI (j))) (by rw [hj]; rfl) ?_
            refine x_ldC (by omega) hx hb hK hP (by omega) dX0_nextToVisit_38 ?_
            refine lv_icmp_ge (tgt := 44) hx hb dX0_nextToVisit_39 (by decide) (fun c_39 => ?_) (fun c_39 => ?_)
            · rw [← nvF_ge c_18 hj (Int32.not_lt.mpr c_39)] at hl
              refine lv_iinc (v := (nI (k + 1))) (lv' := [(3, .int (nI (k + 1))), (0, .ref (a 0)), (1, .int (mk n (w))), (2, .int (pe (nvF (rows cu) w (k + 1))))]) hx hb dX0_nextToVisit_44 hl (k := 3) rfl (nI_inc _) (by decide) rfl (fun ls hl => ?_)
              refine lv_goto (tgt := 5) hx hb dX0_nextToVisit_47 (by decide) ?_
              exact ih_5 (k + 1) (by omega) (by omega) ls (lv_sub hl [1, 2, 3, 0] rfl)
            · refine lv_iload_n hx hb dX0_nextToVisit_42 rfl (lv_at hl 3 rfl) ?_
              refine tI ((pe (nvF (rows cu) w (k + 1)))) (by rw [nvF_lt' c_18 hj (Int32.not_le.mp c_39)]; rfl) ?_
              refine lv_istore_n (lv' := [(2, .int (pe (nvF (rows cu) w (k + 1)))), (0, .ref (a 0)), (1, .int (mk n (w))), (3, .int (nI (k)))]) hx hb dX0_nextToVisit_43 rfl hl (by decide) rfl (fun ls hl => ?_)
              refine lv_iinc (v := (nI (k + 1))) (lv' := [(3, .int (nI (k + 1))), (2, .int (pe (nvF (rows cu) w (k + 1)))), (0, .ref (a 0)), (1, .int (mk n (w)))]) hx hb dX0_nextToVisit_44 hl (k := 3) rfl (nI_inc _) (by decide) rfl (fun ls hl => ?_)
              refine lv_goto (tgt := 5) hx hb dX0_nextToVisit_47 (by decide) ?_
              exact ih_5 (k + 1) (by omega) (by omega) ls (lv_sub hl [2, 3, 1, 0] rfl)
  exact loop_5 (n - 0 + 1) 0 (Nat.zero_le _) (Nat.lt_succ_self _) ls (lv_sub hl [2, 3, 1, 0] rfl)
set_option maxRecDepth 100000 in
set_option maxHeartbeats 4000000 in
theorem cX_roundCount {l : Launch} {E : EE} {a : Nat → Nat} {ids : Nat → Int32} {par : Nat → Option Nat} {rows : Nat → Nat → Int32} {cu pr n rd : Nat}   : RO l E (XP E a ids par rows cu pr n rd) yX0_roundCount cX0_roundCount 1 (some .int) 0 0 [.ref (a 0)] (nI (rd)) := by
  refine RO.mk (C := RX0) rfl rfl (by decide) rfl (Nat.le_of_ble_eq_true rfl) ?_
  intro p e s m args below meth c H Q hC hK hP hret ls hl
  obtain ⟨hx, hb, hml, hown, hts⟩ := id hC
  have hl : lv_has ls 1 [(0, .ref (a 0))] := hl
  refine lv_aload_n hx hb dX0_roundCount_0 rfl (lv_at hl 0 rfl) ?_
  refine x_g6 hC hK hP dX0_roundCount_1 ?_
  exact hret _ _ _ dX0_roundCount_4 (by first | rfl | omega | simp_all)
set_option maxRecDepth 100000 in
set_option maxHeartbeats 4000000 in
theorem cX_past {l : Launch} {E : EE} {a : Nat → Nat} {ids : Nat → Int32} {par : Nat → Option Nat} {rows : Nat → Nat → Int32} {cu pr n rd : Nat} (x r : Int32) (hn : n ≤ 24)(hpr : pr < 18) (hrd : rd < 100000) : RO l E (XP E a ids par rows cu pr n rd) yX0_pastColour cX0_pastColour 4 (some .int) 1 21 [.ref (a 0), .int (x), .int (r)] (oN (vN n x) (fun v => pastF rows pr rd r v)) := by
  refine RO.mk (C := RX0) rfl rfl (by decide) rfl (Nat.le_of_ble_eq_true rfl) ?_
  intro p e s m args below meth c H Q hC hK hP hret ls hl
  obtain ⟨hx, hb, hml, hown, hts⟩ := id hC
  have hl : lv_has ls 4 [(0, .ref (a 0)), (1, .int (x)), (2, .int (r))] := hl
  refine lv_aload_n hx hb dX0_pastColour_0 rfl (lv_at hl 0 rfl) ?_
  refine lv_iload_n hx hb dX0_pastColour_1 rfl (lv_at hl 1 rfl) ?_
  refine roV (As := [.int (x)]) hC kX0_44 (cX_isNode ((x)) ) hK hP (x_rec hK hP) rfl rfl hl ⟨Nat.le_of_ble_eq_true rfl, Nat.le_of_ble_eq_true rfl⟩ (Nat.le_of_ble_eq_true rfl) dX0_pastColour_2 ⟨Nat.le_of_ble_eq_true rfl, Nat.le_of_ble_eq_true rfl⟩ ?_
  refine bv_ne (tgt := 10) hx hb dX0_pastColour_5 (by decide) (fun c_5 => ?_) (fun c_5 => ?_)
  · obtain ⟨v, hv, rfl⟩ := vN_t hn c_5
    refine lv_iload_n hx hb dX0_pastColour_10 rfl (lv_at hl 2 rfl) ?_
    refine lv_if_lt (tgt := 20) hx hb dX0_pastColour_11 (by decide) (fun c_11 => ?_) (fun c_11 => ?_)
    · refine lv_bipush (v := (-2)) hx hb dX0_pastColour_20 (by decide) ?_
      exact hret _ _ _ dX0_pastColour_22 (by rw [oN_in hn hv, pastF, if_pos (Or.inl c_11)])
    · refine lv_iload_n hx hb dX0_pastColour_14 rfl (lv_at hl 2 rfl) ?_
      refine lv_bipush (v := (16)) hx hb dX0_pastColour_15 (by decide) ?_
      refine lv_icmp_le (tgt := 23) hx hb dX0_pastColour_17 (by decide) (fun c_17 => ?_) (fun c_17 => ?_)
      · obtain ⟨q, hq, rfl⟩ := nI_of2 (n := 16) (by decide) c_11 c_17
        have hpf : ∀ z : Nat, pastF rows pr rd (nI q) z = if nI rd < nI q then -7 else rows (pastR pr (nI q).toNatClampNeg) z := fun z => if_neg (by rintro (h | h); exact c_11 h; exact absurd c_17 (Int32.not_le.mpr h))
        refine lv_iload_n hx hb dX0_pastColour_23 rfl (lv_at hl 2 rfl) ?_
        refine lv_aload_n hx hb dX0_pastColour_24 rfl (lv_at hl 0 rfl) ?_
        refine x_g6 hC hK hP dX0_pastColour_25 ?_
        refine nv_le (tgt := 34) hx hb (by omega) (by omega) dX0_pastColour_28 (by decide) (fun c_28 => ?_) (fun c_28 => ?_)
        · refine lv_aload_n hx hb dX0_pastColour_34 rfl (lv_at hl 0 rfl) ?_
          refine x_g4 hC hK hP dX0_pastColour_35 ?_
          refine lv_iload_n hx hb dX0_pastColour_38 rfl (lv_at hl 2 rfl) ?_
          refine lv_isub hx hb dX0_pastColour_39 ?_
          refine lv_istore_n (lv' := [(3, .int (((nI (pr))) - ((nI (q))))), (0, .ref (a 0)), (1, .int (nI (v))), (2, .int (nI (q)))]) hx hb dX0_pastColour_40 rfl hl (by decide) rfl (fun ls hl => ?_)
          refine lv_aload_n hx hb dX0_pastColour_41 rfl (lv_at hl 1 rfl) ?_
          refine x_g2 hC hK hP dX0_pastColour_42 ?_
          refine lv_iload_n hx hb dX0_pastColour_45 rfl (lv_at hl 0 rfl) ?_
          refine lv_if_ge (tgt := 56) hx hb dX0_pastColour_46 (by decide) (fun c_46 => ?_) (fun c_46 => ?_)
          · have hqp := sub_nn hq c_46
            refine lv_iload_n hx hb dX0_pastColour_56 rfl (lv_at hl 0 rfl) ?_
            refine tI ((nI (pr - q))) (pk_sub hqp) ?_
            refine x_ldR hx hb hK hP (by omega) dX0_pastColour_57 ?_
            refine lv_iload_n hx hb dX0_pastColour_58 rfl (lv_at hl 2 rfl) ?_
            refine x_ldC (by omega) hx hb hK hP (by omega) dX0_pastColour_59 ?_
            exact hret _ _ _ dX0_pastColour_60 (by rw [oN_in hn hv, hpf, if_neg (nI_nlt c_28 (by omega)), nI_clamp (by omega), pastR, if_pos hqp])
          · have hqp := sub_ng hpr c_46
            refine lv_iload_n hx hb dX0_pastColour_49 rfl (lv_at hl 0 rfl) ?_
            refine lv_bipush (v := (18)) hx hb dX0_pastColour_50 (by decide) ?_
            refine lv_iadd hx hb dX0_pastColour_52 ?_
            refine tI ((nI (pr + 18 - q))) (sub_18 (by omega)) ?_
            refine lv_goto (tgt := 57) hx hb dX0_pastColour_53 (by decide) ?_
            refine x_ldR hx hb hK hP (by omega) dX0_pastColour_57 ?_
            refine lv_iload_n hx hb dX0_pastColour_58 rfl (lv_at hl 2 rfl) ?_
            refine x_ldC (by omega) hx hb hK hP (by omega) dX0_pastColour_59 ?_
            exact hret _ _ _ dX0_pastColour_60 (by rw [oN_in hn hv, hpf, if_neg (nI_nlt c_28 (by omega)), nI_clamp (by omega), pastR, if_neg (by omega)])
        · refine lv_bipush (v := (-7)) hx hb dX0_pastColour_31 (by decide) ?_
          exact hret _ _ _ dX0_pastColour_33 (by rw [oN_in hn hv, hpf, if_pos (nI_lt c_28 (by omega))])
      · refine lv_bipush (v := (-2)) hx hb dX0_pastColour_20 (by decide) ?_
        exact hret _ _ _ dX0_pastColour_22 (by rw [oN_in hn hv, pastF, if_pos (Or.inr (Int32.not_le.mp c_17))])
  · refine lv_iconst (v := (-1)) hx hb dX0_pastColour_8 (by decide) ?_
    exact hret _ _ _ dX0_pastColour_9 ((oN_out c_5 _).symm)
