-- the reference: graph methods (laid by wip/whole/gen/spec_m1.py)
theorem anc_lt {n : Nat} {par : Nat → Option Nat} (hp : PW n par) {v : Nat} (hv : v < n) : ∀ (k t : Nat), anc par k v = some t → t < n
  | 0, t, h => by cases h; exact hv
  | k + 1, t, h => by
    cases e : anc par k v with
    | none => rw [anc, e] at h; cases h
    | some z => rw [anc_s e] at h; exact hp.lt (anc_lt hp hv k z e) h
theorem cyc_none {par : Nat → Option Nat} {n k v : Nat} (h0 : anc par (k + 1) v = none) (hno : ∀ j, j < k → (anc par (j + 1) v == some v) = false) : cycF par n v = none := by
  rw [cycF, fst_none (fun j _ => ?_)]
  · rfl
  · rcases Nat.lt_or_ge j k with h | h
    · exact hno j h
    · have h1 := anc_gone h0 (j - k)
      rw [show k + 1 + (j - k) = j + 1 by omega] at h1
      rw [h1]; rfl
set_option maxRecDepth 100000 in
set_option maxHeartbeats 4000000 in
theorem cM_within {l : Launch} {E : EE}  (x lo hi : Int32)  : RO l E ((fun _ => True)) yX1_within cX1_within 3 (some .boolean) 0 0 [.int (x), .int (lo), .int (hi)] (b2i (wiB x lo hi)) := by
  refine RO.mk (C := RX1) rfl (b2i_nar _) (by decide) rfl (Nat.le_of_ble_eq_true rfl) ?_
  intro p e s m args below meth c H Q hC hK hP hret ls hl
  obtain ⟨hx, hb, hml, hown, hts⟩ := id hC
  have hl : lv_has ls 3 [(0, .int (x)), (1, .int (lo)), (2, .int (hi))] := hl
  refine lv_iload_n hx hb dX1_within_0 rfl (lv_at hl 0 rfl) ?_
  refine lv_iload_n hx hb dX1_within_1 rfl (lv_at hl 1 rfl) ?_
  refine lv_icmp_lt (tgt := 14) hx hb dX1_within_2 (by decide) (fun c_2 => ?_) (fun c_2 => ?_)
  · refine lv_iconst (v := (0)) hx hb dX1_within_14 (by decide) ?_
    exact hret _ _ _ dX1_within_15 (by simp [wiB, c_2, b2i])
  · refine lv_iload_n hx hb dX1_within_5 rfl (lv_at hl 0 rfl) ?_
    refine lv_iload_n hx hb dX1_within_6 rfl (lv_at hl 2 rfl) ?_
    refine lv_icmp_gt (tgt := 14) hx hb dX1_within_7 (by decide) (fun c_7 => ?_) (fun c_7 => ?_)
    · refine lv_iconst (v := (0)) hx hb dX1_within_14 (by decide) ?_
      exact hret _ _ _ dX1_within_15 (by simp [wiB, c_7, b2i])
    · refine lv_iconst (v := (1)) hx hb dX1_within_10 (by decide) ?_
      refine lv_goto (tgt := 15) hx hb dX1_within_11 (by decide) ?_
      exact hret _ _ _ dX1_within_15 (by simp [wiB, c_2, c_7, b2i])
set_option maxRecDepth 100000 in
set_option maxHeartbeats 4000000 in
theorem cM_isNode {l : Launch} {E : EE} {b : Nat → Nat} {n : Nat} {ids : Nat → Int32} {par : Nat → Option Nat} {cols : Nat → Int32} {rd : Nat} {nx : Nat → Int32} {isin : Nat → Bool} {wi wo : Nat → Nat} {wf : Nat → Option Nat} (x : Int32) (hn : n ≤ 24) : RO l E (MP E b n ids par cols rd nx isin wi wo wf) yX1_isNode cX1_isNode 2 (some .boolean) 1 22 [.ref (b 0), .int (x)] (b2i ((vN n x).isSome)) := by
  refine RO.mk (C := RX1) rfl (b2i_nar _) (by decide) rfl (Nat.le_of_ble_eq_true rfl) ?_
  intro p e s m args below meth c H Q hC hK hP hret ls hl
  obtain ⟨hx, hb, hml, hown, hts⟩ := id hC
  have hl : lv_has ls 2 [(0, .ref (b 0)), (1, .int (x))] := hl
  refine lv_iload_n hx hb dX1_isNode_0 rfl (lv_at hl 1 rfl) ?_
  refine lv_iconst (v := (0)) hx hb dX1_isNode_1 (by decide) ?_
  refine lv_aload_n hx hb dX1_isNode_2 rfl (lv_at hl 0 rfl) ?_
  refine m_g0 hC hK hP dX1_isNode_3 ?_
  refine lv_iconst (v := (1)) hx hb dX1_isNode_6 (by decide) ?_
  refine lv_isub hx hb dX1_isNode_7 ?_
  refine roS (As := [.int (x), .int (0), .int (((nI (n))) - ((1)))]) hC kX1_39 (cM_within ((x)) ((0)) ((((nI (n))) - ((1)))) ) hK (P := fun _ => True) trivial rfl rfl hl ⟨Nat.le_of_ble_eq_true rfl, Nat.le_of_ble_eq_true rfl⟩ (Nat.le_of_ble_eq_true rfl) dX1_isNode_8 ⟨Nat.le_of_ble_eq_true rfl, Nat.le_of_ble_eq_true rfl⟩ ?_
  refine tI ((b2i ((vN n x).isSome))) (by rw [wi_vN hn]) ?_
  exact hret _ _ _ dX1_isNode_11 (by first | rfl | omega | simp_all)
set_option maxRecDepth 100000 in
set_option maxHeartbeats 4000000 in
theorem cM_col {l : Launch} {E : EE} {b : Nat → Nat} {n : Nat} {ids : Nat → Int32} {par : Nat → Option Nat} {cols : Nat → Int32} {rd : Nat} {nx : Nat → Int32} {isin : Nat → Bool} {wi wo : Nat → Nat} {wf : Nat → Option Nat} (v : Nat) (hv : v < 24) (hrd : rd < 200000) : RO l E (MP E b n ids par cols rd nx isin wi wo wf) yX1_colourOf cX1_colourOf 2 (some .int) 0 0 [.ref (b 0), .int (nI (v))] (mcol cols rd v) := by
  refine RO.mk (C := RX1) rfl rfl (by decide) rfl (Nat.le_of_ble_eq_true rfl) ?_
  intro p e s m args below meth c H Q hC hK hP hret ls hl
  obtain ⟨hx, hb, hml, hown, hts⟩ := id hC
  have hl : lv_has ls 2 [(0, .ref (b 0)), (1, .int (nI (v)))] := hl
  refine lv_aload_n hx hb dX1_colourOf_0 rfl (lv_at hl 0 rfl) ?_
  refine m_g3 hC hK hP dX1_colourOf_1 ?_
  refine lv_bipush (v := (nI (24))) hx hb dX1_colourOf_4 (by decide) ?_
  refine lv_aload_n hx hb dX1_colourOf_6 rfl (lv_at hl 0 rfl) ?_
  refine m_g4 hC hK hP dX1_colourOf_7 ?_
  refine lv_bipush (v := (nI (17))) hx hb dX1_colourOf_10 (by decide) ?_
  refine lv_irem hx hb dX1_colourOf_12 (by decide) ?_
  refine tI ((nI (rd % 17))) (pk_rem (by omega) (by omega) (by omega)) ?_
  refine lv_imul hx hb dX1_colourOf_13 ?_
  refine tI (nI (24 * (rd % 17))) (pk_mul _ _) ?_
  refine lv_iload_n hx hb dX1_colourOf_14 rfl (lv_at hl 1 rfl) ?_
  refine lv_iadd hx hb dX1_colourOf_15 ?_
  refine tI (nI ((24 * (rd % 17)) + v)) (nI_add _ _) ?_
  refine m_ld3 hx hb hK hP (by omega) dX1_colourOf_16 ?_
  exact hret _ _ _ dX1_colourOf_17 ((mcol_lt hv).symm)
set_option maxRecDepth 100000 in
set_option maxHeartbeats 4000000 in
theorem cM_paints {l : Launch} {E : EE} {b : Nat → Nat} {n : Nat} {ids : Nat → Int32} {par : Nat → Option Nat} {cols : Nat → Int32} {rd : Nat} {nx : Nat → Int32} {isin : Nat → Bool} {wi wo : Nat → Nat} {wf : Nat → Option Nat} (v : Nat) (x : Int32) (hI : inj 9 b)(hv : v < 24) (hrd : rd < 200000) : WR l E (MP E b n ids par cols rd nx isin wi wo wf) (AM b) yX1_paints cX1_paints 3 none 0 0 [.ref (b 0), .int (nI (v)), .int (x)] none (MP E b n ids par (mset cols rd v x) rd nx isin wi wo wf) := by
  refine WR.mkV (C := RX1) rfl (by decide) rfl (Nat.le_of_ble_eq_true rfl) ?_
  intro p e s m args below meth c H0 Q hC hK hP hret ls hl
  obtain ⟨hx, hb, hml, hown, hts⟩ := id hC
  have hl : lv_has ls 3 [(0, .ref (b 0)), (1, .int (nI (v))), (2, .int (x))] := hl
  have hS : va_S (AM b) H0 H0 [] := va_S.rf
  have hP : MP E b n ids par cols rd nx isin wi wo wf H0 := hP
  refine lv_aload_n hx hb dX1_paints_0 rfl (lv_at hl 0 rfl) ?_
  refine m_g3 hC hK hP dX1_paints_1 ?_
  refine lv_bipush (v := (nI (24))) hx hb dX1_paints_4 (by decide) ?_
  refine lv_aload_n hx hb dX1_paints_6 rfl (lv_at hl 0 rfl) ?_
  refine m_g4 hC hK hP dX1_paints_7 ?_
  refine lv_bipush (v := (nI (17))) hx hb dX1_paints_10 (by decide) ?_
  refine lv_irem hx hb dX1_paints_12 (by decide) ?_
  refine tI ((nI (rd % 17))) (pk_rem (by omega) (by omega) (by omega)) ?_
  refine lv_imul hx hb dX1_paints_13 ?_
  refine tI (nI (24 * (rd % 17))) (pk_mul _ _) ?_
  refine lv_iload_n hx hb dX1_paints_14 rfl (lv_at hl 1 rfl) ?_
  refine lv_iadd hx hb dX1_paints_15 ?_
  refine tI (nI ((24 * (rd % 17)) + v)) (nI_add _ _) ?_
  refine lv_iload_n hx hb dX1_paints_16 rfl (lv_at hl 2 rfl) ?_
  refine m_st3 (x := (x)) hx hb hK hI hP hS (by omega) dX1_paints_17 (fun H locs hP hS => ?_)
  exact hret _ _ _ _ (hP) hS dX1_paints_18
set_option maxRecDepth 100000 in
set_option maxHeartbeats 4000000 in
theorem cM_start {l : Launch} {E : EE} {b : Nat → Nat} {n : Nat} {ids : Nat → Int32} {par : Nat → Option Nat} {cols : Nat → Int32} {rd : Nat} {nx : Nat → Int32} {isin : Nat → Bool} {wi wo : Nat → Nat} {wf : Nat → Option Nat}  (hI : inj 9 b)(hrd : rd < 100000) : WR l E (MP E b n ids par cols rd nx isin wi wo wf) (AM b) yX1_startsCount cX1_startsCount 2 none 1 21 [.ref (b 0)] none (MP E b n ids par (scF cols rd 24) 0 nx isin wi wo wf) := by
  refine WR.mkV (C := RX1) rfl (by decide) rfl (Nat.le_of_ble_eq_true rfl) ?_
  intro p e s m args below meth c H0 Q hC hK hP hret ls hl
  obtain ⟨hx, hb, hml, hown, hts⟩ := id hC
  have hl : lv_has ls 2 [(0, .ref (b 0))] := hl
  have hS : va_S (AM b) H0 H0 [] := va_S.rf
  have hP : MP E b n ids par cols rd nx isin wi wo wf H0 := hP
  refine lv_iconst (v := (nI (0))) hx hb dX1_startsCount_0 (by decide) ?_
  refine lv_istore_n (lv' := [(1, .int (nI (0))), (0, .ref (b 0))]) hx hb dX1_startsCount_1 rfl hl (by decide) rfl (fun ls hl => ?_)
  have loop_2 : ∀ (fuel : Nat) (k : Nat), (k ≤ 24) → 24 - k < fuel → ∀ (H : Heap) (locs : List Loc), MP E b n ids par (scF cols rd k) rd nx isin wi wo wf H → va_S (AM b) H0 H locs → ∀ (ls : Array Slot), lv_has ls 2 [(0, .ref (b 0)), (1, .int (nI (k)))] → W p l e (k2_rm 1 21) s m args below meth c H locs 0 0 Q (F0 m 2 ls []) := by
    intro fuel
    induction fuel with
    | zero => intro k hk hm; exact absurd hm (Nat.not_lt_zero _)
    | succ fuel ih_2 =>
      intro k hk hm H locs hP hS ls hl
      refine lv_iload_n hx hb dX1_startsCount_2 rfl (lv_at hl 1 rfl) ?_
      refine lv_bipush (v := (nI (24))) hx hb dX1_startsCount_3 (by decide) ?_
      refine nv_ge (tgt := 25) hx hb (by omega) (by omega) dX1_startsCount_5 (by decide) (fun c_5 => ?_) (fun c_5 => ?_)
      · have hk4 : k = 24 := by omega
        rw [hk4] at hP
        refine lv_aload_n hx hb dX1_startsCount_25 rfl (lv_at hl 0 rfl) ?_
        refine lv_iconst (v := (nI (0))) hx hb dX1_startsCount_26 (by decide) ?_
        refine m_p4 hC hK hI hP hS dX1_startsCount_27 (fun H locs hP hS => ?_)
        exact hret _ _ _ _ (hP) hS dX1_startsCount_30
      · refine lv_aload_n hx hb dX1_startsCount_8 rfl (lv_at hl 0 rfl) ?_
        refine m_g3 hC hK hP dX1_startsCount_9 ?_
        refine lv_iload_n hx hb dX1_startsCount_12 rfl (lv_at hl 1 rfl) ?_
        refine lv_aload_n hx hb dX1_startsCount_13 rfl (lv_at hl 0 rfl) ?_
        refine lv_iload_n hx hb dX1_startsCount_14 rfl (lv_at hl 1 rfl) ?_
        refine roV (As := [.int (nI (k))]) hC kX1_46 (cM_col k (by omega) (by omega)) hK hP (m_rec hK hP) rfl rfl hl ⟨Nat.le_of_ble_eq_true rfl, Nat.le_of_ble_eq_true rfl⟩ (Nat.le_of_ble_eq_true rfl) dX1_startsCount_15 ⟨Nat.le_of_ble_eq_true rfl, Nat.le_of_ble_eq_true rfl⟩ ?_
        refine tI ((mcol cols rd k)) (scF_at) ?_
        refine m_st3 (x := (mcol cols rd k)) hx hb hK hI hP hS (by omega) dX1_startsCount_18 (fun H locs hP hS => ?_)
        refine lv_iinc (v := (nI (k + 1))) (lv' := [(1, .int (nI (k + 1))), (0, .ref (b 0))]) hx hb dX1_startsCount_19 hl (k := 1) rfl (nI_inc _) (by decide) rfl (fun ls hl => ?_)
        refine lv_goto (tgt := 2) hx hb dX1_startsCount_22 (by decide) ?_
        exact ih_2 (k + 1) (by omega) (by omega) _ _ (by rw [scF_s] at hP; exact hP) hS ls (lv_sub hl [1, 0] rfl)
  exact loop_2 (24 - 0 + 1) 0 (Nat.zero_le _) (Nat.lt_succ_self _) _ _ (by rw [scF_0]; exact hP) hS ls (lv_sub hl [1, 0] rfl)
set_option maxRecDepth 100000 in
set_option maxHeartbeats 4000000 in
theorem cM_addNode {l : Launch} {E : EE} {b : Nat → Nat} {n : Nat} {ids : Nat → Int32} {par : Nat → Option Nat} {cols : Nat → Int32} {rd : Nat} {nx : Nat → Int32} {isin : Nat → Bool} {wi wo : Nat → Nat} {wf : Nat → Option Nat} (x : Int32) (hI : inj 9 b)(hn : n ≤ 24)(hrd : rd < 100000) : WR l E (MP E b n ids par cols rd nx isin wi wo wf) (AM b) yX1_addNode cX1_addNode 3 (some .int) 2 42 [.ref (b 0), .int (x)] (some (.int (anRes n ids x))) (MP E b (if okAN n ids x = true then n + 1 else n) (if okAN n ids x = true then va_up ids n x else ids) (if okAN n ids x = true then va_up par n none else par) (if okAN n ids x = true then mset (scF cols rd 24) 0 n x else cols) (if okAN n ids x = true then 0 else rd) nx isin wi wo wf) := by
  refine WR.mkI (C := RX1) rfl rfl (by decide) rfl (Nat.le_of_ble_eq_true rfl) ?_
  intro p e s m args below meth c H0 Q hC hK hP hret ls hl
  obtain ⟨hx, hb, hml, hown, hts⟩ := id hC
  have hl : lv_has ls 3 [(0, .ref (b 0)), (1, .int (x))] := hl
  have hS : va_S (AM b) H0 H0 [] := va_S.rf
  have hP : MP E b n ids par cols rd nx isin wi wo wf H0 := hP
  refine lv_iload_n hx hb dX1_addNode_0 rfl (lv_at hl 1 rfl) ?_
  refine lv_iconst (v := (0)) hx hb dX1_addNode_1 (by decide) ?_
  refine lv_ldc (v := 65535) hx hb hown (hts _ qX1_50) dX1_addNode_2 ?_
  refine roS (As := [.int (x), .int (0), .int (65535)]) hC kX1_39 (cM_within ((x)) ((0)) ((65535)) ) hK (P := fun _ => True) trivial rfl rfl hl ⟨Nat.le_of_ble_eq_true rfl, Nat.le_of_ble_eq_true rfl⟩ (Nat.le_of_ble_eq_true rfl) dX1_addNode_4 ⟨Nat.le_of_ble_eq_true rfl, Nat.le_of_ble_eq_true rfl⟩ ?_
  refine tI ((b2i (vV x))) (rfl) ?_
  refine bv_ne (tgt := 13) hx hb dX1_addNode_7 (by decide) (fun c_7 => ?_) (fun c_7 => ?_)
  · refine lv_iconst (v := (nI (0))) hx hb dX1_addNode_13 (by decide) ?_
    refine lv_istore_n (lv' := [(2, .int (nI (0))), (0, .ref (b 0)), (1, .int (x))]) hx hb dX1_addNode_14 rfl hl (by decide) rfl (fun ls hl => ?_)
    have loop_15 : ∀ (fuel : Nat) (k : Nat), (k ≤ n) → (∀ j, j < k → ¬ ids j = x) → n - k < fuel → ∀ (H : Heap) (locs : List Loc), MP E b n ids par cols rd nx isin wi wo wf H → va_S (AM b) H0 H locs → ∀ (ls : Array Slot), lv_has ls 3 [(0, .ref (b 0)), (1, .int (x)), (2, .int (nI (k)))] → W p l e (k2_rm 2 42) s m args below meth c H locs 0 0 Q (F0 m 15 ls []) := by
      intro fuel
      induction fuel with
      | zero => intro k hk hno hm; exact absurd hm (Nat.not_lt_zero _)
      | succ fuel ih_15 =>
        intro k hk hno hm H locs hP hS ls hl
        refine lv_iload_n hx hb dX1_addNode_15 rfl (lv_at hl 2 rfl) ?_
        refine lv_aload_n hx hb dX1_addNode_16 rfl (lv_at hl 0 rfl) ?_
        refine m_g0 hC hK hP dX1_addNode_17 ?_
        refine nv_ge (tgt := 42) hx hb (by omega) (by omega) dX1_addNode_20 (by decide) (fun c_20 => ?_) (fun c_20 => ?_)
        · have hany : anyB (fun j => decide (ids j = x)) n = false := anyB_no (fun j hj => by simp [hno j (by omega)])
          refine lv_aload_n hx hb dX1_addNode_42 rfl (lv_at hl 0 rfl) ?_
          refine m_g0 hC hK hP dX1_addNode_43 ?_
          refine lv_bipush (v := (nI (24))) hx hb dX1_addNode_46 (by decide) ?_
          refine nv_ne (tgt := 54) hx hb (by omega) (by omega) dX1_addNode_48 (by decide) (fun c_48 => ?_) (fun c_48 => ?_)
          · refine lv_aload_n hx hb dX1_addNode_54 rfl (lv_at hl 0 rfl) ?_
            refine wrV (As := []) hC kX1_51 (cM_start  hI hrd) hK hP (m_rec hK hP) hS (fun _ h => h) rfl rfl hl ⟨Nat.le_of_ble_eq_true rfl, Nat.le_of_ble_eq_true rfl⟩ (Nat.le_of_ble_eq_true rfl) dX1_addNode_55 ⟨Nat.le_of_ble_eq_true rfl, Nat.le_of_ble_eq_true rfl⟩ (fun H locs hP hS _ _ => ?_)
            refine lv_aload_n hx hb dX1_addNode_58 rfl (lv_at hl 0 rfl) ?_
            refine m_g1 hC hK hP dX1_addNode_59 ?_
            refine lv_aload_n hx hb dX1_addNode_62 rfl (lv_at hl 0 rfl) ?_
            refine m_g0 hC hK hP dX1_addNode_63 ?_
            refine lv_iload_n hx hb dX1_addNode_66 rfl (lv_at hl 1 rfl) ?_
            refine m_st1 (x := (x)) hx hb hK hI hP hS (by omega) dX1_addNode_67 (fun H locs hP hS => ?_)
            refine lv_aload_n hx hb dX1_addNode_68 rfl (lv_at hl 0 rfl) ?_
            refine m_g2 hC hK hP dX1_addNode_69 ?_
            refine lv_aload_n hx hb dX1_addNode_72 rfl (lv_at hl 0 rfl) ?_
            refine m_g0 hC hK hP dX1_addNode_73 ?_
            refine lv_bipush (v := (pe (none))) hx hb dX1_addNode_76 (by decide) ?_
            refine m_st2 (x := none) hx hb hK hI hP hS (by omega) dX1_addNode_78 (fun H locs hP hS => ?_)
            refine lv_aload_n hx hb dX1_addNode_79 rfl (lv_at hl 0 rfl) ?_
            refine lv_aload_n hx hb dX1_addNode_80 rfl (lv_at hl 0 rfl) ?_
            refine m_g0 hC hK hP dX1_addNode_81 ?_
            refine lv_iload_n hx hb dX1_addNode_84 rfl (lv_at hl 1 rfl) ?_
            refine wrV (As := [.int (nI (n)), .int (x)]) hC kX1_54 (cM_paints n ((x)) hI (by omega) (by omega)) hK hP (m_rec hK hP) hS (fun _ h => h) rfl rfl hl ⟨Nat.le_of_ble_eq_true rfl, Nat.le_of_ble_eq_true rfl⟩ (Nat.le_of_ble_eq_true rfl) dX1_addNode_85 ⟨Nat.le_of_ble_eq_true rfl, Nat.le_of_ble_eq_true rfl⟩ (fun H locs hP hS _ _ => ?_)
            refine lv_aload_n hx hb dX1_addNode_88 rfl (lv_at hl 0 rfl) ?_
            refine lv_dup hx hb dX1_addNode_89 rfl ?_
            refine m_g0 hC hK hP dX1_addNode_90 ?_
            refine lv_iconst (v := (1)) hx hb dX1_addNode_93 (by decide) ?_
            refine lv_iadd hx hb dX1_addNode_94 ?_
            refine tI (nI (n + 1)) (nI_1 _) ?_
            refine m_p0 hC hK hI hP hS dX1_addNode_95 (fun H locs hP hS => ?_)
            refine lv_aload_n hx hb dX1_addNode_98 rfl (lv_at hl 0 rfl) ?_
            refine m_g0 hC hK hP dX1_addNode_99 ?_
            refine lv_iconst (v := (1)) hx hb dX1_addNode_102 (by decide) ?_
            refine lv_isub hx hb dX1_addNode_103 ?_
            refine tI ((nI (n))) (nI_pred n) ?_
            exact hret _ _ _ _ _ (by rw [show okAN n ids x = true by simp [okAN, c_7, hany, show n < 24 by omega]]; exact hP) hS dX1_addNode_104 (by simp [anRes, c_7, hany, show n < 24 by omega])
          · refine lv_bipush (v := (-4)) hx hb dX1_addNode_51 (by decide) ?_
            exact hret _ _ _ _ _ (by rw [show okAN n ids x = false by simp [okAN, show ¬ n < 24 by omega]]; exact hP) hS dX1_addNode_53 (by simp [anRes, c_7, hany, show ¬ n < 24 by omega])
        · refine lv_aload_n hx hb dX1_addNode_23 rfl (lv_at hl 0 rfl) ?_
          refine m_g1 hC hK hP dX1_addNode_24 ?_
          refine lv_iload_n hx hb dX1_addNode_27 rfl (lv_at hl 2 rfl) ?_
          refine m_ld1 hx hb hK hP (by omega) dX1_addNode_28 ?_
          refine lv_iload_n hx hb dX1_addNode_29 rfl (lv_at hl 1 rfl) ?_
          refine lv_icmp_ne (tgt := 36) hx hb dX1_addNode_30 (by decide) (fun c_30 => ?_) (fun c_30 => ?_)
          · refine lv_iinc (v := (nI (k + 1))) (lv' := [(2, .int (nI (k + 1))), (0, .ref (b 0)), (1, .int (x))]) hx hb dX1_addNode_36 hl (k := 2) rfl (nI_inc _) (by decide) rfl (fun ls hl => ?_)
            refine lv_goto (tgt := 15) hx hb dX1_addNode_39 (by decide) ?_
            exact ih_15 (k + 1) (by omega) (lt_s hno c_30) (by omega) _ _ (hP) hS ls (lv_sub hl [1, 2, 0] rfl)
          · refine lv_bipush (v := (-3)) hx hb dX1_addNode_33 (by decide) ?_
            exact hret _ _ _ _ _ (by rw [show okAN n ids x = false by simp [okAN, anyB_yes (p := fun j => decide (ids j = x)) (k := k) (n := n) (by omega) (by simp [c_30])]]; exact hP) hS dX1_addNode_35 (by simp [anRes, c_7, anyB_yes (p := fun j => decide (ids j = x)) (k := k) (n := n) (by omega) (by simp [c_30])])
    exact loop_15 (n - 0 + 1) 0 (Nat.zero_le _) (lt_0) (Nat.lt_succ_self _) _ _ (hP) hS ls (lv_sub hl [1, 2, 0] rfl)
  · refine lv_bipush (v := (-2)) hx hb dX1_addNode_10 (by decide) ?_
    exact hret _ _ _ _ _ (by rw [show okAN n ids x = false by simp [okAN, c_7]]; exact hP) hS dX1_addNode_12 (by simp [anRes, c_7])
set_option maxRecDepth 100000 in
set_option maxHeartbeats 4000000 in
theorem cM_changes {l : Launch} {E : EE} {b : Nat → Nat} {n : Nat} {ids : Nat → Int32} {par : Nat → Option Nat} {cols : Nat → Int32} {rd : Nat} {nx : Nat → Int32} {isin : Nat → Bool} {wi wo : Nat → Nat} {wf : Nat → Option Nat} (v : Nat) (o : Option Nat) (hI : inj 9 b)(hv : v < 24) (hrd : rd < 100000) : WR l E (MP E b n ids par cols rd nx isin wi wo wf) (AM b) yX1_changesParent cX1_changesParent 4 (some .int) 2 42 [.ref (b 0), .int (nI (v)), .int (pe (o))] (some (.int (pe (par v)))) (MP E b n ids (va_up par v o) (scF cols rd 24) 0 nx isin wi wo wf) := by
  refine WR.mkI (C := RX1) rfl rfl (by decide) rfl (Nat.le_of_ble_eq_true rfl) ?_
  intro p e s m args below meth c H0 Q hC hK hP hret ls hl
  obtain ⟨hx, hb, hml, hown, hts⟩ := id hC
  have hl : lv_has ls 4 [(0, .ref (b 0)), (1, .int (nI (v))), (2, .int (pe (o)))] := hl
  have hS : va_S (AM b) H0 H0 [] := va_S.rf
  have hP : MP E b n ids par cols rd nx isin wi wo wf H0 := hP
  refine lv_aload_n hx hb dX1_changesParent_0 rfl (lv_at hl 0 rfl) ?_
  refine m_g2 hC hK hP dX1_changesParent_1 ?_
  refine lv_iload_n hx hb dX1_changesParent_4 rfl (lv_at hl 1 rfl) ?_
  refine m_ld2 hx hb hK hP (by omega) dX1_changesParent_5 ?_
  refine lv_istore_n (lv' := [(3, .int (pe (par v))), (0, .ref (b 0)), (1, .int (nI (v))), (2, .int (pe (o)))]) hx hb dX1_changesParent_6 rfl hl (by decide) rfl (fun ls hl => ?_)
  refine lv_aload_n hx hb dX1_changesParent_7 rfl (lv_at hl 1 rfl) ?_
  refine wrV (As := []) hC kX1_51 (cM_start  hI hrd) hK hP (m_rec hK hP) hS (fun _ h => h) rfl rfl hl ⟨Nat.le_of_ble_eq_true rfl, Nat.le_of_ble_eq_true rfl⟩ (Nat.le_of_ble_eq_true rfl) dX1_changesParent_8 ⟨Nat.le_of_ble_eq_true rfl, Nat.le_of_ble_eq_true rfl⟩ (fun H locs hP hS _ _ => ?_)
  refine lv_aload_n hx hb dX1_changesParent_11 rfl (lv_at hl 1 rfl) ?_
  refine m_g2 hC hK hP dX1_changesParent_12 ?_
  refine lv_iload_n hx hb dX1_changesParent_15 rfl (lv_at hl 2 rfl) ?_
  refine lv_iload_n hx hb dX1_changesParent_16 rfl (lv_at hl 3 rfl) ?_
  refine m_st2 (x := o) hx hb hK hI hP hS (by omega) dX1_changesParent_17 (fun H locs hP hS => ?_)
  refine lv_iload_n hx hb dX1_changesParent_18 rfl (lv_at hl 0 rfl) ?_
  exact hret _ _ _ _ _ (hP) hS dX1_changesParent_19 (by first | rfl | omega | simp_all)
set_option maxRecDepth 100000 in
set_option maxHeartbeats 4000000 in
theorem cM_setParent {l : Launch} {E : EE} {b : Nat → Nat} {n : Nat} {ids : Nat → Int32} {par : Nat → Option Nat} {cols : Nat → Int32} {rd : Nat} {nx : Nat → Int32} {isin : Nat → Bool} {wi wo : Nat → Nat} {wf : Nat → Option Nat} (x y : Int32) (hI : inj 9 b)(hn : n ≤ 24)(hrd : rd < 100000) : WR l E (MP E b n ids par cols rd nx isin wi wo wf) (AM b) yX1_setParent cX1_setParent 3 (some .int) 3 65 [.ref (b 0), .int (x), .int (y)] (some (.int (spRes n par x y))) (MP E b n ids (oU (okSP n x y) (fun q => va_up par q.1 (some q.2)) par) (oU (okSP n x y) (fun _ => scF cols rd 24) cols) (oU (okSP n x y) (fun _ => 0) rd) nx isin wi wo wf) := by
  refine WR.mkI (C := RX1) rfl rfl (by decide) rfl (Nat.le_of_ble_eq_true rfl) ?_
  intro p e s m args below meth c H0 Q hC hK hP hret ls hl
  obtain ⟨hx, hb, hml, hown, hts⟩ := id hC
  have hl : lv_has ls 3 [(0, .ref (b 0)), (1, .int (x)), (2, .int (y))] := hl
  have hS : va_S (AM b) H0 H0 [] := va_S.rf
  have hP : MP E b n ids par cols rd nx isin wi wo wf H0 := hP
  refine lv_aload_n hx hb dX1_setParent_0 rfl (lv_at hl 0 rfl) ?_
  refine lv_iload_n hx hb dX1_setParent_1 rfl (lv_at hl 1 rfl) ?_
  refine roV (As := [.int (x)]) hC kX1_58 (cM_isNode ((x)) hn) hK hP (m_rec hK hP) rfl rfl hl ⟨Nat.le_of_ble_eq_true rfl, Nat.le_of_ble_eq_true rfl⟩ (Nat.le_of_ble_eq_true rfl) dX1_setParent_2 ⟨Nat.le_of_ble_eq_true rfl, Nat.le_of_ble_eq_true rfl⟩ ?_
  refine bv_eq (tgt := 16) hx hb dX1_setParent_5 (by decide) (fun c_5 => ?_) (fun c_5 => ?_)
  · refine lv_iconst (v := (-1)) hx hb dX1_setParent_16 (by decide) ?_
    exact hret _ _ _ _ _ (by rw [oU_none (okSP_1 c_5), oU_none (okSP_1 c_5), oU_none (okSP_1 c_5)]; exact hP) hS dX1_setParent_17 ((spRes_1 c_5).symm)
  · obtain ⟨v, hv, rfl⟩ := vN_t hn c_5
    refine lv_aload_n hx hb dX1_setParent_8 rfl (lv_at hl 0 rfl) ?_
    refine lv_iload_n hx hb dX1_setParent_9 rfl (lv_at hl 2 rfl) ?_
    refine roV (As := [.int (y)]) hC kX1_58 (cM_isNode ((y)) hn) hK hP (m_rec hK hP) rfl rfl hl ⟨Nat.le_of_ble_eq_true rfl, Nat.le_of_ble_eq_true rfl⟩ (Nat.le_of_ble_eq_true rfl) dX1_setParent_10 ⟨Nat.le_of_ble_eq_true rfl, Nat.le_of_ble_eq_true rfl⟩ ?_
    refine bv_ne (tgt := 18) hx hb dX1_setParent_13 (by decide) (fun c_13 => ?_) (fun c_13 => ?_)
    · obtain ⟨u, hu, rfl⟩ := vN_t hn c_13
      refine lv_iload_n hx hb dX1_setParent_18 rfl (lv_at hl 1 rfl) ?_
      refine lv_iload_n hx hb dX1_setParent_19 rfl (lv_at hl 2 rfl) ?_
      refine nv_ne (tgt := 28) hx hb (by omega) (by omega) dX1_setParent_20 (by decide) (fun c_20 => ?_) (fun c_20 => ?_)
      · refine lv_aload_n hx hb dX1_setParent_28 rfl (lv_at hl 0 rfl) ?_
        refine lv_iload_n hx hb dX1_setParent_29 rfl (lv_at hl 1 rfl) ?_
        refine lv_iload_n hx hb dX1_setParent_30 rfl (lv_at hl 2 rfl) ?_
        refine wrV (As := [.int (nI (v)), .int (nI (u))]) hC kX1_62 (cM_changes v (some u) hI (by omega) hrd) hK hP (m_rec hK hP) hS (fun _ h => h) rfl rfl hl ⟨Nat.le_of_ble_eq_true rfl, Nat.le_of_ble_eq_true rfl⟩ (Nat.le_of_ble_eq_true rfl) dX1_setParent_31 ⟨Nat.le_of_ble_eq_true rfl, Nat.le_of_ble_eq_true rfl⟩ (fun H locs hP hS _ _ => ?_)
        exact hret _ _ _ _ _ (by rw [oU_some (okSP_4 hn hv hu c_20), oU_some (okSP_4 hn hv hu c_20), oU_some (okSP_4 hn hv hu c_20)]; exact hP) hS dX1_setParent_34 ((spRes_4 hn hv hu c_20).symm)
      · subst c_20
        refine lv_bipush (v := (-2)) hx hb dX1_setParent_23 (by decide) ?_
        refine lv_goto (tgt := 34) hx hb dX1_setParent_25 (by decide) ?_
        exact hret _ _ _ _ _ (by rw [oU_none (okSP_3 hn hv), oU_none (okSP_3 hn hv), oU_none (okSP_3 hn hv)]; exact hP) hS dX1_setParent_34 ((spRes_3 hn hv).symm)
    · refine lv_iconst (v := (-1)) hx hb dX1_setParent_16 (by decide) ?_
      exact hret _ _ _ _ _ (by rw [oU_none (okSP_2 c_13), oU_none (okSP_2 c_13), oU_none (okSP_2 c_13)]; exact hP) hS dX1_setParent_17 ((spRes_2 c_13).symm)
set_option maxRecDepth 100000 in
set_option maxHeartbeats 4000000 in
theorem cM_removeParent {l : Launch} {E : EE} {b : Nat → Nat} {n : Nat} {ids : Nat → Int32} {par : Nat → Option Nat} {cols : Nat → Int32} {rd : Nat} {nx : Nat → Int32} {isin : Nat → Bool} {wi wo : Nat → Nat} {wf : Nat → Option Nat} (x : Int32) (hI : inj 9 b)(hn : n ≤ 24)(hrd : rd < 100000) : WR l E (MP E b n ids par cols rd nx isin wi wo wf) (AM b) yX1_removeParent cX1_removeParent 2 (some .int) 3 65 [.ref (b 0), .int (x)] (some (.int (oN (vN n x) (fun v => pe (par v))))) (MP E b n ids (oU (vN n x) (fun v => va_up par v none) par) (oU (vN n x) (fun _ => scF cols rd 24) cols) (oU (vN n x) (fun _ => 0) rd) nx isin wi wo wf) := by
  refine WR.mkI (C := RX1) rfl rfl (by decide) rfl (Nat.le_of_ble_eq_true rfl) ?_
  intro p e s m args below meth c H0 Q hC hK hP hret ls hl
  obtain ⟨hx, hb, hml, hown, hts⟩ := id hC
  have hl : lv_has ls 2 [(0, .ref (b 0)), (1, .int (x))] := hl
  have hS : va_S (AM b) H0 H0 [] := va_S.rf
  have hP : MP E b n ids par cols rd nx isin wi wo wf H0 := hP
  refine lv_aload_n hx hb dX1_removeParent_0 rfl (lv_at hl 0 rfl) ?_
  refine lv_iload_n hx hb dX1_removeParent_1 rfl (lv_at hl 1 rfl) ?_
  refine roV (As := [.int (x)]) hC kX1_58 (cM_isNode ((x)) hn) hK hP (m_rec hK hP) rfl rfl hl ⟨Nat.le_of_ble_eq_true rfl, Nat.le_of_ble_eq_true rfl⟩ (Nat.le_of_ble_eq_true rfl) dX1_removeParent_2 ⟨Nat.le_of_ble_eq_true rfl, Nat.le_of_ble_eq_true rfl⟩ ?_
  refine bv_eq (tgt := 18) hx hb dX1_removeParent_5 (by decide) (fun c_5 => ?_) (fun c_5 => ?_)
  · refine lv_iconst (v := (-1)) hx hb dX1_removeParent_18 (by decide) ?_
    exact hret _ _ _ _ _ (by rw [oU_none (vN_f c_5), oU_none (vN_f c_5), oU_none (vN_f c_5)]; exact hP) hS dX1_removeParent_19 ((oN_out c_5 _).symm)
  · obtain ⟨v, hv, rfl⟩ := vN_t hn c_5
    refine lv_aload_n hx hb dX1_removeParent_8 rfl (lv_at hl 0 rfl) ?_
    refine lv_iload_n hx hb dX1_removeParent_9 rfl (lv_at hl 1 rfl) ?_
    refine lv_bipush (v := (pe (none))) hx hb dX1_removeParent_10 (by decide) ?_
    refine wrV (As := [.int (nI (v)), .int (pe (none))]) hC kX1_62 (cM_changes v none hI (by omega) hrd) hK hP (m_rec hK hP) hS (fun _ h => h) rfl rfl hl ⟨Nat.le_of_ble_eq_true rfl, Nat.le_of_ble_eq_true rfl⟩ (Nat.le_of_ble_eq_true rfl) dX1_removeParent_12 ⟨Nat.le_of_ble_eq_true rfl, Nat.le_of_ble_eq_true rfl⟩ (fun H locs hP hS _ _ => ?_)
    refine lv_goto (tgt := 19) hx hb dX1_removeParent_15 (by decide) ?_
    exact hret _ _ _ _ _ (by rw [oU_some (vN_nI hn hv), oU_some (vN_nI hn hv), oU_some (vN_nI hn hv)]; exact hP) hS dX1_removeParent_19 (by rw [oN_in hn hv])
set_option maxRecDepth 100000 in
set_option maxHeartbeats 4000000 in
theorem cM_parent {l : Launch} {E : EE} {b : Nat → Nat} {n : Nat} {ids : Nat → Int32} {par : Nat → Option Nat} {cols : Nat → Int32} {rd : Nat} {nx : Nat → Int32} {isin : Nat → Bool} {wi wo : Nat → Nat} {wf : Nat → Option Nat} (x : Int32) (hn : n ≤ 24) : RO l E (MP E b n ids par cols rd nx isin wi wo wf) yX1_parent cX1_parent 2 (some .int) 2 43 [.ref (b 0), .int (x)] (oN (vN n x) (fun v => pe (par v))) := by
  refine RO.mk (C := RX1) rfl rfl (by decide) rfl (Nat.le_of_ble_eq_true rfl) ?_
  intro p e s m args below meth c H Q hC hK hP hret ls hl
  obtain ⟨hx, hb, hml, hown, hts⟩ := id hC
  have hl : lv_has ls 2 [(0, .ref (b 0)), (1, .int (x))] := hl
  refine lv_aload_n hx hb dX1_parent_0 rfl (lv_at hl 0 rfl) ?_
  refine lv_iload_n hx hb dX1_parent_1 rfl (lv_at hl 1 rfl) ?_
  refine roV (As := [.int (x)]) hC kX1_58 (cM_isNode ((x)) hn) hK hP (m_rec hK hP) rfl rfl hl ⟨Nat.le_of_ble_eq_true rfl, Nat.le_of_ble_eq_true rfl⟩ (Nat.le_of_ble_eq_true rfl) dX1_parent_2 ⟨Nat.le_of_ble_eq_true rfl, Nat.le_of_ble_eq_true rfl⟩ ?_
  refine bv_eq (tgt := 17) hx hb dX1_parent_5 (by decide) (fun c_5 => ?_) (fun c_5 => ?_)
  · refine lv_iconst (v := (-1)) hx hb dX1_parent_17 (by decide) ?_
    exact hret _ _ _ dX1_parent_18 ((oN_out c_5 _).symm)
  · obtain ⟨v, hv, rfl⟩ := vN_t hn c_5
    refine lv_aload_n hx hb dX1_parent_8 rfl (lv_at hl 0 rfl) ?_
    refine m_g2 hC hK hP dX1_parent_9 ?_
    refine lv_iload_n hx hb dX1_parent_12 rfl (lv_at hl 1 rfl) ?_
    refine m_ld2 hx hb hK hP (by omega) dX1_parent_13 ?_
    refine lv_goto (tgt := 18) hx hb dX1_parent_14 (by decide) ?_
    exact hret _ _ _ dX1_parent_18 (by rw [oN_in hn hv])
set_option maxRecDepth 100000 in
set_option maxHeartbeats 4000000 in
theorem cM_nb {l : Launch} {E : EE} {b : Nat → Nat} {n : Nat} {ids : Nat → Int32} {par : Nat → Option Nat} {cols : Nat → Int32} {rd : Nat} {nx : Nat → Int32} {isin : Nat → Bool} {wi wo : Nat → Nat} {wf : Nat → Option Nat} (u v : Nat) (hn : n ≤ 24)(hp : PW n par)(hu : u < n) (hv : v < n) : RO l E (MP E b n ids par cols rd nx isin wi wo wf) yX1_areNeighbours cX1_areNeighbours 3 (some .boolean) 0 0 [.ref (b 0), .int (nI (u)), .int (nI (v))] (b2i (nb par u v)) := by
  refine RO.mk (C := RX1) rfl (b2i_nar _) (by decide) rfl (Nat.le_of_ble_eq_true rfl) ?_
  intro p e s m args below meth c H Q hC hK hP hret ls hl
  obtain ⟨hx, hb, hml, hown, hts⟩ := id hC
  have hl : lv_has ls 3 [(0, .ref (b 0)), (1, .int (nI (u))), (2, .int (nI (v)))] := hl
  refine lv_iload_n hx hb dX1_areNeighbours_0 rfl (lv_at hl 1 rfl) ?_
  refine lv_iload_n hx hb dX1_areNeighbours_1 rfl (lv_at hl 2 rfl) ?_
  refine nv_eq (tgt := 29) hx hb (by omega) (by omega) dX1_areNeighbours_2 (by decide) (fun c_2 => ?_) (fun c_2 => ?_)
  · refine lv_iconst (v := (0)) hx hb dX1_areNeighbours_29 (by decide) ?_
    exact hret _ _ _ dX1_areNeighbours_30 (by rw [c_2, nb_irr hp hv]; rfl)
  · refine lv_aload_n hx hb dX1_areNeighbours_5 rfl (lv_at hl 0 rfl) ?_
    refine m_g2 hC hK hP dX1_areNeighbours_6 ?_
    refine lv_iload_n hx hb dX1_areNeighbours_9 rfl (lv_at hl 1 rfl) ?_
    refine m_ld2 hx hb hK hP (by omega) dX1_areNeighbours_10 ?_
    refine lv_iload_n hx hb dX1_areNeighbours_11 rfl (lv_at hl 2 rfl) ?_
    refine pvn_eq (tgt := 25) hx hb (hp.big hn (by omega)) (by omega) dX1_areNeighbours_12 (by decide) (fun c_12 => ?_) (fun c_12 => ?_)
    · refine lv_iconst (v := (1)) hx hb dX1_areNeighbours_25 (by decide) ?_
      refine lv_goto (tgt := 30) hx hb dX1_areNeighbours_26 (by decide) ?_
      exact hret _ _ _ dX1_areNeighbours_30 (by simp [nb, c_12, b2i])
    · refine lv_aload_n hx hb dX1_areNeighbours_15 rfl (lv_at hl 0 rfl) ?_
      refine m_g2 hC hK hP dX1_areNeighbours_16 ?_
      refine lv_iload_n hx hb dX1_areNeighbours_19 rfl (lv_at hl 2 rfl) ?_
      refine m_ld2 hx hb hK hP (by omega) dX1_areNeighbours_20 ?_
      refine lv_iload_n hx hb dX1_areNeighbours_21 rfl (lv_at hl 1 rfl) ?_
      refine pvn_ne (tgt := 29) hx hb (hp.big hn (by omega)) (by omega) dX1_areNeighbours_22 (by decide) (fun c_22 => ?_) (fun c_22 => ?_)
      · refine lv_iconst (v := (0)) hx hb dX1_areNeighbours_29 (by decide) ?_
        exact hret _ _ _ dX1_areNeighbours_30 (by simp [nb, c_12, c_22, b2i])
      · refine lv_iconst (v := (1)) hx hb dX1_areNeighbours_25 (by decide) ?_
        refine lv_goto (tgt := 30) hx hb dX1_areNeighbours_26 (by decide) ?_
        exact hret _ _ _ dX1_areNeighbours_30 (by simp [nb, c_12, c_22, b2i])
set_option maxRecDepth 100000 in
set_option maxHeartbeats 4000000 in
theorem cM_degree {l : Launch} {E : EE} {b : Nat → Nat} {n : Nat} {ids : Nat → Int32} {par : Nat → Option Nat} {cols : Nat → Int32} {rd : Nat} {nx : Nat → Int32} {isin : Nat → Bool} {wi wo : Nat → Nat} {wf : Nat → Option Nat} (x : Int32) (hn : n ≤ 24)(hp : PW n par) : RO l E (MP E b n ids par cols rd nx isin wi wo wf) yX1_degree cX1_degree 4 (some .int) 2 43 [.ref (b 0), .int (x)] (oN (vN n x) (fun v => nI (fb_ct (nb par v) n))) := by
  refine RO.mk (C := RX1) rfl rfl (by decide) rfl (Nat.le_of_ble_eq_true rfl) ?_
  intro p e s m args below meth c H Q hC hK hP hret ls hl
  obtain ⟨hx, hb, hml, hown, hts⟩ := id hC
  have hl : lv_has ls 4 [(0, .ref (b 0)), (1, .int (x))] := hl
  refine lv_aload_n hx hb dX1_degree_0 rfl (lv_at hl 0 rfl) ?_
  refine lv_iload_n hx hb dX1_degree_1 rfl (lv_at hl 1 rfl) ?_
  refine roV (As := [.int (x)]) hC kX1_58 (cM_isNode ((x)) hn) hK hP (m_rec hK hP) rfl rfl hl ⟨Nat.le_of_ble_eq_true rfl, Nat.le_of_ble_eq_true rfl⟩ (Nat.le_of_ble_eq_true rfl) dX1_degree_2 ⟨Nat.le_of_ble_eq_true rfl, Nat.le_of_ble_eq_true rfl⟩ ?_
  refine bv_ne (tgt := 10) hx hb dX1_degree_5 (by decide) (fun c_5 => ?_) (fun c_5 => ?_)
  · obtain ⟨v, hv, rfl⟩ := vN_t hn c_5
    refine lv_iconst (v := (nI (0))) hx hb dX1_degree_10 (by decide) ?_
    refine lv_istore_n (lv' := [(2, .int (nI (0))), (0, .ref (b 0)), (1, .int (nI (v)))]) hx hb dX1_degree_11 rfl hl (by decide) rfl (fun ls hl => ?_)
    refine lv_iconst (v := (nI (0))) hx hb dX1_degree_12 (by decide) ?_
    refine lv_istore_n (lv' := [(3, .int (nI (0))), (2, .int (nI (0))), (0, .ref (b 0)), (1, .int (nI (v)))]) hx hb dX1_degree_13 rfl hl (by decide) rfl (fun ls hl => ?_)
    have loop_14 : ∀ (fuel : Nat) (k : Nat), (k ≤ n) → n - k < fuel → ∀ (ls : Array Slot), lv_has ls 4 [(0, .ref (b 0)), (1, .int (nI (v))), (2, .int (nI (fb_ct (nb par v) k))), (3, .int (nI (k)))] → W p l e (k2_rm 2 43) s m args below meth c H [] 0 0 Q (F0 m 14 ls []) := by
      intro fuel
      induction fuel with
      | zero => intro k hk hm; exact absurd hm (Nat.not_lt_zero _)
      | succ fuel ih_14 =>
        intro k hk hm ls hl
        refine lv_iload_n hx hb dX1_degree_14 rfl (lv_at hl 3 rfl) ?_
        refine lv_aload_n hx hb dX1_degree_15 rfl (lv_at hl 0 rfl) ?_
        refine m_g0 hC hK hP dX1_degree_16 ?_
        refine nv_ge (tgt := 45) hx hb (by omega) (by omega) dX1_degree_19 (by decide) (fun c_19 => ?_) (fun c_19 => ?_)
        · refine lv_iload_n hx hb dX1_degree_45 rfl (lv_at hl 2 rfl) ?_
          exact hret _ _ _ dX1_degree_46 (by rw [oN_in hn hv, show k = n by omega])
        · refine lv_iload_n hx hb dX1_degree_22 rfl (lv_at hl 2 rfl) ?_
          refine lv_aload_n hx hb dX1_degree_23 rfl (lv_at hl 0 rfl) ?_
          refine lv_iload_n hx hb dX1_degree_24 rfl (lv_at hl 1 rfl) ?_
          refine lv_iload_n hx hb dX1_degree_25 rfl (lv_at hl 3 rfl) ?_
          refine roV (As := [.int (nI (v)), .int (nI (k))]) hC kX1_66 (cM_nb v k hn hp (by omega) (by omega)) hK hP (m_rec hK hP) rfl rfl hl ⟨Nat.le_of_ble_eq_true rfl, Nat.le_of_ble_eq_true rfl⟩ (Nat.le_of_ble_eq_true rfl) dX1_degree_26 ⟨Nat.le_of_ble_eq_true rfl, Nat.le_of_ble_eq_true rfl⟩ ?_
          refine bv_eq (tgt := 36) hx hb dX1_degree_29 (by decide) (fun c_29 => ?_) (fun c_29 => ?_)
          · refine lv_iconst (v := (nI (0))) hx hb dX1_degree_36 (by decide) ?_
            refine lv_iadd hx hb dX1_degree_37 ?_
            refine tI (nI ((fb_ct (nb par v) k) + 0)) (nI_add _ _) ?_
            refine tI ((nI (fb_ct (nb par v) (k + 1)))) (by rw [fb_ct_f c_29]; rfl) ?_
            refine lv_istore_n (lv' := [(2, .int (nI (fb_ct (nb par v) (k + 1)))), (0, .ref (b 0)), (1, .int (nI (v))), (3, .int (nI (k)))]) hx hb dX1_degree_38 rfl hl (by decide) rfl (fun ls hl => ?_)
            refine lv_iinc (v := (nI (k + 1))) (lv' := [(3, .int (nI (k + 1))), (2, .int (nI (fb_ct (nb par v) (k + 1)))), (0, .ref (b 0)), (1, .int (nI (v)))]) hx hb dX1_degree_39 hl (k := 3) rfl (nI_inc _) (by decide) rfl (fun ls hl => ?_)
            refine lv_goto (tgt := 14) hx hb dX1_degree_42 (by decide) ?_
            exact ih_14 (k + 1) (by omega) (by omega) ls (lv_sub hl [2, 3, 1, 0] rfl)
          · refine lv_iconst (v := (nI (1))) hx hb dX1_degree_32 (by decide) ?_
            refine lv_goto (tgt := 37) hx hb dX1_degree_33 (by decide) ?_
            refine lv_iadd hx hb dX1_degree_37 ?_
            refine tI (nI ((fb_ct (nb par v) k) + 1)) (nI_add _ _) ?_
            refine tI ((nI (fb_ct (nb par v) (k + 1)))) (by rw [fb_ct_t c_29]) ?_
            refine lv_istore_n (lv' := [(2, .int (nI (fb_ct (nb par v) (k + 1)))), (0, .ref (b 0)), (1, .int (nI (v))), (3, .int (nI (k)))]) hx hb dX1_degree_38 rfl hl (by decide) rfl (fun ls hl => ?_)
            refine lv_iinc (v := (nI (k + 1))) (lv' := [(3, .int (nI (k + 1))), (2, .int (nI (fb_ct (nb par v) (k + 1)))), (0, .ref (b 0)), (1, .int (nI (v)))]) hx hb dX1_degree_39 hl (k := 3) rfl (nI_inc _) (by decide) rfl (fun ls hl => ?_)
            refine lv_goto (tgt := 14) hx hb dX1_degree_42 (by decide) ?_
            exact ih_14 (k + 1) (by omega) (by omega) ls (lv_sub hl [2, 3, 1, 0] rfl)
    exact loop_14 (n - 0 + 1) 0 (Nat.zero_le _) (Nat.lt_succ_self _) ls (lv_sub hl [2, 3, 1, 0] rfl)
  · refine lv_iconst (v := (-1)) hx hb dX1_degree_8 (by decide) ?_
    exact hret _ _ _ dX1_degree_9 ((oN_out c_5 _).symm)
set_option maxRecDepth 100000 in
set_option maxHeartbeats 4000000 in
theorem cM_steps {l : Launch} {E : EE} {b : Nat → Nat} {n : Nat} {ids : Nat → Int32} {par : Nat → Option Nat} {cols : Nat → Int32} {rd : Nat} {nx : Nat → Int32} {isin : Nat → Bool} {wi wo : Nat → Nat} {wf : Nat → Option Nat} (v : Nat) (hn : n ≤ 24)(hp : PW n par)(hv : v < n) : RO l E (MP E b n ids par cols rd nx isin wi wo wf) yX1_stepsFrom cX1_stepsFrom 4 (some .int) 0 0 [.ref (b 0), .int (nI (v))] (pe (depF par (n + 1) v)) := by
  refine RO.mk (C := RX1) rfl rfl (by decide) rfl (Nat.le_of_ble_eq_true rfl) ?_
  intro p e s m args below meth c H Q hC hK hP hret ls hl
  obtain ⟨hx, hb, hml, hown, hts⟩ := id hC
  have hl : lv_has ls 4 [(0, .ref (b 0)), (1, .int (nI (v)))] := hl
  refine lv_iconst (v := (nI (0))) hx hb dX1_stepsFrom_0 (by decide) ?_
  refine lv_istore_n (lv' := [(2, .int (nI (0))), (0, .ref (b 0)), (1, .int (nI (v)))]) hx hb dX1_stepsFrom_1 rfl hl (by decide) rfl (fun ls hl => ?_)
  refine lv_iload_n hx hb dX1_stepsFrom_2 rfl (lv_at hl 2 rfl) ?_
  refine lv_istore_n (lv' := [(3, .int (nI (v))), (2, .int (nI (0))), (0, .ref (b 0)), (1, .int (nI (v)))]) hx hb dX1_stepsFrom_3 rfl hl (by decide) rfl (fun ls hl => ?_)
  have loop_4 : ∀ (fuel : Nat) (k : Nat) (t : Nat), (k ≤ n + 1) → (anc par k v = some t) → (t < n) → (∀ j, j < k → (anc par (j + 1) v).isNone = false) → n + 1 - k < fuel → ∀ (ls : Array Slot), lv_has ls 4 [(0, .ref (b 0)), (1, .int (nI (v))), (2, .int (nI (k))), (3, .int (nI (t)))] → W p l e (k2_rm 0 0) s m args below meth c H [] 0 0 Q (F0 m 4 ls []) := by
    intro fuel
    induction fuel with
    | zero => intro k t hk ht htn hno hm; exact absurd hm (Nat.not_lt_zero _)
    | succ fuel ih_4 =>
      intro k t hk ht htn hno hm ls hl
      refine lv_aload_n hx hb dX1_stepsFrom_4 rfl (lv_at hl 0 rfl) ?_
      refine m_g2 hC hK hP dX1_stepsFrom_5 ?_
      refine lv_iload_n hx hb dX1_stepsFrom_8 rfl (lv_at hl 3 rfl) ?_
      refine m_ld2 hx hb hK hP (by omega) dX1_stepsFrom_9 ?_
      refine lv_bipush (v := (-7)) hx hb dX1_stepsFrom_10 (by decide) ?_
      refine pv_eq7 (tgt := 36) hx hb (hp.big hn (by omega)) dX1_stepsFrom_12 (by decide) (fun c_12 => ?_) (fun c_12 => ?_)
      · refine lv_iload_n hx hb dX1_stepsFrom_36 rfl (lv_at hl 2 rfl) ?_
        refine lv_aload_n hx hb dX1_stepsFrom_37 rfl (lv_at hl 0 rfl) ?_
        refine m_g0 hC hK hP dX1_stepsFrom_38 ?_
        refine nv_le (tgt := 49) hx hb (by omega) (by omega) dX1_stepsFrom_41 (by decide) (fun c_41 => ?_) (fun c_41 => ?_)
        · refine lv_iload_n hx hb dX1_stepsFrom_49 rfl (lv_at hl 2 rfl) ?_
          exact hret _ _ _ dX1_stepsFrom_50 (by rw [depF, fst_some (k := k) (by omega) (by rw [anc_s ht, c_12]; rfl) hno]; rfl)
        · refine lv_bipush (v := (-7)) hx hb dX1_stepsFrom_44 (by decide) ?_
          refine lv_goto (tgt := 50) hx hb dX1_stepsFrom_46 (by decide) ?_
          exact hret _ _ _ dX1_stepsFrom_50 (by rw [depF, fst_none (fun j hj => hno j (by omega))]; rfl)
      · obtain ⟨u, hu⟩ := ex_some c_12
        refine lv_iload_n hx hb dX1_stepsFrom_15 rfl (lv_at hl 2 rfl) ?_
        refine lv_aload_n hx hb dX1_stepsFrom_16 rfl (lv_at hl 0 rfl) ?_
        refine m_g0 hC hK hP dX1_stepsFrom_17 ?_
        refine nv_gt (tgt := 36) hx hb (by omega) (by omega) dX1_stepsFrom_20 (by decide) (fun c_20 => ?_) (fun c_20 => ?_)
        · refine lv_iload_n hx hb dX1_stepsFrom_36 rfl (lv_at hl 2 rfl) ?_
          refine lv_aload_n hx hb dX1_stepsFrom_37 rfl (lv_at hl 0 rfl) ?_
          refine m_g0 hC hK hP dX1_stepsFrom_38 ?_
          refine nv_le (tgt := 49) hx hb (by omega) (by omega) dX1_stepsFrom_41 (by decide) (fun c_41 => ?_) (fun c_41 => ?_)
          · refine lv_iload_n hx hb dX1_stepsFrom_49 rfl (lv_at hl 2 rfl) ?_
            exact hret _ _ _ dX1_stepsFrom_50 (absurd c_41 (by omega))
          · refine lv_bipush (v := (-7)) hx hb dX1_stepsFrom_44 (by decide) ?_
            refine lv_goto (tgt := 50) hx hb dX1_stepsFrom_46 (by decide) ?_
            exact hret _ _ _ dX1_stepsFrom_50 (by rw [depF, fst_none (fun j hj => hno j (by omega))]; rfl)
        · refine lv_aload_n hx hb dX1_stepsFrom_23 rfl (lv_at hl 0 rfl) ?_
          refine m_g2 hC hK hP dX1_stepsFrom_24 ?_
          refine lv_iload_n hx hb dX1_stepsFrom_27 rfl (lv_at hl 3 rfl) ?_
          refine m_ld2 hx hb hK hP (by omega) dX1_stepsFrom_28 ?_
          refine tI ((nI (u))) (by rw [hu]; rfl) ?_
          refine lv_istore_n (lv' := [(3, .int (nI (u))), (0, .ref (b 0)), (1, .int (nI (v))), (2, .int (nI (k)))]) hx hb dX1_stepsFrom_29 rfl hl (by decide) rfl (fun ls hl => ?_)
          refine lv_iinc (v := (nI (k + 1))) (lv' := [(2, .int (nI (k + 1))), (3, .int (nI (u))), (0, .ref (b 0)), (1, .int (nI (v)))]) hx hb dX1_stepsFrom_30 hl (k := 3) rfl (nI_inc _) (by decide) rfl (fun ls hl => ?_)
          refine lv_goto (tgt := 4) hx hb dX1_stepsFrom_33 (by decide) ?_
          exact ih_4 (k + 1) u (by omega) (by rw [anc_s ht, hu]) (hp.lt htn hu) (lt_s hno (by rw [anc_s ht, hu]; rfl)) (by omega) ls (lv_sub hl [2, 3, 0, 1] rfl)
  exact loop_4 (n + 1 - 0 + 1) 0 v (Nat.zero_le _) (rfl) (hv) (lt_0) (Nat.lt_succ_self _) ls (lv_sub hl [2, 3, 1, 0] rfl)
set_option maxRecDepth 100000 in
set_option maxHeartbeats 4000000 in
theorem cM_depth {l : Launch} {E : EE} {b : Nat → Nat} {n : Nat} {ids : Nat → Int32} {par : Nat → Option Nat} {cols : Nat → Int32} {rd : Nat} {nx : Nat → Int32} {isin : Nat → Bool} {wi wo : Nat → Nat} {wf : Nat → Option Nat} (x : Int32) (hn : n ≤ 24)(hp : PW n par) : RO l E (MP E b n ids par cols rd nx isin wi wo wf) yX1_depth cX1_depth 2 (some .int) 2 43 [.ref (b 0), .int (x)] (oN (vN n x) (fun v => pe (depF par (n + 1) v))) := by
  refine RO.mk (C := RX1) rfl rfl (by decide) rfl (Nat.le_of_ble_eq_true rfl) ?_
  intro p e s m args below meth c H Q hC hK hP hret ls hl
  obtain ⟨hx, hb, hml, hown, hts⟩ := id hC
  have hl : lv_has ls 2 [(0, .ref (b 0)), (1, .int (x))] := hl
  refine lv_aload_n hx hb dX1_depth_0 rfl (lv_at hl 0 rfl) ?_
  refine lv_iload_n hx hb dX1_depth_1 rfl (lv_at hl 1 rfl) ?_
  refine roV (As := [.int (x)]) hC kX1_58 (cM_isNode ((x)) hn) hK hP (m_rec hK hP) rfl rfl hl ⟨Nat.le_of_ble_eq_true rfl, Nat.le_of_ble_eq_true rfl⟩ (Nat.le_of_ble_eq_true rfl) dX1_depth_2 ⟨Nat.le_of_ble_eq_true rfl, Nat.le_of_ble_eq_true rfl⟩ ?_
  refine bv_eq (tgt := 16) hx hb dX1_depth_5 (by decide) (fun c_5 => ?_) (fun c_5 => ?_)
  · refine lv_iconst (v := (-1)) hx hb dX1_depth_16 (by decide) ?_
    exact hret _ _ _ dX1_depth_17 ((oN_out c_5 _).symm)
  · obtain ⟨v, hv, rfl⟩ := vN_t hn c_5
    refine lv_aload_n hx hb dX1_depth_8 rfl (lv_at hl 0 rfl) ?_
    refine lv_iload_n hx hb dX1_depth_9 rfl (lv_at hl 1 rfl) ?_
    refine roV (As := [.int (nI (v))]) hC kX1_70 (cM_steps v hn hp (by omega)) hK hP (m_rec hK hP) rfl rfl hl ⟨Nat.le_of_ble_eq_true rfl, Nat.le_of_ble_eq_true rfl⟩ (Nat.le_of_ble_eq_true rfl) dX1_depth_10 ⟨Nat.le_of_ble_eq_true rfl, Nat.le_of_ble_eq_true rfl⟩ ?_
    refine lv_goto (tgt := 17) hx hb dX1_depth_13 (by decide) ?_
    exact hret _ _ _ dX1_depth_17 (by rw [oN_in hn hv])
set_option maxRecDepth 100000 in
set_option maxHeartbeats 4000000 in
theorem cM_cycleOf {l : Launch} {E : EE} {b : Nat → Nat} {n : Nat} {ids : Nat → Int32} {par : Nat → Option Nat} {cols : Nat → Int32} {rd : Nat} {nx : Nat → Int32} {isin : Nat → Bool} {wi wo : Nat → Nat} {wf : Nat → Option Nat} (v : Nat) (hn : n ≤ 24)(hp : PW n par)(hv : v < n) : RO l E (MP E b n ids par cols rd nx isin wi wo wf) yX1_cycleOf cX1_cycleOf 4 (some .int) 0 0 [.ref (b 0), .int (nI (v))] (pe (cycF par n v)) := by
  refine RO.mk (C := RX1) rfl rfl (by decide) rfl (Nat.le_of_ble_eq_true rfl) ?_
  intro p e s m args below meth c H Q hC hK hP hret ls hl
  obtain ⟨hx, hb, hml, hown, hts⟩ := id hC
  have hl : lv_has ls 4 [(0, .ref (b 0)), (1, .int (nI (v)))] := hl
  refine lv_aload_n hx hb dX1_cycleOf_0 rfl (lv_at hl 0 rfl) ?_
  refine m_g2 hC hK hP dX1_cycleOf_1 ?_
  refine lv_iload_n hx hb dX1_cycleOf_4 rfl (lv_at hl 1 rfl) ?_
  refine m_ld2 hx hb hK hP (by omega) dX1_cycleOf_5 ?_
  refine lv_istore_n (lv' := [(2, .int (pe (par v))), (0, .ref (b 0)), (1, .int (nI (v)))]) hx hb dX1_cycleOf_6 rfl hl (by decide) rfl (fun ls hl => ?_)
  refine lv_iconst (v := (nI (1))) hx hb dX1_cycleOf_7 (by decide) ?_
  refine lv_istore_n (lv' := [(3, .int (nI (1))), (2, .int (pe (par v))), (0, .ref (b 0)), (1, .int (nI (v)))]) hx hb dX1_cycleOf_8 rfl hl (by decide) rfl (fun ls hl => ?_)
  have loop_9 : ∀ (fuel : Nat) (k : Nat), (k ≤ n) → (∀ j, j < k → (anc par (j + 1) v == some v) = false) → n - k < fuel → ∀ (ls : Array Slot), lv_has ls 4 [(0, .ref (b 0)), (1, .int (nI (v))), (2, .int (pe (anc par (k + 1) v))), (3, .int (nI (k + 1)))] → W p l e (k2_rm 0 0) s m args below meth c H [] 0 0 Q (F0 m 9 ls []) := by
    intro fuel
    induction fuel with
    | zero => intro k hk hno hm; exact absurd hm (Nat.not_lt_zero _)
    | succ fuel ih_9 =>
      intro k hk hno hm ls hl
      have hbd := anc_lt hp hv (k + 1)
      refine lv_iload_n hx hb dX1_cycleOf_9 rfl (lv_at hl 3 rfl) ?_
      refine lv_aload_n hx hb dX1_cycleOf_10 rfl (lv_at hl 0 rfl) ?_
      refine m_g0 hC hK hP dX1_cycleOf_11 ?_
      refine nv_gt (tgt := 43) hx hb (by omega) (by omega) dX1_cycleOf_14 (by decide) (fun c_14 => ?_) (fun c_14 => ?_)
      · refine lv_bipush (v := (-7)) hx hb dX1_cycleOf_43 (by decide) ?_
        exact hret _ _ _ dX1_cycleOf_45 (by rw [cycF, fst_none (fun j hj => hno j (by omega))]; rfl)
      · refine lv_iload_n hx hb dX1_cycleOf_17 rfl (lv_at hl 2 rfl) ?_
        refine lv_bipush (v := (-7)) hx hb dX1_cycleOf_18 (by decide) ?_
        refine pv_eq7 (tgt := 43) hx hb (fun u hu => by have := hbd u hu; omega) dX1_cycleOf_20 (by decide) (fun c_20 => ?_) (fun c_20 => ?_)
        · refine lv_bipush (v := (-7)) hx hb dX1_cycleOf_43 (by decide) ?_
          exact hret _ _ _ dX1_cycleOf_45 (by rw [cyc_none c_20 hno]; rfl)
        · obtain ⟨t, ht⟩ := ex_some c_20
          have htn := hbd t ht
          rw [ht, show pe (some t) = nI t from rfl] at hl
          refine lv_iload_n hx hb dX1_cycleOf_23 rfl (lv_at hl 2 rfl) ?_
          refine lv_iload_n hx hb dX1_cycleOf_24 rfl (lv_at hl 1 rfl) ?_
          refine nv_ne (tgt := 30) hx hb (by omega) (by omega) dX1_cycleOf_25 (by decide) (fun c_25 => ?_) (fun c_25 => ?_)
          · refine lv_aload_n hx hb dX1_cycleOf_30 rfl (lv_at hl 0 rfl) ?_
            refine m_g2 hC hK hP dX1_cycleOf_31 ?_
            refine lv_iload_n hx hb dX1_cycleOf_34 rfl (lv_at hl 2 rfl) ?_
            refine m_ld2 hx hb hK hP (by omega) dX1_cycleOf_35 ?_
            refine tI ((pe (anc par (k + 1 + 1) v))) (by rw [anc_s ht]) ?_
            refine lv_istore_n (lv' := [(2, .int (pe (anc par (k + 1 + 1) v))), (0, .ref (b 0)), (1, .int (nI (v))), (3, .int (nI (k + 1)))]) hx hb dX1_cycleOf_36 rfl hl (by decide) rfl (fun ls hl => ?_)
            refine lv_iinc (v := (nI ((k + 1) + 1))) (lv' := [(3, .int (nI ((k + 1) + 1))), (2, .int (pe (anc par (k + 1 + 1) v))), (0, .ref (b 0)), (1, .int (nI (v)))]) hx hb dX1_cycleOf_37 hl (k := 3) rfl (nI_inc _) (by decide) rfl (fun ls hl => ?_)
            refine lv_goto (tgt := 9) hx hb dX1_cycleOf_40 (by decide) ?_
            exact ih_9 (k + 1) (by omega) (lt_s hno (by rw [ht]; simp [c_25])) (by omega) ls (lv_sub hl [2, 3, 1, 0] rfl)
          · refine lv_iload_n hx hb dX1_cycleOf_28 rfl (lv_at hl 3 rfl) ?_
            exact hret _ _ _ dX1_cycleOf_29 (by rw [cycF, fst_some (k := k) (by omega) (by rw [ht, c_25]; simp) hno]; rfl)
  exact loop_9 (n - 0 + 1) 0 (Nat.zero_le _) (lt_0) (Nat.lt_succ_self _) ls (lv_sub hl [2, 3, 1, 0] rfl)
set_option maxRecDepth 100000 in
set_option maxHeartbeats 4000000 in
theorem cM_cycleLength {l : Launch} {E : EE} {b : Nat → Nat} {n : Nat} {ids : Nat → Int32} {par : Nat → Option Nat} {cols : Nat → Int32} {rd : Nat} {nx : Nat → Int32} {isin : Nat → Bool} {wi wo : Nat → Nat} {wf : Nat → Option Nat} (x : Int32) (hn : n ≤ 24)(hp : PW n par) : RO l E (MP E b n ids par cols rd nx isin wi wo wf) yX1_cycleLength cX1_cycleLength 2 (some .int) 2 43 [.ref (b 0), .int (x)] (oN (vN n x) (fun v => pe (cycF par n v))) := by
  refine RO.mk (C := RX1) rfl rfl (by decide) rfl (Nat.le_of_ble_eq_true rfl) ?_
  intro p e s m args below meth c H Q hC hK hP hret ls hl
  obtain ⟨hx, hb, hml, hown, hts⟩ := id hC
  have hl : lv_has ls 2 [(0, .ref (b 0)), (1, .int (x))] := hl
  refine lv_aload_n hx hb dX1_cycleLength_0 rfl (lv_at hl 0 rfl) ?_
  refine lv_iload_n hx hb dX1_cycleLength_1 rfl (lv_at hl 1 rfl) ?_
  refine roV (As := [.int (x)]) hC kX1_58 (cM_isNode ((x)) hn) hK hP (m_rec hK hP) rfl rfl hl ⟨Nat.le_of_ble_eq_true rfl, Nat.le_of_ble_eq_true rfl⟩ (Nat.le_of_ble_eq_true rfl) dX1_cycleLength_2 ⟨Nat.le_of_ble_eq_true rfl, Nat.le_of_ble_eq_true rfl⟩ ?_
  refine bv_eq (tgt := 16) hx hb dX1_cycleLength_5 (by decide) (fun c_5 => ?_) (fun c_5 => ?_)
  · refine lv_iconst (v := (-1)) hx hb dX1_cycleLength_16 (by decide) ?_
    exact hret _ _ _ dX1_cycleLength_17 ((oN_out c_5 _).symm)
  · obtain ⟨v, hv, rfl⟩ := vN_t hn c_5
    refine lv_aload_n hx hb dX1_cycleLength_8 rfl (lv_at hl 0 rfl) ?_
    refine lv_iload_n hx hb dX1_cycleLength_9 rfl (lv_at hl 1 rfl) ?_
    refine roV (As := [.int (nI (v))]) hC kX1_73 (cM_cycleOf v hn hp (by omega)) hK hP (m_rec hK hP) rfl rfl hl ⟨Nat.le_of_ble_eq_true rfl, Nat.le_of_ble_eq_true rfl⟩ (Nat.le_of_ble_eq_true rfl) dX1_cycleLength_10 ⟨Nat.le_of_ble_eq_true rfl, Nat.le_of_ble_eq_true rfl⟩ ?_
    refine lv_goto (tgt := 17) hx hb dX1_cycleLength_13 (by decide) ?_
    exact hret _ _ _ dX1_cycleLength_17 (by rw [oN_in hn hv])
set_option maxRecDepth 100000 in
set_option maxHeartbeats 4000000 in
theorem cM_colour {l : Launch} {E : EE} {b : Nat → Nat} {n : Nat} {ids : Nat → Int32} {par : Nat → Option Nat} {cols : Nat → Int32} {rd : Nat} {nx : Nat → Int32} {isin : Nat → Bool} {wi wo : Nat → Nat} {wf : Nat → Option Nat} (x : Int32) (hn : n ≤ 24)(hrd : rd < 100000) : RO l E (MP E b n ids par cols rd nx isin wi wo wf) yX1_colour cX1_colour 2 (some .int) 2 43 [.ref (b 0), .int (x)] (oN (vN n x) (fun v => mcol cols rd v)) := by
  refine RO.mk (C := RX1) rfl rfl (by decide) rfl (Nat.le_of_ble_eq_true rfl) ?_
  intro p e s m args below meth c H Q hC hK hP hret ls hl
  obtain ⟨hx, hb, hml, hown, hts⟩ := id hC
  have hl : lv_has ls 2 [(0, .ref (b 0)), (1, .int (x))] := hl
  refine lv_aload_n hx hb dX1_colour_0 rfl (lv_at hl 0 rfl) ?_
  refine lv_iload_n hx hb dX1_colour_1 rfl (lv_at hl 1 rfl) ?_
  refine roV (As := [.int (x)]) hC kX1_58 (cM_isNode ((x)) hn) hK hP (m_rec hK hP) rfl rfl hl ⟨Nat.le_of_ble_eq_true rfl, Nat.le_of_ble_eq_true rfl⟩ (Nat.le_of_ble_eq_true rfl) dX1_colour_2 ⟨Nat.le_of_ble_eq_true rfl, Nat.le_of_ble_eq_true rfl⟩ ?_
  refine bv_eq (tgt := 16) hx hb dX1_colour_5 (by decide) (fun c_5 => ?_) (fun c_5 => ?_)
  · refine lv_iconst (v := (-1)) hx hb dX1_colour_16 (by decide) ?_
    exact hret _ _ _ dX1_colour_17 ((oN_out c_5 _).symm)
  · obtain ⟨v, hv, rfl⟩ := vN_t hn c_5
    refine lv_aload_n hx hb dX1_colour_8 rfl (lv_at hl 0 rfl) ?_
    refine lv_iload_n hx hb dX1_colour_9 rfl (lv_at hl 1 rfl) ?_
    refine roV (As := [.int (nI (v))]) hC kX1_46 (cM_col v (by omega) (by omega)) hK hP (m_rec hK hP) rfl rfl hl ⟨Nat.le_of_ble_eq_true rfl, Nat.le_of_ble_eq_true rfl⟩ (Nat.le_of_ble_eq_true rfl) dX1_colour_10 ⟨Nat.le_of_ble_eq_true rfl, Nat.le_of_ble_eq_true rfl⟩ ?_
    refine lv_goto (tgt := 17) hx hb dX1_colour_13 (by decide) ?_
    exact hret _ _ _ dX1_colour_17 (by rw [oN_in hn hv])
