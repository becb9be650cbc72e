-- the class: leaves that read (laid by wip/whole/gen/spec_x1.py)
theorem vN_pe {n : Nat} (hn : n ≤ 24) {o : Option Nat} (ho : ∀ u, o = some u → u < n) : vN n (pe o) = o := by
  cases o with
  | none => simp [vN, pe]
  | some u => exact vN_nI hn (ho u rfl)
/-- a value -/
def vV (x : Int32) : Bool := !(decide (x < 0)) && !(decide (65535 < x))
set_option maxRecDepth 100000 in
set_option maxHeartbeats 4000000 in
theorem cX_isNode {l : Launch} {E : EE} {a : Nat → Nat} {ids : Nat → Int32} {par : Nat → Option Nat} {rows : Nat → Nat → Int32} {cu pr n rd : Nat} (x : Int32)  : RO l E (XP E a ids par rows cu pr n rd) yX0_isNode cX0_isNode 2 (some .boolean) 0 0 [.ref (a 0), .int (x)] (b2i ((vN n x).isSome)) := by
  refine RO.mk (C := RX0) rfl (b2i_nar _) (by decide) rfl (Nat.le_of_ble_eq_true rfl) ?_
  intro p e s m args below meth c H Q hC hK hP hret ls hl
  obtain ⟨hx, hb, hml, hown, hts⟩ := id hC
  have hl : lv_has ls 2 [(0, .ref (a 0)), (1, .int (x))] := hl
  refine lv_iload_n hx hb dX0_isNode_0 rfl (lv_at hl 1 rfl) ?_
  refine lv_if_lt (tgt := 16) hx hb dX0_isNode_1 (by decide) (fun c_1 => ?_) (fun c_1 => ?_)
  · refine lv_iconst (v := (0)) hx hb dX0_isNode_16 (by decide) ?_
    exact hret _ _ _ dX0_isNode_17 (by simp [vN, c_1, b2i])
  · refine lv_iload_n hx hb dX0_isNode_4 rfl (lv_at hl 1 rfl) ?_
    refine lv_aload_n hx hb dX0_isNode_5 rfl (lv_at hl 0 rfl) ?_
    refine x_g5 hC hK hP dX0_isNode_6 ?_
    refine lv_icmp_ge (tgt := 16) hx hb dX0_isNode_9 (by decide) (fun c_9 => ?_) (fun c_9 => ?_)
    · refine lv_iconst (v := (0)) hx hb dX0_isNode_16 (by decide) ?_
      exact hret _ _ _ dX0_isNode_17 (by simp [vN, c_9, b2i])
    · refine lv_iconst (v := (1)) hx hb dX0_isNode_12 (by decide) ?_
      refine lv_goto (tgt := 17) hx hb dX0_isNode_13 (by decide) ?_
      exact hret _ _ _ dX0_isNode_17 (by simp [vN, c_1, c_9, b2i])
set_option maxRecDepth 100000 in
set_option maxHeartbeats 4000000 in
theorem cX_isValue {l : Launch} {E : EE}  (x : Int32)  : RO l E ((fun _ => True)) yX0_isValue cX0_isValue 1 (some .boolean) 0 0 [.int (x)] (b2i (vV x)) := by
  refine RO.mk (C := RX0) rfl (b2i_nar _) (by decide) rfl (Nat.le_of_ble_eq_true rfl) ?_
  intro p e s m args below meth c H Q hC hK hP hret ls hl
  obtain ⟨hx, hb, hml, hown, hts⟩ := id hC
  have hl : lv_has ls 1 [(0, .int (x))] := hl
  refine lv_iload_n hx hb dX0_isValue_0 rfl (lv_at hl 0 rfl) ?_
  refine lv_if_lt (tgt := 14) hx hb dX0_isValue_1 (by decide) (fun c_1 => ?_) (fun c_1 => ?_)
  · refine lv_iconst (v := (0)) hx hb dX0_isValue_14 (by decide) ?_
    exact hret _ _ _ dX0_isValue_15 (by simp [vV, c_1, b2i])
  · refine lv_iload_n hx hb dX0_isValue_4 rfl (lv_at hl 0 rfl) ?_
    refine lv_ldc (v := 65535) hx hb hown (hts _ qX0_110) dX0_isValue_5 ?_
    refine lv_icmp_gt (tgt := 14) hx hb dX0_isValue_7 (by decide) (fun c_7 => ?_) (fun c_7 => ?_)
    · refine lv_iconst (v := (0)) hx hb dX0_isValue_14 (by decide) ?_
      exact hret _ _ _ dX0_isValue_15 (by simp [vV, c_7, b2i])
    · refine lv_iconst (v := (1)) hx hb dX0_isValue_10 (by decide) ?_
      refine lv_goto (tgt := 15) hx hb dX0_isValue_11 (by decide) ?_
      exact hret _ _ _ dX0_isValue_15 (by simp [vV, c_1, c_7, b2i])
set_option maxRecDepth 100000 in
set_option maxHeartbeats 4000000 in
theorem cX_taken {l : Launch} {E : EE} {a : Nat → Nat} {ids : Nat → Int32} {par : Nat → Option Nat} {rows : Nat → Nat → Int32} {cu pr n rd : Nat} (x : Int32) (hn : n ≤ 24) : RO l E (XP E a ids par rows cu pr n rd) yX0_isIdentifierTaken cX0_isIdentifierTaken 3 (some .boolean) 0 0 [.ref (a 0), .int (x)] (b2i (anyB (fun j => decide (ids j = x)) n)) := by
  refine RO.mk (C := RX0) rfl (b2i_nar _) (by decide) rfl (Nat.le_of_ble_eq_true rfl) ?_
  intro p e s m args below meth c H Q hC hK hP hret ls hl
  obtain ⟨hx, hb, hml, hown, hts⟩ := id hC
  have hl : lv_has ls 3 [(0, .ref (a 0)), (1, .int (x))] := hl
  refine lv_iconst (v := (nI (0))) hx hb dX0_isIdentifierTaken_0 (by decide) ?_
  refine lv_istore_n (lv' := [(2, .int (nI (0))), (0, .ref (a 0)), (1, .int (x))]) hx hb dX0_isIdentifierTaken_1 rfl hl (by decide) rfl (fun ls hl => ?_)
  have loop_2 : ∀ (fuel : Nat) (k : Nat), (k ≤ n) → (∀ j, j < k → ¬ ids j = x) → n - k < fuel → ∀ (ls : Array Slot), lv_has ls 3 [(0, .ref (a 0)), (1, .int (x)), (2, .int (nI (k)))] → W p l e (k2_rm 0 0) s m args below meth c H [] 0 0 Q (F0 m 2 ls []) := by
    intro fuel
    induction fuel with
    | zero => intro k hk hno hm; exact absurd hm (Nat.not_lt_zero _)
    | succ fuel ih_2 =>
      intro k hk hno hm ls hl
      refine lv_iload_n hx hb dX0_isIdentifierTaken_2 rfl (lv_at hl 2 rfl) ?_
      refine lv_aload_n hx hb dX0_isIdentifierTaken_3 rfl (lv_at hl 0 rfl) ?_
      refine x_g5 hC hK hP dX0_isIdentifierTaken_4 ?_
      refine nv_ge (tgt := 28) hx hb (by omega) (by omega) dX0_isIdentifierTaken_7 (by decide) (fun c_7 => ?_) (fun c_7 => ?_)
      · refine lv_iconst (v := (0)) hx hb dX0_isIdentifierTaken_28 (by decide) ?_
        exact hret _ _ _ dX0_isIdentifierTaken_29 (by rw [anyB_no (fun j hj => by simp [hno j (by omega)])]; rfl)
      · refine lv_aload_n hx hb dX0_isIdentifierTaken_10 rfl (lv_at hl 0 rfl) ?_
        refine x_g0 hC hK hP dX0_isIdentifierTaken_11 ?_
        refine lv_iload_n hx hb dX0_isIdentifierTaken_14 rfl (lv_at hl 2 rfl) ?_
        refine x_ldI hx hb hK hP (by omega) dX0_isIdentifierTaken_15 ?_
        refine lv_iload_n hx hb dX0_isIdentifierTaken_16 rfl (lv_at hl 1 rfl) ?_
        refine lv_icmp_ne (tgt := 22) hx hb dX0_isIdentifierTaken_17 (by decide) (fun c_17 => ?_) (fun c_17 => ?_)
        · refine lv_iinc (v := (nI (k + 1))) (lv' := [(2, .int (nI (k + 1))), (0, .ref (a 0)), (1, .int (x))]) hx hb dX0_isIdentifierTaken_22 hl (k := 2) rfl (nI_inc _) (by decide) rfl (fun ls hl => ?_)
          refine lv_goto (tgt := 2) hx hb dX0_isIdentifierTaken_25 (by decide) ?_
          exact ih_2 (k + 1) (by omega) (lt_s hno c_17) (by omega) ls (lv_sub hl [1, 2, 0] rfl)
        · refine lv_iconst (v := (1)) hx hb dX0_isIdentifierTaken_20 (by decide) ?_
          exact hret _ _ _ dX0_isIdentifierTaken_21 (by rw [anyB_yes (k := k) (by omega) (by simp [c_17])]; rfl)
  exact loop_2 (n - 0 + 1) 0 (Nat.zero_le _) (lt_0) (Nat.lt_succ_self _) ls (lv_sub hl [1, 2, 0] rfl)
set_option maxRecDepth 100000 in
set_option maxHeartbeats 4000000 in
theorem cX_isRoot {l : Launch} {E : EE} {a : Nat → Nat} {ids : Nat → Int32} {par : Nat → Option Nat} {rows : Nat → Nat → Int32} {cu pr n rd : Nat} (v : Nat) (hn : n ≤ 24)(hp : PW n par)(hv : v < n) : RO l E (XP E a ids par rows cu pr n rd) yX0_isRoot cX0_isRoot 2 (some .boolean) 1 21 [.ref (a 0), .int (nI (v))] (b2i ((par v).isNone)) := by
  refine RO.mk (C := RX0) rfl (b2i_nar _) (by decide) rfl (Nat.le_of_ble_eq_true rfl) ?_
  intro p e s m args below meth c H Q hC hK hP hret ls hl
  obtain ⟨hx, hb, hml, hown, hts⟩ := id hC
  have hl : lv_has ls 2 [(0, .ref (a 0)), (1, .int (nI (v)))] := hl
  refine lv_aload_n hx hb dX0_isRoot_0 rfl (lv_at hl 0 rfl) ?_
  refine lv_aload_n hx hb dX0_isRoot_1 rfl (lv_at hl 0 rfl) ?_
  refine x_g1 hC hK hP dX0_isRoot_2 ?_
  refine lv_iload_n hx hb dX0_isRoot_5 rfl (lv_at hl 1 rfl) ?_
  refine x_ldP hx hb hK hP (by omega) dX0_isRoot_6 ?_
  refine roV (As := [.int (pe (par v))]) hC kX0_44 (cX_isNode ((pe (par v))) ) hK hP (x_rec hK hP) rfl rfl hl ⟨Nat.le_of_ble_eq_true rfl, Nat.le_of_ble_eq_true rfl⟩ (Nat.le_of_ble_eq_true rfl) dX0_isRoot_7 ⟨Nat.le_of_ble_eq_true rfl, Nat.le_of_ble_eq_true rfl⟩ ?_
  refine tI ((b2i ((par v).isSome))) (by rw [vN_pe hn (fun u h => hp.lt hv h)]) ?_
  refine bv_ne (tgt := 17) hx hb dX0_isRoot_10 (by decide) (fun c_10 => ?_) (fun c_10 => ?_)
  · refine lv_iconst (v := (0)) hx hb dX0_isRoot_17 (by decide) ?_
    exact hret _ _ _ dX0_isRoot_18 (by cases h : par v <;> simp_all [b2i])
  · refine lv_iconst (v := (1)) hx hb dX0_isRoot_13 (by decide) ?_
    refine lv_goto (tgt := 18) hx hb dX0_isRoot_14 (by decide) ?_
    exact hret _ _ _ dX0_isRoot_18 (by cases h : par v <;> simp_all [b2i])
set_option maxRecDepth 100000 in
set_option maxHeartbeats 4000000 in
theorem cX_isIn {l : Launch} {E : EE}  {n : Nat} (w : Nat → Bool) (o : Nat) (hn : n ≤ 24)(ho : o < n) : RO l E ((fun _ => True)) yX0_isIn cX0_isIn 2 (some .boolean) 0 0 [.int (mk n (w)), .int (nI (o))] (b2i (w o)) := by
  refine RO.mk (C := RX0) rfl (b2i_nar _) (by decide) rfl (Nat.le_of_ble_eq_true rfl) ?_
  intro p e s m args below meth c H Q hC hK hP hret ls hl
  obtain ⟨hx, hb, hml, hown, hts⟩ := id hC
  have hl : lv_has ls 2 [(0, .int (mk n (w))), (1, .int (nI (o)))] := hl
  refine lv_iload_n hx hb dX0_isIn_0 rfl (lv_at hl 0 rfl) ?_
  refine lv_iload_n hx hb dX0_isIn_1 rfl (lv_at hl 1 rfl) ?_
  refine lv_ishr hx hb dX0_isIn_2 ?_
  refine lv_iconst (v := (1)) hx hb dX0_isIn_3 (by decide) ?_
  refine lv_iand hx hb dX0_isIn_4 ?_
  refine tI ((b2i (w o))) (mk_in hn ho w) ?_
  refine lv_iconst (v := (1)) hx hb dX0_isIn_5 (by decide) ?_
  refine lv_icmp_ne (tgt := 13) hx hb dX0_isIn_6 (by decide) (fun c_6 => ?_) (fun c_6 => ?_)
  · refine lv_iconst (v := (0)) hx hb dX0_isIn_13 (by decide) ?_
    exact hret _ _ _ dX0_isIn_14 (by cases h : w o <;> simp_all [b2i])
  · refine lv_iconst (v := (1)) hx hb dX0_isIn_9 (by decide) ?_
    refine lv_goto (tgt := 14) hx hb dX0_isIn_10 (by decide) ?_
    exact hret _ _ _ dX0_isIn_14 (by cases h : w o <;> simp_all [b2i])
set_option maxRecDepth 100000 in
set_option maxHeartbeats 4000000 in
theorem cX_nb {l : Launch} {E : EE} {a : Nat → Nat} {ids : Nat → Int32} {par : Nat → Option Nat} {rows : Nat → Nat → Int32} {cu pr n rd : Nat} (u v : Nat) (hn : n ≤ 24)(hp : PW n par)(hu : u < n) (hv : v < n) : RO l E (XP E a ids par rows cu pr n rd) yX0_areNeighbours cX0_areNeighbours 3 (some .boolean) 0 0 [.ref (a 0), .int (nI (u)), .int (nI (v))] (b2i (nb par u v)) := by
  refine RO.mk (C := RX0) rfl (b2i_nar _) (by decide) rfl (Nat.le_of_ble_eq_true rfl) ?_
  intro p e s m args below meth c H Q hC hK hP hret ls hl
  obtain ⟨hx, hb, hml, hown, hts⟩ := id hC
  have hl : lv_has ls 3 [(0, .ref (a 0)), (1, .int (nI (u))), (2, .int (nI (v)))] := hl
  refine lv_aload_n hx hb dX0_areNeighbours_0 rfl (lv_at hl 0 rfl) ?_
  refine x_g1 hC hK hP dX0_areNeighbours_1 ?_
  refine lv_iload_n hx hb dX0_areNeighbours_4 rfl (lv_at hl 1 rfl) ?_
  refine x_ldP hx hb hK hP (by omega) dX0_areNeighbours_5 ?_
  refine lv_iload_n hx hb dX0_areNeighbours_6 rfl (lv_at hl 2 rfl) ?_
  refine pvn_eq (tgt := 20) hx hb (hp.big hn (by omega)) (by omega) dX0_areNeighbours_7 (by decide) (fun c_7 => ?_) (fun c_7 => ?_)
  · refine lv_iconst (v := (1)) hx hb dX0_areNeighbours_20 (by decide) ?_
    refine lv_goto (tgt := 25) hx hb dX0_areNeighbours_21 (by decide) ?_
    exact hret _ _ _ dX0_areNeighbours_25 (by simp [nb, c_7, b2i])
  · refine lv_aload_n hx hb dX0_areNeighbours_10 rfl (lv_at hl 0 rfl) ?_
    refine x_g1 hC hK hP dX0_areNeighbours_11 ?_
    refine lv_iload_n hx hb dX0_areNeighbours_14 rfl (lv_at hl 2 rfl) ?_
    refine x_ldP hx hb hK hP (by omega) dX0_areNeighbours_15 ?_
    refine lv_iload_n hx hb dX0_areNeighbours_16 rfl (lv_at hl 1 rfl) ?_
    refine pvn_ne (tgt := 24) hx hb (hp.big hn (by omega)) (by omega) dX0_areNeighbours_17 (by decide) (fun c_17 => ?_) (fun c_17 => ?_)
    · refine lv_iconst (v := (0)) hx hb dX0_areNeighbours_24 (by decide) ?_
      exact hret _ _ _ dX0_areNeighbours_25 (by simp [nb, c_7, c_17, b2i])
    · refine lv_iconst (v := (1)) hx hb dX0_areNeighbours_20 (by decide) ?_
      refine lv_goto (tgt := 25) hx hb dX0_areNeighbours_21 (by decide) ?_
      exact hret _ _ _ dX0_areNeighbours_25 (by simp [nb, c_7, c_17, b2i])
set_option maxRecDepth 100000 in
set_option maxHeartbeats 4000000 in
theorem cX_neigh {l : Launch} {E : EE} {a : Nat → Nat} {ids : Nat → Int32} {par : Nat → Option Nat} {rows : Nat → Nat → Int32} {cu pr n rd : Nat} (u : Nat) (hn : n ≤ 24)(hp : PW n par)(hu : u < n) : RO l E (XP E a ids par rows cu pr n rd) yX0_neighbours cX0_neighbours 4 (some .int) 1 22 [.ref (a 0), .int (nI (u))] (mk n (nb par u)) := by
  refine RO.mk (C := RX0) rfl rfl (by decide) rfl (Nat.le_of_ble_eq_true rfl) ?_
  intro p e s m args below meth c H Q hC hK hP hret ls hl
  obtain ⟨hx, hb, hml, hown, hts⟩ := id hC
  have hl : lv_has ls 4 [(0, .ref (a 0)), (1, .int (nI (u)))] := hl
  refine lv_iconst (v := (0)) hx hb dX0_neighbours_0 (by decide) ?_
  refine tI ((mk n (fun _ => false))) (mk_0 n) ?_
  refine lv_istore_n (lv' := [(2, .int (mk n (fun _ => false))), (0, .ref (a 0)), (1, .int (nI (u)))]) hx hb dX0_neighbours_1 rfl hl (by decide) rfl (fun ls hl => ?_)
  refine lv_iconst (v := (nI (0))) hx hb dX0_neighbours_2 (by decide) ?_
  refine lv_istore_n (lv' := [(3, .int (nI (0))), (2, .int (mk n (fun _ => false))), (0, .ref (a 0)), (1, .int (nI (u)))]) hx hb dX0_neighbours_3 rfl hl (by decide) rfl (fun ls hl => ?_)
  have loop_4 : ∀ (fuel : Nat) (k : Nat), (k ≤ n) → n - k < fuel → ∀ (ls : Array Slot), lv_has ls 4 [(0, .ref (a 0)), (1, .int (nI (u))), (2, .int (mk n (fun j => decide (j < k) && nb par u j))), (3, .int (nI (k)))] → W p l e (k2_rm 1 22) s m args below meth c H [] 0 0 Q (F0 m 4 ls []) := by
    intro fuel
    induction fuel with
    | zero => intro k hk hm; exact absurd hm (Nat.not_lt_zero _)
    | succ fuel ih_4 =>
      intro k hk hm ls hl
      refine lv_iload_n hx hb dX0_neighbours_4 rfl (lv_at hl 3 rfl) ?_
      refine lv_aload_n hx hb dX0_neighbours_5 rfl (lv_at hl 0 rfl) ?_
      refine x_g5 hC hK hP dX0_neighbours_6 ?_
      refine nv_ge (tgt := 33) hx hb (by omega) (by omega) dX0_neighbours_9 (by decide) (fun c_9 => ?_) (fun c_9 => ?_)
      · refine lv_iload_n hx hb dX0_neighbours_33 rfl (lv_at hl 2 rfl) ?_
        exact hret _ _ _ dX0_neighbours_34 (mk_cong (fun j hj => by simp [show j < k by omega]))
      · refine lv_aload_n hx hb dX0_neighbours_12 rfl (lv_at hl 0 rfl) ?_
        refine lv_iload_n hx hb dX0_neighbours_13 rfl (lv_at hl 1 rfl) ?_
        refine lv_iload_n hx hb dX0_neighbours_14 rfl (lv_at hl 3 rfl) ?_
        refine roV (As := [.int (nI (u)), .int (nI (k))]) hC kX0_111 (cX_nb u k hn hp (by omega) (by omega)) hK hP (x_rec hK hP) rfl rfl hl ⟨Nat.le_of_ble_eq_true rfl, Nat.le_of_ble_eq_true rfl⟩ (Nat.le_of_ble_eq_true rfl) dX0_neighbours_15 ⟨Nat.le_of_ble_eq_true rfl, Nat.le_of_ble_eq_true rfl⟩ ?_
        refine bv_eq (tgt := 27) hx hb dX0_neighbours_18 (by decide) (fun c_18 => ?_) (fun c_18 => ?_)
        · rw [show mk n (fun j => decide (j < k) && nb par u j) = mk n (fun j => decide (j < k + 1) && nb par u j) from mk_cong (fun j hj => by by_cases h : j = k <;> simp [h, c_18, Nat.lt_succ_iff_lt_or_eq])] at hl
          refine lv_iinc (v := (nI (k + 1))) (lv' := [(3, .int (nI (k + 1))), (0, .ref (a 0)), (1, .int (nI (u))), (2, .int (mk n (fun j => decide (j < k + 1) && nb par u j)))]) hx hb dX0_neighbours_27 hl (k := 3) rfl (nI_inc _) (by decide) rfl (fun ls hl => ?_)
          refine lv_goto (tgt := 4) hx hb dX0_neighbours_30 (by decide) ?_
          exact ih_4 (k + 1) (by omega) (by omega) ls (lv_sub hl [1, 2, 3, 0] rfl)
        · refine lv_iload_n hx hb dX0_neighbours_21 rfl (lv_at hl 2 rfl) ?_
          refine lv_iconst (v := (1)) hx hb dX0_neighbours_22 (by decide) ?_
          refine lv_iload_n hx hb dX0_neighbours_23 rfl (lv_at hl 3 rfl) ?_
          refine lv_ishl hx hb dX0_neighbours_24 ?_
          refine lv_ior hx hb dX0_neighbours_25 ?_
          refine tI ((mk n (fun j => decide (j < k + 1) && nb par u j))) (by rw [mk_ins hn (by omega)]; exact mk_cong (fun j hj => by by_cases h : j = k <;> simp [h, c_18, Nat.lt_succ_iff_lt_or_eq])) ?_
          refine lv_istore_n (lv' := [(2, .int (mk n (fun j => decide (j < k + 1) && nb par u j))), (0, .ref (a 0)), (1, .int (nI (u))), (3, .int (nI (k)))]) hx hb dX0_neighbours_26 rfl hl (by decide) rfl (fun ls hl => ?_)
          refine lv_iinc (v := (nI (k + 1))) (lv' := [(3, .int (nI (k + 1))), (2, .int (mk n (fun j => decide (j < k + 1) && nb par u j))), (0, .ref (a 0)), (1, .int (nI (u)))]) hx hb dX0_neighbours_27 hl (k := 3) rfl (nI_inc _) (by decide) rfl (fun ls hl => ?_)
          refine lv_goto (tgt := 4) hx hb dX0_neighbours_30 (by decide) ?_
          exact ih_4 (k + 1) (by omega) (by omega) ls (lv_sub hl [2, 3, 1, 0] rfl)
  exact loop_4 (n - 0 + 1) 0 (Nat.zero_le _) (Nat.lt_succ_self _) ls (lv_sub hl [2, 3, 1, 0] rfl)
