-- the reference: colours and rounds (laid by wip/whole/gen/spec_m2.py)
def mpast (cols : Nat → Int32) (rd : Nat) (r : Int32) (v : Nat) : Int32 := if wiB r 0 16 = false then -2 else if nI rd < r then -7 else mcol cols (rd - r.toNatClampNeg) v
theorem wi_16 {r : Int32} (h : wiB r 0 16 = true) : ∃ q, q ≤ 16 ∧ r = nI q := by
  simp only [wiB, Bool.and_eq_true, Bool.not_eq_true', decide_eq_false_iff_not] at h
  exact nI_of2 (n := 16) (by decide) h.1 (Int32.not_lt.mp h.2)
theorem fre_step {par : Nat → Option Nat} {col : Nat → Int32} {n v q k : Nat} (hq : freF par col n v n = some q) (hk : k ≤ q) (hb : bes par col n v (nI k) = true) : k < q := by
  rcases Nat.lt_or_eq_of_le hk with h | h
  · exact h
  · subst h
    rcases fst_spec (p := fun c => !bes par col n v (nI c)) (n := n) with ⟨h1, -⟩ | ⟨j, h1, -, h3, -⟩
    · rw [freF, h1] at hq; cases hq
    · rw [freF, h1] at hq; cases hq
      rw [hb] at h3; cases h3
theorem cc_t {p : Nat → Bool} {j : Nat} (h : (!anyB p j) = true) (h2 : p j = false) : b2i true = b2i (!anyB p (j + 1)) := by
  have h : anyB p j = false := by simpa using h
  rw [anyB, h, h2]; rfl
theorem cc_f1 {p : Nat → Bool} {j : Nat} (h : (!anyB p j) = false) : b2i false = b2i (!anyB p (j + 1)) := by
  have h : anyB p j = true := by simpa using h
  rw [anyB, h]; rfl
theorem cc_f2 {p : Nat → Bool} {j : Nat} (h : p j = true) : b2i false = b2i (!anyB p (j + 1)) := by
  rw [anyB, h, Bool.or_true]; rfl
theorem cf_n {par : Nat → Option Nat} {col : Nat → Int32} {v u : Nat} (hu : par v = some u) (h : ¬ col v = col u) : conf par col v = false := by simp [conf, hu, h]
theorem cf_y {par : Nat → Option Nat} {col : Nat → Int32} {v u : Nat} (hu : par v = some u) (h : col v = col u) : conf par col v = true := by simp [conf, hu, h]
theorem bit_done {x z : Int32} {k : Nat} (h : z = nI (lowb x)) (hk : k ≤ lowb x) (h4 : ∀ j, j < lowb x → bt x j = false) (hb : bt x k = true) : nI k = z := by
  rcases Nat.lt_or_eq_of_le hk with h1 | h1
  · rw [h4 k h1] at hb; cases hb
  · rw [h, h1]
theorem el_or {y : Int32} (h : (!decide (y < 3) && vV y) = false) : y < 3 ∨ vV y = false := by
  by_cases h1 : y < 3
  · exact Or.inl h1
  · simp [h1] at h; exact Or.inr h
theorem el_nor {y : Int32} (h : (!decide (y < 3) && vV y) = true) : ¬ (y < 3 ∨ vV y = false) := by
  rintro (h1 | h1)
  · simp [h1] at h
  · simp [h1] at h
theorem el_no {n : Nat} {par : Nat → Option Nat} {col : Nat → Int32} {y : Int32} (h : (!decide (y < 3) && vV y) = false) : okEL n par col y = false := by rw [okEL, h]; rfl
theorem el_yes {n : Nat} {par : Nat → Option Nat} {col : Nat → Int32} {y : Int32} (h : (!decide (y < 3) && vV y) = true) (h2 : propB n par col = true) : okEL n par col y = true := by rw [okEL, h, h2]; rfl
theorem el_np {n : Nat} {par : Nat → Option Nat} {col : Nat → Int32} {y : Int32} (h2 : ¬ propB n par col = true) : ¬ okEL n par col y = true := by
  intro h
  rw [okEL, Bool.and_eq_true] at h
  exact h2 h.2
set_option maxRecDepth 100000 in
set_option maxHeartbeats 4000000 in
theorem cM_head {l : Launch} {E : EE} {b : Nat → Nat} {n : Nat} {ids : Nat → Int32} {par : Nat → Option Nat} {cols : Nat → Int32} {rd : Nat} {nx : Nat → Int32} {isin : Nat → Bool} {wi wo : Nat → Nat} {wf : Nat → Option Nat} (v : Nat) (hn : n ≤ 24)(hp : PW n par)(hv : v < n) : RO l E (MP E b n ids par cols rd nx isin wi wo wf) yX1_headOf cX1_headOf 5 (some .int) 0 0 [.ref (b 0), .int (nI (v))] (nI (hdF par n v)) := by
  refine RO.mk (C := RX1) rfl rfl (by decide) rfl (Nat.le_of_ble_eq_true rfl) ?_
  intro p e s m args below meth c H Q hC hK hP hret ls hl
  obtain ⟨hx, hb, hml, hown, hts⟩ := id hC
  have hl : lv_has ls 5 [(0, .ref (b 0)), (1, .int (nI (v)))] := hl
  refine lv_iload_n hx hb dX1_headOf_0 rfl (lv_at hl 1 rfl) ?_
  refine lv_istore_n (lv' := [(2, .int (nI (v))), (0, .ref (b 0)), (1, .int (nI (v)))]) hx hb dX1_headOf_1 rfl hl (by decide) rfl (fun ls hl => ?_)
  have join_36 : ∀ (t : Nat), (t < n) → (itS par n v = t) → ∀ (ls : Array Slot), lv_has ls 5 [(0, .ref (b 0)), (1, .int (nI (v))), (2, .int (nI (t)))] → W p l e (k2_rm 0 0) s m args below meth c H [] 0 0 Q (F0 m 36 ls []) := by
    intro t htn ht ls hl
    refine lv_aload_n hx hb dX1_headOf_36 rfl (lv_at hl 0 rfl) ?_
    refine m_g2 hC hK hP dX1_headOf_37 ?_
    refine lv_iload_n hx hb dX1_headOf_40 rfl (lv_at hl 2 rfl) ?_
    refine m_ld2 hx hb hK hP (by omega) dX1_headOf_41 ?_
    refine lv_bipush (v := (-7)) hx hb dX1_headOf_42 (by decide) ?_
    refine pv_ne7 (tgt := 49) hx hb (hp.big hn (by omega)) dX1_headOf_44 (by decide) (fun c_44 => ?_) (fun c_44 => ?_)
    · obtain ⟨cc, hc1, hc2, hc3, hc4, hc5, hc6⟩ := cyc_spec hp hv (by rw [ht]; exact c_44)
      rw [ht] at hc1 hc4 hc5 hc6
      have hil := itS_lt hp htn
      refine lv_iload_n hx hb dX1_headOf_49 rfl (lv_at hl 2 rfl) ?_
      refine lv_istore_n (lv' := [(3, .int (nI (t))), (0, .ref (b 0)), (1, .int (nI (v))), (2, .int (nI (t)))]) hx hb dX1_headOf_50 rfl hl (by decide) rfl (fun ls hl => ?_)
      refine lv_aload_n hx hb dX1_headOf_51 rfl (lv_at hl 1 rfl) ?_
      refine m_g2 hC hK hP dX1_headOf_52 ?_
      refine lv_iload_n hx hb dX1_headOf_55 rfl (lv_at hl 3 rfl) ?_
      refine m_ld2 hx hb hK hP (by omega) dX1_headOf_56 ?_
      refine tI ((nI (itS par 1 t))) (by rw [show par t = some (itS par 1 t) from hc6 0]; rfl) ?_
      refine lv_istore (lv' := [(4, .int (nI (itS par 1 t))), (3, .int (nI (t))), (0, .ref (b 0)), (1, .int (nI (v))), (2, .int (nI (t)))]) hx hb dX1_headOf_57 hl (by decide) rfl (fun ls hl => ?_)
      have loop_59 : ∀ (fuel : Nat) (i : Nat), (i + 1 ≤ cc) → cc - i < fuel → ∀ (ls : Array Slot), lv_has ls 5 [(0, .ref (b 0)), (1, .int (nI (v))), (2, .int (nI (t))), (3, .int (nI (mnF par t i))), (4, .int (nI (itS par (i + 1) t)))] → W p l e (k2_rm 0 0) s m args below meth c H [] 0 0 Q (F0 m 59 ls []) := by
        intro fuel
        induction fuel with
        | zero => intro i hi hm; exact absurd hm (Nat.not_lt_zero _)
        | succ fuel ih_59 =>
          intro i hi hm ls hl
          have hb1 := mnF_le par t i
          have hb2 := hil (i + 1)
          refine lv_iload hx hb dX1_headOf_59 (lv_at hl 4 rfl) ?_
          refine lv_iload_n hx hb dX1_headOf_61 rfl (lv_at hl 2 rfl) ?_
          refine nv_eq (tgt := 90) hx hb (by omega) (by omega) dX1_headOf_62 (by decide) (fun c_62 => ?_) (fun c_62 => ?_)
          · refine lv_iload_n hx hb dX1_headOf_90 rfl (lv_at hl 3 rfl) ?_
            exact hret _ _ _ dX1_headOf_91 (by rw [hdF, ht, if_neg c_44, hc1]; have he : i + 1 = cc := (Nat.lt_or_eq_of_le hi).elim (fun h => absurd c_62 (hc5 (i + 1) (by omega) h)) id; rw [Option.getD_some, ← he]; rfl)
          · refine lv_iload hx hb dX1_headOf_65 (lv_at hl 4 rfl) ?_
            refine lv_iload_n hx hb dX1_headOf_67 rfl (lv_at hl 3 rfl) ?_
            refine nv_ge (tgt := 76) hx hb (by omega) (by omega) dX1_headOf_68 (by decide) (fun c_68 => ?_) (fun c_68 => ?_)
            · refine lv_iload_n hx hb dX1_headOf_76 rfl (lv_at hl 3 rfl) ?_
              refine tI ((nI (mnF par t (i + 1)))) (by rw [mnF, if_neg (by omega)]) ?_
              refine lv_istore_n (lv' := [(3, .int (nI (mnF par t (i + 1)))), (0, .ref (b 0)), (1, .int (nI (v))), (2, .int (nI (t))), (4, .int (nI (itS par (i + 1) t)))]) hx hb dX1_headOf_77 rfl hl (by decide) rfl (fun ls hl => ?_)
              refine lv_aload_n hx hb dX1_headOf_78 rfl (lv_at hl 1 rfl) ?_
              refine m_g2 hC hK hP dX1_headOf_79 ?_
              refine lv_iload hx hb dX1_headOf_82 (lv_at hl 4 rfl) ?_
              refine m_ld2 hx hb hK hP (by omega) dX1_headOf_84 ?_
              refine tI ((nI (itS par (i + 1 + 1) t))) (by rw [hc6 (i + 1)]; rfl) ?_
              refine lv_istore (lv' := [(4, .int (nI (itS par (i + 1 + 1) t))), (3, .int (nI (mnF par t (i + 1)))), (0, .ref (b 0)), (1, .int (nI (v))), (2, .int (nI (t)))]) hx hb dX1_headOf_85 hl (by decide) rfl (fun ls hl => ?_)
              refine lv_goto (tgt := 59) hx hb dX1_headOf_87 (by decide) ?_
              exact ih_59 (i + 1) (Nat.lt_of_le_of_ne hi (fun e => c_62 (by rw [e]; exact hc4))) (by omega) ls (lv_sub hl [2, 3, 4, 1, 0] rfl)
            · refine lv_iload hx hb dX1_headOf_71 (lv_at hl 4 rfl) ?_
              refine tI ((nI (mnF par t (i + 1)))) (by rw [mnF, if_pos c_68]) ?_
              refine lv_goto (tgt := 77) hx hb dX1_headOf_73 (by decide) ?_
              refine lv_istore_n (lv' := [(3, .int (nI (mnF par t (i + 1)))), (0, .ref (b 0)), (1, .int (nI (v))), (2, .int (nI (t))), (4, .int (nI (itS par (i + 1) t)))]) hx hb dX1_headOf_77 rfl hl (by decide) rfl (fun ls hl => ?_)
              refine lv_aload_n hx hb dX1_headOf_78 rfl (lv_at hl 1 rfl) ?_
              refine m_g2 hC hK hP dX1_headOf_79 ?_
              refine lv_iload hx hb dX1_headOf_82 (lv_at hl 4 rfl) ?_
              refine m_ld2 hx hb hK hP (by omega) dX1_headOf_84 ?_
              refine tI ((nI (itS par (i + 1 + 1) t))) (by rw [hc6 (i + 1)]; rfl) ?_
              refine lv_istore (lv' := [(4, .int (nI (itS par (i + 1 + 1) t))), (3, .int (nI (mnF par t (i + 1)))), (0, .ref (b 0)), (1, .int (nI (v))), (2, .int (nI (t)))]) hx hb dX1_headOf_85 hl (by decide) rfl (fun ls hl => ?_)
              refine lv_goto (tgt := 59) hx hb dX1_headOf_87 (by decide) ?_
              exact ih_59 (i + 1) (Nat.lt_of_le_of_ne hi (fun e => c_62 (by rw [e]; exact hc4))) (by omega) ls (lv_sub hl [2, 3, 4, 1, 0] rfl)
      exact loop_59 (cc - 0 + 1) 0 (hc2) (Nat.lt_succ_self _) ls (lv_sub hl [2, 3, 4, 1, 0] rfl)
    · refine lv_iload_n hx hb dX1_headOf_47 rfl (lv_at hl 2 rfl) ?_
      exact hret _ _ _ dX1_headOf_48 (by rw [hdF, ht, if_pos c_44])
  refine lv_iconst (v := (nI (0))) hx hb dX1_headOf_2 (by decide) ?_
  refine lv_istore_n (lv' := [(3, .int (nI (0))), (2, .int (nI (v))), (0, .ref (b 0)), (1, .int (nI (v)))]) hx hb dX1_headOf_3 rfl hl (by decide) rfl (fun ls hl => ?_)
  have loop_4 : ∀ (fuel : Nat) (k : Nat) (t : Nat), (k ≤ n) → (t < n) → (itS par k v = t) → n - k < fuel → ∀ (ls : Array Slot), lv_has ls 5 [(0, .ref (b 0)), (1, .int (nI (v))), (2, .int (nI (t))), (3, .int (nI (k)))] → W p l e (k2_rm 0 0) s m args below meth c H [] 0 0 Q (F0 m 4 ls []) := by
    intro fuel
    induction fuel with
    | zero => intro k t hk htn ht hm; exact absurd hm (Nat.not_lt_zero _)
    | succ fuel ih_4 =>
      intro k t hk htn ht hm ls hl
      refine lv_iload_n hx hb dX1_headOf_4 rfl (lv_at hl 3 rfl) ?_
      refine lv_aload_n hx hb dX1_headOf_5 rfl (lv_at hl 0 rfl) ?_
      refine m_g0 hC hK hP dX1_headOf_6 ?_
      refine nv_ge (tgt := 36) hx hb (by omega) (by omega) dX1_headOf_9 (by decide) (fun c_9 => ?_) (fun c_9 => ?_)
      · exact join_36 t (htn) (by rw [← ht, show k = n by omega]) ls (lv_sub hl [0, 1, 2] rfl)
      · refine lv_aload_n hx hb dX1_headOf_12 rfl (lv_at hl 0 rfl) ?_
        refine m_g2 hC hK hP dX1_headOf_13 ?_
        refine lv_iload_n hx hb dX1_headOf_16 rfl (lv_at hl 2 rfl) ?_
        refine m_ld2 hx hb hK hP (by omega) dX1_headOf_17 ?_
        refine lv_bipush (v := (-7)) hx hb dX1_headOf_18 (by decide) ?_
        refine pv_eq7 (tgt := 36) hx hb (hp.big hn (by omega)) dX1_headOf_20 (by decide) (fun c_20 => ?_) (fun c_20 => ?_)
        · exact join_36 t (htn) (by have h := itS_root ht c_20 (n - k); rw [show k + (n - k) = n by omega] at h; exact h) ls (lv_sub hl [0, 1, 2] rfl)
        · obtain ⟨u, hu⟩ := ex_some c_20
          refine lv_aload_n hx hb dX1_headOf_23 rfl (lv_at hl 0 rfl) ?_
          refine m_g2 hC hK hP dX1_headOf_24 ?_
          refine lv_iload_n hx hb dX1_headOf_27 rfl (lv_at hl 2 rfl) ?_
          refine m_ld2 hx hb hK hP (by omega) dX1_headOf_28 ?_
          refine tI ((nI (u))) (by rw [hu]; rfl) ?_
          refine lv_istore_n (lv' := [(2, .int (nI (u))), (0, .ref (b 0)), (1, .int (nI (v))), (3, .int (nI (k)))]) hx hb dX1_headOf_29 rfl hl (by decide) rfl (fun ls hl => ?_)
          refine lv_iinc (v := (nI (k + 1))) (lv' := [(3, .int (nI (k + 1))), (2, .int (nI (u))), (0, .ref (b 0)), (1, .int (nI (v)))]) hx hb dX1_headOf_30 hl (k := 3) rfl (nI_inc _) (by decide) rfl (fun ls hl => ?_)
          refine lv_goto (tgt := 4) hx hb dX1_headOf_33 (by decide) ?_
          exact ih_4 (k + 1) u (by omega) (hp.lt htn hu) (by rw [itS, ht, stp_some hu]) (by omega) ls (lv_sub hl [2, 3, 1, 0] rfl)
  exact loop_4 (n - 0 + 1) 0 v (Nat.zero_le _) (hv) (rfl) (Nat.lt_succ_self _) ls (lv_sub hl [2, 3, 1, 0] rfl)
set_option maxRecDepth 100000 in
set_option maxHeartbeats 4000000 in
theorem cM_partCount {l : Launch} {E : EE} {b : Nat → Nat} {n : Nat} {ids : Nat → Int32} {par : Nat → Option Nat} {cols : Nat → Int32} {rd : Nat} {nx : Nat → Int32} {isin : Nat → Bool} {wi wo : Nat → Nat} {wf : Nat → Option Nat}  (hn : n ≤ 24)(hp : PW n par) : RO l E (MP E b n ids par cols rd nx isin wi wo wf) yX1_partCount cX1_partCount 3 (some .int) 1 24 [.ref (b 0)] (nI (fb_ct (fun j => decide (hdF par n j = j)) n)) := by
  refine RO.mk (C := RX1) rfl rfl (by decide) rfl (Nat.le_of_ble_eq_true rfl) ?_
  intro p e s m args below meth c H Q hC hK hP hret ls hl
  obtain ⟨hx, hb, hml, hown, hts⟩ := id hC
  have hl : lv_has ls 3 [(0, .ref (b 0))] := hl
  refine lv_iconst (v := (nI (0))) hx hb dX1_partCount_0 (by decide) ?_
  refine lv_istore_n (lv' := [(1, .int (nI (0))), (0, .ref (b 0))]) hx hb dX1_partCount_1 rfl hl (by decide) rfl (fun ls hl => ?_)
  refine lv_iconst (v := (nI (0))) hx hb dX1_partCount_2 (by decide) ?_
  refine lv_istore_n (lv' := [(2, .int (nI (0))), (1, .int (nI (0))), (0, .ref (b 0))]) hx hb dX1_partCount_3 rfl hl (by decide) rfl (fun ls hl => ?_)
  have loop_4 : ∀ (fuel : Nat) (k : Nat), (k ≤ n) → n - k < fuel → ∀ (ls : Array Slot), lv_has ls 3 [(0, .ref (b 0)), (1, .int (nI (fb_ct (fun j => decide (hdF par n j = j)) k))), (2, .int (nI (k)))] → W p l e (k2_rm 1 24) s m args below meth c H [] 0 0 Q (F0 m 4 ls []) := by
    intro fuel
    induction fuel with
    | zero => intro k hk hm; exact absurd hm (Nat.not_lt_zero _)
    | succ fuel ih_4 =>
      intro k hk hm ls hl
      refine lv_iload_n hx hb dX1_partCount_4 rfl (lv_at hl 2 rfl) ?_
      refine lv_aload_n hx hb dX1_partCount_5 rfl (lv_at hl 0 rfl) ?_
      refine m_g0 hC hK hP dX1_partCount_6 ?_
      refine nv_ge (tgt := 35) hx hb (by omega) (by omega) dX1_partCount_9 (by decide) (fun c_9 => ?_) (fun c_9 => ?_)
      · refine lv_iload_n hx hb dX1_partCount_35 rfl (lv_at hl 1 rfl) ?_
        exact hret _ _ _ dX1_partCount_36 (by rw [show k = n by omega])
      · refine lv_iload_n hx hb dX1_partCount_12 rfl (lv_at hl 1 rfl) ?_
        refine lv_aload_n hx hb dX1_partCount_13 rfl (lv_at hl 0 rfl) ?_
        refine lv_iload_n hx hb dX1_partCount_14 rfl (lv_at hl 2 rfl) ?_
        refine roV (As := [.int (nI (k))]) hC kX1_76 (cM_head k hn hp (by omega)) hK hP (m_rec hK hP) rfl rfl hl ⟨Nat.le_of_ble_eq_true rfl, Nat.le_of_ble_eq_true rfl⟩ (Nat.le_of_ble_eq_true rfl) dX1_partCount_15 ⟨Nat.le_of_ble_eq_true rfl, Nat.le_of_ble_eq_true rfl⟩ ?_
        refine lv_iload_n hx hb dX1_partCount_18 rfl (lv_at hl 2 rfl) ?_
        refine nv_ne (tgt := 26) hx hb (by have := hdF_lt hp (v := k) (by omega); omega) (by omega) dX1_partCount_19 (by decide) (fun c_19 => ?_) (fun c_19 => ?_)
        · refine lv_iconst (v := (nI (0))) hx hb dX1_partCount_26 (by decide) ?_
          refine lv_iadd hx hb dX1_partCount_27 ?_
          refine tI (nI ((fb_ct (fun j => decide (hdF par n j = j)) k) + 0)) (nI_add _ _) ?_
          refine tI ((nI (fb_ct (fun j => decide (hdF par n j = j)) (k + 1)))) (by rw [fb_ct_f (by simp [c_19])]; rfl) ?_
          refine lv_istore_n (lv' := [(1, .int (nI (fb_ct (fun j => decide (hdF par n j = j)) (k + 1)))), (0, .ref (b 0)), (2, .int (nI (k)))]) hx hb dX1_partCount_28 rfl hl (by decide) rfl (fun ls hl => ?_)
          refine lv_iinc (v := (nI (k + 1))) (lv' := [(2, .int (nI (k + 1))), (1, .int (nI (fb_ct (fun j => decide (hdF par n j = j)) (k + 1)))), (0, .ref (b 0))]) hx hb dX1_partCount_29 hl (k := 2) rfl (nI_inc _) (by decide) rfl (fun ls hl => ?_)
          refine lv_goto (tgt := 4) hx hb dX1_partCount_32 (by decide) ?_
          exact ih_4 (k + 1) (by omega) (by omega) ls (lv_sub hl [2, 1, 0] rfl)
        · refine lv_iconst (v := (nI (1))) hx hb dX1_partCount_22 (by decide) ?_
          refine lv_goto (tgt := 27) hx hb dX1_partCount_23 (by decide) ?_
          refine lv_iadd hx hb dX1_partCount_27 ?_
          refine tI (nI ((fb_ct (fun j => decide (hdF par n j = j)) k) + 1)) (nI_add _ _) ?_
          refine tI ((nI (fb_ct (fun j => decide (hdF par n j = j)) (k + 1)))) (by rw [fb_ct_t (by simp [c_19])]) ?_
          refine lv_istore_n (lv' := [(1, .int (nI (fb_ct (fun j => decide (hdF par n j = j)) (k + 1)))), (0, .ref (b 0)), (2, .int (nI (k)))]) hx hb dX1_partCount_28 rfl hl (by decide) rfl (fun ls hl => ?_)
          refine lv_iinc (v := (nI (k + 1))) (lv' := [(2, .int (nI (k + 1))), (1, .int (nI (fb_ct (fun j => decide (hdF par n j = j)) (k + 1)))), (0, .ref (b 0))]) hx hb dX1_partCount_29 hl (k := 2) rfl (nI_inc _) (by decide) rfl (fun ls hl => ?_)
          refine lv_goto (tgt := 4) hx hb dX1_partCount_32 (by decide) ?_
          exact ih_4 (k + 1) (by omega) (by omega) ls (lv_sub hl [2, 1, 0] rfl)
  exact loop_4 (n - 0 + 1) 0 (Nat.zero_le _) (Nat.lt_succ_self _) ls (lv_sub hl [2, 1, 0] rfl)
set_option maxRecDepth 100000 in
set_option maxHeartbeats 4000000 in
theorem cM_setColour {l : Launch} {E : EE} {b : Nat → Nat} {n : Nat} {ids : Nat → Int32} {par : Nat → Option Nat} {cols : Nat → Int32} {rd : Nat} {nx : Nat → Int32} {isin : Nat → Bool} {wi wo : Nat → Nat} {wf : Nat → Option Nat} (x y : Int32) (hI : inj 9 b)(hn : n ≤ 24)(hrd : rd < 100000) : WR l E (MP E b n ids par cols rd nx isin wi wo wf) (AM b) yX1_setColour cX1_setColour 4 (some .int) 2 43 [.ref (b 0), .int (x), .int (y)] (some (.int (oN (vN n x) (fun v => if vV y = true then mcol cols rd v else -2)))) (MP E b n ids par (oU (okSC n x y) (fun v => mset (scF cols rd 24) 0 v y) cols) (oU (okSC n x y) (fun _ => 0) rd) nx isin wi wo wf) := by
  refine WR.mkI (C := RX1) rfl rfl (by decide) rfl (Nat.le_of_ble_eq_true rfl) ?_
  intro p e s m args below meth c H0 Q hC hK hP hret ls hl
  obtain ⟨hx, hb, hml, hown, hts⟩ := id hC
  have hl : lv_has ls 4 [(0, .ref (b 0)), (1, .int (x)), (2, .int (y))] := hl
  have hS : va_S (AM b) H0 H0 [] := va_S.rf
  have hP : MP E b n ids par cols rd nx isin wi wo wf H0 := hP
  refine lv_aload_n hx hb dX1_setColour_0 rfl (lv_at hl 0 rfl) ?_
  refine lv_iload_n hx hb dX1_setColour_1 rfl (lv_at hl 1 rfl) ?_
  refine roV (As := [.int (x)]) hC kX1_58 (cM_isNode ((x)) hn) hK hP (m_rec hK hP) rfl rfl hl ⟨Nat.le_of_ble_eq_true rfl, Nat.le_of_ble_eq_true rfl⟩ (Nat.le_of_ble_eq_true rfl) dX1_setColour_2 ⟨Nat.le_of_ble_eq_true rfl, Nat.le_of_ble_eq_true rfl⟩ ?_
  refine bv_ne (tgt := 10) hx hb dX1_setColour_5 (by decide) (fun c_5 => ?_) (fun c_5 => ?_)
  · obtain ⟨v, hv, rfl⟩ := vN_t hn c_5
    refine lv_iload_n hx hb dX1_setColour_10 rfl (lv_at hl 2 rfl) ?_
    refine lv_iconst (v := (0)) hx hb dX1_setColour_11 (by decide) ?_
    refine lv_ldc (v := 65535) hx hb hown (hts _ qX1_50) dX1_setColour_12 ?_
    refine roS (As := [.int (y), .int (0), .int (65535)]) hC kX1_39 (cM_within ((y)) ((0)) ((65535)) ) hK (P := fun _ => True) trivial rfl rfl hl ⟨Nat.le_of_ble_eq_true rfl, Nat.le_of_ble_eq_true rfl⟩ (Nat.le_of_ble_eq_true rfl) dX1_setColour_14 ⟨Nat.le_of_ble_eq_true rfl, Nat.le_of_ble_eq_true rfl⟩ ?_
    refine tI ((b2i (vV y))) (rfl) ?_
    refine bv_ne (tgt := 23) hx hb dX1_setColour_17 (by decide) (fun c_17 => ?_) (fun c_17 => ?_)
    · refine lv_aload_n hx hb dX1_setColour_23 rfl (lv_at hl 0 rfl) ?_
      refine lv_iload_n hx hb dX1_setColour_24 rfl (lv_at hl 1 rfl) ?_
      refine roV (As := [.int (nI (v))]) hC kX1_46 (cM_col v (by omega) (by omega)) hK hP (m_rec hK hP) rfl rfl hl ⟨Nat.le_of_ble_eq_true rfl, Nat.le_of_ble_eq_true rfl⟩ (Nat.le_of_ble_eq_true rfl) dX1_setColour_25 ⟨Nat.le_of_ble_eq_true rfl, Nat.le_of_ble_eq_true rfl⟩ ?_
      refine lv_istore_n (lv' := [(3, .int (mcol cols rd v)), (0, .ref (b 0)), (1, .int (nI (v))), (2, .int (y))]) hx hb dX1_setColour_28 rfl hl (by decide) rfl (fun ls hl => ?_)
      refine lv_aload_n hx hb dX1_setColour_29 rfl (lv_at hl 1 rfl) ?_
      refine wrV (As := []) hC kX1_51 (cM_start  hI hrd) hK hP (m_rec hK hP) hS (fun _ h => h) rfl rfl hl ⟨Nat.le_of_ble_eq_true rfl, Nat.le_of_ble_eq_true rfl⟩ (Nat.le_of_ble_eq_true rfl) dX1_setColour_30 ⟨Nat.le_of_ble_eq_true rfl, Nat.le_of_ble_eq_true rfl⟩ (fun H locs hP hS _ _ => ?_)
      refine lv_aload_n hx hb dX1_setColour_33 rfl (lv_at hl 1 rfl) ?_
      refine lv_iload_n hx hb dX1_setColour_34 rfl (lv_at hl 2 rfl) ?_
      refine lv_iload_n hx hb dX1_setColour_35 rfl (lv_at hl 3 rfl) ?_
      refine wrV (As := [.int (nI (v)), .int (y)]) hC kX1_54 (cM_paints v ((y)) hI (by omega) (by omega)) hK hP (m_rec hK hP) hS (fun _ h => h) rfl rfl hl ⟨Nat.le_of_ble_eq_true rfl, Nat.le_of_ble_eq_true rfl⟩ (Nat.le_of_ble_eq_true rfl) dX1_setColour_36 ⟨Nat.le_of_ble_eq_true rfl, Nat.le_of_ble_eq_true rfl⟩ (fun H locs hP hS _ _ => ?_)
      refine lv_iload_n hx hb dX1_setColour_39 rfl (lv_at hl 0 rfl) ?_
      exact hret _ _ _ _ _ (by rw [oU_some (show okSC n (nI v) y = some v by unfold okSC; rw [if_pos c_17, vN_nI hn hv]), oU_some (show okSC n (nI v) y = some v by unfold okSC; rw [if_pos c_17, vN_nI hn hv])]; exact hP) hS dX1_setColour_40 (by rw [oN_in hn hv, if_pos c_17])
    · refine lv_bipush (v := (-2)) hx hb dX1_setColour_20 (by decide) ?_
      exact hret _ _ _ _ _ (by rw [oU_none (by unfold okSC; rw [c_17]; rfl), oU_none (by unfold okSC; rw [c_17]; rfl)]; exact hP) hS dX1_setColour_22 (by rw [oN_in hn hv, c_17]; rfl)
  · refine lv_iconst (v := (-1)) hx hb dX1_setColour_8 (by decide) ?_
    exact hret _ _ _ _ _ (by rw [oU_none (by unfold okSC; rw [vN_f c_5]; simp), oU_none (by unfold okSC; rw [vN_f c_5]; simp)]; exact hP) hS dX1_setColour_9 ((oN_out c_5 _).symm)
set_option maxRecDepth 100000 in
set_option maxHeartbeats 4000000 in
theorem cM_reset {l : Launch} {E : EE} {b : Nat → Nat} {n : Nat} {ids : Nat → Int32} {par : Nat → Option Nat} {cols : Nat → Int32} {rd : Nat} {nx : Nat → Int32} {isin : Nat → Bool} {wi wo : Nat → Nat} {wf : Nat → Option Nat}  (hI : inj 9 b)(hn : n ≤ 24)(hrd : rd < 100000) : WR l E (MP E b n ids par cols rd nx isin wi wo wf) (AM b) yX1_resetColours cX1_resetColours 3 (some .int) 2 42 [.ref (b 0)] (some (.int (nI (fb_ct (fun j => !decide (mcol cols rd j = ids j)) n)))) (MP E b n ids par (fb_put (scF cols rd 24) ids (24 * (0 % 17)) n) 0 nx isin wi wo wf) := by
  refine WR.mkI (C := RX1) rfl rfl (by decide) rfl (Nat.le_of_ble_eq_true rfl) ?_
  intro p e s m args below meth c H0 Q hC hK hP hret ls hl
  obtain ⟨hx, hb, hml, hown, hts⟩ := id hC
  have hl : lv_has ls 3 [(0, .ref (b 0))] := hl
  have hS : va_S (AM b) H0 H0 [] := va_S.rf
  have hP : MP E b n ids par cols rd nx isin wi wo wf H0 := hP
  refine lv_iconst (v := (nI (0))) hx hb dX1_resetColours_0 (by decide) ?_
  refine lv_istore_n (lv' := [(1, .int (nI (0))), (0, .ref (b 0))]) hx hb dX1_resetColours_1 rfl hl (by decide) rfl (fun ls hl => ?_)
  refine lv_aload_n hx hb dX1_resetColours_2 rfl (lv_at hl 1 rfl) ?_
  refine wrV (As := []) hC kX1_51 (cM_start  hI hrd) hK hP (m_rec hK hP) hS (fun _ h => h) rfl rfl hl ⟨Nat.le_of_ble_eq_true rfl, Nat.le_of_ble_eq_true rfl⟩ (Nat.le_of_ble_eq_true rfl) dX1_resetColours_3 ⟨Nat.le_of_ble_eq_true rfl, Nat.le_of_ble_eq_true rfl⟩ (fun H locs hP hS _ _ => ?_)
  refine lv_iconst (v := (nI (0))) hx hb dX1_resetColours_6 (by decide) ?_
  refine lv_istore_n (lv' := [(2, .int (nI (0))), (1, .int (nI (0))), (0, .ref (b 0))]) hx hb dX1_resetColours_7 rfl hl (by decide) rfl (fun ls hl => ?_)
  have loop_8 : ∀ (fuel : Nat) (k : Nat), (k ≤ n) → n - k < fuel → ∀ (H : Heap) (locs : List Loc), MP E b n ids par (fb_put (scF cols rd 24) ids (24 * (0 % 17)) k) 0 nx isin wi wo wf H → va_S (AM b) H0 H locs → ∀ (ls : Array Slot), lv_has ls 3 [(0, .ref (b 0)), (1, .int (nI (fb_ct (fun j => !decide (mcol cols rd j = ids j)) k))), (2, .int (nI (k)))] → W p l e (k2_rm 2 42) s m args below meth c H locs 0 0 Q (F0 m 8 ls []) := by
    intro fuel
    induction fuel with
    | zero => intro k hk hm; exact absurd hm (Nat.not_lt_zero _)
    | succ fuel ih_8 =>
      intro k hk hm H locs hP hS ls hl
      refine lv_iload_n hx hb dX1_resetColours_8 rfl (lv_at hl 2 rfl) ?_
      refine lv_aload_n hx hb dX1_resetColours_9 rfl (lv_at hl 0 rfl) ?_
      refine m_g0 hC hK hP dX1_resetColours_10 ?_
      refine nv_ge (tgt := 55) hx hb (by omega) (by omega) dX1_resetColours_13 (by decide) (fun c_13 => ?_) (fun c_13 => ?_)
      · have hkn : k = n := by omega
        rw [hkn] at hP
        refine lv_iload_n hx hb dX1_resetColours_55 rfl (lv_at hl 1 rfl) ?_
        exact hret _ _ _ _ _ (hP) hS dX1_resetColours_56 (by rw [hkn])
      · refine lv_iload_n hx hb dX1_resetColours_16 rfl (lv_at hl 1 rfl) ?_
        refine lv_aload_n hx hb dX1_resetColours_17 rfl (lv_at hl 0 rfl) ?_
        refine lv_iload_n hx hb dX1_resetColours_18 rfl (lv_at hl 2 rfl) ?_
        refine roV (As := [.int (nI (k))]) hC kX1_46 (cM_col k (by omega) (by omega)) hK hP (m_rec hK hP) rfl rfl hl ⟨Nat.le_of_ble_eq_true rfl, Nat.le_of_ble_eq_true rfl⟩ (Nat.le_of_ble_eq_true rfl) dX1_resetColours_19 ⟨Nat.le_of_ble_eq_true rfl, Nat.le_of_ble_eq_true rfl⟩ ?_
        refine tI ((mcol cols rd k)) (by rw [put_at (by omega), scF_col]) ?_
        refine lv_aload_n hx hb dX1_resetColours_22 rfl (lv_at hl 0 rfl) ?_
        refine m_g1 hC hK hP dX1_resetColours_23 ?_
        refine lv_iload_n hx hb dX1_resetColours_26 rfl (lv_at hl 2 rfl) ?_
        refine m_ld1 hx hb hK hP (by omega) dX1_resetColours_27 ?_
        refine lv_icmp_ne (tgt := 35) hx hb dX1_resetColours_28 (by decide) (fun c_28 => ?_) (fun c_28 => ?_)
        · refine lv_iconst (v := (nI (1))) hx hb dX1_resetColours_35 (by decide) ?_
          refine lv_iadd hx hb dX1_resetColours_36 ?_
          refine tI (nI ((fb_ct (fun j => !decide (mcol cols rd j = ids j)) k) + 1)) (nI_add _ _) ?_
          refine tI ((nI (fb_ct (fun j => !decide (mcol cols rd j = ids j)) (k + 1)))) (by rw [fb_ct_t (by simp [c_28])]) ?_
          refine lv_istore_n (lv' := [(1, .int (nI (fb_ct (fun j => !decide (mcol cols rd j = ids j)) (k + 1)))), (0, .ref (b 0)), (2, .int (nI (k)))]) hx hb dX1_resetColours_37 rfl hl (by decide) rfl (fun ls hl => ?_)
          refine lv_aload_n hx hb dX1_resetColours_38 rfl (lv_at hl 1 rfl) ?_
          refine lv_iload_n hx hb dX1_resetColours_39 rfl (lv_at hl 2 rfl) ?_
          refine lv_aload_n hx hb dX1_resetColours_40 rfl (lv_at hl 1 rfl) ?_
          refine m_g1 hC hK hP dX1_resetColours_41 ?_
          refine lv_iload_n hx hb dX1_resetColours_44 rfl (lv_at hl 2 rfl) ?_
          refine m_ld1 hx hb hK hP (by omega) dX1_resetColours_45 ?_
          refine wrV (As := [.int (nI (k)), .int (ids k)]) hC kX1_54 (cM_paints k ((ids k)) hI (by omega) (by omega)) hK hP (m_rec hK hP) hS (fun _ h => h) rfl rfl hl ⟨Nat.le_of_ble_eq_true rfl, Nat.le_of_ble_eq_true rfl⟩ (Nat.le_of_ble_eq_true rfl) dX1_resetColours_46 ⟨Nat.le_of_ble_eq_true rfl, Nat.le_of_ble_eq_true rfl⟩ (fun H locs hP hS _ _ => ?_)
          refine lv_iinc (v := (nI (k + 1))) (lv' := [(2, .int (nI (k + 1))), (1, .int (nI (fb_ct (fun j => !decide (mcol cols rd j = ids j)) (k + 1)))), (0, .ref (b 0))]) hx hb dX1_resetColours_49 hl (k := 2) rfl (nI_inc _) (by decide) rfl (fun ls hl => ?_)
          refine lv_goto (tgt := 8) hx hb dX1_resetColours_52 (by decide) ?_
          exact ih_8 (k + 1) (by omega) (by omega) _ _ (by rw [mset_s] at hP; exact hP) hS ls (lv_sub hl [2, 1, 0] rfl)
        · refine lv_iconst (v := (nI (0))) hx hb dX1_resetColours_31 (by decide) ?_
          refine lv_goto (tgt := 36) hx hb dX1_resetColours_32 (by decide) ?_
          refine lv_iadd hx hb dX1_resetColours_36 ?_
          refine tI (nI ((fb_ct (fun j => !decide (mcol cols rd j = ids j)) k) + 0)) (nI_add _ _) ?_
          refine tI ((nI (fb_ct (fun j => !decide (mcol cols rd j = ids j)) (k + 1)))) (by rw [fb_ct_f (by simp [c_28])]; rfl) ?_
          refine lv_istore_n (lv' := [(1, .int (nI (fb_ct (fun j => !decide (mcol cols rd j = ids j)) (k + 1)))), (0, .ref (b 0)), (2, .int (nI (k)))]) hx hb dX1_resetColours_37 rfl hl (by decide) rfl (fun ls hl => ?_)
          refine lv_aload_n hx hb dX1_resetColours_38 rfl (lv_at hl 1 rfl) ?_
          refine lv_iload_n hx hb dX1_resetColours_39 rfl (lv_at hl 2 rfl) ?_
          refine lv_aload_n hx hb dX1_resetColours_40 rfl (lv_at hl 1 rfl) ?_
          refine m_g1 hC hK hP dX1_resetColours_41 ?_
          refine lv_iload_n hx hb dX1_resetColours_44 rfl (lv_at hl 2 rfl) ?_
          refine m_ld1 hx hb hK hP (by omega) dX1_resetColours_45 ?_
          refine wrV (As := [.int (nI (k)), .int (ids k)]) hC kX1_54 (cM_paints k ((ids k)) hI (by omega) (by omega)) hK hP (m_rec hK hP) hS (fun _ h => h) rfl rfl hl ⟨Nat.le_of_ble_eq_true rfl, Nat.le_of_ble_eq_true rfl⟩ (Nat.le_of_ble_eq_true rfl) dX1_resetColours_46 ⟨Nat.le_of_ble_eq_true rfl, Nat.le_of_ble_eq_true rfl⟩ (fun H locs hP hS _ _ => ?_)
          refine lv_iinc (v := (nI (k + 1))) (lv' := [(2, .int (nI (k + 1))), (1, .int (nI (fb_ct (fun j => !decide (mcol cols rd j = ids j)) (k + 1)))), (0, .ref (b 0))]) hx hb dX1_resetColours_49 hl (k := 2) rfl (nI_inc _) (by decide) rfl (fun ls hl => ?_)
          refine lv_goto (tgt := 8) hx hb dX1_resetColours_52 (by decide) ?_
          exact ih_8 (k + 1) (by omega) (by omega) _ _ (by rw [mset_s] at hP; exact hP) hS ls (lv_sub hl [2, 1, 0] rfl)
  exact loop_8 (n - 0 + 1) 0 (Nat.zero_le _) (Nat.lt_succ_self _) _ _ (by rw [fb_put_0]; exact hP) hS ls (lv_sub hl [2, 1, 0] rfl)
set_option maxRecDepth 100000 in
set_option maxHeartbeats 4000000 in
theorem cM_beside {l : Launch} {E : EE} {b : Nat → Nat} {n : Nat} {ids : Nat → Int32} {par : Nat → Option Nat} {cols : Nat → Int32} {rd : Nat} {nx : Nat → Int32} {isin : Nat → Bool} {wi wo : Nat → Nat} {wf : Nat → Option Nat} (v : Nat) (c0 : Int32) (hn : n ≤ 24)(hp : PW n par)(hv : v < n)(hrd : rd < 100000) : RO l E (MP E b n ids par cols rd nx isin wi wo wf) yX1_isBeside cX1_isBeside 4 (some .boolean) 1 22 [.ref (b 0), .int (nI (v)), .int (c0)] (b2i (bes par (mcol cols rd) n v c0)) := by
  refine RO.mk (C := RX1) rfl (b2i_nar _) (by decide) rfl (Nat.le_of_ble_eq_true rfl) ?_
  intro p e s m args below meth c H Q hC hK hP hret ls hl
  obtain ⟨hx, hb, hml, hown, hts⟩ := id hC
  have hl : lv_has ls 4 [(0, .ref (b 0)), (1, .int (nI (v))), (2, .int (c0))] := hl
  refine lv_iconst (v := (nI (0))) hx hb dX1_isBeside_0 (by decide) ?_
  refine lv_istore_n (lv' := [(3, .int (nI (0))), (0, .ref (b 0)), (1, .int (nI (v))), (2, .int (c0))]) hx hb dX1_isBeside_1 rfl hl (by decide) rfl (fun ls hl => ?_)
  have loop_2 : ∀ (fuel : Nat) (k : Nat), (k ≤ n) → (∀ j, j < k → (nb par v j && decide (mcol cols rd j = c0)) = false) → n - k < fuel → ∀ (ls : Array Slot), lv_has ls 4 [(0, .ref (b 0)), (1, .int (nI (v))), (2, .int (c0)), (3, .int (nI (k)))] → W p l e (k2_rm 1 22) s m args below meth c H [] 0 0 Q (F0 m 2 ls []) := by
    intro fuel
    induction fuel with
    | zero => intro k hk hno hm; exact absurd hm (Nat.not_lt_zero _)
    | succ fuel ih_2 =>
      intro k hk hno hm ls hl
      refine lv_iload_n hx hb dX1_isBeside_2 rfl (lv_at hl 3 rfl) ?_
      refine lv_aload_n hx hb dX1_isBeside_3 rfl (lv_at hl 0 rfl) ?_
      refine m_g0 hC hK hP dX1_isBeside_4 ?_
      refine nv_ge (tgt := 36) hx hb (by omega) (by omega) dX1_isBeside_7 (by decide) (fun c_7 => ?_) (fun c_7 => ?_)
      · refine lv_iconst (v := (0)) hx hb dX1_isBeside_36 (by decide) ?_
        exact hret _ _ _ dX1_isBeside_37 (by rw [bes, anyB_no (fun j hj => hno j (by omega))]; rfl)
      · refine lv_aload_n hx hb dX1_isBeside_10 rfl (lv_at hl 0 rfl) ?_
        refine lv_iload_n hx hb dX1_isBeside_11 rfl (lv_at hl 1 rfl) ?_
        refine lv_iload_n hx hb dX1_isBeside_12 rfl (lv_at hl 3 rfl) ?_
        refine roV (As := [.int (nI (v)), .int (nI (k))]) hC kX1_66 (cM_nb v k hn hp (by omega) (by omega)) hK hP (m_rec hK hP) rfl rfl hl ⟨Nat.le_of_ble_eq_true rfl, Nat.le_of_ble_eq_true rfl⟩ (Nat.le_of_ble_eq_true rfl) dX1_isBeside_13 ⟨Nat.le_of_ble_eq_true rfl, Nat.le_of_ble_eq_true rfl⟩ ?_
        refine bv_eq (tgt := 30) hx hb dX1_isBeside_16 (by decide) (fun c_16 => ?_) (fun c_16 => ?_)
        · refine lv_iinc (v := (nI (k + 1))) (lv' := [(3, .int (nI (k + 1))), (0, .ref (b 0)), (1, .int (nI (v))), (2, .int (c0))]) hx hb dX1_isBeside_30 hl (k := 3) rfl (nI_inc _) (by decide) rfl (fun ls hl => ?_)
          refine lv_goto (tgt := 2) hx hb dX1_isBeside_33 (by decide) ?_
          exact ih_2 (k + 1) (by omega) (lt_s hno (by simp [c_16])) (by omega) ls (lv_sub hl [1, 2, 3, 0] rfl)
        · refine lv_aload_n hx hb dX1_isBeside_19 rfl (lv_at hl 0 rfl) ?_
          refine lv_iload_n hx hb dX1_isBeside_20 rfl (lv_at hl 3 rfl) ?_
          refine roV (As := [.int (nI (k))]) hC kX1_46 (cM_col k (by omega) (by omega)) hK hP (m_rec hK hP) rfl rfl hl ⟨Nat.le_of_ble_eq_true rfl, Nat.le_of_ble_eq_true rfl⟩ (Nat.le_of_ble_eq_true rfl) dX1_isBeside_21 ⟨Nat.le_of_ble_eq_true rfl, Nat.le_of_ble_eq_true rfl⟩ ?_
          refine lv_iload_n hx hb dX1_isBeside_24 rfl (lv_at hl 2 rfl) ?_
          refine lv_icmp_ne (tgt := 30) hx hb dX1_isBeside_25 (by decide) (fun c_25 => ?_) (fun c_25 => ?_)
          · refine lv_iinc (v := (nI (k + 1))) (lv' := [(3, .int (nI (k + 1))), (0, .ref (b 0)), (1, .int (nI (v))), (2, .int (c0))]) hx hb dX1_isBeside_30 hl (k := 3) rfl (nI_inc _) (by decide) rfl (fun ls hl => ?_)
            refine lv_goto (tgt := 2) hx hb dX1_isBeside_33 (by decide) ?_
            exact ih_2 (k + 1) (by omega) (lt_s hno (by simp [c_25])) (by omega) ls (lv_sub hl [1, 2, 3, 0] rfl)
          · refine lv_iconst (v := (1)) hx hb dX1_isBeside_28 (by decide) ?_
            exact hret _ _ _ dX1_isBeside_29 (by rw [bes, anyB_yes (k := k) (by omega) (by simp [c_16, c_25])]; rfl)
  exact loop_2 (n - 0 + 1) 0 (Nat.zero_le _) (lt_0) (Nat.lt_succ_self _) ls (lv_sub hl [1, 2, 3, 0] rfl)
set_option maxRecDepth 100000 in
set_option maxHeartbeats 4000000 in
theorem cM_recolour {l : Launch} {E : EE} {b : Nat → Nat} {n : Nat} {ids : Nat → Int32} {par : Nat → Option Nat} {cols : Nat → Int32} {rd : Nat} {nx : Nat → Int32} {isin : Nat → Bool} {wi wo : Nat → Nat} {wf : Nat → Option Nat} (x : Int32) (hI : inj 9 b)(hn : n ≤ 24)(hp : PW n par)(hrd : rd < 100000) : WR l E (MP E b n ids par cols rd nx isin wi wo wf) (AM b) yX1_recolour cX1_recolour 3 (some .int) 2 45 [.ref (b 0), .int (x)] (some (.int (oN (vN n x) (fun v => pe (freF par (mcol cols rd) n v n))))) (MP E b n ids par (oU (vN n x) (fun v => mset (scF cols rd 24) 0 v (pe (freF par (mcol cols rd) n v n))) cols) (oU (vN n x) (fun _ => 0) rd) nx isin wi wo wf) := by
  refine WR.mkI (C := RX1) rfl rfl (by decide) rfl (Nat.le_of_ble_eq_true rfl) ?_
  intro p e s m args below meth c H0 Q hC hK hP hret ls hl
  obtain ⟨hx, hb, hml, hown, hts⟩ := id hC
  have hl : lv_has ls 3 [(0, .ref (b 0)), (1, .int (x))] := hl
  have hS : va_S (AM b) H0 H0 [] := va_S.rf
  have hP : MP E b n ids par cols rd nx isin wi wo wf H0 := hP
  refine lv_aload_n hx hb dX1_recolour_0 rfl (lv_at hl 0 rfl) ?_
  refine lv_iload_n hx hb dX1_recolour_1 rfl (lv_at hl 1 rfl) ?_
  refine roV (As := [.int (x)]) hC kX1_58 (cM_isNode ((x)) hn) hK hP (m_rec hK hP) rfl rfl hl ⟨Nat.le_of_ble_eq_true rfl, Nat.le_of_ble_eq_true rfl⟩ (Nat.le_of_ble_eq_true rfl) dX1_recolour_2 ⟨Nat.le_of_ble_eq_true rfl, Nat.le_of_ble_eq_true rfl⟩ ?_
  refine bv_ne (tgt := 10) hx hb dX1_recolour_5 (by decide) (fun c_5 => ?_) (fun c_5 => ?_)
  · obtain ⟨v, hv, rfl⟩ := vN_t hn c_5
    obtain ⟨q, hq, hqn⟩ := free_ex hn hp (mcol cols rd) hv
    refine lv_aload_n hx hb dX1_recolour_10 rfl (lv_at hl 0 rfl) ?_
    refine wrV (As := []) hC kX1_51 (cM_start  hI hrd) hK hP (m_rec hK hP) hS (fun _ h => h) rfl rfl hl ⟨Nat.le_of_ble_eq_true rfl, Nat.le_of_ble_eq_true rfl⟩ (Nat.le_of_ble_eq_true rfl) dX1_recolour_11 ⟨Nat.le_of_ble_eq_true rfl, Nat.le_of_ble_eq_true rfl⟩ (fun H locs hP hS _ _ => ?_)
    refine lv_iconst (v := (nI (0))) hx hb dX1_recolour_14 (by decide) ?_
    refine lv_istore_n (lv' := [(2, .int (nI (0))), (0, .ref (b 0)), (1, .int (nI (v)))]) hx hb dX1_recolour_15 rfl hl (by decide) rfl (fun ls hl => ?_)
    have loop_16 : ∀ (fuel : Nat) (k : Nat), (k ≤ q) → (∀ j, j < k → (!bes par (mcol cols rd) n v (nI j)) = false) → q - k < fuel → ∀ (H : Heap) (locs : List Loc), MP E b n ids par (scF cols rd 24) 0 nx isin wi wo wf H → va_S (AM b) H0 H locs → ∀ (ls : Array Slot), lv_has ls 3 [(0, .ref (b 0)), (1, .int (nI (v))), (2, .int (nI (k)))] → W p l e (k2_rm 2 45) s m args below meth c H locs 0 0 Q (F0 m 16 ls []) := by
      intro fuel
      induction fuel with
      | zero => intro k hk hno hm; exact absurd hm (Nat.not_lt_zero _)
      | succ fuel ih_16 =>
        intro k hk hno hm H locs hP hS ls hl
        refine lv_aload_n hx hb dX1_recolour_16 rfl (lv_at hl 0 rfl) ?_
        refine lv_iload_n hx hb dX1_recolour_17 rfl (lv_at hl 1 rfl) ?_
        refine lv_iload_n hx hb dX1_recolour_18 rfl (lv_at hl 2 rfl) ?_
        refine roV (As := [.int (nI (v)), .int (nI (k))]) hC kX1_79 (cM_beside v ((nI (k))) hn hp hv (by omega)) hK hP (m_rec hK hP) rfl rfl hl ⟨Nat.le_of_ble_eq_true rfl, Nat.le_of_ble_eq_true rfl⟩ (Nat.le_of_ble_eq_true rfl) dX1_recolour_19 ⟨Nat.le_of_ble_eq_true rfl, Nat.le_of_ble_eq_true rfl⟩ ?_
        refine tI ((b2i (bes par (mcol cols rd) n v (nI k)))) (by rw [scF_col]) ?_
        refine bv_eq (tgt := 31) hx hb dX1_recolour_22 (by decide) (fun c_22 => ?_) (fun c_22 => ?_)
        · have hkf : freF par (mcol cols rd) n v n = some k := fst_some (by omega) (by rw [c_22]; rfl) hno
          refine lv_aload_n hx hb dX1_recolour_31 rfl (lv_at hl 0 rfl) ?_
          refine lv_iload_n hx hb dX1_recolour_32 rfl (lv_at hl 1 rfl) ?_
          refine lv_iload_n hx hb dX1_recolour_33 rfl (lv_at hl 2 rfl) ?_
          refine wrV (As := [.int (nI (v)), .int (nI (k))]) hC kX1_54 (cM_paints v ((nI (k))) hI (by omega) (by omega)) hK hP (m_rec hK hP) hS (fun _ h => h) rfl rfl hl ⟨Nat.le_of_ble_eq_true rfl, Nat.le_of_ble_eq_true rfl⟩ (Nat.le_of_ble_eq_true rfl) dX1_recolour_34 ⟨Nat.le_of_ble_eq_true rfl, Nat.le_of_ble_eq_true rfl⟩ (fun H locs hP hS _ _ => ?_)
          refine lv_iload_n hx hb dX1_recolour_37 rfl (lv_at hl 2 rfl) ?_
          exact hret _ _ _ _ _ (by rw [oU_some (vN_nI hn hv), oU_some (vN_nI hn hv), hkf]; exact hP) hS dX1_recolour_38 (by rw [oN_in hn hv, hkf]; rfl)
        · have hkq : k < q := fre_step hq hk c_22
          refine lv_iinc (v := (nI (k + 1))) (lv' := [(2, .int (nI (k + 1))), (0, .ref (b 0)), (1, .int (nI (v)))]) hx hb dX1_recolour_25 hl (k := 2) rfl (nI_inc _) (by decide) rfl (fun ls hl => ?_)
          refine lv_goto (tgt := 16) hx hb dX1_recolour_28 (by decide) ?_
          exact ih_16 (k + 1) (hkq) (lt_s hno (by rw [c_22]; rfl)) (by omega) _ _ (hP) hS ls (lv_sub hl [1, 2, 0] rfl)
    exact loop_16 (q - 0 + 1) 0 (Nat.zero_le _) (lt_0) (Nat.lt_succ_self _) _ _ (hP) hS ls (lv_sub hl [1, 2, 0] rfl)
  · refine lv_iconst (v := (-1)) hx hb dX1_recolour_8 (by decide) ?_
    exact hret _ _ _ _ _ (by rw [oU_none (vN_f c_5), oU_none (vN_f c_5)]; exact hP) hS dX1_recolour_9 ((oN_out c_5 _).symm)
set_option maxRecDepth 100000 in
set_option maxHeartbeats 4000000 in
theorem cM_colourCount {l : Launch} {E : EE} {b : Nat → Nat} {n : Nat} {ids : Nat → Int32} {par : Nat → Option Nat} {cols : Nat → Int32} {rd : Nat} {nx : Nat → Int32} {isin : Nat → Bool} {wi wo : Nat → Nat} {wf : Nat → Option Nat}  (hn : n ≤ 24)(hrd : rd < 100000) : RO l E (MP E b n ids par cols rd nx isin wi wo wf) yX1_colourCount cX1_colourCount 5 (some .int) 1 21 [.ref (b 0)] (nI (fb_ct (frst (mcol cols rd)) n)) := by
  refine RO.mk (C := RX1) rfl rfl (by decide) rfl (Nat.le_of_ble_eq_true rfl) ?_
  intro p e s m args below meth c H Q hC hK hP hret ls hl
  obtain ⟨hx, hb, hml, hown, hts⟩ := id hC
  have hl : lv_has ls 5 [(0, .ref (b 0))] := hl
  refine lv_iconst (v := (nI (0))) hx hb dX1_colourCount_0 (by decide) ?_
  refine lv_istore_n (lv' := [(1, .int (nI (0))), (0, .ref (b 0))]) hx hb dX1_colourCount_1 rfl hl (by decide) rfl (fun ls hl => ?_)
  refine lv_iconst (v := (nI (0))) hx hb dX1_colourCount_2 (by decide) ?_
  refine lv_istore_n (lv' := [(2, .int (nI (0))), (1, .int (nI (0))), (0, .ref (b 0))]) hx hb dX1_colourCount_3 rfl hl (by decide) rfl (fun ls hl => ?_)
  have loop_4 : ∀ (fuel : Nat) (k : Nat), (k ≤ n) → n - k < fuel → ∀ (ls : Array Slot), lv_has ls 5 [(0, .ref (b 0)), (1, .int (nI (fb_ct (frst (mcol cols rd)) k))), (2, .int (nI (k)))] → W p l e (k2_rm 1 21) s m args below meth c H [] 0 0 Q (F0 m 4 ls []) := by
    intro fuel
    induction fuel with
    | zero => intro k hk hm; exact absurd hm (Nat.not_lt_zero _)
    | succ fuel ih_4 =>
      intro k hk hm ls hl
      refine lv_iload_n hx hb dX1_colourCount_4 rfl (lv_at hl 2 rfl) ?_
      refine lv_aload_n hx hb dX1_colourCount_5 rfl (lv_at hl 0 rfl) ?_
      refine m_g0 hC hK hP dX1_colourCount_6 ?_
      refine nv_ge (tgt := 71) hx hb (by omega) (by omega) dX1_colourCount_9 (by decide) (fun c_9 => ?_) (fun c_9 => ?_)
      · refine lv_iload_n hx hb dX1_colourCount_71 rfl (lv_at hl 1 rfl) ?_
        exact hret _ _ _ dX1_colourCount_72 (by rw [show k = n by omega])
      · refine lv_iconst (v := (b2i (true))) hx hb dX1_colourCount_12 (by decide) ?_
        refine lv_istore_n (lv' := [(3, .int (b2i (true))), (0, .ref (b 0)), (1, .int (nI (fb_ct (frst (mcol cols rd)) k))), (2, .int (nI (k)))]) hx hb dX1_colourCount_13 rfl hl (by decide) rfl (fun ls hl => ?_)
        refine lv_iconst (v := (nI (0))) hx hb dX1_colourCount_14 (by decide) ?_
        refine lv_istore (lv' := [(4, .int (nI (0))), (3, .int (b2i (true))), (0, .ref (b 0)), (1, .int (nI (fb_ct (frst (mcol cols rd)) k))), (2, .int (nI (k)))]) hx hb dX1_colourCount_15 hl (by decide) rfl (fun ls hl => ?_)
        have loop_17 : ∀ (fuel : Nat) (j : Nat), (j ≤ k) → k - j < fuel → ∀ (ls : Array Slot), lv_has ls 5 [(0, .ref (b 0)), (1, .int (nI (fb_ct (frst (mcol cols rd)) k))), (2, .int (nI (k))), (3, .int (b2i (!anyB (fun i => decide (mcol cols rd i = mcol cols rd k)) j))), (4, .int (nI (j)))] → W p l e (k2_rm 1 21) s m args below meth c H [] 0 0 Q (F0 m 17 ls []) := by
          intro fuel
          induction fuel with
          | zero => intro j hj hm; exact absurd hm (Nat.not_lt_zero _)
          | succ fuel ih_17 =>
            intro j hj hm ls hl
            refine lv_iload hx hb dX1_colourCount_17 (lv_at hl 4 rfl) ?_
            refine lv_iload_n hx hb dX1_colourCount_19 rfl (lv_at hl 2 rfl) ?_
            refine nv_ge (tgt := 53) hx hb (by omega) (by omega) dX1_colourCount_20 (by decide) (fun c_20 => ?_) (fun c_20 => ?_)
            · have hjk : j = k := by omega
              refine lv_iload_n hx hb dX1_colourCount_53 rfl (lv_at hl 1 rfl) ?_
              refine lv_iload_n hx hb dX1_colourCount_54 rfl (lv_at hl 3 rfl) ?_
              refine bv_eq (tgt := 62) hx hb dX1_colourCount_55 (by decide) (fun c_55 => ?_) (fun c_55 => ?_)
              · refine lv_iconst (v := (nI (0))) hx hb dX1_colourCount_62 (by decide) ?_
                refine lv_iadd hx hb dX1_colourCount_63 ?_
                refine tI (nI ((fb_ct (frst (mcol cols rd)) k) + 0)) (nI_add _ _) ?_
                refine tI ((nI (fb_ct (frst (mcol cols rd)) (k + 1)))) (by rw [hjk] at c_55; rw [fb_ct_f (p := frst (mcol cols rd)) c_55]; rfl) ?_
                refine lv_istore_n (lv' := [(1, .int (nI (fb_ct (frst (mcol cols rd)) (k + 1)))), (0, .ref (b 0)), (2, .int (nI (k))), (3, .int (b2i (!anyB (fun i => decide (mcol cols rd i = mcol cols rd k)) j))), (4, .int (nI (j)))]) hx hb dX1_colourCount_64 rfl hl (by decide) rfl (fun ls hl => ?_)
                refine lv_iinc (v := (nI (k + 1))) (lv' := [(2, .int (nI (k + 1))), (1, .int (nI (fb_ct (frst (mcol cols rd)) (k + 1)))), (0, .ref (b 0)), (3, .int (b2i (!anyB (fun i => decide (mcol cols rd i = mcol cols rd k)) j))), (4, .int (nI (j)))]) hx hb dX1_colourCount_65 hl (k := 2) rfl (nI_inc _) (by decide) rfl (fun ls hl => ?_)
                refine lv_goto (tgt := 4) hx hb dX1_colourCount_68 (by decide) ?_
                exact ih_4 (k + 1) (by omega) (by omega) ls (lv_sub hl [2, 1, 0] rfl)
              · refine lv_iconst (v := (nI (1))) hx hb dX1_colourCount_58 (by decide) ?_
                refine lv_goto (tgt := 63) hx hb dX1_colourCount_59 (by decide) ?_
                refine lv_iadd hx hb dX1_colourCount_63 ?_
                refine tI (nI ((fb_ct (frst (mcol cols rd)) k) + 1)) (nI_add _ _) ?_
                refine tI ((nI (fb_ct (frst (mcol cols rd)) (k + 1)))) (by rw [hjk] at c_55; rw [fb_ct_t (p := frst (mcol cols rd)) c_55]) ?_
                refine lv_istore_n (lv' := [(1, .int (nI (fb_ct (frst (mcol cols rd)) (k + 1)))), (0, .ref (b 0)), (2, .int (nI (k))), (3, .int (b2i (!anyB (fun i => decide (mcol cols rd i = mcol cols rd k)) j))), (4, .int (nI (j)))]) hx hb dX1_colourCount_64 rfl hl (by decide) rfl (fun ls hl => ?_)
                refine lv_iinc (v := (nI (k + 1))) (lv' := [(2, .int (nI (k + 1))), (1, .int (nI (fb_ct (frst (mcol cols rd)) (k + 1)))), (0, .ref (b 0)), (3, .int (b2i (!anyB (fun i => decide (mcol cols rd i = mcol cols rd k)) j))), (4, .int (nI (j)))]) hx hb dX1_colourCount_65 hl (k := 2) rfl (nI_inc _) (by decide) rfl (fun ls hl => ?_)
                refine lv_goto (tgt := 4) hx hb dX1_colourCount_68 (by decide) ?_
                exact ih_4 (k + 1) (by omega) (by omega) ls (lv_sub hl [2, 1, 0] rfl)
            · refine lv_iload_n hx hb dX1_colourCount_23 rfl (lv_at hl 3 rfl) ?_
              refine bv_eq (tgt := 45) hx hb dX1_colourCount_24 (by decide) (fun c_24 => ?_) (fun c_24 => ?_)
              · refine lv_iconst (v := (b2i (false))) hx hb dX1_colourCount_45 (by decide) ?_
                refine tI ((b2i (!anyB (fun i => decide (mcol cols rd i = mcol cols rd k)) (j + 1)))) (cc_f1 c_24) ?_
                refine lv_istore_n (lv' := [(3, .int (b2i (!anyB (fun i => decide (mcol cols rd i = mcol cols rd k)) (j + 1)))), (0, .ref (b 0)), (1, .int (nI (fb_ct (frst (mcol cols rd)) k))), (2, .int (nI (k))), (4, .int (nI (j)))]) hx hb dX1_colourCount_46 rfl hl (by decide) rfl (fun ls hl => ?_)
                refine lv_iinc (v := (nI (j + 1))) (lv' := [(4, .int (nI (j + 1))), (3, .int (b2i (!anyB (fun i => decide (mcol cols rd i = mcol cols rd k)) (j + 1)))), (0, .ref (b 0)), (1, .int (nI (fb_ct (frst (mcol cols rd)) k))), (2, .int (nI (k)))]) hx hb dX1_colourCount_47 hl (k := 4) rfl (nI_inc _) (by decide) rfl (fun ls hl => ?_)
                refine lv_goto (tgt := 17) hx hb dX1_colourCount_50 (by decide) ?_
                exact ih_17 (j + 1) (by omega) (by omega) ls (lv_sub hl [2, 3, 4, 1, 0] rfl)
              · refine lv_aload_n hx hb dX1_colourCount_27 rfl (lv_at hl 0 rfl) ?_
                refine lv_iload hx hb dX1_colourCount_28 (lv_at hl 4 rfl) ?_
                refine roV (As := [.int (nI (j))]) hC kX1_46 (cM_col j (by omega) (by omega)) hK hP (m_rec hK hP) rfl rfl hl ⟨Nat.le_of_ble_eq_true rfl, Nat.le_of_ble_eq_true rfl⟩ (Nat.le_of_ble_eq_true rfl) dX1_colourCount_30 ⟨Nat.le_of_ble_eq_true rfl, Nat.le_of_ble_eq_true rfl⟩ ?_
                refine lv_aload_n hx hb dX1_colourCount_33 rfl (lv_at hl 0 rfl) ?_
                refine lv_iload_n hx hb dX1_colourCount_34 rfl (lv_at hl 2 rfl) ?_
                refine roV (As := [.int (nI (k))]) hC kX1_46 (cM_col k (by omega) (by omega)) hK hP (m_rec hK hP) rfl rfl hl ⟨Nat.le_of_ble_eq_true rfl, Nat.le_of_ble_eq_true rfl⟩ (Nat.le_of_ble_eq_true rfl) dX1_colourCount_35 ⟨Nat.le_of_ble_eq_true rfl, Nat.le_of_ble_eq_true rfl⟩ ?_
                refine lv_icmp_eq (tgt := 45) hx hb dX1_colourCount_38 (by decide) (fun c_38 => ?_) (fun c_38 => ?_)
                · refine lv_iconst (v := (b2i (false))) hx hb dX1_colourCount_45 (by decide) ?_
                  refine tI ((b2i (!anyB (fun i => decide (mcol cols rd i = mcol cols rd k)) (j + 1)))) (cc_f2 (by simp [c_38])) ?_
                  refine lv_istore_n (lv' := [(3, .int (b2i (!anyB (fun i => decide (mcol cols rd i = mcol cols rd k)) (j + 1)))), (0, .ref (b 0)), (1, .int (nI (fb_ct (frst (mcol cols rd)) k))), (2, .int (nI (k))), (4, .int (nI (j)))]) hx hb dX1_colourCount_46 rfl hl (by decide) rfl (fun ls hl => ?_)
                  refine lv_iinc (v := (nI (j + 1))) (lv' := [(4, .int (nI (j + 1))), (3, .int (b2i (!anyB (fun i => decide (mcol cols rd i = mcol cols rd k)) (j + 1)))), (0, .ref (b 0)), (1, .int (nI (fb_ct (frst (mcol cols rd)) k))), (2, .int (nI (k)))]) hx hb dX1_colourCount_47 hl (k := 4) rfl (nI_inc _) (by decide) rfl (fun ls hl => ?_)
                  refine lv_goto (tgt := 17) hx hb dX1_colourCount_50 (by decide) ?_
                  exact ih_17 (j + 1) (by omega) (by omega) ls (lv_sub hl [2, 3, 4, 1, 0] rfl)
                · refine lv_iconst (v := (b2i (true))) hx hb dX1_colourCount_41 (by decide) ?_
                  refine tI ((b2i (!anyB (fun i => decide (mcol cols rd i = mcol cols rd k)) (j + 1)))) (cc_t c_24 (by simp [c_38])) ?_
                  refine lv_goto (tgt := 46) hx hb dX1_colourCount_42 (by decide) ?_
                  refine lv_istore_n (lv' := [(3, .int (b2i (!anyB (fun i => decide (mcol cols rd i = mcol cols rd k)) (j + 1)))), (0, .ref (b 0)), (1, .int (nI (fb_ct (frst (mcol cols rd)) k))), (2, .int (nI (k))), (4, .int (nI (j)))]) hx hb dX1_colourCount_46 rfl hl (by decide) rfl (fun ls hl => ?_)
                  refine lv_iinc (v := (nI (j + 1))) (lv' := [(4, .int (nI (j + 1))), (3, .int (b2i (!anyB (fun i => decide (mcol cols rd i = mcol cols rd k)) (j + 1)))), (0, .ref (b 0)), (1, .int (nI (fb_ct (frst (mcol cols rd)) k))), (2, .int (nI (k)))]) hx hb dX1_colourCount_47 hl (k := 4) rfl (nI_inc _) (by decide) rfl (fun ls hl => ?_)
                  refine lv_goto (tgt := 17) hx hb dX1_colourCount_50 (by decide) ?_
                  exact ih_17 (j + 1) (by omega) (by omega) ls (lv_sub hl [2, 3, 4, 1, 0] rfl)
        exact loop_17 (k - 0 + 1) 0 (Nat.zero_le _) (Nat.lt_succ_self _) ls (lv_sub hl [2, 3, 4, 1, 0] rfl)
  exact loop_4 (n - 0 + 1) 0 (Nat.zero_le _) (Nat.lt_succ_self _) ls (lv_sub hl [2, 1, 0] rfl)
set_option maxRecDepth 100000 in
set_option maxHeartbeats 4000000 in
theorem cM_greatest {l : Launch} {E : EE} {b : Nat → Nat} {n : Nat} {ids : Nat → Int32} {par : Nat → Option Nat} {cols : Nat → Int32} {rd : Nat} {nx : Nat → Int32} {isin : Nat → Bool} {wi wo : Nat → Nat} {wf : Nat → Option Nat}  (hn : n ≤ 24)(hrd : rd < 100000) : RO l E (MP E b n ids par cols rd nx isin wi wo wf) yX1_greatest cX1_greatest 3 (some .int) 1 21 [.ref (b 0)] (mxF (mcol cols rd) n) := by
  refine RO.mk (C := RX1) rfl rfl (by decide) rfl (Nat.le_of_ble_eq_true rfl) ?_
  intro p e s m args below meth c H Q hC hK hP hret ls hl
  obtain ⟨hx, hb, hml, hown, hts⟩ := id hC
  have hl : lv_has ls 3 [(0, .ref (b 0))] := hl
  refine lv_bipush (v := (-7)) hx hb dX1_greatest_0 (by decide) ?_
  refine lv_istore_n (lv' := [(1, .int (-7)), (0, .ref (b 0))]) hx hb dX1_greatest_2 rfl hl (by decide) rfl (fun ls hl => ?_)
  refine lv_iconst (v := (nI (0))) hx hb dX1_greatest_3 (by decide) ?_
  refine lv_istore_n (lv' := [(2, .int (nI (0))), (1, .int (-7)), (0, .ref (b 0))]) hx hb dX1_greatest_4 rfl hl (by decide) rfl (fun ls hl => ?_)
  have loop_5 : ∀ (fuel : Nat) (k : Nat), (k ≤ n) → n - k < fuel → ∀ (ls : Array Slot), lv_has ls 3 [(0, .ref (b 0)), (1, .int (mxF (mcol cols rd) k)), (2, .int (nI (k)))] → W p l e (k2_rm 1 21) s m args below meth c H [] 0 0 Q (F0 m 5 ls []) := by
    intro fuel
    induction fuel with
    | zero => intro k hk hm; exact absurd hm (Nat.not_lt_zero _)
    | succ fuel ih_5 =>
      intro k hk hm ls hl
      refine lv_iload_n hx hb dX1_greatest_5 rfl (lv_at hl 2 rfl) ?_
      refine lv_aload_n hx hb dX1_greatest_6 rfl (lv_at hl 0 rfl) ?_
      refine m_g0 hC hK hP dX1_greatest_7 ?_
      refine nv_ge (tgt := 38) hx hb (by omega) (by omega) dX1_greatest_10 (by decide) (fun c_10 => ?_) (fun c_10 => ?_)
      · refine lv_iload_n hx hb dX1_greatest_38 rfl (lv_at hl 1 rfl) ?_
        exact hret _ _ _ dX1_greatest_39 (by rw [show k = n by omega])
      · refine lv_aload_n hx hb dX1_greatest_13 rfl (lv_at hl 0 rfl) ?_
        refine lv_iload_n hx hb dX1_greatest_14 rfl (lv_at hl 2 rfl) ?_
        refine roV (As := [.int (nI (k))]) hC kX1_46 (cM_col k (by omega) (by omega)) hK hP (m_rec hK hP) rfl rfl hl ⟨Nat.le_of_ble_eq_true rfl, Nat.le_of_ble_eq_true rfl⟩ (Nat.le_of_ble_eq_true rfl) dX1_greatest_15 ⟨Nat.le_of_ble_eq_true rfl, Nat.le_of_ble_eq_true rfl⟩ ?_
        refine lv_iload_n hx hb dX1_greatest_18 rfl (lv_at hl 1 rfl) ?_
        refine lv_icmp_le (tgt := 30) hx hb dX1_greatest_19 (by decide) (fun c_19 => ?_) (fun c_19 => ?_)
        · refine lv_iload_n hx hb dX1_greatest_30 rfl (lv_at hl 1 rfl) ?_
          refine tI ((mxF (mcol cols rd) (k + 1))) (by rw [mxF, max32, if_neg (Int32.not_lt.mpr c_19)]) ?_
          refine lv_istore_n (lv' := [(1, .int (mxF (mcol cols rd) (k + 1))), (0, .ref (b 0)), (2, .int (nI (k)))]) hx hb dX1_greatest_31 rfl hl (by decide) rfl (fun ls hl => ?_)
          refine lv_iinc (v := (nI (k + 1))) (lv' := [(2, .int (nI (k + 1))), (1, .int (mxF (mcol cols rd) (k + 1))), (0, .ref (b 0))]) hx hb dX1_greatest_32 hl (k := 2) rfl (nI_inc _) (by decide) rfl (fun ls hl => ?_)
          refine lv_goto (tgt := 5) hx hb dX1_greatest_35 (by decide) ?_
          exact ih_5 (k + 1) (by omega) (by omega) ls (lv_sub hl [2, 1, 0] rfl)
        · refine lv_aload_n hx hb dX1_greatest_22 rfl (lv_at hl 0 rfl) ?_
          refine lv_iload_n hx hb dX1_greatest_23 rfl (lv_at hl 2 rfl) ?_
          refine roV (As := [.int (nI (k))]) hC kX1_46 (cM_col k (by omega) (by omega)) hK hP (m_rec hK hP) rfl rfl hl ⟨Nat.le_of_ble_eq_true rfl, Nat.le_of_ble_eq_true rfl⟩ (Nat.le_of_ble_eq_true rfl) dX1_greatest_24 ⟨Nat.le_of_ble_eq_true rfl, Nat.le_of_ble_eq_true rfl⟩ ?_
          refine tI ((mxF (mcol cols rd) (k + 1))) (by rw [mxF, max32, if_pos (Int32.not_le.mp c_19)]) ?_
          refine lv_goto (tgt := 31) hx hb dX1_greatest_27 (by decide) ?_
          refine lv_istore_n (lv' := [(1, .int (mxF (mcol cols rd) (k + 1))), (0, .ref (b 0)), (2, .int (nI (k)))]) hx hb dX1_greatest_31 rfl hl (by decide) rfl (fun ls hl => ?_)
          refine lv_iinc (v := (nI (k + 1))) (lv' := [(2, .int (nI (k + 1))), (1, .int (mxF (mcol cols rd) (k + 1))), (0, .ref (b 0))]) hx hb dX1_greatest_32 hl (k := 2) rfl (nI_inc _) (by decide) rfl (fun ls hl => ?_)
          refine lv_goto (tgt := 5) hx hb dX1_greatest_35 (by decide) ?_
          exact ih_5 (k + 1) (by omega) (by omega) ls (lv_sub hl [2, 1, 0] rfl)
  exact loop_5 (n - 0 + 1) 0 (Nat.zero_le _) (Nat.lt_succ_self _) ls (lv_sub hl [2, 1, 0] rfl)
set_option maxRecDepth 100000 in
set_option maxHeartbeats 4000000 in
theorem cM_greatestColour {l : Launch} {E : EE} {b : Nat → Nat} {n : Nat} {ids : Nat → Int32} {par : Nat → Option Nat} {cols : Nat → Int32} {rd : Nat} {nx : Nat → Int32} {isin : Nat → Bool} {wi wo : Nat → Nat} {wf : Nat → Option Nat}  (hn : n ≤ 24)(hrd : rd < 100000) : RO l E (MP E b n ids par cols rd nx isin wi wo wf) yX1_greatestColour cX1_greatestColour 1 (some .int) 2 43 [.ref (b 0)] (mxF (mcol cols rd) n) := by
  refine RO.mk (C := RX1) rfl rfl (by decide) rfl (Nat.le_of_ble_eq_true rfl) ?_
  intro p e s m args below meth c H Q hC hK hP hret ls hl
  obtain ⟨hx, hb, hml, hown, hts⟩ := id hC
  have hl : lv_has ls 1 [(0, .ref (b 0))] := hl
  refine lv_aload_n hx hb dX1_greatestColour_0 rfl (lv_at hl 0 rfl) ?_
  refine roV (As := []) hC kX1_82 (cM_greatest  hn hrd) hK hP (m_rec hK hP) rfl rfl hl ⟨Nat.le_of_ble_eq_true rfl, Nat.le_of_ble_eq_true rfl⟩ (Nat.le_of_ble_eq_true rfl) dX1_greatestColour_1 ⟨Nat.le_of_ble_eq_true rfl, Nat.le_of_ble_eq_true rfl⟩ ?_
  exact hret _ _ _ dX1_greatestColour_4 (by first | rfl | omega | simp_all)
set_option maxRecDepth 100000 in
set_option maxHeartbeats 4000000 in
theorem cM_conf {l : Launch} {E : EE} {b : Nat → Nat} {n : Nat} {ids : Nat → Int32} {par : Nat → Option Nat} {cols : Nat → Int32} {rd : Nat} {nx : Nat → Int32} {isin : Nat → Bool} {wi wo : Nat → Nat} {wf : Nat → Option Nat} (v : Nat) (hn : n ≤ 24)(hp : PW n par)(hv : v < n)(hrd : rd < 100000) : RO l E (MP E b n ids par cols rd nx isin wi wo wf) yX1_isConflict cX1_isConflict 2 (some .boolean) 1 21 [.ref (b 0), .int (nI (v))] (b2i (conf par (mcol cols rd) v)) := by
  refine RO.mk (C := RX1) rfl (b2i_nar _) (by decide) rfl (Nat.le_of_ble_eq_true rfl) ?_
  intro p e s m args below meth c H Q hC hK hP hret ls hl
  obtain ⟨hx, hb, hml, hown, hts⟩ := id hC
  have hl : lv_has ls 2 [(0, .ref (b 0)), (1, .int (nI (v)))] := hl
  refine lv_aload_n hx hb dX1_isConflict_0 rfl (lv_at hl 0 rfl) ?_
  refine m_g2 hC hK hP dX1_isConflict_1 ?_
  refine lv_iload_n hx hb dX1_isConflict_4 rfl (lv_at hl 1 rfl) ?_
  refine m_ld2 hx hb hK hP (by omega) dX1_isConflict_5 ?_
  refine lv_bipush (v := (-7)) hx hb dX1_isConflict_6 (by decide) ?_
  refine pv_eq7 (tgt := 33) hx hb (hp.big hn (by omega)) dX1_isConflict_8 (by decide) (fun c_8 => ?_) (fun c_8 => ?_)
  · refine lv_iconst (v := (0)) hx hb dX1_isConflict_33 (by decide) ?_
    exact hret _ _ _ dX1_isConflict_34 (by simp [conf, c_8, b2i])
  · obtain ⟨u, hu⟩ := ex_some c_8
    have hun := hp.lt hv hu
    refine lv_aload_n hx hb dX1_isConflict_11 rfl (lv_at hl 0 rfl) ?_
    refine lv_aload_n hx hb dX1_isConflict_12 rfl (lv_at hl 0 rfl) ?_
    refine m_g2 hC hK hP dX1_isConflict_13 ?_
    refine lv_iload_n hx hb dX1_isConflict_16 rfl (lv_at hl 1 rfl) ?_
    refine m_ld2 hx hb hK hP (by omega) dX1_isConflict_17 ?_
    refine tI ((nI (u))) (by rw [hu]; rfl) ?_
    refine roV (As := [.int (nI (u))]) hC kX1_46 (cM_col u (by omega) (by omega)) hK hP (m_rec hK hP) rfl rfl hl ⟨Nat.le_of_ble_eq_true rfl, Nat.le_of_ble_eq_true rfl⟩ (Nat.le_of_ble_eq_true rfl) dX1_isConflict_18 ⟨Nat.le_of_ble_eq_true rfl, Nat.le_of_ble_eq_true rfl⟩ ?_
    refine lv_aload_n hx hb dX1_isConflict_21 rfl (lv_at hl 0 rfl) ?_
    refine lv_iload_n hx hb dX1_isConflict_22 rfl (lv_at hl 1 rfl) ?_
    refine roV (As := [.int (nI (v))]) hC kX1_46 (cM_col v (by omega) (by omega)) hK hP (m_rec hK hP) rfl rfl hl ⟨Nat.le_of_ble_eq_true rfl, Nat.le_of_ble_eq_true rfl⟩ (Nat.le_of_ble_eq_true rfl) dX1_isConflict_23 ⟨Nat.le_of_ble_eq_true rfl, Nat.le_of_ble_eq_true rfl⟩ ?_
    refine lv_icmp_ne (tgt := 33) hx hb dX1_isConflict_26 (by decide) (fun c_26 => ?_) (fun c_26 => ?_)
    · refine lv_iconst (v := (0)) hx hb dX1_isConflict_33 (by decide) ?_
      exact hret _ _ _ dX1_isConflict_34 (by rw [cf_n hu (fun e => c_26 e.symm)]; rfl)
    · refine lv_iconst (v := (1)) hx hb dX1_isConflict_29 (by decide) ?_
      refine lv_goto (tgt := 34) hx hb dX1_isConflict_30 (by decide) ?_
      exact hret _ _ _ dX1_isConflict_34 (by rw [cf_y hu c_26.symm]; rfl)
set_option maxRecDepth 100000 in
set_option maxHeartbeats 4000000 in
theorem cM_conflicts {l : Launch} {E : EE} {b : Nat → Nat} {n : Nat} {ids : Nat → Int32} {par : Nat → Option Nat} {cols : Nat → Int32} {rd : Nat} {nx : Nat → Int32} {isin : Nat → Bool} {wi wo : Nat → Nat} {wf : Nat → Option Nat}  (hn : n ≤ 24)(hp : PW n par)(hrd : rd < 100000) : RO l E (MP E b n ids par cols rd nx isin wi wo wf) yX1_conflicts cX1_conflicts 3 (some .int) 2 42 [.ref (b 0)] (nI (fb_ct (conf par (mcol cols rd)) n)) := by
  refine RO.mk (C := RX1) rfl rfl (by decide) rfl (Nat.le_of_ble_eq_true rfl) ?_
  intro p e s m args below meth c H Q hC hK hP hret ls hl
  obtain ⟨hx, hb, hml, hown, hts⟩ := id hC
  have hl : lv_has ls 3 [(0, .ref (b 0))] := hl
  refine lv_iconst (v := (nI (0))) hx hb dX1_conflicts_0 (by decide) ?_
  refine lv_istore_n (lv' := [(1, .int (nI (0))), (0, .ref (b 0))]) hx hb dX1_conflicts_1 rfl hl (by decide) rfl (fun ls hl => ?_)
  refine lv_iconst (v := (nI (0))) hx hb dX1_conflicts_2 (by decide) ?_
  refine lv_istore_n (lv' := [(2, .int (nI (0))), (1, .int (nI (0))), (0, .ref (b 0))]) hx hb dX1_conflicts_3 rfl hl (by decide) rfl (fun ls hl => ?_)
  have loop_4 : ∀ (fuel : Nat) (k : Nat), (k ≤ n) → n - k < fuel → ∀ (ls : Array Slot), lv_has ls 3 [(0, .ref (b 0)), (1, .int (nI (fb_ct (conf par (mcol cols rd)) k))), (2, .int (nI (k)))] → W p l e (k2_rm 2 42) s m args below meth c H [] 0 0 Q (F0 m 4 ls []) := by
    intro fuel
    induction fuel with
    | zero => intro k hk hm; exact absurd hm (Nat.not_lt_zero _)
    | succ fuel ih_4 =>
      intro k hk hm ls hl
      refine lv_iload_n hx hb dX1_conflicts_4 rfl (lv_at hl 2 rfl) ?_
      refine lv_aload_n hx hb dX1_conflicts_5 rfl (lv_at hl 0 rfl) ?_
      refine m_g0 hC hK hP dX1_conflicts_6 ?_
      refine nv_ge (tgt := 34) hx hb (by omega) (by omega) dX1_conflicts_9 (by decide) (fun c_9 => ?_) (fun c_9 => ?_)
      · refine lv_iload_n hx hb dX1_conflicts_34 rfl (lv_at hl 1 rfl) ?_
        exact hret _ _ _ dX1_conflicts_35 (by rw [show k = n by omega])
      · refine lv_iload_n hx hb dX1_conflicts_12 rfl (lv_at hl 1 rfl) ?_
        refine lv_aload_n hx hb dX1_conflicts_13 rfl (lv_at hl 0 rfl) ?_
        refine lv_iload_n hx hb dX1_conflicts_14 rfl (lv_at hl 2 rfl) ?_
        refine roV (As := [.int (nI (k))]) hC kX1_86 (cM_conf k hn hp (by omega) hrd) hK hP (m_rec hK hP) rfl rfl hl ⟨Nat.le_of_ble_eq_true rfl, Nat.le_of_ble_eq_true rfl⟩ (Nat.le_of_ble_eq_true rfl) dX1_conflicts_15 ⟨Nat.le_of_ble_eq_true rfl, Nat.le_of_ble_eq_true rfl⟩ ?_
        refine bv_eq (tgt := 25) hx hb dX1_conflicts_18 (by decide) (fun c_18 => ?_) (fun c_18 => ?_)
        · refine lv_iconst (v := (nI (0))) hx hb dX1_conflicts_25 (by decide) ?_
          refine lv_iadd hx hb dX1_conflicts_26 ?_
          refine tI (nI ((fb_ct (conf par (mcol cols rd)) k) + 0)) (nI_add _ _) ?_
          refine tI ((nI (fb_ct (conf par (mcol cols rd)) (k + 1)))) (by rw [fb_ct_f c_18]; rfl) ?_
          refine lv_istore_n (lv' := [(1, .int (nI (fb_ct (conf par (mcol cols rd)) (k + 1)))), (0, .ref (b 0)), (2, .int (nI (k)))]) hx hb dX1_conflicts_27 rfl hl (by decide) rfl (fun ls hl => ?_)
          refine lv_iinc (v := (nI (k + 1))) (lv' := [(2, .int (nI (k + 1))), (1, .int (nI (fb_ct (conf par (mcol cols rd)) (k + 1)))), (0, .ref (b 0))]) hx hb dX1_conflicts_28 hl (k := 2) rfl (nI_inc _) (by decide) rfl (fun ls hl => ?_)
          refine lv_goto (tgt := 4) hx hb dX1_conflicts_31 (by decide) ?_
          exact ih_4 (k + 1) (by omega) (by omega) ls (lv_sub hl [2, 1, 0] rfl)
        · refine lv_iconst (v := (nI (1))) hx hb dX1_conflicts_21 (by decide) ?_
          refine lv_goto (tgt := 26) hx hb dX1_conflicts_22 (by decide) ?_
          refine lv_iadd hx hb dX1_conflicts_26 ?_
          refine tI (nI ((fb_ct (conf par (mcol cols rd)) k) + 1)) (nI_add _ _) ?_
          refine tI ((nI (fb_ct (conf par (mcol cols rd)) (k + 1)))) (by rw [fb_ct_t c_18]) ?_
          refine lv_istore_n (lv' := [(1, .int (nI (fb_ct (conf par (mcol cols rd)) (k + 1)))), (0, .ref (b 0)), (2, .int (nI (k)))]) hx hb dX1_conflicts_27 rfl hl (by decide) rfl (fun ls hl => ?_)
          refine lv_iinc (v := (nI (k + 1))) (lv' := [(2, .int (nI (k + 1))), (1, .int (nI (fb_ct (conf par (mcol cols rd)) (k + 1)))), (0, .ref (b 0))]) hx hb dX1_conflicts_28 hl (k := 2) rfl (nI_inc _) (by decide) rfl (fun ls hl => ?_)
          refine lv_goto (tgt := 4) hx hb dX1_conflicts_31 (by decide) ?_
          exact ih_4 (k + 1) (by omega) (by omega) ls (lv_sub hl [2, 1, 0] rfl)
  exact loop_4 (n - 0 + 1) 0 (Nat.zero_le _) (Nat.lt_succ_self _) ls (lv_sub hl [2, 1, 0] rfl)
set_option maxRecDepth 100000 in
set_option maxHeartbeats 4000000 in
theorem cM_conflictCount {l : Launch} {E : EE} {b : Nat → Nat} {n : Nat} {ids : Nat → Int32} {par : Nat → Option Nat} {cols : Nat → Int32} {rd : Nat} {nx : Nat → Int32} {isin : Nat → Bool} {wi wo : Nat → Nat} {wf : Nat → Option Nat}  (hn : n ≤ 24)(hp : PW n par)(hrd : rd < 100000) : RO l E (MP E b n ids par cols rd nx isin wi wo wf) yX1_conflictCount cX1_conflictCount 1 (some .int) 3 64 [.ref (b 0)] (nI (fb_ct (conf par (mcol cols rd)) n)) := by
  refine RO.mk (C := RX1) rfl rfl (by decide) rfl (Nat.le_of_ble_eq_true rfl) ?_
  intro p e s m args below meth c H Q hC hK hP hret ls hl
  obtain ⟨hx, hb, hml, hown, hts⟩ := id hC
  have hl : lv_has ls 1 [(0, .ref (b 0))] := hl
  refine lv_aload_n hx hb dX1_conflictCount_0 rfl (lv_at hl 0 rfl) ?_
  refine roV (As := []) hC kX1_89 (cM_conflicts  hn hp hrd) hK hP (m_rec hK hP) rfl rfl hl ⟨Nat.le_of_ble_eq_true rfl, Nat.le_of_ble_eq_true rfl⟩ (Nat.le_of_ble_eq_true rfl) dX1_conflictCount_1 ⟨Nat.le_of_ble_eq_true rfl, Nat.le_of_ble_eq_true rfl⟩ ?_
  exact hret _ _ _ dX1_conflictCount_4 (by first | rfl | omega | simp_all)
set_option maxRecDepth 100000 in
set_option maxHeartbeats 4000000 in
theorem cM_bitOf {l : Launch} {E : EE} {b : Nat → Nat} {n : Nat} {ids : Nat → Int32} {par : Nat → Option Nat} {cols : Nat → Int32} {rd : Nat} {nx : Nat → Int32} {isin : Nat → Bool} {wi wo : Nat → Nat} {wf : Nat → Option Nat} (v : Nat) (hn : n ≤ 24)(hp : PW n par)(hv : v < n)(hrd : rd < 100000)(hc : conf par (mcol cols rd) v = false) : RO l E (MP E b n ids par cols rd nx isin wi wo wf) yX1_bitOf cX1_bitOf 4 (some .int) 1 21 [.ref (b 0), .int (nI (v))] (rbit par (mcol cols rd) v) := by
  refine RO.mk (C := RX1) rfl rfl (by decide) rfl (Nat.le_of_ble_eq_true rfl) ?_
  intro p e s m args below meth c H Q hC hK hP hret ls hl
  obtain ⟨hx, hb, hml, hown, hts⟩ := id hC
  have hl : lv_has ls 4 [(0, .ref (b 0)), (1, .int (nI (v)))] := hl
  refine lv_aload_n hx hb dX1_bitOf_0 rfl (lv_at hl 0 rfl) ?_
  refine m_g2 hC hK hP dX1_bitOf_1 ?_
  refine lv_iload_n hx hb dX1_bitOf_4 rfl (lv_at hl 1 rfl) ?_
  refine m_ld2 hx hb hK hP (by omega) dX1_bitOf_5 ?_
  refine lv_bipush (v := (-7)) hx hb dX1_bitOf_6 (by decide) ?_
  refine pv_ne7 (tgt := 13) hx hb (hp.big hn (by omega)) dX1_bitOf_8 (by decide) (fun c_8 => ?_) (fun c_8 => ?_)
  · obtain ⟨u, hu⟩ := ex_some c_8
    have hun := hp.lt hv hu
    obtain ⟨hb1, hb2, hb3, hb4⟩ := rbit_some (n := n) hu hc
    refine lv_aload_n hx hb dX1_bitOf_13 rfl (lv_at hl 0 rfl) ?_
    refine lv_iload_n hx hb dX1_bitOf_14 rfl (lv_at hl 1 rfl) ?_
    refine roV (As := [.int (nI (v))]) hC kX1_46 (cM_col v (by omega) (by omega)) hK hP (m_rec hK hP) rfl rfl hl ⟨Nat.le_of_ble_eq_true rfl, Nat.le_of_ble_eq_true rfl⟩ (Nat.le_of_ble_eq_true rfl) dX1_bitOf_15 ⟨Nat.le_of_ble_eq_true rfl, Nat.le_of_ble_eq_true rfl⟩ ?_
    refine lv_aload_n hx hb dX1_bitOf_18 rfl (lv_at hl 0 rfl) ?_
    refine lv_aload_n hx hb dX1_bitOf_19 rfl (lv_at hl 0 rfl) ?_
    refine m_g2 hC hK hP dX1_bitOf_20 ?_
    refine lv_iload_n hx hb dX1_bitOf_23 rfl (lv_at hl 1 rfl) ?_
    refine m_ld2 hx hb hK hP (by omega) dX1_bitOf_24 ?_
    refine tI ((nI (u))) (by rw [hu]; rfl) ?_
    refine roV (As := [.int (nI (u))]) hC kX1_46 (cM_col u (by omega) (by omega)) hK hP (m_rec hK hP) rfl rfl hl ⟨Nat.le_of_ble_eq_true rfl, Nat.le_of_ble_eq_true rfl⟩ (Nat.le_of_ble_eq_true rfl) dX1_bitOf_25 ⟨Nat.le_of_ble_eq_true rfl, Nat.le_of_ble_eq_true rfl⟩ ?_
    refine lv_ixor hx hb dX1_bitOf_28 ?_
    refine lv_istore_n (lv' := [(2, .int (((mcol cols rd v)) ^^^ ((mcol cols rd u)))), (0, .ref (b 0)), (1, .int (nI (v)))]) hx hb dX1_bitOf_29 rfl hl (by decide) rfl (fun ls hl => ?_)
    refine lv_iconst (v := (nI (0))) hx hb dX1_bitOf_30 (by decide) ?_
    refine lv_istore_n (lv' := [(3, .int (nI (0))), (2, .int (((mcol cols rd v)) ^^^ ((mcol cols rd u)))), (0, .ref (b 0)), (1, .int (nI (v)))]) hx hb dX1_bitOf_31 rfl hl (by decide) rfl (fun ls hl => ?_)
    have loop_32 : ∀ (fuel : Nat) (k : Nat), (k ≤ lowb (mcol cols rd v ^^^ mcol cols rd u)) → 32 - k < fuel → ∀ (ls : Array Slot), lv_has ls 4 [(0, .ref (b 0)), (1, .int (nI (v))), (2, .int (((mcol cols rd v)) ^^^ ((mcol cols rd u)))), (3, .int (nI (k)))] → W p l e (k2_rm 1 21) s m args below meth c H [] 0 0 Q (F0 m 32 ls []) := by
      intro fuel
      induction fuel with
      | zero => intro k hk hm; exact absurd hm (Nat.not_lt_zero _)
      | succ fuel ih_32 =>
        intro k hk hm ls hl
        refine lv_iload_n hx hb dX1_bitOf_32 rfl (lv_at hl 2 rfl) ?_
        refine lv_iload_n hx hb dX1_bitOf_33 rfl (lv_at hl 3 rfl) ?_
        refine lv_ishr hx hb dX1_bitOf_34 ?_
        refine lv_iconst (v := (1)) hx hb dX1_bitOf_35 (by decide) ?_
        refine lv_iand hx hb dX1_bitOf_36 ?_
        refine tI ((b2i (bt (mcol cols rd v ^^^ mcol cols rd u) k))) (sh_bit (by omega) _) ?_
        refine bv_ne (tgt := 46) hx hb dX1_bitOf_37 (by decide) (fun c_37 => ?_) (fun c_37 => ?_)
        · refine lv_iload_n hx hb dX1_bitOf_46 rfl (lv_at hl 3 rfl) ?_
          exact hret _ _ _ dX1_bitOf_47 (bit_done hb1 hk hb4 c_37)
        · refine lv_iinc (v := (nI (k + 1))) (lv' := [(3, .int (nI (k + 1))), (0, .ref (b 0)), (1, .int (nI (v))), (2, .int (((mcol cols rd v)) ^^^ ((mcol cols rd u))))]) hx hb dX1_bitOf_40 hl (k := 3) rfl (nI_inc _) (by decide) rfl (fun ls hl => ?_)
          refine lv_goto (tgt := 32) hx hb dX1_bitOf_43 (by decide) ?_
          exact ih_32 (k + 1) (Nat.lt_of_le_of_ne hk (fun e => by rw [e, hb3] at c_37; cases c_37)) (by omega) ls (lv_sub hl [1, 2, 3, 0] rfl)
    exact loop_32 (32 - 0 + 1) 0 (Nat.zero_le _) (Nat.lt_succ_self _) ls (lv_sub hl [2, 3, 1, 0] rfl)
  · refine lv_iconst (v := (0)) hx hb dX1_bitOf_11 (by decide) ?_
    exact hret _ _ _ dX1_bitOf_12 (by rw [rbit, c_8])
set_option maxRecDepth 100000 in
set_option maxHeartbeats 4000000 in
theorem cM_differing {l : Launch} {E : EE} {b : Nat → Nat} {n : Nat} {ids : Nat → Int32} {par : Nat → Option Nat} {cols : Nat → Int32} {rd : Nat} {nx : Nat → Int32} {isin : Nat → Bool} {wi wo : Nat → Nat} {wf : Nat → Option Nat} (x : Int32) (hn : n ≤ 24)(hp : PW n par)(hrd : rd < 100000) : RO l E (MP E b n ids par cols rd nx isin wi wo wf) yX1_differingBit cX1_differingBit 2 (some .int) 2 44 [.ref (b 0), .int (x)] (oN (vN n x) (fun v => if conf par (mcol cols rd) v = true then -5 else rbit par (mcol cols rd) v)) := by
  refine RO.mk (C := RX1) rfl rfl (by decide) rfl (Nat.le_of_ble_eq_true rfl) ?_
  intro p e s m args below meth c H Q hC hK hP hret ls hl
  obtain ⟨hx, hb, hml, hown, hts⟩ := id hC
  have hl : lv_has ls 2 [(0, .ref (b 0)), (1, .int (x))] := hl
  refine lv_aload_n hx hb dX1_differingBit_0 rfl (lv_at hl 0 rfl) ?_
  refine lv_iload_n hx hb dX1_differingBit_1 rfl (lv_at hl 1 rfl) ?_
  refine roV (As := [.int (x)]) hC kX1_58 (cM_isNode ((x)) hn) hK hP (m_rec hK hP) rfl rfl hl ⟨Nat.le_of_ble_eq_true rfl, Nat.le_of_ble_eq_true rfl⟩ (Nat.le_of_ble_eq_true rfl) dX1_differingBit_2 ⟨Nat.le_of_ble_eq_true rfl, Nat.le_of_ble_eq_true rfl⟩ ?_
  refine bv_ne (tgt := 10) hx hb dX1_differingBit_5 (by decide) (fun c_5 => ?_) (fun c_5 => ?_)
  · obtain ⟨v, hv, rfl⟩ := vN_t hn c_5
    refine lv_aload_n hx hb dX1_differingBit_10 rfl (lv_at hl 0 rfl) ?_
    refine lv_iload_n hx hb dX1_differingBit_11 rfl (lv_at hl 1 rfl) ?_
    refine roV (As := [.int (nI (v))]) hC kX1_86 (cM_conf v hn hp (by omega) hrd) hK hP (m_rec hK hP) rfl rfl hl ⟨Nat.le_of_ble_eq_true rfl, Nat.le_of_ble_eq_true rfl⟩ (Nat.le_of_ble_eq_true rfl) dX1_differingBit_12 ⟨Nat.le_of_ble_eq_true rfl, Nat.le_of_ble_eq_true rfl⟩ ?_
    refine bv_eq (tgt := 23) hx hb dX1_differingBit_15 (by decide) (fun c_15 => ?_) (fun c_15 => ?_)
    · refine lv_aload_n hx hb dX1_differingBit_23 rfl (lv_at hl 0 rfl) ?_
      refine lv_iload_n hx hb dX1_differingBit_24 rfl (lv_at hl 1 rfl) ?_
      refine roV (As := [.int (nI (v))]) hC kX1_92 (cM_bitOf v hn hp hv hrd c_15) hK hP (m_rec hK hP) rfl rfl hl ⟨Nat.le_of_ble_eq_true rfl, Nat.le_of_ble_eq_true rfl⟩ (Nat.le_of_ble_eq_true rfl) dX1_differingBit_25 ⟨Nat.le_of_ble_eq_true rfl, Nat.le_of_ble_eq_true rfl⟩ ?_
      exact hret _ _ _ dX1_differingBit_28 (by rw [oN_in hn hv, if_neg (by rw [c_15]; simp)])
    · refine lv_bipush (v := (-5)) hx hb dX1_differingBit_18 (by decide) ?_
      refine lv_goto (tgt := 28) hx hb dX1_differingBit_20 (by decide) ?_
      exact hret _ _ _ dX1_differingBit_28 (by rw [oN_in hn hv, if_pos c_15])
  · refine lv_iconst (v := (-1)) hx hb dX1_differingBit_8 (by decide) ?_
    exact hret _ _ _ dX1_differingBit_9 ((oN_out c_5 _).symm)
set_option maxRecDepth 100000 in
set_option maxHeartbeats 4000000 in
theorem cM_ends {l : Launch} {E : EE} {b : Nat → Nat} {n : Nat} {ids : Nat → Int32} {par : Nat → Option Nat} {cols : Nat → Int32} {rd : Nat} {nx : Nat → Int32} {isin : Nat → Bool} {wi wo : Nat → Nat} {wf : Nat → Option Nat}  (hI : inj 9 b)(hn : n ≤ 24)(hrd : rd < 100000) : WR l E (MP E b n ids par cols rd nx isin wi wo wf) (AM b) yX1_ends cX1_ends 2 none 1 22 [.ref (b 0)] none (MP E b n ids par (fb_put cols nx (24 * ((rd + 1) % 17)) n) (rd + 1) nx isin wi wo wf) := by
  refine WR.mkV (C := RX1) rfl (by decide) rfl (Nat.le_of_ble_eq_true rfl) ?_
  intro p e s m args below meth c H0 Q hC hK hP hret ls hl
  obtain ⟨hx, hb, hml, hown, hts⟩ := id hC
  have hl : lv_has ls 2 [(0, .ref (b 0))] := hl
  have hS : va_S (AM b) H0 H0 [] := va_S.rf
  have hP : MP E b n ids par cols rd nx isin wi wo wf H0 := hP
  refine lv_aload_n hx hb dX1_ends_0 rfl (lv_at hl 0 rfl) ?_
  refine lv_dup hx hb dX1_ends_1 rfl ?_
  refine m_g4 hC hK hP dX1_ends_2 ?_
  refine lv_iconst (v := (1)) hx hb dX1_ends_5 (by decide) ?_
  refine lv_iadd hx hb dX1_ends_6 ?_
  refine tI (nI (rd + 1)) (nI_1 _) ?_
  refine m_p4 hC hK hI hP hS dX1_ends_7 (fun H locs hP hS => ?_)
  refine lv_iconst (v := (nI (0))) hx hb dX1_ends_10 (by decide) ?_
  refine lv_istore_n (lv' := [(1, .int (nI (0))), (0, .ref (b 0))]) hx hb dX1_ends_11 rfl hl (by decide) rfl (fun ls hl => ?_)
  have loop_12 : ∀ (fuel : Nat) (k : Nat), (k ≤ n) → n - k < fuel → ∀ (H : Heap) (locs : List Loc), MP E b n ids par (fb_put cols nx (24 * ((rd + 1) % 17)) k) (rd + 1) nx isin wi wo wf H → va_S (AM b) H0 H locs → ∀ (ls : Array Slot), lv_has ls 2 [(0, .ref (b 0)), (1, .int (nI (k)))] → W p l e (k2_rm 1 22) s m args below meth c H locs 0 0 Q (F0 m 12 ls []) := by
    intro fuel
    induction fuel with
    | zero => intro k hk hm; exact absurd hm (Nat.not_lt_zero _)
    | succ fuel ih_12 =>
      intro k hk hm H locs hP hS ls hl
      refine lv_iload_n hx hb dX1_ends_12 rfl (lv_at hl 1 rfl) ?_
      refine lv_aload_n hx hb dX1_ends_13 rfl (lv_at hl 0 rfl) ?_
      refine m_g0 hC hK hP dX1_ends_14 ?_
      refine nv_ge (tgt := 37) hx hb (by omega) (by omega) dX1_ends_17 (by decide) (fun c_17 => ?_) (fun c_17 => ?_)
      · exact hret _ _ _ _ (by rw [show k = n by omega] at hP; exact hP) hS dX1_ends_37
      · refine lv_aload_n hx hb dX1_ends_20 rfl (lv_at hl 0 rfl) ?_
        refine lv_iload_n hx hb dX1_ends_21 rfl (lv_at hl 1 rfl) ?_
        refine lv_aload_n hx hb dX1_ends_22 rfl (lv_at hl 0 rfl) ?_
        refine m_g5 hC hK hP dX1_ends_23 ?_
        refine lv_iload_n hx hb dX1_ends_26 rfl (lv_at hl 1 rfl) ?_
        refine m_ld4 hx hb hK hP (by omega) dX1_ends_27 ?_
        refine wrV (As := [.int (nI (k)), .int (nx k)]) hC kX1_54 (cM_paints k ((nx k)) hI (by omega) (by omega)) hK hP (m_rec hK hP) hS (fun _ h => h) rfl rfl hl ⟨Nat.le_of_ble_eq_true rfl, Nat.le_of_ble_eq_true rfl⟩ (Nat.le_of_ble_eq_true rfl) dX1_ends_28 ⟨Nat.le_of_ble_eq_true rfl, Nat.le_of_ble_eq_true rfl⟩ (fun H locs hP hS _ _ => ?_)
        refine lv_iinc (v := (nI (k + 1))) (lv' := [(1, .int (nI (k + 1))), (0, .ref (b 0))]) hx hb dX1_ends_31 hl (k := 1) rfl (nI_inc _) (by decide) rfl (fun ls hl => ?_)
        refine lv_goto (tgt := 12) hx hb dX1_ends_34 (by decide) ?_
        exact ih_12 (k + 1) (by omega) (by omega) _ _ (by rw [mset_s] at hP; exact hP) hS ls (lv_sub hl [1, 0] rfl)
  exact loop_12 (n - 0 + 1) 0 (Nat.zero_le _) (Nat.lt_succ_self _) _ _ (by rw [fb_put_0]; exact hP) hS ls (lv_sub hl [1, 0] rfl)
set_option maxRecDepth 100000 in
set_option maxHeartbeats 4000000 in
theorem cM_reduces {l : Launch} {E : EE} {b : Nat → Nat} {n : Nat} {ids : Nat → Int32} {par : Nat → Option Nat} {cols : Nat → Int32} {rd : Nat} {nx : Nat → Int32} {isin : Nat → Bool} {wi wo : Nat → Nat} {wf : Nat → Option Nat}  (hI : inj 9 b)(hn : n ≤ 24)(hp : PW n par)(hrd : rd < 100000)(hpb : propB n par (mcol cols rd) = true) : WR l E (MP E b n ids par cols rd nx isin wi wo wf) (AM b) yX1_reduces cX1_reduces 3 none 2 44 [.ref (b 0)] none (MP E b n ids par ((mredS par n (cols, nx, rd)).1) ((mredS par n (cols, nx, rd)).2.2) ((mredS par n (cols, nx, rd)).2.1) isin wi wo wf) := by
  refine WR.mkV (C := RX1) rfl (by decide) rfl (Nat.le_of_ble_eq_true rfl) ?_
  intro p e s m args below meth c H0 Q hC hK hP hret ls hl
  obtain ⟨hx, hb, hml, hown, hts⟩ := id hC
  have hl : lv_has ls 3 [(0, .ref (b 0))] := hl
  have hS : va_S (AM b) H0 H0 [] := va_S.rf
  have hP : MP E b n ids par cols rd nx isin wi wo wf H0 := hP
  refine lv_iconst (v := (nI (0))) hx hb dX1_reduces_0 (by decide) ?_
  refine lv_istore_n (lv' := [(1, .int (nI (0))), (0, .ref (b 0))]) hx hb dX1_reduces_1 rfl hl (by decide) rfl (fun ls hl => ?_)
  have loop_2 : ∀ (fuel : Nat) (k : Nat), (k ≤ n) → n - k < fuel → ∀ (H : Heap) (locs : List Loc), MP E b n ids par cols rd (pF nx (redC par (mcol cols rd)) k) isin wi wo wf H → va_S (AM b) H0 H locs → ∀ (ls : Array Slot), lv_has ls 3 [(0, .ref (b 0)), (1, .int (nI (k)))] → W p l e (k2_rm 2 44) s m args below meth c H locs 0 0 Q (F0 m 2 ls []) := by
    intro fuel
    induction fuel with
    | zero => intro k hk hm; exact absurd hm (Nat.not_lt_zero _)
    | succ fuel ih_2 =>
      intro k hk hm H locs hP hS ls hl
      refine lv_iload_n hx hb dX1_reduces_2 rfl (lv_at hl 1 rfl) ?_
      refine lv_aload_n hx hb dX1_reduces_3 rfl (lv_at hl 0 rfl) ?_
      refine m_g0 hC hK hP dX1_reduces_4 ?_
      refine nv_ge (tgt := 41) hx hb (by omega) (by omega) dX1_reduces_7 (by decide) (fun c_7 => ?_) (fun c_7 => ?_)
      · have hkn : k = n := by omega
        rw [hkn] at hP
        refine lv_aload_n hx hb dX1_reduces_41 rfl (lv_at hl 0 rfl) ?_
        refine wrV (As := []) hC kX1_95 (cM_ends  hI hn hrd) hK hP (m_rec hK hP) hS (fun _ h => h) rfl rfl hl ⟨Nat.le_of_ble_eq_true rfl, Nat.le_of_ble_eq_true rfl⟩ (Nat.le_of_ble_eq_true rfl) dX1_reduces_42 ⟨Nat.le_of_ble_eq_true rfl, Nat.le_of_ble_eq_true rfl⟩ (fun H locs hP hS _ _ => ?_)
        exact hret _ _ _ _ (hP) hS dX1_reduces_45
      · refine lv_aload_n hx hb dX1_reduces_10 rfl (lv_at hl 0 rfl) ?_
        refine lv_iload_n hx hb dX1_reduces_11 rfl (lv_at hl 1 rfl) ?_
        refine roV (As := [.int (nI (k))]) hC kX1_92 (cM_bitOf k hn hp (by omega) hrd (prop_conf hpb (by omega))) hK hP (m_rec hK hP) rfl rfl hl ⟨Nat.le_of_ble_eq_true rfl, Nat.le_of_ble_eq_true rfl⟩ (Nat.le_of_ble_eq_true rfl) dX1_reduces_12 ⟨Nat.le_of_ble_eq_true rfl, Nat.le_of_ble_eq_true rfl⟩ ?_
        refine lv_istore_n (lv' := [(2, .int (rbit par (mcol cols rd) k)), (0, .ref (b 0)), (1, .int (nI (k)))]) hx hb dX1_reduces_15 rfl hl (by decide) rfl (fun ls hl => ?_)
        refine lv_aload_n hx hb dX1_reduces_16 rfl (lv_at hl 1 rfl) ?_
        refine m_g5 hC hK hP dX1_reduces_17 ?_
        refine lv_iload_n hx hb dX1_reduces_20 rfl (lv_at hl 2 rfl) ?_
        refine lv_iconst (v := (2)) hx hb dX1_reduces_21 (by decide) ?_
        refine lv_iload_n hx hb dX1_reduces_22 rfl (lv_at hl 0 rfl) ?_
        refine lv_imul hx hb dX1_reduces_23 ?_
        refine lv_aload_n hx hb dX1_reduces_24 rfl (lv_at hl 1 rfl) ?_
        refine lv_iload_n hx hb dX1_reduces_25 rfl (lv_at hl 2 rfl) ?_
        refine roV (As := [.int (nI (k))]) hC kX1_46 (cM_col k (by omega) (by omega)) hK hP (m_rec hK hP) rfl rfl hl ⟨Nat.le_of_ble_eq_true rfl, Nat.le_of_ble_eq_true rfl⟩ (Nat.le_of_ble_eq_true rfl) dX1_reduces_26 ⟨Nat.le_of_ble_eq_true rfl, Nat.le_of_ble_eq_true rfl⟩ ?_
        refine lv_iload_n hx hb dX1_reduces_29 rfl (lv_at hl 0 rfl) ?_
        refine lv_ishr hx hb dX1_reduces_30 ?_
        refine lv_iconst (v := (1)) hx hb dX1_reduces_31 (by decide) ?_
        refine lv_iand hx hb dX1_reduces_32 ?_
        refine lv_iadd hx hb dX1_reduces_33 ?_
        refine tI ((redC par (mcol cols rd) k)) (rfl) ?_
        refine m_st4 (x := (redC par (mcol cols rd) k)) hx hb hK hI hP hS (by omega) dX1_reduces_34 (fun H locs hP hS => ?_)
        refine lv_iinc (v := (nI (k + 1))) (lv' := [(1, .int (nI (k + 1))), (2, .int (rbit par (mcol cols rd) k)), (0, .ref (b 0))]) hx hb dX1_reduces_35 hl (k := 2) rfl (nI_inc _) (by decide) rfl (fun ls hl => ?_)
        refine lv_goto (tgt := 2) hx hb dX1_reduces_38 (by decide) ?_
        exact ih_2 (k + 1) (by omega) (by omega) _ _ (by rw [pF_s] at hP; exact hP) hS ls (lv_sub hl [2, 0] rfl)
  exact loop_2 (n - 0 + 1) 0 (Nat.zero_le _) (Nat.lt_succ_self _) _ _ (by rw [pF_0]; exact hP) hS ls (lv_sub hl [1, 0] rfl)
set_option maxRecDepth 100000 in
set_option maxHeartbeats 4000000 in
theorem cM_reduce {l : Launch} {E : EE} {b : Nat → Nat} {n : Nat} {ids : Nat → Int32} {par : Nat → Option Nat} {cols : Nat → Int32} {rd : Nat} {nx : Nat → Int32} {isin : Nat → Bool} {wi wo : Nat → Nat} {wf : Nat → Option Nat}  (hI : inj 9 b)(hn : n ≤ 24)(hp : PW n par)(hrd : rd < 90000) : WR l E (MP E b n ids par cols rd nx isin wi wo wf) (AM b) yX1_reduce cX1_reduce 1 (some .int) 3 66 [.ref (b 0)] (some (.int (if propB n par (mcol cols rd) = true then mxF (mcol (mredS par n (cols, nx, rd)).1 (mredS par n (cols, nx, rd)).2.2) n else -5))) (MP E b n ids par (if propB n par (mcol cols rd) = true then (mredS par n (cols, nx, rd)).1 else cols) (if propB n par (mcol cols rd) = true then (mredS par n (cols, nx, rd)).2.2 else rd) (if propB n par (mcol cols rd) = true then (mredS par n (cols, nx, rd)).2.1 else nx) isin wi wo wf) := by
  refine WR.mkI (C := RX1) rfl rfl (by decide) rfl (Nat.le_of_ble_eq_true rfl) ?_
  intro p e s m args below meth c H0 Q hC hK hP hret ls hl
  obtain ⟨hx, hb, hml, hown, hts⟩ := id hC
  have hl : lv_has ls 1 [(0, .ref (b 0))] := hl
  have hS : va_S (AM b) H0 H0 [] := va_S.rf
  have hP : MP E b n ids par cols rd nx isin wi wo wf H0 := hP
  refine lv_aload_n hx hb dX1_reduce_0 rfl (lv_at hl 0 rfl) ?_
  refine roV (As := []) hC kX1_89 (cM_conflicts  hn hp (by omega)) hK hP (m_rec hK hP) rfl rfl hl ⟨Nat.le_of_ble_eq_true rfl, Nat.le_of_ble_eq_true rfl⟩ (Nat.le_of_ble_eq_true rfl) dX1_reduce_1 ⟨Nat.le_of_ble_eq_true rfl, Nat.le_of_ble_eq_true rfl⟩ ?_
  refine lv_if_le (tgt := 10) hx hb dX1_reduce_4 (by decide) (fun c_4 => ?_) (fun c_4 => ?_)
  · rw [prop_0 hn] at c_4
    refine lv_aload_n hx hb dX1_reduce_10 rfl (lv_at hl 0 rfl) ?_
    refine wrV (As := []) hC kX1_98 (cM_reduces  hI hn hp (by omega) c_4) hK hP (m_rec hK hP) hS (fun _ h => h) rfl rfl hl ⟨Nat.le_of_ble_eq_true rfl, Nat.le_of_ble_eq_true rfl⟩ (Nat.le_of_ble_eq_true rfl) dX1_reduce_11 ⟨Nat.le_of_ble_eq_true rfl, Nat.le_of_ble_eq_true rfl⟩ (fun H locs hP hS _ _ => ?_)
    refine lv_aload_n hx hb dX1_reduce_14 rfl (lv_at hl 0 rfl) ?_
    refine roV (As := []) hC kX1_82 (cM_greatest  hn (show rd + 1 < 100000 by omega)) hK hP (m_rec hK hP) rfl rfl hl ⟨Nat.le_of_ble_eq_true rfl, Nat.le_of_ble_eq_true rfl⟩ (Nat.le_of_ble_eq_true rfl) dX1_reduce_15 ⟨Nat.le_of_ble_eq_true rfl, Nat.le_of_ble_eq_true rfl⟩ ?_
    exact hret _ _ _ _ _ (by rw [if_pos c_4, if_pos c_4, if_pos c_4]; exact hP) hS dX1_reduce_18 (by rw [if_pos c_4]; rfl)
  · rw [prop_0 hn] at c_4
    refine lv_bipush (v := (-5)) hx hb dX1_reduce_7 (by decide) ?_
    exact hret _ _ _ _ _ (by rw [if_neg c_4, if_neg c_4, if_neg c_4]; exact hP) hS dX1_reduce_9 (by rw [if_neg c_4])
set_option maxRecDepth 100000 in
set_option maxHeartbeats 4000000 in
theorem cM_shift {l : Launch} {E : EE} {b : Nat → Nat} {n : Nat} {ids : Nat → Int32} {par : Nat → Option Nat} {cols : Nat → Int32} {rd : Nat} {nx : Nat → Int32} {isin : Nat → Bool} {wi wo : Nat → Nat} {wf : Nat → Option Nat}  (hI : inj 9 b)(hn : n ≤ 24)(hp : PW n par)(hrd : rd < 100000) : WR l E (MP E b n ids par cols rd nx isin wi wo wf) (AM b) yX1_shift cX1_shift 3 (some .int) 2 43 [.ref (b 0)] (some (.int (nI (shCnt par (mcol cols rd) n)))) (MP E b n ids par ((mshS par n (cols, nx, rd)).1) ((mshS par n (cols, nx, rd)).2.2) ((mshS par n (cols, nx, rd)).2.1) isin wi wo wf) := by
  refine WR.mkI (C := RX1) rfl rfl (by decide) rfl (Nat.le_of_ble_eq_true rfl) ?_
  intro p e s m args below meth c H0 Q hC hK hP hret ls hl
  obtain ⟨hx, hb, hml, hown, hts⟩ := id hC
  have hl : lv_has ls 3 [(0, .ref (b 0))] := hl
  have hS : va_S (AM b) H0 H0 [] := va_S.rf
  have hP : MP E b n ids par cols rd nx isin wi wo wf H0 := hP
  refine lv_iconst (v := (nI (0))) hx hb dX1_shift_0 (by decide) ?_
  refine lv_istore_n (lv' := [(1, .int (nI (0))), (0, .ref (b 0))]) hx hb dX1_shift_1 rfl hl (by decide) rfl (fun ls hl => ?_)
  refine lv_iconst (v := (nI (0))) hx hb dX1_shift_2 (by decide) ?_
  refine lv_istore_n (lv' := [(2, .int (nI (0))), (1, .int (nI (0))), (0, .ref (b 0))]) hx hb dX1_shift_3 rfl hl (by decide) rfl (fun ls hl => ?_)
  have loop_4 : ∀ (fuel : Nat) (k : Nat), (k ≤ n) → n - k < fuel → ∀ (H : Heap) (locs : List Loc), MP E b n ids par cols rd (pF nx (shc par (mcol cols rd)) k) isin wi wo wf H → va_S (AM b) H0 H locs → ∀ (ls : Array Slot), lv_has ls 3 [(0, .ref (b 0)), (1, .int (nI (fb_ct (fun j => !decide (shc par (mcol cols rd) j = mcol cols rd j)) k))), (2, .int (nI (k)))] → W p l e (k2_rm 2 43) s m args below meth c H locs 0 0 Q (F0 m 4 ls []) := by
    intro fuel
    induction fuel with
    | zero => intro k hk hm; exact absurd hm (Nat.not_lt_zero _)
    | succ fuel ih_4 =>
      intro k hk hm H locs hP hS ls hl
      refine lv_iload_n hx hb dX1_shift_4 rfl (lv_at hl 2 rfl) ?_
      refine lv_aload_n hx hb dX1_shift_5 rfl (lv_at hl 0 rfl) ?_
      refine m_g0 hC hK hP dX1_shift_6 ?_
      refine nv_ge (tgt := 83) hx hb (by omega) (by omega) dX1_shift_9 (by decide) (fun c_9 => ?_) (fun c_9 => ?_)
      · have hkn : k = n := by omega
        rw [hkn] at hP
        refine lv_aload_n hx hb dX1_shift_83 rfl (lv_at hl 0 rfl) ?_
        refine wrV (As := []) hC kX1_95 (cM_ends  hI hn hrd) hK hP (m_rec hK hP) hS (fun _ h => h) rfl rfl hl ⟨Nat.le_of_ble_eq_true rfl, Nat.le_of_ble_eq_true rfl⟩ (Nat.le_of_ble_eq_true rfl) dX1_shift_84 ⟨Nat.le_of_ble_eq_true rfl, Nat.le_of_ble_eq_true rfl⟩ (fun H locs hP hS _ _ => ?_)
        refine lv_iload_n hx hb dX1_shift_87 rfl (lv_at hl 1 rfl) ?_
        exact hret _ _ _ _ _ (hP) hS dX1_shift_88 (by rw [hkn]; rfl)
      · refine lv_aload_n hx hb dX1_shift_12 rfl (lv_at hl 0 rfl) ?_
        refine m_g5 hC hK hP dX1_shift_13 ?_
        refine lv_iload_n hx hb dX1_shift_16 rfl (lv_at hl 2 rfl) ?_
        refine lv_aload_n hx hb dX1_shift_17 rfl (lv_at hl 0 rfl) ?_
        refine m_g2 hC hK hP dX1_shift_18 ?_
        refine lv_iload_n hx hb dX1_shift_21 rfl (lv_at hl 2 rfl) ?_
        refine m_ld2 hx hb hK hP (by omega) dX1_shift_22 ?_
        refine lv_bipush (v := (-7)) hx hb dX1_shift_23 (by decide) ?_
        refine pv_ne7 (tgt := 44) hx hb (hp.big hn (by omega)) dX1_shift_25 (by decide) (fun c_25 => ?_) (fun c_25 => ?_)
        · obtain ⟨u, hu⟩ := ex_some c_25
          have hun := hp.lt (v := k) (by omega) hu
          refine lv_aload_n hx hb dX1_shift_44 rfl (lv_at hl 0 rfl) ?_
          refine lv_aload_n hx hb dX1_shift_45 rfl (lv_at hl 0 rfl) ?_
          refine m_g2 hC hK hP dX1_shift_46 ?_
          refine lv_iload_n hx hb dX1_shift_49 rfl (lv_at hl 2 rfl) ?_
          refine m_ld2 hx hb hK hP (by omega) dX1_shift_50 ?_
          refine tI ((nI (u))) (by rw [hu]; rfl) ?_
          refine roV (As := [.int (nI (u))]) hC kX1_46 (cM_col u (by omega) (by omega)) hK hP (m_rec hK hP) rfl rfl hl ⟨Nat.le_of_ble_eq_true rfl, Nat.le_of_ble_eq_true rfl⟩ (Nat.le_of_ble_eq_true rfl) dX1_shift_51 ⟨Nat.le_of_ble_eq_true rfl, Nat.le_of_ble_eq_true rfl⟩ ?_
          refine tI ((shc par (mcol cols rd) k)) (by simp [shc, hu]) ?_
          refine m_st4 (x := (shc par (mcol cols rd) k)) hx hb hK hI hP hS (by omega) dX1_shift_54 (fun H locs hP hS => ?_)
          have hP : MP E b n ids par cols rd (pF nx (shc par (mcol cols rd)) (k + 1)) isin wi wo wf H := by rw [pF_s] at hP; exact hP
          refine lv_iload_n hx hb dX1_shift_55 rfl (lv_at hl 1 rfl) ?_
          refine lv_aload_n hx hb dX1_shift_56 rfl (lv_at hl 0 rfl) ?_
          refine m_g5 hC hK hP dX1_shift_57 ?_
          refine lv_iload_n hx hb dX1_shift_60 rfl (lv_at hl 2 rfl) ?_
          refine m_ld4 hx hb hK hP (by omega) dX1_shift_61 ?_
          refine tI ((shc par (mcol cols rd) k)) (pF_at _ _ _) ?_
          refine lv_aload_n hx hb dX1_shift_62 rfl (lv_at hl 0 rfl) ?_
          refine lv_iload_n hx hb dX1_shift_63 rfl (lv_at hl 2 rfl) ?_
          refine roV (As := [.int (nI (k))]) hC kX1_46 (cM_col k (by omega) (by omega)) hK hP (m_rec hK hP) rfl rfl hl ⟨Nat.le_of_ble_eq_true rfl, Nat.le_of_ble_eq_true rfl⟩ (Nat.le_of_ble_eq_true rfl) dX1_shift_64 ⟨Nat.le_of_ble_eq_true rfl, Nat.le_of_ble_eq_true rfl⟩ ?_
          refine lv_icmp_ne (tgt := 74) hx hb dX1_shift_67 (by decide) (fun c_67 => ?_) (fun c_67 => ?_)
          · refine lv_iconst (v := (nI (1))) hx hb dX1_shift_74 (by decide) ?_
            refine lv_iadd hx hb dX1_shift_75 ?_
            refine tI (nI ((fb_ct (fun j => !decide (shc par (mcol cols rd) j = mcol cols rd j)) k) + 1)) (nI_add _ _) ?_
            refine tI ((nI (fb_ct (fun j => !decide (shc par (mcol cols rd) j = mcol cols rd j)) (k + 1)))) (by rw [fb_ct_t (by simp [c_67])]) ?_
            refine lv_istore_n (lv' := [(1, .int (nI (fb_ct (fun j => !decide (shc par (mcol cols rd) j = mcol cols rd j)) (k + 1)))), (0, .ref (b 0)), (2, .int (nI (k)))]) hx hb dX1_shift_76 rfl hl (by decide) rfl (fun ls hl => ?_)
            refine lv_iinc (v := (nI (k + 1))) (lv' := [(2, .int (nI (k + 1))), (1, .int (nI (fb_ct (fun j => !decide (shc par (mcol cols rd) j = mcol cols rd j)) (k + 1)))), (0, .ref (b 0))]) hx hb dX1_shift_77 hl (k := 2) rfl (nI_inc _) (by decide) rfl (fun ls hl => ?_)
            refine lv_goto (tgt := 4) hx hb dX1_shift_80 (by decide) ?_
            exact ih_4 (k + 1) (by omega) (by omega) _ _ (hP) hS ls (lv_sub hl [2, 1, 0] rfl)
          · refine lv_iconst (v := (nI (0))) hx hb dX1_shift_70 (by decide) ?_
            refine lv_goto (tgt := 75) hx hb dX1_shift_71 (by decide) ?_
            refine lv_iadd hx hb dX1_shift_75 ?_
            refine tI (nI ((fb_ct (fun j => !decide (shc par (mcol cols rd) j = mcol cols rd j)) k) + 0)) (nI_add _ _) ?_
            refine tI ((nI (fb_ct (fun j => !decide (shc par (mcol cols rd) j = mcol cols rd j)) (k + 1)))) (by rw [fb_ct_f (by simp [c_67])]; rfl) ?_
            refine lv_istore_n (lv' := [(1, .int (nI (fb_ct (fun j => !decide (shc par (mcol cols rd) j = mcol cols rd j)) (k + 1)))), (0, .ref (b 0)), (2, .int (nI (k)))]) hx hb dX1_shift_76 rfl hl (by decide) rfl (fun ls hl => ?_)
            refine lv_iinc (v := (nI (k + 1))) (lv' := [(2, .int (nI (k + 1))), (1, .int (nI (fb_ct (fun j => !decide (shc par (mcol cols rd) j = mcol cols rd j)) (k + 1)))), (0, .ref (b 0))]) hx hb dX1_shift_77 hl (k := 2) rfl (nI_inc _) (by decide) rfl (fun ls hl => ?_)
            refine lv_goto (tgt := 4) hx hb dX1_shift_80 (by decide) ?_
            exact ih_4 (k + 1) (by omega) (by omega) _ _ (hP) hS ls (lv_sub hl [2, 1, 0] rfl)
        · refine lv_aload_n hx hb dX1_shift_28 rfl (lv_at hl 0 rfl) ?_
          refine lv_iload_n hx hb dX1_shift_29 rfl (lv_at hl 2 rfl) ?_
          refine roV (As := [.int (nI (k))]) hC kX1_46 (cM_col k (by omega) (by omega)) hK hP (m_rec hK hP) rfl rfl hl ⟨Nat.le_of_ble_eq_true rfl, Nat.le_of_ble_eq_true rfl⟩ (Nat.le_of_ble_eq_true rfl) dX1_shift_30 ⟨Nat.le_of_ble_eq_true rfl, Nat.le_of_ble_eq_true rfl⟩ ?_
          refine lv_if_ne (tgt := 40) hx hb dX1_shift_33 (by decide) (fun c_33 => ?_) (fun c_33 => ?_)
          · refine lv_iconst (v := (0)) hx hb dX1_shift_40 (by decide) ?_
            refine tI ((shc par (mcol cols rd) k)) (by simp [shc, c_25, c_33]) ?_
            refine lv_goto (tgt := 54) hx hb dX1_shift_41 (by decide) ?_
            refine m_st4 (x := (shc par (mcol cols rd) k)) hx hb hK hI hP hS (by omega) dX1_shift_54 (fun H locs hP hS => ?_)
            have hP : MP E b n ids par cols rd (pF nx (shc par (mcol cols rd)) (k + 1)) isin wi wo wf H := by rw [pF_s] at hP; exact hP
            refine lv_iload_n hx hb dX1_shift_55 rfl (lv_at hl 1 rfl) ?_
            refine lv_aload_n hx hb dX1_shift_56 rfl (lv_at hl 0 rfl) ?_
            refine m_g5 hC hK hP dX1_shift_57 ?_
            refine lv_iload_n hx hb dX1_shift_60 rfl (lv_at hl 2 rfl) ?_
            refine m_ld4 hx hb hK hP (by omega) dX1_shift_61 ?_
            refine tI ((shc par (mcol cols rd) k)) (pF_at _ _ _) ?_
            refine lv_aload_n hx hb dX1_shift_62 rfl (lv_at hl 0 rfl) ?_
            refine lv_iload_n hx hb dX1_shift_63 rfl (lv_at hl 2 rfl) ?_
            refine roV (As := [.int (nI (k))]) hC kX1_46 (cM_col k (by omega) (by omega)) hK hP (m_rec hK hP) rfl rfl hl ⟨Nat.le_of_ble_eq_true rfl, Nat.le_of_ble_eq_true rfl⟩ (Nat.le_of_ble_eq_true rfl) dX1_shift_64 ⟨Nat.le_of_ble_eq_true rfl, Nat.le_of_ble_eq_true rfl⟩ ?_
            refine lv_icmp_ne (tgt := 74) hx hb dX1_shift_67 (by decide) (fun c_67 => ?_) (fun c_67 => ?_)
            · refine lv_iconst (v := (nI (1))) hx hb dX1_shift_74 (by decide) ?_
              refine lv_iadd hx hb dX1_shift_75 ?_
              refine tI (nI ((fb_ct (fun j => !decide (shc par (mcol cols rd) j = mcol cols rd j)) k) + 1)) (nI_add _ _) ?_
              refine tI ((nI (fb_ct (fun j => !decide (shc par (mcol cols rd) j = mcol cols rd j)) (k + 1)))) (by rw [fb_ct_t (by simp [c_67])]) ?_
              refine lv_istore_n (lv' := [(1, .int (nI (fb_ct (fun j => !decide (shc par (mcol cols rd) j = mcol cols rd j)) (k + 1)))), (0, .ref (b 0)), (2, .int (nI (k)))]) hx hb dX1_shift_76 rfl hl (by decide) rfl (fun ls hl => ?_)
              refine lv_iinc (v := (nI (k + 1))) (lv' := [(2, .int (nI (k + 1))), (1, .int (nI (fb_ct (fun j => !decide (shc par (mcol cols rd) j = mcol cols rd j)) (k + 1)))), (0, .ref (b 0))]) hx hb dX1_shift_77 hl (k := 2) rfl (nI_inc _) (by decide) rfl (fun ls hl => ?_)
              refine lv_goto (tgt := 4) hx hb dX1_shift_80 (by decide) ?_
              exact ih_4 (k + 1) (by omega) (by omega) _ _ (hP) hS ls (lv_sub hl [2, 1, 0] rfl)
            · refine lv_iconst (v := (nI (0))) hx hb dX1_shift_70 (by decide) ?_
              refine lv_goto (tgt := 75) hx hb dX1_shift_71 (by decide) ?_
              refine lv_iadd hx hb dX1_shift_75 ?_
              refine tI (nI ((fb_ct (fun j => !decide (shc par (mcol cols rd) j = mcol cols rd j)) k) + 0)) (nI_add _ _) ?_
              refine tI ((nI (fb_ct (fun j => !decide (shc par (mcol cols rd) j = mcol cols rd j)) (k + 1)))) (by rw [fb_ct_f (by simp [c_67])]; rfl) ?_
              refine lv_istore_n (lv' := [(1, .int (nI (fb_ct (fun j => !decide (shc par (mcol cols rd) j = mcol cols rd j)) (k + 1)))), (0, .ref (b 0)), (2, .int (nI (k)))]) hx hb dX1_shift_76 rfl hl (by decide) rfl (fun ls hl => ?_)
              refine lv_iinc (v := (nI (k + 1))) (lv' := [(2, .int (nI (k + 1))), (1, .int (nI (fb_ct (fun j => !decide (shc par (mcol cols rd) j = mcol cols rd j)) (k + 1)))), (0, .ref (b 0))]) hx hb dX1_shift_77 hl (k := 2) rfl (nI_inc _) (by decide) rfl (fun ls hl => ?_)
              refine lv_goto (tgt := 4) hx hb dX1_shift_80 (by decide) ?_
              exact ih_4 (k + 1) (by omega) (by omega) _ _ (hP) hS ls (lv_sub hl [2, 1, 0] rfl)
          · refine lv_iconst (v := (1)) hx hb dX1_shift_36 (by decide) ?_
            refine tI ((shc par (mcol cols rd) k)) (by simp [shc, c_25, c_33]) ?_
            refine lv_goto (tgt := 54) hx hb dX1_shift_37 (by decide) ?_
            refine m_st4 (x := (shc par (mcol cols rd) k)) hx hb hK hI hP hS (by omega) dX1_shift_54 (fun H locs hP hS => ?_)
            have hP : MP E b n ids par cols rd (pF nx (shc par (mcol cols rd)) (k + 1)) isin wi wo wf H := by rw [pF_s] at hP; exact hP
            refine lv_iload_n hx hb dX1_shift_55 rfl (lv_at hl 1 rfl) ?_
            refine lv_aload_n hx hb dX1_shift_56 rfl (lv_at hl 0 rfl) ?_
            refine m_g5 hC hK hP dX1_shift_57 ?_
            refine lv_iload_n hx hb dX1_shift_60 rfl (lv_at hl 2 rfl) ?_
            refine m_ld4 hx hb hK hP (by omega) dX1_shift_61 ?_
            refine tI ((shc par (mcol cols rd) k)) (pF_at _ _ _) ?_
            refine lv_aload_n hx hb dX1_shift_62 rfl (lv_at hl 0 rfl) ?_
            refine lv_iload_n hx hb dX1_shift_63 rfl (lv_at hl 2 rfl) ?_
            refine roV (As := [.int (nI (k))]) hC kX1_46 (cM_col k (by omega) (by omega)) hK hP (m_rec hK hP) rfl rfl hl ⟨Nat.le_of_ble_eq_true rfl, Nat.le_of_ble_eq_true rfl⟩ (Nat.le_of_ble_eq_true rfl) dX1_shift_64 ⟨Nat.le_of_ble_eq_true rfl, Nat.le_of_ble_eq_true rfl⟩ ?_
            refine lv_icmp_ne (tgt := 74) hx hb dX1_shift_67 (by decide) (fun c_67 => ?_) (fun c_67 => ?_)
            · refine lv_iconst (v := (nI (1))) hx hb dX1_shift_74 (by decide) ?_
              refine lv_iadd hx hb dX1_shift_75 ?_
              refine tI (nI ((fb_ct (fun j => !decide (shc par (mcol cols rd) j = mcol cols rd j)) k) + 1)) (nI_add _ _) ?_
              refine tI ((nI (fb_ct (fun j => !decide (shc par (mcol cols rd) j = mcol cols rd j)) (k + 1)))) (by rw [fb_ct_t (by simp [c_67])]) ?_
              refine lv_istore_n (lv' := [(1, .int (nI (fb_ct (fun j => !decide (shc par (mcol cols rd) j = mcol cols rd j)) (k + 1)))), (0, .ref (b 0)), (2, .int (nI (k)))]) hx hb dX1_shift_76 rfl hl (by decide) rfl (fun ls hl => ?_)
              refine lv_iinc (v := (nI (k + 1))) (lv' := [(2, .int (nI (k + 1))), (1, .int (nI (fb_ct (fun j => !decide (shc par (mcol cols rd) j = mcol cols rd j)) (k + 1)))), (0, .ref (b 0))]) hx hb dX1_shift_77 hl (k := 2) rfl (nI_inc _) (by decide) rfl (fun ls hl => ?_)
              refine lv_goto (tgt := 4) hx hb dX1_shift_80 (by decide) ?_
              exact ih_4 (k + 1) (by omega) (by omega) _ _ (hP) hS ls (lv_sub hl [2, 1, 0] rfl)
            · refine lv_iconst (v := (nI (0))) hx hb dX1_shift_70 (by decide) ?_
              refine lv_goto (tgt := 75) hx hb dX1_shift_71 (by decide) ?_
              refine lv_iadd hx hb dX1_shift_75 ?_
              refine tI (nI ((fb_ct (fun j => !decide (shc par (mcol cols rd) j = mcol cols rd j)) k) + 0)) (nI_add _ _) ?_
              refine tI ((nI (fb_ct (fun j => !decide (shc par (mcol cols rd) j = mcol cols rd j)) (k + 1)))) (by rw [fb_ct_f (by simp [c_67])]; rfl) ?_
              refine lv_istore_n (lv' := [(1, .int (nI (fb_ct (fun j => !decide (shc par (mcol cols rd) j = mcol cols rd j)) (k + 1)))), (0, .ref (b 0)), (2, .int (nI (k)))]) hx hb dX1_shift_76 rfl hl (by decide) rfl (fun ls hl => ?_)
              refine lv_iinc (v := (nI (k + 1))) (lv' := [(2, .int (nI (k + 1))), (1, .int (nI (fb_ct (fun j => !decide (shc par (mcol cols rd) j = mcol cols rd j)) (k + 1)))), (0, .ref (b 0))]) hx hb dX1_shift_77 hl (k := 2) rfl (nI_inc _) (by decide) rfl (fun ls hl => ?_)
              refine lv_goto (tgt := 4) hx hb dX1_shift_80 (by decide) ?_
              exact ih_4 (k + 1) (by omega) (by omega) _ _ (hP) hS ls (lv_sub hl [2, 1, 0] rfl)
  exact loop_4 (n - 0 + 1) 0 (Nat.zero_le _) (Nat.lt_succ_self _) _ _ (by rw [pF_0]; exact hP) hS ls (lv_sub hl [2, 1, 0] rfl)
set_option maxRecDepth 100000 in
set_option maxHeartbeats 4000000 in
theorem cM_freeOf {l : Launch} {E : EE} {b : Nat → Nat} {n : Nat} {ids : Nat → Int32} {par : Nat → Option Nat} {cols : Nat → Int32} {rd : Nat} {nx : Nat → Int32} {isin : Nat → Bool} {wi wo : Nat → Nat} {wf : Nat → Option Nat} (v : Nat) (hn : n ≤ 24)(hp : PW n par)(hv : v < n)(hrd : rd < 100000) : RO l E (MP E b n ids par cols rd nx isin wi wo wf) yX1_freeOf cX1_freeOf 3 (some .int) 2 45 [.ref (b 0), .int (nI (v))] (pe (freF par (mcol cols rd) n v 3)) := by
  refine RO.mk (C := RX1) rfl rfl (by decide) rfl (Nat.le_of_ble_eq_true rfl) ?_
  intro p e s m args below meth c H Q hC hK hP hret ls hl
  obtain ⟨hx, hb, hml, hown, hts⟩ := id hC
  have hl : lv_has ls 3 [(0, .ref (b 0)), (1, .int (nI (v)))] := hl
  refine lv_iconst (v := (nI (0))) hx hb dX1_freeOf_0 (by decide) ?_
  refine lv_istore_n (lv' := [(2, .int (nI (0))), (0, .ref (b 0)), (1, .int (nI (v)))]) hx hb dX1_freeOf_1 rfl hl (by decide) rfl (fun ls hl => ?_)
  have loop_2 : ∀ (fuel : Nat) (k : Nat), (k ≤ 3) → (∀ j, j < k → (!bes par (mcol cols rd) n v (nI j)) = false) → 3 - k < fuel → ∀ (ls : Array Slot), lv_has ls 3 [(0, .ref (b 0)), (1, .int (nI (v))), (2, .int (nI (k)))] → W p l e (k2_rm 2 45) s m args below meth c H [] 0 0 Q (F0 m 2 ls []) := by
    intro fuel
    induction fuel with
    | zero => intro k hk hno hm; exact absurd hm (Nat.not_lt_zero _)
    | succ fuel ih_2 =>
      intro k hk hno hm ls hl
      refine lv_iload_n hx hb dX1_freeOf_2 rfl (lv_at hl 2 rfl) ?_
      refine lv_iconst (v := (nI (3))) hx hb dX1_freeOf_3 (by decide) ?_
      refine nv_ge (tgt := 24) hx hb (by omega) (by omega) dX1_freeOf_4 (by decide) (fun c_4 => ?_) (fun c_4 => ?_)
      · refine lv_bipush (v := (-7)) hx hb dX1_freeOf_24 (by decide) ?_
        exact hret _ _ _ dX1_freeOf_26 (by rw [freF, fst_none (fun j hj => hno j (by omega))]; rfl)
      · refine lv_aload_n hx hb dX1_freeOf_7 rfl (lv_at hl 0 rfl) ?_
        refine lv_iload_n hx hb dX1_freeOf_8 rfl (lv_at hl 1 rfl) ?_
        refine lv_iload_n hx hb dX1_freeOf_9 rfl (lv_at hl 2 rfl) ?_
        refine roV (As := [.int (nI (v)), .int (nI (k))]) hC kX1_79 (cM_beside v ((nI (k))) hn hp (by omega) hrd) hK hP (m_rec hK hP) rfl rfl hl ⟨Nat.le_of_ble_eq_true rfl, Nat.le_of_ble_eq_true rfl⟩ (Nat.le_of_ble_eq_true rfl) dX1_freeOf_10 ⟨Nat.le_of_ble_eq_true rfl, Nat.le_of_ble_eq_true rfl⟩ ?_
        refine bv_ne (tgt := 18) hx hb dX1_freeOf_13 (by decide) (fun c_13 => ?_) (fun c_13 => ?_)
        · refine lv_iinc (v := (nI (k + 1))) (lv' := [(2, .int (nI (k + 1))), (0, .ref (b 0)), (1, .int (nI (v)))]) hx hb dX1_freeOf_18 hl (k := 2) rfl (nI_inc _) (by decide) rfl (fun ls hl => ?_)
          refine lv_goto (tgt := 2) hx hb dX1_freeOf_21 (by decide) ?_
          exact ih_2 (k + 1) (by omega) (lt_s hno (by rw [c_13]; rfl)) (by omega) ls (lv_sub hl [1, 2, 0] rfl)
        · refine lv_iload_n hx hb dX1_freeOf_16 rfl (lv_at hl 2 rfl) ?_
          exact hret _ _ _ dX1_freeOf_17 (by rw [freF, fst_some (k := k) (by omega) (by rw [c_13]; rfl) hno]; rfl)
  exact loop_2 (3 - 0 + 1) 0 (Nat.zero_le _) (lt_0) (Nat.lt_succ_self _) ls (lv_sub hl [1, 2, 0] rfl)
set_option maxRecDepth 100000 in
set_option maxHeartbeats 4000000 in
theorem cM_eliminates {l : Launch} {E : EE} {b : Nat → Nat} {n : Nat} {ids : Nat → Int32} {par : Nat → Option Nat} {cols : Nat → Int32} {rd : Nat} {nx : Nat → Int32} {isin : Nat → Bool} {wi wo : Nat → Nat} {wf : Nat → Option Nat} (c0 : Int32) (hI : inj 9 b)(hn : n ≤ 24)(hp : PW n par)(hrd : rd < 100000)(hcn : ∀ v, v < n → ¬ mcol cols rd v = -7) : WR l E (MP E b n ids par cols rd nx isin wi wo wf) (AM b) yX1_eliminates cX1_eliminates 5 (some .int) 3 67 [.ref (b 0), .int (c0)] (some (.int (elRes par n c0 (mcol cols rd)))) (MP E b n ids par ((melS par n c0 (cols, nx, rd)).1) ((melS par n c0 (cols, nx, rd)).2.2) ((melS par n c0 (cols, nx, rd)).2.1) isin wi wo wf) := by
  refine WR.mkI (C := RX1) rfl rfl (by decide) rfl (Nat.le_of_ble_eq_true rfl) ?_
  intro p e s m args below meth c H0 Q hC hK hP hret ls hl
  obtain ⟨hx, hb, hml, hown, hts⟩ := id hC
  have hl : lv_has ls 5 [(0, .ref (b 0)), (1, .int (c0))] := hl
  have hS : va_S (AM b) H0 H0 [] := va_S.rf
  have hP : MP E b n ids par cols rd nx isin wi wo wf H0 := hP
  refine lv_iconst (v := (nI (0))) hx hb dX1_eliminates_0 (by decide) ?_
  refine lv_istore_n (lv' := [(2, .int (nI (0))), (0, .ref (b 0)), (1, .int (c0))]) hx hb dX1_eliminates_1 rfl hl (by decide) rfl (fun ls hl => ?_)
  refine lv_iconst (v := (nI (0))) hx hb dX1_eliminates_2 (by decide) ?_
  refine lv_istore_n (lv' := [(3, .int (nI (0))), (2, .int (nI (0))), (0, .ref (b 0)), (1, .int (c0))]) hx hb dX1_eliminates_3 rfl hl (by decide) rfl (fun ls hl => ?_)
  have loop_4 : ∀ (fuel : Nat) (k : Nat), (k ≤ n) → (∀ j, j < k → (decide (mcol cols rd j = c0) && (freF par (mcol cols rd) n j 3).isNone) = false) → n - k < fuel → ∀ (H : Heap) (locs : List Loc), MP E b n ids par cols rd (pF nx (elC par n (mcol cols rd) c0) k) isin wi wo wf H → va_S (AM b) H0 H locs → ∀ (ls : Array Slot), lv_has ls 5 [(0, .ref (b 0)), (1, .int (c0)), (2, .int (nI (fb_ct (fun j => decide (mcol cols rd j = c0)) k))), (3, .int (nI (k)))] → W p l e (k2_rm 3 67) s m args below meth c H locs 0 0 Q (F0 m 4 ls []) := by
    intro fuel
    induction fuel with
    | zero => intro k hk hno hm; exact absurd hm (Nat.not_lt_zero _)
    | succ fuel ih_4 =>
      intro k hk hno hm H locs hP hS ls hl
      refine lv_iload_n hx hb dX1_eliminates_4 rfl (lv_at hl 3 rfl) ?_
      refine lv_aload_n hx hb dX1_eliminates_5 rfl (lv_at hl 0 rfl) ?_
      refine m_g0 hC hK hP dX1_eliminates_6 ?_
      refine nv_ge (tgt := 85) hx hb (by omega) (by omega) dX1_eliminates_9 (by decide) (fun c_9 => ?_) (fun c_9 => ?_)
      · have hkn : k = n := by omega
        rw [hkn] at hP hno
        have hel : elK par n (mcol cols rd) c0 = none := fst_none hno
        refine lv_aload_n hx hb dX1_eliminates_85 rfl (lv_at hl 0 rfl) ?_
        refine wrV (As := []) hC kX1_95 (cM_ends  hI hn hrd) hK hP (m_rec hK hP) hS (fun _ h => h) rfl rfl hl ⟨Nat.le_of_ble_eq_true rfl, Nat.le_of_ble_eq_true rfl⟩ (Nat.le_of_ble_eq_true rfl) dX1_eliminates_86 ⟨Nat.le_of_ble_eq_true rfl, Nat.le_of_ble_eq_true rfl⟩ (fun H locs hP hS _ _ => ?_)
        refine lv_iload_n hx hb dX1_eliminates_89 rfl (lv_at hl 2 rfl) ?_
        exact hret _ _ _ _ _ (by rw [melS_n hel]; exact hP) hS dX1_eliminates_90 (by rw [elRes, hel, hkn])
      · have join_28 : ∀ (H : Heap) (locs : List Loc), MP E b n ids par cols rd (pF nx (elC par n (mcol cols rd) c0) k) isin wi wo wf H → va_S (AM b) H0 H locs → ∀ (ls : Array Slot), lv_has ls 5 [(0, .ref (b 0)), (1, .int (c0)), (2, .int (nI (fb_ct (fun j => decide (mcol cols rd j = c0)) k))), (3, .int (nI (k))), (4, .int (b2i (decide (mcol cols rd k = c0))))] → W p l e (k2_rm 3 67) s m args below meth c H locs 0 0 Q (F0 m 28 ls []) := by
          intro   H locs hP hS ls hl
          refine lv_aload_n hx hb dX1_eliminates_28 rfl (lv_at hl 0 rfl) ?_
          refine m_g5 hC hK hP dX1_eliminates_29 ?_
          refine lv_iload_n hx hb dX1_eliminates_32 rfl (lv_at hl 3 rfl) ?_
          refine lv_iload hx hb dX1_eliminates_33 (lv_at hl 4 rfl) ?_
          refine bv_eq (tgt := 46) hx hb dX1_eliminates_35 (by decide) (fun c_35 => ?_) (fun c_35 => ?_)
          · refine lv_aload_n hx hb dX1_eliminates_46 rfl (lv_at hl 0 rfl) ?_
            refine lv_iload_n hx hb dX1_eliminates_47 rfl (lv_at hl 3 rfl) ?_
            refine roV (As := [.int (nI (k))]) hC kX1_46 (cM_col k (by omega) (by omega)) hK hP (m_rec hK hP) rfl rfl hl ⟨Nat.le_of_ble_eq_true rfl, Nat.le_of_ble_eq_true rfl⟩ (Nat.le_of_ble_eq_true rfl) dX1_eliminates_48 ⟨Nat.le_of_ble_eq_true rfl, Nat.le_of_ble_eq_true rfl⟩ ?_
            refine tI ((elC par n (mcol cols rd) c0 k)) (by rw [elC, if_neg (by simpa using c_35)]) ?_
            refine m_st4 (x := (elC par n (mcol cols rd) c0 k)) hx hb hK hI hP hS (by omega) dX1_eliminates_51 (fun H locs hP hS => ?_)
            have hP : MP E b n ids par cols rd (pF nx (elC par n (mcol cols rd) c0) (k + 1)) isin wi wo wf H := by rw [pF_s] at hP; exact hP
            refine lv_iload_n hx hb dX1_eliminates_52 rfl (lv_at hl 2 rfl) ?_
            refine lv_iload hx hb dX1_eliminates_53 (lv_at hl 4 rfl) ?_
            refine bv_eq (tgt := 62) hx hb dX1_eliminates_55 (by decide) (fun c_55 => ?_) (fun c_55 => ?_)
            · refine lv_iconst (v := (nI (0))) hx hb dX1_eliminates_62 (by decide) ?_
              refine lv_iadd hx hb dX1_eliminates_63 ?_
              refine tI (nI ((fb_ct (fun j => decide (mcol cols rd j = c0)) k) + 0)) (nI_add _ _) ?_
              refine tI ((nI (fb_ct (fun j => decide (mcol cols rd j = c0)) (k + 1)))) (by rw [fb_ct_f c_55]; rfl) ?_
              refine lv_istore_n (lv' := [(2, .int (nI (fb_ct (fun j => decide (mcol cols rd j = c0)) (k + 1)))), (0, .ref (b 0)), (1, .int (c0)), (3, .int (nI (k))), (4, .int (b2i (decide (mcol cols rd k = c0))))]) hx hb dX1_eliminates_64 rfl hl (by decide) rfl (fun ls hl => ?_)
              refine lv_aload_n hx hb dX1_eliminates_65 rfl (lv_at hl 1 rfl) ?_
              refine m_g5 hC hK hP dX1_eliminates_66 ?_
              refine lv_iload_n hx hb dX1_eliminates_69 rfl (lv_at hl 3 rfl) ?_
              refine m_ld4 hx hb hK hP (by omega) dX1_eliminates_70 ?_
              refine tI ((mcol cols rd k)) (by rw [pF_at, elC, if_neg (by simpa using c_35)]) ?_
              refine lv_bipush (v := (-7)) hx hb dX1_eliminates_71 (by decide) ?_
              refine lv_icmp_ne (tgt := 79) hx hb dX1_eliminates_73 (by decide) (fun c_73 => ?_) (fun c_73 => ?_)
              · refine lv_iinc (v := (nI (k + 1))) (lv' := [(3, .int (nI (k + 1))), (2, .int (nI (fb_ct (fun j => decide (mcol cols rd j = c0)) (k + 1)))), (0, .ref (b 0)), (1, .int (c0)), (4, .int (b2i (decide (mcol cols rd k = c0))))]) hx hb dX1_eliminates_79 hl (k := 3) rfl (nI_inc _) (by decide) rfl (fun ls hl => ?_)
                refine lv_goto (tgt := 4) hx hb dX1_eliminates_82 (by decide) ?_
                exact ih_4 (k + 1) (by omega) (lt_s hno (by simp at c_35; simp [c_35])) (by omega) _ _ (hP) hS ls (lv_sub hl [2, 3, 1, 0] rfl)
              · exact absurd c_73 (hcn k (by omega))
            · exact absurd (c_35.symm.trans c_55) (by decide)
          · refine lv_aload_n hx hb dX1_eliminates_38 rfl (lv_at hl 0 rfl) ?_
            refine lv_iload_n hx hb dX1_eliminates_39 rfl (lv_at hl 3 rfl) ?_
            refine roV (As := [.int (nI (k))]) hC kX1_101 (cM_freeOf k hn hp (by omega) hrd) hK hP (m_rec hK hP) rfl rfl hl ⟨Nat.le_of_ble_eq_true rfl, Nat.le_of_ble_eq_true rfl⟩ (Nat.le_of_ble_eq_true rfl) dX1_eliminates_40 ⟨Nat.le_of_ble_eq_true rfl, Nat.le_of_ble_eq_true rfl⟩ ?_
            refine tI ((elC par n (mcol cols rd) c0 k)) (by rw [elC, if_pos (by simpa using c_35)]) ?_
            refine lv_goto (tgt := 51) hx hb dX1_eliminates_43 (by decide) ?_
            refine m_st4 (x := (elC par n (mcol cols rd) c0 k)) hx hb hK hI hP hS (by omega) dX1_eliminates_51 (fun H locs hP hS => ?_)
            have hP : MP E b n ids par cols rd (pF nx (elC par n (mcol cols rd) c0) (k + 1)) isin wi wo wf H := by rw [pF_s] at hP; exact hP
            refine lv_iload_n hx hb dX1_eliminates_52 rfl (lv_at hl 2 rfl) ?_
            refine lv_iload hx hb dX1_eliminates_53 (lv_at hl 4 rfl) ?_
            refine bv_eq (tgt := 62) hx hb dX1_eliminates_55 (by decide) (fun c_55 => ?_) (fun c_55 => ?_)
            · exact absurd (c_35.symm.trans c_55) (by decide)
            · refine lv_iconst (v := (nI (1))) hx hb dX1_eliminates_58 (by decide) ?_
              refine lv_goto (tgt := 63) hx hb dX1_eliminates_59 (by decide) ?_
              refine lv_iadd hx hb dX1_eliminates_63 ?_
              refine tI (nI ((fb_ct (fun j => decide (mcol cols rd j = c0)) k) + 1)) (nI_add _ _) ?_
              refine tI ((nI (fb_ct (fun j => decide (mcol cols rd j = c0)) (k + 1)))) (by rw [fb_ct_t c_55]) ?_
              refine lv_istore_n (lv' := [(2, .int (nI (fb_ct (fun j => decide (mcol cols rd j = c0)) (k + 1)))), (0, .ref (b 0)), (1, .int (c0)), (3, .int (nI (k))), (4, .int (b2i (decide (mcol cols rd k = c0))))]) hx hb dX1_eliminates_64 rfl hl (by decide) rfl (fun ls hl => ?_)
              refine lv_aload_n hx hb dX1_eliminates_65 rfl (lv_at hl 1 rfl) ?_
              refine m_g5 hC hK hP dX1_eliminates_66 ?_
              refine lv_iload_n hx hb dX1_eliminates_69 rfl (lv_at hl 3 rfl) ?_
              refine m_ld4 hx hb hK hP (by omega) dX1_eliminates_70 ?_
              refine tI ((pe (freF par (mcol cols rd) n k 3))) (by rw [pF_at, elC, if_pos (by simpa using c_35)]) ?_
              refine lv_bipush (v := (-7)) hx hb dX1_eliminates_71 (by decide) ?_
              refine pv_ne7 (tgt := 79) hx hb (fre_lt (by omega)) dX1_eliminates_73 (by decide) (fun c_73 => ?_) (fun c_73 => ?_)
              · have hfr : (freF par (mcol cols rd) n k 3).isNone = false := by cases h : freF par (mcol cols rd) n k 3 with | none => exact absurd h c_73 | some q => rfl
                refine lv_iinc (v := (nI (k + 1))) (lv' := [(3, .int (nI (k + 1))), (2, .int (nI (fb_ct (fun j => decide (mcol cols rd j = c0)) (k + 1)))), (0, .ref (b 0)), (1, .int (c0)), (4, .int (b2i (decide (mcol cols rd k = c0))))]) hx hb dX1_eliminates_79 hl (k := 3) rfl (nI_inc _) (by decide) rfl (fun ls hl => ?_)
                refine lv_goto (tgt := 4) hx hb dX1_eliminates_82 (by decide) ?_
                exact ih_4 (k + 1) (by omega) (lt_s hno (by simp [hfr])) (by omega) _ _ (hP) hS ls (lv_sub hl [2, 3, 1, 0] rfl)
              · have hel : elK par n (mcol cols rd) c0 = some k := fst_some (by omega) (by simp [c_35, c_73]) hno
                refine lv_bipush (v := (-6)) hx hb dX1_eliminates_76 (by decide) ?_
                exact hret _ _ _ _ _ (by rw [melS_s hel]; exact hP) hS dX1_eliminates_78 (by rw [elRes, hel])
        refine lv_aload_n hx hb dX1_eliminates_12 rfl (lv_at hl 0 rfl) ?_
        refine lv_iload_n hx hb dX1_eliminates_13 rfl (lv_at hl 3 rfl) ?_
        refine roV (As := [.int (nI (k))]) hC kX1_46 (cM_col k (by omega) (by omega)) hK hP (m_rec hK hP) rfl rfl hl ⟨Nat.le_of_ble_eq_true rfl, Nat.le_of_ble_eq_true rfl⟩ (Nat.le_of_ble_eq_true rfl) dX1_eliminates_14 ⟨Nat.le_of_ble_eq_true rfl, Nat.le_of_ble_eq_true rfl⟩ ?_
        refine lv_iload_n hx hb dX1_eliminates_17 rfl (lv_at hl 1 rfl) ?_
        refine lv_icmp_ne (tgt := 25) hx hb dX1_eliminates_18 (by decide) (fun c_18 => ?_) (fun c_18 => ?_)
        · refine lv_iconst (v := (b2i (false))) hx hb dX1_eliminates_25 (by decide) ?_
          refine tI ((b2i (decide (mcol cols rd k = c0)))) (by rw [decide_eq_false c_18]) ?_
          refine lv_istore (lv' := [(4, .int (b2i (decide (mcol cols rd k = c0)))), (0, .ref (b 0)), (1, .int (c0)), (2, .int (nI (fb_ct (fun j => decide (mcol cols rd j = c0)) k))), (3, .int (nI (k)))]) hx hb dX1_eliminates_26 hl (by decide) rfl (fun ls hl => ?_)
          exact join_28   _ _ (hP) hS ls (lv_sub hl [1, 2, 3, 4, 0] rfl)
        · refine lv_iconst (v := (b2i (true))) hx hb dX1_eliminates_21 (by decide) ?_
          refine tI ((b2i (decide (mcol cols rd k = c0)))) (by rw [decide_eq_true c_18]) ?_
          refine lv_goto (tgt := 26) hx hb dX1_eliminates_22 (by decide) ?_
          refine lv_istore (lv' := [(4, .int (b2i (decide (mcol cols rd k = c0)))), (0, .ref (b 0)), (1, .int (c0)), (2, .int (nI (fb_ct (fun j => decide (mcol cols rd j = c0)) k))), (3, .int (nI (k)))]) hx hb dX1_eliminates_26 hl (by decide) rfl (fun ls hl => ?_)
          exact join_28   _ _ (hP) hS ls (lv_sub hl [1, 2, 3, 4, 0] rfl)
  exact loop_4 (n - 0 + 1) 0 (Nat.zero_le _) (lt_0) (Nat.lt_succ_self _) _ _ (by rw [pF_0]; exact hP) hS ls (lv_sub hl [2, 3, 1, 0] rfl)
set_option maxRecDepth 100000 in
set_option maxHeartbeats 4000000 in
theorem cM_eliminate {l : Launch} {E : EE} {b : Nat → Nat} {n : Nat} {ids : Nat → Int32} {par : Nat → Option Nat} {cols : Nat → Int32} {rd : Nat} {nx : Nat → Int32} {isin : Nat → Bool} {wi wo : Nat → Nat} {wf : Nat → Option Nat} (y : Int32) (hI : inj 9 b)(hn : n ≤ 24)(hp : PW n par)(hrd : rd < 100000)(hcn : ∀ v, v < n → ¬ mcol cols rd v = -7) : WR l E (MP E b n ids par cols rd nx isin wi wo wf) (AM b) yX1_eliminate cX1_eliminate 2 (some .int) 4 91 [.ref (b 0), .int (y)] (some (.int (if y < 3 ∨ vV y = false then -2 else if propB n par (mcol cols rd) = false then -5 else elRes par n y (mcol cols rd)))) (MP E b n ids par (if okEL n par (mcol cols rd) y = true then (melS par n y (cols, nx, rd)).1 else cols) (if okEL n par (mcol cols rd) y = true then (melS par n y (cols, nx, rd)).2.2 else rd) (if okEL n par (mcol cols rd) y = true then (melS par n y (cols, nx, rd)).2.1 else nx) isin wi wo wf) := by
  refine WR.mkI (C := RX1) rfl rfl (by decide) rfl (Nat.le_of_ble_eq_true rfl) ?_
  intro p e s m args below meth c H0 Q hC hK hP hret ls hl
  obtain ⟨hx, hb, hml, hown, hts⟩ := id hC
  have hl : lv_has ls 2 [(0, .ref (b 0)), (1, .int (y))] := hl
  have hS : va_S (AM b) H0 H0 [] := va_S.rf
  have hP : MP E b n ids par cols rd nx isin wi wo wf H0 := hP
  refine lv_iload_n hx hb dX1_eliminate_0 rfl (lv_at hl 1 rfl) ?_
  refine lv_iconst (v := (3)) hx hb dX1_eliminate_1 (by decide) ?_
  refine lv_ldc (v := 65535) hx hb hown (hts _ qX1_50) dX1_eliminate_2 ?_
  refine roS (As := [.int (y), .int (3), .int (65535)]) hC kX1_39 (cM_within ((y)) ((3)) ((65535)) ) hK (P := fun _ => True) trivial rfl rfl hl ⟨Nat.le_of_ble_eq_true rfl, Nat.le_of_ble_eq_true rfl⟩ (Nat.le_of_ble_eq_true rfl) dX1_eliminate_4 ⟨Nat.le_of_ble_eq_true rfl, Nat.le_of_ble_eq_true rfl⟩ ?_
  refine tI ((b2i (!decide (y < 3) && vV y))) (by rw [wi_el]) ?_
  refine bv_ne (tgt := 13) hx hb dX1_eliminate_7 (by decide) (fun c_7 => ?_) (fun c_7 => ?_)
  · refine lv_aload_n hx hb dX1_eliminate_13 rfl (lv_at hl 0 rfl) ?_
    refine roV (As := []) hC kX1_89 (cM_conflicts  hn hp hrd) hK hP (m_rec hK hP) rfl rfl hl ⟨Nat.le_of_ble_eq_true rfl, Nat.le_of_ble_eq_true rfl⟩ (Nat.le_of_ble_eq_true rfl) dX1_eliminate_14 ⟨Nat.le_of_ble_eq_true rfl, Nat.le_of_ble_eq_true rfl⟩ ?_
    refine lv_if_le (tgt := 25) hx hb dX1_eliminate_17 (by decide) (fun c_17 => ?_) (fun c_17 => ?_)
    · rw [prop_0 hn] at c_17
      refine lv_aload_n hx hb dX1_eliminate_25 rfl (lv_at hl 0 rfl) ?_
      refine lv_iload_n hx hb dX1_eliminate_26 rfl (lv_at hl 1 rfl) ?_
      refine wrV (As := [.int (y)]) hC kX1_104 (cM_eliminates ((y)) hI hn hp hrd hcn) hK hP (m_rec hK hP) hS (fun _ h => h) rfl rfl hl ⟨Nat.le_of_ble_eq_true rfl, Nat.le_of_ble_eq_true rfl⟩ (Nat.le_of_ble_eq_true rfl) dX1_eliminate_27 ⟨Nat.le_of_ble_eq_true rfl, Nat.le_of_ble_eq_true rfl⟩ (fun H locs hP hS _ _ => ?_)
      exact hret _ _ _ _ _ (by rw [if_pos (el_yes c_7 c_17), if_pos (el_yes c_7 c_17), if_pos (el_yes c_7 c_17)]; exact hP) hS dX1_eliminate_30 (by rw [if_neg (el_nor c_7), if_neg (by rw [c_17]; simp)])
    · rw [prop_0 hn] at c_17
      refine lv_bipush (v := (-5)) hx hb dX1_eliminate_20 (by decide) ?_
      refine lv_goto (tgt := 30) hx hb dX1_eliminate_22 (by decide) ?_
      exact hret _ _ _ _ _ (by rw [if_neg (el_np c_17), if_neg (el_np c_17), if_neg (el_np c_17)]; exact hP) hS dX1_eliminate_30 (by rw [if_neg (el_nor c_7), if_pos (by simpa using c_17)])
  · refine lv_bipush (v := (-2)) hx hb dX1_eliminate_10 (by decide) ?_
    exact hret _ _ _ _ _ (by rw [if_neg (by rw [el_no c_7]; simp), if_neg (by rw [el_no c_7]; simp), if_neg (by rw [el_no c_7]; simp)]; exact hP) hS dX1_eliminate_12 (by rw [if_pos (el_or c_7)])
set_option maxRecDepth 100000 in
set_option maxHeartbeats 4000000 in
theorem cM_rt3 {l : Launch} {E : EE} {b : Nat → Nat} {n : Nat} {ids : Nat → Int32} {par : Nat → Option Nat} {cols : Nat → Int32} {rd : Nat} {nx : Nat → Int32} {isin : Nat → Bool} {wi wo : Nat → Nat} {wf : Nat → Option Nat}  (hI : inj 9 b)(hn : n ≤ 24)(hp : PW n par)(hrd : rd < 90000)(hT : propB n par (mcol cols rd) = true → ∀ k, 5 < mxF (mcol (mredI par n (cols, nx, rd) k).1 (mredI par n (cols, nx, rd) k).2.2) n → k < 16 ∧ propB n par (mcol (mredI par n (cols, nx, rd) k).1 (mredI par n (cols, nx, rd) k).2.2) = true) (hE : propB n par (mcol cols rd) = true → ∀ j, j < 3 → ∀ v, v < n → ¬ mcol (mshS par n (mtailS par n j (mredL par n 16 (cols, nx, rd)))).1 (mshS par n (mtailS par n j (mredL par n 16 (cols, nx, rd)))).2.2 v = -7) : WR l E (MP E b n ids par cols rd nx isin wi wo wf) (AM b) yX1_reduceToThree cX1_reduceToThree 3 (some .int) 4 91 [.ref (b 0)] (some (.int (if propB n par (mcol cols rd) = true then nI ((mrt3S par n (cols, nx, rd)).2.2 - rd) else -5))) (MP E b n ids par (if propB n par (mcol cols rd) = true then (mrt3S par n (cols, nx, rd)).1 else cols) (if propB n par (mcol cols rd) = true then (mrt3S par n (cols, nx, rd)).2.2 else rd) (if propB n par (mcol cols rd) = true then (mrt3S par n (cols, nx, rd)).2.1 else nx) isin wi wo wf) := by
  refine WR.mkI (C := RX1) rfl rfl (by decide) rfl (Nat.le_of_ble_eq_true rfl) ?_
  intro p e s m args below meth c H0 Q hC hK hP hret ls hl
  obtain ⟨hx, hb, hml, hown, hts⟩ := id hC
  have hl : lv_has ls 3 [(0, .ref (b 0))] := hl
  have hS : va_S (AM b) H0 H0 [] := va_S.rf
  have hP : MP E b n ids par cols rd nx isin wi wo wf H0 := hP
  refine lv_aload_n hx hb dX1_reduceToThree_0 rfl (lv_at hl 0 rfl) ?_
  refine roV (As := []) hC kX1_89 (cM_conflicts  hn hp (by omega)) hK hP (m_rec hK hP) rfl rfl hl ⟨Nat.le_of_ble_eq_true rfl, Nat.le_of_ble_eq_true rfl⟩ (Nat.le_of_ble_eq_true rfl) dX1_reduceToThree_1 ⟨Nat.le_of_ble_eq_true rfl, Nat.le_of_ble_eq_true rfl⟩ ?_
  refine lv_if_le (tgt := 10) hx hb dX1_reduceToThree_4 (by decide) (fun c_4 => ?_) (fun c_4 => ?_)
  · rw [prop_0 hn] at c_4
    refine lv_aload_n hx hb dX1_reduceToThree_10 rfl (lv_at hl 0 rfl) ?_
    refine m_g4 hC hK hP dX1_reduceToThree_11 ?_
    refine lv_istore_n (lv' := [(1, .int (nI (rd))), (0, .ref (b 0))]) hx hb dX1_reduceToThree_14 rfl hl (by decide) rfl (fun ls hl => ?_)
    have loop_15 : ∀ (fuel : Nat) (k : Nat), (k ≤ 16) → (mredL par n (16 - k) (mredI par n (cols, nx, rd) k) = mredL par n 16 (cols, nx, rd)) → 16 - k < fuel → ∀ (H : Heap) (locs : List Loc), MP E b n ids par ((mredI par n (cols, nx, rd) k).1) ((mredI par n (cols, nx, rd) k).2.2) ((mredI par n (cols, nx, rd) k).2.1) isin wi wo wf H → va_S (AM b) H0 H locs → ∀ (ls : Array Slot), lv_has ls 3 [(0, .ref (b 0)), (1, .int (nI (rd)))] → W p l e (k2_rm 4 91) s m args below meth c H locs 0 0 Q (F0 m 15 ls []) := by
      intro fuel
      induction fuel with
      | zero => intro k hk hml hm; exact absurd hm (Nat.not_lt_zero _)
      | succ fuel ih_15 =>
        intro k hk hml hm H locs hP hS ls hl
        have hir := mredI_rd (par := par) (n := n) (S := (cols, nx, rd)) k
        simp only at hir
        refine lv_aload_n hx hb dX1_reduceToThree_15 rfl (lv_at hl 0 rfl) ?_
        refine roV (As := []) hC kX1_82 (cM_greatest  hn (by omega)) hK hP (m_rec hK hP) rfl rfl hl ⟨Nat.le_of_ble_eq_true rfl, Nat.le_of_ble_eq_true rfl⟩ (Nat.le_of_ble_eq_true rfl) dX1_reduceToThree_16 ⟨Nat.le_of_ble_eq_true rfl, Nat.le_of_ble_eq_true rfl⟩ ?_
        refine lv_iconst (v := (5)) hx hb dX1_reduceToThree_19 (by decide) ?_
        refine lv_icmp_le (tgt := 30) hx hb dX1_reduceToThree_20 (by decide) (fun c_20 => ?_) (fun c_20 => ?_)
        · rw [← mredL_f (f := 16 - k) (par := par) (Int32.not_lt.mpr c_20), hml] at hP
          have hlr := mredL_rd (par := par) (n := n) 16 (cols, nx, rd)
          simp only at hlr
          refine lv_iconst (v := (nI (5))) hx hb dX1_reduceToThree_30 (by decide) ?_
          refine lv_istore_n (lv' := [(2, .int (nI (5))), (0, .ref (b 0)), (1, .int (nI (rd)))]) hx hb dX1_reduceToThree_31 rfl hl (by decide) rfl (fun ls hl => ?_)
          have loop_32 : ∀ (fuel : Nat) (j : Nat), (j ≤ 3) → 3 - j < fuel → ∀ (H : Heap) (locs : List Loc), MP E b n ids par ((mtailS par n j (mredL par n 16 (cols, nx, rd))).1) ((mtailS par n j (mredL par n 16 (cols, nx, rd))).2.2) ((mtailS par n j (mredL par n 16 (cols, nx, rd))).2.1) isin wi wo wf H → va_S (AM b) H0 H locs → ∀ (ls : Array Slot), lv_has ls 3 [(0, .ref (b 0)), (1, .int (nI (rd))), (2, .int (nI (5 - j)))] → W p l e (k2_rm 4 91) s m args below meth c H locs 0 0 Q (F0 m 32 ls []) := by
            intro fuel
            induction fuel with
            | zero => intro j hj hm; exact absurd hm (Nat.not_lt_zero _)
            | succ fuel ih_32 =>
              intro j hj hm H locs hP hS ls hl
              have htr := mtailS_rd (par := par) (n := n) (S := mredL par n 16 (cols, nx, rd)) j
              refine lv_iload_n hx hb dX1_reduceToThree_32 rfl (lv_at hl 2 rfl) ?_
              refine lv_iconst (v := (nI (2))) hx hb dX1_reduceToThree_33 (by decide) ?_
              refine nv_le (tgt := 54) hx hb (by omega) (by omega) dX1_reduceToThree_34 (by decide) (fun c_34 => ?_) (fun c_34 => ?_)
              · have hj3 : j = 3 := by omega
                rw [hj3] at hP htr
                refine lv_aload_n hx hb dX1_reduceToThree_54 rfl (lv_at hl 0 rfl) ?_
                refine m_g4 hC hK hP dX1_reduceToThree_55 ?_
                refine lv_iload_n hx hb dX1_reduceToThree_58 rfl (lv_at hl 1 rfl) ?_
                refine lv_isub hx hb dX1_reduceToThree_59 ?_
                refine tI ((nI ((mtailS par n 3 (mredL par n 16 (cols, nx, rd))).2.2 - rd))) (pk_sub (by omega)) ?_
                exact hret _ _ _ _ _ (by rw [if_pos c_4, if_pos c_4, if_pos c_4]; exact hP) hS dX1_reduceToThree_60 (by rw [if_pos c_4]; rfl)
              · refine lv_aload_n hx hb dX1_reduceToThree_37 rfl (lv_at hl 0 rfl) ?_
                refine wrV (As := []) hC kX1_107 (cM_shift  hI hn hp (by omega)) hK hP (m_rec hK hP) hS (fun _ h => h) rfl rfl hl ⟨Nat.le_of_ble_eq_true rfl, Nat.le_of_ble_eq_true rfl⟩ (Nat.le_of_ble_eq_true rfl) dX1_reduceToThree_38 ⟨Nat.le_of_ble_eq_true rfl, Nat.le_of_ble_eq_true rfl⟩ (fun H locs hP hS _ _ => ?_)
                refine lv_pop hx hb dX1_reduceToThree_41 rfl ?_
                refine lv_aload_n hx hb dX1_reduceToThree_42 rfl (lv_at hl 0 rfl) ?_
                refine lv_iload_n hx hb dX1_reduceToThree_43 rfl (lv_at hl 2 rfl) ?_
                refine wrV (As := [.int (nI (5 - j))]) hC kX1_104 (cM_eliminates ((nI (5 - j))) hI hn hp (show (mtailS par n j (mredL par n 16 (cols, nx, rd))).2.2 + 1 < 100000 by omega) (hE c_4 j (by omega))) hK hP (m_rec hK hP) hS (fun _ h => h) rfl rfl hl ⟨Nat.le_of_ble_eq_true rfl, Nat.le_of_ble_eq_true rfl⟩ (Nat.le_of_ble_eq_true rfl) dX1_reduceToThree_44 ⟨Nat.le_of_ble_eq_true rfl, Nat.le_of_ble_eq_true rfl⟩ (fun H locs hP hS _ _ => ?_)
                refine lv_pop hx hb dX1_reduceToThree_47 rfl ?_
                refine lv_iinc (v := (nI (5 - (j + 1)))) (lv' := [(2, .int (nI (5 - (j + 1)))), (0, .ref (b 0)), (1, .int (nI (rd)))]) hx hb dX1_reduceToThree_48 hl (k := 2) rfl (m1_5 (by omega)) (by decide) rfl (fun ls hl => ?_)
                refine lv_goto (tgt := 32) hx hb dX1_reduceToThree_51 (by decide) ?_
                exact ih_32 (j + 1) (by omega) (by omega) _ _ (hP) hS ls (lv_sub hl [1, 2, 0] rfl)
          exact loop_32 (3 - 0 + 1) 0 (Nat.zero_le _) (Nat.lt_succ_self _) _ _ (hP) hS ls (lv_sub hl [1, 2, 0] rfl)
        · have hgt := Int32.not_le.mp c_20
          obtain ⟨hk16, hpk⟩ := hT c_4 k hgt
          refine lv_aload_n hx hb dX1_reduceToThree_23 rfl (lv_at hl 0 rfl) ?_
          refine wrV (As := []) hC kX1_98 (cM_reduces  hI hn hp (by omega) hpk) hK hP (m_rec hK hP) hS (fun _ h => h) rfl rfl hl ⟨Nat.le_of_ble_eq_true rfl, Nat.le_of_ble_eq_true rfl⟩ (Nat.le_of_ble_eq_true rfl) dX1_reduceToThree_24 ⟨Nat.le_of_ble_eq_true rfl, Nat.le_of_ble_eq_true rfl⟩ (fun H locs hP hS _ _ => ?_)
          refine lv_goto (tgt := 15) hx hb dX1_reduceToThree_27 (by decide) ?_
          exact ih_15 (k + 1) (by omega) (by rw [← hml, show 16 - k = (16 - (k + 1)) + 1 by omega, mredL_t hgt]; rfl) (by omega) _ _ (hP) hS ls (lv_sub hl [0, 1] rfl)
    exact loop_15 (16 - 0 + 1) 0 (Nat.zero_le _) (rfl) (Nat.lt_succ_self _) _ _ (hP) hS ls (lv_sub hl [1, 0] rfl)
  · rw [prop_0 hn] at c_4
    refine lv_bipush (v := (-5)) hx hb dX1_reduceToThree_7 (by decide) ?_
    exact hret _ _ _ _ _ (by rw [if_neg c_4, if_neg c_4, if_neg c_4]; exact hP) hS dX1_reduceToThree_9 (by rw [if_neg c_4])
set_option maxRecDepth 100000 in
set_option maxHeartbeats 4000000 in
theorem cM_roundCount {l : Launch} {E : EE} {b : Nat → Nat} {n : Nat} {ids : Nat → Int32} {par : Nat → Option Nat} {cols : Nat → Int32} {rd : Nat} {nx : Nat → Int32} {isin : Nat → Bool} {wi wo : Nat → Nat} {wf : Nat → Option Nat}   : RO l E (MP E b n ids par cols rd nx isin wi wo wf) yX1_roundCount cX1_roundCount 1 (some .int) 0 0 [.ref (b 0)] (nI (rd)) := by
  refine RO.mk (C := RX1) rfl rfl (by decide) rfl (Nat.le_of_ble_eq_true rfl) ?_
  intro p e s m args below meth c H Q hC hK hP hret ls hl
  obtain ⟨hx, hb, hml, hown, hts⟩ := id hC
  have hl : lv_has ls 1 [(0, .ref (b 0))] := hl
  refine lv_aload_n hx hb dX1_roundCount_0 rfl (lv_at hl 0 rfl) ?_
  refine m_g4 hC hK hP dX1_roundCount_1 ?_
  exact hret _ _ _ dX1_roundCount_4 (by first | rfl | omega | simp_all)
set_option maxRecDepth 100000 in
set_option maxHeartbeats 4000000 in
theorem cM_past {l : Launch} {E : EE} {b : Nat → Nat} {n : Nat} {ids : Nat → Int32} {par : Nat → Option Nat} {cols : Nat → Int32} {rd : Nat} {nx : Nat → Int32} {isin : Nat → Bool} {wi wo : Nat → Nat} {wf : Nat → Option Nat} (x r : Int32) (hn : n ≤ 24)(hrd : rd < 100000) : RO l E (MP E b n ids par cols rd nx isin wi wo wf) yX1_pastColour cX1_pastColour 3 (some .int) 2 43 [.ref (b 0), .int (x), .int (r)] (oN (vN n x) (fun v => mpast cols rd r v)) := by
  refine RO.mk (C := RX1) rfl rfl (by decide) rfl (Nat.le_of_ble_eq_true rfl) ?_
  intro p e s m args below meth c H Q hC hK hP hret ls hl
  obtain ⟨hx, hb, hml, hown, hts⟩ := id hC
  have hl : lv_has ls 3 [(0, .ref (b 0)), (1, .int (x)), (2, .int (r))] := hl
  refine lv_aload_n hx hb dX1_pastColour_0 rfl (lv_at hl 0 rfl) ?_
  refine lv_iload_n hx hb dX1_pastColour_1 rfl (lv_at hl 1 rfl) ?_
  refine roV (As := [.int (x)]) hC kX1_58 (cM_isNode ((x)) hn) hK hP (m_rec hK hP) rfl rfl hl ⟨Nat.le_of_ble_eq_true rfl, Nat.le_of_ble_eq_true rfl⟩ (Nat.le_of_ble_eq_true rfl) dX1_pastColour_2 ⟨Nat.le_of_ble_eq_true rfl, Nat.le_of_ble_eq_true rfl⟩ ?_
  refine bv_ne (tgt := 10) hx hb dX1_pastColour_5 (by decide) (fun c_5 => ?_) (fun c_5 => ?_)
  · obtain ⟨v, hv, rfl⟩ := vN_t hn c_5
    refine lv_iload_n hx hb dX1_pastColour_10 rfl (lv_at hl 2 rfl) ?_
    refine lv_iconst (v := (0)) hx hb dX1_pastColour_11 (by decide) ?_
    refine lv_bipush (v := (16)) hx hb dX1_pastColour_12 (by decide) ?_
    refine roS (As := [.int (r), .int (0), .int (16)]) hC kX1_39 (cM_within ((r)) ((0)) ((16)) ) hK (P := fun _ => True) trivial rfl rfl hl ⟨Nat.le_of_ble_eq_true rfl, Nat.le_of_ble_eq_true rfl⟩ (Nat.le_of_ble_eq_true rfl) dX1_pastColour_14 ⟨Nat.le_of_ble_eq_true rfl, Nat.le_of_ble_eq_true rfl⟩ ?_
    refine bv_ne (tgt := 23) hx hb dX1_pastColour_17 (by decide) (fun c_17 => ?_) (fun c_17 => ?_)
    · obtain ⟨q, hq, rfl⟩ := wi_16 c_17
      have hpf : ∀ z : Nat, mpast cols rd (nI q) z = if nI rd < nI q then -7 else mcol cols (rd - (nI q).toNatClampNeg) z := fun z => if_neg (by rw [c_17]; simp)
      refine lv_iload_n hx hb dX1_pastColour_23 rfl (lv_at hl 2 rfl) ?_
      refine lv_aload_n hx hb dX1_pastColour_24 rfl (lv_at hl 0 rfl) ?_
      refine m_g4 hC hK hP dX1_pastColour_25 ?_
      refine nv_le (tgt := 36) hx hb (by omega) (by omega) dX1_pastColour_28 (by decide) (fun c_28 => ?_) (fun c_28 => ?_)
      · refine lv_aload_n hx hb dX1_pastColour_36 rfl (lv_at hl 0 rfl) ?_
        refine m_g3 hC hK hP dX1_pastColour_37 ?_
        refine lv_bipush (v := (nI (24))) hx hb dX1_pastColour_40 (by decide) ?_
        refine lv_aload_n hx hb dX1_pastColour_42 rfl (lv_at hl 0 rfl) ?_
        refine m_g4 hC hK hP dX1_pastColour_43 ?_
        refine lv_iload_n hx hb dX1_pastColour_46 rfl (lv_at hl 2 rfl) ?_
        refine lv_isub hx hb dX1_pastColour_47 ?_
        refine tI ((nI (rd - q))) (pk_sub c_28) ?_
        refine lv_bipush (v := (nI (17))) hx hb dX1_pastColour_48 (by decide) ?_
        refine lv_irem hx hb dX1_pastColour_50 (by decide) ?_
        refine tI ((nI ((rd - q) % 17))) (pk_rem (by omega) (by omega) (by omega)) ?_
        refine lv_imul hx hb dX1_pastColour_51 ?_
        refine tI (nI (24 * ((rd - q) % 17))) (pk_mul _ _) ?_
        refine lv_iload_n hx hb dX1_pastColour_52 rfl (lv_at hl 1 rfl) ?_
        refine lv_iadd hx hb dX1_pastColour_53 ?_
        refine tI (nI ((24 * ((rd - q) % 17)) + v)) (nI_add _ _) ?_
        refine m_ld3 hx hb hK hP (by omega) dX1_pastColour_54 ?_
        exact hret _ _ _ dX1_pastColour_55 (by rw [oN_in hn hv, hpf, if_neg (nI_nlt c_28 (by omega)), nI_clamp (by omega), mcol_lt (by omega)])
      · refine lv_bipush (v := (-7)) hx hb dX1_pastColour_31 (by decide) ?_
        refine lv_goto (tgt := 55) hx hb dX1_pastColour_33 (by decide) ?_
        exact hret _ _ _ dX1_pastColour_55 (by rw [oN_in hn hv, hpf, if_pos (nI_lt c_28 (by omega))])
    · refine lv_bipush (v := (-2)) hx hb dX1_pastColour_20 (by decide) ?_
      exact hret _ _ _ dX1_pastColour_22 (by rw [oN_in hn hv, mpast, if_pos c_17])
  · refine lv_iconst (v := (-1)) hx hb dX1_pastColour_8 (by decide) ?_
    exact hret _ _ _ dX1_pastColour_9 ((oN_out c_5 _).symm)
