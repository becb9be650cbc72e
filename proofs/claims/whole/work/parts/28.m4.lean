-- the reference: trees and cycles (laid by wip/whole/gen/spec_m4.py)
set_option maxRecDepth 100000 in
set_option maxHeartbeats 4000000 in
theorem cM_greater {l : Launch} {E : EE}  (x y : Int32)  : RO l E ((fun _ => True)) yX1_greater cX1_greater 2 (some .int) 0 0 [.int (x), .int (y)] (gr32 x y) := by
  refine RO.mk (C := RX1) rfl rfl (by decide) rfl (Nat.le_of_ble_eq_true rfl) ?_
  intro p e s m args below meth c H Q hC hK hP hret ls hl
  obtain ⟨hx, hb, hml, hown, hts⟩ := id hC
  have hl : lv_has ls 2 [(0, .int (x)), (1, .int (y))] := hl
  refine lv_iload_n hx hb dX1_greater_0 rfl (lv_at hl 0 rfl) ?_
  refine lv_iload_n hx hb dX1_greater_1 rfl (lv_at hl 1 rfl) ?_
  refine lv_icmp_le (tgt := 9) hx hb dX1_greater_2 (by decide) (fun c_2 => ?_) (fun c_2 => ?_)
  · refine lv_iload_n hx hb dX1_greater_9 rfl (lv_at hl 1 rfl) ?_
    exact hret _ _ _ dX1_greater_10 (by rw [gr32, if_pos c_2])
  · refine lv_iload_n hx hb dX1_greater_5 rfl (lv_at hl 0 rfl) ?_
    refine lv_goto (tgt := 10) hx hb dX1_greater_6 (by decide) ?_
    exact hret _ _ _ dX1_greater_10 (by rw [gr32, if_neg c_2])
set_option maxRecDepth 100000 in
set_option maxHeartbeats 4000000 in
theorem cM_trees {l : Launch} {E : EE} {b : Nat → Nat} {n : Nat} {ids : Nat → Int32} {par : Nat → Option Nat} {cols : Nat → Int32} {rd : Nat} {nx : Nat → Int32} {isin : Nat → Bool} {wi wo : Nat → Nat} {wf : Nat → Option Nat}  (hI : inj 9 b)(hn : n ≤ 24)(hp : PW n par) : WR l E (MP E b n ids par cols rd nx isin wi wo wf) (AM b) yX1_takesTrees cX1_takesTrees 3 none 1 21 [.ref (b 0)] none (MP E b n ids par cols rd nx isin ((ttF par n wi wo wf).1) ((ttF par n wi wo wf).2.1) ((ttF par n wi wo wf).2.2)) := by
  refine WR.mkV (C := RX1) rfl (by decide) rfl (Nat.le_of_ble_eq_true rfl) ?_
  intro p e s m args below meth c H0 Q hC hK hP hret ls hl
  obtain ⟨hx, hb, hml, hown, hts⟩ := id hC
  have hl : lv_has ls 3 [(0, .ref (b 0))] := hl
  have hS : va_S (AM b) H0 H0 [] := va_S.rf
  have hP : MP E b n ids par cols rd nx isin wi wo wf H0 := hP
  refine lv_iconst (v := (nI (0))) hx hb dX1_takesTrees_0 (by decide) ?_
  refine lv_istore_n (lv' := [(1, .int (nI (0))), (0, .ref (b 0))]) hx hb dX1_takesTrees_1 rfl hl (by decide) rfl (fun ls hl => ?_)
  have loop_2 : ∀ (fuel : Nat) (k : Nat), (k ≤ n) → n - k < fuel → ∀ (H : Heap) (locs : List Loc), MP E b n ids par cols rd nx isin (ifF 1 wi k) (ifF 0 wo k) (ifF (some 0) wf k) H → va_S (AM b) H0 H locs → ∀ (ls : Array Slot), lv_has ls 3 [(0, .ref (b 0)), (1, .int (nI (k)))] → W p l e (k2_rm 1 21) s m args below meth c H locs 0 0 Q (F0 m 2 ls []) := by
    intro fuel
    induction fuel with
    | zero => intro k hk hm; exact absurd hm (Nat.not_lt_zero _)
    | succ fuel ih_2 =>
      intro k hk hm H locs hP hS ls hl
      refine lv_iload_n hx hb dX1_takesTrees_2 rfl (lv_at hl 1 rfl) ?_
      refine lv_aload_n hx hb dX1_takesTrees_3 rfl (lv_at hl 0 rfl) ?_
      refine m_g0 hC hK hP dX1_takesTrees_4 ?_
      refine nv_ge (tgt := 37) hx hb (by omega) (by omega) dX1_takesTrees_7 (by decide) (fun c_7 => ?_) (fun c_7 => ?_)
      · have hkn : k = n := by omega
        rw [hkn, ifF_w par] at hP
        refine lv_iconst (v := (nI (0))) hx hb dX1_takesTrees_37 (by decide) ?_
        refine lv_istore_n (lv' := [(1, .int (nI (0))), (0, .ref (b 0))]) hx hb dX1_takesTrees_38 rfl hl (by decide) rfl (fun ls hl => ?_)
        have loop_39 : ∀ (fuel : Nat) (k : Nat), (k ≤ n) → n - k < fuel → ∀ (H : Heap) (locs : List Loc), MP E b n ids par cols rd nx isin (ifF 1 wi n) (ifF 0 wo n) (ttW par n wf k) H → va_S (AM b) H0 H locs → ∀ (ls : Array Slot), lv_has ls 3 [(0, .ref (b 0)), (1, .int (nI (k)))] → W p l e (k2_rm 1 21) s m args below meth c H locs 0 0 Q (F0 m 39 ls []) := by
          intro fuel
          induction fuel with
          | zero => intro k hk hm; exact absurd hm (Nat.not_lt_zero _)
          | succ fuel ih_39 =>
            intro k hk hm H locs hP hS ls hl
            refine lv_iload_n hx hb dX1_takesTrees_39 rfl (lv_at hl 1 rfl) ?_
            refine lv_aload_n hx hb dX1_takesTrees_40 rfl (lv_at hl 0 rfl) ?_
            refine m_g0 hC hK hP dX1_takesTrees_41 ?_
            refine nv_ge (tgt := 79) hx hb (by omega) (by omega) dX1_takesTrees_44 (by decide) (fun c_44 => ?_) (fun c_44 => ?_)
            · have hkn : k = n := by omega
              rw [hkn] at hP
              have hT0 := tt0_inv hp wi wo wf
              refine lv_iconst (v := (nI (0))) hx hb dX1_takesTrees_79 (by decide) ?_
              refine lv_istore_n (lv' := [(1, .int (nI (0))), (0, .ref (b 0))]) hx hb dX1_takesTrees_80 rfl hl (by decide) rfl (fun ls hl => ?_)
              have loop_81 : ∀ (fuel : Nat) (k : Nat), (k ≤ n) → (TInv n par (trnS par n k (ttS0 par n wi wo wf))) → n - k < fuel → ∀ (H : Heap) (locs : List Loc), MP E b n ids par cols rd nx isin ((trnS par n k (ttS0 par n wi wo wf)).1) ((trnS par n k (ttS0 par n wi wo wf)).2.1) ((trnS par n k (ttS0 par n wi wo wf)).2.2) H → va_S (AM b) H0 H locs → ∀ (ls : Array Slot), lv_has ls 3 [(0, .ref (b 0)), (1, .int (nI (k)))] → W p l e (k2_rm 1 21) s m args below meth c H locs 0 0 Q (F0 m 81 ls []) := by
                intro fuel
                induction fuel with
                | zero => intro k hk hT hm; exact absurd hm (Nat.not_lt_zero _)
                | succ fuel ih_81 =>
                  intro k hk hT hm H locs hP hS ls hl
                  refine lv_iload_n hx hb dX1_takesTrees_81 rfl (lv_at hl 1 rfl) ?_
                  refine lv_aload_n hx hb dX1_takesTrees_82 rfl (lv_at hl 0 rfl) ?_
                  refine m_g0 hC hK hP dX1_takesTrees_83 ?_
                  refine nv_ge (tgt := 203) hx hb (by omega) (by omega) dX1_takesTrees_86 (by decide) (fun c_86 => ?_) (fun c_86 => ?_)
                  · exact hret _ _ _ _ (by rw [show k = n by omega] at hP; exact hP) hS dX1_takesTrees_203
                  · refine lv_iconst (v := (nI (0))) hx hb dX1_takesTrees_89 (by decide) ?_
                    refine lv_istore_n (lv' := [(2, .int (nI (0))), (0, .ref (b 0)), (1, .int (nI (k)))]) hx hb dX1_takesTrees_90 rfl hl (by decide) rfl (fun ls hl => ?_)
                    have loop_91 : ∀ (fuel : Nat) (j : Nat), (j ≤ n) → (TInv n par (rowS par j (trnS par n k (ttS0 par n wi wo wf)))) → n - j < fuel → ∀ (H : Heap) (locs : List Loc), MP E b n ids par cols rd nx isin ((rowS par j (trnS par n k (ttS0 par n wi wo wf))).1) ((rowS par j (trnS par n k (ttS0 par n wi wo wf))).2.1) ((rowS par j (trnS par n k (ttS0 par n wi wo wf))).2.2) H → va_S (AM b) H0 H locs → ∀ (ls : Array Slot), lv_has ls 3 [(0, .ref (b 0)), (1, .int (nI (k))), (2, .int (nI (j)))] → W p l e (k2_rm 1 21) s m args below meth c H locs 0 0 Q (F0 m 91 ls []) := by
                      intro fuel
                      induction fuel with
                      | zero => intro j hj hR hm; exact absurd hm (Nat.not_lt_zero _)
                      | succ fuel ih_91 =>
                        intro j hj hR hm H locs hP hS ls hl
                        refine lv_iload_n hx hb dX1_takesTrees_91 rfl (lv_at hl 2 rfl) ?_
                        refine lv_aload_n hx hb dX1_takesTrees_92 rfl (lv_at hl 0 rfl) ?_
                        refine m_g0 hC hK hP dX1_takesTrees_93 ?_
                        refine nv_ge (tgt := 197) hx hb (by omega) (by omega) dX1_takesTrees_96 (by decide) (fun c_96 => ?_) (fun c_96 => ?_)
                        · have hjn : j = n := by omega
                          refine lv_iinc (v := (nI (k + 1))) (lv' := [(1, .int (nI (k + 1))), (0, .ref (b 0)), (2, .int (nI (j)))]) hx hb dX1_takesTrees_197 hl (k := 1) rfl (nI_inc _) (by decide) rfl (fun ls hl => ?_)
                          refine lv_goto (tgt := 81) hx hb dX1_takesTrees_200 (by decide) ?_
                          exact ih_81 (k + 1) (by omega) (by rw [hjn] at hR; exact hR) (by omega) _ _ (by rw [hjn] at hP; exact hP) hS ls (lv_sub hl [1, 0] rfl)
                        · refine lv_aload_n hx hb dX1_takesTrees_99 rfl (lv_at hl 0 rfl) ?_
                          refine m_g9 hC hK hP dX1_takesTrees_100 ?_
                          refine lv_iload_n hx hb dX1_takesTrees_103 rfl (lv_at hl 2 rfl) ?_
                          refine m_ld8 hx hb hK hP (by omega) dX1_takesTrees_104 ?_
                          refine lv_if_ne (tgt := 191) hx hb dX1_takesTrees_105 (by decide) (fun c_105 => ?_) (fun c_105 => ?_)
                          · refine lv_iinc (v := (nI (j + 1))) (lv' := [(2, .int (nI (j + 1))), (0, .ref (b 0)), (1, .int (nI (k)))]) hx hb dX1_takesTrees_191 hl (k := 2) rfl (nI_inc _) (by decide) rfl (fun ls hl => ?_)
                            refine lv_goto (tgt := 91) hx hb dX1_takesTrees_194 (by decide) ?_
                            exact ih_91 (j + 1) (by omega) (pst_inv hp hR (by omega)) (by omega) _ _ (by show MP E b n ids par cols rd nx isin (pst par j (rowS par j (trnS par n k (ttS0 par n wi wo wf)))).1 (pst par j (rowS par j (trnS par n k (ttS0 par n wi wo wf)))).2.1 (pst par j (rowS par j (trnS par n k (ttS0 par n wi wo wf)))).2.2 H; rw [pst_no (fun z => c_105 ((pe_some (hR.w hn (by omega)) (by decide)).mpr z))]; exact hP) hS ls (lv_sub hl [1, 2, 0] rfl)
                          · have hw0 : (rowS par j (trnS par n k (ttS0 par n wi wo wf))).2.2 j = some 0 := (pe_some (hR.w hn (by omega)) (by decide)).mp c_105
                            refine lv_aload_n hx hb dX1_takesTrees_108 rfl (lv_at hl 0 rfl) ?_
                            refine m_g9 hC hK hP dX1_takesTrees_109 ?_
                            refine lv_iload_n hx hb dX1_takesTrees_112 rfl (lv_at hl 2 rfl) ?_
                            refine lv_bipush (v := (pe (none))) hx hb dX1_takesTrees_113 (by decide) ?_
                            refine m_st8 (x := none) hx hb hK hI hP hS (by omega) dX1_takesTrees_115 (fun H locs hP hS => ?_)
                            refine lv_aload_n hx hb dX1_takesTrees_116 rfl (lv_at hl 0 rfl) ?_
                            refine m_g2 hC hK hP dX1_takesTrees_117 ?_
                            refine lv_iload_n hx hb dX1_takesTrees_120 rfl (lv_at hl 2 rfl) ?_
                            refine m_ld2 hx hb hK hP (by omega) dX1_takesTrees_121 ?_
                            refine lv_bipush (v := (-7)) hx hb dX1_takesTrees_122 (by decide) ?_
                            refine pv_eq7 (tgt := 191) hx hb (hp.big hn (by omega)) dX1_takesTrees_124 (by decide) (fun c_124 => ?_) (fun c_124 => ?_)
                            · refine lv_iinc (v := (nI (j + 1))) (lv' := [(2, .int (nI (j + 1))), (0, .ref (b 0)), (1, .int (nI (k)))]) hx hb dX1_takesTrees_191 hl (k := 2) rfl (nI_inc _) (by decide) rfl (fun ls hl => ?_)
                              refine lv_goto (tgt := 91) hx hb dX1_takesTrees_194 (by decide) ?_
                              exact ih_91 (j + 1) (by omega) (pst_inv hp hR (by omega)) (by omega) _ _ (by show MP E b n ids par cols rd nx isin (pst par j (rowS par j (trnS par n k (ttS0 par n wi wo wf)))).1 (pst par j (rowS par j (trnS par n k (ttS0 par n wi wo wf)))).2.1 (pst par j (rowS par j (trnS par n k (ttS0 par n wi wo wf)))).2.2 H; rw [pst_root hw0 c_124]; exact hP) hS ls (lv_sub hl [1, 2, 0] rfl)
                            · obtain ⟨u, hu⟩ := ex_some c_124
                              have hun := hp.lt (v := j) (by omega) hu
                              have huv : u ≠ j := (hp j (by omega) u hu).2
                              obtain ⟨q, hq1, hq2⟩ := hR.up (show j < n by omega) hun hw0 hu
                              have hbj := hR.b hn (show j < n by omega)
                              refine lv_aload_n hx hb dX1_takesTrees_127 rfl (lv_at hl 0 rfl) ?_
                              refine m_g7 hC hK hP dX1_takesTrees_128 ?_
                              refine lv_aload_n hx hb dX1_takesTrees_131 rfl (lv_at hl 0 rfl) ?_
                              refine m_g2 hC hK hP dX1_takesTrees_132 ?_
                              refine lv_iload_n hx hb dX1_takesTrees_135 rfl (lv_at hl 2 rfl) ?_
                              refine m_ld2 hx hb hK hP (by omega) dX1_takesTrees_136 ?_
                              refine tI ((nI (u))) (by rw [hu]; rfl) ?_
                              refine lv_dup2_11 hx hb dX1_takesTrees_137 rfl rfl ?_
                              refine m_ld6 hx hb hK hP (by omega) dX1_takesTrees_138 ?_
                              refine lv_aload_n hx hb dX1_takesTrees_139 rfl (lv_at hl 0 rfl) ?_
                              refine m_g8 hC hK hP dX1_takesTrees_140 ?_
                              refine lv_iload_n hx hb dX1_takesTrees_143 rfl (lv_at hl 2 rfl) ?_
                              refine m_ld7 hx hb hK hP (by omega) dX1_takesTrees_144 ?_
                              refine lv_iadd hx hb dX1_takesTrees_145 ?_
                              refine tI (nI ((((rowS par j (trnS par n k (ttS0 par n wi wo wf))).1) u) + (((rowS par j (trnS par n k (ttS0 par n wi wo wf))).2.1) j))) (nI_add _ _) ?_
                              refine m_st6 (x := (((rowS par j (trnS par n k (ttS0 par n wi wo wf))).1) u) + (((rowS par j (trnS par n k (ttS0 par n wi wo wf))).2.1) j)) hx hb hK hI hP hS (by omega) dX1_takesTrees_146 (fun H locs hP hS => ?_)
                              refine lv_aload_n hx hb dX1_takesTrees_147 rfl (lv_at hl 0 rfl) ?_
                              refine m_g8 hC hK hP dX1_takesTrees_148 ?_
                              refine lv_aload_n hx hb dX1_takesTrees_151 rfl (lv_at hl 0 rfl) ?_
                              refine m_g2 hC hK hP dX1_takesTrees_152 ?_
                              refine lv_iload_n hx hb dX1_takesTrees_155 rfl (lv_at hl 2 rfl) ?_
                              refine m_ld2 hx hb hK hP (by omega) dX1_takesTrees_156 ?_
                              refine tI ((nI (u))) (by rw [hu]; rfl) ?_
                              refine lv_dup2_11 hx hb dX1_takesTrees_157 rfl rfl ?_
                              refine m_ld7 hx hb hK hP (by omega) dX1_takesTrees_158 ?_
                              refine lv_aload_n hx hb dX1_takesTrees_159 rfl (lv_at hl 0 rfl) ?_
                              refine m_g7 hC hK hP dX1_takesTrees_160 ?_
                              refine lv_iload_n hx hb dX1_takesTrees_163 rfl (lv_at hl 2 rfl) ?_
                              refine m_ld6 hx hb hK hP (by omega) dX1_takesTrees_164 ?_
                              refine tI ((nI ((rowS par j (trnS par n k (ttS0 par n wi wo wf))).1 j))) (by rw [va_up_ne _ _ (Ne.symm huv)]) ?_
                              refine lv_aload_n hx hb dX1_takesTrees_165 rfl (lv_at hl 0 rfl) ?_
                              refine m_g8 hC hK hP dX1_takesTrees_166 ?_
                              refine lv_iload_n hx hb dX1_takesTrees_169 rfl (lv_at hl 2 rfl) ?_
                              refine m_ld7 hx hb hK hP (by omega) dX1_takesTrees_170 ?_
                              refine roS (As := [.int (nI ((rowS par j (trnS par n k (ttS0 par n wi wo wf))).1 j)), .int (nI (((rowS par j (trnS par n k (ttS0 par n wi wo wf))).2.1) j))]) hC kX1_113 (cM_greater ((nI ((rowS par j (trnS par n k (ttS0 par n wi wo wf))).1 j))) ((nI (((rowS par j (trnS par n k (ttS0 par n wi wo wf))).2.1) j))) ) hK (P := fun _ => True) trivial rfl rfl hl ⟨Nat.le_of_ble_eq_true rfl, Nat.le_of_ble_eq_true rfl⟩ (Nat.le_of_ble_eq_true rfl) dX1_takesTrees_171 ⟨Nat.le_of_ble_eq_true rfl, Nat.le_of_ble_eq_true rfl⟩ ?_
                              refine tI ((nI (max ((rowS par j (trnS par n k (ttS0 par n wi wo wf))).1 j) ((rowS par j (trnS par n k (ttS0 par n wi wo wf))).2.1 j)))) (gr_nat (by omega) (by omega)) ?_
                              refine lv_iadd hx hb dX1_takesTrees_174 ?_
                              refine tI (nI ((((rowS par j (trnS par n k (ttS0 par n wi wo wf))).2.1) u) + (max ((rowS par j (trnS par n k (ttS0 par n wi wo wf))).1 j) ((rowS par j (trnS par n k (ttS0 par n wi wo wf))).2.1 j)))) (nI_add _ _) ?_
                              refine m_st7 (x := (((rowS par j (trnS par n k (ttS0 par n wi wo wf))).2.1) u) + (max ((rowS par j (trnS par n k (ttS0 par n wi wo wf))).1 j) ((rowS par j (trnS par n k (ttS0 par n wi wo wf))).2.1 j))) hx hb hK hI hP hS (by omega) dX1_takesTrees_175 (fun H locs hP hS => ?_)
                              refine lv_aload_n hx hb dX1_takesTrees_176 rfl (lv_at hl 0 rfl) ?_
                              refine m_g9 hC hK hP dX1_takesTrees_177 ?_
                              refine lv_aload_n hx hb dX1_takesTrees_180 rfl (lv_at hl 0 rfl) ?_
                              refine m_g2 hC hK hP dX1_takesTrees_181 ?_
                              refine lv_iload_n hx hb dX1_takesTrees_184 rfl (lv_at hl 2 rfl) ?_
                              refine m_ld2 hx hb hK hP (by omega) dX1_takesTrees_185 ?_
                              refine tI ((nI (u))) (by rw [hu]; rfl) ?_
                              refine lv_dup2_11 hx hb dX1_takesTrees_186 rfl rfl ?_
                              refine m_ld8 hx hb hK hP (by omega) dX1_takesTrees_187 ?_
                              refine tI ((nI (q + 1))) (by rw [va_up_ne _ _ huv, hq1]; rfl) ?_
                              refine lv_iconst (v := (1)) hx hb dX1_takesTrees_188 (by decide) ?_
                              refine lv_isub hx hb dX1_takesTrees_189 ?_
                              refine tI ((pe (((rowS par j (trnS par n k (ttS0 par n wi wo wf))).2.2 u).map (· - 1)))) (by rw [hq1]; exact nI_pred q) ?_
                              refine m_st8 (x := ((rowS par j (trnS par n k (ttS0 par n wi wo wf))).2.2 u).map (· - 1)) hx hb hK hI hP hS (by omega) dX1_takesTrees_190 (fun H locs hP hS => ?_)
                              refine lv_iinc (v := (nI (j + 1))) (lv' := [(2, .int (nI (j + 1))), (0, .ref (b 0)), (1, .int (nI (k)))]) hx hb dX1_takesTrees_191 hl (k := 2) rfl (nI_inc _) (by decide) rfl (fun ls hl => ?_)
                              refine lv_goto (tgt := 91) hx hb dX1_takesTrees_194 (by decide) ?_
                              exact ih_91 (j + 1) (by omega) (pst_inv hp hR (by omega)) (by omega) _ _ (by show MP E b n ids par cols rd nx isin (pst par j (rowS par j (trnS par n k (ttS0 par n wi wo wf)))).1 (pst par j (rowS par j (trnS par n k (ttS0 par n wi wo wf)))).2.1 (pst par j (rowS par j (trnS par n k (ttS0 par n wi wo wf)))).2.2 H; rw [pst_up hw0 hu]; exact hP) hS ls (lv_sub hl [1, 2, 0] rfl)
                    exact loop_91 (n - 0 + 1) 0 (Nat.zero_le _) (hT) (Nat.lt_succ_self _) _ _ (hP) hS ls (lv_sub hl [1, 2, 0] rfl)
              exact loop_81 (n - 0 + 1) 0 (Nat.zero_le _) (hT0) (Nat.lt_succ_self _) _ _ (hP) hS ls (lv_sub hl [1, 0] rfl)
            · refine lv_aload_n hx hb dX1_takesTrees_47 rfl (lv_at hl 0 rfl) ?_
              refine m_g2 hC hK hP dX1_takesTrees_48 ?_
              refine lv_iload_n hx hb dX1_takesTrees_51 rfl (lv_at hl 1 rfl) ?_
              refine m_ld2 hx hb hK hP (by omega) dX1_takesTrees_52 ?_
              refine lv_bipush (v := (-7)) hx hb dX1_takesTrees_53 (by decide) ?_
              refine pv_eq7 (tgt := 73) hx hb (hp.big hn (by omega)) dX1_takesTrees_55 (by decide) (fun c_55 => ?_) (fun c_55 => ?_)
              · refine lv_iinc (v := (nI (k + 1))) (lv' := [(1, .int (nI (k + 1))), (0, .ref (b 0))]) hx hb dX1_takesTrees_73 hl (k := 1) rfl (nI_inc _) (by decide) rfl (fun ls hl => ?_)
                refine lv_goto (tgt := 39) hx hb dX1_takesTrees_76 (by decide) ?_
                exact ih_39 (k + 1) (by omega) (by omega) _ _ (by rw [ttW_n c_55]; exact hP) hS ls (lv_sub hl [1, 0] rfl)
              · obtain ⟨u, hu⟩ := ex_some c_55
                have hun := hp.lt (v := k) (by omega) hu
                refine lv_aload_n hx hb dX1_takesTrees_58 rfl (lv_at hl 0 rfl) ?_
                refine m_g9 hC hK hP dX1_takesTrees_59 ?_
                refine lv_aload_n hx hb dX1_takesTrees_62 rfl (lv_at hl 0 rfl) ?_
                refine m_g2 hC hK hP dX1_takesTrees_63 ?_
                refine lv_iload_n hx hb dX1_takesTrees_66 rfl (lv_at hl 1 rfl) ?_
                refine m_ld2 hx hb hK hP (by omega) dX1_takesTrees_67 ?_
                refine tI ((nI (u))) (by rw [hu]; rfl) ?_
                refine lv_dup2_11 hx hb dX1_takesTrees_68 rfl rfl ?_
                refine m_ld8 hx hb hK hP (by omega) dX1_takesTrees_69 ?_
                refine tI ((nI (fb_ct (fun i => par i == some u) k))) (by unfold ttW; rw [if_pos hun]; rfl) ?_
                refine lv_iconst (v := (nI (1))) hx hb dX1_takesTrees_70 (by decide) ?_
                refine lv_iadd hx hb dX1_takesTrees_71 ?_
                refine tI (nI ((fb_ct (fun i => par i == some u) k) + 1)) (nI_add _ _) ?_
                refine tI ((pe (some (fb_ct (fun i => par i == some u) k + 1)))) (rfl) ?_
                refine m_st8 (x := some (fb_ct (fun i => par i == some u) k + 1)) hx hb hK hI hP hS (by omega) dX1_takesTrees_72 (fun H locs hP hS => ?_)
                refine lv_iinc (v := (nI (k + 1))) (lv' := [(1, .int (nI (k + 1))), (0, .ref (b 0))]) hx hb dX1_takesTrees_73 hl (k := 1) rfl (nI_inc _) (by decide) rfl (fun ls hl => ?_)
                refine lv_goto (tgt := 39) hx hb dX1_takesTrees_76 (by decide) ?_
                exact ih_39 (k + 1) (by omega) (by omega) _ _ (by rw [ttW_s hu hun] at hP; exact hP) hS ls (lv_sub hl [1, 0] rfl)
        exact loop_39 (n - 0 + 1) 0 (Nat.zero_le _) (Nat.lt_succ_self _) _ _ (hP) hS ls (lv_sub hl [1, 0] rfl)
      · refine lv_aload_n hx hb dX1_takesTrees_10 rfl (lv_at hl 0 rfl) ?_
        refine m_g7 hC hK hP dX1_takesTrees_11 ?_
        refine lv_iload_n hx hb dX1_takesTrees_14 rfl (lv_at hl 1 rfl) ?_
        refine lv_iconst (v := (nI (1))) hx hb dX1_takesTrees_15 (by decide) ?_
        refine m_st6 (x := 1) hx hb hK hI hP hS (by omega) dX1_takesTrees_16 (fun H locs hP hS => ?_)
        refine lv_aload_n hx hb dX1_takesTrees_17 rfl (lv_at hl 0 rfl) ?_
        refine m_g8 hC hK hP dX1_takesTrees_18 ?_
        refine lv_iload_n hx hb dX1_takesTrees_21 rfl (lv_at hl 1 rfl) ?_
        refine lv_iconst (v := (nI (0))) hx hb dX1_takesTrees_22 (by decide) ?_
        refine m_st7 (x := 0) hx hb hK hI hP hS (by omega) dX1_takesTrees_23 (fun H locs hP hS => ?_)
        refine lv_aload_n hx hb dX1_takesTrees_24 rfl (lv_at hl 0 rfl) ?_
        refine m_g9 hC hK hP dX1_takesTrees_25 ?_
        refine lv_iload_n hx hb dX1_takesTrees_28 rfl (lv_at hl 1 rfl) ?_
        refine lv_iconst (v := (nI (0))) hx hb dX1_takesTrees_29 (by decide) ?_
        refine tI ((pe (some 0))) (rfl) ?_
        refine m_st8 (x := some 0) hx hb hK hI hP hS (by omega) dX1_takesTrees_30 (fun H locs hP hS => ?_)
        refine lv_iinc (v := (nI (k + 1))) (lv' := [(1, .int (nI (k + 1))), (0, .ref (b 0))]) hx hb dX1_takesTrees_31 hl (k := 1) rfl (nI_inc _) (by decide) rfl (fun ls hl => ?_)
        refine lv_goto (tgt := 2) hx hb dX1_takesTrees_34 (by decide) ?_
        exact ih_2 (k + 1) (by omega) (by omega) _ _ (by rw [ifF_s, ifF_s, ifF_s] at hP; exact hP) hS ls (lv_sub hl [1, 0] rfl)
  exact loop_2 (n - 0 + 1) 0 (Nat.zero_le _) (Nat.lt_succ_self _) _ _ (by rw [ifF_0, ifF_0, ifF_0]; exact hP) hS ls (lv_sub hl [1, 0] rfl)
set_option maxRecDepth 100000 in
set_option maxHeartbeats 4000000 in
theorem cM_boc_t {l : Launch} {E : EE} {b : Nat → Nat} {n : Nat} {ids : Nat → Int32} {par : Nat → Option Nat} {cols : Nat → Int32} {rd : Nat} {nx : Nat → Int32} {isin : Nat → Bool} {wi wo : Nat → Nat} {wf : Nat → Option Nat} (f : Nat) (hn : n ≤ 24)(hp : PW n par)(hf : f < n) (cc : Nat) (hcy : CYC par f cc) : RO l E (MP E b n ids par cols rd nx isin wi wo wf) yX1_bestOfCycle cX1_bestOfCycle 7 (some .int) 1 21 [.ref (b 0), .int (nI (f)), .int (b2i (true))] (bocR par wi wo f cc true) := by
  refine RO.mk (C := RX1) rfl rfl (by decide) rfl (Nat.le_of_ble_eq_true rfl) ?_
  intro p e s m args below meth c H Q hC hK hP hret ls hl
  obtain ⟨hx, hb, hml, hown, hts⟩ := id hC
  have hl : lv_has ls 7 [(0, .ref (b 0)), (1, .int (nI (f))), (2, .int (b2i (true)))] := hl
  obtain ⟨hc2, hc4, hc5, hc6⟩ := hcy
  have hil := itS_lt hp hf
  refine lv_iload_n hx hb dX1_bestOfCycle_0 rfl (lv_at hl 2 rfl) ?_
  refine bv_eq (tgt := 13) hx hb dX1_bestOfCycle_1 (by decide) (fun c_1 => ?_) (fun c_1 => ?_)
  · exact absurd c_1 (by decide)
  · refine lv_aload_n hx hb dX1_bestOfCycle_4 rfl (lv_at hl 0 rfl) ?_
    refine m_g7 hC hK hP dX1_bestOfCycle_5 ?_
    refine lv_iload_n hx hb dX1_bestOfCycle_8 rfl (lv_at hl 1 rfl) ?_
    refine m_ld6 hx hb hK hP (by omega) dX1_bestOfCycle_9 ?_
    refine lv_goto (tgt := 16) hx hb dX1_bestOfCycle_10 (by decide) ?_
    refine lv_istore_n (lv' := [(3, .int (nI (wi f))), (0, .ref (b 0)), (1, .int (nI (f))), (2, .int (b2i (true)))]) hx hb dX1_bestOfCycle_16 rfl hl (by decide) rfl (fun ls hl => ?_)
    refine lv_iload_n hx hb dX1_bestOfCycle_17 rfl (lv_at hl 3 rfl) ?_
    refine bv_eq (tgt := 27) hx hb dX1_bestOfCycle_18 (by decide) (fun c_18 => ?_) (fun c_18 => ?_)
    · exact absurd c_18 (by decide)
    · refine lv_sipush (v := (-1000)) hx hb dX1_bestOfCycle_21 (by decide) ?_
      refine lv_goto (tgt := 33) hx hb dX1_bestOfCycle_24 (by decide) ?_
      refine lv_istore (lv' := [(4, .int (-1000)), (3, .int (nI (wi f))), (0, .ref (b 0)), (1, .int (nI (f))), (2, .int (b2i (true)))]) hx hb dX1_bestOfCycle_33 hl (by decide) rfl (fun ls hl => ?_)
      refine lv_aload_n hx hb dX1_bestOfCycle_35 rfl (lv_at hl 2 rfl) ?_
      refine m_g2 hC hK hP dX1_bestOfCycle_36 ?_
      refine lv_iload_n hx hb dX1_bestOfCycle_39 rfl (lv_at hl 3 rfl) ?_
      refine m_ld2 hx hb hK hP (by omega) dX1_bestOfCycle_40 ?_
      refine tI ((nI (itS par 1 f))) (by rw [show par f = some (itS par 1 f) from hc6 0]; rfl) ?_
      refine lv_istore (lv' := [(5, .int (nI (itS par 1 f))), (4, .int (-1000)), (3, .int (nI (wi f))), (0, .ref (b 0)), (1, .int (nI (f))), (2, .int (b2i (true)))]) hx hb dX1_bestOfCycle_41 hl (by decide) rfl (fun ls hl => ?_)
      have loop_43 : ∀ (fuel : Nat) (i : Nat), (i + 1 ≤ cc) → cc - i < fuel → ∀ (ls : Array Slot), lv_has ls 7 [(0, .ref (b 0)), (1, .int (nI (f))), (2, .int (b2i (true))), (3, .int ((bocI par wi wo f (nI (wi f)) ((-1000)) i).1)), (4, .int ((bocI par wi wo f (nI (wi f)) ((-1000)) i).2)), (5, .int (nI (itS par (i + 1) f)))] → W p l e (k2_rm 1 21) s m args below meth c H [] 0 0 Q (F0 m 43 ls []) := by
        intro fuel
        induction fuel with
        | zero => intro i hi hm; exact absurd hm (Nat.not_lt_zero _)
        | succ fuel ih_43 =>
          intro i hi hm ls hl
          have hb2 := hil (i + 1)
          refine lv_iload hx hb dX1_bestOfCycle_43 (lv_at hl 5 rfl) ?_
          refine lv_iload_n hx hb dX1_bestOfCycle_45 rfl (lv_at hl 1 rfl) ?_
          refine nv_eq (tgt := 92) hx hb (by omega) (by omega) dX1_bestOfCycle_46 (by decide) (fun c_46 => ?_) (fun c_46 => ?_)
          · have he : i + 1 = cc := (Nat.lt_or_eq_of_le hi).elim (fun h => absurd c_46 (hc5 (i + 1) (by omega) h)) id
            refine lv_iload_n hx hb dX1_bestOfCycle_92 rfl (lv_at hl 2 rfl) ?_
            refine bv_eq (tgt := 101) hx hb dX1_bestOfCycle_93 (by decide) (fun c_93 => ?_) (fun c_93 => ?_)
            · exact absurd c_93 (by decide)
            · refine lv_iload hx hb dX1_bestOfCycle_96 (lv_at hl 4 rfl) ?_
              refine lv_goto (tgt := 107) hx hb dX1_bestOfCycle_98 (by decide) ?_
              exact hret _ _ _ dX1_bestOfCycle_107 (by rw [bocR, ← he]; rfl)
          · refine lv_iload hx hb dX1_bestOfCycle_49 (lv_at hl 4 rfl) ?_
            refine lv_aload_n hx hb dX1_bestOfCycle_51 rfl (lv_at hl 0 rfl) ?_
            refine m_g7 hC hK hP dX1_bestOfCycle_52 ?_
            refine lv_iload hx hb dX1_bestOfCycle_55 (lv_at hl 5 rfl) ?_
            refine m_ld6 hx hb hK hP (by omega) dX1_bestOfCycle_57 ?_
            refine lv_iadd hx hb dX1_bestOfCycle_58 ?_
            refine tI (((bocI par wi wo f (nI (wi f)) ((-1000)) (i + 1)).1)) (rfl) ?_
            refine lv_istore (lv' := [(6, .int ((bocI par wi wo f (nI (wi f)) ((-1000)) (i + 1)).1)), (0, .ref (b 0)), (1, .int (nI (f))), (2, .int (b2i (true))), (3, .int ((bocI par wi wo f (nI (wi f)) ((-1000)) i).1)), (4, .int ((bocI par wi wo f (nI (wi f)) ((-1000)) i).2)), (5, .int (nI (itS par (i + 1) f)))]) hx hb dX1_bestOfCycle_59 hl (by decide) rfl (fun ls hl => ?_)
            refine lv_iload_n hx hb dX1_bestOfCycle_61 rfl (lv_at hl 4 rfl) ?_
            refine lv_iload hx hb dX1_bestOfCycle_62 (lv_at hl 5 rfl) ?_
            refine roS (As := [.int ((bocI par wi wo f (nI (wi f)) ((-1000)) i).1), .int ((bocI par wi wo f (nI (wi f)) ((-1000)) i).2)]) hC kX1_113 (cM_greater (((bocI par wi wo f (nI (wi f)) ((-1000)) i).1)) (((bocI par wi wo f (nI (wi f)) ((-1000)) i).2)) ) hK (P := fun _ => True) trivial rfl rfl hl ⟨Nat.le_of_ble_eq_true rfl, Nat.le_of_ble_eq_true rfl⟩ (Nat.le_of_ble_eq_true rfl) dX1_bestOfCycle_64 ⟨Nat.le_of_ble_eq_true rfl, Nat.le_of_ble_eq_true rfl⟩ ?_
            refine lv_aload_n hx hb dX1_bestOfCycle_67 rfl (lv_at hl 1 rfl) ?_
            refine m_g8 hC hK hP dX1_bestOfCycle_68 ?_
            refine lv_iload hx hb dX1_bestOfCycle_71 (lv_at hl 6 rfl) ?_
            refine m_ld7 hx hb hK hP (by omega) dX1_bestOfCycle_73 ?_
            refine lv_iadd hx hb dX1_bestOfCycle_74 ?_
            refine tI (((bocI par wi wo f (nI (wi f)) ((-1000)) (i + 1)).2)) (rfl) ?_
            refine lv_istore (lv' := [(4, .int ((bocI par wi wo f (nI (wi f)) ((-1000)) (i + 1)).2)), (6, .int ((bocI par wi wo f (nI (wi f)) ((-1000)) (i + 1)).1)), (0, .ref (b 0)), (1, .int (nI (f))), (2, .int (b2i (true))), (3, .int ((bocI par wi wo f (nI (wi f)) ((-1000)) i).1)), (5, .int (nI (itS par (i + 1) f)))]) hx hb dX1_bestOfCycle_75 hl (by decide) rfl (fun ls hl => ?_)
            refine lv_iload hx hb dX1_bestOfCycle_77 (lv_at hl 1 rfl) ?_
            refine lv_istore_n (lv' := [(3, .int ((bocI par wi wo f (nI (wi f)) ((-1000)) (i + 1)).1)), (4, .int ((bocI par wi wo f (nI (wi f)) ((-1000)) (i + 1)).2)), (6, .int ((bocI par wi wo f (nI (wi f)) ((-1000)) (i + 1)).1)), (0, .ref (b 0)), (1, .int (nI (f))), (2, .int (b2i (true))), (5, .int (nI (itS par (i + 1) f)))]) hx hb dX1_bestOfCycle_79 rfl hl (by decide) rfl (fun ls hl => ?_)
            refine lv_aload_n hx hb dX1_bestOfCycle_80 rfl (lv_at hl 3 rfl) ?_
            refine m_g2 hC hK hP dX1_bestOfCycle_81 ?_
            refine lv_iload hx hb dX1_bestOfCycle_84 (lv_at hl 6 rfl) ?_
            refine m_ld2 hx hb hK hP (by omega) dX1_bestOfCycle_86 ?_
            refine tI ((nI (itS par (i + 1 + 1) f))) (by rw [hc6 (i + 1)]; rfl) ?_
            refine lv_istore (lv' := [(5, .int (nI (itS par (i + 1 + 1) f))), (3, .int ((bocI par wi wo f (nI (wi f)) ((-1000)) (i + 1)).1)), (4, .int ((bocI par wi wo f (nI (wi f)) ((-1000)) (i + 1)).2)), (6, .int ((bocI par wi wo f (nI (wi f)) ((-1000)) (i + 1)).1)), (0, .ref (b 0)), (1, .int (nI (f))), (2, .int (b2i (true)))]) hx hb dX1_bestOfCycle_87 hl (by decide) rfl (fun ls hl => ?_)
            refine lv_goto (tgt := 43) hx hb dX1_bestOfCycle_89 (by decide) ?_
            exact ih_43 (i + 1) (Nat.lt_of_le_of_ne hi (fun e => c_46 (by rw [e]; exact hc4))) (by omega) ls (lv_sub hl [4, 5, 6, 1, 2, 0] rfl)
      exact loop_43 (cc - 0 + 1) 0 (hc2) (Nat.lt_succ_self _) ls (lv_sub hl [3, 4, 5, 2, 1, 0] rfl)
set_option maxRecDepth 100000 in
set_option maxHeartbeats 4000000 in
theorem cM_boc_f {l : Launch} {E : EE} {b : Nat → Nat} {n : Nat} {ids : Nat → Int32} {par : Nat → Option Nat} {cols : Nat → Int32} {rd : Nat} {nx : Nat → Int32} {isin : Nat → Bool} {wi wo : Nat → Nat} {wf : Nat → Option Nat} (f : Nat) (hn : n ≤ 24)(hp : PW n par)(hf : f < n) (cc : Nat) (hcy : CYC par f cc) : RO l E (MP E b n ids par cols rd nx isin wi wo wf) yX1_bestOfCycle cX1_bestOfCycle 7 (some .int) 1 21 [.ref (b 0), .int (nI (f)), .int (b2i (false))] (bocR par wi wo f cc false) := by
  refine RO.mk (C := RX1) rfl rfl (by decide) rfl (Nat.le_of_ble_eq_true rfl) ?_
  intro p e s m args below meth c H Q hC hK hP hret ls hl
  obtain ⟨hx, hb, hml, hown, hts⟩ := id hC
  have hl : lv_has ls 7 [(0, .ref (b 0)), (1, .int (nI (f))), (2, .int (b2i (false)))] := hl
  obtain ⟨hc2, hc4, hc5, hc6⟩ := hcy
  have hil := itS_lt hp hf
  refine lv_iload_n hx hb dX1_bestOfCycle_0 rfl (lv_at hl 2 rfl) ?_
  refine bv_eq (tgt := 13) hx hb dX1_bestOfCycle_1 (by decide) (fun c_1 => ?_) (fun c_1 => ?_)
  · refine lv_sipush (v := (-1000)) hx hb dX1_bestOfCycle_13 (by decide) ?_
    refine lv_istore_n (lv' := [(3, .int (-1000)), (0, .ref (b 0)), (1, .int (nI (f))), (2, .int (b2i (false)))]) hx hb dX1_bestOfCycle_16 rfl hl (by decide) rfl (fun ls hl => ?_)
    refine lv_iload_n hx hb dX1_bestOfCycle_17 rfl (lv_at hl 3 rfl) ?_
    refine bv_eq (tgt := 27) hx hb dX1_bestOfCycle_18 (by decide) (fun c_18 => ?_) (fun c_18 => ?_)
    · refine lv_aload_n hx hb dX1_bestOfCycle_27 rfl (lv_at hl 1 rfl) ?_
      refine m_g8 hC hK hP dX1_bestOfCycle_28 ?_
      refine lv_iload_n hx hb dX1_bestOfCycle_31 rfl (lv_at hl 2 rfl) ?_
      refine m_ld7 hx hb hK hP (by omega) dX1_bestOfCycle_32 ?_
      refine lv_istore (lv' := [(4, .int (nI (wo f))), (3, .int (-1000)), (0, .ref (b 0)), (1, .int (nI (f))), (2, .int (b2i (false)))]) hx hb dX1_bestOfCycle_33 hl (by decide) rfl (fun ls hl => ?_)
      refine lv_aload_n hx hb dX1_bestOfCycle_35 rfl (lv_at hl 2 rfl) ?_
      refine m_g2 hC hK hP dX1_bestOfCycle_36 ?_
      refine lv_iload_n hx hb dX1_bestOfCycle_39 rfl (lv_at hl 3 rfl) ?_
      refine m_ld2 hx hb hK hP (by omega) dX1_bestOfCycle_40 ?_
      refine tI ((nI (itS par 1 f))) (by rw [show par f = some (itS par 1 f) from hc6 0]; rfl) ?_
      refine lv_istore (lv' := [(5, .int (nI (itS par 1 f))), (4, .int (nI (wo f))), (3, .int (-1000)), (0, .ref (b 0)), (1, .int (nI (f))), (2, .int (b2i (false)))]) hx hb dX1_bestOfCycle_41 hl (by decide) rfl (fun ls hl => ?_)
      have loop_43 : ∀ (fuel : Nat) (i : Nat), (i + 1 ≤ cc) → cc - i < fuel → ∀ (ls : Array Slot), lv_has ls 7 [(0, .ref (b 0)), (1, .int (nI (f))), (2, .int (b2i (false))), (3, .int ((bocI par wi wo f ((-1000)) (nI (wo f)) i).1)), (4, .int ((bocI par wi wo f ((-1000)) (nI (wo f)) i).2)), (5, .int (nI (itS par (i + 1) f)))] → W p l e (k2_rm 1 21) s m args below meth c H [] 0 0 Q (F0 m 43 ls []) := by
        intro fuel
        induction fuel with
        | zero => intro i hi hm; exact absurd hm (Nat.not_lt_zero _)
        | succ fuel ih_43 =>
          intro i hi hm ls hl
          have hb2 := hil (i + 1)
          refine lv_iload hx hb dX1_bestOfCycle_43 (lv_at hl 5 rfl) ?_
          refine lv_iload_n hx hb dX1_bestOfCycle_45 rfl (lv_at hl 1 rfl) ?_
          refine nv_eq (tgt := 92) hx hb (by omega) (by omega) dX1_bestOfCycle_46 (by decide) (fun c_46 => ?_) (fun c_46 => ?_)
          · have he : i + 1 = cc := (Nat.lt_or_eq_of_le hi).elim (fun h => absurd c_46 (hc5 (i + 1) (by omega) h)) id
            refine lv_iload_n hx hb dX1_bestOfCycle_92 rfl (lv_at hl 2 rfl) ?_
            refine bv_eq (tgt := 101) hx hb dX1_bestOfCycle_93 (by decide) (fun c_93 => ?_) (fun c_93 => ?_)
            · refine lv_iload_n hx hb dX1_bestOfCycle_101 rfl (lv_at hl 3 rfl) ?_
              refine lv_iload hx hb dX1_bestOfCycle_102 (lv_at hl 4 rfl) ?_
              refine roS (As := [.int ((bocI par wi wo f ((-1000)) (nI (wo f)) i).1), .int ((bocI par wi wo f ((-1000)) (nI (wo f)) i).2)]) hC kX1_113 (cM_greater (((bocI par wi wo f ((-1000)) (nI (wo f)) i).1)) (((bocI par wi wo f ((-1000)) (nI (wo f)) i).2)) ) hK (P := fun _ => True) trivial rfl rfl hl ⟨Nat.le_of_ble_eq_true rfl, Nat.le_of_ble_eq_true rfl⟩ (Nat.le_of_ble_eq_true rfl) dX1_bestOfCycle_104 ⟨Nat.le_of_ble_eq_true rfl, Nat.le_of_ble_eq_true rfl⟩ ?_
              exact hret _ _ _ dX1_bestOfCycle_107 (by rw [bocR, ← he]; rfl)
            · exact absurd c_93 (by decide)
          · refine lv_iload hx hb dX1_bestOfCycle_49 (lv_at hl 4 rfl) ?_
            refine lv_aload_n hx hb dX1_bestOfCycle_51 rfl (lv_at hl 0 rfl) ?_
            refine m_g7 hC hK hP dX1_bestOfCycle_52 ?_
            refine lv_iload hx hb dX1_bestOfCycle_55 (lv_at hl 5 rfl) ?_
            refine m_ld6 hx hb hK hP (by omega) dX1_bestOfCycle_57 ?_
            refine lv_iadd hx hb dX1_bestOfCycle_58 ?_
            refine tI (((bocI par wi wo f ((-1000)) (nI (wo f)) (i + 1)).1)) (rfl) ?_
            refine lv_istore (lv' := [(6, .int ((bocI par wi wo f ((-1000)) (nI (wo f)) (i + 1)).1)), (0, .ref (b 0)), (1, .int (nI (f))), (2, .int (b2i (false))), (3, .int ((bocI par wi wo f ((-1000)) (nI (wo f)) i).1)), (4, .int ((bocI par wi wo f ((-1000)) (nI (wo f)) i).2)), (5, .int (nI (itS par (i + 1) f)))]) hx hb dX1_bestOfCycle_59 hl (by decide) rfl (fun ls hl => ?_)
            refine lv_iload_n hx hb dX1_bestOfCycle_61 rfl (lv_at hl 4 rfl) ?_
            refine lv_iload hx hb dX1_bestOfCycle_62 (lv_at hl 5 rfl) ?_
            refine roS (As := [.int ((bocI par wi wo f ((-1000)) (nI (wo f)) i).1), .int ((bocI par wi wo f ((-1000)) (nI (wo f)) i).2)]) hC kX1_113 (cM_greater (((bocI par wi wo f ((-1000)) (nI (wo f)) i).1)) (((bocI par wi wo f ((-1000)) (nI (wo f)) i).2)) ) hK (P := fun _ => True) trivial rfl rfl hl ⟨Nat.le_of_ble_eq_true rfl, Nat.le_of_ble_eq_true rfl⟩ (Nat.le_of_ble_eq_true rfl) dX1_bestOfCycle_64 ⟨Nat.le_of_ble_eq_true rfl, Nat.le_of_ble_eq_true rfl⟩ ?_
            refine lv_aload_n hx hb dX1_bestOfCycle_67 rfl (lv_at hl 1 rfl) ?_
            refine m_g8 hC hK hP dX1_bestOfCycle_68 ?_
            refine lv_iload hx hb dX1_bestOfCycle_71 (lv_at hl 6 rfl) ?_
            refine m_ld7 hx hb hK hP (by omega) dX1_bestOfCycle_73 ?_
            refine lv_iadd hx hb dX1_bestOfCycle_74 ?_
            refine tI (((bocI par wi wo f ((-1000)) (nI (wo f)) (i + 1)).2)) (rfl) ?_
            refine lv_istore (lv' := [(4, .int ((bocI par wi wo f ((-1000)) (nI (wo f)) (i + 1)).2)), (6, .int ((bocI par wi wo f ((-1000)) (nI (wo f)) (i + 1)).1)), (0, .ref (b 0)), (1, .int (nI (f))), (2, .int (b2i (false))), (3, .int ((bocI par wi wo f ((-1000)) (nI (wo f)) i).1)), (5, .int (nI (itS par (i + 1) f)))]) hx hb dX1_bestOfCycle_75 hl (by decide) rfl (fun ls hl => ?_)
            refine lv_iload hx hb dX1_bestOfCycle_77 (lv_at hl 1 rfl) ?_
            refine lv_istore_n (lv' := [(3, .int ((bocI par wi wo f ((-1000)) (nI (wo f)) (i + 1)).1)), (4, .int ((bocI par wi wo f ((-1000)) (nI (wo f)) (i + 1)).2)), (6, .int ((bocI par wi wo f ((-1000)) (nI (wo f)) (i + 1)).1)), (0, .ref (b 0)), (1, .int (nI (f))), (2, .int (b2i (false))), (5, .int (nI (itS par (i + 1) f)))]) hx hb dX1_bestOfCycle_79 rfl hl (by decide) rfl (fun ls hl => ?_)
            refine lv_aload_n hx hb dX1_bestOfCycle_80 rfl (lv_at hl 3 rfl) ?_
            refine m_g2 hC hK hP dX1_bestOfCycle_81 ?_
            refine lv_iload hx hb dX1_bestOfCycle_84 (lv_at hl 6 rfl) ?_
            refine m_ld2 hx hb hK hP (by omega) dX1_bestOfCycle_86 ?_
            refine tI ((nI (itS par (i + 1 + 1) f))) (by rw [hc6 (i + 1)]; rfl) ?_
            refine lv_istore (lv' := [(5, .int (nI (itS par (i + 1 + 1) f))), (3, .int ((bocI par wi wo f ((-1000)) (nI (wo f)) (i + 1)).1)), (4, .int ((bocI par wi wo f ((-1000)) (nI (wo f)) (i + 1)).2)), (6, .int ((bocI par wi wo f ((-1000)) (nI (wo f)) (i + 1)).1)), (0, .ref (b 0)), (1, .int (nI (f))), (2, .int (b2i (false)))]) hx hb dX1_bestOfCycle_87 hl (by decide) rfl (fun ls hl => ?_)
            refine lv_goto (tgt := 43) hx hb dX1_bestOfCycle_89 (by decide) ?_
            exact ih_43 (i + 1) (Nat.lt_of_le_of_ne hi (fun e => c_46 (by rw [e]; exact hc4))) (by omega) ls (lv_sub hl [4, 5, 6, 1, 2, 0] rfl)
      exact loop_43 (cc - 0 + 1) 0 (hc2) (Nat.lt_succ_self _) ls (lv_sub hl [3, 4, 5, 2, 1, 0] rfl)
    · exact absurd c_18 (by decide)
  · exact absurd c_1 (by decide)
set_option maxRecDepth 100000 in
set_option maxHeartbeats 4000000 in
theorem cM_gis {l : Launch} {E : EE} {b : Nat → Nat} {n : Nat} {ids : Nat → Int32} {par : Nat → Option Nat} {cols : Nat → Int32} {rd : Nat} {nx : Nat → Int32} {isin : Nat → Bool} {wi wo : Nat → Nat} {wf : Nat → Option Nat} (x : Int32) (hI : inj 9 b)(hn : n ≤ 24)(hp : PW n par) : WR l E (MP E b n ids par cols rd nx isin wi wo wf) (AM b) yX1_greatestIndependentSet cX1_greatestIndependentSet 3 (some .int) 2 47 [.ref (b 0), .int (x)] (some (.int (oN (vN n x) (fun v => mgR par n (ttF par n wi wo wf).1 (ttF par n wi wo wf).2.1 v)))) (MX E b n ids par cols rd) := by
  refine WR.mkI (C := RX1) rfl rfl (by decide) rfl (Nat.le_of_ble_eq_true rfl) ?_
  intro p e s m args below meth c H0 Q hC hK hP hret ls hl
  obtain ⟨hx, hb, hml, hown, hts⟩ := id hC
  have hl : lv_has ls 3 [(0, .ref (b 0)), (1, .int (x))] := hl
  have hS : va_S (AM b) H0 H0 [] := va_S.rf
  have hP : MP E b n ids par cols rd nx isin wi wo wf H0 := hP
  refine lv_aload_n hx hb dX1_greatestIndependentSet_0 rfl (lv_at hl 0 rfl) ?_
  refine lv_iload_n hx hb dX1_greatestIndependentSet_1 rfl (lv_at hl 1 rfl) ?_
  refine roV (As := [.int (x)]) hC kX1_58 (cM_isNode ((x)) hn) hK hP (m_rec hK hP) rfl rfl hl ⟨Nat.le_of_ble_eq_true rfl, Nat.le_of_ble_eq_true rfl⟩ (Nat.le_of_ble_eq_true rfl) dX1_greatestIndependentSet_2 ⟨Nat.le_of_ble_eq_true rfl, Nat.le_of_ble_eq_true rfl⟩ ?_
  refine bv_ne (tgt := 10) hx hb dX1_greatestIndependentSet_5 (by decide) (fun c_5 => ?_) (fun c_5 => ?_)
  · obtain ⟨v, hv, rfl⟩ := vN_t hn c_5
    have hhd := hdF_lt hp hv
    refine lv_aload_n hx hb dX1_greatestIndependentSet_10 rfl (lv_at hl 0 rfl) ?_
    refine wrV (As := []) hC kX1_116 (cM_trees  hI hn hp) hK hP (m_rec hK hP) hS (fun _ h => h) rfl rfl hl ⟨Nat.le_of_ble_eq_true rfl, Nat.le_of_ble_eq_true rfl⟩ (Nat.le_of_ble_eq_true rfl) dX1_greatestIndependentSet_11 ⟨Nat.le_of_ble_eq_true rfl, Nat.le_of_ble_eq_true rfl⟩ (fun H locs hP hS _ _ => ?_)
    refine lv_aload_n hx hb dX1_greatestIndependentSet_14 rfl (lv_at hl 0 rfl) ?_
    refine lv_iload_n hx hb dX1_greatestIndependentSet_15 rfl (lv_at hl 1 rfl) ?_
    refine roV (As := [.int (nI (v))]) hC kX1_76 (cM_head v hn hp (by omega)) hK hP (m_rec hK hP) rfl rfl hl ⟨Nat.le_of_ble_eq_true rfl, Nat.le_of_ble_eq_true rfl⟩ (Nat.le_of_ble_eq_true rfl) dX1_greatestIndependentSet_16 ⟨Nat.le_of_ble_eq_true rfl, Nat.le_of_ble_eq_true rfl⟩ ?_
    refine lv_istore_n (lv' := [(2, .int (nI (hdF par n v))), (0, .ref (b 0)), (1, .int (nI (v)))]) hx hb dX1_greatestIndependentSet_19 rfl hl (by decide) rfl (fun ls hl => ?_)
    refine lv_aload_n hx hb dX1_greatestIndependentSet_20 rfl (lv_at hl 1 rfl) ?_
    refine m_g2 hC hK hP dX1_greatestIndependentSet_21 ?_
    refine lv_iload_n hx hb dX1_greatestIndependentSet_24 rfl (lv_at hl 0 rfl) ?_
    refine m_ld2 hx hb hK hP (by omega) dX1_greatestIndependentSet_25 ?_
    refine lv_bipush (v := (-7)) hx hb dX1_greatestIndependentSet_26 (by decide) ?_
    refine pv_ne7 (tgt := 47) hx hb (hp.big hn (by omega)) dX1_greatestIndependentSet_28 (by decide) (fun c_28 => ?_) (fun c_28 => ?_)
    · obtain ⟨cc, hc1, hc2, hcy⟩ := hd_cyc hp hv c_28
      refine lv_aload_n hx hb dX1_greatestIndependentSet_47 rfl (lv_at hl 1 rfl) ?_
      refine lv_iload_n hx hb dX1_greatestIndependentSet_48 rfl (lv_at hl 0 rfl) ?_
      refine lv_iconst (v := (b2i (true))) hx hb dX1_greatestIndependentSet_49 (by decide) ?_
      refine roV (As := [.int (nI (hdF par n v)), .int (b2i (true))]) hC kX1_119 (cM_boc_t (hdF par n v) hn hp hhd cc hcy) hK hP (m_rec hK hP) rfl rfl hl ⟨Nat.le_of_ble_eq_true rfl, Nat.le_of_ble_eq_true rfl⟩ (Nat.le_of_ble_eq_true rfl) dX1_greatestIndependentSet_50 ⟨Nat.le_of_ble_eq_true rfl, Nat.le_of_ble_eq_true rfl⟩ ?_
      refine lv_aload_n hx hb dX1_greatestIndependentSet_53 rfl (lv_at hl 1 rfl) ?_
      refine lv_iload_n hx hb dX1_greatestIndependentSet_54 rfl (lv_at hl 0 rfl) ?_
      refine lv_iconst (v := (b2i (false))) hx hb dX1_greatestIndependentSet_55 (by decide) ?_
      refine roV (As := [.int (nI (hdF par n v)), .int (b2i (false))]) hC kX1_119 (cM_boc_f (hdF par n v) hn hp hhd cc hcy) hK hP (m_rec hK hP) rfl rfl hl ⟨Nat.le_of_ble_eq_true rfl, Nat.le_of_ble_eq_true rfl⟩ (Nat.le_of_ble_eq_true rfl) dX1_greatestIndependentSet_56 ⟨Nat.le_of_ble_eq_true rfl, Nat.le_of_ble_eq_true rfl⟩ ?_
      refine roS (As := [.int (bocR par (ttF par n wi wo wf).1 (ttF par n wi wo wf).2.1 (hdF par n v) cc true), .int (bocR par (ttF par n wi wo wf).1 (ttF par n wi wo wf).2.1 (hdF par n v) cc false)]) hC kX1_113 (cM_greater ((bocR par (ttF par n wi wo wf).1 (ttF par n wi wo wf).2.1 (hdF par n v) cc true)) ((bocR par (ttF par n wi wo wf).1 (ttF par n wi wo wf).2.1 (hdF par n v) cc false)) ) hK (P := fun _ => True) trivial rfl rfl hl ⟨Nat.le_of_ble_eq_true rfl, Nat.le_of_ble_eq_true rfl⟩ (Nat.le_of_ble_eq_true rfl) dX1_greatestIndependentSet_59 ⟨Nat.le_of_ble_eq_true rfl, Nat.le_of_ble_eq_true rfl⟩ ?_
      exact hret _ _ _ _ _ (⟨_, _, _, _, _, hP⟩) hS dX1_greatestIndependentSet_62 (by rw [oN_in hn hv, mgR, if_neg c_28, hc1]; rfl)
    · refine lv_aload_n hx hb dX1_greatestIndependentSet_31 rfl (lv_at hl 1 rfl) ?_
      refine m_g7 hC hK hP dX1_greatestIndependentSet_32 ?_
      refine lv_iload_n hx hb dX1_greatestIndependentSet_35 rfl (lv_at hl 0 rfl) ?_
      refine m_ld6 hx hb hK hP (by omega) dX1_greatestIndependentSet_36 ?_
      refine lv_aload_n hx hb dX1_greatestIndependentSet_37 rfl (lv_at hl 1 rfl) ?_
      refine m_g8 hC hK hP dX1_greatestIndependentSet_38 ?_
      refine lv_iload_n hx hb dX1_greatestIndependentSet_41 rfl (lv_at hl 0 rfl) ?_
      refine m_ld7 hx hb hK hP (by omega) dX1_greatestIndependentSet_42 ?_
      refine roS (As := [.int (nI (((ttF par n wi wo wf).1) (hdF par n v))), .int (nI (((ttF par n wi wo wf).2.1) (hdF par n v)))]) hC kX1_113 (cM_greater ((nI (((ttF par n wi wo wf).1) (hdF par n v)))) ((nI (((ttF par n wi wo wf).2.1) (hdF par n v)))) ) hK (P := fun _ => True) trivial rfl rfl hl ⟨Nat.le_of_ble_eq_true rfl, Nat.le_of_ble_eq_true rfl⟩ (Nat.le_of_ble_eq_true rfl) dX1_greatestIndependentSet_43 ⟨Nat.le_of_ble_eq_true rfl, Nat.le_of_ble_eq_true rfl⟩ ?_
      exact hret _ _ _ _ _ (⟨_, _, _, _, _, hP⟩) hS dX1_greatestIndependentSet_46 (by rw [oN_in hn hv, mgR, if_pos c_28])
  · refine lv_iconst (v := (-1)) hx hb dX1_greatestIndependentSet_8 (by decide) ?_
    exact hret _ _ _ _ _ (⟨_, _, _, _, _, hP⟩) hS dX1_greatestIndependentSet_9 ((oN_out c_5 _).symm)
