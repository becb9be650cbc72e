-- the reference: the set (laid by wip/whole/gen/spec_m3.py)
/-- the reference's world, its rows for work at hand aside -/
def MX (E : EE) (b : Nat → Nat) (n : Nat) (ids : Nat → Int32) (par : Nat → Option Nat) (cols : Nat → Int32) (rd : Nat) (H : Heap) : Prop := ∃ (nx : Nat → Int32) (isin : Nat → Bool) (wi wo : Nat → Nat) (wf : Nat → Option Nat), MP E b n ids par cols rd nx isin wi wo wf H
set_option maxRecDepth 100000 in
set_option maxHeartbeats 4000000 in
theorem cM_build {l : Launch} {E : EE} {b : Nat → Nat} {n : Nat} {ids : Nat → Int32} {par : Nat → Option Nat} {cols : Nat → Int32} {rd : Nat} {nx : Nat → Int32} {isin : Nat → Bool} {wi wo : Nat → Nat} {wf : Nat → Option Nat}  (hI : inj 9 b)(hn : n ≤ 24)(hp : PW n par)(hrd : rd < 100000)(hc0 : ∀ v, v < n → ¬ mcol cols rd v < 0) : WR l E (MP E b n ids par cols rd nx isin wi wo wf) (AM b) yX1_buildSet cX1_buildSet 8 (some .int) 1 22 [.ref (b 0)] (some (.int (nI (fb_ct (isF par (mcol cols rd) n n).1 n)))) (MP E b n ids par cols rd nx (inR n (isF par (mcol cols rd) n n).1 isin) wi wo wf) := by
  refine WR.mkI (C := RX1) rfl rfl (by decide) rfl (Nat.le_of_ble_eq_true rfl) ?_
  intro p e s m args below meth c H0 Q hC hK hP hret ls hl
  obtain ⟨hx, hb, hml, hown, hts⟩ := id hC
  have hl : lv_has ls 8 [(0, .ref (b 0))] := hl
  have hS : va_S (AM b) H0 H0 [] := va_S.rf
  have hP : MP E b n ids par cols rd nx isin wi wo wf H0 := hP
  refine lv_iconst (v := (nI (0))) hx hb dX1_buildSet_0 (by decide) ?_
  refine tI ((nI (fb_ct (isF par (mcol cols rd) n 0).1 n))) (by rw [show fb_ct (isF par (mcol cols rd) n 0).1 n = 0 from fb_ct_zero.mpr (fun _ _ => rfl)]) ?_
  refine lv_istore_n (lv' := [(1, .int (nI (fb_ct (isF par (mcol cols rd) n 0).1 n))), (0, .ref (b 0))]) hx hb dX1_buildSet_1 rfl hl (by decide) rfl (fun ls hl => ?_)
  refine lv_iconst (v := (nI (0))) hx hb dX1_buildSet_2 (by decide) ?_
  refine lv_istore_n (lv' := [(2, .int (nI (0))), (1, .int (nI (fb_ct (isF par (mcol cols rd) n 0).1 n))), (0, .ref (b 0))]) hx hb dX1_buildSet_3 rfl hl (by decide) rfl (fun ls hl => ?_)
  have loop_4 : ∀ (fuel : Nat) (k : Nat), (k ≤ n) → n - k < fuel → ∀ (H : Heap) (locs : List Loc), MP E b n ids par cols rd nx (inR k (fun _ => false) isin) wi wo wf H → va_S (AM b) H0 H locs → ∀ (ls : Array Slot), lv_has ls 8 [(0, .ref (b 0)), (1, .int (nI (fb_ct (isF par (mcol cols rd) n 0).1 n))), (2, .int (nI (k)))] → W p l e (k2_rm 1 22) s m args below meth c H locs 0 0 Q (F0 m 4 ls []) := by
    intro fuel
    induction fuel with
    | zero => intro k hk hm; exact absurd hm (Nat.not_lt_zero _)
    | succ fuel ih_4 =>
      intro k hk hm H locs hP hS ls hl
      refine lv_iload_n hx hb dX1_buildSet_4 rfl (lv_at hl 2 rfl) ?_
      refine lv_aload_n hx hb dX1_buildSet_5 rfl (lv_at hl 0 rfl) ?_
      refine m_g0 hC hK hP dX1_buildSet_6 ?_
      refine nv_ge (tgt := 25) hx hb (by omega) (by omega) dX1_buildSet_9 (by decide) (fun c_9 => ?_) (fun c_9 => ?_)
      · have hkn : k = n := by omega
        rw [hkn] at hP
        refine lv_iconst (v := (-1)) hx hb dX1_buildSet_25 (by decide) ?_
        refine lv_istore_n (lv' := [(2, .int (-1)), (0, .ref (b 0)), (1, .int (nI (fb_ct (isF par (mcol cols rd) n 0).1 n)))]) hx hb dX1_buildSet_26 rfl hl (by decide) rfl (fun ls hl => ?_)
        refine lv_bipush (v := (nI (24))) hx hb dX1_buildSet_27 (by decide) ?_
        refine lv_istore_n (lv' := [(3, .int (nI (24))), (2, .int (-1)), (0, .ref (b 0)), (1, .int (nI (fb_ct (isF par (mcol cols rd) n 0).1 n)))]) hx hb dX1_buildSet_29 rfl hl (by decide) rfl (fun ls hl => ?_)
        refine lv_iconst (v := (nI (0))) hx hb dX1_buildSet_30 (by decide) ?_
        refine lv_istore (lv' := [(4, .int (nI (0))), (3, .int (nI (24))), (2, .int (-1)), (0, .ref (b 0)), (1, .int (nI (fb_ct (isF par (mcol cols rd) n 0).1 n)))]) hx hb dX1_buildSet_31 hl (by decide) rfl (fun ls hl => ?_)
        have loop_33 : ∀ (fuel : Nat) (k : Nat) (cc : Int32) (q : Nat), (k ≤ n) → (q ≤ 24) → (∀ u, u < n → latB (mcol cols rd) cc q u = !(isF par (mcol cols rd) n k).2 u) → n - k < fuel → ∀ (H : Heap) (locs : List Loc), MP E b n ids par cols rd nx (inR n (isF par (mcol cols rd) n k).1 isin) wi wo wf H → va_S (AM b) H0 H locs → ∀ (ls : Array Slot), lv_has ls 8 [(0, .ref (b 0)), (1, .int (nI (fb_ct (isF par (mcol cols rd) n k).1 n))), (2, .int (cc)), (3, .int (nI (q))), (4, .int (nI (k)))] → W p l e (k2_rm 1 22) s m args below meth c H locs 0 0 Q (F0 m 33 ls []) := by
          intro fuel
          induction fuel with
          | zero => intro k cc q hk hq hvis hm; exact absurd hm (Nat.not_lt_zero _)
          | succ fuel ih_33 =>
            intro k cc q hk hq hvis hm H locs hP hS ls hl
            refine lv_iload hx hb dX1_buildSet_33 (lv_at hl 4 rfl) ?_
            refine lv_aload_n hx hb dX1_buildSet_35 rfl (lv_at hl 0 rfl) ?_
            refine m_g0 hC hK hP dX1_buildSet_36 ?_
            refine nv_ge (tgt := 225) hx hb (by omega) (by omega) dX1_buildSet_39 (by decide) (fun c_39 => ?_) (fun c_39 => ?_)
            · refine lv_iload_n hx hb dX1_buildSet_225 rfl (lv_at hl 1 rfl) ?_
              exact hret _ _ _ _ _ (by rw [show k = n by omega] at hP; exact hP) hS dX1_buildSet_226 (by rw [show k = n by omega])
            · refine lv_bipush (v := (pe (none))) hx hb dX1_buildSet_42 (by decide) ?_
              refine lv_istore (lv' := [(5, .int (pe (none))), (0, .ref (b 0)), (1, .int (nI (fb_ct (isF par (mcol cols rd) n k).1 n))), (2, .int (cc)), (3, .int (nI (q))), (4, .int (nI (k)))]) hx hb dX1_buildSet_44 hl (by decide) rfl (fun ls hl => ?_)
              refine lv_iconst (v := (nI (0))) hx hb dX1_buildSet_46 (by decide) ?_
              refine lv_istore (lv' := [(6, .int (nI (0))), (5, .int (pe (none))), (0, .ref (b 0)), (1, .int (nI (fb_ct (isF par (mcol cols rd) n k).1 n))), (2, .int (cc)), (3, .int (nI (q))), (4, .int (nI (k)))]) hx hb dX1_buildSet_47 hl (by decide) rfl (fun ls hl => ?_)
              have loop_49 : ∀ (fuel : Nat) (j : Nat), (j ≤ n) → n - j < fuel → ∀ (H : Heap) (locs : List Loc), MP E b n ids par cols rd nx (inR n (isF par (mcol cols rd) n k).1 isin) wi wo wf H → va_S (AM b) H0 H locs → ∀ (ls : Array Slot), lv_has ls 8 [(0, .ref (b 0)), (1, .int (nI (fb_ct (isF par (mcol cols rd) n k).1 n))), (2, .int (cc)), (3, .int (nI (q))), (4, .int (nI (k))), (5, .int (pe (nvF (mcol cols rd) (isF par (mcol cols rd) n k).2 j))), (6, .int (nI (j)))] → W p l e (k2_rm 1 22) s m args below meth c H locs 0 0 Q (F0 m 49 ls []) := by
                intro fuel
                induction fuel with
                | zero => intro j hj hm; exact absurd hm (Nat.not_lt_zero _)
                | succ fuel ih_49 =>
                  intro j hj hm H locs hP hS ls hl
                  refine lv_iload hx hb dX1_buildSet_49 (lv_at hl 6 rfl) ?_
                  refine lv_aload_n hx hb dX1_buildSet_51 rfl (lv_at hl 0 rfl) ?_
                  refine m_g0 hC hK hP dX1_buildSet_52 ?_
                  refine nv_ge (tgt := 133) hx hb (by omega) (by omega) dX1_buildSet_55 (by decide) (fun c_55 => ?_) (fun c_55 => ?_)
                  · have hjn : j = n := by omega
                    obtain ⟨v, hv⟩ := isF_next (par := par) (col := mcol cols rd) (k := k) (n := n) (by omega)
                    have hvn := (nvF_lt hv).1
                    rw [hjn, hv, show pe (some v) = nI v from rfl] at hl
                    refine lv_aload_n hx hb dX1_buildSet_133 rfl (lv_at hl 0 rfl) ?_
                    refine lv_iload hx hb dX1_buildSet_134 (lv_at hl 5 rfl) ?_
                    refine roV (As := [.int (nI (v))]) hC kX1_46 (cM_col v (by omega) (by omega)) hK hP (m_rec hK hP) rfl rfl hl ⟨Nat.le_of_ble_eq_true rfl, Nat.le_of_ble_eq_true rfl⟩ (Nat.le_of_ble_eq_true rfl) dX1_buildSet_136 ⟨Nat.le_of_ble_eq_true rfl, Nat.le_of_ble_eq_true rfl⟩ ?_
                    refine lv_istore_n (lv' := [(2, .int (mcol cols rd v)), (0, .ref (b 0)), (1, .int (nI (fb_ct (isF par (mcol cols rd) n k).1 n))), (3, .int (nI (q))), (4, .int (nI (k))), (5, .int (nI (v))), (6, .int (nI (n)))]) hx hb dX1_buildSet_139 rfl hl (by decide) rfl (fun ls hl => ?_)
                    refine lv_iload hx hb dX1_buildSet_140 (lv_at hl 5 rfl) ?_
                    refine lv_istore_n (lv' := [(3, .int (nI (v))), (2, .int (mcol cols rd v)), (0, .ref (b 0)), (1, .int (nI (fb_ct (isF par (mcol cols rd) n k).1 n))), (4, .int (nI (k))), (5, .int (nI (v))), (6, .int (nI (n)))]) hx hb dX1_buildSet_142 rfl hl (by decide) rfl (fun ls hl => ?_)
                    refine lv_iconst (v := (b2i (true))) hx hb dX1_buildSet_143 (by decide) ?_
                    refine lv_istore (lv' := [(6, .int (b2i (true))), (3, .int (nI (v))), (2, .int (mcol cols rd v)), (0, .ref (b 0)), (1, .int (nI (fb_ct (isF par (mcol cols rd) n k).1 n))), (4, .int (nI (k))), (5, .int (nI (v)))]) hx hb dX1_buildSet_144 hl (by decide) rfl (fun ls hl => ?_)
                    refine lv_iconst (v := (nI (0))) hx hb dX1_buildSet_146 (by decide) ?_
                    refine lv_istore (lv' := [(7, .int (nI (0))), (6, .int (b2i (true))), (3, .int (nI (v))), (2, .int (mcol cols rd v)), (0, .ref (b 0)), (1, .int (nI (fb_ct (isF par (mcol cols rd) n k).1 n))), (4, .int (nI (k))), (5, .int (nI (v)))]) hx hb dX1_buildSet_147 hl (by decide) rfl (fun ls hl => ?_)
                    have loop_149 : ∀ (fuel : Nat) (i : Nat), (i ≤ n) → n - i < fuel → ∀ (H : Heap) (locs : List Loc), MP E b n ids par cols rd nx (inR n (isF par (mcol cols rd) n k).1 isin) wi wo wf H → va_S (AM b) H0 H locs → ∀ (ls : Array Slot), lv_has ls 8 [(0, .ref (b 0)), (1, .int (nI (fb_ct (isF par (mcol cols rd) n k).1 n))), (2, .int (mcol cols rd v)), (3, .int (nI (v))), (4, .int (nI (k))), (5, .int (nI (v))), (6, .int (b2i (!anyB (fun o => inR n (isF par (mcol cols rd) n k).1 isin o && nb par v o) i))), (7, .int (nI (i)))] → W p l e (k2_rm 1 22) s m args below meth c H locs 0 0 Q (F0 m 149 ls []) := by
                      intro fuel
                      induction fuel with
                      | zero => intro i hi hm; exact absurd hm (Nat.not_lt_zero _)
                      | succ fuel ih_149 =>
                        intro i hi hm H locs hP hS ls hl
                        refine lv_iload hx hb dX1_buildSet_149 (lv_at hl 7 rfl) ?_
                        refine lv_aload_n hx hb dX1_buildSet_151 rfl (lv_at hl 0 rfl) ?_
                        refine m_g0 hC hK hP dX1_buildSet_152 ?_
                        refine nv_ge (tgt := 197) hx hb (by omega) (by omega) dX1_buildSet_155 (by decide) (fun c_155 => ?_) (fun c_155 => ?_)
                        · have hin : i = n := by omega
                          rw [hin, free_any] at hl
                          have hfr : (!anyB (fun o => nb par v o && (isF par (mcol cols rd) n k).1 o) n) = !anyB (fun o => nb par v o && (isF par (mcol cols rd) n k).1 o) n := rfl
                          have hcn := (isF_put (isin := isin) hv hfr).2
                          refine lv_aload_n hx hb dX1_buildSet_197 rfl (lv_at hl 0 rfl) ?_
                          refine m_g6 hC hK hP dX1_buildSet_198 ?_
                          refine lv_iload hx hb dX1_buildSet_201 (lv_at hl 5 rfl) ?_
                          refine lv_iload hx hb dX1_buildSet_203 (lv_at hl 6 rfl) ?_
                          refine m_st5 (x := !anyB (fun o => nb par v o && (isF par (mcol cols rd) n k).1 o) n) hx hb hK hI hP hS (by omega) dX1_buildSet_205 (fun H locs hP hS => ?_)
                          refine lv_iload_n hx hb dX1_buildSet_206 rfl (lv_at hl 1 rfl) ?_
                          refine lv_iload hx hb dX1_buildSet_207 (lv_at hl 6 rfl) ?_
                          refine bv_eq (tgt := 216) hx hb dX1_buildSet_209 (by decide) (fun c_209 => ?_) (fun c_209 => ?_)
                          · refine lv_iconst (v := (nI (0))) hx hb dX1_buildSet_216 (by decide) ?_
                            refine lv_iadd hx hb dX1_buildSet_217 ?_
                            refine tI (nI ((fb_ct (isF par (mcol cols rd) n k).1 n) + 0)) (nI_add _ _) ?_
                            refine tI ((nI (fb_ct (isF par (mcol cols rd) n (k + 1)).1 n))) (by rw [hcn, c_209]; rfl) ?_
                            refine lv_istore_n (lv' := [(1, .int (nI (fb_ct (isF par (mcol cols rd) n (k + 1)).1 n))), (0, .ref (b 0)), (2, .int (mcol cols rd v)), (3, .int (nI (v))), (4, .int (nI (k))), (5, .int (nI (v))), (6, .int (b2i (!anyB (fun o => nb par v o && (isF par (mcol cols rd) n k).1 o) n))), (7, .int (nI (n)))]) hx hb dX1_buildSet_218 rfl hl (by decide) rfl (fun ls hl => ?_)
                            refine lv_iinc (v := (nI (k + 1))) (lv' := [(4, .int (nI (k + 1))), (1, .int (nI (fb_ct (isF par (mcol cols rd) n (k + 1)).1 n))), (0, .ref (b 0)), (2, .int (mcol cols rd v)), (3, .int (nI (v))), (5, .int (nI (v))), (6, .int (b2i (!anyB (fun o => nb par v o && (isF par (mcol cols rd) n k).1 o) n))), (7, .int (nI (n)))]) hx hb dX1_buildSet_219 hl (k := 4) rfl (nI_inc _) (by decide) rfl (fun ls hl => ?_)
                            refine lv_goto (tgt := 33) hx hb dX1_buildSet_222 (by decide) ?_
                            exact ih_33 (k + 1) (mcol cols rd v) v (by omega) (by omega) (by rw [isF_2 hv]; exact lat_step hvis hv) (by omega) _ _ (by rw [(isF_put hv hfr).1] at hP; exact hP) hS ls (lv_sub hl [2, 1, 3, 4, 0] rfl)
                          · refine lv_iconst (v := (nI (1))) hx hb dX1_buildSet_212 (by decide) ?_
                            refine lv_goto (tgt := 217) hx hb dX1_buildSet_213 (by decide) ?_
                            refine lv_iadd hx hb dX1_buildSet_217 ?_
                            refine tI (nI ((fb_ct (isF par (mcol cols rd) n k).1 n) + 1)) (nI_add _ _) ?_
                            refine tI ((nI (fb_ct (isF par (mcol cols rd) n (k + 1)).1 n))) (by rw [hcn, c_209]; rfl) ?_
                            refine lv_istore_n (lv' := [(1, .int (nI (fb_ct (isF par (mcol cols rd) n (k + 1)).1 n))), (0, .ref (b 0)), (2, .int (mcol cols rd v)), (3, .int (nI (v))), (4, .int (nI (k))), (5, .int (nI (v))), (6, .int (b2i (!anyB (fun o => nb par v o && (isF par (mcol cols rd) n k).1 o) n))), (7, .int (nI (n)))]) hx hb dX1_buildSet_218 rfl hl (by decide) rfl (fun ls hl => ?_)
                            refine lv_iinc (v := (nI (k + 1))) (lv' := [(4, .int (nI (k + 1))), (1, .int (nI (fb_ct (isF par (mcol cols rd) n (k + 1)).1 n))), (0, .ref (b 0)), (2, .int (mcol cols rd v)), (3, .int (nI (v))), (5, .int (nI (v))), (6, .int (b2i (!anyB (fun o => nb par v o && (isF par (mcol cols rd) n k).1 o) n))), (7, .int (nI (n)))]) hx hb dX1_buildSet_219 hl (k := 4) rfl (nI_inc _) (by decide) rfl (fun ls hl => ?_)
                            refine lv_goto (tgt := 33) hx hb dX1_buildSet_222 (by decide) ?_
                            exact ih_33 (k + 1) (mcol cols rd v) v (by omega) (by omega) (by rw [isF_2 hv]; exact lat_step hvis hv) (by omega) _ _ (by rw [(isF_put hv hfr).1] at hP; exact hP) hS ls (lv_sub hl [2, 1, 3, 4, 0] rfl)
                        · refine lv_iload hx hb dX1_buildSet_158 (lv_at hl 6 rfl) ?_
                          refine bv_eq (tgt := 188) hx hb dX1_buildSet_160 (by decide) (fun c_160 => ?_) (fun c_160 => ?_)
                          · refine lv_iconst (v := (b2i (false))) hx hb dX1_buildSet_188 (by decide) ?_
                            refine tI ((b2i (!anyB (fun o => inR n (isF par (mcol cols rd) n k).1 isin o && nb par v o) (i + 1)))) (cc_f1 c_160) ?_
                            refine lv_istore (lv' := [(6, .int (b2i (!anyB (fun o => inR n (isF par (mcol cols rd) n k).1 isin o && nb par v o) (i + 1)))), (0, .ref (b 0)), (1, .int (nI (fb_ct (isF par (mcol cols rd) n k).1 n))), (2, .int (mcol cols rd v)), (3, .int (nI (v))), (4, .int (nI (k))), (5, .int (nI (v))), (7, .int (nI (i)))]) hx hb dX1_buildSet_189 hl (by decide) rfl (fun ls hl => ?_)
                            refine lv_iinc (v := (nI (i + 1))) (lv' := [(7, .int (nI (i + 1))), (6, .int (b2i (!anyB (fun o => inR n (isF par (mcol cols rd) n k).1 isin o && nb par v o) (i + 1)))), (0, .ref (b 0)), (1, .int (nI (fb_ct (isF par (mcol cols rd) n k).1 n))), (2, .int (mcol cols rd v)), (3, .int (nI (v))), (4, .int (nI (k))), (5, .int (nI (v)))]) hx hb dX1_buildSet_191 hl (k := 7) rfl (nI_inc _) (by decide) rfl (fun ls hl => ?_)
                            refine lv_goto (tgt := 149) hx hb dX1_buildSet_194 (by decide) ?_
                            exact ih_149 (i + 1) (by omega) (by omega) _ _ (hP) hS ls (lv_sub hl [2, 3, 4, 5, 6, 7, 1, 0] rfl)
                          · refine lv_aload_n hx hb dX1_buildSet_163 rfl (lv_at hl 0 rfl) ?_
                            refine m_g6 hC hK hP dX1_buildSet_164 ?_
                            refine lv_iload hx hb dX1_buildSet_167 (lv_at hl 7 rfl) ?_
                            refine m_ld5 hx hb hK hP (by omega) dX1_buildSet_169 ?_
                            refine bv_eq (tgt := 184) hx hb dX1_buildSet_170 (by decide) (fun c_170 => ?_) (fun c_170 => ?_)
                            · refine lv_iconst (v := (b2i (true))) hx hb dX1_buildSet_184 (by decide) ?_
                              refine tI ((b2i (!anyB (fun o => inR n (isF par (mcol cols rd) n k).1 isin o && nb par v o) (i + 1)))) (cc_t c_160 (by rw [c_170]; rfl)) ?_
                              refine lv_goto (tgt := 189) hx hb dX1_buildSet_185 (by decide) ?_
                              refine lv_istore (lv' := [(6, .int (b2i (!anyB (fun o => inR n (isF par (mcol cols rd) n k).1 isin o && nb par v o) (i + 1)))), (0, .ref (b 0)), (1, .int (nI (fb_ct (isF par (mcol cols rd) n k).1 n))), (2, .int (mcol cols rd v)), (3, .int (nI (v))), (4, .int (nI (k))), (5, .int (nI (v))), (7, .int (nI (i)))]) hx hb dX1_buildSet_189 hl (by decide) rfl (fun ls hl => ?_)
                              refine lv_iinc (v := (nI (i + 1))) (lv' := [(7, .int (nI (i + 1))), (6, .int (b2i (!anyB (fun o => inR n (isF par (mcol cols rd) n k).1 isin o && nb par v o) (i + 1)))), (0, .ref (b 0)), (1, .int (nI (fb_ct (isF par (mcol cols rd) n k).1 n))), (2, .int (mcol cols rd v)), (3, .int (nI (v))), (4, .int (nI (k))), (5, .int (nI (v)))]) hx hb dX1_buildSet_191 hl (k := 7) rfl (nI_inc _) (by decide) rfl (fun ls hl => ?_)
                              refine lv_goto (tgt := 149) hx hb dX1_buildSet_194 (by decide) ?_
                              exact ih_149 (i + 1) (by omega) (by omega) _ _ (hP) hS ls (lv_sub hl [2, 3, 4, 5, 6, 7, 1, 0] rfl)
                            · refine lv_aload_n hx hb dX1_buildSet_173 rfl (lv_at hl 0 rfl) ?_
                              refine lv_iload hx hb dX1_buildSet_174 (lv_at hl 5 rfl) ?_
                              refine lv_iload hx hb dX1_buildSet_176 (lv_at hl 7 rfl) ?_
                              refine roV (As := [.int (nI (v)), .int (nI (i))]) hC kX1_66 (cM_nb v i hn hp (by omega) (by omega)) hK hP (m_rec hK hP) rfl rfl hl ⟨Nat.le_of_ble_eq_true rfl, Nat.le_of_ble_eq_true rfl⟩ (Nat.le_of_ble_eq_true rfl) dX1_buildSet_178 ⟨Nat.le_of_ble_eq_true rfl, Nat.le_of_ble_eq_true rfl⟩ ?_
                              refine bv_ne (tgt := 188) hx hb dX1_buildSet_181 (by decide) (fun c_181 => ?_) (fun c_181 => ?_)
                              · refine lv_iconst (v := (b2i (false))) hx hb dX1_buildSet_188 (by decide) ?_
                                refine tI ((b2i (!anyB (fun o => inR n (isF par (mcol cols rd) n k).1 isin o && nb par v o) (i + 1)))) (cc_f2 (by rw [c_170, c_181]; rfl)) ?_
                                refine lv_istore (lv' := [(6, .int (b2i (!anyB (fun o => inR n (isF par (mcol cols rd) n k).1 isin o && nb par v o) (i + 1)))), (0, .ref (b 0)), (1, .int (nI (fb_ct (isF par (mcol cols rd) n k).1 n))), (2, .int (mcol cols rd v)), (3, .int (nI (v))), (4, .int (nI (k))), (5, .int (nI (v))), (7, .int (nI (i)))]) hx hb dX1_buildSet_189 hl (by decide) rfl (fun ls hl => ?_)
                                refine lv_iinc (v := (nI (i + 1))) (lv' := [(7, .int (nI (i + 1))), (6, .int (b2i (!anyB (fun o => inR n (isF par (mcol cols rd) n k).1 isin o && nb par v o) (i + 1)))), (0, .ref (b 0)), (1, .int (nI (fb_ct (isF par (mcol cols rd) n k).1 n))), (2, .int (mcol cols rd v)), (3, .int (nI (v))), (4, .int (nI (k))), (5, .int (nI (v)))]) hx hb dX1_buildSet_191 hl (k := 7) rfl (nI_inc _) (by decide) rfl (fun ls hl => ?_)
                                refine lv_goto (tgt := 149) hx hb dX1_buildSet_194 (by decide) ?_
                                exact ih_149 (i + 1) (by omega) (by omega) _ _ (hP) hS ls (lv_sub hl [2, 3, 4, 5, 6, 7, 1, 0] rfl)
                              · refine lv_iconst (v := (b2i (true))) hx hb dX1_buildSet_184 (by decide) ?_
                                refine tI ((b2i (!anyB (fun o => inR n (isF par (mcol cols rd) n k).1 isin o && nb par v o) (i + 1)))) (cc_t c_160 (by rw [c_181, Bool.and_false])) ?_
                                refine lv_goto (tgt := 189) hx hb dX1_buildSet_185 (by decide) ?_
                                refine lv_istore (lv' := [(6, .int (b2i (!anyB (fun o => inR n (isF par (mcol cols rd) n k).1 isin o && nb par v o) (i + 1)))), (0, .ref (b 0)), (1, .int (nI (fb_ct (isF par (mcol cols rd) n k).1 n))), (2, .int (mcol cols rd v)), (3, .int (nI (v))), (4, .int (nI (k))), (5, .int (nI (v))), (7, .int (nI (i)))]) hx hb dX1_buildSet_189 hl (by decide) rfl (fun ls hl => ?_)
                                refine lv_iinc (v := (nI (i + 1))) (lv' := [(7, .int (nI (i + 1))), (6, .int (b2i (!anyB (fun o => inR n (isF par (mcol cols rd) n k).1 isin o && nb par v o) (i + 1)))), (0, .ref (b 0)), (1, .int (nI (fb_ct (isF par (mcol cols rd) n k).1 n))), (2, .int (mcol cols rd v)), (3, .int (nI (v))), (4, .int (nI (k))), (5, .int (nI (v)))]) hx hb dX1_buildSet_191 hl (k := 7) rfl (nI_inc _) (by decide) rfl (fun ls hl => ?_)
                                refine lv_goto (tgt := 149) hx hb dX1_buildSet_194 (by decide) ?_
                                exact ih_149 (i + 1) (by omega) (by omega) _ _ (hP) hS ls (lv_sub hl [2, 3, 4, 5, 6, 7, 1, 0] rfl)
                    exact loop_149 (n - 0 + 1) 0 (Nat.zero_le _) (Nat.lt_succ_self _) _ _ (hP) hS ls (lv_sub hl [4, 5, 3, 2, 6, 7, 1, 0] rfl)
                  · have join_91 : ∀ (H : Heap) (locs : List Loc), MP E b n ids par cols rd nx (inR n (isF par (mcol cols rd) n k).1 isin) wi wo wf H → va_S (AM b) H0 H locs → ∀ (ls : Array Slot), lv_has ls 8 [(0, .ref (b 0)), (1, .int (nI (fb_ct (isF par (mcol cols rd) n k).1 n))), (2, .int (cc)), (3, .int (nI (q))), (4, .int (nI (k))), (5, .int (pe (nvF (mcol cols rd) (isF par (mcol cols rd) n k).2 j))), (6, .int (nI (j))), (7, .int (b2i (!(isF par (mcol cols rd) n k).2 j)))] → W p l e (k2_rm 1 22) s m args below meth c H locs 0 0 Q (F0 m 91 ls []) := by
                      intro   H locs hP hS ls hl
                      refine lv_iload hx hb dX1_buildSet_91 (lv_at hl 7 rfl) ?_
                      refine bv_eq (tgt := 123) hx hb dX1_buildSet_93 (by decide) (fun c_93 => ?_) (fun c_93 => ?_)
                      · refine lv_iload hx hb dX1_buildSet_123 (lv_at hl 5 rfl) ?_
                        refine tI ((pe (nvF (mcol cols rd) (isF par (mcol cols rd) n k).2 (j + 1)))) (by rw [nvF_in (by simpa using c_93)]) ?_
                        refine lv_istore (lv' := [(5, .int (pe (nvF (mcol cols rd) (isF par (mcol cols rd) n k).2 (j + 1)))), (0, .ref (b 0)), (1, .int (nI (fb_ct (isF par (mcol cols rd) n k).1 n))), (2, .int (cc)), (3, .int (nI (q))), (4, .int (nI (k))), (6, .int (nI (j))), (7, .int (b2i (!(isF par (mcol cols rd) n k).2 j)))]) hx hb dX1_buildSet_125 hl (by decide) rfl (fun ls hl => ?_)
                        refine lv_iinc (v := (nI (j + 1))) (lv' := [(6, .int (nI (j + 1))), (5, .int (pe (nvF (mcol cols rd) (isF par (mcol cols rd) n k).2 (j + 1)))), (0, .ref (b 0)), (1, .int (nI (fb_ct (isF par (mcol cols rd) n k).1 n))), (2, .int (cc)), (3, .int (nI (q))), (4, .int (nI (k))), (7, .int (b2i (!(isF par (mcol cols rd) n k).2 j)))]) hx hb dX1_buildSet_127 hl (k := 6) rfl (nI_inc _) (by decide) rfl (fun ls hl => ?_)
                        refine lv_goto (tgt := 49) hx hb dX1_buildSet_130 (by decide) ?_
                        exact ih_49 (j + 1) (by omega) (by omega) _ _ (hP) hS ls (lv_sub hl [2, 3, 4, 5, 6, 1, 0] rfl)
                      · refine lv_iload hx hb dX1_buildSet_96 (lv_at hl 5 rfl) ?_
                        refine lv_bipush (v := (-7)) hx hb dX1_buildSet_98 (by decide) ?_
                        refine pv_eq7 (tgt := 118) hx hb (fun u hu => by have := (nvF_lt hu).1; omega) dX1_buildSet_100 (by decide) (fun c_100 => ?_) (fun c_100 => ?_)
                        · refine lv_iload hx hb dX1_buildSet_118 (lv_at hl 6 rfl) ?_
                          refine tI ((pe (nvF (mcol cols rd) (isF par (mcol cols rd) n k).2 (j + 1)))) (by rw [nvF_first (by simpa using c_93) c_100]; rfl) ?_
                          refine lv_goto (tgt := 125) hx hb dX1_buildSet_120 (by decide) ?_
                          refine lv_istore (lv' := [(5, .int (pe (nvF (mcol cols rd) (isF par (mcol cols rd) n k).2 (j + 1)))), (0, .ref (b 0)), (1, .int (nI (fb_ct (isF par (mcol cols rd) n k).1 n))), (2, .int (cc)), (3, .int (nI (q))), (4, .int (nI (k))), (6, .int (nI (j))), (7, .int (b2i (!(isF par (mcol cols rd) n k).2 j)))]) hx hb dX1_buildSet_125 hl (by decide) rfl (fun ls hl => ?_)
                          refine lv_iinc (v := (nI (j + 1))) (lv' := [(6, .int (nI (j + 1))), (5, .int (pe (nvF (mcol cols rd) (isF par (mcol cols rd) n k).2 (j + 1)))), (0, .ref (b 0)), (1, .int (nI (fb_ct (isF par (mcol cols rd) n k).1 n))), (2, .int (cc)), (3, .int (nI (q))), (4, .int (nI (k))), (7, .int (b2i (!(isF par (mcol cols rd) n k).2 j)))]) hx hb dX1_buildSet_127 hl (k := 6) rfl (nI_inc _) (by decide) rfl (fun ls hl => ?_)
                          refine lv_goto (tgt := 49) hx hb dX1_buildSet_130 (by decide) ?_
                          exact ih_49 (j + 1) (by omega) (by omega) _ _ (hP) hS ls (lv_sub hl [2, 3, 4, 5, 6, 1, 0] rfl)
                        · obtain ⟨z, hz⟩ := ex_some c_100
                          have hzj := (nvF_lt hz).1
                          refine lv_aload_n hx hb dX1_buildSet_103 rfl (lv_at hl 0 rfl) ?_
                          refine lv_iload hx hb dX1_buildSet_104 (lv_at hl 6 rfl) ?_
                          refine roV (As := [.int (nI (j))]) hC kX1_46 (cM_col j (by omega) (by omega)) hK hP (m_rec hK hP) rfl rfl hl ⟨Nat.le_of_ble_eq_true rfl, Nat.le_of_ble_eq_true rfl⟩ (Nat.le_of_ble_eq_true rfl) dX1_buildSet_106 ⟨Nat.le_of_ble_eq_true rfl, Nat.le_of_ble_eq_true rfl⟩ ?_
                          refine lv_aload_n hx hb dX1_buildSet_109 rfl (lv_at hl 0 rfl) ?_
                          refine lv_iload hx hb dX1_buildSet_110 (lv_at hl 5 rfl) ?_
                          refine tI ((nI (z))) (by rw [hz]; rfl) ?_
                          refine roV (As := [.int (nI (z))]) hC kX1_46 (cM_col z (by omega) (by omega)) hK hP (m_rec hK hP) rfl rfl hl ⟨Nat.le_of_ble_eq_true rfl, Nat.le_of_ble_eq_true rfl⟩ (Nat.le_of_ble_eq_true rfl) dX1_buildSet_112 ⟨Nat.le_of_ble_eq_true rfl, Nat.le_of_ble_eq_true rfl⟩ ?_
                          refine lv_icmp_ge (tgt := 123) hx hb dX1_buildSet_115 (by decide) (fun c_115 => ?_) (fun c_115 => ?_)
                          · refine lv_iload hx hb dX1_buildSet_123 (lv_at hl 5 rfl) ?_
                            refine tI ((pe (nvF (mcol cols rd) (isF par (mcol cols rd) n k).2 (j + 1)))) (by rw [nvF_ge (by simpa using c_93) hz (Int32.not_lt.mpr c_115)]) ?_
                            refine lv_istore (lv' := [(5, .int (pe (nvF (mcol cols rd) (isF par (mcol cols rd) n k).2 (j + 1)))), (0, .ref (b 0)), (1, .int (nI (fb_ct (isF par (mcol cols rd) n k).1 n))), (2, .int (cc)), (3, .int (nI (q))), (4, .int (nI (k))), (6, .int (nI (j))), (7, .int (b2i (!(isF par (mcol cols rd) n k).2 j)))]) hx hb dX1_buildSet_125 hl (by decide) rfl (fun ls hl => ?_)
                            refine lv_iinc (v := (nI (j + 1))) (lv' := [(6, .int (nI (j + 1))), (5, .int (pe (nvF (mcol cols rd) (isF par (mcol cols rd) n k).2 (j + 1)))), (0, .ref (b 0)), (1, .int (nI (fb_ct (isF par (mcol cols rd) n k).1 n))), (2, .int (cc)), (3, .int (nI (q))), (4, .int (nI (k))), (7, .int (b2i (!(isF par (mcol cols rd) n k).2 j)))]) hx hb dX1_buildSet_127 hl (k := 6) rfl (nI_inc _) (by decide) rfl (fun ls hl => ?_)
                            refine lv_goto (tgt := 49) hx hb dX1_buildSet_130 (by decide) ?_
                            exact ih_49 (j + 1) (by omega) (by omega) _ _ (hP) hS ls (lv_sub hl [2, 3, 4, 5, 6, 1, 0] rfl)
                          · refine lv_iload hx hb dX1_buildSet_118 (lv_at hl 6 rfl) ?_
                            refine tI ((pe (nvF (mcol cols rd) (isF par (mcol cols rd) n k).2 (j + 1)))) (by rw [nvF_lt' (by simpa using c_93) hz (Int32.not_le.mp c_115)]; rfl) ?_
                            refine lv_goto (tgt := 125) hx hb dX1_buildSet_120 (by decide) ?_
                            refine lv_istore (lv' := [(5, .int (pe (nvF (mcol cols rd) (isF par (mcol cols rd) n k).2 (j + 1)))), (0, .ref (b 0)), (1, .int (nI (fb_ct (isF par (mcol cols rd) n k).1 n))), (2, .int (cc)), (3, .int (nI (q))), (4, .int (nI (k))), (6, .int (nI (j))), (7, .int (b2i (!(isF par (mcol cols rd) n k).2 j)))]) hx hb dX1_buildSet_125 hl (by decide) rfl (fun ls hl => ?_)
                            refine lv_iinc (v := (nI (j + 1))) (lv' := [(6, .int (nI (j + 1))), (5, .int (pe (nvF (mcol cols rd) (isF par (mcol cols rd) n k).2 (j + 1)))), (0, .ref (b 0)), (1, .int (nI (fb_ct (isF par (mcol cols rd) n k).1 n))), (2, .int (cc)), (3, .int (nI (q))), (4, .int (nI (k))), (7, .int (b2i (!(isF par (mcol cols rd) n k).2 j)))]) hx hb dX1_buildSet_127 hl (k := 6) rfl (nI_inc _) (by decide) rfl (fun ls hl => ?_)
                            refine lv_goto (tgt := 49) hx hb dX1_buildSet_130 (by decide) ?_
                            exact ih_49 (j + 1) (by omega) (by omega) _ _ (hP) hS ls (lv_sub hl [2, 3, 4, 5, 6, 1, 0] rfl)
                    refine lv_aload_n hx hb dX1_buildSet_58 rfl (lv_at hl 0 rfl) ?_
                    refine lv_iload hx hb dX1_buildSet_59 (lv_at hl 6 rfl) ?_
                    refine roV (As := [.int (nI (j))]) hC kX1_46 (cM_col j (by omega) (by omega)) hK hP (m_rec hK hP) rfl rfl hl ⟨Nat.le_of_ble_eq_true rfl, Nat.le_of_ble_eq_true rfl⟩ (Nat.le_of_ble_eq_true rfl) dX1_buildSet_61 ⟨Nat.le_of_ble_eq_true rfl, Nat.le_of_ble_eq_true rfl⟩ ?_
                    refine lv_iload_n hx hb dX1_buildSet_64 rfl (lv_at hl 2 rfl) ?_
                    refine lv_icmp_gt (tgt := 84) hx hb dX1_buildSet_65 (by decide) (fun c_65 => ?_) (fun c_65 => ?_)
                    · refine lv_iconst (v := (b2i (true))) hx hb dX1_buildSet_84 (by decide) ?_
                      refine tI ((b2i (!(isF par (mcol cols rd) n k).2 j))) (by rw [← hvis j (by omega)]; simp [latB, c_65, b2i]) ?_
                      refine lv_goto (tgt := 89) hx hb dX1_buildSet_85 (by decide) ?_
                      refine lv_istore (lv' := [(7, .int (b2i (!(isF par (mcol cols rd) n k).2 j))), (0, .ref (b 0)), (1, .int (nI (fb_ct (isF par (mcol cols rd) n k).1 n))), (2, .int (cc)), (3, .int (nI (q))), (4, .int (nI (k))), (5, .int (pe (nvF (mcol cols rd) (isF par (mcol cols rd) n k).2 j))), (6, .int (nI (j)))]) hx hb dX1_buildSet_89 hl (by decide) rfl (fun ls hl => ?_)
                      exact join_91   _ _ (hP) hS ls (lv_sub hl [1, 2, 3, 4, 5, 6, 7, 0] rfl)
                    · refine lv_aload_n hx hb dX1_buildSet_68 rfl (lv_at hl 0 rfl) ?_
                      refine lv_iload hx hb dX1_buildSet_69 (lv_at hl 6 rfl) ?_
                      refine roV (As := [.int (nI (j))]) hC kX1_46 (cM_col j (by omega) (by omega)) hK hP (m_rec hK hP) rfl rfl hl ⟨Nat.le_of_ble_eq_true rfl, Nat.le_of_ble_eq_true rfl⟩ (Nat.le_of_ble_eq_true rfl) dX1_buildSet_71 ⟨Nat.le_of_ble_eq_true rfl, Nat.le_of_ble_eq_true rfl⟩ ?_
                      refine lv_iload_n hx hb dX1_buildSet_74 rfl (lv_at hl 2 rfl) ?_
                      refine lv_icmp_ne (tgt := 88) hx hb dX1_buildSet_75 (by decide) (fun c_75 => ?_) (fun c_75 => ?_)
                      · refine lv_iconst (v := (b2i (false))) hx hb dX1_buildSet_88 (by decide) ?_
                        refine tI ((b2i (!(isF par (mcol cols rd) n k).2 j))) (by rw [← hvis j (by omega)]; simp [latB, c_65, c_75, b2i]) ?_
                        refine lv_istore (lv' := [(7, .int (b2i (!(isF par (mcol cols rd) n k).2 j))), (0, .ref (b 0)), (1, .int (nI (fb_ct (isF par (mcol cols rd) n k).1 n))), (2, .int (cc)), (3, .int (nI (q))), (4, .int (nI (k))), (5, .int (pe (nvF (mcol cols rd) (isF par (mcol cols rd) n k).2 j))), (6, .int (nI (j)))]) hx hb dX1_buildSet_89 hl (by decide) rfl (fun ls hl => ?_)
                        exact join_91   _ _ (hP) hS ls (lv_sub hl [1, 2, 3, 4, 5, 6, 7, 0] rfl)
                      · refine lv_iload hx hb dX1_buildSet_78 (lv_at hl 6 rfl) ?_
                        refine lv_iload_n hx hb dX1_buildSet_80 rfl (lv_at hl 3 rfl) ?_
                        refine nv_le (tgt := 88) hx hb (by omega) (by omega) dX1_buildSet_81 (by decide) (fun c_81 => ?_) (fun c_81 => ?_)
                        · refine lv_iconst (v := (b2i (false))) hx hb dX1_buildSet_88 (by decide) ?_
                          refine tI ((b2i (!(isF par (mcol cols rd) n k).2 j))) (by rw [← hvis j (by omega)]; simp [latB, c_65, show ¬ q < j by omega, b2i]) ?_
                          refine lv_istore (lv' := [(7, .int (b2i (!(isF par (mcol cols rd) n k).2 j))), (0, .ref (b 0)), (1, .int (nI (fb_ct (isF par (mcol cols rd) n k).1 n))), (2, .int (cc)), (3, .int (nI (q))), (4, .int (nI (k))), (5, .int (pe (nvF (mcol cols rd) (isF par (mcol cols rd) n k).2 j))), (6, .int (nI (j)))]) hx hb dX1_buildSet_89 hl (by decide) rfl (fun ls hl => ?_)
                          exact join_91   _ _ (hP) hS ls (lv_sub hl [1, 2, 3, 4, 5, 6, 7, 0] rfl)
                        · refine lv_iconst (v := (b2i (true))) hx hb dX1_buildSet_84 (by decide) ?_
                          refine tI ((b2i (!(isF par (mcol cols rd) n k).2 j))) (by rw [← hvis j (by omega)]; simp [latB, c_75, c_81, b2i]) ?_
                          refine lv_goto (tgt := 89) hx hb dX1_buildSet_85 (by decide) ?_
                          refine lv_istore (lv' := [(7, .int (b2i (!(isF par (mcol cols rd) n k).2 j))), (0, .ref (b 0)), (1, .int (nI (fb_ct (isF par (mcol cols rd) n k).1 n))), (2, .int (cc)), (3, .int (nI (q))), (4, .int (nI (k))), (5, .int (pe (nvF (mcol cols rd) (isF par (mcol cols rd) n k).2 j))), (6, .int (nI (j)))]) hx hb dX1_buildSet_89 hl (by decide) rfl (fun ls hl => ?_)
                          exact join_91   _ _ (hP) hS ls (lv_sub hl [1, 2, 3, 4, 5, 6, 7, 0] rfl)
              exact loop_49 (n - 0 + 1) 0 (Nat.zero_le _) (Nat.lt_succ_self _) _ _ (hP) hS ls (lv_sub hl [2, 3, 4, 5, 6, 1, 0] rfl)
        exact loop_33 (n - 0 + 1) 0 (-1) 24 (Nat.zero_le _) (Nat.le_refl _) (fun u hu => by rw [lat_0 hc0 hu]; rfl) (Nat.lt_succ_self _) _ _ (hP) hS ls (lv_sub hl [3, 4, 2, 1, 0] rfl)
      · refine lv_aload_n hx hb dX1_buildSet_12 rfl (lv_at hl 0 rfl) ?_
        refine m_g6 hC hK hP dX1_buildSet_13 ?_
        refine lv_iload_n hx hb dX1_buildSet_16 rfl (lv_at hl 2 rfl) ?_
        refine lv_iconst (v := (b2i (false))) hx hb dX1_buildSet_17 (by decide) ?_
        refine m_st5 (x := false) hx hb hK hI hP hS (by omega) dX1_buildSet_18 (fun H locs hP hS => ?_)
        refine lv_iinc (v := (nI (k + 1))) (lv' := [(2, .int (nI (k + 1))), (0, .ref (b 0)), (1, .int (nI (fb_ct (isF par (mcol cols rd) n 0).1 n)))]) hx hb dX1_buildSet_19 hl (k := 2) rfl (nI_inc _) (by decide) rfl (fun ls hl => ?_)
        refine lv_goto (tgt := 4) hx hb dX1_buildSet_22 (by decide) ?_
        exact ih_4 (k + 1) (by omega) (by omega) _ _ (by rw [clF_s] at hP; exact hP) hS ls (lv_sub hl [1, 2, 0] rfl)
  exact loop_4 (n - 0 + 1) 0 (Nat.zero_le _) (Nat.lt_succ_self _) _ _ (hP) hS ls (lv_sub hl [2, 1, 0] rfl)
set_option maxRecDepth 100000 in
set_option maxHeartbeats 4000000 in
theorem cM_inSet {l : Launch} {E : EE} {b : Nat → Nat} {n : Nat} {ids : Nat → Int32} {par : Nat → Option Nat} {cols : Nat → Int32} {rd : Nat} {nx : Nat → Int32} {isin : Nat → Bool} {wi wo : Nat → Nat} {wf : Nat → Option Nat} (x : Int32) (hI : inj 9 b)(hn : n ≤ 24)(hp : PW n par)(hrd : rd < 100000)(hc0 : ∀ v, v < n → ¬ mcol cols rd v < 0) : WR l E (MP E b n ids par cols rd nx isin wi wo wf) (AM b) yX1_inIndependentSet cX1_inIndependentSet 2 (some .int) 3 64 [.ref (b 0), .int (x)] (some (.int (oN (vN n x) (fun v => if propB n par (mcol cols rd) = true then b2i ((isF par (mcol cols rd) n n).1 v) else -5)))) (MX E b n ids par cols rd) := by
  refine WR.mkI (C := RX1) rfl rfl (by decide) rfl (Nat.le_of_ble_eq_true rfl) ?_
  intro p e s m args below meth c H0 Q hC hK hP hret ls hl
  obtain ⟨hx, hb, hml, hown, hts⟩ := id hC
  have hl : lv_has ls 2 [(0, .ref (b 0)), (1, .int (x))] := hl
  have hS : va_S (AM b) H0 H0 [] := va_S.rf
  have hP : MP E b n ids par cols rd nx isin wi wo wf H0 := hP
  refine lv_aload_n hx hb dX1_inIndependentSet_0 rfl (lv_at hl 0 rfl) ?_
  refine lv_iload_n hx hb dX1_inIndependentSet_1 rfl (lv_at hl 1 rfl) ?_
  refine roV (As := [.int (x)]) hC kX1_58 (cM_isNode ((x)) hn) hK hP (m_rec hK hP) rfl rfl hl ⟨Nat.le_of_ble_eq_true rfl, Nat.le_of_ble_eq_true rfl⟩ (Nat.le_of_ble_eq_true rfl) dX1_inIndependentSet_2 ⟨Nat.le_of_ble_eq_true rfl, Nat.le_of_ble_eq_true rfl⟩ ?_
  refine bv_ne (tgt := 10) hx hb dX1_inIndependentSet_5 (by decide) (fun c_5 => ?_) (fun c_5 => ?_)
  · obtain ⟨v, hv, rfl⟩ := vN_t hn c_5
    refine lv_aload_n hx hb dX1_inIndependentSet_10 rfl (lv_at hl 0 rfl) ?_
    refine roV (As := []) hC kX1_89 (cM_conflicts  hn hp hrd) hK hP (m_rec hK hP) rfl rfl hl ⟨Nat.le_of_ble_eq_true rfl, Nat.le_of_ble_eq_true rfl⟩ (Nat.le_of_ble_eq_true rfl) dX1_inIndependentSet_11 ⟨Nat.le_of_ble_eq_true rfl, Nat.le_of_ble_eq_true rfl⟩ ?_
    refine lv_if_le (tgt := 20) hx hb dX1_inIndependentSet_14 (by decide) (fun c_14 => ?_) (fun c_14 => ?_)
    · rw [prop_0 hn] at c_14
      refine lv_aload_n hx hb dX1_inIndependentSet_20 rfl (lv_at hl 0 rfl) ?_
      refine wrV (As := []) hC kX1_110 (cM_build  hI hn hp hrd hc0) hK hP (m_rec hK hP) hS (fun _ h => h) rfl rfl hl ⟨Nat.le_of_ble_eq_true rfl, Nat.le_of_ble_eq_true rfl⟩ (Nat.le_of_ble_eq_true rfl) dX1_inIndependentSet_21 ⟨Nat.le_of_ble_eq_true rfl, Nat.le_of_ble_eq_true rfl⟩ (fun H locs hP hS _ _ => ?_)
      refine lv_pop hx hb dX1_inIndependentSet_24 rfl ?_
      refine lv_aload_n hx hb dX1_inIndependentSet_25 rfl (lv_at hl 0 rfl) ?_
      refine m_g6 hC hK hP dX1_inIndependentSet_26 ?_
      refine lv_iload_n hx hb dX1_inIndependentSet_29 rfl (lv_at hl 1 rfl) ?_
      refine m_ld5 hx hb hK hP (by omega) dX1_inIndependentSet_30 ?_
      refine tI ((b2i ((isF par (mcol cols rd) n n).1 v))) (by rw [inR_lt hv]) ?_
      refine bv_eq (tgt := 38) hx hb dX1_inIndependentSet_31 (by decide) (fun c_31 => ?_) (fun c_31 => ?_)
      · refine lv_iconst (v := (0)) hx hb dX1_inIndependentSet_38 (by decide) ?_
        exact hret _ _ _ _ _ (⟨_, _, _, _, _, hP⟩) hS dX1_inIndependentSet_39 (by rw [oN_in hn hv, if_pos c_14, c_31]; rfl)
      · refine lv_iconst (v := (1)) hx hb dX1_inIndependentSet_34 (by decide) ?_
        refine lv_goto (tgt := 39) hx hb dX1_inIndependentSet_35 (by decide) ?_
        exact hret _ _ _ _ _ (⟨_, _, _, _, _, hP⟩) hS dX1_inIndependentSet_39 (by rw [oN_in hn hv, if_pos c_14, c_31]; rfl)
    · rw [prop_0 hn] at c_14
      refine lv_bipush (v := (-5)) hx hb dX1_inIndependentSet_17 (by decide) ?_
      exact hret _ _ _ _ _ (⟨_, _, _, _, _, hP⟩) hS dX1_inIndependentSet_19 (by rw [oN_in hn hv, if_neg c_14])
  · refine lv_iconst (v := (-1)) hx hb dX1_inIndependentSet_8 (by decide) ?_
    exact hret _ _ _ _ _ (⟨_, _, _, _, _, hP⟩) hS dX1_inIndependentSet_9 ((oN_out c_5 _).symm)
set_option maxRecDepth 100000 in
set_option maxHeartbeats 4000000 in
theorem cM_setSize {l : Launch} {E : EE} {b : Nat → Nat} {n : Nat} {ids : Nat → Int32} {par : Nat → Option Nat} {cols : Nat → Int32} {rd : Nat} {nx : Nat → Int32} {isin : Nat → Bool} {wi wo : Nat → Nat} {wf : Nat → Option Nat}  (hI : inj 9 b)(hn : n ≤ 24)(hp : PW n par)(hrd : rd < 100000)(hc0 : ∀ v, v < n → ¬ mcol cols rd v < 0) : WR l E (MP E b n ids par cols rd nx isin wi wo wf) (AM b) yX1_independentSetSize cX1_independentSetSize 1 (some .int) 3 64 [.ref (b 0)] (some (.int (if propB n par (mcol cols rd) = true then nI (fb_ct (isF par (mcol cols rd) n n).1 n) else -5))) (MX E b n ids par cols rd) := by
  refine WR.mkI (C := RX1) rfl rfl (by decide) rfl (Nat.le_of_ble_eq_true rfl) ?_
  intro p e s m args below meth c H0 Q hC hK hP hret ls hl
  obtain ⟨hx, hb, hml, hown, hts⟩ := id hC
  have hl : lv_has ls 1 [(0, .ref (b 0))] := hl
  have hS : va_S (AM b) H0 H0 [] := va_S.rf
  have hP : MP E b n ids par cols rd nx isin wi wo wf H0 := hP
  refine lv_aload_n hx hb dX1_independentSetSize_0 rfl (lv_at hl 0 rfl) ?_
  refine roV (As := []) hC kX1_89 (cM_conflicts  hn hp hrd) hK hP (m_rec hK hP) rfl rfl hl ⟨Nat.le_of_ble_eq_true rfl, Nat.le_of_ble_eq_true rfl⟩ (Nat.le_of_ble_eq_true rfl) dX1_independentSetSize_1 ⟨Nat.le_of_ble_eq_true rfl, Nat.le_of_ble_eq_true rfl⟩ ?_
  refine lv_if_le (tgt := 12) hx hb dX1_independentSetSize_4 (by decide) (fun c_4 => ?_) (fun c_4 => ?_)
  · rw [prop_0 hn] at c_4
    refine lv_aload_n hx hb dX1_independentSetSize_12 rfl (lv_at hl 0 rfl) ?_
    refine wrV (As := []) hC kX1_110 (cM_build  hI hn hp hrd hc0) hK hP (m_rec hK hP) hS (fun _ h => h) rfl rfl hl ⟨Nat.le_of_ble_eq_true rfl, Nat.le_of_ble_eq_true rfl⟩ (Nat.le_of_ble_eq_true rfl) dX1_independentSetSize_13 ⟨Nat.le_of_ble_eq_true rfl, Nat.le_of_ble_eq_true rfl⟩ (fun H locs hP hS _ _ => ?_)
    exact hret _ _ _ _ _ (⟨_, _, _, _, _, hP⟩) hS dX1_independentSetSize_16 (by rw [if_pos c_4])
  · rw [prop_0 hn] at c_4
    refine lv_bipush (v := (-5)) hx hb dX1_independentSetSize_7 (by decide) ?_
    refine lv_goto (tgt := 16) hx hb dX1_independentSetSize_9 (by decide) ?_
    exact hret _ _ _ _ _ (⟨_, _, _, _, _, hP⟩) hS dX1_independentSetSize_16 (by rw [if_neg c_4])
