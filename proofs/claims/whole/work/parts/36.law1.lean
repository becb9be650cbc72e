-- THE LAW'S BODY, ONE TURN (laid by wip/whole/gen/law.py)
abbrev A0 (s : State) : Nat → Prop := fun q => s.heap.size ≤ q
def LX (p : Program) (s : State) (m : MethodId) (c : Code) (b L : Nat) (xs : Nat → Int32) (E : EE) (a bb : Nat → Nat) : Prop :=
  CallFix p m c cL_law 4 s #[Value.ref b] TW RL ∧ KK E s ∧ va_X b L xs s s.heap ∧ b < s.heap.size ∧ inj 22 a ∧ inj 9 bb ∧ (∀ q, AX a q → s.heap.size ≤ q) ∧ (∀ q, AM bb q → s.heap.size ≤ q) ∧ ∀ q, AX a q → ¬ AM bb q
/-- the two objects in step, k turns done -/
def ST (E : EE) (a bb : Nat → Nat) (k : Nat) (H : Heap) : Prop := ∃ (n : Nat) (ids : Nat → Int32) (par : Nat → Option Nat) (rows : Nat → Nat → Int32) (pr rd : Nat) (cols : Nat → Int32), XP E a ids par rows pr pr n rd H ∧ MX E bb n ids par cols rd H ∧ REL n ids par rows pr rd cols ∧ rd ≤ 22 * k
def KC (p : Program) (l : Launch) (e : Env) (s : State) (m : MethodId) (below : List Frame) (meth : Method) (c : Code) (b : Nat) (E : EE) (a bb : Nat → Nat) (k : Nat) (Q : State → Prop) : Prop := ∀ (H1 : Heap) (locs1 : List Loc) (ls1 : Array Slot), ST E a bb (k + 1) H1 → va_S (A0 s) s.heap H1 locs1 → lv_has ls1 4 [(3, .int (nI (3 * k))), (2, .ref (bb 0)), (1, .ref (a 0)), (0, .ref b)] → W p l e room_1 s m #[Value.ref b] below meth c H1 locs1 31 1091 Q (F0 m 653 ls1 [])
section
variable {p : Program} {l : Launch} {e : Env} {s : State} {m : MethodId} {below : List Frame} {meth : Method} {c : Code} {H : Heap} {locs : List Loc} {Q : State → Prop} {b L k : Nat} {xs : Nat → Int32} {E : EE} {a bb : Nat → Nat} {ls : Array Slot} {st : List Value} {cells slots : Nat}
theorem law_arg1 {pc : Nat} (C0 : LX p s m c b L xs E a bb) (hk : 3 * k + 2 < L) (hL : L ≤ 1536) (hS : va_S (A0 s) s.heap H locs) (hl : lv_has ls 4 [(3, .int (nI (3 * k))), (2, .ref (bb 0)), (1, .ref (a 0)), (0, .ref b)]) (d0 : decode cL_law pc = .ok (.aload_n 0, 1)) (d1 : decode cL_law (pc + 1) = .ok (.iload_n 3, 1)) (d2 : decode cL_law (pc + 2) = .ok (.iconst 1, 1)) (d3 : decode cL_law (pc + 3) = .ok (.iadd, 1)) (d4 : decode cL_law (pc + 4) = .ok (.iaload, 1)) (kk : W p l e room_1 s m #[Value.ref b] below meth c H locs cells slots Q (F0 m (pc + 5) ls (.int (xs (3 * k + 1)) :: st))) : W p l e room_1 s m #[Value.ref b] below meth c H locs cells slots Q (F0 m pc ls st) := by
  obtain ⟨hC, hK, hX, hbl, -⟩ := id C0
  have hx := hC.1
  have hb := hC.2.1
  have hbA : ¬ A0 s b := Nat.not_le.mpr hbl
  refine lv_aload_n hx hb d0 rfl (lv_at hl 3 rfl) ?_
  refine lv_iload_n hx hb d1 rfl (lv_at hl 0 rfl) ?_
  refine lv_iconst (v := nI 1) hx hb d2 (by decide) ?_
  refine lv_iadd hx hb d3 ?_
  refine tI (nI (3 * k + 1)) (nI_add _ _) ?_
  refine va_sld hx hb hX hbl hbA hS (vp_in_nI (show 3 * k + 1 < L by omega) (by omega)) d4 ?_
  refine tI (xs (3 * k + 1)) (by rw [nI_clamp (by omega)]) ?_
  exact kk
theorem law_arg2 {pc : Nat} (C0 : LX p s m c b L xs E a bb) (hk : 3 * k + 2 < L) (hL : L ≤ 1536) (hS : va_S (A0 s) s.heap H locs) (hl : lv_has ls 4 [(3, .int (nI (3 * k))), (2, .ref (bb 0)), (1, .ref (a 0)), (0, .ref b)]) (d0 : decode cL_law pc = .ok (.aload_n 0, 1)) (d1 : decode cL_law (pc + 1) = .ok (.iload_n 3, 1)) (d2 : decode cL_law (pc + 2) = .ok (.iconst 2, 1)) (d3 : decode cL_law (pc + 3) = .ok (.iadd, 1)) (d4 : decode cL_law (pc + 4) = .ok (.iaload, 1)) (kk : W p l e room_1 s m #[Value.ref b] below meth c H locs cells slots Q (F0 m (pc + 5) ls (.int (xs (3 * k + 2)) :: st))) : W p l e room_1 s m #[Value.ref b] below meth c H locs cells slots Q (F0 m pc ls st) := by
  obtain ⟨hC, hK, hX, hbl, -⟩ := id C0
  have hx := hC.1
  have hb := hC.2.1
  have hbA : ¬ A0 s b := Nat.not_le.mpr hbl
  refine lv_aload_n hx hb d0 rfl (lv_at hl 3 rfl) ?_
  refine lv_iload_n hx hb d1 rfl (lv_at hl 0 rfl) ?_
  refine lv_iconst (v := nI 2) hx hb d2 (by decide) ?_
  refine lv_iadd hx hb d3 ?_
  refine tI (nI (3 * k + 2)) (nI_add _ _) ?_
  refine va_sld hx hb hX hbl hbA hS (vp_in_nI (show 3 * k + 2 < L by omega) (by omega)) d4 ?_
  refine tI (xs (3 * k + 2)) (by rw [nI_clamp (by omega)]) ?_
  exact kk
theorem st_keep {n rd pr : Nat} {ids : Nat → Int32} {par : Nat → Option Nat} {rows : Nat → Nat → Int32} {cols : Nat → Int32} (hP : XP E a ids par rows pr pr n rd H) (hM : MX E bb n ids par cols rd H) (hR : REL n ids par rows pr rd cols) (hrd : rd ≤ 22 * k) : ST E a bb (k + 1) H := ⟨n, ids, par, rows, pr, rd, cols, hP, hM, hR, by omega⟩
end
theorem sp_ok {n : Nat} {x y : Int32} {q : Nat × Nat} (h : okSP n x y = some q) : q.2 < n ∧ q.2 ≠ q.1 := by
  unfold okSP at h
  cases h1 : vN n x with
  | none => rw [h1] at h; cases h
  | some v =>
    cases h2 : vN n y with
    | none => rw [h1, h2] at h; cases h
    | some u =>
      rw [h1, h2] at h
      simp only at h
      by_cases e : v = u
      · rw [if_pos e] at h; cases h
      · rw [if_neg e] at h
        cases h
        refine ⟨?_, Ne.symm e⟩
        unfold vN at h2
        by_cases g : y < 0 ∨ nI n ≤ y
        · rw [if_pos g] at h2; cases h2
        · rw [if_neg g] at h2
          cases h2
          have g1 : ¬ y < 0 := fun z => g (Or.inl z)
          have g2 : ¬ nI n ≤ y := fun z => g (Or.inr z)
          obtain ⟨j, hj, rfl⟩ := nI_of g1
          rw [nI_clamp hj]
          rcases Nat.lt_or_ge j n with z | z
          · exact z
          · exact absurd (nI_le z hj) g2
theorem vn_lt {n v : Nat} {x : Int32} (hn : n ≤ 24) (h : vN n x = some v) : v < n := by
  rcases vN_cases hn x with ⟨h1, -⟩ | ⟨u, hu, -, h1⟩
  · rw [h] at h1; cases h1
  · rw [h] at h1; cases h1; exact hu
theorem sc_ok {n v : Nat} {x y : Int32} (hn : n ≤ 24) (h : okSC n x y = some v) : v < n ∧ vV y = true := by
  unfold okSC at h
  by_cases e : vV y = true
  · rw [if_pos e] at h; exact ⟨vn_lt hn h, e⟩
  · rw [if_neg e] at h; cases h
theorem pw_up {n v u : Nat} {par : Nat → Option Nat} (hp : PW n par) (hu : u < n) (hne : u ≠ v) : PW n (va_up par v (some u)) := fun k hk z hz => by
  by_cases e : k = v
  · subst e; rw [va_up_self] at hz; cases hz; exact ⟨hu, hne⟩
  · rw [va_up_ne _ _ e] at hz; exact hp k hk z hz
theorem pw_no {n v : Nat} {par : Nat → Option Nat} (hp : PW n par) : PW n (va_up par v none) := fun k hk z hz => by
  by_cases e : k = v
  · subst e; rw [va_up_self] at hz; cases hz
  · rw [va_up_ne _ _ e] at hz; exact hp k hk z hz
theorem el_rd {n : Nat} {par : Nat → Option Nat} {y : Int32} {rows : Nat → Nat → Int32} {pr rd : Nat} : (elS par n y (rows, pr, rd)).2.2 ≤ rd + 1 := by
  unfold elS
  simp only
  split <;> simp
theorem rt3_rd {n : Nat} {par : Nat → Option Nat} {cols nx : Nat → Int32} {rd : Nat} : (mrt3S par n (cols, nx, rd)).2.2 ≤ rd + 22 := by
  have h1 := (mtailS_rd (par := par) (n := n) (S := mredL par n 16 (cols, nx, rd)) 3).2
  have h2 := (mredL_rd (par := par) (n := n) 16 (cols, nx, rd)).2
  have h3 : ((cols, nx, rd) : MT).2.2 = rd := rfl
  unfold mrt3S
  omega
section
variable {p : Program} {l : Launch} {e : Env} {s : State} {m : MethodId} {below : List Frame} {meth : Method} {c : Code} {H : Heap} {locs : List Loc} {Q : State → Prop} {b L k : Nat} {xs : Nat → Int32} {E : EE} {a bb : Nat → Nat} {ls : Array Slot} {st : List Value} {cells slots : Nat}
set_option maxRecDepth 100000 in
set_option maxHeartbeats 2000000 in
theorem op_addNode (C0 : LX p s m c b L xs E a bb) (hk : 3 * k + 2 < L) (hL : L ≤ 1536) {n : Nat} {ids : Nat → Int32} {par : Nat → Option Nat} {rows : Nat → Nat → Int32} {pr rd : Nat} {cols : Nat → Int32} {nx : Nat → Int32} {isin : Nat → Bool} {wi wo : Nat → Nat} {wf : Nat → Option Nat} (hP : XP E a ids par rows pr pr n rd H) (hM : MP E bb n ids par cols rd nx isin wi wo wf H) (hR : REL n ids par rows pr rd cols) (hrd : rd ≤ 22 * k) (hS : va_S (A0 s) s.heap H locs) (hl : lv_has ls 4 [(3, .int (nI (3 * k))), (2, .ref (bb 0)), (1, .ref (a 0)), (0, .ref b)]) (kk : KC p l e s m below meth c b E a bb k Q) : W p l e room_1 s m #[Value.ref b] below meth c H locs 31 1091 Q (F0 m 148 ls []) := by
  obtain ⟨hC, hK, hX, hbl, hIa, hIb, hAX, hAM, hAd⟩ := id C0
  have hx := hC.1
  have hb := hC.2.1
  have hn := hR.hn
  have hp := hR.hp
  have hpr := hR.hpr
  have hcol := hR.col
  have hrd1 : rd < 90000 := by omega
  have hrd2 : rd < 100000 := by omega
  have hRP : RP n ids par (rows, pr, rd) (cols, nx, rd) := ⟨hR, rfl⟩
  have cX : WR l E (XP E a ids par rows pr pr n rd) (AX a) _ _ _ _ _ _ _ _ _ := cX_addNode (xs (3 * k + 1)) hIa hn hpr
  have cM : WR l E (MP E bb n ids par cols rd nx isin wi wo wf) (AM bb) _ _ _ _ _ _ _ _ _ := cM_addNode (xs (3 * k + 1)) hIb hn hrd2
  refine lv_aload_n hx hb dL_law_148 rfl (lv_at hl 2 rfl) ?_
  refine law_arg1 C0 hk hL hS hl dL_law_149 dL_law_150 dL_law_151 dL_law_152 dL_law_153 ?_
  refine wrV (As := [.int (xs (3 * k + 1))]) hC kL_13 cX hK hP (x_rec hK hP) hS hAX rfl rfl hl ⟨Nat.le_of_ble_eq_true rfl, Nat.le_of_ble_eq_true rfl⟩ (Nat.le_of_ble_eq_true rfl) dL_law_154 ⟨Nat.le_of_ble_eq_true rfl, Nat.le_of_ble_eq_true rfl⟩ (fun H1 locs1 hP9 hS hz9 hk9 => ?_)
  have hM := MP.kept hM hk9 (fun q h1 h2 => hAd q h2 h1)
  have hP := hP9
  refine lv_aload_n hx hb dL_law_157 rfl (lv_at hl 1 rfl) ?_
  refine law_arg1 C0 hk hL hS hl dL_law_158 dL_law_159 dL_law_160 dL_law_161 dL_law_162 ?_
  refine wrV (As := [.int (xs (3 * k + 1))]) hC kL_17 cM hK hM (m_rec hK hM) hS hAM rfl rfl hl ⟨Nat.le_of_ble_eq_true rfl, Nat.le_of_ble_eq_true rfl⟩ (Nat.le_of_ble_eq_true rfl) dL_law_163 ⟨Nat.le_of_ble_eq_true rfl, Nat.le_of_ble_eq_true rfl⟩ (fun H1 locs1 hM9 hS hz9 hk9 => ?_)
  have hP := XP.kept hP hk9 (fun q h1 h2 => hAd q h1 h2)
  have hM := hM9
  refine lv_icmp_eq (tgt := 653) hx hb dL_law_166 (by decide) (fun _ => ?_) (fun h9 => absurd rfl h9)
  refine kk _ _ _ ?_ hS hl
  by_cases h : okAN n ids (xs (3 * k + 1)) = true
  · simp only [if_pos h] at hP hM
    have h2 := h
    unfold okAN at h2
    simp only [Bool.and_eq_true, decide_eq_true_eq] at h2
    exact ⟨_, _, _, _, _, _, _, hP, ⟨_, _, _, _, _, hM⟩, hR.start.add h2.2 (inV_vV.mp h2.1.1), by omega⟩
  · simp only [if_neg h] at hP hM
    exact st_keep hP ⟨nx, isin, wi, wo, wf, hM⟩ hR hrd
set_option maxRecDepth 100000 in
set_option maxHeartbeats 2000000 in
theorem op_setParent (C0 : LX p s m c b L xs E a bb) (hk : 3 * k + 2 < L) (hL : L ≤ 1536) {n : Nat} {ids : Nat → Int32} {par : Nat → Option Nat} {rows : Nat → Nat → Int32} {pr rd : Nat} {cols : Nat → Int32} {nx : Nat → Int32} {isin : Nat → Bool} {wi wo : Nat → Nat} {wf : Nat → Option Nat} (hP : XP E a ids par rows pr pr n rd H) (hM : MP E bb n ids par cols rd nx isin wi wo wf H) (hR : REL n ids par rows pr rd cols) (hrd : rd ≤ 22 * k) (hS : va_S (A0 s) s.heap H locs) (hl : lv_has ls 4 [(3, .int (nI (3 * k))), (2, .ref (bb 0)), (1, .ref (a 0)), (0, .ref b)]) (kk : KC p l e s m below meth c b E a bb k Q) : W p l e room_1 s m #[Value.ref b] below meth c H locs 31 1091 Q (F0 m 171 ls []) := by
  obtain ⟨hC, hK, hX, hbl, hIa, hIb, hAX, hAM, hAd⟩ := id C0
  have hx := hC.1
  have hb := hC.2.1
  have hn := hR.hn
  have hp := hR.hp
  have hpr := hR.hpr
  have hcol := hR.col
  have hrd1 : rd < 90000 := by omega
  have hrd2 : rd < 100000 := by omega
  have hRP : RP n ids par (rows, pr, rd) (cols, nx, rd) := ⟨hR, rfl⟩
  have cX : WR l E (XP E a ids par rows pr pr n rd) (AX a) _ _ _ _ _ _ _ _ _ := cX_setParent (xs (3 * k + 1)) (xs (3 * k + 2)) hIa hn
  have cM : WR l E (MP E bb n ids par cols rd nx isin wi wo wf) (AM bb) _ _ _ _ _ _ _ _ _ := cM_setParent (xs (3 * k + 1)) (xs (3 * k + 2)) hIb hn hrd2
  refine lv_aload_n hx hb dL_law_171 rfl (lv_at hl 2 rfl) ?_
  refine law_arg1 C0 hk hL hS hl dL_law_172 dL_law_173 dL_law_174 dL_law_175 dL_law_176 ?_
  refine law_arg2 C0 hk hL hS hl dL_law_177 dL_law_178 dL_law_179 dL_law_180 dL_law_181 ?_
  refine wrV (As := [.int (xs (3 * k + 1)), .int (xs (3 * k + 2))]) hC kL_18 cX hK hP (x_rec hK hP) hS hAX rfl rfl hl ⟨Nat.le_of_ble_eq_true rfl, Nat.le_of_ble_eq_true rfl⟩ (Nat.le_of_ble_eq_true rfl) dL_law_182 ⟨Nat.le_of_ble_eq_true rfl, Nat.le_of_ble_eq_true rfl⟩ (fun H1 locs1 hP9 hS hz9 hk9 => ?_)
  have hM := MP.kept hM hk9 (fun q h1 h2 => hAd q h2 h1)
  have hP := hP9
  refine lv_aload_n hx hb dL_law_185 rfl (lv_at hl 1 rfl) ?_
  refine law_arg1 C0 hk hL hS hl dL_law_186 dL_law_187 dL_law_188 dL_law_189 dL_law_190 ?_
  refine law_arg2 C0 hk hL hS hl dL_law_191 dL_law_192 dL_law_193 dL_law_194 dL_law_195 ?_
  refine wrV (As := [.int (xs (3 * k + 1)), .int (xs (3 * k + 2))]) hC kL_22 cM hK hM (m_rec hK hM) hS hAM rfl rfl hl ⟨Nat.le_of_ble_eq_true rfl, Nat.le_of_ble_eq_true rfl⟩ (Nat.le_of_ble_eq_true rfl) dL_law_196 ⟨Nat.le_of_ble_eq_true rfl, Nat.le_of_ble_eq_true rfl⟩ (fun H1 locs1 hM9 hS hz9 hk9 => ?_)
  have hP := XP.kept hP hk9 (fun q h1 h2 => hAd q h1 h2)
  have hM := hM9
  refine lv_icmp_eq (tgt := 653) hx hb dL_law_199 (by decide) (fun _ => ?_) (fun h9 => absurd rfl h9)
  refine kk _ _ _ ?_ hS hl
  cases h : okSP n (xs (3 * k + 1)) (xs (3 * k + 2)) with
  | none =>
    simp only [oU_none h] at hP hM
    exact st_keep hP ⟨nx, isin, wi, wo, wf, hM⟩ hR hrd
  | some v =>
    simp only [oU_some h] at hP hM
    have h2 := sp_ok h
    exact ⟨_, _, _, _, _, _, _, hP, ⟨_, _, _, _, _, hM⟩, hR.start.par' (pw_up hp h2.1 h2.2), by omega⟩
set_option maxRecDepth 100000 in
set_option maxHeartbeats 2000000 in
theorem op_removeParent (C0 : LX p s m c b L xs E a bb) (hk : 3 * k + 2 < L) (hL : L ≤ 1536) {n : Nat} {ids : Nat → Int32} {par : Nat → Option Nat} {rows : Nat → Nat → Int32} {pr rd : Nat} {cols : Nat → Int32} {nx : Nat → Int32} {isin : Nat → Bool} {wi wo : Nat → Nat} {wf : Nat → Option Nat} (hP : XP E a ids par rows pr pr n rd H) (hM : MP E bb n ids par cols rd nx isin wi wo wf H) (hR : REL n ids par rows pr rd cols) (hrd : rd ≤ 22 * k) (hS : va_S (A0 s) s.heap H locs) (hl : lv_has ls 4 [(3, .int (nI (3 * k))), (2, .ref (bb 0)), (1, .ref (a 0)), (0, .ref b)]) (kk : KC p l e s m below meth c b E a bb k Q) : W p l e room_1 s m #[Value.ref b] below meth c H locs 31 1091 Q (F0 m 204 ls []) := by
  obtain ⟨hC, hK, hX, hbl, hIa, hIb, hAX, hAM, hAd⟩ := id C0
  have hx := hC.1
  have hb := hC.2.1
  have hn := hR.hn
  have hp := hR.hp
  have hpr := hR.hpr
  have hcol := hR.col
  have hrd1 : rd < 90000 := by omega
  have hrd2 : rd < 100000 := by omega
  have hRP : RP n ids par (rows, pr, rd) (cols, nx, rd) := ⟨hR, rfl⟩
  have cX : WR l E (XP E a ids par rows pr pr n rd) (AX a) _ _ _ _ _ _ _ _ _ := cX_removeParent (xs (3 * k + 1)) hIa hn
  have cM : WR l E (MP E bb n ids par cols rd nx isin wi wo wf) (AM bb) _ _ _ _ _ _ _ _ _ := cM_removeParent (xs (3 * k + 1)) hIb hn hrd2
  refine lv_aload_n hx hb dL_law_204 rfl (lv_at hl 2 rfl) ?_
  refine law_arg1 C0 hk hL hS hl dL_law_205 dL_law_206 dL_law_207 dL_law_208 dL_law_209 ?_
  refine wrV (As := [.int (xs (3 * k + 1))]) hC kL_23 cX hK hP (x_rec hK hP) hS hAX rfl rfl hl ⟨Nat.le_of_ble_eq_true rfl, Nat.le_of_ble_eq_true rfl⟩ (Nat.le_of_ble_eq_true rfl) dL_law_210 ⟨Nat.le_of_ble_eq_true rfl, Nat.le_of_ble_eq_true rfl⟩ (fun H1 locs1 hP9 hS hz9 hk9 => ?_)
  have hM := MP.kept hM hk9 (fun q h1 h2 => hAd q h2 h1)
  have hP := hP9
  refine lv_aload_n hx hb dL_law_213 rfl (lv_at hl 1 rfl) ?_
  refine law_arg1 C0 hk hL hS hl dL_law_214 dL_law_215 dL_law_216 dL_law_217 dL_law_218 ?_
  refine wrV (As := [.int (xs (3 * k + 1))]) hC kL_26 cM hK hM (m_rec hK hM) hS hAM rfl rfl hl ⟨Nat.le_of_ble_eq_true rfl, Nat.le_of_ble_eq_true rfl⟩ (Nat.le_of_ble_eq_true rfl) dL_law_219 ⟨Nat.le_of_ble_eq_true rfl, Nat.le_of_ble_eq_true rfl⟩ (fun H1 locs1 hM9 hS hz9 hk9 => ?_)
  have hP := XP.kept hP hk9 (fun q h1 h2 => hAd q h1 h2)
  have hM := hM9
  refine lv_icmp_eq (tgt := 653) hx hb dL_law_222 (by decide) (fun _ => ?_) (fun h9 => absurd rfl h9)
  refine kk _ _ _ ?_ hS hl
  cases h : vN n (xs (3 * k + 1)) with
  | none =>
    simp only [oU_none h] at hP hM
    exact st_keep hP ⟨nx, isin, wi, wo, wf, hM⟩ hR hrd
  | some v =>
    simp only [oU_some h] at hP hM
    exact ⟨_, _, _, _, _, _, _, hP, ⟨_, _, _, _, _, hM⟩, hR.start.par' (pw_no hp), by omega⟩
set_option maxRecDepth 100000 in
set_option maxHeartbeats 2000000 in
theorem op_parent (C0 : LX p s m c b L xs E a bb) (hk : 3 * k + 2 < L) (hL : L ≤ 1536) {n : Nat} {ids : Nat → Int32} {par : Nat → Option Nat} {rows : Nat → Nat → Int32} {pr rd : Nat} {cols : Nat → Int32} {nx : Nat → Int32} {isin : Nat → Bool} {wi wo : Nat → Nat} {wf : Nat → Option Nat} (hP : XP E a ids par rows pr pr n rd H) (hM : MP E bb n ids par cols rd nx isin wi wo wf H) (hR : REL n ids par rows pr rd cols) (hrd : rd ≤ 22 * k) (hS : va_S (A0 s) s.heap H locs) (hl : lv_has ls 4 [(3, .int (nI (3 * k))), (2, .ref (bb 0)), (1, .ref (a 0)), (0, .ref b)]) (kk : KC p l e s m below meth c b E a bb k Q) : W p l e room_1 s m #[Value.ref b] below meth c H locs 31 1091 Q (F0 m 227 ls []) := by
  obtain ⟨hC, hK, hX, hbl, hIa, hIb, hAX, hAM, hAd⟩ := id C0
  have hx := hC.1
  have hb := hC.2.1
  have hn := hR.hn
  have hp := hR.hp
  have hpr := hR.hpr
  have hcol := hR.col
  have hrd1 : rd < 90000 := by omega
  have hrd2 : rd < 100000 := by omega
  have hRP : RP n ids par (rows, pr, rd) (cols, nx, rd) := ⟨hR, rfl⟩
  have cX : RO l E (XP E a ids par rows pr pr n rd) _ _ _ _ _ _ _ _ := cX_parent (xs (3 * k + 1)) hn
  have cM : RO l E (MP E bb n ids par cols rd nx isin wi wo wf) _ _ _ _ _ _ _ _ := cM_parent (xs (3 * k + 1)) hn
  refine lv_aload_n hx hb dL_law_227 rfl (lv_at hl 2 rfl) ?_
  refine law_arg1 C0 hk hL hS hl dL_law_228 dL_law_229 dL_law_230 dL_law_231 dL_law_232 ?_
  refine roV (As := [.int (xs (3 * k + 1))]) hC kL_27 cX hK hP (x_rec hK hP) rfl rfl hl ⟨Nat.le_of_ble_eq_true rfl, Nat.le_of_ble_eq_true rfl⟩ (Nat.le_of_ble_eq_true rfl) dL_law_233 ⟨Nat.le_of_ble_eq_true rfl, Nat.le_of_ble_eq_true rfl⟩ ?_
  refine lv_aload_n hx hb dL_law_236 rfl (lv_at hl 1 rfl) ?_
  refine law_arg1 C0 hk hL hS hl dL_law_237 dL_law_238 dL_law_239 dL_law_240 dL_law_241 ?_
  refine roV (As := [.int (xs (3 * k + 1))]) hC kL_30 cM hK hM (m_rec hK hM) rfl rfl hl ⟨Nat.le_of_ble_eq_true rfl, Nat.le_of_ble_eq_true rfl⟩ (Nat.le_of_ble_eq_true rfl) dL_law_242 ⟨Nat.le_of_ble_eq_true rfl, Nat.le_of_ble_eq_true rfl⟩ ?_
  refine lv_icmp_eq (tgt := 653) hx hb dL_law_245 (by decide) (fun _ => ?_) (fun h9 => absurd rfl h9)
  refine kk _ _ _ ?_ hS hl
  exact st_keep hP ⟨nx, isin, wi, wo, wf, hM⟩ hR hrd
end
