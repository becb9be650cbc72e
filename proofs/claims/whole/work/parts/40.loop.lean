/-! THE CLAIM OUT OF ONE WALK OF THE LAW'S BODY. Your part is whole_start (and what it stands on); all else here is the same for every law, but numbers. -/
def R_law : String := "ColourReductionLaw"
def lw_P (b : Addr) (xs : List Int32) (args : Array Value) (s : State) : Prop := args = #[.ref b] ∧ s.IntsAt b xs ∧ xs.length ≤ 1536 ∧ (Jvm.Cond.and given_1 narrow_1).before args s = true
def lw_Q (_ : Array Value) (s : State) (o : Outcome) (t : State) : Prop := o = .returned (some (.int 1)) ∧ Framed s o t [] 600000 7302249
def lw_Z (below : List Frame) (a : Array Value) (s : State) : State → Prop := fun t => ∃ o, t.status = .running ∧ Ended t below o ∧ lw_Q a s o t
/-- the law's own end, with 1 on the stack, nothing written that was there before, its room as the claim has it -/
theorem lw_ret {p : Program} {l : Launch} {e : Env} {s : State} {m : MethodId} {below : List Frame} {meth : Method} {c : Code} {b : Nat} (hx : p.tables.exec = Jvm.exec) (hb : c.code = code) (hr : meth.sig.returnType = ret) (hlocks : meth.locks = false) {pc : Nat} {H : Heap} {ls : Array Slot} (hdg : decode code pc = .ok (.ireturn, 1)) : W p l e room_1 s m #[Value.ref b] below meth c H [] 600000 7302249 (lw_Z below #[Value.ref b] s) (F0 m pc ls [.int 1]) := by
  intro T hT X
  obtain ⟨fs, hret, hrun, hended, hW, hframe⟩ := X.leave (v := some (.int 1)) (hlocks := hlocks) (fun h => by rw [hr] at h; cases h)
  have hmeth' : T.vm.method? m = some meth := X.method'
  refine ⟨T.setFrames fs, ?_, .returned (some (.int 1)), hrun, hended, rfl, ⟨_, rfl⟩, hW, hframe⟩
  jvm_step X.here [X.here.top, hx, hb, hdg, hmeth', hr, ret, narrow_b1]
  (try refine ⟨rfl, ?_⟩); (try refine ⟨rfl, ?_⟩)
  first | (intro acts; rw [hret _ acts rfl rfl rfl]) | rw [hret _ _ rfl rfl rfl]
  exact Steps.refl _
/-- what holds at the law's entry: the machine, the code, the tables' words (any of lw_tbl by 'hts w (by decide +kernel)'), the script of L ints xs at the cell b, what the Statement gives of the start (any of its parts by flat_of_before) -/
def lw_At (p : Program) (s : State) (m : MethodId) (meth : Method) (c : Code) (b L : Nat) (xs : Nat → Int32) : Prop :=
  p.tables.exec = Jvm.exec ∧ c.code = code ∧ meth.sig.returnType = ret ∧ c.maxLocals = 4 ∧ s.vm.findClass R_law = some m.cls ∧ (∀ w ∈ lw_tbl, w.before #[Value.ref b] s = true) ∧ va_X b L xs s s.heap ∧ b < s.heap.size ∧ meth.locks = false ∧ (Jvm.Cond.and given_1 narrow_1).before #[Value.ref b] s = true
set_option maxRecDepth 100000 in
set_option maxHeartbeats 4000000 in
/-- the switch -/
theorem law_turn {p : Program} {l : Launch} {e : Env} {s : State} {m : MethodId} {below : List Frame} {meth : Method} {c : Code} {H : Heap} {locs : List Loc} {Q : State → Prop} {b L k : Nat} {xs : Nat → Int32} {E : EE} {a bb : Nat → Nat} {ls : Array Slot} {z : Int32} (C0 : LX p s m c b L xs E a bb) (hk : 3 * k + 2 < L) (hL : L ≤ 1536) (hT : ST E a bb k H) (hS : va_S (A0 s) s.heap H locs) (hl : lv_has ls 4 [(3, .int (nI (3 * k))), (2, .ref (bb 0)), (1, .ref (a 0)), (0, .ref b)]) (kk : KC p l e s m below meth c b E a bb k Q) : W p l e room_1 s m #[Value.ref b] below meth c H locs 31 1091 Q (F0 m 32 ls [.int z]) := by
  have hx := C0.1.1
  have hb := C0.1.2.1
  obtain ⟨n, ids, par, rows, pr, rd, cols, hP, ⟨nx, isin, wi, wo, wf, hM⟩, hR, hrd⟩ := hT
  by_cases hz : z.toInt < 0 ∨ 24 < z.toInt
  · refine lv_tableOut (tgt := 653) hx hb dL_law_32 hz (by decide) ?_
    exact kk _ _ _ (st_keep hP ⟨nx, isin, wi, wo, wf, hM⟩ hR hrd) hS hl
  · obtain ⟨j, hj, hz⟩ : ∃ j : Nat, j < 25 ∧ z.toInt = (j : Int) := ⟨z.toInt.toNat, by omega, by omega⟩
    match j, hj, hz with
    | 0, _, hz =>
      refine lv_tableIn (off := 116) (tgt := 148) hx hb dL_law_32 (by rw [hz]; decide) (by rw [hz]; decide) (by rw [hz]; rfl) (by decide) ?_
      exact op_addNode C0 hk hL hP hM hR hrd hS hl kk
    | 1, _, hz =>
      refine lv_tableIn (off := 139) (tgt := 171) hx hb dL_law_32 (by rw [hz]; decide) (by rw [hz]; decide) (by rw [hz]; rfl) (by decide) ?_
      exact op_setParent C0 hk hL hP hM hR hrd hS hl kk
    | 2, _, hz =>
      refine lv_tableIn (off := 172) (tgt := 204) hx hb dL_law_32 (by rw [hz]; decide) (by rw [hz]; decide) (by rw [hz]; rfl) (by decide) ?_
      exact op_removeParent C0 hk hL hP hM hR hrd hS hl kk
    | 3, _, hz =>
      refine lv_tableIn (off := 195) (tgt := 227) hx hb dL_law_32 (by rw [hz]; decide) (by rw [hz]; decide) (by rw [hz]; rfl) (by decide) ?_
      exact op_parent C0 hk hL hP hM hR hrd hS hl kk
    | 4, _, hz =>
      refine lv_tableIn (off := 218) (tgt := 250) hx hb dL_law_32 (by rw [hz]; decide) (by rw [hz]; decide) (by rw [hz]; rfl) (by decide) ?_
      exact op_degree C0 hk hL hP hM hR hrd hS hl kk
    | 5, _, hz =>
      refine lv_tableIn (off := 241) (tgt := 273) hx hb dL_law_32 (by rw [hz]; decide) (by rw [hz]; decide) (by rw [hz]; rfl) (by decide) ?_
      exact op_depth C0 hk hL hP hM hR hrd hS hl kk
    | 6, _, hz =>
      refine lv_tableIn (off := 264) (tgt := 296) hx hb dL_law_32 (by rw [hz]; decide) (by rw [hz]; decide) (by rw [hz]; rfl) (by decide) ?_
      exact op_cycleLength C0 hk hL hP hM hR hrd hS hl kk
    | 7, _, hz =>
      refine lv_tableIn (off := 287) (tgt := 319) hx hb dL_law_32 (by rw [hz]; decide) (by rw [hz]; decide) (by rw [hz]; rfl) (by decide) ?_
      exact op_partCount C0 hk hL hP hM hR hrd hS hl kk
    | 8, _, hz =>
      refine lv_tableIn (off := 300) (tgt := 332) hx hb dL_law_32 (by rw [hz]; decide) (by rw [hz]; decide) (by rw [hz]; rfl) (by decide) ?_
      exact op_colour C0 hk hL hP hM hR hrd hS hl kk
    | 9, _, hz =>
      refine lv_tableIn (off := 323) (tgt := 355) hx hb dL_law_32 (by rw [hz]; decide) (by rw [hz]; decide) (by rw [hz]; rfl) (by decide) ?_
      exact op_setColour C0 hk hL hP hM hR hrd hS hl kk
    | 10, _, hz =>
      refine lv_tableIn (off := 356) (tgt := 388) hx hb dL_law_32 (by rw [hz]; decide) (by rw [hz]; decide) (by rw [hz]; rfl) (by decide) ?_
      exact op_resetColours C0 hk hL hP hM hR hrd hS hl kk
    | 11, _, hz =>
      refine lv_tableIn (off := 369) (tgt := 401) hx hb dL_law_32 (by rw [hz]; decide) (by rw [hz]; decide) (by rw [hz]; rfl) (by decide) ?_
      exact op_recolour C0 hk hL hP hM hR hrd hS hl kk
    | 12, _, hz =>
      refine lv_tableIn (off := 392) (tgt := 424) hx hb dL_law_32 (by rw [hz]; decide) (by rw [hz]; decide) (by rw [hz]; rfl) (by decide) ?_
      exact op_colourCount C0 hk hL hP hM hR hrd hS hl kk
    | 13, _, hz =>
      refine lv_tableIn (off := 405) (tgt := 437) hx hb dL_law_32 (by rw [hz]; decide) (by rw [hz]; decide) (by rw [hz]; rfl) (by decide) ?_
      exact op_greatestColour C0 hk hL hP hM hR hrd hS hl kk
    | 14, _, hz =>
      refine lv_tableIn (off := 418) (tgt := 450) hx hb dL_law_32 (by rw [hz]; decide) (by rw [hz]; decide) (by rw [hz]; rfl) (by decide) ?_
      exact op_conflictCount C0 hk hL hP hM hR hrd hS hl kk
    | 15, _, hz =>
      refine lv_tableIn (off := 431) (tgt := 463) hx hb dL_law_32 (by rw [hz]; decide) (by rw [hz]; decide) (by rw [hz]; rfl) (by decide) ?_
      exact op_differingBit C0 hk hL hP hM hR hrd hS hl kk
    | 16, _, hz =>
      refine lv_tableIn (off := 454) (tgt := 486) hx hb dL_law_32 (by rw [hz]; decide) (by rw [hz]; decide) (by rw [hz]; rfl) (by decide) ?_
      exact op_reduce C0 hk hL hP hM hR hrd hS hl kk
    | 17, _, hz =>
      refine lv_tableIn (off := 467) (tgt := 499) hx hb dL_law_32 (by rw [hz]; decide) (by rw [hz]; decide) (by rw [hz]; rfl) (by decide) ?_
      exact op_shift C0 hk hL hP hM hR hrd hS hl kk
    | 18, _, hz =>
      refine lv_tableIn (off := 480) (tgt := 512) hx hb dL_law_32 (by rw [hz]; decide) (by rw [hz]; decide) (by rw [hz]; rfl) (by decide) ?_
      exact op_eliminate C0 hk hL hP hM hR hrd hS hl kk
    | 19, _, hz =>
      refine lv_tableIn (off := 503) (tgt := 535) hx hb dL_law_32 (by rw [hz]; decide) (by rw [hz]; decide) (by rw [hz]; rfl) (by decide) ?_
      exact op_reduceToThree C0 hk hL hP hM hR hrd hS hl kk
    | 20, _, hz =>
      refine lv_tableIn (off := 516) (tgt := 548) hx hb dL_law_32 (by rw [hz]; decide) (by rw [hz]; decide) (by rw [hz]; rfl) (by decide) ?_
      exact op_roundCount C0 hk hL hP hM hR hrd hS hl kk
    | 21, _, hz =>
      refine lv_tableIn (off := 529) (tgt := 561) hx hb dL_law_32 (by rw [hz]; decide) (by rw [hz]; decide) (by rw [hz]; rfl) (by decide) ?_
      exact op_pastColour C0 hk hL hP hM hR hrd hS hl kk
    | 22, _, hz =>
      refine lv_tableIn (off := 562) (tgt := 594) hx hb dL_law_32 (by rw [hz]; decide) (by rw [hz]; decide) (by rw [hz]; rfl) (by decide) ?_
      exact op_inIndependentSet C0 hk hL hP hM hR hrd hS hl kk
    | 23, _, hz =>
      refine lv_tableIn (off := 585) (tgt := 617) hx hb dL_law_32 (by rw [hz]; decide) (by rw [hz]; decide) (by rw [hz]; rfl) (by decide) ?_
      exact op_independentSetSize C0 hk hL hP hM hR hrd hS hl kk
    | 24, _, hz =>
      refine lv_tableIn (off := 598) (tgt := 630) hx hb dL_law_32 (by rw [hz]; decide) (by rw [hz]; decide) (by rw [hz]; rfl) (by decide) ?_
      exact op_greatestIndependentSet C0 hk hL hP hM hR hrd hS hl kk
    | j + 25, hj, _ => exact absurd hj (by omega)
set_option maxRecDepth 100000 in
set_option maxHeartbeats 4000000 in
theorem law_loop {p : Program} {l : Launch} {e : Env} {s : State} {m : MethodId} {below : List Frame} {meth : Method} {c : Code} {b L : Nat} {xs : Nat → Int32} {E : EE} {a bb : Nat → Nat} (C0 : LX p s m c b L xs E a bb) (hL : L ≤ 1536) (hr : meth.sig.returnType = ret) (hlocks : meth.locks = false) :
    ∀ (N k : Nat), 3 * k ≤ L → L + 1 ≤ 3 * k + N → ∀ (H : Heap) (locs : List Loc) (ls : Array Slot), ST E a bb k H → va_S (A0 s) s.heap H locs → lv_has ls 4 [(3, .int (nI (3 * k))), (2, .ref (bb 0)), (1, .ref (a 0)), (0, .ref b)] → W p l e room_1 s m #[Value.ref b] below meth c H locs 31 1091 (lw_Z below #[Value.ref b] s) (F0 m 18 ls []) := by
  obtain ⟨hC, hK, hX, hbl, -⟩ := id C0
  have hx := hC.1
  have hb := hC.2.1
  have hbA : ¬ A0 s b := Nat.not_le.mpr hbl
  intro N
  induction N with
  | zero =>
    intro k h1 h2
    exact absurd h2 (by omega)
  | succ N ih =>
    intro k h1 h2 H locs ls hT hS hl
    refine lv_iload_n hx hb dL_law_18 rfl (lv_at hl 0 rfl) ?_
    refine lv_aload_n hx hb dL_law_19 rfl (lv_at hl 3 rfl) ?_
    refine va_slen hx hb hX hbl hbA hS dL_law_20 ?_
    refine lv_iconst (v := 3) hx hb dL_law_21 (by decide) ?_
    refine lv_isub hx hb dL_law_22 ?_
    have e1 : (nI L).toInt = L := nI_toInt (by omega)
    have e3 : (3 : Int32).toInt = 3 := rfl
    have e2 : (nI L - 3).toInt = L - 3 := by rw [fb_subI (by rw [e1, e3]; omega) (by rw [e1, e3]; omega), e1, e3]
    have e4 : (nI (3 * k)).toInt = (3 * k : Nat) := nI_toInt (by omega)
    refine lv_icmp_gt (tgt := 659) hx hb dL_law_23 (by decide) (fun q => ?_) (fun q => ?_)
    · refine lv_iconst (v := 1) hx hb dL_law_659 (by decide) ?_
      refine va_forget (fun q hq => hS.2.2 q hq) ?_
      refine W.widen (k := 600000) (n := 7302249) (Nat.le_of_ble_eq_true rfl) (Nat.le_of_ble_eq_true rfl) ?_
      exact lw_ret hx hb hr hlocks dL_law_660
    · have hk : 3 * k + 2 < L := by
        have q : ¬ (nI L - 3) < nI (3 * k) := q
        rw [i32_lt, e2, e4] at q
        omega
      refine lv_aload_n hx hb dL_law_26 rfl (lv_at hl 3 rfl) ?_
      refine lv_iload_n hx hb dL_law_27 rfl (lv_at hl 0 rfl) ?_
      refine va_sld hx hb hX hbl hbA hS (vp_in_nI (show 3 * k < L by omega) (by omega)) dL_law_28 ?_
      refine lv_bipush (v := 31) hx hb dL_law_29 (by decide) ?_
      refine lv_iand hx hb dL_law_31 ?_
      refine law_turn C0 hk hL hT hS hl ?_
      intro H1 locs1 ls1 hT1 hS1 hl1
      refine lv_iinc (v := nI (3 * (k + 1))) (lv' := [(3, .int (nI (3 * (k + 1)))), (2, .ref (bb 0)), (1, .ref (a 0)), (0, .ref b)]) hx hb dL_law_653 hl1 (k := 0) rfl (nI_add (3 * k) 3) (by decide) rfl (fun ls hl => ?_)
      refine lv_goto (tgt := 18) hx hb dL_law_656 (by decide) ?_
      exact ih (k + 1) (by omega) (by omega) H1 locs1 ls hT1 hS1 hl
