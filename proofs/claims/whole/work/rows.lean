section
-- PART A of kit/laws/SKELETON.whole.lean.txt (a starting text), behind a row that the printed names need
theorem zz_wide : True := by
  have _h := @Jvm.Stand.multianewarray2F
  trivial
-- ===== PART A: goes FIRST, ahead of the names: the tables' words, and 'selects' of the private methods out of them =====
/-- a private method of a class that the tables say can be made, by its rows of tables_1 -/
def lw_okq (q : MethodName × Nat) : Prop := (q.1.cls ≠ "java/lang/invoke/MethodHandle" ∧ q.1.cls ≠ "java/lang/invoke/VarHandle") ∧ Cond.instantiable q.1.cls q.2 ∈ tables_1 ∧ Cond.privateMethod q.1 ∈ tables_1 ∧ Cond.instanceMethod q.1 ∈ tables_1
theorem lw_p0 : lw_okq (⟨"ColourReduction", "isIdentifierTaken", "(I)Z"⟩, 7) := ⟨⟨by decide +kernel, by decide +kernel⟩, List.mem_of_getElem? (i := 6) (by decide +kernel), List.mem_of_getElem? (i := 47) (by decide +kernel), List.mem_of_getElem? (i := 48) (by decide +kernel)⟩
theorem lw_p1 : lw_okq (⟨"ColourReduction", "startCount", "()V"⟩, 7) := ⟨⟨by decide +kernel, by decide +kernel⟩, List.mem_of_getElem? (i := 6) (by decide +kernel), List.mem_of_getElem? (i := 51) (by decide +kernel), List.mem_of_getElem? (i := 52) (by decide +kernel)⟩
theorem lw_p2 : lw_okq (⟨"ColourReduction", "isNode", "(I)Z"⟩, 7) := ⟨⟨by decide +kernel, by decide +kernel⟩, List.mem_of_getElem? (i := 6) (by decide +kernel), List.mem_of_getElem? (i := 59) (by decide +kernel), List.mem_of_getElem? (i := 60) (by decide +kernel)⟩
theorem lw_p3 : lw_okq (⟨"ColourReduction", "replaceParent", "(II)I"⟩, 7) := ⟨⟨by decide +kernel, by decide +kernel⟩, List.mem_of_getElem? (i := 6) (by decide +kernel), List.mem_of_getElem? (i := 63) (by decide +kernel), List.mem_of_getElem? (i := 64) (by decide +kernel)⟩
theorem lw_p4 : lw_okq (⟨"ColourReduction", "neighbours", "(I)I"⟩, 7) := ⟨⟨by decide +kernel, by decide +kernel⟩, List.mem_of_getElem? (i := 6) (by decide +kernel), List.mem_of_getElem? (i := 79) (by decide +kernel), List.mem_of_getElem? (i := 80) (by decide +kernel)⟩
theorem lw_p5 : lw_okq (⟨"ColourReduction", "areNeighbours", "(II)Z"⟩, 7) := ⟨⟨by decide +kernel, by decide +kernel⟩, List.mem_of_getElem? (i := 6) (by decide +kernel), List.mem_of_getElem? (i := 83) (by decide +kernel), List.mem_of_getElem? (i := 84) (by decide +kernel)⟩
theorem lw_p6 : lw_okq (⟨"ColourReduction", "isRoot", "(I)Z"⟩, 7) := ⟨⟨by decide +kernel, by decide +kernel⟩, List.mem_of_getElem? (i := 6) (by decide +kernel), List.mem_of_getElem? (i := 97) (by decide +kernel), List.mem_of_getElem? (i := 98) (by decide +kernel)⟩
theorem lw_p7 : lw_okq (⟨"ColourReduction", "part", "(I)I"⟩, 7) := ⟨⟨by decide +kernel, by decide +kernel⟩, List.mem_of_getElem? (i := 6) (by decide +kernel), List.mem_of_getElem? (i := 112) (by decide +kernel), List.mem_of_getElem? (i := 113) (by decide +kernel)⟩
theorem lw_p8 : lw_okq (⟨"ColourReduction", "widened", "(I)I"⟩, 7) := ⟨⟨by decide +kernel, by decide +kernel⟩, List.mem_of_getElem? (i := 6) (by decide +kernel), List.mem_of_getElem? (i := 116) (by decide +kernel), List.mem_of_getElem? (i := 117) (by decide +kernel)⟩
theorem lw_p9 : lw_okq (⟨"ColourReduction", "lowestFreeColour", "(II)I"⟩, 7) := ⟨⟨by decide +kernel, by decide +kernel⟩, List.mem_of_getElem? (i := 6) (by decide +kernel), List.mem_of_getElem? (i := 136) (by decide +kernel), List.mem_of_getElem? (i := 137) (by decide +kernel)⟩
theorem lw_p10 : lw_okq (⟨"ColourReduction", "hasNeighbourOfColour", "(II)Z"⟩, 7) := ⟨⟨by decide +kernel, by decide +kernel⟩, List.mem_of_getElem? (i := 6) (by decide +kernel), List.mem_of_getElem? (i := 140) (by decide +kernel), List.mem_of_getElem? (i := 141) (by decide +kernel)⟩
theorem lw_p11 : lw_okq (⟨"ColourReduction", "isFirstOfItsColour", "(I)Z"⟩, 7) := ⟨⟨by decide +kernel, by decide +kernel⟩, List.mem_of_getElem? (i := 6) (by decide +kernel), List.mem_of_getElem? (i := 148) (by decide +kernel), List.mem_of_getElem? (i := 149) (by decide +kernel)⟩
theorem lw_p12 : lw_okq (⟨"ColourReduction", "isInConflict", "(I)Z"⟩, 7) := ⟨⟨by decide +kernel, by decide +kernel⟩, List.mem_of_getElem? (i := 6) (by decide +kernel), List.mem_of_getElem? (i := 163) (by decide +kernel), List.mem_of_getElem? (i := 164) (by decide +kernel)⟩
theorem lw_p13 : lw_okq (⟨"ColourReduction", "reductionBit", "(I)I"⟩, 7) := ⟨⟨by decide +kernel, by decide +kernel⟩, List.mem_of_getElem? (i := 6) (by decide +kernel), List.mem_of_getElem? (i := 171) (by decide +kernel), List.mem_of_getElem? (i := 172) (by decide +kernel)⟩
theorem lw_p14 : lw_okq (⟨"ColourReduction", "isProper", "()Z"⟩, 7) := ⟨⟨by decide +kernel, by decide +kernel⟩, List.mem_of_getElem? (i := 6) (by decide +kernel), List.mem_of_getElem? (i := 183) (by decide +kernel), List.mem_of_getElem? (i := 184) (by decide +kernel)⟩
theorem lw_p15 : lw_okq (⟨"ColourReduction", "doReduction", "()V"⟩, 7) := ⟨⟨by decide +kernel, by decide +kernel⟩, List.mem_of_getElem? (i := 6) (by decide +kernel), List.mem_of_getElem? (i := 188) (by decide +kernel), List.mem_of_getElem? (i := 189) (by decide +kernel)⟩
def lw_privs_1 : List (MethodName × Nat) := [(⟨"ColourReduction", "isIdentifierTaken", "(I)Z"⟩, 7), (⟨"ColourReduction", "startCount", "()V"⟩, 7), (⟨"ColourReduction", "isNode", "(I)Z"⟩, 7), (⟨"ColourReduction", "replaceParent", "(II)I"⟩, 7), (⟨"ColourReduction", "neighbours", "(I)I"⟩, 7), (⟨"ColourReduction", "areNeighbours", "(II)Z"⟩, 7), (⟨"ColourReduction", "isRoot", "(I)Z"⟩, 7), (⟨"ColourReduction", "part", "(I)I"⟩, 7), (⟨"ColourReduction", "widened", "(I)I"⟩, 7), (⟨"ColourReduction", "lowestFreeColour", "(II)I"⟩, 7), (⟨"ColourReduction", "hasNeighbourOfColour", "(II)Z"⟩, 7), (⟨"ColourReduction", "isFirstOfItsColour", "(I)Z"⟩, 7), (⟨"ColourReduction", "isInConflict", "(I)Z"⟩, 7), (⟨"ColourReduction", "reductionBit", "(I)I"⟩, 7), (⟨"ColourReduction", "isProper", "()Z"⟩, 7), (⟨"ColourReduction", "doReduction", "()V"⟩, 7)]
theorem lw_r1 : ∀ q ∈ lw_privs_1, lw_okq q := List.forall_mem_cons.mpr ⟨lw_p0, List.forall_mem_cons.mpr ⟨lw_p1, List.forall_mem_cons.mpr ⟨lw_p2, List.forall_mem_cons.mpr ⟨lw_p3, List.forall_mem_cons.mpr ⟨lw_p4, List.forall_mem_cons.mpr ⟨lw_p5, List.forall_mem_cons.mpr ⟨lw_p6, List.forall_mem_cons.mpr ⟨lw_p7, List.forall_mem_cons.mpr ⟨lw_p8, List.forall_mem_cons.mpr ⟨lw_p9, List.forall_mem_cons.mpr ⟨lw_p10, List.forall_mem_cons.mpr ⟨lw_p11, List.forall_mem_cons.mpr ⟨lw_p12, List.forall_mem_cons.mpr ⟨lw_p13, List.forall_mem_cons.mpr ⟨lw_p14, List.forall_mem_cons.mpr ⟨lw_p15, fun _ h => absurd h List.not_mem_nil⟩⟩⟩⟩⟩⟩⟩⟩⟩⟩⟩⟩⟩⟩⟩⟩
theorem lw_p16 : lw_okq (⟨"ColourReduction", "rowAfterPresent", "()I"⟩, 7) := ⟨⟨by decide +kernel, by decide +kernel⟩, List.mem_of_getElem? (i := 6) (by decide +kernel), List.mem_of_getElem? (i := 192) (by decide +kernel), List.mem_of_getElem? (i := 193) (by decide +kernel)⟩
theorem lw_p17 : lw_okq (⟨"ColourReduction", "endRound", "()V"⟩, 7) := ⟨⟨by decide +kernel, by decide +kernel⟩, List.mem_of_getElem? (i := 6) (by decide +kernel), List.mem_of_getElem? (i := 196) (by decide +kernel), List.mem_of_getElem? (i := 197) (by decide +kernel)⟩
theorem lw_p18 : lw_okq (⟨"ColourReduction", "doShift", "()I"⟩, 7) := ⟨⟨by decide +kernel, by decide +kernel⟩, List.mem_of_getElem? (i := 6) (by decide +kernel), List.mem_of_getElem? (i := 205) (by decide +kernel), List.mem_of_getElem? (i := 206) (by decide +kernel)⟩
theorem lw_p19 : lw_okq (⟨"ColourReduction", "shiftedColour", "(I)I"⟩, 7) := ⟨⟨by decide +kernel, by decide +kernel⟩, List.mem_of_getElem? (i := 6) (by decide +kernel), List.mem_of_getElem? (i := 209) (by decide +kernel), List.mem_of_getElem? (i := 210) (by decide +kernel)⟩
theorem lw_p20 : lw_okq (⟨"ColourReduction", "doElimination", "(I)I"⟩, 7) := ⟨⟨by decide +kernel, by decide +kernel⟩, List.mem_of_getElem? (i := 6) (by decide +kernel), List.mem_of_getElem? (i := 217) (by decide +kernel), List.mem_of_getElem? (i := 218) (by decide +kernel)⟩
theorem lw_p21 : lw_okq (⟨"ColourReduction", "independentSet", "()I"⟩, 7) := ⟨⟨by decide +kernel, by decide +kernel⟩, List.mem_of_getElem? (i := 6) (by decide +kernel), List.mem_of_getElem? (i := 237) (by decide +kernel), List.mem_of_getElem? (i := 238) (by decide +kernel)⟩
theorem lw_p22 : lw_okq (⟨"ColourReduction", "nextToVisit", "(I)I"⟩, 7) := ⟨⟨by decide +kernel, by decide +kernel⟩, List.mem_of_getElem? (i := 6) (by decide +kernel), List.mem_of_getElem? (i := 241) (by decide +kernel), List.mem_of_getElem? (i := 242) (by decide +kernel)⟩
theorem lw_p23 : lw_okq (⟨"ColourReduction", "nodeAtAnEnd", "(I)I"⟩, 7) := ⟨⟨by decide +kernel, by decide +kernel⟩, List.mem_of_getElem? (i := 6) (by decide +kernel), List.mem_of_getElem? (i := 253) (by decide +kernel), List.mem_of_getElem? (i := 254) (by decide +kernel)⟩
theorem lw_p24 : lw_okq (⟨"ColourReductionModel", "startsCount", "()V"⟩, 10) := ⟨⟨by decide +kernel, by decide +kernel⟩, List.mem_of_getElem? (i := 257) (by decide +kernel), List.mem_of_getElem? (i := 303) (by decide +kernel), List.mem_of_getElem? (i := 304) (by decide +kernel)⟩
theorem lw_p25 : lw_okq (⟨"ColourReductionModel", "colourOf", "(I)I"⟩, 10) := ⟨⟨by decide +kernel, by decide +kernel⟩, List.mem_of_getElem? (i := 257) (by decide +kernel), List.mem_of_getElem? (i := 307) (by decide +kernel), List.mem_of_getElem? (i := 308) (by decide +kernel)⟩
theorem lw_p26 : lw_okq (⟨"ColourReductionModel", "paints", "(II)V"⟩, 10) := ⟨⟨by decide +kernel, by decide +kernel⟩, List.mem_of_getElem? (i := 257) (by decide +kernel), List.mem_of_getElem? (i := 311) (by decide +kernel), List.mem_of_getElem? (i := 312) (by decide +kernel)⟩
theorem lw_p27 : lw_okq (⟨"ColourReductionModel", "isNode", "(I)Z"⟩, 10) := ⟨⟨by decide +kernel, by decide +kernel⟩, List.mem_of_getElem? (i := 257) (by decide +kernel), List.mem_of_getElem? (i := 319) (by decide +kernel), List.mem_of_getElem? (i := 320) (by decide +kernel)⟩
theorem lw_p28 : lw_okq (⟨"ColourReductionModel", "changesParent", "(II)I"⟩, 10) := ⟨⟨by decide +kernel, by decide +kernel⟩, List.mem_of_getElem? (i := 257) (by decide +kernel), List.mem_of_getElem? (i := 323) (by decide +kernel), List.mem_of_getElem? (i := 324) (by decide +kernel)⟩
theorem lw_p29 : lw_okq (⟨"ColourReductionModel", "areNeighbours", "(II)Z"⟩, 10) := ⟨⟨by decide +kernel, by decide +kernel⟩, List.mem_of_getElem? (i := 257) (by decide +kernel), List.mem_of_getElem? (i := 339) (by decide +kernel), List.mem_of_getElem? (i := 340) (by decide +kernel)⟩
theorem lw_p30 : lw_okq (⟨"ColourReductionModel", "stepsFrom", "(I)I"⟩, 10) := ⟨⟨by decide +kernel, by decide +kernel⟩, List.mem_of_getElem? (i := 257) (by decide +kernel), List.mem_of_getElem? (i := 347) (by decide +kernel), List.mem_of_getElem? (i := 348) (by decide +kernel)⟩
theorem lw_p31 : lw_okq (⟨"ColourReductionModel", "cycleOf", "(I)I"⟩, 10) := ⟨⟨by decide +kernel, by decide +kernel⟩, List.mem_of_getElem? (i := 257) (by decide +kernel), List.mem_of_getElem? (i := 355) (by decide +kernel), List.mem_of_getElem? (i := 356) (by decide +kernel)⟩
def lw_privs_2 : List (MethodName × Nat) := [(⟨"ColourReduction", "rowAfterPresent", "()I"⟩, 7), (⟨"ColourReduction", "endRound", "()V"⟩, 7), (⟨"ColourReduction", "doShift", "()I"⟩, 7), (⟨"ColourReduction", "shiftedColour", "(I)I"⟩, 7), (⟨"ColourReduction", "doElimination", "(I)I"⟩, 7), (⟨"ColourReduction", "independentSet", "()I"⟩, 7), (⟨"ColourReduction", "nextToVisit", "(I)I"⟩, 7), (⟨"ColourReduction", "nodeAtAnEnd", "(I)I"⟩, 7), (⟨"ColourReductionModel", "startsCount", "()V"⟩, 10), (⟨"ColourReductionModel", "colourOf", "(I)I"⟩, 10), (⟨"ColourReductionModel", "paints", "(II)V"⟩, 10), (⟨"ColourReductionModel", "isNode", "(I)Z"⟩, 10), (⟨"ColourReductionModel", "changesParent", "(II)I"⟩, 10), (⟨"ColourReductionModel", "areNeighbours", "(II)Z"⟩, 10), (⟨"ColourReductionModel", "stepsFrom", "(I)I"⟩, 10), (⟨"ColourReductionModel", "cycleOf", "(I)I"⟩, 10)]
theorem lw_r2 : ∀ q ∈ lw_privs_2, lw_okq q := List.forall_mem_cons.mpr ⟨lw_p16, List.forall_mem_cons.mpr ⟨lw_p17, List.forall_mem_cons.mpr ⟨lw_p18, List.forall_mem_cons.mpr ⟨lw_p19, List.forall_mem_cons.mpr ⟨lw_p20, List.forall_mem_cons.mpr ⟨lw_p21, List.forall_mem_cons.mpr ⟨lw_p22, List.forall_mem_cons.mpr ⟨lw_p23, List.forall_mem_cons.mpr ⟨lw_p24, List.forall_mem_cons.mpr ⟨lw_p25, List.forall_mem_cons.mpr ⟨lw_p26, List.forall_mem_cons.mpr ⟨lw_p27, List.forall_mem_cons.mpr ⟨lw_p28, List.forall_mem_cons.mpr ⟨lw_p29, List.forall_mem_cons.mpr ⟨lw_p30, List.forall_mem_cons.mpr ⟨lw_p31, fun _ h => absurd h List.not_mem_nil⟩⟩⟩⟩⟩⟩⟩⟩⟩⟩⟩⟩⟩⟩⟩⟩
theorem lw_p32 : lw_okq (⟨"ColourReductionModel", "headOf", "(I)I"⟩, 10) := ⟨⟨by decide +kernel, by decide +kernel⟩, List.mem_of_getElem? (i := 257) (by decide +kernel), List.mem_of_getElem? (i := 363) (by decide +kernel), List.mem_of_getElem? (i := 364) (by decide +kernel)⟩
theorem lw_p33 : lw_okq (⟨"ColourReductionModel", "isBeside", "(II)Z"⟩, 10) := ⟨⟨by decide +kernel, by decide +kernel⟩, List.mem_of_getElem? (i := 257) (by decide +kernel), List.mem_of_getElem? (i := 383) (by decide +kernel), List.mem_of_getElem? (i := 384) (by decide +kernel)⟩
theorem lw_p34 : lw_okq (⟨"ColourReductionModel", "greatest", "()I"⟩, 10) := ⟨⟨by decide +kernel, by decide +kernel⟩, List.mem_of_getElem? (i := 257) (by decide +kernel), List.mem_of_getElem? (i := 395) (by decide +kernel), List.mem_of_getElem? (i := 396) (by decide +kernel)⟩
theorem lw_p35 : lw_okq (⟨"ColourReductionModel", "conflicts", "()I"⟩, 10) := ⟨⟨by decide +kernel, by decide +kernel⟩, List.mem_of_getElem? (i := 257) (by decide +kernel), List.mem_of_getElem? (i := 403) (by decide +kernel), List.mem_of_getElem? (i := 404) (by decide +kernel)⟩
theorem lw_p36 : lw_okq (⟨"ColourReductionModel", "isConflict", "(I)Z"⟩, 10) := ⟨⟨by decide +kernel, by decide +kernel⟩, List.mem_of_getElem? (i := 257) (by decide +kernel), List.mem_of_getElem? (i := 407) (by decide +kernel), List.mem_of_getElem? (i := 408) (by decide +kernel)⟩
theorem lw_p37 : lw_okq (⟨"ColourReductionModel", "bitOf", "(I)I"⟩, 10) := ⟨⟨by decide +kernel, by decide +kernel⟩, List.mem_of_getElem? (i := 257) (by decide +kernel), List.mem_of_getElem? (i := 415) (by decide +kernel), List.mem_of_getElem? (i := 416) (by decide +kernel)⟩
theorem lw_p38 : lw_okq (⟨"ColourReductionModel", "reduces", "()V"⟩, 10) := ⟨⟨by decide +kernel, by decide +kernel⟩, List.mem_of_getElem? (i := 257) (by decide +kernel), List.mem_of_getElem? (i := 423) (by decide +kernel), List.mem_of_getElem? (i := 424) (by decide +kernel)⟩
theorem lw_p39 : lw_okq (⟨"ColourReductionModel", "ends", "()V"⟩, 10) := ⟨⟨by decide +kernel, by decide +kernel⟩, List.mem_of_getElem? (i := 257) (by decide +kernel), List.mem_of_getElem? (i := 427) (by decide +kernel), List.mem_of_getElem? (i := 428) (by decide +kernel)⟩
theorem lw_p40 : lw_okq (⟨"ColourReductionModel", "eliminates", "(I)I"⟩, 10) := ⟨⟨by decide +kernel, by decide +kernel⟩, List.mem_of_getElem? (i := 257) (by decide +kernel), List.mem_of_getElem? (i := 439) (by decide +kernel), List.mem_of_getElem? (i := 440) (by decide +kernel)⟩
theorem lw_p41 : lw_okq (⟨"ColourReductionModel", "freeOf", "(I)I"⟩, 10) := ⟨⟨by decide +kernel, by decide +kernel⟩, List.mem_of_getElem? (i := 257) (by decide +kernel), List.mem_of_getElem? (i := 443) (by decide +kernel), List.mem_of_getElem? (i := 444) (by decide +kernel)⟩
theorem lw_p42 : lw_okq (⟨"ColourReductionModel", "buildSet", "()I"⟩, 10) := ⟨⟨by decide +kernel, by decide +kernel⟩, List.mem_of_getElem? (i := 257) (by decide +kernel), List.mem_of_getElem? (i := 464) (by decide +kernel), List.mem_of_getElem? (i := 465) (by decide +kernel)⟩
theorem lw_p43 : lw_okq (⟨"ColourReductionModel", "takesTrees", "()V"⟩, 10) := ⟨⟨by decide +kernel, by decide +kernel⟩, List.mem_of_getElem? (i := 257) (by decide +kernel), List.mem_of_getElem? (i := 476) (by decide +kernel), List.mem_of_getElem? (i := 477) (by decide +kernel)⟩
theorem lw_p44 : lw_okq (⟨"ColourReductionModel", "bestOfCycle", "(IZ)I"⟩, 10) := ⟨⟨by decide +kernel, by decide +kernel⟩, List.mem_of_getElem? (i := 257) (by decide +kernel), List.mem_of_getElem? (i := 483) (by decide +kernel), List.mem_of_getElem? (i := 484) (by decide +kernel)⟩
def lw_privs_3 : List (MethodName × Nat) := [(⟨"ColourReductionModel", "headOf", "(I)I"⟩, 10), (⟨"ColourReductionModel", "isBeside", "(II)Z"⟩, 10), (⟨"ColourReductionModel", "greatest", "()I"⟩, 10), (⟨"ColourReductionModel", "conflicts", "()I"⟩, 10), (⟨"ColourReductionModel", "isConflict", "(I)Z"⟩, 10), (⟨"ColourReductionModel", "bitOf", "(I)I"⟩, 10), (⟨"ColourReductionModel", "reduces", "()V"⟩, 10), (⟨"ColourReductionModel", "ends", "()V"⟩, 10), (⟨"ColourReductionModel", "eliminates", "(I)I"⟩, 10), (⟨"ColourReductionModel", "freeOf", "(I)I"⟩, 10), (⟨"ColourReductionModel", "buildSet", "()I"⟩, 10), (⟨"ColourReductionModel", "takesTrees", "()V"⟩, 10), (⟨"ColourReductionModel", "bestOfCycle", "(IZ)I"⟩, 10)]
theorem lw_r3 : ∀ q ∈ lw_privs_3, lw_okq q := List.forall_mem_cons.mpr ⟨lw_p32, List.forall_mem_cons.mpr ⟨lw_p33, List.forall_mem_cons.mpr ⟨lw_p34, List.forall_mem_cons.mpr ⟨lw_p35, List.forall_mem_cons.mpr ⟨lw_p36, List.forall_mem_cons.mpr ⟨lw_p37, List.forall_mem_cons.mpr ⟨lw_p38, List.forall_mem_cons.mpr ⟨lw_p39, List.forall_mem_cons.mpr ⟨lw_p40, List.forall_mem_cons.mpr ⟨lw_p41, List.forall_mem_cons.mpr ⟨lw_p42, List.forall_mem_cons.mpr ⟨lw_p43, List.forall_mem_cons.mpr ⟨lw_p44, fun _ h => absurd h List.not_mem_nil⟩⟩⟩⟩⟩⟩⟩⟩⟩⟩⟩⟩⟩
def lw_privs : List (MethodName × Nat) := lw_privs_1 ++ (lw_privs_2 ++ (lw_privs_3))
def lw_tbl : List Cond := k2_sels lw_privs ++ tables_1
theorem lw_privs_ok : ∀ q ∈ lw_privs, lw_okq q := by
  show ∀ q ∈ lw_privs_1 ++ (lw_privs_2 ++ (lw_privs_3)), lw_okq q
  exact List.forall_mem_append.mpr ⟨lw_r1, List.forall_mem_append.mpr ⟨lw_r2, lw_r3⟩⟩
end
section
-- out of claim/NAMES.whole.lean.txt (printed; a starting text): names, fields; va_AOA is mine
/-- the tables' word on arrays over an array class, as a state's fact -/
def va_AOA (ty : FieldType) (U : State) : Prop := (Cond.arrayOver (.array ty)).before #[] U = true
theorem va_AOA.use {ty : FieldType} {A : Array Value} {U : State} (h : va_AOA ty U) : (Cond.arrayOver (.array ty)).before A U = true := h
theorem va_AOA.of {ty : FieldType} {A : Array Value} {U : State} (h : (Cond.arrayOver (.array ty)).before A U = true) : va_AOA ty U := h
/-! ===== BEGIN new T[n][m]: the outer array a place, the inner ones among the pooled ===== -/
/-- f, but v at every address of l -/
def vr_up {α : Type} (f : Nat → α) (l : List Nat) (v : α) : Nat → α := fun a => if a ∈ l then v else f a
theorem vr_up_in {α : Type} {f : Nat → α} {l : List Nat} {v : α} {a : Nat} (h : a ∈ l) : vr_up f l v a = v := if_pos h
theorem vr_up_ne {α : Type} {f : Nat → α} {l : List Nat} {v : α} {a : Nat} (h : a ∉ l) : vr_up f l v a = f a := if_neg h
theorem vr_rows {L l : List Nat} {f : Nat → va_E} {e : va_E} (h : ∀ a, a ∈ l → a ∉ L) : va_pl L f ++ l.map (fun a => (a, e)) = va_pl (L ++ l) (vr_up f l e) := by
  unfold va_pl
  rw [List.map_append]
  congr 1
  · apply List.map_congr_left
    intro a ha
    rw [vr_up_ne (fun q => h a q ha)]
  · apply List.map_congr_left
    intro a ha
    rw [vr_up_in ha]
theorem vr_lay {X rows : va_W} {x : Nat × va_E} {pl : va_W} {D : va_G} {cl : List vw_C} {H : Heap} (hP : va_P D cl (((X ++ pl) ++ [x]) ++ rows) H) : va_P D cl ((X ++ [x]) ++ (pl ++ rows)) H := by
  rw [List.append_assoc (X ++ pl)] at hP
  have h := va_P.swap hP
  rw [← List.append_assoc X] at h
  have h2 := va_P.swap h
  rw [List.append_assoc (X ++ [x])] at h2
  exact h2
theorem vr_layD {X rows : va_W} {x : Nat × va_E} {pl : va_W} {A : Nat → Prop} (hD : va_D A (((X ++ pl) ++ [x]) ++ rows)) : va_D A ((X ++ [x]) ++ (pl ++ rows)) := by
  rw [List.append_assoc (X ++ pl)] at hD
  have h := va_D.swap hD
  rw [← List.append_assoc X] at h
  have h2 := va_D.swap h
  rw [List.append_assoc (X ++ [x])] at h2
  exact h2
theorem vr_outer (c : ClassId) (N h0 : Nat) : ∀ i : Nat, Jvm.Free.Multi.outerC c N h0 i = arrV c N (fun j => va_rf (if j < i then some (h0 + 1 + j) else none))
  | 0 => by
    show ({ cls := c, slots := Array.replicate N .null, vm := .none } : Cell) = _
    rw [arrV_new]
    refine congrArg (arrV c N) (funext fun j => ?_)
    simp [va_rf]
  | i + 1 => by
    show (Jvm.Free.Multi.outerC c N h0 i).setSlot i (.ref (h0 + 1 + i)) = _
    rw [vr_outer c N h0 i, arrV_store]
    refine congrArg (arrV c N) (funext fun j => ?_)
    by_cases e : j = i
    · subst e
      simp [updV, va_rf]
    · by_cases h : j < i
      · simp [updV, e, h, Nat.lt_succ_of_lt h]
      · simp [updV, e, h, show ¬ j < i + 1 by omega]
section VGM
variable {p : Program} {l : Launch} {e : Env} {R : Room} {s : State} {m : MethodId} {args : Array Value} {below : List Frame} {meth : Method} {c : Code} {H : Heap} {locs : List Loc} {cells slots : Nat} {Q : State → Prop}
variable {cc : ByteArray} {pc : Nat} {ls : Array Slot} {rest : List Value} {D : va_G} {cl : List vw_C} {A : Nat → Prop} {a : Nat} {tys : List (ClassId × FieldType)} {ws : va_W} {H0 : Heap}
theorem va_mna {X : va_W} {L : List Nat} {f : Nat → va_E} {cc : ByteArray} (hexec : p.tables.exec = Jvm.exec) (hb : c.code = cc) {own : String} {index : Nat} {ty : FieldType} {cy : ClassId} (hown : s.vm.findClass own = some m.cls) (hclink : (Cond.classLink own index ("[" ++ (FieldType.array ty).toString)).before args s = true) (hover : va_AOA ty s) (harr : (Cond.arrayClass ty).before args s = true) (hcy : s.vm.findClass (FieldType.array ty).toString = some cy)
    (hK : va_K D cl tys s) (hP : va_P D cl (X ++ va_pl L f) H) (hD : va_D A (X ++ va_pl L f)) (hS : va_S A H0 H locs) (hA : ∀ q, H0.size ≤ q → A q) {n k : Int32} {N' K' : Nat} {z : vp_A} (hn : ¬ n < 0) (hk : ¬ k < 0) (hN : n.toNatClampNeg = N') (hM : k.toNatClampNeg = K')
    (hb1 : N' * 4 ≤ 536870912) (hb2 : K' * componentBytes ty ≤ 536870912) (hb3 : K' ≤ 536870912) (hdf : fits ty (defaultValue ty) = true) (hdd : (defaultValue ty).isDefault = true) (hcells : cells + (1 + N') ≤ R.cells) (hslots : slots + (N' + N' * K') ≤ R.slots) (hz : ∀ c : ClassId, Jvm.Free.Multi.innerC c K' (defaultValue ty) = vp_cell c z) (hdg : decode cc pc = .ok (.multianewarray index 2, 4))
    (kk : ∀ (q : Nat) (r : Nat → Nat) (cA : ClassId) (H1 : Heap), (∀ i j : Nat, i < N' → j < N' → r i = r j → i = j) → (∀ i : Nat, i < N' → r i ∉ L) → va_K D cl (tys ++ [(cA, .array ty)]) s →
      va_P D cl ((X ++ [(q, .inl (cA, N', .inr (.inr (.inr (.inr (fun i => if i < N' then some (r i) else none))))))]) ++ va_pl (L ++ (List.range N').map r) (vr_up f ((List.range N').map r) (.inl (cy, z)))) H1 → va_D A ((X ++ [(q, .inl (cA, N', .inr (.inr (.inr (.inr (fun i => if i < N' then some (r i) else none))))))]) ++ va_pl (L ++ (List.range N').map r) (vr_up f ((List.range N').map r) (.inl (cy, z)))) → va_S A H0 H1 locs →
      W p l e R s m args below meth c H1 locs (cells + 1 + N') (slots + N' + N' * K') Q (F0 m (pc + 4) ls (.ref q :: rest))) : W p l e R s m args below meth c H locs cells slots Q (F0 m pc ls (.int k :: .int n :: rest)) := by
  subst hN
  subst hM
  intro T hT Xs
  obtain ⟨vm₁, cA, comp, -, fA, fC, hO, -, X', step⟩ := Xs.multianewarray2F hexec hown hclink (va_AOA.use hover) harr (g := F0 m pc ls (.int k :: .int n :: rest)) rfl (by rw [hb]; exact hdg) rfl hn hk hb1 hb2 hb3 hdf hdd hcells hslots
  have ec : some cy = some comp := hcy.symm.trans fC
  cases ec
  generalize hF : Jvm.Free.Multi.fill (T.setVm vm₁) cA cy n.toNatClampNeg k.toNatClampNeg (defaultValue ty) n.toNatClampNeg = F at X' step
  have hTh : (T.setVm vm₁).heap = H := hT
  obtain ⟨f1, f2, -, -⟩ := Jvm.Free.Multi.fill_facts (T.setVm vm₁) cA cy n.toNatClampNeg k.toNatClampNeg (defaultValue ty) n.toNatClampNeg
  rw [hF, hTh] at f1 f2
  have hold : ∀ x : Nat, x < H.size → F.heap[x]? = H[x]? := fun x hx => by
    have := Jvm.Free.Multi.fill_old (T.setVm vm₁) cA cy n.toNatClampNeg k.toNatClampNeg (defaultValue ty) (a := x) (by rw [hTh]; exact hx) n.toNatClampNeg
    rw [hF, hTh] at this
    exact this
  have hrow : ∀ j : Nat, j < n.toNatClampNeg → F.heap[H.size + 1 + j]? = some (vp_cell cy z) := fun j hj => by
    have := Jvm.Free.Multi.fill_inner (T.setVm vm₁) cA cy n.toNatClampNeg k.toNatClampNeg (defaultValue ty) n.toNatClampNeg j hj
    rw [hF, hTh, hz] at this
    exact this
  have hout : Jvm.Free.Multi.outerC cA n.toNatClampNeg H.size n.toNatClampNeg = vp_cell cA (n.toNatClampNeg, .inr (.inr (.inr (.inr (fun i => if i < n.toNatClampNeg then some (H.size + 1 + i) else none))))) := by
    rw [vp_cell_q]
    exact vr_outer cA n.toNatClampNeg H.size n.toNatClampNeg
  rw [hout] at f2
  have hlt : ∀ a, a ∈ L → a < H.size := fun a ha => by
    obtain ⟨k9, hk9⟩ := va_pl_get (X := X) (f := f) ha
    exact (hP k9 _ hk9).lt
  have hnl : ∀ i : Nat, i < n.toNatClampNeg → H.size + 1 + i ∉ L := fun i _ h => by
    have := hlt _ h
    omega
  have hnm : ∀ a, a ∈ (List.range n.toNatClampNeg).map (fun i => H.size + 1 + i) → a ∉ L := fun a ha h => by
    obtain ⟨i, -, rfl⟩ := List.mem_map.mp ha
    have := hlt _ h
    omega
  have hP0 : va_P D cl (X ++ va_pl L f) F.heap := hP.kept (fun k9 x hx => hold x.1 ((hP k9 x hx).lt))
  have hP1 : va_P D cl ((X ++ va_pl L f) ++ [(H.size, .inl (cA, n.toNatClampNeg, .inr (.inr (.inr (.inr (fun i => if i < n.toNatClampNeg then some (H.size + 1 + i) else none))))))]) F.heap := hP0.app (fun k9 x hx => by
    have h0 : k9 < 1 := (List.getElem?_eq_some_iff.mp hx).1
    rw [show k9 = 0 by omega] at hx
    cases hx
    exact f2)
  have hP2 : va_P D cl (((X ++ va_pl L f) ++ [(H.size, .inl (cA, n.toNatClampNeg, .inr (.inr (.inr (.inr (fun i => if i < n.toNatClampNeg then some (H.size + 1 + i) else none))))))]) ++ ((List.range n.toNatClampNeg).map (fun i => H.size + 1 + i)).map (fun a => (a, .inl (cy, z)))) F.heap := hP1.app (fun k9 x hx => by
    obtain ⟨a, ha, rfl⟩ := List.mem_map.mp (List.mem_of_getElem? hx)
    obtain ⟨i, hi, rfl⟩ := List.mem_map.mp ha
    exact hrow i (List.mem_range.mp hi))
  have hD2 : va_D A (((X ++ va_pl L f) ++ [(H.size, .inl (cA, n.toNatClampNeg, .inr (.inr (.inr (.inr (fun i => if i < n.toNatClampNeg then some (H.size + 1 + i) else none))))))]) ++ ((List.range n.toNatClampNeg).map (fun i => H.size + 1 + i)).map (fun a => (a, .inl (cy, z)))) := by
    have hD1 := hD.push (e := .inl (cA, n.toNatClampNeg, .inr (.inr (.inr (.inr (fun i => if i < n.toNatClampNeg then some (H.size + 1 + i) else none)))))) hP rfl (hA _ hS.1)
    generalize hW1 : (X ++ va_pl L f) ++ [(H.size, .inl (cA, n.toNatClampNeg, .inr (.inr (.inr (.inr (fun i => if i < n.toNatClampNeg then some (H.size + 1 + i) else none))))))] = W1 at hD1 hP1 ⊢
    have hle : ∀ (k9 : Nat) (x : Nat × va_E), W1[k9]? = some x → x.1 ≤ H.size := fun k9 x hx => by
      rw [← hW1] at hx
      by_cases hl : k9 < (X ++ va_pl L f).length
      · rw [List.getElem?_append_left hl] at hx
        exact Nat.le_of_lt ((hP k9 x hx).lt)
      · rw [List.getElem?_append_right (by omega)] at hx
        have h0 : k9 - (X ++ va_pl L f).length < 1 := (List.getElem?_eq_some_iff.mp hx).1
        rw [show k9 - (X ++ va_pl L f).length = 0 by omega] at hx
        cases hx
        exact Nat.le_refl _
    have hr : ∀ (k9 : Nat) (x : Nat × va_E), (((List.range n.toNatClampNeg).map (fun i => H.size + 1 + i)).map (fun a => ((a, .inl (cy, z)) : Nat × va_E)))[k9]? = some x → x.1 = H.size + 1 + k9 := fun k9 x hx => by
      rw [List.getElem?_map, List.getElem?_map] at hx
      by_cases h9 : k9 < n.toNatClampNeg
      · rw [List.getElem?_range h9] at hx
        cases hx
        rfl
      · have hn0 : (List.range n.toNatClampNeg)[k9]? = none := List.getElem?_eq_none (by rw [List.length_range]; omega)
        rw [hn0] at hx
        cases hx
    refine ⟨fun i j x y hi hj hxy => ?_, fun k9 x hx => ?_⟩
    · by_cases h1 : i < W1.length <;> by_cases h2 : j < W1.length
      · rw [List.getElem?_append_left h1] at hi
        rw [List.getElem?_append_left h2] at hj
        exact hD1.1 i j x y hi hj hxy
      · rw [List.getElem?_append_left h1] at hi
        rw [List.getElem?_append_right (by omega)] at hj
        have := hle _ _ hi
        have := hr _ _ hj
        omega
      · rw [List.getElem?_append_right (by omega)] at hi
        rw [List.getElem?_append_left h2] at hj
        have := hle _ _ hj
        have := hr _ _ hi
        omega
      · rw [List.getElem?_append_right (by omega)] at hi hj
        have := hr _ _ hi
        have := hr _ _ hj
        omega
    · by_cases h1 : k9 < W1.length
      · rw [List.getElem?_append_left h1] at hx
        exact hD1.2 k9 x hx
      · rw [List.getElem?_append_right (by omega)] at hx
        have := hr _ _ hx
        exact hA _ (by have := hS.1; omega)
  have hAr : ArrOfT s cA (.array ty) := fun N9 z9 => by
    obtain ⟨-, k9, hk9, cm9, hkk9⟩ := (hO 0 0 0).1
    exact ⟨(fun q hq => by cases hq), k9, hk9, cm9, hkk9⟩
  have hK2 : va_K D cl (tys ++ [(cA, .array ty)]) s := ⟨hK.1, fun k9 x hx => by
    by_cases hl : k9 < tys.length
    · rw [List.getElem?_append_left hl] at hx
      exact hK.2 k9 x hx
    · rw [List.getElem?_append_right (by omega)] at hx
      have h0 : k9 - tys.length < 1 := (List.getElem?_eq_some_iff.mp hx).1
      rw [show k9 - tys.length = 0 by omega] at hx
      cases hx
      exact ⟨hAr, fA⟩⟩
  obtain ⟨t, a1, b1⟩ := kk H.size (fun i => H.size + 1 + i) cA F.heap (fun i j _ _ h => by have h9 : H.size + 1 + i = H.size + 1 + j := h; omega) hnl hK2 (by rw [← vr_rows hnm]; exact vr_lay hP2) (by rw [← vr_rows hnm]; exact vr_layD hD2) ⟨by rw [f1]; have := hS.1; omega, fun x h1 h2 => (hold x (Nat.lt_of_lt_of_le h1 hS.1)).trans (hS.2.1 x h1 h2), hS.2.2⟩ F rfl X'
  refine ⟨t, step t ?_, b1⟩
  have e : T.heap.size = H.size := by rw [hT]
  rw [e]
  exact a1
end VGM
/-! ===== END ===== -/

def RX0 : String := "ColourReduction"
def TX0 : u_T := fun k => match k with
  | 0 => ("ColourReduction", "identifiers", "[I", true)
  | 1 => ("ColourReduction", "parents", "[I", true)
  | 2 => ("ColourReduction", "rows", "[[I", true)
  | 3 => ("ColourReduction", "colours", "[I", false)
  | 4 => ("ColourReduction", "present", "I", false)
  | 5 => ("ColourReduction", "nodes", "I", false)
  | _ => ("ColourReduction", "rounds", "I", false)
def tyX0 : Nat → FieldType := fun k => match k with
  | 0 => .array .int
  | 1 => .array .int
  | 2 => .array (.array .int)
  | 3 => .array .int
  | 4 => .int
  | 5 => .int
  | _ => .int
abbrev wsX00 : List Cond := u_ws RX0 TX0 7
theorem nmX0 : ∀ a, a < 7 → ∀ b, b < 7 → a ≠ b → (TX0 a).2.1 ≠ (TX0 b).2.1 := by decide +kernel
theorem tyX0_ok : ∀ k, k < 7 → parseFieldDescriptor (TX0 k).2.2.1 = some (tyX0 k) := by decide +kernel
abbrev cX0_init : ByteArray := prog_1_method_1_code
def yX0_init : MethodName := ⟨RX0, "<init>", "()V"⟩
abbrev cX0_addNode : ByteArray := prog_1_method_2_code
def yX0_addNode : MethodName := ⟨RX0, "addNode", "(I)I"⟩
abbrev cX0_setParent : ByteArray := prog_1_method_3_code
def yX0_setParent : MethodName := ⟨RX0, "setParent", "(II)I"⟩
abbrev cX0_removeParent : ByteArray := prog_1_method_4_code
def yX0_removeParent : MethodName := ⟨RX0, "removeParent", "(I)I"⟩
abbrev cX0_parent : ByteArray := prog_1_method_5_code
def yX0_parent : MethodName := ⟨RX0, "parent", "(I)I"⟩
abbrev cX0_degree : ByteArray := prog_1_method_6_code
def yX0_degree : MethodName := ⟨RX0, "degree", "(I)I"⟩
abbrev cX0_depth : ByteArray := prog_1_method_7_code
def yX0_depth : MethodName := ⟨RX0, "depth", "(I)I"⟩
abbrev cX0_cycleLength : ByteArray := prog_1_method_8_code
def yX0_cycleLength : MethodName := ⟨RX0, "cycleLength", "(I)I"⟩
abbrev cX0_partCount : ByteArray := prog_1_method_9_code
def yX0_partCount : MethodName := ⟨RX0, "partCount", "()I"⟩
abbrev cX0_colour : ByteArray := prog_1_method_10_code
def yX0_colour : MethodName := ⟨RX0, "colour", "(I)I"⟩
abbrev cX0_setColour : ByteArray := prog_1_method_11_code
def yX0_setColour : MethodName := ⟨RX0, "setColour", "(II)I"⟩
abbrev cX0_resetColours : ByteArray := prog_1_method_12_code
def yX0_resetColours : MethodName := ⟨RX0, "resetColours", "()I"⟩
abbrev cX0_recolour : ByteArray := prog_1_method_13_code
def yX0_recolour : MethodName := ⟨RX0, "recolour", "(I)I"⟩
abbrev cX0_colourCount : ByteArray := prog_1_method_14_code
def yX0_colourCount : MethodName := ⟨RX0, "colourCount", "()I"⟩
abbrev cX0_greatestColour : ByteArray := prog_1_method_15_code
def yX0_greatestColour : MethodName := ⟨RX0, "greatestColour", "()I"⟩
abbrev cX0_conflictCount : ByteArray := prog_1_method_16_code
def yX0_conflictCount : MethodName := ⟨RX0, "conflictCount", "()I"⟩
abbrev cX0_differingBit : ByteArray := prog_1_method_17_code
def yX0_differingBit : MethodName := ⟨RX0, "differingBit", "(I)I"⟩
abbrev cX0_reduce : ByteArray := prog_1_method_18_code
def yX0_reduce : MethodName := ⟨RX0, "reduce", "()I"⟩
abbrev cX0_shift : ByteArray := prog_1_method_19_code
def yX0_shift : MethodName := ⟨RX0, "shift", "()I"⟩
abbrev cX0_eliminate : ByteArray := prog_1_method_20_code
def yX0_eliminate : MethodName := ⟨RX0, "eliminate", "(I)I"⟩
abbrev cX0_reduceToThree : ByteArray := prog_1_method_21_code
def yX0_reduceToThree : MethodName := ⟨RX0, "reduceToThree", "()I"⟩
abbrev cX0_roundCount : ByteArray := prog_1_method_22_code
def yX0_roundCount : MethodName := ⟨RX0, "roundCount", "()I"⟩
abbrev cX0_pastColour : ByteArray := prog_1_method_23_code
def yX0_pastColour : MethodName := ⟨RX0, "pastColour", "(II)I"⟩
abbrev cX0_inIndependentSet : ByteArray := prog_1_method_24_code
def yX0_inIndependentSet : MethodName := ⟨RX0, "inIndependentSet", "(I)I"⟩
abbrev cX0_independentSetSize : ByteArray := prog_1_method_25_code
def yX0_independentSetSize : MethodName := ⟨RX0, "independentSetSize", "()I"⟩
abbrev cX0_greatestIndependentSet : ByteArray := prog_1_method_26_code
def yX0_greatestIndependentSet : MethodName := ⟨RX0, "greatestIndependentSet", "(I)I"⟩
abbrev cX0_isNode : ByteArray := prog_1_method_27_code
def yX0_isNode : MethodName := ⟨RX0, "isNode", "(I)Z"⟩
abbrev cX0_isValue : ByteArray := prog_1_method_28_code
def yX0_isValue : MethodName := ⟨RX0, "isValue", "(I)Z"⟩
abbrev cX0_isIdentifierTaken : ByteArray := prog_1_method_29_code
def yX0_isIdentifierTaken : MethodName := ⟨RX0, "isIdentifierTaken", "(I)Z"⟩
abbrev cX0_isRoot : ByteArray := prog_1_method_30_code
def yX0_isRoot : MethodName := ⟨RX0, "isRoot", "(I)Z"⟩
abbrev cX0_replaceParent : ByteArray := prog_1_method_31_code
def yX0_replaceParent : MethodName := ⟨RX0, "replaceParent", "(II)I"⟩
abbrev cX0_isIn : ByteArray := prog_1_method_32_code
def yX0_isIn : MethodName := ⟨RX0, "isIn", "(II)Z"⟩
abbrev cX0_areNeighbours : ByteArray := prog_1_method_33_code
def yX0_areNeighbours : MethodName := ⟨RX0, "areNeighbours", "(II)Z"⟩
abbrev cX0_neighbours : ByteArray := prog_1_method_34_code
def yX0_neighbours : MethodName := ⟨RX0, "neighbours", "(I)I"⟩
abbrev cX0_part : ByteArray := prog_1_method_35_code
def yX0_part : MethodName := ⟨RX0, "part", "(I)I"⟩
abbrev cX0_widened : ByteArray := prog_1_method_36_code
def yX0_widened : MethodName := ⟨RX0, "widened", "(I)I"⟩
abbrev cX0_isProper : ByteArray := prog_1_method_37_code
def yX0_isProper : MethodName := ⟨RX0, "isProper", "()Z"⟩
abbrev cX0_isInConflict : ByteArray := prog_1_method_38_code
def yX0_isInConflict : MethodName := ⟨RX0, "isInConflict", "(I)Z"⟩
abbrev cX0_isFirstOfItsColour : ByteArray := prog_1_method_39_code
def yX0_isFirstOfItsColour : MethodName := ⟨RX0, "isFirstOfItsColour", "(I)Z"⟩
abbrev cX0_hasNeighbourOfColour : ByteArray := prog_1_method_40_code
def yX0_hasNeighbourOfColour : MethodName := ⟨RX0, "hasNeighbourOfColour", "(II)Z"⟩
abbrev cX0_lowestFreeColour : ByteArray := prog_1_method_41_code
def yX0_lowestFreeColour : MethodName := ⟨RX0, "lowestFreeColour", "(II)I"⟩
abbrev cX0_reductionBit : ByteArray := prog_1_method_42_code
def yX0_reductionBit : MethodName := ⟨RX0, "reductionBit", "(I)I"⟩
abbrev cX0_startCount : ByteArray := prog_1_method_43_code
def yX0_startCount : MethodName := ⟨RX0, "startCount", "()V"⟩
abbrev cX0_rowAfterPresent : ByteArray := prog_1_method_44_code
def yX0_rowAfterPresent : MethodName := ⟨RX0, "rowAfterPresent", "()I"⟩
abbrev cX0_endRound : ByteArray := prog_1_method_45_code
def yX0_endRound : MethodName := ⟨RX0, "endRound", "()V"⟩
abbrev cX0_doReduction : ByteArray := prog_1_method_46_code
def yX0_doReduction : MethodName := ⟨RX0, "doReduction", "()V"⟩
abbrev cX0_doShift : ByteArray := prog_1_method_47_code
def yX0_doShift : MethodName := ⟨RX0, "doShift", "()I"⟩
abbrev cX0_shiftedColour : ByteArray := prog_1_method_48_code
def yX0_shiftedColour : MethodName := ⟨RX0, "shiftedColour", "(I)I"⟩
abbrev cX0_doElimination : ByteArray := prog_1_method_49_code
def yX0_doElimination : MethodName := ⟨RX0, "doElimination", "(I)I"⟩
abbrev cX0_independentSet : ByteArray := prog_1_method_50_code
def yX0_independentSet : MethodName := ⟨RX0, "independentSet", "()I"⟩
abbrev cX0_nextToVisit : ByteArray := prog_1_method_51_code
def yX0_nextToVisit : MethodName := ⟨RX0, "nextToVisit", "(I)I"⟩
abbrev cX0_nodeAtAnEnd : ByteArray := prog_1_method_52_code
def yX0_nodeAtAnEnd : MethodName := ⟨RX0, "nodeAtAnEnd", "(I)I"⟩
def RX1 : String := "ColourReductionModel"
def TX1 : u_T := fun k => match k with
  | 0 => ("ColourReductionModel", "nodes", "I", false)
  | 1 => ("ColourReductionModel", "identifierOf", "[I", true)
  | 2 => ("ColourReductionModel", "parentOf", "[I", true)
  | 3 => ("ColourReductionModel", "colours", "[I", true)
  | 4 => ("ColourReductionModel", "rounds", "I", false)
  | 5 => ("ColourReductionModel", "next", "[I", true)
  | 6 => ("ColourReductionModel", "isIn", "[Z", true)
  | 7 => ("ColourReductionModel", "with", "[I", true)
  | 8 => ("ColourReductionModel", "without", "[I", true)
  | _ => ("ColourReductionModel", "waitsFor", "[I", true)
def tyX1 : Nat → FieldType := fun k => match k with
  | 0 => .int
  | 1 => .array .int
  | 2 => .array .int
  | 3 => .array .int
  | 4 => .int
  | 5 => .array .int
  | 6 => .array .boolean
  | 7 => .array .int
  | 8 => .array .int
  | _ => .array .int
abbrev wsX10 : List Cond := u_ws RX1 TX1 10
theorem nmX1 : ∀ a, a < 10 → ∀ b, b < 10 → a ≠ b → (TX1 a).2.1 ≠ (TX1 b).2.1 := by decide +kernel
theorem tyX1_ok : ∀ k, k < 10 → parseFieldDescriptor (TX1 k).2.2.1 = some (tyX1 k) := by decide +kernel
abbrev cX1_init : ByteArray := prog_3_method_1_code
def yX1_init : MethodName := ⟨RX1, "<init>", "()V"⟩
abbrev cX1_within : ByteArray := prog_3_method_2_code
def yX1_within : MethodName := ⟨RX1, "within", "(III)Z"⟩
abbrev cX1_isNode : ByteArray := prog_3_method_3_code
def yX1_isNode : MethodName := ⟨RX1, "isNode", "(I)Z"⟩
abbrev cX1_colourOf : ByteArray := prog_3_method_4_code
def yX1_colourOf : MethodName := ⟨RX1, "colourOf", "(I)I"⟩
abbrev cX1_paints : ByteArray := prog_3_method_5_code
def yX1_paints : MethodName := ⟨RX1, "paints", "(II)V"⟩
abbrev cX1_startsCount : ByteArray := prog_3_method_6_code
def yX1_startsCount : MethodName := ⟨RX1, "startsCount", "()V"⟩
abbrev cX1_addNode : ByteArray := prog_3_method_7_code
def yX1_addNode : MethodName := ⟨RX1, "addNode", "(I)I"⟩
abbrev cX1_changesParent : ByteArray := prog_3_method_8_code
def yX1_changesParent : MethodName := ⟨RX1, "changesParent", "(II)I"⟩
abbrev cX1_setParent : ByteArray := prog_3_method_9_code
def yX1_setParent : MethodName := ⟨RX1, "setParent", "(II)I"⟩
abbrev cX1_removeParent : ByteArray := prog_3_method_10_code
def yX1_removeParent : MethodName := ⟨RX1, "removeParent", "(I)I"⟩
abbrev cX1_parent : ByteArray := prog_3_method_11_code
def yX1_parent : MethodName := ⟨RX1, "parent", "(I)I"⟩
abbrev cX1_areNeighbours : ByteArray := prog_3_method_12_code
def yX1_areNeighbours : MethodName := ⟨RX1, "areNeighbours", "(II)Z"⟩
abbrev cX1_degree : ByteArray := prog_3_method_13_code
def yX1_degree : MethodName := ⟨RX1, "degree", "(I)I"⟩
abbrev cX1_stepsFrom : ByteArray := prog_3_method_14_code
def yX1_stepsFrom : MethodName := ⟨RX1, "stepsFrom", "(I)I"⟩
abbrev cX1_depth : ByteArray := prog_3_method_15_code
def yX1_depth : MethodName := ⟨RX1, "depth", "(I)I"⟩
abbrev cX1_cycleOf : ByteArray := prog_3_method_16_code
def yX1_cycleOf : MethodName := ⟨RX1, "cycleOf", "(I)I"⟩
abbrev cX1_cycleLength : ByteArray := prog_3_method_17_code
def yX1_cycleLength : MethodName := ⟨RX1, "cycleLength", "(I)I"⟩
abbrev cX1_headOf : ByteArray := prog_3_method_18_code
def yX1_headOf : MethodName := ⟨RX1, "headOf", "(I)I"⟩
abbrev cX1_partCount : ByteArray := prog_3_method_19_code
def yX1_partCount : MethodName := ⟨RX1, "partCount", "()I"⟩
abbrev cX1_colour : ByteArray := prog_3_method_20_code
def yX1_colour : MethodName := ⟨RX1, "colour", "(I)I"⟩
abbrev cX1_setColour : ByteArray := prog_3_method_21_code
def yX1_setColour : MethodName := ⟨RX1, "setColour", "(II)I"⟩
abbrev cX1_resetColours : ByteArray := prog_3_method_22_code
def yX1_resetColours : MethodName := ⟨RX1, "resetColours", "()I"⟩
abbrev cX1_isBeside : ByteArray := prog_3_method_23_code
def yX1_isBeside : MethodName := ⟨RX1, "isBeside", "(II)Z"⟩
abbrev cX1_recolour : ByteArray := prog_3_method_24_code
def yX1_recolour : MethodName := ⟨RX1, "recolour", "(I)I"⟩
abbrev cX1_colourCount : ByteArray := prog_3_method_25_code
def yX1_colourCount : MethodName := ⟨RX1, "colourCount", "()I"⟩
abbrev cX1_greatest : ByteArray := prog_3_method_26_code
def yX1_greatest : MethodName := ⟨RX1, "greatest", "()I"⟩
abbrev cX1_greatestColour : ByteArray := prog_3_method_27_code
def yX1_greatestColour : MethodName := ⟨RX1, "greatestColour", "()I"⟩
abbrev cX1_isConflict : ByteArray := prog_3_method_28_code
def yX1_isConflict : MethodName := ⟨RX1, "isConflict", "(I)Z"⟩
abbrev cX1_conflicts : ByteArray := prog_3_method_29_code
def yX1_conflicts : MethodName := ⟨RX1, "conflicts", "()I"⟩
abbrev cX1_conflictCount : ByteArray := prog_3_method_30_code
def yX1_conflictCount : MethodName := ⟨RX1, "conflictCount", "()I"⟩
abbrev cX1_bitOf : ByteArray := prog_3_method_31_code
def yX1_bitOf : MethodName := ⟨RX1, "bitOf", "(I)I"⟩
abbrev cX1_differingBit : ByteArray := prog_3_method_32_code
def yX1_differingBit : MethodName := ⟨RX1, "differingBit", "(I)I"⟩
abbrev cX1_ends : ByteArray := prog_3_method_33_code
def yX1_ends : MethodName := ⟨RX1, "ends", "()V"⟩
abbrev cX1_reduces : ByteArray := prog_3_method_34_code
def yX1_reduces : MethodName := ⟨RX1, "reduces", "()V"⟩
abbrev cX1_reduce : ByteArray := prog_3_method_35_code
def yX1_reduce : MethodName := ⟨RX1, "reduce", "()I"⟩
abbrev cX1_shift : ByteArray := prog_3_method_36_code
def yX1_shift : MethodName := ⟨RX1, "shift", "()I"⟩
abbrev cX1_freeOf : ByteArray := prog_3_method_37_code
def yX1_freeOf : MethodName := ⟨RX1, "freeOf", "(I)I"⟩
abbrev cX1_eliminates : ByteArray := prog_3_method_38_code
def yX1_eliminates : MethodName := ⟨RX1, "eliminates", "(I)I"⟩
abbrev cX1_eliminate : ByteArray := prog_3_method_39_code
def yX1_eliminate : MethodName := ⟨RX1, "eliminate", "(I)I"⟩
abbrev cX1_reduceToThree : ByteArray := prog_3_method_40_code
def yX1_reduceToThree : MethodName := ⟨RX1, "reduceToThree", "()I"⟩
abbrev cX1_roundCount : ByteArray := prog_3_method_41_code
def yX1_roundCount : MethodName := ⟨RX1, "roundCount", "()I"⟩
abbrev cX1_pastColour : ByteArray := prog_3_method_42_code
def yX1_pastColour : MethodName := ⟨RX1, "pastColour", "(II)I"⟩
abbrev cX1_buildSet : ByteArray := prog_3_method_43_code
def yX1_buildSet : MethodName := ⟨RX1, "buildSet", "()I"⟩
abbrev cX1_inIndependentSet : ByteArray := prog_3_method_44_code
def yX1_inIndependentSet : MethodName := ⟨RX1, "inIndependentSet", "(I)I"⟩
abbrev cX1_independentSetSize : ByteArray := prog_3_method_45_code
def yX1_independentSetSize : MethodName := ⟨RX1, "independentSetSize", "()I"⟩
abbrev cX1_greater : ByteArray := prog_3_method_46_code
def yX1_greater : MethodName := ⟨RX1, "greater", "(II)I"⟩
abbrev cX1_takesTrees : ByteArray := prog_3_method_47_code
def yX1_takesTrees : MethodName := ⟨RX1, "takesTrees", "()V"⟩
abbrev cX1_bestOfCycle : ByteArray := prog_3_method_48_code
def yX1_bestOfCycle : MethodName := ⟨RX1, "bestOfCycle", "(IZ)I"⟩
abbrev cX1_greatestIndependentSet : ByteArray := prog_3_method_49_code
def yX1_greatestIndependentSet : MethodName := ⟨RX1, "greatestIndependentSet", "(I)I"⟩
def RJ6 : String := "java/lang/Integer"
def TJ6 : u_T := fun k => match k with
  | _ => ("", "", "", false)
def tyJ6 : Nat → FieldType := fun k => match k with
  | _ => .int
abbrev wsJ60 : List Cond := u_ws RJ6 TJ6 0
theorem nmJ6 : ∀ a, a < 0 → ∀ b, b < 0 → a ≠ b → (TJ6 a).2.1 ≠ (TJ6 b).2.1 := by decide +kernel
theorem tyJ6_ok : ∀ k, k < 0 → parseFieldDescriptor (TJ6 k).2.2.1 = some (tyJ6 k) := by decide +kernel
abbrev cJ6_numberOfTrailingZeros_0f7a4 : ByteArray := prog_4_method_48_code
def yJ6_numberOfTrailingZeros_0f7a4 : MethodName := ⟨RJ6, "numberOfTrailingZeros", "(I)I"⟩
abbrev cJ6_bitCount_0f7a4 : ByteArray := prog_4_method_49_code
def yJ6_bitCount_0f7a4 : MethodName := ⟨RJ6, "bitCount", "(I)I"⟩
def RJ9 : String := "java/lang/Math"
def TJ9 : u_T := fun k => match k with
  | _ => ("", "", "", false)
def tyJ9 : Nat → FieldType := fun k => match k with
  | _ => .int
abbrev wsJ90 : List Cond := u_ws RJ9 TJ9 0
theorem nmJ9 : ∀ a, a < 0 → ∀ b, b < 0 → a ≠ b → (TJ9 a).2.1 ≠ (TJ9 b).2.1 := by decide +kernel
theorem tyJ9_ok : ∀ k, k < 0 → parseFieldDescriptor (TJ9 k).2.2.1 = some (tyJ9 k) := by decide +kernel
abbrev cJ9_max_7cf53 : ByteArray := prog_5_method_65_code
def yJ9_max_7cf53 : MethodName := ⟨RJ9, "max", "(II)I"⟩
def RL : String := "ColourReductionLaw"
abbrev cL_law : ByteArray := code
def yL_law : MethodName := ⟨RL, "law", "([I)Z"⟩
abbrev vwCl : List vw_C := [(RX0, TX0, 7), (RX1, TX1, 10)]
end
section
theorem dX0_init_0 : decode cX0_init 0 = .ok (.aload_n 0, 1) := by decide +kernel
theorem dX0_init_1 : decode cX0_init 1 = .ok (.invokespecial 3, 3) := by decide +kernel
theorem dX0_init_4 : decode cX0_init 4 = .ok (.aload_n 0, 1) := by decide +kernel
theorem dX0_init_5 : decode cX0_init 5 = .ok (.bipush 24, 2) := by decide +kernel
theorem dX0_init_7 : decode cX0_init 7 = .ok (.newarray .int, 2) := by decide +kernel
theorem dX0_init_9 : decode cX0_init 9 = .ok (.putfield 9, 3) := by decide +kernel
theorem dX0_init_12 : decode cX0_init 12 = .ok (.aload_n 0, 1) := by decide +kernel
theorem dX0_init_13 : decode cX0_init 13 = .ok (.bipush 24, 2) := by decide +kernel
theorem dX0_init_15 : decode cX0_init 15 = .ok (.newarray .int, 2) := by decide +kernel
theorem dX0_init_17 : decode cX0_init 17 = .ok (.putfield 13, 3) := by decide +kernel
theorem dX0_init_20 : decode cX0_init 20 = .ok (.aload_n 0, 1) := by decide +kernel
theorem dX0_init_21 : decode cX0_init 21 = .ok (.bipush 18, 2) := by decide +kernel
theorem dX0_init_23 : decode cX0_init 23 = .ok (.bipush 24, 2) := by decide +kernel
theorem dX0_init_25 : decode cX0_init 25 = .ok (.multianewarray 16 2, 4) := by decide +kernel
theorem dX0_init_29 : decode cX0_init 29 = .ok (.putfield 18, 3) := by decide +kernel
theorem dX0_init_32 : decode cX0_init 32 = .ok (.aload_n 0, 1) := by decide +kernel
theorem dX0_init_33 : decode cX0_init 33 = .ok (.aload_n 0, 1) := by decide +kernel
theorem dX0_init_34 : decode cX0_init 34 = .ok (.getfield 18, 3) := by decide +kernel
theorem dX0_init_37 : decode cX0_init 37 = .ok (.iconst 0, 1) := by decide +kernel
theorem dX0_init_38 : decode cX0_init 38 = .ok (.aaload, 1) := by decide +kernel
theorem dX0_init_39 : decode cX0_init 39 = .ok (.putfield 21, 3) := by decide +kernel
theorem dX0_init_42 : decode cX0_init 42 = .ok (.aload_n 0, 1) := by decide +kernel
theorem dX0_init_43 : decode cX0_init 43 = .ok (.iconst 0, 1) := by decide +kernel
theorem dX0_init_44 : decode cX0_init 44 = .ok (.putfield 24, 3) := by decide +kernel
theorem dX0_init_47 : decode cX0_init 47 = .ok (.aload_n 0, 1) := by decide +kernel
theorem dX0_init_48 : decode cX0_init 48 = .ok (.iconst 0, 1) := by decide +kernel
theorem dX0_init_49 : decode cX0_init 49 = .ok (.putfield 28, 3) := by decide +kernel
theorem dX0_init_52 : decode cX0_init 52 = .ok (.aload_n 0, 1) := by decide +kernel
theorem dX0_init_53 : decode cX0_init 53 = .ok (.iconst 0, 1) := by decide +kernel
theorem dX0_init_54 : decode cX0_init 54 = .ok (.putfield 31, 3) := by decide +kernel
theorem dX0_init_57 : decode cX0_init 57 = .ok (.return_, 1) := by decide +kernel
theorem dX0_addNode_0 : decode cX0_addNode 0 = .ok (.iload_n 1, 1) := by decide +kernel
theorem dX0_addNode_1 : decode cX0_addNode 1 = .ok (.invokestatic 34, 3) := by decide +kernel
theorem dX0_addNode_4 : decode cX0_addNode 4 = .ok (.ifCond .ne 6, 3) := by decide +kernel
theorem dX0_addNode_7 : decode cX0_addNode 7 = .ok (.bipush (-2), 2) := by decide +kernel
theorem dX0_addNode_9 : decode cX0_addNode 9 = .ok (.ireturn, 1) := by decide +kernel
theorem dX0_addNode_10 : decode cX0_addNode 10 = .ok (.aload_n 0, 1) := by decide +kernel
theorem dX0_addNode_11 : decode cX0_addNode 11 = .ok (.iload_n 1, 1) := by decide +kernel
theorem dX0_addNode_12 : decode cX0_addNode 12 = .ok (.invokevirtual 38, 3) := by decide +kernel
theorem dX0_addNode_15 : decode cX0_addNode 15 = .ok (.ifCond .eq 6, 3) := by decide +kernel
theorem dX0_addNode_18 : decode cX0_addNode 18 = .ok (.bipush (-3), 2) := by decide +kernel
theorem dX0_addNode_20 : decode cX0_addNode 20 = .ok (.ireturn, 1) := by decide +kernel
theorem dX0_addNode_21 : decode cX0_addNode 21 = .ok (.aload_n 0, 1) := by decide +kernel
theorem dX0_addNode_22 : decode cX0_addNode 22 = .ok (.getfield 28, 3) := by decide +kernel
theorem dX0_addNode_25 : decode cX0_addNode 25 = .ok (.bipush 24, 2) := by decide +kernel
theorem dX0_addNode_27 : decode cX0_addNode 27 = .ok (.if_icmp .lt 6, 3) := by decide +kernel
theorem dX0_addNode_30 : decode cX0_addNode 30 = .ok (.bipush (-4), 2) := by decide +kernel
theorem dX0_addNode_32 : decode cX0_addNode 32 = .ok (.ireturn, 1) := by decide +kernel
theorem dX0_addNode_33 : decode cX0_addNode 33 = .ok (.aload_n 0, 1) := by decide +kernel
theorem dX0_addNode_34 : decode cX0_addNode 34 = .ok (.getfield 28, 3) := by decide +kernel
theorem dX0_addNode_37 : decode cX0_addNode 37 = .ok (.istore_n 2, 1) := by decide +kernel
theorem dX0_addNode_38 : decode cX0_addNode 38 = .ok (.aload_n 0, 1) := by decide +kernel
theorem dX0_addNode_39 : decode cX0_addNode 39 = .ok (.dup, 1) := by decide +kernel
theorem dX0_addNode_40 : decode cX0_addNode 40 = .ok (.getfield 28, 3) := by decide +kernel
theorem dX0_addNode_43 : decode cX0_addNode 43 = .ok (.iconst 1, 1) := by decide +kernel
theorem dX0_addNode_44 : decode cX0_addNode 44 = .ok (.iadd, 1) := by decide +kernel
theorem dX0_addNode_45 : decode cX0_addNode 45 = .ok (.putfield 28, 3) := by decide +kernel
theorem dX0_addNode_48 : decode cX0_addNode 48 = .ok (.aload_n 0, 1) := by decide +kernel
theorem dX0_addNode_49 : decode cX0_addNode 49 = .ok (.getfield 9, 3) := by decide +kernel
theorem dX0_addNode_52 : decode cX0_addNode 52 = .ok (.iload_n 2, 1) := by decide +kernel
theorem dX0_addNode_53 : decode cX0_addNode 53 = .ok (.iload_n 1, 1) := by decide +kernel
theorem dX0_addNode_54 : decode cX0_addNode 54 = .ok (.iastore, 1) := by decide +kernel
theorem dX0_addNode_55 : decode cX0_addNode 55 = .ok (.aload_n 0, 1) := by decide +kernel
theorem dX0_addNode_56 : decode cX0_addNode 56 = .ok (.getfield 13, 3) := by decide +kernel
theorem dX0_addNode_59 : decode cX0_addNode 59 = .ok (.iload_n 2, 1) := by decide +kernel
theorem dX0_addNode_60 : decode cX0_addNode 60 = .ok (.bipush (-7), 2) := by decide +kernel
theorem dX0_addNode_62 : decode cX0_addNode 62 = .ok (.iastore, 1) := by decide +kernel
theorem dX0_addNode_63 : decode cX0_addNode 63 = .ok (.aload_n 0, 1) := by decide +kernel
theorem dX0_addNode_64 : decode cX0_addNode 64 = .ok (.getfield 21, 3) := by decide +kernel
theorem dX0_addNode_67 : decode cX0_addNode 67 = .ok (.iload_n 2, 1) := by decide +kernel
theorem dX0_addNode_68 : decode cX0_addNode 68 = .ok (.iload_n 1, 1) := by decide +kernel
theorem dX0_addNode_69 : decode cX0_addNode 69 = .ok (.iastore, 1) := by decide +kernel
theorem dX0_addNode_70 : decode cX0_addNode 70 = .ok (.aload_n 0, 1) := by decide +kernel
theorem dX0_addNode_71 : decode cX0_addNode 71 = .ok (.invokevirtual 41, 3) := by decide +kernel
theorem dX0_addNode_74 : decode cX0_addNode 74 = .ok (.iload_n 2, 1) := by decide +kernel
theorem dX0_addNode_75 : decode cX0_addNode 75 = .ok (.ireturn, 1) := by decide +kernel
theorem dX0_setParent_0 : decode cX0_setParent 0 = .ok (.aload_n 0, 1) := by decide +kernel
theorem dX0_setParent_1 : decode cX0_setParent 1 = .ok (.iload_n 1, 1) := by decide +kernel
theorem dX0_setParent_2 : decode cX0_setParent 2 = .ok (.invokevirtual 44, 3) := by decide +kernel
theorem dX0_setParent_5 : decode cX0_setParent 5 = .ok (.ifCond .eq 11, 3) := by decide +kernel
theorem dX0_setParent_8 : decode cX0_setParent 8 = .ok (.aload_n 0, 1) := by decide +kernel
theorem dX0_setParent_9 : decode cX0_setParent 9 = .ok (.iload_n 2, 1) := by decide +kernel
theorem dX0_setParent_10 : decode cX0_setParent 10 = .ok (.invokevirtual 44, 3) := by decide +kernel
theorem dX0_setParent_13 : decode cX0_setParent 13 = .ok (.ifCond .ne 5, 3) := by decide +kernel
theorem dX0_setParent_16 : decode cX0_setParent 16 = .ok (.iconst (-1), 1) := by decide +kernel
theorem dX0_setParent_17 : decode cX0_setParent 17 = .ok (.ireturn, 1) := by decide +kernel
theorem dX0_setParent_18 : decode cX0_setParent 18 = .ok (.iload_n 1, 1) := by decide +kernel
theorem dX0_setParent_19 : decode cX0_setParent 19 = .ok (.iload_n 2, 1) := by decide +kernel
theorem dX0_setParent_20 : decode cX0_setParent 20 = .ok (.if_icmp .ne 6, 3) := by decide +kernel
theorem dX0_setParent_23 : decode cX0_setParent 23 = .ok (.bipush (-2), 2) := by decide +kernel
theorem dX0_setParent_25 : decode cX0_setParent 25 = .ok (.ireturn, 1) := by decide +kernel
theorem dX0_setParent_26 : decode cX0_setParent 26 = .ok (.aload_n 0, 1) := by decide +kernel
theorem dX0_setParent_27 : decode cX0_setParent 27 = .ok (.iload_n 1, 1) := by decide +kernel
theorem dX0_setParent_28 : decode cX0_setParent 28 = .ok (.iload_n 2, 1) := by decide +kernel
theorem dX0_setParent_29 : decode cX0_setParent 29 = .ok (.invokevirtual 47, 3) := by decide +kernel
theorem dX0_setParent_32 : decode cX0_setParent 32 = .ok (.ireturn, 1) := by decide +kernel
theorem dX0_removeParent_0 : decode cX0_removeParent 0 = .ok (.aload_n 0, 1) := by decide +kernel
theorem dX0_removeParent_1 : decode cX0_removeParent 1 = .ok (.iload_n 1, 1) := by decide +kernel
theorem dX0_removeParent_2 : decode cX0_removeParent 2 = .ok (.invokevirtual 44, 3) := by decide +kernel
theorem dX0_removeParent_5 : decode cX0_removeParent 5 = .ok (.ifCond .ne 5, 3) := by decide +kernel
theorem dX0_removeParent_8 : decode cX0_removeParent 8 = .ok (.iconst (-1), 1) := by decide +kernel
theorem dX0_removeParent_9 : decode cX0_removeParent 9 = .ok (.ireturn, 1) := by decide +kernel
theorem dX0_removeParent_10 : decode cX0_removeParent 10 = .ok (.aload_n 0, 1) := by decide +kernel
theorem dX0_removeParent_11 : decode cX0_removeParent 11 = .ok (.iload_n 1, 1) := by decide +kernel
theorem dX0_removeParent_12 : decode cX0_removeParent 12 = .ok (.bipush (-7), 2) := by decide +kernel
theorem dX0_removeParent_14 : decode cX0_removeParent 14 = .ok (.invokevirtual 47, 3) := by decide +kernel
theorem dX0_removeParent_17 : decode cX0_removeParent 17 = .ok (.ireturn, 1) := by decide +kernel
theorem dX0_parent_0 : decode cX0_parent 0 = .ok (.aload_n 0, 1) := by decide +kernel
theorem dX0_parent_1 : decode cX0_parent 1 = .ok (.iload_n 1, 1) := by decide +kernel
theorem dX0_parent_2 : decode cX0_parent 2 = .ok (.invokevirtual 44, 3) := by decide +kernel
theorem dX0_parent_5 : decode cX0_parent 5 = .ok (.ifCond .ne 5, 3) := by decide +kernel
theorem dX0_parent_8 : decode cX0_parent 8 = .ok (.iconst (-1), 1) := by decide +kernel
theorem dX0_parent_9 : decode cX0_parent 9 = .ok (.ireturn, 1) := by decide +kernel
theorem dX0_parent_10 : decode cX0_parent 10 = .ok (.aload_n 0, 1) := by decide +kernel
theorem dX0_parent_11 : decode cX0_parent 11 = .ok (.getfield 13, 3) := by decide +kernel
theorem dX0_parent_14 : decode cX0_parent 14 = .ok (.iload_n 1, 1) := by decide +kernel
theorem dX0_parent_15 : decode cX0_parent 15 = .ok (.iaload, 1) := by decide +kernel
theorem dX0_parent_16 : decode cX0_parent 16 = .ok (.ireturn, 1) := by decide +kernel
theorem dX0_degree_0 : decode cX0_degree 0 = .ok (.aload_n 0, 1) := by decide +kernel
theorem dX0_degree_1 : decode cX0_degree 1 = .ok (.iload_n 1, 1) := by decide +kernel
theorem dX0_degree_2 : decode cX0_degree 2 = .ok (.invokevirtual 44, 3) := by decide +kernel
theorem dX0_degree_5 : decode cX0_degree 5 = .ok (.ifCond .ne 5, 3) := by decide +kernel
theorem dX0_degree_8 : decode cX0_degree 8 = .ok (.iconst (-1), 1) := by decide +kernel
theorem dX0_degree_9 : decode cX0_degree 9 = .ok (.ireturn, 1) := by decide +kernel
theorem dX0_degree_10 : decode cX0_degree 10 = .ok (.aload_n 0, 1) := by decide +kernel
theorem dX0_degree_11 : decode cX0_degree 11 = .ok (.iload_n 1, 1) := by decide +kernel
theorem dX0_degree_12 : decode cX0_degree 12 = .ok (.invokevirtual 51, 3) := by decide +kernel
theorem dX0_degree_15 : decode cX0_degree 15 = .ok (.invokestatic 55, 3) := by decide +kernel
theorem dX0_degree_18 : decode cX0_degree 18 = .ok (.ireturn, 1) := by decide +kernel
theorem dX0_depth_0 : decode cX0_depth 0 = .ok (.aload_n 0, 1) := by decide +kernel
theorem dX0_depth_1 : decode cX0_depth 1 = .ok (.iload_n 1, 1) := by decide +kernel
theorem dX0_depth_2 : decode cX0_depth 2 = .ok (.invokevirtual 44, 3) := by decide +kernel
theorem dX0_depth_5 : decode cX0_depth 5 = .ok (.ifCond .ne 5, 3) := by decide +kernel
theorem dX0_depth_8 : decode cX0_depth 8 = .ok (.iconst (-1), 1) := by decide +kernel
theorem dX0_depth_9 : decode cX0_depth 9 = .ok (.ireturn, 1) := by decide +kernel
theorem dX0_depth_10 : decode cX0_depth 10 = .ok (.iload_n 1, 1) := by decide +kernel
theorem dX0_depth_11 : decode cX0_depth 11 = .ok (.istore_n 2, 1) := by decide +kernel
theorem dX0_depth_12 : decode cX0_depth 12 = .ok (.iconst 0, 1) := by decide +kernel
theorem dX0_depth_13 : decode cX0_depth 13 = .ok (.istore_n 3, 1) := by decide +kernel
theorem dX0_depth_14 : decode cX0_depth 14 = .ok (.iload_n 3, 1) := by decide +kernel
theorem dX0_depth_15 : decode cX0_depth 15 = .ok (.aload_n 0, 1) := by decide +kernel
theorem dX0_depth_16 : decode cX0_depth 16 = .ok (.getfield 28, 3) := by decide +kernel
theorem dX0_depth_19 : decode cX0_depth 19 = .ok (.if_icmp .ge 26, 3) := by decide +kernel
theorem dX0_depth_22 : decode cX0_depth 22 = .ok (.aload_n 0, 1) := by decide +kernel
theorem dX0_depth_23 : decode cX0_depth 23 = .ok (.iload_n 2, 1) := by decide +kernel
theorem dX0_depth_24 : decode cX0_depth 24 = .ok (.invokevirtual 60, 3) := by decide +kernel
theorem dX0_depth_27 : decode cX0_depth 27 = .ok (.ifCond .eq 5, 3) := by decide +kernel
theorem dX0_depth_30 : decode cX0_depth 30 = .ok (.iload_n 3, 1) := by decide +kernel
theorem dX0_depth_31 : decode cX0_depth 31 = .ok (.ireturn, 1) := by decide +kernel
theorem dX0_depth_32 : decode cX0_depth 32 = .ok (.aload_n 0, 1) := by decide +kernel
theorem dX0_depth_33 : decode cX0_depth 33 = .ok (.getfield 13, 3) := by decide +kernel
theorem dX0_depth_36 : decode cX0_depth 36 = .ok (.iload_n 2, 1) := by decide +kernel
theorem dX0_depth_37 : decode cX0_depth 37 = .ok (.iaload, 1) := by decide +kernel
theorem dX0_depth_38 : decode cX0_depth 38 = .ok (.istore_n 2, 1) := by decide +kernel
theorem dX0_depth_39 : decode cX0_depth 39 = .ok (.iinc 3 1, 3) := by decide +kernel
theorem dX0_depth_42 : decode cX0_depth 42 = .ok (.goto (-28), 3) := by decide +kernel
theorem dX0_depth_45 : decode cX0_depth 45 = .ok (.bipush (-7), 2) := by decide +kernel
theorem dX0_depth_47 : decode cX0_depth 47 = .ok (.ireturn, 1) := by decide +kernel
theorem dX0_cycleLength_0 : decode cX0_cycleLength 0 = .ok (.aload_n 0, 1) := by decide +kernel
theorem dX0_cycleLength_1 : decode cX0_cycleLength 1 = .ok (.iload_n 1, 1) := by decide +kernel
theorem dX0_cycleLength_2 : decode cX0_cycleLength 2 = .ok (.invokevirtual 44, 3) := by decide +kernel
theorem dX0_cycleLength_5 : decode cX0_cycleLength 5 = .ok (.ifCond .ne 5, 3) := by decide +kernel
theorem dX0_cycleLength_8 : decode cX0_cycleLength 8 = .ok (.iconst (-1), 1) := by decide +kernel
theorem dX0_cycleLength_9 : decode cX0_cycleLength 9 = .ok (.ireturn, 1) := by decide +kernel
theorem dX0_cycleLength_10 : decode cX0_cycleLength 10 = .ok (.iload_n 1, 1) := by decide +kernel
theorem dX0_cycleLength_11 : decode cX0_cycleLength 11 = .ok (.istore_n 2, 1) := by decide +kernel
theorem dX0_cycleLength_12 : decode cX0_cycleLength 12 = .ok (.iconst 1, 1) := by decide +kernel
theorem dX0_cycleLength_13 : decode cX0_cycleLength 13 = .ok (.istore_n 3, 1) := by decide +kernel
theorem dX0_cycleLength_14 : decode cX0_cycleLength 14 = .ok (.iload_n 3, 1) := by decide +kernel
theorem dX0_cycleLength_15 : decode cX0_cycleLength 15 = .ok (.aload_n 0, 1) := by decide +kernel
theorem dX0_cycleLength_16 : decode cX0_cycleLength 16 = .ok (.getfield 28, 3) := by decide +kernel
theorem dX0_cycleLength_19 : decode cX0_cycleLength 19 = .ok (.if_icmp .gt 34, 3) := by decide +kernel
theorem dX0_cycleLength_22 : decode cX0_cycleLength 22 = .ok (.aload_n 0, 1) := by decide +kernel
theorem dX0_cycleLength_23 : decode cX0_cycleLength 23 = .ok (.iload_n 2, 1) := by decide +kernel
theorem dX0_cycleLength_24 : decode cX0_cycleLength 24 = .ok (.invokevirtual 60, 3) := by decide +kernel
theorem dX0_cycleLength_27 : decode cX0_cycleLength 27 = .ok (.ifCond .eq 6, 3) := by decide +kernel
theorem dX0_cycleLength_30 : decode cX0_cycleLength 30 = .ok (.bipush (-7), 2) := by decide +kernel
theorem dX0_cycleLength_32 : decode cX0_cycleLength 32 = .ok (.ireturn, 1) := by decide +kernel
theorem dX0_cycleLength_33 : decode cX0_cycleLength 33 = .ok (.aload_n 0, 1) := by decide +kernel
theorem dX0_cycleLength_34 : decode cX0_cycleLength 34 = .ok (.getfield 13, 3) := by decide +kernel
theorem dX0_cycleLength_37 : decode cX0_cycleLength 37 = .ok (.iload_n 2, 1) := by decide +kernel
theorem dX0_cycleLength_38 : decode cX0_cycleLength 38 = .ok (.iaload, 1) := by decide +kernel
theorem dX0_cycleLength_39 : decode cX0_cycleLength 39 = .ok (.istore_n 2, 1) := by decide +kernel
theorem dX0_cycleLength_40 : decode cX0_cycleLength 40 = .ok (.iload_n 2, 1) := by decide +kernel
theorem dX0_cycleLength_41 : decode cX0_cycleLength 41 = .ok (.iload_n 1, 1) := by decide +kernel
theorem dX0_cycleLength_42 : decode cX0_cycleLength 42 = .ok (.if_icmp .ne 5, 3) := by decide +kernel
theorem dX0_cycleLength_45 : decode cX0_cycleLength 45 = .ok (.iload_n 3, 1) := by decide +kernel
theorem dX0_cycleLength_46 : decode cX0_cycleLength 46 = .ok (.ireturn, 1) := by decide +kernel
theorem dX0_cycleLength_47 : decode cX0_cycleLength 47 = .ok (.iinc 3 1, 3) := by decide +kernel
theorem dX0_cycleLength_50 : decode cX0_cycleLength 50 = .ok (.goto (-36), 3) := by decide +kernel
theorem dX0_cycleLength_53 : decode cX0_cycleLength 53 = .ok (.bipush (-7), 2) := by decide +kernel
theorem dX0_cycleLength_55 : decode cX0_cycleLength 55 = .ok (.ireturn, 1) := by decide +kernel
theorem dX0_partCount_0 : decode cX0_partCount 0 = .ok (.iconst 0, 1) := by decide +kernel
theorem dX0_partCount_1 : decode cX0_partCount 1 = .ok (.istore_n 1, 1) := by decide +kernel
theorem dX0_partCount_2 : decode cX0_partCount 2 = .ok (.iconst 0, 1) := by decide +kernel
theorem dX0_partCount_3 : decode cX0_partCount 3 = .ok (.istore_n 2, 1) := by decide +kernel
theorem dX0_partCount_4 : decode cX0_partCount 4 = .ok (.iconst 0, 1) := by decide +kernel
theorem dX0_partCount_5 : decode cX0_partCount 5 = .ok (.istore_n 3, 1) := by decide +kernel
theorem dX0_partCount_6 : decode cX0_partCount 6 = .ok (.iload_n 3, 1) := by decide +kernel
theorem dX0_partCount_7 : decode cX0_partCount 7 = .ok (.aload_n 0, 1) := by decide +kernel
theorem dX0_partCount_8 : decode cX0_partCount 8 = .ok (.getfield 28, 3) := by decide +kernel
theorem dX0_partCount_11 : decode cX0_partCount 11 = .ok (.if_icmp .ge 28, 3) := by decide +kernel
theorem dX0_partCount_14 : decode cX0_partCount 14 = .ok (.iload_n 2, 1) := by decide +kernel
theorem dX0_partCount_15 : decode cX0_partCount 15 = .ok (.iload_n 3, 1) := by decide +kernel
theorem dX0_partCount_16 : decode cX0_partCount 16 = .ok (.invokestatic 63, 3) := by decide +kernel
theorem dX0_partCount_19 : decode cX0_partCount 19 = .ok (.ifCond .ne 14, 3) := by decide +kernel
theorem dX0_partCount_22 : decode cX0_partCount 22 = .ok (.iload_n 2, 1) := by decide +kernel
theorem dX0_partCount_23 : decode cX0_partCount 23 = .ok (.aload_n 0, 1) := by decide +kernel
theorem dX0_partCount_24 : decode cX0_partCount 24 = .ok (.iload_n 3, 1) := by decide +kernel
theorem dX0_partCount_25 : decode cX0_partCount 25 = .ok (.invokevirtual 67, 3) := by decide +kernel
theorem dX0_partCount_28 : decode cX0_partCount 28 = .ok (.ior, 1) := by decide +kernel
theorem dX0_partCount_29 : decode cX0_partCount 29 = .ok (.istore_n 2, 1) := by decide +kernel
theorem dX0_partCount_30 : decode cX0_partCount 30 = .ok (.iinc 1 1, 3) := by decide +kernel
theorem dX0_partCount_33 : decode cX0_partCount 33 = .ok (.iinc 3 1, 3) := by decide +kernel
theorem dX0_partCount_36 : decode cX0_partCount 36 = .ok (.goto (-30), 3) := by decide +kernel
theorem dX0_partCount_39 : decode cX0_partCount 39 = .ok (.iload_n 1, 1) := by decide +kernel
theorem dX0_partCount_40 : decode cX0_partCount 40 = .ok (.ireturn, 1) := by decide +kernel
theorem dX0_colour_0 : decode cX0_colour 0 = .ok (.aload_n 0, 1) := by decide +kernel
theorem dX0_colour_1 : decode cX0_colour 1 = .ok (.iload_n 1, 1) := by decide +kernel
theorem dX0_colour_2 : decode cX0_colour 2 = .ok (.invokevirtual 44, 3) := by decide +kernel
theorem dX0_colour_5 : decode cX0_colour 5 = .ok (.ifCond .ne 5, 3) := by decide +kernel
theorem dX0_colour_8 : decode cX0_colour 8 = .ok (.iconst (-1), 1) := by decide +kernel
theorem dX0_colour_9 : decode cX0_colour 9 = .ok (.ireturn, 1) := by decide +kernel
theorem dX0_colour_10 : decode cX0_colour 10 = .ok (.aload_n 0, 1) := by decide +kernel
theorem dX0_colour_11 : decode cX0_colour 11 = .ok (.getfield 21, 3) := by decide +kernel
theorem dX0_colour_14 : decode cX0_colour 14 = .ok (.iload_n 1, 1) := by decide +kernel
theorem dX0_colour_15 : decode cX0_colour 15 = .ok (.iaload, 1) := by decide +kernel
theorem dX0_colour_16 : decode cX0_colour 16 = .ok (.ireturn, 1) := by decide +kernel
theorem dX0_setColour_0 : decode cX0_setColour 0 = .ok (.aload_n 0, 1) := by decide +kernel
theorem dX0_setColour_1 : decode cX0_setColour 1 = .ok (.iload_n 1, 1) := by decide +kernel
theorem dX0_setColour_2 : decode cX0_setColour 2 = .ok (.invokevirtual 44, 3) := by decide +kernel
theorem dX0_setColour_5 : decode cX0_setColour 5 = .ok (.ifCond .ne 5, 3) := by decide +kernel
theorem dX0_setColour_8 : decode cX0_setColour 8 = .ok (.iconst (-1), 1) := by decide +kernel
theorem dX0_setColour_9 : decode cX0_setColour 9 = .ok (.ireturn, 1) := by decide +kernel
theorem dX0_setColour_10 : decode cX0_setColour 10 = .ok (.iload_n 2, 1) := by decide +kernel
theorem dX0_setColour_11 : decode cX0_setColour 11 = .ok (.invokestatic 34, 3) := by decide +kernel
theorem dX0_setColour_14 : decode cX0_setColour 14 = .ok (.ifCond .ne 6, 3) := by decide +kernel
theorem dX0_setColour_17 : decode cX0_setColour 17 = .ok (.bipush (-2), 2) := by decide +kernel
theorem dX0_setColour_19 : decode cX0_setColour 19 = .ok (.ireturn, 1) := by decide +kernel
theorem dX0_setColour_20 : decode cX0_setColour 20 = .ok (.aload_n 0, 1) := by decide +kernel
theorem dX0_setColour_21 : decode cX0_setColour 21 = .ok (.getfield 21, 3) := by decide +kernel
theorem dX0_setColour_24 : decode cX0_setColour 24 = .ok (.iload_n 1, 1) := by decide +kernel
theorem dX0_setColour_25 : decode cX0_setColour 25 = .ok (.iaload, 1) := by decide +kernel
theorem dX0_setColour_26 : decode cX0_setColour 26 = .ok (.istore_n 3, 1) := by decide +kernel
theorem dX0_setColour_27 : decode cX0_setColour 27 = .ok (.aload_n 0, 1) := by decide +kernel
theorem dX0_setColour_28 : decode cX0_setColour 28 = .ok (.getfield 21, 3) := by decide +kernel
theorem dX0_setColour_31 : decode cX0_setColour 31 = .ok (.iload_n 1, 1) := by decide +kernel
theorem dX0_setColour_32 : decode cX0_setColour 32 = .ok (.iload_n 2, 1) := by decide +kernel
theorem dX0_setColour_33 : decode cX0_setColour 33 = .ok (.iastore, 1) := by decide +kernel
theorem dX0_setColour_34 : decode cX0_setColour 34 = .ok (.aload_n 0, 1) := by decide +kernel
theorem dX0_setColour_35 : decode cX0_setColour 35 = .ok (.invokevirtual 41, 3) := by decide +kernel
theorem dX0_setColour_38 : decode cX0_setColour 38 = .ok (.iload_n 3, 1) := by decide +kernel
theorem dX0_setColour_39 : decode cX0_setColour 39 = .ok (.ireturn, 1) := by decide +kernel
theorem dX0_resetColours_0 : decode cX0_resetColours 0 = .ok (.iconst 0, 1) := by decide +kernel
theorem dX0_resetColours_1 : decode cX0_resetColours 1 = .ok (.istore_n 1, 1) := by decide +kernel
theorem dX0_resetColours_2 : decode cX0_resetColours 2 = .ok (.iconst 0, 1) := by decide +kernel
theorem dX0_resetColours_3 : decode cX0_resetColours 3 = .ok (.istore_n 2, 1) := by decide +kernel
theorem dX0_resetColours_4 : decode cX0_resetColours 4 = .ok (.iload_n 2, 1) := by decide +kernel
theorem dX0_resetColours_5 : decode cX0_resetColours 5 = .ok (.aload_n 0, 1) := by decide +kernel
theorem dX0_resetColours_6 : decode cX0_resetColours 6 = .ok (.getfield 28, 3) := by decide +kernel
theorem dX0_resetColours_9 : decode cX0_resetColours 9 = .ok (.if_icmp .ge 39, 3) := by decide +kernel
theorem dX0_resetColours_12 : decode cX0_resetColours 12 = .ok (.aload_n 0, 1) := by decide +kernel
theorem dX0_resetColours_13 : decode cX0_resetColours 13 = .ok (.getfield 21, 3) := by decide +kernel
theorem dX0_resetColours_16 : decode cX0_resetColours 16 = .ok (.iload_n 2, 1) := by decide +kernel
theorem dX0_resetColours_17 : decode cX0_resetColours 17 = .ok (.iaload, 1) := by decide +kernel
theorem dX0_resetColours_18 : decode cX0_resetColours 18 = .ok (.aload_n 0, 1) := by decide +kernel
theorem dX0_resetColours_19 : decode cX0_resetColours 19 = .ok (.getfield 9, 3) := by decide +kernel
theorem dX0_resetColours_22 : decode cX0_resetColours 22 = .ok (.iload_n 2, 1) := by decide +kernel
theorem dX0_resetColours_23 : decode cX0_resetColours 23 = .ok (.iaload, 1) := by decide +kernel
theorem dX0_resetColours_24 : decode cX0_resetColours 24 = .ok (.if_icmp .eq 18, 3) := by decide +kernel
theorem dX0_resetColours_27 : decode cX0_resetColours 27 = .ok (.aload_n 0, 1) := by decide +kernel
theorem dX0_resetColours_28 : decode cX0_resetColours 28 = .ok (.getfield 21, 3) := by decide +kernel
theorem dX0_resetColours_31 : decode cX0_resetColours 31 = .ok (.iload_n 2, 1) := by decide +kernel
theorem dX0_resetColours_32 : decode cX0_resetColours 32 = .ok (.aload_n 0, 1) := by decide +kernel
theorem dX0_resetColours_33 : decode cX0_resetColours 33 = .ok (.getfield 9, 3) := by decide +kernel
theorem dX0_resetColours_36 : decode cX0_resetColours 36 = .ok (.iload_n 2, 1) := by decide +kernel
theorem dX0_resetColours_37 : decode cX0_resetColours 37 = .ok (.iaload, 1) := by decide +kernel
theorem dX0_resetColours_38 : decode cX0_resetColours 38 = .ok (.iastore, 1) := by decide +kernel
theorem dX0_resetColours_39 : decode cX0_resetColours 39 = .ok (.iinc 1 1, 3) := by decide +kernel
theorem dX0_resetColours_42 : decode cX0_resetColours 42 = .ok (.iinc 2 1, 3) := by decide +kernel
theorem dX0_resetColours_45 : decode cX0_resetColours 45 = .ok (.goto (-41), 3) := by decide +kernel
theorem dX0_resetColours_48 : decode cX0_resetColours 48 = .ok (.aload_n 0, 1) := by decide +kernel
theorem dX0_resetColours_49 : decode cX0_resetColours 49 = .ok (.invokevirtual 41, 3) := by decide +kernel
theorem dX0_resetColours_52 : decode cX0_resetColours 52 = .ok (.iload_n 1, 1) := by decide +kernel
theorem dX0_resetColours_53 : decode cX0_resetColours 53 = .ok (.ireturn, 1) := by decide +kernel
theorem dX0_recolour_0 : decode cX0_recolour 0 = .ok (.aload_n 0, 1) := by decide +kernel
theorem dX0_recolour_1 : decode cX0_recolour 1 = .ok (.iload_n 1, 1) := by decide +kernel
theorem dX0_recolour_2 : decode cX0_recolour 2 = .ok (.invokevirtual 44, 3) := by decide +kernel
theorem dX0_recolour_5 : decode cX0_recolour 5 = .ok (.ifCond .ne 5, 3) := by decide +kernel
theorem dX0_recolour_8 : decode cX0_recolour 8 = .ok (.iconst (-1), 1) := by decide +kernel
theorem dX0_recolour_9 : decode cX0_recolour 9 = .ok (.ireturn, 1) := by decide +kernel
theorem dX0_recolour_10 : decode cX0_recolour 10 = .ok (.aload_n 0, 1) := by decide +kernel
theorem dX0_recolour_11 : decode cX0_recolour 11 = .ok (.getfield 21, 3) := by decide +kernel
theorem dX0_recolour_14 : decode cX0_recolour 14 = .ok (.iload_n 1, 1) := by decide +kernel
theorem dX0_recolour_15 : decode cX0_recolour 15 = .ok (.aload_n 0, 1) := by decide +kernel
theorem dX0_recolour_16 : decode cX0_recolour 16 = .ok (.iload_n 1, 1) := by decide +kernel
theorem dX0_recolour_17 : decode cX0_recolour 17 = .ok (.aload_n 0, 1) := by decide +kernel
theorem dX0_recolour_18 : decode cX0_recolour 18 = .ok (.getfield 28, 3) := by decide +kernel
theorem dX0_recolour_21 : decode cX0_recolour 21 = .ok (.invokevirtual 70, 3) := by decide +kernel
theorem dX0_recolour_24 : decode cX0_recolour 24 = .ok (.iastore, 1) := by decide +kernel
theorem dX0_recolour_25 : decode cX0_recolour 25 = .ok (.aload_n 0, 1) := by decide +kernel
theorem dX0_recolour_26 : decode cX0_recolour 26 = .ok (.invokevirtual 41, 3) := by decide +kernel
theorem dX0_recolour_29 : decode cX0_recolour 29 = .ok (.aload_n 0, 1) := by decide +kernel
theorem dX0_recolour_30 : decode cX0_recolour 30 = .ok (.getfield 21, 3) := by decide +kernel
theorem dX0_recolour_33 : decode cX0_recolour 33 = .ok (.iload_n 1, 1) := by decide +kernel
theorem dX0_recolour_34 : decode cX0_recolour 34 = .ok (.iaload, 1) := by decide +kernel
theorem dX0_recolour_35 : decode cX0_recolour 35 = .ok (.ireturn, 1) := by decide +kernel
theorem dX0_colourCount_0 : decode cX0_colourCount 0 = .ok (.iconst 0, 1) := by decide +kernel
theorem dX0_colourCount_1 : decode cX0_colourCount 1 = .ok (.istore_n 1, 1) := by decide +kernel
theorem dX0_colourCount_2 : decode cX0_colourCount 2 = .ok (.iconst 0, 1) := by decide +kernel
theorem dX0_colourCount_3 : decode cX0_colourCount 3 = .ok (.istore_n 2, 1) := by decide +kernel
theorem dX0_colourCount_4 : decode cX0_colourCount 4 = .ok (.iload_n 2, 1) := by decide +kernel
theorem dX0_colourCount_5 : decode cX0_colourCount 5 = .ok (.aload_n 0, 1) := by decide +kernel
theorem dX0_colourCount_6 : decode cX0_colourCount 6 = .ok (.getfield 28, 3) := by decide +kernel
theorem dX0_colourCount_9 : decode cX0_colourCount 9 = .ok (.if_icmp .ge 20, 3) := by decide +kernel
theorem dX0_colourCount_12 : decode cX0_colourCount 12 = .ok (.aload_n 0, 1) := by decide +kernel
theorem dX0_colourCount_13 : decode cX0_colourCount 13 = .ok (.iload_n 2, 1) := by decide +kernel
theorem dX0_colourCount_14 : decode cX0_colourCount 14 = .ok (.invokevirtual 73, 3) := by decide +kernel
theorem dX0_colourCount_17 : decode cX0_colourCount 17 = .ok (.ifCond .eq 6, 3) := by decide +kernel
theorem dX0_colourCount_20 : decode cX0_colourCount 20 = .ok (.iinc 1 1, 3) := by decide +kernel
theorem dX0_colourCount_23 : decode cX0_colourCount 23 = .ok (.iinc 2 1, 3) := by decide +kernel
theorem dX0_colourCount_26 : decode cX0_colourCount 26 = .ok (.goto (-22), 3) := by decide +kernel
theorem dX0_colourCount_29 : decode cX0_colourCount 29 = .ok (.iload_n 1, 1) := by decide +kernel
theorem dX0_colourCount_30 : decode cX0_colourCount 30 = .ok (.ireturn, 1) := by decide +kernel
theorem dX0_greatestColour_0 : decode cX0_greatestColour 0 = .ok (.bipush (-7), 2) := by decide +kernel
theorem dX0_greatestColour_2 : decode cX0_greatestColour 2 = .ok (.istore_n 1, 1) := by decide +kernel
theorem dX0_greatestColour_3 : decode cX0_greatestColour 3 = .ok (.iconst 0, 1) := by decide +kernel
theorem dX0_greatestColour_4 : decode cX0_greatestColour 4 = .ok (.istore_n 2, 1) := by decide +kernel
theorem dX0_greatestColour_5 : decode cX0_greatestColour 5 = .ok (.iload_n 2, 1) := by decide +kernel
theorem dX0_greatestColour_6 : decode cX0_greatestColour 6 = .ok (.aload_n 0, 1) := by decide +kernel
theorem dX0_greatestColour_7 : decode cX0_greatestColour 7 = .ok (.getfield 28, 3) := by decide +kernel
theorem dX0_greatestColour_10 : decode cX0_greatestColour 10 = .ok (.if_icmp .ge 20, 3) := by decide +kernel
theorem dX0_greatestColour_13 : decode cX0_greatestColour 13 = .ok (.iload_n 1, 1) := by decide +kernel
theorem dX0_greatestColour_14 : decode cX0_greatestColour 14 = .ok (.aload_n 0, 1) := by decide +kernel
theorem dX0_greatestColour_15 : decode cX0_greatestColour 15 = .ok (.getfield 21, 3) := by decide +kernel
theorem dX0_greatestColour_18 : decode cX0_greatestColour 18 = .ok (.iload_n 2, 1) := by decide +kernel
theorem dX0_greatestColour_19 : decode cX0_greatestColour 19 = .ok (.iaload, 1) := by decide +kernel
theorem dX0_greatestColour_20 : decode cX0_greatestColour 20 = .ok (.invokestatic 76, 3) := by decide +kernel
theorem dX0_greatestColour_23 : decode cX0_greatestColour 23 = .ok (.istore_n 1, 1) := by decide +kernel
theorem dX0_greatestColour_24 : decode cX0_greatestColour 24 = .ok (.iinc 2 1, 3) := by decide +kernel
theorem dX0_greatestColour_27 : decode cX0_greatestColour 27 = .ok (.goto (-22), 3) := by decide +kernel
theorem dX0_greatestColour_30 : decode cX0_greatestColour 30 = .ok (.iload_n 1, 1) := by decide +kernel
theorem dX0_greatestColour_31 : decode cX0_greatestColour 31 = .ok (.ireturn, 1) := by decide +kernel
theorem dX0_conflictCount_0 : decode cX0_conflictCount 0 = .ok (.iconst 0, 1) := by decide +kernel
theorem dX0_conflictCount_1 : decode cX0_conflictCount 1 = .ok (.istore_n 1, 1) := by decide +kernel
theorem dX0_conflictCount_2 : decode cX0_conflictCount 2 = .ok (.iconst 0, 1) := by decide +kernel
theorem dX0_conflictCount_3 : decode cX0_conflictCount 3 = .ok (.istore_n 2, 1) := by decide +kernel
theorem dX0_conflictCount_4 : decode cX0_conflictCount 4 = .ok (.iload_n 2, 1) := by decide +kernel
theorem dX0_conflictCount_5 : decode cX0_conflictCount 5 = .ok (.aload_n 0, 1) := by decide +kernel
theorem dX0_conflictCount_6 : decode cX0_conflictCount 6 = .ok (.getfield 28, 3) := by decide +kernel
theorem dX0_conflictCount_9 : decode cX0_conflictCount 9 = .ok (.if_icmp .ge 20, 3) := by decide +kernel
theorem dX0_conflictCount_12 : decode cX0_conflictCount 12 = .ok (.aload_n 0, 1) := by decide +kernel
theorem dX0_conflictCount_13 : decode cX0_conflictCount 13 = .ok (.iload_n 2, 1) := by decide +kernel
theorem dX0_conflictCount_14 : decode cX0_conflictCount 14 = .ok (.invokevirtual 81, 3) := by decide +kernel
theorem dX0_conflictCount_17 : decode cX0_conflictCount 17 = .ok (.ifCond .eq 6, 3) := by decide +kernel
theorem dX0_conflictCount_20 : decode cX0_conflictCount 20 = .ok (.iinc 1 1, 3) := by decide +kernel
theorem dX0_conflictCount_23 : decode cX0_conflictCount 23 = .ok (.iinc 2 1, 3) := by decide +kernel
theorem dX0_conflictCount_26 : decode cX0_conflictCount 26 = .ok (.goto (-22), 3) := by decide +kernel
theorem dX0_conflictCount_29 : decode cX0_conflictCount 29 = .ok (.iload_n 1, 1) := by decide +kernel
theorem dX0_conflictCount_30 : decode cX0_conflictCount 30 = .ok (.ireturn, 1) := by decide +kernel
theorem dX0_differingBit_0 : decode cX0_differingBit 0 = .ok (.aload_n 0, 1) := by decide +kernel
theorem dX0_differingBit_1 : decode cX0_differingBit 1 = .ok (.iload_n 1, 1) := by decide +kernel
theorem dX0_differingBit_2 : decode cX0_differingBit 2 = .ok (.invokevirtual 44, 3) := by decide +kernel
theorem dX0_differingBit_5 : decode cX0_differingBit 5 = .ok (.ifCond .ne 5, 3) := by decide +kernel
theorem dX0_differingBit_8 : decode cX0_differingBit 8 = .ok (.iconst (-1), 1) := by decide +kernel
theorem dX0_differingBit_9 : decode cX0_differingBit 9 = .ok (.ireturn, 1) := by decide +kernel
theorem dX0_differingBit_10 : decode cX0_differingBit 10 = .ok (.aload_n 0, 1) := by decide +kernel
theorem dX0_differingBit_11 : decode cX0_differingBit 11 = .ok (.iload_n 1, 1) := by decide +kernel
theorem dX0_differingBit_12 : decode cX0_differingBit 12 = .ok (.invokevirtual 81, 3) := by decide +kernel
theorem dX0_differingBit_15 : decode cX0_differingBit 15 = .ok (.ifCond .eq 6, 3) := by decide +kernel
theorem dX0_differingBit_18 : decode cX0_differingBit 18 = .ok (.bipush (-5), 2) := by decide +kernel
theorem dX0_differingBit_20 : decode cX0_differingBit 20 = .ok (.ireturn, 1) := by decide +kernel
theorem dX0_differingBit_21 : decode cX0_differingBit 21 = .ok (.aload_n 0, 1) := by decide +kernel
theorem dX0_differingBit_22 : decode cX0_differingBit 22 = .ok (.iload_n 1, 1) := by decide +kernel
theorem dX0_differingBit_23 : decode cX0_differingBit 23 = .ok (.invokevirtual 84, 3) := by decide +kernel
theorem dX0_differingBit_26 : decode cX0_differingBit 26 = .ok (.ireturn, 1) := by decide +kernel
theorem dX0_reduce_0 : decode cX0_reduce 0 = .ok (.aload_n 0, 1) := by decide +kernel
theorem dX0_reduce_1 : decode cX0_reduce 1 = .ok (.invokevirtual 87, 3) := by decide +kernel
theorem dX0_reduce_4 : decode cX0_reduce 4 = .ok (.ifCond .ne 6, 3) := by decide +kernel
theorem dX0_reduce_7 : decode cX0_reduce 7 = .ok (.bipush (-5), 2) := by decide +kernel
theorem dX0_reduce_9 : decode cX0_reduce 9 = .ok (.ireturn, 1) := by decide +kernel
theorem dX0_reduce_10 : decode cX0_reduce 10 = .ok (.aload_n 0, 1) := by decide +kernel
theorem dX0_reduce_11 : decode cX0_reduce 11 = .ok (.invokevirtual 91, 3) := by decide +kernel
theorem dX0_reduce_14 : decode cX0_reduce 14 = .ok (.aload_n 0, 1) := by decide +kernel
theorem dX0_reduce_15 : decode cX0_reduce 15 = .ok (.invokevirtual 94, 3) := by decide +kernel
theorem dX0_reduce_18 : decode cX0_reduce 18 = .ok (.ireturn, 1) := by decide +kernel
theorem dX0_shift_0 : decode cX0_shift 0 = .ok (.aload_n 0, 1) := by decide +kernel
theorem dX0_shift_1 : decode cX0_shift 1 = .ok (.invokevirtual 98, 3) := by decide +kernel
theorem dX0_shift_4 : decode cX0_shift 4 = .ok (.ireturn, 1) := by decide +kernel
theorem dX0_eliminate_0 : decode cX0_eliminate 0 = .ok (.iload_n 1, 1) := by decide +kernel
theorem dX0_eliminate_1 : decode cX0_eliminate 1 = .ok (.iconst 3, 1) := by decide +kernel
theorem dX0_eliminate_2 : decode cX0_eliminate 2 = .ok (.if_icmp .lt 10, 3) := by decide +kernel
theorem dX0_eliminate_5 : decode cX0_eliminate 5 = .ok (.iload_n 1, 1) := by decide +kernel
theorem dX0_eliminate_6 : decode cX0_eliminate 6 = .ok (.invokestatic 34, 3) := by decide +kernel
theorem dX0_eliminate_9 : decode cX0_eliminate 9 = .ok (.ifCond .ne 6, 3) := by decide +kernel
theorem dX0_eliminate_12 : decode cX0_eliminate 12 = .ok (.bipush (-2), 2) := by decide +kernel
theorem dX0_eliminate_14 : decode cX0_eliminate 14 = .ok (.ireturn, 1) := by decide +kernel
theorem dX0_eliminate_15 : decode cX0_eliminate 15 = .ok (.aload_n 0, 1) := by decide +kernel
theorem dX0_eliminate_16 : decode cX0_eliminate 16 = .ok (.invokevirtual 87, 3) := by decide +kernel
theorem dX0_eliminate_19 : decode cX0_eliminate 19 = .ok (.ifCond .ne 6, 3) := by decide +kernel
theorem dX0_eliminate_22 : decode cX0_eliminate 22 = .ok (.bipush (-5), 2) := by decide +kernel
theorem dX0_eliminate_24 : decode cX0_eliminate 24 = .ok (.ireturn, 1) := by decide +kernel
theorem dX0_eliminate_25 : decode cX0_eliminate 25 = .ok (.aload_n 0, 1) := by decide +kernel
theorem dX0_eliminate_26 : decode cX0_eliminate 26 = .ok (.iload_n 1, 1) := by decide +kernel
theorem dX0_eliminate_27 : decode cX0_eliminate 27 = .ok (.invokevirtual 101, 3) := by decide +kernel
theorem dX0_eliminate_30 : decode cX0_eliminate 30 = .ok (.ireturn, 1) := by decide +kernel
theorem dX0_reduceToThree_0 : decode cX0_reduceToThree 0 = .ok (.aload_n 0, 1) := by decide +kernel
theorem dX0_reduceToThree_1 : decode cX0_reduceToThree 1 = .ok (.invokevirtual 87, 3) := by decide +kernel
theorem dX0_reduceToThree_4 : decode cX0_reduceToThree 4 = .ok (.ifCond .ne 6, 3) := by decide +kernel
theorem dX0_reduceToThree_7 : decode cX0_reduceToThree 7 = .ok (.bipush (-5), 2) := by decide +kernel
theorem dX0_reduceToThree_9 : decode cX0_reduceToThree 9 = .ok (.ireturn, 1) := by decide +kernel
theorem dX0_reduceToThree_10 : decode cX0_reduceToThree 10 = .ok (.aload_n 0, 1) := by decide +kernel
theorem dX0_reduceToThree_11 : decode cX0_reduceToThree 11 = .ok (.getfield 31, 3) := by decide +kernel
theorem dX0_reduceToThree_14 : decode cX0_reduceToThree 14 = .ok (.istore_n 1, 1) := by decide +kernel
theorem dX0_reduceToThree_15 : decode cX0_reduceToThree 15 = .ok (.iconst 0, 1) := by decide +kernel
theorem dX0_reduceToThree_16 : decode cX0_reduceToThree 16 = .ok (.istore_n 2, 1) := by decide +kernel
theorem dX0_reduceToThree_17 : decode cX0_reduceToThree 17 = .ok (.iload_n 2, 1) := by decide +kernel
theorem dX0_reduceToThree_18 : decode cX0_reduceToThree 18 = .ok (.bipush 16, 2) := by decide +kernel
theorem dX0_reduceToThree_20 : decode cX0_reduceToThree 20 = .ok (.if_icmp .ge 21, 3) := by decide +kernel
theorem dX0_reduceToThree_23 : decode cX0_reduceToThree 23 = .ok (.aload_n 0, 1) := by decide +kernel
theorem dX0_reduceToThree_24 : decode cX0_reduceToThree 24 = .ok (.invokevirtual 94, 3) := by decide +kernel
theorem dX0_reduceToThree_27 : decode cX0_reduceToThree 27 = .ok (.iconst 5, 1) := by decide +kernel
theorem dX0_reduceToThree_28 : decode cX0_reduceToThree 28 = .ok (.if_icmp .le 13, 3) := by decide +kernel
theorem dX0_reduceToThree_31 : decode cX0_reduceToThree 31 = .ok (.aload_n 0, 1) := by decide +kernel
theorem dX0_reduceToThree_32 : decode cX0_reduceToThree 32 = .ok (.invokevirtual 91, 3) := by decide +kernel
theorem dX0_reduceToThree_35 : decode cX0_reduceToThree 35 = .ok (.iinc 2 1, 3) := by decide +kernel
theorem dX0_reduceToThree_38 : decode cX0_reduceToThree 38 = .ok (.goto (-21), 3) := by decide +kernel
theorem dX0_reduceToThree_41 : decode cX0_reduceToThree 41 = .ok (.iconst 5, 1) := by decide +kernel
theorem dX0_reduceToThree_42 : decode cX0_reduceToThree 42 = .ok (.istore_n 2, 1) := by decide +kernel
theorem dX0_reduceToThree_43 : decode cX0_reduceToThree 43 = .ok (.iload_n 2, 1) := by decide +kernel
theorem dX0_reduceToThree_44 : decode cX0_reduceToThree 44 = .ok (.iconst 3, 1) := by decide +kernel
theorem dX0_reduceToThree_45 : decode cX0_reduceToThree 45 = .ok (.if_icmp .lt 20, 3) := by decide +kernel
theorem dX0_reduceToThree_48 : decode cX0_reduceToThree 48 = .ok (.aload_n 0, 1) := by decide +kernel
theorem dX0_reduceToThree_49 : decode cX0_reduceToThree 49 = .ok (.invokevirtual 98, 3) := by decide +kernel
theorem dX0_reduceToThree_52 : decode cX0_reduceToThree 52 = .ok (.pop, 1) := by decide +kernel
theorem dX0_reduceToThree_53 : decode cX0_reduceToThree 53 = .ok (.aload_n 0, 1) := by decide +kernel
theorem dX0_reduceToThree_54 : decode cX0_reduceToThree 54 = .ok (.iload_n 2, 1) := by decide +kernel
theorem dX0_reduceToThree_55 : decode cX0_reduceToThree 55 = .ok (.invokevirtual 101, 3) := by decide +kernel
theorem dX0_reduceToThree_58 : decode cX0_reduceToThree 58 = .ok (.pop, 1) := by decide +kernel
theorem dX0_reduceToThree_59 : decode cX0_reduceToThree 59 = .ok (.iinc 2 (-1), 3) := by decide +kernel
theorem dX0_reduceToThree_62 : decode cX0_reduceToThree 62 = .ok (.goto (-19), 3) := by decide +kernel
theorem dX0_reduceToThree_65 : decode cX0_reduceToThree 65 = .ok (.aload_n 0, 1) := by decide +kernel
theorem dX0_reduceToThree_66 : decode cX0_reduceToThree 66 = .ok (.getfield 31, 3) := by decide +kernel
theorem dX0_reduceToThree_69 : decode cX0_reduceToThree 69 = .ok (.iload_n 1, 1) := by decide +kernel
theorem dX0_reduceToThree_70 : decode cX0_reduceToThree 70 = .ok (.isub, 1) := by decide +kernel
theorem dX0_reduceToThree_71 : decode cX0_reduceToThree 71 = .ok (.ireturn, 1) := by decide +kernel
theorem dX0_roundCount_0 : decode cX0_roundCount 0 = .ok (.aload_n 0, 1) := by decide +kernel
theorem dX0_roundCount_1 : decode cX0_roundCount 1 = .ok (.getfield 31, 3) := by decide +kernel
theorem dX0_roundCount_4 : decode cX0_roundCount 4 = .ok (.ireturn, 1) := by decide +kernel
theorem dX0_pastColour_0 : decode cX0_pastColour 0 = .ok (.aload_n 0, 1) := by decide +kernel
theorem dX0_pastColour_1 : decode cX0_pastColour 1 = .ok (.iload_n 1, 1) := by decide +kernel
theorem dX0_pastColour_2 : decode cX0_pastColour 2 = .ok (.invokevirtual 44, 3) := by decide +kernel
theorem dX0_pastColour_5 : decode cX0_pastColour 5 = .ok (.ifCond .ne 5, 3) := by decide +kernel
theorem dX0_pastColour_8 : decode cX0_pastColour 8 = .ok (.iconst (-1), 1) := by decide +kernel
theorem dX0_pastColour_9 : decode cX0_pastColour 9 = .ok (.ireturn, 1) := by decide +kernel
theorem dX0_pastColour_10 : decode cX0_pastColour 10 = .ok (.iload_n 2, 1) := by decide +kernel
theorem dX0_pastColour_11 : decode cX0_pastColour 11 = .ok (.ifCond .lt 9, 3) := by decide +kernel
theorem dX0_pastColour_14 : decode cX0_pastColour 14 = .ok (.iload_n 2, 1) := by decide +kernel
theorem dX0_pastColour_15 : decode cX0_pastColour 15 = .ok (.bipush 16, 2) := by decide +kernel
theorem dX0_pastColour_17 : decode cX0_pastColour 17 = .ok (.if_icmp .le 6, 3) := by decide +kernel
theorem dX0_pastColour_20 : decode cX0_pastColour 20 = .ok (.bipush (-2), 2) := by decide +kernel
theorem dX0_pastColour_22 : decode cX0_pastColour 22 = .ok (.ireturn, 1) := by decide +kernel
theorem dX0_pastColour_23 : decode cX0_pastColour 23 = .ok (.iload_n 2, 1) := by decide +kernel
theorem dX0_pastColour_24 : decode cX0_pastColour 24 = .ok (.aload_n 0, 1) := by decide +kernel
theorem dX0_pastColour_25 : decode cX0_pastColour 25 = .ok (.getfield 31, 3) := by decide +kernel
theorem dX0_pastColour_28 : decode cX0_pastColour 28 = .ok (.if_icmp .le 6, 3) := by decide +kernel
theorem dX0_pastColour_31 : decode cX0_pastColour 31 = .ok (.bipush (-7), 2) := by decide +kernel
theorem dX0_pastColour_33 : decode cX0_pastColour 33 = .ok (.ireturn, 1) := by decide +kernel
theorem dX0_pastColour_34 : decode cX0_pastColour 34 = .ok (.aload_n 0, 1) := by decide +kernel
theorem dX0_pastColour_35 : decode cX0_pastColour 35 = .ok (.getfield 24, 3) := by decide +kernel
theorem dX0_pastColour_38 : decode cX0_pastColour 38 = .ok (.iload_n 2, 1) := by decide +kernel
theorem dX0_pastColour_39 : decode cX0_pastColour 39 = .ok (.isub, 1) := by decide +kernel
theorem dX0_pastColour_40 : decode cX0_pastColour 40 = .ok (.istore_n 3, 1) := by decide +kernel
theorem dX0_pastColour_41 : decode cX0_pastColour 41 = .ok (.aload_n 0, 1) := by decide +kernel
theorem dX0_pastColour_42 : decode cX0_pastColour 42 = .ok (.getfield 18, 3) := by decide +kernel
theorem dX0_pastColour_45 : decode cX0_pastColour 45 = .ok (.iload_n 3, 1) := by decide +kernel
theorem dX0_pastColour_46 : decode cX0_pastColour 46 = .ok (.ifCond .ge 10, 3) := by decide +kernel
theorem dX0_pastColour_49 : decode cX0_pastColour 49 = .ok (.iload_n 3, 1) := by decide +kernel
theorem dX0_pastColour_50 : decode cX0_pastColour 50 = .ok (.bipush 18, 2) := by decide +kernel
theorem dX0_pastColour_52 : decode cX0_pastColour 52 = .ok (.iadd, 1) := by decide +kernel
theorem dX0_pastColour_53 : decode cX0_pastColour 53 = .ok (.goto 4, 3) := by decide +kernel
theorem dX0_pastColour_56 : decode cX0_pastColour 56 = .ok (.iload_n 3, 1) := by decide +kernel
theorem dX0_pastColour_57 : decode cX0_pastColour 57 = .ok (.aaload, 1) := by decide +kernel
theorem dX0_pastColour_58 : decode cX0_pastColour 58 = .ok (.iload_n 1, 1) := by decide +kernel
theorem dX0_pastColour_59 : decode cX0_pastColour 59 = .ok (.iaload, 1) := by decide +kernel
theorem dX0_pastColour_60 : decode cX0_pastColour 60 = .ok (.ireturn, 1) := by decide +kernel
theorem dX0_inIndependentSet_0 : decode cX0_inIndependentSet 0 = .ok (.aload_n 0, 1) := by decide +kernel
theorem dX0_inIndependentSet_1 : decode cX0_inIndependentSet 1 = .ok (.iload_n 1, 1) := by decide +kernel
theorem dX0_inIndependentSet_2 : decode cX0_inIndependentSet 2 = .ok (.invokevirtual 44, 3) := by decide +kernel
theorem dX0_inIndependentSet_5 : decode cX0_inIndependentSet 5 = .ok (.ifCond .ne 5, 3) := by decide +kernel
theorem dX0_inIndependentSet_8 : decode cX0_inIndependentSet 8 = .ok (.iconst (-1), 1) := by decide +kernel
theorem dX0_inIndependentSet_9 : decode cX0_inIndependentSet 9 = .ok (.ireturn, 1) := by decide +kernel
theorem dX0_inIndependentSet_10 : decode cX0_inIndependentSet 10 = .ok (.aload_n 0, 1) := by decide +kernel
theorem dX0_inIndependentSet_11 : decode cX0_inIndependentSet 11 = .ok (.invokevirtual 87, 3) := by decide +kernel
theorem dX0_inIndependentSet_14 : decode cX0_inIndependentSet 14 = .ok (.ifCond .ne 6, 3) := by decide +kernel
theorem dX0_inIndependentSet_17 : decode cX0_inIndependentSet 17 = .ok (.bipush (-5), 2) := by decide +kernel
theorem dX0_inIndependentSet_19 : decode cX0_inIndependentSet 19 = .ok (.ireturn, 1) := by decide +kernel
theorem dX0_inIndependentSet_20 : decode cX0_inIndependentSet 20 = .ok (.aload_n 0, 1) := by decide +kernel
theorem dX0_inIndependentSet_21 : decode cX0_inIndependentSet 21 = .ok (.invokevirtual 104, 3) := by decide +kernel
theorem dX0_inIndependentSet_24 : decode cX0_inIndependentSet 24 = .ok (.iload_n 1, 1) := by decide +kernel
theorem dX0_inIndependentSet_25 : decode cX0_inIndependentSet 25 = .ok (.invokestatic 63, 3) := by decide +kernel
theorem dX0_inIndependentSet_28 : decode cX0_inIndependentSet 28 = .ok (.ifCond .eq 7, 3) := by decide +kernel
theorem dX0_inIndependentSet_31 : decode cX0_inIndependentSet 31 = .ok (.iconst 1, 1) := by decide +kernel
theorem dX0_inIndependentSet_32 : decode cX0_inIndependentSet 32 = .ok (.goto 4, 3) := by decide +kernel
theorem dX0_inIndependentSet_35 : decode cX0_inIndependentSet 35 = .ok (.iconst 0, 1) := by decide +kernel
theorem dX0_inIndependentSet_36 : decode cX0_inIndependentSet 36 = .ok (.ireturn, 1) := by decide +kernel
theorem dX0_independentSetSize_0 : decode cX0_independentSetSize 0 = .ok (.aload_n 0, 1) := by decide +kernel
theorem dX0_independentSetSize_1 : decode cX0_independentSetSize 1 = .ok (.invokevirtual 87, 3) := by decide +kernel
theorem dX0_independentSetSize_4 : decode cX0_independentSetSize 4 = .ok (.ifCond .ne 6, 3) := by decide +kernel
theorem dX0_independentSetSize_7 : decode cX0_independentSetSize 7 = .ok (.bipush (-5), 2) := by decide +kernel
theorem dX0_independentSetSize_9 : decode cX0_independentSetSize 9 = .ok (.ireturn, 1) := by decide +kernel
theorem dX0_independentSetSize_10 : decode cX0_independentSetSize 10 = .ok (.aload_n 0, 1) := by decide +kernel
theorem dX0_independentSetSize_11 : decode cX0_independentSetSize 11 = .ok (.invokevirtual 104, 3) := by decide +kernel
theorem dX0_independentSetSize_14 : decode cX0_independentSetSize 14 = .ok (.invokestatic 55, 3) := by decide +kernel
theorem dX0_independentSetSize_17 : decode cX0_independentSetSize 17 = .ok (.ireturn, 1) := by decide +kernel
theorem dX0_greatestIndependentSet_0 : decode cX0_greatestIndependentSet 0 = .ok (.aload_n 0, 1) := by decide +kernel
theorem dX0_greatestIndependentSet_1 : decode cX0_greatestIndependentSet 1 = .ok (.iload_n 1, 1) := by decide +kernel
theorem dX0_greatestIndependentSet_2 : decode cX0_greatestIndependentSet 2 = .ok (.invokevirtual 44, 3) := by decide +kernel
theorem dX0_greatestIndependentSet_5 : decode cX0_greatestIndependentSet 5 = .ok (.ifCond .ne 5, 3) := by decide +kernel
theorem dX0_greatestIndependentSet_8 : decode cX0_greatestIndependentSet 8 = .ok (.iconst (-1), 1) := by decide +kernel
theorem dX0_greatestIndependentSet_9 : decode cX0_greatestIndependentSet 9 = .ok (.ireturn, 1) := by decide +kernel
theorem dX0_greatestIndependentSet_10 : decode cX0_greatestIndependentSet 10 = .ok (.aload_n 0, 1) := by decide +kernel
theorem dX0_greatestIndependentSet_11 : decode cX0_greatestIndependentSet 11 = .ok (.iload_n 1, 1) := by decide +kernel
theorem dX0_greatestIndependentSet_12 : decode cX0_greatestIndependentSet 12 = .ok (.invokevirtual 67, 3) := by decide +kernel
theorem dX0_greatestIndependentSet_15 : decode cX0_greatestIndependentSet 15 = .ok (.istore_n 2, 1) := by decide +kernel
theorem dX0_greatestIndependentSet_16 : decode cX0_greatestIndependentSet 16 = .ok (.iconst 0, 1) := by decide +kernel
theorem dX0_greatestIndependentSet_17 : decode cX0_greatestIndependentSet 17 = .ok (.istore_n 3, 1) := by decide +kernel
theorem dX0_greatestIndependentSet_18 : decode cX0_greatestIndependentSet 18 = .ok (.iconst 0, 1) := by decide +kernel
theorem dX0_greatestIndependentSet_19 : decode cX0_greatestIndependentSet 19 = .ok (.istore 4, 2) := by decide +kernel
theorem dX0_greatestIndependentSet_21 : decode cX0_greatestIndependentSet 21 = .ok (.iload 4, 2) := by decide +kernel
theorem dX0_greatestIndependentSet_23 : decode cX0_greatestIndependentSet 23 = .ok (.aload_n 0, 1) := by decide +kernel
theorem dX0_greatestIndependentSet_24 : decode cX0_greatestIndependentSet 24 = .ok (.getfield 28, 3) := by decide +kernel
theorem dX0_greatestIndependentSet_27 : decode cX0_greatestIndependentSet 27 = .ok (.if_icmp .ge 55, 3) := by decide +kernel
theorem dX0_greatestIndependentSet_30 : decode cX0_greatestIndependentSet 30 = .ok (.iload_n 2, 1) := by decide +kernel
theorem dX0_greatestIndependentSet_31 : decode cX0_greatestIndependentSet 31 = .ok (.ifCond .eq 51, 3) := by decide +kernel
theorem dX0_greatestIndependentSet_34 : decode cX0_greatestIndependentSet 34 = .ok (.aload_n 0, 1) := by decide +kernel
theorem dX0_greatestIndependentSet_35 : decode cX0_greatestIndependentSet 35 = .ok (.iload_n 2, 1) := by decide +kernel
theorem dX0_greatestIndependentSet_36 : decode cX0_greatestIndependentSet 36 = .ok (.invokevirtual 107, 3) := by decide +kernel
theorem dX0_greatestIndependentSet_39 : decode cX0_greatestIndependentSet 39 = .ok (.istore 5, 2) := by decide +kernel
theorem dX0_greatestIndependentSet_41 : decode cX0_greatestIndependentSet 41 = .ok (.iload 5, 2) := by decide +kernel
theorem dX0_greatestIndependentSet_43 : decode cX0_greatestIndependentSet 43 = .ok (.bipush (-7), 2) := by decide +kernel
theorem dX0_greatestIndependentSet_45 : decode cX0_greatestIndependentSet 45 = .ok (.if_icmp .ne 12, 3) := by decide +kernel
theorem dX0_greatestIndependentSet_48 : decode cX0_greatestIndependentSet 48 = .ok (.iload_n 3, 1) := by decide +kernel
theorem dX0_greatestIndependentSet_49 : decode cX0_greatestIndependentSet 49 = .ok (.iload_n 2, 1) := by decide +kernel
theorem dX0_greatestIndependentSet_50 : decode cX0_greatestIndependentSet 50 = .ok (.invokestatic 55, 3) := by decide +kernel
theorem dX0_greatestIndependentSet_53 : decode cX0_greatestIndependentSet 53 = .ok (.iconst 2, 1) := by decide +kernel
theorem dX0_greatestIndependentSet_54 : decode cX0_greatestIndependentSet 54 = .ok (.idiv, 1) := by decide +kernel
theorem dX0_greatestIndependentSet_55 : decode cX0_greatestIndependentSet 55 = .ok (.iadd, 1) := by decide +kernel
theorem dX0_greatestIndependentSet_56 : decode cX0_greatestIndependentSet 56 = .ok (.ireturn, 1) := by decide +kernel
theorem dX0_greatestIndependentSet_57 : decode cX0_greatestIndependentSet 57 = .ok (.iload_n 2, 1) := by decide +kernel
theorem dX0_greatestIndependentSet_58 : decode cX0_greatestIndependentSet 58 = .ok (.aload_n 0, 1) := by decide +kernel
theorem dX0_greatestIndependentSet_59 : decode cX0_greatestIndependentSet 59 = .ok (.iload 5, 2) := by decide +kernel
theorem dX0_greatestIndependentSet_61 : decode cX0_greatestIndependentSet 61 = .ok (.invokevirtual 51, 3) := by decide +kernel
theorem dX0_greatestIndependentSet_64 : decode cX0_greatestIndependentSet 64 = .ok (.iconst 1, 1) := by decide +kernel
theorem dX0_greatestIndependentSet_65 : decode cX0_greatestIndependentSet 65 = .ok (.iload 5, 2) := by decide +kernel
theorem dX0_greatestIndependentSet_67 : decode cX0_greatestIndependentSet 67 = .ok (.ishl, 1) := by decide +kernel
theorem dX0_greatestIndependentSet_68 : decode cX0_greatestIndependentSet 68 = .ok (.ior, 1) := by decide +kernel
theorem dX0_greatestIndependentSet_69 : decode cX0_greatestIndependentSet 69 = .ok (.iconst (-1), 1) := by decide +kernel
theorem dX0_greatestIndependentSet_70 : decode cX0_greatestIndependentSet 70 = .ok (.ixor, 1) := by decide +kernel
theorem dX0_greatestIndependentSet_71 : decode cX0_greatestIndependentSet 71 = .ok (.iand, 1) := by decide +kernel
theorem dX0_greatestIndependentSet_72 : decode cX0_greatestIndependentSet 72 = .ok (.istore_n 2, 1) := by decide +kernel
theorem dX0_greatestIndependentSet_73 : decode cX0_greatestIndependentSet 73 = .ok (.iinc 3 1, 3) := by decide +kernel
theorem dX0_greatestIndependentSet_76 : decode cX0_greatestIndependentSet 76 = .ok (.iinc 4 1, 3) := by decide +kernel
theorem dX0_greatestIndependentSet_79 : decode cX0_greatestIndependentSet 79 = .ok (.goto (-58), 3) := by decide +kernel
theorem dX0_greatestIndependentSet_82 : decode cX0_greatestIndependentSet 82 = .ok (.iload_n 3, 1) := by decide +kernel
theorem dX0_greatestIndependentSet_83 : decode cX0_greatestIndependentSet 83 = .ok (.ireturn, 1) := by decide +kernel
theorem dX0_isNode_0 : decode cX0_isNode 0 = .ok (.iload_n 1, 1) := by decide +kernel
theorem dX0_isNode_1 : decode cX0_isNode 1 = .ok (.ifCond .lt 15, 3) := by decide +kernel
theorem dX0_isNode_4 : decode cX0_isNode 4 = .ok (.iload_n 1, 1) := by decide +kernel
theorem dX0_isNode_5 : decode cX0_isNode 5 = .ok (.aload_n 0, 1) := by decide +kernel
theorem dX0_isNode_6 : decode cX0_isNode 6 = .ok (.getfield 28, 3) := by decide +kernel
theorem dX0_isNode_9 : decode cX0_isNode 9 = .ok (.if_icmp .ge 7, 3) := by decide +kernel
theorem dX0_isNode_12 : decode cX0_isNode 12 = .ok (.iconst 1, 1) := by decide +kernel
theorem dX0_isNode_13 : decode cX0_isNode 13 = .ok (.goto 4, 3) := by decide +kernel
theorem dX0_isNode_16 : decode cX0_isNode 16 = .ok (.iconst 0, 1) := by decide +kernel
theorem dX0_isNode_17 : decode cX0_isNode 17 = .ok (.ireturn, 1) := by decide +kernel
theorem dX0_isValue_0 : decode cX0_isValue 0 = .ok (.iload_n 0, 1) := by decide +kernel
theorem dX0_isValue_1 : decode cX0_isValue 1 = .ok (.ifCond .lt 13, 3) := by decide +kernel
theorem dX0_isValue_4 : decode cX0_isValue 4 = .ok (.iload_n 0, 1) := by decide +kernel
theorem dX0_isValue_5 : decode cX0_isValue 5 = .ok (.ldc 110, 2) := by decide +kernel
theorem dX0_isValue_7 : decode cX0_isValue 7 = .ok (.if_icmp .gt 7, 3) := by decide +kernel
theorem dX0_isValue_10 : decode cX0_isValue 10 = .ok (.iconst 1, 1) := by decide +kernel
theorem dX0_isValue_11 : decode cX0_isValue 11 = .ok (.goto 4, 3) := by decide +kernel
theorem dX0_isValue_14 : decode cX0_isValue 14 = .ok (.iconst 0, 1) := by decide +kernel
theorem dX0_isValue_15 : decode cX0_isValue 15 = .ok (.ireturn, 1) := by decide +kernel
theorem dX0_isIdentifierTaken_0 : decode cX0_isIdentifierTaken 0 = .ok (.iconst 0, 1) := by decide +kernel
theorem dX0_isIdentifierTaken_1 : decode cX0_isIdentifierTaken 1 = .ok (.istore_n 2, 1) := by decide +kernel
theorem dX0_isIdentifierTaken_2 : decode cX0_isIdentifierTaken 2 = .ok (.iload_n 2, 1) := by decide +kernel
theorem dX0_isIdentifierTaken_3 : decode cX0_isIdentifierTaken 3 = .ok (.aload_n 0, 1) := by decide +kernel
theorem dX0_isIdentifierTaken_4 : decode cX0_isIdentifierTaken 4 = .ok (.getfield 28, 3) := by decide +kernel
theorem dX0_isIdentifierTaken_7 : decode cX0_isIdentifierTaken 7 = .ok (.if_icmp .ge 21, 3) := by decide +kernel
theorem dX0_isIdentifierTaken_10 : decode cX0_isIdentifierTaken 10 = .ok (.aload_n 0, 1) := by decide +kernel
theorem dX0_isIdentifierTaken_11 : decode cX0_isIdentifierTaken 11 = .ok (.getfield 9, 3) := by decide +kernel
theorem dX0_isIdentifierTaken_14 : decode cX0_isIdentifierTaken 14 = .ok (.iload_n 2, 1) := by decide +kernel
theorem dX0_isIdentifierTaken_15 : decode cX0_isIdentifierTaken 15 = .ok (.iaload, 1) := by decide +kernel
theorem dX0_isIdentifierTaken_16 : decode cX0_isIdentifierTaken 16 = .ok (.iload_n 1, 1) := by decide +kernel
theorem dX0_isIdentifierTaken_17 : decode cX0_isIdentifierTaken 17 = .ok (.if_icmp .ne 5, 3) := by decide +kernel
theorem dX0_isIdentifierTaken_20 : decode cX0_isIdentifierTaken 20 = .ok (.iconst 1, 1) := by decide +kernel
theorem dX0_isIdentifierTaken_21 : decode cX0_isIdentifierTaken 21 = .ok (.ireturn, 1) := by decide +kernel
theorem dX0_isIdentifierTaken_22 : decode cX0_isIdentifierTaken 22 = .ok (.iinc 2 1, 3) := by decide +kernel
theorem dX0_isIdentifierTaken_25 : decode cX0_isIdentifierTaken 25 = .ok (.goto (-23), 3) := by decide +kernel
theorem dX0_isIdentifierTaken_28 : decode cX0_isIdentifierTaken 28 = .ok (.iconst 0, 1) := by decide +kernel
theorem dX0_isIdentifierTaken_29 : decode cX0_isIdentifierTaken 29 = .ok (.ireturn, 1) := by decide +kernel
theorem dX0_isRoot_0 : decode cX0_isRoot 0 = .ok (.aload_n 0, 1) := by decide +kernel
theorem dX0_isRoot_1 : decode cX0_isRoot 1 = .ok (.aload_n 0, 1) := by decide +kernel
theorem dX0_isRoot_2 : decode cX0_isRoot 2 = .ok (.getfield 13, 3) := by decide +kernel
theorem dX0_isRoot_5 : decode cX0_isRoot 5 = .ok (.iload_n 1, 1) := by decide +kernel
theorem dX0_isRoot_6 : decode cX0_isRoot 6 = .ok (.iaload, 1) := by decide +kernel
theorem dX0_isRoot_7 : decode cX0_isRoot 7 = .ok (.invokevirtual 44, 3) := by decide +kernel
theorem dX0_isRoot_10 : decode cX0_isRoot 10 = .ok (.ifCond .ne 7, 3) := by decide +kernel
theorem dX0_isRoot_13 : decode cX0_isRoot 13 = .ok (.iconst 1, 1) := by decide +kernel
theorem dX0_isRoot_14 : decode cX0_isRoot 14 = .ok (.goto 4, 3) := by decide +kernel
theorem dX0_isRoot_17 : decode cX0_isRoot 17 = .ok (.iconst 0, 1) := by decide +kernel
theorem dX0_isRoot_18 : decode cX0_isRoot 18 = .ok (.ireturn, 1) := by decide +kernel
theorem dX0_replaceParent_0 : decode cX0_replaceParent 0 = .ok (.aload_n 0, 1) := by decide +kernel
theorem dX0_replaceParent_1 : decode cX0_replaceParent 1 = .ok (.getfield 13, 3) := by decide +kernel
theorem dX0_replaceParent_4 : decode cX0_replaceParent 4 = .ok (.iload_n 1, 1) := by decide +kernel
theorem dX0_replaceParent_5 : decode cX0_replaceParent 5 = .ok (.iaload, 1) := by decide +kernel
theorem dX0_replaceParent_6 : decode cX0_replaceParent 6 = .ok (.istore_n 3, 1) := by decide +kernel
theorem dX0_replaceParent_7 : decode cX0_replaceParent 7 = .ok (.aload_n 0, 1) := by decide +kernel
theorem dX0_replaceParent_8 : decode cX0_replaceParent 8 = .ok (.getfield 13, 3) := by decide +kernel
theorem dX0_replaceParent_11 : decode cX0_replaceParent 11 = .ok (.iload_n 1, 1) := by decide +kernel
theorem dX0_replaceParent_12 : decode cX0_replaceParent 12 = .ok (.iload_n 2, 1) := by decide +kernel
theorem dX0_replaceParent_13 : decode cX0_replaceParent 13 = .ok (.iastore, 1) := by decide +kernel
theorem dX0_replaceParent_14 : decode cX0_replaceParent 14 = .ok (.aload_n 0, 1) := by decide +kernel
theorem dX0_replaceParent_15 : decode cX0_replaceParent 15 = .ok (.invokevirtual 41, 3) := by decide +kernel
theorem dX0_replaceParent_18 : decode cX0_replaceParent 18 = .ok (.iload_n 3, 1) := by decide +kernel
theorem dX0_replaceParent_19 : decode cX0_replaceParent 19 = .ok (.ireturn, 1) := by decide +kernel
theorem dX0_isIn_0 : decode cX0_isIn 0 = .ok (.iload_n 0, 1) := by decide +kernel
theorem dX0_isIn_1 : decode cX0_isIn 1 = .ok (.iload_n 1, 1) := by decide +kernel
theorem dX0_isIn_2 : decode cX0_isIn 2 = .ok (.ishr, 1) := by decide +kernel
theorem dX0_isIn_3 : decode cX0_isIn 3 = .ok (.iconst 1, 1) := by decide +kernel
theorem dX0_isIn_4 : decode cX0_isIn 4 = .ok (.iand, 1) := by decide +kernel
theorem dX0_isIn_5 : decode cX0_isIn 5 = .ok (.iconst 1, 1) := by decide +kernel
theorem dX0_isIn_6 : decode cX0_isIn 6 = .ok (.if_icmp .ne 7, 3) := by decide +kernel
theorem dX0_isIn_9 : decode cX0_isIn 9 = .ok (.iconst 1, 1) := by decide +kernel
theorem dX0_isIn_10 : decode cX0_isIn 10 = .ok (.goto 4, 3) := by decide +kernel
theorem dX0_isIn_13 : decode cX0_isIn 13 = .ok (.iconst 0, 1) := by decide +kernel
theorem dX0_isIn_14 : decode cX0_isIn 14 = .ok (.ireturn, 1) := by decide +kernel
theorem dX0_areNeighbours_0 : decode cX0_areNeighbours 0 = .ok (.aload_n 0, 1) := by decide +kernel
theorem dX0_areNeighbours_1 : decode cX0_areNeighbours 1 = .ok (.getfield 13, 3) := by decide +kernel
theorem dX0_areNeighbours_4 : decode cX0_areNeighbours 4 = .ok (.iload_n 1, 1) := by decide +kernel
theorem dX0_areNeighbours_5 : decode cX0_areNeighbours 5 = .ok (.iaload, 1) := by decide +kernel
theorem dX0_areNeighbours_6 : decode cX0_areNeighbours 6 = .ok (.iload_n 2, 1) := by decide +kernel
theorem dX0_areNeighbours_7 : decode cX0_areNeighbours 7 = .ok (.if_icmp .eq 13, 3) := by decide +kernel
theorem dX0_areNeighbours_10 : decode cX0_areNeighbours 10 = .ok (.aload_n 0, 1) := by decide +kernel
theorem dX0_areNeighbours_11 : decode cX0_areNeighbours 11 = .ok (.getfield 13, 3) := by decide +kernel
theorem dX0_areNeighbours_14 : decode cX0_areNeighbours 14 = .ok (.iload_n 2, 1) := by decide +kernel
theorem dX0_areNeighbours_15 : decode cX0_areNeighbours 15 = .ok (.iaload, 1) := by decide +kernel
theorem dX0_areNeighbours_16 : decode cX0_areNeighbours 16 = .ok (.iload_n 1, 1) := by decide +kernel
theorem dX0_areNeighbours_17 : decode cX0_areNeighbours 17 = .ok (.if_icmp .ne 7, 3) := by decide +kernel
theorem dX0_areNeighbours_20 : decode cX0_areNeighbours 20 = .ok (.iconst 1, 1) := by decide +kernel
theorem dX0_areNeighbours_21 : decode cX0_areNeighbours 21 = .ok (.goto 4, 3) := by decide +kernel
theorem dX0_areNeighbours_24 : decode cX0_areNeighbours 24 = .ok (.iconst 0, 1) := by decide +kernel
theorem dX0_areNeighbours_25 : decode cX0_areNeighbours 25 = .ok (.ireturn, 1) := by decide +kernel
theorem dX0_neighbours_0 : decode cX0_neighbours 0 = .ok (.iconst 0, 1) := by decide +kernel
theorem dX0_neighbours_1 : decode cX0_neighbours 1 = .ok (.istore_n 2, 1) := by decide +kernel
theorem dX0_neighbours_2 : decode cX0_neighbours 2 = .ok (.iconst 0, 1) := by decide +kernel
theorem dX0_neighbours_3 : decode cX0_neighbours 3 = .ok (.istore_n 3, 1) := by decide +kernel
theorem dX0_neighbours_4 : decode cX0_neighbours 4 = .ok (.iload_n 3, 1) := by decide +kernel
theorem dX0_neighbours_5 : decode cX0_neighbours 5 = .ok (.aload_n 0, 1) := by decide +kernel
theorem dX0_neighbours_6 : decode cX0_neighbours 6 = .ok (.getfield 28, 3) := by decide +kernel
theorem dX0_neighbours_9 : decode cX0_neighbours 9 = .ok (.if_icmp .ge 24, 3) := by decide +kernel
theorem dX0_neighbours_12 : decode cX0_neighbours 12 = .ok (.aload_n 0, 1) := by decide +kernel
theorem dX0_neighbours_13 : decode cX0_neighbours 13 = .ok (.iload_n 1, 1) := by decide +kernel
theorem dX0_neighbours_14 : decode cX0_neighbours 14 = .ok (.iload_n 3, 1) := by decide +kernel
theorem dX0_neighbours_15 : decode cX0_neighbours 15 = .ok (.invokevirtual 111, 3) := by decide +kernel
theorem dX0_neighbours_18 : decode cX0_neighbours 18 = .ok (.ifCond .eq 9, 3) := by decide +kernel
theorem dX0_neighbours_21 : decode cX0_neighbours 21 = .ok (.iload_n 2, 1) := by decide +kernel
theorem dX0_neighbours_22 : decode cX0_neighbours 22 = .ok (.iconst 1, 1) := by decide +kernel
theorem dX0_neighbours_23 : decode cX0_neighbours 23 = .ok (.iload_n 3, 1) := by decide +kernel
theorem dX0_neighbours_24 : decode cX0_neighbours 24 = .ok (.ishl, 1) := by decide +kernel
theorem dX0_neighbours_25 : decode cX0_neighbours 25 = .ok (.ior, 1) := by decide +kernel
theorem dX0_neighbours_26 : decode cX0_neighbours 26 = .ok (.istore_n 2, 1) := by decide +kernel
theorem dX0_neighbours_27 : decode cX0_neighbours 27 = .ok (.iinc 3 1, 3) := by decide +kernel
theorem dX0_neighbours_30 : decode cX0_neighbours 30 = .ok (.goto (-26), 3) := by decide +kernel
theorem dX0_neighbours_33 : decode cX0_neighbours 33 = .ok (.iload_n 2, 1) := by decide +kernel
theorem dX0_neighbours_34 : decode cX0_neighbours 34 = .ok (.ireturn, 1) := by decide +kernel
theorem dX0_part_0 : decode cX0_part 0 = .ok (.iconst 1, 1) := by decide +kernel
theorem dX0_part_1 : decode cX0_part 1 = .ok (.iload_n 1, 1) := by decide +kernel
theorem dX0_part_2 : decode cX0_part 2 = .ok (.ishl, 1) := by decide +kernel
theorem dX0_part_3 : decode cX0_part 3 = .ok (.istore_n 2, 1) := by decide +kernel
theorem dX0_part_4 : decode cX0_part 4 = .ok (.iconst 0, 1) := by decide +kernel
theorem dX0_part_5 : decode cX0_part 5 = .ok (.istore_n 3, 1) := by decide +kernel
theorem dX0_part_6 : decode cX0_part 6 = .ok (.iload_n 3, 1) := by decide +kernel
theorem dX0_part_7 : decode cX0_part 7 = .ok (.aload_n 0, 1) := by decide +kernel
theorem dX0_part_8 : decode cX0_part 8 = .ok (.getfield 28, 3) := by decide +kernel
theorem dX0_part_11 : decode cX0_part 11 = .ok (.if_icmp .ge 27, 3) := by decide +kernel
theorem dX0_part_14 : decode cX0_part 14 = .ok (.aload_n 0, 1) := by decide +kernel
theorem dX0_part_15 : decode cX0_part 15 = .ok (.iload_n 2, 1) := by decide +kernel
theorem dX0_part_16 : decode cX0_part 16 = .ok (.invokevirtual 114, 3) := by decide +kernel
theorem dX0_part_19 : decode cX0_part 19 = .ok (.istore 4, 2) := by decide +kernel
theorem dX0_part_21 : decode cX0_part 21 = .ok (.iload 4, 2) := by decide +kernel
theorem dX0_part_23 : decode cX0_part 23 = .ok (.iload_n 2, 1) := by decide +kernel
theorem dX0_part_24 : decode cX0_part 24 = .ok (.if_icmp .ne 5, 3) := by decide +kernel
theorem dX0_part_27 : decode cX0_part 27 = .ok (.iload_n 2, 1) := by decide +kernel
theorem dX0_part_28 : decode cX0_part 28 = .ok (.ireturn, 1) := by decide +kernel
theorem dX0_part_29 : decode cX0_part 29 = .ok (.iload 4, 2) := by decide +kernel
theorem dX0_part_31 : decode cX0_part 31 = .ok (.istore_n 2, 1) := by decide +kernel
theorem dX0_part_32 : decode cX0_part 32 = .ok (.iinc 3 1, 3) := by decide +kernel
theorem dX0_part_35 : decode cX0_part 35 = .ok (.goto (-29), 3) := by decide +kernel
theorem dX0_part_38 : decode cX0_part 38 = .ok (.iload_n 2, 1) := by decide +kernel
theorem dX0_part_39 : decode cX0_part 39 = .ok (.ireturn, 1) := by decide +kernel
theorem dX0_widened_0 : decode cX0_widened 0 = .ok (.iload_n 1, 1) := by decide +kernel
theorem dX0_widened_1 : decode cX0_widened 1 = .ok (.istore_n 2, 1) := by decide +kernel
theorem dX0_widened_2 : decode cX0_widened 2 = .ok (.iconst 0, 1) := by decide +kernel
theorem dX0_widened_3 : decode cX0_widened 3 = .ok (.istore_n 3, 1) := by decide +kernel
theorem dX0_widened_4 : decode cX0_widened 4 = .ok (.iload_n 3, 1) := by decide +kernel
theorem dX0_widened_5 : decode cX0_widened 5 = .ok (.aload_n 0, 1) := by decide +kernel
theorem dX0_widened_6 : decode cX0_widened 6 = .ok (.getfield 28, 3) := by decide +kernel
theorem dX0_widened_9 : decode cX0_widened 9 = .ok (.if_icmp .ge 53, 3) := by decide +kernel
theorem dX0_widened_12 : decode cX0_widened 12 = .ok (.aload_n 0, 1) := by decide +kernel
theorem dX0_widened_13 : decode cX0_widened 13 = .ok (.iload_n 3, 1) := by decide +kernel
theorem dX0_widened_14 : decode cX0_widened 14 = .ok (.invokevirtual 60, 3) := by decide +kernel
theorem dX0_widened_17 : decode cX0_widened 17 = .ok (.ifCond .ne 39, 3) := by decide +kernel
theorem dX0_widened_20 : decode cX0_widened 20 = .ok (.iload_n 2, 1) := by decide +kernel
theorem dX0_widened_21 : decode cX0_widened 21 = .ok (.iload_n 3, 1) := by decide +kernel
theorem dX0_widened_22 : decode cX0_widened 22 = .ok (.invokestatic 63, 3) := by decide +kernel
theorem dX0_widened_25 : decode cX0_widened 25 = .ok (.ifCond .ne 16, 3) := by decide +kernel
theorem dX0_widened_28 : decode cX0_widened 28 = .ok (.iload_n 2, 1) := by decide +kernel
theorem dX0_widened_29 : decode cX0_widened 29 = .ok (.aload_n 0, 1) := by decide +kernel
theorem dX0_widened_30 : decode cX0_widened 30 = .ok (.getfield 13, 3) := by decide +kernel
theorem dX0_widened_33 : decode cX0_widened 33 = .ok (.iload_n 3, 1) := by decide +kernel
theorem dX0_widened_34 : decode cX0_widened 34 = .ok (.iaload, 1) := by decide +kernel
theorem dX0_widened_35 : decode cX0_widened 35 = .ok (.invokestatic 63, 3) := by decide +kernel
theorem dX0_widened_38 : decode cX0_widened 38 = .ok (.ifCond .eq 18, 3) := by decide +kernel
theorem dX0_widened_41 : decode cX0_widened 41 = .ok (.iload_n 2, 1) := by decide +kernel
theorem dX0_widened_42 : decode cX0_widened 42 = .ok (.iconst 1, 1) := by decide +kernel
theorem dX0_widened_43 : decode cX0_widened 43 = .ok (.iload_n 3, 1) := by decide +kernel
theorem dX0_widened_44 : decode cX0_widened 44 = .ok (.ishl, 1) := by decide +kernel
theorem dX0_widened_45 : decode cX0_widened 45 = .ok (.iconst 1, 1) := by decide +kernel
theorem dX0_widened_46 : decode cX0_widened 46 = .ok (.aload_n 0, 1) := by decide +kernel
theorem dX0_widened_47 : decode cX0_widened 47 = .ok (.getfield 13, 3) := by decide +kernel
theorem dX0_widened_50 : decode cX0_widened 50 = .ok (.iload_n 3, 1) := by decide +kernel
theorem dX0_widened_51 : decode cX0_widened 51 = .ok (.iaload, 1) := by decide +kernel
theorem dX0_widened_52 : decode cX0_widened 52 = .ok (.ishl, 1) := by decide +kernel
theorem dX0_widened_53 : decode cX0_widened 53 = .ok (.ior, 1) := by decide +kernel
theorem dX0_widened_54 : decode cX0_widened 54 = .ok (.ior, 1) := by decide +kernel
theorem dX0_widened_55 : decode cX0_widened 55 = .ok (.istore_n 2, 1) := by decide +kernel
theorem dX0_widened_56 : decode cX0_widened 56 = .ok (.iinc 3 1, 3) := by decide +kernel
theorem dX0_widened_59 : decode cX0_widened 59 = .ok (.goto (-55), 3) := by decide +kernel
theorem dX0_widened_62 : decode cX0_widened 62 = .ok (.iload_n 2, 1) := by decide +kernel
theorem dX0_widened_63 : decode cX0_widened 63 = .ok (.ireturn, 1) := by decide +kernel
theorem dX0_isProper_0 : decode cX0_isProper 0 = .ok (.aload_n 0, 1) := by decide +kernel
theorem dX0_isProper_1 : decode cX0_isProper 1 = .ok (.invokevirtual 117, 3) := by decide +kernel
theorem dX0_isProper_4 : decode cX0_isProper 4 = .ok (.ifCond .ne 7, 3) := by decide +kernel
theorem dX0_isProper_7 : decode cX0_isProper 7 = .ok (.iconst 1, 1) := by decide +kernel
theorem dX0_isProper_8 : decode cX0_isProper 8 = .ok (.goto 4, 3) := by decide +kernel
theorem dX0_isProper_11 : decode cX0_isProper 11 = .ok (.iconst 0, 1) := by decide +kernel
theorem dX0_isProper_12 : decode cX0_isProper 12 = .ok (.ireturn, 1) := by decide +kernel
theorem dX0_isInConflict_0 : decode cX0_isInConflict 0 = .ok (.aload_n 0, 1) := by decide +kernel
theorem dX0_isInConflict_1 : decode cX0_isInConflict 1 = .ok (.iload_n 1, 1) := by decide +kernel
theorem dX0_isInConflict_2 : decode cX0_isInConflict 2 = .ok (.invokevirtual 60, 3) := by decide +kernel
theorem dX0_isInConflict_5 : decode cX0_isInConflict 5 = .ok (.ifCond .ne 27, 3) := by decide +kernel
theorem dX0_isInConflict_8 : decode cX0_isInConflict 8 = .ok (.aload_n 0, 1) := by decide +kernel
theorem dX0_isInConflict_9 : decode cX0_isInConflict 9 = .ok (.getfield 21, 3) := by decide +kernel
theorem dX0_isInConflict_12 : decode cX0_isInConflict 12 = .ok (.iload_n 1, 1) := by decide +kernel
theorem dX0_isInConflict_13 : decode cX0_isInConflict 13 = .ok (.iaload, 1) := by decide +kernel
theorem dX0_isInConflict_14 : decode cX0_isInConflict 14 = .ok (.aload_n 0, 1) := by decide +kernel
theorem dX0_isInConflict_15 : decode cX0_isInConflict 15 = .ok (.getfield 21, 3) := by decide +kernel
theorem dX0_isInConflict_18 : decode cX0_isInConflict 18 = .ok (.aload_n 0, 1) := by decide +kernel
theorem dX0_isInConflict_19 : decode cX0_isInConflict 19 = .ok (.getfield 13, 3) := by decide +kernel
theorem dX0_isInConflict_22 : decode cX0_isInConflict 22 = .ok (.iload_n 1, 1) := by decide +kernel
theorem dX0_isInConflict_23 : decode cX0_isInConflict 23 = .ok (.iaload, 1) := by decide +kernel
theorem dX0_isInConflict_24 : decode cX0_isInConflict 24 = .ok (.iaload, 1) := by decide +kernel
theorem dX0_isInConflict_25 : decode cX0_isInConflict 25 = .ok (.if_icmp .ne 7, 3) := by decide +kernel
theorem dX0_isInConflict_28 : decode cX0_isInConflict 28 = .ok (.iconst 1, 1) := by decide +kernel
theorem dX0_isInConflict_29 : decode cX0_isInConflict 29 = .ok (.goto 4, 3) := by decide +kernel
theorem dX0_isInConflict_32 : decode cX0_isInConflict 32 = .ok (.iconst 0, 1) := by decide +kernel
theorem dX0_isInConflict_33 : decode cX0_isInConflict 33 = .ok (.ireturn, 1) := by decide +kernel
theorem dX0_isFirstOfItsColour_0 : decode cX0_isFirstOfItsColour 0 = .ok (.iconst 0, 1) := by decide +kernel
theorem dX0_isFirstOfItsColour_1 : decode cX0_isFirstOfItsColour 1 = .ok (.istore_n 2, 1) := by decide +kernel
theorem dX0_isFirstOfItsColour_2 : decode cX0_isFirstOfItsColour 2 = .ok (.iload_n 2, 1) := by decide +kernel
theorem dX0_isFirstOfItsColour_3 : decode cX0_isFirstOfItsColour 3 = .ok (.iload_n 1, 1) := by decide +kernel
theorem dX0_isFirstOfItsColour_4 : decode cX0_isFirstOfItsColour 4 = .ok (.if_icmp .ge 26, 3) := by decide +kernel
theorem dX0_isFirstOfItsColour_7 : decode cX0_isFirstOfItsColour 7 = .ok (.aload_n 0, 1) := by decide +kernel
theorem dX0_isFirstOfItsColour_8 : decode cX0_isFirstOfItsColour 8 = .ok (.getfield 21, 3) := by decide +kernel
theorem dX0_isFirstOfItsColour_11 : decode cX0_isFirstOfItsColour 11 = .ok (.iload_n 2, 1) := by decide +kernel
theorem dX0_isFirstOfItsColour_12 : decode cX0_isFirstOfItsColour 12 = .ok (.iaload, 1) := by decide +kernel
theorem dX0_isFirstOfItsColour_13 : decode cX0_isFirstOfItsColour 13 = .ok (.aload_n 0, 1) := by decide +kernel
theorem dX0_isFirstOfItsColour_14 : decode cX0_isFirstOfItsColour 14 = .ok (.getfield 21, 3) := by decide +kernel
theorem dX0_isFirstOfItsColour_17 : decode cX0_isFirstOfItsColour 17 = .ok (.iload_n 1, 1) := by decide +kernel
theorem dX0_isFirstOfItsColour_18 : decode cX0_isFirstOfItsColour 18 = .ok (.iaload, 1) := by decide +kernel
theorem dX0_isFirstOfItsColour_19 : decode cX0_isFirstOfItsColour 19 = .ok (.if_icmp .ne 5, 3) := by decide +kernel
theorem dX0_isFirstOfItsColour_22 : decode cX0_isFirstOfItsColour 22 = .ok (.iconst 0, 1) := by decide +kernel
theorem dX0_isFirstOfItsColour_23 : decode cX0_isFirstOfItsColour 23 = .ok (.ireturn, 1) := by decide +kernel
theorem dX0_isFirstOfItsColour_24 : decode cX0_isFirstOfItsColour 24 = .ok (.iinc 2 1, 3) := by decide +kernel
theorem dX0_isFirstOfItsColour_27 : decode cX0_isFirstOfItsColour 27 = .ok (.goto (-25), 3) := by decide +kernel
theorem dX0_isFirstOfItsColour_30 : decode cX0_isFirstOfItsColour 30 = .ok (.iconst 1, 1) := by decide +kernel
theorem dX0_isFirstOfItsColour_31 : decode cX0_isFirstOfItsColour 31 = .ok (.ireturn, 1) := by decide +kernel
theorem dX0_hasNeighbourOfColour_0 : decode cX0_hasNeighbourOfColour 0 = .ok (.iconst 0, 1) := by decide +kernel
theorem dX0_hasNeighbourOfColour_1 : decode cX0_hasNeighbourOfColour 1 = .ok (.istore_n 3, 1) := by decide +kernel
theorem dX0_hasNeighbourOfColour_2 : decode cX0_hasNeighbourOfColour 2 = .ok (.iload_n 3, 1) := by decide +kernel
theorem dX0_hasNeighbourOfColour_3 : decode cX0_hasNeighbourOfColour 3 = .ok (.aload_n 0, 1) := by decide +kernel
theorem dX0_hasNeighbourOfColour_4 : decode cX0_hasNeighbourOfColour 4 = .ok (.getfield 28, 3) := by decide +kernel
theorem dX0_hasNeighbourOfColour_7 : decode cX0_hasNeighbourOfColour 7 = .ok (.if_icmp .ge 30, 3) := by decide +kernel
theorem dX0_hasNeighbourOfColour_10 : decode cX0_hasNeighbourOfColour 10 = .ok (.aload_n 0, 1) := by decide +kernel
theorem dX0_hasNeighbourOfColour_11 : decode cX0_hasNeighbourOfColour 11 = .ok (.getfield 21, 3) := by decide +kernel
theorem dX0_hasNeighbourOfColour_14 : decode cX0_hasNeighbourOfColour 14 = .ok (.iload_n 3, 1) := by decide +kernel
theorem dX0_hasNeighbourOfColour_15 : decode cX0_hasNeighbourOfColour 15 = .ok (.iaload, 1) := by decide +kernel
theorem dX0_hasNeighbourOfColour_16 : decode cX0_hasNeighbourOfColour 16 = .ok (.iload_n 2, 1) := by decide +kernel
theorem dX0_hasNeighbourOfColour_17 : decode cX0_hasNeighbourOfColour 17 = .ok (.if_icmp .ne 14, 3) := by decide +kernel
theorem dX0_hasNeighbourOfColour_20 : decode cX0_hasNeighbourOfColour 20 = .ok (.aload_n 0, 1) := by decide +kernel
theorem dX0_hasNeighbourOfColour_21 : decode cX0_hasNeighbourOfColour 21 = .ok (.iload_n 1, 1) := by decide +kernel
theorem dX0_hasNeighbourOfColour_22 : decode cX0_hasNeighbourOfColour 22 = .ok (.iload_n 3, 1) := by decide +kernel
theorem dX0_hasNeighbourOfColour_23 : decode cX0_hasNeighbourOfColour 23 = .ok (.invokevirtual 111, 3) := by decide +kernel
theorem dX0_hasNeighbourOfColour_26 : decode cX0_hasNeighbourOfColour 26 = .ok (.ifCond .eq 5, 3) := by decide +kernel
theorem dX0_hasNeighbourOfColour_29 : decode cX0_hasNeighbourOfColour 29 = .ok (.iconst 1, 1) := by decide +kernel
theorem dX0_hasNeighbourOfColour_30 : decode cX0_hasNeighbourOfColour 30 = .ok (.ireturn, 1) := by decide +kernel
theorem dX0_hasNeighbourOfColour_31 : decode cX0_hasNeighbourOfColour 31 = .ok (.iinc 3 1, 3) := by decide +kernel
theorem dX0_hasNeighbourOfColour_34 : decode cX0_hasNeighbourOfColour 34 = .ok (.goto (-32), 3) := by decide +kernel
theorem dX0_hasNeighbourOfColour_37 : decode cX0_hasNeighbourOfColour 37 = .ok (.iconst 0, 1) := by decide +kernel
theorem dX0_hasNeighbourOfColour_38 : decode cX0_hasNeighbourOfColour 38 = .ok (.ireturn, 1) := by decide +kernel
theorem dX0_lowestFreeColour_0 : decode cX0_lowestFreeColour 0 = .ok (.iconst 0, 1) := by decide +kernel
theorem dX0_lowestFreeColour_1 : decode cX0_lowestFreeColour 1 = .ok (.istore_n 3, 1) := by decide +kernel
theorem dX0_lowestFreeColour_2 : decode cX0_lowestFreeColour 2 = .ok (.iload_n 3, 1) := by decide +kernel
theorem dX0_lowestFreeColour_3 : decode cX0_lowestFreeColour 3 = .ok (.iload_n 2, 1) := by decide +kernel
theorem dX0_lowestFreeColour_4 : decode cX0_lowestFreeColour 4 = .ok (.if_icmp .ge 20, 3) := by decide +kernel
theorem dX0_lowestFreeColour_7 : decode cX0_lowestFreeColour 7 = .ok (.aload_n 0, 1) := by decide +kernel
theorem dX0_lowestFreeColour_8 : decode cX0_lowestFreeColour 8 = .ok (.iload_n 1, 1) := by decide +kernel
theorem dX0_lowestFreeColour_9 : decode cX0_lowestFreeColour 9 = .ok (.iload_n 3, 1) := by decide +kernel
theorem dX0_lowestFreeColour_10 : decode cX0_lowestFreeColour 10 = .ok (.invokevirtual 120, 3) := by decide +kernel
theorem dX0_lowestFreeColour_13 : decode cX0_lowestFreeColour 13 = .ok (.ifCond .ne 5, 3) := by decide +kernel
theorem dX0_lowestFreeColour_16 : decode cX0_lowestFreeColour 16 = .ok (.iload_n 3, 1) := by decide +kernel
theorem dX0_lowestFreeColour_17 : decode cX0_lowestFreeColour 17 = .ok (.ireturn, 1) := by decide +kernel
theorem dX0_lowestFreeColour_18 : decode cX0_lowestFreeColour 18 = .ok (.iinc 3 1, 3) := by decide +kernel
theorem dX0_lowestFreeColour_21 : decode cX0_lowestFreeColour 21 = .ok (.goto (-19), 3) := by decide +kernel
theorem dX0_lowestFreeColour_24 : decode cX0_lowestFreeColour 24 = .ok (.bipush (-7), 2) := by decide +kernel
theorem dX0_lowestFreeColour_26 : decode cX0_lowestFreeColour 26 = .ok (.ireturn, 1) := by decide +kernel
theorem dX0_reductionBit_0 : decode cX0_reductionBit 0 = .ok (.aload_n 0, 1) := by decide +kernel
theorem dX0_reductionBit_1 : decode cX0_reductionBit 1 = .ok (.iload_n 1, 1) := by decide +kernel
theorem dX0_reductionBit_2 : decode cX0_reductionBit 2 = .ok (.invokevirtual 60, 3) := by decide +kernel
theorem dX0_reductionBit_5 : decode cX0_reductionBit 5 = .ok (.ifCond .eq 5, 3) := by decide +kernel
theorem dX0_reductionBit_8 : decode cX0_reductionBit 8 = .ok (.iconst 0, 1) := by decide +kernel
theorem dX0_reductionBit_9 : decode cX0_reductionBit 9 = .ok (.ireturn, 1) := by decide +kernel
theorem dX0_reductionBit_10 : decode cX0_reductionBit 10 = .ok (.aload_n 0, 1) := by decide +kernel
theorem dX0_reductionBit_11 : decode cX0_reductionBit 11 = .ok (.getfield 21, 3) := by decide +kernel
theorem dX0_reductionBit_14 : decode cX0_reductionBit 14 = .ok (.iload_n 1, 1) := by decide +kernel
theorem dX0_reductionBit_15 : decode cX0_reductionBit 15 = .ok (.iaload, 1) := by decide +kernel
theorem dX0_reductionBit_16 : decode cX0_reductionBit 16 = .ok (.aload_n 0, 1) := by decide +kernel
theorem dX0_reductionBit_17 : decode cX0_reductionBit 17 = .ok (.getfield 21, 3) := by decide +kernel
theorem dX0_reductionBit_20 : decode cX0_reductionBit 20 = .ok (.aload_n 0, 1) := by decide +kernel
theorem dX0_reductionBit_21 : decode cX0_reductionBit 21 = .ok (.getfield 13, 3) := by decide +kernel
theorem dX0_reductionBit_24 : decode cX0_reductionBit 24 = .ok (.iload_n 1, 1) := by decide +kernel
theorem dX0_reductionBit_25 : decode cX0_reductionBit 25 = .ok (.iaload, 1) := by decide +kernel
theorem dX0_reductionBit_26 : decode cX0_reductionBit 26 = .ok (.iaload, 1) := by decide +kernel
theorem dX0_reductionBit_27 : decode cX0_reductionBit 27 = .ok (.ixor, 1) := by decide +kernel
theorem dX0_reductionBit_28 : decode cX0_reductionBit 28 = .ok (.invokestatic 123, 3) := by decide +kernel
theorem dX0_reductionBit_31 : decode cX0_reductionBit 31 = .ok (.ireturn, 1) := by decide +kernel
theorem dX0_startCount_0 : decode cX0_startCount 0 = .ok (.aload_n 0, 1) := by decide +kernel
theorem dX0_startCount_1 : decode cX0_startCount 1 = .ok (.iconst 0, 1) := by decide +kernel
theorem dX0_startCount_2 : decode cX0_startCount 2 = .ok (.putfield 31, 3) := by decide +kernel
theorem dX0_startCount_5 : decode cX0_startCount 5 = .ok (.return_, 1) := by decide +kernel
theorem dX0_rowAfterPresent_0 : decode cX0_rowAfterPresent 0 = .ok (.aload_n 0, 1) := by decide +kernel
theorem dX0_rowAfterPresent_1 : decode cX0_rowAfterPresent 1 = .ok (.getfield 24, 3) := by decide +kernel
theorem dX0_rowAfterPresent_4 : decode cX0_rowAfterPresent 4 = .ok (.iconst 1, 1) := by decide +kernel
theorem dX0_rowAfterPresent_5 : decode cX0_rowAfterPresent 5 = .ok (.iadd, 1) := by decide +kernel
theorem dX0_rowAfterPresent_6 : decode cX0_rowAfterPresent 6 = .ok (.bipush 18, 2) := by decide +kernel
theorem dX0_rowAfterPresent_8 : decode cX0_rowAfterPresent 8 = .ok (.if_icmp .ge 12, 3) := by decide +kernel
theorem dX0_rowAfterPresent_11 : decode cX0_rowAfterPresent 11 = .ok (.aload_n 0, 1) := by decide +kernel
theorem dX0_rowAfterPresent_12 : decode cX0_rowAfterPresent 12 = .ok (.getfield 24, 3) := by decide +kernel
theorem dX0_rowAfterPresent_15 : decode cX0_rowAfterPresent 15 = .ok (.iconst 1, 1) := by decide +kernel
theorem dX0_rowAfterPresent_16 : decode cX0_rowAfterPresent 16 = .ok (.iadd, 1) := by decide +kernel
theorem dX0_rowAfterPresent_17 : decode cX0_rowAfterPresent 17 = .ok (.goto 4, 3) := by decide +kernel
theorem dX0_rowAfterPresent_20 : decode cX0_rowAfterPresent 20 = .ok (.iconst 0, 1) := by decide +kernel
theorem dX0_rowAfterPresent_21 : decode cX0_rowAfterPresent 21 = .ok (.ireturn, 1) := by decide +kernel
theorem dX0_endRound_0 : decode cX0_endRound 0 = .ok (.aload_n 0, 1) := by decide +kernel
theorem dX0_endRound_1 : decode cX0_endRound 1 = .ok (.aload_n 0, 1) := by decide +kernel
theorem dX0_endRound_2 : decode cX0_endRound 2 = .ok (.invokevirtual 126, 3) := by decide +kernel
theorem dX0_endRound_5 : decode cX0_endRound 5 = .ok (.putfield 24, 3) := by decide +kernel
theorem dX0_endRound_8 : decode cX0_endRound 8 = .ok (.aload_n 0, 1) := by decide +kernel
theorem dX0_endRound_9 : decode cX0_endRound 9 = .ok (.aload_n 0, 1) := by decide +kernel
theorem dX0_endRound_10 : decode cX0_endRound 10 = .ok (.getfield 18, 3) := by decide +kernel
theorem dX0_endRound_13 : decode cX0_endRound 13 = .ok (.aload_n 0, 1) := by decide +kernel
theorem dX0_endRound_14 : decode cX0_endRound 14 = .ok (.getfield 24, 3) := by decide +kernel
theorem dX0_endRound_17 : decode cX0_endRound 17 = .ok (.aaload, 1) := by decide +kernel
theorem dX0_endRound_18 : decode cX0_endRound 18 = .ok (.putfield 21, 3) := by decide +kernel
theorem dX0_endRound_21 : decode cX0_endRound 21 = .ok (.aload_n 0, 1) := by decide +kernel
theorem dX0_endRound_22 : decode cX0_endRound 22 = .ok (.dup, 1) := by decide +kernel
theorem dX0_endRound_23 : decode cX0_endRound 23 = .ok (.getfield 31, 3) := by decide +kernel
theorem dX0_endRound_26 : decode cX0_endRound 26 = .ok (.iconst 1, 1) := by decide +kernel
theorem dX0_endRound_27 : decode cX0_endRound 27 = .ok (.iadd, 1) := by decide +kernel
theorem dX0_endRound_28 : decode cX0_endRound 28 = .ok (.putfield 31, 3) := by decide +kernel
theorem dX0_endRound_31 : decode cX0_endRound 31 = .ok (.return_, 1) := by decide +kernel
theorem dX0_doReduction_0 : decode cX0_doReduction 0 = .ok (.aload_n 0, 1) := by decide +kernel
theorem dX0_doReduction_1 : decode cX0_doReduction 1 = .ok (.getfield 18, 3) := by decide +kernel
theorem dX0_doReduction_4 : decode cX0_doReduction 4 = .ok (.aload_n 0, 1) := by decide +kernel
theorem dX0_doReduction_5 : decode cX0_doReduction 5 = .ok (.invokevirtual 126, 3) := by decide +kernel
theorem dX0_doReduction_8 : decode cX0_doReduction 8 = .ok (.aaload, 1) := by decide +kernel
theorem dX0_doReduction_9 : decode cX0_doReduction 9 = .ok (.astore_n 1, 1) := by decide +kernel
theorem dX0_doReduction_10 : decode cX0_doReduction 10 = .ok (.iconst 0, 1) := by decide +kernel
theorem dX0_doReduction_11 : decode cX0_doReduction 11 = .ok (.istore_n 2, 1) := by decide +kernel
theorem dX0_doReduction_12 : decode cX0_doReduction 12 = .ok (.iload_n 2, 1) := by decide +kernel
theorem dX0_doReduction_13 : decode cX0_doReduction 13 = .ok (.aload_n 0, 1) := by decide +kernel
theorem dX0_doReduction_14 : decode cX0_doReduction 14 = .ok (.getfield 28, 3) := by decide +kernel
theorem dX0_doReduction_17 : decode cX0_doReduction 17 = .ok (.if_icmp .ge 32, 3) := by decide +kernel
theorem dX0_doReduction_20 : decode cX0_doReduction 20 = .ok (.aload_n 0, 1) := by decide +kernel
theorem dX0_doReduction_21 : decode cX0_doReduction 21 = .ok (.iload_n 2, 1) := by decide +kernel
theorem dX0_doReduction_22 : decode cX0_doReduction 22 = .ok (.invokevirtual 84, 3) := by decide +kernel
theorem dX0_doReduction_25 : decode cX0_doReduction 25 = .ok (.istore_n 3, 1) := by decide +kernel
theorem dX0_doReduction_26 : decode cX0_doReduction 26 = .ok (.aload_n 1, 1) := by decide +kernel
theorem dX0_doReduction_27 : decode cX0_doReduction 27 = .ok (.iload_n 2, 1) := by decide +kernel
theorem dX0_doReduction_28 : decode cX0_doReduction 28 = .ok (.iconst 2, 1) := by decide +kernel
theorem dX0_doReduction_29 : decode cX0_doReduction 29 = .ok (.iload_n 3, 1) := by decide +kernel
theorem dX0_doReduction_30 : decode cX0_doReduction 30 = .ok (.imul, 1) := by decide +kernel
theorem dX0_doReduction_31 : decode cX0_doReduction 31 = .ok (.aload_n 0, 1) := by decide +kernel
theorem dX0_doReduction_32 : decode cX0_doReduction 32 = .ok (.getfield 21, 3) := by decide +kernel
theorem dX0_doReduction_35 : decode cX0_doReduction 35 = .ok (.iload_n 2, 1) := by decide +kernel
theorem dX0_doReduction_36 : decode cX0_doReduction 36 = .ok (.iaload, 1) := by decide +kernel
theorem dX0_doReduction_37 : decode cX0_doReduction 37 = .ok (.iload_n 3, 1) := by decide +kernel
theorem dX0_doReduction_38 : decode cX0_doReduction 38 = .ok (.ishr, 1) := by decide +kernel
theorem dX0_doReduction_39 : decode cX0_doReduction 39 = .ok (.iconst 1, 1) := by decide +kernel
theorem dX0_doReduction_40 : decode cX0_doReduction 40 = .ok (.iand, 1) := by decide +kernel
theorem dX0_doReduction_41 : decode cX0_doReduction 41 = .ok (.iadd, 1) := by decide +kernel
theorem dX0_doReduction_42 : decode cX0_doReduction 42 = .ok (.iastore, 1) := by decide +kernel
theorem dX0_doReduction_43 : decode cX0_doReduction 43 = .ok (.iinc 2 1, 3) := by decide +kernel
theorem dX0_doReduction_46 : decode cX0_doReduction 46 = .ok (.goto (-34), 3) := by decide +kernel
theorem dX0_doReduction_49 : decode cX0_doReduction 49 = .ok (.aload_n 0, 1) := by decide +kernel
theorem dX0_doReduction_50 : decode cX0_doReduction 50 = .ok (.invokevirtual 129, 3) := by decide +kernel
theorem dX0_doReduction_53 : decode cX0_doReduction 53 = .ok (.return_, 1) := by decide +kernel
theorem dX0_doShift_0 : decode cX0_doShift 0 = .ok (.aload_n 0, 1) := by decide +kernel
theorem dX0_doShift_1 : decode cX0_doShift 1 = .ok (.getfield 18, 3) := by decide +kernel
theorem dX0_doShift_4 : decode cX0_doShift 4 = .ok (.aload_n 0, 1) := by decide +kernel
theorem dX0_doShift_5 : decode cX0_doShift 5 = .ok (.invokevirtual 126, 3) := by decide +kernel
theorem dX0_doShift_8 : decode cX0_doShift 8 = .ok (.aaload, 1) := by decide +kernel
theorem dX0_doShift_9 : decode cX0_doShift 9 = .ok (.astore_n 1, 1) := by decide +kernel
theorem dX0_doShift_10 : decode cX0_doShift 10 = .ok (.iconst 0, 1) := by decide +kernel
theorem dX0_doShift_11 : decode cX0_doShift 11 = .ok (.istore_n 2, 1) := by decide +kernel
theorem dX0_doShift_12 : decode cX0_doShift 12 = .ok (.iconst 0, 1) := by decide +kernel
theorem dX0_doShift_13 : decode cX0_doShift 13 = .ok (.istore_n 3, 1) := by decide +kernel
theorem dX0_doShift_14 : decode cX0_doShift 14 = .ok (.iload_n 3, 1) := by decide +kernel
theorem dX0_doShift_15 : decode cX0_doShift 15 = .ok (.aload_n 0, 1) := by decide +kernel
theorem dX0_doShift_16 : decode cX0_doShift 16 = .ok (.getfield 28, 3) := by decide +kernel
theorem dX0_doShift_19 : decode cX0_doShift 19 = .ok (.if_icmp .ge 32, 3) := by decide +kernel
theorem dX0_doShift_22 : decode cX0_doShift 22 = .ok (.aload_n 1, 1) := by decide +kernel
theorem dX0_doShift_23 : decode cX0_doShift 23 = .ok (.iload_n 3, 1) := by decide +kernel
theorem dX0_doShift_24 : decode cX0_doShift 24 = .ok (.aload_n 0, 1) := by decide +kernel
theorem dX0_doShift_25 : decode cX0_doShift 25 = .ok (.iload_n 3, 1) := by decide +kernel
theorem dX0_doShift_26 : decode cX0_doShift 26 = .ok (.invokevirtual 132, 3) := by decide +kernel
theorem dX0_doShift_29 : decode cX0_doShift 29 = .ok (.iastore, 1) := by decide +kernel
theorem dX0_doShift_30 : decode cX0_doShift 30 = .ok (.aload_n 1, 1) := by decide +kernel
theorem dX0_doShift_31 : decode cX0_doShift 31 = .ok (.iload_n 3, 1) := by decide +kernel
theorem dX0_doShift_32 : decode cX0_doShift 32 = .ok (.iaload, 1) := by decide +kernel
theorem dX0_doShift_33 : decode cX0_doShift 33 = .ok (.aload_n 0, 1) := by decide +kernel
theorem dX0_doShift_34 : decode cX0_doShift 34 = .ok (.getfield 21, 3) := by decide +kernel
theorem dX0_doShift_37 : decode cX0_doShift 37 = .ok (.iload_n 3, 1) := by decide +kernel
theorem dX0_doShift_38 : decode cX0_doShift 38 = .ok (.iaload, 1) := by decide +kernel
theorem dX0_doShift_39 : decode cX0_doShift 39 = .ok (.if_icmp .eq 6, 3) := by decide +kernel
theorem dX0_doShift_42 : decode cX0_doShift 42 = .ok (.iinc 2 1, 3) := by decide +kernel
theorem dX0_doShift_45 : decode cX0_doShift 45 = .ok (.iinc 3 1, 3) := by decide +kernel
theorem dX0_doShift_48 : decode cX0_doShift 48 = .ok (.goto (-34), 3) := by decide +kernel
theorem dX0_doShift_51 : decode cX0_doShift 51 = .ok (.aload_n 0, 1) := by decide +kernel
theorem dX0_doShift_52 : decode cX0_doShift 52 = .ok (.invokevirtual 129, 3) := by decide +kernel
theorem dX0_doShift_55 : decode cX0_doShift 55 = .ok (.iload_n 2, 1) := by decide +kernel
theorem dX0_doShift_56 : decode cX0_doShift 56 = .ok (.ireturn, 1) := by decide +kernel
theorem dX0_shiftedColour_0 : decode cX0_shiftedColour 0 = .ok (.aload_n 0, 1) := by decide +kernel
theorem dX0_shiftedColour_1 : decode cX0_shiftedColour 1 = .ok (.iload_n 1, 1) := by decide +kernel
theorem dX0_shiftedColour_2 : decode cX0_shiftedColour 2 = .ok (.invokevirtual 60, 3) := by decide +kernel
theorem dX0_shiftedColour_5 : decode cX0_shiftedColour 5 = .ok (.ifCond .ne 15, 3) := by decide +kernel
theorem dX0_shiftedColour_8 : decode cX0_shiftedColour 8 = .ok (.aload_n 0, 1) := by decide +kernel
theorem dX0_shiftedColour_9 : decode cX0_shiftedColour 9 = .ok (.getfield 21, 3) := by decide +kernel
theorem dX0_shiftedColour_12 : decode cX0_shiftedColour 12 = .ok (.aload_n 0, 1) := by decide +kernel
theorem dX0_shiftedColour_13 : decode cX0_shiftedColour 13 = .ok (.getfield 13, 3) := by decide +kernel
theorem dX0_shiftedColour_16 : decode cX0_shiftedColour 16 = .ok (.iload_n 1, 1) := by decide +kernel
theorem dX0_shiftedColour_17 : decode cX0_shiftedColour 17 = .ok (.iaload, 1) := by decide +kernel
theorem dX0_shiftedColour_18 : decode cX0_shiftedColour 18 = .ok (.iaload, 1) := by decide +kernel
theorem dX0_shiftedColour_19 : decode cX0_shiftedColour 19 = .ok (.ireturn, 1) := by decide +kernel
theorem dX0_shiftedColour_20 : decode cX0_shiftedColour 20 = .ok (.aload_n 0, 1) := by decide +kernel
theorem dX0_shiftedColour_21 : decode cX0_shiftedColour 21 = .ok (.getfield 21, 3) := by decide +kernel
theorem dX0_shiftedColour_24 : decode cX0_shiftedColour 24 = .ok (.iload_n 1, 1) := by decide +kernel
theorem dX0_shiftedColour_25 : decode cX0_shiftedColour 25 = .ok (.iaload, 1) := by decide +kernel
theorem dX0_shiftedColour_26 : decode cX0_shiftedColour 26 = .ok (.ifCond .ne 7, 3) := by decide +kernel
theorem dX0_shiftedColour_29 : decode cX0_shiftedColour 29 = .ok (.iconst 1, 1) := by decide +kernel
theorem dX0_shiftedColour_30 : decode cX0_shiftedColour 30 = .ok (.goto 4, 3) := by decide +kernel
theorem dX0_shiftedColour_33 : decode cX0_shiftedColour 33 = .ok (.iconst 0, 1) := by decide +kernel
theorem dX0_shiftedColour_34 : decode cX0_shiftedColour 34 = .ok (.ireturn, 1) := by decide +kernel
theorem dX0_doElimination_0 : decode cX0_doElimination 0 = .ok (.aload_n 0, 1) := by decide +kernel
theorem dX0_doElimination_1 : decode cX0_doElimination 1 = .ok (.getfield 18, 3) := by decide +kernel
theorem dX0_doElimination_4 : decode cX0_doElimination 4 = .ok (.aload_n 0, 1) := by decide +kernel
theorem dX0_doElimination_5 : decode cX0_doElimination 5 = .ok (.invokevirtual 126, 3) := by decide +kernel
theorem dX0_doElimination_8 : decode cX0_doElimination 8 = .ok (.aaload, 1) := by decide +kernel
theorem dX0_doElimination_9 : decode cX0_doElimination 9 = .ok (.astore_n 2, 1) := by decide +kernel
theorem dX0_doElimination_10 : decode cX0_doElimination 10 = .ok (.iconst 0, 1) := by decide +kernel
theorem dX0_doElimination_11 : decode cX0_doElimination 11 = .ok (.istore_n 3, 1) := by decide +kernel
theorem dX0_doElimination_12 : decode cX0_doElimination 12 = .ok (.iconst 0, 1) := by decide +kernel
theorem dX0_doElimination_13 : decode cX0_doElimination 13 = .ok (.istore 4, 2) := by decide +kernel
theorem dX0_doElimination_15 : decode cX0_doElimination 15 = .ok (.iload 4, 2) := by decide +kernel
theorem dX0_doElimination_17 : decode cX0_doElimination 17 = .ok (.aload_n 0, 1) := by decide +kernel
theorem dX0_doElimination_18 : decode cX0_doElimination 18 = .ok (.getfield 28, 3) := by decide +kernel
theorem dX0_doElimination_21 : decode cX0_doElimination 21 = .ok (.if_icmp .ge 57, 3) := by decide +kernel
theorem dX0_doElimination_24 : decode cX0_doElimination 24 = .ok (.aload_n 2, 1) := by decide +kernel
theorem dX0_doElimination_25 : decode cX0_doElimination 25 = .ok (.iload 4, 2) := by decide +kernel
theorem dX0_doElimination_27 : decode cX0_doElimination 27 = .ok (.aload_n 0, 1) := by decide +kernel
theorem dX0_doElimination_28 : decode cX0_doElimination 28 = .ok (.getfield 21, 3) := by decide +kernel
theorem dX0_doElimination_31 : decode cX0_doElimination 31 = .ok (.iload 4, 2) := by decide +kernel
theorem dX0_doElimination_33 : decode cX0_doElimination 33 = .ok (.iaload, 1) := by decide +kernel
theorem dX0_doElimination_34 : decode cX0_doElimination 34 = .ok (.iastore, 1) := by decide +kernel
theorem dX0_doElimination_35 : decode cX0_doElimination 35 = .ok (.aload_n 0, 1) := by decide +kernel
theorem dX0_doElimination_36 : decode cX0_doElimination 36 = .ok (.getfield 21, 3) := by decide +kernel
theorem dX0_doElimination_39 : decode cX0_doElimination 39 = .ok (.iload 4, 2) := by decide +kernel
theorem dX0_doElimination_41 : decode cX0_doElimination 41 = .ok (.iaload, 1) := by decide +kernel
theorem dX0_doElimination_42 : decode cX0_doElimination 42 = .ok (.iload_n 1, 1) := by decide +kernel
theorem dX0_doElimination_43 : decode cX0_doElimination 43 = .ok (.if_icmp .ne 29, 3) := by decide +kernel
theorem dX0_doElimination_46 : decode cX0_doElimination 46 = .ok (.aload_n 2, 1) := by decide +kernel
theorem dX0_doElimination_47 : decode cX0_doElimination 47 = .ok (.iload 4, 2) := by decide +kernel
theorem dX0_doElimination_49 : decode cX0_doElimination 49 = .ok (.aload_n 0, 1) := by decide +kernel
theorem dX0_doElimination_50 : decode cX0_doElimination 50 = .ok (.iload 4, 2) := by decide +kernel
theorem dX0_doElimination_52 : decode cX0_doElimination 52 = .ok (.iconst 3, 1) := by decide +kernel
theorem dX0_doElimination_53 : decode cX0_doElimination 53 = .ok (.invokevirtual 70, 3) := by decide +kernel
theorem dX0_doElimination_56 : decode cX0_doElimination 56 = .ok (.iastore, 1) := by decide +kernel
theorem dX0_doElimination_57 : decode cX0_doElimination 57 = .ok (.aload_n 2, 1) := by decide +kernel
theorem dX0_doElimination_58 : decode cX0_doElimination 58 = .ok (.iload 4, 2) := by decide +kernel
theorem dX0_doElimination_60 : decode cX0_doElimination 60 = .ok (.iaload, 1) := by decide +kernel
theorem dX0_doElimination_61 : decode cX0_doElimination 61 = .ok (.bipush (-7), 2) := by decide +kernel
theorem dX0_doElimination_63 : decode cX0_doElimination 63 = .ok (.if_icmp .ne 6, 3) := by decide +kernel
theorem dX0_doElimination_66 : decode cX0_doElimination 66 = .ok (.bipush (-6), 2) := by decide +kernel
theorem dX0_doElimination_68 : decode cX0_doElimination 68 = .ok (.ireturn, 1) := by decide +kernel
theorem dX0_doElimination_69 : decode cX0_doElimination 69 = .ok (.iinc 3 1, 3) := by decide +kernel
theorem dX0_doElimination_72 : decode cX0_doElimination 72 = .ok (.iinc 4 1, 3) := by decide +kernel
theorem dX0_doElimination_75 : decode cX0_doElimination 75 = .ok (.goto (-60), 3) := by decide +kernel
theorem dX0_doElimination_78 : decode cX0_doElimination 78 = .ok (.aload_n 0, 1) := by decide +kernel
theorem dX0_doElimination_79 : decode cX0_doElimination 79 = .ok (.invokevirtual 129, 3) := by decide +kernel
theorem dX0_doElimination_82 : decode cX0_doElimination 82 = .ok (.iload_n 3, 1) := by decide +kernel
theorem dX0_doElimination_83 : decode cX0_doElimination 83 = .ok (.ireturn, 1) := by decide +kernel
theorem dX0_independentSet_0 : decode cX0_independentSet 0 = .ok (.iconst 0, 1) := by decide +kernel
theorem dX0_independentSet_1 : decode cX0_independentSet 1 = .ok (.istore_n 1, 1) := by decide +kernel
theorem dX0_independentSet_2 : decode cX0_independentSet 2 = .ok (.iconst 0, 1) := by decide +kernel
theorem dX0_independentSet_3 : decode cX0_independentSet 3 = .ok (.istore_n 2, 1) := by decide +kernel
theorem dX0_independentSet_4 : decode cX0_independentSet 4 = .ok (.iconst 0, 1) := by decide +kernel
theorem dX0_independentSet_5 : decode cX0_independentSet 5 = .ok (.istore_n 3, 1) := by decide +kernel
theorem dX0_independentSet_6 : decode cX0_independentSet 6 = .ok (.iload_n 3, 1) := by decide +kernel
theorem dX0_independentSet_7 : decode cX0_independentSet 7 = .ok (.aload_n 0, 1) := by decide +kernel
theorem dX0_independentSet_8 : decode cX0_independentSet 8 = .ok (.getfield 28, 3) := by decide +kernel
theorem dX0_independentSet_11 : decode cX0_independentSet 11 = .ok (.if_icmp .ge 50, 3) := by decide +kernel
theorem dX0_independentSet_14 : decode cX0_independentSet 14 = .ok (.aload_n 0, 1) := by decide +kernel
theorem dX0_independentSet_15 : decode cX0_independentSet 15 = .ok (.iload_n 2, 1) := by decide +kernel
theorem dX0_independentSet_16 : decode cX0_independentSet 16 = .ok (.invokevirtual 135, 3) := by decide +kernel
theorem dX0_independentSet_19 : decode cX0_independentSet 19 = .ok (.istore 4, 2) := by decide +kernel
theorem dX0_independentSet_21 : decode cX0_independentSet 21 = .ok (.iload 4, 2) := by decide +kernel
theorem dX0_independentSet_23 : decode cX0_independentSet 23 = .ok (.bipush (-7), 2) := by decide +kernel
theorem dX0_independentSet_25 : decode cX0_independentSet 25 = .ok (.if_icmp .ne 5, 3) := by decide +kernel
theorem dX0_independentSet_28 : decode cX0_independentSet 28 = .ok (.iload_n 1, 1) := by decide +kernel
theorem dX0_independentSet_29 : decode cX0_independentSet 29 = .ok (.ireturn, 1) := by decide +kernel
theorem dX0_independentSet_30 : decode cX0_independentSet 30 = .ok (.iload_n 2, 1) := by decide +kernel
theorem dX0_independentSet_31 : decode cX0_independentSet 31 = .ok (.iconst 1, 1) := by decide +kernel
theorem dX0_independentSet_32 : decode cX0_independentSet 32 = .ok (.iload 4, 2) := by decide +kernel
theorem dX0_independentSet_34 : decode cX0_independentSet 34 = .ok (.ishl, 1) := by decide +kernel
theorem dX0_independentSet_35 : decode cX0_independentSet 35 = .ok (.ior, 1) := by decide +kernel
theorem dX0_independentSet_36 : decode cX0_independentSet 36 = .ok (.istore_n 2, 1) := by decide +kernel
theorem dX0_independentSet_37 : decode cX0_independentSet 37 = .ok (.aload_n 0, 1) := by decide +kernel
theorem dX0_independentSet_38 : decode cX0_independentSet 38 = .ok (.iload 4, 2) := by decide +kernel
theorem dX0_independentSet_40 : decode cX0_independentSet 40 = .ok (.invokevirtual 51, 3) := by decide +kernel
theorem dX0_independentSet_43 : decode cX0_independentSet 43 = .ok (.iload_n 1, 1) := by decide +kernel
theorem dX0_independentSet_44 : decode cX0_independentSet 44 = .ok (.iand, 1) := by decide +kernel
theorem dX0_independentSet_45 : decode cX0_independentSet 45 = .ok (.ifCond .ne 10, 3) := by decide +kernel
theorem dX0_independentSet_48 : decode cX0_independentSet 48 = .ok (.iload_n 1, 1) := by decide +kernel
theorem dX0_independentSet_49 : decode cX0_independentSet 49 = .ok (.iconst 1, 1) := by decide +kernel
theorem dX0_independentSet_50 : decode cX0_independentSet 50 = .ok (.iload 4, 2) := by decide +kernel
theorem dX0_independentSet_52 : decode cX0_independentSet 52 = .ok (.ishl, 1) := by decide +kernel
theorem dX0_independentSet_53 : decode cX0_independentSet 53 = .ok (.ior, 1) := by decide +kernel
theorem dX0_independentSet_54 : decode cX0_independentSet 54 = .ok (.istore_n 1, 1) := by decide +kernel
theorem dX0_independentSet_55 : decode cX0_independentSet 55 = .ok (.iinc 3 1, 3) := by decide +kernel
theorem dX0_independentSet_58 : decode cX0_independentSet 58 = .ok (.goto (-52), 3) := by decide +kernel
theorem dX0_independentSet_61 : decode cX0_independentSet 61 = .ok (.iload_n 1, 1) := by decide +kernel
theorem dX0_independentSet_62 : decode cX0_independentSet 62 = .ok (.ireturn, 1) := by decide +kernel
theorem dX0_nextToVisit_0 : decode cX0_nextToVisit 0 = .ok (.bipush (-7), 2) := by decide +kernel
theorem dX0_nextToVisit_2 : decode cX0_nextToVisit 2 = .ok (.istore_n 2, 1) := by decide +kernel
theorem dX0_nextToVisit_3 : decode cX0_nextToVisit 3 = .ok (.iconst 0, 1) := by decide +kernel
theorem dX0_nextToVisit_4 : decode cX0_nextToVisit 4 = .ok (.istore_n 3, 1) := by decide +kernel
theorem dX0_nextToVisit_5 : decode cX0_nextToVisit 5 = .ok (.iload_n 3, 1) := by decide +kernel
theorem dX0_nextToVisit_6 : decode cX0_nextToVisit 6 = .ok (.aload_n 0, 1) := by decide +kernel
theorem dX0_nextToVisit_7 : decode cX0_nextToVisit 7 = .ok (.getfield 28, 3) := by decide +kernel
theorem dX0_nextToVisit_10 : decode cX0_nextToVisit 10 = .ok (.if_icmp .ge 40, 3) := by decide +kernel
theorem dX0_nextToVisit_13 : decode cX0_nextToVisit 13 = .ok (.iload_n 1, 1) := by decide +kernel
theorem dX0_nextToVisit_14 : decode cX0_nextToVisit 14 = .ok (.iload_n 3, 1) := by decide +kernel
theorem dX0_nextToVisit_15 : decode cX0_nextToVisit 15 = .ok (.invokestatic 63, 3) := by decide +kernel
theorem dX0_nextToVisit_18 : decode cX0_nextToVisit 18 = .ok (.ifCond .ne 26, 3) := by decide +kernel
theorem dX0_nextToVisit_21 : decode cX0_nextToVisit 21 = .ok (.iload_n 2, 1) := by decide +kernel
theorem dX0_nextToVisit_22 : decode cX0_nextToVisit 22 = .ok (.bipush (-7), 2) := by decide +kernel
theorem dX0_nextToVisit_24 : decode cX0_nextToVisit 24 = .ok (.if_icmp .eq 18, 3) := by decide +kernel
theorem dX0_nextToVisit_27 : decode cX0_nextToVisit 27 = .ok (.aload_n 0, 1) := by decide +kernel
theorem dX0_nextToVisit_28 : decode cX0_nextToVisit 28 = .ok (.getfield 21, 3) := by decide +kernel
theorem dX0_nextToVisit_31 : decode cX0_nextToVisit 31 = .ok (.iload_n 3, 1) := by decide +kernel
theorem dX0_nextToVisit_32 : decode cX0_nextToVisit 32 = .ok (.iaload, 1) := by decide +kernel
theorem dX0_nextToVisit_33 : decode cX0_nextToVisit 33 = .ok (.aload_n 0, 1) := by decide +kernel
theorem dX0_nextToVisit_34 : decode cX0_nextToVisit 34 = .ok (.getfield 21, 3) := by decide +kernel
theorem dX0_nextToVisit_37 : decode cX0_nextToVisit 37 = .ok (.iload_n 2, 1) := by decide +kernel
theorem dX0_nextToVisit_38 : decode cX0_nextToVisit 38 = .ok (.iaload, 1) := by decide +kernel
theorem dX0_nextToVisit_39 : decode cX0_nextToVisit 39 = .ok (.if_icmp .ge 5, 3) := by decide +kernel
theorem dX0_nextToVisit_42 : decode cX0_nextToVisit 42 = .ok (.iload_n 3, 1) := by decide +kernel
theorem dX0_nextToVisit_43 : decode cX0_nextToVisit 43 = .ok (.istore_n 2, 1) := by decide +kernel
theorem dX0_nextToVisit_44 : decode cX0_nextToVisit 44 = .ok (.iinc 3 1, 3) := by decide +kernel
theorem dX0_nextToVisit_47 : decode cX0_nextToVisit 47 = .ok (.goto (-42), 3) := by decide +kernel
theorem dX0_nextToVisit_50 : decode cX0_nextToVisit 50 = .ok (.iload_n 2, 1) := by decide +kernel
theorem dX0_nextToVisit_51 : decode cX0_nextToVisit 51 = .ok (.ireturn, 1) := by decide +kernel
theorem dX0_nodeAtAnEnd_0 : decode cX0_nodeAtAnEnd 0 = .ok (.iconst 0, 1) := by decide +kernel
theorem dX0_nodeAtAnEnd_1 : decode cX0_nodeAtAnEnd 1 = .ok (.istore_n 2, 1) := by decide +kernel
theorem dX0_nodeAtAnEnd_2 : decode cX0_nodeAtAnEnd 2 = .ok (.iload_n 2, 1) := by decide +kernel
theorem dX0_nodeAtAnEnd_3 : decode cX0_nodeAtAnEnd 3 = .ok (.aload_n 0, 1) := by decide +kernel
theorem dX0_nodeAtAnEnd_4 : decode cX0_nodeAtAnEnd 4 = .ok (.getfield 28, 3) := by decide +kernel
theorem dX0_nodeAtAnEnd_7 : decode cX0_nodeAtAnEnd 7 = .ok (.if_icmp .ge 33, 3) := by decide +kernel
theorem dX0_nodeAtAnEnd_10 : decode cX0_nodeAtAnEnd 10 = .ok (.iload_n 1, 1) := by decide +kernel
theorem dX0_nodeAtAnEnd_11 : decode cX0_nodeAtAnEnd 11 = .ok (.iload_n 2, 1) := by decide +kernel
theorem dX0_nodeAtAnEnd_12 : decode cX0_nodeAtAnEnd 12 = .ok (.invokestatic 63, 3) := by decide +kernel
theorem dX0_nodeAtAnEnd_15 : decode cX0_nodeAtAnEnd 15 = .ok (.ifCond .eq 19, 3) := by decide +kernel
theorem dX0_nodeAtAnEnd_18 : decode cX0_nodeAtAnEnd 18 = .ok (.aload_n 0, 1) := by decide +kernel
theorem dX0_nodeAtAnEnd_19 : decode cX0_nodeAtAnEnd 19 = .ok (.iload_n 2, 1) := by decide +kernel
theorem dX0_nodeAtAnEnd_20 : decode cX0_nodeAtAnEnd 20 = .ok (.invokevirtual 51, 3) := by decide +kernel
theorem dX0_nodeAtAnEnd_23 : decode cX0_nodeAtAnEnd 23 = .ok (.iload_n 1, 1) := by decide +kernel
theorem dX0_nodeAtAnEnd_24 : decode cX0_nodeAtAnEnd 24 = .ok (.iand, 1) := by decide +kernel
theorem dX0_nodeAtAnEnd_25 : decode cX0_nodeAtAnEnd 25 = .ok (.invokestatic 55, 3) := by decide +kernel
theorem dX0_nodeAtAnEnd_28 : decode cX0_nodeAtAnEnd 28 = .ok (.iconst 1, 1) := by decide +kernel
theorem dX0_nodeAtAnEnd_29 : decode cX0_nodeAtAnEnd 29 = .ok (.if_icmp .gt 5, 3) := by decide +kernel
theorem dX0_nodeAtAnEnd_32 : decode cX0_nodeAtAnEnd 32 = .ok (.iload_n 2, 1) := by decide +kernel
theorem dX0_nodeAtAnEnd_33 : decode cX0_nodeAtAnEnd 33 = .ok (.ireturn, 1) := by decide +kernel
theorem dX0_nodeAtAnEnd_34 : decode cX0_nodeAtAnEnd 34 = .ok (.iinc 2 1, 3) := by decide +kernel
theorem dX0_nodeAtAnEnd_37 : decode cX0_nodeAtAnEnd 37 = .ok (.goto (-35), 3) := by decide +kernel
theorem dX0_nodeAtAnEnd_40 : decode cX0_nodeAtAnEnd 40 = .ok (.bipush (-7), 2) := by decide +kernel
theorem dX0_nodeAtAnEnd_42 : decode cX0_nodeAtAnEnd 42 = .ok (.ireturn, 1) := by decide +kernel
theorem dJ6_numberOfTrailingZeros_0f7a4_0 : decode cJ6_numberOfTrailingZeros_0f7a4 0 = .ok (.iload_n 0, 1) := by decide +kernel
theorem dJ6_numberOfTrailingZeros_0f7a4_1 : decode cJ6_numberOfTrailingZeros_0f7a4 1 = .ok (.iconst (-1), 1) := by decide +kernel
theorem dJ6_numberOfTrailingZeros_0f7a4_2 : decode cJ6_numberOfTrailingZeros_0f7a4 2 = .ok (.ixor, 1) := by decide +kernel
theorem dJ6_numberOfTrailingZeros_0f7a4_3 : decode cJ6_numberOfTrailingZeros_0f7a4 3 = .ok (.iload_n 0, 1) := by decide +kernel
theorem dJ6_numberOfTrailingZeros_0f7a4_4 : decode cJ6_numberOfTrailingZeros_0f7a4 4 = .ok (.iconst 1, 1) := by decide +kernel
theorem dJ6_numberOfTrailingZeros_0f7a4_5 : decode cJ6_numberOfTrailingZeros_0f7a4 5 = .ok (.isub, 1) := by decide +kernel
theorem dJ6_numberOfTrailingZeros_0f7a4_6 : decode cJ6_numberOfTrailingZeros_0f7a4 6 = .ok (.iand, 1) := by decide +kernel
theorem dJ6_numberOfTrailingZeros_0f7a4_7 : decode cJ6_numberOfTrailingZeros_0f7a4 7 = .ok (.istore_n 0, 1) := by decide +kernel
theorem dJ6_numberOfTrailingZeros_0f7a4_8 : decode cJ6_numberOfTrailingZeros_0f7a4 8 = .ok (.iload_n 0, 1) := by decide +kernel
theorem dJ6_numberOfTrailingZeros_0f7a4_9 : decode cJ6_numberOfTrailingZeros_0f7a4 9 = .ok (.ifCond .gt 8, 3) := by decide +kernel
theorem dJ6_numberOfTrailingZeros_0f7a4_12 : decode cJ6_numberOfTrailingZeros_0f7a4 12 = .ok (.iload_n 0, 1) := by decide +kernel
theorem dJ6_numberOfTrailingZeros_0f7a4_13 : decode cJ6_numberOfTrailingZeros_0f7a4 13 = .ok (.bipush 32, 2) := by decide +kernel
theorem dJ6_numberOfTrailingZeros_0f7a4_15 : decode cJ6_numberOfTrailingZeros_0f7a4 15 = .ok (.iand, 1) := by decide +kernel
theorem dJ6_numberOfTrailingZeros_0f7a4_16 : decode cJ6_numberOfTrailingZeros_0f7a4 16 = .ok (.ireturn, 1) := by decide +kernel
theorem dJ6_numberOfTrailingZeros_0f7a4_17 : decode cJ6_numberOfTrailingZeros_0f7a4 17 = .ok (.iconst 1, 1) := by decide +kernel
theorem dJ6_numberOfTrailingZeros_0f7a4_18 : decode cJ6_numberOfTrailingZeros_0f7a4 18 = .ok (.istore_n 1, 1) := by decide +kernel
theorem dJ6_numberOfTrailingZeros_0f7a4_19 : decode cJ6_numberOfTrailingZeros_0f7a4 19 = .ok (.iload_n 0, 1) := by decide +kernel
theorem dJ6_numberOfTrailingZeros_0f7a4_20 : decode cJ6_numberOfTrailingZeros_0f7a4 20 = .ok (.ldc_w 264, 3) := by decide +kernel
theorem dJ6_numberOfTrailingZeros_0f7a4_23 : decode cJ6_numberOfTrailingZeros_0f7a4 23 = .ok (.if_icmp .le 11, 3) := by decide +kernel
theorem dJ6_numberOfTrailingZeros_0f7a4_26 : decode cJ6_numberOfTrailingZeros_0f7a4 26 = .ok (.iinc 1 16, 3) := by decide +kernel
theorem dJ6_numberOfTrailingZeros_0f7a4_29 : decode cJ6_numberOfTrailingZeros_0f7a4 29 = .ok (.iload_n 0, 1) := by decide +kernel
theorem dJ6_numberOfTrailingZeros_0f7a4_30 : decode cJ6_numberOfTrailingZeros_0f7a4 30 = .ok (.bipush 16, 2) := by decide +kernel
theorem dJ6_numberOfTrailingZeros_0f7a4_32 : decode cJ6_numberOfTrailingZeros_0f7a4 32 = .ok (.iushr, 1) := by decide +kernel
theorem dJ6_numberOfTrailingZeros_0f7a4_33 : decode cJ6_numberOfTrailingZeros_0f7a4 33 = .ok (.istore_n 0, 1) := by decide +kernel
theorem dJ6_numberOfTrailingZeros_0f7a4_34 : decode cJ6_numberOfTrailingZeros_0f7a4 34 = .ok (.iload_n 0, 1) := by decide +kernel
theorem dJ6_numberOfTrailingZeros_0f7a4_35 : decode cJ6_numberOfTrailingZeros_0f7a4 35 = .ok (.sipush 256, 3) := by decide +kernel
theorem dJ6_numberOfTrailingZeros_0f7a4_38 : decode cJ6_numberOfTrailingZeros_0f7a4 38 = .ok (.if_icmp .le 11, 3) := by decide +kernel
theorem dJ6_numberOfTrailingZeros_0f7a4_41 : decode cJ6_numberOfTrailingZeros_0f7a4 41 = .ok (.iinc 1 8, 3) := by decide +kernel
theorem dJ6_numberOfTrailingZeros_0f7a4_44 : decode cJ6_numberOfTrailingZeros_0f7a4 44 = .ok (.iload_n 0, 1) := by decide +kernel
theorem dJ6_numberOfTrailingZeros_0f7a4_45 : decode cJ6_numberOfTrailingZeros_0f7a4 45 = .ok (.bipush 8, 2) := by decide +kernel
theorem dJ6_numberOfTrailingZeros_0f7a4_47 : decode cJ6_numberOfTrailingZeros_0f7a4 47 = .ok (.iushr, 1) := by decide +kernel
theorem dJ6_numberOfTrailingZeros_0f7a4_48 : decode cJ6_numberOfTrailingZeros_0f7a4 48 = .ok (.istore_n 0, 1) := by decide +kernel
theorem dJ6_numberOfTrailingZeros_0f7a4_49 : decode cJ6_numberOfTrailingZeros_0f7a4 49 = .ok (.iload_n 0, 1) := by decide +kernel
theorem dJ6_numberOfTrailingZeros_0f7a4_50 : decode cJ6_numberOfTrailingZeros_0f7a4 50 = .ok (.bipush 16, 2) := by decide +kernel
theorem dJ6_numberOfTrailingZeros_0f7a4_52 : decode cJ6_numberOfTrailingZeros_0f7a4 52 = .ok (.if_icmp .le 10, 3) := by decide +kernel
theorem dJ6_numberOfTrailingZeros_0f7a4_55 : decode cJ6_numberOfTrailingZeros_0f7a4 55 = .ok (.iinc 1 4, 3) := by decide +kernel
theorem dJ6_numberOfTrailingZeros_0f7a4_58 : decode cJ6_numberOfTrailingZeros_0f7a4 58 = .ok (.iload_n 0, 1) := by decide +kernel
theorem dJ6_numberOfTrailingZeros_0f7a4_59 : decode cJ6_numberOfTrailingZeros_0f7a4 59 = .ok (.iconst 4, 1) := by decide +kernel
theorem dJ6_numberOfTrailingZeros_0f7a4_60 : decode cJ6_numberOfTrailingZeros_0f7a4 60 = .ok (.iushr, 1) := by decide +kernel
theorem dJ6_numberOfTrailingZeros_0f7a4_61 : decode cJ6_numberOfTrailingZeros_0f7a4 61 = .ok (.istore_n 0, 1) := by decide +kernel
theorem dJ6_numberOfTrailingZeros_0f7a4_62 : decode cJ6_numberOfTrailingZeros_0f7a4 62 = .ok (.iload_n 0, 1) := by decide +kernel
theorem dJ6_numberOfTrailingZeros_0f7a4_63 : decode cJ6_numberOfTrailingZeros_0f7a4 63 = .ok (.iconst 4, 1) := by decide +kernel
theorem dJ6_numberOfTrailingZeros_0f7a4_64 : decode cJ6_numberOfTrailingZeros_0f7a4 64 = .ok (.if_icmp .le 10, 3) := by decide +kernel
theorem dJ6_numberOfTrailingZeros_0f7a4_67 : decode cJ6_numberOfTrailingZeros_0f7a4 67 = .ok (.iinc 1 2, 3) := by decide +kernel
theorem dJ6_numberOfTrailingZeros_0f7a4_70 : decode cJ6_numberOfTrailingZeros_0f7a4 70 = .ok (.iload_n 0, 1) := by decide +kernel
theorem dJ6_numberOfTrailingZeros_0f7a4_71 : decode cJ6_numberOfTrailingZeros_0f7a4 71 = .ok (.iconst 2, 1) := by decide +kernel
theorem dJ6_numberOfTrailingZeros_0f7a4_72 : decode cJ6_numberOfTrailingZeros_0f7a4 72 = .ok (.iushr, 1) := by decide +kernel
theorem dJ6_numberOfTrailingZeros_0f7a4_73 : decode cJ6_numberOfTrailingZeros_0f7a4 73 = .ok (.istore_n 0, 1) := by decide +kernel
theorem dJ6_numberOfTrailingZeros_0f7a4_74 : decode cJ6_numberOfTrailingZeros_0f7a4 74 = .ok (.iload_n 1, 1) := by decide +kernel
theorem dJ6_numberOfTrailingZeros_0f7a4_75 : decode cJ6_numberOfTrailingZeros_0f7a4 75 = .ok (.iload_n 0, 1) := by decide +kernel
theorem dJ6_numberOfTrailingZeros_0f7a4_76 : decode cJ6_numberOfTrailingZeros_0f7a4 76 = .ok (.iconst 1, 1) := by decide +kernel
theorem dJ6_numberOfTrailingZeros_0f7a4_77 : decode cJ6_numberOfTrailingZeros_0f7a4 77 = .ok (.iushr, 1) := by decide +kernel
theorem dJ6_numberOfTrailingZeros_0f7a4_78 : decode cJ6_numberOfTrailingZeros_0f7a4 78 = .ok (.iadd, 1) := by decide +kernel
theorem dJ6_numberOfTrailingZeros_0f7a4_79 : decode cJ6_numberOfTrailingZeros_0f7a4 79 = .ok (.ireturn, 1) := by decide +kernel
theorem dJ6_bitCount_0f7a4_0 : decode cJ6_bitCount_0f7a4 0 = .ok (.iload_n 0, 1) := by decide +kernel
theorem dJ6_bitCount_0f7a4_1 : decode cJ6_bitCount_0f7a4 1 = .ok (.iload_n 0, 1) := by decide +kernel
theorem dJ6_bitCount_0f7a4_2 : decode cJ6_bitCount_0f7a4 2 = .ok (.iconst 1, 1) := by decide +kernel
theorem dJ6_bitCount_0f7a4_3 : decode cJ6_bitCount_0f7a4 3 = .ok (.iushr, 1) := by decide +kernel
theorem dJ6_bitCount_0f7a4_4 : decode cJ6_bitCount_0f7a4 4 = .ok (.ldc_w 265, 3) := by decide +kernel
theorem dJ6_bitCount_0f7a4_7 : decode cJ6_bitCount_0f7a4 7 = .ok (.iand, 1) := by decide +kernel
theorem dJ6_bitCount_0f7a4_8 : decode cJ6_bitCount_0f7a4 8 = .ok (.isub, 1) := by decide +kernel
theorem dJ6_bitCount_0f7a4_9 : decode cJ6_bitCount_0f7a4 9 = .ok (.istore_n 0, 1) := by decide +kernel
theorem dJ6_bitCount_0f7a4_10 : decode cJ6_bitCount_0f7a4 10 = .ok (.iload_n 0, 1) := by decide +kernel
theorem dJ6_bitCount_0f7a4_11 : decode cJ6_bitCount_0f7a4 11 = .ok (.ldc_w 266, 3) := by decide +kernel
theorem dJ6_bitCount_0f7a4_14 : decode cJ6_bitCount_0f7a4 14 = .ok (.iand, 1) := by decide +kernel
theorem dJ6_bitCount_0f7a4_15 : decode cJ6_bitCount_0f7a4 15 = .ok (.iload_n 0, 1) := by decide +kernel
theorem dJ6_bitCount_0f7a4_16 : decode cJ6_bitCount_0f7a4 16 = .ok (.iconst 2, 1) := by decide +kernel
theorem dJ6_bitCount_0f7a4_17 : decode cJ6_bitCount_0f7a4 17 = .ok (.iushr, 1) := by decide +kernel
theorem dJ6_bitCount_0f7a4_18 : decode cJ6_bitCount_0f7a4 18 = .ok (.ldc_w 266, 3) := by decide +kernel
theorem dJ6_bitCount_0f7a4_21 : decode cJ6_bitCount_0f7a4 21 = .ok (.iand, 1) := by decide +kernel
theorem dJ6_bitCount_0f7a4_22 : decode cJ6_bitCount_0f7a4 22 = .ok (.iadd, 1) := by decide +kernel
theorem dJ6_bitCount_0f7a4_23 : decode cJ6_bitCount_0f7a4 23 = .ok (.istore_n 0, 1) := by decide +kernel
theorem dJ6_bitCount_0f7a4_24 : decode cJ6_bitCount_0f7a4 24 = .ok (.iload_n 0, 1) := by decide +kernel
theorem dJ6_bitCount_0f7a4_25 : decode cJ6_bitCount_0f7a4 25 = .ok (.iload_n 0, 1) := by decide +kernel
theorem dJ6_bitCount_0f7a4_26 : decode cJ6_bitCount_0f7a4 26 = .ok (.iconst 4, 1) := by decide +kernel
theorem dJ6_bitCount_0f7a4_27 : decode cJ6_bitCount_0f7a4 27 = .ok (.iushr, 1) := by decide +kernel
theorem dJ6_bitCount_0f7a4_28 : decode cJ6_bitCount_0f7a4 28 = .ok (.iadd, 1) := by decide +kernel
theorem dJ6_bitCount_0f7a4_29 : decode cJ6_bitCount_0f7a4 29 = .ok (.ldc_w 267, 3) := by decide +kernel
theorem dJ6_bitCount_0f7a4_32 : decode cJ6_bitCount_0f7a4 32 = .ok (.iand, 1) := by decide +kernel
theorem dJ6_bitCount_0f7a4_33 : decode cJ6_bitCount_0f7a4 33 = .ok (.istore_n 0, 1) := by decide +kernel
theorem dJ6_bitCount_0f7a4_34 : decode cJ6_bitCount_0f7a4 34 = .ok (.iload_n 0, 1) := by decide +kernel
theorem dJ6_bitCount_0f7a4_35 : decode cJ6_bitCount_0f7a4 35 = .ok (.iload_n 0, 1) := by decide +kernel
theorem dJ6_bitCount_0f7a4_36 : decode cJ6_bitCount_0f7a4 36 = .ok (.bipush 8, 2) := by decide +kernel
theorem dJ6_bitCount_0f7a4_38 : decode cJ6_bitCount_0f7a4 38 = .ok (.iushr, 1) := by decide +kernel
theorem dJ6_bitCount_0f7a4_39 : decode cJ6_bitCount_0f7a4 39 = .ok (.iadd, 1) := by decide +kernel
theorem dJ6_bitCount_0f7a4_40 : decode cJ6_bitCount_0f7a4 40 = .ok (.istore_n 0, 1) := by decide +kernel
theorem dJ6_bitCount_0f7a4_41 : decode cJ6_bitCount_0f7a4 41 = .ok (.iload_n 0, 1) := by decide +kernel
theorem dJ6_bitCount_0f7a4_42 : decode cJ6_bitCount_0f7a4 42 = .ok (.iload_n 0, 1) := by decide +kernel
theorem dJ6_bitCount_0f7a4_43 : decode cJ6_bitCount_0f7a4 43 = .ok (.bipush 16, 2) := by decide +kernel
theorem dJ6_bitCount_0f7a4_45 : decode cJ6_bitCount_0f7a4 45 = .ok (.iushr, 1) := by decide +kernel
theorem dJ6_bitCount_0f7a4_46 : decode cJ6_bitCount_0f7a4 46 = .ok (.iadd, 1) := by decide +kernel
theorem dJ6_bitCount_0f7a4_47 : decode cJ6_bitCount_0f7a4 47 = .ok (.istore_n 0, 1) := by decide +kernel
theorem dJ6_bitCount_0f7a4_48 : decode cJ6_bitCount_0f7a4 48 = .ok (.iload_n 0, 1) := by decide +kernel
theorem dJ6_bitCount_0f7a4_49 : decode cJ6_bitCount_0f7a4 49 = .ok (.bipush 63, 2) := by decide +kernel
theorem dJ6_bitCount_0f7a4_51 : decode cJ6_bitCount_0f7a4 51 = .ok (.iand, 1) := by decide +kernel
theorem dJ6_bitCount_0f7a4_52 : decode cJ6_bitCount_0f7a4 52 = .ok (.ireturn, 1) := by decide +kernel
theorem dJ9_max_7cf53_0 : decode cJ9_max_7cf53 0 = .ok (.iload_n 0, 1) := by decide +kernel
theorem dJ9_max_7cf53_1 : decode cJ9_max_7cf53 1 = .ok (.iload_n 1, 1) := by decide +kernel
theorem dJ9_max_7cf53_2 : decode cJ9_max_7cf53 2 = .ok (.if_icmp .lt 7, 3) := by decide +kernel
theorem dJ9_max_7cf53_5 : decode cJ9_max_7cf53 5 = .ok (.iload_n 0, 1) := by decide +kernel
theorem dJ9_max_7cf53_6 : decode cJ9_max_7cf53 6 = .ok (.goto 4, 3) := by decide +kernel
theorem dJ9_max_7cf53_9 : decode cJ9_max_7cf53 9 = .ok (.iload_n 1, 1) := by decide +kernel
theorem dJ9_max_7cf53_10 : decode cJ9_max_7cf53 10 = .ok (.ireturn, 1) := by decide +kernel
end
section
theorem dX1_init_0 : decode cX1_init 0 = .ok (.aload_n 0, 1) := by decide +kernel
theorem dX1_init_1 : decode cX1_init 1 = .ok (.invokespecial 1, 3) := by decide +kernel
theorem dX1_init_4 : decode cX1_init 4 = .ok (.aload_n 0, 1) := by decide +kernel
theorem dX1_init_5 : decode cX1_init 5 = .ok (.bipush 24, 2) := by decide +kernel
theorem dX1_init_7 : decode cX1_init 7 = .ok (.newarray .int, 2) := by decide +kernel
theorem dX1_init_9 : decode cX1_init 9 = .ok (.putfield 7, 3) := by decide +kernel
theorem dX1_init_12 : decode cX1_init 12 = .ok (.aload_n 0, 1) := by decide +kernel
theorem dX1_init_13 : decode cX1_init 13 = .ok (.bipush 24, 2) := by decide +kernel
theorem dX1_init_15 : decode cX1_init 15 = .ok (.newarray .int, 2) := by decide +kernel
theorem dX1_init_17 : decode cX1_init 17 = .ok (.putfield 13, 3) := by decide +kernel
theorem dX1_init_20 : decode cX1_init 20 = .ok (.aload_n 0, 1) := by decide +kernel
theorem dX1_init_21 : decode cX1_init 21 = .ok (.sipush 408, 3) := by decide +kernel
theorem dX1_init_24 : decode cX1_init 24 = .ok (.newarray .int, 2) := by decide +kernel
theorem dX1_init_26 : decode cX1_init 26 = .ok (.putfield 16, 3) := by decide +kernel
theorem dX1_init_29 : decode cX1_init 29 = .ok (.aload_n 0, 1) := by decide +kernel
theorem dX1_init_30 : decode cX1_init 30 = .ok (.bipush 24, 2) := by decide +kernel
theorem dX1_init_32 : decode cX1_init 32 = .ok (.newarray .int, 2) := by decide +kernel
theorem dX1_init_34 : decode cX1_init 34 = .ok (.putfield 19, 3) := by decide +kernel
theorem dX1_init_37 : decode cX1_init 37 = .ok (.aload_n 0, 1) := by decide +kernel
theorem dX1_init_38 : decode cX1_init 38 = .ok (.bipush 24, 2) := by decide +kernel
theorem dX1_init_40 : decode cX1_init 40 = .ok (.newarray .boolean, 2) := by decide +kernel
theorem dX1_init_42 : decode cX1_init 42 = .ok (.putfield 22, 3) := by decide +kernel
theorem dX1_init_45 : decode cX1_init 45 = .ok (.aload_n 0, 1) := by decide +kernel
theorem dX1_init_46 : decode cX1_init 46 = .ok (.bipush 24, 2) := by decide +kernel
theorem dX1_init_48 : decode cX1_init 48 = .ok (.newarray .int, 2) := by decide +kernel
theorem dX1_init_50 : decode cX1_init 50 = .ok (.putfield 26, 3) := by decide +kernel
theorem dX1_init_53 : decode cX1_init 53 = .ok (.aload_n 0, 1) := by decide +kernel
theorem dX1_init_54 : decode cX1_init 54 = .ok (.bipush 24, 2) := by decide +kernel
theorem dX1_init_56 : decode cX1_init 56 = .ok (.newarray .int, 2) := by decide +kernel
theorem dX1_init_58 : decode cX1_init 58 = .ok (.putfield 29, 3) := by decide +kernel
theorem dX1_init_61 : decode cX1_init 61 = .ok (.aload_n 0, 1) := by decide +kernel
theorem dX1_init_62 : decode cX1_init 62 = .ok (.bipush 24, 2) := by decide +kernel
theorem dX1_init_64 : decode cX1_init 64 = .ok (.newarray .int, 2) := by decide +kernel
theorem dX1_init_66 : decode cX1_init 66 = .ok (.putfield 32, 3) := by decide +kernel
theorem dX1_init_69 : decode cX1_init 69 = .ok (.aload_n 0, 1) := by decide +kernel
theorem dX1_init_70 : decode cX1_init 70 = .ok (.iconst 0, 1) := by decide +kernel
theorem dX1_init_71 : decode cX1_init 71 = .ok (.putfield 35, 3) := by decide +kernel
theorem dX1_init_74 : decode cX1_init 74 = .ok (.return_, 1) := by decide +kernel
theorem dX1_within_0 : decode cX1_within 0 = .ok (.iload_n 0, 1) := by decide +kernel
theorem dX1_within_1 : decode cX1_within 1 = .ok (.iload_n 1, 1) := by decide +kernel
theorem dX1_within_2 : decode cX1_within 2 = .ok (.if_icmp .lt 12, 3) := by decide +kernel
theorem dX1_within_5 : decode cX1_within 5 = .ok (.iload_n 0, 1) := by decide +kernel
theorem dX1_within_6 : decode cX1_within 6 = .ok (.iload_n 2, 1) := by decide +kernel
theorem dX1_within_7 : decode cX1_within 7 = .ok (.if_icmp .gt 7, 3) := by decide +kernel
theorem dX1_within_10 : decode cX1_within 10 = .ok (.iconst 1, 1) := by decide +kernel
theorem dX1_within_11 : decode cX1_within 11 = .ok (.goto 4, 3) := by decide +kernel
theorem dX1_within_14 : decode cX1_within 14 = .ok (.iconst 0, 1) := by decide +kernel
theorem dX1_within_15 : decode cX1_within 15 = .ok (.ireturn, 1) := by decide +kernel
theorem dX1_isNode_0 : decode cX1_isNode 0 = .ok (.iload_n 1, 1) := by decide +kernel
theorem dX1_isNode_1 : decode cX1_isNode 1 = .ok (.iconst 0, 1) := by decide +kernel
theorem dX1_isNode_2 : decode cX1_isNode 2 = .ok (.aload_n 0, 1) := by decide +kernel
theorem dX1_isNode_3 : decode cX1_isNode 3 = .ok (.getfield 35, 3) := by decide +kernel
theorem dX1_isNode_6 : decode cX1_isNode 6 = .ok (.iconst 1, 1) := by decide +kernel
theorem dX1_isNode_7 : decode cX1_isNode 7 = .ok (.isub, 1) := by decide +kernel
theorem dX1_isNode_8 : decode cX1_isNode 8 = .ok (.invokestatic 39, 3) := by decide +kernel
theorem dX1_isNode_11 : decode cX1_isNode 11 = .ok (.ireturn, 1) := by decide +kernel
theorem dX1_colourOf_0 : decode cX1_colourOf 0 = .ok (.aload_n 0, 1) := by decide +kernel
theorem dX1_colourOf_1 : decode cX1_colourOf 1 = .ok (.getfield 16, 3) := by decide +kernel
theorem dX1_colourOf_4 : decode cX1_colourOf 4 = .ok (.bipush 24, 2) := by decide +kernel
theorem dX1_colourOf_6 : decode cX1_colourOf 6 = .ok (.aload_n 0, 1) := by decide +kernel
theorem dX1_colourOf_7 : decode cX1_colourOf 7 = .ok (.getfield 43, 3) := by decide +kernel
theorem dX1_colourOf_10 : decode cX1_colourOf 10 = .ok (.bipush 17, 2) := by decide +kernel
theorem dX1_colourOf_12 : decode cX1_colourOf 12 = .ok (.irem, 1) := by decide +kernel
theorem dX1_colourOf_13 : decode cX1_colourOf 13 = .ok (.imul, 1) := by decide +kernel
theorem dX1_colourOf_14 : decode cX1_colourOf 14 = .ok (.iload_n 1, 1) := by decide +kernel
theorem dX1_colourOf_15 : decode cX1_colourOf 15 = .ok (.iadd, 1) := by decide +kernel
theorem dX1_colourOf_16 : decode cX1_colourOf 16 = .ok (.iaload, 1) := by decide +kernel
theorem dX1_colourOf_17 : decode cX1_colourOf 17 = .ok (.ireturn, 1) := by decide +kernel
theorem dX1_paints_0 : decode cX1_paints 0 = .ok (.aload_n 0, 1) := by decide +kernel
theorem dX1_paints_1 : decode cX1_paints 1 = .ok (.getfield 16, 3) := by decide +kernel
theorem dX1_paints_4 : decode cX1_paints 4 = .ok (.bipush 24, 2) := by decide +kernel
theorem dX1_paints_6 : decode cX1_paints 6 = .ok (.aload_n 0, 1) := by decide +kernel
theorem dX1_paints_7 : decode cX1_paints 7 = .ok (.getfield 43, 3) := by decide +kernel
theorem dX1_paints_10 : decode cX1_paints 10 = .ok (.bipush 17, 2) := by decide +kernel
theorem dX1_paints_12 : decode cX1_paints 12 = .ok (.irem, 1) := by decide +kernel
theorem dX1_paints_13 : decode cX1_paints 13 = .ok (.imul, 1) := by decide +kernel
theorem dX1_paints_14 : decode cX1_paints 14 = .ok (.iload_n 1, 1) := by decide +kernel
theorem dX1_paints_15 : decode cX1_paints 15 = .ok (.iadd, 1) := by decide +kernel
theorem dX1_paints_16 : decode cX1_paints 16 = .ok (.iload_n 2, 1) := by decide +kernel
theorem dX1_paints_17 : decode cX1_paints 17 = .ok (.iastore, 1) := by decide +kernel
theorem dX1_paints_18 : decode cX1_paints 18 = .ok (.return_, 1) := by decide +kernel
theorem dX1_startsCount_0 : decode cX1_startsCount 0 = .ok (.iconst 0, 1) := by decide +kernel
theorem dX1_startsCount_1 : decode cX1_startsCount 1 = .ok (.istore_n 1, 1) := by decide +kernel
theorem dX1_startsCount_2 : decode cX1_startsCount 2 = .ok (.iload_n 1, 1) := by decide +kernel
theorem dX1_startsCount_3 : decode cX1_startsCount 3 = .ok (.bipush 24, 2) := by decide +kernel
theorem dX1_startsCount_5 : decode cX1_startsCount 5 = .ok (.if_icmp .ge 20, 3) := by decide +kernel
theorem dX1_startsCount_8 : decode cX1_startsCount 8 = .ok (.aload_n 0, 1) := by decide +kernel
theorem dX1_startsCount_9 : decode cX1_startsCount 9 = .ok (.getfield 16, 3) := by decide +kernel
theorem dX1_startsCount_12 : decode cX1_startsCount 12 = .ok (.iload_n 1, 1) := by decide +kernel
theorem dX1_startsCount_13 : decode cX1_startsCount 13 = .ok (.aload_n 0, 1) := by decide +kernel
theorem dX1_startsCount_14 : decode cX1_startsCount 14 = .ok (.iload_n 1, 1) := by decide +kernel
theorem dX1_startsCount_15 : decode cX1_startsCount 15 = .ok (.invokevirtual 46, 3) := by decide +kernel
theorem dX1_startsCount_18 : decode cX1_startsCount 18 = .ok (.iastore, 1) := by decide +kernel
theorem dX1_startsCount_19 : decode cX1_startsCount 19 = .ok (.iinc 1 1, 3) := by decide +kernel
theorem dX1_startsCount_22 : decode cX1_startsCount 22 = .ok (.goto (-20), 3) := by decide +kernel
theorem dX1_startsCount_25 : decode cX1_startsCount 25 = .ok (.aload_n 0, 1) := by decide +kernel
theorem dX1_startsCount_26 : decode cX1_startsCount 26 = .ok (.iconst 0, 1) := by decide +kernel
theorem dX1_startsCount_27 : decode cX1_startsCount 27 = .ok (.putfield 43, 3) := by decide +kernel
theorem dX1_startsCount_30 : decode cX1_startsCount 30 = .ok (.return_, 1) := by decide +kernel
theorem dX1_addNode_0 : decode cX1_addNode 0 = .ok (.iload_n 1, 1) := by decide +kernel
theorem dX1_addNode_1 : decode cX1_addNode 1 = .ok (.iconst 0, 1) := by decide +kernel
theorem dX1_addNode_2 : decode cX1_addNode 2 = .ok (.ldc 50, 2) := by decide +kernel
theorem dX1_addNode_4 : decode cX1_addNode 4 = .ok (.invokestatic 39, 3) := by decide +kernel
theorem dX1_addNode_7 : decode cX1_addNode 7 = .ok (.ifCond .ne 6, 3) := by decide +kernel
theorem dX1_addNode_10 : decode cX1_addNode 10 = .ok (.bipush (-2), 2) := by decide +kernel
theorem dX1_addNode_12 : decode cX1_addNode 12 = .ok (.ireturn, 1) := by decide +kernel
theorem dX1_addNode_13 : decode cX1_addNode 13 = .ok (.iconst 0, 1) := by decide +kernel
theorem dX1_addNode_14 : decode cX1_addNode 14 = .ok (.istore_n 2, 1) := by decide +kernel
theorem dX1_addNode_15 : decode cX1_addNode 15 = .ok (.iload_n 2, 1) := by decide +kernel
theorem dX1_addNode_16 : decode cX1_addNode 16 = .ok (.aload_n 0, 1) := by decide +kernel
theorem dX1_addNode_17 : decode cX1_addNode 17 = .ok (.getfield 35, 3) := by decide +kernel
theorem dX1_addNode_20 : decode cX1_addNode 20 = .ok (.if_icmp .ge 22, 3) := by decide +kernel
theorem dX1_addNode_23 : decode cX1_addNode 23 = .ok (.aload_n 0, 1) := by decide +kernel
theorem dX1_addNode_24 : decode cX1_addNode 24 = .ok (.getfield 7, 3) := by decide +kernel
theorem dX1_addNode_27 : decode cX1_addNode 27 = .ok (.iload_n 2, 1) := by decide +kernel
theorem dX1_addNode_28 : decode cX1_addNode 28 = .ok (.iaload, 1) := by decide +kernel
theorem dX1_addNode_29 : decode cX1_addNode 29 = .ok (.iload_n 1, 1) := by decide +kernel
theorem dX1_addNode_30 : decode cX1_addNode 30 = .ok (.if_icmp .ne 6, 3) := by decide +kernel
theorem dX1_addNode_33 : decode cX1_addNode 33 = .ok (.bipush (-3), 2) := by decide +kernel
theorem dX1_addNode_35 : decode cX1_addNode 35 = .ok (.ireturn, 1) := by decide +kernel
theorem dX1_addNode_36 : decode cX1_addNode 36 = .ok (.iinc 2 1, 3) := by decide +kernel
theorem dX1_addNode_39 : decode cX1_addNode 39 = .ok (.goto (-24), 3) := by decide +kernel
theorem dX1_addNode_42 : decode cX1_addNode 42 = .ok (.aload_n 0, 1) := by decide +kernel
theorem dX1_addNode_43 : decode cX1_addNode 43 = .ok (.getfield 35, 3) := by decide +kernel
theorem dX1_addNode_46 : decode cX1_addNode 46 = .ok (.bipush 24, 2) := by decide +kernel
theorem dX1_addNode_48 : decode cX1_addNode 48 = .ok (.if_icmp .ne 6, 3) := by decide +kernel
theorem dX1_addNode_51 : decode cX1_addNode 51 = .ok (.bipush (-4), 2) := by decide +kernel
theorem dX1_addNode_53 : decode cX1_addNode 53 = .ok (.ireturn, 1) := by decide +kernel
theorem dX1_addNode_54 : decode cX1_addNode 54 = .ok (.aload_n 0, 1) := by decide +kernel
theorem dX1_addNode_55 : decode cX1_addNode 55 = .ok (.invokevirtual 51, 3) := by decide +kernel
theorem dX1_addNode_58 : decode cX1_addNode 58 = .ok (.aload_n 0, 1) := by decide +kernel
theorem dX1_addNode_59 : decode cX1_addNode 59 = .ok (.getfield 7, 3) := by decide +kernel
theorem dX1_addNode_62 : decode cX1_addNode 62 = .ok (.aload_n 0, 1) := by decide +kernel
theorem dX1_addNode_63 : decode cX1_addNode 63 = .ok (.getfield 35, 3) := by decide +kernel
theorem dX1_addNode_66 : decode cX1_addNode 66 = .ok (.iload_n 1, 1) := by decide +kernel
theorem dX1_addNode_67 : decode cX1_addNode 67 = .ok (.iastore, 1) := by decide +kernel
theorem dX1_addNode_68 : decode cX1_addNode 68 = .ok (.aload_n 0, 1) := by decide +kernel
theorem dX1_addNode_69 : decode cX1_addNode 69 = .ok (.getfield 13, 3) := by decide +kernel
theorem dX1_addNode_72 : decode cX1_addNode 72 = .ok (.aload_n 0, 1) := by decide +kernel
theorem dX1_addNode_73 : decode cX1_addNode 73 = .ok (.getfield 35, 3) := by decide +kernel
theorem dX1_addNode_76 : decode cX1_addNode 76 = .ok (.bipush (-7), 2) := by decide +kernel
theorem dX1_addNode_78 : decode cX1_addNode 78 = .ok (.iastore, 1) := by decide +kernel
theorem dX1_addNode_79 : decode cX1_addNode 79 = .ok (.aload_n 0, 1) := by decide +kernel
theorem dX1_addNode_80 : decode cX1_addNode 80 = .ok (.aload_n 0, 1) := by decide +kernel
theorem dX1_addNode_81 : decode cX1_addNode 81 = .ok (.getfield 35, 3) := by decide +kernel
theorem dX1_addNode_84 : decode cX1_addNode 84 = .ok (.iload_n 1, 1) := by decide +kernel
theorem dX1_addNode_85 : decode cX1_addNode 85 = .ok (.invokevirtual 54, 3) := by decide +kernel
theorem dX1_addNode_88 : decode cX1_addNode 88 = .ok (.aload_n 0, 1) := by decide +kernel
theorem dX1_addNode_89 : decode cX1_addNode 89 = .ok (.dup, 1) := by decide +kernel
theorem dX1_addNode_90 : decode cX1_addNode 90 = .ok (.getfield 35, 3) := by decide +kernel
theorem dX1_addNode_93 : decode cX1_addNode 93 = .ok (.iconst 1, 1) := by decide +kernel
theorem dX1_addNode_94 : decode cX1_addNode 94 = .ok (.iadd, 1) := by decide +kernel
theorem dX1_addNode_95 : decode cX1_addNode 95 = .ok (.putfield 35, 3) := by decide +kernel
theorem dX1_addNode_98 : decode cX1_addNode 98 = .ok (.aload_n 0, 1) := by decide +kernel
theorem dX1_addNode_99 : decode cX1_addNode 99 = .ok (.getfield 35, 3) := by decide +kernel
theorem dX1_addNode_102 : decode cX1_addNode 102 = .ok (.iconst 1, 1) := by decide +kernel
theorem dX1_addNode_103 : decode cX1_addNode 103 = .ok (.isub, 1) := by decide +kernel
theorem dX1_addNode_104 : decode cX1_addNode 104 = .ok (.ireturn, 1) := by decide +kernel
theorem dX1_changesParent_0 : decode cX1_changesParent 0 = .ok (.aload_n 0, 1) := by decide +kernel
theorem dX1_changesParent_1 : decode cX1_changesParent 1 = .ok (.getfield 13, 3) := by decide +kernel
theorem dX1_changesParent_4 : decode cX1_changesParent 4 = .ok (.iload_n 1, 1) := by decide +kernel
theorem dX1_changesParent_5 : decode cX1_changesParent 5 = .ok (.iaload, 1) := by decide +kernel
theorem dX1_changesParent_6 : decode cX1_changesParent 6 = .ok (.istore_n 3, 1) := by decide +kernel
theorem dX1_changesParent_7 : decode cX1_changesParent 7 = .ok (.aload_n 0, 1) := by decide +kernel
theorem dX1_changesParent_8 : decode cX1_changesParent 8 = .ok (.invokevirtual 51, 3) := by decide +kernel
theorem dX1_changesParent_11 : decode cX1_changesParent 11 = .ok (.aload_n 0, 1) := by decide +kernel
theorem dX1_changesParent_12 : decode cX1_changesParent 12 = .ok (.getfield 13, 3) := by decide +kernel
theorem dX1_changesParent_15 : decode cX1_changesParent 15 = .ok (.iload_n 1, 1) := by decide +kernel
theorem dX1_changesParent_16 : decode cX1_changesParent 16 = .ok (.iload_n 2, 1) := by decide +kernel
theorem dX1_changesParent_17 : decode cX1_changesParent 17 = .ok (.iastore, 1) := by decide +kernel
theorem dX1_changesParent_18 : decode cX1_changesParent 18 = .ok (.iload_n 3, 1) := by decide +kernel
theorem dX1_changesParent_19 : decode cX1_changesParent 19 = .ok (.ireturn, 1) := by decide +kernel
theorem dX1_setParent_0 : decode cX1_setParent 0 = .ok (.aload_n 0, 1) := by decide +kernel
theorem dX1_setParent_1 : decode cX1_setParent 1 = .ok (.iload_n 1, 1) := by decide +kernel
theorem dX1_setParent_2 : decode cX1_setParent 2 = .ok (.invokevirtual 58, 3) := by decide +kernel
theorem dX1_setParent_5 : decode cX1_setParent 5 = .ok (.ifCond .eq 11, 3) := by decide +kernel
theorem dX1_setParent_8 : decode cX1_setParent 8 = .ok (.aload_n 0, 1) := by decide +kernel
theorem dX1_setParent_9 : decode cX1_setParent 9 = .ok (.iload_n 2, 1) := by decide +kernel
theorem dX1_setParent_10 : decode cX1_setParent 10 = .ok (.invokevirtual 58, 3) := by decide +kernel
theorem dX1_setParent_13 : decode cX1_setParent 13 = .ok (.ifCond .ne 5, 3) := by decide +kernel
theorem dX1_setParent_16 : decode cX1_setParent 16 = .ok (.iconst (-1), 1) := by decide +kernel
theorem dX1_setParent_17 : decode cX1_setParent 17 = .ok (.ireturn, 1) := by decide +kernel
theorem dX1_setParent_18 : decode cX1_setParent 18 = .ok (.iload_n 1, 1) := by decide +kernel
theorem dX1_setParent_19 : decode cX1_setParent 19 = .ok (.iload_n 2, 1) := by decide +kernel
theorem dX1_setParent_20 : decode cX1_setParent 20 = .ok (.if_icmp .ne 8, 3) := by decide +kernel
theorem dX1_setParent_23 : decode cX1_setParent 23 = .ok (.bipush (-2), 2) := by decide +kernel
theorem dX1_setParent_25 : decode cX1_setParent 25 = .ok (.goto 9, 3) := by decide +kernel
theorem dX1_setParent_28 : decode cX1_setParent 28 = .ok (.aload_n 0, 1) := by decide +kernel
theorem dX1_setParent_29 : decode cX1_setParent 29 = .ok (.iload_n 1, 1) := by decide +kernel
theorem dX1_setParent_30 : decode cX1_setParent 30 = .ok (.iload_n 2, 1) := by decide +kernel
theorem dX1_setParent_31 : decode cX1_setParent 31 = .ok (.invokevirtual 62, 3) := by decide +kernel
theorem dX1_setParent_34 : decode cX1_setParent 34 = .ok (.ireturn, 1) := by decide +kernel
theorem dX1_removeParent_0 : decode cX1_removeParent 0 = .ok (.aload_n 0, 1) := by decide +kernel
theorem dX1_removeParent_1 : decode cX1_removeParent 1 = .ok (.iload_n 1, 1) := by decide +kernel
theorem dX1_removeParent_2 : decode cX1_removeParent 2 = .ok (.invokevirtual 58, 3) := by decide +kernel
theorem dX1_removeParent_5 : decode cX1_removeParent 5 = .ok (.ifCond .eq 13, 3) := by decide +kernel
theorem dX1_removeParent_8 : decode cX1_removeParent 8 = .ok (.aload_n 0, 1) := by decide +kernel
theorem dX1_removeParent_9 : decode cX1_removeParent 9 = .ok (.iload_n 1, 1) := by decide +kernel
theorem dX1_removeParent_10 : decode cX1_removeParent 10 = .ok (.bipush (-7), 2) := by decide +kernel
theorem dX1_removeParent_12 : decode cX1_removeParent 12 = .ok (.invokevirtual 62, 3) := by decide +kernel
theorem dX1_removeParent_15 : decode cX1_removeParent 15 = .ok (.goto 4, 3) := by decide +kernel
theorem dX1_removeParent_18 : decode cX1_removeParent 18 = .ok (.iconst (-1), 1) := by decide +kernel
theorem dX1_removeParent_19 : decode cX1_removeParent 19 = .ok (.ireturn, 1) := by decide +kernel
theorem dX1_parent_0 : decode cX1_parent 0 = .ok (.aload_n 0, 1) := by decide +kernel
theorem dX1_parent_1 : decode cX1_parent 1 = .ok (.iload_n 1, 1) := by decide +kernel
theorem dX1_parent_2 : decode cX1_parent 2 = .ok (.invokevirtual 58, 3) := by decide +kernel
theorem dX1_parent_5 : decode cX1_parent 5 = .ok (.ifCond .eq 12, 3) := by decide +kernel
theorem dX1_parent_8 : decode cX1_parent 8 = .ok (.aload_n 0, 1) := by decide +kernel
theorem dX1_parent_9 : decode cX1_parent 9 = .ok (.getfield 13, 3) := by decide +kernel
theorem dX1_parent_12 : decode cX1_parent 12 = .ok (.iload_n 1, 1) := by decide +kernel
theorem dX1_parent_13 : decode cX1_parent 13 = .ok (.iaload, 1) := by decide +kernel
theorem dX1_parent_14 : decode cX1_parent 14 = .ok (.goto 4, 3) := by decide +kernel
theorem dX1_parent_17 : decode cX1_parent 17 = .ok (.iconst (-1), 1) := by decide +kernel
theorem dX1_parent_18 : decode cX1_parent 18 = .ok (.ireturn, 1) := by decide +kernel
theorem dX1_areNeighbours_0 : decode cX1_areNeighbours 0 = .ok (.iload_n 1, 1) := by decide +kernel
theorem dX1_areNeighbours_1 : decode cX1_areNeighbours 1 = .ok (.iload_n 2, 1) := by decide +kernel
theorem dX1_areNeighbours_2 : decode cX1_areNeighbours 2 = .ok (.if_icmp .eq 27, 3) := by decide +kernel
theorem dX1_areNeighbours_5 : decode cX1_areNeighbours 5 = .ok (.aload_n 0, 1) := by decide +kernel
theorem dX1_areNeighbours_6 : decode cX1_areNeighbours 6 = .ok (.getfield 13, 3) := by decide +kernel
theorem dX1_areNeighbours_9 : decode cX1_areNeighbours 9 = .ok (.iload_n 1, 1) := by decide +kernel
theorem dX1_areNeighbours_10 : decode cX1_areNeighbours 10 = .ok (.iaload, 1) := by decide +kernel
theorem dX1_areNeighbours_11 : decode cX1_areNeighbours 11 = .ok (.iload_n 2, 1) := by decide +kernel
theorem dX1_areNeighbours_12 : decode cX1_areNeighbours 12 = .ok (.if_icmp .eq 13, 3) := by decide +kernel
theorem dX1_areNeighbours_15 : decode cX1_areNeighbours 15 = .ok (.aload_n 0, 1) := by decide +kernel
theorem dX1_areNeighbours_16 : decode cX1_areNeighbours 16 = .ok (.getfield 13, 3) := by decide +kernel
theorem dX1_areNeighbours_19 : decode cX1_areNeighbours 19 = .ok (.iload_n 2, 1) := by decide +kernel
theorem dX1_areNeighbours_20 : decode cX1_areNeighbours 20 = .ok (.iaload, 1) := by decide +kernel
theorem dX1_areNeighbours_21 : decode cX1_areNeighbours 21 = .ok (.iload_n 1, 1) := by decide +kernel
theorem dX1_areNeighbours_22 : decode cX1_areNeighbours 22 = .ok (.if_icmp .ne 7, 3) := by decide +kernel
theorem dX1_areNeighbours_25 : decode cX1_areNeighbours 25 = .ok (.iconst 1, 1) := by decide +kernel
theorem dX1_areNeighbours_26 : decode cX1_areNeighbours 26 = .ok (.goto 4, 3) := by decide +kernel
theorem dX1_areNeighbours_29 : decode cX1_areNeighbours 29 = .ok (.iconst 0, 1) := by decide +kernel
theorem dX1_areNeighbours_30 : decode cX1_areNeighbours 30 = .ok (.ireturn, 1) := by decide +kernel
theorem dX1_degree_0 : decode cX1_degree 0 = .ok (.aload_n 0, 1) := by decide +kernel
theorem dX1_degree_1 : decode cX1_degree 1 = .ok (.iload_n 1, 1) := by decide +kernel
theorem dX1_degree_2 : decode cX1_degree 2 = .ok (.invokevirtual 58, 3) := by decide +kernel
theorem dX1_degree_5 : decode cX1_degree 5 = .ok (.ifCond .ne 5, 3) := by decide +kernel
theorem dX1_degree_8 : decode cX1_degree 8 = .ok (.iconst (-1), 1) := by decide +kernel
theorem dX1_degree_9 : decode cX1_degree 9 = .ok (.ireturn, 1) := by decide +kernel
theorem dX1_degree_10 : decode cX1_degree 10 = .ok (.iconst 0, 1) := by decide +kernel
theorem dX1_degree_11 : decode cX1_degree 11 = .ok (.istore_n 2, 1) := by decide +kernel
theorem dX1_degree_12 : decode cX1_degree 12 = .ok (.iconst 0, 1) := by decide +kernel
theorem dX1_degree_13 : decode cX1_degree 13 = .ok (.istore_n 3, 1) := by decide +kernel
theorem dX1_degree_14 : decode cX1_degree 14 = .ok (.iload_n 3, 1) := by decide +kernel
theorem dX1_degree_15 : decode cX1_degree 15 = .ok (.aload_n 0, 1) := by decide +kernel
theorem dX1_degree_16 : decode cX1_degree 16 = .ok (.getfield 35, 3) := by decide +kernel
theorem dX1_degree_19 : decode cX1_degree 19 = .ok (.if_icmp .ge 26, 3) := by decide +kernel
theorem dX1_degree_22 : decode cX1_degree 22 = .ok (.iload_n 2, 1) := by decide +kernel
theorem dX1_degree_23 : decode cX1_degree 23 = .ok (.aload_n 0, 1) := by decide +kernel
theorem dX1_degree_24 : decode cX1_degree 24 = .ok (.iload_n 1, 1) := by decide +kernel
theorem dX1_degree_25 : decode cX1_degree 25 = .ok (.iload_n 3, 1) := by decide +kernel
theorem dX1_degree_26 : decode cX1_degree 26 = .ok (.invokevirtual 66, 3) := by decide +kernel
theorem dX1_degree_29 : decode cX1_degree 29 = .ok (.ifCond .eq 7, 3) := by decide +kernel
theorem dX1_degree_32 : decode cX1_degree 32 = .ok (.iconst 1, 1) := by decide +kernel
theorem dX1_degree_33 : decode cX1_degree 33 = .ok (.goto 4, 3) := by decide +kernel
theorem dX1_degree_36 : decode cX1_degree 36 = .ok (.iconst 0, 1) := by decide +kernel
theorem dX1_degree_37 : decode cX1_degree 37 = .ok (.iadd, 1) := by decide +kernel
theorem dX1_degree_38 : decode cX1_degree 38 = .ok (.istore_n 2, 1) := by decide +kernel
theorem dX1_degree_39 : decode cX1_degree 39 = .ok (.iinc 3 1, 3) := by decide +kernel
theorem dX1_degree_42 : decode cX1_degree 42 = .ok (.goto (-28), 3) := by decide +kernel
theorem dX1_degree_45 : decode cX1_degree 45 = .ok (.iload_n 2, 1) := by decide +kernel
theorem dX1_degree_46 : decode cX1_degree 46 = .ok (.ireturn, 1) := by decide +kernel
theorem dX1_stepsFrom_0 : decode cX1_stepsFrom 0 = .ok (.iconst 0, 1) := by decide +kernel
theorem dX1_stepsFrom_1 : decode cX1_stepsFrom 1 = .ok (.istore_n 2, 1) := by decide +kernel
theorem dX1_stepsFrom_2 : decode cX1_stepsFrom 2 = .ok (.iload_n 1, 1) := by decide +kernel
theorem dX1_stepsFrom_3 : decode cX1_stepsFrom 3 = .ok (.istore_n 3, 1) := by decide +kernel
theorem dX1_stepsFrom_4 : decode cX1_stepsFrom 4 = .ok (.aload_n 0, 1) := by decide +kernel
theorem dX1_stepsFrom_5 : decode cX1_stepsFrom 5 = .ok (.getfield 13, 3) := by decide +kernel
theorem dX1_stepsFrom_8 : decode cX1_stepsFrom 8 = .ok (.iload_n 3, 1) := by decide +kernel
theorem dX1_stepsFrom_9 : decode cX1_stepsFrom 9 = .ok (.iaload, 1) := by decide +kernel
theorem dX1_stepsFrom_10 : decode cX1_stepsFrom 10 = .ok (.bipush (-7), 2) := by decide +kernel
theorem dX1_stepsFrom_12 : decode cX1_stepsFrom 12 = .ok (.if_icmp .eq 24, 3) := by decide +kernel
theorem dX1_stepsFrom_15 : decode cX1_stepsFrom 15 = .ok (.iload_n 2, 1) := by decide +kernel
theorem dX1_stepsFrom_16 : decode cX1_stepsFrom 16 = .ok (.aload_n 0, 1) := by decide +kernel
theorem dX1_stepsFrom_17 : decode cX1_stepsFrom 17 = .ok (.getfield 35, 3) := by decide +kernel
theorem dX1_stepsFrom_20 : decode cX1_stepsFrom 20 = .ok (.if_icmp .gt 16, 3) := by decide +kernel
theorem dX1_stepsFrom_23 : decode cX1_stepsFrom 23 = .ok (.aload_n 0, 1) := by decide +kernel
theorem dX1_stepsFrom_24 : decode cX1_stepsFrom 24 = .ok (.getfield 13, 3) := by decide +kernel
theorem dX1_stepsFrom_27 : decode cX1_stepsFrom 27 = .ok (.iload_n 3, 1) := by decide +kernel
theorem dX1_stepsFrom_28 : decode cX1_stepsFrom 28 = .ok (.iaload, 1) := by decide +kernel
theorem dX1_stepsFrom_29 : decode cX1_stepsFrom 29 = .ok (.istore_n 3, 1) := by decide +kernel
theorem dX1_stepsFrom_30 : decode cX1_stepsFrom 30 = .ok (.iinc 2 1, 3) := by decide +kernel
theorem dX1_stepsFrom_33 : decode cX1_stepsFrom 33 = .ok (.goto (-29), 3) := by decide +kernel
theorem dX1_stepsFrom_36 : decode cX1_stepsFrom 36 = .ok (.iload_n 2, 1) := by decide +kernel
theorem dX1_stepsFrom_37 : decode cX1_stepsFrom 37 = .ok (.aload_n 0, 1) := by decide +kernel
theorem dX1_stepsFrom_38 : decode cX1_stepsFrom 38 = .ok (.getfield 35, 3) := by decide +kernel
theorem dX1_stepsFrom_41 : decode cX1_stepsFrom 41 = .ok (.if_icmp .le 8, 3) := by decide +kernel
theorem dX1_stepsFrom_44 : decode cX1_stepsFrom 44 = .ok (.bipush (-7), 2) := by decide +kernel
theorem dX1_stepsFrom_46 : decode cX1_stepsFrom 46 = .ok (.goto 4, 3) := by decide +kernel
theorem dX1_stepsFrom_49 : decode cX1_stepsFrom 49 = .ok (.iload_n 2, 1) := by decide +kernel
theorem dX1_stepsFrom_50 : decode cX1_stepsFrom 50 = .ok (.ireturn, 1) := by decide +kernel
theorem dX1_depth_0 : decode cX1_depth 0 = .ok (.aload_n 0, 1) := by decide +kernel
theorem dX1_depth_1 : decode cX1_depth 1 = .ok (.iload_n 1, 1) := by decide +kernel
theorem dX1_depth_2 : decode cX1_depth 2 = .ok (.invokevirtual 58, 3) := by decide +kernel
theorem dX1_depth_5 : decode cX1_depth 5 = .ok (.ifCond .eq 11, 3) := by decide +kernel
theorem dX1_depth_8 : decode cX1_depth 8 = .ok (.aload_n 0, 1) := by decide +kernel
theorem dX1_depth_9 : decode cX1_depth 9 = .ok (.iload_n 1, 1) := by decide +kernel
theorem dX1_depth_10 : decode cX1_depth 10 = .ok (.invokevirtual 70, 3) := by decide +kernel
theorem dX1_depth_13 : decode cX1_depth 13 = .ok (.goto 4, 3) := by decide +kernel
theorem dX1_depth_16 : decode cX1_depth 16 = .ok (.iconst (-1), 1) := by decide +kernel
theorem dX1_depth_17 : decode cX1_depth 17 = .ok (.ireturn, 1) := by decide +kernel
theorem dX1_cycleOf_0 : decode cX1_cycleOf 0 = .ok (.aload_n 0, 1) := by decide +kernel
theorem dX1_cycleOf_1 : decode cX1_cycleOf 1 = .ok (.getfield 13, 3) := by decide +kernel
theorem dX1_cycleOf_4 : decode cX1_cycleOf 4 = .ok (.iload_n 1, 1) := by decide +kernel
theorem dX1_cycleOf_5 : decode cX1_cycleOf 5 = .ok (.iaload, 1) := by decide +kernel
theorem dX1_cycleOf_6 : decode cX1_cycleOf 6 = .ok (.istore_n 2, 1) := by decide +kernel
theorem dX1_cycleOf_7 : decode cX1_cycleOf 7 = .ok (.iconst 1, 1) := by decide +kernel
theorem dX1_cycleOf_8 : decode cX1_cycleOf 8 = .ok (.istore_n 3, 1) := by decide +kernel
theorem dX1_cycleOf_9 : decode cX1_cycleOf 9 = .ok (.iload_n 3, 1) := by decide +kernel
theorem dX1_cycleOf_10 : decode cX1_cycleOf 10 = .ok (.aload_n 0, 1) := by decide +kernel
theorem dX1_cycleOf_11 : decode cX1_cycleOf 11 = .ok (.getfield 35, 3) := by decide +kernel
theorem dX1_cycleOf_14 : decode cX1_cycleOf 14 = .ok (.if_icmp .gt 29, 3) := by decide +kernel
theorem dX1_cycleOf_17 : decode cX1_cycleOf 17 = .ok (.iload_n 2, 1) := by decide +kernel
theorem dX1_cycleOf_18 : decode cX1_cycleOf 18 = .ok (.bipush (-7), 2) := by decide +kernel
theorem dX1_cycleOf_20 : decode cX1_cycleOf 20 = .ok (.if_icmp .eq 23, 3) := by decide +kernel
theorem dX1_cycleOf_23 : decode cX1_cycleOf 23 = .ok (.iload_n 2, 1) := by decide +kernel
theorem dX1_cycleOf_24 : decode cX1_cycleOf 24 = .ok (.iload_n 1, 1) := by decide +kernel
theorem dX1_cycleOf_25 : decode cX1_cycleOf 25 = .ok (.if_icmp .ne 5, 3) := by decide +kernel
theorem dX1_cycleOf_28 : decode cX1_cycleOf 28 = .ok (.iload_n 3, 1) := by decide +kernel
theorem dX1_cycleOf_29 : decode cX1_cycleOf 29 = .ok (.ireturn, 1) := by decide +kernel
theorem dX1_cycleOf_30 : decode cX1_cycleOf 30 = .ok (.aload_n 0, 1) := by decide +kernel
theorem dX1_cycleOf_31 : decode cX1_cycleOf 31 = .ok (.getfield 13, 3) := by decide +kernel
theorem dX1_cycleOf_34 : decode cX1_cycleOf 34 = .ok (.iload_n 2, 1) := by decide +kernel
theorem dX1_cycleOf_35 : decode cX1_cycleOf 35 = .ok (.iaload, 1) := by decide +kernel
theorem dX1_cycleOf_36 : decode cX1_cycleOf 36 = .ok (.istore_n 2, 1) := by decide +kernel
theorem dX1_cycleOf_37 : decode cX1_cycleOf 37 = .ok (.iinc 3 1, 3) := by decide +kernel
theorem dX1_cycleOf_40 : decode cX1_cycleOf 40 = .ok (.goto (-31), 3) := by decide +kernel
theorem dX1_cycleOf_43 : decode cX1_cycleOf 43 = .ok (.bipush (-7), 2) := by decide +kernel
theorem dX1_cycleOf_45 : decode cX1_cycleOf 45 = .ok (.ireturn, 1) := by decide +kernel
theorem dX1_cycleLength_0 : decode cX1_cycleLength 0 = .ok (.aload_n 0, 1) := by decide +kernel
theorem dX1_cycleLength_1 : decode cX1_cycleLength 1 = .ok (.iload_n 1, 1) := by decide +kernel
theorem dX1_cycleLength_2 : decode cX1_cycleLength 2 = .ok (.invokevirtual 58, 3) := by decide +kernel
theorem dX1_cycleLength_5 : decode cX1_cycleLength 5 = .ok (.ifCond .eq 11, 3) := by decide +kernel
theorem dX1_cycleLength_8 : decode cX1_cycleLength 8 = .ok (.aload_n 0, 1) := by decide +kernel
theorem dX1_cycleLength_9 : decode cX1_cycleLength 9 = .ok (.iload_n 1, 1) := by decide +kernel
theorem dX1_cycleLength_10 : decode cX1_cycleLength 10 = .ok (.invokevirtual 73, 3) := by decide +kernel
theorem dX1_cycleLength_13 : decode cX1_cycleLength 13 = .ok (.goto 4, 3) := by decide +kernel
theorem dX1_cycleLength_16 : decode cX1_cycleLength 16 = .ok (.iconst (-1), 1) := by decide +kernel
theorem dX1_cycleLength_17 : decode cX1_cycleLength 17 = .ok (.ireturn, 1) := by decide +kernel
theorem dX1_headOf_0 : decode cX1_headOf 0 = .ok (.iload_n 1, 1) := by decide +kernel
theorem dX1_headOf_1 : decode cX1_headOf 1 = .ok (.istore_n 2, 1) := by decide +kernel
theorem dX1_headOf_2 : decode cX1_headOf 2 = .ok (.iconst 0, 1) := by decide +kernel
theorem dX1_headOf_3 : decode cX1_headOf 3 = .ok (.istore_n 3, 1) := by decide +kernel
theorem dX1_headOf_4 : decode cX1_headOf 4 = .ok (.iload_n 3, 1) := by decide +kernel
theorem dX1_headOf_5 : decode cX1_headOf 5 = .ok (.aload_n 0, 1) := by decide +kernel
theorem dX1_headOf_6 : decode cX1_headOf 6 = .ok (.getfield 35, 3) := by decide +kernel
theorem dX1_headOf_9 : decode cX1_headOf 9 = .ok (.if_icmp .ge 27, 3) := by decide +kernel
theorem dX1_headOf_12 : decode cX1_headOf 12 = .ok (.aload_n 0, 1) := by decide +kernel
theorem dX1_headOf_13 : decode cX1_headOf 13 = .ok (.getfield 13, 3) := by decide +kernel
theorem dX1_headOf_16 : decode cX1_headOf 16 = .ok (.iload_n 2, 1) := by decide +kernel
theorem dX1_headOf_17 : decode cX1_headOf 17 = .ok (.iaload, 1) := by decide +kernel
theorem dX1_headOf_18 : decode cX1_headOf 18 = .ok (.bipush (-7), 2) := by decide +kernel
theorem dX1_headOf_20 : decode cX1_headOf 20 = .ok (.if_icmp .eq 16, 3) := by decide +kernel
theorem dX1_headOf_23 : decode cX1_headOf 23 = .ok (.aload_n 0, 1) := by decide +kernel
theorem dX1_headOf_24 : decode cX1_headOf 24 = .ok (.getfield 13, 3) := by decide +kernel
theorem dX1_headOf_27 : decode cX1_headOf 27 = .ok (.iload_n 2, 1) := by decide +kernel
theorem dX1_headOf_28 : decode cX1_headOf 28 = .ok (.iaload, 1) := by decide +kernel
theorem dX1_headOf_29 : decode cX1_headOf 29 = .ok (.istore_n 2, 1) := by decide +kernel
theorem dX1_headOf_30 : decode cX1_headOf 30 = .ok (.iinc 3 1, 3) := by decide +kernel
theorem dX1_headOf_33 : decode cX1_headOf 33 = .ok (.goto (-29), 3) := by decide +kernel
theorem dX1_headOf_36 : decode cX1_headOf 36 = .ok (.aload_n 0, 1) := by decide +kernel
theorem dX1_headOf_37 : decode cX1_headOf 37 = .ok (.getfield 13, 3) := by decide +kernel
theorem dX1_headOf_40 : decode cX1_headOf 40 = .ok (.iload_n 2, 1) := by decide +kernel
theorem dX1_headOf_41 : decode cX1_headOf 41 = .ok (.iaload, 1) := by decide +kernel
theorem dX1_headOf_42 : decode cX1_headOf 42 = .ok (.bipush (-7), 2) := by decide +kernel
theorem dX1_headOf_44 : decode cX1_headOf 44 = .ok (.if_icmp .ne 5, 3) := by decide +kernel
theorem dX1_headOf_47 : decode cX1_headOf 47 = .ok (.iload_n 2, 1) := by decide +kernel
theorem dX1_headOf_48 : decode cX1_headOf 48 = .ok (.ireturn, 1) := by decide +kernel
theorem dX1_headOf_49 : decode cX1_headOf 49 = .ok (.iload_n 2, 1) := by decide +kernel
theorem dX1_headOf_50 : decode cX1_headOf 50 = .ok (.istore_n 3, 1) := by decide +kernel
theorem dX1_headOf_51 : decode cX1_headOf 51 = .ok (.aload_n 0, 1) := by decide +kernel
theorem dX1_headOf_52 : decode cX1_headOf 52 = .ok (.getfield 13, 3) := by decide +kernel
theorem dX1_headOf_55 : decode cX1_headOf 55 = .ok (.iload_n 2, 1) := by decide +kernel
theorem dX1_headOf_56 : decode cX1_headOf 56 = .ok (.iaload, 1) := by decide +kernel
theorem dX1_headOf_57 : decode cX1_headOf 57 = .ok (.istore 4, 2) := by decide +kernel
theorem dX1_headOf_59 : decode cX1_headOf 59 = .ok (.iload 4, 2) := by decide +kernel
theorem dX1_headOf_61 : decode cX1_headOf 61 = .ok (.iload_n 2, 1) := by decide +kernel
theorem dX1_headOf_62 : decode cX1_headOf 62 = .ok (.if_icmp .eq 28, 3) := by decide +kernel
theorem dX1_headOf_65 : decode cX1_headOf 65 = .ok (.iload 4, 2) := by decide +kernel
theorem dX1_headOf_67 : decode cX1_headOf 67 = .ok (.iload_n 3, 1) := by decide +kernel
theorem dX1_headOf_68 : decode cX1_headOf 68 = .ok (.if_icmp .ge 8, 3) := by decide +kernel
theorem dX1_headOf_71 : decode cX1_headOf 71 = .ok (.iload 4, 2) := by decide +kernel
theorem dX1_headOf_73 : decode cX1_headOf 73 = .ok (.goto 4, 3) := by decide +kernel
theorem dX1_headOf_76 : decode cX1_headOf 76 = .ok (.iload_n 3, 1) := by decide +kernel
theorem dX1_headOf_77 : decode cX1_headOf 77 = .ok (.istore_n 3, 1) := by decide +kernel
theorem dX1_headOf_78 : decode cX1_headOf 78 = .ok (.aload_n 0, 1) := by decide +kernel
theorem dX1_headOf_79 : decode cX1_headOf 79 = .ok (.getfield 13, 3) := by decide +kernel
theorem dX1_headOf_82 : decode cX1_headOf 82 = .ok (.iload 4, 2) := by decide +kernel
theorem dX1_headOf_84 : decode cX1_headOf 84 = .ok (.iaload, 1) := by decide +kernel
theorem dX1_headOf_85 : decode cX1_headOf 85 = .ok (.istore 4, 2) := by decide +kernel
theorem dX1_headOf_87 : decode cX1_headOf 87 = .ok (.goto (-28), 3) := by decide +kernel
theorem dX1_headOf_90 : decode cX1_headOf 90 = .ok (.iload_n 3, 1) := by decide +kernel
theorem dX1_headOf_91 : decode cX1_headOf 91 = .ok (.ireturn, 1) := by decide +kernel
theorem dX1_partCount_0 : decode cX1_partCount 0 = .ok (.iconst 0, 1) := by decide +kernel
theorem dX1_partCount_1 : decode cX1_partCount 1 = .ok (.istore_n 1, 1) := by decide +kernel
theorem dX1_partCount_2 : decode cX1_partCount 2 = .ok (.iconst 0, 1) := by decide +kernel
theorem dX1_partCount_3 : decode cX1_partCount 3 = .ok (.istore_n 2, 1) := by decide +kernel
theorem dX1_partCount_4 : decode cX1_partCount 4 = .ok (.iload_n 2, 1) := by decide +kernel
theorem dX1_partCount_5 : decode cX1_partCount 5 = .ok (.aload_n 0, 1) := by decide +kernel
theorem dX1_partCount_6 : decode cX1_partCount 6 = .ok (.getfield 35, 3) := by decide +kernel
theorem dX1_partCount_9 : decode cX1_partCount 9 = .ok (.if_icmp .ge 26, 3) := by decide +kernel
theorem dX1_partCount_12 : decode cX1_partCount 12 = .ok (.iload_n 1, 1) := by decide +kernel
theorem dX1_partCount_13 : decode cX1_partCount 13 = .ok (.aload_n 0, 1) := by decide +kernel
theorem dX1_partCount_14 : decode cX1_partCount 14 = .ok (.iload_n 2, 1) := by decide +kernel
theorem dX1_partCount_15 : decode cX1_partCount 15 = .ok (.invokevirtual 76, 3) := by decide +kernel
theorem dX1_partCount_18 : decode cX1_partCount 18 = .ok (.iload_n 2, 1) := by decide +kernel
theorem dX1_partCount_19 : decode cX1_partCount 19 = .ok (.if_icmp .ne 7, 3) := by decide +kernel
theorem dX1_partCount_22 : decode cX1_partCount 22 = .ok (.iconst 1, 1) := by decide +kernel
theorem dX1_partCount_23 : decode cX1_partCount 23 = .ok (.goto 4, 3) := by decide +kernel
theorem dX1_partCount_26 : decode cX1_partCount 26 = .ok (.iconst 0, 1) := by decide +kernel
theorem dX1_partCount_27 : decode cX1_partCount 27 = .ok (.iadd, 1) := by decide +kernel
theorem dX1_partCount_28 : decode cX1_partCount 28 = .ok (.istore_n 1, 1) := by decide +kernel
theorem dX1_partCount_29 : decode cX1_partCount 29 = .ok (.iinc 2 1, 3) := by decide +kernel
theorem dX1_partCount_32 : decode cX1_partCount 32 = .ok (.goto (-28), 3) := by decide +kernel
theorem dX1_partCount_35 : decode cX1_partCount 35 = .ok (.iload_n 1, 1) := by decide +kernel
theorem dX1_partCount_36 : decode cX1_partCount 36 = .ok (.ireturn, 1) := by decide +kernel
theorem dX1_colour_0 : decode cX1_colour 0 = .ok (.aload_n 0, 1) := by decide +kernel
theorem dX1_colour_1 : decode cX1_colour 1 = .ok (.iload_n 1, 1) := by decide +kernel
theorem dX1_colour_2 : decode cX1_colour 2 = .ok (.invokevirtual 58, 3) := by decide +kernel
theorem dX1_colour_5 : decode cX1_colour 5 = .ok (.ifCond .eq 11, 3) := by decide +kernel
theorem dX1_colour_8 : decode cX1_colour 8 = .ok (.aload_n 0, 1) := by decide +kernel
theorem dX1_colour_9 : decode cX1_colour 9 = .ok (.iload_n 1, 1) := by decide +kernel
theorem dX1_colour_10 : decode cX1_colour 10 = .ok (.invokevirtual 46, 3) := by decide +kernel
theorem dX1_colour_13 : decode cX1_colour 13 = .ok (.goto 4, 3) := by decide +kernel
theorem dX1_colour_16 : decode cX1_colour 16 = .ok (.iconst (-1), 1) := by decide +kernel
theorem dX1_colour_17 : decode cX1_colour 17 = .ok (.ireturn, 1) := by decide +kernel
theorem dX1_setColour_0 : decode cX1_setColour 0 = .ok (.aload_n 0, 1) := by decide +kernel
theorem dX1_setColour_1 : decode cX1_setColour 1 = .ok (.iload_n 1, 1) := by decide +kernel
theorem dX1_setColour_2 : decode cX1_setColour 2 = .ok (.invokevirtual 58, 3) := by decide +kernel
theorem dX1_setColour_5 : decode cX1_setColour 5 = .ok (.ifCond .ne 5, 3) := by decide +kernel
theorem dX1_setColour_8 : decode cX1_setColour 8 = .ok (.iconst (-1), 1) := by decide +kernel
theorem dX1_setColour_9 : decode cX1_setColour 9 = .ok (.ireturn, 1) := by decide +kernel
theorem dX1_setColour_10 : decode cX1_setColour 10 = .ok (.iload_n 2, 1) := by decide +kernel
theorem dX1_setColour_11 : decode cX1_setColour 11 = .ok (.iconst 0, 1) := by decide +kernel
theorem dX1_setColour_12 : decode cX1_setColour 12 = .ok (.ldc 50, 2) := by decide +kernel
theorem dX1_setColour_14 : decode cX1_setColour 14 = .ok (.invokestatic 39, 3) := by decide +kernel
theorem dX1_setColour_17 : decode cX1_setColour 17 = .ok (.ifCond .ne 6, 3) := by decide +kernel
theorem dX1_setColour_20 : decode cX1_setColour 20 = .ok (.bipush (-2), 2) := by decide +kernel
theorem dX1_setColour_22 : decode cX1_setColour 22 = .ok (.ireturn, 1) := by decide +kernel
theorem dX1_setColour_23 : decode cX1_setColour 23 = .ok (.aload_n 0, 1) := by decide +kernel
theorem dX1_setColour_24 : decode cX1_setColour 24 = .ok (.iload_n 1, 1) := by decide +kernel
theorem dX1_setColour_25 : decode cX1_setColour 25 = .ok (.invokevirtual 46, 3) := by decide +kernel
theorem dX1_setColour_28 : decode cX1_setColour 28 = .ok (.istore_n 3, 1) := by decide +kernel
theorem dX1_setColour_29 : decode cX1_setColour 29 = .ok (.aload_n 0, 1) := by decide +kernel
theorem dX1_setColour_30 : decode cX1_setColour 30 = .ok (.invokevirtual 51, 3) := by decide +kernel
theorem dX1_setColour_33 : decode cX1_setColour 33 = .ok (.aload_n 0, 1) := by decide +kernel
theorem dX1_setColour_34 : decode cX1_setColour 34 = .ok (.iload_n 1, 1) := by decide +kernel
theorem dX1_setColour_35 : decode cX1_setColour 35 = .ok (.iload_n 2, 1) := by decide +kernel
theorem dX1_setColour_36 : decode cX1_setColour 36 = .ok (.invokevirtual 54, 3) := by decide +kernel
theorem dX1_setColour_39 : decode cX1_setColour 39 = .ok (.iload_n 3, 1) := by decide +kernel
theorem dX1_setColour_40 : decode cX1_setColour 40 = .ok (.ireturn, 1) := by decide +kernel
theorem dX1_resetColours_0 : decode cX1_resetColours 0 = .ok (.iconst 0, 1) := by decide +kernel
theorem dX1_resetColours_1 : decode cX1_resetColours 1 = .ok (.istore_n 1, 1) := by decide +kernel
theorem dX1_resetColours_2 : decode cX1_resetColours 2 = .ok (.aload_n 0, 1) := by decide +kernel
theorem dX1_resetColours_3 : decode cX1_resetColours 3 = .ok (.invokevirtual 51, 3) := by decide +kernel
theorem dX1_resetColours_6 : decode cX1_resetColours 6 = .ok (.iconst 0, 1) := by decide +kernel
theorem dX1_resetColours_7 : decode cX1_resetColours 7 = .ok (.istore_n 2, 1) := by decide +kernel
theorem dX1_resetColours_8 : decode cX1_resetColours 8 = .ok (.iload_n 2, 1) := by decide +kernel
theorem dX1_resetColours_9 : decode cX1_resetColours 9 = .ok (.aload_n 0, 1) := by decide +kernel
theorem dX1_resetColours_10 : decode cX1_resetColours 10 = .ok (.getfield 35, 3) := by decide +kernel
theorem dX1_resetColours_13 : decode cX1_resetColours 13 = .ok (.if_icmp .ge 42, 3) := by decide +kernel
theorem dX1_resetColours_16 : decode cX1_resetColours 16 = .ok (.iload_n 1, 1) := by decide +kernel
theorem dX1_resetColours_17 : decode cX1_resetColours 17 = .ok (.aload_n 0, 1) := by decide +kernel
theorem dX1_resetColours_18 : decode cX1_resetColours 18 = .ok (.iload_n 2, 1) := by decide +kernel
theorem dX1_resetColours_19 : decode cX1_resetColours 19 = .ok (.invokevirtual 46, 3) := by decide +kernel
theorem dX1_resetColours_22 : decode cX1_resetColours 22 = .ok (.aload_n 0, 1) := by decide +kernel
theorem dX1_resetColours_23 : decode cX1_resetColours 23 = .ok (.getfield 7, 3) := by decide +kernel
theorem dX1_resetColours_26 : decode cX1_resetColours 26 = .ok (.iload_n 2, 1) := by decide +kernel
theorem dX1_resetColours_27 : decode cX1_resetColours 27 = .ok (.iaload, 1) := by decide +kernel
theorem dX1_resetColours_28 : decode cX1_resetColours 28 = .ok (.if_icmp .ne 7, 3) := by decide +kernel
theorem dX1_resetColours_31 : decode cX1_resetColours 31 = .ok (.iconst 0, 1) := by decide +kernel
theorem dX1_resetColours_32 : decode cX1_resetColours 32 = .ok (.goto 4, 3) := by decide +kernel
theorem dX1_resetColours_35 : decode cX1_resetColours 35 = .ok (.iconst 1, 1) := by decide +kernel
theorem dX1_resetColours_36 : decode cX1_resetColours 36 = .ok (.iadd, 1) := by decide +kernel
theorem dX1_resetColours_37 : decode cX1_resetColours 37 = .ok (.istore_n 1, 1) := by decide +kernel
theorem dX1_resetColours_38 : decode cX1_resetColours 38 = .ok (.aload_n 0, 1) := by decide +kernel
theorem dX1_resetColours_39 : decode cX1_resetColours 39 = .ok (.iload_n 2, 1) := by decide +kernel
theorem dX1_resetColours_40 : decode cX1_resetColours 40 = .ok (.aload_n 0, 1) := by decide +kernel
theorem dX1_resetColours_41 : decode cX1_resetColours 41 = .ok (.getfield 7, 3) := by decide +kernel
theorem dX1_resetColours_44 : decode cX1_resetColours 44 = .ok (.iload_n 2, 1) := by decide +kernel
theorem dX1_resetColours_45 : decode cX1_resetColours 45 = .ok (.iaload, 1) := by decide +kernel
theorem dX1_resetColours_46 : decode cX1_resetColours 46 = .ok (.invokevirtual 54, 3) := by decide +kernel
theorem dX1_resetColours_49 : decode cX1_resetColours 49 = .ok (.iinc 2 1, 3) := by decide +kernel
theorem dX1_resetColours_52 : decode cX1_resetColours 52 = .ok (.goto (-44), 3) := by decide +kernel
theorem dX1_resetColours_55 : decode cX1_resetColours 55 = .ok (.iload_n 1, 1) := by decide +kernel
theorem dX1_resetColours_56 : decode cX1_resetColours 56 = .ok (.ireturn, 1) := by decide +kernel
theorem dX1_isBeside_0 : decode cX1_isBeside 0 = .ok (.iconst 0, 1) := by decide +kernel
theorem dX1_isBeside_1 : decode cX1_isBeside 1 = .ok (.istore_n 3, 1) := by decide +kernel
theorem dX1_isBeside_2 : decode cX1_isBeside 2 = .ok (.iload_n 3, 1) := by decide +kernel
theorem dX1_isBeside_3 : decode cX1_isBeside 3 = .ok (.aload_n 0, 1) := by decide +kernel
theorem dX1_isBeside_4 : decode cX1_isBeside 4 = .ok (.getfield 35, 3) := by decide +kernel
theorem dX1_isBeside_7 : decode cX1_isBeside 7 = .ok (.if_icmp .ge 29, 3) := by decide +kernel
theorem dX1_isBeside_10 : decode cX1_isBeside 10 = .ok (.aload_n 0, 1) := by decide +kernel
theorem dX1_isBeside_11 : decode cX1_isBeside 11 = .ok (.iload_n 1, 1) := by decide +kernel
theorem dX1_isBeside_12 : decode cX1_isBeside 12 = .ok (.iload_n 3, 1) := by decide +kernel
theorem dX1_isBeside_13 : decode cX1_isBeside 13 = .ok (.invokevirtual 66, 3) := by decide +kernel
theorem dX1_isBeside_16 : decode cX1_isBeside 16 = .ok (.ifCond .eq 14, 3) := by decide +kernel
theorem dX1_isBeside_19 : decode cX1_isBeside 19 = .ok (.aload_n 0, 1) := by decide +kernel
theorem dX1_isBeside_20 : decode cX1_isBeside 20 = .ok (.iload_n 3, 1) := by decide +kernel
theorem dX1_isBeside_21 : decode cX1_isBeside 21 = .ok (.invokevirtual 46, 3) := by decide +kernel
theorem dX1_isBeside_24 : decode cX1_isBeside 24 = .ok (.iload_n 2, 1) := by decide +kernel
theorem dX1_isBeside_25 : decode cX1_isBeside 25 = .ok (.if_icmp .ne 5, 3) := by decide +kernel
theorem dX1_isBeside_28 : decode cX1_isBeside 28 = .ok (.iconst 1, 1) := by decide +kernel
theorem dX1_isBeside_29 : decode cX1_isBeside 29 = .ok (.ireturn, 1) := by decide +kernel
theorem dX1_isBeside_30 : decode cX1_isBeside 30 = .ok (.iinc 3 1, 3) := by decide +kernel
theorem dX1_isBeside_33 : decode cX1_isBeside 33 = .ok (.goto (-31), 3) := by decide +kernel
theorem dX1_isBeside_36 : decode cX1_isBeside 36 = .ok (.iconst 0, 1) := by decide +kernel
theorem dX1_isBeside_37 : decode cX1_isBeside 37 = .ok (.ireturn, 1) := by decide +kernel
theorem dX1_recolour_0 : decode cX1_recolour 0 = .ok (.aload_n 0, 1) := by decide +kernel
theorem dX1_recolour_1 : decode cX1_recolour 1 = .ok (.iload_n 1, 1) := by decide +kernel
theorem dX1_recolour_2 : decode cX1_recolour 2 = .ok (.invokevirtual 58, 3) := by decide +kernel
theorem dX1_recolour_5 : decode cX1_recolour 5 = .ok (.ifCond .ne 5, 3) := by decide +kernel
theorem dX1_recolour_8 : decode cX1_recolour 8 = .ok (.iconst (-1), 1) := by decide +kernel
theorem dX1_recolour_9 : decode cX1_recolour 9 = .ok (.ireturn, 1) := by decide +kernel
theorem dX1_recolour_10 : decode cX1_recolour 10 = .ok (.aload_n 0, 1) := by decide +kernel
theorem dX1_recolour_11 : decode cX1_recolour 11 = .ok (.invokevirtual 51, 3) := by decide +kernel
theorem dX1_recolour_14 : decode cX1_recolour 14 = .ok (.iconst 0, 1) := by decide +kernel
theorem dX1_recolour_15 : decode cX1_recolour 15 = .ok (.istore_n 2, 1) := by decide +kernel
theorem dX1_recolour_16 : decode cX1_recolour 16 = .ok (.aload_n 0, 1) := by decide +kernel
theorem dX1_recolour_17 : decode cX1_recolour 17 = .ok (.iload_n 1, 1) := by decide +kernel
theorem dX1_recolour_18 : decode cX1_recolour 18 = .ok (.iload_n 2, 1) := by decide +kernel
theorem dX1_recolour_19 : decode cX1_recolour 19 = .ok (.invokevirtual 79, 3) := by decide +kernel
theorem dX1_recolour_22 : decode cX1_recolour 22 = .ok (.ifCond .eq 9, 3) := by decide +kernel
theorem dX1_recolour_25 : decode cX1_recolour 25 = .ok (.iinc 2 1, 3) := by decide +kernel
theorem dX1_recolour_28 : decode cX1_recolour 28 = .ok (.goto (-12), 3) := by decide +kernel
theorem dX1_recolour_31 : decode cX1_recolour 31 = .ok (.aload_n 0, 1) := by decide +kernel
theorem dX1_recolour_32 : decode cX1_recolour 32 = .ok (.iload_n 1, 1) := by decide +kernel
theorem dX1_recolour_33 : decode cX1_recolour 33 = .ok (.iload_n 2, 1) := by decide +kernel
theorem dX1_recolour_34 : decode cX1_recolour 34 = .ok (.invokevirtual 54, 3) := by decide +kernel
theorem dX1_recolour_37 : decode cX1_recolour 37 = .ok (.iload_n 2, 1) := by decide +kernel
theorem dX1_recolour_38 : decode cX1_recolour 38 = .ok (.ireturn, 1) := by decide +kernel
theorem dX1_colourCount_0 : decode cX1_colourCount 0 = .ok (.iconst 0, 1) := by decide +kernel
theorem dX1_colourCount_1 : decode cX1_colourCount 1 = .ok (.istore_n 1, 1) := by decide +kernel
theorem dX1_colourCount_2 : decode cX1_colourCount 2 = .ok (.iconst 0, 1) := by decide +kernel
theorem dX1_colourCount_3 : decode cX1_colourCount 3 = .ok (.istore_n 2, 1) := by decide +kernel
theorem dX1_colourCount_4 : decode cX1_colourCount 4 = .ok (.iload_n 2, 1) := by decide +kernel
theorem dX1_colourCount_5 : decode cX1_colourCount 5 = .ok (.aload_n 0, 1) := by decide +kernel
theorem dX1_colourCount_6 : decode cX1_colourCount 6 = .ok (.getfield 35, 3) := by decide +kernel
theorem dX1_colourCount_9 : decode cX1_colourCount 9 = .ok (.if_icmp .ge 62, 3) := by decide +kernel
theorem dX1_colourCount_12 : decode cX1_colourCount 12 = .ok (.iconst 1, 1) := by decide +kernel
theorem dX1_colourCount_13 : decode cX1_colourCount 13 = .ok (.istore_n 3, 1) := by decide +kernel
theorem dX1_colourCount_14 : decode cX1_colourCount 14 = .ok (.iconst 0, 1) := by decide +kernel
theorem dX1_colourCount_15 : decode cX1_colourCount 15 = .ok (.istore 4, 2) := by decide +kernel
theorem dX1_colourCount_17 : decode cX1_colourCount 17 = .ok (.iload 4, 2) := by decide +kernel
theorem dX1_colourCount_19 : decode cX1_colourCount 19 = .ok (.iload_n 2, 1) := by decide +kernel
theorem dX1_colourCount_20 : decode cX1_colourCount 20 = .ok (.if_icmp .ge 33, 3) := by decide +kernel
theorem dX1_colourCount_23 : decode cX1_colourCount 23 = .ok (.iload_n 3, 1) := by decide +kernel
theorem dX1_colourCount_24 : decode cX1_colourCount 24 = .ok (.ifCond .eq 21, 3) := by decide +kernel
theorem dX1_colourCount_27 : decode cX1_colourCount 27 = .ok (.aload_n 0, 1) := by decide +kernel
theorem dX1_colourCount_28 : decode cX1_colourCount 28 = .ok (.iload 4, 2) := by decide +kernel
theorem dX1_colourCount_30 : decode cX1_colourCount 30 = .ok (.invokevirtual 46, 3) := by decide +kernel
theorem dX1_colourCount_33 : decode cX1_colourCount 33 = .ok (.aload_n 0, 1) := by decide +kernel
theorem dX1_colourCount_34 : decode cX1_colourCount 34 = .ok (.iload_n 2, 1) := by decide +kernel
theorem dX1_colourCount_35 : decode cX1_colourCount 35 = .ok (.invokevirtual 46, 3) := by decide +kernel
theorem dX1_colourCount_38 : decode cX1_colourCount 38 = .ok (.if_icmp .eq 7, 3) := by decide +kernel
theorem dX1_colourCount_41 : decode cX1_colourCount 41 = .ok (.iconst 1, 1) := by decide +kernel
theorem dX1_colourCount_42 : decode cX1_colourCount 42 = .ok (.goto 4, 3) := by decide +kernel
theorem dX1_colourCount_45 : decode cX1_colourCount 45 = .ok (.iconst 0, 1) := by decide +kernel
theorem dX1_colourCount_46 : decode cX1_colourCount 46 = .ok (.istore_n 3, 1) := by decide +kernel
theorem dX1_colourCount_47 : decode cX1_colourCount 47 = .ok (.iinc 4 1, 3) := by decide +kernel
theorem dX1_colourCount_50 : decode cX1_colourCount 50 = .ok (.goto (-33), 3) := by decide +kernel
theorem dX1_colourCount_53 : decode cX1_colourCount 53 = .ok (.iload_n 1, 1) := by decide +kernel
theorem dX1_colourCount_54 : decode cX1_colourCount 54 = .ok (.iload_n 3, 1) := by decide +kernel
theorem dX1_colourCount_55 : decode cX1_colourCount 55 = .ok (.ifCond .eq 7, 3) := by decide +kernel
theorem dX1_colourCount_58 : decode cX1_colourCount 58 = .ok (.iconst 1, 1) := by decide +kernel
theorem dX1_colourCount_59 : decode cX1_colourCount 59 = .ok (.goto 4, 3) := by decide +kernel
theorem dX1_colourCount_62 : decode cX1_colourCount 62 = .ok (.iconst 0, 1) := by decide +kernel
theorem dX1_colourCount_63 : decode cX1_colourCount 63 = .ok (.iadd, 1) := by decide +kernel
theorem dX1_colourCount_64 : decode cX1_colourCount 64 = .ok (.istore_n 1, 1) := by decide +kernel
theorem dX1_colourCount_65 : decode cX1_colourCount 65 = .ok (.iinc 2 1, 3) := by decide +kernel
theorem dX1_colourCount_68 : decode cX1_colourCount 68 = .ok (.goto (-64), 3) := by decide +kernel
theorem dX1_colourCount_71 : decode cX1_colourCount 71 = .ok (.iload_n 1, 1) := by decide +kernel
theorem dX1_colourCount_72 : decode cX1_colourCount 72 = .ok (.ireturn, 1) := by decide +kernel
theorem dX1_greatest_0 : decode cX1_greatest 0 = .ok (.bipush (-7), 2) := by decide +kernel
theorem dX1_greatest_2 : decode cX1_greatest 2 = .ok (.istore_n 1, 1) := by decide +kernel
theorem dX1_greatest_3 : decode cX1_greatest 3 = .ok (.iconst 0, 1) := by decide +kernel
theorem dX1_greatest_4 : decode cX1_greatest 4 = .ok (.istore_n 2, 1) := by decide +kernel
theorem dX1_greatest_5 : decode cX1_greatest 5 = .ok (.iload_n 2, 1) := by decide +kernel
theorem dX1_greatest_6 : decode cX1_greatest 6 = .ok (.aload_n 0, 1) := by decide +kernel
theorem dX1_greatest_7 : decode cX1_greatest 7 = .ok (.getfield 35, 3) := by decide +kernel
theorem dX1_greatest_10 : decode cX1_greatest 10 = .ok (.if_icmp .ge 28, 3) := by decide +kernel
theorem dX1_greatest_13 : decode cX1_greatest 13 = .ok (.aload_n 0, 1) := by decide +kernel
theorem dX1_greatest_14 : decode cX1_greatest 14 = .ok (.iload_n 2, 1) := by decide +kernel
theorem dX1_greatest_15 : decode cX1_greatest 15 = .ok (.invokevirtual 46, 3) := by decide +kernel
theorem dX1_greatest_18 : decode cX1_greatest 18 = .ok (.iload_n 1, 1) := by decide +kernel
theorem dX1_greatest_19 : decode cX1_greatest 19 = .ok (.if_icmp .le 11, 3) := by decide +kernel
theorem dX1_greatest_22 : decode cX1_greatest 22 = .ok (.aload_n 0, 1) := by decide +kernel
theorem dX1_greatest_23 : decode cX1_greatest 23 = .ok (.iload_n 2, 1) := by decide +kernel
theorem dX1_greatest_24 : decode cX1_greatest 24 = .ok (.invokevirtual 46, 3) := by decide +kernel
theorem dX1_greatest_27 : decode cX1_greatest 27 = .ok (.goto 4, 3) := by decide +kernel
theorem dX1_greatest_30 : decode cX1_greatest 30 = .ok (.iload_n 1, 1) := by decide +kernel
theorem dX1_greatest_31 : decode cX1_greatest 31 = .ok (.istore_n 1, 1) := by decide +kernel
theorem dX1_greatest_32 : decode cX1_greatest 32 = .ok (.iinc 2 1, 3) := by decide +kernel
theorem dX1_greatest_35 : decode cX1_greatest 35 = .ok (.goto (-30), 3) := by decide +kernel
theorem dX1_greatest_38 : decode cX1_greatest 38 = .ok (.iload_n 1, 1) := by decide +kernel
theorem dX1_greatest_39 : decode cX1_greatest 39 = .ok (.ireturn, 1) := by decide +kernel
theorem dX1_greatestColour_0 : decode cX1_greatestColour 0 = .ok (.aload_n 0, 1) := by decide +kernel
theorem dX1_greatestColour_1 : decode cX1_greatestColour 1 = .ok (.invokevirtual 82, 3) := by decide +kernel
theorem dX1_greatestColour_4 : decode cX1_greatestColour 4 = .ok (.ireturn, 1) := by decide +kernel
theorem dX1_isConflict_0 : decode cX1_isConflict 0 = .ok (.aload_n 0, 1) := by decide +kernel
theorem dX1_isConflict_1 : decode cX1_isConflict 1 = .ok (.getfield 13, 3) := by decide +kernel
theorem dX1_isConflict_4 : decode cX1_isConflict 4 = .ok (.iload_n 1, 1) := by decide +kernel
theorem dX1_isConflict_5 : decode cX1_isConflict 5 = .ok (.iaload, 1) := by decide +kernel
theorem dX1_isConflict_6 : decode cX1_isConflict 6 = .ok (.bipush (-7), 2) := by decide +kernel
theorem dX1_isConflict_8 : decode cX1_isConflict 8 = .ok (.if_icmp .eq 25, 3) := by decide +kernel
theorem dX1_isConflict_11 : decode cX1_isConflict 11 = .ok (.aload_n 0, 1) := by decide +kernel
theorem dX1_isConflict_12 : decode cX1_isConflict 12 = .ok (.aload_n 0, 1) := by decide +kernel
theorem dX1_isConflict_13 : decode cX1_isConflict 13 = .ok (.getfield 13, 3) := by decide +kernel
theorem dX1_isConflict_16 : decode cX1_isConflict 16 = .ok (.iload_n 1, 1) := by decide +kernel
theorem dX1_isConflict_17 : decode cX1_isConflict 17 = .ok (.iaload, 1) := by decide +kernel
theorem dX1_isConflict_18 : decode cX1_isConflict 18 = .ok (.invokevirtual 46, 3) := by decide +kernel
theorem dX1_isConflict_21 : decode cX1_isConflict 21 = .ok (.aload_n 0, 1) := by decide +kernel
theorem dX1_isConflict_22 : decode cX1_isConflict 22 = .ok (.iload_n 1, 1) := by decide +kernel
theorem dX1_isConflict_23 : decode cX1_isConflict 23 = .ok (.invokevirtual 46, 3) := by decide +kernel
theorem dX1_isConflict_26 : decode cX1_isConflict 26 = .ok (.if_icmp .ne 7, 3) := by decide +kernel
theorem dX1_isConflict_29 : decode cX1_isConflict 29 = .ok (.iconst 1, 1) := by decide +kernel
theorem dX1_isConflict_30 : decode cX1_isConflict 30 = .ok (.goto 4, 3) := by decide +kernel
theorem dX1_isConflict_33 : decode cX1_isConflict 33 = .ok (.iconst 0, 1) := by decide +kernel
theorem dX1_isConflict_34 : decode cX1_isConflict 34 = .ok (.ireturn, 1) := by decide +kernel
theorem dX1_conflicts_0 : decode cX1_conflicts 0 = .ok (.iconst 0, 1) := by decide +kernel
theorem dX1_conflicts_1 : decode cX1_conflicts 1 = .ok (.istore_n 1, 1) := by decide +kernel
theorem dX1_conflicts_2 : decode cX1_conflicts 2 = .ok (.iconst 0, 1) := by decide +kernel
theorem dX1_conflicts_3 : decode cX1_conflicts 3 = .ok (.istore_n 2, 1) := by decide +kernel
theorem dX1_conflicts_4 : decode cX1_conflicts 4 = .ok (.iload_n 2, 1) := by decide +kernel
theorem dX1_conflicts_5 : decode cX1_conflicts 5 = .ok (.aload_n 0, 1) := by decide +kernel
theorem dX1_conflicts_6 : decode cX1_conflicts 6 = .ok (.getfield 35, 3) := by decide +kernel
theorem dX1_conflicts_9 : decode cX1_conflicts 9 = .ok (.if_icmp .ge 25, 3) := by decide +kernel
theorem dX1_conflicts_12 : decode cX1_conflicts 12 = .ok (.iload_n 1, 1) := by decide +kernel
theorem dX1_conflicts_13 : decode cX1_conflicts 13 = .ok (.aload_n 0, 1) := by decide +kernel
theorem dX1_conflicts_14 : decode cX1_conflicts 14 = .ok (.iload_n 2, 1) := by decide +kernel
theorem dX1_conflicts_15 : decode cX1_conflicts 15 = .ok (.invokevirtual 86, 3) := by decide +kernel
theorem dX1_conflicts_18 : decode cX1_conflicts 18 = .ok (.ifCond .eq 7, 3) := by decide +kernel
theorem dX1_conflicts_21 : decode cX1_conflicts 21 = .ok (.iconst 1, 1) := by decide +kernel
theorem dX1_conflicts_22 : decode cX1_conflicts 22 = .ok (.goto 4, 3) := by decide +kernel
theorem dX1_conflicts_25 : decode cX1_conflicts 25 = .ok (.iconst 0, 1) := by decide +kernel
theorem dX1_conflicts_26 : decode cX1_conflicts 26 = .ok (.iadd, 1) := by decide +kernel
theorem dX1_conflicts_27 : decode cX1_conflicts 27 = .ok (.istore_n 1, 1) := by decide +kernel
theorem dX1_conflicts_28 : decode cX1_conflicts 28 = .ok (.iinc 2 1, 3) := by decide +kernel
theorem dX1_conflicts_31 : decode cX1_conflicts 31 = .ok (.goto (-27), 3) := by decide +kernel
theorem dX1_conflicts_34 : decode cX1_conflicts 34 = .ok (.iload_n 1, 1) := by decide +kernel
theorem dX1_conflicts_35 : decode cX1_conflicts 35 = .ok (.ireturn, 1) := by decide +kernel
theorem dX1_conflictCount_0 : decode cX1_conflictCount 0 = .ok (.aload_n 0, 1) := by decide +kernel
theorem dX1_conflictCount_1 : decode cX1_conflictCount 1 = .ok (.invokevirtual 89, 3) := by decide +kernel
theorem dX1_conflictCount_4 : decode cX1_conflictCount 4 = .ok (.ireturn, 1) := by decide +kernel
theorem dX1_bitOf_0 : decode cX1_bitOf 0 = .ok (.aload_n 0, 1) := by decide +kernel
theorem dX1_bitOf_1 : decode cX1_bitOf 1 = .ok (.getfield 13, 3) := by decide +kernel
theorem dX1_bitOf_4 : decode cX1_bitOf 4 = .ok (.iload_n 1, 1) := by decide +kernel
theorem dX1_bitOf_5 : decode cX1_bitOf 5 = .ok (.iaload, 1) := by decide +kernel
theorem dX1_bitOf_6 : decode cX1_bitOf 6 = .ok (.bipush (-7), 2) := by decide +kernel
theorem dX1_bitOf_8 : decode cX1_bitOf 8 = .ok (.if_icmp .ne 5, 3) := by decide +kernel
theorem dX1_bitOf_11 : decode cX1_bitOf 11 = .ok (.iconst 0, 1) := by decide +kernel
theorem dX1_bitOf_12 : decode cX1_bitOf 12 = .ok (.ireturn, 1) := by decide +kernel
theorem dX1_bitOf_13 : decode cX1_bitOf 13 = .ok (.aload_n 0, 1) := by decide +kernel
theorem dX1_bitOf_14 : decode cX1_bitOf 14 = .ok (.iload_n 1, 1) := by decide +kernel
theorem dX1_bitOf_15 : decode cX1_bitOf 15 = .ok (.invokevirtual 46, 3) := by decide +kernel
theorem dX1_bitOf_18 : decode cX1_bitOf 18 = .ok (.aload_n 0, 1) := by decide +kernel
theorem dX1_bitOf_19 : decode cX1_bitOf 19 = .ok (.aload_n 0, 1) := by decide +kernel
theorem dX1_bitOf_20 : decode cX1_bitOf 20 = .ok (.getfield 13, 3) := by decide +kernel
theorem dX1_bitOf_23 : decode cX1_bitOf 23 = .ok (.iload_n 1, 1) := by decide +kernel
theorem dX1_bitOf_24 : decode cX1_bitOf 24 = .ok (.iaload, 1) := by decide +kernel
theorem dX1_bitOf_25 : decode cX1_bitOf 25 = .ok (.invokevirtual 46, 3) := by decide +kernel
theorem dX1_bitOf_28 : decode cX1_bitOf 28 = .ok (.ixor, 1) := by decide +kernel
theorem dX1_bitOf_29 : decode cX1_bitOf 29 = .ok (.istore_n 2, 1) := by decide +kernel
theorem dX1_bitOf_30 : decode cX1_bitOf 30 = .ok (.iconst 0, 1) := by decide +kernel
theorem dX1_bitOf_31 : decode cX1_bitOf 31 = .ok (.istore_n 3, 1) := by decide +kernel
theorem dX1_bitOf_32 : decode cX1_bitOf 32 = .ok (.iload_n 2, 1) := by decide +kernel
theorem dX1_bitOf_33 : decode cX1_bitOf 33 = .ok (.iload_n 3, 1) := by decide +kernel
theorem dX1_bitOf_34 : decode cX1_bitOf 34 = .ok (.ishr, 1) := by decide +kernel
theorem dX1_bitOf_35 : decode cX1_bitOf 35 = .ok (.iconst 1, 1) := by decide +kernel
theorem dX1_bitOf_36 : decode cX1_bitOf 36 = .ok (.iand, 1) := by decide +kernel
theorem dX1_bitOf_37 : decode cX1_bitOf 37 = .ok (.ifCond .ne 9, 3) := by decide +kernel
theorem dX1_bitOf_40 : decode cX1_bitOf 40 = .ok (.iinc 3 1, 3) := by decide +kernel
theorem dX1_bitOf_43 : decode cX1_bitOf 43 = .ok (.goto (-11), 3) := by decide +kernel
theorem dX1_bitOf_46 : decode cX1_bitOf 46 = .ok (.iload_n 3, 1) := by decide +kernel
theorem dX1_bitOf_47 : decode cX1_bitOf 47 = .ok (.ireturn, 1) := by decide +kernel
theorem dX1_differingBit_0 : decode cX1_differingBit 0 = .ok (.aload_n 0, 1) := by decide +kernel
theorem dX1_differingBit_1 : decode cX1_differingBit 1 = .ok (.iload_n 1, 1) := by decide +kernel
theorem dX1_differingBit_2 : decode cX1_differingBit 2 = .ok (.invokevirtual 58, 3) := by decide +kernel
theorem dX1_differingBit_5 : decode cX1_differingBit 5 = .ok (.ifCond .ne 5, 3) := by decide +kernel
theorem dX1_differingBit_8 : decode cX1_differingBit 8 = .ok (.iconst (-1), 1) := by decide +kernel
theorem dX1_differingBit_9 : decode cX1_differingBit 9 = .ok (.ireturn, 1) := by decide +kernel
theorem dX1_differingBit_10 : decode cX1_differingBit 10 = .ok (.aload_n 0, 1) := by decide +kernel
theorem dX1_differingBit_11 : decode cX1_differingBit 11 = .ok (.iload_n 1, 1) := by decide +kernel
theorem dX1_differingBit_12 : decode cX1_differingBit 12 = .ok (.invokevirtual 86, 3) := by decide +kernel
theorem dX1_differingBit_15 : decode cX1_differingBit 15 = .ok (.ifCond .eq 8, 3) := by decide +kernel
theorem dX1_differingBit_18 : decode cX1_differingBit 18 = .ok (.bipush (-5), 2) := by decide +kernel
theorem dX1_differingBit_20 : decode cX1_differingBit 20 = .ok (.goto 8, 3) := by decide +kernel
theorem dX1_differingBit_23 : decode cX1_differingBit 23 = .ok (.aload_n 0, 1) := by decide +kernel
theorem dX1_differingBit_24 : decode cX1_differingBit 24 = .ok (.iload_n 1, 1) := by decide +kernel
theorem dX1_differingBit_25 : decode cX1_differingBit 25 = .ok (.invokevirtual 92, 3) := by decide +kernel
theorem dX1_differingBit_28 : decode cX1_differingBit 28 = .ok (.ireturn, 1) := by decide +kernel
theorem dX1_ends_0 : decode cX1_ends 0 = .ok (.aload_n 0, 1) := by decide +kernel
theorem dX1_ends_1 : decode cX1_ends 1 = .ok (.dup, 1) := by decide +kernel
theorem dX1_ends_2 : decode cX1_ends 2 = .ok (.getfield 43, 3) := by decide +kernel
theorem dX1_ends_5 : decode cX1_ends 5 = .ok (.iconst 1, 1) := by decide +kernel
theorem dX1_ends_6 : decode cX1_ends 6 = .ok (.iadd, 1) := by decide +kernel
theorem dX1_ends_7 : decode cX1_ends 7 = .ok (.putfield 43, 3) := by decide +kernel
theorem dX1_ends_10 : decode cX1_ends 10 = .ok (.iconst 0, 1) := by decide +kernel
theorem dX1_ends_11 : decode cX1_ends 11 = .ok (.istore_n 1, 1) := by decide +kernel
theorem dX1_ends_12 : decode cX1_ends 12 = .ok (.iload_n 1, 1) := by decide +kernel
theorem dX1_ends_13 : decode cX1_ends 13 = .ok (.aload_n 0, 1) := by decide +kernel
theorem dX1_ends_14 : decode cX1_ends 14 = .ok (.getfield 35, 3) := by decide +kernel
theorem dX1_ends_17 : decode cX1_ends 17 = .ok (.if_icmp .ge 20, 3) := by decide +kernel
theorem dX1_ends_20 : decode cX1_ends 20 = .ok (.aload_n 0, 1) := by decide +kernel
theorem dX1_ends_21 : decode cX1_ends 21 = .ok (.iload_n 1, 1) := by decide +kernel
theorem dX1_ends_22 : decode cX1_ends 22 = .ok (.aload_n 0, 1) := by decide +kernel
theorem dX1_ends_23 : decode cX1_ends 23 = .ok (.getfield 19, 3) := by decide +kernel
theorem dX1_ends_26 : decode cX1_ends 26 = .ok (.iload_n 1, 1) := by decide +kernel
theorem dX1_ends_27 : decode cX1_ends 27 = .ok (.iaload, 1) := by decide +kernel
theorem dX1_ends_28 : decode cX1_ends 28 = .ok (.invokevirtual 54, 3) := by decide +kernel
theorem dX1_ends_31 : decode cX1_ends 31 = .ok (.iinc 1 1, 3) := by decide +kernel
theorem dX1_ends_34 : decode cX1_ends 34 = .ok (.goto (-22), 3) := by decide +kernel
theorem dX1_ends_37 : decode cX1_ends 37 = .ok (.return_, 1) := by decide +kernel
theorem dX1_reduces_0 : decode cX1_reduces 0 = .ok (.iconst 0, 1) := by decide +kernel
theorem dX1_reduces_1 : decode cX1_reduces 1 = .ok (.istore_n 1, 1) := by decide +kernel
theorem dX1_reduces_2 : decode cX1_reduces 2 = .ok (.iload_n 1, 1) := by decide +kernel
theorem dX1_reduces_3 : decode cX1_reduces 3 = .ok (.aload_n 0, 1) := by decide +kernel
theorem dX1_reduces_4 : decode cX1_reduces 4 = .ok (.getfield 35, 3) := by decide +kernel
theorem dX1_reduces_7 : decode cX1_reduces 7 = .ok (.if_icmp .ge 34, 3) := by decide +kernel
theorem dX1_reduces_10 : decode cX1_reduces 10 = .ok (.aload_n 0, 1) := by decide +kernel
theorem dX1_reduces_11 : decode cX1_reduces 11 = .ok (.iload_n 1, 1) := by decide +kernel
theorem dX1_reduces_12 : decode cX1_reduces 12 = .ok (.invokevirtual 92, 3) := by decide +kernel
theorem dX1_reduces_15 : decode cX1_reduces 15 = .ok (.istore_n 2, 1) := by decide +kernel
theorem dX1_reduces_16 : decode cX1_reduces 16 = .ok (.aload_n 0, 1) := by decide +kernel
theorem dX1_reduces_17 : decode cX1_reduces 17 = .ok (.getfield 19, 3) := by decide +kernel
theorem dX1_reduces_20 : decode cX1_reduces 20 = .ok (.iload_n 1, 1) := by decide +kernel
theorem dX1_reduces_21 : decode cX1_reduces 21 = .ok (.iconst 2, 1) := by decide +kernel
theorem dX1_reduces_22 : decode cX1_reduces 22 = .ok (.iload_n 2, 1) := by decide +kernel
theorem dX1_reduces_23 : decode cX1_reduces 23 = .ok (.imul, 1) := by decide +kernel
theorem dX1_reduces_24 : decode cX1_reduces 24 = .ok (.aload_n 0, 1) := by decide +kernel
theorem dX1_reduces_25 : decode cX1_reduces 25 = .ok (.iload_n 1, 1) := by decide +kernel
theorem dX1_reduces_26 : decode cX1_reduces 26 = .ok (.invokevirtual 46, 3) := by decide +kernel
theorem dX1_reduces_29 : decode cX1_reduces 29 = .ok (.iload_n 2, 1) := by decide +kernel
theorem dX1_reduces_30 : decode cX1_reduces 30 = .ok (.ishr, 1) := by decide +kernel
theorem dX1_reduces_31 : decode cX1_reduces 31 = .ok (.iconst 1, 1) := by decide +kernel
theorem dX1_reduces_32 : decode cX1_reduces 32 = .ok (.iand, 1) := by decide +kernel
theorem dX1_reduces_33 : decode cX1_reduces 33 = .ok (.iadd, 1) := by decide +kernel
theorem dX1_reduces_34 : decode cX1_reduces 34 = .ok (.iastore, 1) := by decide +kernel
theorem dX1_reduces_35 : decode cX1_reduces 35 = .ok (.iinc 1 1, 3) := by decide +kernel
theorem dX1_reduces_38 : decode cX1_reduces 38 = .ok (.goto (-36), 3) := by decide +kernel
theorem dX1_reduces_41 : decode cX1_reduces 41 = .ok (.aload_n 0, 1) := by decide +kernel
theorem dX1_reduces_42 : decode cX1_reduces 42 = .ok (.invokevirtual 95, 3) := by decide +kernel
theorem dX1_reduces_45 : decode cX1_reduces 45 = .ok (.return_, 1) := by decide +kernel
theorem dX1_reduce_0 : decode cX1_reduce 0 = .ok (.aload_n 0, 1) := by decide +kernel
theorem dX1_reduce_1 : decode cX1_reduce 1 = .ok (.invokevirtual 89, 3) := by decide +kernel
theorem dX1_reduce_4 : decode cX1_reduce 4 = .ok (.ifCond .le 6, 3) := by decide +kernel
theorem dX1_reduce_7 : decode cX1_reduce 7 = .ok (.bipush (-5), 2) := by decide +kernel
theorem dX1_reduce_9 : decode cX1_reduce 9 = .ok (.ireturn, 1) := by decide +kernel
theorem dX1_reduce_10 : decode cX1_reduce 10 = .ok (.aload_n 0, 1) := by decide +kernel
theorem dX1_reduce_11 : decode cX1_reduce 11 = .ok (.invokevirtual 98, 3) := by decide +kernel
theorem dX1_reduce_14 : decode cX1_reduce 14 = .ok (.aload_n 0, 1) := by decide +kernel
theorem dX1_reduce_15 : decode cX1_reduce 15 = .ok (.invokevirtual 82, 3) := by decide +kernel
theorem dX1_reduce_18 : decode cX1_reduce 18 = .ok (.ireturn, 1) := by decide +kernel
theorem dX1_shift_0 : decode cX1_shift 0 = .ok (.iconst 0, 1) := by decide +kernel
theorem dX1_shift_1 : decode cX1_shift 1 = .ok (.istore_n 1, 1) := by decide +kernel
theorem dX1_shift_2 : decode cX1_shift 2 = .ok (.iconst 0, 1) := by decide +kernel
theorem dX1_shift_3 : decode cX1_shift 3 = .ok (.istore_n 2, 1) := by decide +kernel
theorem dX1_shift_4 : decode cX1_shift 4 = .ok (.iload_n 2, 1) := by decide +kernel
theorem dX1_shift_5 : decode cX1_shift 5 = .ok (.aload_n 0, 1) := by decide +kernel
theorem dX1_shift_6 : decode cX1_shift 6 = .ok (.getfield 35, 3) := by decide +kernel
theorem dX1_shift_9 : decode cX1_shift 9 = .ok (.if_icmp .ge 74, 3) := by decide +kernel
theorem dX1_shift_12 : decode cX1_shift 12 = .ok (.aload_n 0, 1) := by decide +kernel
theorem dX1_shift_13 : decode cX1_shift 13 = .ok (.getfield 19, 3) := by decide +kernel
theorem dX1_shift_16 : decode cX1_shift 16 = .ok (.iload_n 2, 1) := by decide +kernel
theorem dX1_shift_17 : decode cX1_shift 17 = .ok (.aload_n 0, 1) := by decide +kernel
theorem dX1_shift_18 : decode cX1_shift 18 = .ok (.getfield 13, 3) := by decide +kernel
theorem dX1_shift_21 : decode cX1_shift 21 = .ok (.iload_n 2, 1) := by decide +kernel
theorem dX1_shift_22 : decode cX1_shift 22 = .ok (.iaload, 1) := by decide +kernel
theorem dX1_shift_23 : decode cX1_shift 23 = .ok (.bipush (-7), 2) := by decide +kernel
theorem dX1_shift_25 : decode cX1_shift 25 = .ok (.if_icmp .ne 19, 3) := by decide +kernel
theorem dX1_shift_28 : decode cX1_shift 28 = .ok (.aload_n 0, 1) := by decide +kernel
theorem dX1_shift_29 : decode cX1_shift 29 = .ok (.iload_n 2, 1) := by decide +kernel
theorem dX1_shift_30 : decode cX1_shift 30 = .ok (.invokevirtual 46, 3) := by decide +kernel
theorem dX1_shift_33 : decode cX1_shift 33 = .ok (.ifCond .ne 7, 3) := by decide +kernel
theorem dX1_shift_36 : decode cX1_shift 36 = .ok (.iconst 1, 1) := by decide +kernel
theorem dX1_shift_37 : decode cX1_shift 37 = .ok (.goto 17, 3) := by decide +kernel
theorem dX1_shift_40 : decode cX1_shift 40 = .ok (.iconst 0, 1) := by decide +kernel
theorem dX1_shift_41 : decode cX1_shift 41 = .ok (.goto 13, 3) := by decide +kernel
theorem dX1_shift_44 : decode cX1_shift 44 = .ok (.aload_n 0, 1) := by decide +kernel
theorem dX1_shift_45 : decode cX1_shift 45 = .ok (.aload_n 0, 1) := by decide +kernel
theorem dX1_shift_46 : decode cX1_shift 46 = .ok (.getfield 13, 3) := by decide +kernel
theorem dX1_shift_49 : decode cX1_shift 49 = .ok (.iload_n 2, 1) := by decide +kernel
theorem dX1_shift_50 : decode cX1_shift 50 = .ok (.iaload, 1) := by decide +kernel
theorem dX1_shift_51 : decode cX1_shift 51 = .ok (.invokevirtual 46, 3) := by decide +kernel
theorem dX1_shift_54 : decode cX1_shift 54 = .ok (.iastore, 1) := by decide +kernel
theorem dX1_shift_55 : decode cX1_shift 55 = .ok (.iload_n 1, 1) := by decide +kernel
theorem dX1_shift_56 : decode cX1_shift 56 = .ok (.aload_n 0, 1) := by decide +kernel
theorem dX1_shift_57 : decode cX1_shift 57 = .ok (.getfield 19, 3) := by decide +kernel
theorem dX1_shift_60 : decode cX1_shift 60 = .ok (.iload_n 2, 1) := by decide +kernel
theorem dX1_shift_61 : decode cX1_shift 61 = .ok (.iaload, 1) := by decide +kernel
theorem dX1_shift_62 : decode cX1_shift 62 = .ok (.aload_n 0, 1) := by decide +kernel
theorem dX1_shift_63 : decode cX1_shift 63 = .ok (.iload_n 2, 1) := by decide +kernel
theorem dX1_shift_64 : decode cX1_shift 64 = .ok (.invokevirtual 46, 3) := by decide +kernel
theorem dX1_shift_67 : decode cX1_shift 67 = .ok (.if_icmp .ne 7, 3) := by decide +kernel
theorem dX1_shift_70 : decode cX1_shift 70 = .ok (.iconst 0, 1) := by decide +kernel
theorem dX1_shift_71 : decode cX1_shift 71 = .ok (.goto 4, 3) := by decide +kernel
theorem dX1_shift_74 : decode cX1_shift 74 = .ok (.iconst 1, 1) := by decide +kernel
theorem dX1_shift_75 : decode cX1_shift 75 = .ok (.iadd, 1) := by decide +kernel
theorem dX1_shift_76 : decode cX1_shift 76 = .ok (.istore_n 1, 1) := by decide +kernel
theorem dX1_shift_77 : decode cX1_shift 77 = .ok (.iinc 2 1, 3) := by decide +kernel
theorem dX1_shift_80 : decode cX1_shift 80 = .ok (.goto (-76), 3) := by decide +kernel
theorem dX1_shift_83 : decode cX1_shift 83 = .ok (.aload_n 0, 1) := by decide +kernel
theorem dX1_shift_84 : decode cX1_shift 84 = .ok (.invokevirtual 95, 3) := by decide +kernel
theorem dX1_shift_87 : decode cX1_shift 87 = .ok (.iload_n 1, 1) := by decide +kernel
theorem dX1_shift_88 : decode cX1_shift 88 = .ok (.ireturn, 1) := by decide +kernel
theorem dX1_freeOf_0 : decode cX1_freeOf 0 = .ok (.iconst 0, 1) := by decide +kernel
theorem dX1_freeOf_1 : decode cX1_freeOf 1 = .ok (.istore_n 2, 1) := by decide +kernel
theorem dX1_freeOf_2 : decode cX1_freeOf 2 = .ok (.iload_n 2, 1) := by decide +kernel
theorem dX1_freeOf_3 : decode cX1_freeOf 3 = .ok (.iconst 3, 1) := by decide +kernel
theorem dX1_freeOf_4 : decode cX1_freeOf 4 = .ok (.if_icmp .ge 20, 3) := by decide +kernel
theorem dX1_freeOf_7 : decode cX1_freeOf 7 = .ok (.aload_n 0, 1) := by decide +kernel
theorem dX1_freeOf_8 : decode cX1_freeOf 8 = .ok (.iload_n 1, 1) := by decide +kernel
theorem dX1_freeOf_9 : decode cX1_freeOf 9 = .ok (.iload_n 2, 1) := by decide +kernel
theorem dX1_freeOf_10 : decode cX1_freeOf 10 = .ok (.invokevirtual 79, 3) := by decide +kernel
theorem dX1_freeOf_13 : decode cX1_freeOf 13 = .ok (.ifCond .ne 5, 3) := by decide +kernel
theorem dX1_freeOf_16 : decode cX1_freeOf 16 = .ok (.iload_n 2, 1) := by decide +kernel
theorem dX1_freeOf_17 : decode cX1_freeOf 17 = .ok (.ireturn, 1) := by decide +kernel
theorem dX1_freeOf_18 : decode cX1_freeOf 18 = .ok (.iinc 2 1, 3) := by decide +kernel
theorem dX1_freeOf_21 : decode cX1_freeOf 21 = .ok (.goto (-19), 3) := by decide +kernel
theorem dX1_freeOf_24 : decode cX1_freeOf 24 = .ok (.bipush (-7), 2) := by decide +kernel
theorem dX1_freeOf_26 : decode cX1_freeOf 26 = .ok (.ireturn, 1) := by decide +kernel
theorem dX1_eliminates_0 : decode cX1_eliminates 0 = .ok (.iconst 0, 1) := by decide +kernel
theorem dX1_eliminates_1 : decode cX1_eliminates 1 = .ok (.istore_n 2, 1) := by decide +kernel
theorem dX1_eliminates_2 : decode cX1_eliminates 2 = .ok (.iconst 0, 1) := by decide +kernel
theorem dX1_eliminates_3 : decode cX1_eliminates 3 = .ok (.istore_n 3, 1) := by decide +kernel
theorem dX1_eliminates_4 : decode cX1_eliminates 4 = .ok (.iload_n 3, 1) := by decide +kernel
theorem dX1_eliminates_5 : decode cX1_eliminates 5 = .ok (.aload_n 0, 1) := by decide +kernel
theorem dX1_eliminates_6 : decode cX1_eliminates 6 = .ok (.getfield 35, 3) := by decide +kernel
theorem dX1_eliminates_9 : decode cX1_eliminates 9 = .ok (.if_icmp .ge 76, 3) := by decide +kernel
theorem dX1_eliminates_12 : decode cX1_eliminates 12 = .ok (.aload_n 0, 1) := by decide +kernel
theorem dX1_eliminates_13 : decode cX1_eliminates 13 = .ok (.iload_n 3, 1) := by decide +kernel
theorem dX1_eliminates_14 : decode cX1_eliminates 14 = .ok (.invokevirtual 46, 3) := by decide +kernel
theorem dX1_eliminates_17 : decode cX1_eliminates 17 = .ok (.iload_n 1, 1) := by decide +kernel
theorem dX1_eliminates_18 : decode cX1_eliminates 18 = .ok (.if_icmp .ne 7, 3) := by decide +kernel
theorem dX1_eliminates_21 : decode cX1_eliminates 21 = .ok (.iconst 1, 1) := by decide +kernel
theorem dX1_eliminates_22 : decode cX1_eliminates 22 = .ok (.goto 4, 3) := by decide +kernel
theorem dX1_eliminates_25 : decode cX1_eliminates 25 = .ok (.iconst 0, 1) := by decide +kernel
theorem dX1_eliminates_26 : decode cX1_eliminates 26 = .ok (.istore 4, 2) := by decide +kernel
theorem dX1_eliminates_28 : decode cX1_eliminates 28 = .ok (.aload_n 0, 1) := by decide +kernel
theorem dX1_eliminates_29 : decode cX1_eliminates 29 = .ok (.getfield 19, 3) := by decide +kernel
theorem dX1_eliminates_32 : decode cX1_eliminates 32 = .ok (.iload_n 3, 1) := by decide +kernel
theorem dX1_eliminates_33 : decode cX1_eliminates 33 = .ok (.iload 4, 2) := by decide +kernel
theorem dX1_eliminates_35 : decode cX1_eliminates 35 = .ok (.ifCond .eq 11, 3) := by decide +kernel
theorem dX1_eliminates_38 : decode cX1_eliminates 38 = .ok (.aload_n 0, 1) := by decide +kernel
theorem dX1_eliminates_39 : decode cX1_eliminates 39 = .ok (.iload_n 3, 1) := by decide +kernel
theorem dX1_eliminates_40 : decode cX1_eliminates 40 = .ok (.invokevirtual 101, 3) := by decide +kernel
theorem dX1_eliminates_43 : decode cX1_eliminates 43 = .ok (.goto 8, 3) := by decide +kernel
theorem dX1_eliminates_46 : decode cX1_eliminates 46 = .ok (.aload_n 0, 1) := by decide +kernel
theorem dX1_eliminates_47 : decode cX1_eliminates 47 = .ok (.iload_n 3, 1) := by decide +kernel
theorem dX1_eliminates_48 : decode cX1_eliminates 48 = .ok (.invokevirtual 46, 3) := by decide +kernel
theorem dX1_eliminates_51 : decode cX1_eliminates 51 = .ok (.iastore, 1) := by decide +kernel
theorem dX1_eliminates_52 : decode cX1_eliminates 52 = .ok (.iload_n 2, 1) := by decide +kernel
theorem dX1_eliminates_53 : decode cX1_eliminates 53 = .ok (.iload 4, 2) := by decide +kernel
theorem dX1_eliminates_55 : decode cX1_eliminates 55 = .ok (.ifCond .eq 7, 3) := by decide +kernel
theorem dX1_eliminates_58 : decode cX1_eliminates 58 = .ok (.iconst 1, 1) := by decide +kernel
theorem dX1_eliminates_59 : decode cX1_eliminates 59 = .ok (.goto 4, 3) := by decide +kernel
theorem dX1_eliminates_62 : decode cX1_eliminates 62 = .ok (.iconst 0, 1) := by decide +kernel
theorem dX1_eliminates_63 : decode cX1_eliminates 63 = .ok (.iadd, 1) := by decide +kernel
theorem dX1_eliminates_64 : decode cX1_eliminates 64 = .ok (.istore_n 2, 1) := by decide +kernel
theorem dX1_eliminates_65 : decode cX1_eliminates 65 = .ok (.aload_n 0, 1) := by decide +kernel
theorem dX1_eliminates_66 : decode cX1_eliminates 66 = .ok (.getfield 19, 3) := by decide +kernel
theorem dX1_eliminates_69 : decode cX1_eliminates 69 = .ok (.iload_n 3, 1) := by decide +kernel
theorem dX1_eliminates_70 : decode cX1_eliminates 70 = .ok (.iaload, 1) := by decide +kernel
theorem dX1_eliminates_71 : decode cX1_eliminates 71 = .ok (.bipush (-7), 2) := by decide +kernel
theorem dX1_eliminates_73 : decode cX1_eliminates 73 = .ok (.if_icmp .ne 6, 3) := by decide +kernel
theorem dX1_eliminates_76 : decode cX1_eliminates 76 = .ok (.bipush (-6), 2) := by decide +kernel
theorem dX1_eliminates_78 : decode cX1_eliminates 78 = .ok (.ireturn, 1) := by decide +kernel
theorem dX1_eliminates_79 : decode cX1_eliminates 79 = .ok (.iinc 3 1, 3) := by decide +kernel
theorem dX1_eliminates_82 : decode cX1_eliminates 82 = .ok (.goto (-78), 3) := by decide +kernel
theorem dX1_eliminates_85 : decode cX1_eliminates 85 = .ok (.aload_n 0, 1) := by decide +kernel
theorem dX1_eliminates_86 : decode cX1_eliminates 86 = .ok (.invokevirtual 95, 3) := by decide +kernel
theorem dX1_eliminates_89 : decode cX1_eliminates 89 = .ok (.iload_n 2, 1) := by decide +kernel
theorem dX1_eliminates_90 : decode cX1_eliminates 90 = .ok (.ireturn, 1) := by decide +kernel
theorem dX1_eliminate_0 : decode cX1_eliminate 0 = .ok (.iload_n 1, 1) := by decide +kernel
theorem dX1_eliminate_1 : decode cX1_eliminate 1 = .ok (.iconst 3, 1) := by decide +kernel
theorem dX1_eliminate_2 : decode cX1_eliminate 2 = .ok (.ldc 50, 2) := by decide +kernel
theorem dX1_eliminate_4 : decode cX1_eliminate 4 = .ok (.invokestatic 39, 3) := by decide +kernel
theorem dX1_eliminate_7 : decode cX1_eliminate 7 = .ok (.ifCond .ne 6, 3) := by decide +kernel
theorem dX1_eliminate_10 : decode cX1_eliminate 10 = .ok (.bipush (-2), 2) := by decide +kernel
theorem dX1_eliminate_12 : decode cX1_eliminate 12 = .ok (.ireturn, 1) := by decide +kernel
theorem dX1_eliminate_13 : decode cX1_eliminate 13 = .ok (.aload_n 0, 1) := by decide +kernel
theorem dX1_eliminate_14 : decode cX1_eliminate 14 = .ok (.invokevirtual 89, 3) := by decide +kernel
theorem dX1_eliminate_17 : decode cX1_eliminate 17 = .ok (.ifCond .le 8, 3) := by decide +kernel
theorem dX1_eliminate_20 : decode cX1_eliminate 20 = .ok (.bipush (-5), 2) := by decide +kernel
theorem dX1_eliminate_22 : decode cX1_eliminate 22 = .ok (.goto 8, 3) := by decide +kernel
theorem dX1_eliminate_25 : decode cX1_eliminate 25 = .ok (.aload_n 0, 1) := by decide +kernel
theorem dX1_eliminate_26 : decode cX1_eliminate 26 = .ok (.iload_n 1, 1) := by decide +kernel
theorem dX1_eliminate_27 : decode cX1_eliminate 27 = .ok (.invokevirtual 104, 3) := by decide +kernel
theorem dX1_eliminate_30 : decode cX1_eliminate 30 = .ok (.ireturn, 1) := by decide +kernel
theorem dX1_reduceToThree_0 : decode cX1_reduceToThree 0 = .ok (.aload_n 0, 1) := by decide +kernel
theorem dX1_reduceToThree_1 : decode cX1_reduceToThree 1 = .ok (.invokevirtual 89, 3) := by decide +kernel
theorem dX1_reduceToThree_4 : decode cX1_reduceToThree 4 = .ok (.ifCond .le 6, 3) := by decide +kernel
theorem dX1_reduceToThree_7 : decode cX1_reduceToThree 7 = .ok (.bipush (-5), 2) := by decide +kernel
theorem dX1_reduceToThree_9 : decode cX1_reduceToThree 9 = .ok (.ireturn, 1) := by decide +kernel
theorem dX1_reduceToThree_10 : decode cX1_reduceToThree 10 = .ok (.aload_n 0, 1) := by decide +kernel
theorem dX1_reduceToThree_11 : decode cX1_reduceToThree 11 = .ok (.getfield 43, 3) := by decide +kernel
theorem dX1_reduceToThree_14 : decode cX1_reduceToThree 14 = .ok (.istore_n 1, 1) := by decide +kernel
theorem dX1_reduceToThree_15 : decode cX1_reduceToThree 15 = .ok (.aload_n 0, 1) := by decide +kernel
theorem dX1_reduceToThree_16 : decode cX1_reduceToThree 16 = .ok (.invokevirtual 82, 3) := by decide +kernel
theorem dX1_reduceToThree_19 : decode cX1_reduceToThree 19 = .ok (.iconst 5, 1) := by decide +kernel
theorem dX1_reduceToThree_20 : decode cX1_reduceToThree 20 = .ok (.if_icmp .le 10, 3) := by decide +kernel
theorem dX1_reduceToThree_23 : decode cX1_reduceToThree 23 = .ok (.aload_n 0, 1) := by decide +kernel
theorem dX1_reduceToThree_24 : decode cX1_reduceToThree 24 = .ok (.invokevirtual 98, 3) := by decide +kernel
theorem dX1_reduceToThree_27 : decode cX1_reduceToThree 27 = .ok (.goto (-12), 3) := by decide +kernel
theorem dX1_reduceToThree_30 : decode cX1_reduceToThree 30 = .ok (.iconst 5, 1) := by decide +kernel
theorem dX1_reduceToThree_31 : decode cX1_reduceToThree 31 = .ok (.istore_n 2, 1) := by decide +kernel
theorem dX1_reduceToThree_32 : decode cX1_reduceToThree 32 = .ok (.iload_n 2, 1) := by decide +kernel
theorem dX1_reduceToThree_33 : decode cX1_reduceToThree 33 = .ok (.iconst 2, 1) := by decide +kernel
theorem dX1_reduceToThree_34 : decode cX1_reduceToThree 34 = .ok (.if_icmp .le 20, 3) := by decide +kernel
theorem dX1_reduceToThree_37 : decode cX1_reduceToThree 37 = .ok (.aload_n 0, 1) := by decide +kernel
theorem dX1_reduceToThree_38 : decode cX1_reduceToThree 38 = .ok (.invokevirtual 107, 3) := by decide +kernel
theorem dX1_reduceToThree_41 : decode cX1_reduceToThree 41 = .ok (.pop, 1) := by decide +kernel
theorem dX1_reduceToThree_42 : decode cX1_reduceToThree 42 = .ok (.aload_n 0, 1) := by decide +kernel
theorem dX1_reduceToThree_43 : decode cX1_reduceToThree 43 = .ok (.iload_n 2, 1) := by decide +kernel
theorem dX1_reduceToThree_44 : decode cX1_reduceToThree 44 = .ok (.invokevirtual 104, 3) := by decide +kernel
theorem dX1_reduceToThree_47 : decode cX1_reduceToThree 47 = .ok (.pop, 1) := by decide +kernel
theorem dX1_reduceToThree_48 : decode cX1_reduceToThree 48 = .ok (.iinc 2 (-1), 3) := by decide +kernel
theorem dX1_reduceToThree_51 : decode cX1_reduceToThree 51 = .ok (.goto (-19), 3) := by decide +kernel
theorem dX1_reduceToThree_54 : decode cX1_reduceToThree 54 = .ok (.aload_n 0, 1) := by decide +kernel
theorem dX1_reduceToThree_55 : decode cX1_reduceToThree 55 = .ok (.getfield 43, 3) := by decide +kernel
theorem dX1_reduceToThree_58 : decode cX1_reduceToThree 58 = .ok (.iload_n 1, 1) := by decide +kernel
theorem dX1_reduceToThree_59 : decode cX1_reduceToThree 59 = .ok (.isub, 1) := by decide +kernel
theorem dX1_reduceToThree_60 : decode cX1_reduceToThree 60 = .ok (.ireturn, 1) := by decide +kernel
theorem dX1_roundCount_0 : decode cX1_roundCount 0 = .ok (.aload_n 0, 1) := by decide +kernel
theorem dX1_roundCount_1 : decode cX1_roundCount 1 = .ok (.getfield 43, 3) := by decide +kernel
theorem dX1_roundCount_4 : decode cX1_roundCount 4 = .ok (.ireturn, 1) := by decide +kernel
theorem dX1_pastColour_0 : decode cX1_pastColour 0 = .ok (.aload_n 0, 1) := by decide +kernel
theorem dX1_pastColour_1 : decode cX1_pastColour 1 = .ok (.iload_n 1, 1) := by decide +kernel
theorem dX1_pastColour_2 : decode cX1_pastColour 2 = .ok (.invokevirtual 58, 3) := by decide +kernel
theorem dX1_pastColour_5 : decode cX1_pastColour 5 = .ok (.ifCond .ne 5, 3) := by decide +kernel
theorem dX1_pastColour_8 : decode cX1_pastColour 8 = .ok (.iconst (-1), 1) := by decide +kernel
theorem dX1_pastColour_9 : decode cX1_pastColour 9 = .ok (.ireturn, 1) := by decide +kernel
theorem dX1_pastColour_10 : decode cX1_pastColour 10 = .ok (.iload_n 2, 1) := by decide +kernel
theorem dX1_pastColour_11 : decode cX1_pastColour 11 = .ok (.iconst 0, 1) := by decide +kernel
theorem dX1_pastColour_12 : decode cX1_pastColour 12 = .ok (.bipush 16, 2) := by decide +kernel
theorem dX1_pastColour_14 : decode cX1_pastColour 14 = .ok (.invokestatic 39, 3) := by decide +kernel
theorem dX1_pastColour_17 : decode cX1_pastColour 17 = .ok (.ifCond .ne 6, 3) := by decide +kernel
theorem dX1_pastColour_20 : decode cX1_pastColour 20 = .ok (.bipush (-2), 2) := by decide +kernel
theorem dX1_pastColour_22 : decode cX1_pastColour 22 = .ok (.ireturn, 1) := by decide +kernel
theorem dX1_pastColour_23 : decode cX1_pastColour 23 = .ok (.iload_n 2, 1) := by decide +kernel
theorem dX1_pastColour_24 : decode cX1_pastColour 24 = .ok (.aload_n 0, 1) := by decide +kernel
theorem dX1_pastColour_25 : decode cX1_pastColour 25 = .ok (.getfield 43, 3) := by decide +kernel
theorem dX1_pastColour_28 : decode cX1_pastColour 28 = .ok (.if_icmp .le 8, 3) := by decide +kernel
theorem dX1_pastColour_31 : decode cX1_pastColour 31 = .ok (.bipush (-7), 2) := by decide +kernel
theorem dX1_pastColour_33 : decode cX1_pastColour 33 = .ok (.goto 22, 3) := by decide +kernel
theorem dX1_pastColour_36 : decode cX1_pastColour 36 = .ok (.aload_n 0, 1) := by decide +kernel
theorem dX1_pastColour_37 : decode cX1_pastColour 37 = .ok (.getfield 16, 3) := by decide +kernel
theorem dX1_pastColour_40 : decode cX1_pastColour 40 = .ok (.bipush 24, 2) := by decide +kernel
theorem dX1_pastColour_42 : decode cX1_pastColour 42 = .ok (.aload_n 0, 1) := by decide +kernel
theorem dX1_pastColour_43 : decode cX1_pastColour 43 = .ok (.getfield 43, 3) := by decide +kernel
theorem dX1_pastColour_46 : decode cX1_pastColour 46 = .ok (.iload_n 2, 1) := by decide +kernel
theorem dX1_pastColour_47 : decode cX1_pastColour 47 = .ok (.isub, 1) := by decide +kernel
theorem dX1_pastColour_48 : decode cX1_pastColour 48 = .ok (.bipush 17, 2) := by decide +kernel
theorem dX1_pastColour_50 : decode cX1_pastColour 50 = .ok (.irem, 1) := by decide +kernel
theorem dX1_pastColour_51 : decode cX1_pastColour 51 = .ok (.imul, 1) := by decide +kernel
theorem dX1_pastColour_52 : decode cX1_pastColour 52 = .ok (.iload_n 1, 1) := by decide +kernel
theorem dX1_pastColour_53 : decode cX1_pastColour 53 = .ok (.iadd, 1) := by decide +kernel
theorem dX1_pastColour_54 : decode cX1_pastColour 54 = .ok (.iaload, 1) := by decide +kernel
theorem dX1_pastColour_55 : decode cX1_pastColour 55 = .ok (.ireturn, 1) := by decide +kernel
theorem dX1_buildSet_0 : decode cX1_buildSet 0 = .ok (.iconst 0, 1) := by decide +kernel
theorem dX1_buildSet_1 : decode cX1_buildSet 1 = .ok (.istore_n 1, 1) := by decide +kernel
theorem dX1_buildSet_2 : decode cX1_buildSet 2 = .ok (.iconst 0, 1) := by decide +kernel
theorem dX1_buildSet_3 : decode cX1_buildSet 3 = .ok (.istore_n 2, 1) := by decide +kernel
theorem dX1_buildSet_4 : decode cX1_buildSet 4 = .ok (.iload_n 2, 1) := by decide +kernel
theorem dX1_buildSet_5 : decode cX1_buildSet 5 = .ok (.aload_n 0, 1) := by decide +kernel
theorem dX1_buildSet_6 : decode cX1_buildSet 6 = .ok (.getfield 35, 3) := by decide +kernel
theorem dX1_buildSet_9 : decode cX1_buildSet 9 = .ok (.if_icmp .ge 16, 3) := by decide +kernel
theorem dX1_buildSet_12 : decode cX1_buildSet 12 = .ok (.aload_n 0, 1) := by decide +kernel
theorem dX1_buildSet_13 : decode cX1_buildSet 13 = .ok (.getfield 22, 3) := by decide +kernel
theorem dX1_buildSet_16 : decode cX1_buildSet 16 = .ok (.iload_n 2, 1) := by decide +kernel
theorem dX1_buildSet_17 : decode cX1_buildSet 17 = .ok (.iconst 0, 1) := by decide +kernel
theorem dX1_buildSet_18 : decode cX1_buildSet 18 = .ok (.bastore, 1) := by decide +kernel
theorem dX1_buildSet_19 : decode cX1_buildSet 19 = .ok (.iinc 2 1, 3) := by decide +kernel
theorem dX1_buildSet_22 : decode cX1_buildSet 22 = .ok (.goto (-18), 3) := by decide +kernel
theorem dX1_buildSet_25 : decode cX1_buildSet 25 = .ok (.iconst (-1), 1) := by decide +kernel
theorem dX1_buildSet_26 : decode cX1_buildSet 26 = .ok (.istore_n 2, 1) := by decide +kernel
theorem dX1_buildSet_27 : decode cX1_buildSet 27 = .ok (.bipush 24, 2) := by decide +kernel
theorem dX1_buildSet_29 : decode cX1_buildSet 29 = .ok (.istore_n 3, 1) := by decide +kernel
theorem dX1_buildSet_30 : decode cX1_buildSet 30 = .ok (.iconst 0, 1) := by decide +kernel
theorem dX1_buildSet_31 : decode cX1_buildSet 31 = .ok (.istore 4, 2) := by decide +kernel
theorem dX1_buildSet_33 : decode cX1_buildSet 33 = .ok (.iload 4, 2) := by decide +kernel
theorem dX1_buildSet_35 : decode cX1_buildSet 35 = .ok (.aload_n 0, 1) := by decide +kernel
theorem dX1_buildSet_36 : decode cX1_buildSet 36 = .ok (.getfield 35, 3) := by decide +kernel
theorem dX1_buildSet_39 : decode cX1_buildSet 39 = .ok (.if_icmp .ge 186, 3) := by decide +kernel
theorem dX1_buildSet_42 : decode cX1_buildSet 42 = .ok (.bipush (-7), 2) := by decide +kernel
theorem dX1_buildSet_44 : decode cX1_buildSet 44 = .ok (.istore 5, 2) := by decide +kernel
theorem dX1_buildSet_46 : decode cX1_buildSet 46 = .ok (.iconst 0, 1) := by decide +kernel
theorem dX1_buildSet_47 : decode cX1_buildSet 47 = .ok (.istore 6, 2) := by decide +kernel
theorem dX1_buildSet_49 : decode cX1_buildSet 49 = .ok (.iload 6, 2) := by decide +kernel
theorem dX1_buildSet_51 : decode cX1_buildSet 51 = .ok (.aload_n 0, 1) := by decide +kernel
theorem dX1_buildSet_52 : decode cX1_buildSet 52 = .ok (.getfield 35, 3) := by decide +kernel
theorem dX1_buildSet_55 : decode cX1_buildSet 55 = .ok (.if_icmp .ge 78, 3) := by decide +kernel
theorem dX1_buildSet_58 : decode cX1_buildSet 58 = .ok (.aload_n 0, 1) := by decide +kernel
theorem dX1_buildSet_59 : decode cX1_buildSet 59 = .ok (.iload 6, 2) := by decide +kernel
theorem dX1_buildSet_61 : decode cX1_buildSet 61 = .ok (.invokevirtual 46, 3) := by decide +kernel
theorem dX1_buildSet_64 : decode cX1_buildSet 64 = .ok (.iload_n 2, 1) := by decide +kernel
theorem dX1_buildSet_65 : decode cX1_buildSet 65 = .ok (.if_icmp .gt 19, 3) := by decide +kernel
theorem dX1_buildSet_68 : decode cX1_buildSet 68 = .ok (.aload_n 0, 1) := by decide +kernel
theorem dX1_buildSet_69 : decode cX1_buildSet 69 = .ok (.iload 6, 2) := by decide +kernel
theorem dX1_buildSet_71 : decode cX1_buildSet 71 = .ok (.invokevirtual 46, 3) := by decide +kernel
theorem dX1_buildSet_74 : decode cX1_buildSet 74 = .ok (.iload_n 2, 1) := by decide +kernel
theorem dX1_buildSet_75 : decode cX1_buildSet 75 = .ok (.if_icmp .ne 13, 3) := by decide +kernel
theorem dX1_buildSet_78 : decode cX1_buildSet 78 = .ok (.iload 6, 2) := by decide +kernel
theorem dX1_buildSet_80 : decode cX1_buildSet 80 = .ok (.iload_n 3, 1) := by decide +kernel
theorem dX1_buildSet_81 : decode cX1_buildSet 81 = .ok (.if_icmp .le 7, 3) := by decide +kernel
theorem dX1_buildSet_84 : decode cX1_buildSet 84 = .ok (.iconst 1, 1) := by decide +kernel
theorem dX1_buildSet_85 : decode cX1_buildSet 85 = .ok (.goto 4, 3) := by decide +kernel
theorem dX1_buildSet_88 : decode cX1_buildSet 88 = .ok (.iconst 0, 1) := by decide +kernel
theorem dX1_buildSet_89 : decode cX1_buildSet 89 = .ok (.istore 7, 2) := by decide +kernel
theorem dX1_buildSet_91 : decode cX1_buildSet 91 = .ok (.iload 7, 2) := by decide +kernel
theorem dX1_buildSet_93 : decode cX1_buildSet 93 = .ok (.ifCond .eq 30, 3) := by decide +kernel
theorem dX1_buildSet_96 : decode cX1_buildSet 96 = .ok (.iload 5, 2) := by decide +kernel
theorem dX1_buildSet_98 : decode cX1_buildSet 98 = .ok (.bipush (-7), 2) := by decide +kernel
theorem dX1_buildSet_100 : decode cX1_buildSet 100 = .ok (.if_icmp .eq 18, 3) := by decide +kernel
theorem dX1_buildSet_103 : decode cX1_buildSet 103 = .ok (.aload_n 0, 1) := by decide +kernel
theorem dX1_buildSet_104 : decode cX1_buildSet 104 = .ok (.iload 6, 2) := by decide +kernel
theorem dX1_buildSet_106 : decode cX1_buildSet 106 = .ok (.invokevirtual 46, 3) := by decide +kernel
theorem dX1_buildSet_109 : decode cX1_buildSet 109 = .ok (.aload_n 0, 1) := by decide +kernel
theorem dX1_buildSet_110 : decode cX1_buildSet 110 = .ok (.iload 5, 2) := by decide +kernel
theorem dX1_buildSet_112 : decode cX1_buildSet 112 = .ok (.invokevirtual 46, 3) := by decide +kernel
theorem dX1_buildSet_115 : decode cX1_buildSet 115 = .ok (.if_icmp .ge 8, 3) := by decide +kernel
theorem dX1_buildSet_118 : decode cX1_buildSet 118 = .ok (.iload 6, 2) := by decide +kernel
theorem dX1_buildSet_120 : decode cX1_buildSet 120 = .ok (.goto 5, 3) := by decide +kernel
theorem dX1_buildSet_123 : decode cX1_buildSet 123 = .ok (.iload 5, 2) := by decide +kernel
theorem dX1_buildSet_125 : decode cX1_buildSet 125 = .ok (.istore 5, 2) := by decide +kernel
theorem dX1_buildSet_127 : decode cX1_buildSet 127 = .ok (.iinc 6 1, 3) := by decide +kernel
theorem dX1_buildSet_130 : decode cX1_buildSet 130 = .ok (.goto (-81), 3) := by decide +kernel
theorem dX1_buildSet_133 : decode cX1_buildSet 133 = .ok (.aload_n 0, 1) := by decide +kernel
theorem dX1_buildSet_134 : decode cX1_buildSet 134 = .ok (.iload 5, 2) := by decide +kernel
theorem dX1_buildSet_136 : decode cX1_buildSet 136 = .ok (.invokevirtual 46, 3) := by decide +kernel
theorem dX1_buildSet_139 : decode cX1_buildSet 139 = .ok (.istore_n 2, 1) := by decide +kernel
theorem dX1_buildSet_140 : decode cX1_buildSet 140 = .ok (.iload 5, 2) := by decide +kernel
theorem dX1_buildSet_142 : decode cX1_buildSet 142 = .ok (.istore_n 3, 1) := by decide +kernel
theorem dX1_buildSet_143 : decode cX1_buildSet 143 = .ok (.iconst 1, 1) := by decide +kernel
theorem dX1_buildSet_144 : decode cX1_buildSet 144 = .ok (.istore 6, 2) := by decide +kernel
theorem dX1_buildSet_146 : decode cX1_buildSet 146 = .ok (.iconst 0, 1) := by decide +kernel
theorem dX1_buildSet_147 : decode cX1_buildSet 147 = .ok (.istore 7, 2) := by decide +kernel
theorem dX1_buildSet_149 : decode cX1_buildSet 149 = .ok (.iload 7, 2) := by decide +kernel
theorem dX1_buildSet_151 : decode cX1_buildSet 151 = .ok (.aload_n 0, 1) := by decide +kernel
theorem dX1_buildSet_152 : decode cX1_buildSet 152 = .ok (.getfield 35, 3) := by decide +kernel
theorem dX1_buildSet_155 : decode cX1_buildSet 155 = .ok (.if_icmp .ge 42, 3) := by decide +kernel
theorem dX1_buildSet_158 : decode cX1_buildSet 158 = .ok (.iload 6, 2) := by decide +kernel
theorem dX1_buildSet_160 : decode cX1_buildSet 160 = .ok (.ifCond .eq 28, 3) := by decide +kernel
theorem dX1_buildSet_163 : decode cX1_buildSet 163 = .ok (.aload_n 0, 1) := by decide +kernel
theorem dX1_buildSet_164 : decode cX1_buildSet 164 = .ok (.getfield 22, 3) := by decide +kernel
theorem dX1_buildSet_167 : decode cX1_buildSet 167 = .ok (.iload 7, 2) := by decide +kernel
theorem dX1_buildSet_169 : decode cX1_buildSet 169 = .ok (.baload, 1) := by decide +kernel
theorem dX1_buildSet_170 : decode cX1_buildSet 170 = .ok (.ifCond .eq 14, 3) := by decide +kernel
theorem dX1_buildSet_173 : decode cX1_buildSet 173 = .ok (.aload_n 0, 1) := by decide +kernel
theorem dX1_buildSet_174 : decode cX1_buildSet 174 = .ok (.iload 5, 2) := by decide +kernel
theorem dX1_buildSet_176 : decode cX1_buildSet 176 = .ok (.iload 7, 2) := by decide +kernel
theorem dX1_buildSet_178 : decode cX1_buildSet 178 = .ok (.invokevirtual 66, 3) := by decide +kernel
theorem dX1_buildSet_181 : decode cX1_buildSet 181 = .ok (.ifCond .ne 7, 3) := by decide +kernel
theorem dX1_buildSet_184 : decode cX1_buildSet 184 = .ok (.iconst 1, 1) := by decide +kernel
theorem dX1_buildSet_185 : decode cX1_buildSet 185 = .ok (.goto 4, 3) := by decide +kernel
theorem dX1_buildSet_188 : decode cX1_buildSet 188 = .ok (.iconst 0, 1) := by decide +kernel
theorem dX1_buildSet_189 : decode cX1_buildSet 189 = .ok (.istore 6, 2) := by decide +kernel
theorem dX1_buildSet_191 : decode cX1_buildSet 191 = .ok (.iinc 7 1, 3) := by decide +kernel
theorem dX1_buildSet_194 : decode cX1_buildSet 194 = .ok (.goto (-45), 3) := by decide +kernel
theorem dX1_buildSet_197 : decode cX1_buildSet 197 = .ok (.aload_n 0, 1) := by decide +kernel
theorem dX1_buildSet_198 : decode cX1_buildSet 198 = .ok (.getfield 22, 3) := by decide +kernel
theorem dX1_buildSet_201 : decode cX1_buildSet 201 = .ok (.iload 5, 2) := by decide +kernel
theorem dX1_buildSet_203 : decode cX1_buildSet 203 = .ok (.iload 6, 2) := by decide +kernel
theorem dX1_buildSet_205 : decode cX1_buildSet 205 = .ok (.bastore, 1) := by decide +kernel
theorem dX1_buildSet_206 : decode cX1_buildSet 206 = .ok (.iload_n 1, 1) := by decide +kernel
theorem dX1_buildSet_207 : decode cX1_buildSet 207 = .ok (.iload 6, 2) := by decide +kernel
theorem dX1_buildSet_209 : decode cX1_buildSet 209 = .ok (.ifCond .eq 7, 3) := by decide +kernel
theorem dX1_buildSet_212 : decode cX1_buildSet 212 = .ok (.iconst 1, 1) := by decide +kernel
theorem dX1_buildSet_213 : decode cX1_buildSet 213 = .ok (.goto 4, 3) := by decide +kernel
theorem dX1_buildSet_216 : decode cX1_buildSet 216 = .ok (.iconst 0, 1) := by decide +kernel
theorem dX1_buildSet_217 : decode cX1_buildSet 217 = .ok (.iadd, 1) := by decide +kernel
theorem dX1_buildSet_218 : decode cX1_buildSet 218 = .ok (.istore_n 1, 1) := by decide +kernel
theorem dX1_buildSet_219 : decode cX1_buildSet 219 = .ok (.iinc 4 1, 3) := by decide +kernel
theorem dX1_buildSet_222 : decode cX1_buildSet 222 = .ok (.goto (-189), 3) := by decide +kernel
theorem dX1_buildSet_225 : decode cX1_buildSet 225 = .ok (.iload_n 1, 1) := by decide +kernel
theorem dX1_buildSet_226 : decode cX1_buildSet 226 = .ok (.ireturn, 1) := by decide +kernel
theorem dX1_inIndependentSet_0 : decode cX1_inIndependentSet 0 = .ok (.aload_n 0, 1) := by decide +kernel
theorem dX1_inIndependentSet_1 : decode cX1_inIndependentSet 1 = .ok (.iload_n 1, 1) := by decide +kernel
theorem dX1_inIndependentSet_2 : decode cX1_inIndependentSet 2 = .ok (.invokevirtual 58, 3) := by decide +kernel
theorem dX1_inIndependentSet_5 : decode cX1_inIndependentSet 5 = .ok (.ifCond .ne 5, 3) := by decide +kernel
theorem dX1_inIndependentSet_8 : decode cX1_inIndependentSet 8 = .ok (.iconst (-1), 1) := by decide +kernel
theorem dX1_inIndependentSet_9 : decode cX1_inIndependentSet 9 = .ok (.ireturn, 1) := by decide +kernel
theorem dX1_inIndependentSet_10 : decode cX1_inIndependentSet 10 = .ok (.aload_n 0, 1) := by decide +kernel
theorem dX1_inIndependentSet_11 : decode cX1_inIndependentSet 11 = .ok (.invokevirtual 89, 3) := by decide +kernel
theorem dX1_inIndependentSet_14 : decode cX1_inIndependentSet 14 = .ok (.ifCond .le 6, 3) := by decide +kernel
theorem dX1_inIndependentSet_17 : decode cX1_inIndependentSet 17 = .ok (.bipush (-5), 2) := by decide +kernel
theorem dX1_inIndependentSet_19 : decode cX1_inIndependentSet 19 = .ok (.ireturn, 1) := by decide +kernel
theorem dX1_inIndependentSet_20 : decode cX1_inIndependentSet 20 = .ok (.aload_n 0, 1) := by decide +kernel
theorem dX1_inIndependentSet_21 : decode cX1_inIndependentSet 21 = .ok (.invokevirtual 110, 3) := by decide +kernel
theorem dX1_inIndependentSet_24 : decode cX1_inIndependentSet 24 = .ok (.pop, 1) := by decide +kernel
theorem dX1_inIndependentSet_25 : decode cX1_inIndependentSet 25 = .ok (.aload_n 0, 1) := by decide +kernel
theorem dX1_inIndependentSet_26 : decode cX1_inIndependentSet 26 = .ok (.getfield 22, 3) := by decide +kernel
theorem dX1_inIndependentSet_29 : decode cX1_inIndependentSet 29 = .ok (.iload_n 1, 1) := by decide +kernel
theorem dX1_inIndependentSet_30 : decode cX1_inIndependentSet 30 = .ok (.baload, 1) := by decide +kernel
theorem dX1_inIndependentSet_31 : decode cX1_inIndependentSet 31 = .ok (.ifCond .eq 7, 3) := by decide +kernel
theorem dX1_inIndependentSet_34 : decode cX1_inIndependentSet 34 = .ok (.iconst 1, 1) := by decide +kernel
theorem dX1_inIndependentSet_35 : decode cX1_inIndependentSet 35 = .ok (.goto 4, 3) := by decide +kernel
theorem dX1_inIndependentSet_38 : decode cX1_inIndependentSet 38 = .ok (.iconst 0, 1) := by decide +kernel
theorem dX1_inIndependentSet_39 : decode cX1_inIndependentSet 39 = .ok (.ireturn, 1) := by decide +kernel
theorem dX1_independentSetSize_0 : decode cX1_independentSetSize 0 = .ok (.aload_n 0, 1) := by decide +kernel
theorem dX1_independentSetSize_1 : decode cX1_independentSetSize 1 = .ok (.invokevirtual 89, 3) := by decide +kernel
theorem dX1_independentSetSize_4 : decode cX1_independentSetSize 4 = .ok (.ifCond .le 8, 3) := by decide +kernel
theorem dX1_independentSetSize_7 : decode cX1_independentSetSize 7 = .ok (.bipush (-5), 2) := by decide +kernel
theorem dX1_independentSetSize_9 : decode cX1_independentSetSize 9 = .ok (.goto 7, 3) := by decide +kernel
theorem dX1_independentSetSize_12 : decode cX1_independentSetSize 12 = .ok (.aload_n 0, 1) := by decide +kernel
theorem dX1_independentSetSize_13 : decode cX1_independentSetSize 13 = .ok (.invokevirtual 110, 3) := by decide +kernel
theorem dX1_independentSetSize_16 : decode cX1_independentSetSize 16 = .ok (.ireturn, 1) := by decide +kernel
theorem dX1_greater_0 : decode cX1_greater 0 = .ok (.iload_n 0, 1) := by decide +kernel
theorem dX1_greater_1 : decode cX1_greater 1 = .ok (.iload_n 1, 1) := by decide +kernel
theorem dX1_greater_2 : decode cX1_greater 2 = .ok (.if_icmp .le 7, 3) := by decide +kernel
theorem dX1_greater_5 : decode cX1_greater 5 = .ok (.iload_n 0, 1) := by decide +kernel
theorem dX1_greater_6 : decode cX1_greater 6 = .ok (.goto 4, 3) := by decide +kernel
theorem dX1_greater_9 : decode cX1_greater 9 = .ok (.iload_n 1, 1) := by decide +kernel
theorem dX1_greater_10 : decode cX1_greater 10 = .ok (.ireturn, 1) := by decide +kernel
theorem dX1_takesTrees_0 : decode cX1_takesTrees 0 = .ok (.iconst 0, 1) := by decide +kernel
theorem dX1_takesTrees_1 : decode cX1_takesTrees 1 = .ok (.istore_n 1, 1) := by decide +kernel
theorem dX1_takesTrees_2 : decode cX1_takesTrees 2 = .ok (.iload_n 1, 1) := by decide +kernel
theorem dX1_takesTrees_3 : decode cX1_takesTrees 3 = .ok (.aload_n 0, 1) := by decide +kernel
theorem dX1_takesTrees_4 : decode cX1_takesTrees 4 = .ok (.getfield 35, 3) := by decide +kernel
theorem dX1_takesTrees_7 : decode cX1_takesTrees 7 = .ok (.if_icmp .ge 30, 3) := by decide +kernel
theorem dX1_takesTrees_10 : decode cX1_takesTrees 10 = .ok (.aload_n 0, 1) := by decide +kernel
theorem dX1_takesTrees_11 : decode cX1_takesTrees 11 = .ok (.getfield 26, 3) := by decide +kernel
theorem dX1_takesTrees_14 : decode cX1_takesTrees 14 = .ok (.iload_n 1, 1) := by decide +kernel
theorem dX1_takesTrees_15 : decode cX1_takesTrees 15 = .ok (.iconst 1, 1) := by decide +kernel
theorem dX1_takesTrees_16 : decode cX1_takesTrees 16 = .ok (.iastore, 1) := by decide +kernel
theorem dX1_takesTrees_17 : decode cX1_takesTrees 17 = .ok (.aload_n 0, 1) := by decide +kernel
theorem dX1_takesTrees_18 : decode cX1_takesTrees 18 = .ok (.getfield 29, 3) := by decide +kernel
theorem dX1_takesTrees_21 : decode cX1_takesTrees 21 = .ok (.iload_n 1, 1) := by decide +kernel
theorem dX1_takesTrees_22 : decode cX1_takesTrees 22 = .ok (.iconst 0, 1) := by decide +kernel
theorem dX1_takesTrees_23 : decode cX1_takesTrees 23 = .ok (.iastore, 1) := by decide +kernel
theorem dX1_takesTrees_24 : decode cX1_takesTrees 24 = .ok (.aload_n 0, 1) := by decide +kernel
theorem dX1_takesTrees_25 : decode cX1_takesTrees 25 = .ok (.getfield 32, 3) := by decide +kernel
theorem dX1_takesTrees_28 : decode cX1_takesTrees 28 = .ok (.iload_n 1, 1) := by decide +kernel
theorem dX1_takesTrees_29 : decode cX1_takesTrees 29 = .ok (.iconst 0, 1) := by decide +kernel
theorem dX1_takesTrees_30 : decode cX1_takesTrees 30 = .ok (.iastore, 1) := by decide +kernel
theorem dX1_takesTrees_31 : decode cX1_takesTrees 31 = .ok (.iinc 1 1, 3) := by decide +kernel
theorem dX1_takesTrees_34 : decode cX1_takesTrees 34 = .ok (.goto (-32), 3) := by decide +kernel
theorem dX1_takesTrees_37 : decode cX1_takesTrees 37 = .ok (.iconst 0, 1) := by decide +kernel
theorem dX1_takesTrees_38 : decode cX1_takesTrees 38 = .ok (.istore_n 1, 1) := by decide +kernel
theorem dX1_takesTrees_39 : decode cX1_takesTrees 39 = .ok (.iload_n 1, 1) := by decide +kernel
theorem dX1_takesTrees_40 : decode cX1_takesTrees 40 = .ok (.aload_n 0, 1) := by decide +kernel
theorem dX1_takesTrees_41 : decode cX1_takesTrees 41 = .ok (.getfield 35, 3) := by decide +kernel
theorem dX1_takesTrees_44 : decode cX1_takesTrees 44 = .ok (.if_icmp .ge 35, 3) := by decide +kernel
theorem dX1_takesTrees_47 : decode cX1_takesTrees 47 = .ok (.aload_n 0, 1) := by decide +kernel
theorem dX1_takesTrees_48 : decode cX1_takesTrees 48 = .ok (.getfield 13, 3) := by decide +kernel
theorem dX1_takesTrees_51 : decode cX1_takesTrees 51 = .ok (.iload_n 1, 1) := by decide +kernel
theorem dX1_takesTrees_52 : decode cX1_takesTrees 52 = .ok (.iaload, 1) := by decide +kernel
theorem dX1_takesTrees_53 : decode cX1_takesTrees 53 = .ok (.bipush (-7), 2) := by decide +kernel
theorem dX1_takesTrees_55 : decode cX1_takesTrees 55 = .ok (.if_icmp .eq 18, 3) := by decide +kernel
theorem dX1_takesTrees_58 : decode cX1_takesTrees 58 = .ok (.aload_n 0, 1) := by decide +kernel
theorem dX1_takesTrees_59 : decode cX1_takesTrees 59 = .ok (.getfield 32, 3) := by decide +kernel
theorem dX1_takesTrees_62 : decode cX1_takesTrees 62 = .ok (.aload_n 0, 1) := by decide +kernel
theorem dX1_takesTrees_63 : decode cX1_takesTrees 63 = .ok (.getfield 13, 3) := by decide +kernel
theorem dX1_takesTrees_66 : decode cX1_takesTrees 66 = .ok (.iload_n 1, 1) := by decide +kernel
theorem dX1_takesTrees_67 : decode cX1_takesTrees 67 = .ok (.iaload, 1) := by decide +kernel
theorem dX1_takesTrees_68 : decode cX1_takesTrees 68 = .ok (.dup2, 1) := by decide +kernel
theorem dX1_takesTrees_69 : decode cX1_takesTrees 69 = .ok (.iaload, 1) := by decide +kernel
theorem dX1_takesTrees_70 : decode cX1_takesTrees 70 = .ok (.iconst 1, 1) := by decide +kernel
theorem dX1_takesTrees_71 : decode cX1_takesTrees 71 = .ok (.iadd, 1) := by decide +kernel
theorem dX1_takesTrees_72 : decode cX1_takesTrees 72 = .ok (.iastore, 1) := by decide +kernel
theorem dX1_takesTrees_73 : decode cX1_takesTrees 73 = .ok (.iinc 1 1, 3) := by decide +kernel
theorem dX1_takesTrees_76 : decode cX1_takesTrees 76 = .ok (.goto (-37), 3) := by decide +kernel
theorem dX1_takesTrees_79 : decode cX1_takesTrees 79 = .ok (.iconst 0, 1) := by decide +kernel
theorem dX1_takesTrees_80 : decode cX1_takesTrees 80 = .ok (.istore_n 1, 1) := by decide +kernel
theorem dX1_takesTrees_81 : decode cX1_takesTrees 81 = .ok (.iload_n 1, 1) := by decide +kernel
theorem dX1_takesTrees_82 : decode cX1_takesTrees 82 = .ok (.aload_n 0, 1) := by decide +kernel
theorem dX1_takesTrees_83 : decode cX1_takesTrees 83 = .ok (.getfield 35, 3) := by decide +kernel
theorem dX1_takesTrees_86 : decode cX1_takesTrees 86 = .ok (.if_icmp .ge 117, 3) := by decide +kernel
theorem dX1_takesTrees_89 : decode cX1_takesTrees 89 = .ok (.iconst 0, 1) := by decide +kernel
theorem dX1_takesTrees_90 : decode cX1_takesTrees 90 = .ok (.istore_n 2, 1) := by decide +kernel
theorem dX1_takesTrees_91 : decode cX1_takesTrees 91 = .ok (.iload_n 2, 1) := by decide +kernel
theorem dX1_takesTrees_92 : decode cX1_takesTrees 92 = .ok (.aload_n 0, 1) := by decide +kernel
theorem dX1_takesTrees_93 : decode cX1_takesTrees 93 = .ok (.getfield 35, 3) := by decide +kernel
theorem dX1_takesTrees_96 : decode cX1_takesTrees 96 = .ok (.if_icmp .ge 101, 3) := by decide +kernel
theorem dX1_takesTrees_99 : decode cX1_takesTrees 99 = .ok (.aload_n 0, 1) := by decide +kernel
theorem dX1_takesTrees_100 : decode cX1_takesTrees 100 = .ok (.getfield 32, 3) := by decide +kernel
theorem dX1_takesTrees_103 : decode cX1_takesTrees 103 = .ok (.iload_n 2, 1) := by decide +kernel
theorem dX1_takesTrees_104 : decode cX1_takesTrees 104 = .ok (.iaload, 1) := by decide +kernel
theorem dX1_takesTrees_105 : decode cX1_takesTrees 105 = .ok (.ifCond .ne 86, 3) := by decide +kernel
theorem dX1_takesTrees_108 : decode cX1_takesTrees 108 = .ok (.aload_n 0, 1) := by decide +kernel
theorem dX1_takesTrees_109 : decode cX1_takesTrees 109 = .ok (.getfield 32, 3) := by decide +kernel
theorem dX1_takesTrees_112 : decode cX1_takesTrees 112 = .ok (.iload_n 2, 1) := by decide +kernel
theorem dX1_takesTrees_113 : decode cX1_takesTrees 113 = .ok (.bipush (-7), 2) := by decide +kernel
theorem dX1_takesTrees_115 : decode cX1_takesTrees 115 = .ok (.iastore, 1) := by decide +kernel
theorem dX1_takesTrees_116 : decode cX1_takesTrees 116 = .ok (.aload_n 0, 1) := by decide +kernel
theorem dX1_takesTrees_117 : decode cX1_takesTrees 117 = .ok (.getfield 13, 3) := by decide +kernel
theorem dX1_takesTrees_120 : decode cX1_takesTrees 120 = .ok (.iload_n 2, 1) := by decide +kernel
theorem dX1_takesTrees_121 : decode cX1_takesTrees 121 = .ok (.iaload, 1) := by decide +kernel
theorem dX1_takesTrees_122 : decode cX1_takesTrees 122 = .ok (.bipush (-7), 2) := by decide +kernel
theorem dX1_takesTrees_124 : decode cX1_takesTrees 124 = .ok (.if_icmp .eq 67, 3) := by decide +kernel
theorem dX1_takesTrees_127 : decode cX1_takesTrees 127 = .ok (.aload_n 0, 1) := by decide +kernel
theorem dX1_takesTrees_128 : decode cX1_takesTrees 128 = .ok (.getfield 26, 3) := by decide +kernel
theorem dX1_takesTrees_131 : decode cX1_takesTrees 131 = .ok (.aload_n 0, 1) := by decide +kernel
theorem dX1_takesTrees_132 : decode cX1_takesTrees 132 = .ok (.getfield 13, 3) := by decide +kernel
theorem dX1_takesTrees_135 : decode cX1_takesTrees 135 = .ok (.iload_n 2, 1) := by decide +kernel
theorem dX1_takesTrees_136 : decode cX1_takesTrees 136 = .ok (.iaload, 1) := by decide +kernel
theorem dX1_takesTrees_137 : decode cX1_takesTrees 137 = .ok (.dup2, 1) := by decide +kernel
theorem dX1_takesTrees_138 : decode cX1_takesTrees 138 = .ok (.iaload, 1) := by decide +kernel
theorem dX1_takesTrees_139 : decode cX1_takesTrees 139 = .ok (.aload_n 0, 1) := by decide +kernel
theorem dX1_takesTrees_140 : decode cX1_takesTrees 140 = .ok (.getfield 29, 3) := by decide +kernel
theorem dX1_takesTrees_143 : decode cX1_takesTrees 143 = .ok (.iload_n 2, 1) := by decide +kernel
theorem dX1_takesTrees_144 : decode cX1_takesTrees 144 = .ok (.iaload, 1) := by decide +kernel
theorem dX1_takesTrees_145 : decode cX1_takesTrees 145 = .ok (.iadd, 1) := by decide +kernel
theorem dX1_takesTrees_146 : decode cX1_takesTrees 146 = .ok (.iastore, 1) := by decide +kernel
theorem dX1_takesTrees_147 : decode cX1_takesTrees 147 = .ok (.aload_n 0, 1) := by decide +kernel
theorem dX1_takesTrees_148 : decode cX1_takesTrees 148 = .ok (.getfield 29, 3) := by decide +kernel
theorem dX1_takesTrees_151 : decode cX1_takesTrees 151 = .ok (.aload_n 0, 1) := by decide +kernel
theorem dX1_takesTrees_152 : decode cX1_takesTrees 152 = .ok (.getfield 13, 3) := by decide +kernel
theorem dX1_takesTrees_155 : decode cX1_takesTrees 155 = .ok (.iload_n 2, 1) := by decide +kernel
theorem dX1_takesTrees_156 : decode cX1_takesTrees 156 = .ok (.iaload, 1) := by decide +kernel
theorem dX1_takesTrees_157 : decode cX1_takesTrees 157 = .ok (.dup2, 1) := by decide +kernel
theorem dX1_takesTrees_158 : decode cX1_takesTrees 158 = .ok (.iaload, 1) := by decide +kernel
theorem dX1_takesTrees_159 : decode cX1_takesTrees 159 = .ok (.aload_n 0, 1) := by decide +kernel
theorem dX1_takesTrees_160 : decode cX1_takesTrees 160 = .ok (.getfield 26, 3) := by decide +kernel
theorem dX1_takesTrees_163 : decode cX1_takesTrees 163 = .ok (.iload_n 2, 1) := by decide +kernel
theorem dX1_takesTrees_164 : decode cX1_takesTrees 164 = .ok (.iaload, 1) := by decide +kernel
theorem dX1_takesTrees_165 : decode cX1_takesTrees 165 = .ok (.aload_n 0, 1) := by decide +kernel
theorem dX1_takesTrees_166 : decode cX1_takesTrees 166 = .ok (.getfield 29, 3) := by decide +kernel
theorem dX1_takesTrees_169 : decode cX1_takesTrees 169 = .ok (.iload_n 2, 1) := by decide +kernel
theorem dX1_takesTrees_170 : decode cX1_takesTrees 170 = .ok (.iaload, 1) := by decide +kernel
theorem dX1_takesTrees_171 : decode cX1_takesTrees 171 = .ok (.invokestatic 113, 3) := by decide +kernel
theorem dX1_takesTrees_174 : decode cX1_takesTrees 174 = .ok (.iadd, 1) := by decide +kernel
theorem dX1_takesTrees_175 : decode cX1_takesTrees 175 = .ok (.iastore, 1) := by decide +kernel
theorem dX1_takesTrees_176 : decode cX1_takesTrees 176 = .ok (.aload_n 0, 1) := by decide +kernel
theorem dX1_takesTrees_177 : decode cX1_takesTrees 177 = .ok (.getfield 32, 3) := by decide +kernel
theorem dX1_takesTrees_180 : decode cX1_takesTrees 180 = .ok (.aload_n 0, 1) := by decide +kernel
theorem dX1_takesTrees_181 : decode cX1_takesTrees 181 = .ok (.getfield 13, 3) := by decide +kernel
theorem dX1_takesTrees_184 : decode cX1_takesTrees 184 = .ok (.iload_n 2, 1) := by decide +kernel
theorem dX1_takesTrees_185 : decode cX1_takesTrees 185 = .ok (.iaload, 1) := by decide +kernel
theorem dX1_takesTrees_186 : decode cX1_takesTrees 186 = .ok (.dup2, 1) := by decide +kernel
theorem dX1_takesTrees_187 : decode cX1_takesTrees 187 = .ok (.iaload, 1) := by decide +kernel
theorem dX1_takesTrees_188 : decode cX1_takesTrees 188 = .ok (.iconst 1, 1) := by decide +kernel
theorem dX1_takesTrees_189 : decode cX1_takesTrees 189 = .ok (.isub, 1) := by decide +kernel
theorem dX1_takesTrees_190 : decode cX1_takesTrees 190 = .ok (.iastore, 1) := by decide +kernel
theorem dX1_takesTrees_191 : decode cX1_takesTrees 191 = .ok (.iinc 2 1, 3) := by decide +kernel
theorem dX1_takesTrees_194 : decode cX1_takesTrees 194 = .ok (.goto (-103), 3) := by decide +kernel
theorem dX1_takesTrees_197 : decode cX1_takesTrees 197 = .ok (.iinc 1 1, 3) := by decide +kernel
theorem dX1_takesTrees_200 : decode cX1_takesTrees 200 = .ok (.goto (-119), 3) := by decide +kernel
theorem dX1_takesTrees_203 : decode cX1_takesTrees 203 = .ok (.return_, 1) := by decide +kernel
theorem dX1_bestOfCycle_0 : decode cX1_bestOfCycle 0 = .ok (.iload_n 2, 1) := by decide +kernel
theorem dX1_bestOfCycle_1 : decode cX1_bestOfCycle 1 = .ok (.ifCond .eq 12, 3) := by decide +kernel
theorem dX1_bestOfCycle_4 : decode cX1_bestOfCycle 4 = .ok (.aload_n 0, 1) := by decide +kernel
theorem dX1_bestOfCycle_5 : decode cX1_bestOfCycle 5 = .ok (.getfield 26, 3) := by decide +kernel
theorem dX1_bestOfCycle_8 : decode cX1_bestOfCycle 8 = .ok (.iload_n 1, 1) := by decide +kernel
theorem dX1_bestOfCycle_9 : decode cX1_bestOfCycle 9 = .ok (.iaload, 1) := by decide +kernel
theorem dX1_bestOfCycle_10 : decode cX1_bestOfCycle 10 = .ok (.goto 6, 3) := by decide +kernel
theorem dX1_bestOfCycle_13 : decode cX1_bestOfCycle 13 = .ok (.sipush (-1000), 3) := by decide +kernel
theorem dX1_bestOfCycle_16 : decode cX1_bestOfCycle 16 = .ok (.istore_n 3, 1) := by decide +kernel
theorem dX1_bestOfCycle_17 : decode cX1_bestOfCycle 17 = .ok (.iload_n 2, 1) := by decide +kernel
theorem dX1_bestOfCycle_18 : decode cX1_bestOfCycle 18 = .ok (.ifCond .eq 9, 3) := by decide +kernel
theorem dX1_bestOfCycle_21 : decode cX1_bestOfCycle 21 = .ok (.sipush (-1000), 3) := by decide +kernel
theorem dX1_bestOfCycle_24 : decode cX1_bestOfCycle 24 = .ok (.goto 9, 3) := by decide +kernel
theorem dX1_bestOfCycle_27 : decode cX1_bestOfCycle 27 = .ok (.aload_n 0, 1) := by decide +kernel
theorem dX1_bestOfCycle_28 : decode cX1_bestOfCycle 28 = .ok (.getfield 29, 3) := by decide +kernel
theorem dX1_bestOfCycle_31 : decode cX1_bestOfCycle 31 = .ok (.iload_n 1, 1) := by decide +kernel
theorem dX1_bestOfCycle_32 : decode cX1_bestOfCycle 32 = .ok (.iaload, 1) := by decide +kernel
theorem dX1_bestOfCycle_33 : decode cX1_bestOfCycle 33 = .ok (.istore 4, 2) := by decide +kernel
theorem dX1_bestOfCycle_35 : decode cX1_bestOfCycle 35 = .ok (.aload_n 0, 1) := by decide +kernel
theorem dX1_bestOfCycle_36 : decode cX1_bestOfCycle 36 = .ok (.getfield 13, 3) := by decide +kernel
theorem dX1_bestOfCycle_39 : decode cX1_bestOfCycle 39 = .ok (.iload_n 1, 1) := by decide +kernel
theorem dX1_bestOfCycle_40 : decode cX1_bestOfCycle 40 = .ok (.iaload, 1) := by decide +kernel
theorem dX1_bestOfCycle_41 : decode cX1_bestOfCycle 41 = .ok (.istore 5, 2) := by decide +kernel
theorem dX1_bestOfCycle_43 : decode cX1_bestOfCycle 43 = .ok (.iload 5, 2) := by decide +kernel
theorem dX1_bestOfCycle_45 : decode cX1_bestOfCycle 45 = .ok (.iload_n 1, 1) := by decide +kernel
theorem dX1_bestOfCycle_46 : decode cX1_bestOfCycle 46 = .ok (.if_icmp .eq 46, 3) := by decide +kernel
theorem dX1_bestOfCycle_49 : decode cX1_bestOfCycle 49 = .ok (.iload 4, 2) := by decide +kernel
theorem dX1_bestOfCycle_51 : decode cX1_bestOfCycle 51 = .ok (.aload_n 0, 1) := by decide +kernel
theorem dX1_bestOfCycle_52 : decode cX1_bestOfCycle 52 = .ok (.getfield 26, 3) := by decide +kernel
theorem dX1_bestOfCycle_55 : decode cX1_bestOfCycle 55 = .ok (.iload 5, 2) := by decide +kernel
theorem dX1_bestOfCycle_57 : decode cX1_bestOfCycle 57 = .ok (.iaload, 1) := by decide +kernel
theorem dX1_bestOfCycle_58 : decode cX1_bestOfCycle 58 = .ok (.iadd, 1) := by decide +kernel
theorem dX1_bestOfCycle_59 : decode cX1_bestOfCycle 59 = .ok (.istore 6, 2) := by decide +kernel
theorem dX1_bestOfCycle_61 : decode cX1_bestOfCycle 61 = .ok (.iload_n 3, 1) := by decide +kernel
theorem dX1_bestOfCycle_62 : decode cX1_bestOfCycle 62 = .ok (.iload 4, 2) := by decide +kernel
theorem dX1_bestOfCycle_64 : decode cX1_bestOfCycle 64 = .ok (.invokestatic 113, 3) := by decide +kernel
theorem dX1_bestOfCycle_67 : decode cX1_bestOfCycle 67 = .ok (.aload_n 0, 1) := by decide +kernel
theorem dX1_bestOfCycle_68 : decode cX1_bestOfCycle 68 = .ok (.getfield 29, 3) := by decide +kernel
theorem dX1_bestOfCycle_71 : decode cX1_bestOfCycle 71 = .ok (.iload 5, 2) := by decide +kernel
theorem dX1_bestOfCycle_73 : decode cX1_bestOfCycle 73 = .ok (.iaload, 1) := by decide +kernel
theorem dX1_bestOfCycle_74 : decode cX1_bestOfCycle 74 = .ok (.iadd, 1) := by decide +kernel
theorem dX1_bestOfCycle_75 : decode cX1_bestOfCycle 75 = .ok (.istore 4, 2) := by decide +kernel
theorem dX1_bestOfCycle_77 : decode cX1_bestOfCycle 77 = .ok (.iload 6, 2) := by decide +kernel
theorem dX1_bestOfCycle_79 : decode cX1_bestOfCycle 79 = .ok (.istore_n 3, 1) := by decide +kernel
theorem dX1_bestOfCycle_80 : decode cX1_bestOfCycle 80 = .ok (.aload_n 0, 1) := by decide +kernel
theorem dX1_bestOfCycle_81 : decode cX1_bestOfCycle 81 = .ok (.getfield 13, 3) := by decide +kernel
theorem dX1_bestOfCycle_84 : decode cX1_bestOfCycle 84 = .ok (.iload 5, 2) := by decide +kernel
theorem dX1_bestOfCycle_86 : decode cX1_bestOfCycle 86 = .ok (.iaload, 1) := by decide +kernel
theorem dX1_bestOfCycle_87 : decode cX1_bestOfCycle 87 = .ok (.istore 5, 2) := by decide +kernel
theorem dX1_bestOfCycle_89 : decode cX1_bestOfCycle 89 = .ok (.goto (-46), 3) := by decide +kernel
theorem dX1_bestOfCycle_92 : decode cX1_bestOfCycle 92 = .ok (.iload_n 2, 1) := by decide +kernel
theorem dX1_bestOfCycle_93 : decode cX1_bestOfCycle 93 = .ok (.ifCond .eq 8, 3) := by decide +kernel
theorem dX1_bestOfCycle_96 : decode cX1_bestOfCycle 96 = .ok (.iload 4, 2) := by decide +kernel
theorem dX1_bestOfCycle_98 : decode cX1_bestOfCycle 98 = .ok (.goto 9, 3) := by decide +kernel
theorem dX1_bestOfCycle_101 : decode cX1_bestOfCycle 101 = .ok (.iload_n 3, 1) := by decide +kernel
theorem dX1_bestOfCycle_102 : decode cX1_bestOfCycle 102 = .ok (.iload 4, 2) := by decide +kernel
theorem dX1_bestOfCycle_104 : decode cX1_bestOfCycle 104 = .ok (.invokestatic 113, 3) := by decide +kernel
theorem dX1_bestOfCycle_107 : decode cX1_bestOfCycle 107 = .ok (.ireturn, 1) := by decide +kernel
theorem dX1_greatestIndependentSet_0 : decode cX1_greatestIndependentSet 0 = .ok (.aload_n 0, 1) := by decide +kernel
theorem dX1_greatestIndependentSet_1 : decode cX1_greatestIndependentSet 1 = .ok (.iload_n 1, 1) := by decide +kernel
theorem dX1_greatestIndependentSet_2 : decode cX1_greatestIndependentSet 2 = .ok (.invokevirtual 58, 3) := by decide +kernel
theorem dX1_greatestIndependentSet_5 : decode cX1_greatestIndependentSet 5 = .ok (.ifCond .ne 5, 3) := by decide +kernel
theorem dX1_greatestIndependentSet_8 : decode cX1_greatestIndependentSet 8 = .ok (.iconst (-1), 1) := by decide +kernel
theorem dX1_greatestIndependentSet_9 : decode cX1_greatestIndependentSet 9 = .ok (.ireturn, 1) := by decide +kernel
theorem dX1_greatestIndependentSet_10 : decode cX1_greatestIndependentSet 10 = .ok (.aload_n 0, 1) := by decide +kernel
theorem dX1_greatestIndependentSet_11 : decode cX1_greatestIndependentSet 11 = .ok (.invokevirtual 116, 3) := by decide +kernel
theorem dX1_greatestIndependentSet_14 : decode cX1_greatestIndependentSet 14 = .ok (.aload_n 0, 1) := by decide +kernel
theorem dX1_greatestIndependentSet_15 : decode cX1_greatestIndependentSet 15 = .ok (.iload_n 1, 1) := by decide +kernel
theorem dX1_greatestIndependentSet_16 : decode cX1_greatestIndependentSet 16 = .ok (.invokevirtual 76, 3) := by decide +kernel
theorem dX1_greatestIndependentSet_19 : decode cX1_greatestIndependentSet 19 = .ok (.istore_n 2, 1) := by decide +kernel
theorem dX1_greatestIndependentSet_20 : decode cX1_greatestIndependentSet 20 = .ok (.aload_n 0, 1) := by decide +kernel
theorem dX1_greatestIndependentSet_21 : decode cX1_greatestIndependentSet 21 = .ok (.getfield 13, 3) := by decide +kernel
theorem dX1_greatestIndependentSet_24 : decode cX1_greatestIndependentSet 24 = .ok (.iload_n 2, 1) := by decide +kernel
theorem dX1_greatestIndependentSet_25 : decode cX1_greatestIndependentSet 25 = .ok (.iaload, 1) := by decide +kernel
theorem dX1_greatestIndependentSet_26 : decode cX1_greatestIndependentSet 26 = .ok (.bipush (-7), 2) := by decide +kernel
theorem dX1_greatestIndependentSet_28 : decode cX1_greatestIndependentSet 28 = .ok (.if_icmp .ne 19, 3) := by decide +kernel
theorem dX1_greatestIndependentSet_31 : decode cX1_greatestIndependentSet 31 = .ok (.aload_n 0, 1) := by decide +kernel
theorem dX1_greatestIndependentSet_32 : decode cX1_greatestIndependentSet 32 = .ok (.getfield 26, 3) := by decide +kernel
theorem dX1_greatestIndependentSet_35 : decode cX1_greatestIndependentSet 35 = .ok (.iload_n 2, 1) := by decide +kernel
theorem dX1_greatestIndependentSet_36 : decode cX1_greatestIndependentSet 36 = .ok (.iaload, 1) := by decide +kernel
theorem dX1_greatestIndependentSet_37 : decode cX1_greatestIndependentSet 37 = .ok (.aload_n 0, 1) := by decide +kernel
theorem dX1_greatestIndependentSet_38 : decode cX1_greatestIndependentSet 38 = .ok (.getfield 29, 3) := by decide +kernel
theorem dX1_greatestIndependentSet_41 : decode cX1_greatestIndependentSet 41 = .ok (.iload_n 2, 1) := by decide +kernel
theorem dX1_greatestIndependentSet_42 : decode cX1_greatestIndependentSet 42 = .ok (.iaload, 1) := by decide +kernel
theorem dX1_greatestIndependentSet_43 : decode cX1_greatestIndependentSet 43 = .ok (.invokestatic 113, 3) := by decide +kernel
theorem dX1_greatestIndependentSet_46 : decode cX1_greatestIndependentSet 46 = .ok (.ireturn, 1) := by decide +kernel
theorem dX1_greatestIndependentSet_47 : decode cX1_greatestIndependentSet 47 = .ok (.aload_n 0, 1) := by decide +kernel
theorem dX1_greatestIndependentSet_48 : decode cX1_greatestIndependentSet 48 = .ok (.iload_n 2, 1) := by decide +kernel
theorem dX1_greatestIndependentSet_49 : decode cX1_greatestIndependentSet 49 = .ok (.iconst 1, 1) := by decide +kernel
theorem dX1_greatestIndependentSet_50 : decode cX1_greatestIndependentSet 50 = .ok (.invokevirtual 119, 3) := by decide +kernel
theorem dX1_greatestIndependentSet_53 : decode cX1_greatestIndependentSet 53 = .ok (.aload_n 0, 1) := by decide +kernel
theorem dX1_greatestIndependentSet_54 : decode cX1_greatestIndependentSet 54 = .ok (.iload_n 2, 1) := by decide +kernel
theorem dX1_greatestIndependentSet_55 : decode cX1_greatestIndependentSet 55 = .ok (.iconst 0, 1) := by decide +kernel
theorem dX1_greatestIndependentSet_56 : decode cX1_greatestIndependentSet 56 = .ok (.invokevirtual 119, 3) := by decide +kernel
theorem dX1_greatestIndependentSet_59 : decode cX1_greatestIndependentSet 59 = .ok (.invokestatic 113, 3) := by decide +kernel
theorem dX1_greatestIndependentSet_62 : decode cX1_greatestIndependentSet 62 = .ok (.ireturn, 1) := by decide +kernel
end
section
theorem dL_law_0 : decode cL_law 0 = .ok (.new 7, 3) := by decide +kernel
theorem dL_law_3 : decode cL_law 3 = .ok (.dup, 1) := by decide +kernel
theorem dL_law_4 : decode cL_law 4 = .ok (.invokespecial 9, 3) := by decide +kernel
theorem dL_law_7 : decode cL_law 7 = .ok (.astore_n 1, 1) := by decide +kernel
theorem dL_law_8 : decode cL_law 8 = .ok (.new 10, 3) := by decide +kernel
theorem dL_law_11 : decode cL_law 11 = .ok (.dup, 1) := by decide +kernel
theorem dL_law_12 : decode cL_law 12 = .ok (.invokespecial 12, 3) := by decide +kernel
theorem dL_law_15 : decode cL_law 15 = .ok (.astore_n 2, 1) := by decide +kernel
theorem dL_law_16 : decode cL_law 16 = .ok (.iconst 0, 1) := by decide +kernel
theorem dL_law_17 : decode cL_law 17 = .ok (.istore_n 3, 1) := by decide +kernel
theorem dL_law_18 : decode cL_law 18 = .ok (.iload_n 3, 1) := by decide +kernel
theorem dL_law_19 : decode cL_law 19 = .ok (.aload_n 0, 1) := by decide +kernel
theorem dL_law_20 : decode cL_law 20 = .ok (.arraylength, 1) := by decide +kernel
theorem dL_law_21 : decode cL_law 21 = .ok (.iconst 3, 1) := by decide +kernel
theorem dL_law_22 : decode cL_law 22 = .ok (.isub, 1) := by decide +kernel
theorem dL_law_23 : decode cL_law 23 = .ok (.if_icmp .gt 636, 3) := by decide +kernel
theorem dL_law_26 : decode cL_law 26 = .ok (.aload_n 0, 1) := by decide +kernel
theorem dL_law_27 : decode cL_law 27 = .ok (.iload_n 3, 1) := by decide +kernel
theorem dL_law_28 : decode cL_law 28 = .ok (.iaload, 1) := by decide +kernel
theorem dL_law_29 : decode cL_law 29 = .ok (.bipush 31, 2) := by decide +kernel
theorem dL_law_31 : decode cL_law 31 = .ok (.iand, 1) := by decide +kernel
theorem dL_law_32 : decode cL_law 32 = .ok (.tableswitch 621 0 24 #[116, 139, 172, 195, 218, 241, 264, 287, 300, 323, 356, 369, 392, 405, 418, 431, 454, 467, 480, 503, 516, 529, 562, 585, 598], 116) := by decide +kernel
theorem dL_law_148 : decode cL_law 148 = .ok (.aload_n 1, 1) := by decide +kernel
theorem dL_law_149 : decode cL_law 149 = .ok (.aload_n 0, 1) := by decide +kernel
theorem dL_law_150 : decode cL_law 150 = .ok (.iload_n 3, 1) := by decide +kernel
theorem dL_law_151 : decode cL_law 151 = .ok (.iconst 1, 1) := by decide +kernel
theorem dL_law_152 : decode cL_law 152 = .ok (.iadd, 1) := by decide +kernel
theorem dL_law_153 : decode cL_law 153 = .ok (.iaload, 1) := by decide +kernel
theorem dL_law_154 : decode cL_law 154 = .ok (.invokevirtual 13, 3) := by decide +kernel
theorem dL_law_157 : decode cL_law 157 = .ok (.aload_n 2, 1) := by decide +kernel
theorem dL_law_158 : decode cL_law 158 = .ok (.aload_n 0, 1) := by decide +kernel
theorem dL_law_159 : decode cL_law 159 = .ok (.iload_n 3, 1) := by decide +kernel
theorem dL_law_160 : decode cL_law 160 = .ok (.iconst 1, 1) := by decide +kernel
theorem dL_law_161 : decode cL_law 161 = .ok (.iadd, 1) := by decide +kernel
theorem dL_law_162 : decode cL_law 162 = .ok (.iaload, 1) := by decide +kernel
theorem dL_law_163 : decode cL_law 163 = .ok (.invokevirtual 17, 3) := by decide +kernel
theorem dL_law_166 : decode cL_law 166 = .ok (.if_icmp .eq 487, 3) := by decide +kernel
theorem dL_law_169 : decode cL_law 169 = .ok (.iconst 0, 1) := by decide +kernel
theorem dL_law_170 : decode cL_law 170 = .ok (.ireturn, 1) := by decide +kernel
theorem dL_law_171 : decode cL_law 171 = .ok (.aload_n 1, 1) := by decide +kernel
theorem dL_law_172 : decode cL_law 172 = .ok (.aload_n 0, 1) := by decide +kernel
theorem dL_law_173 : decode cL_law 173 = .ok (.iload_n 3, 1) := by decide +kernel
theorem dL_law_174 : decode cL_law 174 = .ok (.iconst 1, 1) := by decide +kernel
theorem dL_law_175 : decode cL_law 175 = .ok (.iadd, 1) := by decide +kernel
theorem dL_law_176 : decode cL_law 176 = .ok (.iaload, 1) := by decide +kernel
theorem dL_law_177 : decode cL_law 177 = .ok (.aload_n 0, 1) := by decide +kernel
theorem dL_law_178 : decode cL_law 178 = .ok (.iload_n 3, 1) := by decide +kernel
theorem dL_law_179 : decode cL_law 179 = .ok (.iconst 2, 1) := by decide +kernel
theorem dL_law_180 : decode cL_law 180 = .ok (.iadd, 1) := by decide +kernel
theorem dL_law_181 : decode cL_law 181 = .ok (.iaload, 1) := by decide +kernel
theorem dL_law_182 : decode cL_law 182 = .ok (.invokevirtual 18, 3) := by decide +kernel
theorem dL_law_185 : decode cL_law 185 = .ok (.aload_n 2, 1) := by decide +kernel
theorem dL_law_186 : decode cL_law 186 = .ok (.aload_n 0, 1) := by decide +kernel
theorem dL_law_187 : decode cL_law 187 = .ok (.iload_n 3, 1) := by decide +kernel
theorem dL_law_188 : decode cL_law 188 = .ok (.iconst 1, 1) := by decide +kernel
theorem dL_law_189 : decode cL_law 189 = .ok (.iadd, 1) := by decide +kernel
theorem dL_law_190 : decode cL_law 190 = .ok (.iaload, 1) := by decide +kernel
theorem dL_law_191 : decode cL_law 191 = .ok (.aload_n 0, 1) := by decide +kernel
theorem dL_law_192 : decode cL_law 192 = .ok (.iload_n 3, 1) := by decide +kernel
theorem dL_law_193 : decode cL_law 193 = .ok (.iconst 2, 1) := by decide +kernel
theorem dL_law_194 : decode cL_law 194 = .ok (.iadd, 1) := by decide +kernel
theorem dL_law_195 : decode cL_law 195 = .ok (.iaload, 1) := by decide +kernel
theorem dL_law_196 : decode cL_law 196 = .ok (.invokevirtual 22, 3) := by decide +kernel
theorem dL_law_199 : decode cL_law 199 = .ok (.if_icmp .eq 454, 3) := by decide +kernel
theorem dL_law_202 : decode cL_law 202 = .ok (.iconst 0, 1) := by decide +kernel
theorem dL_law_203 : decode cL_law 203 = .ok (.ireturn, 1) := by decide +kernel
theorem dL_law_204 : decode cL_law 204 = .ok (.aload_n 1, 1) := by decide +kernel
theorem dL_law_205 : decode cL_law 205 = .ok (.aload_n 0, 1) := by decide +kernel
theorem dL_law_206 : decode cL_law 206 = .ok (.iload_n 3, 1) := by decide +kernel
theorem dL_law_207 : decode cL_law 207 = .ok (.iconst 1, 1) := by decide +kernel
theorem dL_law_208 : decode cL_law 208 = .ok (.iadd, 1) := by decide +kernel
theorem dL_law_209 : decode cL_law 209 = .ok (.iaload, 1) := by decide +kernel
theorem dL_law_210 : decode cL_law 210 = .ok (.invokevirtual 23, 3) := by decide +kernel
theorem dL_law_213 : decode cL_law 213 = .ok (.aload_n 2, 1) := by decide +kernel
theorem dL_law_214 : decode cL_law 214 = .ok (.aload_n 0, 1) := by decide +kernel
theorem dL_law_215 : decode cL_law 215 = .ok (.iload_n 3, 1) := by decide +kernel
theorem dL_law_216 : decode cL_law 216 = .ok (.iconst 1, 1) := by decide +kernel
theorem dL_law_217 : decode cL_law 217 = .ok (.iadd, 1) := by decide +kernel
theorem dL_law_218 : decode cL_law 218 = .ok (.iaload, 1) := by decide +kernel
theorem dL_law_219 : decode cL_law 219 = .ok (.invokevirtual 26, 3) := by decide +kernel
theorem dL_law_222 : decode cL_law 222 = .ok (.if_icmp .eq 431, 3) := by decide +kernel
theorem dL_law_225 : decode cL_law 225 = .ok (.iconst 0, 1) := by decide +kernel
theorem dL_law_226 : decode cL_law 226 = .ok (.ireturn, 1) := by decide +kernel
theorem dL_law_227 : decode cL_law 227 = .ok (.aload_n 1, 1) := by decide +kernel
theorem dL_law_228 : decode cL_law 228 = .ok (.aload_n 0, 1) := by decide +kernel
theorem dL_law_229 : decode cL_law 229 = .ok (.iload_n 3, 1) := by decide +kernel
theorem dL_law_230 : decode cL_law 230 = .ok (.iconst 1, 1) := by decide +kernel
theorem dL_law_231 : decode cL_law 231 = .ok (.iadd, 1) := by decide +kernel
theorem dL_law_232 : decode cL_law 232 = .ok (.iaload, 1) := by decide +kernel
theorem dL_law_233 : decode cL_law 233 = .ok (.invokevirtual 27, 3) := by decide +kernel
theorem dL_law_236 : decode cL_law 236 = .ok (.aload_n 2, 1) := by decide +kernel
theorem dL_law_237 : decode cL_law 237 = .ok (.aload_n 0, 1) := by decide +kernel
theorem dL_law_238 : decode cL_law 238 = .ok (.iload_n 3, 1) := by decide +kernel
theorem dL_law_239 : decode cL_law 239 = .ok (.iconst 1, 1) := by decide +kernel
theorem dL_law_240 : decode cL_law 240 = .ok (.iadd, 1) := by decide +kernel
theorem dL_law_241 : decode cL_law 241 = .ok (.iaload, 1) := by decide +kernel
theorem dL_law_242 : decode cL_law 242 = .ok (.invokevirtual 30, 3) := by decide +kernel
theorem dL_law_245 : decode cL_law 245 = .ok (.if_icmp .eq 408, 3) := by decide +kernel
theorem dL_law_248 : decode cL_law 248 = .ok (.iconst 0, 1) := by decide +kernel
theorem dL_law_249 : decode cL_law 249 = .ok (.ireturn, 1) := by decide +kernel
theorem dL_law_250 : decode cL_law 250 = .ok (.aload_n 1, 1) := by decide +kernel
theorem dL_law_251 : decode cL_law 251 = .ok (.aload_n 0, 1) := by decide +kernel
theorem dL_law_252 : decode cL_law 252 = .ok (.iload_n 3, 1) := by decide +kernel
theorem dL_law_253 : decode cL_law 253 = .ok (.iconst 1, 1) := by decide +kernel
theorem dL_law_254 : decode cL_law 254 = .ok (.iadd, 1) := by decide +kernel
theorem dL_law_255 : decode cL_law 255 = .ok (.iaload, 1) := by decide +kernel
theorem dL_law_256 : decode cL_law 256 = .ok (.invokevirtual 31, 3) := by decide +kernel
theorem dL_law_259 : decode cL_law 259 = .ok (.aload_n 2, 1) := by decide +kernel
theorem dL_law_260 : decode cL_law 260 = .ok (.aload_n 0, 1) := by decide +kernel
theorem dL_law_261 : decode cL_law 261 = .ok (.iload_n 3, 1) := by decide +kernel
theorem dL_law_262 : decode cL_law 262 = .ok (.iconst 1, 1) := by decide +kernel
theorem dL_law_263 : decode cL_law 263 = .ok (.iadd, 1) := by decide +kernel
theorem dL_law_264 : decode cL_law 264 = .ok (.iaload, 1) := by decide +kernel
theorem dL_law_265 : decode cL_law 265 = .ok (.invokevirtual 34, 3) := by decide +kernel
theorem dL_law_268 : decode cL_law 268 = .ok (.if_icmp .eq 385, 3) := by decide +kernel
theorem dL_law_271 : decode cL_law 271 = .ok (.iconst 0, 1) := by decide +kernel
theorem dL_law_272 : decode cL_law 272 = .ok (.ireturn, 1) := by decide +kernel
theorem dL_law_273 : decode cL_law 273 = .ok (.aload_n 1, 1) := by decide +kernel
theorem dL_law_274 : decode cL_law 274 = .ok (.aload_n 0, 1) := by decide +kernel
theorem dL_law_275 : decode cL_law 275 = .ok (.iload_n 3, 1) := by decide +kernel
theorem dL_law_276 : decode cL_law 276 = .ok (.iconst 1, 1) := by decide +kernel
theorem dL_law_277 : decode cL_law 277 = .ok (.iadd, 1) := by decide +kernel
theorem dL_law_278 : decode cL_law 278 = .ok (.iaload, 1) := by decide +kernel
theorem dL_law_279 : decode cL_law 279 = .ok (.invokevirtual 35, 3) := by decide +kernel
theorem dL_law_282 : decode cL_law 282 = .ok (.aload_n 2, 1) := by decide +kernel
theorem dL_law_283 : decode cL_law 283 = .ok (.aload_n 0, 1) := by decide +kernel
theorem dL_law_284 : decode cL_law 284 = .ok (.iload_n 3, 1) := by decide +kernel
theorem dL_law_285 : decode cL_law 285 = .ok (.iconst 1, 1) := by decide +kernel
theorem dL_law_286 : decode cL_law 286 = .ok (.iadd, 1) := by decide +kernel
theorem dL_law_287 : decode cL_law 287 = .ok (.iaload, 1) := by decide +kernel
theorem dL_law_288 : decode cL_law 288 = .ok (.invokevirtual 38, 3) := by decide +kernel
theorem dL_law_291 : decode cL_law 291 = .ok (.if_icmp .eq 362, 3) := by decide +kernel
theorem dL_law_294 : decode cL_law 294 = .ok (.iconst 0, 1) := by decide +kernel
theorem dL_law_295 : decode cL_law 295 = .ok (.ireturn, 1) := by decide +kernel
theorem dL_law_296 : decode cL_law 296 = .ok (.aload_n 1, 1) := by decide +kernel
theorem dL_law_297 : decode cL_law 297 = .ok (.aload_n 0, 1) := by decide +kernel
theorem dL_law_298 : decode cL_law 298 = .ok (.iload_n 3, 1) := by decide +kernel
theorem dL_law_299 : decode cL_law 299 = .ok (.iconst 1, 1) := by decide +kernel
theorem dL_law_300 : decode cL_law 300 = .ok (.iadd, 1) := by decide +kernel
theorem dL_law_301 : decode cL_law 301 = .ok (.iaload, 1) := by decide +kernel
theorem dL_law_302 : decode cL_law 302 = .ok (.invokevirtual 39, 3) := by decide +kernel
theorem dL_law_305 : decode cL_law 305 = .ok (.aload_n 2, 1) := by decide +kernel
theorem dL_law_306 : decode cL_law 306 = .ok (.aload_n 0, 1) := by decide +kernel
theorem dL_law_307 : decode cL_law 307 = .ok (.iload_n 3, 1) := by decide +kernel
theorem dL_law_308 : decode cL_law 308 = .ok (.iconst 1, 1) := by decide +kernel
theorem dL_law_309 : decode cL_law 309 = .ok (.iadd, 1) := by decide +kernel
theorem dL_law_310 : decode cL_law 310 = .ok (.iaload, 1) := by decide +kernel
theorem dL_law_311 : decode cL_law 311 = .ok (.invokevirtual 42, 3) := by decide +kernel
theorem dL_law_314 : decode cL_law 314 = .ok (.if_icmp .eq 339, 3) := by decide +kernel
theorem dL_law_317 : decode cL_law 317 = .ok (.iconst 0, 1) := by decide +kernel
theorem dL_law_318 : decode cL_law 318 = .ok (.ireturn, 1) := by decide +kernel
theorem dL_law_319 : decode cL_law 319 = .ok (.aload_n 1, 1) := by decide +kernel
theorem dL_law_320 : decode cL_law 320 = .ok (.invokevirtual 43, 3) := by decide +kernel
theorem dL_law_323 : decode cL_law 323 = .ok (.aload_n 2, 1) := by decide +kernel
theorem dL_law_324 : decode cL_law 324 = .ok (.invokevirtual 47, 3) := by decide +kernel
theorem dL_law_327 : decode cL_law 327 = .ok (.if_icmp .eq 326, 3) := by decide +kernel
theorem dL_law_330 : decode cL_law 330 = .ok (.iconst 0, 1) := by decide +kernel
theorem dL_law_331 : decode cL_law 331 = .ok (.ireturn, 1) := by decide +kernel
theorem dL_law_332 : decode cL_law 332 = .ok (.aload_n 1, 1) := by decide +kernel
theorem dL_law_333 : decode cL_law 333 = .ok (.aload_n 0, 1) := by decide +kernel
theorem dL_law_334 : decode cL_law 334 = .ok (.iload_n 3, 1) := by decide +kernel
theorem dL_law_335 : decode cL_law 335 = .ok (.iconst 1, 1) := by decide +kernel
theorem dL_law_336 : decode cL_law 336 = .ok (.iadd, 1) := by decide +kernel
theorem dL_law_337 : decode cL_law 337 = .ok (.iaload, 1) := by decide +kernel
theorem dL_law_338 : decode cL_law 338 = .ok (.invokevirtual 48, 3) := by decide +kernel
theorem dL_law_341 : decode cL_law 341 = .ok (.aload_n 2, 1) := by decide +kernel
theorem dL_law_342 : decode cL_law 342 = .ok (.aload_n 0, 1) := by decide +kernel
theorem dL_law_343 : decode cL_law 343 = .ok (.iload_n 3, 1) := by decide +kernel
theorem dL_law_344 : decode cL_law 344 = .ok (.iconst 1, 1) := by decide +kernel
theorem dL_law_345 : decode cL_law 345 = .ok (.iadd, 1) := by decide +kernel
theorem dL_law_346 : decode cL_law 346 = .ok (.iaload, 1) := by decide +kernel
theorem dL_law_347 : decode cL_law 347 = .ok (.invokevirtual 51, 3) := by decide +kernel
theorem dL_law_350 : decode cL_law 350 = .ok (.if_icmp .eq 303, 3) := by decide +kernel
theorem dL_law_353 : decode cL_law 353 = .ok (.iconst 0, 1) := by decide +kernel
theorem dL_law_354 : decode cL_law 354 = .ok (.ireturn, 1) := by decide +kernel
theorem dL_law_355 : decode cL_law 355 = .ok (.aload_n 1, 1) := by decide +kernel
theorem dL_law_356 : decode cL_law 356 = .ok (.aload_n 0, 1) := by decide +kernel
theorem dL_law_357 : decode cL_law 357 = .ok (.iload_n 3, 1) := by decide +kernel
theorem dL_law_358 : decode cL_law 358 = .ok (.iconst 1, 1) := by decide +kernel
theorem dL_law_359 : decode cL_law 359 = .ok (.iadd, 1) := by decide +kernel
theorem dL_law_360 : decode cL_law 360 = .ok (.iaload, 1) := by decide +kernel
theorem dL_law_361 : decode cL_law 361 = .ok (.aload_n 0, 1) := by decide +kernel
theorem dL_law_362 : decode cL_law 362 = .ok (.iload_n 3, 1) := by decide +kernel
theorem dL_law_363 : decode cL_law 363 = .ok (.iconst 2, 1) := by decide +kernel
theorem dL_law_364 : decode cL_law 364 = .ok (.iadd, 1) := by decide +kernel
theorem dL_law_365 : decode cL_law 365 = .ok (.iaload, 1) := by decide +kernel
theorem dL_law_366 : decode cL_law 366 = .ok (.invokevirtual 52, 3) := by decide +kernel
theorem dL_law_369 : decode cL_law 369 = .ok (.aload_n 2, 1) := by decide +kernel
theorem dL_law_370 : decode cL_law 370 = .ok (.aload_n 0, 1) := by decide +kernel
theorem dL_law_371 : decode cL_law 371 = .ok (.iload_n 3, 1) := by decide +kernel
theorem dL_law_372 : decode cL_law 372 = .ok (.iconst 1, 1) := by decide +kernel
theorem dL_law_373 : decode cL_law 373 = .ok (.iadd, 1) := by decide +kernel
theorem dL_law_374 : decode cL_law 374 = .ok (.iaload, 1) := by decide +kernel
theorem dL_law_375 : decode cL_law 375 = .ok (.aload_n 0, 1) := by decide +kernel
theorem dL_law_376 : decode cL_law 376 = .ok (.iload_n 3, 1) := by decide +kernel
theorem dL_law_377 : decode cL_law 377 = .ok (.iconst 2, 1) := by decide +kernel
theorem dL_law_378 : decode cL_law 378 = .ok (.iadd, 1) := by decide +kernel
theorem dL_law_379 : decode cL_law 379 = .ok (.iaload, 1) := by decide +kernel
theorem dL_law_380 : decode cL_law 380 = .ok (.invokevirtual 55, 3) := by decide +kernel
theorem dL_law_383 : decode cL_law 383 = .ok (.if_icmp .eq 270, 3) := by decide +kernel
theorem dL_law_386 : decode cL_law 386 = .ok (.iconst 0, 1) := by decide +kernel
theorem dL_law_387 : decode cL_law 387 = .ok (.ireturn, 1) := by decide +kernel
theorem dL_law_388 : decode cL_law 388 = .ok (.aload_n 1, 1) := by decide +kernel
theorem dL_law_389 : decode cL_law 389 = .ok (.invokevirtual 56, 3) := by decide +kernel
theorem dL_law_392 : decode cL_law 392 = .ok (.aload_n 2, 1) := by decide +kernel
theorem dL_law_393 : decode cL_law 393 = .ok (.invokevirtual 59, 3) := by decide +kernel
theorem dL_law_396 : decode cL_law 396 = .ok (.if_icmp .eq 257, 3) := by decide +kernel
theorem dL_law_399 : decode cL_law 399 = .ok (.iconst 0, 1) := by decide +kernel
theorem dL_law_400 : decode cL_law 400 = .ok (.ireturn, 1) := by decide +kernel
theorem dL_law_401 : decode cL_law 401 = .ok (.aload_n 1, 1) := by decide +kernel
theorem dL_law_402 : decode cL_law 402 = .ok (.aload_n 0, 1) := by decide +kernel
theorem dL_law_403 : decode cL_law 403 = .ok (.iload_n 3, 1) := by decide +kernel
theorem dL_law_404 : decode cL_law 404 = .ok (.iconst 1, 1) := by decide +kernel
theorem dL_law_405 : decode cL_law 405 = .ok (.iadd, 1) := by decide +kernel
theorem dL_law_406 : decode cL_law 406 = .ok (.iaload, 1) := by decide +kernel
theorem dL_law_407 : decode cL_law 407 = .ok (.invokevirtual 60, 3) := by decide +kernel
theorem dL_law_410 : decode cL_law 410 = .ok (.aload_n 2, 1) := by decide +kernel
theorem dL_law_411 : decode cL_law 411 = .ok (.aload_n 0, 1) := by decide +kernel
theorem dL_law_412 : decode cL_law 412 = .ok (.iload_n 3, 1) := by decide +kernel
theorem dL_law_413 : decode cL_law 413 = .ok (.iconst 1, 1) := by decide +kernel
theorem dL_law_414 : decode cL_law 414 = .ok (.iadd, 1) := by decide +kernel
theorem dL_law_415 : decode cL_law 415 = .ok (.iaload, 1) := by decide +kernel
theorem dL_law_416 : decode cL_law 416 = .ok (.invokevirtual 63, 3) := by decide +kernel
theorem dL_law_419 : decode cL_law 419 = .ok (.if_icmp .eq 234, 3) := by decide +kernel
theorem dL_law_422 : decode cL_law 422 = .ok (.iconst 0, 1) := by decide +kernel
theorem dL_law_423 : decode cL_law 423 = .ok (.ireturn, 1) := by decide +kernel
theorem dL_law_424 : decode cL_law 424 = .ok (.aload_n 1, 1) := by decide +kernel
theorem dL_law_425 : decode cL_law 425 = .ok (.invokevirtual 64, 3) := by decide +kernel
theorem dL_law_428 : decode cL_law 428 = .ok (.aload_n 2, 1) := by decide +kernel
theorem dL_law_429 : decode cL_law 429 = .ok (.invokevirtual 67, 3) := by decide +kernel
theorem dL_law_432 : decode cL_law 432 = .ok (.if_icmp .eq 221, 3) := by decide +kernel
theorem dL_law_435 : decode cL_law 435 = .ok (.iconst 0, 1) := by decide +kernel
theorem dL_law_436 : decode cL_law 436 = .ok (.ireturn, 1) := by decide +kernel
theorem dL_law_437 : decode cL_law 437 = .ok (.aload_n 1, 1) := by decide +kernel
theorem dL_law_438 : decode cL_law 438 = .ok (.invokevirtual 68, 3) := by decide +kernel
theorem dL_law_441 : decode cL_law 441 = .ok (.aload_n 2, 1) := by decide +kernel
theorem dL_law_442 : decode cL_law 442 = .ok (.invokevirtual 71, 3) := by decide +kernel
theorem dL_law_445 : decode cL_law 445 = .ok (.if_icmp .eq 208, 3) := by decide +kernel
theorem dL_law_448 : decode cL_law 448 = .ok (.iconst 0, 1) := by decide +kernel
theorem dL_law_449 : decode cL_law 449 = .ok (.ireturn, 1) := by decide +kernel
theorem dL_law_450 : decode cL_law 450 = .ok (.aload_n 1, 1) := by decide +kernel
theorem dL_law_451 : decode cL_law 451 = .ok (.invokevirtual 72, 3) := by decide +kernel
theorem dL_law_454 : decode cL_law 454 = .ok (.aload_n 2, 1) := by decide +kernel
theorem dL_law_455 : decode cL_law 455 = .ok (.invokevirtual 75, 3) := by decide +kernel
theorem dL_law_458 : decode cL_law 458 = .ok (.if_icmp .eq 195, 3) := by decide +kernel
theorem dL_law_461 : decode cL_law 461 = .ok (.iconst 0, 1) := by decide +kernel
theorem dL_law_462 : decode cL_law 462 = .ok (.ireturn, 1) := by decide +kernel
theorem dL_law_463 : decode cL_law 463 = .ok (.aload_n 1, 1) := by decide +kernel
theorem dL_law_464 : decode cL_law 464 = .ok (.aload_n 0, 1) := by decide +kernel
theorem dL_law_465 : decode cL_law 465 = .ok (.iload_n 3, 1) := by decide +kernel
theorem dL_law_466 : decode cL_law 466 = .ok (.iconst 1, 1) := by decide +kernel
theorem dL_law_467 : decode cL_law 467 = .ok (.iadd, 1) := by decide +kernel
theorem dL_law_468 : decode cL_law 468 = .ok (.iaload, 1) := by decide +kernel
theorem dL_law_469 : decode cL_law 469 = .ok (.invokevirtual 76, 3) := by decide +kernel
theorem dL_law_472 : decode cL_law 472 = .ok (.aload_n 2, 1) := by decide +kernel
theorem dL_law_473 : decode cL_law 473 = .ok (.aload_n 0, 1) := by decide +kernel
theorem dL_law_474 : decode cL_law 474 = .ok (.iload_n 3, 1) := by decide +kernel
theorem dL_law_475 : decode cL_law 475 = .ok (.iconst 1, 1) := by decide +kernel
theorem dL_law_476 : decode cL_law 476 = .ok (.iadd, 1) := by decide +kernel
theorem dL_law_477 : decode cL_law 477 = .ok (.iaload, 1) := by decide +kernel
theorem dL_law_478 : decode cL_law 478 = .ok (.invokevirtual 79, 3) := by decide +kernel
theorem dL_law_481 : decode cL_law 481 = .ok (.if_icmp .eq 172, 3) := by decide +kernel
theorem dL_law_484 : decode cL_law 484 = .ok (.iconst 0, 1) := by decide +kernel
theorem dL_law_485 : decode cL_law 485 = .ok (.ireturn, 1) := by decide +kernel
theorem dL_law_486 : decode cL_law 486 = .ok (.aload_n 1, 1) := by decide +kernel
theorem dL_law_487 : decode cL_law 487 = .ok (.invokevirtual 80, 3) := by decide +kernel
theorem dL_law_490 : decode cL_law 490 = .ok (.aload_n 2, 1) := by decide +kernel
theorem dL_law_491 : decode cL_law 491 = .ok (.invokevirtual 83, 3) := by decide +kernel
theorem dL_law_494 : decode cL_law 494 = .ok (.if_icmp .eq 159, 3) := by decide +kernel
theorem dL_law_497 : decode cL_law 497 = .ok (.iconst 0, 1) := by decide +kernel
theorem dL_law_498 : decode cL_law 498 = .ok (.ireturn, 1) := by decide +kernel
theorem dL_law_499 : decode cL_law 499 = .ok (.aload_n 1, 1) := by decide +kernel
theorem dL_law_500 : decode cL_law 500 = .ok (.invokevirtual 84, 3) := by decide +kernel
theorem dL_law_503 : decode cL_law 503 = .ok (.aload_n 2, 1) := by decide +kernel
theorem dL_law_504 : decode cL_law 504 = .ok (.invokevirtual 87, 3) := by decide +kernel
theorem dL_law_507 : decode cL_law 507 = .ok (.if_icmp .eq 146, 3) := by decide +kernel
theorem dL_law_510 : decode cL_law 510 = .ok (.iconst 0, 1) := by decide +kernel
theorem dL_law_511 : decode cL_law 511 = .ok (.ireturn, 1) := by decide +kernel
theorem dL_law_512 : decode cL_law 512 = .ok (.aload_n 1, 1) := by decide +kernel
theorem dL_law_513 : decode cL_law 513 = .ok (.aload_n 0, 1) := by decide +kernel
theorem dL_law_514 : decode cL_law 514 = .ok (.iload_n 3, 1) := by decide +kernel
theorem dL_law_515 : decode cL_law 515 = .ok (.iconst 1, 1) := by decide +kernel
theorem dL_law_516 : decode cL_law 516 = .ok (.iadd, 1) := by decide +kernel
theorem dL_law_517 : decode cL_law 517 = .ok (.iaload, 1) := by decide +kernel
theorem dL_law_518 : decode cL_law 518 = .ok (.invokevirtual 88, 3) := by decide +kernel
theorem dL_law_521 : decode cL_law 521 = .ok (.aload_n 2, 1) := by decide +kernel
theorem dL_law_522 : decode cL_law 522 = .ok (.aload_n 0, 1) := by decide +kernel
theorem dL_law_523 : decode cL_law 523 = .ok (.iload_n 3, 1) := by decide +kernel
theorem dL_law_524 : decode cL_law 524 = .ok (.iconst 1, 1) := by decide +kernel
theorem dL_law_525 : decode cL_law 525 = .ok (.iadd, 1) := by decide +kernel
theorem dL_law_526 : decode cL_law 526 = .ok (.iaload, 1) := by decide +kernel
theorem dL_law_527 : decode cL_law 527 = .ok (.invokevirtual 91, 3) := by decide +kernel
theorem dL_law_530 : decode cL_law 530 = .ok (.if_icmp .eq 123, 3) := by decide +kernel
theorem dL_law_533 : decode cL_law 533 = .ok (.iconst 0, 1) := by decide +kernel
theorem dL_law_534 : decode cL_law 534 = .ok (.ireturn, 1) := by decide +kernel
theorem dL_law_535 : decode cL_law 535 = .ok (.aload_n 1, 1) := by decide +kernel
theorem dL_law_536 : decode cL_law 536 = .ok (.invokevirtual 92, 3) := by decide +kernel
theorem dL_law_539 : decode cL_law 539 = .ok (.aload_n 2, 1) := by decide +kernel
theorem dL_law_540 : decode cL_law 540 = .ok (.invokevirtual 95, 3) := by decide +kernel
theorem dL_law_543 : decode cL_law 543 = .ok (.if_icmp .eq 110, 3) := by decide +kernel
theorem dL_law_546 : decode cL_law 546 = .ok (.iconst 0, 1) := by decide +kernel
theorem dL_law_547 : decode cL_law 547 = .ok (.ireturn, 1) := by decide +kernel
theorem dL_law_548 : decode cL_law 548 = .ok (.aload_n 1, 1) := by decide +kernel
theorem dL_law_549 : decode cL_law 549 = .ok (.invokevirtual 96, 3) := by decide +kernel
theorem dL_law_552 : decode cL_law 552 = .ok (.aload_n 2, 1) := by decide +kernel
theorem dL_law_553 : decode cL_law 553 = .ok (.invokevirtual 99, 3) := by decide +kernel
theorem dL_law_556 : decode cL_law 556 = .ok (.if_icmp .eq 97, 3) := by decide +kernel
theorem dL_law_559 : decode cL_law 559 = .ok (.iconst 0, 1) := by decide +kernel
theorem dL_law_560 : decode cL_law 560 = .ok (.ireturn, 1) := by decide +kernel
theorem dL_law_561 : decode cL_law 561 = .ok (.aload_n 1, 1) := by decide +kernel
theorem dL_law_562 : decode cL_law 562 = .ok (.aload_n 0, 1) := by decide +kernel
theorem dL_law_563 : decode cL_law 563 = .ok (.iload_n 3, 1) := by decide +kernel
theorem dL_law_564 : decode cL_law 564 = .ok (.iconst 1, 1) := by decide +kernel
theorem dL_law_565 : decode cL_law 565 = .ok (.iadd, 1) := by decide +kernel
theorem dL_law_566 : decode cL_law 566 = .ok (.iaload, 1) := by decide +kernel
theorem dL_law_567 : decode cL_law 567 = .ok (.aload_n 0, 1) := by decide +kernel
theorem dL_law_568 : decode cL_law 568 = .ok (.iload_n 3, 1) := by decide +kernel
theorem dL_law_569 : decode cL_law 569 = .ok (.iconst 2, 1) := by decide +kernel
theorem dL_law_570 : decode cL_law 570 = .ok (.iadd, 1) := by decide +kernel
theorem dL_law_571 : decode cL_law 571 = .ok (.iaload, 1) := by decide +kernel
theorem dL_law_572 : decode cL_law 572 = .ok (.invokevirtual 100, 3) := by decide +kernel
theorem dL_law_575 : decode cL_law 575 = .ok (.aload_n 2, 1) := by decide +kernel
theorem dL_law_576 : decode cL_law 576 = .ok (.aload_n 0, 1) := by decide +kernel
theorem dL_law_577 : decode cL_law 577 = .ok (.iload_n 3, 1) := by decide +kernel
theorem dL_law_578 : decode cL_law 578 = .ok (.iconst 1, 1) := by decide +kernel
theorem dL_law_579 : decode cL_law 579 = .ok (.iadd, 1) := by decide +kernel
theorem dL_law_580 : decode cL_law 580 = .ok (.iaload, 1) := by decide +kernel
theorem dL_law_581 : decode cL_law 581 = .ok (.aload_n 0, 1) := by decide +kernel
theorem dL_law_582 : decode cL_law 582 = .ok (.iload_n 3, 1) := by decide +kernel
theorem dL_law_583 : decode cL_law 583 = .ok (.iconst 2, 1) := by decide +kernel
theorem dL_law_584 : decode cL_law 584 = .ok (.iadd, 1) := by decide +kernel
theorem dL_law_585 : decode cL_law 585 = .ok (.iaload, 1) := by decide +kernel
theorem dL_law_586 : decode cL_law 586 = .ok (.invokevirtual 103, 3) := by decide +kernel
theorem dL_law_589 : decode cL_law 589 = .ok (.if_icmp .eq 64, 3) := by decide +kernel
theorem dL_law_592 : decode cL_law 592 = .ok (.iconst 0, 1) := by decide +kernel
theorem dL_law_593 : decode cL_law 593 = .ok (.ireturn, 1) := by decide +kernel
theorem dL_law_594 : decode cL_law 594 = .ok (.aload_n 1, 1) := by decide +kernel
theorem dL_law_595 : decode cL_law 595 = .ok (.aload_n 0, 1) := by decide +kernel
theorem dL_law_596 : decode cL_law 596 = .ok (.iload_n 3, 1) := by decide +kernel
theorem dL_law_597 : decode cL_law 597 = .ok (.iconst 1, 1) := by decide +kernel
theorem dL_law_598 : decode cL_law 598 = .ok (.iadd, 1) := by decide +kernel
theorem dL_law_599 : decode cL_law 599 = .ok (.iaload, 1) := by decide +kernel
theorem dL_law_600 : decode cL_law 600 = .ok (.invokevirtual 104, 3) := by decide +kernel
theorem dL_law_603 : decode cL_law 603 = .ok (.aload_n 2, 1) := by decide +kernel
theorem dL_law_604 : decode cL_law 604 = .ok (.aload_n 0, 1) := by decide +kernel
theorem dL_law_605 : decode cL_law 605 = .ok (.iload_n 3, 1) := by decide +kernel
theorem dL_law_606 : decode cL_law 606 = .ok (.iconst 1, 1) := by decide +kernel
theorem dL_law_607 : decode cL_law 607 = .ok (.iadd, 1) := by decide +kernel
theorem dL_law_608 : decode cL_law 608 = .ok (.iaload, 1) := by decide +kernel
theorem dL_law_609 : decode cL_law 609 = .ok (.invokevirtual 107, 3) := by decide +kernel
theorem dL_law_612 : decode cL_law 612 = .ok (.if_icmp .eq 41, 3) := by decide +kernel
theorem dL_law_615 : decode cL_law 615 = .ok (.iconst 0, 1) := by decide +kernel
theorem dL_law_616 : decode cL_law 616 = .ok (.ireturn, 1) := by decide +kernel
theorem dL_law_617 : decode cL_law 617 = .ok (.aload_n 1, 1) := by decide +kernel
theorem dL_law_618 : decode cL_law 618 = .ok (.invokevirtual 108, 3) := by decide +kernel
theorem dL_law_621 : decode cL_law 621 = .ok (.aload_n 2, 1) := by decide +kernel
theorem dL_law_622 : decode cL_law 622 = .ok (.invokevirtual 111, 3) := by decide +kernel
theorem dL_law_625 : decode cL_law 625 = .ok (.if_icmp .eq 28, 3) := by decide +kernel
theorem dL_law_628 : decode cL_law 628 = .ok (.iconst 0, 1) := by decide +kernel
theorem dL_law_629 : decode cL_law 629 = .ok (.ireturn, 1) := by decide +kernel
theorem dL_law_630 : decode cL_law 630 = .ok (.aload_n 1, 1) := by decide +kernel
theorem dL_law_631 : decode cL_law 631 = .ok (.aload_n 0, 1) := by decide +kernel
theorem dL_law_632 : decode cL_law 632 = .ok (.iload_n 3, 1) := by decide +kernel
theorem dL_law_633 : decode cL_law 633 = .ok (.iconst 1, 1) := by decide +kernel
theorem dL_law_634 : decode cL_law 634 = .ok (.iadd, 1) := by decide +kernel
theorem dL_law_635 : decode cL_law 635 = .ok (.iaload, 1) := by decide +kernel
theorem dL_law_636 : decode cL_law 636 = .ok (.invokevirtual 112, 3) := by decide +kernel
theorem dL_law_639 : decode cL_law 639 = .ok (.aload_n 2, 1) := by decide +kernel
theorem dL_law_640 : decode cL_law 640 = .ok (.aload_n 0, 1) := by decide +kernel
theorem dL_law_641 : decode cL_law 641 = .ok (.iload_n 3, 1) := by decide +kernel
theorem dL_law_642 : decode cL_law 642 = .ok (.iconst 1, 1) := by decide +kernel
theorem dL_law_643 : decode cL_law 643 = .ok (.iadd, 1) := by decide +kernel
theorem dL_law_644 : decode cL_law 644 = .ok (.iaload, 1) := by decide +kernel
theorem dL_law_645 : decode cL_law 645 = .ok (.invokevirtual 115, 3) := by decide +kernel
theorem dL_law_648 : decode cL_law 648 = .ok (.if_icmp .eq 5, 3) := by decide +kernel
theorem dL_law_651 : decode cL_law 651 = .ok (.iconst 0, 1) := by decide +kernel
theorem dL_law_652 : decode cL_law 652 = .ok (.ireturn, 1) := by decide +kernel
theorem dL_law_653 : decode cL_law 653 = .ok (.iinc 3 3, 3) := by decide +kernel
theorem dL_law_656 : decode cL_law 656 = .ok (.goto (-638), 3) := by decide +kernel
theorem dL_law_659 : decode cL_law 659 = .ok (.iconst 1, 1) := by decide +kernel
theorem dL_law_660 : decode cL_law 660 = .ok (.ireturn, 1) := by decide +kernel
end
section
-- THE TABLES' WORDS, ONE LIST FOR ALL METHODS
def TW : List Cond := lw_tbl.filter goodWord
theorem TW_at {w : Cond} (i : Nat) (h : lw_tbl[i]? = some w) (hg : goodWord w = true) : w ∈ TW := List.mem_filter.mpr ⟨List.mem_of_getElem? h, hg⟩
theorem TW_sub {args : Array Value} {s : State} (hts : ∀ w ∈ lw_tbl, w.before args s = true) : ∀ w ∈ TW, w.before args s = true := fun w h => hts w (List.mem_filter.mp h).1
/-- a method's words: its own code, then the list -/
abbrev wsM (y : MethodName) (bytes : ByteArray) (maxL : Nat) (ret : Option FieldType) : List Cond := Cond.code y bytes maxL ret :: TW
theorem TW_goodIn {y : MethodName} {bytes : ByteArray} {maxL : Nat} {ret : Option FieldType} (h : Cond.code y bytes maxL ret ∈ TW) : GoodIn TW (wsM y bytes maxL ret) := by
  intro w hw
  rcases List.mem_cons.mp hw with rfl | hw
  · exact ⟨h, good_of_word (List.mem_filter.mp h).2⟩
  · exact ⟨hw, good_of_word (List.mem_filter.mp hw).2⟩
abbrev nMH (c : String) : Prop := c ≠ "java/lang/invoke/MethodHandle" ∧ c ≠ "java/lang/invoke/VarHandle"
/-- the words of a call site: virtual, static, a constructor's -/
def CWV (own C : String) (idx : Nat) (y : MethodName) (bytes : ByteArray) (maxL : Nat) (ret : Option FieldType) (n : Nat) : Prop :=
  Cond.methodLink own idx y ∈ TW ∧ Cond.instanceMethod y ∈ TW ∧ Cond.selects C y y ∈ TW ∧ Cond.code y bytes maxL ret ∈ TW ∧ Cond.initialized y.cls ∈ TW ∧ y.cls ≠ "java/lang/invoke/MethodHandle" ∧ y.cls ≠ "java/lang/invoke/VarHandle" ∧ (parseMethodDescriptor y.desc).map (fun d => d.parameters.length) = some n
def CWS (own : String) (idx : Nat) (y : MethodName) (bytes : ByteArray) (maxL : Nat) (ret : Option FieldType) (n : Nat) : Prop :=
  Cond.methodLink own idx y ∈ TW ∧ Cond.static y ∈ TW ∧ Cond.code y bytes maxL ret ∈ TW ∧ Cond.initialized y.cls ∈ TW ∧ y.cls ≠ "java/lang/invoke/MethodHandle" ∧ y.cls ≠ "java/lang/invoke/VarHandle" ∧ (parseMethodDescriptor y.desc).map (fun d => d.parameters.length) = some n
def CWI (own : String) (idx : Nat) (y : MethodName) (bytes : ByteArray) (maxL : Nat) (n : Nat) : Prop :=
  Cond.methodLink own idx y ∈ TW ∧ Cond.instanceMethod y ∈ TW ∧ Cond.code y bytes maxL none ∈ TW ∧ Cond.initialized y.cls ∈ TW ∧ y.name = "<init>" ∧ y.cls ≠ "java/lang/invoke/MethodHandle" ∧ y.cls ≠ "java/lang/invoke/VarHandle" ∧ (parseMethodDescriptor y.desc).map (fun d => d.parameters.length) = some n
-- NUMBERS
def b2i (b : Bool) : Int32 := if b = true then 1 else 0
theorem b2i_t : b2i true = 1 := rfl
theorem b2i_f : b2i false = 0 := rfl
theorem b2i_nar (b : Bool) : narrow .boolean (.int (b2i b)) = .int (b2i b) := by cases b <;> rfl
theorem b2i_vn (b : Bool) : vp_nar .boolean (b2i b) = b2i b := by cases b <;> rfl
theorem b2i_0 {b : Bool} : b2i b = 0 ↔ b = false := by cases b <;> simp [b2i]
theorem b2i_inj {a b : Bool} (h : b2i a = b2i b) : a = b := by cases a <;> cases b <;> simp_all [b2i]
/-- NONE or a number -/
def pe (o : Option Nat) : Int32 := match o with
  | none => -7
  | some u => nI u
theorem nI_big {k : Nat} (h : k < 2 ^ 31) : (nI k).toInt = (k : Int) := nI_toInt h
theorem nI_ne7 {k : Nat} (h : k < 2 ^ 31) : nI k ≠ -7 := by
  intro e
  have := nI_toInt h
  rw [e] at this
  have h7 : (-7 : Int32).toInt = -7 := by decide
  omega
theorem pe_none {o : Option Nat} (ho : ∀ u, o = some u → u < 2 ^ 31) : pe o = -7 ↔ o = none := by
  cases o with
  | none => simp [pe]
  | some u => simp [pe, nI_ne7 (ho u rfl)]
theorem pe_some {o : Option Nat} (ho : ∀ u, o = some u → u < 2 ^ 31) {k : Nat} (hk : k < 2 ^ 31) : pe o = nI k ↔ o = some k := by
  cases o with
  | none => simp [pe]; exact fun h => nI_ne7 hk h.symm
  | some u => simp [pe, nI_eq (ho u rfl) hk]
/-- a node's number out of an int -/
def vN (n : Nat) (x : Int32) : Option Nat := if x < 0 ∨ nI n ≤ x then none else some x.toNatClampNeg
theorem vN_cases {n : Nat} (hn : n ≤ 24) (x : Int32) : (vN n x = none ∧ (x < 0 ∨ nI n ≤ x)) ∨ ∃ v, v < n ∧ x = nI v ∧ vN n x = some v := by
  by_cases h : x < 0 ∨ nI n ≤ x
  · exact Or.inl ⟨if_pos h, h⟩
  · refine Or.inr ?_
    have h1 : ¬ x < 0 := fun q => h (Or.inl q)
    obtain ⟨j, hj, rfl⟩ := nI_of h1
    have h2 : j < n := by
      rcases Nat.lt_or_ge j n with q | q
      · exact q
      · exact absurd (Or.inr (nI_le q hj)) h
    exact ⟨j, h2, rfl, by unfold vN; rw [if_neg h, nI_clamp hj]⟩
theorem vN_nI {n v : Nat} (hn : n ≤ 24) (hv : v < n) : vN n (nI v) = some v := by
  unfold vN
  rw [if_neg, nI_clamp (by omega)]
  rintro (h | h)
  · exact nI_pos (by omega) h
  · exact nI_ge hv (by omega) h
/-- an answer about a node -/
def oN (o : Option Nat) (f : Nat → Int32) : Int32 := match o with
  | none => -1
  | some v => f v
theorem nI_inc (k : Nat) : nI k + Int32.ofInt 1 = nI (k + 1) := nI_1 k
-- THE WORLDS' FRAME: classes by number, the array classes
abbrev EE : Type := va_G × ClassId × ClassId × ClassId
abbrev tyE (E : EE) : List (ClassId × FieldType) := [(E.2.1, .int), (E.2.2.1, .array .int), (E.2.2.2, .boolean)]
def KK (E : EE) (U : State) : Prop := va_K E.1 vwCl (tyE E) U
theorem KK.moved {E : EE} {u U : State} (hvm : u.vm.Alike U.vm) (h : KK E u) : KK E U := va_K.moved hvm h
def UU (E : EE) (P : Heap → Prop) : State → Prop := fun U => P U.heap ∧ KK E U
theorem UU_blind {E : EE} {P : Heap → Prop} {av : List Value} : FrameBlind (va_Pc av (UU E P)) := fun _ U g mk h => ⟨h.1, h.2.1, va_K.moved (u := U) (U := U.calling g mk _) (Vm.Alike.refl U.vm) h.2.2⟩
/-- A METHOD THAT READS: it answers r, the heap stays -/
def RO (l : Launch) (E : EE) (P : Heap → Prop) (y : MethodName) (bytes : ByteArray) (maxL : Nat) (ret : Option FieldType) (f L : Nat) (av : List Value) (r : Int32) : Prop :=
  Met l y (wsM y bytes maxL ret) (k2_rm f L) (va_Pc av (UU E P)) (vp_Si (fun x => x = r)) 0 0 (fun _ => False)
def WQ (P' : Heap → Prop) (A : Nat → Prop) (r : Option Value) : Array Value → State → Outcome → State → Prop := fun _ st o t => o = .returned r ∧ P' t.heap ∧ va_F A st t
/-- A METHOD THAT WRITES in the cells A: it answers r, the heap holds P' -/
def WR (l : Launch) (E : EE) (P : Heap → Prop) (A : Nat → Prop) (y : MethodName) (bytes : ByteArray) (maxL : Nat) (ret : Option FieldType) (f L : Nat) (av : List Value) (r : Option Value) (P' : Heap → Prop) : Prop :=
  Met l y (wsM y bytes maxL ret) (k2_rm f L) (va_Pc av (UU E P)) (WQ P' A r) 0 0 A
section MK
variable {l : Launch} {E : EE} {P P' : Heap → Prop} {A : Nat → Prop} {y : MethodName} {bytes : ByteArray} {maxL f L : Nat} {ret : Option FieldType} {av : List Value} {r : Int32} {C : String}
theorem RO.mk {ty : FieldType} (hret : ret = some ty) (hn : narrow ty (.int r) = .int r) (hy : plainName y.cls = true) (hC : y.cls = C) (hlen : (lg_sl av).length ≤ maxL)
    (body : ∀ (p : Program) (e : Env) (s : State) (m : MethodId) (args : Array Value) (below : List Frame) (meth : Method) (c : Code) (H : Heap) (Q : State → Prop), CallFix p m c bytes maxL s args TW C → KK E s → P H →
      (∀ (pc : Nat) (ls : Array Slot) (v : Int32), decode bytes pc = .ok (.ireturn, 1) → v = r → W p l e (k2_rm f L) s m args below meth c H [] 0 0 Q (F0 m pc ls [.int v])) →
      ∀ ls : Array Slot, lv_has ls maxL (lv_args 0 av) → W p l e (k2_rm f L) s m args below meth c H [] 0 0 Q (F0 m 0 ls [])) : RO l E P y bytes maxL ret f L av r := by
  refine Met.ofW (cc := bytes) (maxL := maxL) (ret := ret) hy rfl ?_
  intro p e s m args below meth c s₁ B hml hv
  obtain ⟨rfl, hP, hK⟩ := hv
  have hts := atoms_spec (ws := wsM y bytes maxL ret) B.pre
  have hown : s.vm.findClass C = some m.cls := hC ▸ findClass_of_methodNamed B.named
  rw [lg_entry_eq]
  refine body p e s m av.toArray below meth c s.heap _ ⟨B.exec, B.bytes, hml, hown, fun w h => hts w (List.mem_cons_of_mem _ h)⟩ hK hP ?_ _ (lv_entry av hlen)
  intro pc ls v hdg hv
  subst hv
  exact W.zret B.exec B.bytes (B.returns.trans hret) hn (fun t ht _ => ⟨v, rfl, rfl, ht⟩) (fun q h => by cases h) hdg B.notSynchronized
theorem WR.mkI {ty : FieldType} (hret : ret = some ty) (hn : narrow ty (.int r) = .int r) (hy : plainName y.cls = true) (hC : y.cls = C) (hlen : (lg_sl av).length ≤ maxL)
    (body : ∀ (p : Program) (e : Env) (s : State) (m : MethodId) (args : Array Value) (below : List Frame) (meth : Method) (c : Code) (H0 : Heap) (Q : State → Prop), CallFix p m c bytes maxL s args TW C → KK E s → P H0 →
      (∀ (H : Heap) (locs : List Loc) (pc : Nat) (ls : Array Slot) (v : Int32), P' H → va_S A H0 H locs → decode bytes pc = .ok (.ireturn, 1) → v = r → W p l e (k2_rm f L) s m args below meth c H locs 0 0 Q (F0 m pc ls [.int v])) →
      ∀ ls : Array Slot, lv_has ls maxL (lv_args 0 av) → W p l e (k2_rm f L) s m args below meth c H0 [] 0 0 Q (F0 m 0 ls [])) : WR l E P A y bytes maxL ret f L av (some (.int r)) P' := by
  refine Met.ofW (cc := bytes) (maxL := maxL) (ret := ret) hy rfl ?_
  intro p e s m args below meth c s₁ B hml hv
  obtain ⟨rfl, hP, hK⟩ := hv
  have hts := atoms_spec (ws := wsM y bytes maxL ret) B.pre
  have hown : s.vm.findClass C = some m.cls := hC ▸ findClass_of_methodNamed B.named
  rw [lg_entry_eq]
  refine body p e s m av.toArray below meth c s.heap _ ⟨B.exec, B.bytes, hml, hown, fun w h => hts w (List.mem_cons_of_mem _ h)⟩ hK hP ?_ _ (lv_entry av hlen)
  intro H locs pc ls v hP' hS hdg hv
  subst hv
  exact W.zret B.exec B.bytes (B.returns.trans hret) hn (fun t ht _ => ⟨rfl, by rw [ht]; exact hP', hS.F ht⟩) hS.2.2 hdg B.notSynchronized
theorem WR.mkV (hret : ret = none) (hy : plainName y.cls = true) (hC : y.cls = C) (hlen : (lg_sl av).length ≤ maxL)
    (body : ∀ (p : Program) (e : Env) (s : State) (m : MethodId) (args : Array Value) (below : List Frame) (meth : Method) (c : Code) (H0 : Heap) (Q : State → Prop), CallFix p m c bytes maxL s args TW C → KK E s → P H0 →
      (∀ (H : Heap) (locs : List Loc) (pc : Nat) (ls : Array Slot), P' H → va_S A H0 H locs → decode bytes pc = .ok (.return_, 1) → W p l e (k2_rm f L) s m args below meth c H locs 0 0 Q (F0 m pc ls [])) →
      ∀ ls : Array Slot, lv_has ls maxL (lv_args 0 av) → W p l e (k2_rm f L) s m args below meth c H0 [] 0 0 Q (F0 m 0 ls [])) : WR l E P A y bytes maxL ret f L av none P' := by
  refine Met.ofW (cc := bytes) (maxL := maxL) (ret := ret) hy rfl ?_
  intro p e s m args below meth c s₁ B hml hv
  obtain ⟨rfl, hP, hK⟩ := hv
  have hts := atoms_spec (ws := wsM y bytes maxL ret) B.pre
  have hown : s.vm.findClass C = some m.cls := hC ▸ findClass_of_methodNamed B.named
  rw [lg_entry_eq]
  refine body p e s m av.toArray below meth c s.heap _ ⟨B.exec, B.bytes, hml, hown, fun w h => hts w (List.mem_cons_of_mem _ h)⟩ hK hP ?_ _ (lv_entry av hlen)
  intro H locs pc ls hP' hS hdg
  exact W.vret B.exec B.bytes (B.returns.trans hret) (fun t ht _ => ⟨rfl, by rw [ht]; exact hP', hS.F ht⟩) hS.2.2 hdg B.notSynchronized
end MK
section CALLS
variable {p : Program} {l : Launch} {e : Env} {R : Room} {s : State} {m : MethodId} {args : Array Value} {below : List Frame} {meth : Method} {c : Code} {H : Heap} {locs : List Loc} {cells slots : Nat} {Q : State → Prop}
variable {cc bytes : ByteArray} {pc nL maxL n idx f L : Nat} {ls : Array Slot} {rest st As : List Value} {E : EE} {P P' : Heap → Prop} {own C : String} {y : MethodName} {ret : Option FieldType} {r : Int32} {b : Nat} {A A0 : Nat → Prop} {H0 : Heap} {lv : List (Nat × Value)} {ro : Option Value}
theorem cb_of (hts : ∀ w ∈ TW, w.before args s = true) (hc : Cond.code y bytes maxL ret ∈ TW) (hl : Cond.methodLink own idx y ∈ TW) (hi : Cond.initialized y.cls ∈ TW) (hd : y.cls ≠ "java/lang/invoke/MethodHandle" ∧ y.cls ≠ "java/lang/invoke/VarHandle" ∧ (parseMethodDescriptor y.desc).map (fun d => d.parameters.length) = some n) (hR : f + 1 ≤ R.frames ∧ 8 + (maxL + 11) + L ≤ R.locals) :
    CallB R s args own idx y bytes maxL ret (wsM y bytes maxL ret) (k2_rm f L) 0 0 n := callB_of n hts (TW_goodIn hc) rfl rfl rfl (hts _ hi) (hts _ hl) hd hR
/-- a call of a method that reads -/
theorem roV (S : CallFix p m c cc nL s args TW own) (k : CWV own C idx y bytes maxL ret n) (hM : RO l E P y bytes maxL ret f L (.ref b :: As) r) (hK : KK E s) (hP : P H) (hrec : ∃ cell : Cell, H[b]? = some cell ∧ cell.vm.isStatics = false ∧ s.vm.findClass C = some cell.cls)
    (hst : st = As.reverse ++ .ref b :: rest) (hn : As.length = n) (hl : lv_has ls nL lv) (hR : f + 1 ≤ R.frames ∧ 8 + (maxL + 11) + L ≤ R.locals) (hW : (rest.map fun v => v.category).sum ≤ 8) (hdg : decode cc pc = .ok (.invokevirtual idx, 3)) (hf : cells + 0 ≤ R.cells ∧ slots + 0 ≤ R.slots)
    (kk : W p l e R s m args below meth c H locs cells slots Q (F0 m (pc + 3) ls (.int r :: rest))) : W p l e R s m args below meth c H locs cells slots Q (F0 m pc ls st) := by
  obtain ⟨k1, k2, k3, k4, k5, k6⟩ := k
  have hts := S.2.2.2.2
  refine vp_callSi (W.runV S hM (C := C) (index := idx) ⟨cb_of hts k4 k1 k5 k6 hR, hts _ k2, hts _ k3⟩ ⟨UU_blind, hrec, fun U hU hW => ⟨rfl, by rw [hU]; exact hP, KK.moved hW.alike hK⟩⟩ rfl hn hl.1 hst (lv_room hW) hdg hf) (fun r' hr' => ?_)
  subst hr'
  exact kk
theorem roS (S : CallFix p m c cc nL s args TW own) (k : CWS own idx y bytes maxL ret n) (hM : RO l E P y bytes maxL ret f L As r) (hK : KK E s) (hP : P H)
    (hst : st = As.reverse ++ rest) (hn : As.length = n) (hl : lv_has ls nL lv) (hR : f + 1 ≤ R.frames ∧ 8 + (maxL + 11) + L ≤ R.locals) (hW : (rest.map fun v => v.category).sum ≤ 8) (hdg : decode cc pc = .ok (.invokestatic idx, 3)) (hf : cells + 0 ≤ R.cells ∧ slots + 0 ≤ R.slots)
    (kk : W p l e R s m args below meth c H locs cells slots Q (F0 m (pc + 3) ls (.int r :: rest))) : W p l e R s m args below meth c H locs cells slots Q (F0 m pc ls st) := by
  obtain ⟨k1, k2, k4, k5, k6⟩ := k
  have hts := S.2.2.2.2
  refine vp_callSi (W.runS S hM (index := idx) ⟨cb_of hts k4 k1 k5 k6 hR, hts _ k2⟩ ⟨UU_blind, fun U hU hW => ⟨rfl, by rw [hU]; exact hP, KK.moved hW.alike hK⟩⟩ rfl hn hl.1 hst (lv_room hW) hdg hf) (fun r' hr' => ?_)
  subst hr'
  exact kk
/-- behind a call of a method that writes -/
theorem wr_back {a : Array Value} (hr : CallRun p l e R s m args below meth c H locs cells slots 0 0 (F0 m pc ls st) rest (WQ P' A ro a) A) (hS : va_S A0 H0 H locs) (hA : ∀ q, A q → A0 q)
    (kk : ∀ (H1 : Heap) (locs1 : List Loc), P' H1 → va_S A0 H0 H1 locs1 → H.size ≤ H1.size → (∀ q : Nat, q < H.size → ¬ A q → H1[q]? = H[q]?) → W p l e R s m args below meth c H1 locs1 cells slots Q (F0 m (pc + 3) ls (ro.toList ++ rest))) : W p l e R s m args below meth c H locs cells slots Q (F0 m pc ls st) := by
  intro T hT X
  obtain ⟨v, st₀, t, T', L, h0, X', hL, e1, ⟨hv, hp, hz, hk⟩, stp⟩ := hr T hT X
  cases hv
  rw [h0] at hz hk
  obtain ⟨t2, a1, b1⟩ := kk T'.heap (locs ++ L) (by rw [e1]; exact hp)
    ⟨Nat.le_trans hS.1 (by rw [e1]; exact hz), fun q h1 h2 => by rw [e1, hk q (Nat.lt_of_lt_of_le h1 hS.1) (fun z => h2 (hA q z))]; exact hS.2.1 q h1 h2, fun q hq => by
      rcases List.mem_append.mp hq with h | h
      · exact hS.2.2 q h
      · exact hA _ (hL q h)⟩ (by rw [e1]; exact hz) (fun q h1 h2 => by rw [e1]; exact hk q h1 h2) T' rfl X'
  exact ⟨t2, stp t2 a1, b1⟩
theorem wrV (S : CallFix p m c cc nL s args TW own) (k : CWV own C idx y bytes maxL ret n) (hM : WR l E P A y bytes maxL ret f L (.ref b :: As) ro P') (hK : KK E s) (hP : P H) (hrec : ∃ cell : Cell, H[b]? = some cell ∧ cell.vm.isStatics = false ∧ s.vm.findClass C = some cell.cls) (hS : va_S A0 H0 H locs) (hA : ∀ q, A q → A0 q)
    (hst : st = As.reverse ++ .ref b :: rest) (hn : As.length = n) (hl : lv_has ls nL lv) (hR : f + 1 ≤ R.frames ∧ 8 + (maxL + 11) + L ≤ R.locals) (hW : (rest.map fun v => v.category).sum ≤ 8) (hdg : decode cc pc = .ok (.invokevirtual idx, 3)) (hf : cells + 0 ≤ R.cells ∧ slots + 0 ≤ R.slots)
    (kk : ∀ (H1 : Heap) (locs1 : List Loc), P' H1 → va_S A0 H0 H1 locs1 → H.size ≤ H1.size → (∀ q : Nat, q < H.size → ¬ A q → H1[q]? = H[q]?) → W p l e R s m args below meth c H1 locs1 cells slots Q (F0 m (pc + 3) ls (ro.toList ++ rest))) : W p l e R s m args below meth c H locs cells slots Q (F0 m pc ls st) := by
  obtain ⟨k1, k2, k3, k4, k5, k6⟩ := k
  have hts := S.2.2.2.2
  exact wr_back (W.runV S hM (C := C) (index := idx) ⟨cb_of hts k4 k1 k5 k6 hR, hts _ k2, hts _ k3⟩ ⟨UU_blind, hrec, fun U hU hW => ⟨rfl, by rw [hU]; exact hP, KK.moved hW.alike hK⟩⟩ rfl hn hl.1 hst (lv_room hW) hdg hf) hS hA kk
end CALLS
-- NUMBERS ON THE STACK, AS NATURAL NUMBERS AND TRUTH VALUES
section NV
variable {p : Program} {l : Launch} {e : Env} {R : Room} {s : State} {m : MethodId} {args : Array Value} {below : List Frame} {meth : Method} {c : Code} {H : Heap} {locs : List Loc} {cells slots : Nat} {Q : State → Prop}
variable {cc : ByteArray} {pc tgt a b : Nat} {ls : Array Slot} {rest : List Value} {off : Int}
theorem tI {x : Int32} (y : Int32) (h : x = y) (k : W p l e R s m args below meth c H locs cells slots Q (F0 m pc ls (.int y :: rest))) : W p l e R s m args below meth c H locs cells slots Q (F0 m pc ls (.int x :: rest)) := h ▸ k
theorem nv_ge (hx : p.tables.exec = Jvm.exec) (hb : c.code = cc) (h1 : a < 2 ^ 31) (h2 : b < 2 ^ 31) (hdg : decode cc pc = .ok (.if_icmp .ge off, 3)) (ht : (pc : Int) + off = (tgt : Int)) (kt : b ≤ a → W p l e R s m args below meth c H locs cells slots Q (F0 m tgt ls rest)) (kf : a < b → W p l e R s m args below meth c H locs cells slots Q (F0 m (pc + 3) ls rest)) : W p l e R s m args below meth c H locs cells slots Q (F0 m pc ls (.int (nI b) :: .int (nI a) :: rest)) :=
  lv_icmp_ge hx hb hdg ht (fun q => kt ((nI_leI h2 h1).mp q)) (fun q => kf (Nat.lt_of_not_le (fun z => q ((nI_leI h2 h1).mpr z))))
theorem nv_lt (hx : p.tables.exec = Jvm.exec) (hb : c.code = cc) (h1 : a < 2 ^ 31) (h2 : b < 2 ^ 31) (hdg : decode cc pc = .ok (.if_icmp .lt off, 3)) (ht : (pc : Int) + off = (tgt : Int)) (kt : a < b → W p l e R s m args below meth c H locs cells slots Q (F0 m tgt ls rest)) (kf : b ≤ a → W p l e R s m args below meth c H locs cells slots Q (F0 m (pc + 3) ls rest)) : W p l e R s m args below meth c H locs cells slots Q (F0 m pc ls (.int (nI b) :: .int (nI a) :: rest)) :=
  lv_icmp_lt hx hb hdg ht (fun q => kt ((nI_ltI h1 h2).mp q)) (fun q => kf (Nat.le_of_not_lt (fun z => q ((nI_ltI h1 h2).mpr z))))
theorem nv_gt (hx : p.tables.exec = Jvm.exec) (hb : c.code = cc) (h1 : a < 2 ^ 31) (h2 : b < 2 ^ 31) (hdg : decode cc pc = .ok (.if_icmp .gt off, 3)) (ht : (pc : Int) + off = (tgt : Int)) (kt : b < a → W p l e R s m args below meth c H locs cells slots Q (F0 m tgt ls rest)) (kf : a ≤ b → W p l e R s m args below meth c H locs cells slots Q (F0 m (pc + 3) ls rest)) : W p l e R s m args below meth c H locs cells slots Q (F0 m pc ls (.int (nI b) :: .int (nI a) :: rest)) :=
  lv_icmp_gt hx hb hdg ht (fun q => kt ((nI_ltI h2 h1).mp q)) (fun q => kf (Nat.le_of_not_lt (fun z => q ((nI_ltI h2 h1).mpr z))))
theorem nv_le (hx : p.tables.exec = Jvm.exec) (hb : c.code = cc) (h1 : a < 2 ^ 31) (h2 : b < 2 ^ 31) (hdg : decode cc pc = .ok (.if_icmp .le off, 3)) (ht : (pc : Int) + off = (tgt : Int)) (kt : a ≤ b → W p l e R s m args below meth c H locs cells slots Q (F0 m tgt ls rest)) (kf : b < a → W p l e R s m args below meth c H locs cells slots Q (F0 m (pc + 3) ls rest)) : W p l e R s m args below meth c H locs cells slots Q (F0 m pc ls (.int (nI b) :: .int (nI a) :: rest)) :=
  lv_icmp_le hx hb hdg ht (fun q => kt ((nI_leI h1 h2).mp q)) (fun q => kf (Nat.lt_of_not_le (fun z => q ((nI_leI h1 h2).mpr z))))
theorem nv_eq (hx : p.tables.exec = Jvm.exec) (hb : c.code = cc) (h1 : a < 2 ^ 31) (h2 : b < 2 ^ 31) (hdg : decode cc pc = .ok (.if_icmp .eq off, 3)) (ht : (pc : Int) + off = (tgt : Int)) (kt : a = b → W p l e R s m args below meth c H locs cells slots Q (F0 m tgt ls rest)) (kf : ¬ a = b → W p l e R s m args below meth c H locs cells slots Q (F0 m (pc + 3) ls rest)) : W p l e R s m args below meth c H locs cells slots Q (F0 m pc ls (.int (nI b) :: .int (nI a) :: rest)) :=
  lv_icmp_eq hx hb hdg ht (fun q => kt ((nI_eq h1 h2).mp q)) (fun q => kf (fun z => q ((nI_eq h1 h2).mpr z)))
theorem nv_ne (hx : p.tables.exec = Jvm.exec) (hb : c.code = cc) (h1 : a < 2 ^ 31) (h2 : b < 2 ^ 31) (hdg : decode cc pc = .ok (.if_icmp .ne off, 3)) (ht : (pc : Int) + off = (tgt : Int)) (kt : ¬ a = b → W p l e R s m args below meth c H locs cells slots Q (F0 m tgt ls rest)) (kf : a = b → W p l e R s m args below meth c H locs cells slots Q (F0 m (pc + 3) ls rest)) : W p l e R s m args below meth c H locs cells slots Q (F0 m pc ls (.int (nI b) :: .int (nI a) :: rest)) :=
  lv_icmp_ne hx hb hdg ht (fun q => kt (fun z => q ((nI_eq h1 h2).mpr z))) (fun q => kf ((nI_eq h1 h2).mp q))
theorem bv_eq {b : Bool} (hx : p.tables.exec = Jvm.exec) (hb : c.code = cc) (hdg : decode cc pc = .ok (.ifCond .eq off, 3)) (ht : (pc : Int) + off = (tgt : Int)) (kt : b = false → W p l e R s m args below meth c H locs cells slots Q (F0 m tgt ls rest)) (kf : b = true → W p l e R s m args below meth c H locs cells slots Q (F0 m (pc + 3) ls rest)) : W p l e R s m args below meth c H locs cells slots Q (F0 m pc ls (.int (b2i b) :: rest)) :=
  lv_if_eq hx hb hdg ht (fun q => kt (b2i_0.mp q)) (fun q => kf (by cases b with | true => rfl | false => exact absurd rfl q))
theorem bv_ne {b : Bool} (hx : p.tables.exec = Jvm.exec) (hb : c.code = cc) (hdg : decode cc pc = .ok (.ifCond .ne off, 3)) (ht : (pc : Int) + off = (tgt : Int)) (kt : b = true → W p l e R s m args below meth c H locs cells slots Q (F0 m tgt ls rest)) (kf : b = false → W p l e R s m args below meth c H locs cells slots Q (F0 m (pc + 3) ls rest)) : W p l e R s m args below meth c H locs cells slots Q (F0 m pc ls (.int (b2i b) :: rest)) :=
  lv_if_ne hx hb hdg ht (fun q => kt (by cases b with | true => rfl | false => exact absurd rfl q)) (fun q => kf (b2i_0.mp q))
end NV
end
section
-- words of the tables by their places, and the words of each call site
theorem fX0_9 : Cond.fieldLink RX0 9 "ColourReduction" "identifiers" "[I" ∈ TW := TW_at 60 (by decide +kernel) rfl
theorem fX0_13 : Cond.fieldLink RX0 13 "ColourReduction" "parents" "[I" ∈ TW := TW_at 61 (by decide +kernel) rfl
theorem fX0_18 : Cond.fieldLink RX0 18 "ColourReduction" "rows" "[[I" ∈ TW := TW_at 62 (by decide +kernel) rfl
theorem fX0_21 : Cond.fieldLink RX0 21 "ColourReduction" "colours" "[I" ∈ TW := TW_at 63 (by decide +kernel) rfl
theorem fX0_24 : Cond.fieldLink RX0 24 "ColourReduction" "present" "I" ∈ TW := TW_at 64 (by decide +kernel) rfl
theorem fX0_28 : Cond.fieldLink RX0 28 "ColourReduction" "nodes" "I" ∈ TW := TW_at 65 (by decide +kernel) rfl
theorem fX0_31 : Cond.fieldLink RX0 31 "ColourReduction" "rounds" "I" ∈ TW := TW_at 66 (by decide +kernel) rfl
theorem fX1_7 : Cond.fieldLink RX1 7 "ColourReductionModel" "identifierOf" "[I" ∈ TW := TW_at 308 (by decide +kernel) rfl
theorem fX1_13 : Cond.fieldLink RX1 13 "ColourReductionModel" "parentOf" "[I" ∈ TW := TW_at 309 (by decide +kernel) rfl
theorem fX1_16 : Cond.fieldLink RX1 16 "ColourReductionModel" "colours" "[I" ∈ TW := TW_at 310 (by decide +kernel) rfl
theorem fX1_19 : Cond.fieldLink RX1 19 "ColourReductionModel" "next" "[I" ∈ TW := TW_at 312 (by decide +kernel) rfl
theorem fX1_22 : Cond.fieldLink RX1 22 "ColourReductionModel" "isIn" "[Z" ∈ TW := TW_at 313 (by decide +kernel) rfl
theorem fX1_26 : Cond.fieldLink RX1 26 "ColourReductionModel" "with" "[I" ∈ TW := TW_at 314 (by decide +kernel) rfl
theorem fX1_29 : Cond.fieldLink RX1 29 "ColourReductionModel" "without" "[I" ∈ TW := TW_at 315 (by decide +kernel) rfl
theorem fX1_32 : Cond.fieldLink RX1 32 "ColourReductionModel" "waitsFor" "[I" ∈ TW := TW_at 316 (by decide +kernel) rfl
theorem fX1_35 : Cond.fieldLink RX1 35 "ColourReductionModel" "nodes" "I" ∈ TW := TW_at 307 (by decide +kernel) rfl
theorem fX1_43 : Cond.fieldLink RX1 43 "ColourReductionModel" "rounds" "I" ∈ TW := TW_at 311 (by decide +kernel) rfl
theorem lX0_0 : u_lay RX0 TX0 0 ∈ TW := TW_at 67 (by decide +kernel) rfl
theorem lX0_1 : u_lay RX0 TX0 1 ∈ TW := TW_at 69 (by decide +kernel) rfl
theorem lX0_2 : u_lay RX0 TX0 2 ∈ TW := TW_at 71 (by decide +kernel) rfl
theorem lX0_3 : u_lay RX0 TX0 3 ∈ TW := TW_at 73 (by decide +kernel) rfl
theorem lX0_4 : u_lay RX0 TX0 4 ∈ TW := TW_at 75 (by decide +kernel) rfl
theorem lX0_5 : u_lay RX0 TX0 5 ∈ TW := TW_at 77 (by decide +kernel) rfl
theorem lX0_6 : u_lay RX0 TX0 6 ∈ TW := TW_at 79 (by decide +kernel) rfl
theorem inX0 : ∀ w ∈ u_ws RX0 TX0 7, w ∈ TW := by
  intro w hw
  obtain ⟨k, hk, rfl⟩ := List.mem_map.mp hw
  have hk : k < 7 := List.mem_range.mp hk
  match k, hk with
  | 0, _ => exact lX0_0
  | 1, _ => exact lX0_1
  | 2, _ => exact lX0_2
  | 3, _ => exact lX0_3
  | 4, _ => exact lX0_4
  | 5, _ => exact lX0_5
  | 6, _ => exact lX0_6
  | k + 7, h => exact absurd h (by omega)
theorem lX1_0 : u_lay RX1 TX1 0 ∈ TW := TW_at 317 (by decide +kernel) rfl
theorem lX1_1 : u_lay RX1 TX1 1 ∈ TW := TW_at 319 (by decide +kernel) rfl
theorem lX1_2 : u_lay RX1 TX1 2 ∈ TW := TW_at 321 (by decide +kernel) rfl
theorem lX1_3 : u_lay RX1 TX1 3 ∈ TW := TW_at 323 (by decide +kernel) rfl
theorem lX1_4 : u_lay RX1 TX1 4 ∈ TW := TW_at 325 (by decide +kernel) rfl
theorem lX1_5 : u_lay RX1 TX1 5 ∈ TW := TW_at 327 (by decide +kernel) rfl
theorem lX1_6 : u_lay RX1 TX1 6 ∈ TW := TW_at 329 (by decide +kernel) rfl
theorem lX1_7 : u_lay RX1 TX1 7 ∈ TW := TW_at 331 (by decide +kernel) rfl
theorem lX1_8 : u_lay RX1 TX1 8 ∈ TW := TW_at 333 (by decide +kernel) rfl
theorem lX1_9 : u_lay RX1 TX1 9 ∈ TW := TW_at 335 (by decide +kernel) rfl
theorem inX1 : ∀ w ∈ u_ws RX1 TX1 10, w ∈ TW := by
  intro w hw
  obtain ⟨k, hk, rfl⟩ := List.mem_map.mp hw
  have hk : k < 10 := List.mem_range.mp hk
  match k, hk with
  | 0, _ => exact lX1_0
  | 1, _ => exact lX1_1
  | 2, _ => exact lX1_2
  | 3, _ => exact lX1_3
  | 4, _ => exact lX1_4
  | 5, _ => exact lX1_5
  | 6, _ => exact lX1_6
  | 7, _ => exact lX1_7
  | 8, _ => exact lX1_8
  | 9, _ => exact lX1_9
  | k + 10, h => exact absurd h (by omega)
theorem qJ6_264 : Cond.constant RJ6 264 (65536) ∈ TW := TW_at 222 (by decide +kernel) rfl
theorem qJ6_265 : Cond.constant RJ6 265 (1431655765) ∈ TW := TW_at 134 (by decide +kernel) rfl
theorem qJ6_266 : Cond.constant RJ6 266 (858993459) ∈ TW := TW_at 135 (by decide +kernel) rfl
theorem qJ6_267 : Cond.constant RJ6 267 (252645135) ∈ TW := TW_at 136 (by decide +kernel) rfl
theorem qX0_110 : Cond.constant RX0 110 (65535) ∈ TW := TW_at 90 (by decide +kernel) rfl
theorem qX1_50 : Cond.constant RX1 50 (65535) ∈ TW := TW_at 343 (by decide +kernel) rfl
theorem ac_int : Cond.arrayClass .int ∈ TW := TW_at 82 (by decide +kernel) rfl
theorem ac_boolean : Cond.arrayClass .boolean ∈ TW := TW_at 338 (by decide +kernel) rfl
theorem ao_int : Cond.arrayOver (.array .int) ∈ lw_tbl := List.mem_of_getElem? (i := 59) (by decide +kernel)
theorem kL_cl7 : Cond.classLink RL 7 "ColourReduction" ∈ TW := TW_at 50 (by decide +kernel) rfl
theorem kX0_cl16 : Cond.classLink RX0 16 "[[I" ∈ TW := TW_at 58 (by decide +kernel) rfl
theorem kL_cl10 : Cond.classLink RL 10 "ColourReductionModel" ∈ TW := TW_at 301 (by decide +kernel) rfl
theorem instX0 : Cond.instantiable RX0 7 ∈ TW := TW_at 51 (by decide +kernel) rfl
theorem instX1 : Cond.instantiable RX1 10 ∈ TW := TW_at 302 (by decide +kernel) rfl
theorem iniX0 : Cond.initialized RX0 ∈ TW := TW_at 46 (by decide +kernel) rfl
theorem iniX1 : Cond.initialized RX1 ∈ TW := TW_at 47 (by decide +kernel) rfl
theorem iniL : Cond.initialized RL ∈ TW := TW_at 45 (by decide +kernel) rfl
theorem iniJ6 : Cond.initialized RJ6 ∈ TW := TW_at 48 (by decide +kernel) rfl
theorem iniJ9 : Cond.initialized RJ9 ∈ TW := TW_at 49 (by decide +kernel) rfl
theorem wJ6_bitCount_0f7a4 : Cond.code yJ6_bitCount_0f7a4 cJ6_bitCount_0f7a4 1 (some .int) ∈ TW := TW_at 133 (by decide +kernel) rfl
theorem wJ6_numberOfTrailingZeros_0f7a4 : Cond.code yJ6_numberOfTrailingZeros_0f7a4 cJ6_numberOfTrailingZeros_0f7a4 2 (some .int) ∈ TW := TW_at 221 (by decide +kernel) rfl
theorem wJ9_max_7cf53 : Cond.code yJ9_max_7cf53 cJ9_max_7cf53 2 (some .int) ∈ TW := TW_at 202 (by decide +kernel) rfl
theorem wX0_addNode : Cond.code yX0_addNode cX0_addNode 3 (some .int) ∈ TW := TW_at 86 (by decide +kernel) rfl
theorem wX0_areNeighbours : Cond.code yX0_areNeighbours cX0_areNeighbours 3 (some .boolean) ∈ TW := TW_at 130 (by decide +kernel) rfl
theorem wX0_colour : Cond.code yX0_colour cX0_colour 2 (some .int) ∈ TW := TW_at 167 (by decide +kernel) rfl
theorem wX0_colourCount : Cond.code yX0_colourCount cX0_colourCount 3 (some .int) ∈ TW := TW_at 191 (by decide +kernel) rfl
theorem wX0_conflictCount : Cond.code yX0_conflictCount cX0_conflictCount 3 (some .int) ∈ TW := TW_at 206 (by decide +kernel) rfl
theorem wX0_cycleLength : Cond.code yX0_cycleLength cX0_cycleLength 4 (some .int) ∈ TW := TW_at 148 (by decide +kernel) rfl
theorem wX0_degree : Cond.code yX0_degree cX0_degree 2 (some .int) ∈ TW := TW_at 122 (by decide +kernel) rfl
theorem wX0_depth : Cond.code yX0_depth cX0_depth 4 (some .int) ∈ TW := TW_at 140 (by decide +kernel) rfl
theorem wX0_differingBit : Cond.code yX0_differingBit cX0_differingBit 2 (some .int) ∈ TW := TW_at 214 (by decide +kernel) rfl
theorem wX0_doElimination : Cond.code yX0_doElimination cX0_doElimination 5 (some .int) ∈ TW := TW_at 264 (by decide +kernel) rfl
theorem wX0_doReduction : Cond.code yX0_doReduction cX0_doReduction 4 none ∈ TW := TW_at 235 (by decide +kernel) rfl
theorem wX0_doShift : Cond.code yX0_doShift cX0_doShift 4 (some .int) ∈ TW := TW_at 252 (by decide +kernel) rfl
theorem wX0_eliminate : Cond.code yX0_eliminate cX0_eliminate 2 (some .int) ∈ TW := TW_at 260 (by decide +kernel) rfl
theorem wX0_endRound : Cond.code yX0_endRound cX0_endRound 1 none ∈ TW := TW_at 243 (by decide +kernel) rfl
theorem wX0_greatestColour : Cond.code yX0_greatestColour cX0_greatestColour 3 (some .int) ∈ TW := TW_at 199 (by decide +kernel) rfl
theorem wX0_greatestIndependentSet : Cond.code yX0_greatestIndependentSet cX0_greatestIndependentSet 6 (some .int) ∈ TW := TW_at 296 (by decide +kernel) rfl
theorem wX0_hasNeighbourOfColour : Cond.code yX0_hasNeighbourOfColour cX0_hasNeighbourOfColour 4 (some .boolean) ∈ TW := TW_at 187 (by decide +kernel) rfl
theorem wX0_inIndependentSet : Cond.code yX0_inIndependentSet cX0_inIndependentSet 2 (some .int) ∈ TW := TW_at 280 (by decide +kernel) rfl
theorem wX0_independentSet : Cond.code yX0_independentSet cX0_independentSet 5 (some .int) ∈ TW := TW_at 284 (by decide +kernel) rfl
theorem wX0_independentSetSize : Cond.code yX0_independentSetSize cX0_independentSetSize 1 (some .int) ∈ TW := TW_at 292 (by decide +kernel) rfl
theorem wX0_init : Cond.code yX0_init cX0_init 1 none ∈ TW := TW_at 54 (by decide +kernel) rfl
theorem wX0_isFirstOfItsColour : Cond.code yX0_isFirstOfItsColour cX0_isFirstOfItsColour 3 (some .boolean) ∈ TW := TW_at 195 (by decide +kernel) rfl
theorem wX0_isIdentifierTaken : Cond.code yX0_isIdentifierTaken cX0_isIdentifierTaken 3 (some .boolean) ∈ TW := TW_at 94 (by decide +kernel) rfl
theorem wX0_isIn : Cond.code yX0_isIn cX0_isIn 2 (some .boolean) ∈ TW := TW_at 155 (by decide +kernel) rfl
theorem wX0_isInConflict : Cond.code yX0_isInConflict cX0_isInConflict 2 (some .boolean) ∈ TW := TW_at 210 (by decide +kernel) rfl
theorem wX0_isNode : Cond.code yX0_isNode cX0_isNode 2 (some .boolean) ∈ TW := TW_at 106 (by decide +kernel) rfl
theorem wX0_isProper : Cond.code yX0_isProper cX0_isProper 1 (some .boolean) ∈ TW := TW_at 230 (by decide +kernel) rfl
theorem wX0_isRoot : Cond.code yX0_isRoot cX0_isRoot 2 (some .boolean) ∈ TW := TW_at 144 (by decide +kernel) rfl
theorem wX0_isValue : Cond.code yX0_isValue cX0_isValue 1 (some .boolean) ∈ TW := TW_at 89 (by decide +kernel) rfl
theorem wX0_lowestFreeColour : Cond.code yX0_lowestFreeColour cX0_lowestFreeColour 4 (some .int) ∈ TW := TW_at 183 (by decide +kernel) rfl
theorem wX0_neighbours : Cond.code yX0_neighbours cX0_neighbours 4 (some .int) ∈ TW := TW_at 126 (by decide +kernel) rfl
theorem wX0_nextToVisit : Cond.code yX0_nextToVisit cX0_nextToVisit 4 (some .int) ∈ TW := TW_at 288 (by decide +kernel) rfl
theorem wX0_nodeAtAnEnd : Cond.code yX0_nodeAtAnEnd cX0_nodeAtAnEnd 3 (some .int) ∈ TW := TW_at 300 (by decide +kernel) rfl
theorem wX0_parent : Cond.code yX0_parent cX0_parent 2 (some .int) ∈ TW := TW_at 118 (by decide +kernel) rfl
theorem wX0_part : Cond.code yX0_part cX0_part 5 (some .int) ∈ TW := TW_at 159 (by decide +kernel) rfl
theorem wX0_partCount : Cond.code yX0_partCount cX0_partCount 4 (some .int) ∈ TW := TW_at 152 (by decide +kernel) rfl
theorem wX0_pastColour : Cond.code yX0_pastColour cX0_pastColour 4 (some .int) ∈ TW := TW_at 276 (by decide +kernel) rfl
theorem wX0_recolour : Cond.code yX0_recolour cX0_recolour 2 (some .int) ∈ TW := TW_at 179 (by decide +kernel) rfl
theorem wX0_reduce : Cond.code yX0_reduce cX0_reduce 1 (some .int) ∈ TW := TW_at 226 (by decide +kernel) rfl
theorem wX0_reduceToThree : Cond.code yX0_reduceToThree cX0_reduceToThree 3 (some .int) ∈ TW := TW_at 268 (by decide +kernel) rfl
theorem wX0_reductionBit : Cond.code yX0_reductionBit cX0_reductionBit 2 (some .int) ∈ TW := TW_at 218 (by decide +kernel) rfl
theorem wX0_removeParent : Cond.code yX0_removeParent cX0_removeParent 2 (some .int) ∈ TW := TW_at 114 (by decide +kernel) rfl
theorem wX0_replaceParent : Cond.code yX0_replaceParent cX0_replaceParent 4 (some .int) ∈ TW := TW_at 110 (by decide +kernel) rfl
theorem wX0_resetColours : Cond.code yX0_resetColours cX0_resetColours 3 (some .int) ∈ TW := TW_at 175 (by decide +kernel) rfl
theorem wX0_roundCount : Cond.code yX0_roundCount cX0_roundCount 1 (some .int) ∈ TW := TW_at 272 (by decide +kernel) rfl
theorem wX0_rowAfterPresent : Cond.code yX0_rowAfterPresent cX0_rowAfterPresent 1 (some .int) ∈ TW := TW_at 239 (by decide +kernel) rfl
theorem wX0_setColour : Cond.code yX0_setColour cX0_setColour 4 (some .int) ∈ TW := TW_at 171 (by decide +kernel) rfl
theorem wX0_setParent : Cond.code yX0_setParent cX0_setParent 3 (some .int) ∈ TW := TW_at 102 (by decide +kernel) rfl
theorem wX0_shift : Cond.code yX0_shift cX0_shift 1 (some .int) ∈ TW := TW_at 248 (by decide +kernel) rfl
theorem wX0_shiftedColour : Cond.code yX0_shiftedColour cX0_shiftedColour 2 (some .int) ∈ TW := TW_at 256 (by decide +kernel) rfl
theorem wX0_startCount : Cond.code yX0_startCount cX0_startCount 1 none ∈ TW := TW_at 98 (by decide +kernel) rfl
theorem wX0_widened : Cond.code yX0_widened cX0_widened 4 (some .int) ∈ TW := TW_at 163 (by decide +kernel) rfl
theorem wX1_addNode : Cond.code yX1_addNode cX1_addNode 3 (some .int) ∈ TW := TW_at 342 (by decide +kernel) rfl
theorem wX1_areNeighbours : Cond.code yX1_areNeighbours cX1_areNeighbours 3 (some .boolean) ∈ TW := TW_at 386 (by decide +kernel) rfl
theorem wX1_bestOfCycle : Cond.code yX1_bestOfCycle cX1_bestOfCycle 7 (some .int) ∈ TW := TW_at 530 (by decide +kernel) rfl
theorem wX1_bitOf : Cond.code yX1_bitOf cX1_bitOf 4 (some .int) ∈ TW := TW_at 462 (by decide +kernel) rfl
theorem wX1_buildSet : Cond.code yX1_buildSet cX1_buildSet 8 (some .int) ∈ TW := TW_at 511 (by decide +kernel) rfl
theorem wX1_changesParent : Cond.code yX1_changesParent cX1_changesParent 4 (some .int) ∈ TW := TW_at 370 (by decide +kernel) rfl
theorem wX1_colour : Cond.code yX1_colour cX1_colour 2 (some .int) ∈ TW := TW_at 414 (by decide +kernel) rfl
theorem wX1_colourCount : Cond.code yX1_colourCount cX1_colourCount 5 (some .int) ∈ TW := TW_at 434 (by decide +kernel) rfl
theorem wX1_colourOf : Cond.code yX1_colourOf cX1_colourOf 2 (some .int) ∈ TW := TW_at 354 (by decide +kernel) rfl
theorem wX1_conflictCount : Cond.code yX1_conflictCount cX1_conflictCount 1 (some .int) ∈ TW := TW_at 446 (by decide +kernel) rfl
theorem wX1_conflicts : Cond.code yX1_conflicts cX1_conflicts 3 (some .int) ∈ TW := TW_at 450 (by decide +kernel) rfl
theorem wX1_cycleLength : Cond.code yX1_cycleLength cX1_cycleLength 2 (some .int) ∈ TW := TW_at 398 (by decide +kernel) rfl
theorem wX1_cycleOf : Cond.code yX1_cycleOf cX1_cycleOf 4 (some .int) ∈ TW := TW_at 402 (by decide +kernel) rfl
theorem wX1_degree : Cond.code yX1_degree cX1_degree 4 (some .int) ∈ TW := TW_at 382 (by decide +kernel) rfl
theorem wX1_depth : Cond.code yX1_depth cX1_depth 2 (some .int) ∈ TW := TW_at 390 (by decide +kernel) rfl
theorem wX1_differingBit : Cond.code yX1_differingBit cX1_differingBit 2 (some .int) ∈ TW := TW_at 458 (by decide +kernel) rfl
theorem wX1_eliminate : Cond.code yX1_eliminate cX1_eliminate 2 (some .int) ∈ TW := TW_at 482 (by decide +kernel) rfl
theorem wX1_eliminates : Cond.code yX1_eliminates cX1_eliminates 5 (some .int) ∈ TW := TW_at 486 (by decide +kernel) rfl
theorem wX1_ends : Cond.code yX1_ends cX1_ends 2 none ∈ TW := TW_at 474 (by decide +kernel) rfl
theorem wX1_freeOf : Cond.code yX1_freeOf cX1_freeOf 3 (some .int) ∈ TW := TW_at 490 (by decide +kernel) rfl
theorem wX1_greater : Cond.code yX1_greater cX1_greater 2 (some .int) ∈ TW := TW_at 526 (by decide +kernel) rfl
theorem wX1_greatest : Cond.code yX1_greatest cX1_greatest 3 (some .int) ∈ TW := TW_at 442 (by decide +kernel) rfl
theorem wX1_greatestColour : Cond.code yX1_greatestColour cX1_greatestColour 1 (some .int) ∈ TW := TW_at 438 (by decide +kernel) rfl
theorem wX1_greatestIndependentSet : Cond.code yX1_greatestIndependentSet cX1_greatestIndependentSet 3 (some .int) ∈ TW := TW_at 519 (by decide +kernel) rfl
theorem wX1_headOf : Cond.code yX1_headOf cX1_headOf 5 (some .int) ∈ TW := TW_at 410 (by decide +kernel) rfl
theorem wX1_inIndependentSet : Cond.code yX1_inIndependentSet cX1_inIndependentSet 2 (some .int) ∈ TW := TW_at 507 (by decide +kernel) rfl
theorem wX1_independentSetSize : Cond.code yX1_independentSetSize cX1_independentSetSize 1 (some .int) ∈ TW := TW_at 515 (by decide +kernel) rfl
theorem wX1_init : Cond.code yX1_init cX1_init 1 none ∈ TW := TW_at 305 (by decide +kernel) rfl
theorem wX1_isBeside : Cond.code yX1_isBeside cX1_isBeside 4 (some .boolean) ∈ TW := TW_at 430 (by decide +kernel) rfl
theorem wX1_isConflict : Cond.code yX1_isConflict cX1_isConflict 2 (some .boolean) ∈ TW := TW_at 454 (by decide +kernel) rfl
theorem wX1_isNode : Cond.code yX1_isNode cX1_isNode 2 (some .boolean) ∈ TW := TW_at 366 (by decide +kernel) rfl
theorem wX1_paints : Cond.code yX1_paints cX1_paints 3 none ∈ TW := TW_at 358 (by decide +kernel) rfl
theorem wX1_parent : Cond.code yX1_parent cX1_parent 2 (some .int) ∈ TW := TW_at 378 (by decide +kernel) rfl
theorem wX1_partCount : Cond.code yX1_partCount cX1_partCount 3 (some .int) ∈ TW := TW_at 406 (by decide +kernel) rfl
theorem wX1_pastColour : Cond.code yX1_pastColour cX1_pastColour 3 (some .int) ∈ TW := TW_at 503 (by decide +kernel) rfl
theorem wX1_recolour : Cond.code yX1_recolour cX1_recolour 3 (some .int) ∈ TW := TW_at 426 (by decide +kernel) rfl
theorem wX1_reduce : Cond.code yX1_reduce cX1_reduce 1 (some .int) ∈ TW := TW_at 466 (by decide +kernel) rfl
theorem wX1_reduceToThree : Cond.code yX1_reduceToThree cX1_reduceToThree 3 (some .int) ∈ TW := TW_at 494 (by decide +kernel) rfl
theorem wX1_reduces : Cond.code yX1_reduces cX1_reduces 3 none ∈ TW := TW_at 470 (by decide +kernel) rfl
theorem wX1_removeParent : Cond.code yX1_removeParent cX1_removeParent 2 (some .int) ∈ TW := TW_at 374 (by decide +kernel) rfl
theorem wX1_resetColours : Cond.code yX1_resetColours cX1_resetColours 3 (some .int) ∈ TW := TW_at 422 (by decide +kernel) rfl
theorem wX1_roundCount : Cond.code yX1_roundCount cX1_roundCount 1 (some .int) ∈ TW := TW_at 499 (by decide +kernel) rfl
theorem wX1_setColour : Cond.code yX1_setColour cX1_setColour 4 (some .int) ∈ TW := TW_at 418 (by decide +kernel) rfl
theorem wX1_setParent : Cond.code yX1_setParent cX1_setParent 3 (some .int) ∈ TW := TW_at 362 (by decide +kernel) rfl
theorem wX1_shift : Cond.code yX1_shift cX1_shift 3 (some .int) ∈ TW := TW_at 478 (by decide +kernel) rfl
theorem wX1_startsCount : Cond.code yX1_startsCount cX1_startsCount 2 none ∈ TW := TW_at 350 (by decide +kernel) rfl
theorem wX1_stepsFrom : Cond.code yX1_stepsFrom cX1_stepsFrom 4 (some .int) ∈ TW := TW_at 394 (by decide +kernel) rfl
theorem wX1_takesTrees : Cond.code yX1_takesTrees cX1_takesTrees 3 none ∈ TW := TW_at 523 (by decide +kernel) rfl
theorem wX1_within : Cond.code yX1_within cX1_within 3 (some .boolean) ∈ TW := TW_at 346 (by decide +kernel) rfl
theorem stJ6_bitCount_0f7a4 : Cond.static yJ6_bitCount_0f7a4 ∈ TW := TW_at 132 (by decide +kernel) rfl
theorem stJ6_numberOfTrailingZeros_0f7a4 : Cond.static yJ6_numberOfTrailingZeros_0f7a4 ∈ TW := TW_at 220 (by decide +kernel) rfl
theorem stJ9_max_7cf53 : Cond.static yJ9_max_7cf53 ∈ TW := TW_at 201 (by decide +kernel) rfl
theorem iX0_addNode : Cond.instanceMethod yX0_addNode ∈ TW := TW_at 84 (by decide +kernel) rfl
theorem sX0_addNode : Cond.selects RX0 yX0_addNode yX0_addNode ∈ TW := TW_at 85 (by decide +kernel) rfl
theorem iX0_areNeighbours : Cond.instanceMethod yX0_areNeighbours ∈ TW := TW_at 129 (by decide +kernel) rfl
theorem sX0_areNeighbours : Cond.selects RX0 yX0_areNeighbours yX0_areNeighbours ∈ TW := TW_at 5 (by decide +kernel) rfl
theorem iX0_colour : Cond.instanceMethod yX0_colour ∈ TW := TW_at 165 (by decide +kernel) rfl
theorem sX0_colour : Cond.selects RX0 yX0_colour yX0_colour ∈ TW := TW_at 166 (by decide +kernel) rfl
theorem iX0_colourCount : Cond.instanceMethod yX0_colourCount ∈ TW := TW_at 189 (by decide +kernel) rfl
theorem sX0_colourCount : Cond.selects RX0 yX0_colourCount yX0_colourCount ∈ TW := TW_at 190 (by decide +kernel) rfl
theorem iX0_conflictCount : Cond.instanceMethod yX0_conflictCount ∈ TW := TW_at 204 (by decide +kernel) rfl
theorem sX0_conflictCount : Cond.selects RX0 yX0_conflictCount yX0_conflictCount ∈ TW := TW_at 205 (by decide +kernel) rfl
theorem iX0_cycleLength : Cond.instanceMethod yX0_cycleLength ∈ TW := TW_at 146 (by decide +kernel) rfl
theorem sX0_cycleLength : Cond.selects RX0 yX0_cycleLength yX0_cycleLength ∈ TW := TW_at 147 (by decide +kernel) rfl
theorem iX0_degree : Cond.instanceMethod yX0_degree ∈ TW := TW_at 120 (by decide +kernel) rfl
theorem sX0_degree : Cond.selects RX0 yX0_degree yX0_degree ∈ TW := TW_at 121 (by decide +kernel) rfl
theorem iX0_depth : Cond.instanceMethod yX0_depth ∈ TW := TW_at 138 (by decide +kernel) rfl
theorem sX0_depth : Cond.selects RX0 yX0_depth yX0_depth ∈ TW := TW_at 139 (by decide +kernel) rfl
theorem iX0_differingBit : Cond.instanceMethod yX0_differingBit ∈ TW := TW_at 212 (by decide +kernel) rfl
theorem sX0_differingBit : Cond.selects RX0 yX0_differingBit yX0_differingBit ∈ TW := TW_at 213 (by decide +kernel) rfl
theorem iX0_doElimination : Cond.instanceMethod yX0_doElimination ∈ TW := TW_at 263 (by decide +kernel) rfl
theorem sX0_doElimination : Cond.selects RX0 yX0_doElimination yX0_doElimination ∈ TW := TW_at 20 (by decide +kernel) rfl
theorem iX0_doReduction : Cond.instanceMethod yX0_doReduction ∈ TW := TW_at 234 (by decide +kernel) rfl
theorem sX0_doReduction : Cond.selects RX0 yX0_doReduction yX0_doReduction ∈ TW := TW_at 15 (by decide +kernel) rfl
theorem iX0_doShift : Cond.instanceMethod yX0_doShift ∈ TW := TW_at 251 (by decide +kernel) rfl
theorem sX0_doShift : Cond.selects RX0 yX0_doShift yX0_doShift ∈ TW := TW_at 18 (by decide +kernel) rfl
theorem iX0_eliminate : Cond.instanceMethod yX0_eliminate ∈ TW := TW_at 258 (by decide +kernel) rfl
theorem sX0_eliminate : Cond.selects RX0 yX0_eliminate yX0_eliminate ∈ TW := TW_at 259 (by decide +kernel) rfl
theorem iX0_endRound : Cond.instanceMethod yX0_endRound ∈ TW := TW_at 242 (by decide +kernel) rfl
theorem sX0_endRound : Cond.selects RX0 yX0_endRound yX0_endRound ∈ TW := TW_at 17 (by decide +kernel) rfl
theorem iX0_greatestColour : Cond.instanceMethod yX0_greatestColour ∈ TW := TW_at 197 (by decide +kernel) rfl
theorem sX0_greatestColour : Cond.selects RX0 yX0_greatestColour yX0_greatestColour ∈ TW := TW_at 198 (by decide +kernel) rfl
theorem iX0_greatestIndependentSet : Cond.instanceMethod yX0_greatestIndependentSet ∈ TW := TW_at 294 (by decide +kernel) rfl
theorem sX0_greatestIndependentSet : Cond.selects RX0 yX0_greatestIndependentSet yX0_greatestIndependentSet ∈ TW := TW_at 295 (by decide +kernel) rfl
theorem iX0_hasNeighbourOfColour : Cond.instanceMethod yX0_hasNeighbourOfColour ∈ TW := TW_at 186 (by decide +kernel) rfl
theorem sX0_hasNeighbourOfColour : Cond.selects RX0 yX0_hasNeighbourOfColour yX0_hasNeighbourOfColour ∈ TW := TW_at 10 (by decide +kernel) rfl
theorem iX0_inIndependentSet : Cond.instanceMethod yX0_inIndependentSet ∈ TW := TW_at 278 (by decide +kernel) rfl
theorem sX0_inIndependentSet : Cond.selects RX0 yX0_inIndependentSet yX0_inIndependentSet ∈ TW := TW_at 279 (by decide +kernel) rfl
theorem iX0_independentSet : Cond.instanceMethod yX0_independentSet ∈ TW := TW_at 283 (by decide +kernel) rfl
theorem sX0_independentSet : Cond.selects RX0 yX0_independentSet yX0_independentSet ∈ TW := TW_at 21 (by decide +kernel) rfl
theorem iX0_independentSetSize : Cond.instanceMethod yX0_independentSetSize ∈ TW := TW_at 290 (by decide +kernel) rfl
theorem sX0_independentSetSize : Cond.selects RX0 yX0_independentSetSize yX0_independentSetSize ∈ TW := TW_at 291 (by decide +kernel) rfl
theorem iX0_init : Cond.instanceMethod yX0_init ∈ TW := TW_at 53 (by decide +kernel) rfl
theorem iX0_isFirstOfItsColour : Cond.instanceMethod yX0_isFirstOfItsColour ∈ TW := TW_at 194 (by decide +kernel) rfl
theorem sX0_isFirstOfItsColour : Cond.selects RX0 yX0_isFirstOfItsColour yX0_isFirstOfItsColour ∈ TW := TW_at 11 (by decide +kernel) rfl
theorem iX0_isIdentifierTaken : Cond.instanceMethod yX0_isIdentifierTaken ∈ TW := TW_at 93 (by decide +kernel) rfl
theorem sX0_isIdentifierTaken : Cond.selects RX0 yX0_isIdentifierTaken yX0_isIdentifierTaken ∈ TW := TW_at 0 (by decide +kernel) rfl
theorem stX0_isIn : Cond.static yX0_isIn ∈ TW := TW_at 154 (by decide +kernel) rfl
theorem iX0_isInConflict : Cond.instanceMethod yX0_isInConflict ∈ TW := TW_at 209 (by decide +kernel) rfl
theorem sX0_isInConflict : Cond.selects RX0 yX0_isInConflict yX0_isInConflict ∈ TW := TW_at 12 (by decide +kernel) rfl
theorem iX0_isNode : Cond.instanceMethod yX0_isNode ∈ TW := TW_at 105 (by decide +kernel) rfl
theorem sX0_isNode : Cond.selects RX0 yX0_isNode yX0_isNode ∈ TW := TW_at 2 (by decide +kernel) rfl
theorem iX0_isProper : Cond.instanceMethod yX0_isProper ∈ TW := TW_at 229 (by decide +kernel) rfl
theorem sX0_isProper : Cond.selects RX0 yX0_isProper yX0_isProper ∈ TW := TW_at 14 (by decide +kernel) rfl
theorem iX0_isRoot : Cond.instanceMethod yX0_isRoot ∈ TW := TW_at 143 (by decide +kernel) rfl
theorem sX0_isRoot : Cond.selects RX0 yX0_isRoot yX0_isRoot ∈ TW := TW_at 6 (by decide +kernel) rfl
theorem stX0_isValue : Cond.static yX0_isValue ∈ TW := TW_at 88 (by decide +kernel) rfl
theorem iX0_lowestFreeColour : Cond.instanceMethod yX0_lowestFreeColour ∈ TW := TW_at 182 (by decide +kernel) rfl
theorem sX0_lowestFreeColour : Cond.selects RX0 yX0_lowestFreeColour yX0_lowestFreeColour ∈ TW := TW_at 9 (by decide +kernel) rfl
theorem iX0_neighbours : Cond.instanceMethod yX0_neighbours ∈ TW := TW_at 125 (by decide +kernel) rfl
theorem sX0_neighbours : Cond.selects RX0 yX0_neighbours yX0_neighbours ∈ TW := TW_at 4 (by decide +kernel) rfl
theorem iX0_nextToVisit : Cond.instanceMethod yX0_nextToVisit ∈ TW := TW_at 287 (by decide +kernel) rfl
theorem sX0_nextToVisit : Cond.selects RX0 yX0_nextToVisit yX0_nextToVisit ∈ TW := TW_at 22 (by decide +kernel) rfl
theorem iX0_nodeAtAnEnd : Cond.instanceMethod yX0_nodeAtAnEnd ∈ TW := TW_at 299 (by decide +kernel) rfl
theorem sX0_nodeAtAnEnd : Cond.selects RX0 yX0_nodeAtAnEnd yX0_nodeAtAnEnd ∈ TW := TW_at 23 (by decide +kernel) rfl
theorem iX0_parent : Cond.instanceMethod yX0_parent ∈ TW := TW_at 116 (by decide +kernel) rfl
theorem sX0_parent : Cond.selects RX0 yX0_parent yX0_parent ∈ TW := TW_at 117 (by decide +kernel) rfl
theorem iX0_part : Cond.instanceMethod yX0_part ∈ TW := TW_at 158 (by decide +kernel) rfl
theorem sX0_part : Cond.selects RX0 yX0_part yX0_part ∈ TW := TW_at 7 (by decide +kernel) rfl
theorem iX0_partCount : Cond.instanceMethod yX0_partCount ∈ TW := TW_at 150 (by decide +kernel) rfl
theorem sX0_partCount : Cond.selects RX0 yX0_partCount yX0_partCount ∈ TW := TW_at 151 (by decide +kernel) rfl
theorem iX0_pastColour : Cond.instanceMethod yX0_pastColour ∈ TW := TW_at 274 (by decide +kernel) rfl
theorem sX0_pastColour : Cond.selects RX0 yX0_pastColour yX0_pastColour ∈ TW := TW_at 275 (by decide +kernel) rfl
theorem iX0_recolour : Cond.instanceMethod yX0_recolour ∈ TW := TW_at 177 (by decide +kernel) rfl
theorem sX0_recolour : Cond.selects RX0 yX0_recolour yX0_recolour ∈ TW := TW_at 178 (by decide +kernel) rfl
theorem iX0_reduce : Cond.instanceMethod yX0_reduce ∈ TW := TW_at 224 (by decide +kernel) rfl
theorem sX0_reduce : Cond.selects RX0 yX0_reduce yX0_reduce ∈ TW := TW_at 225 (by decide +kernel) rfl
theorem iX0_reduceToThree : Cond.instanceMethod yX0_reduceToThree ∈ TW := TW_at 266 (by decide +kernel) rfl
theorem sX0_reduceToThree : Cond.selects RX0 yX0_reduceToThree yX0_reduceToThree ∈ TW := TW_at 267 (by decide +kernel) rfl
theorem iX0_reductionBit : Cond.instanceMethod yX0_reductionBit ∈ TW := TW_at 217 (by decide +kernel) rfl
theorem sX0_reductionBit : Cond.selects RX0 yX0_reductionBit yX0_reductionBit ∈ TW := TW_at 13 (by decide +kernel) rfl
theorem iX0_removeParent : Cond.instanceMethod yX0_removeParent ∈ TW := TW_at 112 (by decide +kernel) rfl
theorem sX0_removeParent : Cond.selects RX0 yX0_removeParent yX0_removeParent ∈ TW := TW_at 113 (by decide +kernel) rfl
theorem iX0_replaceParent : Cond.instanceMethod yX0_replaceParent ∈ TW := TW_at 109 (by decide +kernel) rfl
theorem sX0_replaceParent : Cond.selects RX0 yX0_replaceParent yX0_replaceParent ∈ TW := TW_at 3 (by decide +kernel) rfl
theorem iX0_resetColours : Cond.instanceMethod yX0_resetColours ∈ TW := TW_at 173 (by decide +kernel) rfl
theorem sX0_resetColours : Cond.selects RX0 yX0_resetColours yX0_resetColours ∈ TW := TW_at 174 (by decide +kernel) rfl
theorem iX0_roundCount : Cond.instanceMethod yX0_roundCount ∈ TW := TW_at 270 (by decide +kernel) rfl
theorem sX0_roundCount : Cond.selects RX0 yX0_roundCount yX0_roundCount ∈ TW := TW_at 271 (by decide +kernel) rfl
theorem iX0_rowAfterPresent : Cond.instanceMethod yX0_rowAfterPresent ∈ TW := TW_at 238 (by decide +kernel) rfl
theorem sX0_rowAfterPresent : Cond.selects RX0 yX0_rowAfterPresent yX0_rowAfterPresent ∈ TW := TW_at 16 (by decide +kernel) rfl
theorem iX0_setColour : Cond.instanceMethod yX0_setColour ∈ TW := TW_at 169 (by decide +kernel) rfl
theorem sX0_setColour : Cond.selects RX0 yX0_setColour yX0_setColour ∈ TW := TW_at 170 (by decide +kernel) rfl
theorem iX0_setParent : Cond.instanceMethod yX0_setParent ∈ TW := TW_at 100 (by decide +kernel) rfl
theorem sX0_setParent : Cond.selects RX0 yX0_setParent yX0_setParent ∈ TW := TW_at 101 (by decide +kernel) rfl
theorem iX0_shift : Cond.instanceMethod yX0_shift ∈ TW := TW_at 246 (by decide +kernel) rfl
theorem sX0_shift : Cond.selects RX0 yX0_shift yX0_shift ∈ TW := TW_at 247 (by decide +kernel) rfl
theorem iX0_shiftedColour : Cond.instanceMethod yX0_shiftedColour ∈ TW := TW_at 255 (by decide +kernel) rfl
theorem sX0_shiftedColour : Cond.selects RX0 yX0_shiftedColour yX0_shiftedColour ∈ TW := TW_at 19 (by decide +kernel) rfl
theorem iX0_startCount : Cond.instanceMethod yX0_startCount ∈ TW := TW_at 97 (by decide +kernel) rfl
theorem sX0_startCount : Cond.selects RX0 yX0_startCount yX0_startCount ∈ TW := TW_at 1 (by decide +kernel) rfl
theorem iX0_widened : Cond.instanceMethod yX0_widened ∈ TW := TW_at 162 (by decide +kernel) rfl
theorem sX0_widened : Cond.selects RX0 yX0_widened yX0_widened ∈ TW := TW_at 8 (by decide +kernel) rfl
theorem iX1_addNode : Cond.instanceMethod yX1_addNode ∈ TW := TW_at 340 (by decide +kernel) rfl
theorem sX1_addNode : Cond.selects RX1 yX1_addNode yX1_addNode ∈ TW := TW_at 341 (by decide +kernel) rfl
theorem iX1_areNeighbours : Cond.instanceMethod yX1_areNeighbours ∈ TW := TW_at 385 (by decide +kernel) rfl
theorem sX1_areNeighbours : Cond.selects RX1 yX1_areNeighbours yX1_areNeighbours ∈ TW := TW_at 29 (by decide +kernel) rfl
theorem iX1_bestOfCycle : Cond.instanceMethod yX1_bestOfCycle ∈ TW := TW_at 529 (by decide +kernel) rfl
theorem sX1_bestOfCycle : Cond.selects RX1 yX1_bestOfCycle yX1_bestOfCycle ∈ TW := TW_at 44 (by decide +kernel) rfl
theorem iX1_bitOf : Cond.instanceMethod yX1_bitOf ∈ TW := TW_at 461 (by decide +kernel) rfl
theorem sX1_bitOf : Cond.selects RX1 yX1_bitOf yX1_bitOf ∈ TW := TW_at 37 (by decide +kernel) rfl
theorem iX1_buildSet : Cond.instanceMethod yX1_buildSet ∈ TW := TW_at 510 (by decide +kernel) rfl
theorem sX1_buildSet : Cond.selects RX1 yX1_buildSet yX1_buildSet ∈ TW := TW_at 42 (by decide +kernel) rfl
theorem iX1_changesParent : Cond.instanceMethod yX1_changesParent ∈ TW := TW_at 369 (by decide +kernel) rfl
theorem sX1_changesParent : Cond.selects RX1 yX1_changesParent yX1_changesParent ∈ TW := TW_at 28 (by decide +kernel) rfl
theorem iX1_colour : Cond.instanceMethod yX1_colour ∈ TW := TW_at 412 (by decide +kernel) rfl
theorem sX1_colour : Cond.selects RX1 yX1_colour yX1_colour ∈ TW := TW_at 413 (by decide +kernel) rfl
theorem iX1_colourCount : Cond.instanceMethod yX1_colourCount ∈ TW := TW_at 432 (by decide +kernel) rfl
theorem sX1_colourCount : Cond.selects RX1 yX1_colourCount yX1_colourCount ∈ TW := TW_at 433 (by decide +kernel) rfl
theorem iX1_colourOf : Cond.instanceMethod yX1_colourOf ∈ TW := TW_at 353 (by decide +kernel) rfl
theorem sX1_colourOf : Cond.selects RX1 yX1_colourOf yX1_colourOf ∈ TW := TW_at 25 (by decide +kernel) rfl
theorem iX1_conflictCount : Cond.instanceMethod yX1_conflictCount ∈ TW := TW_at 444 (by decide +kernel) rfl
theorem sX1_conflictCount : Cond.selects RX1 yX1_conflictCount yX1_conflictCount ∈ TW := TW_at 445 (by decide +kernel) rfl
theorem iX1_conflicts : Cond.instanceMethod yX1_conflicts ∈ TW := TW_at 449 (by decide +kernel) rfl
theorem sX1_conflicts : Cond.selects RX1 yX1_conflicts yX1_conflicts ∈ TW := TW_at 35 (by decide +kernel) rfl
theorem iX1_cycleLength : Cond.instanceMethod yX1_cycleLength ∈ TW := TW_at 396 (by decide +kernel) rfl
theorem sX1_cycleLength : Cond.selects RX1 yX1_cycleLength yX1_cycleLength ∈ TW := TW_at 397 (by decide +kernel) rfl
theorem iX1_cycleOf : Cond.instanceMethod yX1_cycleOf ∈ TW := TW_at 401 (by decide +kernel) rfl
theorem sX1_cycleOf : Cond.selects RX1 yX1_cycleOf yX1_cycleOf ∈ TW := TW_at 31 (by decide +kernel) rfl
theorem iX1_degree : Cond.instanceMethod yX1_degree ∈ TW := TW_at 380 (by decide +kernel) rfl
theorem sX1_degree : Cond.selects RX1 yX1_degree yX1_degree ∈ TW := TW_at 381 (by decide +kernel) rfl
theorem iX1_depth : Cond.instanceMethod yX1_depth ∈ TW := TW_at 388 (by decide +kernel) rfl
theorem sX1_depth : Cond.selects RX1 yX1_depth yX1_depth ∈ TW := TW_at 389 (by decide +kernel) rfl
theorem iX1_differingBit : Cond.instanceMethod yX1_differingBit ∈ TW := TW_at 456 (by decide +kernel) rfl
theorem sX1_differingBit : Cond.selects RX1 yX1_differingBit yX1_differingBit ∈ TW := TW_at 457 (by decide +kernel) rfl
theorem iX1_eliminate : Cond.instanceMethod yX1_eliminate ∈ TW := TW_at 480 (by decide +kernel) rfl
theorem sX1_eliminate : Cond.selects RX1 yX1_eliminate yX1_eliminate ∈ TW := TW_at 481 (by decide +kernel) rfl
theorem iX1_eliminates : Cond.instanceMethod yX1_eliminates ∈ TW := TW_at 485 (by decide +kernel) rfl
theorem sX1_eliminates : Cond.selects RX1 yX1_eliminates yX1_eliminates ∈ TW := TW_at 40 (by decide +kernel) rfl
theorem iX1_ends : Cond.instanceMethod yX1_ends ∈ TW := TW_at 473 (by decide +kernel) rfl
theorem sX1_ends : Cond.selects RX1 yX1_ends yX1_ends ∈ TW := TW_at 39 (by decide +kernel) rfl
theorem iX1_freeOf : Cond.instanceMethod yX1_freeOf ∈ TW := TW_at 489 (by decide +kernel) rfl
theorem sX1_freeOf : Cond.selects RX1 yX1_freeOf yX1_freeOf ∈ TW := TW_at 41 (by decide +kernel) rfl
theorem stX1_greater : Cond.static yX1_greater ∈ TW := TW_at 525 (by decide +kernel) rfl
theorem iX1_greatest : Cond.instanceMethod yX1_greatest ∈ TW := TW_at 441 (by decide +kernel) rfl
theorem sX1_greatest : Cond.selects RX1 yX1_greatest yX1_greatest ∈ TW := TW_at 34 (by decide +kernel) rfl
theorem iX1_greatestColour : Cond.instanceMethod yX1_greatestColour ∈ TW := TW_at 436 (by decide +kernel) rfl
theorem sX1_greatestColour : Cond.selects RX1 yX1_greatestColour yX1_greatestColour ∈ TW := TW_at 437 (by decide +kernel) rfl
theorem iX1_greatestIndependentSet : Cond.instanceMethod yX1_greatestIndependentSet ∈ TW := TW_at 517 (by decide +kernel) rfl
theorem sX1_greatestIndependentSet : Cond.selects RX1 yX1_greatestIndependentSet yX1_greatestIndependentSet ∈ TW := TW_at 518 (by decide +kernel) rfl
theorem iX1_headOf : Cond.instanceMethod yX1_headOf ∈ TW := TW_at 409 (by decide +kernel) rfl
theorem sX1_headOf : Cond.selects RX1 yX1_headOf yX1_headOf ∈ TW := TW_at 32 (by decide +kernel) rfl
theorem iX1_inIndependentSet : Cond.instanceMethod yX1_inIndependentSet ∈ TW := TW_at 505 (by decide +kernel) rfl
theorem sX1_inIndependentSet : Cond.selects RX1 yX1_inIndependentSet yX1_inIndependentSet ∈ TW := TW_at 506 (by decide +kernel) rfl
theorem iX1_independentSetSize : Cond.instanceMethod yX1_independentSetSize ∈ TW := TW_at 513 (by decide +kernel) rfl
theorem sX1_independentSetSize : Cond.selects RX1 yX1_independentSetSize yX1_independentSetSize ∈ TW := TW_at 514 (by decide +kernel) rfl
theorem iX1_init : Cond.instanceMethod yX1_init ∈ TW := TW_at 304 (by decide +kernel) rfl
theorem iX1_isBeside : Cond.instanceMethod yX1_isBeside ∈ TW := TW_at 429 (by decide +kernel) rfl
theorem sX1_isBeside : Cond.selects RX1 yX1_isBeside yX1_isBeside ∈ TW := TW_at 33 (by decide +kernel) rfl
theorem iX1_isConflict : Cond.instanceMethod yX1_isConflict ∈ TW := TW_at 453 (by decide +kernel) rfl
theorem sX1_isConflict : Cond.selects RX1 yX1_isConflict yX1_isConflict ∈ TW := TW_at 36 (by decide +kernel) rfl
theorem iX1_isNode : Cond.instanceMethod yX1_isNode ∈ TW := TW_at 365 (by decide +kernel) rfl
theorem sX1_isNode : Cond.selects RX1 yX1_isNode yX1_isNode ∈ TW := TW_at 27 (by decide +kernel) rfl
theorem iX1_paints : Cond.instanceMethod yX1_paints ∈ TW := TW_at 357 (by decide +kernel) rfl
theorem sX1_paints : Cond.selects RX1 yX1_paints yX1_paints ∈ TW := TW_at 26 (by decide +kernel) rfl
theorem iX1_parent : Cond.instanceMethod yX1_parent ∈ TW := TW_at 376 (by decide +kernel) rfl
theorem sX1_parent : Cond.selects RX1 yX1_parent yX1_parent ∈ TW := TW_at 377 (by decide +kernel) rfl
theorem iX1_partCount : Cond.instanceMethod yX1_partCount ∈ TW := TW_at 404 (by decide +kernel) rfl
theorem sX1_partCount : Cond.selects RX1 yX1_partCount yX1_partCount ∈ TW := TW_at 405 (by decide +kernel) rfl
theorem iX1_pastColour : Cond.instanceMethod yX1_pastColour ∈ TW := TW_at 501 (by decide +kernel) rfl
theorem sX1_pastColour : Cond.selects RX1 yX1_pastColour yX1_pastColour ∈ TW := TW_at 502 (by decide +kernel) rfl
theorem iX1_recolour : Cond.instanceMethod yX1_recolour ∈ TW := TW_at 424 (by decide +kernel) rfl
theorem sX1_recolour : Cond.selects RX1 yX1_recolour yX1_recolour ∈ TW := TW_at 425 (by decide +kernel) rfl
theorem iX1_reduce : Cond.instanceMethod yX1_reduce ∈ TW := TW_at 464 (by decide +kernel) rfl
theorem sX1_reduce : Cond.selects RX1 yX1_reduce yX1_reduce ∈ TW := TW_at 465 (by decide +kernel) rfl
theorem iX1_reduceToThree : Cond.instanceMethod yX1_reduceToThree ∈ TW := TW_at 492 (by decide +kernel) rfl
theorem sX1_reduceToThree : Cond.selects RX1 yX1_reduceToThree yX1_reduceToThree ∈ TW := TW_at 493 (by decide +kernel) rfl
theorem iX1_reduces : Cond.instanceMethod yX1_reduces ∈ TW := TW_at 469 (by decide +kernel) rfl
theorem sX1_reduces : Cond.selects RX1 yX1_reduces yX1_reduces ∈ TW := TW_at 38 (by decide +kernel) rfl
theorem iX1_removeParent : Cond.instanceMethod yX1_removeParent ∈ TW := TW_at 372 (by decide +kernel) rfl
theorem sX1_removeParent : Cond.selects RX1 yX1_removeParent yX1_removeParent ∈ TW := TW_at 373 (by decide +kernel) rfl
theorem iX1_resetColours : Cond.instanceMethod yX1_resetColours ∈ TW := TW_at 420 (by decide +kernel) rfl
theorem sX1_resetColours : Cond.selects RX1 yX1_resetColours yX1_resetColours ∈ TW := TW_at 421 (by decide +kernel) rfl
theorem iX1_roundCount : Cond.instanceMethod yX1_roundCount ∈ TW := TW_at 497 (by decide +kernel) rfl
theorem sX1_roundCount : Cond.selects RX1 yX1_roundCount yX1_roundCount ∈ TW := TW_at 498 (by decide +kernel) rfl
theorem iX1_setColour : Cond.instanceMethod yX1_setColour ∈ TW := TW_at 416 (by decide +kernel) rfl
theorem sX1_setColour : Cond.selects RX1 yX1_setColour yX1_setColour ∈ TW := TW_at 417 (by decide +kernel) rfl
theorem iX1_setParent : Cond.instanceMethod yX1_setParent ∈ TW := TW_at 360 (by decide +kernel) rfl
theorem sX1_setParent : Cond.selects RX1 yX1_setParent yX1_setParent ∈ TW := TW_at 361 (by decide +kernel) rfl
theorem iX1_shift : Cond.instanceMethod yX1_shift ∈ TW := TW_at 476 (by decide +kernel) rfl
theorem sX1_shift : Cond.selects RX1 yX1_shift yX1_shift ∈ TW := TW_at 477 (by decide +kernel) rfl
theorem iX1_startsCount : Cond.instanceMethod yX1_startsCount ∈ TW := TW_at 349 (by decide +kernel) rfl
theorem sX1_startsCount : Cond.selects RX1 yX1_startsCount yX1_startsCount ∈ TW := TW_at 24 (by decide +kernel) rfl
theorem iX1_stepsFrom : Cond.instanceMethod yX1_stepsFrom ∈ TW := TW_at 393 (by decide +kernel) rfl
theorem sX1_stepsFrom : Cond.selects RX1 yX1_stepsFrom yX1_stepsFrom ∈ TW := TW_at 30 (by decide +kernel) rfl
theorem iX1_takesTrees : Cond.instanceMethod yX1_takesTrees ∈ TW := TW_at 522 (by decide +kernel) rfl
theorem sX1_takesTrees : Cond.selects RX1 yX1_takesTrees yX1_takesTrees ∈ TW := TW_at 43 (by decide +kernel) rfl
theorem stX1_within : Cond.static yX1_within ∈ TW := TW_at 345 (by decide +kernel) rfl
theorem kL_9 : CWI RL 9 yX0_init cX0_init 1 0 := ⟨TW_at 52 (by decide +kernel) rfl, iX0_init, wX0_init, iniX0, by decide +kernel⟩
theorem kL_12 : CWI RL 12 yX1_init cX1_init 1 0 := ⟨TW_at 303 (by decide +kernel) rfl, iX1_init, wX1_init, iniX1, by decide +kernel⟩
theorem kL_13 : CWV RL RX0 13 yX0_addNode cX0_addNode 3 (some .int) 1 := ⟨TW_at 83 (by decide +kernel) rfl, iX0_addNode, sX0_addNode, wX0_addNode, iniX0, by decide +kernel⟩
theorem kL_17 : CWV RL RX1 17 yX1_addNode cX1_addNode 3 (some .int) 1 := ⟨TW_at 339 (by decide +kernel) rfl, iX1_addNode, sX1_addNode, wX1_addNode, iniX1, by decide +kernel⟩
theorem kL_18 : CWV RL RX0 18 yX0_setParent cX0_setParent 3 (some .int) 2 := ⟨TW_at 99 (by decide +kernel) rfl, iX0_setParent, sX0_setParent, wX0_setParent, iniX0, by decide +kernel⟩
theorem kL_22 : CWV RL RX1 22 yX1_setParent cX1_setParent 3 (some .int) 2 := ⟨TW_at 359 (by decide +kernel) rfl, iX1_setParent, sX1_setParent, wX1_setParent, iniX1, by decide +kernel⟩
theorem kL_23 : CWV RL RX0 23 yX0_removeParent cX0_removeParent 2 (some .int) 1 := ⟨TW_at 111 (by decide +kernel) rfl, iX0_removeParent, sX0_removeParent, wX0_removeParent, iniX0, by decide +kernel⟩
theorem kL_26 : CWV RL RX1 26 yX1_removeParent cX1_removeParent 2 (some .int) 1 := ⟨TW_at 371 (by decide +kernel) rfl, iX1_removeParent, sX1_removeParent, wX1_removeParent, iniX1, by decide +kernel⟩
theorem kL_27 : CWV RL RX0 27 yX0_parent cX0_parent 2 (some .int) 1 := ⟨TW_at 115 (by decide +kernel) rfl, iX0_parent, sX0_parent, wX0_parent, iniX0, by decide +kernel⟩
theorem kL_30 : CWV RL RX1 30 yX1_parent cX1_parent 2 (some .int) 1 := ⟨TW_at 375 (by decide +kernel) rfl, iX1_parent, sX1_parent, wX1_parent, iniX1, by decide +kernel⟩
theorem kL_31 : CWV RL RX0 31 yX0_degree cX0_degree 2 (some .int) 1 := ⟨TW_at 119 (by decide +kernel) rfl, iX0_degree, sX0_degree, wX0_degree, iniX0, by decide +kernel⟩
theorem kL_34 : CWV RL RX1 34 yX1_degree cX1_degree 4 (some .int) 1 := ⟨TW_at 379 (by decide +kernel) rfl, iX1_degree, sX1_degree, wX1_degree, iniX1, by decide +kernel⟩
theorem kL_35 : CWV RL RX0 35 yX0_depth cX0_depth 4 (some .int) 1 := ⟨TW_at 137 (by decide +kernel) rfl, iX0_depth, sX0_depth, wX0_depth, iniX0, by decide +kernel⟩
theorem kL_38 : CWV RL RX1 38 yX1_depth cX1_depth 2 (some .int) 1 := ⟨TW_at 387 (by decide +kernel) rfl, iX1_depth, sX1_depth, wX1_depth, iniX1, by decide +kernel⟩
theorem kL_39 : CWV RL RX0 39 yX0_cycleLength cX0_cycleLength 4 (some .int) 1 := ⟨TW_at 145 (by decide +kernel) rfl, iX0_cycleLength, sX0_cycleLength, wX0_cycleLength, iniX0, by decide +kernel⟩
theorem kL_42 : CWV RL RX1 42 yX1_cycleLength cX1_cycleLength 2 (some .int) 1 := ⟨TW_at 395 (by decide +kernel) rfl, iX1_cycleLength, sX1_cycleLength, wX1_cycleLength, iniX1, by decide +kernel⟩
theorem kL_43 : CWV RL RX0 43 yX0_partCount cX0_partCount 4 (some .int) 0 := ⟨TW_at 149 (by decide +kernel) rfl, iX0_partCount, sX0_partCount, wX0_partCount, iniX0, by decide +kernel⟩
theorem kL_47 : CWV RL RX1 47 yX1_partCount cX1_partCount 3 (some .int) 0 := ⟨TW_at 403 (by decide +kernel) rfl, iX1_partCount, sX1_partCount, wX1_partCount, iniX1, by decide +kernel⟩
theorem kL_48 : CWV RL RX0 48 yX0_colour cX0_colour 2 (some .int) 1 := ⟨TW_at 164 (by decide +kernel) rfl, iX0_colour, sX0_colour, wX0_colour, iniX0, by decide +kernel⟩
theorem kL_51 : CWV RL RX1 51 yX1_colour cX1_colour 2 (some .int) 1 := ⟨TW_at 411 (by decide +kernel) rfl, iX1_colour, sX1_colour, wX1_colour, iniX1, by decide +kernel⟩
theorem kL_52 : CWV RL RX0 52 yX0_setColour cX0_setColour 4 (some .int) 2 := ⟨TW_at 168 (by decide +kernel) rfl, iX0_setColour, sX0_setColour, wX0_setColour, iniX0, by decide +kernel⟩
theorem kL_55 : CWV RL RX1 55 yX1_setColour cX1_setColour 4 (some .int) 2 := ⟨TW_at 415 (by decide +kernel) rfl, iX1_setColour, sX1_setColour, wX1_setColour, iniX1, by decide +kernel⟩
theorem kL_56 : CWV RL RX0 56 yX0_resetColours cX0_resetColours 3 (some .int) 0 := ⟨TW_at 172 (by decide +kernel) rfl, iX0_resetColours, sX0_resetColours, wX0_resetColours, iniX0, by decide +kernel⟩
theorem kL_59 : CWV RL RX1 59 yX1_resetColours cX1_resetColours 3 (some .int) 0 := ⟨TW_at 419 (by decide +kernel) rfl, iX1_resetColours, sX1_resetColours, wX1_resetColours, iniX1, by decide +kernel⟩
theorem kL_60 : CWV RL RX0 60 yX0_recolour cX0_recolour 2 (some .int) 1 := ⟨TW_at 176 (by decide +kernel) rfl, iX0_recolour, sX0_recolour, wX0_recolour, iniX0, by decide +kernel⟩
theorem kL_63 : CWV RL RX1 63 yX1_recolour cX1_recolour 3 (some .int) 1 := ⟨TW_at 423 (by decide +kernel) rfl, iX1_recolour, sX1_recolour, wX1_recolour, iniX1, by decide +kernel⟩
theorem kL_64 : CWV RL RX0 64 yX0_colourCount cX0_colourCount 3 (some .int) 0 := ⟨TW_at 188 (by decide +kernel) rfl, iX0_colourCount, sX0_colourCount, wX0_colourCount, iniX0, by decide +kernel⟩
theorem kL_67 : CWV RL RX1 67 yX1_colourCount cX1_colourCount 5 (some .int) 0 := ⟨TW_at 431 (by decide +kernel) rfl, iX1_colourCount, sX1_colourCount, wX1_colourCount, iniX1, by decide +kernel⟩
theorem kL_68 : CWV RL RX0 68 yX0_greatestColour cX0_greatestColour 3 (some .int) 0 := ⟨TW_at 196 (by decide +kernel) rfl, iX0_greatestColour, sX0_greatestColour, wX0_greatestColour, iniX0, by decide +kernel⟩
theorem kL_71 : CWV RL RX1 71 yX1_greatestColour cX1_greatestColour 1 (some .int) 0 := ⟨TW_at 435 (by decide +kernel) rfl, iX1_greatestColour, sX1_greatestColour, wX1_greatestColour, iniX1, by decide +kernel⟩
theorem kL_72 : CWV RL RX0 72 yX0_conflictCount cX0_conflictCount 3 (some .int) 0 := ⟨TW_at 203 (by decide +kernel) rfl, iX0_conflictCount, sX0_conflictCount, wX0_conflictCount, iniX0, by decide +kernel⟩
theorem kL_75 : CWV RL RX1 75 yX1_conflictCount cX1_conflictCount 1 (some .int) 0 := ⟨TW_at 443 (by decide +kernel) rfl, iX1_conflictCount, sX1_conflictCount, wX1_conflictCount, iniX1, by decide +kernel⟩
theorem kL_76 : CWV RL RX0 76 yX0_differingBit cX0_differingBit 2 (some .int) 1 := ⟨TW_at 211 (by decide +kernel) rfl, iX0_differingBit, sX0_differingBit, wX0_differingBit, iniX0, by decide +kernel⟩
theorem kL_79 : CWV RL RX1 79 yX1_differingBit cX1_differingBit 2 (some .int) 1 := ⟨TW_at 455 (by decide +kernel) rfl, iX1_differingBit, sX1_differingBit, wX1_differingBit, iniX1, by decide +kernel⟩
theorem kL_80 : CWV RL RX0 80 yX0_reduce cX0_reduce 1 (some .int) 0 := ⟨TW_at 223 (by decide +kernel) rfl, iX0_reduce, sX0_reduce, wX0_reduce, iniX0, by decide +kernel⟩
theorem kL_83 : CWV RL RX1 83 yX1_reduce cX1_reduce 1 (some .int) 0 := ⟨TW_at 463 (by decide +kernel) rfl, iX1_reduce, sX1_reduce, wX1_reduce, iniX1, by decide +kernel⟩
theorem kL_84 : CWV RL RX0 84 yX0_shift cX0_shift 1 (some .int) 0 := ⟨TW_at 245 (by decide +kernel) rfl, iX0_shift, sX0_shift, wX0_shift, iniX0, by decide +kernel⟩
theorem kL_87 : CWV RL RX1 87 yX1_shift cX1_shift 3 (some .int) 0 := ⟨TW_at 475 (by decide +kernel) rfl, iX1_shift, sX1_shift, wX1_shift, iniX1, by decide +kernel⟩
theorem kL_88 : CWV RL RX0 88 yX0_eliminate cX0_eliminate 2 (some .int) 1 := ⟨TW_at 257 (by decide +kernel) rfl, iX0_eliminate, sX0_eliminate, wX0_eliminate, iniX0, by decide +kernel⟩
theorem kL_91 : CWV RL RX1 91 yX1_eliminate cX1_eliminate 2 (some .int) 1 := ⟨TW_at 479 (by decide +kernel) rfl, iX1_eliminate, sX1_eliminate, wX1_eliminate, iniX1, by decide +kernel⟩
theorem kL_92 : CWV RL RX0 92 yX0_reduceToThree cX0_reduceToThree 3 (some .int) 0 := ⟨TW_at 265 (by decide +kernel) rfl, iX0_reduceToThree, sX0_reduceToThree, wX0_reduceToThree, iniX0, by decide +kernel⟩
theorem kL_95 : CWV RL RX1 95 yX1_reduceToThree cX1_reduceToThree 3 (some .int) 0 := ⟨TW_at 491 (by decide +kernel) rfl, iX1_reduceToThree, sX1_reduceToThree, wX1_reduceToThree, iniX1, by decide +kernel⟩
theorem kL_96 : CWV RL RX0 96 yX0_roundCount cX0_roundCount 1 (some .int) 0 := ⟨TW_at 269 (by decide +kernel) rfl, iX0_roundCount, sX0_roundCount, wX0_roundCount, iniX0, by decide +kernel⟩
theorem kL_99 : CWV RL RX1 99 yX1_roundCount cX1_roundCount 1 (some .int) 0 := ⟨TW_at 496 (by decide +kernel) rfl, iX1_roundCount, sX1_roundCount, wX1_roundCount, iniX1, by decide +kernel⟩
theorem kL_100 : CWV RL RX0 100 yX0_pastColour cX0_pastColour 4 (some .int) 2 := ⟨TW_at 273 (by decide +kernel) rfl, iX0_pastColour, sX0_pastColour, wX0_pastColour, iniX0, by decide +kernel⟩
theorem kL_103 : CWV RL RX1 103 yX1_pastColour cX1_pastColour 3 (some .int) 2 := ⟨TW_at 500 (by decide +kernel) rfl, iX1_pastColour, sX1_pastColour, wX1_pastColour, iniX1, by decide +kernel⟩
theorem kL_104 : CWV RL RX0 104 yX0_inIndependentSet cX0_inIndependentSet 2 (some .int) 1 := ⟨TW_at 277 (by decide +kernel) rfl, iX0_inIndependentSet, sX0_inIndependentSet, wX0_inIndependentSet, iniX0, by decide +kernel⟩
theorem kL_107 : CWV RL RX1 107 yX1_inIndependentSet cX1_inIndependentSet 2 (some .int) 1 := ⟨TW_at 504 (by decide +kernel) rfl, iX1_inIndependentSet, sX1_inIndependentSet, wX1_inIndependentSet, iniX1, by decide +kernel⟩
theorem kL_108 : CWV RL RX0 108 yX0_independentSetSize cX0_independentSetSize 1 (some .int) 0 := ⟨TW_at 289 (by decide +kernel) rfl, iX0_independentSetSize, sX0_independentSetSize, wX0_independentSetSize, iniX0, by decide +kernel⟩
theorem kL_111 : CWV RL RX1 111 yX1_independentSetSize cX1_independentSetSize 1 (some .int) 0 := ⟨TW_at 512 (by decide +kernel) rfl, iX1_independentSetSize, sX1_independentSetSize, wX1_independentSetSize, iniX1, by decide +kernel⟩
theorem kL_112 : CWV RL RX0 112 yX0_greatestIndependentSet cX0_greatestIndependentSet 6 (some .int) 1 := ⟨TW_at 293 (by decide +kernel) rfl, iX0_greatestIndependentSet, sX0_greatestIndependentSet, wX0_greatestIndependentSet, iniX0, by decide +kernel⟩
theorem kL_115 : CWV RL RX1 115 yX1_greatestIndependentSet cX1_greatestIndependentSet 3 (some .int) 1 := ⟨TW_at 516 (by decide +kernel) rfl, iX1_greatestIndependentSet, sX1_greatestIndependentSet, wX1_greatestIndependentSet, iniX1, by decide +kernel⟩
theorem kX0_34 : CWS RX0 34 yX0_isValue cX0_isValue 1 (some .boolean) 1 := ⟨TW_at 87 (by decide +kernel) rfl, stX0_isValue, wX0_isValue, iniX0, by decide +kernel⟩
theorem kX0_38 : CWV RX0 RX0 38 yX0_isIdentifierTaken cX0_isIdentifierTaken 3 (some .boolean) 1 := ⟨TW_at 91 (by decide +kernel) rfl, iX0_isIdentifierTaken, sX0_isIdentifierTaken, wX0_isIdentifierTaken, iniX0, by decide +kernel⟩
theorem kX0_41 : CWV RX0 RX0 41 yX0_startCount cX0_startCount 1 none 0 := ⟨TW_at 95 (by decide +kernel) rfl, iX0_startCount, sX0_startCount, wX0_startCount, iniX0, by decide +kernel⟩
theorem kX0_44 : CWV RX0 RX0 44 yX0_isNode cX0_isNode 2 (some .boolean) 1 := ⟨TW_at 103 (by decide +kernel) rfl, iX0_isNode, sX0_isNode, wX0_isNode, iniX0, by decide +kernel⟩
theorem kX0_47 : CWV RX0 RX0 47 yX0_replaceParent cX0_replaceParent 4 (some .int) 2 := ⟨TW_at 107 (by decide +kernel) rfl, iX0_replaceParent, sX0_replaceParent, wX0_replaceParent, iniX0, by decide +kernel⟩
theorem kX0_51 : CWV RX0 RX0 51 yX0_neighbours cX0_neighbours 4 (some .int) 1 := ⟨TW_at 123 (by decide +kernel) rfl, iX0_neighbours, sX0_neighbours, wX0_neighbours, iniX0, by decide +kernel⟩
theorem kX0_55 : CWS RX0 55 yJ6_bitCount_0f7a4 cJ6_bitCount_0f7a4 1 (some .int) 1 := ⟨TW_at 131 (by decide +kernel) rfl, stJ6_bitCount_0f7a4, wJ6_bitCount_0f7a4, iniJ6, by decide +kernel⟩
theorem kX0_60 : CWV RX0 RX0 60 yX0_isRoot cX0_isRoot 2 (some .boolean) 1 := ⟨TW_at 141 (by decide +kernel) rfl, iX0_isRoot, sX0_isRoot, wX0_isRoot, iniX0, by decide +kernel⟩
theorem kX0_63 : CWS RX0 63 yX0_isIn cX0_isIn 2 (some .boolean) 2 := ⟨TW_at 153 (by decide +kernel) rfl, stX0_isIn, wX0_isIn, iniX0, by decide +kernel⟩
theorem kX0_67 : CWV RX0 RX0 67 yX0_part cX0_part 5 (some .int) 1 := ⟨TW_at 156 (by decide +kernel) rfl, iX0_part, sX0_part, wX0_part, iniX0, by decide +kernel⟩
theorem kX0_70 : CWV RX0 RX0 70 yX0_lowestFreeColour cX0_lowestFreeColour 4 (some .int) 2 := ⟨TW_at 180 (by decide +kernel) rfl, iX0_lowestFreeColour, sX0_lowestFreeColour, wX0_lowestFreeColour, iniX0, by decide +kernel⟩
theorem kX0_73 : CWV RX0 RX0 73 yX0_isFirstOfItsColour cX0_isFirstOfItsColour 3 (some .boolean) 1 := ⟨TW_at 192 (by decide +kernel) rfl, iX0_isFirstOfItsColour, sX0_isFirstOfItsColour, wX0_isFirstOfItsColour, iniX0, by decide +kernel⟩
theorem kX0_76 : CWS RX0 76 yJ9_max_7cf53 cJ9_max_7cf53 2 (some .int) 2 := ⟨TW_at 200 (by decide +kernel) rfl, stJ9_max_7cf53, wJ9_max_7cf53, iniJ9, by decide +kernel⟩
theorem kX0_81 : CWV RX0 RX0 81 yX0_isInConflict cX0_isInConflict 2 (some .boolean) 1 := ⟨TW_at 207 (by decide +kernel) rfl, iX0_isInConflict, sX0_isInConflict, wX0_isInConflict, iniX0, by decide +kernel⟩
theorem kX0_84 : CWV RX0 RX0 84 yX0_reductionBit cX0_reductionBit 2 (some .int) 1 := ⟨TW_at 215 (by decide +kernel) rfl, iX0_reductionBit, sX0_reductionBit, wX0_reductionBit, iniX0, by decide +kernel⟩
theorem kX0_87 : CWV RX0 RX0 87 yX0_isProper cX0_isProper 1 (some .boolean) 0 := ⟨TW_at 227 (by decide +kernel) rfl, iX0_isProper, sX0_isProper, wX0_isProper, iniX0, by decide +kernel⟩
theorem kX0_91 : CWV RX0 RX0 91 yX0_doReduction cX0_doReduction 4 none 0 := ⟨TW_at 232 (by decide +kernel) rfl, iX0_doReduction, sX0_doReduction, wX0_doReduction, iniX0, by decide +kernel⟩
theorem kX0_94 : CWV RX0 RX0 94 yX0_greatestColour cX0_greatestColour 3 (some .int) 0 := ⟨TW_at 244 (by decide +kernel) rfl, iX0_greatestColour, sX0_greatestColour, wX0_greatestColour, iniX0, by decide +kernel⟩
theorem kX0_98 : CWV RX0 RX0 98 yX0_doShift cX0_doShift 4 (some .int) 0 := ⟨TW_at 249 (by decide +kernel) rfl, iX0_doShift, sX0_doShift, wX0_doShift, iniX0, by decide +kernel⟩
theorem kX0_101 : CWV RX0 RX0 101 yX0_doElimination cX0_doElimination 5 (some .int) 1 := ⟨TW_at 261 (by decide +kernel) rfl, iX0_doElimination, sX0_doElimination, wX0_doElimination, iniX0, by decide +kernel⟩
theorem kX0_104 : CWV RX0 RX0 104 yX0_independentSet cX0_independentSet 5 (some .int) 0 := ⟨TW_at 281 (by decide +kernel) rfl, iX0_independentSet, sX0_independentSet, wX0_independentSet, iniX0, by decide +kernel⟩
theorem kX0_107 : CWV RX0 RX0 107 yX0_nodeAtAnEnd cX0_nodeAtAnEnd 3 (some .int) 1 := ⟨TW_at 297 (by decide +kernel) rfl, iX0_nodeAtAnEnd, sX0_nodeAtAnEnd, wX0_nodeAtAnEnd, iniX0, by decide +kernel⟩
theorem kX0_111 : CWV RX0 RX0 111 yX0_areNeighbours cX0_areNeighbours 3 (some .boolean) 2 := ⟨TW_at 127 (by decide +kernel) rfl, iX0_areNeighbours, sX0_areNeighbours, wX0_areNeighbours, iniX0, by decide +kernel⟩
theorem kX0_114 : CWV RX0 RX0 114 yX0_widened cX0_widened 4 (some .int) 1 := ⟨TW_at 160 (by decide +kernel) rfl, iX0_widened, sX0_widened, wX0_widened, iniX0, by decide +kernel⟩
theorem kX0_117 : CWV RX0 RX0 117 yX0_conflictCount cX0_conflictCount 3 (some .int) 0 := ⟨TW_at 231 (by decide +kernel) rfl, iX0_conflictCount, sX0_conflictCount, wX0_conflictCount, iniX0, by decide +kernel⟩
theorem kX0_120 : CWV RX0 RX0 120 yX0_hasNeighbourOfColour cX0_hasNeighbourOfColour 4 (some .boolean) 2 := ⟨TW_at 184 (by decide +kernel) rfl, iX0_hasNeighbourOfColour, sX0_hasNeighbourOfColour, wX0_hasNeighbourOfColour, iniX0, by decide +kernel⟩
theorem kX0_123 : CWS RX0 123 yJ6_numberOfTrailingZeros_0f7a4 cJ6_numberOfTrailingZeros_0f7a4 2 (some .int) 1 := ⟨TW_at 219 (by decide +kernel) rfl, stJ6_numberOfTrailingZeros_0f7a4, wJ6_numberOfTrailingZeros_0f7a4, iniJ6, by decide +kernel⟩
theorem kX0_126 : CWV RX0 RX0 126 yX0_rowAfterPresent cX0_rowAfterPresent 1 (some .int) 0 := ⟨TW_at 236 (by decide +kernel) rfl, iX0_rowAfterPresent, sX0_rowAfterPresent, wX0_rowAfterPresent, iniX0, by decide +kernel⟩
theorem kX0_129 : CWV RX0 RX0 129 yX0_endRound cX0_endRound 1 none 0 := ⟨TW_at 240 (by decide +kernel) rfl, iX0_endRound, sX0_endRound, wX0_endRound, iniX0, by decide +kernel⟩
theorem kX0_132 : CWV RX0 RX0 132 yX0_shiftedColour cX0_shiftedColour 2 (some .int) 1 := ⟨TW_at 253 (by decide +kernel) rfl, iX0_shiftedColour, sX0_shiftedColour, wX0_shiftedColour, iniX0, by decide +kernel⟩
theorem kX0_135 : CWV RX0 RX0 135 yX0_nextToVisit cX0_nextToVisit 4 (some .int) 1 := ⟨TW_at 285 (by decide +kernel) rfl, iX0_nextToVisit, sX0_nextToVisit, wX0_nextToVisit, iniX0, by decide +kernel⟩
theorem kX1_39 : CWS RX1 39 yX1_within cX1_within 3 (some .boolean) 3 := ⟨TW_at 344 (by decide +kernel) rfl, stX1_within, wX1_within, iniX1, by decide +kernel⟩
theorem kX1_46 : CWV RX1 RX1 46 yX1_colourOf cX1_colourOf 2 (some .int) 1 := ⟨TW_at 351 (by decide +kernel) rfl, iX1_colourOf, sX1_colourOf, wX1_colourOf, iniX1, by decide +kernel⟩
theorem kX1_51 : CWV RX1 RX1 51 yX1_startsCount cX1_startsCount 2 none 0 := ⟨TW_at 347 (by decide +kernel) rfl, iX1_startsCount, sX1_startsCount, wX1_startsCount, iniX1, by decide +kernel⟩
theorem kX1_54 : CWV RX1 RX1 54 yX1_paints cX1_paints 3 none 2 := ⟨TW_at 355 (by decide +kernel) rfl, iX1_paints, sX1_paints, wX1_paints, iniX1, by decide +kernel⟩
theorem kX1_58 : CWV RX1 RX1 58 yX1_isNode cX1_isNode 2 (some .boolean) 1 := ⟨TW_at 363 (by decide +kernel) rfl, iX1_isNode, sX1_isNode, wX1_isNode, iniX1, by decide +kernel⟩
theorem kX1_62 : CWV RX1 RX1 62 yX1_changesParent cX1_changesParent 4 (some .int) 2 := ⟨TW_at 367 (by decide +kernel) rfl, iX1_changesParent, sX1_changesParent, wX1_changesParent, iniX1, by decide +kernel⟩
theorem kX1_66 : CWV RX1 RX1 66 yX1_areNeighbours cX1_areNeighbours 3 (some .boolean) 2 := ⟨TW_at 383 (by decide +kernel) rfl, iX1_areNeighbours, sX1_areNeighbours, wX1_areNeighbours, iniX1, by decide +kernel⟩
theorem kX1_70 : CWV RX1 RX1 70 yX1_stepsFrom cX1_stepsFrom 4 (some .int) 1 := ⟨TW_at 391 (by decide +kernel) rfl, iX1_stepsFrom, sX1_stepsFrom, wX1_stepsFrom, iniX1, by decide +kernel⟩
theorem kX1_73 : CWV RX1 RX1 73 yX1_cycleOf cX1_cycleOf 4 (some .int) 1 := ⟨TW_at 399 (by decide +kernel) rfl, iX1_cycleOf, sX1_cycleOf, wX1_cycleOf, iniX1, by decide +kernel⟩
theorem kX1_76 : CWV RX1 RX1 76 yX1_headOf cX1_headOf 5 (some .int) 1 := ⟨TW_at 407 (by decide +kernel) rfl, iX1_headOf, sX1_headOf, wX1_headOf, iniX1, by decide +kernel⟩
theorem kX1_79 : CWV RX1 RX1 79 yX1_isBeside cX1_isBeside 4 (some .boolean) 2 := ⟨TW_at 427 (by decide +kernel) rfl, iX1_isBeside, sX1_isBeside, wX1_isBeside, iniX1, by decide +kernel⟩
theorem kX1_82 : CWV RX1 RX1 82 yX1_greatest cX1_greatest 3 (some .int) 0 := ⟨TW_at 439 (by decide +kernel) rfl, iX1_greatest, sX1_greatest, wX1_greatest, iniX1, by decide +kernel⟩
theorem kX1_86 : CWV RX1 RX1 86 yX1_isConflict cX1_isConflict 2 (some .boolean) 1 := ⟨TW_at 451 (by decide +kernel) rfl, iX1_isConflict, sX1_isConflict, wX1_isConflict, iniX1, by decide +kernel⟩
theorem kX1_89 : CWV RX1 RX1 89 yX1_conflicts cX1_conflicts 3 (some .int) 0 := ⟨TW_at 447 (by decide +kernel) rfl, iX1_conflicts, sX1_conflicts, wX1_conflicts, iniX1, by decide +kernel⟩
theorem kX1_92 : CWV RX1 RX1 92 yX1_bitOf cX1_bitOf 4 (some .int) 1 := ⟨TW_at 459 (by decide +kernel) rfl, iX1_bitOf, sX1_bitOf, wX1_bitOf, iniX1, by decide +kernel⟩
theorem kX1_95 : CWV RX1 RX1 95 yX1_ends cX1_ends 2 none 0 := ⟨TW_at 471 (by decide +kernel) rfl, iX1_ends, sX1_ends, wX1_ends, iniX1, by decide +kernel⟩
theorem kX1_98 : CWV RX1 RX1 98 yX1_reduces cX1_reduces 3 none 0 := ⟨TW_at 467 (by decide +kernel) rfl, iX1_reduces, sX1_reduces, wX1_reduces, iniX1, by decide +kernel⟩
theorem kX1_101 : CWV RX1 RX1 101 yX1_freeOf cX1_freeOf 3 (some .int) 1 := ⟨TW_at 487 (by decide +kernel) rfl, iX1_freeOf, sX1_freeOf, wX1_freeOf, iniX1, by decide +kernel⟩
theorem kX1_104 : CWV RX1 RX1 104 yX1_eliminates cX1_eliminates 5 (some .int) 1 := ⟨TW_at 483 (by decide +kernel) rfl, iX1_eliminates, sX1_eliminates, wX1_eliminates, iniX1, by decide +kernel⟩
theorem kX1_107 : CWV RX1 RX1 107 yX1_shift cX1_shift 3 (some .int) 0 := ⟨TW_at 495 (by decide +kernel) rfl, iX1_shift, sX1_shift, wX1_shift, iniX1, by decide +kernel⟩
theorem kX1_110 : CWV RX1 RX1 110 yX1_buildSet cX1_buildSet 8 (some .int) 0 := ⟨TW_at 508 (by decide +kernel) rfl, iX1_buildSet, sX1_buildSet, wX1_buildSet, iniX1, by decide +kernel⟩
theorem kX1_113 : CWS RX1 113 yX1_greater cX1_greater 2 (some .int) 2 := ⟨TW_at 524 (by decide +kernel) rfl, stX1_greater, wX1_greater, iniX1, by decide +kernel⟩
theorem kX1_116 : CWV RX1 RX1 116 yX1_takesTrees cX1_takesTrees 3 none 0 := ⟨TW_at 520 (by decide +kernel) rfl, iX1_takesTrees, sX1_takesTrees, wX1_takesTrees, iniX1, by decide +kernel⟩
theorem kX1_119 : CWV RX1 RX1 119 yX1_bestOfCycle cX1_bestOfCycle 7 (some .int) 2 := ⟨TW_at 527 (by decide +kernel) rfl, iX1_bestOfCycle, sX1_bestOfCycle, wX1_bestOfCycle, iniX1, by decide +kernel⟩
theorem oiX0 : Cond.methodLink RX0 3 objectInit ∈ TW := TW_at 55 (by decide +kernel) rfl
theorem oiX1 : Cond.methodLink RX1 1 objectInit ∈ TW := TW_at 306 (by decide +kernel) rfl
theorem oi_i : Cond.instanceMethod objectInit ∈ TW := TW_at 56 (by decide +kernel) rfl
theorem oi_c : Cond.code objectInit ⟨#[0xb1]⟩ 1 none ∈ TW := TW_at 57 (by decide +kernel) rfl
end
section
-- THE CLASS'S WORLD: its cells, and a row for each access
def wX (E : EE) (a : Nat → Nat) (ids : Nat → Int32) (par : Nat → Option Nat) (rows : Nat → Nat → Int32) (cu pr n rd : Nat) : va_W :=
  [(a 0, .inr (0, [.ref (a 1), .ref (a 2), .ref (a 3), .ref (a (4 + cu)), .int (nI pr), .int (nI n), .int (nI rd)])),
   (a 1, .inl (E.2.1, 24, .inl ids)),
   (a 2, .inl (E.2.1, 24, .inl (fun j => pe (par j)))),
   (a 3, .inl (E.2.2.1, 18, .inr (.inr (.inr (.inr (fun j => if j < 18 then some (a (4 + j)) else none))))))] ++ (List.range 18).map (fun j => (a (4 + j), .inl (E.2.1, 24, .inl (rows j))))
def XP (E : EE) (a : Nat → Nat) (ids : Nat → Int32) (par : Nat → Option Nat) (rows : Nat → Nat → Int32) (cu pr n rd : Nat) (H : Heap) : Prop := va_P E.1 vwCl (wX E a ids par rows cu pr n rd) H
def AX (a : Nat → Nat) : Nat → Prop := fun q => ∃ i, i < 22 ∧ q = a i
def inj (N : Nat) (a : Nat → Nat) : Prop := ∀ i j, i < N → j < N → a i = a j → i = j
section XW
variable {E : EE} {a : Nat → Nat} {ids : Nat → Int32} {par : Nat → Option Nat} {rows : Nat → Nat → Int32} {cu pr n rd : Nat}
theorem wX_row {j : Nat} (hj : j < 18) : (wX E a ids par rows cu pr n rd)[4 + j]? = some (a (4 + j), .inl (E.2.1, 24, .inl (rows j))) := by
  unfold wX
  rw [List.getElem?_append_right (by simp)]
  simp [hj]
theorem wX_len : (wX E a ids par rows cu pr n rd).length = 22 := by simp [wX]
theorem wX_addr {k : Nat} {q : Nat × va_E} (h : (wX E a ids par rows cu pr n rd)[k]? = some q) : k < 22 ∧ q.1 = a k := by
  have hk : k < 22 := by have := (List.getElem?_eq_some_iff.mp h).1; rw [wX_len] at this; exact this
  refine ⟨hk, ?_⟩
  by_cases h4 : k < 4
  · match k, h4, h with
    | 0, _, h => cases h; rfl
    | 1, _, h => cases h; rfl
    | 2, _, h => cases h; rfl
    | 3, _, h => cases h; rfl
  · obtain ⟨j, rfl⟩ : ∃ j, k = 4 + j := ⟨k - 4, by omega⟩
    rw [wX_row (by omega)] at h
    cases h; rfl
theorem x_D (hI : inj 22 a) : va_D (AX a) (wX E a ids par rows cu pr n rd) := by
  refine ⟨fun i j p q hi hj hpq => ?_, fun k q hk => ?_⟩
  · obtain ⟨h1, h2⟩ := wX_addr hi
    obtain ⟨h3, h4⟩ := wX_addr hj
    exact hI i j h1 h3 (by rw [← h2, ← h4, hpq])
  · obtain ⟨h1, h2⟩ := wX_addr hk
    exact ⟨k, h1, h2⟩
theorem wX_setRow {j : Nat} (hj : j < 18) (f : Nat → Int32) : (wX E a ids par rows cu pr n rd).set (4 + j) (a (4 + j), .inl (E.2.1, 24, .inl f)) = wX E a ids par (va_up rows j f) cu pr n rd := by
  apply List.ext_getElem?
  intro k
  by_cases hk : k = 4 + j
  · subst hk
    rw [List.getElem?_set_self (by rw [wX_len]; omega), wX_row hj, va_up_self]
  · rw [List.getElem?_set_ne (Ne.symm hk)]
    by_cases h4 : k < 4
    · match k, h4 with
      | 0, _ => rfl
      | 1, _ => rfl
      | 2, _ => rfl
      | 3, _ => rfl
    · obtain ⟨i, rfl⟩ : ∃ i, k = 4 + i := ⟨k - 4, by omega⟩
      by_cases hi : i < 18
      · rw [wX_row hi, wX_row hi, va_up_ne _ _ (by omega)]
      · rw [List.getElem?_eq_none (by rw [wX_len]; omega), List.getElem?_eq_none (by rw [wX_len]; omega)]
theorem x_rec {s : State} {H : Heap} (hK : KK E s) (hP : XP E a ids par rows cu pr n rd H) : ∃ cell : Cell, H[a 0]? = some cell ∧ cell.vm.isStatics = false ∧ s.vm.findClass RX0 = some cell.cls := va_recv hK hP (ci := 0) (q0 := 0) rfl rfl
/-- what is written elsewhere leaves it -/
theorem XP.kept {H H1 : Heap} {A : Nat → Prop} (hP : XP E a ids par rows cu pr n rd H) (hk : ∀ q : Nat, q < H.size → ¬ A q → H1[q]? = H[q]?) (hA : ∀ q, AX a q → ¬ A q) : XP E a ids par rows cu pr n rd H1 :=
  va_P.kept hP (fun k q h => hk q.1 ((hP k q h).lt) (hA _ ⟨k, (wX_addr h).1, (wX_addr h).2⟩))
theorem XP.lt {H : Heap} (hP : XP E a ids par rows cu pr n rd H) {i : Nat} (hi : i < 22) : a i < H.size := by
  have h : ∃ q, (wX E a ids par rows cu pr n rd)[i]? = some q := by
    rw [List.getElem?_eq_getElem (by rw [wX_len]; exact hi)]; exact ⟨_, rfl⟩
  obtain ⟨q, hq⟩ := h
  rw [← (wX_addr hq).2]
  exact (hP i q hq).lt
end XW
section XR
variable {p : Program} {l : Launch} {e : Env} {R : Room} {s : State} {m : MethodId} {args : Array Value} {below : List Frame} {meth : Method} {c : Code} {H : Heap} {locs : List Loc} {cells slots : Nat} {Q : State → Prop}
variable {cc : ByteArray} {pc nL : Nat} {ls : Array Slot} {rest : List Value} {E : EE} {H0 : Heap}
variable {a : Nat → Nat} {ids : Nat → Int32} {par : Nat → Option Nat} {rows : Nat → Nat → Int32} {cu pr n rd : Nat}
theorem x_g0 (S : CallFix p m c cc nL s args TW RX0) (hK : KK E s) (hP : XP E a ids par rows cu pr n rd H) (hdg : decode cc pc = .ok (.getfield 9, 3)) (kk : W p l e R s m args below meth c H locs cells slots Q (F0 m (pc + 3) ls (.ref (a 1) :: rest))) : W p l e R s m args below meth c H locs cells slots Q (F0 m pc ls (.ref (a 0) :: rest)) :=
  va_get (D := E.1) (ci := 0) (C := RX0) (T := TX0) (N := 7) S.1 S.2.1 S.2.2.2.2 inX0 S.2.2.2.1 hK hP 0 rfl rfl 0 (by decide) (S.2.2.2.2 _ fX0_9) (fun _ h => h) rfl hdg kk
theorem x_g1 (S : CallFix p m c cc nL s args TW RX0) (hK : KK E s) (hP : XP E a ids par rows cu pr n rd H) (hdg : decode cc pc = .ok (.getfield 13, 3)) (kk : W p l e R s m args below meth c H locs cells slots Q (F0 m (pc + 3) ls (.ref (a 2) :: rest))) : W p l e R s m args below meth c H locs cells slots Q (F0 m pc ls (.ref (a 0) :: rest)) :=
  va_get (D := E.1) (ci := 0) (C := RX0) (T := TX0) (N := 7) S.1 S.2.1 S.2.2.2.2 inX0 S.2.2.2.1 hK hP 0 rfl rfl 1 (by decide) (S.2.2.2.2 _ fX0_13) (fun _ h => h) rfl hdg kk
theorem x_g2 (S : CallFix p m c cc nL s args TW RX0) (hK : KK E s) (hP : XP E a ids par rows cu pr n rd H) (hdg : decode cc pc = .ok (.getfield 18, 3)) (kk : W p l e R s m args below meth c H locs cells slots Q (F0 m (pc + 3) ls (.ref (a 3) :: rest))) : W p l e R s m args below meth c H locs cells slots Q (F0 m pc ls (.ref (a 0) :: rest)) :=
  va_get (D := E.1) (ci := 0) (C := RX0) (T := TX0) (N := 7) S.1 S.2.1 S.2.2.2.2 inX0 S.2.2.2.1 hK hP 0 rfl rfl 2 (by decide) (S.2.2.2.2 _ fX0_18) (fun _ h => h) rfl hdg kk
theorem x_g3 (S : CallFix p m c cc nL s args TW RX0) (hK : KK E s) (hP : XP E a ids par rows cu pr n rd H) (hdg : decode cc pc = .ok (.getfield 21, 3)) (kk : W p l e R s m args below meth c H locs cells slots Q (F0 m (pc + 3) ls (.ref (a (4 + cu)) :: rest))) : W p l e R s m args below meth c H locs cells slots Q (F0 m pc ls (.ref (a 0) :: rest)) :=
  va_get (D := E.1) (ci := 0) (C := RX0) (T := TX0) (N := 7) S.1 S.2.1 S.2.2.2.2 inX0 S.2.2.2.1 hK hP 0 rfl rfl 3 (by decide) (S.2.2.2.2 _ fX0_21) (fun _ h => h) rfl hdg kk
theorem x_g4 (S : CallFix p m c cc nL s args TW RX0) (hK : KK E s) (hP : XP E a ids par rows cu pr n rd H) (hdg : decode cc pc = .ok (.getfield 24, 3)) (kk : W p l e R s m args below meth c H locs cells slots Q (F0 m (pc + 3) ls (.int (nI pr) :: rest))) : W p l e R s m args below meth c H locs cells slots Q (F0 m pc ls (.ref (a 0) :: rest)) :=
  va_get (D := E.1) (ci := 0) (C := RX0) (T := TX0) (N := 7) S.1 S.2.1 S.2.2.2.2 inX0 S.2.2.2.1 hK hP 0 rfl rfl 4 (by decide) (S.2.2.2.2 _ fX0_24) (fun _ h => h) rfl hdg kk
theorem x_g5 (S : CallFix p m c cc nL s args TW RX0) (hK : KK E s) (hP : XP E a ids par rows cu pr n rd H) (hdg : decode cc pc = .ok (.getfield 28, 3)) (kk : W p l e R s m args below meth c H locs cells slots Q (F0 m (pc + 3) ls (.int (nI n) :: rest))) : W p l e R s m args below meth c H locs cells slots Q (F0 m pc ls (.ref (a 0) :: rest)) :=
  va_get (D := E.1) (ci := 0) (C := RX0) (T := TX0) (N := 7) S.1 S.2.1 S.2.2.2.2 inX0 S.2.2.2.1 hK hP 0 rfl rfl 5 (by decide) (S.2.2.2.2 _ fX0_28) (fun _ h => h) rfl hdg kk
theorem x_g6 (S : CallFix p m c cc nL s args TW RX0) (hK : KK E s) (hP : XP E a ids par rows cu pr n rd H) (hdg : decode cc pc = .ok (.getfield 31, 3)) (kk : W p l e R s m args below meth c H locs cells slots Q (F0 m (pc + 3) ls (.int (nI rd) :: rest))) : W p l e R s m args below meth c H locs cells slots Q (F0 m pc ls (.ref (a 0) :: rest)) :=
  va_get (D := E.1) (ci := 0) (C := RX0) (T := TX0) (N := 7) S.1 S.2.1 S.2.2.2.2 inX0 S.2.2.2.1 hK hP 0 rfl rfl 6 (by decide) (S.2.2.2.2 _ fX0_31) (fun _ h => h) rfl hdg kk
theorem x_p3 {j : Nat} (S : CallFix p m c cc nL s args TW RX0) (hK : KK E s) (hI : inj 22 a) (hP : XP E a ids par rows cu pr n rd H) (hS : va_S (AX a) H0 H locs) (hdg : decode cc pc = .ok (.putfield 21, 3)) (kk : ∀ (H1 : Heap) (locs1 : List Loc), XP E a ids par rows j pr n rd H1 → va_S (AX a) H0 H1 locs1 → W p l e R s m args below meth c H1 locs1 cells slots Q (F0 m (pc + 3) ls rest)) : W p l e R s m args below meth c H locs cells slots Q (F0 m pc ls (.ref (a (4 + j)) :: .ref (a 0) :: rest)) :=
  va_put (D := E.1) (ci := 0) (v := .ref (a (4 + j))) (ty := .array .int) (C := RX0) (T := TX0) (N := 7) S.1 S.2.1 S.2.2.2.2 inX0 tyX0 tyX0_ok nmX0 S.2.2.2.1 hK hP (x_D hI) hS 0 rfl rfl 3 (by decide) (S.2.2.2.2 _ fX0_21) (fun _ h => h) rfl (by decide +kernel) rfl rfl (Nat.le_of_ble_eq_true rfl) hdg (fun H1 locs1 h1 _ h3 => kk H1 locs1 h1 h3)
theorem x_p4 {j : Nat} (S : CallFix p m c cc nL s args TW RX0) (hK : KK E s) (hI : inj 22 a) (hP : XP E a ids par rows cu pr n rd H) (hS : va_S (AX a) H0 H locs) (hdg : decode cc pc = .ok (.putfield 24, 3)) (kk : ∀ (H1 : Heap) (locs1 : List Loc), XP E a ids par rows cu j n rd H1 → va_S (AX a) H0 H1 locs1 → W p l e R s m args below meth c H1 locs1 cells slots Q (F0 m (pc + 3) ls rest)) : W p l e R s m args below meth c H locs cells slots Q (F0 m pc ls (.int (nI j) :: .ref (a 0) :: rest)) :=
  va_put (D := E.1) (ci := 0) (v := .int (nI j)) (ty := .int) (C := RX0) (T := TX0) (N := 7) S.1 S.2.1 S.2.2.2.2 inX0 tyX0 tyX0_ok nmX0 S.2.2.2.1 hK hP (x_D hI) hS 0 rfl rfl 4 (by decide) (S.2.2.2.2 _ fX0_24) (fun _ h => h) rfl (by decide +kernel) rfl rfl (Nat.le_of_ble_eq_true rfl) hdg (fun H1 locs1 h1 _ h3 => kk H1 locs1 h1 h3)
theorem x_p5 {j : Nat} (S : CallFix p m c cc nL s args TW RX0) (hK : KK E s) (hI : inj 22 a) (hP : XP E a ids par rows cu pr n rd H) (hS : va_S (AX a) H0 H locs) (hdg : decode cc pc = .ok (.putfield 28, 3)) (kk : ∀ (H1 : Heap) (locs1 : List Loc), XP E a ids par rows cu pr j rd H1 → va_S (AX a) H0 H1 locs1 → W p l e R s m args below meth c H1 locs1 cells slots Q (F0 m (pc + 3) ls rest)) : W p l e R s m args below meth c H locs cells slots Q (F0 m pc ls (.int (nI j) :: .ref (a 0) :: rest)) :=
  va_put (D := E.1) (ci := 0) (v := .int (nI j)) (ty := .int) (C := RX0) (T := TX0) (N := 7) S.1 S.2.1 S.2.2.2.2 inX0 tyX0 tyX0_ok nmX0 S.2.2.2.1 hK hP (x_D hI) hS 0 rfl rfl 5 (by decide) (S.2.2.2.2 _ fX0_28) (fun _ h => h) rfl (by decide +kernel) rfl rfl (Nat.le_of_ble_eq_true rfl) hdg (fun H1 locs1 h1 _ h3 => kk H1 locs1 h1 h3)
theorem x_p6 {j : Nat} (S : CallFix p m c cc nL s args TW RX0) (hK : KK E s) (hI : inj 22 a) (hP : XP E a ids par rows cu pr n rd H) (hS : va_S (AX a) H0 H locs) (hdg : decode cc pc = .ok (.putfield 31, 3)) (kk : ∀ (H1 : Heap) (locs1 : List Loc), XP E a ids par rows cu pr n j H1 → va_S (AX a) H0 H1 locs1 → W p l e R s m args below meth c H1 locs1 cells slots Q (F0 m (pc + 3) ls rest)) : W p l e R s m args below meth c H locs cells slots Q (F0 m pc ls (.int (nI j) :: .ref (a 0) :: rest)) :=
  va_put (D := E.1) (ci := 0) (v := .int (nI j)) (ty := .int) (C := RX0) (T := TX0) (N := 7) S.1 S.2.1 S.2.2.2.2 inX0 tyX0 tyX0_ok nmX0 S.2.2.2.1 hK hP (x_D hI) hS 0 rfl rfl 6 (by decide) (S.2.2.2.2 _ fX0_31) (fun _ h => h) rfl (by decide +kernel) rfl rfl (Nat.le_of_ble_eq_true rfl) hdg (fun H1 locs1 h1 _ h3 => kk H1 locs1 h1 h3)
theorem x_ldI {v : Nat}  (hx : p.tables.exec = Jvm.exec) (hb : c.code = cc) (hK : KK E s) (hP : XP E a ids par rows cu pr n rd H) (hv : v < 24) (hdg : decode cc pc = .ok (.iaload, 1)) (kk : W p l e R s m args below meth c H locs cells slots Q (F0 m (pc + 1) ls (.int (ids v) :: rest))) : W p l e R s m args below meth c H locs cells slots Q (F0 m pc ls (.int (nI v) :: .ref (a 1) :: rest)) := by
  refine va_iald (D := E.1) hx hb hK hP 1 0 rfl rfl (vp_in_nI hv (by decide)) hdg ?_
  rw [nI_clamp (by omega)]
  exact kk
theorem x_ldP {v : Nat}  (hx : p.tables.exec = Jvm.exec) (hb : c.code = cc) (hK : KK E s) (hP : XP E a ids par rows cu pr n rd H) (hv : v < 24) (hdg : decode cc pc = .ok (.iaload, 1)) (kk : W p l e R s m args below meth c H locs cells slots Q (F0 m (pc + 1) ls (.int (pe (par v)) :: rest))) : W p l e R s m args below meth c H locs cells slots Q (F0 m pc ls (.int (nI v) :: .ref (a 2) :: rest)) := by
  refine va_iald (D := E.1) hx hb hK hP 2 0 rfl rfl (vp_in_nI hv (by decide)) hdg ?_
  rw [nI_clamp (by omega)]
  exact kk
theorem x_ldC {v : Nat} {j : Nat} (hj : j < 18) (hx : p.tables.exec = Jvm.exec) (hb : c.code = cc) (hK : KK E s) (hP : XP E a ids par rows cu pr n rd H) (hv : v < 24) (hdg : decode cc pc = .ok (.iaload, 1)) (kk : W p l e R s m args below meth c H locs cells slots Q (F0 m (pc + 1) ls (.int (rows j v) :: rest))) : W p l e R s m args below meth c H locs cells slots Q (F0 m pc ls (.int (nI v) :: .ref (a (4 + j)) :: rest)) := by
  refine va_iald (D := E.1) hx hb hK hP (4 + j) 0 (wX_row hj) rfl (vp_in_nI hv (by decide)) hdg ?_
  rw [nI_clamp (by omega)]
  exact kk
theorem x_ldR {j : Nat} (hx : p.tables.exec = Jvm.exec) (hb : c.code = cc) (hK : KK E s) (hP : XP E a ids par rows cu pr n rd H) (hj : j < 18) (hdg : decode cc pc = .ok (.aaload, 1)) (kk : W p l e R s m args below meth c H locs cells slots Q (F0 m (pc + 1) ls (.ref (a (4 + j)) :: rest))) : W p l e R s m args below meth c H locs cells slots Q (F0 m pc ls (.int (nI j) :: .ref (a 3) :: rest)) := by
  have e : (nI j).toNatClampNeg = j := nI_clamp (by omega)
  have hlt : (nI j).toNatClampNeg < 18 := by rw [e]; exact hj
  refine W.aald (v := .ref (a (4 + j))) (ty := .array .int) hx hb (hP 3 _ rfl) ((hK.2 1 _ rfl).1 18 (fun j => va_rf (if j < 18 then some (a (4 + j)) else none))) rfl (fun q => by cases q) (by show ¬ (nI j < 0 ∨ (arrV _ _ _).slots.size ≤ _); rw [arrV_size]; exact vp_in_nI (N := 18) hj (by decide)) ?_ rfl rfl hdg kk
  show (arrV _ _ _).slots[_]? = _
  rw [arrV_read _ _ hlt, e]
  simp [hj, va_rf]
theorem x_stI {v : Nat} {x : Int32}  (hx : p.tables.exec = Jvm.exec) (hb : c.code = cc) (hK : KK E s) (hI : inj 22 a) (hP : XP E a ids par rows cu pr n rd H) (hS : va_S (AX a) H0 H locs) (hv : v < 24) (hdg : decode cc pc = .ok (.iastore, 1)) (kk : ∀ (H1 : Heap) (locs1 : List Loc), XP E a (va_up ids v x) par rows cu pr n rd H1 → va_S (AX a) H0 H1 locs1 → W p l e R s m args below meth c H1 locs1 cells slots Q (F0 m (pc + 1) ls rest)) : W p l e R s m args below meth c H locs cells slots Q (F0 m pc ls (.int (x) :: .int (nI v) :: .ref (a 1) :: rest)) := by
  refine va_iast (D := E.1) hx hb hK hP (x_D hI) hS 1 0 rfl rfl (vp_in_nI hv (by decide)) hdg (fun H1 locs1 h1 _ h3 => kk H1 locs1 ?_ h3)
  rw [nI_clamp (by omega)] at h1
  exact h1
theorem x_stP {v : Nat} {x : Option Nat}  (hx : p.tables.exec = Jvm.exec) (hb : c.code = cc) (hK : KK E s) (hI : inj 22 a) (hP : XP E a ids par rows cu pr n rd H) (hS : va_S (AX a) H0 H locs) (hv : v < 24) (hdg : decode cc pc = .ok (.iastore, 1)) (kk : ∀ (H1 : Heap) (locs1 : List Loc), XP E a ids (va_up par v x) rows cu pr n rd H1 → va_S (AX a) H0 H1 locs1 → W p l e R s m args below meth c H1 locs1 cells slots Q (F0 m (pc + 1) ls rest)) : W p l e R s m args below meth c H locs cells slots Q (F0 m pc ls (.int (pe x) :: .int (nI v) :: .ref (a 2) :: rest)) := by
  refine va_iast (D := E.1) hx hb hK hP (x_D hI) hS 2 0 rfl rfl (vp_in_nI hv (by decide)) hdg (fun H1 locs1 h1 _ h3 => kk H1 locs1 ?_ h3)
  rw [nI_clamp (by omega)] at h1
  have e : upd (fun j => pe (par j)) v (pe x) = fun j => pe (va_up par v x j) := by
    funext j
    by_cases h : j = v
    · subst h; rw [pk_us, va_up_self]
    · rw [pk_un h, va_up_ne _ _ h]
  rw [e] at h1
  exact h1
theorem x_stC {v : Nat} {x : Int32} {j : Nat} (hj : j < 18) (hx : p.tables.exec = Jvm.exec) (hb : c.code = cc) (hK : KK E s) (hI : inj 22 a) (hP : XP E a ids par rows cu pr n rd H) (hS : va_S (AX a) H0 H locs) (hv : v < 24) (hdg : decode cc pc = .ok (.iastore, 1)) (kk : ∀ (H1 : Heap) (locs1 : List Loc), XP E a ids par (va_up rows j (va_up (rows j) v x)) cu pr n rd H1 → va_S (AX a) H0 H1 locs1 → W p l e R s m args below meth c H1 locs1 cells slots Q (F0 m (pc + 1) ls rest)) : W p l e R s m args below meth c H locs cells slots Q (F0 m pc ls (.int (x) :: .int (nI v) :: .ref (a (4 + j)) :: rest)) := by
  refine va_iast (D := E.1) hx hb hK hP (x_D hI) hS (4 + j) 0 (wX_row hj) rfl (vp_in_nI hv (by decide)) hdg (fun H1 locs1 h1 _ h3 => kk H1 locs1 ?_ h3)
  rw [nI_clamp (by omega)] at h1
  rw [wX_setRow hj] at h1
  exact h1
end XR
end
section
-- THE REFERENCE'S WORLD
def wM (E : EE) (b : Nat → Nat) (n : Nat) (ids : Nat → Int32) (par : Nat → Option Nat) (cols : Nat → Int32) (rd : Nat) (nx : Nat → Int32) (isin : Nat → Bool) (wi wo : Nat → Nat) (wf : Nat → Option Nat) : va_W :=
  [(b 0, .inr (1, [.int (nI n), .ref (b 1), .ref (b 2), .ref (b 3), .int (nI rd), .ref (b 4), .ref (b 5), .ref (b 6), .ref (b 7), .ref (b 8)])),
   (b 1, .inl (E.2.1, 24, .inl ids)),
   (b 2, .inl (E.2.1, 24, .inl (fun j => pe (par j)))),
   (b 3, .inl (E.2.1, 408, .inl cols)),
   (b 4, .inl (E.2.1, 24, .inl nx)),
   (b 5, .inl (E.2.2.2, 24, .inl (fun j => b2i (isin j)))),
   (b 6, .inl (E.2.1, 24, .inl (fun j => nI (wi j)))),
   (b 7, .inl (E.2.1, 24, .inl (fun j => nI (wo j)))),
   (b 8, .inl (E.2.1, 24, .inl (fun j => pe (wf j))))]
def MP (E : EE) (b : Nat → Nat) (n : Nat) (ids : Nat → Int32) (par : Nat → Option Nat) (cols : Nat → Int32) (rd : Nat) (nx : Nat → Int32) (isin : Nat → Bool) (wi wo : Nat → Nat) (wf : Nat → Option Nat) (H : Heap) : Prop := va_P E.1 vwCl (wM E b n ids par cols rd nx isin wi wo wf) H
def AM (b : Nat → Nat) : Nat → Prop := fun q => ∃ i, i < 9 ∧ q = b i
section MW
variable {E : EE} {b : Nat → Nat} {n rd : Nat} {ids cols nx : Nat → Int32} {par wf : Nat → Option Nat} {isin : Nat → Bool} {wi wo : Nat → Nat}
theorem wM_addr {k : Nat} {q : Nat × va_E} (h : (wM E b n ids par cols rd nx isin wi wo wf)[k]? = some q) : k < 9 ∧ q.1 = b k := by
  have hk : k < 9 := (List.getElem?_eq_some_iff.mp h).1
  refine ⟨hk, ?_⟩
  match k, hk, h with
  | 0, _, h => cases h; rfl
  | 1, _, h => cases h; rfl
  | 2, _, h => cases h; rfl
  | 3, _, h => cases h; rfl
  | 4, _, h => cases h; rfl
  | 5, _, h => cases h; rfl
  | 6, _, h => cases h; rfl
  | 7, _, h => cases h; rfl
  | 8, _, h => cases h; rfl
theorem m_D (hI : inj 9 b) : va_D (AM b) (wM E b n ids par cols rd nx isin wi wo wf) := by
  refine ⟨fun i j p q hi hj hpq => ?_, fun k q hk => ?_⟩
  · obtain ⟨h1, h2⟩ := wM_addr hi
    obtain ⟨h3, h4⟩ := wM_addr hj
    exact hI i j h1 h3 (by rw [← h2, ← h4, hpq])
  · obtain ⟨h1, h2⟩ := wM_addr hk
    exact ⟨k, h1, h2⟩
theorem m_rec {s : State} {H : Heap} (hK : KK E s) (hP : MP E b n ids par cols rd nx isin wi wo wf H) : ∃ cell : Cell, H[b 0]? = some cell ∧ cell.vm.isStatics = false ∧ s.vm.findClass RX1 = some cell.cls := va_recv hK hP (ci := 1) (q0 := 0) rfl rfl
theorem MP.kept {H H1 : Heap} {A : Nat → Prop} (hP : MP E b n ids par cols rd nx isin wi wo wf H) (hk : ∀ q : Nat, q < H.size → ¬ A q → H1[q]? = H[q]?) (hA : ∀ q, AM b q → ¬ A q) : MP E b n ids par cols rd nx isin wi wo wf H1 :=
  va_P.kept hP (fun k q h => hk q.1 ((hP k q h).lt) (hA _ ⟨k, (wM_addr h).1, (wM_addr h).2⟩))
theorem MP.lt {H : Heap} (hP : MP E b n ids par cols rd nx isin wi wo wf H) {i : Nat} (hi : i < 9) : b i < H.size := by
  have h : ∃ q, (wM E b n ids par cols rd nx isin wi wo wf)[i]? = some q := by
    rw [List.getElem?_eq_getElem (by exact hi)]; exact ⟨_, rfl⟩
  obtain ⟨q, hq⟩ := h
  rw [← (wM_addr hq).2]
  exact (hP i q hq).lt
theorem up_pe {f : Nat → Option Nat} {v : Nat} {x : Option Nat} : upd (fun j => pe (f j)) v (pe x) = fun j => pe (va_up f v x j) := by
  funext j
  by_cases h : j = v
  · subst h; rw [pk_us, va_up_self]
  · rw [pk_un h, va_up_ne _ _ h]
theorem up_nI {f : Nat → Nat} {v x : Nat} : upd (fun j => nI (f j)) v (nI x) = fun j => nI (va_up f v x j) := by
  funext j
  by_cases h : j = v
  · subst h; rw [pk_us, va_up_self]
  · rw [pk_un h, va_up_ne _ _ h]
theorem up_bi {f : Nat → Bool} {v : Nat} {x : Bool} : upd (fun j => b2i (f j)) v (vp_nar .boolean (b2i x)) = fun j => b2i (va_up f v x j) := by
  rw [b2i_vn]
  funext j
  by_cases h : j = v
  · subst h; rw [pk_us, va_up_self]
  · rw [pk_un h, va_up_ne _ _ h]
end MW
section MR
variable {p : Program} {l : Launch} {e : Env} {R : Room} {s : State} {m : MethodId} {args : Array Value} {below : List Frame} {meth : Method} {c : Code} {H : Heap} {locs : List Loc} {cells slots : Nat} {Q : State → Prop}
variable {cc : ByteArray} {pc nL : Nat} {ls : Array Slot} {rest : List Value} {E : EE} {H0 : Heap}
variable {b : Nat → Nat} {n rd : Nat} {ids cols nx : Nat → Int32} {par wf : Nat → Option Nat} {isin : Nat → Bool} {wi wo : Nat → Nat}
theorem m_g0 (S : CallFix p m c cc nL s args TW RX1) (hK : KK E s) (hP : MP E b n ids par cols rd nx isin wi wo wf H) (hdg : decode cc pc = .ok (.getfield 35, 3)) (kk : W p l e R s m args below meth c H locs cells slots Q (F0 m (pc + 3) ls (.int (nI n) :: rest))) : W p l e R s m args below meth c H locs cells slots Q (F0 m pc ls (.ref (b 0) :: rest)) :=
  va_get (D := E.1) (ci := 1) (C := RX1) (T := TX1) (N := 10) S.1 S.2.1 S.2.2.2.2 inX1 S.2.2.2.1 hK hP 0 rfl rfl 0 (by decide) (S.2.2.2.2 _ fX1_35) (fun _ h => h) rfl hdg kk
theorem m_g1 (S : CallFix p m c cc nL s args TW RX1) (hK : KK E s) (hP : MP E b n ids par cols rd nx isin wi wo wf H) (hdg : decode cc pc = .ok (.getfield 7, 3)) (kk : W p l e R s m args below meth c H locs cells slots Q (F0 m (pc + 3) ls (.ref (b 1) :: rest))) : W p l e R s m args below meth c H locs cells slots Q (F0 m pc ls (.ref (b 0) :: rest)) :=
  va_get (D := E.1) (ci := 1) (C := RX1) (T := TX1) (N := 10) S.1 S.2.1 S.2.2.2.2 inX1 S.2.2.2.1 hK hP 0 rfl rfl 1 (by decide) (S.2.2.2.2 _ fX1_7) (fun _ h => h) rfl hdg kk
theorem m_g2 (S : CallFix p m c cc nL s args TW RX1) (hK : KK E s) (hP : MP E b n ids par cols rd nx isin wi wo wf H) (hdg : decode cc pc = .ok (.getfield 13, 3)) (kk : W p l e R s m args below meth c H locs cells slots Q (F0 m (pc + 3) ls (.ref (b 2) :: rest))) : W p l e R s m args below meth c H locs cells slots Q (F0 m pc ls (.ref (b 0) :: rest)) :=
  va_get (D := E.1) (ci := 1) (C := RX1) (T := TX1) (N := 10) S.1 S.2.1 S.2.2.2.2 inX1 S.2.2.2.1 hK hP 0 rfl rfl 2 (by decide) (S.2.2.2.2 _ fX1_13) (fun _ h => h) rfl hdg kk
theorem m_g3 (S : CallFix p m c cc nL s args TW RX1) (hK : KK E s) (hP : MP E b n ids par cols rd nx isin wi wo wf H) (hdg : decode cc pc = .ok (.getfield 16, 3)) (kk : W p l e R s m args below meth c H locs cells slots Q (F0 m (pc + 3) ls (.ref (b 3) :: rest))) : W p l e R s m args below meth c H locs cells slots Q (F0 m pc ls (.ref (b 0) :: rest)) :=
  va_get (D := E.1) (ci := 1) (C := RX1) (T := TX1) (N := 10) S.1 S.2.1 S.2.2.2.2 inX1 S.2.2.2.1 hK hP 0 rfl rfl 3 (by decide) (S.2.2.2.2 _ fX1_16) (fun _ h => h) rfl hdg kk
theorem m_g4 (S : CallFix p m c cc nL s args TW RX1) (hK : KK E s) (hP : MP E b n ids par cols rd nx isin wi wo wf H) (hdg : decode cc pc = .ok (.getfield 43, 3)) (kk : W p l e R s m args below meth c H locs cells slots Q (F0 m (pc + 3) ls (.int (nI rd) :: rest))) : W p l e R s m args below meth c H locs cells slots Q (F0 m pc ls (.ref (b 0) :: rest)) :=
  va_get (D := E.1) (ci := 1) (C := RX1) (T := TX1) (N := 10) S.1 S.2.1 S.2.2.2.2 inX1 S.2.2.2.1 hK hP 0 rfl rfl 4 (by decide) (S.2.2.2.2 _ fX1_43) (fun _ h => h) rfl hdg kk
theorem m_g5 (S : CallFix p m c cc nL s args TW RX1) (hK : KK E s) (hP : MP E b n ids par cols rd nx isin wi wo wf H) (hdg : decode cc pc = .ok (.getfield 19, 3)) (kk : W p l e R s m args below meth c H locs cells slots Q (F0 m (pc + 3) ls (.ref (b 4) :: rest))) : W p l e R s m args below meth c H locs cells slots Q (F0 m pc ls (.ref (b 0) :: rest)) :=
  va_get (D := E.1) (ci := 1) (C := RX1) (T := TX1) (N := 10) S.1 S.2.1 S.2.2.2.2 inX1 S.2.2.2.1 hK hP 0 rfl rfl 5 (by decide) (S.2.2.2.2 _ fX1_19) (fun _ h => h) rfl hdg kk
theorem m_g6 (S : CallFix p m c cc nL s args TW RX1) (hK : KK E s) (hP : MP E b n ids par cols rd nx isin wi wo wf H) (hdg : decode cc pc = .ok (.getfield 22, 3)) (kk : W p l e R s m args below meth c H locs cells slots Q (F0 m (pc + 3) ls (.ref (b 5) :: rest))) : W p l e R s m args below meth c H locs cells slots Q (F0 m pc ls (.ref (b 0) :: rest)) :=
  va_get (D := E.1) (ci := 1) (C := RX1) (T := TX1) (N := 10) S.1 S.2.1 S.2.2.2.2 inX1 S.2.2.2.1 hK hP 0 rfl rfl 6 (by decide) (S.2.2.2.2 _ fX1_22) (fun _ h => h) rfl hdg kk
theorem m_g7 (S : CallFix p m c cc nL s args TW RX1) (hK : KK E s) (hP : MP E b n ids par cols rd nx isin wi wo wf H) (hdg : decode cc pc = .ok (.getfield 26, 3)) (kk : W p l e R s m args below meth c H locs cells slots Q (F0 m (pc + 3) ls (.ref (b 6) :: rest))) : W p l e R s m args below meth c H locs cells slots Q (F0 m pc ls (.ref (b 0) :: rest)) :=
  va_get (D := E.1) (ci := 1) (C := RX1) (T := TX1) (N := 10) S.1 S.2.1 S.2.2.2.2 inX1 S.2.2.2.1 hK hP 0 rfl rfl 7 (by decide) (S.2.2.2.2 _ fX1_26) (fun _ h => h) rfl hdg kk
theorem m_g8 (S : CallFix p m c cc nL s args TW RX1) (hK : KK E s) (hP : MP E b n ids par cols rd nx isin wi wo wf H) (hdg : decode cc pc = .ok (.getfield 29, 3)) (kk : W p l e R s m args below meth c H locs cells slots Q (F0 m (pc + 3) ls (.ref (b 7) :: rest))) : W p l e R s m args below meth c H locs cells slots Q (F0 m pc ls (.ref (b 0) :: rest)) :=
  va_get (D := E.1) (ci := 1) (C := RX1) (T := TX1) (N := 10) S.1 S.2.1 S.2.2.2.2 inX1 S.2.2.2.1 hK hP 0 rfl rfl 8 (by decide) (S.2.2.2.2 _ fX1_29) (fun _ h => h) rfl hdg kk
theorem m_g9 (S : CallFix p m c cc nL s args TW RX1) (hK : KK E s) (hP : MP E b n ids par cols rd nx isin wi wo wf H) (hdg : decode cc pc = .ok (.getfield 32, 3)) (kk : W p l e R s m args below meth c H locs cells slots Q (F0 m (pc + 3) ls (.ref (b 8) :: rest))) : W p l e R s m args below meth c H locs cells slots Q (F0 m pc ls (.ref (b 0) :: rest)) :=
  va_get (D := E.1) (ci := 1) (C := RX1) (T := TX1) (N := 10) S.1 S.2.1 S.2.2.2.2 inX1 S.2.2.2.1 hK hP 0 rfl rfl 9 (by decide) (S.2.2.2.2 _ fX1_32) (fun _ h => h) rfl hdg kk
theorem m_p0 {j : Nat} (S : CallFix p m c cc nL s args TW RX1) (hK : KK E s) (hI : inj 9 b) (hP : MP E b n ids par cols rd nx isin wi wo wf H) (hS : va_S (AM b) H0 H locs) (hdg : decode cc pc = .ok (.putfield 35, 3)) (kk : ∀ (H1 : Heap) (locs1 : List Loc), MP E b j ids par cols rd nx isin wi wo wf H1 → va_S (AM b) H0 H1 locs1 → W p l e R s m args below meth c H1 locs1 cells slots Q (F0 m (pc + 3) ls rest)) : W p l e R s m args below meth c H locs cells slots Q (F0 m pc ls (.int (nI j) :: .ref (b 0) :: rest)) :=
  va_put (D := E.1) (ci := 1) (v := .int (nI j)) (ty := .int) (C := RX1) (T := TX1) (N := 10) S.1 S.2.1 S.2.2.2.2 inX1 tyX1 tyX1_ok nmX1 S.2.2.2.1 hK hP (m_D hI) hS 0 rfl rfl 0 (by decide) (S.2.2.2.2 _ fX1_35) (fun _ h => h) rfl (by decide +kernel) rfl rfl (Nat.le_of_ble_eq_true rfl) hdg (fun H1 locs1 h1 _ h3 => kk H1 locs1 h1 h3)
theorem m_p4 {j : Nat} (S : CallFix p m c cc nL s args TW RX1) (hK : KK E s) (hI : inj 9 b) (hP : MP E b n ids par cols rd nx isin wi wo wf H) (hS : va_S (AM b) H0 H locs) (hdg : decode cc pc = .ok (.putfield 43, 3)) (kk : ∀ (H1 : Heap) (locs1 : List Loc), MP E b n ids par cols j nx isin wi wo wf H1 → va_S (AM b) H0 H1 locs1 → W p l e R s m args below meth c H1 locs1 cells slots Q (F0 m (pc + 3) ls rest)) : W p l e R s m args below meth c H locs cells slots Q (F0 m pc ls (.int (nI j) :: .ref (b 0) :: rest)) :=
  va_put (D := E.1) (ci := 1) (v := .int (nI j)) (ty := .int) (C := RX1) (T := TX1) (N := 10) S.1 S.2.1 S.2.2.2.2 inX1 tyX1 tyX1_ok nmX1 S.2.2.2.1 hK hP (m_D hI) hS 0 rfl rfl 4 (by decide) (S.2.2.2.2 _ fX1_43) (fun _ h => h) rfl (by decide +kernel) rfl rfl (Nat.le_of_ble_eq_true rfl) hdg (fun H1 locs1 h1 _ h3 => kk H1 locs1 h1 h3)
theorem m_ld1 {v : Nat}  (hx : p.tables.exec = Jvm.exec) (hb : c.code = cc) (hK : KK E s) (hP : MP E b n ids par cols rd nx isin wi wo wf H) (hv : v < 24) (hdg : decode cc pc = .ok (.iaload, 1)) (kk : W p l e R s m args below meth c H locs cells slots Q (F0 m (pc + 1) ls (.int (ids v) :: rest))) : W p l e R s m args below meth c H locs cells slots Q (F0 m pc ls (.int (nI v) :: .ref (b 1) :: rest)) := by
  refine va_iald (D := E.1) hx hb hK hP 1 0 rfl rfl (vp_in_nI hv (by decide)) hdg ?_
  rw [nI_clamp (by omega)]
  exact kk
theorem m_ld2 {v : Nat}  (hx : p.tables.exec = Jvm.exec) (hb : c.code = cc) (hK : KK E s) (hP : MP E b n ids par cols rd nx isin wi wo wf H) (hv : v < 24) (hdg : decode cc pc = .ok (.iaload, 1)) (kk : W p l e R s m args below meth c H locs cells slots Q (F0 m (pc + 1) ls (.int (pe (par v)) :: rest))) : W p l e R s m args below meth c H locs cells slots Q (F0 m pc ls (.int (nI v) :: .ref (b 2) :: rest)) := by
  refine va_iald (D := E.1) hx hb hK hP 2 0 rfl rfl (vp_in_nI hv (by decide)) hdg ?_
  rw [nI_clamp (by omega)]
  exact kk
theorem m_ld3 {v : Nat}  (hx : p.tables.exec = Jvm.exec) (hb : c.code = cc) (hK : KK E s) (hP : MP E b n ids par cols rd nx isin wi wo wf H) (hv : v < 408) (hdg : decode cc pc = .ok (.iaload, 1)) (kk : W p l e R s m args below meth c H locs cells slots Q (F0 m (pc + 1) ls (.int (cols v) :: rest))) : W p l e R s m args below meth c H locs cells slots Q (F0 m pc ls (.int (nI v) :: .ref (b 3) :: rest)) := by
  refine va_iald (D := E.1) hx hb hK hP 3 0 rfl rfl (vp_in_nI hv (by decide)) hdg ?_
  rw [nI_clamp (by omega)]
  exact kk
theorem m_ld4 {v : Nat}  (hx : p.tables.exec = Jvm.exec) (hb : c.code = cc) (hK : KK E s) (hP : MP E b n ids par cols rd nx isin wi wo wf H) (hv : v < 24) (hdg : decode cc pc = .ok (.iaload, 1)) (kk : W p l e R s m args below meth c H locs cells slots Q (F0 m (pc + 1) ls (.int (nx v) :: rest))) : W p l e R s m args below meth c H locs cells slots Q (F0 m pc ls (.int (nI v) :: .ref (b 4) :: rest)) := by
  refine va_iald (D := E.1) hx hb hK hP 4 0 rfl rfl (vp_in_nI hv (by decide)) hdg ?_
  rw [nI_clamp (by omega)]
  exact kk
theorem m_ld5 {v : Nat}  (hx : p.tables.exec = Jvm.exec) (hb : c.code = cc) (hK : KK E s) (hP : MP E b n ids par cols rd nx isin wi wo wf H) (hv : v < 24) (hdg : decode cc pc = .ok (.baload, 1)) (kk : W p l e R s m args below meth c H locs cells slots Q (F0 m (pc + 1) ls (.int (b2i (isin v)) :: rest))) : W p l e R s m args below meth c H locs cells slots Q (F0 m pc ls (.int (nI v) :: .ref (b 5) :: rest)) := by
  refine va_zald (D := E.1) hx hb hK hP 5 2 rfl rfl (vp_in_nI hv (by decide)) hdg ?_
  rw [nI_clamp (by omega)]
  exact kk
theorem m_ld6 {v : Nat}  (hx : p.tables.exec = Jvm.exec) (hb : c.code = cc) (hK : KK E s) (hP : MP E b n ids par cols rd nx isin wi wo wf H) (hv : v < 24) (hdg : decode cc pc = .ok (.iaload, 1)) (kk : W p l e R s m args below meth c H locs cells slots Q (F0 m (pc + 1) ls (.int (nI (wi v)) :: rest))) : W p l e R s m args below meth c H locs cells slots Q (F0 m pc ls (.int (nI v) :: .ref (b 6) :: rest)) := by
  refine va_iald (D := E.1) hx hb hK hP 6 0 rfl rfl (vp_in_nI hv (by decide)) hdg ?_
  rw [nI_clamp (by omega)]
  exact kk
theorem m_ld7 {v : Nat}  (hx : p.tables.exec = Jvm.exec) (hb : c.code = cc) (hK : KK E s) (hP : MP E b n ids par cols rd nx isin wi wo wf H) (hv : v < 24) (hdg : decode cc pc = .ok (.iaload, 1)) (kk : W p l e R s m args below meth c H locs cells slots Q (F0 m (pc + 1) ls (.int (nI (wo v)) :: rest))) : W p l e R s m args below meth c H locs cells slots Q (F0 m pc ls (.int (nI v) :: .ref (b 7) :: rest)) := by
  refine va_iald (D := E.1) hx hb hK hP 7 0 rfl rfl (vp_in_nI hv (by decide)) hdg ?_
  rw [nI_clamp (by omega)]
  exact kk
theorem m_ld8 {v : Nat}  (hx : p.tables.exec = Jvm.exec) (hb : c.code = cc) (hK : KK E s) (hP : MP E b n ids par cols rd nx isin wi wo wf H) (hv : v < 24) (hdg : decode cc pc = .ok (.iaload, 1)) (kk : W p l e R s m args below meth c H locs cells slots Q (F0 m (pc + 1) ls (.int (pe (wf v)) :: rest))) : W p l e R s m args below meth c H locs cells slots Q (F0 m pc ls (.int (nI v) :: .ref (b 8) :: rest)) := by
  refine va_iald (D := E.1) hx hb hK hP 8 0 rfl rfl (vp_in_nI hv (by decide)) hdg ?_
  rw [nI_clamp (by omega)]
  exact kk
theorem m_st1 {v : Nat} {x : Int32}  (hx : p.tables.exec = Jvm.exec) (hb : c.code = cc) (hK : KK E s) (hI : inj 9 b) (hP : MP E b n ids par cols rd nx isin wi wo wf H) (hS : va_S (AM b) H0 H locs) (hv : v < 24) (hdg : decode cc pc = .ok (.iastore, 1)) (kk : ∀ (H1 : Heap) (locs1 : List Loc), MP E b n (va_up ids v x) par cols rd nx isin wi wo wf H1 → va_S (AM b) H0 H1 locs1 → W p l e R s m args below meth c H1 locs1 cells slots Q (F0 m (pc + 1) ls rest)) : W p l e R s m args below meth c H locs cells slots Q (F0 m pc ls (.int (x) :: .int (nI v) :: .ref (b 1) :: rest)) := by
  refine va_iast (D := E.1) hx hb hK hP (m_D hI) hS 1 0 rfl rfl (vp_in_nI hv (by decide)) hdg (fun H1 locs1 h1 _ h3 => kk H1 locs1 ?_ h3)
  rw [nI_clamp (by omega)] at h1
  exact h1
theorem m_st2 {v : Nat} {x : Option Nat}  (hx : p.tables.exec = Jvm.exec) (hb : c.code = cc) (hK : KK E s) (hI : inj 9 b) (hP : MP E b n ids par cols rd nx isin wi wo wf H) (hS : va_S (AM b) H0 H locs) (hv : v < 24) (hdg : decode cc pc = .ok (.iastore, 1)) (kk : ∀ (H1 : Heap) (locs1 : List Loc), MP E b n ids (va_up par v x) cols rd nx isin wi wo wf H1 → va_S (AM b) H0 H1 locs1 → W p l e R s m args below meth c H1 locs1 cells slots Q (F0 m (pc + 1) ls rest)) : W p l e R s m args below meth c H locs cells slots Q (F0 m pc ls (.int (pe x) :: .int (nI v) :: .ref (b 2) :: rest)) := by
  refine va_iast (D := E.1) hx hb hK hP (m_D hI) hS 2 0 rfl rfl (vp_in_nI hv (by decide)) hdg (fun H1 locs1 h1 _ h3 => kk H1 locs1 ?_ h3)
  rw [nI_clamp (by omega)] at h1
  rw [up_pe] at h1
  exact h1
theorem m_st3 {v : Nat} {x : Int32}  (hx : p.tables.exec = Jvm.exec) (hb : c.code = cc) (hK : KK E s) (hI : inj 9 b) (hP : MP E b n ids par cols rd nx isin wi wo wf H) (hS : va_S (AM b) H0 H locs) (hv : v < 408) (hdg : decode cc pc = .ok (.iastore, 1)) (kk : ∀ (H1 : Heap) (locs1 : List Loc), MP E b n ids par (va_up cols v x) rd nx isin wi wo wf H1 → va_S (AM b) H0 H1 locs1 → W p l e R s m args below meth c H1 locs1 cells slots Q (F0 m (pc + 1) ls rest)) : W p l e R s m args below meth c H locs cells slots Q (F0 m pc ls (.int (x) :: .int (nI v) :: .ref (b 3) :: rest)) := by
  refine va_iast (D := E.1) hx hb hK hP (m_D hI) hS 3 0 rfl rfl (vp_in_nI hv (by decide)) hdg (fun H1 locs1 h1 _ h3 => kk H1 locs1 ?_ h3)
  rw [nI_clamp (by omega)] at h1
  exact h1
theorem m_st4 {v : Nat} {x : Int32}  (hx : p.tables.exec = Jvm.exec) (hb : c.code = cc) (hK : KK E s) (hI : inj 9 b) (hP : MP E b n ids par cols rd nx isin wi wo wf H) (hS : va_S (AM b) H0 H locs) (hv : v < 24) (hdg : decode cc pc = .ok (.iastore, 1)) (kk : ∀ (H1 : Heap) (locs1 : List Loc), MP E b n ids par cols rd (va_up nx v x) isin wi wo wf H1 → va_S (AM b) H0 H1 locs1 → W p l e R s m args below meth c H1 locs1 cells slots Q (F0 m (pc + 1) ls rest)) : W p l e R s m args below meth c H locs cells slots Q (F0 m pc ls (.int (x) :: .int (nI v) :: .ref (b 4) :: rest)) := by
  refine va_iast (D := E.1) hx hb hK hP (m_D hI) hS 4 0 rfl rfl (vp_in_nI hv (by decide)) hdg (fun H1 locs1 h1 _ h3 => kk H1 locs1 ?_ h3)
  rw [nI_clamp (by omega)] at h1
  exact h1
theorem m_st5 {v : Nat} {x : Bool}  (hx : p.tables.exec = Jvm.exec) (hb : c.code = cc) (hK : KK E s) (hI : inj 9 b) (hP : MP E b n ids par cols rd nx isin wi wo wf H) (hS : va_S (AM b) H0 H locs) (hv : v < 24) (hdg : decode cc pc = .ok (.bastore, 1)) (kk : ∀ (H1 : Heap) (locs1 : List Loc), MP E b n ids par cols rd nx (va_up isin v x) wi wo wf H1 → va_S (AM b) H0 H1 locs1 → W p l e R s m args below meth c H1 locs1 cells slots Q (F0 m (pc + 1) ls rest)) : W p l e R s m args below meth c H locs cells slots Q (F0 m pc ls (.int (b2i x) :: .int (nI v) :: .ref (b 5) :: rest)) := by
  refine va_zast (D := E.1) hx hb hK hP (m_D hI) hS 5 2 rfl rfl (vp_in_nI hv (by decide)) hdg (fun H1 locs1 h1 _ h3 => kk H1 locs1 ?_ h3)
  rw [nI_clamp (by omega)] at h1
  rw [up_bi] at h1
  exact h1
theorem m_st6 {v : Nat} {x : Nat}  (hx : p.tables.exec = Jvm.exec) (hb : c.code = cc) (hK : KK E s) (hI : inj 9 b) (hP : MP E b n ids par cols rd nx isin wi wo wf H) (hS : va_S (AM b) H0 H locs) (hv : v < 24) (hdg : decode cc pc = .ok (.iastore, 1)) (kk : ∀ (H1 : Heap) (locs1 : List Loc), MP E b n ids par cols rd nx isin (va_up wi v x) wo wf H1 → va_S (AM b) H0 H1 locs1 → W p l e R s m args below meth c H1 locs1 cells slots Q (F0 m (pc + 1) ls rest)) : W p l e R s m args below meth c H locs cells slots Q (F0 m pc ls (.int (nI x) :: .int (nI v) :: .ref (b 6) :: rest)) := by
  refine va_iast (D := E.1) hx hb hK hP (m_D hI) hS 6 0 rfl rfl (vp_in_nI hv (by decide)) hdg (fun H1 locs1 h1 _ h3 => kk H1 locs1 ?_ h3)
  rw [nI_clamp (by omega)] at h1
  rw [up_nI] at h1
  exact h1
theorem m_st7 {v : Nat} {x : Nat}  (hx : p.tables.exec = Jvm.exec) (hb : c.code = cc) (hK : KK E s) (hI : inj 9 b) (hP : MP E b n ids par cols rd nx isin wi wo wf H) (hS : va_S (AM b) H0 H locs) (hv : v < 24) (hdg : decode cc pc = .ok (.iastore, 1)) (kk : ∀ (H1 : Heap) (locs1 : List Loc), MP E b n ids par cols rd nx isin wi (va_up wo v x) wf H1 → va_S (AM b) H0 H1 locs1 → W p l e R s m args below meth c H1 locs1 cells slots Q (F0 m (pc + 1) ls rest)) : W p l e R s m args below meth c H locs cells slots Q (F0 m pc ls (.int (nI x) :: .int (nI v) :: .ref (b 7) :: rest)) := by
  refine va_iast (D := E.1) hx hb hK hP (m_D hI) hS 7 0 rfl rfl (vp_in_nI hv (by decide)) hdg (fun H1 locs1 h1 _ h3 => kk H1 locs1 ?_ h3)
  rw [nI_clamp (by omega)] at h1
  rw [up_nI] at h1
  exact h1
theorem m_st8 {v : Nat} {x : Option Nat}  (hx : p.tables.exec = Jvm.exec) (hb : c.code = cc) (hK : KK E s) (hI : inj 9 b) (hP : MP E b n ids par cols rd nx isin wi wo wf H) (hS : va_S (AM b) H0 H locs) (hv : v < 24) (hdg : decode cc pc = .ok (.iastore, 1)) (kk : ∀ (H1 : Heap) (locs1 : List Loc), MP E b n ids par cols rd nx isin wi wo (va_up wf v x) H1 → va_S (AM b) H0 H1 locs1 → W p l e R s m args below meth c H1 locs1 cells slots Q (F0 m (pc + 1) ls rest)) : W p l e R s m args below meth c H locs cells slots Q (F0 m pc ls (.int (pe x) :: .int (nI v) :: .ref (b 8) :: rest)) := by
  refine va_iast (D := E.1) hx hb hK hP (m_D hI) hS 8 0 rfl rfl (vp_in_nI hv (by decide)) hdg (fun H1 locs1 h1 _ h3 => kk H1 locs1 ?_ h3)
  rw [nI_clamp (by omega)] at h1
  rw [up_pe] at h1
  exact h1
end MR
end
section
-- pasted whole families of kit/laws/BITS.to-paste and COUNTS.to-paste (starting texts)
/-! ===== Int32 by its bits: bt x i ===== -/
def bt (x : Int32) (i : Nat) : Bool := x.toBitVec.getLsbD i
theorem b_ext {x y : Int32} (h : ∀ i, i < 32 → bt x i = bt y i) : x = y := Int32.toBitVec_inj.mp (BitVec.eq_of_getLsbD_eq (fun i hi => h i hi))
theorem b_or (x y : Int32) (i : Nat) : bt (x ||| y) i = (bt x i || bt y i) := by unfold bt; rw [Int32.toBitVec_or, BitVec.getLsbD_or]
theorem b_and (x y : Int32) (i : Nat) : bt (x &&& y) i = (bt x i && bt y i) := by unfold bt; rw [Int32.toBitVec_and, BitVec.getLsbD_and]
theorem b_xor (x y : Int32) (i : Nat) : bt (x ^^^ y) i = (bt x i ^^ bt y i) := by unfold bt; rw [Int32.toBitVec_xor, BitVec.getLsbD_xor]
theorem b_big {x : Int32} {i : Nat} (h : 32 ≤ i) : bt x i = false := BitVec.getLsbD_of_ge _ _ h
theorem b_255 (i : Nat) : bt 255 i = decide (i < 8) := by
  rcases Nat.lt_or_ge i 32 with h | h
  · exact (by decide +kernel : ∀ i, i < 32 → bt 255 i = decide (i < 8)) i h
  · rw [b_big h, decide_eq_false (by omega)]
theorem b_65535 (i : Nat) : bt 65535 i = decide (i < 16) := by
  rcases Nat.lt_or_ge i 32 with h | h
  · exact (by decide +kernel : ∀ i, i < 32 → bt 65535 i = decide (i < 16)) i h
  · rw [b_big h, decide_eq_false (by omega)]
theorem b_m1 : ∀ i, i < 32 → bt (-1) i = true := by decide +kernel
theorem b_0 (i : Nat) : bt 0 i = false := BitVec.getLsbD_zero
theorem s_l : ∀ n, n < 32 → ((nI n &&& 31).toBitVec.smod 32).toNat = n := by decide +kernel
theorem s_u : ∀ n, n < 32 → (((nI n).toUInt32 &&& Int32.toUInt32 31).toBitVec % 32).toNat = n := by decide +kernel
theorem b_shl (n : Nat) (hn : n < 32) (x : Int32) {i : Nat} (hi : i < 32) : bt (x <<< (nI n &&& 31)) i = (decide (n ≤ i) && bt x (i - n)) := by
  unfold bt
  rw [Int32.toBitVec_shiftLeft]
  show (x.toBitVec <<< ((nI n &&& 31).toBitVec.smod 32).toNat).getLsbD i = _
  rw [s_l n hn, BitVec.getLsbD_shiftLeft]
  rcases Nat.lt_or_ge i n with h | h
  · simp [h, Nat.not_le.mpr h]
  · simp [hi, h, Nat.not_lt.mpr h]
theorem b_ushr (n : Nat) (hn : n < 32) (x : Int32) (i : Nat) : bt ((x.toUInt32 >>> ((nI n).toUInt32 &&& Int32.toUInt32 31)).toInt32) i = bt x (n + i) := by
  show (x.toUInt32 >>> ((nI n).toUInt32 &&& Int32.toUInt32 31)).toBitVec.getLsbD i = x.toUInt32.toBitVec.getLsbD (n + i)
  rw [UInt32.toBitVec_shiftRight]
  show (x.toUInt32.toBitVec >>> (((nI n).toUInt32 &&& Int32.toUInt32 31).toBitVec % 32).toNat).getLsbD i = _
  rw [s_u n hn, BitVec.getLsbD_ushiftRight]
theorem b_sshr (n : Nat) (hn : n < 32) (x : Int32) {i : Nat} (hi : i < 32) : bt (x >>> (nI n &&& 31)) i = if n + i < 32 then bt x (n + i) else bt x 31 := by
  unfold bt
  rw [Int32.toBitVec_shiftRight]
  show (x.toBitVec.sshiftRight ((nI n &&& 31).toBitVec.smod 32).toNat).getLsbD i = _
  rw [s_l n hn, BitVec.getLsbD_sshiftRight, BitVec.msb_eq_getLsbD_last]
  simp [hi]
theorem b_shl8 (x : Int32) {i : Nat} (hi : i < 32) : bt (x <<< ((8 : Int32) &&& 31)) i = (decide (8 ≤ i) && bt x (i - 8)) := b_shl 8 (by omega) x hi
theorem b_shl16 (x : Int32) {i : Nat} (hi : i < 32) : bt (x <<< ((16 : Int32) &&& 31)) i = (decide (16 ≤ i) && bt x (i - 16)) := b_shl 16 (by omega) x hi
theorem b_shl24 (x : Int32) {i : Nat} (hi : i < 32) : bt (x <<< ((24 : Int32) &&& 31)) i = (decide (24 ≤ i) && bt x (i - 24)) := b_shl 24 (by omega) x hi
theorem b_sshr8 (x : Int32) {i : Nat} (hi : i < 32) : bt (x >>> ((8 : Int32) &&& 31)) i = if 8 + i < 32 then bt x (8 + i) else bt x 31 := b_sshr 8 (by omega) x hi
/-! ===== nI under and, xor, >>>, one bit, 65535 ===== -/
theorem nx_and (a b : Nat) : nI a &&& nI b = nI (a &&& b) := by
  apply Int32.toBitVec_inj.1
  show BitVec.ofNat 32 a &&& BitVec.ofNat 32 b = BitVec.ofNat 32 (a &&& b)
  apply BitVec.eq_of_getLsbD_eq
  intro i hi
  simp [hi]
theorem nx_xor (a b : Nat) : nI a ^^^ nI b = nI (a ^^^ b) := by
  apply Int32.toBitVec_inj.1
  show BitVec.ofNat 32 a ^^^ BitVec.ofNat 32 b = BitVec.ofNat 32 (a ^^^ b)
  apply BitVec.eq_of_getLsbD_eq
  intro i hi
  simp [hi]
theorem nx_cnt : ∀ j : Fin 32, (UInt32.ofNat j.val &&& Int32.toUInt32 31).toNat % 32 = j.val := by decide +kernel
theorem nx_ush {k j : Nat} (hk : k < 65536) (hj : j < 32) : ((nI k).toUInt32 >>> ((nI j).toUInt32 &&& Int32.toUInt32 31)).toInt32 = nI (k >>> j) := by
  have hs : k >>> j ≤ k := by
    rw [Nat.shiftRight_eq_div_pow]
    exact Nat.div_le_self _ _
  have e2 : UInt32.ofNat k >>> (UInt32.ofNat j &&& Int32.toUInt32 31) = UInt32.ofNat (k >>> j) := by
    apply UInt32.toNat_inj.1
    have h1 : (UInt32.ofNat k).toNat = k := Nat.mod_eq_of_lt (by omega)
    have h2 : (UInt32.ofNat (k >>> j)).toNat = k >>> j := Nat.mod_eq_of_lt (by omega)
    rw [UInt32.toNat_shiftRight, nx_cnt ⟨j, hj⟩, h1, h2]
  show (UInt32.ofNat k >>> (UInt32.ofNat j &&& Int32.toUInt32 31)).toInt32 = _
  rw [e2]
  rfl
theorem nx_bit {k j : Nat} (hk : k < 65536) (hj : j < 16) : (((nI k).toUInt32 >>> ((nI j).toUInt32 &&& Int32.toUInt32 31)).toInt32 &&& 1) = 0 ↔ k.testBit j = false := by
  rw [nx_ush hk (by omega)]
  show nI (k >>> j) &&& nI 1 = 0 ↔ _
  rw [nx_and, Nat.and_one_is_mod, ← nI_0, nI_eq (by omega) (by omega), Nat.testBit_eq_decide_div_mod_eq, Nat.shiftRight_eq_div_pow, decide_eq_false_iff_not]
  generalize k / 2 ^ j = z
  omega
theorem nx_mod (k : Nat) : nI k &&& 65535 = nI (k % 65536) := by
  show nI k &&& nI 65535 = _
  rw [nx_and, show (65535 : Nat) = 2 ^ 16 - 1 from rfl, Nat.and_two_pow_sub_one_eq_mod]
theorem nx_m16 {k : Nat} (h : k < 65536) : nI k &&& 65535 = nI k := by rw [nx_mod, Nat.mod_eq_of_lt h]
theorem nx_mask (x : Int32) : ∃ k, k < 65536 ∧ x &&& 65535 = nI k := by
  have e : x = nI x.toBitVec.toNat := by
    apply Int32.toBitVec_inj.1
    show x.toBitVec = BitVec.ofNat 32 x.toBitVec.toNat
    simp
  refine ⟨x.toBitVec.toNat % 65536, Nat.mod_lt _ (by omega), ?_⟩
  rw [← nx_mod, ← e]
/-! plain facts to paste, each family by itself; over the kit's nI, lN and upd -/
/-! ===== drawers: more things than places ===== -/
theorem fb_holes : ∀ (m n : Nat) (f : Nat → Nat), (∀ i, i < n → f i < m) → (∀ i j, i < j → j < n → f i ≠ f j) → n ≤ m := by
  intro m
  induction m with
  | zero =>
    intro n f h1 _
    rcases Nat.eq_zero_or_pos n with h | h
    · omega
    · exact absurd (h1 0 h) (Nat.not_lt_zero _)
  | succ m ih =>
    intro n f h1 h2
    by_cases hx : ∃ i, i < n ∧ f i = m
    · obtain ⟨a, ha, hfa⟩ := hx
      have hg := ih (n - 1) (fun i => if i < a then f i else f (i + 1)) (by
        intro i hi
        by_cases q : i < a
        · simp only [if_pos q]
          have b1 := h1 i (by omega)
          have b2 := h2 i a q ha
          omega
        · simp only [if_neg q]
          have b1 := h1 (i + 1) (by omega)
          have b2 := h2 a (i + 1) (by omega) (by omega)
          omega) (by
        intro i j hij hj
        by_cases q : i < a
        · by_cases r : j < a
          · simp only [if_pos q, if_pos r]
            exact h2 i j hij (by omega)
          · simp only [if_pos q, if_neg r]
            exact h2 i (j + 1) (by omega) (by omega)
        · have r : ¬ j < a := by omega
          simp only [if_neg q, if_neg r]
          exact h2 (i + 1) (j + 1) (by omega) (by omega))
      omega
    · have hg := ih n f (fun i hi => by
        have b1 := h1 i hi
        have b2 : f i ≠ m := fun e => hx ⟨i, hi, e⟩
        omega) h2
      omega
/-- two of them in one place -/
theorem fb_twice {m n : Nat} {f : Nat → Nat} (h : ∀ i, i < n → f i < m) (hm : m < n) : ∃ i j, i < j ∧ j < n ∧ f i = f j := by
  refine Classical.byContradiction fun hx => ?_
  have := fb_holes m n f h (fun i j hij hj e => hx ⟨i, j, hij, hj, e⟩)
  omega
/-- as many as places, none twice: each place is taken -/
theorem fb_onto {n : Nat} {f : Nat → Nat} (h : ∀ i, i < n → f i < n) (h2 : ∀ i j, i < j → j < n → f i ≠ f j) {y : Nat} (hy : y < n) : ∃ i, i < n ∧ f i = y := by
  refine Classical.byContradiction fun hx => ?_
  have hne : ∀ i, i < n → f i ≠ y := fun i hi e => hx ⟨i, hi, e⟩
  have := fb_holes (n - 1) n (fun i => if f i < y then f i else f i - 1) (by
    intro i hi
    have b1 := h i hi
    have b2 := hne i hi
    by_cases q : f i < y
    · simp only [if_pos q]; omega
    · simp only [if_neg q]; omega) (by
    intro i j hij hj
    have b1 := hne i (by omega)
    have b2 := hne j hj
    have b3 := h2 i j hij hj
    by_cases q : f i < y
    · by_cases r : f j < y
      · simp only [if_pos q, if_pos r]; exact b3
      · simp only [if_pos q, if_neg r]; omega
    · by_cases r : f j < y
      · simp only [if_neg q, if_pos r]; omega
      · simp only [if_neg q, if_neg r]; omega)
  omega
/-! ===== how many places have a property ===== -/
def fb_ct (p : Nat → Bool) : Nat → Nat
  | 0 => 0
  | n + 1 => fb_ct p n + (if p n then 1 else 0)
theorem fb_ct_succ (p : Nat → Bool) (n : Nat) : fb_ct p (n + 1) = fb_ct p n + (if p n then 1 else 0) := rfl
theorem fb_ct_le (p : Nat → Bool) : ∀ n, fb_ct p n ≤ n
  | 0 => Nat.le_refl _
  | n + 1 => by
    have h := fb_ct_le p n
    rw [fb_ct_succ]
    split <;> omega
theorem fb_ct_step (p : Nat → Bool) (m : Nat) : ∀ n, fb_ct p m ≤ fb_ct p (m + n)
  | 0 => Nat.le_refl _
  | n + 1 => by
    have h := fb_ct_step p m n
    show fb_ct p m ≤ fb_ct p (m + n + 1)
    rw [fb_ct_succ]
    omega
theorem fb_ct_mono (p : Nat → Bool) {m n : Nat} (h : m ≤ n) : fb_ct p m ≤ fb_ct p n := by
  have := fb_ct_step p m (n - m)
  rwa [Nat.add_sub_cancel' h] at this
theorem fb_ct_cong {p q : Nat → Bool} : ∀ {n : Nat}, (∀ k, k < n → p k = q k) → fb_ct p n = fb_ct q n
  | 0, _ => rfl
  | n + 1, h => by
    rw [fb_ct_succ, fb_ct_succ, fb_ct_cong (fun k hk => h k (by omega)), h n (by omega)]
/-- one place changed -/
theorem fb_ct_out (p : Nat → Bool) (b : Bool) {i n : Nat} (h : n ≤ i) : fb_ct (fun k => if k = i then b else p k) n = fb_ct p n :=
  fb_ct_cong fun k hk => if_neg (by omega)
theorem fb_ct_upd (p : Nat → Bool) (b : Bool) {i : Nat} : ∀ {n : Nat}, i < n → fb_ct (fun k => if k = i then b else p k) n + (if p i then 1 else 0) = fb_ct p n + (if b then 1 else 0)
  | 0, h => absurd h (Nat.not_lt_zero i)
  | n + 1, h => by
    rw [fb_ct_succ, fb_ct_succ]
    rcases Nat.lt_or_ge i n with q | q
    · have := fb_ct_upd p b q
      have e : (if n = i then b else p n) = p n := if_neg (by omega)
      rw [e]
      omega
    · have e : i = n := by omega
      subst e
      rw [fb_ct_out p b (Nat.le_refl _)]
      simp only [if_true]
      omega
theorem fb_ct_sub {p q : Nat → Bool} : ∀ {n : Nat}, (∀ k, k < n → p k = true → q k = true) → fb_ct p n ≤ fb_ct q n
  | 0, _ => Nat.le_refl _
  | n + 1, h => by
    have h1 := fb_ct_sub (n := n) (p := p) (q := q) (fun k hk => h k (by omega))
    have h2 := h n (by omega)
    rw [fb_ct_succ, fb_ct_succ]
    cases hp : p n <;> cases hq : q n <;> simp_all <;> omega
theorem fb_ct_or {p q : Nat → Bool} : ∀ {n : Nat}, (∀ k, k < n → ¬ (p k = true ∧ q k = true)) → fb_ct (fun k => p k || q k) n = fb_ct p n + fb_ct q n
  | 0, _ => rfl
  | n + 1, h => by
    have h1 := fb_ct_or (n := n) (p := p) (q := q) (fun k hk => h k (by omega))
    have h2 := h n (by omega)
    rw [fb_ct_succ, fb_ct_succ, fb_ct_succ, h1]
    cases hp : p n <;> cases hq : q n <;> simp_all <;> omega
theorem fb_ct_not (p : Nat → Bool) : ∀ n, fb_ct p n + fb_ct (fun k => !p k) n = n
  | 0 => rfl
  | n + 1 => by
    have h := fb_ct_not p n
    rw [fb_ct_succ, fb_ct_succ]
    cases p n <;> simp <;> omega
theorem fb_ct_split (p : Nat → Bool) (m : Nat) : ∀ n, fb_ct p (m + n) = fb_ct p m + fb_ct (fun k => p (m + k)) n
  | 0 => rfl
  | n + 1 => by
    have h := fb_ct_split p m n
    show fb_ct p (m + n + 1) = _
    rw [fb_ct_succ, fb_ct_succ, h, Nat.add_assoc]
theorem fb_ct_zero {p : Nat → Bool} : ∀ {n : Nat}, fb_ct p n = 0 ↔ ∀ k, k < n → p k = false
  | 0 => ⟨fun _ k hk => absurd hk (Nat.not_lt_zero k), fun _ => rfl⟩
  | n + 1 => by
    have h := fb_ct_zero (p := p) (n := n)
    rw [fb_ct_succ]
    constructor
    · intro e k hk
      have e1 : fb_ct p n = 0 := by omega
      rcases Nat.lt_or_ge k n with q | q
      · exact h.mp e1 k q
      · have ek : k = n := by omega
        subst ek
        cases hp : p k
        · rfl
        · simp [hp] at e
    · intro a
      rw [h.mpr (fun k hk => a k (by omega)), a n (by omega)]
      rfl
theorem fb_ct_pos {p : Nat → Bool} {n : Nat} : 0 < fb_ct p n ↔ ∃ k, k < n ∧ p k = true := by
  constructor
  · intro h
    refine Classical.byContradiction fun hx => ?_
    have := fb_ct_zero.mpr (fun k hk => by
      cases hp : p k
      · rfl
      · exact absurd ⟨k, hk, hp⟩ hx : ∀ k, k < n → p k = false)
    omega
  · rintro ⟨k, hk, hp⟩
    rcases Nat.eq_zero_or_pos (fb_ct p n) with e | e
    · have := fb_ct_zero.mp e k hk
      rw [this] at hp
      cases hp
    · exact e
theorem fb_ct_all {p : Nat → Bool} {n : Nat} : fb_ct p n = n ↔ ∀ k, k < n → p k = true := by
  have h := fb_ct_not p n
  constructor
  · intro e k hk
    have z : fb_ct (fun k => !p k) n = 0 := by omega
    have := fb_ct_zero.mp z k hk
    cases hp : p k
    · simp [hp] at this
    · rfl
  · intro a
    have z : fb_ct (fun k => !p k) n = 0 := fb_ct_zero.mpr (fun k hk => by simp [a k hk])
    omega
/-- the k-th place with the property -/
theorem fb_ct_kth {p : Nat → Bool} {k : Nat} : ∀ {n : Nat}, k < fb_ct p n → ∃ i, i < n ∧ p i = true ∧ fb_ct p i = k
  | 0, h => absurd h (Nat.not_lt_zero k)
  | n + 1, h => by
    rcases Nat.lt_or_ge k (fb_ct p n) with q | q
    · obtain ⟨i, h1, h2⟩ := fb_ct_kth q
      exact ⟨i, by omega, h2⟩
    · rw [fb_ct_succ] at h
      cases hp : p n
      · simp [hp] at h; omega
      · simp [hp] at h
        exact ⟨n, by omega, hp, by omega⟩
theorem fb_ct_kth_one {p : Nat → Bool} {i j : Nat} (hi : p i = true) (hj : p j = true) (e : fb_ct p i = fb_ct p j) : i = j := by
  have key : ∀ a b : Nat, a < b → p a = true → fb_ct p a < fb_ct p b := by
    intro a b hab ha
    have h := fb_ct_mono p (show a + 1 ≤ b from hab)
    rw [fb_ct_succ, ha] at h
    simp at h
    omega
  rcases Nat.lt_trichotomy i j with q | q | q
  · have := key i j q hi; omega
  · exact q
  · have := key j i q hj; omega
/-! ===== sums over a range: one place changed, parts, bounds ===== -/
def fb_sm (f : Nat → Nat) : Nat → Nat
  | 0 => 0
  | n + 1 => fb_sm f n + f n
theorem fb_sm_succ (f : Nat → Nat) (n : Nat) : fb_sm f (n + 1) = fb_sm f n + f n := rfl
theorem fb_sm_cong {f g : Nat → Nat} : ∀ {n : Nat}, (∀ k, k < n → f k = g k) → fb_sm f n = fb_sm g n
  | 0, _ => rfl
  | n + 1, h => by rw [fb_sm_succ, fb_sm_succ, fb_sm_cong (fun k hk => h k (by omega)), h n (by omega)]
theorem fb_sm_out (f : Nat → Nat) (v : Nat) {i n : Nat} (h : n ≤ i) : fb_sm (fun k => if k = i then v else f k) n = fb_sm f n :=
  fb_sm_cong fun k hk => if_neg (by omega)
theorem fb_sm_upd (f : Nat → Nat) (v : Nat) {i : Nat} : ∀ {n : Nat}, i < n → fb_sm (fun k => if k = i then v else f k) n + f i = fb_sm f n + v
  | 0, h => absurd h (Nat.not_lt_zero i)
  | n + 1, h => by
    rw [fb_sm_succ, fb_sm_succ]
    rcases Nat.lt_or_ge i n with q | q
    · have := fb_sm_upd f v q
      have e : (if n = i then v else f n) = f n := if_neg (by omega)
      rw [e]
      omega
    · have e : i = n := by omega
      subst e
      rw [fb_sm_out f v (Nat.le_refl _)]
      simp only [if_true]
      omega
theorem fb_sm_add (f g : Nat → Nat) : ∀ n, fb_sm (fun k => f k + g k) n = fb_sm f n + fb_sm g n
  | 0 => rfl
  | n + 1 => by
    have h := fb_sm_add f g n
    rw [fb_sm_succ, fb_sm_succ, fb_sm_succ, h]
    omega
theorem fb_sm_le {f g : Nat → Nat} : ∀ {n : Nat}, (∀ k, k < n → f k ≤ g k) → fb_sm f n ≤ fb_sm g n
  | 0, _ => Nat.le_refl _
  | n + 1, h => by
    have h1 := fb_sm_le (n := n) (f := f) (g := g) (fun k hk => h k (by omega))
    have h2 := h n (by omega)
    rw [fb_sm_succ, fb_sm_succ]
    omega
theorem fb_sm_const (c : Nat) : ∀ n, fb_sm (fun _ => c) n = n * c
  | 0 => by rw [Nat.zero_mul]; rfl
  | n + 1 => by rw [fb_sm_succ, fb_sm_const c n, Nat.succ_mul]
theorem fb_sm_bound {f : Nat → Nat} {c n : Nat} (h : ∀ k, k < n → f k ≤ c) : fb_sm f n ≤ n * c := by
  rw [← fb_sm_const c n]
  exact fb_sm_le h
theorem fb_sm_mono (f : Nat → Nat) (m : Nat) : ∀ n, fb_sm f m ≤ fb_sm f (m + n)
  | 0 => Nat.le_refl _
  | n + 1 => by
    have h := fb_sm_mono f m n
    show fb_sm f m ≤ fb_sm f (m + n + 1)
    rw [fb_sm_succ]
    omega
theorem fb_sm_part (f : Nat → Nat) {i n : Nat} (h : i < n) : fb_sm f i + f i ≤ fb_sm f n := by
  have := fb_sm_mono f (i + 1) (n - (i + 1))
  rw [fb_sm_succ, show i + 1 + (n - (i + 1)) = n by omega] at this
  exact this
theorem fb_sm_split (f : Nat → Nat) (m : Nat) : ∀ n, fb_sm f (m + n) = fb_sm f m + fb_sm (fun k => f (m + k)) n
  | 0 => rfl
  | n + 1 => by
    have h := fb_sm_split f m n
    show fb_sm f (m + n + 1) = _
    rw [fb_sm_succ, fb_sm_succ, h, Nat.add_assoc]
theorem fb_sm_zero {f : Nat → Nat} {n : Nat} (h : fb_sm f n = 0) : ∀ k, k < n → f k = 0 := fun k hk => by
  have := fb_sm_part f hk
  omega
/-- the same over whole numbers -/
def fb_si (f : Nat → Int) : Nat → Int
  | 0 => 0
  | n + 1 => fb_si f n + f n
theorem fb_si_succ (f : Nat → Int) (n : Nat) : fb_si f (n + 1) = fb_si f n + f n := rfl
theorem fb_si_cong {f g : Nat → Int} : ∀ {n : Nat}, (∀ k, k < n → f k = g k) → fb_si f n = fb_si g n
  | 0, _ => rfl
  | n + 1, h => by rw [fb_si_succ, fb_si_succ, fb_si_cong (fun k hk => h k (by omega)), h n (by omega)]
theorem fb_si_out (f : Nat → Int) (v : Int) {i n : Nat} (h : n ≤ i) : fb_si (fun k => if k = i then v else f k) n = fb_si f n :=
  fb_si_cong fun k hk => if_neg (by omega)
theorem fb_si_upd (f : Nat → Int) (v : Int) {i : Nat} : ∀ {n : Nat}, i < n → fb_si (fun k => if k = i then v else f k) n = fb_si f n - f i + v
  | 0, h => absurd h (Nat.not_lt_zero i)
  | n + 1, h => by
    rw [fb_si_succ, fb_si_succ]
    rcases Nat.lt_or_ge i n with q | q
    · have := fb_si_upd f v q
      have e : (if n = i then v else f n) = f n := if_neg (by omega)
      rw [e]
      omega
    · have e : i = n := by omega
      subst e
      rw [fb_si_out f v (Nat.le_refl _)]
      simp only [if_true]
      omega
theorem fb_si_add (f g : Nat → Int) : ∀ n, fb_si (fun k => f k + g k) n = fb_si f n + fb_si g n
  | 0 => rfl
  | n + 1 => by
    have h := fb_si_add f g n
    rw [fb_si_succ, fb_si_succ, fb_si_succ, h]
    omega
theorem fb_si_sub (f g : Nat → Int) : ∀ n, fb_si (fun k => f k - g k) n = fb_si f n - fb_si g n
  | 0 => rfl
  | n + 1 => by
    have h := fb_si_sub f g n
    rw [fb_si_succ, fb_si_succ, fb_si_succ, h]
    omega
theorem fb_si_mul (c : Int) (f : Nat → Int) : ∀ n, fb_si (fun k => c * f k) n = c * fb_si f n
  | 0 => (Int.mul_zero c).symm
  | n + 1 => by
    have h := fb_si_mul c f n
    rw [fb_si_succ, fb_si_succ, h, Int.mul_add]
theorem fb_si_split (f : Nat → Int) (m : Nat) : ∀ n, fb_si f (m + n) = fb_si f m + fb_si (fun k => f (m + k)) n
  | 0 => (Int.add_zero _).symm
  | n + 1 => by
    have h := fb_si_split f m n
    show fb_si f (m + n + 1) = _
    rw [fb_si_succ, fb_si_succ, h, Int.add_assoc]
theorem fb_si_nat (f : Nat → Nat) : ∀ n, fb_si (fun k => (f k : Int)) n = (fb_sm f n : Int)
  | 0 => rfl
  | n + 1 => by
    have h := fb_si_nat f n
    rw [fb_si_succ, fb_sm_succ, h]
    omega
theorem fb_si_bound {f : Nat → Int} {c : Int} (hc : 0 ≤ c) : ∀ {n : Nat}, (∀ k, k < n → -c ≤ f k ∧ f k ≤ c) → -(n * c) ≤ fb_si f n ∧ fb_si f n ≤ n * c
  | 0, _ => by simp [fb_si]
  | n + 1, h => by
    have h1 := fb_si_bound (n := n) (f := f) hc (fun k hk => h k (by omega))
    have h2 := h n (by omega)
    have e : ((n + 1 : Nat) : Int) * c = n * c + c := by rw [Int.natCast_add, Int.add_mul]; simp
    rw [fb_si_succ, e]
    omega
/-! ===== bits of a long that isn't negative ===== -/
theorem fb_andL (a b : Nat) : lN a &&& lN b = lN (a &&& b) := by
  apply Int64.toBitVec_inj.1
  show BitVec.ofNat 64 a &&& BitVec.ofNat 64 b = BitVec.ofNat 64 (a &&& b)
  apply BitVec.eq_of_getLsbD_eq
  intro i hi
  simp [hi]
theorem fb_orL (a b : Nat) : lN a ||| lN b = lN (a ||| b) := by
  apply Int64.toBitVec_inj.1
  show BitVec.ofNat 64 a ||| BitVec.ofNat 64 b = BitVec.ofNat 64 (a ||| b)
  apply BitVec.eq_of_getLsbD_eq
  intro i hi
  simp [hi]
theorem fb_xorL (a b : Nat) : lN a ^^^ lN b = lN (a ^^^ b) := by
  apply Int64.toBitVec_inj.1
  show BitVec.ofNat 64 a ^^^ BitVec.ofNat 64 b = BitVec.ofNat 64 (a ^^^ b)
  apply BitVec.eq_of_getLsbD_eq
  intro i hi
  simp [hi]
theorem fb_xorI (a b : Nat) : nI a ^^^ nI b = nI (a ^^^ b) := by
  apply Int32.toBitVec_inj.1
  show BitVec.ofNat 32 a ^^^ BitVec.ofNat 32 b = BitVec.ofNat 32 (a ^^^ b)
  apply BitVec.eq_of_getLsbD_eq
  intro i hi
  simp [hi]
theorem fb_maskL (n k : Nat) : lN n &&& lN (2 ^ k - 1) = lN (n % 2 ^ k) := by rw [fb_andL, Nat.and_two_pow_sub_one_eq_mod]
theorem fb_or_sumL {a k : Nat} (b : Nat) (h : a < 2 ^ k) : lN (2 ^ k * b) ||| lN a = lN (2 ^ k * b + a) := by rw [fb_orL, Nat.two_pow_add_eq_or_of_lt h]
theorem fb_lN_inj {a b : Nat} (ha : a < 2 ^ 63) (hb : b < 2 ^ 63) : lN a = lN b ↔ a = b := by
  constructor
  · intro h
    have h1 : (BitVec.ofNat 64 a).toNat = (BitVec.ofNat 64 b).toNat := congrArg (fun x : Int64 => x.toBitVec.toNat) h
    rw [BitVec.toNat_ofNat, BitVec.toNat_ofNat, Nat.mod_eq_of_lt (by omega), Nat.mod_eq_of_lt (by omega)] at h1
    exact h1
  · rintro rfl; rfl
theorem fb_bit_nat (n j : Nat) : n &&& 2 ^ j = 0 ↔ n.testBit j = false := by
  constructor
  · intro h
    have h1 : (n &&& 2 ^ j).testBit j = false := by rw [h]; simp
    rw [Nat.testBit_and] at h1
    simpa using h1
  · intro h
    apply Nat.eq_of_testBit_eq
    intro i
    rw [Nat.testBit_and]
    by_cases hi : j = i
    · subst hi; simp [h]
    · first | (simp [Nat.testBit_two_pow, hi]; done) | (simp [Nat.testBit_two_pow_of_ne hi]; done)
/-- one bit of a long -/
theorem fb_bitL {n j : Nat} (hj : j < 63) : lN n &&& lN (2 ^ j) = 0 ↔ n.testBit j = false := by
  have h2 : (2 : Nat) ^ j < 2 ^ 63 := Nat.pow_lt_pow_right (by decide) hj
  have hle : n &&& 2 ^ j ≤ 2 ^ j := Nat.and_le_right
  rw [fb_andL, ← fb_bit_nat, show (0 : Int64) = lN 0 from rfl]
  exact fb_lN_inj (by omega) (by decide)
/-- a bit set, a bit taken off -/
theorem fb_bit_set (n j i : Nat) : (n ||| 2 ^ j).testBit i = (n.testBit i || decide (i = j)) := by
  rw [Nat.testBit_or]
  by_cases h : j = i
  · subst h; simp
  · have h2 : ¬ i = j := fun e => h e.symm
    first | (simp [Nat.testBit_two_pow, h, h2]; done) | (simp [Nat.testBit_two_pow_of_ne h, h2]; done)
theorem fb_bit_flip (n j i : Nat) : (n ^^^ 2 ^ j).testBit i = (n.testBit i ^^ decide (i = j)) := by
  rw [Nat.testBit_xor]
  by_cases h : j = i
  · subst h; simp
  · have h2 : ¬ i = j := fun e => h e.symm
    first | (simp [Nat.testBit_two_pow, h, h2]; done) | (simp [Nat.testBit_two_pow_of_ne h, h2]; done)
/-! ===== a stretch of an array written over by a function ===== -/
def fb_put {α : Type} (f g : Nat → α) (a n : Nat) : Nat → α := fun k => if a ≤ k ∧ k < a + n then g (k - a) else f k
theorem fb_put_0 {α : Type} (f g : Nat → α) (a : Nat) : fb_put f g a 0 = f := funext fun k => if_neg (by omega)
theorem fb_put_in {α : Type} {f g : Nat → α} {a n k : Nat} (h1 : a ≤ k) (h2 : k < a + n) : fb_put f g a n k = g (k - a) := if_pos ⟨h1, h2⟩
theorem fb_put_out {α : Type} {f g : Nat → α} {a n k : Nat} (h : k < a ∨ a + n ≤ k) : fb_put f g a n k = f k := if_neg (by omega)
theorem fb_put_succ (f g : Nat → Int32) (a n : Nat) : upd (fb_put f g a n) (a + n) (g n) = fb_put f g a (n + 1) := by
  funext k
  by_cases h : k = a + n
  · subst h
    simp [upd, fb_put]
  · by_cases h1 : a ≤ k ∧ k < a + n
    · have h2 : a ≤ k ∧ k < a + (n + 1) := by omega
      simp only [upd, fb_put, if_neg h, if_pos h1, if_pos h2]
    · have h2 : ¬ (a ≤ k ∧ k < a + (n + 1)) := by omega
      simp only [upd, fb_put, if_neg h, if_neg h1, if_neg h2]
/-- .. from the far end down -/
theorem fb_put_down (f g : Nat → Int32) {a n m : Nat} (h : m < n) : upd (fb_put f (fun k => g (k + (m + 1))) (a + (m + 1)) (n - (m + 1))) (a + m) (g m) = fb_put f (fun k => g (k + m)) (a + m) (n - m) := by
  funext k
  by_cases h0 : k = a + m
  · subst h0
    simp only [upd, if_true]
    rw [fb_put_in (by omega) (by omega)]
    exact congrArg g (by omega)
  · simp only [upd, if_neg h0]
    by_cases h1 : a + (m + 1) ≤ k ∧ k < a + (m + 1) + (n - (m + 1))
    · rw [fb_put_in h1.1 h1.2, fb_put_in (by omega) (by omega)]
      exact congrArg g (by omega)
    · rw [fb_put_out (by omega), fb_put_out (by omega)]
theorem fb_put_cong {α : Type} {f f2 g g2 : Nat → α} {a n : Nat} (hf : ∀ k, (k < a ∨ a + n ≤ k) → f k = f2 k) (hg : ∀ k, k < n → g k = g2 k) : fb_put f g a n = fb_put f2 g2 a n := by
  funext k
  by_cases h : a ≤ k ∧ k < a + n
  · rw [fb_put_in h.1 h.2, fb_put_in h.1 h.2, hg _ (by omega)]
  · rw [fb_put_out (by omega), fb_put_out (by omega), hf _ (by omega)]
/-! ===== the least, the first, the best so far; that there is one alone ===== -/
theorem fb_first {p : Nat → Prop} [DecidablePred p] : ∀ {n : Nat}, (∃ i, i < n ∧ p i) → ∃ i, i < n ∧ p i ∧ ∀ j, j < i → ¬ p j
  | 0, h => by obtain ⟨i, hi, -⟩ := h; exact absurd hi (Nat.not_lt_zero i)
  | n + 1, h => by
    by_cases q : ∃ i, i < n ∧ p i
    · obtain ⟨i, h1, h2⟩ := fb_first q
      exact ⟨i, by omega, h2⟩
    · obtain ⟨i, h1, h2⟩ := h
      have e : i = n := by
        rcases Nat.lt_or_ge i n with r | r
        · exact absurd ⟨i, r, h2⟩ q
        · omega
      subst e
      exact ⟨i, by omega, h2, fun j hj hp => q ⟨j, hj, hp⟩⟩
theorem fb_first_one {p : Nat → Prop} {i j : Nat} (hi : p i) (hi2 : ∀ k, k < i → ¬ p k) (hj : p j) (hj2 : ∀ k, k < j → ¬ p k) : i = j := by
  rcases Nat.lt_trichotomy i j with q | q | q
  · exact absurd hi (hj2 i q)
  · exact q
  · exact absurd hj (hi2 j q)
theorem fb_last {p : Nat → Prop} [DecidablePred p] : ∀ {n : Nat}, (∃ i, i < n ∧ p i) → ∃ i, i < n ∧ p i ∧ ∀ j, i < j → j < n → ¬ p j
  | 0, h => by obtain ⟨i, hi, -⟩ := h; exact absurd hi (Nat.not_lt_zero i)
  | n + 1, h => by
    by_cases q : p n
    · exact ⟨n, by omega, q, fun j h1 h2 => by omega⟩
    · obtain ⟨i, h1, h2⟩ := h
      have hi : i < n := by
        rcases Nat.lt_or_ge i n with r | r
        · exact r
        · have e : i = n := by omega
          subst e
          exact absurd h2 q
      obtain ⟨i2, a1, a2, a3⟩ := fb_last (n := n) ⟨i, hi, h2⟩
      refine ⟨i2, by omega, a2, fun j b1 b2 => ?_⟩
      rcases Nat.lt_or_ge j n with r | r
      · exact a3 j b1 r
      · have e : j = n := by omega
        subst e
        exact q
/-- the first greatest -/
theorem fb_best (f : Nat → Int) : ∀ {n : Nat}, 0 < n → ∃ i, i < n ∧ (∀ j, j < n → f j ≤ f i) ∧ ∀ j, j < i → f j < f i
  | 0, h => absurd h (Nat.lt_irrefl 0)
  | 1, _ => ⟨0, by omega, fun j hj => by have e : j = 0 := by omega
                                         subst e; exact Int.le_refl _, fun j hj => absurd hj (Nat.not_lt_zero j)⟩
  | n + 2, _ => by
    obtain ⟨i, h1, h2, h3⟩ := fb_best f (n := n + 1) (by omega)
    by_cases q : f i < f (n + 1)
    · refine ⟨n + 1, by omega, fun j hj => ?_, fun j hj => ?_⟩
      · rcases Nat.lt_or_ge j (n + 1) with r | r
        · have := h2 j r; omega
        · have e : j = n + 1 := by omega
          subst e; exact Int.le_refl _
      · have := h2 j hj; omega
    · refine ⟨i, by omega, fun j hj => ?_, h3⟩
      rcases Nat.lt_or_ge j (n + 1) with r | r
      · exact h2 j r
      · have e : j = n + 1 := by omega
        subst e; omega
theorem fb_best_one {f : Nat → Int} {n i j : Nat} (hi : i < n) (hi2 : ∀ k, k < n → f k ≤ f i) (hi3 : ∀ k, k < i → f k < f i) (hj : j < n) (hj2 : ∀ k, k < n → f k ≤ f j) (hj3 : ∀ k, k < j → f k < f j) : i = j := by
  rcases Nat.lt_trichotomy i j with q | q | q
  · have a := hj3 i q
    have b := hi2 j hj
    omega
  · exact q
  · have a := hi3 j q
    have b := hj2 i hi
    omega
/-- the first least -/
theorem fb_low (f : Nat → Int) {n : Nat} (h : 0 < n) : ∃ i, i < n ∧ (∀ j, j < n → f i ≤ f j) ∧ ∀ j, j < i → f i < f j := by
  obtain ⟨i, h1, h2, h3⟩ := fb_best (fun k => -f k) h
  exact ⟨i, h1, fun j hj => by have := h2 j hj; omega, fun j hj => by have := h3 j hj; omega⟩
/-! ===== signed ints as whole numbers, within bounds ===== -/
theorem fb_rng (x : Int32) : -2147483648 ≤ x.toInt ∧ x.toInt < 2147483648 := by
  have h1 := Int32.le_toInt x
  have h2 := Int32.toInt_lt x
  omega
theorem fb_bmod {z : Int} (h1 : -2147483648 ≤ z) (h2 : z < 2147483648) : z.bmod (2 ^ 32) = z := by
  rw [Int.bmod_eq_of_le (by omega) (by omega)]
theorem fb_addI {x y : Int32} (h1 : -2147483648 ≤ x.toInt + y.toInt) (h2 : x.toInt + y.toInt < 2147483648) : (x + y).toInt = x.toInt + y.toInt := by
  rw [Int32.toInt_add, fb_bmod h1 h2]
theorem fb_subI {x y : Int32} (h1 : -2147483648 ≤ x.toInt - y.toInt) (h2 : x.toInt - y.toInt < 2147483648) : (x - y).toInt = x.toInt - y.toInt := by
  rw [Int32.toInt_sub, fb_bmod h1 h2]
theorem fb_mulI {x y : Int32} (h1 : -2147483648 ≤ x.toInt * y.toInt) (h2 : x.toInt * y.toInt < 2147483648) : (x * y).toInt = x.toInt * y.toInt := by
  rw [Int32.toInt_mul, fb_bmod h1 h2]
theorem fb_negI {x : Int32} (h : x.toInt ≠ -2147483648) : (-x).toInt = -x.toInt := by
  have := fb_rng x
  rw [Int32.toInt_neg, fb_bmod (by omega) (by omega)]
theorem fb_ofI {z : Int} (h1 : -2147483648 ≤ z) (h2 : z < 2147483648) : (Int32.ofInt z).toInt = z := by
  rw [Int32.toInt_ofInt, fb_bmod h1 h2]
theorem fb_asI (x : Int32) : Int32.ofInt x.toInt = x := Int32.ofInt_toInt x
theorem fb_rngL (x : Int64) : -9223372036854775808 ≤ x.toInt ∧ x.toInt < 9223372036854775808 := by
  have h1 := Int64.le_toInt x
  have h2 := Int64.toInt_lt x
  omega
theorem fb_bmodL {z : Int} (h1 : -9223372036854775808 ≤ z) (h2 : z < 9223372036854775808) : z.bmod (2 ^ 64) = z := by
  rw [Int.bmod_eq_of_le (by omega) (by omega)]
theorem fb_addL {x y : Int64} (h1 : -9223372036854775808 ≤ x.toInt + y.toInt) (h2 : x.toInt + y.toInt < 9223372036854775808) : (x + y).toInt = x.toInt + y.toInt := by
  rw [Int64.toInt_add, fb_bmodL h1 h2]
theorem fb_subL {x y : Int64} (h1 : -9223372036854775808 ≤ x.toInt - y.toInt) (h2 : x.toInt - y.toInt < 9223372036854775808) : (x - y).toInt = x.toInt - y.toInt := by
  rw [Int64.toInt_sub, fb_bmodL h1 h2]
theorem fb_mulL {x y : Int64} (h1 : -9223372036854775808 ≤ x.toInt * y.toInt) (h2 : x.toInt * y.toInt < 9223372036854775808) : (x * y).toInt = x.toInt * y.toInt := by
  rw [Int64.toInt_mul, fb_bmodL h1 h2]
/-! ===== cuts of what is narrow already ===== -/
theorem fb_byte {x : Int32} (h1 : -128 ≤ x.toInt) (h2 : x.toInt < 128) : x.toInt8.toInt32 = x := by
  apply Int32.toInt_inj.1
  rw [Int8.toInt_toInt32, Int32.toInt_toInt8, Int.bmod_eq_of_le (by omega) (by omega)]
theorem fb_short {x : Int32} (h1 : -32768 ≤ x.toInt) (h2 : x.toInt < 32768) : x.toInt16.toInt32 = x := by
  apply Int32.toInt_inj.1
  rw [Int16.toInt_toInt32, Int32.toInt_toInt16, Int.bmod_eq_of_le (by omega) (by omega)]
theorem fb_byte_rng (x : Int32) : -128 ≤ x.toInt8.toInt32.toInt ∧ x.toInt8.toInt32.toInt < 128 := by
  rw [Int8.toInt_toInt32]
  have h1 := Int8.le_toInt x.toInt8
  have h2 := Int8.toInt_lt x.toInt8
  omega
theorem fb_short_rng (x : Int32) : -32768 ≤ x.toInt16.toInt32.toInt ∧ x.toInt16.toInt32.toInt < 32768 := by
  rw [Int16.toInt_toInt32]
  have h1 := Int16.le_toInt x.toInt16
  have h2 := Int16.toInt_lt x.toInt16
  omega
theorem fb_byte_twice (x : Int32) : x.toInt8.toInt32.toInt8.toInt32 = x.toInt8.toInt32 := fb_byte (fb_byte_rng x).1 (fb_byte_rng x).2
theorem fb_short_twice (x : Int32) : x.toInt16.toInt32.toInt16.toInt32 = x.toInt16.toInt32 := fb_short (fb_short_rng x).1 (fb_short_rng x).2
theorem fb_char {n : Nat} (h : n < 65536) : (nI n).toUInt32.toUInt16.toUInt32.toInt32 = nI n := by
  apply Int32.toBitVec_inj.1
  apply BitVec.eq_of_toNat_eq
  have e1 : (nI n).toBitVec.toNat = n := by
    show (BitVec.ofNat 32 n).toNat = n
    rw [BitVec.toNat_ofNat, Nat.mod_eq_of_lt (by omega)]
  have e2 : ((nI n).toUInt32.toUInt16.toUInt32).toNat = n := by
    rw [UInt16.toNat_toUInt32, UInt32.toNat_toUInt16]
    show (nI n).toBitVec.toNat % 2 ^ 16 = n
    rw [e1, Nat.mod_eq_of_lt (by omega)]
  rw [e1]
  exact e2
end
section
-- SETS OF NODES AS BITS
def msk (w : Nat → Bool) : Nat → Nat
  | 0 => 0
  | k + 1 => msk w k + (if w k = true then 2 ^ k else 0)
theorem msk_lt (w : Nat → Bool) : ∀ n, msk w n < 2 ^ n
  | 0 => by simp [msk]
  | k + 1 => by
    have h := msk_lt w k
    rw [msk, Nat.pow_succ]
    split <;> omega
theorem msk_bit (w : Nat → Bool) : ∀ (n i : Nat), (msk w n).testBit i = (decide (i < n) && w i)
  | 0, i => by simp [msk]
  | k + 1, i => by
    have h := msk_lt w k
    have ih := msk_bit w k i
    rw [msk]
    by_cases hw : w k = true
    · rw [if_pos hw, Nat.add_comm, ← Nat.mul_one (2 ^ k), Nat.testBit_two_pow_mul_add _ h]
      by_cases hi : i < k
      · rw [if_pos hi, ih]; simp [hi, Nat.lt_succ_of_lt hi]
      · rw [if_neg hi]
        by_cases he : i = k
        · subst he; simp [hw]
        · have h1 : ¬ i < k + 1 := by omega
          have h2 : i - k ≠ 0 := by omega
          rw [Nat.testBit_lt_two_pow (Nat.one_lt_two_pow h2)]; simp [h1]
    · rw [if_neg hw, Nat.add_zero, ih]
      by_cases hi : i < k
      · simp [hi, Nat.lt_succ_of_lt hi]
      · by_cases he : i = k
        · subst he; simp [hw]
        · have h1 : ¬ i < k + 1 := by omega
          simp [h1, hi]
/-- the set w of nodes below n, as an int -/
def mk (n : Nat) (w : Nat → Bool) : Int32 := nI (msk w n)
theorem bt_nI (m i : Nat) (hi : i < 32) : bt (nI m) i = m.testBit i := by
  show (BitVec.ofNat 32 m).getLsbD i = _
  rw [BitVec.getLsbD_ofNat]; simp [hi]
theorem mk_bit (n : Nat) (w : Nat → Bool) {i : Nat} (hi : i < 32) : bt (mk n w) i = (decide (i < n) && w i) := by
  unfold mk; rw [bt_nI _ _ hi, msk_bit]
theorem mk_cong {n : Nat} {w w' : Nat → Bool} (h : ∀ k, k < n → w k = w' k) : mk n w = mk n w' := by
  apply b_ext
  intro i hi
  rw [mk_bit n w hi, mk_bit n w' hi]
  by_cases hn : i < n
  · rw [h i hn]
  · simp [hn]
theorem mk_inj {n : Nat} (hn : n ≤ 24) {w w' : Nat → Bool} (h : mk n w = mk n w') : ∀ k, k < n → w k = w' k := by
  intro k hk
  have h1 := mk_bit n w (i := k) (by omega)
  have h2 := mk_bit n w' (i := k) (by omega)
  rw [h, h2] at h1
  simpa [hk] using h1.symm
theorem mk_0 (n : Nat) : (0 : Int32) = mk n (fun _ => false) := by
  apply b_ext
  intro i hi
  rw [b_0, mk_bit _ _ hi]; simp
theorem bt_1 : ∀ i, i < 32 → bt 1 i = decide (i = 0) := by decide +kernel
theorem bt_bit {o i : Nat} (ho : o < 32) (hi : i < 32) : bt ((1 : Int32) <<< (nI o &&& 31)) i = decide (i = o) := by
  rw [b_shl o ho 1 hi, bt_1 _ (by omega)]
  by_cases h : o ≤ i
  · simp only [h, decide_true, Bool.true_and]
    by_cases he : i = o
    · subst he; simp
    · have : ¬ i - o = 0 := by omega
      simp [he, this]
  · have : ¬ i = o := by omega
    simp [h, this]
theorem mk_one {n o : Nat} (hn : n ≤ 24) (ho : o < n) : (1 : Int32) <<< (nI o &&& 31) = mk n (fun k => k == o) := by
  apply b_ext
  intro i hi
  rw [bt_bit (by omega) hi, mk_bit _ _ hi]
  by_cases h : i = o
  · subst h; simp [ho]
  · simp [h]
theorem mk_or (n : Nat) (w w' : Nat → Bool) : mk n w ||| mk n w' = mk n (fun k => w k || w' k) := by
  apply b_ext
  intro i hi
  rw [b_or, mk_bit _ _ hi, mk_bit _ _ hi, mk_bit _ _ hi]
  by_cases h : i < n <;> simp [h]
theorem mk_and (n : Nat) (w w' : Nat → Bool) : mk n w &&& mk n w' = mk n (fun k => w k && w' k) := by
  apply b_ext
  intro i hi
  rw [b_and, mk_bit _ _ hi, mk_bit _ _ hi, mk_bit _ _ hi]
  by_cases h : i < n <;> simp [h]
theorem mk_sub (n : Nat) (w w' : Nat → Bool) : mk n w &&& (mk n w' ^^^ (-1)) = mk n (fun k => w k && !w' k) := by
  apply b_ext
  intro i hi
  rw [b_and, b_xor, b_m1 i hi, mk_bit _ _ hi, mk_bit _ _ hi, mk_bit _ _ hi]
  by_cases h : i < n <;> simp [h]
theorem mk_ins {n o : Nat} (hn : n ≤ 24) (ho : o < n) (w : Nat → Bool) : mk n w ||| (1 : Int32) <<< (nI o &&& 31) = mk n (fun k => w k || k == o) := by
  rw [mk_one hn ho, mk_or]
theorem mk_is0 {n : Nat} (hn : n ≤ 24) (w : Nat → Bool) : mk n w = 0 ↔ ∀ k, k < n → w k = false := by
  rw [mk_0 n]
  exact ⟨fun h => mk_inj hn h, fun h => mk_cong h⟩
theorem mk_in {n o : Nat} (hn : n ≤ 24) (ho : o < n) (w : Nat → Bool) : (mk n w >>> (nI o &&& 31)) &&& 1 = b2i (w o) := by
  apply b_ext
  intro i hi
  rw [b_and, bt_1 i hi, b_sshr o (by omega) _ hi]
  by_cases h0 : i = 0
  · subst h0
    rw [if_pos (by omega), Nat.add_zero, mk_bit _ _ (by omega)]
    cases h : w o <;> simp [ho, h, b2i, b_0, bt_1]
  · cases h : w o <;> simp [h0, b2i, b_0, bt_1 i hi]
-- THE GRAPH
/-- parents are nodes, and none is its own -/
def PW (n : Nat) (par : Nat → Option Nat) : Prop := ∀ v, v < n → ∀ u, par v = some u → u < n ∧ u ≠ v
theorem PW.lt {n : Nat} {par : Nat → Option Nat} (h : PW n par) {v u : Nat} (hv : v < n) (hu : par v = some u) : u < n := (h v hv u hu).1
theorem PW.big {n : Nat} {par : Nat → Option Nat} (h : PW n par) (hn : n ≤ 24) {v : Nat} (hv : v < n) : ∀ u, par v = some u → u < 2 ^ 31 := fun u hu => by have := (h v hv u hu).1; omega
def nb (par : Nat → Option Nat) (u v : Nat) : Bool := par u == some v || par v == some u
theorem nb_symm (par : Nat → Option Nat) (u v : Nat) : nb par u v = nb par v u := by unfold nb; rw [Bool.or_comm]
theorem nb_irr {n : Nat} {par : Nat → Option Nat} (h : PW n par) {v : Nat} (hv : v < n) : nb par v v = false := by
  cases e : par v with
  | none => simp [nb, e]
  | some u =>
    have := (h v hv u e).2
    simp [nb, e, this]
def conf (par : Nat → Option Nat) (col : Nat → Int32) (v : Nat) : Bool := match par v with
  | none => false
  | some u => col v == col u
/-- some k below n -/
def anyB (p : Nat → Bool) : Nat → Bool
  | 0 => false
  | k + 1 => anyB p k || p k
theorem anyB_iff {p : Nat → Bool} : ∀ {n : Nat}, anyB p n = true ↔ ∃ k, k < n ∧ p k = true
  | 0 => by simp [anyB]
  | n + 1 => by
    rw [anyB, Bool.or_eq_true, anyB_iff]
    constructor
    · rintro (⟨k, h1, h2⟩ | h)
      · exact ⟨k, by omega, h2⟩
      · exact ⟨n, by omega, h⟩
    · rintro ⟨k, h1, h2⟩
      by_cases hk : k = n
      · subst hk; exact Or.inr h2
      · exact Or.inl ⟨k, by omega, h2⟩
theorem anyB_no {p : Nat → Bool} {n : Nat} (h : ∀ k, k < n → p k = false) : anyB p n = false := by
  cases e : anyB p n with
  | false => rfl
  | true =>
    obtain ⟨k, h1, h2⟩ := anyB_iff.mp e
    rw [h k h1] at h2; cases h2
theorem anyB_yes {p : Nat → Bool} {n k : Nat} (h1 : k < n) (h2 : p k = true) : anyB p n = true := anyB_iff.mpr ⟨k, h1, h2⟩
/-- the first k below n, or NONE -/
def fst (p : Nat → Bool) (n : Nat) : Option Nat := (List.range n).find? p
theorem fst_some {p : Nat → Bool} {n k : Nat} (hk : k < n) (hp : p k = true) (h : ∀ j, j < k → p j = false) : fst p n = some k := by
  unfold fst
  rw [List.find?_range_eq_some]
  exact ⟨hp, by simp [hk], fun j hj => by simp [h j hj]⟩
theorem fst_none {p : Nat → Bool} {n : Nat} (h : ∀ j, j < n → p j = false) : fst p n = none := by
  unfold fst
  rw [List.find?_range_eq_none]
  intro i hi
  simp [h i hi]
theorem fst_spec {p : Nat → Bool} {n : Nat} : (fst p n = none ∧ ∀ j, j < n → p j = false) ∨ ∃ k, fst p n = some k ∧ k < n ∧ p k = true ∧ ∀ j, j < k → p j = false := by
  by_cases h : ∃ k, k < n ∧ p k = true
  · obtain ⟨k, h1, h2, h3⟩ := fb_first (p := fun k => p k = true) h
    exact Or.inr ⟨k, fst_some h1 h2 (fun j hj => by simpa using h3 j hj), h1, h2, fun j hj => by simpa using h3 j hj⟩
  · have h' : ∀ j, j < n → p j = false := fun j hj => by
      cases e : p j with
      | false => rfl
      | true => exact absurd ⟨j, hj, e⟩ h
    exact Or.inl ⟨fst_none h', h'⟩
end
section
-- ROWS ON NONE-OR-A-NUMBER
section PV
variable {p : Program} {l : Launch} {e : Env} {R : Room} {s : State} {m : MethodId} {args : Array Value} {below : List Frame} {meth : Method} {c : Code} {H : Heap} {locs : List Loc} {cells slots : Nat} {Q : State → Prop}
variable {cc : ByteArray} {pc tgt k : Nat} {ls : Array Slot} {rest : List Value} {off : Int} {o : Option Nat}
theorem pv_eq7 (hx : p.tables.exec = Jvm.exec) (hb : c.code = cc) (ho : ∀ u, o = some u → u < 2 ^ 31) (hdg : decode cc pc = .ok (.if_icmp .eq off, 3)) (ht : (pc : Int) + off = (tgt : Int)) (kt : o = none → W p l e R s m args below meth c H locs cells slots Q (F0 m tgt ls rest)) (kf : ¬ o = none → W p l e R s m args below meth c H locs cells slots Q (F0 m (pc + 3) ls rest)) : W p l e R s m args below meth c H locs cells slots Q (F0 m pc ls (.int (-7) :: .int (pe o) :: rest)) :=
  lv_icmp_eq hx hb hdg ht (fun q => kt ((pe_none ho).mp q)) (fun q => kf (fun z => q ((pe_none ho).mpr z)))
theorem pv_ne7 (hx : p.tables.exec = Jvm.exec) (hb : c.code = cc) (ho : ∀ u, o = some u → u < 2 ^ 31) (hdg : decode cc pc = .ok (.if_icmp .ne off, 3)) (ht : (pc : Int) + off = (tgt : Int)) (kt : ¬ o = none → W p l e R s m args below meth c H locs cells slots Q (F0 m tgt ls rest)) (kf : o = none → W p l e R s m args below meth c H locs cells slots Q (F0 m (pc + 3) ls rest)) : W p l e R s m args below meth c H locs cells slots Q (F0 m pc ls (.int (-7) :: .int (pe o) :: rest)) :=
  lv_icmp_ne hx hb hdg ht (fun q => kt (fun z => q ((pe_none ho).mpr z))) (fun q => kf ((pe_none ho).mp q))
theorem pvn_eq (hx : p.tables.exec = Jvm.exec) (hb : c.code = cc) (ho : ∀ u, o = some u → u < 2 ^ 31) (hk : k < 2 ^ 31) (hdg : decode cc pc = .ok (.if_icmp .eq off, 3)) (ht : (pc : Int) + off = (tgt : Int)) (kt : o = some k → W p l e R s m args below meth c H locs cells slots Q (F0 m tgt ls rest)) (kf : ¬ o = some k → W p l e R s m args below meth c H locs cells slots Q (F0 m (pc + 3) ls rest)) : W p l e R s m args below meth c H locs cells slots Q (F0 m pc ls (.int (nI k) :: .int (pe o) :: rest)) :=
  lv_icmp_eq hx hb hdg ht (fun q => kt ((pe_some ho hk).mp q)) (fun q => kf (fun z => q ((pe_some ho hk).mpr z)))
theorem pvn_ne (hx : p.tables.exec = Jvm.exec) (hb : c.code = cc) (ho : ∀ u, o = some u → u < 2 ^ 31) (hk : k < 2 ^ 31) (hdg : decode cc pc = .ok (.if_icmp .ne off, 3)) (ht : (pc : Int) + off = (tgt : Int)) (kt : ¬ o = some k → W p l e R s m args below meth c H locs cells slots Q (F0 m tgt ls rest)) (kf : o = some k → W p l e R s m args below meth c H locs cells slots Q (F0 m (pc + 3) ls rest)) : W p l e R s m args below meth c H locs cells slots Q (F0 m pc ls (.int (nI k) :: .int (pe o) :: rest)) :=
  lv_icmp_ne hx hb hdg ht (fun q => kt (fun z => q ((pe_some ho hk).mpr z))) (fun q => kf ((pe_some ho hk).mp q))
end PV
theorem ex_some {o : Option Nat} (h : ¬ o = none) : ∃ u, o = some u := by
  cases o with
  | none => exact absurd rfl h
  | some u => exact ⟨u, rfl⟩
/-- as RO.mk, for a member of a class of which the machine has entries -/
theorem RO.mkF {l : Launch} {E : EE} {P : Heap → Prop} {y : MethodName} {bytes : ByteArray} {maxL f L : Nat} {ret : Option FieldType} {av : List Value} {r : Int32} {C : String} {ty : FieldType} (hret : ret = some ty) (hn : narrow ty (.int r) = .int r) (hy : plainFor y = true) (hC : y.cls = C) (hlen : (lg_sl av).length ≤ maxL)
    (body : ∀ (p : Program) (e : Env) (s : State) (m : MethodId) (args : Array Value) (below : List Frame) (meth : Method) (c : Code) (H : Heap) (Q : State → Prop), CallFix p m c bytes maxL s args TW C → KK E s → P H →
      (∀ (pc : Nat) (ls : Array Slot) (v : Int32), decode bytes pc = .ok (.ireturn, 1) → v = r → W p l e (k2_rm f L) s m args below meth c H [] 0 0 Q (F0 m pc ls [.int v])) →
      ∀ ls : Array Slot, lv_has ls maxL (lv_args 0 av) → W p l e (k2_rm f L) s m args below meth c H [] 0 0 Q (F0 m 0 ls [])) : RO l E P y bytes maxL ret f L av r := by
  refine va_MetF (cc := bytes) (maxL := maxL) (ret := ret) hy rfl ?_
  intro p e s m args below meth c s₁ B hml hv
  obtain ⟨rfl, hP, hK⟩ := hv
  have hts := atoms_spec (ws := wsM y bytes maxL ret) B.pre
  have hown : s.vm.findClass C = some m.cls := hC ▸ findClass_of_methodNamed B.named
  rw [lg_entry_eq]
  refine body p e s m av.toArray below meth c s.heap _ ⟨B.exec, B.bytes, hml, hown, fun w h => hts w (List.mem_cons_of_mem _ h)⟩ hK hP ?_ _ (lv_entry av hlen)
  intro pc ls v hdg hv
  subst hv
  exact W.zret B.exec B.bytes (B.returns.trans hret) hn (fun t ht _ => ⟨v, rfl, rfl, ht⟩) (fun q h => by cases h) hdg B.notSynchronized
end
section
-- the class: leaves that read (laid by wip/whole/gen/spec_x1.py)
theorem vN_pe {n : Nat} (hn : n ≤ 24) {o : Option Nat} (ho : ∀ u, o = some u → u < n) : vN n (pe o) = o := by
  cases o with
  | none => simp [vN, pe]
  | some u => exact vN_nI hn (ho u rfl)
/-- a value -/
def vV (x : Int32) : Bool := !(decide (x < 0)) && !(decide (65535 < x))
set_option maxRecDepth 100000 in
set_option maxHeartbeats 4000000 in
theorem cX_isNode {l : Launch} {E : EE} {a : Nat → Nat} {ids : Nat → Int32} {par : Nat → Option Nat} {rows : Nat → Nat → Int32} {cu pr n rd : Nat} (x : Int32)  : RO l E (XP E a ids par rows cu pr n rd) yX0_isNode cX0_isNode 2 (some .boolean) 0 0 [.ref (a 0), .int (x)] (b2i ((vN n x).isSome)) := by
  refine RO.mk (C := RX0) rfl (b2i_nar _) (by decide) rfl (Nat.le_of_ble_eq_true rfl) ?_
  intro p e s m args below meth c H Q hC hK hP hret ls hl
  obtain ⟨hx, hb, hml, hown, hts⟩ := id hC
  have hl : lv_has ls 2 [(0, .ref (a 0)), (1, .int (x))] := hl
  refine lv_iload_n hx hb dX0_isNode_0 rfl (lv_at hl 1 rfl) ?_
  refine lv_if_lt (tgt := 16) hx hb dX0_isNode_1 (by decide) (fun c_1 => ?_) (fun c_1 => ?_)
  · refine lv_iconst (v := (0)) hx hb dX0_isNode_16 (by decide) ?_
    exact hret _ _ _ dX0_isNode_17 (by simp [vN, c_1, b2i])
  · refine lv_iload_n hx hb dX0_isNode_4 rfl (lv_at hl 1 rfl) ?_
    refine lv_aload_n hx hb dX0_isNode_5 rfl (lv_at hl 0 rfl) ?_
    refine x_g5 hC hK hP dX0_isNode_6 ?_
    refine lv_icmp_ge (tgt := 16) hx hb dX0_isNode_9 (by decide) (fun c_9 => ?_) (fun c_9 => ?_)
    · refine lv_iconst (v := (0)) hx hb dX0_isNode_16 (by decide) ?_
      exact hret _ _ _ dX0_isNode_17 (by simp [vN, c_9, b2i])
    · refine lv_iconst (v := (1)) hx hb dX0_isNode_12 (by decide) ?_
      refine lv_goto (tgt := 17) hx hb dX0_isNode_13 (by decide) ?_
      exact hret _ _ _ dX0_isNode_17 (by simp [vN, c_1, c_9, b2i])
set_option maxRecDepth 100000 in
set_option maxHeartbeats 4000000 in
theorem cX_isValue {l : Launch} {E : EE}  (x : Int32)  : RO l E ((fun _ => True)) yX0_isValue cX0_isValue 1 (some .boolean) 0 0 [.int (x)] (b2i (vV x)) := by
  refine RO.mk (C := RX0) rfl (b2i_nar _) (by decide) rfl (Nat.le_of_ble_eq_true rfl) ?_
  intro p e s m args below meth c H Q hC hK hP hret ls hl
  obtain ⟨hx, hb, hml, hown, hts⟩ := id hC
  have hl : lv_has ls 1 [(0, .int (x))] := hl
  refine lv_iload_n hx hb dX0_isValue_0 rfl (lv_at hl 0 rfl) ?_
  refine lv_if_lt (tgt := 14) hx hb dX0_isValue_1 (by decide) (fun c_1 => ?_) (fun c_1 => ?_)
  · refine lv_iconst (v := (0)) hx hb dX0_isValue_14 (by decide) ?_
    exact hret _ _ _ dX0_isValue_15 (by simp [vV, c_1, b2i])
  · refine lv_iload_n hx hb dX0_isValue_4 rfl (lv_at hl 0 rfl) ?_
    refine lv_ldc (v := 65535) hx hb hown (hts _ qX0_110) dX0_isValue_5 ?_
    refine lv_icmp_gt (tgt := 14) hx hb dX0_isValue_7 (by decide) (fun c_7 => ?_) (fun c_7 => ?_)
    · refine lv_iconst (v := (0)) hx hb dX0_isValue_14 (by decide) ?_
      exact hret _ _ _ dX0_isValue_15 (by simp [vV, c_7, b2i])
    · refine lv_iconst (v := (1)) hx hb dX0_isValue_10 (by decide) ?_
      refine lv_goto (tgt := 15) hx hb dX0_isValue_11 (by decide) ?_
      exact hret _ _ _ dX0_isValue_15 (by simp [vV, c_1, c_7, b2i])
set_option maxRecDepth 100000 in
set_option maxHeartbeats 4000000 in
theorem cX_taken {l : Launch} {E : EE} {a : Nat → Nat} {ids : Nat → Int32} {par : Nat → Option Nat} {rows : Nat → Nat → Int32} {cu pr n rd : Nat} (x : Int32) (hn : n ≤ 24) : RO l E (XP E a ids par rows cu pr n rd) yX0_isIdentifierTaken cX0_isIdentifierTaken 3 (some .boolean) 0 0 [.ref (a 0), .int (x)] (b2i (anyB (fun j => decide (ids j = x)) n)) := by
  refine RO.mk (C := RX0) rfl (b2i_nar _) (by decide) rfl (Nat.le_of_ble_eq_true rfl) ?_
  intro p e s m args below meth c H Q hC hK hP hret ls hl
  obtain ⟨hx, hb, hml, hown, hts⟩ := id hC
  have hl : lv_has ls 3 [(0, .ref (a 0)), (1, .int (x))] := hl
  refine lv_iconst (v := (nI (0))) hx hb dX0_isIdentifierTaken_0 (by decide) ?_
  refine lv_istore_n (lv' := [(2, .int (nI (0))), (0, .ref (a 0)), (1, .int (x))]) hx hb dX0_isIdentifierTaken_1 rfl hl (by decide) rfl (fun ls hl => ?_)
  have loop_2 : ∀ (fuel : Nat) (k : Nat), (k ≤ n) → (∀ j, j < k → ¬ ids j = x) → n - k < fuel → ∀ (ls : Array Slot), lv_has ls 3 [(0, .ref (a 0)), (1, .int (x)), (2, .int (nI (k)))] → W p l e (k2_rm 0 0) s m args below meth c H [] 0 0 Q (F0 m 2 ls []) := by
    intro fuel
    induction fuel with
    | zero => intro k hk hno hm; exact absurd hm (Nat.not_lt_zero _)
    | succ fuel ih_2 =>
      intro k hk hno hm ls hl
      refine lv_iload_n hx hb dX0_isIdentifierTaken_2 rfl (lv_at hl 2 rfl) ?_
      refine lv_aload_n hx hb dX0_isIdentifierTaken_3 rfl (lv_at hl 0 rfl) ?_
      refine x_g5 hC hK hP dX0_isIdentifierTaken_4 ?_
      refine nv_ge (tgt := 28) hx hb (by omega) (by omega) dX0_isIdentifierTaken_7 (by decide) (fun c_7 => ?_) (fun c_7 => ?_)
      · refine lv_iconst (v := (0)) hx hb dX0_isIdentifierTaken_28 (by decide) ?_
        exact hret _ _ _ dX0_isIdentifierTaken_29 (by rw [anyB_no (fun j hj => by simp [hno j (by omega)])]; rfl)
      · refine lv_aload_n hx hb dX0_isIdentifierTaken_10 rfl (lv_at hl 0 rfl) ?_
        refine x_g0 hC hK hP dX0_isIdentifierTaken_11 ?_
        refine lv_iload_n hx hb dX0_isIdentifierTaken_14 rfl (lv_at hl 2 rfl) ?_
        refine x_ldI hx hb hK hP (by omega) dX0_isIdentifierTaken_15 ?_
        refine lv_iload_n hx hb dX0_isIdentifierTaken_16 rfl (lv_at hl 1 rfl) ?_
        refine lv_icmp_ne (tgt := 22) hx hb dX0_isIdentifierTaken_17 (by decide) (fun c_17 => ?_) (fun c_17 => ?_)
        · refine lv_iinc (v := (nI (k + 1))) (lv' := [(2, .int (nI (k + 1))), (0, .ref (a 0)), (1, .int (x))]) hx hb dX0_isIdentifierTaken_22 hl (k := 2) rfl (nI_inc _) (by decide) rfl (fun ls hl => ?_)
          refine lv_goto (tgt := 2) hx hb dX0_isIdentifierTaken_25 (by decide) ?_
          exact ih_2 (k + 1) (by omega) (lt_s hno c_17) (by omega) ls (lv_sub hl [1, 2, 0] rfl)
        · refine lv_iconst (v := (1)) hx hb dX0_isIdentifierTaken_20 (by decide) ?_
          exact hret _ _ _ dX0_isIdentifierTaken_21 (by rw [anyB_yes (k := k) (by omega) (by simp [c_17])]; rfl)
  exact loop_2 (n - 0 + 1) 0 (Nat.zero_le _) (lt_0) (Nat.lt_succ_self _) ls (lv_sub hl [1, 2, 0] rfl)
set_option maxRecDepth 100000 in
set_option maxHeartbeats 4000000 in
theorem cX_isRoot {l : Launch} {E : EE} {a : Nat → Nat} {ids : Nat → Int32} {par : Nat → Option Nat} {rows : Nat → Nat → Int32} {cu pr n rd : Nat} (v : Nat) (hn : n ≤ 24)(hp : PW n par)(hv : v < n) : RO l E (XP E a ids par rows cu pr n rd) yX0_isRoot cX0_isRoot 2 (some .boolean) 1 21 [.ref (a 0), .int (nI (v))] (b2i ((par v).isNone)) := by
  refine RO.mk (C := RX0) rfl (b2i_nar _) (by decide) rfl (Nat.le_of_ble_eq_true rfl) ?_
  intro p e s m args below meth c H Q hC hK hP hret ls hl
  obtain ⟨hx, hb, hml, hown, hts⟩ := id hC
  have hl : lv_has ls 2 [(0, .ref (a 0)), (1, .int (nI (v)))] := hl
  refine lv_aload_n hx hb dX0_isRoot_0 rfl (lv_at hl 0 rfl) ?_
  refine lv_aload_n hx hb dX0_isRoot_1 rfl (lv_at hl 0 rfl) ?_
  refine x_g1 hC hK hP dX0_isRoot_2 ?_
  refine lv_iload_n hx hb dX0_isRoot_5 rfl (lv_at hl 1 rfl) ?_
  refine x_ldP hx hb hK hP (by omega) dX0_isRoot_6 ?_
  refine roV (As := [.int (pe (par v))]) hC kX0_44 (cX_isNode ((pe (par v))) ) hK hP (x_rec hK hP) rfl rfl hl ⟨Nat.le_of_ble_eq_true rfl, Nat.le_of_ble_eq_true rfl⟩ (Nat.le_of_ble_eq_true rfl) dX0_isRoot_7 ⟨Nat.le_of_ble_eq_true rfl, Nat.le_of_ble_eq_true rfl⟩ ?_
  refine tI ((b2i ((par v).isSome))) (by rw [vN_pe hn (fun u h => hp.lt hv h)]) ?_
  refine bv_ne (tgt := 17) hx hb dX0_isRoot_10 (by decide) (fun c_10 => ?_) (fun c_10 => ?_)
  · refine lv_iconst (v := (0)) hx hb dX0_isRoot_17 (by decide) ?_
    exact hret _ _ _ dX0_isRoot_18 (by cases h : par v <;> simp_all [b2i])
  · refine lv_iconst (v := (1)) hx hb dX0_isRoot_13 (by decide) ?_
    refine lv_goto (tgt := 18) hx hb dX0_isRoot_14 (by decide) ?_
    exact hret _ _ _ dX0_isRoot_18 (by cases h : par v <;> simp_all [b2i])
set_option maxRecDepth 100000 in
set_option maxHeartbeats 4000000 in
theorem cX_isIn {l : Launch} {E : EE}  {n : Nat} (w : Nat → Bool) (o : Nat) (hn : n ≤ 24)(ho : o < n) : RO l E ((fun _ => True)) yX0_isIn cX0_isIn 2 (some .boolean) 0 0 [.int (mk n (w)), .int (nI (o))] (b2i (w o)) := by
  refine RO.mk (C := RX0) rfl (b2i_nar _) (by decide) rfl (Nat.le_of_ble_eq_true rfl) ?_
  intro p e s m args below meth c H Q hC hK hP hret ls hl
  obtain ⟨hx, hb, hml, hown, hts⟩ := id hC
  have hl : lv_has ls 2 [(0, .int (mk n (w))), (1, .int (nI (o)))] := hl
  refine lv_iload_n hx hb dX0_isIn_0 rfl (lv_at hl 0 rfl) ?_
  refine lv_iload_n hx hb dX0_isIn_1 rfl (lv_at hl 1 rfl) ?_
  refine lv_ishr hx hb dX0_isIn_2 ?_
  refine lv_iconst (v := (1)) hx hb dX0_isIn_3 (by decide) ?_
  refine lv_iand hx hb dX0_isIn_4 ?_
  refine tI ((b2i (w o))) (mk_in hn ho w) ?_
  refine lv_iconst (v := (1)) hx hb dX0_isIn_5 (by decide) ?_
  refine lv_icmp_ne (tgt := 13) hx hb dX0_isIn_6 (by decide) (fun c_6 => ?_) (fun c_6 => ?_)
  · refine lv_iconst (v := (0)) hx hb dX0_isIn_13 (by decide) ?_
    exact hret _ _ _ dX0_isIn_14 (by cases h : w o <;> simp_all [b2i])
  · refine lv_iconst (v := (1)) hx hb dX0_isIn_9 (by decide) ?_
    refine lv_goto (tgt := 14) hx hb dX0_isIn_10 (by decide) ?_
    exact hret _ _ _ dX0_isIn_14 (by cases h : w o <;> simp_all [b2i])
set_option maxRecDepth 100000 in
set_option maxHeartbeats 4000000 in
theorem cX_nb {l : Launch} {E : EE} {a : Nat → Nat} {ids : Nat → Int32} {par : Nat → Option Nat} {rows : Nat → Nat → Int32} {cu pr n rd : Nat} (u v : Nat) (hn : n ≤ 24)(hp : PW n par)(hu : u < n) (hv : v < n) : RO l E (XP E a ids par rows cu pr n rd) yX0_areNeighbours cX0_areNeighbours 3 (some .boolean) 0 0 [.ref (a 0), .int (nI (u)), .int (nI (v))] (b2i (nb par u v)) := by
  refine RO.mk (C := RX0) rfl (b2i_nar _) (by decide) rfl (Nat.le_of_ble_eq_true rfl) ?_
  intro p e s m args below meth c H Q hC hK hP hret ls hl
  obtain ⟨hx, hb, hml, hown, hts⟩ := id hC
  have hl : lv_has ls 3 [(0, .ref (a 0)), (1, .int (nI (u))), (2, .int (nI (v)))] := hl
  refine lv_aload_n hx hb dX0_areNeighbours_0 rfl (lv_at hl 0 rfl) ?_
  refine x_g1 hC hK hP dX0_areNeighbours_1 ?_
  refine lv_iload_n hx hb dX0_areNeighbours_4 rfl (lv_at hl 1 rfl) ?_
  refine x_ldP hx hb hK hP (by omega) dX0_areNeighbours_5 ?_
  refine lv_iload_n hx hb dX0_areNeighbours_6 rfl (lv_at hl 2 rfl) ?_
  refine pvn_eq (tgt := 20) hx hb (hp.big hn (by omega)) (by omega) dX0_areNeighbours_7 (by decide) (fun c_7 => ?_) (fun c_7 => ?_)
  · refine lv_iconst (v := (1)) hx hb dX0_areNeighbours_20 (by decide) ?_
    refine lv_goto (tgt := 25) hx hb dX0_areNeighbours_21 (by decide) ?_
    exact hret _ _ _ dX0_areNeighbours_25 (by simp [nb, c_7, b2i])
  · refine lv_aload_n hx hb dX0_areNeighbours_10 rfl (lv_at hl 0 rfl) ?_
    refine x_g1 hC hK hP dX0_areNeighbours_11 ?_
    refine lv_iload_n hx hb dX0_areNeighbours_14 rfl (lv_at hl 2 rfl) ?_
    refine x_ldP hx hb hK hP (by omega) dX0_areNeighbours_15 ?_
    refine lv_iload_n hx hb dX0_areNeighbours_16 rfl (lv_at hl 1 rfl) ?_
    refine pvn_ne (tgt := 24) hx hb (hp.big hn (by omega)) (by omega) dX0_areNeighbours_17 (by decide) (fun c_17 => ?_) (fun c_17 => ?_)
    · refine lv_iconst (v := (0)) hx hb dX0_areNeighbours_24 (by decide) ?_
      exact hret _ _ _ dX0_areNeighbours_25 (by simp [nb, c_7, c_17, b2i])
    · refine lv_iconst (v := (1)) hx hb dX0_areNeighbours_20 (by decide) ?_
      refine lv_goto (tgt := 25) hx hb dX0_areNeighbours_21 (by decide) ?_
      exact hret _ _ _ dX0_areNeighbours_25 (by simp [nb, c_7, c_17, b2i])
set_option maxRecDepth 100000 in
set_option maxHeartbeats 4000000 in
theorem cX_neigh {l : Launch} {E : EE} {a : Nat → Nat} {ids : Nat → Int32} {par : Nat → Option Nat} {rows : Nat → Nat → Int32} {cu pr n rd : Nat} (u : Nat) (hn : n ≤ 24)(hp : PW n par)(hu : u < n) : RO l E (XP E a ids par rows cu pr n rd) yX0_neighbours cX0_neighbours 4 (some .int) 1 22 [.ref (a 0), .int (nI (u))] (mk n (nb par u)) := by
  refine RO.mk (C := RX0) rfl rfl (by decide) rfl (Nat.le_of_ble_eq_true rfl) ?_
  intro p e s m args below meth c H Q hC hK hP hret ls hl
  obtain ⟨hx, hb, hml, hown, hts⟩ := id hC
  have hl : lv_has ls 4 [(0, .ref (a 0)), (1, .int (nI (u)))] := hl
  refine lv_iconst (v := (0)) hx hb dX0_neighbours_0 (by decide) ?_
  refine tI ((mk n (fun _ => false))) (mk_0 n) ?_
  refine lv_istore_n (lv' := [(2, .int (mk n (fun _ => false))), (0, .ref (a 0)), (1, .int (nI (u)))]) hx hb dX0_neighbours_1 rfl hl (by decide) rfl (fun ls hl => ?_)
  refine lv_iconst (v := (nI (0))) hx hb dX0_neighbours_2 (by decide) ?_
  refine lv_istore_n (lv' := [(3, .int (nI (0))), (2, .int (mk n (fun _ => false))), (0, .ref (a 0)), (1, .int (nI (u)))]) hx hb dX0_neighbours_3 rfl hl (by decide) rfl (fun ls hl => ?_)
  have loop_4 : ∀ (fuel : Nat) (k : Nat), (k ≤ n) → n - k < fuel → ∀ (ls : Array Slot), lv_has ls 4 [(0, .ref (a 0)), (1, .int (nI (u))), (2, .int (mk n (fun j => decide (j < k) && nb par u j))), (3, .int (nI (k)))] → W p l e (k2_rm 1 22) s m args below meth c H [] 0 0 Q (F0 m 4 ls []) := by
    intro fuel
    induction fuel with
    | zero => intro k hk hm; exact absurd hm (Nat.not_lt_zero _)
    | succ fuel ih_4 =>
      intro k hk hm ls hl
      refine lv_iload_n hx hb dX0_neighbours_4 rfl (lv_at hl 3 rfl) ?_
      refine lv_aload_n hx hb dX0_neighbours_5 rfl (lv_at hl 0 rfl) ?_
      refine x_g5 hC hK hP dX0_neighbours_6 ?_
      refine nv_ge (tgt := 33) hx hb (by omega) (by omega) dX0_neighbours_9 (by decide) (fun c_9 => ?_) (fun c_9 => ?_)
      · refine lv_iload_n hx hb dX0_neighbours_33 rfl (lv_at hl 2 rfl) ?_
        exact hret _ _ _ dX0_neighbours_34 (mk_cong (fun j hj => by simp [show j < k by omega]))
      · refine lv_aload_n hx hb dX0_neighbours_12 rfl (lv_at hl 0 rfl) ?_
        refine lv_iload_n hx hb dX0_neighbours_13 rfl (lv_at hl 1 rfl) ?_
        refine lv_iload_n hx hb dX0_neighbours_14 rfl (lv_at hl 3 rfl) ?_
        refine roV (As := [.int (nI (u)), .int (nI (k))]) hC kX0_111 (cX_nb u k hn hp (by omega) (by omega)) hK hP (x_rec hK hP) rfl rfl hl ⟨Nat.le_of_ble_eq_true rfl, Nat.le_of_ble_eq_true rfl⟩ (Nat.le_of_ble_eq_true rfl) dX0_neighbours_15 ⟨Nat.le_of_ble_eq_true rfl, Nat.le_of_ble_eq_true rfl⟩ ?_
        refine bv_eq (tgt := 27) hx hb dX0_neighbours_18 (by decide) (fun c_18 => ?_) (fun c_18 => ?_)
        · rw [show mk n (fun j => decide (j < k) && nb par u j) = mk n (fun j => decide (j < k + 1) && nb par u j) from mk_cong (fun j hj => by by_cases h : j = k <;> simp [h, c_18, Nat.lt_succ_iff_lt_or_eq])] at hl
          refine lv_iinc (v := (nI (k + 1))) (lv' := [(3, .int (nI (k + 1))), (0, .ref (a 0)), (1, .int (nI (u))), (2, .int (mk n (fun j => decide (j < k + 1) && nb par u j)))]) hx hb dX0_neighbours_27 hl (k := 3) rfl (nI_inc _) (by decide) rfl (fun ls hl => ?_)
          refine lv_goto (tgt := 4) hx hb dX0_neighbours_30 (by decide) ?_
          exact ih_4 (k + 1) (by omega) (by omega) ls (lv_sub hl [1, 2, 3, 0] rfl)
        · refine lv_iload_n hx hb dX0_neighbours_21 rfl (lv_at hl 2 rfl) ?_
          refine lv_iconst (v := (1)) hx hb dX0_neighbours_22 (by decide) ?_
          refine lv_iload_n hx hb dX0_neighbours_23 rfl (lv_at hl 3 rfl) ?_
          refine lv_ishl hx hb dX0_neighbours_24 ?_
          refine lv_ior hx hb dX0_neighbours_25 ?_
          refine tI ((mk n (fun j => decide (j < k + 1) && nb par u j))) (by rw [mk_ins hn (by omega)]; exact mk_cong (fun j hj => by by_cases h : j = k <;> simp [h, c_18, Nat.lt_succ_iff_lt_or_eq])) ?_
          refine lv_istore_n (lv' := [(2, .int (mk n (fun j => decide (j < k + 1) && nb par u j))), (0, .ref (a 0)), (1, .int (nI (u))), (3, .int (nI (k)))]) hx hb dX0_neighbours_26 rfl hl (by decide) rfl (fun ls hl => ?_)
          refine lv_iinc (v := (nI (k + 1))) (lv' := [(3, .int (nI (k + 1))), (2, .int (mk n (fun j => decide (j < k + 1) && nb par u j))), (0, .ref (a 0)), (1, .int (nI (u)))]) hx hb dX0_neighbours_27 hl (k := 3) rfl (nI_inc _) (by decide) rfl (fun ls hl => ?_)
          refine lv_goto (tgt := 4) hx hb dX0_neighbours_30 (by decide) ?_
          exact ih_4 (k + 1) (by omega) (by omega) ls (lv_sub hl [2, 3, 1, 0] rfl)
  exact loop_4 (n - 0 + 1) 0 (Nat.zero_le _) (Nat.lt_succ_self _) ls (lv_sub hl [2, 3, 1, 0] rfl)
end
section
-- WHAT THE METHODS ANSWER, as functions of the state
theorem vN_t {n : Nat} (hn : n ≤ 24) {x : Int32} (h : (vN n x).isSome = true) : ∃ v, v < n ∧ x = nI v := by
  rcases vN_cases hn x with ⟨h1, -⟩ | ⟨v, h1, h2, -⟩
  · rw [h1] at h; cases h
  · exact ⟨v, h1, h2⟩
theorem vN_f {n : Nat} {x : Int32} (h : (vN n x).isSome = false) : vN n x = none := by
  cases e : vN n x with
  | none => rfl
  | some v => rw [e] at h; cases h
theorem oN_in {n v : Nat} (hn : n ≤ 24) (hv : v < n) (f : Nat → Int32) : oN (vN n (nI v)) f = f v := by rw [vN_nI hn hv]; rfl
theorem oN_out {n : Nat} {x : Int32} (h : (vN n x).isSome = false) (f : Nat → Int32) : oN (vN n x) f = -1 := by rw [vN_f h]; rfl
theorem isNone_f {o : Option Nat} (h : o.isNone = false) : ∃ u, o = some u := by
  cases o with
  | none => cases h
  | some u => exact ⟨u, rfl⟩
theorem isNone_t {o : Option Nat} (h : o.isNone = true) : o = none := by
  cases o with
  | none => rfl
  | some u => cases h
theorem fb_ct_f {p : Nat → Bool} {k : Nat} (h : p k = false) : fb_ct p (k + 1) = fb_ct p k := by rw [fb_ct_succ, h]; simp
theorem fb_ct_t {p : Nat → Bool} {k : Nat} (h : p k = true) : fb_ct p (k + 1) = fb_ct p k + 1 := by rw [fb_ct_succ, h]; simp
theorem nI_z {c : Nat} (h : c < 2 ^ 31) : nI c = 0 ↔ c = 0 := by
  rw [← nI_0]; exact nI_eq h (by decide)
-- steps along parents
def anc (par : Nat → Option Nat) : Nat → Nat → Option Nat
  | 0, v => some v
  | k + 1, v => (anc par k v).bind par
theorem anc_s {par : Nat → Option Nat} {k v t : Nat} (h : anc par k v = some t) : anc par (k + 1) v = par t := by rw [anc, h]; rfl
theorem anc_gone {par : Nat → Option Nat} {k v : Nat} (h : anc par k v = none) : ∀ j, anc par (k + j) v = none
  | 0 => h
  | j + 1 => by rw [← Nat.add_assoc, anc, anc_gone h j]; rfl
def depF (par : Nat → Option Nat) (n v : Nat) : Option Nat := fst (fun k => (anc par (k + 1) v).isNone) n
def cycF (par : Nat → Option Nat) (n v : Nat) : Option Nat := (fst (fun k => anc par (k + 1) v == some v) n).map (· + 1)
-- parts
def wid1 (par : Nat → Option Nat) (k : Nat) (w : Nat → Bool) : Nat → Bool := fun j => w j || (match par k with
  | none => false
  | some u => (w k || w u) && (j == k || j == u))
def wid (par : Nat → Option Nat) : Nat → (Nat → Bool) → (Nat → Bool)
  | 0, w => w
  | k + 1, w => wid1 par k (wid par k w)
theorem wid_none {par : Nat → Option Nat} {k : Nat} {w : Nat → Bool} (h : par k = none) : wid par (k + 1) w = wid par k w := by
  funext j; simp [wid, wid1, h]
theorem wid_out {par : Nat → Option Nat} {k u : Nat} {w : Nat → Bool} (h : par k = some u) (h1 : wid par k w k = false) (h2 : wid par k w u = false) : wid par (k + 1) w = wid par k w := by
  funext j; simp [wid, wid1, h, h1, h2]
theorem wid_in {par : Nat → Option Nat} {k u : Nat} {w : Nat → Bool} (h : par k = some u) (h1 : (wid par k w k || wid par k w u) = true) (j : Nat) : wid par (k + 1) w j = (wid par k w j || (j == k || j == u)) := by
  simp only [wid, wid1, h, h1, Bool.true_and]
def itW (par : Nat → Option Nat) (n : Nat) : Nat → (Nat → Bool) → (Nat → Bool)
  | 0, w => w
  | k + 1, w => wid par n (itW par n k w)
theorem wid_cong {n : Nat} {par : Nat → Option Nat} (hp : PW n par) {w w' : Nat → Bool} (h : ∀ j, j < n → w j = w' j) : ∀ k, k ≤ n → ∀ j, j < n → wid par k w j = wid par k w' j
  | 0, _, j, hj => h j hj
  | k + 1, hk, j, hj => by
    have ih := wid_cong hp h k (by omega)
    simp only [wid, wid1]
    rw [ih j hj, ih k (by omega)]
    cases e : par k with
    | none => rfl
    | some u =>
      have := hp.lt (v := k) (by omega) e
      simp only
      rw [ih u this]
theorem itW_fix {n : Nat} {par : Nat → Option Nat} (hp : PW n par) {w : Nat → Bool} {k : Nat} (h : ∀ j, j < n → itW par n (k + 1) w j = itW par n k w j) : ∀ i, ∀ j, j < n → itW par n (k + i) w j = itW par n k w j
  | 0, j, _ => rfl
  | i + 1, j, hj => by
    rw [← Nat.add_assoc, itW, wid_cong hp (itW_fix hp h i) n (Nat.le_refl _) j hj]
    exact h j hj
def sing (v : Nat) : Nat → Bool := fun k => k == v
/-- the part of v -/
def partW (par : Nat → Option Nat) (n v : Nat) : Nat → Bool := itW par n n (sing v)
def pcF (par : Nat → Option Nat) (n : Nat) : Nat → Nat × (Nat → Bool)
  | 0 => (0, fun _ => false)
  | k + 1 => if (pcF par n k).2 k = true then pcF par n k else ((pcF par n k).1 + 1, fun j => (pcF par n k).2 j || partW par n k j)
theorem pcF_in {par : Nat → Option Nat} {n k : Nat} (h : (pcF par n k).2 k = true) : pcF par n (k + 1) = pcF par n k := by rw [pcF, if_pos h]
theorem pcF_out {par : Nat → Option Nat} {n k : Nat} (h : (pcF par n k).2 k = false) : pcF par n (k + 1) = ((pcF par n k).1 + 1, fun j => (pcF par n k).2 j || partW par n k j) := by rw [pcF, if_neg (by rw [h]; simp)]
-- colours
def frst (col : Nat → Int32) (v : Nat) : Bool := !anyB (fun j => decide (col j = col v)) v
def max32 (x y : Int32) : Int32 := if x < y then y else x
def mxF (col : Nat → Int32) : Nat → Int32
  | 0 => -7
  | k + 1 => max32 (mxF col k) (col k)
def propB (n : Nat) (par : Nat → Option Nat) (col : Nat → Int32) : Bool := decide (fb_ct (conf par col) n = 0)
def bes (par : Nat → Option Nat) (col : Nat → Int32) (n v : Nat) (c : Int32) : Bool := anyB (fun o => nb par v o && decide (col o = c)) n
def freF (par : Nat → Option Nat) (col : Nat → Int32) (n v m : Nat) : Option Nat := fst (fun c => !bes par col n v (nI c)) m
def shc (par : Nat → Option Nat) (col : Nat → Int32) (v : Nat) : Int32 := match par v with
  | some u => col u
  | none => if col v = 0 then 1 else 0
def nxR (pr : Nat) : Nat := if pr + 1 < 18 then pr + 1 else 0
def pastR (pr q : Nat) : Nat := if q ≤ pr then pr - q else pr + 18 - q
def pastF (rows : Nat → Nat → Int32) (pr rd : Nat) (r : Int32) (v : Nat) : Int32 := if r < 0 ∨ 16 < r then -2 else if nI rd < r then -7 else rows (pastR pr r.toNatClampNeg) v
/-- the next node to visit -/
def nvF (col : Nat → Int32) (w : Nat → Bool) : Nat → Option Nat
  | 0 => none
  | k + 1 => if w k = true then nvF col w k else match nvF col w k with
    | none => some k
    | some j => if col k < col j then some k else some j
theorem nvF_in {col : Nat → Int32} {w : Nat → Bool} {k : Nat} (h : w k = true) : nvF col w (k + 1) = nvF col w k := by rw [nvF, if_pos h]
theorem nvF_first {col : Nat → Int32} {w : Nat → Bool} {k : Nat} (h : w k = false) (h1 : nvF col w k = none) : nvF col w (k + 1) = some k := by rw [nvF, if_neg (by rw [h]; simp), h1]
theorem nvF_lt' {col : Nat → Int32} {w : Nat → Bool} {k j : Nat} (h : w k = false) (h1 : nvF col w k = some j) (h2 : col k < col j) : nvF col w (k + 1) = some k := by rw [nvF, if_neg (by rw [h]; simp), h1]; simp [h2]
theorem nvF_ge {col : Nat → Int32} {w : Nat → Bool} {k j : Nat} (h : w k = false) (h1 : nvF col w k = some j) (h2 : ¬ col k < col j) : nvF col w (k + 1) = nvF col w k := by
  conv => lhs; rw [nvF, if_neg (by rw [h]; simp), h1]
  simp [h2, h1]
theorem nvF_lt {col : Nat → Int32} {w : Nat → Bool} : ∀ {k j : Nat}, nvF col w k = some j → j < k ∧ w j = false
  | 0, j, h => by cases h
  | k + 1, j, h => by
    rw [nvF] at h
    by_cases hw : w k = true
    · rw [if_pos hw] at h
      have := nvF_lt h
      exact ⟨by omega, this.2⟩
    · rw [if_neg hw] at h
      have hwf : w k = false := by simpa using hw
      cases e : nvF col w k with
      | none => rw [e] at h; cases h; exact ⟨by omega, hwf⟩
      | some i =>
        rw [e] at h
        simp only at h
        have := nvF_lt e
        split at h <;> cases h
        · exact ⟨by omega, hwf⟩
        · exact ⟨by omega, this.2⟩
theorem cyc_root {par : Nat → Option Nat} {n k v t : Nat} (ht : anc par k v = some t) (hr : par t = none) (hno : ∀ j, j < k → (anc par (j + 1) v == some v) = false) : cycF par n v = none := by
  rw [cycF, fst_none (fun j _ => ?_)]
  · rfl
  · rcases Nat.lt_or_ge j k with h | h
    · exact hno j h
    · have h0 : anc par (k + 1) v = none := by rw [anc_s ht]; exact hr
      have h1 := anc_gone h0 (j - k)
      rw [show k + 1 + (j - k) = j + 1 by omega] at h1
      rw [h1]; rfl
theorem sub_nn {pr q : Nat} (hq : q ≤ 16) (h : (0 : Int32) ≤ nI pr - nI q) : q ≤ pr := by
  rcases Nat.lt_or_ge pr q with h1 | h1
  · exact absurd h (Int32.not_le.mpr (pk_sneg (by omega) h1))
  · exact h1
theorem sub_ng {pr q : Nat} (hpr : pr < 18) (h : ¬ (0 : Int32) ≤ nI pr - nI q) : pr < q := by
  rcases Nat.lt_or_ge pr q with h1 | h1
  · exact h1
  · exact absurd (by rw [pk_sub h1]; exact nI_pos' (by omega)) h
theorem sub_18 {pr q : Nat} (h : q ≤ pr + 18) : nI pr - nI q + 18 = nI (pr + 18 - q) := by
  rw [← pk_sub h, ← nI_add, show (18 : Int32) = nI 18 from by decide, Int32.sub_eq_add_neg, Int32.sub_eq_add_neg, Int32.add_assoc, Int32.add_assoc, Int32.add_comm (-nI q)]
end
section
-- the class: methods that read (laid by wip/whole/gen/spec_x2.py)
set_option maxRecDepth 100000 in
set_option maxHeartbeats 4000000 in
theorem cX_parent {l : Launch} {E : EE} {a : Nat → Nat} {ids : Nat → Int32} {par : Nat → Option Nat} {rows : Nat → Nat → Int32} {cu pr n rd : Nat} (x : Int32) (hn : n ≤ 24) : RO l E (XP E a ids par rows cu pr n rd) yX0_parent cX0_parent 2 (some .int) 1 21 [.ref (a 0), .int (x)] (oN (vN n x) (fun v => pe (par v))) := by
  refine RO.mk (C := RX0) rfl rfl (by decide) rfl (Nat.le_of_ble_eq_true rfl) ?_
  intro p e s m args below meth c H Q hC hK hP hret ls hl
  obtain ⟨hx, hb, hml, hown, hts⟩ := id hC
  have hl : lv_has ls 2 [(0, .ref (a 0)), (1, .int (x))] := hl
  refine lv_aload_n hx hb dX0_parent_0 rfl (lv_at hl 0 rfl) ?_
  refine lv_iload_n hx hb dX0_parent_1 rfl (lv_at hl 1 rfl) ?_
  refine roV (As := [.int (x)]) hC kX0_44 (cX_isNode ((x)) ) hK hP (x_rec hK hP) rfl rfl hl ⟨Nat.le_of_ble_eq_true rfl, Nat.le_of_ble_eq_true rfl⟩ (Nat.le_of_ble_eq_true rfl) dX0_parent_2 ⟨Nat.le_of_ble_eq_true rfl, Nat.le_of_ble_eq_true rfl⟩ ?_
  refine bv_ne (tgt := 10) hx hb dX0_parent_5 (by decide) (fun c_5 => ?_) (fun c_5 => ?_)
  · obtain ⟨v, hv, rfl⟩ := vN_t hn c_5
    refine lv_aload_n hx hb dX0_parent_10 rfl (lv_at hl 0 rfl) ?_
    refine x_g1 hC hK hP dX0_parent_11 ?_
    refine lv_iload_n hx hb dX0_parent_14 rfl (lv_at hl 1 rfl) ?_
    refine x_ldP hx hb hK hP (by omega) dX0_parent_15 ?_
    exact hret _ _ _ dX0_parent_16 (by rw [oN_in hn hv])
  · refine lv_iconst (v := (-1)) hx hb dX0_parent_8 (by decide) ?_
    exact hret _ _ _ dX0_parent_9 ((oN_out c_5 _).symm)
set_option maxRecDepth 100000 in
set_option maxHeartbeats 4000000 in
theorem cX_colour {l : Launch} {E : EE} {a : Nat → Nat} {ids : Nat → Int32} {par : Nat → Option Nat} {rows : Nat → Nat → Int32} {cu pr n rd : Nat} (x : Int32) (hn : n ≤ 24)(hcu : cu < 18) : RO l E (XP E a ids par rows cu pr n rd) yX0_colour cX0_colour 2 (some .int) 1 21 [.ref (a 0), .int (x)] (oN (vN n x) (fun v => rows cu v)) := by
  refine RO.mk (C := RX0) rfl rfl (by decide) rfl (Nat.le_of_ble_eq_true rfl) ?_
  intro p e s m args below meth c H Q hC hK hP hret ls hl
  obtain ⟨hx, hb, hml, hown, hts⟩ := id hC
  have hl : lv_has ls 2 [(0, .ref (a 0)), (1, .int (x))] := hl
  refine lv_aload_n hx hb dX0_colour_0 rfl (lv_at hl 0 rfl) ?_
  refine lv_iload_n hx hb dX0_colour_1 rfl (lv_at hl 1 rfl) ?_
  refine roV (As := [.int (x)]) hC kX0_44 (cX_isNode ((x)) ) hK hP (x_rec hK hP) rfl rfl hl ⟨Nat.le_of_ble_eq_true rfl, Nat.le_of_ble_eq_true rfl⟩ (Nat.le_of_ble_eq_true rfl) dX0_colour_2 ⟨Nat.le_of_ble_eq_true rfl, Nat.le_of_ble_eq_true rfl⟩ ?_
  refine bv_ne (tgt := 10) hx hb dX0_colour_5 (by decide) (fun c_5 => ?_) (fun c_5 => ?_)
  · obtain ⟨v, hv, rfl⟩ := vN_t hn c_5
    refine lv_aload_n hx hb dX0_colour_10 rfl (lv_at hl 0 rfl) ?_
    refine x_g3 hC hK hP dX0_colour_11 ?_
    refine lv_iload_n hx hb dX0_colour_14 rfl (lv_at hl 1 rfl) ?_
    refine x_ldC (by omega) hx hb hK hP (by omega) dX0_colour_15 ?_
    exact hret _ _ _ dX0_colour_16 (by rw [oN_in hn hv])
  · refine lv_iconst (v := (-1)) hx hb dX0_colour_8 (by decide) ?_
    exact hret _ _ _ dX0_colour_9 ((oN_out c_5 _).symm)
set_option maxRecDepth 100000 in
set_option maxHeartbeats 4000000 in
theorem cX_depth {l : Launch} {E : EE} {a : Nat → Nat} {ids : Nat → Int32} {par : Nat → Option Nat} {rows : Nat → Nat → Int32} {cu pr n rd : Nat} (x : Int32) (hn : n ≤ 24)(hp : PW n par) : RO l E (XP E a ids par rows cu pr n rd) yX0_depth cX0_depth 4 (some .int) 2 42 [.ref (a 0), .int (x)] (oN (vN n x) (fun v => pe (depF par n v))) := by
  refine RO.mk (C := RX0) rfl rfl (by decide) rfl (Nat.le_of_ble_eq_true rfl) ?_
  intro p e s m args below meth c H Q hC hK hP hret ls hl
  obtain ⟨hx, hb, hml, hown, hts⟩ := id hC
  have hl : lv_has ls 4 [(0, .ref (a 0)), (1, .int (x))] := hl
  refine lv_aload_n hx hb dX0_depth_0 rfl (lv_at hl 0 rfl) ?_
  refine lv_iload_n hx hb dX0_depth_1 rfl (lv_at hl 1 rfl) ?_
  refine roV (As := [.int (x)]) hC kX0_44 (cX_isNode ((x)) ) hK hP (x_rec hK hP) rfl rfl hl ⟨Nat.le_of_ble_eq_true rfl, Nat.le_of_ble_eq_true rfl⟩ (Nat.le_of_ble_eq_true rfl) dX0_depth_2 ⟨Nat.le_of_ble_eq_true rfl, Nat.le_of_ble_eq_true rfl⟩ ?_
  refine bv_ne (tgt := 10) hx hb dX0_depth_5 (by decide) (fun c_5 => ?_) (fun c_5 => ?_)
  · obtain ⟨v, hv, rfl⟩ := vN_t hn c_5
    refine lv_iload_n hx hb dX0_depth_10 rfl (lv_at hl 1 rfl) ?_
    refine lv_istore_n (lv' := [(2, .int (nI (v))), (0, .ref (a 0)), (1, .int (nI (v)))]) hx hb dX0_depth_11 rfl hl (by decide) rfl (fun ls hl => ?_)
    refine lv_iconst (v := (nI (0))) hx hb dX0_depth_12 (by decide) ?_
    refine lv_istore_n (lv' := [(3, .int (nI (0))), (2, .int (nI (v))), (0, .ref (a 0)), (1, .int (nI (v)))]) hx hb dX0_depth_13 rfl hl (by decide) rfl (fun ls hl => ?_)
    have loop_14 : ∀ (fuel : Nat) (k : Nat) (t : Nat), (k ≤ n) → (anc par k v = some t) → (t < n) → (∀ j, j < k → (anc par (j + 1) v).isNone = false) → n - k < fuel → ∀ (ls : Array Slot), lv_has ls 4 [(0, .ref (a 0)), (1, .int (nI (v))), (2, .int (nI (t))), (3, .int (nI (k)))] → W p l e (k2_rm 2 42) s m args below meth c H [] 0 0 Q (F0 m 14 ls []) := by
      intro fuel
      induction fuel with
      | zero => intro k t hk ht htn hno hm; exact absurd hm (Nat.not_lt_zero _)
      | succ fuel ih_14 =>
        intro k t hk ht htn hno hm ls hl
        refine lv_iload_n hx hb dX0_depth_14 rfl (lv_at hl 3 rfl) ?_
        refine lv_aload_n hx hb dX0_depth_15 rfl (lv_at hl 0 rfl) ?_
        refine x_g5 hC hK hP dX0_depth_16 ?_
        refine nv_ge (tgt := 45) hx hb (by omega) (by omega) dX0_depth_19 (by decide) (fun c_19 => ?_) (fun c_19 => ?_)
        · refine lv_bipush (v := (-7)) hx hb dX0_depth_45 (by decide) ?_
          exact hret _ _ _ dX0_depth_47 (by rw [oN_in hn hv, depF, fst_none (fun j hj => hno j (by omega))]; rfl)
        · refine lv_aload_n hx hb dX0_depth_22 rfl (lv_at hl 0 rfl) ?_
          refine lv_iload_n hx hb dX0_depth_23 rfl (lv_at hl 2 rfl) ?_
          refine roV (As := [.int (nI (t))]) hC kX0_60 (cX_isRoot t hn hp (by omega)) hK hP (x_rec hK hP) rfl rfl hl ⟨Nat.le_of_ble_eq_true rfl, Nat.le_of_ble_eq_true rfl⟩ (Nat.le_of_ble_eq_true rfl) dX0_depth_24 ⟨Nat.le_of_ble_eq_true rfl, Nat.le_of_ble_eq_true rfl⟩ ?_
          refine bv_eq (tgt := 32) hx hb dX0_depth_27 (by decide) (fun c_27 => ?_) (fun c_27 => ?_)
          · obtain ⟨u, hu⟩ := isNone_f c_27
            refine lv_aload_n hx hb dX0_depth_32 rfl (lv_at hl 0 rfl) ?_
            refine x_g1 hC hK hP dX0_depth_33 ?_
            refine lv_iload_n hx hb dX0_depth_36 rfl (lv_at hl 2 rfl) ?_
            refine x_ldP hx hb hK hP (by omega) dX0_depth_37 ?_
            refine tI ((nI (u))) (by rw [hu]; rfl) ?_
            refine lv_istore_n (lv' := [(2, .int (nI (u))), (0, .ref (a 0)), (1, .int (nI (v))), (3, .int (nI (k)))]) hx hb dX0_depth_38 rfl hl (by decide) rfl (fun ls hl => ?_)
            refine lv_iinc (v := (nI (k + 1))) (lv' := [(3, .int (nI (k + 1))), (2, .int (nI (u))), (0, .ref (a 0)), (1, .int (nI (v)))]) hx hb dX0_depth_39 hl (k := 3) rfl (nI_inc _) (by decide) rfl (fun ls hl => ?_)
            refine lv_goto (tgt := 14) hx hb dX0_depth_42 (by decide) ?_
            exact ih_14 (k + 1) u (by omega) (by rw [anc_s ht, hu]) (hp.lt htn hu) (lt_s hno (by rw [anc_s ht]; exact c_27)) (by omega) ls (lv_sub hl [2, 3, 1, 0] rfl)
          · refine lv_iload_n hx hb dX0_depth_30 rfl (lv_at hl 3 rfl) ?_
            exact hret _ _ _ dX0_depth_31 (by rw [oN_in hn hv, depF, fst_some (k := k) (by omega) (by rw [anc_s ht]; exact c_27) hno]; rfl)
    exact loop_14 (n - 0 + 1) 0 v (Nat.zero_le _) (rfl) (hv) (lt_0) (Nat.lt_succ_self _) ls (lv_sub hl [2, 3, 1, 0] rfl)
  · refine lv_iconst (v := (-1)) hx hb dX0_depth_8 (by decide) ?_
    exact hret _ _ _ dX0_depth_9 ((oN_out c_5 _).symm)
set_option maxRecDepth 100000 in
set_option maxHeartbeats 4000000 in
theorem cX_cycleLength {l : Launch} {E : EE} {a : Nat → Nat} {ids : Nat → Int32} {par : Nat → Option Nat} {rows : Nat → Nat → Int32} {cu pr n rd : Nat} (x : Int32) (hn : n ≤ 24)(hp : PW n par) : RO l E (XP E a ids par rows cu pr n rd) yX0_cycleLength cX0_cycleLength 4 (some .int) 2 42 [.ref (a 0), .int (x)] (oN (vN n x) (fun v => pe (cycF par n v))) := by
  refine RO.mk (C := RX0) rfl rfl (by decide) rfl (Nat.le_of_ble_eq_true rfl) ?_
  intro p e s m args below meth c H Q hC hK hP hret ls hl
  obtain ⟨hx, hb, hml, hown, hts⟩ := id hC
  have hl : lv_has ls 4 [(0, .ref (a 0)), (1, .int (x))] := hl
  refine lv_aload_n hx hb dX0_cycleLength_0 rfl (lv_at hl 0 rfl) ?_
  refine lv_iload_n hx hb dX0_cycleLength_1 rfl (lv_at hl 1 rfl) ?_
  refine roV (As := [.int (x)]) hC kX0_44 (cX_isNode ((x)) ) hK hP (x_rec hK hP) rfl rfl hl ⟨Nat.le_of_ble_eq_true rfl, Nat.le_of_ble_eq_true rfl⟩ (Nat.le_of_ble_eq_true rfl) dX0_cycleLength_2 ⟨Nat.le_of_ble_eq_true rfl, Nat.le_of_ble_eq_true rfl⟩ ?_
  refine bv_ne (tgt := 10) hx hb dX0_cycleLength_5 (by decide) (fun c_5 => ?_) (fun c_5 => ?_)
  · obtain ⟨v, hv, rfl⟩ := vN_t hn c_5
    refine lv_iload_n hx hb dX0_cycleLength_10 rfl (lv_at hl 1 rfl) ?_
    refine lv_istore_n (lv' := [(2, .int (nI (v))), (0, .ref (a 0)), (1, .int (nI (v)))]) hx hb dX0_cycleLength_11 rfl hl (by decide) rfl (fun ls hl => ?_)
    refine lv_iconst (v := (nI (1))) hx hb dX0_cycleLength_12 (by decide) ?_
    refine lv_istore_n (lv' := [(3, .int (nI (1))), (2, .int (nI (v))), (0, .ref (a 0)), (1, .int (nI (v)))]) hx hb dX0_cycleLength_13 rfl hl (by decide) rfl (fun ls hl => ?_)
    have loop_14 : ∀ (fuel : Nat) (k : Nat) (t : Nat), (k ≤ n) → (anc par k v = some t) → (t < n) → (∀ j, j < k → (anc par (j + 1) v == some v) = false) → n - k < fuel → ∀ (ls : Array Slot), lv_has ls 4 [(0, .ref (a 0)), (1, .int (nI (v))), (2, .int (nI (t))), (3, .int (nI (k + 1)))] → W p l e (k2_rm 2 42) s m args below meth c H [] 0 0 Q (F0 m 14 ls []) := by
      intro fuel
      induction fuel with
      | zero => intro k t hk ht htn hno hm; exact absurd hm (Nat.not_lt_zero _)
      | succ fuel ih_14 =>
        intro k t hk ht htn hno hm ls hl
        refine lv_iload_n hx hb dX0_cycleLength_14 rfl (lv_at hl 3 rfl) ?_
        refine lv_aload_n hx hb dX0_cycleLength_15 rfl (lv_at hl 0 rfl) ?_
        refine x_g5 hC hK hP dX0_cycleLength_16 ?_
        refine nv_gt (tgt := 53) hx hb (by omega) (by omega) dX0_cycleLength_19 (by decide) (fun c_19 => ?_) (fun c_19 => ?_)
        · refine lv_bipush (v := (-7)) hx hb dX0_cycleLength_53 (by decide) ?_
          exact hret _ _ _ dX0_cycleLength_55 (by rw [oN_in hn hv, cycF, fst_none (fun j hj => hno j (by omega))]; rfl)
        · refine lv_aload_n hx hb dX0_cycleLength_22 rfl (lv_at hl 0 rfl) ?_
          refine lv_iload_n hx hb dX0_cycleLength_23 rfl (lv_at hl 2 rfl) ?_
          refine roV (As := [.int (nI (t))]) hC kX0_60 (cX_isRoot t hn hp (by omega)) hK hP (x_rec hK hP) rfl rfl hl ⟨Nat.le_of_ble_eq_true rfl, Nat.le_of_ble_eq_true rfl⟩ (Nat.le_of_ble_eq_true rfl) dX0_cycleLength_24 ⟨Nat.le_of_ble_eq_true rfl, Nat.le_of_ble_eq_true rfl⟩ ?_
          refine bv_eq (tgt := 33) hx hb dX0_cycleLength_27 (by decide) (fun c_27 => ?_) (fun c_27 => ?_)
          · obtain ⟨u, hu⟩ := isNone_f c_27
            have hun := hp.lt htn hu
            refine lv_aload_n hx hb dX0_cycleLength_33 rfl (lv_at hl 0 rfl) ?_
            refine x_g1 hC hK hP dX0_cycleLength_34 ?_
            refine lv_iload_n hx hb dX0_cycleLength_37 rfl (lv_at hl 2 rfl) ?_
            refine x_ldP hx hb hK hP (by omega) dX0_cycleLength_38 ?_
            refine tI ((nI (u))) (by rw [hu]; rfl) ?_
            refine lv_istore_n (lv' := [(2, .int (nI (u))), (0, .ref (a 0)), (1, .int (nI (v))), (3, .int (nI (k + 1)))]) hx hb dX0_cycleLength_39 rfl hl (by decide) rfl (fun ls hl => ?_)
            refine lv_iload_n hx hb dX0_cycleLength_40 rfl (lv_at hl 0 rfl) ?_
            refine lv_iload_n hx hb dX0_cycleLength_41 rfl (lv_at hl 2 rfl) ?_
            refine nv_ne (tgt := 47) hx hb (by omega) (by omega) dX0_cycleLength_42 (by decide) (fun c_42 => ?_) (fun c_42 => ?_)
            · refine lv_iinc (v := (nI ((k + 1) + 1))) (lv' := [(3, .int (nI ((k + 1) + 1))), (2, .int (nI (u))), (0, .ref (a 0)), (1, .int (nI (v)))]) hx hb dX0_cycleLength_47 hl (k := 3) rfl (nI_inc _) (by decide) rfl (fun ls hl => ?_)
              refine lv_goto (tgt := 14) hx hb dX0_cycleLength_50 (by decide) ?_
              exact ih_14 (k + 1) u (by omega) (by rw [anc_s ht, hu]) (hp.lt htn hu) (lt_s hno (by rw [anc_s ht, hu]; simp [c_42])) (by omega) ls (lv_sub hl [2, 3, 1, 0] rfl)
            · refine lv_iload_n hx hb dX0_cycleLength_45 rfl (lv_at hl 3 rfl) ?_
              exact hret _ _ _ dX0_cycleLength_46 (by rw [oN_in hn hv, cycF, fst_some (k := k) (by omega) (by rw [anc_s ht, hu, c_42]; simp) hno]; rfl)
          · refine lv_bipush (v := (-7)) hx hb dX0_cycleLength_30 (by decide) ?_
            exact hret _ _ _ dX0_cycleLength_32 (by rw [oN_in hn hv, cyc_root ht (isNone_t c_27) hno]; rfl)
    exact loop_14 (n - 0 + 1) 0 v (Nat.zero_le _) (rfl) (hv) (lt_0) (Nat.lt_succ_self _) ls (lv_sub hl [2, 3, 1, 0] rfl)
  · refine lv_iconst (v := (-1)) hx hb dX0_cycleLength_8 (by decide) ?_
    exact hret _ _ _ dX0_cycleLength_9 ((oN_out c_5 _).symm)
set_option maxRecDepth 100000 in
set_option maxHeartbeats 4000000 in
theorem cX_widened {l : Launch} {E : EE} {a : Nat → Nat} {ids : Nat → Int32} {par : Nat → Option Nat} {rows : Nat → Nat → Int32} {cu pr n rd : Nat} (w : Nat → Bool) (hn : n ≤ 24)(hp : PW n par) : RO l E (XP E a ids par rows cu pr n rd) yX0_widened cX0_widened 4 (some .int) 2 42 [.ref (a 0), .int (mk n (w))] (mk n (wid par n w)) := by
  refine RO.mk (C := RX0) rfl rfl (by decide) rfl (Nat.le_of_ble_eq_true rfl) ?_
  intro p e s m args below meth c H Q hC hK hP hret ls hl
  obtain ⟨hx, hb, hml, hown, hts⟩ := id hC
  have hl : lv_has ls 4 [(0, .ref (a 0)), (1, .int (mk n (w)))] := hl
  refine lv_iload_n hx hb dX0_widened_0 rfl (lv_at hl 1 rfl) ?_
  refine lv_istore_n (lv' := [(2, .int (mk n (w))), (0, .ref (a 0)), (1, .int (mk n (w)))]) hx hb dX0_widened_1 rfl hl (by decide) rfl (fun ls hl => ?_)
  refine lv_iconst (v := (nI (0))) hx hb dX0_widened_2 (by decide) ?_
  refine lv_istore_n (lv' := [(3, .int (nI (0))), (2, .int (mk n (w))), (0, .ref (a 0)), (1, .int (mk n (w)))]) hx hb dX0_widened_3 rfl hl (by decide) rfl (fun ls hl => ?_)
  have loop_4 : ∀ (fuel : Nat) (k : Nat), (k ≤ n) → n - k < fuel → ∀ (ls : Array Slot), lv_has ls 4 [(0, .ref (a 0)), (1, .int (mk n (w))), (2, .int (mk n (wid par k w))), (3, .int (nI (k)))] → W p l e (k2_rm 2 42) s m args below meth c H [] 0 0 Q (F0 m 4 ls []) := by
    intro fuel
    induction fuel with
    | zero => intro k hk hm; exact absurd hm (Nat.not_lt_zero _)
    | succ fuel ih_4 =>
      intro k hk hm ls hl
      refine lv_iload_n hx hb dX0_widened_4 rfl (lv_at hl 3 rfl) ?_
      refine lv_aload_n hx hb dX0_widened_5 rfl (lv_at hl 0 rfl) ?_
      refine x_g5 hC hK hP dX0_widened_6 ?_
      refine nv_ge (tgt := 62) hx hb (by omega) (by omega) dX0_widened_9 (by decide) (fun c_9 => ?_) (fun c_9 => ?_)
      · refine lv_iload_n hx hb dX0_widened_62 rfl (lv_at hl 2 rfl) ?_
        exact hret _ _ _ dX0_widened_63 (by rw [show k = n by omega])
      · refine lv_aload_n hx hb dX0_widened_12 rfl (lv_at hl 0 rfl) ?_
        refine lv_iload_n hx hb dX0_widened_13 rfl (lv_at hl 3 rfl) ?_
        refine roV (As := [.int (nI (k))]) hC kX0_60 (cX_isRoot k hn hp (by omega)) hK hP (x_rec hK hP) rfl rfl hl ⟨Nat.le_of_ble_eq_true rfl, Nat.le_of_ble_eq_true rfl⟩ (Nat.le_of_ble_eq_true rfl) dX0_widened_14 ⟨Nat.le_of_ble_eq_true rfl, Nat.le_of_ble_eq_true rfl⟩ ?_
        refine bv_ne (tgt := 56) hx hb dX0_widened_17 (by decide) (fun c_17 => ?_) (fun c_17 => ?_)
        · rw [← wid_none (w := w) (isNone_t c_17)] at hl
          refine lv_iinc (v := (nI (k + 1))) (lv' := [(3, .int (nI (k + 1))), (0, .ref (a 0)), (1, .int (mk n (w))), (2, .int (mk n (wid par (k + 1) w)))]) hx hb dX0_widened_56 hl (k := 3) rfl (nI_inc _) (by decide) rfl (fun ls hl => ?_)
          refine lv_goto (tgt := 4) hx hb dX0_widened_59 (by decide) ?_
          exact ih_4 (k + 1) (by omega) (by omega) ls (lv_sub hl [1, 2, 3, 0] rfl)
        · obtain ⟨u, hu⟩ := isNone_f c_17
          have hun := hp.lt (v := k) (by omega) hu
          refine lv_iload_n hx hb dX0_widened_20 rfl (lv_at hl 2 rfl) ?_
          refine lv_iload_n hx hb dX0_widened_21 rfl (lv_at hl 3 rfl) ?_
          refine roS (As := [.int (mk n (wid par k w)), .int (nI (k))]) hC kX0_63 (cX_isIn (wid par k w) k hn (by omega)) hK (P := fun _ => True) trivial rfl rfl hl ⟨Nat.le_of_ble_eq_true rfl, Nat.le_of_ble_eq_true rfl⟩ (Nat.le_of_ble_eq_true rfl) dX0_widened_22 ⟨Nat.le_of_ble_eq_true rfl, Nat.le_of_ble_eq_true rfl⟩ ?_
          refine bv_ne (tgt := 41) hx hb dX0_widened_25 (by decide) (fun c_25 => ?_) (fun c_25 => ?_)
          · refine lv_iload_n hx hb dX0_widened_41 rfl (lv_at hl 2 rfl) ?_
            refine lv_iconst (v := (1)) hx hb dX0_widened_42 (by decide) ?_
            refine lv_iload_n hx hb dX0_widened_43 rfl (lv_at hl 3 rfl) ?_
            refine lv_ishl hx hb dX0_widened_44 ?_
            refine lv_iconst (v := (1)) hx hb dX0_widened_45 (by decide) ?_
            refine lv_aload_n hx hb dX0_widened_46 rfl (lv_at hl 0 rfl) ?_
            refine x_g1 hC hK hP dX0_widened_47 ?_
            refine lv_iload_n hx hb dX0_widened_50 rfl (lv_at hl 3 rfl) ?_
            refine x_ldP hx hb hK hP (by omega) dX0_widened_51 ?_
            refine tI ((nI (u))) (by rw [hu]; rfl) ?_
            refine lv_ishl hx hb dX0_widened_52 ?_
            refine lv_ior hx hb dX0_widened_53 ?_
            refine lv_ior hx hb dX0_widened_54 ?_
            refine tI ((mk n (wid par (k + 1) w))) (by rw [mk_one hn (show k < n by omega), mk_one hn hun, mk_or, mk_or]; exact (mk_cong (fun j _ => wid_in hu (by rw [c_25]; rfl) j)).symm) ?_
            refine lv_istore_n (lv' := [(2, .int (mk n (wid par (k + 1) w))), (0, .ref (a 0)), (1, .int (mk n (w))), (3, .int (nI (k)))]) hx hb dX0_widened_55 rfl hl (by decide) rfl (fun ls hl => ?_)
            refine lv_iinc (v := (nI (k + 1))) (lv' := [(3, .int (nI (k + 1))), (2, .int (mk n (wid par (k + 1) w))), (0, .ref (a 0)), (1, .int (mk n (w)))]) hx hb dX0_widened_56 hl (k := 3) rfl (nI_inc _) (by decide) rfl (fun ls hl => ?_)
            refine lv_goto (tgt := 4) hx hb dX0_widened_59 (by decide) ?_
            exact ih_4 (k + 1) (by omega) (by omega) ls (lv_sub hl [2, 3, 1, 0] rfl)
          · refine lv_iload_n hx hb dX0_widened_28 rfl (lv_at hl 2 rfl) ?_
            refine lv_aload_n hx hb dX0_widened_29 rfl (lv_at hl 0 rfl) ?_
            refine x_g1 hC hK hP dX0_widened_30 ?_
            refine lv_iload_n hx hb dX0_widened_33 rfl (lv_at hl 3 rfl) ?_
            refine x_ldP hx hb hK hP (by omega) dX0_widened_34 ?_
            refine tI ((nI (u))) (by rw [hu]; rfl) ?_
            refine roS (As := [.int (mk n (wid par k w)), .int (nI (u))]) hC kX0_63 (cX_isIn (wid par k w) u hn (by omega)) hK (P := fun _ => True) trivial rfl rfl hl ⟨Nat.le_of_ble_eq_true rfl, Nat.le_of_ble_eq_true rfl⟩ (Nat.le_of_ble_eq_true rfl) dX0_widened_35 ⟨Nat.le_of_ble_eq_true rfl, Nat.le_of_ble_eq_true rfl⟩ ?_
            refine bv_eq (tgt := 56) hx hb dX0_widened_38 (by decide) (fun c_38 => ?_) (fun c_38 => ?_)
            · rw [← wid_out hu c_25 c_38] at hl
              refine lv_iinc (v := (nI (k + 1))) (lv' := [(3, .int (nI (k + 1))), (0, .ref (a 0)), (1, .int (mk n (w))), (2, .int (mk n (wid par (k + 1) w)))]) hx hb dX0_widened_56 hl (k := 3) rfl (nI_inc _) (by decide) rfl (fun ls hl => ?_)
              refine lv_goto (tgt := 4) hx hb dX0_widened_59 (by decide) ?_
              exact ih_4 (k + 1) (by omega) (by omega) ls (lv_sub hl [1, 2, 3, 0] rfl)
            · refine lv_iload_n hx hb dX0_widened_41 rfl (lv_at hl 2 rfl) ?_
              refine lv_iconst (v := (1)) hx hb dX0_widened_42 (by decide) ?_
              refine lv_iload_n hx hb dX0_widened_43 rfl (lv_at hl 3 rfl) ?_
              refine lv_ishl hx hb dX0_widened_44 ?_
              refine lv_iconst (v := (1)) hx hb dX0_widened_45 (by decide) ?_
              refine lv_aload_n hx hb dX0_widened_46 rfl (lv_at hl 0 rfl) ?_
              refine x_g1 hC hK hP dX0_widened_47 ?_
              refine lv_iload_n hx hb dX0_widened_50 rfl (lv_at hl 3 rfl) ?_
              refine x_ldP hx hb hK hP (by omega) dX0_widened_51 ?_
              refine tI ((nI (u))) (by rw [hu]; rfl) ?_
              refine lv_ishl hx hb dX0_widened_52 ?_
              refine lv_ior hx hb dX0_widened_53 ?_
              refine lv_ior hx hb dX0_widened_54 ?_
              refine tI ((mk n (wid par (k + 1) w))) (by rw [mk_one hn (show k < n by omega), mk_one hn hun, mk_or, mk_or]; exact (mk_cong (fun j _ => wid_in hu (by rw [c_38, Bool.or_true]) j)).symm) ?_
              refine lv_istore_n (lv' := [(2, .int (mk n (wid par (k + 1) w))), (0, .ref (a 0)), (1, .int (mk n (w))), (3, .int (nI (k)))]) hx hb dX0_widened_55 rfl hl (by decide) rfl (fun ls hl => ?_)
              refine lv_iinc (v := (nI (k + 1))) (lv' := [(3, .int (nI (k + 1))), (2, .int (mk n (wid par (k + 1) w))), (0, .ref (a 0)), (1, .int (mk n (w)))]) hx hb dX0_widened_56 hl (k := 3) rfl (nI_inc _) (by decide) rfl (fun ls hl => ?_)
              refine lv_goto (tgt := 4) hx hb dX0_widened_59 (by decide) ?_
              exact ih_4 (k + 1) (by omega) (by omega) ls (lv_sub hl [2, 3, 1, 0] rfl)
  exact loop_4 (n - 0 + 1) 0 (Nat.zero_le _) (Nat.lt_succ_self _) ls (lv_sub hl [2, 3, 1, 0] rfl)
set_option maxRecDepth 100000 in
set_option maxHeartbeats 4000000 in
theorem cX_part {l : Launch} {E : EE} {a : Nat → Nat} {ids : Nat → Int32} {par : Nat → Option Nat} {rows : Nat → Nat → Int32} {cu pr n rd : Nat} (v : Nat) (hn : n ≤ 24)(hp : PW n par)(hv : v < n) : RO l E (XP E a ids par rows cu pr n rd) yX0_part cX0_part 5 (some .int) 3 65 [.ref (a 0), .int (nI (v))] (mk n (partW par n v)) := by
  refine RO.mk (C := RX0) rfl rfl (by decide) rfl (Nat.le_of_ble_eq_true rfl) ?_
  intro p e s m args below meth c H Q hC hK hP hret ls hl
  obtain ⟨hx, hb, hml, hown, hts⟩ := id hC
  have hl : lv_has ls 5 [(0, .ref (a 0)), (1, .int (nI (v)))] := hl
  refine lv_iconst (v := (1)) hx hb dX0_part_0 (by decide) ?_
  refine lv_iload_n hx hb dX0_part_1 rfl (lv_at hl 1 rfl) ?_
  refine lv_ishl hx hb dX0_part_2 ?_
  refine tI ((mk n (sing v))) (mk_one hn hv) ?_
  refine lv_istore_n (lv' := [(2, .int (mk n (sing v))), (0, .ref (a 0)), (1, .int (nI (v)))]) hx hb dX0_part_3 rfl hl (by decide) rfl (fun ls hl => ?_)
  refine lv_iconst (v := (nI (0))) hx hb dX0_part_4 (by decide) ?_
  refine lv_istore_n (lv' := [(3, .int (nI (0))), (2, .int (mk n (sing v))), (0, .ref (a 0)), (1, .int (nI (v)))]) hx hb dX0_part_5 rfl hl (by decide) rfl (fun ls hl => ?_)
  have loop_6 : ∀ (fuel : Nat) (k : Nat), (k ≤ n) → n - k < fuel → ∀ (ls : Array Slot), lv_has ls 5 [(0, .ref (a 0)), (1, .int (nI (v))), (2, .int (mk n (itW par n k (sing v)))), (3, .int (nI (k)))] → W p l e (k2_rm 3 65) s m args below meth c H [] 0 0 Q (F0 m 6 ls []) := by
    intro fuel
    induction fuel with
    | zero => intro k hk hm; exact absurd hm (Nat.not_lt_zero _)
    | succ fuel ih_6 =>
      intro k hk hm ls hl
      refine lv_iload_n hx hb dX0_part_6 rfl (lv_at hl 3 rfl) ?_
      refine lv_aload_n hx hb dX0_part_7 rfl (lv_at hl 0 rfl) ?_
      refine x_g5 hC hK hP dX0_part_8 ?_
      refine nv_ge (tgt := 38) hx hb (by omega) (by omega) dX0_part_11 (by decide) (fun c_11 => ?_) (fun c_11 => ?_)
      · refine lv_iload_n hx hb dX0_part_38 rfl (lv_at hl 2 rfl) ?_
        exact hret _ _ _ dX0_part_39 (by rw [show k = n by omega]; rfl)
      · refine lv_aload_n hx hb dX0_part_14 rfl (lv_at hl 0 rfl) ?_
        refine lv_iload_n hx hb dX0_part_15 rfl (lv_at hl 2 rfl) ?_
        refine roV (As := [.int (mk n (itW par n k (sing v)))]) hC kX0_114 (cX_widened (itW par n k (sing v)) hn hp) hK hP (x_rec hK hP) rfl rfl hl ⟨Nat.le_of_ble_eq_true rfl, Nat.le_of_ble_eq_true rfl⟩ (Nat.le_of_ble_eq_true rfl) dX0_part_16 ⟨Nat.le_of_ble_eq_true rfl, Nat.le_of_ble_eq_true rfl⟩ ?_
        refine lv_istore (lv' := [(4, .int (mk n (wid par n (itW par n k (sing v))))), (0, .ref (a 0)), (1, .int (nI (v))), (2, .int (mk n (itW par n k (sing v)))), (3, .int (nI (k)))]) hx hb dX0_part_19 hl (by decide) rfl (fun ls hl => ?_)
        refine lv_iload hx hb dX0_part_21 (lv_at hl 0 rfl) ?_
        refine lv_iload_n hx hb dX0_part_23 rfl (lv_at hl 3 rfl) ?_
        refine lv_icmp_ne (tgt := 29) hx hb dX0_part_24 (by decide) (fun c_24 => ?_) (fun c_24 => ?_)
        · refine lv_iload hx hb dX0_part_29 (lv_at hl 0 rfl) ?_
          refine lv_istore_n (lv' := [(2, .int (mk n (wid par n (itW par n k (sing v))))), (4, .int (mk n (wid par n (itW par n k (sing v))))), (0, .ref (a 0)), (1, .int (nI (v))), (3, .int (nI (k)))]) hx hb dX0_part_31 rfl hl (by decide) rfl (fun ls hl => ?_)
          refine lv_iinc (v := (nI (k + 1))) (lv' := [(3, .int (nI (k + 1))), (2, .int (mk n (wid par n (itW par n k (sing v))))), (4, .int (mk n (wid par n (itW par n k (sing v))))), (0, .ref (a 0)), (1, .int (nI (v)))]) hx hb dX0_part_32 hl (k := 4) rfl (nI_inc _) (by decide) rfl (fun ls hl => ?_)
          refine lv_goto (tgt := 6) hx hb dX0_part_35 (by decide) ?_
          exact ih_6 (k + 1) (by omega) (by omega) ls (lv_sub hl [3, 4, 1, 0] rfl)
        · refine lv_iload_n hx hb dX0_part_27 rfl (lv_at hl 3 rfl) ?_
          exact hret _ _ _ dX0_part_28 ((mk_cong (fun j hj => by have h := itW_fix hp (w := sing v) (k := k) (fun i hi => mk_inj hn c_24 i hi) (n - k) j hj; rw [show k + (n - k) = n by omega] at h; exact h)).symm)
  exact loop_6 (n - 0 + 1) 0 (Nat.zero_le _) (Nat.lt_succ_self _) ls (lv_sub hl [2, 3, 1, 0] rfl)
set_option maxRecDepth 100000 in
set_option maxHeartbeats 4000000 in
theorem cX_partCount {l : Launch} {E : EE} {a : Nat → Nat} {ids : Nat → Int32} {par : Nat → Option Nat} {rows : Nat → Nat → Int32} {cu pr n rd : Nat}  (hn : n ≤ 24)(hp : PW n par) : RO l E (XP E a ids par rows cu pr n rd) yX0_partCount cX0_partCount 4 (some .int) 4 89 [.ref (a 0)] (nI ((pcF par n n).1)) := by
  refine RO.mk (C := RX0) rfl rfl (by decide) rfl (Nat.le_of_ble_eq_true rfl) ?_
  intro p e s m args below meth c H Q hC hK hP hret ls hl
  obtain ⟨hx, hb, hml, hown, hts⟩ := id hC
  have hl : lv_has ls 4 [(0, .ref (a 0))] := hl
  refine lv_iconst (v := (nI (0))) hx hb dX0_partCount_0 (by decide) ?_
  refine lv_istore_n (lv' := [(1, .int (nI (0))), (0, .ref (a 0))]) hx hb dX0_partCount_1 rfl hl (by decide) rfl (fun ls hl => ?_)
  refine lv_iconst (v := (0)) hx hb dX0_partCount_2 (by decide) ?_
  refine tI ((mk n (fun _ => false))) (mk_0 n) ?_
  refine lv_istore_n (lv' := [(2, .int (mk n (fun _ => false))), (1, .int (nI (0))), (0, .ref (a 0))]) hx hb dX0_partCount_3 rfl hl (by decide) rfl (fun ls hl => ?_)
  refine lv_iconst (v := (nI (0))) hx hb dX0_partCount_4 (by decide) ?_
  refine lv_istore_n (lv' := [(3, .int (nI (0))), (2, .int (mk n (fun _ => false))), (1, .int (nI (0))), (0, .ref (a 0))]) hx hb dX0_partCount_5 rfl hl (by decide) rfl (fun ls hl => ?_)
  have loop_6 : ∀ (fuel : Nat) (k : Nat), (k ≤ n) → n - k < fuel → ∀ (ls : Array Slot), lv_has ls 4 [(0, .ref (a 0)), (1, .int (nI ((pcF par n k).1))), (2, .int (mk n ((pcF par n k).2))), (3, .int (nI (k)))] → W p l e (k2_rm 4 89) s m args below meth c H [] 0 0 Q (F0 m 6 ls []) := by
    intro fuel
    induction fuel with
    | zero => intro k hk hm; exact absurd hm (Nat.not_lt_zero _)
    | succ fuel ih_6 =>
      intro k hk hm ls hl
      refine lv_iload_n hx hb dX0_partCount_6 rfl (lv_at hl 3 rfl) ?_
      refine lv_aload_n hx hb dX0_partCount_7 rfl (lv_at hl 0 rfl) ?_
      refine x_g5 hC hK hP dX0_partCount_8 ?_
      refine nv_ge (tgt := 39) hx hb (by omega) (by omega) dX0_partCount_11 (by decide) (fun c_11 => ?_) (fun c_11 => ?_)
      · refine lv_iload_n hx hb dX0_partCount_39 rfl (lv_at hl 1 rfl) ?_
        exact hret _ _ _ dX0_partCount_40 (by rw [show k = n by omega])
      · refine lv_iload_n hx hb dX0_partCount_14 rfl (lv_at hl 2 rfl) ?_
        refine lv_iload_n hx hb dX0_partCount_15 rfl (lv_at hl 3 rfl) ?_
        refine roS (As := [.int (mk n ((pcF par n k).2)), .int (nI (k))]) hC kX0_63 (cX_isIn ((pcF par n k).2) k hn (by omega)) hK (P := fun _ => True) trivial rfl rfl hl ⟨Nat.le_of_ble_eq_true rfl, Nat.le_of_ble_eq_true rfl⟩ (Nat.le_of_ble_eq_true rfl) dX0_partCount_16 ⟨Nat.le_of_ble_eq_true rfl, Nat.le_of_ble_eq_true rfl⟩ ?_
        refine bv_ne (tgt := 33) hx hb dX0_partCount_19 (by decide) (fun c_19 => ?_) (fun c_19 => ?_)
        · rw [← pcF_in c_19] at hl
          refine lv_iinc (v := (nI (k + 1))) (lv' := [(3, .int (nI (k + 1))), (0, .ref (a 0)), (1, .int (nI ((pcF par n (k + 1)).1))), (2, .int (mk n ((pcF par n (k + 1)).2)))]) hx hb dX0_partCount_33 hl (k := 3) rfl (nI_inc _) (by decide) rfl (fun ls hl => ?_)
          refine lv_goto (tgt := 6) hx hb dX0_partCount_36 (by decide) ?_
          exact ih_6 (k + 1) (by omega) (by omega) ls (lv_sub hl [1, 2, 3, 0] rfl)
        · refine lv_iload_n hx hb dX0_partCount_22 rfl (lv_at hl 2 rfl) ?_
          refine lv_aload_n hx hb dX0_partCount_23 rfl (lv_at hl 0 rfl) ?_
          refine lv_iload_n hx hb dX0_partCount_24 rfl (lv_at hl 3 rfl) ?_
          refine roV (As := [.int (nI (k))]) hC kX0_67 (cX_part k hn hp (by omega)) hK hP (x_rec hK hP) rfl rfl hl ⟨Nat.le_of_ble_eq_true rfl, Nat.le_of_ble_eq_true rfl⟩ (Nat.le_of_ble_eq_true rfl) dX0_partCount_25 ⟨Nat.le_of_ble_eq_true rfl, Nat.le_of_ble_eq_true rfl⟩ ?_
          refine lv_ior hx hb dX0_partCount_28 ?_
          refine tI ((mk n ((pcF par n (k + 1)).2))) (by rw [mk_or, pcF_out c_19]) ?_
          refine lv_istore_n (lv' := [(2, .int (mk n ((pcF par n (k + 1)).2))), (0, .ref (a 0)), (1, .int (nI ((pcF par n k).1))), (3, .int (nI (k)))]) hx hb dX0_partCount_29 rfl hl (by decide) rfl (fun ls hl => ?_)
          refine lv_iinc (v := (nI ((pcF par n (k + 1)).1))) (lv' := [(1, .int (nI ((pcF par n (k + 1)).1))), (2, .int (mk n ((pcF par n (k + 1)).2))), (0, .ref (a 0)), (3, .int (nI (k)))]) hx hb dX0_partCount_30 hl (k := 2) rfl (by rw [pcF_out c_19]; exact nI_inc _) (by decide) rfl (fun ls hl => ?_)
          refine lv_iinc (v := (nI (k + 1))) (lv' := [(3, .int (nI (k + 1))), (1, .int (nI ((pcF par n (k + 1)).1))), (2, .int (mk n ((pcF par n (k + 1)).2))), (0, .ref (a 0))]) hx hb dX0_partCount_33 hl (k := 3) rfl (nI_inc _) (by decide) rfl (fun ls hl => ?_)
          refine lv_goto (tgt := 6) hx hb dX0_partCount_36 (by decide) ?_
          exact ih_6 (k + 1) (by omega) (by omega) ls (lv_sub hl [3, 1, 2, 0] rfl)
  exact loop_6 (n - 0 + 1) 0 (Nat.zero_le _) (Nat.lt_succ_self _) ls (lv_sub hl [3, 2, 1, 0] rfl)
set_option maxRecDepth 100000 in
set_option maxHeartbeats 4000000 in
theorem cX_first {l : Launch} {E : EE} {a : Nat → Nat} {ids : Nat → Int32} {par : Nat → Option Nat} {rows : Nat → Nat → Int32} {cu pr n rd : Nat} (v : Nat) (hn : n ≤ 24)(hcu : cu < 18)(hv : v < n) : RO l E (XP E a ids par rows cu pr n rd) yX0_isFirstOfItsColour cX0_isFirstOfItsColour 3 (some .boolean) 0 0 [.ref (a 0), .int (nI (v))] (b2i (frst (rows cu) v)) := by
  refine RO.mk (C := RX0) rfl (b2i_nar _) (by decide) rfl (Nat.le_of_ble_eq_true rfl) ?_
  intro p e s m args below meth c H Q hC hK hP hret ls hl
  obtain ⟨hx, hb, hml, hown, hts⟩ := id hC
  have hl : lv_has ls 3 [(0, .ref (a 0)), (1, .int (nI (v)))] := hl
  refine lv_iconst (v := (nI (0))) hx hb dX0_isFirstOfItsColour_0 (by decide) ?_
  refine lv_istore_n (lv' := [(2, .int (nI (0))), (0, .ref (a 0)), (1, .int (nI (v)))]) hx hb dX0_isFirstOfItsColour_1 rfl hl (by decide) rfl (fun ls hl => ?_)
  have loop_2 : ∀ (fuel : Nat) (k : Nat), (k ≤ v) → (∀ j, j < k → ¬ rows cu j = rows cu v) → v - k < fuel → ∀ (ls : Array Slot), lv_has ls 3 [(0, .ref (a 0)), (1, .int (nI (v))), (2, .int (nI (k)))] → W p l e (k2_rm 0 0) s m args below meth c H [] 0 0 Q (F0 m 2 ls []) := by
    intro fuel
    induction fuel with
    | zero => intro k hk hno hm; exact absurd hm (Nat.not_lt_zero _)
    | succ fuel ih_2 =>
      intro k hk hno hm ls hl
      refine lv_iload_n hx hb dX0_isFirstOfItsColour_2 rfl (lv_at hl 2 rfl) ?_
      refine lv_iload_n hx hb dX0_isFirstOfItsColour_3 rfl (lv_at hl 1 rfl) ?_
      refine nv_ge (tgt := 30) hx hb (by omega) (by omega) dX0_isFirstOfItsColour_4 (by decide) (fun c_4 => ?_) (fun c_4 => ?_)
      · refine lv_iconst (v := (1)) hx hb dX0_isFirstOfItsColour_30 (by decide) ?_
        exact hret _ _ _ dX0_isFirstOfItsColour_31 (by rw [frst, anyB_no (fun j hj => by simp [hno j (by omega)])]; rfl)
      · refine lv_aload_n hx hb dX0_isFirstOfItsColour_7 rfl (lv_at hl 0 rfl) ?_
        refine x_g3 hC hK hP dX0_isFirstOfItsColour_8 ?_
        refine lv_iload_n hx hb dX0_isFirstOfItsColour_11 rfl (lv_at hl 2 rfl) ?_
        refine x_ldC (by omega) hx hb hK hP (by omega) dX0_isFirstOfItsColour_12 ?_
        refine lv_aload_n hx hb dX0_isFirstOfItsColour_13 rfl (lv_at hl 0 rfl) ?_
        refine x_g3 hC hK hP dX0_isFirstOfItsColour_14 ?_
        refine lv_iload_n hx hb dX0_isFirstOfItsColour_17 rfl (lv_at hl 1 rfl) ?_
        refine x_ldC (by omega) hx hb hK hP (by omega) dX0_isFirstOfItsColour_18 ?_
        refine lv_icmp_ne (tgt := 24) hx hb dX0_isFirstOfItsColour_19 (by decide) (fun c_19 => ?_) (fun c_19 => ?_)
        · refine lv_iinc (v := (nI (k + 1))) (lv' := [(2, .int (nI (k + 1))), (0, .ref (a 0)), (1, .int (nI (v)))]) hx hb dX0_isFirstOfItsColour_24 hl (k := 2) rfl (nI_inc _) (by decide) rfl (fun ls hl => ?_)
          refine lv_goto (tgt := 2) hx hb dX0_isFirstOfItsColour_27 (by decide) ?_
          exact ih_2 (k + 1) (by omega) (lt_s hno c_19) (by omega) ls (lv_sub hl [1, 2, 0] rfl)
        · refine lv_iconst (v := (0)) hx hb dX0_isFirstOfItsColour_22 (by decide) ?_
          exact hret _ _ _ dX0_isFirstOfItsColour_23 (by rw [frst, anyB_yes (k := k) (by omega) (by simp [c_19])]; rfl)
  exact loop_2 (v - 0 + 1) 0 (Nat.zero_le _) (lt_0) (Nat.lt_succ_self _) ls (lv_sub hl [1, 2, 0] rfl)
set_option maxRecDepth 100000 in
set_option maxHeartbeats 4000000 in
theorem cX_colourCount {l : Launch} {E : EE} {a : Nat → Nat} {ids : Nat → Int32} {par : Nat → Option Nat} {rows : Nat → Nat → Int32} {cu pr n rd : Nat}  (hn : n ≤ 24)(hcu : cu < 18) : RO l E (XP E a ids par rows cu pr n rd) yX0_colourCount cX0_colourCount 3 (some .int) 1 22 [.ref (a 0)] (nI (fb_ct (frst (rows cu)) n)) := by
  refine RO.mk (C := RX0) rfl rfl (by decide) rfl (Nat.le_of_ble_eq_true rfl) ?_
  intro p e s m args below meth c H Q hC hK hP hret ls hl
  obtain ⟨hx, hb, hml, hown, hts⟩ := id hC
  have hl : lv_has ls 3 [(0, .ref (a 0))] := hl
  refine lv_iconst (v := (nI (0))) hx hb dX0_colourCount_0 (by decide) ?_
  refine lv_istore_n (lv' := [(1, .int (nI (0))), (0, .ref (a 0))]) hx hb dX0_colourCount_1 rfl hl (by decide) rfl (fun ls hl => ?_)
  refine lv_iconst (v := (nI (0))) hx hb dX0_colourCount_2 (by decide) ?_
  refine lv_istore_n (lv' := [(2, .int (nI (0))), (1, .int (nI (0))), (0, .ref (a 0))]) hx hb dX0_colourCount_3 rfl hl (by decide) rfl (fun ls hl => ?_)
  have loop_4 : ∀ (fuel : Nat) (k : Nat), (k ≤ n) → n - k < fuel → ∀ (ls : Array Slot), lv_has ls 3 [(0, .ref (a 0)), (1, .int (nI (fb_ct (frst (rows cu)) k))), (2, .int (nI (k)))] → W p l e (k2_rm 1 22) s m args below meth c H [] 0 0 Q (F0 m 4 ls []) := by
    intro fuel
    induction fuel with
    | zero => intro k hk hm; exact absurd hm (Nat.not_lt_zero _)
    | succ fuel ih_4 =>
      intro k hk hm ls hl
      refine lv_iload_n hx hb dX0_colourCount_4 rfl (lv_at hl 2 rfl) ?_
      refine lv_aload_n hx hb dX0_colourCount_5 rfl (lv_at hl 0 rfl) ?_
      refine x_g5 hC hK hP dX0_colourCount_6 ?_
      refine nv_ge (tgt := 29) hx hb (by omega) (by omega) dX0_colourCount_9 (by decide) (fun c_9 => ?_) (fun c_9 => ?_)
      · refine lv_iload_n hx hb dX0_colourCount_29 rfl (lv_at hl 1 rfl) ?_
        exact hret _ _ _ dX0_colourCount_30 (by rw [show k = n by omega])
      · refine lv_aload_n hx hb dX0_colourCount_12 rfl (lv_at hl 0 rfl) ?_
        refine lv_iload_n hx hb dX0_colourCount_13 rfl (lv_at hl 2 rfl) ?_
        refine roV (As := [.int (nI (k))]) hC kX0_73 (cX_first k hn hcu (by omega)) hK hP (x_rec hK hP) rfl rfl hl ⟨Nat.le_of_ble_eq_true rfl, Nat.le_of_ble_eq_true rfl⟩ (Nat.le_of_ble_eq_true rfl) dX0_colourCount_14 ⟨Nat.le_of_ble_eq_true rfl, Nat.le_of_ble_eq_true rfl⟩ ?_
        refine bv_eq (tgt := 23) hx hb dX0_colourCount_17 (by decide) (fun c_17 => ?_) (fun c_17 => ?_)
        · rw [← fb_ct_f (p := frst (rows cu)) c_17] at hl
          refine lv_iinc (v := (nI (k + 1))) (lv' := [(2, .int (nI (k + 1))), (0, .ref (a 0)), (1, .int (nI (fb_ct (frst (rows cu)) (k + 1))))]) hx hb dX0_colourCount_23 hl (k := 2) rfl (nI_inc _) (by decide) rfl (fun ls hl => ?_)
          refine lv_goto (tgt := 4) hx hb dX0_colourCount_26 (by decide) ?_
          exact ih_4 (k + 1) (by omega) (by omega) ls (lv_sub hl [1, 2, 0] rfl)
        · refine lv_iinc (v := (nI (fb_ct (frst (rows cu)) (k + 1)))) (lv' := [(1, .int (nI (fb_ct (frst (rows cu)) (k + 1)))), (0, .ref (a 0)), (2, .int (nI (k)))]) hx hb dX0_colourCount_20 hl (k := 1) rfl (by rw [fb_ct_t c_17]; exact nI_inc _) (by decide) rfl (fun ls hl => ?_)
          refine lv_iinc (v := (nI (k + 1))) (lv' := [(2, .int (nI (k + 1))), (1, .int (nI (fb_ct (frst (rows cu)) (k + 1)))), (0, .ref (a 0))]) hx hb dX0_colourCount_23 hl (k := 2) rfl (nI_inc _) (by decide) rfl (fun ls hl => ?_)
          refine lv_goto (tgt := 4) hx hb dX0_colourCount_26 (by decide) ?_
          exact ih_4 (k + 1) (by omega) (by omega) ls (lv_sub hl [2, 1, 0] rfl)
  exact loop_4 (n - 0 + 1) 0 (Nat.zero_le _) (Nat.lt_succ_self _) ls (lv_sub hl [2, 1, 0] rfl)
set_option maxRecDepth 100000 in
set_option maxHeartbeats 4000000 in
theorem cJ_max {l : Launch} {E : EE}  (x y : Int32)  : RO l E ((fun _ => True)) yJ9_max_7cf53 cJ9_max_7cf53 2 (some .int) 0 0 [.int (x), .int (y)] (max32 x y) := by
  refine RO.mkF (C := RJ9) rfl rfl (by decide +kernel) rfl (Nat.le_of_ble_eq_true rfl) ?_
  intro p e s m args below meth c H Q hC hK hP hret ls hl
  obtain ⟨hx, hb, hml, hown, hts⟩ := id hC
  have hl : lv_has ls 2 [(0, .int (x)), (1, .int (y))] := hl
  refine lv_iload_n hx hb dJ9_max_7cf53_0 rfl (lv_at hl 0 rfl) ?_
  refine lv_iload_n hx hb dJ9_max_7cf53_1 rfl (lv_at hl 1 rfl) ?_
  refine lv_icmp_lt (tgt := 9) hx hb dJ9_max_7cf53_2 (by decide) (fun c_2 => ?_) (fun c_2 => ?_)
  · refine lv_iload_n hx hb dJ9_max_7cf53_9 rfl (lv_at hl 1 rfl) ?_
    exact hret _ _ _ dJ9_max_7cf53_10 (by simp [max32, c_2])
  · refine lv_iload_n hx hb dJ9_max_7cf53_5 rfl (lv_at hl 0 rfl) ?_
    refine lv_goto (tgt := 10) hx hb dJ9_max_7cf53_6 (by decide) ?_
    exact hret _ _ _ dJ9_max_7cf53_10 (by simp [max32, c_2])
set_option maxRecDepth 100000 in
set_option maxHeartbeats 4000000 in
theorem cX_greatest {l : Launch} {E : EE} {a : Nat → Nat} {ids : Nat → Int32} {par : Nat → Option Nat} {rows : Nat → Nat → Int32} {cu pr n rd : Nat}  (hn : n ≤ 24)(hcu : cu < 18) : RO l E (XP E a ids par rows cu pr n rd) yX0_greatestColour cX0_greatestColour 3 (some .int) 1 21 [.ref (a 0)] (mxF (rows cu) n) := by
  refine RO.mk (C := RX0) rfl rfl (by decide) rfl (Nat.le_of_ble_eq_true rfl) ?_
  intro p e s m args below meth c H Q hC hK hP hret ls hl
  obtain ⟨hx, hb, hml, hown, hts⟩ := id hC
  have hl : lv_has ls 3 [(0, .ref (a 0))] := hl
  refine lv_bipush (v := (-7)) hx hb dX0_greatestColour_0 (by decide) ?_
  refine lv_istore_n (lv' := [(1, .int (-7)), (0, .ref (a 0))]) hx hb dX0_greatestColour_2 rfl hl (by decide) rfl (fun ls hl => ?_)
  refine lv_iconst (v := (nI (0))) hx hb dX0_greatestColour_3 (by decide) ?_
  refine lv_istore_n (lv' := [(2, .int (nI (0))), (1, .int (-7)), (0, .ref (a 0))]) hx hb dX0_greatestColour_4 rfl hl (by decide) rfl (fun ls hl => ?_)
  have loop_5 : ∀ (fuel : Nat) (k : Nat), (k ≤ n) → n - k < fuel → ∀ (ls : Array Slot), lv_has ls 3 [(0, .ref (a 0)), (1, .int (mxF (rows cu) k)), (2, .int (nI (k)))] → W p l e (k2_rm 1 21) s m args below meth c H [] 0 0 Q (F0 m 5 ls []) := by
    intro fuel
    induction fuel with
    | zero => intro k hk hm; exact absurd hm (Nat.not_lt_zero _)
    | succ fuel ih_5 =>
      intro k hk hm ls hl
      refine lv_iload_n hx hb dX0_greatestColour_5 rfl (lv_at hl 2 rfl) ?_
      refine lv_aload_n hx hb dX0_greatestColour_6 rfl (lv_at hl 0 rfl) ?_
      refine x_g5 hC hK hP dX0_greatestColour_7 ?_
      refine nv_ge (tgt := 30) hx hb (by omega) (by omega) dX0_greatestColour_10 (by decide) (fun c_10 => ?_) (fun c_10 => ?_)
      · refine lv_iload_n hx hb dX0_greatestColour_30 rfl (lv_at hl 1 rfl) ?_
        exact hret _ _ _ dX0_greatestColour_31 (by rw [show k = n by omega])
      · refine lv_iload_n hx hb dX0_greatestColour_13 rfl (lv_at hl 1 rfl) ?_
        refine lv_aload_n hx hb dX0_greatestColour_14 rfl (lv_at hl 0 rfl) ?_
        refine x_g3 hC hK hP dX0_greatestColour_15 ?_
        refine lv_iload_n hx hb dX0_greatestColour_18 rfl (lv_at hl 2 rfl) ?_
        refine x_ldC (by omega) hx hb hK hP (by omega) dX0_greatestColour_19 ?_
        refine roS (As := [.int (mxF (rows cu) k), .int (rows cu k)]) hC kX0_76 (cJ_max ((mxF (rows cu) k)) ((rows cu k)) ) hK (P := fun _ => True) trivial rfl rfl hl ⟨Nat.le_of_ble_eq_true rfl, Nat.le_of_ble_eq_true rfl⟩ (Nat.le_of_ble_eq_true rfl) dX0_greatestColour_20 ⟨Nat.le_of_ble_eq_true rfl, Nat.le_of_ble_eq_true rfl⟩ ?_
        refine lv_istore_n (lv' := [(1, .int (max32 ((mxF (rows cu) k)) ((rows cu k)))), (0, .ref (a 0)), (2, .int (nI (k)))]) hx hb dX0_greatestColour_23 rfl hl (by decide) rfl (fun ls hl => ?_)
        refine lv_iinc (v := (nI (k + 1))) (lv' := [(2, .int (nI (k + 1))), (1, .int (max32 ((mxF (rows cu) k)) ((rows cu k)))), (0, .ref (a 0))]) hx hb dX0_greatestColour_24 hl (k := 2) rfl (nI_inc _) (by decide) rfl (fun ls hl => ?_)
        refine lv_goto (tgt := 5) hx hb dX0_greatestColour_27 (by decide) ?_
        exact ih_5 (k + 1) (by omega) (by omega) ls (lv_sub hl [2, 1, 0] rfl)
  exact loop_5 (n - 0 + 1) 0 (Nat.zero_le _) (Nat.lt_succ_self _) ls (lv_sub hl [2, 1, 0] rfl)
set_option maxRecDepth 100000 in
set_option maxHeartbeats 4000000 in
theorem cX_conf {l : Launch} {E : EE} {a : Nat → Nat} {ids : Nat → Int32} {par : Nat → Option Nat} {rows : Nat → Nat → Int32} {cu pr n rd : Nat} (v : Nat) (hn : n ≤ 24)(hcu : cu < 18)(hp : PW n par)(hv : v < n) : RO l E (XP E a ids par rows cu pr n rd) yX0_isInConflict cX0_isInConflict 2 (some .boolean) 2 42 [.ref (a 0), .int (nI (v))] (b2i (conf par (rows cu) v)) := by
  refine RO.mk (C := RX0) rfl (b2i_nar _) (by decide) rfl (Nat.le_of_ble_eq_true rfl) ?_
  intro p e s m args below meth c H Q hC hK hP hret ls hl
  obtain ⟨hx, hb, hml, hown, hts⟩ := id hC
  have hl : lv_has ls 2 [(0, .ref (a 0)), (1, .int (nI (v)))] := hl
  refine lv_aload_n hx hb dX0_isInConflict_0 rfl (lv_at hl 0 rfl) ?_
  refine lv_iload_n hx hb dX0_isInConflict_1 rfl (lv_at hl 1 rfl) ?_
  refine roV (As := [.int (nI (v))]) hC kX0_60 (cX_isRoot v hn hp (by omega)) hK hP (x_rec hK hP) rfl rfl hl ⟨Nat.le_of_ble_eq_true rfl, Nat.le_of_ble_eq_true rfl⟩ (Nat.le_of_ble_eq_true rfl) dX0_isInConflict_2 ⟨Nat.le_of_ble_eq_true rfl, Nat.le_of_ble_eq_true rfl⟩ ?_
  refine bv_ne (tgt := 32) hx hb dX0_isInConflict_5 (by decide) (fun c_5 => ?_) (fun c_5 => ?_)
  · refine lv_iconst (v := (0)) hx hb dX0_isInConflict_32 (by decide) ?_
    exact hret _ _ _ dX0_isInConflict_33 (by simp [conf, isNone_t c_5, b2i])
  · obtain ⟨u, hu⟩ := isNone_f c_5
    have hun := hp.lt hv hu
    refine lv_aload_n hx hb dX0_isInConflict_8 rfl (lv_at hl 0 rfl) ?_
    refine x_g3 hC hK hP dX0_isInConflict_9 ?_
    refine lv_iload_n hx hb dX0_isInConflict_12 rfl (lv_at hl 1 rfl) ?_
    refine x_ldC (by omega) hx hb hK hP (by omega) dX0_isInConflict_13 ?_
    refine lv_aload_n hx hb dX0_isInConflict_14 rfl (lv_at hl 0 rfl) ?_
    refine x_g3 hC hK hP dX0_isInConflict_15 ?_
    refine lv_aload_n hx hb dX0_isInConflict_18 rfl (lv_at hl 0 rfl) ?_
    refine x_g1 hC hK hP dX0_isInConflict_19 ?_
    refine lv_iload_n hx hb dX0_isInConflict_22 rfl (lv_at hl 1 rfl) ?_
    refine x_ldP hx hb hK hP (by omega) dX0_isInConflict_23 ?_
    refine tI ((nI (u))) (by rw [hu]; rfl) ?_
    refine x_ldC (by omega) hx hb hK hP (by omega) dX0_isInConflict_24 ?_
    refine lv_icmp_ne (tgt := 32) hx hb dX0_isInConflict_25 (by decide) (fun c_25 => ?_) (fun c_25 => ?_)
    · refine lv_iconst (v := (0)) hx hb dX0_isInConflict_32 (by decide) ?_
      exact hret _ _ _ dX0_isInConflict_33 (by simp [conf, hu, c_25, b2i])
    · refine lv_iconst (v := (1)) hx hb dX0_isInConflict_28 (by decide) ?_
      refine lv_goto (tgt := 33) hx hb dX0_isInConflict_29 (by decide) ?_
      exact hret _ _ _ dX0_isInConflict_33 (by simp [conf, hu, c_25, b2i])
set_option maxRecDepth 100000 in
set_option maxHeartbeats 4000000 in
theorem cX_conflictCount {l : Launch} {E : EE} {a : Nat → Nat} {ids : Nat → Int32} {par : Nat → Option Nat} {rows : Nat → Nat → Int32} {cu pr n rd : Nat}  (hn : n ≤ 24)(hcu : cu < 18)(hp : PW n par) : RO l E (XP E a ids par rows cu pr n rd) yX0_conflictCount cX0_conflictCount 3 (some .int) 3 63 [.ref (a 0)] (nI (fb_ct (conf par (rows cu)) n)) := by
  refine RO.mk (C := RX0) rfl rfl (by decide) rfl (Nat.le_of_ble_eq_true rfl) ?_
  intro p e s m args below meth c H Q hC hK hP hret ls hl
  obtain ⟨hx, hb, hml, hown, hts⟩ := id hC
  have hl : lv_has ls 3 [(0, .ref (a 0))] := hl
  refine lv_iconst (v := (nI (0))) hx hb dX0_conflictCount_0 (by decide) ?_
  refine lv_istore_n (lv' := [(1, .int (nI (0))), (0, .ref (a 0))]) hx hb dX0_conflictCount_1 rfl hl (by decide) rfl (fun ls hl => ?_)
  refine lv_iconst (v := (nI (0))) hx hb dX0_conflictCount_2 (by decide) ?_
  refine lv_istore_n (lv' := [(2, .int (nI (0))), (1, .int (nI (0))), (0, .ref (a 0))]) hx hb dX0_conflictCount_3 rfl hl (by decide) rfl (fun ls hl => ?_)
  have loop_4 : ∀ (fuel : Nat) (k : Nat), (k ≤ n) → n - k < fuel → ∀ (ls : Array Slot), lv_has ls 3 [(0, .ref (a 0)), (1, .int (nI (fb_ct (conf par (rows cu)) k))), (2, .int (nI (k)))] → W p l e (k2_rm 3 63) s m args below meth c H [] 0 0 Q (F0 m 4 ls []) := by
    intro fuel
    induction fuel with
    | zero => intro k hk hm; exact absurd hm (Nat.not_lt_zero _)
    | succ fuel ih_4 =>
      intro k hk hm ls hl
      refine lv_iload_n hx hb dX0_conflictCount_4 rfl (lv_at hl 2 rfl) ?_
      refine lv_aload_n hx hb dX0_conflictCount_5 rfl (lv_at hl 0 rfl) ?_
      refine x_g5 hC hK hP dX0_conflictCount_6 ?_
      refine nv_ge (tgt := 29) hx hb (by omega) (by omega) dX0_conflictCount_9 (by decide) (fun c_9 => ?_) (fun c_9 => ?_)
      · refine lv_iload_n hx hb dX0_conflictCount_29 rfl (lv_at hl 1 rfl) ?_
        exact hret _ _ _ dX0_conflictCount_30 (by rw [show k = n by omega])
      · refine lv_aload_n hx hb dX0_conflictCount_12 rfl (lv_at hl 0 rfl) ?_
        refine lv_iload_n hx hb dX0_conflictCount_13 rfl (lv_at hl 2 rfl) ?_
        refine roV (As := [.int (nI (k))]) hC kX0_81 (cX_conf k hn hcu hp (by omega)) hK hP (x_rec hK hP) rfl rfl hl ⟨Nat.le_of_ble_eq_true rfl, Nat.le_of_ble_eq_true rfl⟩ (Nat.le_of_ble_eq_true rfl) dX0_conflictCount_14 ⟨Nat.le_of_ble_eq_true rfl, Nat.le_of_ble_eq_true rfl⟩ ?_
        refine bv_eq (tgt := 23) hx hb dX0_conflictCount_17 (by decide) (fun c_17 => ?_) (fun c_17 => ?_)
        · rw [← fb_ct_f (p := conf par (rows cu)) c_17] at hl
          refine lv_iinc (v := (nI (k + 1))) (lv' := [(2, .int (nI (k + 1))), (0, .ref (a 0)), (1, .int (nI (fb_ct (conf par (rows cu)) (k + 1))))]) hx hb dX0_conflictCount_23 hl (k := 2) rfl (nI_inc _) (by decide) rfl (fun ls hl => ?_)
          refine lv_goto (tgt := 4) hx hb dX0_conflictCount_26 (by decide) ?_
          exact ih_4 (k + 1) (by omega) (by omega) ls (lv_sub hl [1, 2, 0] rfl)
        · refine lv_iinc (v := (nI (fb_ct (conf par (rows cu)) (k + 1)))) (lv' := [(1, .int (nI (fb_ct (conf par (rows cu)) (k + 1)))), (0, .ref (a 0)), (2, .int (nI (k)))]) hx hb dX0_conflictCount_20 hl (k := 1) rfl (by rw [fb_ct_t c_17]; exact nI_inc _) (by decide) rfl (fun ls hl => ?_)
          refine lv_iinc (v := (nI (k + 1))) (lv' := [(2, .int (nI (k + 1))), (1, .int (nI (fb_ct (conf par (rows cu)) (k + 1)))), (0, .ref (a 0))]) hx hb dX0_conflictCount_23 hl (k := 2) rfl (nI_inc _) (by decide) rfl (fun ls hl => ?_)
          refine lv_goto (tgt := 4) hx hb dX0_conflictCount_26 (by decide) ?_
          exact ih_4 (k + 1) (by omega) (by omega) ls (lv_sub hl [2, 1, 0] rfl)
  exact loop_4 (n - 0 + 1) 0 (Nat.zero_le _) (Nat.lt_succ_self _) ls (lv_sub hl [2, 1, 0] rfl)
set_option maxRecDepth 100000 in
set_option maxHeartbeats 4000000 in
theorem cX_proper {l : Launch} {E : EE} {a : Nat → Nat} {ids : Nat → Int32} {par : Nat → Option Nat} {rows : Nat → Nat → Int32} {cu pr n rd : Nat}  (hn : n ≤ 24)(hcu : cu < 18)(hp : PW n par) : RO l E (XP E a ids par rows cu pr n rd) yX0_isProper cX0_isProper 1 (some .boolean) 4 85 [.ref (a 0)] (b2i (propB n par (rows cu))) := by
  refine RO.mk (C := RX0) rfl (b2i_nar _) (by decide) rfl (Nat.le_of_ble_eq_true rfl) ?_
  intro p e s m args below meth c H Q hC hK hP hret ls hl
  obtain ⟨hx, hb, hml, hown, hts⟩ := id hC
  have hl : lv_has ls 1 [(0, .ref (a 0))] := hl
  have hle := fb_ct_le (conf par (rows cu)) n
  refine lv_aload_n hx hb dX0_isProper_0 rfl (lv_at hl 0 rfl) ?_
  refine roV (As := []) hC kX0_117 (cX_conflictCount  hn hcu hp) hK hP (x_rec hK hP) rfl rfl hl ⟨Nat.le_of_ble_eq_true rfl, Nat.le_of_ble_eq_true rfl⟩ (Nat.le_of_ble_eq_true rfl) dX0_isProper_1 ⟨Nat.le_of_ble_eq_true rfl, Nat.le_of_ble_eq_true rfl⟩ ?_
  refine lv_if_ne (tgt := 11) hx hb dX0_isProper_4 (by decide) (fun c_4 => ?_) (fun c_4 => ?_)
  · refine lv_iconst (v := (0)) hx hb dX0_isProper_11 (by decide) ?_
    exact hret _ _ _ dX0_isProper_12 (by rw [nI_z (by omega)] at c_4; simp [propB, c_4, b2i])
  · refine lv_iconst (v := (1)) hx hb dX0_isProper_7 (by decide) ?_
    refine lv_goto (tgt := 12) hx hb dX0_isProper_8 (by decide) ?_
    exact hret _ _ _ dX0_isProper_12 (by rw [nI_z (by omega)] at c_4; simp [propB, c_4, b2i])
set_option maxRecDepth 100000 in
set_option maxHeartbeats 4000000 in
theorem cX_has {l : Launch} {E : EE} {a : Nat → Nat} {ids : Nat → Int32} {par : Nat → Option Nat} {rows : Nat → Nat → Int32} {cu pr n rd : Nat} (v : Nat) (c0 : Int32) (hn : n ≤ 24)(hcu : cu < 18)(hp : PW n par)(hv : v < n) : RO l E (XP E a ids par rows cu pr n rd) yX0_hasNeighbourOfColour cX0_hasNeighbourOfColour 4 (some .boolean) 1 22 [.ref (a 0), .int (nI (v)), .int (c0)] (b2i (bes par (rows cu) n v c0)) := by
  refine RO.mk (C := RX0) rfl (b2i_nar _) (by decide) rfl (Nat.le_of_ble_eq_true rfl) ?_
  intro p e s m args below meth c H Q hC hK hP hret ls hl
  obtain ⟨hx, hb, hml, hown, hts⟩ := id hC
  have hl : lv_has ls 4 [(0, .ref (a 0)), (1, .int (nI (v))), (2, .int (c0))] := hl
  refine lv_iconst (v := (nI (0))) hx hb dX0_hasNeighbourOfColour_0 (by decide) ?_
  refine lv_istore_n (lv' := [(3, .int (nI (0))), (0, .ref (a 0)), (1, .int (nI (v))), (2, .int (c0))]) hx hb dX0_hasNeighbourOfColour_1 rfl hl (by decide) rfl (fun ls hl => ?_)
  have loop_2 : ∀ (fuel : Nat) (k : Nat), (k ≤ n) → (∀ j, j < k → (nb par v j && decide (rows cu j = c0)) = false) → n - k < fuel → ∀ (ls : Array Slot), lv_has ls 4 [(0, .ref (a 0)), (1, .int (nI (v))), (2, .int (c0)), (3, .int (nI (k)))] → W p l e (k2_rm 1 22) s m args below meth c H [] 0 0 Q (F0 m 2 ls []) := by
    intro fuel
    induction fuel with
    | zero => intro k hk hno hm; exact absurd hm (Nat.not_lt_zero _)
    | succ fuel ih_2 =>
      intro k hk hno hm ls hl
      refine lv_iload_n hx hb dX0_hasNeighbourOfColour_2 rfl (lv_at hl 3 rfl) ?_
      refine lv_aload_n hx hb dX0_hasNeighbourOfColour_3 rfl (lv_at hl 0 rfl) ?_
      refine x_g5 hC hK hP dX0_hasNeighbourOfColour_4 ?_
      refine nv_ge (tgt := 37) hx hb (by omega) (by omega) dX0_hasNeighbourOfColour_7 (by decide) (fun c_7 => ?_) (fun c_7 => ?_)
      · refine lv_iconst (v := (0)) hx hb dX0_hasNeighbourOfColour_37 (by decide) ?_
        exact hret _ _ _ dX0_hasNeighbourOfColour_38 (by rw [bes, anyB_no (fun j hj => hno j (by omega))]; rfl)
      · refine lv_aload_n hx hb dX0_hasNeighbourOfColour_10 rfl (lv_at hl 0 rfl) ?_
        refine x_g3 hC hK hP dX0_hasNeighbourOfColour_11 ?_
        refine lv_iload_n hx hb dX0_hasNeighbourOfColour_14 rfl (lv_at hl 3 rfl) ?_
        refine x_ldC (by omega) hx hb hK hP (by omega) dX0_hasNeighbourOfColour_15 ?_
        refine lv_iload_n hx hb dX0_hasNeighbourOfColour_16 rfl (lv_at hl 2 rfl) ?_
        refine lv_icmp_ne (tgt := 31) hx hb dX0_hasNeighbourOfColour_17 (by decide) (fun c_17 => ?_) (fun c_17 => ?_)
        · refine lv_iinc (v := (nI (k + 1))) (lv' := [(3, .int (nI (k + 1))), (0, .ref (a 0)), (1, .int (nI (v))), (2, .int (c0))]) hx hb dX0_hasNeighbourOfColour_31 hl (k := 3) rfl (nI_inc _) (by decide) rfl (fun ls hl => ?_)
          refine lv_goto (tgt := 2) hx hb dX0_hasNeighbourOfColour_34 (by decide) ?_
          exact ih_2 (k + 1) (by omega) (lt_s hno (by simp [c_17])) (by omega) ls (lv_sub hl [1, 2, 3, 0] rfl)
        · refine lv_aload_n hx hb dX0_hasNeighbourOfColour_20 rfl (lv_at hl 0 rfl) ?_
          refine lv_iload_n hx hb dX0_hasNeighbourOfColour_21 rfl (lv_at hl 1 rfl) ?_
          refine lv_iload_n hx hb dX0_hasNeighbourOfColour_22 rfl (lv_at hl 3 rfl) ?_
          refine roV (As := [.int (nI (v)), .int (nI (k))]) hC kX0_111 (cX_nb v k hn hp (by omega) (by omega)) hK hP (x_rec hK hP) rfl rfl hl ⟨Nat.le_of_ble_eq_true rfl, Nat.le_of_ble_eq_true rfl⟩ (Nat.le_of_ble_eq_true rfl) dX0_hasNeighbourOfColour_23 ⟨Nat.le_of_ble_eq_true rfl, Nat.le_of_ble_eq_true rfl⟩ ?_
          refine bv_eq (tgt := 31) hx hb dX0_hasNeighbourOfColour_26 (by decide) (fun c_26 => ?_) (fun c_26 => ?_)
          · refine lv_iinc (v := (nI (k + 1))) (lv' := [(3, .int (nI (k + 1))), (0, .ref (a 0)), (1, .int (nI (v))), (2, .int (c0))]) hx hb dX0_hasNeighbourOfColour_31 hl (k := 3) rfl (nI_inc _) (by decide) rfl (fun ls hl => ?_)
            refine lv_goto (tgt := 2) hx hb dX0_hasNeighbourOfColour_34 (by decide) ?_
            exact ih_2 (k + 1) (by omega) (lt_s hno (by simp [c_26])) (by omega) ls (lv_sub hl [1, 2, 3, 0] rfl)
          · refine lv_iconst (v := (1)) hx hb dX0_hasNeighbourOfColour_29 (by decide) ?_
            exact hret _ _ _ dX0_hasNeighbourOfColour_30 (by rw [bes, anyB_yes (k := k) (by omega) (by simp [c_17, c_26])]; rfl)
  exact loop_2 (n - 0 + 1) 0 (Nat.zero_le _) (lt_0) (Nat.lt_succ_self _) ls (lv_sub hl [1, 2, 3, 0] rfl)
set_option maxRecDepth 100000 in
set_option maxHeartbeats 4000000 in
theorem cX_lowest {l : Launch} {E : EE} {a : Nat → Nat} {ids : Nat → Int32} {par : Nat → Option Nat} {rows : Nat → Nat → Int32} {cu pr n rd : Nat} (v lim : Nat) (hn : n ≤ 24)(hcu : cu < 18)(hp : PW n par)(hv : v < n)(hlm : lim ≤ 24) : RO l E (XP E a ids par rows cu pr n rd) yX0_lowestFreeColour cX0_lowestFreeColour 4 (some .int) 2 45 [.ref (a 0), .int (nI (v)), .int (nI (lim))] (pe (freF par (rows cu) n v lim)) := by
  refine RO.mk (C := RX0) rfl rfl (by decide) rfl (Nat.le_of_ble_eq_true rfl) ?_
  intro p e s m args below meth c H Q hC hK hP hret ls hl
  obtain ⟨hx, hb, hml, hown, hts⟩ := id hC
  have hl : lv_has ls 4 [(0, .ref (a 0)), (1, .int (nI (v))), (2, .int (nI (lim)))] := hl
  refine lv_iconst (v := (nI (0))) hx hb dX0_lowestFreeColour_0 (by decide) ?_
  refine lv_istore_n (lv' := [(3, .int (nI (0))), (0, .ref (a 0)), (1, .int (nI (v))), (2, .int (nI (lim)))]) hx hb dX0_lowestFreeColour_1 rfl hl (by decide) rfl (fun ls hl => ?_)
  have loop_2 : ∀ (fuel : Nat) (k : Nat), (k ≤ lim) → (∀ j, j < k → (!bes par (rows cu) n v (nI j)) = false) → lim - k < fuel → ∀ (ls : Array Slot), lv_has ls 4 [(0, .ref (a 0)), (1, .int (nI (v))), (2, .int (nI (lim))), (3, .int (nI (k)))] → W p l e (k2_rm 2 45) s m args below meth c H [] 0 0 Q (F0 m 2 ls []) := by
    intro fuel
    induction fuel with
    | zero => intro k hk hno hm; exact absurd hm (Nat.not_lt_zero _)
    | succ fuel ih_2 =>
      intro k hk hno hm ls hl
      refine lv_iload_n hx hb dX0_lowestFreeColour_2 rfl (lv_at hl 3 rfl) ?_
      refine lv_iload_n hx hb dX0_lowestFreeColour_3 rfl (lv_at hl 2 rfl) ?_
      refine nv_ge (tgt := 24) hx hb (by omega) (by omega) dX0_lowestFreeColour_4 (by decide) (fun c_4 => ?_) (fun c_4 => ?_)
      · refine lv_bipush (v := (-7)) hx hb dX0_lowestFreeColour_24 (by decide) ?_
        exact hret _ _ _ dX0_lowestFreeColour_26 (by rw [freF, fst_none (fun j hj => hno j (by omega))]; rfl)
      · refine lv_aload_n hx hb dX0_lowestFreeColour_7 rfl (lv_at hl 0 rfl) ?_
        refine lv_iload_n hx hb dX0_lowestFreeColour_8 rfl (lv_at hl 1 rfl) ?_
        refine lv_iload_n hx hb dX0_lowestFreeColour_9 rfl (lv_at hl 3 rfl) ?_
        refine roV (As := [.int (nI (v)), .int (nI (k))]) hC kX0_120 (cX_has v ((nI (k))) hn hcu hp (by omega)) hK hP (x_rec hK hP) rfl rfl hl ⟨Nat.le_of_ble_eq_true rfl, Nat.le_of_ble_eq_true rfl⟩ (Nat.le_of_ble_eq_true rfl) dX0_lowestFreeColour_10 ⟨Nat.le_of_ble_eq_true rfl, Nat.le_of_ble_eq_true rfl⟩ ?_
        refine bv_ne (tgt := 18) hx hb dX0_lowestFreeColour_13 (by decide) (fun c_13 => ?_) (fun c_13 => ?_)
        · refine lv_iinc (v := (nI (k + 1))) (lv' := [(3, .int (nI (k + 1))), (0, .ref (a 0)), (1, .int (nI (v))), (2, .int (nI (lim)))]) hx hb dX0_lowestFreeColour_18 hl (k := 3) rfl (nI_inc _) (by decide) rfl (fun ls hl => ?_)
          refine lv_goto (tgt := 2) hx hb dX0_lowestFreeColour_21 (by decide) ?_
          exact ih_2 (k + 1) (by omega) (lt_s hno (by rw [c_13]; rfl)) (by omega) ls (lv_sub hl [1, 2, 3, 0] rfl)
        · refine lv_iload_n hx hb dX0_lowestFreeColour_16 rfl (lv_at hl 3 rfl) ?_
          exact hret _ _ _ dX0_lowestFreeColour_17 (by rw [freF, fst_some (k := k) (by omega) (by rw [c_13]; rfl) hno]; rfl)
  exact loop_2 (lim - 0 + 1) 0 (Nat.zero_le _) (lt_0) (Nat.lt_succ_self _) ls (lv_sub hl [1, 2, 3, 0] rfl)
set_option maxRecDepth 100000 in
set_option maxHeartbeats 4000000 in
theorem cX_rowAfter {l : Launch} {E : EE} {a : Nat → Nat} {ids : Nat → Int32} {par : Nat → Option Nat} {rows : Nat → Nat → Int32} {cu pr n rd : Nat}  (hpr : pr < 18) : RO l E (XP E a ids par rows cu pr n rd) yX0_rowAfterPresent cX0_rowAfterPresent 1 (some .int) 0 0 [.ref (a 0)] (nI (nxR pr)) := by
  refine RO.mk (C := RX0) rfl rfl (by decide) rfl (Nat.le_of_ble_eq_true rfl) ?_
  intro p e s m args below meth c H Q hC hK hP hret ls hl
  obtain ⟨hx, hb, hml, hown, hts⟩ := id hC
  have hl : lv_has ls 1 [(0, .ref (a 0))] := hl
  refine lv_aload_n hx hb dX0_rowAfterPresent_0 rfl (lv_at hl 0 rfl) ?_
  refine x_g4 hC hK hP dX0_rowAfterPresent_1 ?_
  refine lv_iconst (v := (1)) hx hb dX0_rowAfterPresent_4 (by decide) ?_
  refine lv_iadd hx hb dX0_rowAfterPresent_5 ?_
  refine tI (nI (pr + 1)) (nI_1 _) ?_
  refine lv_bipush (v := (nI (18))) hx hb dX0_rowAfterPresent_6 (by decide) ?_
  refine nv_ge (tgt := 20) hx hb (by omega) (by omega) dX0_rowAfterPresent_8 (by decide) (fun c_8 => ?_) (fun c_8 => ?_)
  · refine lv_iconst (v := (nI (0))) hx hb dX0_rowAfterPresent_20 (by decide) ?_
    exact hret _ _ _ dX0_rowAfterPresent_21 (by simp [nxR, show ¬ pr + 1 < 18 by omega])
  · refine lv_aload_n hx hb dX0_rowAfterPresent_11 rfl (lv_at hl 0 rfl) ?_
    refine x_g4 hC hK hP dX0_rowAfterPresent_12 ?_
    refine lv_iconst (v := (1)) hx hb dX0_rowAfterPresent_15 (by decide) ?_
    refine lv_iadd hx hb dX0_rowAfterPresent_16 ?_
    refine tI (nI (pr + 1)) (nI_1 _) ?_
    refine lv_goto (tgt := 21) hx hb dX0_rowAfterPresent_17 (by decide) ?_
    exact hret _ _ _ dX0_rowAfterPresent_21 (by simp [nxR, show pr + 1 < 18 by omega])
set_option maxRecDepth 100000 in
set_option maxHeartbeats 4000000 in
theorem cX_shifted {l : Launch} {E : EE} {a : Nat → Nat} {ids : Nat → Int32} {par : Nat → Option Nat} {rows : Nat → Nat → Int32} {cu pr n rd : Nat} (v : Nat) (hn : n ≤ 24)(hcu : cu < 18)(hp : PW n par)(hv : v < n) : RO l E (XP E a ids par rows cu pr n rd) yX0_shiftedColour cX0_shiftedColour 2 (some .int) 2 42 [.ref (a 0), .int (nI (v))] (shc par (rows cu) v) := by
  refine RO.mk (C := RX0) rfl rfl (by decide) rfl (Nat.le_of_ble_eq_true rfl) ?_
  intro p e s m args below meth c H Q hC hK hP hret ls hl
  obtain ⟨hx, hb, hml, hown, hts⟩ := id hC
  have hl : lv_has ls 2 [(0, .ref (a 0)), (1, .int (nI (v)))] := hl
  refine lv_aload_n hx hb dX0_shiftedColour_0 rfl (lv_at hl 0 rfl) ?_
  refine lv_iload_n hx hb dX0_shiftedColour_1 rfl (lv_at hl 1 rfl) ?_
  refine roV (As := [.int (nI (v))]) hC kX0_60 (cX_isRoot v hn hp (by omega)) hK hP (x_rec hK hP) rfl rfl hl ⟨Nat.le_of_ble_eq_true rfl, Nat.le_of_ble_eq_true rfl⟩ (Nat.le_of_ble_eq_true rfl) dX0_shiftedColour_2 ⟨Nat.le_of_ble_eq_true rfl, Nat.le_of_ble_eq_true rfl⟩ ?_
  refine bv_ne (tgt := 20) hx hb dX0_shiftedColour_5 (by decide) (fun c_5 => ?_) (fun c_5 => ?_)
  · refine lv_aload_n hx hb dX0_shiftedColour_20 rfl (lv_at hl 0 rfl) ?_
    refine x_g3 hC hK hP dX0_shiftedColour_21 ?_
    refine lv_iload_n hx hb dX0_shiftedColour_24 rfl (lv_at hl 1 rfl) ?_
    refine x_ldC (by omega) hx hb hK hP (by omega) dX0_shiftedColour_25 ?_
    refine lv_if_ne (tgt := 33) hx hb dX0_shiftedColour_26 (by decide) (fun c_26 => ?_) (fun c_26 => ?_)
    · refine lv_iconst (v := (0)) hx hb dX0_shiftedColour_33 (by decide) ?_
      exact hret _ _ _ dX0_shiftedColour_34 (by simp [shc, isNone_t c_5, c_26])
    · refine lv_iconst (v := (1)) hx hb dX0_shiftedColour_29 (by decide) ?_
      refine lv_goto (tgt := 34) hx hb dX0_shiftedColour_30 (by decide) ?_
      exact hret _ _ _ dX0_shiftedColour_34 (by simp [shc, isNone_t c_5, c_26])
  · obtain ⟨u, hu⟩ := isNone_f c_5
    have hun := hp.lt hv hu
    refine lv_aload_n hx hb dX0_shiftedColour_8 rfl (lv_at hl 0 rfl) ?_
    refine x_g3 hC hK hP dX0_shiftedColour_9 ?_
    refine lv_aload_n hx hb dX0_shiftedColour_12 rfl (lv_at hl 0 rfl) ?_
    refine x_g1 hC hK hP dX0_shiftedColour_13 ?_
    refine lv_iload_n hx hb dX0_shiftedColour_16 rfl (lv_at hl 1 rfl) ?_
    refine x_ldP hx hb hK hP (by omega) dX0_shiftedColour_17 ?_
    refine tI ((nI (u))) (by rw [hu]; rfl) ?_
    refine x_ldC (by omega) hx hb hK hP (by omega) dX0_shiftedColour_18 ?_
    exact hret _ _ _ dX0_shiftedColour_19 (by simp [shc, hu])
set_option maxRecDepth 100000 in
set_option maxHeartbeats 4000000 in
theorem cX_next {l : Launch} {E : EE} {a : Nat → Nat} {ids : Nat → Int32} {par : Nat → Option Nat} {rows : Nat → Nat → Int32} {cu pr n rd : Nat} (w : Nat → Bool) (hn : n ≤ 24)(hcu : cu < 18) : RO l E (XP E a ids par rows cu pr n rd) yX0_nextToVisit cX0_nextToVisit 4 (some .int) 1 21 [.ref (a 0), .int (mk n (w))] (pe (nvF (rows cu) w n)) := by
  refine RO.mk (C := RX0) rfl rfl (by decide) rfl (Nat.le_of_ble_eq_true rfl) ?_
  intro p e s m args below meth c H Q hC hK hP hret ls hl
  obtain ⟨hx, hb, hml, hown, hts⟩ := id hC
  have hl : lv_has ls 4 [(0, .ref (a 0)), (1, .int (mk n (w)))] := hl
  refine lv_bipush (v := (pe (none))) hx hb dX0_nextToVisit_0 (by decide) ?_
  refine lv_istore_n (lv' := [(2, .int (pe (none))), (0, .ref (a 0)), (1, .int (mk n (w)))]) hx hb dX0_nextToVisit_2 rfl hl (by decide) rfl (fun ls hl => ?_)
  refine lv_iconst (v := (nI (0))) hx hb dX0_nextToVisit_3 (by decide) ?_
  refine lv_istore_n (lv' := [(3, .int (nI (0))), (2, .int (pe (none))), (0, .ref (a 0)), (1, .int (mk n (w)))]) hx hb dX0_nextToVisit_4 rfl hl (by decide) rfl (fun ls hl => ?_)
  have loop_5 : ∀ (fuel : Nat) (k : Nat), (k ≤ n) → n - k < fuel → ∀ (ls : Array Slot), lv_has ls 4 [(0, .ref (a 0)), (1, .int (mk n (w))), (2, .int (pe (nvF (rows cu) w k))), (3, .int (nI (k)))] → W p l e (k2_rm 1 21) s m args below meth c H [] 0 0 Q (F0 m 5 ls []) := by
    intro fuel
    induction fuel with
    | zero => intro k hk hm; exact absurd hm (Nat.not_lt_zero _)
    | succ fuel ih_5 =>
      intro k hk hm ls hl
      refine lv_iload_n hx hb dX0_nextToVisit_5 rfl (lv_at hl 3 rfl) ?_
      refine lv_aload_n hx hb dX0_nextToVisit_6 rfl (lv_at hl 0 rfl) ?_
      refine x_g5 hC hK hP dX0_nextToVisit_7 ?_
      refine nv_ge (tgt := 50) hx hb (by omega) (by omega) dX0_nextToVisit_10 (by decide) (fun c_10 => ?_) (fun c_10 => ?_)
      · refine lv_iload_n hx hb dX0_nextToVisit_50 rfl (lv_at hl 2 rfl) ?_
        exact hret _ _ _ dX0_nextToVisit_51 (by rw [show k = n by omega])
      · refine lv_iload_n hx hb dX0_nextToVisit_13 rfl (lv_at hl 1 rfl) ?_
        refine lv_iload_n hx hb dX0_nextToVisit_14 rfl (lv_at hl 3 rfl) ?_
        refine roS (As := [.int (mk n (w)), .int (nI (k))]) hC kX0_63 (cX_isIn w k hn (by omega)) hK (P := fun _ => True) trivial rfl rfl hl ⟨Nat.le_of_ble_eq_true rfl, Nat.le_of_ble_eq_true rfl⟩ (Nat.le_of_ble_eq_true rfl) dX0_nextToVisit_15 ⟨Nat.le_of_ble_eq_true rfl, Nat.le_of_ble_eq_true rfl⟩ ?_
        refine bv_ne (tgt := 44) hx hb dX0_nextToVisit_18 (by decide) (fun c_18 => ?_) (fun c_18 => ?_)
        · rw [← nvF_in (col := rows cu) c_18] at hl
          refine lv_iinc (v := (nI (k + 1))) (lv' := [(3, .int (nI (k + 1))), (0, .ref (a 0)), (1, .int (mk n (w))), (2, .int (pe (nvF (rows cu) w (k + 1))))]) hx hb dX0_nextToVisit_44 hl (k := 3) rfl (nI_inc _) (by decide) rfl (fun ls hl => ?_)
          refine lv_goto (tgt := 5) hx hb dX0_nextToVisit_47 (by decide) ?_
          exact ih_5 (k + 1) (by omega) (by omega) ls (lv_sub hl [1, 2, 3, 0] rfl)
        · refine lv_iload_n hx hb dX0_nextToVisit_21 rfl (lv_at hl 2 rfl) ?_
          refine lv_bipush (v := (-7)) hx hb dX0_nextToVisit_22 (by decide) ?_
          refine pv_eq7 (tgt := 42) hx hb (fun u hu => by have := (nvF_lt hu).1; omega) dX0_nextToVisit_24 (by decide) (fun c_24 => ?_) (fun c_24 => ?_)
          · refine lv_iload_n hx hb dX0_nextToVisit_42 rfl (lv_at hl 3 rfl) ?_
            refine tI ((pe (nvF (rows cu) w (k + 1)))) (by rw [nvF_first c_18 c_24]; rfl) ?_
            refine lv_istore_n (lv' := [(2, .int (pe (nvF (rows cu) w (k + 1)))), (0, .ref (a 0)), (1, .int (mk n (w))), (3, .int (nI (k)))]) hx hb dX0_nextToVisit_43 rfl hl (by decide) rfl (fun ls hl => ?_)
            refine lv_iinc (v := (nI (k + 1))) (lv' := [(3, .int (nI (k + 1))), (2, .int (pe (nvF (rows cu) w (k + 1)))), (0, .ref (a 0)), (1, .int (mk n (w)))]) hx hb dX0_nextToVisit_44 hl (k := 3) rfl (nI_inc _) (by decide) rfl (fun ls hl => ?_)
            refine lv_goto (tgt := 5) hx hb dX0_nextToVisit_47 (by decide) ?_
            exact ih_5 (k + 1) (by omega) (by omega) ls (lv_sub hl [2, 3, 1, 0] rfl)
          · obtain ⟨j, hj⟩ := ex_some c_24
            have hjk := (nvF_lt hj).1
            refine lv_aload_n hx hb dX0_nextToVisit_27 rfl (lv_at hl 0 rfl) ?_
            refine x_g3 hC hK hP dX0_nextToVisit_28 ?_
            refine lv_iload_n hx hb dX0_nextToVisit_31 rfl (lv_at hl 3 rfl) ?_
            refine x_ldC (by omega) hx hb hK hP (by omega) dX0_nextToVisit_32 ?_
            refine lv_aload_n hx hb dX0_nextToVisit_33 rfl (lv_at hl 0 rfl) ?_
            refine x_g3 hC hK hP dX0_nextToVisit_34 ?_
            refine lv_iload_n hx hb dX0_nextToVisit_37 rfl (lv_at hl 2 rfl) ?_
            refine tI ((nI (j))) (by rw [hj]; rfl) ?_
            refine x_ldC (by omega) hx hb hK hP (by omega) dX0_nextToVisit_38 ?_
            refine lv_icmp_ge (tgt := 44) hx hb dX0_nextToVisit_39 (by decide) (fun c_39 => ?_) (fun c_39 => ?_)
            · rw [← nvF_ge c_18 hj (Int32.not_lt.mpr c_39)] at hl
              refine lv_iinc (v := (nI (k + 1))) (lv' := [(3, .int (nI (k + 1))), (0, .ref (a 0)), (1, .int (mk n (w))), (2, .int (pe (nvF (rows cu) w (k + 1))))]) hx hb dX0_nextToVisit_44 hl (k := 3) rfl (nI_inc _) (by decide) rfl (fun ls hl => ?_)
              refine lv_goto (tgt := 5) hx hb dX0_nextToVisit_47 (by decide) ?_
              exact ih_5 (k + 1) (by omega) (by omega) ls (lv_sub hl [1, 2, 3, 0] rfl)
            · refine lv_iload_n hx hb dX0_nextToVisit_42 rfl (lv_at hl 3 rfl) ?_
              refine tI ((pe (nvF (rows cu) w (k + 1)))) (by rw [nvF_lt' c_18 hj (Int32.not_le.mp c_39)]; rfl) ?_
              refine lv_istore_n (lv' := [(2, .int (pe (nvF (rows cu) w (k + 1)))), (0, .ref (a 0)), (1, .int (mk n (w))), (3, .int (nI (k)))]) hx hb dX0_nextToVisit_43 rfl hl (by decide) rfl (fun ls hl => ?_)
              refine lv_iinc (v := (nI (k + 1))) (lv' := [(3, .int (nI (k + 1))), (2, .int (pe (nvF (rows cu) w (k + 1)))), (0, .ref (a 0)), (1, .int (mk n (w)))]) hx hb dX0_nextToVisit_44 hl (k := 3) rfl (nI_inc _) (by decide) rfl (fun ls hl => ?_)
              refine lv_goto (tgt := 5) hx hb dX0_nextToVisit_47 (by decide) ?_
              exact ih_5 (k + 1) (by omega) (by omega) ls (lv_sub hl [2, 3, 1, 0] rfl)
  exact loop_5 (n - 0 + 1) 0 (Nat.zero_le _) (Nat.lt_succ_self _) ls (lv_sub hl [2, 3, 1, 0] rfl)
set_option maxRecDepth 100000 in
set_option maxHeartbeats 4000000 in
theorem cX_roundCount {l : Launch} {E : EE} {a : Nat → Nat} {ids : Nat → Int32} {par : Nat → Option Nat} {rows : Nat → Nat → Int32} {cu pr n rd : Nat}   : RO l E (XP E a ids par rows cu pr n rd) yX0_roundCount cX0_roundCount 1 (some .int) 0 0 [.ref (a 0)] (nI (rd)) := by
  refine RO.mk (C := RX0) rfl rfl (by decide) rfl (Nat.le_of_ble_eq_true rfl) ?_
  intro p e s m args below meth c H Q hC hK hP hret ls hl
  obtain ⟨hx, hb, hml, hown, hts⟩ := id hC
  have hl : lv_has ls 1 [(0, .ref (a 0))] := hl
  refine lv_aload_n hx hb dX0_roundCount_0 rfl (lv_at hl 0 rfl) ?_
  refine x_g6 hC hK hP dX0_roundCount_1 ?_
  exact hret _ _ _ dX0_roundCount_4 (by first | rfl | omega | simp_all)
set_option maxRecDepth 100000 in
set_option maxHeartbeats 4000000 in
theorem cX_past {l : Launch} {E : EE} {a : Nat → Nat} {ids : Nat → Int32} {par : Nat → Option Nat} {rows : Nat → Nat → Int32} {cu pr n rd : Nat} (x r : Int32) (hn : n ≤ 24)(hpr : pr < 18) (hrd : rd < 100000) : RO l E (XP E a ids par rows cu pr n rd) yX0_pastColour cX0_pastColour 4 (some .int) 1 21 [.ref (a 0), .int (x), .int (r)] (oN (vN n x) (fun v => pastF rows pr rd r v)) := by
  refine RO.mk (C := RX0) rfl rfl (by decide) rfl (Nat.le_of_ble_eq_true rfl) ?_
  intro p e s m args below meth c H Q hC hK hP hret ls hl
  obtain ⟨hx, hb, hml, hown, hts⟩ := id hC
  have hl : lv_has ls 4 [(0, .ref (a 0)), (1, .int (x)), (2, .int (r))] := hl
  refine lv_aload_n hx hb dX0_pastColour_0 rfl (lv_at hl 0 rfl) ?_
  refine lv_iload_n hx hb dX0_pastColour_1 rfl (lv_at hl 1 rfl) ?_
  refine roV (As := [.int (x)]) hC kX0_44 (cX_isNode ((x)) ) hK hP (x_rec hK hP) rfl rfl hl ⟨Nat.le_of_ble_eq_true rfl, Nat.le_of_ble_eq_true rfl⟩ (Nat.le_of_ble_eq_true rfl) dX0_pastColour_2 ⟨Nat.le_of_ble_eq_true rfl, Nat.le_of_ble_eq_true rfl⟩ ?_
  refine bv_ne (tgt := 10) hx hb dX0_pastColour_5 (by decide) (fun c_5 => ?_) (fun c_5 => ?_)
  · obtain ⟨v, hv, rfl⟩ := vN_t hn c_5
    refine lv_iload_n hx hb dX0_pastColour_10 rfl (lv_at hl 2 rfl) ?_
    refine lv_if_lt (tgt := 20) hx hb dX0_pastColour_11 (by decide) (fun c_11 => ?_) (fun c_11 => ?_)
    · refine lv_bipush (v := (-2)) hx hb dX0_pastColour_20 (by decide) ?_
      exact hret _ _ _ dX0_pastColour_22 (by rw [oN_in hn hv, pastF, if_pos (Or.inl c_11)])
    · refine lv_iload_n hx hb dX0_pastColour_14 rfl (lv_at hl 2 rfl) ?_
      refine lv_bipush (v := (16)) hx hb dX0_pastColour_15 (by decide) ?_
      refine lv_icmp_le (tgt := 23) hx hb dX0_pastColour_17 (by decide) (fun c_17 => ?_) (fun c_17 => ?_)
      · obtain ⟨q, hq, rfl⟩ := nI_of2 (n := 16) (by decide) c_11 c_17
        have hpf : ∀ z : Nat, pastF rows pr rd (nI q) z = if nI rd < nI q then -7 else rows (pastR pr (nI q).toNatClampNeg) z := fun z => if_neg (by rintro (h | h); exact c_11 h; exact absurd c_17 (Int32.not_le.mpr h))
        refine lv_iload_n hx hb dX0_pastColour_23 rfl (lv_at hl 2 rfl) ?_
        refine lv_aload_n hx hb dX0_pastColour_24 rfl (lv_at hl 0 rfl) ?_
        refine x_g6 hC hK hP dX0_pastColour_25 ?_
        refine nv_le (tgt := 34) hx hb (by omega) (by omega) dX0_pastColour_28 (by decide) (fun c_28 => ?_) (fun c_28 => ?_)
        · refine lv_aload_n hx hb dX0_pastColour_34 rfl (lv_at hl 0 rfl) ?_
          refine x_g4 hC hK hP dX0_pastColour_35 ?_
          refine lv_iload_n hx hb dX0_pastColour_38 rfl (lv_at hl 2 rfl) ?_
          refine lv_isub hx hb dX0_pastColour_39 ?_
          refine lv_istore_n (lv' := [(3, .int (((nI (pr))) - ((nI (q))))), (0, .ref (a 0)), (1, .int (nI (v))), (2, .int (nI (q)))]) hx hb dX0_pastColour_40 rfl hl (by decide) rfl (fun ls hl => ?_)
          refine lv_aload_n hx hb dX0_pastColour_41 rfl (lv_at hl 1 rfl) ?_
          refine x_g2 hC hK hP dX0_pastColour_42 ?_
          refine lv_iload_n hx hb dX0_pastColour_45 rfl (lv_at hl 0 rfl) ?_
          refine lv_if_ge (tgt := 56) hx hb dX0_pastColour_46 (by decide) (fun c_46 => ?_) (fun c_46 => ?_)
          · have hqp := sub_nn hq c_46
            refine lv_iload_n hx hb dX0_pastColour_56 rfl (lv_at hl 0 rfl) ?_
            refine tI ((nI (pr - q))) (pk_sub hqp) ?_
            refine x_ldR hx hb hK hP (by omega) dX0_pastColour_57 ?_
            refine lv_iload_n hx hb dX0_pastColour_58 rfl (lv_at hl 2 rfl) ?_
            refine x_ldC (by omega) hx hb hK hP (by omega) dX0_pastColour_59 ?_
            exact hret _ _ _ dX0_pastColour_60 (by rw [oN_in hn hv, hpf, if_neg (nI_nlt c_28 (by omega)), nI_clamp (by omega), pastR, if_pos hqp])
          · have hqp := sub_ng hpr c_46
            refine lv_iload_n hx hb dX0_pastColour_49 rfl (lv_at hl 0 rfl) ?_
            refine lv_bipush (v := (18)) hx hb dX0_pastColour_50 (by decide) ?_
            refine lv_iadd hx hb dX0_pastColour_52 ?_
            refine tI ((nI (pr + 18 - q))) (sub_18 (by omega)) ?_
            refine lv_goto (tgt := 57) hx hb dX0_pastColour_53 (by decide) ?_
            refine x_ldR hx hb hK hP (by omega) dX0_pastColour_57 ?_
            refine lv_iload_n hx hb dX0_pastColour_58 rfl (lv_at hl 2 rfl) ?_
            refine x_ldC (by omega) hx hb hK hP (by omega) dX0_pastColour_59 ?_
            exact hret _ _ _ dX0_pastColour_60 (by rw [oN_in hn hv, hpf, if_neg (nI_nlt c_28 (by omega)), nI_clamp (by omega), pastR, if_neg (by omega)])
        · refine lv_bipush (v := (-7)) hx hb dX0_pastColour_31 (by decide) ?_
          exact hret _ _ _ dX0_pastColour_33 (by rw [oN_in hn hv, hpf, if_pos (nI_lt c_28 (by omega))])
      · refine lv_bipush (v := (-2)) hx hb dX0_pastColour_20 (by decide) ?_
        exact hret _ _ _ dX0_pastColour_22 (by rw [oN_in hn hv, pastF, if_pos (Or.inr (Int32.not_le.mp c_17))])
  · refine lv_iconst (v := (-1)) hx hb dX0_pastColour_8 (by decide) ?_
    exact hret _ _ _ dX0_pastColour_9 ((oN_out c_5 _).symm)
end
section
-- Integer.bitCount and Integer.numberOfTrailingZeros, as functions
def ush (x k : Int32) : Int32 := (x.toUInt32 >>> (k.toUInt32 &&& Int32.toUInt32 31)).toInt32
def bc1 (x : Int32) : Int32 := x - (ush x 1 &&& 1431655765)
def bc2 (x : Int32) : Int32 := (x &&& 858993459) + (ush x 2 &&& 858993459)
def bc3 (x : Int32) : Int32 := (x + ush x 4) &&& 252645135
def bc4 (x : Int32) : Int32 := x + ush x 8
def bc5 (x : Int32) : Int32 := x + ush x 16
def bcJ (x : Int32) : Int32 := bc5 (bc4 (bc3 (bc2 (bc1 x)))) &&& 63
def nz3 (y n : Int32) : Int32 := if y ≤ 4 then n + ush y 1 else (n + 2) + ush (ush y 2) 1
def nz2 (y n : Int32) : Int32 := if y ≤ 16 then nz3 y n else nz3 (ush y 4) (n + 4)
def nz1 (y n : Int32) : Int32 := if y ≤ 256 then nz2 y n else nz2 (ush y 8) (n + 8)
def nz0 (y n : Int32) : Int32 := if y ≤ 65536 then nz1 y n else nz1 (ush y 16) (n + 16)
def ntzY (y : Int32) : Int32 := if 0 < y then nz0 y 1 else y &&& 32
def ntzJ (x : Int32) : Int32 := ntzY ((x ^^^ (-1)) &&& (x - 1))
theorem ush_nI {m k : Nat} (hm : m < 2 ^ 32) (hk : k < 32) : ush (nI m) (nI k) = nI (m / 2 ^ k) := pk_ushrN hm (nI k) k (s_u k hk)
theorem and_split {a k : Nat} (r K : Nat) (ha : a < 256) (hk : k < 256) : (a + 256 * r) &&& (k + 256 * K) = (a &&& k) + 256 * (r &&& K) := by
  have hak : a &&& k < 2 ^ 8 := Nat.lt_of_le_of_lt Nat.and_le_left ha
  apply Nat.eq_of_testBit_eq
  intro i
  rw [Nat.testBit_and, Nat.add_comm a, Nat.add_comm k, Nat.add_comm (a &&& k), show (256 : Nat) = 2 ^ 8 from rfl, Nat.testBit_two_pow_mul_add _ ha, Nat.testBit_two_pow_mul_add _ hk, Nat.testBit_two_pow_mul_add _ hak]
  split <;> rw [Nat.testBit_and]
theorem by1 : ∀ t, t < 2 → ∀ a, a < 256 → (a / 2 + 128 * t) &&& 85 = (a / 2) &&& 85 := by decide +kernel
theorem by2 : ∀ t, t < 4 → ∀ a, a < 256 → (a / 4 + 64 * t) &&& 51 = (a / 4) &&& 51 := by decide +kernel
theorem by3 : ∀ t, t < 5 → ∀ a, a < 137 → (a + 16 * t) &&& 15 = a &&& 15 := by decide +kernel
def q1 (a : Nat) : Nat := a - ((a / 2) &&& 85)
def q2 (a : Nat) : Nat := (a &&& 51) + ((a / 4) &&& 51)
def q3 (a : Nat) : Nat := (a + a / 16) &&& 15
theorem q_b : ∀ a, a < 256 → (a / 2) &&& 85 ≤ a ∧ q1 a < 256 ∧ q2 (q1 a) < 69 ∧ q2 (q1 a) % 16 < 5 ∧ q2 (q1 a) / 16 < 5 ∧ q3 (q2 (q1 a)) ≤ 8 := by decide +kernel
theorem q_cnt (b0 b1 b2 b3 b4 b5 b6 b7 : Bool) : q3 (q2 (q1 (0 + (if b0 = true then 2 ^ 0 else 0) + (if b1 = true then 2 ^ 1 else 0) + (if b2 = true then 2 ^ 2 else 0) + (if b3 = true then 2 ^ 3 else 0) + (if b4 = true then 2 ^ 4 else 0) + (if b5 = true then 2 ^ 5 else 0) + (if b6 = true then 2 ^ 6 else 0) + (if b7 = true then 2 ^ 7 else 0)))) = 0 + (if b0 = true then 1 else 0) + (if b1 = true then 1 else 0) + (if b2 = true then 1 else 0) + (if b3 = true then 1 else 0) + (if b4 = true then 1 else 0) + (if b5 = true then 1 else 0) + (if b6 = true then 1 else 0) + (if b7 = true then 1 else 0) := by
  revert b0 b1 b2 b3 b4 b5 b6 b7
  decide +kernel
theorem q_byte (w : Nat → Bool) : q3 (q2 (q1 (msk w 8))) = fb_ct w 8 := q_cnt (w 0) (w 1) (w 2) (w 3) (w 4) (w 5) (w 6) (w 7)
theorem st1 {a r K : Nat} (ha : a < 256) : (a + 256 * r) / 2 &&& (85 + 256 * K) = (a / 2 &&& 85) + 256 * (r / 2 &&& K) := by
  have e : (a + 256 * r) / 2 = (a / 2 + 128 * (r % 2)) + 256 * (r / 2) := by omega
  rw [e, and_split _ _ (by omega) (by omega), by1 _ (Nat.mod_lt _ (by omega)) _ ha]
theorem st2 {a r K : Nat} (ha : a < 256) : (a + 256 * r) / 4 &&& (51 + 256 * K) = (a / 4 &&& 51) + 256 * (r / 4 &&& K) := by
  have e : (a + 256 * r) / 4 = (a / 4 + 64 * (r % 4)) + 256 * (r / 4) := by omega
  rw [e, and_split _ _ (by omega) (by omega), by2 _ (Nat.mod_lt _ (by omega)) _ ha]
theorem st3 {a r K : Nat} (ha : a < 69) (hr : r % 16 < 5) : (a + 256 * r) + (a + 256 * r) / 16 &&& (15 + 256 * K) = ((a + a / 16) &&& 15) + 256 * (r + r / 16 &&& K) := by
  have e : (a + 256 * r) + (a + 256 * r) / 16 = ((a + a / 16) + 16 * (r % 16)) + 256 * (r + r / 16) := by omega
  rw [e, and_split _ _ (by omega) (by omega), by3 _ hr _ (by omega)]
theorem st0 {a K : Nat} (k : Nat) (ha : a < 256) (hk : k < 256) : a &&& (k + 256 * K) = a &&& k := by
  have := and_split (a := a) (k := k) 0 K ha hk
  simpa using this
theorem swar {a b c : Nat} (ha : a < 256) (hb : b < 256) (hc : c < 256) : bc3 (bc2 (bc1 (nI (a + 256 * (b + 256 * c))))) = nI (q3 (q2 (q1 a)) + 256 * (q3 (q2 (q1 b)) + 256 * q3 (q2 (q1 c)))) := by
  obtain ⟨a1, a2, a3, a4, a5, a6⟩ := q_b a ha
  obtain ⟨b1, b2, b3, b4, b5, b6⟩ := q_b b hb
  obtain ⟨c1, c2, c3, c4, c5, c6⟩ := q_b c hc
  have e1 : bc1 (nI (a + 256 * (b + 256 * c))) = nI (q1 a + 256 * (q1 b + 256 * q1 c)) := by
    unfold bc1
    rw [show (1 : Int32) = nI 1 from rfl, ush_nI (by omega) (by omega), show (1431655765 : Int32) = nI 1431655765 from by decide, nx_and, show 1431655765 = 85 + 256 * (85 + 256 * (85 + 256 * 85)) from rfl, Nat.pow_one, st1 ha, st1 hb, st0 85 (by omega) (by omega)]
    unfold q1 at *
    rw [pk_sub (by omega)]
    congr 1
    omega
  have e2 : bc2 (nI (q1 a + 256 * (q1 b + 256 * q1 c))) = nI (q2 (q1 a) + 256 * (q2 (q1 b) + 256 * q2 (q1 c))) := by
    unfold bc2
    rw [show (2 : Int32) = nI 2 from rfl, ush_nI (by omega) (by omega), show (858993459 : Int32) = nI 858993459 from by decide, nx_and, nx_and, show 858993459 = 51 + 256 * (51 + 256 * (51 + 256 * 51)) from rfl, show 2 ^ 2 = 4 from rfl, st2 a2, st2 b2, st0 51 (show q1 c / 4 < 256 by omega) (by omega), and_split _ _ a2 (by omega), and_split _ _ b2 (by omega), st0 51 c2 (by omega), nI_add]
    congr 1
    unfold q2
    omega
  have e3 : bc3 (nI (q2 (q1 a) + 256 * (q2 (q1 b) + 256 * q2 (q1 c)))) = nI (q3 (q2 (q1 a)) + 256 * (q3 (q2 (q1 b)) + 256 * q3 (q2 (q1 c)))) := by
    unfold bc3
    rw [show (4 : Int32) = nI 4 from rfl, ush_nI (by omega) (by omega), show (252645135 : Int32) = nI 252645135 from by decide, nI_add, nx_and, show 252645135 = 15 + 256 * (15 + 256 * (15 + 256 * 15)) from rfl, show 2 ^ 4 = 16 from rfl, st3 a3 (by omega), st3 b3 c4, st0 15 (by omega) (by omega)]
    rfl
  rw [e1, e2, e3]
theorem msk_split (w : Nat → Bool) (m : Nat) : ∀ k, msk w (m + k) = msk w m + 2 ^ m * msk (fun i => w (m + i)) k
  | 0 => by simp [msk]
  | k + 1 => by
    rw [← Nat.add_assoc, msk, msk_split w m k, msk, Nat.mul_add, Nat.add_assoc]
    congr 2
    split
    · rw [Nat.pow_add]
    · rfl
theorem msk_beyond (w : Nat → Bool) (n : Nat) : ∀ k, msk (fun i => decide (i < n) && w i) (n + k) = msk w n
  | 0 => by
    have h : ∀ j, j ≤ n → msk (fun i => decide (i < n) && w i) j = msk w j := by
      intro j
      induction j with
      | zero => intro _; rfl
      | succ j ih => intro hj; rw [msk, msk, ih (by omega)]; simp [show j < n by omega]
    exact h n (Nat.le_refl _)
  | k + 1 => by
    rw [← Nat.add_assoc, msk, msk_beyond w n k]
    simp
    intro h
    omega
theorem ct_beyond (w : Nat → Bool) (n : Nat) : ∀ k, fb_ct (fun i => decide (i < n) && w i) (n + k) = fb_ct w n
  | 0 => fb_ct_cong (fun k hk => by simp [show k < n from hk])
  | k + 1 => by
    rw [← Nat.add_assoc, fb_ct_succ, ct_beyond w n k]
    simp
    intro h
    omega
theorem bc_mk {n : Nat} (hn : n ≤ 24) (w : Nat → Bool) : bcJ (mk n w) = nI (fb_ct w n) := by
  have h1 := msk_beyond w n (24 - n)
  have h2 := ct_beyond w n (24 - n)
  rw [show n + (24 - n) = 24 by omega] at h1 h2
  unfold mk
  rw [← h1, ← h2]
  generalize (fun i => decide (i < n) && w i) = z
  have e : msk z 24 = msk z 8 + 256 * (msk (fun i => z (8 + i)) 8 + 256 * msk (fun i => z (16 + i)) 8) := by
    have e1 := msk_split z 8 16
    have e2 := msk_split (fun i => z (8 + i)) 8 8
    have e3 : (fun i => (fun i => z (8 + i)) (8 + i)) = fun i => z (16 + i) := by funext i; show z (8 + (8 + i)) = _; rw [← Nat.add_assoc]
    rw [e3] at e2
    rw [show (24 : Nat) = 8 + 16 from rfl, e1, show (16 : Nat) = 8 + 8 from rfl, e2]
  have c : fb_ct z 24 = fb_ct z 8 + (fb_ct (fun i => z (8 + i)) 8 + fb_ct (fun i => z (16 + i)) 8) := by
    have e1 := fb_ct_split z 8 16
    have e2 := fb_ct_split (fun i => z (8 + i)) 8 8
    have e3 : (fun i => (fun i => z (8 + i)) (8 + i)) = fun i => z (16 + i) := by funext i; show z (8 + (8 + i)) = _; rw [← Nat.add_assoc]
    rw [e3] at e2
    rw [show (24 : Nat) = 8 + 16 from rfl, e1, show (16 : Nat) = 8 + 8 from rfl, e2]
  rw [e, c]
  have x1 := msk_lt z 8
  have x2 := msk_lt (fun i => z (8 + i)) 8
  have x3 := msk_lt (fun i => z (16 + i)) 8
  unfold bcJ
  rw [swar x1 x2 x3, q_byte, q_byte, q_byte]
  have y1 := fb_ct_le z 8
  have y2 := fb_ct_le (fun i => z (8 + i)) 8
  have y3 := fb_ct_le (fun i => z (16 + i)) 8
  generalize fb_ct z 8 = A at *
  generalize fb_ct (fun i => z (8 + i)) 8 = B at *
  generalize fb_ct (fun i => z (16 + i)) 8 = C at *
  have e4 : bc4 (nI (A + 256 * (B + 256 * C))) = nI ((A + B) + 256 * (B + C) + 65536 * C) := by
    unfold bc4
    rw [show (8 : Int32) = nI 8 from rfl, ush_nI (by omega) (by omega), nI_add]
    congr 1
    omega
  have e5 : bc5 (nI ((A + B) + 256 * (B + C) + 65536 * C)) = nI ((A + B + C) + 256 * (B + C) + 65536 * C) := by
    unfold bc5
    rw [show (16 : Int32) = nI 16 from rfl, ush_nI (by omega) (by omega), nI_add]
    congr 1
    omega
  rw [e4, e5, show (63 : Int32) = nI 63 from rfl, nx_and, show 63 = 2 ^ 6 - 1 from rfl, Nat.and_two_pow_sub_one_eq_mod]
  congr 1
  omega
/-- the lowest bit -/
def lowb (x : Int32) : Nat := (fst (bt x) 32).getD 32
theorem ntz_k : ∀ k, k < 32 → ntzY (nI (2 ^ k - 1)) = nI k := by decide +kernel
theorem low_y {x : Int32} {k : Nat} (hk : k < 32) (h1 : bt x k = true) (h0 : ∀ j, j < k → bt x j = false) : (x ^^^ (-1)) &&& (x - 1) = nI (2 ^ k - 1) := by
  obtain ⟨m, hm, rfl⟩ : ∃ m, m < 2 ^ 32 ∧ x = nI m := ⟨x.toBitVec.toNat, x.toBitVec.isLt, by
    apply Int32.toBitVec_inj.1
    show x.toBitVec = BitVec.ofNat 32 x.toBitVec.toNat
    simp⟩
  have t1 : m.testBit k = true := by rw [← bt_nI m k hk]; exact h1
  have t0 : ∀ j, j < k → m.testBit j = false := fun j hj => by rw [← bt_nI m j (by omega)]; exact h0 j hj
  have hmod : m % 2 ^ k = 0 := by
    apply Nat.eq_of_testBit_eq
    intro i
    rw [Nat.testBit_mod_two_pow, Nat.zero_testBit]
    by_cases hi : i < k
    · simp [hi, t0 i hi]
    · simp [hi]
  obtain ⟨q, hq⟩ : ∃ q, m = 2 ^ k * q := ⟨m / 2 ^ k, by have := Nat.div_add_mod m (2 ^ k); omega⟩
  have hodd : q.testBit 0 = true := by
    have := t1
    rw [hq, show 2 ^ k * q = 2 ^ k * q + 0 from rfl, Nat.testBit_two_pow_mul_add _ (Nat.two_pow_pos k), if_neg (Nat.lt_irrefl _), Nat.sub_self] at this
    exact this
  have hpos := Nat.two_pow_pos k
  have hq1 : q % 2 = 1 := by simpa [Nat.testBit_zero] using hodd
  have hm1 : m - 1 = 2 ^ k * (q - 1) + (2 ^ k - 1) := by
    obtain ⟨r, rfl⟩ : ∃ r, q = r + 1 := ⟨q - 1, by omega⟩
    rw [hq, Nat.mul_succ, Nat.add_sub_cancel]
    omega
  have hmp : 1 ≤ m := by
    rcases Nat.eq_zero_or_pos m with h | h
    · rw [h] at t1; simp at t1
    · exact h
  rw [show nI m - 1 = nI (m - 1) from pk_sub hmp]
  apply b_ext
  intro i hi
  rw [b_and, b_xor, b_m1 i hi, bt_nI _ _ hi, bt_nI _ _ hi, bt_nI _ _ hi, hm1, Nat.testBit_two_pow_mul_add _ (show 2 ^ k - 1 < 2 ^ k by omega), Nat.testBit_two_pow_sub_one, hq, show 2 ^ k * q = 2 ^ k * q + 0 from rfl, Nat.testBit_two_pow_mul_add _ hpos]
  by_cases hik : i < k
  · simp [hik]
  · rw [if_neg hik, if_neg hik, decide_eq_false hik]
    generalize i - k = t
    cases t with
    | zero =>
      rw [hodd]; simp
    | succ t =>
      have e1 : q.testBit (t + 1) = (q / 2).testBit t := by rw [Nat.testBit_succ]
      have e2 : (q - 1).testBit (t + 1) = (q / 2).testBit t := by rw [Nat.testBit_succ]; congr 1; omega
      rw [e1, e2]
      cases (q / 2).testBit t <;> rfl
theorem bt_ne0 {x : Int32} (h : x ≠ 0) : ∃ k, k < 32 ∧ bt x k = true := by
  rcases fst_spec (p := bt x) (n := 32) with ⟨-, h1⟩ | ⟨k, -, h1, h2, -⟩
  · exact absurd (b_ext (fun i hi => by rw [h1 i hi, b_0])) h
  · exact ⟨k, h1, h2⟩
theorem ntz_low {x : Int32} (h : x ≠ 0) : ntzJ x = nI (lowb x) ∧ lowb x < 32 ∧ bt x (lowb x) = true ∧ ∀ j, j < lowb x → bt x j = false := by
  rcases fst_spec (p := bt x) (n := 32) with ⟨-, h1⟩ | ⟨k, h0, h1, h2, h3⟩
  · exact absurd (b_ext (fun i hi => by rw [h1 i hi, b_0])) h
  · have e : lowb x = k := by rw [lowb, h0]; rfl
    rw [e]
    exact ⟨by rw [ntzJ, low_y h1 h2 h3, ntz_k k h1], h1, h2, h3⟩
end
section
-- what the remaining readers answer
def rbit (par : Nat → Option Nat) (col : Nat → Int32) (v : Nat) : Int32 := match par v with
  | none => 0
  | some u => ntzJ (col v ^^^ col u)
def endB (par : Nat → Option Nat) (n : Nat) (w : Nat → Bool) (v : Nat) : Bool := w v && decide (fb_ct (fun o => nb par v o && w o) n ≤ 1)
def endF (par : Nat → Option Nat) (n : Nat) (w : Nat → Bool) : Option Nat := fst (endB par n w) n
/-- the set that is built: the set, the visited -/
def isF (par : Nat → Option Nat) (col : Nat → Int32) (n : Nat) : Nat → (Nat → Bool) × (Nat → Bool)
  | 0 => (fun _ => false, fun _ => false)
  | k + 1 => match nvF col (isF par col n k).2 n with
    | none => isF par col n k
    | some v => (if anyB (fun o => nb par v o && (isF par col n k).1 o) n = true then (isF par col n k).1 else fun j => (isF par col n k).1 j || j == v, fun j => (isF par col n k).2 j || j == v)
theorem isF_none {par : Nat → Option Nat} {col : Nat → Int32} {n k : Nat} (h : nvF col (isF par col n k).2 n = none) : ∀ i, isF par col n (k + i) = isF par col n k
  | 0 => rfl
  | i + 1 => by
    rw [← Nat.add_assoc, isF, isF_none h i, h]
theorem isF_2 {par : Nat → Option Nat} {col : Nat → Int32} {n k v : Nat} (h : nvF col (isF par col n k).2 n = some v) : (isF par col n (k + 1)).2 = fun j => (isF par col n k).2 j || j == v := by rw [isF, h]
theorem isF_1f {par : Nat → Option Nat} {col : Nat → Int32} {n k v : Nat} (h : nvF col (isF par col n k).2 n = some v) (h2 : anyB (fun o => nb par v o && (isF par col n k).1 o) n = true) : (isF par col n (k + 1)).1 = (isF par col n k).1 := by rw [isF, h]; simp only; rw [if_pos h2]
theorem isF_1t {par : Nat → Option Nat} {col : Nat → Int32} {n k v : Nat} (h : nvF col (isF par col n k).2 n = some v) (h2 : anyB (fun o => nb par v o && (isF par col n k).1 o) n = false) : (isF par col n (k + 1)).1 = fun j => (isF par col n k).1 j || j == v := by rw [isF, h]; simp only; rw [if_neg (by rw [h2]; simp)]
theorem mk_and0 {n : Nat} (hn : n ≤ 24) (w w' : Nat → Bool) : mk n w &&& mk n w' = 0 ↔ anyB (fun o => w o && w' o) n = false := by
  rw [mk_and, mk_is0 hn]
  constructor
  · exact fun h => anyB_no h
  · intro h k hk
    cases e : (w k && w' k) with
    | false => rfl
    | true => rw [anyB_yes (p := fun o => w o && w' o) hk e] at h; cases h
/-- the greatest independent set by ends -/
def giF (par : Nat → Option Nat) (n : Nat) : Nat → (Nat → Bool) → Nat → Nat
  | 0, _, z => z
  | f + 1, w, z => if anyB w n = false then z else match endF par n w with
    | none => z + fb_ct w n / 2
    | some e => giF par n f (fun j => w j && !(nb par e j || j == e)) (z + 1)
theorem giF_0 {par : Nat → Option Nat} {n f z : Nat} {w : Nat → Bool} (h : anyB w n = false) : giF par n f w z = z := by
  cases f with
  | zero => rfl
  | succ f => rw [giF, if_pos h]
theorem giF_n {par : Nat → Option Nat} {n f z : Nat} {w : Nat → Bool} (h : anyB w n = true) (h2 : endF par n w = none) : giF par n (f + 1) w z = z + fb_ct w n / 2 := by
  rw [giF, if_neg (by rw [h]; simp), h2]
theorem giF_s {par : Nat → Option Nat} {n f z e : Nat} {w : Nat → Bool} (h : anyB w n = true) (h2 : endF par n w = some e) : giF par n (f + 1) w z = giF par n f (fun j => w j && !(nb par e j || j == e)) (z + 1) := by
  rw [giF, if_neg (by rw [h]; simp), h2]
theorem mk_any {n : Nat} (hn : n ≤ 24) (w : Nat → Bool) : mk n w = 0 ↔ anyB w n = false := by
  rw [mk_is0 hn]
  constructor
  · exact fun h => anyB_no h
  · intro h k hk
    cases e : w k with
    | false => rfl
    | true => rw [anyB_yes hk e] at h; cases h
theorem endF_lt {par : Nat → Option Nat} {n e : Nat} {w : Nat → Bool} (h : endF par n w = some e) : e < n ∧ endB par n w e = true := by
  rcases fst_spec (p := endB par n w) (n := n) with ⟨h1, -⟩ | ⟨k, h1, h2, h3, -⟩
  · rw [endF, h1] at h; cases h
  · rw [endF, h1] at h; cases h; exact ⟨h2, h3⟩
end
section
-- the class: the remaining readers (laid by wip/whole/gen/spec_x3.py)
set_option maxRecDepth 100000 in
set_option maxHeartbeats 4000000 in
theorem cJ_bit0 {l : Launch} {E : EE}  (x : Int32)  : RO l E ((fun _ => True)) yJ6_bitCount_0f7a4 cJ6_bitCount_0f7a4 1 (some .int) 0 0 [.int (x)] (bcJ x) := by
  refine RO.mk (C := RJ6) rfl rfl (by decide) rfl (Nat.le_of_ble_eq_true rfl) ?_
  intro p e s m args below meth c H Q hC hK hP hret ls hl
  obtain ⟨hx, hb, hml, hown, hts⟩ := id hC
  have hl : lv_has ls 1 [(0, .int (x))] := hl
  refine lv_iload_n hx hb dJ6_bitCount_0f7a4_0 rfl (lv_at hl 0 rfl) ?_
  refine lv_iload_n hx hb dJ6_bitCount_0f7a4_1 rfl (lv_at hl 0 rfl) ?_
  refine lv_iconst (v := (1)) hx hb dJ6_bitCount_0f7a4_2 (by decide) ?_
  refine lv_iushr (v := (((x) : Int32).toUInt32 >>> (((1) : Int32).toUInt32 &&& Int32.toUInt32 31)).toInt32) hx hb dJ6_bitCount_0f7a4_3 rfl ?_
  refine tI ((ush x 1)) (rfl) ?_
  refine lv_ldcw (v := 1431655765) hx hb hown (hts _ qJ6_265) dJ6_bitCount_0f7a4_4 ?_
  refine lv_iand hx hb dJ6_bitCount_0f7a4_7 ?_
  refine lv_isub hx hb dJ6_bitCount_0f7a4_8 ?_
  refine tI ((bc1 x)) (rfl) ?_
  refine lv_istore_n (lv' := [(0, .int (bc1 x))]) hx hb dJ6_bitCount_0f7a4_9 rfl hl (by decide) rfl (fun ls hl => ?_)
  refine lv_iload_n hx hb dJ6_bitCount_0f7a4_10 rfl (lv_at hl 0 rfl) ?_
  refine lv_ldcw (v := 858993459) hx hb hown (hts _ qJ6_266) dJ6_bitCount_0f7a4_11 ?_
  refine lv_iand hx hb dJ6_bitCount_0f7a4_14 ?_
  refine lv_iload_n hx hb dJ6_bitCount_0f7a4_15 rfl (lv_at hl 0 rfl) ?_
  refine lv_iconst (v := (2)) hx hb dJ6_bitCount_0f7a4_16 (by decide) ?_
  refine lv_iushr (v := (((bc1 x) : Int32).toUInt32 >>> (((2) : Int32).toUInt32 &&& Int32.toUInt32 31)).toInt32) hx hb dJ6_bitCount_0f7a4_17 rfl ?_
  refine tI ((ush (bc1 x) 2)) (rfl) ?_
  refine lv_ldcw (v := 858993459) hx hb hown (hts _ qJ6_266) dJ6_bitCount_0f7a4_18 ?_
  refine lv_iand hx hb dJ6_bitCount_0f7a4_21 ?_
  refine lv_iadd hx hb dJ6_bitCount_0f7a4_22 ?_
  refine tI ((bc2 (bc1 x))) (rfl) ?_
  refine lv_istore_n (lv' := [(0, .int (bc2 (bc1 x)))]) hx hb dJ6_bitCount_0f7a4_23 rfl hl (by decide) rfl (fun ls hl => ?_)
  refine lv_iload_n hx hb dJ6_bitCount_0f7a4_24 rfl (lv_at hl 0 rfl) ?_
  refine lv_iload_n hx hb dJ6_bitCount_0f7a4_25 rfl (lv_at hl 0 rfl) ?_
  refine lv_iconst (v := (4)) hx hb dJ6_bitCount_0f7a4_26 (by decide) ?_
  refine lv_iushr (v := (((bc2 (bc1 x)) : Int32).toUInt32 >>> (((4) : Int32).toUInt32 &&& Int32.toUInt32 31)).toInt32) hx hb dJ6_bitCount_0f7a4_27 rfl ?_
  refine tI ((ush (bc2 (bc1 x)) 4)) (rfl) ?_
  refine lv_iadd hx hb dJ6_bitCount_0f7a4_28 ?_
  refine lv_ldcw (v := 252645135) hx hb hown (hts _ qJ6_267) dJ6_bitCount_0f7a4_29 ?_
  refine lv_iand hx hb dJ6_bitCount_0f7a4_32 ?_
  refine tI ((bc3 (bc2 (bc1 x)))) (rfl) ?_
  refine lv_istore_n (lv' := [(0, .int (bc3 (bc2 (bc1 x))))]) hx hb dJ6_bitCount_0f7a4_33 rfl hl (by decide) rfl (fun ls hl => ?_)
  refine lv_iload_n hx hb dJ6_bitCount_0f7a4_34 rfl (lv_at hl 0 rfl) ?_
  refine lv_iload_n hx hb dJ6_bitCount_0f7a4_35 rfl (lv_at hl 0 rfl) ?_
  refine lv_bipush (v := (8)) hx hb dJ6_bitCount_0f7a4_36 (by decide) ?_
  refine lv_iushr (v := (((bc3 (bc2 (bc1 x))) : Int32).toUInt32 >>> (((8) : Int32).toUInt32 &&& Int32.toUInt32 31)).toInt32) hx hb dJ6_bitCount_0f7a4_38 rfl ?_
  refine tI ((ush (bc3 (bc2 (bc1 x))) 8)) (rfl) ?_
  refine lv_iadd hx hb dJ6_bitCount_0f7a4_39 ?_
  refine tI ((bc4 (bc3 (bc2 (bc1 x))))) (rfl) ?_
  refine lv_istore_n (lv' := [(0, .int (bc4 (bc3 (bc2 (bc1 x)))))]) hx hb dJ6_bitCount_0f7a4_40 rfl hl (by decide) rfl (fun ls hl => ?_)
  refine lv_iload_n hx hb dJ6_bitCount_0f7a4_41 rfl (lv_at hl 0 rfl) ?_
  refine lv_iload_n hx hb dJ6_bitCount_0f7a4_42 rfl (lv_at hl 0 rfl) ?_
  refine lv_bipush (v := (16)) hx hb dJ6_bitCount_0f7a4_43 (by decide) ?_
  refine lv_iushr (v := (((bc4 (bc3 (bc2 (bc1 x)))) : Int32).toUInt32 >>> (((16) : Int32).toUInt32 &&& Int32.toUInt32 31)).toInt32) hx hb dJ6_bitCount_0f7a4_45 rfl ?_
  refine tI ((ush (bc4 (bc3 (bc2 (bc1 x)))) 16)) (rfl) ?_
  refine lv_iadd hx hb dJ6_bitCount_0f7a4_46 ?_
  refine tI ((bc5 (bc4 (bc3 (bc2 (bc1 x)))))) (rfl) ?_
  refine lv_istore_n (lv' := [(0, .int (bc5 (bc4 (bc3 (bc2 (bc1 x))))))]) hx hb dJ6_bitCount_0f7a4_47 rfl hl (by decide) rfl (fun ls hl => ?_)
  refine lv_iload_n hx hb dJ6_bitCount_0f7a4_48 rfl (lv_at hl 0 rfl) ?_
  refine lv_bipush (v := (63)) hx hb dJ6_bitCount_0f7a4_49 (by decide) ?_
  refine lv_iand hx hb dJ6_bitCount_0f7a4_51 ?_
  exact hret _ _ _ dJ6_bitCount_0f7a4_52 (rfl)
theorem cJ_bit {l : Launch} {E : EE} {n : Nat} (w : Nat → Bool) (hn : n ≤ 24) : RO l E (fun _ => True) yJ6_bitCount_0f7a4 cJ6_bitCount_0f7a4 1 (some .int) 0 0 [.int (mk n w)] (nI (fb_ct w n)) := by
  have h := cJ_bit0 (l := l) (E := E) (mk n w)
  rw [bc_mk hn] at h
  exact h
set_option maxRecDepth 100000 in
set_option maxHeartbeats 4000000 in
theorem cJ_ntz {l : Launch} {E : EE}  (x : Int32)  : RO l E ((fun _ => True)) yJ6_numberOfTrailingZeros_0f7a4 cJ6_numberOfTrailingZeros_0f7a4 2 (some .int) 0 0 [.int (x)] (ntzJ x) := by
  refine RO.mk (C := RJ6) rfl rfl (by decide) rfl (Nat.le_of_ble_eq_true rfl) ?_
  intro p e s m args below meth c H Q hC hK hP hret ls hl
  obtain ⟨hx, hb, hml, hown, hts⟩ := id hC
  have hl : lv_has ls 2 [(0, .int (x))] := hl
  refine lv_iload_n hx hb dJ6_numberOfTrailingZeros_0f7a4_0 rfl (lv_at hl 0 rfl) ?_
  refine lv_iconst (v := (-1)) hx hb dJ6_numberOfTrailingZeros_0f7a4_1 (by decide) ?_
  refine lv_ixor hx hb dJ6_numberOfTrailingZeros_0f7a4_2 ?_
  refine lv_iload_n hx hb dJ6_numberOfTrailingZeros_0f7a4_3 rfl (lv_at hl 0 rfl) ?_
  refine lv_iconst (v := (1)) hx hb dJ6_numberOfTrailingZeros_0f7a4_4 (by decide) ?_
  refine lv_isub hx hb dJ6_numberOfTrailingZeros_0f7a4_5 ?_
  refine lv_iand hx hb dJ6_numberOfTrailingZeros_0f7a4_6 ?_
  refine lv_topi (fun y hy => ?_)
  refine lv_istore_n (lv' := [(0, .int (y))]) hx hb dJ6_numberOfTrailingZeros_0f7a4_7 rfl hl (by decide) rfl (fun ls hl => ?_)
  refine lv_iload_n hx hb dJ6_numberOfTrailingZeros_0f7a4_8 rfl (lv_at hl 0 rfl) ?_
  refine lv_if_gt (tgt := 17) hx hb dJ6_numberOfTrailingZeros_0f7a4_9 (by decide) (fun c_9 => ?_) (fun c_9 => ?_)
  · refine lv_iconst (v := (1)) hx hb dJ6_numberOfTrailingZeros_0f7a4_17 (by decide) ?_
    refine lv_istore_n (lv' := [(1, .int (1)), (0, .int (y))]) hx hb dJ6_numberOfTrailingZeros_0f7a4_18 rfl hl (by decide) rfl (fun ls hl => ?_)
    have join_74 : ∀ (z : Int32) (q : Int32), (q + ush z 1 = ntzJ x) → ∀ (ls : Array Slot), lv_has ls 2 [(0, .int (z)), (1, .int (q))] → W p l e (k2_rm 0 0) s m args below meth c H [] 0 0 Q (F0 m 74 ls []) := by
      intro z q hj74 ls hl
      refine lv_iload_n hx hb dJ6_numberOfTrailingZeros_0f7a4_74 rfl (lv_at hl 1 rfl) ?_
      refine lv_iload_n hx hb dJ6_numberOfTrailingZeros_0f7a4_75 rfl (lv_at hl 0 rfl) ?_
      refine lv_iconst (v := (1)) hx hb dJ6_numberOfTrailingZeros_0f7a4_76 (by decide) ?_
      refine lv_iushr (v := (((z) : Int32).toUInt32 >>> (((1) : Int32).toUInt32 &&& Int32.toUInt32 31)).toInt32) hx hb dJ6_numberOfTrailingZeros_0f7a4_77 rfl ?_
      refine tI ((ush z 1)) (rfl) ?_
      refine lv_iadd hx hb dJ6_numberOfTrailingZeros_0f7a4_78 ?_
      exact hret _ _ _ dJ6_numberOfTrailingZeros_0f7a4_79 (hj74)
    have join_62 : ∀ (z : Int32) (q : Int32), (nz3 z q = ntzJ x) → ∀ (ls : Array Slot), lv_has ls 2 [(0, .int (z)), (1, .int (q))] → W p l e (k2_rm 0 0) s m args below meth c H [] 0 0 Q (F0 m 62 ls []) := by
      intro z q hj62 ls hl
      refine lv_iload_n hx hb dJ6_numberOfTrailingZeros_0f7a4_62 rfl (lv_at hl 0 rfl) ?_
      refine lv_iconst (v := (4)) hx hb dJ6_numberOfTrailingZeros_0f7a4_63 (by decide) ?_
      refine lv_icmp_le (tgt := 74) hx hb dJ6_numberOfTrailingZeros_0f7a4_64 (by decide) (fun c_64 => ?_) (fun c_64 => ?_)
      · exact join_74 z q (by rw [← hj62, nz3, if_pos c_64]) ls (lv_sub hl [0, 1] rfl)
      · refine lv_iinc (v := (((q)) + 2)) (lv' := [(1, .int (((q)) + 2)), (0, .int (z))]) hx hb dJ6_numberOfTrailingZeros_0f7a4_67 hl (k := 1) rfl (rfl) (by decide) rfl (fun ls hl => ?_)
        refine lv_iload_n hx hb dJ6_numberOfTrailingZeros_0f7a4_70 rfl (lv_at hl 1 rfl) ?_
        refine lv_iconst (v := (2)) hx hb dJ6_numberOfTrailingZeros_0f7a4_71 (by decide) ?_
        refine lv_iushr (v := (((z) : Int32).toUInt32 >>> (((2) : Int32).toUInt32 &&& Int32.toUInt32 31)).toInt32) hx hb dJ6_numberOfTrailingZeros_0f7a4_72 rfl ?_
        refine tI ((ush z 2)) (rfl) ?_
        refine lv_istore_n (lv' := [(0, .int (ush z 2)), (1, .int (((q)) + 2))]) hx hb dJ6_numberOfTrailingZeros_0f7a4_73 rfl hl (by decide) rfl (fun ls hl => ?_)
        exact join_74 (ush z 2) (q + 2) (by rw [← hj62, nz3, if_neg c_64]) ls (lv_sub hl [0, 1] rfl)
    have join_49 : ∀ (z : Int32) (q : Int32), (nz2 z q = ntzJ x) → ∀ (ls : Array Slot), lv_has ls 2 [(0, .int (z)), (1, .int (q))] → W p l e (k2_rm 0 0) s m args below meth c H [] 0 0 Q (F0 m 49 ls []) := by
      intro z q hj49 ls hl
      refine lv_iload_n hx hb dJ6_numberOfTrailingZeros_0f7a4_49 rfl (lv_at hl 0 rfl) ?_
      refine lv_bipush (v := (16)) hx hb dJ6_numberOfTrailingZeros_0f7a4_50 (by decide) ?_
      refine lv_icmp_le (tgt := 62) hx hb dJ6_numberOfTrailingZeros_0f7a4_52 (by decide) (fun c_52 => ?_) (fun c_52 => ?_)
      · exact join_62 z q (by rw [← hj49, nz2, if_pos c_52]) ls (lv_sub hl [0, 1] rfl)
      · refine lv_iinc (v := (((q)) + 4)) (lv' := [(1, .int (((q)) + 4)), (0, .int (z))]) hx hb dJ6_numberOfTrailingZeros_0f7a4_55 hl (k := 1) rfl (rfl) (by decide) rfl (fun ls hl => ?_)
        refine lv_iload_n hx hb dJ6_numberOfTrailingZeros_0f7a4_58 rfl (lv_at hl 1 rfl) ?_
        refine lv_iconst (v := (4)) hx hb dJ6_numberOfTrailingZeros_0f7a4_59 (by decide) ?_
        refine lv_iushr (v := (((z) : Int32).toUInt32 >>> (((4) : Int32).toUInt32 &&& Int32.toUInt32 31)).toInt32) hx hb dJ6_numberOfTrailingZeros_0f7a4_60 rfl ?_
        refine tI ((ush z 4)) (rfl) ?_
        refine lv_istore_n (lv' := [(0, .int (ush z 4)), (1, .int (((q)) + 4))]) hx hb dJ6_numberOfTrailingZeros_0f7a4_61 rfl hl (by decide) rfl (fun ls hl => ?_)
        exact join_62 (ush z 4) (q + 4) (by rw [← hj49, nz2, if_neg c_52]) ls (lv_sub hl [0, 1] rfl)
    have join_34 : ∀ (z : Int32) (q : Int32), (nz1 z q = ntzJ x) → ∀ (ls : Array Slot), lv_has ls 2 [(0, .int (z)), (1, .int (q))] → W p l e (k2_rm 0 0) s m args below meth c H [] 0 0 Q (F0 m 34 ls []) := by
      intro z q hj34 ls hl
      refine lv_iload_n hx hb dJ6_numberOfTrailingZeros_0f7a4_34 rfl (lv_at hl 0 rfl) ?_
      refine lv_sipush (v := (256)) hx hb dJ6_numberOfTrailingZeros_0f7a4_35 (by decide) ?_
      refine lv_icmp_le (tgt := 49) hx hb dJ6_numberOfTrailingZeros_0f7a4_38 (by decide) (fun c_38 => ?_) (fun c_38 => ?_)
      · exact join_49 z q (by rw [← hj34, nz1, if_pos c_38]) ls (lv_sub hl [0, 1] rfl)
      · refine lv_iinc (v := (((q)) + 8)) (lv' := [(1, .int (((q)) + 8)), (0, .int (z))]) hx hb dJ6_numberOfTrailingZeros_0f7a4_41 hl (k := 1) rfl (rfl) (by decide) rfl (fun ls hl => ?_)
        refine lv_iload_n hx hb dJ6_numberOfTrailingZeros_0f7a4_44 rfl (lv_at hl 1 rfl) ?_
        refine lv_bipush (v := (8)) hx hb dJ6_numberOfTrailingZeros_0f7a4_45 (by decide) ?_
        refine lv_iushr (v := (((z) : Int32).toUInt32 >>> (((8) : Int32).toUInt32 &&& Int32.toUInt32 31)).toInt32) hx hb dJ6_numberOfTrailingZeros_0f7a4_47 rfl ?_
        refine tI ((ush z 8)) (rfl) ?_
        refine lv_istore_n (lv' := [(0, .int (ush z 8)), (1, .int (((q)) + 8))]) hx hb dJ6_numberOfTrailingZeros_0f7a4_48 rfl hl (by decide) rfl (fun ls hl => ?_)
        exact join_49 (ush z 8) (q + 8) (by rw [← hj34, nz1, if_neg c_38]) ls (lv_sub hl [0, 1] rfl)
    refine lv_iload_n hx hb dJ6_numberOfTrailingZeros_0f7a4_19 rfl (lv_at hl 1 rfl) ?_
    refine lv_ldcw (v := 65536) hx hb hown (hts _ qJ6_264) dJ6_numberOfTrailingZeros_0f7a4_20 ?_
    refine lv_icmp_le (tgt := 34) hx hb dJ6_numberOfTrailingZeros_0f7a4_23 (by decide) (fun c_23 => ?_) (fun c_23 => ?_)
    · exact join_34 y 1 (by rw [ntzJ, ← hy, ntzY, if_pos c_9, nz0, if_pos c_23]) ls (lv_sub hl [1, 0] rfl)
    · refine lv_iinc (v := (((1)) + 16)) (lv' := [(1, .int (((1)) + 16)), (0, .int (y))]) hx hb dJ6_numberOfTrailingZeros_0f7a4_26 hl (k := 0) rfl (rfl) (by decide) rfl (fun ls hl => ?_)
      refine lv_iload_n hx hb dJ6_numberOfTrailingZeros_0f7a4_29 rfl (lv_at hl 1 rfl) ?_
      refine lv_bipush (v := (16)) hx hb dJ6_numberOfTrailingZeros_0f7a4_30 (by decide) ?_
      refine lv_iushr (v := (((y) : Int32).toUInt32 >>> (((16) : Int32).toUInt32 &&& Int32.toUInt32 31)).toInt32) hx hb dJ6_numberOfTrailingZeros_0f7a4_32 rfl ?_
      refine tI ((ush y 16)) (rfl) ?_
      refine lv_istore_n (lv' := [(0, .int (ush y 16)), (1, .int (((1)) + 16))]) hx hb dJ6_numberOfTrailingZeros_0f7a4_33 rfl hl (by decide) rfl (fun ls hl => ?_)
      exact join_34 (ush y 16) (1 + 16) (by rw [ntzJ, ← hy, ntzY, if_pos c_9, nz0, if_neg c_23]) ls (lv_sub hl [0, 1] rfl)
  · refine lv_iload_n hx hb dJ6_numberOfTrailingZeros_0f7a4_12 rfl (lv_at hl 0 rfl) ?_
    refine lv_bipush (v := (32)) hx hb dJ6_numberOfTrailingZeros_0f7a4_13 (by decide) ?_
    refine lv_iand hx hb dJ6_numberOfTrailingZeros_0f7a4_15 ?_
    exact hret _ _ _ dJ6_numberOfTrailingZeros_0f7a4_16 (by rw [ntzJ, ← hy, ntzY, if_neg c_9])
set_option maxRecDepth 100000 in
set_option maxHeartbeats 4000000 in
theorem cX_rbit {l : Launch} {E : EE} {a : Nat → Nat} {ids : Nat → Int32} {par : Nat → Option Nat} {rows : Nat → Nat → Int32} {cu pr n rd : Nat} (v : Nat) (hn : n ≤ 24)(hcu : cu < 18)(hp : PW n par)(hv : v < n) : RO l E (XP E a ids par rows cu pr n rd) yX0_reductionBit cX0_reductionBit 2 (some .int) 2 42 [.ref (a 0), .int (nI (v))] (rbit par (rows cu) v) := by
  refine RO.mk (C := RX0) rfl rfl (by decide) rfl (Nat.le_of_ble_eq_true rfl) ?_
  intro p e s m args below meth c H Q hC hK hP hret ls hl
  obtain ⟨hx, hb, hml, hown, hts⟩ := id hC
  have hl : lv_has ls 2 [(0, .ref (a 0)), (1, .int (nI (v)))] := hl
  refine lv_aload_n hx hb dX0_reductionBit_0 rfl (lv_at hl 0 rfl) ?_
  refine lv_iload_n hx hb dX0_reductionBit_1 rfl (lv_at hl 1 rfl) ?_
  refine roV (As := [.int (nI (v))]) hC kX0_60 (cX_isRoot v hn hp (by omega)) hK hP (x_rec hK hP) rfl rfl hl ⟨Nat.le_of_ble_eq_true rfl, Nat.le_of_ble_eq_true rfl⟩ (Nat.le_of_ble_eq_true rfl) dX0_reductionBit_2 ⟨Nat.le_of_ble_eq_true rfl, Nat.le_of_ble_eq_true rfl⟩ ?_
  refine bv_eq (tgt := 10) hx hb dX0_reductionBit_5 (by decide) (fun c_5 => ?_) (fun c_5 => ?_)
  · obtain ⟨u, hu⟩ := isNone_f c_5
    have hun := hp.lt hv hu
    refine lv_aload_n hx hb dX0_reductionBit_10 rfl (lv_at hl 0 rfl) ?_
    refine x_g3 hC hK hP dX0_reductionBit_11 ?_
    refine lv_iload_n hx hb dX0_reductionBit_14 rfl (lv_at hl 1 rfl) ?_
    refine x_ldC (by omega) hx hb hK hP (by omega) dX0_reductionBit_15 ?_
    refine lv_aload_n hx hb dX0_reductionBit_16 rfl (lv_at hl 0 rfl) ?_
    refine x_g3 hC hK hP dX0_reductionBit_17 ?_
    refine lv_aload_n hx hb dX0_reductionBit_20 rfl (lv_at hl 0 rfl) ?_
    refine x_g1 hC hK hP dX0_reductionBit_21 ?_
    refine lv_iload_n hx hb dX0_reductionBit_24 rfl (lv_at hl 1 rfl) ?_
    refine x_ldP hx hb hK hP (by omega) dX0_reductionBit_25 ?_
    refine tI ((nI (u))) (by rw [hu]; rfl) ?_
    refine x_ldC (by omega) hx hb hK hP (by omega) dX0_reductionBit_26 ?_
    refine lv_ixor hx hb dX0_reductionBit_27 ?_
    refine roS (As := [.int (((rows cu v)) ^^^ ((rows cu u)))]) hC kX0_123 (cJ_ntz ((((rows cu v)) ^^^ ((rows cu u)))) ) hK (P := fun _ => True) trivial rfl rfl hl ⟨Nat.le_of_ble_eq_true rfl, Nat.le_of_ble_eq_true rfl⟩ (Nat.le_of_ble_eq_true rfl) dX0_reductionBit_28 ⟨Nat.le_of_ble_eq_true rfl, Nat.le_of_ble_eq_true rfl⟩ ?_
    exact hret _ _ _ dX0_reductionBit_31 (by rw [rbit, hu])
  · refine lv_iconst (v := (0)) hx hb dX0_reductionBit_8 (by decide) ?_
    exact hret _ _ _ dX0_reductionBit_9 (by rw [rbit, isNone_t c_5])
set_option maxRecDepth 100000 in
set_option maxHeartbeats 4000000 in
theorem cX_differing {l : Launch} {E : EE} {a : Nat → Nat} {ids : Nat → Int32} {par : Nat → Option Nat} {rows : Nat → Nat → Int32} {cu pr n rd : Nat} (x : Int32) (hn : n ≤ 24)(hcu : cu < 18)(hp : PW n par) : RO l E (XP E a ids par rows cu pr n rd) yX0_differingBit cX0_differingBit 2 (some .int) 3 63 [.ref (a 0), .int (x)] (oN (vN n x) (fun v => if conf par (rows cu) v = true then -5 else rbit par (rows cu) v)) := by
  refine RO.mk (C := RX0) rfl rfl (by decide) rfl (Nat.le_of_ble_eq_true rfl) ?_
  intro p e s m args below meth c H Q hC hK hP hret ls hl
  obtain ⟨hx, hb, hml, hown, hts⟩ := id hC
  have hl : lv_has ls 2 [(0, .ref (a 0)), (1, .int (x))] := hl
  refine lv_aload_n hx hb dX0_differingBit_0 rfl (lv_at hl 0 rfl) ?_
  refine lv_iload_n hx hb dX0_differingBit_1 rfl (lv_at hl 1 rfl) ?_
  refine roV (As := [.int (x)]) hC kX0_44 (cX_isNode ((x)) ) hK hP (x_rec hK hP) rfl rfl hl ⟨Nat.le_of_ble_eq_true rfl, Nat.le_of_ble_eq_true rfl⟩ (Nat.le_of_ble_eq_true rfl) dX0_differingBit_2 ⟨Nat.le_of_ble_eq_true rfl, Nat.le_of_ble_eq_true rfl⟩ ?_
  refine bv_ne (tgt := 10) hx hb dX0_differingBit_5 (by decide) (fun c_5 => ?_) (fun c_5 => ?_)
  · obtain ⟨v, hv, rfl⟩ := vN_t hn c_5
    refine lv_aload_n hx hb dX0_differingBit_10 rfl (lv_at hl 0 rfl) ?_
    refine lv_iload_n hx hb dX0_differingBit_11 rfl (lv_at hl 1 rfl) ?_
    refine roV (As := [.int (nI (v))]) hC kX0_81 (cX_conf v hn hcu hp (by omega)) hK hP (x_rec hK hP) rfl rfl hl ⟨Nat.le_of_ble_eq_true rfl, Nat.le_of_ble_eq_true rfl⟩ (Nat.le_of_ble_eq_true rfl) dX0_differingBit_12 ⟨Nat.le_of_ble_eq_true rfl, Nat.le_of_ble_eq_true rfl⟩ ?_
    refine bv_eq (tgt := 21) hx hb dX0_differingBit_15 (by decide) (fun c_15 => ?_) (fun c_15 => ?_)
    · refine lv_aload_n hx hb dX0_differingBit_21 rfl (lv_at hl 0 rfl) ?_
      refine lv_iload_n hx hb dX0_differingBit_22 rfl (lv_at hl 1 rfl) ?_
      refine roV (As := [.int (nI (v))]) hC kX0_84 (cX_rbit v hn hcu hp (by omega)) hK hP (x_rec hK hP) rfl rfl hl ⟨Nat.le_of_ble_eq_true rfl, Nat.le_of_ble_eq_true rfl⟩ (Nat.le_of_ble_eq_true rfl) dX0_differingBit_23 ⟨Nat.le_of_ble_eq_true rfl, Nat.le_of_ble_eq_true rfl⟩ ?_
      exact hret _ _ _ dX0_differingBit_26 (by rw [oN_in hn hv, if_neg (by rw [c_15]; simp)])
    · refine lv_bipush (v := (-5)) hx hb dX0_differingBit_18 (by decide) ?_
      exact hret _ _ _ dX0_differingBit_20 (by rw [oN_in hn hv, if_pos c_15])
  · refine lv_iconst (v := (-1)) hx hb dX0_differingBit_8 (by decide) ?_
    exact hret _ _ _ dX0_differingBit_9 ((oN_out c_5 _).symm)
set_option maxRecDepth 100000 in
set_option maxHeartbeats 4000000 in
theorem cX_degree {l : Launch} {E : EE} {a : Nat → Nat} {ids : Nat → Int32} {par : Nat → Option Nat} {rows : Nat → Nat → Int32} {cu pr n rd : Nat} (x : Int32) (hn : n ≤ 24)(hp : PW n par) : RO l E (XP E a ids par rows cu pr n rd) yX0_degree cX0_degree 2 (some .int) 2 45 [.ref (a 0), .int (x)] (oN (vN n x) (fun v => nI (fb_ct (nb par v) n))) := by
  refine RO.mk (C := RX0) rfl rfl (by decide) rfl (Nat.le_of_ble_eq_true rfl) ?_
  intro p e s m args below meth c H Q hC hK hP hret ls hl
  obtain ⟨hx, hb, hml, hown, hts⟩ := id hC
  have hl : lv_has ls 2 [(0, .ref (a 0)), (1, .int (x))] := hl
  refine lv_aload_n hx hb dX0_degree_0 rfl (lv_at hl 0 rfl) ?_
  refine lv_iload_n hx hb dX0_degree_1 rfl (lv_at hl 1 rfl) ?_
  refine roV (As := [.int (x)]) hC kX0_44 (cX_isNode ((x)) ) hK hP (x_rec hK hP) rfl rfl hl ⟨Nat.le_of_ble_eq_true rfl, Nat.le_of_ble_eq_true rfl⟩ (Nat.le_of_ble_eq_true rfl) dX0_degree_2 ⟨Nat.le_of_ble_eq_true rfl, Nat.le_of_ble_eq_true rfl⟩ ?_
  refine bv_ne (tgt := 10) hx hb dX0_degree_5 (by decide) (fun c_5 => ?_) (fun c_5 => ?_)
  · obtain ⟨v, hv, rfl⟩ := vN_t hn c_5
    refine lv_aload_n hx hb dX0_degree_10 rfl (lv_at hl 0 rfl) ?_
    refine lv_iload_n hx hb dX0_degree_11 rfl (lv_at hl 1 rfl) ?_
    refine roV (As := [.int (nI (v))]) hC kX0_51 (cX_neigh v hn hp (by omega)) hK hP (x_rec hK hP) rfl rfl hl ⟨Nat.le_of_ble_eq_true rfl, Nat.le_of_ble_eq_true rfl⟩ (Nat.le_of_ble_eq_true rfl) dX0_degree_12 ⟨Nat.le_of_ble_eq_true rfl, Nat.le_of_ble_eq_true rfl⟩ ?_
    refine roS (As := [.int (mk n (nb par v))]) hC kX0_55 (cJ_bit (nb par v) hn) hK (P := fun _ => True) trivial rfl rfl hl ⟨Nat.le_of_ble_eq_true rfl, Nat.le_of_ble_eq_true rfl⟩ (Nat.le_of_ble_eq_true rfl) dX0_degree_15 ⟨Nat.le_of_ble_eq_true rfl, Nat.le_of_ble_eq_true rfl⟩ ?_
    exact hret _ _ _ dX0_degree_18 (by rw [oN_in hn hv])
  · refine lv_iconst (v := (-1)) hx hb dX0_degree_8 (by decide) ?_
    exact hret _ _ _ dX0_degree_9 ((oN_out c_5 _).symm)
set_option maxRecDepth 100000 in
set_option maxHeartbeats 4000000 in
theorem cX_end {l : Launch} {E : EE} {a : Nat → Nat} {ids : Nat → Int32} {par : Nat → Option Nat} {rows : Nat → Nat → Int32} {cu pr n rd : Nat} (w : Nat → Bool) (hn : n ≤ 24)(hp : PW n par) : RO l E (XP E a ids par rows cu pr n rd) yX0_nodeAtAnEnd cX0_nodeAtAnEnd 3 (some .int) 2 45 [.ref (a 0), .int (mk n (w))] (pe (endF par n w)) := by
  refine RO.mk (C := RX0) rfl rfl (by decide) rfl (Nat.le_of_ble_eq_true rfl) ?_
  intro p e s m args below meth c H Q hC hK hP hret ls hl
  obtain ⟨hx, hb, hml, hown, hts⟩ := id hC
  have hl : lv_has ls 3 [(0, .ref (a 0)), (1, .int (mk n (w)))] := hl
  refine lv_iconst (v := (nI (0))) hx hb dX0_nodeAtAnEnd_0 (by decide) ?_
  refine lv_istore_n (lv' := [(2, .int (nI (0))), (0, .ref (a 0)), (1, .int (mk n (w)))]) hx hb dX0_nodeAtAnEnd_1 rfl hl (by decide) rfl (fun ls hl => ?_)
  have loop_2 : ∀ (fuel : Nat) (k : Nat), (k ≤ n) → (∀ j, j < k → endB par n w j = false) → n - k < fuel → ∀ (ls : Array Slot), lv_has ls 3 [(0, .ref (a 0)), (1, .int (mk n (w))), (2, .int (nI (k)))] → W p l e (k2_rm 2 45) s m args below meth c H [] 0 0 Q (F0 m 2 ls []) := by
    intro fuel
    induction fuel with
    | zero => intro k hk hno hm; exact absurd hm (Nat.not_lt_zero _)
    | succ fuel ih_2 =>
      intro k hk hno hm ls hl
      refine lv_iload_n hx hb dX0_nodeAtAnEnd_2 rfl (lv_at hl 2 rfl) ?_
      refine lv_aload_n hx hb dX0_nodeAtAnEnd_3 rfl (lv_at hl 0 rfl) ?_
      refine x_g5 hC hK hP dX0_nodeAtAnEnd_4 ?_
      refine nv_ge (tgt := 40) hx hb (by omega) (by omega) dX0_nodeAtAnEnd_7 (by decide) (fun c_7 => ?_) (fun c_7 => ?_)
      · refine lv_bipush (v := (-7)) hx hb dX0_nodeAtAnEnd_40 (by decide) ?_
        exact hret _ _ _ dX0_nodeAtAnEnd_42 (by rw [endF, fst_none (fun j hj => hno j (by omega))]; rfl)
      · refine lv_iload_n hx hb dX0_nodeAtAnEnd_10 rfl (lv_at hl 1 rfl) ?_
        refine lv_iload_n hx hb dX0_nodeAtAnEnd_11 rfl (lv_at hl 2 rfl) ?_
        refine roS (As := [.int (mk n (w)), .int (nI (k))]) hC kX0_63 (cX_isIn w k hn (by omega)) hK (P := fun _ => True) trivial rfl rfl hl ⟨Nat.le_of_ble_eq_true rfl, Nat.le_of_ble_eq_true rfl⟩ (Nat.le_of_ble_eq_true rfl) dX0_nodeAtAnEnd_12 ⟨Nat.le_of_ble_eq_true rfl, Nat.le_of_ble_eq_true rfl⟩ ?_
        refine bv_eq (tgt := 34) hx hb dX0_nodeAtAnEnd_15 (by decide) (fun c_15 => ?_) (fun c_15 => ?_)
        · refine lv_iinc (v := (nI (k + 1))) (lv' := [(2, .int (nI (k + 1))), (0, .ref (a 0)), (1, .int (mk n (w)))]) hx hb dX0_nodeAtAnEnd_34 hl (k := 2) rfl (nI_inc _) (by decide) rfl (fun ls hl => ?_)
          refine lv_goto (tgt := 2) hx hb dX0_nodeAtAnEnd_37 (by decide) ?_
          exact ih_2 (k + 1) (by omega) (lt_s hno (by simp [endB, c_15])) (by omega) ls (lv_sub hl [1, 2, 0] rfl)
        · refine lv_aload_n hx hb dX0_nodeAtAnEnd_18 rfl (lv_at hl 0 rfl) ?_
          refine lv_iload_n hx hb dX0_nodeAtAnEnd_19 rfl (lv_at hl 2 rfl) ?_
          refine roV (As := [.int (nI (k))]) hC kX0_51 (cX_neigh k hn hp (by omega)) hK hP (x_rec hK hP) rfl rfl hl ⟨Nat.le_of_ble_eq_true rfl, Nat.le_of_ble_eq_true rfl⟩ (Nat.le_of_ble_eq_true rfl) dX0_nodeAtAnEnd_20 ⟨Nat.le_of_ble_eq_true rfl, Nat.le_of_ble_eq_true rfl⟩ ?_
          refine lv_iload_n hx hb dX0_nodeAtAnEnd_23 rfl (lv_at hl 1 rfl) ?_
          refine lv_iand hx hb dX0_nodeAtAnEnd_24 ?_
          refine tI ((mk n (fun o => nb par k o && w o))) (mk_and _ _ _) ?_
          refine roS (As := [.int (mk n (fun o => nb par k o && w o))]) hC kX0_55 (cJ_bit (fun o => nb par k o && w o) hn) hK (P := fun _ => True) trivial rfl rfl hl ⟨Nat.le_of_ble_eq_true rfl, Nat.le_of_ble_eq_true rfl⟩ (Nat.le_of_ble_eq_true rfl) dX0_nodeAtAnEnd_25 ⟨Nat.le_of_ble_eq_true rfl, Nat.le_of_ble_eq_true rfl⟩ ?_
          refine lv_iconst (v := (nI (1))) hx hb dX0_nodeAtAnEnd_28 (by decide) ?_
          refine nv_gt (tgt := 34) hx hb (by have := fb_ct_le (fun o => nb par k o && w o) n; omega) (by omega) dX0_nodeAtAnEnd_29 (by decide) (fun c_29 => ?_) (fun c_29 => ?_)
          · refine lv_iinc (v := (nI (k + 1))) (lv' := [(2, .int (nI (k + 1))), (0, .ref (a 0)), (1, .int (mk n (w)))]) hx hb dX0_nodeAtAnEnd_34 hl (k := 2) rfl (nI_inc _) (by decide) rfl (fun ls hl => ?_)
            refine lv_goto (tgt := 2) hx hb dX0_nodeAtAnEnd_37 (by decide) ?_
            exact ih_2 (k + 1) (by omega) (lt_s hno (by simp [endB]; intro _; omega)) (by omega) ls (lv_sub hl [1, 2, 0] rfl)
          · refine lv_iload_n hx hb dX0_nodeAtAnEnd_32 rfl (lv_at hl 2 rfl) ?_
            exact hret _ _ _ dX0_nodeAtAnEnd_33 (by rw [endF, fst_some (k := k) (by omega) (by simp [endB, c_15]; omega) hno]; rfl)
  exact loop_2 (n - 0 + 1) 0 (Nat.zero_le _) (lt_0) (Nat.lt_succ_self _) ls (lv_sub hl [1, 2, 0] rfl)
set_option maxRecDepth 100000 in
set_option maxHeartbeats 4000000 in
theorem cX_iset {l : Launch} {E : EE} {a : Nat → Nat} {ids : Nat → Int32} {par : Nat → Option Nat} {rows : Nat → Nat → Int32} {cu pr n rd : Nat}  (hn : n ≤ 24)(hcu : cu < 18)(hp : PW n par) : RO l E (XP E a ids par rows cu pr n rd) yX0_independentSet cX0_independentSet 5 (some .int) 2 45 [.ref (a 0)] (mk n ((isF par (rows cu) n n).1)) := by
  refine RO.mk (C := RX0) rfl rfl (by decide) rfl (Nat.le_of_ble_eq_true rfl) ?_
  intro p e s m args below meth c H Q hC hK hP hret ls hl
  obtain ⟨hx, hb, hml, hown, hts⟩ := id hC
  have hl : lv_has ls 5 [(0, .ref (a 0))] := hl
  refine lv_iconst (v := (0)) hx hb dX0_independentSet_0 (by decide) ?_
  refine tI ((mk n (fun _ => false))) (mk_0 n) ?_
  refine lv_istore_n (lv' := [(1, .int (mk n (fun _ => false))), (0, .ref (a 0))]) hx hb dX0_independentSet_1 rfl hl (by decide) rfl (fun ls hl => ?_)
  refine lv_iconst (v := (0)) hx hb dX0_independentSet_2 (by decide) ?_
  refine tI ((mk n (fun _ => false))) (mk_0 n) ?_
  refine lv_istore_n (lv' := [(2, .int (mk n (fun _ => false))), (1, .int (mk n (fun _ => false))), (0, .ref (a 0))]) hx hb dX0_independentSet_3 rfl hl (by decide) rfl (fun ls hl => ?_)
  refine lv_iconst (v := (nI (0))) hx hb dX0_independentSet_4 (by decide) ?_
  refine lv_istore_n (lv' := [(3, .int (nI (0))), (2, .int (mk n (fun _ => false))), (1, .int (mk n (fun _ => false))), (0, .ref (a 0))]) hx hb dX0_independentSet_5 rfl hl (by decide) rfl (fun ls hl => ?_)
  have loop_6 : ∀ (fuel : Nat) (k : Nat), (k ≤ n) → n - k < fuel → ∀ (ls : Array Slot), lv_has ls 5 [(0, .ref (a 0)), (1, .int (mk n ((isF par (rows cu) n k).1))), (2, .int (mk n ((isF par (rows cu) n k).2))), (3, .int (nI (k)))] → W p l e (k2_rm 2 45) s m args below meth c H [] 0 0 Q (F0 m 6 ls []) := by
    intro fuel
    induction fuel with
    | zero => intro k hk hm; exact absurd hm (Nat.not_lt_zero _)
    | succ fuel ih_6 =>
      intro k hk hm ls hl
      refine lv_iload_n hx hb dX0_independentSet_6 rfl (lv_at hl 3 rfl) ?_
      refine lv_aload_n hx hb dX0_independentSet_7 rfl (lv_at hl 0 rfl) ?_
      refine x_g5 hC hK hP dX0_independentSet_8 ?_
      refine nv_ge (tgt := 61) hx hb (by omega) (by omega) dX0_independentSet_11 (by decide) (fun c_11 => ?_) (fun c_11 => ?_)
      · refine lv_iload_n hx hb dX0_independentSet_61 rfl (lv_at hl 1 rfl) ?_
        exact hret _ _ _ dX0_independentSet_62 (by rw [show k = n by omega])
      · refine lv_aload_n hx hb dX0_independentSet_14 rfl (lv_at hl 0 rfl) ?_
        refine lv_iload_n hx hb dX0_independentSet_15 rfl (lv_at hl 2 rfl) ?_
        refine roV (As := [.int (mk n ((isF par (rows cu) n k).2))]) hC kX0_135 (cX_next ((isF par (rows cu) n k).2) hn hcu) hK hP (x_rec hK hP) rfl rfl hl ⟨Nat.le_of_ble_eq_true rfl, Nat.le_of_ble_eq_true rfl⟩ (Nat.le_of_ble_eq_true rfl) dX0_independentSet_16 ⟨Nat.le_of_ble_eq_true rfl, Nat.le_of_ble_eq_true rfl⟩ ?_
        refine lv_istore (lv' := [(4, .int (pe (nvF (rows cu) ((isF par (rows cu) n k).2) n))), (0, .ref (a 0)), (1, .int (mk n ((isF par (rows cu) n k).1))), (2, .int (mk n ((isF par (rows cu) n k).2))), (3, .int (nI (k)))]) hx hb dX0_independentSet_19 hl (by decide) rfl (fun ls hl => ?_)
        refine lv_iload hx hb dX0_independentSet_21 (lv_at hl 0 rfl) ?_
        refine lv_bipush (v := (-7)) hx hb dX0_independentSet_23 (by decide) ?_
        refine pv_ne7 (tgt := 30) hx hb (fun u hu => by have := (nvF_lt hu).1; omega) dX0_independentSet_25 (by decide) (fun c_25 => ?_) (fun c_25 => ?_)
        · obtain ⟨v, hv'⟩ := ex_some c_25
          have hv := (nvF_lt hv').1
          rw [hv', show pe (some v) = nI v from rfl] at hl
          refine lv_iload_n hx hb dX0_independentSet_30 rfl (lv_at hl 3 rfl) ?_
          refine lv_iconst (v := (1)) hx hb dX0_independentSet_31 (by decide) ?_
          refine lv_iload hx hb dX0_independentSet_32 (lv_at hl 0 rfl) ?_
          refine lv_ishl hx hb dX0_independentSet_34 ?_
          refine lv_ior hx hb dX0_independentSet_35 ?_
          refine tI ((mk n ((isF par (rows cu) n (k + 1)).2))) (by rw [mk_ins hn hv, isF_2 hv']) ?_
          refine lv_istore_n (lv' := [(2, .int (mk n ((isF par (rows cu) n (k + 1)).2))), (4, .int (nI (v))), (0, .ref (a 0)), (1, .int (mk n ((isF par (rows cu) n k).1))), (3, .int (nI (k)))]) hx hb dX0_independentSet_36 rfl hl (by decide) rfl (fun ls hl => ?_)
          refine lv_aload_n hx hb dX0_independentSet_37 rfl (lv_at hl 2 rfl) ?_
          refine lv_iload hx hb dX0_independentSet_38 (lv_at hl 1 rfl) ?_
          refine roV (As := [.int (nI (v))]) hC kX0_51 (cX_neigh v hn hp (by omega)) hK hP (x_rec hK hP) rfl rfl hl ⟨Nat.le_of_ble_eq_true rfl, Nat.le_of_ble_eq_true rfl⟩ (Nat.le_of_ble_eq_true rfl) dX0_independentSet_40 ⟨Nat.le_of_ble_eq_true rfl, Nat.le_of_ble_eq_true rfl⟩ ?_
          refine lv_iload_n hx hb dX0_independentSet_43 rfl (lv_at hl 3 rfl) ?_
          refine lv_iand hx hb dX0_independentSet_44 ?_
          refine lv_if_ne (tgt := 55) hx hb dX0_independentSet_45 (by decide) (fun c_45 => ?_) (fun c_45 => ?_)
          · rw [mk_and0 hn] at c_45
            rw [← isF_1f hv' (by simpa using c_45)] at hl
            refine lv_iinc (v := (nI (k + 1))) (lv' := [(3, .int (nI (k + 1))), (2, .int (mk n ((isF par (rows cu) n (k + 1)).2))), (4, .int (nI (v))), (0, .ref (a 0)), (1, .int (mk n ((isF par (rows cu) n (k + 1)).1)))]) hx hb dX0_independentSet_55 hl (k := 4) rfl (nI_inc _) (by decide) rfl (fun ls hl => ?_)
            refine lv_goto (tgt := 6) hx hb dX0_independentSet_58 (by decide) ?_
            exact ih_6 (k + 1) (by omega) (by omega) ls (lv_sub hl [3, 4, 1, 0] rfl)
          · rw [mk_and0 hn] at c_45
            refine lv_iload_n hx hb dX0_independentSet_48 rfl (lv_at hl 3 rfl) ?_
            refine lv_iconst (v := (1)) hx hb dX0_independentSet_49 (by decide) ?_
            refine lv_iload hx hb dX0_independentSet_50 (lv_at hl 1 rfl) ?_
            refine lv_ishl hx hb dX0_independentSet_52 ?_
            refine lv_ior hx hb dX0_independentSet_53 ?_
            refine tI ((mk n ((isF par (rows cu) n (k + 1)).1))) (by rw [mk_ins hn hv, isF_1t hv' c_45]) ?_
            refine lv_istore_n (lv' := [(1, .int (mk n ((isF par (rows cu) n (k + 1)).1))), (2, .int (mk n ((isF par (rows cu) n (k + 1)).2))), (4, .int (nI (v))), (0, .ref (a 0)), (3, .int (nI (k)))]) hx hb dX0_independentSet_54 rfl hl (by decide) rfl (fun ls hl => ?_)
            refine lv_iinc (v := (nI (k + 1))) (lv' := [(3, .int (nI (k + 1))), (1, .int (mk n ((isF par (rows cu) n (k + 1)).1))), (2, .int (mk n ((isF par (rows cu) n (k + 1)).2))), (4, .int (nI (v))), (0, .ref (a 0))]) hx hb dX0_independentSet_55 hl (k := 4) rfl (nI_inc _) (by decide) rfl (fun ls hl => ?_)
            refine lv_goto (tgt := 6) hx hb dX0_independentSet_58 (by decide) ?_
            exact ih_6 (k + 1) (by omega) (by omega) ls (lv_sub hl [4, 1, 2, 0] rfl)
        · refine lv_iload_n hx hb dX0_independentSet_28 rfl (lv_at hl 2 rfl) ?_
          exact hret _ _ _ dX0_independentSet_29 (by have h := isF_none c_25 (n - k); rw [show k + (n - k) = n by omega] at h; rw [h])
  exact loop_6 (n - 0 + 1) 0 (Nat.zero_le _) (Nat.lt_succ_self _) ls (lv_sub hl [3, 2, 1, 0] rfl)
set_option maxRecDepth 100000 in
set_option maxHeartbeats 4000000 in
theorem cX_inSet {l : Launch} {E : EE} {a : Nat → Nat} {ids : Nat → Int32} {par : Nat → Option Nat} {rows : Nat → Nat → Int32} {cu pr n rd : Nat} (x : Int32) (hn : n ≤ 24)(hcu : cu < 18)(hp : PW n par) : RO l E (XP E a ids par rows cu pr n rd) yX0_inIndependentSet cX0_inIndependentSet 2 (some .int) 5 105 [.ref (a 0), .int (x)] (oN (vN n x) (fun v => if propB n par (rows cu) = true then b2i ((isF par (rows cu) n n).1 v) else -5)) := by
  refine RO.mk (C := RX0) rfl rfl (by decide) rfl (Nat.le_of_ble_eq_true rfl) ?_
  intro p e s m args below meth c H Q hC hK hP hret ls hl
  obtain ⟨hx, hb, hml, hown, hts⟩ := id hC
  have hl : lv_has ls 2 [(0, .ref (a 0)), (1, .int (x))] := hl
  refine lv_aload_n hx hb dX0_inIndependentSet_0 rfl (lv_at hl 0 rfl) ?_
  refine lv_iload_n hx hb dX0_inIndependentSet_1 rfl (lv_at hl 1 rfl) ?_
  refine roV (As := [.int (x)]) hC kX0_44 (cX_isNode ((x)) ) hK hP (x_rec hK hP) rfl rfl hl ⟨Nat.le_of_ble_eq_true rfl, Nat.le_of_ble_eq_true rfl⟩ (Nat.le_of_ble_eq_true rfl) dX0_inIndependentSet_2 ⟨Nat.le_of_ble_eq_true rfl, Nat.le_of_ble_eq_true rfl⟩ ?_
  refine bv_ne (tgt := 10) hx hb dX0_inIndependentSet_5 (by decide) (fun c_5 => ?_) (fun c_5 => ?_)
  · obtain ⟨v, hv, rfl⟩ := vN_t hn c_5
    refine lv_aload_n hx hb dX0_inIndependentSet_10 rfl (lv_at hl 0 rfl) ?_
    refine roV (As := []) hC kX0_87 (cX_proper  hn hcu hp) hK hP (x_rec hK hP) rfl rfl hl ⟨Nat.le_of_ble_eq_true rfl, Nat.le_of_ble_eq_true rfl⟩ (Nat.le_of_ble_eq_true rfl) dX0_inIndependentSet_11 ⟨Nat.le_of_ble_eq_true rfl, Nat.le_of_ble_eq_true rfl⟩ ?_
    refine bv_ne (tgt := 20) hx hb dX0_inIndependentSet_14 (by decide) (fun c_14 => ?_) (fun c_14 => ?_)
    · refine lv_aload_n hx hb dX0_inIndependentSet_20 rfl (lv_at hl 0 rfl) ?_
      refine roV (As := []) hC kX0_104 (cX_iset  hn hcu hp) hK hP (x_rec hK hP) rfl rfl hl ⟨Nat.le_of_ble_eq_true rfl, Nat.le_of_ble_eq_true rfl⟩ (Nat.le_of_ble_eq_true rfl) dX0_inIndependentSet_21 ⟨Nat.le_of_ble_eq_true rfl, Nat.le_of_ble_eq_true rfl⟩ ?_
      refine lv_iload_n hx hb dX0_inIndependentSet_24 rfl (lv_at hl 1 rfl) ?_
      refine roS (As := [.int (mk n ((isF par (rows cu) n n).1)), .int (nI (v))]) hC kX0_63 (cX_isIn ((isF par (rows cu) n n).1) v hn (by omega)) hK (P := fun _ => True) trivial rfl rfl hl ⟨Nat.le_of_ble_eq_true rfl, Nat.le_of_ble_eq_true rfl⟩ (Nat.le_of_ble_eq_true rfl) dX0_inIndependentSet_25 ⟨Nat.le_of_ble_eq_true rfl, Nat.le_of_ble_eq_true rfl⟩ ?_
      refine bv_eq (tgt := 35) hx hb dX0_inIndependentSet_28 (by decide) (fun c_28 => ?_) (fun c_28 => ?_)
      · refine lv_iconst (v := (0)) hx hb dX0_inIndependentSet_35 (by decide) ?_
        exact hret _ _ _ dX0_inIndependentSet_36 (by rw [oN_in hn hv, if_pos c_14, c_28]; rfl)
      · refine lv_iconst (v := (1)) hx hb dX0_inIndependentSet_31 (by decide) ?_
        refine lv_goto (tgt := 36) hx hb dX0_inIndependentSet_32 (by decide) ?_
        exact hret _ _ _ dX0_inIndependentSet_36 (by rw [oN_in hn hv, if_pos c_14, c_28]; rfl)
    · refine lv_bipush (v := (-5)) hx hb dX0_inIndependentSet_17 (by decide) ?_
      exact hret _ _ _ dX0_inIndependentSet_19 (by rw [oN_in hn hv, if_neg (by rw [c_14]; simp)])
  · refine lv_iconst (v := (-1)) hx hb dX0_inIndependentSet_8 (by decide) ?_
    exact hret _ _ _ dX0_inIndependentSet_9 ((oN_out c_5 _).symm)
set_option maxRecDepth 100000 in
set_option maxHeartbeats 4000000 in
theorem cX_setSize {l : Launch} {E : EE} {a : Nat → Nat} {ids : Nat → Int32} {par : Nat → Option Nat} {rows : Nat → Nat → Int32} {cu pr n rd : Nat}  (hn : n ≤ 24)(hcu : cu < 18)(hp : PW n par) : RO l E (XP E a ids par rows cu pr n rd) yX0_independentSetSize cX0_independentSetSize 1 (some .int) 5 105 [.ref (a 0)] (if propB n par (rows cu) = true then nI (fb_ct (isF par (rows cu) n n).1 n) else -5) := by
  refine RO.mk (C := RX0) rfl rfl (by decide) rfl (Nat.le_of_ble_eq_true rfl) ?_
  intro p e s m args below meth c H Q hC hK hP hret ls hl
  obtain ⟨hx, hb, hml, hown, hts⟩ := id hC
  have hl : lv_has ls 1 [(0, .ref (a 0))] := hl
  refine lv_aload_n hx hb dX0_independentSetSize_0 rfl (lv_at hl 0 rfl) ?_
  refine roV (As := []) hC kX0_87 (cX_proper  hn hcu hp) hK hP (x_rec hK hP) rfl rfl hl ⟨Nat.le_of_ble_eq_true rfl, Nat.le_of_ble_eq_true rfl⟩ (Nat.le_of_ble_eq_true rfl) dX0_independentSetSize_1 ⟨Nat.le_of_ble_eq_true rfl, Nat.le_of_ble_eq_true rfl⟩ ?_
  refine bv_ne (tgt := 10) hx hb dX0_independentSetSize_4 (by decide) (fun c_4 => ?_) (fun c_4 => ?_)
  · refine lv_aload_n hx hb dX0_independentSetSize_10 rfl (lv_at hl 0 rfl) ?_
    refine roV (As := []) hC kX0_104 (cX_iset  hn hcu hp) hK hP (x_rec hK hP) rfl rfl hl ⟨Nat.le_of_ble_eq_true rfl, Nat.le_of_ble_eq_true rfl⟩ (Nat.le_of_ble_eq_true rfl) dX0_independentSetSize_11 ⟨Nat.le_of_ble_eq_true rfl, Nat.le_of_ble_eq_true rfl⟩ ?_
    refine roS (As := [.int (mk n ((isF par (rows cu) n n).1))]) hC kX0_55 (cJ_bit ((isF par (rows cu) n n).1) hn) hK (P := fun _ => True) trivial rfl rfl hl ⟨Nat.le_of_ble_eq_true rfl, Nat.le_of_ble_eq_true rfl⟩ (Nat.le_of_ble_eq_true rfl) dX0_independentSetSize_14 ⟨Nat.le_of_ble_eq_true rfl, Nat.le_of_ble_eq_true rfl⟩ ?_
    exact hret _ _ _ dX0_independentSetSize_17 (by rw [if_pos c_4])
  · refine lv_bipush (v := (-5)) hx hb dX0_independentSetSize_7 (by decide) ?_
    exact hret _ _ _ dX0_independentSetSize_9 (by rw [if_neg (by rw [c_4]; simp)])
set_option maxRecDepth 100000 in
set_option maxHeartbeats 4000000 in
theorem cX_gis {l : Launch} {E : EE} {a : Nat → Nat} {ids : Nat → Int32} {par : Nat → Option Nat} {rows : Nat → Nat → Int32} {cu pr n rd : Nat} (x : Int32) (hn : n ≤ 24)(hp : PW n par) : RO l E (XP E a ids par rows cu pr n rd) yX0_greatestIndependentSet cX0_greatestIndependentSet 6 (some .int) 4 89 [.ref (a 0), .int (x)] (oN (vN n x) (fun v => nI (giF par n n (partW par n v) 0))) := by
  refine RO.mk (C := RX0) rfl rfl (by decide) rfl (Nat.le_of_ble_eq_true rfl) ?_
  intro p e s m args below meth c H Q hC hK hP hret ls hl
  obtain ⟨hx, hb, hml, hown, hts⟩ := id hC
  have hl : lv_has ls 6 [(0, .ref (a 0)), (1, .int (x))] := hl
  refine lv_aload_n hx hb dX0_greatestIndependentSet_0 rfl (lv_at hl 0 rfl) ?_
  refine lv_iload_n hx hb dX0_greatestIndependentSet_1 rfl (lv_at hl 1 rfl) ?_
  refine roV (As := [.int (x)]) hC kX0_44 (cX_isNode ((x)) ) hK hP (x_rec hK hP) rfl rfl hl ⟨Nat.le_of_ble_eq_true rfl, Nat.le_of_ble_eq_true rfl⟩ (Nat.le_of_ble_eq_true rfl) dX0_greatestIndependentSet_2 ⟨Nat.le_of_ble_eq_true rfl, Nat.le_of_ble_eq_true rfl⟩ ?_
  refine bv_ne (tgt := 10) hx hb dX0_greatestIndependentSet_5 (by decide) (fun c_5 => ?_) (fun c_5 => ?_)
  · obtain ⟨v, hv, rfl⟩ := vN_t hn c_5
    refine lv_aload_n hx hb dX0_greatestIndependentSet_10 rfl (lv_at hl 0 rfl) ?_
    refine lv_iload_n hx hb dX0_greatestIndependentSet_11 rfl (lv_at hl 1 rfl) ?_
    refine roV (As := [.int (nI (v))]) hC kX0_67 (cX_part v hn hp (by omega)) hK hP (x_rec hK hP) rfl rfl hl ⟨Nat.le_of_ble_eq_true rfl, Nat.le_of_ble_eq_true rfl⟩ (Nat.le_of_ble_eq_true rfl) dX0_greatestIndependentSet_12 ⟨Nat.le_of_ble_eq_true rfl, Nat.le_of_ble_eq_true rfl⟩ ?_
    refine lv_istore_n (lv' := [(2, .int (mk n (partW par n v))), (0, .ref (a 0)), (1, .int (nI (v)))]) hx hb dX0_greatestIndependentSet_15 rfl hl (by decide) rfl (fun ls hl => ?_)
    refine lv_iconst (v := (nI (0))) hx hb dX0_greatestIndependentSet_16 (by decide) ?_
    refine lv_istore_n (lv' := [(3, .int (nI (0))), (2, .int (mk n (partW par n v))), (0, .ref (a 0)), (1, .int (nI (v)))]) hx hb dX0_greatestIndependentSet_17 rfl hl (by decide) rfl (fun ls hl => ?_)
    refine lv_iconst (v := (nI (0))) hx hb dX0_greatestIndependentSet_18 (by decide) ?_
    refine lv_istore (lv' := [(4, .int (nI (0))), (3, .int (nI (0))), (2, .int (mk n (partW par n v))), (0, .ref (a 0)), (1, .int (nI (v)))]) hx hb dX0_greatestIndependentSet_19 hl (by decide) rfl (fun ls hl => ?_)
    have loop_21 : ∀ (fuel : Nat) (k : Nat) (w : Nat → Bool) (z : Nat), (k ≤ n) → (z ≤ k) → (giF par n (n - k) w z = giF par n n (partW par n v) 0) → n - k < fuel → ∀ (ls : Array Slot), lv_has ls 6 [(0, .ref (a 0)), (1, .int (nI (v))), (2, .int (mk n (w))), (3, .int (nI (z))), (4, .int (nI (k)))] → W p l e (k2_rm 4 89) s m args below meth c H [] 0 0 Q (F0 m 21 ls []) := by
      intro fuel
      induction fuel with
      | zero => intro k w z hk hz hg hm; exact absurd hm (Nat.not_lt_zero _)
      | succ fuel ih_21 =>
        intro k w z hk hz hg hm ls hl
        refine lv_iload hx hb dX0_greatestIndependentSet_21 (lv_at hl 4 rfl) ?_
        refine lv_aload_n hx hb dX0_greatestIndependentSet_23 rfl (lv_at hl 0 rfl) ?_
        refine x_g5 hC hK hP dX0_greatestIndependentSet_24 ?_
        refine nv_ge (tgt := 82) hx hb (by omega) (by omega) dX0_greatestIndependentSet_27 (by decide) (fun c_27 => ?_) (fun c_27 => ?_)
        · refine lv_iload_n hx hb dX0_greatestIndependentSet_82 rfl (lv_at hl 3 rfl) ?_
          exact hret _ _ _ dX0_greatestIndependentSet_83 (by rw [oN_in hn hv, ← hg, show n - k = 0 by omega]; rfl)
        · refine lv_iload_n hx hb dX0_greatestIndependentSet_30 rfl (lv_at hl 2 rfl) ?_
          refine lv_if_eq (tgt := 82) hx hb dX0_greatestIndependentSet_31 (by decide) (fun c_31 => ?_) (fun c_31 => ?_)
          · rw [mk_any hn] at c_31
            refine lv_iload_n hx hb dX0_greatestIndependentSet_82 rfl (lv_at hl 3 rfl) ?_
            exact hret _ _ _ dX0_greatestIndependentSet_83 (by rw [oN_in hn hv, ← hg, giF_0 c_31])
          · rw [mk_any hn] at c_31
            have hw : anyB w n = true := by simpa using c_31
            refine lv_aload_n hx hb dX0_greatestIndependentSet_34 rfl (lv_at hl 0 rfl) ?_
            refine lv_iload_n hx hb dX0_greatestIndependentSet_35 rfl (lv_at hl 2 rfl) ?_
            refine roV (As := [.int (mk n (w))]) hC kX0_107 (cX_end w hn hp) hK hP (x_rec hK hP) rfl rfl hl ⟨Nat.le_of_ble_eq_true rfl, Nat.le_of_ble_eq_true rfl⟩ (Nat.le_of_ble_eq_true rfl) dX0_greatestIndependentSet_36 ⟨Nat.le_of_ble_eq_true rfl, Nat.le_of_ble_eq_true rfl⟩ ?_
            refine lv_istore (lv' := [(5, .int (pe (endF par n w))), (0, .ref (a 0)), (1, .int (nI (v))), (2, .int (mk n (w))), (3, .int (nI (z))), (4, .int (nI (k)))]) hx hb dX0_greatestIndependentSet_39 hl (by decide) rfl (fun ls hl => ?_)
            refine lv_iload hx hb dX0_greatestIndependentSet_41 (lv_at hl 0 rfl) ?_
            refine lv_bipush (v := (-7)) hx hb dX0_greatestIndependentSet_43 (by decide) ?_
            refine pv_ne7 (tgt := 57) hx hb (fun u hu => by have := (endF_lt hu).1; omega) dX0_greatestIndependentSet_45 (by decide) (fun c_45 => ?_) (fun c_45 => ?_)
            · obtain ⟨q, hq'⟩ := ex_some c_45
              have hq := (endF_lt hq').1
              rw [hq', show pe (some q) = nI q from rfl] at hl
              refine lv_iload_n hx hb dX0_greatestIndependentSet_57 rfl (lv_at hl 3 rfl) ?_
              refine lv_aload_n hx hb dX0_greatestIndependentSet_58 rfl (lv_at hl 1 rfl) ?_
              refine lv_iload hx hb dX0_greatestIndependentSet_59 (lv_at hl 0 rfl) ?_
              refine roV (As := [.int (nI (q))]) hC kX0_51 (cX_neigh q hn hp (by omega)) hK hP (x_rec hK hP) rfl rfl hl ⟨Nat.le_of_ble_eq_true rfl, Nat.le_of_ble_eq_true rfl⟩ (Nat.le_of_ble_eq_true rfl) dX0_greatestIndependentSet_61 ⟨Nat.le_of_ble_eq_true rfl, Nat.le_of_ble_eq_true rfl⟩ ?_
              refine lv_iconst (v := (1)) hx hb dX0_greatestIndependentSet_64 (by decide) ?_
              refine lv_iload hx hb dX0_greatestIndependentSet_65 (lv_at hl 0 rfl) ?_
              refine lv_ishl hx hb dX0_greatestIndependentSet_67 ?_
              refine lv_ior hx hb dX0_greatestIndependentSet_68 ?_
              refine tI ((mk n (fun j => nb par q j || j == q))) (mk_ins hn hq _) ?_
              refine lv_iconst (v := (-1)) hx hb dX0_greatestIndependentSet_69 (by decide) ?_
              refine lv_ixor hx hb dX0_greatestIndependentSet_70 ?_
              refine lv_iand hx hb dX0_greatestIndependentSet_71 ?_
              refine tI ((mk n (fun j => w j && !(nb par q j || j == q)))) (mk_sub _ _ _) ?_
              refine lv_istore_n (lv' := [(2, .int (mk n (fun j => w j && !(nb par q j || j == q)))), (5, .int (nI (q))), (0, .ref (a 0)), (1, .int (nI (v))), (3, .int (nI (z))), (4, .int (nI (k)))]) hx hb dX0_greatestIndependentSet_72 rfl hl (by decide) rfl (fun ls hl => ?_)
              refine lv_iinc (v := (nI (z + 1))) (lv' := [(3, .int (nI (z + 1))), (2, .int (mk n (fun j => w j && !(nb par q j || j == q)))), (5, .int (nI (q))), (0, .ref (a 0)), (1, .int (nI (v))), (4, .int (nI (k)))]) hx hb dX0_greatestIndependentSet_73 hl (k := 4) rfl (nI_inc _) (by decide) rfl (fun ls hl => ?_)
              refine lv_iinc (v := (nI (k + 1))) (lv' := [(4, .int (nI (k + 1))), (3, .int (nI (z + 1))), (2, .int (mk n (fun j => w j && !(nb par q j || j == q)))), (5, .int (nI (q))), (0, .ref (a 0)), (1, .int (nI (v)))]) hx hb dX0_greatestIndependentSet_76 hl (k := 5) rfl (nI_inc _) (by decide) rfl (fun ls hl => ?_)
              refine lv_goto (tgt := 21) hx hb dX0_greatestIndependentSet_79 (by decide) ?_
              exact ih_21 (k + 1) (fun j => w j && !(nb par q j || j == q)) (z + 1) (by omega) (by omega) (by rw [← hg, show n - k = (n - (k + 1)) + 1 by omega, giF_s hw hq']) (by omega) ls (lv_sub hl [4, 5, 2, 1, 0] rfl)
            · refine lv_iload_n hx hb dX0_greatestIndependentSet_48 rfl (lv_at hl 4 rfl) ?_
              refine lv_iload_n hx hb dX0_greatestIndependentSet_49 rfl (lv_at hl 3 rfl) ?_
              refine roS (As := [.int (mk n (w))]) hC kX0_55 (cJ_bit w hn) hK (P := fun _ => True) trivial rfl rfl hl ⟨Nat.le_of_ble_eq_true rfl, Nat.le_of_ble_eq_true rfl⟩ (Nat.le_of_ble_eq_true rfl) dX0_greatestIndependentSet_50 ⟨Nat.le_of_ble_eq_true rfl, Nat.le_of_ble_eq_true rfl⟩ ?_
              refine lv_iconst (v := (nI (2))) hx hb dX0_greatestIndependentSet_53 (by decide) ?_
              refine lv_idiv hx hb dX0_greatestIndependentSet_54 (by decide) ?_
              refine tI ((nI (fb_ct w n / 2))) (pk_div (by have := fb_ct_le w n; omega) (by omega) (by omega)) ?_
              refine lv_iadd hx hb dX0_greatestIndependentSet_55 ?_
              refine tI (nI (z + (fb_ct w n / 2))) (nI_add _ _) ?_
              exact hret _ _ _ dX0_greatestIndependentSet_56 (by rw [oN_in hn hv, ← hg, show n - k = (n - (k + 1)) + 1 by omega, giF_n hw c_45])
    exact loop_21 (n - 0 + 1) 0 (partW par n v) 0 (Nat.zero_le _) (Nat.le_refl _) (rfl) (Nat.lt_succ_self _) ls (lv_sub hl [3, 4, 2, 1, 0] rfl)
  · refine lv_iconst (v := (-1)) hx hb dX0_greatestIndependentSet_8 (by decide) ?_
    exact hret _ _ _ dX0_greatestIndependentSet_9 ((oN_out c_5 _).symm)
end
section
-- WHAT THE WRITERS DO TO THE STATE
def oU {α β : Type} (o : Option α) (f : α → β) (d : β) : β := match o with
  | some x => f x
  | none => d
theorem oU_none {α β : Type} {o : Option α} {f : α → β} {d : β} (h : o = none) : oU o f d = d := by rw [h]; rfl
theorem oU_some {α β : Type} {o : Option α} {f : α → β} {d : β} {x : α} (h : o = some x) : oU o f d = f x := by rw [h]; rfl
def okSP (n : Nat) (x y : Int32) : Option (Nat × Nat) := match vN n x, vN n y with
  | some v, some u => if v = u then none else some (v, u)
  | _, _ => none
theorem okSP_1 {n : Nat} {x y : Int32} (h : (vN n x).isSome = false) : okSP n x y = none := by unfold okSP; rw [vN_f h]
theorem okSP_2 {n : Nat} {x y : Int32} (h : (vN n y).isSome = false) : okSP n x y = none := by
  unfold okSP; rw [vN_f h]; cases vN n x <;> rfl
theorem okSP_3 {n v : Nat} (hn : n ≤ 24) (hv : v < n) : okSP n (nI v) (nI v) = none := by unfold okSP; rw [vN_nI hn hv]; simp
theorem okSP_4 {n v u : Nat} (hn : n ≤ 24) (hv : v < n) (hu : u < n) (h : ¬ v = u) : okSP n (nI v) (nI u) = some (v, u) := by unfold okSP; rw [vN_nI hn hv, vN_nI hn hu]; simp [h]
def spRes (n : Nat) (par : Nat → Option Nat) (x y : Int32) : Int32 := match vN n x, vN n y with
  | some v, some u => if v = u then -2 else pe (par v)
  | _, _ => -1
theorem spRes_1 {n : Nat} {par : Nat → Option Nat} {x y : Int32} (h : (vN n x).isSome = false) : spRes n par x y = -1 := by unfold spRes; rw [vN_f h]
theorem spRes_2 {n : Nat} {par : Nat → Option Nat} {x y : Int32} (h : (vN n y).isSome = false) : spRes n par x y = -1 := by
  unfold spRes; rw [vN_f h]; cases vN n x <;> rfl
theorem spRes_3 {n v : Nat} {par : Nat → Option Nat} (hn : n ≤ 24) (hv : v < n) : spRes n par (nI v) (nI v) = -2 := by unfold spRes; rw [vN_nI hn hv]; simp
theorem spRes_4 {n v u : Nat} {par : Nat → Option Nat} (hn : n ≤ 24) (hv : v < n) (hu : u < n) (h : ¬ v = u) : spRes n par (nI v) (nI u) = pe (par v) := by unfold spRes; rw [vN_nI hn hv, vN_nI hn hu]; simp [h]
/-- addNode goes through -/
def okAN (n : Nat) (ids : Nat → Int32) (x : Int32) : Bool := vV x && !anyB (fun j => decide (ids j = x)) n && decide (n < 24)
def anRes (n : Nat) (ids : Nat → Int32) (x : Int32) : Int32 := if vV x = false then -2 else if anyB (fun j => decide (ids j = x)) n = true then -3 else if n < 24 then nI n else -4
/-- setColour goes through -/
def okSC (n : Nat) (x y : Int32) : Option Nat := if vV y = true then vN n x else none
def setR (rows : Nat → Nat → Int32) (pr v : Nat) (c : Int32) : Nat → Nat → Int32 := va_up rows pr (va_up (rows pr) v c)
def rsR (rows : Nat → Nat → Int32) (pr : Nat) (ids : Nat → Int32) (k : Nat) : Nat → Nat → Int32 := va_up rows pr (fun j => if j < k then ids j else rows pr j)
theorem va_up_id {α : Type} (f : Nat → α) (k : Nat) : va_up f k (f k) = f := by
  funext j
  by_cases h : j = k
  · subst h; rw [va_up_self]
  · rw [va_up_ne _ _ h]
theorem va_up2 {α : Type} (f : Nat → α) (k : Nat) (x y : α) : va_up (va_up f k x) k y = va_up f k y := by
  funext j
  by_cases h : j = k
  · subst h; rw [va_up_self, va_up_self]
  · rw [va_up_ne _ _ h, va_up_ne _ _ h, va_up_ne _ _ h]
theorem rsR_0 (rows : Nat → Nat → Int32) (pr : Nat) (ids : Nat → Int32) : rsR rows pr ids 0 = rows := by
  unfold rsR
  rw [show (fun j => if j < 0 then ids j else rows pr j) = rows pr from funext fun j => if_neg (Nat.not_lt_zero _), va_up_id]
theorem rsR_at (rows : Nat → Nat → Int32) (pr : Nat) (ids : Nat → Int32) (k : Nat) : rsR rows pr ids k pr k = rows pr k := by
  unfold rsR; rw [va_up_self]; simp
theorem rsR_s (rows : Nat → Nat → Int32) (pr : Nat) (ids : Nat → Int32) (k : Nat) : va_up (rsR rows pr ids k) pr (va_up (rsR rows pr ids k pr) k (ids k)) = rsR rows pr ids (k + 1) := by
  unfold rsR
  rw [va_up2, va_up_self]
  congr 1
  funext j
  by_cases h : j = k
  · subst h; rw [va_up_self, if_pos (by omega)]
  · rw [va_up_ne _ _ h]
    by_cases h2 : j < k
    · rw [if_pos h2, if_pos (by omega)]
    · rw [if_neg h2, if_neg (by omega)]
theorem rsR_e {rows : Nat → Nat → Int32} {pr : Nat} {ids : Nat → Int32} {k : Nat} (h : rows pr k = ids k) : rsR rows pr ids (k + 1) = rsR rows pr ids k := by
  unfold rsR
  congr 1
  funext j
  by_cases h1 : j = k
  · subst h1; rw [if_pos (by omega), if_neg (by omega), h]
  · by_cases h2 : j < k
    · rw [if_pos h2, if_pos (by omega)]
    · rw [if_neg h2, if_neg (by omega)]
-- rounds: the row behind the present one is filled, then it is the present
def fR (rows : Nat → Nat → Int32) (pr : Nat) (f : Nat → Int32) (k : Nat) : Nat → Nat → Int32 := va_up rows (nxR pr) (fun j => if j < k then f j else rows (nxR pr) j)
theorem nxR_lt {pr : Nat} (h : pr < 18) : nxR pr < 18 := by unfold nxR; split <;> omega
theorem nxR_ne {pr : Nat} (h : pr < 18) : pr ≠ nxR pr := by unfold nxR; split <;> omega
theorem fR_pr {rows : Nat → Nat → Int32} {pr : Nat} (h : pr < 18) (f : Nat → Int32) (k : Nat) : fR rows pr f k pr = rows pr := by unfold fR; rw [va_up_ne _ _ (nxR_ne h)]
theorem fR_nx (rows : Nat → Nat → Int32) (pr : Nat) (f : Nat → Int32) (k : Nat) : fR rows pr f k (nxR pr) = fun j => if j < k then f j else rows (nxR pr) j := by unfold fR; rw [va_up_self]
theorem fR_0 (rows : Nat → Nat → Int32) (pr : Nat) (f : Nat → Int32) : fR rows pr f 0 = rows := by
  unfold fR
  rw [show (fun j => if j < 0 then f j else rows (nxR pr) j) = rows (nxR pr) from funext fun j => if_neg (Nat.not_lt_zero _), va_up_id]
theorem fR_s (rows : Nat → Nat → Int32) (pr : Nat) (f : Nat → Int32) (k : Nat) : va_up (fR rows pr f k) (nxR pr) (va_up (fR rows pr f k (nxR pr)) k (f k)) = fR rows pr f (k + 1) := by
  unfold fR
  rw [va_up2, va_up_self]
  congr 1
  funext j
  by_cases h : j = k
  · subst h; rw [va_up_self, if_pos (by omega)]
  · rw [va_up_ne _ _ h]
    by_cases h2 : j < k
    · rw [if_pos h2, if_pos (by omega)]
    · rw [if_neg h2, if_neg (by omega)]
/-- a place is written twice -/
theorem fR_w (rows : Nat → Nat → Int32) (pr : Nat) (f : Nat → Int32) (k : Nat) (x y : Int32) : va_up (va_up (fR rows pr f k) (nxR pr) (va_up (fR rows pr f k (nxR pr)) k x)) (nxR pr) (va_up (va_up (fR rows pr f k) (nxR pr) (va_up (fR rows pr f k (nxR pr)) k x) (nxR pr)) k y) = va_up (fR rows pr f k) (nxR pr) (va_up (fR rows pr f k (nxR pr)) k y) := by
  rw [va_up2, va_up_self, va_up2]
abbrev RS : Type := (Nat → Nat → Int32) × Nat × Nat
def redC (par : Nat → Option Nat) (col : Nat → Int32) (v : Nat) : Int32 := 2 * rbit par col v + ((col v >>> (rbit par col v &&& 31)) &&& 1)
def elK (par : Nat → Option Nat) (n : Nat) (col : Nat → Int32) (c : Int32) : Option Nat := fst (fun v => decide (col v = c) && (freF par col n v 3).isNone) n
def elC (par : Nat → Option Nat) (n : Nat) (col : Nat → Int32) (c : Int32) (v : Nat) : Int32 := if col v = c then pe (freF par col n v 3) else col v
def redS (par : Nat → Option Nat) (n : Nat) (S : RS) : RS := (fR S.1 S.2.1 (redC par (S.1 S.2.1)) n, nxR S.2.1, S.2.2 + 1)
def shS (par : Nat → Option Nat) (n : Nat) (S : RS) : RS := (fR S.1 S.2.1 (shc par (S.1 S.2.1)) n, nxR S.2.1, S.2.2 + 1)
def elS (par : Nat → Option Nat) (n : Nat) (c : Int32) (S : RS) : RS := match elK par n (S.1 S.2.1) c with
  | none => (fR S.1 S.2.1 (elC par n (S.1 S.2.1) c) n, nxR S.2.1, S.2.2 + 1)
  | some k => (fR S.1 S.2.1 (elC par n (S.1 S.2.1) c) (k + 1), S.2.1, S.2.2)
def elRes (par : Nat → Option Nat) (n : Nat) (c : Int32) (col : Nat → Int32) : Int32 := match elK par n col c with
  | none => nI (fb_ct (fun v => decide (col v = c)) n)
  | some _ => -6
def shCnt (par : Nat → Option Nat) (col : Nat → Int32) (n : Nat) : Nat := fb_ct (fun j => !decide (shc par col j = col j)) n
theorem elS_n {par : Nat → Option Nat} {n : Nat} {c : Int32} {rows : Nat → Nat → Int32} {pr rd : Nat} (h : elK par n (rows pr) c = none) : elS par n c (rows, pr, rd) = (fR rows pr (elC par n (rows pr) c) n, nxR pr, rd + 1) := by unfold elS; simp only; rw [h]
theorem elS_s {par : Nat → Option Nat} {n : Nat} {c : Int32} {rows : Nat → Nat → Int32} {pr rd k : Nat} (h : elK par n (rows pr) c = some k) : elS par n c (rows, pr, rd) = (fR rows pr (elC par n (rows pr) c) (k + 1), pr, rd) := by unfold elS; simp only; rw [h]
/-- reductions as long as the greatest colour is above 5, at most f -/
def redL (par : Nat → Option Nat) (n : Nat) : Nat → RS → RS
  | 0, S => S
  | f + 1, S => if 5 < mxF (S.1 S.2.1) n then redL par n f (redS par n S) else S
theorem redL_t {par : Nat → Option Nat} {n f : Nat} {S : RS} (h : 5 < mxF (S.1 S.2.1) n) : redL par n (f + 1) S = redL par n f (redS par n S) := by rw [redL, if_pos h]
theorem redL_f {par : Nat → Option Nat} {n f : Nat} {S : RS} (h : ¬ 5 < mxF (S.1 S.2.1) n) : redL par n f S = S := by
  cases f with
  | zero => rfl
  | succ f => rw [redL, if_neg h]
def tailS (par : Nat → Option Nat) (n : Nat) : Nat → RS → RS
  | 0, S => S
  | j + 1, S => elS par n (nI (5 - j)) (shS par n (tailS par n j S))
def rt3S (par : Nat → Option Nat) (n : Nat) (S : RS) : RS := tailS par n 3 (redL par n 16 S)
theorem redS_ok {par : Nat → Option Nat} {n : Nat} {S : RS} (h : S.2.1 < 18) : (redS par n S).2.1 < 18 := nxR_lt h
theorem shS_ok {par : Nat → Option Nat} {n : Nat} {S : RS} (h : S.2.1 < 18) : (shS par n S).2.1 < 18 := nxR_lt h
theorem elS_ok {par : Nat → Option Nat} {n : Nat} {c : Int32} {S : RS} (h : S.2.1 < 18) : (elS par n c S).2.1 < 18 := by
  unfold elS; split
  · exact nxR_lt h
  · exact h
theorem elS_rd {par : Nat → Option Nat} {n : Nat} {c : Int32} {S : RS} : S.2.2 ≤ (elS par n c S).2.2 := by
  unfold elS; split
  · exact Nat.le_succ _
  · exact Nat.le_refl _
theorem tailS_ok {par : Nat → Option Nat} {n : Nat} {S : RS} (h : S.2.1 < 18) : ∀ j, (tailS par n j S).2.1 < 18 ∧ S.2.2 ≤ (tailS par n j S).2.2
  | 0 => ⟨h, Nat.le_refl _⟩
  | j + 1 => by
    have ih := tailS_ok (par := par) (n := n) h j
    refine ⟨elS_ok (shS_ok ih.1), Nat.le_trans ih.2 (Nat.le_trans ?_ elS_rd)⟩
    exact Nat.le_succ _
theorem redL_ok {par : Nat → Option Nat} {n : Nat} : ∀ (f : Nat) (S : RS), S.2.1 < 18 → (redL par n f S).2.1 < 18 ∧ S.2.2 ≤ (redL par n f S).2.2
  | 0, S, h => ⟨h, Nat.le_refl _⟩
  | f + 1, S, h => by
    rw [redL]
    split
    · have ih := redL_ok (par := par) (n := n) f (redS par n S) (redS_ok h)
      exact ⟨ih.1, Nat.le_trans (Nat.le_succ _) ih.2⟩
    · exact ⟨h, Nat.le_refl _⟩
theorem m1_5 {j : Nat} (h : j < 3) : nI (5 - j) + Int32.ofInt (-1) = nI (5 - (j + 1)) := by
  rw [show 5 - j = (5 - (j + 1)) + 1 by omega]
  exact pk_m1 _
end
section
-- the class: methods that write (laid by wip/whole/gen/spec_x4.py)
theorem fre_lt {par : Nat → Option Nat} {col : Nat → Int32} {n v m : Nat} (hm : m ≤ 24) : ∀ u, freF par col n v m = some u → u < 2 ^ 31 := by
  intro u hu
  rcases fst_spec (p := fun c => !bes par col n v (nI c)) (n := m) with ⟨h1, -⟩ | ⟨k, h1, h2, -, -⟩
  · rw [freF, h1] at hu; cases hu
  · rw [freF, h1] at hu; cases hu; omega
def okEL (n : Nat) (par : Nat → Option Nat) (col : Nat → Int32) (y : Int32) : Bool := !decide (y < 3) && vV y && propB n par col
theorem okEL_1 {n : Nat} {par : Nat → Option Nat} {col : Nat → Int32} {y : Int32} (h : y < 3) : okEL n par col y = false := by simp [okEL, h]
theorem okEL_2 {n : Nat} {par : Nat → Option Nat} {col : Nat → Int32} {y : Int32} (h : vV y = false) : okEL n par col y = false := by simp [okEL, h]
theorem okEL_3 {n : Nat} {par : Nat → Option Nat} {col : Nat → Int32} {y : Int32} (h : propB n par col = false) : okEL n par col y = false := by simp [okEL, h]
theorem okEL_4 {n : Nat} {par : Nat → Option Nat} {col : Nat → Int32} {y : Int32} (h1 : ¬ y < 3) (h2 : vV y = true) (h3 : propB n par col = true) : okEL n par col y = true := by simp [okEL, h1, h2, h3]
set_option maxRecDepth 100000 in
set_option maxHeartbeats 4000000 in
theorem cX_start {l : Launch} {E : EE} {a : Nat → Nat} {ids : Nat → Int32} {par : Nat → Option Nat} {rows : Nat → Nat → Int32} {cu pr n rd : Nat}  (hI : inj 22 a) : WR l E (XP E a ids par rows cu pr n rd) (AX a) yX0_startCount cX0_startCount 1 none 0 0 [.ref (a 0)] none (XP E a ids par rows cu pr n 0) := by
  refine WR.mkV (C := RX0) rfl (by decide) rfl (Nat.le_of_ble_eq_true rfl) ?_
  intro p e s m args below meth c H0 Q hC hK hP hret ls hl
  obtain ⟨hx, hb, hml, hown, hts⟩ := id hC
  have hl : lv_has ls 1 [(0, .ref (a 0))] := hl
  have hS : va_S (AX a) H0 H0 [] := va_S.rf
  have hP : XP E a ids par rows cu pr n rd H0 := hP
  refine lv_aload_n hx hb dX0_startCount_0 rfl (lv_at hl 0 rfl) ?_
  refine lv_iconst (v := (nI (0))) hx hb dX0_startCount_1 (by decide) ?_
  refine x_p6 hC hK hI hP hS dX0_startCount_2 (fun H locs hP hS => ?_)
  exact hret _ _ _ _ (hP) hS dX0_startCount_5
set_option maxRecDepth 100000 in
set_option maxHeartbeats 4000000 in
theorem cX_replace {l : Launch} {E : EE} {a : Nat → Nat} {ids : Nat → Int32} {par : Nat → Option Nat} {rows : Nat → Nat → Int32} {cu pr n rd : Nat} (v : Nat) (o : Option Nat) (hI : inj 22 a)(hv : v < 24) : WR l E (XP E a ids par rows cu pr n rd) (AX a) yX0_replaceParent cX0_replaceParent 4 (some .int) 1 20 [.ref (a 0), .int (nI (v)), .int (pe (o))] (some (.int (pe (par v)))) (XP E a ids (va_up par v o) rows cu pr n 0) := by
  refine WR.mkI (C := RX0) rfl rfl (by decide) rfl (Nat.le_of_ble_eq_true rfl) ?_
  intro p e s m args below meth c H0 Q hC hK hP hret ls hl
  obtain ⟨hx, hb, hml, hown, hts⟩ := id hC
  have hl : lv_has ls 4 [(0, .ref (a 0)), (1, .int (nI (v))), (2, .int (pe (o)))] := hl
  have hS : va_S (AX a) H0 H0 [] := va_S.rf
  have hP : XP E a ids par rows cu pr n rd H0 := hP
  refine lv_aload_n hx hb dX0_replaceParent_0 rfl (lv_at hl 0 rfl) ?_
  refine x_g1 hC hK hP dX0_replaceParent_1 ?_
  refine lv_iload_n hx hb dX0_replaceParent_4 rfl (lv_at hl 1 rfl) ?_
  refine x_ldP hx hb hK hP (by omega) dX0_replaceParent_5 ?_
  refine lv_istore_n (lv' := [(3, .int (pe (par v))), (0, .ref (a 0)), (1, .int (nI (v))), (2, .int (pe (o)))]) hx hb dX0_replaceParent_6 rfl hl (by decide) rfl (fun ls hl => ?_)
  refine lv_aload_n hx hb dX0_replaceParent_7 rfl (lv_at hl 1 rfl) ?_
  refine x_g1 hC hK hP dX0_replaceParent_8 ?_
  refine lv_iload_n hx hb dX0_replaceParent_11 rfl (lv_at hl 2 rfl) ?_
  refine lv_iload_n hx hb dX0_replaceParent_12 rfl (lv_at hl 3 rfl) ?_
  refine x_stP (x := o) hx hb hK hI hP hS (by omega) dX0_replaceParent_13 (fun H locs hP hS => ?_)
  refine lv_aload_n hx hb dX0_replaceParent_14 rfl (lv_at hl 1 rfl) ?_
  refine wrV (As := []) hC kX0_41 (cX_start  hI) hK hP (x_rec hK hP) hS (fun _ h => h) rfl rfl hl ⟨Nat.le_of_ble_eq_true rfl, Nat.le_of_ble_eq_true rfl⟩ (Nat.le_of_ble_eq_true rfl) dX0_replaceParent_15 ⟨Nat.le_of_ble_eq_true rfl, Nat.le_of_ble_eq_true rfl⟩ (fun H locs hP hS _ _ => ?_)
  refine lv_iload_n hx hb dX0_replaceParent_18 rfl (lv_at hl 0 rfl) ?_
  exact hret _ _ _ _ _ (hP) hS dX0_replaceParent_19 (by first | rfl | omega | simp_all)
set_option maxRecDepth 100000 in
set_option maxHeartbeats 4000000 in
theorem cX_setParent {l : Launch} {E : EE} {a : Nat → Nat} {ids : Nat → Int32} {par : Nat → Option Nat} {rows : Nat → Nat → Int32} {pr n rd : Nat} (x y : Int32) (hI : inj 22 a)(hn : n ≤ 24) : WR l E (XP E a ids par rows pr pr n rd) (AX a) yX0_setParent cX0_setParent 3 (some .int) 2 43 [.ref (a 0), .int (x), .int (y)] (some (.int (spRes n par x y))) (XP E a ids (oU (okSP n x y) (fun q => va_up par q.1 (some q.2)) par) rows pr pr n (oU (okSP n x y) (fun _ => 0) rd)) := by
  refine WR.mkI (C := RX0) rfl rfl (by decide) rfl (Nat.le_of_ble_eq_true rfl) ?_
  intro p e s m args below meth c H0 Q hC hK hP hret ls hl
  obtain ⟨hx, hb, hml, hown, hts⟩ := id hC
  have hl : lv_has ls 3 [(0, .ref (a 0)), (1, .int (x)), (2, .int (y))] := hl
  have hS : va_S (AX a) H0 H0 [] := va_S.rf
  have hP : XP E a ids par rows pr pr n rd H0 := hP
  refine lv_aload_n hx hb dX0_setParent_0 rfl (lv_at hl 0 rfl) ?_
  refine lv_iload_n hx hb dX0_setParent_1 rfl (lv_at hl 1 rfl) ?_
  refine roV (As := [.int (x)]) hC kX0_44 (cX_isNode ((x)) ) hK hP (x_rec hK hP) rfl rfl hl ⟨Nat.le_of_ble_eq_true rfl, Nat.le_of_ble_eq_true rfl⟩ (Nat.le_of_ble_eq_true rfl) dX0_setParent_2 ⟨Nat.le_of_ble_eq_true rfl, Nat.le_of_ble_eq_true rfl⟩ ?_
  refine bv_eq (tgt := 16) hx hb dX0_setParent_5 (by decide) (fun c_5 => ?_) (fun c_5 => ?_)
  · refine lv_iconst (v := (-1)) hx hb dX0_setParent_16 (by decide) ?_
    exact hret _ _ _ _ _ (by rw [oU_none (okSP_1 c_5), oU_none (okSP_1 c_5)]; exact hP) hS dX0_setParent_17 ((spRes_1 c_5).symm)
  · obtain ⟨v, hv, rfl⟩ := vN_t hn c_5
    refine lv_aload_n hx hb dX0_setParent_8 rfl (lv_at hl 0 rfl) ?_
    refine lv_iload_n hx hb dX0_setParent_9 rfl (lv_at hl 2 rfl) ?_
    refine roV (As := [.int (y)]) hC kX0_44 (cX_isNode ((y)) ) hK hP (x_rec hK hP) rfl rfl hl ⟨Nat.le_of_ble_eq_true rfl, Nat.le_of_ble_eq_true rfl⟩ (Nat.le_of_ble_eq_true rfl) dX0_setParent_10 ⟨Nat.le_of_ble_eq_true rfl, Nat.le_of_ble_eq_true rfl⟩ ?_
    refine bv_ne (tgt := 18) hx hb dX0_setParent_13 (by decide) (fun c_13 => ?_) (fun c_13 => ?_)
    · obtain ⟨u, hu, rfl⟩ := vN_t hn c_13
      refine lv_iload_n hx hb dX0_setParent_18 rfl (lv_at hl 1 rfl) ?_
      refine lv_iload_n hx hb dX0_setParent_19 rfl (lv_at hl 2 rfl) ?_
      refine nv_ne (tgt := 26) hx hb (by omega) (by omega) dX0_setParent_20 (by decide) (fun c_20 => ?_) (fun c_20 => ?_)
      · refine lv_aload_n hx hb dX0_setParent_26 rfl (lv_at hl 0 rfl) ?_
        refine lv_iload_n hx hb dX0_setParent_27 rfl (lv_at hl 1 rfl) ?_
        refine lv_iload_n hx hb dX0_setParent_28 rfl (lv_at hl 2 rfl) ?_
        refine wrV (As := [.int (nI (v)), .int (nI (u))]) hC kX0_47 (cX_replace v (some u) hI (by omega)) hK hP (x_rec hK hP) hS (fun _ h => h) rfl rfl hl ⟨Nat.le_of_ble_eq_true rfl, Nat.le_of_ble_eq_true rfl⟩ (Nat.le_of_ble_eq_true rfl) dX0_setParent_29 ⟨Nat.le_of_ble_eq_true rfl, Nat.le_of_ble_eq_true rfl⟩ (fun H locs hP hS _ _ => ?_)
        exact hret _ _ _ _ _ (by rw [oU_some (okSP_4 hn hv hu c_20), oU_some (okSP_4 hn hv hu c_20)]; exact hP) hS dX0_setParent_32 ((spRes_4 hn hv hu c_20).symm)
      · subst c_20
        refine lv_bipush (v := (-2)) hx hb dX0_setParent_23 (by decide) ?_
        exact hret _ _ _ _ _ (by rw [oU_none (okSP_3 hn hv), oU_none (okSP_3 hn hv)]; exact hP) hS dX0_setParent_25 ((spRes_3 hn hv).symm)
    · refine lv_iconst (v := (-1)) hx hb dX0_setParent_16 (by decide) ?_
      exact hret _ _ _ _ _ (by rw [oU_none (okSP_2 c_13), oU_none (okSP_2 c_13)]; exact hP) hS dX0_setParent_17 ((spRes_2 c_13).symm)
set_option maxRecDepth 100000 in
set_option maxHeartbeats 4000000 in
theorem cX_removeParent {l : Launch} {E : EE} {a : Nat → Nat} {ids : Nat → Int32} {par : Nat → Option Nat} {rows : Nat → Nat → Int32} {pr n rd : Nat} (x : Int32) (hI : inj 22 a)(hn : n ≤ 24) : WR l E (XP E a ids par rows pr pr n rd) (AX a) yX0_removeParent cX0_removeParent 2 (some .int) 2 43 [.ref (a 0), .int (x)] (some (.int (oN (vN n x) (fun v => pe (par v))))) (XP E a ids (oU (vN n x) (fun v => va_up par v none) par) rows pr pr n (oU (vN n x) (fun _ => 0) rd)) := by
  refine WR.mkI (C := RX0) rfl rfl (by decide) rfl (Nat.le_of_ble_eq_true rfl) ?_
  intro p e s m args below meth c H0 Q hC hK hP hret ls hl
  obtain ⟨hx, hb, hml, hown, hts⟩ := id hC
  have hl : lv_has ls 2 [(0, .ref (a 0)), (1, .int (x))] := hl
  have hS : va_S (AX a) H0 H0 [] := va_S.rf
  have hP : XP E a ids par rows pr pr n rd H0 := hP
  refine lv_aload_n hx hb dX0_removeParent_0 rfl (lv_at hl 0 rfl) ?_
  refine lv_iload_n hx hb dX0_removeParent_1 rfl (lv_at hl 1 rfl) ?_
  refine roV (As := [.int (x)]) hC kX0_44 (cX_isNode ((x)) ) hK hP (x_rec hK hP) rfl rfl hl ⟨Nat.le_of_ble_eq_true rfl, Nat.le_of_ble_eq_true rfl⟩ (Nat.le_of_ble_eq_true rfl) dX0_removeParent_2 ⟨Nat.le_of_ble_eq_true rfl, Nat.le_of_ble_eq_true rfl⟩ ?_
  refine bv_ne (tgt := 10) hx hb dX0_removeParent_5 (by decide) (fun c_5 => ?_) (fun c_5 => ?_)
  · obtain ⟨v, hv, rfl⟩ := vN_t hn c_5
    refine lv_aload_n hx hb dX0_removeParent_10 rfl (lv_at hl 0 rfl) ?_
    refine lv_iload_n hx hb dX0_removeParent_11 rfl (lv_at hl 1 rfl) ?_
    refine lv_bipush (v := (pe (none))) hx hb dX0_removeParent_12 (by decide) ?_
    refine wrV (As := [.int (nI (v)), .int (pe (none))]) hC kX0_47 (cX_replace v none hI (by omega)) hK hP (x_rec hK hP) hS (fun _ h => h) rfl rfl hl ⟨Nat.le_of_ble_eq_true rfl, Nat.le_of_ble_eq_true rfl⟩ (Nat.le_of_ble_eq_true rfl) dX0_removeParent_14 ⟨Nat.le_of_ble_eq_true rfl, Nat.le_of_ble_eq_true rfl⟩ (fun H locs hP hS _ _ => ?_)
    exact hret _ _ _ _ _ (by rw [oU_some (vN_nI hn hv), oU_some (vN_nI hn hv)]; exact hP) hS dX0_removeParent_17 (by rw [oN_in hn hv])
  · refine lv_iconst (v := (-1)) hx hb dX0_removeParent_8 (by decide) ?_
    exact hret _ _ _ _ _ (by rw [oU_none (vN_f c_5), oU_none (vN_f c_5)]; exact hP) hS dX0_removeParent_9 ((oN_out c_5 _).symm)
set_option maxRecDepth 100000 in
set_option maxHeartbeats 4000000 in
theorem cX_addNode {l : Launch} {E : EE} {a : Nat → Nat} {ids : Nat → Int32} {par : Nat → Option Nat} {rows : Nat → Nat → Int32} {pr n rd : Nat} (x : Int32) (hI : inj 22 a)(hn : n ≤ 24)(hpr : pr < 18) : WR l E (XP E a ids par rows pr pr n rd) (AX a) yX0_addNode cX0_addNode 3 (some .int) 1 22 [.ref (a 0), .int (x)] (some (.int (anRes n ids x))) (XP E a (if okAN n ids x = true then va_up ids n x else ids) (if okAN n ids x = true then va_up par n none else par) (if okAN n ids x = true then setR rows pr n x else rows) pr pr (if okAN n ids x = true then n + 1 else n) (if okAN n ids x = true then 0 else rd)) := by
  refine WR.mkI (C := RX0) rfl rfl (by decide) rfl (Nat.le_of_ble_eq_true rfl) ?_
  intro p e s m args below meth c H0 Q hC hK hP hret ls hl
  obtain ⟨hx, hb, hml, hown, hts⟩ := id hC
  have hl : lv_has ls 3 [(0, .ref (a 0)), (1, .int (x))] := hl
  have hS : va_S (AX a) H0 H0 [] := va_S.rf
  have hP : XP E a ids par rows pr pr n rd H0 := hP
  have hcu : pr < 18 := hpr
  refine lv_iload_n hx hb dX0_addNode_0 rfl (lv_at hl 1 rfl) ?_
  refine roS (As := [.int (x)]) hC kX0_34 (cX_isValue ((x)) ) hK (P := fun _ => True) trivial rfl rfl hl ⟨Nat.le_of_ble_eq_true rfl, Nat.le_of_ble_eq_true rfl⟩ (Nat.le_of_ble_eq_true rfl) dX0_addNode_1 ⟨Nat.le_of_ble_eq_true rfl, Nat.le_of_ble_eq_true rfl⟩ ?_
  refine bv_ne (tgt := 10) hx hb dX0_addNode_4 (by decide) (fun c_4 => ?_) (fun c_4 => ?_)
  · refine lv_aload_n hx hb dX0_addNode_10 rfl (lv_at hl 0 rfl) ?_
    refine lv_iload_n hx hb dX0_addNode_11 rfl (lv_at hl 1 rfl) ?_
    refine roV (As := [.int (x)]) hC kX0_38 (cX_taken ((x)) hn) hK hP (x_rec hK hP) rfl rfl hl ⟨Nat.le_of_ble_eq_true rfl, Nat.le_of_ble_eq_true rfl⟩ (Nat.le_of_ble_eq_true rfl) dX0_addNode_12 ⟨Nat.le_of_ble_eq_true rfl, Nat.le_of_ble_eq_true rfl⟩ ?_
    refine bv_eq (tgt := 21) hx hb dX0_addNode_15 (by decide) (fun c_15 => ?_) (fun c_15 => ?_)
    · refine lv_aload_n hx hb dX0_addNode_21 rfl (lv_at hl 0 rfl) ?_
      refine x_g5 hC hK hP dX0_addNode_22 ?_
      refine lv_bipush (v := (nI (24))) hx hb dX0_addNode_25 (by decide) ?_
      refine nv_lt (tgt := 33) hx hb (by omega) (by omega) dX0_addNode_27 (by decide) (fun c_27 => ?_) (fun c_27 => ?_)
      · refine lv_aload_n hx hb dX0_addNode_33 rfl (lv_at hl 0 rfl) ?_
        refine x_g5 hC hK hP dX0_addNode_34 ?_
        refine lv_istore_n (lv' := [(2, .int (nI (n))), (0, .ref (a 0)), (1, .int (x))]) hx hb dX0_addNode_37 rfl hl (by decide) rfl (fun ls hl => ?_)
        refine lv_aload_n hx hb dX0_addNode_38 rfl (lv_at hl 1 rfl) ?_
        refine lv_dup hx hb dX0_addNode_39 rfl ?_
        refine x_g5 hC hK hP dX0_addNode_40 ?_
        refine lv_iconst (v := (1)) hx hb dX0_addNode_43 (by decide) ?_
        refine lv_iadd hx hb dX0_addNode_44 ?_
        refine tI (nI (n + 1)) (nI_1 _) ?_
        refine x_p5 hC hK hI hP hS dX0_addNode_45 (fun H locs hP hS => ?_)
        refine lv_aload_n hx hb dX0_addNode_48 rfl (lv_at hl 1 rfl) ?_
        refine x_g0 hC hK hP dX0_addNode_49 ?_
        refine lv_iload_n hx hb dX0_addNode_52 rfl (lv_at hl 0 rfl) ?_
        refine lv_iload_n hx hb dX0_addNode_53 rfl (lv_at hl 2 rfl) ?_
        refine x_stI (x := (x)) hx hb hK hI hP hS (by omega) dX0_addNode_54 (fun H locs hP hS => ?_)
        refine lv_aload_n hx hb dX0_addNode_55 rfl (lv_at hl 1 rfl) ?_
        refine x_g1 hC hK hP dX0_addNode_56 ?_
        refine lv_iload_n hx hb dX0_addNode_59 rfl (lv_at hl 0 rfl) ?_
        refine lv_bipush (v := (pe (none))) hx hb dX0_addNode_60 (by decide) ?_
        refine x_stP (x := none) hx hb hK hI hP hS (by omega) dX0_addNode_62 (fun H locs hP hS => ?_)
        refine lv_aload_n hx hb dX0_addNode_63 rfl (lv_at hl 1 rfl) ?_
        refine x_g3 hC hK hP dX0_addNode_64 ?_
        refine lv_iload_n hx hb dX0_addNode_67 rfl (lv_at hl 0 rfl) ?_
        refine lv_iload_n hx hb dX0_addNode_68 rfl (lv_at hl 2 rfl) ?_
        refine x_stC (x := (x)) (by omega) hx hb hK hI hP hS (by omega) dX0_addNode_69 (fun H locs hP hS => ?_)
        refine lv_aload_n hx hb dX0_addNode_70 rfl (lv_at hl 1 rfl) ?_
        refine wrV (As := []) hC kX0_41 (cX_start  hI) hK hP (x_rec hK hP) hS (fun _ h => h) rfl rfl hl ⟨Nat.le_of_ble_eq_true rfl, Nat.le_of_ble_eq_true rfl⟩ (Nat.le_of_ble_eq_true rfl) dX0_addNode_71 ⟨Nat.le_of_ble_eq_true rfl, Nat.le_of_ble_eq_true rfl⟩ (fun H locs hP hS _ _ => ?_)
        refine lv_iload_n hx hb dX0_addNode_74 rfl (lv_at hl 0 rfl) ?_
        exact hret _ _ _ _ _ (by rw [show okAN n ids x = true by simp [okAN, c_4, c_15, c_27]]; exact hP) hS dX0_addNode_75 (by simp [anRes, c_4, c_15, c_27])
      · refine lv_bipush (v := (-4)) hx hb dX0_addNode_30 (by decide) ?_
        exact hret _ _ _ _ _ (by rw [show okAN n ids x = false by simp [okAN, show ¬ n < 24 by omega]]; exact hP) hS dX0_addNode_32 (by simp [anRes, c_4, c_15, show ¬ n < 24 by omega])
    · refine lv_bipush (v := (-3)) hx hb dX0_addNode_18 (by decide) ?_
      exact hret _ _ _ _ _ (by rw [show okAN n ids x = false by simp [okAN, c_15]]; exact hP) hS dX0_addNode_20 (by simp [anRes, c_4, c_15])
  · refine lv_bipush (v := (-2)) hx hb dX0_addNode_7 (by decide) ?_
    exact hret _ _ _ _ _ (by rw [show okAN n ids x = false by simp [okAN, c_4]]; exact hP) hS dX0_addNode_9 (by simp [anRes, c_4])
set_option maxRecDepth 100000 in
set_option maxHeartbeats 4000000 in
theorem cX_setColour {l : Launch} {E : EE} {a : Nat → Nat} {ids : Nat → Int32} {par : Nat → Option Nat} {rows : Nat → Nat → Int32} {pr n rd : Nat} (x y : Int32) (hI : inj 22 a)(hn : n ≤ 24)(hpr : pr < 18) : WR l E (XP E a ids par rows pr pr n rd) (AX a) yX0_setColour cX0_setColour 4 (some .int) 1 21 [.ref (a 0), .int (x), .int (y)] (some (.int (oN (vN n x) (fun v => if vV y = true then rows pr v else -2)))) (XP E a ids par (oU (okSC n x y) (fun v => setR rows pr v y) rows) pr pr n (oU (okSC n x y) (fun _ => 0) rd)) := by
  refine WR.mkI (C := RX0) rfl rfl (by decide) rfl (Nat.le_of_ble_eq_true rfl) ?_
  intro p e s m args below meth c H0 Q hC hK hP hret ls hl
  obtain ⟨hx, hb, hml, hown, hts⟩ := id hC
  have hl : lv_has ls 4 [(0, .ref (a 0)), (1, .int (x)), (2, .int (y))] := hl
  have hS : va_S (AX a) H0 H0 [] := va_S.rf
  have hP : XP E a ids par rows pr pr n rd H0 := hP
  have hcu : pr < 18 := hpr
  refine lv_aload_n hx hb dX0_setColour_0 rfl (lv_at hl 0 rfl) ?_
  refine lv_iload_n hx hb dX0_setColour_1 rfl (lv_at hl 1 rfl) ?_
  refine roV (As := [.int (x)]) hC kX0_44 (cX_isNode ((x)) ) hK hP (x_rec hK hP) rfl rfl hl ⟨Nat.le_of_ble_eq_true rfl, Nat.le_of_ble_eq_true rfl⟩ (Nat.le_of_ble_eq_true rfl) dX0_setColour_2 ⟨Nat.le_of_ble_eq_true rfl, Nat.le_of_ble_eq_true rfl⟩ ?_
  refine bv_ne (tgt := 10) hx hb dX0_setColour_5 (by decide) (fun c_5 => ?_) (fun c_5 => ?_)
  · obtain ⟨v, hv, rfl⟩ := vN_t hn c_5
    refine lv_iload_n hx hb dX0_setColour_10 rfl (lv_at hl 2 rfl) ?_
    refine roS (As := [.int (y)]) hC kX0_34 (cX_isValue ((y)) ) hK (P := fun _ => True) trivial rfl rfl hl ⟨Nat.le_of_ble_eq_true rfl, Nat.le_of_ble_eq_true rfl⟩ (Nat.le_of_ble_eq_true rfl) dX0_setColour_11 ⟨Nat.le_of_ble_eq_true rfl, Nat.le_of_ble_eq_true rfl⟩ ?_
    refine bv_ne (tgt := 20) hx hb dX0_setColour_14 (by decide) (fun c_14 => ?_) (fun c_14 => ?_)
    · refine lv_aload_n hx hb dX0_setColour_20 rfl (lv_at hl 0 rfl) ?_
      refine x_g3 hC hK hP dX0_setColour_21 ?_
      refine lv_iload_n hx hb dX0_setColour_24 rfl (lv_at hl 1 rfl) ?_
      refine x_ldC (by omega) hx hb hK hP (by omega) dX0_setColour_25 ?_
      refine lv_istore_n (lv' := [(3, .int (rows pr v)), (0, .ref (a 0)), (1, .int (nI (v))), (2, .int (y))]) hx hb dX0_setColour_26 rfl hl (by decide) rfl (fun ls hl => ?_)
      refine lv_aload_n hx hb dX0_setColour_27 rfl (lv_at hl 1 rfl) ?_
      refine x_g3 hC hK hP dX0_setColour_28 ?_
      refine lv_iload_n hx hb dX0_setColour_31 rfl (lv_at hl 2 rfl) ?_
      refine lv_iload_n hx hb dX0_setColour_32 rfl (lv_at hl 3 rfl) ?_
      refine x_stC (x := (y)) (by omega) hx hb hK hI hP hS (by omega) dX0_setColour_33 (fun H locs hP hS => ?_)
      refine lv_aload_n hx hb dX0_setColour_34 rfl (lv_at hl 1 rfl) ?_
      refine wrV (As := []) hC kX0_41 (cX_start  hI) hK hP (x_rec hK hP) hS (fun _ h => h) rfl rfl hl ⟨Nat.le_of_ble_eq_true rfl, Nat.le_of_ble_eq_true rfl⟩ (Nat.le_of_ble_eq_true rfl) dX0_setColour_35 ⟨Nat.le_of_ble_eq_true rfl, Nat.le_of_ble_eq_true rfl⟩ (fun H locs hP hS _ _ => ?_)
      refine lv_iload_n hx hb dX0_setColour_38 rfl (lv_at hl 0 rfl) ?_
      exact hret _ _ _ _ _ (by rw [oU_some (show okSC n (nI v) y = some v by unfold okSC; rw [if_pos c_14, vN_nI hn hv]), oU_some (show okSC n (nI v) y = some v by unfold okSC; rw [if_pos c_14, vN_nI hn hv])]; exact hP) hS dX0_setColour_39 (by rw [oN_in hn hv, if_pos c_14])
    · refine lv_bipush (v := (-2)) hx hb dX0_setColour_17 (by decide) ?_
      exact hret _ _ _ _ _ (by rw [oU_none (by unfold okSC; rw [c_14]; rfl), oU_none (by unfold okSC; rw [c_14]; rfl)]; exact hP) hS dX0_setColour_19 (by rw [oN_in hn hv, c_14]; rfl)
  · refine lv_iconst (v := (-1)) hx hb dX0_setColour_8 (by decide) ?_
    exact hret _ _ _ _ _ (by rw [oU_none (by unfold okSC; rw [vN_f c_5]; simp), oU_none (by unfold okSC; rw [vN_f c_5]; simp)]; exact hP) hS dX0_setColour_9 ((oN_out c_5 _).symm)
set_option maxRecDepth 100000 in
set_option maxHeartbeats 4000000 in
theorem cX_reset {l : Launch} {E : EE} {a : Nat → Nat} {ids : Nat → Int32} {par : Nat → Option Nat} {rows : Nat → Nat → Int32} {pr n rd : Nat}  (hI : inj 22 a)(hn : n ≤ 24)(hpr : pr < 18) : WR l E (XP E a ids par rows pr pr n rd) (AX a) yX0_resetColours cX0_resetColours 3 (some .int) 1 20 [.ref (a 0)] (some (.int (nI (fb_ct (fun j => !decide (rows pr j = ids j)) n)))) (XP E a ids par (rsR rows pr ids n) pr pr n 0) := by
  refine WR.mkI (C := RX0) rfl rfl (by decide) rfl (Nat.le_of_ble_eq_true rfl) ?_
  intro p e s m args below meth c H0 Q hC hK hP hret ls hl
  obtain ⟨hx, hb, hml, hown, hts⟩ := id hC
  have hl : lv_has ls 3 [(0, .ref (a 0))] := hl
  have hS : va_S (AX a) H0 H0 [] := va_S.rf
  have hP : XP E a ids par rows pr pr n rd H0 := hP
  have hcu : pr < 18 := hpr
  refine lv_iconst (v := (nI (0))) hx hb dX0_resetColours_0 (by decide) ?_
  refine lv_istore_n (lv' := [(1, .int (nI (0))), (0, .ref (a 0))]) hx hb dX0_resetColours_1 rfl hl (by decide) rfl (fun ls hl => ?_)
  refine lv_iconst (v := (nI (0))) hx hb dX0_resetColours_2 (by decide) ?_
  refine lv_istore_n (lv' := [(2, .int (nI (0))), (1, .int (nI (0))), (0, .ref (a 0))]) hx hb dX0_resetColours_3 rfl hl (by decide) rfl (fun ls hl => ?_)
  have loop_4 : ∀ (fuel : Nat) (k : Nat), (k ≤ n) → n - k < fuel → ∀ (H : Heap) (locs : List Loc), XP E a ids par (rsR rows pr ids k) pr pr n rd H → va_S (AX a) H0 H locs → ∀ (ls : Array Slot), lv_has ls 3 [(0, .ref (a 0)), (1, .int (nI (fb_ct (fun j => !decide (rows pr j = ids j)) k))), (2, .int (nI (k)))] → W p l e (k2_rm 1 20) s m args below meth c H locs 0 0 Q (F0 m 4 ls []) := by
    intro fuel
    induction fuel with
    | zero => intro k hk hm; exact absurd hm (Nat.not_lt_zero _)
    | succ fuel ih_4 =>
      intro k hk hm H locs hP hS ls hl
      refine lv_iload_n hx hb dX0_resetColours_4 rfl (lv_at hl 2 rfl) ?_
      refine lv_aload_n hx hb dX0_resetColours_5 rfl (lv_at hl 0 rfl) ?_
      refine x_g5 hC hK hP dX0_resetColours_6 ?_
      refine nv_ge (tgt := 48) hx hb (by omega) (by omega) dX0_resetColours_9 (by decide) (fun c_9 => ?_) (fun c_9 => ?_)
      · have hkn : k = n := by omega
        rw [hkn] at hP
        refine lv_aload_n hx hb dX0_resetColours_48 rfl (lv_at hl 0 rfl) ?_
        refine wrV (As := []) hC kX0_41 (cX_start  hI) hK hP (x_rec hK hP) hS (fun _ h => h) rfl rfl hl ⟨Nat.le_of_ble_eq_true rfl, Nat.le_of_ble_eq_true rfl⟩ (Nat.le_of_ble_eq_true rfl) dX0_resetColours_49 ⟨Nat.le_of_ble_eq_true rfl, Nat.le_of_ble_eq_true rfl⟩ (fun H locs hP hS _ _ => ?_)
        refine lv_iload_n hx hb dX0_resetColours_52 rfl (lv_at hl 1 rfl) ?_
        exact hret _ _ _ _ _ (hP) hS dX0_resetColours_53 (by rw [hkn])
      · refine lv_aload_n hx hb dX0_resetColours_12 rfl (lv_at hl 0 rfl) ?_
        refine x_g3 hC hK hP dX0_resetColours_13 ?_
        refine lv_iload_n hx hb dX0_resetColours_16 rfl (lv_at hl 2 rfl) ?_
        refine x_ldC (by omega) hx hb hK hP (by omega) dX0_resetColours_17 ?_
        refine tI ((rows pr k)) (rsR_at _ _ _ _) ?_
        refine lv_aload_n hx hb dX0_resetColours_18 rfl (lv_at hl 0 rfl) ?_
        refine x_g0 hC hK hP dX0_resetColours_19 ?_
        refine lv_iload_n hx hb dX0_resetColours_22 rfl (lv_at hl 2 rfl) ?_
        refine x_ldI hx hb hK hP (by omega) dX0_resetColours_23 ?_
        refine lv_icmp_eq (tgt := 42) hx hb dX0_resetColours_24 (by decide) (fun c_24 => ?_) (fun c_24 => ?_)
        · rw [← fb_ct_f (p := fun j => !decide (rows pr j = ids j)) (by simp [c_24])] at hl
          refine lv_iinc (v := (nI (k + 1))) (lv' := [(2, .int (nI (k + 1))), (0, .ref (a 0)), (1, .int (nI (fb_ct (fun j => !decide (rows pr j = ids j)) (k + 1))))]) hx hb dX0_resetColours_42 hl (k := 2) rfl (nI_inc _) (by decide) rfl (fun ls hl => ?_)
          refine lv_goto (tgt := 4) hx hb dX0_resetColours_45 (by decide) ?_
          exact ih_4 (k + 1) (by omega) (by omega) _ _ (by rw [rsR_e c_24]; exact hP) hS ls (lv_sub hl [1, 2, 0] rfl)
        · refine lv_aload_n hx hb dX0_resetColours_27 rfl (lv_at hl 0 rfl) ?_
          refine x_g3 hC hK hP dX0_resetColours_28 ?_
          refine lv_iload_n hx hb dX0_resetColours_31 rfl (lv_at hl 2 rfl) ?_
          refine lv_aload_n hx hb dX0_resetColours_32 rfl (lv_at hl 0 rfl) ?_
          refine x_g0 hC hK hP dX0_resetColours_33 ?_
          refine lv_iload_n hx hb dX0_resetColours_36 rfl (lv_at hl 2 rfl) ?_
          refine x_ldI hx hb hK hP (by omega) dX0_resetColours_37 ?_
          refine x_stC (x := (ids k)) (by omega) hx hb hK hI hP hS (by omega) dX0_resetColours_38 (fun H locs hP hS => ?_)
          have hP : XP E a ids par (rsR rows pr ids (k + 1)) pr pr n rd H := by rw [rsR_s] at hP; exact hP
          refine lv_iinc (v := (nI (fb_ct (fun j => !decide (rows pr j = ids j)) (k + 1)))) (lv' := [(1, .int (nI (fb_ct (fun j => !decide (rows pr j = ids j)) (k + 1)))), (0, .ref (a 0)), (2, .int (nI (k)))]) hx hb dX0_resetColours_39 hl (k := 1) rfl (by rw [fb_ct_t (by simp [c_24])]; exact nI_inc _) (by decide) rfl (fun ls hl => ?_)
          refine lv_iinc (v := (nI (k + 1))) (lv' := [(2, .int (nI (k + 1))), (1, .int (nI (fb_ct (fun j => !decide (rows pr j = ids j)) (k + 1)))), (0, .ref (a 0))]) hx hb dX0_resetColours_42 hl (k := 2) rfl (nI_inc _) (by decide) rfl (fun ls hl => ?_)
          refine lv_goto (tgt := 4) hx hb dX0_resetColours_45 (by decide) ?_
          exact ih_4 (k + 1) (by omega) (by omega) _ _ (hP) hS ls (lv_sub hl [2, 1, 0] rfl)
  exact loop_4 (n - 0 + 1) 0 (Nat.zero_le _) (Nat.lt_succ_self _) _ _ (by rw [rsR_0]; exact hP) hS ls (lv_sub hl [2, 1, 0] rfl)
set_option maxRecDepth 100000 in
set_option maxHeartbeats 4000000 in
theorem cX_recolour {l : Launch} {E : EE} {a : Nat → Nat} {ids : Nat → Int32} {par : Nat → Option Nat} {rows : Nat → Nat → Int32} {pr n rd : Nat} (x : Int32) (hI : inj 22 a)(hn : n ≤ 24)(hpr : pr < 18)(hp : PW n par) : WR l E (XP E a ids par rows pr pr n rd) (AX a) yX0_recolour cX0_recolour 2 (some .int) 3 68 [.ref (a 0), .int (x)] (some (.int (oN (vN n x) (fun v => pe (freF par (rows pr) n v n))))) (XP E a ids par (oU (vN n x) (fun v => setR rows pr v (pe (freF par (rows pr) n v n))) rows) pr pr n (oU (vN n x) (fun _ => 0) rd)) := by
  refine WR.mkI (C := RX0) rfl rfl (by decide) rfl (Nat.le_of_ble_eq_true rfl) ?_
  intro p e s m args below meth c H0 Q hC hK hP hret ls hl
  obtain ⟨hx, hb, hml, hown, hts⟩ := id hC
  have hl : lv_has ls 2 [(0, .ref (a 0)), (1, .int (x))] := hl
  have hS : va_S (AX a) H0 H0 [] := va_S.rf
  have hP : XP E a ids par rows pr pr n rd H0 := hP
  have hcu : pr < 18 := hpr
  refine lv_aload_n hx hb dX0_recolour_0 rfl (lv_at hl 0 rfl) ?_
  refine lv_iload_n hx hb dX0_recolour_1 rfl (lv_at hl 1 rfl) ?_
  refine roV (As := [.int (x)]) hC kX0_44 (cX_isNode ((x)) ) hK hP (x_rec hK hP) rfl rfl hl ⟨Nat.le_of_ble_eq_true rfl, Nat.le_of_ble_eq_true rfl⟩ (Nat.le_of_ble_eq_true rfl) dX0_recolour_2 ⟨Nat.le_of_ble_eq_true rfl, Nat.le_of_ble_eq_true rfl⟩ ?_
  refine bv_ne (tgt := 10) hx hb dX0_recolour_5 (by decide) (fun c_5 => ?_) (fun c_5 => ?_)
  · obtain ⟨v, hv, rfl⟩ := vN_t hn c_5
    refine lv_aload_n hx hb dX0_recolour_10 rfl (lv_at hl 0 rfl) ?_
    refine x_g3 hC hK hP dX0_recolour_11 ?_
    refine lv_iload_n hx hb dX0_recolour_14 rfl (lv_at hl 1 rfl) ?_
    refine lv_aload_n hx hb dX0_recolour_15 rfl (lv_at hl 0 rfl) ?_
    refine lv_iload_n hx hb dX0_recolour_16 rfl (lv_at hl 1 rfl) ?_
    refine lv_aload_n hx hb dX0_recolour_17 rfl (lv_at hl 0 rfl) ?_
    refine x_g5 hC hK hP dX0_recolour_18 ?_
    refine roV (As := [.int (nI (v)), .int (nI (n))]) hC kX0_70 (cX_lowest v n hn hpr hp hv hn) hK hP (x_rec hK hP) rfl rfl hl ⟨Nat.le_of_ble_eq_true rfl, Nat.le_of_ble_eq_true rfl⟩ (Nat.le_of_ble_eq_true rfl) dX0_recolour_21 ⟨Nat.le_of_ble_eq_true rfl, Nat.le_of_ble_eq_true rfl⟩ ?_
    refine x_stC (x := (pe (freF par (rows pr) n v n))) (by omega) hx hb hK hI hP hS (by omega) dX0_recolour_24 (fun H locs hP hS => ?_)
    refine lv_aload_n hx hb dX0_recolour_25 rfl (lv_at hl 0 rfl) ?_
    refine wrV (As := []) hC kX0_41 (cX_start  hI) hK hP (x_rec hK hP) hS (fun _ h => h) rfl rfl hl ⟨Nat.le_of_ble_eq_true rfl, Nat.le_of_ble_eq_true rfl⟩ (Nat.le_of_ble_eq_true rfl) dX0_recolour_26 ⟨Nat.le_of_ble_eq_true rfl, Nat.le_of_ble_eq_true rfl⟩ (fun H locs hP hS _ _ => ?_)
    refine lv_aload_n hx hb dX0_recolour_29 rfl (lv_at hl 0 rfl) ?_
    refine x_g3 hC hK hP dX0_recolour_30 ?_
    refine lv_iload_n hx hb dX0_recolour_33 rfl (lv_at hl 1 rfl) ?_
    refine x_ldC (by omega) hx hb hK hP (by omega) dX0_recolour_34 ?_
    refine tI ((pe (freF par (rows pr) n v n))) (by rw [va_up_self, va_up_self]) ?_
    exact hret _ _ _ _ _ (by rw [oU_some (vN_nI hn hv), oU_some (vN_nI hn hv)]; exact hP) hS dX0_recolour_35 (by rw [oN_in hn hv])
  · refine lv_iconst (v := (-1)) hx hb dX0_recolour_8 (by decide) ?_
    exact hret _ _ _ _ _ (by rw [oU_none (vN_f c_5), oU_none (vN_f c_5)]; exact hP) hS dX0_recolour_9 ((oN_out c_5 _).symm)
set_option maxRecDepth 100000 in
set_option maxHeartbeats 4000000 in
theorem cX_endRound {l : Launch} {E : EE} {a : Nat → Nat} {ids : Nat → Int32} {par : Nat → Option Nat} {rows : Nat → Nat → Int32} {cu pr n rd : Nat}  (hI : inj 22 a)(hpr : pr < 18) : WR l E (XP E a ids par rows cu pr n rd) (AX a) yX0_endRound cX0_endRound 1 none 1 20 [.ref (a 0)] none (XP E a ids par rows (nxR pr) (nxR pr) n (rd + 1)) := by
  refine WR.mkV (C := RX0) rfl (by decide) rfl (Nat.le_of_ble_eq_true rfl) ?_
  intro p e s m args below meth c H0 Q hC hK hP hret ls hl
  obtain ⟨hx, hb, hml, hown, hts⟩ := id hC
  have hl : lv_has ls 1 [(0, .ref (a 0))] := hl
  have hS : va_S (AX a) H0 H0 [] := va_S.rf
  have hP : XP E a ids par rows cu pr n rd H0 := hP
  refine lv_aload_n hx hb dX0_endRound_0 rfl (lv_at hl 0 rfl) ?_
  refine lv_aload_n hx hb dX0_endRound_1 rfl (lv_at hl 0 rfl) ?_
  refine roV (As := []) hC kX0_126 (cX_rowAfter  hpr) hK hP (x_rec hK hP) rfl rfl hl ⟨Nat.le_of_ble_eq_true rfl, Nat.le_of_ble_eq_true rfl⟩ (Nat.le_of_ble_eq_true rfl) dX0_endRound_2 ⟨Nat.le_of_ble_eq_true rfl, Nat.le_of_ble_eq_true rfl⟩ ?_
  refine x_p4 hC hK hI hP hS dX0_endRound_5 (fun H locs hP hS => ?_)
  refine lv_aload_n hx hb dX0_endRound_8 rfl (lv_at hl 0 rfl) ?_
  refine lv_aload_n hx hb dX0_endRound_9 rfl (lv_at hl 0 rfl) ?_
  refine x_g2 hC hK hP dX0_endRound_10 ?_
  refine lv_aload_n hx hb dX0_endRound_13 rfl (lv_at hl 0 rfl) ?_
  refine x_g4 hC hK hP dX0_endRound_14 ?_
  refine x_ldR hx hb hK hP (nxR_lt hpr) dX0_endRound_17 ?_
  refine x_p3 hC hK hI hP hS dX0_endRound_18 (fun H locs hP hS => ?_)
  refine lv_aload_n hx hb dX0_endRound_21 rfl (lv_at hl 0 rfl) ?_
  refine lv_dup hx hb dX0_endRound_22 rfl ?_
  refine x_g6 hC hK hP dX0_endRound_23 ?_
  refine lv_iconst (v := (1)) hx hb dX0_endRound_26 (by decide) ?_
  refine lv_iadd hx hb dX0_endRound_27 ?_
  refine tI (nI (rd + 1)) (nI_1 _) ?_
  refine x_p6 hC hK hI hP hS dX0_endRound_28 (fun H locs hP hS => ?_)
  exact hret _ _ _ _ (hP) hS dX0_endRound_31
set_option maxRecDepth 100000 in
set_option maxHeartbeats 4000000 in
theorem cX_doRed {l : Launch} {E : EE} {a : Nat → Nat} {ids : Nat → Int32} {par : Nat → Option Nat} {rows : Nat → Nat → Int32} {pr n rd : Nat}  (hI : inj 22 a)(hn : n ≤ 24)(hpr : pr < 18)(hp : PW n par) : WR l E (XP E a ids par rows pr pr n rd) (AX a) yX0_doReduction cX0_doReduction 4 none 3 63 [.ref (a 0)] none (XP E a ids par ((redS par n (rows, pr, rd)).1) ((redS par n (rows, pr, rd)).2.1) ((redS par n (rows, pr, rd)).2.1) n ((redS par n (rows, pr, rd)).2.2)) := by
  refine WR.mkV (C := RX0) rfl (by decide) rfl (Nat.le_of_ble_eq_true rfl) ?_
  intro p e s m args below meth c H0 Q hC hK hP hret ls hl
  obtain ⟨hx, hb, hml, hown, hts⟩ := id hC
  have hl : lv_has ls 4 [(0, .ref (a 0))] := hl
  have hS : va_S (AX a) H0 H0 [] := va_S.rf
  have hP : XP E a ids par rows pr pr n rd H0 := hP
  have hcu : pr < 18 := hpr
  refine lv_aload_n hx hb dX0_doReduction_0 rfl (lv_at hl 0 rfl) ?_
  refine x_g2 hC hK hP dX0_doReduction_1 ?_
  refine lv_aload_n hx hb dX0_doReduction_4 rfl (lv_at hl 0 rfl) ?_
  refine roV (As := []) hC kX0_126 (cX_rowAfter  hpr) hK hP (x_rec hK hP) rfl rfl hl ⟨Nat.le_of_ble_eq_true rfl, Nat.le_of_ble_eq_true rfl⟩ (Nat.le_of_ble_eq_true rfl) dX0_doReduction_5 ⟨Nat.le_of_ble_eq_true rfl, Nat.le_of_ble_eq_true rfl⟩ ?_
  refine x_ldR hx hb hK hP (nxR_lt hpr) dX0_doReduction_8 ?_
  refine lv_astore_n (lv' := [(1, .ref (a (4 + (nxR pr)))), (0, .ref (a 0))]) hx hb dX0_doReduction_9 rfl hl (by decide) rfl (fun ls hl => ?_)
  refine lv_iconst (v := (nI (0))) hx hb dX0_doReduction_10 (by decide) ?_
  refine lv_istore_n (lv' := [(2, .int (nI (0))), (1, .ref (a (4 + (nxR pr)))), (0, .ref (a 0))]) hx hb dX0_doReduction_11 rfl hl (by decide) rfl (fun ls hl => ?_)
  have loop_12 : ∀ (fuel : Nat) (k : Nat), (k ≤ n) → n - k < fuel → ∀ (H : Heap) (locs : List Loc), XP E a ids par (fR rows pr (redC par (rows pr)) k) pr pr n rd H → va_S (AX a) H0 H locs → ∀ (ls : Array Slot), lv_has ls 4 [(0, .ref (a 0)), (1, .ref (a (4 + (nxR pr)))), (2, .int (nI (k)))] → W p l e (k2_rm 3 63) s m args below meth c H locs 0 0 Q (F0 m 12 ls []) := by
    intro fuel
    induction fuel with
    | zero => intro k hk hm; exact absurd hm (Nat.not_lt_zero _)
    | succ fuel ih_12 =>
      intro k hk hm H locs hP hS ls hl
      refine lv_iload_n hx hb dX0_doReduction_12 rfl (lv_at hl 2 rfl) ?_
      refine lv_aload_n hx hb dX0_doReduction_13 rfl (lv_at hl 0 rfl) ?_
      refine x_g5 hC hK hP dX0_doReduction_14 ?_
      refine nv_ge (tgt := 49) hx hb (by omega) (by omega) dX0_doReduction_17 (by decide) (fun c_17 => ?_) (fun c_17 => ?_)
      · have hkn : k = n := by omega
        rw [hkn] at hP
        refine lv_aload_n hx hb dX0_doReduction_49 rfl (lv_at hl 0 rfl) ?_
        refine wrV (As := []) hC kX0_129 (cX_endRound  hI hpr) hK hP (x_rec hK hP) hS (fun _ h => h) rfl rfl hl ⟨Nat.le_of_ble_eq_true rfl, Nat.le_of_ble_eq_true rfl⟩ (Nat.le_of_ble_eq_true rfl) dX0_doReduction_50 ⟨Nat.le_of_ble_eq_true rfl, Nat.le_of_ble_eq_true rfl⟩ (fun H locs hP hS _ _ => ?_)
        exact hret _ _ _ _ (hP) hS dX0_doReduction_53
      · refine lv_aload_n hx hb dX0_doReduction_20 rfl (lv_at hl 0 rfl) ?_
        refine lv_iload_n hx hb dX0_doReduction_21 rfl (lv_at hl 2 rfl) ?_
        refine roV (As := [.int (nI (k))]) hC kX0_84 (cX_rbit k hn hcu hp (by omega)) hK hP (x_rec hK hP) rfl rfl hl ⟨Nat.le_of_ble_eq_true rfl, Nat.le_of_ble_eq_true rfl⟩ (Nat.le_of_ble_eq_true rfl) dX0_doReduction_22 ⟨Nat.le_of_ble_eq_true rfl, Nat.le_of_ble_eq_true rfl⟩ ?_
        refine tI ((rbit par (rows pr) k)) (by rw [fR_pr hpr]) ?_
        refine lv_istore_n (lv' := [(3, .int (rbit par (rows pr) k)), (0, .ref (a 0)), (1, .ref (a (4 + (nxR pr)))), (2, .int (nI (k)))]) hx hb dX0_doReduction_25 rfl hl (by decide) rfl (fun ls hl => ?_)
        refine lv_aload_n hx hb dX0_doReduction_26 rfl (lv_at hl 2 rfl) ?_
        refine lv_iload_n hx hb dX0_doReduction_27 rfl (lv_at hl 3 rfl) ?_
        refine lv_iconst (v := (2)) hx hb dX0_doReduction_28 (by decide) ?_
        refine lv_iload_n hx hb dX0_doReduction_29 rfl (lv_at hl 0 rfl) ?_
        refine lv_imul hx hb dX0_doReduction_30 ?_
        refine lv_aload_n hx hb dX0_doReduction_31 rfl (lv_at hl 1 rfl) ?_
        refine x_g3 hC hK hP dX0_doReduction_32 ?_
        refine lv_iload_n hx hb dX0_doReduction_35 rfl (lv_at hl 3 rfl) ?_
        refine x_ldC (by omega) hx hb hK hP (by omega) dX0_doReduction_36 ?_
        refine tI ((rows pr k)) (by rw [fR_pr hpr]) ?_
        refine lv_iload_n hx hb dX0_doReduction_37 rfl (lv_at hl 0 rfl) ?_
        refine lv_ishr hx hb dX0_doReduction_38 ?_
        refine lv_iconst (v := (1)) hx hb dX0_doReduction_39 (by decide) ?_
        refine lv_iand hx hb dX0_doReduction_40 ?_
        refine lv_iadd hx hb dX0_doReduction_41 ?_
        refine tI ((redC par (rows pr) k)) (rfl) ?_
        refine x_stC (x := (redC par (rows pr) k)) (nxR_lt hpr) hx hb hK hI hP hS (by omega) dX0_doReduction_42 (fun H locs hP hS => ?_)
        refine lv_iinc (v := (nI (k + 1))) (lv' := [(2, .int (nI (k + 1))), (3, .int (rbit par (rows pr) k)), (0, .ref (a 0)), (1, .ref (a (4 + (nxR pr))))]) hx hb dX0_doReduction_43 hl (k := 3) rfl (nI_inc _) (by decide) rfl (fun ls hl => ?_)
        refine lv_goto (tgt := 12) hx hb dX0_doReduction_46 (by decide) ?_
        exact ih_12 (k + 1) (by omega) (by omega) _ _ (by rw [fR_s] at hP; exact hP) hS ls (lv_sub hl [2, 3, 0] rfl)
  exact loop_12 (n - 0 + 1) 0 (Nat.zero_le _) (Nat.lt_succ_self _) _ _ (by rw [fR_0]; exact hP) hS ls (lv_sub hl [2, 1, 0] rfl)
set_option maxRecDepth 100000 in
set_option maxHeartbeats 4000000 in
theorem cX_doShift {l : Launch} {E : EE} {a : Nat → Nat} {ids : Nat → Int32} {par : Nat → Option Nat} {rows : Nat → Nat → Int32} {pr n rd : Nat}  (hI : inj 22 a)(hn : n ≤ 24)(hpr : pr < 18)(hp : PW n par) : WR l E (XP E a ids par rows pr pr n rd) (AX a) yX0_doShift cX0_doShift 4 (some .int) 3 63 [.ref (a 0)] (some (.int (nI (shCnt par (rows pr) n)))) (XP E a ids par ((shS par n (rows, pr, rd)).1) ((shS par n (rows, pr, rd)).2.1) ((shS par n (rows, pr, rd)).2.1) n ((shS par n (rows, pr, rd)).2.2)) := by
  refine WR.mkI (C := RX0) rfl rfl (by decide) rfl (Nat.le_of_ble_eq_true rfl) ?_
  intro p e s m args below meth c H0 Q hC hK hP hret ls hl
  obtain ⟨hx, hb, hml, hown, hts⟩ := id hC
  have hl : lv_has ls 4 [(0, .ref (a 0))] := hl
  have hS : va_S (AX a) H0 H0 [] := va_S.rf
  have hP : XP E a ids par rows pr pr n rd H0 := hP
  have hcu : pr < 18 := hpr
  refine lv_aload_n hx hb dX0_doShift_0 rfl (lv_at hl 0 rfl) ?_
  refine x_g2 hC hK hP dX0_doShift_1 ?_
  refine lv_aload_n hx hb dX0_doShift_4 rfl (lv_at hl 0 rfl) ?_
  refine roV (As := []) hC kX0_126 (cX_rowAfter  hpr) hK hP (x_rec hK hP) rfl rfl hl ⟨Nat.le_of_ble_eq_true rfl, Nat.le_of_ble_eq_true rfl⟩ (Nat.le_of_ble_eq_true rfl) dX0_doShift_5 ⟨Nat.le_of_ble_eq_true rfl, Nat.le_of_ble_eq_true rfl⟩ ?_
  refine x_ldR hx hb hK hP (nxR_lt hpr) dX0_doShift_8 ?_
  refine lv_astore_n (lv' := [(1, .ref (a (4 + (nxR pr)))), (0, .ref (a 0))]) hx hb dX0_doShift_9 rfl hl (by decide) rfl (fun ls hl => ?_)
  refine lv_iconst (v := (nI (0))) hx hb dX0_doShift_10 (by decide) ?_
  refine lv_istore_n (lv' := [(2, .int (nI (0))), (1, .ref (a (4 + (nxR pr)))), (0, .ref (a 0))]) hx hb dX0_doShift_11 rfl hl (by decide) rfl (fun ls hl => ?_)
  refine lv_iconst (v := (nI (0))) hx hb dX0_doShift_12 (by decide) ?_
  refine lv_istore_n (lv' := [(3, .int (nI (0))), (2, .int (nI (0))), (1, .ref (a (4 + (nxR pr)))), (0, .ref (a 0))]) hx hb dX0_doShift_13 rfl hl (by decide) rfl (fun ls hl => ?_)
  have loop_14 : ∀ (fuel : Nat) (k : Nat), (k ≤ n) → n - k < fuel → ∀ (H : Heap) (locs : List Loc), XP E a ids par (fR rows pr (shc par (rows pr)) k) pr pr n rd H → va_S (AX a) H0 H locs → ∀ (ls : Array Slot), lv_has ls 4 [(0, .ref (a 0)), (1, .ref (a (4 + (nxR pr)))), (2, .int (nI (fb_ct (fun j => !decide (shc par (rows pr) j = rows pr j)) k))), (3, .int (nI (k)))] → W p l e (k2_rm 3 63) s m args below meth c H locs 0 0 Q (F0 m 14 ls []) := by
    intro fuel
    induction fuel with
    | zero => intro k hk hm; exact absurd hm (Nat.not_lt_zero _)
    | succ fuel ih_14 =>
      intro k hk hm H locs hP hS ls hl
      refine lv_iload_n hx hb dX0_doShift_14 rfl (lv_at hl 3 rfl) ?_
      refine lv_aload_n hx hb dX0_doShift_15 rfl (lv_at hl 0 rfl) ?_
      refine x_g5 hC hK hP dX0_doShift_16 ?_
      refine nv_ge (tgt := 51) hx hb (by omega) (by omega) dX0_doShift_19 (by decide) (fun c_19 => ?_) (fun c_19 => ?_)
      · have hkn : k = n := by omega
        rw [hkn] at hP
        refine lv_aload_n hx hb dX0_doShift_51 rfl (lv_at hl 0 rfl) ?_
        refine wrV (As := []) hC kX0_129 (cX_endRound  hI hpr) hK hP (x_rec hK hP) hS (fun _ h => h) rfl rfl hl ⟨Nat.le_of_ble_eq_true rfl, Nat.le_of_ble_eq_true rfl⟩ (Nat.le_of_ble_eq_true rfl) dX0_doShift_52 ⟨Nat.le_of_ble_eq_true rfl, Nat.le_of_ble_eq_true rfl⟩ (fun H locs hP hS _ _ => ?_)
        refine lv_iload_n hx hb dX0_doShift_55 rfl (lv_at hl 2 rfl) ?_
        exact hret _ _ _ _ _ (hP) hS dX0_doShift_56 (by rw [hkn]; rfl)
      · refine lv_aload_n hx hb dX0_doShift_22 rfl (lv_at hl 1 rfl) ?_
        refine lv_iload_n hx hb dX0_doShift_23 rfl (lv_at hl 3 rfl) ?_
        refine lv_aload_n hx hb dX0_doShift_24 rfl (lv_at hl 0 rfl) ?_
        refine lv_iload_n hx hb dX0_doShift_25 rfl (lv_at hl 3 rfl) ?_
        refine roV (As := [.int (nI (k))]) hC kX0_132 (cX_shifted k hn hcu hp (by omega)) hK hP (x_rec hK hP) rfl rfl hl ⟨Nat.le_of_ble_eq_true rfl, Nat.le_of_ble_eq_true rfl⟩ (Nat.le_of_ble_eq_true rfl) dX0_doShift_26 ⟨Nat.le_of_ble_eq_true rfl, Nat.le_of_ble_eq_true rfl⟩ ?_
        refine tI ((shc par (rows pr) k)) (by rw [fR_pr hpr]) ?_
        refine x_stC (x := (shc par (rows pr) k)) (nxR_lt hpr) hx hb hK hI hP hS (by omega) dX0_doShift_29 (fun H locs hP hS => ?_)
        have hP : XP E a ids par (fR rows pr (shc par (rows pr)) (k + 1)) pr pr n rd H := by rw [fR_s] at hP; exact hP
        refine lv_aload_n hx hb dX0_doShift_30 rfl (lv_at hl 1 rfl) ?_
        refine lv_iload_n hx hb dX0_doShift_31 rfl (lv_at hl 3 rfl) ?_
        refine x_ldC (nxR_lt hpr) hx hb hK hP (by omega) dX0_doShift_32 ?_
        refine tI ((shc par (rows pr) k)) (by rw [fR_nx]; simp) ?_
        refine lv_aload_n hx hb dX0_doShift_33 rfl (lv_at hl 0 rfl) ?_
        refine x_g3 hC hK hP dX0_doShift_34 ?_
        refine lv_iload_n hx hb dX0_doShift_37 rfl (lv_at hl 3 rfl) ?_
        refine x_ldC (by omega) hx hb hK hP (by omega) dX0_doShift_38 ?_
        refine tI ((rows pr k)) (by rw [fR_pr hpr]) ?_
        refine lv_icmp_eq (tgt := 45) hx hb dX0_doShift_39 (by decide) (fun c_39 => ?_) (fun c_39 => ?_)
        · rw [← fb_ct_f (p := fun j => !decide (shc par (rows pr) j = rows pr j)) (by simp [c_39])] at hl
          refine lv_iinc (v := (nI (k + 1))) (lv' := [(3, .int (nI (k + 1))), (0, .ref (a 0)), (1, .ref (a (4 + (nxR pr)))), (2, .int (nI (fb_ct (fun j => !decide (shc par (rows pr) j = rows pr j)) (k + 1))))]) hx hb dX0_doShift_45 hl (k := 3) rfl (nI_inc _) (by decide) rfl (fun ls hl => ?_)
          refine lv_goto (tgt := 14) hx hb dX0_doShift_48 (by decide) ?_
          exact ih_14 (k + 1) (by omega) (by omega) _ _ (hP) hS ls (lv_sub hl [1, 2, 3, 0] rfl)
        · refine lv_iinc (v := (nI (fb_ct (fun j => !decide (shc par (rows pr) j = rows pr j)) (k + 1)))) (lv' := [(2, .int (nI (fb_ct (fun j => !decide (shc par (rows pr) j = rows pr j)) (k + 1)))), (0, .ref (a 0)), (1, .ref (a (4 + (nxR pr)))), (3, .int (nI (k)))]) hx hb dX0_doShift_42 hl (k := 2) rfl (by rw [fb_ct_t (by simp [c_39])]; exact nI_inc _) (by decide) rfl (fun ls hl => ?_)
          refine lv_iinc (v := (nI (k + 1))) (lv' := [(3, .int (nI (k + 1))), (2, .int (nI (fb_ct (fun j => !decide (shc par (rows pr) j = rows pr j)) (k + 1)))), (0, .ref (a 0)), (1, .ref (a (4 + (nxR pr))))]) hx hb dX0_doShift_45 hl (k := 3) rfl (nI_inc _) (by decide) rfl (fun ls hl => ?_)
          refine lv_goto (tgt := 14) hx hb dX0_doShift_48 (by decide) ?_
          exact ih_14 (k + 1) (by omega) (by omega) _ _ (hP) hS ls (lv_sub hl [2, 3, 1, 0] rfl)
  exact loop_14 (n - 0 + 1) 0 (Nat.zero_le _) (Nat.lt_succ_self _) _ _ (by rw [fR_0]; exact hP) hS ls (lv_sub hl [3, 2, 1, 0] rfl)
set_option maxRecDepth 100000 in
set_option maxHeartbeats 4000000 in
theorem cX_doElim {l : Launch} {E : EE} {a : Nat → Nat} {ids : Nat → Int32} {par : Nat → Option Nat} {rows : Nat → Nat → Int32} {pr n rd : Nat} (c0 : Int32) (hI : inj 22 a)(hn : n ≤ 24)(hpr : pr < 18)(hp : PW n par) : WR l E (XP E a ids par rows pr pr n rd) (AX a) yX0_doElimination cX0_doElimination 5 (some .int) 3 68 [.ref (a 0), .int (c0)] (some (.int (elRes par n c0 (rows pr)))) (XP E a ids par ((elS par n c0 (rows, pr, rd)).1) ((elS par n c0 (rows, pr, rd)).2.1) ((elS par n c0 (rows, pr, rd)).2.1) n ((elS par n c0 (rows, pr, rd)).2.2)) := by
  refine WR.mkI (C := RX0) rfl rfl (by decide) rfl (Nat.le_of_ble_eq_true rfl) ?_
  intro p e s m args below meth c H0 Q hC hK hP hret ls hl
  obtain ⟨hx, hb, hml, hown, hts⟩ := id hC
  have hl : lv_has ls 5 [(0, .ref (a 0)), (1, .int (c0))] := hl
  have hS : va_S (AX a) H0 H0 [] := va_S.rf
  have hP : XP E a ids par rows pr pr n rd H0 := hP
  have hcu : pr < 18 := hpr
  refine lv_aload_n hx hb dX0_doElimination_0 rfl (lv_at hl 0 rfl) ?_
  refine x_g2 hC hK hP dX0_doElimination_1 ?_
  refine lv_aload_n hx hb dX0_doElimination_4 rfl (lv_at hl 0 rfl) ?_
  refine roV (As := []) hC kX0_126 (cX_rowAfter  hpr) hK hP (x_rec hK hP) rfl rfl hl ⟨Nat.le_of_ble_eq_true rfl, Nat.le_of_ble_eq_true rfl⟩ (Nat.le_of_ble_eq_true rfl) dX0_doElimination_5 ⟨Nat.le_of_ble_eq_true rfl, Nat.le_of_ble_eq_true rfl⟩ ?_
  refine x_ldR hx hb hK hP (nxR_lt hpr) dX0_doElimination_8 ?_
  refine lv_astore_n (lv' := [(2, .ref (a (4 + (nxR pr)))), (0, .ref (a 0)), (1, .int (c0))]) hx hb dX0_doElimination_9 rfl hl (by decide) rfl (fun ls hl => ?_)
  refine lv_iconst (v := (nI (0))) hx hb dX0_doElimination_10 (by decide) ?_
  refine lv_istore_n (lv' := [(3, .int (nI (0))), (2, .ref (a (4 + (nxR pr)))), (0, .ref (a 0)), (1, .int (c0))]) hx hb dX0_doElimination_11 rfl hl (by decide) rfl (fun ls hl => ?_)
  refine lv_iconst (v := (nI (0))) hx hb dX0_doElimination_12 (by decide) ?_
  refine lv_istore (lv' := [(4, .int (nI (0))), (3, .int (nI (0))), (2, .ref (a (4 + (nxR pr)))), (0, .ref (a 0)), (1, .int (c0))]) hx hb dX0_doElimination_13 hl (by decide) rfl (fun ls hl => ?_)
  have loop_15 : ∀ (fuel : Nat) (k : Nat), (k ≤ n) → (∀ j, j < k → (decide (rows pr j = c0) && (freF par (rows pr) n j 3).isNone) = false) → n - k < fuel → ∀ (H : Heap) (locs : List Loc), XP E a ids par (fR rows pr (elC par n (rows pr) c0) k) pr pr n rd H → va_S (AX a) H0 H locs → ∀ (ls : Array Slot), lv_has ls 5 [(0, .ref (a 0)), (1, .int (c0)), (2, .ref (a (4 + (nxR pr)))), (3, .int (nI (fb_ct (fun j => decide (rows pr j = c0)) k))), (4, .int (nI (k)))] → W p l e (k2_rm 3 68) s m args below meth c H locs 0 0 Q (F0 m 15 ls []) := by
    intro fuel
    induction fuel with
    | zero => intro k hk hno hm; exact absurd hm (Nat.not_lt_zero _)
    | succ fuel ih_15 =>
      intro k hk hno hm H locs hP hS ls hl
      refine lv_iload hx hb dX0_doElimination_15 (lv_at hl 4 rfl) ?_
      refine lv_aload_n hx hb dX0_doElimination_17 rfl (lv_at hl 0 rfl) ?_
      refine x_g5 hC hK hP dX0_doElimination_18 ?_
      refine nv_ge (tgt := 78) hx hb (by omega) (by omega) dX0_doElimination_21 (by decide) (fun c_21 => ?_) (fun c_21 => ?_)
      · have hkn : k = n := by omega
        rw [hkn] at hP hno
        have hel : elK par n (rows pr) c0 = none := fst_none hno
        refine lv_aload_n hx hb dX0_doElimination_78 rfl (lv_at hl 0 rfl) ?_
        refine wrV (As := []) hC kX0_129 (cX_endRound  hI hpr) hK hP (x_rec hK hP) hS (fun _ h => h) rfl rfl hl ⟨Nat.le_of_ble_eq_true rfl, Nat.le_of_ble_eq_true rfl⟩ (Nat.le_of_ble_eq_true rfl) dX0_doElimination_79 ⟨Nat.le_of_ble_eq_true rfl, Nat.le_of_ble_eq_true rfl⟩ (fun H locs hP hS _ _ => ?_)
        refine lv_iload_n hx hb dX0_doElimination_82 rfl (lv_at hl 3 rfl) ?_
        exact hret _ _ _ _ _ (by rw [elS_n hel]; exact hP) hS dX0_doElimination_83 (by rw [elRes, hel, hkn])
      · refine lv_aload_n hx hb dX0_doElimination_24 rfl (lv_at hl 2 rfl) ?_
        refine lv_iload hx hb dX0_doElimination_25 (lv_at hl 4 rfl) ?_
        refine lv_aload_n hx hb dX0_doElimination_27 rfl (lv_at hl 0 rfl) ?_
        refine x_g3 hC hK hP dX0_doElimination_28 ?_
        refine lv_iload hx hb dX0_doElimination_31 (lv_at hl 4 rfl) ?_
        refine x_ldC (by omega) hx hb hK hP (by omega) dX0_doElimination_33 ?_
        refine tI ((rows pr k)) (by rw [fR_pr hpr]) ?_
        refine x_stC (x := (rows pr k)) (nxR_lt hpr) hx hb hK hI hP hS (by omega) dX0_doElimination_34 (fun H locs hP hS => ?_)
        refine lv_aload_n hx hb dX0_doElimination_35 rfl (lv_at hl 0 rfl) ?_
        refine x_g3 hC hK hP dX0_doElimination_36 ?_
        refine lv_iload hx hb dX0_doElimination_39 (lv_at hl 4 rfl) ?_
        refine x_ldC (by omega) hx hb hK hP (by omega) dX0_doElimination_41 ?_
        refine tI ((rows pr k)) (by rw [va_up_ne _ _ (nxR_ne hpr), fR_pr hpr]) ?_
        refine lv_iload_n hx hb dX0_doElimination_42 rfl (lv_at hl 1 rfl) ?_
        refine lv_icmp_ne (tgt := 72) hx hb dX0_doElimination_43 (by decide) (fun c_43 => ?_) (fun c_43 => ?_)
        · rw [show rows pr k = elC par n (rows pr) c0 k by simp [elC, c_43], fR_s] at hP
          rw [← fb_ct_f (p := fun j => decide (rows pr j = c0)) (by simp [c_43])] at hl
          refine lv_iinc (v := (nI (k + 1))) (lv' := [(4, .int (nI (k + 1))), (0, .ref (a 0)), (1, .int (c0)), (2, .ref (a (4 + (nxR pr)))), (3, .int (nI (fb_ct (fun j => decide (rows pr j = c0)) (k + 1))))]) hx hb dX0_doElimination_72 hl (k := 4) rfl (nI_inc _) (by decide) rfl (fun ls hl => ?_)
          refine lv_goto (tgt := 15) hx hb dX0_doElimination_75 (by decide) ?_
          exact ih_15 (k + 1) (by omega) (lt_s hno (by simp [c_43])) (by omega) _ _ (hP) hS ls (lv_sub hl [1, 2, 3, 4, 0] rfl)
        · have hrp : va_up (fR rows pr (elC par n (rows pr) c0) k) (nxR pr) (va_up (fR rows pr (elC par n (rows pr) c0) k (nxR pr)) k (rows pr k)) pr = rows pr := by rw [va_up_ne _ _ (nxR_ne hpr), fR_pr hpr]
          refine lv_aload_n hx hb dX0_doElimination_46 rfl (lv_at hl 2 rfl) ?_
          refine lv_iload hx hb dX0_doElimination_47 (lv_at hl 4 rfl) ?_
          refine lv_aload_n hx hb dX0_doElimination_49 rfl (lv_at hl 0 rfl) ?_
          refine lv_iload hx hb dX0_doElimination_50 (lv_at hl 4 rfl) ?_
          refine lv_iconst (v := (nI (3))) hx hb dX0_doElimination_52 (by decide) ?_
          refine roV (As := [.int (nI (k)), .int (nI (3))]) hC kX0_70 (cX_lowest k 3 hn hcu hp (by omega) (by omega)) hK hP (x_rec hK hP) rfl rfl hl ⟨Nat.le_of_ble_eq_true rfl, Nat.le_of_ble_eq_true rfl⟩ (Nat.le_of_ble_eq_true rfl) dX0_doElimination_53 ⟨Nat.le_of_ble_eq_true rfl, Nat.le_of_ble_eq_true rfl⟩ ?_
          refine tI ((elC par n (rows pr) c0 k)) (by rw [hrp]; simp [elC, c_43]) ?_
          refine x_stC (x := (elC par n (rows pr) c0 k)) (nxR_lt hpr) hx hb hK hI hP hS (by omega) dX0_doElimination_56 (fun H locs hP hS => ?_)
          have hP : XP E a ids par (fR rows pr (elC par n (rows pr) c0) (k + 1)) pr pr n rd H := by rw [fR_w, fR_s] at hP; exact hP
          refine lv_aload_n hx hb dX0_doElimination_57 rfl (lv_at hl 2 rfl) ?_
          refine lv_iload hx hb dX0_doElimination_58 (lv_at hl 4 rfl) ?_
          refine x_ldC (nxR_lt hpr) hx hb hK hP (by omega) dX0_doElimination_60 ?_
          refine tI ((pe (freF par (rows pr) n k 3))) (by rw [fR_nx]; simp [elC, c_43]) ?_
          refine lv_bipush (v := (-7)) hx hb dX0_doElimination_61 (by decide) ?_
          refine pv_ne7 (tgt := 69) hx hb (fre_lt (by omega)) dX0_doElimination_63 (by decide) (fun c_63 => ?_) (fun c_63 => ?_)
          · have hfr : (freF par (rows pr) n k 3).isNone = false := by cases h : freF par (rows pr) n k 3 with | none => exact absurd h c_63 | some q => rfl
            refine lv_iinc (v := (nI (fb_ct (fun j => decide (rows pr j = c0)) (k + 1)))) (lv' := [(3, .int (nI (fb_ct (fun j => decide (rows pr j = c0)) (k + 1)))), (0, .ref (a 0)), (1, .int (c0)), (2, .ref (a (4 + (nxR pr)))), (4, .int (nI (k)))]) hx hb dX0_doElimination_69 hl (k := 3) rfl (by rw [fb_ct_t (by simp [c_43])]; exact nI_inc _) (by decide) rfl (fun ls hl => ?_)
            refine lv_iinc (v := (nI (k + 1))) (lv' := [(4, .int (nI (k + 1))), (3, .int (nI (fb_ct (fun j => decide (rows pr j = c0)) (k + 1)))), (0, .ref (a 0)), (1, .int (c0)), (2, .ref (a (4 + (nxR pr))))]) hx hb dX0_doElimination_72 hl (k := 4) rfl (nI_inc _) (by decide) rfl (fun ls hl => ?_)
            refine lv_goto (tgt := 15) hx hb dX0_doElimination_75 (by decide) ?_
            exact ih_15 (k + 1) (by omega) (lt_s hno (by simp [hfr])) (by omega) _ _ (hP) hS ls (lv_sub hl [2, 3, 4, 1, 0] rfl)
          · have hel : elK par n (rows pr) c0 = some k := fst_some (by omega) (by simp [c_43, c_63]) hno
            refine lv_bipush (v := (-6)) hx hb dX0_doElimination_66 (by decide) ?_
            exact hret _ _ _ _ _ (by rw [elS_s hel]; exact hP) hS dX0_doElimination_68 (by rw [elRes, hel])
  exact loop_15 (n - 0 + 1) 0 (Nat.zero_le _) (lt_0) (Nat.lt_succ_self _) _ _ (by rw [fR_0]; exact hP) hS ls (lv_sub hl [3, 4, 2, 1, 0] rfl)
set_option maxRecDepth 100000 in
set_option maxHeartbeats 4000000 in
theorem cX_reduce {l : Launch} {E : EE} {a : Nat → Nat} {ids : Nat → Int32} {par : Nat → Option Nat} {rows : Nat → Nat → Int32} {pr n rd : Nat}  (hI : inj 22 a)(hn : n ≤ 24)(hpr : pr < 18)(hp : PW n par) : WR l E (XP E a ids par rows pr pr n rd) (AX a) yX0_reduce cX0_reduce 1 (some .int) 5 105 [.ref (a 0)] (some (.int (if propB n par (rows pr) = true then mxF ((redS par n (rows, pr, rd)).1 (redS par n (rows, pr, rd)).2.1) n else -5))) (XP E a ids par (if propB n par (rows pr) = true then (redS par n (rows, pr, rd)).1 else rows) (if propB n par (rows pr) = true then (redS par n (rows, pr, rd)).2.1 else pr) (if propB n par (rows pr) = true then (redS par n (rows, pr, rd)).2.1 else pr) n (if propB n par (rows pr) = true then (redS par n (rows, pr, rd)).2.2 else rd)) := by
  refine WR.mkI (C := RX0) rfl rfl (by decide) rfl (Nat.le_of_ble_eq_true rfl) ?_
  intro p e s m args below meth c H0 Q hC hK hP hret ls hl
  obtain ⟨hx, hb, hml, hown, hts⟩ := id hC
  have hl : lv_has ls 1 [(0, .ref (a 0))] := hl
  have hS : va_S (AX a) H0 H0 [] := va_S.rf
  have hP : XP E a ids par rows pr pr n rd H0 := hP
  have hcu : pr < 18 := hpr
  refine lv_aload_n hx hb dX0_reduce_0 rfl (lv_at hl 0 rfl) ?_
  refine roV (As := []) hC kX0_87 (cX_proper  hn hcu hp) hK hP (x_rec hK hP) rfl rfl hl ⟨Nat.le_of_ble_eq_true rfl, Nat.le_of_ble_eq_true rfl⟩ (Nat.le_of_ble_eq_true rfl) dX0_reduce_1 ⟨Nat.le_of_ble_eq_true rfl, Nat.le_of_ble_eq_true rfl⟩ ?_
  refine bv_ne (tgt := 10) hx hb dX0_reduce_4 (by decide) (fun c_4 => ?_) (fun c_4 => ?_)
  · refine lv_aload_n hx hb dX0_reduce_10 rfl (lv_at hl 0 rfl) ?_
    refine wrV (As := []) hC kX0_91 (cX_doRed  hI hn hpr hp) hK hP (x_rec hK hP) hS (fun _ h => h) rfl rfl hl ⟨Nat.le_of_ble_eq_true rfl, Nat.le_of_ble_eq_true rfl⟩ (Nat.le_of_ble_eq_true rfl) dX0_reduce_11 ⟨Nat.le_of_ble_eq_true rfl, Nat.le_of_ble_eq_true rfl⟩ (fun H locs hP hS _ _ => ?_)
    refine lv_aload_n hx hb dX0_reduce_14 rfl (lv_at hl 0 rfl) ?_
    refine roV (As := []) hC kX0_94 (cX_greatest  hn (redS_ok (S := (rows, pr, rd)) hpr)) hK hP (x_rec hK hP) rfl rfl hl ⟨Nat.le_of_ble_eq_true rfl, Nat.le_of_ble_eq_true rfl⟩ (Nat.le_of_ble_eq_true rfl) dX0_reduce_15 ⟨Nat.le_of_ble_eq_true rfl, Nat.le_of_ble_eq_true rfl⟩ ?_
    exact hret _ _ _ _ _ (by rw [c_4]; exact hP) hS dX0_reduce_18 (by rw [if_pos c_4])
  · refine lv_bipush (v := (-5)) hx hb dX0_reduce_7 (by decide) ?_
    exact hret _ _ _ _ _ (by rw [c_4]; exact hP) hS dX0_reduce_9 (by rw [if_neg (by rw [c_4]; simp)])
set_option maxRecDepth 100000 in
set_option maxHeartbeats 4000000 in
theorem cX_shift {l : Launch} {E : EE} {a : Nat → Nat} {ids : Nat → Int32} {par : Nat → Option Nat} {rows : Nat → Nat → Int32} {pr n rd : Nat}  (hI : inj 22 a)(hn : n ≤ 24)(hpr : pr < 18)(hp : PW n par) : WR l E (XP E a ids par rows pr pr n rd) (AX a) yX0_shift cX0_shift 1 (some .int) 4 86 [.ref (a 0)] (some (.int (nI (shCnt par (rows pr) n)))) (XP E a ids par ((shS par n (rows, pr, rd)).1) ((shS par n (rows, pr, rd)).2.1) ((shS par n (rows, pr, rd)).2.1) n ((shS par n (rows, pr, rd)).2.2)) := by
  refine WR.mkI (C := RX0) rfl rfl (by decide) rfl (Nat.le_of_ble_eq_true rfl) ?_
  intro p e s m args below meth c H0 Q hC hK hP hret ls hl
  obtain ⟨hx, hb, hml, hown, hts⟩ := id hC
  have hl : lv_has ls 1 [(0, .ref (a 0))] := hl
  have hS : va_S (AX a) H0 H0 [] := va_S.rf
  have hP : XP E a ids par rows pr pr n rd H0 := hP
  have hcu : pr < 18 := hpr
  refine lv_aload_n hx hb dX0_shift_0 rfl (lv_at hl 0 rfl) ?_
  refine wrV (As := []) hC kX0_98 (cX_doShift  hI hn hpr hp) hK hP (x_rec hK hP) hS (fun _ h => h) rfl rfl hl ⟨Nat.le_of_ble_eq_true rfl, Nat.le_of_ble_eq_true rfl⟩ (Nat.le_of_ble_eq_true rfl) dX0_shift_1 ⟨Nat.le_of_ble_eq_true rfl, Nat.le_of_ble_eq_true rfl⟩ (fun H locs hP hS _ _ => ?_)
  exact hret _ _ _ _ _ (hP) hS dX0_shift_4 (by first | rfl | omega | simp_all)
set_option maxRecDepth 100000 in
set_option maxHeartbeats 4000000 in
theorem cX_eliminate {l : Launch} {E : EE} {a : Nat → Nat} {ids : Nat → Int32} {par : Nat → Option Nat} {rows : Nat → Nat → Int32} {pr n rd : Nat} (y : Int32) (hI : inj 22 a)(hn : n ≤ 24)(hpr : pr < 18)(hp : PW n par) : WR l E (XP E a ids par rows pr pr n rd) (AX a) yX0_eliminate cX0_eliminate 2 (some .int) 5 105 [.ref (a 0), .int (y)] (some (.int (if y < 3 ∨ vV y = false then -2 else if propB n par (rows pr) = false then -5 else elRes par n y (rows pr)))) (XP E a ids par (if okEL n par (rows pr) y = true then (elS par n y (rows, pr, rd)).1 else rows) (if okEL n par (rows pr) y = true then (elS par n y (rows, pr, rd)).2.1 else pr) (if okEL n par (rows pr) y = true then (elS par n y (rows, pr, rd)).2.1 else pr) n (if okEL n par (rows pr) y = true then (elS par n y (rows, pr, rd)).2.2 else rd)) := by
  refine WR.mkI (C := RX0) rfl rfl (by decide) rfl (Nat.le_of_ble_eq_true rfl) ?_
  intro p e s m args below meth c H0 Q hC hK hP hret ls hl
  obtain ⟨hx, hb, hml, hown, hts⟩ := id hC
  have hl : lv_has ls 2 [(0, .ref (a 0)), (1, .int (y))] := hl
  have hS : va_S (AX a) H0 H0 [] := va_S.rf
  have hP : XP E a ids par rows pr pr n rd H0 := hP
  have hcu : pr < 18 := hpr
  refine lv_iload_n hx hb dX0_eliminate_0 rfl (lv_at hl 1 rfl) ?_
  refine lv_iconst (v := (3)) hx hb dX0_eliminate_1 (by decide) ?_
  refine lv_icmp_lt (tgt := 12) hx hb dX0_eliminate_2 (by decide) (fun c_2 => ?_) (fun c_2 => ?_)
  · refine lv_bipush (v := (-2)) hx hb dX0_eliminate_12 (by decide) ?_
    exact hret _ _ _ _ _ (by rw [okEL_1 c_2]; exact hP) hS dX0_eliminate_14 (by rw [if_pos (Or.inl c_2)])
  · refine lv_iload_n hx hb dX0_eliminate_5 rfl (lv_at hl 1 rfl) ?_
    refine roS (As := [.int (y)]) hC kX0_34 (cX_isValue ((y)) ) hK (P := fun _ => True) trivial rfl rfl hl ⟨Nat.le_of_ble_eq_true rfl, Nat.le_of_ble_eq_true rfl⟩ (Nat.le_of_ble_eq_true rfl) dX0_eliminate_6 ⟨Nat.le_of_ble_eq_true rfl, Nat.le_of_ble_eq_true rfl⟩ ?_
    refine bv_ne (tgt := 15) hx hb dX0_eliminate_9 (by decide) (fun c_9 => ?_) (fun c_9 => ?_)
    · refine lv_aload_n hx hb dX0_eliminate_15 rfl (lv_at hl 0 rfl) ?_
      refine roV (As := []) hC kX0_87 (cX_proper  hn hcu hp) hK hP (x_rec hK hP) rfl rfl hl ⟨Nat.le_of_ble_eq_true rfl, Nat.le_of_ble_eq_true rfl⟩ (Nat.le_of_ble_eq_true rfl) dX0_eliminate_16 ⟨Nat.le_of_ble_eq_true rfl, Nat.le_of_ble_eq_true rfl⟩ ?_
      refine bv_ne (tgt := 25) hx hb dX0_eliminate_19 (by decide) (fun c_19 => ?_) (fun c_19 => ?_)
      · refine lv_aload_n hx hb dX0_eliminate_25 rfl (lv_at hl 0 rfl) ?_
        refine lv_iload_n hx hb dX0_eliminate_26 rfl (lv_at hl 1 rfl) ?_
        refine wrV (As := [.int (y)]) hC kX0_101 (cX_doElim ((y)) hI hn hpr hp) hK hP (x_rec hK hP) hS (fun _ h => h) rfl rfl hl ⟨Nat.le_of_ble_eq_true rfl, Nat.le_of_ble_eq_true rfl⟩ (Nat.le_of_ble_eq_true rfl) dX0_eliminate_27 ⟨Nat.le_of_ble_eq_true rfl, Nat.le_of_ble_eq_true rfl⟩ (fun H locs hP hS _ _ => ?_)
        exact hret _ _ _ _ _ (by rw [okEL_4 c_2 c_9 c_19]; exact hP) hS dX0_eliminate_30 (by rw [if_neg (by rintro (h | h); exact c_2 h; rw [c_9] at h; cases h), if_neg (by rw [c_19]; simp)])
      · refine lv_bipush (v := (-5)) hx hb dX0_eliminate_22 (by decide) ?_
        exact hret _ _ _ _ _ (by rw [okEL_3 c_19]; exact hP) hS dX0_eliminate_24 (by rw [if_neg (by rintro (h | h); exact c_2 h; rw [c_9] at h; cases h), if_pos c_19])
    · refine lv_bipush (v := (-2)) hx hb dX0_eliminate_12 (by decide) ?_
      exact hret _ _ _ _ _ (by rw [okEL_2 c_9]; exact hP) hS dX0_eliminate_14 (by rw [if_pos (Or.inr c_9)])
set_option maxRecDepth 100000 in
set_option maxHeartbeats 4000000 in
theorem cX_rt3 {l : Launch} {E : EE} {a : Nat → Nat} {ids : Nat → Int32} {par : Nat → Option Nat} {rows : Nat → Nat → Int32} {pr n rd : Nat}  (hI : inj 22 a)(hn : n ≤ 24)(hpr : pr < 18)(hp : PW n par) : WR l E (XP E a ids par rows pr pr n rd) (AX a) yX0_reduceToThree cX0_reduceToThree 3 (some .int) 5 105 [.ref (a 0)] (some (.int (if propB n par (rows pr) = true then nI ((rt3S par n (rows, pr, rd)).2.2 - rd) else -5))) (XP E a ids par (if propB n par (rows pr) = true then (rt3S par n (rows, pr, rd)).1 else rows) (if propB n par (rows pr) = true then (rt3S par n (rows, pr, rd)).2.1 else pr) (if propB n par (rows pr) = true then (rt3S par n (rows, pr, rd)).2.1 else pr) n (if propB n par (rows pr) = true then (rt3S par n (rows, pr, rd)).2.2 else rd)) := by
  refine WR.mkI (C := RX0) rfl rfl (by decide) rfl (Nat.le_of_ble_eq_true rfl) ?_
  intro p e s m args below meth c H0 Q hC hK hP hret ls hl
  obtain ⟨hx, hb, hml, hown, hts⟩ := id hC
  have hl : lv_has ls 3 [(0, .ref (a 0))] := hl
  have hS : va_S (AX a) H0 H0 [] := va_S.rf
  have hP : XP E a ids par rows pr pr n rd H0 := hP
  have hcu : pr < 18 := hpr
  refine lv_aload_n hx hb dX0_reduceToThree_0 rfl (lv_at hl 0 rfl) ?_
  refine roV (As := []) hC kX0_87 (cX_proper  hn hcu hp) hK hP (x_rec hK hP) rfl rfl hl ⟨Nat.le_of_ble_eq_true rfl, Nat.le_of_ble_eq_true rfl⟩ (Nat.le_of_ble_eq_true rfl) dX0_reduceToThree_1 ⟨Nat.le_of_ble_eq_true rfl, Nat.le_of_ble_eq_true rfl⟩ ?_
  refine bv_ne (tgt := 10) hx hb dX0_reduceToThree_4 (by decide) (fun c_4 => ?_) (fun c_4 => ?_)
  · refine lv_aload_n hx hb dX0_reduceToThree_10 rfl (lv_at hl 0 rfl) ?_
    refine x_g6 hC hK hP dX0_reduceToThree_11 ?_
    refine lv_istore_n (lv' := [(1, .int (nI (rd))), (0, .ref (a 0))]) hx hb dX0_reduceToThree_14 rfl hl (by decide) rfl (fun ls hl => ?_)
    have join_41 : ∀ (S : RS), (S.2.1 < 18) → (redL par n 16 (rows, pr, rd) = S) → ∀ (H : Heap) (locs : List Loc), XP E a ids par S.1 S.2.1 S.2.1 n S.2.2 H → va_S (AX a) H0 H locs → ∀ (ls : Array Slot), lv_has ls 3 [(0, .ref (a 0)), (1, .int (nI (rd)))] → W p l e (k2_rm 5 105) s m args below meth c H locs 0 0 Q (F0 m 41 ls []) := by
      intro S hSp h41 H locs hP hS ls hl
      refine lv_iconst (v := (nI (5))) hx hb dX0_reduceToThree_41 (by decide) ?_
      refine lv_istore_n (lv' := [(2, .int (nI (5))), (0, .ref (a 0)), (1, .int (nI (rd)))]) hx hb dX0_reduceToThree_42 rfl hl (by decide) rfl (fun ls hl => ?_)
      have loop_43 : ∀ (fuel : Nat) (j : Nat), (j ≤ 3) → 3 - j < fuel → ∀ (H : Heap) (locs : List Loc), XP E a ids par ((tailS par n j S).1) ((tailS par n j S).2.1) ((tailS par n j S).2.1) n ((tailS par n j S).2.2) H → va_S (AX a) H0 H locs → ∀ (ls : Array Slot), lv_has ls 3 [(0, .ref (a 0)), (1, .int (nI (rd))), (2, .int (nI (5 - j)))] → W p l e (k2_rm 5 105) s m args below meth c H locs 0 0 Q (F0 m 43 ls []) := by
        intro fuel
        induction fuel with
        | zero => intro j hj hm; exact absurd hm (Nat.not_lt_zero _)
        | succ fuel ih_43 =>
          intro j hj hm H locs hP hS ls hl
          refine lv_iload_n hx hb dX0_reduceToThree_43 rfl (lv_at hl 2 rfl) ?_
          refine lv_iconst (v := (nI (3))) hx hb dX0_reduceToThree_44 (by decide) ?_
          refine nv_lt (tgt := 65) hx hb (by omega) (by omega) dX0_reduceToThree_45 (by decide) (fun c_45 => ?_) (fun c_45 => ?_)
          · have hj3 : j = 3 := by omega
            rw [hj3] at hP
            refine lv_aload_n hx hb dX0_reduceToThree_65 rfl (lv_at hl 0 rfl) ?_
            refine x_g6 hC hK hP dX0_reduceToThree_66 ?_
            refine lv_iload_n hx hb dX0_reduceToThree_69 rfl (lv_at hl 1 rfl) ?_
            refine lv_isub hx hb dX0_reduceToThree_70 ?_
            refine tI ((nI ((tailS par n 3 S).2.2 - rd))) (pk_sub (Nat.le_trans (by rw [← h41]; exact (redL_ok 16 (rows, pr, rd) hpr).2) (tailS_ok hSp 3).2)) ?_
            exact hret _ _ _ _ _ (by rw [c_4, rt3S, h41]; exact hP) hS dX0_reduceToThree_71 (by rw [if_pos c_4, rt3S, h41])
          · refine lv_aload_n hx hb dX0_reduceToThree_48 rfl (lv_at hl 0 rfl) ?_
            refine wrV (As := []) hC kX0_98 (cX_doShift  hI hn (tailS_ok hSp j).1 hp) hK hP (x_rec hK hP) hS (fun _ h => h) rfl rfl hl ⟨Nat.le_of_ble_eq_true rfl, Nat.le_of_ble_eq_true rfl⟩ (Nat.le_of_ble_eq_true rfl) dX0_reduceToThree_49 ⟨Nat.le_of_ble_eq_true rfl, Nat.le_of_ble_eq_true rfl⟩ (fun H locs hP hS _ _ => ?_)
            refine lv_pop hx hb dX0_reduceToThree_52 rfl ?_
            refine lv_aload_n hx hb dX0_reduceToThree_53 rfl (lv_at hl 0 rfl) ?_
            refine lv_iload_n hx hb dX0_reduceToThree_54 rfl (lv_at hl 2 rfl) ?_
            refine wrV (As := [.int (nI (5 - j))]) hC kX0_101 (cX_doElim ((nI (5 - j))) hI hn (shS_ok (tailS_ok hSp j).1) hp) hK hP (x_rec hK hP) hS (fun _ h => h) rfl rfl hl ⟨Nat.le_of_ble_eq_true rfl, Nat.le_of_ble_eq_true rfl⟩ (Nat.le_of_ble_eq_true rfl) dX0_reduceToThree_55 ⟨Nat.le_of_ble_eq_true rfl, Nat.le_of_ble_eq_true rfl⟩ (fun H locs hP hS _ _ => ?_)
            refine lv_pop hx hb dX0_reduceToThree_58 rfl ?_
            refine lv_iinc (v := (nI (5 - (j + 1)))) (lv' := [(2, .int (nI (5 - (j + 1)))), (0, .ref (a 0)), (1, .int (nI (rd)))]) hx hb dX0_reduceToThree_59 hl (k := 2) rfl (m1_5 (by omega)) (by decide) rfl (fun ls hl => ?_)
            refine lv_goto (tgt := 43) hx hb dX0_reduceToThree_62 (by decide) ?_
            exact ih_43 (j + 1) (by omega) (by omega) _ _ (hP) hS ls (lv_sub hl [1, 2, 0] rfl)
      exact loop_43 (3 - 0 + 1) 0 (Nat.zero_le _) (Nat.lt_succ_self _) _ _ (hP) hS ls (lv_sub hl [1, 2, 0] rfl)
    refine lv_iconst (v := (nI (0))) hx hb dX0_reduceToThree_15 (by decide) ?_
    refine lv_istore_n (lv' := [(2, .int (nI (0))), (1, .int (nI (rd))), (0, .ref (a 0))]) hx hb dX0_reduceToThree_16 rfl hl (by decide) rfl (fun ls hl => ?_)
    have loop_17 : ∀ (fuel : Nat) (k : Nat) (S : RS), (k ≤ 16) → (S.2.1 < 18) → (redL par n (16 - k) S = redL par n 16 (rows, pr, rd)) → 16 - k < fuel → ∀ (H : Heap) (locs : List Loc), XP E a ids par S.1 S.2.1 S.2.1 n S.2.2 H → va_S (AX a) H0 H locs → ∀ (ls : Array Slot), lv_has ls 3 [(0, .ref (a 0)), (1, .int (nI (rd))), (2, .int (nI (k)))] → W p l e (k2_rm 5 105) s m args below meth c H locs 0 0 Q (F0 m 17 ls []) := by
      intro fuel
      induction fuel with
      | zero => intro k S hk hSp hred hm; exact absurd hm (Nat.not_lt_zero _)
      | succ fuel ih_17 =>
        intro k S hk hSp hred hm H locs hP hS ls hl
        refine lv_iload_n hx hb dX0_reduceToThree_17 rfl (lv_at hl 2 rfl) ?_
        refine lv_bipush (v := (nI (16))) hx hb dX0_reduceToThree_18 (by decide) ?_
        refine nv_ge (tgt := 41) hx hb (by omega) (by omega) dX0_reduceToThree_20 (by decide) (fun c_20 => ?_) (fun c_20 => ?_)
        · exact join_41 S (hSp) (by rw [← hred, show 16 - k = 0 by omega]; rfl) _ _ (hP) hS ls (lv_sub hl [0, 1] rfl)
        · refine lv_aload_n hx hb dX0_reduceToThree_23 rfl (lv_at hl 0 rfl) ?_
          refine roV (As := []) hC kX0_94 (cX_greatest  hn hSp) hK hP (x_rec hK hP) rfl rfl hl ⟨Nat.le_of_ble_eq_true rfl, Nat.le_of_ble_eq_true rfl⟩ (Nat.le_of_ble_eq_true rfl) dX0_reduceToThree_24 ⟨Nat.le_of_ble_eq_true rfl, Nat.le_of_ble_eq_true rfl⟩ ?_
          refine lv_iconst (v := (5)) hx hb dX0_reduceToThree_27 (by decide) ?_
          refine lv_icmp_le (tgt := 41) hx hb dX0_reduceToThree_28 (by decide) (fun c_28 => ?_) (fun c_28 => ?_)
          · exact join_41 S (hSp) (by rw [← hred, redL_f (Int32.not_lt.mpr c_28)]) _ _ (hP) hS ls (lv_sub hl [0, 1] rfl)
          · refine lv_aload_n hx hb dX0_reduceToThree_31 rfl (lv_at hl 0 rfl) ?_
            refine wrV (As := []) hC kX0_91 (cX_doRed  hI hn hSp hp) hK hP (x_rec hK hP) hS (fun _ h => h) rfl rfl hl ⟨Nat.le_of_ble_eq_true rfl, Nat.le_of_ble_eq_true rfl⟩ (Nat.le_of_ble_eq_true rfl) dX0_reduceToThree_32 ⟨Nat.le_of_ble_eq_true rfl, Nat.le_of_ble_eq_true rfl⟩ (fun H locs hP hS _ _ => ?_)
            refine lv_iinc (v := (nI (k + 1))) (lv' := [(2, .int (nI (k + 1))), (0, .ref (a 0)), (1, .int (nI (rd)))]) hx hb dX0_reduceToThree_35 hl (k := 2) rfl (nI_inc _) (by decide) rfl (fun ls hl => ?_)
            refine lv_goto (tgt := 17) hx hb dX0_reduceToThree_38 (by decide) ?_
            exact ih_17 (k + 1) (redS par n S) (by omega) (redS_ok hSp) (by rw [← hred, show 16 - k = (16 - (k + 1)) + 1 by omega, redL_t (Int32.not_le.mp c_28)]) (by omega) _ _ (hP) hS ls (lv_sub hl [1, 2, 0] rfl)
    exact loop_17 (16 - 0 + 1) 0 ((rows, pr, rd)) (Nat.zero_le _) (hpr) (rfl) (Nat.lt_succ_self _) _ _ (hP) hS ls (lv_sub hl [2, 1, 0] rfl)
  · refine lv_bipush (v := (-5)) hx hb dX0_reduceToThree_7 (by decide) ?_
    exact hret _ _ _ _ _ (by rw [c_4]; exact hP) hS dX0_reduceToThree_9 (by rw [if_neg (by rw [c_4]; simp)])
end
section
-- THE REFERENCE: its state as functions
def wiB (x lo hi : Int32) : Bool := !decide (x < lo) && !decide (hi < x)
theorem wi_vN {n : Nat} (hn : n ≤ 24) (x : Int32) : wiB x 0 (nI n - 1) = (vN n x).isSome := by
  have e : (nI n - 1).toInt = (n : Int) - 1 := pk_sub_toInt (b := 1) (by omega) (by omega)
  have en : (nI n).toInt = n := nI_toInt (by omega)
  have h : nI n - 1 < x ↔ nI n ≤ x := by
    rw [Int32.lt_iff_toInt_lt, Int32.le_iff_toInt_le, e, en]
    omega
  unfold wiB vN
  by_cases h1 : x < 0
  · simp [h1]
  · by_cases h2 : nI n ≤ x
    · simp [h1, h2, h.mpr h2]
    · have h3 : ¬ nI n - 1 < x := fun z => h2 (h.mp z)
      simp [h1, h2, h3]
theorem wi_vV (x : Int32) : wiB x 0 65535 = vV x := rfl
def mcol (cols : Nat → Int32) (rd : Nat) : Nat → Int32 := fun v => if v < 24 then cols (24 * (rd % 17) + v) else 0
def mset (cols : Nat → Int32) (rd v : Nat) (c : Int32) : Nat → Int32 := va_up cols (24 * (rd % 17) + v) c
theorem mcol_lt {cols : Nat → Int32} {rd v : Nat} (h : v < 24) : mcol cols rd v = cols (24 * (rd % 17) + v) := if_pos h
def scF (cols : Nat → Int32) (rd k : Nat) : Nat → Int32 := fun j => if j < k then mcol cols rd j else cols j
theorem scF_0 (cols : Nat → Int32) (rd : Nat) : scF cols rd 0 = cols := funext fun j => if_neg (Nat.not_lt_zero _)
theorem scF_at {cols : Nat → Int32} {rd k : Nat} : mcol (scF cols rd k) rd k = mcol cols rd k := by
  unfold mcol scF
  by_cases h : k < 24
  · rw [if_pos h, if_pos h, if_neg (by omega)]
  · rw [if_neg h, if_neg h]
theorem scF_s (cols : Nat → Int32) (rd k : Nat) : va_up (scF cols rd k) k (mcol cols rd k) = scF cols rd (k + 1) := by
  funext j
  unfold scF
  by_cases h : j = k
  · subst h; rw [va_up_self, if_pos (by omega)]
  · rw [va_up_ne _ _ h]
    by_cases h2 : j < k
    · rw [if_pos h2, if_pos (by omega)]
    · rw [if_neg h2, if_neg (by omega)]
theorem scF_col (cols : Nat → Int32) (rd : Nat) : mcol (scF cols rd 24) 0 = mcol cols rd := by
  funext v
  unfold mcol scF
  by_cases h : v < 24
  · rw [if_pos h, if_pos (by omega), show 24 * (0 % 17) + v = v by omega, if_pos h]
    exact mcol_lt h
  · rw [if_neg h, if_neg h]
theorem mset_s (f g : Nat → Int32) (rd k : Nat) : mset (fb_put f g (24 * (rd % 17)) k) rd k (g k) = fb_put f g (24 * (rd % 17)) (k + 1) := fb_put_succ f g (24 * (rd % 17)) k
theorem put_at {f g : Nat → Int32} {rd k : Nat} (hk : k < 24) : mcol (fb_put f g (24 * (rd % 17)) k) rd k = mcol f rd k := by
  rw [mcol_lt hk, mcol_lt hk, fb_put_out (by omega)]
def pF (nx f : Nat → Int32) (k : Nat) : Nat → Int32 := fun j => if j < k then f j else nx j
theorem pF_0 (nx f : Nat → Int32) : pF nx f 0 = nx := funext fun j => if_neg (Nat.not_lt_zero _)
theorem pF_s (nx f : Nat → Int32) (k : Nat) : va_up (pF nx f k) k (f k) = pF nx f (k + 1) := by
  funext j
  unfold pF
  by_cases h : j = k
  · subst h; rw [va_up_self, if_pos (by omega)]
  · rw [va_up_ne _ _ h]
    by_cases h2 : j < k
    · rw [if_pos h2, if_pos (by omega)]
    · rw [if_neg h2, if_neg (by omega)]
theorem pF_at (nx f : Nat → Int32) (k : Nat) : pF nx f (k + 1) k = f k := if_pos (by omega)
abbrev MT : Type := (Nat → Int32) × (Nat → Int32) × Nat
def mEnd (n : Nat) (f : Nat → Int32) (S : MT) : MT := (fb_put S.1 (pF S.2.1 f n) (24 * ((S.2.2 + 1) % 17)) n, pF S.2.1 f n, S.2.2 + 1)
def mredS (par : Nat → Option Nat) (n : Nat) (S : MT) : MT := mEnd n (redC par (mcol S.1 S.2.2)) S
def mshS (par : Nat → Option Nat) (n : Nat) (S : MT) : MT := mEnd n (shc par (mcol S.1 S.2.2)) S
def melS (par : Nat → Option Nat) (n : Nat) (c : Int32) (S : MT) : MT := match elK par n (mcol S.1 S.2.2) c with
  | none => mEnd n (elC par n (mcol S.1 S.2.2) c) S
  | some k => (S.1, pF S.2.1 (elC par n (mcol S.1 S.2.2) c) (k + 1), S.2.2)
theorem melS_n {par : Nat → Option Nat} {n : Nat} {c : Int32} {cols nx : Nat → Int32} {rd : Nat} (h : elK par n (mcol cols rd) c = none) : melS par n c (cols, nx, rd) = mEnd n (elC par n (mcol cols rd) c) (cols, nx, rd) := by unfold melS; simp only; rw [h]
theorem melS_s {par : Nat → Option Nat} {n : Nat} {c : Int32} {cols nx : Nat → Int32} {rd k : Nat} (h : elK par n (mcol cols rd) c = some k) : melS par n c (cols, nx, rd) = (cols, pF nx (elC par n (mcol cols rd) c) (k + 1), rd) := by unfold melS; simp only; rw [h]
def mredL (par : Nat → Option Nat) (n : Nat) : Nat → MT → MT
  | 0, S => S
  | f + 1, S => if 5 < mxF (mcol S.1 S.2.2) n then mredL par n f (mredS par n S) else S
theorem mredL_t {par : Nat → Option Nat} {n f : Nat} {S : MT} (h : 5 < mxF (mcol S.1 S.2.2) n) : mredL par n (f + 1) S = mredL par n f (mredS par n S) := by rw [mredL, if_pos h]
theorem mredL_f {par : Nat → Option Nat} {n f : Nat} {S : MT} (h : ¬ 5 < mxF (mcol S.1 S.2.2) n) : mredL par n f S = S := by
  cases f with
  | zero => rfl
  | succ f => rw [mredL, if_neg h]
def mtailS (par : Nat → Option Nat) (n : Nat) : Nat → MT → MT
  | 0, S => S
  | j + 1, S => melS par n (nI (5 - j)) (mshS par n (mtailS par n j S))
def mrt3S (par : Nat → Option Nat) (n : Nat) (S : MT) : MT := mtailS par n 3 (mredL par n 16 S)
def mredI (par : Nat → Option Nat) (n : Nat) (S : MT) : Nat → MT
  | 0 => S
  | k + 1 => mredS par n (mredI par n S k)
theorem melS_rd {par : Nat → Option Nat} {n : Nat} {c : Int32} {S : MT} : S.2.2 ≤ (melS par n c S).2.2 ∧ (melS par n c S).2.2 ≤ S.2.2 + 1 := by
  unfold melS; split
  · exact ⟨Nat.le_succ _, Nat.le_refl _⟩
  · exact ⟨Nat.le_refl _, Nat.le_succ _⟩
theorem mtailS_rd {par : Nat → Option Nat} {n : Nat} {S : MT} : ∀ j, S.2.2 ≤ (mtailS par n j S).2.2 ∧ (mtailS par n j S).2.2 ≤ S.2.2 + 2 * j
  | 0 => ⟨Nat.le_refl _, Nat.le_refl _⟩
  | j + 1 => by
    have ih := mtailS_rd (par := par) (n := n) (S := S) j
    have h := melS_rd (par := par) (n := n) (c := nI (5 - j)) (S := mshS par n (mtailS par n j S))
    have e : (mshS par n (mtailS par n j S)).2.2 = (mtailS par n j S).2.2 + 1 := rfl
    rw [e] at h
    refine ⟨Nat.le_trans ih.1 (Nat.le_trans (Nat.le_succ _) h.1), ?_⟩
    show (melS par n (nI (5 - j)) (mshS par n (mtailS par n j S))).2.2 ≤ _
    omega
theorem mredL_rd {par : Nat → Option Nat} {n : Nat} : ∀ (f : Nat) (S : MT), S.2.2 ≤ (mredL par n f S).2.2 ∧ (mredL par n f S).2.2 ≤ S.2.2 + f
  | 0, S => ⟨Nat.le_refl _, Nat.le_refl _⟩
  | f + 1, S => by
    rw [mredL]
    split
    · have ih := mredL_rd (par := par) (n := n) f (mredS par n S)
      have e : (mredS par n S).2.2 = S.2.2 + 1 := rfl
      rw [e] at ih
      omega
    · omega
theorem mredI_rd {par : Nat → Option Nat} {n : Nat} {S : MT} : ∀ k, (mredI par n S k).2.2 = S.2.2 + k
  | 0 => rfl
  | k + 1 => by show (mredI par n S k).2.2 + 1 = _; rw [mredI_rd k]; rfl
/-- one bit of an int -/
theorem sh_bit {k : Nat} (hk : k < 32) (x : Int32) : (x >>> (nI k &&& 31)) &&& 1 = b2i (bt x k) := by
  apply b_ext
  intro i hi
  rw [b_and, bt_1 i hi, b_sshr k hk _ hi]
  by_cases h0 : i = 0
  · subst h0
    rw [if_pos (by omega), Nat.add_zero]
    cases h : bt x k <;> simp [h, b2i, b_0, bt_1]
  · cases h : bt x k <;> simp [h0, b2i, b_0, bt_1 i hi]
theorem prop_conf {n : Nat} {par : Nat → Option Nat} {col : Nat → Int32} (h : propB n par col = true) {v : Nat} (hv : v < n) : conf par col v = false := by
  unfold propB at h
  have h0 := of_decide_eq_true h
  exact fb_ct_zero.mp h0 v hv
theorem xor_ne {x y : Int32} (h : ¬ x = y) : x ^^^ y ≠ 0 := by
  intro e
  apply h
  apply b_ext
  intro i hi
  have := congrArg (fun z => bt z i) e
  simp only [b_xor, b_0] at this
  cases h1 : bt x i <;> cases h2 : bt y i <;> simp_all
theorem rbit_some {n : Nat} {par : Nat → Option Nat} {col : Nat → Int32} {v u : Nat} (hu : par v = some u) (hc : conf par col v = false) : rbit par col v = nI (lowb (col v ^^^ col u)) ∧ lowb (col v ^^^ col u) < 32 ∧ bt (col v ^^^ col u) (lowb (col v ^^^ col u)) = true ∧ ∀ j, j < lowb (col v ^^^ col u) → bt (col v ^^^ col u) j = false := by
  have hne : ¬ col v = col u := by simpa [conf, hu] using hc
  have h := ntz_low (xor_ne hne)
  exact ⟨by rw [rbit, hu]; exact h.1, h.2⟩
/-- of n colours one is free: fewer neighbours than nodes -/
theorem free_ex {n : Nat} (hn : n ≤ 24) {par : Nat → Option Nat} (hp : PW n par) (col : Nat → Int32) {v : Nat} (hv : v < n) : ∃ q, freF par col n v n = some q ∧ q < n := by
  rcases fst_spec (p := fun c => !bes par col n v (nI c)) (n := n) with ⟨h1, h2⟩ | ⟨k, h1, h2, -, -⟩
  · exfalso
    have h3 : ∀ c, c < n → ∃ o, o < n ∧ o ≠ v ∧ col o = nI c := by
      intro c hc
      have := h2 c hc
      have hb : bes par col n v (nI c) = true := by simpa using this
      obtain ⟨o, ho, hb⟩ := anyB_iff.mp hb
      simp only [Bool.and_eq_true, decide_eq_true_eq] at hb
      refine ⟨o, ho, fun e => ?_, hb.2⟩
      subst e
      rw [nb_irr hp hv] at hb
      cases hb.1
    have h4 : ∃ f : Nat → Nat, ∀ c, c < n → f c < n ∧ f c ≠ v ∧ col (f c) = nI c := by
      refine ⟨fun c => if hc : c < n then Classical.choose (h3 c hc) else 0, fun c hc => ?_⟩
      have e : (if hc : c < n then Classical.choose (h3 c hc) else 0) = Classical.choose (h3 c hc) := dif_pos hc
      simp only [e]
      exact Classical.choose_spec (h3 c hc)
    obtain ⟨f, hf⟩ := h4
    have inj : ∀ i j, i < j → j < n → f i ≠ f j := by
      intro i j hij hj e
      have e1 := (hf i (by omega)).2.2
      have e2 := (hf j hj).2.2
      rw [e, e2] at e1
      have := (nI_eq (by omega) (by omega)).mp e1
      omega
    obtain ⟨i, hi, e⟩ := fb_onto (fun i hi => (hf i hi).1) inj hv
    exact (hf i hi).2.1 e
  · exact ⟨k, h1, h2⟩
end
section
-- the reference: graph methods (laid by wip/whole/gen/spec_m1.py)
theorem anc_lt {n : Nat} {par : Nat → Option Nat} (hp : PW n par) {v : Nat} (hv : v < n) : ∀ (k t : Nat), anc par k v = some t → t < n
  | 0, t, h => by cases h; exact hv
  | k + 1, t, h => by
    cases e : anc par k v with
    | none => rw [anc, e] at h; cases h
    | some z => rw [anc_s e] at h; exact hp.lt (anc_lt hp hv k z e) h
theorem cyc_none {par : Nat → Option Nat} {n k v : Nat} (h0 : anc par (k + 1) v = none) (hno : ∀ j, j < k → (anc par (j + 1) v == some v) = false) : cycF par n v = none := by
  rw [cycF, fst_none (fun j _ => ?_)]
  · rfl
  · rcases Nat.lt_or_ge j k with h | h
    · exact hno j h
    · have h1 := anc_gone h0 (j - k)
      rw [show k + 1 + (j - k) = j + 1 by omega] at h1
      rw [h1]; rfl
set_option maxRecDepth 100000 in
set_option maxHeartbeats 4000000 in
theorem cM_within {l : Launch} {E : EE}  (x lo hi : Int32)  : RO l E ((fun _ => True)) yX1_within cX1_within 3 (some .boolean) 0 0 [.int (x), .int (lo), .int (hi)] (b2i (wiB x lo hi)) := by
  refine RO.mk (C := RX1) rfl (b2i_nar _) (by decide) rfl (Nat.le_of_ble_eq_true rfl) ?_
  intro p e s m args below meth c H Q hC hK hP hret ls hl
  obtain ⟨hx, hb, hml, hown, hts⟩ := id hC
  have hl : lv_has ls 3 [(0, .int (x)), (1, .int (lo)), (2, .int (hi))] := hl
  refine lv_iload_n hx hb dX1_within_0 rfl (lv_at hl 0 rfl) ?_
  refine lv_iload_n hx hb dX1_within_1 rfl (lv_at hl 1 rfl) ?_
  refine lv_icmp_lt (tgt := 14) hx hb dX1_within_2 (by decide) (fun c_2 => ?_) (fun c_2 => ?_)
  · refine lv_iconst (v := (0)) hx hb dX1_within_14 (by decide) ?_
    exact hret _ _ _ dX1_within_15 (by simp [wiB, c_2, b2i])
  · refine lv_iload_n hx hb dX1_within_5 rfl (lv_at hl 0 rfl) ?_
    refine lv_iload_n hx hb dX1_within_6 rfl (lv_at hl 2 rfl) ?_
    refine lv_icmp_gt (tgt := 14) hx hb dX1_within_7 (by decide) (fun c_7 => ?_) (fun c_7 => ?_)
    · refine lv_iconst (v := (0)) hx hb dX1_within_14 (by decide) ?_
      exact hret _ _ _ dX1_within_15 (by simp [wiB, c_7, b2i])
    · refine lv_iconst (v := (1)) hx hb dX1_within_10 (by decide) ?_
      refine lv_goto (tgt := 15) hx hb dX1_within_11 (by decide) ?_
      exact hret _ _ _ dX1_within_15 (by simp [wiB, c_2, c_7, b2i])
set_option maxRecDepth 100000 in
set_option maxHeartbeats 4000000 in
theorem cM_isNode {l : Launch} {E : EE} {b : Nat → Nat} {n : Nat} {ids : Nat → Int32} {par : Nat → Option Nat} {cols : Nat → Int32} {rd : Nat} {nx : Nat → Int32} {isin : Nat → Bool} {wi wo : Nat → Nat} {wf : Nat → Option Nat} (x : Int32) (hn : n ≤ 24) : RO l E (MP E b n ids par cols rd nx isin wi wo wf) yX1_isNode cX1_isNode 2 (some .boolean) 1 22 [.ref (b 0), .int (x)] (b2i ((vN n x).isSome)) := by
  refine RO.mk (C := RX1) rfl (b2i_nar _) (by decide) rfl (Nat.le_of_ble_eq_true rfl) ?_
  intro p e s m args below meth c H Q hC hK hP hret ls hl
  obtain ⟨hx, hb, hml, hown, hts⟩ := id hC
  have hl : lv_has ls 2 [(0, .ref (b 0)), (1, .int (x))] := hl
  refine lv_iload_n hx hb dX1_isNode_0 rfl (lv_at hl 1 rfl) ?_
  refine lv_iconst (v := (0)) hx hb dX1_isNode_1 (by decide) ?_
  refine lv_aload_n hx hb dX1_isNode_2 rfl (lv_at hl 0 rfl) ?_
  refine m_g0 hC hK hP dX1_isNode_3 ?_
  refine lv_iconst (v := (1)) hx hb dX1_isNode_6 (by decide) ?_
  refine lv_isub hx hb dX1_isNode_7 ?_
  refine roS (As := [.int (x), .int (0), .int (((nI (n))) - ((1)))]) hC kX1_39 (cM_within ((x)) ((0)) ((((nI (n))) - ((1)))) ) hK (P := fun _ => True) trivial rfl rfl hl ⟨Nat.le_of_ble_eq_true rfl, Nat.le_of_ble_eq_true rfl⟩ (Nat.le_of_ble_eq_true rfl) dX1_isNode_8 ⟨Nat.le_of_ble_eq_true rfl, Nat.le_of_ble_eq_true rfl⟩ ?_
  refine tI ((b2i ((vN n x).isSome))) (by rw [wi_vN hn]) ?_
  exact hret _ _ _ dX1_isNode_11 (by first | rfl | omega | simp_all)
set_option maxRecDepth 100000 in
set_option maxHeartbeats 4000000 in
theorem cM_col {l : Launch} {E : EE} {b : Nat → Nat} {n : Nat} {ids : Nat → Int32} {par : Nat → Option Nat} {cols : Nat → Int32} {rd : Nat} {nx : Nat → Int32} {isin : Nat → Bool} {wi wo : Nat → Nat} {wf : Nat → Option Nat} (v : Nat) (hv : v < 24) (hrd : rd < 200000) : RO l E (MP E b n ids par cols rd nx isin wi wo wf) yX1_colourOf cX1_colourOf 2 (some .int) 0 0 [.ref (b 0), .int (nI (v))] (mcol cols rd v) := by
  refine RO.mk (C := RX1) rfl rfl (by decide) rfl (Nat.le_of_ble_eq_true rfl) ?_
  intro p e s m args below meth c H Q hC hK hP hret ls hl
  obtain ⟨hx, hb, hml, hown, hts⟩ := id hC
  have hl : lv_has ls 2 [(0, .ref (b 0)), (1, .int (nI (v)))] := hl
  refine lv_aload_n hx hb dX1_colourOf_0 rfl (lv_at hl 0 rfl) ?_
  refine m_g3 hC hK hP dX1_colourOf_1 ?_
  refine lv_bipush (v := (nI (24))) hx hb dX1_colourOf_4 (by decide) ?_
  refine lv_aload_n hx hb dX1_colourOf_6 rfl (lv_at hl 0 rfl) ?_
  refine m_g4 hC hK hP dX1_colourOf_7 ?_
  refine lv_bipush (v := (nI (17))) hx hb dX1_colourOf_10 (by decide) ?_
  refine lv_irem hx hb dX1_colourOf_12 (by decide) ?_
  refine tI ((nI (rd % 17))) (pk_rem (by omega) (by omega) (by omega)) ?_
  refine lv_imul hx hb dX1_colourOf_13 ?_
  refine tI (nI (24 * (rd % 17))) (pk_mul _ _) ?_
  refine lv_iload_n hx hb dX1_colourOf_14 rfl (lv_at hl 1 rfl) ?_
  refine lv_iadd hx hb dX1_colourOf_15 ?_
  refine tI (nI ((24 * (rd % 17)) + v)) (nI_add _ _) ?_
  refine m_ld3 hx hb hK hP (by omega) dX1_colourOf_16 ?_
  exact hret _ _ _ dX1_colourOf_17 ((mcol_lt hv).symm)
set_option maxRecDepth 100000 in
set_option maxHeartbeats 4000000 in
theorem cM_paints {l : Launch} {E : EE} {b : Nat → Nat} {n : Nat} {ids : Nat → Int32} {par : Nat → Option Nat} {cols : Nat → Int32} {rd : Nat} {nx : Nat → Int32} {isin : Nat → Bool} {wi wo : Nat → Nat} {wf : Nat → Option Nat} (v : Nat) (x : Int32) (hI : inj 9 b)(hv : v < 24) (hrd : rd < 200000) : WR l E (MP E b n ids par cols rd nx isin wi wo wf) (AM b) yX1_paints cX1_paints 3 none 0 0 [.ref (b 0), .int (nI (v)), .int (x)] none (MP E b n ids par (mset cols rd v x) rd nx isin wi wo wf) := by
  refine WR.mkV (C := RX1) rfl (by decide) rfl (Nat.le_of_ble_eq_true rfl) ?_
  intro p e s m args below meth c H0 Q hC hK hP hret ls hl
  obtain ⟨hx, hb, hml, hown, hts⟩ := id hC
  have hl : lv_has ls 3 [(0, .ref (b 0)), (1, .int (nI (v))), (2, .int (x))] := hl
  have hS : va_S (AM b) H0 H0 [] := va_S.rf
  have hP : MP E b n ids par cols rd nx isin wi wo wf H0 := hP
  refine lv_aload_n hx hb dX1_paints_0 rfl (lv_at hl 0 rfl) ?_
  refine m_g3 hC hK hP dX1_paints_1 ?_
  refine lv_bipush (v := (nI (24))) hx hb dX1_paints_4 (by decide) ?_
  refine lv_aload_n hx hb dX1_paints_6 rfl (lv_at hl 0 rfl) ?_
  refine m_g4 hC hK hP dX1_paints_7 ?_
  refine lv_bipush (v := (nI (17))) hx hb dX1_paints_10 (by decide) ?_
  refine lv_irem hx hb dX1_paints_12 (by decide) ?_
  refine tI ((nI (rd % 17))) (pk_rem (by omega) (by omega) (by omega)) ?_
  refine lv_imul hx hb dX1_paints_13 ?_
  refine tI (nI (24 * (rd % 17))) (pk_mul _ _) ?_
  refine lv_iload_n hx hb dX1_paints_14 rfl (lv_at hl 1 rfl) ?_
  refine lv_iadd hx hb dX1_paints_15 ?_
  refine tI (nI ((24 * (rd % 17)) + v)) (nI_add _ _) ?_
  refine lv_iload_n hx hb dX1_paints_16 rfl (lv_at hl 2 rfl) ?_
  refine m_st3 (x := (x)) hx hb hK hI hP hS (by omega) dX1_paints_17 (fun H locs hP hS => ?_)
  exact hret _ _ _ _ (hP) hS dX1_paints_18
set_option maxRecDepth 100000 in
set_option maxHeartbeats 4000000 in
theorem cM_start {l : Launch} {E : EE} {b : Nat → Nat} {n : Nat} {ids : Nat → Int32} {par : Nat → Option Nat} {cols : Nat → Int32} {rd : Nat} {nx : Nat → Int32} {isin : Nat → Bool} {wi wo : Nat → Nat} {wf : Nat → Option Nat}  (hI : inj 9 b)(hrd : rd < 100000) : WR l E (MP E b n ids par cols rd nx isin wi wo wf) (AM b) yX1_startsCount cX1_startsCount 2 none 1 21 [.ref (b 0)] none (MP E b n ids par (scF cols rd 24) 0 nx isin wi wo wf) := by
  refine WR.mkV (C := RX1) rfl (by decide) rfl (Nat.le_of_ble_eq_true rfl) ?_
  intro p e s m args below meth c H0 Q hC hK hP hret ls hl
  obtain ⟨hx, hb, hml, hown, hts⟩ := id hC
  have hl : lv_has ls 2 [(0, .ref (b 0))] := hl
  have hS : va_S (AM b) H0 H0 [] := va_S.rf
  have hP : MP E b n ids par cols rd nx isin wi wo wf H0 := hP
  refine lv_iconst (v := (nI (0))) hx hb dX1_startsCount_0 (by decide) ?_
  refine lv_istore_n (lv' := [(1, .int (nI (0))), (0, .ref (b 0))]) hx hb dX1_startsCount_1 rfl hl (by decide) rfl (fun ls hl => ?_)
  have loop_2 : ∀ (fuel : Nat) (k : Nat), (k ≤ 24) → 24 - k < fuel → ∀ (H : Heap) (locs : List Loc), MP E b n ids par (scF cols rd k) rd nx isin wi wo wf H → va_S (AM b) H0 H locs → ∀ (ls : Array Slot), lv_has ls 2 [(0, .ref (b 0)), (1, .int (nI (k)))] → W p l e (k2_rm 1 21) s m args below meth c H locs 0 0 Q (F0 m 2 ls []) := by
    intro fuel
    induction fuel with
    | zero => intro k hk hm; exact absurd hm (Nat.not_lt_zero _)
    | succ fuel ih_2 =>
      intro k hk hm H locs hP hS ls hl
      refine lv_iload_n hx hb dX1_startsCount_2 rfl (lv_at hl 1 rfl) ?_
      refine lv_bipush (v := (nI (24))) hx hb dX1_startsCount_3 (by decide) ?_
      refine nv_ge (tgt := 25) hx hb (by omega) (by omega) dX1_startsCount_5 (by decide) (fun c_5 => ?_) (fun c_5 => ?_)
      · have hk4 : k = 24 := by omega
        rw [hk4] at hP
        refine lv_aload_n hx hb dX1_startsCount_25 rfl (lv_at hl 0 rfl) ?_
        refine lv_iconst (v := (nI (0))) hx hb dX1_startsCount_26 (by decide) ?_
        refine m_p4 hC hK hI hP hS dX1_startsCount_27 (fun H locs hP hS => ?_)
        exact hret _ _ _ _ (hP) hS dX1_startsCount_30
      · refine lv_aload_n hx hb dX1_startsCount_8 rfl (lv_at hl 0 rfl) ?_
        refine m_g3 hC hK hP dX1_startsCount_9 ?_
        refine lv_iload_n hx hb dX1_startsCount_12 rfl (lv_at hl 1 rfl) ?_
        refine lv_aload_n hx hb dX1_startsCount_13 rfl (lv_at hl 0 rfl) ?_
        refine lv_iload_n hx hb dX1_startsCount_14 rfl (lv_at hl 1 rfl) ?_
        refine roV (As := [.int (nI (k))]) hC kX1_46 (cM_col k (by omega) (by omega)) hK hP (m_rec hK hP) rfl rfl hl ⟨Nat.le_of_ble_eq_true rfl, Nat.le_of_ble_eq_true rfl⟩ (Nat.le_of_ble_eq_true rfl) dX1_startsCount_15 ⟨Nat.le_of_ble_eq_true rfl, Nat.le_of_ble_eq_true rfl⟩ ?_
        refine tI ((mcol cols rd k)) (scF_at) ?_
        refine m_st3 (x := (mcol cols rd k)) hx hb hK hI hP hS (by omega) dX1_startsCount_18 (fun H locs hP hS => ?_)
        refine lv_iinc (v := (nI (k + 1))) (lv' := [(1, .int (nI (k + 1))), (0, .ref (b 0))]) hx hb dX1_startsCount_19 hl (k := 1) rfl (nI_inc _) (by decide) rfl (fun ls hl => ?_)
        refine lv_goto (tgt := 2) hx hb dX1_startsCount_22 (by decide) ?_
        exact ih_2 (k + 1) (by omega) (by omega) _ _ (by rw [scF_s] at hP; exact hP) hS ls (lv_sub hl [1, 0] rfl)
  exact loop_2 (24 - 0 + 1) 0 (Nat.zero_le _) (Nat.lt_succ_self _) _ _ (by rw [scF_0]; exact hP) hS ls (lv_sub hl [1, 0] rfl)
set_option maxRecDepth 100000 in
set_option maxHeartbeats 4000000 in
theorem cM_addNode {l : Launch} {E : EE} {b : Nat → Nat} {n : Nat} {ids : Nat → Int32} {par : Nat → Option Nat} {cols : Nat → Int32} {rd : Nat} {nx : Nat → Int32} {isin : Nat → Bool} {wi wo : Nat → Nat} {wf : Nat → Option Nat} (x : Int32) (hI : inj 9 b)(hn : n ≤ 24)(hrd : rd < 100000) : WR l E (MP E b n ids par cols rd nx isin wi wo wf) (AM b) yX1_addNode cX1_addNode 3 (some .int) 2 42 [.ref (b 0), .int (x)] (some (.int (anRes n ids x))) (MP E b (if okAN n ids x = true then n + 1 else n) (if okAN n ids x = true then va_up ids n x else ids) (if okAN n ids x = true then va_up par n none else par) (if okAN n ids x = true then mset (scF cols rd 24) 0 n x else cols) (if okAN n ids x = true then 0 else rd) nx isin wi wo wf) := by
  refine WR.mkI (C := RX1) rfl rfl (by decide) rfl (Nat.le_of_ble_eq_true rfl) ?_
  intro p e s m args below meth c H0 Q hC hK hP hret ls hl
  obtain ⟨hx, hb, hml, hown, hts⟩ := id hC
  have hl : lv_has ls 3 [(0, .ref (b 0)), (1, .int (x))] := hl
  have hS : va_S (AM b) H0 H0 [] := va_S.rf
  have hP : MP E b n ids par cols rd nx isin wi wo wf H0 := hP
  refine lv_iload_n hx hb dX1_addNode_0 rfl (lv_at hl 1 rfl) ?_
  refine lv_iconst (v := (0)) hx hb dX1_addNode_1 (by decide) ?_
  refine lv_ldc (v := 65535) hx hb hown (hts _ qX1_50) dX1_addNode_2 ?_
  refine roS (As := [.int (x), .int (0), .int (65535)]) hC kX1_39 (cM_within ((x)) ((0)) ((65535)) ) hK (P := fun _ => True) trivial rfl rfl hl ⟨Nat.le_of_ble_eq_true rfl, Nat.le_of_ble_eq_true rfl⟩ (Nat.le_of_ble_eq_true rfl) dX1_addNode_4 ⟨Nat.le_of_ble_eq_true rfl, Nat.le_of_ble_eq_true rfl⟩ ?_
  refine tI ((b2i (vV x))) (rfl) ?_
  refine bv_ne (tgt := 13) hx hb dX1_addNode_7 (by decide) (fun c_7 => ?_) (fun c_7 => ?_)
  · refine lv_iconst (v := (nI (0))) hx hb dX1_addNode_13 (by decide) ?_
    refine lv_istore_n (lv' := [(2, .int (nI (0))), (0, .ref (b 0)), (1, .int (x))]) hx hb dX1_addNode_14 rfl hl (by decide) rfl (fun ls hl => ?_)
    have loop_15 : ∀ (fuel : Nat) (k : Nat), (k ≤ n) → (∀ j, j < k → ¬ ids j = x) → n - k < fuel → ∀ (H : Heap) (locs : List Loc), MP E b n ids par cols rd nx isin wi wo wf H → va_S (AM b) H0 H locs → ∀ (ls : Array Slot), lv_has ls 3 [(0, .ref (b 0)), (1, .int (x)), (2, .int (nI (k)))] → W p l e (k2_rm 2 42) s m args below meth c H locs 0 0 Q (F0 m 15 ls []) := by
      intro fuel
      induction fuel with
      | zero => intro k hk hno hm; exact absurd hm (Nat.not_lt_zero _)
      | succ fuel ih_15 =>
        intro k hk hno hm H locs hP hS ls hl
        refine lv_iload_n hx hb dX1_addNode_15 rfl (lv_at hl 2 rfl) ?_
        refine lv_aload_n hx hb dX1_addNode_16 rfl (lv_at hl 0 rfl) ?_
        refine m_g0 hC hK hP dX1_addNode_17 ?_
        refine nv_ge (tgt := 42) hx hb (by omega) (by omega) dX1_addNode_20 (by decide) (fun c_20 => ?_) (fun c_20 => ?_)
        · have hany : anyB (fun j => decide (ids j = x)) n = false := anyB_no (fun j hj => by simp [hno j (by omega)])
          refine lv_aload_n hx hb dX1_addNode_42 rfl (lv_at hl 0 rfl) ?_
          refine m_g0 hC hK hP dX1_addNode_43 ?_
          refine lv_bipush (v := (nI (24))) hx hb dX1_addNode_46 (by decide) ?_
          refine nv_ne (tgt := 54) hx hb (by omega) (by omega) dX1_addNode_48 (by decide) (fun c_48 => ?_) (fun c_48 => ?_)
          · refine lv_aload_n hx hb dX1_addNode_54 rfl (lv_at hl 0 rfl) ?_
            refine wrV (As := []) hC kX1_51 (cM_start  hI hrd) hK hP (m_rec hK hP) hS (fun _ h => h) rfl rfl hl ⟨Nat.le_of_ble_eq_true rfl, Nat.le_of_ble_eq_true rfl⟩ (Nat.le_of_ble_eq_true rfl) dX1_addNode_55 ⟨Nat.le_of_ble_eq_true rfl, Nat.le_of_ble_eq_true rfl⟩ (fun H locs hP hS _ _ => ?_)
            refine lv_aload_n hx hb dX1_addNode_58 rfl (lv_at hl 0 rfl) ?_
            refine m_g1 hC hK hP dX1_addNode_59 ?_
            refine lv_aload_n hx hb dX1_addNode_62 rfl (lv_at hl 0 rfl) ?_
            refine m_g0 hC hK hP dX1_addNode_63 ?_
            refine lv_iload_n hx hb dX1_addNode_66 rfl (lv_at hl 1 rfl) ?_
            refine m_st1 (x := (x)) hx hb hK hI hP hS (by omega) dX1_addNode_67 (fun H locs hP hS => ?_)
            refine lv_aload_n hx hb dX1_addNode_68 rfl (lv_at hl 0 rfl) ?_
            refine m_g2 hC hK hP dX1_addNode_69 ?_
            refine lv_aload_n hx hb dX1_addNode_72 rfl (lv_at hl 0 rfl) ?_
            refine m_g0 hC hK hP dX1_addNode_73 ?_
            refine lv_bipush (v := (pe (none))) hx hb dX1_addNode_76 (by decide) ?_
            refine m_st2 (x := none) hx hb hK hI hP hS (by omega) dX1_addNode_78 (fun H locs hP hS => ?_)
            refine lv_aload_n hx hb dX1_addNode_79 rfl (lv_at hl 0 rfl) ?_
            refine lv_aload_n hx hb dX1_addNode_80 rfl (lv_at hl 0 rfl) ?_
            refine m_g0 hC hK hP dX1_addNode_81 ?_
            refine lv_iload_n hx hb dX1_addNode_84 rfl (lv_at hl 1 rfl) ?_
            refine wrV (As := [.int (nI (n)), .int (x)]) hC kX1_54 (cM_paints n ((x)) hI (by omega) (by omega)) hK hP (m_rec hK hP) hS (fun _ h => h) rfl rfl hl ⟨Nat.le_of_ble_eq_true rfl, Nat.le_of_ble_eq_true rfl⟩ (Nat.le_of_ble_eq_true rfl) dX1_addNode_85 ⟨Nat.le_of_ble_eq_true rfl, Nat.le_of_ble_eq_true rfl⟩ (fun H locs hP hS _ _ => ?_)
            refine lv_aload_n hx hb dX1_addNode_88 rfl (lv_at hl 0 rfl) ?_
            refine lv_dup hx hb dX1_addNode_89 rfl ?_
            refine m_g0 hC hK hP dX1_addNode_90 ?_
            refine lv_iconst (v := (1)) hx hb dX1_addNode_93 (by decide) ?_
            refine lv_iadd hx hb dX1_addNode_94 ?_
            refine tI (nI (n + 1)) (nI_1 _) ?_
            refine m_p0 hC hK hI hP hS dX1_addNode_95 (fun H locs hP hS => ?_)
            refine lv_aload_n hx hb dX1_addNode_98 rfl (lv_at hl 0 rfl) ?_
            refine m_g0 hC hK hP dX1_addNode_99 ?_
            refine lv_iconst (v := (1)) hx hb dX1_addNode_102 (by decide) ?_
            refine lv_isub hx hb dX1_addNode_103 ?_
            refine tI ((nI (n))) (nI_pred n) ?_
            exact hret _ _ _ _ _ (by rw [show okAN n ids x = true by simp [okAN, c_7, hany, show n < 24 by omega]]; exact hP) hS dX1_addNode_104 (by simp [anRes, c_7, hany, show n < 24 by omega])
          · refine lv_bipush (v := (-4)) hx hb dX1_addNode_51 (by decide) ?_
            exact hret _ _ _ _ _ (by rw [show okAN n ids x = false by simp [okAN, show ¬ n < 24 by omega]]; exact hP) hS dX1_addNode_53 (by simp [anRes, c_7, hany, show ¬ n < 24 by omega])
        · refine lv_aload_n hx hb dX1_addNode_23 rfl (lv_at hl 0 rfl) ?_
          refine m_g1 hC hK hP dX1_addNode_24 ?_
          refine lv_iload_n hx hb dX1_addNode_27 rfl (lv_at hl 2 rfl) ?_
          refine m_ld1 hx hb hK hP (by omega) dX1_addNode_28 ?_
          refine lv_iload_n hx hb dX1_addNode_29 rfl (lv_at hl 1 rfl) ?_
          refine lv_icmp_ne (tgt := 36) hx hb dX1_addNode_30 (by decide) (fun c_30 => ?_) (fun c_30 => ?_)
          · refine lv_iinc (v := (nI (k + 1))) (lv' := [(2, .int (nI (k + 1))), (0, .ref (b 0)), (1, .int (x))]) hx hb dX1_addNode_36 hl (k := 2) rfl (nI_inc _) (by decide) rfl (fun ls hl => ?_)
            refine lv_goto (tgt := 15) hx hb dX1_addNode_39 (by decide) ?_
            exact ih_15 (k + 1) (by omega) (lt_s hno c_30) (by omega) _ _ (hP) hS ls (lv_sub hl [1, 2, 0] rfl)
          · refine lv_bipush (v := (-3)) hx hb dX1_addNode_33 (by decide) ?_
            exact hret _ _ _ _ _ (by rw [show okAN n ids x = false by simp [okAN, anyB_yes (p := fun j => decide (ids j = x)) (k := k) (n := n) (by omega) (by simp [c_30])]]; exact hP) hS dX1_addNode_35 (by simp [anRes, c_7, anyB_yes (p := fun j => decide (ids j = x)) (k := k) (n := n) (by omega) (by simp [c_30])])
    exact loop_15 (n - 0 + 1) 0 (Nat.zero_le _) (lt_0) (Nat.lt_succ_self _) _ _ (hP) hS ls (lv_sub hl [1, 2, 0] rfl)
  · refine lv_bipush (v := (-2)) hx hb dX1_addNode_10 (by decide) ?_
    exact hret _ _ _ _ _ (by rw [show okAN n ids x = false by simp [okAN, c_7]]; exact hP) hS dX1_addNode_12 (by simp [anRes, c_7])
set_option maxRecDepth 100000 in
set_option maxHeartbeats 4000000 in
theorem cM_changes {l : Launch} {E : EE} {b : Nat → Nat} {n : Nat} {ids : Nat → Int32} {par : Nat → Option Nat} {cols : Nat → Int32} {rd : Nat} {nx : Nat → Int32} {isin : Nat → Bool} {wi wo : Nat → Nat} {wf : Nat → Option Nat} (v : Nat) (o : Option Nat) (hI : inj 9 b)(hv : v < 24) (hrd : rd < 100000) : WR l E (MP E b n ids par cols rd nx isin wi wo wf) (AM b) yX1_changesParent cX1_changesParent 4 (some .int) 2 42 [.ref (b 0), .int (nI (v)), .int (pe (o))] (some (.int (pe (par v)))) (MP E b n ids (va_up par v o) (scF cols rd 24) 0 nx isin wi wo wf) := by
  refine WR.mkI (C := RX1) rfl rfl (by decide) rfl (Nat.le_of_ble_eq_true rfl) ?_
  intro p e s m args below meth c H0 Q hC hK hP hret ls hl
  obtain ⟨hx, hb, hml, hown, hts⟩ := id hC
  have hl : lv_has ls 4 [(0, .ref (b 0)), (1, .int (nI (v))), (2, .int (pe (o)))] := hl
  have hS : va_S (AM b) H0 H0 [] := va_S.rf
  have hP : MP E b n ids par cols rd nx isin wi wo wf H0 := hP
  refine lv_aload_n hx hb dX1_changesParent_0 rfl (lv_at hl 0 rfl) ?_
  refine m_g2 hC hK hP dX1_changesParent_1 ?_
  refine lv_iload_n hx hb dX1_changesParent_4 rfl (lv_at hl 1 rfl) ?_
  refine m_ld2 hx hb hK hP (by omega) dX1_changesParent_5 ?_
  refine lv_istore_n (lv' := [(3, .int (pe (par v))), (0, .ref (b 0)), (1, .int (nI (v))), (2, .int (pe (o)))]) hx hb dX1_changesParent_6 rfl hl (by decide) rfl (fun ls hl => ?_)
  refine lv_aload_n hx hb dX1_changesParent_7 rfl (lv_at hl 1 rfl) ?_
  refine wrV (As := []) hC kX1_51 (cM_start  hI hrd) hK hP (m_rec hK hP) hS (fun _ h => h) rfl rfl hl ⟨Nat.le_of_ble_eq_true rfl, Nat.le_of_ble_eq_true rfl⟩ (Nat.le_of_ble_eq_true rfl) dX1_changesParent_8 ⟨Nat.le_of_ble_eq_true rfl, Nat.le_of_ble_eq_true rfl⟩ (fun H locs hP hS _ _ => ?_)
  refine lv_aload_n hx hb dX1_changesParent_11 rfl (lv_at hl 1 rfl) ?_
  refine m_g2 hC hK hP dX1_changesParent_12 ?_
  refine lv_iload_n hx hb dX1_changesParent_15 rfl (lv_at hl 2 rfl) ?_
  refine lv_iload_n hx hb dX1_changesParent_16 rfl (lv_at hl 3 rfl) ?_
  refine m_st2 (x := o) hx hb hK hI hP hS (by omega) dX1_changesParent_17 (fun H locs hP hS => ?_)
  refine lv_iload_n hx hb dX1_changesParent_18 rfl (lv_at hl 0 rfl) ?_
  exact hret _ _ _ _ _ (hP) hS dX1_changesParent_19 (by first | rfl | omega | simp_all)
set_option maxRecDepth 100000 in
set_option maxHeartbeats 4000000 in
theorem cM_setParent {l : Launch} {E : EE} {b : Nat → Nat} {n : Nat} {ids : Nat → Int32} {par : Nat → Option Nat} {cols : Nat → Int32} {rd : Nat} {nx : Nat → Int32} {isin : Nat → Bool} {wi wo : Nat → Nat} {wf : Nat → Option Nat} (x y : Int32) (hI : inj 9 b)(hn : n ≤ 24)(hrd : rd < 100000) : WR l E (MP E b n ids par cols rd nx isin wi wo wf) (AM b) yX1_setParent cX1_setParent 3 (some .int) 3 65 [.ref (b 0), .int (x), .int (y)] (some (.int (spRes n par x y))) (MP E b n ids (oU (okSP n x y) (fun q => va_up par q.1 (some q.2)) par) (oU (okSP n x y) (fun _ => scF cols rd 24) cols) (oU (okSP n x y) (fun _ => 0) rd) nx isin wi wo wf) := by
  refine WR.mkI (C := RX1) rfl rfl (by decide) rfl (Nat.le_of_ble_eq_true rfl) ?_
  intro p e s m args below meth c H0 Q hC hK hP hret ls hl
  obtain ⟨hx, hb, hml, hown, hts⟩ := id hC
  have hl : lv_has ls 3 [(0, .ref (b 0)), (1, .int (x)), (2, .int (y))] := hl
  have hS : va_S (AM b) H0 H0 [] := va_S.rf
  have hP : MP E b n ids par cols rd nx isin wi wo wf H0 := hP
  refine lv_aload_n hx hb dX1_setParent_0 rfl (lv_at hl 0 rfl) ?_
  refine lv_iload_n hx hb dX1_setParent_1 rfl (lv_at hl 1 rfl) ?_
  refine roV (As := [.int (x)]) hC kX1_58 (cM_isNode ((x)) hn) hK hP (m_rec hK hP) rfl rfl hl ⟨Nat.le_of_ble_eq_true rfl, Nat.le_of_ble_eq_true rfl⟩ (Nat.le_of_ble_eq_true rfl) dX1_setParent_2 ⟨Nat.le_of_ble_eq_true rfl, Nat.le_of_ble_eq_true rfl⟩ ?_
  refine bv_eq (tgt := 16) hx hb dX1_setParent_5 (by decide) (fun c_5 => ?_) (fun c_5 => ?_)
  · refine lv_iconst (v := (-1)) hx hb dX1_setParent_16 (by decide) ?_
    exact hret _ _ _ _ _ (by rw [oU_none (okSP_1 c_5), oU_none (okSP_1 c_5), oU_none (okSP_1 c_5)]; exact hP) hS dX1_setParent_17 ((spRes_1 c_5).symm)
  · obtain ⟨v, hv, rfl⟩ := vN_t hn c_5
    refine lv_aload_n hx hb dX1_setParent_8 rfl (lv_at hl 0 rfl) ?_
    refine lv_iload_n hx hb dX1_setParent_9 rfl (lv_at hl 2 rfl) ?_
    refine roV (As := [.int (y)]) hC kX1_58 (cM_isNode ((y)) hn) hK hP (m_rec hK hP) rfl rfl hl ⟨Nat.le_of_ble_eq_true rfl, Nat.le_of_ble_eq_true rfl⟩ (Nat.le_of_ble_eq_true rfl) dX1_setParent_10 ⟨Nat.le_of_ble_eq_true rfl, Nat.le_of_ble_eq_true rfl⟩ ?_
    refine bv_ne (tgt := 18) hx hb dX1_setParent_13 (by decide) (fun c_13 => ?_) (fun c_13 => ?_)
    · obtain ⟨u, hu, rfl⟩ := vN_t hn c_13
      refine lv_iload_n hx hb dX1_setParent_18 rfl (lv_at hl 1 rfl) ?_
      refine lv_iload_n hx hb dX1_setParent_19 rfl (lv_at hl 2 rfl) ?_
      refine nv_ne (tgt := 28) hx hb (by omega) (by omega) dX1_setParent_20 (by decide) (fun c_20 => ?_) (fun c_20 => ?_)
      · refine lv_aload_n hx hb dX1_setParent_28 rfl (lv_at hl 0 rfl) ?_
        refine lv_iload_n hx hb dX1_setParent_29 rfl (lv_at hl 1 rfl) ?_
        refine lv_iload_n hx hb dX1_setParent_30 rfl (lv_at hl 2 rfl) ?_
        refine wrV (As := [.int (nI (v)), .int (nI (u))]) hC kX1_62 (cM_changes v (some u) hI (by omega) hrd) hK hP (m_rec hK hP) hS (fun _ h => h) rfl rfl hl ⟨Nat.le_of_ble_eq_true rfl, Nat.le_of_ble_eq_true rfl⟩ (Nat.le_of_ble_eq_true rfl) dX1_setParent_31 ⟨Nat.le_of_ble_eq_true rfl, Nat.le_of_ble_eq_true rfl⟩ (fun H locs hP hS _ _ => ?_)
        exact hret _ _ _ _ _ (by rw [oU_some (okSP_4 hn hv hu c_20), oU_some (okSP_4 hn hv hu c_20), oU_some (okSP_4 hn hv hu c_20)]; exact hP) hS dX1_setParent_34 ((spRes_4 hn hv hu c_20).symm)
      · subst c_20
        refine lv_bipush (v := (-2)) hx hb dX1_setParent_23 (by decide) ?_
        refine lv_goto (tgt := 34) hx hb dX1_setParent_25 (by decide) ?_
        exact hret _ _ _ _ _ (by rw [oU_none (okSP_3 hn hv), oU_none (okSP_3 hn hv), oU_none (okSP_3 hn hv)]; exact hP) hS dX1_setParent_34 ((spRes_3 hn hv).symm)
    · refine lv_iconst (v := (-1)) hx hb dX1_setParent_16 (by decide) ?_
      exact hret _ _ _ _ _ (by rw [oU_none (okSP_2 c_13), oU_none (okSP_2 c_13), oU_none (okSP_2 c_13)]; exact hP) hS dX1_setParent_17 ((spRes_2 c_13).symm)
set_option maxRecDepth 100000 in
set_option maxHeartbeats 4000000 in
theorem cM_removeParent {l : Launch} {E : EE} {b : Nat → Nat} {n : Nat} {ids : Nat → Int32} {par : Nat → Option Nat} {cols : Nat → Int32} {rd : Nat} {nx : Nat → Int32} {isin : Nat → Bool} {wi wo : Nat → Nat} {wf : Nat → Option Nat} (x : Int32) (hI : inj 9 b)(hn : n ≤ 24)(hrd : rd < 100000) : WR l E (MP E b n ids par cols rd nx isin wi wo wf) (AM b) yX1_removeParent cX1_removeParent 2 (some .int) 3 65 [.ref (b 0), .int (x)] (some (.int (oN (vN n x) (fun v => pe (par v))))) (MP E b n ids (oU (vN n x) (fun v => va_up par v none) par) (oU (vN n x) (fun _ => scF cols rd 24) cols) (oU (vN n x) (fun _ => 0) rd) nx isin wi wo wf) := by
  refine WR.mkI (C := RX1) rfl rfl (by decide) rfl (Nat.le_of_ble_eq_true rfl) ?_
  intro p e s m args below meth c H0 Q hC hK hP hret ls hl
  obtain ⟨hx, hb, hml, hown, hts⟩ := id hC
  have hl : lv_has ls 2 [(0, .ref (b 0)), (1, .int (x))] := hl
  have hS : va_S (AM b) H0 H0 [] := va_S.rf
  have hP : MP E b n ids par cols rd nx isin wi wo wf H0 := hP
  refine lv_aload_n hx hb dX1_removeParent_0 rfl (lv_at hl 0 rfl) ?_
  refine lv_iload_n hx hb dX1_removeParent_1 rfl (lv_at hl 1 rfl) ?_
  refine roV (As := [.int (x)]) hC kX1_58 (cM_isNode ((x)) hn) hK hP (m_rec hK hP) rfl rfl hl ⟨Nat.le_of_ble_eq_true rfl, Nat.le_of_ble_eq_true rfl⟩ (Nat.le_of_ble_eq_true rfl) dX1_removeParent_2 ⟨Nat.le_of_ble_eq_true rfl, Nat.le_of_ble_eq_true rfl⟩ ?_
  refine bv_eq (tgt := 18) hx hb dX1_removeParent_5 (by decide) (fun c_5 => ?_) (fun c_5 => ?_)
  · refine lv_iconst (v := (-1)) hx hb dX1_removeParent_18 (by decide) ?_
    exact hret _ _ _ _ _ (by rw [oU_none (vN_f c_5), oU_none (vN_f c_5), oU_none (vN_f c_5)]; exact hP) hS dX1_removeParent_19 ((oN_out c_5 _).symm)
  · obtain ⟨v, hv, rfl⟩ := vN_t hn c_5
    refine lv_aload_n hx hb dX1_removeParent_8 rfl (lv_at hl 0 rfl) ?_
    refine lv_iload_n hx hb dX1_removeParent_9 rfl (lv_at hl 1 rfl) ?_
    refine lv_bipush (v := (pe (none))) hx hb dX1_removeParent_10 (by decide) ?_
    refine wrV (As := [.int (nI (v)), .int (pe (none))]) hC kX1_62 (cM_changes v none hI (by omega) hrd) hK hP (m_rec hK hP) hS (fun _ h => h) rfl rfl hl ⟨Nat.le_of_ble_eq_true rfl, Nat.le_of_ble_eq_true rfl⟩ (Nat.le_of_ble_eq_true rfl) dX1_removeParent_12 ⟨Nat.le_of_ble_eq_true rfl, Nat.le_of_ble_eq_true rfl⟩ (fun H locs hP hS _ _ => ?_)
    refine lv_goto (tgt := 19) hx hb dX1_removeParent_15 (by decide) ?_
    exact hret _ _ _ _ _ (by rw [oU_some (vN_nI hn hv), oU_some (vN_nI hn hv), oU_some (vN_nI hn hv)]; exact hP) hS dX1_removeParent_19 (by rw [oN_in hn hv])
set_option maxRecDepth 100000 in
set_option maxHeartbeats 4000000 in
theorem cM_parent {l : Launch} {E : EE} {b : Nat → Nat} {n : Nat} {ids : Nat → Int32} {par : Nat → Option Nat} {cols : Nat → Int32} {rd : Nat} {nx : Nat → Int32} {isin : Nat → Bool} {wi wo : Nat → Nat} {wf : Nat → Option Nat} (x : Int32) (hn : n ≤ 24) : RO l E (MP E b n ids par cols rd nx isin wi wo wf) yX1_parent cX1_parent 2 (some .int) 2 43 [.ref (b 0), .int (x)] (oN (vN n x) (fun v => pe (par v))) := by
  refine RO.mk (C := RX1) rfl rfl (by decide) rfl (Nat.le_of_ble_eq_true rfl) ?_
  intro p e s m args below meth c H Q hC hK hP hret ls hl
  obtain ⟨hx, hb, hml, hown, hts⟩ := id hC
  have hl : lv_has ls 2 [(0, .ref (b 0)), (1, .int (x))] := hl
  refine lv_aload_n hx hb dX1_parent_0 rfl (lv_at hl 0 rfl) ?_
  refine lv_iload_n hx hb dX1_parent_1 rfl (lv_at hl 1 rfl) ?_
  refine roV (As := [.int (x)]) hC kX1_58 (cM_isNode ((x)) hn) hK hP (m_rec hK hP) rfl rfl hl ⟨Nat.le_of_ble_eq_true rfl, Nat.le_of_ble_eq_true rfl⟩ (Nat.le_of_ble_eq_true rfl) dX1_parent_2 ⟨Nat.le_of_ble_eq_true rfl, Nat.le_of_ble_eq_true rfl⟩ ?_
  refine bv_eq (tgt := 17) hx hb dX1_parent_5 (by decide) (fun c_5 => ?_) (fun c_5 => ?_)
  · refine lv_iconst (v := (-1)) hx hb dX1_parent_17 (by decide) ?_
    exact hret _ _ _ dX1_parent_18 ((oN_out c_5 _).symm)
  · obtain ⟨v, hv, rfl⟩ := vN_t hn c_5
    refine lv_aload_n hx hb dX1_parent_8 rfl (lv_at hl 0 rfl) ?_
    refine m_g2 hC hK hP dX1_parent_9 ?_
    refine lv_iload_n hx hb dX1_parent_12 rfl (lv_at hl 1 rfl) ?_
    refine m_ld2 hx hb hK hP (by omega) dX1_parent_13 ?_
    refine lv_goto (tgt := 18) hx hb dX1_parent_14 (by decide) ?_
    exact hret _ _ _ dX1_parent_18 (by rw [oN_in hn hv])
set_option maxRecDepth 100000 in
set_option maxHeartbeats 4000000 in
theorem cM_nb {l : Launch} {E : EE} {b : Nat → Nat} {n : Nat} {ids : Nat → Int32} {par : Nat → Option Nat} {cols : Nat → Int32} {rd : Nat} {nx : Nat → Int32} {isin : Nat → Bool} {wi wo : Nat → Nat} {wf : Nat → Option Nat} (u v : Nat) (hn : n ≤ 24)(hp : PW n par)(hu : u < n) (hv : v < n) : RO l E (MP E b n ids par cols rd nx isin wi wo wf) yX1_areNeighbours cX1_areNeighbours 3 (some .boolean) 0 0 [.ref (b 0), .int (nI (u)), .int (nI (v))] (b2i (nb par u v)) := by
  refine RO.mk (C := RX1) rfl (b2i_nar _) (by decide) rfl (Nat.le_of_ble_eq_true rfl) ?_
  intro p e s m args below meth c H Q hC hK hP hret ls hl
  obtain ⟨hx, hb, hml, hown, hts⟩ := id hC
  have hl : lv_has ls 3 [(0, .ref (b 0)), (1, .int (nI (u))), (2, .int (nI (v)))] := hl
  refine lv_iload_n hx hb dX1_areNeighbours_0 rfl (lv_at hl 1 rfl) ?_
  refine lv_iload_n hx hb dX1_areNeighbours_1 rfl (lv_at hl 2 rfl) ?_
  refine nv_eq (tgt := 29) hx hb (by omega) (by omega) dX1_areNeighbours_2 (by decide) (fun c_2 => ?_) (fun c_2 => ?_)
  · refine lv_iconst (v := (0)) hx hb dX1_areNeighbours_29 (by decide) ?_
    exact hret _ _ _ dX1_areNeighbours_30 (by rw [c_2, nb_irr hp hv]; rfl)
  · refine lv_aload_n hx hb dX1_areNeighbours_5 rfl (lv_at hl 0 rfl) ?_
    refine m_g2 hC hK hP dX1_areNeighbours_6 ?_
    refine lv_iload_n hx hb dX1_areNeighbours_9 rfl (lv_at hl 1 rfl) ?_
    refine m_ld2 hx hb hK hP (by omega) dX1_areNeighbours_10 ?_
    refine lv_iload_n hx hb dX1_areNeighbours_11 rfl (lv_at hl 2 rfl) ?_
    refine pvn_eq (tgt := 25) hx hb (hp.big hn (by omega)) (by omega) dX1_areNeighbours_12 (by decide) (fun c_12 => ?_) (fun c_12 => ?_)
    · refine lv_iconst (v := (1)) hx hb dX1_areNeighbours_25 (by decide) ?_
      refine lv_goto (tgt := 30) hx hb dX1_areNeighbours_26 (by decide) ?_
      exact hret _ _ _ dX1_areNeighbours_30 (by simp [nb, c_12, b2i])
    · refine lv_aload_n hx hb dX1_areNeighbours_15 rfl (lv_at hl 0 rfl) ?_
      refine m_g2 hC hK hP dX1_areNeighbours_16 ?_
      refine lv_iload_n hx hb dX1_areNeighbours_19 rfl (lv_at hl 2 rfl) ?_
      refine m_ld2 hx hb hK hP (by omega) dX1_areNeighbours_20 ?_
      refine lv_iload_n hx hb dX1_areNeighbours_21 rfl (lv_at hl 1 rfl) ?_
      refine pvn_ne (tgt := 29) hx hb (hp.big hn (by omega)) (by omega) dX1_areNeighbours_22 (by decide) (fun c_22 => ?_) (fun c_22 => ?_)
      · refine lv_iconst (v := (0)) hx hb dX1_areNeighbours_29 (by decide) ?_
        exact hret _ _ _ dX1_areNeighbours_30 (by simp [nb, c_12, c_22, b2i])
      · refine lv_iconst (v := (1)) hx hb dX1_areNeighbours_25 (by decide) ?_
        refine lv_goto (tgt := 30) hx hb dX1_areNeighbours_26 (by decide) ?_
        exact hret _ _ _ dX1_areNeighbours_30 (by simp [nb, c_12, c_22, b2i])
set_option maxRecDepth 100000 in
set_option maxHeartbeats 4000000 in
theorem cM_degree {l : Launch} {E : EE} {b : Nat → Nat} {n : Nat} {ids : Nat → Int32} {par : Nat → Option Nat} {cols : Nat → Int32} {rd : Nat} {nx : Nat → Int32} {isin : Nat → Bool} {wi wo : Nat → Nat} {wf : Nat → Option Nat} (x : Int32) (hn : n ≤ 24)(hp : PW n par) : RO l E (MP E b n ids par cols rd nx isin wi wo wf) yX1_degree cX1_degree 4 (some .int) 2 43 [.ref (b 0), .int (x)] (oN (vN n x) (fun v => nI (fb_ct (nb par v) n))) := by
  refine RO.mk (C := RX1) rfl rfl (by decide) rfl (Nat.le_of_ble_eq_true rfl) ?_
  intro p e s m args below meth c H Q hC hK hP hret ls hl
  obtain ⟨hx, hb, hml, hown, hts⟩ := id hC
  have hl : lv_has ls 4 [(0, .ref (b 0)), (1, .int (x))] := hl
  refine lv_aload_n hx hb dX1_degree_0 rfl (lv_at hl 0 rfl) ?_
  refine lv_iload_n hx hb dX1_degree_1 rfl (lv_at hl 1 rfl) ?_
  refine roV (As := [.int (x)]) hC kX1_58 (cM_isNode ((x)) hn) hK hP (m_rec hK hP) rfl rfl hl ⟨Nat.le_of_ble_eq_true rfl, Nat.le_of_ble_eq_true rfl⟩ (Nat.le_of_ble_eq_true rfl) dX1_degree_2 ⟨Nat.le_of_ble_eq_true rfl, Nat.le_of_ble_eq_true rfl⟩ ?_
  refine bv_ne (tgt := 10) hx hb dX1_degree_5 (by decide) (fun c_5 => ?_) (fun c_5 => ?_)
  · obtain ⟨v, hv, rfl⟩ := vN_t hn c_5
    refine lv_iconst (v := (nI (0))) hx hb dX1_degree_10 (by decide) ?_
    refine lv_istore_n (lv' := [(2, .int (nI (0))), (0, .ref (b 0)), (1, .int (nI (v)))]) hx hb dX1_degree_11 rfl hl (by decide) rfl (fun ls hl => ?_)
    refine lv_iconst (v := (nI (0))) hx hb dX1_degree_12 (by decide) ?_
    refine lv_istore_n (lv' := [(3, .int (nI (0))), (2, .int (nI (0))), (0, .ref (b 0)), (1, .int (nI (v)))]) hx hb dX1_degree_13 rfl hl (by decide) rfl (fun ls hl => ?_)
    have loop_14 : ∀ (fuel : Nat) (k : Nat), (k ≤ n) → n - k < fuel → ∀ (ls : Array Slot), lv_has ls 4 [(0, .ref (b 0)), (1, .int (nI (v))), (2, .int (nI (fb_ct (nb par v) k))), (3, .int (nI (k)))] → W p l e (k2_rm 2 43) s m args below meth c H [] 0 0 Q (F0 m 14 ls []) := by
      intro fuel
      induction fuel with
      | zero => intro k hk hm; exact absurd hm (Nat.not_lt_zero _)
      | succ fuel ih_14 =>
        intro k hk hm ls hl
        refine lv_iload_n hx hb dX1_degree_14 rfl (lv_at hl 3 rfl) ?_
        refine lv_aload_n hx hb dX1_degree_15 rfl (lv_at hl 0 rfl) ?_
        refine m_g0 hC hK hP dX1_degree_16 ?_
        refine nv_ge (tgt := 45) hx hb (by omega) (by omega) dX1_degree_19 (by decide) (fun c_19 => ?_) (fun c_19 => ?_)
        · refine lv_iload_n hx hb dX1_degree_45 rfl (lv_at hl 2 rfl) ?_
          exact hret _ _ _ dX1_degree_46 (by rw [oN_in hn hv, show k = n by omega])
        · refine lv_iload_n hx hb dX1_degree_22 rfl (lv_at hl 2 rfl) ?_
          refine lv_aload_n hx hb dX1_degree_23 rfl (lv_at hl 0 rfl) ?_
          refine lv_iload_n hx hb dX1_degree_24 rfl (lv_at hl 1 rfl) ?_
          refine lv_iload_n hx hb dX1_degree_25 rfl (lv_at hl 3 rfl) ?_
          refine roV (As := [.int (nI (v)), .int (nI (k))]) hC kX1_66 (cM_nb v k hn hp (by omega) (by omega)) hK hP (m_rec hK hP) rfl rfl hl ⟨Nat.le_of_ble_eq_true rfl, Nat.le_of_ble_eq_true rfl⟩ (Nat.le_of_ble_eq_true rfl) dX1_degree_26 ⟨Nat.le_of_ble_eq_true rfl, Nat.le_of_ble_eq_true rfl⟩ ?_
          refine bv_eq (tgt := 36) hx hb dX1_degree_29 (by decide) (fun c_29 => ?_) (fun c_29 => ?_)
          · refine lv_iconst (v := (nI (0))) hx hb dX1_degree_36 (by decide) ?_
            refine lv_iadd hx hb dX1_degree_37 ?_
            refine tI (nI ((fb_ct (nb par v) k) + 0)) (nI_add _ _) ?_
            refine tI ((nI (fb_ct (nb par v) (k + 1)))) (by rw [fb_ct_f c_29]; rfl) ?_
            refine lv_istore_n (lv' := [(2, .int (nI (fb_ct (nb par v) (k + 1)))), (0, .ref (b 0)), (1, .int (nI (v))), (3, .int (nI (k)))]) hx hb dX1_degree_38 rfl hl (by decide) rfl (fun ls hl => ?_)
            refine lv_iinc (v := (nI (k + 1))) (lv' := [(3, .int (nI (k + 1))), (2, .int (nI (fb_ct (nb par v) (k + 1)))), (0, .ref (b 0)), (1, .int (nI (v)))]) hx hb dX1_degree_39 hl (k := 3) rfl (nI_inc _) (by decide) rfl (fun ls hl => ?_)
            refine lv_goto (tgt := 14) hx hb dX1_degree_42 (by decide) ?_
            exact ih_14 (k + 1) (by omega) (by omega) ls (lv_sub hl [2, 3, 1, 0] rfl)
          · refine lv_iconst (v := (nI (1))) hx hb dX1_degree_32 (by decide) ?_
            refine lv_goto (tgt := 37) hx hb dX1_degree_33 (by decide) ?_
            refine lv_iadd hx hb dX1_degree_37 ?_
            refine tI (nI ((fb_ct (nb par v) k) + 1)) (nI_add _ _) ?_
            refine tI ((nI (fb_ct (nb par v) (k + 1)))) (by rw [fb_ct_t c_29]) ?_
            refine lv_istore_n (lv' := [(2, .int (nI (fb_ct (nb par v) (k + 1)))), (0, .ref (b 0)), (1, .int (nI (v))), (3, .int (nI (k)))]) hx hb dX1_degree_38 rfl hl (by decide) rfl (fun ls hl => ?_)
            refine lv_iinc (v := (nI (k + 1))) (lv' := [(3, .int (nI (k + 1))), (2, .int (nI (fb_ct (nb par v) (k + 1)))), (0, .ref (b 0)), (1, .int (nI (v)))]) hx hb dX1_degree_39 hl (k := 3) rfl (nI_inc _) (by decide) rfl (fun ls hl => ?_)
            refine lv_goto (tgt := 14) hx hb dX1_degree_42 (by decide) ?_
            exact ih_14 (k + 1) (by omega) (by omega) ls (lv_sub hl [2, 3, 1, 0] rfl)
    exact loop_14 (n - 0 + 1) 0 (Nat.zero_le _) (Nat.lt_succ_self _) ls (lv_sub hl [2, 3, 1, 0] rfl)
  · refine lv_iconst (v := (-1)) hx hb dX1_degree_8 (by decide) ?_
    exact hret _ _ _ dX1_degree_9 ((oN_out c_5 _).symm)
set_option maxRecDepth 100000 in
set_option maxHeartbeats 4000000 in
theorem cM_steps {l : Launch} {E : EE} {b : Nat → Nat} {n : Nat} {ids : Nat → Int32} {par : Nat → Option Nat} {cols : Nat → Int32} {rd : Nat} {nx : Nat → Int32} {isin : Nat → Bool} {wi wo : Nat → Nat} {wf : Nat → Option Nat} (v : Nat) (hn : n ≤ 24)(hp : PW n par)(hv : v < n) : RO l E (MP E b n ids par cols rd nx isin wi wo wf) yX1_stepsFrom cX1_stepsFrom 4 (some .int) 0 0 [.ref (b 0), .int (nI (v))] (pe (depF par (n + 1) v)) := by
  refine RO.mk (C := RX1) rfl rfl (by decide) rfl (Nat.le_of_ble_eq_true rfl) ?_
  intro p e s m args below meth c H Q hC hK hP hret ls hl
  obtain ⟨hx, hb, hml, hown, hts⟩ := id hC
  have hl : lv_has ls 4 [(0, .ref (b 0)), (1, .int (nI (v)))] := hl
  refine lv_iconst (v := (nI (0))) hx hb dX1_stepsFrom_0 (by decide) ?_
  refine lv_istore_n (lv' := [(2, .int (nI (0))), (0, .ref (b 0)), (1, .int (nI (v)))]) hx hb dX1_stepsFrom_1 rfl hl (by decide) rfl (fun ls hl => ?_)
  refine lv_iload_n hx hb dX1_stepsFrom_2 rfl (lv_at hl 2 rfl) ?_
  refine lv_istore_n (lv' := [(3, .int (nI (v))), (2, .int (nI (0))), (0, .ref (b 0)), (1, .int (nI (v)))]) hx hb dX1_stepsFrom_3 rfl hl (by decide) rfl (fun ls hl => ?_)
  have loop_4 : ∀ (fuel : Nat) (k : Nat) (t : Nat), (k ≤ n + 1) → (anc par k v = some t) → (t < n) → (∀ j, j < k → (anc par (j + 1) v).isNone = false) → n + 1 - k < fuel → ∀ (ls : Array Slot), lv_has ls 4 [(0, .ref (b 0)), (1, .int (nI (v))), (2, .int (nI (k))), (3, .int (nI (t)))] → W p l e (k2_rm 0 0) s m args below meth c H [] 0 0 Q (F0 m 4 ls []) := by
    intro fuel
    induction fuel with
    | zero => intro k t hk ht htn hno hm; exact absurd hm (Nat.not_lt_zero _)
    | succ fuel ih_4 =>
      intro k t hk ht htn hno hm ls hl
      refine lv_aload_n hx hb dX1_stepsFrom_4 rfl (lv_at hl 0 rfl) ?_
      refine m_g2 hC hK hP dX1_stepsFrom_5 ?_
      refine lv_iload_n hx hb dX1_stepsFrom_8 rfl (lv_at hl 3 rfl) ?_
      refine m_ld2 hx hb hK hP (by omega) dX1_stepsFrom_9 ?_
      refine lv_bipush (v := (-7)) hx hb dX1_stepsFrom_10 (by decide) ?_
      refine pv_eq7 (tgt := 36) hx hb (hp.big hn (by omega)) dX1_stepsFrom_12 (by decide) (fun c_12 => ?_) (fun c_12 => ?_)
      · refine lv_iload_n hx hb dX1_stepsFrom_36 rfl (lv_at hl 2 rfl) ?_
        refine lv_aload_n hx hb dX1_stepsFrom_37 rfl (lv_at hl 0 rfl) ?_
        refine m_g0 hC hK hP dX1_stepsFrom_38 ?_
        refine nv_le (tgt := 49) hx hb (by omega) (by omega) dX1_stepsFrom_41 (by decide) (fun c_41 => ?_) (fun c_41 => ?_)
        · refine lv_iload_n hx hb dX1_stepsFrom_49 rfl (lv_at hl 2 rfl) ?_
          exact hret _ _ _ dX1_stepsFrom_50 (by rw [depF, fst_some (k := k) (by omega) (by rw [anc_s ht, c_12]; rfl) hno]; rfl)
        · refine lv_bipush (v := (-7)) hx hb dX1_stepsFrom_44 (by decide) ?_
          refine lv_goto (tgt := 50) hx hb dX1_stepsFrom_46 (by decide) ?_
          exact hret _ _ _ dX1_stepsFrom_50 (by rw [depF, fst_none (fun j hj => hno j (by omega))]; rfl)
      · obtain ⟨u, hu⟩ := ex_some c_12
        refine lv_iload_n hx hb dX1_stepsFrom_15 rfl (lv_at hl 2 rfl) ?_
        refine lv_aload_n hx hb dX1_stepsFrom_16 rfl (lv_at hl 0 rfl) ?_
        refine m_g0 hC hK hP dX1_stepsFrom_17 ?_
        refine nv_gt (tgt := 36) hx hb (by omega) (by omega) dX1_stepsFrom_20 (by decide) (fun c_20 => ?_) (fun c_20 => ?_)
        · refine lv_iload_n hx hb dX1_stepsFrom_36 rfl (lv_at hl 2 rfl) ?_
          refine lv_aload_n hx hb dX1_stepsFrom_37 rfl (lv_at hl 0 rfl) ?_
          refine m_g0 hC hK hP dX1_stepsFrom_38 ?_
          refine nv_le (tgt := 49) hx hb (by omega) (by omega) dX1_stepsFrom_41 (by decide) (fun c_41 => ?_) (fun c_41 => ?_)
          · refine lv_iload_n hx hb dX1_stepsFrom_49 rfl (lv_at hl 2 rfl) ?_
            exact hret _ _ _ dX1_stepsFrom_50 (absurd c_41 (by omega))
          · refine lv_bipush (v := (-7)) hx hb dX1_stepsFrom_44 (by decide) ?_
            refine lv_goto (tgt := 50) hx hb dX1_stepsFrom_46 (by decide) ?_
            exact hret _ _ _ dX1_stepsFrom_50 (by rw [depF, fst_none (fun j hj => hno j (by omega))]; rfl)
        · refine lv_aload_n hx hb dX1_stepsFrom_23 rfl (lv_at hl 0 rfl) ?_
          refine m_g2 hC hK hP dX1_stepsFrom_24 ?_
          refine lv_iload_n hx hb dX1_stepsFrom_27 rfl (lv_at hl 3 rfl) ?_
          refine m_ld2 hx hb hK hP (by omega) dX1_stepsFrom_28 ?_
          refine tI ((nI (u))) (by rw [hu]; rfl) ?_
          refine lv_istore_n (lv' := [(3, .int (nI (u))), (0, .ref (b 0)), (1, .int (nI (v))), (2, .int (nI (k)))]) hx hb dX1_stepsFrom_29 rfl hl (by decide) rfl (fun ls hl => ?_)
          refine lv_iinc (v := (nI (k + 1))) (lv' := [(2, .int (nI (k + 1))), (3, .int (nI (u))), (0, .ref (b 0)), (1, .int (nI (v)))]) hx hb dX1_stepsFrom_30 hl (k := 3) rfl (nI_inc _) (by decide) rfl (fun ls hl => ?_)
          refine lv_goto (tgt := 4) hx hb dX1_stepsFrom_33 (by decide) ?_
          exact ih_4 (k + 1) u (by omega) (by rw [anc_s ht, hu]) (hp.lt htn hu) (lt_s hno (by rw [anc_s ht, hu]; rfl)) (by omega) ls (lv_sub hl [2, 3, 0, 1] rfl)
  exact loop_4 (n + 1 - 0 + 1) 0 v (Nat.zero_le _) (rfl) (hv) (lt_0) (Nat.lt_succ_self _) ls (lv_sub hl [2, 3, 1, 0] rfl)
set_option maxRecDepth 100000 in
set_option maxHeartbeats 4000000 in
theorem cM_depth {l : Launch} {E : EE} {b : Nat → Nat} {n : Nat} {ids : Nat → Int32} {par : Nat → Option Nat} {cols : Nat → Int32} {rd : Nat} {nx : Nat → Int32} {isin : Nat → Bool} {wi wo : Nat → Nat} {wf : Nat → Option Nat} (x : Int32) (hn : n ≤ 24)(hp : PW n par) : RO l E (MP E b n ids par cols rd nx isin wi wo wf) yX1_depth cX1_depth 2 (some .int) 2 43 [.ref (b 0), .int (x)] (oN (vN n x) (fun v => pe (depF par (n + 1) v))) := by
  refine RO.mk (C := RX1) rfl rfl (by decide) rfl (Nat.le_of_ble_eq_true rfl) ?_
  intro p e s m args below meth c H Q hC hK hP hret ls hl
  obtain ⟨hx, hb, hml, hown, hts⟩ := id hC
  have hl : lv_has ls 2 [(0, .ref (b 0)), (1, .int (x))] := hl
  refine lv_aload_n hx hb dX1_depth_0 rfl (lv_at hl 0 rfl) ?_
  refine lv_iload_n hx hb dX1_depth_1 rfl (lv_at hl 1 rfl) ?_
  refine roV (As := [.int (x)]) hC kX1_58 (cM_isNode ((x)) hn) hK hP (m_rec hK hP) rfl rfl hl ⟨Nat.le_of_ble_eq_true rfl, Nat.le_of_ble_eq_true rfl⟩ (Nat.le_of_ble_eq_true rfl) dX1_depth_2 ⟨Nat.le_of_ble_eq_true rfl, Nat.le_of_ble_eq_true rfl⟩ ?_
  refine bv_eq (tgt := 16) hx hb dX1_depth_5 (by decide) (fun c_5 => ?_) (fun c_5 => ?_)
  · refine lv_iconst (v := (-1)) hx hb dX1_depth_16 (by decide) ?_
    exact hret _ _ _ dX1_depth_17 ((oN_out c_5 _).symm)
  · obtain ⟨v, hv, rfl⟩ := vN_t hn c_5
    refine lv_aload_n hx hb dX1_depth_8 rfl (lv_at hl 0 rfl) ?_
    refine lv_iload_n hx hb dX1_depth_9 rfl (lv_at hl 1 rfl) ?_
    refine roV (As := [.int (nI (v))]) hC kX1_70 (cM_steps v hn hp (by omega)) hK hP (m_rec hK hP) rfl rfl hl ⟨Nat.le_of_ble_eq_true rfl, Nat.le_of_ble_eq_true rfl⟩ (Nat.le_of_ble_eq_true rfl) dX1_depth_10 ⟨Nat.le_of_ble_eq_true rfl, Nat.le_of_ble_eq_true rfl⟩ ?_
    refine lv_goto (tgt := 17) hx hb dX1_depth_13 (by decide) ?_
    exact hret _ _ _ dX1_depth_17 (by rw [oN_in hn hv])
set_option maxRecDepth 100000 in
set_option maxHeartbeats 4000000 in
theorem cM_cycleOf {l : Launch} {E : EE} {b : Nat → Nat} {n : Nat} {ids : Nat → Int32} {par : Nat → Option Nat} {cols : Nat → Int32} {rd : Nat} {nx : Nat → Int32} {isin : Nat → Bool} {wi wo : Nat → Nat} {wf : Nat → Option Nat} (v : Nat) (hn : n ≤ 24)(hp : PW n par)(hv : v < n) : RO l E (MP E b n ids par cols rd nx isin wi wo wf) yX1_cycleOf cX1_cycleOf 4 (some .int) 0 0 [.ref (b 0), .int (nI (v))] (pe (cycF par n v)) := by
  refine RO.mk (C := RX1) rfl rfl (by decide) rfl (Nat.le_of_ble_eq_true rfl) ?_
  intro p e s m args below meth c H Q hC hK hP hret ls hl
  obtain ⟨hx, hb, hml, hown, hts⟩ := id hC
  have hl : lv_has ls 4 [(0, .ref (b 0)), (1, .int (nI (v)))] := hl
  refine lv_aload_n hx hb dX1_cycleOf_0 rfl (lv_at hl 0 rfl) ?_
  refine m_g2 hC hK hP dX1_cycleOf_1 ?_
  refine lv_iload_n hx hb dX1_cycleOf_4 rfl (lv_at hl 1 rfl) ?_
  refine m_ld2 hx hb hK hP (by omega) dX1_cycleOf_5 ?_
  refine lv_istore_n (lv' := [(2, .int (pe (par v))), (0, .ref (b 0)), (1, .int (nI (v)))]) hx hb dX1_cycleOf_6 rfl hl (by decide) rfl (fun ls hl => ?_)
  refine lv_iconst (v := (nI (1))) hx hb dX1_cycleOf_7 (by decide) ?_
  refine lv_istore_n (lv' := [(3, .int (nI (1))), (2, .int (pe (par v))), (0, .ref (b 0)), (1, .int (nI (v)))]) hx hb dX1_cycleOf_8 rfl hl (by decide) rfl (fun ls hl => ?_)
  have loop_9 : ∀ (fuel : Nat) (k : Nat), (k ≤ n) → (∀ j, j < k → (anc par (j + 1) v == some v) = false) → n - k < fuel → ∀ (ls : Array Slot), lv_has ls 4 [(0, .ref (b 0)), (1, .int (nI (v))), (2, .int (pe (anc par (k + 1) v))), (3, .int (nI (k + 1)))] → W p l e (k2_rm 0 0) s m args below meth c H [] 0 0 Q (F0 m 9 ls []) := by
    intro fuel
    induction fuel with
    | zero => intro k hk hno hm; exact absurd hm (Nat.not_lt_zero _)
    | succ fuel ih_9 =>
      intro k hk hno hm ls hl
      have hbd := anc_lt hp hv (k + 1)
      refine lv_iload_n hx hb dX1_cycleOf_9 rfl (lv_at hl 3 rfl) ?_
      refine lv_aload_n hx hb dX1_cycleOf_10 rfl (lv_at hl 0 rfl) ?_
      refine m_g0 hC hK hP dX1_cycleOf_11 ?_
      refine nv_gt (tgt := 43) hx hb (by omega) (by omega) dX1_cycleOf_14 (by decide) (fun c_14 => ?_) (fun c_14 => ?_)
      · refine lv_bipush (v := (-7)) hx hb dX1_cycleOf_43 (by decide) ?_
        exact hret _ _ _ dX1_cycleOf_45 (by rw [cycF, fst_none (fun j hj => hno j (by omega))]; rfl)
      · refine lv_iload_n hx hb dX1_cycleOf_17 rfl (lv_at hl 2 rfl) ?_
        refine lv_bipush (v := (-7)) hx hb dX1_cycleOf_18 (by decide) ?_
        refine pv_eq7 (tgt := 43) hx hb (fun u hu => by have := hbd u hu; omega) dX1_cycleOf_20 (by decide) (fun c_20 => ?_) (fun c_20 => ?_)
        · refine lv_bipush (v := (-7)) hx hb dX1_cycleOf_43 (by decide) ?_
          exact hret _ _ _ dX1_cycleOf_45 (by rw [cyc_none c_20 hno]; rfl)
        · obtain ⟨t, ht⟩ := ex_some c_20
          have htn := hbd t ht
          rw [ht, show pe (some t) = nI t from rfl] at hl
          refine lv_iload_n hx hb dX1_cycleOf_23 rfl (lv_at hl 2 rfl) ?_
          refine lv_iload_n hx hb dX1_cycleOf_24 rfl (lv_at hl 1 rfl) ?_
          refine nv_ne (tgt := 30) hx hb (by omega) (by omega) dX1_cycleOf_25 (by decide) (fun c_25 => ?_) (fun c_25 => ?_)
          · refine lv_aload_n hx hb dX1_cycleOf_30 rfl (lv_at hl 0 rfl) ?_
            refine m_g2 hC hK hP dX1_cycleOf_31 ?_
            refine lv_iload_n hx hb dX1_cycleOf_34 rfl (lv_at hl 2 rfl) ?_
            refine m_ld2 hx hb hK hP (by omega) dX1_cycleOf_35 ?_
            refine tI ((pe (anc par (k + 1 + 1) v))) (by rw [anc_s ht]) ?_
            refine lv_istore_n (lv' := [(2, .int (pe (anc par (k + 1 + 1) v))), (0, .ref (b 0)), (1, .int (nI (v))), (3, .int (nI (k + 1)))]) hx hb dX1_cycleOf_36 rfl hl (by decide) rfl (fun ls hl => ?_)
            refine lv_iinc (v := (nI ((k + 1) + 1))) (lv' := [(3, .int (nI ((k + 1) + 1))), (2, .int (pe (anc par (k + 1 + 1) v))), (0, .ref (b 0)), (1, .int (nI (v)))]) hx hb dX1_cycleOf_37 hl (k := 3) rfl (nI_inc _) (by decide) rfl (fun ls hl => ?_)
            refine lv_goto (tgt := 9) hx hb dX1_cycleOf_40 (by decide) ?_
            exact ih_9 (k + 1) (by omega) (lt_s hno (by rw [ht]; simp [c_25])) (by omega) ls (lv_sub hl [2, 3, 1, 0] rfl)
          · refine lv_iload_n hx hb dX1_cycleOf_28 rfl (lv_at hl 3 rfl) ?_
            exact hret _ _ _ dX1_cycleOf_29 (by rw [cycF, fst_some (k := k) (by omega) (by rw [ht, c_25]; simp) hno]; rfl)
  exact loop_9 (n - 0 + 1) 0 (Nat.zero_le _) (lt_0) (Nat.lt_succ_self _) ls (lv_sub hl [2, 3, 1, 0] rfl)
set_option maxRecDepth 100000 in
set_option maxHeartbeats 4000000 in
theorem cM_cycleLength {l : Launch} {E : EE} {b : Nat → Nat} {n : Nat} {ids : Nat → Int32} {par : Nat → Option Nat} {cols : Nat → Int32} {rd : Nat} {nx : Nat → Int32} {isin : Nat → Bool} {wi wo : Nat → Nat} {wf : Nat → Option Nat} (x : Int32) (hn : n ≤ 24)(hp : PW n par) : RO l E (MP E b n ids par cols rd nx isin wi wo wf) yX1_cycleLength cX1_cycleLength 2 (some .int) 2 43 [.ref (b 0), .int (x)] (oN (vN n x) (fun v => pe (cycF par n v))) := by
  refine RO.mk (C := RX1) rfl rfl (by decide) rfl (Nat.le_of_ble_eq_true rfl) ?_
  intro p e s m args below meth c H Q hC hK hP hret ls hl
  obtain ⟨hx, hb, hml, hown, hts⟩ := id hC
  have hl : lv_has ls 2 [(0, .ref (b 0)), (1, .int (x))] := hl
  refine lv_aload_n hx hb dX1_cycleLength_0 rfl (lv_at hl 0 rfl) ?_
  refine lv_iload_n hx hb dX1_cycleLength_1 rfl (lv_at hl 1 rfl) ?_
  refine roV (As := [.int (x)]) hC kX1_58 (cM_isNode ((x)) hn) hK hP (m_rec hK hP) rfl rfl hl ⟨Nat.le_of_ble_eq_true rfl, Nat.le_of_ble_eq_true rfl⟩ (Nat.le_of_ble_eq_true rfl) dX1_cycleLength_2 ⟨Nat.le_of_ble_eq_true rfl, Nat.le_of_ble_eq_true rfl⟩ ?_
  refine bv_eq (tgt := 16) hx hb dX1_cycleLength_5 (by decide) (fun c_5 => ?_) (fun c_5 => ?_)
  · refine lv_iconst (v := (-1)) hx hb dX1_cycleLength_16 (by decide) ?_
    exact hret _ _ _ dX1_cycleLength_17 ((oN_out c_5 _).symm)
  · obtain ⟨v, hv, rfl⟩ := vN_t hn c_5
    refine lv_aload_n hx hb dX1_cycleLength_8 rfl (lv_at hl 0 rfl) ?_
    refine lv_iload_n hx hb dX1_cycleLength_9 rfl (lv_at hl 1 rfl) ?_
    refine roV (As := [.int (nI (v))]) hC kX1_73 (cM_cycleOf v hn hp (by omega)) hK hP (m_rec hK hP) rfl rfl hl ⟨Nat.le_of_ble_eq_true rfl, Nat.le_of_ble_eq_true rfl⟩ (Nat.le_of_ble_eq_true rfl) dX1_cycleLength_10 ⟨Nat.le_of_ble_eq_true rfl, Nat.le_of_ble_eq_true rfl⟩ ?_
    refine lv_goto (tgt := 17) hx hb dX1_cycleLength_13 (by decide) ?_
    exact hret _ _ _ dX1_cycleLength_17 (by rw [oN_in hn hv])
set_option maxRecDepth 100000 in
set_option maxHeartbeats 4000000 in
theorem cM_colour {l : Launch} {E : EE} {b : Nat → Nat} {n : Nat} {ids : Nat → Int32} {par : Nat → Option Nat} {cols : Nat → Int32} {rd : Nat} {nx : Nat → Int32} {isin : Nat → Bool} {wi wo : Nat → Nat} {wf : Nat → Option Nat} (x : Int32) (hn : n ≤ 24)(hrd : rd < 100000) : RO l E (MP E b n ids par cols rd nx isin wi wo wf) yX1_colour cX1_colour 2 (some .int) 2 43 [.ref (b 0), .int (x)] (oN (vN n x) (fun v => mcol cols rd v)) := by
  refine RO.mk (C := RX1) rfl rfl (by decide) rfl (Nat.le_of_ble_eq_true rfl) ?_
  intro p e s m args below meth c H Q hC hK hP hret ls hl
  obtain ⟨hx, hb, hml, hown, hts⟩ := id hC
  have hl : lv_has ls 2 [(0, .ref (b 0)), (1, .int (x))] := hl
  refine lv_aload_n hx hb dX1_colour_0 rfl (lv_at hl 0 rfl) ?_
  refine lv_iload_n hx hb dX1_colour_1 rfl (lv_at hl 1 rfl) ?_
  refine roV (As := [.int (x)]) hC kX1_58 (cM_isNode ((x)) hn) hK hP (m_rec hK hP) rfl rfl hl ⟨Nat.le_of_ble_eq_true rfl, Nat.le_of_ble_eq_true rfl⟩ (Nat.le_of_ble_eq_true rfl) dX1_colour_2 ⟨Nat.le_of_ble_eq_true rfl, Nat.le_of_ble_eq_true rfl⟩ ?_
  refine bv_eq (tgt := 16) hx hb dX1_colour_5 (by decide) (fun c_5 => ?_) (fun c_5 => ?_)
  · refine lv_iconst (v := (-1)) hx hb dX1_colour_16 (by decide) ?_
    exact hret _ _ _ dX1_colour_17 ((oN_out c_5 _).symm)
  · obtain ⟨v, hv, rfl⟩ := vN_t hn c_5
    refine lv_aload_n hx hb dX1_colour_8 rfl (lv_at hl 0 rfl) ?_
    refine lv_iload_n hx hb dX1_colour_9 rfl (lv_at hl 1 rfl) ?_
    refine roV (As := [.int (nI (v))]) hC kX1_46 (cM_col v (by omega) (by omega)) hK hP (m_rec hK hP) rfl rfl hl ⟨Nat.le_of_ble_eq_true rfl, Nat.le_of_ble_eq_true rfl⟩ (Nat.le_of_ble_eq_true rfl) dX1_colour_10 ⟨Nat.le_of_ble_eq_true rfl, Nat.le_of_ble_eq_true rfl⟩ ?_
    refine lv_goto (tgt := 17) hx hb dX1_colour_13 (by decide) ?_
    exact hret _ _ _ dX1_colour_17 (by rw [oN_in hn hv])
end
section
-- STEPS ALONG PARENTS THAT STOP AT A ROOT; CYCLES
def stp (par : Nat → Option Nat) (v : Nat) : Nat := (par v).getD v
def itS (par : Nat → Option Nat) : Nat → Nat → Nat
  | 0, v => v
  | k + 1, v => stp par (itS par k v)
theorem stp_some {par : Nat → Option Nat} {v u : Nat} (h : par v = some u) : stp par v = u := by unfold stp; rw [h]; rfl
theorem stp_none {par : Nat → Option Nat} {v : Nat} (h : par v = none) : stp par v = v := by unfold stp; rw [h]; rfl
theorem stp_lt {n : Nat} {par : Nat → Option Nat} (hp : PW n par) {v : Nat} (hv : v < n) : stp par v < n := by
  cases h : par v with
  | none => rw [stp_none h]; exact hv
  | some u => rw [stp_some h]; exact hp.lt hv h
theorem itS_lt {n : Nat} {par : Nat → Option Nat} (hp : PW n par) {v : Nat} (hv : v < n) : ∀ k, itS par k v < n
  | 0 => hv
  | k + 1 => stp_lt hp (itS_lt hp hv k)
theorem itS_add (par : Nat → Option Nat) (v j : Nat) : ∀ i, itS par (j + i) v = itS par i (itS par j v)
  | 0 => rfl
  | i + 1 => by rw [← Nat.add_assoc, itS, itS_add par v j i, itS]
theorem itS_root {par : Nat → Option Nat} {v k t : Nat} (h : itS par k v = t) (hr : par t = none) : ∀ i, itS par (k + i) v = t
  | 0 => h
  | i + 1 => by rw [← Nat.add_assoc, itS, itS_root h hr i, stp_none hr]
theorem anc_itS {par : Nat → Option Nat} {v : Nat} : ∀ {k t : Nat}, anc par k v = some t → itS par k v = t
  | 0, t, h => by cases h; rfl
  | k + 1, t, h => by
    cases e : anc par k v with
    | none => rw [anc, e] at h; cases h
    | some z =>
      rw [anc_s e] at h
      rw [itS, anc_itS e, stp_some h]
/-- not at a root after k steps: none of the steps was one from a root -/
theorem itS_nonroot {par : Nat → Option Nat} {v : Nat} : ∀ {k : Nat}, par (itS par k v) ≠ none → ∀ i, i ≤ k → par (itS par i v) ≠ none := by
  intro k hk i hi hr
  have := itS_root (k := i) rfl hr (k - i)
  rw [show i + (k - i) = k by omega] at this
  rw [this] at hk
  exact hk hr
theorem anc_of {par : Nat → Option Nat} {t : Nat} (h : ∀ i, par (itS par i t) ≠ none) : ∀ i, anc par i t = some (itS par i t)
  | 0 => rfl
  | i + 1 => by
    rw [anc_s (anc_of h i), itS]
    obtain ⟨u, hu⟩ := ex_some (h i)
    rw [hu, stp_some hu]
/-- behind n steps one is at a root or on a cycle -/
theorem on_cycle {n : Nat} {par : Nat → Option Nat} (hp : PW n par) {v : Nat} (hv : v < n) (hr : par (itS par n v) ≠ none) : ∃ c, 1 ≤ c ∧ c ≤ n ∧ itS par c (itS par n v) = itS par n v := by
  obtain ⟨i, j, hij, hj, e⟩ := fb_twice (m := n) (n := n + 1) (f := fun k => itS par k v) (fun i _ => itS_lt hp hv i) (by omega)
  refine ⟨j - i, by omega, by omega, ?_⟩
  have e' : itS par i v = itS par j v := e
  have h1 : itS par n v = itS par (n - j) (itS par j v) := by rw [← itS_add]; congr 1; omega
  have h2 : itS par (j - i) (itS par i v) = itS par i v := by rw [← itS_add, show i + (j - i) = j by omega]; exact e'.symm
  rw [h1, ← e', ← itS_add, Nat.add_comm, itS_add, h2]
theorem cycle_nonroot {par : Nat → Option Nat} {t c : Nat} (hc : 1 ≤ c) (h : itS par c t = t) (hr : par t ≠ none) : ∀ i, par (itS par i t) ≠ none := by
  have hm : ∀ q, itS par (c * q) t = t := by
    intro q
    induction q with
    | zero => rfl
    | succ q ih => rw [Nat.mul_succ, itS_add, ih, h]
  intro i
  have h1 := itS_nonroot (par := par) (v := t) (k := c * i) (by rw [hm i]; exact hr) i (by
    rcases Nat.eq_zero_or_pos i with h0 | h0
    · subst h0; simp
    · have := Nat.mul_le_mul_right i hc; omega)
  exact h1
theorem cyc_spec {n : Nat} {par : Nat → Option Nat} (hp : PW n par) {v : Nat} (hv : v < n) (hr : par (itS par n v) ≠ none) : ∃ c, cycF par n (itS par n v) = some c ∧ 1 ≤ c ∧ c ≤ n ∧ itS par c (itS par n v) = itS par n v ∧ (∀ i, 1 ≤ i → i < c → itS par i (itS par n v) ≠ itS par n v) ∧ ∀ i, par (itS par i (itS par n v)) = some (itS par (i + 1) (itS par n v)) := by
  obtain ⟨c0, h1, h2, h3⟩ := on_cycle hp hv hr
  generalize itS par n v = t at *
  have hnr := cycle_nonroot h1 h3 hr
  have hst : ∀ i, par (itS par i t) = some (itS par (i + 1) t) := fun i => by
    obtain ⟨u, hu⟩ := ex_some (hnr i)
    rw [hu, itS, stp_some hu]
  have ha := anc_of hnr
  rcases fst_spec (p := fun k => anc par (k + 1) t == some t) (n := n) with ⟨-, hno⟩ | ⟨k, hk, hkn, hkt, hno⟩
  · have := hno (c0 - 1) (by omega)
    rw [show c0 - 1 + 1 = c0 by omega, ha c0, h3] at this
    simp at this
  · refine ⟨k + 1, by rw [cycF, hk]; rfl, by omega, by omega, ?_, fun i hi1 hi2 => ?_, hst⟩
    · rw [ha (k + 1)] at hkt
      simpa using hkt
    · have := hno (i - 1) (by omega)
      rw [show i - 1 + 1 = i by omega, ha i] at this
      simpa using this
def mnF (par : Nat → Option Nat) (t : Nat) : Nat → Nat
  | 0 => t
  | i + 1 => if itS par (i + 1) t < mnF par t i then itS par (i + 1) t else mnF par t i
theorem mnF_le (par : Nat → Option Nat) (t : Nat) : ∀ i, mnF par t i ≤ t
  | 0 => Nat.le_refl _
  | i + 1 => by
    have := mnF_le par t i
    rw [mnF]; split <;> omega
/-- where a node's steps end -/
def hdF (par : Nat → Option Nat) (n v : Nat) : Nat := if par (itS par n v) = none then itS par n v else mnF par (itS par n v) ((cycF par n (itS par n v)).getD 1 - 1)
theorem hdF_lt {n : Nat} {par : Nat → Option Nat} (hp : PW n par) {v : Nat} (hv : v < n) : hdF par n v < n := by
  unfold hdF
  have := itS_lt hp hv n
  split
  · exact this
  · have := mnF_le par (itS par n v) ((cycF par n (itS par n v)).getD 1 - 1); omega
theorem nI_le0 {c : Nat} (h : c < 2 ^ 31) : nI c ≤ 0 ↔ c = 0 := by
  rw [← nI_0, nI_leI h (by decide)]; omega
theorem wi_el (y : Int32) : wiB y 3 65535 = (!decide (y < 3) && vV y) := by
  unfold wiB vV
  by_cases h : y < 3
  · simp [h]
  · have : ¬ y < 0 := fun q => h (Int32.lt_iff_toInt_lt.mpr (by have := Int32.lt_iff_toInt_lt.mp q; have e0 : (0 : Int32).toInt = 0 := rfl; have e3 : (3 : Int32).toInt = 3 := rfl; omega))
    simp [h, this]
theorem prop_0 {n : Nat} (hn : n ≤ 24) {par : Nat → Option Nat} {col : Nat → Int32} : nI (fb_ct (conf par col) n) ≤ 0 ↔ propB n par col = true := by
  rw [nI_le0 (by have := fb_ct_le (conf par col) n; omega)]
  unfold propB
  rw [decide_eq_true_iff]
end
section
-- the reference: colours and rounds (laid by wip/whole/gen/spec_m2.py)
def mpast (cols : Nat → Int32) (rd : Nat) (r : Int32) (v : Nat) : Int32 := if wiB r 0 16 = false then -2 else if nI rd < r then -7 else mcol cols (rd - r.toNatClampNeg) v
theorem wi_16 {r : Int32} (h : wiB r 0 16 = true) : ∃ q, q ≤ 16 ∧ r = nI q := by
  simp only [wiB, Bool.and_eq_true, Bool.not_eq_true', decide_eq_false_iff_not] at h
  exact nI_of2 (n := 16) (by decide) h.1 (Int32.not_lt.mp h.2)
theorem fre_step {par : Nat → Option Nat} {col : Nat → Int32} {n v q k : Nat} (hq : freF par col n v n = some q) (hk : k ≤ q) (hb : bes par col n v (nI k) = true) : k < q := by
  rcases Nat.lt_or_eq_of_le hk with h | h
  · exact h
  · subst h
    rcases fst_spec (p := fun c => !bes par col n v (nI c)) (n := n) with ⟨h1, -⟩ | ⟨j, h1, -, h3, -⟩
    · rw [freF, h1] at hq; cases hq
    · rw [freF, h1] at hq; cases hq
      rw [hb] at h3; cases h3
theorem cc_t {p : Nat → Bool} {j : Nat} (h : (!anyB p j) = true) (h2 : p j = false) : b2i true = b2i (!anyB p (j + 1)) := by
  have h : anyB p j = false := by simpa using h
  rw [anyB, h, h2]; rfl
theorem cc_f1 {p : Nat → Bool} {j : Nat} (h : (!anyB p j) = false) : b2i false = b2i (!anyB p (j + 1)) := by
  have h : anyB p j = true := by simpa using h
  rw [anyB, h]; rfl
theorem cc_f2 {p : Nat → Bool} {j : Nat} (h : p j = true) : b2i false = b2i (!anyB p (j + 1)) := by
  rw [anyB, h, Bool.or_true]; rfl
theorem cf_n {par : Nat → Option Nat} {col : Nat → Int32} {v u : Nat} (hu : par v = some u) (h : ¬ col v = col u) : conf par col v = false := by simp [conf, hu, h]
theorem cf_y {par : Nat → Option Nat} {col : Nat → Int32} {v u : Nat} (hu : par v = some u) (h : col v = col u) : conf par col v = true := by simp [conf, hu, h]
theorem bit_done {x z : Int32} {k : Nat} (h : z = nI (lowb x)) (hk : k ≤ lowb x) (h4 : ∀ j, j < lowb x → bt x j = false) (hb : bt x k = true) : nI k = z := by
  rcases Nat.lt_or_eq_of_le hk with h1 | h1
  · rw [h4 k h1] at hb; cases hb
  · rw [h, h1]
theorem el_or {y : Int32} (h : (!decide (y < 3) && vV y) = false) : y < 3 ∨ vV y = false := by
  by_cases h1 : y < 3
  · exact Or.inl h1
  · simp [h1] at h; exact Or.inr h
theorem el_nor {y : Int32} (h : (!decide (y < 3) && vV y) = true) : ¬ (y < 3 ∨ vV y = false) := by
  rintro (h1 | h1)
  · simp [h1] at h
  · simp [h1] at h
theorem el_no {n : Nat} {par : Nat → Option Nat} {col : Nat → Int32} {y : Int32} (h : (!decide (y < 3) && vV y) = false) : okEL n par col y = false := by rw [okEL, h]; rfl
theorem el_yes {n : Nat} {par : Nat → Option Nat} {col : Nat → Int32} {y : Int32} (h : (!decide (y < 3) && vV y) = true) (h2 : propB n par col = true) : okEL n par col y = true := by rw [okEL, h, h2]; rfl
theorem el_np {n : Nat} {par : Nat → Option Nat} {col : Nat → Int32} {y : Int32} (h2 : ¬ propB n par col = true) : ¬ okEL n par col y = true := by
  intro h
  rw [okEL, Bool.and_eq_true] at h
  exact h2 h.2
set_option maxRecDepth 100000 in
set_option maxHeartbeats 4000000 in
theorem cM_head {l : Launch} {E : EE} {b : Nat → Nat} {n : Nat} {ids : Nat → Int32} {par : Nat → Option Nat} {cols : Nat → Int32} {rd : Nat} {nx : Nat → Int32} {isin : Nat → Bool} {wi wo : Nat → Nat} {wf : Nat → Option Nat} (v : Nat) (hn : n ≤ 24)(hp : PW n par)(hv : v < n) : RO l E (MP E b n ids par cols rd nx isin wi wo wf) yX1_headOf cX1_headOf 5 (some .int) 0 0 [.ref (b 0), .int (nI (v))] (nI (hdF par n v)) := by
  refine RO.mk (C := RX1) rfl rfl (by decide) rfl (Nat.le_of_ble_eq_true rfl) ?_
  intro p e s m args below meth c H Q hC hK hP hret ls hl
  obtain ⟨hx, hb, hml, hown, hts⟩ := id hC
  have hl : lv_has ls 5 [(0, .ref (b 0)), (1, .int (nI (v)))] := hl
  refine lv_iload_n hx hb dX1_headOf_0 rfl (lv_at hl 1 rfl) ?_
  refine lv_istore_n (lv' := [(2, .int (nI (v))), (0, .ref (b 0)), (1, .int (nI (v)))]) hx hb dX1_headOf_1 rfl hl (by decide) rfl (fun ls hl => ?_)
  have join_36 : ∀ (t : Nat), (t < n) → (itS par n v = t) → ∀ (ls : Array Slot), lv_has ls 5 [(0, .ref (b 0)), (1, .int (nI (v))), (2, .int (nI (t)))] → W p l e (k2_rm 0 0) s m args below meth c H [] 0 0 Q (F0 m 36 ls []) := by
    intro t htn ht ls hl
    refine lv_aload_n hx hb dX1_headOf_36 rfl (lv_at hl 0 rfl) ?_
    refine m_g2 hC hK hP dX1_headOf_37 ?_
    refine lv_iload_n hx hb dX1_headOf_40 rfl (lv_at hl 2 rfl) ?_
    refine m_ld2 hx hb hK hP (by omega) dX1_headOf_41 ?_
    refine lv_bipush (v := (-7)) hx hb dX1_headOf_42 (by decide) ?_
    refine pv_ne7 (tgt := 49) hx hb (hp.big hn (by omega)) dX1_headOf_44 (by decide) (fun c_44 => ?_) (fun c_44 => ?_)
    · obtain ⟨cc, hc1, hc2, hc3, hc4, hc5, hc6⟩ := cyc_spec hp hv (by rw [ht]; exact c_44)
      rw [ht] at hc1 hc4 hc5 hc6
      have hil := itS_lt hp htn
      refine lv_iload_n hx hb dX1_headOf_49 rfl (lv_at hl 2 rfl) ?_
      refine lv_istore_n (lv' := [(3, .int (nI (t))), (0, .ref (b 0)), (1, .int (nI (v))), (2, .int (nI (t)))]) hx hb dX1_headOf_50 rfl hl (by decide) rfl (fun ls hl => ?_)
      refine lv_aload_n hx hb dX1_headOf_51 rfl (lv_at hl 1 rfl) ?_
      refine m_g2 hC hK hP dX1_headOf_52 ?_
      refine lv_iload_n hx hb dX1_headOf_55 rfl (lv_at hl 3 rfl) ?_
      refine m_ld2 hx hb hK hP (by omega) dX1_headOf_56 ?_
      refine tI ((nI (itS par 1 t))) (by rw [show par t = some (itS par 1 t) from hc6 0]; rfl) ?_
      refine lv_istore (lv' := [(4, .int (nI (itS par 1 t))), (3, .int (nI (t))), (0, .ref (b 0)), (1, .int (nI (v))), (2, .int (nI (t)))]) hx hb dX1_headOf_57 hl (by decide) rfl (fun ls hl => ?_)
      have loop_59 : ∀ (fuel : Nat) (i : Nat), (i + 1 ≤ cc) → cc - i < fuel → ∀ (ls : Array Slot), lv_has ls 5 [(0, .ref (b 0)), (1, .int (nI (v))), (2, .int (nI (t))), (3, .int (nI (mnF par t i))), (4, .int (nI (itS par (i + 1) t)))] → W p l e (k2_rm 0 0) s m args below meth c H [] 0 0 Q (F0 m 59 ls []) := by
        intro fuel
        induction fuel with
        | zero => intro i hi hm; exact absurd hm (Nat.not_lt_zero _)
        | succ fuel ih_59 =>
          intro i hi hm ls hl
          have hb1 := mnF_le par t i
          have hb2 := hil (i + 1)
          refine lv_iload hx hb dX1_headOf_59 (lv_at hl 4 rfl) ?_
          refine lv_iload_n hx hb dX1_headOf_61 rfl (lv_at hl 2 rfl) ?_
          refine nv_eq (tgt := 90) hx hb (by omega) (by omega) dX1_headOf_62 (by decide) (fun c_62 => ?_) (fun c_62 => ?_)
          · refine lv_iload_n hx hb dX1_headOf_90 rfl (lv_at hl 3 rfl) ?_
            exact hret _ _ _ dX1_headOf_91 (by rw [hdF, ht, if_neg c_44, hc1]; have he : i + 1 = cc := (Nat.lt_or_eq_of_le hi).elim (fun h => absurd c_62 (hc5 (i + 1) (by omega) h)) id; rw [Option.getD_some, ← he]; rfl)
          · refine lv_iload hx hb dX1_headOf_65 (lv_at hl 4 rfl) ?_
            refine lv_iload_n hx hb dX1_headOf_67 rfl (lv_at hl 3 rfl) ?_
            refine nv_ge (tgt := 76) hx hb (by omega) (by omega) dX1_headOf_68 (by decide) (fun c_68 => ?_) (fun c_68 => ?_)
            · refine lv_iload_n hx hb dX1_headOf_76 rfl (lv_at hl 3 rfl) ?_
              refine tI ((nI (mnF par t (i + 1)))) (by rw [mnF, if_neg (by omega)]) ?_
              refine lv_istore_n (lv' := [(3, .int (nI (mnF par t (i + 1)))), (0, .ref (b 0)), (1, .int (nI (v))), (2, .int (nI (t))), (4, .int (nI (itS par (i + 1) t)))]) hx hb dX1_headOf_77 rfl hl (by decide) rfl (fun ls hl => ?_)
              refine lv_aload_n hx hb dX1_headOf_78 rfl (lv_at hl 1 rfl) ?_
              refine m_g2 hC hK hP dX1_headOf_79 ?_
              refine lv_iload hx hb dX1_headOf_82 (lv_at hl 4 rfl) ?_
              refine m_ld2 hx hb hK hP (by omega) dX1_headOf_84 ?_
              refine tI ((nI (itS par (i + 1 + 1) t))) (by rw [hc6 (i + 1)]; rfl) ?_
              refine lv_istore (lv' := [(4, .int (nI (itS par (i + 1 + 1) t))), (3, .int (nI (mnF par t (i + 1)))), (0, .ref (b 0)), (1, .int (nI (v))), (2, .int (nI (t)))]) hx hb dX1_headOf_85 hl (by decide) rfl (fun ls hl => ?_)
              refine lv_goto (tgt := 59) hx hb dX1_headOf_87 (by decide) ?_
              exact ih_59 (i + 1) (Nat.lt_of_le_of_ne hi (fun e => c_62 (by rw [e]; exact hc4))) (by omega) ls (lv_sub hl [2, 3, 4, 1, 0] rfl)
            · refine lv_iload hx hb dX1_headOf_71 (lv_at hl 4 rfl) ?_
              refine tI ((nI (mnF par t (i + 1)))) (by rw [mnF, if_pos c_68]) ?_
              refine lv_goto (tgt := 77) hx hb dX1_headOf_73 (by decide) ?_
              refine lv_istore_n (lv' := [(3, .int (nI (mnF par t (i + 1)))), (0, .ref (b 0)), (1, .int (nI (v))), (2, .int (nI (t))), (4, .int (nI (itS par (i + 1) t)))]) hx hb dX1_headOf_77 rfl hl (by decide) rfl (fun ls hl => ?_)
              refine lv_aload_n hx hb dX1_headOf_78 rfl (lv_at hl 1 rfl) ?_
              refine m_g2 hC hK hP dX1_headOf_79 ?_
              refine lv_iload hx hb dX1_headOf_82 (lv_at hl 4 rfl) ?_
              refine m_ld2 hx hb hK hP (by omega) dX1_headOf_84 ?_
              refine tI ((nI (itS par (i + 1 + 1) t))) (by rw [hc6 (i + 1)]; rfl) ?_
              refine lv_istore (lv' := [(4, .int (nI (itS par (i + 1 + 1) t))), (3, .int (nI (mnF par t (i + 1)))), (0, .ref (b 0)), (1, .int (nI (v))), (2, .int (nI (t)))]) hx hb dX1_headOf_85 hl (by decide) rfl (fun ls hl => ?_)
              refine lv_goto (tgt := 59) hx hb dX1_headOf_87 (by decide) ?_
              exact ih_59 (i + 1) (Nat.lt_of_le_of_ne hi (fun e => c_62 (by rw [e]; exact hc4))) (by omega) ls (lv_sub hl [2, 3, 4, 1, 0] rfl)
      exact loop_59 (cc - 0 + 1) 0 (hc2) (Nat.lt_succ_self _) ls (lv_sub hl [2, 3, 4, 1, 0] rfl)
    · refine lv_iload_n hx hb dX1_headOf_47 rfl (lv_at hl 2 rfl) ?_
      exact hret _ _ _ dX1_headOf_48 (by rw [hdF, ht, if_pos c_44])
  refine lv_iconst (v := (nI (0))) hx hb dX1_headOf_2 (by decide) ?_
  refine lv_istore_n (lv' := [(3, .int (nI (0))), (2, .int (nI (v))), (0, .ref (b 0)), (1, .int (nI (v)))]) hx hb dX1_headOf_3 rfl hl (by decide) rfl (fun ls hl => ?_)
  have loop_4 : ∀ (fuel : Nat) (k : Nat) (t : Nat), (k ≤ n) → (t < n) → (itS par k v = t) → n - k < fuel → ∀ (ls : Array Slot), lv_has ls 5 [(0, .ref (b 0)), (1, .int (nI (v))), (2, .int (nI (t))), (3, .int (nI (k)))] → W p l e (k2_rm 0 0) s m args below meth c H [] 0 0 Q (F0 m 4 ls []) := by
    intro fuel
    induction fuel with
    | zero => intro k t hk htn ht hm; exact absurd hm (Nat.not_lt_zero _)
    | succ fuel ih_4 =>
      intro k t hk htn ht hm ls hl
      refine lv_iload_n hx hb dX1_headOf_4 rfl (lv_at hl 3 rfl) ?_
      refine lv_aload_n hx hb dX1_headOf_5 rfl (lv_at hl 0 rfl) ?_
      refine m_g0 hC hK hP dX1_headOf_6 ?_
      refine nv_ge (tgt := 36) hx hb (by omega) (by omega) dX1_headOf_9 (by decide) (fun c_9 => ?_) (fun c_9 => ?_)
      · exact join_36 t (htn) (by rw [← ht, show k = n by omega]) ls (lv_sub hl [0, 1, 2] rfl)
      · refine lv_aload_n hx hb dX1_headOf_12 rfl (lv_at hl 0 rfl) ?_
        refine m_g2 hC hK hP dX1_headOf_13 ?_
        refine lv_iload_n hx hb dX1_headOf_16 rfl (lv_at hl 2 rfl) ?_
        refine m_ld2 hx hb hK hP (by omega) dX1_headOf_17 ?_
        refine lv_bipush (v := (-7)) hx hb dX1_headOf_18 (by decide) ?_
        refine pv_eq7 (tgt := 36) hx hb (hp.big hn (by omega)) dX1_headOf_20 (by decide) (fun c_20 => ?_) (fun c_20 => ?_)
        · exact join_36 t (htn) (by have h := itS_root ht c_20 (n - k); rw [show k + (n - k) = n by omega] at h; exact h) ls (lv_sub hl [0, 1, 2] rfl)
        · obtain ⟨u, hu⟩ := ex_some c_20
          refine lv_aload_n hx hb dX1_headOf_23 rfl (lv_at hl 0 rfl) ?_
          refine m_g2 hC hK hP dX1_headOf_24 ?_
          refine lv_iload_n hx hb dX1_headOf_27 rfl (lv_at hl 2 rfl) ?_
          refine m_ld2 hx hb hK hP (by omega) dX1_headOf_28 ?_
          refine tI ((nI (u))) (by rw [hu]; rfl) ?_
          refine lv_istore_n (lv' := [(2, .int (nI (u))), (0, .ref (b 0)), (1, .int (nI (v))), (3, .int (nI (k)))]) hx hb dX1_headOf_29 rfl hl (by decide) rfl (fun ls hl => ?_)
          refine lv_iinc (v := (nI (k + 1))) (lv' := [(3, .int (nI (k + 1))), (2, .int (nI (u))), (0, .ref (b 0)), (1, .int (nI (v)))]) hx hb dX1_headOf_30 hl (k := 3) rfl (nI_inc _) (by decide) rfl (fun ls hl => ?_)
          refine lv_goto (tgt := 4) hx hb dX1_headOf_33 (by decide) ?_
          exact ih_4 (k + 1) u (by omega) (hp.lt htn hu) (by rw [itS, ht, stp_some hu]) (by omega) ls (lv_sub hl [2, 3, 1, 0] rfl)
  exact loop_4 (n - 0 + 1) 0 v (Nat.zero_le _) (hv) (rfl) (Nat.lt_succ_self _) ls (lv_sub hl [2, 3, 1, 0] rfl)
set_option maxRecDepth 100000 in
set_option maxHeartbeats 4000000 in
theorem cM_partCount {l : Launch} {E : EE} {b : Nat → Nat} {n : Nat} {ids : Nat → Int32} {par : Nat → Option Nat} {cols : Nat → Int32} {rd : Nat} {nx : Nat → Int32} {isin : Nat → Bool} {wi wo : Nat → Nat} {wf : Nat → Option Nat}  (hn : n ≤ 24)(hp : PW n par) : RO l E (MP E b n ids par cols rd nx isin wi wo wf) yX1_partCount cX1_partCount 3 (some .int) 1 24 [.ref (b 0)] (nI (fb_ct (fun j => decide (hdF par n j = j)) n)) := by
  refine RO.mk (C := RX1) rfl rfl (by decide) rfl (Nat.le_of_ble_eq_true rfl) ?_
  intro p e s m args below meth c H Q hC hK hP hret ls hl
  obtain ⟨hx, hb, hml, hown, hts⟩ := id hC
  have hl : lv_has ls 3 [(0, .ref (b 0))] := hl
  refine lv_iconst (v := (nI (0))) hx hb dX1_partCount_0 (by decide) ?_
  refine lv_istore_n (lv' := [(1, .int (nI (0))), (0, .ref (b 0))]) hx hb dX1_partCount_1 rfl hl (by decide) rfl (fun ls hl => ?_)
  refine lv_iconst (v := (nI (0))) hx hb dX1_partCount_2 (by decide) ?_
  refine lv_istore_n (lv' := [(2, .int (nI (0))), (1, .int (nI (0))), (0, .ref (b 0))]) hx hb dX1_partCount_3 rfl hl (by decide) rfl (fun ls hl => ?_)
  have loop_4 : ∀ (fuel : Nat) (k : Nat), (k ≤ n) → n - k < fuel → ∀ (ls : Array Slot), lv_has ls 3 [(0, .ref (b 0)), (1, .int (nI (fb_ct (fun j => decide (hdF par n j = j)) k))), (2, .int (nI (k)))] → W p l e (k2_rm 1 24) s m args below meth c H [] 0 0 Q (F0 m 4 ls []) := by
    intro fuel
    induction fuel with
    | zero => intro k hk hm; exact absurd hm (Nat.not_lt_zero _)
    | succ fuel ih_4 =>
      intro k hk hm ls hl
      refine lv_iload_n hx hb dX1_partCount_4 rfl (lv_at hl 2 rfl) ?_
      refine lv_aload_n hx hb dX1_partCount_5 rfl (lv_at hl 0 rfl) ?_
      refine m_g0 hC hK hP dX1_partCount_6 ?_
      refine nv_ge (tgt := 35) hx hb (by omega) (by omega) dX1_partCount_9 (by decide) (fun c_9 => ?_) (fun c_9 => ?_)
      · refine lv_iload_n hx hb dX1_partCount_35 rfl (lv_at hl 1 rfl) ?_
        exact hret _ _ _ dX1_partCount_36 (by rw [show k = n by omega])
      · refine lv_iload_n hx hb dX1_partCount_12 rfl (lv_at hl 1 rfl) ?_
        refine lv_aload_n hx hb dX1_partCount_13 rfl (lv_at hl 0 rfl) ?_
        refine lv_iload_n hx hb dX1_partCount_14 rfl (lv_at hl 2 rfl) ?_
        refine roV (As := [.int (nI (k))]) hC kX1_76 (cM_head k hn hp (by omega)) hK hP (m_rec hK hP) rfl rfl hl ⟨Nat.le_of_ble_eq_true rfl, Nat.le_of_ble_eq_true rfl⟩ (Nat.le_of_ble_eq_true rfl) dX1_partCount_15 ⟨Nat.le_of_ble_eq_true rfl, Nat.le_of_ble_eq_true rfl⟩ ?_
        refine lv_iload_n hx hb dX1_partCount_18 rfl (lv_at hl 2 rfl) ?_
        refine nv_ne (tgt := 26) hx hb (by have := hdF_lt hp (v := k) (by omega); omega) (by omega) dX1_partCount_19 (by decide) (fun c_19 => ?_) (fun c_19 => ?_)
        · refine lv_iconst (v := (nI (0))) hx hb dX1_partCount_26 (by decide) ?_
          refine lv_iadd hx hb dX1_partCount_27 ?_
          refine tI (nI ((fb_ct (fun j => decide (hdF par n j = j)) k) + 0)) (nI_add _ _) ?_
          refine tI ((nI (fb_ct (fun j => decide (hdF par n j = j)) (k + 1)))) (by rw [fb_ct_f (by simp [c_19])]; rfl) ?_
          refine lv_istore_n (lv' := [(1, .int (nI (fb_ct (fun j => decide (hdF par n j = j)) (k + 1)))), (0, .ref (b 0)), (2, .int (nI (k)))]) hx hb dX1_partCount_28 rfl hl (by decide) rfl (fun ls hl => ?_)
          refine lv_iinc (v := (nI (k + 1))) (lv' := [(2, .int (nI (k + 1))), (1, .int (nI (fb_ct (fun j => decide (hdF par n j = j)) (k + 1)))), (0, .ref (b 0))]) hx hb dX1_partCount_29 hl (k := 2) rfl (nI_inc _) (by decide) rfl (fun ls hl => ?_)
          refine lv_goto (tgt := 4) hx hb dX1_partCount_32 (by decide) ?_
          exact ih_4 (k + 1) (by omega) (by omega) ls (lv_sub hl [2, 1, 0] rfl)
        · refine lv_iconst (v := (nI (1))) hx hb dX1_partCount_22 (by decide) ?_
          refine lv_goto (tgt := 27) hx hb dX1_partCount_23 (by decide) ?_
          refine lv_iadd hx hb dX1_partCount_27 ?_
          refine tI (nI ((fb_ct (fun j => decide (hdF par n j = j)) k) + 1)) (nI_add _ _) ?_
          refine tI ((nI (fb_ct (fun j => decide (hdF par n j = j)) (k + 1)))) (by rw [fb_ct_t (by simp [c_19])]) ?_
          refine lv_istore_n (lv' := [(1, .int (nI (fb_ct (fun j => decide (hdF par n j = j)) (k + 1)))), (0, .ref (b 0)), (2, .int (nI (k)))]) hx hb dX1_partCount_28 rfl hl (by decide) rfl (fun ls hl => ?_)
          refine lv_iinc (v := (nI (k + 1))) (lv' := [(2, .int (nI (k + 1))), (1, .int (nI (fb_ct (fun j => decide (hdF par n j = j)) (k + 1)))), (0, .ref (b 0))]) hx hb dX1_partCount_29 hl (k := 2) rfl (nI_inc _) (by decide) rfl (fun ls hl => ?_)
          refine lv_goto (tgt := 4) hx hb dX1_partCount_32 (by decide) ?_
          exact ih_4 (k + 1) (by omega) (by omega) ls (lv_sub hl [2, 1, 0] rfl)
  exact loop_4 (n - 0 + 1) 0 (Nat.zero_le _) (Nat.lt_succ_self _) ls (lv_sub hl [2, 1, 0] rfl)
set_option maxRecDepth 100000 in
set_option maxHeartbeats 4000000 in
theorem cM_setColour {l : Launch} {E : EE} {b : Nat → Nat} {n : Nat} {ids : Nat → Int32} {par : Nat → Option Nat} {cols : Nat → Int32} {rd : Nat} {nx : Nat → Int32} {isin : Nat → Bool} {wi wo : Nat → Nat} {wf : Nat → Option Nat} (x y : Int32) (hI : inj 9 b)(hn : n ≤ 24)(hrd : rd < 100000) : WR l E (MP E b n ids par cols rd nx isin wi wo wf) (AM b) yX1_setColour cX1_setColour 4 (some .int) 2 43 [.ref (b 0), .int (x), .int (y)] (some (.int (oN (vN n x) (fun v => if vV y = true then mcol cols rd v else -2)))) (MP E b n ids par (oU (okSC n x y) (fun v => mset (scF cols rd 24) 0 v y) cols) (oU (okSC n x y) (fun _ => 0) rd) nx isin wi wo wf) := by
  refine WR.mkI (C := RX1) rfl rfl (by decide) rfl (Nat.le_of_ble_eq_true rfl) ?_
  intro p e s m args below meth c H0 Q hC hK hP hret ls hl
  obtain ⟨hx, hb, hml, hown, hts⟩ := id hC
  have hl : lv_has ls 4 [(0, .ref (b 0)), (1, .int (x)), (2, .int (y))] := hl
  have hS : va_S (AM b) H0 H0 [] := va_S.rf
  have hP : MP E b n ids par cols rd nx isin wi wo wf H0 := hP
  refine lv_aload_n hx hb dX1_setColour_0 rfl (lv_at hl 0 rfl) ?_
  refine lv_iload_n hx hb dX1_setColour_1 rfl (lv_at hl 1 rfl) ?_
  refine roV (As := [.int (x)]) hC kX1_58 (cM_isNode ((x)) hn) hK hP (m_rec hK hP) rfl rfl hl ⟨Nat.le_of_ble_eq_true rfl, Nat.le_of_ble_eq_true rfl⟩ (Nat.le_of_ble_eq_true rfl) dX1_setColour_2 ⟨Nat.le_of_ble_eq_true rfl, Nat.le_of_ble_eq_true rfl⟩ ?_
  refine bv_ne (tgt := 10) hx hb dX1_setColour_5 (by decide) (fun c_5 => ?_) (fun c_5 => ?_)
  · obtain ⟨v, hv, rfl⟩ := vN_t hn c_5
    refine lv_iload_n hx hb dX1_setColour_10 rfl (lv_at hl 2 rfl) ?_
    refine lv_iconst (v := (0)) hx hb dX1_setColour_11 (by decide) ?_
    refine lv_ldc (v := 65535) hx hb hown (hts _ qX1_50) dX1_setColour_12 ?_
    refine roS (As := [.int (y), .int (0), .int (65535)]) hC kX1_39 (cM_within ((y)) ((0)) ((65535)) ) hK (P := fun _ => True) trivial rfl rfl hl ⟨Nat.le_of_ble_eq_true rfl, Nat.le_of_ble_eq_true rfl⟩ (Nat.le_of_ble_eq_true rfl) dX1_setColour_14 ⟨Nat.le_of_ble_eq_true rfl, Nat.le_of_ble_eq_true rfl⟩ ?_
    refine tI ((b2i (vV y))) (rfl) ?_
    refine bv_ne (tgt := 23) hx hb dX1_setColour_17 (by decide) (fun c_17 => ?_) (fun c_17 => ?_)
    · refine lv_aload_n hx hb dX1_setColour_23 rfl (lv_at hl 0 rfl) ?_
      refine lv_iload_n hx hb dX1_setColour_24 rfl (lv_at hl 1 rfl) ?_
      refine roV (As := [.int (nI (v))]) hC kX1_46 (cM_col v (by omega) (by omega)) hK hP (m_rec hK hP) rfl rfl hl ⟨Nat.le_of_ble_eq_true rfl, Nat.le_of_ble_eq_true rfl⟩ (Nat.le_of_ble_eq_true rfl) dX1_setColour_25 ⟨Nat.le_of_ble_eq_true rfl, Nat.le_of_ble_eq_true rfl⟩ ?_
      refine lv_istore_n (lv' := [(3, .int (mcol cols rd v)), (0, .ref (b 0)), (1, .int (nI (v))), (2, .int (y))]) hx hb dX1_setColour_28 rfl hl (by decide) rfl (fun ls hl => ?_)
      refine lv_aload_n hx hb dX1_setColour_29 rfl (lv_at hl 1 rfl) ?_
      refine wrV (As := []) hC kX1_51 (cM_start  hI hrd) hK hP (m_rec hK hP) hS (fun _ h => h) rfl rfl hl ⟨Nat.le_of_ble_eq_true rfl, Nat.le_of_ble_eq_true rfl⟩ (Nat.le_of_ble_eq_true rfl) dX1_setColour_30 ⟨Nat.le_of_ble_eq_true rfl, Nat.le_of_ble_eq_true rfl⟩ (fun H locs hP hS _ _ => ?_)
      refine lv_aload_n hx hb dX1_setColour_33 rfl (lv_at hl 1 rfl) ?_
      refine lv_iload_n hx hb dX1_setColour_34 rfl (lv_at hl 2 rfl) ?_
      refine lv_iload_n hx hb dX1_setColour_35 rfl (lv_at hl 3 rfl) ?_
      refine wrV (As := [.int (nI (v)), .int (y)]) hC kX1_54 (cM_paints v ((y)) hI (by omega) (by omega)) hK hP (m_rec hK hP) hS (fun _ h => h) rfl rfl hl ⟨Nat.le_of_ble_eq_true rfl, Nat.le_of_ble_eq_true rfl⟩ (Nat.le_of_ble_eq_true rfl) dX1_setColour_36 ⟨Nat.le_of_ble_eq_true rfl, Nat.le_of_ble_eq_true rfl⟩ (fun H locs hP hS _ _ => ?_)
      refine lv_iload_n hx hb dX1_setColour_39 rfl (lv_at hl 0 rfl) ?_
      exact hret _ _ _ _ _ (by rw [oU_some (show okSC n (nI v) y = some v by unfold okSC; rw [if_pos c_17, vN_nI hn hv]), oU_some (show okSC n (nI v) y = some v by unfold okSC; rw [if_pos c_17, vN_nI hn hv])]; exact hP) hS dX1_setColour_40 (by rw [oN_in hn hv, if_pos c_17])
    · refine lv_bipush (v := (-2)) hx hb dX1_setColour_20 (by decide) ?_
      exact hret _ _ _ _ _ (by rw [oU_none (by unfold okSC; rw [c_17]; rfl), oU_none (by unfold okSC; rw [c_17]; rfl)]; exact hP) hS dX1_setColour_22 (by rw [oN_in hn hv, c_17]; rfl)
  · refine lv_iconst (v := (-1)) hx hb dX1_setColour_8 (by decide) ?_
    exact hret _ _ _ _ _ (by rw [oU_none (by unfold okSC; rw [vN_f c_5]; simp), oU_none (by unfold okSC; rw [vN_f c_5]; simp)]; exact hP) hS dX1_setColour_9 ((oN_out c_5 _).symm)
set_option maxRecDepth 100000 in
set_option maxHeartbeats 4000000 in
theorem cM_reset {l : Launch} {E : EE} {b : Nat → Nat} {n : Nat} {ids : Nat → Int32} {par : Nat → Option Nat} {cols : Nat → Int32} {rd : Nat} {nx : Nat → Int32} {isin : Nat → Bool} {wi wo : Nat → Nat} {wf : Nat → Option Nat}  (hI : inj 9 b)(hn : n ≤ 24)(hrd : rd < 100000) : WR l E (MP E b n ids par cols rd nx isin wi wo wf) (AM b) yX1_resetColours cX1_resetColours 3 (some .int) 2 42 [.ref (b 0)] (some (.int (nI (fb_ct (fun j => !decide (mcol cols rd j = ids j)) n)))) (MP E b n ids par (fb_put (scF cols rd 24) ids (24 * (0 % 17)) n) 0 nx isin wi wo wf) := by
  refine WR.mkI (C := RX1) rfl rfl (by decide) rfl (Nat.le_of_ble_eq_true rfl) ?_
  intro p e s m args below meth c H0 Q hC hK hP hret ls hl
  obtain ⟨hx, hb, hml, hown, hts⟩ := id hC
  have hl : lv_has ls 3 [(0, .ref (b 0))] := hl
  have hS : va_S (AM b) H0 H0 [] := va_S.rf
  have hP : MP E b n ids par cols rd nx isin wi wo wf H0 := hP
  refine lv_iconst (v := (nI (0))) hx hb dX1_resetColours_0 (by decide) ?_
  refine lv_istore_n (lv' := [(1, .int (nI (0))), (0, .ref (b 0))]) hx hb dX1_resetColours_1 rfl hl (by decide) rfl (fun ls hl => ?_)
  refine lv_aload_n hx hb dX1_resetColours_2 rfl (lv_at hl 1 rfl) ?_
  refine wrV (As := []) hC kX1_51 (cM_start  hI hrd) hK hP (m_rec hK hP) hS (fun _ h => h) rfl rfl hl ⟨Nat.le_of_ble_eq_true rfl, Nat.le_of_ble_eq_true rfl⟩ (Nat.le_of_ble_eq_true rfl) dX1_resetColours_3 ⟨Nat.le_of_ble_eq_true rfl, Nat.le_of_ble_eq_true rfl⟩ (fun H locs hP hS _ _ => ?_)
  refine lv_iconst (v := (nI (0))) hx hb dX1_resetColours_6 (by decide) ?_
  refine lv_istore_n (lv' := [(2, .int (nI (0))), (1, .int (nI (0))), (0, .ref (b 0))]) hx hb dX1_resetColours_7 rfl hl (by decide) rfl (fun ls hl => ?_)
  have loop_8 : ∀ (fuel : Nat) (k : Nat), (k ≤ n) → n - k < fuel → ∀ (H : Heap) (locs : List Loc), MP E b n ids par (fb_put (scF cols rd 24) ids (24 * (0 % 17)) k) 0 nx isin wi wo wf H → va_S (AM b) H0 H locs → ∀ (ls : Array Slot), lv_has ls 3 [(0, .ref (b 0)), (1, .int (nI (fb_ct (fun j => !decide (mcol cols rd j = ids j)) k))), (2, .int (nI (k)))] → W p l e (k2_rm 2 42) s m args below meth c H locs 0 0 Q (F0 m 8 ls []) := by
    intro fuel
    induction fuel with
    | zero => intro k hk hm; exact absurd hm (Nat.not_lt_zero _)
    | succ fuel ih_8 =>
      intro k hk hm H locs hP hS ls hl
      refine lv_iload_n hx hb dX1_resetColours_8 rfl (lv_at hl 2 rfl) ?_
      refine lv_aload_n hx hb dX1_resetColours_9 rfl (lv_at hl 0 rfl) ?_
      refine m_g0 hC hK hP dX1_resetColours_10 ?_
      refine nv_ge (tgt := 55) hx hb (by omega) (by omega) dX1_resetColours_13 (by decide) (fun c_13 => ?_) (fun c_13 => ?_)
      · have hkn : k = n := by omega
        rw [hkn] at hP
        refine lv_iload_n hx hb dX1_resetColours_55 rfl (lv_at hl 1 rfl) ?_
        exact hret _ _ _ _ _ (hP) hS dX1_resetColours_56 (by rw [hkn])
      · refine lv_iload_n hx hb dX1_resetColours_16 rfl (lv_at hl 1 rfl) ?_
        refine lv_aload_n hx hb dX1_resetColours_17 rfl (lv_at hl 0 rfl) ?_
        refine lv_iload_n hx hb dX1_resetColours_18 rfl (lv_at hl 2 rfl) ?_
        refine roV (As := [.int (nI (k))]) hC kX1_46 (cM_col k (by omega) (by omega)) hK hP (m_rec hK hP) rfl rfl hl ⟨Nat.le_of_ble_eq_true rfl, Nat.le_of_ble_eq_true rfl⟩ (Nat.le_of_ble_eq_true rfl) dX1_resetColours_19 ⟨Nat.le_of_ble_eq_true rfl, Nat.le_of_ble_eq_true rfl⟩ ?_
        refine tI ((mcol cols rd k)) (by rw [put_at (by omega), scF_col]) ?_
        refine lv_aload_n hx hb dX1_resetColours_22 rfl (lv_at hl 0 rfl) ?_
        refine m_g1 hC hK hP dX1_resetColours_23 ?_
        refine lv_iload_n hx hb dX1_resetColours_26 rfl (lv_at hl 2 rfl) ?_
        refine m_ld1 hx hb hK hP (by omega) dX1_resetColours_27 ?_
        refine lv_icmp_ne (tgt := 35) hx hb dX1_resetColours_28 (by decide) (fun c_28 => ?_) (fun c_28 => ?_)
        · refine lv_iconst (v := (nI (1))) hx hb dX1_resetColours_35 (by decide) ?_
          refine lv_iadd hx hb dX1_resetColours_36 ?_
          refine tI (nI ((fb_ct (fun j => !decide (mcol cols rd j = ids j)) k) + 1)) (nI_add _ _) ?_
          refine tI ((nI (fb_ct (fun j => !decide (mcol cols rd j = ids j)) (k + 1)))) (by rw [fb_ct_t (by simp [c_28])]) ?_
          refine lv_istore_n (lv' := [(1, .int (nI (fb_ct (fun j => !decide (mcol cols rd j = ids j)) (k + 1)))), (0, .ref (b 0)), (2, .int (nI (k)))]) hx hb dX1_resetColours_37 rfl hl (by decide) rfl (fun ls hl => ?_)
          refine lv_aload_n hx hb dX1_resetColours_38 rfl (lv_at hl 1 rfl) ?_
          refine lv_iload_n hx hb dX1_resetColours_39 rfl (lv_at hl 2 rfl) ?_
          refine lv_aload_n hx hb dX1_resetColours_40 rfl (lv_at hl 1 rfl) ?_
          refine m_g1 hC hK hP dX1_resetColours_41 ?_
          refine lv_iload_n hx hb dX1_resetColours_44 rfl (lv_at hl 2 rfl) ?_
          refine m_ld1 hx hb hK hP (by omega) dX1_resetColours_45 ?_
          refine wrV (As := [.int (nI (k)), .int (ids k)]) hC kX1_54 (cM_paints k ((ids k)) hI (by omega) (by omega)) hK hP (m_rec hK hP) hS (fun _ h => h) rfl rfl hl ⟨Nat.le_of_ble_eq_true rfl, Nat.le_of_ble_eq_true rfl⟩ (Nat.le_of_ble_eq_true rfl) dX1_resetColours_46 ⟨Nat.le_of_ble_eq_true rfl, Nat.le_of_ble_eq_true rfl⟩ (fun H locs hP hS _ _ => ?_)
          refine lv_iinc (v := (nI (k + 1))) (lv' := [(2, .int (nI (k + 1))), (1, .int (nI (fb_ct (fun j => !decide (mcol cols rd j = ids j)) (k + 1)))), (0, .ref (b 0))]) hx hb dX1_resetColours_49 hl (k := 2) rfl (nI_inc _) (by decide) rfl (fun ls hl => ?_)
          refine lv_goto (tgt := 8) hx hb dX1_resetColours_52 (by decide) ?_
          exact ih_8 (k + 1) (by omega) (by omega) _ _ (by rw [mset_s] at hP; exact hP) hS ls (lv_sub hl [2, 1, 0] rfl)
        · refine lv_iconst (v := (nI (0))) hx hb dX1_resetColours_31 (by decide) ?_
          refine lv_goto (tgt := 36) hx hb dX1_resetColours_32 (by decide) ?_
          refine lv_iadd hx hb dX1_resetColours_36 ?_
          refine tI (nI ((fb_ct (fun j => !decide (mcol cols rd j = ids j)) k) + 0)) (nI_add _ _) ?_
          refine tI ((nI (fb_ct (fun j => !decide (mcol cols rd j = ids j)) (k + 1)))) (by rw [fb_ct_f (by simp [c_28])]; rfl) ?_
          refine lv_istore_n (lv' := [(1, .int (nI (fb_ct (fun j => !decide (mcol cols rd j = ids j)) (k + 1)))), (0, .ref (b 0)), (2, .int (nI (k)))]) hx hb dX1_resetColours_37 rfl hl (by decide) rfl (fun ls hl => ?_)
          refine lv_aload_n hx hb dX1_resetColours_38 rfl (lv_at hl 1 rfl) ?_
          refine lv_iload_n hx hb dX1_resetColours_39 rfl (lv_at hl 2 rfl) ?_
          refine lv_aload_n hx hb dX1_resetColours_40 rfl (lv_at hl 1 rfl) ?_
          refine m_g1 hC hK hP dX1_resetColours_41 ?_
          refine lv_iload_n hx hb dX1_resetColours_44 rfl (lv_at hl 2 rfl) ?_
          refine m_ld1 hx hb hK hP (by omega) dX1_resetColours_45 ?_
          refine wrV (As := [.int (nI (k)), .int (ids k)]) hC kX1_54 (cM_paints k ((ids k)) hI (by omega) (by omega)) hK hP (m_rec hK hP) hS (fun _ h => h) rfl rfl hl ⟨Nat.le_of_ble_eq_true rfl, Nat.le_of_ble_eq_true rfl⟩ (Nat.le_of_ble_eq_true rfl) dX1_resetColours_46 ⟨Nat.le_of_ble_eq_true rfl, Nat.le_of_ble_eq_true rfl⟩ (fun H locs hP hS _ _ => ?_)
          refine lv_iinc (v := (nI (k + 1))) (lv' := [(2, .int (nI (k + 1))), (1, .int (nI (fb_ct (fun j => !decide (mcol cols rd j = ids j)) (k + 1)))), (0, .ref (b 0))]) hx hb dX1_resetColours_49 hl (k := 2) rfl (nI_inc _) (by decide) rfl (fun ls hl => ?_)
          refine lv_goto (tgt := 8) hx hb dX1_resetColours_52 (by decide) ?_
          exact ih_8 (k + 1) (by omega) (by omega) _ _ (by rw [mset_s] at hP; exact hP) hS ls (lv_sub hl [2, 1, 0] rfl)
  exact loop_8 (n - 0 + 1) 0 (Nat.zero_le _) (Nat.lt_succ_self _) _ _ (by rw [fb_put_0]; exact hP) hS ls (lv_sub hl [2, 1, 0] rfl)
set_option maxRecDepth 100000 in
set_option maxHeartbeats 4000000 in
theorem cM_beside {l : Launch} {E : EE} {b : Nat → Nat} {n : Nat} {ids : Nat → Int32} {par : Nat → Option Nat} {cols : Nat → Int32} {rd : Nat} {nx : Nat → Int32} {isin : Nat → Bool} {wi wo : Nat → Nat} {wf : Nat → Option Nat} (v : Nat) (c0 : Int32) (hn : n ≤ 24)(hp : PW n par)(hv : v < n)(hrd : rd < 100000) : RO l E (MP E b n ids par cols rd nx isin wi wo wf) yX1_isBeside cX1_isBeside 4 (some .boolean) 1 22 [.ref (b 0), .int (nI (v)), .int (c0)] (b2i (bes par (mcol cols rd) n v c0)) := by
  refine RO.mk (C := RX1) rfl (b2i_nar _) (by decide) rfl (Nat.le_of_ble_eq_true rfl) ?_
  intro p e s m args below meth c H Q hC hK hP hret ls hl
  obtain ⟨hx, hb, hml, hown, hts⟩ := id hC
  have hl : lv_has ls 4 [(0, .ref (b 0)), (1, .int (nI (v))), (2, .int (c0))] := hl
  refine lv_iconst (v := (nI (0))) hx hb dX1_isBeside_0 (by decide) ?_
  refine lv_istore_n (lv' := [(3, .int (nI (0))), (0, .ref (b 0)), (1, .int (nI (v))), (2, .int (c0))]) hx hb dX1_isBeside_1 rfl hl (by decide) rfl (fun ls hl => ?_)
  have loop_2 : ∀ (fuel : Nat) (k : Nat), (k ≤ n) → (∀ j, j < k → (nb par v j && decide (mcol cols rd j = c0)) = false) → n - k < fuel → ∀ (ls : Array Slot), lv_has ls 4 [(0, .ref (b 0)), (1, .int (nI (v))), (2, .int (c0)), (3, .int (nI (k)))] → W p l e (k2_rm 1 22) s m args below meth c H [] 0 0 Q (F0 m 2 ls []) := by
    intro fuel
    induction fuel with
    | zero => intro k hk hno hm; exact absurd hm (Nat.not_lt_zero _)
    | succ fuel ih_2 =>
      intro k hk hno hm ls hl
      refine lv_iload_n hx hb dX1_isBeside_2 rfl (lv_at hl 3 rfl) ?_
      refine lv_aload_n hx hb dX1_isBeside_3 rfl (lv_at hl 0 rfl) ?_
      refine m_g0 hC hK hP dX1_isBeside_4 ?_
      refine nv_ge (tgt := 36) hx hb (by omega) (by omega) dX1_isBeside_7 (by decide) (fun c_7 => ?_) (fun c_7 => ?_)
      · refine lv_iconst (v := (0)) hx hb dX1_isBeside_36 (by decide) ?_
        exact hret _ _ _ dX1_isBeside_37 (by rw [bes, anyB_no (fun j hj => hno j (by omega))]; rfl)
      · refine lv_aload_n hx hb dX1_isBeside_10 rfl (lv_at hl 0 rfl) ?_
        refine lv_iload_n hx hb dX1_isBeside_11 rfl (lv_at hl 1 rfl) ?_
        refine lv_iload_n hx hb dX1_isBeside_12 rfl (lv_at hl 3 rfl) ?_
        refine roV (As := [.int (nI (v)), .int (nI (k))]) hC kX1_66 (cM_nb v k hn hp (by omega) (by omega)) hK hP (m_rec hK hP) rfl rfl hl ⟨Nat.le_of_ble_eq_true rfl, Nat.le_of_ble_eq_true rfl⟩ (Nat.le_of_ble_eq_true rfl) dX1_isBeside_13 ⟨Nat.le_of_ble_eq_true rfl, Nat.le_of_ble_eq_true rfl⟩ ?_
        refine bv_eq (tgt := 30) hx hb dX1_isBeside_16 (by decide) (fun c_16 => ?_) (fun c_16 => ?_)
        · refine lv_iinc (v := (nI (k + 1))) (lv' := [(3, .int (nI (k + 1))), (0, .ref (b 0)), (1, .int (nI (v))), (2, .int (c0))]) hx hb dX1_isBeside_30 hl (k := 3) rfl (nI_inc _) (by decide) rfl (fun ls hl => ?_)
          refine lv_goto (tgt := 2) hx hb dX1_isBeside_33 (by decide) ?_
          exact ih_2 (k + 1) (by omega) (lt_s hno (by simp [c_16])) (by omega) ls (lv_sub hl [1, 2, 3, 0] rfl)
        · refine lv_aload_n hx hb dX1_isBeside_19 rfl (lv_at hl 0 rfl) ?_
          refine lv_iload_n hx hb dX1_isBeside_20 rfl (lv_at hl 3 rfl) ?_
          refine roV (As := [.int (nI (k))]) hC kX1_46 (cM_col k (by omega) (by omega)) hK hP (m_rec hK hP) rfl rfl hl ⟨Nat.le_of_ble_eq_true rfl, Nat.le_of_ble_eq_true rfl⟩ (Nat.le_of_ble_eq_true rfl) dX1_isBeside_21 ⟨Nat.le_of_ble_eq_true rfl, Nat.le_of_ble_eq_true rfl⟩ ?_
          refine lv_iload_n hx hb dX1_isBeside_24 rfl (lv_at hl 2 rfl) ?_
          refine lv_icmp_ne (tgt := 30) hx hb dX1_isBeside_25 (by decide) (fun c_25 => ?_) (fun c_25 => ?_)
          · refine lv_iinc (v := (nI (k + 1))) (lv' := [(3, .int (nI (k + 1))), (0, .ref (b 0)), (1, .int (nI (v))), (2, .int (c0))]) hx hb dX1_isBeside_30 hl (k := 3) rfl (nI_inc _) (by decide) rfl (fun ls hl => ?_)
            refine lv_goto (tgt := 2) hx hb dX1_isBeside_33 (by decide) ?_
            exact ih_2 (k + 1) (by omega) (lt_s hno (by simp [c_25])) (by omega) ls (lv_sub hl [1, 2, 3, 0] rfl)
          · refine lv_iconst (v := (1)) hx hb dX1_isBeside_28 (by decide) ?_
            exact hret _ _ _ dX1_isBeside_29 (by rw [bes, anyB_yes (k := k) (by omega) (by simp [c_16, c_25])]; rfl)
  exact loop_2 (n - 0 + 1) 0 (Nat.zero_le _) (lt_0) (Nat.lt_succ_self _) ls (lv_sub hl [1, 2, 3, 0] rfl)
set_option maxRecDepth 100000 in
set_option maxHeartbeats 4000000 in
theorem cM_recolour {l : Launch} {E : EE} {b : Nat → Nat} {n : Nat} {ids : Nat → Int32} {par : Nat → Option Nat} {cols : Nat → Int32} {rd : Nat} {nx : Nat → Int32} {isin : Nat → Bool} {wi wo : Nat → Nat} {wf : Nat → Option Nat} (x : Int32) (hI : inj 9 b)(hn : n ≤ 24)(hp : PW n par)(hrd : rd < 100000) : WR l E (MP E b n ids par cols rd nx isin wi wo wf) (AM b) yX1_recolour cX1_recolour 3 (some .int) 2 45 [.ref (b 0), .int (x)] (some (.int (oN (vN n x) (fun v => pe (freF par (mcol cols rd) n v n))))) (MP E b n ids par (oU (vN n x) (fun v => mset (scF cols rd 24) 0 v (pe (freF par (mcol cols rd) n v n))) cols) (oU (vN n x) (fun _ => 0) rd) nx isin wi wo wf) := by
  refine WR.mkI (C := RX1) rfl rfl (by decide) rfl (Nat.le_of_ble_eq_true rfl) ?_
  intro p e s m args below meth c H0 Q hC hK hP hret ls hl
  obtain ⟨hx, hb, hml, hown, hts⟩ := id hC
  have hl : lv_has ls 3 [(0, .ref (b 0)), (1, .int (x))] := hl
  have hS : va_S (AM b) H0 H0 [] := va_S.rf
  have hP : MP E b n ids par cols rd nx isin wi wo wf H0 := hP
  refine lv_aload_n hx hb dX1_recolour_0 rfl (lv_at hl 0 rfl) ?_
  refine lv_iload_n hx hb dX1_recolour_1 rfl (lv_at hl 1 rfl) ?_
  refine roV (As := [.int (x)]) hC kX1_58 (cM_isNode ((x)) hn) hK hP (m_rec hK hP) rfl rfl hl ⟨Nat.le_of_ble_eq_true rfl, Nat.le_of_ble_eq_true rfl⟩ (Nat.le_of_ble_eq_true rfl) dX1_recolour_2 ⟨Nat.le_of_ble_eq_true rfl, Nat.le_of_ble_eq_true rfl⟩ ?_
  refine bv_ne (tgt := 10) hx hb dX1_recolour_5 (by decide) (fun c_5 => ?_) (fun c_5 => ?_)
  · obtain ⟨v, hv, rfl⟩ := vN_t hn c_5
    obtain ⟨q, hq, hqn⟩ := free_ex hn hp (mcol cols rd) hv
    refine lv_aload_n hx hb dX1_recolour_10 rfl (lv_at hl 0 rfl) ?_
    refine wrV (As := []) hC kX1_51 (cM_start  hI hrd) hK hP (m_rec hK hP) hS (fun _ h => h) rfl rfl hl ⟨Nat.le_of_ble_eq_true rfl, Nat.le_of_ble_eq_true rfl⟩ (Nat.le_of_ble_eq_true rfl) dX1_recolour_11 ⟨Nat.le_of_ble_eq_true rfl, Nat.le_of_ble_eq_true rfl⟩ (fun H locs hP hS _ _ => ?_)
    refine lv_iconst (v := (nI (0))) hx hb dX1_recolour_14 (by decide) ?_
    refine lv_istore_n (lv' := [(2, .int (nI (0))), (0, .ref (b 0)), (1, .int (nI (v)))]) hx hb dX1_recolour_15 rfl hl (by decide) rfl (fun ls hl => ?_)
    have loop_16 : ∀ (fuel : Nat) (k : Nat), (k ≤ q) → (∀ j, j < k → (!bes par (mcol cols rd) n v (nI j)) = false) → q - k < fuel → ∀ (H : Heap) (locs : List Loc), MP E b n ids par (scF cols rd 24) 0 nx isin wi wo wf H → va_S (AM b) H0 H locs → ∀ (ls : Array Slot), lv_has ls 3 [(0, .ref (b 0)), (1, .int (nI (v))), (2, .int (nI (k)))] → W p l e (k2_rm 2 45) s m args below meth c H locs 0 0 Q (F0 m 16 ls []) := by
      intro fuel
      induction fuel with
      | zero => intro k hk hno hm; exact absurd hm (Nat.not_lt_zero _)
      | succ fuel ih_16 =>
        intro k hk hno hm H locs hP hS ls hl
        refine lv_aload_n hx hb dX1_recolour_16 rfl (lv_at hl 0 rfl) ?_
        refine lv_iload_n hx hb dX1_recolour_17 rfl (lv_at hl 1 rfl) ?_
        refine lv_iload_n hx hb dX1_recolour_18 rfl (lv_at hl 2 rfl) ?_
        refine roV (As := [.int (nI (v)), .int (nI (k))]) hC kX1_79 (cM_beside v ((nI (k))) hn hp hv (by omega)) hK hP (m_rec hK hP) rfl rfl hl ⟨Nat.le_of_ble_eq_true rfl, Nat.le_of_ble_eq_true rfl⟩ (Nat.le_of_ble_eq_true rfl) dX1_recolour_19 ⟨Nat.le_of_ble_eq_true rfl, Nat.le_of_ble_eq_true rfl⟩ ?_
        refine tI ((b2i (bes par (mcol cols rd) n v (nI k)))) (by rw [scF_col]) ?_
        refine bv_eq (tgt := 31) hx hb dX1_recolour_22 (by decide) (fun c_22 => ?_) (fun c_22 => ?_)
        · have hkf : freF par (mcol cols rd) n v n = some k := fst_some (by omega) (by rw [c_22]; rfl) hno
          refine lv_aload_n hx hb dX1_recolour_31 rfl (lv_at hl 0 rfl) ?_
          refine lv_iload_n hx hb dX1_recolour_32 rfl (lv_at hl 1 rfl) ?_
          refine lv_iload_n hx hb dX1_recolour_33 rfl (lv_at hl 2 rfl) ?_
          refine wrV (As := [.int (nI (v)), .int (nI (k))]) hC kX1_54 (cM_paints v ((nI (k))) hI (by omega) (by omega)) hK hP (m_rec hK hP) hS (fun _ h => h) rfl rfl hl ⟨Nat.le_of_ble_eq_true rfl, Nat.le_of_ble_eq_true rfl⟩ (Nat.le_of_ble_eq_true rfl) dX1_recolour_34 ⟨Nat.le_of_ble_eq_true rfl, Nat.le_of_ble_eq_true rfl⟩ (fun H locs hP hS _ _ => ?_)
          refine lv_iload_n hx hb dX1_recolour_37 rfl (lv_at hl 2 rfl) ?_
          exact hret _ _ _ _ _ (by rw [oU_some (vN_nI hn hv), oU_some (vN_nI hn hv), hkf]; exact hP) hS dX1_recolour_38 (by rw [oN_in hn hv, hkf]; rfl)
        · have hkq : k < q := fre_step hq hk c_22
          refine lv_iinc (v := (nI (k + 1))) (lv' := [(2, .int (nI (k + 1))), (0, .ref (b 0)), (1, .int (nI (v)))]) hx hb dX1_recolour_25 hl (k := 2) rfl (nI_inc _) (by decide) rfl (fun ls hl => ?_)
          refine lv_goto (tgt := 16) hx hb dX1_recolour_28 (by decide) ?_
          exact ih_16 (k + 1) (hkq) (lt_s hno (by rw [c_22]; rfl)) (by omega) _ _ (hP) hS ls (lv_sub hl [1, 2, 0] rfl)
    exact loop_16 (q - 0 + 1) 0 (Nat.zero_le _) (lt_0) (Nat.lt_succ_self _) _ _ (hP) hS ls (lv_sub hl [1, 2, 0] rfl)
  · refine lv_iconst (v := (-1)) hx hb dX1_recolour_8 (by decide) ?_
    exact hret _ _ _ _ _ (by rw [oU_none (vN_f c_5), oU_none (vN_f c_5)]; exact hP) hS dX1_recolour_9 ((oN_out c_5 _).symm)
set_option maxRecDepth 100000 in
set_option maxHeartbeats 4000000 in
theorem cM_colourCount {l : Launch} {E : EE} {b : Nat → Nat} {n : Nat} {ids : Nat → Int32} {par : Nat → Option Nat} {cols : Nat → Int32} {rd : Nat} {nx : Nat → Int32} {isin : Nat → Bool} {wi wo : Nat → Nat} {wf : Nat → Option Nat}  (hn : n ≤ 24)(hrd : rd < 100000) : RO l E (MP E b n ids par cols rd nx isin wi wo wf) yX1_colourCount cX1_colourCount 5 (some .int) 1 21 [.ref (b 0)] (nI (fb_ct (frst (mcol cols rd)) n)) := by
  refine RO.mk (C := RX1) rfl rfl (by decide) rfl (Nat.le_of_ble_eq_true rfl) ?_
  intro p e s m args below meth c H Q hC hK hP hret ls hl
  obtain ⟨hx, hb, hml, hown, hts⟩ := id hC
  have hl : lv_has ls 5 [(0, .ref (b 0))] := hl
  refine lv_iconst (v := (nI (0))) hx hb dX1_colourCount_0 (by decide) ?_
  refine lv_istore_n (lv' := [(1, .int (nI (0))), (0, .ref (b 0))]) hx hb dX1_colourCount_1 rfl hl (by decide) rfl (fun ls hl => ?_)
  refine lv_iconst (v := (nI (0))) hx hb dX1_colourCount_2 (by decide) ?_
  refine lv_istore_n (lv' := [(2, .int (nI (0))), (1, .int (nI (0))), (0, .ref (b 0))]) hx hb dX1_colourCount_3 rfl hl (by decide) rfl (fun ls hl => ?_)
  have loop_4 : ∀ (fuel : Nat) (k : Nat), (k ≤ n) → n - k < fuel → ∀ (ls : Array Slot), lv_has ls 5 [(0, .ref (b 0)), (1, .int (nI (fb_ct (frst (mcol cols rd)) k))), (2, .int (nI (k)))] → W p l e (k2_rm 1 21) s m args below meth c H [] 0 0 Q (F0 m 4 ls []) := by
    intro fuel
    induction fuel with
    | zero => intro k hk hm; exact absurd hm (Nat.not_lt_zero _)
    | succ fuel ih_4 =>
      intro k hk hm ls hl
      refine lv_iload_n hx hb dX1_colourCount_4 rfl (lv_at hl 2 rfl) ?_
      refine lv_aload_n hx hb dX1_colourCount_5 rfl (lv_at hl 0 rfl) ?_
      refine m_g0 hC hK hP dX1_colourCount_6 ?_
      refine nv_ge (tgt := 71) hx hb (by omega) (by omega) dX1_colourCount_9 (by decide) (fun c_9 => ?_) (fun c_9 => ?_)
      · refine lv_iload_n hx hb dX1_colourCount_71 rfl (lv_at hl 1 rfl) ?_
        exact hret _ _ _ dX1_colourCount_72 (by rw [show k = n by omega])
      · refine lv_iconst (v := (b2i (true))) hx hb dX1_colourCount_12 (by decide) ?_
        refine lv_istore_n (lv' := [(3, .int (b2i (true))), (0, .ref (b 0)), (1, .int (nI (fb_ct (frst (mcol cols rd)) k))), (2, .int (nI (k)))]) hx hb dX1_colourCount_13 rfl hl (by decide) rfl (fun ls hl => ?_)
        refine lv_iconst (v := (nI (0))) hx hb dX1_colourCount_14 (by decide) ?_
        refine lv_istore (lv' := [(4, .int (nI (0))), (3, .int (b2i (true))), (0, .ref (b 0)), (1, .int (nI (fb_ct (frst (mcol cols rd)) k))), (2, .int (nI (k)))]) hx hb dX1_colourCount_15 hl (by decide) rfl (fun ls hl => ?_)
        have loop_17 : ∀ (fuel : Nat) (j : Nat), (j ≤ k) → k - j < fuel → ∀ (ls : Array Slot), lv_has ls 5 [(0, .ref (b 0)), (1, .int (nI (fb_ct (frst (mcol cols rd)) k))), (2, .int (nI (k))), (3, .int (b2i (!anyB (fun i => decide (mcol cols rd i = mcol cols rd k)) j))), (4, .int (nI (j)))] → W p l e (k2_rm 1 21) s m args below meth c H [] 0 0 Q (F0 m 17 ls []) := by
          intro fuel
          induction fuel with
          | zero => intro j hj hm; exact absurd hm (Nat.not_lt_zero _)
          | succ fuel ih_17 =>
            intro j hj hm ls hl
            refine lv_iload hx hb dX1_colourCount_17 (lv_at hl 4 rfl) ?_
            refine lv_iload_n hx hb dX1_colourCount_19 rfl (lv_at hl 2 rfl) ?_
            refine nv_ge (tgt := 53) hx hb (by omega) (by omega) dX1_colourCount_20 (by decide) (fun c_20 => ?_) (fun c_20 => ?_)
            · have hjk : j = k := by omega
              refine lv_iload_n hx hb dX1_colourCount_53 rfl (lv_at hl 1 rfl) ?_
              refine lv_iload_n hx hb dX1_colourCount_54 rfl (lv_at hl 3 rfl) ?_
              refine bv_eq (tgt := 62) hx hb dX1_colourCount_55 (by decide) (fun c_55 => ?_) (fun c_55 => ?_)
              · refine lv_iconst (v := (nI (0))) hx hb dX1_colourCount_62 (by decide) ?_
                refine lv_iadd hx hb dX1_colourCount_63 ?_
                refine tI (nI ((fb_ct (frst (mcol cols rd)) k) + 0)) (nI_add _ _) ?_
                refine tI ((nI (fb_ct (frst (mcol cols rd)) (k + 1)))) (by rw [hjk] at c_55; rw [fb_ct_f (p := frst (mcol cols rd)) c_55]; rfl) ?_
                refine lv_istore_n (lv' := [(1, .int (nI (fb_ct (frst (mcol cols rd)) (k + 1)))), (0, .ref (b 0)), (2, .int (nI (k))), (3, .int (b2i (!anyB (fun i => decide (mcol cols rd i = mcol cols rd k)) j))), (4, .int (nI (j)))]) hx hb dX1_colourCount_64 rfl hl (by decide) rfl (fun ls hl => ?_)
                refine lv_iinc (v := (nI (k + 1))) (lv' := [(2, .int (nI (k + 1))), (1, .int (nI (fb_ct (frst (mcol cols rd)) (k + 1)))), (0, .ref (b 0)), (3, .int (b2i (!anyB (fun i => decide (mcol cols rd i = mcol cols rd k)) j))), (4, .int (nI (j)))]) hx hb dX1_colourCount_65 hl (k := 2) rfl (nI_inc _) (by decide) rfl (fun ls hl => ?_)
                refine lv_goto (tgt := 4) hx hb dX1_colourCount_68 (by decide) ?_
                exact ih_4 (k + 1) (by omega) (by omega) ls (lv_sub hl [2, 1, 0] rfl)
              · refine lv_iconst (v := (nI (1))) hx hb dX1_colourCount_58 (by decide) ?_
                refine lv_goto (tgt := 63) hx hb dX1_colourCount_59 (by decide) ?_
                refine lv_iadd hx hb dX1_colourCount_63 ?_
                refine tI (nI ((fb_ct (frst (mcol cols rd)) k) + 1)) (nI_add _ _) ?_
                refine tI ((nI (fb_ct (frst (mcol cols rd)) (k + 1)))) (by rw [hjk] at c_55; rw [fb_ct_t (p := frst (mcol cols rd)) c_55]) ?_
                refine lv_istore_n (lv' := [(1, .int (nI (fb_ct (frst (mcol cols rd)) (k + 1)))), (0, .ref (b 0)), (2, .int (nI (k))), (3, .int (b2i (!anyB (fun i => decide (mcol cols rd i = mcol cols rd k)) j))), (4, .int (nI (j)))]) hx hb dX1_colourCount_64 rfl hl (by decide) rfl (fun ls hl => ?_)
                refine lv_iinc (v := (nI (k + 1))) (lv' := [(2, .int (nI (k + 1))), (1, .int (nI (fb_ct (frst (mcol cols rd)) (k + 1)))), (0, .ref (b 0)), (3, .int (b2i (!anyB (fun i => decide (mcol cols rd i = mcol cols rd k)) j))), (4, .int (nI (j)))]) hx hb dX1_colourCount_65 hl (k := 2) rfl (nI_inc _) (by decide) rfl (fun ls hl => ?_)
                refine lv_goto (tgt := 4) hx hb dX1_colourCount_68 (by decide) ?_
                exact ih_4 (k + 1) (by omega) (by omega) ls (lv_sub hl [2, 1, 0] rfl)
            · refine lv_iload_n hx hb dX1_colourCount_23 rfl (lv_at hl 3 rfl) ?_
              refine bv_eq (tgt := 45) hx hb dX1_colourCount_24 (by decide) (fun c_24 => ?_) (fun c_24 => ?_)
              · refine lv_iconst (v := (b2i (false))) hx hb dX1_colourCount_45 (by decide) ?_
                refine tI ((b2i (!anyB (fun i => decide (mcol cols rd i = mcol cols rd k)) (j + 1)))) (cc_f1 c_24) ?_
                refine lv_istore_n (lv' := [(3, .int (b2i (!anyB (fun i => decide (mcol cols rd i = mcol cols rd k)) (j + 1)))), (0, .ref (b 0)), (1, .int (nI (fb_ct (frst (mcol cols rd)) k))), (2, .int (nI (k))), (4, .int (nI (j)))]) hx hb dX1_colourCount_46 rfl hl (by decide) rfl (fun ls hl => ?_)
                refine lv_iinc (v := (nI (j + 1))) (lv' := [(4, .int (nI (j + 1))), (3, .int (b2i (!anyB (fun i => decide (mcol cols rd i = mcol cols rd k)) (j + 1)))), (0, .ref (b 0)), (1, .int (nI (fb_ct (frst (mcol cols rd)) k))), (2, .int (nI (k)))]) hx hb dX1_colourCount_47 hl (k := 4) rfl (nI_inc _) (by decide) rfl (fun ls hl => ?_)
                refine lv_goto (tgt := 17) hx hb dX1_colourCount_50 (by decide) ?_
                exact ih_17 (j + 1) (by omega) (by omega) ls (lv_sub hl [2, 3, 4, 1, 0] rfl)
              · refine lv_aload_n hx hb dX1_colourCount_27 rfl (lv_at hl 0 rfl) ?_
                refine lv_iload hx hb dX1_colourCount_28 (lv_at hl 4 rfl) ?_
                refine roV (As := [.int (nI (j))]) hC kX1_46 (cM_col j (by omega) (by omega)) hK hP (m_rec hK hP) rfl rfl hl ⟨Nat.le_of_ble_eq_true rfl, Nat.le_of_ble_eq_true rfl⟩ (Nat.le_of_ble_eq_true rfl) dX1_colourCount_30 ⟨Nat.le_of_ble_eq_true rfl, Nat.le_of_ble_eq_true rfl⟩ ?_
                refine lv_aload_n hx hb dX1_colourCount_33 rfl (lv_at hl 0 rfl) ?_
                refine lv_iload_n hx hb dX1_colourCount_34 rfl (lv_at hl 2 rfl) ?_
                refine roV (As := [.int (nI (k))]) hC kX1_46 (cM_col k (by omega) (by omega)) hK hP (m_rec hK hP) rfl rfl hl ⟨Nat.le_of_ble_eq_true rfl, Nat.le_of_ble_eq_true rfl⟩ (Nat.le_of_ble_eq_true rfl) dX1_colourCount_35 ⟨Nat.le_of_ble_eq_true rfl, Nat.le_of_ble_eq_true rfl⟩ ?_
                refine lv_icmp_eq (tgt := 45) hx hb dX1_colourCount_38 (by decide) (fun c_38 => ?_) (fun c_38 => ?_)
                · refine lv_iconst (v := (b2i (false))) hx hb dX1_colourCount_45 (by decide) ?_
                  refine tI ((b2i (!anyB (fun i => decide (mcol cols rd i = mcol cols rd k)) (j + 1)))) (cc_f2 (by simp [c_38])) ?_
                  refine lv_istore_n (lv' := [(3, .int (b2i (!anyB (fun i => decide (mcol cols rd i = mcol cols rd k)) (j + 1)))), (0, .ref (b 0)), (1, .int (nI (fb_ct (frst (mcol cols rd)) k))), (2, .int (nI (k))), (4, .int (nI (j)))]) hx hb dX1_colourCount_46 rfl hl (by decide) rfl (fun ls hl => ?_)
                  refine lv_iinc (v := (nI (j + 1))) (lv' := [(4, .int (nI (j + 1))), (3, .int (b2i (!anyB (fun i => decide (mcol cols rd i = mcol cols rd k)) (j + 1)))), (0, .ref (b 0)), (1, .int (nI (fb_ct (frst (mcol cols rd)) k))), (2, .int (nI (k)))]) hx hb dX1_colourCount_47 hl (k := 4) rfl (nI_inc _) (by decide) rfl (fun ls hl => ?_)
                  refine lv_goto (tgt := 17) hx hb dX1_colourCount_50 (by decide) ?_
                  exact ih_17 (j + 1) (by omega) (by omega) ls (lv_sub hl [2, 3, 4, 1, 0] rfl)
                · refine lv_iconst (v := (b2i (true))) hx hb dX1_colourCount_41 (by decide) ?_
                  refine tI ((b2i (!anyB (fun i => decide (mcol cols rd i = mcol cols rd k)) (j + 1)))) (cc_t c_24 (by simp [c_38])) ?_
                  refine lv_goto (tgt := 46) hx hb dX1_colourCount_42 (by decide) ?_
                  refine lv_istore_n (lv' := [(3, .int (b2i (!anyB (fun i => decide (mcol cols rd i = mcol cols rd k)) (j + 1)))), (0, .ref (b 0)), (1, .int (nI (fb_ct (frst (mcol cols rd)) k))), (2, .int (nI (k))), (4, .int (nI (j)))]) hx hb dX1_colourCount_46 rfl hl (by decide) rfl (fun ls hl => ?_)
                  refine lv_iinc (v := (nI (j + 1))) (lv' := [(4, .int (nI (j + 1))), (3, .int (b2i (!anyB (fun i => decide (mcol cols rd i = mcol cols rd k)) (j + 1)))), (0, .ref (b 0)), (1, .int (nI (fb_ct (frst (mcol cols rd)) k))), (2, .int (nI (k)))]) hx hb dX1_colourCount_47 hl (k := 4) rfl (nI_inc _) (by decide) rfl (fun ls hl => ?_)
                  refine lv_goto (tgt := 17) hx hb dX1_colourCount_50 (by decide) ?_
                  exact ih_17 (j + 1) (by omega) (by omega) ls (lv_sub hl [2, 3, 4, 1, 0] rfl)
        exact loop_17 (k - 0 + 1) 0 (Nat.zero_le _) (Nat.lt_succ_self _) ls (lv_sub hl [2, 3, 4, 1, 0] rfl)
  exact loop_4 (n - 0 + 1) 0 (Nat.zero_le _) (Nat.lt_succ_self _) ls (lv_sub hl [2, 1, 0] rfl)
set_option maxRecDepth 100000 in
set_option maxHeartbeats 4000000 in
theorem cM_greatest {l : Launch} {E : EE} {b : Nat → Nat} {n : Nat} {ids : Nat → Int32} {par : Nat → Option Nat} {cols : Nat → Int32} {rd : Nat} {nx : Nat → Int32} {isin : Nat → Bool} {wi wo : Nat → Nat} {wf : Nat → Option Nat}  (hn : n ≤ 24)(hrd : rd < 100000) : RO l E (MP E b n ids par cols rd nx isin wi wo wf) yX1_greatest cX1_greatest 3 (some .int) 1 21 [.ref (b 0)] (mxF (mcol cols rd) n) := by
  refine RO.mk (C := RX1) rfl rfl (by decide) rfl (Nat.le_of_ble_eq_true rfl) ?_
  intro p e s m args below meth c H Q hC hK hP hret ls hl
  obtain ⟨hx, hb, hml, hown, hts⟩ := id hC
  have hl : lv_has ls 3 [(0, .ref (b 0))] := hl
  refine lv_bipush (v := (-7)) hx hb dX1_greatest_0 (by decide) ?_
  refine lv_istore_n (lv' := [(1, .int (-7)), (0, .ref (b 0))]) hx hb dX1_greatest_2 rfl hl (by decide) rfl (fun ls hl => ?_)
  refine lv_iconst (v := (nI (0))) hx hb dX1_greatest_3 (by decide) ?_
  refine lv_istore_n (lv' := [(2, .int (nI (0))), (1, .int (-7)), (0, .ref (b 0))]) hx hb dX1_greatest_4 rfl hl (by decide) rfl (fun ls hl => ?_)
  have loop_5 : ∀ (fuel : Nat) (k : Nat), (k ≤ n) → n - k < fuel → ∀ (ls : Array Slot), lv_has ls 3 [(0, .ref (b 0)), (1, .int (mxF (mcol cols rd) k)), (2, .int (nI (k)))] → W p l e (k2_rm 1 21) s m args below meth c H [] 0 0 Q (F0 m 5 ls []) := by
    intro fuel
    induction fuel with
    | zero => intro k hk hm; exact absurd hm (Nat.not_lt_zero _)
    | succ fuel ih_5 =>
      intro k hk hm ls hl
      refine lv_iload_n hx hb dX1_greatest_5 rfl (lv_at hl 2 rfl) ?_
      refine lv_aload_n hx hb dX1_greatest_6 rfl (lv_at hl 0 rfl) ?_
      refine m_g0 hC hK hP dX1_greatest_7 ?_
      refine nv_ge (tgt := 38) hx hb (by omega) (by omega) dX1_greatest_10 (by decide) (fun c_10 => ?_) (fun c_10 => ?_)
      · refine lv_iload_n hx hb dX1_greatest_38 rfl (lv_at hl 1 rfl) ?_
        exact hret _ _ _ dX1_greatest_39 (by rw [show k = n by omega])
      · refine lv_aload_n hx hb dX1_greatest_13 rfl (lv_at hl 0 rfl) ?_
        refine lv_iload_n hx hb dX1_greatest_14 rfl (lv_at hl 2 rfl) ?_
        refine roV (As := [.int (nI (k))]) hC kX1_46 (cM_col k (by omega) (by omega)) hK hP (m_rec hK hP) rfl rfl hl ⟨Nat.le_of_ble_eq_true rfl, Nat.le_of_ble_eq_true rfl⟩ (Nat.le_of_ble_eq_true rfl) dX1_greatest_15 ⟨Nat.le_of_ble_eq_true rfl, Nat.le_of_ble_eq_true rfl⟩ ?_
        refine lv_iload_n hx hb dX1_greatest_18 rfl (lv_at hl 1 rfl) ?_
        refine lv_icmp_le (tgt := 30) hx hb dX1_greatest_19 (by decide) (fun c_19 => ?_) (fun c_19 => ?_)
        · refine lv_iload_n hx hb dX1_greatest_30 rfl (lv_at hl 1 rfl) ?_
          refine tI ((mxF (mcol cols rd) (k + 1))) (by rw [mxF, max32, if_neg (Int32.not_lt.mpr c_19)]) ?_
          refine lv_istore_n (lv' := [(1, .int (mxF (mcol cols rd) (k + 1))), (0, .ref (b 0)), (2, .int (nI (k)))]) hx hb dX1_greatest_31 rfl hl (by decide) rfl (fun ls hl => ?_)
          refine lv_iinc (v := (nI (k + 1))) (lv' := [(2, .int (nI (k + 1))), (1, .int (mxF (mcol cols rd) (k + 1))), (0, .ref (b 0))]) hx hb dX1_greatest_32 hl (k := 2) rfl (nI_inc _) (by decide) rfl (fun ls hl => ?_)
          refine lv_goto (tgt := 5) hx hb dX1_greatest_35 (by decide) ?_
          exact ih_5 (k + 1) (by omega) (by omega) ls (lv_sub hl [2, 1, 0] rfl)
        · refine lv_aload_n hx hb dX1_greatest_22 rfl (lv_at hl 0 rfl) ?_
          refine lv_iload_n hx hb dX1_greatest_23 rfl (lv_at hl 2 rfl) ?_
          refine roV (As := [.int (nI (k))]) hC kX1_46 (cM_col k (by omega) (by omega)) hK hP (m_rec hK hP) rfl rfl hl ⟨Nat.le_of_ble_eq_true rfl, Nat.le_of_ble_eq_true rfl⟩ (Nat.le_of_ble_eq_true rfl) dX1_greatest_24 ⟨Nat.le_of_ble_eq_true rfl, Nat.le_of_ble_eq_true rfl⟩ ?_
          refine tI ((mxF (mcol cols rd) (k + 1))) (by rw [mxF, max32, if_pos (Int32.not_le.mp c_19)]) ?_
          refine lv_goto (tgt := 31) hx hb dX1_greatest_27 (by decide) ?_
          refine lv_istore_n (lv' := [(1, .int (mxF (mcol cols rd) (k + 1))), (0, .ref (b 0)), (2, .int (nI (k)))]) hx hb dX1_greatest_31 rfl hl (by decide) rfl (fun ls hl => ?_)
          refine lv_iinc (v := (nI (k + 1))) (lv' := [(2, .int (nI (k + 1))), (1, .int (mxF (mcol cols rd) (k + 1))), (0, .ref (b 0))]) hx hb dX1_greatest_32 hl (k := 2) rfl (nI_inc _) (by decide) rfl (fun ls hl => ?_)
          refine lv_goto (tgt := 5) hx hb dX1_greatest_35 (by decide) ?_
          exact ih_5 (k + 1) (by omega) (by omega) ls (lv_sub hl [2, 1, 0] rfl)
  exact loop_5 (n - 0 + 1) 0 (Nat.zero_le _) (Nat.lt_succ_self _) ls (lv_sub hl [2, 1, 0] rfl)
set_option maxRecDepth 100000 in
set_option maxHeartbeats 4000000 in
theorem cM_greatestColour {l : Launch} {E : EE} {b : Nat → Nat} {n : Nat} {ids : Nat → Int32} {par : Nat → Option Nat} {cols : Nat → Int32} {rd : Nat} {nx : Nat → Int32} {isin : Nat → Bool} {wi wo : Nat → Nat} {wf : Nat → Option Nat}  (hn : n ≤ 24)(hrd : rd < 100000) : RO l E (MP E b n ids par cols rd nx isin wi wo wf) yX1_greatestColour cX1_greatestColour 1 (some .int) 2 43 [.ref (b 0)] (mxF (mcol cols rd) n) := by
  refine RO.mk (C := RX1) rfl rfl (by decide) rfl (Nat.le_of_ble_eq_true rfl) ?_
  intro p e s m args below meth c H Q hC hK hP hret ls hl
  obtain ⟨hx, hb, hml, hown, hts⟩ := id hC
  have hl : lv_has ls 1 [(0, .ref (b 0))] := hl
  refine lv_aload_n hx hb dX1_greatestColour_0 rfl (lv_at hl 0 rfl) ?_
  refine roV (As := []) hC kX1_82 (cM_greatest  hn hrd) hK hP (m_rec hK hP) rfl rfl hl ⟨Nat.le_of_ble_eq_true rfl, Nat.le_of_ble_eq_true rfl⟩ (Nat.le_of_ble_eq_true rfl) dX1_greatestColour_1 ⟨Nat.le_of_ble_eq_true rfl, Nat.le_of_ble_eq_true rfl⟩ ?_
  exact hret _ _ _ dX1_greatestColour_4 (by first | rfl | omega | simp_all)
set_option maxRecDepth 100000 in
set_option maxHeartbeats 4000000 in
theorem cM_conf {l : Launch} {E : EE} {b : Nat → Nat} {n : Nat} {ids : Nat → Int32} {par : Nat → Option Nat} {cols : Nat → Int32} {rd : Nat} {nx : Nat → Int32} {isin : Nat → Bool} {wi wo : Nat → Nat} {wf : Nat → Option Nat} (v : Nat) (hn : n ≤ 24)(hp : PW n par)(hv : v < n)(hrd : rd < 100000) : RO l E (MP E b n ids par cols rd nx isin wi wo wf) yX1_isConflict cX1_isConflict 2 (some .boolean) 1 21 [.ref (b 0), .int (nI (v))] (b2i (conf par (mcol cols rd) v)) := by
  refine RO.mk (C := RX1) rfl (b2i_nar _) (by decide) rfl (Nat.le_of_ble_eq_true rfl) ?_
  intro p e s m args below meth c H Q hC hK hP hret ls hl
  obtain ⟨hx, hb, hml, hown, hts⟩ := id hC
  have hl : lv_has ls 2 [(0, .ref (b 0)), (1, .int (nI (v)))] := hl
  refine lv_aload_n hx hb dX1_isConflict_0 rfl (lv_at hl 0 rfl) ?_
  refine m_g2 hC hK hP dX1_isConflict_1 ?_
  refine lv_iload_n hx hb dX1_isConflict_4 rfl (lv_at hl 1 rfl) ?_
  refine m_ld2 hx hb hK hP (by omega) dX1_isConflict_5 ?_
  refine lv_bipush (v := (-7)) hx hb dX1_isConflict_6 (by decide) ?_
  refine pv_eq7 (tgt := 33) hx hb (hp.big hn (by omega)) dX1_isConflict_8 (by decide) (fun c_8 => ?_) (fun c_8 => ?_)
  · refine lv_iconst (v := (0)) hx hb dX1_isConflict_33 (by decide) ?_
    exact hret _ _ _ dX1_isConflict_34 (by simp [conf, c_8, b2i])
  · obtain ⟨u, hu⟩ := ex_some c_8
    have hun := hp.lt hv hu
    refine lv_aload_n hx hb dX1_isConflict_11 rfl (lv_at hl 0 rfl) ?_
    refine lv_aload_n hx hb dX1_isConflict_12 rfl (lv_at hl 0 rfl) ?_
    refine m_g2 hC hK hP dX1_isConflict_13 ?_
    refine lv_iload_n hx hb dX1_isConflict_16 rfl (lv_at hl 1 rfl) ?_
    refine m_ld2 hx hb hK hP (by omega) dX1_isConflict_17 ?_
    refine tI ((nI (u))) (by rw [hu]; rfl) ?_
    refine roV (As := [.int (nI (u))]) hC kX1_46 (cM_col u (by omega) (by omega)) hK hP (m_rec hK hP) rfl rfl hl ⟨Nat.le_of_ble_eq_true rfl, Nat.le_of_ble_eq_true rfl⟩ (Nat.le_of_ble_eq_true rfl) dX1_isConflict_18 ⟨Nat.le_of_ble_eq_true rfl, Nat.le_of_ble_eq_true rfl⟩ ?_
    refine lv_aload_n hx hb dX1_isConflict_21 rfl (lv_at hl 0 rfl) ?_
    refine lv_iload_n hx hb dX1_isConflict_22 rfl (lv_at hl 1 rfl) ?_
    refine roV (As := [.int (nI (v))]) hC kX1_46 (cM_col v (by omega) (by omega)) hK hP (m_rec hK hP) rfl rfl hl ⟨Nat.le_of_ble_eq_true rfl, Nat.le_of_ble_eq_true rfl⟩ (Nat.le_of_ble_eq_true rfl) dX1_isConflict_23 ⟨Nat.le_of_ble_eq_true rfl, Nat.le_of_ble_eq_true rfl⟩ ?_
    refine lv_icmp_ne (tgt := 33) hx hb dX1_isConflict_26 (by decide) (fun c_26 => ?_) (fun c_26 => ?_)
    · refine lv_iconst (v := (0)) hx hb dX1_isConflict_33 (by decide) ?_
      exact hret _ _ _ dX1_isConflict_34 (by rw [cf_n hu (fun e => c_26 e.symm)]; rfl)
    · refine lv_iconst (v := (1)) hx hb dX1_isConflict_29 (by decide) ?_
      refine lv_goto (tgt := 34) hx hb dX1_isConflict_30 (by decide) ?_
      exact hret _ _ _ dX1_isConflict_34 (by rw [cf_y hu c_26.symm]; rfl)
set_option maxRecDepth 100000 in
set_option maxHeartbeats 4000000 in
theorem cM_conflicts {l : Launch} {E : EE} {b : Nat → Nat} {n : Nat} {ids : Nat → Int32} {par : Nat → Option Nat} {cols : Nat → Int32} {rd : Nat} {nx : Nat → Int32} {isin : Nat → Bool} {wi wo : Nat → Nat} {wf : Nat → Option Nat}  (hn : n ≤ 24)(hp : PW n par)(hrd : rd < 100000) : RO l E (MP E b n ids par cols rd nx isin wi wo wf) yX1_conflicts cX1_conflicts 3 (some .int) 2 42 [.ref (b 0)] (nI (fb_ct (conf par (mcol cols rd)) n)) := by
  refine RO.mk (C := RX1) rfl rfl (by decide) rfl (Nat.le_of_ble_eq_true rfl) ?_
  intro p e s m args below meth c H Q hC hK hP hret ls hl
  obtain ⟨hx, hb, hml, hown, hts⟩ := id hC
  have hl : lv_has ls 3 [(0, .ref (b 0))] := hl
  refine lv_iconst (v := (nI (0))) hx hb dX1_conflicts_0 (by decide) ?_
  refine lv_istore_n (lv' := [(1, .int (nI (0))), (0, .ref (b 0))]) hx hb dX1_conflicts_1 rfl hl (by decide) rfl (fun ls hl => ?_)
  refine lv_iconst (v := (nI (0))) hx hb dX1_conflicts_2 (by decide) ?_
  refine lv_istore_n (lv' := [(2, .int (nI (0))), (1, .int (nI (0))), (0, .ref (b 0))]) hx hb dX1_conflicts_3 rfl hl (by decide) rfl (fun ls hl => ?_)
  have loop_4 : ∀ (fuel : Nat) (k : Nat), (k ≤ n) → n - k < fuel → ∀ (ls : Array Slot), lv_has ls 3 [(0, .ref (b 0)), (1, .int (nI (fb_ct (conf par (mcol cols rd)) k))), (2, .int (nI (k)))] → W p l e (k2_rm 2 42) s m args below meth c H [] 0 0 Q (F0 m 4 ls []) := by
    intro fuel
    induction fuel with
    | zero => intro k hk hm; exact absurd hm (Nat.not_lt_zero _)
    | succ fuel ih_4 =>
      intro k hk hm ls hl
      refine lv_iload_n hx hb dX1_conflicts_4 rfl (lv_at hl 2 rfl) ?_
      refine lv_aload_n hx hb dX1_conflicts_5 rfl (lv_at hl 0 rfl) ?_
      refine m_g0 hC hK hP dX1_conflicts_6 ?_
      refine nv_ge (tgt := 34) hx hb (by omega) (by omega) dX1_conflicts_9 (by decide) (fun c_9 => ?_) (fun c_9 => ?_)
      · refine lv_iload_n hx hb dX1_conflicts_34 rfl (lv_at hl 1 rfl) ?_
        exact hret _ _ _ dX1_conflicts_35 (by rw [show k = n by omega])
      · refine lv_iload_n hx hb dX1_conflicts_12 rfl (lv_at hl 1 rfl) ?_
        refine lv_aload_n hx hb dX1_conflicts_13 rfl (lv_at hl 0 rfl) ?_
        refine lv_iload_n hx hb dX1_conflicts_14 rfl (lv_at hl 2 rfl) ?_
        refine roV (As := [.int (nI (k))]) hC kX1_86 (cM_conf k hn hp (by omega) hrd) hK hP (m_rec hK hP) rfl rfl hl ⟨Nat.le_of_ble_eq_true rfl, Nat.le_of_ble_eq_true rfl⟩ (Nat.le_of_ble_eq_true rfl) dX1_conflicts_15 ⟨Nat.le_of_ble_eq_true rfl, Nat.le_of_ble_eq_true rfl⟩ ?_
        refine bv_eq (tgt := 25) hx hb dX1_conflicts_18 (by decide) (fun c_18 => ?_) (fun c_18 => ?_)
        · refine lv_iconst (v := (nI (0))) hx hb dX1_conflicts_25 (by decide) ?_
          refine lv_iadd hx hb dX1_conflicts_26 ?_
          refine tI (nI ((fb_ct (conf par (mcol cols rd)) k) + 0)) (nI_add _ _) ?_
          refine tI ((nI (fb_ct (conf par (mcol cols rd)) (k + 1)))) (by rw [fb_ct_f c_18]; rfl) ?_
          refine lv_istore_n (lv' := [(1, .int (nI (fb_ct (conf par (mcol cols rd)) (k + 1)))), (0, .ref (b 0)), (2, .int (nI (k)))]) hx hb dX1_conflicts_27 rfl hl (by decide) rfl (fun ls hl => ?_)
          refine lv_iinc (v := (nI (k + 1))) (lv' := [(2, .int (nI (k + 1))), (1, .int (nI (fb_ct (conf par (mcol cols rd)) (k + 1)))), (0, .ref (b 0))]) hx hb dX1_conflicts_28 hl (k := 2) rfl (nI_inc _) (by decide) rfl (fun ls hl => ?_)
          refine lv_goto (tgt := 4) hx hb dX1_conflicts_31 (by decide) ?_
          exact ih_4 (k + 1) (by omega) (by omega) ls (lv_sub hl [2, 1, 0] rfl)
        · refine lv_iconst (v := (nI (1))) hx hb dX1_conflicts_21 (by decide) ?_
          refine lv_goto (tgt := 26) hx hb dX1_conflicts_22 (by decide) ?_
          refine lv_iadd hx hb dX1_conflicts_26 ?_
          refine tI (nI ((fb_ct (conf par (mcol cols rd)) k) + 1)) (nI_add _ _) ?_
          refine tI ((nI (fb_ct (conf par (mcol cols rd)) (k + 1)))) (by rw [fb_ct_t c_18]) ?_
          refine lv_istore_n (lv' := [(1, .int (nI (fb_ct (conf par (mcol cols rd)) (k + 1)))), (0, .ref (b 0)), (2, .int (nI (k)))]) hx hb dX1_conflicts_27 rfl hl (by decide) rfl (fun ls hl => ?_)
          refine lv_iinc (v := (nI (k + 1))) (lv' := [(2, .int (nI (k + 1))), (1, .int (nI (fb_ct (conf par (mcol cols rd)) (k + 1)))), (0, .ref (b 0))]) hx hb dX1_conflicts_28 hl (k := 2) rfl (nI_inc _) (by decide) rfl (fun ls hl => ?_)
          refine lv_goto (tgt := 4) hx hb dX1_conflicts_31 (by decide) ?_
          exact ih_4 (k + 1) (by omega) (by omega) ls (lv_sub hl [2, 1, 0] rfl)
  exact loop_4 (n - 0 + 1) 0 (Nat.zero_le _) (Nat.lt_succ_self _) ls (lv_sub hl [2, 1, 0] rfl)
set_option maxRecDepth 100000 in
set_option maxHeartbeats 4000000 in
theorem cM_conflictCount {l : Launch} {E : EE} {b : Nat → Nat} {n : Nat} {ids : Nat → Int32} {par : Nat → Option Nat} {cols : Nat → Int32} {rd : Nat} {nx : Nat → Int32} {isin : Nat → Bool} {wi wo : Nat → Nat} {wf : Nat → Option Nat}  (hn : n ≤ 24)(hp : PW n par)(hrd : rd < 100000) : RO l E (MP E b n ids par cols rd nx isin wi wo wf) yX1_conflictCount cX1_conflictCount 1 (some .int) 3 64 [.ref (b 0)] (nI (fb_ct (conf par (mcol cols rd)) n)) := by
  refine RO.mk (C := RX1) rfl rfl (by decide) rfl (Nat.le_of_ble_eq_true rfl) ?_
  intro p e s m args below meth c H Q hC hK hP hret ls hl
  obtain ⟨hx, hb, hml, hown, hts⟩ := id hC
  have hl : lv_has ls 1 [(0, .ref (b 0))] := hl
  refine lv_aload_n hx hb dX1_conflictCount_0 rfl (lv_at hl 0 rfl) ?_
  refine roV (As := []) hC kX1_89 (cM_conflicts  hn hp hrd) hK hP (m_rec hK hP) rfl rfl hl ⟨Nat.le_of_ble_eq_true rfl, Nat.le_of_ble_eq_true rfl⟩ (Nat.le_of_ble_eq_true rfl) dX1_conflictCount_1 ⟨Nat.le_of_ble_eq_true rfl, Nat.le_of_ble_eq_true rfl⟩ ?_
  exact hret _ _ _ dX1_conflictCount_4 (by first | rfl | omega | simp_all)
set_option maxRecDepth 100000 in
set_option maxHeartbeats 4000000 in
theorem cM_bitOf {l : Launch} {E : EE} {b : Nat → Nat} {n : Nat} {ids : Nat → Int32} {par : Nat → Option Nat} {cols : Nat → Int32} {rd : Nat} {nx : Nat → Int32} {isin : Nat → Bool} {wi wo : Nat → Nat} {wf : Nat → Option Nat} (v : Nat) (hn : n ≤ 24)(hp : PW n par)(hv : v < n)(hrd : rd < 100000)(hc : conf par (mcol cols rd) v = false) : RO l E (MP E b n ids par cols rd nx isin wi wo wf) yX1_bitOf cX1_bitOf 4 (some .int) 1 21 [.ref (b 0), .int (nI (v))] (rbit par (mcol cols rd) v) := by
  refine RO.mk (C := RX1) rfl rfl (by decide) rfl (Nat.le_of_ble_eq_true rfl) ?_
  intro p e s m args below meth c H Q hC hK hP hret ls hl
  obtain ⟨hx, hb, hml, hown, hts⟩ := id hC
  have hl : lv_has ls 4 [(0, .ref (b 0)), (1, .int (nI (v)))] := hl
  refine lv_aload_n hx hb dX1_bitOf_0 rfl (lv_at hl 0 rfl) ?_
  refine m_g2 hC hK hP dX1_bitOf_1 ?_
  refine lv_iload_n hx hb dX1_bitOf_4 rfl (lv_at hl 1 rfl) ?_
  refine m_ld2 hx hb hK hP (by omega) dX1_bitOf_5 ?_
  refine lv_bipush (v := (-7)) hx hb dX1_bitOf_6 (by decide) ?_
  refine pv_ne7 (tgt := 13) hx hb (hp.big hn (by omega)) dX1_bitOf_8 (by decide) (fun c_8 => ?_) (fun c_8 => ?_)
  · obtain ⟨u, hu⟩ := ex_some c_8
    have hun := hp.lt hv hu
    obtain ⟨hb1, hb2, hb3, hb4⟩ := rbit_some (n := n) hu hc
    refine lv_aload_n hx hb dX1_bitOf_13 rfl (lv_at hl 0 rfl) ?_
    refine lv_iload_n hx hb dX1_bitOf_14 rfl (lv_at hl 1 rfl) ?_
    refine roV (As := [.int (nI (v))]) hC kX1_46 (cM_col v (by omega) (by omega)) hK hP (m_rec hK hP) rfl rfl hl ⟨Nat.le_of_ble_eq_true rfl, Nat.le_of_ble_eq_true rfl⟩ (Nat.le_of_ble_eq_true rfl) dX1_bitOf_15 ⟨Nat.le_of_ble_eq_true rfl, Nat.le_of_ble_eq_true rfl⟩ ?_
    refine lv_aload_n hx hb dX1_bitOf_18 rfl (lv_at hl 0 rfl) ?_
    refine lv_aload_n hx hb dX1_bitOf_19 rfl (lv_at hl 0 rfl) ?_
    refine m_g2 hC hK hP dX1_bitOf_20 ?_
    refine lv_iload_n hx hb dX1_bitOf_23 rfl (lv_at hl 1 rfl) ?_
    refine m_ld2 hx hb hK hP (by omega) dX1_bitOf_24 ?_
    refine tI ((nI (u))) (by rw [hu]; rfl) ?_
    refine roV (As := [.int (nI (u))]) hC kX1_46 (cM_col u (by omega) (by omega)) hK hP (m_rec hK hP) rfl rfl hl ⟨Nat.le_of_ble_eq_true rfl, Nat.le_of_ble_eq_true rfl⟩ (Nat.le_of_ble_eq_true rfl) dX1_bitOf_25 ⟨Nat.le_of_ble_eq_true rfl, Nat.le_of_ble_eq_true rfl⟩ ?_
    refine lv_ixor hx hb dX1_bitOf_28 ?_
    refine lv_istore_n (lv' := [(2, .int (((mcol cols rd v)) ^^^ ((mcol cols rd u)))), (0, .ref (b 0)), (1, .int (nI (v)))]) hx hb dX1_bitOf_29 rfl hl (by decide) rfl (fun ls hl => ?_)
    refine lv_iconst (v := (nI (0))) hx hb dX1_bitOf_30 (by decide) ?_
    refine lv_istore_n (lv' := [(3, .int (nI (0))), (2, .int (((mcol cols rd v)) ^^^ ((mcol cols rd u)))), (0, .ref (b 0)), (1, .int (nI (v)))]) hx hb dX1_bitOf_31 rfl hl (by decide) rfl (fun ls hl => ?_)
    have loop_32 : ∀ (fuel : Nat) (k : Nat), (k ≤ lowb (mcol cols rd v ^^^ mcol cols rd u)) → 32 - k < fuel → ∀ (ls : Array Slot), lv_has ls 4 [(0, .ref (b 0)), (1, .int (nI (v))), (2, .int (((mcol cols rd v)) ^^^ ((mcol cols rd u)))), (3, .int (nI (k)))] → W p l e (k2_rm 1 21) s m args below meth c H [] 0 0 Q (F0 m 32 ls []) := by
      intro fuel
      induction fuel with
      | zero => intro k hk hm; exact absurd hm (Nat.not_lt_zero _)
      | succ fuel ih_32 =>
        intro k hk hm ls hl
        refine lv_iload_n hx hb dX1_bitOf_32 rfl (lv_at hl 2 rfl) ?_
        refine lv_iload_n hx hb dX1_bitOf_33 rfl (lv_at hl 3 rfl) ?_
        refine lv_ishr hx hb dX1_bitOf_34 ?_
        refine lv_iconst (v := (1)) hx hb dX1_bitOf_35 (by decide) ?_
        refine lv_iand hx hb dX1_bitOf_36 ?_
        refine tI ((b2i (bt (mcol cols rd v ^^^ mcol cols rd u) k))) (sh_bit (by omega) _) ?_
        refine bv_ne (tgt := 46) hx hb dX1_bitOf_37 (by decide) (fun c_37 => ?_) (fun c_37 => ?_)
        · refine lv_iload_n hx hb dX1_bitOf_46 rfl (lv_at hl 3 rfl) ?_
          exact hret _ _ _ dX1_bitOf_47 (bit_done hb1 hk hb4 c_37)
        · refine lv_iinc (v := (nI (k + 1))) (lv' := [(3, .int (nI (k + 1))), (0, .ref (b 0)), (1, .int (nI (v))), (2, .int (((mcol cols rd v)) ^^^ ((mcol cols rd u))))]) hx hb dX1_bitOf_40 hl (k := 3) rfl (nI_inc _) (by decide) rfl (fun ls hl => ?_)
          refine lv_goto (tgt := 32) hx hb dX1_bitOf_43 (by decide) ?_
          exact ih_32 (k + 1) (Nat.lt_of_le_of_ne hk (fun e => by rw [e, hb3] at c_37; cases c_37)) (by omega) ls (lv_sub hl [1, 2, 3, 0] rfl)
    exact loop_32 (32 - 0 + 1) 0 (Nat.zero_le _) (Nat.lt_succ_self _) ls (lv_sub hl [2, 3, 1, 0] rfl)
  · refine lv_iconst (v := (0)) hx hb dX1_bitOf_11 (by decide) ?_
    exact hret _ _ _ dX1_bitOf_12 (by rw [rbit, c_8])
set_option maxRecDepth 100000 in
set_option maxHeartbeats 4000000 in
theorem cM_differing {l : Launch} {E : EE} {b : Nat → Nat} {n : Nat} {ids : Nat → Int32} {par : Nat → Option Nat} {cols : Nat → Int32} {rd : Nat} {nx : Nat → Int32} {isin : Nat → Bool} {wi wo : Nat → Nat} {wf : Nat → Option Nat} (x : Int32) (hn : n ≤ 24)(hp : PW n par)(hrd : rd < 100000) : RO l E (MP E b n ids par cols rd nx isin wi wo wf) yX1_differingBit cX1_differingBit 2 (some .int) 2 44 [.ref (b 0), .int (x)] (oN (vN n x) (fun v => if conf par (mcol cols rd) v = true then -5 else rbit par (mcol cols rd) v)) := by
  refine RO.mk (C := RX1) rfl rfl (by decide) rfl (Nat.le_of_ble_eq_true rfl) ?_
  intro p e s m args below meth c H Q hC hK hP hret ls hl
  obtain ⟨hx, hb, hml, hown, hts⟩ := id hC
  have hl : lv_has ls 2 [(0, .ref (b 0)), (1, .int (x))] := hl
  refine lv_aload_n hx hb dX1_differingBit_0 rfl (lv_at hl 0 rfl) ?_
  refine lv_iload_n hx hb dX1_differingBit_1 rfl (lv_at hl 1 rfl) ?_
  refine roV (As := [.int (x)]) hC kX1_58 (cM_isNode ((x)) hn) hK hP (m_rec hK hP) rfl rfl hl ⟨Nat.le_of_ble_eq_true rfl, Nat.le_of_ble_eq_true rfl⟩ (Nat.le_of_ble_eq_true rfl) dX1_differingBit_2 ⟨Nat.le_of_ble_eq_true rfl, Nat.le_of_ble_eq_true rfl⟩ ?_
  refine bv_ne (tgt := 10) hx hb dX1_differingBit_5 (by decide) (fun c_5 => ?_) (fun c_5 => ?_)
  · obtain ⟨v, hv, rfl⟩ := vN_t hn c_5
    refine lv_aload_n hx hb dX1_differingBit_10 rfl (lv_at hl 0 rfl) ?_
    refine lv_iload_n hx hb dX1_differingBit_11 rfl (lv_at hl 1 rfl) ?_
    refine roV (As := [.int (nI (v))]) hC kX1_86 (cM_conf v hn hp (by omega) hrd) hK hP (m_rec hK hP) rfl rfl hl ⟨Nat.le_of_ble_eq_true rfl, Nat.le_of_ble_eq_true rfl⟩ (Nat.le_of_ble_eq_true rfl) dX1_differingBit_12 ⟨Nat.le_of_ble_eq_true rfl, Nat.le_of_ble_eq_true rfl⟩ ?_
    refine bv_eq (tgt := 23) hx hb dX1_differingBit_15 (by decide) (fun c_15 => ?_) (fun c_15 => ?_)
    · refine lv_aload_n hx hb dX1_differingBit_23 rfl (lv_at hl 0 rfl) ?_
      refine lv_iload_n hx hb dX1_differingBit_24 rfl (lv_at hl 1 rfl) ?_
      refine roV (As := [.int (nI (v))]) hC kX1_92 (cM_bitOf v hn hp hv hrd c_15) hK hP (m_rec hK hP) rfl rfl hl ⟨Nat.le_of_ble_eq_true rfl, Nat.le_of_ble_eq_true rfl⟩ (Nat.le_of_ble_eq_true rfl) dX1_differingBit_25 ⟨Nat.le_of_ble_eq_true rfl, Nat.le_of_ble_eq_true rfl⟩ ?_
      exact hret _ _ _ dX1_differingBit_28 (by rw [oN_in hn hv, if_neg (by rw [c_15]; simp)])
    · refine lv_bipush (v := (-5)) hx hb dX1_differingBit_18 (by decide) ?_
      refine lv_goto (tgt := 28) hx hb dX1_differingBit_20 (by decide) ?_
      exact hret _ _ _ dX1_differingBit_28 (by rw [oN_in hn hv, if_pos c_15])
  · refine lv_iconst (v := (-1)) hx hb dX1_differingBit_8 (by decide) ?_
    exact hret _ _ _ dX1_differingBit_9 ((oN_out c_5 _).symm)
set_option maxRecDepth 100000 in
set_option maxHeartbeats 4000000 in
theorem cM_ends {l : Launch} {E : EE} {b : Nat → Nat} {n : Nat} {ids : Nat → Int32} {par : Nat → Option Nat} {cols : Nat → Int32} {rd : Nat} {nx : Nat → Int32} {isin : Nat → Bool} {wi wo : Nat → Nat} {wf : Nat → Option Nat}  (hI : inj 9 b)(hn : n ≤ 24)(hrd : rd < 100000) : WR l E (MP E b n ids par cols rd nx isin wi wo wf) (AM b) yX1_ends cX1_ends 2 none 1 22 [.ref (b 0)] none (MP E b n ids par (fb_put cols nx (24 * ((rd + 1) % 17)) n) (rd + 1) nx isin wi wo wf) := by
  refine WR.mkV (C := RX1) rfl (by decide) rfl (Nat.le_of_ble_eq_true rfl) ?_
  intro p e s m args below meth c H0 Q hC hK hP hret ls hl
  obtain ⟨hx, hb, hml, hown, hts⟩ := id hC
  have hl : lv_has ls 2 [(0, .ref (b 0))] := hl
  have hS : va_S (AM b) H0 H0 [] := va_S.rf
  have hP : MP E b n ids par cols rd nx isin wi wo wf H0 := hP
  refine lv_aload_n hx hb dX1_ends_0 rfl (lv_at hl 0 rfl) ?_
  refine lv_dup hx hb dX1_ends_1 rfl ?_
  refine m_g4 hC hK hP dX1_ends_2 ?_
  refine lv_iconst (v := (1)) hx hb dX1_ends_5 (by decide) ?_
  refine lv_iadd hx hb dX1_ends_6 ?_
  refine tI (nI (rd + 1)) (nI_1 _) ?_
  refine m_p4 hC hK hI hP hS dX1_ends_7 (fun H locs hP hS => ?_)
  refine lv_iconst (v := (nI (0))) hx hb dX1_ends_10 (by decide) ?_
  refine lv_istore_n (lv' := [(1, .int (nI (0))), (0, .ref (b 0))]) hx hb dX1_ends_11 rfl hl (by decide) rfl (fun ls hl => ?_)
  have loop_12 : ∀ (fuel : Nat) (k : Nat), (k ≤ n) → n - k < fuel → ∀ (H : Heap) (locs : List Loc), MP E b n ids par (fb_put cols nx (24 * ((rd + 1) % 17)) k) (rd + 1) nx isin wi wo wf H → va_S (AM b) H0 H locs → ∀ (ls : Array Slot), lv_has ls 2 [(0, .ref (b 0)), (1, .int (nI (k)))] → W p l e (k2_rm 1 22) s m args below meth c H locs 0 0 Q (F0 m 12 ls []) := by
    intro fuel
    induction fuel with
    | zero => intro k hk hm; exact absurd hm (Nat.not_lt_zero _)
    | succ fuel ih_12 =>
      intro k hk hm H locs hP hS ls hl
      refine lv_iload_n hx hb dX1_ends_12 rfl (lv_at hl 1 rfl) ?_
      refine lv_aload_n hx hb dX1_ends_13 rfl (lv_at hl 0 rfl) ?_
      refine m_g0 hC hK hP dX1_ends_14 ?_
      refine nv_ge (tgt := 37) hx hb (by omega) (by omega) dX1_ends_17 (by decide) (fun c_17 => ?_) (fun c_17 => ?_)
      · exact hret _ _ _ _ (by rw [show k = n by omega] at hP; exact hP) hS dX1_ends_37
      · refine lv_aload_n hx hb dX1_ends_20 rfl (lv_at hl 0 rfl) ?_
        refine lv_iload_n hx hb dX1_ends_21 rfl (lv_at hl 1 rfl) ?_
        refine lv_aload_n hx hb dX1_ends_22 rfl (lv_at hl 0 rfl) ?_
        refine m_g5 hC hK hP dX1_ends_23 ?_
        refine lv_iload_n hx hb dX1_ends_26 rfl (lv_at hl 1 rfl) ?_
        refine m_ld4 hx hb hK hP (by omega) dX1_ends_27 ?_
        refine wrV (As := [.int (nI (k)), .int (nx k)]) hC kX1_54 (cM_paints k ((nx k)) hI (by omega) (by omega)) hK hP (m_rec hK hP) hS (fun _ h => h) rfl rfl hl ⟨Nat.le_of_ble_eq_true rfl, Nat.le_of_ble_eq_true rfl⟩ (Nat.le_of_ble_eq_true rfl) dX1_ends_28 ⟨Nat.le_of_ble_eq_true rfl, Nat.le_of_ble_eq_true rfl⟩ (fun H locs hP hS _ _ => ?_)
        refine lv_iinc (v := (nI (k + 1))) (lv' := [(1, .int (nI (k + 1))), (0, .ref (b 0))]) hx hb dX1_ends_31 hl (k := 1) rfl (nI_inc _) (by decide) rfl (fun ls hl => ?_)
        refine lv_goto (tgt := 12) hx hb dX1_ends_34 (by decide) ?_
        exact ih_12 (k + 1) (by omega) (by omega) _ _ (by rw [mset_s] at hP; exact hP) hS ls (lv_sub hl [1, 0] rfl)
  exact loop_12 (n - 0 + 1) 0 (Nat.zero_le _) (Nat.lt_succ_self _) _ _ (by rw [fb_put_0]; exact hP) hS ls (lv_sub hl [1, 0] rfl)
set_option maxRecDepth 100000 in
set_option maxHeartbeats 4000000 in
theorem cM_reduces {l : Launch} {E : EE} {b : Nat → Nat} {n : Nat} {ids : Nat → Int32} {par : Nat → Option Nat} {cols : Nat → Int32} {rd : Nat} {nx : Nat → Int32} {isin : Nat → Bool} {wi wo : Nat → Nat} {wf : Nat → Option Nat}  (hI : inj 9 b)(hn : n ≤ 24)(hp : PW n par)(hrd : rd < 100000)(hpb : propB n par (mcol cols rd) = true) : WR l E (MP E b n ids par cols rd nx isin wi wo wf) (AM b) yX1_reduces cX1_reduces 3 none 2 44 [.ref (b 0)] none (MP E b n ids par ((mredS par n (cols, nx, rd)).1) ((mredS par n (cols, nx, rd)).2.2) ((mredS par n (cols, nx, rd)).2.1) isin wi wo wf) := by
  refine WR.mkV (C := RX1) rfl (by decide) rfl (Nat.le_of_ble_eq_true rfl) ?_
  intro p e s m args below meth c H0 Q hC hK hP hret ls hl
  obtain ⟨hx, hb, hml, hown, hts⟩ := id hC
  have hl : lv_has ls 3 [(0, .ref (b 0))] := hl
  have hS : va_S (AM b) H0 H0 [] := va_S.rf
  have hP : MP E b n ids par cols rd nx isin wi wo wf H0 := hP
  refine lv_iconst (v := (nI (0))) hx hb dX1_reduces_0 (by decide) ?_
  refine lv_istore_n (lv' := [(1, .int (nI (0))), (0, .ref (b 0))]) hx hb dX1_reduces_1 rfl hl (by decide) rfl (fun ls hl => ?_)
  have loop_2 : ∀ (fuel : Nat) (k : Nat), (k ≤ n) → n - k < fuel → ∀ (H : Heap) (locs : List Loc), MP E b n ids par cols rd (pF nx (redC par (mcol cols rd)) k) isin wi wo wf H → va_S (AM b) H0 H locs → ∀ (ls : Array Slot), lv_has ls 3 [(0, .ref (b 0)), (1, .int (nI (k)))] → W p l e (k2_rm 2 44) s m args below meth c H locs 0 0 Q (F0 m 2 ls []) := by
    intro fuel
    induction fuel with
    | zero => intro k hk hm; exact absurd hm (Nat.not_lt_zero _)
    | succ fuel ih_2 =>
      intro k hk hm H locs hP hS ls hl
      refine lv_iload_n hx hb dX1_reduces_2 rfl (lv_at hl 1 rfl) ?_
      refine lv_aload_n hx hb dX1_reduces_3 rfl (lv_at hl 0 rfl) ?_
      refine m_g0 hC hK hP dX1_reduces_4 ?_
      refine nv_ge (tgt := 41) hx hb (by omega) (by omega) dX1_reduces_7 (by decide) (fun c_7 => ?_) (fun c_7 => ?_)
      · have hkn : k = n := by omega
        rw [hkn] at hP
        refine lv_aload_n hx hb dX1_reduces_41 rfl (lv_at hl 0 rfl) ?_
        refine wrV (As := []) hC kX1_95 (cM_ends  hI hn hrd) hK hP (m_rec hK hP) hS (fun _ h => h) rfl rfl hl ⟨Nat.le_of_ble_eq_true rfl, Nat.le_of_ble_eq_true rfl⟩ (Nat.le_of_ble_eq_true rfl) dX1_reduces_42 ⟨Nat.le_of_ble_eq_true rfl, Nat.le_of_ble_eq_true rfl⟩ (fun H locs hP hS _ _ => ?_)
        exact hret _ _ _ _ (hP) hS dX1_reduces_45
      · refine lv_aload_n hx hb dX1_reduces_10 rfl (lv_at hl 0 rfl) ?_
        refine lv_iload_n hx hb dX1_reduces_11 rfl (lv_at hl 1 rfl) ?_
        refine roV (As := [.int (nI (k))]) hC kX1_92 (cM_bitOf k hn hp (by omega) hrd (prop_conf hpb (by omega))) hK hP (m_rec hK hP) rfl rfl hl ⟨Nat.le_of_ble_eq_true rfl, Nat.le_of_ble_eq_true rfl⟩ (Nat.le_of_ble_eq_true rfl) dX1_reduces_12 ⟨Nat.le_of_ble_eq_true rfl, Nat.le_of_ble_eq_true rfl⟩ ?_
        refine lv_istore_n (lv' := [(2, .int (rbit par (mcol cols rd) k)), (0, .ref (b 0)), (1, .int (nI (k)))]) hx hb dX1_reduces_15 rfl hl (by decide) rfl (fun ls hl => ?_)
        refine lv_aload_n hx hb dX1_reduces_16 rfl (lv_at hl 1 rfl) ?_
        refine m_g5 hC hK hP dX1_reduces_17 ?_
        refine lv_iload_n hx hb dX1_reduces_20 rfl (lv_at hl 2 rfl) ?_
        refine lv_iconst (v := (2)) hx hb dX1_reduces_21 (by decide) ?_
        refine lv_iload_n hx hb dX1_reduces_22 rfl (lv_at hl 0 rfl) ?_
        refine lv_imul hx hb dX1_reduces_23 ?_
        refine lv_aload_n hx hb dX1_reduces_24 rfl (lv_at hl 1 rfl) ?_
        refine lv_iload_n hx hb dX1_reduces_25 rfl (lv_at hl 2 rfl) ?_
        refine roV (As := [.int (nI (k))]) hC kX1_46 (cM_col k (by omega) (by omega)) hK hP (m_rec hK hP) rfl rfl hl ⟨Nat.le_of_ble_eq_true rfl, Nat.le_of_ble_eq_true rfl⟩ (Nat.le_of_ble_eq_true rfl) dX1_reduces_26 ⟨Nat.le_of_ble_eq_true rfl, Nat.le_of_ble_eq_true rfl⟩ ?_
        refine lv_iload_n hx hb dX1_reduces_29 rfl (lv_at hl 0 rfl) ?_
        refine lv_ishr hx hb dX1_reduces_30 ?_
        refine lv_iconst (v := (1)) hx hb dX1_reduces_31 (by decide) ?_
        refine lv_iand hx hb dX1_reduces_32 ?_
        refine lv_iadd hx hb dX1_reduces_33 ?_
        refine tI ((redC par (mcol cols rd) k)) (rfl) ?_
        refine m_st4 (x := (redC par (mcol cols rd) k)) hx hb hK hI hP hS (by omega) dX1_reduces_34 (fun H locs hP hS => ?_)
        refine lv_iinc (v := (nI (k + 1))) (lv' := [(1, .int (nI (k + 1))), (2, .int (rbit par (mcol cols rd) k)), (0, .ref (b 0))]) hx hb dX1_reduces_35 hl (k := 2) rfl (nI_inc _) (by decide) rfl (fun ls hl => ?_)
        refine lv_goto (tgt := 2) hx hb dX1_reduces_38 (by decide) ?_
        exact ih_2 (k + 1) (by omega) (by omega) _ _ (by rw [pF_s] at hP; exact hP) hS ls (lv_sub hl [2, 0] rfl)
  exact loop_2 (n - 0 + 1) 0 (Nat.zero_le _) (Nat.lt_succ_self _) _ _ (by rw [pF_0]; exact hP) hS ls (lv_sub hl [1, 0] rfl)
set_option maxRecDepth 100000 in
set_option maxHeartbeats 4000000 in
theorem cM_reduce {l : Launch} {E : EE} {b : Nat → Nat} {n : Nat} {ids : Nat → Int32} {par : Nat → Option Nat} {cols : Nat → Int32} {rd : Nat} {nx : Nat → Int32} {isin : Nat → Bool} {wi wo : Nat → Nat} {wf : Nat → Option Nat}  (hI : inj 9 b)(hn : n ≤ 24)(hp : PW n par)(hrd : rd < 90000) : WR l E (MP E b n ids par cols rd nx isin wi wo wf) (AM b) yX1_reduce cX1_reduce 1 (some .int) 3 66 [.ref (b 0)] (some (.int (if propB n par (mcol cols rd) = true then mxF (mcol (mredS par n (cols, nx, rd)).1 (mredS par n (cols, nx, rd)).2.2) n else -5))) (MP E b n ids par (if propB n par (mcol cols rd) = true then (mredS par n (cols, nx, rd)).1 else cols) (if propB n par (mcol cols rd) = true then (mredS par n (cols, nx, rd)).2.2 else rd) (if propB n par (mcol cols rd) = true then (mredS par n (cols, nx, rd)).2.1 else nx) isin wi wo wf) := by
  refine WR.mkI (C := RX1) rfl rfl (by decide) rfl (Nat.le_of_ble_eq_true rfl) ?_
  intro p e s m args below meth c H0 Q hC hK hP hret ls hl
  obtain ⟨hx, hb, hml, hown, hts⟩ := id hC
  have hl : lv_has ls 1 [(0, .ref (b 0))] := hl
  have hS : va_S (AM b) H0 H0 [] := va_S.rf
  have hP : MP E b n ids par cols rd nx isin wi wo wf H0 := hP
  refine lv_aload_n hx hb dX1_reduce_0 rfl (lv_at hl 0 rfl) ?_
  refine roV (As := []) hC kX1_89 (cM_conflicts  hn hp (by omega)) hK hP (m_rec hK hP) rfl rfl hl ⟨Nat.le_of_ble_eq_true rfl, Nat.le_of_ble_eq_true rfl⟩ (Nat.le_of_ble_eq_true rfl) dX1_reduce_1 ⟨Nat.le_of_ble_eq_true rfl, Nat.le_of_ble_eq_true rfl⟩ ?_
  refine lv_if_le (tgt := 10) hx hb dX1_reduce_4 (by decide) (fun c_4 => ?_) (fun c_4 => ?_)
  · rw [prop_0 hn] at c_4
    refine lv_aload_n hx hb dX1_reduce_10 rfl (lv_at hl 0 rfl) ?_
    refine wrV (As := []) hC kX1_98 (cM_reduces  hI hn hp (by omega) c_4) hK hP (m_rec hK hP) hS (fun _ h => h) rfl rfl hl ⟨Nat.le_of_ble_eq_true rfl, Nat.le_of_ble_eq_true rfl⟩ (Nat.le_of_ble_eq_true rfl) dX1_reduce_11 ⟨Nat.le_of_ble_eq_true rfl, Nat.le_of_ble_eq_true rfl⟩ (fun H locs hP hS _ _ => ?_)
    refine lv_aload_n hx hb dX1_reduce_14 rfl (lv_at hl 0 rfl) ?_
    refine roV (As := []) hC kX1_82 (cM_greatest  hn (show rd + 1 < 100000 by omega)) hK hP (m_rec hK hP) rfl rfl hl ⟨Nat.le_of_ble_eq_true rfl, Nat.le_of_ble_eq_true rfl⟩ (Nat.le_of_ble_eq_true rfl) dX1_reduce_15 ⟨Nat.le_of_ble_eq_true rfl, Nat.le_of_ble_eq_true rfl⟩ ?_
    exact hret _ _ _ _ _ (by rw [if_pos c_4, if_pos c_4, if_pos c_4]; exact hP) hS dX1_reduce_18 (by rw [if_pos c_4]; rfl)
  · rw [prop_0 hn] at c_4
    refine lv_bipush (v := (-5)) hx hb dX1_reduce_7 (by decide) ?_
    exact hret _ _ _ _ _ (by rw [if_neg c_4, if_neg c_4, if_neg c_4]; exact hP) hS dX1_reduce_9 (by rw [if_neg c_4])
set_option maxRecDepth 100000 in
set_option maxHeartbeats 4000000 in
theorem cM_shift {l : Launch} {E : EE} {b : Nat → Nat} {n : Nat} {ids : Nat → Int32} {par : Nat → Option Nat} {cols : Nat → Int32} {rd : Nat} {nx : Nat → Int32} {isin : Nat → Bool} {wi wo : Nat → Nat} {wf : Nat → Option Nat}  (hI : inj 9 b)(hn : n ≤ 24)(hp : PW n par)(hrd : rd < 100000) : WR l E (MP E b n ids par cols rd nx isin wi wo wf) (AM b) yX1_shift cX1_shift 3 (some .int) 2 43 [.ref (b 0)] (some (.int (nI (shCnt par (mcol cols rd) n)))) (MP E b n ids par ((mshS par n (cols, nx, rd)).1) ((mshS par n (cols, nx, rd)).2.2) ((mshS par n (cols, nx, rd)).2.1) isin wi wo wf) := by
  refine WR.mkI (C := RX1) rfl rfl (by decide) rfl (Nat.le_of_ble_eq_true rfl) ?_
  intro p e s m args below meth c H0 Q hC hK hP hret ls hl
  obtain ⟨hx, hb, hml, hown, hts⟩ := id hC
  have hl : lv_has ls 3 [(0, .ref (b 0))] := hl
  have hS : va_S (AM b) H0 H0 [] := va_S.rf
  have hP : MP E b n ids par cols rd nx isin wi wo wf H0 := hP
  refine lv_iconst (v := (nI (0))) hx hb dX1_shift_0 (by decide) ?_
  refine lv_istore_n (lv' := [(1, .int (nI (0))), (0, .ref (b 0))]) hx hb dX1_shift_1 rfl hl (by decide) rfl (fun ls hl => ?_)
  refine lv_iconst (v := (nI (0))) hx hb dX1_shift_2 (by decide) ?_
  refine lv_istore_n (lv' := [(2, .int (nI (0))), (1, .int (nI (0))), (0, .ref (b 0))]) hx hb dX1_shift_3 rfl hl (by decide) rfl (fun ls hl => ?_)
  have loop_4 : ∀ (fuel : Nat) (k : Nat), (k ≤ n) → n - k < fuel → ∀ (H : Heap) (locs : List Loc), MP E b n ids par cols rd (pF nx (shc par (mcol cols rd)) k) isin wi wo wf H → va_S (AM b) H0 H locs → ∀ (ls : Array Slot), lv_has ls 3 [(0, .ref (b 0)), (1, .int (nI (fb_ct (fun j => !decide (shc par (mcol cols rd) j = mcol cols rd j)) k))), (2, .int (nI (k)))] → W p l e (k2_rm 2 43) s m args below meth c H locs 0 0 Q (F0 m 4 ls []) := by
    intro fuel
    induction fuel with
    | zero => intro k hk hm; exact absurd hm (Nat.not_lt_zero _)
    | succ fuel ih_4 =>
      intro k hk hm H locs hP hS ls hl
      refine lv_iload_n hx hb dX1_shift_4 rfl (lv_at hl 2 rfl) ?_
      refine lv_aload_n hx hb dX1_shift_5 rfl (lv_at hl 0 rfl) ?_
      refine m_g0 hC hK hP dX1_shift_6 ?_
      refine nv_ge (tgt := 83) hx hb (by omega) (by omega) dX1_shift_9 (by decide) (fun c_9 => ?_) (fun c_9 => ?_)
      · have hkn : k = n := by omega
        rw [hkn] at hP
        refine lv_aload_n hx hb dX1_shift_83 rfl (lv_at hl 0 rfl) ?_
        refine wrV (As := []) hC kX1_95 (cM_ends  hI hn hrd) hK hP (m_rec hK hP) hS (fun _ h => h) rfl rfl hl ⟨Nat.le_of_ble_eq_true rfl, Nat.le_of_ble_eq_true rfl⟩ (Nat.le_of_ble_eq_true rfl) dX1_shift_84 ⟨Nat.le_of_ble_eq_true rfl, Nat.le_of_ble_eq_true rfl⟩ (fun H locs hP hS _ _ => ?_)
        refine lv_iload_n hx hb dX1_shift_87 rfl (lv_at hl 1 rfl) ?_
        exact hret _ _ _ _ _ (hP) hS dX1_shift_88 (by rw [hkn]; rfl)
      · refine lv_aload_n hx hb dX1_shift_12 rfl (lv_at hl 0 rfl) ?_
        refine m_g5 hC hK hP dX1_shift_13 ?_
        refine lv_iload_n hx hb dX1_shift_16 rfl (lv_at hl 2 rfl) ?_
        refine lv_aload_n hx hb dX1_shift_17 rfl (lv_at hl 0 rfl) ?_
        refine m_g2 hC hK hP dX1_shift_18 ?_
        refine lv_iload_n hx hb dX1_shift_21 rfl (lv_at hl 2 rfl) ?_
        refine m_ld2 hx hb hK hP (by omega) dX1_shift_22 ?_
        refine lv_bipush (v := (-7)) hx hb dX1_shift_23 (by decide) ?_
        refine pv_ne7 (tgt := 44) hx hb (hp.big hn (by omega)) dX1_shift_25 (by decide) (fun c_25 => ?_) (fun c_25 => ?_)
        · obtain ⟨u, hu⟩ := ex_some c_25
          have hun := hp.lt (v := k) (by omega) hu
          refine lv_aload_n hx hb dX1_shift_44 rfl (lv_at hl 0 rfl) ?_
          refine lv_aload_n hx hb dX1_shift_45 rfl (lv_at hl 0 rfl) ?_
          refine m_g2 hC hK hP dX1_shift_46 ?_
          refine lv_iload_n hx hb dX1_shift_49 rfl (lv_at hl 2 rfl) ?_
          refine m_ld2 hx hb hK hP (by omega) dX1_shift_50 ?_
          refine tI ((nI (u))) (by rw [hu]; rfl) ?_
          refine roV (As := [.int (nI (u))]) hC kX1_46 (cM_col u (by omega) (by omega)) hK hP (m_rec hK hP) rfl rfl hl ⟨Nat.le_of_ble_eq_true rfl, Nat.le_of_ble_eq_true rfl⟩ (Nat.le_of_ble_eq_true rfl) dX1_shift_51 ⟨Nat.le_of_ble_eq_true rfl, Nat.le_of_ble_eq_true rfl⟩ ?_
          refine tI ((shc par (mcol cols rd) k)) (by simp [shc, hu]) ?_
          refine m_st4 (x := (shc par (mcol cols rd) k)) hx hb hK hI hP hS (by omega) dX1_shift_54 (fun H locs hP hS => ?_)
          have hP : MP E b n ids par cols rd (pF nx (shc par (mcol cols rd)) (k + 1)) isin wi wo wf H := by rw [pF_s] at hP; exact hP
          refine lv_iload_n hx hb dX1_shift_55 rfl (lv_at hl 1 rfl) ?_
          refine lv_aload_n hx hb dX1_shift_56 rfl (lv_at hl 0 rfl) ?_
          refine m_g5 hC hK hP dX1_shift_57 ?_
          refine lv_iload_n hx hb dX1_shift_60 rfl (lv_at hl 2 rfl) ?_
          refine m_ld4 hx hb hK hP (by omega) dX1_shift_61 ?_
          refine tI ((shc par (mcol cols rd) k)) (pF_at _ _ _) ?_
          refine lv_aload_n hx hb dX1_shift_62 rfl (lv_at hl 0 rfl) ?_
          refine lv_iload_n hx hb dX1_shift_63 rfl (lv_at hl 2 rfl) ?_
          refine roV (As := [.int (nI (k))]) hC kX1_46 (cM_col k (by omega) (by omega)) hK hP (m_rec hK hP) rfl rfl hl ⟨Nat.le_of_ble_eq_true rfl, Nat.le_of_ble_eq_true rfl⟩ (Nat.le_of_ble_eq_true rfl) dX1_shift_64 ⟨Nat.le_of_ble_eq_true rfl, Nat.le_of_ble_eq_true rfl⟩ ?_
          refine lv_icmp_ne (tgt := 74) hx hb dX1_shift_67 (by decide) (fun c_67 => ?_) (fun c_67 => ?_)
          · refine lv_iconst (v := (nI (1))) hx hb dX1_shift_74 (by decide) ?_
            refine lv_iadd hx hb dX1_shift_75 ?_
            refine tI (nI ((fb_ct (fun j => !decide (shc par (mcol cols rd) j = mcol cols rd j)) k) + 1)) (nI_add _ _) ?_
            refine tI ((nI (fb_ct (fun j => !decide (shc par (mcol cols rd) j = mcol cols rd j)) (k + 1)))) (by rw [fb_ct_t (by simp [c_67])]) ?_
            refine lv_istore_n (lv' := [(1, .int (nI (fb_ct (fun j => !decide (shc par (mcol cols rd) j = mcol cols rd j)) (k + 1)))), (0, .ref (b 0)), (2, .int (nI (k)))]) hx hb dX1_shift_76 rfl hl (by decide) rfl (fun ls hl => ?_)
            refine lv_iinc (v := (nI (k + 1))) (lv' := [(2, .int (nI (k + 1))), (1, .int (nI (fb_ct (fun j => !decide (shc par (mcol cols rd) j = mcol cols rd j)) (k + 1)))), (0, .ref (b 0))]) hx hb dX1_shift_77 hl (k := 2) rfl (nI_inc _) (by decide) rfl (fun ls hl => ?_)
            refine lv_goto (tgt := 4) hx hb dX1_shift_80 (by decide) ?_
            exact ih_4 (k + 1) (by omega) (by omega) _ _ (hP) hS ls (lv_sub hl [2, 1, 0] rfl)
          · refine lv_iconst (v := (nI (0))) hx hb dX1_shift_70 (by decide) ?_
            refine lv_goto (tgt := 75) hx hb dX1_shift_71 (by decide) ?_
            refine lv_iadd hx hb dX1_shift_75 ?_
            refine tI (nI ((fb_ct (fun j => !decide (shc par (mcol cols rd) j = mcol cols rd j)) k) + 0)) (nI_add _ _) ?_
            refine tI ((nI (fb_ct (fun j => !decide (shc par (mcol cols rd) j = mcol cols rd j)) (k + 1)))) (by rw [fb_ct_f (by simp [c_67])]; rfl) ?_
            refine lv_istore_n (lv' := [(1, .int (nI (fb_ct (fun j => !decide (shc par (mcol cols rd) j = mcol cols rd j)) (k + 1)))), (0, .ref (b 0)), (2, .int (nI (k)))]) hx hb dX1_shift_76 rfl hl (by decide) rfl (fun ls hl => ?_)
            refine lv_iinc (v := (nI (k + 1))) (lv' := [(2, .int (nI (k + 1))), (1, .int (nI (fb_ct (fun j => !decide (shc par (mcol cols rd) j = mcol cols rd j)) (k + 1)))), (0, .ref (b 0))]) hx hb dX1_shift_77 hl (k := 2) rfl (nI_inc _) (by decide) rfl (fun ls hl => ?_)
            refine lv_goto (tgt := 4) hx hb dX1_shift_80 (by decide) ?_
            exact ih_4 (k + 1) (by omega) (by omega) _ _ (hP) hS ls (lv_sub hl [2, 1, 0] rfl)
        · refine lv_aload_n hx hb dX1_shift_28 rfl (lv_at hl 0 rfl) ?_
          refine lv_iload_n hx hb dX1_shift_29 rfl (lv_at hl 2 rfl) ?_
          refine roV (As := [.int (nI (k))]) hC kX1_46 (cM_col k (by omega) (by omega)) hK hP (m_rec hK hP) rfl rfl hl ⟨Nat.le_of_ble_eq_true rfl, Nat.le_of_ble_eq_true rfl⟩ (Nat.le_of_ble_eq_true rfl) dX1_shift_30 ⟨Nat.le_of_ble_eq_true rfl, Nat.le_of_ble_eq_true rfl⟩ ?_
          refine lv_if_ne (tgt := 40) hx hb dX1_shift_33 (by decide) (fun c_33 => ?_) (fun c_33 => ?_)
          · refine lv_iconst (v := (0)) hx hb dX1_shift_40 (by decide) ?_
            refine tI ((shc par (mcol cols rd) k)) (by simp [shc, c_25, c_33]) ?_
            refine lv_goto (tgt := 54) hx hb dX1_shift_41 (by decide) ?_
            refine m_st4 (x := (shc par (mcol cols rd) k)) hx hb hK hI hP hS (by omega) dX1_shift_54 (fun H locs hP hS => ?_)
            have hP : MP E b n ids par cols rd (pF nx (shc par (mcol cols rd)) (k + 1)) isin wi wo wf H := by rw [pF_s] at hP; exact hP
            refine lv_iload_n hx hb dX1_shift_55 rfl (lv_at hl 1 rfl) ?_
            refine lv_aload_n hx hb dX1_shift_56 rfl (lv_at hl 0 rfl) ?_
            refine m_g5 hC hK hP dX1_shift_57 ?_
            refine lv_iload_n hx hb dX1_shift_60 rfl (lv_at hl 2 rfl) ?_
            refine m_ld4 hx hb hK hP (by omega) dX1_shift_61 ?_
            refine tI ((shc par (mcol cols rd) k)) (pF_at _ _ _) ?_
            refine lv_aload_n hx hb dX1_shift_62 rfl (lv_at hl 0 rfl) ?_
            refine lv_iload_n hx hb dX1_shift_63 rfl (lv_at hl 2 rfl) ?_
            refine roV (As := [.int (nI (k))]) hC kX1_46 (cM_col k (by omega) (by omega)) hK hP (m_rec hK hP) rfl rfl hl ⟨Nat.le_of_ble_eq_true rfl, Nat.le_of_ble_eq_true rfl⟩ (Nat.le_of_ble_eq_true rfl) dX1_shift_64 ⟨Nat.le_of_ble_eq_true rfl, Nat.le_of_ble_eq_true rfl⟩ ?_
            refine lv_icmp_ne (tgt := 74) hx hb dX1_shift_67 (by decide) (fun c_67 => ?_) (fun c_67 => ?_)
            · refine lv_iconst (v := (nI (1))) hx hb dX1_shift_74 (by decide) ?_
              refine lv_iadd hx hb dX1_shift_75 ?_
              refine tI (nI ((fb_ct (fun j => !decide (shc par (mcol cols rd) j = mcol cols rd j)) k) + 1)) (nI_add _ _) ?_
              refine tI ((nI (fb_ct (fun j => !decide (shc par (mcol cols rd) j = mcol cols rd j)) (k + 1)))) (by rw [fb_ct_t (by simp [c_67])]) ?_
              refine lv_istore_n (lv' := [(1, .int (nI (fb_ct (fun j => !decide (shc par (mcol cols rd) j = mcol cols rd j)) (k + 1)))), (0, .ref (b 0)), (2, .int (nI (k)))]) hx hb dX1_shift_76 rfl hl (by decide) rfl (fun ls hl => ?_)
              refine lv_iinc (v := (nI (k + 1))) (lv' := [(2, .int (nI (k + 1))), (1, .int (nI (fb_ct (fun j => !decide (shc par (mcol cols rd) j = mcol cols rd j)) (k + 1)))), (0, .ref (b 0))]) hx hb dX1_shift_77 hl (k := 2) rfl (nI_inc _) (by decide) rfl (fun ls hl => ?_)
              refine lv_goto (tgt := 4) hx hb dX1_shift_80 (by decide) ?_
              exact ih_4 (k + 1) (by omega) (by omega) _ _ (hP) hS ls (lv_sub hl [2, 1, 0] rfl)
            · refine lv_iconst (v := (nI (0))) hx hb dX1_shift_70 (by decide) ?_
              refine lv_goto (tgt := 75) hx hb dX1_shift_71 (by decide) ?_
              refine lv_iadd hx hb dX1_shift_75 ?_
              refine tI (nI ((fb_ct (fun j => !decide (shc par (mcol cols rd) j = mcol cols rd j)) k) + 0)) (nI_add _ _) ?_
              refine tI ((nI (fb_ct (fun j => !decide (shc par (mcol cols rd) j = mcol cols rd j)) (k + 1)))) (by rw [fb_ct_f (by simp [c_67])]; rfl) ?_
              refine lv_istore_n (lv' := [(1, .int (nI (fb_ct (fun j => !decide (shc par (mcol cols rd) j = mcol cols rd j)) (k + 1)))), (0, .ref (b 0)), (2, .int (nI (k)))]) hx hb dX1_shift_76 rfl hl (by decide) rfl (fun ls hl => ?_)
              refine lv_iinc (v := (nI (k + 1))) (lv' := [(2, .int (nI (k + 1))), (1, .int (nI (fb_ct (fun j => !decide (shc par (mcol cols rd) j = mcol cols rd j)) (k + 1)))), (0, .ref (b 0))]) hx hb dX1_shift_77 hl (k := 2) rfl (nI_inc _) (by decide) rfl (fun ls hl => ?_)
              refine lv_goto (tgt := 4) hx hb dX1_shift_80 (by decide) ?_
              exact ih_4 (k + 1) (by omega) (by omega) _ _ (hP) hS ls (lv_sub hl [2, 1, 0] rfl)
          · refine lv_iconst (v := (1)) hx hb dX1_shift_36 (by decide) ?_
            refine tI ((shc par (mcol cols rd) k)) (by simp [shc, c_25, c_33]) ?_
            refine lv_goto (tgt := 54) hx hb dX1_shift_37 (by decide) ?_
            refine m_st4 (x := (shc par (mcol cols rd) k)) hx hb hK hI hP hS (by omega) dX1_shift_54 (fun H locs hP hS => ?_)
            have hP : MP E b n ids par cols rd (pF nx (shc par (mcol cols rd)) (k + 1)) isin wi wo wf H := by rw [pF_s] at hP; exact hP
            refine lv_iload_n hx hb dX1_shift_55 rfl (lv_at hl 1 rfl) ?_
            refine lv_aload_n hx hb dX1_shift_56 rfl (lv_at hl 0 rfl) ?_
            refine m_g5 hC hK hP dX1_shift_57 ?_
            refine lv_iload_n hx hb dX1_shift_60 rfl (lv_at hl 2 rfl) ?_
            refine m_ld4 hx hb hK hP (by omega) dX1_shift_61 ?_
            refine tI ((shc par (mcol cols rd) k)) (pF_at _ _ _) ?_
            refine lv_aload_n hx hb dX1_shift_62 rfl (lv_at hl 0 rfl) ?_
            refine lv_iload_n hx hb dX1_shift_63 rfl (lv_at hl 2 rfl) ?_
            refine roV (As := [.int (nI (k))]) hC kX1_46 (cM_col k (by omega) (by omega)) hK hP (m_rec hK hP) rfl rfl hl ⟨Nat.le_of_ble_eq_true rfl, Nat.le_of_ble_eq_true rfl⟩ (Nat.le_of_ble_eq_true rfl) dX1_shift_64 ⟨Nat.le_of_ble_eq_true rfl, Nat.le_of_ble_eq_true rfl⟩ ?_
            refine lv_icmp_ne (tgt := 74) hx hb dX1_shift_67 (by decide) (fun c_67 => ?_) (fun c_67 => ?_)
            · refine lv_iconst (v := (nI (1))) hx hb dX1_shift_74 (by decide) ?_
              refine lv_iadd hx hb dX1_shift_75 ?_
              refine tI (nI ((fb_ct (fun j => !decide (shc par (mcol cols rd) j = mcol cols rd j)) k) + 1)) (nI_add _ _) ?_
              refine tI ((nI (fb_ct (fun j => !decide (shc par (mcol cols rd) j = mcol cols rd j)) (k + 1)))) (by rw [fb_ct_t (by simp [c_67])]) ?_
              refine lv_istore_n (lv' := [(1, .int (nI (fb_ct (fun j => !decide (shc par (mcol cols rd) j = mcol cols rd j)) (k + 1)))), (0, .ref (b 0)), (2, .int (nI (k)))]) hx hb dX1_shift_76 rfl hl (by decide) rfl (fun ls hl => ?_)
              refine lv_iinc (v := (nI (k + 1))) (lv' := [(2, .int (nI (k + 1))), (1, .int (nI (fb_ct (fun j => !decide (shc par (mcol cols rd) j = mcol cols rd j)) (k + 1)))), (0, .ref (b 0))]) hx hb dX1_shift_77 hl (k := 2) rfl (nI_inc _) (by decide) rfl (fun ls hl => ?_)
              refine lv_goto (tgt := 4) hx hb dX1_shift_80 (by decide) ?_
              exact ih_4 (k + 1) (by omega) (by omega) _ _ (hP) hS ls (lv_sub hl [2, 1, 0] rfl)
            · refine lv_iconst (v := (nI (0))) hx hb dX1_shift_70 (by decide) ?_
              refine lv_goto (tgt := 75) hx hb dX1_shift_71 (by decide) ?_
              refine lv_iadd hx hb dX1_shift_75 ?_
              refine tI (nI ((fb_ct (fun j => !decide (shc par (mcol cols rd) j = mcol cols rd j)) k) + 0)) (nI_add _ _) ?_
              refine tI ((nI (fb_ct (fun j => !decide (shc par (mcol cols rd) j = mcol cols rd j)) (k + 1)))) (by rw [fb_ct_f (by simp [c_67])]; rfl) ?_
              refine lv_istore_n (lv' := [(1, .int (nI (fb_ct (fun j => !decide (shc par (mcol cols rd) j = mcol cols rd j)) (k + 1)))), (0, .ref (b 0)), (2, .int (nI (k)))]) hx hb dX1_shift_76 rfl hl (by decide) rfl (fun ls hl => ?_)
              refine lv_iinc (v := (nI (k + 1))) (lv' := [(2, .int (nI (k + 1))), (1, .int (nI (fb_ct (fun j => !decide (shc par (mcol cols rd) j = mcol cols rd j)) (k + 1)))), (0, .ref (b 0))]) hx hb dX1_shift_77 hl (k := 2) rfl (nI_inc _) (by decide) rfl (fun ls hl => ?_)
              refine lv_goto (tgt := 4) hx hb dX1_shift_80 (by decide) ?_
              exact ih_4 (k + 1) (by omega) (by omega) _ _ (hP) hS ls (lv_sub hl [2, 1, 0] rfl)
  exact loop_4 (n - 0 + 1) 0 (Nat.zero_le _) (Nat.lt_succ_self _) _ _ (by rw [pF_0]; exact hP) hS ls (lv_sub hl [2, 1, 0] rfl)
set_option maxRecDepth 100000 in
set_option maxHeartbeats 4000000 in
theorem cM_freeOf {l : Launch} {E : EE} {b : Nat → Nat} {n : Nat} {ids : Nat → Int32} {par : Nat → Option Nat} {cols : Nat → Int32} {rd : Nat} {nx : Nat → Int32} {isin : Nat → Bool} {wi wo : Nat → Nat} {wf : Nat → Option Nat} (v : Nat) (hn : n ≤ 24)(hp : PW n par)(hv : v < n)(hrd : rd < 100000) : RO l E (MP E b n ids par cols rd nx isin wi wo wf) yX1_freeOf cX1_freeOf 3 (some .int) 2 45 [.ref (b 0), .int (nI (v))] (pe (freF par (mcol cols rd) n v 3)) := by
  refine RO.mk (C := RX1) rfl rfl (by decide) rfl (Nat.le_of_ble_eq_true rfl) ?_
  intro p e s m args below meth c H Q hC hK hP hret ls hl
  obtain ⟨hx, hb, hml, hown, hts⟩ := id hC
  have hl : lv_has ls 3 [(0, .ref (b 0)), (1, .int (nI (v)))] := hl
  refine lv_iconst (v := (nI (0))) hx hb dX1_freeOf_0 (by decide) ?_
  refine lv_istore_n (lv' := [(2, .int (nI (0))), (0, .ref (b 0)), (1, .int (nI (v)))]) hx hb dX1_freeOf_1 rfl hl (by decide) rfl (fun ls hl => ?_)
  have loop_2 : ∀ (fuel : Nat) (k : Nat), (k ≤ 3) → (∀ j, j < k → (!bes par (mcol cols rd) n v (nI j)) = false) → 3 - k < fuel → ∀ (ls : Array Slot), lv_has ls 3 [(0, .ref (b 0)), (1, .int (nI (v))), (2, .int (nI (k)))] → W p l e (k2_rm 2 45) s m args below meth c H [] 0 0 Q (F0 m 2 ls []) := by
    intro fuel
    induction fuel with
    | zero => intro k hk hno hm; exact absurd hm (Nat.not_lt_zero _)
    | succ fuel ih_2 =>
      intro k hk hno hm ls hl
      refine lv_iload_n hx hb dX1_freeOf_2 rfl (lv_at hl 2 rfl) ?_
      refine lv_iconst (v := (nI (3))) hx hb dX1_freeOf_3 (by decide) ?_
      refine nv_ge (tgt := 24) hx hb (by omega) (by omega) dX1_freeOf_4 (by decide) (fun c_4 => ?_) (fun c_4 => ?_)
      · refine lv_bipush (v := (-7)) hx hb dX1_freeOf_24 (by decide) ?_
        exact hret _ _ _ dX1_freeOf_26 (by rw [freF, fst_none (fun j hj => hno j (by omega))]; rfl)
      · refine lv_aload_n hx hb dX1_freeOf_7 rfl (lv_at hl 0 rfl) ?_
        refine lv_iload_n hx hb dX1_freeOf_8 rfl (lv_at hl 1 rfl) ?_
        refine lv_iload_n hx hb dX1_freeOf_9 rfl (lv_at hl 2 rfl) ?_
        refine roV (As := [.int (nI (v)), .int (nI (k))]) hC kX1_79 (cM_beside v ((nI (k))) hn hp (by omega) hrd) hK hP (m_rec hK hP) rfl rfl hl ⟨Nat.le_of_ble_eq_true rfl, Nat.le_of_ble_eq_true rfl⟩ (Nat.le_of_ble_eq_true rfl) dX1_freeOf_10 ⟨Nat.le_of_ble_eq_true rfl, Nat.le_of_ble_eq_true rfl⟩ ?_
        refine bv_ne (tgt := 18) hx hb dX1_freeOf_13 (by decide) (fun c_13 => ?_) (fun c_13 => ?_)
        · refine lv_iinc (v := (nI (k + 1))) (lv' := [(2, .int (nI (k + 1))), (0, .ref (b 0)), (1, .int (nI (v)))]) hx hb dX1_freeOf_18 hl (k := 2) rfl (nI_inc _) (by decide) rfl (fun ls hl => ?_)
          refine lv_goto (tgt := 2) hx hb dX1_freeOf_21 (by decide) ?_
          exact ih_2 (k + 1) (by omega) (lt_s hno (by rw [c_13]; rfl)) (by omega) ls (lv_sub hl [1, 2, 0] rfl)
        · refine lv_iload_n hx hb dX1_freeOf_16 rfl (lv_at hl 2 rfl) ?_
          exact hret _ _ _ dX1_freeOf_17 (by rw [freF, fst_some (k := k) (by omega) (by rw [c_13]; rfl) hno]; rfl)
  exact loop_2 (3 - 0 + 1) 0 (Nat.zero_le _) (lt_0) (Nat.lt_succ_self _) ls (lv_sub hl [1, 2, 0] rfl)
set_option maxRecDepth 100000 in
set_option maxHeartbeats 4000000 in
theorem cM_eliminates {l : Launch} {E : EE} {b : Nat → Nat} {n : Nat} {ids : Nat → Int32} {par : Nat → Option Nat} {cols : Nat → Int32} {rd : Nat} {nx : Nat → Int32} {isin : Nat → Bool} {wi wo : Nat → Nat} {wf : Nat → Option Nat} (c0 : Int32) (hI : inj 9 b)(hn : n ≤ 24)(hp : PW n par)(hrd : rd < 100000)(hcn : ∀ v, v < n → ¬ mcol cols rd v = -7) : WR l E (MP E b n ids par cols rd nx isin wi wo wf) (AM b) yX1_eliminates cX1_eliminates 5 (some .int) 3 67 [.ref (b 0), .int (c0)] (some (.int (elRes par n c0 (mcol cols rd)))) (MP E b n ids par ((melS par n c0 (cols, nx, rd)).1) ((melS par n c0 (cols, nx, rd)).2.2) ((melS par n c0 (cols, nx, rd)).2.1) isin wi wo wf) := by
  refine WR.mkI (C := RX1) rfl rfl (by decide) rfl (Nat.le_of_ble_eq_true rfl) ?_
  intro p e s m args below meth c H0 Q hC hK hP hret ls hl
  obtain ⟨hx, hb, hml, hown, hts⟩ := id hC
  have hl : lv_has ls 5 [(0, .ref (b 0)), (1, .int (c0))] := hl
  have hS : va_S (AM b) H0 H0 [] := va_S.rf
  have hP : MP E b n ids par cols rd nx isin wi wo wf H0 := hP
  refine lv_iconst (v := (nI (0))) hx hb dX1_eliminates_0 (by decide) ?_
  refine lv_istore_n (lv' := [(2, .int (nI (0))), (0, .ref (b 0)), (1, .int (c0))]) hx hb dX1_eliminates_1 rfl hl (by decide) rfl (fun ls hl => ?_)
  refine lv_iconst (v := (nI (0))) hx hb dX1_eliminates_2 (by decide) ?_
  refine lv_istore_n (lv' := [(3, .int (nI (0))), (2, .int (nI (0))), (0, .ref (b 0)), (1, .int (c0))]) hx hb dX1_eliminates_3 rfl hl (by decide) rfl (fun ls hl => ?_)
  have loop_4 : ∀ (fuel : Nat) (k : Nat), (k ≤ n) → (∀ j, j < k → (decide (mcol cols rd j = c0) && (freF par (mcol cols rd) n j 3).isNone) = false) → n - k < fuel → ∀ (H : Heap) (locs : List Loc), MP E b n ids par cols rd (pF nx (elC par n (mcol cols rd) c0) k) isin wi wo wf H → va_S (AM b) H0 H locs → ∀ (ls : Array Slot), lv_has ls 5 [(0, .ref (b 0)), (1, .int (c0)), (2, .int (nI (fb_ct (fun j => decide (mcol cols rd j = c0)) k))), (3, .int (nI (k)))] → W p l e (k2_rm 3 67) s m args below meth c H locs 0 0 Q (F0 m 4 ls []) := by
    intro fuel
    induction fuel with
    | zero => intro k hk hno hm; exact absurd hm (Nat.not_lt_zero _)
    | succ fuel ih_4 =>
      intro k hk hno hm H locs hP hS ls hl
      refine lv_iload_n hx hb dX1_eliminates_4 rfl (lv_at hl 3 rfl) ?_
      refine lv_aload_n hx hb dX1_eliminates_5 rfl (lv_at hl 0 rfl) ?_
      refine m_g0 hC hK hP dX1_eliminates_6 ?_
      refine nv_ge (tgt := 85) hx hb (by omega) (by omega) dX1_eliminates_9 (by decide) (fun c_9 => ?_) (fun c_9 => ?_)
      · have hkn : k = n := by omega
        rw [hkn] at hP hno
        have hel : elK par n (mcol cols rd) c0 = none := fst_none hno
        refine lv_aload_n hx hb dX1_eliminates_85 rfl (lv_at hl 0 rfl) ?_
        refine wrV (As := []) hC kX1_95 (cM_ends  hI hn hrd) hK hP (m_rec hK hP) hS (fun _ h => h) rfl rfl hl ⟨Nat.le_of_ble_eq_true rfl, Nat.le_of_ble_eq_true rfl⟩ (Nat.le_of_ble_eq_true rfl) dX1_eliminates_86 ⟨Nat.le_of_ble_eq_true rfl, Nat.le_of_ble_eq_true rfl⟩ (fun H locs hP hS _ _ => ?_)
        refine lv_iload_n hx hb dX1_eliminates_89 rfl (lv_at hl 2 rfl) ?_
        exact hret _ _ _ _ _ (by rw [melS_n hel]; exact hP) hS dX1_eliminates_90 (by rw [elRes, hel, hkn])
      · have join_28 : ∀ (H : Heap) (locs : List Loc), MP E b n ids par cols rd (pF nx (elC par n (mcol cols rd) c0) k) isin wi wo wf H → va_S (AM b) H0 H locs → ∀ (ls : Array Slot), lv_has ls 5 [(0, .ref (b 0)), (1, .int (c0)), (2, .int (nI (fb_ct (fun j => decide (mcol cols rd j = c0)) k))), (3, .int (nI (k))), (4, .int (b2i (decide (mcol cols rd k = c0))))] → W p l e (k2_rm 3 67) s m args below meth c H locs 0 0 Q (F0 m 28 ls []) := by
          intro   H locs hP hS ls hl
          refine lv_aload_n hx hb dX1_eliminates_28 rfl (lv_at hl 0 rfl) ?_
          refine m_g5 hC hK hP dX1_eliminates_29 ?_
          refine lv_iload_n hx hb dX1_eliminates_32 rfl (lv_at hl 3 rfl) ?_
          refine lv_iload hx hb dX1_eliminates_33 (lv_at hl 4 rfl) ?_
          refine bv_eq (tgt := 46) hx hb dX1_eliminates_35 (by decide) (fun c_35 => ?_) (fun c_35 => ?_)
          · refine lv_aload_n hx hb dX1_eliminates_46 rfl (lv_at hl 0 rfl) ?_
            refine lv_iload_n hx hb dX1_eliminates_47 rfl (lv_at hl 3 rfl) ?_
            refine roV (As := [.int (nI (k))]) hC kX1_46 (cM_col k (by omega) (by omega)) hK hP (m_rec hK hP) rfl rfl hl ⟨Nat.le_of_ble_eq_true rfl, Nat.le_of_ble_eq_true rfl⟩ (Nat.le_of_ble_eq_true rfl) dX1_eliminates_48 ⟨Nat.le_of_ble_eq_true rfl, Nat.le_of_ble_eq_true rfl⟩ ?_
            refine tI ((elC par n (mcol cols rd) c0 k)) (by rw [elC, if_neg (by simpa using c_35)]) ?_
            refine m_st4 (x := (elC par n (mcol cols rd) c0 k)) hx hb hK hI hP hS (by omega) dX1_eliminates_51 (fun H locs hP hS => ?_)
            have hP : MP E b n ids par cols rd (pF nx (elC par n (mcol cols rd) c0) (k + 1)) isin wi wo wf H := by rw [pF_s] at hP; exact hP
            refine lv_iload_n hx hb dX1_eliminates_52 rfl (lv_at hl 2 rfl) ?_
            refine lv_iload hx hb dX1_eliminates_53 (lv_at hl 4 rfl) ?_
            refine bv_eq (tgt := 62) hx hb dX1_eliminates_55 (by decide) (fun c_55 => ?_) (fun c_55 => ?_)
            · refine lv_iconst (v := (nI (0))) hx hb dX1_eliminates_62 (by decide) ?_
              refine lv_iadd hx hb dX1_eliminates_63 ?_
              refine tI (nI ((fb_ct (fun j => decide (mcol cols rd j = c0)) k) + 0)) (nI_add _ _) ?_
              refine tI ((nI (fb_ct (fun j => decide (mcol cols rd j = c0)) (k + 1)))) (by rw [fb_ct_f c_55]; rfl) ?_
              refine lv_istore_n (lv' := [(2, .int (nI (fb_ct (fun j => decide (mcol cols rd j = c0)) (k + 1)))), (0, .ref (b 0)), (1, .int (c0)), (3, .int (nI (k))), (4, .int (b2i (decide (mcol cols rd k = c0))))]) hx hb dX1_eliminates_64 rfl hl (by decide) rfl (fun ls hl => ?_)
              refine lv_aload_n hx hb dX1_eliminates_65 rfl (lv_at hl 1 rfl) ?_
              refine m_g5 hC hK hP dX1_eliminates_66 ?_
              refine lv_iload_n hx hb dX1_eliminates_69 rfl (lv_at hl 3 rfl) ?_
              refine m_ld4 hx hb hK hP (by omega) dX1_eliminates_70 ?_
              refine tI ((mcol cols rd k)) (by rw [pF_at, elC, if_neg (by simpa using c_35)]) ?_
              refine lv_bipush (v := (-7)) hx hb dX1_eliminates_71 (by decide) ?_
              refine lv_icmp_ne (tgt := 79) hx hb dX1_eliminates_73 (by decide) (fun c_73 => ?_) (fun c_73 => ?_)
              · refine lv_iinc (v := (nI (k + 1))) (lv' := [(3, .int (nI (k + 1))), (2, .int (nI (fb_ct (fun j => decide (mcol cols rd j = c0)) (k + 1)))), (0, .ref (b 0)), (1, .int (c0)), (4, .int (b2i (decide (mcol cols rd k = c0))))]) hx hb dX1_eliminates_79 hl (k := 3) rfl (nI_inc _) (by decide) rfl (fun ls hl => ?_)
                refine lv_goto (tgt := 4) hx hb dX1_eliminates_82 (by decide) ?_
                exact ih_4 (k + 1) (by omega) (lt_s hno (by simp at c_35; simp [c_35])) (by omega) _ _ (hP) hS ls (lv_sub hl [2, 3, 1, 0] rfl)
              · exact absurd c_73 (hcn k (by omega))
            · exact absurd (c_35.symm.trans c_55) (by decide)
          · refine lv_aload_n hx hb dX1_eliminates_38 rfl (lv_at hl 0 rfl) ?_
            refine lv_iload_n hx hb dX1_eliminates_39 rfl (lv_at hl 3 rfl) ?_
            refine roV (As := [.int (nI (k))]) hC kX1_101 (cM_freeOf k hn hp (by omega) hrd) hK hP (m_rec hK hP) rfl rfl hl ⟨Nat.le_of_ble_eq_true rfl, Nat.le_of_ble_eq_true rfl⟩ (Nat.le_of_ble_eq_true rfl) dX1_eliminates_40 ⟨Nat.le_of_ble_eq_true rfl, Nat.le_of_ble_eq_true rfl⟩ ?_
            refine tI ((elC par n (mcol cols rd) c0 k)) (by rw [elC, if_pos (by simpa using c_35)]) ?_
            refine lv_goto (tgt := 51) hx hb dX1_eliminates_43 (by decide) ?_
            refine m_st4 (x := (elC par n (mcol cols rd) c0 k)) hx hb hK hI hP hS (by omega) dX1_eliminates_51 (fun H locs hP hS => ?_)
            have hP : MP E b n ids par cols rd (pF nx (elC par n (mcol cols rd) c0) (k + 1)) isin wi wo wf H := by rw [pF_s] at hP; exact hP
            refine lv_iload_n hx hb dX1_eliminates_52 rfl (lv_at hl 2 rfl) ?_
            refine lv_iload hx hb dX1_eliminates_53 (lv_at hl 4 rfl) ?_
            refine bv_eq (tgt := 62) hx hb dX1_eliminates_55 (by decide) (fun c_55 => ?_) (fun c_55 => ?_)
            · exact absurd (c_35.symm.trans c_55) (by decide)
            · refine lv_iconst (v := (nI (1))) hx hb dX1_eliminates_58 (by decide) ?_
              refine lv_goto (tgt := 63) hx hb dX1_eliminates_59 (by decide) ?_
              refine lv_iadd hx hb dX1_eliminates_63 ?_
              refine tI (nI ((fb_ct (fun j => decide (mcol cols rd j = c0)) k) + 1)) (nI_add _ _) ?_
              refine tI ((nI (fb_ct (fun j => decide (mcol cols rd j = c0)) (k + 1)))) (by rw [fb_ct_t c_55]) ?_
              refine lv_istore_n (lv' := [(2, .int (nI (fb_ct (fun j => decide (mcol cols rd j = c0)) (k + 1)))), (0, .ref (b 0)), (1, .int (c0)), (3, .int (nI (k))), (4, .int (b2i (decide (mcol cols rd k = c0))))]) hx hb dX1_eliminates_64 rfl hl (by decide) rfl (fun ls hl => ?_)
              refine lv_aload_n hx hb dX1_eliminates_65 rfl (lv_at hl 1 rfl) ?_
              refine m_g5 hC hK hP dX1_eliminates_66 ?_
              refine lv_iload_n hx hb dX1_eliminates_69 rfl (lv_at hl 3 rfl) ?_
              refine m_ld4 hx hb hK hP (by omega) dX1_eliminates_70 ?_
              refine tI ((pe (freF par (mcol cols rd) n k 3))) (by rw [pF_at, elC, if_pos (by simpa using c_35)]) ?_
              refine lv_bipush (v := (-7)) hx hb dX1_eliminates_71 (by decide) ?_
              refine pv_ne7 (tgt := 79) hx hb (fre_lt (by omega)) dX1_eliminates_73 (by decide) (fun c_73 => ?_) (fun c_73 => ?_)
              · have hfr : (freF par (mcol cols rd) n k 3).isNone = false := by cases h : freF par (mcol cols rd) n k 3 with | none => exact absurd h c_73 | some q => rfl
                refine lv_iinc (v := (nI (k + 1))) (lv' := [(3, .int (nI (k + 1))), (2, .int (nI (fb_ct (fun j => decide (mcol cols rd j = c0)) (k + 1)))), (0, .ref (b 0)), (1, .int (c0)), (4, .int (b2i (decide (mcol cols rd k = c0))))]) hx hb dX1_eliminates_79 hl (k := 3) rfl (nI_inc _) (by decide) rfl (fun ls hl => ?_)
                refine lv_goto (tgt := 4) hx hb dX1_eliminates_82 (by decide) ?_
                exact ih_4 (k + 1) (by omega) (lt_s hno (by simp [hfr])) (by omega) _ _ (hP) hS ls (lv_sub hl [2, 3, 1, 0] rfl)
              · have hel : elK par n (mcol cols rd) c0 = some k := fst_some (by omega) (by simp [c_35, c_73]) hno
                refine lv_bipush (v := (-6)) hx hb dX1_eliminates_76 (by decide) ?_
                exact hret _ _ _ _ _ (by rw [melS_s hel]; exact hP) hS dX1_eliminates_78 (by rw [elRes, hel])
        refine lv_aload_n hx hb dX1_eliminates_12 rfl (lv_at hl 0 rfl) ?_
        refine lv_iload_n hx hb dX1_eliminates_13 rfl (lv_at hl 3 rfl) ?_
        refine roV (As := [.int (nI (k))]) hC kX1_46 (cM_col k (by omega) (by omega)) hK hP (m_rec hK hP) rfl rfl hl ⟨Nat.le_of_ble_eq_true rfl, Nat.le_of_ble_eq_true rfl⟩ (Nat.le_of_ble_eq_true rfl) dX1_eliminates_14 ⟨Nat.le_of_ble_eq_true rfl, Nat.le_of_ble_eq_true rfl⟩ ?_
        refine lv_iload_n hx hb dX1_eliminates_17 rfl (lv_at hl 1 rfl) ?_
        refine lv_icmp_ne (tgt := 25) hx hb dX1_eliminates_18 (by decide) (fun c_18 => ?_) (fun c_18 => ?_)
        · refine lv_iconst (v := (b2i (false))) hx hb dX1_eliminates_25 (by decide) ?_
          refine tI ((b2i (decide (mcol cols rd k = c0)))) (by rw [decide_eq_false c_18]) ?_
          refine lv_istore (lv' := [(4, .int (b2i (decide (mcol cols rd k = c0)))), (0, .ref (b 0)), (1, .int (c0)), (2, .int (nI (fb_ct (fun j => decide (mcol cols rd j = c0)) k))), (3, .int (nI (k)))]) hx hb dX1_eliminates_26 hl (by decide) rfl (fun ls hl => ?_)
          exact join_28   _ _ (hP) hS ls (lv_sub hl [1, 2, 3, 4, 0] rfl)
        · refine lv_iconst (v := (b2i (true))) hx hb dX1_eliminates_21 (by decide) ?_
          refine tI ((b2i (decide (mcol cols rd k = c0)))) (by rw [decide_eq_true c_18]) ?_
          refine lv_goto (tgt := 26) hx hb dX1_eliminates_22 (by decide) ?_
          refine lv_istore (lv' := [(4, .int (b2i (decide (mcol cols rd k = c0)))), (0, .ref (b 0)), (1, .int (c0)), (2, .int (nI (fb_ct (fun j => decide (mcol cols rd j = c0)) k))), (3, .int (nI (k)))]) hx hb dX1_eliminates_26 hl (by decide) rfl (fun ls hl => ?_)
          exact join_28   _ _ (hP) hS ls (lv_sub hl [1, 2, 3, 4, 0] rfl)
  exact loop_4 (n - 0 + 1) 0 (Nat.zero_le _) (lt_0) (Nat.lt_succ_self _) _ _ (by rw [pF_0]; exact hP) hS ls (lv_sub hl [2, 3, 1, 0] rfl)
set_option maxRecDepth 100000 in
set_option maxHeartbeats 4000000 in
theorem cM_eliminate {l : Launch} {E : EE} {b : Nat → Nat} {n : Nat} {ids : Nat → Int32} {par : Nat → Option Nat} {cols : Nat → Int32} {rd : Nat} {nx : Nat → Int32} {isin : Nat → Bool} {wi wo : Nat → Nat} {wf : Nat → Option Nat} (y : Int32) (hI : inj 9 b)(hn : n ≤ 24)(hp : PW n par)(hrd : rd < 100000)(hcn : ∀ v, v < n → ¬ mcol cols rd v = -7) : WR l E (MP E b n ids par cols rd nx isin wi wo wf) (AM b) yX1_eliminate cX1_eliminate 2 (some .int) 4 91 [.ref (b 0), .int (y)] (some (.int (if y < 3 ∨ vV y = false then -2 else if propB n par (mcol cols rd) = false then -5 else elRes par n y (mcol cols rd)))) (MP E b n ids par (if okEL n par (mcol cols rd) y = true then (melS par n y (cols, nx, rd)).1 else cols) (if okEL n par (mcol cols rd) y = true then (melS par n y (cols, nx, rd)).2.2 else rd) (if okEL n par (mcol cols rd) y = true then (melS par n y (cols, nx, rd)).2.1 else nx) isin wi wo wf) := by
  refine WR.mkI (C := RX1) rfl rfl (by decide) rfl (Nat.le_of_ble_eq_true rfl) ?_
  intro p e s m args below meth c H0 Q hC hK hP hret ls hl
  obtain ⟨hx, hb, hml, hown, hts⟩ := id hC
  have hl : lv_has ls 2 [(0, .ref (b 0)), (1, .int (y))] := hl
  have hS : va_S (AM b) H0 H0 [] := va_S.rf
  have hP : MP E b n ids par cols rd nx isin wi wo wf H0 := hP
  refine lv_iload_n hx hb dX1_eliminate_0 rfl (lv_at hl 1 rfl) ?_
  refine lv_iconst (v := (3)) hx hb dX1_eliminate_1 (by decide) ?_
  refine lv_ldc (v := 65535) hx hb hown (hts _ qX1_50) dX1_eliminate_2 ?_
  refine roS (As := [.int (y), .int (3), .int (65535)]) hC kX1_39 (cM_within ((y)) ((3)) ((65535)) ) hK (P := fun _ => True) trivial rfl rfl hl ⟨Nat.le_of_ble_eq_true rfl, Nat.le_of_ble_eq_true rfl⟩ (Nat.le_of_ble_eq_true rfl) dX1_eliminate_4 ⟨Nat.le_of_ble_eq_true rfl, Nat.le_of_ble_eq_true rfl⟩ ?_
  refine tI ((b2i (!decide (y < 3) && vV y))) (by rw [wi_el]) ?_
  refine bv_ne (tgt := 13) hx hb dX1_eliminate_7 (by decide) (fun c_7 => ?_) (fun c_7 => ?_)
  · refine lv_aload_n hx hb dX1_eliminate_13 rfl (lv_at hl 0 rfl) ?_
    refine roV (As := []) hC kX1_89 (cM_conflicts  hn hp hrd) hK hP (m_rec hK hP) rfl rfl hl ⟨Nat.le_of_ble_eq_true rfl, Nat.le_of_ble_eq_true rfl⟩ (Nat.le_of_ble_eq_true rfl) dX1_eliminate_14 ⟨Nat.le_of_ble_eq_true rfl, Nat.le_of_ble_eq_true rfl⟩ ?_
    refine lv_if_le (tgt := 25) hx hb dX1_eliminate_17 (by decide) (fun c_17 => ?_) (fun c_17 => ?_)
    · rw [prop_0 hn] at c_17
      refine lv_aload_n hx hb dX1_eliminate_25 rfl (lv_at hl 0 rfl) ?_
      refine lv_iload_n hx hb dX1_eliminate_26 rfl (lv_at hl 1 rfl) ?_
      refine wrV (As := [.int (y)]) hC kX1_104 (cM_eliminates ((y)) hI hn hp hrd hcn) hK hP (m_rec hK hP) hS (fun _ h => h) rfl rfl hl ⟨Nat.le_of_ble_eq_true rfl, Nat.le_of_ble_eq_true rfl⟩ (Nat.le_of_ble_eq_true rfl) dX1_eliminate_27 ⟨Nat.le_of_ble_eq_true rfl, Nat.le_of_ble_eq_true rfl⟩ (fun H locs hP hS _ _ => ?_)
      exact hret _ _ _ _ _ (by rw [if_pos (el_yes c_7 c_17), if_pos (el_yes c_7 c_17), if_pos (el_yes c_7 c_17)]; exact hP) hS dX1_eliminate_30 (by rw [if_neg (el_nor c_7), if_neg (by rw [c_17]; simp)])
    · rw [prop_0 hn] at c_17
      refine lv_bipush (v := (-5)) hx hb dX1_eliminate_20 (by decide) ?_
      refine lv_goto (tgt := 30) hx hb dX1_eliminate_22 (by decide) ?_
      exact hret _ _ _ _ _ (by rw [if_neg (el_np c_17), if_neg (el_np c_17), if_neg (el_np c_17)]; exact hP) hS dX1_eliminate_30 (by rw [if_neg (el_nor c_7), if_pos (by simpa using c_17)])
  · refine lv_bipush (v := (-2)) hx hb dX1_eliminate_10 (by decide) ?_
    exact hret _ _ _ _ _ (by rw [if_neg (by rw [el_no c_7]; simp), if_neg (by rw [el_no c_7]; simp), if_neg (by rw [el_no c_7]; simp)]; exact hP) hS dX1_eliminate_12 (by rw [if_pos (el_or c_7)])
set_option maxRecDepth 100000 in
set_option maxHeartbeats 4000000 in
theorem cM_rt3 {l : Launch} {E : EE} {b : Nat → Nat} {n : Nat} {ids : Nat → Int32} {par : Nat → Option Nat} {cols : Nat → Int32} {rd : Nat} {nx : Nat → Int32} {isin : Nat → Bool} {wi wo : Nat → Nat} {wf : Nat → Option Nat}  (hI : inj 9 b)(hn : n ≤ 24)(hp : PW n par)(hrd : rd < 90000)(hT : propB n par (mcol cols rd) = true → ∀ k, 5 < mxF (mcol (mredI par n (cols, nx, rd) k).1 (mredI par n (cols, nx, rd) k).2.2) n → k < 16 ∧ propB n par (mcol (mredI par n (cols, nx, rd) k).1 (mredI par n (cols, nx, rd) k).2.2) = true) (hE : propB n par (mcol cols rd) = true → ∀ j, j < 3 → ∀ v, v < n → ¬ mcol (mshS par n (mtailS par n j (mredL par n 16 (cols, nx, rd)))).1 (mshS par n (mtailS par n j (mredL par n 16 (cols, nx, rd)))).2.2 v = -7) : WR l E (MP E b n ids par cols rd nx isin wi wo wf) (AM b) yX1_reduceToThree cX1_reduceToThree 3 (some .int) 4 91 [.ref (b 0)] (some (.int (if propB n par (mcol cols rd) = true then nI ((mrt3S par n (cols, nx, rd)).2.2 - rd) else -5))) (MP E b n ids par (if propB n par (mcol cols rd) = true then (mrt3S par n (cols, nx, rd)).1 else cols) (if propB n par (mcol cols rd) = true then (mrt3S par n (cols, nx, rd)).2.2 else rd) (if propB n par (mcol cols rd) = true then (mrt3S par n (cols, nx, rd)).2.1 else nx) isin wi wo wf) := by
  refine WR.mkI (C := RX1) rfl rfl (by decide) rfl (Nat.le_of_ble_eq_true rfl) ?_
  intro p e s m args below meth c H0 Q hC hK hP hret ls hl
  obtain ⟨hx, hb, hml, hown, hts⟩ := id hC
  have hl : lv_has ls 3 [(0, .ref (b 0))] := hl
  have hS : va_S (AM b) H0 H0 [] := va_S.rf
  have hP : MP E b n ids par cols rd nx isin wi wo wf H0 := hP
  refine lv_aload_n hx hb dX1_reduceToThree_0 rfl (lv_at hl 0 rfl) ?_
  refine roV (As := []) hC kX1_89 (cM_conflicts  hn hp (by omega)) hK hP (m_rec hK hP) rfl rfl hl ⟨Nat.le_of_ble_eq_true rfl, Nat.le_of_ble_eq_true rfl⟩ (Nat.le_of_ble_eq_true rfl) dX1_reduceToThree_1 ⟨Nat.le_of_ble_eq_true rfl, Nat.le_of_ble_eq_true rfl⟩ ?_
  refine lv_if_le (tgt := 10) hx hb dX1_reduceToThree_4 (by decide) (fun c_4 => ?_) (fun c_4 => ?_)
  · rw [prop_0 hn] at c_4
    refine lv_aload_n hx hb dX1_reduceToThree_10 rfl (lv_at hl 0 rfl) ?_
    refine m_g4 hC hK hP dX1_reduceToThree_11 ?_
    refine lv_istore_n (lv' := [(1, .int (nI (rd))), (0, .ref (b 0))]) hx hb dX1_reduceToThree_14 rfl hl (by decide) rfl (fun ls hl => ?_)
    have loop_15 : ∀ (fuel : Nat) (k : Nat), (k ≤ 16) → (mredL par n (16 - k) (mredI par n (cols, nx, rd) k) = mredL par n 16 (cols, nx, rd)) → 16 - k < fuel → ∀ (H : Heap) (locs : List Loc), MP E b n ids par ((mredI par n (cols, nx, rd) k).1) ((mredI par n (cols, nx, rd) k).2.2) ((mredI par n (cols, nx, rd) k).2.1) isin wi wo wf H → va_S (AM b) H0 H locs → ∀ (ls : Array Slot), lv_has ls 3 [(0, .ref (b 0)), (1, .int (nI (rd)))] → W p l e (k2_rm 4 91) s m args below meth c H locs 0 0 Q (F0 m 15 ls []) := by
      intro fuel
      induction fuel with
      | zero => intro k hk hml hm; exact absurd hm (Nat.not_lt_zero _)
      | succ fuel ih_15 =>
        intro k hk hml hm H locs hP hS ls hl
        have hir := mredI_rd (par := par) (n := n) (S := (cols, nx, rd)) k
        simp only at hir
        refine lv_aload_n hx hb dX1_reduceToThree_15 rfl (lv_at hl 0 rfl) ?_
        refine roV (As := []) hC kX1_82 (cM_greatest  hn (by omega)) hK hP (m_rec hK hP) rfl rfl hl ⟨Nat.le_of_ble_eq_true rfl, Nat.le_of_ble_eq_true rfl⟩ (Nat.le_of_ble_eq_true rfl) dX1_reduceToThree_16 ⟨Nat.le_of_ble_eq_true rfl, Nat.le_of_ble_eq_true rfl⟩ ?_
        refine lv_iconst (v := (5)) hx hb dX1_reduceToThree_19 (by decide) ?_
        refine lv_icmp_le (tgt := 30) hx hb dX1_reduceToThree_20 (by decide) (fun c_20 => ?_) (fun c_20 => ?_)
        · rw [← mredL_f (f := 16 - k) (par := par) (Int32.not_lt.mpr c_20), hml] at hP
          have hlr := mredL_rd (par := par) (n := n) 16 (cols, nx, rd)
          simp only at hlr
          refine lv_iconst (v := (nI (5))) hx hb dX1_reduceToThree_30 (by decide) ?_
          refine lv_istore_n (lv' := [(2, .int (nI (5))), (0, .ref (b 0)), (1, .int (nI (rd)))]) hx hb dX1_reduceToThree_31 rfl hl (by decide) rfl (fun ls hl => ?_)
          have loop_32 : ∀ (fuel : Nat) (j : Nat), (j ≤ 3) → 3 - j < fuel → ∀ (H : Heap) (locs : List Loc), MP E b n ids par ((mtailS par n j (mredL par n 16 (cols, nx, rd))).1) ((mtailS par n j (mredL par n 16 (cols, nx, rd))).2.2) ((mtailS par n j (mredL par n 16 (cols, nx, rd))).2.1) isin wi wo wf H → va_S (AM b) H0 H locs → ∀ (ls : Array Slot), lv_has ls 3 [(0, .ref (b 0)), (1, .int (nI (rd))), (2, .int (nI (5 - j)))] → W p l e (k2_rm 4 91) s m args below meth c H locs 0 0 Q (F0 m 32 ls []) := by
            intro fuel
            induction fuel with
            | zero => intro j hj hm; exact absurd hm (Nat.not_lt_zero _)
            | succ fuel ih_32 =>
              intro j hj hm H locs hP hS ls hl
              have htr := mtailS_rd (par := par) (n := n) (S := mredL par n 16 (cols, nx, rd)) j
              refine lv_iload_n hx hb dX1_reduceToThree_32 rfl (lv_at hl 2 rfl) ?_
              refine lv_iconst (v := (nI (2))) hx hb dX1_reduceToThree_33 (by decide) ?_
              refine nv_le (tgt := 54) hx hb (by omega) (by omega) dX1_reduceToThree_34 (by decide) (fun c_34 => ?_) (fun c_34 => ?_)
              · have hj3 : j = 3 := by omega
                rw [hj3] at hP htr
                refine lv_aload_n hx hb dX1_reduceToThree_54 rfl (lv_at hl 0 rfl) ?_
                refine m_g4 hC hK hP dX1_reduceToThree_55 ?_
                refine lv_iload_n hx hb dX1_reduceToThree_58 rfl (lv_at hl 1 rfl) ?_
                refine lv_isub hx hb dX1_reduceToThree_59 ?_
                refine tI ((nI ((mtailS par n 3 (mredL par n 16 (cols, nx, rd))).2.2 - rd))) (pk_sub (by omega)) ?_
                exact hret _ _ _ _ _ (by rw [if_pos c_4, if_pos c_4, if_pos c_4]; exact hP) hS dX1_reduceToThree_60 (by rw [if_pos c_4]; rfl)
              · refine lv_aload_n hx hb dX1_reduceToThree_37 rfl (lv_at hl 0 rfl) ?_
                refine wrV (As := []) hC kX1_107 (cM_shift  hI hn hp (by omega)) hK hP (m_rec hK hP) hS (fun _ h => h) rfl rfl hl ⟨Nat.le_of_ble_eq_true rfl, Nat.le_of_ble_eq_true rfl⟩ (Nat.le_of_ble_eq_true rfl) dX1_reduceToThree_38 ⟨Nat.le_of_ble_eq_true rfl, Nat.le_of_ble_eq_true rfl⟩ (fun H locs hP hS _ _ => ?_)
                refine lv_pop hx hb dX1_reduceToThree_41 rfl ?_
                refine lv_aload_n hx hb dX1_reduceToThree_42 rfl (lv_at hl 0 rfl) ?_
                refine lv_iload_n hx hb dX1_reduceToThree_43 rfl (lv_at hl 2 rfl) ?_
                refine wrV (As := [.int (nI (5 - j))]) hC kX1_104 (cM_eliminates ((nI (5 - j))) hI hn hp (show (mtailS par n j (mredL par n 16 (cols, nx, rd))).2.2 + 1 < 100000 by omega) (hE c_4 j (by omega))) hK hP (m_rec hK hP) hS (fun _ h => h) rfl rfl hl ⟨Nat.le_of_ble_eq_true rfl, Nat.le_of_ble_eq_true rfl⟩ (Nat.le_of_ble_eq_true rfl) dX1_reduceToThree_44 ⟨Nat.le_of_ble_eq_true rfl, Nat.le_of_ble_eq_true rfl⟩ (fun H locs hP hS _ _ => ?_)
                refine lv_pop hx hb dX1_reduceToThree_47 rfl ?_
                refine lv_iinc (v := (nI (5 - (j + 1)))) (lv' := [(2, .int (nI (5 - (j + 1)))), (0, .ref (b 0)), (1, .int (nI (rd)))]) hx hb dX1_reduceToThree_48 hl (k := 2) rfl (m1_5 (by omega)) (by decide) rfl (fun ls hl => ?_)
                refine lv_goto (tgt := 32) hx hb dX1_reduceToThree_51 (by decide) ?_
                exact ih_32 (j + 1) (by omega) (by omega) _ _ (hP) hS ls (lv_sub hl [1, 2, 0] rfl)
          exact loop_32 (3 - 0 + 1) 0 (Nat.zero_le _) (Nat.lt_succ_self _) _ _ (hP) hS ls (lv_sub hl [1, 2, 0] rfl)
        · have hgt := Int32.not_le.mp c_20
          obtain ⟨hk16, hpk⟩ := hT c_4 k hgt
          refine lv_aload_n hx hb dX1_reduceToThree_23 rfl (lv_at hl 0 rfl) ?_
          refine wrV (As := []) hC kX1_98 (cM_reduces  hI hn hp (by omega) hpk) hK hP (m_rec hK hP) hS (fun _ h => h) rfl rfl hl ⟨Nat.le_of_ble_eq_true rfl, Nat.le_of_ble_eq_true rfl⟩ (Nat.le_of_ble_eq_true rfl) dX1_reduceToThree_24 ⟨Nat.le_of_ble_eq_true rfl, Nat.le_of_ble_eq_true rfl⟩ (fun H locs hP hS _ _ => ?_)
          refine lv_goto (tgt := 15) hx hb dX1_reduceToThree_27 (by decide) ?_
          exact ih_15 (k + 1) (by omega) (by rw [← hml, show 16 - k = (16 - (k + 1)) + 1 by omega, mredL_t hgt]; rfl) (by omega) _ _ (hP) hS ls (lv_sub hl [0, 1] rfl)
    exact loop_15 (16 - 0 + 1) 0 (Nat.zero_le _) (rfl) (Nat.lt_succ_self _) _ _ (hP) hS ls (lv_sub hl [1, 0] rfl)
  · rw [prop_0 hn] at c_4
    refine lv_bipush (v := (-5)) hx hb dX1_reduceToThree_7 (by decide) ?_
    exact hret _ _ _ _ _ (by rw [if_neg c_4, if_neg c_4, if_neg c_4]; exact hP) hS dX1_reduceToThree_9 (by rw [if_neg c_4])
set_option maxRecDepth 100000 in
set_option maxHeartbeats 4000000 in
theorem cM_roundCount {l : Launch} {E : EE} {b : Nat → Nat} {n : Nat} {ids : Nat → Int32} {par : Nat → Option Nat} {cols : Nat → Int32} {rd : Nat} {nx : Nat → Int32} {isin : Nat → Bool} {wi wo : Nat → Nat} {wf : Nat → Option Nat}   : RO l E (MP E b n ids par cols rd nx isin wi wo wf) yX1_roundCount cX1_roundCount 1 (some .int) 0 0 [.ref (b 0)] (nI (rd)) := by
  refine RO.mk (C := RX1) rfl rfl (by decide) rfl (Nat.le_of_ble_eq_true rfl) ?_
  intro p e s m args below meth c H Q hC hK hP hret ls hl
  obtain ⟨hx, hb, hml, hown, hts⟩ := id hC
  have hl : lv_has ls 1 [(0, .ref (b 0))] := hl
  refine lv_aload_n hx hb dX1_roundCount_0 rfl (lv_at hl 0 rfl) ?_
  refine m_g4 hC hK hP dX1_roundCount_1 ?_
  exact hret _ _ _ dX1_roundCount_4 (by first | rfl | omega | simp_all)
set_option maxRecDepth 100000 in
set_option maxHeartbeats 4000000 in
theorem cM_past {l : Launch} {E : EE} {b : Nat → Nat} {n : Nat} {ids : Nat → Int32} {par : Nat → Option Nat} {cols : Nat → Int32} {rd : Nat} {nx : Nat → Int32} {isin : Nat → Bool} {wi wo : Nat → Nat} {wf : Nat → Option Nat} (x r : Int32) (hn : n ≤ 24)(hrd : rd < 100000) : RO l E (MP E b n ids par cols rd nx isin wi wo wf) yX1_pastColour cX1_pastColour 3 (some .int) 2 43 [.ref (b 0), .int (x), .int (r)] (oN (vN n x) (fun v => mpast cols rd r v)) := by
  refine RO.mk (C := RX1) rfl rfl (by decide) rfl (Nat.le_of_ble_eq_true rfl) ?_
  intro p e s m args below meth c H Q hC hK hP hret ls hl
  obtain ⟨hx, hb, hml, hown, hts⟩ := id hC
  have hl : lv_has ls 3 [(0, .ref (b 0)), (1, .int (x)), (2, .int (r))] := hl
  refine lv_aload_n hx hb dX1_pastColour_0 rfl (lv_at hl 0 rfl) ?_
  refine lv_iload_n hx hb dX1_pastColour_1 rfl (lv_at hl 1 rfl) ?_
  refine roV (As := [.int (x)]) hC kX1_58 (cM_isNode ((x)) hn) hK hP (m_rec hK hP) rfl rfl hl ⟨Nat.le_of_ble_eq_true rfl, Nat.le_of_ble_eq_true rfl⟩ (Nat.le_of_ble_eq_true rfl) dX1_pastColour_2 ⟨Nat.le_of_ble_eq_true rfl, Nat.le_of_ble_eq_true rfl⟩ ?_
  refine bv_ne (tgt := 10) hx hb dX1_pastColour_5 (by decide) (fun c_5 => ?_) (fun c_5 => ?_)
  · obtain ⟨v, hv, rfl⟩ := vN_t hn c_5
    refine lv_iload_n hx hb dX1_pastColour_10 rfl (lv_at hl 2 rfl) ?_
    refine lv_iconst (v := (0)) hx hb dX1_pastColour_11 (by decide) ?_
    refine lv_bipush (v := (16)) hx hb dX1_pastColour_12 (by decide) ?_
    refine roS (As := [.int (r), .int (0), .int (16)]) hC kX1_39 (cM_within ((r)) ((0)) ((16)) ) hK (P := fun _ => True) trivial rfl rfl hl ⟨Nat.le_of_ble_eq_true rfl, Nat.le_of_ble_eq_true rfl⟩ (Nat.le_of_ble_eq_true rfl) dX1_pastColour_14 ⟨Nat.le_of_ble_eq_true rfl, Nat.le_of_ble_eq_true rfl⟩ ?_
    refine bv_ne (tgt := 23) hx hb dX1_pastColour_17 (by decide) (fun c_17 => ?_) (fun c_17 => ?_)
    · obtain ⟨q, hq, rfl⟩ := wi_16 c_17
      have hpf : ∀ z : Nat, mpast cols rd (nI q) z = if nI rd < nI q then -7 else mcol cols (rd - (nI q).toNatClampNeg) z := fun z => if_neg (by rw [c_17]; simp)
      refine lv_iload_n hx hb dX1_pastColour_23 rfl (lv_at hl 2 rfl) ?_
      refine lv_aload_n hx hb dX1_pastColour_24 rfl (lv_at hl 0 rfl) ?_
      refine m_g4 hC hK hP dX1_pastColour_25 ?_
      refine nv_le (tgt := 36) hx hb (by omega) (by omega) dX1_pastColour_28 (by decide) (fun c_28 => ?_) (fun c_28 => ?_)
      · refine lv_aload_n hx hb dX1_pastColour_36 rfl (lv_at hl 0 rfl) ?_
        refine m_g3 hC hK hP dX1_pastColour_37 ?_
        refine lv_bipush (v := (nI (24))) hx hb dX1_pastColour_40 (by decide) ?_
        refine lv_aload_n hx hb dX1_pastColour_42 rfl (lv_at hl 0 rfl) ?_
        refine m_g4 hC hK hP dX1_pastColour_43 ?_
        refine lv_iload_n hx hb dX1_pastColour_46 rfl (lv_at hl 2 rfl) ?_
        refine lv_isub hx hb dX1_pastColour_47 ?_
        refine tI ((nI (rd - q))) (pk_sub c_28) ?_
        refine lv_bipush (v := (nI (17))) hx hb dX1_pastColour_48 (by decide) ?_
        refine lv_irem hx hb dX1_pastColour_50 (by decide) ?_
        refine tI ((nI ((rd - q) % 17))) (pk_rem (by omega) (by omega) (by omega)) ?_
        refine lv_imul hx hb dX1_pastColour_51 ?_
        refine tI (nI (24 * ((rd - q) % 17))) (pk_mul _ _) ?_
        refine lv_iload_n hx hb dX1_pastColour_52 rfl (lv_at hl 1 rfl) ?_
        refine lv_iadd hx hb dX1_pastColour_53 ?_
        refine tI (nI ((24 * ((rd - q) % 17)) + v)) (nI_add _ _) ?_
        refine m_ld3 hx hb hK hP (by omega) dX1_pastColour_54 ?_
        exact hret _ _ _ dX1_pastColour_55 (by rw [oN_in hn hv, hpf, if_neg (nI_nlt c_28 (by omega)), nI_clamp (by omega), mcol_lt (by omega)])
      · refine lv_bipush (v := (-7)) hx hb dX1_pastColour_31 (by decide) ?_
        refine lv_goto (tgt := 55) hx hb dX1_pastColour_33 (by decide) ?_
        exact hret _ _ _ dX1_pastColour_55 (by rw [oN_in hn hv, hpf, if_pos (nI_lt c_28 (by omega))])
    · refine lv_bipush (v := (-2)) hx hb dX1_pastColour_20 (by decide) ?_
      exact hret _ _ _ dX1_pastColour_22 (by rw [oN_in hn hv, mpast, if_pos c_17])
  · refine lv_iconst (v := (-1)) hx hb dX1_pastColour_8 (by decide) ?_
    exact hret _ _ _ dX1_pastColour_9 ((oN_out c_5 _).symm)
end
section
-- THE SET THAT IS BUILT: what the reference visits
theorem i32_lt {x y : Int32} : x < y ↔ x.toInt < y.toInt := Int32.lt_iff_toInt_lt
theorem i32_le {x y : Int32} : x ≤ y ↔ x.toInt ≤ y.toInt := Int32.le_iff_toInt_le
theorem i32_eq {x y : Int32} : x = y ↔ x.toInt = y.toInt := Int32.toInt_inj.symm
theorem nvF_none {col : Nat → Int32} {w : Nat → Bool} : ∀ {k : Nat}, nvF col w k = none → ∀ u, u < k → w u = false → False
  | 0, _, u, hu, _ => absurd hu (Nat.not_lt_zero _)
  | k + 1, h, u, hu, hw => by
    by_cases hk : w k = true
    · rw [nvF_in hk] at h
      have huk : u ≠ k := fun e => by rw [e, hk] at hw; cases hw
      exact nvF_none h u (by omega) hw
    · have hk : w k = false := by simpa using hk
      rw [nvF, if_neg (by rw [hk]; simp)] at h
      cases e : nvF col w k with
      | none => rw [e] at h; cases h
      | some j => rw [e] at h; simp only at h; split at h <;> cases h
theorem nvF_min {col : Nat → Int32} {w : Nat → Bool} : ∀ {k v : Nat}, nvF col w k = some v → ∀ u, u < k → w u = false → col v ≤ col u ∧ (col u = col v → v ≤ u)
  | 0, v, h, u, hu, _ => absurd hu (Nat.not_lt_zero _)
  | k + 1, v, h, u, hu, hw => by
    by_cases hk : w k = true
    · rw [nvF_in hk] at h
      have huk : u ≠ k := fun e => by rw [e, hk] at hw; cases hw
      exact nvF_min h u (by omega) hw
    · have hk : w k = false := by simpa using hk
      cases e : nvF col w k with
      | none =>
        rw [nvF_first hk e] at h
        cases h
        by_cases huk : u = k
        · subst huk; exact ⟨i32_le.mpr (Int.le_refl _), fun _ => Nat.le_refl _⟩
        · exfalso
          exact nvF_none e u (by omega) hw
      | some j =>
        have hj := nvF_lt e
        by_cases hlt : col k < col j
        · rw [nvF_lt' hk e hlt] at h
          cases h
          by_cases huk : u = k
          · subst huk; exact ⟨i32_le.mpr (Int.le_refl _), fun _ => Nat.le_refl _⟩
          · have := nvF_min e u (by omega) hw
            rw [i32_lt] at hlt
            rw [i32_le] at this ⊢
            refine ⟨by omega, fun he => ?_⟩
            rw [i32_eq] at he
            omega
        · rw [nvF_ge hk e hlt] at h
          rw [e] at h
          cases h
          by_cases huk : u = k
          · subst huk
            rw [i32_lt] at hlt
            rw [i32_le]
            exact ⟨by omega, fun _ => by omega⟩
          · exact nvF_min e u (by omega) hw
theorem nvF_ex {col : Nat → Int32} {w : Nat → Bool} {n u : Nat} (hu : u < n) (hw : w u = false) : ∃ v, nvF col w n = some v := by
  cases e : nvF col w n with
  | none => exact (nvF_none e u hu hw).elim
  | some v => exact ⟨v, rfl⟩
/-- later than a colour and a node -/
def latB (col : Nat → Int32) (cc : Int32) (q v : Nat) : Bool := decide (cc < col v) || (decide (col v = cc) && decide (q < v))
theorem lat_0 {col : Nat → Int32} {n v : Nat} (h : ∀ v, v < n → ¬ col v < 0) (hv : v < n) (q : Nat) : latB col (-1) q v = true := by
  have := h v hv
  rw [i32_lt] at this
  have e : (-1 : Int32) < col v := by
    rw [i32_lt]
    have e1 : (-1 : Int32).toInt = -1 := rfl
    have e0 : (0 : Int32).toInt = 0 := rfl
    omega
  simp [latB, e]
theorem lat_step {col : Nat → Int32} {n : Nat} {vis : Nat → Bool} {cc : Int32} {q v : Nat} (hvis : ∀ u, u < n → latB col cc q u = !vis u) (hv : nvF col vis n = some v) : ∀ u, u < n → latB col (col v) v u = !(vis u || u == v) := by
  intro u hu
  obtain ⟨hvn, hvv⟩ := nvF_lt hv
  have h1 := hvis u hu
  have h2 := hvis v hvn
  rw [hvv] at h2
  have h3 := nvF_min hv u hu
  unfold latB at *
  simp only [Bool.or_eq_true, Bool.and_eq_true, decide_eq_true_eq, Bool.not_false, i32_lt, i32_le, i32_eq] at h2 h3
  by_cases huv : u = v
  · subst huv
    have h4 : ¬ col u < col u := by rw [i32_lt]; omega
    simp [h4]
  · by_cases hw : vis u = false
    · obtain ⟨h5, h6⟩ := h3 hw
      rw [hw]
      by_cases h7 : col u = col v
      · have h8 : v < u := by have := h6 (i32_eq.mp h7); omega
        simp [h7, h8, huv]
      · have h8 : col v < col u := by rw [i32_lt]; rw [i32_eq] at h7; omega
        simp [h8, huv]
    · have hw : vis u = true := by simpa using hw
      rw [hw] at h1
      simp only [Bool.not_true, Bool.or_eq_false_iff, decide_eq_false_iff_not, Bool.and_eq_false_iff] at h1
      rw [i32_lt, i32_eq] at h1
      have h8 : ¬ col v < col u := by rw [i32_lt]; omega
      have h9 : ¬ (col u = col v ∧ v < u) := by rw [i32_eq]; omega
      rw [hw]
      by_cases h7 : col u = col v
      · have h10 : ¬ v < u := fun z => h9 ⟨h7, z⟩
        simp [h8, h10]
      · simp [h8, h7]
theorem isF_sub {par : Nat → Option Nat} {col : Nat → Int32} {n : Nat} : ∀ (k u : Nat), (isF par col n k).1 u = true → (isF par col n k).2 u = true
  | 0, u, h => by cases h
  | k + 1, u, h => by
    cases e : nvF col (isF par col n k).2 n with
    | none => rw [isF, e] at h ⊢; exact isF_sub k u h
    | some v =>
      rw [isF_2 e]
      by_cases h2 : anyB (fun o => nb par v o && (isF par col n k).1 o) n = true
      · rw [isF_1f e h2] at h
        simp [isF_sub k u h]
      · rw [isF_1t e (by simpa using h2)] at h
        simp only [Bool.or_eq_true] at h ⊢
        rcases h with h | h
        · exact Or.inl (isF_sub k u h)
        · exact Or.inr h
theorem isF_cnt {par : Nat → Option Nat} {col : Nat → Int32} {n : Nat} : ∀ k, k ≤ n → fb_ct (isF par col n k).2 n = k
  | 0, _ => fb_ct_zero.mpr (fun _ _ => rfl)
  | k + 1, hk => by
    have ih := isF_cnt (par := par) (col := col) (n := n) k (by omega)
    have hex : ∃ u, u < n ∧ (isF par col n k).2 u = false := by
      rcases Classical.em (∃ u, u < n ∧ (isF par col n k).2 u = false) with h | h
      · exact h
      · have : fb_ct (isF par col n k).2 n = n := fb_ct_all.mpr (fun u hu => by
          cases e : (isF par col n k).2 u with
          | true => rfl
          | false => exact absurd ⟨u, hu, e⟩ h)
        omega
    obtain ⟨u, hu, hw⟩ := hex
    obtain ⟨v, hv⟩ := nvF_ex (col := col) hu hw
    obtain ⟨hvn, hvv⟩ := nvF_lt hv
    have e : fb_ct (isF par col n (k + 1)).2 n = fb_ct (fun j => if j = v then true else (isF par col n k).2 j) n := by
      rw [isF_2 hv]
      exact fb_ct_cong (fun j _ => by by_cases h : j = v <;> simp [h])
    have := fb_ct_upd (isF par col n k).2 true hvn
    rw [hvv, if_neg (by simp), if_pos rfl] at this
    rw [e]
    omega
theorem isF_next {par : Nat → Option Nat} {col : Nat → Int32} {n k : Nat} (hk : k < n) : ∃ v, nvF col (isF par col n k).2 n = some v := by
  have ih := isF_cnt (par := par) (col := col) (n := n) k (by omega)
  rcases Classical.em (∃ u, u < n ∧ (isF par col n k).2 u = false) with ⟨u, hu, hw⟩ | h
  · exact nvF_ex hu hw
  · have : fb_ct (isF par col n k).2 n = n := fb_ct_all.mpr (fun u hu => by
      cases e : (isF par col n k).2 u with
      | true => rfl
      | false => exact absurd ⟨u, hu, e⟩ h)
    omega
/-- the reference's row of marks -/
def inR (n : Nat) (s isin : Nat → Bool) : Nat → Bool := fun j => if j < n then s j else isin j
theorem inR_lt {n : Nat} {s isin : Nat → Bool} {j : Nat} (h : j < n) : inR n s isin j = s j := if_pos h
theorem clF_s (isin : Nat → Bool) (k : Nat) : va_up (inR k (fun _ => false) isin) k false = inR (k + 1) (fun _ => false) isin := by
  funext j
  unfold inR
  by_cases h : j = k
  · subst h; rw [va_up_self, if_pos (by omega)]
  · rw [va_up_ne _ _ h]
    by_cases h2 : j < k
    · rw [if_pos h2, if_pos (by omega)]
    · rw [if_neg h2, if_neg (by omega)]
theorem free_any {n : Nat} {par : Nat → Option Nat} {s isin : Nat → Bool} {v : Nat} : anyB (fun o => inR n s isin o && nb par v o) n = anyB (fun o => nb par v o && s o) n := by
  cases e : anyB (fun o => nb par v o && s o) n with
  | true =>
    obtain ⟨k, h1, h2⟩ := anyB_iff.mp e
    exact anyB_yes h1 (by rw [inR_lt h1, Bool.and_comm]; exact h2)
  | false =>
    apply anyB_no
    intro k hk
    rw [inR_lt hk]
    cases h : (s k && nb par v k) with
    | false => rfl
    | true =>
      rw [Bool.and_comm] at h
      rw [anyB_yes (p := fun o => nb par v o && s o) hk h] at e
      cases e
theorem isF_put {par : Nat → Option Nat} {col : Nat → Int32} {n k v : Nat} {isin : Nat → Bool} (hv : nvF col (isF par col n k).2 n = some v) {fr : Bool} (hf : fr = !anyB (fun o => nb par v o && (isF par col n k).1 o) n) : va_up (inR n (isF par col n k).1 isin) v fr = inR n (isF par col n (k + 1)).1 isin ∧ fb_ct (isF par col n (k + 1)).1 n = fb_ct (isF par col n k).1 n + (if fr = true then 1 else 0) := by
  obtain ⟨hvn, hvv⟩ := nvF_lt hv
  have hvs : (isF par col n k).1 v = false := by
    cases e : (isF par col n k).1 v with
    | false => rfl
    | true => rw [isF_sub k v e] at hvv; cases hvv
  cases ha : anyB (fun o => nb par v o && (isF par col n k).1 o) n with
  | true =>
    rw [ha] at hf
    subst hf
    rw [isF_1f hv ha]
    refine ⟨?_, by simp⟩
    funext j
    by_cases h : j = v
    · subst h; rw [va_up_self, inR_lt hvn, hvs]; rfl
    · rw [va_up_ne _ _ h]
  | false =>
    rw [ha] at hf
    subst hf
    rw [isF_1t hv ha]
    refine ⟨?_, ?_⟩
    · funext j
      by_cases h : j = v
      · subst h; rw [va_up_self, inR_lt hvn]; simp
      · rw [va_up_ne _ _ h]
        unfold inR
        by_cases h2 : j < n
        · simp [h2, h]
        · simp [h2]
    · have e : fb_ct (fun j => (isF par col n k).1 j || j == v) n = fb_ct (fun j => if j = v then true else (isF par col n k).1 j) n := fb_ct_cong (fun j _ => by by_cases h : j = v <;> simp [h])
      have := fb_ct_upd (isF par col n k).1 true hvn
      rw [hvs, if_neg (by simp), if_pos rfl] at this
      rw [e]
      simpa using this
end
section
-- the reference: the set (laid by wip/whole/gen/spec_m3.py)
/-- the reference's world, its rows for work at hand aside -/
def MX (E : EE) (b : Nat → Nat) (n : Nat) (ids : Nat → Int32) (par : Nat → Option Nat) (cols : Nat → Int32) (rd : Nat) (H : Heap) : Prop := ∃ (nx : Nat → Int32) (isin : Nat → Bool) (wi wo : Nat → Nat) (wf : Nat → Option Nat), MP E b n ids par cols rd nx isin wi wo wf H
set_option maxRecDepth 100000 in
set_option maxHeartbeats 4000000 in
theorem cM_build {l : Launch} {E : EE} {b : Nat → Nat} {n : Nat} {ids : Nat → Int32} {par : Nat → Option Nat} {cols : Nat → Int32} {rd : Nat} {nx : Nat → Int32} {isin : Nat → Bool} {wi wo : Nat → Nat} {wf : Nat → Option Nat}  (hI : inj 9 b)(hn : n ≤ 24)(hp : PW n par)(hrd : rd < 100000)(hc0 : ∀ v, v < n → ¬ mcol cols rd v < 0) : WR l E (MP E b n ids par cols rd nx isin wi wo wf) (AM b) yX1_buildSet cX1_buildSet 8 (some .int) 1 22 [.ref (b 0)] (some (.int (nI (fb_ct (isF par (mcol cols rd) n n).1 n)))) (MP E b n ids par cols rd nx (inR n (isF par (mcol cols rd) n n).1 isin) wi wo wf) := by
  refine WR.mkI (C := RX1) rfl rfl (by decide) rfl (Nat.le_of_ble_eq_true rfl) ?_
  intro p e s m args below meth c H0 Q hC hK hP hret ls hl
  obtain ⟨hx, hb, hml, hown, hts⟩ := id hC
  have hl : lv_has ls 8 [(0, .ref (b 0))] := hl
  have hS : va_S (AM b) H0 H0 [] := va_S.rf
  have hP : MP E b n ids par cols rd nx isin wi wo wf H0 := hP
  refine lv_iconst (v := (nI (0))) hx hb dX1_buildSet_0 (by decide) ?_
  refine tI ((nI (fb_ct (isF par (mcol cols rd) n 0).1 n))) (by rw [show fb_ct (isF par (mcol cols rd) n 0).1 n = 0 from fb_ct_zero.mpr (fun _ _ => rfl)]) ?_
  refine lv_istore_n (lv' := [(1, .int (nI (fb_ct (isF par (mcol cols rd) n 0).1 n))), (0, .ref (b 0))]) hx hb dX1_buildSet_1 rfl hl (by decide) rfl (fun ls hl => ?_)
  refine lv_iconst (v := (nI (0))) hx hb dX1_buildSet_2 (by decide) ?_
  refine lv_istore_n (lv' := [(2, .int (nI (0))), (1, .int (nI (fb_ct (isF par (mcol cols rd) n 0).1 n))), (0, .ref (b 0))]) hx hb dX1_buildSet_3 rfl hl (by decide) rfl (fun ls hl => ?_)
  have loop_4 : ∀ (fuel : Nat) (k : Nat), (k ≤ n) → n - k < fuel → ∀ (H : Heap) (locs : List Loc), MP E b n ids par cols rd nx (inR k (fun _ => false) isin) wi wo wf H → va_S (AM b) H0 H locs → ∀ (ls : Array Slot), lv_has ls 8 [(0, .ref (b 0)), (1, .int (nI (fb_ct (isF par (mcol cols rd) n 0).1 n))), (2, .int (nI (k)))] → W p l e (k2_rm 1 22) s m args below meth c H locs 0 0 Q (F0 m 4 ls []) := by
    intro fuel
    induction fuel with
    | zero => intro k hk hm; exact absurd hm (Nat.not_lt_zero _)
    | succ fuel ih_4 =>
      intro k hk hm H locs hP hS ls hl
      refine lv_iload_n hx hb dX1_buildSet_4 rfl (lv_at hl 2 rfl) ?_
      refine lv_aload_n hx hb dX1_buildSet_5 rfl (lv_at hl 0 rfl) ?_
      refine m_g0 hC hK hP dX1_buildSet_6 ?_
      refine nv_ge (tgt := 25) hx hb (by omega) (by omega) dX1_buildSet_9 (by decide) (fun c_9 => ?_) (fun c_9 => ?_)
      · have hkn : k = n := by omega
        rw [hkn] at hP
        refine lv_iconst (v := (-1)) hx hb dX1_buildSet_25 (by decide) ?_
        refine lv_istore_n (lv' := [(2, .int (-1)), (0, .ref (b 0)), (1, .int (nI (fb_ct (isF par (mcol cols rd) n 0).1 n)))]) hx hb dX1_buildSet_26 rfl hl (by decide) rfl (fun ls hl => ?_)
        refine lv_bipush (v := (nI (24))) hx hb dX1_buildSet_27 (by decide) ?_
        refine lv_istore_n (lv' := [(3, .int (nI (24))), (2, .int (-1)), (0, .ref (b 0)), (1, .int (nI (fb_ct (isF par (mcol cols rd) n 0).1 n)))]) hx hb dX1_buildSet_29 rfl hl (by decide) rfl (fun ls hl => ?_)
        refine lv_iconst (v := (nI (0))) hx hb dX1_buildSet_30 (by decide) ?_
        refine lv_istore (lv' := [(4, .int (nI (0))), (3, .int (nI (24))), (2, .int (-1)), (0, .ref (b 0)), (1, .int (nI (fb_ct (isF par (mcol cols rd) n 0).1 n)))]) hx hb dX1_buildSet_31 hl (by decide) rfl (fun ls hl => ?_)
        have loop_33 : ∀ (fuel : Nat) (k : Nat) (cc : Int32) (q : Nat), (k ≤ n) → (q ≤ 24) → (∀ u, u < n → latB (mcol cols rd) cc q u = !(isF par (mcol cols rd) n k).2 u) → n - k < fuel → ∀ (H : Heap) (locs : List Loc), MP E b n ids par cols rd nx (inR n (isF par (mcol cols rd) n k).1 isin) wi wo wf H → va_S (AM b) H0 H locs → ∀ (ls : Array Slot), lv_has ls 8 [(0, .ref (b 0)), (1, .int (nI (fb_ct (isF par (mcol cols rd) n k).1 n))), (2, .int (cc)), (3, .int (nI (q))), (4, .int (nI (k)))] → W p l e (k2_rm 1 22) s m args below meth c H locs 0 0 Q (F0 m 33 ls []) := by
          intro fuel
          induction fuel with
          | zero => intro k cc q hk hq hvis hm; exact absurd hm (Nat.not_lt_zero _)
          | succ fuel ih_33 =>
            intro k cc q hk hq hvis hm H locs hP hS ls hl
            refine lv_iload hx hb dX1_buildSet_33 (lv_at hl 4 rfl) ?_
            refine lv_aload_n hx hb dX1_buildSet_35 rfl (lv_at hl 0 rfl) ?_
            refine m_g0 hC hK hP dX1_buildSet_36 ?_
            refine nv_ge (tgt := 225) hx hb (by omega) (by omega) dX1_buildSet_39 (by decide) (fun c_39 => ?_) (fun c_39 => ?_)
            · refine lv_iload_n hx hb dX1_buildSet_225 rfl (lv_at hl 1 rfl) ?_
              exact hret _ _ _ _ _ (by rw [show k = n by omega] at hP; exact hP) hS dX1_buildSet_226 (by rw [show k = n by omega])
            · refine lv_bipush (v := (pe (none))) hx hb dX1_buildSet_42 (by decide) ?_
              refine lv_istore (lv' := [(5, .int (pe (none))), (0, .ref (b 0)), (1, .int (nI (fb_ct (isF par (mcol cols rd) n k).1 n))), (2, .int (cc)), (3, .int (nI (q))), (4, .int (nI (k)))]) hx hb dX1_buildSet_44 hl (by decide) rfl (fun ls hl => ?_)
              refine lv_iconst (v := (nI (0))) hx hb dX1_buildSet_46 (by decide) ?_
              refine lv_istore (lv' := [(6, .int (nI (0))), (5, .int (pe (none))), (0, .ref (b 0)), (1, .int (nI (fb_ct (isF par (mcol cols rd) n k).1 n))), (2, .int (cc)), (3, .int (nI (q))), (4, .int (nI (k)))]) hx hb dX1_buildSet_47 hl (by decide) rfl (fun ls hl => ?_)
              have loop_49 : ∀ (fuel : Nat) (j : Nat), (j ≤ n) → n - j < fuel → ∀ (H : Heap) (locs : List Loc), MP E b n ids par cols rd nx (inR n (isF par (mcol cols rd) n k).1 isin) wi wo wf H → va_S (AM b) H0 H locs → ∀ (ls : Array Slot), lv_has ls 8 [(0, .ref (b 0)), (1, .int (nI (fb_ct (isF par (mcol cols rd) n k).1 n))), (2, .int (cc)), (3, .int (nI (q))), (4, .int (nI (k))), (5, .int (pe (nvF (mcol cols rd) (isF par (mcol cols rd) n k).2 j))), (6, .int (nI (j)))] → W p l e (k2_rm 1 22) s m args below meth c H locs 0 0 Q (F0 m 49 ls []) := by
                intro fuel
                induction fuel with
                | zero => intro j hj hm; exact absurd hm (Nat.not_lt_zero _)
                | succ fuel ih_49 =>
                  intro j hj hm H locs hP hS ls hl
                  refine lv_iload hx hb dX1_buildSet_49 (lv_at hl 6 rfl) ?_
                  refine lv_aload_n hx hb dX1_buildSet_51 rfl (lv_at hl 0 rfl) ?_
                  refine m_g0 hC hK hP dX1_buildSet_52 ?_
                  refine nv_ge (tgt := 133) hx hb (by omega) (by omega) dX1_buildSet_55 (by decide) (fun c_55 => ?_) (fun c_55 => ?_)
                  · have hjn : j = n := by omega
                    obtain ⟨v, hv⟩ := isF_next (par := par) (col := mcol cols rd) (k := k) (n := n) (by omega)
                    have hvn := (nvF_lt hv).1
                    rw [hjn, hv, show pe (some v) = nI v from rfl] at hl
                    refine lv_aload_n hx hb dX1_buildSet_133 rfl (lv_at hl 0 rfl) ?_
                    refine lv_iload hx hb dX1_buildSet_134 (lv_at hl 5 rfl) ?_
                    refine roV (As := [.int (nI (v))]) hC kX1_46 (cM_col v (by omega) (by omega)) hK hP (m_rec hK hP) rfl rfl hl ⟨Nat.le_of_ble_eq_true rfl, Nat.le_of_ble_eq_true rfl⟩ (Nat.le_of_ble_eq_true rfl) dX1_buildSet_136 ⟨Nat.le_of_ble_eq_true rfl, Nat.le_of_ble_eq_true rfl⟩ ?_
                    refine lv_istore_n (lv' := [(2, .int (mcol cols rd v)), (0, .ref (b 0)), (1, .int (nI (fb_ct (isF par (mcol cols rd) n k).1 n))), (3, .int (nI (q))), (4, .int (nI (k))), (5, .int (nI (v))), (6, .int (nI (n)))]) hx hb dX1_buildSet_139 rfl hl (by decide) rfl (fun ls hl => ?_)
                    refine lv_iload hx hb dX1_buildSet_140 (lv_at hl 5 rfl) ?_
                    refine lv_istore_n (lv' := [(3, .int (nI (v))), (2, .int (mcol cols rd v)), (0, .ref (b 0)), (1, .int (nI (fb_ct (isF par (mcol cols rd) n k).1 n))), (4, .int (nI (k))), (5, .int (nI (v))), (6, .int (nI (n)))]) hx hb dX1_buildSet_142 rfl hl (by decide) rfl (fun ls hl => ?_)
                    refine lv_iconst (v := (b2i (true))) hx hb dX1_buildSet_143 (by decide) ?_
                    refine lv_istore (lv' := [(6, .int (b2i (true))), (3, .int (nI (v))), (2, .int (mcol cols rd v)), (0, .ref (b 0)), (1, .int (nI (fb_ct (isF par (mcol cols rd) n k).1 n))), (4, .int (nI (k))), (5, .int (nI (v)))]) hx hb dX1_buildSet_144 hl (by decide) rfl (fun ls hl => ?_)
                    refine lv_iconst (v := (nI (0))) hx hb dX1_buildSet_146 (by decide) ?_
                    refine lv_istore (lv' := [(7, .int (nI (0))), (6, .int (b2i (true))), (3, .int (nI (v))), (2, .int (mcol cols rd v)), (0, .ref (b 0)), (1, .int (nI (fb_ct (isF par (mcol cols rd) n k).1 n))), (4, .int (nI (k))), (5, .int (nI (v)))]) hx hb dX1_buildSet_147 hl (by decide) rfl (fun ls hl => ?_)
                    have loop_149 : ∀ (fuel : Nat) (i : Nat), (i ≤ n) → n - i < fuel → ∀ (H : Heap) (locs : List Loc), MP E b n ids par cols rd nx (inR n (isF par (mcol cols rd) n k).1 isin) wi wo wf H → va_S (AM b) H0 H locs → ∀ (ls : Array Slot), lv_has ls 8 [(0, .ref (b 0)), (1, .int (nI (fb_ct (isF par (mcol cols rd) n k).1 n))), (2, .int (mcol cols rd v)), (3, .int (nI (v))), (4, .int (nI (k))), (5, .int (nI (v))), (6, .int (b2i (!anyB (fun o => inR n (isF par (mcol cols rd) n k).1 isin o && nb par v o) i))), (7, .int (nI (i)))] → W p l e (k2_rm 1 22) s m args below meth c H locs 0 0 Q (F0 m 149 ls []) := by
                      intro fuel
                      induction fuel with
                      | zero => intro i hi hm; exact absurd hm (Nat.not_lt_zero _)
                      | succ fuel ih_149 =>
                        intro i hi hm H locs hP hS ls hl
                        refine lv_iload hx hb dX1_buildSet_149 (lv_at hl 7 rfl) ?_
                        refine lv_aload_n hx hb dX1_buildSet_151 rfl (lv_at hl 0 rfl) ?_
                        refine m_g0 hC hK hP dX1_buildSet_152 ?_
                        refine nv_ge (tgt := 197) hx hb (by omega) (by omega) dX1_buildSet_155 (by decide) (fun c_155 => ?_) (fun c_155 => ?_)
                        · have hin : i = n := by omega
                          rw [hin, free_any] at hl
                          have hfr : (!anyB (fun o => nb par v o && (isF par (mcol cols rd) n k).1 o) n) = !anyB (fun o => nb par v o && (isF par (mcol cols rd) n k).1 o) n := rfl
                          have hcn := (isF_put (isin := isin) hv hfr).2
                          refine lv_aload_n hx hb dX1_buildSet_197 rfl (lv_at hl 0 rfl) ?_
                          refine m_g6 hC hK hP dX1_buildSet_198 ?_
                          refine lv_iload hx hb dX1_buildSet_201 (lv_at hl 5 rfl) ?_
                          refine lv_iload hx hb dX1_buildSet_203 (lv_at hl 6 rfl) ?_
                          refine m_st5 (x := !anyB (fun o => nb par v o && (isF par (mcol cols rd) n k).1 o) n) hx hb hK hI hP hS (by omega) dX1_buildSet_205 (fun H locs hP hS => ?_)
                          refine lv_iload_n hx hb dX1_buildSet_206 rfl (lv_at hl 1 rfl) ?_
                          refine lv_iload hx hb dX1_buildSet_207 (lv_at hl 6 rfl) ?_
                          refine bv_eq (tgt := 216) hx hb dX1_buildSet_209 (by decide) (fun c_209 => ?_) (fun c_209 => ?_)
                          · refine lv_iconst (v := (nI (0))) hx hb dX1_buildSet_216 (by decide) ?_
                            refine lv_iadd hx hb dX1_buildSet_217 ?_
                            refine tI (nI ((fb_ct (isF par (mcol cols rd) n k).1 n) + 0)) (nI_add _ _) ?_
                            refine tI ((nI (fb_ct (isF par (mcol cols rd) n (k + 1)).1 n))) (by rw [hcn, c_209]; rfl) ?_
                            refine lv_istore_n (lv' := [(1, .int (nI (fb_ct (isF par (mcol cols rd) n (k + 1)).1 n))), (0, .ref (b 0)), (2, .int (mcol cols rd v)), (3, .int (nI (v))), (4, .int (nI (k))), (5, .int (nI (v))), (6, .int (b2i (!anyB (fun o => nb par v o && (isF par (mcol cols rd) n k).1 o) n))), (7, .int (nI (n)))]) hx hb dX1_buildSet_218 rfl hl (by decide) rfl (fun ls hl => ?_)
                            refine lv_iinc (v := (nI (k + 1))) (lv' := [(4, .int (nI (k + 1))), (1, .int (nI (fb_ct (isF par (mcol cols rd) n (k + 1)).1 n))), (0, .ref (b 0)), (2, .int (mcol cols rd v)), (3, .int (nI (v))), (5, .int (nI (v))), (6, .int (b2i (!anyB (fun o => nb par v o && (isF par (mcol cols rd) n k).1 o) n))), (7, .int (nI (n)))]) hx hb dX1_buildSet_219 hl (k := 4) rfl (nI_inc _) (by decide) rfl (fun ls hl => ?_)
                            refine lv_goto (tgt := 33) hx hb dX1_buildSet_222 (by decide) ?_
                            exact ih_33 (k + 1) (mcol cols rd v) v (by omega) (by omega) (by rw [isF_2 hv]; exact lat_step hvis hv) (by omega) _ _ (by rw [(isF_put hv hfr).1] at hP; exact hP) hS ls (lv_sub hl [2, 1, 3, 4, 0] rfl)
                          · refine lv_iconst (v := (nI (1))) hx hb dX1_buildSet_212 (by decide) ?_
                            refine lv_goto (tgt := 217) hx hb dX1_buildSet_213 (by decide) ?_
                            refine lv_iadd hx hb dX1_buildSet_217 ?_
                            refine tI (nI ((fb_ct (isF par (mcol cols rd) n k).1 n) + 1)) (nI_add _ _) ?_
                            refine tI ((nI (fb_ct (isF par (mcol cols rd) n (k + 1)).1 n))) (by rw [hcn, c_209]; rfl) ?_
                            refine lv_istore_n (lv' := [(1, .int (nI (fb_ct (isF par (mcol cols rd) n (k + 1)).1 n))), (0, .ref (b 0)), (2, .int (mcol cols rd v)), (3, .int (nI (v))), (4, .int (nI (k))), (5, .int (nI (v))), (6, .int (b2i (!anyB (fun o => nb par v o && (isF par (mcol cols rd) n k).1 o) n))), (7, .int (nI (n)))]) hx hb dX1_buildSet_218 rfl hl (by decide) rfl (fun ls hl => ?_)
                            refine lv_iinc (v := (nI (k + 1))) (lv' := [(4, .int (nI (k + 1))), (1, .int (nI (fb_ct (isF par (mcol cols rd) n (k + 1)).1 n))), (0, .ref (b 0)), (2, .int (mcol cols rd v)), (3, .int (nI (v))), (5, .int (nI (v))), (6, .int (b2i (!anyB (fun o => nb par v o && (isF par (mcol cols rd) n k).1 o) n))), (7, .int (nI (n)))]) hx hb dX1_buildSet_219 hl (k := 4) rfl (nI_inc _) (by decide) rfl (fun ls hl => ?_)
                            refine lv_goto (tgt := 33) hx hb dX1_buildSet_222 (by decide) ?_
                            exact ih_33 (k + 1) (mcol cols rd v) v (by omega) (by omega) (by rw [isF_2 hv]; exact lat_step hvis hv) (by omega) _ _ (by rw [(isF_put hv hfr).1] at hP; exact hP) hS ls (lv_sub hl [2, 1, 3, 4, 0] rfl)
                        · refine lv_iload hx hb dX1_buildSet_158 (lv_at hl 6 rfl) ?_
                          refine bv_eq (tgt := 188) hx hb dX1_buildSet_160 (by decide) (fun c_160 => ?_) (fun c_160 => ?_)
                          · refine lv_iconst (v := (b2i (false))) hx hb dX1_buildSet_188 (by decide) ?_
                            refine tI ((b2i (!anyB (fun o => inR n (isF par (mcol cols rd) n k).1 isin o && nb par v o) (i + 1)))) (cc_f1 c_160) ?_
                            refine lv_istore (lv' := [(6, .int (b2i (!anyB (fun o => inR n (isF par (mcol cols rd) n k).1 isin o && nb par v o) (i + 1)))), (0, .ref (b 0)), (1, .int (nI (fb_ct (isF par (mcol cols rd) n k).1 n))), (2, .int (mcol cols rd v)), (3, .int (nI (v))), (4, .int (nI (k))), (5, .int (nI (v))), (7, .int (nI (i)))]) hx hb dX1_buildSet_189 hl (by decide) rfl (fun ls hl => ?_)
                            refine lv_iinc (v := (nI (i + 1))) (lv' := [(7, .int (nI (i + 1))), (6, .int (b2i (!anyB (fun o => inR n (isF par (mcol cols rd) n k).1 isin o && nb par v o) (i + 1)))), (0, .ref (b 0)), (1, .int (nI (fb_ct (isF par (mcol cols rd) n k).1 n))), (2, .int (mcol cols rd v)), (3, .int (nI (v))), (4, .int (nI (k))), (5, .int (nI (v)))]) hx hb dX1_buildSet_191 hl (k := 7) rfl (nI_inc _) (by decide) rfl (fun ls hl => ?_)
                            refine lv_goto (tgt := 149) hx hb dX1_buildSet_194 (by decide) ?_
                            exact ih_149 (i + 1) (by omega) (by omega) _ _ (hP) hS ls (lv_sub hl [2, 3, 4, 5, 6, 7, 1, 0] rfl)
                          · refine lv_aload_n hx hb dX1_buildSet_163 rfl (lv_at hl 0 rfl) ?_
                            refine m_g6 hC hK hP dX1_buildSet_164 ?_
                            refine lv_iload hx hb dX1_buildSet_167 (lv_at hl 7 rfl) ?_
                            refine m_ld5 hx hb hK hP (by omega) dX1_buildSet_169 ?_
                            refine bv_eq (tgt := 184) hx hb dX1_buildSet_170 (by decide) (fun c_170 => ?_) (fun c_170 => ?_)
                            · refine lv_iconst (v := (b2i (true))) hx hb dX1_buildSet_184 (by decide) ?_
                              refine tI ((b2i (!anyB (fun o => inR n (isF par (mcol cols rd) n k).1 isin o && nb par v o) (i + 1)))) (cc_t c_160 (by rw [c_170]; rfl)) ?_
                              refine lv_goto (tgt := 189) hx hb dX1_buildSet_185 (by decide) ?_
                              refine lv_istore (lv' := [(6, .int (b2i (!anyB (fun o => inR n (isF par (mcol cols rd) n k).1 isin o && nb par v o) (i + 1)))), (0, .ref (b 0)), (1, .int (nI (fb_ct (isF par (mcol cols rd) n k).1 n))), (2, .int (mcol cols rd v)), (3, .int (nI (v))), (4, .int (nI (k))), (5, .int (nI (v))), (7, .int (nI (i)))]) hx hb dX1_buildSet_189 hl (by decide) rfl (fun ls hl => ?_)
                              refine lv_iinc (v := (nI (i + 1))) (lv' := [(7, .int (nI (i + 1))), (6, .int (b2i (!anyB (fun o => inR n (isF par (mcol cols rd) n k).1 isin o && nb par v o) (i + 1)))), (0, .ref (b 0)), (1, .int (nI (fb_ct (isF par (mcol cols rd) n k).1 n))), (2, .int (mcol cols rd v)), (3, .int (nI (v))), (4, .int (nI (k))), (5, .int (nI (v)))]) hx hb dX1_buildSet_191 hl (k := 7) rfl (nI_inc _) (by decide) rfl (fun ls hl => ?_)
                              refine lv_goto (tgt := 149) hx hb dX1_buildSet_194 (by decide) ?_
                              exact ih_149 (i + 1) (by omega) (by omega) _ _ (hP) hS ls (lv_sub hl [2, 3, 4, 5, 6, 7, 1, 0] rfl)
                            · refine lv_aload_n hx hb dX1_buildSet_173 rfl (lv_at hl 0 rfl) ?_
                              refine lv_iload hx hb dX1_buildSet_174 (lv_at hl 5 rfl) ?_
                              refine lv_iload hx hb dX1_buildSet_176 (lv_at hl 7 rfl) ?_
                              refine roV (As := [.int (nI (v)), .int (nI (i))]) hC kX1_66 (cM_nb v i hn hp (by omega) (by omega)) hK hP (m_rec hK hP) rfl rfl hl ⟨Nat.le_of_ble_eq_true rfl, Nat.le_of_ble_eq_true rfl⟩ (Nat.le_of_ble_eq_true rfl) dX1_buildSet_178 ⟨Nat.le_of_ble_eq_true rfl, Nat.le_of_ble_eq_true rfl⟩ ?_
                              refine bv_ne (tgt := 188) hx hb dX1_buildSet_181 (by decide) (fun c_181 => ?_) (fun c_181 => ?_)
                              · refine lv_iconst (v := (b2i (false))) hx hb dX1_buildSet_188 (by decide) ?_
                                refine tI ((b2i (!anyB (fun o => inR n (isF par (mcol cols rd) n k).1 isin o && nb par v o) (i + 1)))) (cc_f2 (by rw [c_170, c_181]; rfl)) ?_
                                refine lv_istore (lv' := [(6, .int (b2i (!anyB (fun o => inR n (isF par (mcol cols rd) n k).1 isin o && nb par v o) (i + 1)))), (0, .ref (b 0)), (1, .int (nI (fb_ct (isF par (mcol cols rd) n k).1 n))), (2, .int (mcol cols rd v)), (3, .int (nI (v))), (4, .int (nI (k))), (5, .int (nI (v))), (7, .int (nI (i)))]) hx hb dX1_buildSet_189 hl (by decide) rfl (fun ls hl => ?_)
                                refine lv_iinc (v := (nI (i + 1))) (lv' := [(7, .int (nI (i + 1))), (6, .int (b2i (!anyB (fun o => inR n (isF par (mcol cols rd) n k).1 isin o && nb par v o) (i + 1)))), (0, .ref (b 0)), (1, .int (nI (fb_ct (isF par (mcol cols rd) n k).1 n))), (2, .int (mcol cols rd v)), (3, .int (nI (v))), (4, .int (nI (k))), (5, .int (nI (v)))]) hx hb dX1_buildSet_191 hl (k := 7) rfl (nI_inc _) (by decide) rfl (fun ls hl => ?_)
                                refine lv_goto (tgt := 149) hx hb dX1_buildSet_194 (by decide) ?_
                                exact ih_149 (i + 1) (by omega) (by omega) _ _ (hP) hS ls (lv_sub hl [2, 3, 4, 5, 6, 7, 1, 0] rfl)
                              · refine lv_iconst (v := (b2i (true))) hx hb dX1_buildSet_184 (by decide) ?_
                                refine tI ((b2i (!anyB (fun o => inR n (isF par (mcol cols rd) n k).1 isin o && nb par v o) (i + 1)))) (cc_t c_160 (by rw [c_181, Bool.and_false])) ?_
                                refine lv_goto (tgt := 189) hx hb dX1_buildSet_185 (by decide) ?_
                                refine lv_istore (lv' := [(6, .int (b2i (!anyB (fun o => inR n (isF par (mcol cols rd) n k).1 isin o && nb par v o) (i + 1)))), (0, .ref (b 0)), (1, .int (nI (fb_ct (isF par (mcol cols rd) n k).1 n))), (2, .int (mcol cols rd v)), (3, .int (nI (v))), (4, .int (nI (k))), (5, .int (nI (v))), (7, .int (nI (i)))]) hx hb dX1_buildSet_189 hl (by decide) rfl (fun ls hl => ?_)
                                refine lv_iinc (v := (nI (i + 1))) (lv' := [(7, .int (nI (i + 1))), (6, .int (b2i (!anyB (fun o => inR n (isF par (mcol cols rd) n k).1 isin o && nb par v o) (i + 1)))), (0, .ref (b 0)), (1, .int (nI (fb_ct (isF par (mcol cols rd) n k).1 n))), (2, .int (mcol cols rd v)), (3, .int (nI (v))), (4, .int (nI (k))), (5, .int (nI (v)))]) hx hb dX1_buildSet_191 hl (k := 7) rfl (nI_inc _) (by decide) rfl (fun ls hl => ?_)
                                refine lv_goto (tgt := 149) hx hb dX1_buildSet_194 (by decide) ?_
                                exact ih_149 (i + 1) (by omega) (by omega) _ _ (hP) hS ls (lv_sub hl [2, 3, 4, 5, 6, 7, 1, 0] rfl)
                    exact loop_149 (n - 0 + 1) 0 (Nat.zero_le _) (Nat.lt_succ_self _) _ _ (hP) hS ls (lv_sub hl [4, 5, 3, 2, 6, 7, 1, 0] rfl)
                  · have join_91 : ∀ (H : Heap) (locs : List Loc), MP E b n ids par cols rd nx (inR n (isF par (mcol cols rd) n k).1 isin) wi wo wf H → va_S (AM b) H0 H locs → ∀ (ls : Array Slot), lv_has ls 8 [(0, .ref (b 0)), (1, .int (nI (fb_ct (isF par (mcol cols rd) n k).1 n))), (2, .int (cc)), (3, .int (nI (q))), (4, .int (nI (k))), (5, .int (pe (nvF (mcol cols rd) (isF par (mcol cols rd) n k).2 j))), (6, .int (nI (j))), (7, .int (b2i (!(isF par (mcol cols rd) n k).2 j)))] → W p l e (k2_rm 1 22) s m args below meth c H locs 0 0 Q (F0 m 91 ls []) := by
                      intro   H locs hP hS ls hl
                      refine lv_iload hx hb dX1_buildSet_91 (lv_at hl 7 rfl) ?_
                      refine bv_eq (tgt := 123) hx hb dX1_buildSet_93 (by decide) (fun c_93 => ?_) (fun c_93 => ?_)
                      · refine lv_iload hx hb dX1_buildSet_123 (lv_at hl 5 rfl) ?_
                        refine tI ((pe (nvF (mcol cols rd) (isF par (mcol cols rd) n k).2 (j + 1)))) (by rw [nvF_in (by simpa using c_93)]) ?_
                        refine lv_istore (lv' := [(5, .int (pe (nvF (mcol cols rd) (isF par (mcol cols rd) n k).2 (j + 1)))), (0, .ref (b 0)), (1, .int (nI (fb_ct (isF par (mcol cols rd) n k).1 n))), (2, .int (cc)), (3, .int (nI (q))), (4, .int (nI (k))), (6, .int (nI (j))), (7, .int (b2i (!(isF par (mcol cols rd) n k).2 j)))]) hx hb dX1_buildSet_125 hl (by decide) rfl (fun ls hl => ?_)
                        refine lv_iinc (v := (nI (j + 1))) (lv' := [(6, .int (nI (j + 1))), (5, .int (pe (nvF (mcol cols rd) (isF par (mcol cols rd) n k).2 (j + 1)))), (0, .ref (b 0)), (1, .int (nI (fb_ct (isF par (mcol cols rd) n k).1 n))), (2, .int (cc)), (3, .int (nI (q))), (4, .int (nI (k))), (7, .int (b2i (!(isF par (mcol cols rd) n k).2 j)))]) hx hb dX1_buildSet_127 hl (k := 6) rfl (nI_inc _) (by decide) rfl (fun ls hl => ?_)
                        refine lv_goto (tgt := 49) hx hb dX1_buildSet_130 (by decide) ?_
                        exact ih_49 (j + 1) (by omega) (by omega) _ _ (hP) hS ls (lv_sub hl [2, 3, 4, 5, 6, 1, 0] rfl)
                      · refine lv_iload hx hb dX1_buildSet_96 (lv_at hl 5 rfl) ?_
                        refine lv_bipush (v := (-7)) hx hb dX1_buildSet_98 (by decide) ?_
                        refine pv_eq7 (tgt := 118) hx hb (fun u hu => by have := (nvF_lt hu).1; omega) dX1_buildSet_100 (by decide) (fun c_100 => ?_) (fun c_100 => ?_)
                        · refine lv_iload hx hb dX1_buildSet_118 (lv_at hl 6 rfl) ?_
                          refine tI ((pe (nvF (mcol cols rd) (isF par (mcol cols rd) n k).2 (j + 1)))) (by rw [nvF_first (by simpa using c_93) c_100]; rfl) ?_
                          refine lv_goto (tgt := 125) hx hb dX1_buildSet_120 (by decide) ?_
                          refine lv_istore (lv' := [(5, .int (pe (nvF (mcol cols rd) (isF par (mcol cols rd) n k).2 (j + 1)))), (0, .ref (b 0)), (1, .int (nI (fb_ct (isF par (mcol cols rd) n k).1 n))), (2, .int (cc)), (3, .int (nI (q))), (4, .int (nI (k))), (6, .int (nI (j))), (7, .int (b2i (!(isF par (mcol cols rd) n k).2 j)))]) hx hb dX1_buildSet_125 hl (by decide) rfl (fun ls hl => ?_)
                          refine lv_iinc (v := (nI (j + 1))) (lv' := [(6, .int (nI (j + 1))), (5, .int (pe (nvF (mcol cols rd) (isF par (mcol cols rd) n k).2 (j + 1)))), (0, .ref (b 0)), (1, .int (nI (fb_ct (isF par (mcol cols rd) n k).1 n))), (2, .int (cc)), (3, .int (nI (q))), (4, .int (nI (k))), (7, .int (b2i (!(isF par (mcol cols rd) n k).2 j)))]) hx hb dX1_buildSet_127 hl (k := 6) rfl (nI_inc _) (by decide) rfl (fun ls hl => ?_)
                          refine lv_goto (tgt := 49) hx hb dX1_buildSet_130 (by decide) ?_
                          exact ih_49 (j + 1) (by omega) (by omega) _ _ (hP) hS ls (lv_sub hl [2, 3, 4, 5, 6, 1, 0] rfl)
                        · obtain ⟨z, hz⟩ := ex_some c_100
                          have hzj := (nvF_lt hz).1
                          refine lv_aload_n hx hb dX1_buildSet_103 rfl (lv_at hl 0 rfl) ?_
                          refine lv_iload hx hb dX1_buildSet_104 (lv_at hl 6 rfl) ?_
                          refine roV (As := [.int (nI (j))]) hC kX1_46 (cM_col j (by omega) (by omega)) hK hP (m_rec hK hP) rfl rfl hl ⟨Nat.le_of_ble_eq_true rfl, Nat.le_of_ble_eq_true rfl⟩ (Nat.le_of_ble_eq_true rfl) dX1_buildSet_106 ⟨Nat.le_of_ble_eq_true rfl, Nat.le_of_ble_eq_true rfl⟩ ?_
                          refine lv_aload_n hx hb dX1_buildSet_109 rfl (lv_at hl 0 rfl) ?_
                          refine lv_iload hx hb dX1_buildSet_110 (lv_at hl 5 rfl) ?_
                          refine tI ((nI (z))) (by rw [hz]; rfl) ?_
                          refine roV (As := [.int (nI (z))]) hC kX1_46 (cM_col z (by omega) (by omega)) hK hP (m_rec hK hP) rfl rfl hl ⟨Nat.le_of_ble_eq_true rfl, Nat.le_of_ble_eq_true rfl⟩ (Nat.le_of_ble_eq_true rfl) dX1_buildSet_112 ⟨Nat.le_of_ble_eq_true rfl, Nat.le_of_ble_eq_true rfl⟩ ?_
                          refine lv_icmp_ge (tgt := 123) hx hb dX1_buildSet_115 (by decide) (fun c_115 => ?_) (fun c_115 => ?_)
                          · refine lv_iload hx hb dX1_buildSet_123 (lv_at hl 5 rfl) ?_
                            refine tI ((pe (nvF (mcol cols rd) (isF par (mcol cols rd) n k).2 (j + 1)))) (by rw [nvF_ge (by simpa using c_93) hz (Int32.not_lt.mpr c_115)]) ?_
                            refine lv_istore (lv' := [(5, .int (pe (nvF (mcol cols rd) (isF par (mcol cols rd) n k).2 (j + 1)))), (0, .ref (b 0)), (1, .int (nI (fb_ct (isF par (mcol cols rd) n k).1 n))), (2, .int (cc)), (3, .int (nI (q))), (4, .int (nI (k))), (6, .int (nI (j))), (7, .int (b2i (!(isF par (mcol cols rd) n k).2 j)))]) hx hb dX1_buildSet_125 hl (by decide) rfl (fun ls hl => ?_)
                            refine lv_iinc (v := (nI (j + 1))) (lv' := [(6, .int (nI (j + 1))), (5, .int (pe (nvF (mcol cols rd) (isF par (mcol cols rd) n k).2 (j + 1)))), (0, .ref (b 0)), (1, .int (nI (fb_ct (isF par (mcol cols rd) n k).1 n))), (2, .int (cc)), (3, .int (nI (q))), (4, .int (nI (k))), (7, .int (b2i (!(isF par (mcol cols rd) n k).2 j)))]) hx hb dX1_buildSet_127 hl (k := 6) rfl (nI_inc _) (by decide) rfl (fun ls hl => ?_)
                            refine lv_goto (tgt := 49) hx hb dX1_buildSet_130 (by decide) ?_
                            exact ih_49 (j + 1) (by omega) (by omega) _ _ (hP) hS ls (lv_sub hl [2, 3, 4, 5, 6, 1, 0] rfl)
                          · refine lv_iload hx hb dX1_buildSet_118 (lv_at hl 6 rfl) ?_
                            refine tI ((pe (nvF (mcol cols rd) (isF par (mcol cols rd) n k).2 (j + 1)))) (by rw [nvF_lt' (by simpa using c_93) hz (Int32.not_le.mp c_115)]; rfl) ?_
                            refine lv_goto (tgt := 125) hx hb dX1_buildSet_120 (by decide) ?_
                            refine lv_istore (lv' := [(5, .int (pe (nvF (mcol cols rd) (isF par (mcol cols rd) n k).2 (j + 1)))), (0, .ref (b 0)), (1, .int (nI (fb_ct (isF par (mcol cols rd) n k).1 n))), (2, .int (cc)), (3, .int (nI (q))), (4, .int (nI (k))), (6, .int (nI (j))), (7, .int (b2i (!(isF par (mcol cols rd) n k).2 j)))]) hx hb dX1_buildSet_125 hl (by decide) rfl (fun ls hl => ?_)
                            refine lv_iinc (v := (nI (j + 1))) (lv' := [(6, .int (nI (j + 1))), (5, .int (pe (nvF (mcol cols rd) (isF par (mcol cols rd) n k).2 (j + 1)))), (0, .ref (b 0)), (1, .int (nI (fb_ct (isF par (mcol cols rd) n k).1 n))), (2, .int (cc)), (3, .int (nI (q))), (4, .int (nI (k))), (7, .int (b2i (!(isF par (mcol cols rd) n k).2 j)))]) hx hb dX1_buildSet_127 hl (k := 6) rfl (nI_inc _) (by decide) rfl (fun ls hl => ?_)
                            refine lv_goto (tgt := 49) hx hb dX1_buildSet_130 (by decide) ?_
                            exact ih_49 (j + 1) (by omega) (by omega) _ _ (hP) hS ls (lv_sub hl [2, 3, 4, 5, 6, 1, 0] rfl)
                    refine lv_aload_n hx hb dX1_buildSet_58 rfl (lv_at hl 0 rfl) ?_
                    refine lv_iload hx hb dX1_buildSet_59 (lv_at hl 6 rfl) ?_
                    refine roV (As := [.int (nI (j))]) hC kX1_46 (cM_col j (by omega) (by omega)) hK hP (m_rec hK hP) rfl rfl hl ⟨Nat.le_of_ble_eq_true rfl, Nat.le_of_ble_eq_true rfl⟩ (Nat.le_of_ble_eq_true rfl) dX1_buildSet_61 ⟨Nat.le_of_ble_eq_true rfl, Nat.le_of_ble_eq_true rfl⟩ ?_
                    refine lv_iload_n hx hb dX1_buildSet_64 rfl (lv_at hl 2 rfl) ?_
                    refine lv_icmp_gt (tgt := 84) hx hb dX1_buildSet_65 (by decide) (fun c_65 => ?_) (fun c_65 => ?_)
                    · refine lv_iconst (v := (b2i (true))) hx hb dX1_buildSet_84 (by decide) ?_
                      refine tI ((b2i (!(isF par (mcol cols rd) n k).2 j))) (by rw [← hvis j (by omega)]; simp [latB, c_65, b2i]) ?_
                      refine lv_goto (tgt := 89) hx hb dX1_buildSet_85 (by decide) ?_
                      refine lv_istore (lv' := [(7, .int (b2i (!(isF par (mcol cols rd) n k).2 j))), (0, .ref (b 0)), (1, .int (nI (fb_ct (isF par (mcol cols rd) n k).1 n))), (2, .int (cc)), (3, .int (nI (q))), (4, .int (nI (k))), (5, .int (pe (nvF (mcol cols rd) (isF par (mcol cols rd) n k).2 j))), (6, .int (nI (j)))]) hx hb dX1_buildSet_89 hl (by decide) rfl (fun ls hl => ?_)
                      exact join_91   _ _ (hP) hS ls (lv_sub hl [1, 2, 3, 4, 5, 6, 7, 0] rfl)
                    · refine lv_aload_n hx hb dX1_buildSet_68 rfl (lv_at hl 0 rfl) ?_
                      refine lv_iload hx hb dX1_buildSet_69 (lv_at hl 6 rfl) ?_
                      refine roV (As := [.int (nI (j))]) hC kX1_46 (cM_col j (by omega) (by omega)) hK hP (m_rec hK hP) rfl rfl hl ⟨Nat.le_of_ble_eq_true rfl, Nat.le_of_ble_eq_true rfl⟩ (Nat.le_of_ble_eq_true rfl) dX1_buildSet_71 ⟨Nat.le_of_ble_eq_true rfl, Nat.le_of_ble_eq_true rfl⟩ ?_
                      refine lv_iload_n hx hb dX1_buildSet_74 rfl (lv_at hl 2 rfl) ?_
                      refine lv_icmp_ne (tgt := 88) hx hb dX1_buildSet_75 (by decide) (fun c_75 => ?_) (fun c_75 => ?_)
                      · refine lv_iconst (v := (b2i (false))) hx hb dX1_buildSet_88 (by decide) ?_
                        refine tI ((b2i (!(isF par (mcol cols rd) n k).2 j))) (by rw [← hvis j (by omega)]; simp [latB, c_65, c_75, b2i]) ?_
                        refine lv_istore (lv' := [(7, .int (b2i (!(isF par (mcol cols rd) n k).2 j))), (0, .ref (b 0)), (1, .int (nI (fb_ct (isF par (mcol cols rd) n k).1 n))), (2, .int (cc)), (3, .int (nI (q))), (4, .int (nI (k))), (5, .int (pe (nvF (mcol cols rd) (isF par (mcol cols rd) n k).2 j))), (6, .int (nI (j)))]) hx hb dX1_buildSet_89 hl (by decide) rfl (fun ls hl => ?_)
                        exact join_91   _ _ (hP) hS ls (lv_sub hl [1, 2, 3, 4, 5, 6, 7, 0] rfl)
                      · refine lv_iload hx hb dX1_buildSet_78 (lv_at hl 6 rfl) ?_
                        refine lv_iload_n hx hb dX1_buildSet_80 rfl (lv_at hl 3 rfl) ?_
                        refine nv_le (tgt := 88) hx hb (by omega) (by omega) dX1_buildSet_81 (by decide) (fun c_81 => ?_) (fun c_81 => ?_)
                        · refine lv_iconst (v := (b2i (false))) hx hb dX1_buildSet_88 (by decide) ?_
                          refine tI ((b2i (!(isF par (mcol cols rd) n k).2 j))) (by rw [← hvis j (by omega)]; simp [latB, c_65, show ¬ q < j by omega, b2i]) ?_
                          refine lv_istore (lv' := [(7, .int (b2i (!(isF par (mcol cols rd) n k).2 j))), (0, .ref (b 0)), (1, .int (nI (fb_ct (isF par (mcol cols rd) n k).1 n))), (2, .int (cc)), (3, .int (nI (q))), (4, .int (nI (k))), (5, .int (pe (nvF (mcol cols rd) (isF par (mcol cols rd) n k).2 j))), (6, .int (nI (j)))]) hx hb dX1_buildSet_89 hl (by decide) rfl (fun ls hl => ?_)
                          exact join_91   _ _ (hP) hS ls (lv_sub hl [1, 2, 3, 4, 5, 6, 7, 0] rfl)
                        · refine lv_iconst (v := (b2i (true))) hx hb dX1_buildSet_84 (by decide) ?_
                          refine tI ((b2i (!(isF par (mcol cols rd) n k).2 j))) (by rw [← hvis j (by omega)]; simp [latB, c_75, c_81, b2i]) ?_
                          refine lv_goto (tgt := 89) hx hb dX1_buildSet_85 (by decide) ?_
                          refine lv_istore (lv' := [(7, .int (b2i (!(isF par (mcol cols rd) n k).2 j))), (0, .ref (b 0)), (1, .int (nI (fb_ct (isF par (mcol cols rd) n k).1 n))), (2, .int (cc)), (3, .int (nI (q))), (4, .int (nI (k))), (5, .int (pe (nvF (mcol cols rd) (isF par (mcol cols rd) n k).2 j))), (6, .int (nI (j)))]) hx hb dX1_buildSet_89 hl (by decide) rfl (fun ls hl => ?_)
                          exact join_91   _ _ (hP) hS ls (lv_sub hl [1, 2, 3, 4, 5, 6, 7, 0] rfl)
              exact loop_49 (n - 0 + 1) 0 (Nat.zero_le _) (Nat.lt_succ_self _) _ _ (hP) hS ls (lv_sub hl [2, 3, 4, 5, 6, 1, 0] rfl)
        exact loop_33 (n - 0 + 1) 0 (-1) 24 (Nat.zero_le _) (Nat.le_refl _) (fun u hu => by rw [lat_0 hc0 hu]; rfl) (Nat.lt_succ_self _) _ _ (hP) hS ls (lv_sub hl [3, 4, 2, 1, 0] rfl)
      · refine lv_aload_n hx hb dX1_buildSet_12 rfl (lv_at hl 0 rfl) ?_
        refine m_g6 hC hK hP dX1_buildSet_13 ?_
        refine lv_iload_n hx hb dX1_buildSet_16 rfl (lv_at hl 2 rfl) ?_
        refine lv_iconst (v := (b2i (false))) hx hb dX1_buildSet_17 (by decide) ?_
        refine m_st5 (x := false) hx hb hK hI hP hS (by omega) dX1_buildSet_18 (fun H locs hP hS => ?_)
        refine lv_iinc (v := (nI (k + 1))) (lv' := [(2, .int (nI (k + 1))), (0, .ref (b 0)), (1, .int (nI (fb_ct (isF par (mcol cols rd) n 0).1 n)))]) hx hb dX1_buildSet_19 hl (k := 2) rfl (nI_inc _) (by decide) rfl (fun ls hl => ?_)
        refine lv_goto (tgt := 4) hx hb dX1_buildSet_22 (by decide) ?_
        exact ih_4 (k + 1) (by omega) (by omega) _ _ (by rw [clF_s] at hP; exact hP) hS ls (lv_sub hl [1, 2, 0] rfl)
  exact loop_4 (n - 0 + 1) 0 (Nat.zero_le _) (Nat.lt_succ_self _) _ _ (hP) hS ls (lv_sub hl [2, 1, 0] rfl)
set_option maxRecDepth 100000 in
set_option maxHeartbeats 4000000 in
theorem cM_inSet {l : Launch} {E : EE} {b : Nat → Nat} {n : Nat} {ids : Nat → Int32} {par : Nat → Option Nat} {cols : Nat → Int32} {rd : Nat} {nx : Nat → Int32} {isin : Nat → Bool} {wi wo : Nat → Nat} {wf : Nat → Option Nat} (x : Int32) (hI : inj 9 b)(hn : n ≤ 24)(hp : PW n par)(hrd : rd < 100000)(hc0 : ∀ v, v < n → ¬ mcol cols rd v < 0) : WR l E (MP E b n ids par cols rd nx isin wi wo wf) (AM b) yX1_inIndependentSet cX1_inIndependentSet 2 (some .int) 3 64 [.ref (b 0), .int (x)] (some (.int (oN (vN n x) (fun v => if propB n par (mcol cols rd) = true then b2i ((isF par (mcol cols rd) n n).1 v) else -5)))) (MX E b n ids par cols rd) := by
  refine WR.mkI (C := RX1) rfl rfl (by decide) rfl (Nat.le_of_ble_eq_true rfl) ?_
  intro p e s m args below meth c H0 Q hC hK hP hret ls hl
  obtain ⟨hx, hb, hml, hown, hts⟩ := id hC
  have hl : lv_has ls 2 [(0, .ref (b 0)), (1, .int (x))] := hl
  have hS : va_S (AM b) H0 H0 [] := va_S.rf
  have hP : MP E b n ids par cols rd nx isin wi wo wf H0 := hP
  refine lv_aload_n hx hb dX1_inIndependentSet_0 rfl (lv_at hl 0 rfl) ?_
  refine lv_iload_n hx hb dX1_inIndependentSet_1 rfl (lv_at hl 1 rfl) ?_
  refine roV (As := [.int (x)]) hC kX1_58 (cM_isNode ((x)) hn) hK hP (m_rec hK hP) rfl rfl hl ⟨Nat.le_of_ble_eq_true rfl, Nat.le_of_ble_eq_true rfl⟩ (Nat.le_of_ble_eq_true rfl) dX1_inIndependentSet_2 ⟨Nat.le_of_ble_eq_true rfl, Nat.le_of_ble_eq_true rfl⟩ ?_
  refine bv_ne (tgt := 10) hx hb dX1_inIndependentSet_5 (by decide) (fun c_5 => ?_) (fun c_5 => ?_)
  · obtain ⟨v, hv, rfl⟩ := vN_t hn c_5
    refine lv_aload_n hx hb dX1_inIndependentSet_10 rfl (lv_at hl 0 rfl) ?_
    refine roV (As := []) hC kX1_89 (cM_conflicts  hn hp hrd) hK hP (m_rec hK hP) rfl rfl hl ⟨Nat.le_of_ble_eq_true rfl, Nat.le_of_ble_eq_true rfl⟩ (Nat.le_of_ble_eq_true rfl) dX1_inIndependentSet_11 ⟨Nat.le_of_ble_eq_true rfl, Nat.le_of_ble_eq_true rfl⟩ ?_
    refine lv_if_le (tgt := 20) hx hb dX1_inIndependentSet_14 (by decide) (fun c_14 => ?_) (fun c_14 => ?_)
    · rw [prop_0 hn] at c_14
      refine lv_aload_n hx hb dX1_inIndependentSet_20 rfl (lv_at hl 0 rfl) ?_
      refine wrV (As := []) hC kX1_110 (cM_build  hI hn hp hrd hc0) hK hP (m_rec hK hP) hS (fun _ h => h) rfl rfl hl ⟨Nat.le_of_ble_eq_true rfl, Nat.le_of_ble_eq_true rfl⟩ (Nat.le_of_ble_eq_true rfl) dX1_inIndependentSet_21 ⟨Nat.le_of_ble_eq_true rfl, Nat.le_of_ble_eq_true rfl⟩ (fun H locs hP hS _ _ => ?_)
      refine lv_pop hx hb dX1_inIndependentSet_24 rfl ?_
      refine lv_aload_n hx hb dX1_inIndependentSet_25 rfl (lv_at hl 0 rfl) ?_
      refine m_g6 hC hK hP dX1_inIndependentSet_26 ?_
      refine lv_iload_n hx hb dX1_inIndependentSet_29 rfl (lv_at hl 1 rfl) ?_
      refine m_ld5 hx hb hK hP (by omega) dX1_inIndependentSet_30 ?_
      refine tI ((b2i ((isF par (mcol cols rd) n n).1 v))) (by rw [inR_lt hv]) ?_
      refine bv_eq (tgt := 38) hx hb dX1_inIndependentSet_31 (by decide) (fun c_31 => ?_) (fun c_31 => ?_)
      · refine lv_iconst (v := (0)) hx hb dX1_inIndependentSet_38 (by decide) ?_
        exact hret _ _ _ _ _ (⟨_, _, _, _, _, hP⟩) hS dX1_inIndependentSet_39 (by rw [oN_in hn hv, if_pos c_14, c_31]; rfl)
      · refine lv_iconst (v := (1)) hx hb dX1_inIndependentSet_34 (by decide) ?_
        refine lv_goto (tgt := 39) hx hb dX1_inIndependentSet_35 (by decide) ?_
        exact hret _ _ _ _ _ (⟨_, _, _, _, _, hP⟩) hS dX1_inIndependentSet_39 (by rw [oN_in hn hv, if_pos c_14, c_31]; rfl)
    · rw [prop_0 hn] at c_14
      refine lv_bipush (v := (-5)) hx hb dX1_inIndependentSet_17 (by decide) ?_
      exact hret _ _ _ _ _ (⟨_, _, _, _, _, hP⟩) hS dX1_inIndependentSet_19 (by rw [oN_in hn hv, if_neg c_14])
  · refine lv_iconst (v := (-1)) hx hb dX1_inIndependentSet_8 (by decide) ?_
    exact hret _ _ _ _ _ (⟨_, _, _, _, _, hP⟩) hS dX1_inIndependentSet_9 ((oN_out c_5 _).symm)
set_option maxRecDepth 100000 in
set_option maxHeartbeats 4000000 in
theorem cM_setSize {l : Launch} {E : EE} {b : Nat → Nat} {n : Nat} {ids : Nat → Int32} {par : Nat → Option Nat} {cols : Nat → Int32} {rd : Nat} {nx : Nat → Int32} {isin : Nat → Bool} {wi wo : Nat → Nat} {wf : Nat → Option Nat}  (hI : inj 9 b)(hn : n ≤ 24)(hp : PW n par)(hrd : rd < 100000)(hc0 : ∀ v, v < n → ¬ mcol cols rd v < 0) : WR l E (MP E b n ids par cols rd nx isin wi wo wf) (AM b) yX1_independentSetSize cX1_independentSetSize 1 (some .int) 3 64 [.ref (b 0)] (some (.int (if propB n par (mcol cols rd) = true then nI (fb_ct (isF par (mcol cols rd) n n).1 n) else -5))) (MX E b n ids par cols rd) := by
  refine WR.mkI (C := RX1) rfl rfl (by decide) rfl (Nat.le_of_ble_eq_true rfl) ?_
  intro p e s m args below meth c H0 Q hC hK hP hret ls hl
  obtain ⟨hx, hb, hml, hown, hts⟩ := id hC
  have hl : lv_has ls 1 [(0, .ref (b 0))] := hl
  have hS : va_S (AM b) H0 H0 [] := va_S.rf
  have hP : MP E b n ids par cols rd nx isin wi wo wf H0 := hP
  refine lv_aload_n hx hb dX1_independentSetSize_0 rfl (lv_at hl 0 rfl) ?_
  refine roV (As := []) hC kX1_89 (cM_conflicts  hn hp hrd) hK hP (m_rec hK hP) rfl rfl hl ⟨Nat.le_of_ble_eq_true rfl, Nat.le_of_ble_eq_true rfl⟩ (Nat.le_of_ble_eq_true rfl) dX1_independentSetSize_1 ⟨Nat.le_of_ble_eq_true rfl, Nat.le_of_ble_eq_true rfl⟩ ?_
  refine lv_if_le (tgt := 12) hx hb dX1_independentSetSize_4 (by decide) (fun c_4 => ?_) (fun c_4 => ?_)
  · rw [prop_0 hn] at c_4
    refine lv_aload_n hx hb dX1_independentSetSize_12 rfl (lv_at hl 0 rfl) ?_
    refine wrV (As := []) hC kX1_110 (cM_build  hI hn hp hrd hc0) hK hP (m_rec hK hP) hS (fun _ h => h) rfl rfl hl ⟨Nat.le_of_ble_eq_true rfl, Nat.le_of_ble_eq_true rfl⟩ (Nat.le_of_ble_eq_true rfl) dX1_independentSetSize_13 ⟨Nat.le_of_ble_eq_true rfl, Nat.le_of_ble_eq_true rfl⟩ (fun H locs hP hS _ _ => ?_)
    exact hret _ _ _ _ _ (⟨_, _, _, _, _, hP⟩) hS dX1_independentSetSize_16 (by rw [if_pos c_4])
  · rw [prop_0 hn] at c_4
    refine lv_bipush (v := (-5)) hx hb dX1_independentSetSize_7 (by decide) ?_
    refine lv_goto (tgt := 16) hx hb dX1_independentSetSize_9 (by decide) ?_
    exact hret _ _ _ _ _ (⟨_, _, _, _, _, hP⟩) hS dX1_independentSetSize_16 (by rw [if_neg c_4])
end
