-- out of claim/NAMES.whole.lean.txt (printed; a starting text): names, fields; va_AOA is mine
/-- the tables' word on arrays over an array class, as a state's fact -/
def va_AOA (ty : FieldType) (U : State) : Prop := (Cond.arrayOver (.array ty)).before #[] U = true
theorem va_AOA.use {ty : FieldType} {A : Array Value} {U : State} (h : va_AOA ty U) : (Cond.arrayOver (.array ty)).before A U = true := h
theorem va_AOA.of {ty : FieldType} {A : Array Value} {U : State} (h : (Cond.arrayOver (.array ty)).before A U = true) : va_AOA ty U := h
/-! ===== BEGIN new T[n][m]: the outer array a place, the inner ones among the pooled ===== -/
/-- f, but v at every address of l -/
def vr_up {α : Type} (f : Nat → α) (l : List Nat) (v : α) : Nat → α := fun a => if a ∈ l then v else f a
theorem vr_up_in {α : Type} {f : Nat → α} {l : List Nat} {v : α} {a : Nat} (h : a ∈ l) : vr_up f l v a = v := if_pos h
theorem vr_up_ne {α : Type} {f : Nat → α} {l : List Nat} {v : α} {a : Nat} (h : a ∉ l) : vr_up f l v a = f a := if_neg h
theorem vr_rows {L l : List Nat} {f : Nat → va_E} {e : va_E} (h : ∀ a, a ∈ l → a ∉ L) : va_pl L f ++ l.map (fun a => (a, e)) = va_pl (L ++ l) (vr_up f l e) := by
  unfold va_pl
  rw [List.map_append]
  congr 1
  · apply List.map_congr_left
    intro a ha
    rw [vr_up_ne (fun q => h a q ha)]
  · apply List.map_congr_left
    intro a ha
    rw [vr_up_in ha]
theorem vr_lay {X rows : va_W} {x : Nat × va_E} {pl : va_W} {D : va_G} {cl : List vw_C} {H : Heap} (hP : va_P D cl (((X ++ pl) ++ [x]) ++ rows) H) : va_P D cl ((X ++ [x]) ++ (pl ++ rows)) H := by
  rw [List.append_assoc (X ++ pl)] at hP
  have h := va_P.swap hP
  rw [← List.append_assoc X] at h
  have h2 := va_P.swap h
  rw [List.append_assoc (X ++ [x])] at h2
  exact h2
theorem vr_layD {X rows : va_W} {x : Nat × va_E} {pl : va_W} {A : Nat → Prop} (hD : va_D A (((X ++ pl) ++ [x]) ++ rows)) : va_D A ((X ++ [x]) ++ (pl ++ rows)) := by
  rw [List.append_assoc (X ++ pl)] at hD
  have h := va_D.swap hD
  rw [← List.append_assoc X] at h
  have h2 := va_D.swap h
  rw [List.append_assoc (X ++ [x])] at h2
  exact h2
theorem vr_outer (c : ClassId) (N h0 : Nat) : ∀ i : Nat, twO c N h0 i = arrV c N (fun j => va_rf (if j < i then some (h0 + 1 + j) else none))
  | 0 => by
    show ({ cls := c, slots := Array.replicate N .null, vm := .none } : Cell) = _
    rw [arrV_new]
    refine congrArg (arrV c N) (funext fun j => ?_)
    simp [va_rf]
  | i + 1 => by
    show (twO c N h0 i).setSlot i (.ref (h0 + 1 + i)) = _
    rw [vr_outer c N h0 i, arrV_store]
    refine congrArg (arrV c N) (funext fun j => ?_)
    by_cases e : j = i
    · subst e
      simp [updV, va_rf]
    · by_cases h : j < i
      · simp [updV, e, h, Nat.lt_succ_of_lt h]
      · simp [updV, e, h, show ¬ j < i + 1 by omega]
section VGM
variable {p : Program} {l : Launch} {e : Env} {R : Room} {s : State} {m : MethodId} {args : Array Value} {below : List Frame} {meth : Method} {c : Code} {H : Heap} {locs : List Loc} {cells slots : Nat} {Q : State → Prop}
variable {cc : ByteArray} {pc : Nat} {ls : Array Slot} {rest : List Value} {D : va_G} {cl : List vw_C} {A : Nat → Prop} {a : Nat} {tys : List (ClassId × FieldType)} {ws : va_W} {H0 : Heap}
theorem va_mna {X : va_W} {L : List Nat} {f : Nat → va_E} {cc : ByteArray} (hexec : p.tables.exec = Jvm.exec) (hb : c.code = cc) {own : String} {index : Nat} {ty : FieldType} {cy : ClassId} (hown : s.vm.findClass own = some m.cls) (hclink : (Cond.classLink own index ("[" ++ (FieldType.array ty).toString)).before args s = true) (hover : va_AOA ty s) (harr : (Cond.arrayClass ty).before args s = true) (hcy : s.vm.findClass (FieldType.array ty).toString = some cy)
    (hK : va_K D cl tys s) (hP : va_P D cl (X ++ va_pl L f) H) (hD : va_D A (X ++ va_pl L f)) (hS : va_S A H0 H locs) (hA : ∀ q, H0.size ≤ q → A q) {n k : Int32} {N' K' : Nat} {z : vp_A} (hn : ¬ n < 0) (hn0 : (n == 0) = false) (hk : ¬ k < 0) (hN : n.toNatClampNeg = N') (hM : k.toNatClampNeg = K')
    (hb1 : N' * 4 ≤ 536870912) (hb2 : K' * componentBytes ty ≤ 536870912) (hb3 : K' ≤ 536870912) (hdf : fits ty (defaultValue ty) = true) (hdd : (defaultValue ty).isDefault = true) (hcells : cells + (1 + N') ≤ R.cells) (hslots : slots + (N' + N' * K') ≤ R.slots) (hz : ∀ c : ClassId, twI c K' (defaultValue ty) = vp_cell c z) (hdg : decode cc pc = .ok (.multianewarray index 2, 4))
    (kk : ∀ (q : Nat) (r : Nat → Nat) (cA : ClassId) (H1 : Heap), (∀ i j : Nat, i < N' → j < N' → r i = r j → i = j) → (∀ i : Nat, i < N' → r i ∉ L) → va_K D cl (tys ++ [(cA, .array ty)]) s →
      va_P D cl ((X ++ [(q, .inl (cA, N', .inr (.inr (.inr (.inr (fun i => if i < N' then some (r i) else none))))))]) ++ va_pl (L ++ (List.range N').map r) (vr_up f ((List.range N').map r) (.inl (cy, z)))) H1 → va_D A ((X ++ [(q, .inl (cA, N', .inr (.inr (.inr (.inr (fun i => if i < N' then some (r i) else none))))))]) ++ va_pl (L ++ (List.range N').map r) (vr_up f ((List.range N').map r) (.inl (cy, z)))) → va_S A H0 H1 locs →
      W p l e R s m args below meth c H1 locs (cells + 1 + N') (slots + N' + N' * K') Q (F0 m (pc + 4) ls (.ref q :: rest))) : W p l e R s m args below meth c H locs cells slots Q (F0 m pc ls (.int k :: .int n :: rest)) := by
  subst hN
  subst hM
  intro T hT Xs
  obtain ⟨vm₁, cA, comp, fA, fC, hAr, X', step⟩ := tw_stand Xs hexec hown hclink (va_AOA.use hover) harr (g := F0 m pc ls (.int k :: .int n :: rest)) rfl (by rw [hb]; exact hdg) rfl hn hn0 hk hb1 hb2 hb3 hdf hcells hslots
  have ec : some cy = some comp := hcy.symm.trans fC
  cases ec
  generalize hF : twF (T.setVm vm₁) cA cy n.toNatClampNeg k.toNatClampNeg (defaultValue ty) n.toNatClampNeg = F at X' step
  have hTh : (T.setVm vm₁).heap = H := hT
  obtain ⟨f1, f2, -⟩ := twF_facts (U := T.setVm vm₁) (cA := cA) (comp := cy) (N := n.toNatClampNeg) (K := k.toNatClampNeg) (dv := defaultValue ty) n.toNatClampNeg
  rw [hF, hTh] at f1 f2
  have hold : ∀ x : Nat, x < H.size → F.heap[x]? = H[x]? := fun x hx => by
    have := twF_old (U := T.setVm vm₁) (cA := cA) (comp := cy) (N := n.toNatClampNeg) (K := k.toNatClampNeg) (dv := defaultValue ty) (x := x) (by rw [hTh]; exact hx) n.toNatClampNeg
    rw [hF, hTh] at this
    exact this
  have hrow : ∀ j : Nat, j < n.toNatClampNeg → F.heap[H.size + 1 + j]? = some (vp_cell cy z) := fun j hj => by
    have := twF_inner (U := T.setVm vm₁) (cA := cA) (comp := cy) (N := n.toNatClampNeg) (K := k.toNatClampNeg) (dv := defaultValue ty) n.toNatClampNeg j hj
    rw [hF, hTh, hz] at this
    exact this
  have hout : twO cA n.toNatClampNeg H.size n.toNatClampNeg = vp_cell cA (n.toNatClampNeg, .inr (.inr (.inr (.inr (fun i => if i < n.toNatClampNeg then some (H.size + 1 + i) else none))))) := by
    rw [vp_cell_q]
    exact vr_outer cA n.toNatClampNeg H.size n.toNatClampNeg
  rw [hout] at f2
  have hlt : ∀ a, a ∈ L → a < H.size := fun a ha => by
    obtain ⟨k9, hk9⟩ := va_pl_get (X := X) (f := f) ha
    exact (hP k9 _ hk9).lt
  have hnl : ∀ i : Nat, i < n.toNatClampNeg → H.size + 1 + i ∉ L := fun i _ h => by
    have := hlt _ h
    omega
  have hnm : ∀ a, a ∈ (List.range n.toNatClampNeg).map (fun i => H.size + 1 + i) → a ∉ L := fun a ha h => by
    obtain ⟨i, -, rfl⟩ := List.mem_map.mp ha
    have := hlt _ h
    omega
  have hP0 : va_P D cl (X ++ va_pl L f) F.heap := hP.kept (fun k9 x hx => hold x.1 ((hP k9 x hx).lt))
  have hP1 : va_P D cl ((X ++ va_pl L f) ++ [(H.size, .inl (cA, n.toNatClampNeg, .inr (.inr (.inr (.inr (fun i => if i < n.toNatClampNeg then some (H.size + 1 + i) else none))))))]) F.heap := hP0.app (fun k9 x hx => by
    have h0 : k9 < 1 := (List.getElem?_eq_some_iff.mp hx).1
    rw [show k9 = 0 by omega] at hx
    cases hx
    exact f2)
  have hP2 : va_P D cl (((X ++ va_pl L f) ++ [(H.size, .inl (cA, n.toNatClampNeg, .inr (.inr (.inr (.inr (fun i => if i < n.toNatClampNeg then some (H.size + 1 + i) else none))))))]) ++ ((List.range n.toNatClampNeg).map (fun i => H.size + 1 + i)).map (fun a => (a, .inl (cy, z)))) F.heap := hP1.app (fun k9 x hx => by
    obtain ⟨a, ha, rfl⟩ := List.mem_map.mp (List.mem_of_getElem? hx)
    obtain ⟨i, hi, rfl⟩ := List.mem_map.mp ha
    exact hrow i (List.mem_range.mp hi))
  have hD2 : va_D A (((X ++ va_pl L f) ++ [(H.size, .inl (cA, n.toNatClampNeg, .inr (.inr (.inr (.inr (fun i => if i < n.toNatClampNeg then some (H.size + 1 + i) else none))))))]) ++ ((List.range n.toNatClampNeg).map (fun i => H.size + 1 + i)).map (fun a => (a, .inl (cy, z)))) := by
    have hD1 := hD.push (e := .inl (cA, n.toNatClampNeg, .inr (.inr (.inr (.inr (fun i => if i < n.toNatClampNeg then some (H.size + 1 + i) else none)))))) hP rfl (hA _ hS.1)
    generalize hW1 : (X ++ va_pl L f) ++ [(H.size, .inl (cA, n.toNatClampNeg, .inr (.inr (.inr (.inr (fun i => if i < n.toNatClampNeg then some (H.size + 1 + i) else none))))))] = W1 at hD1 hP1 ⊢
    have hle : ∀ (k9 : Nat) (x : Nat × va_E), W1[k9]? = some x → x.1 ≤ H.size := fun k9 x hx => by
      rw [← hW1] at hx
      by_cases hl : k9 < (X ++ va_pl L f).length
      · rw [List.getElem?_append_left hl] at hx
        exact Nat.le_of_lt ((hP k9 x hx).lt)
      · rw [List.getElem?_append_right (by omega)] at hx
        have h0 : k9 - (X ++ va_pl L f).length < 1 := (List.getElem?_eq_some_iff.mp hx).1
        rw [show k9 - (X ++ va_pl L f).length = 0 by omega] at hx
        cases hx
        exact Nat.le_refl _
    have hr : ∀ (k9 : Nat) (x : Nat × va_E), (((List.range n.toNatClampNeg).map (fun i => H.size + 1 + i)).map (fun a => ((a, .inl (cy, z)) : Nat × va_E)))[k9]? = some x → x.1 = H.size + 1 + k9 := fun k9 x hx => by
      rw [List.getElem?_map, List.getElem?_map] at hx
      by_cases h9 : k9 < n.toNatClampNeg
      · rw [List.getElem?_range h9] at hx
        cases hx
        rfl
      · have hn0 : (List.range n.toNatClampNeg)[k9]? = none := List.getElem?_eq_none (by rw [List.length_range]; omega)
        rw [hn0] at hx
        cases hx
    refine ⟨fun i j x y hi hj hxy => ?_, fun k9 x hx => ?_⟩
    · by_cases h1 : i < W1.length <;> by_cases h2 : j < W1.length
      · rw [List.getElem?_append_left h1] at hi
        rw [List.getElem?_append_left h2] at hj
        exact hD1.1 i j x y hi hj hxy
      · rw [List.getElem?_append_left h1] at hi
        rw [List.getElem?_append_right (by omega)] at hj
        have := hle _ _ hi
        have := hr _ _ hj
        omega
      · rw [List.getElem?_append_right (by omega)] at hi
        rw [List.getElem?_append_left h2] at hj
        have := hle _ _ hj
        have := hr _ _ hi
        omega
      · rw [List.getElem?_append_right (by omega)] at hi hj
        have := hr _ _ hi
        have := hr _ _ hj
        omega
    · by_cases h1 : k9 < W1.length
      · rw [List.getElem?_append_left h1] at hx
        exact hD1.2 k9 x hx
      · rw [List.getElem?_append_right (by omega)] at hx
        have := hr _ _ hx
        exact hA _ (by have := hS.1; omega)
  have hK2 : va_K D cl (tys ++ [(cA, .array ty)]) s := ⟨hK.1, fun k9 x hx => by
    by_cases hl : k9 < tys.length
    · rw [List.getElem?_append_left hl] at hx
      exact hK.2 k9 x hx
    · rw [List.getElem?_append_right (by omega)] at hx
      have h0 : k9 - tys.length < 1 := (List.getElem?_eq_some_iff.mp hx).1
      rw [show k9 - tys.length = 0 by omega] at hx
      cases hx
      exact ⟨hAr, fA⟩⟩
  obtain ⟨t, a1, b1⟩ := kk H.size (fun i => H.size + 1 + i) cA F.heap (fun i j _ _ h => by have h9 : H.size + 1 + i = H.size + 1 + j := h; omega) hnl hK2 (by rw [← vr_rows hnm]; exact vr_lay hP2) (by rw [← vr_rows hnm]; exact vr_layD hD2) ⟨by rw [f1]; have := hS.1; omega, fun x h1 h2 => (hold x (Nat.lt_of_lt_of_le h1 hS.1)).trans (hS.2.1 x h1 h2), hS.2.2⟩ F rfl X'
  refine ⟨t, step t ?_, b1⟩
  have e : T.heap.size = H.size := by rw [hT]
  rw [e]
  exact a1
end VGM
/-! ===== END ===== -/

def RX0 : String := "ColourReduction"
def TX0 : u_T := fun k => match k with
  | 0 => ("ColourReduction", "identifiers", "[I", true)
  | 1 => ("ColourReduction", "parents", "[I", true)
  | 2 => ("ColourReduction", "rows", "[[I", true)
  | 3 => ("ColourReduction", "colours", "[I", false)
  | 4 => ("ColourReduction", "present", "I", false)
  | 5 => ("ColourReduction", "nodes", "I", false)
  | _ => ("ColourReduction", "rounds", "I", false)
def tyX0 : Nat → FieldType := fun k => match k with
  | 0 => .array .int
  | 1 => .array .int
  | 2 => .array (.array .int)
  | 3 => .array .int
  | 4 => .int
  | 5 => .int
  | _ => .int
abbrev wsX00 : List Cond := u_ws RX0 TX0 7
theorem nmX0 : ∀ a, a < 7 → ∀ b, b < 7 → a ≠ b → (TX0 a).2.1 ≠ (TX0 b).2.1 := by decide +kernel
theorem tyX0_ok : ∀ k, k < 7 → parseFieldDescriptor (TX0 k).2.2.1 = some (tyX0 k) := by decide +kernel
abbrev cX0_init : ByteArray := prog_1_method_1_code
def yX0_init : MethodName := ⟨RX0, "<init>", "()V"⟩
abbrev cX0_addNode : ByteArray := prog_1_method_2_code
def yX0_addNode : MethodName := ⟨RX0, "addNode", "(I)I"⟩
abbrev cX0_setParent : ByteArray := prog_1_method_3_code
def yX0_setParent : MethodName := ⟨RX0, "setParent", "(II)I"⟩
abbrev cX0_removeParent : ByteArray := prog_1_method_4_code
def yX0_removeParent : MethodName := ⟨RX0, "removeParent", "(I)I"⟩
abbrev cX0_parent : ByteArray := prog_1_method_5_code
def yX0_parent : MethodName := ⟨RX0, "parent", "(I)I"⟩
abbrev cX0_degree : ByteArray := prog_1_method_6_code
def yX0_degree : MethodName := ⟨RX0, "degree", "(I)I"⟩
abbrev cX0_depth : ByteArray := prog_1_method_7_code
def yX0_depth : MethodName := ⟨RX0, "depth", "(I)I"⟩
abbrev cX0_cycleLength : ByteArray := prog_1_method_8_code
def yX0_cycleLength : MethodName := ⟨RX0, "cycleLength", "(I)I"⟩
abbrev cX0_partCount : ByteArray := prog_1_method_9_code
def yX0_partCount : MethodName := ⟨RX0, "partCount", "()I"⟩
abbrev cX0_colour : ByteArray := prog_1_method_10_code
def yX0_colour : MethodName := ⟨RX0, "colour", "(I)I"⟩
abbrev cX0_setColour : ByteArray := prog_1_method_11_code
def yX0_setColour : MethodName := ⟨RX0, "setColour", "(II)I"⟩
abbrev cX0_resetColours : ByteArray := prog_1_method_12_code
def yX0_resetColours : MethodName := ⟨RX0, "resetColours", "()I"⟩
abbrev cX0_recolour : ByteArray := prog_1_method_13_code
def yX0_recolour : MethodName := ⟨RX0, "recolour", "(I)I"⟩
abbrev cX0_colourCount : ByteArray := prog_1_method_14_code
def yX0_colourCount : MethodName := ⟨RX0, "colourCount", "()I"⟩
abbrev cX0_greatestColour : ByteArray := prog_1_method_15_code
def yX0_greatestColour : MethodName := ⟨RX0, "greatestColour", "()I"⟩
abbrev cX0_conflictCount : ByteArray := prog_1_method_16_code
def yX0_conflictCount : MethodName := ⟨RX0, "conflictCount", "()I"⟩
abbrev cX0_differingBit : ByteArray := prog_1_method_17_code
def yX0_differingBit : MethodName := ⟨RX0, "differingBit", "(I)I"⟩
abbrev cX0_reduce : ByteArray := prog_1_method_18_code
def yX0_reduce : MethodName := ⟨RX0, "reduce", "()I"⟩
abbrev cX0_shift : ByteArray := prog_1_method_19_code
def yX0_shift : MethodName := ⟨RX0, "shift", "()I"⟩
abbrev cX0_eliminate : ByteArray := prog_1_method_20_code
def yX0_eliminate : MethodName := ⟨RX0, "eliminate", "(I)I"⟩
abbrev cX0_reduceToThree : ByteArray := prog_1_method_21_code
def yX0_reduceToThree : MethodName := ⟨RX0, "reduceToThree", "()I"⟩
abbrev cX0_roundCount : ByteArray := prog_1_method_22_code
def yX0_roundCount : MethodName := ⟨RX0, "roundCount", "()I"⟩
abbrev cX0_pastColour : ByteArray := prog_1_method_23_code
def yX0_pastColour : MethodName := ⟨RX0, "pastColour", "(II)I"⟩
abbrev cX0_inIndependentSet : ByteArray := prog_1_method_24_code
def yX0_inIndependentSet : MethodName := ⟨RX0, "inIndependentSet", "(I)I"⟩
abbrev cX0_independentSetSize : ByteArray := prog_1_method_25_code
def yX0_independentSetSize : MethodName := ⟨RX0, "independentSetSize", "()I"⟩
abbrev cX0_greatestIndependentSet : ByteArray := prog_1_method_26_code
def yX0_greatestIndependentSet : MethodName := ⟨RX0, "greatestIndependentSet", "(I)I"⟩
abbrev cX0_isNode : ByteArray := prog_1_method_27_code
def yX0_isNode : MethodName := ⟨RX0, "isNode", "(I)Z"⟩
abbrev cX0_isValue : ByteArray := prog_1_method_28_code
def yX0_isValue : MethodName := ⟨RX0, "isValue", "(I)Z"⟩
abbrev cX0_isIdentifierTaken : ByteArray := prog_1_method_29_code
def yX0_isIdentifierTaken : MethodName := ⟨RX0, "isIdentifierTaken", "(I)Z"⟩
abbrev cX0_isRoot : ByteArray := prog_1_method_30_code
def yX0_isRoot : MethodName := ⟨RX0, "isRoot", "(I)Z"⟩
abbrev cX0_replaceParent : ByteArray := prog_1_method_31_code
def yX0_replaceParent : MethodName := ⟨RX0, "replaceParent", "(II)I"⟩
abbrev cX0_isIn : ByteArray := prog_1_method_32_code
def yX0_isIn : MethodName := ⟨RX0, "isIn", "(II)Z"⟩
abbrev cX0_areNeighbours : ByteArray := prog_1_method_33_code
def yX0_areNeighbours : MethodName := ⟨RX0, "areNeighbours", "(II)Z"⟩
abbrev cX0_neighbours : ByteArray := prog_1_method_34_code
def yX0_neighbours : MethodName := ⟨RX0, "neighbours", "(I)I"⟩
abbrev cX0_part : ByteArray := prog_1_method_35_code
def yX0_part : MethodName := ⟨RX0, "part", "(I)I"⟩
abbrev cX0_widened : ByteArray := prog_1_method_36_code
def yX0_widened : MethodName := ⟨RX0, "widened", "(I)I"⟩
abbrev cX0_isProper : ByteArray := prog_1_method_37_code
def yX0_isProper : MethodName := ⟨RX0, "isProper", "()Z"⟩
abbrev cX0_isInConflict : ByteArray := prog_1_method_38_code
def yX0_isInConflict : MethodName := ⟨RX0, "isInConflict", "(I)Z"⟩
abbrev cX0_isFirstOfItsColour : ByteArray := prog_1_method_39_code
def yX0_isFirstOfItsColour : MethodName := ⟨RX0, "isFirstOfItsColour", "(I)Z"⟩
abbrev cX0_hasNeighbourOfColour : ByteArray := prog_1_method_40_code
def yX0_hasNeighbourOfColour : MethodName := ⟨RX0, "hasNeighbourOfColour", "(II)Z"⟩
abbrev cX0_lowestFreeColour : ByteArray := prog_1_method_41_code
def yX0_lowestFreeColour : MethodName := ⟨RX0, "lowestFreeColour", "(II)I"⟩
abbrev cX0_reductionBit : ByteArray := prog_1_method_42_code
def yX0_reductionBit : MethodName := ⟨RX0, "reductionBit", "(I)I"⟩
abbrev cX0_startCount : ByteArray := prog_1_method_43_code
def yX0_startCount : MethodName := ⟨RX0, "startCount", "()V"⟩
abbrev cX0_rowAfterPresent : ByteArray := prog_1_method_44_code
def yX0_rowAfterPresent : MethodName := ⟨RX0, "rowAfterPresent", "()I"⟩
abbrev cX0_endRound : ByteArray := prog_1_method_45_code
def yX0_endRound : MethodName := ⟨RX0, "endRound", "()V"⟩
abbrev cX0_doReduction : ByteArray := prog_1_method_46_code
def yX0_doReduction : MethodName := ⟨RX0, "doReduction", "()V"⟩
abbrev cX0_doShift : ByteArray := prog_1_method_47_code
def yX0_doShift : MethodName := ⟨RX0, "doShift", "()I"⟩
abbrev cX0_shiftedColour : ByteArray := prog_1_method_48_code
def yX0_shiftedColour : MethodName := ⟨RX0, "shiftedColour", "(I)I"⟩
abbrev cX0_doElimination : ByteArray := prog_1_method_49_code
def yX0_doElimination : MethodName := ⟨RX0, "doElimination", "(I)I"⟩
abbrev cX0_independentSet : ByteArray := prog_1_method_50_code
def yX0_independentSet : MethodName := ⟨RX0, "independentSet", "()I"⟩
abbrev cX0_nextToVisit : ByteArray := prog_1_method_51_code
def yX0_nextToVisit : MethodName := ⟨RX0, "nextToVisit", "(I)I"⟩
abbrev cX0_nodeAtAnEnd : ByteArray := prog_1_method_52_code
def yX0_nodeAtAnEnd : MethodName := ⟨RX0, "nodeAtAnEnd", "(I)I"⟩
def RX1 : String := "ColourReductionModel"
def TX1 : u_T := fun k => match k with
  | 0 => ("ColourReductionModel", "nodes", "I", false)
  | 1 => ("ColourReductionModel", "identifierOf", "[I", true)
  | 2 => ("ColourReductionModel", "parentOf", "[I", true)
  | 3 => ("ColourReductionModel", "colours", "[I", true)
  | 4 => ("ColourReductionModel", "rounds", "I", false)
  | 5 => ("ColourReductionModel", "next", "[I", true)
  | 6 => ("ColourReductionModel", "isIn", "[Z", true)
  | 7 => ("ColourReductionModel", "with", "[I", true)
  | 8 => ("ColourReductionModel", "without", "[I", true)
  | _ => ("ColourReductionModel", "waitsFor", "[I", true)
def tyX1 : Nat → FieldType := fun k => match k with
  | 0 => .int
  | 1 => .array .int
  | 2 => .array .int
  | 3 => .array .int
  | 4 => .int
  | 5 => .array .int
  | 6 => .array .boolean
  | 7 => .array .int
  | 8 => .array .int
  | _ => .array .int
abbrev wsX10 : List Cond := u_ws RX1 TX1 10
theorem nmX1 : ∀ a, a < 10 → ∀ b, b < 10 → a ≠ b → (TX1 a).2.1 ≠ (TX1 b).2.1 := by decide +kernel
theorem tyX1_ok : ∀ k, k < 10 → parseFieldDescriptor (TX1 k).2.2.1 = some (tyX1 k) := by decide +kernel
abbrev cX1_init : ByteArray := prog_3_method_1_code
def yX1_init : MethodName := ⟨RX1, "<init>", "()V"⟩
abbrev cX1_within : ByteArray := prog_3_method_2_code
def yX1_within : MethodName := ⟨RX1, "within", "(III)Z"⟩
abbrev cX1_isNode : ByteArray := prog_3_method_3_code
def yX1_isNode : MethodName := ⟨RX1, "isNode", "(I)Z"⟩
abbrev cX1_colourOf : ByteArray := prog_3_method_4_code
def yX1_colourOf : MethodName := ⟨RX1, "colourOf", "(I)I"⟩
abbrev cX1_paints : ByteArray := prog_3_method_5_code
def yX1_paints : MethodName := ⟨RX1, "paints", "(II)V"⟩
abbrev cX1_startsCount : ByteArray := prog_3_method_6_code
def yX1_startsCount : MethodName := ⟨RX1, "startsCount", "()V"⟩
abbrev cX1_addNode : ByteArray := prog_3_method_7_code
def yX1_addNode : MethodName := ⟨RX1, "addNode", "(I)I"⟩
abbrev cX1_changesParent : ByteArray := prog_3_method_8_code
def yX1_changesParent : MethodName := ⟨RX1, "changesParent", "(II)I"⟩
abbrev cX1_setParent : ByteArray := prog_3_method_9_code
def yX1_setParent : MethodName := ⟨RX1, "setParent", "(II)I"⟩
abbrev cX1_removeParent : ByteArray := prog_3_method_10_code
def yX1_removeParent : MethodName := ⟨RX1, "removeParent", "(I)I"⟩
abbrev cX1_parent : ByteArray := prog_3_method_11_code
def yX1_parent : MethodName := ⟨RX1, "parent", "(I)I"⟩
abbrev cX1_areNeighbours : ByteArray := prog_3_method_12_code
def yX1_areNeighbours : MethodName := ⟨RX1, "areNeighbours", "(II)Z"⟩
abbrev cX1_degree : ByteArray := prog_3_method_13_code
def yX1_degree : MethodName := ⟨RX1, "degree", "(I)I"⟩
abbrev cX1_stepsFrom : ByteArray := prog_3_method_14_code
def yX1_stepsFrom : MethodName := ⟨RX1, "stepsFrom", "(I)I"⟩
abbrev cX1_depth : ByteArray := prog_3_method_15_code
def yX1_depth : MethodName := ⟨RX1, "depth", "(I)I"⟩
abbrev cX1_cycleOf : ByteArray := prog_3_method_16_code
def yX1_cycleOf : MethodName := ⟨RX1, "cycleOf", "(I)I"⟩
abbrev cX1_cycleLength : ByteArray := prog_3_method_17_code
def yX1_cycleLength : MethodName := ⟨RX1, "cycleLength", "(I)I"⟩
abbrev cX1_headOf : ByteArray := prog_3_method_18_code
def yX1_headOf : MethodName := ⟨RX1, "headOf", "(I)I"⟩
abbrev cX1_partCount : ByteArray := prog_3_method_19_code
def yX1_partCount : MethodName := ⟨RX1, "partCount", "()I"⟩
abbrev cX1_colour : ByteArray := prog_3_method_20_code
def yX1_colour : MethodName := ⟨RX1, "colour", "(I)I"⟩
abbrev cX1_setColour : ByteArray := prog_3_method_21_code
def yX1_setColour : MethodName := ⟨RX1, "setColour", "(II)I"⟩
abbrev cX1_resetColours : ByteArray := prog_3_method_22_code
def yX1_resetColours : MethodName := ⟨RX1, "resetColours", "()I"⟩
abbrev cX1_isBeside : ByteArray := prog_3_method_23_code
def yX1_isBeside : MethodName := ⟨RX1, "isBeside", "(II)Z"⟩
abbrev cX1_recolour : ByteArray := prog_3_method_24_code
def yX1_recolour : MethodName := ⟨RX1, "recolour", "(I)I"⟩
abbrev cX1_colourCount : ByteArray := prog_3_method_25_code
def yX1_colourCount : MethodName := ⟨RX1, "colourCount", "()I"⟩
abbrev cX1_greatest : ByteArray := prog_3_method_26_code
def yX1_greatest : MethodName := ⟨RX1, "greatest", "()I"⟩
abbrev cX1_greatestColour : ByteArray := prog_3_method_27_code
def yX1_greatestColour : MethodName := ⟨RX1, "greatestColour", "()I"⟩
abbrev cX1_isConflict : ByteArray := prog_3_method_28_code
def yX1_isConflict : MethodName := ⟨RX1, "isConflict", "(I)Z"⟩
abbrev cX1_conflicts : ByteArray := prog_3_method_29_code
def yX1_conflicts : MethodName := ⟨RX1, "conflicts", "()I"⟩
abbrev cX1_conflictCount : ByteArray := prog_3_method_30_code
def yX1_conflictCount : MethodName := ⟨RX1, "conflictCount", "()I"⟩
abbrev cX1_bitOf : ByteArray := prog_3_method_31_code
def yX1_bitOf : MethodName := ⟨RX1, "bitOf", "(I)I"⟩
abbrev cX1_differingBit : ByteArray := prog_3_method_32_code
def yX1_differingBit : MethodName := ⟨RX1, "differingBit", "(I)I"⟩
abbrev cX1_ends : ByteArray := prog_3_method_33_code
def yX1_ends : MethodName := ⟨RX1, "ends", "()V"⟩
abbrev cX1_reduces : ByteArray := prog_3_method_34_code
def yX1_reduces : MethodName := ⟨RX1, "reduces", "()V"⟩
abbrev cX1_reduce : ByteArray := prog_3_method_35_code
def yX1_reduce : MethodName := ⟨RX1, "reduce", "()I"⟩
abbrev cX1_shift : ByteArray := prog_3_method_36_code
def yX1_shift : MethodName := ⟨RX1, "shift", "()I"⟩
abbrev cX1_freeOf : ByteArray := prog_3_method_37_code
def yX1_freeOf : MethodName := ⟨RX1, "freeOf", "(I)I"⟩
abbrev cX1_eliminates : ByteArray := prog_3_method_38_code
def yX1_eliminates : MethodName := ⟨RX1, "eliminates", "(I)I"⟩
abbrev cX1_eliminate : ByteArray := prog_3_method_39_code
def yX1_eliminate : MethodName := ⟨RX1, "eliminate", "(I)I"⟩
abbrev cX1_reduceToThree : ByteArray := prog_3_method_40_code
def yX1_reduceToThree : MethodName := ⟨RX1, "reduceToThree", "()I"⟩
abbrev cX1_roundCount : ByteArray := prog_3_method_41_code
def yX1_roundCount : MethodName := ⟨RX1, "roundCount", "()I"⟩
abbrev cX1_pastColour : ByteArray := prog_3_method_42_code
def yX1_pastColour : MethodName := ⟨RX1, "pastColour", "(II)I"⟩
abbrev cX1_buildSet : ByteArray := prog_3_method_43_code
def yX1_buildSet : MethodName := ⟨RX1, "buildSet", "()I"⟩
abbrev cX1_inIndependentSet : ByteArray := prog_3_method_44_code
def yX1_inIndependentSet : MethodName := ⟨RX1, "inIndependentSet", "(I)I"⟩
abbrev cX1_independentSetSize : ByteArray := prog_3_method_45_code
def yX1_independentSetSize : MethodName := ⟨RX1, "independentSetSize", "()I"⟩
abbrev cX1_greater : ByteArray := prog_3_method_46_code
def yX1_greater : MethodName := ⟨RX1, "greater", "(II)I"⟩
abbrev cX1_takesTrees : ByteArray := prog_3_method_47_code
def yX1_takesTrees : MethodName := ⟨RX1, "takesTrees", "()V"⟩
abbrev cX1_bestOfCycle : ByteArray := prog_3_method_48_code
def yX1_bestOfCycle : MethodName := ⟨RX1, "bestOfCycle", "(IZ)I"⟩
abbrev cX1_greatestIndependentSet : ByteArray := prog_3_method_49_code
def yX1_greatestIndependentSet : MethodName := ⟨RX1, "greatestIndependentSet", "(I)I"⟩
def RJ6 : String := "java/lang/Integer"
def TJ6 : u_T := fun k => match k with
  | _ => ("", "", "", false)
def tyJ6 : Nat → FieldType := fun k => match k with
  | _ => .int
abbrev wsJ60 : List Cond := u_ws RJ6 TJ6 0
theorem nmJ6 : ∀ a, a < 0 → ∀ b, b < 0 → a ≠ b → (TJ6 a).2.1 ≠ (TJ6 b).2.1 := by decide +kernel
theorem tyJ6_ok : ∀ k, k < 0 → parseFieldDescriptor (TJ6 k).2.2.1 = some (tyJ6 k) := by decide +kernel
abbrev cJ6_numberOfTrailingZeros_0f7a4 : ByteArray := prog_4_method_48_code
def yJ6_numberOfTrailingZeros_0f7a4 : MethodName := ⟨RJ6, "numberOfTrailingZeros", "(I)I"⟩
abbrev cJ6_bitCount_0f7a4 : ByteArray := prog_4_method_49_code
def yJ6_bitCount_0f7a4 : MethodName := ⟨RJ6, "bitCount", "(I)I"⟩
def RJ9 : String := "java/lang/Math"
def TJ9 : u_T := fun k => match k with
  | _ => ("", "", "", false)
def tyJ9 : Nat → FieldType := fun k => match k with
  | _ => .int
abbrev wsJ90 : List Cond := u_ws RJ9 TJ9 0
theorem nmJ9 : ∀ a, a < 0 → ∀ b, b < 0 → a ≠ b → (TJ9 a).2.1 ≠ (TJ9 b).2.1 := by decide +kernel
theorem tyJ9_ok : ∀ k, k < 0 → parseFieldDescriptor (TJ9 k).2.2.1 = some (tyJ9 k) := by decide +kernel
abbrev cJ9_max_7cf53 : ByteArray := prog_5_method_65_code
def yJ9_max_7cf53 : MethodName := ⟨RJ9, "max", "(II)I"⟩
def RL : String := "ColourReductionLaw"
abbrev cL_law : ByteArray := code
def yL_law : MethodName := ⟨RL, "law", "([I)Z"⟩
abbrev vwCl : List vw_C := [(RX0, TX0, 7), (RX1, TX1, 10)]
