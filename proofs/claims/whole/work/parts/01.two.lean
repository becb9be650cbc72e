-- A NEW ARRAY OF TWO DIMENSIONS, from the instruction's own text (no row of Shelf42)
def twI (c : ClassId) (K : Nat) (dv : Value) : Cell := { cls := c, slots := Array.replicate K dv, vm := .none }
def twO (c : ClassId) (N h0 : Nat) : Nat → Cell
  | 0 => { cls := c, slots := Array.replicate N .null, vm := .none }
  | i + 1 => (twO c N h0 i).setSlot i (.ref (h0 + 1 + i))
def twF (U : State) (cA comp : ClassId) (N K : Nat) (dv : Value) : Nat → State
  | 0 => U.pushCell (twO cA N U.heap.size 0)
  | i + 1 => ((twF U cA comp N K dv i).pushCell (twI comp K dv)).setCell U.heap.size (twO cA N U.heap.size (i + 1))
theorem twO_is (c : ClassId) (N h0 : Nat) : ∀ i, (twO c N h0 i).cls = c ∧ (twO c N h0 i).vm = .none ∧ (twO c N h0 i).slots.size = N
  | 0 => ⟨rfl, rfl, Array.size_replicate⟩
  | i + 1 => by
    obtain ⟨h1, h2, h3⟩ := twO_is c N h0 i
    exact ⟨h1, h2, by rw [show twO c N h0 (i + 1) = (twO c N h0 i).setSlot i (.ref (h0 + 1 + i)) from rfl]; simp [Cell.setSlot, h3]⟩
section
variable {U : State} {cA comp : ClassId} {N K : Nat} {dv : Value}
theorem twF_facts : ∀ i, (twF U cA comp N K dv i).heap.size = U.heap.size + 1 + i ∧ (twF U cA comp N K dv i).heap[U.heap.size]? = some (twO cA N U.heap.size i) ∧ (twF U cA comp N K dv i).vm = U.vm
  | 0 => ⟨by simp [twF], by simp [twF], rfl⟩
  | i + 1 => by
    obtain ⟨h1, h2, h3⟩ := twF_facts i
    refine ⟨?_, ?_, h3⟩
    · simp only [twF, State.heap_setCell, State.heap_pushCell, Array.size_setIfInBounds, Array.size_push, h1]
      omega
    · simp only [twF, State.heap_setCell, State.heap_pushCell]
      rw [Array.getElem?_setIfInBounds]
      simp [h1]
      omega
theorem twF_old {x : Nat} (hx : x < U.heap.size) : ∀ i, (twF U cA comp N K dv i).heap[x]? = U.heap[x]?
  | 0 => by
    simp only [twF, State.heap_pushCell]
    rw [Array.getElem?_push, if_neg (by omega)]
  | i + 1 => by
    have ih := twF_old hx i
    have h1 := (twF_facts (U := U) (cA := cA) (comp := comp) (N := N) (K := K) (dv := dv) i).1
    simp only [twF, State.heap_setCell, State.heap_pushCell]
    rw [Array.getElem?_setIfInBounds, if_neg (by omega), Array.getElem?_push, if_neg (by omega)]
    exact ih
theorem twF_inner : ∀ i j, j < i → (twF U cA comp N K dv i).heap[U.heap.size + 1 + j]? = some (twI comp K dv)
  | 0, j, hj => absurd hj (Nat.not_lt_zero j)
  | i + 1, j, hj => by
    have h1 := (twF_facts (U := U) (cA := cA) (comp := comp) (N := N) (K := K) (dv := dv) i).1
    simp only [twF, State.heap_setCell, State.heap_pushCell]
    rw [Array.getElem?_setIfInBounds, if_neg (by omega), Array.getElem?_push]
    by_cases e : j = i
    · rw [if_pos (by omega)]
    · rw [if_neg (by omega)]
      exact twF_inner i j (by omega)
theorem twF_tj : ∀ i, (twF U cA comp N K dv i).topJava? = U.topJava?
  | 0 => rfl
  | i + 1 => twF_tj i
theorem twF_top (f : JFrame) : ∀ i, twF (U.setTop f) cA comp N K dv i = (twF U cA comp N K dv i).setTop f
  | 0 => rfl
  | i + 1 => by
    show ((twF (U.setTop f) cA comp N K dv i).pushCell _).setCell _ _ = _
    rw [twF_top f i]
    rfl
end
section
variable {p : Program} {l : Launch} {e : Env} {R : Room} {s : State} {m : MethodId} {args : Array Value} {below : List Frame} {meth : Method} {c : Code} {T : State} {locs : List Loc} {cells slots : Nat} {cA comp : ClassId} {N K : Nat} {dv : Value}
theorem twF_stand (X : Stand p l e R s m args below meth c T locs cells slots) : ∀ i, Stand p l e R s m args below meth c (twF T cA comp N K dv i) locs (cells + 1 + i) (slots + N + i * K)
  | 0 => by
    have h := X.pushed (twO cA N T.heap.size 0)
    have e1 : (twO cA N T.heap.size 0).slots.size = N := (twO_is cA N T.heap.size 0).2.2
    rw [e1] at h
    rw [Nat.zero_mul]
    exact h
  | i + 1 => by
    have ih := twF_stand X i
    have h1 := twF_facts (U := T) (cA := cA) (comp := comp) (N := N) (K := K) (dv := dv) i
    have h2 := ih.pushed (twI comp K dv)
    have e1 : (twI comp K dv).slots.size = K := Array.size_replicate
    rw [e1] at h2
    have h3 : ((twF T cA comp N K dv i).pushCell (twI comp K dv)).heap[T.heap.size]? = some (twO cA N T.heap.size i) := by
      rw [State.heap_pushCell, Array.getElem?_push, if_neg (by omega)]
      exact h1.2.1
    have h4 := Stand.forget (h2.stored h3 i (.ref (T.heap.size + 1 + i))) (fun y hy => by
      rcases List.mem_singleton.mp hy with rfl
      exact X.same.2.1)
    have e2 : slots + N + (i + 1) * K = slots + N + i * K + K := by rw [Nat.add_mul]; omega
    rw [e2]
    exact h4
end
section
variable {E : CtlPost} {e : Env} {d : Bool} {acts : List Action} {U : State} {cA comp c0 : ClassId} {kA kC : Class} {ty : FieldType} {n k : Int32}
theorem tw_inner {Q : Addr → Pre} (hkC : U.vm.classes[comp]? = some kC) (hkindC : kC.kind = .array c0 ty) (hk : ¬ k < 0) (hl : ¬ k.toNatClampNeg > e.platform.arrayLengthLimit) (hh : ¬ k.toNatClampNeg * componentBytes ty > e.platform.maxHeapBytes) (hc : U.heap.size < e.platform.maxCells) (hs : U.slotsUsed + k.toNatClampNeg ≤ e.platform.maxSlots) (hf : fits ty (defaultValue ty) = true) (hq : ∀ acts', Q U.heap.size d acts' (U.pushCell (twI comp k.toNatClampNeg (defaultValue ty)))) : wp (Op.multianewarray.make comp [k]) Q E e d acts U := by
  simp only [Op.multianewarray.make, wp_bind', _root_.Jvm.W.ite, hk, if_false, wp_pure', _root_.Jvm.W.theClass, hkC, Option.some.injEq, exists_eq_left', hkindC]
  exact _root_.Jvm.W.newArray_of hkC hkindC hl hh hc hs hf hq
theorem tw_make {Q : Addr → Pre} {tyA : FieldType} (hkA : U.vm.classes[cA]? = some kA) (hkindA : kA.kind = .array comp tyA) (hkC : U.vm.classes[comp]? = some kC) (hkindC : kC.kind = .array c0 ty) (hn : ¬ n < 0) (hn0 : (n == 0) = false) (hk : ¬ k < 0) (hl1 : ¬ n.toNatClampNeg > e.platform.arrayLengthLimit) (hh1 : ¬ n.toNatClampNeg * componentBytes tyA > e.platform.maxHeapBytes) (hl : ¬ k.toNatClampNeg > e.platform.arrayLengthLimit) (hh : ¬ k.toNatClampNeg * componentBytes ty > e.platform.maxHeapBytes) (hc0 : U.heap.size < e.platform.maxCells) (hs0 : U.slotsUsed + n.toNatClampNeg ≤ e.platform.maxSlots) (hroom : ∀ i, i < n.toNatClampNeg → (twF U cA comp n.toNatClampNeg k.toNatClampNeg (defaultValue ty) i).heap.size < e.platform.maxCells ∧ (twF U cA comp n.toNatClampNeg k.toNatClampNeg (defaultValue ty) i).slotsUsed + k.toNatClampNeg ≤ e.platform.maxSlots) (hf : fits ty (defaultValue ty) = true) (hfn : fits tyA .null = true) (hfr : ∀ a, fits tyA (.ref a) = true) (hq : ∀ d' acts', Q U.heap.size d' acts' (twF U cA comp n.toNatClampNeg k.toNatClampNeg (defaultValue ty) n.toNatClampNeg)) : wp (Op.multianewarray.make cA [n, k]) Q E e d acts U := by
  unfold Op.multianewarray.make
  simp only [wp_bind', _root_.Jvm.W.ite, hn, if_false, wp_pure', _root_.Jvm.W.theClass, hkA, Option.some.injEq, exists_eq_left', hkindA]
  refine _root_.Jvm.W.newArray_of hkA hkindA hl1 hh1 hc0 hs0 hfn (fun acts1 => ?_)
  simp only [hn0, Bool.false_eq_true, if_false, wp_pure', wp_bind', Std.Legacy.Range.forIn_eq_forIn_range', Std.Legacy.Range.size]
  refine wp_forIn_inv (fun r st => ∃ i, i ≤ n.toNatClampNeg ∧ r = List.range' i (n.toNatClampNeg - i) ∧ st = twF U cA comp n.toNatClampNeg k.toNatClampNeg (defaultValue ty) i) _ _ ?_ ?_ ?_
  · exact ⟨0, Nat.zero_le _, by simp, rfl⟩
  · intro x rest s' d' acts' Q' ⟨i, hi, hr, hs'⟩ hQ
    have hlt : i < n.toNatClampNeg := by
      rcases Nat.lt_or_ge i n.toNatClampNeg with h | h
      · exact h
      · rw [show n.toNatClampNeg - i = 0 by omega] at hr
        cases hr
    rw [show n.toNatClampNeg - i = (n.toNatClampNeg - (i + 1)) + 1 by omega, List.range'_succ] at hr
    injection hr with hx hrest
    subst hx
    subst hs'
    have hF := twF_facts (U := U) (cA := cA) (comp := comp) (N := n.toNatClampNeg) (K := k.toNatClampNeg) (dv := defaultValue ty) x
    simp only [wp_bind']
    refine tw_inner (by rw [hF.2.2]; exact hkC) hkindC hk hl hh (hroom x hlt).1 (hroom x hlt).2 hf (fun acts2 => ?_)
    have hO := twO_is cA n.toNatClampNeg U.heap.size x
    refine ⟨twO cA n.toNatClampNeg U.heap.size x, ?_, ?_, ?_, ?_, ?_⟩
    · show ((twF U cA comp n.toNatClampNeg k.toNatClampNeg (defaultValue ty) x).heap.push _)[U.heap.size]? = _
      rw [Array.getElem?_push, if_neg (by omega)]
      exact hF.2.1
    · rw [hO.2.1]; simp
    · rw [hO.2.2]; exact hlt
    · rw [hO.1, hO.2.1]
      simp [State.fitsSlot, State.slotType?, hF.2.2, hkA, hkindA, hfr]
    · apply hQ
      refine ⟨x + 1, hlt, hrest, ?_⟩
      rw [hF.1]
      rfl
  · intro s' d' acts' ⟨i, hi, hr, hs'⟩
    have hin : i = n.toNatClampNeg := by
      have := congrArg List.length hr
      simp at this
      omega
    subst hin
    rw [hs']
    exact hq _ _
theorem tw_sem {Q : Unit → Pre} {s : State} {f : JFrame} {tyA : FieldType} {index : Nat} {rest : List Value} (hs : s.topJava?.isSome) (hr : s.vm.classReady f.method.cls index cA) (hstack : f.stack = .int k :: .int n :: rest) (hkA : s.vm.classes[cA]? = some kA) (hkindA : kA.kind = .array comp tyA) (hkC : s.vm.classes[comp]? = some kC) (hkindC : kC.kind = .array c0 ty) (hn : ¬ n < 0) (hn0 : (n == 0) = false) (hk : ¬ k < 0) (hl1 : ¬ n.toNatClampNeg > e.platform.arrayLengthLimit) (hh1 : ¬ n.toNatClampNeg * componentBytes tyA > e.platform.maxHeapBytes) (hl : ¬ k.toNatClampNeg > e.platform.arrayLengthLimit) (hh : ¬ k.toNatClampNeg * componentBytes ty > e.platform.maxHeapBytes) (hc0 : s.heap.size < e.platform.maxCells) (hs0 : s.slotsUsed + n.toNatClampNeg ≤ e.platform.maxSlots) (hroom : ∀ i, i < n.toNatClampNeg → (twF s cA comp n.toNatClampNeg k.toNatClampNeg (defaultValue ty) i).heap.size < e.platform.maxCells ∧ (twF s cA comp n.toNatClampNeg k.toNatClampNeg (defaultValue ty) i).slotsUsed + k.toNatClampNeg ≤ e.platform.maxSlots) (hf : fits ty (defaultValue ty) = true) (hfn : fits tyA .null = true) (hfr : ∀ a, fits tyA (.ref a) = true) (hq : ∀ d' acts', Q () d' acts' ((twF s cA comp n.toNatClampNeg k.toNatClampNeg (defaultValue ty) n.toNatClampNeg).setTop { f with stack := .ref s.heap.size :: rest })) : wp (Op.multianewarray.sem index 2) Q E e d acts (s.setTop f) := by
  simp only [Op.multianewarray.sem, wp_bind', _root_.Jvm.W.resolveClassAt_ready (State.method?_setTop f hs) hr]
  refine (popN_top (args := [.int n, .int k]) (rest := rest) hs (by rw [hstack]; rfl)).mpr ?_
  simp only [List.mapM_cons, List.mapM_nil, wp_bind', wp_pure']
  refine tw_make (U := s.setTop { f with stack := rest }) hkA hkindA hkC hkindC hn hn0 hk hl1 hh1 hl hh hc0 hs0 (fun i hi => by rw [twF_top]; exact hroom i hi) hf hfn hfr (fun d' acts' => ?_)
  rw [twF_top]
  have htop : (twF s cA comp n.toNatClampNeg k.toNatClampNeg (defaultValue ty) n.toNatClampNeg).topJava?.isSome := by rw [twF_tj]; exact hs
  simp only [wp_bind', _root_.Jvm.W.mark, _root_.Jvm.W.pushRef, State.topJava?_setTop' _ htop, Option.some.injEq, exists_eq_left', State.setTop_setTop]
  exact hq _ _
end
theorem tw_over {args : Array Value} {s : State} {ty : FieldType} {cA : ClassId} (h : (Cond.arrayOver (.array ty)).before args s = true) (hA : s.vm.findClass ("[" ++ (FieldType.array ty).toString) = some cA) : ∃ comp kA, s.vm.findClass (FieldType.array ty).toString = some comp ∧ s.vm.classes[cA]? = some kA ∧ kA.kind = .array comp (.array ty) := by
  unfold Cond.before Cond.holds at h
  simp only [Cond.value, beq_iff_eq] at h
  cases hc : s.vm.findClass (FieldType.array ty).toString with
  | none => rw [hc] at h; simp at h
  | some comp =>
    simp only [hc, Option.bind_some, Option.bind_eq_some_iff, Option.map_eq_some_iff] at h
    obtain ⟨c, hi, k, hk, hb⟩ := h
    obtain ⟨hlt, hp, -⟩ := Array.findIdx?_eq_some_iff_getElem.mp hi
    have hkk : s.vm.classes[c] = k := (Array.getElem?_eq_some_iff.mp hk).2
    rw [hkk] at hp
    cases hkind : k.kind with
    | array component t =>
      rw [hkind] at hb hp
      simp at hb hp
      have e : c = cA := Option.some.inj (hb.2.symm.trans hA)
      subst e
      exact ⟨comp, k, rfl, hk, by rw [hkind, hp, hb.1]⟩
    | _ => rw [hkind] at hb; simp at hb
section
variable {p : Program} {l : Launch} {e : Env} {R : Room} {s : State} {m : MethodId} {args : Array Value} {below : List Frame} {meth : Method} {c : Code} {T : State} {locs : List Loc} {cells slots : Nat}
theorem tw_stand (X : Stand p l e R s m args below meth c T locs cells slots) (hexec : p.tables.exec = Jvm.exec) {own : String} {index : Nat} {ty : FieldType} (hown : s.vm.findClass own = some m.cls) (hclink : (Cond.classLink own index ("[" ++ (FieldType.array ty).toString)).before args s = true) (hover : (Cond.arrayOver (.array ty)).before args s = true) (harr : (Cond.arrayClass ty).before args s = true)
    {g : JFrame} (hg : g.method = m) (hdg : decode c.code g.pc = .ok (.multianewarray index 2, 4)) {n k : Int32} {rest : List Value} (hstack : g.stack = .int k :: .int n :: rest) (hn : ¬ n < 0) (hn0 : (n == 0) = false) (hk : ¬ k < 0) (hb1 : n.toNatClampNeg * 4 ≤ 536870912) (hb2 : k.toNatClampNeg * componentBytes ty ≤ 536870912) (hb3 : k.toNatClampNeg ≤ 536870912) (hdf : fits ty (defaultValue ty) = true)
    (hcells : cells + (1 + n.toNatClampNeg) ≤ R.cells) (hslots : slots + (n.toNatClampNeg + n.toNatClampNeg * k.toNatClampNeg) ≤ R.slots) :
    ∃ (vm₁ : Vm) (cA comp : ClassId), s.vm.findClass ("[" ++ (FieldType.array ty).toString) = some cA ∧ s.vm.findClass (FieldType.array ty).toString = some comp ∧ ArrOfT s cA (.array ty) ∧
      Stand p l e R s m args below meth c (twF (T.setVm vm₁) cA comp n.toNatClampNeg k.toNatClampNeg (defaultValue ty) n.toNatClampNeg) locs (cells + 1 + n.toNatClampNeg) (slots + n.toNatClampNeg + n.toNatClampNeg * k.toNatClampNeg) ∧
      ∀ target, Steps p.tables e below ((twF (T.setVm vm₁) cA comp n.toNatClampNeg k.toNatClampNeg (defaultValue ty) n.toNatClampNeg).setTop { g with pc := g.pc + 4, stack := .ref T.heap.size :: rest }) target → Steps p.tables e below (T.setTop g) target := by
  subst hg
  have hpl : e.platform.magicAccessors = ({} : Platform).magicAccessors := by rw [X.admits.platform]
  obtain ⟨cA, hfA, hcl⟩ := Cond.classLink_spec hown hclink e.platform hpl
  obtain ⟨comp, kA, hcomp, hkA, hkindA⟩ := tw_over hover hfA
  obtain ⟨cC, kC, c0, hfC, hkC, hkindC⟩ := Cond.arrayClass_spec harr
  have ec : cC = comp := Option.some.inj (hfC.symm.trans hcomp)
  subst ec
  obtain ⟨hg₁, hwarm₁, hready₁⟩ := State.classEntry (e := e) X.warmed hcl
  generalize T.vm.noted g.method.cls index (.cls cA) = vm₁ at hg₁ hwarm₁ hready₁
  have hal : s.vm.Alike vm₁ := hwarm₁.alike
  obtain ⟨kA₁, hkA₁, heA⟩ := hal.2.2 _ _ hkA
  obtain ⟨kC₁, hkC₁, heC⟩ := hal.2.2 _ _ hkC
  have hkindA₁ : kA₁.kind = .array cC (.array ty) := by rw [heA]; exact hkindA
  have hkindC₁ : kC₁.kind = .array c0 ty := by rw [heC]; exact hkindC
  have X₁ := X.noted hwarm₁
  have hst := fun i => twF_stand (cA := cA) (comp := cC) (N := n.toNatClampNeg) (K := k.toNatClampNeg) (dv := defaultValue ty) X₁ i
  refine ⟨vm₁, cA, cC, hfA, hcomp, fun N9 z9 => ⟨fun q hq => (by cases hq), kA, hkA, cC, hkindA⟩, hst _, fun target hrest => ?_⟩
  have hal1 : ¬ n.toNatClampNeg > e.platform.arrayLengthLimit := by rw [Launch.admits_arrayLengthLimit X.admits]; omega
  have hal2 : ¬ k.toNatClampNeg > e.platform.arrayLengthLimit := by rw [Launch.admits_arrayLengthLimit X.admits]; omega
  have hah1 : ¬ n.toNatClampNeg * componentBytes (.array ty) > e.platform.maxHeapBytes := by
    rw [Launch.admits_maxHeapBytes X.admits]; show ¬ n.toNatClampNeg * 4 > 536870912; omega
  have hah2 : ¬ k.toNatClampNeg * componentBytes ty > e.platform.maxHeapBytes := by rw [Launch.admits_maxHeapBytes X.admits]; omega
  have hr0 := X₁.roomAbove (a := 1) (b := n.toNatClampNeg) (by omega) (by omega)
  have hroom : ∀ i, i < n.toNatClampNeg → (twF (T.setVm vm₁) cA cC n.toNatClampNeg k.toNatClampNeg (defaultValue ty) i).heap.size < e.platform.maxCells ∧ (twF (T.setVm vm₁) cA cC n.toNatClampNeg k.toNatClampNeg (defaultValue ty) i).slotsUsed + k.toNatClampNeg ≤ e.platform.maxSlots := fun i hi => by
    have hm : (i + 1) * k.toNatClampNeg ≤ n.toNatClampNeg * k.toNatClampNeg := Nat.mul_le_mul_right _ hi
    rw [Nat.add_mul] at hm
    have := (hst i).roomAbove (a := 1) (b := k.toNatClampNeg) (by omega) (by omega)
    exact ⟨by omega, this.2⟩
  refine Steps.instr (c := _) (by simpa using X.here) ?_
  rw [hdg, hexec]
  show wpRun (Op.multianewarray.sem index 2) _ _ e (T.setTop g)
  unfold wpRun
  rw [show wp (Op.multianewarray.sem index 2) _ _ e _ _ (T.setTop g) ↔ wp (Op.multianewarray.sem index 2) _ _ e _ _ ((T.setVm vm₁).setTop g) from by
    simp only [Op.multianewarray.sem, wp_bind']
    exact _root_.Jvm.W.resolveClassAt_transfer (s := T.setTop g) (State.method?_setTop g X.here.top) hg₁ hready₁]
  refine tw_sem (s := T.setVm vm₁) X.here.top hready₁ hstack hkA₁ hkindA₁ hkC₁ hkindC₁ hn hn0 hk hal1 hah1 hal2 hah2 (by have := hr0.1; exact this) hr0.2 hroom hdf rfl (fun _ => rfl) (fun d' acts' => ?_)
  intro acts2
  have htop : (twF (T.setVm vm₁) cA cC n.toNatClampNeg k.toNatClampNeg (defaultValue ty) n.toNatClampNeg).topJava?.isSome := by rw [twF_tj]; exact X.here.top
  simp only [afterInstr]
  first
    | (rw [State.modifyTopJava_eq_setTop _ (State.topJava?_setTop' _ htop), State.setTop_setTop]; exact hrest)
    | (simp; rw [State.modifyTopJava_eq_setTop _ (State.topJava?_setTop' _ htop), State.setTop_setTop]; exact hrest)
end
