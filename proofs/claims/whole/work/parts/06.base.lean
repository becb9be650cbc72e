-- THE TABLES' WORDS, ONE LIST FOR ALL METHODS
def TW : List Cond := lw_tbl.filter goodWord
theorem TW_at {w : Cond} (i : Nat) (h : lw_tbl[i]? = some w) (hg : goodWord w = true) : w ∈ TW := List.mem_filter.mpr ⟨List.mem_of_getElem? h, hg⟩
theorem TW_sub {args : Array Value} {s : State} (hts : ∀ w ∈ lw_tbl, w.before args s = true) : ∀ w ∈ TW, w.before args s = true := fun w h => hts w (List.mem_filter.mp h).1
/-- a method's words: its own code, then the list -/
abbrev wsM (y : MethodName) (bytes : ByteArray) (maxL : Nat) (ret : Option FieldType) : List Cond := Cond.code y bytes maxL ret :: TW
theorem TW_goodIn {y : MethodName} {bytes : ByteArray} {maxL : Nat} {ret : Option FieldType} (h : Cond.code y bytes maxL ret ∈ TW) : GoodIn TW (wsM y bytes maxL ret) := by
  intro w hw
  rcases List.mem_cons.mp hw with rfl | hw
  · exact ⟨h, good_of_word (List.mem_filter.mp h).2⟩
  · exact ⟨hw, good_of_word (List.mem_filter.mp hw).2⟩
abbrev nMH (c : String) : Prop := c ≠ "java/lang/invoke/MethodHandle" ∧ c ≠ "java/lang/invoke/VarHandle"
/-- the words of a call site: virtual, static, a constructor's -/
def CWV (own C : String) (idx : Nat) (y : MethodName) (bytes : ByteArray) (maxL : Nat) (ret : Option FieldType) (n : Nat) : Prop :=
  Cond.methodLink own idx y ∈ TW ∧ Cond.instanceMethod y ∈ TW ∧ Cond.selects C y y ∈ TW ∧ Cond.code y bytes maxL ret ∈ TW ∧ Cond.initialized y.cls ∈ TW ∧ y.cls ≠ "java/lang/invoke/MethodHandle" ∧ y.cls ≠ "java/lang/invoke/VarHandle" ∧ (parseMethodDescriptor y.desc).map (fun d => d.parameters.length) = some n
def CWS (own : String) (idx : Nat) (y : MethodName) (bytes : ByteArray) (maxL : Nat) (ret : Option FieldType) (n : Nat) : Prop :=
  Cond.methodLink own idx y ∈ TW ∧ Cond.static y ∈ TW ∧ Cond.code y bytes maxL ret ∈ TW ∧ Cond.initialized y.cls ∈ TW ∧ y.cls ≠ "java/lang/invoke/MethodHandle" ∧ y.cls ≠ "java/lang/invoke/VarHandle" ∧ (parseMethodDescriptor y.desc).map (fun d => d.parameters.length) = some n
def CWI (own : String) (idx : Nat) (y : MethodName) (bytes : ByteArray) (maxL : Nat) (n : Nat) : Prop :=
  Cond.methodLink own idx y ∈ TW ∧ Cond.instanceMethod y ∈ TW ∧ Cond.code y bytes maxL none ∈ TW ∧ Cond.initialized y.cls ∈ TW ∧ y.name = "<init>" ∧ y.cls ≠ "java/lang/invoke/MethodHandle" ∧ y.cls ≠ "java/lang/invoke/VarHandle" ∧ (parseMethodDescriptor y.desc).map (fun d => d.parameters.length) = some n
-- NUMBERS
def b2i (b : Bool) : Int32 := if b = true then 1 else 0
theorem b2i_t : b2i true = 1 := rfl
theorem b2i_f : b2i false = 0 := rfl
theorem b2i_nar (b : Bool) : narrow .boolean (.int (b2i b)) = .int (b2i b) := by cases b <;> rfl
theorem b2i_vn (b : Bool) : vp_nar .boolean (b2i b) = b2i b := by cases b <;> rfl
theorem b2i_0 {b : Bool} : b2i b = 0 ↔ b = false := by cases b <;> simp [b2i]
theorem b2i_inj {a b : Bool} (h : b2i a = b2i b) : a = b := by cases a <;> cases b <;> simp_all [b2i]
/-- NONE or a number -/
def pe (o : Option Nat) : Int32 := match o with
  | none => -7
  | some u => nI u
theorem nI_big {k : Nat} (h : k < 2 ^ 31) : (nI k).toInt = (k : Int) := nI_toInt h
theorem nI_ne7 {k : Nat} (h : k < 2 ^ 31) : nI k ≠ -7 := by
  intro e
  have := nI_toInt h
  rw [e] at this
  have h7 : (-7 : Int32).toInt = -7 := by decide
  omega
theorem pe_none {o : Option Nat} (ho : ∀ u, o = some u → u < 2 ^ 31) : pe o = -7 ↔ o = none := by
  cases o with
  | none => simp [pe]
  | some u => simp [pe, nI_ne7 (ho u rfl)]
theorem pe_some {o : Option Nat} (ho : ∀ u, o = some u → u < 2 ^ 31) {k : Nat} (hk : k < 2 ^ 31) : pe o = nI k ↔ o = some k := by
  cases o with
  | none => simp [pe]; exact fun h => nI_ne7 hk h.symm
  | some u => simp [pe, nI_eq (ho u rfl) hk]
/-- a node's number out of an int -/
def vN (n : Nat) (x : Int32) : Option Nat := if x < 0 ∨ nI n ≤ x then none else some x.toNatClampNeg
theorem vN_cases {n : Nat} (hn : n ≤ 24) (x : Int32) : (vN n x = none ∧ (x < 0 ∨ nI n ≤ x)) ∨ ∃ v, v < n ∧ x = nI v ∧ vN n x = some v := by
  by_cases h : x < 0 ∨ nI n ≤ x
  · exact Or.inl ⟨if_pos h, h⟩
  · refine Or.inr ?_
    have h1 : ¬ x < 0 := fun q => h (Or.inl q)
    obtain ⟨j, hj, rfl⟩ := nI_of h1
    have h2 : j < n := by
      rcases Nat.lt_or_ge j n with q | q
      · exact q
      · exact absurd (Or.inr (nI_le q hj)) h
    exact ⟨j, h2, rfl, by unfold vN; rw [if_neg h, nI_clamp hj]⟩
theorem vN_nI {n v : Nat} (hn : n ≤ 24) (hv : v < n) : vN n (nI v) = some v := by
  unfold vN
  rw [if_neg, nI_clamp (by omega)]
  rintro (h | h)
  · exact nI_pos (by omega) h
  · exact nI_ge hv (by omega) h
/-- an answer about a node -/
def oN (o : Option Nat) (f : Nat → Int32) : Int32 := match o with
  | none => -1
  | some v => f v
theorem nI_inc (k : Nat) : nI k + Int32.ofInt 1 = nI (k + 1) := nI_1 k
-- THE WORLDS' FRAME: classes by number, the array classes
abbrev EE : Type := va_G × ClassId × ClassId × ClassId
abbrev tyE (E : EE) : List (ClassId × FieldType) := [(E.2.1, .int), (E.2.2.1, .array .int), (E.2.2.2, .boolean)]
def KK (E : EE) (U : State) : Prop := va_K E.1 vwCl (tyE E) U
theorem KK.moved {E : EE} {u U : State} (hvm : u.vm.Alike U.vm) (h : KK E u) : KK E U := va_K.moved hvm h
def UU (E : EE) (P : Heap → Prop) : State → Prop := fun U => P U.heap ∧ KK E U
theorem UU_blind {E : EE} {P : Heap → Prop} {av : List Value} : FrameBlind (va_Pc av (UU E P)) := fun _ U g mk h => ⟨h.1, h.2.1, va_K.moved (u := U) (U := U.calling g mk _) (Vm.Alike.refl U.vm) h.2.2⟩
/-- A METHOD THAT READS: it answers r, the heap stays -/
def RO (l : Launch) (E : EE) (P : Heap → Prop) (y : MethodName) (bytes : ByteArray) (maxL : Nat) (ret : Option FieldType) (f L : Nat) (av : List Value) (r : Int32) : Prop :=
  Met l y (wsM y bytes maxL ret) (k2_rm f L) (va_Pc av (UU E P)) (vp_Si (fun x => x = r)) 0 0 (fun _ => False)
def WQ (P' : Heap → Prop) (A : Nat → Prop) (r : Option Value) : Array Value → State → Outcome → State → Prop := fun _ st o t => o = .returned r ∧ P' t.heap ∧ va_F A st t
/-- A METHOD THAT WRITES in the cells A: it answers r, the heap holds P' -/
def WR (l : Launch) (E : EE) (P : Heap → Prop) (A : Nat → Prop) (y : MethodName) (bytes : ByteArray) (maxL : Nat) (ret : Option FieldType) (f L : Nat) (av : List Value) (r : Option Value) (P' : Heap → Prop) : Prop :=
  Met l y (wsM y bytes maxL ret) (k2_rm f L) (va_Pc av (UU E P)) (WQ P' A r) 0 0 A
section MK
variable {l : Launch} {E : EE} {P P' : Heap → Prop} {A : Nat → Prop} {y : MethodName} {bytes : ByteArray} {maxL f L : Nat} {ret : Option FieldType} {av : List Value} {r : Int32} {C : String}
theorem RO.mk {ty : FieldType} (hret : ret = some ty) (hn : narrow ty (.int r) = .int r) (hy : plainName y.cls = true) (hC : y.cls = C) (hlen : (lg_sl av).length ≤ maxL)
    (body : ∀ (p : Program) (e : Env) (s : State) (m : MethodId) (args : Array Value) (below : List Frame) (meth : Method) (c : Code) (H : Heap) (Q : State → Prop), CallFix p m c bytes maxL s args TW C → KK E s → P H →
      (∀ (pc : Nat) (ls : Array Slot) (v : Int32), decode bytes pc = .ok (.ireturn, 1) → v = r → W p l e (k2_rm f L) s m args below meth c H [] 0 0 Q (F0 m pc ls [.int v])) →
      ∀ ls : Array Slot, lv_has ls maxL (lv_args 0 av) → W p l e (k2_rm f L) s m args below meth c H [] 0 0 Q (F0 m 0 ls [])) : RO l E P y bytes maxL ret f L av r := by
  refine Met.ofW (cc := bytes) (maxL := maxL) (ret := ret) hy rfl ?_
  intro p e s m args below meth c s₁ B hml hv
  obtain ⟨rfl, hP, hK⟩ := hv
  have hts := atoms_spec (ws := wsM y bytes maxL ret) B.pre
  have hown : s.vm.findClass C = some m.cls := hC ▸ findClass_of_methodNamed B.named
  rw [lg_entry_eq]
  refine body p e s m av.toArray below meth c s.heap _ ⟨B.exec, B.bytes, hml, hown, fun w h => hts w (List.mem_cons_of_mem _ h)⟩ hK hP ?_ _ (lv_entry av hlen)
  intro pc ls v hdg hv
  subst hv
  exact W.zret B.exec B.bytes (B.returns.trans hret) hn (fun t ht _ => ⟨v, rfl, rfl, ht⟩) (fun q h => by cases h) hdg B.notSynchronized
theorem WR.mkI {ty : FieldType} (hret : ret = some ty) (hn : narrow ty (.int r) = .int r) (hy : plainName y.cls = true) (hC : y.cls = C) (hlen : (lg_sl av).length ≤ maxL)
    (body : ∀ (p : Program) (e : Env) (s : State) (m : MethodId) (args : Array Value) (below : List Frame) (meth : Method) (c : Code) (H0 : Heap) (Q : State → Prop), CallFix p m c bytes maxL s args TW C → KK E s → P H0 →
      (∀ (H : Heap) (locs : List Loc) (pc : Nat) (ls : Array Slot) (v : Int32), P' H → va_S A H0 H locs → decode bytes pc = .ok (.ireturn, 1) → v = r → W p l e (k2_rm f L) s m args below meth c H locs 0 0 Q (F0 m pc ls [.int v])) →
      ∀ ls : Array Slot, lv_has ls maxL (lv_args 0 av) → W p l e (k2_rm f L) s m args below meth c H0 [] 0 0 Q (F0 m 0 ls [])) : WR l E P A y bytes maxL ret f L av (some (.int r)) P' := by
  refine Met.ofW (cc := bytes) (maxL := maxL) (ret := ret) hy rfl ?_
  intro p e s m args below meth c s₁ B hml hv
  obtain ⟨rfl, hP, hK⟩ := hv
  have hts := atoms_spec (ws := wsM y bytes maxL ret) B.pre
  have hown : s.vm.findClass C = some m.cls := hC ▸ findClass_of_methodNamed B.named
  rw [lg_entry_eq]
  refine body p e s m av.toArray below meth c s.heap _ ⟨B.exec, B.bytes, hml, hown, fun w h => hts w (List.mem_cons_of_mem _ h)⟩ hK hP ?_ _ (lv_entry av hlen)
  intro H locs pc ls v hP' hS hdg hv
  subst hv
  exact W.zret B.exec B.bytes (B.returns.trans hret) hn (fun t ht _ => ⟨rfl, by rw [ht]; exact hP', hS.F ht⟩) hS.2.2 hdg B.notSynchronized
theorem WR.mkV (hret : ret = none) (hy : plainName y.cls = true) (hC : y.cls = C) (hlen : (lg_sl av).length ≤ maxL)
    (body : ∀ (p : Program) (e : Env) (s : State) (m : MethodId) (args : Array Value) (below : List Frame) (meth : Method) (c : Code) (H0 : Heap) (Q : State → Prop), CallFix p m c bytes maxL s args TW C → KK E s → P H0 →
      (∀ (H : Heap) (locs : List Loc) (pc : Nat) (ls : Array Slot), P' H → va_S A H0 H locs → decode bytes pc = .ok (.return_, 1) → W p l e (k2_rm f L) s m args below meth c H locs 0 0 Q (F0 m pc ls [])) →
      ∀ ls : Array Slot, lv_has ls maxL (lv_args 0 av) → W p l e (k2_rm f L) s m args below meth c H0 [] 0 0 Q (F0 m 0 ls [])) : WR l E P A y bytes maxL ret f L av none P' := by
  refine Met.ofW (cc := bytes) (maxL := maxL) (ret := ret) hy rfl ?_
  intro p e s m args below meth c s₁ B hml hv
  obtain ⟨rfl, hP, hK⟩ := hv
  have hts := atoms_spec (ws := wsM y bytes maxL ret) B.pre
  have hown : s.vm.findClass C = some m.cls := hC ▸ findClass_of_methodNamed B.named
  rw [lg_entry_eq]
  refine body p e s m av.toArray below meth c s.heap _ ⟨B.exec, B.bytes, hml, hown, fun w h => hts w (List.mem_cons_of_mem _ h)⟩ hK hP ?_ _ (lv_entry av hlen)
  intro H locs pc ls hP' hS hdg
  exact W.vret B.exec B.bytes (B.returns.trans hret) (fun t ht _ => ⟨rfl, by rw [ht]; exact hP', hS.F ht⟩) hS.2.2 hdg B.notSynchronized
end MK
section CALLS
variable {p : Program} {l : Launch} {e : Env} {R : Room} {s : State} {m : MethodId} {args : Array Value} {below : List Frame} {meth : Method} {c : Code} {H : Heap} {locs : List Loc} {cells slots : Nat} {Q : State → Prop}
variable {cc bytes : ByteArray} {pc nL maxL n idx f L : Nat} {ls : Array Slot} {rest st As : List Value} {E : EE} {P P' : Heap → Prop} {own C : String} {y : MethodName} {ret : Option FieldType} {r : Int32} {b : Nat} {A A0 : Nat → Prop} {H0 : Heap} {lv : List (Nat × Value)} {ro : Option Value}
theorem cb_of (hts : ∀ w ∈ TW, w.before args s = true) (hc : Cond.code y bytes maxL ret ∈ TW) (hl : Cond.methodLink own idx y ∈ TW) (hi : Cond.initialized y.cls ∈ TW) (hd : y.cls ≠ "java/lang/invoke/MethodHandle" ∧ y.cls ≠ "java/lang/invoke/VarHandle" ∧ (parseMethodDescriptor y.desc).map (fun d => d.parameters.length) = some n) (hR : f + 1 ≤ R.frames ∧ 8 + (maxL + 11) + L ≤ R.locals) :
    CallB R s args own idx y bytes maxL ret (wsM y bytes maxL ret) (k2_rm f L) 0 0 n := callB_of n hts (TW_goodIn hc) rfl rfl rfl (hts _ hi) (hts _ hl) hd hR
/-- a call of a method that reads -/
theorem roV (S : CallFix p m c cc nL s args TW own) (k : CWV own C idx y bytes maxL ret n) (hM : RO l E P y bytes maxL ret f L (.ref b :: As) r) (hK : KK E s) (hP : P H) (hrec : ∃ cell : Cell, H[b]? = some cell ∧ cell.vm.isStatics = false ∧ s.vm.findClass C = some cell.cls)
    (hst : st = As.reverse ++ .ref b :: rest) (hn : As.length = n) (hl : lv_has ls nL lv) (hR : f + 1 ≤ R.frames ∧ 8 + (maxL + 11) + L ≤ R.locals) (hW : (rest.map fun v => v.category).sum ≤ 8) (hdg : decode cc pc = .ok (.invokevirtual idx, 3)) (hf : cells + 0 ≤ R.cells ∧ slots + 0 ≤ R.slots)
    (kk : W p l e R s m args below meth c H locs cells slots Q (F0 m (pc + 3) ls (.int r :: rest))) : W p l e R s m args below meth c H locs cells slots Q (F0 m pc ls st) := by
  obtain ⟨k1, k2, k3, k4, k5, k6⟩ := k
  have hts := S.2.2.2.2
  refine vp_callSi (W.runV S hM (C := C) (index := idx) ⟨cb_of hts k4 k1 k5 k6 hR, hts _ k2, hts _ k3⟩ ⟨UU_blind, hrec, fun U hU hW => ⟨rfl, by rw [hU]; exact hP, KK.moved hW.alike hK⟩⟩ rfl hn hl.1 hst (lv_room hW) hdg hf) (fun r' hr' => ?_)
  subst hr'
  exact kk
theorem roS (S : CallFix p m c cc nL s args TW own) (k : CWS own idx y bytes maxL ret n) (hM : RO l E P y bytes maxL ret f L As r) (hK : KK E s) (hP : P H)
    (hst : st = As.reverse ++ rest) (hn : As.length = n) (hl : lv_has ls nL lv) (hR : f + 1 ≤ R.frames ∧ 8 + (maxL + 11) + L ≤ R.locals) (hW : (rest.map fun v => v.category).sum ≤ 8) (hdg : decode cc pc = .ok (.invokestatic idx, 3)) (hf : cells + 0 ≤ R.cells ∧ slots + 0 ≤ R.slots)
    (kk : W p l e R s m args below meth c H locs cells slots Q (F0 m (pc + 3) ls (.int r :: rest))) : W p l e R s m args below meth c H locs cells slots Q (F0 m pc ls st) := by
  obtain ⟨k1, k2, k4, k5, k6⟩ := k
  have hts := S.2.2.2.2
  refine vp_callSi (W.runS S hM (index := idx) ⟨cb_of hts k4 k1 k5 k6 hR, hts _ k2⟩ ⟨UU_blind, fun U hU hW => ⟨rfl, by rw [hU]; exact hP, KK.moved hW.alike hK⟩⟩ rfl hn hl.1 hst (lv_room hW) hdg hf) (fun r' hr' => ?_)
  subst hr'
  exact kk
/-- behind a call of a method that writes -/
theorem wr_back {a : Array Value} (hr : CallRun p l e R s m args below meth c H locs cells slots 0 0 (F0 m pc ls st) rest (WQ P' A ro a) A) (hS : va_S A0 H0 H locs) (hA : ∀ q, A q → A0 q)
    (kk : ∀ (H1 : Heap) (locs1 : List Loc), P' H1 → va_S A0 H0 H1 locs1 → H.size ≤ H1.size → (∀ q : Nat, q < H.size → ¬ A q → H1[q]? = H[q]?) → W p l e R s m args below meth c H1 locs1 cells slots Q (F0 m (pc + 3) ls (ro.toList ++ rest))) : W p l e R s m args below meth c H locs cells slots Q (F0 m pc ls st) := by
  intro T hT X
  obtain ⟨v, st₀, t, T', L, h0, X', hL, e1, ⟨hv, hp, hz, hk⟩, stp⟩ := hr T hT X
  cases hv
  rw [h0] at hz hk
  obtain ⟨t2, a1, b1⟩ := kk T'.heap (locs ++ L) (by rw [e1]; exact hp)
    ⟨Nat.le_trans hS.1 (by rw [e1]; exact hz), fun q h1 h2 => by rw [e1, hk q (Nat.lt_of_lt_of_le h1 hS.1) (fun z => h2 (hA q z))]; exact hS.2.1 q h1 h2, fun q hq => by
      rcases List.mem_append.mp hq with h | h
      · exact hS.2.2 q h
      · exact hA _ (hL q h)⟩ (by rw [e1]; exact hz) (fun q h1 h2 => by rw [e1]; exact hk q h1 h2) T' rfl X'
  exact ⟨t2, stp t2 a1, b1⟩
theorem wrV (S : CallFix p m c cc nL s args TW own) (k : CWV own C idx y bytes maxL ret n) (hM : WR l E P A y bytes maxL ret f L (.ref b :: As) ro P') (hK : KK E s) (hP : P H) (hrec : ∃ cell : Cell, H[b]? = some cell ∧ cell.vm.isStatics = false ∧ s.vm.findClass C = some cell.cls) (hS : va_S A0 H0 H locs) (hA : ∀ q, A q → A0 q)
    (hst : st = As.reverse ++ .ref b :: rest) (hn : As.length = n) (hl : lv_has ls nL lv) (hR : f + 1 ≤ R.frames ∧ 8 + (maxL + 11) + L ≤ R.locals) (hW : (rest.map fun v => v.category).sum ≤ 8) (hdg : decode cc pc = .ok (.invokevirtual idx, 3)) (hf : cells + 0 ≤ R.cells ∧ slots + 0 ≤ R.slots)
    (kk : ∀ (H1 : Heap) (locs1 : List Loc), P' H1 → va_S A0 H0 H1 locs1 → H.size ≤ H1.size → (∀ q : Nat, q < H.size → ¬ A q → H1[q]? = H[q]?) → W p l e R s m args below meth c H1 locs1 cells slots Q (F0 m (pc + 3) ls (ro.toList ++ rest))) : W p l e R s m args below meth c H locs cells slots Q (F0 m pc ls st) := by
  obtain ⟨k1, k2, k3, k4, k5, k6⟩ := k
  have hts := S.2.2.2.2
  exact wr_back (W.runV S hM (C := C) (index := idx) ⟨cb_of hts k4 k1 k5 k6 hR, hts _ k2, hts _ k3⟩ ⟨UU_blind, hrec, fun U hU hW => ⟨rfl, by rw [hU]; exact hP, KK.moved hW.alike hK⟩⟩ rfl hn hl.1 hst (lv_room hW) hdg hf) hS hA kk
end CALLS
-- NUMBERS ON THE STACK, AS NATURAL NUMBERS AND TRUTH VALUES
section NV
variable {p : Program} {l : Launch} {e : Env} {R : Room} {s : State} {m : MethodId} {args : Array Value} {below : List Frame} {meth : Method} {c : Code} {H : Heap} {locs : List Loc} {cells slots : Nat} {Q : State → Prop}
variable {cc : ByteArray} {pc tgt a b : Nat} {ls : Array Slot} {rest : List Value} {off : Int}
theorem tI {x : Int32} (y : Int32) (h : x = y) (k : W p l e R s m args below meth c H locs cells slots Q (F0 m pc ls (.int y :: rest))) : W p l e R s m args below meth c H locs cells slots Q (F0 m pc ls (.int x :: rest)) := h ▸ k
theorem nv_ge (hx : p.tables.exec = Jvm.exec) (hb : c.code = cc) (h1 : a < 2 ^ 31) (h2 : b < 2 ^ 31) (hdg : decode cc pc = .ok (.if_icmp .ge off, 3)) (ht : (pc : Int) + off = (tgt : Int)) (kt : b ≤ a → W p l e R s m args below meth c H locs cells slots Q (F0 m tgt ls rest)) (kf : a < b → W p l e R s m args below meth c H locs cells slots Q (F0 m (pc + 3) ls rest)) : W p l e R s m args below meth c H locs cells slots Q (F0 m pc ls (.int (nI b) :: .int (nI a) :: rest)) :=
  lv_icmp_ge hx hb hdg ht (fun q => kt ((nI_leI h2 h1).mp q)) (fun q => kf (Nat.lt_of_not_le (fun z => q ((nI_leI h2 h1).mpr z))))
theorem nv_lt (hx : p.tables.exec = Jvm.exec) (hb : c.code = cc) (h1 : a < 2 ^ 31) (h2 : b < 2 ^ 31) (hdg : decode cc pc = .ok (.if_icmp .lt off, 3)) (ht : (pc : Int) + off = (tgt : Int)) (kt : a < b → W p l e R s m args below meth c H locs cells slots Q (F0 m tgt ls rest)) (kf : b ≤ a → W p l e R s m args below meth c H locs cells slots Q (F0 m (pc + 3) ls rest)) : W p l e R s m args below meth c H locs cells slots Q (F0 m pc ls (.int (nI b) :: .int (nI a) :: rest)) :=
  lv_icmp_lt hx hb hdg ht (fun q => kt ((nI_ltI h1 h2).mp q)) (fun q => kf (Nat.le_of_not_lt (fun z => q ((nI_ltI h1 h2).mpr z))))
theorem nv_gt (hx : p.tables.exec = Jvm.exec) (hb : c.code = cc) (h1 : a < 2 ^ 31) (h2 : b < 2 ^ 31) (hdg : decode cc pc = .ok (.if_icmp .gt off, 3)) (ht : (pc : Int) + off = (tgt : Int)) (kt : b < a → W p l e R s m args below meth c H locs cells slots Q (F0 m tgt ls rest)) (kf : a ≤ b → W p l e R s m args below meth c H locs cells slots Q (F0 m (pc + 3) ls rest)) : W p l e R s m args below meth c H locs cells slots Q (F0 m pc ls (.int (nI b) :: .int (nI a) :: rest)) :=
  lv_icmp_gt hx hb hdg ht (fun q => kt ((nI_ltI h2 h1).mp q)) (fun q => kf (Nat.le_of_not_lt (fun z => q ((nI_ltI h2 h1).mpr z))))
theorem nv_le (hx : p.tables.exec = Jvm.exec) (hb : c.code = cc) (h1 : a < 2 ^ 31) (h2 : b < 2 ^ 31) (hdg : decode cc pc = .ok (.if_icmp .le off, 3)) (ht : (pc : Int) + off = (tgt : Int)) (kt : a ≤ b → W p l e R s m args below meth c H locs cells slots Q (F0 m tgt ls rest)) (kf : b < a → W p l e R s m args below meth c H locs cells slots Q (F0 m (pc + 3) ls rest)) : W p l e R s m args below meth c H locs cells slots Q (F0 m pc ls (.int (nI b) :: .int (nI a) :: rest)) :=
  lv_icmp_le hx hb hdg ht (fun q => kt ((nI_leI h1 h2).mp q)) (fun q => kf (Nat.lt_of_not_le (fun z => q ((nI_leI h1 h2).mpr z))))
theorem nv_eq (hx : p.tables.exec = Jvm.exec) (hb : c.code = cc) (h1 : a < 2 ^ 31) (h2 : b < 2 ^ 31) (hdg : decode cc pc = .ok (.if_icmp .eq off, 3)) (ht : (pc : Int) + off = (tgt : Int)) (kt : a = b → W p l e R s m args below meth c H locs cells slots Q (F0 m tgt ls rest)) (kf : ¬ a = b → W p l e R s m args below meth c H locs cells slots Q (F0 m (pc + 3) ls rest)) : W p l e R s m args below meth c H locs cells slots Q (F0 m pc ls (.int (nI b) :: .int (nI a) :: rest)) :=
  lv_icmp_eq hx hb hdg ht (fun q => kt ((nI_eq h1 h2).mp q)) (fun q => kf (fun z => q ((nI_eq h1 h2).mpr z)))
theorem nv_ne (hx : p.tables.exec = Jvm.exec) (hb : c.code = cc) (h1 : a < 2 ^ 31) (h2 : b < 2 ^ 31) (hdg : decode cc pc = .ok (.if_icmp .ne off, 3)) (ht : (pc : Int) + off = (tgt : Int)) (kt : ¬ a = b → W p l e R s m args below meth c H locs cells slots Q (F0 m tgt ls rest)) (kf : a = b → W p l e R s m args below meth c H locs cells slots Q (F0 m (pc + 3) ls rest)) : W p l e R s m args below meth c H locs cells slots Q (F0 m pc ls (.int (nI b) :: .int (nI a) :: rest)) :=
  lv_icmp_ne hx hb hdg ht (fun q => kt (fun z => q ((nI_eq h1 h2).mpr z))) (fun q => kf ((nI_eq h1 h2).mp q))
theorem bv_eq {b : Bool} (hx : p.tables.exec = Jvm.exec) (hb : c.code = cc) (hdg : decode cc pc = .ok (.ifCond .eq off, 3)) (ht : (pc : Int) + off = (tgt : Int)) (kt : b = false → W p l e R s m args below meth c H locs cells slots Q (F0 m tgt ls rest)) (kf : b = true → W p l e R s m args below meth c H locs cells slots Q (F0 m (pc + 3) ls rest)) : W p l e R s m args below meth c H locs cells slots Q (F0 m pc ls (.int (b2i b) :: rest)) :=
  lv_if_eq hx hb hdg ht (fun q => kt (b2i_0.mp q)) (fun q => kf (by cases b with | true => rfl | false => exact absurd rfl q))
theorem bv_ne {b : Bool} (hx : p.tables.exec = Jvm.exec) (hb : c.code = cc) (hdg : decode cc pc = .ok (.ifCond .ne off, 3)) (ht : (pc : Int) + off = (tgt : Int)) (kt : b = true → W p l e R s m args below meth c H locs cells slots Q (F0 m tgt ls rest)) (kf : b = false → W p l e R s m args below meth c H locs cells slots Q (F0 m (pc + 3) ls rest)) : W p l e R s m args below meth c H locs cells slots Q (F0 m pc ls (.int (b2i b) :: rest)) :=
  lv_if_ne hx hb hdg ht (fun q => kt (by cases b with | true => rfl | false => exact absurd rfl q)) (fun q => kf (b2i_0.mp q))
end NV
