-- ROWS ON NONE-OR-A-NUMBER
section PV
variable {p : Program} {l : Launch} {e : Env} {R : Room} {s : State} {m : MethodId} {args : Array Value} {below : List Frame} {meth : Method} {c : Code} {H : Heap} {locs : List Loc} {cells slots : Nat} {Q : State → Prop}
variable {cc : ByteArray} {pc tgt k : Nat} {ls : Array Slot} {rest : List Value} {off : Int} {o : Option Nat}
theorem pv_eq7 (hx : p.tables.exec = Jvm.exec) (hb : c.code = cc) (ho : ∀ u, o = some u → u < 2 ^ 31) (hdg : decode cc pc = .ok (.if_icmp .eq off, 3)) (ht : (pc : Int) + off = (tgt : Int)) (kt : o = none → W p l e R s m args below meth c H locs cells slots Q (F0 m tgt ls rest)) (kf : ¬ o = none → W p l e R s m args below meth c H locs cells slots Q (F0 m (pc + 3) ls rest)) : W p l e R s m args below meth c H locs cells slots Q (F0 m pc ls (.int (-7) :: .int (pe o) :: rest)) :=
  lv_icmp_eq hx hb hdg ht (fun q => kt ((pe_none ho).mp q)) (fun q => kf (fun z => q ((pe_none ho).mpr z)))
theorem pv_ne7 (hx : p.tables.exec = Jvm.exec) (hb : c.code = cc) (ho : ∀ u, o = some u → u < 2 ^ 31) (hdg : decode cc pc = .ok (.if_icmp .ne off, 3)) (ht : (pc : Int) + off = (tgt : Int)) (kt : ¬ o = none → W p l e R s m args below meth c H locs cells slots Q (F0 m tgt ls rest)) (kf : o = none → W p l e R s m args below meth c H locs cells slots Q (F0 m (pc + 3) ls rest)) : W p l e R s m args below meth c H locs cells slots Q (F0 m pc ls (.int (-7) :: .int (pe o) :: rest)) :=
  lv_icmp_ne hx hb hdg ht (fun q => kt (fun z => q ((pe_none ho).mpr z))) (fun q => kf ((pe_none ho).mp q))
theorem pvn_eq (hx : p.tables.exec = Jvm.exec) (hb : c.code = cc) (ho : ∀ u, o = some u → u < 2 ^ 31) (hk : k < 2 ^ 31) (hdg : decode cc pc = .ok (.if_icmp .eq off, 3)) (ht : (pc : Int) + off = (tgt : Int)) (kt : o = some k → W p l e R s m args below meth c H locs cells slots Q (F0 m tgt ls rest)) (kf : ¬ o = some k → W p l e R s m args below meth c H locs cells slots Q (F0 m (pc + 3) ls rest)) : W p l e R s m args below meth c H locs cells slots Q (F0 m pc ls (.int (nI k) :: .int (pe o) :: rest)) :=
  lv_icmp_eq hx hb hdg ht (fun q => kt ((pe_some ho hk).mp q)) (fun q => kf (fun z => q ((pe_some ho hk).mpr z)))
theorem pvn_ne (hx : p.tables.exec = Jvm.exec) (hb : c.code = cc) (ho : ∀ u, o = some u → u < 2 ^ 31) (hk : k < 2 ^ 31) (hdg : decode cc pc = .ok (.if_icmp .ne off, 3)) (ht : (pc : Int) + off = (tgt : Int)) (kt : ¬ o = some k → W p l e R s m args below meth c H locs cells slots Q (F0 m tgt ls rest)) (kf : o = some k → W p l e R s m args below meth c H locs cells slots Q (F0 m (pc + 3) ls rest)) : W p l e R s m args below meth c H locs cells slots Q (F0 m pc ls (.int (nI k) :: .int (pe o) :: rest)) :=
  lv_icmp_ne hx hb hdg ht (fun q => kt (fun z => q ((pe_some ho hk).mpr z))) (fun q => kf ((pe_some ho hk).mp q))
end PV
theorem ex_some {o : Option Nat} (h : ¬ o = none) : ∃ u, o = some u := by
  cases o with
  | none => exact absurd rfl h
  | some u => exact ⟨u, rfl⟩
/-- as RO.mk, for a member of a class of which the machine has entries -/
theorem RO.mkF {l : Launch} {E : EE} {P : Heap → Prop} {y : MethodName} {bytes : ByteArray} {maxL f L : Nat} {ret : Option FieldType} {av : List Value} {r : Int32} {C : String} {ty : FieldType} (hret : ret = some ty) (hn : narrow ty (.int r) = .int r) (hy : plainFor y = true) (hC : y.cls = C) (hlen : (lg_sl av).length ≤ maxL)
    (body : ∀ (p : Program) (e : Env) (s : State) (m : MethodId) (args : Array Value) (below : List Frame) (meth : Method) (c : Code) (H : Heap) (Q : State → Prop), CallFix p m c bytes maxL s args TW C → KK E s → P H →
      (∀ (pc : Nat) (ls : Array Slot) (v : Int32), decode bytes pc = .ok (.ireturn, 1) → v = r → W p l e (k2_rm f L) s m args below meth c H [] 0 0 Q (F0 m pc ls [.int v])) →
      ∀ ls : Array Slot, lv_has ls maxL (lv_args 0 av) → W p l e (k2_rm f L) s m args below meth c H [] 0 0 Q (F0 m 0 ls [])) : RO l E P y bytes maxL ret f L av r := by
  refine va_MetF (cc := bytes) (maxL := maxL) (ret := ret) hy rfl ?_
  intro p e s m args below meth c s₁ B hml hv
  obtain ⟨rfl, hP, hK⟩ := hv
  have hts := atoms_spec (ws := wsM y bytes maxL ret) B.pre
  have hown : s.vm.findClass C = some m.cls := hC ▸ findClass_of_methodNamed B.named
  rw [lg_entry_eq]
  refine body p e s m av.toArray below meth c s.heap _ ⟨B.exec, B.bytes, hml, hown, fun w h => hts w (List.mem_cons_of_mem _ h)⟩ hK hP ?_ _ (lv_entry av hlen)
  intro pc ls v hdg hv
  subst hv
  exact W.zret B.exec B.bytes (B.returns.trans hret) hn (fun t ht _ => ⟨v, rfl, rfl, ht⟩) (fun q h => by cases h) hdg B.notSynchronized
