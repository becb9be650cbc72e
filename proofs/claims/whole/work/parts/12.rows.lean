-- ROWS ON NONE-OR-A-NUMBER
section PV
variable {p : Program} {l : Launch} {e : Env} {R : Room} {s : State} {m : MethodId} {args : Array Value} {below : List Frame} {meth : Method} {c : Code} {H : Heap} {locs : List Loc} {cells slots : Nat} {Q : State → Prop}
variable {cc : ByteArray} {pc tgt k : Nat} {ls : Array Slot} {rest : List Value} {off : Int} {o : Option Nat}
theorem pv_eq7 (hx : p.tables.exec = Jvm.exec) (hb : c.code = cc) (ho : ∀ u, o = some u → u < 2 ^ 31) (hdg : decode cc pc = .ok (.if_icmp .eq off, 3)) (ht : (pc : Int) + off = (tgt : Int)) (kt : o = none → W p l e R s m args below meth c H locs cells slots Q (F0 m tgt ls rest)) (kf : ¬ o = none → W p l e R s m args below meth c H locs cells slots Q (F0 m (pc + 3) ls rest)) : W p l e R s m args below meth c H locs cells slots Q (F0 m pc ls (.int (-7) :: .int (pe o) :: rest)) :=
  lv_icmp_eq hx hb hdg ht (fun q => kt ((pe_none ho).mp q)) (fun q => kf (fun z => q ((pe_none ho).mpr z)))
theorem pv_ne7 (hx : p.tables.exec = Jvm.exec) (hb : c.code = cc) (ho : ∀ u, o = some u → u < 2 ^ 31) (hdg : decode cc pc = .ok (.if_icmp .ne off, 3)) (ht : (pc : Int) + off = (tgt : Int)) (kt : ¬ o = none → W p l e R s m args below meth c H locs cells slots Q (F0 m tgt ls rest)) (kf : o = none → W p l e R s m args below meth c H locs cells slots Q (F0 m (pc + 3) ls rest)) : W p l e R s m args below meth c H locs cells slots Q (F0 m pc ls (.int (-7) :: .int (pe o) :: rest)) :=
  lv_icmp_ne hx hb hdg ht (fun q => kt (fun z => q ((pe_none ho).mpr z))) (fun q => kf ((pe_none ho).mp q))
theorem pvn_eq (hx : p.tables.exec = Jvm.exec) (hb : c.code = cc) (ho : ∀ u, o = some u → u < 2 ^ 31) (hk : k < 2 ^ 31) (hdg : decode cc pc = .ok (.if_icmp .eq off, 3)) (ht : (pc : Int) + off = (tgt : Int)) (kt : o = some k → W p l e R s m args below meth c H locs cells slots Q (F0 m tgt ls rest)) (kf : ¬ o = some k → W p l e R s m args below meth c H locs cells slots Q (F0 m (pc + 3) ls rest)) : W p l e R s m args below meth c H locs cells slots Q (F0 m pc ls (.int (nI k) :: .int (pe o) :: rest)) :=
  lv_icmp_eq hx hb hdg ht (fun q => kt ((pe_some ho hk).mp q)) (fun q => kf (fun z => q ((pe_some ho hk).mpr z)))
theorem pvn_ne (hx : p.tables.exec = Jvm.exec) (hb : c.code = cc) (ho : ∀ u, o = some u → u < 2 ^ 31) (hk : k < 2 ^ 31) (hdg : decode cc pc = .ok (.if_icmp .ne off, 3)) (ht : (pc : Int) + off = (tgt : Int)) (kt : ¬ o = some k → W p l e R s m args below meth c H locs cells slots Q (F0 m tgt ls rest)) (kf : o = some k → W p l e R s m args below meth c H locs cells slots Q (F0 m (pc + 3) ls rest)) : W p l e R s m args below meth c H locs cells slots Q (F0 m pc ls (.int (nI k) :: .int (pe o) :: rest)) :=
  lv_icmp_ne hx hb hdg ht (fun q => kt (fun z => q ((pe_some ho hk).mpr z))) (fun q => kf ((pe_some ho hk).mp q))
end PV
theorem ex_some {o : Option Nat} (h : ¬ o = none) : ∃ u, o = some u := by
  cases o with
  | none => exact absurd rfl h
  | some u => exact ⟨u, rfl⟩
