-- THE REFERENCE'S WORLD
def wM (E : EE) (b : Nat → Nat) (n : Nat) (ids : Nat → Int32) (par : Nat → Option Nat) (cols : Nat → Int32) (rd : Nat) (nx : Nat → Int32) (isin : Nat → Bool) (wi wo : Nat → Nat) (wf : Nat → Option Nat) : va_W :=
  [(b 0, .inr (1, [.int (nI n), .ref (b 1), .ref (b 2), .ref (b 3), .int (nI rd), .ref (b 4), .ref (b 5), .ref (b 6), .ref (b 7), .ref (b 8)])),
   (b 1, .inl (E.2.1, 24, .inl ids)),
   (b 2, .inl (E.2.1, 24, .inl (fun j => pe (par j)))),
   (b 3, .inl (E.2.1, 408, .inl cols)),
   (b 4, .inl (E.2.1, 24, .inl nx)),
   (b 5, .inl (E.2.2.2, 24, .inl (fun j => b2i (isin j)))),
   (b 6, .inl (E.2.1, 24, .inl (fun j => nI (wi j)))),
   (b 7, .inl (E.2.1, 24, .inl (fun j => nI (wo j)))),
   (b 8, .inl (E.2.1, 24, .inl (fun j => pe (wf j))))]
def MP (E : EE) (b : Nat → Nat) (n : Nat) (ids : Nat → Int32) (par : Nat → Option Nat) (cols : Nat → Int32) (rd : Nat) (nx : Nat → Int32) (isin : Nat → Bool) (wi wo : Nat → Nat) (wf : Nat → Option Nat) (H : Heap) : Prop := va_P E.1 vwCl (wM E b n ids par cols rd nx isin wi wo wf) H
def AM (b : Nat → Nat) : Nat → Prop := fun q => ∃ i, i < 9 ∧ q = b i
section MW
variable {E : EE} {b : Nat → Nat} {n rd : Nat} {ids cols nx : Nat → Int32} {par wf : Nat → Option Nat} {isin : Nat → Bool} {wi wo : Nat → Nat}
theorem wM_addr {k : Nat} {q : Nat × va_E} (h : (wM E b n ids par cols rd nx isin wi wo wf)[k]? = some q) : k < 9 ∧ q.1 = b k := by
  have hk : k < 9 := (List.getElem?_eq_some_iff.mp h).1
  refine ⟨hk, ?_⟩
  match k, hk, h with
  | 0, _, h => cases h; rfl
  | 1, _, h => cases h; rfl
  | 2, _, h => cases h; rfl
  | 3, _, h => cases h; rfl
  | 4, _, h => cases h; rfl
  | 5, _, h => cases h; rfl
  | 6, _, h => cases h; rfl
  | 7, _, h => cases h; rfl
  | 8, _, h => cases h; rfl
theorem m_D (hI : inj 9 b) : va_D (AM b) (wM E b n ids par cols rd nx isin wi wo wf) := by
  refine ⟨fun i j p q hi hj hpq => ?_, fun k q hk => ?_⟩
  · obtain ⟨h1, h2⟩ := wM_addr hi
    obtain ⟨h3, h4⟩ := wM_addr hj
    exact hI i j h1 h3 (by rw [← h2, ← h4, hpq])
  · obtain ⟨h1, h2⟩ := wM_addr hk
    exact ⟨k, h1, h2⟩
theorem m_rec {s : State} {H : Heap} (hK : KK E s) (hP : MP E b n ids par cols rd nx isin wi wo wf H) : ∃ cell : Cell, H[b 0]? = some cell ∧ cell.vm.isStatics = false ∧ s.vm.findClass RX1 = some cell.cls := va_recv hK hP (ci := 1) (q0 := 0) rfl rfl
theorem MP.kept {H H1 : Heap} {A : Nat → Prop} (hP : MP E b n ids par cols rd nx isin wi wo wf H) (hk : ∀ q : Nat, q < H.size → ¬ A q → H1[q]? = H[q]?) (hA : ∀ q, AM b q → ¬ A q) : MP E b n ids par cols rd nx isin wi wo wf H1 :=
  va_P.kept hP (fun k q h => hk q.1 ((hP k q h).lt) (hA _ ⟨k, (wM_addr h).1, (wM_addr h).2⟩))
theorem MP.lt {H : Heap} (hP : MP E b n ids par cols rd nx isin wi wo wf H) {i : Nat} (hi : i < 9) : b i < H.size := by
  have h : ∃ q, (wM E b n ids par cols rd nx isin wi wo wf)[i]? = some q := by
    rw [List.getElem?_eq_getElem (by exact hi)]; exact ⟨_, rfl⟩
  obtain ⟨q, hq⟩ := h
  rw [← (wM_addr hq).2]
  exact (hP i q hq).lt
theorem up_pe {f : Nat → Option Nat} {v : Nat} {x : Option Nat} : upd (fun j => pe (f j)) v (pe x) = fun j => pe (va_up f v x j) := by
  funext j
  by_cases h : j = v
  · subst h; rw [pk_us, va_up_self]
  · rw [pk_un h, va_up_ne _ _ h]
theorem up_nI {f : Nat → Nat} {v x : Nat} : upd (fun j => nI (f j)) v (nI x) = fun j => nI (va_up f v x j) := by
  funext j
  by_cases h : j = v
  · subst h; rw [pk_us, va_up_self]
  · rw [pk_un h, va_up_ne _ _ h]
theorem up_bi {f : Nat → Bool} {v : Nat} {x : Bool} : upd (fun j => b2i (f j)) v (vp_nar .boolean (b2i x)) = fun j => b2i (va_up f v x j) := by
  rw [b2i_vn]
  funext j
  by_cases h : j = v
  · subst h; rw [pk_us, va_up_self]
  · rw [pk_un h, va_up_ne _ _ h]
end MW
section MR
variable {p : Program} {l : Launch} {e : Env} {R : Room} {s : State} {m : MethodId} {args : Array Value} {below : List Frame} {meth : Method} {c : Code} {H : Heap} {locs : List Loc} {cells slots : Nat} {Q : State → Prop}
variable {cc : ByteArray} {pc nL : Nat} {ls : Array Slot} {rest : List Value} {E : EE} {H0 : Heap}
variable {b : Nat → Nat} {n rd : Nat} {ids cols nx : Nat → Int32} {par wf : Nat → Option Nat} {isin : Nat → Bool} {wi wo : Nat → Nat}
theorem m_g0 (S : CallFix p m c cc nL s args TW RX1) (hK : KK E s) (hP : MP E b n ids par cols rd nx isin wi wo wf H) (hdg : decode cc pc = .ok (.getfield 35, 3)) (kk : W p l e R s m args below meth c H locs cells slots Q (F0 m (pc + 3) ls (.int (nI n) :: rest))) : W p l e R s m args below meth c H locs cells slots Q (F0 m pc ls (.ref (b 0) :: rest)) :=
  va_get (D := E.1) (ci := 1) (C := RX1) (T := TX1) (N := 10) S.1 S.2.1 S.2.2.2.2 inX1 S.2.2.2.1 hK hP 0 rfl rfl 0 (by decide) (S.2.2.2.2 _ fX1_35) (fun _ h => h) rfl hdg kk
theorem m_g1 (S : CallFix p m c cc nL s args TW RX1) (hK : KK E s) (hP : MP E b n ids par cols rd nx isin wi wo wf H) (hdg : decode cc pc = .ok (.getfield 7, 3)) (kk : W p l e R s m args below meth c H locs cells slots Q (F0 m (pc + 3) ls (.ref (b 1) :: rest))) : W p l e R s m args below meth c H locs cells slots Q (F0 m pc ls (.ref (b 0) :: rest)) :=
  va_get (D := E.1) (ci := 1) (C := RX1) (T := TX1) (N := 10) S.1 S.2.1 S.2.2.2.2 inX1 S.2.2.2.1 hK hP 0 rfl rfl 1 (by decide) (S.2.2.2.2 _ fX1_7) (fun _ h => h) rfl hdg kk
theorem m_g2 (S : CallFix p m c cc nL s args TW RX1) (hK : KK E s) (hP : MP E b n ids par cols rd nx isin wi wo wf H) (hdg : decode cc pc = .ok (.getfield 13, 3)) (kk : W p l e R s m args below meth c H locs cells slots Q (F0 m (pc + 3) ls (.ref (b 2) :: rest))) : W p l e R s m args below meth c H locs cells slots Q (F0 m pc ls (.ref (b 0) :: rest)) :=
  va_get (D := E.1) (ci := 1) (C := RX1) (T := TX1) (N := 10) S.1 S.2.1 S.2.2.2.2 inX1 S.2.2.2.1 hK hP 0 rfl rfl 2 (by decide) (S.2.2.2.2 _ fX1_13) (fun _ h => h) rfl hdg kk
theorem m_g3 (S : CallFix p m c cc nL s args TW RX1) (hK : KK E s) (hP : MP E b n ids par cols rd nx isin wi wo wf H) (hdg : decode cc pc = .ok (.getfield 16, 3)) (kk : W p l e R s m args below meth c H locs cells slots Q (F0 m (pc + 3) ls (.ref (b 3) :: rest))) : W p l e R s m args below meth c H locs cells slots Q (F0 m pc ls (.ref (b 0) :: rest)) :=
  va_get (D := E.1) (ci := 1) (C := RX1) (T := TX1) (N := 10) S.1 S.2.1 S.2.2.2.2 inX1 S.2.2.2.1 hK hP 0 rfl rfl 3 (by decide) (S.2.2.2.2 _ fX1_16) (fun _ h => h) rfl hdg kk
theorem m_g4 (S : CallFix p m c cc nL s args TW RX1) (hK : KK E s) (hP : MP E b n ids par cols rd nx isin wi wo wf H) (hdg : decode cc pc = .ok (.getfield 43, 3)) (kk : W p l e R s m args below meth c H locs cells slots Q (F0 m (pc + 3) ls (.int (nI rd) :: rest))) : W p l e R s m args below meth c H locs cells slots Q (F0 m pc ls (.ref (b 0) :: rest)) :=
  va_get (D := E.1) (ci := 1) (C := RX1) (T := TX1) (N := 10) S.1 S.2.1 S.2.2.2.2 inX1 S.2.2.2.1 hK hP 0 rfl rfl 4 (by decide) (S.2.2.2.2 _ fX1_43) (fun _ h => h) rfl hdg kk
theorem m_g5 (S : CallFix p m c cc nL s args TW RX1) (hK : KK E s) (hP : MP E b n ids par cols rd nx isin wi wo wf H) (hdg : decode cc pc = .ok (.getfield 19, 3)) (kk : W p l e R s m args below meth c H locs cells slots Q (F0 m (pc + 3) ls (.ref (b 4) :: rest))) : W p l e R s m args below meth c H locs cells slots Q (F0 m pc ls (.ref (b 0) :: rest)) :=
  va_get (D := E.1) (ci := 1) (C := RX1) (T := TX1) (N := 10) S.1 S.2.1 S.2.2.2.2 inX1 S.2.2.2.1 hK hP 0 rfl rfl 5 (by decide) (S.2.2.2.2 _ fX1_19) (fun _ h => h) rfl hdg kk
theorem m_g6 (S : CallFix p m c cc nL s args TW RX1) (hK : KK E s) (hP : MP E b n ids par cols rd nx isin wi wo wf H) (hdg : decode cc pc = .ok (.getfield 22, 3)) (kk : W p l e R s m args below meth c H locs cells slots Q (F0 m (pc + 3) ls (.ref (b 5) :: rest))) : W p l e R s m args below meth c H locs cells slots Q (F0 m pc ls (.ref (b 0) :: rest)) :=
  va_get (D := E.1) (ci := 1) (C := RX1) (T := TX1) (N := 10) S.1 S.2.1 S.2.2.2.2 inX1 S.2.2.2.1 hK hP 0 rfl rfl 6 (by decide) (S.2.2.2.2 _ fX1_22) (fun _ h => h) rfl hdg kk
theorem m_g7 (S : CallFix p m c cc nL s args TW RX1) (hK : KK E s) (hP : MP E b n ids par cols rd nx isin wi wo wf H) (hdg : decode cc pc = .ok (.getfield 26, 3)) (kk : W p l e R s m args below meth c H locs cells slots Q (F0 m (pc + 3) ls (.ref (b 6) :: rest))) : W p l e R s m args below meth c H locs cells slots Q (F0 m pc ls (.ref (b 0) :: rest)) :=
  va_get (D := E.1) (ci := 1) (C := RX1) (T := TX1) (N := 10) S.1 S.2.1 S.2.2.2.2 inX1 S.2.2.2.1 hK hP 0 rfl rfl 7 (by decide) (S.2.2.2.2 _ fX1_26) (fun _ h => h) rfl hdg kk
theorem m_g8 (S : CallFix p m c cc nL s args TW RX1) (hK : KK E s) (hP : MP E b n ids par cols rd nx isin wi wo wf H) (hdg : decode cc pc = .ok (.getfield 29, 3)) (kk : W p l e R s m args below meth c H locs cells slots Q (F0 m (pc + 3) ls (.ref (b 7) :: rest))) : W p l e R s m args below meth c H locs cells slots Q (F0 m pc ls (.ref (b 0) :: rest)) :=
  va_get (D := E.1) (ci := 1) (C := RX1) (T := TX1) (N := 10) S.1 S.2.1 S.2.2.2.2 inX1 S.2.2.2.1 hK hP 0 rfl rfl 8 (by decide) (S.2.2.2.2 _ fX1_29) (fun _ h => h) rfl hdg kk
theorem m_g9 (S : CallFix p m c cc nL s args TW RX1) (hK : KK E s) (hP : MP E b n ids par cols rd nx isin wi wo wf H) (hdg : decode cc pc = .ok (.getfield 32, 3)) (kk : W p l e R s m args below meth c H locs cells slots Q (F0 m (pc + 3) ls (.ref (b 8) :: rest))) : W p l e R s m args below meth c H locs cells slots Q (F0 m pc ls (.ref (b 0) :: rest)) :=
  va_get (D := E.1) (ci := 1) (C := RX1) (T := TX1) (N := 10) S.1 S.2.1 S.2.2.2.2 inX1 S.2.2.2.1 hK hP 0 rfl rfl 9 (by decide) (S.2.2.2.2 _ fX1_32) (fun _ h => h) rfl hdg kk
theorem m_p0 {j : Nat} (S : CallFix p m c cc nL s args TW RX1) (hK : KK E s) (hI : inj 9 b) (hP : MP E b n ids par cols rd nx isin wi wo wf H) (hS : va_S (AM b) H0 H locs) (hdg : decode cc pc = .ok (.putfield 35, 3)) (kk : ∀ (H1 : Heap) (locs1 : List Loc), MP E b j ids par cols rd nx isin wi wo wf H1 → va_S (AM b) H0 H1 locs1 → W p l e R s m args below meth c H1 locs1 cells slots Q (F0 m (pc + 3) ls rest)) : W p l e R s m args below meth c H locs cells slots Q (F0 m pc ls (.int (nI j) :: .ref (b 0) :: rest)) :=
  va_put (D := E.1) (ci := 1) (v := .int (nI j)) (ty := .int) (C := RX1) (T := TX1) (N := 10) S.1 S.2.1 S.2.2.2.2 inX1 tyX1 tyX1_ok nmX1 S.2.2.2.1 hK hP (m_D hI) hS 0 rfl rfl 0 (by decide) (S.2.2.2.2 _ fX1_35) (fun _ h => h) rfl (by decide +kernel) rfl rfl (Nat.le_of_ble_eq_true rfl) hdg (fun H1 locs1 h1 _ h3 => kk H1 locs1 h1 h3)
theorem m_p4 {j : Nat} (S : CallFix p m c cc nL s args TW RX1) (hK : KK E s) (hI : inj 9 b) (hP : MP E b n ids par cols rd nx isin wi wo wf H) (hS : va_S (AM b) H0 H locs) (hdg : decode cc pc = .ok (.putfield 43, 3)) (kk : ∀ (H1 : Heap) (locs1 : List Loc), MP E b n ids par cols j nx isin wi wo wf H1 → va_S (AM b) H0 H1 locs1 → W p l e R s m args below meth c H1 locs1 cells slots Q (F0 m (pc + 3) ls rest)) : W p l e R s m args below meth c H locs cells slots Q (F0 m pc ls (.int (nI j) :: .ref (b 0) :: rest)) :=
  va_put (D := E.1) (ci := 1) (v := .int (nI j)) (ty := .int) (C := RX1) (T := TX1) (N := 10) S.1 S.2.1 S.2.2.2.2 inX1 tyX1 tyX1_ok nmX1 S.2.2.2.1 hK hP (m_D hI) hS 0 rfl rfl 4 (by decide) (S.2.2.2.2 _ fX1_43) (fun _ h => h) rfl (by decide +kernel) rfl rfl (Nat.le_of_ble_eq_true rfl) hdg (fun H1 locs1 h1 _ h3 => kk H1 locs1 h1 h3)
theorem m_ld1 {v : Nat}  (hx : p.tables.exec = Jvm.exec) (hb : c.code = cc) (hK : KK E s) (hP : MP E b n ids par cols rd nx isin wi wo wf H) (hv : v < 24) (hdg : decode cc pc = .ok (.iaload, 1)) (kk : W p l e R s m args below meth c H locs cells slots Q (F0 m (pc + 1) ls (.int (ids v) :: rest))) : W p l e R s m args below meth c H locs cells slots Q (F0 m pc ls (.int (nI v) :: .ref (b 1) :: rest)) := by
  refine va_iald (D := E.1) hx hb hK hP 1 0 rfl rfl (vp_in_nI hv (by decide)) hdg ?_
  rw [nI_clamp (by omega)]
  exact kk
theorem m_ld2 {v : Nat}  (hx : p.tables.exec = Jvm.exec) (hb : c.code = cc) (hK : KK E s) (hP : MP E b n ids par cols rd nx isin wi wo wf H) (hv : v < 24) (hdg : decode cc pc = .ok (.iaload, 1)) (kk : W p l e R s m args below meth c H locs cells slots Q (F0 m (pc + 1) ls (.int (pe (par v)) :: rest))) : W p l e R s m args below meth c H locs cells slots Q (F0 m pc ls (.int (nI v) :: .ref (b 2) :: rest)) := by
  refine va_iald (D := E.1) hx hb hK hP 2 0 rfl rfl (vp_in_nI hv (by decide)) hdg ?_
  rw [nI_clamp (by omega)]
  exact kk
theorem m_ld3 {v : Nat}  (hx : p.tables.exec = Jvm.exec) (hb : c.code = cc) (hK : KK E s) (hP : MP E b n ids par cols rd nx isin wi wo wf H) (hv : v < 408) (hdg : decode cc pc = .ok (.iaload, 1)) (kk : W p l e R s m args below meth c H locs cells slots Q (F0 m (pc + 1) ls (.int (cols v) :: rest))) : W p l e R s m args below meth c H locs cells slots Q (F0 m pc ls (.int (nI v) :: .ref (b 3) :: rest)) := by
  refine va_iald (D := E.1) hx hb hK hP 3 0 rfl rfl (vp_in_nI hv (by decide)) hdg ?_
  rw [nI_clamp (by omega)]
  exact kk
theorem m_ld4 {v : Nat}  (hx : p.tables.exec = Jvm.exec) (hb : c.code = cc) (hK : KK E s) (hP : MP E b n ids par cols rd nx isin wi wo wf H) (hv : v < 24) (hdg : decode cc pc = .ok (.iaload, 1)) (kk : W p l e R s m args below meth c H locs cells slots Q (F0 m (pc + 1) ls (.int (nx v) :: rest))) : W p l e R s m args below meth c H locs cells slots Q (F0 m pc ls (.int (nI v) :: .ref (b 4) :: rest)) := by
  refine va_iald (D := E.1) hx hb hK hP 4 0 rfl rfl (vp_in_nI hv (by decide)) hdg ?_
  rw [nI_clamp (by omega)]
  exact kk
theorem m_ld5 {v : Nat}  (hx : p.tables.exec = Jvm.exec) (hb : c.code = cc) (hK : KK E s) (hP : MP E b n ids par cols rd nx isin wi wo wf H) (hv : v < 24) (hdg : decode cc pc = .ok (.baload, 1)) (kk : W p l e R s m args below meth c H locs cells slots Q (F0 m (pc + 1) ls (.int (b2i (isin v)) :: rest))) : W p l e R s m args below meth c H locs cells slots Q (F0 m pc ls (.int (nI v) :: .ref (b 5) :: rest)) := by
  refine va_zald (D := E.1) hx hb hK hP 5 2 rfl rfl (vp_in_nI hv (by decide)) hdg ?_
  rw [nI_clamp (by omega)]
  exact kk
theorem m_ld6 {v : Nat}  (hx : p.tables.exec = Jvm.exec) (hb : c.code = cc) (hK : KK E s) (hP : MP E b n ids par cols rd nx isin wi wo wf H) (hv : v < 24) (hdg : decode cc pc = .ok (.iaload, 1)) (kk : W p l e R s m args below meth c H locs cells slots Q (F0 m (pc + 1) ls (.int (nI (wi v)) :: rest))) : W p l e R s m args below meth c H locs cells slots Q (F0 m pc ls (.int (nI v) :: .ref (b 6) :: rest)) := by
  refine va_iald (D := E.1) hx hb hK hP 6 0 rfl rfl (vp_in_nI hv (by decide)) hdg ?_
  rw [nI_clamp (by omega)]
  exact kk
theorem m_ld7 {v : Nat}  (hx : p.tables.exec = Jvm.exec) (hb : c.code = cc) (hK : KK E s) (hP : MP E b n ids par cols rd nx isin wi wo wf H) (hv : v < 24) (hdg : decode cc pc = .ok (.iaload, 1)) (kk : W p l e R s m args below meth c H locs cells slots Q (F0 m (pc + 1) ls (.int (nI (wo v)) :: rest))) : W p l e R s m args below meth c H locs cells slots Q (F0 m pc ls (.int (nI v) :: .ref (b 7) :: rest)) := by
  refine va_iald (D := E.1) hx hb hK hP 7 0 rfl rfl (vp_in_nI hv (by decide)) hdg ?_
  rw [nI_clamp (by omega)]
  exact kk
theorem m_ld8 {v : Nat}  (hx : p.tables.exec = Jvm.exec) (hb : c.code = cc) (hK : KK E s) (hP : MP E b n ids par cols rd nx isin wi wo wf H) (hv : v < 24) (hdg : decode cc pc = .ok (.iaload, 1)) (kk : W p l e R s m args below meth c H locs cells slots Q (F0 m (pc + 1) ls (.int (pe (wf v)) :: rest))) : W p l e R s m args below meth c H locs cells slots Q (F0 m pc ls (.int (nI v) :: .ref (b 8) :: rest)) := by
  refine va_iald (D := E.1) hx hb hK hP 8 0 rfl rfl (vp_in_nI hv (by decide)) hdg ?_
  rw [nI_clamp (by omega)]
  exact kk
theorem m_st1 {v : Nat} {x : Int32}  (hx : p.tables.exec = Jvm.exec) (hb : c.code = cc) (hK : KK E s) (hI : inj 9 b) (hP : MP E b n ids par cols rd nx isin wi wo wf H) (hS : va_S (AM b) H0 H locs) (hv : v < 24) (hdg : decode cc pc = .ok (.iastore, 1)) (kk : ∀ (H1 : Heap) (locs1 : List Loc), MP E b n (va_up ids v x) par cols rd nx isin wi wo wf H1 → va_S (AM b) H0 H1 locs1 → W p l e R s m args below meth c H1 locs1 cells slots Q (F0 m (pc + 1) ls rest)) : W p l e R s m args below meth c H locs cells slots Q (F0 m pc ls (.int (x) :: .int (nI v) :: .ref (b 1) :: rest)) := by
  refine va_iast (D := E.1) hx hb hK hP (m_D hI) hS 1 0 rfl rfl (vp_in_nI hv (by decide)) hdg (fun H1 locs1 h1 _ h3 => kk H1 locs1 ?_ h3)
  rw [nI_clamp (by omega)] at h1
  exact h1
theorem m_st2 {v : Nat} {x : Option Nat}  (hx : p.tables.exec = Jvm.exec) (hb : c.code = cc) (hK : KK E s) (hI : inj 9 b) (hP : MP E b n ids par cols rd nx isin wi wo wf H) (hS : va_S (AM b) H0 H locs) (hv : v < 24) (hdg : decode cc pc = .ok (.iastore, 1)) (kk : ∀ (H1 : Heap) (locs1 : List Loc), MP E b n ids (va_up par v x) cols rd nx isin wi wo wf H1 → va_S (AM b) H0 H1 locs1 → W p l e R s m args below meth c H1 locs1 cells slots Q (F0 m (pc + 1) ls rest)) : W p l e R s m args below meth c H locs cells slots Q (F0 m pc ls (.int (pe x) :: .int (nI v) :: .ref (b 2) :: rest)) := by
  refine va_iast (D := E.1) hx hb hK hP (m_D hI) hS 2 0 rfl rfl (vp_in_nI hv (by decide)) hdg (fun H1 locs1 h1 _ h3 => kk H1 locs1 ?_ h3)
  rw [nI_clamp (by omega)] at h1
  rw [up_pe] at h1
  exact h1
theorem m_st3 {v : Nat} {x : Int32}  (hx : p.tables.exec = Jvm.exec) (hb : c.code = cc) (hK : KK E s) (hI : inj 9 b) (hP : MP E b n ids par cols rd nx isin wi wo wf H) (hS : va_S (AM b) H0 H locs) (hv : v < 408) (hdg : decode cc pc = .ok (.iastore, 1)) (kk : ∀ (H1 : Heap) (locs1 : List Loc), MP E b n ids par (va_up cols v x) rd nx isin wi wo wf H1 → va_S (AM b) H0 H1 locs1 → W p l e R s m args below meth c H1 locs1 cells slots Q (F0 m (pc + 1) ls rest)) : W p l e R s m args below meth c H locs cells slots Q (F0 m pc ls (.int (x) :: .int (nI v) :: .ref (b 3) :: rest)) := by
  refine va_iast (D := E.1) hx hb hK hP (m_D hI) hS 3 0 rfl rfl (vp_in_nI hv (by decide)) hdg (fun H1 locs1 h1 _ h3 => kk H1 locs1 ?_ h3)
  rw [nI_clamp (by omega)] at h1
  exact h1
theorem m_st4 {v : Nat} {x : Int32}  (hx : p.tables.exec = Jvm.exec) (hb : c.code = cc) (hK : KK E s) (hI : inj 9 b) (hP : MP E b n ids par cols rd nx isin wi wo wf H) (hS : va_S (AM b) H0 H locs) (hv : v < 24) (hdg : decode cc pc = .ok (.iastore, 1)) (kk : ∀ (H1 : Heap) (locs1 : List Loc), MP E b n ids par cols rd (va_up nx v x) isin wi wo wf H1 → va_S (AM b) H0 H1 locs1 → W p l e R s m args below meth c H1 locs1 cells slots Q (F0 m (pc + 1) ls rest)) : W p l e R s m args below meth c H locs cells slots Q (F0 m pc ls (.int (x) :: .int (nI v) :: .ref (b 4) :: rest)) := by
  refine va_iast (D := E.1) hx hb hK hP (m_D hI) hS 4 0 rfl rfl (vp_in_nI hv (by decide)) hdg (fun H1 locs1 h1 _ h3 => kk H1 locs1 ?_ h3)
  rw [nI_clamp (by omega)] at h1
  exact h1
theorem m_st5 {v : Nat} {x : Bool}  (hx : p.tables.exec = Jvm.exec) (hb : c.code = cc) (hK : KK E s) (hI : inj 9 b) (hP : MP E b n ids par cols rd nx isin wi wo wf H) (hS : va_S (AM b) H0 H locs) (hv : v < 24) (hdg : decode cc pc = .ok (.bastore, 1)) (kk : ∀ (H1 : Heap) (locs1 : List Loc), MP E b n ids par cols rd nx (va_up isin v x) wi wo wf H1 → va_S (AM b) H0 H1 locs1 → W p l e R s m args below meth c H1 locs1 cells slots Q (F0 m (pc + 1) ls rest)) : W p l e R s m args below meth c H locs cells slots Q (F0 m pc ls (.int (b2i x) :: .int (nI v) :: .ref (b 5) :: rest)) := by
  refine va_zast (D := E.1) hx hb hK hP (m_D hI) hS 5 2 rfl rfl (vp_in_nI hv (by decide)) hdg (fun H1 locs1 h1 _ h3 => kk H1 locs1 ?_ h3)
  rw [nI_clamp (by omega)] at h1
  rw [up_bi] at h1
  exact h1
theorem m_st6 {v : Nat} {x : Nat}  (hx : p.tables.exec = Jvm.exec) (hb : c.code = cc) (hK : KK E s) (hI : inj 9 b) (hP : MP E b n ids par cols rd nx isin wi wo wf H) (hS : va_S (AM b) H0 H locs) (hv : v < 24) (hdg : decode cc pc = .ok (.iastore, 1)) (kk : ∀ (H1 : Heap) (locs1 : List Loc), MP E b n ids par cols rd nx isin (va_up wi v x) wo wf H1 → va_S (AM b) H0 H1 locs1 → W p l e R s m args below meth c H1 locs1 cells slots Q (F0 m (pc + 1) ls rest)) : W p l e R s m args below meth c H locs cells slots Q (F0 m pc ls (.int (nI x) :: .int (nI v) :: .ref (b 6) :: rest)) := by
  refine va_iast (D := E.1) hx hb hK hP (m_D hI) hS 6 0 rfl rfl (vp_in_nI hv (by decide)) hdg (fun H1 locs1 h1 _ h3 => kk H1 locs1 ?_ h3)
  rw [nI_clamp (by omega)] at h1
  rw [up_nI] at h1
  exact h1
theorem m_st7 {v : Nat} {x : Nat}  (hx : p.tables.exec = Jvm.exec) (hb : c.code = cc) (hK : KK E s) (hI : inj 9 b) (hP : MP E b n ids par cols rd nx isin wi wo wf H) (hS : va_S (AM b) H0 H locs) (hv : v < 24) (hdg : decode cc pc = .ok (.iastore, 1)) (kk : ∀ (H1 : Heap) (locs1 : List Loc), MP E b n ids par cols rd nx isin wi (va_up wo v x) wf H1 → va_S (AM b) H0 H1 locs1 → W p l e R s m args below meth c H1 locs1 cells slots Q (F0 m (pc + 1) ls rest)) : W p l e R s m args below meth c H locs cells slots Q (F0 m pc ls (.int (nI x) :: .int (nI v) :: .ref (b 7) :: rest)) := by
  refine va_iast (D := E.1) hx hb hK hP (m_D hI) hS 7 0 rfl rfl (vp_in_nI hv (by decide)) hdg (fun H1 locs1 h1 _ h3 => kk H1 locs1 ?_ h3)
  rw [nI_clamp (by omega)] at h1
  rw [up_nI] at h1
  exact h1
theorem m_st8 {v : Nat} {x : Option Nat}  (hx : p.tables.exec = Jvm.exec) (hb : c.code = cc) (hK : KK E s) (hI : inj 9 b) (hP : MP E b n ids par cols rd nx isin wi wo wf H) (hS : va_S (AM b) H0 H locs) (hv : v < 24) (hdg : decode cc pc = .ok (.iastore, 1)) (kk : ∀ (H1 : Heap) (locs1 : List Loc), MP E b n ids par cols rd nx isin wi wo (va_up wf v x) H1 → va_S (AM b) H0 H1 locs1 → W p l e R s m args below meth c H1 locs1 cells slots Q (F0 m (pc + 1) ls rest)) : W p l e R s m args below meth c H locs cells slots Q (F0 m pc ls (.int (pe x) :: .int (nI v) :: .ref (b 8) :: rest)) := by
  refine va_iast (D := E.1) hx hb hK hP (m_D hI) hS 8 0 rfl rfl (vp_in_nI hv (by decide)) hdg (fun H1 locs1 h1 _ h3 => kk H1 locs1 ?_ h3)
  rw [nI_clamp (by omega)] at h1
  rw [up_pe] at h1
  exact h1
end MR
