-- THE CLASS'S WORLD: its cells, and a row for each access
def wX (E : EE) (a : Nat → Nat) (ids : Nat → Int32) (par : Nat → Option Nat) (rows : Nat → Nat → Int32) (cu pr n rd : Nat) : va_W :=
  [(a 0, .inr (0, [.ref (a 1), .ref (a 2), .ref (a 3), .ref (a (4 + cu)), .int (nI pr), .int (nI n), .int (nI rd)])),
   (a 1, .inl (E.2.1, 24, .inl ids)),
   (a 2, .inl (E.2.1, 24, .inl (fun j => pe (par j)))),
   (a 3, .inl (E.2.2.1, 18, .inr (.inr (.inr (.inr (fun j => if j < 18 then some (a (4 + j)) else none))))))] ++ (List.range 18).map (fun j => (a (4 + j), .inl (E.2.1, 24, .inl (rows j))))
def XP (E : EE) (a : Nat → Nat) (ids : Nat → Int32) (par : Nat → Option Nat) (rows : Nat → Nat → Int32) (cu pr n rd : Nat) (H : Heap) : Prop := va_P E.1 vwCl (wX E a ids par rows cu pr n rd) H
def AX (a : Nat → Nat) : Nat → Prop := fun q => ∃ i, i < 22 ∧ q = a i
def inj (N : Nat) (a : Nat → Nat) : Prop := ∀ i j, i < N → j < N → a i = a j → i = j
section XW
variable {E : EE} {a : Nat → Nat} {ids : Nat → Int32} {par : Nat → Option Nat} {rows : Nat → Nat → Int32} {cu pr n rd : Nat}
theorem wX_row {j : Nat} (hj : j < 18) : (wX E a ids par rows cu pr n rd)[4 + j]? = some (a (4 + j), .inl (E.2.1, 24, .inl (rows j))) := by
  unfold wX
  rw [List.getElem?_append_right (by simp)]
  simp [hj]
theorem wX_len : (wX E a ids par rows cu pr n rd).length = 22 := by simp [wX]
theorem wX_addr {k : Nat} {q : Nat × va_E} (h : (wX E a ids par rows cu pr n rd)[k]? = some q) : k < 22 ∧ q.1 = a k := by
  have hk : k < 22 := by have := (List.getElem?_eq_some_iff.mp h).1; rw [wX_len] at this; exact this
  refine ⟨hk, ?_⟩
  by_cases h4 : k < 4
  · match k, h4, h with
    | 0, _, h => cases h; rfl
    | 1, _, h => cases h; rfl
    | 2, _, h => cases h; rfl
    | 3, _, h => cases h; rfl
  · obtain ⟨j, rfl⟩ : ∃ j, k = 4 + j := ⟨k - 4, by omega⟩
    rw [wX_row (by omega)] at h
    cases h; rfl
theorem x_D (hI : inj 22 a) : va_D (AX a) (wX E a ids par rows cu pr n rd) := by
  refine ⟨fun i j p q hi hj hpq => ?_, fun k q hk => ?_⟩
  · obtain ⟨h1, h2⟩ := wX_addr hi
    obtain ⟨h3, h4⟩ := wX_addr hj
    exact hI i j h1 h3 (by rw [← h2, ← h4, hpq])
  · obtain ⟨h1, h2⟩ := wX_addr hk
    exact ⟨k, h1, h2⟩
theorem wX_setRow {j : Nat} (hj : j < 18) (f : Nat → Int32) : (wX E a ids par rows cu pr n rd).set (4 + j) (a (4 + j), .inl (E.2.1, 24, .inl f)) = wX E a ids par (va_up rows j f) cu pr n rd := by
  apply List.ext_getElem?
  intro k
  by_cases hk : k = 4 + j
  · subst hk
    rw [List.getElem?_set_self (by rw [wX_len]; omega), wX_row hj, va_up_self]
  · rw [List.getElem?_set_ne (Ne.symm hk)]
    by_cases h4 : k < 4
    · match k, h4 with
      | 0, _ => rfl
      | 1, _ => rfl
      | 2, _ => rfl
      | 3, _ => rfl
    · obtain ⟨i, rfl⟩ : ∃ i, k = 4 + i := ⟨k - 4, by omega⟩
      by_cases hi : i < 18
      · rw [wX_row hi, wX_row hi, va_up_ne _ _ (by omega)]
      · rw [List.getElem?_eq_none (by rw [wX_len]; omega), List.getElem?_eq_none (by rw [wX_len]; omega)]
theorem x_rec {s : State} {H : Heap} (hK : KK E s) (hP : XP E a ids par rows cu pr n rd H) : ∃ cell : Cell, H[a 0]? = some cell ∧ cell.vm.isStatics = false ∧ s.vm.findClass RX0 = some cell.cls := va_recv hK hP (ci := 0) (q0 := 0) rfl rfl
/-- what is written elsewhere leaves it -/
theorem XP.kept {H H1 : Heap} {A : Nat → Prop} (hP : XP E a ids par rows cu pr n rd H) (hk : ∀ q : Nat, q < H.size → ¬ A q → H1[q]? = H[q]?) (hA : ∀ q, AX a q → ¬ A q) : XP E a ids par rows cu pr n rd H1 :=
  va_P.kept hP (fun k q h => hk q.1 ((hP k q h).lt) (hA _ ⟨k, (wX_addr h).1, (wX_addr h).2⟩))
theorem XP.lt {H : Heap} (hP : XP E a ids par rows cu pr n rd H) {i : Nat} (hi : i < 22) : a i < H.size := by
  have h : ∃ q, (wX E a ids par rows cu pr n rd)[i]? = some q := by
    rw [List.getElem?_eq_getElem (by rw [wX_len]; exact hi)]; exact ⟨_, rfl⟩
  obtain ⟨q, hq⟩ := h
  rw [← (wX_addr hq).2]
  exact (hP i q hq).lt
end XW
section XR
variable {p : Program} {l : Launch} {e : Env} {R : Room} {s : State} {m : MethodId} {args : Array Value} {below : List Frame} {meth : Method} {c : Code} {H : Heap} {locs : List Loc} {cells slots : Nat} {Q : State → Prop}
variable {cc : ByteArray} {pc nL : Nat} {ls : Array Slot} {rest : List Value} {E : EE} {H0 : Heap}
variable {a : Nat → Nat} {ids : Nat → Int32} {par : Nat → Option Nat} {rows : Nat → Nat → Int32} {cu pr n rd : Nat}
theorem x_g0 (S : CallFix p m c cc nL s args TW RX0) (hK : KK E s) (hP : XP E a ids par rows cu pr n rd H) (hdg : decode cc pc = .ok (.getfield 9, 3)) (kk : W p l e R s m args below meth c H locs cells slots Q (F0 m (pc + 3) ls (.ref (a 1) :: rest))) : W p l e R s m args below meth c H locs cells slots Q (F0 m pc ls (.ref (a 0) :: rest)) :=
  va_get (D := E.1) (ci := 0) (C := RX0) (T := TX0) (N := 7) S.1 S.2.1 S.2.2.2.2 inX0 S.2.2.2.1 hK hP 0 rfl rfl 0 (by decide) (S.2.2.2.2 _ fX0_9) (fun _ h => h) rfl hdg kk
theorem x_g1 (S : CallFix p m c cc nL s args TW RX0) (hK : KK E s) (hP : XP E a ids par rows cu pr n rd H) (hdg : decode cc pc = .ok (.getfield 13, 3)) (kk : W p l e R s m args below meth c H locs cells slots Q (F0 m (pc + 3) ls (.ref (a 2) :: rest))) : W p l e R s m args below meth c H locs cells slots Q (F0 m pc ls (.ref (a 0) :: rest)) :=
  va_get (D := E.1) (ci := 0) (C := RX0) (T := TX0) (N := 7) S.1 S.2.1 S.2.2.2.2 inX0 S.2.2.2.1 hK hP 0 rfl rfl 1 (by decide) (S.2.2.2.2 _ fX0_13) (fun _ h => h) rfl hdg kk
theorem x_g2 (S : CallFix p m c cc nL s args TW RX0) (hK : KK E s) (hP : XP E a ids par rows cu pr n rd H) (hdg : decode cc pc = .ok (.getfield 18, 3)) (kk : W p l e R s m args below meth c H locs cells slots Q (F0 m (pc + 3) ls (.ref (a 3) :: rest))) : W p l e R s m args below meth c H locs cells slots Q (F0 m pc ls (.ref (a 0) :: rest)) :=
  va_get (D := E.1) (ci := 0) (C := RX0) (T := TX0) (N := 7) S.1 S.2.1 S.2.2.2.2 inX0 S.2.2.2.1 hK hP 0 rfl rfl 2 (by decide) (S.2.2.2.2 _ fX0_18) (fun _ h => h) rfl hdg kk
theorem x_g3 (S : CallFix p m c cc nL s args TW RX0) (hK : KK E s) (hP : XP E a ids par rows cu pr n rd H) (hdg : decode cc pc = .ok (.getfield 21, 3)) (kk : W p l e R s m args below meth c H locs cells slots Q (F0 m (pc + 3) ls (.ref (a (4 + cu)) :: rest))) : W p l e R s m args below meth c H locs cells slots Q (F0 m pc ls (.ref (a 0) :: rest)) :=
  va_get (D := E.1) (ci := 0) (C := RX0) (T := TX0) (N := 7) S.1 S.2.1 S.2.2.2.2 inX0 S.2.2.2.1 hK hP 0 rfl rfl 3 (by decide) (S.2.2.2.2 _ fX0_21) (fun _ h => h) rfl hdg kk
theorem x_g4 (S : CallFix p m c cc nL s args TW RX0) (hK : KK E s) (hP : XP E a ids par rows cu pr n rd H) (hdg : decode cc pc = .ok (.getfield 24, 3)) (kk : W p l e R s m args below meth c H locs cells slots Q (F0 m (pc + 3) ls (.int (nI pr) :: rest))) : W p l e R s m args below meth c H locs cells slots Q (F0 m pc ls (.ref (a 0) :: rest)) :=
  va_get (D := E.1) (ci := 0) (C := RX0) (T := TX0) (N := 7) S.1 S.2.1 S.2.2.2.2 inX0 S.2.2.2.1 hK hP 0 rfl rfl 4 (by decide) (S.2.2.2.2 _ fX0_24) (fun _ h => h) rfl hdg kk
theorem x_g5 (S : CallFix p m c cc nL s args TW RX0) (hK : KK E s) (hP : XP E a ids par rows cu pr n rd H) (hdg : decode cc pc = .ok (.getfield 28, 3)) (kk : W p l e R s m args below meth c H locs cells slots Q (F0 m (pc + 3) ls (.int (nI n) :: rest))) : W p l e R s m args below meth c H locs cells slots Q (F0 m pc ls (.ref (a 0) :: rest)) :=
  va_get (D := E.1) (ci := 0) (C := RX0) (T := TX0) (N := 7) S.1 S.2.1 S.2.2.2.2 inX0 S.2.2.2.1 hK hP 0 rfl rfl 5 (by decide) (S.2.2.2.2 _ fX0_28) (fun _ h => h) rfl hdg kk
theorem x_g6 (S : CallFix p m c cc nL s args TW RX0) (hK : KK E s) (hP : XP E a ids par rows cu pr n rd H) (hdg : decode cc pc = .ok (.getfield 31, 3)) (kk : W p l e R s m args below meth c H locs cells slots Q (F0 m (pc + 3) ls (.int (nI rd) :: rest))) : W p l e R s m args below meth c H locs cells slots Q (F0 m pc ls (.ref (a 0) :: rest)) :=
  va_get (D := E.1) (ci := 0) (C := RX0) (T := TX0) (N := 7) S.1 S.2.1 S.2.2.2.2 inX0 S.2.2.2.1 hK hP 0 rfl rfl 6 (by decide) (S.2.2.2.2 _ fX0_31) (fun _ h => h) rfl hdg kk
theorem x_p3 {j : Nat} (S : CallFix p m c cc nL s args TW RX0) (hK : KK E s) (hI : inj 22 a) (hP : XP E a ids par rows cu pr n rd H) (hS : va_S (AX a) H0 H locs) (hdg : decode cc pc = .ok (.putfield 21, 3)) (kk : ∀ (H1 : Heap) (locs1 : List Loc), XP E a ids par rows j pr n rd H1 → va_S (AX a) H0 H1 locs1 → W p l e R s m args below meth c H1 locs1 cells slots Q (F0 m (pc + 3) ls rest)) : W p l e R s m args below meth c H locs cells slots Q (F0 m pc ls (.ref (a (4 + j)) :: .ref (a 0) :: rest)) :=
  va_put (D := E.1) (ci := 0) (v := .ref (a (4 + j))) (ty := .array .int) (C := RX0) (T := TX0) (N := 7) S.1 S.2.1 S.2.2.2.2 inX0 tyX0 tyX0_ok nmX0 S.2.2.2.1 hK hP (x_D hI) hS 0 rfl rfl 3 (by decide) (S.2.2.2.2 _ fX0_21) (fun _ h => h) rfl (by decide +kernel) rfl rfl (Nat.le_of_ble_eq_true rfl) hdg (fun H1 locs1 h1 _ h3 => kk H1 locs1 h1 h3)
theorem x_p4 {j : Nat} (S : CallFix p m c cc nL s args TW RX0) (hK : KK E s) (hI : inj 22 a) (hP : XP E a ids par rows cu pr n rd H) (hS : va_S (AX a) H0 H locs) (hdg : decode cc pc = .ok (.putfield 24, 3)) (kk : ∀ (H1 : Heap) (locs1 : List Loc), XP E a ids par rows cu j n rd H1 → va_S (AX a) H0 H1 locs1 → W p l e R s m args below meth c H1 locs1 cells slots Q (F0 m (pc + 3) ls rest)) : W p l e R s m args below meth c H locs cells slots Q (F0 m pc ls (.int (nI j) :: .ref (a 0) :: rest)) :=
  va_put (D := E.1) (ci := 0) (v := .int (nI j)) (ty := .int) (C := RX0) (T := TX0) (N := 7) S.1 S.2.1 S.2.2.2.2 inX0 tyX0 tyX0_ok nmX0 S.2.2.2.1 hK hP (x_D hI) hS 0 rfl rfl 4 (by decide) (S.2.2.2.2 _ fX0_24) (fun _ h => h) rfl (by decide +kernel) rfl rfl (Nat.le_of_ble_eq_true rfl) hdg (fun H1 locs1 h1 _ h3 => kk H1 locs1 h1 h3)
theorem x_p5 {j : Nat} (S : CallFix p m c cc nL s args TW RX0) (hK : KK E s) (hI : inj 22 a) (hP : XP E a ids par rows cu pr n rd H) (hS : va_S (AX a) H0 H locs) (hdg : decode cc pc = .ok (.putfield 28, 3)) (kk : ∀ (H1 : Heap) (locs1 : List Loc), XP E a ids par rows cu pr j rd H1 → va_S (AX a) H0 H1 locs1 → W p l e R s m args below meth c H1 locs1 cells slots Q (F0 m (pc + 3) ls rest)) : W p l e R s m args below meth c H locs cells slots Q (F0 m pc ls (.int (nI j) :: .ref (a 0) :: rest)) :=
  va_put (D := E.1) (ci := 0) (v := .int (nI j)) (ty := .int) (C := RX0) (T := TX0) (N := 7) S.1 S.2.1 S.2.2.2.2 inX0 tyX0 tyX0_ok nmX0 S.2.2.2.1 hK hP (x_D hI) hS 0 rfl rfl 5 (by decide) (S.2.2.2.2 _ fX0_28) (fun _ h => h) rfl (by decide +kernel) rfl rfl (Nat.le_of_ble_eq_true rfl) hdg (fun H1 locs1 h1 _ h3 => kk H1 locs1 h1 h3)
theorem x_p6 {j : Nat} (S : CallFix p m c cc nL s args TW RX0) (hK : KK E s) (hI : inj 22 a) (hP : XP E a ids par rows cu pr n rd H) (hS : va_S (AX a) H0 H locs) (hdg : decode cc pc = .ok (.putfield 31, 3)) (kk : ∀ (H1 : Heap) (locs1 : List Loc), XP E a ids par rows cu pr n j H1 → va_S (AX a) H0 H1 locs1 → W p l e R s m args below meth c H1 locs1 cells slots Q (F0 m (pc + 3) ls rest)) : W p l e R s m args below meth c H locs cells slots Q (F0 m pc ls (.int (nI j) :: .ref (a 0) :: rest)) :=
  va_put (D := E.1) (ci := 0) (v := .int (nI j)) (ty := .int) (C := RX0) (T := TX0) (N := 7) S.1 S.2.1 S.2.2.2.2 inX0 tyX0 tyX0_ok nmX0 S.2.2.2.1 hK hP (x_D hI) hS 0 rfl rfl 6 (by decide) (S.2.2.2.2 _ fX0_31) (fun _ h => h) rfl (by decide +kernel) rfl rfl (Nat.le_of_ble_eq_true rfl) hdg (fun H1 locs1 h1 _ h3 => kk H1 locs1 h1 h3)
theorem x_ldI {v : Nat}  (hx : p.tables.exec = Jvm.exec) (hb : c.code = cc) (hK : KK E s) (hP : XP E a ids par rows cu pr n rd H) (hv : v < 24) (hdg : decode cc pc = .ok (.iaload, 1)) (kk : W p l e R s m args below meth c H locs cells slots Q (F0 m (pc + 1) ls (.int (ids v) :: rest))) : W p l e R s m args below meth c H locs cells slots Q (F0 m pc ls (.int (nI v) :: .ref (a 1) :: rest)) := by
  refine va_iald (D := E.1) hx hb hK hP 1 0 rfl rfl (vp_in_nI hv (by decide)) hdg ?_
  rw [nI_clamp (by omega)]
  exact kk
theorem x_ldP {v : Nat}  (hx : p.tables.exec = Jvm.exec) (hb : c.code = cc) (hK : KK E s) (hP : XP E a ids par rows cu pr n rd H) (hv : v < 24) (hdg : decode cc pc = .ok (.iaload, 1)) (kk : W p l e R s m args below meth c H locs cells slots Q (F0 m (pc + 1) ls (.int (pe (par v)) :: rest))) : W p l e R s m args below meth c H locs cells slots Q (F0 m pc ls (.int (nI v) :: .ref (a 2) :: rest)) := by
  refine va_iald (D := E.1) hx hb hK hP 2 0 rfl rfl (vp_in_nI hv (by decide)) hdg ?_
  rw [nI_clamp (by omega)]
  exact kk
theorem x_ldC {v : Nat} {j : Nat} (hj : j < 18) (hx : p.tables.exec = Jvm.exec) (hb : c.code = cc) (hK : KK E s) (hP : XP E a ids par rows cu pr n rd H) (hv : v < 24) (hdg : decode cc pc = .ok (.iaload, 1)) (kk : W p l e R s m args below meth c H locs cells slots Q (F0 m (pc + 1) ls (.int (rows j v) :: rest))) : W p l e R s m args below meth c H locs cells slots Q (F0 m pc ls (.int (nI v) :: .ref (a (4 + j)) :: rest)) := by
  refine va_iald (D := E.1) hx hb hK hP (4 + j) 0 (wX_row hj) rfl (vp_in_nI hv (by decide)) hdg ?_
  rw [nI_clamp (by omega)]
  exact kk
theorem x_ldR {j : Nat} (hx : p.tables.exec = Jvm.exec) (hb : c.code = cc) (hK : KK E s) (hP : XP E a ids par rows cu pr n rd H) (hj : j < 18) (hdg : decode cc pc = .ok (.aaload, 1)) (kk : W p l e R s m args below meth c H locs cells slots Q (F0 m (pc + 1) ls (.ref (a (4 + j)) :: rest))) : W p l e R s m args below meth c H locs cells slots Q (F0 m pc ls (.int (nI j) :: .ref (a 3) :: rest)) := by
  have e : (nI j).toNatClampNeg = j := nI_clamp (by omega)
  have hlt : (nI j).toNatClampNeg < 18 := by rw [e]; exact hj
  refine W.aald (v := .ref (a (4 + j))) (ty := .array .int) hx hb (hP 3 _ rfl) ((hK.2 1 _ rfl).1 18 (fun j => va_rf (if j < 18 then some (a (4 + j)) else none))) rfl (fun q => by cases q) (by show ¬ (nI j < 0 ∨ (arrV _ _ _).slots.size ≤ _); rw [arrV_size]; exact vp_in_nI (N := 18) hj (by decide)) ?_ rfl rfl hdg kk
  show (arrV _ _ _).slots[_]? = _
  rw [arrV_read _ _ hlt, e]
  simp [hj, va_rf]
theorem x_stI {v : Nat} {x : Int32}  (hx : p.tables.exec = Jvm.exec) (hb : c.code = cc) (hK : KK E s) (hI : inj 22 a) (hP : XP E a ids par rows cu pr n rd H) (hS : va_S (AX a) H0 H locs) (hv : v < 24) (hdg : decode cc pc = .ok (.iastore, 1)) (kk : ∀ (H1 : Heap) (locs1 : List Loc), XP E a (va_up ids v x) par rows cu pr n rd H1 → va_S (AX a) H0 H1 locs1 → W p l e R s m args below meth c H1 locs1 cells slots Q (F0 m (pc + 1) ls rest)) : W p l e R s m args below meth c H locs cells slots Q (F0 m pc ls (.int (x) :: .int (nI v) :: .ref (a 1) :: rest)) := by
  refine va_iast (D := E.1) hx hb hK hP (x_D hI) hS 1 0 rfl rfl (vp_in_nI hv (by decide)) hdg (fun H1 locs1 h1 _ h3 => kk H1 locs1 ?_ h3)
  rw [nI_clamp (by omega)] at h1
  exact h1
theorem x_stP {v : Nat} {x : Option Nat}  (hx : p.tables.exec = Jvm.exec) (hb : c.code = cc) (hK : KK E s) (hI : inj 22 a) (hP : XP E a ids par rows cu pr n rd H) (hS : va_S (AX a) H0 H locs) (hv : v < 24) (hdg : decode cc pc = .ok (.iastore, 1)) (kk : ∀ (H1 : Heap) (locs1 : List Loc), XP E a ids (va_up par v x) rows cu pr n rd H1 → va_S (AX a) H0 H1 locs1 → W p l e R s m args below meth c H1 locs1 cells slots Q (F0 m (pc + 1) ls rest)) : W p l e R s m args below meth c H locs cells slots Q (F0 m pc ls (.int (pe x) :: .int (nI v) :: .ref (a 2) :: rest)) := by
  refine va_iast (D := E.1) hx hb hK hP (x_D hI) hS 2 0 rfl rfl (vp_in_nI hv (by decide)) hdg (fun H1 locs1 h1 _ h3 => kk H1 locs1 ?_ h3)
  rw [nI_clamp (by omega)] at h1
  have e : upd (fun j => pe (par j)) v (pe x) = fun j => pe (va_up par v x j) := by
    funext j
    by_cases h : j = v
    · subst h; rw [pk_us, va_up_self]
    · rw [pk_un h, va_up_ne _ _ h]
  rw [e] at h1
  exact h1
theorem x_stC {v : Nat} {x : Int32} {j : Nat} (hj : j < 18) (hx : p.tables.exec = Jvm.exec) (hb : c.code = cc) (hK : KK E s) (hI : inj 22 a) (hP : XP E a ids par rows cu pr n rd H) (hS : va_S (AX a) H0 H locs) (hv : v < 24) (hdg : decode cc pc = .ok (.iastore, 1)) (kk : ∀ (H1 : Heap) (locs1 : List Loc), XP E a ids par (va_up rows j (va_up (rows j) v x)) cu pr n rd H1 → va_S (AX a) H0 H1 locs1 → W p l e R s m args below meth c H1 locs1 cells slots Q (F0 m (pc + 1) ls rest)) : W p l e R s m args below meth c H locs cells slots Q (F0 m pc ls (.int (x) :: .int (nI v) :: .ref (a (4 + j)) :: rest)) := by
  refine va_iast (D := E.1) hx hb hK hP (x_D hI) hS (4 + j) 0 (wX_row hj) rfl (vp_in_nI hv (by decide)) hdg (fun H1 locs1 h1 _ h3 => kk H1 locs1 ?_ h3)
  rw [nI_clamp (by omega)] at h1
  rw [wX_setRow hj] at h1
  exact h1
end XR
