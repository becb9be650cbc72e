-- THE CONSTRUCTORS (laid by wip/whole/gen/init.py)
theorem va_AOA.moved {ty : FieldType} {u U : State} (hvm : u.vm.Alike U.vm) (h : va_AOA ty u) : va_AOA ty U := by
  unfold va_AOA Cond.before Cond.holds at *
  simp only [Cond.value, beq_iff_eq] at h ⊢
  have hf : ∀ x, U.vm.findClass x = u.vm.findClass x := fun x => hvm.findClass x _
  rw [hf]
  cases hc : u.vm.findClass (FieldType.array ty).toString with
  | none => rw [hc] at h; simp at h
  | some comp =>
    rw [hc] at h
    simp only [Option.bind_some] at h ⊢
    have e1 := va_idx_bare U.vm comp
    have e2 := va_idx_bare u.vm comp
    first | rw [hvm.bare_eq] at e1 | rw [← hvm.bare_eq] at e1
    rw [Option.bind_eq_some_iff] at h ⊢
    obtain ⟨c, h1, h2⟩ := h
    refine ⟨c, (e1.symm.trans e2).trans h1, ?_⟩
    rw [Option.map_eq_some_iff] at h2 ⊢
    obtain ⟨k, h3, h4⟩ := h2
    obtain ⟨k', hk', he⟩ := hvm.2.2 _ _ h3
    refine ⟨k', hk', ?_⟩
    have hkk : k'.kind = k.kind := by rw [he]
    rw [hkk, ← h4, hf]
abbrev tyB (cI cZ : ClassId) : List (ClassId × FieldType) := [(cI, .int), (cZ, .boolean)]
def obX (f0 f1 f2 f3 : Value) : va_E := .inr (0, [f0, f1, f2, f3, .int 0, .int 0, .int 0])
set_option maxRecDepth 100000 in
set_option maxHeartbeats 4000000 in
theorem cX_init (l : Launch) (D : va_G) (cI cZ : ClassId) (h0 sz : Nat) : Met l yX0_init (wsM yX0_init cX0_init 1 none) ({ frames := 1, cells := 21, slots := 498, locals := 12 }) (va_Pc [.ref h0] (fun U => U.heap.size = sz ∧ va_P D vwCl [(h0, .inr (0, [.null, .null, .null, .null, .int 0, .int 0, .int 0]))] U.heap ∧ va_K D vwCl (tyB cI cZ) U ∧ va_AOA .int U)) (va_Qv (fun _ : Unit => True) (fun _ t => ∃ (cR : ClassId) (a : Nat → Nat), a 0 = h0 ∧ inj 22 a ∧ (∀ i, i < 22 → i ≠ 0 → sz ≤ a i) ∧ KK (D, cI, cR, cZ) t ∧ XP (D, cI, cR, cZ) a (fun _ => 0) (fun _ => some 0) (fun _ _ => 0) 0 0 0 0 t.heap) (va_A [(h0, .inr (0, [.null, .null, .null, .null, .int 0, .int 0, .int 0]))] sz)) 21 498 (va_A [(h0, .inr (0, [.null, .null, .null, .null, .int 0, .int 0, .int 0]))] sz) := by
  refine Met.ofW (cc := cX0_init) (maxL := 1) (ret := none) (by decide) rfl ?_
  intro p e s m args below meth c s₁ B hml hv
  obtain ⟨rfl, hsz, hP, hK, hAO⟩ := hv
  have hx := B.exec
  have hb := B.bytes
  have hr := B.returns
  have hts0 := atoms_spec (ws := wsM yX0_init cX0_init 1 none) B.pre
  have hts : ∀ w ∈ TW, w.before [.ref h0].toArray s = true := fun w h => hts0 w (List.mem_cons_of_mem _ h)
  have hown : s.vm.findClass RX0 = some m.cls := findClass_of_methodNamed B.named
  have hlocks := B.notSynchronized
  have hin : meth.name = "<init>" := (name_of_methodNamed B.named B.method).1
  have hfI : s.vm.findClass ("[" ++ (FieldType.int).toString) = some cI := (hK.2 0 _ rfl).2
  have hfZ : s.vm.findClass ("[" ++ (FieldType.boolean).toString) = some cZ := (hK.2 1 _ rfl).2
  subst hsz
  have hD0 : va_D (fun _ => True) [(h0, (.inr (0, [.null, .null, .null, .null, .int 0, .int 0, .int 0]) : va_E))] := ⟨fun i j x y hi hj _ => by
    have h1 : i < 1 := (List.getElem?_eq_some_iff.mp hi).1
    have h2 : j < 1 := (List.getElem?_eq_some_iff.mp hj).1
    omega, fun _ _ _ => trivial⟩
  have hD := hD0.self (sz := s.heap.size)
  generalize hAe : va_A [(h0, (.inr (0, [.null, .null, .null, .null, .int 0, .int 0, .int 0]) : va_E))] s.heap.size = A at hD ⊢
  have hA : ∀ q : Nat, s.heap.size ≤ q → A q := fun q h => by rw [← hAe]; exact Or.inr h
  have hAo : ∀ q : Nat, A q → q = h0 ∨ s.heap.size ≤ q := fun q h => by
    rw [← hAe] at h
    rcases h with ⟨k, e, h⟩ | h
    · have h1 : k < 1 := (List.getElem?_eq_some_iff.mp h).1
      rw [show k = 0 by omega] at h
      cases h
      exact Or.inl rfl
    · exact Or.inr h
  have hS : va_S A s.heap s.heap [] := va_S.rf
  have hl := lv_entry ([.ref h0]) (n := 1) (Nat.le_of_ble_eq_true rfl)
  rw [lg_entry_eq]
  generalize (lg_sl ([.ref h0]) ++ List.replicate (1 - (lg_sl ([.ref h0])).length) Slot.unset).toArray = ls at hl ⊢
  have hl : lv_has ls 1 [(0, .ref h0)] := hl
  have hP : va_P D vwCl [(h0, .inr (0, [.null, .null, .null, .null, .int 0, .int 0, .int 0]))] s.heap := hP
  refine lv_aload_n hx hb dX0_init_0 rfl (lv_at hl 0 rfl) ?_
  refine W.objInit hx hb hown (hts _ oiX0) (hts _ oi_i) (hts _ oi_c) rfl (by rw [hml]; exact hl.1) rfl dX0_init_1 (Nat.le_of_ble_eq_true rfl) (Nat.le_of_ble_eq_true rfl) ?_
  refine W.eq (g2 := F0 m 4 ls []) rfl ?_
  refine lv_aload_n hx hb dX0_init_4 rfl (lv_at hl 0 rfl) ?_
  refine lv_bipush (v := 24) hx hb dX0_init_5 (by decide) ?_
  refine va_newa (atype := .int) (ty := .int) (N' := 24) (a0 := (24, .inl (fun _ => 0))) hx hb (hts _ ac_int) rfl hK hP hD hS hA (fun _ => rfl) (by decide) (by decide) (Nat.le_of_ble_eq_true rfl) (Nat.le_of_ble_eq_true rfl) (Nat.le_of_ble_eq_true rfl) dX0_init_7 (fun q1 cA H hK9 hP hD hS => ?_)
  obtain rfl : cI = cA := Option.some.inj (hfI.symm.trans (hK9.2 2 _ rfl).2)
  have hP : va_P D vwCl [(h0, .inr (0, [.null, .null, .null, .null, .int 0, .int 0, .int 0])), (q1, .inl (cI, 24, .inl (fun _ => 0)))] H := hP
  have hD : va_D A [(h0, .inr (0, [.null, .null, .null, .null, .int 0, .int 0, .int 0])), (q1, .inl (cI, 24, .inl (fun _ => 0)))] := hD
  refine va_putF (D := D) (ci := 0) (v := .ref q1) (ty := .array .int) (C := RX0) (T := TX0) (N := 7) hx hb hts inX0 tyX0 tyX0_ok nmX0 hown hK hP hD hS 0 rfl rfl 0 (by decide) (hts _ fX0_9) (fun _ h9 => h9) rfl hin rfl (by decide +kernel) rfl rfl (Nat.le_of_ble_eq_true rfl) dX0_init_9 (fun H locs hP hD hS => ?_)
  have hP : va_P D vwCl [(h0, .inr (0, [.ref q1, .null, .null, .null, .int 0, .int 0, .int 0])), (q1, .inl (cI, 24, .inl (fun _ => 0)))] H := hP
  have hD : va_D A [(h0, .inr (0, [.ref q1, .null, .null, .null, .int 0, .int 0, .int 0])), (q1, .inl (cI, 24, .inl (fun _ => 0)))] := hD
  refine lv_aload_n hx hb dX0_init_12 rfl (lv_at hl 0 rfl) ?_
  refine lv_bipush (v := 24) hx hb dX0_init_13 (by decide) ?_
  refine va_newa (atype := .int) (ty := .int) (N' := 24) (a0 := (24, .inl (fun _ => 0))) hx hb (hts _ ac_int) rfl hK hP hD hS hA (fun _ => rfl) (by decide) (by decide) (Nat.le_of_ble_eq_true rfl) (Nat.le_of_ble_eq_true rfl) (Nat.le_of_ble_eq_true rfl) dX0_init_15 (fun q2 cA H hK9 hP hD hS => ?_)
  obtain rfl : cI = cA := Option.some.inj (hfI.symm.trans (hK9.2 2 _ rfl).2)
  have hP : va_P D vwCl [(h0, .inr (0, [.ref q1, .null, .null, .null, .int 0, .int 0, .int 0])), (q1, .inl (cI, 24, .inl (fun _ => 0))), (q2, .inl (cI, 24, .inl (fun _ => 0)))] H := hP
  have hD : va_D A [(h0, .inr (0, [.ref q1, .null, .null, .null, .int 0, .int 0, .int 0])), (q1, .inl (cI, 24, .inl (fun _ => 0))), (q2, .inl (cI, 24, .inl (fun _ => 0)))] := hD
  refine va_putF (D := D) (ci := 0) (v := .ref q2) (ty := .array .int) (C := RX0) (T := TX0) (N := 7) hx hb hts inX0 tyX0 tyX0_ok nmX0 hown hK hP hD hS 0 rfl rfl 1 (by decide) (hts _ fX0_13) (fun _ h9 => h9) rfl hin rfl (by decide +kernel) rfl rfl (Nat.le_of_ble_eq_true rfl) dX0_init_17 (fun H locs hP hD hS => ?_)
  have hP : va_P D vwCl [(h0, .inr (0, [.ref q1, .ref q2, .null, .null, .int 0, .int 0, .int 0])), (q1, .inl (cI, 24, .inl (fun _ => 0))), (q2, .inl (cI, 24, .inl (fun _ => 0)))] H := hP
  have hD : va_D A [(h0, .inr (0, [.ref q1, .ref q2, .null, .null, .int 0, .int 0, .int 0])), (q1, .inl (cI, 24, .inl (fun _ => 0))), (q2, .inl (cI, 24, .inl (fun _ => 0)))] := hD
  refine lv_aload_n hx hb dX0_init_20 rfl (lv_at hl 0 rfl) ?_
  refine lv_bipush (v := 18) hx hb dX0_init_21 (by decide) ?_
  refine lv_bipush (v := 24) hx hb dX0_init_23 (by decide) ?_
  have hP9 : va_P D vwCl ([(h0, .inr (0, [.ref q1, .ref q2, .null, .null, .int 0, .int 0, .int 0])), (q1, .inl (cI, 24, .inl (fun _ => 0))), (q2, .inl (cI, 24, .inl (fun _ => 0)))] ++ va_pl [] (fun _ => .inr (0, []))) H := hP
  have hD9 : va_D A ([(h0, .inr (0, [.ref q1, .ref q2, .null, .null, .int 0, .int 0, .int 0])), (q1, .inl (cI, 24, .inl (fun _ => 0))), (q2, .inl (cI, 24, .inl (fun _ => 0)))] ++ va_pl [] (fun _ => .inr (0, []))) := hD
  refine va_mna (L := []) (f := fun _ => .inr (0, [])) (own := RX0) (index := 16) (ty := .int) (cy := cI) (N' := 18) (K' := 24) (z := (24, .inl (fun _ => 0))) hx hb hown (hts _ kX0_cl16) hAO (hts _ ac_int) hfI hK hP9 hD9 hS hA (by decide) (by decide) (by decide) (by decide) (by decide) (by decide) (by decide) (by decide) rfl rfl (Nat.le_of_ble_eq_true rfl) (Nat.le_of_ble_eq_true rfl) (fun c9 => arrV_new c9 24 _) dX0_init_25 (fun q3 r cR H hrj hrn hK9 hP hD hS => ?_)
  have hKE : KK (D, cI, cR, cZ) s := ⟨hK.1, fun k q hk => by
    match k, hk with
    | 0, hk => exact hK9.2 0 q hk
    | 1, hk => exact hK9.2 2 q hk
    | 2, hk => exact hK9.2 1 q hk
    | k + 3, hk => simp [tyE] at hk⟩
  have hpl : va_pl ([] ++ (List.range 18).map r) (vr_up (fun _ => .inr (0, [])) ((List.range 18).map r) (.inl (cI, 24, .inl (fun _ => 0)))) = (List.range 18).map (fun j => (r j, (.inl (cI, 24, .inl (fun _ => 0)) : va_E))) := by
    unfold va_pl
    rw [List.nil_append, List.map_map]
    apply List.map_congr_left
    intro j hj
    simp only [Function.comp]
    rw [vr_up_in (List.mem_map.mpr ⟨j, hj, rfl⟩)]
  rw [hpl] at hP hD
  have hP : va_P D vwCl ([(h0, .inr (0, [.ref q1, .ref q2, .null, .null, .int 0, .int 0, .int 0])), (q1, .inl (cI, 24, .inl (fun _ => 0))), (q2, .inl (cI, 24, .inl (fun _ => 0))), (q3, .inl (cR, 18, .inr (.inr (.inr (.inr (fun i => if i < 18 then some (r i) else none))))))] ++ (List.range 18).map (fun j => (r j, (.inl (cI, 24, .inl (fun _ => 0)) : va_E)))) H := hP
  have hD : va_D A ([(h0, .inr (0, [.ref q1, .ref q2, .null, .null, .int 0, .int 0, .int 0])), (q1, .inl (cI, 24, .inl (fun _ => 0))), (q2, .inl (cI, 24, .inl (fun _ => 0))), (q3, .inl (cR, 18, .inr (.inr (.inr (.inr (fun i => if i < 18 then some (r i) else none))))))] ++ (List.range 18).map (fun j => (r j, (.inl (cI, 24, .inl (fun _ => 0)) : va_E)))) := hD
  refine va_putF (D := D) (ci := 0) (v := .ref q3) (ty := .array (.array .int)) (C := RX0) (T := TX0) (N := 7) hx hb hts inX0 tyX0 tyX0_ok nmX0 hown hK hP hD hS 0 rfl rfl 2 (by decide) (hts _ fX0_18) (fun _ h9 => h9) rfl hin rfl (by decide +kernel) rfl rfl (Nat.le_of_ble_eq_true rfl) dX0_init_29 (fun H locs hP hD hS => ?_)
  have hP : va_P D vwCl ([(h0, .inr (0, [.ref q1, .ref q2, .ref q3, .null, .int 0, .int 0, .int 0])), (q1, .inl (cI, 24, .inl (fun _ => 0))), (q2, .inl (cI, 24, .inl (fun _ => 0))), (q3, .inl (cR, 18, .inr (.inr (.inr (.inr (fun i => if i < 18 then some (r i) else none))))))] ++ (List.range 18).map (fun j => (r j, (.inl (cI, 24, .inl (fun _ => 0)) : va_E)))) H := hP
  have hD : va_D A ([(h0, .inr (0, [.ref q1, .ref q2, .ref q3, .null, .int 0, .int 0, .int 0])), (q1, .inl (cI, 24, .inl (fun _ => 0))), (q2, .inl (cI, 24, .inl (fun _ => 0))), (q3, .inl (cR, 18, .inr (.inr (.inr (.inr (fun i => if i < 18 then some (r i) else none))))))] ++ (List.range 18).map (fun j => (r j, (.inl (cI, 24, .inl (fun _ => 0)) : va_E)))) := hD
  refine lv_aload_n hx hb dX0_init_32 rfl (lv_at hl 0 rfl) ?_
  refine lv_aload_n hx hb dX0_init_33 rfl (lv_at hl 0 rfl) ?_
  refine va_get (D := D) (ci := 0) (C := RX0) (T := TX0) (N := 7) (v := .ref q3) hx hb hts inX0 hown hK hP 0 rfl rfl 2 (by decide) (hts _ fX0_18) (fun _ h => h) rfl dX0_init_34 ?_
  refine lv_iconst (v := 0) hx hb dX0_init_37 (by decide) ?_
  refine W.aald (v := .ref (r 0)) (ty := .array .int) hx hb (hP 3 _ rfl) ((hKE.2 1 _ rfl).1 18 (fun j => va_rf (if j < 18 then some (r j) else none))) rfl (fun q => by cases q) (by show ¬ ((0 : Int32) < 0 ∨ (arrV _ _ _).slots.size ≤ _); rw [arrV_size]; exact (by decide : ¬ ((0 : Int32) < 0 ∨ 18 ≤ (0 : Int32).toNatClampNeg))) (by show (arrV _ _ _).slots[_]? = _; rw [arrV_read _ _ (by decide : (0 : Int32).toNatClampNeg < 18)]; rfl) rfl rfl dX0_init_38 ?_
  refine W.eq (g2 := F0 m 39 ls [.ref (r 0), .ref h0]) rfl ?_
  refine va_put (D := D) (ci := 0) (v := .ref (r 0)) (ty := .array .int) (C := RX0) (T := TX0) (N := 7) hx hb hts inX0 tyX0 tyX0_ok nmX0 hown hK hP hD hS 0 rfl rfl 3 (by decide) (hts _ fX0_21) (fun _ h9 => h9) rfl (by decide +kernel) rfl rfl (Nat.le_of_ble_eq_true rfl) dX0_init_39 (fun H locs hP hD hS => ?_)
  have hP : va_P D vwCl ([(h0, .inr (0, [.ref q1, .ref q2, .ref q3, .ref (r 0), .int 0, .int 0, .int 0])), (q1, .inl (cI, 24, .inl (fun _ => 0))), (q2, .inl (cI, 24, .inl (fun _ => 0))), (q3, .inl (cR, 18, .inr (.inr (.inr (.inr (fun i => if i < 18 then some (r i) else none))))))] ++ (List.range 18).map (fun j => (r j, (.inl (cI, 24, .inl (fun _ => 0)) : va_E)))) H := hP
  have hD : va_D A ([(h0, .inr (0, [.ref q1, .ref q2, .ref q3, .ref (r 0), .int 0, .int 0, .int 0])), (q1, .inl (cI, 24, .inl (fun _ => 0))), (q2, .inl (cI, 24, .inl (fun _ => 0))), (q3, .inl (cR, 18, .inr (.inr (.inr (.inr (fun i => if i < 18 then some (r i) else none))))))] ++ (List.range 18).map (fun j => (r j, (.inl (cI, 24, .inl (fun _ => 0)) : va_E)))) := hD
  refine lv_aload_n hx hb dX0_init_42 rfl (lv_at hl 0 rfl) ?_
  refine lv_iconst (v := 0) hx hb dX0_init_43 (by decide) ?_
  refine va_put (D := D) (ci := 0) (v := .int 0) (ty := .int) (C := RX0) (T := TX0) (N := 7) hx hb hts inX0 tyX0 tyX0_ok nmX0 hown hK hP hD hS 0 rfl rfl 4 (by decide) (hts _ fX0_24) (fun _ h9 => h9) rfl (by decide +kernel) rfl rfl (Nat.le_of_ble_eq_true rfl) dX0_init_44 (fun H locs hP hD hS => ?_)
  have hP : va_P D vwCl ([(h0, .inr (0, [.ref q1, .ref q2, .ref q3, .ref (r 0), .int 0, .int 0, .int 0])), (q1, .inl (cI, 24, .inl (fun _ => 0))), (q2, .inl (cI, 24, .inl (fun _ => 0))), (q3, .inl (cR, 18, .inr (.inr (.inr (.inr (fun i => if i < 18 then some (r i) else none))))))] ++ (List.range 18).map (fun j => (r j, (.inl (cI, 24, .inl (fun _ => 0)) : va_E)))) H := hP
  have hD : va_D A ([(h0, .inr (0, [.ref q1, .ref q2, .ref q3, .ref (r 0), .int 0, .int 0, .int 0])), (q1, .inl (cI, 24, .inl (fun _ => 0))), (q2, .inl (cI, 24, .inl (fun _ => 0))), (q3, .inl (cR, 18, .inr (.inr (.inr (.inr (fun i => if i < 18 then some (r i) else none))))))] ++ (List.range 18).map (fun j => (r j, (.inl (cI, 24, .inl (fun _ => 0)) : va_E)))) := hD
  refine lv_aload_n hx hb dX0_init_47 rfl (lv_at hl 0 rfl) ?_
  refine lv_iconst (v := 0) hx hb dX0_init_48 (by decide) ?_
  refine va_put (D := D) (ci := 0) (v := .int 0) (ty := .int) (C := RX0) (T := TX0) (N := 7) hx hb hts inX0 tyX0 tyX0_ok nmX0 hown hK hP hD hS 0 rfl rfl 5 (by decide) (hts _ fX0_28) (fun _ h9 => h9) rfl (by decide +kernel) rfl rfl (Nat.le_of_ble_eq_true rfl) dX0_init_49 (fun H locs hP hD hS => ?_)
  have hP : va_P D vwCl ([(h0, .inr (0, [.ref q1, .ref q2, .ref q3, .ref (r 0), .int 0, .int 0, .int 0])), (q1, .inl (cI, 24, .inl (fun _ => 0))), (q2, .inl (cI, 24, .inl (fun _ => 0))), (q3, .inl (cR, 18, .inr (.inr (.inr (.inr (fun i => if i < 18 then some (r i) else none))))))] ++ (List.range 18).map (fun j => (r j, (.inl (cI, 24, .inl (fun _ => 0)) : va_E)))) H := hP
  have hD : va_D A ([(h0, .inr (0, [.ref q1, .ref q2, .ref q3, .ref (r 0), .int 0, .int 0, .int 0])), (q1, .inl (cI, 24, .inl (fun _ => 0))), (q2, .inl (cI, 24, .inl (fun _ => 0))), (q3, .inl (cR, 18, .inr (.inr (.inr (.inr (fun i => if i < 18 then some (r i) else none))))))] ++ (List.range 18).map (fun j => (r j, (.inl (cI, 24, .inl (fun _ => 0)) : va_E)))) := hD
  refine lv_aload_n hx hb dX0_init_52 rfl (lv_at hl 0 rfl) ?_
  refine lv_iconst (v := 0) hx hb dX0_init_53 (by decide) ?_
  refine va_put (D := D) (ci := 0) (v := .int 0) (ty := .int) (C := RX0) (T := TX0) (N := 7) hx hb hts inX0 tyX0 tyX0_ok nmX0 hown hK hP hD hS 0 rfl rfl 6 (by decide) (hts _ fX0_31) (fun _ h9 => h9) rfl (by decide +kernel) rfl rfl (Nat.le_of_ble_eq_true rfl) dX0_init_54 (fun H locs hP hD hS => ?_)
  have hP : va_P D vwCl ([(h0, .inr (0, [.ref q1, .ref q2, .ref q3, .ref (r 0), .int 0, .int 0, .int 0])), (q1, .inl (cI, 24, .inl (fun _ => 0))), (q2, .inl (cI, 24, .inl (fun _ => 0))), (q3, .inl (cR, 18, .inr (.inr (.inr (.inr (fun i => if i < 18 then some (r i) else none))))))] ++ (List.range 18).map (fun j => (r j, (.inl (cI, 24, .inl (fun _ => 0)) : va_E)))) H := hP
  have hD : va_D A ([(h0, .inr (0, [.ref q1, .ref q2, .ref q3, .ref (r 0), .int 0, .int 0, .int 0])), (q1, .inl (cI, 24, .inl (fun _ => 0))), (q2, .inl (cI, 24, .inl (fun _ => 0))), (q3, .inl (cR, 18, .inr (.inr (.inr (.inr (fun i => if i < 18 then some (r i) else none))))))] ++ (List.range 18).map (fun j => (r j, (.inl (cI, 24, .inl (fun _ => 0)) : va_E)))) := hD
  obtain ⟨a, ha0, ha1, ha2, ha3, ha4⟩ : ∃ a : Nat → Nat, a 0 = h0 ∧ a 1 = q1 ∧ a 2 = q2 ∧ a 3 = q3 ∧ ∀ j, a (4 + j) = r j := ⟨fun i => if i = 0 then h0 else if i = 1 then q1 else if i = 2 then q2 else if i = 3 then q3 else r (i - 4), rfl, rfl, rfl, rfl, fun j => by simp [show ¬ 4 + j = 0 by omega, show ¬ 4 + j = 1 by omega, show ¬ 4 + j = 2 by omega, show ¬ 4 + j = 3 by omega]⟩
  have hW : ([(h0, .inr (0, [.ref q1, .ref q2, .ref q3, .ref (r 0), .int 0, .int 0, .int 0])), (q1, .inl (cI, 24, .inl (fun _ => 0))), (q2, .inl (cI, 24, .inl (fun _ => 0))), (q3, .inl (cR, 18, .inr (.inr (.inr (.inr (fun i => if i < 18 then some (r i) else none))))))] ++ (List.range 18).map (fun j => (r j, (.inl (cI, 24, .inl (fun _ => 0)) : va_E)))) = wX (D, cI, cR, cZ) a (fun _ => 0) (fun _ => some 0) (fun _ _ => 0) 0 0 0 0 := by
    unfold wX
    rw [ha0, ha1, ha2, ha3, show a (4 + 0) = r 0 from ha4 0]
    have e1 : (fun j => if j < 18 then some (a (4 + j)) else none) = fun j => if j < 18 then some (r j) else none := funext fun j => by rw [ha4 j]
    have e2 : (fun j => (a (4 + j), (.inl (cI, 24, .inl (fun _ => 0)) : va_E))) = fun j => (r j, .inl (cI, 24, .inl (fun _ => 0))) := funext fun j => by rw [ha4 j]
    rw [e1]
    show _ = _ ++ (List.range 18).map (fun j => (a (4 + j), (.inl (cI, 24, .inl (fun _ => 0)) : va_E)))
    rw [e2]
    rfl
  rw [hW] at hP hD
  have hinj : inj 22 a := fun i j hi hj e => by
    have h1 : ∀ k, k < 22 → ∃ z, (wX (D, cI, cR, cZ) a (fun _ => 0) (fun _ => some 0) (fun _ _ => 0) 0 0 0 0)[k]? = some z := fun k hk => by
      rw [List.getElem?_eq_getElem (by rw [wX_len]; exact hk)]; exact ⟨_, rfl⟩
    obtain ⟨x, hx1⟩ := h1 i hi
    obtain ⟨y, hy1⟩ := h1 j hj
    exact hD.1 i j x y hx1 hy1 (by rw [(wX_addr hx1).2, (wX_addr hy1).2, e])
  have hnew : ∀ i, i < 22 → i ≠ 0 → s.heap.size ≤ a i := fun i hi h0i => by
    have h1 : ∃ z, (wX (D, cI, cR, cZ) a (fun _ => 0) (fun _ => some 0) (fun _ _ => 0) 0 0 0 0)[i]? = some z := by
      rw [List.getElem?_eq_getElem (by rw [wX_len]; exact hi)]; exact ⟨_, rfl⟩
    obtain ⟨x, hx1⟩ := h1
    have h2 := hD.2 i x hx1
    rw [(wX_addr hx1).2] at h2
    rcases hAo _ h2 with h3 | h3
    · exact absurd (hinj i 0 hi (by omega) (by rw [h3, ha0])) h0i
    · exact h3
  refine W.widen (k := 21) (n := 498) (by decide) (by decide) ?_
  exact W.vret hx hb hr (fun t ht hW => ⟨⟨(), rfl, trivial, cR, a, ha0, hinj, hnew, KK.moved hW.alike hKE, by rw [ht]; exact hP⟩, hS.F ht⟩) hS.2.2 dX0_init_57
set_option maxRecDepth 100000 in
set_option maxHeartbeats 4000000 in
theorem cM_init (l : Launch) (D : va_G) (cI cZ : ClassId) (h0 sz : Nat) : Met l yX1_init (wsM yX1_init cX1_init 1 none) ({ frames := 1, cells := 8, slots := 576, locals := 12 }) (va_Pc [.ref h0] (fun U => U.heap.size = sz ∧ va_P D vwCl [(h0, .inr (1, [.int 0, .null, .null, .null, .int 0, .null, .null, .null, .null, .null]))] U.heap ∧ va_K D vwCl (tyB cI cZ) U)) (va_Qv (fun _ : Unit => True) (fun _ t => ∃ (b : Nat → Nat), b 0 = h0 ∧ inj 9 b ∧ (∀ i, i < 9 → i ≠ 0 → sz ≤ b i) ∧ ∀ cR : ClassId, MX (D, cI, cR, cZ) b 0 (fun _ => 0) (fun _ => some 0) (fun _ => 0) 0 t.heap) (va_A [(h0, .inr (1, [.int 0, .null, .null, .null, .int 0, .null, .null, .null, .null, .null]))] sz)) 8 576 (va_A [(h0, .inr (1, [.int 0, .null, .null, .null, .int 0, .null, .null, .null, .null, .null]))] sz) := by
  refine Met.ofW (cc := cX1_init) (maxL := 1) (ret := none) (by decide) rfl ?_
  intro p e s m args below meth c s₁ B hml hv
  obtain ⟨rfl, hsz, hP, hK⟩ := hv
  have hx := B.exec
  have hb := B.bytes
  have hr := B.returns
  have hts0 := atoms_spec (ws := wsM yX1_init cX1_init 1 none) B.pre
  have hts : ∀ w ∈ TW, w.before [.ref h0].toArray s = true := fun w h => hts0 w (List.mem_cons_of_mem _ h)
  have hown : s.vm.findClass RX1 = some m.cls := findClass_of_methodNamed B.named
  have hlocks := B.notSynchronized
  have hin : meth.name = "<init>" := (name_of_methodNamed B.named B.method).1
  have hfI : s.vm.findClass ("[" ++ (FieldType.int).toString) = some cI := (hK.2 0 _ rfl).2
  have hfZ : s.vm.findClass ("[" ++ (FieldType.boolean).toString) = some cZ := (hK.2 1 _ rfl).2
  subst hsz
  have hD0 : va_D (fun _ => True) [(h0, (.inr (1, [.int 0, .null, .null, .null, .int 0, .null, .null, .null, .null, .null]) : va_E))] := ⟨fun i j x y hi hj _ => by
    have h1 : i < 1 := (List.getElem?_eq_some_iff.mp hi).1
    have h2 : j < 1 := (List.getElem?_eq_some_iff.mp hj).1
    omega, fun _ _ _ => trivial⟩
  have hD := hD0.self (sz := s.heap.size)
  generalize hAe : va_A [(h0, (.inr (1, [.int 0, .null, .null, .null, .int 0, .null, .null, .null, .null, .null]) : va_E))] s.heap.size = A at hD ⊢
  have hA : ∀ q : Nat, s.heap.size ≤ q → A q := fun q h => by rw [← hAe]; exact Or.inr h
  have hAo : ∀ q : Nat, A q → q = h0 ∨ s.heap.size ≤ q := fun q h => by
    rw [← hAe] at h
    rcases h with ⟨k, e, h⟩ | h
    · have h1 : k < 1 := (List.getElem?_eq_some_iff.mp h).1
      rw [show k = 0 by omega] at h
      cases h
      exact Or.inl rfl
    · exact Or.inr h
  have hS : va_S A s.heap s.heap [] := va_S.rf
  have hl := lv_entry ([.ref h0]) (n := 1) (Nat.le_of_ble_eq_true rfl)
  rw [lg_entry_eq]
  generalize (lg_sl ([.ref h0]) ++ List.replicate (1 - (lg_sl ([.ref h0])).length) Slot.unset).toArray = ls at hl ⊢
  have hl : lv_has ls 1 [(0, .ref h0)] := hl
  have hP : va_P D vwCl [(h0, .inr (1, [.int 0, .null, .null, .null, .int 0, .null, .null, .null, .null, .null]))] s.heap := hP
  refine lv_aload_n hx hb dX1_init_0 rfl (lv_at hl 0 rfl) ?_
  refine W.objInit hx hb hown (hts _ oiX1) (hts _ oi_i) (hts _ oi_c) rfl (by rw [hml]; exact hl.1) rfl dX1_init_1 (Nat.le_of_ble_eq_true rfl) (Nat.le_of_ble_eq_true rfl) ?_
  refine W.eq (g2 := F0 m 4 ls []) rfl ?_
  refine lv_aload_n hx hb dX1_init_4 rfl (lv_at hl 0 rfl) ?_
  refine lv_bipush (v := 24) hx hb dX1_init_5 (by decide) ?_
  refine va_newa (atype := .int) (ty := .int) (N' := 24) (a0 := (24, .inl (fun _ => 0))) hx hb (hts _ ac_int) rfl hK hP hD hS hA (fun _ => rfl) (by decide) (by decide) (Nat.le_of_ble_eq_true rfl) (Nat.le_of_ble_eq_true rfl) (Nat.le_of_ble_eq_true rfl) dX1_init_7 (fun q1 cA H hK9 hP hD hS => ?_)
  obtain rfl : cI = cA := Option.some.inj (hfI.symm.trans (hK9.2 2 _ rfl).2)
  have hP : va_P D vwCl [(h0, .inr (1, [.int 0, .null, .null, .null, .int 0, .null, .null, .null, .null, .null])), (q1, .inl (cI, 24, .inl (fun _ => 0)))] H := hP
  have hD : va_D A [(h0, .inr (1, [.int 0, .null, .null, .null, .int 0, .null, .null, .null, .null, .null])), (q1, .inl (cI, 24, .inl (fun _ => 0)))] := hD
  refine va_putF (D := D) (ci := 1) (v := .ref q1) (ty := .array .int) (C := RX1) (T := TX1) (N := 10) hx hb hts inX1 tyX1 tyX1_ok nmX1 hown hK hP hD hS 0 rfl rfl 1 (by decide) (hts _ fX1_7) (fun _ h9 => h9) rfl hin rfl (by decide +kernel) rfl rfl (Nat.le_of_ble_eq_true rfl) dX1_init_9 (fun H locs hP hD hS => ?_)
  have hP : va_P D vwCl [(h0, .inr (1, [.int 0, .ref q1, .null, .null, .int 0, .null, .null, .null, .null, .null])), (q1, .inl (cI, 24, .inl (fun _ => 0)))] H := hP
  have hD : va_D A [(h0, .inr (1, [.int 0, .ref q1, .null, .null, .int 0, .null, .null, .null, .null, .null])), (q1, .inl (cI, 24, .inl (fun _ => 0)))] := hD
  refine lv_aload_n hx hb dX1_init_12 rfl (lv_at hl 0 rfl) ?_
  refine lv_bipush (v := 24) hx hb dX1_init_13 (by decide) ?_
  refine va_newa (atype := .int) (ty := .int) (N' := 24) (a0 := (24, .inl (fun _ => 0))) hx hb (hts _ ac_int) rfl hK hP hD hS hA (fun _ => rfl) (by decide) (by decide) (Nat.le_of_ble_eq_true rfl) (Nat.le_of_ble_eq_true rfl) (Nat.le_of_ble_eq_true rfl) dX1_init_15 (fun q2 cA H hK9 hP hD hS => ?_)
  obtain rfl : cI = cA := Option.some.inj (hfI.symm.trans (hK9.2 2 _ rfl).2)
  have hP : va_P D vwCl [(h0, .inr (1, [.int 0, .ref q1, .null, .null, .int 0, .null, .null, .null, .null, .null])), (q1, .inl (cI, 24, .inl (fun _ => 0))), (q2, .inl (cI, 24, .inl (fun _ => 0)))] H := hP
  have hD : va_D A [(h0, .inr (1, [.int 0, .ref q1, .null, .null, .int 0, .null, .null, .null, .null, .null])), (q1, .inl (cI, 24, .inl (fun _ => 0))), (q2, .inl (cI, 24, .inl (fun _ => 0)))] := hD
  refine va_putF (D := D) (ci := 1) (v := .ref q2) (ty := .array .int) (C := RX1) (T := TX1) (N := 10) hx hb hts inX1 tyX1 tyX1_ok nmX1 hown hK hP hD hS 0 rfl rfl 2 (by decide) (hts _ fX1_13) (fun _ h9 => h9) rfl hin rfl (by decide +kernel) rfl rfl (Nat.le_of_ble_eq_true rfl) dX1_init_17 (fun H locs hP hD hS => ?_)
  have hP : va_P D vwCl [(h0, .inr (1, [.int 0, .ref q1, .ref q2, .null, .int 0, .null, .null, .null, .null, .null])), (q1, .inl (cI, 24, .inl (fun _ => 0))), (q2, .inl (cI, 24, .inl (fun _ => 0)))] H := hP
  have hD : va_D A [(h0, .inr (1, [.int 0, .ref q1, .ref q2, .null, .int 0, .null, .null, .null, .null, .null])), (q1, .inl (cI, 24, .inl (fun _ => 0))), (q2, .inl (cI, 24, .inl (fun _ => 0)))] := hD
  refine lv_aload_n hx hb dX1_init_20 rfl (lv_at hl 0 rfl) ?_
  refine lv_sipush (v := 408) hx hb dX1_init_21 (by decide) ?_
  refine va_newa (atype := .int) (ty := .int) (N' := 408) (a0 := (408, .inl (fun _ => 0))) hx hb (hts _ ac_int) rfl hK hP hD hS hA (fun _ => rfl) (by decide) (by decide) (Nat.le_of_ble_eq_true rfl) (Nat.le_of_ble_eq_true rfl) (Nat.le_of_ble_eq_true rfl) dX1_init_24 (fun q3 cA H hK9 hP hD hS => ?_)
  obtain rfl : cI = cA := Option.some.inj (hfI.symm.trans (hK9.2 2 _ rfl).2)
  have hP : va_P D vwCl [(h0, .inr (1, [.int 0, .ref q1, .ref q2, .null, .int 0, .null, .null, .null, .null, .null])), (q1, .inl (cI, 24, .inl (fun _ => 0))), (q2, .inl (cI, 24, .inl (fun _ => 0))), (q3, .inl (cI, 408, .inl (fun _ => 0)))] H := hP
  have hD : va_D A [(h0, .inr (1, [.int 0, .ref q1, .ref q2, .null, .int 0, .null, .null, .null, .null, .null])), (q1, .inl (cI, 24, .inl (fun _ => 0))), (q2, .inl (cI, 24, .inl (fun _ => 0))), (q3, .inl (cI, 408, .inl (fun _ => 0)))] := hD
  refine va_putF (D := D) (ci := 1) (v := .ref q3) (ty := .array .int) (C := RX1) (T := TX1) (N := 10) hx hb hts inX1 tyX1 tyX1_ok nmX1 hown hK hP hD hS 0 rfl rfl 3 (by decide) (hts _ fX1_16) (fun _ h9 => h9) rfl hin rfl (by decide +kernel) rfl rfl (Nat.le_of_ble_eq_true rfl) dX1_init_26 (fun H locs hP hD hS => ?_)
  have hP : va_P D vwCl [(h0, .inr (1, [.int 0, .ref q1, .ref q2, .ref q3, .int 0, .null, .null, .null, .null, .null])), (q1, .inl (cI, 24, .inl (fun _ => 0))), (q2, .inl (cI, 24, .inl (fun _ => 0))), (q3, .inl (cI, 408, .inl (fun _ => 0)))] H := hP
  have hD : va_D A [(h0, .inr (1, [.int 0, .ref q1, .ref q2, .ref q3, .int 0, .null, .null, .null, .null, .null])), (q1, .inl (cI, 24, .inl (fun _ => 0))), (q2, .inl (cI, 24, .inl (fun _ => 0))), (q3, .inl (cI, 408, .inl (fun _ => 0)))] := hD
  refine lv_aload_n hx hb dX1_init_29 rfl (lv_at hl 0 rfl) ?_
  refine lv_bipush (v := 24) hx hb dX1_init_30 (by decide) ?_
  refine va_newa (atype := .int) (ty := .int) (N' := 24) (a0 := (24, .inl (fun _ => 0))) hx hb (hts _ ac_int) rfl hK hP hD hS hA (fun _ => rfl) (by decide) (by decide) (Nat.le_of_ble_eq_true rfl) (Nat.le_of_ble_eq_true rfl) (Nat.le_of_ble_eq_true rfl) dX1_init_32 (fun q4 cA H hK9 hP hD hS => ?_)
  obtain rfl : cI = cA := Option.some.inj (hfI.symm.trans (hK9.2 2 _ rfl).2)
  have hP : va_P D vwCl [(h0, .inr (1, [.int 0, .ref q1, .ref q2, .ref q3, .int 0, .null, .null, .null, .null, .null])), (q1, .inl (cI, 24, .inl (fun _ => 0))), (q2, .inl (cI, 24, .inl (fun _ => 0))), (q3, .inl (cI, 408, .inl (fun _ => 0))), (q4, .inl (cI, 24, .inl (fun _ => 0)))] H := hP
  have hD : va_D A [(h0, .inr (1, [.int 0, .ref q1, .ref q2, .ref q3, .int 0, .null, .null, .null, .null, .null])), (q1, .inl (cI, 24, .inl (fun _ => 0))), (q2, .inl (cI, 24, .inl (fun _ => 0))), (q3, .inl (cI, 408, .inl (fun _ => 0))), (q4, .inl (cI, 24, .inl (fun _ => 0)))] := hD
  refine va_putF (D := D) (ci := 1) (v := .ref q4) (ty := .array .int) (C := RX1) (T := TX1) (N := 10) hx hb hts inX1 tyX1 tyX1_ok nmX1 hown hK hP hD hS 0 rfl rfl 5 (by decide) (hts _ fX1_19) (fun _ h9 => h9) rfl hin rfl (by decide +kernel) rfl rfl (Nat.le_of_ble_eq_true rfl) dX1_init_34 (fun H locs hP hD hS => ?_)
  have hP : va_P D vwCl [(h0, .inr (1, [.int 0, .ref q1, .ref q2, .ref q3, .int 0, .ref q4, .null, .null, .null, .null])), (q1, .inl (cI, 24, .inl (fun _ => 0))), (q2, .inl (cI, 24, .inl (fun _ => 0))), (q3, .inl (cI, 408, .inl (fun _ => 0))), (q4, .inl (cI, 24, .inl (fun _ => 0)))] H := hP
  have hD : va_D A [(h0, .inr (1, [.int 0, .ref q1, .ref q2, .ref q3, .int 0, .ref q4, .null, .null, .null, .null])), (q1, .inl (cI, 24, .inl (fun _ => 0))), (q2, .inl (cI, 24, .inl (fun _ => 0))), (q3, .inl (cI, 408, .inl (fun _ => 0))), (q4, .inl (cI, 24, .inl (fun _ => 0)))] := hD
  refine lv_aload_n hx hb dX1_init_37 rfl (lv_at hl 0 rfl) ?_
  refine lv_bipush (v := 24) hx hb dX1_init_38 (by decide) ?_
  refine va_newa (atype := .boolean) (ty := .boolean) (N' := 24) (a0 := (24, .inl (fun _ => 0))) hx hb (hts _ ac_boolean) rfl hK hP hD hS hA (fun _ => rfl) (by decide) (by decide) (Nat.le_of_ble_eq_true rfl) (Nat.le_of_ble_eq_true rfl) (Nat.le_of_ble_eq_true rfl) dX1_init_40 (fun q5 cA H hK9 hP hD hS => ?_)
  obtain rfl : cZ = cA := Option.some.inj (hfZ.symm.trans (hK9.2 2 _ rfl).2)
  have hP : va_P D vwCl [(h0, .inr (1, [.int 0, .ref q1, .ref q2, .ref q3, .int 0, .ref q4, .null, .null, .null, .null])), (q1, .inl (cI, 24, .inl (fun _ => 0))), (q2, .inl (cI, 24, .inl (fun _ => 0))), (q3, .inl (cI, 408, .inl (fun _ => 0))), (q4, .inl (cI, 24, .inl (fun _ => 0))), (q5, .inl (cZ, 24, .inl (fun _ => 0)))] H := hP
  have hD : va_D A [(h0, .inr (1, [.int 0, .ref q1, .ref q2, .ref q3, .int 0, .ref q4, .null, .null, .null, .null])), (q1, .inl (cI, 24, .inl (fun _ => 0))), (q2, .inl (cI, 24, .inl (fun _ => 0))), (q3, .inl (cI, 408, .inl (fun _ => 0))), (q4, .inl (cI, 24, .inl (fun _ => 0))), (q5, .inl (cZ, 24, .inl (fun _ => 0)))] := hD
  refine va_putF (D := D) (ci := 1) (v := .ref q5) (ty := .array .boolean) (C := RX1) (T := TX1) (N := 10) hx hb hts inX1 tyX1 tyX1_ok nmX1 hown hK hP hD hS 0 rfl rfl 6 (by decide) (hts _ fX1_22) (fun _ h9 => h9) rfl hin rfl (by decide +kernel) rfl rfl (Nat.le_of_ble_eq_true rfl) dX1_init_42 (fun H locs hP hD hS => ?_)
  have hP : va_P D vwCl [(h0, .inr (1, [.int 0, .ref q1, .ref q2, .ref q3, .int 0, .ref q4, .ref q5, .null, .null, .null])), (q1, .inl (cI, 24, .inl (fun _ => 0))), (q2, .inl (cI, 24, .inl (fun _ => 0))), (q3, .inl (cI, 408, .inl (fun _ => 0))), (q4, .inl (cI, 24, .inl (fun _ => 0))), (q5, .inl (cZ, 24, .inl (fun _ => 0)))] H := hP
  have hD : va_D A [(h0, .inr (1, [.int 0, .ref q1, .ref q2, .ref q3, .int 0, .ref q4, .ref q5, .null, .null, .null])), (q1, .inl (cI, 24, .inl (fun _ => 0))), (q2, .inl (cI, 24, .inl (fun _ => 0))), (q3, .inl (cI, 408, .inl (fun _ => 0))), (q4, .inl (cI, 24, .inl (fun _ => 0))), (q5, .inl (cZ, 24, .inl (fun _ => 0)))] := hD
  refine lv_aload_n hx hb dX1_init_45 rfl (lv_at hl 0 rfl) ?_
  refine lv_bipush (v := 24) hx hb dX1_init_46 (by decide) ?_
  refine va_newa (atype := .int) (ty := .int) (N' := 24) (a0 := (24, .inl (fun _ => 0))) hx hb (hts _ ac_int) rfl hK hP hD hS hA (fun _ => rfl) (by decide) (by decide) (Nat.le_of_ble_eq_true rfl) (Nat.le_of_ble_eq_true rfl) (Nat.le_of_ble_eq_true rfl) dX1_init_48 (fun q6 cA H hK9 hP hD hS => ?_)
  obtain rfl : cI = cA := Option.some.inj (hfI.symm.trans (hK9.2 2 _ rfl).2)
  have hP : va_P D vwCl [(h0, .inr (1, [.int 0, .ref q1, .ref q2, .ref q3, .int 0, .ref q4, .ref q5, .null, .null, .null])), (q1, .inl (cI, 24, .inl (fun _ => 0))), (q2, .inl (cI, 24, .inl (fun _ => 0))), (q3, .inl (cI, 408, .inl (fun _ => 0))), (q4, .inl (cI, 24, .inl (fun _ => 0))), (q5, .inl (cZ, 24, .inl (fun _ => 0))), (q6, .inl (cI, 24, .inl (fun _ => 0)))] H := hP
  have hD : va_D A [(h0, .inr (1, [.int 0, .ref q1, .ref q2, .ref q3, .int 0, .ref q4, .ref q5, .null, .null, .null])), (q1, .inl (cI, 24, .inl (fun _ => 0))), (q2, .inl (cI, 24, .inl (fun _ => 0))), (q3, .inl (cI, 408, .inl (fun _ => 0))), (q4, .inl (cI, 24, .inl (fun _ => 0))), (q5, .inl (cZ, 24, .inl (fun _ => 0))), (q6, .inl (cI, 24, .inl (fun _ => 0)))] := hD
  refine va_putF (D := D) (ci := 1) (v := .ref q6) (ty := .array .int) (C := RX1) (T := TX1) (N := 10) hx hb hts inX1 tyX1 tyX1_ok nmX1 hown hK hP hD hS 0 rfl rfl 7 (by decide) (hts _ fX1_26) (fun _ h9 => h9) rfl hin rfl (by decide +kernel) rfl rfl (Nat.le_of_ble_eq_true rfl) dX1_init_50 (fun H locs hP hD hS => ?_)
  have hP : va_P D vwCl [(h0, .inr (1, [.int 0, .ref q1, .ref q2, .ref q3, .int 0, .ref q4, .ref q5, .ref q6, .null, .null])), (q1, .inl (cI, 24, .inl (fun _ => 0))), (q2, .inl (cI, 24, .inl (fun _ => 0))), (q3, .inl (cI, 408, .inl (fun _ => 0))), (q4, .inl (cI, 24, .inl (fun _ => 0))), (q5, .inl (cZ, 24, .inl (fun _ => 0))), (q6, .inl (cI, 24, .inl (fun _ => 0)))] H := hP
  have hD : va_D A [(h0, .inr (1, [.int 0, .ref q1, .ref q2, .ref q3, .int 0, .ref q4, .ref q5, .ref q6, .null, .null])), (q1, .inl (cI, 24, .inl (fun _ => 0))), (q2, .inl (cI, 24, .inl (fun _ => 0))), (q3, .inl (cI, 408, .inl (fun _ => 0))), (q4, .inl (cI, 24, .inl (fun _ => 0))), (q5, .inl (cZ, 24, .inl (fun _ => 0))), (q6, .inl (cI, 24, .inl (fun _ => 0)))] := hD
  refine lv_aload_n hx hb dX1_init_53 rfl (lv_at hl 0 rfl) ?_
  refine lv_bipush (v := 24) hx hb dX1_init_54 (by decide) ?_
  refine va_newa (atype := .int) (ty := .int) (N' := 24) (a0 := (24, .inl (fun _ => 0))) hx hb (hts _ ac_int) rfl hK hP hD hS hA (fun _ => rfl) (by decide) (by decide) (Nat.le_of_ble_eq_true rfl) (Nat.le_of_ble_eq_true rfl) (Nat.le_of_ble_eq_true rfl) dX1_init_56 (fun q7 cA H hK9 hP hD hS => ?_)
  obtain rfl : cI = cA := Option.some.inj (hfI.symm.trans (hK9.2 2 _ rfl).2)
  have hP : va_P D vwCl [(h0, .inr (1, [.int 0, .ref q1, .ref q2, .ref q3, .int 0, .ref q4, .ref q5, .ref q6, .null, .null])), (q1, .inl (cI, 24, .inl (fun _ => 0))), (q2, .inl (cI, 24, .inl (fun _ => 0))), (q3, .inl (cI, 408, .inl (fun _ => 0))), (q4, .inl (cI, 24, .inl (fun _ => 0))), (q5, .inl (cZ, 24, .inl (fun _ => 0))), (q6, .inl (cI, 24, .inl (fun _ => 0))), (q7, .inl (cI, 24, .inl (fun _ => 0)))] H := hP
  have hD : va_D A [(h0, .inr (1, [.int 0, .ref q1, .ref q2, .ref q3, .int 0, .ref q4, .ref q5, .ref q6, .null, .null])), (q1, .inl (cI, 24, .inl (fun _ => 0))), (q2, .inl (cI, 24, .inl (fun _ => 0))), (q3, .inl (cI, 408, .inl (fun _ => 0))), (q4, .inl (cI, 24, .inl (fun _ => 0))), (q5, .inl (cZ, 24, .inl (fun _ => 0))), (q6, .inl (cI, 24, .inl (fun _ => 0))), (q7, .inl (cI, 24, .inl (fun _ => 0)))] := hD
  refine va_putF (D := D) (ci := 1) (v := .ref q7) (ty := .array .int) (C := RX1) (T := TX1) (N := 10) hx hb hts inX1 tyX1 tyX1_ok nmX1 hown hK hP hD hS 0 rfl rfl 8 (by decide) (hts _ fX1_29) (fun _ h9 => h9) rfl hin rfl (by decide +kernel) rfl rfl (Nat.le_of_ble_eq_true rfl) dX1_init_58 (fun H locs hP hD hS => ?_)
  have hP : va_P D vwCl [(h0, .inr (1, [.int 0, .ref q1, .ref q2, .ref q3, .int 0, .ref q4, .ref q5, .ref q6, .ref q7, .null])), (q1, .inl (cI, 24, .inl (fun _ => 0))), (q2, .inl (cI, 24, .inl (fun _ => 0))), (q3, .inl (cI, 408, .inl (fun _ => 0))), (q4, .inl (cI, 24, .inl (fun _ => 0))), (q5, .inl (cZ, 24, .inl (fun _ => 0))), (q6, .inl (cI, 24, .inl (fun _ => 0))), (q7, .inl (cI, 24, .inl (fun _ => 0)))] H := hP
  have hD : va_D A [(h0, .inr (1, [.int 0, .ref q1, .ref q2, .ref q3, .int 0, .ref q4, .ref q5, .ref q6, .ref q7, .null])), (q1, .inl (cI, 24, .inl (fun _ => 0))), (q2, .inl (cI, 24, .inl (fun _ => 0))), (q3, .inl (cI, 408, .inl (fun _ => 0))), (q4, .inl (cI, 24, .inl (fun _ => 0))), (q5, .inl (cZ, 24, .inl (fun _ => 0))), (q6, .inl (cI, 24, .inl (fun _ => 0))), (q7, .inl (cI, 24, .inl (fun _ => 0)))] := hD
  refine lv_aload_n hx hb dX1_init_61 rfl (lv_at hl 0 rfl) ?_
  refine lv_bipush (v := 24) hx hb dX1_init_62 (by decide) ?_
  refine va_newa (atype := .int) (ty := .int) (N' := 24) (a0 := (24, .inl (fun _ => 0))) hx hb (hts _ ac_int) rfl hK hP hD hS hA (fun _ => rfl) (by decide) (by decide) (Nat.le_of_ble_eq_true rfl) (Nat.le_of_ble_eq_true rfl) (Nat.le_of_ble_eq_true rfl) dX1_init_64 (fun q8 cA H hK9 hP hD hS => ?_)
  obtain rfl : cI = cA := Option.some.inj (hfI.symm.trans (hK9.2 2 _ rfl).2)
  have hP : va_P D vwCl [(h0, .inr (1, [.int 0, .ref q1, .ref q2, .ref q3, .int 0, .ref q4, .ref q5, .ref q6, .ref q7, .null])), (q1, .inl (cI, 24, .inl (fun _ => 0))), (q2, .inl (cI, 24, .inl (fun _ => 0))), (q3, .inl (cI, 408, .inl (fun _ => 0))), (q4, .inl (cI, 24, .inl (fun _ => 0))), (q5, .inl (cZ, 24, .inl (fun _ => 0))), (q6, .inl (cI, 24, .inl (fun _ => 0))), (q7, .inl (cI, 24, .inl (fun _ => 0))), (q8, .inl (cI, 24, .inl (fun _ => 0)))] H := hP
  have hD : va_D A [(h0, .inr (1, [.int 0, .ref q1, .ref q2, .ref q3, .int 0, .ref q4, .ref q5, .ref q6, .ref q7, .null])), (q1, .inl (cI, 24, .inl (fun _ => 0))), (q2, .inl (cI, 24, .inl (fun _ => 0))), (q3, .inl (cI, 408, .inl (fun _ => 0))), (q4, .inl (cI, 24, .inl (fun _ => 0))), (q5, .inl (cZ, 24, .inl (fun _ => 0))), (q6, .inl (cI, 24, .inl (fun _ => 0))), (q7, .inl (cI, 24, .inl (fun _ => 0))), (q8, .inl (cI, 24, .inl (fun _ => 0)))] := hD
  refine va_putF (D := D) (ci := 1) (v := .ref q8) (ty := .array .int) (C := RX1) (T := TX1) (N := 10) hx hb hts inX1 tyX1 tyX1_ok nmX1 hown hK hP hD hS 0 rfl rfl 9 (by decide) (hts _ fX1_32) (fun _ h9 => h9) rfl hin rfl (by decide +kernel) rfl rfl (Nat.le_of_ble_eq_true rfl) dX1_init_66 (fun H locs hP hD hS => ?_)
  have hP : va_P D vwCl [(h0, .inr (1, [.int 0, .ref q1, .ref q2, .ref q3, .int 0, .ref q4, .ref q5, .ref q6, .ref q7, .ref q8])), (q1, .inl (cI, 24, .inl (fun _ => 0))), (q2, .inl (cI, 24, .inl (fun _ => 0))), (q3, .inl (cI, 408, .inl (fun _ => 0))), (q4, .inl (cI, 24, .inl (fun _ => 0))), (q5, .inl (cZ, 24, .inl (fun _ => 0))), (q6, .inl (cI, 24, .inl (fun _ => 0))), (q7, .inl (cI, 24, .inl (fun _ => 0))), (q8, .inl (cI, 24, .inl (fun _ => 0)))] H := hP
  have hD : va_D A [(h0, .inr (1, [.int 0, .ref q1, .ref q2, .ref q3, .int 0, .ref q4, .ref q5, .ref q6, .ref q7, .ref q8])), (q1, .inl (cI, 24, .inl (fun _ => 0))), (q2, .inl (cI, 24, .inl (fun _ => 0))), (q3, .inl (cI, 408, .inl (fun _ => 0))), (q4, .inl (cI, 24, .inl (fun _ => 0))), (q5, .inl (cZ, 24, .inl (fun _ => 0))), (q6, .inl (cI, 24, .inl (fun _ => 0))), (q7, .inl (cI, 24, .inl (fun _ => 0))), (q8, .inl (cI, 24, .inl (fun _ => 0)))] := hD
  refine lv_aload_n hx hb dX1_init_69 rfl (lv_at hl 0 rfl) ?_
  refine lv_iconst (v := 0) hx hb dX1_init_70 (by decide) ?_
  refine va_put (D := D) (ci := 1) (v := .int 0) (ty := .int) (C := RX1) (T := TX1) (N := 10) hx hb hts inX1 tyX1 tyX1_ok nmX1 hown hK hP hD hS 0 rfl rfl 0 (by decide) (hts _ fX1_35) (fun _ h9 => h9) rfl (by decide +kernel) rfl rfl (Nat.le_of_ble_eq_true rfl) dX1_init_71 (fun H locs hP hD hS => ?_)
  have hP : va_P D vwCl [(h0, .inr (1, [.int 0, .ref q1, .ref q2, .ref q3, .int 0, .ref q4, .ref q5, .ref q6, .ref q7, .ref q8])), (q1, .inl (cI, 24, .inl (fun _ => 0))), (q2, .inl (cI, 24, .inl (fun _ => 0))), (q3, .inl (cI, 408, .inl (fun _ => 0))), (q4, .inl (cI, 24, .inl (fun _ => 0))), (q5, .inl (cZ, 24, .inl (fun _ => 0))), (q6, .inl (cI, 24, .inl (fun _ => 0))), (q7, .inl (cI, 24, .inl (fun _ => 0))), (q8, .inl (cI, 24, .inl (fun _ => 0)))] H := hP
  have hD : va_D A [(h0, .inr (1, [.int 0, .ref q1, .ref q2, .ref q3, .int 0, .ref q4, .ref q5, .ref q6, .ref q7, .ref q8])), (q1, .inl (cI, 24, .inl (fun _ => 0))), (q2, .inl (cI, 24, .inl (fun _ => 0))), (q3, .inl (cI, 408, .inl (fun _ => 0))), (q4, .inl (cI, 24, .inl (fun _ => 0))), (q5, .inl (cZ, 24, .inl (fun _ => 0))), (q6, .inl (cI, 24, .inl (fun _ => 0))), (q7, .inl (cI, 24, .inl (fun _ => 0))), (q8, .inl (cI, 24, .inl (fun _ => 0)))] := hD
  obtain ⟨b, hb0, hb1, hb2, hb3, hb4, hb5, hb6, hb7, hb8⟩ : ∃ b : Nat → Nat, b 0 = h0 ∧ b 1 = q1 ∧ b 2 = q2 ∧ b 3 = q3 ∧ b 4 = q4 ∧ b 5 = q5 ∧ b 6 = q6 ∧ b 7 = q7 ∧ b 8 = q8 := ⟨fun i => if i = 0 then h0 else if i = 1 then q1 else if i = 2 then q2 else if i = 3 then q3 else if i = 4 then q4 else if i = 5 then q5 else if i = 6 then q6 else if i = 7 then q7 else q8, rfl, rfl, rfl, rfl, rfl, rfl, rfl, rfl, rfl⟩
  have hW : ∀ cR : ClassId, [(h0, .inr (1, [.int 0, .ref q1, .ref q2, .ref q3, .int 0, .ref q4, .ref q5, .ref q6, .ref q7, .ref q8])), (q1, .inl (cI, 24, .inl (fun _ => 0))), (q2, .inl (cI, 24, .inl (fun _ => 0))), (q3, .inl (cI, 408, .inl (fun _ => 0))), (q4, .inl (cI, 24, .inl (fun _ => 0))), (q5, .inl (cZ, 24, .inl (fun _ => 0))), (q6, .inl (cI, 24, .inl (fun _ => 0))), (q7, .inl (cI, 24, .inl (fun _ => 0))), (q8, .inl (cI, 24, .inl (fun _ => 0)))] = wM (D, cI, cR, cZ) b 0 (fun _ => 0) (fun _ => some 0) (fun _ => 0) 0 (fun _ => 0) (fun _ => false) (fun _ => 0) (fun _ => 0) (fun _ => some 0) := fun cR => by
    unfold wM
    rw [hb0, hb1, hb2, hb3, hb4, hb5, hb6, hb7, hb8]
    rfl
  have hPM : ∀ cR : ClassId, MX (D, cI, cR, cZ) b 0 (fun _ => 0) (fun _ => some 0) (fun _ => 0) 0 H := fun cR => ⟨_, _, _, _, _, by
    have h := hP
    rw [hW cR] at h
    exact h⟩
  rw [hW cI] at hD
  have h1 : ∀ k, k < 9 → ∃ z, (wM (D, cI, cI, cZ) b 0 (fun _ => 0) (fun _ => some 0) (fun _ => 0) 0 (fun _ => 0) (fun _ => false) (fun _ => 0) (fun _ => 0) (fun _ => some 0))[k]? = some z := fun k hk => by
    rw [List.getElem?_eq_getElem (by exact hk)]; exact ⟨_, rfl⟩
  have hinj : inj 9 b := fun i j hi hj e => by
    obtain ⟨x, hx1⟩ := h1 i hi
    obtain ⟨y, hy1⟩ := h1 j hj
    exact hD.1 i j x y hx1 hy1 (by rw [(wM_addr hx1).2, (wM_addr hy1).2, e])
  have hnew : ∀ i, i < 9 → i ≠ 0 → s.heap.size ≤ b i := fun i hi h0i => by
    obtain ⟨x, hx1⟩ := h1 i hi
    have h2 := hD.2 i x hx1
    rw [(wM_addr hx1).2] at h2
    rcases hAo _ h2 with h3 | h3
    · exact absurd (hinj i 0 hi (by omega) (by rw [h3, hb0])) h0i
    · exact h3
  refine W.widen (k := 8) (n := 576) (by decide) (by decide) ?_
  exact W.vret hx hb hr (fun t ht hW => ⟨⟨(), rfl, trivial, b, hb0, hinj, hnew, fun cR => by rw [ht]; exact hPM cR⟩, hS.F ht⟩) hS.2.2 dX1_init_74
