set_option maxRecDepth 100000 in
set_option maxHeartbeats 4000000 in
theorem whole_start {p : Program} {e : Env} {s : State} {m : MethodId} {below : List Frame} {meth : Method} {c : Code} (l : Launch) (hflags : l.flags = flags0) {b L : Nat} {xs : Nat → Int32} (hL : L ≤ 1536) (C0 : lw_At p s m meth c b L xs) : W p l e room_1 s m #[Value.ref b] below meth c s.heap [] 0 0 (lw_Z below #[Value.ref b] s) (entryFrame m ([Value.ref b] : List Value).toArray 4) := by
  obtain ⟨hx, hb, hr, hml, hown, hts0, hX, hbl, hlocks, hgv⟩ := id C0
  have hts : ∀ w ∈ TW, w.before #[Value.ref b] s = true := TW_sub hts0
  have hown : s.vm.findClass RL = some m.cls := hown
  have hC : CallFix p m c cL_law 4 s #[Value.ref b] TW RL := ⟨hx, hb, hml, hown, hts⟩
  have hA : ∀ q : Nat, s.heap.size ≤ q → A0 s q := fun _ h => h
  obtain ⟨c0, iS0, hKn0⟩ := u_known (C := RX0) (T := TX0) (N := 7) (n := 7) hts inX0 (hts _ instX0)
  obtain ⟨c1, iS1, hKn1⟩ := u_known (C := RX1) (T := TX1) (N := 10) (n := 10) hts inX1 (hts _ instX1)
  obtain ⟨cI, kI, pI, fI1, fI2, fI3⟩ := Cond.arrayClass_spec (hts _ ac_int)
  obtain ⟨cZ, kZ, pZ, fZ1, fZ2, fZ3⟩ := Cond.arrayClass_spec (hts _ ac_boolean)
  have hAO : va_AOA .int s := va_AOA.of (hts0 _ ao_int)
  obtain ⟨D, hKc⟩ : ∃ D : va_G, ∀ (k : Nat) (q : vw_C), vwCl[k]? = some q → u_Kn s q.1 q.2.1 q.2.2 (D.1 k) (D.2 k) := by
    refine ⟨(fun k => if k = 0 then c0 else c1, fun k => if k = 0 then iS0 else iS1), ?_⟩
    intro k q hq
    match k, hq with
    | 0, hq => cases hq; exact hKn0
    | 1, hq => cases hq; exact hKn1
    | k + 2, hq => simp [vwCl] at hq
  have hKB : va_K D vwCl (tyB cI cZ) s := ⟨hKc, fun k q hq => by
    match k, hq with
    | 0, hq => cases hq; exact ⟨fun n z => ⟨fun k h => (by cases h), kI, fI2, pI, fI3⟩, fI1⟩
    | 1, hq => cases hq; exact ⟨fun n z => ⟨fun k h => (by cases h), kZ, fZ2, pZ, fZ3⟩, fZ1⟩
    | k + 2, hq => simp [tyB] at hq⟩
  have hS : va_S (A0 s) s.heap s.heap [] := va_S.rf
  have hP : va_P D vwCl [] s.heap := fun k q h => by simp at h
  have hD : va_D (A0 s) [] := ⟨fun i j p q h => by simp at h, fun k q h => by simp at h⟩
  have hl := lv_entry ([.ref b]) (n := 4) (Nat.le_of_ble_eq_true rfl)
  rw [lg_entry_eq]
  generalize (lg_sl ([.ref b]) ++ List.replicate (4 - (lg_sl ([.ref b])).length) Slot.unset).toArray = ls at hl ⊢
  have hl : lv_has ls 4 [(0, .ref b)] := hl
  refine va_new (ci := 0) (fs := [.null, .null, .null, .null, .int 0, .int 0, .int 0]) (C := RX0) (T := TX0) (N := 7) hx hb hts inX0 tyX0 tyX0_ok hown (hts _ kL_cl7) (hts _ instX0) (hts _ iniX0) hKB hP hD hS hA rfl (fun j hj => by rcases (show j = 0 ∨ j = 1 ∨ j = 2 ∨ j = 3 ∨ j = 4 ∨ j = 5 ∨ j = 6 by omega) with rfl | rfl | rfl | rfl | rfl | rfl | rfl <;> rfl) (Nat.le_of_ble_eq_true rfl) (Nat.le_of_ble_eq_true rfl) dL_law_0 (fun q1 H hP hD hS => ?_)
  have hP : va_P D vwCl [(q1, .inr (0, [.null, .null, .null, .null, .int 0, .int 0, .int 0]))] H := hP
  have hD : va_D (A0 s) [(q1, .inr (0, [.null, .null, .null, .null, .int 0, .int 0, .int 0]))] := hD
  have hq1 : s.heap.size ≤ q1 := hD.2 0 _ rfl
  have hF1 : ∀ z, va_A [(q1, (.inr (0, [.null, .null, .null, .null, .int 0, .int 0, .int 0]) : va_E))] H.size z → A0 s z := fun z h => by
    rcases h with ⟨k, e, h⟩ | h
    · have h1 : k < 1 := (List.getElem?_eq_some_iff.mp h).1
      rw [show k = 0 by omega] at h
      cases h
      exact hq1
    · exact Nat.le_trans hS.1 h
  refine lv_dup hx hb dL_law_3 rfl ?_
  obtain ⟨k1, k2, k3, k4, k5, k6⟩ := kL_9
  refine va_callv (va_runI (As := []) (rest := [.ref q1]) hC (cX_init l D cI cZ q1 H.size) ⟨callB_of 0 hts (TW_goodIn k3) rfl rfl rfl (hts _ k4) (hts _ k1) k6 ⟨Nat.le_of_ble_eq_true rfl, Nat.le_of_ble_eq_true rfl⟩, k5, hts _ k2⟩ ⟨fun a U g mk q => by obtain ⟨q0, q1, qP, qK, qA⟩ := q; exact ⟨q0, q1, qP, va_K.moved (u := U) (U := U.calling g mk a) (Vm.Alike.refl U.vm) qK, va_AOA.moved (u := U) (U := U.calling g mk a) (Vm.Alike.refl U.vm) qA⟩, fun U hU hW => ⟨rfl, by rw [hU], by rw [hU]; exact hP, va_K.moved hW.alike hKB, va_AOA.moved hW.alike hAO⟩⟩ rfl rfl hl.1 rfl (lv_room (Nat.le_of_ble_eq_true rfl)) dL_law_4 ⟨Nat.le_of_ble_eq_true rfl, Nat.le_of_ble_eq_true rfl⟩) hS (fun q _ h => hF1 q h) hF1 (fun u t H1 locs ht hvm hw hB hz1 hk1 hS1 => ?_)
  obtain ⟨cR, a, ha0, hIa, han, hKt, hXP⟩ := hB
  rw [ht] at hXP
  have hK : KK (D, cI, cR, cZ) s := KK.moved hvm.symm hKt
  have hAX : ∀ q, AX a q → s.heap.size ≤ q := fun q ⟨i, hi, e⟩ => by
    by_cases h0 : i = 0
    · rw [e, h0, ha0]; exact hq1
    · rw [e]; exact Nat.le_trans hS.1 (han i hi h0)
  clear hP hD hz1 hk1 hS
  generalize H1 = H at hXP hS1 ⊢
  have hS := hS1
  have hXl : ∀ i, i < 22 → ∃ z, (wX (D, cI, cR, cZ) a (fun _ => 0) (fun _ => some 0) (fun _ _ => 0) 0 0 0 0)[i]? = some z := fun i hi => by
    rw [List.getElem?_eq_getElem (by rw [wX_len]; exact hi)]; exact ⟨_, rfl⟩
  have hD : va_D (A0 s) (wX (D, cI, cR, cZ) a (fun _ => 0) (fun _ => some 0) (fun _ _ => 0) 0 0 0 0) := ⟨fun i j x y hi hj e => hIa i j (wX_addr hi).1 (wX_addr hj).1 (by rw [← (wX_addr hi).2, ← (wX_addr hj).2]; exact e), fun k q h => hAX _ ⟨k, (wX_addr h).1, (wX_addr h).2⟩⟩
  have hP : va_P D vwCl (wX (D, cI, cR, cZ) a (fun _ => 0) (fun _ => some 0) (fun _ _ => 0) 0 0 0 0) H := hXP
  refine lv_astore_n (lv' := [(1, .ref q1), (0, .ref b)]) hx hb dL_law_7 rfl hl (by decide) rfl (fun ls hl => ?_)
  refine va_new (ci := 1) (fs := [.int 0, .null, .null, .null, .int 0, .null, .null, .null, .null, .null]) (C := RX1) (T := TX1) (N := 10) hx hb hts inX1 tyX1 tyX1_ok hown (hts _ kL_cl10) (hts _ instX1) (hts _ iniX1) hKB hP hD hS hA rfl (fun j hj => by rcases (show j = 0 ∨ j = 1 ∨ j = 2 ∨ j = 3 ∨ j = 4 ∨ j = 5 ∨ j = 6 ∨ j = 7 ∨ j = 8 ∨ j = 9 by omega) with rfl | rfl | rfl | rfl | rfl | rfl | rfl | rfl | rfl | rfl <;> rfl) (Nat.le_of_ble_eq_true rfl) (Nat.le_of_ble_eq_true rfl) dL_law_8 (fun q2 H hP hD hS => ?_)
  have h22 : (wX (D, cI, cR, cZ) a (fun _ => 0) (fun _ => some 0) (fun _ _ => 0) 0 0 0 0 ++ [(q2, (.inr (1, [.int 0, .null, .null, .null, .int 0, .null, .null, .null, .null, .null]) : va_E))])[22]? = some (q2, .inr (1, [.int 0, .null, .null, .null, .int 0, .null, .null, .null, .null, .null])) := by
    rw [List.getElem?_append_right (by rw [wX_len]; exact Nat.le_refl _), wX_len]; rfl
  have hPq : va_P D vwCl [(q2, .inr (1, [.int 0, .null, .null, .null, .int 0, .null, .null, .null, .null, .null]))] H := fun k q h => by
    have h1 : k < 1 := (List.getElem?_eq_some_iff.mp h).1
    rw [show k = 0 by omega] at h
    cases h
    exact hP 22 _ h22
  have hXP : XP (D, cI, cR, cZ) a (fun _ => 0) (fun _ => some 0) (fun _ _ => 0) 0 0 0 0 H := fun k q h => hP k q (by rw [List.getElem?_append_left ((List.getElem?_eq_some_iff.mp h).1)]; exact h)
  have hq2 : s.heap.size ≤ q2 := hD.2 22 _ h22
  have hq2a : ∀ i, i < 22 → q2 ≠ a i := fun i hi e => by
    obtain ⟨z, hz⟩ := hXl i hi
    have := hD.1 22 i _ _ h22 (by rw [List.getElem?_append_left ((List.getElem?_eq_some_iff.mp hz).1)]; exact hz) (by rw [(wX_addr hz).2]; exact e)
    omega
  have hF2 : ∀ z, va_A [(q2, (.inr (1, [.int 0, .null, .null, .null, .int 0, .null, .null, .null, .null, .null]) : va_E))] H.size z → A0 s z := fun z h => by
    rcases h with ⟨k, e, h⟩ | h
    · have h1 : k < 1 := (List.getElem?_eq_some_iff.mp h).1
      rw [show k = 0 by omega] at h
      cases h
      exact hq2
    · exact Nat.le_trans hS.1 h
  refine lv_dup hx hb dL_law_11 rfl ?_
  obtain ⟨k1, k2, k3, k4, k5, k6⟩ := kL_12
  refine va_callv (va_runI (As := []) (rest := [.ref q2]) hC (cM_init l D cI cZ q2 H.size) ⟨callB_of 0 hts (TW_goodIn k3) rfl rfl rfl (hts _ k4) (hts _ k1) k6 ⟨Nat.le_of_ble_eq_true rfl, Nat.le_of_ble_eq_true rfl⟩, k5, hts _ k2⟩ ⟨fun a U g mk q => by obtain ⟨q0, q1, qP, qK⟩ := q; exact ⟨q0, q1, qP, va_K.moved (u := U) (U := U.calling g mk a) (Vm.Alike.refl U.vm) qK⟩, fun U hU hW => ⟨rfl, by rw [hU], by rw [hU]; exact hPq, va_K.moved hW.alike hKB⟩⟩ rfl rfl hl.1 rfl (lv_room (Nat.le_of_ble_eq_true rfl)) dL_law_12 ⟨Nat.le_of_ble_eq_true rfl, Nat.le_of_ble_eq_true rfl⟩) hS (fun q _ h => hF2 q h) hF2 (fun u t H1 locs ht hvm hw hB hz1 hk1 hS1 => ?_)
  obtain ⟨bb, hb0, hIb, hbn, hMX⟩ := hB
  have hMX := hMX cR
  rw [ht] at hMX
  have hXP1 := XP.kept hXP hk1 (fun q ⟨i, hi, e⟩ h => by
    rcases h with ⟨k, x, h⟩ | h
    · have h1 : k < 1 := (List.getElem?_eq_some_iff.mp h).1
      rw [show k = 0 by omega] at h
      cases h
      exact hq2a i hi e
    · have := hXP.lt hi
      rw [← e] at this
      omega)
  have hAM : ∀ q, AM bb q → s.heap.size ≤ q := fun q ⟨i, hi, e⟩ => by
    by_cases h0 : i = 0
    · rw [e, h0, hb0]; exact hq2
    · rw [e]; exact Nat.le_trans hS.1 (hbn i hi h0)
  have hAd : ∀ q, AX a q → ¬ AM bb q := fun q ⟨i, hi, e⟩ ⟨j, hj, e2⟩ => by
    by_cases h0 : j = 0
    · rw [h0, hb0] at e2
      exact hq2a i hi (by rw [← e2]; exact e)
    · have h1 := hbn j hj h0
      have h2 := hXP.lt hi
      rw [← e2] at h1
      rw [← e] at h2
      omega
  refine lv_astore_n (lv' := [(2, .ref q2), (1, .ref q1), (0, .ref b)]) hx hb dL_law_15 rfl hl (by decide) rfl (fun ls hl => ?_)
  refine lv_iconst (v := nI (3 * 0)) hx hb dL_law_16 (by decide) ?_
  refine lv_istore_n (lv' := [(3, .int (nI (3 * 0))), (2, .ref q2), (1, .ref q1), (0, .ref b)]) hx hb dL_law_17 rfl hl (by decide) rfl (fun ls hl => ?_)
  have hR0 : REL 0 (fun _ => 0) (fun _ => some 0) (fun _ _ => 0) 0 0 (fun _ => 0) := ⟨⟨Nat.zero_le _, by omega, fun v hv => absurd hv (Nat.not_lt_zero v)⟩, fun v hv => absurd hv (Nat.not_lt_zero v), fun v hv => absurd hv (Nat.not_lt_zero v), fun _ _ _ => rfl, fun _ _ _ _ _ => rfl, fun k _ _ => by
    funext v
    unfold mcol
    simp⟩
  rw [← ha0, ← hb0] at hl
  exact law_loop (E := (D, cI, cR, cZ)) (a := a) (bb := bb) ⟨hC, hK, hX, hbl, hIa, hIb, hAX, hAM, hAd⟩ hL hr hlocks (L + 1) 0 (Nat.zero_le _) (by omega) H1 locs ls ⟨0, _, _, _, 0, 0, _, hXP1, hMX, hR0, Nat.zero_le _⟩ hS1 hl
