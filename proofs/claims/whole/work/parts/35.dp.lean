-- THE REFERENCE'S SIDE: the best of a cycle
theorem sm_inj (n : Nat) (g : Nat → Nat) : ∀ (c : Nat) (x : Nat → Nat), (∀ i, i < c → g i < n) → (∀ i j, i < c → j < c → g i = g j → i = j) → (∀ j, j < n → x j ≠ 0 → ∃ i, i < c ∧ g i = j) → fb_sm x n = fb_sm (fun i => x (g i)) c
  | 0, x, _, _, h => by
    have : fb_sm x n = fb_sm (fun _ => 0) n := fb_sm_cong (fun k hk => by
      by_cases e : x k = 0
      · exact e
      · obtain ⟨i, hi, -⟩ := h k hk e; omega)
    rw [this, fb_sm_const]; rfl
  | c + 1, x, h1, h2, h3 => by
    have ih := sm_inj n g c (fun j => if j = g c then 0 else x j) (fun i hi => h1 i (by omega)) (fun i j hi hj => h2 i j (by omega) (by omega)) (fun j hj hx => by
      by_cases z : j = g c
      · simp [z] at hx
      · simp only [if_neg z] at hx
        obtain ⟨i, hi, e⟩ := h3 j hj hx
        refine ⟨i, ?_, e⟩
        rcases Nat.lt_or_ge i c with y | y
        · exact y
        · exact absurd (by rw [← e, show i = c by omega]) z)
    have e1 : fb_sm (fun i => (fun j => if j = g c then 0 else x j) (g i)) c = fb_sm (fun i => x (g i)) c := fb_sm_cong (fun i hi => by
      have : ¬ g i = g c := fun z => by have := h2 i c (by omega) (by omega) z; omega
      simp [this])
    rw [e1] at ih
    have := fb_sm_upd x 0 (h1 c (by omega))
    rw [fb_sm_succ]
    omega
def VS (F G : Nat → Nat) (x : Nat → Bool) (k : Nat) : Nat := fb_sm (fun i => if x i = true then F i else G i) k
def vld (i : Nat) (x : Nat → Bool) : Prop := ∀ j, j < i → ¬ (x j = true ∧ x (j + 1) = true)
def MXs (F G : Nat → Nat) (k : Nat) : Nat := fb_sm (fun i => max (F i) (G i)) k
theorem gr_max (x y : Int32) : (gr32 x y).toInt = max x.toInt y.toInt := by
  unfold gr32
  by_cases h : x ≤ y
  · rw [if_pos h]; rw [i32_le] at h; omega
  · rw [if_neg h]; rw [i32_le] at h; omega
theorem VS_up (F G : Nat → Nat) (x : Nat → Bool) (i : Nat) (b : Bool) : VS F G (fun k => if k = i + 1 then b else x k) (i + 2) = VS F G x (i + 1) + (if b = true then F (i + 1) else G (i + 1)) := by
  unfold VS
  rw [fb_sm_succ]
  have e1 : fb_sm (fun k => if (if k = i + 1 then b else x k) = true then F k else G k) (i + 1) = fb_sm (fun k => if x k = true then F k else G k) (i + 1) := fb_sm_cong (fun k hk => by
    simp only [if_neg (show ¬ k = i + 1 by omega)])
  simp only [e1, if_pos]
theorem vld_up {x : Nat → Bool} {i : Nat} {b : Bool} (h : vld i x) (hb : ¬ (x i = true ∧ b = true)) : vld (i + 1) (fun k => if k = i + 1 then b else x k) := fun j hj => by
  by_cases e : j = i
  · subst e; simp only [if_pos, if_neg (show ¬ j = j + 1 by omega)]; exact hb
  · simp only [if_neg (show ¬ j = i + 1 by omega), if_neg (show ¬ j + 1 = i + 1 by omega)]; exact h j (by omega)
def DPI (F G : Nat → Nat) (b : Bool) (i : Nat) (P Q : Int) : Prop :=
  ((0 ≤ P ∧ P ≤ MXs F G (i + 1)) ∨ (-1000 ≤ P ∧ P ≤ -1000 + (MXs F G (i + 1) : Int))) ∧ ((0 ≤ Q ∧ Q ≤ MXs F G (i + 1)) ∨ (-1000 ≤ Q ∧ Q ≤ -1000 + (MXs F G (i + 1) : Int))) ∧
  (0 ≤ P → ∃ x : Nat → Bool, x 0 = b ∧ vld i x ∧ x i = true ∧ (VS F G x (i + 1) : Int) = P) ∧ (0 ≤ Q → ∃ x : Nat → Bool, x 0 = b ∧ vld i x ∧ x i = false ∧ (VS F G x (i + 1) : Int) = Q) ∧
  ∀ x : Nat → Bool, x 0 = b → vld i x → (x i = true → (VS F G x (i + 1) : Int) ≤ P) ∧ (x i = false → (VS F G x (i + 1) : Int) ≤ Q)
theorem DPI.step {F G : Nat → Nat} {b : Bool} {i : Nat} {P Q : Int} (h : DPI F G b i P Q) (hM : MXs F G (i + 2) ≤ 24) : DPI F G b (i + 1) (Q + F (i + 1)) (max P Q + G (i + 1)) := by
  obtain ⟨h1, h2, hh⟩ := h
  have hm : MXs F G (i + 1 + 1) = MXs F G (i + 1) + max (F (i + 1)) (G (i + 1)) := rfl
  have hM' : MXs F G (i + 1 + 1) ≤ 24 := hM
  have m1 : F (i + 1) ≤ max (F (i + 1)) (G (i + 1)) := Nat.le_max_left _ _
  have m2 : G (i + 1) ≤ max (F (i + 1)) (G (i + 1)) := Nat.le_max_right _ _
  have k1 : (0 ≤ Q + (F (i + 1) : Int) ∧ Q + (F (i + 1) : Int) ≤ MXs F G (i + 1 + 1)) ∨ (-1000 ≤ Q + (F (i + 1) : Int) ∧ Q + (F (i + 1) : Int) ≤ -1000 + (MXs F G (i + 1 + 1) : Int)) := by clear hh; omega
  have k2 : (0 ≤ max P Q + (G (i + 1) : Int) ∧ max P Q + (G (i + 1) : Int) ≤ MXs F G (i + 1 + 1)) ∨ (-1000 ≤ max P Q + (G (i + 1) : Int) ∧ max P Q + (G (i + 1) : Int) ≤ -1000 + (MXs F G (i + 1 + 1) : Int)) := by clear hh; omega
  have k3 : 0 ≤ Q + (F (i + 1) : Int) → 0 ≤ Q := by clear hh; omega
  have k4 : 0 ≤ max P Q + (G (i + 1) : Int) → 0 ≤ max P Q := by clear hh; omega
  have z0 : ¬ 0 = i + 1 := by clear hh; omega
  obtain ⟨h3, h4, h5⟩ := hh
  refine ⟨k1, k2, fun hP => ?_, fun hQ => ?_, fun x hx hv => ⟨fun h => ?_, fun h => ?_⟩⟩
  · obtain ⟨x, a1, a2, a3, a4⟩ := h4 (k3 hP)
    refine ⟨fun k => if k = i + 1 then true else x k, ?_, vld_up a2 (fun z => by rw [a3] at z; cases z.1), if_pos rfl, ?_⟩
    · simp only [if_neg z0]; exact a1
    · rw [VS_up, if_pos rfl]; clear h3 h4 h5; omega
  · by_cases c : Q ≤ P
    · obtain ⟨x, a1, a2, a3, a4⟩ := h3 (by have := k4 hQ; clear h3 h4 h5; omega)
      refine ⟨fun k => if k = i + 1 then false else x k, ?_, vld_up a2 (fun z => by cases z.2), if_pos rfl, ?_⟩
      · simp only [if_neg z0]; exact a1
      · rw [VS_up, if_neg (by simp)]; clear h3 h4 h5; omega
    · obtain ⟨x, a1, a2, a3, a4⟩ := h4 (by have := k4 hQ; clear h3 h4 h5; omega)
      refine ⟨fun k => if k = i + 1 then false else x k, ?_, vld_up a2 (fun z => by cases z.2), if_pos rfl, ?_⟩
      · simp only [if_neg z0]; exact a1
      · rw [VS_up, if_neg (by simp)]; clear h3 h4 h5; omega
  · have hv' : vld i x := fun j hj => hv j (by omega)
    have hxi : x i = false := by
      cases e : x i with
      | false => rfl
      | true => exact absurd ⟨e, h⟩ (hv i (by omega))
    have := (h5 x hx hv').2 hxi
    have e : VS F G x (i + 1 + 1) = VS F G x (i + 1) + F (i + 1) := by unfold VS; rw [fb_sm_succ, if_pos h]
    clear h3 h4 h5
    omega
  · have hv' : vld i x := fun j hj => hv j (by omega)
    have e : VS F G x (i + 1 + 1) = VS F G x (i + 1) + G (i + 1) := by unfold VS; rw [fb_sm_succ, if_neg (by rw [h]; simp)]
    have h6 := h5 x hx hv'
    clear h3 h4 h5
    cases e2 : x i with
    | false => have := h6.2 e2; omega
    | true => have := h6.1 e2; omega
theorem MXs_mono (F G : Nat → Nat) {a b : Nat} (h : a ≤ b) : MXs F G a ≤ MXs F G b := by
  have := fb_sm_mono (fun i => max (F i) (G i)) a (b - a)
  rw [show a + (b - a) = b by omega] at this
  exact this
section
variable {par : Nat → Option Nat} {wi wo : Nat → Nat} {f : Nat}
theorem boc_dp {b : Bool} {p q : Int32} (h0 : DPI (fun i => wi (itS par i f)) (fun i => wo (itS par i f)) b 0 p.toInt q.toInt) : ∀ i, MXs (fun i => wi (itS par i f)) (fun i => wo (itS par i f)) (i + 1) ≤ 24 → DPI (fun i => wi (itS par i f)) (fun i => wo (itS par i f)) b i (bocI par wi wo f p q i).1.toInt (bocI par wi wo f p q i).2.toInt
  | 0, _ => h0
  | i + 1, hM => by
    have hM1 := MXs_mono (fun i => wi (itS par i f)) (fun i => wo (itS par i f)) (show i + 1 ≤ i + 1 + 1 by omega)
    have ih := boc_dp h0 i (by omega)
    have hs := ih.step hM
    have hm : MXs (fun i => wi (itS par i f)) (fun i => wo (itS par i f)) (i + 1 + 1) = MXs (fun i => wi (itS par i f)) (fun i => wo (itS par i f)) (i + 1) + max (wi (itS par (i + 1) f)) (wo (itS par (i + 1) f)) := rfl
    have m1 : wi (itS par (i + 1) f) ≤ max (wi (itS par (i + 1) f)) (wo (itS par (i + 1) f)) := Nat.le_max_left _ _
    have m2 : wo (itS par (i + 1) f) ≤ max (wi (itS par (i + 1) f)) (wo (itS par (i + 1) f)) := Nat.le_max_right _ _
    have n1 : (nI (wi (itS par (i + 1) f))).toInt = wi (itS par (i + 1) f) := nI_toInt (by omega)
    have n2 : (nI (wo (itS par (i + 1) f))).toInt = wo (itS par (i + 1) f) := nI_toInt (by omega)
    have g1 := ih.1
    have g2 := ih.2.1
    clear ih
    have e1 : (bocI par wi wo f p q (i + 1)).1.toInt = (bocI par wi wo f p q i).2.toInt + wi (itS par (i + 1) f) := by
      show ((bocI par wi wo f p q i).2 + nI (wi (itS par (i + 1) f))).toInt = _
      rw [fb_addI (by rw [n1]; omega) (by rw [n1]; omega), n1]
    have e2 : (bocI par wi wo f p q (i + 1)).2.toInt = max (bocI par wi wo f p q i).1.toInt (bocI par wi wo f p q i).2.toInt + wo (itS par (i + 1) f) := by
      show (gr32 (bocI par wi wo f p q i).1 (bocI par wi wo f p q i).2 + nI (wo (itS par (i + 1) f))).toInt = _
      rw [fb_addI (by rw [n2, gr_max]; omega) (by rw [n2, gr_max]; omega), n2, gr_max]
    rw [e1, e2]
    exact hs
def cvl (c : Nat) (x : Nat → Bool) : Prop := vld (c - 1) x ∧ ¬ (x (c - 1) = true ∧ x 0 = true)
theorem boc_best {c : Nat} (hc : 2 ≤ c) (hM : MXs (fun i => wi (itS par i f)) (fun i => wo (itS par i f)) c ≤ 24) : ∃ a : Nat, gr32 (bocR par wi wo f c true) (bocR par wi wo f c false) = nI a ∧ (∃ x, cvl c x ∧ VS (fun i => wi (itS par i f)) (fun i => wo (itS par i f)) x c = a) ∧ ∀ x, cvl c x → VS (fun i => wi (itS par i f)) (fun i => wo (itS par i f)) x c ≤ a := by
  have hM1 := MXs_mono (fun i => wi (itS par i f)) (fun i => wo (itS par i f)) (show 1 ≤ c by omega)
  have hm0 : MXs (fun i => wi (itS par i f)) (fun i => wo (itS par i f)) (0 + 1) = 0 + max (wi f) (wo f) := rfl
  have hm0' : MXs (fun i => wi (itS par i f)) (fun i => wo (itS par i f)) 1 = 0 + max (wi f) (wo f) := rfl
  have m1 : wi f ≤ max (wi f) (wo f) := Nat.le_max_left _ _
  have m2 : wo f ≤ max (wi f) (wo f) := Nat.le_max_right _ _
  have n1 : (nI (wi f)).toInt = wi f := nI_toInt (by omega)
  have n2 : (nI (wo f)).toInt = wo f := nI_toInt (by omega)
  have n3 : (-1000 : Int32).toInt = -1000 := rfl
  have v1 : ∀ x : Nat → Bool, VS (fun i => wi (itS par i f)) (fun i => wo (itS par i f)) x (0 + 1) = 0 + (if x 0 = true then wi f else wo f) := fun x => rfl
  have ec : c - 1 + 1 = c := by omega
  have dT := boc_dp (par := par) (wi := wi) (wo := wo) (f := f) (b := true) (p := nI (wi f)) (q := -1000) (by
    rw [n1, n3]
    refine ⟨by omega, by omega, fun _ => ⟨fun _ => true, rfl, fun j hj => by omega, rfl, by rw [v1]; simp⟩, fun z => by omega, fun x hx _ => ⟨fun h => by rw [v1, if_pos h]; omega, fun h => by rw [hx] at h; cases h⟩⟩) (c - 1) (by rw [ec]; exact hM)
  have dF := boc_dp (par := par) (wi := wi) (wo := wo) (f := f) (b := false) (p := -1000) (q := nI (wo f)) (by
    rw [n2, n3]
    refine ⟨by omega, by omega, fun z => by omega, fun _ => ⟨fun _ => false, rfl, fun j hj => by omega, rfl, by rw [v1]; simp⟩, fun x hx _ => ⟨fun h => (by rw [hx] at h; cases h), fun h => by rw [v1, if_neg (by rw [h]; simp)]; omega⟩⟩) (c - 1) (by rw [ec]; exact hM)
  unfold DPI at dT dF
  rw [ec] at dT dF
  obtain ⟨-, t2, -, t4, t5⟩ := dT
  obtain ⟨f1, f2, f3, f4, f5⟩ := dF
  have rT : (bocR par wi wo f c true).toInt = (bocI par wi wo f (nI (wi f)) (-1000) (c - 1)).2.toInt := rfl
  have rF : (bocR par wi wo f c false).toInt = max (bocI par wi wo f (-1000) (nI (wo f)) (c - 1)).1.toInt (bocI par wi wo f (-1000) (nI (wo f)) (c - 1)).2.toInt := gr_max _ _
  have hz := (f5 (fun _ => false) rfl (fun j _ => fun z => by cases z.1)).2 rfl
  have hg := gr_max (bocR par wi wo f c true) (bocR par wi wo f c false)
  rw [rT, rF] at hg
  generalize (bocI par wi wo f (nI (wi f)) (-1000) (c - 1)).2.toInt = QT at t2 t4 t5 hg
  generalize (bocI par wi wo f (-1000) (nI (wo f)) (c - 1)).1.toInt = PF at f1 f3 f5 hg
  generalize (bocI par wi wo f (-1000) (nI (wo f)) (c - 1)).2.toInt = QF at f2 f4 f5 hg hz
  generalize gr32 (bocR par wi wo f c true) (bocR par wi wo f c false) = Z at hg
  have hZ0 : 0 ≤ Z.toInt := by clear f3 f4 f5 t4 t5; omega
  have hZb : Z.toInt.toNat < 2 ^ 31 := by have := fb_rng Z; clear f3 f4 f5 t4 t5; omega
  have hZT : Z.toInt = QT → 0 ≤ QT := by clear f3 f4 f5 t4 t5; omega
  have hZP : Z.toInt = PF → 0 ≤ PF := by clear f3 f4 f5 t4 t5; omega
  have hZQ : ¬ Z.toInt = QT → ¬ Z.toInt = PF → Z.toInt = QF := by clear f3 f4 f5 t4 t5; omega
  refine ⟨Z.toInt.toNat, ?_, ?_, fun x hx => ?_⟩
  · rw [i32_eq, nI_toInt hZb]; clear f3 f4 f5 t4 t5; omega
  · by_cases c1 : Z.toInt = QT
    · obtain ⟨x, a1, a2, a3, a4⟩ := t4 (hZT c1)
      exact ⟨x, ⟨a2, fun z => by rw [a3] at z; cases z.1⟩, by clear f3 f4 f5 t4 t5; omega⟩
    · by_cases c2 : Z.toInt = PF
      · obtain ⟨x, a1, a2, a3, a4⟩ := f3 (hZP c2)
        exact ⟨x, ⟨a2, fun z => by rw [a1] at z; cases z.2⟩, by clear f3 f4 f5 t4 t5; omega⟩
      · have c3 := hZQ c1 c2
        obtain ⟨x, a1, a2, a3, a4⟩ := f4 (by rw [← c3]; exact hZ0)
        exact ⟨x, ⟨a2, fun z => by rw [a1] at z; cases z.2⟩, by clear f3 f4 f5 t4 t5; omega⟩
  · cases e0 : x 0 with
    | true =>
      have e1 : x (c - 1) = false := by
        cases e : x (c - 1) with
        | false => rfl
        | true => exact absurd ⟨e, e0⟩ hx.2
      have := (t5 x e0 hx.1).2 e1
      clear f3 f4 f5 t4 t5
      omega
    | false =>
      have h6 := f5 x e0 hx.1
      clear f3 f4 f5 t4 t5
      cases e1 : x (c - 1) with
      | true => have := h6.1 e1; omega
      | false => have := h6.2 e1; omega
end
section
variable {n : Nat} {par : Nat → Option Nat} {wi wo : Nat → Nat} {R : Nat → Bool} {m c : Nat}
theorem cyc_V (hp : PW n par) (hm : m < n) (h : CYC par m c) (hc : 2 ≤ c) (hR : ∀ w, w < n → (R w = true ↔ ∃ i, i < c ∧ itS par i m = w)) (hs : fb_sm (fun w => if R w = true then max (wi w) (wo w) else 0) n ≤ 24) : ∃ a : Nat, gr32 (bocR par wi wo m c true) (bocR par wi wo m c false) = nI a ∧ IsV n par R wi wo a := by
  have hlt : ∀ i, itS par i m < n := fun i => itS_lt hp hm i
  have hRi : ∀ i, i < c → R (itS par i m) = true := fun i hi => (hR _ (hlt i)).mpr ⟨i, hi, rfl⟩
  have tr : ∀ f : Nat → Nat, fb_sm (fun w => if R w = true then f w else 0) n = fb_sm (fun i => f (itS par i m)) c := fun f => by
    rw [sm_inj n (fun i => itS par i m) c (fun w => if R w = true then f w else 0) (fun i _ => hlt i) (cyc_inj h) (fun j hj hx => by
      by_cases e : R j = true
      · exact (hR j hj).mp e
      · simp only [if_neg e] at hx; exact absurd rfl hx)]
    exact fb_sm_cong (fun i hi => by simp only [hRi i hi, if_true])
  have hM : MXs (fun i => wi (itS par i m)) (fun i => wo (itS par i m)) c ≤ 24 := by
    have := tr (fun w => max (wi w) (wo w))
    show fb_sm (fun i => max (wi (itS par i m)) (wo (itS par i m))) c ≤ 24
    omega
  obtain ⟨a, a1, ⟨z, z1, z2⟩, a3⟩ := boc_best hc hM
  refine ⟨a, a1, ⟨fun w => anyB (fun i => decide (itS par i m = w) && z i) c, fun v u hv hu rv ru hx => ?_, ?_⟩, fun x hx => ?_⟩
  · obtain ⟨i, hi, e1⟩ := anyB_iff.mp hx.1
    obtain ⟨j, hj, e2⟩ := anyB_iff.mp hx.2
    simp only [Bool.and_eq_true, decide_eq_true_eq] at e1 e2
    have hn := h.2.2.2 i
    rw [e1.1, hu] at hn
    have hn : u = itS par (i + 1) m := Option.some.inj hn
    by_cases hl : i + 1 < c
    · have : j = i + 1 := cyc_inj h j (i + 1) hj hl (by rw [e2.1, hn])
      subst this
      exact z1.1 i (by omega) ⟨e1.2, e2.2⟩
    · have hic : i + 1 = c := by omega
      rw [hic, h.2.1] at hn
      have : j = 0 := cyc_inj h j 0 hj (by omega) (by rw [e2.1, hn]; rfl)
      subst this
      exact z1.2 ⟨by rw [show c - 1 = i by omega]; exact e1.2, e2.2⟩
  · have := tr (fun w => if anyB (fun i => decide (itS par i m = w) && z i) c = true then wi w else wo w)
    unfold VV
    rw [this, ← z2]
    unfold VS
    exact fb_sm_cong (fun k hk => by
      have : anyB (fun i => decide (itS par i m = itS par k m) && z i) c = z k := by
        cases e : z k with
        | true => exact anyB_yes hk (by simp [e])
        | false =>
          apply anyB_no
          intro i hi
          by_cases q : itS par i m = itS par k m
          · have := cyc_inj h i k hi hk q
            subst this
            simp [e]
          · simp [q]
      simp only [this])
  · have := tr (fun w => if x w = true then wi w else wo w)
    unfold VV
    rw [this]
    refine a3 (fun i => x (itS par i m)) ⟨fun j hj hz => ?_, fun hz => ?_⟩
    · exact hx _ _ (hlt j) (h.2.2.2 j) (hRi j (by omega)) (hRi (j + 1) (by omega)) hz
    · have hn := h.2.2.2 (c - 1)
      rw [show c - 1 + 1 = c by omega, h.2.1] at hn
      exact hx _ _ (hlt (c - 1)) hn (hRi (c - 1) (by omega)) (hRi 0 (by omega)) hz
end
/-- the two answers to greatestIndependentSet are one -/
theorem gis_eq {n : Nat} {par : Nat → Option Nat} (hp : PW n par) (hn : n ≤ 24) (wi wo : Nat → Nat) (wf : Nat → Option Nat) {v : Nat} (hv : v < n) : nI (giF par n n (partW par n v) 0) = mgR par n (ttF par n wi wo wf).1 (ttF par n wi wo wf).2.1 v := by
  have hmn := hdF_lt hp hv
  have hP : ∀ k u, k < n → par k = some u → decide (hdF par n k = hdF par n v) = decide (hdF par n u = hdF par n v) := fun k u hk hu => by rw [hd_up hp hk hu]
  have hI := ttF_inv hp wi wo wf
  have hsm := tt_sum hp wi wo wf
  have hci := tt_ci hp wi wo wf
  have hdn := fun w (hw : w < n) => tt_done hp wi wo wf (v := w) hw
  have main : ∃ a, mgR par n (ttF par n wi wo wf).1 (ttF par n wi wo wf).2.1 v = nI a ∧ IsV n par (RR par (ttF par n wi wo wf).2.2 (fun k => decide (hdF par n k = hdF par n v))) (ttF par n wi wo wf).1 (ttF par n wi wo wf).2.1 a := by
    by_cases hr : par (hdF par n v) = none
    · have hb := hI.b hn hmn
      have hRm : ∀ w, w < n → (RR par (ttF par n wi wo wf).2.2 (fun k => decide (hdF par n k = hdF par n v)) w = true ↔ w = hdF par n v) := by
        intro w hw
        unfold RR aliv
        simp only [Bool.and_eq_true, decide_eq_true_eq, Bool.or_eq_true]
        constructor
        · intro ⟨e, h2⟩
          by_cases hwr : par w = none
          · rw [← e]
            have : itS par n w = w := by
              have := itS_root (k := 0) (v := w) rfl hwr n
              rw [Nat.zero_add] at this; exact this
            unfold hdF; rw [this, if_pos hwr]
          · exfalso
            have hs : ((ttF par n wi wo wf).2.2 w).isSome = true := by
              rcases h2 with h2 | h2
              · exact h2
              · exact absurd (by simpa using h2) hwr
            have hon : onC par w := by
              by_cases z : onC par w
              · exact z
              · rw [hdn w hw z] at hs; cases hs
            obtain ⟨o1, k, o2, o3⟩ := hon
            obtain ⟨⟨i, i1, i2⟩, -⟩ := hd_mn hp hw
            have := cycle_nonroot o2 o3 o1 i
            rw [i2, e] at this
            exact this hr
        · intro e
          subst e
          exact ⟨hd_hd hp hv, Or.inr (by rw [hr]; rfl)⟩
      refine ⟨max ((ttF par n wi wo wf).1 (hdF par n v)) ((ttF par n wi wo wf).2.1 (hdF par n v)), ?_, ?_⟩
      · unfold mgR; rw [if_pos hr]; exact gr_nat (by omega) (by omega)
      · have hV : ∀ x : Nat → Bool, VV n (RR par (ttF par n wi wo wf).2.2 (fun k => decide (hdF par n k = hdF par n v))) x (ttF par n wi wo wf).1 (ttF par n wi wo wf).2.1 = (if x (hdF par n v) = true then (ttF par n wi wo wf).1 (hdF par n v) else (ttF par n wi wo wf).2.1 (hdF par n v)) := by
          intro x
          unfold VV
          rw [sm_inj n (fun _ => hdF par n v) 1 _ (fun _ _ => hmn) (fun i j hi hj _ => by omega) (fun j hj hx => by
            by_cases e : RR par (ttF par n wi wo wf).2.2 (fun k => decide (hdF par n k = hdF par n v)) j = true
            · exact ⟨0, by omega, ((hRm j hj).mp e).symm⟩
            · simp only [if_neg e] at hx; exact absurd rfl hx)]
          rw [fb_sm_succ]
          simp only [(hRm _ hmn).mpr rfl, if_true]
          show 0 + _ = _
          rw [Nat.zero_add]
        refine ⟨⟨fun _ => decide ((ttF par n wi wo wf).2.1 (hdF par n v) ≤ (ttF par n wi wo wf).1 (hdF par n v)), fun k z hk hkz rk rz _ => ?_, ?_⟩, fun x _ => ?_⟩
        · rw [(hRm k hk).mp rk, hr] at hkz; cases hkz
        · rw [hV]
          simp only [decide_eq_true_eq]
          split <;> omega
        · rw [hV]
          split
          · exact Nat.le_max_left _ _
          · exact Nat.le_max_right _ _
    · obtain ⟨c, c1, c2, hC⟩ := hd_cyc hp hv hr
      have hc : 2 ≤ c := by
        rcases Nat.lt_or_ge 1 c with z | z
        · exact z
        · have hc1 : c = 1 := by have := hC.1; omega
          have h0 := hC.2.2.2 0
          have h1 := hC.2.1
          rw [hc1] at h1
          rw [show (0 + 1) = 1 by rfl, h1] at h0
          exact absurd rfl ((hp _ hmn _ h0).2)
      have hRm : ∀ w, w < n → (RR par (ttF par n wi wo wf).2.2 (fun k => decide (hdF par n k = hdF par n v)) w = true ↔ ∃ i, i < c ∧ itS par i (hdF par n v) = w) := by
        intro w hw
        unfold RR aliv
        simp only [Bool.and_eq_true, decide_eq_true_eq, Bool.or_eq_true]
        constructor
        · intro ⟨e, h2⟩
          have hwr : par w ≠ none := by
            intro hwr
            have : itS par n w = w := by
              have := itS_root (k := 0) (v := w) rfl hwr n
              rw [Nat.zero_add] at this; exact this
            have h3 : hdF par n w = w := by unfold hdF; rw [this, if_pos hwr]
            rw [← e, h3] at hr
            exact hr hwr
          have hs : ((ttF par n wi wo wf).2.2 w).isSome = true := by
            rcases h2 with h2 | h2
            · exact h2
            · exact absurd (by simpa using h2) hwr
          have hon : onC par w := by
            by_cases z : onC par w
            · exact z
            · rw [hdn w hw z] at hs; cases hs
          obtain ⟨o1, k, o2, o3⟩ := hon
          obtain ⟨⟨i, i1, i2⟩, -⟩ := hd_mn hp hw
          have hk : ∀ q, itS par (k * q) w = w := by
            intro q
            induction q with
            | zero => rfl
            | succ q ih => rw [Nat.mul_succ, itS_add, ih, o3]
          have hle : i ≤ k * i := by have := Nat.mul_le_mul_right i o2; omega
          have e5 : itS par (k * i - i) (hdF par n v) = w := by
            rw [← e, ← i2, ← itS_add, show i + (k * i - i) = k * i by omega]; exact hk i
          exact ⟨(k * i - i) % c, Nat.mod_lt _ (by omega), by rw [← cyc_mod hC]; exact e5⟩
        · intro ⟨i, hi, e⟩
          subst e
          have hon : onC par (itS par i (hdF par n v)) := onC_fwd ⟨hr, c, hC.1, hC.2.1⟩ i
          have hup : ∀ i, hdF par n (itS par i (hdF par n v)) = hdF par n v := by
            intro i
            induction i with
            | zero => exact hd_hd hp hv
            | succ i ih => rw [hd_up hp (itS_lt hp hmn i) (hC.2.2.2 i)]; exact ih
          exact ⟨hup i, Or.inl (hci _ hw hon)⟩
      have hs : fb_sm (fun w => if RR par (ttF par n wi wo wf).2.2 (fun k => decide (hdF par n k = hdF par n v)) w = true then max ((ttF par n wi wo wf).1 w) ((ttF par n wi wo wf).2.1 w) else 0) n ≤ 24 := by
        refine Nat.le_trans (fb_sm_le (g := fun v => if aliv par (ttF par n wi wo wf).2.2 v = true then max ((ttF par n wi wo wf).1 v) ((ttF par n wi wo wf).2.1 v) else 0) (fun k hk => ?_)) (Nat.le_trans hsm hn)
        by_cases e : RR par (ttF par n wi wo wf).2.2 (fun k => decide (hdF par n k = hdF par n v)) k = true
        · have e2 : aliv par (ttF par n wi wo wf).2.2 k = true := by
            unfold RR at e
            rw [Bool.and_eq_true] at e
            exact e.2
          simp only [if_pos e, if_pos e2]
          exact Nat.le_refl _
        · simp only [if_neg e]; exact Nat.zero_le _
      obtain ⟨a, a1, a2⟩ := cyc_V hp hmn hC hc hRm hs
      refine ⟨a, ?_, a2⟩
      unfold mgR
      rw [if_neg hr, c1]
      exact a1
  obtain ⟨a, a1, a2⟩ := main
  have h1 := tt_alpha hp wi wo wf hP a2
  have h2 := IsA_cong (w' := fun k => decide (hdF par n k = hdF par n v)) (fun j hj => part_hd hp hv hj) (gi_part hp hv)
  rw [a1, IsA_one h2 h1]
