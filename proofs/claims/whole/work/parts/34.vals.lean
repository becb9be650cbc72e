-- THE REFERENCE'S SIDE: values of choices
def aliv (par wf : Nat → Option Nat) (v : Nat) : Bool := (wf v).isSome || (par v).isNone
def RR (par wf : Nat → Option Nat) (P : Nat → Bool) : Nat → Bool := fun v => P v && aliv par wf v
def VV (n : Nat) (R x : Nat → Bool) (wi wo : Nat → Nat) : Nat := fb_sm (fun v => if R v = true then (if x v = true then wi v else wo v) else 0) n
def indR (n : Nat) (par : Nat → Option Nat) (R x : Nat → Bool) : Prop := ∀ v u, v < n → par v = some u → R v = true → R u = true → ¬ (x v = true ∧ x u = true)
def IsV (n : Nat) (par : Nat → Option Nat) (R : Nat → Bool) (wi wo : Nat → Nat) (a : Nat) : Prop := (∃ x, indR n par R x ∧ VV n R x wi wo = a) ∧ ∀ x, indR n par R x → VV n R x wi wo ≤ a
theorem sm_move {n u v : Nat} (hu : u < n) (hv : v < n) (huv : u ≠ v) (F F' : Nat → Nat) (g : Nat) (h1 : F' v = 0) (h2 : F' u = F u + g) (h3 : ∀ k, k < n → k ≠ u → k ≠ v → F' k = F k) : fb_sm F' n + F v = fb_sm F n + g := by
  have a1 := fb_sm_upd F 0 hv
  have a2 := fb_sm_upd (fun k => if k = v then 0 else F k) (F u + g) hu
  simp only [if_neg huv] at a2
  have a3 : fb_sm F' n = fb_sm (fun k => if k = u then F u + g else if k = v then 0 else F k) n := fb_sm_cong (fun k hk => by
    by_cases e1 : k = u
    · rw [if_pos e1, e1, h2]
    · rw [if_neg e1]
      by_cases e2 : k = v
      · rw [if_pos e2, e2, h1]
      · rw [if_neg e2, h3 k hk e1 e2])
  omega
section
variable {n : Nat} {par : Nat → Option Nat} {S : TS} {P : Nat → Bool} {v u : Nat}
theorem kid_gone (h : TInv n par S) (hv : v < n) (hw : S.2.2 v = some 0) {k : Nat} (hk : k < n) (hp : par k = some v) : S.2.2 k = none := by
  have hr : remC par n S.2.2 v = 0 := by
    rcases h.1 v hv with ⟨-, h1⟩ | h1
    · exact h1
    · rw [hw] at h1; exact (Option.some.inj h1).symm
  have := fb_ct_zero.mp hr k hk
  cases e : S.2.2 k with
  | none => rfl
  | some z => simp [hp, e] at this
theorem val_step (hp : PW n par) (h : TInv n par S) (hv : v < n) (hP : ∀ k u, k < n → par k = some u → P k = P u) {a : Nat} (hA : IsV n par (RR par (pst par v S).2.2 P) (pst par v S).1 (pst par v S).2.1 a) : IsV n par (RR par S.2.2 P) S.1 S.2.1 a := by
  by_cases hw : S.2.2 v = some 0
  · cases hpv : par v with
    | none =>
      rw [pst_root hw hpv] at hA
      have e : RR par (va_up S.2.2 v none) P = RR par S.2.2 P := by
        funext k
        unfold RR aliv
        by_cases z : k = v
        · subst z; rw [hpv]; simp
        · rw [va_up_ne _ _ z]
      simp only at hA
      rw [e] at hA
      exact hA
    | some u =>
      have hun := hp.lt hv hpv
      have huv : u ≠ v := (hp v hv u hpv).2
      obtain ⟨c, hc1, hc2⟩ := h.up hv hun hw hpv
      rw [pst_up hw hpv] at hA
      have hmap : (S.2.2 u).map (· - 1) = some c := by rw [hc1]; rfl
      rw [hmap] at hA
      simp only at hA
      have hRo : ∀ k, k ≠ v → RR par (va_up (va_up S.2.2 v none) u (some c)) P k = RR par S.2.2 P k := by
        intro k hk
        unfold RR aliv
        by_cases z : k = u
        · subst z; rw [va_up_self, hc1]; rfl
        · rw [va_up_ne _ _ z, va_up_ne _ _ hk]
      have hRv : RR par (va_up (va_up S.2.2 v none) u (some c)) P v = false := by
        unfold RR aliv
        rw [va_up_ne _ _ (Ne.symm huv), va_up_self, hpv]
        simp
      have hPu := hP v u hv hpv
      by_cases hPv : P v = true
      · have hPu' : P u = true := by rw [← hPu]; exact hPv
        have Rv : RR par S.2.2 P v = true := by unfold RR aliv; rw [hPv, hw]; rfl
        have Ru : RR par S.2.2 P u = true := by unfold RR aliv; rw [hPu', hc1]; rfl
        have Ru' : RR par (va_up (va_up S.2.2 v none) u (some c)) P u = true := by rw [hRo u huv]; exact Ru
        have kid : ∀ k, k < n → par k = some v → RR par S.2.2 P k = false := by
          intro k hk hk2
          unfold RR aliv
          rw [kid_gone h hv hw hk hk2, hk2]
          simp
        have rel : ∀ x : Nat → Bool, VV n (RR par (va_up (va_up S.2.2 v none) u (some c)) P) x (va_up S.1 u (S.1 u + S.2.1 v)) (va_up S.2.1 u (S.2.1 u + max (S.1 v) (S.2.1 v))) + (if x v = true then S.1 v else S.2.1 v) = VV n (RR par S.2.2 P) x S.1 S.2.1 + (if x u = true then S.2.1 v else max (S.1 v) (S.2.1 v)) := by
          intro x
          have := sm_move hun hv huv (fun k => if RR par S.2.2 P k = true then (if x k = true then S.1 k else S.2.1 k) else 0) (fun k => if RR par (va_up (va_up S.2.2 v none) u (some c)) P k = true then (if x k = true then va_up S.1 u (S.1 u + S.2.1 v) k else va_up S.2.1 u (S.2.1 u + max (S.1 v) (S.2.1 v)) k) else 0) (if x u = true then S.2.1 v else max (S.1 v) (S.2.1 v)) (by simp only [hRv]; simp) (by
            simp only [Ru', Ru, if_true, va_up_self]
            split <;> rfl) (fun k hk k1 k2 => by simp only [hRo k k2, va_up_ne _ _ k1])
          simp only [Rv, if_true] at this
          exact this
        obtain ⟨⟨x', i1, i2⟩, i3⟩ := hA
        refine ⟨⟨fun k => if k = v then (!x' u && decide (S.2.1 v ≤ S.1 v)) else x' k, fun k z hk hkz rk rz hxx => ?_, ?_⟩, fun x hx => ?_⟩
        · simp only at hxx
          by_cases e1 : k = v
          · subst e1
            rw [hpv] at hkz
            have e2 : u = z := Option.some.inj hkz
            subst e2
            rw [if_pos rfl, if_neg huv] at hxx
            have := hxx.1
            rw [hxx.2] at this
            simp at this
          · by_cases e2 : z = v
            · subst e2
              rw [kid k hk hkz] at rk
              cases rk
            · rw [if_neg e1, if_neg e2] at hxx
              exact i1 k z hk hkz (by rw [hRo k e1]; exact rk) (by rw [hRo z e2]; exact rz) hxx
        · have r := rel (fun k => if k = v then (!x' u && decide (S.2.1 v ≤ S.1 v)) else x' k)
          have e : VV n (RR par (va_up (va_up S.2.2 v none) u (some c)) P) (fun k => if k = v then (!x' u && decide (S.2.1 v ≤ S.1 v)) else x' k) (va_up S.1 u (S.1 u + S.2.1 v)) (va_up S.2.1 u (S.2.1 u + max (S.1 v) (S.2.1 v))) = a := by
            rw [← i2]
            apply fb_sm_cong
            intro k hk
            by_cases e1 : k = v
            · subst e1; simp [hRv]
            · simp [e1]
          rw [e] at r
          generalize hVx : VV n (RR par S.2.2 P) (fun k => if k = v then (!x' u && decide (S.2.1 v ≤ S.1 v)) else x' k) S.1 S.2.1 = VX at r ⊢
          simp only [if_pos, if_neg huv] at r
          by_cases hxu : x' u = true
          · rw [hxu] at r
            simp at r
            omega
          · have hxu : x' u = false := by simpa using hxu
            rw [hxu] at r
            simp only [Bool.not_false, Bool.true_and, decide_eq_true_eq] at r
            by_cases hle : S.2.1 v ≤ S.1 v
            · rw [if_pos hle, Nat.max_eq_left hle] at r
              simp at r
              omega
            · rw [if_neg hle, Nat.max_eq_right (by omega)] at r
              simp at r
              omega
        · have r := rel x
          have hx' : indR n par (RR par (va_up (va_up S.2.2 v none) u (some c)) P) x := fun k z hk hkz rk rz => by
            have ek : k ≠ v := fun e => by rw [e, hRv] at rk; cases rk
            have ez : z ≠ v := fun e => by rw [e, hRv] at rz; cases rz
            exact hx k z hk hkz (by rw [← hRo k ek]; exact rk) (by rw [← hRo z ez]; exact rz)
          have b1 := i3 x hx'
          have b2 := hx v u hv hpv Rv Ru
          by_cases hxu : x u = true
          · have hxv : x v = false := by
              cases e : x v with
              | false => rfl
              | true => exact absurd ⟨e, hxu⟩ b2
            rw [hxu, hxv] at r
            simp at r
            omega
          · have hxu : x u = false := by simpa using hxu
            rw [hxu] at r
            have : (if x v = true then S.1 v else S.2.1 v) ≤ max (S.1 v) (S.2.1 v) := by
              split
              · exact Nat.le_max_left _ _
              · exact Nat.le_max_right _ _
            simp only [Bool.false_eq_true, if_false] at r
            omega
      · have hPv : P v = false := by simpa using hPv
        have hPu' : P u = false := by rw [← hPu]; exact hPv
        have eR : RR par (va_up (va_up S.2.2 v none) u (some c)) P = RR par S.2.2 P := by
          funext k
          by_cases z : k = v
          · subst z; unfold RR; rw [hPv]; rfl
          · exact hRo k z
        rw [eR] at hA
        have eV : ∀ x : Nat → Bool, VV n (RR par S.2.2 P) x (va_up S.1 u (S.1 u + S.2.1 v)) (va_up S.2.1 u (S.2.1 u + max (S.1 v) (S.2.1 v))) = VV n (RR par S.2.2 P) x S.1 S.2.1 := by
          intro x
          apply fb_sm_cong
          intro k hk
          by_cases z : k = u
          · subst z
            have : RR par S.2.2 P k = false := by unfold RR; rw [hPu']; rfl
            simp [this]
          · rw [va_up_ne _ _ z, va_up_ne _ _ z]
        obtain ⟨⟨x, i1, i2⟩, i3⟩ := hA
        exact ⟨⟨x, i1, by rw [← eV]; exact i2⟩, fun y hy => by rw [← eV]; exact i3 y hy⟩
  · rw [pst_no hw] at hA; exact hA
/-- the sum of the better choices does not grow -/
def sumM (n : Nat) (par : Nat → Option Nat) (S : TS) : Nat := fb_sm (fun v => if aliv par S.2.2 v = true then max (S.1 v) (S.2.1 v) else 0) n
theorem sum_step (hp : PW n par) (h : TInv n par S) (hv : v < n) : sumM n par (pst par v S) ≤ sumM n par S := by
  by_cases hw : S.2.2 v = some 0
  · cases hpv : par v with
    | none =>
      rw [pst_root hw hpv]
      apply Nat.le_of_eq
      apply fb_sm_cong
      intro k hk
      simp only
      have : aliv par (va_up S.2.2 v none) k = aliv par S.2.2 k := by
        unfold aliv
        by_cases z : k = v
        · subst z; rw [hpv]; simp
        · rw [va_up_ne _ _ z]
      rw [this]
    | some u =>
      have hun := hp.lt hv hpv
      have huv : u ≠ v := (hp v hv u hpv).2
      obtain ⟨c, hc1, hc2⟩ := h.up hv hun hw hpv
      rw [pst_up hw hpv]
      have hmap : (S.2.2 u).map (· - 1) = some c := by rw [hc1]; rfl
      rw [hmap]
      have av : aliv par S.2.2 v = true := by simp [aliv, hw]
      have au : aliv par S.2.2 u = true := by simp [aliv, hc1]
      have au' : aliv par (va_up (va_up S.2.2 v none) u (some c)) u = true := by simp only [aliv]; rw [va_up_self]; rfl
      have av' : aliv par (va_up (va_up S.2.2 v none) u (some c)) v = false := by simp only [aliv]; rw [va_up_ne _ _ (Ne.symm huv), va_up_self, hpv]; rfl
      obtain ⟨g, hg⟩ : ∃ g, max (S.1 u + S.2.1 v) (S.2.1 u + max (S.1 v) (S.2.1 v)) = max (S.1 u) (S.2.1 u) + g ∧ g ≤ max (S.1 v) (S.2.1 v) := ⟨max (S.1 u + S.2.1 v) (S.2.1 u + max (S.1 v) (S.2.1 v)) - max (S.1 u) (S.2.1 u), by omega, by omega⟩
      have := sm_move hun hv huv (fun k => if aliv par S.2.2 k = true then max (S.1 k) (S.2.1 k) else 0) (fun k => if aliv par (va_up (va_up S.2.2 v none) u (some c)) k = true then max (va_up S.1 u (S.1 u + S.2.1 v) k) (va_up S.2.1 u (S.2.1 u + max (S.1 v) (S.2.1 v)) k) else 0) g (by simp only [av']; simp) (by simp only [au', au, if_true, va_up_self]; exact hg.1) (fun k hk k1 k2 => by
        have : aliv par (va_up (va_up S.2.2 v none) u (some c)) k = aliv par S.2.2 k := by unfold aliv; rw [va_up_ne _ _ k1, va_up_ne _ _ k2]
        simp only [this, va_up_ne _ _ k1])
      simp only [av, if_true] at this
      show fb_sm (fun k => if aliv par (va_up (va_up S.2.2 v none) u (some c)) k = true then max (va_up S.1 u (S.1 u + S.2.1 v) k) (va_up S.2.1 u (S.2.1 u + max (S.1 v) (S.2.1 v)) k) else 0) n ≤ fb_sm (fun k => if aliv par S.2.2 k = true then max (S.1 k) (S.2.1 k) else 0) n
      omega
  · rw [pst_no hw]; exact Nat.le_refl _
def onC (par : Nat → Option Nat) (v : Nat) : Prop := par v ≠ none ∧ ∃ c, 1 ≤ c ∧ itS par c v = v
theorem onC_fwd (h : onC par v) (i : Nat) : onC par (itS par i v) := by
  obtain ⟨h1, c, h2, h3⟩ := h
  refine ⟨cycle_nonroot h2 h3 h1 i, c, h2, ?_⟩
  rw [← itS_add, Nat.add_comm, itS_add, h3]
def CI (n : Nat) (par wf : Nat → Option Nat) : Prop := ∀ v, v < n → onC par v → (wf v).isSome = true
theorem ci_step (hp : PW n par) (h : TInv n par S) (hC : CI n par S.2.2) (hv : v < n) : CI n par (pst par v S).2.2 := by
  by_cases hw : S.2.2 v = some 0
  · have hnc : ¬ onC par v := by
      intro hc
      obtain ⟨h1, c, h2, h3⟩ := hc
      have hx : par (itS par (c - 1) v) = some v := by
        obtain ⟨z, hz⟩ := ex_some (cycle_nonroot h2 h3 h1 (c - 1))
        have : itS par (c - 1 + 1) v = z := by rw [itS, stp_some hz]
        rw [show c - 1 + 1 = c by omega, h3] at this
        rw [hz, ← this]
      have := hC _ (itS_lt hp hv (c - 1)) (onC_fwd ⟨h1, c, h2, h3⟩ (c - 1))
      rw [kid_gone h hv hw (itS_lt hp hv (c - 1)) hx] at this
      cases this
    intro w hw2 hcw
    have hwv : w ≠ v := fun e => hnc (e ▸ hcw)
    have hs := hC w hw2 hcw
    cases hpv : par v with
    | none => rw [pst_root hw hpv]; simp only; rw [va_up_ne _ _ hwv]; exact hs
    | some u =>
      rw [pst_up hw hpv]
      simp only
      by_cases z : w = u
      · subst z; rw [va_up_self]; cases e : S.2.2 w with
        | none => rw [e] at hs; cases hs
        | some q => rfl
      · rw [va_up_ne _ _ z, va_up_ne _ _ hwv]; exact hs
  · rw [pst_no hw]; exact hC
theorem gone_mono {k : Nat} (h : S.2.2 k = none) (v : Nat) : (pst par v S).2.2 k = none := by
  by_cases hw : S.2.2 v = some 0
  · cases hpv : par v with
    | none =>
      rw [pst_root hw hpv]; simp only
      by_cases z : k = v
      · subst z; rw [va_up_self]
      · rw [va_up_ne _ _ z]; exact h
    | some u =>
      rw [pst_up hw hpv]; simp only
      by_cases z : k = u
      · subst z; rw [va_up_self, h]; rfl
      · rw [va_up_ne _ _ z]
        by_cases z2 : k = v
        · subst z2; rw [va_up_self]
        · rw [va_up_ne _ _ z2]; exact h
  · rw [pst_no hw]; exact h
theorem row_mono {k : Nat} (h : S.2.2 k = none) : ∀ j, (rowS par j S).2.2 k = none
  | 0 => h
  | j + 1 => gone_mono (row_mono h j) j
theorem row_mono2 {k j : Nat} (h : (rowS par j S).2.2 k = none) : ∀ i, (rowS par (j + i) S).2.2 k = none
  | 0 => h
  | i + 1 => gone_mono (row_mono2 h i) (j + i)
theorem row_proc (hp : PW n par) (h : TInv n par S) (hv : v < n) (hk : ∀ i, i < n → par i = some v → S.2.2 i = none) : (rowS par n S).2.2 v = none := by
  have hI := rowS_inv hp h v (by omega)
  have hr : remC par n (rowS par v S).2.2 v = 0 := fb_ct_zero.mpr (fun i hi => by
    cases e : (par i == some v) with
    | false => rfl
    | true => rw [row_mono (hk i hi (by simpa using e)) v]; rfl)
  have h1 : (rowS par (v + 1) S).2.2 v = none := by
    rcases hI.1 v hv with ⟨z, -⟩ | z
    · exact gone_mono z v
    · rw [hr] at z
      show (pst par v (rowS par v S)).2.2 v = none
      cases hpv : par v with
      | none => rw [pst_root z hpv]; exact va_up_self _ _ _
      | some u =>
        rw [pst_up z hpv]
        simp only
        rw [va_up_ne _ _ (Ne.symm (hp v hv u hpv).2), va_up_self]
  have := row_mono2 h1 (n - (v + 1))
  rw [show v + 1 + (n - (v + 1)) = n by omega] at this
  exact this
theorem trn_proc (hp : PW n par) (h : TInv n par S) : ∀ (k v : Nat), v < n → (∀ w, w < n → anc par k w ≠ some v) → (trnS par n k S).2.2 v = none
  | 0, v, hv, hno => absurd rfl (hno v hv)
  | k + 1, v, hv, hno => row_proc hp (trnS_inv hp h k) hv (fun i hi hiv => trn_proc hp h k i hi (fun w hw e => hno w hw (by rw [anc_s e]; exact hiv)))
theorem anc_cyc (hp : PW n par) {w v : Nat} (hw : w < n) (h : anc par n w = some v) : onC par v := by
  have hv : itS par n w = v := anc_itS h
  have hnr : ∀ k, k < n → par (itS par k w) ≠ none := by
    intro k hk z
    have e : anc par (k + 1) w = none := by
      cases ha : anc par k w with
      | none => rw [anc, ha]; rfl
      | some t => rw [anc_s ha, ← anc_itS ha]; exact z
    have := anc_gone e (n - (k + 1))
    rw [show k + 1 + (n - (k + 1)) = n by omega, h] at this
    cases this
  obtain ⟨i, j, hij, hj, e⟩ := fb_twice (m := n) (n := n + 1) (f := fun k => itS par k w) (fun i _ => itS_lt hp hw i) (by omega)
  have e : itS par i w = itS par j w := e
  have h5 : itS par n w = itS par (i + (n - j)) w := by
    rw [itS_add, e, ← itS_add, show j + (n - j) = n by omega]
  refine ⟨?_, j - i, by omega, ?_⟩
  · rw [← hv, h5]; exact hnr _ (by omega)
  · rw [← hv]
    conv => lhs; rw [h5, ← itS_add, show i + (n - j) + (j - i) = n by omega]
end
section
variable {n : Nat} {par : Nat → Option Nat} {P : Nat → Bool}
theorem row_all (hp : PW n par) {S : TS} (h : TInv n par S) (hP : ∀ k u, k < n → par k = some u → P k = P u) {a : Nat} : ∀ k, k ≤ n → (IsV n par (RR par (rowS par k S).2.2 P) (rowS par k S).1 (rowS par k S).2.1 a → IsV n par (RR par S.2.2 P) S.1 S.2.1 a) ∧ sumM n par (rowS par k S) ≤ sumM n par S ∧ (CI n par S.2.2 → CI n par (rowS par k S).2.2)
  | 0, _ => ⟨fun h => h, Nat.le_refl _, fun h => h⟩
  | k + 1, hk => by
    obtain ⟨h1, h2, h3⟩ := row_all hp h hP (a := a) k (by omega)
    have hI := rowS_inv hp h k (by omega)
    exact ⟨fun z => h1 (val_step hp hI (by omega) hP z), Nat.le_trans (sum_step hp hI (by omega)) h2, fun z => ci_step hp hI (h3 z) (by omega)⟩
theorem trn_all (hp : PW n par) {S : TS} (h : TInv n par S) (hP : ∀ k u, k < n → par k = some u → P k = P u) {a : Nat} : ∀ k, (IsV n par (RR par (trnS par n k S).2.2 P) (trnS par n k S).1 (trnS par n k S).2.1 a → IsV n par (RR par S.2.2 P) S.1 S.2.1 a) ∧ sumM n par (trnS par n k S) ≤ sumM n par S ∧ (CI n par S.2.2 → CI n par (trnS par n k S).2.2)
  | 0 => ⟨fun h => h, Nat.le_refl _, fun h => h⟩
  | k + 1 => by
    obtain ⟨h1, h2, h3⟩ := trn_all hp h hP (a := a) k
    obtain ⟨g1, g2, g3⟩ := row_all hp (trnS_inv hp h k) hP (a := a) n (Nat.le_refl _)
    exact ⟨fun z => h1 (g1 z), Nat.le_trans g2 h2, fun z => g3 (h3 z)⟩
/-- from the end of takesTrees back to plain sets -/
theorem tt_alpha (hp : PW n par) (wi wo : Nat → Nat) (wf : Nat → Option Nat) (hP : ∀ k u, k < n → par k = some u → P k = P u) {a : Nat} (h : IsV n par (RR par (ttF par n wi wo wf).2.2 P) (ttF par n wi wo wf).1 (ttF par n wi wo wf).2.1 a) : IsA n par P a := by
  have h0 := (trn_all hp (tt0_inv hp wi wo wf) hP (a := a) n).1 h
  have hal : ∀ k, k < n → RR par (ttS0 par n wi wo wf).2.2 P k = P k := by
    intro k hk
    have : (ttS0 par n wi wo wf).2.2 k = some (fb_ct (fun i => par i == some k) n) := if_pos hk
    unfold RR aliv
    rw [this]
    simp
  have hV : ∀ x : Nat → Bool, VV n (RR par (ttS0 par n wi wo wf).2.2 P) x (ttS0 par n wi wo wf).1 (ttS0 par n wi wo wf).2.1 = fb_ct (fun k => P k && x k) n := by
    intro x
    have key : ∀ m, m ≤ n → fb_sm (fun v => if RR par (ttS0 par n wi wo wf).2.2 P v = true then (if x v = true then (ttS0 par n wi wo wf).1 v else (ttS0 par n wi wo wf).2.1 v) else 0) m = fb_ct (fun k => P k && x k) m := by
      intro m
      induction m with
      | zero => intro _; rfl
      | succ m ih =>
        intro hm
        rw [fb_sm_succ, fb_ct_succ, ih (by omega), hal m (by omega)]
        have e1 : (ttS0 par n wi wo wf).1 m = 1 := if_pos (by omega)
        have e2 : (ttS0 par n wi wo wf).2.1 m = 0 := if_pos (by omega)
        rw [e1, e2]
        cases P m <;> cases x m <;> rfl
    exact key n (Nat.le_refl _)
  obtain ⟨⟨x, i1, i2⟩, i3⟩ := h0
  rw [hV] at i2
  refine ⟨⟨fun j => decide (j < n) && (P j && x j), ⟨fun j hj => ?_, fun i j hi hj => ?_⟩, ?_⟩, fun y hy => ?_⟩
  · simp only [Bool.and_eq_true, decide_eq_true_eq] at hj
    exact ⟨hj.1, hj.2.1⟩
  · simp only [Bool.and_eq_true, decide_eq_true_eq] at hi hj
    have side : ∀ i j, i < n → j < n → P i = true → P j = true → x i = true → x j = true → ¬ par i = some j := by
      intro i j a1 a2 a3 a4 a5 a6 e
      exact i1 i j a1 e (by rw [hal i a1]; exact a3) (by rw [hal j a2]; exact a4) ⟨a5, a6⟩
    have s1 := side i j hi.1 hj.1 hi.2.1 hj.2.1 hi.2.2 hj.2.2
    have s2 := side j i hj.1 hi.1 hj.2.1 hi.2.1 hj.2.2 hi.2.2
    simp [nb, s1, s2]
  · rw [← i2]
    exact fb_ct_cong (fun k hk => by simp [hk])
  · have hy' : indR n par (RR par (ttS0 par n wi wo wf).2.2 P) y := fun k z hk hkz rk rz hyy => by
      have := hy.2 k z hyy.1 hyy.2
      simp [nb, hkz] at this
    have := i3 y hy'
    rw [hV] at this
    have e : fb_ct (fun k => P k && y k) n = fb_ct y n := fb_ct_cong (fun k hk => by
      cases e : y k with
      | false => rw [Bool.and_false]
      | true => rw [(hy.1 k e).2]; rfl)
    omega
theorem tt_sum (hp : PW n par) (wi wo : Nat → Nat) (wf : Nat → Option Nat) : sumM n par (ttF par n wi wo wf) ≤ n := by
  have h := (trn_all (P := fun _ => true) (a := 0) hp (tt0_inv hp wi wo wf) (fun _ _ _ _ => rfl) n).2.1
  refine Nat.le_trans h ?_
  have : sumM n par (ttS0 par n wi wo wf) ≤ n * 1 := fb_sm_bound (fun k hk => by
    have e1 : (ttS0 par n wi wo wf).1 k = 1 := if_pos hk
    have e2 : (ttS0 par n wi wo wf).2.1 k = 0 := if_pos hk
    rw [e1, e2]
    split <;> decide)
  omega
theorem tt_ci (hp : PW n par) (wi wo : Nat → Nat) (wf : Nat → Option Nat) : CI n par (ttF par n wi wo wf).2.2 :=
  (trn_all (P := fun _ => true) (a := 0) hp (tt0_inv hp wi wo wf) (fun _ _ _ _ => rfl) n).2.2 (fun v hv _ => by
    have : (ttS0 par n wi wo wf).2.2 v = some (fb_ct (fun i => par i == some v) n) := if_pos hv
    rw [this]; rfl)
theorem tt_done (hp : PW n par) (wi wo : Nat → Nat) (wf : Nat → Option Nat) {v : Nat} (hv : v < n) (hc : ¬ onC par v) : (ttF par n wi wo wf).2.2 v = none :=
  trn_proc hp (tt0_inv hp wi wo wf) n v hv (fun _ hw e => hc (anc_cyc hp hw e))
end
