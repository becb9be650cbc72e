-- THE REFERENCE'S WAY THROUGH TREES AND CYCLES
def gr32 (x y : Int32) : Int32 := if x ≤ y then y else x
theorem gr_nat {a b : Nat} (ha : a < 2 ^ 31) (hb : b < 2 ^ 31) : gr32 (nI a) (nI b) = nI (max a b) := by
  unfold gr32
  by_cases h : a ≤ b
  · rw [if_pos ((nI_leI ha hb).mpr h), Nat.max_eq_right h]
  · rw [if_neg (fun q => h ((nI_leI ha hb).mp q)), Nat.max_eq_left (by omega)]
abbrev TS : Type := (Nat → Nat) × (Nat → Nat) × (Nat → Option Nat)
def pst (par : Nat → Option Nat) (v : Nat) (S : TS) : TS := if S.2.2 v = some 0 then (match par v with
  | none => (S.1, S.2.1, va_up S.2.2 v none)
  | some u => (va_up S.1 u (S.1 u + S.2.1 v), va_up S.2.1 u (S.2.1 u + max (S.1 v) (S.2.1 v)), va_up (va_up S.2.2 v none) u ((S.2.2 u).map (· - 1)))) else S
theorem pst_no {par : Nat → Option Nat} {v : Nat} {S : TS} (h : ¬ S.2.2 v = some 0) : pst par v S = S := if_neg h
theorem pst_root {par : Nat → Option Nat} {v : Nat} {S : TS} (h : S.2.2 v = some 0) (hp : par v = none) : pst par v S = (S.1, S.2.1, va_up S.2.2 v none) := by unfold pst; rw [if_pos h, hp]
theorem pst_up {par : Nat → Option Nat} {v u : Nat} {S : TS} (h : S.2.2 v = some 0) (hp : par v = some u) : pst par v S = (va_up S.1 u (S.1 u + S.2.1 v), va_up S.2.1 u (S.2.1 u + max (S.1 v) (S.2.1 v)), va_up (va_up S.2.2 v none) u ((S.2.2 u).map (· - 1))) := by unfold pst; rw [if_pos h, hp]
def rowS (par : Nat → Option Nat) : Nat → TS → TS
  | 0, S => S
  | k + 1, S => pst par k (rowS par k S)
def trnS (par : Nat → Option Nat) (n : Nat) : Nat → TS → TS
  | 0, S => S
  | k + 1, S => rowS par n (trnS par n k S)
def ttW (par : Nat → Option Nat) (n : Nat) (wf : Nat → Option Nat) (k : Nat) : Nat → Option Nat := fun j => if j < n then some (fb_ct (fun i => par i == some j) k) else wf j
def ttS0 (par : Nat → Option Nat) (n : Nat) (wi wo : Nat → Nat) (wf : Nat → Option Nat) : TS := (fun j => if j < n then 1 else wi j, fun j => if j < n then 0 else wo j, ttW par n wf n)
def ttF (par : Nat → Option Nat) (n : Nat) (wi wo : Nat → Nat) (wf : Nat → Option Nat) : TS := trnS par n n (ttS0 par n wi wo wf)
/-- children that still wait -/
def remC (par : Nat → Option Nat) (n : Nat) (wf : Nat → Option Nat) (u : Nat) : Nat := fb_ct (fun i => (par i == some u) && (wf i).isSome) n
def gone (n : Nat) (wf : Nat → Option Nat) : Nat := fb_ct (fun i => (wf i).isNone) n
def TInv (n : Nat) (par : Nat → Option Nat) (S : TS) : Prop := (∀ u, u < n → (S.2.2 u = none ∧ remC par n S.2.2 u = 0) ∨ S.2.2 u = some (remC par n S.2.2 u)) ∧ ∀ v, v < n → S.1 v ≤ 2 ^ gone n S.2.2 ∧ S.2.1 v ≤ 2 ^ gone n S.2.2
theorem gone_le (n : Nat) (wf : Nat → Option Nat) : gone n wf ≤ n := fb_ct_le _ n
theorem TInv.b {n : Nat} {par : Nat → Option Nat} {S : TS} (h : TInv n par S) (hn : n ≤ 24) {v : Nat} (hv : v < n) : S.1 v ≤ 16777216 ∧ S.2.1 v ≤ 16777216 := by
  have h1 := h.2 v hv
  have h2 : 2 ^ gone n S.2.2 ≤ 2 ^ 24 := Nat.pow_le_pow_right (by omega) (Nat.le_trans (gone_le _ _) hn)
  omega
theorem TInv.w {n : Nat} {par : Nat → Option Nat} {S : TS} (h : TInv n par S) (hn : n ≤ 24) {v : Nat} (hv : v < n) : ∀ u, S.2.2 v = some u → u < 2 ^ 31 := by
  intro u hu
  rcases h.1 v hv with ⟨h1, -⟩ | h1
  · rw [h1] at hu; cases hu
  · rw [h1] at hu; cases hu
    have := fb_ct_le (fun i => (par i == some v) && (S.2.2 i).isSome) n
    unfold remC; omega
/-- the parent of one that waits for nobody waits for it -/
theorem TInv.up {n : Nat} {par : Nat → Option Nat} {S : TS} (h : TInv n par S) {v u : Nat} (hv : v < n) (hu : u < n) (hw : S.2.2 v = some 0) (hp : par v = some u) : ∃ c, S.2.2 u = some (c + 1) ∧ remC par n S.2.2 u = c + 1 := by
  have hpos : 0 < remC par n S.2.2 u := fb_ct_pos.mpr ⟨v, hv, by simp [hp, hw]⟩
  rcases h.1 u hu with ⟨-, h1⟩ | h1
  · omega
  · exact ⟨remC par n S.2.2 u - 1, by rw [h1]; congr 1; omega, by omega⟩
theorem rem_gone {n : Nat} {par : Nat → Option Nat} {wf : Nat → Option Nat} {v : Nat} (hv : v < n) (hw : (wf v).isSome = true) (z : Nat) : remC par n (va_up wf v none) z + (if par v = some z then 1 else 0) = remC par n wf z := by
  have h := fb_ct_upd (fun i => (par i == some z) && (wf i).isSome) false hv
  have e : fb_ct (fun k => if k = v then false else (par k == some z) && (wf k).isSome) n = remC par n (va_up wf v none) z := fb_ct_cong (fun k _ => by
    by_cases hk : k = v
    · subst hk; rw [va_up_self]; simp
    · rw [va_up_ne _ _ hk, if_neg hk])
  rw [e, hw, Bool.and_true] at h
  have h0 : (if false = true then 1 else 0) = 0 := rfl
  rw [h0, Nat.add_zero] at h
  show _ = fb_ct (fun i => (par i == some z) && (wf i).isSome) n
  rw [← h]
  congr 1
  by_cases hz : par v = some z
  · rw [if_pos hz, if_pos (by simpa using hz)]
  · rw [if_neg hz, if_neg (by simpa using hz)]
theorem gone_up {n : Nat} {wf : Nat → Option Nat} {v : Nat} (hv : v < n) (hw : (wf v).isSome = true) : gone n (va_up wf v none) = gone n wf + 1 := by
  have h := fb_ct_upd (fun i => (wf i).isNone) true hv
  have e : fb_ct (fun k => if k = v then true else (wf k).isNone) n = gone n (va_up wf v none) := fb_ct_cong (fun k _ => by
    by_cases hk : k = v
    · subst hk; rw [va_up_self]; simp
    · rw [va_up_ne _ _ hk, if_neg hk])
  have h0 : (wf v).isNone = false := by cases e : wf v <;> simp_all
  rw [e, h0, if_neg (by simp), if_pos rfl] at h
  unfold gone at *
  omega
theorem some_same {n : Nat} {par : Nat → Option Nat} {wf wf' : Nat → Option Nat} (h : ∀ i, (wf i).isSome = (wf' i).isSome) : (∀ u, remC par n wf u = remC par n wf' u) ∧ gone n wf = gone n wf' := by
  refine ⟨fun u => fb_ct_cong (fun k _ => by rw [h k]), fb_ct_cong (fun k _ => ?_)⟩
  have := h k
  cases e1 : wf k <;> cases e2 : wf' k <;> simp_all
theorem pst_inv {n : Nat} {par : Nat → Option Nat} (hp : PW n par) {S : TS} (h : TInv n par S) {v : Nat} (hv : v < n) : TInv n par (pst par v S) := by
  by_cases hw : S.2.2 v = some 0
  · have hs : (S.2.2 v).isSome = true := by rw [hw]; rfl
    have hg := gone_up hv hs
    have hr0 : remC par n S.2.2 v = 0 := by
      rcases h.1 v hv with ⟨-, h1⟩ | h1
      · exact h1
      · rw [hw] at h1; exact (Option.some.inj h1).symm
    cases hpv : par v with
    | none =>
      rw [pst_root hw hpv]
      refine ⟨fun z hz => ?_, fun z hz => ?_⟩
      · have hrz := rem_gone (par := par) hv hs z
        rw [hpv, if_neg (by simp), Nat.add_zero] at hrz
        show (va_up S.2.2 v none z = none ∧ remC par n (va_up S.2.2 v none) z = 0) ∨ va_up S.2.2 v none z = some (remC par n (va_up S.2.2 v none) z)
        rw [hrz]
        by_cases hzv : z = v
        · subst hzv; rw [va_up_self]; exact Or.inl ⟨rfl, hr0⟩
        · rw [va_up_ne _ _ hzv]; exact h.1 z hz
      · have := h.2 z hz
        show S.1 z ≤ 2 ^ gone n (va_up S.2.2 v none) ∧ S.2.1 z ≤ 2 ^ gone n (va_up S.2.2 v none)
        rw [hg, Nat.pow_succ]
        omega
    | some u =>
      have hun := hp.lt hv hpv
      have huv : u ≠ v := (hp v hv u hpv).2
      obtain ⟨c, hc1, hc2⟩ := h.up hv hun hw hpv
      rw [pst_up hw hpv]
      have hmap : (S.2.2 u).map (· - 1) = some c := by rw [hc1]; rfl
      rw [hmap]
      have hsame := some_same (n := n) (par := par) (wf := va_up (va_up S.2.2 v none) u (some c)) (wf' := va_up S.2.2 v none) (fun i => by
        by_cases hi : i = u
        · subst hi; rw [va_up_self, va_up_ne _ _ huv, hc1]; rfl
        · rw [va_up_ne _ _ hi])
      refine ⟨fun z hz => ?_, fun z hz => ?_⟩
      · have hrz := rem_gone (par := par) hv hs z
        show (va_up (va_up S.2.2 v none) u (some c) z = none ∧ remC par n (va_up (va_up S.2.2 v none) u (some c)) z = 0) ∨ va_up (va_up S.2.2 v none) u (some c) z = some (remC par n (va_up (va_up S.2.2 v none) u (some c)) z)
        rw [hsame.1 z]
        by_cases hzu : z = u
        · subst hzu
          rw [va_up_self]
          rw [hpv, if_pos rfl] at hrz
          exact Or.inr (by congr 1; omega)
        · rw [va_up_ne _ _ hzu]
          rw [hpv, if_neg (fun e => hzu (Option.some.inj e).symm), Nat.add_zero] at hrz
          rw [hrz]
          by_cases hzv : z = v
          · subst hzv; rw [va_up_self]; exact Or.inl ⟨rfl, hr0⟩
          · rw [va_up_ne _ _ hzv]; exact h.1 z hz
      · show va_up S.1 u (S.1 u + S.2.1 v) z ≤ 2 ^ gone n (va_up (va_up S.2.2 v none) u (some c)) ∧ va_up S.2.1 u (S.2.1 u + max (S.1 v) (S.2.1 v)) z ≤ 2 ^ gone n (va_up (va_up S.2.2 v none) u (some c))
        rw [hsame.2, hg, Nat.pow_succ]
        have h1 := h.2 v hv
        have h2 := h.2 u hun
        have h3 := h.2 z hz
        by_cases hzu : z = u
        · subst hzu
          rw [va_up_self, va_up_self]
          omega
        · rw [va_up_ne _ _ hzu, va_up_ne _ _ hzu]
          omega
  · rw [pst_no hw]; exact h
theorem rowS_inv {n : Nat} {par : Nat → Option Nat} (hp : PW n par) {S : TS} (h : TInv n par S) : ∀ k, k ≤ n → TInv n par (rowS par k S)
  | 0, _ => h
  | k + 1, hk => pst_inv hp (rowS_inv hp h k (by omega)) (by omega)
theorem trnS_inv {n : Nat} {par : Nat → Option Nat} (hp : PW n par) {S : TS} (h : TInv n par S) : ∀ k, TInv n par (trnS par n k S)
  | 0 => h
  | k + 1 => rowS_inv hp (trnS_inv hp h k) n (Nat.le_refl _)
theorem tt0_inv {n : Nat} {par : Nat → Option Nat} (hp : PW n par) (wi wo : Nat → Nat) (wf : Nat → Option Nat) : TInv n par (ttS0 par n wi wo wf) := by
  have hall : ∀ i, i < n → ttW par n wf n i = some (fb_ct (fun k => par k == some i) n) := fun i hi => if_pos hi
  have hr : ∀ u, remC par n (ttW par n wf n) u = fb_ct (fun k => par k == some u) n := fun u => fb_ct_cong (fun k hk => by rw [hall k hk]; simp)
  refine ⟨fun u hu => Or.inr ?_, fun v hv => ?_⟩
  · show ttW par n wf n u = _
    rw [hall u hu]
    show _ = some (remC par n (ttW par n wf n) u)
    rw [hr u]
  · show (if v < n then 1 else wi v) ≤ _ ∧ (if v < n then 0 else wo v) ≤ _
    rw [if_pos hv, if_pos hv]
    exact ⟨Nat.two_pow_pos _, Nat.zero_le _⟩
theorem ttF_inv {n : Nat} {par : Nat → Option Nat} (hp : PW n par) (wi wo : Nat → Nat) (wf : Nat → Option Nat) : TInv n par (ttF par n wi wo wf) := trnS_inv hp (tt0_inv hp wi wo wf) n
theorem ttW_s {n : Nat} {par : Nat → Option Nat} {wf : Nat → Option Nat} {k u : Nat} (hu : par k = some u) (hun : u < n) : va_up (ttW par n wf k) u (some (fb_ct (fun i => par i == some u) k + 1)) = ttW par n wf (k + 1) := by
  funext j
  by_cases h : j = u
  · subst h; rw [va_up_self]; unfold ttW; rw [if_pos hun, fb_ct_t (by simp [hu])]
  · rw [va_up_ne _ _ h]
    unfold ttW
    by_cases h2 : j < n
    · rw [if_pos h2, if_pos h2, fb_ct_f (by simp [hu, Ne.symm h])]
    · rw [if_neg h2, if_neg h2]
theorem ttW_n {n : Nat} {par : Nat → Option Nat} {wf : Nat → Option Nat} {k : Nat} (hu : par k = none) : ttW par n wf (k + 1) = ttW par n wf k := by
  funext j
  unfold ttW
  by_cases h2 : j < n
  · rw [if_pos h2, if_pos h2, fb_ct_f (by simp [hu])]
  · rw [if_neg h2, if_neg h2]
-- the first loop
def ifF {α : Type} (c : α) (f : Nat → α) (k : Nat) : Nat → α := fun j => if j < k then c else f j
theorem ifF_s {α : Type} (c : α) (f : Nat → α) (k : Nat) : va_up (ifF c f k) k c = ifF c f (k + 1) := by
  funext j
  unfold ifF
  by_cases h : j = k
  · subst h; rw [va_up_self, if_pos (by omega)]
  · rw [va_up_ne _ _ h]
    by_cases h2 : j < k
    · rw [if_pos h2, if_pos (by omega)]
    · rw [if_neg h2, if_neg (by omega)]
theorem ifF_0 {α : Type} (c : α) (f : Nat → α) : ifF c f 0 = f := funext fun j => if_neg (Nat.not_lt_zero _)
theorem ifF_w (par : Nat → Option Nat) (n : Nat) (wf : Nat → Option Nat) : ifF (some 0) wf n = ttW par n wf 0 := rfl
-- cycles
def bocI (par : Nat → Option Nat) (wi wo : Nat → Nat) (f : Nat) (p q : Int32) : Nat → Int32 × Int32
  | 0 => (p, q)
  | i + 1 => ((bocI par wi wo f p q i).2 + nI (wi (itS par (i + 1) f)), gr32 (bocI par wi wo f p q i).1 (bocI par wi wo f p q i).2 + nI (wo (itS par (i + 1) f)))
def bocR (par : Nat → Option Nat) (wi wo : Nat → Nat) (f cc : Nat) (inn : Bool) : Int32 := if inn = true then (bocI par wi wo f (nI (wi f)) (-1000) (cc - 1)).2 else gr32 (bocI par wi wo f (-1000) (nI (wo f)) (cc - 1)).1 (bocI par wi wo f (-1000) (nI (wo f)) (cc - 1)).2
/-- f is on a cycle of cc nodes -/
def CYC (par : Nat → Option Nat) (f cc : Nat) : Prop := 1 ≤ cc ∧ itS par cc f = f ∧ (∀ i, 1 ≤ i → i < cc → itS par i f ≠ f) ∧ ∀ i, par (itS par i f) = some (itS par (i + 1) f)
theorem cyc_on {n : Nat} {par : Nat → Option Nat} {t c0 : Nat} (h1 : 1 ≤ c0) (h2 : c0 ≤ n) (h3 : itS par c0 t = t) (hr : par t ≠ none) : ∃ c, cycF par n t = some c ∧ c ≤ n ∧ CYC par t c := by
  have hnr := cycle_nonroot h1 h3 hr
  have hst : ∀ i, par (itS par i t) = some (itS par (i + 1) t) := fun i => by
    obtain ⟨u, hu⟩ := ex_some (hnr i)
    rw [hu, itS, stp_some hu]
  have ha := anc_of hnr
  rcases fst_spec (p := fun k => anc par (k + 1) t == some t) (n := n) with ⟨-, hno⟩ | ⟨k, hk, hkn, hkt, hno⟩
  · have := hno (c0 - 1) (by omega)
    rw [show c0 - 1 + 1 = c0 by omega, ha c0, h3] at this
    simp at this
  · refine ⟨k + 1, by rw [cycF, hk]; rfl, by omega, by omega, ?_, fun i hi1 hi2 => ?_, hst⟩
    · rw [ha (k + 1)] at hkt
      simpa using hkt
    · have := hno (i - 1) (by omega)
      rw [show i - 1 + 1 = i by omega, ha i] at this
      simpa using this
theorem mnF_on (par : Nat → Option Nat) (t : Nat) : ∀ i, ∃ j, j ≤ i ∧ mnF par t i = itS par j t
  | 0 => ⟨0, Nat.le_refl _, rfl⟩
  | i + 1 => by
    rw [mnF]
    split
    · exact ⟨i + 1, Nat.le_refl _, rfl⟩
    · obtain ⟨j, h1, h2⟩ := mnF_on par t i
      exact ⟨j, by omega, h2⟩
theorem hd_cyc {n : Nat} {par : Nat → Option Nat} (hp : PW n par) {v : Nat} (hv : v < n) (hr : ¬ par (hdF par n v) = none) : ∃ c, cycF par n (hdF par n v) = some c ∧ c ≤ n ∧ CYC par (hdF par n v) c := by
  by_cases h0 : par (itS par n v) = none
  · exact absurd (by unfold hdF; rw [if_pos h0]; exact h0) hr
  · obtain ⟨c, hc1, hc2, hc3⟩ := on_cycle hp hv h0
    have e : hdF par n v = mnF par (itS par n v) ((cycF par n (itS par n v)).getD 1 - 1) := by unfold hdF; rw [if_neg h0]
    obtain ⟨j, -, hj⟩ := mnF_on par (itS par n v) ((cycF par n (itS par n v)).getD 1 - 1)
    rw [e, hj] at hr ⊢
    refine cyc_on hc1 hc2 ?_ hr
    rw [← itS_add, Nat.add_comm, itS_add, hc3]
/-- what the reference answers for v -/
def mgR (par : Nat → Option Nat) (n : Nat) (wi wo : Nat → Nat) (v : Nat) : Int32 := if par (hdF par n v) = none then gr32 (nI (wi (hdF par n v))) (nI (wo (hdF par n v))) else gr32 (bocR par wi wo (hdF par n v) ((cycF par n (hdF par n v)).getD 1) true) (bocR par wi wo (hdF par n v) ((cycF par n (hdF par n v)).getD 1) false)
