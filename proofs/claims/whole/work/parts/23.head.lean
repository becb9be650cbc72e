-- STEPS ALONG PARENTS THAT STOP AT A ROOT; CYCLES
def stp (par : Nat → Option Nat) (v : Nat) : Nat := (par v).getD v
def itS (par : Nat → Option Nat) : Nat → Nat → Nat
  | 0, v => v
  | k + 1, v => stp par (itS par k v)
theorem stp_some {par : Nat → Option Nat} {v u : Nat} (h : par v = some u) : stp par v = u := by unfold stp; rw [h]; rfl
theorem stp_none {par : Nat → Option Nat} {v : Nat} (h : par v = none) : stp par v = v := by unfold stp; rw [h]; rfl
theorem stp_lt {n : Nat} {par : Nat → Option Nat} (hp : PW n par) {v : Nat} (hv : v < n) : stp par v < n := by
  cases h : par v with
  | none => rw [stp_none h]; exact hv
  | some u => rw [stp_some h]; exact hp.lt hv h
theorem itS_lt {n : Nat} {par : Nat → Option Nat} (hp : PW n par) {v : Nat} (hv : v < n) : ∀ k, itS par k v < n
  | 0 => hv
  | k + 1 => stp_lt hp (itS_lt hp hv k)
theorem itS_add (par : Nat → Option Nat) (v j : Nat) : ∀ i, itS par (j + i) v = itS par i (itS par j v)
  | 0 => rfl
  | i + 1 => by rw [← Nat.add_assoc, itS, itS_add par v j i, itS]
theorem itS_root {par : Nat → Option Nat} {v k t : Nat} (h : itS par k v = t) (hr : par t = none) : ∀ i, itS par (k + i) v = t
  | 0 => h
  | i + 1 => by rw [← Nat.add_assoc, itS, itS_root h hr i, stp_none hr]
theorem anc_itS {par : Nat → Option Nat} {v : Nat} : ∀ {k t : Nat}, anc par k v = some t → itS par k v = t
  | 0, t, h => by cases h; rfl
  | k + 1, t, h => by
    cases e : anc par k v with
    | none => rw [anc, e] at h; cases h
    | some z =>
      rw [anc_s e] at h
      rw [itS, anc_itS e, stp_some h]
/-- not at a root after k steps: none of the steps was one from a root -/
theorem itS_nonroot {par : Nat → Option Nat} {v : Nat} : ∀ {k : Nat}, par (itS par k v) ≠ none → ∀ i, i ≤ k → par (itS par i v) ≠ none := by
  intro k hk i hi hr
  have := itS_root (k := i) rfl hr (k - i)
  rw [show i + (k - i) = k by omega] at this
  rw [this] at hk
  exact hk hr
theorem anc_of {par : Nat → Option Nat} {t : Nat} (h : ∀ i, par (itS par i t) ≠ none) : ∀ i, anc par i t = some (itS par i t)
  | 0 => rfl
  | i + 1 => by
    rw [anc_s (anc_of h i), itS]
    obtain ⟨u, hu⟩ := ex_some (h i)
    rw [hu, stp_some hu]
/-- behind n steps one is at a root or on a cycle -/
theorem on_cycle {n : Nat} {par : Nat → Option Nat} (hp : PW n par) {v : Nat} (hv : v < n) (hr : par (itS par n v) ≠ none) : ∃ c, 1 ≤ c ∧ c ≤ n ∧ itS par c (itS par n v) = itS par n v := by
  obtain ⟨i, j, hij, hj, e⟩ := fb_twice (m := n) (n := n + 1) (f := fun k => itS par k v) (fun i _ => itS_lt hp hv i) (by omega)
  refine ⟨j - i, by omega, by omega, ?_⟩
  have e' : itS par i v = itS par j v := e
  have h1 : itS par n v = itS par (n - j) (itS par j v) := by rw [← itS_add]; congr 1; omega
  have h2 : itS par (j - i) (itS par i v) = itS par i v := by rw [← itS_add, show i + (j - i) = j by omega]; exact e'.symm
  rw [h1, ← e', ← itS_add, Nat.add_comm, itS_add, h2]
theorem cycle_nonroot {par : Nat → Option Nat} {t c : Nat} (hc : 1 ≤ c) (h : itS par c t = t) (hr : par t ≠ none) : ∀ i, par (itS par i t) ≠ none := by
  have hm : ∀ q, itS par (c * q) t = t := by
    intro q
    induction q with
    | zero => rfl
    | succ q ih => rw [Nat.mul_succ, itS_add, ih, h]
  intro i
  have h1 := itS_nonroot (par := par) (v := t) (k := c * i) (by rw [hm i]; exact hr) i (by
    rcases Nat.eq_zero_or_pos i with h0 | h0
    · subst h0; simp
    · have := Nat.mul_le_mul_right i hc; omega)
  exact h1
theorem cyc_spec {n : Nat} {par : Nat → Option Nat} (hp : PW n par) {v : Nat} (hv : v < n) (hr : par (itS par n v) ≠ none) : ∃ c, cycF par n (itS par n v) = some c ∧ 1 ≤ c ∧ c ≤ n ∧ itS par c (itS par n v) = itS par n v ∧ (∀ i, 1 ≤ i → i < c → itS par i (itS par n v) ≠ itS par n v) ∧ ∀ i, par (itS par i (itS par n v)) = some (itS par (i + 1) (itS par n v)) := by
  obtain ⟨c0, h1, h2, h3⟩ := on_cycle hp hv hr
  generalize itS par n v = t at *
  have hnr := cycle_nonroot h1 h3 hr
  have hst : ∀ i, par (itS par i t) = some (itS par (i + 1) t) := fun i => by
    obtain ⟨u, hu⟩ := ex_some (hnr i)
    rw [hu, itS, stp_some hu]
  have ha := anc_of hnr
  rcases fst_spec (p := fun k => anc par (k + 1) t == some t) (n := n) with ⟨-, hno⟩ | ⟨k, hk, hkn, hkt, hno⟩
  · have := hno (c0 - 1) (by omega)
    rw [show c0 - 1 + 1 = c0 by omega, ha c0, h3] at this
    simp at this
  · refine ⟨k + 1, by rw [cycF, hk]; rfl, by omega, by omega, ?_, fun i hi1 hi2 => ?_, hst⟩
    · rw [ha (k + 1)] at hkt
      simpa using hkt
    · have := hno (i - 1) (by omega)
      rw [show i - 1 + 1 = i by omega, ha i] at this
      simpa using this
def mnF (par : Nat → Option Nat) (t : Nat) : Nat → Nat
  | 0 => t
  | i + 1 => if itS par (i + 1) t < mnF par t i then itS par (i + 1) t else mnF par t i
theorem mnF_le (par : Nat → Option Nat) (t : Nat) : ∀ i, mnF par t i ≤ t
  | 0 => Nat.le_refl _
  | i + 1 => by
    have := mnF_le par t i
    rw [mnF]; split <;> omega
/-- where a node's steps end -/
def hdF (par : Nat → Option Nat) (n v : Nat) : Nat := if par (itS par n v) = none then itS par n v else mnF par (itS par n v) ((cycF par n (itS par n v)).getD 1 - 1)
theorem hdF_lt {n : Nat} {par : Nat → Option Nat} (hp : PW n par) {v : Nat} (hv : v < n) : hdF par n v < n := by
  unfold hdF
  have := itS_lt hp hv n
  split
  · exact this
  · have := mnF_le par (itS par n v) ((cycF par n (itS par n v)).getD 1 - 1); omega
theorem nI_le0 {c : Nat} (h : c < 2 ^ 31) : nI c ≤ 0 ↔ c = 0 := by
  rw [← nI_0, nI_leI h (by decide)]; omega
theorem wi_el (y : Int32) : wiB y 3 65535 = (!decide (y < 3) && vV y) := by
  unfold wiB vV
  by_cases h : y < 3
  · simp [h]
  · have : ¬ y < 0 := fun q => h (Int32.lt_iff_toInt_lt.mpr (by have := Int32.lt_iff_toInt_lt.mp q; have e0 : (0 : Int32).toInt = 0 := rfl; have e3 : (3 : Int32).toInt = 3 := rfl; omega))
    simp [h, this]
theorem prop_0 {n : Nat} (hn : n ≤ 24) {par : Nat → Option Nat} {col : Nat → Int32} : nI (fb_ct (conf par col) n) ≤ 0 ↔ propB n par col = true := by
  rw [nI_le0 (by have := fb_ct_le (conf par col) n; omega)]
  unfold propB
  rw [decide_eq_true_iff]
