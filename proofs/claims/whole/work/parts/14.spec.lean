-- WHAT THE METHODS ANSWER, as functions of the state
theorem vN_t {n : Nat} (hn : n ≤ 24) {x : Int32} (h : (vN n x).isSome = true) : ∃ v, v < n ∧ x = nI v := by
  rcases vN_cases hn x with ⟨h1, -⟩ | ⟨v, h1, h2, -⟩
  · rw [h1] at h; cases h
  · exact ⟨v, h1, h2⟩
theorem vN_f {n : Nat} {x : Int32} (h : (vN n x).isSome = false) : vN n x = none := by
  cases e : vN n x with
  | none => rfl
  | some v => rw [e] at h; cases h
theorem oN_in {n v : Nat} (hn : n ≤ 24) (hv : v < n) (f : Nat → Int32) : oN (vN n (nI v)) f = f v := by rw [vN_nI hn hv]; rfl
theorem oN_out {n : Nat} {x : Int32} (h : (vN n x).isSome = false) (f : Nat → Int32) : oN (vN n x) f = -1 := by rw [vN_f h]; rfl
theorem isNone_f {o : Option Nat} (h : o.isNone = false) : ∃ u, o = some u := by
  cases o with
  | none => cases h
  | some u => exact ⟨u, rfl⟩
theorem isNone_t {o : Option Nat} (h : o.isNone = true) : o = none := by
  cases o with
  | none => rfl
  | some u => cases h
theorem fb_ct_f {p : Nat → Bool} {k : Nat} (h : p k = false) : fb_ct p (k + 1) = fb_ct p k := by rw [fb_ct_succ, h]; simp
theorem fb_ct_t {p : Nat → Bool} {k : Nat} (h : p k = true) : fb_ct p (k + 1) = fb_ct p k + 1 := by rw [fb_ct_succ, h]; simp
theorem nI_z {c : Nat} (h : c < 2 ^ 31) : nI c = 0 ↔ c = 0 := by
  rw [← nI_0]; exact nI_eq h (by decide)
-- steps along parents
def anc (par : Nat → Option Nat) : Nat → Nat → Option Nat
  | 0, v => some v
  | k + 1, v => (anc par k v).bind par
theorem anc_s {par : Nat → Option Nat} {k v t : Nat} (h : anc par k v = some t) : anc par (k + 1) v = par t := by rw [anc, h]; rfl
theorem anc_gone {par : Nat → Option Nat} {k v : Nat} (h : anc par k v = none) : ∀ j, anc par (k + j) v = none
  | 0 => h
  | j + 1 => by rw [← Nat.add_assoc, anc, anc_gone h j]; rfl
def depF (par : Nat → Option Nat) (n v : Nat) : Option Nat := fst (fun k => (anc par (k + 1) v).isNone) n
def cycF (par : Nat → Option Nat) (n v : Nat) : Option Nat := (fst (fun k => anc par (k + 1) v == some v) n).map (· + 1)
-- parts
def wid1 (par : Nat → Option Nat) (k : Nat) (w : Nat → Bool) : Nat → Bool := fun j => w j || (match par k with
  | none => false
  | some u => (w k || w u) && (j == k || j == u))
def wid (par : Nat → Option Nat) : Nat → (Nat → Bool) → (Nat → Bool)
  | 0, w => w
  | k + 1, w => wid1 par k (wid par k w)
theorem wid_none {par : Nat → Option Nat} {k : Nat} {w : Nat → Bool} (h : par k = none) : wid par (k + 1) w = wid par k w := by
  funext j; simp [wid, wid1, h]
theorem wid_out {par : Nat → Option Nat} {k u : Nat} {w : Nat → Bool} (h : par k = some u) (h1 : wid par k w k = false) (h2 : wid par k w u = false) : wid par (k + 1) w = wid par k w := by
  funext j; simp [wid, wid1, h, h1, h2]
theorem wid_in {par : Nat → Option Nat} {k u : Nat} {w : Nat → Bool} (h : par k = some u) (h1 : (wid par k w k || wid par k w u) = true) (j : Nat) : wid par (k + 1) w j = (wid par k w j || (j == k || j == u)) := by
  simp only [wid, wid1, h, h1, Bool.true_and]
def itW (par : Nat → Option Nat) (n : Nat) : Nat → (Nat → Bool) → (Nat → Bool)
  | 0, w => w
  | k + 1, w => wid par n (itW par n k w)
theorem wid_cong {n : Nat} {par : Nat → Option Nat} (hp : PW n par) {w w' : Nat → Bool} (h : ∀ j, j < n → w j = w' j) : ∀ k, k ≤ n → ∀ j, j < n → wid par k w j = wid par k w' j
  | 0, _, j, hj => h j hj
  | k + 1, hk, j, hj => by
    have ih := wid_cong hp h k (by omega)
    simp only [wid, wid1]
    rw [ih j hj, ih k (by omega)]
    cases e : par k with
    | none => rfl
    | some u =>
      have := hp.lt (v := k) (by omega) e
      simp only
      rw [ih u this]
theorem itW_fix {n : Nat} {par : Nat → Option Nat} (hp : PW n par) {w : Nat → Bool} {k : Nat} (h : ∀ j, j < n → itW par n (k + 1) w j = itW par n k w j) : ∀ i, ∀ j, j < n → itW par n (k + i) w j = itW par n k w j
  | 0, j, _ => rfl
  | i + 1, j, hj => by
    rw [← Nat.add_assoc, itW, wid_cong hp (itW_fix hp h i) n (Nat.le_refl _) j hj]
    exact h j hj
def sing (v : Nat) : Nat → Bool := fun k => k == v
/-- the part of v -/
def partW (par : Nat → Option Nat) (n v : Nat) : Nat → Bool := itW par n n (sing v)
def pcF (par : Nat → Option Nat) (n : Nat) : Nat → Nat × (Nat → Bool)
  | 0 => (0, fun _ => false)
  | k + 1 => if (pcF par n k).2 k = true then pcF par n k else ((pcF par n k).1 + 1, fun j => (pcF par n k).2 j || partW par n k j)
theorem pcF_in {par : Nat → Option Nat} {n k : Nat} (h : (pcF par n k).2 k = true) : pcF par n (k + 1) = pcF par n k := by rw [pcF, if_pos h]
theorem pcF_out {par : Nat → Option Nat} {n k : Nat} (h : (pcF par n k).2 k = false) : pcF par n (k + 1) = ((pcF par n k).1 + 1, fun j => (pcF par n k).2 j || partW par n k j) := by rw [pcF, if_neg (by rw [h]; simp)]
-- colours
def frst (col : Nat → Int32) (v : Nat) : Bool := !anyB (fun j => decide (col j = col v)) v
def max32 (x y : Int32) : Int32 := if x < y then y else x
def mxF (col : Nat → Int32) : Nat → Int32
  | 0 => -7
  | k + 1 => max32 (mxF col k) (col k)
def propB (n : Nat) (par : Nat → Option Nat) (col : Nat → Int32) : Bool := decide (fb_ct (conf par col) n = 0)
def bes (par : Nat → Option Nat) (col : Nat → Int32) (n v : Nat) (c : Int32) : Bool := anyB (fun o => nb par v o && decide (col o = c)) n
def freF (par : Nat → Option Nat) (col : Nat → Int32) (n v m : Nat) : Option Nat := fst (fun c => !bes par col n v (nI c)) m
def shc (par : Nat → Option Nat) (col : Nat → Int32) (v : Nat) : Int32 := match par v with
  | some u => col u
  | none => if col v = 0 then 1 else 0
def nxR (pr : Nat) : Nat := if pr + 1 < 18 then pr + 1 else 0
def pastR (pr q : Nat) : Nat := if q ≤ pr then pr - q else pr + 18 - q
def pastF (rows : Nat → Nat → Int32) (pr rd : Nat) (r : Int32) (v : Nat) : Int32 := if r < 0 ∨ 16 < r then -2 else if nI rd < r then -7 else rows (pastR pr r.toNatClampNeg) v
/-- the next node to visit -/
def nvF (col : Nat → Int32) (w : Nat → Bool) : Nat → Option Nat
  | 0 => none
  | k + 1 => if w k = true then nvF col w k else match nvF col w k with
    | none => some k
    | some j => if col k < col j then some k else some j
theorem nvF_in {col : Nat → Int32} {w : Nat → Bool} {k : Nat} (h : w k = true) : nvF col w (k + 1) = nvF col w k := by rw [nvF, if_pos h]
theorem nvF_first {col : Nat → Int32} {w : Nat → Bool} {k : Nat} (h : w k = false) (h1 : nvF col w k = none) : nvF col w (k + 1) = some k := by rw [nvF, if_neg (by rw [h]; simp), h1]
theorem nvF_lt' {col : Nat → Int32} {w : Nat → Bool} {k j : Nat} (h : w k = false) (h1 : nvF col w k = some j) (h2 : col k < col j) : nvF col w (k + 1) = some k := by rw [nvF, if_neg (by rw [h]; simp), h1]; simp [h2]
theorem nvF_ge {col : Nat → Int32} {w : Nat → Bool} {k j : Nat} (h : w k = false) (h1 : nvF col w k = some j) (h2 : ¬ col k < col j) : nvF col w (k + 1) = nvF col w k := by
  conv => lhs; rw [nvF, if_neg (by rw [h]; simp), h1]
  simp [h2, h1]
theorem nvF_lt {col : Nat → Int32} {w : Nat → Bool} : ∀ {k j : Nat}, nvF col w k = some j → j < k ∧ w j = false
  | 0, j, h => by cases h
  | k + 1, j, h => by
    rw [nvF] at h
    by_cases hw : w k = true
    · rw [if_pos hw] at h
      have := nvF_lt h
      exact ⟨by omega, this.2⟩
    · rw [if_neg hw] at h
      have hwf : w k = false := by simpa using hw
      cases e : nvF col w k with
      | none => rw [e] at h; cases h; exact ⟨by omega, hwf⟩
      | some i =>
        rw [e] at h
        simp only at h
        have := nvF_lt e
        split at h <;> cases h
        · exact ⟨by omega, hwf⟩
        · exact ⟨by omega, this.2⟩
theorem cyc_root {par : Nat → Option Nat} {n k v t : Nat} (ht : anc par k v = some t) (hr : par t = none) (hno : ∀ j, j < k → (anc par (j + 1) v == some v) = false) : cycF par n v = none := by
  rw [cycF, fst_none (fun j _ => ?_)]
  · rfl
  · rcases Nat.lt_or_ge j k with h | h
    · exact hno j h
    · have h0 : anc par (k + 1) v = none := by rw [anc_s ht]; exact hr
      have h1 := anc_gone h0 (j - k)
      rw [show k + 1 + (j - k) = j + 1 by omega] at h1
      rw [h1]; rfl
theorem sub_nn {pr q : Nat} (hq : q ≤ 16) (h : (0 : Int32) ≤ nI pr - nI q) : q ≤ pr := by
  rcases Nat.lt_or_ge pr q with h1 | h1
  · exact absurd h (Int32.not_le.mpr (pk_sneg (by omega) h1))
  · exact h1
theorem sub_ng {pr q : Nat} (hpr : pr < 18) (h : ¬ (0 : Int32) ≤ nI pr - nI q) : pr < q := by
  rcases Nat.lt_or_ge pr q with h1 | h1
  · exact h1
  · exact absurd (by rw [pk_sub h1]; exact nI_pos' (by omega)) h
theorem sub_18 {pr q : Nat} (h : q ≤ pr + 18) : nI pr - nI q + 18 = nI (pr + 18 - q) := by
  rw [← pk_sub h, ← nI_add, show (18 : Int32) = nI 18 from by decide, Int32.sub_eq_add_neg, Int32.sub_eq_add_neg, Int32.add_assoc, Int32.add_assoc, Int32.add_comm (-nI q)]
