-- what the remaining readers answer
def rbit (par : Nat → Option Nat) (col : Nat → Int32) (v : Nat) : Int32 := match par v with
  | none => 0
  | some u => ntzJ (col v ^^^ col u)
def endB (par : Nat → Option Nat) (n : Nat) (w : Nat → Bool) (v : Nat) : Bool := w v && decide (fb_ct (fun o => nb par v o && w o) n ≤ 1)
def endF (par : Nat → Option Nat) (n : Nat) (w : Nat → Bool) : Option Nat := fst (endB par n w) n
/-- the set that is built: the set, the visited -/
def isF (par : Nat → Option Nat) (col : Nat → Int32) (n : Nat) : Nat → (Nat → Bool) × (Nat → Bool)
  | 0 => (fun _ => false, fun _ => false)
  | k + 1 => match nvF col (isF par col n k).2 n with
    | none => isF par col n k
    | some v => (if anyB (fun o => nb par v o && (isF par col n k).1 o) n = true then (isF par col n k).1 else fun j => (isF par col n k).1 j || j == v, fun j => (isF par col n k).2 j || j == v)
theorem isF_none {par : Nat → Option Nat} {col : Nat → Int32} {n k : Nat} (h : nvF col (isF par col n k).2 n = none) : ∀ i, isF par col n (k + i) = isF par col n k
  | 0 => rfl
  | i + 1 => by
    rw [← Nat.add_assoc, isF, isF_none h i, h]
theorem isF_2 {par : Nat → Option Nat} {col : Nat → Int32} {n k v : Nat} (h : nvF col (isF par col n k).2 n = some v) : (isF par col n (k + 1)).2 = fun j => (isF par col n k).2 j || j == v := by rw [isF, h]
theorem isF_1f {par : Nat → Option Nat} {col : Nat → Int32} {n k v : Nat} (h : nvF col (isF par col n k).2 n = some v) (h2 : anyB (fun o => nb par v o && (isF par col n k).1 o) n = true) : (isF par col n (k + 1)).1 = (isF par col n k).1 := by rw [isF, h]; simp only; rw [if_pos h2]
theorem isF_1t {par : Nat → Option Nat} {col : Nat → Int32} {n k v : Nat} (h : nvF col (isF par col n k).2 n = some v) (h2 : anyB (fun o => nb par v o && (isF par col n k).1 o) n = false) : (isF par col n (k + 1)).1 = fun j => (isF par col n k).1 j || j == v := by rw [isF, h]; simp only; rw [if_neg (by rw [h2]; simp)]
theorem mk_and0 {n : Nat} (hn : n ≤ 24) (w w' : Nat → Bool) : mk n w &&& mk n w' = 0 ↔ anyB (fun o => w o && w' o) n = false := by
  rw [mk_and, mk_is0 hn]
  constructor
  · exact fun h => anyB_no h
  · intro h k hk
    cases e : (w k && w' k) with
    | false => rfl
    | true => rw [anyB_yes (p := fun o => w o && w' o) hk e] at h; cases h
/-- the greatest independent set by ends -/
def giF (par : Nat → Option Nat) (n : Nat) : Nat → (Nat → Bool) → Nat → Nat
  | 0, _, z => z
  | f + 1, w, z => if anyB w n = false then z else match endF par n w with
    | none => z + fb_ct w n / 2
    | some e => giF par n f (fun j => w j && !(nb par e j || j == e)) (z + 1)
theorem giF_0 {par : Nat → Option Nat} {n f z : Nat} {w : Nat → Bool} (h : anyB w n = false) : giF par n f w z = z := by
  cases f with
  | zero => rfl
  | succ f => rw [giF, if_pos h]
theorem giF_n {par : Nat → Option Nat} {n f z : Nat} {w : Nat → Bool} (h : anyB w n = true) (h2 : endF par n w = none) : giF par n (f + 1) w z = z + fb_ct w n / 2 := by
  rw [giF, if_neg (by rw [h]; simp), h2]
theorem giF_s {par : Nat → Option Nat} {n f z e : Nat} {w : Nat → Bool} (h : anyB w n = true) (h2 : endF par n w = some e) : giF par n (f + 1) w z = giF par n f (fun j => w j && !(nb par e j || j == e)) (z + 1) := by
  rw [giF, if_neg (by rw [h]; simp), h2]
theorem mk_any {n : Nat} (hn : n ≤ 24) (w : Nat → Bool) : mk n w = 0 ↔ anyB w n = false := by
  rw [mk_is0 hn]
  constructor
  · exact fun h => anyB_no h
  · intro h k hk
    cases e : w k with
    | false => rfl
    | true => rw [anyB_yes hk e] at h; cases h
theorem endF_lt {par : Nat → Option Nat} {n e : Nat} {w : Nat → Bool} (h : endF par n w = some e) : e < n ∧ endB par n w e = true := by
  rcases fst_spec (p := endB par n w) (n := n) with ⟨h1, -⟩ | ⟨k, h1, h2, h3, -⟩
  · rw [endF, h1] at h; cases h
  · rw [endF, h1] at h; cases h; exact ⟨h2, h3⟩
