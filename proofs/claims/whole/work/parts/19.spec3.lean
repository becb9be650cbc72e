-- WHAT THE WRITERS DO TO THE STATE
def oU {α β : Type} (o : Option α) (f : α → β) (d : β) : β := match o with
  | some x => f x
  | none => d
theorem oU_none {α β : Type} {o : Option α} {f : α → β} {d : β} (h : o = none) : oU o f d = d := by rw [h]; rfl
theorem oU_some {α β : Type} {o : Option α} {f : α → β} {d : β} {x : α} (h : o = some x) : oU o f d = f x := by rw [h]; rfl
def okSP (n : Nat) (x y : Int32) : Option (Nat × Nat) := match vN n x, vN n y with
  | some v, some u => if v = u then none else some (v, u)
  | _, _ => none
theorem okSP_1 {n : Nat} {x y : Int32} (h : (vN n x).isSome = false) : okSP n x y = none := by unfold okSP; rw [vN_f h]
theorem okSP_2 {n : Nat} {x y : Int32} (h : (vN n y).isSome = false) : okSP n x y = none := by
  unfold okSP; rw [vN_f h]; cases vN n x <;> rfl
theorem okSP_3 {n v : Nat} (hn : n ≤ 24) (hv : v < n) : okSP n (nI v) (nI v) = none := by unfold okSP; rw [vN_nI hn hv]; simp
theorem okSP_4 {n v u : Nat} (hn : n ≤ 24) (hv : v < n) (hu : u < n) (h : ¬ v = u) : okSP n (nI v) (nI u) = some (v, u) := by unfold okSP; rw [vN_nI hn hv, vN_nI hn hu]; simp [h]
def spRes (n : Nat) (par : Nat → Option Nat) (x y : Int32) : Int32 := match vN n x, vN n y with
  | some v, some u => if v = u then -2 else pe (par v)
  | _, _ => -1
theorem spRes_1 {n : Nat} {par : Nat → Option Nat} {x y : Int32} (h : (vN n x).isSome = false) : spRes n par x y = -1 := by unfold spRes; rw [vN_f h]
theorem spRes_2 {n : Nat} {par : Nat → Option Nat} {x y : Int32} (h : (vN n y).isSome = false) : spRes n par x y = -1 := by
  unfold spRes; rw [vN_f h]; cases vN n x <;> rfl
theorem spRes_3 {n v : Nat} {par : Nat → Option Nat} (hn : n ≤ 24) (hv : v < n) : spRes n par (nI v) (nI v) = -2 := by unfold spRes; rw [vN_nI hn hv]; simp
theorem spRes_4 {n v u : Nat} {par : Nat → Option Nat} (hn : n ≤ 24) (hv : v < n) (hu : u < n) (h : ¬ v = u) : spRes n par (nI v) (nI u) = pe (par v) := by unfold spRes; rw [vN_nI hn hv, vN_nI hn hu]; simp [h]
/-- addNode goes through -/
def okAN (n : Nat) (ids : Nat → Int32) (x : Int32) : Bool := vV x && !anyB (fun j => decide (ids j = x)) n && decide (n < 24)
def anRes (n : Nat) (ids : Nat → Int32) (x : Int32) : Int32 := if vV x = false then -2 else if anyB (fun j => decide (ids j = x)) n = true then -3 else if n < 24 then nI n else -4
/-- setColour goes through -/
def okSC (n : Nat) (x y : Int32) : Option Nat := if vV y = true then vN n x else none
def setR (rows : Nat → Nat → Int32) (pr v : Nat) (c : Int32) : Nat → Nat → Int32 := va_up rows pr (va_up (rows pr) v c)
def rsR (rows : Nat → Nat → Int32) (pr : Nat) (ids : Nat → Int32) (k : Nat) : Nat → Nat → Int32 := va_up rows pr (fun j => if j < k then ids j else rows pr j)
theorem va_up_id {α : Type} (f : Nat → α) (k : Nat) : va_up f k (f k) = f := by
  funext j
  by_cases h : j = k
  · subst h; rw [va_up_self]
  · rw [va_up_ne _ _ h]
theorem va_up2 {α : Type} (f : Nat → α) (k : Nat) (x y : α) : va_up (va_up f k x) k y = va_up f k y := by
  funext j
  by_cases h : j = k
  · subst h; rw [va_up_self, va_up_self]
  · rw [va_up_ne _ _ h, va_up_ne _ _ h, va_up_ne _ _ h]
theorem rsR_0 (rows : Nat → Nat → Int32) (pr : Nat) (ids : Nat → Int32) : rsR rows pr ids 0 = rows := by
  unfold rsR
  rw [show (fun j => if j < 0 then ids j else rows pr j) = rows pr from funext fun j => if_neg (Nat.not_lt_zero _), va_up_id]
theorem rsR_at (rows : Nat → Nat → Int32) (pr : Nat) (ids : Nat → Int32) (k : Nat) : rsR rows pr ids k pr k = rows pr k := by
  unfold rsR; rw [va_up_self]; simp
theorem rsR_s (rows : Nat → Nat → Int32) (pr : Nat) (ids : Nat → Int32) (k : Nat) : va_up (rsR rows pr ids k) pr (va_up (rsR rows pr ids k pr) k (ids k)) = rsR rows pr ids (k + 1) := by
  unfold rsR
  rw [va_up2, va_up_self]
  congr 1
  funext j
  by_cases h : j = k
  · subst h; rw [va_up_self, if_pos (by omega)]
  · rw [va_up_ne _ _ h]
    by_cases h2 : j < k
    · rw [if_pos h2, if_pos (by omega)]
    · rw [if_neg h2, if_neg (by omega)]
theorem rsR_e {rows : Nat → Nat → Int32} {pr : Nat} {ids : Nat → Int32} {k : Nat} (h : rows pr k = ids k) : rsR rows pr ids (k + 1) = rsR rows pr ids k := by
  unfold rsR
  congr 1
  funext j
  by_cases h1 : j = k
  · subst h1; rw [if_pos (by omega), if_neg (by omega), h]
  · by_cases h2 : j < k
    · rw [if_pos h2, if_pos (by omega)]
    · rw [if_neg h2, if_neg (by omega)]
-- rounds: the row behind the present one is filled, then it is the present
def fR (rows : Nat → Nat → Int32) (pr : Nat) (f : Nat → Int32) (k : Nat) : Nat → Nat → Int32 := va_up rows (nxR pr) (fun j => if j < k then f j else rows (nxR pr) j)
theorem nxR_lt {pr : Nat} (h : pr < 18) : nxR pr < 18 := by unfold nxR; split <;> omega
theorem nxR_ne {pr : Nat} (h : pr < 18) : pr ≠ nxR pr := by unfold nxR; split <;> omega
theorem fR_pr {rows : Nat → Nat → Int32} {pr : Nat} (h : pr < 18) (f : Nat → Int32) (k : Nat) : fR rows pr f k pr = rows pr := by unfold fR; rw [va_up_ne _ _ (nxR_ne h)]
theorem fR_nx (rows : Nat → Nat → Int32) (pr : Nat) (f : Nat → Int32) (k : Nat) : fR rows pr f k (nxR pr) = fun j => if j < k then f j else rows (nxR pr) j := by unfold fR; rw [va_up_self]
theorem fR_0 (rows : Nat → Nat → Int32) (pr : Nat) (f : Nat → Int32) : fR rows pr f 0 = rows := by
  unfold fR
  rw [show (fun j => if j < 0 then f j else rows (nxR pr) j) = rows (nxR pr) from funext fun j => if_neg (Nat.not_lt_zero _), va_up_id]
theorem fR_s (rows : Nat → Nat → Int32) (pr : Nat) (f : Nat → Int32) (k : Nat) : va_up (fR rows pr f k) (nxR pr) (va_up (fR rows pr f k (nxR pr)) k (f k)) = fR rows pr f (k + 1) := by
  unfold fR
  rw [va_up2, va_up_self]
  congr 1
  funext j
  by_cases h : j = k
  · subst h; rw [va_up_self, if_pos (by omega)]
  · rw [va_up_ne _ _ h]
    by_cases h2 : j < k
    · rw [if_pos h2, if_pos (by omega)]
    · rw [if_neg h2, if_neg (by omega)]
/-- a place is written twice -/
theorem fR_w (rows : Nat → Nat → Int32) (pr : Nat) (f : Nat → Int32) (k : Nat) (x y : Int32) : va_up (va_up (fR rows pr f k) (nxR pr) (va_up (fR rows pr f k (nxR pr)) k x)) (nxR pr) (va_up (va_up (fR rows pr f k) (nxR pr) (va_up (fR rows pr f k (nxR pr)) k x) (nxR pr)) k y) = va_up (fR rows pr f k) (nxR pr) (va_up (fR rows pr f k (nxR pr)) k y) := by
  rw [va_up2, va_up_self, va_up2]
abbrev RS : Type := (Nat → Nat → Int32) × Nat × Nat
def redC (par : Nat → Option Nat) (col : Nat → Int32) (v : Nat) : Int32 := 2 * rbit par col v + ((col v >>> (rbit par col v &&& 31)) &&& 1)
def elK (par : Nat → Option Nat) (n : Nat) (col : Nat → Int32) (c : Int32) : Option Nat := fst (fun v => decide (col v = c) && (freF par col n v 3).isNone) n
def elC (par : Nat → Option Nat) (n : Nat) (col : Nat → Int32) (c : Int32) (v : Nat) : Int32 := if col v = c then pe (freF par col n v 3) else col v
def redS (par : Nat → Option Nat) (n : Nat) (S : RS) : RS := (fR S.1 S.2.1 (redC par (S.1 S.2.1)) n, nxR S.2.1, S.2.2 + 1)
def shS (par : Nat → Option Nat) (n : Nat) (S : RS) : RS := (fR S.1 S.2.1 (shc par (S.1 S.2.1)) n, nxR S.2.1, S.2.2 + 1)
def elS (par : Nat → Option Nat) (n : Nat) (c : Int32) (S : RS) : RS := match elK par n (S.1 S.2.1) c with
  | none => (fR S.1 S.2.1 (elC par n (S.1 S.2.1) c) n, nxR S.2.1, S.2.2 + 1)
  | some k => (fR S.1 S.2.1 (elC par n (S.1 S.2.1) c) (k + 1), S.2.1, S.2.2)
def elRes (par : Nat → Option Nat) (n : Nat) (c : Int32) (col : Nat → Int32) : Int32 := match elK par n col c with
  | none => nI (fb_ct (fun v => decide (col v = c)) n)
  | some _ => -6
def shCnt (par : Nat → Option Nat) (col : Nat → Int32) (n : Nat) : Nat := fb_ct (fun j => !decide (shc par col j = col j)) n
theorem elS_n {par : Nat → Option Nat} {n : Nat} {c : Int32} {rows : Nat → Nat → Int32} {pr rd : Nat} (h : elK par n (rows pr) c = none) : elS par n c (rows, pr, rd) = (fR rows pr (elC par n (rows pr) c) n, nxR pr, rd + 1) := by unfold elS; simp only; rw [h]
theorem elS_s {par : Nat → Option Nat} {n : Nat} {c : Int32} {rows : Nat → Nat → Int32} {pr rd k : Nat} (h : elK par n (rows pr) c = some k) : elS par n c (rows, pr, rd) = (fR rows pr (elC par n (rows pr) c) (k + 1), pr, rd) := by unfold elS; simp only; rw [h]
/-- reductions as long as the greatest colour is above 5, at most f -/
def redL (par : Nat → Option Nat) (n : Nat) : Nat → RS → RS
  | 0, S => S
  | f + 1, S => if 5 < mxF (S.1 S.2.1) n then redL par n f (redS par n S) else S
theorem redL_t {par : Nat → Option Nat} {n f : Nat} {S : RS} (h : 5 < mxF (S.1 S.2.1) n) : redL par n (f + 1) S = redL par n f (redS par n S) := by rw [redL, if_pos h]
theorem redL_f {par : Nat → Option Nat} {n f : Nat} {S : RS} (h : ¬ 5 < mxF (S.1 S.2.1) n) : redL par n f S = S := by
  cases f with
  | zero => rfl
  | succ f => rw [redL, if_neg h]
def tailS (par : Nat → Option Nat) (n : Nat) : Nat → RS → RS
  | 0, S => S
  | j + 1, S => elS par n (nI (5 - j)) (shS par n (tailS par n j S))
def rt3S (par : Nat → Option Nat) (n : Nat) (S : RS) : RS := tailS par n 3 (redL par n 16 S)
theorem redS_ok {par : Nat → Option Nat} {n : Nat} {S : RS} (h : S.2.1 < 18) : (redS par n S).2.1 < 18 := nxR_lt h
theorem shS_ok {par : Nat → Option Nat} {n : Nat} {S : RS} (h : S.2.1 < 18) : (shS par n S).2.1 < 18 := nxR_lt h
theorem elS_ok {par : Nat → Option Nat} {n : Nat} {c : Int32} {S : RS} (h : S.2.1 < 18) : (elS par n c S).2.1 < 18 := by
  unfold elS; split
  · exact nxR_lt h
  · exact h
theorem elS_rd {par : Nat → Option Nat} {n : Nat} {c : Int32} {S : RS} : S.2.2 ≤ (elS par n c S).2.2 := by
  unfold elS; split
  · exact Nat.le_succ _
  · exact Nat.le_refl _
theorem tailS_ok {par : Nat → Option Nat} {n : Nat} {S : RS} (h : S.2.1 < 18) : ∀ j, (tailS par n j S).2.1 < 18 ∧ S.2.2 ≤ (tailS par n j S).2.2
  | 0 => ⟨h, Nat.le_refl _⟩
  | j + 1 => by
    have ih := tailS_ok (par := par) (n := n) h j
    refine ⟨elS_ok (shS_ok ih.1), Nat.le_trans ih.2 (Nat.le_trans ?_ elS_rd)⟩
    exact Nat.le_succ _
theorem redL_ok {par : Nat → Option Nat} {n : Nat} : ∀ (f : Nat) (S : RS), S.2.1 < 18 → (redL par n f S).2.1 < 18 ∧ S.2.2 ≤ (redL par n f S).2.2
  | 0, S, h => ⟨h, Nat.le_refl _⟩
  | f + 1, S, h => by
    rw [redL]
    split
    · have ih := redL_ok (par := par) (n := n) f (redS par n S) (redS_ok h)
      exact ⟨ih.1, Nat.le_trans (Nat.le_succ _) ih.2⟩
    · exact ⟨h, Nat.le_refl _⟩
theorem m1_5 {j : Nat} (h : j < 3) : nI (5 - j) + Int32.ofInt (-1) = nI (5 - (j + 1)) := by
  rw [show 5 - j = (5 - (j + 1)) + 1 by omega]
  exact pk_m1 _
