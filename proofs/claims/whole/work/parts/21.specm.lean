-- THE REFERENCE: its state as functions
def wiB (x lo hi : Int32) : Bool := !decide (x < lo) && !decide (hi < x)
theorem wi_vN {n : Nat} (hn : n ≤ 24) (x : Int32) : wiB x 0 (nI n - 1) = (vN n x).isSome := by
  have e : (nI n - 1).toInt = (n : Int) - 1 := pk_sub_toInt (b := 1) (by omega) (by omega)
  have en : (nI n).toInt = n := nI_toInt (by omega)
  have h : nI n - 1 < x ↔ nI n ≤ x := by
    rw [Int32.lt_iff_toInt_lt, Int32.le_iff_toInt_le, e, en]
    omega
  unfold wiB vN
  by_cases h1 : x < 0
  · simp [h1]
  · by_cases h2 : nI n ≤ x
    · simp [h1, h2, h.mpr h2]
    · have h3 : ¬ nI n - 1 < x := fun z => h2 (h.mp z)
      simp [h1, h2, h3]
theorem wi_vV (x : Int32) : wiB x 0 65535 = vV x := rfl
def mcol (cols : Nat → Int32) (rd : Nat) : Nat → Int32 := fun v => if v < 24 then cols (24 * (rd % 17) + v) else 0
def mset (cols : Nat → Int32) (rd v : Nat) (c : Int32) : Nat → Int32 := va_up cols (24 * (rd % 17) + v) c
theorem mcol_lt {cols : Nat → Int32} {rd v : Nat} (h : v < 24) : mcol cols rd v = cols (24 * (rd % 17) + v) := if_pos h
def scF (cols : Nat → Int32) (rd k : Nat) : Nat → Int32 := fun j => if j < k then mcol cols rd j else cols j
theorem scF_0 (cols : Nat → Int32) (rd : Nat) : scF cols rd 0 = cols := funext fun j => if_neg (Nat.not_lt_zero _)
theorem scF_at {cols : Nat → Int32} {rd k : Nat} : mcol (scF cols rd k) rd k = mcol cols rd k := by
  unfold mcol scF
  by_cases h : k < 24
  · rw [if_pos h, if_pos h, if_neg (by omega)]
  · rw [if_neg h, if_neg h]
theorem scF_s (cols : Nat → Int32) (rd k : Nat) : va_up (scF cols rd k) k (mcol cols rd k) = scF cols rd (k + 1) := by
  funext j
  unfold scF
  by_cases h : j = k
  · subst h; rw [va_up_self, if_pos (by omega)]
  · rw [va_up_ne _ _ h]
    by_cases h2 : j < k
    · rw [if_pos h2, if_pos (by omega)]
    · rw [if_neg h2, if_neg (by omega)]
theorem scF_col (cols : Nat → Int32) (rd : Nat) : mcol (scF cols rd 24) 0 = mcol cols rd := by
  funext v
  unfold mcol scF
  by_cases h : v < 24
  · rw [if_pos h, if_pos (by omega), show 24 * (0 % 17) + v = v by omega, if_pos h]
    exact mcol_lt h
  · rw [if_neg h, if_neg h]
theorem mset_s (f g : Nat → Int32) (rd k : Nat) : mset (fb_put f g (24 * (rd % 17)) k) rd k (g k) = fb_put f g (24 * (rd % 17)) (k + 1) := fb_put_succ f g (24 * (rd % 17)) k
theorem put_at {f g : Nat → Int32} {rd k : Nat} (hk : k < 24) : mcol (fb_put f g (24 * (rd % 17)) k) rd k = mcol f rd k := by
  rw [mcol_lt hk, mcol_lt hk, fb_put_out (by omega)]
def pF (nx f : Nat → Int32) (k : Nat) : Nat → Int32 := fun j => if j < k then f j else nx j
theorem pF_0 (nx f : Nat → Int32) : pF nx f 0 = nx := funext fun j => if_neg (Nat.not_lt_zero _)
theorem pF_s (nx f : Nat → Int32) (k : Nat) : va_up (pF nx f k) k (f k) = pF nx f (k + 1) := by
  funext j
  unfold pF
  by_cases h : j = k
  · subst h; rw [va_up_self, if_pos (by omega)]
  · rw [va_up_ne _ _ h]
    by_cases h2 : j < k
    · rw [if_pos h2, if_pos (by omega)]
    · rw [if_neg h2, if_neg (by omega)]
theorem pF_at (nx f : Nat → Int32) (k : Nat) : pF nx f (k + 1) k = f k := if_pos (by omega)
abbrev MT : Type := (Nat → Int32) × (Nat → Int32) × Nat
def mEnd (n : Nat) (f : Nat → Int32) (S : MT) : MT := (fb_put S.1 (pF S.2.1 f n) (24 * ((S.2.2 + 1) % 17)) n, pF S.2.1 f n, S.2.2 + 1)
def mredS (par : Nat → Option Nat) (n : Nat) (S : MT) : MT := mEnd n (redC par (mcol S.1 S.2.2)) S
def mshS (par : Nat → Option Nat) (n : Nat) (S : MT) : MT := mEnd n (shc par (mcol S.1 S.2.2)) S
def melS (par : Nat → Option Nat) (n : Nat) (c : Int32) (S : MT) : MT := match elK par n (mcol S.1 S.2.2) c with
  | none => mEnd n (elC par n (mcol S.1 S.2.2) c) S
  | some k => (S.1, pF S.2.1 (elC par n (mcol S.1 S.2.2) c) (k + 1), S.2.2)
theorem melS_n {par : Nat → Option Nat} {n : Nat} {c : Int32} {cols nx : Nat → Int32} {rd : Nat} (h : elK par n (mcol cols rd) c = none) : melS par n c (cols, nx, rd) = mEnd n (elC par n (mcol cols rd) c) (cols, nx, rd) := by unfold melS; simp only; rw [h]
theorem melS_s {par : Nat → Option Nat} {n : Nat} {c : Int32} {cols nx : Nat → Int32} {rd k : Nat} (h : elK par n (mcol cols rd) c = some k) : melS par n c (cols, nx, rd) = (cols, pF nx (elC par n (mcol cols rd) c) (k + 1), rd) := by unfold melS; simp only; rw [h]
def mredL (par : Nat → Option Nat) (n : Nat) : Nat → MT → MT
  | 0, S => S
  | f + 1, S => if 5 < mxF (mcol S.1 S.2.2) n then mredL par n f (mredS par n S) else S
theorem mredL_t {par : Nat → Option Nat} {n f : Nat} {S : MT} (h : 5 < mxF (mcol S.1 S.2.2) n) : mredL par n (f + 1) S = mredL par n f (mredS par n S) := by rw [mredL, if_pos h]
theorem mredL_f {par : Nat → Option Nat} {n f : Nat} {S : MT} (h : ¬ 5 < mxF (mcol S.1 S.2.2) n) : mredL par n f S = S := by
  cases f with
  | zero => rfl
  | succ f => rw [mredL, if_neg h]
def mtailS (par : Nat → Option Nat) (n : Nat) : Nat → MT → MT
  | 0, S => S
  | j + 1, S => melS par n (nI (5 - j)) (mshS par n (mtailS par n j S))
def mrt3S (par : Nat → Option Nat) (n : Nat) (S : MT) : MT := mtailS par n 3 (mredL par n 16 S)
def mredI (par : Nat → Option Nat) (n : Nat) (S : MT) : Nat → MT
  | 0 => S
  | k + 1 => mredS par n (mredI par n S k)
theorem melS_rd {par : Nat → Option Nat} {n : Nat} {c : Int32} {S : MT} : S.2.2 ≤ (melS par n c S).2.2 ∧ (melS par n c S).2.2 ≤ S.2.2 + 1 := by
  unfold melS; split
  · exact ⟨Nat.le_succ _, Nat.le_refl _⟩
  · exact ⟨Nat.le_refl _, Nat.le_succ _⟩
theorem mtailS_rd {par : Nat → Option Nat} {n : Nat} {S : MT} : ∀ j, S.2.2 ≤ (mtailS par n j S).2.2 ∧ (mtailS par n j S).2.2 ≤ S.2.2 + 2 * j
  | 0 => ⟨Nat.le_refl _, Nat.le_refl _⟩
  | j + 1 => by
    have ih := mtailS_rd (par := par) (n := n) (S := S) j
    have h := melS_rd (par := par) (n := n) (c := nI (5 - j)) (S := mshS par n (mtailS par n j S))
    have e : (mshS par n (mtailS par n j S)).2.2 = (mtailS par n j S).2.2 + 1 := rfl
    rw [e] at h
    refine ⟨Nat.le_trans ih.1 (Nat.le_trans (Nat.le_succ _) h.1), ?_⟩
    show (melS par n (nI (5 - j)) (mshS par n (mtailS par n j S))).2.2 ≤ _
    omega
theorem mredL_rd {par : Nat → Option Nat} {n : Nat} : ∀ (f : Nat) (S : MT), S.2.2 ≤ (mredL par n f S).2.2 ∧ (mredL par n f S).2.2 ≤ S.2.2 + f
  | 0, S => ⟨Nat.le_refl _, Nat.le_refl _⟩
  | f + 1, S => by
    rw [mredL]
    split
    · have ih := mredL_rd (par := par) (n := n) f (mredS par n S)
      have e : (mredS par n S).2.2 = S.2.2 + 1 := rfl
      rw [e] at ih
      omega
    · omega
theorem mredI_rd {par : Nat → Option Nat} {n : Nat} {S : MT} : ∀ k, (mredI par n S k).2.2 = S.2.2 + k
  | 0 => rfl
  | k + 1 => by show (mredI par n S k).2.2 + 1 = _; rw [mredI_rd k]; rfl
/-- one bit of an int -/
theorem sh_bit {k : Nat} (hk : k < 32) (x : Int32) : (x >>> (nI k &&& 31)) &&& 1 = b2i (bt x k) := by
  apply b_ext
  intro i hi
  rw [b_and, bt_1 i hi, b_sshr k hk _ hi]
  by_cases h0 : i = 0
  · subst h0
    rw [if_pos (by omega), Nat.add_zero]
    cases h : bt x k <;> simp [h, b2i, b_0, bt_1]
  · cases h : bt x k <;> simp [h0, b2i, b_0, bt_1 i hi]
theorem prop_conf {n : Nat} {par : Nat → Option Nat} {col : Nat → Int32} (h : propB n par col = true) {v : Nat} (hv : v < n) : conf par col v = false := by
  unfold propB at h
  have h0 := of_decide_eq_true h
  exact fb_ct_zero.mp h0 v hv
theorem xor_ne {x y : Int32} (h : ¬ x = y) : x ^^^ y ≠ 0 := by
  intro e
  apply h
  apply b_ext
  intro i hi
  have := congrArg (fun z => bt z i) e
  simp only [b_xor, b_0] at this
  cases h1 : bt x i <;> cases h2 : bt y i <;> simp_all
theorem rbit_some {n : Nat} {par : Nat → Option Nat} {col : Nat → Int32} {v u : Nat} (hu : par v = some u) (hc : conf par col v = false) : rbit par col v = nI (lowb (col v ^^^ col u)) ∧ lowb (col v ^^^ col u) < 32 ∧ bt (col v ^^^ col u) (lowb (col v ^^^ col u)) = true ∧ ∀ j, j < lowb (col v ^^^ col u) → bt (col v ^^^ col u) j = false := by
  have hne : ¬ col v = col u := by simpa [conf, hu] using hc
  have h := ntz_low (xor_ne hne)
  exact ⟨by rw [rbit, hu]; exact h.1, h.2⟩
/-- of n colours one is free: fewer neighbours than nodes -/
theorem free_ex {n : Nat} (hn : n ≤ 24) {par : Nat → Option Nat} (hp : PW n par) (col : Nat → Int32) {v : Nat} (hv : v < n) : ∃ q, freF par col n v n = some q ∧ q < n := by
  rcases fst_spec (p := fun c => !bes par col n v (nI c)) (n := n) with ⟨h1, h2⟩ | ⟨k, h1, h2, -, -⟩
  · exfalso
    have h3 : ∀ c, c < n → ∃ o, o < n ∧ o ≠ v ∧ col o = nI c := by
      intro c hc
      have := h2 c hc
      have hb : bes par col n v (nI c) = true := by simpa using this
      obtain ⟨o, ho, hb⟩ := anyB_iff.mp hb
      simp only [Bool.and_eq_true, decide_eq_true_eq] at hb
      refine ⟨o, ho, fun e => ?_, hb.2⟩
      subst e
      rw [nb_irr hp hv] at hb
      cases hb.1
    have h4 : ∃ f : Nat → Nat, ∀ c, c < n → f c < n ∧ f c ≠ v ∧ col (f c) = nI c := by
      refine ⟨fun c => if hc : c < n then Classical.choose (h3 c hc) else 0, fun c hc => ?_⟩
      have e : (if hc : c < n then Classical.choose (h3 c hc) else 0) = Classical.choose (h3 c hc) := dif_pos hc
      simp only [e]
      exact Classical.choose_spec (h3 c hc)
    obtain ⟨f, hf⟩ := h4
    have inj : ∀ i j, i < j → j < n → f i ≠ f j := by
      intro i j hij hj e
      have e1 := (hf i (by omega)).2.2
      have e2 := (hf j hj).2.2
      rw [e, e2] at e1
      have := (nI_eq (by omega) (by omega)).mp e1
      omega
    obtain ⟨i, hi, e⟩ := fb_onto (fun i hi => (hf i hi).1) inj hv
    exact (hf i hi).2.1 e
  · exact ⟨k, h1, h2⟩
