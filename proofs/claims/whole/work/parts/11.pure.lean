-- SETS OF NODES AS BITS
def msk (w : Nat → Bool) : Nat → Nat
  | 0 => 0
  | k + 1 => msk w k + (if w k = true then 2 ^ k else 0)
theorem msk_lt (w : Nat → Bool) : ∀ n, msk w n < 2 ^ n
  | 0 => by simp [msk]
  | k + 1 => by
    have h := msk_lt w k
    rw [msk, Nat.pow_succ]
    split <;> omega
theorem msk_bit (w : Nat → Bool) : ∀ (n i : Nat), (msk w n).testBit i = (decide (i < n) && w i)
  | 0, i => by simp [msk]
  | k + 1, i => by
    have h := msk_lt w k
    have ih := msk_bit w k i
    rw [msk]
    by_cases hw : w k = true
    · rw [if_pos hw, Nat.add_comm, ← Nat.mul_one (2 ^ k), Nat.testBit_two_pow_mul_add _ h]
      by_cases hi : i < k
      · rw [if_pos hi, ih]; simp [hi, Nat.lt_succ_of_lt hi]
      · rw [if_neg hi]
        by_cases he : i = k
        · subst he; simp [hw]
        · have h1 : ¬ i < k + 1 := by omega
          have h2 : i - k ≠ 0 := by omega
          rw [Nat.testBit_lt_two_pow (Nat.one_lt_two_pow h2)]; simp [h1]
    · rw [if_neg hw, Nat.add_zero, ih]
      by_cases hi : i < k
      · simp [hi, Nat.lt_succ_of_lt hi]
      · by_cases he : i = k
        · subst he; simp [hw]
        · have h1 : ¬ i < k + 1 := by omega
          simp [h1, hi]
/-- the set w of nodes below n, as an int -/
def mk (n : Nat) (w : Nat → Bool) : Int32 := nI (msk w n)
theorem bt_nI (m i : Nat) (hi : i < 32) : bt (nI m) i = m.testBit i := by
  show (BitVec.ofNat 32 m).getLsbD i = _
  rw [BitVec.getLsbD_ofNat]; simp [hi]
theorem mk_bit (n : Nat) (w : Nat → Bool) {i : Nat} (hi : i < 32) : bt (mk n w) i = (decide (i < n) && w i) := by
  unfold mk; rw [bt_nI _ _ hi, msk_bit]
theorem mk_cong {n : Nat} {w w' : Nat → Bool} (h : ∀ k, k < n → w k = w' k) : mk n w = mk n w' := by
  apply b_ext
  intro i hi
  rw [mk_bit n w hi, mk_bit n w' hi]
  by_cases hn : i < n
  · rw [h i hn]
  · simp [hn]
theorem mk_inj {n : Nat} (hn : n ≤ 24) {w w' : Nat → Bool} (h : mk n w = mk n w') : ∀ k, k < n → w k = w' k := by
  intro k hk
  have h1 := mk_bit n w (i := k) (by omega)
  have h2 := mk_bit n w' (i := k) (by omega)
  rw [h, h2] at h1
  simpa [hk] using h1.symm
theorem mk_0 (n : Nat) : (0 : Int32) = mk n (fun _ => false) := by
  apply b_ext
  intro i hi
  rw [b_0, mk_bit _ _ hi]; simp
theorem bt_1 : ∀ i, i < 32 → bt 1 i = decide (i = 0) := by decide +kernel
theorem bt_bit {o i : Nat} (ho : o < 32) (hi : i < 32) : bt ((1 : Int32) <<< (nI o &&& 31)) i = decide (i = o) := by
  rw [b_shl o ho 1 hi, bt_1 _ (by omega)]
  by_cases h : o ≤ i
  · simp only [h, decide_true, Bool.true_and]
    by_cases he : i = o
    · subst he; simp
    · have : ¬ i - o = 0 := by omega
      simp [he, this]
  · have : ¬ i = o := by omega
    simp [h, this]
theorem mk_one {n o : Nat} (hn : n ≤ 24) (ho : o < n) : (1 : Int32) <<< (nI o &&& 31) = mk n (fun k => k == o) := by
  apply b_ext
  intro i hi
  rw [bt_bit (by omega) hi, mk_bit _ _ hi]
  by_cases h : i = o
  · subst h; simp [ho]
  · simp [h]
theorem mk_or (n : Nat) (w w' : Nat → Bool) : mk n w ||| mk n w' = mk n (fun k => w k || w' k) := by
  apply b_ext
  intro i hi
  rw [b_or, mk_bit _ _ hi, mk_bit _ _ hi, mk_bit _ _ hi]
  by_cases h : i < n <;> simp [h]
theorem mk_and (n : Nat) (w w' : Nat → Bool) : mk n w &&& mk n w' = mk n (fun k => w k && w' k) := by
  apply b_ext
  intro i hi
  rw [b_and, mk_bit _ _ hi, mk_bit _ _ hi, mk_bit _ _ hi]
  by_cases h : i < n <;> simp [h]
theorem mk_sub (n : Nat) (w w' : Nat → Bool) : mk n w &&& (mk n w' ^^^ (-1)) = mk n (fun k => w k && !w' k) := by
  apply b_ext
  intro i hi
  rw [b_and, b_xor, b_m1 i hi, mk_bit _ _ hi, mk_bit _ _ hi, mk_bit _ _ hi]
  by_cases h : i < n <;> simp [h]
theorem mk_ins {n o : Nat} (hn : n ≤ 24) (ho : o < n) (w : Nat → Bool) : mk n w ||| (1 : Int32) <<< (nI o &&& 31) = mk n (fun k => w k || k == o) := by
  rw [mk_one hn ho, mk_or]
theorem mk_is0 {n : Nat} (hn : n ≤ 24) (w : Nat → Bool) : mk n w = 0 ↔ ∀ k, k < n → w k = false := by
  rw [mk_0 n]
  exact ⟨fun h => mk_inj hn h, fun h => mk_cong h⟩
theorem mk_in {n o : Nat} (hn : n ≤ 24) (ho : o < n) (w : Nat → Bool) : (mk n w >>> (nI o &&& 31)) &&& 1 = b2i (w o) := by
  apply b_ext
  intro i hi
  rw [b_and, bt_1 i hi, b_sshr o (by omega) _ hi]
  by_cases h0 : i = 0
  · subst h0
    rw [if_pos (by omega), Nat.add_zero, mk_bit _ _ (by omega)]
    cases h : w o <;> simp [ho, h, b2i, b_0, bt_1]
  · cases h : w o <;> simp [h0, b2i, b_0, bt_1 i hi]
-- THE GRAPH
/-- parents are nodes, and none is its own -/
def PW (n : Nat) (par : Nat → Option Nat) : Prop := ∀ v, v < n → ∀ u, par v = some u → u < n ∧ u ≠ v
theorem PW.lt {n : Nat} {par : Nat → Option Nat} (h : PW n par) {v u : Nat} (hv : v < n) (hu : par v = some u) : u < n := (h v hv u hu).1
theorem PW.big {n : Nat} {par : Nat → Option Nat} (h : PW n par) (hn : n ≤ 24) {v : Nat} (hv : v < n) : ∀ u, par v = some u → u < 2 ^ 31 := fun u hu => by have := (h v hv u hu).1; omega
def nb (par : Nat → Option Nat) (u v : Nat) : Bool := par u == some v || par v == some u
theorem nb_symm (par : Nat → Option Nat) (u v : Nat) : nb par u v = nb par v u := by unfold nb; rw [Bool.or_comm]
theorem nb_irr {n : Nat} {par : Nat → Option Nat} (h : PW n par) {v : Nat} (hv : v < n) : nb par v v = false := by
  cases e : par v with
  | none => simp [nb, e]
  | some u =>
    have := (h v hv u e).2
    simp [nb, e, this]
def conf (par : Nat → Option Nat) (col : Nat → Int32) (v : Nat) : Bool := match par v with
  | none => false
  | some u => col v == col u
/-- some k below n -/
def anyB (p : Nat → Bool) : Nat → Bool
  | 0 => false
  | k + 1 => anyB p k || p k
theorem anyB_iff {p : Nat → Bool} : ∀ {n : Nat}, anyB p n = true ↔ ∃ k, k < n ∧ p k = true
  | 0 => by simp [anyB]
  | n + 1 => by
    rw [anyB, Bool.or_eq_true, anyB_iff]
    constructor
    · rintro (⟨k, h1, h2⟩ | h)
      · exact ⟨k, by omega, h2⟩
      · exact ⟨n, by omega, h⟩
    · rintro ⟨k, h1, h2⟩
      by_cases hk : k = n
      · subst hk; exact Or.inr h2
      · exact Or.inl ⟨k, by omega, h2⟩
theorem anyB_no {p : Nat → Bool} {n : Nat} (h : ∀ k, k < n → p k = false) : anyB p n = false := by
  cases e : anyB p n with
  | false => rfl
  | true =>
    obtain ⟨k, h1, h2⟩ := anyB_iff.mp e
    rw [h k h1] at h2; cases h2
theorem anyB_yes {p : Nat → Bool} {n k : Nat} (h1 : k < n) (h2 : p k = true) : anyB p n = true := anyB_iff.mpr ⟨k, h1, h2⟩
/-- the first k below n, or NONE -/
def fst (p : Nat → Bool) (n : Nat) : Option Nat := (List.range n).find? p
theorem fst_some {p : Nat → Bool} {n k : Nat} (hk : k < n) (hp : p k = true) (h : ∀ j, j < k → p j = false) : fst p n = some k := by
  unfold fst
  rw [List.find?_range_eq_some]
  exact ⟨hp, by simp [hk], fun j hj => by simp [h j hj]⟩
theorem fst_none {p : Nat → Bool} {n : Nat} (h : ∀ j, j < n → p j = false) : fst p n = none := by
  unfold fst
  rw [List.find?_range_eq_none]
  intro i hi
  simp [h i hi]
theorem fst_spec {p : Nat → Bool} {n : Nat} : (fst p n = none ∧ ∀ j, j < n → p j = false) ∨ ∃ k, fst p n = some k ∧ k < n ∧ p k = true ∧ ∀ j, j < k → p j = false := by
  by_cases h : ∃ k, k < n ∧ p k = true
  · obtain ⟨k, h1, h2, h3⟩ := fb_first (p := fun k => p k = true) h
    exact Or.inr ⟨k, fst_some h1 h2 (fun j hj => by simpa using h3 j hj), h1, h2, fun j hj => by simpa using h3 j hj⟩
  · have h' : ∀ j, j < n → p j = false := fun j hj => by
      cases e : p j with
      | false => rfl
      | true => exact absurd ⟨j, hj, e⟩ h
    exact Or.inl ⟨fst_none h', h'⟩
