-- ROUNDS: REDUCTIONS SHRINK COLOURS AND KEEP THEM PROPER
def lbN (par : Nat → Option Nat) (col : Nat → Int32) (v : Nat) : Nat := match par v with
  | none => 0
  | some u => lowb (col v ^^^ col u)
theorem bt_hi {m b k : Nat} (hm : m < 2 ^ b) (hk : b ≤ k) (hk2 : k < 32) : bt (nI m) k = false := by
  rw [bt_nI m k hk2]
  exact Nat.testBit_lt_two_pow (Nat.lt_of_lt_of_le hm (Nat.pow_le_pow_right (by omega) hk))
theorem red_val {n : Nat} {par : Nat → Option Nat} {col : Nat → Int32} {v : Nat} (hc : conf par col v = false) : lbN par col v < 32 ∧ redC par col v = nI (2 * lbN par col v + (if bt (col v) (lbN par col v) = true then 1 else 0)) := by
  have key : ∀ L, L < 32 → rbit par col v = nI L → redC par col v = nI (2 * L + (if bt (col v) L = true then 1 else 0)) := by
    intro L hL hr
    unfold redC
    rw [hr, sh_bit hL, show (2 : Int32) = nI 2 from rfl, pk_mul]
    cases h : bt (col v) L
    · rw [if_neg (by simp)]
      show nI (2 * L) + nI 0 = _
      rw [nI_add]
    · rw [if_pos rfl]
      show nI (2 * L) + nI 1 = _
      rw [nI_add]
  cases hu : par v with
  | none =>
    have e : lbN par col v = 0 := by unfold lbN; rw [hu]
    rw [e]
    exact ⟨by omega, key 0 (by omega) (by unfold rbit; rw [hu]; rfl)⟩
  | some u =>
    have e : lbN par col v = lowb (col v ^^^ col u) := by unfold lbN; rw [hu]
    obtain ⟨h1, h2, -, -⟩ := rbit_some (n := n) hu hc
    rw [e]
    exact ⟨h2, key _ h2 h1⟩
/-- all colours below n are under 2 ^ b -/
def colB (n b : Nat) (col : Nat → Int32) : Prop := ∀ v, v < n → ∃ m, m < 2 ^ b ∧ col v = nI m
theorem lb_lt {n b : Nat} {par : Nat → Option Nat} {col : Nat → Int32} (hp : PW n par) (hb : 1 ≤ b) (hb2 : b ≤ 16) (hB : colB n b col) {v : Nat} (hv : v < n) (hc : conf par col v = false) : lbN par col v < b := by
  cases hu : par v with
  | none =>
    have e : lbN par col v = 0 := by unfold lbN; rw [hu]
    omega
  | some u =>
    have e : lbN par col v = lowb (col v ^^^ col u) := by unfold lbN; rw [hu]
    obtain ⟨-, h2, h3, -⟩ := rbit_some (n := n) hu hc
    rw [e]
    obtain ⟨m1, hm1, e1⟩ := hB v hv
    obtain ⟨m2, hm2, e2⟩ := hB u (hp.lt hv hu)
    rcases Nat.lt_or_ge (lowb (col v ^^^ col u)) b with h | h
    · exact h
    · exfalso
      rw [b_xor] at h3
      have z1 : bt (col v) (lowb (col v ^^^ col u)) = false := by
        rw [e1]; rw [e1] at h h2; exact bt_hi hm1 h h2
      have z2 : bt (col u) (lowb (col v ^^^ col u)) = false := by
        rw [e2]; rw [e2] at h h2; exact bt_hi hm2 h h2
      rw [z1, z2] at h3
      cases h3
theorem red_B {n b : Nat} {par : Nat → Option Nat} {col : Nat → Int32} (hp : PW n par) (hb : 1 ≤ b) (hb2 : b ≤ 16) (hB : colB n b col) (hc : ∀ v, v < n → conf par col v = false) {v : Nat} (hv : v < n) : ∃ m, m ≤ 2 * b - 1 ∧ redC par col v = nI m := by
  obtain ⟨-, h2⟩ := red_val (n := n) (hc v hv)
  have h1 := lb_lt hp hb hb2 hB hv (hc v hv)
  exact ⟨_, by split <;> omega, h2⟩
theorem red_proper {n : Nat} {par : Nat → Option Nat} {col : Nat → Int32} (hp : PW n par) (hc : ∀ v, v < n → conf par col v = false) {v u : Nat} (hv : v < n) (hu : par v = some u) : ¬ redC par col v = redC par col u := by
  intro e
  obtain ⟨l1, h1⟩ := red_val (n := n) (hc v hv)
  obtain ⟨l2, h2⟩ := red_val (n := n) (hc u (hp.lt hv hu))
  obtain ⟨-, -, h3, -⟩ := rbit_some (n := n) hu (hc v hv)
  have el : lbN par col v = lowb (col v ^^^ col u) := by unfold lbN; rw [hu]
  rw [← el, b_xor] at h3
  rw [h1, h2] at e
  have e2 := (nI_eq (by split <;> omega) (by split <;> omega)).mp e
  have hL : lbN par col v = lbN par col u := by split at e2 <;> split at e2 <;> omega
  rw [← hL] at e2
  cases b1 : bt (col v) (lbN par col v) <;> cases b2 : bt (col u) (lbN par col v) <;> rw [b1, b2] at e2 h3 <;> simp at e2 h3
theorem conf_cong {n : Nat} {par : Nat → Option Nat} (hp : PW n par) {col col' : Nat → Int32} (h : ∀ v, v < n → col v = col' v) {v : Nat} (hv : v < n) : conf par col v = conf par col' v := by
  unfold conf
  cases hu : par v with
  | none => rfl
  | some u => simp only; rw [h v hv, h u (hp.lt hv hu)]
theorem prop_iff {n : Nat} {par : Nat → Option Nat} {col : Nat → Int32} : propB n par col = true ↔ ∀ v, v < n → conf par col v = false := by
  unfold propB
  rw [decide_eq_true_iff, fb_ct_zero]
theorem mx_le {col : Nat → Int32} {M : Nat} (hM : M < 2 ^ 31) : ∀ {n : Nat}, (∀ v, v < n → ∃ m, m ≤ M ∧ col v = nI m) → ¬ nI M < mxF col n
  | 0, _ => by
    rw [i32_lt]
    have e : (mxF col 0).toInt = -7 := rfl
    rw [e, nI_toInt hM]
    omega
  | n + 1, h => by
    have ih := mx_le (n := n) hM (fun v hv => h v (by omega))
    rw [mxF, max32]
    split
    · obtain ⟨m, hm, e⟩ := h n (by omega)
      rw [e]
      exact nI_nlt hm hM
    · exact ih
abbrev RP (n : Nat) (ids : Nat → Int32) (par : Nat → Option Nat) (S : RS) (T : MT) : Prop := REL n ids par S.1 S.2.1 S.2.2 T.1 ∧ T.2.2 = S.2.2
section
variable {n : Nat} {ids : Nat → Int32} {par : Nat → Option Nat} {S : RS} {T : MT}
theorem RP.col (h : RP n ids par S T) : mcol T.1 T.2.2 = S.1 S.2.1 := by rw [h.2]; exact h.1.col
theorem rel_colB {rows : Nat → Nat → Int32} {pr rd : Nat} {cols : Nat → Int32} (h : REL n ids par rows pr rd cols) : colB n 16 (rows pr) := fun v hv => by
  obtain ⟨m, hm, e⟩ := inV_ex (h.2.2.1 v hv)
  exact ⟨m, by omega, e⟩
theorem RP.sh (h : RP n ids par S T) : RP n ids par (shS par n S) (mshS par n T) := by
  unfold shS mshS mEnd
  rw [h.col, h.2]
  refine ⟨h.1.round (fun v hv => ?_) _, rfl⟩
  unfold shc
  cases hu : par v with
  | none =>
    simp only
    split
    · exact inV_nI (m := 1) (by omega)
    · exact inV_nI (m := 0) (by omega)
  | some u => exact h.1.2.2.1 u (h.1.hp.lt hv hu)
theorem fre_3 {col : Nat → Int32} {v m : Nat} : ∀ u, freF par col n v m = some u → u < m := by
  intro u hu
  rcases fst_spec (p := fun c => !bes par col n v (nI c)) (n := m) with ⟨h1, -⟩ | ⟨k, h1, h2, -, -⟩
  · rw [freF, h1] at hu; cases hu
  · rw [freF, h1] at hu; cases hu; omega
theorem RP.el (h : RP n ids par S T) (c : Int32) : RP n ids par (elS par n c S) (melS par n c T) := by
  unfold elS melS
  rw [h.col]
  cases hk : elK par n (S.1 S.2.1) c with
  | none =>
    simp only
    unfold mEnd
    rw [h.2]
    refine ⟨h.1.round (fun v hv => ?_) _, rfl⟩
    unfold elC
    split
    · rename_i hvc
      have hno : (decide (S.1 S.2.1 v = c) && (freF par (S.1 S.2.1) n v 3).isNone) = false := by
        rcases fst_spec (p := fun v => decide (S.1 S.2.1 v = c) && (freF par (S.1 S.2.1) n v 3).isNone) (n := n) with ⟨-, h1⟩ | ⟨k, h1, -, -, -⟩
        · exact h1 v hv
        · rw [elK, h1] at hk; cases hk
      rw [decide_eq_true hvc, Bool.true_and] at hno
      obtain ⟨u, hu⟩ := isNone_f hno
      rw [hu]
      have := fre_3 u hu
      exact inV_nI (by omega)
    · exact h.1.2.2.1 v hv
  | some k =>
    simp only
    refine ⟨h.1.spare _ ?_, h.2⟩
    rcases fst_spec (p := fun v => decide (S.1 S.2.1 v = c) && (freF par (S.1 S.2.1) n v 3).isNone) (n := n) with ⟨h1, -⟩ | ⟨j, h1, h2, -, -⟩
    · rw [elK, h1] at hk; cases hk
    · rw [elK, h1] at hk; cases hk; exact h2
theorem RP.red (h : RP n ids par S T) (hpr : propB n par (S.1 S.2.1) = true) : RP n ids par (redS par n S) (mredS par n T) := by
  unfold redS mredS mEnd
  rw [h.col, h.2]
  refine ⟨h.1.round (fun v hv => ?_) _, rfl⟩
  obtain ⟨m, hm, e⟩ := red_B h.1.hp (b := 16) (by omega) (by omega) (rel_colB h.1) (prop_iff.mp hpr) hv
  rw [e]
  exact inV_nI (by omega)
theorem RP.red_col {v : Nat} (hv : v < n) : (redS par n S).1 (redS par n S).2.1 v = redC par (S.1 S.2.1) v := by
  show fR S.1 S.2.1 (redC par (S.1 S.2.1)) n (nxR S.2.1) v = _
  rw [fR_nx]
  exact if_pos hv
theorem RP.tail (h : RP n ids par S T) : ∀ j, RP n ids par (tailS par n j S) (mtailS par n j T)
  | 0 => h
  | j + 1 => ((RP.tail h j).sh).el _
def xredI (par : Nat → Option Nat) (n : Nat) (S : RS) : Nat → RS
  | 0 => S
  | k + 1 => redS par n (xredI par n S k)
/-- bits of a colour behind k reductions -/
def bitsK : Nat → Nat
  | 0 => 16
  | 1 => 5
  | 2 => 4
  | _ => 3
theorem bits_r : ∀ k, 1 ≤ bitsK k ∧ bitsK k ≤ 16
  | 0 => by decide
  | 1 => by decide
  | 2 => by decide
  | k + 3 => ⟨by show 1 ≤ 3; omega, by show 3 ≤ 16; omega⟩
theorem bits_s : ∀ {k m : Nat}, m ≤ 2 * bitsK k - 1 → m < 2 ^ bitsK (k + 1)
  | 0, m, h => by have h : m ≤ 31 := h; show m < 32; omega
  | 1, m, h => by have h : m ≤ 9 := h; show m < 16; omega
  | 2, m, h => by have h : m ≤ 7 := h; show m < 8; omega
  | k + 3, m, h => by have h : m ≤ 5 := h; show m < 8; omega
theorem bits_4 : ∀ {k m : Nat}, 3 ≤ k → m ≤ 2 * bitsK k - 1 → m ≤ 5
  | 0, m, h, _ => by omega
  | 1, m, h, _ => by omega
  | 2, m, h, _ => by omega
  | k + 3, m, _, h => h
theorem RP.redI (h : RP n ids par S T) (hpr : propB n par (S.1 S.2.1) = true) : ∀ k, RP n ids par (xredI par n S k) (mredI par n T k) ∧ propB n par ((xredI par n S k).1 (xredI par n S k).2.1) = true ∧ colB n (bitsK k) ((xredI par n S k).1 (xredI par n S k).2.1) ∧ (4 ≤ k → ∀ v, v < n → ∃ m, m ≤ 5 ∧ (xredI par n S k).1 (xredI par n S k).2.1 v = nI m)
  | 0 => ⟨h, hpr, rel_colB h.1, fun z => absurd z (by omega)⟩
  | k + 1 => by
    obtain ⟨h1, h2, h3, h4⟩ := RP.redI h hpr k
    have hp := h.1.hp
    have hb := bits_r k
    have hB := fun v (hv : v < n) => red_B hp hb.1 hb.2 h3 (prop_iff.mp h2) hv
    have hcol := fun v (hv : v < n) => RP.red_col (par := par) (S := xredI par n S k) hv
    refine ⟨h1.red h2, prop_iff.mpr (fun v hv => ?_), fun v hv => ?_, fun hk v hv => ?_⟩
    · show conf par ((redS par n (xredI par n S k)).1 (redS par n (xredI par n S k)).2.1) v = false
      rw [conf_cong hp hcol hv]
      cases hu : par v with
      | none => simp [conf, hu]
      | some u => exact cf_n hu (red_proper hp (prop_iff.mp h2) hv hu)
    · obtain ⟨m, hm, e⟩ := hB v hv
      refine ⟨m, ?_, (hcol v hv).trans e⟩
      exact bits_s hm
    · obtain ⟨m, hm, e⟩ := hB v hv
      refine ⟨m, ?_, (hcol v hv).trans e⟩
      exact bits_4 (by omega) hm
end
