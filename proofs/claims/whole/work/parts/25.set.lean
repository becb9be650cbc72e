-- THE SET THAT IS BUILT: what the reference visits
theorem i32_lt {x y : Int32} : x < y ↔ x.toInt < y.toInt := Int32.lt_iff_toInt_lt
theorem i32_le {x y : Int32} : x ≤ y ↔ x.toInt ≤ y.toInt := Int32.le_iff_toInt_le
theorem i32_eq {x y : Int32} : x = y ↔ x.toInt = y.toInt := Int32.toInt_inj.symm
theorem nvF_none {col : Nat → Int32} {w : Nat → Bool} : ∀ {k : Nat}, nvF col w k = none → ∀ u, u < k → w u = false → False
  | 0, _, u, hu, _ => absurd hu (Nat.not_lt_zero _)
  | k + 1, h, u, hu, hw => by
    by_cases hk : w k = true
    · rw [nvF_in hk] at h
      have huk : u ≠ k := fun e => by rw [e, hk] at hw; cases hw
      exact nvF_none h u (by omega) hw
    · have hk : w k = false := by simpa using hk
      rw [nvF, if_neg (by rw [hk]; simp)] at h
      cases e : nvF col w k with
      | none => rw [e] at h; cases h
      | some j => rw [e] at h; simp only at h; split at h <;> cases h
theorem nvF_min {col : Nat → Int32} {w : Nat → Bool} : ∀ {k v : Nat}, nvF col w k = some v → ∀ u, u < k → w u = false → col v ≤ col u ∧ (col u = col v → v ≤ u)
  | 0, v, h, u, hu, _ => absurd hu (Nat.not_lt_zero _)
  | k + 1, v, h, u, hu, hw => by
    by_cases hk : w k = true
    · rw [nvF_in hk] at h
      have huk : u ≠ k := fun e => by rw [e, hk] at hw; cases hw
      exact nvF_min h u (by omega) hw
    · have hk : w k = false := by simpa using hk
      cases e : nvF col w k with
      | none =>
        rw [nvF_first hk e] at h
        cases h
        by_cases huk : u = k
        · subst huk; exact ⟨i32_le.mpr (Int.le_refl _), fun _ => Nat.le_refl _⟩
        · exfalso
          exact nvF_none e u (by omega) hw
      | some j =>
        have hj := nvF_lt e
        by_cases hlt : col k < col j
        · rw [nvF_lt' hk e hlt] at h
          cases h
          by_cases huk : u = k
          · subst huk; exact ⟨i32_le.mpr (Int.le_refl _), fun _ => Nat.le_refl _⟩
          · have := nvF_min e u (by omega) hw
            rw [i32_lt] at hlt
            rw [i32_le] at this ⊢
            refine ⟨by omega, fun he => ?_⟩
            rw [i32_eq] at he
            omega
        · rw [nvF_ge hk e hlt] at h
          rw [e] at h
          cases h
          by_cases huk : u = k
          · subst huk
            rw [i32_lt] at hlt
            rw [i32_le]
            exact ⟨by omega, fun _ => by omega⟩
          · exact nvF_min e u (by omega) hw
theorem nvF_ex {col : Nat → Int32} {w : Nat → Bool} {n u : Nat} (hu : u < n) (hw : w u = false) : ∃ v, nvF col w n = some v := by
  cases e : nvF col w n with
  | none => exact (nvF_none e u hu hw).elim
  | some v => exact ⟨v, rfl⟩
/-- later than a colour and a node -/
def latB (col : Nat → Int32) (cc : Int32) (q v : Nat) : Bool := decide (cc < col v) || (decide (col v = cc) && decide (q < v))
theorem lat_0 {col : Nat → Int32} {n v : Nat} (h : ∀ v, v < n → ¬ col v < 0) (hv : v < n) (q : Nat) : latB col (-1) q v = true := by
  have := h v hv
  rw [i32_lt] at this
  have e : (-1 : Int32) < col v := by
    rw [i32_lt]
    have e1 : (-1 : Int32).toInt = -1 := rfl
    have e0 : (0 : Int32).toInt = 0 := rfl
    omega
  simp [latB, e]
theorem lat_step {col : Nat → Int32} {n : Nat} {vis : Nat → Bool} {cc : Int32} {q v : Nat} (hvis : ∀ u, u < n → latB col cc q u = !vis u) (hv : nvF col vis n = some v) : ∀ u, u < n → latB col (col v) v u = !(vis u || u == v) := by
  intro u hu
  obtain ⟨hvn, hvv⟩ := nvF_lt hv
  have h1 := hvis u hu
  have h2 := hvis v hvn
  rw [hvv] at h2
  have h3 := nvF_min hv u hu
  unfold latB at *
  simp only [Bool.or_eq_true, Bool.and_eq_true, decide_eq_true_eq, Bool.not_false, i32_lt, i32_le, i32_eq] at h2 h3
  by_cases huv : u = v
  · subst huv
    have h4 : ¬ col u < col u := by rw [i32_lt]; omega
    simp [h4]
  · by_cases hw : vis u = false
    · obtain ⟨h5, h6⟩ := h3 hw
      rw [hw]
      by_cases h7 : col u = col v
      · have h8 : v < u := by have := h6 (i32_eq.mp h7); omega
        simp [h7, h8, huv]
      · have h8 : col v < col u := by rw [i32_lt]; rw [i32_eq] at h7; omega
        simp [h8, huv]
    · have hw : vis u = true := by simpa using hw
      rw [hw] at h1
      simp only [Bool.not_true, Bool.or_eq_false_iff, decide_eq_false_iff_not, Bool.and_eq_false_iff] at h1
      rw [i32_lt, i32_eq] at h1
      have h8 : ¬ col v < col u := by rw [i32_lt]; omega
      have h9 : ¬ (col u = col v ∧ v < u) := by rw [i32_eq]; omega
      rw [hw]
      by_cases h7 : col u = col v
      · have h10 : ¬ v < u := fun z => h9 ⟨h7, z⟩
        simp [h8, h10]
      · simp [h8, h7]
theorem isF_sub {par : Nat → Option Nat} {col : Nat → Int32} {n : Nat} : ∀ (k u : Nat), (isF par col n k).1 u = true → (isF par col n k).2 u = true
  | 0, u, h => by cases h
  | k + 1, u, h => by
    cases e : nvF col (isF par col n k).2 n with
    | none => rw [isF, e] at h ⊢; exact isF_sub k u h
    | some v =>
      rw [isF_2 e]
      by_cases h2 : anyB (fun o => nb par v o && (isF par col n k).1 o) n = true
      · rw [isF_1f e h2] at h
        simp [isF_sub k u h]
      · rw [isF_1t e (by simpa using h2)] at h
        simp only [Bool.or_eq_true] at h ⊢
        rcases h with h | h
        · exact Or.inl (isF_sub k u h)
        · exact Or.inr h
theorem isF_cnt {par : Nat → Option Nat} {col : Nat → Int32} {n : Nat} : ∀ k, k ≤ n → fb_ct (isF par col n k).2 n = k
  | 0, _ => fb_ct_zero.mpr (fun _ _ => rfl)
  | k + 1, hk => by
    have ih := isF_cnt (par := par) (col := col) (n := n) k (by omega)
    have hex : ∃ u, u < n ∧ (isF par col n k).2 u = false := by
      rcases Classical.em (∃ u, u < n ∧ (isF par col n k).2 u = false) with h | h
      · exact h
      · have : fb_ct (isF par col n k).2 n = n := fb_ct_all.mpr (fun u hu => by
          cases e : (isF par col n k).2 u with
          | true => rfl
          | false => exact absurd ⟨u, hu, e⟩ h)
        omega
    obtain ⟨u, hu, hw⟩ := hex
    obtain ⟨v, hv⟩ := nvF_ex (col := col) hu hw
    obtain ⟨hvn, hvv⟩ := nvF_lt hv
    have e : fb_ct (isF par col n (k + 1)).2 n = fb_ct (fun j => if j = v then true else (isF par col n k).2 j) n := by
      rw [isF_2 hv]
      exact fb_ct_cong (fun j _ => by by_cases h : j = v <;> simp [h])
    have := fb_ct_upd (isF par col n k).2 true hvn
    rw [hvv, if_neg (by simp), if_pos rfl] at this
    rw [e]
    omega
theorem isF_next {par : Nat → Option Nat} {col : Nat → Int32} {n k : Nat} (hk : k < n) : ∃ v, nvF col (isF par col n k).2 n = some v := by
  have ih := isF_cnt (par := par) (col := col) (n := n) k (by omega)
  rcases Classical.em (∃ u, u < n ∧ (isF par col n k).2 u = false) with ⟨u, hu, hw⟩ | h
  · exact nvF_ex hu hw
  · have : fb_ct (isF par col n k).2 n = n := fb_ct_all.mpr (fun u hu => by
      cases e : (isF par col n k).2 u with
      | true => rfl
      | false => exact absurd ⟨u, hu, e⟩ h)
    omega
/-- the reference's row of marks -/
def inR (n : Nat) (s isin : Nat → Bool) : Nat → Bool := fun j => if j < n then s j else isin j
theorem inR_lt {n : Nat} {s isin : Nat → Bool} {j : Nat} (h : j < n) : inR n s isin j = s j := if_pos h
theorem clF_s (isin : Nat → Bool) (k : Nat) : va_up (inR k (fun _ => false) isin) k false = inR (k + 1) (fun _ => false) isin := by
  funext j
  unfold inR
  by_cases h : j = k
  · subst h; rw [va_up_self, if_pos (by omega)]
  · rw [va_up_ne _ _ h]
    by_cases h2 : j < k
    · rw [if_pos h2, if_pos (by omega)]
    · rw [if_neg h2, if_neg (by omega)]
theorem free_any {n : Nat} {par : Nat → Option Nat} {s isin : Nat → Bool} {v : Nat} : anyB (fun o => inR n s isin o && nb par v o) n = anyB (fun o => nb par v o && s o) n := by
  cases e : anyB (fun o => nb par v o && s o) n with
  | true =>
    obtain ⟨k, h1, h2⟩ := anyB_iff.mp e
    exact anyB_yes h1 (by rw [inR_lt h1, Bool.and_comm]; exact h2)
  | false =>
    apply anyB_no
    intro k hk
    rw [inR_lt hk]
    cases h : (s k && nb par v k) with
    | false => rfl
    | true =>
      rw [Bool.and_comm] at h
      rw [anyB_yes (p := fun o => nb par v o && s o) hk h] at e
      cases e
theorem isF_put {par : Nat → Option Nat} {col : Nat → Int32} {n k v : Nat} {isin : Nat → Bool} (hv : nvF col (isF par col n k).2 n = some v) {fr : Bool} (hf : fr = !anyB (fun o => nb par v o && (isF par col n k).1 o) n) : va_up (inR n (isF par col n k).1 isin) v fr = inR n (isF par col n (k + 1)).1 isin ∧ fb_ct (isF par col n (k + 1)).1 n = fb_ct (isF par col n k).1 n + (if fr = true then 1 else 0) := by
  obtain ⟨hvn, hvv⟩ := nvF_lt hv
  have hvs : (isF par col n k).1 v = false := by
    cases e : (isF par col n k).1 v with
    | false => rfl
    | true => rw [isF_sub k v e] at hvv; cases hvv
  cases ha : anyB (fun o => nb par v o && (isF par col n k).1 o) n with
  | true =>
    rw [ha] at hf
    subst hf
    rw [isF_1f hv ha]
    refine ⟨?_, by simp⟩
    funext j
    by_cases h : j = v
    · subst h; rw [va_up_self, inR_lt hvn, hvs]; rfl
    · rw [va_up_ne _ _ h]
  | false =>
    rw [ha] at hf
    subst hf
    rw [isF_1t hv ha]
    refine ⟨?_, ?_⟩
    · funext j
      by_cases h : j = v
      · subst h; rw [va_up_self, inR_lt hvn]; simp
      · rw [va_up_ne _ _ h]
        unfold inR
        by_cases h2 : j < n
        · simp [h2, h]
        · simp [h2]
    · have e : fb_ct (fun j => (isF par col n k).1 j || j == v) n = fb_ct (fun j => if j = v then true else (isF par col n k).1 j) n := fb_ct_cong (fun j _ => by by_cases h : j = v <;> simp [h])
      have := fb_ct_upd (isF par col n k).1 true hvn
      rw [hvs, if_neg (by simp), if_pos rfl] at this
      rw [e]
      simpa using this
