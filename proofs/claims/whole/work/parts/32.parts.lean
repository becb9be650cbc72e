-- REDUCE TO THREE, STEPS, PARTS
section
variable {n : Nat} {ids : Nat → Int32} {par : Nat → Option Nat} {S : RS} {T : MT}
theorem rt3_T (h : RP n ids par S T) (hpr : propB n par (mcol T.1 T.2.2) = true) (k : Nat) (hk : 5 < mxF (mcol (mredI par n T k).1 (mredI par n T k).2.2) n) : k < 16 ∧ propB n par (mcol (mredI par n T k).1 (mredI par n T k).2.2) = true := by
  rw [h.col] at hpr
  obtain ⟨h1, h2, -, h4⟩ := h.redI hpr k
  rw [h1.col] at hk ⊢
  refine ⟨?_, h2⟩
  rcases Nat.lt_or_ge k 4 with z | z
  · omega
  · exact absurd hk (mx_le (M := 5) (by decide) (h4 z))
theorem rt3_L (h : RP n ids par S T) (hpr : propB n par (S.1 S.2.1) = true) : ∀ f k, ∃ j, redL par n f (xredI par n S k) = xredI par n S j ∧ mredL par n f (mredI par n T k) = mredI par n T j
  | 0, k => ⟨k, rfl, rfl⟩
  | f + 1, k => by
    have hc := (h.redI hpr k).1.col
    by_cases hg : 5 < mxF ((xredI par n S k).1 (xredI par n S k).2.1) n
    · rw [redL_t hg, mredL_t (by rw [hc]; exact hg)]
      exact rt3_L h hpr f (k + 1)
    · rw [redL_f hg, mredL_f (by rw [hc]; exact hg)]
      exact ⟨k, rfl, rfl⟩
theorem rt3_M (h : RP n ids par S T) (hpr : propB n par (S.1 S.2.1) = true) : RP n ids par (redL par n 16 S) (mredL par n 16 T) := by
  obtain ⟨j, h1, h2⟩ := rt3_L h hpr 16 0
  have e1 : redL par n 16 S = xredI par n S j := h1
  have e2 : mredL par n 16 T = mredI par n T j := h2
  rw [e1, e2]
  exact (h.redI hpr j).1
theorem rt3_RP (h : RP n ids par S T) (hpr : propB n par (S.1 S.2.1) = true) : RP n ids par (rt3S par n S) (mrt3S par n T) := (rt3_M h hpr).tail 3
theorem rt3_E (h : RP n ids par S T) (hpr : propB n par (mcol T.1 T.2.2) = true) (j : Nat) (v : Nat) (hv : v < n) : ¬ mcol (mshS par n (mtailS par n j (mredL par n 16 T))).1 (mshS par n (mtailS par n j (mredL par n 16 T))).2.2 v = -7 := by
  rw [h.col] at hpr
  have h1 := ((rt3_M h hpr).tail j).sh
  rw [h1.col]
  exact inV_7 (h1.1.2.2.1 v hv)
end
theorem dep_eq {n : Nat} {par : Nat → Option Nat} (hp : PW n par) {v : Nat} (hv : v < n) : depF par n v = depF par (n + 1) v := by
  unfold depF
  rcases fst_spec (p := fun k => (anc par (k + 1) v).isNone) (n := n) with ⟨h1, h2⟩ | ⟨k, h1, h2, h3, h4⟩
  · rw [h1]
    symm
    apply fst_none
    intro j hj
    rcases Nat.lt_or_ge j n with z | z
    · exact h2 j z
    · have hjn : j = n := by omega
      subst hjn
      cases e : (anc par (j + 1) v).isNone with
      | false => rfl
      | true =>
        exfalso
        have ha : ∀ k, k ≤ j → anc par k v = some (itS par k v) := by
          intro k hk
          cases k with
          | zero => rfl
          | succ k =>
            obtain ⟨t, ht⟩ := isNone_f (h2 k (by omega))
            rw [ht, anc_itS ht]
        have hnr : ∀ k, k < j → par (itS par k v) ≠ none := by
          intro k hk z
          have := h2 k hk
          rw [anc_s (ha k (by omega)), z] at this
          cases this
        have hroot : par (itS par j v) = none := by
          have := isNone_t e
          rw [anc_s (ha j (Nat.le_refl _))] at this
          exact this
        obtain ⟨i, k, hik, hk, ee⟩ := fb_twice (m := j) (n := j + 1) (f := fun k => itS par k v) (fun i _ => itS_lt hp hv i) (by omega)
        have ee : itS par i v = itS par k v := ee
        have h5 : itS par j v = itS par (i + (j - k)) v := by
          rw [itS_add, ee, ← itS_add, show k + (j - k) = j by omega]
        rw [h5] at hroot
        exact hnr _ (by omega) hroot
  · rw [h1]
    exact (fst_some (by omega) h3 h4).symm
-- the head of a part
theorem per_ex {n : Nat} {par : Nat → Option Nat} (hp : PW n par) {v : Nat} (hv : v < n) : ∃ c, 1 ≤ c ∧ ∀ i, n ≤ i → itS par (i + c) v = itS par i v := by
  by_cases hr : par (itS par n v) = none
  · refine ⟨1, Nat.le_refl _, fun i hi => ?_⟩
    have h1 := itS_root rfl hr (i - n)
    have h2 := itS_root rfl hr (i + 1 - n)
    rw [show n + (i - n) = i by omega] at h1
    rw [show n + (i + 1 - n) = i + 1 by omega] at h2
    rw [h1, h2]
  · obtain ⟨c, h1, -, h3⟩ := on_cycle hp hv hr
    refine ⟨c, h1, fun i hi => ?_⟩
    have e1 : itS par i v = itS par (i - n) (itS par n v) := by rw [← itS_add]; congr 1; omega
    rw [e1, show i + c = n + (c + (i - n)) by omega, itS_add, itS_add, h3]
theorem per_mul {par : Nat → Option Nat} {n v c : Nat} (h : ∀ i, n ≤ i → itS par (i + c) v = itS par i v) {i : Nat} (hi : n ≤ i) : ∀ q, itS par (i + c * q) v = itS par i v
  | 0 => rfl
  | q + 1 => by rw [Nat.mul_succ, ← Nat.add_assoc, h _ (by omega), per_mul h hi q]
def isMn (par : Nat → Option Nat) (n v m : Nat) : Prop := (∃ i, n ≤ i ∧ itS par i v = m) ∧ ∀ i, n ≤ i → m ≤ itS par i v
theorem isMn_one {par : Nat → Option Nat} {n v m m' : Nat} (h : isMn par n v m) (h' : isMn par n v m') : m = m' := by
  obtain ⟨⟨i, hi, e⟩, a⟩ := h
  obtain ⟨⟨j, hj, e'⟩, a'⟩ := h'
  have := a j hj
  have := a' i hi
  omega
theorem mnF_min (par : Nat → Option Nat) (t : Nat) : ∀ i j, j ≤ i → mnF par t i ≤ itS par j t
  | 0, j, h => by rw [show j = 0 by omega]; exact Nat.le_refl _
  | i + 1, j, h => by
    rw [mnF]
    by_cases hj : j = i + 1
    · subst hj; split <;> omega
    · have := mnF_min par t i j (by omega)
      split <;> omega
theorem hd_mn {n : Nat} {par : Nat → Option Nat} (hp : PW n par) {v : Nat} (hv : v < n) : isMn par n v (hdF par n v) := by
  by_cases hr : par (itS par n v) = none
  · have e : hdF par n v = itS par n v := by unfold hdF; rw [if_pos hr]
    rw [e]
    refine ⟨⟨n, Nat.le_refl _, rfl⟩, fun i hi => ?_⟩
    have h1 := itS_root rfl hr (i - n)
    rw [show n + (i - n) = i by omega] at h1
    rw [h1]; exact Nat.le_refl _
  · obtain ⟨c, hc1, hc2, hc3, hc4, hc5, hc6⟩ := cyc_spec hp hv hr
    have e : hdF par n v = mnF par (itS par n v) (c - 1) := by unfold hdF; rw [if_neg hr, hc1]; rfl
    rw [e]
    obtain ⟨j, -, hj⟩ := mnF_on par (itS par n v) (c - 1)
    refine ⟨⟨n + j, by omega, by rw [itS_add, hj]⟩, fun i hi => ?_⟩
    have hq : itS par i v = itS par ((i - n) % c) (itS par n v) := by
      have e1 : itS par i v = itS par (i - n) (itS par n v) := by rw [← itS_add]; congr 1; omega
      rw [e1]
      have hm : ∀ q, itS par (c * q) (itS par n v) = itS par n v := by
        intro q
        induction q with
        | zero => rfl
        | succ q ih => rw [Nat.mul_succ, itS_add, ih, hc4]
      conv => lhs; rw [← Nat.div_add_mod (i - n) c, itS_add, hm]
    rw [hq]
    have := Nat.mod_lt (i - n) (show 0 < c by omega)
    exact mnF_min par _ _ _ (by omega)
theorem hd_up {n : Nat} {par : Nat → Option Nat} (hp : PW n par) {v u : Nat} (hv : v < n) (hu : par v = some u) : hdF par n u = hdF par n v := by
  have hun := hp.lt hv hu
  have hs : stp par v = u := stp_some hu
  have hi : ∀ i, itS par i u = itS par (i + 1) v := fun i => by rw [Nat.add_comm, itS_add]; show _ = itS par i (stp par v); rw [hs]
  obtain ⟨⟨i, h1, h2⟩, h3⟩ := hd_mn hp hv
  obtain ⟨c, c1, c2⟩ := per_ex hp hv
  refine isMn_one (hd_mn hp hun) ⟨⟨i + c - 1, by omega, ?_⟩, fun j hj => ?_⟩
  · rw [hi, show i + c - 1 + 1 = i + c by omega, c2 i h1, h2]
  · rw [hi]; exact h3 _ (by omega)
theorem hd_hd {n : Nat} {par : Nat → Option Nat} (hp : PW n par) {v : Nat} (hv : v < n) : hdF par n (hdF par n v) = hdF par n v := by
  obtain ⟨⟨i, h1, h2⟩, h3⟩ := hd_mn hp hv
  obtain ⟨c, c1, c2⟩ := per_ex hp hv
  refine isMn_one (hd_mn hp (hdF_lt hp hv)) ⟨⟨c * n, ?_, ?_⟩, fun j hj => ?_⟩
  · have := Nat.mul_le_mul_right n c1; omega
  · conv => lhs; rw [← h2, ← itS_add, per_mul c2 h1 n]
    exact h2
  · conv => rhs; rw [← h2, ← itS_add]
    exact h3 _ (by omega)
-- the class's parts
def clo (n : Nat) (par : Nat → Option Nat) (w : Nat → Bool) : Prop := ∀ k u, k < n → par k = some u → (w k = true ∨ w u = true) → w k = true ∧ w u = true
theorem wid_mono (par : Nat → Option Nat) (w : Nat → Bool) (j : Nat) (h : w j = true) : ∀ k, wid par k w j = true
  | 0 => h
  | k + 1 => by simp only [wid, wid1]; rw [wid_mono par w j h k]; rfl
theorem wid_mono2 (par : Nat → Option Nat) (w : Nat → Bool) (j k : Nat) (h : wid par k w j = true) : ∀ i, wid par (k + i) w j = true
  | 0 => h
  | i + 1 => by rw [← Nat.add_assoc]; simp only [wid, wid1]; rw [wid_mono2 par w j k h i]; rfl
theorem wid_clo {n : Nat} {par : Nat → Option Nat} (hp : PW n par) {w : Nat → Bool} (h : ∀ j, j < n → wid par n w j = w j) : clo n par w := by
  intro k u hk hu hw
  have hun := hp.lt hk hu
  have h1 : (wid par k w k || wid par k w u) = true := by
    rcases hw with z | z
    · rw [wid_mono par w k z]; rfl
    · rw [wid_mono par w u z, Bool.or_true]
  have h2 := wid_in hu h1
  have e : n = k + 1 + (n - (k + 1)) := by omega
  refine ⟨?_, ?_⟩
  · rw [← h k hk, e]
    exact wid_mono2 par w k (k + 1) (by rw [h2 k]; simp) _
  · rw [← h u hun, e]
    exact wid_mono2 par w u (k + 1) (by rw [h2 u]; simp) _
theorem itW_mono (par : Nat → Option Nat) (n : Nat) (w : Nat → Bool) (k j : Nat) (h : itW par n k w j = true) : itW par n (k + 1) w j = true := wid_mono par _ j h n
theorem wid_hd {n : Nat} {par : Nat → Option Nat} (hp : PW n par) {w : Nat → Bool} {m : Nat} (h : ∀ j, j < n → w j = true → hdF par n j = m) : ∀ k, k ≤ n → ∀ j, j < n → wid par k w j = true → hdF par n j = m
  | 0, _, j, hj, hw => h j hj hw
  | k + 1, hk, j, hj, hw => by
    have ih := wid_hd hp h k (by omega)
    cases hu : par k with
    | none => rw [wid_none hu] at hw; exact ih j hj hw
    | some u =>
      have hun := hp.lt (v := k) (by omega) hu
      have huk := hd_up hp (v := k) (by omega) hu
      by_cases h1 : (wid par k w k || wid par k w u) = true
      · rw [wid_in hu h1 j] at hw
        have hk2 : hdF par n k = m := by
          rcases Bool.or_eq_true _ _ ▸ h1 with z | z
          · exact ih k (by omega) z
          · rw [← huk]; exact ih u hun z
        simp only [Bool.or_eq_true, beq_iff_eq] at hw
        rcases hw with z | z | z
        · exact ih j hj z
        · rw [z]; exact hk2
        · rw [z, huk]; exact hk2
      · have h1 : wid par k w k = false ∧ wid par k w u = false := by simpa using h1
        rw [wid_out hu h1.1 h1.2] at hw
        exact ih j hj hw
theorem itW_hd {n : Nat} {par : Nat → Option Nat} (hp : PW n par) {v : Nat} (hv : v < n) : ∀ k j, j < n → itW par n k (sing v) j = true → hdF par n j = hdF par n v
  | 0, j, _, h => by
    have e : j = v := by simpa [itW, sing] using h
    rw [e]
  | k + 1, j, hj, h => wid_hd hp (fun i hi z => itW_hd hp hv k i hi z) n (Nat.le_refl _) j hj h
theorem itW_end {n : Nat} {par : Nat → Option Nat} (hp : PW n par) {v : Nat} (hv : v < n) : ∀ j, j < n → itW par n (n + 1) (sing v) j = itW par n n (sing v) j := by
  rcases Classical.em (∀ j, j < n → itW par n (n + 1) (sing v) j = itW par n n (sing v) j) with h | h
  · exact h
  · exfalso
    have grow : ∀ k, k ≤ n → ¬ ∀ j, j < n → itW par n (k + 1) (sing v) j = itW par n k (sing v) j := by
      intro k hk hf
      apply h
      intro j hj
      have h1 := itW_fix hp (w := sing v) hf (n + 1 - k) j hj
      have h2 := itW_fix hp (w := sing v) hf (n - k) j hj
      rw [show k + (n + 1 - k) = n + 1 by omega] at h1
      rw [show k + (n - k) = n by omega] at h2
      rw [h1, h2]
    have cnt : ∀ k, k ≤ n + 1 → k + 1 ≤ fb_ct (itW par n k (sing v)) n := by
      intro k
      induction k with
      | zero => intro _; exact fb_ct_pos.mpr ⟨v, hv, by simp [itW, sing]⟩
      | succ k ih =>
        intro hk
        have ih := ih (by omega)
        have hg := grow k (by omega)
        have hex : ∃ j, j < n ∧ ¬ itW par n (k + 1) (sing v) j = itW par n k (sing v) j := Classical.byContradiction fun z => hg (fun j hj => Classical.byContradiction fun z2 => z ⟨j, hj, z2⟩)
        obtain ⟨j, hj, hne⟩ := hex
        have hjf : itW par n k (sing v) j = false := by
          cases e : itW par n k (sing v) j with
          | false => rfl
          | true => exact absurd (by rw [itW_mono par n _ k j e, e]) hne
        have hjt : itW par n (k + 1) (sing v) j = true := by
          cases e : itW par n (k + 1) (sing v) j with
          | true => rfl
          | false => rw [hjf, e] at hne; exact absurd rfl hne
        have h1 := fb_ct_upd (itW par n k (sing v)) true hj
        rw [hjf, if_neg (by simp), if_pos rfl] at h1
        have h2 : fb_ct (fun i => if i = j then true else itW par n k (sing v) i) n ≤ fb_ct (itW par n (k + 1) (sing v)) n := fb_ct_sub (fun i _ z => by
          by_cases e : i = j
          · rw [e]; exact hjt
          · rw [if_neg e] at z; exact itW_mono par n _ k i z)
        omega
    have := cnt (n + 1) (Nat.le_refl _)
    have := fb_ct_le (itW par n (n + 1) (sing v)) n
    omega
theorem part_hd {n : Nat} {par : Nat → Option Nat} (hp : PW n par) {v j : Nat} (hv : v < n) (hj : j < n) : partW par n v j = decide (hdF par n j = hdF par n v) := by
  have hcl : clo n par (partW par n v) := wid_clo hp (itW_end hp hv)
  have hvin : partW par n v v = true := by
    have : ∀ k, itW par n k (sing v) v = true := by
      intro k
      induction k with
      | zero => simp [itW, sing]
      | succ k ih => exact itW_mono par n _ k v ih
    exact this n
  have fwd : ∀ z, z < n → partW par n v z = true → ∀ i, partW par n v (itS par i z) = true := by
    intro z hz hw i
    induction i with
    | zero => exact hw
    | succ i ih =>
      rw [itS]
      cases hu : par (itS par i z) with
      | none => rw [stp_none hu]; exact ih
      | some u => rw [stp_some hu]; exact (hcl _ u (itS_lt hp hz i) hu (Or.inl ih)).2
  have bwd : ∀ z, z < n → ∀ i, partW par n v (itS par i z) = true → partW par n v z = true := by
    intro z hz i
    induction i with
    | zero => exact fun h => h
    | succ i ih =>
      intro h
      apply ih
      rw [itS] at h
      cases hu : par (itS par i z) with
      | none => rw [stp_none hu] at h; exact h
      | some u => rw [stp_some hu] at h; exact (hcl _ u (itS_lt hp hz i) hu (Or.inr h)).1
  cases e : partW par n v j with
  | true => exact (decide_eq_true (itW_hd hp hv n j hj e)).symm
  | false =>
    symm
    apply decide_eq_false
    intro heq
    obtain ⟨⟨i, -, h1⟩, -⟩ := hd_mn hp hv
    obtain ⟨⟨k, -, h2⟩, -⟩ := hd_mn hp hj
    have h3 := fwd v hv hvin i
    rw [h1, ← heq, ← h2] at h3
    rw [bwd j hj k h3] at e
    cases e
theorem pc_inv {n : Nat} {par : Nat → Option Nat} (hp : PW n par) : ∀ k, k ≤ n → (∀ u, u < n → (pcF par n k).2 u = anyB (fun w => decide (hdF par n w = hdF par n u)) k) ∧ (pcF par n k).1 = fb_ct (fun h => anyB (fun w => decide (hdF par n w = h)) k) n
  | 0, _ => ⟨fun _ _ => rfl, (fb_ct_zero.mpr (fun _ _ => rfl)).symm⟩
  | k + 1, hk => by
    obtain ⟨h1, h2⟩ := pc_inv hp k (by omega)
    have hkn : k < n := by omega
    by_cases hs : (pcF par n k).2 k = true
    · rw [pcF_in hs]
      have hs2 := hs
      rw [h1 k hkn] at hs2
      obtain ⟨w, hw, hw2⟩ := anyB_iff.mp hs2
      have hw2 : hdF par n w = hdF par n k := by simpa using hw2
      refine ⟨fun u hu => ?_, ?_⟩
      · rw [h1 u hu, anyB]
        cases hc : decide (hdF par n k = hdF par n u) with
        | false => rw [Bool.or_false]
        | true =>
          rw [Bool.or_true]
          exact anyB_yes hw (by rw [hw2]; exact hc)
      · rw [h2]
        apply fb_ct_cong
        intro h _
        rw [anyB]
        cases hc : decide (hdF par n k = h) with
        | false => rw [Bool.or_false]
        | true =>
          rw [Bool.or_true]
          exact anyB_yes hw (by rw [hw2]; exact hc)
    · have hs : (pcF par n k).2 k = false := by simpa using hs
      rw [pcF_out hs]
      rw [h1 k hkn] at hs
      refine ⟨fun u hu => ?_, ?_⟩
      · simp only
        rw [h1 u hu, part_hd hp hkn hu, anyB]
        congr 1
        by_cases e : hdF par n k = hdF par n u
        · rw [e]
        · rw [decide_eq_false e, decide_eq_false (fun z => e z.symm)]
      · simp only
        rw [h2]
        have hd := hdF_lt hp hkn
        have e1 := fb_ct_upd (fun h => anyB (fun w => decide (hdF par n w = h)) k) true hd
        rw [hs, if_neg (by simp), if_pos rfl] at e1
        have e2 : fb_ct (fun h => anyB (fun w => decide (hdF par n w = h)) (k + 1)) n = fb_ct (fun h => if h = hdF par n k then true else anyB (fun w => decide (hdF par n w = h)) k) n := by
          apply fb_ct_cong
          intro h _
          rw [anyB]
          by_cases e : h = hdF par n k
          · rw [if_pos e, e, decide_eq_true rfl, Bool.or_true]
          · rw [if_neg e, decide_eq_false (fun z => e z.symm), Bool.or_false]
        rw [e2]
        omega
theorem parts_eq {n : Nat} {par : Nat → Option Nat} (hp : PW n par) : (pcF par n n).1 = fb_ct (fun j => decide (hdF par n j = j)) n := by
  rw [(pc_inv hp n (Nat.le_refl _)).2]
  apply fb_ct_cong
  intro h hh
  by_cases e : hdF par n h = h
  · rw [decide_eq_true e]
    exact anyB_yes hh (by simpa using e)
  · rw [decide_eq_false e]
    apply anyB_no
    intro w hw
    apply decide_eq_false
    intro z
    apply e
    rw [← z]
    exact hd_hd hp hw
