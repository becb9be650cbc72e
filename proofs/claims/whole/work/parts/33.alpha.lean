-- GREATEST INDEPENDENT SETS
def indS (n : Nat) (par : Nat → Option Nat) (w x : Nat → Bool) : Prop := (∀ j, x j = true → j < n ∧ w j = true) ∧ ∀ i j, x i = true → x j = true → nb par i j = false
def IsA (n : Nat) (par : Nat → Option Nat) (w : Nat → Bool) (a : Nat) : Prop := (∃ x, indS n par w x ∧ fb_ct x n = a) ∧ ∀ x, indS n par w x → fb_ct x n ≤ a
theorem IsA_one {n : Nat} {par : Nat → Option Nat} {w : Nat → Bool} {a b : Nat} (h : IsA n par w a) (h' : IsA n par w b) : a = b := by
  obtain ⟨⟨x, h1, h2⟩, h3⟩ := h
  obtain ⟨⟨y, h4, h5⟩, h6⟩ := h'
  have := h3 y h4
  have := h6 x h1
  omega
theorem IsA_cong {n : Nat} {par : Nat → Option Nat} {w w' : Nat → Bool} {a : Nat} (h : ∀ j, j < n → w j = w' j) (hA : IsA n par w a) : IsA n par w' a := by
  have key : ∀ x, indS n par w x ↔ indS n par w' x := fun x => by
    constructor
    · exact fun hx => ⟨fun j hj => ⟨(hx.1 j hj).1, by rw [← h j (hx.1 j hj).1]; exact (hx.1 j hj).2⟩, hx.2⟩
    · exact fun hx => ⟨fun j hj => ⟨(hx.1 j hj).1, by rw [h j (hx.1 j hj).1]; exact (hx.1 j hj).2⟩, hx.2⟩
  exact ⟨by obtain ⟨x, h1, h2⟩ := hA.1; exact ⟨x, (key x).mp h1, h2⟩, fun x hx => hA.2 x ((key x).mpr hx)⟩
theorem IsA_empty {n : Nat} {par : Nat → Option Nat} {w : Nat → Bool} (h : ∀ j, j < n → w j = false) : IsA n par w 0 := by
  refine ⟨⟨fun _ => false, ⟨fun j hj => absurd hj Bool.false_ne_true, fun i j hi _ => absurd hi Bool.false_ne_true⟩, fb_ct_zero.mpr (fun _ _ => rfl)⟩, fun x hx => ?_⟩
  rw [fb_ct_zero.mpr]
  · exact Nat.le_refl _
  · intro k hk
    cases e : x k with
    | false => rfl
    | true =>
      have := (hx.1 k e).2
      rw [h k hk] at this
      cases this
theorem ct_del {x : Nat → Bool} {n q : Nat} (hq : q < n) (hx : x q = true) : fb_ct (fun j => x j && !(j == q)) n + 1 = fb_ct x n := by
  have h := fb_ct_upd x false hq
  rw [hx, if_pos rfl] at h
  have e : fb_ct (fun k => if k = q then false else x k) n = fb_ct (fun j => x j && !(j == q)) n := fb_ct_cong (fun k _ => by by_cases z : k = q <;> simp [z])
  rw [e] at h
  simpa using h
theorem ct_ins {x : Nat → Bool} {n q : Nat} (hq : q < n) (hx : x q = false) : fb_ct (fun j => x j || j == q) n = fb_ct x n + 1 := by
  have h := fb_ct_upd x true hq
  rw [hx, if_neg (by simp), if_pos rfl] at h
  have e : fb_ct (fun k => if k = q then true else x k) n = fb_ct (fun j => x j || j == q) n := fb_ct_cong (fun k _ => by by_cases z : k = q <;> simp [z])
  rw [e] at h
  omega
/-- two different ones: at least two -/
theorem ct_two {p : Nat → Bool} {n i j : Nat} (hi : i < n) (hj : j < n) (hne : i ≠ j) (h1 : p i = true) (h2 : p j = true) : 2 ≤ fb_ct p n := by
  have := ct_del hi h1
  have h3 : 0 < fb_ct (fun k => p k && !(k == i)) n := fb_ct_pos.mpr ⟨j, hj, by simp [h2, Ne.symm hne]⟩
  omega
theorem end_step {n : Nat} {par : Nat → Option Nat} (hp : PW n par) {w : Nat → Bool} {e a : Nat} (he : e < n) (hw : w e = true) (hd : fb_ct (fun o => nb par e o && w o) n ≤ 1) (hA : IsA n par (fun j => w j && !(nb par e j || j == e)) a) : IsA n par w (a + 1) := by
  obtain ⟨⟨x, ⟨h1, h2⟩, h3⟩, h4⟩ := hA
  refine ⟨⟨fun j => x j || j == e, ⟨fun j hj => ?_, fun i j hi hj => ?_⟩, ?_⟩, fun y hy => ?_⟩
  · simp only [Bool.or_eq_true, beq_iff_eq] at hj
    rcases hj with z | z
    · have := h1 j z
      simp only [Bool.and_eq_true] at this
      exact ⟨this.1, this.2.1⟩
    · rw [z]; exact ⟨he, hw⟩
  · simp only [Bool.or_eq_true, beq_iff_eq] at hi hj
    have hx : ∀ k, x k = true → nb par e k = false := fun k hk => by
      have := (h1 k hk).2
      simp only [Bool.and_eq_true, Bool.not_eq_true', Bool.or_eq_false_iff] at this
      exact this.2.1
    rcases hi with z | z <;> rcases hj with y | y
    · exact h2 i j z y
    · rw [y, nb_symm]; exact hx i z
    · rw [z]; exact hx j y
    · rw [z, y]; exact nb_irr hp he
  · rw [ct_ins he, h3]
    cases z : x e with
    | false => rfl
    | true =>
      have := (h1 e z).2
      simp at this
  · obtain ⟨y1, y2⟩ := hy
    by_cases hye : y e = true
    · have hz := h4 (fun j => y j && !(j == e)) ⟨fun j hj => ?_, fun i j hi hj => ?_⟩
      · have := ct_del he hye
        omega
      · simp only [Bool.and_eq_true, Bool.not_eq_true', beq_eq_false_iff_ne, ne_eq] at hj
        have := y1 j hj.1
        refine ⟨this.1, ?_⟩
        have hnb := y2 e j hye hj.1
        simp [this.2, hnb, hj.2]
      · simp only [Bool.and_eq_true] at hi hj
        exact y2 i j hi.1 hj.1
    · have hye : y e = false := by simpa using hye
      rcases Classical.em (∃ q, y q = true ∧ nb par e q = true) with ⟨q, hq1, hq2⟩ | hno
      · have hqn := y1 q hq1
        have hz := h4 (fun j => y j && !(j == q)) ⟨fun j hj => ?_, fun i j hi hj => ?_⟩
        · have := ct_del hqn.1 hq1
          omega
        · simp only [Bool.and_eq_true, Bool.not_eq_true', beq_eq_false_iff_ne, ne_eq] at hj
          have hjn := y1 j hj.1
          refine ⟨hjn.1, ?_⟩
          have hje : ¬ j = e := fun z => by rw [z, hye] at hj; cases hj.1
          cases hnb : nb par e j with
          | false => simp [hjn.2, hje, hnb]
          | true =>
            exfalso
            have := ct_two (p := fun o => nb par e o && w o) hqn.1 hjn.1 (Ne.symm hj.2) (by simp [hq2, hqn.2]) (by simp [hnb, hjn.2])
            omega
        · simp only [Bool.and_eq_true] at hi hj
          exact y2 i j hi.1 hj.1
      · have hz := h4 y ⟨fun j hj => ?_, y2⟩
        · omega
        · have hjn := y1 j hj
          refine ⟨hjn.1, ?_⟩
          have hje : ¬ j = e := fun z => by rw [z, hye] at hj; cases hj
          cases hnb : nb par e j with
          | false => simp [hjn.2, hje, hnb]
          | true => exact absurd ⟨j, hj, hnb⟩ hno
/-- counting along an injection -/
theorem ct_inj (n : Nat) (g : Nat → Nat) : ∀ (c : Nat) (x : Nat → Bool), (∀ i, i < c → g i < n) → (∀ i j, i < c → j < c → g i = g j → i = j) → (∀ j, j < n → x j = true → ∃ i, i < c ∧ g i = j) → fb_ct x n = fb_ct (fun i => x (g i)) c
  | 0, x, _, _, h => by
    rw [fb_ct_zero.mpr]
    · rfl
    · intro k hk
      cases e : x k with
      | false => rfl
      | true => obtain ⟨i, hi, -⟩ := h k hk e; omega
  | c + 1, x, h1, h2, h3 => by
    have ih := ct_inj n g c (fun j => x j && !(j == g c)) (fun i hi => h1 i (by omega)) (fun i j hi hj => h2 i j (by omega) (by omega)) (fun j hj hx => by
      simp only [Bool.and_eq_true, Bool.not_eq_true', beq_eq_false_iff_ne, ne_eq] at hx
      obtain ⟨i, hi, e⟩ := h3 j hj hx.1
      refine ⟨i, ?_, e⟩
      rcases Nat.lt_or_ge i c with z | z
      · exact z
      · exact absurd (by rw [← e, show i = c by omega]) hx.2)
    have e1 : fb_ct (fun i => (fun j => x j && !(j == g c)) (g i)) c = fb_ct (fun i => x (g i)) c := fb_ct_cong (fun i hi => by
      have : ¬ g i = g c := fun z => by have := h2 i c (by omega) (by omega) z; omega
      simp [this])
    rw [e1] at ih
    cases hx : x (g c) with
    | true =>
      have := ct_del (h1 c (by omega)) hx
      rw [fb_ct_t (p := fun i => x (g i)) hx]
      omega
    | false =>
      rw [fb_ct_f (p := fun i => x (g i)) hx, ← ih]
      exact fb_ct_cong (fun j _ => by
        by_cases z : j = g c
        · rw [z, hx]; rfl
        · simp [z])
/-- a cycle's nodes, by place -/
theorem cyc_inj {par : Nat → Option Nat} {t c : Nat} (h : CYC par t c) : ∀ i j, i < c → j < c → itS par i t = itS par j t → i = j := by
  obtain ⟨h1, h2, h3, -⟩ := h
  have key : ∀ i j, i < j → j < c → itS par i t = itS par j t → False := by
    intro i j hij hj e
    have e1 : itS par (c - j + i) t = t := by
      rw [Nat.add_comm, itS_add, e, ← itS_add, show j + (c - j) = c by omega, h2]
    exact h3 (c - j + i) (by omega) (by omega) e1
  intro i j hi hj e
  rcases Nat.lt_trichotomy i j with z | z | z
  · exact (key i j z hj e).elim
  · exact z
  · exact (key j i z hi e.symm).elim
theorem cyc_mod {par : Nat → Option Nat} {t c : Nat} (h : CYC par t c) (i : Nat) : itS par i t = itS par (i % c) t := by
  have hm : ∀ q, itS par (c * q) t = t := by
    intro q
    induction q with
    | zero => rfl
    | succ q ih => rw [Nat.mul_succ, itS_add, ih, h.2.1]
  conv => lhs; rw [← Nat.div_add_mod i c, itS_add, hm]
/-- the nodes of a cycle of three and more: half of them -/
theorem cyc_alpha {n : Nat} {par : Nat → Option Nat} (hp : PW n par) {t c : Nat} (ht : t < n) (h : CYC par t c) (hc : 3 ≤ c) {w : Nat → Bool} (hw : ∀ j, j < n → (w j = true ↔ ∃ i, i < c ∧ itS par i t = j)) : fb_ct w n = c ∧ IsA n par w (c / 2) := by
  have hlt := itS_lt hp ht
  have hin := cyc_inj h
  have hst := h.2.2.2
  have hwt : ∀ i, i < c → w (itS par i t) = true := fun i hi => (hw _ (hlt i)).mpr ⟨i, hi, rfl⟩
  have hcnt : ∀ x : Nat → Bool, (∀ j, x j = true → j < n ∧ w j = true) → fb_ct x n = fb_ct (fun i => x (itS par i t)) c := fun x hx => ct_inj n (fun i => itS par i t) c x (fun i _ => hlt i) hin (fun j hj z => (hw j hj).mp (hx j z).2)
  have hadj : ∀ i, nb par (itS par i t) (itS par (i + 1) t) = true := fun i => by unfold nb; rw [hst i]; simp
  refine ⟨?_, ⟨?_, fun x hx => ?_⟩⟩
  · have := ct_inj n (fun i => itS par i t) c w (fun i _ => hlt i) hin (fun j hj z => (hw j hj).mp z)
    rw [this]
    exact fb_ct_all.mpr hwt
  · -- every second place
    refine ⟨fun j => anyB (fun k => decide (itS par (2 * k) t = j)) (c / 2), ⟨fun j hj => ?_, fun i j hi hj => ?_⟩, ?_⟩
    · obtain ⟨k, hk, e⟩ := anyB_iff.mp hj
      have e : itS par (2 * k) t = j := by simpa using e
      rw [← e]
      exact ⟨hlt _, hwt _ (by omega)⟩
    · obtain ⟨k, hk, e⟩ := anyB_iff.mp hi
      obtain ⟨l, hl, e'⟩ := anyB_iff.mp hj
      have e : itS par (2 * k) t = i := by simpa using e
      have e' : itS par (2 * l) t = j := by simpa using e'
      rw [← e, ← e']
      have side : ∀ k l, k < c / 2 → l < c / 2 → ¬ par (itS par (2 * k) t) = some (itS par (2 * l) t) := by
        intro k l hk hl z
        rw [hst (2 * k)] at z
        have z := hin (2 * k + 1) (2 * l) (by omega) (by omega) (Option.some.inj z)
        omega
      have s1 := side k l hk hl
      have s2 := side l k hl hk
      simp [nb, s1, s2]
    · have e0 : ∀ k, fb_ct (fun j => anyB (fun k => decide (itS par (2 * k) t = j)) k) n = if k ≤ c / 2 then k else fb_ct (fun j => anyB (fun k => decide (itS par (2 * k) t = j)) k) n := by
        intro k
        induction k with
        | zero => rw [if_pos (Nat.zero_le _)]; exact fb_ct_zero.mpr (fun _ _ => rfl)
        | succ k ih =>
          by_cases hk : k + 1 ≤ c / 2
          · rw [if_pos hk]
            rw [if_pos (by omega)] at ih
            have hno : anyB (fun l => decide (itS par (2 * l) t = itS par (2 * k) t)) k = false := anyB_no (fun l hl => by
              apply decide_eq_false
              intro z
              have := hin (2 * l) (2 * k) (by omega) (by omega) z
              omega)
            have h2 := ct_ins (x := fun j => anyB (fun l => decide (itS par (2 * l) t = j)) k) (hlt (2 * k)) hno
            rw [ih] at h2
            refine Eq.trans (fb_ct_cong (fun j _ => ?_)) h2
            · show (anyB _ k || decide (itS par (2 * k) t = j)) = (anyB _ k || j == itS par (2 * k) t)
              congr 1
              by_cases z : itS par (2 * k) t = j
              · simp [z]
              · have z' : ¬ j = itS par (2 * k) t := fun q => z q.symm
                simp [z, z']
          · rw [if_neg hk]
      have := e0 (c / 2)
      rw [if_pos (Nat.le_refl _)] at this
      exact this
  · -- no two neighbours
    rw [hcnt x hx.1]
    have s1 : fb_ct (fun i => x (itS par i t)) c + fb_ct (fun i => x (itS par (i + 1) t)) c ≤ c := by
      rw [← fb_ct_or (fun k _ z => by have := hx.2 _ _ z.1 z.2; rw [hadj k] at this; cases this)]
      exact fb_ct_le _ c
    have s2 : fb_ct (fun i => x (itS par (i + 1) t)) c = fb_ct (fun i => x (itS par i t)) c := by
      have a1 := fb_ct_split (fun i => x (itS par i t)) 1 c
      have a2 : fb_ct (fun i => x (itS par i t)) (c + 1) = fb_ct (fun i => x (itS par i t)) c + (if x (itS par c t) = true then 1 else 0) := rfl
      have a3 : fb_ct (fun i => x (itS par i t)) 1 = (if x (itS par 0 t) = true then 1 else 0) := by show 0 + _ = _; rw [Nat.zero_add]
      have a4 : fb_ct (fun k => x (itS par (1 + k) t)) c = fb_ct (fun i => x (itS par (i + 1) t)) c := fb_ct_cong (fun i _ => by rw [Nat.add_comm])
      rw [Nat.add_comm 1 c, a2, a3, a4, h.2.1] at a1
      have : itS par 0 t = t := rfl
      rw [this] at a1
      omega
    omega
/-- what has no end is a cycle -/
theorem no_end {n : Nat} {par : Nat → Option Nat} (hp : PW n par) {w : Nat → Bool} {m v0 : Nat} (hv0 : v0 < n) (hw0 : w v0 = true) (hm : ∀ j, j < n → w j = true → hdF par n j = m) (hd : ∀ v, v < n → w v = true → 2 ≤ fb_ct (fun o => nb par v o && w o) n) : IsA n par w (fb_ct w n / 2) := by
  -- a child in w
  have child : ∀ v, v < n → w v = true → ∃ o, o < n ∧ w o = true ∧ par o = some v := by
    intro v hv hwv
    rcases Classical.em (∃ o, o < n ∧ w o = true ∧ par o = some v) with z | z
    · exact z
    · exfalso
      have h2 := hd v hv hwv
      obtain ⟨q, hq, hq2⟩ := fb_ct_pos.mp (show 0 < fb_ct (fun o => nb par v o && w o) n by omega)
      have hpar : ∀ o, o < n → (nb par v o && w o) = true → par v = some o := by
        intro o ho h
        simp only [Bool.and_eq_true, nb, Bool.or_eq_true, beq_iff_eq] at h
        rcases h.1 with y | y
        · exact y
        · exact absurd ⟨o, ho, h.2, y⟩ z
      have e1 : fb_ct (fun j => (nb par v j && w j) && !(j == q)) n + 1 = fb_ct (fun o => nb par v o && w o) n := ct_del (x := fun o => nb par v o && w o) hq hq2
      obtain ⟨r, hr, hr2⟩ := fb_ct_pos.mp (show 0 < fb_ct (fun j => (nb par v j && w j) && !(j == q)) n by omega)
      simp only [Bool.and_eq_true (nb par v r && w r)] at hr2
      have a1 := hpar q hq hq2
      have a2 := hpar r hr hr2.1
      rw [a1] at a2
      have a3 := Option.some.inj a2
      rw [a3] at hr2
      simp at hr2
  -- a chain of children
  have chain : ∀ v, v < n → w v = true → ∃ f : Nat → Nat, f 0 = v ∧ ∀ i, f i < n ∧ w (f i) = true ∧ par (f (i + 1)) = some (f i) := by
    intro v hv hwv
    let g : Nat → Nat := fun x => if h : x < n ∧ w x = true then Classical.choose (child x h.1 h.2) else 0
    have hg : ∀ x, x < n → w x = true → g x < n ∧ w (g x) = true ∧ par (g x) = some x := by
      intro x h1 h2
      have e : g x = Classical.choose (child x h1 h2) := dif_pos ⟨h1, h2⟩
      rw [e]
      exact Classical.choose_spec (child x h1 h2)
    let f : Nat → Nat := fun i => Nat.rec v (fun _ x => g x) i
    have hf : ∀ i, f i < n ∧ w (f i) = true := by
      intro i
      induction i with
      | zero => exact ⟨hv, hwv⟩
      | succ i ih => exact ⟨(hg _ ih.1 ih.2).1, (hg _ ih.1 ih.2).2.1⟩
    exact ⟨f, rfl, fun i => ⟨(hf i).1, (hf i).2, (hg _ (hf i).1 (hf i).2).2.2⟩⟩
  -- each is on a cycle, and so are its parents' steps in w
  have oncyc : ∀ v, v < n → w v = true → ∃ c, 1 ≤ c ∧ c ≤ n ∧ itS par c v = v ∧ par v ≠ none ∧ ∀ i, w (itS par i v) = true := by
    intro v hv hwv
    obtain ⟨f, f0, hf⟩ := chain v hv hwv
    have down : ∀ i k, itS par k (f (i + k)) = f i := by
      intro i k
      induction k with
      | zero => rfl
      | succ k ih =>
        rw [Nat.add_comm k 1, itS_add]
        have : itS par 1 (f (i + (1 + k))) = f (i + k) := by
          show stp par (f (i + (1 + k))) = _
          rw [show i + (1 + k) = (i + k) + 1 by omega]
          exact stp_some (hf (i + k)).2.2
        rw [this, ih]
    obtain ⟨i, j, hij, hj, e⟩ := fb_twice (m := n) (n := n + 1) (f := f) (fun i _ => (hf i).1) (by omega)
    -- f j is on a cycle
    have e1 : itS par (j - i) (f j) = f j := by
      have := down i (j - i)
      rw [show i + (j - i) = j by omega] at this
      rw [this, e]
    have e2 : itS par j (f j) = v := by
      have := down 0 j
      rw [Nat.zero_add] at this
      rw [this, f0]
    have hnr : par (f j) ≠ none := by
      obtain ⟨j', rfl⟩ : ∃ j', j = j' + 1 := ⟨j - 1, by omega⟩
      rw [(hf j').2.2]; simp
    have hall := cycle_nonroot (show 1 ≤ j - i by omega) e1 hnr
    have hwc : ∀ k, k ≤ j → w (itS par k (f j)) = true := by
      intro k hk
      have := down (j - k) k
      rw [show j - k + k = j by omega] at this
      rw [this]; exact (hf _).2.1
    have hm' : ∀ q, itS par ((j - i) * q) (f j) = f j := by
      intro q
      induction q with
      | zero => rfl
      | succ q ih => rw [Nat.mul_succ, itS_add, ih, e1]
    have hwa : ∀ k, w (itS par k (f j)) = true := by
      intro k
      have e3 : itS par k (f j) = itS par (k % (j - i)) (f j) := by
        conv => lhs; rw [← Nat.div_add_mod k (j - i), itS_add, hm']
      rw [e3]
      have := Nat.mod_lt k (show 0 < j - i by omega)
      exact hwc _ (by omega)
    refine ⟨j - i, by omega, by omega, ?_, ?_, fun k => ?_⟩
    · rw [← e2, ← itS_add, Nat.add_comm, itS_add, e1]
    · rw [← e2]; exact hall j
    · rw [← e2, ← itS_add]; exact hwa _
  obtain ⟨c0, hc1, hc2, hc3, hc4, hc5⟩ := oncyc v0 hv0 hw0
  obtain ⟨c, -, hcn, hC⟩ := cyc_on hc1 hc2 hc3 hc4
  have hcp : 0 < c := hC.1
  have hw : ∀ j, j < n → (w j = true ↔ ∃ i, i < c ∧ itS par i v0 = j) := by
    intro j hj
    constructor
    · intro hwj
      obtain ⟨c', d1, d2, d3, d4, d5⟩ := oncyc j hj hwj
      -- the same head: j and v0 meet
      obtain ⟨⟨i1, -, g1⟩, -⟩ := hd_mn hp hv0
      obtain ⟨⟨i2, -, g2⟩, -⟩ := hd_mn hp hj
      rw [hm v0 hv0 hw0] at g1
      rw [hm j hj hwj] at g2
      have hmj : ∀ q, itS par (c' * q) j = j := by
        intro q
        induction q with
        | zero => rfl
        | succ q ih => rw [Nat.mul_succ, itS_add, ih, d3]
      have e3 : itS par (c' * i2 - i2) m = j := by
        rw [← g2, ← itS_add]
        have : i2 ≤ c' * i2 := by have := Nat.mul_le_mul_right i2 d1; omega
        rw [show i2 + (c' * i2 - i2) = c' * i2 by omega, hmj]
      rw [← g1, ← itS_add, cyc_mod hC] at e3
      exact ⟨_, Nat.mod_lt _ hcp, e3⟩
    · rintro ⟨i, -, e⟩
      rw [← e]; exact hc5 i
  have hc3' : 3 ≤ c := by
    rcases Nat.lt_or_ge c 3 with z | z
    · exfalso
      have hst := hC.2.2.2
      have hd0 := hd v0 hv0 hw0
      have hone : ∀ o, o < n → (nb par v0 o && w o) = true → o = itS par 1 v0 := by
        intro o ho h
        simp only [Bool.and_eq_true] at h
        obtain ⟨i, hi, e⟩ := (hw o ho).mp h.2
        have hi2 : i = 0 ∨ i = 1 := by omega
        rcases hi2 with y | y
        · rw [y] at e
          have e : v0 = o := e
          rw [← e, nb_irr hp hv0] at h
          cases h.1
        · rw [← e, y]
      obtain ⟨q, hq, hq2⟩ := fb_ct_pos.mp (show 0 < fb_ct (fun o => nb par v0 o && w o) n by omega)
      have e1 : fb_ct (fun j => (nb par v0 j && w j) && !(j == q)) n + 1 = fb_ct (fun o => nb par v0 o && w o) n := ct_del (x := fun o => nb par v0 o && w o) hq hq2
      obtain ⟨r, hr, hr2⟩ := fb_ct_pos.mp (show 0 < fb_ct (fun j => (nb par v0 j && w j) && !(j == q)) n by omega)
      simp only [Bool.and_eq_true (nb par v0 r && w r)] at hr2
      have a1 := hone q hq hq2
      have a2 := hone r hr hr2.1
      rw [a2, ← a1] at hr2
      simp at hr2
    · exact z
  obtain ⟨r1, r2⟩ := cyc_alpha hp hv0 hC hc3' hw
  rw [r1]
  exact r2
/-- the class's answer -/
theorem gi_alpha {n : Nat} {par : Nat → Option Nat} (hp : PW n par) {m : Nat} : ∀ (f : Nat) (w : Nat → Bool) (z : Nat), fb_ct w n ≤ f → (∀ j, j < n → w j = true → hdF par n j = m) → ∃ a, IsA n par w a ∧ giF par n f w z = z + a
  | 0, w, z, hf, _ => ⟨0, IsA_empty (fb_ct_zero.mp (by omega)), rfl⟩
  | f + 1, w, z, hf, hm => by
    cases ha : anyB w n with
    | false =>
      refine ⟨0, IsA_empty (fun j hj => ?_), by rw [giF_0 ha]; rfl⟩
      cases e : w j with
      | false => rfl
      | true => rw [anyB_yes hj e] at ha; cases ha
    | true =>
      obtain ⟨v0, hv0, hw0⟩ := anyB_iff.mp ha
      cases he : endF par n w with
      | none =>
        refine ⟨fb_ct w n / 2, no_end hp hv0 hw0 hm (fun v hv hwv => ?_), giF_n ha he⟩
        have hno : endB par n w v = false := by
          rcases fst_spec (p := endB par n w) (n := n) with ⟨-, h2⟩ | ⟨k, h1, -, -, -⟩
          · exact h2 v hv
          · rw [endF, h1] at he; cases he
        simp only [endB, hwv, Bool.true_and, decide_eq_false_iff_not] at hno
        omega
      | some e =>
        obtain ⟨hen, heb⟩ := endF_lt he
        simp only [endB, Bool.and_eq_true, decide_eq_true_eq] at heb
        have hless : fb_ct (fun j => w j && !(nb par e j || j == e)) n ≤ f := by
          have h1 := ct_del hen heb.1
          have h2 : fb_ct (fun j => w j && !(nb par e j || j == e)) n ≤ fb_ct (fun j => w j && !(j == e)) n := fb_ct_sub (fun k _ h => by
            simp only [Bool.and_eq_true, Bool.not_eq_true', Bool.or_eq_false_iff] at h ⊢
            exact ⟨h.1, h.2.2⟩)
          omega
        obtain ⟨a, h1, h2⟩ := gi_alpha hp (m := m) f (fun j => w j && !(nb par e j || j == e)) (z + 1) hless (fun j hj h => hm j hj (by simp only [Bool.and_eq_true] at h; exact h.1))
        exact ⟨a + 1, end_step hp hen heb.1 heb.2 h1, by rw [giF_s ha he, h2]; omega⟩
theorem gi_part {n : Nat} {par : Nat → Option Nat} (hp : PW n par) {v : Nat} (hv : v < n) : IsA n par (partW par n v) (giF par n n (partW par n v) 0) := by
  obtain ⟨a, h1, h2⟩ := gi_alpha hp (m := hdF par n v) n (partW par n v) 0 (fb_ct_le _ n) (fun j hj h => by rw [part_hd hp hv hj] at h; exact of_decide_eq_true h)
  rw [h2, Nat.zero_add]
  exact h1
