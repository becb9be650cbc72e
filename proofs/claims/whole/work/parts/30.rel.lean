-- BOTH STATES AGREE
def inV (c : Int32) : Prop := 0 ≤ c.toInt ∧ c.toInt ≤ 65535
theorem inV_vV {c : Int32} : vV c = true ↔ inV c := by
  unfold vV inV
  simp only [Bool.and_eq_true, Bool.not_eq_true', decide_eq_false_iff_not, i32_lt]
  have e0 : (0 : Int32).toInt = 0 := rfl
  have e1 : (65535 : Int32).toInt = 65535 := rfl
  omega
theorem inV_nI {m : Nat} (h : m ≤ 65535) : inV (nI m) := by
  unfold inV; rw [nI_toInt (by omega)]; omega
theorem inV_ex {c : Int32} (h : inV c) : ∃ m, m ≤ 65535 ∧ c = nI m := by
  have h0 : ¬ c < 0 := by rw [i32_lt]; have e0 : (0 : Int32).toInt = 0 := rfl; have := h.1; omega
  obtain ⟨j, hj, rfl⟩ := nI_of h0
  have := h.2
  rw [nI_toInt hj] at this
  exact ⟨j, by omega, rfl⟩
theorem inV_0 {c : Int32} (h : inV c) : ¬ c < 0 := by rw [i32_lt]; have e0 : (0 : Int32).toInt = 0 := rfl; have := h.1; omega
theorem inV_7 {c : Int32} (h : inV c) : ¬ c = -7 := by
  intro e; rw [e] at h
  have e7 : (-7 : Int32).toInt = -7 := rfl
  have := h.1; omega
def REL (n : Nat) (ids : Nat → Int32) (par : Nat → Option Nat) (rows : Nat → Nat → Int32) (pr rd : Nat) (cols : Nat → Int32) : Prop :=
  (n ≤ 24 ∧ pr < 18 ∧ PW n par) ∧ (∀ v, v < n → inV (ids v)) ∧ (∀ v, v < n → inV (rows pr v)) ∧ (∀ i j, n ≤ j → rows i j = 0) ∧ (∀ r j, r < 17 → n ≤ j → j < 24 → cols (24 * r + j) = 0) ∧ ∀ k, k ≤ rd → k ≤ 16 → mcol cols (rd - k) = rows (pastR pr k)
section
variable {n : Nat} {ids : Nat → Int32} {par : Nat → Option Nat} {rows : Nat → Nat → Int32} {pr rd : Nat} {cols : Nat → Int32}
theorem REL.hn (h : REL n ids par rows pr rd cols) : n ≤ 24 := h.1.1
theorem REL.hpr (h : REL n ids par rows pr rd cols) : pr < 18 := h.1.2.1
theorem REL.hp (h : REL n ids par rows pr rd cols) : PW n par := h.1.2.2
theorem REL.col (h : REL n ids par rows pr rd cols) : mcol cols rd = rows pr := by
  have := h.2.2.2.2.2 0 (Nat.zero_le _) (Nat.zero_le _)
  rw [show pastR pr 0 = pr from if_pos (Nat.zero_le _)] at this
  exact this
theorem REL.start (h : REL n ids par rows pr rd cols) : REL n ids par rows pr 0 (scF cols rd 24) := by
  refine ⟨h.1, h.2.1, h.2.2.1, h.2.2.2.1, fun r j hr hj hj2 => ?_, fun k hk _ => ?_⟩
  · unfold scF
    split
    · rename_i hlt
      rw [mcol_lt hlt, show 24 * r + j = j by omega]
      exact h.2.2.2.2.1 _ j (Nat.mod_lt _ (by omega)) hj hj2
    · exact h.2.2.2.2.1 r j hr hj hj2
  · have hk0 : k = 0 := by omega
    subst hk0
    rw [show pastR pr 0 = pr from if_pos (Nat.zero_le _)]
    show mcol (scF cols rd 24) 0 = rows pr
    rw [scF_col]
    exact h.col
theorem REL.par' (h : REL n ids par rows pr rd cols) {par' : Nat → Option Nat} (hp : PW n par') : REL n ids par' rows pr rd cols := ⟨⟨h.hn, h.hpr, hp⟩, h.2⟩
theorem mset_col {v : Nat} {c : Int32} (hv : v < 24) : mcol (mset cols 0 v c) 0 = va_up (mcol cols 0) v c := by
  funext w
  by_cases hw : w < 24
  · rw [mcol_lt hw]
    unfold mset
    by_cases e : w = v
    · subst e; rw [va_up_self, va_up_self]
    · rw [va_up_ne _ _ (by omega), va_up_ne _ _ e, mcol_lt hw]
  · rw [va_up_ne _ _ (by omega)]
    unfold mcol
    rw [if_neg hw, if_neg hw]
theorem REL.set (h : REL n ids par rows pr 0 cols) {v : Nat} (hv : v < n) {c : Int32} (hc : inV c) : REL n ids par (setR rows pr v c) pr 0 (mset cols 0 v c) := by
  have hn := h.hn
  refine ⟨h.1, h.2.1, fun w hw => ?_, fun i j hj => ?_, fun r j hr hj hj2 => ?_, fun k hk _ => ?_⟩
  · unfold setR
    rw [va_up_self]
    by_cases e : w = v
    · subst e; rw [va_up_self]; exact hc
    · rw [va_up_ne _ _ e]; exact h.2.2.1 w hw
  · unfold setR
    by_cases e : i = pr
    · subst e; rw [va_up_self, va_up_ne _ _ (by omega)]; exact h.2.2.2.1 _ j hj
    · rw [va_up_ne _ _ e]; exact h.2.2.2.1 _ j hj
  · unfold mset
    rw [va_up_ne _ _ (by omega)]
    exact h.2.2.2.2.1 r j hr hj hj2
  · have hk0 : k = 0 := by omega
    subst hk0
    rw [show pastR pr 0 = pr from if_pos (Nat.zero_le _)]
    show mcol (mset cols 0 v c) 0 = setR rows pr v c pr
    rw [mset_col (by omega), h.col]
    unfold setR
    rw [va_up_self]
theorem REL.add (h : REL n ids par rows pr 0 cols) (hn : n < 24) {c : Int32} (hc : inV c) : REL (n + 1) (va_up ids n c) (va_up par n none) (setR rows pr n c) pr 0 (mset cols 0 n c) := by
  refine ⟨⟨by omega, h.hpr, fun v hv u hu => ?_⟩, fun w hw => ?_, fun w hw => ?_, fun i j hj => ?_, fun r j hr hj hj2 => ?_, fun k hk _ => ?_⟩
  · by_cases e : v = n
    · subst e; rw [va_up_self] at hu; cases hu
    · rw [va_up_ne _ _ e] at hu
      have := h.hp v (by omega) u hu
      exact ⟨by omega, this.2⟩
  · by_cases e : w = n
    · subst e; rw [va_up_self]; exact hc
    · rw [va_up_ne _ _ e]; exact h.2.1 w (by omega)
  · unfold setR
    rw [va_up_self]
    by_cases e : w = n
    · subst e; rw [va_up_self]; exact hc
    · rw [va_up_ne _ _ e]; exact h.2.2.1 w (by omega)
  · unfold setR
    by_cases e : i = pr
    · subst e; rw [va_up_self, va_up_ne _ _ (by omega)]; exact h.2.2.2.1 _ j (by omega)
    · rw [va_up_ne _ _ e]; exact h.2.2.2.1 _ j (by omega)
  · unfold mset
    rw [va_up_ne _ _ (by omega)]
    exact h.2.2.2.2.1 r j hr (by omega) hj2
  · have hk0 : k = 0 := by omega
    subst hk0
    rw [show pastR pr 0 = pr from if_pos (Nat.zero_le _)]
    show mcol (mset cols 0 n c) 0 = setR rows pr n c pr
    rw [mset_col (by omega), h.col]
    unfold setR
    rw [va_up_self]
theorem past_nx {pr k : Nat} (hpr : pr < 18) (hk : k ≤ 15) : pastR (nxR pr) (k + 1) = pastR pr k := by
  unfold pastR nxR; split <;> split <;> split <;> omega
theorem past_ne {pr k : Nat} (hpr : pr < 18) (hk : k ≤ 16) : pastR pr k ≠ nxR pr := by
  unfold pastR nxR; split <;> split <;> omega
theorem REL.round (h : REL n ids par rows pr rd cols) {f : Nat → Int32} (hf : ∀ v, v < n → inV (f v)) (nx : Nat → Int32) : REL n ids par (fR rows pr f n) (nxR pr) (rd + 1) (fb_put cols (pF nx f n) (24 * ((rd + 1) % 17)) n) := by
  have hn := h.hn
  have hR : (rd + 1) % 17 < 17 := Nat.mod_lt _ (by omega)
  refine ⟨⟨hn, nxR_lt h.hpr, h.hp⟩, h.2.1, fun v hv => ?_, fun i j hj => ?_, fun r j hr hj hj2 => ?_, fun k hk hk2 => ?_⟩
  · rw [fR_nx]; simp only; rw [if_pos hv]; exact hf v hv
  · by_cases e : i = nxR pr
    · subst e; rw [fR_nx]; simp only; rw [if_neg (by omega)]; exact h.2.2.2.1 _ j hj
    · unfold fR; rw [va_up_ne _ _ e]; exact h.2.2.2.1 _ j hj
  · rw [fb_put_out (by omega)]
    exact h.2.2.2.2.1 r j hr hj hj2
  · cases k with
    | zero =>
      rw [show pastR (nxR pr) 0 = nxR pr from if_pos (Nat.zero_le _), fR_nx]
      show mcol _ (rd + 1) = _
      funext w
      by_cases hw : w < 24
      · rw [mcol_lt hw]
        by_cases hwn : w < n
        · rw [fb_put_in (by omega) (by omega), if_pos hwn, show 24 * ((rd + 1) % 17) + w - 24 * ((rd + 1) % 17) = w by omega]
          exact if_pos hwn
        · rw [fb_put_out (by omega), if_neg hwn, h.2.2.2.2.1 _ w hR (by omega) hw, h.2.2.2.1 _ w (by omega)]
      · rw [if_neg (by omega), h.2.2.2.1 _ w (by omega)]
        exact if_neg hw
    | succ k =>
      rw [past_nx h.hpr (by omega), show rd + 1 - (k + 1) = rd - k by omega]
      have hne := past_ne (k := k) h.hpr (by omega)
      unfold fR
      rw [va_up_ne _ _ hne, ← h.2.2.2.2.2 k (by omega) (by omega)]
      funext w
      by_cases hw : w < 24
      · rw [mcol_lt hw, mcol_lt hw, fb_put_out (by omega)]
      · unfold mcol
        rw [if_neg hw, if_neg hw]
/-- a refused elimination has written in the spare row alone -/
theorem REL.spare (h : REL n ids par rows pr rd cols) (f : Nat → Int32) {k : Nat} (hk : k ≤ n) : REL n ids par (fR rows pr f k) pr rd cols := by
  refine ⟨h.1, h.2.1, fun v hv => ?_, fun i j hj => ?_, h.2.2.2.2.1, fun q hq hq2 => ?_⟩
  · rw [fR_pr h.hpr]; exact h.2.2.1 v hv
  · by_cases e : i = nxR pr
    · subst e; rw [fR_nx]; simp only; rw [if_neg (by omega)]; exact h.2.2.2.1 _ j hj
    · unfold fR; rw [va_up_ne _ _ e]; exact h.2.2.2.1 _ j hj
  · unfold fR
    rw [va_up_ne _ _ (past_ne h.hpr hq2)]
    exact h.2.2.2.2.2 q hq hq2
theorem REL.past (h : REL n ids par rows pr rd cols) (hrd : rd < 100000) (r : Int32) (v : Nat) : pastF rows pr rd r v = mpast cols rd r v := by
  unfold pastF mpast
  by_cases hc : wiB r 0 16 = true
  · have hc2 : ¬ (r < 0 ∨ 16 < r) := by
      simp only [wiB, Bool.and_eq_true, Bool.not_eq_true', decide_eq_false_iff_not] at hc
      rintro (z | z)
      · exact hc.1 z
      · exact hc.2 z
    rw [if_neg hc2, if_neg (show ¬ wiB r 0 16 = false by rw [hc]; simp)]
    obtain ⟨q, hq, rfl⟩ := wi_16 hc
    by_cases hlt : nI rd < nI q
    · rw [if_pos hlt, if_pos hlt]
    · rw [if_neg hlt, if_neg hlt, nI_clamp (by omega)]
      have hqr : q ≤ rd := by
        rcases Nat.lt_or_ge rd q with z | z
        · exact absurd (nI_lt z (by omega)) hlt
        · exact z
      rw [h.2.2.2.2.2 q hqr hq]
  · have hc2 : r < 0 ∨ 16 < r := by
      simp only [wiB, Bool.and_eq_true, Bool.not_eq_true', decide_eq_false_iff_not] at hc
      rcases Classical.em (r < 0) with z | z
      · exact Or.inl z
      · exact Or.inr (Classical.byContradiction fun z2 => hc ⟨z, z2⟩)
    rw [if_pos hc2, if_pos (by simpa using hc)]
theorem pr_reset (h : REL n ids par rows pr rd cols) : REL n ids par (rsR rows pr ids n) pr 0 (fb_put (scF cols rd 24) ids (24 * (0 % 17)) n) := by
  have h0 := h.start
  have hn := h.hn
  refine ⟨h.1, h.2.1, fun v hv => ?_, fun i j hj => ?_, fun r j hr hj hj2 => ?_, fun k hk _ => ?_⟩
  · unfold rsR; rw [va_up_self, if_pos hv]; exact h.2.1 v hv
  · unfold rsR
    by_cases e : i = pr
    · subst e; rw [va_up_self, if_neg (by omega)]; exact h.2.2.2.1 _ j hj
    · rw [va_up_ne _ _ e]; exact h.2.2.2.1 _ j hj
  · rw [fb_put_out (by omega)]
    exact h0.2.2.2.2.1 r j hr hj hj2
  · have hk0 : k = 0 := by omega
    subst hk0
    rw [show pastR pr 0 = pr from if_pos (Nat.zero_le _)]
    show mcol _ 0 = rsR rows pr ids n pr
    unfold rsR
    rw [va_up_self]
    funext w
    have hc := congrFun h0.col w
    by_cases hw : w < 24
    · rw [mcol_lt hw] at hc ⊢
      by_cases hwn : w < n
      · rw [fb_put_in (by omega) (by omega), if_pos hwn, show 24 * (0 % 17) + w - 24 * (0 % 17) = w by omega]
      · rw [fb_put_out (by omega), if_neg hwn]; exact hc
    · rw [if_neg (by omega), h.2.2.2.1 _ w (by omega)]
      exact if_neg hw
end
