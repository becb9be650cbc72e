-- Integer.bitCount and Integer.numberOfTrailingZeros, as functions
def ush (x k : Int32) : Int32 := (x.toUInt32 >>> (k.toUInt32 &&& Int32.toUInt32 31)).toInt32
def bc1 (x : Int32) : Int32 := x - (ush x 1 &&& 1431655765)
def bc2 (x : Int32) : Int32 := (x &&& 858993459) + (ush x 2 &&& 858993459)
def bc3 (x : Int32) : Int32 := (x + ush x 4) &&& 252645135
def bc4 (x : Int32) : Int32 := x + ush x 8
def bc5 (x : Int32) : Int32 := x + ush x 16
def bcJ (x : Int32) : Int32 := bc5 (bc4 (bc3 (bc2 (bc1 x)))) &&& 63
def nz3 (y n : Int32) : Int32 := if y ≤ 4 then n + ush y 1 else (n + 2) + ush (ush y 2) 1
def nz2 (y n : Int32) : Int32 := if y ≤ 16 then nz3 y n else nz3 (ush y 4) (n + 4)
def nz1 (y n : Int32) : Int32 := if y ≤ 256 then nz2 y n else nz2 (ush y 8) (n + 8)
def nz0 (y n : Int32) : Int32 := if y ≤ 65536 then nz1 y n else nz1 (ush y 16) (n + 16)
def ntzY (y : Int32) : Int32 := if 0 < y then nz0 y 1 else y &&& 32
def ntzJ (x : Int32) : Int32 := ntzY ((x ^^^ (-1)) &&& (x - 1))
theorem ush_nI {m k : Nat} (hm : m < 2 ^ 32) (hk : k < 32) : ush (nI m) (nI k) = nI (m / 2 ^ k) := pk_ushrN hm (nI k) k (s_u k hk)
theorem and_split {a k : Nat} (r K : Nat) (ha : a < 256) (hk : k < 256) : (a + 256 * r) &&& (k + 256 * K) = (a &&& k) + 256 * (r &&& K) := by
  have hak : a &&& k < 2 ^ 8 := Nat.lt_of_le_of_lt Nat.and_le_left ha
  apply Nat.eq_of_testBit_eq
  intro i
  rw [Nat.testBit_and, Nat.add_comm a, Nat.add_comm k, Nat.add_comm (a &&& k), show (256 : Nat) = 2 ^ 8 from rfl, Nat.testBit_two_pow_mul_add _ ha, Nat.testBit_two_pow_mul_add _ hk, Nat.testBit_two_pow_mul_add _ hak]
  split <;> rw [Nat.testBit_and]
theorem by1 : ∀ t, t < 2 → ∀ a, a < 256 → (a / 2 + 128 * t) &&& 85 = (a / 2) &&& 85 := by decide +kernel
theorem by2 : ∀ t, t < 4 → ∀ a, a < 256 → (a / 4 + 64 * t) &&& 51 = (a / 4) &&& 51 := by decide +kernel
theorem by3 : ∀ t, t < 5 → ∀ a, a < 137 → (a + 16 * t) &&& 15 = a &&& 15 := by decide +kernel
def q1 (a : Nat) : Nat := a - ((a / 2) &&& 85)
def q2 (a : Nat) : Nat := (a &&& 51) + ((a / 4) &&& 51)
def q3 (a : Nat) : Nat := (a + a / 16) &&& 15
theorem q_b : ∀ a, a < 256 → (a / 2) &&& 85 ≤ a ∧ q1 a < 256 ∧ q2 (q1 a) < 69 ∧ q2 (q1 a) % 16 < 5 ∧ q2 (q1 a) / 16 < 5 ∧ q3 (q2 (q1 a)) ≤ 8 := by decide +kernel
theorem q_cnt (b0 b1 b2 b3 b4 b5 b6 b7 : Bool) : q3 (q2 (q1 (0 + (if b0 = true then 2 ^ 0 else 0) + (if b1 = true then 2 ^ 1 else 0) + (if b2 = true then 2 ^ 2 else 0) + (if b3 = true then 2 ^ 3 else 0) + (if b4 = true then 2 ^ 4 else 0) + (if b5 = true then 2 ^ 5 else 0) + (if b6 = true then 2 ^ 6 else 0) + (if b7 = true then 2 ^ 7 else 0)))) = 0 + (if b0 = true then 1 else 0) + (if b1 = true then 1 else 0) + (if b2 = true then 1 else 0) + (if b3 = true then 1 else 0) + (if b4 = true then 1 else 0) + (if b5 = true then 1 else 0) + (if b6 = true then 1 else 0) + (if b7 = true then 1 else 0) := by
  revert b0 b1 b2 b3 b4 b5 b6 b7
  decide +kernel
theorem q_byte (w : Nat → Bool) : q3 (q2 (q1 (msk w 8))) = fb_ct w 8 := q_cnt (w 0) (w 1) (w 2) (w 3) (w 4) (w 5) (w 6) (w 7)
theorem st1 {a r K : Nat} (ha : a < 256) : (a + 256 * r) / 2 &&& (85 + 256 * K) = (a / 2 &&& 85) + 256 * (r / 2 &&& K) := by
  have e : (a + 256 * r) / 2 = (a / 2 + 128 * (r % 2)) + 256 * (r / 2) := by omega
  rw [e, and_split _ _ (by omega) (by omega), by1 _ (Nat.mod_lt _ (by omega)) _ ha]
theorem st2 {a r K : Nat} (ha : a < 256) : (a + 256 * r) / 4 &&& (51 + 256 * K) = (a / 4 &&& 51) + 256 * (r / 4 &&& K) := by
  have e : (a + 256 * r) / 4 = (a / 4 + 64 * (r % 4)) + 256 * (r / 4) := by omega
  rw [e, and_split _ _ (by omega) (by omega), by2 _ (Nat.mod_lt _ (by omega)) _ ha]
theorem st3 {a r K : Nat} (ha : a < 69) (hr : r % 16 < 5) : (a + 256 * r) + (a + 256 * r) / 16 &&& (15 + 256 * K) = ((a + a / 16) &&& 15) + 256 * (r + r / 16 &&& K) := by
  have e : (a + 256 * r) + (a + 256 * r) / 16 = ((a + a / 16) + 16 * (r % 16)) + 256 * (r + r / 16) := by omega
  rw [e, and_split _ _ (by omega) (by omega), by3 _ hr _ (by omega)]
theorem st0 {a K : Nat} (k : Nat) (ha : a < 256) (hk : k < 256) : a &&& (k + 256 * K) = a &&& k := by
  have := and_split (a := a) (k := k) 0 K ha hk
  simpa using this
theorem swar {a b c : Nat} (ha : a < 256) (hb : b < 256) (hc : c < 256) : bc3 (bc2 (bc1 (nI (a + 256 * (b + 256 * c))))) = nI (q3 (q2 (q1 a)) + 256 * (q3 (q2 (q1 b)) + 256 * q3 (q2 (q1 c)))) := by
  obtain ⟨a1, a2, a3, a4, a5, a6⟩ := q_b a ha
  obtain ⟨b1, b2, b3, b4, b5, b6⟩ := q_b b hb
  obtain ⟨c1, c2, c3, c4, c5, c6⟩ := q_b c hc
  have e1 : bc1 (nI (a + 256 * (b + 256 * c))) = nI (q1 a + 256 * (q1 b + 256 * q1 c)) := by
    unfold bc1
    rw [show (1 : Int32) = nI 1 from rfl, ush_nI (by omega) (by omega), show (1431655765 : Int32) = nI 1431655765 from by decide, nx_and, show 1431655765 = 85 + 256 * (85 + 256 * (85 + 256 * 85)) from rfl, Nat.pow_one, st1 ha, st1 hb, st0 85 (by omega) (by omega)]
    unfold q1 at *
    rw [pk_sub (by omega)]
    congr 1
    omega
  have e2 : bc2 (nI (q1 a + 256 * (q1 b + 256 * q1 c))) = nI (q2 (q1 a) + 256 * (q2 (q1 b) + 256 * q2 (q1 c))) := by
    unfold bc2
    rw [show (2 : Int32) = nI 2 from rfl, ush_nI (by omega) (by omega), show (858993459 : Int32) = nI 858993459 from by decide, nx_and, nx_and, show 858993459 = 51 + 256 * (51 + 256 * (51 + 256 * 51)) from rfl, show 2 ^ 2 = 4 from rfl, st2 a2, st2 b2, st0 51 (show q1 c / 4 < 256 by omega) (by omega), and_split _ _ a2 (by omega), and_split _ _ b2 (by omega), st0 51 c2 (by omega), nI_add]
    congr 1
    unfold q2
    omega
  have e3 : bc3 (nI (q2 (q1 a) + 256 * (q2 (q1 b) + 256 * q2 (q1 c)))) = nI (q3 (q2 (q1 a)) + 256 * (q3 (q2 (q1 b)) + 256 * q3 (q2 (q1 c)))) := by
    unfold bc3
    rw [show (4 : Int32) = nI 4 from rfl, ush_nI (by omega) (by omega), show (252645135 : Int32) = nI 252645135 from by decide, nI_add, nx_and, show 252645135 = 15 + 256 * (15 + 256 * (15 + 256 * 15)) from rfl, show 2 ^ 4 = 16 from rfl, st3 a3 (by omega), st3 b3 c4, st0 15 (by omega) (by omega)]
    rfl
  rw [e1, e2, e3]
theorem msk_split (w : Nat → Bool) (m : Nat) : ∀ k, msk w (m + k) = msk w m + 2 ^ m * msk (fun i => w (m + i)) k
  | 0 => by simp [msk]
  | k + 1 => by
    rw [← Nat.add_assoc, msk, msk_split w m k, msk, Nat.mul_add, Nat.add_assoc]
    congr 2
    split
    · rw [Nat.pow_add]
    · rfl
theorem msk_beyond (w : Nat → Bool) (n : Nat) : ∀ k, msk (fun i => decide (i < n) && w i) (n + k) = msk w n
  | 0 => by
    have h : ∀ j, j ≤ n → msk (fun i => decide (i < n) && w i) j = msk w j := by
      intro j
      induction j with
      | zero => intro _; rfl
      | succ j ih => intro hj; rw [msk, msk, ih (by omega)]; simp [show j < n by omega]
    exact h n (Nat.le_refl _)
  | k + 1 => by
    rw [← Nat.add_assoc, msk, msk_beyond w n k]
    simp
    intro h
    omega
theorem ct_beyond (w : Nat → Bool) (n : Nat) : ∀ k, fb_ct (fun i => decide (i < n) && w i) (n + k) = fb_ct w n
  | 0 => fb_ct_cong (fun k hk => by simp [show k < n from hk])
  | k + 1 => by
    rw [← Nat.add_assoc, fb_ct_succ, ct_beyond w n k]
    simp
    intro h
    omega
theorem bc_mk {n : Nat} (hn : n ≤ 24) (w : Nat → Bool) : bcJ (mk n w) = nI (fb_ct w n) := by
  have h1 := msk_beyond w n (24 - n)
  have h2 := ct_beyond w n (24 - n)
  rw [show n + (24 - n) = 24 by omega] at h1 h2
  unfold mk
  rw [← h1, ← h2]
  generalize (fun i => decide (i < n) && w i) = z
  have e : msk z 24 = msk z 8 + 256 * (msk (fun i => z (8 + i)) 8 + 256 * msk (fun i => z (16 + i)) 8) := by
    have e1 := msk_split z 8 16
    have e2 := msk_split (fun i => z (8 + i)) 8 8
    have e3 : (fun i => (fun i => z (8 + i)) (8 + i)) = fun i => z (16 + i) := by funext i; show z (8 + (8 + i)) = _; rw [← Nat.add_assoc]
    rw [e3] at e2
    rw [show (24 : Nat) = 8 + 16 from rfl, e1, show (16 : Nat) = 8 + 8 from rfl, e2]
  have c : fb_ct z 24 = fb_ct z 8 + (fb_ct (fun i => z (8 + i)) 8 + fb_ct (fun i => z (16 + i)) 8) := by
    have e1 := fb_ct_split z 8 16
    have e2 := fb_ct_split (fun i => z (8 + i)) 8 8
    have e3 : (fun i => (fun i => z (8 + i)) (8 + i)) = fun i => z (16 + i) := by funext i; show z (8 + (8 + i)) = _; rw [← Nat.add_assoc]
    rw [e3] at e2
    rw [show (24 : Nat) = 8 + 16 from rfl, e1, show (16 : Nat) = 8 + 8 from rfl, e2]
  rw [e, c]
  have x1 := msk_lt z 8
  have x2 := msk_lt (fun i => z (8 + i)) 8
  have x3 := msk_lt (fun i => z (16 + i)) 8
  unfold bcJ
  rw [swar x1 x2 x3, q_byte, q_byte, q_byte]
  have y1 := fb_ct_le z 8
  have y2 := fb_ct_le (fun i => z (8 + i)) 8
  have y3 := fb_ct_le (fun i => z (16 + i)) 8
  generalize fb_ct z 8 = A at *
  generalize fb_ct (fun i => z (8 + i)) 8 = B at *
  generalize fb_ct (fun i => z (16 + i)) 8 = C at *
  have e4 : bc4 (nI (A + 256 * (B + 256 * C))) = nI ((A + B) + 256 * (B + C) + 65536 * C) := by
    unfold bc4
    rw [show (8 : Int32) = nI 8 from rfl, ush_nI (by omega) (by omega), nI_add]
    congr 1
    omega
  have e5 : bc5 (nI ((A + B) + 256 * (B + C) + 65536 * C)) = nI ((A + B + C) + 256 * (B + C) + 65536 * C) := by
    unfold bc5
    rw [show (16 : Int32) = nI 16 from rfl, ush_nI (by omega) (by omega), nI_add]
    congr 1
    omega
  rw [e4, e5, show (63 : Int32) = nI 63 from rfl, nx_and, show 63 = 2 ^ 6 - 1 from rfl, Nat.and_two_pow_sub_one_eq_mod]
  congr 1
  omega
/-- the lowest bit -/
def lowb (x : Int32) : Nat := (fst (bt x) 32).getD 32
theorem ntz_k : ∀ k, k < 32 → ntzY (nI (2 ^ k - 1)) = nI k := by decide +kernel
theorem low_y {x : Int32} {k : Nat} (hk : k < 32) (h1 : bt x k = true) (h0 : ∀ j, j < k → bt x j = false) : (x ^^^ (-1)) &&& (x - 1) = nI (2 ^ k - 1) := by
  obtain ⟨m, hm, rfl⟩ : ∃ m, m < 2 ^ 32 ∧ x = nI m := ⟨x.toBitVec.toNat, x.toBitVec.isLt, by
    apply Int32.toBitVec_inj.1
    show x.toBitVec = BitVec.ofNat 32 x.toBitVec.toNat
    simp⟩
  have t1 : m.testBit k = true := by rw [← bt_nI m k hk]; exact h1
  have t0 : ∀ j, j < k → m.testBit j = false := fun j hj => by rw [← bt_nI m j (by omega)]; exact h0 j hj
  have hmod : m % 2 ^ k = 0 := by
    apply Nat.eq_of_testBit_eq
    intro i
    rw [Nat.testBit_mod_two_pow, Nat.zero_testBit]
    by_cases hi : i < k
    · simp [hi, t0 i hi]
    · simp [hi]
  obtain ⟨q, hq⟩ : ∃ q, m = 2 ^ k * q := ⟨m / 2 ^ k, by have := Nat.div_add_mod m (2 ^ k); omega⟩
  have hodd : q.testBit 0 = true := by
    have := t1
    rw [hq, show 2 ^ k * q = 2 ^ k * q + 0 from rfl, Nat.testBit_two_pow_mul_add _ (Nat.two_pow_pos k), if_neg (Nat.lt_irrefl _), Nat.sub_self] at this
    exact this
  have hpos := Nat.two_pow_pos k
  have hq1 : q % 2 = 1 := by simpa [Nat.testBit_zero] using hodd
  have hm1 : m - 1 = 2 ^ k * (q - 1) + (2 ^ k - 1) := by
    obtain ⟨r, rfl⟩ : ∃ r, q = r + 1 := ⟨q - 1, by omega⟩
    rw [hq, Nat.mul_succ, Nat.add_sub_cancel]
    omega
  have hmp : 1 ≤ m := by
    rcases Nat.eq_zero_or_pos m with h | h
    · rw [h] at t1; simp at t1
    · exact h
  rw [show nI m - 1 = nI (m - 1) from pk_sub hmp]
  apply b_ext
  intro i hi
  rw [b_and, b_xor, b_m1 i hi, bt_nI _ _ hi, bt_nI _ _ hi, bt_nI _ _ hi, hm1, Nat.testBit_two_pow_mul_add _ (show 2 ^ k - 1 < 2 ^ k by omega), Nat.testBit_two_pow_sub_one, hq, show 2 ^ k * q = 2 ^ k * q + 0 from rfl, Nat.testBit_two_pow_mul_add _ hpos]
  by_cases hik : i < k
  · simp [hik]
  · rw [if_neg hik, if_neg hik, decide_eq_false hik]
    generalize i - k = t
    cases t with
    | zero =>
      rw [hodd]; simp
    | succ t =>
      have e1 : q.testBit (t + 1) = (q / 2).testBit t := by rw [Nat.testBit_succ]
      have e2 : (q - 1).testBit (t + 1) = (q / 2).testBit t := by rw [Nat.testBit_succ]; congr 1; omega
      rw [e1, e2]
      cases (q / 2).testBit t <;> rfl
theorem bt_ne0 {x : Int32} (h : x ≠ 0) : ∃ k, k < 32 ∧ bt x k = true := by
  rcases fst_spec (p := bt x) (n := 32) with ⟨-, h1⟩ | ⟨k, -, h1, h2, -⟩
  · exact absurd (b_ext (fun i hi => by rw [h1 i hi, b_0])) h
  · exact ⟨k, h1, h2⟩
theorem ntz_low {x : Int32} (h : x ≠ 0) : ntzJ x = nI (lowb x) ∧ lowb x < 32 ∧ bt x (lowb x) = true ∧ ∀ j, j < lowb x → bt x j = false := by
  rcases fst_spec (p := bt x) (n := 32) with ⟨-, h1⟩ | ⟨k, h0, h1, h2, h3⟩
  · exact absurd (b_ext (fun i hi => by rw [h1 i hi, b_0])) h
  · have e : lowb x = k := by rw [lowb, h0]; rfl
    rw [e]
    exact ⟨by rw [ntzJ, low_y h1 h2 h3, ntz_k k h1], h1, h2, h3⟩
