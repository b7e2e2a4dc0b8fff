/-! PURE 82: a copy as a number, changed -/
theorem put_bits (k w z hi mid lo v : Nat) (hlo : lo < 2 ^ k) (hmid : mid < 2 ^ w) (hv : v < 2 ^ w) (hhi : hi < 2 ^ z) : ((2 ^ k * (2 ^ w * hi + mid) + lo) &&& (2 ^ k * (2 ^ w * (2 ^ z - 1) + 0) + (2 ^ k - 1))) ||| (2 ^ k * v) = 2 ^ k * (2 ^ w * hi + v) + lo := by
  have h1 : 2 ^ k - 1 < 2 ^ k := by
    have := Nat.two_pow_pos k
    omega
  have h0 : 0 < 2 ^ w := Nat.two_pow_pos w
  apply Nat.eq_of_testBit_eq
  intro i
  have e1 : (2 ^ k * v).testBit i = if i < k then false else v.testBit (i - k) := by
    have := Nat.testBit_two_pow_mul_add v (Nat.two_pow_pos k) i
    rw [Nat.add_zero, Nat.zero_testBit] at this
    exact this
  rw [Nat.testBit_or, Nat.testBit_and, Nat.testBit_two_pow_mul_add _ hlo, Nat.testBit_two_pow_mul_add _ h1, Nat.testBit_two_pow_mul_add _ hlo, e1, Nat.testBit_two_pow_sub_one]
  by_cases hi1 : i < k
  · simp [hi1]
  · simp only [hi1, if_false]
    rw [Nat.testBit_two_pow_mul_add _ hmid, Nat.testBit_two_pow_mul_add _ h0, Nat.testBit_two_pow_mul_add _ hv, Nat.zero_testBit, Nat.testBit_two_pow_sub_one]
    by_cases hi2 : i - k < w
    · simp [hi2]
    · simp only [hi2, if_false]
      have hz : v.testBit (i - k) = false := Nat.testBit_lt_two_pow (Nat.lt_of_lt_of_le hv (Nat.pow_le_pow_right (by omega) (by omega)))
      rw [hz, Bool.or_false]
      by_cases hi3 : i - k - w < z
      · rw [decide_eq_true hi3, Bool.and_true]
      · have hz2 : hi.testBit (i - k - w) = false := Nat.testBit_lt_two_pow (Nat.lt_of_lt_of_le hhi (Nat.pow_le_pow_right (by omega) (by omega)))
        rw [hz2, Bool.false_and]
theorem put_long {a M : Int64} (k w z hi mid lo v : Nat) (hk : k < 64) (hs : k + w + z = 64) (ha : a = lN (2 ^ k * (2 ^ w * hi + mid) + lo)) (hM : M = lN (2 ^ k * (2 ^ w * (2 ^ z - 1) + 0) + (2 ^ k - 1))) (hlo : lo < 2 ^ k) (hmid : mid < 2 ^ w) (hv : v < 2 ^ w) (hhi : hi < 2 ^ z) : (a &&& M) ||| (lN v <<< ((nI k).toInt64 &&& 63)) = lN (2 ^ k * (2 ^ w * hi + v) + lo) := by
  have hz : 0 < 2 ^ z := Nat.two_pow_pos z
  have hw : 0 < 2 ^ w := Nat.two_pow_pos w
  have hkk : 0 < 2 ^ k := Nat.two_pow_pos k
  have b1 : ∀ x y l, x < 2 ^ z → y < 2 ^ w → l < 2 ^ k → 2 ^ k * (2 ^ w * x + y) + l < 2 ^ 64 := by
    intro x y l hx hy hl
    have h1 : 2 ^ w * x + y < 2 ^ w * 2 ^ z := by
      have : 2 ^ w * (x + 1) ≤ 2 ^ w * 2 ^ z := Nat.mul_le_mul_left _ (by omega)
      rw [Nat.mul_add] at this
      omega
    have h2 : 2 ^ k * (2 ^ w * x + y) + l < 2 ^ k * (2 ^ w * 2 ^ z) := by
      have : 2 ^ k * (2 ^ w * x + y + 1) ≤ 2 ^ k * (2 ^ w * 2 ^ z) := Nat.mul_le_mul_left _ (by omega)
      rw [Nat.mul_add] at this
      omega
    rw [← Nat.pow_add, ← Nat.pow_add, show k + (w + z) = 64 by omega] at h2
    exact h2
  have b2 : v * 2 ^ k < 2 ^ 64 := by
    have := b1 0 v 0 hz hv hkk
    rw [Nat.mul_zero, Nat.zero_add, Nat.add_zero, Nat.mul_comm] at this
    exact this
  have hp := put_bits k w z hi mid lo v hlo hmid hv hhi
  rw [ha, hM, wb_shl v hk, wb_and (b1 hi mid lo hhi hmid hlo) (b1 _ 0 _ (by omega) hw (by omega)), wb_or (Nat.lt_of_le_of_lt Nat.and_le_left (b1 hi mid lo hhi hmid hlo)) b2, Nat.mul_comm v, hp]
theorem pkC9 (ce : Nat → Nat) : pkC ce 9 = ce 0 + 32 * ce 1 + 1024 * ce 2 + 32768 * ce 3 + 1048576 * ce 4 + 33554432 * ce 5 + 1073741824 * ce 6 + 34359738368 * ce 7 + 1099511627776 * ce 8 := by
  simp only [pkC, Nat.reducePow]
  omega
theorem withV_pk {q : CPY} {v : Nat} (h1 : q.1 < 8192) (h2 : q.2.1 < 16) (h3 : ∀ i, q.2.2 i < 32) (hv : v < 8192) : f_X11_withVersion (lN (pk q)) (lN v) = lN (pk (v, q.2)) := by
  have h4 : pkC q.2.2 9 < 35184372088832 := pkC_lt h3 9
  rw [u_X11_withVersion, put_long 49 13 2 1 q.1 (q.2.1 * 2 ^ 45 + pkC q.2.2 9) v (by omega) (by omega) (by congr 1; unfold pk; omega) (by decide +kernel) (by omega) (by omega) (by omega) (by omega)]
  congr 1
  unfold pk
  simp only
  omega
theorem withF_pk {q : CPY} {v : Nat} (h1 : q.1 < 8192) (h2 : q.2.1 < 16) (h3 : ∀ i, q.2.2 i < 32) (hv : v < 16) : f_X11_withFilled (lN (pk q)) (lN v) = lN (pk (q.1, v, q.2.2)) := by
  have h4 : pkC q.2.2 9 < 35184372088832 := pkC_lt h3 9
  rw [u_X11_withFilled, put_long 45 4 15 (2 ^ 13 + q.1) q.2.1 (pkC q.2.2 9) v (by omega) (by omega) (by congr 1; unfold pk; omega) (by decide +kernel) (by omega) (by omega) (by omega) (by omega)]
  congr 1
  unfold pk
  simp only
  omega
theorem wc_mask : ∀ i, i < 9 → ((lN 31 <<< ((nI (5 * i)).toInt64 &&& 63)) ^^^ (-1)) = lN (2 ^ (5 * i) * (2 ^ 5 * (2 ^ (59 - 5 * i) - 1) + 0) + (2 ^ (5 * i) - 1)) := by decide +kernel
theorem withC_pk {q : CPY} {i v : Nat} (h1 : q.1 < 8192) (h2 : q.2.1 < 16) (h3 : ∀ i, q.2.2 i < 32) (hi : i < 9) (hv : v < 32) : f_X11_withCell (lN (pk q)) (nI i) (lN v) = lN (pk (q.1, q.2.1, upO q.2.2 i v)) := by
  rw [u_X11_withCell, pk_mul, wc_mask i hi]
  have c0 := h3 0
  have c1 := h3 1
  have c2 := h3 2
  have c3 := h3 3
  have c4 := h3 4
  have c5 := h3 5
  have c6 := h3 6
  have c7 := h3 7
  have c8 := h3 8
  have key : ∀ hi' lo : Nat, pk q = 2 ^ (5 * i) * (2 ^ 5 * hi' + q.2.2 i) + lo → lo < 2 ^ (5 * i) → hi' < 2 ^ (59 - 5 * i) → pk (q.1, q.2.1, upO q.2.2 i v) = 2 ^ (5 * i) * (2 ^ 5 * hi' + v) + lo → (lN (pk q) &&& lN (2 ^ (5 * i) * (2 ^ 5 * (2 ^ (59 - 5 * i) - 1) + 0) + (2 ^ (5 * i) - 1))) ||| (lN v <<< ((nI (5 * i)).toInt64 &&& 63)) = lN (pk (q.1, q.2.1, upO q.2.2 i v)) := by
    intro hi' lo e1 e2 e3 e4
    rw [put_long (5 * i) 5 (59 - 5 * i) hi' (q.2.2 i) lo v (by omega) (by omega) (by rw [e1]) rfl e2 (h3 i) hv e3, e4]
  unfold pk at key ⊢
  simp only [pkC9, upO] at key ⊢
  rcases (by omega : i = 0 ∨ i = 1 ∨ i = 2 ∨ i = 3 ∨ i = 4 ∨ i = 5 ∨ i = 6 ∨ i = 7 ∨ i = 8) with e | e | e | e | e | e | e | e | e <;> subst e <;> simp (decide := true) only [Nat.reducePow, Nat.reduceMul, Nat.reduceSub, Nat.reduceEqDiff, if_true, if_false, reduceIte] at key ⊢
  · exact key (q.2.2 1 + 32 * q.2.2 2 + 1024 * q.2.2 3 + 32768 * q.2.2 4 + 1048576 * q.2.2 5 + 33554432 * q.2.2 6 + 1073741824 * q.2.2 7 + 34359738368 * q.2.2 8 + 2 ^ 40 * q.2.1 + 2 ^ 44 * q.1 + 2 ^ 57) 0 (by omega) (by omega) (by omega) (by omega)
  · exact key (q.2.2 2 + 32 * q.2.2 3 + 1024 * q.2.2 4 + 32768 * q.2.2 5 + 1048576 * q.2.2 6 + 33554432 * q.2.2 7 + 1073741824 * q.2.2 8 + 2 ^ 35 * q.2.1 + 2 ^ 39 * q.1 + 2 ^ 52) (q.2.2 0) (by omega) (by omega) (by omega) (by omega)
  · exact key (q.2.2 3 + 32 * q.2.2 4 + 1024 * q.2.2 5 + 32768 * q.2.2 6 + 1048576 * q.2.2 7 + 33554432 * q.2.2 8 + 2 ^ 30 * q.2.1 + 2 ^ 34 * q.1 + 2 ^ 47) (q.2.2 0 + 32 * q.2.2 1) (by omega) (by omega) (by omega) (by omega)
  · exact key (q.2.2 4 + 32 * q.2.2 5 + 1024 * q.2.2 6 + 32768 * q.2.2 7 + 1048576 * q.2.2 8 + 2 ^ 25 * q.2.1 + 2 ^ 29 * q.1 + 2 ^ 42) (q.2.2 0 + 32 * q.2.2 1 + 1024 * q.2.2 2) (by omega) (by omega) (by omega) (by omega)
  · exact key (q.2.2 5 + 32 * q.2.2 6 + 1024 * q.2.2 7 + 32768 * q.2.2 8 + 2 ^ 20 * q.2.1 + 2 ^ 24 * q.1 + 2 ^ 37) (q.2.2 0 + 32 * q.2.2 1 + 1024 * q.2.2 2 + 32768 * q.2.2 3) (by omega) (by omega) (by omega) (by omega)
  · exact key (q.2.2 6 + 32 * q.2.2 7 + 1024 * q.2.2 8 + 2 ^ 15 * q.2.1 + 2 ^ 19 * q.1 + 2 ^ 32) (q.2.2 0 + 32 * q.2.2 1 + 1024 * q.2.2 2 + 32768 * q.2.2 3 + 1048576 * q.2.2 4) (by omega) (by omega) (by omega) (by omega)
  · exact key (q.2.2 7 + 32 * q.2.2 8 + 2 ^ 10 * q.2.1 + 2 ^ 14 * q.1 + 2 ^ 27) (q.2.2 0 + 32 * q.2.2 1 + 1024 * q.2.2 2 + 32768 * q.2.2 3 + 1048576 * q.2.2 4 + 33554432 * q.2.2 5) (by omega) (by omega) (by omega) (by omega)
  · exact key (q.2.2 8 + 2 ^ 5 * q.2.1 + 2 ^ 9 * q.1 + 2 ^ 22) (q.2.2 0 + 32 * q.2.2 1 + 1024 * q.2.2 2 + 32768 * q.2.2 3 + 1048576 * q.2.2 4 + 33554432 * q.2.2 5 + 1073741824 * q.2.2 6) (by omega) (by omega) (by omega) (by omega)
  · exact key (q.2.1 + 2 ^ 4 * q.1 + 2 ^ 17) (q.2.2 0 + 32 * q.2.2 1 + 1024 * q.2.2 2 + 32768 * q.2.2 3 + 1048576 * q.2.2 4 + 33554432 * q.2.2 5 + 1073741824 * q.2.2 6 + 34359738368 * q.2.2 7) (by omega) (by omega) (by omega) (by omega)
