/-! PURE 75: what the model asks of a copy, and of chunks -/
theorem okC_32 {size top : Nat} {q : CPY} (h : okC size top q) : ∀ i, q.2.2 i < 32 := fun i => by
  have := h.2.2.1 i
  omega
theorem pk_b {q : CPY} (h1 : q.1 < 8192) (h2 : q.2.1 < 16) (h3 : ∀ i, q.2.2 i < 32) : pk q < 2 ^ 63 ∧ 2 ^ 62 ≤ pk q ∧ pk q / 2 ^ 49 % 2 ^ 13 = q.1 ∧ pk q / 2 ^ 45 % 2 ^ 4 = q.2.1 := by
  have h4 : pkC q.2.2 9 < 35184372088832 := pkC_lt h3 9
  unfold pk
  refine ⟨by omega, by omega, by omega, by omega⟩
theorem pk_cell {q : CPY} (h3 : ∀ i, q.2.2 i < 32) {i : Nat} (hi : i < 9) : pk q / 2 ^ (5 * i) % 2 ^ 5 = q.2.2 i := by
  have hd := pkC_dig h3 9 i hi
  have h4 : pkC q.2.2 9 < 35184372088832 := pkC_lt h3 9
  unfold pk
  rcases (by omega : i = 0 ∨ i = 1 ∨ i = 2 ∨ i = 3 ∨ i = 4 ∨ i = 5 ∨ i = 6 ∨ i = 7 ∨ i = 8) with e | e | e | e | e | e | e | e | e <;> subst e <;> simp only [Nat.reducePow, Nat.reduceMul] at hd ⊢ <;> omega
theorem k49 : (49 : Int32) = nI 49 := by decide
theorem k45 : (45 : Int32) = nI 45 := by decide
theorem k5 : (5 : Int32) = nI 5 := by decide
theorem k8191 : (8191 : Int64) = lN (2 ^ 13 - 1) := by decide
theorem k15 : (15 : Int64) = lN (2 ^ 4 - 1) := by decide
theorem k31 : (31 : Int64) = lN (2 ^ 5 - 1) := by decide
theorem version_pk {q : CPY} (h1 : q.1 < 8192) (h2 : q.2.1 < 16) (h3 : ∀ i, q.2.2 i < 32) : f_X11_version (lN (pk q)) = nI q.1 := by
  have hb := pk_b h1 h2 h3
  unfold f_X11_version
  rw [k49, k8191, lshr hb.1 (by omega), wb_mask (by have := hb.1; omega) (by omega), hb.2.2.1, lN_i]
theorem filled_pk {q : CPY} (h1 : q.1 < 8192) (h2 : q.2.1 < 16) (h3 : ∀ i, q.2.2 i < 32) : f_X11_filled (lN (pk q)) = nI q.2.1 := by
  have hb := pk_b h1 h2 h3
  unfold f_X11_filled
  rw [k45, k15, lshr hb.1 (by omega), wb_mask (by have := hb.1; omega) (by omega), hb.2.2.2, lN_i]
theorem cell_pk {q : CPY} (h1 : q.1 < 8192) (h2 : q.2.1 < 16) (h3 : ∀ i, q.2.2 i < 32) {i : Nat} (hi : i < 9) : f_X11_cell (lN (pk q)) (nI i) = nI (q.2.2 i) := by
  have hb := pk_b h1 h2 h3
  unfold f_X11_cell
  have h5 : pk q / 2 ^ (5 * i) ≤ pk q := Nat.div_le_self _ _
  rw [k5, k31, pk_mul, lshr hb.1 (by omega), wb_mask (by have := hb.1; omega) (by omega), pk_cell h3 hi, lN_i]
theorem pk_0 {q : CPY} (h1 : q.1 < 8192) (h2 : q.2.1 < 16) (h3 : ∀ i, q.2.2 i < 32) : ¬ lN (pk q) = 0 := by
  have hb := pk_b h1 h2 h3
  intro h
  have e : (lN (pk q)).toBitVec.toNat = 0 := by rw [h]; rfl
  rw [wb_tn (by omega)] at e
  omega
