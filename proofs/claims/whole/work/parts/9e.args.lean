/-! PURE 9e: what callers hand in -/
theorem cmp_lt (x y : Int64) : (lg_cmp x y < 0) = (x.toInt < y.toInt) := by
  unfold lg_cmp
  apply propext
  by_cases h : x > y
  · rw [if_pos h]
    have h1 := Int64.lt_iff_toInt_lt.mp h
    exact ⟨fun q => absurd q (by decide), fun q => by omega⟩
  · rw [if_neg h]
    have h1 : ¬ y.toInt < x.toInt := fun q => h (Int64.lt_iff_toInt_lt.mpr q)
    by_cases h2 : x = y
    · rw [if_pos h2]
      subst h2
      exact ⟨fun q => absurd q (by decide), fun q => by omega⟩
    · rw [if_neg h2]
      have h3 : ¬ x.toInt = y.toInt := fun q => h2 (Int64.toInt_inj.mp q)
      exact ⟨fun _ => by omega, fun _ => by decide⟩
theorem cmp_gt (x y : Int64) : (0 < lg_cmp x y) = (y.toInt < x.toInt) := by
  unfold lg_cmp
  apply propext
  by_cases h : x > y
  · rw [if_pos h]
    have h1 := Int64.lt_iff_toInt_lt.mp h
    exact ⟨fun _ => h1, fun _ => by decide⟩
  · rw [if_neg h]
    have h1 : ¬ y.toInt < x.toInt := fun q => h (Int64.lt_iff_toInt_lt.mpr q)
    by_cases h2 : x = y
    · rw [if_pos h2]
      exact ⟨fun q => absurd q (by decide), fun q => absurd q h1⟩
    · rw [if_neg h2]
      exact ⟨fun q => absurd q (by decide), fun q => absurd q h1⟩
theorem in_i (p : Int32) (a b : Int64) : f_X11_in p.toInt64 a b = (decide (a.toInt ≤ p.toInt) && decide (p.toInt ≤ b.toInt)) := by
  rw [u_X11_in]
  simp only [cmp_lt, cmp_gt, Int32.toInt_toInt64]
  by_cases h1 : p.toInt < a.toInt
  · rw [if_pos h1, decide_eq_false (by omega)]; rfl
  · rw [if_neg h1, decide_eq_true (by omega)]
    by_cases h2 : b.toInt < p.toInt
    · rw [if_pos h2, decide_eq_false (by omega)]; rfl
    · rw [if_neg h2, decide_eq_true (by omega)]; rfl
theorem within_i (p a b : Int32) : f_X10_within p a b = (decide (a.toInt ≤ p.toInt) && decide (p.toInt ≤ b.toInt)) := by
  rw [u_X10_within]
  simp only [Int32.lt_iff_toInt_lt]
  by_cases h1 : p.toInt < a.toInt
  · rw [if_pos h1, decide_eq_false (by omega)]; rfl
  · rw [if_neg h1, decide_eq_true (by omega)]
    by_cases h2 : b.toInt < p.toInt
    · rw [if_pos h2, decide_eq_false (by omega)]; rfl
    · rw [if_neg h2, decide_eq_true (by omega)]; rfl
theorem in_w (p : Int32) {a b : Nat} (ha : a < 2 ^ 31) (hb : b < 2 ^ 31) : f_X11_in p.toInt64 (lN a) (lN b) = f_X10_within p (nI a) (nI b) := by
  rw [in_i, within_i, lN_toInt ha, lN_toInt hb, nI_toInt ha, nI_toInt hb]
theorem wi_ex {p : Int32} {a b : Nat} (ha : a < 2 ^ 31) (hb : b < 2 ^ 31) (h : f_X10_within p (nI a) (nI b) = true) : ∃ k, a ≤ k ∧ k ≤ b ∧ p = nI k := by
  rw [within_i, nI_toInt ha, nI_toInt hb, Bool.and_eq_true, decide_eq_true_eq, decide_eq_true_eq] at h
  refine ⟨p.toInt.toNat, by omega, by omega, Int32.toInt_inj.mp ?_⟩
  rw [nI_toInt (by omega)]
  omega
theorem wi_n {k a b : Nat} (h1 : a ≤ k) (h2 : k ≤ b) (hb : b < 2 ^ 31) : f_X10_within (nI k) (nI a) (nI b) = true := by
  rw [within_i, nI_toInt (by omega), nI_toInt (by omega), nI_toInt (by omega), decide_eq_true (by omega), decide_eq_true (by omega)]
  rfl
theorem wi_cases (p : Int32) (a b : Nat) (ha : a < 2 ^ 31) (hb : b < 2 ^ 31) : (∃ k, a ≤ k ∧ k ≤ b ∧ p = nI k ∧ f_X10_within p (nI a) (nI b) = true ∧ f_X11_in p.toInt64 (lN a) (lN b) = true) ∨ (f_X10_within p (nI a) (nI b) = false ∧ f_X11_in p.toInt64 (lN a) (lN b) = false) := by
  rw [in_w p ha hb]
  cases e : f_X10_within p (nI a) (nI b)
  · exact Or.inr ⟨rfl, rfl⟩
  · obtain ⟨k, h1, h2, h3⟩ := wi_ex ha hb e
    exact Or.inl ⟨k, h1, h2, h3, rfl, rfl⟩
theorem file_cases (p : Int32) : (∃ f, f < 6 ∧ p = nI f) ∨ (f_X10_isFile p = false ∧ f_X11_isFile p = false) := by
  rw [u_X10_isFile, u_X11_isFile]
  rcases wi_cases p 0 5 (by omega) (by omega) with ⟨k, _, h2, h3, _⟩ | h
  · exact Or.inl ⟨k, by omega, h3⟩
  · exact Or.inr h
theorem has_i (n : Nat) (hn : n < 2 ^ 31) (p : Int32) : hasP n p = (decide (0 ≤ p.toInt) && decide (p.toInt < n)) := by
  unfold hasP
  have e0 : (p < 0) = (p.toInt < 0) := by rw [Int32.lt_iff_toInt_lt]; rfl
  have e1 : (nI n ≤ p) = ((n : Int) ≤ p.toInt) := by rw [Int32.le_iff_toInt_le, nI_toInt hn]
  simp only [e0, e1]
  by_cases h1 : p.toInt < 0
  · rw [if_pos h1, decide_eq_false (by omega)]; rfl
  · rw [if_neg h1, decide_eq_true (by omega)]
    by_cases h2 : (n : Int) ≤ p.toInt
    · rw [if_pos h2, decide_eq_false (by omega)]; rfl
    · rw [if_neg h2, decide_eq_true (by omega)]; rfl
theorem in_has (p : Int32) {n : Nat} (hn : n < 2 ^ 31) : f_X11_in p.toInt64 (lN 0) (lN n - lN 1) = hasP n p := by
  have e : (lN n - lN 1).toInt = (n : Int) - 1 := by
    by_cases h0 : n = 0
    · subst h0; rfl
    · rw [lN_sub (by omega), lN_toInt (by omega)]
      omega
  rw [in_i, has_i n hn, lN_toInt (by omega), e]
  congr 1
  apply decide_eq_decide.mpr
  omega
theorem has_cases (n : Nat) (hn : n < 2 ^ 31) (p : Int32) : (∃ s, s < n ∧ p = nI s ∧ hasP n p = true) ∨ hasP n p = false := by
  cases e : hasP n p
  · exact Or.inr rfl
  · obtain ⟨k, h1, h2⟩ := hasP_ex hn e
    exact Or.inl ⟨k, h1, h2, rfl⟩
theorem isServer_m {A : AH} {md : MD} {n : Nat} (h : RM A md.1) (hA : AI n A) (p : Int32) : f_X11_isServer md p = some (hasP (nS A) p) := by
  have h0 : md.1 0 = lN (nS A) := h.1 0 (by omega)
  have h5 : nS A ≤ 5 := hA.1
  simp (disch := omega) only [u_X11_isServer, h0, in_has, ↓reduceIte, bt_do, bd_do, jn_eq, bI_z, gd_nI, gd_0, gd_1, nI_clamp, nI_add, nI_1, pk_mul, Nat.add_zero, Nat.zero_add, ile_t, ile_f, ilt_t, ilt_f, ieq_t, ieq_f, iz_t, iz_f, ilt0, ige0, im1, Bool.false_eq_true, Bool.true_eq_false, if_true, if_false]
theorem isChunk_m {A : AH} {md : MD} {n : Nat} (h : RM A md.1) (hA : AI n A) (p : Int32) : f_X11_isChunk md p = some (hasP (aMade A) p) := by
  have h0 : md.1 6 = lN (aMade A) := h.1 6 (by omega)
  have h30 : aMade A ≤ 30 := hA.2.2.2.2.2.2.1
  simp (disch := omega) only [u_X11_isChunk, h0, in_has, ↓reduceIte, bt_do, bd_do, jn_eq, bI_z, gd_nI, gd_0, gd_1, nI_clamp, nI_add, nI_1, pk_mul, Nat.add_zero, Nat.zero_add, ile_t, ile_f, ilt_t, ilt_f, ieq_t, ieq_f, iz_t, iz_f, ilt0, ige0, im1, Bool.false_eq_true, Bool.true_eq_false, if_true, if_false]
theorem isHouse_m {A : AH} {md : MD} {n : Nat} (h : RM A md.1) (hA : AI n A) : f_X11_isHouse md = some (decide (0 < nS A)) := by
  have h0 : md.1 0 = lN (nS A) := h.1 0 (by omega)
  have h5 : nS A ≤ 5 := hA.1
  by_cases e : 0 < nS A
  · rw [decide_eq_true e]
    simp (disch := omega) only [u_X11_isHouse, h0, ↓reduceIte, bt_do, bd_do, jn_eq, bI_z, gd_nI, gd_0, gd_1, nI_clamp, nI_add, nI_1, pk_mul, Nat.add_zero, Nat.zero_add, ile_t, ile_f, ilt_t, ilt_f, ieq_t, ieq_f, iz_t, iz_f, ilt0, ige0, im1, Bool.false_eq_true, Bool.true_eq_false, if_true, if_false, lc_ge_t, lc_ge_f, lc_eq_t, lc_eq_f, lc_le_t, lc_le_f, lc_gt_t, lc_gt_f, lc_lt_t, lc_lt_f, nI_l, lN_i, lN_add, lN_1]
  · rw [decide_eq_false e]
    simp (disch := omega) only [u_X11_isHouse, h0, ↓reduceIte, bt_do, bd_do, jn_eq, bI_z, gd_nI, gd_0, gd_1, nI_clamp, nI_add, nI_1, pk_mul, Nat.add_zero, Nat.zero_add, ile_t, ile_f, ilt_t, ilt_f, ieq_t, ieq_f, iz_t, iz_f, ilt0, ige0, im1, Bool.false_eq_true, Bool.true_eq_false, if_true, if_false, lc_ge_t, lc_ge_f, lc_eq_t, lc_eq_f, lc_le_t, lc_le_f, lc_gt_t, lc_gt_f, lc_lt_t, lc_lt_f, nI_l, lN_i, lN_add, lN_1]
theorem isThere_m {A : AH} {md : MD} {n : Nat} (h : RM A md.1) (hA : AI n A) {f : Nat} (hf : f < 6) : f_X11_isThere md (nI f) = some (decide (aIs A f = 1)) := by
  have h0 := (h.2.2.1 f hf).1
  have h1 := (hA.2.2.2.2.2.2.2.2.2.2.1 f hf).1
  by_cases e : aIs A f = 1
  · rw [decide_eq_true e]
    simp (disch := omega) only [u_X11_isThere, h0, ↓reduceIte, bt_do, bd_do, jn_eq, bI_z, gd_nI, gd_0, gd_1, nI_clamp, nI_add, nI_1, pk_mul, Nat.add_zero, Nat.zero_add, ile_t, ile_f, ilt_t, ilt_f, ieq_t, ieq_f, iz_t, iz_f, ilt0, ige0, im1, Bool.false_eq_true, Bool.true_eq_false, if_true, if_false, lc_ge_t, lc_ge_f, lc_eq_t, lc_eq_f, lc_le_t, lc_le_f, lc_gt_t, lc_gt_f, lc_lt_t, lc_lt_f, nI_l, lN_i, lN_add, lN_1]
  · rw [decide_eq_false e]
    simp (disch := omega) only [u_X11_isThere, h0, ↓reduceIte, bt_do, bd_do, jn_eq, bI_z, gd_nI, gd_0, gd_1, nI_clamp, nI_add, nI_1, pk_mul, Nat.add_zero, Nat.zero_add, ile_t, ile_f, ilt_t, ilt_f, ieq_t, ieq_f, iz_t, iz_f, ilt0, ige0, im1, Bool.false_eq_true, Bool.true_eq_false, if_true, if_false, lc_ge_t, lc_ge_f, lc_eq_t, lc_eq_f, lc_le_t, lc_le_f, lc_gt_t, lc_gt_f, lc_lt_t, lc_lt_f, nI_l, lN_i, lN_add, lN_1]
/-- a cell of a file, on both sides -/
theorem cell_cases {A : AH} {v : HS} {md : MD} {n : Nat} (hc : RC A v) (h : RM A md.1) (hA : AI n A) {f : Nat} (hf : f < 6) (p : Int32) (h4 : 4 ≤ aSize A) : (∃ j, j < 100 ∧ j / aSize A < aMany A f ∧ p = nI j ∧ f_X5_hasCell v (nI f) p = some true ∧ f_X11_isCell md (nI f) p = some true) ∨ (f_X5_hasCell v (nI f) p = some false ∧ f_X11_isCell md (nI f) p = some false) := by
  have h9 : aSize A ≤ 9 := hA.2.2.1
  have hm := (hA.2.2.2.2.2.2.2.2.2.2.1 f hf).2.1
  have hz : v.2.1 = nI (aSize A) := hc.1.2.1
  have hmv := (hc.2.2.2.2 f hf).2.2.2.1
  have h2 : md.1 2 = lN (aSize A) := h.1 2 (by omega)
  have hmr := many_r h hf
  have hb : aSize A * aMany A f ≤ 9 * 4 := Nat.mul_le_mul h9 hm
  have e1 : f_X11_isCell md (nI f) p = some (hasP (aSize A * aMany A f) p) := by
    simp (disch := omega) only [u_X11_isCell, h2, hmr, nI_l, lN_mul, in_has, ↓reduceIte, bt_do, bd_do, jn_eq, bI_z, gd_nI, gd_0, gd_1, nI_clamp, nI_add, nI_1, pk_mul, Nat.add_zero, Nat.zero_add, ile_t, ile_f, ilt_t, ilt_f, ieq_t, ieq_f, iz_t, iz_f, ilt0, ige0, im1, Bool.false_eq_true, Bool.true_eq_false, if_true, if_false]
  have e2 : f_X5_hasCell v (nI f) p = some (hasP (aSize A * aMany A f) p) := by
    unfold hasP
    by_cases q : p < 0
    · rw [if_pos q]
      simp (disch := omega) only [u_X5_hasCell, isFile_n hf, q, ↓reduceIte, bt_do, bd_do, jn_eq, bI_z, gd_nI, gd_0, gd_1, nI_clamp, nI_add, nI_1, pk_mul, Nat.add_zero, Nat.zero_add, ile_t, ile_f, ilt_t, ilt_f, ieq_t, ieq_f, iz_t, iz_f, ilt0, ige0, im1, Bool.false_eq_true, Bool.true_eq_false, if_true, if_false]
    · rw [if_neg q]
      by_cases q2 : nI (aSize A * aMany A f) ≤ p
      · rw [if_pos q2]
        simp (disch := omega) only [u_X5_hasCell, isFile_n hf, q, hz, hmv, q2, ↓reduceIte, bt_do, bd_do, jn_eq, bI_z, gd_nI, gd_0, gd_1, nI_clamp, nI_add, nI_1, pk_mul, Nat.add_zero, Nat.zero_add, ile_t, ile_f, ilt_t, ilt_f, ieq_t, ieq_f, iz_t, iz_f, ilt0, ige0, im1, Bool.false_eq_true, Bool.true_eq_false, if_true, if_false]
      · rw [if_neg q2]
        simp (disch := omega) only [u_X5_hasCell, isFile_n hf, q, hz, hmv, q2, ↓reduceIte, bt_do, bd_do, jn_eq, bI_z, gd_nI, gd_0, gd_1, nI_clamp, nI_add, nI_1, pk_mul, Nat.add_zero, Nat.zero_add, ile_t, ile_f, ilt_t, ilt_f, ieq_t, ieq_f, iz_t, iz_f, ilt0, ige0, im1, Bool.false_eq_true, Bool.true_eq_false, if_true, if_false]
  rcases has_cases (aSize A * aMany A f) (by omega) p with ⟨j, hj, rfl, ht⟩ | hfl
  · left
    refine ⟨j, by omega, ?_, rfl, by rw [e2, ht], by rw [e1, ht]⟩
    exact Nat.div_lt_of_lt_mul hj
  · right
    exact ⟨by rw [e2, hfl], by rw [e1, hfl]⟩
