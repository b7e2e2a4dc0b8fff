/-! PURE 9p: steps of the model's reader -/
theorem next_m {t : Nat} {T : Nat → Nat} {md : MD} {p : Nat} (hT : TPM t T md) (hp : p ≤ t) (hat : md.2.2.2.2.2.2.2.2.1 = nI p) (hf : md.2.2.2.2.2.2.2.2.2.2.2.2.1 = nI 0) : ∃ md', f_X11_goesOn md = some md' ∧ Fr md md' ∧ md'.2.1 = md.2.1 ∧ PO t T p md' := by
  obtain ⟨md', h1, h2⟩ := reads_m hT hp hat hf
  refine ⟨md', ?_, h2⟩
  simp (disch := omega) only [u_X11_goesOn, hf, h1, ↓reduceIte, bt_do, bd_do, jn_eq, bI_z, gd_nI, gd_0, gd_1, nI_clamp, nI_add, nI_1, pk_mul, Nat.add_zero, Nat.zero_add, ile_t, ile_f, ilt_t, ilt_f, ieq_t, ieq_f, iz_t, iz_f, ilt0, ige0, im1, Bool.false_eq_true, Bool.true_eq_false, if_true, if_false]
theorem bad_m {md : MD} {p k : Nat} (hk : 1 ≤ k ∧ k ≤ 3) (hs : md.2.2.2.2.2.2.2.2.2.1 = nI p) (hf : md.2.2.2.2.2.2.2.2.2.2.2.2.1 = nI 0) : ∃ md', f_X11_bad md (nI k) = some md' ∧ Fr md md' ∧ md'.2.1 = md.2.1 ∧ FO k p md' := by
  refine ⟨(md.1, md.2.1, md.2.2.1, md.2.2.2.1, md.2.2.2.2.1, md.2.2.2.2.2.1, md.2.2.2.2.2.2.1, md.2.2.2.2.2.2.2.1, md.2.2.2.2.2.2.2.2.1, md.2.2.2.2.2.2.2.2.2.1, md.2.2.2.2.2.2.2.2.2.2.1, md.2.2.2.2.2.2.2.2.2.2.2.1, nI k, md.2.2.2.2.2.2.2.2.2.1, md.2.2.2.2.2.2.2.2.2.2.2.2.2.2.1, md.2.2.2.2.2.2.2.2.2.2.2.2.2.2.2.1, md.2.2.2.2.2.2.2.2.2.2.2.2.2.2.2.2), ?_, Fr.rf _, rfl, hk.1, hk.2, rfl, hs⟩
  simp (disch := omega) only [u_X11_bad, hf, ↓reduceIte, bt_do, bd_do, jn_eq, bI_z, gd_nI, gd_0, gd_1, nI_clamp, nI_add, nI_1, pk_mul, Nat.add_zero, Nat.zero_add, ile_t, ile_f, ilt_t, ilt_f, ieq_t, ieq_f, iz_t, iz_f, ilt0, ige0, im1, Bool.false_eq_true, Bool.true_eq_false, if_true, if_false]
theorem fo_nz {md : MD} {p k : Nat} (h : FO k p md) : (md.2.2.2.2.2.2.2.2.2.2.2.2.1 = 0) = False := by
  obtain ⟨h1, h2, h3, h4⟩ := h
  rw [h3]
  exact iz_f (by omega) (by omega)
theorem fo_next {md : MD} {p k : Nat} (h : FO k p md) : f_X11_goesOn md = some md := by
  simp only [u_X11_goesOn, fo_nz h, ↓reduceIte, bt_do, bd_do, jn_eq, bI_z, gd_nI, gd_0, gd_1, nI_clamp, nI_add, nI_1, pk_mul, Nat.add_zero, Nat.zero_add, ile_t, ile_f, ilt_t, ilt_f, ieq_t, ieq_f, iz_t, iz_f, ilt0, ige0, im1, Bool.false_eq_true, Bool.true_eq_false, if_true, if_false]
theorem fo_bad {md : MD} {p k : Nat} (h : FO k p md) (x : Int32) : f_X11_bad md x = some md := by
  simp only [u_X11_bad, fo_nz h, ↓reduceIte, bt_do, bd_do, jn_eq, bI_z, gd_nI, gd_0, gd_1, nI_clamp, nI_add, nI_1, pk_mul, Nat.add_zero, Nat.zero_add, ile_t, ile_f, ilt_t, ilt_f, ieq_t, ieq_f, iz_t, iz_f, ilt0, ige0, im1, Bool.false_eq_true, Bool.true_eq_false, if_true, if_false]
theorem fo_letter {md : MD} {p k : Nat} (h : FO k p md) (x : Int32) : f_X11_isLetter md x = false := by
  simp only [u_X11_isLetter, fo_nz h, ↓reduceIte, bt_do, bd_do, jn_eq, bI_z, gd_nI, gd_0, gd_1, nI_clamp, nI_add, nI_1, pk_mul, Nat.add_zero, Nat.zero_add, ile_t, ile_f, ilt_t, ilt_f, ieq_t, ieq_f, iz_t, iz_f, ilt0, ige0, im1, Bool.false_eq_true, Bool.true_eq_false, if_true, if_false]
theorem fo_number {md : MD} {p k : Nat} (h : FO k p md) (x y : Int32) : f_X11_number md x y = some (x, md) := by
  rw [u_X11_number]
  have hb := fo_bad h
  have hx := fo_next h
  have hz := fo_nz h
  by_cases e : md.2.2.2.2.2.2.2.2.2.2.1 = nI 2
  · by_cases e2 : f_X11_in (md.2.2.2.2.2.2.2.2.2.2.2.1).toInt64 x.toInt64 y.toInt64 = false
    · simp only [e, e2, hb, hx, hz, ↓reduceIte, bt_do, bd_do, jn_eq, bI_z, gd_nI, gd_0, gd_1, nI_clamp, nI_add, nI_1, pk_mul, Nat.add_zero, Nat.zero_add, ile_t, ile_f, ilt_t, ilt_f, ieq_t, ieq_f, iz_t, iz_f, ilt0, ige0, im1, Bool.false_eq_true, Bool.true_eq_false, if_true, if_false]
    · simp only [e, e2, hb, hx, hz, ↓reduceIte, bt_do, bd_do, jn_eq, bI_z, gd_nI, gd_0, gd_1, nI_clamp, nI_add, nI_1, pk_mul, Nat.add_zero, Nat.zero_add, ile_t, ile_f, ilt_t, ilt_f, ieq_t, ieq_f, iz_t, iz_f, ilt0, ige0, im1, Bool.false_eq_true, Bool.true_eq_false, if_true, if_false]
  · simp only [e, hb, hx, hz, ↓reduceIte, bt_do, bd_do, jn_eq, bI_z, gd_nI, gd_0, gd_1, nI_clamp, nI_add, nI_1, pk_mul, Nat.add_zero, Nat.zero_add, ile_t, ile_f, ilt_t, ilt_f, ieq_t, ieq_f, iz_t, iz_f, ilt0, ige0, im1, Bool.false_eq_true, Bool.true_eq_false, if_true, if_false]
theorem fo_sign {md : MD} {p k : Nat} (h : FO k p md) (x : Int32) : f_X11_sign md x = some md := by
  rw [u_X11_sign]
  have hb := fo_bad h
  have hx := fo_next h
  by_cases e : md.2.2.2.2.2.2.2.2.2.2.1 = nI 3
  · by_cases e2 : md.2.2.2.2.2.2.2.2.2.2.2.1 = x
    · simp only [e, e2, hb, hx, ↓reduceIte, bt_do, bd_do, jn_eq, bI_z, gd_nI, gd_0, gd_1, nI_clamp, nI_add, nI_1, pk_mul, Nat.add_zero, Nat.zero_add, ile_t, ile_f, ilt_t, ilt_f, ieq_t, ieq_f, iz_t, iz_f, ilt0, ige0, im1, Bool.false_eq_true, Bool.true_eq_false, if_true, if_false]
    · simp only [e, e2, hb, hx, ↓reduceIte, bt_do, bd_do, jn_eq, bI_z, gd_nI, gd_0, gd_1, nI_clamp, nI_add, nI_1, pk_mul, Nat.add_zero, Nat.zero_add, ile_t, ile_f, ilt_t, ilt_f, ieq_t, ieq_f, iz_t, iz_f, ilt0, ige0, im1, Bool.false_eq_true, Bool.true_eq_false, if_true, if_false]
  · simp only [e, hb, hx, ↓reduceIte, bt_do, bd_do, jn_eq, bI_z, gd_nI, gd_0, gd_1, nI_clamp, nI_add, nI_1, pk_mul, Nat.add_zero, Nat.zero_add, ile_t, ile_f, ilt_t, ilt_f, ieq_t, ieq_f, iz_t, iz_f, ilt0, ige0, im1, Bool.false_eq_true, Bool.true_eq_false, if_true, if_false]
theorem sgn_f {t : Nat} {T : Nat → Nat} {c p : Nat} (h : ¬ (p < t ∧ T p = c)) : sgn t T c p = false := decide_eq_false h
theorem sgn_t {t : Nat} {T : Nat → Nat} {c p : Nat} (h : p < t ∧ T p = c) : sgn t T c p = true := decide_eq_true h
theorem dC_t {t : Nat} {T : Nat → Nat} {p : Nat} (h : ¬ dC t T p = 0) : p < t ∧ 48 ≤ T p ∧ T p ≤ 57 := by
  by_cases e : dg t T p = true
  · exact dg_t e
  · exact absurd (by unfold dC; rw [if_neg e]) h
theorem dC_le {t : Nat} {T : Nat → Nat} {p : Nat} (h : dC t T p = 2) : p + 1 < t ∧ 48 ≤ T (p + 1) ∧ T (p + 1) ≤ 57 := by
  by_cases e : dg t T (p + 1) = true
  · exact dg_t e
  · exfalso
    unfold dC at h
    by_cases e0 : dg t T p = true
    · rw [if_pos e0, if_neg e] at h; omega
    · rw [if_neg e0] at h; omega
theorem vN_le {t : Nat} {T : Nat → Nat} {p : Nat} (h : dC t T p = 1 ∨ dC t T p = 2) : vN t T p ≤ 99 ∧ p + dC t T p ≤ t := by
  have h0 := dC_t (t := t) (T := T) (p := p) (by omega)
  unfold vN
  rcases h with h | h
  · rw [if_pos h]; omega
  · have := dC_le h
    rw [if_neg (by omega)]
    omega
theorem number_m {t : Nat} {T : Nat → Nat} {md : MD} {p a b : Nat} (hT : TPM t T md) (hP : PO t T p md) (ha : a < 100) (hb : b < 100) : ∃ md' v, f_X11_number md (nI a) (nI b) = some (v, md') ∧ Fr md md' ∧ md'.2.1 = md.2.1 ∧ ((nuK t T a b p = 0 ∧ v = nI (vN t T p) ∧ PO t T (p + dC t T p) md') ∨ (¬ nuK t T a b p = 0 ∧ v = nI a ∧ FO (nuK t T a b p) p md')) := by
  obtain ⟨hp, hf, hs, hK⟩ := hP
  have bad1 : ∀ x, ¬ x = 2 → x < 10 → md.2.2.2.2.2.2.2.2.2.2.1 = nI x → nuK t T a b p = 1 → ∃ md' v, f_X11_number md (nI a) (nI b) = some (v, md') ∧ Fr md md' ∧ md'.2.1 = md.2.1 ∧ ((nuK t T a b p = 0 ∧ v = nI (vN t T p) ∧ PO t T (p + dC t T p) md') ∨ (¬ nuK t T a b p = 0 ∧ v = nI a ∧ FO (nuK t T a b p) p md')) := by
    intro x hx hx9 ht hn
    obtain ⟨m1, k1, k2, k3, k4⟩ := bad_m (k := 1) (by omega) hs hf
    refine ⟨m1, nI a, ?_, k2, k3, Or.inr ⟨by omega, rfl, by rw [hn]; exact k4⟩⟩
    simp (disch := omega) only [u_X11_number, ht, k1, fo_next k4, fo_nz k4, ↓reduceIte, bt_do, bd_do, jn_eq, bI_z, gd_nI, gd_0, gd_1, nI_clamp, nI_add, nI_1, pk_mul, Nat.add_zero, Nat.zero_add, ile_t, ile_f, ilt_t, ilt_f, ieq_t, ieq_f, iz_t, iz_f, ilt0, ige0, im1, Bool.false_eq_true, Bool.true_eq_false, if_true, if_false]
  rcases hK with ⟨e1, e2⟩ | ⟨e1, e2, e3, _⟩ | ⟨e1, e2, e3, e4⟩ | ⟨e1, e2, e3, _⟩ | ⟨e1, e2, e3, _, _, e4⟩
  · refine bad1 0 (by omega) (by omega) e2 ?_
    unfold nuK
    rw [if_pos (Or.inl ?_)]
    by_cases q : dC t T p = 0
    · exact q
    · have := dC_t q; omega
  · refine bad1 1 (by omega) (by omega) e3 ?_
    unfold nuK
    rw [if_pos (Or.inl (dC_0 (fun q => by have := e2.1; omega)))]
  · have hv := vN_le e1
    have hin := in_d (x := vN t T p) (a := a) (b := b) (by omega) (by omega) (by omega)
    rw [nI_l (by omega)] at hin
    by_cases er : a ≤ vN t T p ∧ vN t T p ≤ b
    · have hk : nuK t T a b p = 0 := by unfold nuK; rw [if_neg (by omega), if_pos er]
      rw [decide_eq_true er] at hin
      obtain ⟨m1, k1, k2, k3, k4⟩ := next_m hT hv.2 e4 hf
      refine ⟨m1, nI (vN t T p), ?_, k2, k3, Or.inl ⟨hk, rfl, k4⟩⟩
      simp (disch := omega) only [u_X11_number, e2, e3, nI_l, hin, hf, k1, ↓reduceIte, bt_do, bd_do, jn_eq, bI_z, gd_nI, gd_0, gd_1, nI_clamp, nI_add, nI_1, pk_mul, Nat.add_zero, Nat.zero_add, ile_t, ile_f, ilt_t, ilt_f, ieq_t, ieq_f, iz_t, iz_f, ilt0, ige0, im1, Bool.false_eq_true, Bool.true_eq_false, if_true, if_false]
    · have hk : nuK t T a b p = 2 := by unfold nuK; rw [if_neg (by omega), if_neg er]
      rw [decide_eq_false er] at hin
      obtain ⟨m1, k1, k2, k3, k4⟩ := bad_m (k := 2) (by omega) hs hf
      refine ⟨m1, nI a, ?_, k2, k3, Or.inr ⟨by omega, rfl, by rw [hk]; exact k4⟩⟩
      simp (disch := omega) only [u_X11_number, e2, e3, nI_l, hin, k1, fo_next k4, fo_nz k4, ↓reduceIte, bt_do, bd_do, jn_eq, bI_z, gd_nI, gd_0, gd_1, nI_clamp, nI_add, nI_1, pk_mul, Nat.add_zero, Nat.zero_add, ile_t, ile_f, ilt_t, ilt_f, ieq_t, ieq_f, iz_t, iz_f, ilt0, ige0, im1, Bool.false_eq_true, Bool.true_eq_false, if_true, if_false]
  · refine bad1 3 (by omega) (by omega) e3 ?_
    unfold nuK
    rw [if_pos (Or.inl (dC_0 (fun q => by omega)))]
  · refine bad1 4 (by omega) (by omega) e4 ?_
    unfold nuK
    rw [if_pos e2]
theorem sign_m {t : Nat} {T : Nat → Nat} {md : MD} {p c : Nat} (hT : TPM t T md) (hP : PO t T p md) (hc : c = 44 ∨ c = 59) : ∃ md', f_X11_sign md (nI c) = some md' ∧ Fr md md' ∧ md'.2.1 = md.2.1 ∧ ((sgn t T c p = true ∧ PO t T (p + 1) md') ∨ (sgn t T c p = false ∧ FO 1 p md')) := by
  obtain ⟨hp, hf, hs, hK⟩ := hP
  obtain ⟨m1, k1, k2, k3, k4⟩ := bad_m (k := 1) (by omega) hs hf
  have bad1 : ∀ x, ¬ x = 3 → x < 10 → md.2.2.2.2.2.2.2.2.2.2.1 = nI x → ¬ (p < t ∧ T p = c) → ∃ md', f_X11_sign md (nI c) = some md' ∧ Fr md md' ∧ md'.2.1 = md.2.1 ∧ ((sgn t T c p = true ∧ PO t T (p + 1) md') ∨ (sgn t T c p = false ∧ FO 1 p md')) := by
    intro x hx hx9 ht hn
    refine ⟨m1, ?_, k2, k3, Or.inr ⟨sgn_f hn, k4⟩⟩
    simp (disch := omega) only [u_X11_sign, ht, k1, fo_next k4, ↓reduceIte, bt_do, bd_do, jn_eq, bI_z, gd_nI, gd_0, gd_1, nI_clamp, nI_add, nI_1, pk_mul, Nat.add_zero, Nat.zero_add, ile_t, ile_f, ilt_t, ilt_f, ieq_t, ieq_f, iz_t, iz_f, ilt0, ige0, im1, Bool.false_eq_true, Bool.true_eq_false, if_true, if_false]
  rcases hK with ⟨e1, e2⟩ | ⟨e1, e2, e3, _⟩ | ⟨e1, e2, e3, e4⟩ | ⟨e1, e2, e3, e4, e5⟩ | ⟨e1, e2, e3, e5, e6, e4⟩
  · exact bad1 0 (by omega) (by omega) e2 (by omega)
  · exact bad1 1 (by omega) (by omega) e3 (fun q => by have := e2.1; omega)
  · have := dC_t (t := t) (T := T) (p := p) (by omega)
    exact bad1 2 (by omega) (by omega) e2 (by omega)
  · by_cases q : T p = c
    · obtain ⟨m2, j1, j2, j3, j4⟩ := next_m hT (show p + 1 ≤ t by omega) e5 hf
      refine ⟨m2, ?_, j2, j3, Or.inl ⟨sgn_t ⟨e1, q⟩, j4⟩⟩
      rw [q] at e4
      simp (disch := omega) only [u_X11_sign, e3, e4, j1, ↓reduceIte, bt_do, bd_do, jn_eq, bI_z, gd_nI, gd_0, gd_1, nI_clamp, nI_add, nI_1, pk_mul, Nat.add_zero, Nat.zero_add, ile_t, ile_f, ilt_t, ilt_f, ieq_t, ieq_f, iz_t, iz_f, ilt0, ige0, im1, Bool.false_eq_true, Bool.true_eq_false, if_true, if_false]
    · refine ⟨m1, ?_, k2, k3, Or.inr ⟨sgn_f (fun z => q z.2), k4⟩⟩
      simp (disch := omega) only [u_X11_sign, e3, e4, k1, fo_next k4, ↓reduceIte, bt_do, bd_do, jn_eq, bI_z, gd_nI, gd_0, gd_1, nI_clamp, nI_add, nI_1, pk_mul, Nat.add_zero, Nat.zero_add, ile_t, ile_f, ilt_t, ilt_f, ieq_t, ieq_f, iz_t, iz_f, ilt0, ige0, im1, Bool.false_eq_true, Bool.true_eq_false, if_true, if_false]
  · exact bad1 4 (by omega) (by omega) e4 (by omega)
theorem letter_m {t : Nat} {T : Nat → Nat} {md : MD} {p c : Nat} (hT : TPM t T md) (hP : PO t T p md) (hc : 97 ≤ c ∧ c ≤ 122) : f_X11_isLetter md (nI c) = sgn t T c p ∧ (sgn t T c p = true → md.2.2.2.2.2.2.2.2.1 = nI (p + 1) ∧ p + 1 ≤ t) := by
  obtain ⟨hp, hf, hs, hK⟩ := hP
  have bad1 : ∀ x, ¬ x = 1 → x < 10 → md.2.2.2.2.2.2.2.2.2.2.1 = nI x → ¬ (p < t ∧ T p = c) → f_X11_isLetter md (nI c) = sgn t T c p ∧ (sgn t T c p = true → md.2.2.2.2.2.2.2.2.1 = nI (p + 1) ∧ p + 1 ≤ t) := by
    intro x hx hx9 ht hn
    rw [sgn_f hn]
    refine ⟨?_, fun q => by cases q⟩
    simp (disch := omega) only [u_X11_isLetter, ht, hf, ↓reduceIte, bt_do, bd_do, jn_eq, bI_z, gd_nI, gd_0, gd_1, nI_clamp, nI_add, nI_1, pk_mul, Nat.add_zero, Nat.zero_add, ile_t, ile_f, ilt_t, ilt_f, ieq_t, ieq_f, iz_t, iz_f, ilt0, ige0, im1, Bool.false_eq_true, Bool.true_eq_false, if_true, if_false]
  rcases hK with ⟨e1, e2⟩ | ⟨e1, e2, e3, e4, e5⟩ | ⟨e1, e2, e3, e4⟩ | ⟨e1, e2, e3, e4, e5⟩ | ⟨e1, e2, e3, e5, e6, e4⟩
  · exact bad1 0 (by omega) (by omega) e2 (by omega)
  · obtain ⟨e2a, e2b⟩ := e2
    refine ⟨?_, fun _ => ⟨e5, by omega⟩⟩
    by_cases q : T p = c
    · rw [sgn_t ⟨e1, q⟩]
      rw [q] at e4
      simp (disch := omega) only [u_X11_isLetter, hf, e3, e4, ↓reduceIte, bt_do, bd_do, jn_eq, bI_z, gd_nI, gd_0, gd_1, nI_clamp, nI_add, nI_1, pk_mul, Nat.add_zero, Nat.zero_add, ile_t, ile_f, ilt_t, ilt_f, ieq_t, ieq_f, iz_t, iz_f, ilt0, ige0, im1, Bool.false_eq_true, Bool.true_eq_false, if_true, if_false]
    · rw [sgn_f (fun z => q z.2)]
      simp (disch := omega) only [u_X11_isLetter, hf, e3, e4, ↓reduceIte, bt_do, bd_do, jn_eq, bI_z, gd_nI, gd_0, gd_1, nI_clamp, nI_add, nI_1, pk_mul, Nat.add_zero, Nat.zero_add, ile_t, ile_f, ilt_t, ilt_f, ieq_t, ieq_f, iz_t, iz_f, ilt0, ige0, im1, Bool.false_eq_true, Bool.true_eq_false, if_true, if_false]
  · have := dC_t (t := t) (T := T) (p := p) (by omega)
    exact bad1 2 (by omega) (by omega) e2 (by omega)
  · exact bad1 3 (by omega) (by omega) e3 (by omega)
  · refine bad1 4 (by omega) (by omega) e4 (fun z => e3 ?_)
    rw [z.2]
    exact hc
