/-! PURE 9v: house -/
def FEr (k : Nat) (m md' : MD) : Prop := md'.1 = m.1 ∧ md'.2.2.1 = m.2.2.1 ∧ md'.2.2.2.1 = m.2.2.2.1 ∧ md'.2.2.2.2.1 = m.2.2.2.2.1 ∧ md'.2.2.2.2.2.1 = m.2.2.2.2.2.1 ∧ md'.2.2.2.2.2.2.2.1 = nI 0 ∧ md'.2.2.2.2.2.2.2.2.2.2.2.2.2.2.1 = nI k
def FOk (m md' : MD) : Prop := md'.2.2.2.1 = nI 0 ∧ md'.2.2.2.2.1 = m.2.2.2.2.1 ∧ md'.2.2.2.2.2.1 = m.2.2.2.2.2.1 ∧ md'.2.2.2.2.2.2.2.1 = nI 0 ∧ md'.2.2.2.2.2.2.2.2.2.2.2.2.2.2.1 = m.2.2.2.2.2.2.2.2.2.2.2.2.2.2.1
theorem FEr.tr {k : Nat} {m md md' : MD} (h1 : Fr m md) (h : FEr k md md') : FEr k m md' := by
  obtain ⟨q1, q2, q3, q4, q5, q6, q7⟩ := h
  obtain ⟨f1, f2, f3, f4, f5, f6, f7, f8⟩ := h1
  exact ⟨q1.trans f1, q2.trans f2, q3.trans f3, q4.trans f4, q5.trans f5, q6, q7⟩
theorem FOk.tr {m md md' : MD} (h1 : Fr m md) (h : FOk md md') : FOk m md' := by
  obtain ⟨q3, q4, q5, q6, q7⟩ := h
  obtain ⟨f1, f2, f3, f4, f5, f6, f7, f8⟩ := h1
  exact ⟨q3, q4.trans f4, q5.trans f5, q6, q7.trans f8⟩
theorem fin_fo {k p : Nat} {md : MD} (h : FO k p md) (x : Int32) : ∃ md', finM (x, md) = some (-1000100 - nI p, md') ∧ FEr k md md' := by
  have hb := fo_bad h
  obtain ⟨h1, h2, h3, h4⟩ := h
  have hz : (nI k ≤ 0) = False := by
    rw [show (0 : Int32) = nI 0 from rfl]
    exact ile_f (by omega) (by omega)
  refine ⟨(md.1, md.2.1, md.2.2.1, md.2.2.2.1, md.2.2.2.2.1, md.2.2.2.2.2.1, md.2.2.2.2.2.2.1, nI 0, md.2.2.2.2.2.2.2.2.1, md.2.2.2.2.2.2.2.2.2.1, md.2.2.2.2.2.2.2.2.2.2.1, md.2.2.2.2.2.2.2.2.2.2.2.1, md.2.2.2.2.2.2.2.2.2.2.2.2.1, md.2.2.2.2.2.2.2.2.2.2.2.2.2.1, md.2.2.2.2.2.2.2.2.2.2.2.2.1, md.2.2.2.2.2.2.2.2.2.2.2.2.2.2.2.1, md.2.2.2.2.2.2.2.2.2.2.2.2.2.2.2.2), ?_, rfl, rfl, rfl, rfl, rfl, rfl, h3⟩
  unfold finM
  by_cases e : md.2.2.2.2.2.2.2.2.2.2.1 = 0
  · simp (disch := omega) only [e, h3, h4, hz, ↓reduceIte, bt_do, bd_do, jn_eq, bI_z, gd_nI, gd_0, gd_1, nI_clamp, nI_add, nI_1, pk_mul, Nat.add_zero, Nat.zero_add, ile_t, ile_f, ilt_t, ilt_f, ieq_t, ieq_f, iz_t, iz_f, ilt0, ige0, im1, Bool.false_eq_true, Bool.true_eq_false, if_true, if_false]
  · simp (disch := omega) only [e, hb, h3, h4, hz, ↓reduceIte, bt_do, bd_do, jn_eq, bI_z, gd_nI, gd_0, gd_1, nI_clamp, nI_add, nI_1, pk_mul, Nat.add_zero, Nat.zero_add, ile_t, ile_f, ilt_t, ilt_f, ieq_t, ieq_f, iz_t, iz_f, ilt0, ige0, im1, Bool.false_eq_true, Bool.true_eq_false, if_true, if_false]
theorem tail_fo {k p : Nat} {md : MD} (h : FO k p md) (hN : N5 md) : ∃ md', tailM md = some (-1000100 - nI p, md') ∧ FEr k md md' := by
  obtain ⟨N, h5, h0⟩ := hN
  have h' : FO k p (md.1, upW md.2.1 N, md.2.2) := h
  obtain ⟨md', k1, k2⟩ := fin_fo h' (nI 0)
  refine ⟨md', ?_, k2⟩
  unfold tailM
  rw [jn_eq, up20_m h5 h0]
  dsimp only
  rw [u_X11_readsServers, jn_eq, show FU = 3999 + 1 from rfl, srv_fo h', bd_do]
  dsimp only
  rw [u_X11_readsFiles, jn_eq, show FU = 3999 + 1 from rfl, fls_fo h', bd_do]
  exact k1
theorem fin_po {t : Nat} {T : Nat → Nat} {n q : Nat} {md : MD} {A : AH} (hT : TPM t T md) (hP : PO t T q md) (hM : RM A md.2.1) (hA : AI n A) (x : Int32) : (q = t ∧ ∃ md', finM (x, md) = some (x, md') ∧ FOk md md' ∧ RM A md'.1) ∨ (¬ q = t ∧ ∃ md', finM (x, md) = some (-1000100 - nI q, md') ∧ FEr 1 md md') := by
  have h30 : aMade A ≤ 30 := hA.2.2.2.2.2.2.1
  obtain ⟨hp, hf, hs, hK⟩ := hP
  by_cases e : q = t
  · left
    have hk : md.2.2.2.2.2.2.2.2.2.2.1 = nI 0 := by
      rcases hK with ⟨_, e2⟩ | ⟨e1, _⟩ | ⟨e1, _⟩ | ⟨e1, _⟩ | ⟨e1, _⟩
      · exact e2
      · omega
      · have := dC_t (t := t) (T := T) (p := q) (by omega)
        omega
      · omega
      · omega
    obtain ⟨b', hb', hb1, _⟩ := copies_m (n0 := 340) (n2 := 340) (a := 0) (b := 0) md.2.1 md.1 (by omega) (by omega) (by omega) (by omega)
    have hM' : RM A b' := hM.cong h30 (fun j hj => by
      have z := hb1 j hj
      rw [Nat.zero_add] at z
      exact z)
    have z0 : (nI 0 ≤ (0 : Int32)) = True := eq_true (by decide)
    refine ⟨e, (b', md.2.1, md.2.2.1, nI 0, md.2.2.2.2.1, md.2.2.2.2.2.1, md.2.2.2.2.2.2.1, nI 0, md.2.2.2.2.2.2.2.2.1, md.2.2.2.2.2.2.2.2.2.1, md.2.2.2.2.2.2.2.2.2.2.1, md.2.2.2.2.2.2.2.2.2.2.2.1, md.2.2.2.2.2.2.2.2.2.2.2.2.1, md.2.2.2.2.2.2.2.2.2.2.2.2.2.1, md.2.2.2.2.2.2.2.2.2.2.2.2.2.2.1, md.2.2.2.2.2.2.2.2.2.2.2.2.2.2.2.1, md.2.2.2.2.2.2.2.2.2.2.2.2.2.2.2.2), ?_, ⟨rfl, rfl, rfl, rfl, rfl⟩, hM'⟩
    unfold finM
    have hf' : (md.2.2.2.2.2.2.2.2.2.2.2.2.1 ≤ 0) = True := by rw [hf]; exact z0
    have hk' : (md.2.2.2.2.2.2.2.2.2.2.1 = 0) = True := by rw [hk]; exact eq_true rfl
    simp (disch := omega) only [hk', hf', hb', ↓reduceIte, bt_do, bd_do, jn_eq, bI_z, gd_nI, gd_0, gd_1, nI_clamp, nI_add, nI_1, pk_mul, Nat.add_zero, Nat.zero_add, ile_t, ile_f, ilt_t, ilt_f, ieq_t, ieq_f, iz_t, iz_f, ilt0, ige0, im1, Bool.false_eq_true, Bool.true_eq_false, if_true, if_false]
  · right
    have hk : ¬ md.2.2.2.2.2.2.2.2.2.2.1 = 0 := by
      rcases hK with ⟨e1, _⟩ | ⟨_, _, e2, _⟩ | ⟨_, e2, _⟩ | ⟨_, _, e2, _⟩ | ⟨_, _, _, _, _, e2⟩
      · omega
      all_goals
        rw [e2]
        decide
    obtain ⟨m1, b1, b2, b3, b4⟩ := bad_m (md := md) (k := 1) (p := q) (by omega) hs hf
    obtain ⟨md', k1, k2⟩ := fin_fo b4 x
    refine ⟨e, md', ?_, k2.tr b2⟩
    refine Eq.trans ?_ k1
    unfold finM
    simp (disch := omega) only [hk, b1, fo_bad b4, ↓reduceIte, bt_do, bd_do, jn_eq, bI_z, gd_nI, gd_0, gd_1, nI_clamp, nI_add, nI_1, pk_mul, Nat.add_zero, Nat.zero_add, ile_t, ile_f, ilt_t, ilt_f, ieq_t, ieq_f, iz_t, iz_f, ilt0, ige0, im1, Bool.false_eq_true, Bool.true_eq_false, if_true, if_false]
    by_cases z : m1.2.2.2.2.2.2.2.2.2.2.1 = 0
    · simp only [z, ↓reduceIte, bt_do, bd_do, jn_eq, bI_z, gd_nI, gd_0, gd_1, nI_clamp, nI_add, nI_1, pk_mul, Nat.add_zero, Nat.zero_add, ile_t, ile_f, ilt_t, ilt_f, ieq_t, ieq_f, iz_t, iz_f, ilt0, ige0, im1, Bool.false_eq_true, Bool.true_eq_false, if_true, if_false]
    · simp only [z, ↓reduceIte, bt_do, bd_do, jn_eq, bI_z, gd_nI, gd_0, gd_1, nI_clamp, nI_add, nI_1, pk_mul, Nat.add_zero, Nat.zero_add, ile_t, ile_f, ilt_t, ilt_f, ieq_t, ieq_f, iz_t, iz_f, ilt0, ige0, im1, Bool.false_eq_true, Bool.true_eq_false, if_true, if_false]
