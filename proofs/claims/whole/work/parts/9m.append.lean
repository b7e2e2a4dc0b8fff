/-! PURE 9m: append, find -/
theorem ok_append : Ok_append Sim := by
  intro n g0 md0 p1 hn hS0
  obtain ⟨A, a, P, I, hSm0⟩ := hS0
  obtain ⟨q, L, g, md, hc, hm, hSm, hq, hL⟩ := record hSm0
  have hS : Sim n g md := ⟨A, a, P, I, hSm⟩
  have hr := refuse hSm.1 p1
  have hst := stand hSm.1
  obtain ⟨h1, h2, h3, h4⟩ := hSm.1
  have h9 : aSize A ≤ 9 := h3.2.2.1
  have v2 : g.2.2.2.1.2.1 = nI (aSize A) := h1.1.2.1
  have hwi : f_X10_within (nI q) (nI 1) (nI (aSize A)) = decide (1 ≤ q ∧ q ≤ aSize A) := wi_d (by omega) (by omega) (by omega)
  rcases hst with ⟨s1, s2, s3⟩ | ⟨s1, s2, s3⟩
  · have r1 : f_X10_refusalOfFile g p1 = some (-1000002) := by simp only [u_X10_refusalOfFile, s1, ↓reduceIte, bt_do, bd_do, jn_eq, bI_z, gd_nI, gd_0, gd_1, nI_clamp, nI_add, nI_1, pk_mul, Nat.add_zero, Nat.zero_add, ile_t, ile_f, ilt_t, ilt_f, ieq_t, ieq_f, iz_t, iz_f, ilt0, ige0, im1, Bool.false_eq_true, Bool.true_eq_false, if_true, if_false]
    exact same hS (-1000002) (by simp only [u_X10_append, hc, u_X10_refusalOfRecord, s1, r1, n2z, ↓reduceIte, bt_do, bd_do, jn_eq, bI_z, gd_nI, gd_0, gd_1, nI_clamp, nI_add, nI_1, pk_mul, Nat.add_zero, Nat.zero_add, ile_t, ile_f, ilt_t, ilt_f, ieq_t, ieq_f, iz_t, iz_f, ilt0, ige0, im1, Bool.false_eq_true, Bool.true_eq_false, if_true, if_false]) (by simp only [u_X11_append, hm, s2, ↓reduceIte, bt_do, bd_do, jn_eq, bI_z, gd_nI, gd_0, gd_1, nI_clamp, nI_add, nI_1, pk_mul, Nat.add_zero, Nat.zero_add, ile_t, ile_f, ilt_t, ilt_f, ieq_t, ieq_f, iz_t, iz_f, ilt0, ige0, im1, Bool.false_eq_true, Bool.true_eq_false, if_true, if_false])
  · by_cases e : 1 ≤ q ∧ q ≤ aSize A
    · rw [decide_eq_true e] at hm hwi
      rcases hr with ⟨r1, r2⟩ | ⟨_, r1, r2, r3, _⟩ | ⟨f, hf, rfl, _, r2, r3, ⟨e1, r4, r5⟩ | ⟨e1, r4, r5⟩⟩
      · rw [r2] at s2; cases s2
      · exact same hS (-1000001) (by simp only [u_X10_append, hc, u_X10_refusalOfRecord, s1, v2, hwi, r1, n1z, ↓reduceIte, bt_do, bd_do, jn_eq, bI_z, gd_nI, gd_0, gd_1, nI_clamp, nI_add, nI_1, pk_mul, Nat.add_zero, Nat.zero_add, ile_t, ile_f, ilt_t, ilt_f, ieq_t, ieq_f, iz_t, iz_f, ilt0, ige0, im1, Bool.false_eq_true, Bool.true_eq_false, if_true, if_false]) (by simp only [u_X11_append, hm, s2, r3, ↓reduceIte, bt_do, bd_do, jn_eq, bI_z, gd_nI, gd_0, gd_1, nI_clamp, nI_add, nI_1, pk_mul, Nat.add_zero, Nat.zero_add, ile_t, ile_f, ilt_t, ilt_f, ieq_t, ieq_f, iz_t, iz_f, ilt0, ige0, im1, Bool.false_eq_true, Bool.true_eq_false, if_true, if_false])
      · exact same hS (-1000002) (by simp only [u_X10_append, hc, u_X10_refusalOfRecord, s1, v2, hwi, r4, n2z, ↓reduceIte, bt_do, bd_do, jn_eq, bI_z, gd_nI, gd_0, gd_1, nI_clamp, nI_add, nI_1, pk_mul, Nat.add_zero, Nat.zero_add, ile_t, ile_f, ilt_t, ilt_f, ieq_t, ieq_f, iz_t, iz_f, ilt0, ige0, im1, Bool.false_eq_true, Bool.true_eq_false, if_true, if_false]) (by simp only [u_X11_append, hm, s2, isF_m hf, r5, ↓reduceIte, bt_do, bd_do, jn_eq, bI_z, gd_nI, gd_0, gd_1, nI_clamp, nI_add, nI_1, pk_mul, Nat.add_zero, Nat.zero_add, ile_t, ile_f, ilt_t, ilt_f, ieq_t, ieq_f, iz_t, iz_f, ilt0, ige0, im1, Bool.false_eq_true, Bool.true_eq_false, if_true, if_false])
      · obtain ⟨l1, l2, l3, l4⟩ := hL e
        obtain ⟨ac, past', hk, hno, hcl⟩ := act hSm s3
        have hQ : AQ (7 * n) A f q := ⟨h3, e1, s3.2.1, e.1, e.2⟩
        obtain ⟨v', hv, hR⟩ := addRecord_c (n2 := 80) (v2 := g.1.1.1) hf l1 hq (by omega) l2 h1 hQ (by omega)
        obtain ⟨b', hb', hM⟩ := appends_m (md := (md.1, md.2.1, past', nI (min (a + 1) 6), md.2.2.2.2)) hf l1 l3 l4 h2 hQ (by omega)
        have hin := spApp_inv hQ hf l1
        refine ⟨(spApp A f q L).1, (g.1, g.2.1, ac, v', g.2.2.2.2.1, g.2.2.2.2.2), (b', md.2.1, past', nI (min (a + 1) 6), md.2.2.2.2), ?_, ?_, hcl _ _ _ _ _ _ hR hM (hin.mono (by omega)) (s3.num (app_num hf l1 hQ))⟩
        · simp (disch := omega) only [u_X10_append, hc, u_X10_refusalOfRecord, s1, v2, hwi, r4, hk, hv, ↓reduceIte, bt_do, bd_do, jn_eq, bI_z, gd_nI, gd_0, gd_1, nI_clamp, nI_add, nI_1, pk_mul, Nat.add_zero, Nat.zero_add, ile_t, ile_f, ilt_t, ilt_f, ieq_t, ieq_f, iz_t, iz_f, ilt0, ige0, im1, Bool.false_eq_true, Bool.true_eq_false, if_true, if_false]
        · simp (disch := omega) only [u_X11_append, hm, s2, isF_m hf, r5, hno, hb', ↓reduceIte, bt_do, bd_do, jn_eq, bI_z, gd_nI, gd_0, gd_1, nI_clamp, nI_add, nI_1, pk_mul, Nat.add_zero, Nat.zero_add, ile_t, ile_f, ilt_t, ilt_f, ieq_t, ieq_f, iz_t, iz_f, ilt0, ige0, im1, Bool.false_eq_true, Bool.true_eq_false, if_true, if_false]
    · rw [decide_eq_false e] at hm hwi
      refine same hS (-1000001) (by simp only [u_X10_append, hc, u_X10_refusalOfRecord, s1, v2, hwi, n1z, ↓reduceIte, bt_do, bd_do, jn_eq, bI_z, gd_nI, gd_0, gd_1, nI_clamp, nI_add, nI_1, pk_mul, Nat.add_zero, Nat.zero_add, ile_t, ile_f, ilt_t, ilt_f, ieq_t, ieq_f, iz_t, iz_f, ilt0, ige0, im1, Bool.false_eq_true, Bool.true_eq_false, if_true, if_false]) ?_
      cases hf : f_X11_isFile p1 <;> simp only [u_X11_append, hm, s2, hf, ↓reduceIte, bt_do, bd_do, jn_eq, bI_z, gd_nI, gd_0, gd_1, nI_clamp, nI_add, nI_1, pk_mul, Nat.add_zero, Nat.zero_add, ile_t, ile_f, ilt_t, ilt_f, ieq_t, ieq_f, iz_t, iz_f, ilt0, ige0, im1, Bool.false_eq_true, Bool.true_eq_false, if_true, if_false]
theorem ok_find : Ok_find Sim := by
  intro n g0 md0 p1 hn hS0
  obtain ⟨A, a, P, I, hSm0⟩ := hS0
  obtain ⟨q, L, g, md, hc, hm, hSm, hq, hL⟩ := record hSm0
  have hS : Sim n g md := ⟨A, a, P, I, hSm⟩
  have hr := refuse hSm.1 p1
  have hst := stand hSm.1
  obtain ⟨h1, h2, h3, h4⟩ := hSm.1
  have h9 : aSize A ≤ 9 := h3.2.2.1
  have h7 : 7 * n ≤ 8000 := by omega
  have v2 : g.2.2.2.1.2.1 = nI (aSize A) := h1.1.2.1
  have hwi : f_X10_within (nI q) (nI 1) (nI (aSize A)) = decide (1 ≤ q ∧ q ≤ aSize A) := wi_d (by omega) (by omega) (by omega)
  rcases hst with ⟨s1, s2, s3⟩ | ⟨s1, s2, s3⟩
  · have r1 : f_X10_refusalOfFile g p1 = some (-1000002) := by simp only [u_X10_refusalOfFile, s1, ↓reduceIte, bt_do, bd_do, jn_eq, bI_z, gd_nI, gd_0, gd_1, nI_clamp, nI_add, nI_1, pk_mul, Nat.add_zero, Nat.zero_add, ile_t, ile_f, ilt_t, ilt_f, ieq_t, ieq_f, iz_t, iz_f, ilt0, ige0, im1, Bool.false_eq_true, Bool.true_eq_false, if_true, if_false]
    exact same hS (-1000002) (by simp only [u_X10_find, hc, u_X10_refusalOfRecord, s1, r1, n2z, ↓reduceIte, bt_do, bd_do, jn_eq, bI_z, gd_nI, gd_0, gd_1, nI_clamp, nI_add, nI_1, pk_mul, Nat.add_zero, Nat.zero_add, ile_t, ile_f, ilt_t, ilt_f, ieq_t, ieq_f, iz_t, iz_f, ilt0, ige0, im1, Bool.false_eq_true, Bool.true_eq_false, if_true, if_false]) (by simp only [u_X11_find, hm, s2, ↓reduceIte, bt_do, bd_do, jn_eq, bI_z, gd_nI, gd_0, gd_1, nI_clamp, nI_add, nI_1, pk_mul, Nat.add_zero, Nat.zero_add, ile_t, ile_f, ilt_t, ilt_f, ieq_t, ieq_f, iz_t, iz_f, ilt0, ige0, im1, Bool.false_eq_true, Bool.true_eq_false, if_true, if_false])
  · by_cases e : 1 ≤ q ∧ q ≤ aSize A
    · rw [decide_eq_true e] at hm hwi
      rcases hr with ⟨r1, r2⟩ | ⟨_, r1, r2, r3, _⟩ | ⟨f, hf, rfl, _, r2, r3, ⟨e1, r4, r5⟩ | ⟨e1, r4, r5⟩⟩
      · rw [r2] at s2; cases s2
      · exact same hS (-1000001) (by simp only [u_X10_find, hc, u_X10_refusalOfRecord, s1, v2, hwi, r1, n1z, ↓reduceIte, bt_do, bd_do, jn_eq, bI_z, gd_nI, gd_0, gd_1, nI_clamp, nI_add, nI_1, pk_mul, Nat.add_zero, Nat.zero_add, ile_t, ile_f, ilt_t, ilt_f, ieq_t, ieq_f, iz_t, iz_f, ilt0, ige0, im1, Bool.false_eq_true, Bool.true_eq_false, if_true, if_false]) (by simp only [u_X11_find, hm, s2, r3, ↓reduceIte, bt_do, bd_do, jn_eq, bI_z, gd_nI, gd_0, gd_1, nI_clamp, nI_add, nI_1, pk_mul, Nat.add_zero, Nat.zero_add, ile_t, ile_f, ilt_t, ilt_f, ieq_t, ieq_f, iz_t, iz_f, ilt0, ige0, im1, Bool.false_eq_true, Bool.true_eq_false, if_true, if_false])
      · exact same hS (-1000002) (by simp only [u_X10_find, hc, u_X10_refusalOfRecord, s1, v2, hwi, r4, n2z, ↓reduceIte, bt_do, bd_do, jn_eq, bI_z, gd_nI, gd_0, gd_1, nI_clamp, nI_add, nI_1, pk_mul, Nat.add_zero, Nat.zero_add, ile_t, ile_f, ilt_t, ilt_f, ieq_t, ieq_f, iz_t, iz_f, ilt0, ige0, im1, Bool.false_eq_true, Bool.true_eq_false, if_true, if_false]) (by simp only [u_X11_find, hm, s2, isF_m hf, r5, ↓reduceIte, bt_do, bd_do, jn_eq, bI_z, gd_nI, gd_0, gd_1, nI_clamp, nI_add, nI_1, pk_mul, Nat.add_zero, Nat.zero_add, ile_t, ile_f, ilt_t, ilt_f, ieq_t, ieq_f, iz_t, iz_f, ilt0, ige0, im1, Bool.false_eq_true, Bool.true_eq_false, if_true, if_false])
      · obtain ⟨l1, l2, l3, l4⟩ := hL e
        have hv := placesOf_c (n4 := 80) (v4 := g.1.1.1) h1 h3 h7 hf e.2 hq (by omega) l1 l2
        have hb := find_loop_m h2 h3 h7 hf e.2 l1 l3 l4 true
        refine same hS (spFind A f q L) (by simp (disch := omega) only [u_X10_find, hc, u_X10_refusalOfRecord, s1, v2, hwi, r4, hv, ↓reduceIte, bt_do, bd_do, jn_eq, bI_z, gd_nI, gd_0, gd_1, nI_clamp, nI_add, nI_1, pk_mul, Nat.add_zero, Nat.zero_add, ile_t, ile_f, ilt_t, ilt_f, ieq_t, ieq_f, iz_t, iz_f, ilt0, ige0, im1, Bool.false_eq_true, Bool.true_eq_false, if_true, if_false]) ?_
        refine Eq.trans ?_ hb
        simp (disch := omega) only [u_X11_find, hm, s2, isF_m hf, r5, ↓reduceIte, bt_do, bd_do, jn_eq, bI_z, gd_nI, gd_0, gd_1, nI_clamp, nI_add, nI_1, pk_mul, Nat.add_zero, Nat.zero_add, ile_t, ile_f, ilt_t, ilt_f, ieq_t, ieq_f, iz_t, iz_f, ilt0, ige0, im1, Bool.false_eq_true, Bool.true_eq_false, if_true, if_false]
    · rw [decide_eq_false e] at hm hwi
      refine same hS (-1000001) (by simp only [u_X10_find, hc, u_X10_refusalOfRecord, s1, v2, hwi, n1z, ↓reduceIte, bt_do, bd_do, jn_eq, bI_z, gd_nI, gd_0, gd_1, nI_clamp, nI_add, nI_1, pk_mul, Nat.add_zero, Nat.zero_add, ile_t, ile_f, ilt_t, ilt_f, ieq_t, ieq_f, iz_t, iz_f, ilt0, ige0, im1, Bool.false_eq_true, Bool.true_eq_false, if_true, if_false]) ?_
      cases hf : f_X11_isFile p1 <;> simp only [u_X11_find, hm, s2, hf, ↓reduceIte, bt_do, bd_do, jn_eq, bI_z, gd_nI, gd_0, gd_1, nI_clamp, nI_add, nI_1, pk_mul, Nat.add_zero, Nat.zero_add, ile_t, ile_f, ilt_t, ilt_f, ieq_t, ieq_f, iz_t, iz_f, ilt0, ige0, im1, Bool.false_eq_true, Bool.true_eq_false, if_true, if_false]
