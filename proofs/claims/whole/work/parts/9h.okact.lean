/-! PURE 9h: acts -/
theorem same {n : Nat} {g : GC} {md : MD} {X : Option (Int32 × GC)} {Y : Option (Int32 × MD)} (hS : Sim n g md) (r : Int32) (h1 : X = some (r, g)) (h2 : Y = some (r, md)) : ∃ (r : Int32) (g' : GC) (md' : MD), X = some (r, g') ∧ Y = some (r, md') ∧ Sim (n + 1) g' md' := ⟨r, g, md, h1, h2, hS.next⟩
theorem nar0 : vp_nar .boolean (nI 0) = nI 0 := by decide
theorem nar1 : vp_nar .boolean (nI 1) = nI 1 := by decide
theorem ok_create : Ok_create Sim := by
  intro n g md p1 p2 hn hS
  have h := hS
  obtain ⟨A, a, P, I, hSm⟩ := h
  have hst := stand hSm.1
  obtain ⟨h1, h2, h3, h4⟩ := hSm.1
  have h30 : aMade A ≤ 30 := h3.2.2.2.2.2.2.1
  rcases hst with ⟨s1, s2, s3⟩ | ⟨s1, s2, s3⟩
  · exact same hS (-1000002) (by simp only [u_X10_create, s1, ↓reduceIte, bt_do, bd_do, jn_eq, bI_z, gd_nI, gd_0, gd_1, nI_clamp, nI_add, nI_1, pk_mul, Nat.add_zero, Nat.zero_add, ile_t, ile_f, ilt_t, ilt_f, ieq_t, ieq_f, iz_t, iz_f, ilt0, ige0, im1, Bool.false_eq_true, Bool.true_eq_false, if_true, if_false]) (by simp only [u_X11_create, s2, ↓reduceIte, bt_do, bd_do, jn_eq, bI_z, gd_nI, gd_0, gd_1, nI_clamp, nI_add, nI_1, pk_mul, Nat.add_zero, Nat.zero_add, ile_t, ile_f, ilt_t, ilt_f, ieq_t, ieq_f, iz_t, iz_f, ilt0, ige0, im1, Bool.false_eq_true, Bool.true_eq_false, if_true, if_false])
  · rcases file_cases p1 with ⟨f, hf, rfl⟩ | ⟨q1, q2⟩
    · rcases kind_cases p2 with ⟨k, k1, k2, rfl, w1, w2⟩ | ⟨w1, w2⟩
      · have hfl := h3.2.2.2.2.2.2.2.2.2.2.1 f hf
        have is0 := is_c h1 (w := 0) hf hfl.1 (by omega)
        have m1 := h2.2.2.1 f hf
        by_cases e : aIs A f = 0
        · rw [decide_eq_true e] at is0
          obtain ⟨ac, past', hk, hno, hcl⟩ := act hSm s3
          obtain ⟨y, hy, hR⟩ := h1.cr (k := k) hf
          have hM := h2.cr h30 (k := k) hf
          have hAI := h3.cr hf e ⟨k1, k2⟩
          have hmc := manyOf_c hR hAI (w := 1) (by omega)
          have hmc : f_X3_manyOf y (nI 1) = some (nI (cN (aIsB (crA A f k) 1) 6)) := hmc
          have hmm : ∀ m2, f_X11_filesThat (vp_updL (vp_updL (vp_updL md.1 (22 + 8 * f) (lN 1)) (22 + 8 * f + 1) (lN k)) (22 + 8 * f + 2) (lN 0), m2) (nI 1) = some (nI (cN (aIsB (crA A f k) 1) 6)) := fun m2 => filesThat_m (md := (_, m2)) hM hAI (w := 1) (by omega)
          refine ⟨nI (cN (aIsB (crA A f k) 1) 6), (g.1, g.2.1, ac, hFL g.2.2.2.1 y, g.2.2.2.2.1, g.2.2.2.2.2), (vp_updL (vp_updL (vp_updL md.1 (22 + 8 * f) (lN 1)) (22 + 8 * f + 1) (lN k)) (22 + 8 * f + 2) (lN 0), md.2.1, past', nI (min (a + 1) 6), md.2.2.2.2), ?_, ?_, hcl _ _ _ _ _ _ hR hM (hAI.mono (by omega)) (s3.num (fun _ _ => rfl))⟩
          · simp (disch := omega) only [u_X10_create, s1, isFile_n hf, ↓w1, is0, hk, hy, hmc, ↓reduceIte, bt_do, bd_do, jn_eq, bI_z, gd_nI, gd_0, gd_1, nI_clamp, nI_add, nI_1, pk_mul, Nat.add_zero, Nat.zero_add, ile_t, ile_f, ilt_t, ilt_f, ieq_t, ieq_f, iz_t, iz_f, ilt0, ige0, im1, Bool.false_eq_true, Bool.true_eq_false, if_true, if_false] <;> rfl
          · simp (disch := omega) only [u_X11_create, s2, isF_m hf, ↓w2, m1.1, hno, hmm, ↓reduceIte, bt_do, bd_do, jn_eq, bI_z, gd_nI, gd_0, gd_1, nI_clamp, nI_add, nI_1, pk_mul, Nat.add_zero, Nat.zero_add, ile_t, ile_f, ilt_t, ilt_f, ieq_t, ieq_f, iz_t, iz_f, ilt0, ige0, im1, Bool.false_eq_true, Bool.true_eq_false, if_true, if_false, lc_ge_t, lc_ge_f, lc_eq_t, lc_eq_f, lc_le_t, lc_le_f, lc_gt_t, lc_gt_f, lc_lt_t, lc_lt_f, nI_l, lN_i, lN_add, lN_1] <;> rfl
        · rw [decide_eq_false e] at is0
          exact same hS (-1000002) (by simp (disch := omega) only [u_X10_create, s1, isFile_n hf, ↓w1, is0, ↓reduceIte, bt_do, bd_do, jn_eq, bI_z, gd_nI, gd_0, gd_1, nI_clamp, nI_add, nI_1, pk_mul, Nat.add_zero, Nat.zero_add, ile_t, ile_f, ilt_t, ilt_f, ieq_t, ieq_f, iz_t, iz_f, ilt0, ige0, im1, Bool.false_eq_true, Bool.true_eq_false, if_true, if_false]) (by simp (disch := omega) only [u_X11_create, s2, isF_m hf, ↓w2, m1.1, ↓reduceIte, bt_do, bd_do, jn_eq, bI_z, gd_nI, gd_0, gd_1, nI_clamp, nI_add, nI_1, pk_mul, Nat.add_zero, Nat.zero_add, ile_t, ile_f, ilt_t, ilt_f, ieq_t, ieq_f, iz_t, iz_f, ilt0, ige0, im1, Bool.false_eq_true, Bool.true_eq_false, if_true, if_false, lc_ge_t, lc_ge_f, lc_eq_t, lc_eq_f, lc_le_t, lc_le_f, lc_gt_t, lc_gt_f, lc_lt_t, lc_lt_f, nI_l, lN_i, lN_add, lN_1])
      · exact same hS (-1000001) (by simp only [u_X10_create, s1, isFile_n hf, ↓w1, ↓reduceIte, bt_do, bd_do, jn_eq, bI_z, gd_nI, gd_0, gd_1, nI_clamp, nI_add, nI_1, pk_mul, Nat.add_zero, Nat.zero_add, ile_t, ile_f, ilt_t, ilt_f, ieq_t, ieq_f, iz_t, iz_f, ilt0, ige0, im1, Bool.false_eq_true, Bool.true_eq_false, if_true, if_false]) (by simp only [u_X11_create, s2, isF_m hf, ↓w2, ↓reduceIte, bt_do, bd_do, jn_eq, bI_z, gd_nI, gd_0, gd_1, nI_clamp, nI_add, nI_1, pk_mul, Nat.add_zero, Nat.zero_add, ile_t, ile_f, ilt_t, ilt_f, ieq_t, ieq_f, iz_t, iz_f, ilt0, ige0, im1, Bool.false_eq_true, Bool.true_eq_false, if_true, if_false])
    · exact same hS (-1000001) (by simp only [u_X10_create, s1, q1, ↓reduceIte, bt_do, bd_do, jn_eq, bI_z, gd_nI, gd_0, gd_1, nI_clamp, nI_add, nI_1, pk_mul, Nat.add_zero, Nat.zero_add, ile_t, ile_f, ilt_t, ilt_f, ieq_t, ieq_f, iz_t, iz_f, ilt0, ige0, im1, Bool.false_eq_true, Bool.true_eq_false, if_true, if_false]) (by simp only [u_X11_create, s2, q2, ↓reduceIte, bt_do, bd_do, jn_eq, bI_z, gd_nI, gd_0, gd_1, nI_clamp, nI_add, nI_1, pk_mul, Nat.add_zero, Nat.zero_add, ile_t, ile_f, ilt_t, ilt_f, ieq_t, ieq_f, iz_t, iz_f, ilt0, ige0, im1, Bool.false_eq_true, Bool.true_eq_false, if_true, if_false])
theorem ok_both : Ok_both Sim := by
  intro n g md p1 p2 hn hS
  have h := hS
  obtain ⟨A, a, P, I, hSm⟩ := h
  have hst := stand hSm.1
  obtain ⟨h1, h2, h3, h4⟩ := hSm.1
  have h30 : aMade A ≤ 30 := h3.2.2.2.2.2.2.1
  rcases hst with ⟨s1, s2, s3⟩ | ⟨s1, s2, s3⟩
  · exact same hS (-1000002) (by simp only [u_X10_both, s1, ↓reduceIte, bt_do, bd_do, jn_eq, bI_z, gd_nI, gd_0, gd_1, nI_clamp, nI_add, nI_1, pk_mul, Nat.add_zero, Nat.zero_add, ile_t, ile_f, ilt_t, ilt_f, ieq_t, ieq_f, iz_t, iz_f, ilt0, ige0, im1, Bool.false_eq_true, Bool.true_eq_false, if_true, if_false]) (by simp only [u_X11_both, s2, ↓reduceIte, bt_do, bd_do, jn_eq, bI_z, gd_nI, gd_0, gd_1, nI_clamp, nI_add, nI_1, pk_mul, Nat.add_zero, Nat.zero_add, ile_t, ile_f, ilt_t, ilt_f, ieq_t, ieq_f, iz_t, iz_f, ilt0, ige0, im1, Bool.false_eq_true, Bool.true_eq_false, if_true, if_false])
  · rcases file_cases p1 with ⟨f, hf, rfl⟩ | ⟨q1, q2⟩
    · rcases file_cases p2 with ⟨t, ht, rfl⟩ | ⟨q1, q2⟩
      · have hfl := h3.2.2.2.2.2.2.2.2.2.2.1 f hf
        have htl := h3.2.2.2.2.2.2.2.2.2.2.1 t ht
        have is1 := is_c h1 (w := 1) hf hfl.1 (by omega)
        have it1 := isThere_m h2 h3 hf
        have is0 := is_c h1 (w := 0) ht htl.1 (by omega)
        have m1 := h2.2.2.1 f hf
        have m2 := h2.2.2.1 t ht
        by_cases e : aIs A f = 1
        · rw [decide_eq_true e] at is1 it1
          by_cases e0 : aIs A t = 0
          · rw [decide_eq_true e0] at is0
            have hft : ¬ f = t := by intro q; rw [q] at e; omega
            obtain ⟨ac, past', hk, hno, hcl⟩ := act hSm s3
            have hkd := m1.2.1 (by omega)
            obtain ⟨v', hv, hR⟩ := share_c h1 h3 hf ht hft (by omega) e0
            obtain ⟨b', hb, hM⟩ := both_loop_m h2 h3 hf ht hft (by omega) e0 (md.2.1, past', nI (min (a + 1) 6), md.2.2.2.2)
            have hin := boI_inv h3 hf ht hft (by omega) e0 (aMany A f) (Nat.le_refl _)
            have hmf : ∀ (x y : Int64), f_X11_many (vp_updL (vp_updL md.1 (22 + 8 * t) x) (22 + 8 * t + 1) y) (nI f) = some (nI (aMany A f)) := by
              intro x y
              have q := m1.2.2.1
              simp (disch := omega) only [u_X11_many, pk_uLn, q, lN_i, ↓reduceIte, bt_do, bd_do, jn_eq, bI_z, gd_nI, gd_0, gd_1, nI_clamp, nI_add, nI_1, pk_mul, Nat.add_zero, Nat.zero_add, ile_t, ile_f, ilt_t, ilt_f, ieq_t, ieq_f, iz_t, iz_f, ilt0, ige0, im1, Bool.false_eq_true, Bool.true_eq_false, if_true, if_false]
            refine ⟨nI (aMany A f), (g.1, g.2.1, ac, v', g.2.2.2.2.1, g.2.2.2.2.2), (b', md.2.1, past', nI (min (a + 1) 6), md.2.2.2.2), ?_, ?_, hcl _ _ _ _ _ _ hR hM (hin.1.mono (by omega)) (s3.num (fun j _ => by rw [hin.2.1]))⟩
            · simp (disch := omega) only [u_X10_both, s1, isFile_n hf, isFile_n ht, is1, is0, hk, hv, ↓reduceIte, bt_do, bd_do, jn_eq, bI_z, gd_nI, gd_0, gd_1, nI_clamp, nI_add, nI_1, pk_mul, Nat.add_zero, Nat.zero_add, ile_t, ile_f, ilt_t, ilt_f, ieq_t, ieq_f, iz_t, iz_f, ilt0, ige0, im1, Bool.false_eq_true, Bool.true_eq_false, if_true, if_false]
            · refine Eq.trans ?_ hb
              simp (disch := omega) only [u_X11_both, s2, isF_m hf, isF_m ht, it1, m2.1, e0, hno, pk_uLn, hkd, hmf, nI_l, ↓reduceIte, bt_do, bd_do, jn_eq, bI_z, gd_nI, gd_0, gd_1, nI_clamp, nI_add, nI_1, pk_mul, Nat.add_zero, Nat.zero_add, ile_t, ile_f, ilt_t, ilt_f, ieq_t, ieq_f, iz_t, iz_f, ilt0, ige0, im1, Bool.false_eq_true, Bool.true_eq_false, if_true, if_false, lc_ge_t, lc_ge_f, lc_eq_t, lc_eq_f, lc_le_t, lc_le_f, lc_gt_t, lc_gt_f, lc_lt_t, lc_lt_f, nI_l, lN_i, lN_add, lN_1]
          · rw [decide_eq_false e0] at is0
            exact same hS (-1000002) (by simp (disch := omega) only [u_X10_both, s1, isFile_n hf, isFile_n ht, is1, is0, ↓reduceIte, bt_do, bd_do, jn_eq, bI_z, gd_nI, gd_0, gd_1, nI_clamp, nI_add, nI_1, pk_mul, Nat.add_zero, Nat.zero_add, ile_t, ile_f, ilt_t, ilt_f, ieq_t, ieq_f, iz_t, iz_f, ilt0, ige0, im1, Bool.false_eq_true, Bool.true_eq_false, if_true, if_false]) (by simp (disch := omega) only [u_X11_both, s2, isF_m hf, isF_m ht, it1, m2.1, ↓reduceIte, bt_do, bd_do, jn_eq, bI_z, gd_nI, gd_0, gd_1, nI_clamp, nI_add, nI_1, pk_mul, Nat.add_zero, Nat.zero_add, ile_t, ile_f, ilt_t, ilt_f, ieq_t, ieq_f, iz_t, iz_f, ilt0, ige0, im1, Bool.false_eq_true, Bool.true_eq_false, if_true, if_false, lc_ge_t, lc_ge_f, lc_eq_t, lc_eq_f, lc_le_t, lc_le_f, lc_gt_t, lc_gt_f, lc_lt_t, lc_lt_f, nI_l, lN_i, lN_add, lN_1])
        · rw [decide_eq_false e] at is1 it1
          exact same hS (-1000002) (by simp (disch := omega) only [u_X10_both, s1, isFile_n hf, isFile_n ht, is1, ↓reduceIte, bt_do, bd_do, jn_eq, bI_z, gd_nI, gd_0, gd_1, nI_clamp, nI_add, nI_1, pk_mul, Nat.add_zero, Nat.zero_add, ile_t, ile_f, ilt_t, ilt_f, ieq_t, ieq_f, iz_t, iz_f, ilt0, ige0, im1, Bool.false_eq_true, Bool.true_eq_false, if_true, if_false]) (by simp (disch := omega) only [u_X11_both, s2, isF_m hf, isF_m ht, it1, ↓reduceIte, bt_do, bd_do, jn_eq, bI_z, gd_nI, gd_0, gd_1, nI_clamp, nI_add, nI_1, pk_mul, Nat.add_zero, Nat.zero_add, ile_t, ile_f, ilt_t, ilt_f, ieq_t, ieq_f, iz_t, iz_f, ilt0, ige0, im1, Bool.false_eq_true, Bool.true_eq_false, if_true, if_false, lc_ge_t, lc_ge_f, lc_eq_t, lc_eq_f, lc_le_t, lc_le_f, lc_gt_t, lc_gt_f, lc_lt_t, lc_lt_f, nI_l, lN_i, lN_add, lN_1])
      · exact same hS (-1000001) (by simp only [u_X10_both, s1, isFile_n hf, q1, ↓reduceIte, bt_do, bd_do, jn_eq, bI_z, gd_nI, gd_0, gd_1, nI_clamp, nI_add, nI_1, pk_mul, Nat.add_zero, Nat.zero_add, ile_t, ile_f, ilt_t, ilt_f, ieq_t, ieq_f, iz_t, iz_f, ilt0, ige0, im1, Bool.false_eq_true, Bool.true_eq_false, if_true, if_false]) (by simp only [u_X11_both, s2, isF_m hf, q2, ↓reduceIte, bt_do, bd_do, jn_eq, bI_z, gd_nI, gd_0, gd_1, nI_clamp, nI_add, nI_1, pk_mul, Nat.add_zero, Nat.zero_add, ile_t, ile_f, ilt_t, ilt_f, ieq_t, ieq_f, iz_t, iz_f, ilt0, ige0, im1, Bool.false_eq_true, Bool.true_eq_false, if_true, if_false])
    · exact same hS (-1000001) (by simp only [u_X10_both, s1, q1, ↓reduceIte, bt_do, bd_do, jn_eq, bI_z, gd_nI, gd_0, gd_1, nI_clamp, nI_add, nI_1, pk_mul, Nat.add_zero, Nat.zero_add, ile_t, ile_f, ilt_t, ilt_f, ieq_t, ieq_f, iz_t, iz_f, ilt0, ige0, im1, Bool.false_eq_true, Bool.true_eq_false, if_true, if_false]) (by simp only [u_X11_both, s2, q2, ↓reduceIte, bt_do, bd_do, jn_eq, bI_z, gd_nI, gd_0, gd_1, nI_clamp, nI_add, nI_1, pk_mul, Nat.add_zero, Nat.zero_add, ile_t, ile_f, ilt_t, ilt_f, ieq_t, ieq_f, iz_t, iz_f, ilt0, ige0, im1, Bool.false_eq_true, Bool.true_eq_false, if_true, if_false])
theorem ok_bring : Ok_bring Sim := by
  intro n g md p1 hn hS
  have h := hS
  obtain ⟨A, a, P, I, hSm⟩ := h
  have hst := stand hSm.1
  obtain ⟨h1, h2, h3, h4⟩ := hSm.1
  have h30 : aMade A ≤ 30 := h3.2.2.2.2.2.2.1
  rcases hst with ⟨s1, s2, s3⟩ | ⟨s1, s2, s3⟩
  · exact same hS (-1000002) (by simp only [u_X10_bring, s1, ↓reduceIte, bt_do, bd_do, jn_eq, bI_z, gd_nI, gd_0, gd_1, nI_clamp, nI_add, nI_1, pk_mul, Nat.add_zero, Nat.zero_add, ile_t, ile_f, ilt_t, ilt_f, ieq_t, ieq_f, iz_t, iz_f, ilt0, ige0, im1, Bool.false_eq_true, Bool.true_eq_false, if_true, if_false]) (by simp only [u_X11_bring, s2, ↓reduceIte, bt_do, bd_do, jn_eq, bI_z, gd_nI, gd_0, gd_1, nI_clamp, nI_add, nI_1, pk_mul, Nat.add_zero, Nat.zero_add, ile_t, ile_f, ilt_t, ilt_f, ieq_t, ieq_f, iz_t, iz_f, ilt0, ige0, im1, Bool.false_eq_true, Bool.true_eq_false, if_true, if_false])
  · rcases file_cases p1 with ⟨f, hf, rfl⟩ | ⟨q1, q2⟩
    · have hfl := h3.2.2.2.2.2.2.2.2.2.2.1 f hf
      have hnow : aNow A ≤ 50 * (7 * n) := h3.2.2.2.2.2.1
      have is0 := is_c h1 (w := 2) hf hfl.1 (by omega)
      have m1 := h2.2.2.1 f hf
      by_cases e : aIs A f = 2
      · rw [decide_eq_true e] at is0
        obtain ⟨ac, past', hk, hno, hcl⟩ := act hSm s3
        obtain ⟨y, hy, hR⟩ := h1.show hf e
        have hM := h2.show h30 hf e
        have hAI := h3.show e
        have ms := m1.2.2.2.1 e
        refine ⟨nI (aSince A f), (g.1, g.2.1, ac, hFL g.2.2.2.1 y, g.2.2.2.2.1, g.2.2.2.2.2), (vp_updL md.1 (22 + 8 * f) (lN 1), md.2.1, past', nI (min (a + 1) 6), md.2.2.2.2), ?_, ?_, hcl _ _ _ _ _ _ hR hM (hAI.mono (by omega)) (s3.num (fun _ _ => rfl))⟩
        · simp (disch := omega) only [u_X10_bring, s1, isFile_n hf, is0, hk, hy, ↓reduceIte, bt_do, bd_do, jn_eq, bI_z, gd_nI, gd_0, gd_1, nI_clamp, nI_add, nI_1, pk_mul, Nat.add_zero, Nat.zero_add, ile_t, ile_f, ilt_t, ilt_f, ieq_t, ieq_f, iz_t, iz_f, ilt0, ige0, im1, Bool.false_eq_true, Bool.true_eq_false, if_true, if_false] <;> rfl
        · simp (disch := omega) only [u_X11_bring, s2, isF_m hf, m1.1, hno, pk_uLn, ms, ↓reduceIte, bt_do, bd_do, jn_eq, bI_z, gd_nI, gd_0, gd_1, nI_clamp, nI_add, nI_1, pk_mul, Nat.add_zero, Nat.zero_add, ile_t, ile_f, ilt_t, ilt_f, ieq_t, ieq_f, iz_t, iz_f, ilt0, ige0, im1, Bool.false_eq_true, Bool.true_eq_false, if_true, if_false, lc_ge_t, lc_ge_f, lc_eq_t, lc_eq_f, lc_le_t, lc_le_f, lc_gt_t, lc_gt_f, lc_lt_t, lc_lt_f, nI_l, lN_i, lN_add, lN_1] <;> rfl
      · rw [decide_eq_false e] at is0
        exact same hS (-1000002) (by simp (disch := omega) only [u_X10_bring, s1, isFile_n hf, is0, ↓reduceIte, bt_do, bd_do, jn_eq, bI_z, gd_nI, gd_0, gd_1, nI_clamp, nI_add, nI_1, pk_mul, Nat.add_zero, Nat.zero_add, ile_t, ile_f, ilt_t, ilt_f, ieq_t, ieq_f, iz_t, iz_f, ilt0, ige0, im1, Bool.false_eq_true, Bool.true_eq_false, if_true, if_false]) (by simp (disch := omega) only [u_X11_bring, s2, isF_m hf, m1.1, ↓reduceIte, bt_do, bd_do, jn_eq, bI_z, gd_nI, gd_0, gd_1, nI_clamp, nI_add, nI_1, pk_mul, Nat.add_zero, Nat.zero_add, ile_t, ile_f, ilt_t, ilt_f, ieq_t, ieq_f, iz_t, iz_f, ilt0, ige0, im1, Bool.false_eq_true, Bool.true_eq_false, if_true, if_false, lc_ge_t, lc_ge_f, lc_eq_t, lc_eq_f, lc_le_t, lc_le_f, lc_gt_t, lc_gt_f, lc_lt_t, lc_lt_f, nI_l, lN_i, lN_add, lN_1])
    · exact same hS (-1000001) (by simp only [u_X10_bring, s1, q1, ↓reduceIte, bt_do, bd_do, jn_eq, bI_z, gd_nI, gd_0, gd_1, nI_clamp, nI_add, nI_1, pk_mul, Nat.add_zero, Nat.zero_add, ile_t, ile_f, ilt_t, ilt_f, ieq_t, ieq_f, iz_t, iz_f, ilt0, ige0, im1, Bool.false_eq_true, Bool.true_eq_false, if_true, if_false]) (by simp only [u_X11_bring, s2, q2, ↓reduceIte, bt_do, bd_do, jn_eq, bI_z, gd_nI, gd_0, gd_1, nI_clamp, nI_add, nI_1, pk_mul, Nat.add_zero, Nat.zero_add, ile_t, ile_f, ilt_t, ilt_f, ieq_t, ieq_f, iz_t, iz_f, ilt0, ige0, im1, Bool.false_eq_true, Bool.true_eq_false, if_true, if_false])
theorem ok_remove : Ok_remove Sim := by
  intro n g md p1 hn hS
  have h := hS
  obtain ⟨A, a, P, I, hSm⟩ := h
  have hr := refuse hSm.1 p1
  obtain ⟨h1, h2, h3, h4⟩ := hSm.1
  have h30 : aMade A ≤ 30 := h3.2.2.2.2.2.2.1
  have h7 : 7 * n ≤ 8000 := by omega
  rcases hr with ⟨r1, r2⟩ | ⟨_, r1, r2, r3, _⟩ | ⟨f, hf, rfl, _, r2, r3, ⟨e, r4, r5⟩ | ⟨e, r4, r5⟩⟩
  · exact same hS (-1000002) (by simp only [u_X10_remove, r1, n2z, ↓reduceIte, bt_do, bd_do, jn_eq, bI_z, gd_nI, gd_0, gd_1, nI_clamp, nI_add, nI_1, pk_mul, Nat.add_zero, Nat.zero_add, ile_t, ile_f, ilt_t, ilt_f, ieq_t, ieq_f, iz_t, iz_f, ilt0, ige0, im1, Bool.false_eq_true, Bool.true_eq_false, if_true, if_false]) (by simp only [u_X11_remove, r2, ↓reduceIte, bt_do, bd_do, jn_eq, bI_z, gd_nI, gd_0, gd_1, nI_clamp, nI_add, nI_1, pk_mul, Nat.add_zero, Nat.zero_add, ile_t, ile_f, ilt_t, ilt_f, ieq_t, ieq_f, iz_t, iz_f, ilt0, ige0, im1, Bool.false_eq_true, Bool.true_eq_false, if_true, if_false])
  · exact same hS (-1000001) (by simp only [u_X10_remove, r1, n1z, ↓reduceIte, bt_do, bd_do, jn_eq, bI_z, gd_nI, gd_0, gd_1, nI_clamp, nI_add, nI_1, pk_mul, Nat.add_zero, Nat.zero_add, ile_t, ile_f, ilt_t, ilt_f, ieq_t, ieq_f, iz_t, iz_f, ilt0, ige0, im1, Bool.false_eq_true, Bool.true_eq_false, if_true, if_false]) (by simp only [u_X11_remove, r2, r3, ↓reduceIte, bt_do, bd_do, jn_eq, bI_z, gd_nI, gd_0, gd_1, nI_clamp, nI_add, nI_1, pk_mul, Nat.add_zero, Nat.zero_add, ile_t, ile_f, ilt_t, ilt_f, ieq_t, ieq_f, iz_t, iz_f, ilt0, ige0, im1, Bool.false_eq_true, Bool.true_eq_false, if_true, if_false])
  · exact same hS (-1000002) (by simp only [u_X10_remove, r4, n2z, ↓reduceIte, bt_do, bd_do, jn_eq, bI_z, gd_nI, gd_0, gd_1, nI_clamp, nI_add, nI_1, pk_mul, Nat.add_zero, Nat.zero_add, ile_t, ile_f, ilt_t, ilt_f, ieq_t, ieq_f, iz_t, iz_f, ilt0, ige0, im1, Bool.false_eq_true, Bool.true_eq_false, if_true, if_false]) (by simp only [u_X11_remove, r2, isF_m hf, r5, ↓reduceIte, bt_do, bd_do, jn_eq, bI_z, gd_nI, gd_0, gd_1, nI_clamp, nI_add, nI_1, pk_mul, Nat.add_zero, Nat.zero_add, ile_t, ile_f, ilt_t, ilt_f, ieq_t, ieq_f, iz_t, iz_f, ilt0, ige0, im1, Bool.false_eq_true, Bool.true_eq_false, if_true, if_false])
  · obtain ⟨ac, past', hk, hno, hcl⟩ := act hSm r3
    have hnow : aNow A ≤ 50 * (7 * n) := h3.2.2.2.2.2.1
    have m5 : md.1 5 = lN (aNow A) := h2.1 5 (by omega)
    obtain ⟨v', hv, hR⟩ := take_c h1 h3 h7 hf (by omega)
    have hM := h2.hide h30 hf (by omega)
    have hAI := h3.hide (f := f) (by omega)
    have hgm := grace_m hM hAI hf (by show ¬ upO _ _ _ _ = 0; rw [up_s]; omega)
    have hgm : f_X11_grace (vp_updL (vp_updL md.1 (22 + 8 * f) (lN 2)) (22 + 8 * f + 3) (lN (aNow A))) (nI f) = some (lN (aGr A f)) := hgm
    obtain ⟨b', hb, hMg⟩ := goes_m hM hAI hf
    have hg := gr_le h3 f
    have hT := h3.take hf (show ¬ aIs A f = 0 by omega)
    by_cases e0 : aGr A f = 0
    · have hs : spTake A f = goneA (hideA A f) f := if_pos e0
      rw [hs] at hR hT
      refine ⟨nI (aNow A + aGr A f), (g.1, g.2.1, ac, v', g.2.2.2.2.1, g.2.2.2.2.2), (b', md.2.1, past', nI (min (a + 1) 6), md.2.2.2.2), ?_, ?_, hcl _ _ _ _ _ _ hR hMg (hT.mono (by omega)) (r3.num (fun _ _ => rfl))⟩
      · simp (disch := omega) only [u_X10_remove, r4, hk, hv, ↓reduceIte, bt_do, bd_do, jn_eq, bI_z, gd_nI, gd_0, gd_1, nI_clamp, nI_add, nI_1, pk_mul, Nat.add_zero, Nat.zero_add, ile_t, ile_f, ilt_t, ilt_f, ieq_t, ieq_f, iz_t, iz_f, ilt0, ige0, im1, Bool.false_eq_true, Bool.true_eq_false, if_true, if_false] <;> rfl
      · simp (disch := omega) only [u_X11_remove, r2, isF_m hf, r5, hno, pk_uLn, m5, hgm, hb, ↓reduceIte, bt_do, bd_do, jn_eq, bI_z, gd_nI, gd_0, gd_1, nI_clamp, nI_add, nI_1, pk_mul, Nat.add_zero, Nat.zero_add, ile_t, ile_f, ilt_t, ilt_f, ieq_t, ieq_f, iz_t, iz_f, ilt0, ige0, im1, Bool.false_eq_true, Bool.true_eq_false, if_true, if_false, lc_ge_t, lc_ge_f, lc_eq_t, lc_eq_f, lc_le_t, lc_le_f, lc_gt_t, lc_gt_f, lc_lt_t, lc_lt_f, nI_l, lN_i, lN_add, lN_1] <;> rfl
    · have hs : spTake A f = hideA A f := if_neg e0
      rw [hs] at hR hT
      refine ⟨nI (aNow A + aGr A f), (g.1, g.2.1, ac, v', g.2.2.2.2.1, g.2.2.2.2.2), (vp_updL (vp_updL md.1 (22 + 8 * f) (lN 2)) (22 + 8 * f + 3) (lN (aNow A)), md.2.1, past', nI (min (a + 1) 6), md.2.2.2.2), ?_, ?_, hcl _ _ _ _ _ _ hR hM (hT.mono (by omega)) (r3.num (fun _ _ => rfl))⟩
      · simp (disch := omega) only [u_X10_remove, r4, hk, hv, ↓reduceIte, bt_do, bd_do, jn_eq, bI_z, gd_nI, gd_0, gd_1, nI_clamp, nI_add, nI_1, pk_mul, Nat.add_zero, Nat.zero_add, ile_t, ile_f, ilt_t, ilt_f, ieq_t, ieq_f, iz_t, iz_f, ilt0, ige0, im1, Bool.false_eq_true, Bool.true_eq_false, if_true, if_false] <;> rfl
      · simp (disch := omega) only [u_X11_remove, r2, isF_m hf, r5, hno, pk_uLn, m5, hgm, ↓reduceIte, bt_do, bd_do, jn_eq, bI_z, gd_nI, gd_0, gd_1, nI_clamp, nI_add, nI_1, pk_mul, Nat.add_zero, Nat.zero_add, ile_t, ile_f, ilt_t, ilt_f, ieq_t, ieq_f, iz_t, iz_f, ilt0, ige0, im1, Bool.false_eq_true, Bool.true_eq_false, if_true, if_false, lc_ge_t, lc_ge_f, lc_eq_t, lc_eq_f, lc_le_t, lc_le_f, lc_gt_t, lc_gt_f, lc_lt_t, lc_lt_f, nI_l, lN_i, lN_add, lN_1] <;> rfl
theorem ok_tick : Ok_tick Sim := by
  intro n g md p1 hn hS
  have h := hS
  obtain ⟨A, a, P, I, hSm⟩ := h
  have hst := stand hSm.1
  obtain ⟨h1, h2, h3, h4⟩ := hSm.1
  have h30 : aMade A ≤ 30 := h3.2.2.2.2.2.2.1
  rcases hst with ⟨s1, s2, s3⟩ | ⟨s1, s2, s3⟩
  · exact same hS (-1000002) (by simp only [u_X10_tick, s1, ↓reduceIte, bt_do, bd_do, jn_eq, bI_z, gd_nI, gd_0, gd_1, nI_clamp, nI_add, nI_1, pk_mul, Nat.add_zero, Nat.zero_add, ile_t, ile_f, ilt_t, ilt_f, ieq_t, ieq_f, iz_t, iz_f, ilt0, ige0, im1, Bool.false_eq_true, Bool.true_eq_false, if_true, if_false]) (by simp only [u_X11_tick, s2, ↓reduceIte, bt_do, bd_do, jn_eq, bI_z, gd_nI, gd_0, gd_1, nI_clamp, nI_add, nI_1, pk_mul, Nat.add_zero, Nat.zero_add, ile_t, ile_f, ilt_t, ilt_f, ieq_t, ieq_f, iz_t, iz_f, ilt0, ige0, im1, Bool.false_eq_true, Bool.true_eq_false, if_true, if_false])
  · rcases wi_cases p1 1 50 (by omega) (by omega) with ⟨k, k1, k2, rfl, w1, w2⟩ | ⟨w1, w2⟩
    · obtain ⟨ac, past', hk, hno, hcl⟩ := act hSm s3
      have hnow : aNow A ≤ 50 * (7 * n) := h3.2.2.2.2.2.1
      have m5 : md.1 5 = lN (aNow A) := h2.1 5 (by omega)
      obtain ⟨v', hv, hR⟩ := comeOn_c h1 h3 (by omega) k2
      have hN := h3.now k2
      have hRM := h2.num h30 5 (by omega) (by omega) (by omega) (aNow A + k)
      obtain ⟨b', hb, hM⟩ := tick_loop_m (B := setNow A (aNow A + k)) hRM hN (by omega) (md.2.1, past', nI (min (a + 1) 6), md.2.2.2.2)
      have hin := tkN_inv hN 6 (Nat.le_refl _)
      have hx : ∀ j, ¬ j = 6 → (tkN (setNow A (aNow A + k)) 6).2.1 j = (setNow A (aNow A + k)).1 j := fun j _ => by rw [hin.2.1]
      have hF : AF (setNow A (aNow A + k)) := s3
      refine ⟨nI (tkN (setNow A (aNow A + k)) 6).1, (g.1, g.2.1, ac, v', g.2.2.2.2.1, g.2.2.2.2.2), (b', md.2.1, past', nI (min (a + 1) 6), md.2.2.2.2), ?_, ?_, hcl _ _ _ _ _ _ hR hM (hin.1.mono (by omega)) (hF.num hx)⟩
      · simp (disch := omega) only [u_X10_tick, s1, ↓w1, hk, hv, ↓reduceIte, bt_do, bd_do, jn_eq, bI_z, gd_nI, gd_0, gd_1, nI_clamp, nI_add, nI_1, pk_mul, Nat.add_zero, Nat.zero_add, ile_t, ile_f, ilt_t, ilt_f, ieq_t, ieq_f, iz_t, iz_f, ilt0, ige0, im1, Bool.false_eq_true, Bool.true_eq_false, if_true, if_false]
      · refine Eq.trans ?_ hb
        simp (disch := omega) only [u_X11_tick, s2, ↓w2, hno, m5, ↓reduceIte, bt_do, bd_do, jn_eq, bI_z, gd_nI, gd_0, gd_1, nI_clamp, nI_add, nI_1, pk_mul, Nat.add_zero, Nat.zero_add, ile_t, ile_f, ilt_t, ilt_f, ieq_t, ieq_f, iz_t, iz_f, ilt0, ige0, im1, Bool.false_eq_true, Bool.true_eq_false, if_true, if_false, lc_ge_t, lc_ge_f, lc_eq_t, lc_eq_f, lc_le_t, lc_le_f, lc_gt_t, lc_gt_f, lc_lt_t, lc_lt_f, nI_l, lN_i, lN_add, lN_1]
    · exact same hS (-1000001) (by simp only [u_X10_tick, s1, ↓w1, ↓reduceIte, bt_do, bd_do, jn_eq, bI_z, gd_nI, gd_0, gd_1, nI_clamp, nI_add, nI_1, pk_mul, Nat.add_zero, Nat.zero_add, ile_t, ile_f, ilt_t, ilt_f, ieq_t, ieq_f, iz_t, iz_f, ilt0, ige0, im1, Bool.false_eq_true, Bool.true_eq_false, if_true, if_false]) (by simp only [u_X11_tick, s2, ↓w2, ↓reduceIte, bt_do, bd_do, jn_eq, bI_z, gd_nI, gd_0, gd_1, nI_clamp, nI_add, nI_1, pk_mul, Nat.add_zero, Nat.zero_add, ile_t, ile_f, ilt_t, ilt_f, ieq_t, ieq_f, iz_t, iz_f, ilt0, ige0, im1, Bool.false_eq_true, Bool.true_eq_false, if_true, if_false])
