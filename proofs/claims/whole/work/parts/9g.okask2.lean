/-! PURE 9g: more calls that ask -/
theorem told_m : ∀ x, x < 28 → f_X11_told (nI x) = cv x := by decide +kernel
theorem isOf_d : ∀ k, k < 6 → 1 ≤ k → ∀ o, o < 6 → f_X11_isOf (lN k) (nI o) = f_X6_isOne (nI k) (nI o) := by decide +kernel
theorem x6_has (p : Int32) : f_X6_has p = hasP 6 p := by
  rw [u_X6_has]
  rfl
theorem kind_cases (p : Int32) : (∃ k, 1 ≤ k ∧ k ≤ 5 ∧ p = nI k ∧ f_X10_isKindOfFiles p = true ∧ f_X11_in p.toInt64 (lN 1) (lN 5) = true) ∨ (f_X10_isKindOfFiles p = false ∧ f_X11_in p.toInt64 (lN 1) (lN 5) = false) := by
  rcases wi_cases p 1 5 (by omega) (by omega) with ⟨k, q1, q2, rfl, _, q3⟩ | ⟨q1, q2⟩
  · left
    refine ⟨k, q1, q2, rfl, ?_, q3⟩
    simp (disch := omega) only [u_X10_isKindOfFiles, x6_has, hasP_of, ↓reduceIte, bt_do, bd_do, jn_eq, bI_z, gd_nI, gd_0, gd_1, nI_clamp, nI_add, nI_1, pk_mul, Nat.add_zero, Nat.zero_add, ile_t, ile_f, ilt_t, ilt_f, ieq_t, ieq_f, iz_t, iz_f, ilt0, ige0, im1, Bool.false_eq_true, Bool.true_eq_false, if_true, if_false]
  · right
    refine ⟨?_, q2⟩
    rw [u_X10_isKindOfFiles, x6_has]
    rcases has_cases 6 (by omega) p with ⟨s, hs, rfl, hb⟩ | hb
    · by_cases e : s = 0
      · subst e
        rw [hb]
        rfl
      · rw [wi_n (by omega) (by omega) (by omega)] at q1
        cases q1
    · rw [hb]
      rfl
theorem ok_file : Ok_file Sim := by
  intro n g md p1 p2 hn hS
  have h := hS
  obtain ⟨A, a, P, I, hH, hAc, hI, hT, hL, hz⟩ := h
  have hst := stand hH
  obtain ⟨h1, h2, h3, h4⟩ := hH
  have h30 : aMade A ≤ 30 := h3.2.2.2.2.2.2.1
  have h7 : 7 * n ≤ 8000 := by omega
  suffices q : ∃ r, f_X10_file g p1 p2 = some r ∧ f_X11_file md p1 p2 = some r by
    obtain ⟨r, q1, q2⟩ := q
    exact ⟨r, q1, q2, hS.next⟩
  rcases hst with ⟨s1, s2, s3⟩ | ⟨s1, s2, s3⟩
  · exact ⟨-1000002, by simp only [u_X10_file, s1, ↓reduceIte, bt_do, bd_do, jn_eq, bI_z, gd_nI, gd_0, gd_1, nI_clamp, nI_add, nI_1, pk_mul, Nat.add_zero, Nat.zero_add, ile_t, ile_f, ilt_t, ilt_f, ieq_t, ieq_f, iz_t, iz_f, ilt0, ige0, im1, Bool.false_eq_true, Bool.true_eq_false, if_true, if_false], by simp only [u_X11_file, s2, ↓reduceIte, bt_do, bd_do, jn_eq, bI_z, gd_nI, gd_0, gd_1, nI_clamp, nI_add, nI_1, pk_mul, Nat.add_zero, Nat.zero_add, ile_t, ile_f, ilt_t, ilt_f, ieq_t, ieq_f, iz_t, iz_f, ilt0, ige0, im1, Bool.false_eq_true, Bool.true_eq_false, if_true, if_false]⟩
  · rcases file_cases p1 with ⟨f, hf, rfl⟩ | ⟨q1, q2⟩
    · have hfl := h3.2.2.2.2.2.2.2.2.2.2.1 f hf
      have c1 := h1.2.2.2.2 f hf
      have m1 := h2.2.2.1 f hf
      have hmr := many_r h2 hf
      have is0 := is_c h1 (w := 0) hf hfl.1 (by omega)
      have is2 := is_c h1 (w := 2) hf hfl.1 (by omega)
      rcases wi_cases p2 10 13 (by omega) (by omega) with ⟨k, k1, k2, rfl, w1, w2⟩ | ⟨w1, w2⟩
      · have n0 : (nI k = 0) = False := iz_f (by omega) (by omega)
        have n1 : (nI k = 1) = False := ieq_f (b := 1) (by omega) (by omega) (by omega)
        have n2 : (nI k = 2) = False := ieq_f (b := 2) (by omega) (by omega) (by omega)
        have n3 : (nI k = 3) = False := ieq_f (b := 3) (by omega) (by omega) (by omega)
        by_cases e : k - 10 < aMany A f
        · have hcc := chunkOf_c h1.2.2.2.2 h3 hf e
          have hcm := chunkOf_m h2 h3 hf e
          have hcb := hfl.2.2.2.2.2 _ e
          exact ⟨nI (aCh A f (k - 10)), by simp (disch := omega) only [u_X10_file, s1, isFile_n hf, ↓w1, pk_sub, hcc, ↓reduceIte, bt_do, bd_do, jn_eq, bI_z, gd_nI, gd_0, gd_1, nI_clamp, nI_add, nI_1, pk_mul, Nat.add_zero, Nat.zero_add, ile_t, ile_f, ilt_t, ilt_f, ieq_t, ieq_f, iz_t, iz_f, ilt0, ige0, im1, Bool.false_eq_true, Bool.true_eq_false, if_true, if_false], by simp (disch := omega) only [u_X11_file, s2, isF_m hf, ↓w2, n0, n1, n2, n3, hmr, pk_sub, hcm, ↓reduceIte, bt_do, bd_do, jn_eq, bI_z, gd_nI, gd_0, gd_1, nI_clamp, nI_add, nI_1, pk_mul, Nat.add_zero, Nat.zero_add, ile_t, ile_f, ilt_t, ilt_f, ieq_t, ieq_f, iz_t, iz_f, ilt0, ige0, im1, Bool.false_eq_true, Bool.true_eq_false, if_true, if_false, lc_ge_t, lc_ge_f, lc_eq_t, lc_eq_f, lc_le_t, lc_le_f, lc_gt_t, lc_gt_f, lc_lt_t, lc_lt_f, nI_l, lN_i, lN_add, lN_1]⟩
        · have hcc := chunkOf_none h1.2.2.2.2 hf (k := k - 10) (by omega) (by omega)
          exact ⟨-1000000, by simp (disch := omega) only [u_X10_file, s1, isFile_n hf, ↓w1, pk_sub, hcc, ↓reduceIte, bt_do, bd_do, jn_eq, bI_z, gd_nI, gd_0, gd_1, nI_clamp, nI_add, nI_1, pk_mul, Nat.add_zero, Nat.zero_add, ile_t, ile_f, ilt_t, ilt_f, ieq_t, ieq_f, iz_t, iz_f, ilt0, ige0, im1, Bool.false_eq_true, Bool.true_eq_false, if_true, if_false], by simp (disch := omega) only [u_X11_file, s2, isF_m hf, ↓w2, n0, n1, n2, n3, hmr, pk_sub, ↓reduceIte, bt_do, bd_do, jn_eq, bI_z, gd_nI, gd_0, gd_1, nI_clamp, nI_add, nI_1, pk_mul, Nat.add_zero, Nat.zero_add, ile_t, ile_f, ilt_t, ilt_f, ieq_t, ieq_f, iz_t, iz_f, ilt0, ige0, im1, Bool.false_eq_true, Bool.true_eq_false, if_true, if_false, lc_ge_t, lc_ge_f, lc_eq_t, lc_eq_f, lc_le_t, lc_le_f, lc_gt_t, lc_gt_f, lc_lt_t, lc_lt_f, nI_l, lN_i, lN_add, lN_1]⟩
      · by_cases e0 : p2 = 0
        · subst e0
          exact ⟨nI (aIs A f), by simp (disch := omega) only [u_X10_file, s1, isFile_n hf, ↓w1, c1.1, ↓reduceIte, bt_do, bd_do, jn_eq, bI_z, gd_nI, gd_0, gd_1, nI_clamp, nI_add, nI_1, pk_mul, Nat.add_zero, Nat.zero_add, ile_t, ile_f, ilt_t, ilt_f, ieq_t, ieq_f, iz_t, iz_f, ilt0, ige0, im1, Bool.false_eq_true, Bool.true_eq_false, if_true, if_false, li10, li20, li21, li30, li31, li32, li40, li41, li42, li43, li50, li51, li52, li53, li54, li60, li61, li62, li63, li64, li65], by simp (disch := omega) only [u_X11_file, s2, isF_m hf, m1.1, ↓reduceIte, bt_do, bd_do, jn_eq, bI_z, gd_nI, gd_0, gd_1, nI_clamp, nI_add, nI_1, pk_mul, Nat.add_zero, Nat.zero_add, ile_t, ile_f, ilt_t, ilt_f, ieq_t, ieq_f, iz_t, iz_f, ilt0, ige0, im1, Bool.false_eq_true, Bool.true_eq_false, if_true, if_false, li10, li20, li21, li30, li31, li32, li40, li41, li42, li43, li50, li51, li52, li53, li54, li60, li61, li62, li63, li64, li65, lc_ge_t, lc_ge_f, lc_eq_t, lc_eq_f, lc_le_t, lc_le_f, lc_gt_t, lc_gt_f, lc_lt_t, lc_lt_f, nI_l, lN_i, lN_add, lN_1]⟩
        · by_cases e1 : p2 = 1
          · subst e1
            by_cases ei : aIs A f = 0
            · rw [decide_eq_true ei] at is0
              exact ⟨-1000000, by simp (disch := omega) only [u_X10_file, s1, isFile_n hf, ↓w1, is0, ↓reduceIte, bt_do, bd_do, jn_eq, bI_z, gd_nI, gd_0, gd_1, nI_clamp, nI_add, nI_1, pk_mul, Nat.add_zero, Nat.zero_add, ile_t, ile_f, ilt_t, ilt_f, ieq_t, ieq_f, iz_t, iz_f, ilt0, ige0, im1, Bool.false_eq_true, Bool.true_eq_false, if_true, if_false, li10, li20, li21, li30, li31, li32, li40, li41, li42, li43, li50, li51, li52, li53, li54, li60, li61, li62, li63, li64, li65], by simp (disch := omega) only [u_X11_file, s2, isF_m hf, m1.1, ↓reduceIte, bt_do, bd_do, jn_eq, bI_z, gd_nI, gd_0, gd_1, nI_clamp, nI_add, nI_1, pk_mul, Nat.add_zero, Nat.zero_add, ile_t, ile_f, ilt_t, ilt_f, ieq_t, ieq_f, iz_t, iz_f, ilt0, ige0, im1, Bool.false_eq_true, Bool.true_eq_false, if_true, if_false, li10, li20, li21, li30, li31, li32, li40, li41, li42, li43, li50, li51, li52, li53, li54, li60, li61, li62, li63, li64, li65, lc_ge_t, lc_ge_f, lc_eq_t, lc_eq_f, lc_le_t, lc_le_f, lc_gt_t, lc_gt_f, lc_lt_t, lc_lt_f, nI_l, lN_i, lN_add, lN_1]⟩
            · rw [decide_eq_false ei] at is0
              have ck := c1.2.1 ei
              have mk := m1.2.1 ei
              exact ⟨nI (aKind A f), by simp (disch := omega) only [u_X10_file, s1, isFile_n hf, ↓w1, is0, ck, ↓reduceIte, bt_do, bd_do, jn_eq, bI_z, gd_nI, gd_0, gd_1, nI_clamp, nI_add, nI_1, pk_mul, Nat.add_zero, Nat.zero_add, ile_t, ile_f, ilt_t, ilt_f, ieq_t, ieq_f, iz_t, iz_f, ilt0, ige0, im1, Bool.false_eq_true, Bool.true_eq_false, if_true, if_false, li10, li20, li21, li30, li31, li32, li40, li41, li42, li43, li50, li51, li52, li53, li54, li60, li61, li62, li63, li64, li65], by simp (disch := omega) only [u_X11_file, s2, isF_m hf, m1.1, mk, ↓reduceIte, bt_do, bd_do, jn_eq, bI_z, gd_nI, gd_0, gd_1, nI_clamp, nI_add, nI_1, pk_mul, Nat.add_zero, Nat.zero_add, ile_t, ile_f, ilt_t, ilt_f, ieq_t, ieq_f, iz_t, iz_f, ilt0, ige0, im1, Bool.false_eq_true, Bool.true_eq_false, if_true, if_false, li10, li20, li21, li30, li31, li32, li40, li41, li42, li43, li50, li51, li52, li53, li54, li60, li61, li62, li63, li64, li65, lc_ge_t, lc_ge_f, lc_eq_t, lc_eq_f, lc_le_t, lc_le_f, lc_gt_t, lc_gt_f, lc_lt_t, lc_lt_f, nI_l, lN_i, lN_add, lN_1]⟩
          · by_cases e2 : p2 = 2
            · subst e2
              exact ⟨nI (aMany A f), by simp (disch := omega) only [u_X10_file, s1, isFile_n hf, ↓w1, c1.2.2.2.1, ↓reduceIte, bt_do, bd_do, jn_eq, bI_z, gd_nI, gd_0, gd_1, nI_clamp, nI_add, nI_1, pk_mul, Nat.add_zero, Nat.zero_add, ile_t, ile_f, ilt_t, ilt_f, ieq_t, ieq_f, iz_t, iz_f, ilt0, ige0, im1, Bool.false_eq_true, Bool.true_eq_false, if_true, if_false, li10, li20, li21, li30, li31, li32, li40, li41, li42, li43, li50, li51, li52, li53, li54, li60, li61, li62, li63, li64, li65], by simp (disch := omega) only [u_X11_file, s2, isF_m hf, hmr, ↓reduceIte, bt_do, bd_do, jn_eq, bI_z, gd_nI, gd_0, gd_1, nI_clamp, nI_add, nI_1, pk_mul, Nat.add_zero, Nat.zero_add, ile_t, ile_f, ilt_t, ilt_f, ieq_t, ieq_f, iz_t, iz_f, ilt0, ige0, im1, Bool.false_eq_true, Bool.true_eq_false, if_true, if_false, li10, li20, li21, li30, li31, li32, li40, li41, li42, li43, li50, li51, li52, li53, li54, li60, li61, li62, li63, li64, li65, lc_ge_t, lc_ge_f, lc_eq_t, lc_eq_f, lc_le_t, lc_le_f, lc_gt_t, lc_gt_f, lc_lt_t, lc_lt_f, nI_l, lN_i, lN_add, lN_1]⟩
            · by_cases e3 : p2 = 3
              · subst e3
                by_cases ei : aIs A f = 2
                · rw [decide_eq_true ei] at is2
                  have ck := c1.2.2.1 ei
                  have mk := m1.2.2.2.1 ei
                  exact ⟨nI (aSince A f), by simp (disch := omega) only [u_X10_file, s1, isFile_n hf, ↓w1, is2, ck, ↓reduceIte, bt_do, bd_do, jn_eq, bI_z, gd_nI, gd_0, gd_1, nI_clamp, nI_add, nI_1, pk_mul, Nat.add_zero, Nat.zero_add, ile_t, ile_f, ilt_t, ilt_f, ieq_t, ieq_f, iz_t, iz_f, ilt0, ige0, im1, Bool.false_eq_true, Bool.true_eq_false, if_true, if_false, li10, li20, li21, li30, li31, li32, li40, li41, li42, li43, li50, li51, li52, li53, li54, li60, li61, li62, li63, li64, li65], by simp (disch := omega) only [u_X11_file, s2, isF_m hf, m1.1, mk, ↓reduceIte, bt_do, bd_do, jn_eq, bI_z, gd_nI, gd_0, gd_1, nI_clamp, nI_add, nI_1, pk_mul, Nat.add_zero, Nat.zero_add, ile_t, ile_f, ilt_t, ilt_f, ieq_t, ieq_f, iz_t, iz_f, ilt0, ige0, im1, Bool.false_eq_true, Bool.true_eq_false, if_true, if_false, li10, li20, li21, li30, li31, li32, li40, li41, li42, li43, li50, li51, li52, li53, li54, li60, li61, li62, li63, li64, li65, lc_ge_t, lc_ge_f, lc_eq_t, lc_eq_f, lc_le_t, lc_le_f, lc_gt_t, lc_gt_f, lc_lt_t, lc_lt_f, nI_l, lN_i, lN_add, lN_1]⟩
                · rw [decide_eq_false ei] at is2
                  exact ⟨-1000000, by simp (disch := omega) only [u_X10_file, s1, isFile_n hf, ↓w1, is2, ↓reduceIte, bt_do, bd_do, jn_eq, bI_z, gd_nI, gd_0, gd_1, nI_clamp, nI_add, nI_1, pk_mul, Nat.add_zero, Nat.zero_add, ile_t, ile_f, ilt_t, ilt_f, ieq_t, ieq_f, iz_t, iz_f, ilt0, ige0, im1, Bool.false_eq_true, Bool.true_eq_false, if_true, if_false, li10, li20, li21, li30, li31, li32, li40, li41, li42, li43, li50, li51, li52, li53, li54, li60, li61, li62, li63, li64, li65], by simp (disch := omega) only [u_X11_file, s2, isF_m hf, m1.1, ↓reduceIte, bt_do, bd_do, jn_eq, bI_z, gd_nI, gd_0, gd_1, nI_clamp, nI_add, nI_1, pk_mul, Nat.add_zero, Nat.zero_add, ile_t, ile_f, ilt_t, ilt_f, ieq_t, ieq_f, iz_t, iz_f, ilt0, ige0, im1, Bool.false_eq_true, Bool.true_eq_false, if_true, if_false, li10, li20, li21, li30, li31, li32, li40, li41, li42, li43, li50, li51, li52, li53, li54, li60, li61, li62, li63, li64, li65, lc_ge_t, lc_ge_f, lc_eq_t, lc_eq_f, lc_le_t, lc_le_f, lc_gt_t, lc_gt_f, lc_lt_t, lc_lt_f, nI_l, lN_i, lN_add, lN_1]⟩
              · exact ⟨-1000001, by simp (disch := omega) only [u_X10_file, s1, isFile_n hf, ↓w1, e0, e1, e2, e3, ↓reduceIte, bt_do, bd_do, jn_eq, bI_z, gd_nI, gd_0, gd_1, nI_clamp, nI_add, nI_1, pk_mul, Nat.add_zero, Nat.zero_add, ile_t, ile_f, ilt_t, ilt_f, ieq_t, ieq_f, iz_t, iz_f, ilt0, ige0, im1, Bool.false_eq_true, Bool.true_eq_false, if_true, if_false], by simp (disch := omega) only [u_X11_file, s2, isF_m hf, ↓w2, e0, e1, e2, e3, ↓reduceIte, bt_do, bd_do, jn_eq, bI_z, gd_nI, gd_0, gd_1, nI_clamp, nI_add, nI_1, pk_mul, Nat.add_zero, Nat.zero_add, ile_t, ile_f, ilt_t, ilt_f, ieq_t, ieq_f, iz_t, iz_f, ilt0, ige0, im1, Bool.false_eq_true, Bool.true_eq_false, if_true, if_false, lc_ge_t, lc_ge_f, lc_eq_t, lc_eq_f, lc_le_t, lc_le_f, lc_gt_t, lc_gt_f, lc_lt_t, lc_lt_f, nI_l, lN_i, lN_add, lN_1]⟩
    · exact ⟨-1000001, by simp only [u_X10_file, s1, q1, ↓reduceIte, bt_do, bd_do, jn_eq, bI_z, gd_nI, gd_0, gd_1, nI_clamp, nI_add, nI_1, pk_mul, Nat.add_zero, Nat.zero_add, ile_t, ile_f, ilt_t, ilt_f, ieq_t, ieq_f, iz_t, iz_f, ilt0, ige0, im1, Bool.false_eq_true, Bool.true_eq_false, if_true, if_false], by simp only [u_X11_file, s2, q2, ↓reduceIte, bt_do, bd_do, jn_eq, bI_z, gd_nI, gd_0, gd_1, nI_clamp, nI_add, nI_1, pk_mul, Nat.add_zero, Nat.zero_add, ile_t, ile_f, ilt_t, ilt_f, ieq_t, ieq_f, iz_t, iz_f, ilt0, ige0, im1, Bool.false_eq_true, Bool.true_eq_false, if_true, if_false]⟩
theorem ok_part : Ok_part Sim := by
  intro n g md p1 p2 p3 hn hS
  have h := hS
  obtain ⟨A, a, P, I, ⟨h1, h2, h3, h4⟩, hAc, hI, hT, hL, hz⟩ := h
  have h5 : nS A ≤ 5 := h3.1
  have h9 : aSize A ≤ 9 := h3.2.2.1
  have h30 : aMade A ≤ 30 := h3.2.2.2.2.2.2.1
  have h7 : 7 * n ≤ 8000 := by omega
  have hsv := isServer_m h2 h3 p1
  have hck := isChunk_m h2 h3 p2
  have m2 : md.1 2 = lN (aSize A) := h2.1 2 (by omega)
  have v2 : g.2.2.2.1.2.1 = nI (aSize A) := h1.1.2.1
  suffices q : ∃ r, f_X10_part g p1 p2 p3 = some r ∧ f_X11_part md p1 p2 p3 = some r by
    obtain ⟨r, q1, q2⟩ := q
    exact ⟨r, q1, q2, hS.next⟩
  rcases has_cases (nS A) (by omega) p1 with ⟨s, hs, rfl, hb⟩ | hb
  · rw [hb] at hsv
    rcases has_cases (aMade A) (by omega) p2 with ⟨c, hc, rfl, hb2⟩ | hb2
    · rw [hb2] at hck
      have hli := lies_c h1.2.2.2.1 h3 h7 (c := c) (s := s) (by omega) (by omega)
      have hcp := copy_m h2 h30 (s := s) (c := c) (by omega) hc
      have hc0 := cp_0 h3 h7 c s
      have hver := version_c h1.2.2.2.1 (s := s) (c := c) (by omega) (by omega)
      rcases wi_cases p3 0 1 (by omega) (by omega) with ⟨k, k1, k2, rfl, w1, w2⟩ | ⟨w1, w2⟩
      · have w3 : f_X10_within (nI k) (nI 10) (nI (9 + aSize A)) = false := by
          rw [within_i, nI_toInt (by omega), nI_toInt (by omega), decide_eq_false (by omega)]
          rfl
        cases hq : aCp A c s with
        | none =>
          have hl0 : aLie A s c = false := by unfold aLie; rw [hq]; rfl
          rw [hl0] at hli hc0
          rw [hq] at hcp hc0
          have hc0 : (lg_cmp (cpM none) (lN 0) = 0) = True := by rw [hc0]; exact eq_true rfl
          exact ⟨-1000000, by simp (disch := omega) only [u_X10_part, has_sv h1.2.1, hb, has_ck h1.2.2.1, hb2, v2, nI_add, ↓w1, ↓w3, hli, ↓reduceIte, bt_do, bd_do, jn_eq, bI_z, gd_nI, gd_0, gd_1, nI_clamp, nI_add, nI_1, pk_mul, Nat.add_zero, Nat.zero_add, ile_t, ile_f, ilt_t, ilt_f, ieq_t, ieq_f, iz_t, iz_f, ilt0, ige0, im1, Bool.false_eq_true, Bool.true_eq_false, if_true, if_false], by simp (disch := omega) only [u_X11_part, hsv, hck, ↓w2, hcp, hc0, ↓reduceIte, bt_do, bd_do, jn_eq, bI_z, gd_nI, gd_0, gd_1, nI_clamp, nI_add, nI_1, pk_mul, Nat.add_zero, Nat.zero_add, ile_t, ile_f, ilt_t, ilt_f, ieq_t, ieq_f, iz_t, iz_f, ilt0, ige0, im1, Bool.false_eq_true, Bool.true_eq_false, if_true, if_false]⟩
        | some q =>
          have hl0 : aLie A s c = true := by unfold aLie; rw [hq]; rfl
          rw [hl0] at hli hc0
          rw [hq, cpM_some] at hcp
          rw [hq, cpM_some] at hc0
          have hk := cp_ok h3 h7 hq
          have hc0 : (lg_cmp (lN (pk q)) (lN 0) = 0) = False := by rw [hc0]; exact eq_false (by decide)
          have hvp := version_pk hk.1 hk.2.1 hk.2.2.1
          have hfp := filled_pk hk.1 hk.2.1 hk.2.2.1
          have his := h1.2.2.2.1.is (c := c) (s := s) (by omega) (by omega) hq
          have hfe := filled_e (x := g.2.2.2.1.2.2.2.2.2.2.2.1) (s := s) (c := c) (by omega) (by omega)
          rw [his.2.1] at hfe
          rw [hq] at hver
          have hver : f_X2_versionOf g.2.2.2.1.2.2.2.2.2.2.2.1 (nI s) (nI c) = some (nI q.1) := hver
          rcases (by omega : k = 0 ∨ k = 1) with e | e
          · subst e
            exact ⟨nI q.1, by simp (disch := omega) only [u_X10_part, has_sv h1.2.1, hb, has_ck h1.2.2.1, hb2, v2, nI_add, ↓w1, ↓w3, hli, hver, ↓reduceIte, bt_do, bd_do, jn_eq, bI_z, gd_nI, gd_0, gd_1, nI_clamp, nI_add, nI_1, pk_mul, Nat.add_zero, Nat.zero_add, ile_t, ile_f, ilt_t, ilt_f, ieq_t, ieq_f, iz_t, iz_f, ilt0, ige0, im1, Bool.false_eq_true, Bool.true_eq_false, if_true, if_false], by simp (disch := omega) only [u_X11_part, hsv, hck, ↓w2, hcp, hc0, hvp, ↓reduceIte, bt_do, bd_do, jn_eq, bI_z, gd_nI, gd_0, gd_1, nI_clamp, nI_add, nI_1, pk_mul, Nat.add_zero, Nat.zero_add, ile_t, ile_f, ilt_t, ilt_f, ieq_t, ieq_f, iz_t, iz_f, ilt0, ige0, im1, Bool.false_eq_true, Bool.true_eq_false, if_true, if_false]⟩
          · subst e
            exact ⟨nI q.2.1, by simp (disch := omega) only [u_X10_part, has_sv h1.2.1, hb, has_ck h1.2.2.1, hb2, v2, nI_add, ↓w1, ↓w3, hli, hfe, ↓reduceIte, bt_do, bd_do, jn_eq, bI_z, gd_nI, gd_0, gd_1, nI_clamp, nI_add, nI_1, pk_mul, Nat.add_zero, Nat.zero_add, ile_t, ile_f, ilt_t, ilt_f, ieq_t, ieq_f, iz_t, iz_f, ilt0, ige0, im1, Bool.false_eq_true, Bool.true_eq_false, if_true, if_false], by simp (disch := omega) only [u_X11_part, hsv, hck, ↓w2, hcp, hc0, hfp, ↓reduceIte, bt_do, bd_do, jn_eq, bI_z, gd_nI, gd_0, gd_1, nI_clamp, nI_add, nI_1, pk_mul, Nat.add_zero, Nat.zero_add, ile_t, ile_f, ilt_t, ilt_f, ieq_t, ieq_f, iz_t, iz_f, ilt0, ige0, im1, Bool.false_eq_true, Bool.true_eq_false, if_true, if_false]⟩
      · rcases wi_cases p3 10 (9 + aSize A) (by omega) (by omega) with ⟨k, k1, k2, rfl, w3, w4⟩ | ⟨w3, w4⟩
        · cases hq : aCp A c s with
          | none =>
            have hl0 : aLie A s c = false := by unfold aLie; rw [hq]; rfl
            rw [hl0] at hli hc0
            rw [hq] at hcp hc0
            have hc0 : (lg_cmp (cpM none) (lN 0) = 0) = True := by rw [hc0]; exact eq_true rfl
            exact ⟨-1000000, by simp (disch := omega) only [u_X10_part, has_sv h1.2.1, hb, has_ck h1.2.2.1, hb2, v2, nI_add, ↓w3, hli, ↓reduceIte, bt_do, bd_do, jn_eq, bI_z, gd_nI, gd_0, gd_1, nI_clamp, nI_add, nI_1, pk_mul, Nat.add_zero, Nat.zero_add, ile_t, ile_f, ilt_t, ilt_f, ieq_t, ieq_f, iz_t, iz_f, ilt0, ige0, im1, Bool.false_eq_true, Bool.true_eq_false, if_true, if_false], by simp (disch := omega) only [u_X11_part, hsv, hck, ↓w2, m2, lN_add, ↓w4, hcp, hc0, ↓reduceIte, bt_do, bd_do, jn_eq, bI_z, gd_nI, gd_0, gd_1, nI_clamp, nI_add, nI_1, pk_mul, Nat.add_zero, Nat.zero_add, ile_t, ile_f, ilt_t, ilt_f, ieq_t, ieq_f, iz_t, iz_f, ilt0, ige0, im1, Bool.false_eq_true, Bool.true_eq_false, if_true, if_false]⟩
          | some q =>
            have hl0 : aLie A s c = true := by unfold aLie; rw [hq]; rfl
            rw [hl0] at hli hc0
            rw [hq, cpM_some] at hcp
            rw [hq, cpM_some] at hc0
            have hk := cp_ok h3 h7 hq
            have hc0 : (lg_cmp (lN (pk q)) (lN 0) = 0) = False := by rw [hc0]; exact eq_false (by decide)
            have h27 := (h3.2.2.2.2.2.2.2.2.2.2.2.2.2 c s q hq).2.2.2.2.1 (k - 10)
            have hce := cell_pk hk.1 hk.2.1 hk.2.2.1 (i := k - 10) (by omega)
            have hto := told_m (q.2.2 (k - 10)) (by omega)
            have his := h1.2.2.2.1.is (c := c) (s := s) (by omega) (by omega) hq
            have hcc := cell_e (x := g.2.2.2.1.2.2.2.2.2.2.2.1) (s := s) (c := c) (i := k - 10) (by omega) (by omega) (by omega)
            rw [his.2.2 (k - 10) (by omega)] at hcc
            exact ⟨cv (q.2.2 (k - 10)), by simp (disch := omega) only [u_X10_part, has_sv h1.2.1, hb, has_ck h1.2.2.1, hb2, v2, nI_add, ↓w3, hli, pk_sub, hcc, ↓reduceIte, bt_do, bd_do, jn_eq, bI_z, gd_nI, gd_0, gd_1, nI_clamp, nI_add, nI_1, pk_mul, Nat.add_zero, Nat.zero_add, ile_t, ile_f, ilt_t, ilt_f, ieq_t, ieq_f, iz_t, iz_f, ilt0, ige0, im1, Bool.false_eq_true, Bool.true_eq_false, if_true, if_false], by simp (disch := omega) only [u_X11_part, hsv, hck, ↓w2, m2, lN_add, ↓w4, hcp, hc0, pk_sub, hce, hto, ↓reduceIte, bt_do, bd_do, jn_eq, bI_z, gd_nI, gd_0, gd_1, nI_clamp, nI_add, nI_1, pk_mul, Nat.add_zero, Nat.zero_add, ile_t, ile_f, ilt_t, ilt_f, ieq_t, ieq_f, iz_t, iz_f, ilt0, ige0, im1, Bool.false_eq_true, Bool.true_eq_false, if_true, if_false]⟩
        · exact ⟨-1000001, by simp (disch := omega) only [u_X10_part, has_sv h1.2.1, hb, has_ck h1.2.2.1, hb2, v2, nI_add, ↓w1, ↓w3, ↓reduceIte, bt_do, bd_do, jn_eq, bI_z, gd_nI, gd_0, gd_1, nI_clamp, nI_add, nI_1, pk_mul, Nat.add_zero, Nat.zero_add, ile_t, ile_f, ilt_t, ilt_f, ieq_t, ieq_f, iz_t, iz_f, ilt0, ige0, im1, Bool.false_eq_true, Bool.true_eq_false, if_true, if_false], by simp (disch := omega) only [u_X11_part, hsv, hck, ↓w2, m2, lN_add, ↓w4, ↓reduceIte, bt_do, bd_do, jn_eq, bI_z, gd_nI, gd_0, gd_1, nI_clamp, nI_add, nI_1, pk_mul, Nat.add_zero, Nat.zero_add, ile_t, ile_f, ilt_t, ilt_f, ieq_t, ieq_f, iz_t, iz_f, ilt0, ige0, im1, Bool.false_eq_true, Bool.true_eq_false, if_true, if_false]⟩
    · rw [hb2] at hck
      exact ⟨-1000001, by simp only [u_X10_part, has_sv h1.2.1, hb, has_ck h1.2.2.1, hb2, ↓reduceIte, bt_do, bd_do, jn_eq, bI_z, gd_nI, gd_0, gd_1, nI_clamp, nI_add, nI_1, pk_mul, Nat.add_zero, Nat.zero_add, ile_t, ile_f, ilt_t, ilt_f, ieq_t, ieq_f, iz_t, iz_f, ilt0, ige0, im1, Bool.false_eq_true, Bool.true_eq_false, if_true, if_false], by simp only [u_X11_part, hsv, hck, ↓reduceIte, bt_do, bd_do, jn_eq, bI_z, gd_nI, gd_0, gd_1, nI_clamp, nI_add, nI_1, pk_mul, Nat.add_zero, Nat.zero_add, ile_t, ile_f, ilt_t, ilt_f, ieq_t, ieq_f, iz_t, iz_f, ilt0, ige0, im1, Bool.false_eq_true, Bool.true_eq_false, if_true, if_false]⟩
  · rw [hb] at hsv
    exact ⟨-1000001, by simp only [u_X10_part, has_sv h1.2.1, hb, ↓reduceIte, bt_do, bd_do, jn_eq, bI_z, gd_nI, gd_0, gd_1, nI_clamp, nI_add, nI_1, pk_mul, Nat.add_zero, Nat.zero_add, ile_t, ile_f, ilt_t, ilt_f, ieq_t, ieq_f, iz_t, iz_f, ilt0, ige0, im1, Bool.false_eq_true, Bool.true_eq_false, if_true, if_false], by simp only [u_X11_part, hsv, ↓reduceIte, bt_do, bd_do, jn_eq, bI_z, gd_nI, gd_0, gd_1, nI_clamp, nI_add, nI_1, pk_mul, Nat.add_zero, Nat.zero_add, ile_t, ile_f, ilt_t, ilt_f, ieq_t, ieq_f, iz_t, iz_f, ilt0, ige0, im1, Bool.false_eq_true, Bool.true_eq_false, if_true, if_false]⟩
theorem ok_read : Ok_read Sim := by
  intro n g md p1 p2 p3 hn hS
  have h := hS
  obtain ⟨A, a, P, I, hH, hAc, hI, hT, hL, hz⟩ := h
  have hst := stand hH
  obtain ⟨h1, h2, h3, h4⟩ := hH
  have h5 : nS A ≤ 5 := h3.1
  have h9 : aSize A ≤ 9 := h3.2.2.1
  have h30 : aMade A ≤ 30 := h3.2.2.2.2.2.2.1
  have h7 : 7 * n ≤ 8000 := by omega
  have hsv := isServer_m h2 h3 p3
  suffices q : ∃ r, f_X10_read g p1 p2 p3 = some r ∧ f_X11_read md p1 p2 p3 = some r by
    obtain ⟨r, q1, q2⟩ := q
    exact ⟨r, q1, q2, hS.next⟩
  rcases hst with ⟨s1, s2, s3⟩ | ⟨s1, s2, s3⟩
  · exact ⟨-1000002, by simp only [u_X10_read, s1, ↓reduceIte, bt_do, bd_do, jn_eq, bI_z, gd_nI, gd_0, gd_1, nI_clamp, nI_add, nI_1, pk_mul, Nat.add_zero, Nat.zero_add, ile_t, ile_f, ilt_t, ilt_f, ieq_t, ieq_f, iz_t, iz_f, ilt0, ige0, im1, Bool.false_eq_true, Bool.true_eq_false, if_true, if_false], by simp only [u_X11_read, s2, ↓reduceIte, bt_do, bd_do, jn_eq, bI_z, gd_nI, gd_0, gd_1, nI_clamp, nI_add, nI_1, pk_mul, Nat.add_zero, Nat.zero_add, ile_t, ile_f, ilt_t, ilt_f, ieq_t, ieq_f, iz_t, iz_f, ilt0, ige0, im1, Bool.false_eq_true, Bool.true_eq_false, if_true, if_false]⟩
  · rcases file_cases p1 with ⟨f, hf, rfl⟩ | ⟨q1, q2⟩
    · rcases has_cases (nS A) (by omega) p3 with ⟨s, hs, rfl, hb⟩ | hb
      · rw [hb] at hsv
        have hfl := h3.2.2.2.2.2.2.2.2.2.2.1 f hf
        have his := is_c h1 (w := 1) hf hfl.1 (by omega)
        have hit := isThere_m h2 h3 hf
        by_cases ei : aIs A f = 1
        · rw [decide_eq_true ei] at his hit
          rcases cell_cases h1 h2 h3 hf p2 s3.2.2.1 with ⟨j, j1, j2, rfl, c1, c2⟩ | ⟨c1, c2⟩
          · have hup := hasUp_c h1.2.1 h3 hs
            have hub := (h3.2.2.2.2.2.2.2.1 s (by omega)).1
            have hum := isUp_m h2 (s := s) (by omega) hub
            have m2 : md.1 2 = lN (aSize A) := h2.1 2 (by omega)
            have v2 : g.2.2.2.1.2.1 = nI (aSize A) := h1.1.2.1
            have hs4 : 4 ≤ aSize A := s3.2.2.1
            have hdiv := pk_div (a := j) (d := aSize A) (by omega) (by omega) (by omega)
            have hrem := pk_rem (a := j) (d := aSize A) (by omega) (by omega) (by omega)
            have hrow : f_X5_rowOf g.2.2.2.1 (nI j) = some (nI (j / aSize A)) := by
              rw [u_X5_rowOf, v2, hdiv, if_pos (nI_le (by omega) (by omega)), gdZ_nI (by omega) (by omega)]
            have hcel : f_X5_cellOf g.2.2.2.1 (nI j) = some (nI (j % aSize A)) := by
              rw [u_X5_cellOf, v2, hrem, if_pos (nI_le (by omega) (by omega)), gdZ_nI (by omega) (by omega)]
            have hcc := chunkOf_c h1.2.2.2.2 h3 hf j2
            have hcm := chunkOf_m h2 h3 hf j2
            have hcb := hfl.2.2.2.2.2 _ j2
            have hli := lies_c h1.2.2.2.1 h3 h7 (c := aCh A f (j / aSize A)) (s := s) (by omega) (by omega)
            have hcp := copy_m h2 h30 (s := s) (c := aCh A f (j / aSize A)) (by omega) hcb
            have hc0 := cp_0 h3 h7 (aCh A f (j / aSize A)) s
            have hgc := isGood_c h1 h3 h7 hcb (s := s) (by omega)
            have hgm := isGood_m h2 h3 h7 hcb (s := s) (by omega)
            have hm9 : j % aSize A < aSize A := Nat.mod_lt _ (by omega)
            have hmd : f_X11_read md (nI f) (nI j) (nI s) = (bd (f_X11_isUp md.1 (nI s)) (fun r13 => if r13 = false then (some ((-1000007) : Int32)) else (bd (f_X11_copy md.1 (nI (aCh A f (j / aSize A))) (nI s)) (fun r15 => if (lg_cmp r15 (lN 0)) = 0 then (some ((-1000000) : Int32)) else (bd (f_X11_isGood md.1 (nI (aCh A f (j / aSize A))) (nI s)) (fun r17 => if r17 = false then (some ((-1000006) : Int32)) else (some (f_X11_told (f_X11_cell r15 (nI (j % aSize A))))))))))) := by
              simp (disch := omega) only [u_X11_read, s2, isF_m hf, hsv, hit, c2, m2, lN_i, hrem, gdZ_nI, ↓reduceIte, bt_do, bd_do, jn_eq, bI_z, gd_nI, gd_0, gd_1, nI_clamp, nI_add, nI_1, pk_mul, Nat.add_zero, Nat.zero_add, ile_t, ile_f, ilt_t, ilt_f, ieq_t, ieq_f, iz_t, iz_f, ilt0, ige0, im1, Bool.false_eq_true, Bool.true_eq_false, if_true, if_false]
              simp (disch := omega) only [hdiv, hcm, ↓reduceIte, bt_do, bd_do, jn_eq, bI_z, gd_nI, gd_0, gd_1, nI_clamp, nI_add, nI_1, pk_mul, Nat.add_zero, Nat.zero_add, ile_t, ile_f, ilt_t, ilt_f, ieq_t, ieq_f, iz_t, iz_f, ilt0, ige0, im1, Bool.false_eq_true, Bool.true_eq_false, if_true, if_false]
            rw [hmd]
            by_cases eu : aUp A s = 1
            · have eb : (aUp A s == 1) = true := by rw [eu]; rfl
              rw [eb] at hum
              cases hq : aCp A (aCh A f (j / aSize A)) s with
              | none =>
                have hl0 : aLie A s (aCh A f (j / aSize A)) = false := by unfold aLie; rw [hq]; rfl
                rw [hl0] at hli hc0
                rw [hq] at hcp hc0
                have hc0 : (lg_cmp (cpM none) (lN 0) = 0) = True := by rw [hc0]; exact eq_true rfl
                exact ⟨-1000000, by simp (disch := omega) only [u_X10_read, s1, isFile_n hf, has_sv h1.2.1, hb, his, c1, u_X5_readCell, hup, aUpB_1 eu, hrow, hcc, hli, ↓reduceIte, bt_do, bd_do, jn_eq, bI_z, gd_nI, gd_0, gd_1, nI_clamp, nI_add, nI_1, pk_mul, Nat.add_zero, Nat.zero_add, ile_t, ile_f, ilt_t, ilt_f, ieq_t, ieq_f, iz_t, iz_f, ilt0, ige0, im1, Bool.false_eq_true, Bool.true_eq_false, if_true, if_false], by simp (disch := omega) only [hum, hcp, hc0, ↓reduceIte, bt_do, bd_do, jn_eq, bI_z, gd_nI, gd_0, gd_1, nI_clamp, nI_add, nI_1, pk_mul, Nat.add_zero, Nat.zero_add, ile_t, ile_f, ilt_t, ilt_f, ieq_t, ieq_f, iz_t, iz_f, ilt0, ige0, im1, Bool.false_eq_true, Bool.true_eq_false, if_true, if_false]⟩
              | some q =>
                have hl0 : aLie A s (aCh A f (j / aSize A)) = true := by unfold aLie; rw [hq]; rfl
                rw [hl0] at hli hc0
                rw [hq, cpM_some] at hcp
                rw [hq, cpM_some] at hc0
                have hk := cp_ok h3 h7 hq
                have hc0 : (lg_cmp (lN (pk q)) (lN 0) = 0) = False := by rw [hc0]; exact eq_false (by decide)
                cases eg : aGood A (aCh A f (j / aSize A)) s
                · rw [eg] at hgc hgm
                  exact ⟨-1000006, by simp (disch := omega) only [u_X10_read, s1, isFile_n hf, has_sv h1.2.1, hb, his, c1, u_X5_readCell, hup, aUpB_1 eu, hrow, hcc, hli, hgc, ↓reduceIte, bt_do, bd_do, jn_eq, bI_z, gd_nI, gd_0, gd_1, nI_clamp, nI_add, nI_1, pk_mul, Nat.add_zero, Nat.zero_add, ile_t, ile_f, ilt_t, ilt_f, ieq_t, ieq_f, iz_t, iz_f, ilt0, ige0, im1, Bool.false_eq_true, Bool.true_eq_false, if_true, if_false], by simp (disch := omega) only [hum, hcp, hc0, hgm, ↓reduceIte, bt_do, bd_do, jn_eq, bI_z, gd_nI, gd_0, gd_1, nI_clamp, nI_add, nI_1, pk_mul, Nat.add_zero, Nat.zero_add, ile_t, ile_f, ilt_t, ilt_f, ieq_t, ieq_f, iz_t, iz_f, ilt0, ige0, im1, Bool.false_eq_true, Bool.true_eq_false, if_true, if_false]⟩
                · rw [eg] at hgc hgm
                  have h27 := (h3.2.2.2.2.2.2.2.2.2.2.2.2.2 _ s q hq).2.2.2.2.1 (j % aSize A)
                  have hce := cell_pk hk.1 hk.2.1 hk.2.2.1 (i := j % aSize A) (by omega)
                  have hto := told_m (q.2.2 (j % aSize A)) (by omega)
                  have hisv := h1.2.2.2.1.is (c := aCh A f (j / aSize A)) (s := s) (by omega) (by omega) hq
                  have hcv := cell_e (x := g.2.2.2.1.2.2.2.2.2.2.2.1) (s := s) (c := aCh A f (j / aSize A)) (i := j % aSize A) (by omega) (by omega) (by omega)
                  rw [hisv.2.2 (j % aSize A) (by omega)] at hcv
                  exact ⟨cv (q.2.2 (j % aSize A)), by simp (disch := omega) only [u_X10_read, s1, isFile_n hf, has_sv h1.2.1, hb, his, c1, u_X5_readCell, hup, aUpB_1 eu, hrow, hcc, hli, hgc, hcel, hcv, ↓reduceIte, bt_do, bd_do, jn_eq, bI_z, gd_nI, gd_0, gd_1, nI_clamp, nI_add, nI_1, pk_mul, Nat.add_zero, Nat.zero_add, ile_t, ile_f, ilt_t, ilt_f, ieq_t, ieq_f, iz_t, iz_f, ilt0, ige0, im1, Bool.false_eq_true, Bool.true_eq_false, if_true, if_false], by simp (disch := omega) only [hum, hcp, hc0, hgm, hce, hto, ↓reduceIte, bt_do, bd_do, jn_eq, bI_z, gd_nI, gd_0, gd_1, nI_clamp, nI_add, nI_1, pk_mul, Nat.add_zero, Nat.zero_add, ile_t, ile_f, ilt_t, ilt_f, ieq_t, ieq_f, iz_t, iz_f, ilt0, ige0, im1, Bool.false_eq_true, Bool.true_eq_false, if_true, if_false]⟩
            · have eb : (aUp A s == 1) = false := by
                have : aUp A s = 0 := by omega
                rw [this]; rfl
              rw [eb] at hum
              exact ⟨-1000007, by simp (disch := omega) only [u_X10_read, s1, isFile_n hf, has_sv h1.2.1, hb, his, c1, u_X5_readCell, hup, aUpB_0 (show aUp A s = 0 by omega), ↓reduceIte, bt_do, bd_do, jn_eq, bI_z, gd_nI, gd_0, gd_1, nI_clamp, nI_add, nI_1, pk_mul, Nat.add_zero, Nat.zero_add, ile_t, ile_f, ilt_t, ilt_f, ieq_t, ieq_f, iz_t, iz_f, ilt0, ige0, im1, Bool.false_eq_true, Bool.true_eq_false, if_true, if_false], by simp (disch := omega) only [hum, ↓reduceIte, bt_do, bd_do, jn_eq, bI_z, gd_nI, gd_0, gd_1, nI_clamp, nI_add, nI_1, pk_mul, Nat.add_zero, Nat.zero_add, ile_t, ile_f, ilt_t, ilt_f, ieq_t, ieq_f, iz_t, iz_f, ilt0, ige0, im1, Bool.false_eq_true, Bool.true_eq_false, if_true, if_false]⟩
          · exact ⟨-1000001, by simp (disch := omega) only [u_X10_read, s1, isFile_n hf, has_sv h1.2.1, hb, his, c1, ↓reduceIte, bt_do, bd_do, jn_eq, bI_z, gd_nI, gd_0, gd_1, nI_clamp, nI_add, nI_1, pk_mul, Nat.add_zero, Nat.zero_add, ile_t, ile_f, ilt_t, ilt_f, ieq_t, ieq_f, iz_t, iz_f, ilt0, ige0, im1, Bool.false_eq_true, Bool.true_eq_false, if_true, if_false], by simp (disch := omega) only [u_X11_read, s2, isF_m hf, hsv, hit, c2, ↓reduceIte, bt_do, bd_do, jn_eq, bI_z, gd_nI, gd_0, gd_1, nI_clamp, nI_add, nI_1, pk_mul, Nat.add_zero, Nat.zero_add, ile_t, ile_f, ilt_t, ilt_f, ieq_t, ieq_f, iz_t, iz_f, ilt0, ige0, im1, Bool.false_eq_true, Bool.true_eq_false, if_true, if_false]⟩
        · rw [decide_eq_false ei] at his hit
          exact ⟨-1000002, by simp (disch := omega) only [u_X10_read, s1, isFile_n hf, has_sv h1.2.1, hb, his, ↓reduceIte, bt_do, bd_do, jn_eq, bI_z, gd_nI, gd_0, gd_1, nI_clamp, nI_add, nI_1, pk_mul, Nat.add_zero, Nat.zero_add, ile_t, ile_f, ilt_t, ilt_f, ieq_t, ieq_f, iz_t, iz_f, ilt0, ige0, im1, Bool.false_eq_true, Bool.true_eq_false, if_true, if_false], by simp (disch := omega) only [u_X11_read, s2, isF_m hf, hsv, hit, ↓reduceIte, bt_do, bd_do, jn_eq, bI_z, gd_nI, gd_0, gd_1, nI_clamp, nI_add, nI_1, pk_mul, Nat.add_zero, Nat.zero_add, ile_t, ile_f, ilt_t, ilt_f, ieq_t, ieq_f, iz_t, iz_f, ilt0, ige0, im1, Bool.false_eq_true, Bool.true_eq_false, if_true, if_false]⟩
      · rw [hb] at hsv
        exact ⟨-1000001, by simp (disch := omega) only [u_X10_read, s1, isFile_n hf, has_sv h1.2.1, hb, ↓reduceIte, bt_do, bd_do, jn_eq, bI_z, gd_nI, gd_0, gd_1, nI_clamp, nI_add, nI_1, pk_mul, Nat.add_zero, Nat.zero_add, ile_t, ile_f, ilt_t, ilt_f, ieq_t, ieq_f, iz_t, iz_f, ilt0, ige0, im1, Bool.false_eq_true, Bool.true_eq_false, if_true, if_false], by simp (disch := omega) only [u_X11_read, s2, isF_m hf, hsv, ↓reduceIte, bt_do, bd_do, jn_eq, bI_z, gd_nI, gd_0, gd_1, nI_clamp, nI_add, nI_1, pk_mul, Nat.add_zero, Nat.zero_add, ile_t, ile_f, ilt_t, ilt_f, ieq_t, ieq_f, iz_t, iz_f, ilt0, ige0, im1, Bool.false_eq_true, Bool.true_eq_false, if_true, if_false]⟩
    · exact ⟨-1000001, by simp only [u_X10_read, s1, q1, ↓reduceIte, bt_do, bd_do, jn_eq, bI_z, gd_nI, gd_0, gd_1, nI_clamp, nI_add, nI_1, pk_mul, Nat.add_zero, Nat.zero_add, ile_t, ile_f, ilt_t, ilt_f, ieq_t, ieq_f, iz_t, iz_f, ilt0, ige0, im1, Bool.false_eq_true, Bool.true_eq_false, if_true, if_false], by simp only [u_X11_read, s2, q2, ↓reduceIte, bt_do, bd_do, jn_eq, bI_z, gd_nI, gd_0, gd_1, nI_clamp, nI_add, nI_1, pk_mul, Nat.add_zero, Nat.zero_add, ile_t, ile_f, ilt_t, ilt_f, ieq_t, ieq_f, iz_t, iz_f, ilt0, ige0, im1, Bool.false_eq_true, Bool.true_eq_false, if_true, if_false]⟩
theorem ok_as : Ok_as Sim := by
  intro n g md p1 p2 hn hS
  have h := hS
  obtain ⟨A, a, P, I, hH, hAc, hI, hT, hL, hz⟩ := h
  have hst := stand hH
  obtain ⟨h1, h2, h3, h4⟩ := hH
  suffices q : ∃ r, f_X10_as g p1 p2 = some r ∧ f_X11_as md p1 p2 = some r by
    obtain ⟨r, q1, q2⟩ := q
    exact ⟨r, q1, q2, hS.next⟩
  rcases hst with ⟨s1, s2, s3⟩ | ⟨s1, s2, s3⟩
  · exact ⟨-1000002, by simp only [u_X10_as, s1, ↓reduceIte, bt_do, bd_do, jn_eq, bI_z, gd_nI, gd_0, gd_1, nI_clamp, nI_add, nI_1, pk_mul, Nat.add_zero, Nat.zero_add, ile_t, ile_f, ilt_t, ilt_f, ieq_t, ieq_f, iz_t, iz_f, ilt0, ige0, im1, Bool.false_eq_true, Bool.true_eq_false, if_true, if_false], by simp only [u_X11_as, s2, ↓reduceIte, bt_do, bd_do, jn_eq, bI_z, gd_nI, gd_0, gd_1, nI_clamp, nI_add, nI_1, pk_mul, Nat.add_zero, Nat.zero_add, ile_t, ile_f, ilt_t, ilt_f, ieq_t, ieq_f, iz_t, iz_f, ilt0, ige0, im1, Bool.false_eq_true, Bool.true_eq_false, if_true, if_false]⟩
  · rcases file_cases p1 with ⟨f, hf, rfl⟩ | ⟨q1, q2⟩
    · have hfl := h3.2.2.2.2.2.2.2.2.2.2.1 f hf
      have c1 := h1.2.2.2.2 f hf
      have m1 := h2.2.2.1 f hf
      have is0 := is_c h1 (w := 0) hf hfl.1 (by omega)
      have hin : f_X11_in p2.toInt64 (lN 0) (lN 5) = hasP 6 p2 := in_has p2 (n := 6) (by omega)
      rcases has_cases 6 (by omega) p2 with ⟨o, ho, rfl, hb⟩ | hb
      · rw [hb] at hin
        by_cases ei : aIs A f = 0
        · rw [decide_eq_true ei] at is0
          exact ⟨-1000002, by simp (disch := omega) only [u_X10_as, s1, isFile_n hf, x6_has, hb, is0, ↓reduceIte, bt_do, bd_do, jn_eq, bI_z, gd_nI, gd_0, gd_1, nI_clamp, nI_add, nI_1, pk_mul, Nat.add_zero, Nat.zero_add, ile_t, ile_f, ilt_t, ilt_f, ieq_t, ieq_f, iz_t, iz_f, ilt0, ige0, im1, Bool.false_eq_true, Bool.true_eq_false, if_true, if_false], by simp (disch := omega) only [u_X11_as, s2, isF_m hf, ↓hin, m1.1, ↓reduceIte, bt_do, bd_do, jn_eq, bI_z, gd_nI, gd_0, gd_1, nI_clamp, nI_add, nI_1, pk_mul, Nat.add_zero, Nat.zero_add, ile_t, ile_f, ilt_t, ilt_f, ieq_t, ieq_f, iz_t, iz_f, ilt0, ige0, im1, Bool.false_eq_true, Bool.true_eq_false, if_true, if_false, lc_ge_t, lc_ge_f, lc_eq_t, lc_eq_f, lc_le_t, lc_le_f, lc_gt_t, lc_gt_f, lc_lt_t, lc_lt_f, nI_l, lN_i, lN_add, lN_1]⟩
        · rw [decide_eq_false ei] at is0
          have ck := c1.2.1 ei
          have mk := m1.2.1 ei
          have kb := hfl.2.2.2.1 ei
          have hof := isOf_d (aKind A f) (by omega) (by omega) o ho
          have hio := isOne_d (aKind A f) (by omega) o ho
          rw [hio] at hof
          generalize (o == 0 || aKind A f == o || (o == 1 && (aKind A f == 1 || aKind A f == 2 || aKind A f == 3)) || (o == 4 && aKind A f == 5)) = bb at hof hio
          cases bb
          · exact ⟨-1000000, by simp (disch := omega) only [u_X10_as, s1, isFile_n hf, x6_has, hb, is0, ck, hio, ↓reduceIte, bt_do, bd_do, jn_eq, bI_z, gd_nI, gd_0, gd_1, nI_clamp, nI_add, nI_1, pk_mul, Nat.add_zero, Nat.zero_add, ile_t, ile_f, ilt_t, ilt_f, ieq_t, ieq_f, iz_t, iz_f, ilt0, ige0, im1, Bool.false_eq_true, Bool.true_eq_false, if_true, if_false], by simp (disch := omega) only [u_X11_as, s2, isF_m hf, ↓hin, m1.1, mk, hof, ↓reduceIte, bt_do, bd_do, jn_eq, bI_z, gd_nI, gd_0, gd_1, nI_clamp, nI_add, nI_1, pk_mul, Nat.add_zero, Nat.zero_add, ile_t, ile_f, ilt_t, ilt_f, ieq_t, ieq_f, iz_t, iz_f, ilt0, ige0, im1, Bool.false_eq_true, Bool.true_eq_false, if_true, if_false, lc_ge_t, lc_ge_f, lc_eq_t, lc_eq_f, lc_le_t, lc_le_f, lc_gt_t, lc_gt_f, lc_lt_t, lc_lt_f, nI_l, lN_i, lN_add, lN_1]⟩
          · exact ⟨nI f, by simp (disch := omega) only [u_X10_as, s1, isFile_n hf, x6_has, hb, is0, ck, hio, ↓reduceIte, bt_do, bd_do, jn_eq, bI_z, gd_nI, gd_0, gd_1, nI_clamp, nI_add, nI_1, pk_mul, Nat.add_zero, Nat.zero_add, ile_t, ile_f, ilt_t, ilt_f, ieq_t, ieq_f, iz_t, iz_f, ilt0, ige0, im1, Bool.false_eq_true, Bool.true_eq_false, if_true, if_false], by simp (disch := omega) only [u_X11_as, s2, isF_m hf, ↓hin, m1.1, mk, hof, ↓reduceIte, bt_do, bd_do, jn_eq, bI_z, gd_nI, gd_0, gd_1, nI_clamp, nI_add, nI_1, pk_mul, Nat.add_zero, Nat.zero_add, ile_t, ile_f, ilt_t, ilt_f, ieq_t, ieq_f, iz_t, iz_f, ilt0, ige0, im1, Bool.false_eq_true, Bool.true_eq_false, if_true, if_false, lc_ge_t, lc_ge_f, lc_eq_t, lc_eq_f, lc_le_t, lc_le_f, lc_gt_t, lc_gt_f, lc_lt_t, lc_lt_f, nI_l, lN_i, lN_add, lN_1]⟩
      · rw [hb] at hin
        exact ⟨-1000001, by simp (disch := omega) only [u_X10_as, s1, isFile_n hf, x6_has, hb, ↓reduceIte, bt_do, bd_do, jn_eq, bI_z, gd_nI, gd_0, gd_1, nI_clamp, nI_add, nI_1, pk_mul, Nat.add_zero, Nat.zero_add, ile_t, ile_f, ilt_t, ilt_f, ieq_t, ieq_f, iz_t, iz_f, ilt0, ige0, im1, Bool.false_eq_true, Bool.true_eq_false, if_true, if_false], by simp (disch := omega) only [u_X11_as, s2, isF_m hf, ↓hin, ↓reduceIte, bt_do, bd_do, jn_eq, bI_z, gd_nI, gd_0, gd_1, nI_clamp, nI_add, nI_1, pk_mul, Nat.add_zero, Nat.zero_add, ile_t, ile_f, ilt_t, ilt_f, ieq_t, ieq_f, iz_t, iz_f, ilt0, ige0, im1, Bool.false_eq_true, Bool.true_eq_false, if_true, if_false]⟩
    · exact ⟨-1000001, by simp only [u_X10_as, s1, q1, ↓reduceIte, bt_do, bd_do, jn_eq, bI_z, gd_nI, gd_0, gd_1, nI_clamp, nI_add, nI_1, pk_mul, Nat.add_zero, Nat.zero_add, ile_t, ile_f, ilt_t, ilt_f, ieq_t, ieq_f, iz_t, iz_f, ilt0, ige0, im1, Bool.false_eq_true, Bool.true_eq_false, if_true, if_false], by simp only [u_X11_as, s2, q2, ↓reduceIte, bt_do, bd_do, jn_eq, bI_z, gd_nI, gd_0, gd_1, nI_clamp, nI_add, nI_1, pk_mul, Nat.add_zero, Nat.zero_add, ile_t, ile_f, ilt_t, ilt_f, ieq_t, ieq_f, iz_t, iz_f, ilt0, ige0, im1, Bool.false_eq_true, Bool.true_eq_false, if_true, if_false]⟩
theorem ok_target : Ok_target Sim := by
  intro n g md p1 hn hS
  have h := hS
  obtain ⟨A, a, P, I, hH, hAc, hI, hT, hL, hz⟩ := h
  have hst := stand hH
  obtain ⟨h1, h2, h3, h4⟩ := hH
  have h7 : 7 * n ≤ 8000 := by omega
  suffices q : ∃ r, f_X10_target g p1 = some r ∧ f_X11_target md p1 = some r by
    obtain ⟨r, q1, q2⟩ := q
    exact ⟨r, q1, q2, hS.next⟩
  rcases hst with ⟨s1, s2, s3⟩ | ⟨s1, s2, s3⟩
  · exact ⟨-1000002, by simp only [u_X10_target, s1, ↓reduceIte, bt_do, bd_do, jn_eq, bI_z, gd_nI, gd_0, gd_1, nI_clamp, nI_add, nI_1, pk_mul, Nat.add_zero, Nat.zero_add, ile_t, ile_f, ilt_t, ilt_f, ieq_t, ieq_f, iz_t, iz_f, ilt0, ige0, im1, Bool.false_eq_true, Bool.true_eq_false, if_true, if_false], by simp only [u_X11_target, s2, ↓reduceIte, bt_do, bd_do, jn_eq, bI_z, gd_nI, gd_0, gd_1, nI_clamp, nI_add, nI_1, pk_mul, Nat.add_zero, Nat.zero_add, ile_t, ile_f, ilt_t, ilt_f, ieq_t, ieq_f, iz_t, iz_f, ilt0, ige0, im1, Bool.false_eq_true, Bool.true_eq_false, if_true, if_false]⟩
  · rcases kind_cases p1 with ⟨k, k1, k2, rfl, w1, w2⟩ | ⟨w1, w2⟩
    · exact ⟨nI (mN (aTg A k) 5), by simp (disch := omega) only [u_X10_target, s1, ↓w1, places_c h1 h3 h7 (show k < 6 by omega), ↓reduceIte, bt_do, bd_do, jn_eq, bI_z, gd_nI, gd_0, gd_1, nI_clamp, nI_add, nI_1, pk_mul, Nat.add_zero, Nat.zero_add, ile_t, ile_f, ilt_t, ilt_f, ieq_t, ieq_f, iz_t, iz_f, ilt0, ige0, im1, Bool.false_eq_true, Bool.true_eq_false, if_true, if_false], by simp (disch := omega) only [u_X11_target, s2, ↓w2, nI_l, want_m h2 h3 (show k < 6 by omega), targets_k h2 h3 h7, ↓reduceIte, bt_do, bd_do, jn_eq, bI_z, gd_nI, gd_0, gd_1, nI_clamp, nI_add, nI_1, pk_mul, Nat.add_zero, Nat.zero_add, ile_t, ile_f, ilt_t, ilt_f, ieq_t, ieq_f, iz_t, iz_f, ilt0, ige0, im1, Bool.false_eq_true, Bool.true_eq_false, if_true, if_false]⟩
    · exact ⟨-1000001, by simp only [u_X10_target, s1, ↓w1, ↓reduceIte, bt_do, bd_do, jn_eq, bI_z, gd_nI, gd_0, gd_1, nI_clamp, nI_add, nI_1, pk_mul, Nat.add_zero, Nat.zero_add, ile_t, ile_f, ilt_t, ilt_f, ieq_t, ieq_f, iz_t, iz_f, ilt0, ige0, im1, Bool.false_eq_true, Bool.true_eq_false, if_true, if_false], by simp only [u_X11_target, s2, ↓w2, ↓reduceIte, bt_do, bd_do, jn_eq, bI_z, gd_nI, gd_0, gd_1, nI_clamp, nI_add, nI_1, pk_mul, Nat.add_zero, Nat.zero_add, ile_t, ile_f, ilt_t, ilt_f, ieq_t, ieq_f, iz_t, iz_f, ilt0, ige0, im1, Bool.false_eq_true, Bool.true_eq_false, if_true, if_false]⟩
/-- the refusals of a file, on both sides -/
theorem refuse {n : Nat} {g : GC} {md : MD} {A : AH} (h : SmH n A g md) (p : Int32) : (f_X10_refusalOfFile g p = some (-1000002) ∧ f_X11_isHouse md = some false) ∨ (¬ g.2.2.2.2.2.2.1 = 0 ∧ f_X10_refusalOfFile g p = some (-1000001) ∧ f_X11_isHouse md = some true ∧ f_X11_isFile p = false ∧ f_X10_isFile p = false) ∨ (∃ f, f < 6 ∧ p = nI f ∧ ¬ g.2.2.2.2.2.2.1 = 0 ∧ f_X11_isHouse md = some true ∧ AF A ∧ ((¬ aIs A f = 1 ∧ f_X10_refusalOfFile g p = some (-1000002) ∧ f_X11_isThere md p = some false) ∨ (aIs A f = 1 ∧ f_X10_refusalOfFile g p = some (nI 0) ∧ f_X11_isThere md p = some true))) := by
  have hst := stand h
  obtain ⟨h1, h2, h3, h4⟩ := h
  rcases hst with ⟨s1, s2, s3⟩ | ⟨s1, s2, s3⟩
  · left
    exact ⟨by simp only [u_X10_refusalOfFile, s1, ↓reduceIte, bt_do, bd_do, jn_eq, bI_z, gd_nI, gd_0, gd_1, nI_clamp, nI_add, nI_1, pk_mul, Nat.add_zero, Nat.zero_add, ile_t, ile_f, ilt_t, ilt_f, ieq_t, ieq_f, iz_t, iz_f, ilt0, ige0, im1, Bool.false_eq_true, Bool.true_eq_false, if_true, if_false], s2⟩
  · right
    rcases file_cases p with ⟨f, hf, rfl⟩ | ⟨q1, q2⟩
    · right
      have hfl := h3.2.2.2.2.2.2.2.2.2.2.1 f hf
      have his := is_c h1 (w := 1) hf hfl.1 (by omega)
      have hit := isThere_m h2 h3 hf
      refine ⟨f, hf, rfl, s1, s2, s3, ?_⟩
      by_cases e : aIs A f = 1
      · right
        rw [decide_eq_true e] at his hit
        exact ⟨e, by simp only [u_X10_refusalOfFile, s1, isFile_n hf, his, ↓reduceIte, bt_do, bd_do, jn_eq, bI_z, gd_nI, gd_0, gd_1, nI_clamp, nI_add, nI_1, pk_mul, Nat.add_zero, Nat.zero_add, ile_t, ile_f, ilt_t, ilt_f, ieq_t, ieq_f, iz_t, iz_f, ilt0, ige0, im1, Bool.false_eq_true, Bool.true_eq_false, if_true, if_false], hit⟩
      · left
        rw [decide_eq_false e] at his hit
        exact ⟨e, by simp only [u_X10_refusalOfFile, s1, isFile_n hf, his, ↓reduceIte, bt_do, bd_do, jn_eq, bI_z, gd_nI, gd_0, gd_1, nI_clamp, nI_add, nI_1, pk_mul, Nat.add_zero, Nat.zero_add, ile_t, ile_f, ilt_t, ilt_f, ieq_t, ieq_f, iz_t, iz_f, ilt0, ige0, im1, Bool.false_eq_true, Bool.true_eq_false, if_true, if_false], hit⟩
    · left
      exact ⟨s1, by simp only [u_X10_refusalOfFile, s1, q1, ↓reduceIte, bt_do, bd_do, jn_eq, bI_z, gd_nI, gd_0, gd_1, nI_clamp, nI_add, nI_1, pk_mul, Nat.add_zero, Nat.zero_add, ile_t, ile_f, ilt_t, ilt_f, ieq_t, ieq_f, iz_t, iz_f, ilt0, ige0, im1, Bool.false_eq_true, Bool.true_eq_false, if_true, if_false], s2, q2, q1⟩
theorem n2z : ((-1000002 : Int32) = 0) = False := eq_false (by decide)
theorem n1z : ((-1000001 : Int32) = 0) = False := eq_false (by decide)
theorem ok_left : Ok_left Sim := by
  intro n g md p1 hn hS
  have h := hS
  obtain ⟨A, a, P, I, hH, hAc, hI, hT, hL, hz⟩ := h
  have hr := refuse hH p1
  obtain ⟨h1, h2, h3, h4⟩ := hH
  have h7 : 7 * n ≤ 8000 := by omega
  suffices q : ∃ r, f_X10_left g p1 = some r ∧ f_X11_left md p1 = some r by
    obtain ⟨r, q1, q2⟩ := q
    exact ⟨r, q1, q2, hS.next⟩
  rcases hr with ⟨r1, r2⟩ | ⟨_, r1, r2, r3, _⟩ | ⟨f, hf, rfl, _, r2, r3, ⟨e, r4, r5⟩ | ⟨e, r4, r5⟩⟩
  · exact ⟨-1000002, by simp only [u_X10_left, r1, n2z, ↓reduceIte, bt_do, bd_do, jn_eq, bI_z, gd_nI, gd_0, gd_1, nI_clamp, nI_add, nI_1, pk_mul, Nat.add_zero, Nat.zero_add, ile_t, ile_f, ilt_t, ilt_f, ieq_t, ieq_f, iz_t, iz_f, ilt0, ige0, im1, Bool.false_eq_true, Bool.true_eq_false, if_true, if_false], by simp only [u_X11_left, r2, ↓reduceIte, bt_do, bd_do, jn_eq, bI_z, gd_nI, gd_0, gd_1, nI_clamp, nI_add, nI_1, pk_mul, Nat.add_zero, Nat.zero_add, ile_t, ile_f, ilt_t, ilt_f, ieq_t, ieq_f, iz_t, iz_f, ilt0, ige0, im1, Bool.false_eq_true, Bool.true_eq_false, if_true, if_false]⟩
  · exact ⟨-1000001, by simp only [u_X10_left, r1, n1z, ↓reduceIte, bt_do, bd_do, jn_eq, bI_z, gd_nI, gd_0, gd_1, nI_clamp, nI_add, nI_1, pk_mul, Nat.add_zero, Nat.zero_add, ile_t, ile_f, ilt_t, ilt_f, ieq_t, ieq_f, iz_t, iz_f, ilt0, ige0, im1, Bool.false_eq_true, Bool.true_eq_false, if_true, if_false], by simp only [u_X11_left, r2, r3, ↓reduceIte, bt_do, bd_do, jn_eq, bI_z, gd_nI, gd_0, gd_1, nI_clamp, nI_add, nI_1, pk_mul, Nat.add_zero, Nat.zero_add, ile_t, ile_f, ilt_t, ilt_f, ieq_t, ieq_f, iz_t, iz_f, ilt0, ige0, im1, Bool.false_eq_true, Bool.true_eq_false, if_true, if_false]⟩
  · exact ⟨-1000002, by simp only [u_X10_left, r4, n2z, ↓reduceIte, bt_do, bd_do, jn_eq, bI_z, gd_nI, gd_0, gd_1, nI_clamp, nI_add, nI_1, pk_mul, Nat.add_zero, Nat.zero_add, ile_t, ile_f, ilt_t, ilt_f, ieq_t, ieq_f, iz_t, iz_f, ilt0, ige0, im1, Bool.false_eq_true, Bool.true_eq_false, if_true, if_false], by simp only [u_X11_left, r2, isF_m hf, r5, ↓reduceIte, bt_do, bd_do, jn_eq, bI_z, gd_nI, gd_0, gd_1, nI_clamp, nI_add, nI_1, pk_mul, Nat.add_zero, Nat.zero_add, ile_t, ile_f, ilt_t, ilt_f, ieq_t, ieq_f, iz_t, iz_f, ilt0, ige0, im1, Bool.false_eq_true, Bool.true_eq_false, if_true, if_false]⟩
  · refine ⟨spLeft A f, by simp (disch := omega) only [u_X10_left, r4, left_c h1 h3 h7 hf, ↓reduceIte, bt_do, bd_do, jn_eq, bI_z, gd_nI, gd_0, gd_1, nI_clamp, nI_add, nI_1, pk_mul, Nat.add_zero, Nat.zero_add, ile_t, ile_f, ilt_t, ilt_f, ieq_t, ieq_f, iz_t, iz_f, ilt0, ige0, im1, Bool.false_eq_true, Bool.true_eq_false, if_true, if_false], ?_⟩
    have hmr := many_r h2 hf
    have h4m := (h3.2.2.2.2.2.2.2.2.2.2.1 f hf).2.1
    have m2 : md.1 2 = lN (aSize A) := h2.1 2 (by omega)
    unfold spLeft
    by_cases e0 : aMany A f = 0
    · rw [if_pos e0]
      simp (disch := omega) only [u_X11_left, r2, isF_m hf, r5, hmr, ↓reduceIte, bt_do, bd_do, jn_eq, bI_z, gd_nI, gd_0, gd_1, nI_clamp, nI_add, nI_1, pk_mul, Nat.add_zero, Nat.zero_add, ile_t, ile_f, ilt_t, ilt_f, ieq_t, ieq_f, iz_t, iz_f, ilt0, ige0, im1, Bool.false_eq_true, Bool.true_eq_false, if_true, if_false]
    · rw [if_neg e0]
      have hla := last_m h2 h3 hf (show 1 ≤ aMany A f by omega)
      have hcl := lst_lt h3 hf (show 1 ≤ aMany A f by omega)
      have hab := ables_m5 h2 h3 h7 hcl
      have hgf := gf_m h2 h3 h7 hcl
      have hgl := gf_le h3 (lst A f)
      by_cases ex : any5 (aAble A (lst A f)) = true
      · rw [if_pos ex]
        simp (disch := omega) only [u_X11_left, r2, isF_m hf, r5, hmr, hla, hab, any5_z, ex, hgf, m2, pk_sub, ↓reduceIte, bt_do, bd_do, jn_eq, bI_z, gd_nI, gd_0, gd_1, nI_clamp, nI_add, nI_1, pk_mul, Nat.add_zero, Nat.zero_add, ile_t, ile_f, ilt_t, ilt_f, ieq_t, ieq_f, iz_t, iz_f, ilt0, ige0, im1, Bool.false_eq_true, Bool.true_eq_false, if_true, if_false, lc_ge_t, lc_ge_f, lc_eq_t, lc_eq_f, lc_le_t, lc_le_f, lc_gt_t, lc_gt_f, lc_lt_t, lc_lt_f, nI_l, lN_i, lN_add, lN_1]
      · rw [if_neg ex]
        simp (disch := omega) only [u_X11_left, r2, isF_m hf, r5, hmr, hla, hab, any5_z, bF ex, ↓reduceIte, bt_do, bd_do, jn_eq, bI_z, gd_nI, gd_0, gd_1, nI_clamp, nI_add, nI_1, pk_mul, Nat.add_zero, Nat.zero_add, ile_t, ile_f, ilt_t, ilt_f, ieq_t, ieq_f, iz_t, iz_f, ilt0, ige0, im1, Bool.false_eq_true, Bool.true_eq_false, if_true, if_false, lc_ge_t, lc_ge_f, lc_eq_t, lc_eq_f, lc_le_t, lc_le_f, lc_gt_t, lc_gt_f, lc_lt_t, lc_lt_f, nI_l, lN_i, lN_add, lN_1]
theorem ok_strength : Ok_strength Sim := by
  intro n g md p1 hn hS
  have h := hS
  obtain ⟨A, a, P, I, hH, hAc, hI, hT, hL, hz⟩ := h
  have hr := refuse hH p1
  obtain ⟨h1, h2, h3, h4⟩ := hH
  have h7 : 7 * n ≤ 8000 := by omega
  suffices q : ∃ r, f_X10_strength g p1 = some r ∧ f_X11_strength md p1 = some r by
    obtain ⟨r, q1, q2⟩ := q
    exact ⟨r, q1, q2, hS.next⟩
  rcases hr with ⟨r1, r2⟩ | ⟨_, r1, r2, r3, _⟩ | ⟨f, hf, rfl, _, r2, r3, ⟨e, r4, r5⟩ | ⟨e, r4, r5⟩⟩
  · exact ⟨-1000002, by simp only [u_X10_strength, r1, n2z, ↓reduceIte, bt_do, bd_do, jn_eq, bI_z, gd_nI, gd_0, gd_1, nI_clamp, nI_add, nI_1, pk_mul, Nat.add_zero, Nat.zero_add, ile_t, ile_f, ilt_t, ilt_f, ieq_t, ieq_f, iz_t, iz_f, ilt0, ige0, im1, Bool.false_eq_true, Bool.true_eq_false, if_true, if_false], by simp only [u_X11_strength, r2, ↓reduceIte, bt_do, bd_do, jn_eq, bI_z, gd_nI, gd_0, gd_1, nI_clamp, nI_add, nI_1, pk_mul, Nat.add_zero, Nat.zero_add, ile_t, ile_f, ilt_t, ilt_f, ieq_t, ieq_f, iz_t, iz_f, ilt0, ige0, im1, Bool.false_eq_true, Bool.true_eq_false, if_true, if_false]⟩
  · exact ⟨-1000001, by simp only [u_X10_strength, r1, n1z, ↓reduceIte, bt_do, bd_do, jn_eq, bI_z, gd_nI, gd_0, gd_1, nI_clamp, nI_add, nI_1, pk_mul, Nat.add_zero, Nat.zero_add, ile_t, ile_f, ilt_t, ilt_f, ieq_t, ieq_f, iz_t, iz_f, ilt0, ige0, im1, Bool.false_eq_true, Bool.true_eq_false, if_true, if_false], by simp only [u_X11_strength, r2, r3, ↓reduceIte, bt_do, bd_do, jn_eq, bI_z, gd_nI, gd_0, gd_1, nI_clamp, nI_add, nI_1, pk_mul, Nat.add_zero, Nat.zero_add, ile_t, ile_f, ilt_t, ilt_f, ieq_t, ieq_f, iz_t, iz_f, ilt0, ige0, im1, Bool.false_eq_true, Bool.true_eq_false, if_true, if_false]⟩
  · exact ⟨-1000002, by simp only [u_X10_strength, r4, n2z, ↓reduceIte, bt_do, bd_do, jn_eq, bI_z, gd_nI, gd_0, gd_1, nI_clamp, nI_add, nI_1, pk_mul, Nat.add_zero, Nat.zero_add, ile_t, ile_f, ilt_t, ilt_f, ieq_t, ieq_f, iz_t, iz_f, ilt0, ige0, im1, Bool.false_eq_true, Bool.true_eq_false, if_true, if_false], by simp only [u_X11_strength, r2, isF_m hf, r5, ↓reduceIte, bt_do, bd_do, jn_eq, bI_z, gd_nI, gd_0, gd_1, nI_clamp, nI_add, nI_1, pk_mul, Nat.add_zero, Nat.zero_add, ile_t, ile_f, ilt_t, ilt_f, ieq_t, ieq_f, iz_t, iz_f, ilt0, ige0, im1, Bool.false_eq_true, Bool.true_eq_false, if_true, if_false]⟩
  · refine ⟨spStr A f, by simp (disch := omega) only [u_X10_strength, r4, strength_c h1 h3 h7 hf, ↓reduceIte, bt_do, bd_do, jn_eq, bI_z, gd_nI, gd_0, gd_1, nI_clamp, nI_add, nI_1, pk_mul, Nat.add_zero, Nat.zero_add, ile_t, ile_f, ilt_t, ilt_f, ieq_t, ieq_f, iz_t, iz_f, ilt0, ige0, im1, Bool.false_eq_true, Bool.true_eq_false, if_true, if_false], ?_⟩
    simp only [u_X11_strength, r2, isF_m hf, r5, many_r h2 hf, bd_do, bt_do, jn_eq, bI_z, Bool.true_eq_false, if_false]
    exact strength_loop_m h2 h3 h7 hf
theorem ok_odds : Ok_odds Sim := by
  intro n g md p1 p2 p3 hn hS
  have h := hS
  obtain ⟨A, a, P, I, hH, hAc, hI, hT, hL, hz⟩ := h
  have hst := stand hH
  obtain ⟨h1, h2, h3, h4⟩ := hH
  have h7 : 7 * n ≤ 8000 := by omega
  suffices q : ∃ r, f_X10_odds g p1 p2 p3 = some r ∧ f_X11_odds md p1 p2 p3 = some r by
    obtain ⟨r, q1, q2⟩ := q
    exact ⟨r, q1, q2, hS.next⟩
  rcases hst with ⟨s1, s2, s3⟩ | ⟨s1, s2, s3⟩
  · exact ⟨-1000002, by simp only [u_X10_odds, s1, ↓reduceIte, bt_do, bd_do, jn_eq, bI_z, gd_nI, gd_0, gd_1, nI_clamp, nI_add, nI_1, pk_mul, Nat.add_zero, Nat.zero_add, ile_t, ile_f, ilt_t, ilt_f, ieq_t, ieq_f, iz_t, iz_f, ilt0, ige0, im1, Bool.false_eq_true, Bool.true_eq_false, if_true, if_false], by simp only [u_X11_odds, s2, ↓reduceIte, bt_do, bd_do, jn_eq, bI_z, gd_nI, gd_0, gd_1, nI_clamp, nI_add, nI_1, pk_mul, Nat.add_zero, Nat.zero_add, ile_t, ile_f, ilt_t, ilt_f, ieq_t, ieq_f, iz_t, iz_f, ilt0, ige0, im1, Bool.false_eq_true, Bool.true_eq_false, if_true, if_false]⟩
  · rcases file_cases p1 with ⟨f, hf, rfl⟩ | ⟨q1, q2⟩
    · rcases wi_cases p2 0 10 (by omega) (by omega) with ⟨p, _, hp, rfl, w1, w2⟩ | ⟨w1, w2⟩
      · rcases wi_cases p3 0 1 (by omega) (by omega) with ⟨k, _, hk, rfl, w3, w4⟩ | ⟨w3, w4⟩
        · have hfl := h3.2.2.2.2.2.2.2.2.2.2.1 f hf
          have his := is_c h1 (w := 1) hf hfl.1 (by omega)
          have hit := isThere_m h2 h3 hf
          by_cases ei : aIs A f = 1
          · rw [decide_eq_true ei] at his hit
            have hbb := below_b (A := A)
            have hab := above_b (A := A) (f := f) hp
            have hbe := below_e (A := A) hp
            have hx := readableCases_c h1 h3 h7 hf hp
            have hy := allCases_c h1 h3
            have hg1 := gcd_c (x := sN (abG A f p) 32) (y := prN (alG A) 5) (by omega) (by omega)
            have hg2 := gcd_m (x := sN (abG A f p) 32) (y := prN (alG A) 5) (by omega) (by omega)
            have hloop := odds_loop_m h2 h3 h7 hf hp (fun q8 : Int64 × Int64 × Int32 => bt (if nI k = 0 then q8.1 else q8.2.1) (fun q9 : Int64 => bd (f_X11_gcd q8.1 q8.2.1) (fun r10 => gdL r10 (some (q9 / r10)))))
            rw [hbe] at hloop
            generalize sN (abG A f p) 32 = x at *
            generalize prN (alG A) 5 = y at *
            have hgp : 0 < Nat.gcd x y := Nat.gcd_pos_of_pos_right _ (by omega)
            have hgl : Nat.gcd x y ≤ y := Nat.gcd_le_right _ (by omega)
            generalize Nat.gcd x y = G at *
            rcases (by omega : k = 0 ∨ k = 1) with e | e
            · subst e
              refine ⟨lN (x / G), by simp (disch := omega) only [u_X10_odds, s1, isFile_n hf, ↓w1, ↓w3, his, hx, hy, hg1, gdL_nI, pk_lDiv, ↓reduceIte, bt_do, bd_do, jn_eq, bI_z, gd_nI, gd_0, gd_1, nI_clamp, nI_add, nI_1, pk_mul, Nat.add_zero, Nat.zero_add, ile_t, ile_f, ilt_t, ilt_f, ieq_t, ieq_f, iz_t, iz_f, ilt0, ige0, im1, Bool.false_eq_true, Bool.true_eq_false, if_true, if_false, lc_ge_t, lc_ge_f, lc_eq_t, lc_eq_f, lc_le_t, lc_le_f, lc_gt_t, lc_gt_f, lc_lt_t, lc_lt_f, nI_l, lN_i, lN_add, lN_1], ?_⟩
              simp (disch := omega) only [u_X11_odds, s2, isF_m hf, ↓w2, ↓w4, hit, bd_do, bI_z, Bool.true_eq_false, if_false, jn_eq]
              refine hloop.trans ?_
              simp (disch := omega) only [hg2, gdL_nI, pk_lDiv, ↓reduceIte, bt_do, bd_do, jn_eq, bI_z, gd_nI, gd_0, gd_1, nI_clamp, nI_add, nI_1, pk_mul, Nat.add_zero, Nat.zero_add, ile_t, ile_f, ilt_t, ilt_f, ieq_t, ieq_f, iz_t, iz_f, ilt0, ige0, im1, Bool.false_eq_true, Bool.true_eq_false, if_true, if_false]
            · subst e
              refine ⟨lN (y / G), by simp (disch := omega) only [u_X10_odds, s1, isFile_n hf, ↓w1, ↓w3, his, hx, hy, hg1, gdL_nI, pk_lDiv, ↓reduceIte, bt_do, bd_do, jn_eq, bI_z, gd_nI, gd_0, gd_1, nI_clamp, nI_add, nI_1, pk_mul, Nat.add_zero, Nat.zero_add, ile_t, ile_f, ilt_t, ilt_f, ieq_t, ieq_f, iz_t, iz_f, ilt0, ige0, im1, Bool.false_eq_true, Bool.true_eq_false, if_true, if_false, lc_ge_t, lc_ge_f, lc_eq_t, lc_eq_f, lc_le_t, lc_le_f, lc_gt_t, lc_gt_f, lc_lt_t, lc_lt_f, nI_l, lN_i, lN_add, lN_1], ?_⟩
              simp (disch := omega) only [u_X11_odds, s2, isF_m hf, ↓w2, ↓w4, hit, bd_do, bI_z, Bool.true_eq_false, if_false, jn_eq]
              refine hloop.trans ?_
              simp (disch := omega) only [hg2, gdL_nI, pk_lDiv, ↓reduceIte, bt_do, bd_do, jn_eq, bI_z, gd_nI, gd_0, gd_1, nI_clamp, nI_add, nI_1, pk_mul, Nat.add_zero, Nat.zero_add, ile_t, ile_f, ilt_t, ilt_f, ieq_t, ieq_f, iz_t, iz_f, ilt0, ige0, im1, Bool.false_eq_true, Bool.true_eq_false, if_true, if_false]
          · rw [decide_eq_false ei] at his hit
            exact ⟨-1000002, by simp only [u_X10_odds, s1, isFile_n hf, ↓w1, ↓w3, his, ↓reduceIte, bt_do, bd_do, jn_eq, bI_z, gd_nI, gd_0, gd_1, nI_clamp, nI_add, nI_1, pk_mul, Nat.add_zero, Nat.zero_add, ile_t, ile_f, ilt_t, ilt_f, ieq_t, ieq_f, iz_t, iz_f, ilt0, ige0, im1, Bool.false_eq_true, Bool.true_eq_false, if_true, if_false], by simp only [u_X11_odds, s2, isF_m hf, ↓w2, ↓w4, hit, ↓reduceIte, bt_do, bd_do, jn_eq, bI_z, gd_nI, gd_0, gd_1, nI_clamp, nI_add, nI_1, pk_mul, Nat.add_zero, Nat.zero_add, ile_t, ile_f, ilt_t, ilt_f, ieq_t, ieq_f, iz_t, iz_f, ilt0, ige0, im1, Bool.false_eq_true, Bool.true_eq_false, if_true, if_false]⟩
        · exact ⟨-1000001, by simp only [u_X10_odds, s1, isFile_n hf, ↓w1, ↓w3, ↓reduceIte, bt_do, bd_do, jn_eq, bI_z, gd_nI, gd_0, gd_1, nI_clamp, nI_add, nI_1, pk_mul, Nat.add_zero, Nat.zero_add, ile_t, ile_f, ilt_t, ilt_f, ieq_t, ieq_f, iz_t, iz_f, ilt0, ige0, im1, Bool.false_eq_true, Bool.true_eq_false, if_true, if_false], by simp only [u_X11_odds, s2, isF_m hf, ↓w2, ↓w4, ↓reduceIte, bt_do, bd_do, jn_eq, bI_z, gd_nI, gd_0, gd_1, nI_clamp, nI_add, nI_1, pk_mul, Nat.add_zero, Nat.zero_add, ile_t, ile_f, ilt_t, ilt_f, ieq_t, ieq_f, iz_t, iz_f, ilt0, ige0, im1, Bool.false_eq_true, Bool.true_eq_false, if_true, if_false]⟩
      · exact ⟨-1000001, by simp only [u_X10_odds, s1, isFile_n hf, ↓w1, ↓reduceIte, bt_do, bd_do, jn_eq, bI_z, gd_nI, gd_0, gd_1, nI_clamp, nI_add, nI_1, pk_mul, Nat.add_zero, Nat.zero_add, ile_t, ile_f, ilt_t, ilt_f, ieq_t, ieq_f, iz_t, iz_f, ilt0, ige0, im1, Bool.false_eq_true, Bool.true_eq_false, if_true, if_false], by simp only [u_X11_odds, s2, isF_m hf, ↓w2, ↓reduceIte, bt_do, bd_do, jn_eq, bI_z, gd_nI, gd_0, gd_1, nI_clamp, nI_add, nI_1, pk_mul, Nat.add_zero, Nat.zero_add, ile_t, ile_f, ilt_t, ilt_f, ieq_t, ieq_f, iz_t, iz_f, ilt0, ige0, im1, Bool.false_eq_true, Bool.true_eq_false, if_true, if_false]⟩
    · exact ⟨-1000001, by simp only [u_X10_odds, s1, q1, ↓reduceIte, bt_do, bd_do, jn_eq, bI_z, gd_nI, gd_0, gd_1, nI_clamp, nI_add, nI_1, pk_mul, Nat.add_zero, Nat.zero_add, ile_t, ile_f, ilt_t, ilt_f, ieq_t, ieq_f, iz_t, iz_f, ilt0, ige0, im1, Bool.false_eq_true, Bool.true_eq_false, if_true, if_false], by simp only [u_X11_odds, s2, q2, ↓reduceIte, bt_do, bd_do, jn_eq, bI_z, gd_nI, gd_0, gd_1, nI_clamp, nI_add, nI_1, pk_mul, Nat.add_zero, Nat.zero_add, ile_t, ile_f, ilt_t, ilt_f, ieq_t, ieq_f, iz_t, iz_f, ilt0, ige0, im1, Bool.false_eq_true, Bool.true_eq_false, if_true, if_false]⟩
