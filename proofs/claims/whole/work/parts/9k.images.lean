/-! PURE 9k: undo, image, restore -/
theorem tl1 : (1 : Int32) = nI 1 := by decide
theorem ok_undo : Ok_undo Sim := by
  intro n g md hn hS
  have h := hS
  obtain ⟨A, a, P, I, hSm⟩ := h
  obtain ⟨⟨h1, h2, h3, h4⟩, ⟨⟨nx, hnx, c1, c2, c6, c3⟩, ⟨m1, m6, m3⟩, h7⟩, h8, h9, h10, h11⟩ := hSm
  by_cases e : a = 0
  · subst e
    refine same hS (-1000002) ?_ ?_
    · have hz : ((if g.2.2.1.2.1 ≤ 0 then (nI 5) else g.2.2.1.2.1 - 1) = nI ((nx + 5) % 6)) ∨ True := Or.inr trivial
      simp only [u_X10_undo, u_X0_takeBack, c2, iz_t, bd_do, bt_do, if_true, bI_z]
    · simp (disch := omega) only [u_X11_undo, m1, ↓reduceIte, bt_do, bd_do, jn_eq, bI_z, gd_nI, gd_0, gd_1, nI_clamp, nI_add, nI_1, pk_mul, Nat.add_zero, Nat.zero_add, ile_t, ile_f, ilt_t, ilt_f, ieq_t, ieq_f, iz_t, iz_f, ilt0, ige0, im1, Bool.false_eq_true, Bool.true_eq_false, if_true, if_false]
  · have hlt : (if g.2.2.1.2.1 ≤ 0 then (nI 5) else g.2.2.1.2.1 - 1) = nI ((nx + 5) % 6) := by
      rw [c1]
      by_cases q : nx = 0
      · subst q
        rfl
      · rw [if_neg (by rw [show (0 : Int32) = nI 0 from rfl, ile_f (by omega) (by omega)]; exact id), tl1, pk_sub (by omega)]
        rw [show nx - 1 = (nx + 5) % 6 by omega]
    obtain ⟨w, hw, hRw⟩ := c3 0 (by omega)
    have hP0 := h7 0 (by omega)
    obtain ⟨v', hv, hR⟩ := become_c hRw hP0.1 g.2.2.2.1
    rw [show nx + 5 - 0 = nx + 5 by omega] at hw
    obtain ⟨b', hb', hb1, _⟩ := copies_m (n0 := 2040) (n2 := 340) (a := 340 * (a - 1)) (b := 0) md.2.2.1 md.1 (by omega) (by omega) (by omega) (by omega)
    have hM : RM (P 0) b' := (m3 0 (by omega)).cong hP0.1.2.2.2.2.2.2.1 (fun k hk => by
      have q := hb1 k hk
      rw [Nat.zero_add] at q
      rw [q]
      exact congrArg md.2.2.1 (by omega))
    have hst : ¬ g.2.2.2.2.2.2.1 = 0 := fun q => e (h11 q).1
    refine ⟨nI (a - 1), (g.1, g.2.1, (g.2.2.1.1, nI ((nx + 5) % 6), nI (a - 1)), v', g.2.2.2.2.1, g.2.2.2.2.2), (b', md.2.1, md.2.2.1, nI (a - 1), md.2.2.2.2), ?_, ?_, P 0, a - 1, fun j => P (j + 1), I, ⟨hR, hM, hP0.1.mono (by omega), Or.inr ⟨hst, hP0.2⟩⟩, ⟨⟨(nx + 5) % 6, by omega, rfl, rfl, by omega, fun j hj => ?_⟩, ⟨rfl, by omega, fun j hj => ?_⟩, fun j hj => ?_⟩, h8.mono (by omega), h9, h10, fun q => absurd q hst⟩
    · simp only [u_X10_undo, u_X0_takeBack, hlt, bt_do]
      simp (disch := omega) only [c2, hw, hv, tl1, pk_sub, ↓reduceIte, bt_do, bd_do, jn_eq, bI_z, gd_nI, gd_0, gd_1, nI_clamp, nI_add, nI_1, pk_mul, Nat.add_zero, Nat.zero_add, ile_t, ile_f, ilt_t, ilt_f, ieq_t, ieq_f, iz_t, iz_f, ilt0, ige0, im1, Bool.false_eq_true, Bool.true_eq_false, if_true, if_false] <;> rfl
    · simp (disch := omega) only [u_X11_undo, m1, pk_sub, hb', ↓reduceIte, bt_do, bd_do, jn_eq, bI_z, gd_nI, gd_0, gd_1, nI_clamp, nI_add, nI_1, pk_mul, Nat.add_zero, Nat.zero_add, ile_t, ile_f, ilt_t, ilt_f, ieq_t, ieq_f, iz_t, iz_f, ilt0, ige0, im1, Bool.false_eq_true, Bool.true_eq_false, if_true, if_false] <;> rfl
    · obtain ⟨w, hw, hRw⟩ := c3 (j + 1) (by omega)
      refine ⟨w, ?_, hRw⟩
      rw [← hw]
      exact congrArg g.2.2.1.1 (by omega)
    · refine (m3 (j + 1) (by omega)).cong (h7 (j + 1) (by omega)).1.2.2.2.2.2.2.1 (fun k hk => ?_)
      exact congrArg md.2.2.1 (by omega)
    · exact ⟨(h7 (j + 1) (by omega)).1.mono (by omega), (h7 (j + 1) (by omega)).2⟩
theorem k_cases {k : Nat} (h : k < 2) : k = 0 ∨ k = 1 := by omega
theorem ok_image : Ok_image Sim := by
  intro n g md p1 hn hS
  have h := hS
  obtain ⟨A, a, P, I, hSm⟩ := h
  have hst := stand hSm.1
  obtain ⟨⟨h1, h2, h3, h4⟩, h5, h8, h9, h10, h11⟩ := hSm.mono (show n ≤ n + 1 by omega)
  have h30 : aMade A ≤ 30 := h3.2.2.2.2.2.2.1
  rcases wi_cases p1 0 1 (by omega) (by omega) with ⟨k, _, k2, rfl, w1, w2⟩ | ⟨w1, w2⟩
  · rcases hst with ⟨s1, s2, s3⟩ | ⟨s1, s2, s3⟩
    · exact same hS (-1000002) (by simp only [u_X10_image, u_X10_isImage, ↓w1, s1, ↓reduceIte, bt_do, bd_do, jn_eq, bI_z, gd_nI, gd_0, gd_1, nI_clamp, nI_add, nI_1, pk_mul, Nat.add_zero, Nat.zero_add, ile_t, ile_f, ilt_t, ilt_f, ieq_t, ieq_f, iz_t, iz_f, ilt0, ige0, im1, Bool.false_eq_true, Bool.true_eq_false, if_true, if_false]) (by simp only [u_X11_image, ↓w2, s2, ↓reduceIte, bt_do, bd_do, jn_eq, bI_z, gd_nI, gd_0, gd_1, nI_clamp, nI_add, nI_1, pk_mul, Nat.add_zero, Nat.zero_add, ile_t, ile_f, ilt_t, ilt_f, ieq_t, ieq_f, iz_t, iz_f, ilt0, ige0, im1, Bool.false_eq_true, Bool.true_eq_false, if_true, if_false])
    · obtain ⟨v', hv, hR⟩ := become_c h1 h3 ((g.2.2.2.2.2.1 k).getD (HS0 xf))
      obtain ⟨b', hb', hb1, hb2⟩ := copies_m (n0 := 340) (n2 := 680) (a := 0) (b := 340 * k) md.1 md.2.2.2.2.1 (by omega) (by omega) (by omega) (by omega)
      refine ⟨nI 1, (g.1, g.2.1, g.2.2.1, g.2.2.2.1, g.2.2.2.2.1, upO g.2.2.2.2.2.1 k (some v'), g.2.2.2.2.2.2), (md.1, md.2.1, md.2.2.1, md.2.2.2.1, b', upd md.2.2.2.2.2.1 k (nI 1), md.2.2.2.2.2.2), ?_, ?_, A, a, P, upO I k (some A), ⟨h1, h2, h3, h4⟩, h5, fun i hi => ?_, h9, h10, fun q => absurd q s1⟩
      · simp (disch := omega) only [u_X10_image, u_X10_isImage, ↓w1, s1, hv, tl1, ↓reduceIte, bt_do, bd_do, jn_eq, bI_z, gd_nI, gd_0, gd_1, nI_clamp, nI_add, nI_1, pk_mul, Nat.add_zero, Nat.zero_add, ile_t, ile_f, ilt_t, ilt_f, ieq_t, ieq_f, iz_t, iz_f, ilt0, ige0, im1, Bool.false_eq_true, Bool.true_eq_false, if_true, if_false] <;> rfl
      · simp (disch := omega) only [u_X11_image, ↓w2, s2, hb', nar1, ↓reduceIte, bt_do, bd_do, jn_eq, bI_z, gd_nI, gd_0, gd_1, nI_clamp, nI_add, nI_1, pk_mul, Nat.add_zero, Nat.zero_add, ile_t, ile_f, ilt_t, ilt_f, ieq_t, ieq_f, iz_t, iz_f, ilt0, ige0, im1, Bool.false_eq_true, Bool.true_eq_false, if_true, if_false] <;> rfl
      · by_cases e : i = k
        · subst e
          rw [up_s]
          refine ⟨⟨v', up_s _ _ _, hR⟩, ?_, h2.cong h30 (fun j hj => ?_), h3, s3⟩
          · show ¬ upd _ i _ i = 0
            rw [pk_us]
            decide
          · have q := hb1 j hj
            rw [Nat.zero_add] at q
            exact q
        · have q := h8 i hi
          rw [up_n e]
          cases hI : I i with
          | none =>
            rw [hI] at q
            refine ⟨(up_n e).trans q.1, ?_⟩
            show upd _ k _ i = 0
            rw [pk_un e]
            exact q.2
          | some B =>
            rw [hI] at q
            obtain ⟨⟨w, q1, q2⟩, q3, q4, q5, q6⟩ := q
            refine ⟨⟨w, (up_n e).trans q1, q2⟩, ?_, q4.cong q5.2.2.2.2.2.2.1 (fun j hj => ?_), q5, q6⟩
            · show ¬ upd _ k _ i = 0
              rw [pk_un e]
              exact q3
            · exact hb2 _ (by omega)
  · exact same hS (-1000001) (by simp only [u_X10_image, u_X10_isImage, ↓w1, ↓reduceIte, bt_do, bd_do, jn_eq, bI_z, gd_nI, gd_0, gd_1, nI_clamp, nI_add, nI_1, pk_mul, Nat.add_zero, Nat.zero_add, ile_t, ile_f, ilt_t, ilt_f, ieq_t, ieq_f, iz_t, iz_f, ilt0, ige0, im1, Bool.false_eq_true, Bool.true_eq_false, if_true, if_false]) (by simp only [u_X11_image, ↓w2, ↓reduceIte, bt_do, bd_do, jn_eq, bI_z, gd_nI, gd_0, gd_1, nI_clamp, nI_add, nI_1, pk_mul, Nat.add_zero, Nat.zero_add, ile_t, ile_f, ilt_t, ilt_f, ieq_t, ieq_f, iz_t, iz_f, ilt0, ige0, im1, Bool.false_eq_true, Bool.true_eq_false, if_true, if_false])
theorem ok_restore : Ok_restore Sim := by
  intro n g md p1 hn hS
  have h := hS
  obtain ⟨A, a, P, I, hSm⟩ := h
  obtain ⟨⟨h1, h2, h3, h4⟩, ⟨⟨nx, hnx, c1, c2, c6, c3⟩, _, _⟩, h8, h9, h10, h11⟩ := hSm.mono (show n ≤ n + 1 by omega)
  rcases wi_cases p1 0 1 (by omega) (by omega) with ⟨k, _, k2, rfl, w1, w2⟩ | ⟨w1, w2⟩
  · have q := h8 k (by omega)
    cases hI : I k with
    | none =>
      rw [hI] at q
      obtain ⟨q1, q2⟩ := q
      exact same hS (-1000002) (by simp (disch := omega) only [u_X10_restore, u_X10_isImage, ↓w1, q1, ↓reduceIte, bt_do, bd_do, jn_eq, bI_z, gd_nI, gd_0, gd_1, nI_clamp, nI_add, nI_1, pk_mul, Nat.add_zero, Nat.zero_add, ile_t, ile_f, ilt_t, ilt_f, ieq_t, ieq_f, iz_t, iz_f, ilt0, ige0, im1, Bool.false_eq_true, Bool.true_eq_false, if_true, if_false]) (by simp (disch := omega) only [u_X11_restore, ↓w2, q2, ↓reduceIte, bt_do, bd_do, jn_eq, bI_z, gd_nI, gd_0, gd_1, nI_clamp, nI_add, nI_1, pk_mul, Nat.add_zero, Nat.zero_add, ile_t, ile_f, ilt_t, ilt_f, ieq_t, ieq_f, iz_t, iz_f, ilt0, ige0, im1, Bool.false_eq_true, Bool.true_eq_false, if_true, if_false])
    | some B =>
      rw [hI] at q
      obtain ⟨⟨w, q1, q2⟩, q3, q4, q5, q6⟩ := q
      have hst : ¬ g.2.2.2.2.2.2.1 = 0 := fun z => by
        have z1 := (h11 z).2 k (by omega)
        rw [hI] at z1
        cases z1
      obtain ⟨v', hv, hR⟩ := become_c q2 q5 g.2.2.2.1
      obtain ⟨b', hb', hb1, _⟩ := copies_m (n0 := 680) (n2 := 340) (a := 340 * k) (b := 0) md.2.2.2.2.1 md.1 (by omega) (by omega) (by omega) (by omega)
      have hM : RM B b' := q4.cong q5.2.2.2.2.2.2.1 (fun j hj => by
        have z := hb1 j hj
        rw [Nat.zero_add] at z
        exact z)
      refine ⟨nI 1, (g.1, g.2.1, (g.2.2.1.1, g.2.2.1.2.1, nI 0), v', g.2.2.2.2.1, g.2.2.2.2.2), (b', md.2.1, md.2.2.1, nI 0, md.2.2.2.2), ?_, ?_, B, 0, P, I, ⟨hR, hM, q5, Or.inr ⟨hst, q6⟩⟩, ⟨⟨nx, hnx, c1, rfl, by omega, fun j hj => by omega⟩, ⟨rfl, by omega, fun j hj => by omega⟩, fun j hj => by omega⟩, h8, h9, h10, fun z => absurd z hst⟩
      · simp (disch := omega) only [u_X10_restore, u_X10_isImage, ↓w1, q1, hv, tl1, ↓reduceIte, bt_do, bd_do, jn_eq, bI_z, gd_nI, gd_0, gd_1, nI_clamp, nI_add, nI_1, pk_mul, Nat.add_zero, Nat.zero_add, ile_t, ile_f, ilt_t, ilt_f, ieq_t, ieq_f, iz_t, iz_f, ilt0, ige0, im1, Bool.false_eq_true, Bool.true_eq_false, if_true, if_false] <;> rfl
      · simp (disch := omega) only [u_X11_restore, ↓w2, q3, hb', ↓reduceIte, bt_do, bd_do, jn_eq, bI_z, gd_nI, gd_0, gd_1, nI_clamp, nI_add, nI_1, pk_mul, Nat.add_zero, Nat.zero_add, ile_t, ile_f, ilt_t, ilt_f, ieq_t, ieq_f, iz_t, iz_f, ilt0, ige0, im1, Bool.false_eq_true, Bool.true_eq_false, if_true, if_false] <;> rfl
  · exact same hS (-1000001) (by simp only [u_X10_restore, u_X10_isImage, ↓w1, ↓reduceIte, bt_do, bd_do, jn_eq, bI_z, gd_nI, gd_0, gd_1, nI_clamp, nI_add, nI_1, pk_mul, Nat.add_zero, Nat.zero_add, ile_t, ile_f, ilt_t, ilt_f, ieq_t, ieq_f, iz_t, iz_f, ilt0, ige0, im1, Bool.false_eq_true, Bool.true_eq_false, if_true, if_false]) (by simp only [u_X11_restore, ↓w2, ↓reduceIte, bt_do, bd_do, jn_eq, bI_z, gd_nI, gd_0, gd_1, nI_clamp, nI_add, nI_1, pk_mul, Nat.add_zero, Nat.zero_add, ile_t, ile_f, ilt_t, ilt_f, ieq_t, ieq_f, iz_t, iz_f, ilt0, ige0, im1, Bool.false_eq_true, Bool.true_eq_false, if_true, if_false])
