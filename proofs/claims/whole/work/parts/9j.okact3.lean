/-! PURE 9j: feed, undo, images, what is foretold -/
theorem sm_free {n : Nat} {g : GC} {md : MD} {A : AH} {a : Nat} {P : Nat → AH} {I : Nat → Option AH} (h : Sm n g md A a P I) (rd : RD) (u : Unit) (tr : HS) (td : Nat → Int64) (tape : Nat → Int32) (taped x9 x10 x11 x12 x13 x14 : Int32) (rc : Nat → Int32) (le : Int32) (hT : SmT rd.1 tape taped) : Sim (n + 1) (rd, u, g.2.2.1, g.2.2.2.1, tr, g.2.2.2.2.2) (md.1, td, md.2.2.1, md.2.2.2.1, md.2.2.2.2.1, md.2.2.2.2.2.1, tape, taped, x9, x10, x11, x12, x13, x14, md.2.2.2.2.2.2.2.2.2.2.2.2.2.2.1, rc, le) := by
  obtain ⟨⟨h1, h2, h3, h4⟩, ⟨h5, h6, h7⟩, h8, h9, h10, h11⟩ := h.mono (show n ≤ n + 1 by omega)
  exact ⟨A, a, P, I, ⟨h1, h2, h3, h4⟩, ⟨h5, h6, h7⟩, h8, hT, h10, h11⟩
theorem nI11 : (nI 1 = 1) = True := eq_true (by decide)
theorem nI21 : (nI 2 = 1) = False := eq_false (by decide)
theorem n80 : ((nI 80 : Int32) = nI 80) = True := eq_true rfl
theorem ok_feed : Ok_feed Sim := by
  intro n g md p1 hn hS
  have h := hS
  obtain ⟨A, a, P, I, hSm⟩ := h
  obtain ⟨t, T, ht, t1, t2, t3⟩ := hSm.2.2.2.1
  rcases wi_cases p1 0 255 (by omega) (by omega) with ⟨x, _, x2, rfl, w1, w2⟩ | ⟨w1, w2⟩
  · by_cases e : t = 80
    · refine same hS (-1000003) ?_ ?_
      · simp (disch := omega) only [u_X10_feed, ↓w1, u_X9_take, t1, ↓reduceIte, bt_do, bd_do, jn_eq, bI_z, gd_nI, gd_0, gd_1, nI_clamp, nI_add, nI_1, pk_mul, Nat.add_zero, Nat.zero_add, ile_t, ile_f, ilt_t, ilt_f, ieq_t, ieq_f, iz_t, iz_f, ilt0, ige0, im1, Bool.false_eq_true, Bool.true_eq_false, if_true, if_false]
      · simp (disch := omega) only [u_X11_feed, ↓w2, t2, ↓reduceIte, bt_do, bd_do, jn_eq, bI_z, gd_nI, gd_0, gd_1, nI_clamp, nI_add, nI_1, pk_mul, Nat.add_zero, Nat.zero_add, ile_t, ile_f, ilt_t, ilt_f, ieq_t, ieq_f, iz_t, iz_f, ilt0, ige0, im1, Bool.false_eq_true, Bool.true_eq_false, if_true, if_false]
    · have hT : SmT (upd g.1.1.1 t (nI x), nI (t + 1)) (upd md.2.2.2.2.2.2.1 t (nI x)) (nI (t + 1)) := by
        refine ⟨t + 1, upO T t x, by omega, rfl, rfl, fun j hj => ?_⟩
        by_cases ej : j = t
        · subst ej
          refine ⟨?_, ?_, ?_⟩
          · show upd _ j _ j = _; rw [pk_us, up_s]
          · rw [pk_us, up_s]
          · rw [up_s]; exact x2
        · obtain ⟨y1, y2, y3⟩ := t3 j (by omega)
          refine ⟨?_, ?_, ?_⟩
          · show upd _ t _ j = _; rw [pk_un ej, up_n ej]; exact y1
          · rw [pk_un ej, up_n ej]; exact y2
          · rw [up_n ej]; exact y3
      refine ⟨nI (t + 1), _, _, ?_, ?_, sm_free hSm ((upd g.1.1.1 t (nI x), nI (t + 1)), g.1.2.1, g.1.2.2.1, g.1.2.2.2) g.2.1 g.2.2.2.2.1 md.2.1 (upd md.2.2.2.2.2.2.1 t (nI x)) (nI (t + 1)) md.2.2.2.2.2.2.2.2.1 md.2.2.2.2.2.2.2.2.2.1 md.2.2.2.2.2.2.2.2.2.2.1 md.2.2.2.2.2.2.2.2.2.2.2.1 md.2.2.2.2.2.2.2.2.2.2.2.2.1 md.2.2.2.2.2.2.2.2.2.2.2.2.2.1 md.2.2.2.2.2.2.2.2.2.2.2.2.2.2.2.1 md.2.2.2.2.2.2.2.2.2.2.2.2.2.2.2.2 hT⟩
      · simp (disch := omega) only [u_X10_feed, ↓w1, u_X9_take, t1, ↓reduceIte, bt_do, bd_do, jn_eq, bI_z, gd_nI, gd_0, gd_1, nI_clamp, nI_add, nI_1, pk_mul, Nat.add_zero, Nat.zero_add, ile_t, ile_f, ilt_t, ilt_f, ieq_t, ieq_f, iz_t, iz_f, ilt0, ige0, im1, Bool.false_eq_true, Bool.true_eq_false, if_true, if_false]
      · simp (disch := omega) only [u_X11_feed, ↓w2, t2, ↓reduceIte, bt_do, bd_do, jn_eq, bI_z, gd_nI, gd_0, gd_1, nI_clamp, nI_add, nI_1, pk_mul, Nat.add_zero, Nat.zero_add, ile_t, ile_f, ilt_t, ilt_f, ieq_t, ieq_f, iz_t, iz_f, ilt0, ige0, im1, Bool.false_eq_true, Bool.true_eq_false, if_true, if_false]
  · exact same hS (-1000001) (by simp only [u_X10_feed, ↓w1, ↓reduceIte, bt_do, bd_do, jn_eq, bI_z, gd_nI, gd_0, gd_1, nI_clamp, nI_add, nI_1, pk_mul, Nat.add_zero, Nat.zero_add, ile_t, ile_f, ilt_t, ilt_f, ieq_t, ieq_f, iz_t, iz_f, ilt0, ige0, im1, Bool.false_eq_true, Bool.true_eq_false, if_true, if_false]) (by simp only [u_X11_feed, ↓w2, ↓reduceIte, bt_do, bd_do, jn_eq, bI_z, gd_nI, gd_0, gd_1, nI_clamp, nI_add, nI_1, pk_mul, Nat.add_zero, Nat.zero_add, ile_t, ile_f, ilt_t, ilt_f, ieq_t, ieq_f, iz_t, iz_f, ilt0, ige0, im1, Bool.false_eq_true, Bool.true_eq_false, if_true, if_false])
theorem ok_mends : Ok_mends Sim := by
  intro n g md hn hS
  have h := hS
  obtain ⟨A, a, P, I, hSm⟩ := h
  have hst := stand hSm.1
  obtain ⟨h1, h2, h3, h4⟩ := hSm.1
  have h30 : aMade A ≤ 30 := h3.2.2.2.2.2.2.1
  have h7 : 7 * n ≤ 8000 := by omega
  rcases hst with ⟨s1, s2, s3⟩ | ⟨s1, s2, s3⟩
  · exact same hS (-1000002) (by simp only [u_X10_mends, s1, ↓reduceIte, bt_do, bd_do, jn_eq, bI_z, gd_nI, gd_0, gd_1, nI_clamp, nI_add, nI_1, pk_mul, Nat.add_zero, Nat.zero_add, ile_t, ile_f, ilt_t, ilt_f, ieq_t, ieq_f, iz_t, iz_f, ilt0, ige0, im1, Bool.false_eq_true, Bool.true_eq_false, if_true, if_false]) (by simp only [u_X11_mends, s2, ↓reduceIte, bt_do, bd_do, jn_eq, bI_z, gd_nI, gd_0, gd_1, nI_clamp, nI_add, nI_1, pk_mul, Nat.add_zero, Nat.zero_add, ile_t, ile_f, ilt_t, ilt_f, ieq_t, ieq_f, iz_t, iz_f, ilt0, ige0, im1, Bool.false_eq_true, Bool.true_eq_false, if_true, if_false])
  · obtain ⟨tr, htr, hRt⟩ := become_c h1 h3 g.2.2.2.2.1
    obtain ⟨tr', hmd⟩ := mendAll_c hRt h3 h7
    obtain ⟨w, hw, hw1, _⟩ := copies_m (n0 := 340) (n2 := 340) (a := 0) (b := 0) md.1 md.2.1 (by omega) (by omega) (by omega) (by omega)
    have hMt : RM A w := h2.cong h30 (fun k hk => by have q := hw1 k hk; rw [Nat.zero_add] at q; exact q)
    have hpo := poor_m hMt h3 h7
    obtain ⟨b', hb'⟩ := mends_loop_m (md := md) hMt h3 h7
    refine ⟨nI (mdI 150 A), _, _, ?_, ?_, sm_free hSm g.1 g.2.1 tr' b' md.2.2.2.2.2.2.1 md.2.2.2.2.2.2.2.1 md.2.2.2.2.2.2.2.2.1 md.2.2.2.2.2.2.2.2.2.1 md.2.2.2.2.2.2.2.2.2.2.1 md.2.2.2.2.2.2.2.2.2.2.2.1 md.2.2.2.2.2.2.2.2.2.2.2.2.1 md.2.2.2.2.2.2.2.2.2.2.2.2.2.1 md.2.2.2.2.2.2.2.2.2.2.2.2.2.2.2.1 md.2.2.2.2.2.2.2.2.2.2.2.2.2.2.2.2 hSm.2.2.2.1⟩
    · simp only [u_X10_mends, s1, htr, hmd, ↓reduceIte, bt_do, bd_do, jn_eq, bI_z, gd_nI, gd_0, gd_1, nI_clamp, nI_add, nI_1, pk_mul, Nat.add_zero, Nat.zero_add, ile_t, ile_f, ilt_t, ilt_f, ieq_t, ieq_f, iz_t, iz_f, ilt0, ige0, im1, Bool.false_eq_true, Bool.true_eq_false, if_true, if_false]
    · refine Eq.trans ?_ hb'
      simp only [u_X11_mends, u_X11_tries, s2, hw, hpo, ↓reduceIte, bt_do, bd_do, jn_eq, bI_z, gd_nI, gd_0, gd_1, nI_clamp, nI_add, nI_1, pk_mul, Nat.add_zero, Nat.zero_add, ile_t, ile_f, ilt_t, ilt_f, ieq_t, ieq_f, iz_t, iz_f, ilt0, ige0, im1, Bool.false_eq_true, Bool.true_eq_false, if_true, if_false] <;> rfl
theorem yrN_inv : ∀ (k x : Nat) (st : Nat × AH) {n : Nat}, YQ n st.2 → YQ (n + 6 * k) (yrN k x st).2 := by
  intro k
  induction k with
  | zero => intro x st n h; exact h
  | succ k ih =>
    intro x st n h
    have q := ih (nxX x) (yrS (nxX x) st) (yr_inv (x := nxX x) h).1
    rw [show n + 6 * (k + 1) = n + 6 + 6 * k by omega]
    exact q
theorem ok_drawn : Ok_drawn Sim := by
  intro n g md p1 p2 p3 hn hS
  have h := hS
  obtain ⟨A, a, P, I, hSm⟩ := h
  have hst := stand hSm.1
  obtain ⟨h1, h2, h3, h4⟩ := hSm.1
  have h30 : aMade A ≤ 30 := h3.2.2.2.2.2.2.1
  have h7 : 7 * n ≤ 8000 := by omega
  rcases hst with ⟨s1, s2, s3⟩ | ⟨s1, s2, s3⟩
  · exact same hS (-1000002) (by simp only [u_X10_drawn, s1, ↓reduceIte, bt_do, bd_do, jn_eq, bI_z, gd_nI, gd_0, gd_1, nI_clamp, nI_add, nI_1, pk_mul, Nat.add_zero, Nat.zero_add, ile_t, ile_f, ilt_t, ilt_f, ieq_t, ieq_f, iz_t, iz_f, ilt0, ige0, im1, Bool.false_eq_true, Bool.true_eq_false, if_true, if_false]) (by simp only [u_X11_drawn, s2, ↓reduceIte, bt_do, bd_do, jn_eq, bI_z, gd_nI, gd_0, gd_1, nI_clamp, nI_add, nI_1, pk_mul, Nat.add_zero, Nat.zero_add, ile_t, ile_f, ilt_t, ilt_f, ieq_t, ieq_f, iz_t, iz_f, ilt0, ige0, im1, Bool.false_eq_true, Bool.true_eq_false, if_true, if_false])
  · rcases wi_cases p1 0 12 (by omega) (by omega) with ⟨k, _, k2, rfl, w1, w2⟩ | ⟨w1, w2⟩
    · rcases wi_cases p2 1 999999 (by omega) (by omega) with ⟨x, x1, x2, rfl, w3, w4⟩ | ⟨w3, w4⟩
      · rcases wi_cases p3 0 2 (by omega) (by omega) with ⟨o, _, o2, rfl, w5, w6⟩ | ⟨w5, w6⟩
        · have hY : YQ (7 * n) A := ⟨h3, s3⟩
          obtain ⟨tr, htr, hRt⟩ := become_c h1 h3 g.2.2.2.2.1
          obtain ⟨tr', hlv, hR⟩ := live_c (k := k) (x := x) hRt hY (by omega) k2 (by omega)
          obtain ⟨w, hw, hw1, _⟩ := copies_m (n0 := 340) (n2 := 340) (a := 0) (b := 0) md.1 md.2.1 (by omega) (by omega) (by omega) (by omega)
          have hMt : RM A w := h2.cong h30 (fun k hk => by have q := hw1 k hk; rw [Nat.zero_add] at q; exact q)
          obtain ⟨b', x', rc, le, hb', hM⟩ := drawn_loop_m (md := md) (k := k) (x := x) hMt hY (by omega) k2 (by omega) (fun q7 : Int64 × Int32 × Int32 × MD => if nI o = 0 then (some (q7.2.1, q7.2.2.2)) else (if nI o = (nI 1) then (gdI (nI 6) 340 (some ((q7.2.2.2.2.1 (nI 6).toNatClampNeg).toInt32, q7.2.2.2))) else (bd (f_X11_allLying q7.2.2.2.2.1) (fun r10 => some (r10, q7.2.2.2)))))
          have hdr : f_X11_drawn md (nI k) (nI x) (nI o) = lpF (bX11_drawn_7 (nI k) (fun q7 : Int64 × Int32 × Int32 × MD => if nI o = 0 then (some (q7.2.1, q7.2.2.2)) else (if nI o = (nI 1) then (gdI (nI 6) 340 (some ((q7.2.2.2.2.1 (nI 6).toNatClampNeg).toInt32, q7.2.2.2))) else (bd (f_X11_allLying q7.2.2.2.2.1) (fun r10 => some (r10, q7.2.2.2)))))) FU (lN x, nI 0, nI 0, (md.1, w, md.2.2)) := by
            simp (disch := omega) only [u_X11_drawn, u_X11_tries, s2, ↓w2, ↓w4, ↓w6, hw, nI_l, bd_do, jn_eq, bI_z, Bool.true_eq_false, if_false] <;> rfl
          have hYI : YQ (7 * n + 6 * k) (yrN k x (0, A)).2 := yrN_inv k x (0, A) hY
          generalize yrN k x (0, A) = st at hlv hR hb' hM hYI
          have h30' : aMade st.2 ≤ 30 := hYI.1.2.2.2.2.2.2.1
          have m6 : b' 6 = lN (aMade st.2) := hM.1 6 (by omega)
          have v6 : tr'.2.2.2.2.2.2.1.1 = nI (aMade st.2) := hR.2.2.1.1
          have hal := allCopies_c hR hYI.1 (by omega)
          have ham := allLying_m hM hYI.1 (by omega)
          have hcl := sm_free hSm g.1 g.2.1 tr' b' md.2.2.2.2.2.2.1 md.2.2.2.2.2.2.2.1 md.2.2.2.2.2.2.2.2.1 md.2.2.2.2.2.2.2.2.2.1 md.2.2.2.2.2.2.2.2.2.2.1 md.2.2.2.2.2.2.2.2.2.2.2.1 md.2.2.2.2.2.2.2.2.2.2.2.2.1 md.2.2.2.2.2.2.2.2.2.2.2.2.2.1 rc le hSm.2.2.2.1
          rcases (by omega : o = 0 ∨ o = 1 ∨ o = 2) with e | e | e
          · subst e
            refine ⟨nI st.1, _, _, ?_, ?_, hcl⟩
            · simp (disch := omega) only [u_X10_drawn, s1, ↓w1, ↓w3, ↓w5, htr, hlv, ↓reduceIte, bt_do, bd_do, jn_eq, bI_z, gd_nI, gd_0, gd_1, nI_clamp, nI_add, nI_1, pk_mul, Nat.add_zero, Nat.zero_add, ile_t, ile_f, ilt_t, ilt_f, ieq_t, ieq_f, iz_t, iz_f, ilt0, ige0, im1, Bool.false_eq_true, Bool.true_eq_false, if_true, if_false]
            · refine hdr.trans (hb'.trans ?_)
              simp (disch := omega) only [↓reduceIte, bt_do, bd_do, jn_eq, bI_z, gd_nI, gd_0, gd_1, nI_clamp, nI_add, nI_1, pk_mul, Nat.add_zero, Nat.zero_add, ile_t, ile_f, ilt_t, ilt_f, ieq_t, ieq_f, iz_t, iz_f, ilt0, ige0, im1, Bool.false_eq_true, Bool.true_eq_false, if_true, if_false]
          · subst e
            refine ⟨nI (aMade st.2), _, _, ?_, ?_, hcl⟩
            · simp (disch := omega) only [u_X10_drawn, s1, ↓w1, ↓w3, ↓w5, htr, hlv, v6, nI11, ↓reduceIte, bt_do, bd_do, jn_eq, bI_z, gd_nI, gd_0, gd_1, nI_clamp, nI_add, nI_1, pk_mul, Nat.add_zero, Nat.zero_add, ile_t, ile_f, ilt_t, ilt_f, ieq_t, ieq_f, iz_t, iz_f, ilt0, ige0, im1, Bool.false_eq_true, Bool.true_eq_false, if_true, if_false, li10, li20, li21, li30, li31, li32, li40, li41, li42, li43, li50, li51, li52, li53, li54, li60, li61, li62, li63, li64, li65]
            · refine hdr.trans (hb'.trans ?_)
              simp (disch := omega) only [m6, ↓reduceIte, bt_do, bd_do, jn_eq, bI_z, gd_nI, gd_0, gd_1, nI_clamp, nI_add, nI_1, pk_mul, Nat.add_zero, Nat.zero_add, ile_t, ile_f, ilt_t, ilt_f, ieq_t, ieq_f, iz_t, iz_f, ilt0, ige0, im1, Bool.false_eq_true, Bool.true_eq_false, if_true, if_false, lc_ge_t, lc_ge_f, lc_eq_t, lc_eq_f, lc_le_t, lc_le_f, lc_gt_t, lc_gt_f, lc_lt_t, lc_lt_f, nI_l, lN_i, lN_add, lN_1, li10, li20, li21, li30, li31, li32, li40, li41, li42, li43, li50, li51, li52, li53, li54, li60, li61, li62, li63, li64, li65]
          · subst e
            refine ⟨nI (sN (aLyN st.2) (nS st.2)), _, _, ?_, ?_, hcl⟩
            · simp (disch := omega) only [u_X10_drawn, s1, ↓w1, ↓w3, ↓w5, htr, hlv, hal, nI21, ↓reduceIte, bt_do, bd_do, jn_eq, bI_z, gd_nI, gd_0, gd_1, nI_clamp, nI_add, nI_1, pk_mul, Nat.add_zero, Nat.zero_add, ile_t, ile_f, ilt_t, ilt_f, ieq_t, ieq_f, iz_t, iz_f, ilt0, ige0, im1, Bool.false_eq_true, Bool.true_eq_false, if_true, if_false, li10, li20, li21, li30, li31, li32, li40, li41, li42, li43, li50, li51, li52, li53, li54, li60, li61, li62, li63, li64, li65]
            · refine hdr.trans (hb'.trans ?_)
              simp (disch := omega) only [ham, ↓reduceIte, bt_do, bd_do, jn_eq, bI_z, gd_nI, gd_0, gd_1, nI_clamp, nI_add, nI_1, pk_mul, Nat.add_zero, Nat.zero_add, ile_t, ile_f, ilt_t, ilt_f, ieq_t, ieq_f, iz_t, iz_f, ilt0, ige0, im1, Bool.false_eq_true, Bool.true_eq_false, if_true, if_false, lc_ge_t, lc_ge_f, lc_eq_t, lc_eq_f, lc_le_t, lc_le_f, lc_gt_t, lc_gt_f, lc_lt_t, lc_lt_f, nI_l, lN_i, lN_add, lN_1, li10, li20, li21, li30, li31, li32, li40, li41, li42, li43, li50, li51, li52, li53, li54, li60, li61, li62, li63, li64, li65]
        · exact same hS (-1000001) (by simp only [u_X10_drawn, s1, ↓w1, ↓w3, ↓w5, ↓reduceIte, bt_do, bd_do, jn_eq, bI_z, gd_nI, gd_0, gd_1, nI_clamp, nI_add, nI_1, pk_mul, Nat.add_zero, Nat.zero_add, ile_t, ile_f, ilt_t, ilt_f, ieq_t, ieq_f, iz_t, iz_f, ilt0, ige0, im1, Bool.false_eq_true, Bool.true_eq_false, if_true, if_false]) (by simp only [u_X11_drawn, s2, ↓w2, ↓w4, ↓w6, ↓reduceIte, bt_do, bd_do, jn_eq, bI_z, gd_nI, gd_0, gd_1, nI_clamp, nI_add, nI_1, pk_mul, Nat.add_zero, Nat.zero_add, ile_t, ile_f, ilt_t, ilt_f, ieq_t, ieq_f, iz_t, iz_f, ilt0, ige0, im1, Bool.false_eq_true, Bool.true_eq_false, if_true, if_false])
      · exact same hS (-1000001) (by simp only [u_X10_drawn, s1, ↓w1, ↓w3, ↓reduceIte, bt_do, bd_do, jn_eq, bI_z, gd_nI, gd_0, gd_1, nI_clamp, nI_add, nI_1, pk_mul, Nat.add_zero, Nat.zero_add, ile_t, ile_f, ilt_t, ilt_f, ieq_t, ieq_f, iz_t, iz_f, ilt0, ige0, im1, Bool.false_eq_true, Bool.true_eq_false, if_true, if_false]) (by simp only [u_X11_drawn, s2, ↓w2, ↓w4, ↓reduceIte, bt_do, bd_do, jn_eq, bI_z, gd_nI, gd_0, gd_1, nI_clamp, nI_add, nI_1, pk_mul, Nat.add_zero, Nat.zero_add, ile_t, ile_f, ilt_t, ilt_f, ieq_t, ieq_f, iz_t, iz_f, ilt0, ige0, im1, Bool.false_eq_true, Bool.true_eq_false, if_true, if_false])
    · exact same hS (-1000001) (by simp only [u_X10_drawn, s1, ↓w1, ↓reduceIte, bt_do, bd_do, jn_eq, bI_z, gd_nI, gd_0, gd_1, nI_clamp, nI_add, nI_1, pk_mul, Nat.add_zero, Nat.zero_add, ile_t, ile_f, ilt_t, ilt_f, ieq_t, ieq_f, iz_t, iz_f, ilt0, ige0, im1, Bool.false_eq_true, Bool.true_eq_false, if_true, if_false]) (by simp only [u_X11_drawn, s2, ↓w2, ↓reduceIte, bt_do, bd_do, jn_eq, bI_z, gd_nI, gd_0, gd_1, nI_clamp, nI_add, nI_1, pk_mul, Nat.add_zero, Nat.zero_add, ile_t, ile_f, ilt_t, ilt_f, ieq_t, ieq_f, iz_t, iz_f, ilt0, ige0, im1, Bool.false_eq_true, Bool.true_eq_false, if_true, if_false])
