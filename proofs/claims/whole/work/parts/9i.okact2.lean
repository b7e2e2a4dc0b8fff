/-! PURE 9i: more acts -/
theorem af_of {n : Nat} {A : AH} {g : GC} {md : MD} {s : Nat} (h : SmH n A g md) (hs : s < nS A) : AF A := by
  rcases h.2.2.2 with q | q
  · omega
  · exact q.2
theorem turn_c {A : AH} {x : SV} {n : Nat} (h : RSV A x) (hA : AI n A) {s w : Nat} (hs : s < nS A) (hw : w ≤ 1) : ∃ y, f_X8_turn x (nI s) (nI w) = some y ∧ y.2.1 = nI (mN (aUpB (setUp A s w)) 5) ∧ RSV (setUp A s w) y := by
  have h5 : nS A ≤ 5 := hA.1
  have hb := upBits_c h
  have e : mN (upO (fun s => aUp A s == 1) s (decide (w = 1))) 5 = mN (fun s' => aUp (setUp A s w) s' == 1) 5 := by
    refine mN_congr (fun s' _ => ?_)
    show _ = (upO (aUp A) s w s' == 1)
    by_cases q : s' = s
    · rw [q, up_s, up_s]
      rcases (by omega : w = 0 ∨ w = 1) with q | q <;> rw [q] <;> rfl
    · rw [up_n q, up_n q]
  refine ⟨(x.1, nI (mN (upO (fun s => aUp A s == 1) s (decide (w = 1))) 5), x.2.2.1, x.2.2.2), ?_, congrArg nI e, h.1, fun s' hs' => ⟨(h.2 s' hs').1, (h.2 s' hs').2.1, congrArg nI e⟩⟩
  rcases (by omega : w = 0 ∨ w = 1) with q | q
  · subst q
    simp (disch := omega) only [u_X8_turn, has_sv h, hasP_of hs, hb, andb_n, ↓reduceIte, bt_do, bd_do, jn_eq, bI_z, gd_nI, gd_0, gd_1, nI_clamp, nI_add, nI_1, pk_mul, Nat.add_zero, Nat.zero_add, ile_t, ile_f, ilt_t, ilt_f, ieq_t, ieq_f, iz_t, iz_f, ilt0, ige0, im1, Bool.false_eq_true, Bool.true_eq_false, if_true, if_false]
    rfl
  · subst q
    simp (disch := omega) only [u_X8_turn, has_sv h, hasP_of hs, hb, orb_n, ↓reduceIte, bt_do, bd_do, jn_eq, bI_z, gd_nI, gd_0, gd_1, nI_clamp, nI_add, nI_1, pk_mul, Nat.add_zero, Nat.zero_add, ile_t, ile_f, ilt_t, ilt_f, ieq_t, ieq_f, iz_t, iz_f, ilt0, ige0, im1, Bool.false_eq_true, Bool.true_eq_false, if_true, if_false]
    rfl
theorem turn_ok {n : Nat} {g : GC} {md : MD} (p1 : Int32) {o w : Nat} (how : (o = 0 ∧ w = 1) ∨ (o = 1 ∧ w = 0)) (hn : n < 512) (hS : Sim n g md) : ∃ (r : Int32) (g' : GC) (md' : MD), f_X10_turn g p1 (nI o) (nI w) = some (r, g') ∧ f_X11_turns md p1 (lN w) = some (r, md') ∧ Sim (n + 1) g' md' := by
  have h := hS
  obtain ⟨A, a, P, I, hSm⟩ := h
  obtain ⟨h1, h2, h3, h4⟩ := hSm.1
  have h30 : aMade A ≤ 30 := h3.2.2.2.2.2.2.1
  have h5 : nS A ≤ 5 := h3.1
  have hsv := isServer_m h2 h3 p1
  rcases has_cases (nS A) (by omega) p1 with ⟨s, hs, rfl, hb⟩ | hb
  · rw [hb] at hsv
    have hF := af_of hSm.1 hs
    have hup := hasUp_c h1.2.1 h3 hs
    have hub := (h3.2.2.2.2.2.2.2.1 s (by omega)).1
    have hum := (h2.2.1 s (by omega)).1
    by_cases eu : aUp A s = o
    · obtain ⟨ac, past', hk, hno, hcl⟩ := act hSm hF
      obtain ⟨y, hy, hyb, hRy⟩ := turn_c h1.2.1 h3 hs (show w ≤ 1 by omega)
      have hR : RC (setUp A s w) (hSV g.2.2.2.1 y) := h1.up hRy
      have hM := h2.up h30 (show s < 5 by omega) w
      have hAI := h3.up hs (show w ≤ 1 by omega)
      have hm := ups_m5 hM hAI
      have ho : bI (f_X8_hasUp g.2.2.2.1.2.2.2.2.2.1 (nI s)) = nI o := by
        rw [hup]
        unfold aUpB
        rw [eu]
        rcases how with ⟨e, _⟩ | ⟨e, _⟩ <;> rw [e] <;> rfl
      refine ⟨nI (cN (aUpB (setUp A s w)) 5), (g.1, g.2.1, ac, hSV g.2.2.2.1 y, g.2.2.2.2.1, g.2.2.2.2.2), (vp_updL md.1 (7 + 3 * s) (lN w), md.2.1, past', nI (min (a + 1) 6), md.2.2.2.2), ?_, ?_, hcl _ _ _ _ _ _ hR hM (hAI.mono (by omega)) (hF.num (fun _ _ => rfl))⟩
      · simp (disch := omega) only [u_X10_turn, has_sv h1.2.1, hb, ho, hk, hy, u_X8_manyUp, hyb, bits_n, ↓reduceIte, bt_do, bd_do, jn_eq, bI_z, gd_nI, gd_0, gd_1, nI_clamp, nI_add, nI_1, pk_mul, Nat.add_zero, Nat.zero_add, ile_t, ile_f, ilt_t, ilt_f, ieq_t, ieq_f, iz_t, iz_f, ilt0, ige0, im1, Bool.false_eq_true, Bool.true_eq_false, if_true, if_false] <;> rfl
      · simp (disch := omega) only [u_X11_turns, hsv, hum, hno, hm, ones_n, ↓reduceIte, bt_do, bd_do, jn_eq, bI_z, gd_nI, gd_0, gd_1, nI_clamp, nI_add, nI_1, pk_mul, Nat.add_zero, Nat.zero_add, ile_t, ile_f, ilt_t, ilt_f, ieq_t, ieq_f, iz_t, iz_f, ilt0, ige0, im1, Bool.false_eq_true, Bool.true_eq_false, if_true, if_false, lc_ge_t, lc_ge_f, lc_eq_t, lc_eq_f, lc_le_t, lc_le_f, lc_gt_t, lc_gt_f, lc_lt_t, lc_lt_f, nI_l, lN_i, lN_add, lN_1] <;> rfl
    · have ho : (bI (f_X8_hasUp g.2.2.2.1.2.2.2.2.2.1 (nI s)) = nI o) = False := by
        rw [hup]
        unfold aUpB
        rcases how with ⟨e, _⟩ | ⟨e, _⟩ <;> subst e
        · rw [show aUp A s = 1 by omega]; exact eq_false (by decide)
        · rw [show aUp A s = 0 by omega]; exact eq_false (by decide)
      exact same hS (-1000002) (by simp (disch := omega) only [u_X10_turn, has_sv h1.2.1, hb, ho, ↓reduceIte, bt_do, bd_do, jn_eq, bI_z, gd_nI, gd_0, gd_1, nI_clamp, nI_add, nI_1, pk_mul, Nat.add_zero, Nat.zero_add, ile_t, ile_f, ilt_t, ilt_f, ieq_t, ieq_f, iz_t, iz_f, ilt0, ige0, im1, Bool.false_eq_true, Bool.true_eq_false, if_true, if_false]) (by simp (disch := omega) only [u_X11_turns, hsv, hum, ↓reduceIte, bt_do, bd_do, jn_eq, bI_z, gd_nI, gd_0, gd_1, nI_clamp, nI_add, nI_1, pk_mul, Nat.add_zero, Nat.zero_add, ile_t, ile_f, ilt_t, ilt_f, ieq_t, ieq_f, iz_t, iz_f, ilt0, ige0, im1, Bool.false_eq_true, Bool.true_eq_false, if_true, if_false, lc_ge_t, lc_ge_f, lc_eq_t, lc_eq_f, lc_le_t, lc_le_f, lc_gt_t, lc_gt_f, lc_lt_t, lc_lt_f, nI_l, lN_i, lN_add, lN_1])
  · rw [hb] at hsv
    exact same hS (-1000001) (by simp (disch := omega) only [u_X10_turn, has_sv h1.2.1, hb, ↓reduceIte, bt_do, bd_do, jn_eq, bI_z, gd_nI, gd_0, gd_1, nI_clamp, nI_add, nI_1, pk_mul, Nat.add_zero, Nat.zero_add, ile_t, ile_f, ilt_t, ilt_f, ieq_t, ieq_f, iz_t, iz_f, ilt0, ige0, im1, Bool.false_eq_true, Bool.true_eq_false, if_true, if_false]) (by simp (disch := omega) only [u_X11_turns, hsv, ↓reduceIte, bt_do, bd_do, jn_eq, bI_z, gd_nI, gd_0, gd_1, nI_clamp, nI_add, nI_1, pk_mul, Nat.add_zero, Nat.zero_add, ile_t, ile_f, ilt_t, ilt_f, ieq_t, ieq_f, iz_t, iz_f, ilt0, ige0, im1, Bool.false_eq_true, Bool.true_eq_false, if_true, if_false])
theorem ok_down : Ok_down Sim := by
  intro n g md p1 hn hS
  obtain ⟨r, g', md', q1, q2, q3⟩ := turn_ok p1 (Or.inr ⟨rfl, rfl⟩) hn hS
  exact ⟨r, g', md', by rw [u_X10_down, q1]; rfl, by rw [u_X11_down, q2]; rfl, q3⟩
theorem ok_up : Ok_up Sim := by
  intro n g md p1 hn hS
  obtain ⟨r, g', md', q1, q2, q3⟩ := turn_ok p1 (Or.inl ⟨rfl, rfl⟩) hn hS
  exact ⟨r, g', md', by rw [u_X10_up, q1]; rfl, by rw [u_X11_up, q2]; rfl, q3⟩
theorem ok_spoil : Ok_spoil Sim := by
  intro n g md p1 p2 hn hS
  have h := hS
  obtain ⟨A, a, P, I, hSm⟩ := h
  obtain ⟨h1, h2, h3, h4⟩ := hSm.1
  have h30 : aMade A ≤ 30 := h3.2.2.2.2.2.2.1
  have h5 : nS A ≤ 5 := h3.1
  have hsv := isServer_m h2 h3 p1
  rcases has_cases (nS A) (by omega) p1 with ⟨s, hs, rfl, hb⟩ | hb
  · rw [hb] at hsv
    have hF := af_of hSm.1 hs
    have hsp := (h1.2.1.2 s (by omega)).2.1
    have hsm := (h2.2.1 s (by omega)).2.2
    have hb9 := (h3.2.2.2.2.2.2.2.1 s (by omega)).2
    rcases wi_cases p2 0 9 (by omega) (by omega) with ⟨x, _, x9, rfl, w1, w2⟩ | ⟨w1, w2⟩
    · obtain ⟨ac, past', hk, hno, hcl⟩ := act hSm hF
      have hR : RC (setSpo A s x) (hSV g.2.2.2.1 (g.2.2.2.1.2.2.2.2.2.1.1, g.2.2.2.1.2.2.2.2.2.1.2.1, g.2.2.2.1.2.2.2.2.2.1.2.2.1, upd g.2.2.2.1.2.2.2.2.2.1.2.2.2 s (nI x))) := by
        refine h1.spo ⟨h1.2.1.1, fun s' hs' => ⟨(h1.2.1.2 s' hs').1, ?_, (h1.2.1.2 s' hs').2.2⟩⟩
        show upd _ s _ s' = nI (upO (aSpo A) s _ s')
        by_cases e : s' = s
        · rw [e, pk_us, up_s]
        · rw [pk_un e, up_n e]; exact (h1.2.1.2 s' hs').2.1
      have hM := h2.spo h30 (show s < 5 by omega) x
      have hAI := h3.spo (s := s) x9
      refine ⟨nI (aSpo A s), (g.1, g.2.1, ac, hSV g.2.2.2.1 (g.2.2.2.1.2.2.2.2.2.1.1, g.2.2.2.1.2.2.2.2.2.1.2.1, g.2.2.2.1.2.2.2.2.2.1.2.2.1, upd g.2.2.2.1.2.2.2.2.2.1.2.2.2 s (nI x)), g.2.2.2.2.1, g.2.2.2.2.2), (vp_updL md.1 (7 + 3 * s + 2) (lN x), md.2.1, past', nI (min (a + 1) 6), md.2.2.2.2), ?_, ?_, hcl _ _ _ _ _ _ hR hM (hAI.mono (by omega)) (hF.num (fun _ _ => rfl))⟩
      · simp (disch := omega) only [u_X10_spoil, has_sv h1.2.1, hb, ↓w1, hsp, hk, ↓reduceIte, bt_do, bd_do, jn_eq, bI_z, gd_nI, gd_0, gd_1, nI_clamp, nI_add, nI_1, pk_mul, Nat.add_zero, Nat.zero_add, ile_t, ile_f, ilt_t, ilt_f, ieq_t, ieq_f, iz_t, iz_f, ilt0, ige0, im1, Bool.false_eq_true, Bool.true_eq_false, if_true, if_false] <;> rfl
      · simp (disch := omega) only [u_X11_spoil, hsv, ↓w2, hsm, hno, ↓reduceIte, bt_do, bd_do, jn_eq, bI_z, gd_nI, gd_0, gd_1, nI_clamp, nI_add, nI_1, pk_mul, Nat.add_zero, Nat.zero_add, ile_t, ile_f, ilt_t, ilt_f, ieq_t, ieq_f, iz_t, iz_f, ilt0, ige0, im1, Bool.false_eq_true, Bool.true_eq_false, if_true, if_false, lc_ge_t, lc_ge_f, lc_eq_t, lc_eq_f, lc_le_t, lc_le_f, lc_gt_t, lc_gt_f, lc_lt_t, lc_lt_f, nI_l, lN_i, lN_add, lN_1] <;> rfl
    · exact same hS (-1000001) (by simp (disch := omega) only [u_X10_spoil, has_sv h1.2.1, hb, ↓w1, ↓reduceIte, bt_do, bd_do, jn_eq, bI_z, gd_nI, gd_0, gd_1, nI_clamp, nI_add, nI_1, pk_mul, Nat.add_zero, Nat.zero_add, ile_t, ile_f, ilt_t, ilt_f, ieq_t, ieq_f, iz_t, iz_f, ilt0, ige0, im1, Bool.false_eq_true, Bool.true_eq_false, if_true, if_false]) (by simp (disch := omega) only [u_X11_spoil, hsv, ↓w2, ↓reduceIte, bt_do, bd_do, jn_eq, bI_z, gd_nI, gd_0, gd_1, nI_clamp, nI_add, nI_1, pk_mul, Nat.add_zero, Nat.zero_add, ile_t, ile_f, ilt_t, ilt_f, ieq_t, ieq_f, iz_t, iz_f, ilt0, ige0, im1, Bool.false_eq_true, Bool.true_eq_false, if_true, if_false])
  · rw [hb] at hsv
    exact same hS (-1000001) (by simp (disch := omega) only [u_X10_spoil, has_sv h1.2.1, hb, ↓reduceIte, bt_do, bd_do, jn_eq, bI_z, gd_nI, gd_0, gd_1, nI_clamp, nI_add, nI_1, pk_mul, Nat.add_zero, Nat.zero_add, ile_t, ile_f, ilt_t, ilt_f, ieq_t, ieq_f, iz_t, iz_f, ilt0, ige0, im1, Bool.false_eq_true, Bool.true_eq_false, if_true, if_false]) (by simp (disch := omega) only [u_X11_spoil, hsv, ↓reduceIte, bt_do, bd_do, jn_eq, bI_z, gd_nI, gd_0, gd_1, nI_clamp, nI_add, nI_1, pk_mul, Nat.add_zero, Nat.zero_add, ile_t, ile_f, ilt_t, ilt_f, ieq_t, ieq_f, iz_t, iz_f, ilt0, ige0, im1, Bool.false_eq_true, Bool.true_eq_false, if_true, if_false])
theorem ok_beat : Ok_beat Sim := by
  intro n g md p1 hn hS
  have h := hS
  obtain ⟨A, a, P, I, hSm⟩ := h
  obtain ⟨h1, h2, h3, h4⟩ := hSm.1
  have h5 : nS A ≤ 5 := h3.1
  have h7 : 7 * n ≤ 8000 := by omega
  have hsv := isServer_m h2 h3 p1
  rcases has_cases (nS A) (by omega) p1 with ⟨s, hs, rfl, hb⟩ | hb
  · rw [hb] at hsv
    have hF := af_of hSm.1 hs
    have hup := hasUp_c h1.2.1 h3 hs
    have hub := (h3.2.2.2.2.2.2.2.1 s (by omega)).1
    have hum := isUp_m h2 (s := s) (by omega) hub
    by_cases eu : aUp A s = 1
    · have eb : (aUp A s == 1) = true := by rw [eu]; rfl
      rw [eb] at hum
      obtain ⟨ac, past', hk, hno, hcl⟩ := act hSm hF
      obtain ⟨v', hv, hR⟩ := throw_c h1 h3 h7 (show s < 5 by omega)
      obtain ⟨b', hb', hM⟩ := beat_loop_m h2 h3 h7 (show s < 5 by omega) (md.2.1, past', nI (min (a + 1) 6), md.2.2.2.2)
      have hin := btN_inv h3 s (aMade A)
      refine ⟨nI (btN A s (aMade A)).1, (g.1, g.2.1, ac, v', g.2.2.2.2.1, g.2.2.2.2.2), (b', md.2.1, past', nI (min (a + 1) 6), md.2.2.2.2), ?_, ?_, hcl _ _ _ _ _ _ hR hM (hin.1.mono (by omega)) (hF.num (fun j _ => by rw [hin.2.1.1]))⟩
      · simp (disch := omega) only [u_X10_beat, has_sv h1.2.1, hb, hup, aUpB_1 eu, hk, hv, ↓reduceIte, bt_do, bd_do, jn_eq, bI_z, gd_nI, gd_0, gd_1, nI_clamp, nI_add, nI_1, pk_mul, Nat.add_zero, Nat.zero_add, ile_t, ile_f, ilt_t, ilt_f, ieq_t, ieq_f, iz_t, iz_f, ilt0, ige0, im1, Bool.false_eq_true, Bool.true_eq_false, if_true, if_false]
      · refine Eq.trans ?_ hb'
        simp (disch := omega) only [u_X11_beat, hsv, hum, hno, ↓reduceIte, bt_do, bd_do, jn_eq, bI_z, gd_nI, gd_0, gd_1, nI_clamp, nI_add, nI_1, pk_mul, Nat.add_zero, Nat.zero_add, ile_t, ile_f, ilt_t, ilt_f, ieq_t, ieq_f, iz_t, iz_f, ilt0, ige0, im1, Bool.false_eq_true, Bool.true_eq_false, if_true, if_false]
    · have eb : (aUp A s == 1) = false := by
        have : aUp A s = 0 := by omega
        rw [this]; rfl
      rw [eb] at hum
      exact same hS (-1000002) (by simp (disch := omega) only [u_X10_beat, has_sv h1.2.1, hb, hup, aUpB_0 (show aUp A s = 0 by omega), ↓reduceIte, bt_do, bd_do, jn_eq, bI_z, gd_nI, gd_0, gd_1, nI_clamp, nI_add, nI_1, pk_mul, Nat.add_zero, Nat.zero_add, ile_t, ile_f, ilt_t, ilt_f, ieq_t, ieq_f, iz_t, iz_f, ilt0, ige0, im1, Bool.false_eq_true, Bool.true_eq_false, if_true, if_false]) (by simp (disch := omega) only [u_X11_beat, hsv, hum, ↓reduceIte, bt_do, bd_do, jn_eq, bI_z, gd_nI, gd_0, gd_1, nI_clamp, nI_add, nI_1, pk_mul, Nat.add_zero, Nat.zero_add, ile_t, ile_f, ilt_t, ilt_f, ieq_t, ieq_f, iz_t, iz_f, ilt0, ige0, im1, Bool.false_eq_true, Bool.true_eq_false, if_true, if_false])
  · rw [hb] at hsv
    exact same hS (-1000001) (by simp (disch := omega) only [u_X10_beat, has_sv h1.2.1, hb, ↓reduceIte, bt_do, bd_do, jn_eq, bI_z, gd_nI, gd_0, gd_1, nI_clamp, nI_add, nI_1, pk_mul, Nat.add_zero, Nat.zero_add, ile_t, ile_f, ilt_t, ilt_f, ieq_t, ieq_f, iz_t, iz_f, ilt0, ige0, im1, Bool.false_eq_true, Bool.true_eq_false, if_true, if_false]) (by simp (disch := omega) only [u_X11_beat, hsv, ↓reduceIte, bt_do, bd_do, jn_eq, bI_z, gd_nI, gd_0, gd_1, nI_clamp, nI_add, nI_1, pk_mul, Nat.add_zero, Nat.zero_add, ile_t, ile_f, ilt_t, ilt_f, ieq_t, ieq_f, iz_t, iz_f, ilt0, ige0, im1, Bool.false_eq_true, Bool.true_eq_false, if_true, if_false])
theorem n0 {x : Nat} (hx : x < 100) : (nI x = -1000000) = False := by
  refine eq_false (fun q => ?_)
  have h1 := ige0 (a := x) (by omega)
  rw [q] at h1
  exact absurd (of_eq_true h1) (by decide)
theorem m1t : ((-1 : Int32) = -1) = True := eq_true rfl
theorem m0t : ((-1000000 : Int32) = -1000000) = True := eq_true rfl
theorem ok_mend : Ok_mend Sim := by
  intro n g md hn hS
  have h := hS
  obtain ⟨A, a, P, I, hSm⟩ := h
  have hst := stand hSm.1
  obtain ⟨h1, h2, h3, h4⟩ := hSm.1
  have h30 : aMade A ≤ 30 := h3.2.2.2.2.2.2.1
  have h7 : 7 * n ≤ 8000 := by omega
  rcases hst with ⟨s1, s2, s3⟩ | ⟨s1, s2, s3⟩
  · exact same hS (-1000002) (by simp only [u_X10_mend, s1, ↓reduceIte, bt_do, bd_do, jn_eq, bI_z, gd_nI, gd_0, gd_1, nI_clamp, nI_add, nI_1, pk_mul, Nat.add_zero, Nat.zero_add, ile_t, ile_f, ilt_t, ilt_f, ieq_t, ieq_f, iz_t, iz_f, ilt0, ige0, im1, Bool.false_eq_true, Bool.true_eq_false, if_true, if_false]) (by simp only [u_X11_mend, s2, ↓reduceIte, bt_do, bd_do, jn_eq, bI_z, gd_nI, gd_0, gd_1, nI_clamp, nI_add, nI_1, pk_mul, Nat.add_zero, Nat.zero_add, ile_t, ile_f, ilt_t, ilt_f, ieq_t, ieq_f, iz_t, iz_f, ilt0, ige0, im1, Bool.false_eq_true, Bool.true_eq_false, if_true, if_false])
  · have hc := first_mend_c h1 h3 h7
    have hm := poor_m h2 h3 h7
    cases hp : aPoor A with
    | none =>
      rw [hp] at hc hm
      dsimp only at hc hm
      exact same hS (-1000000) (by simp only [u_X10_mend, s1, hc, m1t, ↓reduceIte, bt_do, bd_do, jn_eq, bI_z, gd_nI, gd_0, gd_1, nI_clamp, nI_add, nI_1, pk_mul, Nat.add_zero, Nat.zero_add, ile_t, ile_f, ilt_t, ilt_f, ieq_t, ieq_f, iz_t, iz_f, ilt0, ige0, im1, Bool.false_eq_true, Bool.true_eq_false, if_true, if_false]) (by simp only [u_X11_mend, s2, hm, m0t, ↓reduceIte, bt_do, bd_do, jn_eq, bI_z, gd_nI, gd_0, gd_1, nI_clamp, nI_add, nI_1, pk_mul, Nat.add_zero, Nat.zero_add, ile_t, ile_f, ilt_t, ilt_f, ieq_t, ieq_f, iz_t, iz_f, ilt0, ige0, im1, Bool.false_eq_true, Bool.true_eq_false, if_true, if_false])
    | some c =>
      rw [hp] at hc hm
      dsimp only at hc hm
      have hu := poor_use h3 hp
      obtain ⟨ac, past', hk, hno, hcl⟩ := act hSm s3
      obtain ⟨v', hv, hR⟩ := addCopy_c h1 h3 h7 hp
      obtain ⟨b', hb', hM⟩ := gives_m h2 h3 h7 hp
      refine ⟨nI c, (g.1, g.2.1, ac, v', g.2.2.2.2.1, g.2.2.2.2.2), (b', md.2.1, past', nI (min (a + 1) 6), md.2.2.2.2), ?_, ?_, hcl _ _ _ _ _ _ hR hM ((h3.mend hp).mono (by omega)) (s3.num (fun _ _ => rfl))⟩
      · simp (disch := omega) only [u_X10_mend, s1, hc, hk, hv, ↓reduceIte, bt_do, bd_do, jn_eq, bI_z, gd_nI, gd_0, gd_1, nI_clamp, nI_add, nI_1, pk_mul, Nat.add_zero, Nat.zero_add, ile_t, ile_f, ilt_t, ilt_f, ieq_t, ieq_f, iz_t, iz_f, ilt0, ige0, im1, Bool.false_eq_true, Bool.true_eq_false, if_true, if_false]
      · simp (disch := omega) only [u_X11_mend, s2, hm, n0, hno, hb', ↓reduceIte, bt_do, bd_do, jn_eq, bI_z, gd_nI, gd_0, gd_1, nI_clamp, nI_add, nI_1, pk_mul, Nat.add_zero, Nat.zero_add, ile_t, ile_f, ilt_t, ilt_f, ieq_t, ieq_f, iz_t, iz_f, ilt0, ige0, im1, Bool.false_eq_true, Bool.true_eq_false, if_true, if_false]
theorem put_num (A : AH) (f j l : Nat) {n : Nat} (hA : AI n A) (hf : f < 6) (h1s : 1 ≤ aSize A) (hk : j / aSize A < aMany A f) (hl : 1 ≤ l ∧ l ≤ 26) : ∀ i, ¬ i = 6 → (spPut A f j l).2.1 i = A.1 i := by
  intro i hi
  have hA1 := hA.ownR (f := f) (k := j / aSize A) hf hk
  obtain ⟨f1, f2⟩ := ownR_files A f (j / aSize A)
  have h31 : (spOwnR A f (j / aSize A)).2.1 i = A.1 i := by
    unfold spOwnR
    split
    · rfl
    · split
      · rfl
      · split
        · exact up_n (D := A.1) (k := 6) (j := i) (o := aMade A + 1) hi
        · rfl
  unfold spPut
  split
  · refine Eq.trans ?_ h31
    have hc := (hA1.2.2.2.2.2.2.2.2.2.2.1 f hf).2.2.2.2.2 (j / aSize A) (by rw [f1]; exact hk)
    unfold spPut1
    split
    · rename_i e
      have hat : j % aSize A < aSize (spOwnR A f (j / aSize A)).2 := by
        rw [f2]
        exact Nat.mod_lt _ (by omega)
      have q := (ptN_inv (hA1.lease hc e) (c := aCh (spOwnR A f (j / aSize A)).2 f (j / aSize A)) (at' := j % aSize A) (l := l) hat hl 5 (Nat.le_refl _)).1.2.1.1
      exact (congrFun q i).trans rfl
    · rfl
  · exact h31
theorem ok_put : Ok_put Sim := by
  intro n g md p1 p2 p3 hn hS
  have h := hS
  obtain ⟨A, a, P, I, hSm⟩ := h
  have hst := stand hSm.1
  obtain ⟨h1, h2, h3, h4⟩ := hSm.1
  have h30 : aMade A ≤ 30 := h3.2.2.2.2.2.2.1
  rcases hst with ⟨s1, s2, s3⟩ | ⟨s1, s2, s3⟩
  · exact same hS (-1000002) (by simp only [u_X10_put, s1, ↓reduceIte, bt_do, bd_do, jn_eq, bI_z, gd_nI, gd_0, gd_1, nI_clamp, nI_add, nI_1, pk_mul, Nat.add_zero, Nat.zero_add, ile_t, ile_f, ilt_t, ilt_f, ieq_t, ieq_f, iz_t, iz_f, ilt0, ige0, im1, Bool.false_eq_true, Bool.true_eq_false, if_true, if_false]) (by simp only [u_X11_put, s2, ↓reduceIte, bt_do, bd_do, jn_eq, bI_z, gd_nI, gd_0, gd_1, nI_clamp, nI_add, nI_1, pk_mul, Nat.add_zero, Nat.zero_add, ile_t, ile_f, ilt_t, ilt_f, ieq_t, ieq_f, iz_t, iz_f, ilt0, ige0, im1, Bool.false_eq_true, Bool.true_eq_false, if_true, if_false])
  · rcases file_cases p1 with ⟨f, hf, rfl⟩ | ⟨q1, q2⟩
    · have hfl := h3.2.2.2.2.2.2.2.2.2.2.1 f hf
      have is1 := is_c h1 (w := 1) hf hfl.1 (by omega)
      have it1 := isThere_m h2 h3 hf
      have c1 := h1.2.2.2.2 f hf
      have m1 := h2.2.2.1 f hf
      by_cases e : aIs A f = 1
      · rw [decide_eq_true e] at is1 it1
        have kb := hfl.2.2.2.1 (by omega)
        have ck := c1.2.1 (by omega)
        have mk := m1.2.1 (by omega)
        have hio := isOne_d (aKind A f) (by omega) 2 (by omega)
        have hio : f_X6_isOne (nI (aKind A f)) (nI 2) = some (aKind A f == 2) := by
          rw [hio]
          rcases (by omega : aKind A f = 1 ∨ aKind A f = 2 ∨ aKind A f = 3 ∨ aKind A f = 4 ∨ aKind A f = 5) with q | q | q | q | q <;> rw [q] <;> rfl
        by_cases e2 : aKind A f = 2
        · have eb : (aKind A f == 2) = true := by rw [e2]; rfl
          rw [eb] at hio
          exact same hS (-1000002) (by simp (disch := omega) only [u_X10_put, s1, isFile_n hf, is1, ck, hio, ↓reduceIte, bt_do, bd_do, jn_eq, bI_z, gd_nI, gd_0, gd_1, nI_clamp, nI_add, nI_1, pk_mul, Nat.add_zero, Nat.zero_add, ile_t, ile_f, ilt_t, ilt_f, ieq_t, ieq_f, iz_t, iz_f, ilt0, ige0, im1, Bool.false_eq_true, Bool.true_eq_false, if_true, if_false]) (by simp (disch := omega) only [u_X11_put, s2, isF_m hf, it1, mk, ↓reduceIte, bt_do, bd_do, jn_eq, bI_z, gd_nI, gd_0, gd_1, nI_clamp, nI_add, nI_1, pk_mul, Nat.add_zero, Nat.zero_add, ile_t, ile_f, ilt_t, ilt_f, ieq_t, ieq_f, iz_t, iz_f, ilt0, ige0, im1, Bool.false_eq_true, Bool.true_eq_false, if_true, if_false, lc_ge_t, lc_ge_f, lc_eq_t, lc_eq_f, lc_le_t, lc_le_f, lc_gt_t, lc_gt_f, lc_lt_t, lc_lt_f, nI_l, lN_i, lN_add, lN_1])
        · have eb : (aKind A f == 2) = false := beq_eq_false_iff_ne.mpr e2
          rw [eb] at hio
          rcases cell_cases h1 h2 h3 hf p2 s3.2.2.1 with ⟨j, hj, hjk, rfl, w1, w2⟩ | ⟨w1, w2⟩
          · rcases wi_cases p3 97 122 (by omega) (by omega) with ⟨x, x1, x2, rfl, w3, w4⟩ | ⟨w3, w4⟩
            · obtain ⟨ac, past', hk, hno, hcl⟩ := act hSm s3
              obtain ⟨l, rfl⟩ : ∃ l, x = 96 + l := ⟨x - 96, by omega⟩
              have hl : 1 ≤ l ∧ l ≤ 26 := by omega
              have h1s : 1 ≤ aSize A := by have := s3.2.2.1; omega
              have hp3 : nI (96 + l) = cv l := (cv_L hl).symm
              have hq3 : nI (96 + l) - nI 96 = nI l := by rw [pk_sub (by omega), Nat.add_sub_cancel_left]
              obtain ⟨v', hv, hR⟩ := tellCell_c h1 h3 (by omega) hf h1s hj hjk hl hp3
              obtain ⟨b', hb', hM⟩ := puts_m h2 h3 (by omega) hf h1s hj hjk hl hq3
              have hin := spPut_inv h3 hf h1s hjk hl
              refine ⟨(spPut A f j l).1, (g.1, g.2.1, ac, v', g.2.2.2.2.1, g.2.2.2.2.2), (b', md.2.1, past', nI (min (a + 1) 6), md.2.2.2.2), ?_, ?_, hcl _ _ _ _ _ _ hR hM (hin.mono (by omega)) (s3.num (put_num A f j l h3 hf h1s hjk hl))⟩
              · simp (disch := omega) only [u_X10_put, s1, isFile_n hf, is1, ck, hio, w1, u_X10_isLetter, ↓w3, hk, hv, ↓reduceIte, bt_do, bd_do, jn_eq, bI_z, gd_nI, gd_0, gd_1, nI_clamp, nI_add, nI_1, pk_mul, Nat.add_zero, Nat.zero_add, ile_t, ile_f, ilt_t, ilt_f, ieq_t, ieq_f, iz_t, iz_f, ilt0, ige0, im1, Bool.false_eq_true, Bool.true_eq_false, if_true, if_false]
              · simp (disch := omega) only [u_X11_put, s2, isF_m hf, it1, mk, w2, ↓w4, hno, hb', ↓reduceIte, bt_do, bd_do, jn_eq, bI_z, gd_nI, gd_0, gd_1, nI_clamp, nI_add, nI_1, pk_mul, Nat.add_zero, Nat.zero_add, ile_t, ile_f, ilt_t, ilt_f, ieq_t, ieq_f, iz_t, iz_f, ilt0, ige0, im1, Bool.false_eq_true, Bool.true_eq_false, if_true, if_false, lc_ge_t, lc_ge_f, lc_eq_t, lc_eq_f, lc_le_t, lc_le_f, lc_gt_t, lc_gt_f, lc_lt_t, lc_lt_f, nI_l, lN_i, lN_add, lN_1]
            · exact same hS (-1000001) (by simp (disch := omega) only [u_X10_put, s1, isFile_n hf, is1, ck, hio, w1, u_X10_isLetter, ↓w3, ↓reduceIte, bt_do, bd_do, jn_eq, bI_z, gd_nI, gd_0, gd_1, nI_clamp, nI_add, nI_1, pk_mul, Nat.add_zero, Nat.zero_add, ile_t, ile_f, ilt_t, ilt_f, ieq_t, ieq_f, iz_t, iz_f, ilt0, ige0, im1, Bool.false_eq_true, Bool.true_eq_false, if_true, if_false]) (by simp (disch := omega) only [u_X11_put, s2, isF_m hf, it1, mk, w2, ↓w4, ↓reduceIte, bt_do, bd_do, jn_eq, bI_z, gd_nI, gd_0, gd_1, nI_clamp, nI_add, nI_1, pk_mul, Nat.add_zero, Nat.zero_add, ile_t, ile_f, ilt_t, ilt_f, ieq_t, ieq_f, iz_t, iz_f, ilt0, ige0, im1, Bool.false_eq_true, Bool.true_eq_false, if_true, if_false, lc_ge_t, lc_ge_f, lc_eq_t, lc_eq_f, lc_le_t, lc_le_f, lc_gt_t, lc_gt_f, lc_lt_t, lc_lt_f, nI_l, lN_i, lN_add, lN_1])
          · exact same hS (-1000001) (by simp (disch := omega) only [u_X10_put, s1, isFile_n hf, is1, ck, hio, w1, ↓reduceIte, bt_do, bd_do, jn_eq, bI_z, gd_nI, gd_0, gd_1, nI_clamp, nI_add, nI_1, pk_mul, Nat.add_zero, Nat.zero_add, ile_t, ile_f, ilt_t, ilt_f, ieq_t, ieq_f, iz_t, iz_f, ilt0, ige0, im1, Bool.false_eq_true, Bool.true_eq_false, if_true, if_false]) (by simp (disch := omega) only [u_X11_put, s2, isF_m hf, it1, mk, w2, ↓reduceIte, bt_do, bd_do, jn_eq, bI_z, gd_nI, gd_0, gd_1, nI_clamp, nI_add, nI_1, pk_mul, Nat.add_zero, Nat.zero_add, ile_t, ile_f, ilt_t, ilt_f, ieq_t, ieq_f, iz_t, iz_f, ilt0, ige0, im1, Bool.false_eq_true, Bool.true_eq_false, if_true, if_false, lc_ge_t, lc_ge_f, lc_eq_t, lc_eq_f, lc_le_t, lc_le_f, lc_gt_t, lc_gt_f, lc_lt_t, lc_lt_f, nI_l, lN_i, lN_add, lN_1])
      · rw [decide_eq_false e] at is1 it1
        exact same hS (-1000002) (by simp (disch := omega) only [u_X10_put, s1, isFile_n hf, is1, ↓reduceIte, bt_do, bd_do, jn_eq, bI_z, gd_nI, gd_0, gd_1, nI_clamp, nI_add, nI_1, pk_mul, Nat.add_zero, Nat.zero_add, ile_t, ile_f, ilt_t, ilt_f, ieq_t, ieq_f, iz_t, iz_f, ilt0, ige0, im1, Bool.false_eq_true, Bool.true_eq_false, if_true, if_false]) (by simp (disch := omega) only [u_X11_put, s2, isF_m hf, it1, ↓reduceIte, bt_do, bd_do, jn_eq, bI_z, gd_nI, gd_0, gd_1, nI_clamp, nI_add, nI_1, pk_mul, Nat.add_zero, Nat.zero_add, ile_t, ile_f, ilt_t, ilt_f, ieq_t, ieq_f, iz_t, iz_f, ilt0, ige0, im1, Bool.false_eq_true, Bool.true_eq_false, if_true, if_false])
    · exact same hS (-1000001) (by simp only [u_X10_put, s1, q1, ↓reduceIte, bt_do, bd_do, jn_eq, bI_z, gd_nI, gd_0, gd_1, nI_clamp, nI_add, nI_1, pk_mul, Nat.add_zero, Nat.zero_add, ile_t, ile_f, ilt_t, ilt_f, ieq_t, ieq_f, iz_t, iz_f, ilt0, ige0, im1, Bool.false_eq_true, Bool.true_eq_false, if_true, if_false]) (by simp only [u_X11_put, s2, q2, ↓reduceIte, bt_do, bd_do, jn_eq, bI_z, gd_nI, gd_0, gd_1, nI_clamp, nI_add, nI_1, pk_mul, Nat.add_zero, Nat.zero_add, ile_t, ile_f, ilt_t, ilt_f, ieq_t, ieq_f, iz_t, iz_f, ilt0, ige0, im1, Bool.false_eq_true, Bool.true_eq_false, if_true, if_false])
