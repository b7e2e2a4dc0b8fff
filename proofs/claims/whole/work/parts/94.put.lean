/-! PURE 94: a letter put -/
theorem gdZ_nI {α : Type} {s : Nat} {K : Option α} (h : 0 < s) (hs : s < 2 ^ 31) : gdZ (nI s) K = K := gdZ_do (nI_ne0 h hs)
/-- a copy told anew, or spoilt -/
def ptC (sp : Bool) (at' l : Nat) (q : CPY) : CPY := if sp = true then (0, q.2) else (q.1, max q.2.1 (at' + 1), upO q.2.2 at' l)
def ptS (A : AH) (c at' l s : Nat) (st : Nat × AH) : Nat × AH := if aAble A c s = true then (st.1 + (if 1 ≤ aSpo st.2 s then 0 else 1), setCp (spFail st.2 s) c s ((aCp st.2 c s).map (ptC (decide (1 ≤ aSpo st.2 s)) at' l))) else st
def ptN (A : AH) (c at' l : Nat) : Nat → Nat × AH
  | 0 => (0, A)
  | s + 1 => ptS A c at' l s (ptN A c at' l s)
def ptI (n : Nat) (A B : AH) (c i : Nat) : Prop := AI n B ∧ SF A B ∧ ∀ s, i ≤ s → aCp B c s = aCp A c s
theorem ptN_inv {n : Nat} {A : AH} (hA : AI n A) {c at' l : Nat} (hat : at' < aSize A) (hl : 1 ≤ l ∧ l ≤ 26) : ∀ s, s ≤ 5 → ptI n A (ptN A c at' l s).2 c s ∧ (ptN A c at' l s).1 ≤ s := by
  intro s
  induction s with
  | zero => intro _; exact ⟨⟨hA, SF.rf A, fun _ _ => rfl⟩, Nat.le_refl _⟩
  | succ s ih =>
    intro hs
    obtain ⟨⟨h1, h2, h3⟩, h4⟩ := ih (by omega)
    rw [ptN]
    generalize ptN A c at' l s = st at *
    unfold ptS
    by_cases ha : aAble A c s = true
    · rw [if_pos ha]
      refine ⟨⟨?_, (h2.tr (SF.spo _ _ _)).tr (SF.cp _ _ _ _), fun s' hs' => ?_⟩, ?_⟩
      · have hf := h1.fail (s := s) (by omega)
        obtain ⟨q, hq, _⟩ := able_cp ha
        have hq' : aCp st.2 c s = some q := by rw [h3 s (Nat.le_refl _)]; exact hq
        have hok := h1.2.2.2.2.2.2.2.2.2.2.2.2.2 c s q hq'
        show AI n (setCp (spFail st.2 s) c s ((aCp st.2 c s).map (ptC (decide (1 ≤ aSpo st.2 s)) at' l)))
        rw [hq']
        refine hf.cpS hok.1 hok.2.1 ?_
        unfold ptC
        split
        · exact ⟨Nat.zero_le _, hok.2.2.2⟩
        · refine ⟨hok.2.2.1, ?_, fun i => ?_, fun i hi => ?_⟩
          · have := hok.2.2.2.1
            have e : aSize st.2 = aSize A := h2.size
            show max q.2.1 (at' + 1) ≤ aSize st.2
            rw [e] at this ⊢
            omega
          · show upO q.2.2 at' l i ≤ 27
            by_cases e : i = at'
            · rw [e, up_s]; omega
            · rw [up_n e]; exact hok.2.2.2.2.1 i
          · show upO q.2.2 at' l i = 0
            have e : aSize st.2 = aSize A := h2.size
            have hi : aSize st.2 ≤ i := hi
            rw [e] at hi
            rw [up_n (by omega)]
            exact hok.2.2.2.2.2 i (by rw [e]; exact hi)
      · rw [cp_n (by omega)]
        exact h3 s' (by omega)
      · show st.1 + _ ≤ s + 1
        split <;> omega
    · rw [if_neg ha]
      exact ⟨⟨h1, h2, fun s' hs' => h3 s' (by omega)⟩, by omega⟩
theorem ptN_ext {n : Nat} {A : AH} (hA : AI n A) {c at' l : Nat} (d : Nat) : ptN A c at' l (nS A + d) = ptN A c at' l (nS A) := by
  induction d with
  | zero => rfl
  | succ d ih =>
    show ptS A c at' l (nS A + d) (ptN A c at' l (nS A + d)) = _
    rw [ih]
    unfold ptS
    rw [able_out hA c (nS A + d) (by omega), if_neg (by decide)]
def lostN (st : Nat × AH) : Int32 × AH := (if st.1 = 0 then -1000004 else nI st.1, st.2)
def spPut1 (A : AH) (c at' l : Nat) : Int32 × AH := if any5 (aAble A c) = true then lostN (ptN (spLease A c) c at' l 5) else (-1000004, A)
def spPut (A : AH) (f j l : Nat) : Int32 × AH := if (spOwnR A f (j / aSize A)).1 = 0 then spPut1 (spOwnR A f (j / aSize A)).2 (aCh (spOwnR A f (j / aSize A)).2 f (j / aSize A)) (j % aSize A) l else spOwnR A f (j / aSize A)
theorem lostN_e {w : HS} {st : Nat × AH} (h : st.1 < 100) : (if nI st.1 = 0 then (some (((-1000004) : Int32), w)) else (some (nI st.1, w))) = some ((lostN st).1, w) := by
  unfold lostN
  by_cases e : st.1 = 0
  · rw [if_pos e, e]; rfl
  · rw [if_neg e, if_neg (nI_ne0 (by omega) (by omega))]
theorem lostN_m {w : Nat → Int64} {st : Nat × AH} (h : st.1 < 100) : (if nI st.1 = 0 then (some (((-1000004) : Int32), w)) else (some (nI st.1, w))) = some ((lostN st).1, w) := by
  unfold lostN
  by_cases e : st.1 = 0
  · rw [if_pos e, e]; rfl
  · rw [if_neg e, if_neg (nI_ne0 (by omega) (by omega))]
/-- the class, behind the lease -/
theorem put_loop_c {A : AH} {v : HS} {n : Nat} (h : RC A v) (hA : AI n A) {c j l : Nat} {p3 : Int32} (hc : c < aMade A) (hj : j < 100) (h1s : 1 ≤ aSize A) (hl : 1 ≤ l ∧ l ≤ 26) (hp3 : p3 = cv l) : ∃ v', lpF (bX5_tellCell_9 (nI (mN (aAble A c) 5)) (nI j) (nI c) p3 (fun q9 : Int32 × Int32 × HS => if q9.1 = 0 then (some (((-1000004) : Int32), q9.2.2)) else (some (q9.1, q9.2.2)))) FU (nI 0, nI 0, v) = some ((lostN (ptN A c (j % aSize A) l 5)).1, v') ∧ RC (lostN (ptN A c (j % aSize A) l 5)).2 v' := by
  have h30 : aMade A ≤ 30 := hA.2.2.2.2.2.2.1
  have h5 : nS A ≤ 5 := hA.1
  have h9 : aSize A ≤ 9 := hA.2.2.1
  have hat : j % aSize A < aSize A := Nat.mod_lt _ (by omega)
  have e5 : ptN A c (j % aSize A) l 5 = ptN A c (j % aSize A) l (nS A) := by
    have := ptN_ext hA (c := c) (at' := j % aSize A) (l := l) (5 - nS A)
    rw [show nS A + (5 - nS A) = 5 by omega] at this
    exact this
  rw [e5]
  refine lp_gen (fun i z => z.1 = nI (ptN A c (j % aSize A) l i).1 ∧ z.2.1 = nI i ∧ RC (ptN A c (j % aSize A) l i).2 z.2.2) (fun X => ∃ v', X = some ((lostN (ptN A c (j % aSize A) l (nS A))).1, v') ∧ RC (lostN (ptN A c (j % aSize A) l (nS A))).2 v') (nS A) (by omega) ?_ ?_ ?_
  · exact ⟨rfl, rfl, h⟩
  · intro i z hi hR
    obtain ⟨z1, z2, w⟩ := z
    obtain ⟨e1, e2, hRw⟩ := hR
    dsimp only at e1 e2 hRw
    subst e1
    subst e2
    obtain ⟨⟨hAi, hSF, hcp⟩, hcnt⟩ := ptN_inv hA (c := c) hat hl i (by omega)
    rw [ptN]
    generalize ptN A c (j % aSize A) l i = st at *
    have hw : w.2.2.2.2.2.1.1 = nI (nS A) := by rw [← hSF.nS]; exact hRw.2.1.1
    have hz : w.2.1 = nI (aSize A) := by rw [← hSF.size]; exact hRw.1.2.1
    have hin : f_X10_isIn (nI (mN (aAble A c) 5)) (nI i) = aAble A c i := isIn_n _ (by omega)
    have hce : f_X5_cellOf w (nI j) = some (nI (j % aSize A)) := by
      rw [u_X5_cellOf, hz, pk_rem (by omega) (by omega) (by omega), if_pos (nI_le (by omega) (by omega)), gdZ_nI (by omega) (by omega)]
    left
    unfold ptS
    by_cases ha : aAble A c i = true
    · rw [if_pos ha]
      obtain ⟨q, hq, _⟩ := able_cp ha
      have hq' : aCp st.2 c i = some q := by rw [hcp i (Nat.le_refl _)]; exact hq
      have hok := hAi.2.2.2.2.2.2.2.2.2.2.2.2.2 c i q hq'
      obtain ⟨y, hy, hRy⟩ := fails_c hRw.2.1 hAi (s := i) (by rw [hSF.nS]; exact hi)
      have hRs : RC (spFail st.2 i) (hSV w y) := hRw.spo hRy
      rw [hq']
      by_cases es : 1 ≤ aSpo st.2 i
      · rw [decide_eq_true es] at hy
        obtain ⟨z, hz1, hRz⟩ := setVer_c (A := spFail st.2 i) hRs.2.2.2.1 (s := i) (c := c) (by omega) (by omega) hq' 0
        refine ⟨(nI st.1, nI (i + 1), hCP (hSV w y) z), ⟨by rw [if_pos es]; rfl, rfl, ?_⟩, fun rec => ?_⟩
        · rw [decide_eq_true es]
          exact hRs.cp hRz
        · simp (disch := omega) only [ubX5_tellCell_9, hw, hin, ha, hce, u_X5_tellCellAt, hy, hz1, hCP, hSV, ↓reduceIte, bt_do, bd_do, jn_eq, bI_z, gd_nI, gd_0, gd_1, nI_clamp, nI_add, nI_1, pk_mul, Nat.add_zero, Nat.zero_add, ile_t, ile_f, ilt_t, ilt_f, ieq_t, ieq_f, iz_t, iz_f, ilt0, ige0, im1, Bool.false_eq_true, Bool.true_eq_false, if_true, if_false]
      · rw [decide_eq_false es] at hy
        have h9q := hok.2.2.2.1
        rw [hSF.size] at h9q
        obtain ⟨y2, z, hz0, hz1, hz2, hRz⟩ := tell_c (A := spFail st.2 i) hRs.2.2.2.1 (s := i) (c := c) (i := j % aSize A) (by omega) (by omega) (by omega) hp3 hq' (by omega)
        refine ⟨(nI (st.1 + 1), nI (i + 1), hCP (hSV w y) z), ⟨by rw [if_neg es], rfl, ?_⟩, fun rec => ?_⟩
        · rw [decide_eq_false es]
          exact hRs.cp hRz
        · simp only [ubX5_tellCell_9, u_X5_tellCellAt, hw, hin, ha, hce, hy, hz0, hz1, hz2, bd_do]
          simp (disch := omega) only [hCP, hSV, ↓reduceIte, bt_do, bd_do, jn_eq, bI_z, gd_nI, gd_0, gd_1, nI_clamp, nI_add, nI_1, pk_mul, Nat.add_zero, Nat.zero_add, ile_t, ile_f, ilt_t, ilt_f, ieq_t, ieq_f, iz_t, iz_f, ilt0, ige0, im1, Bool.false_eq_true, Bool.true_eq_false, if_true, if_false]
    · rw [if_neg ha]
      refine ⟨(nI st.1, nI (i + 1), w), ⟨rfl, rfl, hRw⟩, fun rec => ?_⟩
      simp (disch := omega) only [ubX5_tellCell_9, hw, hin, bF ha, ↓reduceIte, bt_do, bd_do, jn_eq, bI_z, gd_nI, gd_0, gd_1, nI_clamp, nI_add, nI_1, pk_mul, Nat.add_zero, Nat.zero_add, ile_t, ile_f, ilt_t, ilt_f, ieq_t, ieq_f, iz_t, iz_f, ilt0, ige0, im1, Bool.false_eq_true, Bool.true_eq_false, if_true, if_false]
  · intro z hR
    obtain ⟨z1, z2, w⟩ := z
    obtain ⟨e1, e2, hRw⟩ := hR
    dsimp only at e1 e2 hRw
    subst e1
    subst e2
    obtain ⟨⟨hAi, hSF, hcp⟩, hcnt⟩ := ptN_inv hA (c := c) hat hl (nS A) h5
    have hw : w.2.2.2.2.2.1.1 = nI (nS A) := by rw [← hSF.nS]; exact hRw.2.1.1
    refine ⟨_, ⟨w, rfl, hRw⟩, fun rec => ?_⟩
    rw [← lostN_e (by omega)]
    simp only [ubX5_tellCell_9, hw, ile_t (Nat.le_refl (nS A)) (show nS A < 2 ^ 31 by omega), if_true]
/-- the model, behind the lease -/
theorem put_loop_m {A : AH} {b : Nat → Int64} {n : Nat} (h : RM A b) (hA : AI n A) (hn : n ≤ 8000) {c j l : Nat} {p3 : Int32} (hc : c < aMade A) (hj : j < 100) (h1s : 1 ≤ aSize A) (hl : 1 ≤ l ∧ l ≤ 26) (hp3 : p3 - nI 96 = nI l) (rc : Int32) : ∃ b', lpF (bX11_puts_10 (nI (mN (aAble A c) 5)) (nI c) (nI j) (rc, b) p3 (fun q10 : Int32 × Int32 × (Nat → Int64) => if q10.1 = 0 then (some (((-1000004) : Int32), q10.2.2)) else (some (q10.1, q10.2.2)))) FU (nI 0, nI 0, b) = some ((lostN (ptN A c (j % aSize A) l 5)).1, b') ∧ RM (lostN (ptN A c (j % aSize A) l 5)).2 b' := by
  have h30 : aMade A ≤ 30 := hA.2.2.2.2.2.2.1
  have h5 : nS A ≤ 5 := hA.1
  have h9 : aSize A ≤ 9 := hA.2.2.1
  have hat : j % aSize A < aSize A := Nat.mod_lt _ (by omega)
  have hb2 : b 2 = lN (aSize A) := h.1 2 (by omega)
  have hrem := pk_rem (a := j) (d := aSize A) (by omega) (by omega) (by omega)
  generalize hatt : j % aSize A = at' at *
  refine lp_gen (fun i z => z.1 = nI (ptN A c at' l i).1 ∧ z.2.1 = nI i ∧ RM (ptN A c at' l i).2 z.2.2) (fun X => ∃ b', X = some ((lostN (ptN A c at' l 5)).1, b') ∧ RM (lostN (ptN A c at' l 5)).2 b') 5 (by omega) ?_ ?_ ?_
  · exact ⟨rfl, rfl, h⟩
  · intro i z hi hR
    obtain ⟨z1, z2, w⟩ := z
    obtain ⟨e1, e2, hRw⟩ := hR
    dsimp only at e1 e2 hRw
    subst e1
    subst e2
    obtain ⟨⟨hAi, hSF, hcp⟩, hcnt⟩ := ptN_inv hA (c := c) hat hl i (by omega)
    rw [ptN]
    generalize ptN A c at' l i = st at *
    have hin : f_X11_has (nI (mN (aAble A c) 5)) (nI i) = aAble A c i := has_n _ hi
    have hcB : c < aMade st.2 := by rw [hSF.made]; exact hc
    have h30B : aMade st.2 ≤ 30 := by rw [hSF.made]; exact h30
    left
    unfold ptS
    by_cases ha : aAble A c i = true
    · rw [if_pos ha]
      obtain ⟨q, hq, _⟩ := able_cp ha
      have hq' : aCp st.2 c i = some q := by rw [hcp i (Nat.le_refl _)]; exact hq
      have hok := hAi.2.2.2.2.2.2.2.2.2.2.2.2.2 c i q hq'
      have hk := cp_ok hAi hn hq'
      have hcy := copy_m hRw h30B hi hcB
      rw [hq', cpM_some] at hcy
      obtain ⟨w1, hw1, hRw1⟩ := fails_m hRw hAi (s := i) hi
      have hR2 := hRw1.cp h30B (c := c) (s := i) hcB hi ((aCp st.2 c i).map (ptC (decide (1 ≤ aSpo st.2 i)) at' l))
      refine ⟨(nI (st.1 + (if 1 ≤ aSpo st.2 i then 0 else 1)), nI (i + 1), vp_updL w1 (190 + 5 * c + i) (cpM ((aCp st.2 c i).map (ptC (decide (1 ≤ aSpo st.2 i)) at' l)))), ⟨rfl, rfl, hR2⟩, fun rec => ?_⟩
      simp only [ubX11_puts_10, nI_clamp (show 2 < 2 ^ 31 by omega), hb2, lN_i, hrem, hp3]
      rw [hq']
      by_cases es : 1 ≤ aSpo st.2 i
      · rw [decide_eq_true es] at hw1
        have hwv := withV_pk hk.1 hk.2.1 hk.2.2.1 (v := 0) (by omega)
        have e0 : cpM (Option.map (ptC (decide (1 ≤ aSpo st.2 i)) at' l) (some q)) = lN (pk (0, q.2)) := by
          rw [decide_eq_true es]; rfl
        rw [if_pos es, e0]
        simp (disch := omega) only [hin, ha, hcy, hw1, hwv, ↓reduceIte, bt_do, bd_do, jn_eq, bI_z, gd_nI, gd_0, gd_1, nI_clamp, nI_add, nI_1, pk_mul, Nat.add_zero, Nat.zero_add, ile_t, ile_f, ilt_t, ilt_f, ieq_t, ieq_f, iz_t, iz_f, ilt0, ige0, im1, Bool.false_eq_true, Bool.true_eq_false, if_true, if_false, lc_ge_t, lc_ge_f, lc_eq_t, lc_eq_f, lc_le_t, lc_le_f, lc_gt_t, lc_gt_f, lc_lt_t, lc_lt_f, nI_l, lN_i, lN_add, lN_1]
      · rw [decide_eq_false es] at hw1
        have hwc := withC_pk (i := at') (v := l) hk.1 hk.2.1 hk.2.2.1 (by omega) (by omega)
        have h32 : ∀ i, upO q.2.2 at' l i < 32 := by
          intro i
          by_cases e : i = at'
          · rw [e, up_s]; omega
          · rw [up_n e]; exact hk.2.2.1 i
        have hfi := filled_pk (q := (q.1, q.2.1, upO q.2.2 at' l)) hk.1 hk.2.1 h32
        have hwf := withF_pk (q := (q.1, q.2.1, upO q.2.2 at' l)) (v := at' + 1) hk.1 hk.2.1 h32 (by omega)
        dsimp only at hfi hwf
        have e0 : cpM (Option.map (ptC (decide (1 ≤ aSpo st.2 i)) at' l) (some q)) = lN (pk (q.1, max q.2.1 (at' + 1), upO q.2.2 at' l)) := by
          rw [decide_eq_false es]; rfl
        rw [if_neg es, e0]
        have h16 := hk.2.1
        by_cases ef : q.2.1 ≤ at'
        · rw [show max q.2.1 (at' + 1) = at' + 1 by omega]
          simp (disch := omega) only [hin, ha, hcy, hw1, ↓reduceIte, bt_do, bd_do, jn_eq, bI_z, gd_nI, gd_0, gd_1, nI_clamp, nI_add, nI_1, pk_mul, Nat.add_zero, Nat.zero_add, ile_t, ile_f, ilt_t, ilt_f, ieq_t, ieq_f, iz_t, iz_f, ilt0, ige0, im1, Bool.false_eq_true, Bool.true_eq_false, if_true, if_false, lc_ge_t, lc_ge_f, lc_eq_t, lc_eq_f, lc_le_t, lc_le_f, lc_gt_t, lc_gt_f, lc_lt_t, lc_lt_f, nI_l, lN_i, lN_add, lN_1, hwc, hfi, hwf]
        · rw [show max q.2.1 (at' + 1) = q.2.1 by omega]
          simp (disch := omega) only [hin, ha, hcy, hw1, ↓reduceIte, bt_do, bd_do, jn_eq, bI_z, gd_nI, gd_0, gd_1, nI_clamp, nI_add, nI_1, pk_mul, Nat.add_zero, Nat.zero_add, ile_t, ile_f, ilt_t, ilt_f, ieq_t, ieq_f, iz_t, iz_f, ilt0, ige0, im1, Bool.false_eq_true, Bool.true_eq_false, if_true, if_false, lc_ge_t, lc_ge_f, lc_eq_t, lc_eq_f, lc_le_t, lc_le_f, lc_gt_t, lc_gt_f, lc_lt_t, lc_lt_f, nI_l, lN_i, lN_add, lN_1, hwc, hfi]
    · rw [if_neg ha]
      refine ⟨(nI st.1, nI (i + 1), w), ⟨rfl, rfl, hRw⟩, fun rec => ?_⟩
      simp (disch := omega) only [ubX11_puts_10, hin, bF ha, ↓reduceIte, bt_do, bd_do, jn_eq, bI_z, gd_nI, gd_0, gd_1, nI_clamp, nI_add, nI_1, pk_mul, Nat.add_zero, Nat.zero_add, ile_t, ile_f, ilt_t, ilt_f, ieq_t, ieq_f, iz_t, iz_f, ilt0, ige0, im1, Bool.false_eq_true, Bool.true_eq_false, if_true, if_false]
  · intro z hR
    obtain ⟨z1, z2, w⟩ := z
    obtain ⟨e1, e2, hRw⟩ := hR
    dsimp only at e1 e2 hRw
    subst e1
    subst e2
    obtain ⟨⟨hAi, hSF, hcp⟩, hcnt⟩ := ptN_inv hA (c := c) hat hl 5 (Nat.le_refl _)
    refine ⟨_, ⟨w, rfl, hRw⟩, fun rec => ?_⟩
    rw [← lostN_m (by omega)]
    simp only [ubX11_puts_10, ile_t (Nat.le_refl 5) (show 5 < 2 ^ 31 by omega), if_true]
/-! whole -/
theorem ownR_files (A : AH) (f k : Nat) : aMany (spOwnR A f k).2 f = aMany A f ∧ aSize (spOwnR A f k).2 = aSize A := by
  unfold spOwnR
  obtain ⟨o1, o2, o3, o4⟩ := own_files A f k
  split
  · exact ⟨rfl, rfl⟩
  · split
    · exact ⟨rfl, rfl⟩
    · split
      · exact ⟨o2, o4⟩
      · exact ⟨rfl, rfl⟩
theorem put1_inv {n : Nat} {A : AH} (hA : AI n A) {c at' l : Nat} (hc : c < aMade A) (hat : at' < aSize A) (hl : 1 ≤ l ∧ l ≤ 26) : AI (n + 1) (spPut1 A c at' l).2 := by
  unfold spPut1
  by_cases e : any5 (aAble A c) = true
  · rw [if_pos e]
    exact (ptN_inv (hA.lease hc e) (c := c) (at' := at') (l := l) hat hl 5 (Nat.le_refl _)).1.1
  · rw [if_neg e]; exact hA.mono (by omega)
theorem spPut_inv {n : Nat} {A : AH} (hA : AI n A) {f j l : Nat} (hf : f < 6) (h1s : 1 ≤ aSize A) (hk : j / aSize A < aMany A f) (hl : 1 ≤ l ∧ l ≤ 26) : AI (n + 1) (spPut A f j l).2 := by
  have hA1 := hA.ownR (f := f) (k := j / aSize A) hf hk
  obtain ⟨f1, f2⟩ := ownR_files A f (j / aSize A)
  unfold spPut
  split
  · refine put1_inv hA1 ((hA1.2.2.2.2.2.2.2.2.2.2.1 f hf).2.2.2.2.2 _ (by rw [f1]; exact hk)) ?_ hl
    rw [f2]
    exact Nat.mod_lt _ (by omega)
  · exact hA1.mono (by omega)
theorem tellCell_c {A : AH} {v : HS} {n : Nat} (h : RC A v) (hA : AI n A) (hn : n + 10 ≤ 8000) {f j l : Nat} {p3 : Int32} (hf : f < 6) (h1s : 1 ≤ aSize A) (hj : j < 100) (hk : j / aSize A < aMany A f) (hl : 1 ≤ l ∧ l ≤ 26) (hp3 : p3 = cv l) : ∃ v', f_X5_tellCell v (nI f) (nI j) p3 = some ((spPut A f j l).1, v') ∧ RC (spPut A f j l).2 v' := by
  have h9 : aSize A ≤ 9 := hA.2.2.1
  have hrow : ∀ (w : HS), w.2.1 = nI (aSize A) → f_X5_rowOf w (nI j) = some (nI (j / aSize A)) := by
    intro w hz
    rw [u_X5_rowOf, hz, pk_div (by omega) (by omega) (by omega), if_pos (nI_le (by omega) (by omega)), gdZ_nI (by omega) (by omega)]
  obtain ⟨v1, hv1, hR1⟩ := ownR_c h hA (by omega) hf hk
  have hA1 := hA.ownR (f := f) (k := j / aSize A) hf hk
  obtain ⟨f1, f2⟩ := ownR_files A f (j / aSize A)
  unfold spPut
  by_cases e : (spOwnR A f (j / aSize A)).1 = 0
  · rw [if_pos e]
    rw [e] at hv1
    generalize (spOwnR A f (j / aSize A)).2 = B at *
    have hk1 : j / aSize A < aMany B f := by rw [f1]; exact hk
    have hc := (hA1.2.2.2.2.2.2.2.2.2.2.1 f hf).2.2.2.2.2 _ hk1
    have hch := chunkOf_c hR1.2.2.2.2 hA1 hf hk1
    have hz1 : v1.2.1 = nI (aSize A) := by rw [← f2]; exact hR1.1.2.1
    unfold spPut1
    by_cases ex : any5 (aAble B (aCh B f (j / aSize A))) = true
    · rw [if_pos ex]
      obtain ⟨v2, hv2, hR2⟩ := lease_c hR1 hA1 (by omega) hc ex
      have hA2 := hA1.lease hc ex
      have hab := able_c5 hR2 hA2 (by omega) hc
      have hsz : aSize (spLease B (aCh B f (j / aSize A))) = aSize A := f2
      obtain ⟨v3, hv3, hR3⟩ := put_loop_c hR2 hA2 (c := aCh B f (j / aSize A)) (j := j) (l := l) hc hj (by rw [hsz]; exact h1s) hl hp3
      rw [hsz] at hv3 hR3
      refine ⟨v3, ?_, hR3⟩
      rw [← hv3]
      simp only [u_X5_tellCell, hrow v h.1.2.1, hv1, hrow v1 hz1, hch, hv2, hab, bd_do, jn_eq, bI_z, Bool.true_eq_false, if_true, if_false, reduceIte]
    · rw [if_neg ex]
      refine ⟨v1, ?_, hR1⟩
      simp only [u_X5_tellCell, hrow v h.1.2.1, hv1, hrow v1 hz1, hch, lease_no hR1 hA1 (show n ≤ 8000 by omega) hc (bF ex), bd_do, jn_eq, bI_z, Bool.true_eq_false, if_true, if_false, reduceIte]
  · rw [if_neg e]
    refine ⟨v1, ?_, hR1⟩
    simp only [u_X5_tellCell, hrow v h.1.2.1, hv1, bd_do, e, reduceIte]
theorem puts_m {A : AH} {b : Nat → Int64} {n : Nat} (h : RM A b) (hA : AI n A) (hn : n + 10 ≤ 8000) {f j l : Nat} {p3 : Int32} (hf : f < 6) (h1s : 1 ≤ aSize A) (hj : j < 100) (hk : j / aSize A < aMany A f) (hl : 1 ≤ l ∧ l ≤ 26) (hp3 : p3 - nI 96 = nI l) : ∃ b', f_X11_puts b (nI f) (nI j) p3 = some ((spPut A f j l).1, b') ∧ RM (spPut A f j l).2 b' := by
  have h9 : aSize A ≤ 9 := hA.2.2.1
  have hb2 : b 2 = lN (aSize A) := h.1 2 (by omega)
  have hdiv := pk_div (a := j) (d := aSize A) (by omega) (by omega) (by omega)
  obtain ⟨b1, hv1, hR1⟩ := ownR_m h hA (by omega) hf hk
  have hA1 := hA.ownR (f := f) (k := j / aSize A) hf hk
  obtain ⟨f1, f2⟩ := ownR_files A f (j / aSize A)
  have hk1 : j / aSize A < aMany (spOwnR A f (j / aSize A)).2 f := by rw [f1]; exact hk
  have hch := chunkOf_m hR1 hA1 hf hk1
  unfold spPut
  by_cases e : (spOwnR A f (j / aSize A)).1 = 0
  · rw [if_pos e]
    rw [e] at hv1
    generalize (spOwnR A f (j / aSize A)).2 = B at *
    have hc := (hA1.2.2.2.2.2.2.2.2.2.2.1 f hf).2.2.2.2.2 _ hk1
    unfold spPut1
    by_cases ex : any5 (aAble B (aCh B f (j / aSize A))) = true
    · rw [if_pos ex]
      obtain ⟨b2, hv2, hR2⟩ := leases_m hR1 hA1 (by omega) hc ex
      have hA2 := hA1.lease hc ex
      have hab := ables_m5 hR2 hA2 (by omega) hc
      have hsz : aSize (spLease B (aCh B f (j / aSize A))) = aSize A := f2
      have hz2 : b2 2 = lN (aSize A) := by rw [← hsz]; exact hR2.1 2 (by omega)
      obtain ⟨b3, hv3, hR3⟩ := put_loop_m hR2 hA2 (by omega) (c := aCh B f (j / aSize A)) (j := j) (l := l) hc hj (by rw [hsz]; exact h1s) hl hp3 (nI 0)
      rw [hsz] at hv3 hR3
      refine ⟨b3, ?_, hR3⟩
      rw [← hv3]
      simp (disch := omega) only [u_X11_puts, ↓reduceIte, bt_do, bd_do, jn_eq, bI_z, gd_nI, gd_0, gd_1, nI_clamp, nI_add, nI_1, pk_mul, Nat.add_zero, Nat.zero_add, ile_t, ile_f, ilt_t, ilt_f, ieq_t, ieq_f, iz_t, iz_f, ilt0, ige0, im1, Bool.false_eq_true, Bool.true_eq_false, if_true, if_false, lc_ge_t, lc_ge_f, lc_eq_t, lc_eq_f, lc_le_t, lc_le_f, lc_gt_t, lc_gt_f, lc_lt_t, lc_lt_f, nI_l, lN_i, lN_add, lN_1, hb2, hdiv, gdZ_nI, hv1, hch, hv2, hz2, hab]
    · rw [if_neg ex]
      refine ⟨b1, ?_, hR1⟩
      have e0 : ((-1000004 : Int32) = 0) = False := eq_false (by decide)
      simp (disch := omega) only [u_X11_puts, ↓reduceIte, bt_do, bd_do, jn_eq, bI_z, gd_nI, gd_0, gd_1, nI_clamp, nI_add, nI_1, pk_mul, Nat.add_zero, Nat.zero_add, ile_t, ile_f, ilt_t, ilt_f, ieq_t, ieq_f, iz_t, iz_f, ilt0, ige0, im1, Bool.false_eq_true, Bool.true_eq_false, if_true, if_false, lc_ge_t, lc_ge_f, lc_eq_t, lc_eq_f, lc_le_t, lc_le_f, lc_gt_t, lc_gt_f, lc_lt_t, lc_lt_f, nI_l, lN_i, lN_add, lN_1, hb2, hdiv, gdZ_nI, hv1, hch, leases_no hR1 hA1 (show n ≤ 8000 by omega) hc (bF ex), e0]
  · rw [if_neg e]
    refine ⟨b1, ?_, hR1⟩
    simp (disch := omega) only [u_X11_puts, ↓reduceIte, bt_do, bd_do, jn_eq, bI_z, gd_nI, gd_0, gd_1, nI_clamp, nI_add, nI_1, pk_mul, Nat.add_zero, Nat.zero_add, ile_t, ile_f, ilt_t, ilt_f, ieq_t, ieq_f, iz_t, iz_f, ilt0, ige0, im1, Bool.false_eq_true, Bool.true_eq_false, if_true, if_false, lc_ge_t, lc_ge_f, lc_eq_t, lc_eq_f, lc_le_t, lc_le_f, lc_gt_t, lc_gt_f, lc_lt_t, lc_lt_f, nI_l, lN_i, lN_add, lN_1, hb2, hdiv, gdZ_nI, hv1, hch, e]
