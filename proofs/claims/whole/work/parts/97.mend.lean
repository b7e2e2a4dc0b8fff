/-! PURE 97: stale and forgotten copies thrown away; copies where there are too few -/
theorem lies_c {A : AH} {x : CP} {n : Nat} (h : RCP A x) (hA : AI n A) (hn : n ≤ 8000) {c s : Nat} (hc : c < 30) (hs : s < 5) : f_X2_lies x (nI s) (nI c) = some (aLie A s c) := by
  rw [u_X2_lies, bd_at (version_c h hs hc)]
  unfold aLie
  cases hq : aCp A c s with
  | none => rfl
  | some q =>
    have hk := cp_ok hA hn hq
    simp only
    rw [if_neg (nI_m1 (by omega))]
    rfl
theorem isStale_c {A : AH} {v : HS} {n : Nat} (h : RC A v) (hA : AI n A) (hn : n ≤ 8000) {c s : Nat} (hc : c < aMade A) (hs : s < 5) : f_X5_isStale v (nI s) (nI c) = some (aStale A c s) := by
  have h30 : aMade A ≤ 30 := hA.2.2.2.2.2.2.1
  rw [u_X5_isStale, bd_at (lies_c h.2.2.2.1 hA hn (by omega) hs), bd_at (isGood_c h hA hn hc hs)]
  unfold aStale aLie
  cases (aCp A c s).isSome <;> cases aGood A c s <;> rfl
theorem isStale_m {A : AH} {b : Nat → Int64} {n : Nat} (h : RM A b) (hA : AI n A) (hn : n ≤ 8000) {c s : Nat} (hc : c < aMade A) (hs : s < 5) : f_X11_isStale b (nI c) (nI s) = some (aStale A c s) := by
  have h30 : aMade A ≤ 30 := hA.2.2.2.2.2.2.1
  rw [u_X11_isStale, bd_at (copy_m h h30 hs hc), bd_at (isGood_m h hA hn hc hs)]
  unfold aStale
  cases hq : aCp A c s with
  | none => rfl
  | some q =>
    have hk := cp_ok hA hn hq
    rw [cpM_some, if_neg (show ¬ lg_cmp (lN (pk q)) (lN 0) = 0 from fun e => pk_0 hk.1 hk.2.1 hk.2.2.1 ((cmp0 _ _).mp e))]
    cases aGood A c s <;> rfl
theorem forgot_c {A : AH} {v : HS} {n : Nat} (h : RC A v) (hA : AI n A) {c : Nat} (hc : c < aMade A) : f_X1_isForgotten v.2.2.2.2.2.2.1 (nI c) = some (decide (aSh A c = 0)) := by
  have h30 : aMade A ≤ 30 := hA.2.2.2.2.2.2.1
  have h1 := (h.2.2.1.2 c hc).2.1
  have h2 := sh_le hA hc
  by_cases e : aSh A c = 0
  · simp (disch := omega) only [u_X1_isForgotten, has_ck h.2.2.1, hasP_of hc, h1, ↓reduceIte, bt_do, bd_do, jn_eq, bI_z, gd_nI, gd_0, gd_1, nI_clamp, nI_add, nI_1, pk_mul, Nat.add_zero, Nat.zero_add, ile_t, ile_f, ilt_t, ilt_f, ieq_t, ieq_f, iz_t, iz_f, ilt0, ige0, im1, Bool.false_eq_true, Bool.true_eq_false, if_true, if_false, decide_eq_true e]
  · simp (disch := omega) only [u_X1_isForgotten, has_ck h.2.2.1, hasP_of hc, h1, ↓reduceIte, bt_do, bd_do, jn_eq, bI_z, gd_nI, gd_0, gd_1, nI_clamp, nI_add, nI_1, pk_mul, Nat.add_zero, Nat.zero_add, ile_t, ile_f, ilt_t, ilt_f, ieq_t, ieq_f, iz_t, iz_f, ilt0, ige0, im1, Bool.false_eq_true, Bool.true_eq_false, if_true, if_false, decide_eq_false e]
def btS (s c : Nat) (st : Nat × AH) : Nat × AH := if (aLie st.2 s c && (decide (aSh st.2 c = 0) || !aGood st.2 c s)) = true then (st.1 + 1, setCp st.2 c s none) else st
def btN (A : AH) (s : Nat) : Nat → Nat × AH
  | 0 => (0, A)
  | c + 1 => btS s c (btN A s c)
theorem btN_inv {n : Nat} {A : AH} (hA : AI n A) (s : Nat) : ∀ i, AI n (btN A s i).2 ∧ SF A (btN A s i).2 ∧ (btN A s i).1 ≤ i := by
  intro i
  induction i with
  | zero => exact ⟨hA, SF.rf A, Nat.le_refl _⟩
  | succ i ih =>
    obtain ⟨h1, h2, h3⟩ := ih
    rw [btN]
    generalize btN A s i = st at *
    unfold btS
    split
    · exact ⟨h1.cpN i s, h2.tr (SF.cp _ _ _ _), by show st.1 + 1 ≤ i + 1; omega⟩
    · exact ⟨h1, h2, by omega⟩
theorem throw_c {A : AH} {v : HS} {n : Nat} (h : RC A v) (hA : AI n A) (hn : n ≤ 8000) {s : Nat} (hs : s < 5) : ∃ v', f_X5_throwAway v (nI s) = some (nI (btN A s (aMade A)).1, v') ∧ RC (btN A s (aMade A)).2 v' := by
  have h30 : aMade A ≤ 30 := hA.2.2.2.2.2.2.1
  rw [u_X5_throwAway, jn_eq]
  refine lp_gen (fun i z => z.1 = nI (btN A s i).1 ∧ z.2.1 = nI i ∧ RC (btN A s i).2 z.2.2) (fun X => ∃ v', X = some (nI (btN A s (aMade A)).1, v') ∧ RC (btN A s (aMade A)).2 v') (aMade A) (by omega) ?_ ?_ ?_
  · exact ⟨rfl, rfl, h⟩
  · intro i z hi hR
    obtain ⟨z1, z2, w⟩ := z
    obtain ⟨e1, e2, hRw⟩ := hR
    dsimp only at e1 e2 hRw
    subst e1
    subst e2
    obtain ⟨hAi, hSF, hcnt⟩ := btN_inv hA s i
    rw [btN]
    generalize btN A s i = st at *
    have hmB : aMade st.2 = aMade A := hSF.made
    have hcB : i < aMade st.2 := by omega
    have hw : w.2.2.2.2.2.2.1.1 = nI (aMade A) := by rw [← hmB]; exact hRw.2.2.1.1
    have hst := isStale_c hRw hAi hn hcB hs
    have hli := lies_c hRw.2.2.2.1 hAi hn (c := i) (s := s) (by omega) hs
    have hfo := forgot_c hRw hAi hcB
    obtain ⟨y, hy, hRy⟩ := drop_c hRw.2.2.2.1 (s := s) (c := i) hs (by omega)
    left
    unfold btS
    have hsd : aStale st.2 i s = (aLie st.2 s i && !aGood st.2 i s) := rfl
    rw [hsd] at hst
    cases hl : aLie st.2 s i
    · rw [hl] at hst hli
      rw [Bool.false_and, if_neg (by decide)]
      refine ⟨(nI st.1, nI (i + 1), w), ⟨rfl, rfl, hRw⟩, fun rec => ?_⟩
      simp (disch := omega) only [ubX5_throwAway_1, hw, hst, hli, Bool.false_and, ↓reduceIte, bt_do, bd_do, jn_eq, bI_z, gd_nI, gd_0, gd_1, nI_clamp, nI_add, nI_1, pk_mul, Nat.add_zero, Nat.zero_add, ile_t, ile_f, ilt_t, ilt_f, ieq_t, ieq_f, iz_t, iz_f, ilt0, ige0, im1, Bool.false_eq_true, Bool.true_eq_false, if_true, if_false]
    · rw [hl] at hst hli
      rw [Bool.true_and] at hst ⊢
      cases hg : aGood st.2 i s
      · rw [hg] at hst
        rw [Bool.not_false, Bool.or_true, if_pos rfl]
        refine ⟨(nI (st.1 + 1), nI (i + 1), hCP w y), ⟨rfl, rfl, hRw.cp hRy⟩, fun rec => ?_⟩
        simp (disch := omega) only [ubX5_throwAway_1, hw, hst, hli, Bool.not_false, hy, hCP, ↓reduceIte, bt_do, bd_do, jn_eq, bI_z, gd_nI, gd_0, gd_1, nI_clamp, nI_add, nI_1, pk_mul, Nat.add_zero, Nat.zero_add, ile_t, ile_f, ilt_t, ilt_f, ieq_t, ieq_f, iz_t, iz_f, ilt0, ige0, im1, Bool.false_eq_true, Bool.true_eq_false, if_true, if_false]
      · rw [hg] at hst
        rw [Bool.not_true, Bool.or_false]
        by_cases e0 : aSh st.2 i = 0
        · rw [decide_eq_true e0] at hfo ⊢
          rw [if_pos rfl]
          refine ⟨(nI (st.1 + 1), nI (i + 1), hCP w y), ⟨rfl, rfl, hRw.cp hRy⟩, fun rec => ?_⟩
          simp (disch := omega) only [ubX5_throwAway_1, hw, hst, hli, Bool.not_true, hfo, hy, hCP, ↓reduceIte, bt_do, bd_do, jn_eq, bI_z, gd_nI, gd_0, gd_1, nI_clamp, nI_add, nI_1, pk_mul, Nat.add_zero, Nat.zero_add, ile_t, ile_f, ilt_t, ilt_f, ieq_t, ieq_f, iz_t, iz_f, ilt0, ige0, im1, Bool.false_eq_true, Bool.true_eq_false, if_true, if_false]
        · rw [decide_eq_false e0] at hfo ⊢
          rw [if_neg (by decide)]
          refine ⟨(nI st.1, nI (i + 1), w), ⟨rfl, rfl, hRw⟩, fun rec => ?_⟩
          simp (disch := omega) only [ubX5_throwAway_1, hw, hst, hli, Bool.not_true, hfo, ↓reduceIte, bt_do, bd_do, jn_eq, bI_z, gd_nI, gd_0, gd_1, nI_clamp, nI_add, nI_1, pk_mul, Nat.add_zero, Nat.zero_add, ile_t, ile_f, ilt_t, ilt_f, ieq_t, ieq_f, iz_t, iz_f, ilt0, ige0, im1, Bool.false_eq_true, Bool.true_eq_false, if_true, if_false]
  · intro z hR
    obtain ⟨z1, z2, w⟩ := z
    obtain ⟨e1, e2, hRw⟩ := hR
    dsimp only at e1 e2 hRw
    subst e1
    subst e2
    obtain ⟨hAi, hSF, hcnt⟩ := btN_inv hA s (aMade A)
    have hw : w.2.2.2.2.2.2.1.1 = nI (aMade A) := by rw [← hSF.made]; exact hRw.2.2.1.1
    refine ⟨_, ⟨w, rfl, hRw⟩, fun rec => ?_⟩
    simp (disch := omega) only [ubX5_throwAway_1, hw, ↓reduceIte, bt_do, bd_do, jn_eq, bI_z, gd_nI, gd_0, gd_1, nI_clamp, nI_add, nI_1, pk_mul, Nat.add_zero, Nat.zero_add, ile_t, ile_f, ilt_t, ilt_f, ieq_t, ieq_f, iz_t, iz_f, ilt0, ige0, im1, Bool.false_eq_true, Bool.true_eq_false, if_true, if_false]
theorem updL_is {f : Nat → Int64} {k : Nat} {x : Int64} (h : f k = x) : vp_updL f k x = f := by rw [← h, updL_same]
theorem beat_loop_m {A : AH} {b : Nat → Int64} {n : Nat} (h : RM A b) (hA : AI n A) (hn : n ≤ 8000) {s : Nat} (hs : s < 5) (m2 : (Nat → Int64) × (Nat → Int64) × Int32 × (Nat → Int64) × (Nat → Int32) × (Nat → Int32) × Int32 × Int32 × Int32 × Int32 × Int32 × Int32 × Int32 × Int32 × (Nat → Int32) × Int32) : ∃ b', lpF (bX11_beat_6 (nI s) (fun q6 : Int32 × Int32 × MD => some (q6.1, q6.2.2))) FU (nI 0, nI 0, (b, m2)) = some (nI (btN A s (aMade A)).1, (b', m2)) ∧ RM (btN A s (aMade A)).2 b' := by
  have h30 : aMade A ≤ 30 := hA.2.2.2.2.2.2.1
  refine lp_gen (fun i z => z.1 = nI (btN A s i).1 ∧ z.2.1 = nI i ∧ z.2.2.2 = m2 ∧ RM (btN A s i).2 z.2.2.1) (fun X => ∃ b', X = some (nI (btN A s (aMade A)).1, (b', m2)) ∧ RM (btN A s (aMade A)).2 b') (aMade A) (by omega) ?_ ?_ ?_
  · exact ⟨rfl, rfl, rfl, h⟩
  · intro i z hi hR
    obtain ⟨z1, z2, w, m⟩ := z
    obtain ⟨e1, e2, e3, hRw⟩ := hR
    dsimp only at e1 e2 e3 hRw
    subst e1
    subst e2
    subst e3
    obtain ⟨hAi, hSF, hcnt⟩ := btN_inv hA s i
    rw [btN]
    generalize btN A s i = st at *
    have hmB : aMade st.2 = aMade A := hSF.made
    have hcB : i < aMade st.2 := by omega
    have h30B : aMade st.2 ≤ 30 := by omega
    have hw : w 6 = lN (aMade A) := by rw [← hmB]; exact hRw.1 6 (by omega)
    have hcp := copy_m hRw h30B hs hcB
    have hraw := hRw.2.2.2.2 i s hcB hs
    have hgd := isGood_m hRw hAi hn hcB hs
    have hsh := (hRw.2.2.2.1 i hcB).2.1
    have hsl := sh_le hAi hcB
    have hRn := hRw.cp h30B (c := i) (s := s) hcB hs none
    left
    unfold btS
    have hlie : aLie st.2 s i = (aCp st.2 i s).isSome := rfl
    rw [hlie]
    cases hq : aCp st.2 i s with
    | none =>
      rw [hq] at hcp hraw
      have e0 : (lg_cmp (cpM none) (lN 0) = 0) = True := eq_true ((cmp0 _ _).mpr rfl)
      rw [Option.isSome_none, Bool.false_and, if_neg (by decide)]
      refine ⟨(nI st.1, nI (i + 1), (w, m)), ⟨rfl, rfl, rfl, hRw⟩, fun rec => ?_⟩
      simp (disch := omega) only [ubX11_beat_6, hw, hcp, e0, updL_is hraw, ↓reduceIte, bt_do, bd_do, jn_eq, bI_z, gd_nI, gd_0, gd_1, nI_clamp, nI_add, nI_1, pk_mul, Nat.add_zero, Nat.zero_add, ile_t, ile_f, ilt_t, ilt_f, ieq_t, ieq_f, iz_t, iz_f, ilt0, ige0, im1, Bool.false_eq_true, Bool.true_eq_false, if_true, if_false, lc_ge_t, lc_ge_f, lc_eq_t, lc_eq_f, lc_le_t, lc_le_f, lc_gt_t, lc_gt_f, lc_lt_t, lc_lt_f, nI_l, lN_i, lN_add, lN_1]
    | some q =>
      have hk := cp_ok hAi hn hq
      rw [hq, cpM_some] at hcp hraw
      have e0 : (lg_cmp (lN (pk q)) (lN 0) = 0) = False := eq_false (fun e => pk_0 hk.1 hk.2.1 hk.2.2.1 ((cmp0 _ _).mp e))
      rw [Option.isSome_some, Bool.true_and]
      have hRn : RM (setCp st.2 i s none) (vp_updL w (190 + 5 * i + s) (lN 0)) := hRn
      by_cases es : aSh st.2 i = 0
      · rw [decide_eq_true es, Bool.true_or, if_pos rfl]
        refine ⟨(nI (st.1 + 1), nI (i + 1), (vp_updL w (190 + 5 * i + s) (lN 0), m)), ⟨rfl, rfl, rfl, hRn⟩, fun rec => ?_⟩
        simp (disch := omega) only [ubX11_beat_6, hw, hcp, e0, hsh, ↓reduceIte, bt_do, bd_do, jn_eq, bI_z, gd_nI, gd_0, gd_1, nI_clamp, nI_add, nI_1, pk_mul, Nat.add_zero, Nat.zero_add, ile_t, ile_f, ilt_t, ilt_f, ieq_t, ieq_f, iz_t, iz_f, ilt0, ige0, im1, Bool.false_eq_true, Bool.true_eq_false, if_true, if_false, lc_ge_t, lc_ge_f, lc_eq_t, lc_eq_f, lc_le_t, lc_le_f, lc_gt_t, lc_gt_f, lc_lt_t, lc_lt_f, nI_l, lN_i, lN_add, lN_1]
      · rw [decide_eq_false es, Bool.false_or]
        cases hg : aGood st.2 i s
        · rw [hg] at hgd
          rw [Bool.not_false, if_pos rfl]
          refine ⟨(nI (st.1 + 1), nI (i + 1), (vp_updL w (190 + 5 * i + s) (lN 0), m)), ⟨rfl, rfl, rfl, hRn⟩, fun rec => ?_⟩
          simp (disch := omega) only [ubX11_beat_6, hw, hcp, e0, hsh, hgd, ↓reduceIte, bt_do, bd_do, jn_eq, bI_z, gd_nI, gd_0, gd_1, nI_clamp, nI_add, nI_1, pk_mul, Nat.add_zero, Nat.zero_add, ile_t, ile_f, ilt_t, ilt_f, ieq_t, ieq_f, iz_t, iz_f, ilt0, ige0, im1, Bool.false_eq_true, Bool.true_eq_false, if_true, if_false, lc_ge_t, lc_ge_f, lc_eq_t, lc_eq_f, lc_le_t, lc_le_f, lc_gt_t, lc_gt_f, lc_lt_t, lc_lt_f, nI_l, lN_i, lN_add, lN_1]
        · rw [hg] at hgd
          rw [Bool.not_true, if_neg (by decide)]
          refine ⟨(nI st.1, nI (i + 1), (w, m)), ⟨rfl, rfl, rfl, hRw⟩, fun rec => ?_⟩
          simp (disch := omega) only [ubX11_beat_6, hw, hcp, e0, hsh, hgd, updL_is hraw, ↓reduceIte, bt_do, bd_do, jn_eq, bI_z, gd_nI, gd_0, gd_1, nI_clamp, nI_add, nI_1, pk_mul, Nat.add_zero, Nat.zero_add, ile_t, ile_f, ilt_t, ilt_f, ieq_t, ieq_f, iz_t, iz_f, ilt0, ige0, im1, Bool.false_eq_true, Bool.true_eq_false, if_true, if_false, lc_ge_t, lc_ge_f, lc_eq_t, lc_eq_f, lc_le_t, lc_le_f, lc_gt_t, lc_gt_f, lc_lt_t, lc_lt_f, nI_l, lN_i, lN_add, lN_1]
  · intro z hR
    obtain ⟨z1, z2, w, m⟩ := z
    obtain ⟨e1, e2, e3, hRw⟩ := hR
    dsimp only at e1 e2 e3 hRw
    subst e1
    subst e2
    subst e3
    obtain ⟨hAi, hSF, hcnt⟩ := btN_inv hA s (aMade A)
    have hw : w 6 = lN (aMade A) := by rw [← hSF.made]; exact hRw.1 6 (by omega)
    refine ⟨_, ⟨w, rfl, hRw⟩, fun rec => ?_⟩
    simp (disch := omega) only [ubX11_beat_6, hw, ↓reduceIte, bt_do, bd_do, jn_eq, bI_z, gd_nI, gd_0, gd_1, nI_clamp, nI_add, nI_1, pk_mul, Nat.add_zero, Nat.zero_add, ile_t, ile_f, ilt_t, ilt_f, ieq_t, ieq_f, iz_t, iz_f, ilt0, ige0, im1, Bool.false_eq_true, Bool.true_eq_false, if_true, if_false, lc_ge_t, lc_ge_f, lc_eq_t, lc_eq_f, lc_le_t, lc_le_f, lc_gt_t, lc_gt_f, lc_lt_t, lc_lt_f, nI_l, lN_i, lN_add, lN_1]
/-! how many copies a chunk is wanted to have -/
def ownF (A : AH) (f c : Nat) : Nat → Bool
  | 0 => false
  | k + 1 => ownF A f c k || (decide (k < aMany A f) && decide (aCh A f k = c))
def mwN (A : AH) (c : Nat) : Nat → Nat
  | 0 => 0
  | f + 1 => if ownF A f c 4 = true then max (mwN A c f) (aWant A (aKind A f)) else mwN A c f
theorem ownF_is {A : AH} {n : Nat} (hA : AI n A) {f c : Nat} (hf : f < 6) : ∀ k, ownF A f c k = true → ¬ aIs A f = 0 := by
  intro k
  induction k with
  | zero => intro h; cases h
  | succ k ih =>
    intro h
    rw [ownF, Bool.or_eq_true, Bool.and_eq_true] at h
    rcases h with h | h
    · exact ih h
    · intro q
      have := (hA.2.2.2.2.2.2.2.2.2.2.1 f hf).2.2.1 q
      have := of_decide_eq_true h.1
      omega
theorem mwN_le {A : AH} {n : Nat} (hA : AI n A) (c : Nat) : ∀ f, mwN A c f ≤ 4 := by
  intro f
  induction f with
  | zero => exact Nat.zero_le _
  | succ f ih =>
    rw [mwN]
    have := want_le hA (aKind A f)
    split
    · exact Nat.max_le.mpr ⟨ih, this⟩
    · exact ih
theorem ownF_up {A : AH} {f c j : Nat} (h : ownF A f c j = true) : ∀ d, ownF A f c (j + d) = true := by
  intro d
  induction d with
  | zero => exact h
  | succ d ih => rw [← Nat.add_assoc, ownF, ih]; rfl
theorem owns_c {A : AH} {v : HS} {n : Nat} (h : RC A v) (hA : AI n A) {f c : Nat} (hf : f < 6) (hc : c < 30) : f_X3_owns v.2.2.2.2.2.2.2.2 (nI f) (nI c) = some (ownF A f c 4) := by
  have h4 := (hA.2.2.2.2.2.2.2.2.2.2.1 f hf).2.1
  have h30 : aMade A ≤ 30 := hA.2.2.2.2.2.2.1
  rw [u_X3_owns, jn_eq]
  refine lp_gen (fun k q => q = nI k ∧ ownF A f c k = false) (fun X => X = some (ownF A f c 4)) 4 (by omega) ⟨rfl, rfl⟩ ?_ ?_
  · rintro k q hk ⟨rfl, hno⟩
    by_cases e : k < aMany A f
    · have hch := chunkOf_c h.2.2.2.2 hA hf e
      have hcl := (hA.2.2.2.2.2.2.2.2.2.2.1 f hf).2.2.2.2.2 k e
      by_cases e2 : aCh A f k = c
      · right
        have h1 : ownF A f c (k + 1) = true := by rw [ownF, decide_eq_true e, decide_eq_true e2, Bool.true_and, Bool.or_true]
        have h2 := ownF_up h1 (4 - (k + 1))
        rw [show k + 1 + (4 - (k + 1)) = 4 by omega] at h2
        refine ⟨_, rfl, fun rec => ?_⟩
        rw [h2]
        simp (disch := omega) only [ubX3_owns_1, hch, ↓reduceIte, bt_do, bd_do, jn_eq, bI_z, gd_nI, gd_0, gd_1, nI_clamp, nI_add, nI_1, pk_mul, Nat.add_zero, Nat.zero_add, ile_t, ile_f, ilt_t, ilt_f, ieq_t, ieq_f, iz_t, iz_f, ilt0, ige0, im1, Bool.false_eq_true, Bool.true_eq_false, if_true, if_false]
      · left
        refine ⟨nI (k + 1), ⟨rfl, by rw [ownF, hno, decide_eq_false e2, Bool.and_false, Bool.or_false]⟩, fun rec => ?_⟩
        simp (disch := omega) only [ubX3_owns_1, hch, ↓reduceIte, bt_do, bd_do, jn_eq, bI_z, gd_nI, gd_0, gd_1, nI_clamp, nI_add, nI_1, pk_mul, Nat.add_zero, Nat.zero_add, ile_t, ile_f, ilt_t, ilt_f, ieq_t, ieq_f, iz_t, iz_f, ilt0, ige0, im1, Bool.false_eq_true, Bool.true_eq_false, if_true, if_false]
    · left
      have hch := chunkOf_none h.2.2.2.2 hf (k := k) (by omega) hk
      have em : ((-1 : Int32) = nI c) = False := eq_false (fun q => nI_m1 (k := c) (by omega) q.symm)
      refine ⟨nI (k + 1), ⟨rfl, by rw [ownF, hno, decide_eq_false e, Bool.false_and, Bool.or_false]⟩, fun rec => ?_⟩
      simp (disch := omega) only [ubX3_owns_1, hch, em, ↓reduceIte, bt_do, bd_do, jn_eq, bI_z, gd_nI, gd_0, gd_1, nI_clamp, nI_add, nI_1, pk_mul, Nat.add_zero, Nat.zero_add, ile_t, ile_f, ilt_t, ilt_f, ieq_t, ieq_f, iz_t, iz_f, ilt0, ige0, im1, Bool.false_eq_true, Bool.true_eq_false, if_true, if_false]
  · rintro q ⟨rfl, hno⟩
    refine ⟨_, rfl, fun rec => ?_⟩
    rw [hno]
    simp (disch := omega) only [ubX3_owns_1, ↓reduceIte, bt_do, bd_do, jn_eq, bI_z, gd_nI, gd_0, gd_1, nI_clamp, nI_add, nI_1, pk_mul, Nat.add_zero, Nat.zero_add, ile_t, ile_f, ilt_t, ilt_f, ieq_t, ieq_f, iz_t, iz_f, ilt0, ige0, im1, Bool.false_eq_true, Bool.true_eq_false, if_true, if_false]
theorem most_c {A : AH} {v : HS} {n : Nat} (h : RC A v) (hA : AI n A) {c : Nat} (hc : c < 30) : f_X5_mostWanted v (nI c) = some (nI (mwN A c 6)) := by
  rw [u_X5_mostWanted, jn_eq]
  refine lp_gen (fun f q => q = (nI (mwN A c f), nI f)) (fun X => X = some (nI (mwN A c 6))) 6 (by omega) rfl ?_ ?_
  · rintro f q hf rfl
    left
    refine ⟨_, rfl, fun rec => ?_⟩
    have ho := owns_c h hA hf hc
    have hml := mwN_le hA c f
    rw [mwN]
    by_cases e : ownF A f c 4 = true
    · have hi := ownF_is hA hf 4 e
      have hk := (h.2.2.2.2 f hf).2.1 hi
      have hkb := (hA.2.2.2.2.2.2.2.2.2.2.1 f hf).2.2.2.1 hi
      have hw := want_c h hA (k := aKind A f) (by omega)
      have hwl := want_le hA (aKind A f)
      rw [e] at ho
      rw [if_pos e]
      by_cases e2 : mwN A c f < aWant A (aKind A f)
      · rw [show max (mwN A c f) (aWant A (aKind A f)) = aWant A (aKind A f) by omega]
        simp (disch := omega) only [ubX5_mostWanted_1, ho, hk, hw, ↓reduceIte, bt_do, bd_do, jn_eq, bI_z, gd_nI, gd_0, gd_1, nI_clamp, nI_add, nI_1, pk_mul, Nat.add_zero, Nat.zero_add, ile_t, ile_f, ilt_t, ilt_f, ieq_t, ieq_f, iz_t, iz_f, ilt0, ige0, im1, Bool.false_eq_true, Bool.true_eq_false, if_true, if_false]
      · rw [show max (mwN A c f) (aWant A (aKind A f)) = mwN A c f by omega]
        simp (disch := omega) only [ubX5_mostWanted_1, ho, hk, hw, ↓reduceIte, bt_do, bd_do, jn_eq, bI_z, gd_nI, gd_0, gd_1, nI_clamp, nI_add, nI_1, pk_mul, Nat.add_zero, Nat.zero_add, ile_t, ile_f, ilt_t, ilt_f, ieq_t, ieq_f, iz_t, iz_f, ilt0, ige0, im1, Bool.false_eq_true, Bool.true_eq_false, if_true, if_false]
    · rw [bF e] at ho
      rw [if_neg e]
      simp (disch := omega) only [ubX5_mostWanted_1, ho, ↓reduceIte, bt_do, bd_do, jn_eq, bI_z, gd_nI, gd_0, gd_1, nI_clamp, nI_add, nI_1, pk_mul, Nat.add_zero, Nat.zero_add, ile_t, ile_f, ilt_t, ilt_f, ieq_t, ieq_f, iz_t, iz_f, ilt0, ige0, im1, Bool.false_eq_true, Bool.true_eq_false, if_true, if_false]
  · rintro q rfl
    refine ⟨_, rfl, fun rec => ?_⟩
    simp (disch := omega) only [ubX5_mostWanted_1, ↓reduceIte, bt_do, bd_do, jn_eq, bI_z, gd_nI, gd_0, gd_1, nI_clamp, nI_add, nI_1, pk_mul, Nat.add_zero, Nat.zero_add, ile_t, ile_f, ilt_t, ilt_f, ieq_t, ieq_f, iz_t, iz_f, ilt0, ige0, im1, Bool.false_eq_true, Bool.true_eq_false, if_true, if_false]
def mwK (A : AH) (c f m : Nat) (k : Nat) : Nat := if ownF A f c k = true then max m (aWant A (aKind A f)) else m
theorem wantedOf_m {A : AH} {b : Nat → Int64} {n : Nat} (h : RM A b) (hA : AI n A) {c : Nat} (hc : c < 30) : f_X11_wantedOf b (nI c) = some (nI (mwN A c 6)) := by
  have h30 : aMade A ≤ 30 := hA.2.2.2.2.2.2.1
  rw [u_X11_wantedOf, jn_eq]
  refine lp_gen (fun f q => q = (nI (mwN A c f), nI f)) (fun X => X = some (nI (mwN A c 6))) 6 (by omega) rfl ?_ ?_
  · rintro f q hf rfl
    left
    refine ⟨_, rfl, fun rec => ?_⟩
    have h4 := (hA.2.2.2.2.2.2.2.2.2.2.1 f hf).2.1
    have hml := mwN_le hA c f
    have hwl := want_le hA (aKind A f)
    have hmk : ∀ k, mwK A c f (mwN A c f) k ≤ 4 := by
      intro k
      unfold mwK
      split
      · exact Nat.max_le.mpr ⟨hml, hwl⟩
      · exact hml
    have hin : lpF (bX11_wantedOf_3 b (nI (mwN A c f), nI f) (nI c) (fun q3 : Int32 × Int32 => rec (q3.1, (nI f + 1)))) FU (nI (mwN A c f), nI 0) = rec (nI (mwN A c (f + 1)), nI (f + 1)) := by
      refine lp_gen (fun k q => q = (nI (mwK A c f (mwN A c f) k), nI k)) (fun X => X = rec (nI (mwN A c (f + 1)), nI (f + 1))) (aMany A f) (by omega) rfl ?_ ?_
      · rintro k q hk rfl
        left
        refine ⟨_, rfl, fun rec2 => ?_⟩
        have hmr := many_r h hf
        have hcr := chunkOf_r h hf hk (by omega)
        have hcl := (hA.2.2.2.2.2.2.2.2.2.2.1 f hf).2.2.2.2.2 k hk
        have hm := hmk k
        have hi : ¬ aIs A f = 0 := fun q => by
          have := (hA.2.2.2.2.2.2.2.2.2.2.1 f hf).2.2.1 q
          omega
        have hil := (hA.2.2.2.2.2.2.2.2.2.2.1 f hf).1
        have his := (h.2.2.1 f hf).1
        have hkr := (h.2.2.1 f hf).2.1 hi
        have hkb := (hA.2.2.2.2.2.2.2.2.2.2.1 f hf).2.2.2.1 hi
        have hw := want_m h hA (k := aKind A f) (by omega)
        have hms : mwK A c f (mwN A c f) (k + 1) = if aCh A f k = c then max (mwK A c f (mwN A c f) k) (aWant A (aKind A f)) else mwK A c f (mwN A c f) k := by
          unfold mwK
          rw [ownF, decide_eq_true hk, Bool.true_and]
          by_cases e2 : aCh A f k = c
          · rw [decide_eq_true e2, Bool.or_true, if_pos rfl, if_pos e2]
            split <;> omega
          · rw [decide_eq_false e2, Bool.or_false, if_neg e2]
        rw [hms]
        by_cases e2 : aCh A f k = c
        · rw [if_pos e2]
          by_cases e3 : aWant A (aKind A f) ≤ mwK A c f (mwN A c f) k
          · rw [show max (mwK A c f (mwN A c f) k) (aWant A (aKind A f)) = mwK A c f (mwN A c f) k by omega]
            simp (disch := omega) only [ubX11_wantedOf_3, hmr, hcr, his, hkr, hw, ↓reduceIte, bt_do, bd_do, jn_eq, bI_z, gd_nI, gd_0, gd_1, nI_clamp, nI_add, nI_1, pk_mul, Nat.add_zero, Nat.zero_add, ile_t, ile_f, ilt_t, ilt_f, ieq_t, ieq_f, iz_t, iz_f, ilt0, ige0, im1, Bool.false_eq_true, Bool.true_eq_false, if_true, if_false, lc_ge_t, lc_ge_f, lc_eq_t, lc_eq_f, lc_le_t, lc_le_f, lc_gt_t, lc_gt_f, lc_lt_t, lc_lt_f, nI_l, lN_i, lN_add, lN_1]
          · rw [show max (mwK A c f (mwN A c f) k) (aWant A (aKind A f)) = aWant A (aKind A f) by omega]
            simp (disch := omega) only [ubX11_wantedOf_3, hmr, hcr, his, hkr, hw, ↓reduceIte, bt_do, bd_do, jn_eq, bI_z, gd_nI, gd_0, gd_1, nI_clamp, nI_add, nI_1, pk_mul, Nat.add_zero, Nat.zero_add, ile_t, ile_f, ilt_t, ilt_f, ieq_t, ieq_f, iz_t, iz_f, ilt0, ige0, im1, Bool.false_eq_true, Bool.true_eq_false, if_true, if_false, lc_ge_t, lc_ge_f, lc_eq_t, lc_eq_f, lc_le_t, lc_le_f, lc_gt_t, lc_gt_f, lc_lt_t, lc_lt_f, nI_l, lN_i, lN_add, lN_1]
        · rw [if_neg e2]
          simp (disch := omega) only [ubX11_wantedOf_3, hmr, hcr, ↓reduceIte, bt_do, bd_do, jn_eq, bI_z, gd_nI, gd_0, gd_1, nI_clamp, nI_add, nI_1, pk_mul, Nat.add_zero, Nat.zero_add, ile_t, ile_f, ilt_t, ilt_f, ieq_t, ieq_f, iz_t, iz_f, ilt0, ige0, im1, Bool.false_eq_true, Bool.true_eq_false, if_true, if_false, lc_ge_t, lc_ge_f, lc_eq_t, lc_eq_f, lc_le_t, lc_le_f, lc_gt_t, lc_gt_f, lc_lt_t, lc_lt_f, nI_l, lN_i, lN_add, lN_1]
      · rintro q rfl
        refine ⟨_, rfl, fun rec2 => ?_⟩
        have hmr := many_r h hf
        have hend : mwK A c f (mwN A c f) (aMany A f) = mwN A c (f + 1) := by
          unfold mwK
          rw [mwN]
          have key : ∀ d, ownF A f c (aMany A f + d) = ownF A f c (aMany A f) := by
            intro d
            induction d with
            | zero => rfl
            | succ d ih =>
              show ownF A f c (aMany A f + d + 1) = _
              rw [ownF, ih, decide_eq_false (by omega), Bool.false_and, Bool.or_false]
          have := key (4 - aMany A f)
          rw [show aMany A f + (4 - aMany A f) = 4 by omega] at this
          rw [this]
        simp (disch := omega) only [ubX11_wantedOf_3, hmr, hend, ↓reduceIte, bt_do, bd_do, jn_eq, bI_z, gd_nI, gd_0, gd_1, nI_clamp, nI_add, nI_1, pk_mul, Nat.add_zero, Nat.zero_add, ile_t, ile_f, ilt_t, ilt_f, ieq_t, ieq_f, iz_t, iz_f, ilt0, ige0, im1, Bool.false_eq_true, Bool.true_eq_false, if_true, if_false, lc_ge_t, lc_ge_f, lc_eq_t, lc_eq_f, lc_le_t, lc_le_f, lc_gt_t, lc_gt_f, lc_lt_t, lc_lt_f, nI_l, lN_i, lN_add, lN_1]
    simp (disch := omega) only [ubX11_wantedOf_1, ↓reduceIte, bt_do, bd_do, jn_eq, bI_z, gd_nI, gd_0, gd_1, nI_clamp, nI_add, nI_1, pk_mul, Nat.add_zero, Nat.zero_add, ile_t, ile_f, ilt_t, ilt_f, ieq_t, ieq_f, iz_t, iz_f, ilt0, ige0, im1, Bool.false_eq_true, Bool.true_eq_false, if_true, if_false]
    simp only [nI_1] at hin
    exact hin
  · rintro q rfl
    refine ⟨_, rfl, fun rec => ?_⟩
    simp (disch := omega) only [ubX11_wantedOf_1, ↓reduceIte, bt_do, bd_do, jn_eq, bI_z, gd_nI, gd_0, gd_1, nI_clamp, nI_add, nI_1, pk_mul, Nat.add_zero, Nat.zero_add, ile_t, ile_f, ilt_t, ilt_f, ieq_t, ieq_f, iz_t, iz_f, ilt0, ige0, im1, Bool.false_eq_true, Bool.true_eq_false, if_true, if_false]
/-! the first chunk to mend -/
def poorC (A : AH) (c : Nat) : Bool := decide (¬ aSh A c = 0) && any5 (aAble A c) && decide (cN (aAble A c) 5 < mwN A c 6) && any5 (fun s => aUpB A s && !aAble A c s)
/-- the first from s on, of d -/
def fsN (P : Nat → Bool) : Nat → Nat → Option Nat
  | 0, _ => none
  | d + 1, s => if P s = true then some s else fsN P d (s + 1)
theorem fsN_in {P : Nat → Bool} : ∀ {d s c : Nat}, fsN P d s = some c → P c = true ∧ s ≤ c ∧ c < s + d := by
  intro d
  induction d with
  | zero => intro s c h; cases h
  | succ d ih =>
    intro s c h
    rw [fsN] at h
    by_cases e : P s = true
    · rw [if_pos e] at h; cases h; exact ⟨e, Nat.le_refl _, by omega⟩
    · rw [if_neg e] at h
      have := ih h
      exact ⟨this.1, by omega, by omega⟩
def aPoor (A : AH) : Option Nat := fsN (poorC A) (aMade A) 0
theorem lacks_c {A : AH} {v : HS} {n : Nat} (h : RC A v) (hA : AI n A) (hn : n ≤ 8000) {i : Nat} (hi : i < aMade A) : f_X5_lacksCopy v (nI i) = some (poorC A i) := by
  have h30 : aMade A ≤ 30 := hA.2.2.2.2.2.2.1
  have hab := able_c5 h hA hn hi
  have hup := ups_c5 h hA
  have hfo := forgot_c h hA hi
  have hmo := most_c h hA (c := i) (by omega)
  have hbc := bits_n (aAble A i)
  have hml := mwN_le hA i 6
  have hcl := cN_le (aAble A i) 5
  have han := andn_n (aUpB A) (aAble A i)
  by_cases e : poorC A i = true
  · rw [e]
    unfold poorC at e
    simp only [Bool.and_eq_true, decide_eq_true_eq] at e
    obtain ⟨⟨⟨p1, p2⟩, p3⟩, p4⟩ := e
    rw [decide_eq_false p1] at hfo
    simp (disch := omega) only [u_X5_lacksCopy, hab, hup, hfo, hmo, hbc, han, any5_z, p2, p4, ↓reduceIte, bt_do, bd_do, jn_eq, bI_z, gd_nI, gd_0, gd_1, nI_clamp, nI_add, nI_1, pk_mul, Nat.add_zero, Nat.zero_add, ile_t, ile_f, ilt_t, ilt_f, ieq_t, ieq_f, iz_t, iz_f, ilt0, ige0, im1, Bool.false_eq_true, Bool.true_eq_false, if_true, if_false]
  · have e := bF e
    rw [e]
    unfold poorC at e
    by_cases p1 : aSh A i = 0
    · rw [decide_eq_true p1] at hfo
      cases p2 : any5 (aAble A i)
      · simp (disch := omega) only [u_X5_lacksCopy, hab, hup, hfo, han, any5_z, p2, ↓reduceIte, bt_do, bd_do, jn_eq, bI_z, gd_nI, gd_0, gd_1, nI_clamp, nI_add, nI_1, pk_mul, Nat.add_zero, Nat.zero_add, ile_t, ile_f, ilt_t, ilt_f, ieq_t, ieq_f, iz_t, iz_f, ilt0, ige0, im1, Bool.false_eq_true, Bool.true_eq_false, if_true, if_false]
      · simp (disch := omega) only [u_X5_lacksCopy, hab, hup, hfo, han, any5_z, p2, ↓reduceIte, bt_do, bd_do, jn_eq, bI_z, gd_nI, gd_0, gd_1, nI_clamp, nI_add, nI_1, pk_mul, Nat.add_zero, Nat.zero_add, ile_t, ile_f, ilt_t, ilt_f, ieq_t, ieq_f, iz_t, iz_f, ilt0, ige0, im1, Bool.false_eq_true, Bool.true_eq_false, if_true, if_false]
    · rw [decide_eq_false p1] at hfo
      cases p2 : any5 (aAble A i)
      · simp (disch := omega) only [u_X5_lacksCopy, hab, hup, hfo, han, any5_z, p2, ↓reduceIte, bt_do, bd_do, jn_eq, bI_z, gd_nI, gd_0, gd_1, nI_clamp, nI_add, nI_1, pk_mul, Nat.add_zero, Nat.zero_add, ile_t, ile_f, ilt_t, ilt_f, ieq_t, ieq_f, iz_t, iz_f, ilt0, ige0, im1, Bool.false_eq_true, Bool.true_eq_false, if_true, if_false]
      · cases p4 : any5 (fun s => aUpB A s && !aAble A i s)
        · simp (disch := omega) only [u_X5_lacksCopy, hab, hup, hfo, han, any5_z, p2, p4, ↓reduceIte, bt_do, bd_do, jn_eq, bI_z, gd_nI, gd_0, gd_1, nI_clamp, nI_add, nI_1, pk_mul, Nat.add_zero, Nat.zero_add, ile_t, ile_f, ilt_t, ilt_f, ieq_t, ieq_f, iz_t, iz_f, ilt0, ige0, im1, Bool.false_eq_true, Bool.true_eq_false, if_true, if_false]
        · have p3 : ¬ cN (aAble A i) 5 < mwN A i 6 := by
            intro q
            rw [p2, p4, decide_eq_true p1, decide_eq_true q] at e
            cases e
          simp (disch := omega) only [u_X5_lacksCopy, hab, hup, hfo, hmo, hbc, han, any5_z, p2, p4, ↓reduceIte, bt_do, bd_do, jn_eq, bI_z, gd_nI, gd_0, gd_1, nI_clamp, nI_add, nI_1, pk_mul, Nat.add_zero, Nat.zero_add, ile_t, ile_f, ilt_t, ilt_f, ieq_t, ieq_f, iz_t, iz_f, ilt0, ige0, im1, Bool.false_eq_true, Bool.true_eq_false, if_true, if_false]
theorem first_mend_c {A : AH} {v : HS} {n : Nat} (h : RC A v) (hA : AI n A) (hn : n ≤ 8000) : f_X5_firstToMend v = some (match aPoor A with
  | none => -1
  | some c => nI c) := by
  have h30 : aMade A ≤ 30 := hA.2.2.2.2.2.2.1
  have hw : v.2.2.2.2.2.2.1.1 = nI (aMade A) := h.2.2.1.1
  unfold aPoor
  rw [u_X5_firstToMend, jn_eq]
  generalize hres : fsN (poorC A) (aMade A) 0 = res
  refine lp_gen (fun i q => q = nI i ∧ fsN (poorC A) (aMade A - i) i = res) (fun X => X = some (match res with
    | none => -1
    | some c => nI c)) (aMade A) (by omega) ⟨rfl, hres⟩ ?_ ?_
  · rintro i q hi ⟨rfl, hr⟩
    rw [show aMade A - i = (aMade A - (i + 1)) + 1 by omega, fsN] at hr
    have hlk := lacks_c h hA hn hi
    by_cases e : poorC A i = true
    · rw [if_pos e] at hr
      rw [e] at hlk
      right
      subst hr
      refine ⟨_, rfl, fun rec => ?_⟩
      simp (disch := omega) only [ubX5_firstToMend_1, hw, hlk, ↓reduceIte, bt_do, bd_do, jn_eq, bI_z, gd_nI, gd_0, gd_1, nI_clamp, nI_add, nI_1, pk_mul, Nat.add_zero, Nat.zero_add, ile_t, ile_f, ilt_t, ilt_f, ieq_t, ieq_f, iz_t, iz_f, ilt0, ige0, im1, Bool.false_eq_true, Bool.true_eq_false, if_true, if_false]
    · rw [if_neg e] at hr
      rw [bF e] at hlk
      left
      refine ⟨nI (i + 1), ⟨rfl, hr⟩, fun rec => ?_⟩
      simp (disch := omega) only [ubX5_firstToMend_1, hw, hlk, ↓reduceIte, bt_do, bd_do, jn_eq, bI_z, gd_nI, gd_0, gd_1, nI_clamp, nI_add, nI_1, pk_mul, Nat.add_zero, Nat.zero_add, ile_t, ile_f, ilt_t, ilt_f, ieq_t, ieq_f, iz_t, iz_f, ilt0, ige0, im1, Bool.false_eq_true, Bool.true_eq_false, if_true, if_false]
  · rintro q ⟨rfl, hr⟩
    rw [Nat.sub_self, fsN] at hr
    subst hr
    refine ⟨_, rfl, fun rec => ?_⟩
    simp (disch := omega) only [ubX5_firstToMend_1, hw, ↓reduceIte, bt_do, bd_do, jn_eq, bI_z, gd_nI, gd_0, gd_1, nI_clamp, nI_add, nI_1, pk_mul, Nat.add_zero, Nat.zero_add, ile_t, ile_f, ilt_t, ilt_f, ieq_t, ieq_f, iz_t, iz_f, ilt0, ige0, im1, Bool.false_eq_true, Bool.true_eq_false, if_true, if_false]
theorem poor_m {A : AH} {b : Nat → Int64} {n : Nat} (h : RM A b) (hA : AI n A) (hn : n ≤ 8000) : f_X11_poor b = some (match aPoor A with
  | none => -1000000
  | some c => nI c) := by
  have h30 : aMade A ≤ 30 := hA.2.2.2.2.2.2.1
  have hw : b 6 = lN (aMade A) := h.1 6 (by omega)
  unfold aPoor
  rw [u_X11_poor, jn_eq]
  generalize hres : fsN (poorC A) (aMade A) 0 = res
  refine lp_gen (fun i q => q = nI i ∧ fsN (poorC A) (aMade A - i) i = res) (fun X => X = some (match res with
    | none => -1000000
    | some c => nI c)) (aMade A) (by omega) ⟨rfl, hres⟩ ?_ ?_
  · rintro i q hi ⟨rfl, hr⟩
    rw [show aMade A - i = (aMade A - (i + 1)) + 1 by omega, fsN] at hr
    have hab := ables_m5 h hA hn hi
    have hup := ups_m5 h hA
    have hsh := (h.2.2.2.1 i hi).2.1
    have hsl := sh_le hA hi
    have hmo := wantedOf_m h hA (c := i) (by omega)
    have hbc := ones_n (aAble A i)
    have hml := mwN_le hA i 6
    have hcl := cN_le (aAble A i) 5
    have han := andn_n (aUpB A) (aAble A i)
    by_cases e : poorC A i = true
    · rw [if_pos e] at hr
      right
      subst hr
      refine ⟨_, rfl, fun rec => ?_⟩
      unfold poorC at e
      simp only [Bool.and_eq_true, decide_eq_true_eq] at e
      obtain ⟨⟨⟨p1, p2⟩, p3⟩, p4⟩ := e
      simp (disch := omega) only [ubX11_poor_1, hw, hab, hup, hsh, hmo, hbc, han, any5_z, p2, p4, ↓reduceIte, bt_do, bd_do, jn_eq, bI_z, gd_nI, gd_0, gd_1, nI_clamp, nI_add, nI_1, pk_mul, Nat.add_zero, Nat.zero_add, ile_t, ile_f, ilt_t, ilt_f, ieq_t, ieq_f, iz_t, iz_f, ilt0, ige0, im1, Bool.false_eq_true, Bool.true_eq_false, if_true, if_false, lc_ge_t, lc_ge_f, lc_eq_t, lc_eq_f, lc_le_t, lc_le_f, lc_gt_t, lc_gt_f, lc_lt_t, lc_lt_f, nI_l, lN_i, lN_add, lN_1]
    · rw [if_neg e] at hr
      left
      refine ⟨nI (i + 1), ⟨rfl, hr⟩, fun rec => ?_⟩
      have e := bF e
      unfold poorC at e
      by_cases p1 : aSh A i = 0
      · simp (disch := omega) only [ubX11_poor_1, hw, hab, hsh, ↓reduceIte, bt_do, bd_do, jn_eq, bI_z, gd_nI, gd_0, gd_1, nI_clamp, nI_add, nI_1, pk_mul, Nat.add_zero, Nat.zero_add, ile_t, ile_f, ilt_t, ilt_f, ieq_t, ieq_f, iz_t, iz_f, ilt0, ige0, im1, Bool.false_eq_true, Bool.true_eq_false, if_true, if_false, lc_ge_t, lc_ge_f, lc_eq_t, lc_eq_f, lc_le_t, lc_le_f, lc_gt_t, lc_gt_f, lc_lt_t, lc_lt_f, nI_l, lN_i, lN_add, lN_1]
      · cases p2 : any5 (aAble A i)
        · simp (disch := omega) only [ubX11_poor_1, hw, hab, hsh, any5_z, p2, ↓reduceIte, bt_do, bd_do, jn_eq, bI_z, gd_nI, gd_0, gd_1, nI_clamp, nI_add, nI_1, pk_mul, Nat.add_zero, Nat.zero_add, ile_t, ile_f, ilt_t, ilt_f, ieq_t, ieq_f, iz_t, iz_f, ilt0, ige0, im1, Bool.false_eq_true, Bool.true_eq_false, if_true, if_false, lc_ge_t, lc_ge_f, lc_eq_t, lc_eq_f, lc_le_t, lc_le_f, lc_gt_t, lc_gt_f, lc_lt_t, lc_lt_f, nI_l, lN_i, lN_add, lN_1]
        · by_cases p3 : cN (aAble A i) 5 < mwN A i 6
          · have p4 : any5 (fun s => aUpB A s && !aAble A i s) = false := by
              rw [p2, decide_eq_true p1, decide_eq_true p3] at e
              exact e
            simp (disch := omega) only [ubX11_poor_1, hw, hab, hup, hsh, hmo, hbc, han, any5_z, p2, p4, ↓reduceIte, bt_do, bd_do, jn_eq, bI_z, gd_nI, gd_0, gd_1, nI_clamp, nI_add, nI_1, pk_mul, Nat.add_zero, Nat.zero_add, ile_t, ile_f, ilt_t, ilt_f, ieq_t, ieq_f, iz_t, iz_f, ilt0, ige0, im1, Bool.false_eq_true, Bool.true_eq_false, if_true, if_false, lc_ge_t, lc_ge_f, lc_eq_t, lc_eq_f, lc_le_t, lc_le_f, lc_gt_t, lc_gt_f, lc_lt_t, lc_lt_f, nI_l, lN_i, lN_add, lN_1]
          · simp (disch := omega) only [ubX11_poor_1, hw, hab, hsh, hmo, hbc, any5_z, p2, ↓reduceIte, bt_do, bd_do, jn_eq, bI_z, gd_nI, gd_0, gd_1, nI_clamp, nI_add, nI_1, pk_mul, Nat.add_zero, Nat.zero_add, ile_t, ile_f, ilt_t, ilt_f, ieq_t, ieq_f, iz_t, iz_f, ilt0, ige0, im1, Bool.false_eq_true, Bool.true_eq_false, if_true, if_false, lc_ge_t, lc_ge_f, lc_eq_t, lc_eq_f, lc_le_t, lc_le_f, lc_gt_t, lc_gt_f, lc_lt_t, lc_lt_f, nI_l, lN_i, lN_add, lN_1]
  · rintro q ⟨rfl, hr⟩
    rw [Nat.sub_self, fsN] at hr
    subst hr
    refine ⟨_, rfl, fun rec => ?_⟩
    simp (disch := omega) only [ubX11_poor_1, hw, ↓reduceIte, bt_do, bd_do, jn_eq, bI_z, gd_nI, gd_0, gd_1, nI_clamp, nI_add, nI_1, pk_mul, Nat.add_zero, Nat.zero_add, ile_t, ile_f, ilt_t, ilt_f, ieq_t, ieq_f, iz_t, iz_f, ilt0, ige0, im1, Bool.false_eq_true, Bool.true_eq_false, if_true, if_false, lc_ge_t, lc_ge_f, lc_eq_t, lc_eq_f, lc_le_t, lc_le_f, lc_gt_t, lc_gt_f, lc_lt_t, lc_lt_f, nI_l, lN_i, lN_add, lN_1]
/-! mended -/
def mdT (A : AH) (c : Nat) : Nat := bst A (fun s => aUpB A s && !aAble A c s)
abbrev spMend (A : AH) (c : Nat) : AH := setCp A c (mdT A c) (aCp A c (fst5 (aAble A c)))
theorem poor_use {A : AH} {n c : Nat} (hA : AI n A) (h : aPoor A = some c) : c < aMade A ∧ any5 (aAble A c) = true ∧ any5 (fun s => aUpB A s && !aAble A c s) = true := by
  have h1 := fsN_in h
  have e := h1.1
  unfold poorC at e
  simp only [Bool.and_eq_true, decide_eq_true_eq] at e
  exact ⟨by omega, e.1.1.2, e.2⟩
theorem AI.mend {n : Nat} {A : AH} (hA : AI n A) {c : Nat} (h : aPoor A = some c) : AI n (spMend A c) := by
  obtain ⟨h1, h2, h3⟩ := poor_use hA h
  have hb := bst_in A (any5_t.mp h3)
  have hf := fst5_in (any5_t.mp h2)
  obtain ⟨q, hq, _⟩ := able_cp hf.2.1
  have hok := hA.2.2.2.2.2.2.2.2.2.2.2.2.2 c _ q hq
  have hts : mdT A c < nS A := by
    have := hb.2.2
    rw [Bool.and_eq_true] at this
    by_cases q : mdT A c < nS A
    · exact q
    · have h4 := up_out hA (mdT A c) (by omega)
      have h5 : (aUp A (mdT A c) == 1) = true := this.1
      rw [h4] at h5
      cases h5
  show AI n (setCp A c (mdT A c) (aCp A c (fst5 (aAble A c))))
  rw [hq]
  exact hA.cpS h1 hts hok.2.2
theorem mend_out {A : AH} {n c : Nat} (hA : AI n A) : ∀ s, nS A ≤ s → (fun s => aUpB A s && !aAble A c s) s = false := by
  intro s hs
  have := up_out hA s hs
  show (aUpB A s && !aAble A c s) = false
  unfold aUpB
  rw [this]
  rfl
theorem addCopy_c {A : AH} {v : HS} {n : Nat} (h : RC A v) (hA : AI n A) (hn : n ≤ 8000) {c : Nat} (hp : aPoor A = some c) : ∃ v', f_X5_addCopy v (nI c) = some v' ∧ RC (spMend A c) v' := by
  obtain ⟨h1, h2, h3⟩ := poor_use hA hp
  have h30 : aMade A ≤ 30 := hA.2.2.2.2.2.2.1
  have hb := bst_in A (any5_t.mp h3)
  have hf := fst5_in (any5_t.mp h2)
  obtain ⟨q, hq, _⟩ := able_cp hf.2.1
  have hk := cp_ok hA hn hq
  have hne : ¬ (c = c ∧ fst5 (aAble A c) = mdT A c) := by
    intro z
    have := hb.2.2
    rw [Bool.and_eq_true] at this
    have h5 := this.2
    have e : bst A (fun s => aUpB A s && !aAble A c s) = fst5 (aAble A c) := z.2.symm
    rw [e, hf.2.1] at h5
    cases h5
  obtain ⟨y, hy, hRy⟩ := layLike_c h.2.2.2.1 (s := mdT A c) (c := c) (s0 := fst5 (aAble A c)) (c0 := c) hb.2.1 (by omega) hf.1 (by omega) hne hq q.1
  have hver := version_c h.2.2.2.1 (s := fst5 (aAble A c)) (c := c) hf.1 (by omega)
  rw [hq] at hver
  have hver : f_X2_versionOf v.2.2.2.2.2.2.2.1 (nI (fst5 (aAble A c))) (nI c) = some (nI q.1) := hver
  have hfi := first_n (nS A) hA.1 h.2.1.1 (aAble A c) (able_out hA c) (any5_t.mp h2)
  have hbe := best_c h hA hn (P := fun s => aUpB A s && !aAble A c s) (mend_out hA) (any5_t.mp h3)
  have hbe : f_X5_best v (nI (mN (fun s => aUpB A s && !aAble A c s) 5)) = some (nI (mdT A c)) := hbe
  have hb5 : mdT A c < 5 := hb.2.1
  have hf5 := hf.1
  refine ⟨hCP v y, ?_, ?_⟩
  · simp (disch := omega) only [u_X5_addCopy, able_c5 h hA hn h1, hfi, ups_c5 h hA, andn_n, hbe, hver, hy, hCP, ↓reduceIte, bt_do, bd_do, jn_eq, bI_z, gd_nI, gd_0, gd_1, nI_clamp, nI_add, nI_1, pk_mul, Nat.add_zero, Nat.zero_add, ile_t, ile_f, ilt_t, ilt_f, ieq_t, ieq_f, iz_t, iz_f, ilt0, ige0, im1, Bool.false_eq_true, Bool.true_eq_false, if_true, if_false]
  · show RC (setCp A c (mdT A c) (aCp A c (fst5 (aAble A c)))) (hCP v y)
    rw [hq]
    exact h.cp hRy
theorem gives_m {A : AH} {b : Nat → Int64} {n : Nat} (h : RM A b) (hA : AI n A) (hn : n ≤ 8000) {c : Nat} (hp : aPoor A = some c) : ∃ b', f_X11_gives b (nI c) = some b' ∧ RM (spMend A c) b' := by
  obtain ⟨h1, h2, h3⟩ := poor_use hA hp
  have h30 : aMade A ≤ 30 := hA.2.2.2.2.2.2.1
  have hb := bst_in A (any5_t.mp h3)
  have hf := fst5_in (any5_t.mp h2)
  have hbe := best_m h hA hn (P := fun s => aUpB A s && !aAble A c s) (mend_out hA) (any5_t.mp h3)
  have hbe : f_X11_best b (nI (mN (fun s => aUpB A s && !aAble A c s) 5)) = some (nI (mdT A c)) := hbe
  have hb5 : mdT A c < 5 := hb.2.1
  have hcp := copy_m h h30 (s := fst5 (aAble A c)) (c := c) hf.1 h1
  refine ⟨_, ?_, h.cp h30 (c := c) (s := mdT A c) h1 hb5 (aCp A c (fst5 (aAble A c)))⟩
  simp (disch := omega) only [u_X11_gives, ables_m5 h hA hn h1, ups_m5 h hA, andn_n, hbe, least_n, hcp, ↓reduceIte, bt_do, bd_do, jn_eq, bI_z, gd_nI, gd_0, gd_1, nI_clamp, nI_add, nI_1, pk_mul, Nat.add_zero, Nat.zero_add, ile_t, ile_f, ilt_t, ilt_f, ieq_t, ieq_f, iz_t, iz_f, ilt0, ige0, im1, Bool.false_eq_true, Bool.true_eq_false, if_true, if_false]
