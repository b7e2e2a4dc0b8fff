/-! PURE 90: what is filled, padded, written -/
def aFil (A : AH) (c s : Nat) : Nat := match aCp A c s with
  | none => 0
  | some q => q.2.1
def gfN (A : AH) (c : Nat) : Nat → Nat
  | 0 => 0
  | s + 1 => if aAble A c s = true then max (gfN A c s) (aFil A c s) else gfN A c s
def aGf (A : AH) (c : Nat) : Nat := gfN A c 5
theorem gfN_ext {A : AH} {c n : Nat} (d : Nat) (h : ∀ s, n ≤ s → aAble A c s = false) : gfN A c (n + d) = gfN A c n := by
  induction d with
  | zero => rfl
  | succ d ih =>
    show gfN A c (n + d + 1) = _
    rw [gfN, h (n + d) (by omega), if_neg (by decide), ih]
theorem fil_le {A : AH} {n : Nat} (hA : AI n A) (c s : Nat) : aFil A c s ≤ aSize A := by
  unfold aFil
  cases h : aCp A c s with
  | none => exact Nat.zero_le _
  | some q => exact (hA.2.2.2.2.2.2.2.2.2.2.2.2.2 c s q h).2.2.2.1
theorem gfN_le {A : AH} {n : Nat} (hA : AI n A) (c s : Nat) : gfN A c s ≤ aSize A := by
  induction s with
  | zero => exact Nat.zero_le _
  | succ s ih =>
    rw [gfN]
    have := fil_le hA c s
    split
    · exact Nat.max_le.mpr ⟨ih, this⟩
    · exact ih
theorem gf_le {A : AH} {n : Nat} (hA : AI n A) (c : Nat) : aGf A c ≤ aSize A := gfN_le hA c 5
theorem fil_c {A : AH} {v : HS} (h : RC A v) {c s : Nat} (hc : c < 30) (hs : s < 5) (ha : aAble A c s = true) : f_X2_filledOf v.2.2.2.2.2.2.2.1 (nI s) (nI c) = some (nI (aFil A c s)) := by
  obtain ⟨q, hq, _⟩ := able_cp ha
  rw [filled_e hs hc, (h.2.2.2.1.is hc hs hq).2.1]
  unfold aFil
  rw [hq]
theorem gf_c {A : AH} {v : HS} {n : Nat} (h : RC A v) (hA : AI n A) (hn : n ≤ 8000) {c : Nat} (hc : c < aMade A) : f_X5_greatestFilled v (nI c) = some (nI (aGf A c)) := by
  have h30 : aMade A ≤ 30 := hA.2.2.2.2.2.2.1
  have h5 : nS A ≤ 5 := hA.1
  have h9 : aSize A ≤ 9 := hA.2.2.1
  have hv : v.2.2.2.2.2.1.1 = nI (nS A) := h.2.1.1
  have e5 : aGf A c = gfN A c (nS A) := by
    have := gfN_ext (5 - nS A) (able_out hA c)
    rw [show nS A + (5 - nS A) = 5 by omega] at this
    exact this
  rw [u_X5_greatestFilled, bd_at (able_c5 h hA hn hc), jn_eq, e5]
  refine lp_gen (fun i q => q = (nI (gfN A c i), nI i)) (fun X => X = some (nI (gfN A c (nS A)))) (nS A) (by omega) rfl ?_ ?_
  · rintro i q hi rfl
    left
    refine ⟨_, rfl, fun rec => ?_⟩
    have hg := gfN_le hA c i
    have hf := fil_le hA c i
    have hin : f_X10_isIn (nI (mN (aAble A c) 5)) (nI i) = aAble A c i := isIn_n _ (by omega)
    rw [gfN]
    by_cases ha : aAble A c i = true
    · rw [if_pos ha]
      by_cases e : gfN A c i < aFil A c i
      · rw [show max (gfN A c i) (aFil A c i) = aFil A c i by omega]
        simp (disch := omega) only [ubX5_greatestFilled_2, hv, hin, ha, fil_c h (show c < 30 by omega) (show i < 5 by omega) ha, ↓reduceIte, bt_do, bd_do, jn_eq, bI_z, gd_nI, gd_0, gd_1, nI_clamp, nI_add, nI_1, pk_mul, Nat.add_zero, Nat.zero_add, ile_t, ile_f, ilt_t, ilt_f, ieq_t, ieq_f, iz_t, iz_f, ilt0, ige0, im1, Bool.false_eq_true, Bool.true_eq_false, if_true, if_false]
      · rw [show max (gfN A c i) (aFil A c i) = gfN A c i by omega]
        simp (disch := omega) only [ubX5_greatestFilled_2, hv, hin, ha, fil_c h (show c < 30 by omega) (show i < 5 by omega) ha, ↓reduceIte, bt_do, bd_do, jn_eq, bI_z, gd_nI, gd_0, gd_1, nI_clamp, nI_add, nI_1, pk_mul, Nat.add_zero, Nat.zero_add, ile_t, ile_f, ilt_t, ilt_f, ieq_t, ieq_f, iz_t, iz_f, ilt0, ige0, im1, Bool.false_eq_true, Bool.true_eq_false, if_true, if_false]
    · rw [if_neg ha]
      simp (disch := omega) only [ubX5_greatestFilled_2, hv, hin, bF ha, ↓reduceIte, bt_do, bd_do, jn_eq, bI_z, gd_nI, gd_0, gd_1, nI_clamp, nI_add, nI_1, pk_mul, Nat.add_zero, Nat.zero_add, ile_t, ile_f, ilt_t, ilt_f, ieq_t, ieq_f, iz_t, iz_f, ilt0, ige0, im1, Bool.false_eq_true, Bool.true_eq_false, if_true, if_false]
  · rintro q rfl
    refine ⟨_, rfl, fun rec => ?_⟩
    simp (disch := omega) only [ubX5_greatestFilled_2, hv, ↓reduceIte, bt_do, bd_do, jn_eq, bI_z, gd_nI, gd_0, gd_1, nI_clamp, nI_add, nI_1, pk_mul, Nat.add_zero, Nat.zero_add, ile_t, ile_f, ilt_t, ilt_f, ieq_t, ieq_f, iz_t, iz_f, ilt0, ige0, im1, Bool.false_eq_true, Bool.true_eq_false, if_true, if_false]
theorem gf_m {A : AH} {b : Nat → Int64} {n : Nat} (h : RM A b) (hA : AI n A) (hn : n ≤ 8000) {c : Nat} (hc : c < aMade A) : f_X11_greatestFilled b (nI c) = some (nI (aGf A c)) := by
  have h30 : aMade A ≤ 30 := hA.2.2.2.2.2.2.1
  have h5 : nS A ≤ 5 := hA.1
  have h9 : aSize A ≤ 9 := hA.2.2.1
  have h0 : b 0 = lN (nS A) := h.1 0 (by omega)
  rw [u_X11_greatestFilled, jn_eq]
  unfold aGf
  refine lp_gen (fun i q => q = (nI (gfN A c i), nI i)) (fun X => X = some (nI (gfN A c 5))) 5 (by omega) rfl ?_ ?_
  · rintro i q hi rfl
    left
    refine ⟨_, rfl, fun rec => ?_⟩
    have hg := gfN_le hA c i
    have hf := fil_le hA c i
    have hab := isAble_m h hA hn hc hi
    rw [gfN]
    by_cases ha : aAble A c i = true
    · have hin := (able_in hA ha).1
      obtain ⟨q, hq, _⟩ := able_cp ha
      have hk := cp_ok hA hn hq
      have hcp := copy_m h h30 hi hc
      rw [hq, cpM_some] at hcp
      have hfi : f_X11_filled (lN (pk q)) = nI (aFil A c i) := by
        rw [filled_pk hk.1 hk.2.1 hk.2.2.1]
        unfold aFil
        rw [hq]
      rw [if_pos ha]
      by_cases e : gfN A c i < aFil A c i
      · rw [show max (gfN A c i) (aFil A c i) = aFil A c i by omega]
        simp (disch := omega) only [ubX11_greatestFilled_1, h0, hab, ha, hcp, hfi, ↓reduceIte, bt_do, bd_do, jn_eq, bI_z, gd_nI, gd_0, gd_1, nI_clamp, nI_add, nI_1, pk_mul, Nat.add_zero, Nat.zero_add, ile_t, ile_f, ilt_t, ilt_f, ieq_t, ieq_f, iz_t, iz_f, ilt0, ige0, im1, Bool.false_eq_true, Bool.true_eq_false, if_true, if_false, lc_ge_t, lc_ge_f, lc_eq_t, lc_eq_f, lc_le_t, lc_le_f, lc_gt_t, lc_gt_f, lc_lt_t, lc_lt_f, nI_l, lN_i, lN_add, lN_1]
      · rw [show max (gfN A c i) (aFil A c i) = gfN A c i by omega]
        simp (disch := omega) only [ubX11_greatestFilled_1, h0, hab, ha, hcp, hfi, ↓reduceIte, bt_do, bd_do, jn_eq, bI_z, gd_nI, gd_0, gd_1, nI_clamp, nI_add, nI_1, pk_mul, Nat.add_zero, Nat.zero_add, ile_t, ile_f, ilt_t, ilt_f, ieq_t, ieq_f, iz_t, iz_f, ilt0, ige0, im1, Bool.false_eq_true, Bool.true_eq_false, if_true, if_false, lc_ge_t, lc_ge_f, lc_eq_t, lc_eq_f, lc_le_t, lc_le_f, lc_gt_t, lc_gt_f, lc_lt_t, lc_lt_f, nI_l, lN_i, lN_add, lN_1]
    · rw [if_neg ha]
      by_cases e : i < nS A
      · simp (disch := omega) only [ubX11_greatestFilled_1, h0, hab, bF ha, ↓reduceIte, bt_do, bd_do, jn_eq, bI_z, gd_nI, gd_0, gd_1, nI_clamp, nI_add, nI_1, pk_mul, Nat.add_zero, Nat.zero_add, ile_t, ile_f, ilt_t, ilt_f, ieq_t, ieq_f, iz_t, iz_f, ilt0, ige0, im1, Bool.false_eq_true, Bool.true_eq_false, if_true, if_false, lc_ge_t, lc_ge_f, lc_eq_t, lc_eq_f, lc_le_t, lc_le_f, lc_gt_t, lc_gt_f, lc_lt_t, lc_lt_f, nI_l, lN_i, lN_add, lN_1]
      · simp (disch := omega) only [ubX11_greatestFilled_1, h0, ↓reduceIte, bt_do, bd_do, jn_eq, bI_z, gd_nI, gd_0, gd_1, nI_clamp, nI_add, nI_1, pk_mul, Nat.add_zero, Nat.zero_add, ile_t, ile_f, ilt_t, ilt_f, ieq_t, ieq_f, iz_t, iz_f, ilt0, ige0, im1, Bool.false_eq_true, Bool.true_eq_false, if_true, if_false, lc_ge_t, lc_ge_f, lc_eq_t, lc_eq_f, lc_le_t, lc_le_f, lc_gt_t, lc_gt_f, lc_lt_t, lc_lt_f, nI_l, lN_i, lN_add, lN_1]
  · rintro q rfl
    refine ⟨_, rfl, fun rec => ?_⟩
    simp (disch := omega) only [ubX11_greatestFilled_1, ↓reduceIte, bt_do, bd_do, jn_eq, bI_z, gd_nI, gd_0, gd_1, nI_clamp, nI_add, nI_1, pk_mul, Nat.add_zero, Nat.zero_add, ile_t, ile_f, ilt_t, ilt_f, ieq_t, ieq_f, iz_t, iz_f, ilt0, ige0, im1, Bool.false_eq_true, Bool.true_eq_false, if_true, if_false]
/-! pads -/
def pdG (A : AH) (c fr s : Nat) : Option CPY := if aAble A c s = true then (aCp A c s).map (fun q => (q.1, aSize A, pdC q.2.2 fr (aSize A))) else aCp A c s
abbrev spPad (A : AH) (c fr : Nat) : AH := mapCp A c (pdG A c fr)
theorem pdG_no {A : AH} {c fr s : Nat} (h : aAble A c s = false) : pdG A c fr s = aCp A c s := by
  unfold pdG
  rw [h, if_neg (by decide)]
theorem pdG_yes {A : AH} {c fr s : Nat} (h : aAble A c s = true) {q : CPY} (hq : aCp A c s = some q) : pdG A c fr s = some (q.1, aSize A, pdC q.2.2 fr (aSize A)) := by
  unfold pdG
  rw [h, if_pos rfl, hq]
  rfl
theorem pdG_hg {A : AH} {n : Nat} (hA : AI n A) {c fr : Nat} : ∀ s q, pdG A c fr s = some q → s < nS A ∧ okC (aSize A) (aVer A c) q := by
  intro s q e
  by_cases ha : aAble A c s = true
  · obtain ⟨q0, hq0, _⟩ := able_cp ha
    rw [pdG_yes ha hq0] at e
    cases e
    have h1 := hA.2.2.2.2.2.2.2.2.2.2.2.2.2 c s q0 hq0
    refine ⟨h1.2.1, h1.2.2.1, Nat.le_refl _, fun i => ?_, fun i hi => ?_⟩
    · have := pdC_32 (fr := fr) (sz := aSize A) (m := 28) (by omega) (fun i => Nat.lt_succ_of_le (h1.2.2.2.2.1 i)) i
      show pdC q0.2.2 fr (aSize A) i ≤ 27
      omega
    · show pdC q0.2.2 fr (aSize A) i = 0
      unfold pdC
      rw [if_neg (by omega)]
      exact h1.2.2.2.2.2 i hi
  · rw [pdG_no (bF ha)] at e
    exact (hA.2.2.2.2.2.2.2.2.2.2.2.2.2 c s q e).2
theorem AI.pad {A : AH} {n : Nat} (hA : AI n A) {c fr : Nat} (hc : c < aMade A) : AI n (spPad A c fr) := hA.map hc (pdG_hg hA)
theorem pad_all_c {A : AH} {v : HS} {n : Nat} (h : RC A v) (hA : AI n A) (hn : n ≤ 8000) {c fr : Nat} (hc : c < aMade A) (hf : fr ≤ aSize A) : ∃ v', f_X5_padAll v (nI c) (nI fr) = some v' ∧ RC (spPad A c fr) v' := by
  have h30 : aMade A ≤ 30 := hA.2.2.2.2.2.2.1
  have h5 : nS A ≤ 5 := hA.1
  have h9 : aSize A ≤ 9 := hA.2.2.1
  rw [u_X5_padAll, bd_at (able_c5 h hA hn hc), jn_eq]
  refine lp_gen (fun i q => q.1 = nI i ∧ RC (mapI A c (pdG A c fr) i) q.2) (fun X => ∃ v', X = some v' ∧ RC (spPad A c fr) v') (nS A) (by omega) ⟨rfl, by rw [mapI_0]; exact h⟩ ?_ ?_
  · intro i q hi hR
    obtain ⟨q1, w⟩ := q
    obtain ⟨h1, h2⟩ := hR
    dsimp only at h1 h2
    subst h1
    have hw : w.2.2.2.2.2.1.1 = nI (nS A) := h2.2.1.1
    have hz : w.2.1 = nI (aSize A) := h2.1.2.1
    have hin : f_X10_isIn (nI (mN (aAble A c) 5)) (nI i) = aAble A c i := isIn_n _ (by omega)
    left
    by_cases ha : aAble A c i = true
    · obtain ⟨q0, hq0, _⟩ := able_cp ha
      have e0 : aCp (mapI A c (pdG A c fr) i) c i = some q0 := by rw [mapI_at, if_neg (by omega)]; exact hq0
      have h27 := (hA.2.2.2.2.2.2.2.2.2.2.2.2.2 c i q0 hq0).2.2.2.2.1
      obtain ⟨y, hy, hRy⟩ := pad_c h2.2.2.2.1 (s := i) (c := c) (fr := fr) (size := aSize A) (by omega) (by omega) hf h9 e0 h27
      refine ⟨(nI (i + 1), hCP w y), ⟨rfl, ?_⟩, fun rec => ?_⟩
      · rw [mapI_s, pdG_yes ha hq0]
        exact h2.cp hRy
      · simp (disch := omega) only [ubX5_padAll_2, hw, hin, ha, hz, hy, hCP, ↓reduceIte, bt_do, bd_do, jn_eq, bI_z, gd_nI, gd_0, gd_1, nI_clamp, nI_add, nI_1, pk_mul, Nat.add_zero, Nat.zero_add, ile_t, ile_f, ilt_t, ilt_f, ieq_t, ieq_f, iz_t, iz_f, ilt0, ige0, im1, Bool.false_eq_true, Bool.true_eq_false, if_true, if_false]
    · refine ⟨(nI (i + 1), w), ⟨rfl, by rw [mapI_n (pdG_no (bF ha))]; exact h2⟩, fun rec => ?_⟩
      simp (disch := omega) only [ubX5_padAll_2, hw, hin, bF ha, ↓reduceIte, bt_do, bd_do, jn_eq, bI_z, gd_nI, gd_0, gd_1, nI_clamp, nI_add, nI_1, pk_mul, Nat.add_zero, Nat.zero_add, ile_t, ile_f, ilt_t, ilt_f, ieq_t, ieq_f, iz_t, iz_f, ilt0, ige0, im1, Bool.false_eq_true, Bool.true_eq_false, if_true, if_false]
  · intro q hR
    obtain ⟨q1, w⟩ := q
    obtain ⟨h1, h2⟩ := hR
    dsimp only at h1 h2
    subst h1
    have hw : w.2.2.2.2.2.1.1 = nI (nS A) := h2.2.1.1
    rw [mapI_e (fun s hs => pdG_no (able_out hA c s hs))] at h2
    refine ⟨_, ⟨w, rfl, h2⟩, fun rec => ?_⟩
    simp (disch := omega) only [ubX5_padAll_2, hw, ↓reduceIte, bt_do, bd_do, jn_eq, bI_z, gd_nI, gd_0, gd_1, nI_clamp, nI_add, nI_1, pk_mul, Nat.add_zero, Nat.zero_add, ile_t, ile_f, ilt_t, ilt_f, ieq_t, ieq_f, iz_t, iz_f, ilt0, ige0, im1, Bool.false_eq_true, Bool.true_eq_false, if_true, if_false]
theorem good_ext {A B : AH} {c s : Nat} (e1 : aCp B c s = aCp A c s) (e2 : aVer B c = aVer A c) : aGood B c s = aGood A c s := by
  unfold aGood
  rw [e1, e2]
theorem able_ext {A B : AH} {c s : Nat} (e1 : aCp B c s = aCp A c s) (e2 : aVer B c = aVer A c) (e3 : aUp B s = aUp A s) : aAble B c s = aAble A c s := by
  unfold aAble
  rw [good_ext e1 e2, e3]
theorem pads_m {A : AH} {b : Nat → Int64} {n : Nat} (h : RM A b) (hA : AI n A) (hn : n ≤ 8000) {c fr : Nat} (hc : c < aMade A) (hf : fr ≤ aSize A) : ∃ b', f_X11_pads b (nI c) (nI fr) = some b' ∧ RM (spPad A c fr) b' := by
  have h30 : aMade A ≤ 30 := hA.2.2.2.2.2.2.1
  have h5 : nS A ≤ 5 := hA.1
  have h9 : aSize A ≤ 9 := hA.2.2.1
  rw [u_X11_pads, jn_eq]
  refine lp_gen (fun i q => q.1 = nI i ∧ RM (mapI A c (pdG A c fr) i) q.2) (fun X => ∃ b', X = some b' ∧ RM (spPad A c fr) b') (nS A) (by omega) ⟨rfl, by rw [mapI_0]; exact h⟩ ?_ ?_
  · intro i q hi hR
    obtain ⟨q1, w⟩ := q
    obtain ⟨h1, h2⟩ := hR
    dsimp only at h1 h2
    subst h1
    have h0 : w 0 = lN (nS A) := h2.1 0 (by omega)
    have hz : w 2 = lN (aSize A) := h2.1 2 (by omega)
    have hAi := hA.mapI hc (pdG_hg hA (c := c) (fr := fr)) i
    have e0 : aCp (mapI A c (pdG A c fr) i) c i = aCp A c i := by rw [mapI_at, if_neg (by omega)]
    have hab := isAble_m h2 hAi hn hc (s := i) (by omega)
    have hae : aAble (mapI A c (pdG A c fr) i) c i = aAble A c i := able_ext e0 rfl rfl
    rw [hae] at hab
    left
    by_cases ha : aAble A c i = true
    · obtain ⟨q0, hq0, _⟩ := able_cp ha
      have hk := cp_ok hA hn hq0
      have hcp := copy_m h2 h30 (s := i) (c := c) (by omega) hc
      rw [e0, hq0, cpM_some] at hcp
      have hR2 := h2.cp h30 (c := c) (s := i) hc (by omega) (pdG A c fr i)
      rw [← mapI_s, pdG_yes ha hq0, cpM_some] at hR2
      refine ⟨(nI (i + 1), vp_updL w (190 + 5 * c + i) (lN (pk (q0.1, aSize A, pdC q0.2.2 fr (aSize A))))), ⟨rfl, hR2⟩, fun rec => ?_⟩
      simp (disch := omega) only [ubX11_pads_1, h0, hab, ha, hcp, hz, ↓reduceIte, bt_do, bd_do, jn_eq, bI_z, gd_nI, gd_0, gd_1, nI_clamp, nI_add, nI_1, pk_mul, Nat.add_zero, Nat.zero_add, ile_t, ile_f, ilt_t, ilt_f, ieq_t, ieq_f, iz_t, iz_f, ilt0, ige0, im1, Bool.false_eq_true, Bool.true_eq_false, if_true, if_false, lc_ge_t, lc_ge_f, lc_eq_t, lc_eq_f, lc_le_t, lc_le_f, lc_gt_t, lc_gt_f, lc_lt_t, lc_lt_f, nI_l, lN_i, lN_add, lN_1, withF_pk hk.1 hk.2.1 hk.2.2.1 (show aSize A < 16 by omega)]
      rw [pads_in (q1 := (nI i, w)) hz hf h9 hk.1 hk.2.2.1]
    · refine ⟨(nI (i + 1), w), ⟨rfl, by rw [mapI_n (pdG_no (bF ha))]; exact h2⟩, fun rec => ?_⟩
      simp (disch := omega) only [ubX11_pads_1, h0, hab, bF ha, ↓reduceIte, bt_do, bd_do, jn_eq, bI_z, gd_nI, gd_0, gd_1, nI_clamp, nI_add, nI_1, pk_mul, Nat.add_zero, Nat.zero_add, ile_t, ile_f, ilt_t, ilt_f, ieq_t, ieq_f, iz_t, iz_f, ilt0, ige0, im1, Bool.false_eq_true, Bool.true_eq_false, if_true, if_false, lc_ge_t, lc_ge_f, lc_eq_t, lc_eq_f, lc_le_t, lc_le_f, lc_gt_t, lc_gt_f, lc_lt_t, lc_lt_f, nI_l, lN_i, lN_add, lN_1]
  · intro q hR
    obtain ⟨q1, w⟩ := q
    obtain ⟨h1, h2⟩ := hR
    dsimp only at h1 h2
    subst h1
    have h0 : w 0 = lN (nS A) := h2.1 0 (by omega)
    rw [mapI_e (fun s hs => pdG_no (able_out hA c s hs))] at h2
    refine ⟨_, ⟨w, rfl, h2⟩, fun rec => ?_⟩
    simp (disch := omega) only [ubX11_pads_1, h0, ↓reduceIte, bt_do, bd_do, jn_eq, bI_z, gd_nI, gd_0, gd_1, nI_clamp, nI_add, nI_1, pk_mul, Nat.add_zero, Nat.zero_add, ile_t, ile_f, ilt_t, ilt_f, ieq_t, ieq_f, iz_t, iz_f, ilt0, ige0, im1, Bool.false_eq_true, Bool.true_eq_false, if_true, if_false, lc_ge_t, lc_ge_f, lc_eq_t, lc_eq_f, lc_le_t, lc_le_f, lc_gt_t, lc_gt_f, lc_lt_t, lc_lt_f, nI_l, lN_i, lN_add, lN_1]
