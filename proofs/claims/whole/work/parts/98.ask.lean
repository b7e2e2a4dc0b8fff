/-! PURE 98: what there is: counts and sets -/
theorem cN_t {P : Nat → Bool} {n : Nat} (h : P n = true) : cN P (n + 1) = cN P n + 1 := by rw [cN, if_pos h]
theorem cN_f {P : Nat → Bool} {n : Nat} (h : P n = false) : cN P (n + 1) = cN P n := by rw [cN, if_neg (by rw [h]; decide), Nat.add_zero]
theorem staleAt_c {A : AH} {v : HS} {n : Nat} (h : RC A v) (hA : AI n A) (hn : n ≤ 8000) {s : Nat} (hs : s < 5) : f_X5_staleAt v (nI s) = some (nI (cN (fun c => aStale A c s) (aMade A))) := by
  have h30 : aMade A ≤ 30 := hA.2.2.2.2.2.2.1
  have hw : v.2.2.2.2.2.2.1.1 = nI (aMade A) := h.2.2.1.1
  rw [u_X5_staleAt, jn_eq]
  refine lp_gen (fun i q => q = (nI (cN (fun c => aStale A c s) i), nI i)) (fun X => X = some (nI (cN (fun c => aStale A c s) (aMade A)))) (aMade A) (by omega) rfl ?_ ?_
  · rintro i q hi rfl
    left
    refine ⟨_, rfl, fun rec => ?_⟩
    have hst := isStale_c h hA hn hi hs
    cases e : aStale A i s
    · rw [e] at hst
      rw [cN_f (P := fun c => aStale A c s) e]
      simp (disch := omega) only [ubX5_staleAt_1, hw, hst, ↓reduceIte, bt_do, bd_do, jn_eq, bI_z, gd_nI, gd_0, gd_1, nI_clamp, nI_add, nI_1, pk_mul, Nat.add_zero, Nat.zero_add, ile_t, ile_f, ilt_t, ilt_f, ieq_t, ieq_f, iz_t, iz_f, ilt0, ige0, im1, Bool.false_eq_true, Bool.true_eq_false, if_true, if_false]
    · rw [e] at hst
      rw [cN_t (P := fun c => aStale A c s) e]
      simp (disch := omega) only [ubX5_staleAt_1, hw, hst, ↓reduceIte, bt_do, bd_do, jn_eq, bI_z, gd_nI, gd_0, gd_1, nI_clamp, nI_add, nI_1, pk_mul, Nat.add_zero, Nat.zero_add, ile_t, ile_f, ilt_t, ilt_f, ieq_t, ieq_f, iz_t, iz_f, ilt0, ige0, im1, Bool.false_eq_true, Bool.true_eq_false, if_true, if_false]
  · rintro q rfl
    refine ⟨_, rfl, fun rec => ?_⟩
    simp (disch := omega) only [ubX5_staleAt_1, hw, ↓reduceIte, bt_do, bd_do, jn_eq, bI_z, gd_nI, gd_0, gd_1, nI_clamp, nI_add, nI_1, pk_mul, Nat.add_zero, Nat.zero_add, ile_t, ile_f, ilt_t, ilt_f, ieq_t, ieq_f, iz_t, iz_f, ilt0, ige0, im1, Bool.false_eq_true, Bool.true_eq_false, if_true, if_false]
theorem lyingAs0_m {A : AH} {md : MD} {n : Nat} (h : RM A md.1) (hA : AI n A) (hn : n ≤ 8000) {s : Nat} (hs : s < 5) : f_X11_lyingAs md (nI s) (nI 0) = some (nI (cN (fun c => aStale A c s) (aMade A))) := by
  have h30 : aMade A ≤ 30 := hA.2.2.2.2.2.2.1
  have hw : md.1 6 = lN (aMade A) := h.1 6 (by omega)
  rw [u_X11_lyingAs, jn_eq]
  refine lp_gen (fun i q => q = (nI (cN (fun c => aStale A c s) i), nI i)) (fun X => X = some (nI (cN (fun c => aStale A c s) (aMade A)))) (aMade A) (by omega) rfl ?_ ?_
  · rintro i q hi rfl
    left
    refine ⟨_, rfl, fun rec => ?_⟩
    have hst := isStale_m h hA hn hi hs
    cases e : aStale A i s
    · rw [e] at hst
      rw [cN_f (P := fun c => aStale A c s) e]
      simp (disch := omega) only [ubX11_lyingAs_1, hw, hst, ↓reduceIte, bt_do, bd_do, jn_eq, bI_z, gd_nI, gd_0, gd_1, nI_clamp, nI_add, nI_1, pk_mul, Nat.add_zero, Nat.zero_add, ile_t, ile_f, ilt_t, ilt_f, ieq_t, ieq_f, iz_t, iz_f, ilt0, ige0, im1, Bool.false_eq_true, Bool.true_eq_false, if_true, if_false, lc_ge_t, lc_ge_f, lc_eq_t, lc_eq_f, lc_le_t, lc_le_f, lc_gt_t, lc_gt_f, lc_lt_t, lc_lt_f, nI_l, lN_i, lN_add, lN_1]
    · rw [e] at hst
      rw [cN_t (P := fun c => aStale A c s) e]
      simp (disch := omega) only [ubX11_lyingAs_1, hw, hst, ↓reduceIte, bt_do, bd_do, jn_eq, bI_z, gd_nI, gd_0, gd_1, nI_clamp, nI_add, nI_1, pk_mul, Nat.add_zero, Nat.zero_add, ile_t, ile_f, ilt_t, ilt_f, ieq_t, ieq_f, iz_t, iz_f, ilt0, ige0, im1, Bool.false_eq_true, Bool.true_eq_false, if_true, if_false, lc_ge_t, lc_ge_f, lc_eq_t, lc_eq_f, lc_le_t, lc_le_f, lc_gt_t, lc_gt_f, lc_lt_t, lc_lt_f, nI_l, lN_i, lN_add, lN_1]
  · rintro q rfl
    refine ⟨_, rfl, fun rec => ?_⟩
    simp (disch := omega) only [ubX11_lyingAs_1, hw, ↓reduceIte, bt_do, bd_do, jn_eq, bI_z, gd_nI, gd_0, gd_1, nI_clamp, nI_add, nI_1, pk_mul, Nat.add_zero, Nat.zero_add, ile_t, ile_f, ilt_t, ilt_f, ieq_t, ieq_f, iz_t, iz_f, ilt0, ige0, im1, Bool.false_eq_true, Bool.true_eq_false, if_true, if_false, lc_ge_t, lc_ge_f, lc_eq_t, lc_eq_f, lc_le_t, lc_le_f, lc_gt_t, lc_gt_f, lc_lt_t, lc_lt_f, nI_l, lN_i, lN_add, lN_1]
def aLF (A : AH) (s c : Nat) : Bool := aLie A s c && decide (aSh A c = 0)
theorem forgottenAt_c {A : AH} {v : HS} {n : Nat} (h : RC A v) (hA : AI n A) (hn : n ≤ 8000) {s : Nat} (hs : s < 5) : f_X5_forgottenAt v (nI s) = some (nI (cN (aLF A s) (aMade A))) := by
  have h30 : aMade A ≤ 30 := hA.2.2.2.2.2.2.1
  have hw : v.2.2.2.2.2.2.1.1 = nI (aMade A) := h.2.2.1.1
  rw [u_X5_forgottenAt, jn_eq]
  refine lp_gen (fun i q => q = (nI (cN (aLF A s) i), nI i)) (fun X => X = some (nI (cN (aLF A s) (aMade A)))) (aMade A) (by omega) rfl ?_ ?_
  · rintro i q hi rfl
    left
    refine ⟨_, rfl, fun rec => ?_⟩
    have hli := lies_c h.2.2.2.1 hA hn (c := i) (s := s) (by omega) hs
    have hfo := forgot_c h hA hi
    cases e : aLie A s i
    · rw [e] at hli
      rw [cN_f (P := aLF A s) (by unfold aLF; rw [e]; rfl)]
      simp (disch := omega) only [ubX5_forgottenAt_1, hw, hli, ↓reduceIte, bt_do, bd_do, jn_eq, bI_z, gd_nI, gd_0, gd_1, nI_clamp, nI_add, nI_1, pk_mul, Nat.add_zero, Nat.zero_add, ile_t, ile_f, ilt_t, ilt_f, ieq_t, ieq_f, iz_t, iz_f, ilt0, ige0, im1, Bool.false_eq_true, Bool.true_eq_false, if_true, if_false]
    · rw [e] at hli
      by_cases e2 : aSh A i = 0
      · rw [decide_eq_true e2] at hfo
        rw [cN_t (P := aLF A s) (by unfold aLF; rw [e, decide_eq_true e2]; rfl)]
        simp (disch := omega) only [ubX5_forgottenAt_1, hw, hli, hfo, ↓reduceIte, bt_do, bd_do, jn_eq, bI_z, gd_nI, gd_0, gd_1, nI_clamp, nI_add, nI_1, pk_mul, Nat.add_zero, Nat.zero_add, ile_t, ile_f, ilt_t, ilt_f, ieq_t, ieq_f, iz_t, iz_f, ilt0, ige0, im1, Bool.false_eq_true, Bool.true_eq_false, if_true, if_false]
      · rw [decide_eq_false e2] at hfo
        rw [cN_f (P := aLF A s) (by unfold aLF; rw [e, decide_eq_false e2]; rfl)]
        simp (disch := omega) only [ubX5_forgottenAt_1, hw, hli, hfo, ↓reduceIte, bt_do, bd_do, jn_eq, bI_z, gd_nI, gd_0, gd_1, nI_clamp, nI_add, nI_1, pk_mul, Nat.add_zero, Nat.zero_add, ile_t, ile_f, ilt_t, ilt_f, ieq_t, ieq_f, iz_t, iz_f, ilt0, ige0, im1, Bool.false_eq_true, Bool.true_eq_false, if_true, if_false]
  · rintro q rfl
    refine ⟨_, rfl, fun rec => ?_⟩
    simp (disch := omega) only [ubX5_forgottenAt_1, hw, ↓reduceIte, bt_do, bd_do, jn_eq, bI_z, gd_nI, gd_0, gd_1, nI_clamp, nI_add, nI_1, pk_mul, Nat.add_zero, Nat.zero_add, ile_t, ile_f, ilt_t, ilt_f, ieq_t, ieq_f, iz_t, iz_f, ilt0, ige0, im1, Bool.false_eq_true, Bool.true_eq_false, if_true, if_false]
theorem cp_0 {A : AH} {n : Nat} (hA : AI n A) (hn : n ≤ 8000) (c s : Nat) : (lg_cmp (cpM (aCp A c s)) (lN 0) = 0) = (aLie A s c = false) := by
  unfold aLie
  cases hq : aCp A c s with
  | none => exact propext ⟨fun _ => rfl, fun _ => (cmp0 _ _).mpr rfl⟩
  | some q =>
    have hk := cp_ok hA hn hq
    rw [cpM_some]
    exact propext ⟨fun e => absurd ((cmp0 _ _).mp e) (pk_0 hk.1 hk.2.1 hk.2.2.1), fun e => by cases e⟩
theorem lyingAs1_m {A : AH} {md : MD} {n : Nat} (h : RM A md.1) (hA : AI n A) (hn : n ≤ 8000) {s : Nat} (hs : s < 5) : f_X11_lyingAs md (nI s) (nI 1) = some (nI (cN (aLF A s) (aMade A))) := by
  have h30 : aMade A ≤ 30 := hA.2.2.2.2.2.2.1
  have hw : md.1 6 = lN (aMade A) := h.1 6 (by omega)
  rw [u_X11_lyingAs, jn_eq]
  refine lp_gen (fun i q => q = (nI (cN (aLF A s) i), nI i)) (fun X => X = some (nI (cN (aLF A s) (aMade A)))) (aMade A) (by omega) rfl ?_ ?_
  · rintro i q hi rfl
    left
    refine ⟨_, rfl, fun rec => ?_⟩
    have hsh := (h.2.2.2.1 i hi).2.1
    have hsl := sh_le hA hi
    have hcp := copy_m h h30 hs hi
    have hc0 := cp_0 hA hn i s
    by_cases e2 : aSh A i = 0
    · cases e : aLie A s i
      · rw [cN_f (P := aLF A s) (by unfold aLF; rw [e]; rfl)]
        simp (disch := omega) only [ubX11_lyingAs_1, hw, hsh, hcp, hc0, e, ↓reduceIte, bt_do, bd_do, jn_eq, bI_z, gd_nI, gd_0, gd_1, nI_clamp, nI_add, nI_1, pk_mul, Nat.add_zero, Nat.zero_add, ile_t, ile_f, ilt_t, ilt_f, ieq_t, ieq_f, iz_t, iz_f, ilt0, ige0, im1, Bool.false_eq_true, Bool.true_eq_false, if_true, if_false, lc_ge_t, lc_ge_f, lc_eq_t, lc_eq_f, lc_le_t, lc_le_f, lc_gt_t, lc_gt_f, lc_lt_t, lc_lt_f, nI_l, lN_i, lN_add, lN_1]
      · rw [cN_t (P := aLF A s) (by unfold aLF; rw [e, decide_eq_true e2]; rfl)]
        simp (disch := omega) only [ubX11_lyingAs_1, hw, hsh, hcp, hc0, e, ↓reduceIte, bt_do, bd_do, jn_eq, bI_z, gd_nI, gd_0, gd_1, nI_clamp, nI_add, nI_1, pk_mul, Nat.add_zero, Nat.zero_add, ile_t, ile_f, ilt_t, ilt_f, ieq_t, ieq_f, iz_t, iz_f, ilt0, ige0, im1, Bool.false_eq_true, Bool.true_eq_false, if_true, if_false, lc_ge_t, lc_ge_f, lc_eq_t, lc_eq_f, lc_le_t, lc_le_f, lc_gt_t, lc_gt_f, lc_lt_t, lc_lt_f, nI_l, lN_i, lN_add, lN_1]
    · rw [cN_f (P := aLF A s) (by unfold aLF; rw [decide_eq_false e2, Bool.and_false])]
      simp (disch := omega) only [ubX11_lyingAs_1, hw, hsh, ↓reduceIte, bt_do, bd_do, jn_eq, bI_z, gd_nI, gd_0, gd_1, nI_clamp, nI_add, nI_1, pk_mul, Nat.add_zero, Nat.zero_add, ile_t, ile_f, ilt_t, ilt_f, ieq_t, ieq_f, iz_t, iz_f, ilt0, ige0, im1, Bool.false_eq_true, Bool.true_eq_false, if_true, if_false, lc_ge_t, lc_ge_f, lc_eq_t, lc_eq_f, lc_le_t, lc_le_f, lc_gt_t, lc_gt_f, lc_lt_t, lc_lt_f, nI_l, lN_i, lN_add, lN_1]
  · rintro q rfl
    refine ⟨_, rfl, fun rec => ?_⟩
    simp (disch := omega) only [ubX11_lyingAs_1, hw, ↓reduceIte, bt_do, bd_do, jn_eq, bI_z, gd_nI, gd_0, gd_1, nI_clamp, nI_add, nI_1, pk_mul, Nat.add_zero, Nat.zero_add, ile_t, ile_f, ilt_t, ilt_f, ieq_t, ieq_f, iz_t, iz_f, ilt0, ige0, im1, Bool.false_eq_true, Bool.true_eq_false, if_true, if_false, lc_ge_t, lc_ge_f, lc_eq_t, lc_eq_f, lc_le_t, lc_le_f, lc_gt_t, lc_gt_f, lc_lt_t, lc_lt_f, nI_l, lN_i, lN_add, lN_1]
/-! sets of a chunk -/
theorem mN_t {P : Nat → Bool} {i : Nat} (hi : i < 30) (h : P i = true) : nI (mN P i) ||| ((nI 1) <<< (nI i &&& 31)) = nI (mN P (i + 1)) := by
  have := mN_succ P i
  rw [if_pos h] at this
  have e : (nI 1) <<< (nI i &&& 31) = nI (2 ^ i) := sh1 i (by omega)
  rw [e]
  exact this
theorem mN_f {P : Nat → Bool} {i : Nat} (h : P i = false) : nI (mN P i) ||| nI 0 = nI (mN P (i + 1)) := by
  have := mN_succ P i
  rw [h, if_neg (by decide)] at this
  exact this
theorem stale_c5 {A : AH} {v : HS} {n : Nat} (h : RC A v) (hA : AI n A) (hn : n ≤ 8000) {c : Nat} (hc : c < aMade A) : f_X5_stale v (nI c) = some (nI (mN (aStale A c) (nS A))) := by
  have h5 : nS A ≤ 5 := hA.1
  have hw : v.2.2.2.2.2.1.1 = nI (nS A) := h.2.1.1
  rw [u_X5_stale, jn_eq]
  refine lp_gen (fun i q => q = (nI (mN (aStale A c) i), nI i)) (fun X => X = some (nI (mN (aStale A c) (nS A)))) (nS A) (by omega) rfl ?_ ?_
  · rintro i q hi rfl
    left
    refine ⟨_, rfl, fun rec => ?_⟩
    have hst := isStale_c h hA hn hc (s := i) (by omega)
    cases e : aStale A c i
    · rw [e] at hst
      simp (disch := omega) only [ubX5_stale_1, hw, hst, mN_f e, ↓reduceIte, bt_do, bd_do, jn_eq, bI_z, gd_nI, gd_0, gd_1, nI_clamp, nI_add, nI_1, pk_mul, Nat.add_zero, Nat.zero_add, ile_t, ile_f, ilt_t, ilt_f, ieq_t, ieq_f, iz_t, iz_f, ilt0, ige0, im1, Bool.false_eq_true, Bool.true_eq_false, if_true, if_false]
    · rw [e] at hst
      simp (disch := omega) only [ubX5_stale_1, hw, hst, mN_t (show i < 30 by omega) e, ↓reduceIte, bt_do, bd_do, jn_eq, bI_z, gd_nI, gd_0, gd_1, nI_clamp, nI_add, nI_1, pk_mul, Nat.add_zero, Nat.zero_add, ile_t, ile_f, ilt_t, ilt_f, ieq_t, ieq_f, iz_t, iz_f, ilt0, ige0, im1, Bool.false_eq_true, Bool.true_eq_false, if_true, if_false]
  · rintro q rfl
    refine ⟨_, rfl, fun rec => ?_⟩
    simp (disch := omega) only [ubX5_stale_1, hw, ↓reduceIte, bt_do, bd_do, jn_eq, bI_z, gd_nI, gd_0, gd_1, nI_clamp, nI_add, nI_1, pk_mul, Nat.add_zero, Nat.zero_add, ile_t, ile_f, ilt_t, ilt_f, ieq_t, ieq_f, iz_t, iz_f, ilt0, ige0, im1, Bool.false_eq_true, Bool.true_eq_false, if_true, if_false]
theorem those0_m {A : AH} {md : MD} {n : Nat} (h : RM A md.1) (hA : AI n A) (hn : n ≤ 8000) {c : Nat} (hc : c < aMade A) : f_X11_thoseWith md (nI c) (nI 0) = some (nI (mN (aStale A c) (nS A))) := by
  have h5 : nS A ≤ 5 := hA.1
  have hw : md.1 0 = lN (nS A) := h.1 0 (by omega)
  rw [u_X11_thoseWith, jn_eq]
  refine lp_gen (fun i q => q = (nI (mN (aStale A c) i), nI i)) (fun X => X = some (nI (mN (aStale A c) (nS A)))) (nS A) (by omega) rfl ?_ ?_
  · rintro i q hi rfl
    left
    refine ⟨_, rfl, fun rec => ?_⟩
    have hst := isStale_m h hA hn hc (s := i) (by omega)
    cases e : aStale A c i
    · rw [e] at hst
      simp (disch := omega) only [ubX11_thoseWith_1, hw, hst, mN_f e, ↓reduceIte, bt_do, bd_do, jn_eq, bI_z, gd_nI, gd_0, gd_1, nI_clamp, nI_add, nI_1, pk_mul, Nat.add_zero, Nat.zero_add, ile_t, ile_f, ilt_t, ilt_f, ieq_t, ieq_f, iz_t, iz_f, ilt0, ige0, im1, Bool.false_eq_true, Bool.true_eq_false, if_true, if_false, lc_ge_t, lc_ge_f, lc_eq_t, lc_eq_f, lc_le_t, lc_le_f, lc_gt_t, lc_gt_f, lc_lt_t, lc_lt_f, nI_l, lN_i, lN_add, lN_1]
    · rw [e] at hst
      simp (disch := omega) only [ubX11_thoseWith_1, hw, hst, mN_t (show i < 30 by omega) e, ↓reduceIte, bt_do, bd_do, jn_eq, bI_z, gd_nI, gd_0, gd_1, nI_clamp, nI_add, nI_1, pk_mul, Nat.add_zero, Nat.zero_add, ile_t, ile_f, ilt_t, ilt_f, ieq_t, ieq_f, iz_t, iz_f, ilt0, ige0, im1, Bool.false_eq_true, Bool.true_eq_false, if_true, if_false, lc_ge_t, lc_ge_f, lc_eq_t, lc_eq_f, lc_le_t, lc_le_f, lc_gt_t, lc_gt_f, lc_lt_t, lc_lt_f, nI_l, lN_i, lN_add, lN_1]
  · rintro q rfl
    refine ⟨_, rfl, fun rec => ?_⟩
    simp (disch := omega) only [ubX11_thoseWith_1, hw, ↓reduceIte, bt_do, bd_do, jn_eq, bI_z, gd_nI, gd_0, gd_1, nI_clamp, nI_add, nI_1, pk_mul, Nat.add_zero, Nat.zero_add, ile_t, ile_f, ilt_t, ilt_f, ieq_t, ieq_f, iz_t, iz_f, ilt0, ige0, im1, Bool.false_eq_true, Bool.true_eq_false, if_true, if_false, lc_ge_t, lc_ge_f, lc_eq_t, lc_eq_f, lc_le_t, lc_le_f, lc_gt_t, lc_gt_f, lc_lt_t, lc_lt_f, nI_l, lN_i, lN_add, lN_1]
theorem those1_m {A : AH} {md : MD} {n : Nat} (h : RM A md.1) (hA : AI n A) (hn : n ≤ 8000) {c : Nat} (hc : c < aMade A) : f_X11_thoseWith md (nI c) (nI 1) = some (nI (mN (aGood A c) 5)) := by
  have h5 : nS A ≤ 5 := hA.1
  have hw : md.1 0 = lN (nS A) := h.1 0 (by omega)
  rw [← mN_ext h5 (good_out hA c), u_X11_thoseWith, jn_eq]
  refine lp_gen (fun i q => q = (nI (mN (aGood A c) i), nI i)) (fun X => X = some (nI (mN (aGood A c) (nS A)))) (nS A) (by omega) rfl ?_ ?_
  · rintro i q hi rfl
    left
    refine ⟨_, rfl, fun rec => ?_⟩
    have hst := isGood_m h hA hn hc (s := i) (by omega)
    cases e : aGood A c i
    · rw [e] at hst
      simp (disch := omega) only [ubX11_thoseWith_1, hw, hst, mN_f e, ↓reduceIte, bt_do, bd_do, jn_eq, bI_z, gd_nI, gd_0, gd_1, nI_clamp, nI_add, nI_1, pk_mul, Nat.add_zero, Nat.zero_add, ile_t, ile_f, ilt_t, ilt_f, ieq_t, ieq_f, iz_t, iz_f, ilt0, ige0, im1, Bool.false_eq_true, Bool.true_eq_false, if_true, if_false, lc_ge_t, lc_ge_f, lc_eq_t, lc_eq_f, lc_le_t, lc_le_f, lc_gt_t, lc_gt_f, lc_lt_t, lc_lt_f, nI_l, lN_i, lN_add, lN_1]
    · rw [e] at hst
      simp (disch := omega) only [ubX11_thoseWith_1, hw, hst, mN_t (show i < 30 by omega) e, ↓reduceIte, bt_do, bd_do, jn_eq, bI_z, gd_nI, gd_0, gd_1, nI_clamp, nI_add, nI_1, pk_mul, Nat.add_zero, Nat.zero_add, ile_t, ile_f, ilt_t, ilt_f, ieq_t, ieq_f, iz_t, iz_f, ilt0, ige0, im1, Bool.false_eq_true, Bool.true_eq_false, if_true, if_false, lc_ge_t, lc_ge_f, lc_eq_t, lc_eq_f, lc_le_t, lc_le_f, lc_gt_t, lc_gt_f, lc_lt_t, lc_lt_f, nI_l, lN_i, lN_add, lN_1]
  · rintro q rfl
    refine ⟨_, rfl, fun rec => ?_⟩
    simp (disch := omega) only [ubX11_thoseWith_1, hw, ↓reduceIte, bt_do, bd_do, jn_eq, bI_z, gd_nI, gd_0, gd_1, nI_clamp, nI_add, nI_1, pk_mul, Nat.add_zero, Nat.zero_add, ile_t, ile_f, ilt_t, ilt_f, ieq_t, ieq_f, iz_t, iz_f, ilt0, ige0, im1, Bool.false_eq_true, Bool.true_eq_false, if_true, if_false, lc_ge_t, lc_ge_f, lc_eq_t, lc_eq_f, lc_le_t, lc_le_f, lc_gt_t, lc_gt_f, lc_lt_t, lc_lt_f, nI_l, lN_i, lN_add, lN_1]
/-! files, chunks -/
def aIsB (A : AH) (w f : Nat) : Bool := decide (aIs A f = w)
theorem manyOf_c {A : AH} {v : HS} {n : Nat} (h : RC A v) (hA : AI n A) {w : Nat} (hw : w < 10) : f_X3_manyOf v.2.2.2.2.2.2.2.2 (nI w) = some (nI (cN (aIsB A w) 6)) := by
  rw [u_X3_manyOf, jn_eq]
  refine lp_gen (fun i q => q = (nI (cN (aIsB A w) i), nI i)) (fun X => X = some (nI (cN (aIsB A w) 6))) 6 (by omega) rfl ?_ ?_
  · rintro i q hi rfl
    left
    refine ⟨_, rfl, fun rec => ?_⟩
    have h1 := (h.2.2.2.2 i hi).1
    have h2 := (hA.2.2.2.2.2.2.2.2.2.2.1 i hi).1
    by_cases e : aIs A i = w
    · rw [cN_t (P := aIsB A w) (decide_eq_true e)]
      simp (disch := omega) only [ubX3_manyOf_1, h1, ↓reduceIte, bt_do, bd_do, jn_eq, bI_z, gd_nI, gd_0, gd_1, nI_clamp, nI_add, nI_1, pk_mul, Nat.add_zero, Nat.zero_add, ile_t, ile_f, ilt_t, ilt_f, ieq_t, ieq_f, iz_t, iz_f, ilt0, ige0, im1, Bool.false_eq_true, Bool.true_eq_false, if_true, if_false]
    · rw [cN_f (P := aIsB A w) (decide_eq_false e)]
      simp (disch := omega) only [ubX3_manyOf_1, h1, ↓reduceIte, bt_do, bd_do, jn_eq, bI_z, gd_nI, gd_0, gd_1, nI_clamp, nI_add, nI_1, pk_mul, Nat.add_zero, Nat.zero_add, ile_t, ile_f, ilt_t, ilt_f, ieq_t, ieq_f, iz_t, iz_f, ilt0, ige0, im1, Bool.false_eq_true, Bool.true_eq_false, if_true, if_false]
  · rintro q rfl
    refine ⟨_, rfl, fun rec => ?_⟩
    simp (disch := omega) only [ubX3_manyOf_1, ↓reduceIte, bt_do, bd_do, jn_eq, bI_z, gd_nI, gd_0, gd_1, nI_clamp, nI_add, nI_1, pk_mul, Nat.add_zero, Nat.zero_add, ile_t, ile_f, ilt_t, ilt_f, ieq_t, ieq_f, iz_t, iz_f, ilt0, ige0, im1, Bool.false_eq_true, Bool.true_eq_false, if_true, if_false]
theorem filesThat_m {A : AH} {md : MD} {n : Nat} (h : RM A md.1) (hA : AI n A) {w : Nat} (hw : w < 10) : f_X11_filesThat md (nI w) = some (nI (cN (aIsB A w) 6)) := by
  rw [u_X11_filesThat, jn_eq]
  refine lp_gen (fun i q => q = (nI (cN (aIsB A w) i), nI i)) (fun X => X = some (nI (cN (aIsB A w) 6))) 6 (by omega) rfl ?_ ?_
  · rintro i q hi rfl
    left
    refine ⟨_, rfl, fun rec => ?_⟩
    have h1 := (h.2.2.1 i hi).1
    have h2 := (hA.2.2.2.2.2.2.2.2.2.2.1 i hi).1
    by_cases e : aIs A i = w
    · rw [cN_t (P := aIsB A w) (decide_eq_true e)]
      simp (disch := omega) only [ubX11_filesThat_1, h1, ↓reduceIte, bt_do, bd_do, jn_eq, bI_z, gd_nI, gd_0, gd_1, nI_clamp, nI_add, nI_1, pk_mul, Nat.add_zero, Nat.zero_add, ile_t, ile_f, ilt_t, ilt_f, ieq_t, ieq_f, iz_t, iz_f, ilt0, ige0, im1, Bool.false_eq_true, Bool.true_eq_false, if_true, if_false, lc_ge_t, lc_ge_f, lc_eq_t, lc_eq_f, lc_le_t, lc_le_f, lc_gt_t, lc_gt_f, lc_lt_t, lc_lt_f, nI_l, lN_i, lN_add, lN_1]
    · rw [cN_f (P := aIsB A w) (decide_eq_false e)]
      simp (disch := omega) only [ubX11_filesThat_1, h1, ↓reduceIte, bt_do, bd_do, jn_eq, bI_z, gd_nI, gd_0, gd_1, nI_clamp, nI_add, nI_1, pk_mul, Nat.add_zero, Nat.zero_add, ile_t, ile_f, ilt_t, ilt_f, ieq_t, ieq_f, iz_t, iz_f, ilt0, ige0, im1, Bool.false_eq_true, Bool.true_eq_false, if_true, if_false, lc_ge_t, lc_ge_f, lc_eq_t, lc_eq_f, lc_le_t, lc_le_f, lc_gt_t, lc_gt_f, lc_lt_t, lc_lt_f, nI_l, lN_i, lN_add, lN_1]
  · rintro q rfl
    refine ⟨_, rfl, fun rec => ?_⟩
    simp (disch := omega) only [ubX11_filesThat_1, ↓reduceIte, bt_do, bd_do, jn_eq, bI_z, gd_nI, gd_0, gd_1, nI_clamp, nI_add, nI_1, pk_mul, Nat.add_zero, Nat.zero_add, ile_t, ile_f, ilt_t, ilt_f, ieq_t, ieq_f, iz_t, iz_f, ilt0, ige0, im1, Bool.false_eq_true, Bool.true_eq_false, if_true, if_false]
def aSh0 (A : AH) (c : Nat) : Bool := decide (aSh A c = 0)
theorem manyForgotten_c {A : AH} {v : HS} {n : Nat} (h : RC A v) (hA : AI n A) : f_X1_manyForgotten v.2.2.2.2.2.2.1 = some (nI (cN (aSh0 A) (aMade A))) := by
  have h30 : aMade A ≤ 30 := hA.2.2.2.2.2.2.1
  have hw : v.2.2.2.2.2.2.1.1 = nI (aMade A) := h.2.2.1.1
  rw [u_X1_manyForgotten, jn_eq]
  refine lp_gen (fun i q => q = (nI (cN (aSh0 A) i), nI i)) (fun X => X = some (nI (cN (aSh0 A) (aMade A)))) (aMade A) (by omega) rfl ?_ ?_
  · rintro i q hi rfl
    left
    refine ⟨_, rfl, fun rec => ?_⟩
    have h1 := (h.2.2.1.2 i hi).2.1
    have h2 := sh_le hA hi
    by_cases e : aSh A i = 0
    · rw [cN_t (P := aSh0 A) (decide_eq_true e)]
      simp (disch := omega) only [ubX1_manyForgotten_1, hw, h1, ↓reduceIte, bt_do, bd_do, jn_eq, bI_z, gd_nI, gd_0, gd_1, nI_clamp, nI_add, nI_1, pk_mul, Nat.add_zero, Nat.zero_add, ile_t, ile_f, ilt_t, ilt_f, ieq_t, ieq_f, iz_t, iz_f, ilt0, ige0, im1, Bool.false_eq_true, Bool.true_eq_false, if_true, if_false]
    · rw [cN_f (P := aSh0 A) (decide_eq_false e)]
      simp (disch := omega) only [ubX1_manyForgotten_1, hw, h1, ↓reduceIte, bt_do, bd_do, jn_eq, bI_z, gd_nI, gd_0, gd_1, nI_clamp, nI_add, nI_1, pk_mul, Nat.add_zero, Nat.zero_add, ile_t, ile_f, ilt_t, ilt_f, ieq_t, ieq_f, iz_t, iz_f, ilt0, ige0, im1, Bool.false_eq_true, Bool.true_eq_false, if_true, if_false]
  · rintro q rfl
    refine ⟨_, rfl, fun rec => ?_⟩
    simp (disch := omega) only [ubX1_manyForgotten_1, hw, ↓reduceIte, bt_do, bd_do, jn_eq, bI_z, gd_nI, gd_0, gd_1, nI_clamp, nI_add, nI_1, pk_mul, Nat.add_zero, Nat.zero_add, ile_t, ile_f, ilt_t, ilt_f, ieq_t, ieq_f, iz_t, iz_f, ilt0, ige0, im1, Bool.false_eq_true, Bool.true_eq_false, if_true, if_false]
theorem forgotten_m {A : AH} {md : MD} {n : Nat} (h : RM A md.1) (hA : AI n A) : f_X11_forgotten md = some (nI (cN (aSh0 A) (aMade A))) := by
  have h30 : aMade A ≤ 30 := hA.2.2.2.2.2.2.1
  have hw : md.1 6 = lN (aMade A) := h.1 6 (by omega)
  rw [u_X11_forgotten, jn_eq]
  refine lp_gen (fun i q => q = (nI (cN (aSh0 A) i), nI i)) (fun X => X = some (nI (cN (aSh0 A) (aMade A)))) (aMade A) (by omega) rfl ?_ ?_
  · rintro i q hi rfl
    left
    refine ⟨_, rfl, fun rec => ?_⟩
    have h1 := (h.2.2.2.1 i hi).2.1
    have h2 := sh_le hA hi
    by_cases e : aSh A i = 0
    · rw [cN_t (P := aSh0 A) (decide_eq_true e)]
      simp (disch := omega) only [ubX11_forgotten_1, hw, h1, ↓reduceIte, bt_do, bd_do, jn_eq, bI_z, gd_nI, gd_0, gd_1, nI_clamp, nI_add, nI_1, pk_mul, Nat.add_zero, Nat.zero_add, ile_t, ile_f, ilt_t, ilt_f, ieq_t, ieq_f, iz_t, iz_f, ilt0, ige0, im1, Bool.false_eq_true, Bool.true_eq_false, if_true, if_false, lc_ge_t, lc_ge_f, lc_eq_t, lc_eq_f, lc_le_t, lc_le_f, lc_gt_t, lc_gt_f, lc_lt_t, lc_lt_f, nI_l, lN_i, lN_add, lN_1]
    · rw [cN_f (P := aSh0 A) (decide_eq_false e)]
      simp (disch := omega) only [ubX11_forgotten_1, hw, h1, ↓reduceIte, bt_do, bd_do, jn_eq, bI_z, gd_nI, gd_0, gd_1, nI_clamp, nI_add, nI_1, pk_mul, Nat.add_zero, Nat.zero_add, ile_t, ile_f, ilt_t, ilt_f, ieq_t, ieq_f, iz_t, iz_f, ilt0, ige0, im1, Bool.false_eq_true, Bool.true_eq_false, if_true, if_false, lc_ge_t, lc_ge_f, lc_eq_t, lc_eq_f, lc_le_t, lc_le_f, lc_gt_t, lc_gt_f, lc_lt_t, lc_lt_f, nI_l, lN_i, lN_add, lN_1]
  · rintro q rfl
    refine ⟨_, rfl, fun rec => ?_⟩
    simp (disch := omega) only [ubX11_forgotten_1, hw, ↓reduceIte, bt_do, bd_do, jn_eq, bI_z, gd_nI, gd_0, gd_1, nI_clamp, nI_add, nI_1, pk_mul, Nat.add_zero, Nat.zero_add, ile_t, ile_f, ilt_t, ilt_f, ieq_t, ieq_f, iz_t, iz_f, ilt0, ige0, im1, Bool.false_eq_true, Bool.true_eq_false, if_true, if_false, lc_ge_t, lc_ge_f, lc_eq_t, lc_eq_f, lc_le_t, lc_le_f, lc_gt_t, lc_gt_f, lc_lt_t, lc_lt_f, nI_l, lN_i, lN_add, lN_1]
def aLyN (A : AH) (s : Nat) : Nat := cN (aLie A s) (aMade A)
def aStN (A : AH) (s : Nat) : Nat := cN (fun c => aStale A c s) (aMade A)
theorem allCopies_c {A : AH} {v : HS} {n : Nat} (h : RC A v) (hA : AI n A) (hn : n ≤ 8000) : f_X5_allCopies v = some (nI (sN (aLyN A) (nS A))) := by
  have h5 : nS A ≤ 5 := hA.1
  have hw : v.2.2.2.2.2.1.1 = nI (nS A) := h.2.1.1
  rw [u_X5_allCopies, jn_eq]
  refine lp_gen (fun i q => q = (nI (sN (aLyN A) i), nI i)) (fun X => X = some (nI (sN (aLyN A) (nS A)))) (nS A) (by omega) rfl ?_ ?_
  · rintro i q hi rfl
    left
    refine ⟨_, rfl, fun rec => ?_⟩
    have hm : f_X2_manyAt v.2.2.2.2.2.2.2.1 (nI i) = some (nI (aLyN A i)) := manyAt_c h.2.2.2.1 hA hn (by omega)
    simp (disch := omega) only [ubX5_allCopies_1, hw, hm, sN, ↓reduceIte, bt_do, bd_do, jn_eq, bI_z, gd_nI, gd_0, gd_1, nI_clamp, nI_add, nI_1, pk_mul, Nat.add_zero, Nat.zero_add, ile_t, ile_f, ilt_t, ilt_f, ieq_t, ieq_f, iz_t, iz_f, ilt0, ige0, im1, Bool.false_eq_true, Bool.true_eq_false, if_true, if_false]
  · rintro q rfl
    refine ⟨_, rfl, fun rec => ?_⟩
    simp (disch := omega) only [ubX5_allCopies_1, hw, ↓reduceIte, bt_do, bd_do, jn_eq, bI_z, gd_nI, gd_0, gd_1, nI_clamp, nI_add, nI_1, pk_mul, Nat.add_zero, Nat.zero_add, ile_t, ile_f, ilt_t, ilt_f, ieq_t, ieq_f, iz_t, iz_f, ilt0, ige0, im1, Bool.false_eq_true, Bool.true_eq_false, if_true, if_false]
theorem allLying_m {A : AH} {b : Nat → Int64} {n : Nat} (h : RM A b) (hA : AI n A) (hn : n ≤ 8000) : f_X11_allLying b = some (nI (sN (aLyN A) (nS A))) := by
  have h5 : nS A ≤ 5 := hA.1
  have hw : b 0 = lN (nS A) := h.1 0 (by omega)
  rw [u_X11_allLying, jn_eq]
  refine lp_gen (fun i q => q = (nI (sN (aLyN A) i), nI i)) (fun X => X = some (nI (sN (aLyN A) (nS A)))) (nS A) (by omega) rfl ?_ ?_
  · rintro i q hi rfl
    left
    refine ⟨_, rfl, fun rec => ?_⟩
    have hm : f_X11_lying b (nI i) = some (nI (aLyN A i)) := lying_m h hA hn (by omega)
    simp (disch := omega) only [ubX11_allLying_1, hw, hm, sN, ↓reduceIte, bt_do, bd_do, jn_eq, bI_z, gd_nI, gd_0, gd_1, nI_clamp, nI_add, nI_1, pk_mul, Nat.add_zero, Nat.zero_add, ile_t, ile_f, ilt_t, ilt_f, ieq_t, ieq_f, iz_t, iz_f, ilt0, ige0, im1, Bool.false_eq_true, Bool.true_eq_false, if_true, if_false, lc_ge_t, lc_ge_f, lc_eq_t, lc_eq_f, lc_le_t, lc_le_f, lc_gt_t, lc_gt_f, lc_lt_t, lc_lt_f, nI_l, lN_i, lN_add, lN_1]
  · rintro q rfl
    refine ⟨_, rfl, fun rec => ?_⟩
    simp (disch := omega) only [ubX11_allLying_1, hw, ↓reduceIte, bt_do, bd_do, jn_eq, bI_z, gd_nI, gd_0, gd_1, nI_clamp, nI_add, nI_1, pk_mul, Nat.add_zero, Nat.zero_add, ile_t, ile_f, ilt_t, ilt_f, ieq_t, ieq_f, iz_t, iz_f, ilt0, ige0, im1, Bool.false_eq_true, Bool.true_eq_false, if_true, if_false, lc_ge_t, lc_ge_f, lc_eq_t, lc_eq_f, lc_le_t, lc_le_f, lc_gt_t, lc_gt_f, lc_lt_t, lc_lt_f, nI_l, lN_i, lN_add, lN_1]
theorem allStale_c {A : AH} {v : HS} {n : Nat} (h : RC A v) (hA : AI n A) (hn : n ≤ 8000) : f_X5_allStale v = some (nI (sN (aStN A) (nS A))) := by
  have h5 : nS A ≤ 5 := hA.1
  have hw : v.2.2.2.2.2.1.1 = nI (nS A) := h.2.1.1
  rw [u_X5_allStale, jn_eq]
  refine lp_gen (fun i q => q = (nI (sN (aStN A) i), nI i)) (fun X => X = some (nI (sN (aStN A) (nS A)))) (nS A) (by omega) rfl ?_ ?_
  · rintro i q hi rfl
    left
    refine ⟨_, rfl, fun rec => ?_⟩
    have hm : f_X5_staleAt v (nI i) = some (nI (aStN A i)) := staleAt_c h hA hn (by omega)
    simp (disch := omega) only [ubX5_allStale_1, hw, hm, sN, ↓reduceIte, bt_do, bd_do, jn_eq, bI_z, gd_nI, gd_0, gd_1, nI_clamp, nI_add, nI_1, pk_mul, Nat.add_zero, Nat.zero_add, ile_t, ile_f, ilt_t, ilt_f, ieq_t, ieq_f, iz_t, iz_f, ilt0, ige0, im1, Bool.false_eq_true, Bool.true_eq_false, if_true, if_false]
  · rintro q rfl
    refine ⟨_, rfl, fun rec => ?_⟩
    simp (disch := omega) only [ubX5_allStale_1, hw, ↓reduceIte, bt_do, bd_do, jn_eq, bI_z, gd_nI, gd_0, gd_1, nI_clamp, nI_add, nI_1, pk_mul, Nat.add_zero, Nat.zero_add, ile_t, ile_f, ilt_t, ilt_f, ieq_t, ieq_f, iz_t, iz_f, ilt0, ige0, im1, Bool.false_eq_true, Bool.true_eq_false, if_true, if_false]
theorem stales_m {A : AH} {md : MD} {n : Nat} (h : RM A md.1) (hA : AI n A) (hn : n ≤ 8000) : f_X11_stales md = some (nI (sN (aStN A) (nS A))) := by
  have h5 : nS A ≤ 5 := hA.1
  have hw : md.1 0 = lN (nS A) := h.1 0 (by omega)
  rw [u_X11_stales, jn_eq]
  refine lp_gen (fun i q => q = (nI (sN (aStN A) i), nI i)) (fun X => X = some (nI (sN (aStN A) (nS A)))) (nS A) (by omega) rfl ?_ ?_
  · rintro i q hi rfl
    left
    refine ⟨_, rfl, fun rec => ?_⟩
    have hm : f_X11_lyingAs md (nI i) (nI 0) = some (nI (aStN A i)) := lyingAs0_m h hA hn (by omega)
    simp (disch := omega) only [ubX11_stales_1, hw, hm, sN, ↓reduceIte, bt_do, bd_do, jn_eq, bI_z, gd_nI, gd_0, gd_1, nI_clamp, nI_add, nI_1, pk_mul, Nat.add_zero, Nat.zero_add, ile_t, ile_f, ilt_t, ilt_f, ieq_t, ieq_f, iz_t, iz_f, ilt0, ige0, im1, Bool.false_eq_true, Bool.true_eq_false, if_true, if_false, lc_ge_t, lc_ge_f, lc_eq_t, lc_eq_f, lc_le_t, lc_le_f, lc_gt_t, lc_gt_f, lc_lt_t, lc_lt_f, nI_l, lN_i, lN_add, lN_1]
  · rintro q rfl
    refine ⟨_, rfl, fun rec => ?_⟩
    simp (disch := omega) only [ubX11_stales_1, hw, ↓reduceIte, bt_do, bd_do, jn_eq, bI_z, gd_nI, gd_0, gd_1, nI_clamp, nI_add, nI_1, pk_mul, Nat.add_zero, Nat.zero_add, ile_t, ile_f, ilt_t, ilt_f, ieq_t, ieq_f, iz_t, iz_f, ilt0, ige0, im1, Bool.false_eq_true, Bool.true_eq_false, if_true, if_false, lc_ge_t, lc_ge_f, lc_eq_t, lc_eq_f, lc_le_t, lc_le_f, lc_gt_t, lc_gt_f, lc_lt_t, lc_lt_f, nI_l, lN_i, lN_add, lN_1]
/-! letters and pads in good copies -/
def isCl (pads : Bool) (x : Nat) : Bool := if pads = true then decide (x = 27) else decide (1 ≤ x ∧ x ≤ 26)
def ceN (A : AH) (pads : Bool) (c s : Nat) : Nat := if aGood A c s = true then (match aCp A c s with
  | none => 0
  | some q => cN (fun i => isCl pads (q.2.2 i)) 9) else 0
theorem isL_d : ∀ x, x < 28 → f_X10_isLetter (cv x) = decide (1 ≤ x ∧ x ≤ 26) ∧ (cv x = 0 ↔ x = 27) := by decide +kernel
theorem letters_c {A : AH} {x : CP} (h : RCP A x) {c s : Nat} (hc : c < 30) (hs : s < 5) {q : CPY} (hq : aCp A c s = some q) (h27 : ∀ i, q.2.2 i ≤ 27) : f_X2_lettersIn x (nI s) (nI c) = some (nI (cN (fun i => isCl false (q.2.2 i)) 9)) := by
  have h0 := h.is hc hs hq
  rw [u_X2_lettersIn, jn_eq]
  refine lp_gen (fun i z => z = (nI (cN (fun i => isCl false (q.2.2 i)) i), nI i)) (fun X => X = some (nI (cN (fun i => isCl false (q.2.2 i)) 9))) 9 (by omega) rfl ?_ ?_
  · rintro i z hi rfl
    left
    refine ⟨_, rfl, fun rec => ?_⟩
    have hd := (isL_d (q.2.2 i) (by have := h27 i; omega)).1
    have hce : f_X2_cell x (nI s) (nI c) (nI i) = some (cv (q.2.2 i)) := by rw [cell_e hs hc hi, h0.2.2 i hi]
    cases e : decide (1 ≤ q.2.2 i ∧ q.2.2 i ≤ 26)
    · rw [e] at hd
      rw [cN_f (P := fun i => isCl false (q.2.2 i)) e]
      simp (disch := omega) only [ubX2_lettersIn_1, hce, hd, ↓reduceIte, bt_do, bd_do, jn_eq, bI_z, gd_nI, gd_0, gd_1, nI_clamp, nI_add, nI_1, pk_mul, Nat.add_zero, Nat.zero_add, ile_t, ile_f, ilt_t, ilt_f, ieq_t, ieq_f, iz_t, iz_f, ilt0, ige0, im1, Bool.false_eq_true, Bool.true_eq_false, if_true, if_false]
    · rw [e] at hd
      rw [cN_t (P := fun i => isCl false (q.2.2 i)) e]
      simp (disch := omega) only [ubX2_lettersIn_1, hce, hd, ↓reduceIte, bt_do, bd_do, jn_eq, bI_z, gd_nI, gd_0, gd_1, nI_clamp, nI_add, nI_1, pk_mul, Nat.add_zero, Nat.zero_add, ile_t, ile_f, ilt_t, ilt_f, ieq_t, ieq_f, iz_t, iz_f, ilt0, ige0, im1, Bool.false_eq_true, Bool.true_eq_false, if_true, if_false]
  · rintro z rfl
    refine ⟨_, rfl, fun rec => ?_⟩
    simp (disch := omega) only [ubX2_lettersIn_1, ↓reduceIte, bt_do, bd_do, jn_eq, bI_z, gd_nI, gd_0, gd_1, nI_clamp, nI_add, nI_1, pk_mul, Nat.add_zero, Nat.zero_add, ile_t, ile_f, ilt_t, ilt_f, ieq_t, ieq_f, iz_t, iz_f, ilt0, ige0, im1, Bool.false_eq_true, Bool.true_eq_false, if_true, if_false]
theorem pads_c {A : AH} {x : CP} (h : RCP A x) {c s : Nat} (hc : c < 30) (hs : s < 5) {q : CPY} (hq : aCp A c s = some q) (h27 : ∀ i, q.2.2 i ≤ 27) : f_X2_padsIn x (nI s) (nI c) = some (nI (cN (fun i => isCl true (q.2.2 i)) 9)) := by
  have h0 := h.is hc hs hq
  rw [u_X2_padsIn, jn_eq]
  refine lp_gen (fun i z => z = (nI (cN (fun i => isCl true (q.2.2 i)) i), nI i)) (fun X => X = some (nI (cN (fun i => isCl true (q.2.2 i)) 9))) 9 (by omega) rfl ?_ ?_
  · rintro i z hi rfl
    left
    refine ⟨_, rfl, fun rec => ?_⟩
    have hd := (isL_d (q.2.2 i) (by have := h27 i; omega)).2
    have hce : f_X2_cell x (nI s) (nI c) (nI i) = some (cv (q.2.2 i)) := by rw [cell_e hs hc hi, h0.2.2 i hi]
    by_cases e : q.2.2 i = 27
    · have e1 := hd.mpr e
      rw [cN_t (P := fun i => isCl true (q.2.2 i)) (decide_eq_true e)]
      simp (disch := omega) only [ubX2_padsIn_1, hce, e1, ↓reduceIte, bt_do, bd_do, jn_eq, bI_z, gd_nI, gd_0, gd_1, nI_clamp, nI_add, nI_1, pk_mul, Nat.add_zero, Nat.zero_add, ile_t, ile_f, ilt_t, ilt_f, ieq_t, ieq_f, iz_t, iz_f, ilt0, ige0, im1, Bool.false_eq_true, Bool.true_eq_false, if_true, if_false]
    · have e1 := mt hd.mp e
      rw [cN_f (P := fun i => isCl true (q.2.2 i)) (decide_eq_false e)]
      simp (disch := omega) only [ubX2_padsIn_1, hce, e1, ↓reduceIte, bt_do, bd_do, jn_eq, bI_z, gd_nI, gd_0, gd_1, nI_clamp, nI_add, nI_1, pk_mul, Nat.add_zero, Nat.zero_add, ile_t, ile_f, ilt_t, ilt_f, ieq_t, ieq_f, iz_t, iz_f, ilt0, ige0, im1, Bool.false_eq_true, Bool.true_eq_false, if_true, if_false]
  · rintro z rfl
    refine ⟨_, rfl, fun rec => ?_⟩
    simp (disch := omega) only [ubX2_padsIn_1, ↓reduceIte, bt_do, bd_do, jn_eq, bI_z, gd_nI, gd_0, gd_1, nI_clamp, nI_add, nI_1, pk_mul, Nat.add_zero, Nat.zero_add, ile_t, ile_f, ilt_t, ilt_f, ieq_t, ieq_f, iz_t, iz_f, ilt0, ige0, im1, Bool.false_eq_true, Bool.true_eq_false, if_true, if_false]
def ceC (A : AH) (pads : Bool) (c : Nat) : Nat := sN (ceN A pads c) 5
theorem ceN_out {A : AH} {n : Nat} (hA : AI n A) (pads : Bool) (c : Nat) : ∀ s, nS A ≤ s → ceN A pads c s = 0 := by
  intro s hs
  unfold ceN
  rw [good_out hA c s hs, if_neg (by decide)]
theorem sN_more {g : Nat → Nat} {n : Nat} (d : Nat) (h : ∀ s, n ≤ s → g s = 0) : sN g (n + d) = sN g n := by
  induction d with
  | zero => rfl
  | succ d ih =>
    show sN g (n + d + 1) = _
    rw [sN, h (n + d) (by omega), ih, Nat.add_zero]
def pI (pads : Bool) : Nat := if pads = true then 0 else 1
theorem goodCells_c {A : AH} {v : HS} {n : Nat} (h : RC A v) (hA : AI n A) (hn : n ≤ 8000) (pads : Bool) : f_X5_goodCells v (nI (pI pads)) = some (nI (sN (ceC A pads) (aMade A))) := by
  have h5 : nS A ≤ 5 := hA.1
  have h30 : aMade A ≤ 30 := hA.2.2.2.2.2.2.1
  have hw : v.2.2.2.2.2.1.1 = nI (nS A) := h.2.1.1
  have hm : v.2.2.2.2.2.2.1.1 = nI (aMade A) := h.2.2.1.1
  rw [u_X5_goodCells, jn_eq]
  refine lp_gen (fun i q => q = (nI (sN (ceC A pads) i), nI i)) (fun X => X = some (nI (sN (ceC A pads) (aMade A)))) (aMade A) (by omega) rfl ?_ ?_
  · rintro c q hc rfl
    left
    refine ⟨_, rfl, fun rec => ?_⟩
    have hgd := good_c5 h hA hn hc
    have hin : lpF (bX5_goodCells_4 v (nI (mN (aGood A c) 5)) (nI (pI pads)) (nI (sN (ceC A pads) c), nI c) (fun q4 : Int32 × Int32 => rec (q4.1, nI (c + 1)))) FU (nI (sN (ceC A pads) c), nI 0) = rec (nI (sN (ceC A pads) (c + 1)), nI (c + 1)) := by
      refine lp_gen (fun i q => q = (nI (sN (ceC A pads) c + sN (ceN A pads c) i), nI i)) (fun X => X = rec (nI (sN (ceC A pads) (c + 1)), nI (c + 1))) (nS A) (by omega) rfl ?_ ?_
      · rintro i q hi rfl
        left
        refine ⟨_, rfl, fun rec2 => ?_⟩
        have hI : f_X10_isIn (nI (mN (aGood A c) 5)) (nI i) = aGood A c i := isIn_n _ (by omega)
        rw [sN]
        by_cases e : aGood A c i = true
        · obtain ⟨q, hq, _⟩ := good_cp e
          have h27 := (hA.2.2.2.2.2.2.2.2.2.2.2.2.2 c i q hq).2.2.2.2.1
          have hce : ceN A pads c i = cN (fun i => isCl pads (q.2.2 i)) 9 := by
            unfold ceN
            rw [if_pos e, hq]
          rw [hce]
          cases pads
          · have hl := letters_c h.2.2.2.1 (c := c) (s := i) (by omega) (by omega) hq h27
            simp (disch := omega) only [ubX5_goodCells_4, hw, hI, e, hl, pI, ↓reduceIte, bt_do, bd_do, jn_eq, bI_z, gd_nI, gd_0, gd_1, nI_clamp, nI_add, nI_1, pk_mul, Nat.add_zero, Nat.zero_add, ile_t, ile_f, ilt_t, ilt_f, ieq_t, ieq_f, iz_t, iz_f, ilt0, ige0, im1, Bool.false_eq_true, Bool.true_eq_false, if_true, if_false, Nat.add_assoc]
          · have hl := pads_c h.2.2.2.1 (c := c) (s := i) (by omega) (by omega) hq h27
            simp (disch := omega) only [ubX5_goodCells_4, hw, hI, e, hl, pI, ↓reduceIte, bt_do, bd_do, jn_eq, bI_z, gd_nI, gd_0, gd_1, nI_clamp, nI_add, nI_1, pk_mul, Nat.add_zero, Nat.zero_add, ile_t, ile_f, ilt_t, ilt_f, ieq_t, ieq_f, iz_t, iz_f, ilt0, ige0, im1, Bool.false_eq_true, Bool.true_eq_false, if_true, if_false, Nat.add_assoc]
        · have hce : ceN A pads c i = 0 := by
            unfold ceN
            rw [if_neg e]
          rw [hce, Nat.add_zero]
          simp (disch := omega) only [ubX5_goodCells_4, hw, hI, bF e, ↓reduceIte, bt_do, bd_do, jn_eq, bI_z, gd_nI, gd_0, gd_1, nI_clamp, nI_add, nI_1, pk_mul, Nat.add_zero, Nat.zero_add, ile_t, ile_f, ilt_t, ilt_f, ieq_t, ieq_f, iz_t, iz_f, ilt0, ige0, im1, Bool.false_eq_true, Bool.true_eq_false, if_true, if_false]
      · rintro q rfl
        refine ⟨_, rfl, fun rec2 => ?_⟩
        have e5 : sN (ceC A pads) (c + 1) = sN (ceC A pads) c + sN (ceN A pads c) (nS A) := by
          rw [sN]
          unfold ceC
          have := sN_more (5 - nS A) (ceN_out hA pads c)
          rw [show nS A + (5 - nS A) = 5 by omega] at this
          rw [this]
        rw [e5]
        simp (disch := omega) only [ubX5_goodCells_4, hw, ↓reduceIte, bt_do, bd_do, jn_eq, bI_z, gd_nI, gd_0, gd_1, nI_clamp, nI_add, nI_1, pk_mul, Nat.add_zero, Nat.zero_add, ile_t, ile_f, ilt_t, ilt_f, ieq_t, ieq_f, iz_t, iz_f, ilt0, ige0, im1, Bool.false_eq_true, Bool.true_eq_false, if_true, if_false]
    rw [← hin]
    simp (disch := omega) only [ubX5_goodCells_1, hm, hgd, ↓reduceIte, bt_do, bd_do, jn_eq, bI_z, gd_nI, gd_0, gd_1, nI_clamp, nI_add, nI_1, pk_mul, Nat.add_zero, Nat.zero_add, ile_t, ile_f, ilt_t, ilt_f, ieq_t, ieq_f, iz_t, iz_f, ilt0, ige0, im1, Bool.false_eq_true, Bool.true_eq_false, if_true, if_false]
  · rintro q rfl
    refine ⟨_, rfl, fun rec => ?_⟩
    simp (disch := omega) only [ubX5_goodCells_1, hm, ↓reduceIte, bt_do, bd_do, jn_eq, bI_z, gd_nI, gd_0, gd_1, nI_clamp, nI_add, nI_1, pk_mul, Nat.add_zero, Nat.zero_add, ile_t, ile_f, ilt_t, ilt_f, ieq_t, ieq_f, iz_t, iz_f, ilt0, ige0, im1, Bool.false_eq_true, Bool.true_eq_false, if_true, if_false]
