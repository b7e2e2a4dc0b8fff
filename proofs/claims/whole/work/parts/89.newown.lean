/-! PURE 89: a new chunk of a file; a chunk made a file's own -/
theorem none_at {A : AH} {n : Nat} (hA : AI n A) (s : Nat) : aCp A (aMade A) s = none := by
  cases h : aCp A (aMade A) s with
  | none => rfl
  | some q =>
    have := (hA.2.2.2.2.2.2.2.2.2.2.2.2.2 _ _ _ h).1
    omega
def nwG (P : Nat → Bool) (s : Nat) : Option CPY := if P s = true then some (1, 0, fun _ => 0) else none
abbrev spNew (A : AH) (f : Nat) : AH := addCh (mapCp (mkA A) (aMade A) (nwG (aTg A (aKind A f)))) f (aMade A)
theorem pk_1 : lN (pk (1, 0, fun _ => 0)) = f_X11_withVersion (lN 4611686018427387904) (lN 1) := by
  have e : (4611686018427387904 : Nat) = pk (0, 0, fun _ => 0) := by
    unfold pk
    rw [pkC9]
    simp only [Nat.zero_mul, Nat.mul_zero, Nat.add_zero, Nat.reducePow]
  rw [e, withV_pk (by decide) (by decide) (fun i => by show 0 < 32; omega) (by decide)]
/-- what stays true when a file gets a chunk more -/
theorem AI.add {n : Nat} {A : AH} (h : AI n A) {f : Nat} (hf : f < 6) (hm : aMade A < 30) (h4 : aMany A f < 4) (hi : ¬ aIs A f = 0) {g : Nat → Option CPY} (hg : ∀ s q, g s = some q → s < nS A ∧ okC (aSize A) 1 q) : AI n (addCh (mapCp (mkA A) (aMade A) g) f (aMade A)) := by
  have hno := none_at h
  obtain ⟨a1, a2, a3, a4, a5, a6, a7, a8, a9, a10, a11, a12, a13, a14⟩ := h
  have hz : aCnt A (aMade A) = 0 := aCnt_no (fun f k hf hk => by
    have := (a11 f hf).2.2.2.2.2 k hk
    omega)
  have hcnt : ∀ c, aCnt (addCh (mapCp (mkA A) (aMade A) g) f (aMade A)) c = aCnt A c + (if aMade A = c then 1 else 0) := fun c => aCnt_add (A := mapCp (mkA A) (aMade A) g) hf h4 c
  refine ⟨a1, a2, a3, a4, a5, a6, ?_, a8, a9, a10, fun f' hf' => ?_, fun c hc => ?_, fun c hh t hc e => ?_, fun c s q e => ?_⟩
  · show aMade (mkA A) ≤ 30
    rw [made_mk]; omega
  · have h1 := a11 f' hf'
    refine ⟨h1.1, ?_, fun e => ?_, h1.2.2.2.1, h1.2.2.2.2.1, fun k hk => ?_⟩
    · show upO (aMany A) f (aMany A f + 1) f' ≤ 4
      by_cases e : f' = f
      · subst e; rw [up_s]; omega
      · rw [up_n e]; exact h1.2.1
    · show upO (aMany A) f (aMany A f + 1) f' = 0
      by_cases e2 : f' = f
      · subst e2; exact absurd e hi
      · rw [up_n e2]; exact h1.2.2.1 e
    · show upO (aCh A) f (upO (aCh A f) (aMany A f) (aMade A)) f' k < aMade (mkA A)
      rw [made_mk]
      have hk : k < upO (aMany A) f (aMany A f + 1) f' := hk
      by_cases e : f' = f
      · subst e
        rw [up_s] at hk ⊢
        by_cases e2 : k = aMany A f'
        · rw [e2, up_s]; omega
        · rw [up_n e2]
          have := h1.2.2.2.2.2 k (by omega)
          omega
      · rw [up_n e] at hk ⊢
        have := h1.2.2.2.2.2 k hk
        omega
  · have hc : c < aMade (mkA A) := hc
    rw [made_mk] at hc
    rw [hcnt c]
    show 1 ≤ upO (aVer A) (aMade A) 1 c ∧ upO (aVer A) (aMade A) 1 c ≤ 1 + n ∧ upO (aSh A) (aMade A) 1 c = _
    by_cases e : c = aMade A
    · subst e
      rw [up_s, up_s, hz, if_pos rfl]
      exact ⟨by omega, by omega, rfl⟩
    · rw [up_n e, up_n e, if_neg (fun q => e q.symm)]
      exact a12 c (by omega)
  · have hc : c < aMade (mkA A) := hc
    rw [made_mk] at hc
    have e : upO (aLs A) (aMade A) none c = some (hh, t) := e
    by_cases k : c = aMade A
    · rw [k, up_s] at e; cases e
    · rw [up_n k] at e; exact a13 c hh t (by omega) e
  · have e : upO (aCp A) (aMade A) g c s = some q := e
    show c < aMade (mkA A) ∧ s < nS A ∧ okC (aSize A) (upO (aVer A) (aMade A) 1 c) q
    rw [made_mk]
    by_cases k : c = aMade A
    · subst k
      rw [up_s] at e ⊢
      exact ⟨by omega, hg s q e⟩
    · rw [up_n k] at e ⊢
      have := a14 c s q e
      exact ⟨by omega, this.2⟩
theorem nwG_ok {A : AH} {n : Nat} (hA : AI n A) {k : Nat} : ∀ s q, nwG (aTg A k) s = some q → s < nS A ∧ okC (aSize A) 1 q := by
  intro s q e
  unfold nwG at e
  by_cases hp : aTg A k s = true
  · rw [if_pos hp] at e
    cases e
    have hu := aTg_up hp
    refine ⟨?_, Nat.le_refl _, Nat.zero_le _, fun i => Nat.zero_le _, fun i _ => rfl⟩
    by_cases q : s < nS A
    · exact q
    · have := up_out hA s (by omega)
      unfold aUpB at hu
      rw [this] at hu; cases hu
  · rw [if_neg hp] at e; cases e
theorem AI.new {n : Nat} {A : AH} (h : AI n A) {f : Nat} (hf : f < 6) (hm : aMade A < 30) (h4 : aMany A f < 4) (hi : ¬ aIs A f = 0) : AI n (spNew A f) := h.add hf hm h4 hi (nwG_ok h)
theorem nwG_no {A : AH} {n : Nat} (hA : AI n A) {P : Nat → Bool} {s : Nat} (h : P s = false) : nwG P s = aCp (mkA A) (aMade A) s := by
  unfold nwG
  rw [h, if_neg (by decide)]
  exact (none_at hA s).symm
theorem nwG_yes {P : Nat → Bool} {s : Nat} (h : P s = true) : nwG P s = some (1, 0, fun _ => 0) := by
  unfold nwG
  rw [h, if_pos rfl]
theorem aTg_out {A : AH} {n : Nat} (hA : AI n A) (k : Nat) : ∀ s, nS A ≤ s → aTg A k s = false := by
  intro s hs
  cases hp : aTg A k s
  · rfl
  · have h1 := aTg_up hp
    unfold aUpB at h1
    rw [up_out hA s hs] at h1; cases h1
/-! the class -/
theorem new_full_c {A : AH} {v : HS} {n : Nat} (h : RC A v) (hA : AI n A) {f : Nat} (hf : f < 6) (hx : aMade A = 30 ∨ aMany A f = 4) : f_X5_addNewChunk v (nI f) = some (-1000003, v) := by
  have h30 : aMade A ≤ 30 := hA.2.2.2.2.2.2.1
  have h4 := (hA.2.2.2.2.2.2.2.2.2.2.1 f hf).2.1
  by_cases e : aMade A = 30
  · simp (disch := omega) only [u_X5_addNewChunk, full_c h h30, decide_eq_true e, ↓reduceIte, bt_do, bd_do, jn_eq, bI_z, gd_nI, gd_0, gd_1, nI_clamp, nI_add, nI_1, pk_mul, Nat.add_zero, Nat.zero_add, ile_t, ile_f, ilt_t, ilt_f, ieq_t, ieq_f, iz_t, iz_f, ilt0, ige0, im1, Bool.false_eq_true, Bool.true_eq_false, if_true, if_false]
  · have e2 : aMany A f = 4 := by omega
    simp (disch := omega) only [u_X5_addNewChunk, full_c h h30, decide_eq_false e, fullF_c h hf h4, decide_eq_true e2, ↓reduceIte, bt_do, bd_do, jn_eq, bI_z, gd_nI, gd_0, gd_1, nI_clamp, nI_add, nI_1, pk_mul, Nat.add_zero, Nat.zero_add, ile_t, ile_f, ilt_t, ilt_f, ieq_t, ieq_f, iz_t, iz_f, ilt0, ige0, im1, Bool.false_eq_true, Bool.true_eq_false, if_true, if_false]
theorem new_lost_c {A : AH} {v : HS} {n : Nat} (h : RC A v) (hA : AI n A) (hn : n ≤ 8000) (hw : 1 ≤ A.1 1) {f : Nat} (hf : f < 6) (hi : ¬ aIs A f = 0) (hm : aMade A < 30) (hk : aMany A f < 4) (hx : any5 (aUpB A) = false) : f_X5_addNewChunk v (nI f) = some (-1000004, v) := by
  have h30 : aMade A ≤ 30 := hA.2.2.2.2.2.2.1
  have h4 := (hA.2.2.2.2.2.2.2.2.2.2.1 f hf)
  have hkd := h4.2.2.2.1 hi
  have hkv := (h.2.2.2.2 f hf).2.1 hi
  have hp := places_c h hA hn (k := aKind A f) (by omega)
  have ht : any5 (aTg A (aKind A f)) = false := by
    rw [aTg_any (by unfold aWant; split; omega; split <;> omega), hx]
  simp (disch := omega) only [u_X5_addNewChunk, full_c h h30, decide_eq_false (show ¬ aMade A = 30 by omega), fullF_c h hf h4.2.1, decide_eq_false (show ¬ aMany A f = 4 by omega), hkv, hp, any5_z, ht, ↓reduceIte, bt_do, bd_do, jn_eq, bI_z, gd_nI, gd_0, gd_1, nI_clamp, nI_add, nI_1, pk_mul, Nat.add_zero, Nat.zero_add, ile_t, ile_f, ilt_t, ilt_f, ieq_t, ieq_f, iz_t, iz_f, ilt0, ige0, im1, Bool.false_eq_true, Bool.true_eq_false, if_true, if_false]
theorem new_c {A : AH} {v : HS} {n : Nat} (h : RC A v) (hA : AI n A) (hn : n ≤ 8000) (hw : 1 ≤ A.1 1) {f : Nat} (hf : f < 6) (hi : ¬ aIs A f = 0) (hm : aMade A < 30) (hk : aMany A f < 4) (hx : any5 (aUpB A) = true) : ∃ v', f_X5_addNewChunk v (nI f) = some (nI 0, v') ∧ RC (spNew A f) v' := by
  have h30 : aMade A ≤ 30 := hA.2.2.2.2.2.2.1
  have h5 : nS A ≤ 5 := hA.1
  have h4 := (hA.2.2.2.2.2.2.2.2.2.2.1 f hf)
  have hkd := h4.2.2.2.1 hi
  have hkv := (h.2.2.2.2 f hf).2.1 hi
  have hp := places_c h hA hn (k := aKind A f) (by omega)
  have ht : any5 (aTg A (aKind A f)) = true := by
    rw [aTg_any (by unfold aWant; split; omega; split <;> omega), hx]
  obtain ⟨y, hy, hR1⟩ := make_c h hm
  have hgive : ∀ s, s < nS A → f_X10_isIn (nI (mN (aTg A (aKind A f)) 5)) (nI s) = aTg A (aKind A f) s := fun s hs => isIn_n _ (by omega)
  simp (disch := omega) only [u_X5_addNewChunk, full_c h h30, decide_eq_false (show ¬ aMade A = 30 by omega), fullF_c h hf h4.2.1, decide_eq_false (show ¬ aMany A f = 4 by omega), hkv, hp, any5_z, ht, hy, ↓reduceIte, bt_do, bd_do, jn_eq, bI_z, gd_nI, gd_0, gd_1, nI_clamp, nI_add, nI_1, pk_mul, Nat.add_zero, Nat.zero_add, ile_t, ile_f, ilt_t, ilt_f, ieq_t, ieq_f, iz_t, iz_f, ilt0, ige0, im1, Bool.false_eq_true, Bool.true_eq_false, if_true, if_false]
  refine lp_gen (fun i q => q.1 = nI i ∧ RC (mapI (mkA A) (aMade A) (nwG (aTg A (aKind A f))) i) q.2) (fun X => ∃ v', X = some (nI 0, v') ∧ RC (spNew A f) v') (nS A) (by omega) ?_ ?_ ?_
  · refine ⟨rfl, ?_⟩
    rw [mapI_0]
    exact hR1
  · intro i q hi hR
    obtain ⟨q1, w⟩ := q
    obtain ⟨h1, h2⟩ := hR
    dsimp only at h1 h2
    subst h1
    have hw : w.2.2.2.2.2.1.1 = nI (nS A) := h2.2.1.1
    left
    by_cases ha : aTg A (aKind A f) i = true
    · obtain ⟨y, hy, hRy⟩ := lay_c h2.2.2.2.1 (s := i) (c := aMade A) (by omega) (by omega)
      refine ⟨(nI (i + 1), hCP w y), ⟨rfl, ?_⟩, fun rec => ?_⟩
      · rw [mapI_s, nwG_yes ha]
        exact h2.cp hRy
      · simp (disch := omega) only [ubX5_addNewChunk_8, hw, hgive i hi, ha, hy, ↓reduceIte, bt_do, bd_do, jn_eq, bI_z, gd_nI, gd_0, gd_1, nI_clamp, nI_add, nI_1, pk_mul, Nat.add_zero, Nat.zero_add, ile_t, ile_f, ilt_t, ilt_f, ieq_t, ieq_f, iz_t, iz_f, ilt0, ige0, im1, Bool.false_eq_true, Bool.true_eq_false, if_true, if_false]
    · refine ⟨(nI (i + 1), w), ⟨rfl, by rw [mapI_n (nwG_no hA (bF ha))]; exact h2⟩, fun rec => ?_⟩
      simp (disch := omega) only [ubX5_addNewChunk_8, hw, hgive i hi, bF ha, ↓reduceIte, bt_do, bd_do, jn_eq, bI_z, gd_nI, gd_0, gd_1, nI_clamp, nI_add, nI_1, pk_mul, Nat.add_zero, Nat.zero_add, ile_t, ile_f, ilt_t, ilt_f, ieq_t, ieq_f, iz_t, iz_f, ilt0, ige0, im1, Bool.false_eq_true, Bool.true_eq_false, if_true, if_false]
  · intro q hR
    obtain ⟨q1, w⟩ := q
    obtain ⟨h1, h2⟩ := hR
    dsimp only at h1 h2
    subst h1
    rw [mapI_e (fun s hs => nwG_no hA (aTg_out hA _ s hs))] at h2
    have hw : w.2.2.2.2.2.1.1 = nI (nS A) := h2.2.1.1
    obtain ⟨y, hy, hRy⟩ := addCh_c h2 (x := aMade A) hf hk
    refine ⟨_, ⟨_, rfl, hRy⟩, fun rec => ?_⟩
    simp (disch := omega) only [ubX5_addNewChunk_8, hw, hy, ↓reduceIte, bt_do, bd_do, jn_eq, bI_z, gd_nI, gd_0, gd_1, nI_clamp, nI_add, nI_1, pk_mul, Nat.add_zero, Nat.zero_add, ile_t, ile_f, ilt_t, ilt_f, ieq_t, ieq_f, iz_t, iz_f, ilt0, ige0, im1, Bool.false_eq_true, Bool.true_eq_false, if_true, if_false]
/-! the model -/
theorem many_r {A : AH} {b : Nat → Int64} (h : RM A b) {f : Nat} (hf : f < 6) : f_X11_many b (nI f) = some (nI (aMany A f)) := by
  have h1 := h.2.2.1 f hf
  simp (disch := omega) only [u_X11_many, ↓reduceIte, bt_do, bd_do, jn_eq, bI_z, gd_nI, gd_0, gd_1, nI_clamp, nI_add, nI_1, pk_mul, Nat.add_zero, Nat.zero_add, ile_t, ile_f, ilt_t, ilt_f, ieq_t, ieq_f, iz_t, iz_f, ilt0, ige0, im1, Bool.false_eq_true, Bool.true_eq_false, if_true, if_false, lc_ge_t, lc_ge_f, lc_eq_t, lc_eq_f, lc_le_t, lc_le_f, lc_gt_t, lc_gt_f, lc_lt_t, lc_lt_f, nI_l, lN_i, lN_add, lN_1, h1.2.2.1]
theorem new_full_m {A : AH} {b : Nat → Int64} {n : Nat} (h : RM A b) (hA : AI n A) {f : Nat} (hf : f < 6) (hx : aMade A = 30 ∨ aMany A f = 4) : f_X11_makes b (nI f) = some (-1000003, b) := by
  have h30 : aMade A ≤ 30 := hA.2.2.2.2.2.2.1
  have h4 := (hA.2.2.2.2.2.2.2.2.2.2.1 f hf).2.1
  have h6 : b 6 = lN (aMade A) := h.1 6 (by omega)
  by_cases e : aMade A = 30
  · simp (disch := omega) only [u_X11_makes, h6, ↓reduceIte, bt_do, bd_do, jn_eq, bI_z, gd_nI, gd_0, gd_1, nI_clamp, nI_add, nI_1, pk_mul, Nat.add_zero, Nat.zero_add, ile_t, ile_f, ilt_t, ilt_f, ieq_t, ieq_f, iz_t, iz_f, ilt0, ige0, im1, Bool.false_eq_true, Bool.true_eq_false, if_true, if_false, lc_ge_t, lc_ge_f, lc_eq_t, lc_eq_f, lc_le_t, lc_le_f, lc_gt_t, lc_gt_f, lc_lt_t, lc_lt_f, nI_l, lN_i, lN_add, lN_1]
  · simp (disch := omega) only [u_X11_makes, h6, many_r h hf, ↓reduceIte, bt_do, bd_do, jn_eq, bI_z, gd_nI, gd_0, gd_1, nI_clamp, nI_add, nI_1, pk_mul, Nat.add_zero, Nat.zero_add, ile_t, ile_f, ilt_t, ilt_f, ieq_t, ieq_f, iz_t, iz_f, ilt0, ige0, im1, Bool.false_eq_true, Bool.true_eq_false, if_true, if_false, lc_ge_t, lc_ge_f, lc_eq_t, lc_eq_f, lc_le_t, lc_le_f, lc_gt_t, lc_gt_f, lc_lt_t, lc_lt_f, nI_l, lN_i, lN_add, lN_1]
theorem new_lost_m {A : AH} {b : Nat → Int64} {n : Nat} (h : RM A b) (hA : AI n A) {f : Nat} (hf : f < 6) (hm : aMade A < 30) (hk : aMany A f < 4) (hx : any5 (aUpB A) = false) : f_X11_makes b (nI f) = some (-1000004, b) := by
  have h6 : b 6 = lN (aMade A) := h.1 6 (by omega)
  simp (disch := omega) only [u_X11_makes, h6, many_r h hf, ups_m5 h hA, any5_z, hx, ↓reduceIte, bt_do, bd_do, jn_eq, bI_z, gd_nI, gd_0, gd_1, nI_clamp, nI_add, nI_1, pk_mul, Nat.add_zero, Nat.zero_add, ile_t, ile_f, ilt_t, ilt_f, ieq_t, ieq_f, iz_t, iz_f, ilt0, ige0, im1, Bool.false_eq_true, Bool.true_eq_false, if_true, if_false, lc_ge_t, lc_ge_f, lc_eq_t, lc_eq_f, lc_le_t, lc_le_f, lc_gt_t, lc_gt_f, lc_lt_t, lc_lt_f, nI_l, lN_i, lN_add, lN_1]
theorem new_m {A : AH} {b : Nat → Int64} {n : Nat} (h : RM A b) (hA : AI n A) (hn : n ≤ 8000) {f : Nat} (hf : f < 6) (hi : ¬ aIs A f = 0) (hm : aMade A < 30) (hk : aMany A f < 4) (hx : any5 (aUpB A) = true) : ∃ b', f_X11_makes b (nI f) = some (nI 0, b') ∧ RM (spNew A f) b' := by
  have h6 : b 6 = lN (aMade A) := h.1 6 (by omega)
  have h4 := (hA.2.2.2.2.2.2.2.2.2.2.1 f hf)
  have hkd := h4.2.2.2.1 hi
  have hkv := (h.2.2.1 f hf).2.1 hi
  have hno := none_at hA
  obtain ⟨b1, hb1, hR1⟩ := adds_m h hm hno
  have hgive : ∀ s, s < 5 → f_X11_has (nI (mN (aTg A (aKind A f)) 5)) (nI s) = aTg A (aKind A f) s := fun s hs => has_n _ hs
  have hm1 : aMade (mkA A) ≤ 30 := by rw [made_mk]; omega
  have hc1 : aMade A < aMade (mkA A) := by rw [made_mk]; omega
  simp (disch := omega) only [u_X11_makes, h6, many_r h hf, ups_m5 h hA, any5_z, hx, hkv, want_m h hA (show aKind A f < 6 by omega), targets_k h hA hn, hb1, ↓reduceIte, bt_do, bd_do, jn_eq, bI_z, gd_nI, gd_0, gd_1, nI_clamp, nI_add, nI_1, pk_mul, Nat.add_zero, Nat.zero_add, ile_t, ile_f, ilt_t, ilt_f, ieq_t, ieq_f, iz_t, iz_f, ilt0, ige0, im1, Bool.false_eq_true, Bool.true_eq_false, if_true, if_false, lc_ge_t, lc_ge_f, lc_eq_t, lc_eq_f, lc_le_t, lc_le_f, lc_gt_t, lc_gt_f, lc_lt_t, lc_lt_f, nI_l, lN_i, lN_add, lN_1]
  refine lp_gen (fun i q => q.1 = nI i ∧ RM (mapI (mkA A) (aMade A) (nwG (aTg A (aKind A f))) i) q.2) (fun X => ∃ b', X = some (nI 0, b') ∧ RM (spNew A f) b') 5 (by omega) ?_ ?_ ?_
  · refine ⟨rfl, ?_⟩
    rw [mapI_0]
    exact hR1
  · intro i q hi hR
    obtain ⟨q1, w⟩ := q
    obtain ⟨h1, h2⟩ := hR
    dsimp only at h1 h2
    subst h1
    left
    have hcp := h2.cp hm1 (c := aMade A) (s := i) hc1 hi (nwG (aTg A (aKind A f)) i)
    rw [← mapI_s] at hcp
    by_cases ha : aTg A (aKind A f) i = true
    · refine ⟨(nI (i + 1), vp_updL w (190 + 5 * aMade A + i) (cpM (nwG (aTg A (aKind A f)) i))), ⟨rfl, hcp⟩, fun rec => ?_⟩
      simp (disch := omega) only [ubX11_makes_11, hgive i hi, ha, nwG_yes, cpM_some, pk_1, ↓reduceIte, bt_do, bd_do, jn_eq, bI_z, gd_nI, gd_0, gd_1, nI_clamp, nI_add, nI_1, pk_mul, Nat.add_zero, Nat.zero_add, ile_t, ile_f, ilt_t, ilt_f, ieq_t, ieq_f, iz_t, iz_f, ilt0, ige0, im1, Bool.false_eq_true, Bool.true_eq_false, if_true, if_false, lc_ge_t, lc_ge_f, lc_eq_t, lc_eq_f, lc_le_t, lc_le_f, lc_gt_t, lc_gt_f, lc_lt_t, lc_lt_f, nI_l, lN_i, lN_add, lN_1]
    · refine ⟨(nI (i + 1), vp_updL w (190 + 5 * aMade A + i) (cpM (nwG (aTg A (aKind A f)) i))), ⟨rfl, hcp⟩, fun rec => ?_⟩
      have e0 : cpM (nwG (aTg A (aKind A f)) i) = lN 0 := by unfold nwG; rw [if_neg ha]; rfl
      simp (disch := omega) only [ubX11_makes_11, hgive i hi, bF ha, e0, ↓reduceIte, bt_do, bd_do, jn_eq, bI_z, gd_nI, gd_0, gd_1, nI_clamp, nI_add, nI_1, pk_mul, Nat.add_zero, Nat.zero_add, ile_t, ile_f, ilt_t, ilt_f, ieq_t, ieq_f, iz_t, iz_f, ilt0, ige0, im1, Bool.false_eq_true, Bool.true_eq_false, if_true, if_false, lc_ge_t, lc_ge_f, lc_eq_t, lc_eq_f, lc_le_t, lc_le_f, lc_gt_t, lc_gt_f, lc_lt_t, lc_lt_f, nI_l, lN_i, lN_add, lN_1]
  · intro q hR
    obtain ⟨q1, w⟩ := q
    obtain ⟨h1, h2⟩ := hR
    dsimp only at h1 h2
    subst h1
    have h5 : nS A ≤ 5 := hA.1
    rw [mapI_e (fun s hs => nwG_no hA (aTg_out hA _ s (by omega)))] at h2
    have hma : aMany (mapCp (mkA A) (aMade A) (nwG (aTg A (aKind A f)))) f = aMany A f := rfl
    have hmw := many_r h2 hf
    rw [hma] at hmw
    have hw2 := (h2.2.2.1 f hf).2.2.1
    rw [hma] at hw2
    have hRy := h2.add hm1 hf hk (aMade A)
    rw [hma] at hRy
    refine ⟨_, ⟨_, rfl, hRy⟩, fun rec => ?_⟩
    simp (disch := omega) only [ubX11_makes_11, hmw, hw2, pk_uLn, ↓reduceIte, bt_do, bd_do, jn_eq, bI_z, gd_nI, gd_0, gd_1, nI_clamp, nI_add, nI_1, pk_mul, Nat.add_zero, Nat.zero_add, ile_t, ile_f, ilt_t, ilt_f, ieq_t, ieq_f, iz_t, iz_f, ilt0, ige0, im1, Bool.false_eq_true, Bool.true_eq_false, if_true, if_false, lc_ge_t, lc_ge_f, lc_eq_t, lc_eq_f, lc_le_t, lc_le_f, lc_gt_t, lc_gt_f, lc_lt_t, lc_lt_f, nI_l, lN_i, lN_add, lN_1]
/-! a chunk made a file's own -/
def owG (A : AH) (c s : Nat) : Option CPY := if aAble A c s = true then (aCp A c s).map (fun q => (1, q.2)) else none
abbrev owA (A : AH) (f k : Nat) : AH := mapCp (mkA A) (aMade A) (owG A (aCh A f k))
abbrev spOwn (A : AH) (f k : Nat) : AH := repCh (setSh (owA A f k) (aCh A f k) (aSh A (aCh A f k) - 1)) f k (aMade A)
theorem owG_no {A : AH} {n : Nat} (hA : AI n A) {c s : Nat} (h : aAble A c s = false) : owG A c s = aCp (mkA A) (aMade A) s := by
  unfold owG
  rw [h, if_neg (by decide)]
  exact (none_at hA s).symm
theorem owG_yes {A : AH} {c s : Nat} (h : aAble A c s = true) {q : CPY} (hq : aCp A c s = some q) : owG A c s = some (1, q.2) := by
  unfold owG
  rw [h, if_pos rfl, hq]
  rfl
theorem AI.own {n : Nat} {A : AH} (h : AI n A) {f k : Nat} (hf : f < 6) (hm : aMade A < 30) (hk : k < aMany A f) : AI n (spOwn A f k) := by
  have hno := none_at h
  obtain ⟨a1, a2, a3, a4, a5, a6, a7, a8, a9, a10, a11, a12, a13, a14⟩ := h
  have h4 := (a11 f hf).2.1
  have hz : aCnt A (aMade A) = 0 := aCnt_no (fun f k hf hk => by
    have := (a11 f hf).2.2.2.2.2 k hk
    omega)
  have hold := (a11 f hf).2.2.2.2.2 k hk
  have hone := aCnt_yes hf hk (by omega)
  have hcnt : ∀ c, aCnt (spOwn A f k) c + (if aCh A f k = c then 1 else 0) = aCnt A c + (if aMade A = c then 1 else 0) := fun c => aCnt_rep (A := setSh (owA A f k) (aCh A f k) (aSh A (aCh A f k) - 1)) hf h4 hk c
  refine ⟨a1, a2, a3, a4, a5, a6, ?_, a8, a9, a10, fun f' hf' => ?_, fun c hc => ?_, fun c hh t hc e => ?_, fun c s q e => ?_⟩
  · show aMade (mkA A) ≤ 30
    rw [made_mk]; omega
  · have h1 := a11 f' hf'
    refine ⟨h1.1, h1.2.1, h1.2.2.1, h1.2.2.2.1, h1.2.2.2.2.1, fun k' hk' => ?_⟩
    show upO (aCh A) f (upO (aCh A f) k (aMade A)) f' k' < aMade (mkA A)
    rw [made_mk]
    have hk' : k' < aMany A f' := hk'
    have h2 := h1.2.2.2.2.2 k' hk'
    by_cases e : f' = f
    · subst e
      rw [up_s]
      by_cases e2 : k' = k
      · rw [e2, up_s]; omega
      · rw [up_n e2]; omega
    · rw [up_n e]; omega
  · have hc : c < aMade (mkA A) := hc
    rw [made_mk] at hc
    have hx := hcnt c
    show 1 ≤ upO (aVer A) (aMade A) 1 c ∧ upO (aVer A) (aMade A) 1 c ≤ 1 + n ∧ upO (upO (aSh A) (aMade A) 1) (aCh A f k) (aSh A (aCh A f k) - 1) c = _
    by_cases e : c = aMade A
    · subst e
      rw [if_pos rfl, if_neg (by omega), hz] at hx
      rw [up_s, up_n (by omega), up_s]
      exact ⟨by omega, by omega, by omega⟩
    · have h1 := a12 c (by omega)
      rw [if_neg (show ¬ aMade A = c from fun q => e q.symm)] at hx
      rw [up_n e]
      refine ⟨h1.1, h1.2.1, ?_⟩
      by_cases e2 : c = aCh A f k
      · subst e2
        rw [if_pos rfl] at hx
        rw [up_s]
        omega
      · rw [if_neg (show ¬ aCh A f k = c from fun q => e2 q.symm)] at hx
        rw [up_n e2, up_n e]
        omega
  · have hc : c < aMade (mkA A) := hc
    rw [made_mk] at hc
    have e : upO (aLs A) (aMade A) none c = some (hh, t) := e
    by_cases k : c = aMade A
    · rw [k, up_s] at e; cases e
    · rw [up_n k] at e; exact a13 c hh t (by omega) e
  · have e : upO (aCp A) (aMade A) (owG A (aCh A f k)) c s = some q := e
    show c < aMade (mkA A) ∧ s < nS A ∧ okC (aSize A) (upO (aVer A) (aMade A) 1 c) q
    rw [made_mk]
    by_cases kk : c = aMade A
    · subst kk
      rw [up_s] at e ⊢
      unfold owG at e
      by_cases ha : aAble A (aCh A f k) s = true
      · rw [if_pos ha] at e
        obtain ⟨q0, hq0, _⟩ := able_cp ha
        rw [hq0] at e
        cases e
        have := a14 _ _ _ hq0
        exact ⟨by omega, this.2.1, Nat.le_refl _, this.2.2.2⟩
      · rw [if_neg ha] at e; cases e
    · rw [up_n kk] at e ⊢
      have := a14 c s q e
      exact ⟨by omega, this.2⟩
/-- whether it must be made so: more than one share -/
theorem own_skip_c {A : AH} {v : HS} {n : Nat} (h : RC A v) (hA : AI n A) {f k : Nat} (hf : f < 6) (hk : k < aMany A f) (hs : aSh A (aCh A f k) = 1) : f_X5_own v (nI f) (nI k) = some (nI 0, v) := by
  have h30 : aMade A ≤ 30 := hA.2.2.2.2.2.2.1
  have hc := (hA.2.2.2.2.2.2.2.2.2.2.1 f hf).2.2.2.2.2 k hk
  have hsh := (h.2.2.1.2 _ hc).2.1
  simp (disch := omega) only [u_X5_own, chunkOf_c h.2.2.2.2 hA hf hk, u_X1_isShared, has_ck h.2.2.1, hasP_of hc, hsh, hs, ↓reduceIte, bt_do, bd_do, jn_eq, bI_z, gd_nI, gd_0, gd_1, nI_clamp, nI_add, nI_1, pk_mul, Nat.add_zero, Nat.zero_add, ile_t, ile_f, ilt_t, ilt_f, ieq_t, ieq_f, iz_t, iz_f, ilt0, ige0, im1, Bool.false_eq_true, Bool.true_eq_false, if_true, if_false]
theorem own_skip_m {A : AH} {b : Nat → Int64} {n : Nat} (h : RM A b) (hA : AI n A) {f k : Nat} (hf : f < 6) (hk : k < aMany A f) (hs : aSh A (aCh A f k) = 1) : f_X11_owns b (nI f) (nI k) = some (nI 0, b) := by
  have h30 : aMade A ≤ 30 := hA.2.2.2.2.2.2.1
  have hc := (hA.2.2.2.2.2.2.2.2.2.2.1 f hf).2.2.2.2.2 k hk
  have hsh := (h.2.2.2.1 _ hc).2.1
  simp (disch := omega) only [u_X11_owns, chunkOf_m h hA hf hk, hsh, hs, ↓reduceIte, bt_do, bd_do, jn_eq, bI_z, gd_nI, gd_0, gd_1, nI_clamp, nI_add, nI_1, pk_mul, Nat.add_zero, Nat.zero_add, ile_t, ile_f, ilt_t, ilt_f, ieq_t, ieq_f, iz_t, iz_f, ilt0, ige0, im1, Bool.false_eq_true, Bool.true_eq_false, if_true, if_false, lc_ge_t, lc_ge_f, lc_eq_t, lc_eq_f, lc_le_t, lc_le_f, lc_gt_t, lc_gt_f, lc_lt_t, lc_lt_f, nI_l, lN_i, lN_add, lN_1]
theorem sh_le {A : AH} {n : Nat} (hA : AI n A) {c : Nat} (hc : c < aMade A) : aSh A c ≤ 24 := by
  rw [(hA.2.2.2.2.2.2.2.2.2.2.2.1 c hc).2.2]
  unfold aCnt rwCnt
  have key : ∀ (g : Nat → Nat) (m n : Nat), (∀ j, j < n → g j ≤ m) → sN g n ≤ m * n := by
    intro g m n
    induction n with
    | zero => intro _; exact Nat.zero_le _
    | succ n ih =>
      intro h
      have h1 := ih (fun j hj => h j (by omega))
      have h2 := h n (by omega)
      rw [sN, Nat.mul_succ]
      omega
  refine key _ 4 6 (fun f _ => ?_)
  refine key _ 1 4 (fun k _ => ?_)
  split <;> omega
theorem sh_ge {A : AH} {n : Nat} (hA : AI n A) {f k : Nat} (hf : f < 6) (hk : k < aMany A f) : 1 ≤ aSh A (aCh A f k) := by
  have h4 := (hA.2.2.2.2.2.2.2.2.2.2.1 f hf).2.1
  have hc := (hA.2.2.2.2.2.2.2.2.2.2.1 f hf).2.2.2.2.2 k hk
  rw [(hA.2.2.2.2.2.2.2.2.2.2.2.1 _ hc).2.2]
  exact aCnt_yes hf hk (by omega)
theorem own_full_c {A : AH} {v : HS} {n : Nat} (h : RC A v) (hA : AI n A) {f k : Nat} (hf : f < 6) (hk : k < aMany A f) (hs : ¬ aSh A (aCh A f k) = 1) (hm : aMade A = 30) : f_X5_own v (nI f) (nI k) = some (-1000003, v) := by
  have h30 : aMade A ≤ 30 := hA.2.2.2.2.2.2.1
  have hc := (hA.2.2.2.2.2.2.2.2.2.2.1 f hf).2.2.2.2.2 k hk
  have hsh := (h.2.2.1.2 _ hc).2.1
  have h1 := sh_ge hA hf hk
  have h2 := sh_le hA hc
  simp (disch := omega) only [u_X5_own, chunkOf_c h.2.2.2.2 hA hf hk, u_X1_isShared, has_ck h.2.2.1, hasP_of hc, hsh, full_c h h30, decide_eq_true hm, ↓reduceIte, bt_do, bd_do, jn_eq, bI_z, gd_nI, gd_0, gd_1, nI_clamp, nI_add, nI_1, pk_mul, Nat.add_zero, Nat.zero_add, ile_t, ile_f, ilt_t, ilt_f, ieq_t, ieq_f, iz_t, iz_f, ilt0, ige0, im1, Bool.false_eq_true, Bool.true_eq_false, if_true, if_false]
theorem own_full_m {A : AH} {b : Nat → Int64} {n : Nat} (h : RM A b) (hA : AI n A) {f k : Nat} (hf : f < 6) (hk : k < aMany A f) (hs : ¬ aSh A (aCh A f k) = 1) (hm : aMade A = 30) : f_X11_owns b (nI f) (nI k) = some (-1000003, b) := by
  have h30 : aMade A ≤ 30 := hA.2.2.2.2.2.2.1
  have hc := (hA.2.2.2.2.2.2.2.2.2.2.1 f hf).2.2.2.2.2 k hk
  have hsh := (h.2.2.2.1 _ hc).2.1
  have h2 := sh_le hA hc
  have h6 : b 6 = lN (aMade A) := h.1 6 (by omega)
  simp (disch := omega) only [u_X11_owns, chunkOf_m h hA hf hk, hsh, h6, ↓reduceIte, bt_do, bd_do, jn_eq, bI_z, gd_nI, gd_0, gd_1, nI_clamp, nI_add, nI_1, pk_mul, Nat.add_zero, Nat.zero_add, ile_t, ile_f, ilt_t, ilt_f, ieq_t, ieq_f, iz_t, iz_f, ilt0, ige0, im1, Bool.false_eq_true, Bool.true_eq_false, if_true, if_false, lc_ge_t, lc_ge_f, lc_eq_t, lc_eq_f, lc_le_t, lc_le_f, lc_gt_t, lc_gt_f, lc_lt_t, lc_lt_f, nI_l, lN_i, lN_add, lN_1]
theorem own_lost_c {A : AH} {v : HS} {n : Nat} (h : RC A v) (hA : AI n A) (hn : n ≤ 8000) {f k : Nat} (hf : f < 6) (hk : k < aMany A f) (hs : ¬ aSh A (aCh A f k) = 1) (hm : aMade A < 30) (hx : any5 (aAble A (aCh A f k)) = false) : f_X5_own v (nI f) (nI k) = some (-1000004, v) := by
  have h30 : aMade A ≤ 30 := hA.2.2.2.2.2.2.1
  have hc := (hA.2.2.2.2.2.2.2.2.2.2.1 f hf).2.2.2.2.2 k hk
  have hsh := (h.2.2.1.2 _ hc).2.1
  have h1 := sh_ge hA hf hk
  have h2 := sh_le hA hc
  simp (disch := omega) only [u_X5_own, chunkOf_c h.2.2.2.2 hA hf hk, u_X1_isShared, has_ck h.2.2.1, hasP_of hc, hsh, full_c h h30, decide_eq_false (show ¬ aMade A = 30 by omega), able_c5 h hA hn hc, any5_z, hx, ↓reduceIte, bt_do, bd_do, jn_eq, bI_z, gd_nI, gd_0, gd_1, nI_clamp, nI_add, nI_1, pk_mul, Nat.add_zero, Nat.zero_add, ile_t, ile_f, ilt_t, ilt_f, ieq_t, ieq_f, iz_t, iz_f, ilt0, ige0, im1, Bool.false_eq_true, Bool.true_eq_false, if_true, if_false]
theorem own_lost_m {A : AH} {b : Nat → Int64} {n : Nat} (h : RM A b) (hA : AI n A) (hn : n ≤ 8000) {f k : Nat} (hf : f < 6) (hk : k < aMany A f) (hs : ¬ aSh A (aCh A f k) = 1) (hm : aMade A < 30) (hx : any5 (aAble A (aCh A f k)) = false) : f_X11_owns b (nI f) (nI k) = some (-1000004, b) := by
  have hc := (hA.2.2.2.2.2.2.2.2.2.2.1 f hf).2.2.2.2.2 k hk
  have hsh := (h.2.2.2.1 _ hc).2.1
  have h2 := sh_le hA hc
  have h6 : b 6 = lN (aMade A) := h.1 6 (by omega)
  simp (disch := omega) only [u_X11_owns, chunkOf_m h hA hf hk, hsh, h6, ables_m5 h hA hn hc, any5_z, hx, ↓reduceIte, bt_do, bd_do, jn_eq, bI_z, gd_nI, gd_0, gd_1, nI_clamp, nI_add, nI_1, pk_mul, Nat.add_zero, Nat.zero_add, ile_t, ile_f, ilt_t, ilt_f, ieq_t, ieq_f, iz_t, iz_f, ilt0, ige0, im1, Bool.false_eq_true, Bool.true_eq_false, if_true, if_false, lc_ge_t, lc_ge_f, lc_eq_t, lc_eq_f, lc_le_t, lc_le_f, lc_gt_t, lc_gt_f, lc_lt_t, lc_lt_f, nI_l, lN_i, lN_add, lN_1]
theorem own_c {A : AH} {v : HS} {n : Nat} (h : RC A v) (hA : AI n A) (hn : n ≤ 8000) {f k : Nat} (hf : f < 6) (hk : k < aMany A f) (hs : ¬ aSh A (aCh A f k) = 1) (hm : aMade A < 30) (hx : any5 (aAble A (aCh A f k)) = true) : ∃ v', f_X5_own v (nI f) (nI k) = some (nI 0, v') ∧ RC (spOwn A f k) v' := by
  have h30 : aMade A ≤ 30 := hA.2.2.2.2.2.2.1
  have h5 : nS A ≤ 5 := hA.1
  have h4 := (hA.2.2.2.2.2.2.2.2.2.2.1 f hf).2.1
  have hc := (hA.2.2.2.2.2.2.2.2.2.2.1 f hf).2.2.2.2.2 k hk
  have hsh := (h.2.2.1.2 _ hc).2.1
  have h1 := sh_ge hA hf hk
  have h2 := sh_le hA hc
  obtain ⟨y, hy, hR1⟩ := make_c h hm
  have hgive : ∀ s, s < nS A → f_X10_isIn (nI (mN (aAble A (aCh A f k)) 5)) (nI s) = aAble A (aCh A f k) s := fun s hs => isIn_n _ (by omega)
  simp (disch := omega) only [u_X5_own, chunkOf_c h.2.2.2.2 hA hf hk, u_X1_isShared, has_ck h.2.2.1, hasP_of hc, hsh, full_c h h30, decide_eq_false (show ¬ aMade A = 30 by omega), able_c5 h hA hn hc, any5_z, hx, hy, ↓reduceIte, bt_do, bd_do, jn_eq, bI_z, gd_nI, gd_0, gd_1, nI_clamp, nI_add, nI_1, pk_mul, Nat.add_zero, Nat.zero_add, ile_t, ile_f, ilt_t, ilt_f, ieq_t, ieq_f, iz_t, iz_f, ilt0, ige0, im1, Bool.false_eq_true, Bool.true_eq_false, if_true, if_false]
  refine lp_gen (fun i q => q.1 = nI i ∧ RC (mapI (mkA A) (aMade A) (owG A (aCh A f k)) i) q.2) (fun X => ∃ v', X = some (nI 0, v') ∧ RC (spOwn A f k) v') (nS A) (by omega) ?_ ?_ ?_
  · refine ⟨rfl, ?_⟩
    rw [mapI_0]
    exact hR1
  · intro i q hi hR
    obtain ⟨q1, w⟩ := q
    obtain ⟨h1, h2⟩ := hR
    dsimp only at h1 h2
    subst h1
    have hw : w.2.2.2.2.2.1.1 = nI (nS A) := h2.2.1.1
    left
    by_cases ha : aAble A (aCh A f k) i = true
    · obtain ⟨q0, hq0, _⟩ := able_cp ha
      have e0 : aCp (mapI (mkA A) (aMade A) (owG A (aCh A f k)) i) (aCh A f k) i = some q0 := by
        rw [mapI_o (show ¬ aCh A f k = aMade A by omega)]
        exact hq0
      obtain ⟨y, hy, hRy⟩ := layLike_c h2.2.2.2.1 (s := i) (c := aMade A) (s0 := i) (c0 := aCh A f k) (by omega) (by omega) (by omega) (by omega) (by omega) e0 1
      refine ⟨(nI (i + 1), hCP w y), ⟨rfl, ?_⟩, fun rec => ?_⟩
      · rw [mapI_s, owG_yes ha hq0]
        exact h2.cp hRy
      · simp (disch := omega) only [ubX5_own_8, hw, hgive i hi, ha, hy, ↓reduceIte, bt_do, bd_do, jn_eq, bI_z, gd_nI, gd_0, gd_1, nI_clamp, nI_add, nI_1, pk_mul, Nat.add_zero, Nat.zero_add, ile_t, ile_f, ilt_t, ilt_f, ieq_t, ieq_f, iz_t, iz_f, ilt0, ige0, im1, Bool.false_eq_true, Bool.true_eq_false, if_true, if_false]
    · refine ⟨(nI (i + 1), w), ⟨rfl, by rw [mapI_n (owG_no hA (bF ha))]; exact h2⟩, fun rec => ?_⟩
      simp (disch := omega) only [ubX5_own_8, hw, hgive i hi, bF ha, ↓reduceIte, bt_do, bd_do, jn_eq, bI_z, gd_nI, gd_0, gd_1, nI_clamp, nI_add, nI_1, pk_mul, Nat.add_zero, Nat.zero_add, ile_t, ile_f, ilt_t, ilt_f, ieq_t, ieq_f, iz_t, iz_f, ilt0, ige0, im1, Bool.false_eq_true, Bool.true_eq_false, if_true, if_false]
  · intro q hR
    obtain ⟨q1, w⟩ := q
    obtain ⟨h1, h2⟩ := hR
    dsimp only at h1 h2
    subst h1
    rw [mapI_e (fun s hs => owG_no hA (able_out hA _ s hs))] at h2
    have hw : w.2.2.2.2.2.1.1 = nI (nS A) := h2.2.1.1
    have hc1 : aCh A f k < aMade (mkA A) := by rw [made_mk]; omega
    have hm1 : aMade (mkA A) ≤ 30 := by rw [made_mk]; omega
    have hse : aSh (owA A f k) (aCh A f k) = aSh A (aCh A f k) := up_n (show ¬ aCh A f k = aMade A by omega)
    obtain ⟨y1, hy1, hRy1⟩ := shDec_c h2 (c := aCh A f k) hc1 hm1 (by rw [hse]; omega)
    rw [hse] at hRy1
    obtain ⟨y2, hy2, hRy2⟩ := repCh_c hRy1 (x := aMade A) hf hk h4 (by show aCh A f k < 100; omega)
    refine ⟨_, ⟨_, rfl, hRy2⟩, fun rec => ?_⟩
    simp (disch := omega) only [ubX5_own_8, hw, hy1, hy2, ↓reduceIte, bt_do, bd_do, jn_eq, bI_z, gd_nI, gd_0, gd_1, nI_clamp, nI_add, nI_1, pk_mul, Nat.add_zero, Nat.zero_add, ile_t, ile_f, ilt_t, ilt_f, ieq_t, ieq_f, iz_t, iz_f, ilt0, ige0, im1, Bool.false_eq_true, Bool.true_eq_false, if_true, if_false]
theorem own_m {A : AH} {b : Nat → Int64} {n : Nat} (h : RM A b) (hA : AI n A) (hn : n ≤ 8000) {f k : Nat} (hf : f < 6) (hk : k < aMany A f) (hs : ¬ aSh A (aCh A f k) = 1) (hm : aMade A < 30) (hx : any5 (aAble A (aCh A f k)) = true) : ∃ b', f_X11_owns b (nI f) (nI k) = some (nI 0, b') ∧ RM (spOwn A f k) b' := by
  have h5 : nS A ≤ 5 := hA.1
  have h4 := (hA.2.2.2.2.2.2.2.2.2.2.1 f hf).2.1
  have hc := (hA.2.2.2.2.2.2.2.2.2.2.1 f hf).2.2.2.2.2 k hk
  have hsh := (h.2.2.2.1 _ hc).2.1
  have h1 := sh_ge hA hf hk
  have h2 := sh_le hA hc
  have h6 : b 6 = lN (aMade A) := h.1 6 (by omega)
  obtain ⟨b1, hb1, hR1⟩ := adds_m h hm (none_at hA)
  have hm1 : aMade (mkA A) ≤ 30 := by rw [made_mk]; omega
  have hc1 : aMade A < aMade (mkA A) := by rw [made_mk]; omega
  have hc2 : aCh A f k < aMade (mkA A) := by rw [made_mk]; omega
  have hgive : ∀ s, s < 5 → f_X11_has (nI (mN (aAble A (aCh A f k)) 5)) (nI s) = aAble A (aCh A f k) s := fun s hs => has_n _ hs
  simp (disch := omega) only [u_X11_owns, chunkOf_m h hA hf hk, hsh, h6, ables_m5 h hA hn hc, any5_z, hx, hb1, ↓reduceIte, bt_do, bd_do, jn_eq, bI_z, gd_nI, gd_0, gd_1, nI_clamp, nI_add, nI_1, pk_mul, Nat.add_zero, Nat.zero_add, ile_t, ile_f, ilt_t, ilt_f, ieq_t, ieq_f, iz_t, iz_f, ilt0, ige0, im1, Bool.false_eq_true, Bool.true_eq_false, if_true, if_false, lc_ge_t, lc_ge_f, lc_eq_t, lc_eq_f, lc_le_t, lc_le_f, lc_gt_t, lc_gt_f, lc_lt_t, lc_lt_f, nI_l, lN_i, lN_add, lN_1]
  refine lp_gen (fun i q => q.1 = nI i ∧ RM (mapI (mkA A) (aMade A) (owG A (aCh A f k)) i) q.2) (fun X => ∃ b', X = some (nI 0, b') ∧ RM (spOwn A f k) b') 5 (by omega) ?_ ?_ ?_
  · refine ⟨rfl, ?_⟩
    rw [mapI_0]
    exact hR1
  · intro i q hi hR
    obtain ⟨q1, w⟩ := q
    obtain ⟨h1, h2⟩ := hR
    dsimp only at h1 h2
    subst h1
    left
    have hcp := h2.cp hm1 (c := aMade A) (s := i) hc1 hi (owG A (aCh A f k) i)
    rw [← mapI_s] at hcp
    refine ⟨(nI (i + 1), vp_updL w (190 + 5 * aMade A + i) (cpM (owG A (aCh A f k) i))), ⟨rfl, hcp⟩, fun rec => ?_⟩
    by_cases ha : aAble A (aCh A f k) i = true
    · obtain ⟨q0, hq0, _⟩ := able_cp ha
      have hk0 := cp_ok hA hn hq0
      have e0 : aCp (mapI (mkA A) (aMade A) (owG A (aCh A f k)) i) (aCh A f k) i = some q0 := by
        rw [mapI_o (show ¬ aCh A f k = aMade A by omega)]
        exact hq0
      have hcy := copy_m h2 hm1 (c := aCh A f k) hi hc2
      rw [e0, cpM_some] at hcy
      have hwv := withV_pk hk0.1 hk0.2.1 hk0.2.2.1 (v := 1) (by omega)
      simp (disch := omega) only [ubX11_owns_9, hgive i hi, ha, owG_yes ha hq0, cpM_some, hcy, hwv, ↓reduceIte, bt_do, bd_do, jn_eq, bI_z, gd_nI, gd_0, gd_1, nI_clamp, nI_add, nI_1, pk_mul, Nat.add_zero, Nat.zero_add, ile_t, ile_f, ilt_t, ilt_f, ieq_t, ieq_f, iz_t, iz_f, ilt0, ige0, im1, Bool.false_eq_true, Bool.true_eq_false, if_true, if_false, lc_ge_t, lc_ge_f, lc_eq_t, lc_eq_f, lc_le_t, lc_le_f, lc_gt_t, lc_gt_f, lc_lt_t, lc_lt_f, nI_l, lN_i, lN_add, lN_1]
    · have e0 : cpM (owG A (aCh A f k) i) = lN 0 := by unfold owG; rw [if_neg ha]; rfl
      simp (disch := omega) only [ubX11_owns_9, hgive i hi, bF ha, e0, ↓reduceIte, bt_do, bd_do, jn_eq, bI_z, gd_nI, gd_0, gd_1, nI_clamp, nI_add, nI_1, pk_mul, Nat.add_zero, Nat.zero_add, ile_t, ile_f, ilt_t, ilt_f, ieq_t, ieq_f, iz_t, iz_f, ilt0, ige0, im1, Bool.false_eq_true, Bool.true_eq_false, if_true, if_false, lc_ge_t, lc_ge_f, lc_eq_t, lc_eq_f, lc_le_t, lc_le_f, lc_gt_t, lc_gt_f, lc_lt_t, lc_lt_f, nI_l, lN_i, lN_add, lN_1]
  · intro q hR
    obtain ⟨q1, w⟩ := q
    obtain ⟨h1, h2⟩ := hR
    dsimp only at h1 h2
    subst h1
    rw [mapI_e (fun s hs => owG_no hA (able_out hA _ s (by omega)))] at h2
    have hse : aSh (owA A f k) (aCh A f k) = aSh A (aCh A f k) := up_n (show ¬ aCh A f k = aMade A by omega)
    have hws := (h2.2.2.2.1 (aCh A f k) hc2).2.1
    rw [hse] at hws
    have hR3 := (h2.sh hm1 (c := aCh A f k) hc2 (aSh A (aCh A f k) - 1)).rep hm1 hf (show k < 4 by omega) (aMade A)
    refine ⟨_, ⟨_, rfl, hR3⟩, fun rec => ?_⟩
    simp (disch := omega) only [ubX11_owns_9, hws, lN_sub, ↓reduceIte, bt_do, bd_do, jn_eq, bI_z, gd_nI, gd_0, gd_1, nI_clamp, nI_add, nI_1, pk_mul, Nat.add_zero, Nat.zero_add, ile_t, ile_f, ilt_t, ilt_f, ieq_t, ieq_f, iz_t, iz_f, ilt0, ige0, im1, Bool.false_eq_true, Bool.true_eq_false, if_true, if_false, lc_ge_t, lc_ge_f, lc_eq_t, lc_eq_f, lc_le_t, lc_le_f, lc_gt_t, lc_gt_f, lc_lt_t, lc_lt_f, nI_l, lN_i, lN_add, lN_1]
