/-! PURE 9b: how often it can be mended -/
def mdI : Nat → AH → Nat
  | 0, _ => 0
  | d + 1, A => match aPoor A with
    | none => 0
    | some c => mdI d (spMend A c) + 1
theorem mdI_no {d : Nat} {A : AH} (h : aPoor A = none) : mdI d A = 0 := by
  cases d with
  | zero => rfl
  | succ d => rw [mdI, h]
theorem mendAll_c {A : AH} {v : HS} {n : Nat} (h : RC A v) (hA : AI n A) (hn : n ≤ 8000) : ∃ v', f_X4_mendAll v = some (nI (mdI 150 A), v') := by
  rw [u_X4_mendAll, jn_eq]
  generalize hT : mdI 150 A = T
  refine lp_gen (fun i z => ∃ B w, z = (nI i, nI i, w) ∧ RC B w ∧ AI n B ∧ mdI (150 - i) B + i = T) (fun X => ∃ v', X = some (nI T, v')) 150 (by omega) ⟨A, v, rfl, h, hA, by omega⟩ ?_ ?_
  · rintro i z hi ⟨B, w, rfl, hR, hB, ht⟩
    have hfm := first_mend_c hR hB hn
    rw [show 150 - i = (150 - (i + 1)) + 1 by omega, mdI] at ht
    cases hp : aPoor B with
    | none =>
      rw [hp] at hfm ht
      right
      have : i = T := by simpa using ht
      subst this
      refine ⟨_, ⟨w, rfl⟩, fun rec => ?_⟩
      simp (disch := omega) only [ubX4_mendAll_1, hfm, ↓reduceIte, bt_do, bd_do, jn_eq, bI_z, gd_nI, gd_0, gd_1, nI_clamp, nI_add, nI_1, pk_mul, Nat.add_zero, Nat.zero_add, ile_t, ile_f, ilt_t, ilt_f, ieq_t, ieq_f, iz_t, iz_f, ilt0, ige0, im1, Bool.false_eq_true, Bool.true_eq_false, if_true, if_false]
    | some c =>
      rw [hp] at hfm ht
      left
      obtain ⟨w', hw', hR'⟩ := addCopy_c hR hB hn hp
      have hc := (poor_use hB hp).1
      have h30 : aMade B ≤ 30 := hB.2.2.2.2.2.2.1
      refine ⟨_, ⟨spMend B c, w', rfl, hR', hB.mend hp, by dsimp only at ht; omega⟩, fun rec => ?_⟩
      simp (disch := omega) only [ubX4_mendAll_1, hfm, hw', ↓reduceIte, bt_do, bd_do, jn_eq, bI_z, gd_nI, gd_0, gd_1, nI_clamp, nI_add, nI_1, pk_mul, Nat.add_zero, Nat.zero_add, ile_t, ile_f, ilt_t, ilt_f, ieq_t, ieq_f, iz_t, iz_f, ilt0, ige0, im1, Bool.false_eq_true, Bool.true_eq_false, if_true, if_false]
  · rintro z ⟨B, w, rfl, hR, hB, ht⟩
    rw [show 150 - 150 = 0 by omega, mdI, Nat.zero_add] at ht
    subst ht
    refine ⟨_, ⟨w, rfl⟩, fun rec => ?_⟩
    simp (disch := omega) only [ubX4_mendAll_1, ↓reduceIte, bt_do, bd_do, jn_eq, bI_z, gd_nI, gd_0, gd_1, nI_clamp, nI_add, nI_1, pk_mul, Nat.add_zero, Nat.zero_add, ile_t, ile_f, ilt_t, ilt_f, ieq_t, ieq_f, iz_t, iz_f, ilt0, ige0, im1, Bool.false_eq_true, Bool.true_eq_false, if_true, if_false]
/-! places that are able -/
def abM (A : AH) : Nat := sN (fun c => cN (aAble A c) 5) 30
theorem cN_sN (P : Nat → Bool) (n : Nat) : cN P n = sN (fun i => if P i = true then 1 else 0) n := by
  induction n with
  | zero => rfl
  | succ n ih => rw [cN, sN, ih]
theorem cN_add {P Q : Nat → Bool} {n k : Nat} (hk : k < n) (h : ∀ j, j < n → ¬ j = k → Q j = P j) (h0 : P k = false) (h1 : Q k = true) : cN Q n = cN P n + 1 := by
  rw [cN_sN, cN_sN]
  have := sN_upd (g := fun i => if P i = true then 1 else 0) (g' := fun i => if Q i = true then 1 else 0) hk (fun j hj hne => by
    show (if Q j = true then 1 else 0) = if P j = true then 1 else 0
    rw [h j hj hne])
  simp only [h0, h1, Bool.false_eq_true, if_true, if_false] at this
  omega
theorem mend_more {A : AH} {n c : Nat} (hA : AI n A) (hp : aPoor A = some c) : abM (spMend A c) = abM A + 1 := by
  obtain ⟨h1, h2, h3⟩ := poor_use hA hp
  have h30 : aMade A ≤ 30 := hA.2.2.2.2.2.2.1
  have hb := bst_in A (any5_t.mp h3)
  have hf := fst5_in (any5_t.mp h2)
  obtain ⟨q, hq, hqv⟩ := able_cp hf.2.1
  have hbp := hb.2.2
  rw [Bool.and_eq_true] at hbp
  have hrow : cN (aAble (spMend A c) c) 5 = cN (aAble A c) 5 + 1 := by
    refine cN_add (k := mdT A c) hb.2.1 (fun j hj hne => ?_) ?_ ?_
    · exact able_ext (cp_n (fun z => hne z.2)) rfl rfl
    · have h4 : (!aAble A c (mdT A c)) = true := hbp.2
      cases e : aAble A c (mdT A c)
      · rfl
      · rw [e] at h4; cases h4
    · have e1 : aCp (spMend A c) c (mdT A c) = some q := by rw [cp_s]; exact hq
      have e2 : aVer (spMend A c) c = aVer A c := rfl
      have e3 : aUp (spMend A c) (mdT A c) = aUp A (mdT A c) := rfl
      have hu : (aUp A (mdT A c) == 1) = true := hbp.1
      unfold aAble aGood
      rw [e1, e2, e3, hu]
      simp [hqv]
  unfold abM
  have := sN_upd (n := 30) (k := c) (g := fun c => cN (aAble A c) 5) (g' := fun c' => cN (aAble (spMend A c) c') 5) (by omega) (fun j hj hne => by
    show cN (aAble (spMend A c) j) 5 = cN (aAble A j) 5
    refine cN_congr (fun s _ => able_ext (cp_n (fun z => hne z.1)) rfl rfl))
  simp only [hrow] at this
  omega
theorem abM_lt {A : AH} {n c : Nat} (hA : AI n A) (hp : aPoor A = some c) : abM A < 150 := by
  obtain ⟨h1, h2, h3⟩ := poor_use hA hp
  have h30 : aMade A ≤ 30 := hA.2.2.2.2.2.2.1
  have hb := bst_in A (any5_t.mp h3)
  have hbp := hb.2.2
  rw [Bool.and_eq_true] at hbp
  have h4 : aAble A c (mdT A c) = false := by
    have h4 : (!aAble A c (mdT A c)) = true := hbp.2
    cases e : aAble A c (mdT A c)
    · rfl
    · rw [e] at h4; cases h4
  have hrow : cN (aAble A c) 5 < 5 := by
    have := cN_add (P := aAble A c) (Q := upO (aAble A c) (mdT A c) true) (n := 5) (k := mdT A c) hb.2.1 (fun j hj hne => up_n hne) h4 (up_s _ _ _)
    have h5 := cN_le (upO (aAble A c) (mdT A c) true) 5
    omega
  have key : ∀ m, sN (fun c' => cN (aAble A c') 5) m ≤ 5 * m ∧ (c < m → sN (fun c' => cN (aAble A c') 5) m < 5 * m) := by
    intro m
    induction m with
    | zero => exact ⟨Nat.le_refl _, fun h => by omega⟩
    | succ m ih =>
      have h5 := cN_le (aAble A m) 5
      rw [sN]
      refine ⟨by omega, fun hm => ?_⟩
      by_cases e : c = m
      · subst e; omega
      · have := ih.2 (by omega); omega
  exact (key 30).2 (by omega)
theorem mends_loop_m {A : AH} {b : Nat → Int64} {md : MD} {n : Nat} (h : RM A b) (hA : AI n A) (hn : n ≤ 8000) : ∃ b', lpF (bX11_mends_5 (fun q5 : Int32 × Int32 × MD => some (q5.1, q5.2.2))) FU (nI 0, (match aPoor A with
  | none => -1000000
  | some c => nI c), (md.1, b, md.2.2)) = some (nI (mdI 150 A), (md.1, b', md.2.2)) := by
  generalize hT : mdI 150 A = T
  have hnm : ∀ x, x < 100 → ((nI x = -1000000) = False) := by
    intro x hx
    have : ∀ x, x < 100 → ¬ nI x = -1000000 := by decide +kernel
    exact eq_false (this x hx)
  refine lp_gen (fun i z => ∃ B w, z = (nI i, (match aPoor B with
    | none => -1000000
    | some c => nI c), (md.1, w, md.2.2)) ∧ RM B w ∧ AI n B ∧ mdI (150 - i) B + i = T ∧ i ≤ abM B) (fun X => ∃ b', X = some (nI T, (md.1, b', md.2.2))) 150 (by omega) ⟨A, b, rfl, h, hA, by omega, by omega⟩ ?_ ?_
  · rintro i z hi ⟨B, w, rfl, hR, hB, ht, hm⟩
    rw [show 150 - i = (150 - (i + 1)) + 1 by omega, mdI] at ht
    cases hp : aPoor B with
    | none =>
      rw [hp] at ht
      right
      have : i = T := by simpa using ht
      subst this
      refine ⟨_, ⟨w, rfl⟩, fun rec => ?_⟩
      simp (disch := omega) only [ubX11_mends_5, ↓reduceIte, bt_do, bd_do, jn_eq, bI_z, gd_nI, gd_0, gd_1, nI_clamp, nI_add, nI_1, pk_mul, Nat.add_zero, Nat.zero_add, ile_t, ile_f, ilt_t, ilt_f, ieq_t, ieq_f, iz_t, iz_f, ilt0, ige0, im1, Bool.false_eq_true, Bool.true_eq_false, if_true, if_false]
    | some c =>
      rw [hp] at ht
      left
      obtain ⟨w', hw', hR'⟩ := gives_m hR hB hn hp
      have hc := (poor_use hB hp).1
      have h30 : aMade B ≤ 30 := hB.2.2.2.2.2.2.1
      have hB' := hB.mend hp
      have hpo := poor_m hR' hB' hn
      have hmm := mend_more hB hp
      refine ⟨_, ⟨spMend B c, w', rfl, hR', hB', by dsimp only at ht; omega, by omega⟩, fun rec => ?_⟩
      simp (disch := omega) only [ubX11_mends_5, hnm, hw', hpo, ↓reduceIte, bt_do, bd_do, jn_eq, bI_z, gd_nI, gd_0, gd_1, nI_clamp, nI_add, nI_1, pk_mul, Nat.add_zero, Nat.zero_add, ile_t, ile_f, ilt_t, ilt_f, ieq_t, ieq_f, iz_t, iz_f, ilt0, ige0, im1, Bool.false_eq_true, Bool.true_eq_false, if_true, if_false]
      rfl
  · rintro z ⟨B, w, rfl, hR, hB, ht, hm⟩
    have hp : aPoor B = none := by
      cases hp : aPoor B with
      | none => rfl
      | some c => have := abM_lt hB hp; omega
    rw [show 150 - 150 = 0 by omega, mdI, Nat.zero_add] at ht
    subst ht
    rw [hp]
    refine ⟨_, ⟨w, rfl⟩, fun rec => ?_⟩
    simp (disch := omega) only [ubX11_mends_5, ↓reduceIte, bt_do, bd_do, jn_eq, bI_z, gd_nI, gd_0, gd_1, nI_clamp, nI_add, nI_1, pk_mul, Nat.add_zero, Nat.zero_add, ile_t, ile_f, ilt_t, ilt_f, ieq_t, ieq_f, iz_t, iz_f, ilt0, ige0, im1, Bool.false_eq_true, Bool.true_eq_false, if_true, if_false]
