/-! PURE 9b: how often it can be mended -/
def mdI : Nat → AH → Nat
  | 0, _ => 0
  | d + 1, A => match aPoor A with
    | none => 0
    | some c => mdI d (spMend A c) + 1
theorem mdI_no {d : Nat} {A : AH} (h : aPoor A = none) : mdI d A = 0 := by
  cases d with
  | zero => rfl
  | succ d => rw [mdI, h]
/-! places that are able -/
def abM (A : AH) : Nat := sN (fun c => cN (aAble A c) 5) 30
theorem cN_sN (P : Nat → Bool) (n : Nat) : cN P n = sN (fun i => if P i = true then 1 else 0) n := by
  induction n with
  | zero => rfl
  | succ n ih => rw [cN, sN, ih]
theorem cN_add {P Q : Nat → Bool} {n k : Nat} (hk : k < n) (h : ∀ j, j < n → ¬ j = k → Q j = P j) (h0 : P k = false) (h1 : Q k = true) : cN Q n = cN P n + 1 := by
  rw [cN_sN, cN_sN]
  have := sN_upd (g := fun i => if P i = true then 1 else 0) (g' := fun i => if Q i = true then 1 else 0) hk (fun j hj hne => by
    show (if Q j = true then 1 else 0) = if P j = true then 1 else 0
    rw [h j hj hne])
  simp only [h0, h1, Bool.false_eq_true, if_true, if_false] at this
  omega
theorem mend_row {A : AH} {n c : Nat} (hA : AI n A) (hp : aPoor A = some c) : cN (aAble (spMend A c) c) 5 = cN (aAble A c) 5 + 1 := by
  obtain ⟨h1, h2, h3⟩ := poor_use hA hp
  have hb := bst_in A (any5_t.mp h3)
  have hf := fst5_in (any5_t.mp h2)
  obtain ⟨q, hq, hqv⟩ := able_cp hf.2.1
  have hbp := hb.2.2
  rw [Bool.and_eq_true] at hbp
  refine cN_add (k := mdT A c) hb.2.1 (fun j hj hne => ?_) ?_ ?_
  · exact able_ext (cp_n (fun z => hne z.2)) rfl rfl
  · have h4 : (!aAble A c (mdT A c)) = true := hbp.2
    cases e : aAble A c (mdT A c)
    · rfl
    · rw [e] at h4; cases h4
  · have e1 : aCp (spMend A c) c (mdT A c) = some q := by rw [cp_s]; exact hq
    have e2 : aVer (spMend A c) c = aVer A c := rfl
    have e3 : aUp (spMend A c) (mdT A c) = aUp A (mdT A c) := rfl
    have hu : (aUp A (mdT A c) == 1) = true := hbp.1
    unfold aAble aGood
    rw [e1, e2, e3, hu]
    simp [hqv]
theorem mend_more {A : AH} {n c : Nat} (hA : AI n A) (hp : aPoor A = some c) : abM (spMend A c) = abM A + 1 := by
  have h1 := (poor_use hA hp).1
  have h30 : aMade A ≤ 30 := hA.2.2.2.2.2.2.1
  have hrow := mend_row hA hp
  unfold abM
  have := sN_upd (n := 30) (k := c) (g := fun c => cN (aAble A c) 5) (g' := fun c' => cN (aAble (spMend A c) c') 5) (by omega) (fun j hj hne => by
    show cN (aAble (spMend A c) j) 5 = cN (aAble A j) 5
    refine cN_congr (fun s _ => able_ext (cp_n (fun z => hne z.1)) rfl rfl))
  simp only [hrow] at this
  omega
theorem abM_lt {A : AH} {n c : Nat} (hA : AI n A) (hp : aPoor A = some c) : abM A < 150 := by
  obtain ⟨h1, h2, h3⟩ := poor_use hA hp
  have h30 : aMade A ≤ 30 := hA.2.2.2.2.2.2.1
  have hb := bst_in A (any5_t.mp h3)
  have hbp := hb.2.2
  rw [Bool.and_eq_true] at hbp
  have h4 : aAble A c (mdT A c) = false := by
    have h4 : (!aAble A c (mdT A c)) = true := hbp.2
    cases e : aAble A c (mdT A c)
    · rfl
    · rw [e] at h4; cases h4
  have hrow : cN (aAble A c) 5 < 5 := by
    have := cN_add (P := aAble A c) (Q := upO (aAble A c) (mdT A c) true) (n := 5) (k := mdT A c) hb.2.1 (fun j hj hne => up_n hne) h4 (up_s _ _ _)
    have h5 := cN_le (upO (aAble A c) (mdT A c) true) 5
    omega
  have key : ∀ m, sN (fun c' => cN (aAble A c') 5) m ≤ 5 * m ∧ (c < m → sN (fun c' => cN (aAble A c') 5) m < 5 * m) := by
    intro m
    induction m with
    | zero => exact ⟨Nat.le_refl _, fun h => by omega⟩
    | succ m ih =>
      have h5 := cN_le (aAble A m) 5
      rw [sN]
      refine ⟨by omega, fun hm => ?_⟩
      by_cases e : c = m
      · subst e; omega
      · have := ih.2 (by omega); omega
  exact (key 30).2 (by omega)
/-! the class goes through the chunks once: a copy that comes changes nothing for the others -/
theorem ownF_cp (A : AH) (c0 s0 : Nat) (o : Option CPY) (f c : Nat) : ∀ k, ownF (setCp A c0 s0 o) f c k = ownF A f c k := by
  intro k
  induction k with
  | zero => rfl
  | succ k ih =>
    show (ownF (setCp A c0 s0 o) f c k || (decide (k < aMany A f) && decide (aCh A f k = c))) = (ownF A f c k || (decide (k < aMany A f) && decide (aCh A f k = c)))
    rw [ih]
theorem mwN_cp (A : AH) (c0 s0 : Nat) (o : Option CPY) (c : Nat) : ∀ f, mwN (setCp A c0 s0 o) c f = mwN A c f := by
  intro f
  induction f with
  | zero => rfl
  | succ f ih =>
    show (if ownF (setCp A c0 s0 o) f c 4 = true then max (mwN (setCp A c0 s0 o) c f) (aWant A (aKind A f)) else mwN (setCp A c0 s0 o) c f) = (if ownF A f c 4 = true then max (mwN A c f) (aWant A (aKind A f)) else mwN A c f)
    rw [ih, ownF_cp]
theorem poor_cp {A : AH} {c0 s0 : Nat} {o : Option CPY} {c : Nat} (h : ¬ c = c0) : poorC (setCp A c0 s0 o) c = poorC A c := by
  have e2 : aAble (setCp A c0 s0 o) c = aAble A c := funext (fun j => able_ext (cp_n (fun z => h z.1)) rfl rfl)
  have e3 : poorC (setCp A c0 s0 o) c = (decide (¬ aSh A c = 0) && any5 (aAble (setCp A c0 s0 o) c) && decide (cN (aAble (setCp A c0 s0 o) c) 5 < mwN (setCp A c0 s0 o) c 6) && any5 (fun t => aUpB A t && !aAble (setCp A c0 s0 o) c t)) := rfl
  rw [e3, e2, mwN_cp]
  rfl
theorem poor_full {A : AH} {n c : Nat} (hA : AI n A) (h : 5 ≤ cN (aAble A c) 5) : poorC A c = false := by
  have := mwN_le hA c 6
  unfold poorC
  rw [decide_eq_false (show ¬ cN (aAble A c) 5 < mwN A c 6 by omega), Bool.and_false, Bool.false_and]
theorem fsN_first {P : Nat → Bool} : ∀ {d s c : Nat}, P c = true → s ≤ c → c < s + d → (∀ j, s ≤ j → j < c → P j = false) → fsN P d s = some c := by
  intro d
  induction d with
  | zero => intro s c h h1 h2 h3; omega
  | succ d ih =>
    intro s c h h1 h2 h3
    rw [fsN]
    by_cases e : s = c
    · subst e; rw [if_pos h]
    · rw [if_neg (by rw [h3 s (Nat.le_refl _) (by omega)]; decide)]
      exact ih h (by omega) (by omega) (fun j hj hjc => h3 j (by omega) hjc)
theorem fsN_none {P : Nat → Bool} : ∀ {d s : Nat}, (∀ j, s ≤ j → j < s + d → P j = false) → fsN P d s = none := by
  intro d
  induction d with
  | zero => intro s h; rfl
  | succ d ih =>
    intro s h
    rw [fsN, if_neg (by rw [h s (Nat.le_refl _) (by omega)]; decide)]
    exact ih (fun j h1 h2 => h j (by omega) (by omega))
theorem poor_first {A : AH} {c : Nat} (hc : c < aMade A) (hl : ∀ j, j < c → poorC A j = false) (e : poorC A c = true) : aPoor A = some c := by
  unfold aPoor
  exact fsN_first e (Nat.zero_le _) (by omega) (fun j _ hj => hl j hj)
/-- one chunk, till it lacks nothing: at most five copies come -/
theorem mend_in {n c T : Nat} (hn : n ≤ 8000) (x1 : Int32) (x3 : HS) : ∀ (d F t i : Nat) (B : AH) (w : HS), d < F → i + d = 5 → RC B w → AI n B → c < aMade B → (∀ j, j < c → poorC B j = false) → mdI (150 - t) B + t = T → t ≤ abM B → i ≤ cN (aAble B c) 5 → ∃ (t' : Nat) (j' : Int32) (B' : AH) (w' : HS), RC B' w' ∧ AI n B' ∧ aMade B' = aMade B ∧ (∀ j, j < c + 1 → poorC B' j = false) ∧ mdI (150 - t') B' + t' = T ∧ t' ≤ abM B' ∧ ∀ K : Int32 × Int32 × HS → Option (Int32 × HS), lpF (bX4_mendAll_3 (x1, nI c, x3) K) F (nI t, nI i, w) = K (nI t', j', w') := by
  intro d
  induction d with
  | zero =>
    intro F t i B w hF hd hR hB hc hl ht hm h5
    obtain ⟨F, rfl⟩ : ∃ F', F = F' + 1 := ⟨F - 1, by omega⟩
    refine ⟨t, nI i, B, w, hR, hB, rfl, fun j hj => ?_, ht, hm, fun K => ?_⟩
    · by_cases e : j = c
      · rw [e]; exact poor_full hB (by omega)
      · exact hl j (by omega)
    · show bX4_mendAll_3 (x1, nI c, x3) K (lpF (bX4_mendAll_3 (x1, nI c, x3) K) F) (nI t, nI i, w) = _
      simp (disch := omega) only [ubX4_mendAll_3, ↓reduceIte, bt_do, bd_do, jn_eq, bI_z, gd_nI, gd_0, gd_1, nI_clamp, nI_add, nI_1, pk_mul, Nat.add_zero, Nat.zero_add, ile_t, ile_f, ilt_t, ilt_f, ieq_t, ieq_f, iz_t, iz_f, ilt0, ige0, im1, Bool.false_eq_true, Bool.true_eq_false, if_true, if_false]
  | succ d ih =>
    intro F t i B w hF hd hR hB hc hl ht hm h5
    obtain ⟨F, rfl⟩ : ∃ F', F = F' + 1 := ⟨F - 1, by omega⟩
    have h30 : aMade B ≤ 30 := hB.2.2.2.2.2.2.1
    have hlk := lacks_c hR hB hn hc
    by_cases e : poorC B c = true
    · rw [e] at hlk
      have hp : aPoor B = some c := poor_first hc hl e
      have h150 := abM_lt hB hp
      have hmm := mend_more hB hp
      have hrow := mend_row hB hp
      obtain ⟨w', hw', hR'⟩ := addCopy_c hR hB hn hp
      rw [show 150 - t = (150 - (t + 1)) + 1 by omega, mdI, hp] at ht
      obtain ⟨t', j', B', w2, g1, g2, g3, g4, g5, g6, g7⟩ := ih F (t + 1) (i + 1) (spMend B c) w' (by omega) (by omega) hR' (hB.mend hp) hc (fun j hj => (poor_cp (by omega)).trans (hl j hj)) (by dsimp only at ht; omega) (by omega) (by omega)
      refine ⟨t', j', B', w2, g1, g2, g3, g4, g5, g6, fun K => ?_⟩
      have g7 := g7 K
      show bX4_mendAll_3 (x1, nI c, x3) K (lpF (bX4_mendAll_3 (x1, nI c, x3) K) F) (nI t, nI i, w) = _
      simp (disch := omega) only [ubX4_mendAll_3, hlk, hw', g7, ↓reduceIte, bt_do, bd_do, jn_eq, bI_z, gd_nI, gd_0, gd_1, nI_clamp, nI_add, nI_1, pk_mul, Nat.add_zero, Nat.zero_add, ile_t, ile_f, ilt_t, ilt_f, ieq_t, ieq_f, iz_t, iz_f, ilt0, ige0, im1, Bool.false_eq_true, Bool.true_eq_false, if_true, if_false]
    · rw [bF e] at hlk
      refine ⟨t, nI i, B, w, hR, hB, rfl, fun j hj => ?_, ht, hm, fun K => ?_⟩
      · by_cases e2 : j = c
        · rw [e2]; exact bF e
        · exact hl j (by omega)
      · show bX4_mendAll_3 (x1, nI c, x3) K (lpF (bX4_mendAll_3 (x1, nI c, x3) K) F) (nI t, nI i, w) = _
        simp (disch := omega) only [ubX4_mendAll_3, hlk, ↓reduceIte, bt_do, bd_do, jn_eq, bI_z, gd_nI, gd_0, gd_1, nI_clamp, nI_add, nI_1, pk_mul, Nat.add_zero, Nat.zero_add, ile_t, ile_f, ilt_t, ilt_f, ieq_t, ieq_f, iz_t, iz_f, ilt0, ige0, im1, Bool.false_eq_true, Bool.true_eq_false, if_true, if_false]
theorem mendAll_c {A : AH} {v : HS} {n : Nat} (h : RC A v) (hA : AI n A) (hn : n ≤ 8000) : ∃ v', f_X4_mendAll v = some (nI (mdI 150 A), v') := by
  have h30 : aMade A ≤ 30 := hA.2.2.2.2.2.2.1
  rw [u_X4_mendAll, jn_eq]
  generalize hT : mdI 150 A = T
  refine lp_gen (fun i z => ∃ t B w, z = (nI t, nI i, w) ∧ RC B w ∧ AI n B ∧ aMade B = aMade A ∧ (∀ j, j < i → poorC B j = false) ∧ mdI (150 - t) B + t = T ∧ t ≤ abM B) (fun X => ∃ v', X = some (nI T, v')) (aMade A) (by omega) ⟨0, A, v, rfl, h, hA, rfl, fun j hj => absurd hj (Nat.not_lt_zero j), by omega, Nat.zero_le _⟩ ?_ ?_
  · rintro i z hi ⟨t, B, w, rfl, hR, hB, hM, hl, ht, hm⟩
    have hw : w.2.2.2.2.2.2.1.1 = nI (aMade A) := by rw [← hM]; exact hR.2.2.1.1
    left
    obtain ⟨t', j', B', w', g1, g2, g3, g4, g5, g6, g7⟩ := mend_in hn (nI t) w 5 FU t 0 B w (by unfold FU; omega) (by omega) hR hB (by omega) hl ht hm (by omega)
    refine ⟨(nI t', nI (i + 1), w'), ⟨t', B', w', rfl, g1, g2, g3.trans hM, g4, g5, g6⟩, fun rec => ?_⟩
    simp (disch := omega) only [ubX4_mendAll_1, hw, g7, ↓reduceIte, bt_do, bd_do, jn_eq, bI_z, gd_nI, gd_0, gd_1, nI_clamp, nI_add, nI_1, pk_mul, Nat.add_zero, Nat.zero_add, ile_t, ile_f, ilt_t, ilt_f, ieq_t, ieq_f, iz_t, iz_f, ilt0, ige0, im1, Bool.false_eq_true, Bool.true_eq_false, if_true, if_false]
  · rintro z ⟨t, B, w, rfl, hR, hB, hM, hl, ht, hm⟩
    have hw : w.2.2.2.2.2.2.1.1 = nI (aMade A) := by rw [← hM]; exact hR.2.2.1.1
    have hp : aPoor B = none := by
      unfold aPoor
      exact fsN_none (fun j _ h2 => hl j (by omega))
    rw [mdI_no hp, Nat.zero_add] at ht
    subst ht
    refine ⟨_, ⟨w, rfl⟩, fun rec => ?_⟩
    simp (disch := omega) only [ubX4_mendAll_1, hw, ↓reduceIte, bt_do, bd_do, jn_eq, bI_z, gd_nI, gd_0, gd_1, nI_clamp, nI_add, nI_1, pk_mul, Nat.add_zero, Nat.zero_add, ile_t, ile_f, ilt_t, ilt_f, ieq_t, ieq_f, iz_t, iz_f, ilt0, ige0, im1, Bool.false_eq_true, Bool.true_eq_false, if_true, if_false]
theorem mends_loop_m {A : AH} {b : Nat → Int64} {md : MD} {n : Nat} (h : RM A b) (hA : AI n A) (hn : n ≤ 8000) : ∃ b', lpF (bX11_mends_5 (fun q5 : Int32 × Int32 × MD => some (q5.1, q5.2.2))) FU (nI 0, (match aPoor A with
  | none => -1000000
  | some c => nI c), (md.1, b, md.2.2)) = some (nI (mdI 150 A), (md.1, b', md.2.2)) := by
  generalize hT : mdI 150 A = T
  have hnm : ∀ x, x < 100 → ((nI x = -1000000) = False) := by
    intro x hx
    have : ∀ x, x < 100 → ¬ nI x = -1000000 := by decide +kernel
    exact eq_false (this x hx)
  refine lp_gen (fun i z => ∃ B w, z = (nI i, (match aPoor B with
    | none => -1000000
    | some c => nI c), (md.1, w, md.2.2)) ∧ RM B w ∧ AI n B ∧ mdI (150 - i) B + i = T ∧ i ≤ abM B) (fun X => ∃ b', X = some (nI T, (md.1, b', md.2.2))) 150 (by omega) ⟨A, b, rfl, h, hA, by omega, by omega⟩ ?_ ?_
  · rintro i z hi ⟨B, w, rfl, hR, hB, ht, hm⟩
    rw [show 150 - i = (150 - (i + 1)) + 1 by omega, mdI] at ht
    cases hp : aPoor B with
    | none =>
      rw [hp] at ht
      right
      have : i = T := by simpa using ht
      subst this
      refine ⟨_, ⟨w, rfl⟩, fun rec => ?_⟩
      simp (disch := omega) only [ubX11_mends_5, ↓reduceIte, bt_do, bd_do, jn_eq, bI_z, gd_nI, gd_0, gd_1, nI_clamp, nI_add, nI_1, pk_mul, Nat.add_zero, Nat.zero_add, ile_t, ile_f, ilt_t, ilt_f, ieq_t, ieq_f, iz_t, iz_f, ilt0, ige0, im1, Bool.false_eq_true, Bool.true_eq_false, if_true, if_false]
    | some c =>
      rw [hp] at ht
      left
      obtain ⟨w', hw', hR'⟩ := gives_m hR hB hn hp
      have hc := (poor_use hB hp).1
      have h30 : aMade B ≤ 30 := hB.2.2.2.2.2.2.1
      have hB' := hB.mend hp
      have hpo := poor_m hR' hB' hn
      have hmm := mend_more hB hp
      refine ⟨_, ⟨spMend B c, w', rfl, hR', hB', by dsimp only at ht; omega, by omega⟩, fun rec => ?_⟩
      simp (disch := omega) only [ubX11_mends_5, hnm, hw', hpo, ↓reduceIte, bt_do, bd_do, jn_eq, bI_z, gd_nI, gd_0, gd_1, nI_clamp, nI_add, nI_1, pk_mul, Nat.add_zero, Nat.zero_add, ile_t, ile_f, ilt_t, ilt_f, ieq_t, ieq_f, iz_t, iz_f, ilt0, ige0, im1, Bool.false_eq_true, Bool.true_eq_false, if_true, if_false]
      rfl
  · rintro z ⟨B, w, rfl, hR, hB, ht, hm⟩
    have hp : aPoor B = none := by
      cases hp : aPoor B with
      | none => rfl
      | some c => have := abM_lt hB hp; omega
    rw [show 150 - 150 = 0 by omega, mdI, Nat.zero_add] at ht
    subst ht
    rw [hp]
    refine ⟨_, ⟨w, rfl⟩, fun rec => ?_⟩
    simp (disch := omega) only [ubX11_mends_5, ↓reduceIte, bt_do, bd_do, jn_eq, bI_z, gd_nI, gd_0, gd_1, nI_clamp, nI_add, nI_1, pk_mul, Nat.add_zero, Nat.zero_add, ile_t, ile_f, ilt_t, ilt_f, ieq_t, ieq_f, iz_t, iz_f, ilt0, ige0, im1, Bool.false_eq_true, Bool.true_eq_false, if_true, if_false]
