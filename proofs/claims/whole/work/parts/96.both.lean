/-! PURE 96: files shared, taken away, gone with time -/
abbrev shrA (A : AH) (t c : Nat) : AH := setLs (setSh (addCh A t c) c (aSh A c + 1)) c none
theorem AI.shr {n : Nat} {A : AH} (h : AI n A) {t c : Nat} (ht : t < 6) (hc : c < aMade A) (hi : ¬ aIs A t = 0) (h4 : aMany A t < 4) : AI n (shrA A t c) := by
  have hcnt : ∀ c', aCnt (shrA A t c) c' = aCnt A c' + (if c = c' then 1 else 0) := fun c' => aCnt_add (A := A) ht h4 c'
  obtain ⟨a1, a2, a3, a4, a5, a6, a7, a8, a9, a10, a11, a12, a13, a14⟩ := h
  refine ⟨a1, a2, a3, a4, a5, a6, a7, a8, a9, a10, fun g hg => ?_, fun c' hc' => ?_, fun c' hh tt hc' e => ?_, a14⟩
  · have h1 := a11 g hg
    show aIs A g ≤ 2 ∧ upO (aMany A) t (aMany A t + 1) g ≤ 4 ∧ (aIs A g = 0 → upO (aMany A) t (aMany A t + 1) g = 0) ∧ (aIs A g ≠ 0 → 1 ≤ aKind A g ∧ aKind A g ≤ 5) ∧ aSince A g ≤ aNow A ∧ ∀ k', k' < upO (aMany A) t (aMany A t + 1) g → upO (aCh A) t (upO (aCh A t) (aMany A t) c) g k' < aMade A
    by_cases e : g = t
    · subst e
      simp only [up_s]
      refine ⟨h1.1, by omega, fun q => absurd q hi, h1.2.2.2.1, h1.2.2.2.2.1, fun k' q => ?_⟩
      by_cases e2 : k' = aMany A g
      · rw [e2, up_s]; exact hc
      · rw [up_n e2]; exact h1.2.2.2.2.2 k' (by omega)
    · simp only [up_n e]
      exact h1
  · have h1 := a12 c' hc'
    refine ⟨h1.1, h1.2.1, ?_⟩
    rw [hcnt c']
    show upO (aSh A) c (aSh A c + 1) c' = _
    by_cases e : c' = c
    · subst e
      rw [up_s, if_pos rfl, h1.2.2]
    · rw [up_n e, if_neg (fun q => e q.symm), h1.2.2, Nat.add_zero]
  · have e : upO (aLs A) c none c' = some (hh, tt) := e
    by_cases q : c' = c
    · rw [q, up_s] at e; cases e
    · rw [up_n q] at e; exact a13 c' hh tt hc' e
def boI (A : AH) (f t : Nat) : Nat → AH
  | 0 => crA A t (aKind A f)
  | i + 1 => if i < aMany A f then shrA (boI A f t i) t (aCh A f i) else boI A f t i
def BI (n : Nat) (A B : AH) (f t i : Nat) : Prop := AI n B ∧ B.1 = A.1 ∧ aMany B t = i ∧ aMany B f = aMany A f ∧ aCh B f = aCh A f ∧ aIs B t = 1
theorem boI_inv {n : Nat} {A : AH} (hA : AI n A) {f t : Nat} (hf : f < 6) (ht : t < 6) (hft : ¬ f = t) (hi1 : ¬ aIs A f = 0) (hi0 : aIs A t = 0) : ∀ i, i ≤ aMany A f → BI n A (boI A f t i) f t i := by
  have h4 := (hA.2.2.2.2.2.2.2.2.2.2.1 f hf).2.1
  intro i
  induction i with
  | zero =>
    intro _
    exact ⟨hA.cr ht hi0 ((hA.2.2.2.2.2.2.2.2.2.2.1 f hf).2.2.2.1 hi1), rfl, up_s _ _ _, up_n hft, rfl, up_s _ _ _⟩
  | succ i ih =>
    intro hi
    obtain ⟨b1, b2, b3, b4, b5, b6⟩ := ih (by omega)
    rw [boI, if_pos (by omega)]
    generalize boI A f t i = B at *
    have hmB : aMade B = aMade A := congrFun b2 6
    have hc := (hA.2.2.2.2.2.2.2.2.2.2.1 f hf).2.2.2.2.2 i (by omega)
    refine ⟨b1.shr ht (by rw [hmB]; exact hc) (by omega) (by omega), b2, ?_, ?_, ?_, b6⟩
    · show upO (aMany B) t (aMany B t + 1) t = i + 1
      rw [up_s, b3]
    · show upO (aMany B) t (aMany B t + 1) f = _
      rw [up_n hft, b4]
    · show upO (aCh B) t _ f = _
      rw [up_n hft, b5]
theorem boI_e (A : AH) (f t : Nat) (d : Nat) : boI A f t (aMany A f + d) = boI A f t (aMany A f) := by
  induction d with
  | zero => rfl
  | succ d ih =>
    show boI A f t (aMany A f + d + 1) = _
    rw [boI, if_neg (by omega), ih]
theorem share_c {A : AH} {v : HS} {n : Nat} (h : RC A v) (hA : AI n A) {f t : Nat} (hf : f < 6) (ht : t < 6) (hft : ¬ f = t) (hi1 : ¬ aIs A f = 0) (hi0 : aIs A t = 0) : ∃ v', f_X5_shareFile v (nI f) (nI t) = some (nI (aMany A f), v') ∧ RC (boI A f t (aMany A f)) v' := by
  have h30 : aMade A ≤ 30 := hA.2.2.2.2.2.2.1
  have h4 := (hA.2.2.2.2.2.2.2.2.2.2.1 f hf).2.1
  have hk := (h.2.2.2.2 f hf).2.1 hi1
  obtain ⟨y, hy, hRy⟩ := RC.cr h (f := t) (k := aKind A f) ht
  simp (disch := omega) only [u_X5_shareFile, isFile_n hf, isFile_n ht, hk, hy, ↓reduceIte, bt_do, bd_do, jn_eq, bI_z, gd_nI, gd_0, gd_1, nI_clamp, nI_add, nI_1, pk_mul, Nat.add_zero, Nat.zero_add, ile_t, ile_f, ilt_t, ilt_f, ieq_t, ieq_f, iz_t, iz_f, ilt0, ige0, im1, Bool.false_eq_true, Bool.true_eq_false, if_true, if_false]
  have e4 : boI A f t 4 = boI A f t (aMany A f) := by
    have := boI_e A f t (4 - aMany A f)
    rw [show aMany A f + (4 - aMany A f) = 4 by omega] at this
    exact this
  refine lp_gen (fun i q => q.1 = nI i ∧ RC (boI A f t i) q.2) (fun X => ∃ v', X = some (nI (aMany A f), v') ∧ RC (boI A f t (aMany A f)) v') 4 (by omega) ?_ ?_ ?_
  · exact ⟨rfl, hRy⟩
  · intro i q hi hR
    obtain ⟨q1, w⟩ := q
    obtain ⟨h1, h2⟩ := hR
    dsimp only at h1 h2
    subst h1
    left
    by_cases e : i < aMany A f
    · obtain ⟨b1, b2, b3, b4, b5, b6⟩ := boI_inv hA hf ht hft hi1 hi0 i (by omega)
      rw [boI, if_pos e]
      generalize boI A f t i = B at *
      have hmB : aMade B = aMade A := congrFun b2 6
      have hc := (hA.2.2.2.2.2.2.2.2.2.2.1 f hf).2.2.2.2.2 i e
      have hcB : aCh A f i < aMade B := by rw [hmB]; exact hc
      have hch := chunkOf_e h2.2.2.2.2 hf (k := i) (by omega) hi (by omega)
      rw [b5] at hch
      obtain ⟨y1, hy1, hR1⟩ := addCh_c h2 (x := aCh A f i) ht (by omega)
      obtain ⟨y2, hy2, hR2⟩ := shInc_c hR1 (c := aCh A f i) hcB (by show aMade B ≤ 30; omega)
      obtain ⟨y3, hy3, hR3⟩ := endLease_c hR2 (c := aCh A f i) hcB (by show aMade B ≤ 30; omega)
      refine ⟨(nI (i + 1), (w.1, w.2.1, w.2.2.1, w.2.2.2.1, w.2.2.2.2.1, w.2.2.2.2.2.1, y3, w.2.2.2.2.2.2.2.1, y1)), ⟨rfl, hR3⟩, fun rec => ?_⟩
      have hy2 : f_X1_share w.2.2.2.2.2.2.1 (nI (aCh A f i)) (nI 1) = some y2 := hy2
      have hy3 : f_X1_endLease y2 (nI (aCh A f i)) = some y3 := hy3
      simp (disch := omega) only [ubX5_shareFile_5, hch, hy1, hy2, hy3, ↓reduceIte, bt_do, bd_do, jn_eq, bI_z, gd_nI, gd_0, gd_1, nI_clamp, nI_add, nI_1, pk_mul, Nat.add_zero, Nat.zero_add, ile_t, ile_f, ilt_t, ilt_f, ieq_t, ieq_f, iz_t, iz_f, ilt0, ige0, im1, Bool.false_eq_true, Bool.true_eq_false, if_true, if_false]
    · rw [boI, if_neg e]
      have hR2 := h2
      have e5 : boI A f t i = boI A f t (aMany A f) := by
        have := boI_e A f t (i - aMany A f)
        rw [show aMany A f + (i - aMany A f) = i by omega] at this
        exact this
      obtain ⟨b1, b2, b3, b4, b5, b6⟩ := boI_inv hA hf ht hft hi1 hi0 (aMany A f) (Nat.le_refl _)
      rw [e5] at hR2
      have hch := chunkOf_none hR2.2.2.2.2 hf (k := i) (by omega) hi
      refine ⟨(nI (i + 1), w), ⟨rfl, h2⟩, fun rec => ?_⟩
      simp (disch := omega) only [ubX5_shareFile_5, hch, ↓reduceIte, bt_do, bd_do, jn_eq, bI_z, gd_nI, gd_0, gd_1, nI_clamp, nI_add, nI_1, pk_mul, Nat.add_zero, Nat.zero_add, ile_t, ile_f, ilt_t, ilt_f, ieq_t, ieq_f, iz_t, iz_f, ilt0, ige0, im1, Bool.false_eq_true, Bool.true_eq_false, if_true, if_false]
  · intro q hR
    obtain ⟨q1, w⟩ := q
    obtain ⟨h1, h2⟩ := hR
    dsimp only at h1 h2
    subst h1
    rw [e4] at h2
    obtain ⟨b1, b2, b3, b4, b5, b6⟩ := boI_inv hA hf ht hft hi1 hi0 (aMany A f) (Nat.le_refl _)
    have hmw := (h2.2.2.2.2 t ht).2.2.2.1
    rw [b3] at hmw
    refine ⟨_, ⟨w, rfl, h2⟩, fun rec => ?_⟩
    simp (disch := omega) only [ubX5_shareFile_5, hmw, ↓reduceIte, bt_do, bd_do, jn_eq, bI_z, gd_nI, gd_0, gd_1, nI_clamp, nI_add, nI_1, pk_mul, Nat.add_zero, Nat.zero_add, ile_t, ile_f, ilt_t, ilt_f, ieq_t, ieq_f, iz_t, iz_f, ilt0, ige0, im1, Bool.false_eq_true, Bool.true_eq_false, if_true, if_false]
/-! the model's loop -/
theorem RM.ext {A : AH} {b b' : Nat → Int64} (h : RM A b) (e : ∀ j, b' j = b j) : RM A b' := by
  have : b' = b := funext e
  rw [this]
  exact h
theorem both_loop_m {A : AH} {b : Nat → Int64} {n : Nat} (h : RM A b) (hA : AI n A) {f t : Nat} (hf : f < 6) (ht : t < 6) (hft : ¬ f = t) (hi1 : ¬ aIs A f = 0) (hi0 : aIs A t = 0) (m2 : (Nat → Int64) × (Nat → Int64) × Int32 × (Nat → Int64) × (Nat → Int32) × (Nat → Int32) × Int32 × Int32 × Int32 × Int32 × Int32 × Int32 × Int32 × Int32 × (Nat → Int32) × Int32) : ∃ b', lpF (bX11_both_15 (nI f) (nI t) (fun q15 : Int32 × MD => bd (f_X11_many q15.2.1 (nI f)) (fun r16 => some (r16, q15.2)))) FU (nI 0, (vp_updL (vp_updL (vp_updL b (22 + 8 * t) (lN 1)) (22 + 8 * t + 1) (lN (aKind A f))) (22 + 8 * t + 2) (lN (aMany A f)), m2)) = some (nI (aMany A f), (b', m2)) ∧ RM (boI A f t (aMany A f)) b' := by
  have h30 : aMade A ≤ 30 := hA.2.2.2.2.2.2.1
  have h4 := (hA.2.2.2.2.2.2.2.2.2.2.1 f hf).2.1
  refine lp_gen (fun i q => q.1 = nI i ∧ q.2.2 = m2 ∧ q.2.1 (22 + 8 * t + 2) = lN (aMany A f) ∧ RM (boI A f t i) (vp_updL q.2.1 (22 + 8 * t + 2) (lN i))) (fun X => ∃ b', X = some (nI (aMany A f), (b', m2)) ∧ RM (boI A f t (aMany A f)) b') (aMany A f) (by omega) ?_ ?_ ?_
  · refine ⟨rfl, rfl, pk_uLs, (h.cr h30 (f := t) (k := aKind A f) ht).ext (fun j => ?_)⟩
    dsimp only
    by_cases e : j = 22 + 8 * t + 2
    · subst e
      rw [pk_uLs, pk_uLs]
    · rw [pk_uLn e, pk_uLn e, pk_uLn e]
  · intro i q hi hR
    obtain ⟨q1, w, m⟩ := q
    obtain ⟨h1, h2, h3, h5⟩ := hR
    dsimp only at h1 h2 h3 h5
    subst h1
    subst h2
    left
    obtain ⟨b1, b2, b3, b4, b5, b6⟩ := boI_inv hA hf ht hft hi1 hi0 i (by omega)
    rw [boI, if_pos hi]
    generalize boI A f t i = B at *
    have hmB : aMade B = aMade A := congrFun b2 6
    have h30B : aMade B ≤ 30 := by omega
    have hc := (hA.2.2.2.2.2.2.2.2.2.2.1 f hf).2.2.2.2.2 i hi
    have hcB : aCh A f i < aMade B := by rw [hmB]; exact hc
    have hmw : f_X11_many w (nI f) = some (nI (aMany A f)) := by
      have hx := (h5.2.2.1 f hf).2.2.1
      rw [pk_uLn (by omega), b4] at hx
      simp (disch := omega) only [u_X11_many, ↓reduceIte, bt_do, bd_do, jn_eq, bI_z, gd_nI, gd_0, gd_1, nI_clamp, nI_add, nI_1, pk_mul, Nat.add_zero, Nat.zero_add, ile_t, ile_f, ilt_t, ilt_f, ieq_t, ieq_f, iz_t, iz_f, ilt0, ige0, im1, Bool.false_eq_true, Bool.true_eq_false, if_true, if_false, lc_ge_t, lc_ge_f, lc_eq_t, lc_eq_f, lc_le_t, lc_le_f, lc_gt_t, lc_gt_f, lc_lt_t, lc_lt_f, nI_l, lN_i, lN_add, lN_1, hx]
    have hcw : f_X11_chunkOf w (nI f) (nI i) = some (nI (aCh A f i)) := by
      have hx := (h5.2.2.1 f hf).2.2.2.2 i (by omega) (by omega)
      rw [pk_uLn (by omega), b5] at hx
      simp (disch := omega) only [u_X11_chunkOf, ↓reduceIte, bt_do, bd_do, jn_eq, bI_z, gd_nI, gd_0, gd_1, nI_clamp, nI_add, nI_1, pk_mul, Nat.add_zero, Nat.zero_add, ile_t, ile_f, ilt_t, ilt_f, ieq_t, ieq_f, iz_t, iz_f, ilt0, ige0, im1, Bool.false_eq_true, Bool.true_eq_false, if_true, if_false, lc_ge_t, lc_ge_f, lc_eq_t, lc_eq_f, lc_le_t, lc_le_f, lc_gt_t, lc_gt_f, lc_lt_t, lc_lt_f, nI_l, lN_i, lN_add, lN_1, hx]
    have hsw : w (70 + 4 * aCh A f i + 1) = lN (aSh B (aCh A f i)) := by
      have hx := (h5.2.2.2.1 (aCh A f i) hcB).2.1
      rw [pk_uLn (by omega)] at hx
      exact hx
    have hR3 := ((h5.add h30B ht (by omega) (aCh A f i)).sh h30B (c := aCh A f i) hcB (aSh B (aCh A f i) + 1)).lsN h30B (c := aCh A f i) hcB
    rw [b3] at hR3
    refine ⟨(nI (i + 1), (vp_updL (vp_updL (vp_updL w (22 + 8 * t + 4 + i) (lN (aCh A f i))) (70 + 4 * aCh A f i + 1) (lN (aSh B (aCh A f i) + 1))) (70 + 4 * aCh A f i + 2) (-1), m)), ⟨rfl, rfl, ?_, hR3.ext (fun j => ?_)⟩, fun rec => ?_⟩
    · show vp_updL _ _ _ (22 + 8 * t + 2) = _
      rw [pk_uLn (by omega), pk_uLn (by omega), pk_uLn (by omega), h3]
    · dsimp only
      unfold vp_updL
      by_cases j1 : j = 22 + 8 * t + 2
      · subst j1
        rw [if_pos rfl, if_neg (by omega), if_neg (by omega), if_pos rfl]
      · rw [if_neg j1]
        by_cases j2 : j = 70 + 4 * aCh A f i + 2
        · rw [if_pos j2, if_pos j2]
        · rw [if_neg j2, if_neg j2]
          by_cases j3 : j = 70 + 4 * aCh A f i + 1
          · rw [if_pos j3, if_pos j3]
          · rw [if_neg j3, if_neg j3, if_neg j1]
            by_cases j4 : j = 22 + 8 * t + 4 + i
            · rw [if_pos j4, if_pos j4]
            · rw [if_neg j4, if_neg j4, if_neg j1]
    · simp (disch := omega) only [ubX11_both_15, hmw, hcw, pk_uLn, hsw, ↓reduceIte, bt_do, bd_do, jn_eq, bI_z, gd_nI, gd_0, gd_1, nI_clamp, nI_add, nI_1, pk_mul, Nat.add_zero, Nat.zero_add, ile_t, ile_f, ilt_t, ilt_f, ieq_t, ieq_f, iz_t, iz_f, ilt0, ige0, im1, Bool.false_eq_true, Bool.true_eq_false, if_true, if_false, lc_ge_t, lc_ge_f, lc_eq_t, lc_eq_f, lc_le_t, lc_le_f, lc_gt_t, lc_gt_f, lc_lt_t, lc_lt_f, nI_l, lN_i, lN_add, lN_1]
  · intro q hR
    obtain ⟨q1, w, m⟩ := q
    obtain ⟨h1, h2, h3, h5⟩ := hR
    dsimp only at h1 h2 h3 h5
    subst h1
    subst h2
    rw [← h3, updL_same] at h5
    obtain ⟨b1, b2, b3, b4, b5, b6⟩ := boI_inv hA hf ht hft hi1 hi0 (aMany A f) (Nat.le_refl _)
    have hmw := many_r h5 hf
    rw [b4] at hmw
    refine ⟨_, ⟨w, rfl, h5⟩, fun rec => ?_⟩
    simp (disch := omega) only [ubX11_both_15, hmw, ↓reduceIte, bt_do, bd_do, jn_eq, bI_z, gd_nI, gd_0, gd_1, nI_clamp, nI_add, nI_1, pk_mul, Nat.add_zero, Nat.zero_add, ile_t, ile_f, ilt_t, ilt_f, ieq_t, ieq_f, iz_t, iz_f, ilt0, ige0, im1, Bool.false_eq_true, Bool.true_eq_false, if_true, if_false, lc_ge_t, lc_ge_f, lc_eq_t, lc_eq_f, lc_le_t, lc_le_f, lc_gt_t, lc_gt_f, lc_lt_t, lc_lt_f, nI_l, lN_i, lN_add, lN_1]
/-! grace, taken away, gone with time -/
def aGr (A : AH) (f : Nat) : Nat := if 4 ≤ aKind A f then 0 else A.1 4
theorem grace_c {A : AH} {v : HS} {n : Nat} (h : RC A v) (hA : AI n A) {f : Nat} (hf : f < 6) (hi : ¬ aIs A f = 0) : f_X5_graceOf v (nI f) = some (nI (aGr A f)) := by
  have hk := (h.2.2.2.2 f hf).2.1 hi
  have hb := (hA.2.2.2.2.2.2.2.2.2.2.1 f hf).2.2.2.1 hi
  have hg : v.2.2.2.1 = nI (A.1 4) := h.1.2.2.2.1
  unfold aGr
  generalize aKind A f = k at *
  rcases (by omega : k = 1 ∨ k = 2 ∨ k = 3 ∨ k = 4 ∨ k = 5) with e | e | e | e | e <;> subst e <;> simp (decide := true) (disch := omega) only [u_X5_graceOf, isFile_n hf, hk, isOne_d, hg, ↓reduceIte, bt_do, bd_do, jn_eq, bI_z, gd_nI, gd_0, gd_1, nI_clamp, nI_add, nI_1, pk_mul, Nat.add_zero, Nat.zero_add, ile_t, ile_f, ilt_t, ilt_f, ieq_t, ieq_f, iz_t, iz_f, ilt0, ige0, im1, Bool.false_eq_true, Bool.true_eq_false, if_true, if_false]
theorem grace_m {A : AH} {b : Nat → Int64} {n : Nat} (h : RM A b) (hA : AI n A) {f : Nat} (hf : f < 6) (hi : ¬ aIs A f = 0) : f_X11_grace b (nI f) = some (lN (aGr A f)) := by
  have hk := (h.2.2.1 f hf).2.1 hi
  have hb := (hA.2.2.2.2.2.2.2.2.2.2.1 f hf).2.2.2.1 hi
  have hg : b 4 = lN (A.1 4) := h.1 4 (by omega)
  unfold aGr
  by_cases e : 4 ≤ aKind A f
  · rw [if_pos e]
    simp (disch := omega) only [u_X11_grace, hk, hg, ↓reduceIte, bt_do, bd_do, jn_eq, bI_z, gd_nI, gd_0, gd_1, nI_clamp, nI_add, nI_1, pk_mul, Nat.add_zero, Nat.zero_add, ile_t, ile_f, ilt_t, ilt_f, ieq_t, ieq_f, iz_t, iz_f, ilt0, ige0, im1, Bool.false_eq_true, Bool.true_eq_false, if_true, if_false, lc_ge_t, lc_ge_f, lc_eq_t, lc_eq_f, lc_le_t, lc_le_f, lc_gt_t, lc_gt_f, lc_lt_t, lc_lt_f, nI_l, lN_i, lN_add, lN_1]
  · rw [if_neg e]
    simp (disch := omega) only [u_X11_grace, hk, hg, ↓reduceIte, bt_do, bd_do, jn_eq, bI_z, gd_nI, gd_0, gd_1, nI_clamp, nI_add, nI_1, pk_mul, Nat.add_zero, Nat.zero_add, ile_t, ile_f, ilt_t, ilt_f, ieq_t, ieq_f, iz_t, iz_f, ilt0, ige0, im1, Bool.false_eq_true, Bool.true_eq_false, if_true, if_false, lc_ge_t, lc_ge_f, lc_eq_t, lc_eq_f, lc_le_t, lc_le_f, lc_gt_t, lc_gt_f, lc_lt_t, lc_lt_f, nI_l, lN_i, lN_add, lN_1]
theorem gr_le {A : AH} {n : Nat} (hA : AI n A) (f : Nat) : aGr A f ≤ 20 := by
  have := hA.2.2.2.2.1
  unfold aGr
  split <;> omega
def spTake (A : AH) (f : Nat) : AH := if aGr A f = 0 then goneA (hideA A f) f else hideA A f
theorem AI.take {n : Nat} {A : AH} (h : AI n A) {f : Nat} (hf : f < 6) (hi : ¬ aIs A f = 0) : AI n (spTake A f) := by
  unfold spTake
  split
  · exact (h.hide hi).gone hf
  · exact h.hide hi
theorem RC.goneH {A : AH} {v : HS} {f : Nat} (h : RC (goneA A f) v) : RC (goneA (hideA A f) f) v := by
  refine ⟨h.1, h.2.1, h.2.2.1, h.2.2.2.1, fun g hg => ?_⟩
  have h3 := h.2.2.2.2 g hg
  have e : aIs (goneA (hideA A f) f) g = aIs (goneA A f) g := by
    show upO (upO (aIs A) f 2) f 0 g = upO (aIs A) f 0 g
    by_cases q : g = f
    · subst q; rw [up_s, up_s]
    · rw [up_n q, up_n q, up_n q]
  rw [e]
  refine ⟨h3.1, h3.2.1, fun q => ?_, h3.2.2.2⟩
  have hs := h3.2.2.1 q
  have q2 : upO (aIs A) f 0 g = 2 := q
  have e2 : ¬ g = f := fun z => by
    rw [z, up_s] at q2
    omega
  show _ = nI (upO (aSince A) f (aNow A) g)
  rw [up_n e2]
  exact hs
theorem take_c {A : AH} {v : HS} {n : Nat} (h : RC A v) (hA : AI n A) (hn : n ≤ 8000) {f : Nat} (hf : f < 6) (hi : ¬ aIs A f = 0) : ∃ v', f_X5_takeAway v (nI f) = some (nI (aNow A + aGr A f), v') ∧ RC (spTake A f) v' := by
  have hno : v.2.2.2.2.1 = nI (aNow A) := h.1.2.2.2.2
  have hb : aNow A ≤ 50 * n := hA.2.2.2.2.2.1
  have hg := gr_le hA f
  have hgr := grace_c h hA hf hi
  unfold spTake
  by_cases e : aGr A f = 0
  · rw [if_pos e]
    obtain ⟨v', hv, hR⟩ := lose_c h hA hf
    refine ⟨v', ?_, hR.goneH⟩
    simp (disch := omega) only [u_X5_takeAway, hgr, hno, hv, ↓reduceIte, bt_do, bd_do, jn_eq, bI_z, gd_nI, gd_0, gd_1, nI_clamp, nI_add, nI_1, pk_mul, Nat.add_zero, Nat.zero_add, ile_t, ile_f, ilt_t, ilt_f, ieq_t, ieq_f, iz_t, iz_f, ilt0, ige0, im1, Bool.false_eq_true, Bool.true_eq_false, if_true, if_false]
  · rw [if_neg e]
    obtain ⟨y, hy, hR⟩ := RC.hide h hf hi
    refine ⟨_, ?_, hR⟩
    simp (disch := omega) only [u_X5_takeAway, hgr, hno, hy, hFL, ↓reduceIte, bt_do, bd_do, jn_eq, bI_z, gd_nI, gd_0, gd_1, nI_clamp, nI_add, nI_1, pk_mul, Nat.add_zero, Nat.zero_add, ile_t, ile_f, ilt_t, ilt_f, ieq_t, ieq_f, iz_t, iz_f, ilt0, ige0, im1, Bool.false_eq_true, Bool.true_eq_false, if_true, if_false]
def tkS (f : Nat) (st : Nat × AH) : Nat × AH := if aIs st.2 f = 2 ∧ aGr st.2 f ≤ aNow st.2 - aSince st.2 f then (st.1 + 1, goneA st.2 f) else st
def tkN (A : AH) : Nat → Nat × AH
  | 0 => (0, A)
  | f + 1 => tkS f (tkN A f)
theorem tkN_inv {n : Nat} {A : AH} (hA : AI n A) : ∀ i, i ≤ 6 → AI n (tkN A i).2 ∧ (tkN A i).2.1 = A.1 ∧ (tkN A i).1 ≤ i := by
  intro i
  induction i with
  | zero => intro _; exact ⟨hA, rfl, Nat.le_refl _⟩
  | succ i ih =>
    intro hi
    obtain ⟨h1, h2, h3⟩ := ih (by omega)
    rw [tkN]
    generalize tkN A i = st at *
    unfold tkS
    split
    · exact ⟨h1.gone (by omega), h2, by show st.1 + 1 ≤ i + 1; omega⟩
    · exact ⟨h1, h2, by omega⟩
theorem is_c {A : AH} {v : HS} (h : RC A v) {f w : Nat} (hf : f < 6) (ha : aIs A f ≤ 2) (hw : w < 10) : f_X3_is v.2.2.2.2.2.2.2.2 (nI f) (nI w) = some (decide (aIs A f = w)) := by
  have h1 := (h.2.2.2.2 f hf).1
  by_cases e : aIs A f = w
  · simp (disch := omega) only [u_X3_is, isFile_n hf, h1, ↓reduceIte, bt_do, bd_do, jn_eq, bI_z, gd_nI, gd_0, gd_1, nI_clamp, nI_add, nI_1, pk_mul, Nat.add_zero, Nat.zero_add, ile_t, ile_f, ilt_t, ilt_f, ieq_t, ieq_f, iz_t, iz_f, ilt0, ige0, im1, Bool.false_eq_true, Bool.true_eq_false, if_true, if_false, decide_eq_true e]
  · simp (disch := omega) only [u_X3_is, isFile_n hf, h1, ↓reduceIte, bt_do, bd_do, jn_eq, bI_z, gd_nI, gd_0, gd_1, nI_clamp, nI_add, nI_1, pk_mul, Nat.add_zero, Nat.zero_add, ile_t, ile_f, ilt_t, ilt_f, ieq_t, ieq_f, iz_t, iz_f, ilt0, ige0, im1, Bool.false_eq_true, Bool.true_eq_false, if_true, if_false, decide_eq_false e]
theorem comeOn_c {A : AH} {v : HS} {n : Nat} (h : RC A v) (hA : AI n A) (hn : n < 8000) {k : Nat} (hk : k ≤ 50) : ∃ v', f_X5_comeOn v (nI k) = some (nI (tkN (setNow A (aNow A + k)) 6).1, v') ∧ RC (tkN (setNow A (aNow A + k)) 6).2 v' := by
  have hno : v.2.2.2.2.1 = nI (aNow A) := h.1.2.2.2.2
  have hb : aNow A ≤ 50 * n := hA.2.2.2.2.2.1
  have hA1 : AI (n + 1) (setNow A (aNow A + k)) := hA.now hk
  have hR0 : RC (setNow A (aNow A + k)) (v.1, v.2.1, v.2.2.1, v.2.2.2.1, nI (aNow A + k), v.2.2.2.2.2.1, v.2.2.2.2.2.2.1, v.2.2.2.2.2.2.2.1, v.2.2.2.2.2.2.2.2) := by
    refine ⟨⟨h.1.1, h.1.2.1, h.1.2.2.1, h.1.2.2.2.1, ?_⟩, h.2.1, h.2.2.1, h.2.2.2.1, h.2.2.2.2⟩
    show _ = nI (upO A.1 5 (aNow A + k) 5)
    rw [up_s]
  simp only [u_X5_comeOn, jn_eq, hno, nI_add]
  generalize setNow A (aNow A + k) = B at *
  refine lp_gen (fun i z => z.1 = nI (tkN B i).1 ∧ z.2.1 = nI i ∧ RC (tkN B i).2 z.2.2) (fun X => ∃ v', X = some (nI (tkN B 6).1, v') ∧ RC (tkN B 6).2 v') 6 (by omega) ?_ ?_ ?_
  · exact ⟨rfl, rfl, hR0⟩
  · intro i z hi hR
    obtain ⟨z1, z2, w⟩ := z
    obtain ⟨e1, e2, hRw⟩ := hR
    dsimp only at e1 e2 hRw
    subst e1
    subst e2
    obtain ⟨hAi, hnum, hcnt⟩ := tkN_inv hA1 i (by omega)
    rw [tkN]
    generalize tkN B i = st at *
    have hbi : aNow st.2 ≤ 50 * (n + 1) := hAi.2.2.2.2.2.1
    have hfl := hAi.2.2.2.2.2.2.2.2.2.2.1 i hi
    have his := is_c hRw (w := 2) hi hfl.1 (by omega)
    left
    unfold tkS
    by_cases e : aIs st.2 i = 2
    · have hsi := (hRw.2.2.2.2 i hi).2.2.1 e
      have hnw : w.2.2.2.2.1 = nI (aNow st.2) := hRw.1.2.2.2.2
      have hgr := grace_c hRw hAi hi (by omega)
      have hg20 := gr_le hAi i
      rw [decide_eq_true e] at his
      have hsub := pk_sub (a := aNow st.2) (b := aSince st.2 i) hfl.2.2.2.2.1
      by_cases e2 : aGr st.2 i ≤ aNow st.2 - aSince st.2 i
      · rw [if_pos ⟨e, e2⟩]
        obtain ⟨w', hw', hRw'⟩ := lose_c hRw hAi hi
        refine ⟨(nI (st.1 + 1), nI (i + 1), w'), ⟨rfl, rfl, hRw'⟩, fun rec => ?_⟩
        simp (disch := omega) only [ubX5_comeOn_1, his, hgr, hnw, hsi, hsub, hw', ↓reduceIte, bt_do, bd_do, jn_eq, bI_z, gd_nI, gd_0, gd_1, nI_clamp, nI_add, nI_1, pk_mul, Nat.add_zero, Nat.zero_add, ile_t, ile_f, ilt_t, ilt_f, ieq_t, ieq_f, iz_t, iz_f, ilt0, ige0, im1, Bool.false_eq_true, Bool.true_eq_false, if_true, if_false]
      · rw [if_neg (fun q => e2 q.2)]
        refine ⟨(nI st.1, nI (i + 1), w), ⟨rfl, rfl, hRw⟩, fun rec => ?_⟩
        simp (disch := omega) only [ubX5_comeOn_1, his, hgr, hnw, hsi, hsub, ↓reduceIte, bt_do, bd_do, jn_eq, bI_z, gd_nI, gd_0, gd_1, nI_clamp, nI_add, nI_1, pk_mul, Nat.add_zero, Nat.zero_add, ile_t, ile_f, ilt_t, ilt_f, ieq_t, ieq_f, iz_t, iz_f, ilt0, ige0, im1, Bool.false_eq_true, Bool.true_eq_false, if_true, if_false]
    · rw [if_neg (fun q => e q.1)]
      rw [decide_eq_false e] at his
      refine ⟨(nI st.1, nI (i + 1), w), ⟨rfl, rfl, hRw⟩, fun rec => ?_⟩
      simp (disch := omega) only [ubX5_comeOn_1, his, ↓reduceIte, bt_do, bd_do, jn_eq, bI_z, gd_nI, gd_0, gd_1, nI_clamp, nI_add, nI_1, pk_mul, Nat.add_zero, Nat.zero_add, ile_t, ile_f, ilt_t, ilt_f, ieq_t, ieq_f, iz_t, iz_f, ilt0, ige0, im1, Bool.false_eq_true, Bool.true_eq_false, if_true, if_false]
  · intro z hR
    obtain ⟨z1, z2, w⟩ := z
    obtain ⟨e1, e2, hRw⟩ := hR
    dsimp only at e1 e2 hRw
    subst e1
    subst e2
    refine ⟨_, ⟨w, rfl, hRw⟩, fun rec => ?_⟩
    simp (disch := omega) only [ubX5_comeOn_1, ↓reduceIte, bt_do, bd_do, jn_eq, bI_z, gd_nI, gd_0, gd_1, nI_clamp, nI_add, nI_1, pk_mul, Nat.add_zero, Nat.zero_add, ile_t, ile_f, ilt_t, ilt_f, ieq_t, ieq_f, iz_t, iz_f, ilt0, ige0, im1, Bool.false_eq_true, Bool.true_eq_false, if_true, if_false]
theorem tick_loop_m {B : AH} {b : Nat → Int64} {n : Nat} (h : RM B b) (hA1 : AI n B) (hn : n ≤ 8000) (m2 : (Nat → Int64) × (Nat → Int64) × Int32 × (Nat → Int64) × (Nat → Int32) × (Nat → Int32) × Int32 × Int32 × Int32 × Int32 × Int32 × Int32 × Int32 × Int32 × (Nat → Int32) × Int32) : ∃ b', lpF (bX11_tick_7 (fun q7 : Int32 × Int32 × MD => some (q7.1, q7.2.2))) FU (nI 0, nI 0, (b, m2)) = some (nI (tkN B 6).1, (b', m2)) ∧ RM (tkN B 6).2 b' := by
  refine lp_gen (fun i z => z.1 = nI (tkN B i).1 ∧ z.2.1 = nI i ∧ z.2.2.2 = m2 ∧ RM (tkN B i).2 z.2.2.1) (fun X => ∃ b', X = some (nI (tkN B 6).1, (b', m2)) ∧ RM (tkN B 6).2 b') 6 (by omega) ?_ ?_ ?_
  · exact ⟨rfl, rfl, rfl, h⟩
  · intro i z hi hR
    obtain ⟨z1, z2, w, m⟩ := z
    obtain ⟨e1, e2, e3, hRw⟩ := hR
    dsimp only at e1 e2 e3 hRw
    subst e1
    subst e2
    subst e3
    obtain ⟨hAi, hnum, hcnt⟩ := tkN_inv hA1 i (by omega)
    rw [tkN]
    generalize tkN B i = st at *
    have hbi : aNow st.2 ≤ 50 * n := hAi.2.2.2.2.2.1
    have hfl := hAi.2.2.2.2.2.2.2.2.2.2.1 i hi
    have his := (hRw.2.2.1 i hi).1
    left
    unfold tkS
    by_cases e : aIs st.2 i = 2
    · have hsi := (hRw.2.2.1 i hi).2.2.2.1 e
      have hnw : w 5 = lN (aNow st.2) := hRw.1 5 (by omega)
      have hgr := grace_m hRw hAi hi (by omega)
      have hg20 := gr_le hAi i
      have hsub := lN_sub (a := aNow st.2) (b := aSince st.2 i) hfl.2.2.2.2.1
      by_cases e2 : aGr st.2 i ≤ aNow st.2 - aSince st.2 i
      · rw [if_pos ⟨e, e2⟩]
        obtain ⟨w', hw', hRw'⟩ := goes_m hRw hAi hi
        refine ⟨(nI (st.1 + 1), nI (i + 1), (w', m)), ⟨rfl, rfl, rfl, hRw'⟩, fun rec => ?_⟩
        simp (disch := omega) only [ubX11_tick_7, his, hgr, hnw, hsi, hsub, hw', ↓reduceIte, bt_do, bd_do, jn_eq, bI_z, gd_nI, gd_0, gd_1, nI_clamp, nI_add, nI_1, pk_mul, Nat.add_zero, Nat.zero_add, ile_t, ile_f, ilt_t, ilt_f, ieq_t, ieq_f, iz_t, iz_f, ilt0, ige0, im1, Bool.false_eq_true, Bool.true_eq_false, if_true, if_false, lc_ge_t, lc_ge_f, lc_eq_t, lc_eq_f, lc_le_t, lc_le_f, lc_gt_t, lc_gt_f, lc_lt_t, lc_lt_f, nI_l, lN_i, lN_add, lN_1]
      · rw [if_neg (fun q => e2 q.2)]
        refine ⟨(nI st.1, nI (i + 1), (w, m)), ⟨rfl, rfl, rfl, hRw⟩, fun rec => ?_⟩
        simp (disch := omega) only [ubX11_tick_7, his, hgr, hnw, hsi, hsub, ↓reduceIte, bt_do, bd_do, jn_eq, bI_z, gd_nI, gd_0, gd_1, nI_clamp, nI_add, nI_1, pk_mul, Nat.add_zero, Nat.zero_add, ile_t, ile_f, ilt_t, ilt_f, ieq_t, ieq_f, iz_t, iz_f, ilt0, ige0, im1, Bool.false_eq_true, Bool.true_eq_false, if_true, if_false, lc_ge_t, lc_ge_f, lc_eq_t, lc_eq_f, lc_le_t, lc_le_f, lc_gt_t, lc_gt_f, lc_lt_t, lc_lt_f, nI_l, lN_i, lN_add, lN_1]
    · rw [if_neg (fun q => e q.1)]
      refine ⟨(nI st.1, nI (i + 1), (w, m)), ⟨rfl, rfl, rfl, hRw⟩, fun rec => ?_⟩
      simp (disch := omega) only [ubX11_tick_7, his, ↓reduceIte, bt_do, bd_do, jn_eq, bI_z, gd_nI, gd_0, gd_1, nI_clamp, nI_add, nI_1, pk_mul, Nat.add_zero, Nat.zero_add, ile_t, ile_f, ilt_t, ilt_f, ieq_t, ieq_f, iz_t, iz_f, ilt0, ige0, im1, Bool.false_eq_true, Bool.true_eq_false, if_true, if_false, lc_ge_t, lc_ge_f, lc_eq_t, lc_eq_f, lc_le_t, lc_le_f, lc_gt_t, lc_gt_f, lc_lt_t, lc_lt_f, nI_l, lN_i, lN_add, lN_1]
  · intro z hR
    obtain ⟨z1, z2, w, m⟩ := z
    obtain ⟨e1, e2, e3, hRw⟩ := hR
    dsimp only at e1 e2 e3 hRw
    subst e1
    subst e2
    subst e3
    refine ⟨_, ⟨w, rfl, hRw⟩, fun rec => ?_⟩
    simp (disch := omega) only [ubX11_tick_7, ↓reduceIte, bt_do, bd_do, jn_eq, bI_z, gd_nI, gd_0, gd_1, nI_clamp, nI_add, nI_1, pk_mul, Nat.add_zero, Nat.zero_add, ile_t, ile_f, ilt_t, ilt_f, ieq_t, ieq_f, iz_t, iz_f, ilt0, ige0, im1, Bool.false_eq_true, Bool.true_eq_false, if_true, if_false]
