/-! PURE 87: leases -/
theorem bF {b : Bool} (h : ¬ b = true) : b = false := by cases b; rfl; exact absurd rfl h
theorem good_cp {A : AH} {c s : Nat} (h : aGood A c s = true) : ∃ q, aCp A c s = some q ∧ q.1 = aVer A c := by
  unfold aGood at h
  cases hq : aCp A c s with
  | none => rw [hq] at h; cases h
  | some q => rw [hq] at h; exact ⟨q, rfl, by simpa using h⟩
theorem able_cp {A : AH} {c s : Nat} (h : aAble A c s = true) : ∃ q, aCp A c s = some q ∧ q.1 = aVer A c := by
  unfold aAble at h
  rw [Bool.and_eq_true] at h
  exact good_cp h.1
theorem able_in {A : AH} {n : Nat} (hA : AI n A) {c s : Nat} (h : aAble A c s = true) : s < nS A ∧ c < aMade A := by
  obtain ⟨q, hq, _⟩ := able_cp h
  have := hA.2.2.2.2.2.2.2.2.2.2.2.2.2 c s q hq
  exact ⟨this.2.1, this.1⟩
theorem isGood_c {A : AH} {v : HS} {n : Nat} (h : RC A v) (hA : AI n A) (hn : n ≤ 8000) {c s : Nat} (hc : c < aMade A) (hs : s < 5) : f_X5_isGood v (nI s) (nI c) = some (aGood A c s) := by
  have h30 : aMade A ≤ 30 := hA.2.2.2.2.2.2.1
  have hv := ver_is (s := s) hA hn hc
  have h1 := (h.2.2.1.2 c hc).1
  by_cases e : aGood A c s = true
  · have e2 := hv.mpr e
    simp (disch := omega) only [u_X5_isGood, has_ck h.2.2.1, hasP_of hc, ↓reduceIte, bt_do, bd_do, jn_eq, bI_z, gd_nI, gd_0, gd_1, nI_clamp, nI_add, nI_1, pk_mul, Nat.add_zero, Nat.zero_add, ile_t, ile_f, ilt_t, ilt_f, ieq_t, ieq_f, iz_t, iz_f, ilt0, ige0, im1, Bool.false_eq_true, Bool.true_eq_false, if_true, if_false, version_c h.2.2.2.1 hs (show c < 30 by omega), h1, e2, e]
  · have e2 := mt hv.mp e
    simp (disch := omega) only [u_X5_isGood, has_ck h.2.2.1, hasP_of hc, ↓reduceIte, bt_do, bd_do, jn_eq, bI_z, gd_nI, gd_0, gd_1, nI_clamp, nI_add, nI_1, pk_mul, Nat.add_zero, Nat.zero_add, ile_t, ile_f, ilt_t, ilt_f, ieq_t, ieq_f, iz_t, iz_f, ilt0, ige0, im1, Bool.false_eq_true, Bool.true_eq_false, if_true, if_false, version_c h.2.2.2.1 hs (show c < 30 by omega), h1, e2, bF e]
def aHold (A : AH) (c : Nat) : Bool := match aLs A c with
  | none => false
  | some q => decide (aNow A < q.2) && aAble A c q.1
theorem holds_c {A : AH} {v : HS} {n : Nat} (h : RC A v) (hA : AI n A) (hn : n ≤ 8000) {c : Nat} (hc : c < aMade A) : f_X5_leaseHolds v (nI c) = some (aHold A c) := by
  have h30 : aMade A ≤ 30 := hA.2.2.2.2.2.2.1
  have h5 : nS A ≤ 5 := hA.1
  have hl := (h.2.2.1.2 c hc).2.2
  have hnow : v.2.2.2.2.1 = nI (aNow A) := h.1.2.2.2.2
  have hno : aNow A ≤ 50 * n := hA.2.2.2.2.2.1
  unfold aHold
  cases hq : aLs A c with
  | none =>
    rw [hq] at hl
    have hl : v.2.2.2.2.2.2.1.2.2.2.1 c = -1 := hl
    simp (disch := omega) only [u_X5_leaseHolds, has_ck h.2.2.1, hasP_of hc, ↓reduceIte, bt_do, bd_do, jn_eq, bI_z, gd_nI, gd_0, gd_1, nI_clamp, nI_add, nI_1, pk_mul, Nat.add_zero, Nat.zero_add, ile_t, ile_f, ilt_t, ilt_f, ieq_t, ieq_f, iz_t, iz_f, ilt0, ige0, im1, Bool.false_eq_true, Bool.true_eq_false, if_true, if_false, hl]
  | some q =>
    obtain ⟨hh, t⟩ := q
    rw [hq] at hl
    have hl1 : v.2.2.2.2.2.2.1.2.2.2.1 c = nI hh := hl.1
    have hl2 : v.2.2.2.2.2.2.1.2.2.2.2 c = nI t := hl.2
    have hb := hA.2.2.2.2.2.2.2.2.2.2.2.2.1 c hh t hc hq
    have hu := hasUp_c h.2.1 hA hb.1
    have hu1 := (hA.2.2.2.2.2.2.2.1 hh (by omega)).1
    have hg := isGood_c h hA hn hc (s := hh) (by omega)
    by_cases e : aNow A < t
    · by_cases eu : aUp A hh = 1
      · by_cases eg : aGood A c hh = true
        · simp (disch := omega) only [u_X5_leaseHolds, has_ck h.2.2.1, hasP_of hc, ↓reduceIte, bt_do, bd_do, jn_eq, bI_z, gd_nI, gd_0, gd_1, nI_clamp, nI_add, nI_1, pk_mul, Nat.add_zero, Nat.zero_add, ile_t, ile_f, ilt_t, ilt_f, ieq_t, ieq_f, iz_t, iz_f, ilt0, ige0, im1, Bool.false_eq_true, Bool.true_eq_false, if_true, if_false, hl1, hl2, hnow, hu, aUpB_1 eu, hg, eu, eg, aAble, decide_eq_true e, Bool.true_and, beq_self_eq_true, Bool.and_true]
        · simp (disch := omega) only [u_X5_leaseHolds, has_ck h.2.2.1, hasP_of hc, ↓reduceIte, bt_do, bd_do, jn_eq, bI_z, gd_nI, gd_0, gd_1, nI_clamp, nI_add, nI_1, pk_mul, Nat.add_zero, Nat.zero_add, ile_t, ile_f, ilt_t, ilt_f, ieq_t, ieq_f, iz_t, iz_f, ilt0, ige0, im1, Bool.false_eq_true, Bool.true_eq_false, if_true, if_false, hl1, hl2, hnow, hu, aUpB_1 eu, hg, eu, bF eg, aAble, Bool.false_and, Bool.and_false]
      · have e0 : aUp A hh = 0 := by omega
        have eb : (aUp A hh == 1) = false := by rw [e0]; rfl
        simp (disch := omega) only [u_X5_leaseHolds, has_ck h.2.2.1, hasP_of hc, ↓reduceIte, bt_do, bd_do, jn_eq, bI_z, gd_nI, gd_0, gd_1, nI_clamp, nI_add, nI_1, pk_mul, Nat.add_zero, Nat.zero_add, ile_t, ile_f, ilt_t, ilt_f, ieq_t, ieq_f, iz_t, iz_f, ilt0, ige0, im1, Bool.false_eq_true, Bool.true_eq_false, if_true, if_false, hl1, hl2, hnow, hu, aUpB_0 e0, aAble, eb, Bool.and_false]
    · simp (disch := omega) only [u_X5_leaseHolds, has_ck h.2.2.1, hasP_of hc, ↓reduceIte, bt_do, bd_do, jn_eq, bI_z, gd_nI, gd_0, gd_1, nI_clamp, nI_add, nI_1, pk_mul, Nat.add_zero, Nat.zero_add, ile_t, ile_f, ilt_t, ilt_f, ieq_t, ieq_f, iz_t, iz_f, ilt0, ige0, im1, Bool.false_eq_true, Bool.true_eq_false, if_true, if_false, hl1, hl2, hnow, decide_eq_false e, Bool.false_and]
theorem holds_m {A : AH} {b : Nat → Int64} {n : Nat} (h : RM A b) (hA : AI n A) (hn : n ≤ 8000) {c : Nat} (hc : c < aMade A) : f_X11_holds b (nI c) = some (aHold A c) := by
  have h30 : aMade A ≤ 30 := hA.2.2.2.2.2.2.1
  have h5 : nS A ≤ 5 := hA.1
  have hl := (h.2.2.2.1 c hc).2.2
  have hnow : b 5 = lN (aNow A) := h.1 5 (by omega)
  have hno : aNow A ≤ 50 * n := hA.2.2.2.2.2.1
  unfold aHold
  cases hq : aLs A c with
  | none =>
    rw [hq] at hl
    have hl : b (70 + 4 * c + 2) = -1 := hl
    have e1 : ((-1 : Int64).toInt32 < 0) = True := eq_true (by decide)
    simp (disch := omega) only [u_X11_holds, ↓reduceIte, bt_do, bd_do, jn_eq, bI_z, gd_nI, gd_0, gd_1, nI_clamp, nI_add, nI_1, pk_mul, Nat.add_zero, Nat.zero_add, ile_t, ile_f, ilt_t, ilt_f, ieq_t, ieq_f, iz_t, iz_f, ilt0, ige0, im1, Bool.false_eq_true, Bool.true_eq_false, if_true, if_false, lc_ge_t, lc_ge_f, lc_eq_t, lc_eq_f, lc_le_t, lc_le_f, lc_gt_t, lc_gt_f, lc_lt_t, lc_lt_f, nI_l, lN_i, lN_add, lN_1, hl, e1]
  | some q =>
    obtain ⟨hh, t⟩ := q
    rw [hq] at hl
    have hl1 : b (70 + 4 * c + 2) = lN hh := hl.1
    have hl2 : b (70 + 4 * c + 3) = lN t := hl.2
    have hb := hA.2.2.2.2.2.2.2.2.2.2.2.2.1 c hh t hc hq
    have hg := isAble_m h hA hn hc (s := hh) (by omega)
    by_cases e : aNow A < t
    · by_cases eg : aAble A c hh = true
      · simp (disch := omega) only [u_X11_holds, ↓reduceIte, bt_do, bd_do, jn_eq, bI_z, gd_nI, gd_0, gd_1, nI_clamp, nI_add, nI_1, pk_mul, Nat.add_zero, Nat.zero_add, ile_t, ile_f, ilt_t, ilt_f, ieq_t, ieq_f, iz_t, iz_f, ilt0, ige0, im1, Bool.false_eq_true, Bool.true_eq_false, if_true, if_false, lc_ge_t, lc_ge_f, lc_eq_t, lc_eq_f, lc_le_t, lc_le_f, lc_gt_t, lc_gt_f, lc_lt_t, lc_lt_f, nI_l, lN_i, lN_add, lN_1, hl1, hl2, hnow, hg, eg, decide_eq_true e, Bool.true_and]
      · simp (disch := omega) only [u_X11_holds, ↓reduceIte, bt_do, bd_do, jn_eq, bI_z, gd_nI, gd_0, gd_1, nI_clamp, nI_add, nI_1, pk_mul, Nat.add_zero, Nat.zero_add, ile_t, ile_f, ilt_t, ilt_f, ieq_t, ieq_f, iz_t, iz_f, ilt0, ige0, im1, Bool.false_eq_true, Bool.true_eq_false, if_true, if_false, lc_ge_t, lc_ge_f, lc_eq_t, lc_eq_f, lc_le_t, lc_le_f, lc_gt_t, lc_gt_f, lc_lt_t, lc_lt_f, nI_l, lN_i, lN_add, lN_1, hl1, hl2, hnow, hg, bF eg, Bool.and_false]
    · simp (disch := omega) only [u_X11_holds, ↓reduceIte, bt_do, bd_do, jn_eq, bI_z, gd_nI, gd_0, gd_1, nI_clamp, nI_add, nI_1, pk_mul, Nat.add_zero, Nat.zero_add, ile_t, ile_f, ilt_t, ilt_f, ieq_t, ieq_f, iz_t, iz_f, ilt0, ige0, im1, Bool.false_eq_true, Bool.true_eq_false, if_true, if_false, lc_ge_t, lc_ge_f, lc_eq_t, lc_eq_f, lc_le_t, lc_le_f, lc_gt_t, lc_gt_f, lc_lt_t, lc_lt_f, nI_l, lN_i, lN_add, lN_1, hl1, hl2, hnow, decide_eq_false e, Bool.false_and]
/-! a lease given -/
abbrev bmpV (A : AH) (c : Nat) : AH := sVer A (upO (aVer A) c (aVer A c + 1))
def lsG (A : AH) (c s : Nat) : Option CPY := if aAble A c s = true then (aCp A c s).map (fun q => (aVer A c + 1, q.2)) else aCp A c s
abbrev lsA (A : AH) (c : Nat) : AH := mapCp (bmpV A c) c (lsG A c)
abbrev spLease (A : AH) (c : Nat) : AH := setLs (lsA A c) c (some (bst (lsA A c) (aAble A c), aNow A + A.1 3))
/-! the class's house changed in one of its parts (for a house that is a variable: composed ones are dear to compare) -/
abbrev hSV (v : HS) (y : SV) : HS := (v.1, v.2.1, v.2.2.1, v.2.2.2.1, v.2.2.2.2.1, y, v.2.2.2.2.2.2.1, v.2.2.2.2.2.2.2.1, v.2.2.2.2.2.2.2.2)
abbrev hCK (v : HS) (y : CK) : HS := (v.1, v.2.1, v.2.2.1, v.2.2.2.1, v.2.2.2.2.1, v.2.2.2.2.2.1, y, v.2.2.2.2.2.2.2.1, v.2.2.2.2.2.2.2.2)
abbrev hCP (v : HS) (y : CP) : HS := (v.1, v.2.1, v.2.2.1, v.2.2.2.1, v.2.2.2.2.1, v.2.2.2.2.2.1, v.2.2.2.2.2.2.1, y, v.2.2.2.2.2.2.2.2)
abbrev hFL (v : HS) (y : FL) : HS := (v.1, v.2.1, v.2.2.1, v.2.2.2.1, v.2.2.2.2.1, v.2.2.2.2.2.1, v.2.2.2.2.2.2.1, v.2.2.2.2.2.2.2.1, y)
theorem RC.cp {A : AH} {v : HS} (h : RC A v) {c s : Nat} {o : Option CPY} {y : CP} (hy : RCP (setCp A c s o) y) : RC (setCp A c s o) (hCP v y) := ⟨h.1, h.2.1, h.2.2.1, hy, h.2.2.2.2⟩
theorem RC.spo {A : AH} {v : HS} (h : RC A v) {s x : Nat} {y : SV} (hy : RSV (setSpo A s x) y) : RC (setSpo A s x) (hSV v y) := ⟨h.1, hy, h.2.2.1, h.2.2.2.1, h.2.2.2.2⟩
theorem RC.up {A : AH} {v : HS} (h : RC A v) {s x : Nat} {y : SV} (hy : RSV (setUp A s x) y) : RC (setUp A s x) (hSV v y) := ⟨h.1, hy, h.2.2.1, h.2.2.2.1, h.2.2.2.2⟩
theorem RC.bmp {A : AH} {v : HS} (h : RC A v) (c : Nat) : RC (bmpV A c) (hCK v (v.2.2.2.2.2.2.1.1, upd v.2.2.2.2.2.2.1.2.1 c (nI (aVer A c + 1)), v.2.2.2.2.2.2.1.2.2.1, v.2.2.2.2.2.2.1.2.2.2.1, v.2.2.2.2.2.2.1.2.2.2.2)) := by
  refine ⟨h.1, h.2.1, ⟨h.2.2.1.1, fun c' hc' => ⟨?_, (h.2.2.1.2 c' hc').2⟩⟩, h.2.2.2.1, h.2.2.2.2⟩
  show upd v.2.2.2.2.2.2.1.2.1 c _ c' = nI (upO (aVer A) c (aVer A c + 1) c')
  by_cases e : c' = c
  · rw [e, pk_us, up_s]
  · rw [pk_un e, up_n e]; exact (h.2.2.1.2 c' hc').1
theorem RC.lsS {A : AH} {v : HS} (h : RC A v) (c hh tt : Nat) : RC (setLs A c (some (hh, tt))) (hCK v (v.2.2.2.2.2.2.1.1, v.2.2.2.2.2.2.1.2.1, v.2.2.2.2.2.2.1.2.2.1, upd v.2.2.2.2.2.2.1.2.2.2.1 c (nI hh), upd v.2.2.2.2.2.2.1.2.2.2.2 c (nI tt))) := by
  refine ⟨h.1, h.2.1, ⟨h.2.2.1.1, fun c' hc' => ?_⟩, h.2.2.2.1, h.2.2.2.2⟩
  have h3 := h.2.2.1.2 c' hc'
  refine ⟨h3.1, h3.2.1, ?_⟩
  show lsC (upO (aLs A) c _ c') (upd v.2.2.2.2.2.2.1.2.2.2.1 c _ c') (upd v.2.2.2.2.2.2.1.2.2.2.2 c _ c')
  by_cases e : c' = c
  · rw [e, up_s, pk_us, pk_us]; exact ⟨rfl, rfl⟩
  · rw [up_n e, pk_un e, pk_un e]; exact h3.2.2
theorem RC.lsN {A : AH} {v : HS} (h : RC A v) (c : Nat) (t : Int32) : RC (setLs A c none) (hCK v (v.2.2.2.2.2.2.1.1, v.2.2.2.2.2.2.1.2.1, v.2.2.2.2.2.2.1.2.2.1, upd v.2.2.2.2.2.2.1.2.2.2.1 c (-1), upd v.2.2.2.2.2.2.1.2.2.2.2 c t)) := by
  refine ⟨h.1, h.2.1, ⟨h.2.2.1.1, fun c' hc' => ?_⟩, h.2.2.2.1, h.2.2.2.2⟩
  have h3 := h.2.2.1.2 c' hc'
  refine ⟨h3.1, h3.2.1, ?_⟩
  show lsC (upO (aLs A) c none c') (upd v.2.2.2.2.2.2.1.2.2.2.1 c _ c') (upd v.2.2.2.2.2.2.1.2.2.2.2 c _ c')
  by_cases e : c' = c
  · rw [e, up_s, pk_us, pk_us]; exact rfl
  · rw [up_n e, pk_un e, pk_un e]; exact h3.2.2
theorem AI.bmp {n : Nat} {A : AH} (h : AI n A) {c : Nat} : AI (n + 1) (bmpV A c) := by
  have hm := h.mono (Nat.le_succ n)
  obtain ⟨a1, a2, a3, a4, a5, a6, a7, a8, a9, a10, a11, a12, a13, a14⟩ := hm
  have b12 := h.2.2.2.2.2.2.2.2.2.2.2.1
  refine ⟨a1, a2, a3, a4, a5, a6, a7, a8, a9, a10, a11, fun c' hc' => ?_, a13, fun c' s' q e => ?_⟩
  · have hc' : c' < aMade A := hc'
    have h1 := b12 c' hc'
    refine ⟨?_, ?_, h1.2.2⟩
    · show 1 ≤ upO (aVer A) c (aVer A c + 1) c'
      by_cases e : c' = c
      · subst e; rw [up_s]; omega
      · rw [up_n e]; exact h1.1
    · show upO (aVer A) c (aVer A c + 1) c' ≤ _
      by_cases e : c' = c
      · subst e; rw [up_s]; omega
      · rw [up_n e]; omega
  · have h1 := a14 c' s' q e
    refine ⟨h1.1, h1.2.1, ?_, h1.2.2.2⟩
    show q.1 ≤ upO (aVer A) c (aVer A c + 1) c'
    have h2 := h1.2.2.1
    by_cases e : c' = c
    · subst e; rw [up_s]; omega
    · rw [up_n e]; exact h2
theorem lsG_ok {n : Nat} {A : AH} (h : AI n A) {c s : Nat} {q : CPY} (e : lsG A c s = some q) : s < nS A ∧ okC (aSize A) (aVer A c + 1) q := by
  unfold lsG at e
  by_cases ha : aAble A c s = true
  · rw [if_pos ha] at e
    obtain ⟨q0, hq0, _⟩ := able_cp ha
    rw [hq0] at e
    cases e
    have h1 := h.2.2.2.2.2.2.2.2.2.2.2.2.2 c s q0 hq0
    exact ⟨h1.2.1, Nat.le_refl _, h1.2.2.2⟩
  · rw [if_neg ha] at e
    have h1 := h.2.2.2.2.2.2.2.2.2.2.2.2.2 c s q e
    exact ⟨h1.2.1, by have := h1.2.2.1; omega, h1.2.2.2⟩
theorem lsG_out {n : Nat} {A : AH} (h : AI n A) {c : Nat} : ∀ s, nS A ≤ s → lsG A c s = aCp A c s := by
  intro s hs
  unfold lsG
  rw [able_out h c s hs, if_neg (by decide)]
theorem lsG_no {A : AH} {c s : Nat} (h : aAble A c s = false) : lsG A c s = aCp A c s := by
  unfold lsG
  rw [h, if_neg (by decide)]
theorem lsG_yes {A : AH} {c s : Nat} (h : aAble A c s = true) {q : CPY} (hq : aCp A c s = some q) : lsG A c s = some (aVer A c + 1, q.2) := by
  unfold lsG
  rw [h, if_pos rfl, hq]
  rfl
theorem lsG_hg {n : Nat} {A : AH} (h : AI n A) {c : Nat} : ∀ s q, lsG A c s = some q → s < nS (bmpV A c) ∧ okC (aSize (bmpV A c)) (aVer (bmpV A c) c) q := by
  intro s q e
  have h1 := lsG_ok h e
  show s < nS A ∧ okC (aSize A) (upO (aVer A) c (aVer A c + 1) c) q
  rw [up_s]
  exact h1
theorem AI.lease {n : Nat} {A : AH} (h : AI n A) {c : Nat} (hc : c < aMade A) (hx : any5 (aAble A c) = true) : AI (n + 1) (spLease A c) := by
  have hb := bst_in (lsA A c) (any5_t.mp hx)
  refine ((h.bmp (c := c)).map hc (lsG_hg h)).lsS c _ _ (able_in h hb.2.2).1 ?_
  have h1 := h.2.2.2.2.2.1
  have h2 := h.2.2.2.1
  have h3 : aNow A ≤ 50 * n := h1
  omega
theorem lease_able {n : Nat} {A : AH} (h : AI n A) {c s : Nat} : aAble (spLease A c) c s = aAble A c s := by
  have e1 : aCp (spLease A c) c s = lsG A c s := congrFun (up_s (aCp A) c (lsG A c)) s
  have e2 : aVer (spLease A c) c = aVer A c + 1 := up_s _ _ _
  have e3 : aUp (spLease A c) s = aUp A s := rfl
  by_cases ha : aAble A c s = true
  · obtain ⟨q, hq, _⟩ := able_cp ha
    have hu : (aUp A s == 1) = true := by
      unfold aAble at ha
      rw [Bool.and_eq_true] at ha
      exact ha.2
    rw [ha]
    unfold aAble aGood
    rw [e1, e2, e3, hu, lsG_yes ha hq]
    simp
  · rw [bF ha]
    have ha' := bF ha
    unfold aAble at ha' ⊢
    rw [e3]
    cases hu : (aUp A s == 1)
    · rw [Bool.and_false]
    · rw [hu, Bool.and_true] at ha'
      rw [Bool.and_true]
      unfold aGood
      rw [e1, e2, lsG_no (bF ha)]
      cases hq : aCp A c s with
      | none => rfl
      | some q =>
        have h1 := (h.2.2.2.2.2.2.2.2.2.2.2.2.2 c s q hq).2.2.1
        simp
        omega
theorem lease_c {A : AH} {v : HS} {n : Nat} (h : RC A v) (hA : AI n A) (hn : n < 8000) {c : Nat} (hc : c < aMade A) (hx : any5 (aAble A c) = true) : ∃ v', f_X5_giveLease v (nI c) = some (true, v') ∧ RC (spLease A c) v' := by
  have h30 : aMade A ≤ 30 := hA.2.2.2.2.2.2.1
  have h5 : nS A ≤ 5 := hA.1
  have hA1 : AI (n + 1) (bmpV A c) := hA.bmp
  have hver := (h.2.2.1.2 c hc).1
  have hvb := (hA.2.2.2.2.2.2.2.2.2.2.2.1 c hc).2.1
  have hgive : ∀ s, s < nS A → f_X10_isIn (nI (mN (aAble A c) 5)) (nI s) = aAble A c s := fun s hs => isIn_n _ (by omega)
  simp (disch := omega) only [u_X5_giveLease, able_c5 h hA (Nat.le_of_lt hn) hc, any5_z, hx, has_ck h.2.2.1, hasP_of hc, ↓reduceIte, bt_do, bd_do, jn_eq, bI_z, gd_nI, gd_0, gd_1, nI_clamp, nI_add, nI_1, pk_mul, Nat.add_zero, Nat.zero_add, ile_t, ile_f, ilt_t, ilt_f, ieq_t, ieq_f, iz_t, iz_f, ilt0, ige0, im1, Bool.false_eq_true, Bool.true_eq_false, if_true, if_false, hver]
  refine lp_gen (fun i q => q.1 = nI i ∧ RC (mapI (bmpV A c) c (lsG A c) i) q.2) (fun X => ∃ v', X = some (true, v') ∧ RC (spLease A c) v') (nS A) (by omega) ?_ ?_ ?_
  · refine ⟨rfl, ?_⟩
    rw [mapI_0]
    exact h.bmp c
  · intro i q hi hR
    obtain ⟨q1, w⟩ := q
    obtain ⟨h1, h2⟩ := hR
    dsimp only at h1 h2
    subst h1
    have hw : w.2.2.2.2.2.1.1 = nI (nS A) := h2.2.1.1
    left
    by_cases ha : aAble A c i = true
    · obtain ⟨q0, hq0, _⟩ := able_cp ha
      have e0 : aCp (mapI (bmpV A c) c (lsG A c) i) c i = some q0 := by rw [mapI_at, if_neg (by omega)]; exact hq0
      have hv1 : w.2.2.2.2.2.2.1.2.1 c = nI (aVer A c + 1) := by
        have := (h2.2.2.1.2 c hc).1
        have e : aVer (mapI (bmpV A c) c (lsG A c) i) c = aVer A c + 1 := up_s _ _ _
        rw [e] at this
        exact this
      obtain ⟨y, hy, hRy⟩ := setVer_c h2.2.2.2.1 (s := i) (c := c) (by omega) (by omega) e0 (aVer A c + 1)
      refine ⟨(nI (i + 1), (w.1, w.2.1, w.2.2.1, w.2.2.2.1, w.2.2.2.2.1, w.2.2.2.2.2.1, w.2.2.2.2.2.2.1, y, w.2.2.2.2.2.2.2.2)), ⟨rfl, ?_⟩, fun rec => ?_⟩
      · rw [mapI_s, lsG_yes ha hq0]
        exact h2.cp hRy
      · simp (disch := omega) only [ubX5_giveLease_6, hw, hgive i hi, ha, hv1, hy, ↓reduceIte, bt_do, bd_do, jn_eq, bI_z, gd_nI, gd_0, gd_1, nI_clamp, nI_add, nI_1, pk_mul, Nat.add_zero, Nat.zero_add, ile_t, ile_f, ilt_t, ilt_f, ieq_t, ieq_f, iz_t, iz_f, ilt0, ige0, im1, Bool.false_eq_true, Bool.true_eq_false, if_true, if_false]
    · refine ⟨(nI (i + 1), w), ⟨rfl, by rw [mapI_n (A := bmpV A c) (show lsG A c i = aCp (bmpV A c) c i from lsG_no (bF ha))]; exact h2⟩, fun rec => ?_⟩
      simp (disch := omega) only [ubX5_giveLease_6, hw, hgive i hi, bF ha, ↓reduceIte, bt_do, bd_do, jn_eq, bI_z, gd_nI, gd_0, gd_1, nI_clamp, nI_add, nI_1, pk_mul, Nat.add_zero, Nat.zero_add, ile_t, ile_f, ilt_t, ilt_f, ieq_t, ieq_f, iz_t, iz_f, ilt0, ige0, im1, Bool.false_eq_true, Bool.true_eq_false, if_true, if_false]
  · intro q hR
    obtain ⟨q1, w⟩ := q
    obtain ⟨h1, h2⟩ := hR
    dsimp only at h1 h2
    subst h1
    rw [mapI_e (A := bmpV A c) (lsG_out hA)] at h2
    have hA2 : AI (n + 1) (lsA A c) := hA1.map hc (lsG_hg hA)
    have hw : w.2.2.2.2.2.1.1 = nI (nS A) := h2.2.1.1
    have hb := best_c h2 hA2 (by omega) (P := aAble A c) (able_out hA c) (any5_t.mp hx)
    have hno : w.2.2.2.2.1 = nI (aNow A) := h2.1.2.2.2.2
    have hle : w.2.2.1 = nI (A.1 3) := h2.1.2.2.1
    refine ⟨_, ⟨_, rfl, h2.lsS c (bst (lsA A c) (aAble A c)) (aNow A + A.1 3)⟩, fun rec => ?_⟩
    simp (disch := omega) only [ubX5_giveLease_6, hw, hb, hno, hle, hCK, ↓reduceIte, bt_do, bd_do, jn_eq, bI_z, gd_nI, gd_0, gd_1, nI_clamp, nI_add, nI_1, pk_mul, Nat.add_zero, Nat.zero_add, ile_t, ile_f, ilt_t, ilt_f, ieq_t, ieq_f, iz_t, iz_f, ilt0, ige0, im1, Bool.false_eq_true, Bool.true_eq_false, if_true, if_false]
theorem lease_no {A : AH} {v : HS} {n : Nat} (h : RC A v) (hA : AI n A) (hn : n ≤ 8000) {c : Nat} (hc : c < aMade A) (hx : any5 (aAble A c) = false) : f_X5_giveLease v (nI c) = some (false, v) := by
  simp (disch := omega) only [u_X5_giveLease, able_c5 h hA hn hc, any5_z, hx, ↓reduceIte, bt_do, bd_do, jn_eq, bI_z, gd_nI, gd_0, gd_1, nI_clamp, nI_add, nI_1, pk_mul, Nat.add_zero, Nat.zero_add, ile_t, ile_f, ilt_t, ilt_f, ieq_t, ieq_f, iz_t, iz_f, ilt0, ige0, im1, Bool.false_eq_true, Bool.true_eq_false, if_true, if_false]
theorem leases_no {A : AH} {b : Nat → Int64} {n : Nat} (h : RM A b) (hA : AI n A) (hn : n ≤ 8000) {c : Nat} (hc : c < aMade A) (hx : any5 (aAble A c) = false) : f_X11_leases b (nI c) = some (-1000004, b) := by
  simp (disch := omega) only [u_X11_leases, ables_m5 h hA hn hc, any5_z, hx, ↓reduceIte, bt_do, bd_do, jn_eq, bI_z, gd_nI, gd_0, gd_1, nI_clamp, nI_add, nI_1, pk_mul, Nat.add_zero, Nat.zero_add, ile_t, ile_f, ilt_t, ilt_f, ieq_t, ieq_f, iz_t, iz_f, ilt0, ige0, im1, Bool.false_eq_true, Bool.true_eq_false, if_true, if_false]
theorem leases_m {A : AH} {b : Nat → Int64} {n : Nat} (h : RM A b) (hA : AI n A) (hn : n < 8000) {c : Nat} (hc : c < aMade A) (hx : any5 (aAble A c) = true) : ∃ b', f_X11_leases b (nI c) = some (nI 0, b') ∧ RM (spLease A c) b' := by
  have h30 : aMade A ≤ 30 := hA.2.2.2.2.2.2.1
  have h5 : nS A ≤ 5 := hA.1
  have hA1 : AI (n + 1) (bmpV A c) := hA.bmp
  have hc0 := h.2.2.2.1 c hc
  have hvb := (hA.2.2.2.2.2.2.2.2.2.2.2.1 c hc).2.1
  have hRM1 : RM (bmpV A c) (vp_updL b (70 + 4 * c) (lN (aVer A c + 1))) := by
    refine h.chunk h30 (c := c) (by omega) (fun j hj => pk_uLn (by omega)) ⟨?_, ?_, ?_⟩ (e4 := fun g => ⟨rfl, rfl, rfl, rfl, rfl⟩) (e5 := fun g hg => ⟨up_n hg, rfl, rfl⟩)
    · show _ = lN (upO (aVer A) c (aVer A c + 1) c)
      rw [pk_uLs, up_s]
    · rw [pk_uLn (by omega)]; exact hc0.2.1
    · rw [pk_uLn (by omega), pk_uLn (by omega)]; exact hc0.2.2
  have hgive : ∀ s, s < 5 → f_X11_has (nI (mN (aAble A c) 5)) (nI s) = aAble A c s := fun s hs => has_n _ hs
  simp (disch := omega) only [u_X11_leases, ables_m5 h hA (Nat.le_of_lt hn) hc, any5_z, hx, ↓reduceIte, bt_do, bd_do, jn_eq, bI_z, gd_nI, gd_0, gd_1, nI_clamp, nI_add, nI_1, pk_mul, Nat.add_zero, Nat.zero_add, ile_t, ile_f, ilt_t, ilt_f, ieq_t, ieq_f, iz_t, iz_f, ilt0, ige0, im1, Bool.false_eq_true, Bool.true_eq_false, if_true, if_false, lc_ge_t, lc_ge_f, lc_eq_t, lc_eq_f, lc_le_t, lc_le_f, lc_gt_t, lc_gt_f, lc_lt_t, lc_lt_f, nI_l, lN_i, lN_add, lN_1, hc0.1]
  refine lp_gen (fun i q => q.1 = nI i ∧ RM (mapI (bmpV A c) c (lsG A c) i) q.2) (fun X => ∃ b', X = some (nI 0, b') ∧ RM (spLease A c) b') 5 (by omega) ?_ ?_ ?_
  · exact ⟨rfl, by rw [mapI_0]; exact hRM1⟩
  · intro i q hi hR
    obtain ⟨q1, w⟩ := q
    obtain ⟨h1, h2⟩ := hR
    dsimp only at h1 h2
    subst h1
    left
    by_cases ha : aAble A c i = true
    · obtain ⟨q0, hq0, _⟩ := able_cp ha
      have hk := cp_ok hA (Nat.le_of_lt hn) hq0
      have e0 : aCp (mapI (bmpV A c) c (lsG A c) i) c i = some q0 := by rw [mapI_at, if_neg (by omega)]; exact hq0
      have hv1 : w (70 + 4 * c) = lN (aVer A c + 1) := by
        have := (h2.2.2.2.1 c hc).1
        have e : aVer (mapI (bmpV A c) c (lsG A c) i) c = aVer A c + 1 := up_s _ _ _
        rw [e] at this
        exact this
      have hcp := copy_m h2 h30 hi hc
      rw [e0, cpM_some] at hcp
      have hwv := withV_pk hk.1 hk.2.1 hk.2.2.1 (v := aVer A c + 1) (by omega)
      refine ⟨(nI (i + 1), vp_updL w (190 + 5 * c + i) (lN (pk (aVer A c + 1, q0.2)))), ⟨rfl, ?_⟩, fun rec => ?_⟩
      · rw [mapI_s, lsG_yes ha hq0, ← cpM_some]
        exact h2.cp h30 hc hi _
      · simp (disch := omega) only [ubX11_leases_5, hgive i hi, ha, hcp, hv1, hwv, ↓reduceIte, bt_do, bd_do, jn_eq, bI_z, gd_nI, gd_0, gd_1, nI_clamp, nI_add, nI_1, pk_mul, Nat.add_zero, Nat.zero_add, ile_t, ile_f, ilt_t, ilt_f, ieq_t, ieq_f, iz_t, iz_f, ilt0, ige0, im1, Bool.false_eq_true, Bool.true_eq_false, if_true, if_false, lc_ge_t, lc_ge_f, lc_eq_t, lc_eq_f, lc_le_t, lc_le_f, lc_gt_t, lc_gt_f, lc_lt_t, lc_lt_f, nI_l, lN_i, lN_add, lN_1]
    · refine ⟨(nI (i + 1), w), ⟨rfl, by rw [mapI_n (A := bmpV A c) (show lsG A c i = aCp (bmpV A c) c i from lsG_no (bF ha))]; exact h2⟩, fun rec => ?_⟩
      simp (disch := omega) only [ubX11_leases_5, hgive i hi, bF ha, ↓reduceIte, bt_do, bd_do, jn_eq, bI_z, gd_nI, gd_0, gd_1, nI_clamp, nI_add, nI_1, pk_mul, Nat.add_zero, Nat.zero_add, ile_t, ile_f, ilt_t, ilt_f, ieq_t, ieq_f, iz_t, iz_f, ilt0, ige0, im1, Bool.false_eq_true, Bool.true_eq_false, if_true, if_false]
  · intro q hR
    obtain ⟨q1, w⟩ := q
    obtain ⟨h1, h2⟩ := hR
    dsimp only at h1 h2
    subst h1
    rw [mapI_e (A := bmpV A c) (fun s hs => lsG_out hA s (by omega))] at h2
    have hA2 : AI (n + 1) (lsA A c) := hA1.map hc (lsG_hg hA)
    have hb := best_m h2 hA2 (by omega) (P := aAble A c) (able_out hA c) (any5_t.mp hx)
    have hbi := nI_l (show bst (lsA A c) (aAble A c) < 2 ^ 31 by have := (bst_in (lsA A c) (any5_t.mp hx)).2.1; omega)
    have hno : w 5 = lN (aNow A) := h2.1 5 (by omega)
    have hle : w 3 = lN (A.1 3) := h2.1 3 (by omega)
    have h3 := h2.2.2.2.1 c hc
    refine ⟨_, ⟨vp_updL (vp_updL w (70 + 4 * c + 2) (lN (bst (lsA A c) (aAble A c)))) (70 + 4 * c + 3) (lN (aNow A + A.1 3)), rfl, h2.chunk h30 (c := c) (by omega) (fun j hj => by rw [pk_uLn (by omega), pk_uLn (by omega)]) ⟨?_, ?_, ?_⟩ (e4 := fun g => ⟨rfl, rfl, rfl, rfl, rfl⟩) (e5 := fun g hg => ⟨rfl, rfl, up_n hg⟩)⟩, fun rec => ?_⟩
    · rw [pk_uLn (by omega), pk_uLn (by omega)]; exact h3.1
    · rw [pk_uLn (by omega), pk_uLn (by omega)]; exact h3.2.1
    · show lsM (upO (aLs A) c _ c) _ _
      rw [up_s, pk_uLs, pk_uLn (by omega), pk_uLs]
      exact ⟨rfl, rfl⟩
    · simp (disch := omega) only [ubX11_leases_5, hb, hbi, ↓reduceIte, bt_do, bd_do, jn_eq, bI_z, gd_nI, gd_0, gd_1, nI_clamp, nI_add, nI_1, pk_mul, Nat.add_zero, Nat.zero_add, ile_t, ile_f, ilt_t, ilt_f, ieq_t, ieq_f, iz_t, iz_f, ilt0, ige0, im1, Bool.false_eq_true, Bool.true_eq_false, if_true, if_false, lc_ge_t, lc_ge_f, lc_eq_t, lc_eq_f, lc_le_t, lc_le_f, lc_gt_t, lc_gt_f, lc_lt_t, lc_lt_f, nI_l, lN_i, lN_add, lN_1, pk_uLn, hno, hle]
