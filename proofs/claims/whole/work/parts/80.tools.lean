/-! PURE 80: loops with a relation, tests of numbers that simp can settle -/
theorem lp_gen {α β : Type} {b : (α → Option β) → α → Option β} (R : Nat → α → Prop) (T : Option β → Prop) (N : Nat) (hN : N < 4000) {q0 : α} (h0 : R 0 q0) (hs : ∀ i q, i < N → R i q → (∃ q', R (i + 1) q' ∧ ∀ rec, b rec q = rec q') ∨ (∃ X, T X ∧ ∀ rec, b rec q = X)) (hx : ∀ q, R N q → ∃ X, T X ∧ ∀ rec, b rec q = X) : T (lpF b FU q0) := by
  have key : ∀ (d m i : Nat) (q : α), i + d = N → d < m → R i q → T (lpF b m q) := by
    intro d
    induction d with
    | zero =>
      intro m i q h1 h2 hR
      cases m with
      | zero => omega
      | succ m =>
        obtain ⟨X, hT, hX⟩ := hx q (by rw [show N = i by omega]; exact hR)
        show T (b (lpF b m) q)
        rw [hX]
        exact hT
    | succ d ih =>
      intro m i q h1 h2 hR
      cases m with
      | zero => omega
      | succ m =>
        show T (b (lpF b m) q)
        rcases hs i q (by omega) hR with ⟨q', hR', hq⟩ | ⟨X, hT, hX⟩
        · rw [hq]
          exact ih m (i + 1) q' (by omega) (by omega) hR'
        · rw [hX]
          exact hT
  exact key N FU 0 q0 (by omega) (by unfold FU; omega) h0
/-- a loop that always runs to its end -/
theorem lp_rel {α β : Type} {b : (α → Option β) → α → Option β} (R : Nat → α → Prop) (N : Nat) (hN : N < 4000) {q0 : α} (h0 : R 0 q0) (hs : ∀ i q, i < N → R i q → ∃ q', R (i + 1) q' ∧ ∀ rec, b rec q = rec q') : ∃ q, R N q ∧ ∀ X, (∀ rec, b rec q = X) → lpF b FU q0 = X := by
  have key : ∀ (d m i : Nat) (q : α), i + d = N → d < m → R i q → ∃ q', R N q' ∧ ∀ X, (∀ rec, b rec q' = X) → lpF b m q = X := by
    intro d
    induction d with
    | zero =>
      intro m i q h1 h2 hR
      cases m with
      | zero => omega
      | succ m =>
        refine ⟨q, by rw [show N = i by omega]; exact hR, fun X hX => ?_⟩
        show b (lpF b m) q = X
        exact hX _
    | succ d ih =>
      intro m i q h1 h2 hR
      cases m with
      | zero => omega
      | succ m =>
        obtain ⟨q', hR', hq⟩ := hs i q (by omega) hR
        obtain ⟨q2, hR2, hq2⟩ := ih m (i + 1) q' (by omega) (by omega) hR'
        refine ⟨q2, hR2, fun X hX => ?_⟩
        show b (lpF b m) q = X
        rw [hq]
        exact hq2 X hX
  exact key N FU 0 q0 (by omega) (by unfold FU; omega) h0
theorem ile_t {a b : Nat} (h : a ≤ b) (hb : b < 2 ^ 31) : (nI a ≤ nI b) = True := eq_true (nI_le h hb)
theorem ile_f {a b : Nat} (h : b < a) (hb : a < 2 ^ 31) : (nI a ≤ nI b) = False := eq_false (nI_ge h hb)
theorem ilt_t {a b : Nat} (h : a < b) (hb : b < 2 ^ 31) : (nI a < nI b) = True := eq_true (nI_lt h hb)
theorem ilt_f {a b : Nat} (h : b ≤ a) (hb : a < 2 ^ 31) : (nI a < nI b) = False := eq_false (nI_nlt h hb)
theorem ieq_t {a b : Nat} (h : a = b) : (nI a = nI b) = True := eq_true (by rw [h])
theorem ieq_f {a b : Nat} (h : ¬ a = b) (ha : a < 2 ^ 31) (hb : b < 2 ^ 31) : (nI a = nI b) = False := eq_false (fun q => h ((nI_eq ha hb).mp q))
theorem iz_t {a : Nat} (h : a = 0) : (nI a = 0) = True := eq_true (by rw [h]; rfl)
theorem iz_f {a : Nat} (h : 0 < a) (hb : a < 2 ^ 31) : (nI a = 0) = False := eq_false (nI_ne0 h hb)
theorem ilt0 {a : Nat} (h : a < 2 ^ 31) : (nI a < 0) = False := eq_false (nI_pos h)
theorem ige0 {a : Nat} (h : a < 2 ^ 31) : (0 ≤ nI a) = True := eq_true (nI_pos' h)
theorem im1 {a : Nat} (h : a < 2 ^ 31) : (nI a = -1) = False := eq_false (nI_m1 h)
theorem bI_z (b : Bool) : (bI b = 0) = (b = false) := propext (bI_0 b)
theorem gd_0 {α : Type} {n : Nat} {K : Option α} (h : 0 < n) : gdI 0 n K = K := by
  unfold gdI
  rw [if_neg]
  intro q
  rcases q with q | q
  · exact absurd q (by decide)
  · have : (0 : Int32).toNatClampNeg = 0 := rfl
    omega
theorem gd_1 {α : Type} {n : Nat} {K : Option α} (h : 1 < n) : gdI 1 n K = K := by
  unfold gdI
  rw [if_neg]
  intro q
  rcases q with q | q
  · exact absurd q (by decide)
  · have : (1 : Int32).toNatClampNeg = 1 := rfl
    omega
theorem cmpN_le {a b : Nat} (ha : a < 2 ^ 31) (hb : b < 2 ^ 31) : lg_cmp (lN a) (lN b) ≤ 0 ↔ a ≤ b := by
  unfold lg_cmp
  by_cases h : lN a > lN b
  · rw [if_pos h]
    have := (lN_lt hb ha).mp h
    exact ⟨fun q => absurd q (by decide), fun q => by omega⟩
  · rw [if_neg h]
    have h1 : ¬ b < a := fun q => h ((lN_lt hb ha).mpr q)
    by_cases h2 : lN a = lN b
    · rw [if_pos h2]
      exact ⟨fun _ => by omega, fun _ => by decide⟩
    · rw [if_neg h2]
      exact ⟨fun _ => by omega, fun _ => by decide⟩
theorem cmpN_gt {a b : Nat} (ha : a < 2 ^ 31) (hb : b < 2 ^ 31) : 0 < lg_cmp (lN a) (lN b) ↔ b < a := by
  unfold lg_cmp
  by_cases h : lN a > lN b
  · rw [if_pos h]
    have := (lN_lt hb ha).mp h
    exact ⟨fun _ => this, fun _ => by decide⟩
  · rw [if_neg h]
    have h1 : ¬ b < a := fun q => h ((lN_lt hb ha).mpr q)
    by_cases h2 : lN a = lN b
    · rw [if_pos h2]
      exact ⟨fun q => absurd q (by decide), fun q => absurd q h1⟩
    · rw [if_neg h2]
      exact ⟨fun q => absurd q (by decide), fun q => absurd q h1⟩
theorem cmpN_lt {a b : Nat} (ha : a < 2 ^ 31) (hb : b < 2 ^ 31) : lg_cmp (lN a) (lN b) < 0 ↔ a < b := by
  unfold lg_cmp
  by_cases h : lN a > lN b
  · rw [if_pos h]
    have := (lN_lt hb ha).mp h
    exact ⟨fun q => absurd q (by decide), fun q => by omega⟩
  · rw [if_neg h]
    have h1 : ¬ b < a := fun q => h ((lN_lt hb ha).mpr q)
    by_cases h2 : lN a = lN b
    · rw [if_pos h2]
      have := (lN_eq ha hb).mp h2
      exact ⟨fun q => absurd q (by decide), fun q => by omega⟩
    · rw [if_neg h2]
      have h3 : ¬ a = b := fun q => h2 ((lN_eq ha hb).mpr q)
      exact ⟨fun _ => by omega, fun _ => by decide⟩
theorem lc_ge_t {a b : Nat} (h : b ≤ a) (ha : a < 2 ^ 31) (hb : b < 2 ^ 31) : (0 ≤ lg_cmp (lN a) (lN b)) = True := eq_true ((cmpN_ge ha hb).mpr h)
theorem lc_ge_f {a b : Nat} (h : a < b) (ha : a < 2 ^ 31) (hb : b < 2 ^ 31) : (0 ≤ lg_cmp (lN a) (lN b)) = False := eq_false (fun q => absurd ((cmpN_ge ha hb).mp q) (by omega))
theorem lc_le_t {a b : Nat} (h : a ≤ b) (ha : a < 2 ^ 31) (hb : b < 2 ^ 31) : (lg_cmp (lN a) (lN b) ≤ 0) = True := eq_true ((cmpN_le ha hb).mpr h)
theorem lc_le_f {a b : Nat} (h : b < a) (ha : a < 2 ^ 31) (hb : b < 2 ^ 31) : (lg_cmp (lN a) (lN b) ≤ 0) = False := eq_false (fun q => absurd ((cmpN_le ha hb).mp q) (by omega))
theorem lc_gt_t {a b : Nat} (h : b < a) (ha : a < 2 ^ 31) (hb : b < 2 ^ 31) : (0 < lg_cmp (lN a) (lN b)) = True := eq_true ((cmpN_gt ha hb).mpr h)
theorem lc_gt_f {a b : Nat} (h : a ≤ b) (ha : a < 2 ^ 31) (hb : b < 2 ^ 31) : (0 < lg_cmp (lN a) (lN b)) = False := eq_false (fun q => absurd ((cmpN_gt ha hb).mp q) (by omega))
theorem lc_lt_t {a b : Nat} (h : a < b) (ha : a < 2 ^ 31) (hb : b < 2 ^ 31) : (lg_cmp (lN a) (lN b) < 0) = True := eq_true ((cmpN_lt ha hb).mpr h)
theorem lc_lt_f {a b : Nat} (h : b ≤ a) (ha : a < 2 ^ 31) (hb : b < 2 ^ 31) : (lg_cmp (lN a) (lN b) < 0) = False := eq_false (fun q => absurd ((cmpN_lt ha hb).mp q) (by omega))
theorem lc_eq_t {a b : Nat} (h : a = b) : (lg_cmp (lN a) (lN b) = 0) = True := eq_true ((cmp0 _ _).mpr (by rw [h]))
theorem lc_eq_f {a b : Nat} (h : ¬ a = b) (ha : a < 2 ^ 31) (hb : b < 2 ^ 31) : (lg_cmp (lN a) (lN b) = 0) = False := eq_false (fun q => h ((lN_eq ha hb).mp ((cmp0 _ _).mp q)))
/-! a test of the simp list: files of the class -/
theorem isFile_n {f : Nat} (hf : f < 6) : f_X10_isFile (nI f) = true := by
  simp (disch := omega) only [u_X10_isFile, u_X10_within, ↓reduceIte, bt_do, bd_do, jn_eq, bI_z, gd_nI, gd_0, gd_1, nI_clamp, nI_add, nI_1, pk_mul, Nat.add_zero, Nat.zero_add, ile_t, ile_f, ilt_t, ilt_f, ieq_t, ieq_f, iz_t, iz_f, ilt0, ige0, im1, Bool.false_eq_true, Bool.true_eq_false, if_true, if_false]
theorem isF_m {f : Nat} (hf : f < 6) : f_X11_isFile (nI f) = true := by
  simp (disch := omega) only [u_X11_isFile, u_X11_in, ↓reduceIte, bt_do, bd_do, jn_eq, bI_z, gd_nI, gd_0, gd_1, nI_clamp, nI_add, nI_1, pk_mul, Nat.add_zero, Nat.zero_add, ile_t, ile_f, ilt_t, ilt_f, ieq_t, ieq_f, iz_t, iz_f, ilt0, ige0, im1, Bool.false_eq_true, Bool.true_eq_false, if_true, if_false, lc_ge_t, lc_ge_f, lc_eq_t, lc_eq_f, lc_le_t, lc_le_f, lc_gt_t, lc_gt_f, lc_lt_t, lc_lt_f, nI_l, lN_i, lN_add, lN_1]
theorem many_m {A : AH} {b : Nat → Int64} {n : Nat} (h : RM A b) (hA : AI n A) {f : Nat} (hf : f < 6) : f_X11_many b (nI f) = some (nI (aMany A f)) := by
  have h1 := h.2.2.1 f hf
  simp (disch := omega) only [u_X11_many, ↓reduceIte, bt_do, bd_do, jn_eq, bI_z, gd_nI, gd_0, gd_1, nI_clamp, nI_add, nI_1, pk_mul, Nat.add_zero, Nat.zero_add, ile_t, ile_f, ilt_t, ilt_f, ieq_t, ieq_f, iz_t, iz_f, ilt0, ige0, im1, Bool.false_eq_true, Bool.true_eq_false, if_true, if_false, lc_ge_t, lc_ge_f, lc_eq_t, lc_eq_f, lc_le_t, lc_le_f, lc_gt_t, lc_gt_f, lc_lt_t, lc_lt_f, nI_l, lN_i, lN_add, lN_1, h1.2.2.1]
theorem chunkOf_m {A : AH} {b : Nat → Int64} {n : Nat} (h : RM A b) (hA : AI n A) {f k : Nat} (hf : f < 6) (hk : k < aMany A f) : f_X11_chunkOf b (nI f) (nI k) = some (nI (aCh A f k)) := by
  have h1 := h.2.2.1 f hf
  have h2 := (hA.2.2.2.2.2.2.2.2.2.2.1 f hf).2.1
  simp (disch := omega) only [u_X11_chunkOf, ↓reduceIte, bt_do, bd_do, jn_eq, bI_z, gd_nI, gd_0, gd_1, nI_clamp, nI_add, nI_1, pk_mul, Nat.add_zero, Nat.zero_add, ile_t, ile_f, ilt_t, ilt_f, ieq_t, ieq_f, iz_t, iz_f, ilt0, ige0, im1, Bool.false_eq_true, Bool.true_eq_false, if_true, if_false, lc_ge_t, lc_ge_f, lc_eq_t, lc_eq_f, lc_le_t, lc_le_f, lc_gt_t, lc_gt_f, lc_lt_t, lc_lt_f, nI_l, lN_i, lN_add, lN_1, h1.2.2.2.2 k (by omega) hk]
theorem chunkOf_c {A : AH} {x : FL} {n : Nat} (h : RFL A x) (hA : AI n A) {f k : Nat} (hf : f < 6) (hk : k < aMany A f) : f_X3_chunkOf x (nI f) (nI k) = some (nI (aCh A f k)) := by
  have h1 := h f hf
  have h2 := (hA.2.2.2.2.2.2.2.2.2.2.1 f hf).2.1
  have h3 := h1.2.2.2.2 k (by omega) hk
  have e : f * 4 + k = 4 * f + k := by omega
  simp (disch := omega) only [u_X3_chunkOf, isFile_n hf, u_X10_within, ↓reduceIte, bt_do, bd_do, jn_eq, bI_z, gd_nI, gd_0, gd_1, nI_clamp, nI_add, nI_1, pk_mul, Nat.add_zero, Nat.zero_add, ile_t, ile_f, ilt_t, ilt_f, ieq_t, ieq_f, iz_t, iz_f, ilt0, ige0, im1, Bool.false_eq_true, Bool.true_eq_false, if_true, if_false, h1.2.2.2.1, e, h3]
