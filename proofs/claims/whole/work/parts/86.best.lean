/-! PURE 86: loads, the best server, the servers of a new chunk -/
theorem fp_room : ∀ r, r < 10 → FP.i2f (nI r) = FP.l2f (lN r) := by decide +kernel
theorem fp_num : ∀ k, k < 31 → ∀ r, r < 10 → 0 < r → (FP.fdiv (FP.i2f (nI k)) (FP.i2f (nI r))) &&& 0x7fffffff ≤ 0x7f800000 := by decide +kernel
def aLd (A : AH) (s : Nat) : UInt32 := FP.fdiv (FP.i2f (nI (cN (aLie A s) (aMade A)))) (FP.i2f (nI (aRoom A s)))
theorem ld_ok {A : AH} {n : Nat} (hA : AI n A) {s : Nat} (hs : s < nS A) {α : Type} (K : Option α) : gdF (aLd A s) K = K := by
  have h1 := hA.2.2.2.2.2.2.2.2.1 s hs
  have h2 := cN_le (aLie A s) (aMade A)
  have h3 : aMade A ≤ 30 := hA.2.2.2.2.2.2.1
  exact if_pos (fp_num _ (by omega) _ (by omega) (by omega))
theorem load_c {A : AH} {v : HS} {n : Nat} (h : RC A v) (hA : AI n A) (hn : n ≤ 8000) {s : Nat} (hs : s < nS A) : f_X5_load v (nI s) = some (aLd A s) := by
  have h5 : nS A ≤ 5 := hA.1
  have h1 := (h.2.1.2 s (by omega)).1 hs
  have hr : f_X8_roomOf v.2.2.2.2.2.1 (nI s) = some (nI (aRoom A s)) := by
    simp (disch := omega) only [u_X8_roomOf, ↓reduceIte, bt_do, bd_do, jn_eq, bI_z, gd_nI, gd_0, gd_1, nI_clamp, nI_add, nI_1, pk_mul, Nat.add_zero, Nat.zero_add, ile_t, ile_f, ilt_t, ilt_f, ieq_t, ieq_f, iz_t, iz_f, ilt0, ige0, im1, Bool.false_eq_true, Bool.true_eq_false, if_true, if_false, h.2.1.1, h1]
  rw [u_X5_load, bd_at (manyAt_c h.2.2.2.1 hA hn (by omega)), bd_at hr]
  exact ld_ok hA hs _
theorem load_m {A : AH} {b : Nat → Int64} {n : Nat} (h : RM A b) (hA : AI n A) (hn : n ≤ 8000) {s : Nat} (hs : s < nS A) : f_X11_load b (nI s) = some (aLd A s) := by
  have h5 : nS A ≤ 5 := hA.1
  have h1 := (h.2.1 s (by omega)).2.1 hs
  have h2 := hA.2.2.2.2.2.2.2.2.1 s hs
  rw [u_X11_load, bd_at (lying_m h hA hn (by omega))]
  simp (disch := omega) only [↓reduceIte, bt_do, bd_do, jn_eq, bI_z, gd_nI, gd_0, gd_1, nI_clamp, nI_add, nI_1, pk_mul, Nat.add_zero, Nat.zero_add, ile_t, ile_f, ilt_t, ilt_f, ieq_t, ieq_f, iz_t, iz_f, ilt0, ige0, im1, Bool.false_eq_true, Bool.true_eq_false, if_true, if_false, h1, ← fp_room]
  exact ld_ok hA hs _
/-- of some servers the first of the least load, as far as n -/
def bsN (ld : Nat → UInt32) (P : Nat → Bool) : Nat → Option Nat
  | 0 => none
  | s + 1 => if P s = true then (match bsN ld P s with
    | none => some s
    | some t => if 0 ≤ Op.cmpValue (FP.fcmp (ld s) (ld t)) .g then some t else some s) else bsN ld P s
theorem bsN_in {ld : Nat → UInt32} {P : Nat → Bool} {n t : Nat} (h : bsN ld P n = some t) : t < n ∧ P t = true := by
  induction n generalizing t with
  | zero => cases h
  | succ n ih =>
    rw [bsN] at h
    by_cases hp : P n = true
    · rw [if_pos hp] at h
      cases hb : bsN ld P n with
      | none => rw [hb] at h; cases h; exact ⟨by omega, hp⟩
      | some u =>
        rw [hb] at h
        have := ih hb
        dsimp only at h
        split at h
        · cases h; exact ⟨by omega, this.2⟩
        · cases h; exact ⟨by omega, hp⟩
    · rw [if_neg hp] at h
      have := ih h
      exact ⟨by omega, this.2⟩
theorem bsN_no {ld : Nat → UInt32} {P : Nat → Bool} {n : Nat} (h : ∀ s, s < n → P s = false) : bsN ld P n = none := by
  induction n with
  | zero => rfl
  | succ n ih => rw [bsN, h n (by omega), if_neg (by decide), ih (fun s hs => h s (by omega))]
theorem bsN_ex {ld : Nat → UInt32} {P : Nat → Bool} {n s : Nat} (hs : s < n) (h : P s = true) : ∃ t, bsN ld P n = some t := by
  induction n with
  | zero => omega
  | succ n ih =>
    rw [bsN]
    by_cases hp : P n = true
    · rw [if_pos hp]
      cases bsN ld P n with
      | none => exact ⟨_, rfl⟩
      | some u =>
        dsimp only
        split
        · exact ⟨_, rfl⟩
        · exact ⟨_, rfl⟩
    · rw [if_neg hp]
      by_cases e : s = n
      · subst e; exact absurd h hp
      · exact ih (by omega)
theorem bsN_ext {ld : Nat → UInt32} {P : Nat → Bool} {n : Nat} (d : Nat) (h : ∀ s, n ≤ s → P s = false) : bsN ld P (n + d) = bsN ld P n := by
  induction d with
  | zero => rfl
  | succ d ih =>
    show bsN ld P (n + d + 1) = _
    rw [bsN, h (n + d) (by omega), if_neg (by decide), ih]
def bst (A : AH) (P : Nat → Bool) : Nat := (bsN (aLd A) P 5).getD 0
theorem bst_in (A : AH) {P : Nat → Bool} (hx : ∃ s, s < 5 ∧ P s = true) : bsN (aLd A) P 5 = some (bst A P) ∧ bst A P < 5 ∧ P (bst A P) = true := by
  obtain ⟨s, hs, hp⟩ := hx
  obtain ⟨t, ht⟩ := bsN_ex (ld := aLd A) hs hp
  have e : bst A P = t := by unfold bst; rw [ht]; rfl
  rw [e]
  exact ⟨ht, bsN_in ht⟩
def bsR (A : AH) (P : Nat → Bool) (i : Nat) (q : Int32 × UInt32 × Int32) : Prop := q.2.2 = nI i ∧ (match bsN (aLd A) P i with
  | none => q.1 = -1
  | some t => q.1 = nI t ∧ q.2.1 = aLd A t)
theorem best_all {A : AH} {v : HS} {n : Nat} (h : RC A v) (hA : AI n A) (hn : n ≤ 8000) {P : Nat → Bool} (hP : ∀ s, nS A ≤ s → P s = false) : f_X5_best v (nI (mN P 5)) = some (match bsN (aLd A) P 5 with
  | none => -1
  | some t => nI t) := by
  have h5 : nS A ≤ 5 := hA.1
  have hv : v.2.2.2.2.2.1.1 = nI (nS A) := h.2.1.1
  have e5 : bsN (aLd A) P 5 = bsN (aLd A) P (nS A) := by
    have := bsN_ext (ld := aLd A) (5 - nS A) hP
    rw [show nS A + (5 - nS A) = 5 by omega] at this
    exact this
  rw [e5, u_X5_best, jn_eq]
  obtain ⟨q, ⟨h1, h2⟩, hX⟩ := lp_rel (b := bX5_best_1 v (nI (mN P 5)) (fun q1 : Int32 × UInt32 × Int32 => some q1.1)) (bsR A P) (nS A) (by omega) (q0 := (-1, FP.fconst0, nI 0)) ⟨rfl, rfl⟩ (by
    intro i q hi hR
    obtain ⟨q1, q2, q3⟩ := q
    obtain ⟨h1, h2⟩ := hR
    dsimp only at h1 h2
    subst h1
    have hP5 : f_X10_isIn (nI (mN P 5)) (nI i) = P i := isIn_n P (by omega)
    by_cases hp : P i = true
    · cases hb : bsN (aLd A) P i with
      | none =>
        rw [hb] at h2
        dsimp only at h2
        subst h2
        refine ⟨(nI i, aLd A i, nI (i + 1)), ⟨rfl, ?_⟩, fun rec => ?_⟩
        · rw [bsN, if_pos hp, hb]
          exact ⟨rfl, rfl⟩
        · simp (disch := omega) only [ubX5_best_1, hv, hP5, hp, load_c h hA hn hi, ↓reduceIte, bt_do, bd_do, jn_eq, bI_z, gd_nI, gd_0, gd_1, nI_clamp, nI_add, nI_1, pk_mul, Nat.add_zero, Nat.zero_add, ile_t, ile_f, ilt_t, ilt_f, ieq_t, ieq_f, iz_t, iz_f, ilt0, ige0, im1, Bool.false_eq_true, Bool.true_eq_false, if_true, if_false]
      | some t =>
        rw [hb] at h2
        dsimp only at h2
        obtain ⟨rfl, rfl⟩ := h2
        have ht := bsN_in hb
        by_cases hc : 0 ≤ Op.cmpValue (FP.fcmp (aLd A i) (aLd A t)) .g
        · refine ⟨(nI t, aLd A t, nI (i + 1)), ⟨rfl, ?_⟩, fun rec => ?_⟩
          · rw [show bsN (aLd A) P (i + 1) = some t by rw [bsN, if_pos hp, hb]; exact if_pos hc]
            exact ⟨rfl, rfl⟩
          · simp (disch := omega) only [ubX5_best_1, hv, hP5, hp, load_c h hA hn hi, ↓reduceIte, bt_do, bd_do, jn_eq, bI_z, gd_nI, gd_0, gd_1, nI_clamp, nI_add, nI_1, pk_mul, Nat.add_zero, Nat.zero_add, ile_t, ile_f, ilt_t, ilt_f, ieq_t, ieq_f, iz_t, iz_f, ilt0, ige0, im1, Bool.false_eq_true, Bool.true_eq_false, if_true, if_false, hc]
        · refine ⟨(nI i, aLd A i, nI (i + 1)), ⟨rfl, ?_⟩, fun rec => ?_⟩
          · rw [show bsN (aLd A) P (i + 1) = some i by rw [bsN, if_pos hp, hb]; exact if_neg hc]
            exact ⟨rfl, rfl⟩
          · simp (disch := omega) only [ubX5_best_1, hv, hP5, hp, load_c h hA hn hi, ↓reduceIte, bt_do, bd_do, jn_eq, bI_z, gd_nI, gd_0, gd_1, nI_clamp, nI_add, nI_1, pk_mul, Nat.add_zero, Nat.zero_add, ile_t, ile_f, ilt_t, ilt_f, ieq_t, ieq_f, iz_t, iz_f, ilt0, ige0, im1, Bool.false_eq_true, Bool.true_eq_false, if_true, if_false, hc]
    · have hp' : P i = false := by cases hq : P i; rfl; exact absurd hq hp
      refine ⟨(q1, q2, nI (i + 1)), ⟨rfl, ?_⟩, fun rec => ?_⟩
      · rw [bsN, if_neg hp]
        exact h2
      · simp (disch := omega) only [ubX5_best_1, hv, hP5, hp', ↓reduceIte, bt_do, bd_do, jn_eq, bI_z, gd_nI, gd_0, gd_1, nI_clamp, nI_add, nI_1, pk_mul, Nat.add_zero, Nat.zero_add, ile_t, ile_f, ilt_t, ilt_f, ieq_t, ieq_f, iz_t, iz_f, ilt0, ige0, im1, Bool.false_eq_true, Bool.true_eq_false, if_true, if_false])
  obtain ⟨q1, q2, q3⟩ := q
  dsimp only at h1 h2
  subst h1
  apply hX
  intro rec
  simp (disch := omega) only [ubX5_best_1, hv, ↓reduceIte, bt_do, bd_do, jn_eq, bI_z, gd_nI, gd_0, gd_1, nI_clamp, nI_add, nI_1, pk_mul, Nat.add_zero, Nat.zero_add, ile_t, ile_f, ilt_t, ilt_f, ieq_t, ieq_f, iz_t, iz_f, ilt0, ige0, im1, Bool.false_eq_true, Bool.true_eq_false, if_true, if_false]
  cases hb : bsN (aLd A) P (nS A) with
  | none => rw [hb] at h2; rw [h2]
  | some t => rw [hb] at h2; rw [h2.1]
theorem best_c {A : AH} {v : HS} {n : Nat} (h : RC A v) (hA : AI n A) (hn : n ≤ 8000) {P : Nat → Bool} (hP : ∀ s, nS A ≤ s → P s = false) (hx : ∃ s, s < 5 ∧ P s = true) : f_X5_best v (nI (mN P 5)) = some (nI (bst A P)) := by
  rw [best_all h hA hn hP, (bst_in A hx).1]
theorem best_no {A : AH} {v : HS} {n : Nat} (h : RC A v) (hA : AI n A) (hn : n ≤ 8000) {P : Nat → Bool} (hx : ∀ s, P s = false) : f_X5_best v (nI (mN P 5)) = some (-1) := by
  rw [best_all h hA hn (fun s _ => hx s), bsN_no (fun s _ => hx s)]
theorem best_m {A : AH} {b : Nat → Int64} {n : Nat} (h : RM A b) (hA : AI n A) (hn : n ≤ 8000) {P : Nat → Bool} (hP : ∀ s, nS A ≤ s → P s = false) (hx : ∃ s, s < 5 ∧ P s = true) : f_X11_best b (nI (mN P 5)) = some (nI (bst A P)) := by
  have h5 : nS A ≤ 5 := hA.1
  obtain ⟨f1, f2, f3⟩ := fst5_in hx
  have hin : ∀ s, P s = true → s < nS A := fun s hs => by
    by_cases e : s < nS A
    · exact e
    · rw [hP s (by omega)] at hs; cases hs
  rw [u_X11_best, bd_at (least_n P), jn_eq, nI_add]
  have h0 : bsN (aLd A) P (fst5 P + 1) = some (fst5 P) := by rw [bsN, if_pos f2, bsN_no f3]
  obtain ⟨q, ⟨h1, h2⟩, hX⟩ := lp_rel (b := bX11_best_2 (nI (mN P 5)) b (fun q2 : Int32 × Int32 => some q2.1)) (fun i (q : Int32 × Int32) => q.2 = nI (fst5 P + 1 + i) ∧ ∃ t, bsN (aLd A) P (fst5 P + 1 + i) = some t ∧ q.1 = nI t) (4 - fst5 P) (by omega) (q0 := (nI (fst5 P), nI (fst5 P + 1))) ⟨rfl, fst5 P, h0, rfl⟩ (by
    intro i q hi hR
    obtain ⟨q1, q2⟩ := q
    obtain ⟨h1, t, hb, h2⟩ := hR
    dsimp only at h1 h2
    subst h1
    subst h2
    have ht := bsN_in hb
    have hP5 : f_X11_has (nI (mN P 5)) (nI (fst5 P + 1 + i)) = P (fst5 P + 1 + i) := has_n P (by omega)
    have e1 : fst5 P + 1 + (i + 1) = fst5 P + 1 + i + 1 := by omega
    by_cases hp : P (fst5 P + 1 + i) = true
    · by_cases hc : 0 ≤ Op.cmpValue (FP.fcmp (aLd A (fst5 P + 1 + i)) (aLd A t)) .g
      · refine ⟨(nI t, nI (fst5 P + 1 + i + 1)), ⟨by rw [e1], t, ?_, rfl⟩, fun rec => ?_⟩
        · rw [e1, bsN, if_pos hp, hb]
          simp only [if_pos hc]
        · simp (disch := omega) only [ubX11_best_2, hP5, hp, load_m h hA hn (hin _ hp), load_m h hA hn (hin _ ht.2), ↓reduceIte, bt_do, bd_do, jn_eq, bI_z, gd_nI, gd_0, gd_1, nI_clamp, nI_add, nI_1, pk_mul, Nat.add_zero, Nat.zero_add, ile_t, ile_f, ilt_t, ilt_f, ieq_t, ieq_f, iz_t, iz_f, ilt0, ige0, im1, Bool.false_eq_true, Bool.true_eq_false, if_true, if_false, hc]
      · refine ⟨(nI (fst5 P + 1 + i), nI (fst5 P + 1 + i + 1)), ⟨by rw [e1], _, ?_, rfl⟩, fun rec => ?_⟩
        · rw [e1, bsN, if_pos hp, hb]
          simp only [if_neg hc]
        · simp (disch := omega) only [ubX11_best_2, hP5, hp, load_m h hA hn (hin _ hp), load_m h hA hn (hin _ ht.2), ↓reduceIte, bt_do, bd_do, jn_eq, bI_z, gd_nI, gd_0, gd_1, nI_clamp, nI_add, nI_1, pk_mul, Nat.add_zero, Nat.zero_add, ile_t, ile_f, ilt_t, ilt_f, ieq_t, ieq_f, iz_t, iz_f, ilt0, ige0, im1, Bool.false_eq_true, Bool.true_eq_false, if_true, if_false, hc]
    · have hp' : P (fst5 P + 1 + i) = false := by cases hq : P (fst5 P + 1 + i); rfl; exact absurd hq hp
      refine ⟨(nI t, nI (fst5 P + 1 + i + 1)), ⟨by rw [e1], t, ?_, rfl⟩, fun rec => ?_⟩
      · rw [e1, bsN, if_neg hp, hb]
      · simp (disch := omega) only [ubX11_best_2, hP5, hp', ↓reduceIte, bt_do, bd_do, jn_eq, bI_z, gd_nI, gd_0, gd_1, nI_clamp, nI_add, nI_1, pk_mul, Nat.add_zero, Nat.zero_add, ile_t, ile_f, ilt_t, ilt_f, ieq_t, ieq_f, iz_t, iz_f, ilt0, ige0, im1, Bool.false_eq_true, Bool.true_eq_false, if_true, if_false])
  obtain ⟨q1, q2⟩ := q
  obtain ⟨t, hb, h2⟩ := h2
  dsimp only at h1 h2
  rw [show fst5 P + 1 + (4 - fst5 P) = 5 by omega] at h1 hb
  subst h1
  subst h2
  rw [(bst_in A hx).1] at hb
  cases hb
  apply hX
  intro rec
  simp (disch := omega) only [ubX11_best_2, ↓reduceIte, bt_do, bd_do, jn_eq, bI_z, gd_nI, gd_0, gd_1, nI_clamp, nI_add, nI_1, pk_mul, Nat.add_zero, Nat.zero_add, ile_t, ile_f, ilt_t, ilt_f, ieq_t, ieq_f, iz_t, iz_f, ilt0, ige0, im1, Bool.false_eq_true, Bool.true_eq_false, if_true, if_false]
/-! the servers of a new chunk -/
theorem andb_d : ∀ t, t < 5 → ∀ a0 a1 a2 a3 a4 : Bool, nI (b5 a0 a1 a2 a3 a4) &&& (((nI 1) <<< (nI t &&& 31)) ^^^ (-1)) = nI (b5 (a0 && !(t == 0)) (a1 && !(t == 1)) (a2 && !(t == 2)) (a3 && !(t == 3)) (a4 && !(t == 4))) := by decide +kernel
theorem orb_d : ∀ t, t < 5 → ∀ a0 a1 a2 a3 a4 : Bool, nI (b5 a0 a1 a2 a3 a4) ||| ((nI 1) <<< (nI t &&& 31)) = nI (b5 (a0 || (t == 0)) (a1 || (t == 1)) (a2 || (t == 2)) (a3 || (t == 3)) (a4 || (t == 4))) := by decide +kernel
theorem up_off (P : Nat → Bool) (t s : Nat) : upO P t false s = (P s && !(t == s)) := by
  by_cases e : s = t
  · subst e
    rw [up_s]
    simp
  · rw [up_n e]
    have : (t == s) = false := by simp; omega
    rw [this]
    simp
theorem up_on (P : Nat → Bool) (t s : Nat) : upO P t true s = (P s || (t == s)) := by
  by_cases e : s = t
  · subst e
    rw [up_s]
    simp
  · rw [up_n e]
    have : (t == s) = false := by simp; omega
    rw [this]
    simp
theorem andb_n (P : Nat → Bool) {t : Nat} (ht : t < 5) : nI (mN P 5) &&& (((nI 1) <<< (nI t &&& 31)) ^^^ (-1)) = nI (mN (upO P t false) 5) := by
  rw [mN_5, mN_5, andb_d t ht]
  simp only [up_off]
theorem orb_n (P : Nat → Bool) {t : Nat} (ht : t < 5) : nI (mN P 5) ||| ((nI 1) <<< (nI t &&& 31)) = nI (mN (upO P t true) 5) := by
  rw [mN_5, mN_5, orb_d t ht]
  simp only [up_on]
def any5 (P : Nat → Bool) : Bool := P 0 || P 1 || P 2 || P 3 || P 4
theorem any5_t {P : Nat → Bool} : any5 P = true ↔ ∃ s, s < 5 ∧ P s = true := by
  unfold any5
  constructor
  · intro h
    simp only [Bool.or_eq_true] at h
    rcases h with (((h | h) | h) | h) | h
    · exact ⟨0, by omega, h⟩
    · exact ⟨1, by omega, h⟩
    · exact ⟨2, by omega, h⟩
    · exact ⟨3, by omega, h⟩
    · exact ⟨4, by omega, h⟩
  · intro ⟨s, hs, h⟩
    rcases (by omega : s = 0 ∨ s = 1 ∨ s = 2 ∨ s = 3 ∨ s = 4) with e | e | e | e | e <;> subst e <;> simp [h]
theorem any5_z (P : Nat → Bool) : (nI (mN P 5) = 0) = (any5 P = false) := by
  rw [m5_z]
  apply propext
  constructor
  · intro h
    cases hq : any5 P
    · rfl
    · obtain ⟨s, hs, hp⟩ := any5_t.mp hq
      rw [h s hs] at hp
      cases hp
  · intro h s hs
    cases hq : P s
    · rfl
    · rw [any5_t.mpr ⟨s, hs, hq⟩] at h
      cases h
/-- k turns: from what is left to what is taken -/
def tgN (A : AH) : Nat → (Nat → Bool) → (Nat → Bool) → (Nat → Bool)
  | 0, _, Q => Q
  | k + 1, P, Q => if any5 P = true then tgN A k (upO P (bst A P) false) (upO Q (bst A P) true) else Q
theorem tgN_in (A : AH) : ∀ (k : Nat) (P Q : Nat → Bool) (s : Nat), tgN A k P Q s = true → Q s = true ∨ P s = true := by
  intro k
  induction k with
  | zero => intro P Q s h; exact Or.inl h
  | succ k ih =>
    intro P Q s h
    rw [tgN] at h
    by_cases hp : any5 P = true
    · rw [if_pos hp] at h
      have hb := bst_in A (any5_t.mp hp)
      rcases ih _ _ s h with h1 | h1
      · by_cases e : s = bst A P
        · right; rw [e]; exact hb.2.2
        · rw [up_n e] at h1; exact Or.inl h1
      · by_cases e : s = bst A P
        · right; rw [e]; exact hb.2.2
        · rw [up_n e] at h1; exact Or.inr h1
    · rw [if_neg hp] at h
      exact Or.inl h
theorem targets_m {A : AH} {b : Nat → Int64} {n : Nat} (h : RM A b) (hA : AI n A) (hn : n ≤ 8000) {w : Nat} (hw : w ≤ 9) : f_X11_targets b (nI w) = some (nI (mN (tgN A w (aUpB A) (fun _ => false)) 5)) := by
  rw [u_X11_targets, bd_at (ups_m5 h hA), jn_eq]
  refine lp_gen (b := bX11_targets_2 (nI w) b (fun q2 : Int32 × Int32 × Int32 => some q2.2.1)) (fun i (q : Int32 × Int32 × Int32) => ∃ P Q, q = (nI (mN P 5), nI (mN Q 5), nI i) ∧ tgN A (w - i) P Q = tgN A w (aUpB A) (fun _ => false) ∧ ∀ s, nS A ≤ s → P s = false) (fun X => X = some (nI (mN (tgN A w (aUpB A) (fun _ => false)) 5))) w (by omega) ⟨aUpB A, fun _ => false, ?_, rfl, up_out hA⟩ ?_ ?_
  · rw [mN_zero.mpr (fun s _ => rfl)]
  · rintro i q hi ⟨P, Q, rfl, ht, hP⟩
    rw [show w - i = (w - i - 1) + 1 by omega, tgN] at ht
    by_cases hp : any5 P = true
    · rw [if_pos hp] at ht
      have hb := bst_in A (any5_t.mp hp)
      left
      refine ⟨_, ⟨upO P (bst A P) false, upO Q (bst A P) true, rfl, by rw [show w - (i + 1) = w - i - 1 by omega]; exact ht, fun s hs => ?_⟩, fun rec => ?_⟩
      · rw [up_off, hP s hs]; rfl
      · simp (disch := omega) only [ubX11_targets_2, any5_z, hp, best_m h hA hn hP (any5_t.mp hp), andb_n P hb.2.1, orb_n Q hb.2.1, ↓reduceIte, bt_do, bd_do, jn_eq, bI_z, gd_nI, gd_0, gd_1, nI_clamp, nI_add, nI_1, pk_mul, Nat.add_zero, Nat.zero_add, ile_t, ile_f, ilt_t, ilt_f, ieq_t, ieq_f, iz_t, iz_f, ilt0, ige0, im1, Bool.false_eq_true, Bool.true_eq_false, if_true, if_false]
    · have hp' : any5 P = false := by cases hq : any5 P; rfl; exact absurd hq hp
      rw [if_neg hp] at ht
      right
      refine ⟨_, rfl, fun rec => ?_⟩
      simp (disch := omega) only [ubX11_targets_2, any5_z, hp', ↓reduceIte, bt_do, bd_do, jn_eq, bI_z, gd_nI, gd_0, gd_1, nI_clamp, nI_add, nI_1, pk_mul, Nat.add_zero, Nat.zero_add, ile_t, ile_f, ilt_t, ilt_f, ieq_t, ieq_f, iz_t, iz_f, ilt0, ige0, im1, Bool.false_eq_true, Bool.true_eq_false, if_true, if_false, ht]
  · rintro q ⟨P, Q, rfl, ht, hP⟩
    rw [Nat.sub_self] at ht
    refine ⟨_, rfl, fun rec => ?_⟩
    rw [← ht]
    simp (disch := omega) only [ubX11_targets_2, ↓reduceIte, bt_do, bd_do, jn_eq, bI_z, gd_nI, gd_0, gd_1, nI_clamp, nI_add, nI_1, pk_mul, Nat.add_zero, Nat.zero_add, ile_t, ile_f, ilt_t, ilt_f, ieq_t, ieq_f, iz_t, iz_f, ilt0, ige0, im1, Bool.false_eq_true, Bool.true_eq_false, if_true, if_false, tgN]
theorem isOne_d : ∀ k, k < 6 → ∀ o, o < 6 → f_X6_isOne (nI k) (nI o) = some (o == 0 || k == o || (o == 1 && (k == 1 || k == 2 || k == 3)) || (o == 4 && k == 5)) := by decide +kernel
def aWant (A : AH) (k : Nat) : Nat := if k = 5 then 1 else if k = 3 then A.1 1 + 1 else A.1 1
theorem want_c {A : AH} {v : HS} {n : Nat} (h : RC A v) (hA : AI n A) {k : Nat} (hk : k < 6) : f_X5_copiesWanted v (nI k) = some (nI (aWant A k)) := by
  have h1 : v.1 = nI (A.1 1) := h.1.1
  unfold aWant
  rcases (by omega : k = 0 ∨ k = 1 ∨ k = 2 ∨ k = 3 ∨ k = 4 ∨ k = 5) with e | e | e | e | e | e <;> subst e <;> simp (decide := true) (disch := omega) only [u_X5_copiesWanted, isOne_d, ↓reduceIte, bt_do, bd_do, jn_eq, bI_z, gd_nI, gd_0, gd_1, nI_clamp, nI_add, nI_1, pk_mul, Nat.add_zero, Nat.zero_add, ile_t, ile_f, ilt_t, ilt_f, ieq_t, ieq_f, iz_t, iz_f, ilt0, ige0, im1, Bool.false_eq_true, Bool.true_eq_false, if_true, if_false, h1]
theorem want_m {A : AH} {b : Nat → Int64} {n : Nat} (h : RM A b) (hA : AI n A) {k : Nat} (hk : k < 6) : f_X11_wanted b (lN k) = some (nI (aWant A k)) := by
  have h1 : b 1 = lN (A.1 1) := h.1 1 (by omega)
  unfold aWant
  rcases (by omega : k = 0 ∨ k = 1 ∨ k = 2 ∨ k = 3 ∨ k = 4 ∨ k = 5) with e | e | e | e | e | e <;> subst e <;> simp (decide := true) (disch := omega) only [u_X11_wanted, ↓reduceIte, bt_do, bd_do, jn_eq, bI_z, gd_nI, gd_0, gd_1, nI_clamp, nI_add, nI_1, pk_mul, Nat.add_zero, Nat.zero_add, ile_t, ile_f, ilt_t, ilt_f, ieq_t, ieq_f, iz_t, iz_f, ilt0, ige0, im1, Bool.false_eq_true, Bool.true_eq_false, if_true, if_false, lc_ge_t, lc_ge_f, lc_eq_t, lc_eq_f, lc_le_t, lc_le_f, lc_gt_t, lc_gt_f, lc_lt_t, lc_lt_f, nI_l, lN_i, lN_add, lN_1, h1]
theorem want_le {A : AH} {n : Nat} (hA : AI n A) (k : Nat) : aWant A k ≤ 4 := by
  have := hA.2.1
  unfold aWant
  split
  · omega
  · split <;> omega
def aTg (A : AH) (k : Nat) : Nat → Bool := tgN A (aWant A k) (aUpB A) (fun _ => false)
theorem aTg_up {A : AH} {k s : Nat} (h : aTg A k s = true) : aUpB A s = true := by
  rcases tgN_in A _ _ _ s h with h1 | h1
  · cases h1
  · exact h1
theorem places_c {A : AH} {v : HS} {n : Nat} (h : RC A v) (hA : AI n A) (hn : n ≤ 8000) {k : Nat} (hk : k < 6) : f_X5_placesForNew v (nI k) = some (nI (mN (aTg A k) 5)) := by
  have hw := want_le hA k
  rw [u_X5_placesForNew, bd_at (want_c h hA hk), ups_c5 h hA, jn_eq]
  unfold aTg
  refine lp_gen (b := bX5_placesForNew_2 (nI (aWant A k)) v (fun q2 : Int32 × Int32 × Int32 => some q2.2.1)) (fun i (q : Int32 × Int32 × Int32) => ∃ P Q, q = (nI (mN P 5), nI (mN Q 5), nI i) ∧ tgN A (aWant A k - i) P Q = tgN A (aWant A k) (aUpB A) (fun _ => false) ∧ ∀ s, nS A ≤ s → P s = false) (fun X => X = some (nI (mN (tgN A (aWant A k) (aUpB A) (fun _ => false)) 5))) (aWant A k) (by omega) ⟨aUpB A, fun _ => false, ?_, rfl, up_out hA⟩ ?_ ?_
  · rw [mN_zero.mpr (fun s _ => rfl)]
  · rintro i q hi ⟨P, Q, rfl, ht, hP⟩
    rw [show aWant A k - i = (aWant A k - i - 1) + 1 by omega, tgN] at ht
    by_cases hp : any5 P = true
    · rw [if_pos hp] at ht
      have hb := bst_in A (any5_t.mp hp)
      left
      refine ⟨_, ⟨upO P (bst A P) false, upO Q (bst A P) true, rfl, by rw [show aWant A k - (i + 1) = aWant A k - i - 1 by omega]; exact ht, fun s hs => ?_⟩, fun rec => ?_⟩
      · rw [up_off, hP s hs]; rfl
      · simp (disch := omega) only [ubX5_placesForNew_2, any5_z, hp, best_c h hA hn hP (any5_t.mp hp), andb_n P hb.2.1, orb_n Q hb.2.1, ↓reduceIte, bt_do, bd_do, jn_eq, bI_z, gd_nI, gd_0, gd_1, nI_clamp, nI_add, nI_1, pk_mul, Nat.add_zero, Nat.zero_add, ile_t, ile_f, ilt_t, ilt_f, ieq_t, ieq_f, iz_t, iz_f, ilt0, ige0, im1, Bool.false_eq_true, Bool.true_eq_false, if_true, if_false]
    · have hp' : any5 P = false := by cases hq : any5 P; rfl; exact absurd hq hp
      rw [if_neg hp] at ht
      right
      refine ⟨_, rfl, fun rec => ?_⟩
      simp (disch := omega) only [ubX5_placesForNew_2, any5_z, hp', ↓reduceIte, bt_do, bd_do, jn_eq, bI_z, gd_nI, gd_0, gd_1, nI_clamp, nI_add, nI_1, pk_mul, Nat.add_zero, Nat.zero_add, ile_t, ile_f, ilt_t, ilt_f, ieq_t, ieq_f, iz_t, iz_f, ilt0, ige0, im1, Bool.false_eq_true, Bool.true_eq_false, if_true, if_false, ht]
  · rintro q ⟨P, Q, rfl, ht, hP⟩
    rw [Nat.sub_self] at ht
    refine ⟨_, rfl, fun rec => ?_⟩
    rw [← ht]
    simp (disch := omega) only [ubX5_placesForNew_2, ↓reduceIte, bt_do, bd_do, jn_eq, bI_z, gd_nI, gd_0, gd_1, nI_clamp, nI_add, nI_1, pk_mul, Nat.add_zero, Nat.zero_add, ile_t, ile_f, ilt_t, ilt_f, ieq_t, ieq_f, iz_t, iz_f, ilt0, ige0, im1, Bool.false_eq_true, Bool.true_eq_false, if_true, if_false, tgN]
theorem targets_k {A : AH} {b : Nat → Int64} {n : Nat} (h : RM A b) (hA : AI n A) (hn : n ≤ 8000) (k : Nat) : f_X11_targets b (nI (aWant A k)) = some (nI (mN (aTg A k) 5)) := targets_m h hA hn (by have := want_le hA k; omega)
theorem aTg_any {A : AH} {k : Nat} (hw : 1 ≤ aWant A k) : any5 (aTg A k) = any5 (aUpB A) := by
  unfold aTg
  rw [show aWant A k = (aWant A k - 1) + 1 by omega, tgN]
  have mono : ∀ (k : Nat) (P Q : Nat → Bool) (s : Nat), Q s = true → tgN A k P Q s = true := by
    intro k
    induction k with
    | zero => intro P Q s h; exact h
    | succ k ih =>
      intro P Q s h
      rw [tgN]
      split
      · apply ih
        rw [up_on, h]; rfl
      · exact h
  by_cases hp : any5 (aUpB A) = true
  · rw [if_pos hp, hp]
    have hb := bst_in A (any5_t.mp hp)
    exact any5_t.mpr ⟨bst A (aUpB A), hb.2.1, mono _ _ _ _ (up_s _ _ _)⟩
  · have hp' : any5 (aUpB A) = false := by cases hq : any5 (aUpB A); rfl; exact absurd hq hp
    rw [if_neg hp, hp']
    rfl
