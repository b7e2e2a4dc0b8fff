/-! PURE 81: sets of servers as numbers below 32 -/
/-- the number of five truth values -/
def b5 (a0 a1 a2 a3 a4 : Bool) : Nat := (if a0 = true then 1 else 0) + (if a1 = true then 2 else 0) + (if a2 = true then 4 else 0) + (if a3 = true then 8 else 0) + (if a4 = true then 16 else 0)
theorem mN_5 (P : Nat → Bool) : mN P 5 = b5 (P 0) (P 1) (P 2) (P 3) (P 4) := by
  simp only [mN]
  generalize P 0 = a0
  generalize P 1 = a1
  generalize P 2 = a2
  generalize P 3 = a3
  generalize P 4 = a4
  revert a0 a1 a2 a3 a4
  decide +kernel
theorem cN_5 (P : Nat → Bool) : cN P 5 = (if P 0 = true then 1 else 0) + (if P 1 = true then 1 else 0) + (if P 2 = true then 1 else 0) + (if P 3 = true then 1 else 0) + (if P 4 = true then 1 else 0) := by
  simp only [cN]
  omega
theorem m5_lt (P : Nat → Bool) : mN P 5 < 32 := mN_lt P 5
theorem isIn_d : ∀ a0 a1 a2 a3 a4 : Bool, f_X10_isIn (nI (b5 a0 a1 a2 a3 a4)) (nI 0) = a0 ∧ f_X10_isIn (nI (b5 a0 a1 a2 a3 a4)) (nI 1) = a1 ∧ f_X10_isIn (nI (b5 a0 a1 a2 a3 a4)) (nI 2) = a2 ∧ f_X10_isIn (nI (b5 a0 a1 a2 a3 a4)) (nI 3) = a3 ∧ f_X10_isIn (nI (b5 a0 a1 a2 a3 a4)) (nI 4) = a4 := by decide +kernel
theorem isIn_n (P : Nat → Bool) {s : Nat} (hs : s < 5) : f_X10_isIn (nI (mN P 5)) (nI s) = P s := by
  rw [mN_5]
  have h := isIn_d (P 0) (P 1) (P 2) (P 3) (P 4)
  rcases (by omega : s = 0 ∨ s = 1 ∨ s = 2 ∨ s = 3 ∨ s = 4) with e | e | e | e | e <;> subst e
  · exact h.1
  · exact h.2.1
  · exact h.2.2.1
  · exact h.2.2.2.1
  · exact h.2.2.2.2
theorem has_d : ∀ a0 a1 a2 a3 a4 : Bool, f_X11_has (nI (b5 a0 a1 a2 a3 a4)) (nI 0) = a0 ∧ f_X11_has (nI (b5 a0 a1 a2 a3 a4)) (nI 1) = a1 ∧ f_X11_has (nI (b5 a0 a1 a2 a3 a4)) (nI 2) = a2 ∧ f_X11_has (nI (b5 a0 a1 a2 a3 a4)) (nI 3) = a3 ∧ f_X11_has (nI (b5 a0 a1 a2 a3 a4)) (nI 4) = a4 := by decide +kernel
theorem has_n (P : Nat → Bool) {s : Nat} (hs : s < 5) : f_X11_has (nI (mN P 5)) (nI s) = P s := by
  rw [mN_5]
  have h := has_d (P 0) (P 1) (P 2) (P 3) (P 4)
  rcases (by omega : s = 0 ∨ s = 1 ∨ s = 2 ∨ s = 3 ∨ s = 4) with e | e | e | e | e <;> subst e
  · exact h.1
  · exact h.2.1
  · exact h.2.2.1
  · exact h.2.2.2.1
  · exact h.2.2.2.2
theorem ones_d : ∀ a0 a1 a2 a3 a4 : Bool, f_X11_ones (nI (b5 a0 a1 a2 a3 a4)) = some (nI ((if a0 = true then 1 else 0) + (if a1 = true then 1 else 0) + (if a2 = true then 1 else 0) + (if a3 = true then 1 else 0) + (if a4 = true then 1 else 0))) := by decide +kernel
theorem ones_n (P : Nat → Bool) : f_X11_ones (nI (mN P 5)) = some (nI (cN P 5)) := by
  rw [mN_5, cN_5]
  exact ones_d _ _ _ _ _
theorem bits_d : ∀ a0 a1 a2 a3 a4 : Bool, f_J6_bitCount_0f7a4 (nI (b5 a0 a1 a2 a3 a4)) = nI ((if a0 = true then 1 else 0) + (if a1 = true then 1 else 0) + (if a2 = true then 1 else 0) + (if a3 = true then 1 else 0) + (if a4 = true then 1 else 0)) := by decide +kernel
theorem bits_n (P : Nat → Bool) : f_J6_bitCount_0f7a4 (nI (mN P 5)) = nI (cN P 5) := by
  rw [mN_5, cN_5]
  exact bits_d _ _ _ _ _
theorem andn_d : ∀ a0 a1 a2 a3 a4 c0 c1 c2 c3 c4 : Bool, nI (b5 a0 a1 a2 a3 a4) &&& (nI (b5 c0 c1 c2 c3 c4) ^^^ (-1)) = nI (b5 (a0 && !c0) (a1 && !c1) (a2 && !c2) (a3 && !c3) (a4 && !c4)) := by decide +kernel
theorem andn_n (P Q : Nat → Bool) : nI (mN P 5) &&& (nI (mN Q 5) ^^^ (-1)) = nI (mN (fun s => P s && !Q s) 5) := by
  rw [mN_5, mN_5, mN_5]
  exact andn_d _ _ _ _ _ _ _ _ _ _
theorem m5_z (P : Nat → Bool) : (nI (mN P 5) = 0) = (∀ s, s < 5 → P s = false) := by
  have h := m5_lt P
  apply propext
  rw [← mN_zero]
  constructor
  · intro q
    exact (nI_eq (by omega) (by omega)).mp q
  · intro q
    rw [q]
    rfl
/-- the first of five -/
def fst5 (P : Nat → Bool) : Nat := if P 0 = true then 0 else if P 1 = true then 1 else if P 2 = true then 2 else if P 3 = true then 3 else if P 4 = true then 4 else 5
theorem fst5_in {P : Nat → Bool} (h : ∃ s, s < 5 ∧ P s = true) : fst5 P < 5 ∧ P (fst5 P) = true ∧ ∀ s, s < fst5 P → P s = false := by
  obtain ⟨s, hs, hp⟩ := h
  unfold fst5
  cases h0 : P 0
  · cases h1 : P 1
    · cases h2 : P 2
      · cases h3 : P 3
        · cases h4 : P 4
          · exfalso
            rcases (by omega : s = 0 ∨ s = 1 ∨ s = 2 ∨ s = 3 ∨ s = 4) with e | e | e | e | e <;> subst e <;> simp_all
          · simp only [Bool.false_eq_true, if_true, if_false]
            refine ⟨by omega, h4, fun s hs => ?_⟩
            rcases (by omega : s = 0 ∨ s = 1 ∨ s = 2 ∨ s = 3) with e | e | e | e <;> subst e <;> assumption
        · simp only [Bool.false_eq_true, if_true, if_false]
          refine ⟨by omega, h3, fun s hs => ?_⟩
          rcases (by omega : s = 0 ∨ s = 1 ∨ s = 2) with e | e | e <;> subst e <;> assumption
      · simp only [Bool.false_eq_true, if_true, if_false]
        refine ⟨by omega, h2, fun s hs => ?_⟩
        rcases (by omega : s = 0 ∨ s = 1) with e | e <;> subst e <;> assumption
    · simp only [Bool.false_eq_true, if_true, if_false]
      refine ⟨by omega, h1, fun s hs => ?_⟩
      rcases (by omega : s = 0) with e
      subst e
      assumption
  · simp only [if_true]
    exact ⟨by omega, h0, fun s hs => by omega⟩
theorem least_d : ∀ a0 a1 a2 a3 a4 : Bool, f_X11_least (nI (b5 a0 a1 a2 a3 a4)) = some (nI (if a0 = true then 0 else if a1 = true then 1 else if a2 = true then 2 else if a3 = true then 3 else if a4 = true then 4 else 5)) := by decide +kernel
theorem least_n (P : Nat → Bool) : f_X11_least (nI (mN P 5)) = some (nI (fst5 P)) := by
  rw [mN_5]
  exact least_d _ _ _ _ _
theorem first_n {v : HS} (n : Nat) (hn : n ≤ 5) (hv : v.2.2.2.2.2.1.1 = nI n) (P : Nat → Bool) (hP : ∀ s, n ≤ s → P s = false) (hx : ∃ s, s < 5 ∧ P s = true) : f_X5_first v (nI (mN P 5)) = some (nI (fst5 P)) := by
  obtain ⟨h1, h2, h3⟩ := fst5_in hx
  have h4 : fst5 P < n := by
    by_cases q : fst5 P < n
    · exact q
    · rw [hP _ (by omega)] at h2
      cases h2
  rw [u_X5_first, jn_eq]
  refine lp_gen (fun i q => q = nI i ∧ i ≤ fst5 P) (fun X => X = some (nI (fst5 P))) n (by omega) ⟨rfl, by omega⟩ ?_ ?_
  · intro i q hi hR
    obtain ⟨rfl, hR⟩ := hR
    by_cases he : i = fst5 P
    · right
      refine ⟨_, rfl, fun rec => ?_⟩
      subst he
      simp (disch := omega) only [ubX5_first_1, hv, isIn_n P h1, h2, ↓reduceIte, bt_do, bd_do, jn_eq, bI_z, gd_nI, gd_0, gd_1, nI_clamp, nI_add, nI_1, pk_mul, Nat.add_zero, Nat.zero_add, ile_t, ile_f, ilt_t, ilt_f, ieq_t, ieq_f, iz_t, iz_f, ilt0, ige0, im1, Bool.false_eq_true, Bool.true_eq_false, if_true, if_false]
    · left
      refine ⟨nI (i + 1), ⟨rfl, by omega⟩, fun rec => ?_⟩
      simp (disch := omega) only [ubX5_first_1, hv, isIn_n P (show i < 5 by omega), h3 i (by omega), ↓reduceIte, bt_do, bd_do, jn_eq, bI_z, gd_nI, gd_0, gd_1, nI_clamp, nI_add, nI_1, pk_mul, Nat.add_zero, Nat.zero_add, ile_t, ile_f, ilt_t, ilt_f, ieq_t, ieq_f, iz_t, iz_f, ilt0, ige0, im1, Bool.false_eq_true, Bool.true_eq_false, if_true, if_false]
  · intro q hR
    omega
theorem first_no {v : HS} (n : Nat) (hn : n ≤ 5) (hv : v.2.2.2.2.2.1.1 = nI n) (P : Nat → Bool) (hP : ∀ s, s < 5 → P s = false) : f_X5_first v (nI (mN P 5)) = some (-1) := by
  rw [u_X5_first, jn_eq]
  refine lp_gen (fun i q => q = nI i) (fun X => X = some (-1)) n (by omega) rfl ?_ ?_
  · intro i q hi hR
    subst hR
    left
    refine ⟨nI (i + 1), rfl, fun rec => ?_⟩
    simp (disch := omega) only [ubX5_first_1, hv, isIn_n P (show i < 5 by omega), hP i (by omega), ↓reduceIte, bt_do, bd_do, jn_eq, bI_z, gd_nI, gd_0, gd_1, nI_clamp, nI_add, nI_1, pk_mul, Nat.add_zero, Nat.zero_add, ile_t, ile_f, ilt_t, ilt_f, ieq_t, ieq_f, iz_t, iz_f, ilt0, ige0, im1, Bool.false_eq_true, Bool.true_eq_false, if_true, if_false]
  · intro q hR
    subst hR
    refine ⟨_, rfl, fun rec => ?_⟩
    simp (disch := omega) only [ubX5_first_1, hv, ↓reduceIte, bt_do, bd_do, jn_eq, bI_z, gd_nI, gd_0, gd_1, nI_clamp, nI_add, nI_1, pk_mul, Nat.add_zero, Nat.zero_add, ile_t, ile_f, ilt_t, ilt_f, ieq_t, ieq_f, iz_t, iz_f, ilt0, ige0, im1, Bool.false_eq_true, Bool.true_eq_false, if_true, if_false]
/-! sets of the house -/
theorem up_out {A : AH} {n : Nat} (hA : AI n A) : ∀ s, nS A ≤ s → (aUp A s == 1) = false := by
  intro s hs
  have := hA.2.2.2.2.2.2.2.2.2.1 s hs
  simp [this]
theorem good_out {A : AH} {n : Nat} (hA : AI n A) (c : Nat) : ∀ s, nS A ≤ s → aGood A c s = false := by
  intro s hs
  unfold aGood
  cases h : aCp A c s with
  | none => rfl
  | some q =>
    have := (hA.2.2.2.2.2.2.2.2.2.2.2.2.2 c s q h).2.1
    omega
theorem able_out {A : AH} {n : Nat} (hA : AI n A) (c : Nat) : ∀ s, nS A ≤ s → aAble A c s = false := by
  intro s hs
  unfold aAble
  rw [good_out hA c s hs]
  rfl
theorem stale_out {A : AH} {n : Nat} (hA : AI n A) (c : Nat) : ∀ s, nS A ≤ s → aStale A c s = false := by
  intro s hs
  unfold aStale
  cases h : aCp A c s with
  | none => rfl
  | some q =>
    have := (hA.2.2.2.2.2.2.2.2.2.2.2.2.2 c s q h).2.1
    omega
def aUpB (A : AH) (s : Nat) : Bool := aUp A s == 1
theorem ups_c5 {A : AH} {v : HS} {n : Nat} (h : RC A v) (hA : AI n A) : v.2.2.2.2.2.1.2.1 = nI (mN (aUpB A) 5) := upBits_c h.2.1
theorem hasUp_c {A : AH} {x : SV} {n : Nat} (h : RSV A x) (hA : AI n A) {s : Nat} (hs : s < nS A) : f_X8_hasUp x (nI s) = aUpB A s := by
  have h5 := hA.1
  have hb : f_X10_isIn x.2.1 (nI s) = aUpB A s := by
    rw [upBits_c h]
    exact isIn_n (fun s => aUp A s == 1) (by omega)
  unfold f_X8_hasUp
  rw [has_sv h, hasP_of hs (by omega), if_neg (by decide), hb]
  cases aUpB A s <;> rfl
theorem aUpB_1 {A : AH} {s : Nat} (h : aUp A s = 1) : aUpB A s = true := by unfold aUpB; rw [h]; rfl
theorem aUpB_0 {A : AH} {s : Nat} (h : aUp A s = 0) : aUpB A s = false := by unfold aUpB; rw [h]; rfl
theorem ups_m5 {A : AH} {b : Nat → Int64} {n : Nat} (h : RM A b) (hA : AI n A) : f_X11_ups b = some (nI (mN (aUpB A) 5)) := by
  rw [ups_m h hA, mN_ext hA.1 (up_out hA)]
  rfl
theorem good_c5 {A : AH} {v : HS} {n : Nat} (h : RC A v) (hA : AI n A) (hn : n ≤ 8000) {c : Nat} (hc : c < aMade A) : f_X5_good v (nI c) = some (nI (mN (aGood A c) 5)) := by
  rw [good_c h hA hn hc, mN_ext hA.1 (good_out hA c)]
theorem able_c5 {A : AH} {v : HS} {n : Nat} (h : RC A v) (hA : AI n A) (hn : n ≤ 8000) {c : Nat} (hc : c < aMade A) : f_X5_able v (nI c) = some (nI (mN (aAble A c) 5)) := by
  rw [able_c h hA hn hc, mN_ext hA.1 (able_out hA c)]
theorem ables_m5 {A : AH} {b : Nat → Int64} {n : Nat} (h : RM A b) (hA : AI n A) (hn : n ≤ 8000) {c : Nat} (hc : c < aMade A) : f_X11_ables b (nI c) = some (nI (mN (aAble A c) 5)) := by
  rw [ables_m h hA hn hc, mN_ext hA.1 (able_out hA c)]
