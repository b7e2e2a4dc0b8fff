/-! PURE 72: what the class asks: servers, chunks, copies, files -/
def hasP (n : Nat) (p : Int32) : Bool := if p < 0 then false else (if nI n ≤ p then false else true)
theorem hasP_of {n k : Nat} (h : k < n) (hn : n < 2 ^ 31) : hasP n (nI k) = true := by
  unfold hasP
  rw [if_neg (nI_pos (by omega)), if_neg (nI_ge h hn)]
theorem hasP_ex {n : Nat} {p : Int32} (hn : n < 2 ^ 31) (h : hasP n p = true) : ∃ k, k < n ∧ p = nI k := by
  unfold hasP at h
  rcases pk_ix p hn with h1 | h1 | h1
  · rw [if_pos h1] at h; cases h
  · rw [if_pos h1] at h
    split at h <;> cases h
  · exact h1
theorem has_sv {A : AH} {x : SV} (h : RSV A x) (p : Int32) : f_X8_has x p = hasP (nS A) p := by
  unfold f_X8_has hasP
  rw [h.1]
theorem has_ck {A : AH} {x : CK} (h : RCK A x) (p : Int32) : f_X1_has x p = hasP (aMade A) p := by
  unfold f_X1_has hasP
  rw [h.1]
theorem mN_ext {P : Nat → Bool} {n : Nat} (hn : n ≤ 5) (h : ∀ s, n ≤ s → P s = false) : mN P n = mN P 5 := by
  apply Nat.eq_of_testBit_eq
  intro i
  rw [mN_bit, mN_bit]
  by_cases hi : i < n
  · rw [decide_eq_true hi, decide_eq_true (by omega : i < 5)]
  · rw [h i (by omega), Bool.and_false, Bool.and_false]
theorem upBits_c {A : AH} {x : SV} (h : RSV A x) : x.2.1 = nI (mN (fun s => aUp A s == 1) 5) := (h.2 0 (by omega)).2.2
theorem up_none {n : Nat} {A : AH} (hA : AI n A) : ∀ s, nS A ≤ s → (aUp A s == 1) = false := by
  intro s hs
  rw [hA.2.2.2.2.2.2.2.2.2.1 s hs]
  rfl
theorem place_c {s c : Nat} (hs : s < 5) (hc : c < 30) : f_X2_placeOf (nI s) (nI c) = nI (5 * c + s) := by
  unfold f_X2_placeOf
  rw [bt_do, if_neg (nI_pos (by omega)), if_neg (show ¬ (5 : Int32) ≤ nI s from nI_ge (b := 5) hs (by omega)), if_neg (nI_pos (by omega)), if_neg (show ¬ (30 : Int32) ≤ nI c from nI_ge (b := 30) hc (by omega)), if_neg (by decide)]
  show nI c * nI 5 + nI s = _
  rw [pk_mul, nI_add, Nat.mul_comm]
theorem nI_m1 {k : Nat} (h : k < 2 ^ 31) : ¬ nI k = -1 := by
  intro q
  have h1 := nI_pos (n := k) h
  rw [q] at h1
  exact h1 (by decide)
theorem version_c {A : AH} {x : CP} (h : RCP A x) {s c : Nat} (hs : s < 5) (hc : c < 30) : f_X2_versionOf x (nI s) (nI c) = some (match aCp A c s with | none => -1 | some q => nI q.1) := by
  unfold f_X2_versionOf
  rw [place_c hs hc, if_neg (nI_m1 (by omega)), gd_nI (by omega) (by omega), nI_clamp (by omega)]
  have h1 := h c s hc hs
  unfold cpC at h1
  cases hq : aCp A c s with
  | none => rw [hq] at h1; rw [h1]
  | some q => rw [hq] at h1; rw [h1.1]
def aGood (A : AH) (c s : Nat) : Bool := match aCp A c s with
  | none => false
  | some q => q.1 == aVer A c
def aAble (A : AH) (c s : Nat) : Bool := aGood A c s && (aUp A s == 1)
def aStale (A : AH) (c s : Nat) : Bool := (aCp A c s).isSome && !aGood A c s
theorem ver_is {A : AH} {c s : Nat} {n : Nat} (hA : AI n A) (hn : n ≤ 8000) (hc : c < aMade A) : ((match aCp A c s with | none => (-1 : Int32) | some q => nI q.1) = nI (aVer A c)) ↔ aGood A c s = true := by
  obtain ⟨_, _, _, _, _, _, _, _, _, _, _, hv, _, hcp⟩ := hA
  have h1 := (hv c hc).2.1
  unfold aGood
  cases hq : aCp A c s with
  | none =>
    simp only
    constructor
    · intro h; exact absurd h.symm (nI_m1 (by omega))
    · intro h; cases h
  | some q =>
    have h2 := (hcp c s q hq).2.2.1
    simp only [beq_iff_eq]
    exact nI_eq (by omega) (by omega)
theorem good_c {A : AH} {v : HS} {n : Nat} (h : RC A v) (hA : AI n A) (hn : n ≤ 8000) {c : Nat} (hc : c < aMade A) : f_X5_good v (nI c) = some (nI (mN (aGood A c) (nS A))) := by
  have hA0 := hA
  obtain ⟨h5, _, _, _, _, _, h30, _⟩ := hA
  obtain ⟨_, hsv, hck, hcp, _⟩ := h
  unfold f_X5_good
  rw [has_ck hck, hasP_of hc (by omega), if_neg (by decide), gd_nI (by omega) (by omega), jn_eq]
  refine lp_mask (K := fun q1 : Int32 × Int32 => some q1.1) (aGood A c) (nS A) (by omega) (fun rec z => ?_) (fun rec z i hi => ?_)
  · unfold bX5_good_3
    rw [hsv.1]
    exact if_pos (nI_le (Nat.le_refl _) (by omega))
  · unfold bX5_good_3
    dsimp only
    rw [hsv.1, if_neg (nI_ge hi (by omega)), bd_at (version_c hcp (by omega) (by omega)), nI_clamp (by omega), (hck.2 c hc).1]
    have hg := ver_is (s := i) hA0 hn hc
    by_cases hgd : aGood A c i = true
    · rw [if_pos (hg.mpr hgd), hgd]
      rfl
    · rw [if_neg (fun q => hgd (hg.mp q)), if_neg hgd]
theorem able_c {A : AH} {v : HS} {n : Nat} (h : RC A v) (hA : AI n A) (hn : n ≤ 8000) {c : Nat} (hc : c < aMade A) : f_X5_able v (nI c) = some (nI (mN (aAble A c) (nS A))) := by
  unfold f_X5_able
  rw [bd_at (good_c h hA hn hc), upBits_c h.2.1, ← mN_ext hA.1 (up_none hA), nI_and, mN_and]
  rfl
