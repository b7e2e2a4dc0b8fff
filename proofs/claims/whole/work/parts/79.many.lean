/-! PURE 79: how many copies lie on a server: the class -/
theorem cN_more {P : Nat → Bool} {m : Nat} (d : Nat) (h : ∀ c, m ≤ c → P c = false) : cN P (m + d) = cN P m := by
  induction d with
  | zero => rfl
  | succ d ih =>
    show cN P (m + d) + (if P (m + d) = true then 1 else 0) = _
    rw [ih, h (m + d) (by omega)]
    rfl
theorem manyAt_c {A : AH} {x : CP} {n : Nat} (h : RCP A x) (hA : AI n A) (hn : n ≤ 8000) {s : Nat} (hs : s < 5) : f_X2_manyAt x (nI s) = some (nI (cN (aLie A s) (aMade A))) := by
  have h30 : aMade A ≤ 30 := hA.2.2.2.2.2.2.1
  have hm : cN (aLie A s) 30 = cN (aLie A s) (aMade A) := by
    have e := cN_more (P := aLie A s) (m := aMade A) (30 - aMade A) (fun c hc => by
      unfold aLie
      cases hq : aCp A c s with
      | none => rfl
      | some q =>
        have hk := (cp_ok hA hn hq).2.2.2.1
        omega)
    rw [show aMade A + (30 - aMade A) = 30 by omega] at e
    exact e
  unfold f_X2_manyAt
  rw [if_neg (nI_pos (by omega)), if_pos (show nI s < (5 : Int32) from (nI_ltI (b := 5) (by omega) (by omega)).mpr hs), jn_eq, ← hm]
  refine lp_cnt (K := fun q1 : Int32 × Int32 => some q1.1) (aLie A s) 30 (by omega) (fun rec z => ?_) (fun rec z i hi => ?_)
  · unfold bX2_manyAt_3
    exact if_pos (show nI 30 ≤ nI 30 from nI_le (Nat.le_refl _) (by omega))
  · unfold bX2_manyAt_3
    dsimp only
    have e : nI i * 5 + nI s = nI (5 * i + s) := by
      show nI i * nI 5 + nI s = _
      rw [pk_mul, nI_add, Nat.mul_comm]
    rw [if_neg (show ¬ (30 : Int32) ≤ nI i from nI_ge (b := 30) hi (by omega)), e, gd_nI (by omega) (by omega), nI_clamp (by omega)]
    have h1 := h i s hi hs
    unfold cpC at h1
    unfold aLie
    cases hq : aCp A i s with
    | none =>
      rw [hq] at h1
      rw [if_pos h1]
      rfl
    | some q =>
      rw [hq] at h1
      have hk := cp_ok hA hn hq
      rw [h1.1, if_neg (nI_m1 (by omega))]
      rfl
