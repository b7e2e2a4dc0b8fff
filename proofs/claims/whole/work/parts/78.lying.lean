/-! PURE 78: how many copies lie on a server -/
def aLie (A : AH) (s c : Nat) : Bool := (aCp A c s).isSome
theorem lying_m {A : AH} {b : Nat → Int64} {n : Nat} (h : RM A b) (hA : AI n A) (hn : n ≤ 8000) {s : Nat} (hs : s < 5) : f_X11_lying b (nI s) = some (nI (cN (aLie A s) (aMade A))) := by
  have h30 : aMade A ≤ 30 := hA.2.2.2.2.2.2.1
  have hb : b (6 : Int32).toNatClampNeg = lN (aMade A) := h.1 6 (by omega)
  unfold f_X11_lying
  rw [jn_eq]
  refine lp_cnt (K := fun q1 : Int32 × Int32 => some q1.1) (aLie A s) (aMade A) (by omega) (fun rec z => ?_) (fun rec z i hi => ?_)
  · unfold bX11_lying_1
    dsimp only
    rw [gd_at (x := (6 : Int32)) (n := 340) 6 rfl (by omega) (by omega), hb, nI_l (by omega)]
    exact if_pos ((cmpN_ge (by omega) (by omega)).mpr (Nat.le_refl _))
  · unfold bX11_lying_1
    dsimp only
    rw [gd_at (x := (6 : Int32)) (n := 340) 6 rfl (by omega) (by omega), hb, nI_l (by omega), if_neg (fun q => absurd ((cmpN_ge (by omega) (by omega)).mp q) (by omega)), bd_at (copy_m h h30 hs hi)]
    unfold aLie
    cases hq : aCp A i s with
    | none => rfl
    | some q =>
      have hk := cp_ok hA hn hq
      rw [cpM_some, if_neg (fun e => pk_0 hk.1 hk.2.1 hk.2.2.1 ((cmp0 _ _).mp e))]
      rfl
