/-! PURE 77: sets of servers as the model gathers them -/
theorem cmpN_ge {a b : Nat} (ha : a < 2 ^ 31) (hb : b < 2 ^ 31) : 0 ≤ lg_cmp (lN a) (lN b) ↔ b ≤ a := by
  unfold lg_cmp
  by_cases h : lN a > lN b
  · rw [if_pos h]
    have := (lN_lt hb ha).mp h
    exact ⟨fun _ => by omega, fun _ => by decide⟩
  · rw [if_neg h]
    have h1 : ¬ b < a := fun q => h ((lN_lt hb ha).mpr q)
    by_cases h2 : lN a = lN b
    · rw [if_pos h2]
      have := (lN_eq ha hb).mp h2
      exact ⟨fun _ => by omega, fun _ => by decide⟩
    · rw [if_neg h2]
      have h3 : ¬ a = b := fun q => h2 ((lN_eq ha hb).mpr q)
      exact ⟨fun q => absurd q (by decide), fun q => by omega⟩
theorem ups_m {A : AH} {b : Nat → Int64} {n : Nat} (h : RM A b) (hA : AI n A) : f_X11_ups b = some (nI (mN (fun s => aUp A s == 1) (nS A))) := by
  have h5 : nS A ≤ 5 := hA.1
  have hb : b (0 : Int32).toNatClampNeg = lN (nS A) := h.1 0 (by omega)
  unfold f_X11_ups
  rw [jn_eq]
  refine lp_mask (K := fun q1 : Int32 × Int32 => some q1.1) (fun s => aUp A s == 1) (nS A) (by omega) (fun rec z => ?_) (fun rec z i hi => ?_)
  · unfold bX11_ups_1
    dsimp only
    rw [gd_at (x := (0 : Int32)) (n := 340) 0 rfl (by omega) (by omega), hb, nI_l (by omega)]
    exact if_pos ((cmpN_ge (by omega) (by omega)).mpr (Nat.le_refl _))
  · unfold bX11_ups_1
    dsimp only
    rw [gd_at (x := (0 : Int32)) (n := 340) 0 rfl (by omega) (by omega), hb, nI_l (by omega), if_neg (fun q => absurd ((cmpN_ge (by omega) (by omega)).mp q) (by omega)), bd_at (isUp_m h (by omega) (hA.2.2.2.2.2.2.2.1 i (by omega)).1), if_bI]
    cases (aUp A i == 1) <;> rfl
theorem ables_m {A : AH} {b : Nat → Int64} {n : Nat} (h : RM A b) (hA : AI n A) (hn : n ≤ 8000) {c : Nat} (hc : c < aMade A) : f_X11_ables b (nI c) = some (nI (mN (aAble A c) (nS A))) := by
  have h5 : nS A ≤ 5 := hA.1
  have hb : b (0 : Int32).toNatClampNeg = lN (nS A) := h.1 0 (by omega)
  unfold f_X11_ables
  rw [jn_eq]
  refine lp_mask (K := fun q1 : Int32 × Int32 => some q1.1) (aAble A c) (nS A) (by omega) (fun rec z => ?_) (fun rec z i hi => ?_)
  · unfold bX11_ables_1
    dsimp only
    rw [gd_at (x := (0 : Int32)) (n := 340) 0 rfl (by omega) (by omega), hb, nI_l (by omega)]
    exact if_pos ((cmpN_ge (by omega) (by omega)).mpr (Nat.le_refl _))
  · unfold bX11_ables_1
    dsimp only
    rw [gd_at (x := (0 : Int32)) (n := 340) 0 rfl (by omega) (by omega), hb, nI_l (by omega), if_neg (fun q => absurd ((cmpN_ge (by omega) (by omega)).mp q) (by omega)), bd_at (isAble_m h hA hn hc (by omega)), if_bI]
    cases aAble A c i <;> rfl
