/-! PURE 73: what the model asks -/
theorem ix3 (a m k d : Nat) : (nI a + (nI m * nI k)) + nI d = nI (a + m * k + d) := by
  rw [pk_mul, nI_add, nI_add]
theorem gd_ix {α : Type} (a m k d N : Nat) {K : Option α} (h : a + m * k + d < N) (hN : N < 2 ^ 31) : gdI ((nI a + (nI m * nI k)) + nI d) N K = K := by
  rw [ix3]
  exact gd_nI h hN
theorem cl_ix (a m k d : Nat) (h : a + m * k + d < 2 ^ 31) : ((nI a + (nI m * nI k)) + nI d).toNatClampNeg = a + m * k + d := by
  rw [ix3]
  exact nI_clamp h
theorem cmp0 (x y : Int64) : lg_cmp x y = 0 ↔ x = y := by
  unfold lg_cmp
  by_cases h : x > y
  · rw [if_pos h]
    constructor
    · intro q; exact absurd q (by decide)
    · intro q
      subst q
      exact absurd h (by simp [Int64.lt_iff_toInt_lt])
  · rw [if_neg h]
    by_cases h2 : x = y
    · rw [if_pos h2]; exact ⟨fun _ => h2, fun _ => rfl⟩
    · rw [if_neg h2]
      exact ⟨fun q => absurd q (by decide), fun q => absurd q h2⟩
theorem isUp_m {A : AH} {b : Nat → Int64} (h : RM A b) {s : Nat} (hs : s < 5) (hu : aUp A s ≤ 1) : f_X11_isUp b (nI s) = some (aUp A s == 1) := by
  unfold f_X11_isUp
  show gdI ((nI 7 + (nI 3 * nI s)) + nI 0) 340 _ = _
  rw [gd_ix 7 3 s 0 340 (by omega) (by omega)]
  show (if lg_cmp (b ((nI 7 + (nI 3 * nI s)) + nI 0).toNatClampNeg) 1 = 0 then some true else some false) = _
  rw [cl_ix 7 3 s 0 (by omega), Nat.add_zero, (h.2.1 s hs).1]
  by_cases hu1 : aUp A s = 1
  · rw [hu1, if_pos (show lg_cmp (lN 1) 1 = 0 from rfl)]
    rfl
  · have h0 : aUp A s = 0 := by omega
    rw [h0, if_neg (fun q => absurd ((cmp0 _ _).mp q) (by decide))]
    rfl
theorem copy_m {A : AH} {b : Nat → Int64} (h : RM A b) (hm : aMade A ≤ 30) {s c : Nat} (hs : s < 5) (hc : c < aMade A) : f_X11_copy b (nI c) (nI s) = some (cpM (aCp A c s)) := by
  unfold f_X11_copy
  show gdI ((nI 190 + (nI 5 * nI c)) + nI s) 340 (some (b ((nI 190 + (nI 5 * nI c)) + nI s).toNatClampNeg)) = _
  rw [gd_ix 190 5 c s 340 (by omega) (by omega), cl_ix 190 5 c s (by omega), h.2.2.2.2 c s hc hs]
