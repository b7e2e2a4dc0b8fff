/-! PURE 76: good, able, up servers as the model asks -/
theorem cp_ok {A : AH} {n : Nat} (hA : AI n A) (hn : n ≤ 8000) {c s : Nat} {q : CPY} (h : aCp A c s = some q) : q.1 < 8192 ∧ q.2.1 < 16 ∧ (∀ i, q.2.2 i < 32) ∧ c < aMade A ∧ s < nS A := by
  obtain ⟨_, _, h9, _, _, _, _, _, _, _, _, hv, _, hcp⟩ := hA
  have h1 := hcp c s q h
  have h2 := hv c h1.1
  have h3 := h1.2.2
  refine ⟨?_, ?_, okC_32 h3, h1.1, h1.2.1⟩
  · have := h3.1; omega
  · have := h3.2.1; omega
theorem cpM_some (q : CPY) : cpM (some q) = lN (pk q) := rfl
theorem isGood_m {A : AH} {b : Nat → Int64} {n : Nat} (h : RM A b) (hA : AI n A) (hn : n ≤ 8000) {c s : Nat} (hc : c < aMade A) (hs : s < 5) : f_X11_isGood b (nI c) (nI s) = some (aGood A c s) := by
  have h30 : aMade A ≤ 30 := hA.2.2.2.2.2.2.1
  have hv := (hA.2.2.2.2.2.2.2.2.2.2.2.1 c hc)
  unfold f_X11_isGood aGood
  rw [bd_at (copy_m h h30 hs hc)]
  cases hq : aCp A c s with
  | none => exact if_pos rfl
  | some q =>
    have hk := cp_ok hA hn hq
    rw [cpM_some, if_neg (fun e => pk_0 hk.1 hk.2.1 hk.2.2.1 ((cmp0 _ _).mp e)), bd_at (copy_m h h30 hs hc), hq, cpM_some, version_pk hk.1 hk.2.1 hk.2.2.1]
    show gdI ((nI 70 + (nI 4 * nI c)) + nI 0) 340 (if lg_cmp (nI q.1).toInt64 (b ((nI 70 + (nI 4 * nI c)) + nI 0).toNatClampNeg) = 0 then some true else some false) = _
    rw [gd_ix 70 4 c 0 340 (by omega) (by omega), cl_ix 70 4 c 0 (by omega), Nat.add_zero, (h.2.2.2.1 c hc).1, nI_l (by omega)]
    by_cases he : q.1 = aVer A c
    · rw [if_pos ((cmp0 _ _).mpr (by rw [he]))]
      simp [he]
    · rw [if_neg (fun e => he ((lN_eq (by omega) (by omega)).mp ((cmp0 _ _).mp e)))]
      simp [he]
theorem isAble_m {A : AH} {b : Nat → Int64} {n : Nat} (h : RM A b) (hA : AI n A) (hn : n ≤ 8000) {c s : Nat} (hc : c < aMade A) (hs : s < 5) : f_X11_isAble b (nI c) (nI s) = some (aAble A c s) := by
  unfold f_X11_isAble aAble
  rw [bd_at (isUp_m h hs (hA.2.2.2.2.2.2.2.1 s hs).1), if_bI, bd_at (isGood_m h hA hn hc hs), if_bI]
  cases aGood A c s <;> cases (aUp A s == 1) <;> rfl
