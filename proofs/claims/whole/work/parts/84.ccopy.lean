/-! PURE 84: copies as the class changes them -/
theorem setVer_e {x : CP} {s c : Nat} (hs : s < 5) (hc : c < 30) (v : Int32) : f_X2_setVersion x (nI s) (nI c) v = some (upd x.1 (5 * c + s) v, x.2.1, x.2.2) := by
  simp (disch := omega) only [u_X2_setVersion, place_c hs hc, ↓reduceIte, bt_do, bd_do, jn_eq, bI_z, gd_nI, gd_0, gd_1, nI_clamp, nI_add, nI_1, pk_mul, Nat.add_zero, Nat.zero_add, ile_t, ile_f, ilt_t, ilt_f, ieq_t, ieq_f, iz_t, iz_f, ilt0, ige0, im1, Bool.false_eq_true, Bool.true_eq_false, if_true, if_false]
theorem setFil_e {x : CP} {s c : Nat} (hs : s < 5) (hc : c < 30) (v : Int32) : f_X2_setFilled x (nI s) (nI c) v = some (x.1, upd x.2.1 (5 * c + s) v, x.2.2) := by
  simp (disch := omega) only [u_X2_setFilled, place_c hs hc, ↓reduceIte, bt_do, bd_do, jn_eq, bI_z, gd_nI, gd_0, gd_1, nI_clamp, nI_add, nI_1, pk_mul, Nat.add_zero, Nat.zero_add, ile_t, ile_f, ilt_t, ilt_f, ieq_t, ieq_f, iz_t, iz_f, ilt0, ige0, im1, Bool.false_eq_true, Bool.true_eq_false, if_true, if_false]
theorem setCell_e {x : CP} {s c i : Nat} (hs : s < 5) (hc : c < 30) (hi : i < 9) (v : Int32) : f_X2_setCell x (nI s) (nI c) (nI i) v = some (x.1, x.2.1, upd x.2.2 ((5 * c + s) * 9 + i) v) := by
  simp (disch := omega) only [u_X2_setCell, place_c hs hc, ↓reduceIte, bt_do, bd_do, jn_eq, bI_z, gd_nI, gd_0, gd_1, nI_clamp, nI_add, nI_1, pk_mul, Nat.add_zero, Nat.zero_add, ile_t, ile_f, ilt_t, ilt_f, ieq_t, ieq_f, iz_t, iz_f, ilt0, ige0, im1, Bool.false_eq_true, Bool.true_eq_false, if_true, if_false]
theorem cell_e {x : CP} {s c i : Nat} (hs : s < 5) (hc : c < 30) (hi : i < 9) : f_X2_cell x (nI s) (nI c) (nI i) = some (x.2.2 ((5 * c + s) * 9 + i)) := by
  simp (disch := omega) only [u_X2_cell, place_c hs hc, ↓reduceIte, bt_do, bd_do, jn_eq, bI_z, gd_nI, gd_0, gd_1, nI_clamp, nI_add, nI_1, pk_mul, Nat.add_zero, Nat.zero_add, ile_t, ile_f, ilt_t, ilt_f, ieq_t, ieq_f, iz_t, iz_f, ilt0, ige0, im1, Bool.false_eq_true, Bool.true_eq_false, if_true, if_false]
theorem filled_e {x : CP} {s c : Nat} (hs : s < 5) (hc : c < 30) : f_X2_filledOf x (nI s) (nI c) = some (x.2.1 (5 * c + s)) := by
  simp (disch := omega) only [u_X2_filledOf, place_c hs hc, ↓reduceIte, bt_do, bd_do, jn_eq, bI_z, gd_nI, gd_0, gd_1, nI_clamp, nI_add, nI_1, pk_mul, Nat.add_zero, Nat.zero_add, ile_t, ile_f, ilt_t, ilt_f, ieq_t, ieq_f, iz_t, iz_f, ilt0, ige0, im1, Bool.false_eq_true, Bool.true_eq_false, if_true, if_false]
theorem RCP.is {A : AH} {x : CP} (h : RCP A x) {c s : Nat} {q : CPY} (hc : c < 30) (hs : s < 5) (e : aCp A c s = some q) : x.1 (5 * c + s) = nI q.1 ∧ x.2.1 (5 * c + s) = nI q.2.1 ∧ ∀ i, i < 9 → x.2.2 ((5 * c + s) * 9 + i) = cv (q.2.2 i) := by
  have := h c s hc hs
  rw [e] at this
  exact this
theorem setVer_c {A : AH} {x : CP} (h : RCP A x) {s c : Nat} (hs : s < 5) (hc : c < 30) {q : CPY} (hq : aCp A c s = some q) (to : Nat) : ∃ y, f_X2_setVersion x (nI s) (nI c) (nI to) = some y ∧ RCP (setCp A c s (some (to, q.2))) y := by
  refine ⟨_, setVer_e hs hc _, h.set hs ?_ ?_⟩
  · intro p hp hne
    exact ⟨pk_un hne, rfl, fun i hi => rfl⟩
  · have h1 := h.is hc hs hq
    exact ⟨pk_us, h1.2.1, h1.2.2⟩
theorem drop_c {A : AH} {x : CP} (h : RCP A x) {s c : Nat} (hs : s < 5) (hc : c < 30) : ∃ y, f_X2_drop x (nI s) (nI c) = some y ∧ RCP (setCp A c s none) y := by
  refine ⟨_, by rw [u_X2_drop, setVer_e hs hc, bd_do], h.set hs ?_ ?_⟩
  · intro p hp hne
    exact ⟨pk_un hne, rfl, fun i hi => rfl⟩
  · exact pk_us
theorem lay_c {A : AH} {x : CP} (h : RCP A x) {s c : Nat} (hs : s < 5) (hc : c < 30) : ∃ y, f_X2_lay x (nI s) (nI c) = some y ∧ RCP (setCp A c s (some (1, 0, fun _ => 0))) y := by
  rw [u_X2_lay, jn_eq]
  obtain ⟨q, ⟨h1, h2, h3, h4⟩, hX⟩ := lp_rel (b := bX2_lay_1 (nI s) (nI c) (fun q1 : Int32 × CP => bd (f_X2_setFilled q1.2 (nI s) (nI c) (nI 0)) (fun r2 => bd (f_X2_setVersion r2 (nI s) (nI c) (nI 1)) (fun r3 => some r3)))) (fun i (q : Int32 × CP) => q.1 = nI i ∧ q.2.1 = x.1 ∧ q.2.2.1 = x.2.1 ∧ ∀ j, q.2.2.2 j = if (5 * c + s) * 9 ≤ j ∧ j < (5 * c + s) * 9 + i then -1000000 else x.2.2 j) 9 (by omega) (q0 := (nI 0, x)) ⟨rfl, rfl, rfl, fun j => by rw [if_neg (by omega)]⟩ (by
    intro i q hi hR
    obtain ⟨i1, y⟩ := q
    obtain ⟨h1, h2, h3, h4⟩ := hR
    dsimp only at h1 h2 h3 h4
    subst h1
    refine ⟨(nI (i + 1), y.1, y.2.1, upd y.2.2 ((5 * c + s) * 9 + i) (-1000000)), ⟨rfl, h2, h3, fun j => ?_⟩, fun rec => ?_⟩
    · show upd y.2.2 _ _ _ = _
      by_cases e : j = (5 * c + s) * 9 + i
      · subst e
        rw [pk_us, if_pos (by omega)]
      · rw [pk_un e, h4]
        by_cases e2 : (5 * c + s) * 9 ≤ j ∧ j < (5 * c + s) * 9 + i
        · rw [if_pos e2, if_pos (by omega)]
        · rw [if_neg e2, if_neg (by omega)]
    · simp (disch := omega) only [ubX2_lay_1, setCell_e hs hc hi, ↓reduceIte, bt_do, bd_do, jn_eq, bI_z, gd_nI, gd_0, gd_1, nI_clamp, nI_add, nI_1, pk_mul, Nat.add_zero, Nat.zero_add, ile_t, ile_f, ilt_t, ilt_f, ieq_t, ieq_f, iz_t, iz_f, ilt0, ige0, im1, Bool.false_eq_true, Bool.true_eq_false, if_true, if_false])
  obtain ⟨i1, y⟩ := q
  dsimp only at h1 h2 h3 h4
  subst h1
  refine ⟨(upd y.1 (5 * c + s) (nI 1), upd y.2.1 (5 * c + s) (nI 0), y.2.2), ?_, h.set hs ?_ ?_⟩
  · apply hX
    intro rec
    simp (disch := omega) only [ubX2_lay_1, setFil_e hs hc, setVer_e hs hc, ↓reduceIte, bt_do, bd_do, jn_eq, bI_z, gd_nI, gd_0, gd_1, nI_clamp, nI_add, nI_1, pk_mul, Nat.add_zero, Nat.zero_add, ile_t, ile_f, ilt_t, ilt_f, ieq_t, ieq_f, iz_t, iz_f, ilt0, ige0, im1, Bool.false_eq_true, Bool.true_eq_false, if_true, if_false]
  · intro p hp hne
    refine ⟨?_, ?_, fun i hi => ?_⟩
    · show upd y.1 (5 * c + s) (nI 1) p = _
      rw [pk_un hne, h2]
    · show upd y.2.1 (5 * c + s) (nI 0) p = _
      rw [pk_un hne, h3]
    · show y.2.2 (p * 9 + i) = _
      rw [h4, if_neg (by omega)]
  · refine ⟨pk_us, pk_us, fun i hi => ?_⟩
    show y.2.2 ((5 * c + s) * 9 + i) = cv 0
    rw [h4, if_pos (by omega)]
    rfl
theorem layLike_c {A : AH} {x : CP} (h : RCP A x) {s c s0 c0 : Nat} (hs : s < 5) (hc : c < 30) (hs0 : s0 < 5) (hc0 : c0 < 30) (hne : ¬ (c0 = c ∧ s0 = s)) {q0 : CPY} (hq : aCp A c0 s0 = some q0) (v : Nat) : ∃ y, f_X2_layLike x (nI s) (nI c) (nI s0) (nI c0) (nI v) = some y ∧ RCP (setCp A c s (some (v, q0.2))) y := by
  have h0 := h.is hc0 hs0 hq
  rw [u_X2_layLike, jn_eq]
  obtain ⟨q, ⟨h1, h2, h3, h4⟩, hX⟩ := lp_rel (b := bX2_layLike_1 (nI s0) (nI c0) (nI s) (nI c) (fun q1 : Int32 × CP => bd (f_X2_filledOf q1.2 (nI s0) (nI c0)) (fun r2 => bd (f_X2_setFilled q1.2 (nI s) (nI c) r2) (fun r3 => bd (f_X2_setVersion r3 (nI s) (nI c) (nI v)) (fun r4 => some r4))))) (fun i (q : Int32 × CP) => q.1 = nI i ∧ q.2.1 = x.1 ∧ q.2.2.1 = x.2.1 ∧ ∀ j, q.2.2.2 j = if (5 * c + s) * 9 ≤ j ∧ j < (5 * c + s) * 9 + i then x.2.2 ((5 * c0 + s0) * 9 + (j - (5 * c + s) * 9)) else x.2.2 j) 9 (by omega) (q0 := (nI 0, x)) ⟨rfl, rfl, rfl, fun j => by rw [if_neg (by omega)]⟩ (by
    intro i q hi hR
    obtain ⟨i1, y⟩ := q
    obtain ⟨h1, h2, h3, h4⟩ := hR
    dsimp only at h1 h2 h3 h4
    subst h1
    refine ⟨(nI (i + 1), y.1, y.2.1, upd y.2.2 ((5 * c + s) * 9 + i) (y.2.2 ((5 * c0 + s0) * 9 + i))), ⟨rfl, h2, h3, fun j => ?_⟩, fun rec => ?_⟩
    · by_cases e : j = (5 * c + s) * 9 + i
      · subst e
        rw [if_pos (by omega)]
        show upd y.2.2 _ _ _ = _
        rw [pk_us, h4, if_neg (by omega), Nat.add_sub_cancel_left]
      · show upd y.2.2 _ _ _ = _
        rw [pk_un e, h4]
        by_cases e2 : (5 * c + s) * 9 ≤ j ∧ j < (5 * c + s) * 9 + i
        · rw [if_pos e2, if_pos (by omega)]
        · rw [if_neg e2, if_neg (by omega)]
    · simp (disch := omega) only [ubX2_layLike_1, setCell_e hs hc hi, cell_e hs0 hc0 hi, ↓reduceIte, bt_do, bd_do, jn_eq, bI_z, gd_nI, gd_0, gd_1, nI_clamp, nI_add, nI_1, pk_mul, Nat.add_zero, Nat.zero_add, ile_t, ile_f, ilt_t, ilt_f, ieq_t, ieq_f, iz_t, iz_f, ilt0, ige0, im1, Bool.false_eq_true, Bool.true_eq_false, if_true, if_false])
  obtain ⟨i1, y⟩ := q
  dsimp only at h1 h2 h3 h4
  subst h1
  refine ⟨(upd y.1 (5 * c + s) (nI v), upd y.2.1 (5 * c + s) (y.2.1 (5 * c0 + s0)), y.2.2), ?_, h.set hs ?_ ?_⟩
  · apply hX
    intro rec
    simp (disch := omega) only [ubX2_layLike_1, filled_e hs0 hc0, setFil_e hs hc, setVer_e hs hc, ↓reduceIte, bt_do, bd_do, jn_eq, bI_z, gd_nI, gd_0, gd_1, nI_clamp, nI_add, nI_1, pk_mul, Nat.add_zero, Nat.zero_add, ile_t, ile_f, ilt_t, ilt_f, ieq_t, ieq_f, iz_t, iz_f, ilt0, ige0, im1, Bool.false_eq_true, Bool.true_eq_false, if_true, if_false]
  · intro p hp hne
    refine ⟨?_, ?_, fun i hi => ?_⟩
    · show upd y.1 (5 * c + s) (nI v) p = _
      rw [pk_un hne, h2]
    · show upd y.2.1 (5 * c + s) _ p = _
      rw [pk_un hne, h3]
    · show y.2.2 (p * 9 + i) = _
      rw [h4, if_neg (by omega)]
  · refine ⟨pk_us, ?_, fun i hi => ?_⟩
    · show upd y.2.1 (5 * c + s) (y.2.1 (5 * c0 + s0)) (5 * c + s) = nI q0.2.1
      rw [pk_us, h3, h0.2.1]
    · show y.2.2 ((5 * c + s) * 9 + i) = cv (q0.2.2 i)
      rw [h4, if_pos (by omega), Nat.add_sub_cancel_left, h0.2.2 i hi]
/-- a record written into cells -/
def wrC (ce : Nat → Nat) (fr k : Nat) (L : Nat → Nat) (i : Nat) : Nat := if fr ≤ i ∧ i < fr + k then L (i - fr) else ce i
theorem write_c {A : AH} {x : CP} (h : RCP A x) {s c fr k n4 : Nat} {v4 : Nat → Int32} {L : Nat → Nat} (hs : s < 5) (hc : c < 30) (hk : fr + k ≤ 9) (h4k : k ≤ n4) (hn4 : n4 < 100) (hL : ∀ j, j < k → v4 j = cv (L j)) {q : CPY} (hq : aCp A c s = some q) : ∃ y, f_X2_write x (nI s) (nI c) (nI fr) n4 v4 (nI k) = some y ∧ RCP (setCp A c s (some (q.1, fr + k, wrC q.2.2 fr k L))) y := by
  have h0 := h.is hc hs hq
  rw [u_X2_write, jn_eq]
  obtain ⟨z, ⟨h1, h2, h3, h4⟩, hX⟩ := lp_rel (b := bX2_write_1 (nI k) n4 (nI s) (nI c) (nI fr) v4 (fun q1 : Int32 × CP => bd (f_X2_setFilled q1.2 (nI s) (nI c) (nI fr + nI k)) (fun r2 => some r2))) (fun i (z : Int32 × CP) => z.1 = nI i ∧ z.2.1 = x.1 ∧ z.2.2.1 = x.2.1 ∧ ∀ j, z.2.2.2 j = if (5 * c + s) * 9 + fr ≤ j ∧ j < (5 * c + s) * 9 + fr + i then v4 (j - ((5 * c + s) * 9 + fr)) else x.2.2 j) k (by omega) (q0 := (nI 0, x)) ⟨rfl, rfl, rfl, fun j => by rw [if_neg (by omega)]⟩ (by
    intro i z hi hR
    obtain ⟨i1, y⟩ := z
    obtain ⟨h1, h2, h3, h4⟩ := hR
    dsimp only at h1 h2 h3 h4
    subst h1
    refine ⟨(nI (i + 1), y.1, y.2.1, upd y.2.2 ((5 * c + s) * 9 + (fr + i)) (v4 i)), ⟨rfl, h2, h3, fun j => ?_⟩, fun rec => ?_⟩
    · by_cases e : j = (5 * c + s) * 9 + (fr + i)
      · subst e
        rw [if_pos (by omega)]
        show upd y.2.2 _ _ _ = _
        rw [pk_us]
        congr 1
        omega
      · show upd y.2.2 _ _ _ = _
        rw [pk_un e, h4]
        by_cases e2 : (5 * c + s) * 9 + fr ≤ j ∧ j < (5 * c + s) * 9 + fr + i
        · rw [if_pos e2, if_pos (by omega)]
        · rw [if_neg e2, if_neg (by omega)]
    · simp (disch := omega) only [ubX2_write_1, setCell_e hs hc (show fr + i < 9 by omega), ↓reduceIte, bt_do, bd_do, jn_eq, bI_z, gd_nI, gd_0, gd_1, nI_clamp, nI_add, nI_1, pk_mul, Nat.add_zero, Nat.zero_add, ile_t, ile_f, ilt_t, ilt_f, ieq_t, ieq_f, iz_t, iz_f, ilt0, ige0, im1, Bool.false_eq_true, Bool.true_eq_false, if_true, if_false])
  obtain ⟨i1, y⟩ := z
  dsimp only at h1 h2 h3 h4
  subst h1
  refine ⟨(y.1, upd y.2.1 (5 * c + s) (nI (fr + k)), y.2.2), ?_, h.set hs ?_ ?_⟩
  · apply hX
    intro rec
    simp (disch := omega) only [ubX2_write_1, setFil_e hs hc, ↓reduceIte, bt_do, bd_do, jn_eq, bI_z, gd_nI, gd_0, gd_1, nI_clamp, nI_add, nI_1, pk_mul, Nat.add_zero, Nat.zero_add, ile_t, ile_f, ilt_t, ilt_f, ieq_t, ieq_f, iz_t, iz_f, ilt0, ige0, im1, Bool.false_eq_true, Bool.true_eq_false, if_true, if_false]
  · intro p hp hne
    refine ⟨?_, ?_, fun i hi => ?_⟩
    · show y.1 p = _
      rw [h2]
    · show upd y.2.1 (5 * c + s) _ p = _
      rw [pk_un hne, h3]
    · show y.2.2 (p * 9 + i) = _
      rw [h4, if_neg (by omega)]
  · refine ⟨?_, pk_us, fun i hi => ?_⟩
    · show y.1 (5 * c + s) = nI q.1
      rw [h2, h0.1]
    · show y.2.2 ((5 * c + s) * 9 + i) = cv (wrC q.2.2 fr k L i)
      rw [h4]
      unfold wrC
      by_cases e : fr ≤ i ∧ i < fr + k
      · rw [if_pos (by omega), if_pos e, ← hL (i - fr) (by omega)]
        congr 1
        omega
      · rw [if_neg (by omega), if_neg e, h0.2.2 i hi]
/-- empty cells from there on become pads -/
def pdC (ce : Nat → Nat) (fr size i : Nat) : Nat := if fr ≤ i ∧ i < size ∧ ce i = 0 then 27 else ce i
theorem cv_e {x : Nat} (h : x ≤ 27) : cv x = -1000000 ↔ x = 0 := by
  revert x
  have : ∀ x, x < 28 → (cv x = -1000000 ↔ x = 0) := by decide +kernel
  intro x h
  exact this x (by omega)
theorem pad_c {A : AH} {x : CP} (h : RCP A x) {s c fr size : Nat} (hs : s < 5) (hc : c < 30) (hf : fr ≤ size) (hz : size ≤ 9) {q : CPY} (hq : aCp A c s = some q) (hq27 : ∀ i, q.2.2 i ≤ 27) : ∃ y, f_X2_pad x (nI s) (nI c) (nI fr) (nI size) = some y ∧ RCP (setCp A c s (some (q.1, size, pdC q.2.2 fr size))) y := by
  have h0 := h.is hc hs hq
  rw [u_X2_pad, jn_eq]
  obtain ⟨z, ⟨h1, h2, h3, h4⟩, hX⟩ := lp_rel (b := bX2_pad_1 (nI size) (nI s) (nI c) (fun q1 : Int32 × CP => bd (f_X2_setFilled q1.2 (nI s) (nI c) (nI size)) (fun r2 => some r2))) (fun i (z : Int32 × CP) => z.1 = nI (fr + i) ∧ z.2.1 = x.1 ∧ z.2.2.1 = x.2.1 ∧ ∀ j, z.2.2.2 j = if (5 * c + s) * 9 + fr ≤ j ∧ j < (5 * c + s) * 9 + fr + i ∧ x.2.2 j = -1000000 then 0 else x.2.2 j) (size - fr) (by omega) (q0 := (nI fr, x)) ⟨rfl, rfl, rfl, fun j => by rw [if_neg (by omega)]⟩ (by
    intro i z hi hR
    obtain ⟨i1, y⟩ := z
    obtain ⟨h1, h2, h3, h4⟩ := hR
    dsimp only at h1 h2 h3 h4
    subst h1
    have hv : y.2.2 ((5 * c + s) * 9 + (fr + i)) = x.2.2 ((5 * c + s) * 9 + (fr + i)) := by rw [h4, if_neg (by omega)]
    by_cases hx : x.2.2 ((5 * c + s) * 9 + (fr + i)) = -1000000
    · refine ⟨(nI (fr + (i + 1)), y.1, y.2.1, upd y.2.2 ((5 * c + s) * 9 + (fr + i)) (nI 0)), ⟨rfl, h2, h3, fun j => ?_⟩, fun rec => ?_⟩
      · show upd y.2.2 _ _ _ = _
        by_cases e : j = (5 * c + s) * 9 + (fr + i)
        · subst e
          rw [pk_us, if_pos ⟨by omega, by omega, hx⟩]
          rfl
        · rw [pk_un e, h4]
          by_cases e2 : (5 * c + s) * 9 + fr ≤ j ∧ j < (5 * c + s) * 9 + fr + i ∧ x.2.2 j = -1000000
          · rw [if_pos e2, if_pos ⟨e2.1, by omega, e2.2.2⟩]
          · rw [if_neg e2, if_neg (fun k => e2 ⟨k.1, by omega, k.2.2⟩)]
      · simp (disch := omega) only [ubX2_pad_1, cell_e hs hc (show fr + i < 9 by omega), setCell_e hs hc (show fr + i < 9 by omega), hv, hx, ↓reduceIte, bt_do, bd_do, jn_eq, bI_z, gd_nI, gd_0, gd_1, nI_clamp, nI_add, nI_1, pk_mul, Nat.add_zero, Nat.zero_add, ile_t, ile_f, ilt_t, ilt_f, ieq_t, ieq_f, iz_t, iz_f, ilt0, ige0, im1, Bool.false_eq_true, Bool.true_eq_false, if_true, if_false]
        rfl
    · refine ⟨(nI (fr + (i + 1)), y), ⟨rfl, h2, h3, fun j => ?_⟩, fun rec => ?_⟩
      · show y.2.2 j = _
        rw [h4]
        by_cases e : j = (5 * c + s) * 9 + (fr + i)
        · subst e
          rw [if_neg (fun k => hx k.2.2), if_neg (fun k => hx k.2.2)]
        · by_cases e2 : (5 * c + s) * 9 + fr ≤ j ∧ j < (5 * c + s) * 9 + fr + i ∧ x.2.2 j = -1000000
          · rw [if_pos e2, if_pos ⟨e2.1, by omega, e2.2.2⟩]
          · rw [if_neg e2, if_neg (fun k => e2 ⟨k.1, by omega, k.2.2⟩)]
      · simp (disch := omega) only [ubX2_pad_1, cell_e hs hc (show fr + i < 9 by omega), hv, hx, ↓reduceIte, bt_do, bd_do, jn_eq, bI_z, gd_nI, gd_0, gd_1, nI_clamp, nI_add, nI_1, pk_mul, Nat.add_zero, Nat.zero_add, ile_t, ile_f, ilt_t, ilt_f, ieq_t, ieq_f, iz_t, iz_f, ilt0, ige0, im1, Bool.false_eq_true, Bool.true_eq_false, if_true, if_false]
        rfl)
  obtain ⟨i1, y⟩ := z
  dsimp only at h1 h2 h3 h4
  rw [show fr + (size - fr) = size by omega] at h1
  subst h1
  refine ⟨(y.1, upd y.2.1 (5 * c + s) (nI size), y.2.2), ?_, h.set hs ?_ ?_⟩
  · apply hX
    intro rec
    simp (disch := omega) only [ubX2_pad_1, setFil_e hs hc, ↓reduceIte, bt_do, bd_do, jn_eq, bI_z, gd_nI, gd_0, gd_1, nI_clamp, nI_add, nI_1, pk_mul, Nat.add_zero, Nat.zero_add, ile_t, ile_f, ilt_t, ilt_f, ieq_t, ieq_f, iz_t, iz_f, ilt0, ige0, im1, Bool.false_eq_true, Bool.true_eq_false, if_true, if_false]
  · intro p hp hne
    refine ⟨?_, ?_, fun i hi => ?_⟩
    · show y.1 p = _
      rw [h2]
    · show upd y.2.1 (5 * c + s) _ p = _
      rw [pk_un hne, h3]
    · show y.2.2 (p * 9 + i) = _
      rw [h4, if_neg (by omega)]
  · refine ⟨?_, pk_us, fun i hi => ?_⟩
    · show y.1 (5 * c + s) = nI q.1
      rw [h2, h0.1]
    · show y.2.2 ((5 * c + s) * 9 + i) = cv (pdC q.2.2 fr size i)
      rw [h4, h0.2.2 i hi]
      unfold pdC
      have hz := cv_e (hq27 i)
      by_cases e : fr ≤ i ∧ i < size ∧ q.2.2 i = 0
      · rw [if_pos ⟨by omega, by omega, hz.mpr e.2.2⟩, if_pos e]
        rfl
      · rw [if_neg (fun k => e ⟨by omega, by omega, hz.mp k.2.2⟩), if_neg e]
/-- a cell told anew -/
theorem tell_c {A : AH} {x : CP} (h : RCP A x) {s c i : Nat} (hs : s < 5) (hc : c < 30) (hi : i < 9) {w : Int32} {l : Nat} (hl : w = cv l) {q : CPY} (hq : aCp A c s = some q) (hf : q.2.1 ≤ 9) : ∃ y z, f_X2_setCell x (nI s) (nI c) (nI i) w = some y ∧ f_X2_filledOf y (nI s) (nI c) = some (nI q.2.1) ∧ f_X2_setFilled y (nI s) (nI c) (if nI q.2.1 < nI i + nI 1 then nI i + nI 1 else nI q.2.1) = some z ∧ RCP (setCp A c s (some (q.1, max q.2.1 (i + 1), upO q.2.2 i l))) z := by
  have h0 := h.is hc hs hq
  refine ⟨_, _, setCell_e hs hc hi w, ?_, setFil_e hs hc _, h.set hs ?_ ?_⟩
  · rw [filled_e hs hc]
    exact congrArg some h0.2.1
  · intro p hp hne
    exact ⟨rfl, pk_un hne, fun j hj => pk_un (by omega)⟩
  · refine ⟨h0.1, ?_, fun j hj => ?_⟩
    · show upd x.2.1 _ _ (5 * c + s) = _
      rw [pk_us, nI_add]
      by_cases e : q.2.1 < i + 1
      · rw [if_pos (nI_lt e (by omega))]
        congr 1
        show i + 1 = max q.2.1 (i + 1)
        omega
      · rw [if_neg (nI_nlt (by omega) (by omega))]
        congr 1
        show q.2.1 = max q.2.1 (i + 1)
        omega
    · show upd x.2.2 _ w _ = cv (upO q.2.2 i l j)
      by_cases e : j = i
      · subst e
        rw [pk_us, up_s, hl]
      · rw [pk_un (by omega), up_n e, h0.2.2 j hj]
