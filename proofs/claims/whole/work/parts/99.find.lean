/-! PURE 99: cells counted by the model; records found; what is left; strength -/
theorem sN_5 (g : Nat → Nat → Nat) (m : Nat) : sN (fun k => g (k / 5) (k % 5)) (5 * m) = sN (fun c => sN (g c) 5) m := by
  induction m with
  | zero => rfl
  | succ m ih =>
    rw [show 5 * (m + 1) = 5 * m + 1 + 1 + 1 + 1 + 1 by omega, sN, sN, sN, sN, sN, ih]
    rw [show (5 * m) / 5 = m by omega, show (5 * m) % 5 = 0 by omega, show (5 * m + 1) / 5 = m by omega, show (5 * m + 1) % 5 = 1 by omega, show (5 * m + 1 + 1) / 5 = m by omega, show (5 * m + 1 + 1) % 5 = 2 by omega, show (5 * m + 1 + 1 + 1) / 5 = m by omega, show (5 * m + 1 + 1 + 1) % 5 = 3 by omega, show (5 * m + 1 + 1 + 1 + 1) / 5 = m by omega, show (5 * m + 1 + 1 + 1 + 1) % 5 = 4 by omega]
    simp only [sN]
    omega
theorem cells_m {A : AH} {md : MD} {n : Nat} (h : RM A md.1) (hA : AI n A) (hn : n ≤ 8000) (pads : Bool) : f_X11_cells md (nI (if pads = true then 1 else 0)) = some (nI (sN (ceC A pads) (aMade A))) := by
  have h5 : nS A ≤ 5 := hA.1
  have h9 : aSize A ≤ 9 := hA.2.2.1
  have h30 : aMade A ≤ 30 := hA.2.2.2.2.2.2.1
  have h6 : md.1 6 = lN (aMade A) := h.1 6 (by omega)
  have h2 : md.1 2 = lN (aSize A) := h.1 2 (by omega)
  have e0 : sN (ceC A pads) (aMade A) = sN (fun k => ceN A pads (k / 5) (k % 5)) (5 * aMade A) := (sN_5 (ceN A pads) (aMade A)).symm
  rw [e0, u_X11_cells, jn_eq]
  generalize hp : (if pads = true then 1 else 0) = pz
  refine lp_gen (fun k q => q = (nI (sN (fun k => ceN A pads (k / 5) (k % 5)) k), nI k)) (fun X => X = some (nI (sN (fun k => ceN A pads (k / 5) (k % 5)) (5 * aMade A)))) (5 * aMade A) (by omega) rfl ?_ ?_
  · rintro k q hk rfl
    left
    refine ⟨_, rfl, fun rec => ?_⟩
    have hdiv := pk_div (a := k) (d := 5) (by omega) (by omega) (by omega)
    have hrem := pk_rem (a := k) (d := 5) (by omega) (by omega) (by omega)
    have hc : k / 5 < aMade A := by omega
    have hs : k % 5 < 5 := by omega
    have hgd := isGood_m h hA hn hc hs
    rw [sN]
    generalize sN (fun k => ceN A pads (k / 5) (k % 5)) k = acc
    have hin : lpF (bX11_cells_4 md (nI acc, nI k) (nI pz) (fun q4 : Int32 × Int32 => rec (q4.1, nI (k + 1)))) FU (nI acc, nI 0) = rec (nI (acc + ceN A pads (k / 5) (k % 5)), nI (k + 1)) := by
      by_cases e : aGood A (k / 5) (k % 5) = true
      · obtain ⟨q, hq, _⟩ := good_cp e
        have hok := hA.2.2.2.2.2.2.2.2.2.2.2.2.2 _ _ q hq
        have hk0 := cp_ok hA hn hq
        have hcp := copy_m h h30 hs hc
        rw [hq, cpM_some] at hcp
        rw [e] at hgd
        have hce : ceN A pads (k / 5) (k % 5) = cN (fun i => isCl pads (q.2.2 i)) (aSize A) := by
          unfold ceN
          rw [if_pos e, hq]
          have := cN_more (P := fun i => isCl pads (q.2.2 i)) (m := aSize A) (9 - aSize A) (fun i hi => by
            show isCl pads (q.2.2 i) = false
            rw [hok.2.2.2.2.2 i hi]
            cases pads <;> rfl)
          rw [show aSize A + (9 - aSize A) = 9 by omega] at this
          exact this
        rw [hce]
        refine lp_gen (fun i z => z = (nI (acc + cN (fun i => isCl pads (q.2.2 i)) i), nI i)) (fun X => X = rec (nI (acc + cN (fun i => isCl pads (q.2.2 i)) (aSize A)), nI (k + 1))) (aSize A) (by omega) rfl ?_ ?_
        · rintro i z hi rfl
          left
          refine ⟨_, rfl, fun rec2 => ?_⟩
          have hx := cell_pk hk0.1 hk0.2.1 hk0.2.2.1 (i := i) (by omega)
          have h27 := hok.2.2.2.2.1 i
          simp only [ubX11_cells_4, hrem]
          simp only [hdiv]
          cases pads
          · subst hp
            by_cases e1 : q.2.2 i = 0
            · rw [cN_f (P := fun i => isCl false (q.2.2 i)) (decide_eq_false (by omega))]
              simp (disch := omega) only [h2, hgd, hcp, hx, gdZ_nI, Bool.false_eq_true, ↓reduceIte, bt_do, bd_do, jn_eq, bI_z, gd_nI, gd_0, gd_1, nI_clamp, nI_add, nI_1, pk_mul, Nat.add_zero, Nat.zero_add, ile_t, ile_f, ilt_t, ilt_f, ieq_t, ieq_f, iz_t, iz_f, ilt0, ige0, im1, Bool.false_eq_true, Bool.true_eq_false, if_true, if_false, lc_ge_t, lc_ge_f, lc_eq_t, lc_eq_f, lc_le_t, lc_le_f, lc_gt_t, lc_gt_f, lc_lt_t, lc_lt_f, nI_l, lN_i, lN_add, lN_1, Nat.add_assoc]
            · by_cases e2 : q.2.2 i = 27
              · rw [cN_f (P := fun i => isCl false (q.2.2 i)) (decide_eq_false (by omega))]
                simp (disch := omega) only [h2, hgd, hcp, hx, gdZ_nI, Bool.false_eq_true, ↓reduceIte, bt_do, bd_do, jn_eq, bI_z, gd_nI, gd_0, gd_1, nI_clamp, nI_add, nI_1, pk_mul, Nat.add_zero, Nat.zero_add, ile_t, ile_f, ilt_t, ilt_f, ieq_t, ieq_f, iz_t, iz_f, ilt0, ige0, im1, Bool.false_eq_true, Bool.true_eq_false, if_true, if_false, lc_ge_t, lc_ge_f, lc_eq_t, lc_eq_f, lc_le_t, lc_le_f, lc_gt_t, lc_gt_f, lc_lt_t, lc_lt_f, nI_l, lN_i, lN_add, lN_1, Nat.add_assoc]
              · rw [cN_t (P := fun i => isCl false (q.2.2 i)) (decide_eq_true (by omega))]
                simp (disch := omega) only [h2, hgd, hcp, hx, gdZ_nI, Bool.false_eq_true, ↓reduceIte, bt_do, bd_do, jn_eq, bI_z, gd_nI, gd_0, gd_1, nI_clamp, nI_add, nI_1, pk_mul, Nat.add_zero, Nat.zero_add, ile_t, ile_f, ilt_t, ilt_f, ieq_t, ieq_f, iz_t, iz_f, ilt0, ige0, im1, Bool.false_eq_true, Bool.true_eq_false, if_true, if_false, lc_ge_t, lc_ge_f, lc_eq_t, lc_eq_f, lc_le_t, lc_le_f, lc_gt_t, lc_gt_f, lc_lt_t, lc_lt_f, nI_l, lN_i, lN_add, lN_1, Nat.add_assoc]
          · subst hp
            by_cases e2 : q.2.2 i = 27
            · rw [cN_t (P := fun i => isCl true (q.2.2 i)) (decide_eq_true e2)]
              simp (disch := omega) only [h2, hgd, hcp, hx, gdZ_nI, Bool.false_eq_true, ↓reduceIte, bt_do, bd_do, jn_eq, bI_z, gd_nI, gd_0, gd_1, nI_clamp, nI_add, nI_1, pk_mul, Nat.add_zero, Nat.zero_add, ile_t, ile_f, ilt_t, ilt_f, ieq_t, ieq_f, iz_t, iz_f, ilt0, ige0, im1, Bool.false_eq_true, Bool.true_eq_false, if_true, if_false, lc_ge_t, lc_ge_f, lc_eq_t, lc_eq_f, lc_le_t, lc_le_f, lc_gt_t, lc_gt_f, lc_lt_t, lc_lt_f, nI_l, lN_i, lN_add, lN_1, Nat.add_assoc]
            · rw [cN_f (P := fun i => isCl true (q.2.2 i)) (decide_eq_false e2)]
              simp (disch := omega) only [h2, hgd, hcp, hx, gdZ_nI, Bool.false_eq_true, ↓reduceIte, bt_do, bd_do, jn_eq, bI_z, gd_nI, gd_0, gd_1, nI_clamp, nI_add, nI_1, pk_mul, Nat.add_zero, Nat.zero_add, ile_t, ile_f, ilt_t, ilt_f, ieq_t, ieq_f, iz_t, iz_f, ilt0, ige0, im1, Bool.false_eq_true, Bool.true_eq_false, if_true, if_false, lc_ge_t, lc_ge_f, lc_eq_t, lc_eq_f, lc_le_t, lc_le_f, lc_gt_t, lc_gt_f, lc_lt_t, lc_lt_f, nI_l, lN_i, lN_add, lN_1, Nat.add_assoc]
        · rintro z rfl
          refine ⟨_, rfl, fun rec2 => ?_⟩
          simp (disch := omega) only [ubX11_cells_4, h2, ↓reduceIte, bt_do, bd_do, jn_eq, bI_z, gd_nI, gd_0, gd_1, nI_clamp, nI_add, nI_1, pk_mul, Nat.add_zero, Nat.zero_add, ile_t, ile_f, ilt_t, ilt_f, ieq_t, ieq_f, iz_t, iz_f, ilt0, ige0, im1, Bool.false_eq_true, Bool.true_eq_false, if_true, if_false, lc_ge_t, lc_ge_f, lc_eq_t, lc_eq_f, lc_le_t, lc_le_f, lc_gt_t, lc_gt_f, lc_lt_t, lc_lt_f, nI_l, lN_i, lN_add, lN_1]
      · have hce : ceN A pads (k / 5) (k % 5) = 0 := by
          unfold ceN
          rw [if_neg e]
        rw [bF e] at hgd
        rw [hce, Nat.add_zero]
        refine lp_gen (fun i z => z = (nI acc, nI 0)) (fun X => X = rec (nI acc, nI (k + 1))) 0 (by omega) rfl (fun i q hi => by omega) ?_
        rintro z rfl
        refine ⟨_, rfl, fun rec2 => ?_⟩
        by_cases e2 : aSize A = 0
        · simp (disch := omega) only [ubX11_cells_4, h2, ↓reduceIte, bt_do, bd_do, jn_eq, bI_z, gd_nI, gd_0, gd_1, nI_clamp, nI_add, nI_1, pk_mul, Nat.add_zero, Nat.zero_add, ile_t, ile_f, ilt_t, ilt_f, ieq_t, ieq_f, iz_t, iz_f, ilt0, ige0, im1, Bool.false_eq_true, Bool.true_eq_false, if_true, if_false, lc_ge_t, lc_ge_f, lc_eq_t, lc_eq_f, lc_le_t, lc_le_f, lc_gt_t, lc_gt_f, lc_lt_t, lc_lt_f, nI_l, lN_i, lN_add, lN_1]
        · simp only [ubX11_cells_4, hrem]
          simp only [hdiv]
          simp (disch := omega) only [h2, hgd, gdZ_nI, ↓reduceIte, bt_do, bd_do, jn_eq, bI_z, gd_nI, gd_0, gd_1, nI_clamp, nI_add, nI_1, pk_mul, Nat.add_zero, Nat.zero_add, ile_t, ile_f, ilt_t, ilt_f, ieq_t, ieq_f, iz_t, iz_f, ilt0, ige0, im1, Bool.false_eq_true, Bool.true_eq_false, if_true, if_false, lc_ge_t, lc_ge_f, lc_eq_t, lc_eq_f, lc_le_t, lc_le_f, lc_gt_t, lc_gt_f, lc_lt_t, lc_lt_f, nI_l, lN_i, lN_add, lN_1]
    rw [← hin]
    simp (disch := omega) only [ubX11_cells_1, h6, lN_mul, ↓reduceIte, bt_do, bd_do, jn_eq, bI_z, gd_nI, gd_0, gd_1, nI_clamp, nI_add, nI_1, pk_mul, Nat.add_zero, Nat.zero_add, ile_t, ile_f, ilt_t, ilt_f, ieq_t, ieq_f, iz_t, iz_f, ilt0, ige0, im1, Bool.false_eq_true, Bool.true_eq_false, if_true, if_false, lc_ge_t, lc_ge_f, lc_eq_t, lc_eq_f, lc_le_t, lc_le_f, lc_gt_t, lc_gt_f, lc_lt_t, lc_lt_f, nI_l, lN_i, lN_add, lN_1]
  · rintro q rfl
    refine ⟨_, rfl, fun rec => ?_⟩
    simp (disch := omega) only [ubX11_cells_1, h6, lN_mul, ↓reduceIte, bt_do, bd_do, jn_eq, bI_z, gd_nI, gd_0, gd_1, nI_clamp, nI_add, nI_1, pk_mul, Nat.add_zero, Nat.zero_add, ile_t, ile_f, ilt_t, ilt_f, ieq_t, ieq_f, iz_t, iz_f, ilt0, ige0, im1, Bool.false_eq_true, Bool.true_eq_false, if_true, if_false, lc_ge_t, lc_ge_f, lc_eq_t, lc_eq_f, lc_le_t, lc_le_f, lc_gt_t, lc_gt_f, lc_lt_t, lc_lt_f, nI_l, lN_i, lN_add, lN_1]
/-! records found -/
def hdN (ce : Nat → Nat) (fr : Nat) (L : Nat → Nat) : Nat → Bool
  | 0 => true
  | j + 1 => hdN ce fr L j && decide (ce (fr + j) = L j)
theorem hdN_f {ce : Nat → Nat} {fr : Nat} {L : Nat → Nat} {j : Nat} (h : hdN ce fr L j = false) : ∀ d, hdN ce fr L (j + d) = false := by
  intro d
  induction d with
  | zero => exact h
  | succ d ih =>
    show hdN ce fr L (j + d + 1) = false
    rw [hdN, ih]
    rfl
theorem cv_inj : ∀ x, x < 28 → ∀ y, y < 28 → (cv x = cv y ↔ x = y) := by decide +kernel
theorem holdsAt_c {A : AH} {x : CP} (h : RCP A x) {s c fr k n4 : Nat} {v4 : Nat → Int32} {L : Nat → Nat} (hs : s < 5) (hc : c < 30) (hk : fr + k ≤ 9) (h4k : k ≤ n4) (hn4 : n4 < 100) (hL : LK k L) (hv : ∀ j, j < k → v4 j = cv (L j)) {q : CPY} (hq : aCp A c s = some q) (h27 : ∀ i, q.2.2 i ≤ 27) : f_X2_holdsAt x (nI s) (nI c) (nI fr) n4 v4 (nI k) = some (hdN q.2.2 fr L k) := by
  have h0 := h.is hc hs hq
  rw [u_X2_holdsAt, jn_eq]
  refine lp_gen (fun i z => z = nI i ∧ hdN q.2.2 fr L i = true) (fun X => X = some (hdN q.2.2 fr L k)) k (by omega) ⟨rfl, rfl⟩ ?_ ?_
  · rintro i z hi ⟨rfl, ht⟩
    have hce : f_X2_cell x (nI s) (nI c) (nI (fr + i)) = some (cv (q.2.2 (fr + i))) := by rw [cell_e hs hc (by omega), h0.2.2 (fr + i) (by omega)]
    have hvi := hv i hi
    have hLi := hL i hi
    have hiff := cv_inj (q.2.2 (fr + i)) (by have := h27 (fr + i); omega) (L i) (by omega)
    by_cases e : q.2.2 (fr + i) = L i
    · left
      refine ⟨nI (i + 1), ⟨rfl, by rw [hdN, ht, decide_eq_true e]; rfl⟩, fun rec => ?_⟩
      simp (disch := omega) only [ubX2_holdsAt_1, nI_add, hce, hvi, e, ↓reduceIte, bt_do, bd_do, jn_eq, bI_z, gd_nI, gd_0, gd_1, nI_clamp, nI_add, nI_1, pk_mul, Nat.add_zero, Nat.zero_add, ile_t, ile_f, ilt_t, ilt_f, ieq_t, ieq_f, iz_t, iz_f, ilt0, ige0, im1, Bool.false_eq_true, Bool.true_eq_false, if_true, if_false]
    · right
      have e2 := mt hiff.mp e
      refine ⟨_, rfl, fun rec => ?_⟩
      have hf : hdN q.2.2 fr L k = false := by
        have := hdN_f (j := i + 1) (show hdN q.2.2 fr L (i + 1) = false by rw [hdN, decide_eq_false e, Bool.and_false]) (k - (i + 1))
        rw [show i + 1 + (k - (i + 1)) = k by omega] at this
        exact this
      rw [hf]
      simp (disch := omega) only [ubX2_holdsAt_1, nI_add, hce, hvi, e2, ↓reduceIte, bt_do, bd_do, jn_eq, bI_z, gd_nI, gd_0, gd_1, nI_clamp, nI_add, nI_1, pk_mul, Nat.add_zero, Nat.zero_add, ile_t, ile_f, ilt_t, ilt_f, ieq_t, ieq_f, iz_t, iz_f, ilt0, ige0, im1, Bool.false_eq_true, Bool.true_eq_false, if_true, if_false]
  · rintro z ⟨rfl, ht⟩
    refine ⟨_, rfl, fun rec => ?_⟩
    rw [ht]
    simp (disch := omega) only [ubX2_holdsAt_1, ↓reduceIte, bt_do, bd_do, jn_eq, bI_z, gd_nI, gd_0, gd_1, nI_clamp, nI_add, nI_1, pk_mul, Nat.add_zero, Nat.zero_add, ile_t, ile_f, ilt_t, ilt_f, ieq_t, ieq_f, iz_t, iz_f, ilt0, ige0, im1, Bool.false_eq_true, Bool.true_eq_false, if_true, if_false]
theorem placesIn_c {A : AH} {v : HS} {n : Nat} (h : RC A v) (hA : AI n A) {s c k n4 : Nat} {v4 : Nat → Int32} {L : Nat → Nat} (hs : s < 5) (hc : c < 30) (hk : k ≤ aSize A) (h4k : k ≤ n4) (hn4 : n4 < 100) (hL : LK k L) (hv : ∀ j, j < k → v4 j = cv (L j)) {q : CPY} (hq : aCp A c s = some q) (h27 : ∀ i, q.2.2 i ≤ 27) : f_X5_placesIn v (nI s) (nI c) n4 v4 (nI k) = some (nI (cN (fun fr => hdN q.2.2 fr L k) (aSize A + 1 - k))) := by
  have h9 : aSize A ≤ 9 := hA.2.2.1
  have hz : v.2.1 = nI (aSize A) := h.1.2.1
  rw [u_X5_placesIn, jn_eq]
  refine lp_gen (fun i z => z = (nI (cN (fun fr => hdN q.2.2 fr L k) i), nI i)) (fun X => X = some (nI (cN (fun fr => hdN q.2.2 fr L k) (aSize A + 1 - k)))) (aSize A + 1 - k) (by omega) rfl ?_ ?_
  · rintro i z hi rfl
    left
    refine ⟨_, rfl, fun rec => ?_⟩
    have hh := holdsAt_c h.2.2.2.1 (s := s) (c := c) (fr := i) hs hc (by omega) h4k hn4 hL hv hq h27
    cases e : hdN q.2.2 i L k
    · rw [e] at hh
      rw [cN_f (P := fun fr => hdN q.2.2 fr L k) e]
      simp (disch := omega) only [ubX5_placesIn_1, hz, hh, ↓reduceIte, bt_do, bd_do, jn_eq, bI_z, gd_nI, gd_0, gd_1, nI_clamp, nI_add, nI_1, pk_mul, Nat.add_zero, Nat.zero_add, ile_t, ile_f, ilt_t, ilt_f, ieq_t, ieq_f, iz_t, iz_f, ilt0, ige0, im1, Bool.false_eq_true, Bool.true_eq_false, if_true, if_false]
    · rw [e] at hh
      rw [cN_t (P := fun fr => hdN q.2.2 fr L k) e]
      simp (disch := omega) only [ubX5_placesIn_1, hz, hh, ↓reduceIte, bt_do, bd_do, jn_eq, bI_z, gd_nI, gd_0, gd_1, nI_clamp, nI_add, nI_1, pk_mul, Nat.add_zero, Nat.zero_add, ile_t, ile_f, ilt_t, ilt_f, ieq_t, ieq_f, iz_t, iz_f, ilt0, ige0, im1, Bool.false_eq_true, Bool.true_eq_false, if_true, if_false]
  · rintro z rfl
    refine ⟨_, rfl, fun rec => ?_⟩
    simp (disch := omega) only [ubX5_placesIn_1, hz, ↓reduceIte, bt_do, bd_do, jn_eq, bI_z, gd_nI, gd_0, gd_1, nI_clamp, nI_add, nI_1, pk_mul, Nat.add_zero, Nat.zero_add, ile_t, ile_f, ilt_t, ilt_f, ieq_t, ieq_f, iz_t, iz_f, ilt0, ige0, im1, Bool.false_eq_true, Bool.true_eq_false, if_true, if_false]
theorem foundIn_m {A : AH} {md : MD} {n : Nat} (h : RM A md.1) (hA : AI n A) {k : Nat} {L : Nat → Nat} (hk : k ≤ aSize A) (hL : LK k L) (hl : md.2.2.2.2.2.2.2.2.2.2.2.2.2.2.2.2 = nI k) (hrec : ∀ j, j < k → md.2.2.2.2.2.2.2.2.2.2.2.2.2.2.2.1 j = nI (L j)) {q : CPY} (h1 : q.1 < 8192) (h2 : q.2.1 < 16) (h3 : ∀ i, q.2.2 i < 32) : f_X11_foundIn md (lN (pk q)) = some (nI (cN (fun fr => hdN q.2.2 fr L k) (aSize A + 1 - k))) := by
  have h9 : aSize A ≤ 9 := hA.2.2.1
  have hz : md.1 2 = lN (aSize A) := h.1 2 (by omega)
  rw [u_X11_foundIn, jn_eq]
  refine lp_gen (fun i z => z = (nI (cN (fun fr => hdN q.2.2 fr L k) i), nI i)) (fun X => X = some (nI (cN (fun fr => hdN q.2.2 fr L k) (aSize A + 1 - k)))) (aSize A + 1 - k) (by omega) rfl ?_ ?_
  · rintro i z hi rfl
    left
    refine ⟨_, rfl, fun rec => ?_⟩
    have hin : ∀ (K : (Bool × Int32) → Option Int32) (p : Int32), lpF (bX11_foundIn_4 md (lN (pk q)) (p, nI i) K) FU (true, nI 0) = K (hdN q.2.2 i L k, nI k) := by
      intro K p
      refine lp_gen (fun j z => z = (hdN q.2.2 i L j, nI j)) (fun X => X = K (hdN q.2.2 i L k, nI k)) k (by omega) rfl ?_ ?_
      · rintro j z hj rfl
        left
        refine ⟨_, rfl, fun rec2 => ?_⟩
        have hx := cell_pk h1 h2 h3 (i := i + j) (by omega)
        have hr := hrec j hj
        have hLj := hL j hj
        have h32 := h3 (i + j)
        rw [hdN]
        cases e : hdN q.2.2 i L j
        · simp (disch := omega) only [ubX11_foundIn_4, hl, Bool.false_and, ↓reduceIte, bt_do, bd_do, jn_eq, bI_z, gd_nI, gd_0, gd_1, nI_clamp, nI_add, nI_1, pk_mul, Nat.add_zero, Nat.zero_add, ile_t, ile_f, ilt_t, ilt_f, ieq_t, ieq_f, iz_t, iz_f, ilt0, ige0, im1, Bool.false_eq_true, Bool.true_eq_false, if_true, if_false]
        · by_cases e2 : q.2.2 (i + j) = L j
          · rw [decide_eq_true e2, Bool.true_and]
            simp (disch := omega) only [ubX11_foundIn_4, hl, hx, hr, ↓reduceIte, bt_do, bd_do, jn_eq, bI_z, gd_nI, gd_0, gd_1, nI_clamp, nI_add, nI_1, pk_mul, Nat.add_zero, Nat.zero_add, ile_t, ile_f, ilt_t, ilt_f, ieq_t, ieq_f, iz_t, iz_f, ilt0, ige0, im1, Bool.false_eq_true, Bool.true_eq_false, if_true, if_false]
          · rw [decide_eq_false e2, Bool.and_false]
            simp (disch := omega) only [ubX11_foundIn_4, hl, hx, hr, ↓reduceIte, bt_do, bd_do, jn_eq, bI_z, gd_nI, gd_0, gd_1, nI_clamp, nI_add, nI_1, pk_mul, Nat.add_zero, Nat.zero_add, ile_t, ile_f, ilt_t, ilt_f, ieq_t, ieq_f, iz_t, iz_f, ilt0, ige0, im1, Bool.false_eq_true, Bool.true_eq_false, if_true, if_false]
      · rintro z rfl
        refine ⟨_, rfl, fun rec2 => ?_⟩
        simp (disch := omega) only [ubX11_foundIn_4, hl, ↓reduceIte, bt_do, bd_do, jn_eq, bI_z, gd_nI, gd_0, gd_1, nI_clamp, nI_add, nI_1, pk_mul, Nat.add_zero, Nat.zero_add, ile_t, ile_f, ilt_t, ilt_f, ieq_t, ieq_f, iz_t, iz_f, ilt0, ige0, im1, Bool.false_eq_true, Bool.true_eq_false, if_true, if_false]
    cases e : hdN q.2.2 i L k
    · rw [cN_f (P := fun fr => hdN q.2.2 fr L k) e]
      simp (disch := omega) only [ubX11_foundIn_1, hz, hl, hin, e, ↓reduceIte, bt_do, bd_do, jn_eq, bI_z, gd_nI, gd_0, gd_1, nI_clamp, nI_add, nI_1, pk_mul, Nat.add_zero, Nat.zero_add, ile_t, ile_f, ilt_t, ilt_f, ieq_t, ieq_f, iz_t, iz_f, ilt0, ige0, im1, Bool.false_eq_true, Bool.true_eq_false, if_true, if_false, lc_ge_t, lc_ge_f, lc_eq_t, lc_eq_f, lc_le_t, lc_le_f, lc_gt_t, lc_gt_f, lc_lt_t, lc_lt_f, nI_l, lN_i, lN_add, lN_1]
    · rw [cN_t (P := fun fr => hdN q.2.2 fr L k) e]
      simp (disch := omega) only [ubX11_foundIn_1, hz, hl, hin, e, ↓reduceIte, bt_do, bd_do, jn_eq, bI_z, gd_nI, gd_0, gd_1, nI_clamp, nI_add, nI_1, pk_mul, Nat.add_zero, Nat.zero_add, ile_t, ile_f, ilt_t, ilt_f, ieq_t, ieq_f, iz_t, iz_f, ilt0, ige0, im1, Bool.false_eq_true, Bool.true_eq_false, if_true, if_false, lc_ge_t, lc_ge_f, lc_eq_t, lc_eq_f, lc_le_t, lc_le_f, lc_gt_t, lc_gt_f, lc_lt_t, lc_lt_f, nI_l, lN_i, lN_add, lN_1]
  · rintro z rfl
    refine ⟨_, rfl, fun rec => ?_⟩
    simp (disch := omega) only [ubX11_foundIn_1, hz, hl, ↓reduceIte, bt_do, bd_do, jn_eq, bI_z, gd_nI, gd_0, gd_1, nI_clamp, nI_add, nI_1, pk_mul, Nat.add_zero, Nat.zero_add, ile_t, ile_f, ilt_t, ilt_f, ieq_t, ieq_f, iz_t, iz_f, ilt0, ige0, im1, Bool.false_eq_true, Bool.true_eq_false, if_true, if_false, lc_ge_t, lc_ge_f, lc_eq_t, lc_eq_f, lc_le_t, lc_le_f, lc_gt_t, lc_gt_f, lc_lt_t, lc_lt_f, nI_l, lN_i, lN_add, lN_1]
def fdC (A : AH) (c k : Nat) (L : Nat → Nat) : Nat := match aCp A c (fst5 (aAble A c)) with
  | none => 0
  | some q => cN (fun fr => hdN q.2.2 fr L k) (aSize A + 1 - k)
def fdG (A : AH) (f k : Nat) (L : Nat → Nat) : Nat → Nat → Nat → Int32
  | 0, _, acc => nI acc
  | d + 1, i, acc => if any5 (aAble A (aCh A f i)) = true then fdG A f k L d (i + 1) (acc + fdC A (aCh A f i) k L) else -1000004
def spFind (A : AH) (f k : Nat) (L : Nat → Nat) : Int32 := fdG A f k L (aMany A f) 0 0
theorem placesOf_c {A : AH} {v : HS} {n : Nat} (h : RC A v) (hA : AI n A) (hn : n ≤ 8000) {f k n4 : Nat} {v4 : Nat → Int32} {L : Nat → Nat} (hf : f < 6) (hk : k ≤ aSize A) (h4k : k ≤ n4) (hn4 : n4 < 100) (hL : LK k L) (hv : ∀ j, j < k → v4 j = cv (L j)) : f_X5_placesOf v (nI f) n4 v4 (nI k) = some (spFind A f k L) := by
  have h30 : aMade A ≤ 30 := hA.2.2.2.2.2.2.1
  have h4 := (hA.2.2.2.2.2.2.2.2.2.2.1 f hf).2.1
  rw [u_X5_placesOf, jn_eq]
  generalize hres : spFind A f k L = res
  refine lp_gen (fun i z => ∃ acc, z = (nI acc, nI i) ∧ fdG A f k L (aMany A f - i) i acc = res) (fun X => X = some res) 4 (by omega) ⟨0, rfl, hres⟩ ?_ ?_
  · rintro i z hi ⟨acc, rfl, hr⟩
    by_cases e : i < aMany A f
    · have hc := (hA.2.2.2.2.2.2.2.2.2.2.1 f hf).2.2.2.2.2 i e
      have hch := chunkOf_c h.2.2.2.2 hA hf e
      have hab := able_c5 h hA hn hc
      rw [show aMany A f - i = (aMany A f - (i + 1)) + 1 by omega, fdG] at hr
      by_cases ex : any5 (aAble A (aCh A f i)) = true
      · rw [if_pos ex] at hr
        have hfst := fst5_in (any5_t.mp ex)
        obtain ⟨q, hq, _⟩ := able_cp hfst.2.1
        have h27 := (hA.2.2.2.2.2.2.2.2.2.2.2.2.2 _ _ q hq).2.2.2.2.1
        have hfi := first_n (nS A) hA.1 h.2.1.1 (aAble A (aCh A f i)) (able_out hA _) (any5_t.mp ex)
        have hpl := placesIn_c h hA (s := fst5 (aAble A (aCh A f i))) (c := aCh A f i) hfst.1 (by omega) hk h4k hn4 hL hv hq h27
        have hfd : cN (fun fr => hdN q.2.2 fr L k) (aSize A + 1 - k) = fdC A (aCh A f i) k L := by unfold fdC; rw [hq]
        rw [hfd] at hpl
        have hf5 := hfst.1
        left
        refine ⟨_, ⟨acc + fdC A (aCh A f i) k L, rfl, hr⟩, fun rec => ?_⟩
        simp (disch := omega) only [ubX5_placesOf_1, hch, hab, hfi, hpl, ↓reduceIte, bt_do, bd_do, jn_eq, bI_z, gd_nI, gd_0, gd_1, nI_clamp, nI_add, nI_1, pk_mul, Nat.add_zero, Nat.zero_add, ile_t, ile_f, ilt_t, ilt_f, ieq_t, ieq_f, iz_t, iz_f, ilt0, ige0, im1, Bool.false_eq_true, Bool.true_eq_false, if_true, if_false]
      · rw [if_neg ex] at hr
        right
        subst hr
        have hfi := first_no (nS A) hA.1 h.2.1.1 (aAble A (aCh A f i)) (fun s hs => bF (fun q => ex (any5_t.mpr ⟨s, hs, q⟩)))
        refine ⟨_, rfl, fun rec => ?_⟩
        simp (disch := omega) only [ubX5_placesOf_1, hch, hab, hfi, ↓reduceIte, bt_do, bd_do, jn_eq, bI_z, gd_nI, gd_0, gd_1, nI_clamp, nI_add, nI_1, pk_mul, Nat.add_zero, Nat.zero_add, ile_t, ile_f, ilt_t, ilt_f, ieq_t, ieq_f, iz_t, iz_f, ilt0, ige0, im1, Bool.false_eq_true, Bool.true_eq_false, if_true, if_false]
    · have hch := chunkOf_none h.2.2.2.2 hf (k := i) (by omega) hi
      left
      refine ⟨_, ⟨acc, rfl, by rw [show aMany A f - (i + 1) = 0 by omega]; rw [show aMany A f - i = 0 by omega] at hr; exact hr⟩, fun rec => ?_⟩
      simp (disch := omega) only [ubX5_placesOf_1, hch, ↓reduceIte, bt_do, bd_do, jn_eq, bI_z, gd_nI, gd_0, gd_1, nI_clamp, nI_add, nI_1, pk_mul, Nat.add_zero, Nat.zero_add, ile_t, ile_f, ilt_t, ilt_f, ieq_t, ieq_f, iz_t, iz_f, ilt0, ige0, im1, Bool.false_eq_true, Bool.true_eq_false, if_true, if_false]
  · rintro z ⟨acc, rfl, hr⟩
    rw [show aMany A f - 4 = 0 by omega, fdG] at hr
    subst hr
    refine ⟨_, rfl, fun rec => ?_⟩
    simp (disch := omega) only [ubX5_placesOf_1, ↓reduceIte, bt_do, bd_do, jn_eq, bI_z, gd_nI, gd_0, gd_1, nI_clamp, nI_add, nI_1, pk_mul, Nat.add_zero, Nat.zero_add, ile_t, ile_f, ilt_t, ilt_f, ieq_t, ieq_f, iz_t, iz_f, ilt0, ige0, im1, Bool.false_eq_true, Bool.true_eq_false, if_true, if_false]
theorem find_loop_m {A : AH} {md : MD} {n : Nat} (h : RM A md.1) (hA : AI n A) (hn : n ≤ 8000) {f k : Nat} {L : Nat → Nat} (hf : f < 6) (hk : k ≤ aSize A) (hL : LK k L) (hl : md.2.2.2.2.2.2.2.2.2.2.2.2.2.2.2.2 = nI k) (hrec : ∀ j, j < k → md.2.2.2.2.2.2.2.2.2.2.2.2.2.2.2.1 j = nI (L j)) (bb : Bool) : lpF (bX11_find_8 (bb, md) (nI f) (fun q8 : Int32 × Int32 => some (q8.1, md))) FU (nI 0, nI 0) = some (spFind A f k L, md) := by
  have h30 : aMade A ≤ 30 := hA.2.2.2.2.2.2.1
  have h4 := (hA.2.2.2.2.2.2.2.2.2.2.1 f hf).2.1
  generalize hres : spFind A f k L = res
  refine lp_gen (fun i z => ∃ acc, z = (nI acc, nI i) ∧ fdG A f k L (aMany A f - i) i acc = res) (fun X => X = some (res, md)) (aMany A f) (by omega) ⟨0, rfl, hres⟩ ?_ ?_
  · rintro i z e ⟨acc, rfl, hr⟩
    have hc := (hA.2.2.2.2.2.2.2.2.2.2.1 f hf).2.2.2.2.2 i e
    have hmr := many_r h hf
    have hch := chunkOf_m h hA hf e
    have hab := ables_m5 h hA hn hc
    rw [show aMany A f - i = (aMany A f - (i + 1)) + 1 by omega, fdG] at hr
    by_cases ex : any5 (aAble A (aCh A f i)) = true
    · rw [if_pos ex] at hr
      have hfst := fst5_in (any5_t.mp ex)
      obtain ⟨q, hq, _⟩ := able_cp hfst.2.1
      have hk0 := cp_ok hA hn hq
      have hcp := copy_m h h30 (s := fst5 (aAble A (aCh A f i))) (c := aCh A f i) hfst.1 hc
      rw [hq, cpM_some] at hcp
      have hpl := foundIn_m h hA hk hL hl hrec hk0.1 hk0.2.1 hk0.2.2.1
      have hfd : cN (fun fr => hdN q.2.2 fr L k) (aSize A + 1 - k) = fdC A (aCh A f i) k L := by unfold fdC; rw [hq]
      rw [hfd] at hpl
      left
      refine ⟨_, ⟨acc + fdC A (aCh A f i) k L, rfl, hr⟩, fun rec => ?_⟩
      simp (disch := omega) only [ubX11_find_8, hmr, hch, hab, any5_z, ex, least_n, hcp, hpl, ↓reduceIte, bt_do, bd_do, jn_eq, bI_z, gd_nI, gd_0, gd_1, nI_clamp, nI_add, nI_1, pk_mul, Nat.add_zero, Nat.zero_add, ile_t, ile_f, ilt_t, ilt_f, ieq_t, ieq_f, iz_t, iz_f, ilt0, ige0, im1, Bool.false_eq_true, Bool.true_eq_false, if_true, if_false]
    · rw [if_neg ex] at hr
      right
      subst hr
      refine ⟨_, rfl, fun rec => ?_⟩
      simp (disch := omega) only [ubX11_find_8, hmr, hch, hab, any5_z, bF ex, ↓reduceIte, bt_do, bd_do, jn_eq, bI_z, gd_nI, gd_0, gd_1, nI_clamp, nI_add, nI_1, pk_mul, Nat.add_zero, Nat.zero_add, ile_t, ile_f, ilt_t, ilt_f, ieq_t, ieq_f, iz_t, iz_f, ilt0, ige0, im1, Bool.false_eq_true, Bool.true_eq_false, if_true, if_false]
  · rintro z ⟨acc, rfl, hr⟩
    have hmr := many_r h hf
    rw [Nat.sub_self, fdG] at hr
    subst hr
    refine ⟨_, rfl, fun rec => ?_⟩
    simp (disch := omega) only [ubX11_find_8, hmr, ↓reduceIte, bt_do, bd_do, jn_eq, bI_z, gd_nI, gd_0, gd_1, nI_clamp, nI_add, nI_1, pk_mul, Nat.add_zero, Nat.zero_add, ile_t, ile_f, ilt_t, ilt_f, ieq_t, ieq_f, iz_t, iz_f, ilt0, ige0, im1, Bool.false_eq_true, Bool.true_eq_false, if_true, if_false]
/-! what is left, strength -/
def spLeft (A : AH) (f : Nat) : Int32 := if aMany A f = 0 then -1000000 else if any5 (aAble A (lst A f)) = true then nI (aSize A - aGf A (lst A f)) else -1000000
theorem left_c {A : AH} {v : HS} {n : Nat} (h : RC A v) (hA : AI n A) (hn : n ≤ 8000) {f : Nat} (hf : f < 6) : f_X5_lettersLeft v (nI f) = some (spLeft A f) := by
  have h30 : aMade A ≤ 30 := hA.2.2.2.2.2.2.1
  unfold spLeft
  by_cases e : aMany A f = 0
  · rw [if_pos e]
    simp (disch := omega) only [u_X5_lettersLeft, last_none_c h.2.2.2.2 hf e, ↓reduceIte, bt_do, bd_do, jn_eq, bI_z, gd_nI, gd_0, gd_1, nI_clamp, nI_add, nI_1, pk_mul, Nat.add_zero, Nat.zero_add, ile_t, ile_f, ilt_t, ilt_f, ieq_t, ieq_f, iz_t, iz_f, ilt0, ige0, im1, Bool.false_eq_true, Bool.true_eq_false, if_true, if_false]
  · rw [if_neg e]
    have hcl := lst_lt hA hf (show 1 ≤ aMany A f by omega)
    have hla := last_c h.2.2.2.2 hA hf (show 1 ≤ aMany A f by omega)
    have hab := able_c5 h hA hn hcl
    have hgf := gf_c h hA hn hcl
    have hgl := gf_le hA (lst A f)
    have hz : v.2.1 = nI (aSize A) := h.1.2.1
    by_cases ex : any5 (aAble A (lst A f)) = true
    · rw [if_pos ex]
      simp (disch := omega) only [u_X5_lettersLeft, hla, hab, any5_z, ex, hgf, hz, pk_sub, ↓reduceIte, bt_do, bd_do, jn_eq, bI_z, gd_nI, gd_0, gd_1, nI_clamp, nI_add, nI_1, pk_mul, Nat.add_zero, Nat.zero_add, ile_t, ile_f, ilt_t, ilt_f, ieq_t, ieq_f, iz_t, iz_f, ilt0, ige0, im1, Bool.false_eq_true, Bool.true_eq_false, if_true, if_false]
    · rw [if_neg ex]
      simp (disch := omega) only [u_X5_lettersLeft, hla, hab, any5_z, bF ex, ↓reduceIte, bt_do, bd_do, jn_eq, bI_z, gd_nI, gd_0, gd_1, nI_clamp, nI_add, nI_1, pk_mul, Nat.add_zero, Nat.zero_add, ile_t, ile_f, ilt_t, ilt_f, ieq_t, ieq_f, iz_t, iz_f, ilt0, ige0, im1, Bool.false_eq_true, Bool.true_eq_false, if_true, if_false]
def stN (A : AH) (f : Nat) : Nat → Nat
  | 0 => 9
  | k + 1 => min (stN A f k) (cN (aAble A (aCh A f k)) 5)
theorem stN_le (A : AH) (f : Nat) : ∀ k, stN A f k ≤ 9 ∧ (0 < k → stN A f k ≤ 5) := by
  intro k
  induction k with
  | zero => exact ⟨Nat.le_refl _, fun h => by omega⟩
  | succ k ih =>
    have := cN_le (aAble A (aCh A f k)) 5
    rw [stN]
    exact ⟨by omega, fun _ => by omega⟩
def spStr (A : AH) (f : Nat) : Int32 := if aMany A f = 0 then -1000000 else if stN A f (aMany A f) = 0 then -1000000 else nI (stN A f (aMany A f) - 1)
theorem strength_c {A : AH} {v : HS} {n : Nat} (h : RC A v) (hA : AI n A) (hn : n ≤ 8000) {f : Nat} (hf : f < 6) : f_X4_strengthOf v (nI f) = some (spStr A f) := by
  have h30 : aMade A ≤ 30 := hA.2.2.2.2.2.2.1
  have h4 := (hA.2.2.2.2.2.2.2.2.2.2.1 f hf).2.1
  have hnm : ∀ x, x < 100 → ((nI x = -1000000) = False) := by
    intro x hx
    have : ∀ x, x < 100 → ¬ nI x = -1000000 := by decide +kernel
    exact eq_false (this x hx)
  rw [u_X4_strengthOf, jn_eq]
  refine lp_gen (fun i z => z = ((if i = 0 ∨ aMany A f = 0 then -1000000 else nI (stN A f (min i (aMany A f)))), nI i)) (fun X => X = some (spStr A f)) 4 (by omega) (by rw [if_pos (Or.inl rfl)]) ?_ ?_
  · rintro i z hi rfl
    left
    refine ⟨_, rfl, fun rec => ?_⟩
    by_cases e : i < aMany A f
    · have hc := (hA.2.2.2.2.2.2.2.2.2.2.1 f hf).2.2.2.2.2 i e
      have hch := chunkOf_c h.2.2.2.2 hA hf e
      have hab := able_c5 h hA hn hc
      have hbc := bits_n (aAble A (aCh A f i))
      have hcl := cN_le (aAble A (aCh A f i)) 5
      have hs := stN_le A f i
      rw [if_neg (show ¬ (i + 1 = 0 ∨ aMany A f = 0) by omega), show min (i + 1) (aMany A f) = i + 1 by omega, stN]
      by_cases e0 : i = 0
      · rw [if_pos (Or.inl e0)]
        subst e0
        rw [stN, show min 9 (cN (aAble A (aCh A f 0)) 5) = cN (aAble A (aCh A f 0)) 5 by omega]
        simp (disch := omega) only [ubX4_strengthOf_1, hch, hab, hbc, ↓reduceIte, bt_do, bd_do, jn_eq, bI_z, gd_nI, gd_0, gd_1, nI_clamp, nI_add, nI_1, pk_mul, Nat.add_zero, Nat.zero_add, ile_t, ile_f, ilt_t, ilt_f, ieq_t, ieq_f, iz_t, iz_f, ilt0, ige0, im1, Bool.false_eq_true, Bool.true_eq_false, if_true, if_false]
      · rw [if_neg (by omega), show min i (aMany A f) = i by omega]
        by_cases e1 : cN (aAble A (aCh A f i)) 5 < stN A f i
        · rw [show min (stN A f i) (cN (aAble A (aCh A f i)) 5) = cN (aAble A (aCh A f i)) 5 by omega]
          simp (disch := omega) only [ubX4_strengthOf_1, hch, hab, hbc, hnm, ↓reduceIte, bt_do, bd_do, jn_eq, bI_z, gd_nI, gd_0, gd_1, nI_clamp, nI_add, nI_1, pk_mul, Nat.add_zero, Nat.zero_add, ile_t, ile_f, ilt_t, ilt_f, ieq_t, ieq_f, iz_t, iz_f, ilt0, ige0, im1, Bool.false_eq_true, Bool.true_eq_false, if_true, if_false]
        · rw [show min (stN A f i) (cN (aAble A (aCh A f i)) 5) = stN A f i by omega]
          simp (disch := omega) only [ubX4_strengthOf_1, hch, hab, hbc, hnm, ↓reduceIte, bt_do, bd_do, jn_eq, bI_z, gd_nI, gd_0, gd_1, nI_clamp, nI_add, nI_1, pk_mul, Nat.add_zero, Nat.zero_add, ile_t, ile_f, ilt_t, ilt_f, ieq_t, ieq_f, iz_t, iz_f, ilt0, ige0, im1, Bool.false_eq_true, Bool.true_eq_false, if_true, if_false]
    · have hch := chunkOf_none h.2.2.2.2 hf (k := i) (by omega) hi
      have e2 : (if i + 1 = 0 ∨ aMany A f = 0 then (-1000000 : Int32) else nI (stN A f (min (i + 1) (aMany A f)))) = (if i = 0 ∨ aMany A f = 0 then -1000000 else nI (stN A f (min i (aMany A f)))) := by
        by_cases em : aMany A f = 0
        · rw [if_pos (Or.inr em), if_pos (Or.inr em)]
        · rw [if_neg (by omega), if_neg (by omega), show min (i + 1) (aMany A f) = min i (aMany A f) by omega]
      rw [e2]
      simp (disch := omega) only [ubX4_strengthOf_1, hch, ↓reduceIte, bt_do, bd_do, jn_eq, bI_z, gd_nI, gd_0, gd_1, nI_clamp, nI_add, nI_1, pk_mul, Nat.add_zero, Nat.zero_add, ile_t, ile_f, ilt_t, ilt_f, ieq_t, ieq_f, iz_t, iz_f, ilt0, ige0, im1, Bool.false_eq_true, Bool.true_eq_false, if_true, if_false]
  · rintro z rfl
    refine ⟨_, rfl, fun rec => ?_⟩
    unfold spStr
    by_cases em : aMany A f = 0
    · rw [if_pos (Or.inr em), if_pos em]
      simp (disch := omega) only [ubX4_strengthOf_1, ↓reduceIte, bt_do, bd_do, jn_eq, bI_z, gd_nI, gd_0, gd_1, nI_clamp, nI_add, nI_1, pk_mul, Nat.add_zero, Nat.zero_add, ile_t, ile_f, ilt_t, ilt_f, ieq_t, ieq_f, iz_t, iz_f, ilt0, ige0, im1, Bool.false_eq_true, Bool.true_eq_false, if_true, if_false]
    · rw [if_neg (by omega), if_neg em, show min 4 (aMany A f) = aMany A f by omega]
      have hs := (stN_le A f (aMany A f)).2 (by omega)
      by_cases e0 : stN A f (aMany A f) = 0
      · rw [if_pos e0]
        simp (disch := omega) only [ubX4_strengthOf_1, hnm, ↓reduceIte, bt_do, bd_do, jn_eq, bI_z, gd_nI, gd_0, gd_1, nI_clamp, nI_add, nI_1, pk_mul, Nat.add_zero, Nat.zero_add, ile_t, ile_f, ilt_t, ilt_f, ieq_t, ieq_f, iz_t, iz_f, ilt0, ige0, im1, Bool.false_eq_true, Bool.true_eq_false, if_true, if_false]
      · rw [if_neg e0]
        simp (disch := omega) only [ubX4_strengthOf_1, hnm, pk_sub, ↓reduceIte, bt_do, bd_do, jn_eq, bI_z, gd_nI, gd_0, gd_1, nI_clamp, nI_add, nI_1, pk_mul, Nat.add_zero, Nat.zero_add, ile_t, ile_f, ilt_t, ilt_f, ieq_t, ieq_f, iz_t, iz_f, ilt0, ige0, im1, Bool.false_eq_true, Bool.true_eq_false, if_true, if_false]
theorem strength_loop_m {A : AH} {md : MD} {n : Nat} (h : RM A md.1) (hA : AI n A) (hn : n ≤ 8000) {f : Nat} (hf : f < 6) : lpF (bX11_strength_8 md (nI f) (fun q8 : Int32 × Int32 => if q8.1 = 0 then (some ((-1000000) : Int32)) else (some (q8.1 - (nI 1))))) FU ((if nI (aMany A f) = 0 then nI 0 else nI 9), nI 0) = some (spStr A f) := by
  have h30 : aMade A ≤ 30 := hA.2.2.2.2.2.2.1
  have h4 := (hA.2.2.2.2.2.2.2.2.2.2.1 f hf).2.1
  have hmr := many_r h hf
  refine lp_gen (fun i z => z = ((if aMany A f = 0 then nI 0 else nI (stN A f i)), nI i)) (fun X => X = some (spStr A f)) (aMany A f) (by omega) ?_ ?_ ?_
  · by_cases em : aMany A f = 0
    · rw [if_pos em, em, if_pos nI_0]
    · rw [if_neg em, if_neg (nI_ne0 (by omega) (by omega))]; rfl
  · rintro i z hi rfl
    left
    refine ⟨_, rfl, fun rec => ?_⟩
    have hc := (hA.2.2.2.2.2.2.2.2.2.2.1 f hf).2.2.2.2.2 i hi
    have hch := chunkOf_m h hA hf hi
    have hab := ables_m5 h hA hn hc
    have hon := ones_n (aAble A (aCh A f i))
    have hcl := cN_le (aAble A (aCh A f i)) 5
    have hs := stN_le A f i
    rw [if_neg (show ¬ aMany A f = 0 by omega), if_neg (show ¬ aMany A f = 0 by omega), stN]
    by_cases e1 : stN A f i ≤ cN (aAble A (aCh A f i)) 5
    · rw [show min (stN A f i) (cN (aAble A (aCh A f i)) 5) = stN A f i by omega]
      simp (disch := omega) only [ubX11_strength_8, hmr, hch, hab, hon, ↓reduceIte, bt_do, bd_do, jn_eq, bI_z, gd_nI, gd_0, gd_1, nI_clamp, nI_add, nI_1, pk_mul, Nat.add_zero, Nat.zero_add, ile_t, ile_f, ilt_t, ilt_f, ieq_t, ieq_f, iz_t, iz_f, ilt0, ige0, im1, Bool.false_eq_true, Bool.true_eq_false, if_true, if_false]
    · rw [show min (stN A f i) (cN (aAble A (aCh A f i)) 5) = cN (aAble A (aCh A f i)) 5 by omega]
      simp (disch := omega) only [ubX11_strength_8, hmr, hch, hab, hon, ↓reduceIte, bt_do, bd_do, jn_eq, bI_z, gd_nI, gd_0, gd_1, nI_clamp, nI_add, nI_1, pk_mul, Nat.add_zero, Nat.zero_add, ile_t, ile_f, ilt_t, ilt_f, ieq_t, ieq_f, iz_t, iz_f, ilt0, ige0, im1, Bool.false_eq_true, Bool.true_eq_false, if_true, if_false]
  · rintro z rfl
    refine ⟨_, rfl, fun rec => ?_⟩
    unfold spStr
    by_cases em : aMany A f = 0
    · rw [if_pos em, if_pos em]
      simp (disch := omega) only [ubX11_strength_8, hmr, ↓reduceIte, bt_do, bd_do, jn_eq, bI_z, gd_nI, gd_0, gd_1, nI_clamp, nI_add, nI_1, pk_mul, Nat.add_zero, Nat.zero_add, ile_t, ile_f, ilt_t, ilt_f, ieq_t, ieq_f, iz_t, iz_f, ilt0, ige0, im1, Bool.false_eq_true, Bool.true_eq_false, if_true, if_false]
    · rw [if_neg em, if_neg em]
      have hs := (stN_le A f (aMany A f)).2 (by omega)
      by_cases e0 : stN A f (aMany A f) = 0
      · rw [if_pos e0]
        simp (disch := omega) only [ubX11_strength_8, hmr, ↓reduceIte, bt_do, bd_do, jn_eq, bI_z, gd_nI, gd_0, gd_1, nI_clamp, nI_add, nI_1, pk_mul, Nat.add_zero, Nat.zero_add, ile_t, ile_f, ilt_t, ilt_f, ieq_t, ieq_f, iz_t, iz_f, ilt0, ige0, im1, Bool.false_eq_true, Bool.true_eq_false, if_true, if_false]
      · rw [if_neg e0]
        simp (disch := omega) only [ubX11_strength_8, hmr, pk_sub, ↓reduceIte, bt_do, bd_do, jn_eq, bI_z, gd_nI, gd_0, gd_1, nI_clamp, nI_add, nI_1, pk_mul, Nat.add_zero, Nat.zero_add, ile_t, ile_f, ilt_t, ilt_f, ieq_t, ieq_f, iz_t, iz_f, ilt0, ige0, im1, Bool.false_eq_true, Bool.true_eq_false, if_true, if_false]
