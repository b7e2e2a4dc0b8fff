/-! PURE 9a: odds -/
theorem g5 : ∀ g, g < 32 → mN (fun s => g.testBit s) 5 = g := by decide +kernel
theorem isIn_g {g s : Nat} (hg : g < 32) (hs : s < 5) : f_X10_isIn (nI g) (nI s) = g.testBit s := by
  have := isIn_n (fun s => g.testBit s) hs
  rw [g5 g hg] at this
  exact this
theorem has_g {g s : Nat} (hg : g < 32) (hs : s < 5) : f_X11_has (nI g) (nI s) = g.testBit s := by
  have := has_n (fun s => g.testBit s) hs
  rw [g5 g hg] at this
  exact this
def subB (A : AH) (g : Nat) : Bool := !any5 (fun s => g.testBit s && !aUpB A s)
theorem sub_g {A : AH} {g : Nat} (hg : g < 32) : (nI g &&& (nI (mN (aUpB A) 5) ^^^ (-1)) = 0) = (subB A g = true) := by
  have := andn_n (fun s => g.testBit s) (aUpB A)
  rw [g5 g hg] at this
  rw [this, any5_z]
  unfold subB
  apply propext
  constructor
  · intro h; rw [h]; rfl
  · intro h
    cases e : any5 (fun s => g.testBit s && !aUpB A s)
    · rfl
    · rw [e] at h; cases h
/-- a product over servers -/
def prN (g : Nat → Nat) : Nat → Nat
  | 0 => 1
  | n + 1 => prN g n * g n
theorem prN_more {g : Nat → Nat} {n : Nat} (d : Nat) (h : ∀ s, n ≤ s → g s = 1) : prN g (n + d) = prN g n := by
  induction d with
  | zero => rfl
  | succ d ih =>
    show prN g (n + d + 1) = _
    rw [prN, h (n + d) (by omega), ih, Nat.mul_one]
def csG (A : AH) (g p s : Nat) : Nat := if aUpB A s = true then (if g.testBit s = true then p else 10 - p) else 1
def cs (A : AH) (g p : Nat) : Nat := prN (csG A g p) 5
theorem cs_out {A : AH} {n : Nat} (hA : AI n A) (g p : Nat) : ∀ s, nS A ≤ s → csG A g p s = 1 := by
  intro s hs
  unfold csG aUpB
  rw [up_out hA s hs, if_neg (by decide)]
theorem casesOf_c {A : AH} {v : HS} {n : Nat} (h : RC A v) (hA : AI n A) {g p : Nat} (hg : g < 32) (hp : p ≤ 10) : f_X4_casesOf v (nI g) (nI p) = some (lN (cs A g p)) := by
  have h5 : nS A ≤ 5 := hA.1
  have hw : v.2.2.2.2.2.1.1 = nI (nS A) := h.2.1.1
  have e5 : cs A g p = prN (csG A g p) (nS A) := by
    have := prN_more (5 - nS A) (cs_out hA g p)
    rw [show nS A + (5 - nS A) = 5 by omega] at this
    exact this
  rw [e5, u_X4_casesOf, jn_eq]
  refine lp_gen (fun i z => z = (lN (prN (csG A g p) i), nI i)) (fun X => X = some (lN (prN (csG A g p) (nS A)))) (nS A) (by omega) rfl ?_ ?_
  · rintro i z hi rfl
    left
    refine ⟨_, rfl, fun rec => ?_⟩
    have hu := hasUp_c h.2.1 hA hi
    have hub := (hA.2.2.2.2.2.2.2.1 i (by omega)).1
    have hI := isIn_g hg (s := i) (by omega)
    rw [prN]
    unfold csG
    by_cases eu : aUp A i = 1
    · rw [if_pos (show aUpB A i = true by unfold aUpB; rw [eu]; rfl)]
      cases e : g.testBit i
      · rw [e] at hI
        rw [if_neg (by decide)]
        simp (disch := omega) only [ubX4_casesOf_1, hw, hu, aUpB_1 eu, hI, pk_sub, nI_l, lN_mul, ↓reduceIte, bt_do, bd_do, jn_eq, bI_z, gd_nI, gd_0, gd_1, nI_clamp, nI_add, nI_1, pk_mul, Nat.add_zero, Nat.zero_add, ile_t, ile_f, ilt_t, ilt_f, ieq_t, ieq_f, iz_t, iz_f, ilt0, ige0, im1, Bool.false_eq_true, Bool.true_eq_false, if_true, if_false]
      · rw [e] at hI
        rw [if_pos rfl]
        simp (disch := omega) only [ubX4_casesOf_1, hw, hu, aUpB_1 eu, hI, nI_l, lN_mul, ↓reduceIte, bt_do, bd_do, jn_eq, bI_z, gd_nI, gd_0, gd_1, nI_clamp, nI_add, nI_1, pk_mul, Nat.add_zero, Nat.zero_add, ile_t, ile_f, ilt_t, ilt_f, ieq_t, ieq_f, iz_t, iz_f, ilt0, ige0, im1, Bool.false_eq_true, Bool.true_eq_false, if_true, if_false]
    · have e0 : aUp A i = 0 := by omega
      rw [if_neg (show ¬ aUpB A i = true by unfold aUpB; rw [e0]; decide), Nat.mul_one]
      simp (disch := omega) only [ubX4_casesOf_1, hw, hu, aUpB_0 e0, ↓reduceIte, bt_do, bd_do, jn_eq, bI_z, gd_nI, gd_0, gd_1, nI_clamp, nI_add, nI_1, pk_mul, Nat.add_zero, Nat.zero_add, ile_t, ile_f, ilt_t, ilt_f, ieq_t, ieq_f, iz_t, iz_f, ilt0, ige0, im1, Bool.false_eq_true, Bool.true_eq_false, if_true, if_false]
  · rintro z rfl
    refine ⟨_, rfl, fun rec => ?_⟩
    simp (disch := omega) only [ubX4_casesOf_1, hw, ↓reduceIte, bt_do, bd_do, jn_eq, bI_z, gd_nI, gd_0, gd_1, nI_clamp, nI_add, nI_1, pk_mul, Nat.add_zero, Nat.zero_add, ile_t, ile_f, ilt_t, ilt_f, ieq_t, ieq_f, iz_t, iz_f, ilt0, ige0, im1, Bool.false_eq_true, Bool.true_eq_false, if_true, if_false]
def alG (A : AH) (s : Nat) : Nat := if aUpB A s = true then 10 else 1
theorem al_out {A : AH} {n : Nat} (hA : AI n A) : ∀ s, nS A ≤ s → alG A s = 1 := by
  intro s hs
  unfold alG aUpB
  rw [up_out hA s hs, if_neg (by decide)]
theorem allCases_c {A : AH} {v : HS} {n : Nat} (h : RC A v) (hA : AI n A) : f_X4_allCases v = some (lN (prN (alG A) 5)) := by
  have h5 : nS A ≤ 5 := hA.1
  have hw : v.2.2.2.2.2.1.1 = nI (nS A) := h.2.1.1
  have e5 : prN (alG A) 5 = prN (alG A) (nS A) := by
    have := prN_more (5 - nS A) (al_out hA)
    rw [show nS A + (5 - nS A) = 5 by omega] at this
    exact this
  rw [e5, u_X4_allCases, jn_eq]
  refine lp_gen (fun i z => z = (lN (prN (alG A) i), nI i)) (fun X => X = some (lN (prN (alG A) (nS A)))) (nS A) (by omega) rfl ?_ ?_
  · rintro i z hi rfl
    left
    refine ⟨_, rfl, fun rec => ?_⟩
    have hu := hasUp_c h.2.1 hA hi
    have hub := (hA.2.2.2.2.2.2.2.1 i (by omega)).1
    rw [prN]
    unfold alG
    by_cases eu : aUp A i = 1
    · rw [if_pos (show aUpB A i = true by unfold aUpB; rw [eu]; rfl)]
      simp (disch := omega) only [ubX4_allCases_1, hw, hu, aUpB_1 eu, lN_mul, ↓reduceIte, bt_do, bd_do, jn_eq, bI_z, gd_nI, gd_0, gd_1, nI_clamp, nI_add, nI_1, pk_mul, Nat.add_zero, Nat.zero_add, ile_t, ile_f, ilt_t, ilt_f, ieq_t, ieq_f, iz_t, iz_f, ilt0, ige0, im1, Bool.false_eq_true, Bool.true_eq_false, if_true, if_false]
    · have e0 : aUp A i = 0 := by omega
      rw [if_neg (show ¬ aUpB A i = true by unfold aUpB; rw [e0]; decide)]
      simp (disch := omega) only [ubX4_allCases_1, hw, hu, aUpB_0 e0, lN_mul, ↓reduceIte, bt_do, bd_do, jn_eq, bI_z, gd_nI, gd_0, gd_1, nI_clamp, nI_add, nI_1, pk_mul, Nat.add_zero, Nat.zero_add, ile_t, ile_f, ilt_t, ilt_f, ieq_t, ieq_f, iz_t, iz_f, ilt0, ige0, im1, Bool.false_eq_true, Bool.true_eq_false, if_true, if_false]
  · rintro z rfl
    refine ⟨_, rfl, fun rec => ?_⟩
    simp (disch := omega) only [ubX4_allCases_1, hw, ↓reduceIte, bt_do, bd_do, jn_eq, bI_z, gd_nI, gd_0, gd_1, nI_clamp, nI_add, nI_1, pk_mul, Nat.add_zero, Nat.zero_add, ile_t, ile_f, ilt_t, ilt_f, ieq_t, ieq_f, iz_t, iz_f, ilt0, ige0, im1, Bool.false_eq_true, Bool.true_eq_false, if_true, if_false]
/-! readable when some are gone -/
def rdC (A : AH) (g c : Nat) : Bool := any5 (fun s => aAble A c s && !g.testBit s)
def rdN (A : AH) (f g : Nat) : Nat → Bool
  | 0 => true
  | k + 1 => rdN A f g k && rdC A g (aCh A f k)
theorem rdN_f {A : AH} {f g j : Nat} (h : rdN A f g j = false) : ∀ d, rdN A f g (j + d) = false := by
  intro d
  induction d with
  | zero => exact h
  | succ d ih =>
    show rdN A f g (j + d + 1) = false
    rw [rdN, ih]
    rfl
theorem rd_z {A : AH} {g c : Nat} (hg : g < 32) : (nI (mN (aAble A c) 5) &&& (nI g ^^^ (-1)) = 0) = (rdC A g c = false) := by
  have := andn_n (aAble A c) (fun s => g.testBit s)
  rw [g5 g hg] at this
  rw [this, any5_z]
  rfl
theorem readable_c {A : AH} {v : HS} {n : Nat} (h : RC A v) (hA : AI n A) (hn : n ≤ 8000) {f g : Nat} (hf : f < 6) (hg : g < 32) : f_X4_isReadableWithout v (nI f) (nI g) = some (rdN A f g (aMany A f)) := by
  have h30 : aMade A ≤ 30 := hA.2.2.2.2.2.2.1
  have h4 := (hA.2.2.2.2.2.2.2.2.2.2.1 f hf).2.1
  rw [u_X4_isReadableWithout, jn_eq]
  refine lp_gen (fun i z => z = nI i ∧ rdN A f g (min i (aMany A f)) = true) (fun X => X = some (rdN A f g (aMany A f))) 4 (by omega) ⟨rfl, by rw [show min 0 (aMany A f) = 0 by omega]; rfl⟩ ?_ ?_
  · rintro i z hi ⟨rfl, ht⟩
    by_cases e : i < aMany A f
    · have hc := (hA.2.2.2.2.2.2.2.2.2.2.1 f hf).2.2.2.2.2 i e
      have hch := chunkOf_c h.2.2.2.2 hA hf e
      have hab := able_c5 h hA hn hc
      have hz := rd_z (A := A) (c := aCh A f i) hg
      rw [show min i (aMany A f) = i by omega] at ht
      cases er : rdC A g (aCh A f i)
      · right
        have hff : rdN A f g (aMany A f) = false := by
          have := rdN_f (A := A) (f := f) (g := g) (j := i + 1) (by rw [rdN, er, Bool.and_false]) (aMany A f - (i + 1))
          rw [show i + 1 + (aMany A f - (i + 1)) = aMany A f by omega] at this
          exact this
        refine ⟨_, rfl, fun rec => ?_⟩
        rw [hff]
        simp (disch := omega) only [ubX4_isReadableWithout_1, hch, hab, hz, er, ↓reduceIte, bt_do, bd_do, jn_eq, bI_z, gd_nI, gd_0, gd_1, nI_clamp, nI_add, nI_1, pk_mul, Nat.add_zero, Nat.zero_add, ile_t, ile_f, ilt_t, ilt_f, ieq_t, ieq_f, iz_t, iz_f, ilt0, ige0, im1, Bool.false_eq_true, Bool.true_eq_false, if_true, if_false]
      · left
        refine ⟨nI (i + 1), ⟨rfl, by rw [show min (i + 1) (aMany A f) = i + 1 by omega, rdN, ht, er]; rfl⟩, fun rec => ?_⟩
        simp (disch := omega) only [ubX4_isReadableWithout_1, hch, hab, hz, er, ↓reduceIte, bt_do, bd_do, jn_eq, bI_z, gd_nI, gd_0, gd_1, nI_clamp, nI_add, nI_1, pk_mul, Nat.add_zero, Nat.zero_add, ile_t, ile_f, ilt_t, ilt_f, ieq_t, ieq_f, iz_t, iz_f, ilt0, ige0, im1, Bool.false_eq_true, Bool.true_eq_false, if_true, if_false]
    · have hch := chunkOf_none h.2.2.2.2 hf (k := i) (by omega) hi
      left
      refine ⟨nI (i + 1), ⟨rfl, by rw [show min (i + 1) (aMany A f) = min i (aMany A f) by omega]; exact ht⟩, fun rec => ?_⟩
      simp (disch := omega) only [ubX4_isReadableWithout_1, hch, ↓reduceIte, bt_do, bd_do, jn_eq, bI_z, gd_nI, gd_0, gd_1, nI_clamp, nI_add, nI_1, pk_mul, Nat.add_zero, Nat.zero_add, ile_t, ile_f, ilt_t, ilt_f, ieq_t, ieq_f, iz_t, iz_f, ilt0, ige0, im1, Bool.false_eq_true, Bool.true_eq_false, if_true, if_false]
  · rintro z ⟨rfl, ht⟩
    rw [show min 4 (aMany A f) = aMany A f by omega] at ht
    refine ⟨_, rfl, fun rec => ?_⟩
    rw [ht]
    simp (disch := omega) only [ubX4_isReadableWithout_1, ↓reduceIte, bt_do, bd_do, jn_eq, bI_z, gd_nI, gd_0, gd_1, nI_clamp, nI_add, nI_1, pk_mul, Nat.add_zero, Nat.zero_add, ile_t, ile_f, ilt_t, ilt_f, ieq_t, ieq_f, iz_t, iz_f, ilt0, ige0, im1, Bool.false_eq_true, Bool.true_eq_false, if_true, if_false]
theorem readable_m {A : AH} {md : MD} {n : Nat} (h : RM A md.1) (hA : AI n A) (hn : n ≤ 8000) {f g : Nat} (hf : f < 6) (hg : g < 32) : f_X11_isReadable md (nI f) (nI g) = some (rdN A f g (aMany A f)) := by
  have h30 : aMade A ≤ 30 := hA.2.2.2.2.2.2.1
  have h4 := (hA.2.2.2.2.2.2.2.2.2.2.1 f hf).2.1
  have hmr := many_r h hf
  rw [u_X11_isReadable, jn_eq]
  refine lp_gen (fun i z => z = (rdN A f g i, nI i)) (fun X => X = some (rdN A f g (aMany A f))) (aMany A f) (by omega) rfl ?_ ?_
  · rintro i z hi rfl
    left
    refine ⟨_, rfl, fun rec => ?_⟩
    have hc := (hA.2.2.2.2.2.2.2.2.2.2.1 f hf).2.2.2.2.2 i hi
    have hch := chunkOf_m h hA hf hi
    have hab := ables_m5 h hA hn hc
    have hz := rd_z (A := A) (c := aCh A f i) hg
    rw [rdN]
    cases e : rdN A f g i
    · simp (disch := omega) only [ubX11_isReadable_1, hmr, Bool.false_and, ↓reduceIte, bt_do, bd_do, jn_eq, bI_z, gd_nI, gd_0, gd_1, nI_clamp, nI_add, nI_1, pk_mul, Nat.add_zero, Nat.zero_add, ile_t, ile_f, ilt_t, ilt_f, ieq_t, ieq_f, iz_t, iz_f, ilt0, ige0, im1, Bool.false_eq_true, Bool.true_eq_false, if_true, if_false]
    · cases er : rdC A g (aCh A f i)
      · simp (disch := omega) only [ubX11_isReadable_1, hmr, hch, hab, hz, er, Bool.and_false, ↓reduceIte, bt_do, bd_do, jn_eq, bI_z, gd_nI, gd_0, gd_1, nI_clamp, nI_add, nI_1, pk_mul, Nat.add_zero, Nat.zero_add, ile_t, ile_f, ilt_t, ilt_f, ieq_t, ieq_f, iz_t, iz_f, ilt0, ige0, im1, Bool.false_eq_true, Bool.true_eq_false, if_true, if_false]
      · simp (disch := omega) only [ubX11_isReadable_1, hmr, hch, hab, hz, er, Bool.and_true, ↓reduceIte, bt_do, bd_do, jn_eq, bI_z, gd_nI, gd_0, gd_1, nI_clamp, nI_add, nI_1, pk_mul, Nat.add_zero, Nat.zero_add, ile_t, ile_f, ilt_t, ilt_f, ieq_t, ieq_f, iz_t, iz_f, ilt0, ige0, im1, Bool.false_eq_true, Bool.true_eq_false, if_true, if_false]
  · rintro z rfl
    refine ⟨_, rfl, fun rec => ?_⟩
    simp (disch := omega) only [ubX11_isReadable_1, hmr, ↓reduceIte, bt_do, bd_do, jn_eq, bI_z, gd_nI, gd_0, gd_1, nI_clamp, nI_add, nI_1, pk_mul, Nat.add_zero, Nat.zero_add, ile_t, ile_f, ilt_t, ilt_f, ieq_t, ieq_f, iz_t, iz_f, ilt0, ige0, im1, Bool.false_eq_true, Bool.true_eq_false, if_true, if_false]
/-! above, below -/
def abG (A : AH) (f p g : Nat) : Nat := if subB A g = true then (if rdN A f g (aMany A f) = true then cs A g p else 0) else 0
def beG (A : AH) (p g : Nat) : Nat := if subB A g = true then cs A g p else 0
theorem readableCases_c {A : AH} {v : HS} {n : Nat} (h : RC A v) (hA : AI n A) (hn : n ≤ 8000) {f p : Nat} (hf : f < 6) (hp : p ≤ 10) : f_X4_readableCases v (nI f) (nI p) = some (lN (sN (abG A f p) 32)) := by
  rw [u_X4_readableCases, jn_eq]
  refine lp_gen (fun i z => z = (lN (sN (abG A f p) i), nI i)) (fun X => X = some (lN (sN (abG A f p) 32))) 32 (by omega) rfl ?_ ?_
  · rintro i z hi rfl
    left
    refine ⟨_, rfl, fun rec => ?_⟩
    have hsb := sub_g (A := A) hi
    have hrd := readable_c h hA hn hf hi
    have hca := casesOf_c h hA hi hp
    rw [sN]
    unfold abG
    cases e : subB A i
    · rw [if_neg (by decide), Nat.add_zero]
      simp (disch := omega) only [ubX4_readableCases_1, ups_c5 h hA, hsb, e, ↓reduceIte, bt_do, bd_do, jn_eq, bI_z, gd_nI, gd_0, gd_1, nI_clamp, nI_add, nI_1, pk_mul, Nat.add_zero, Nat.zero_add, ile_t, ile_f, ilt_t, ilt_f, ieq_t, ieq_f, iz_t, iz_f, ilt0, ige0, im1, Bool.false_eq_true, Bool.true_eq_false, if_true, if_false]
    · rw [if_pos rfl]
      cases er : rdN A f i (aMany A f)
      · rw [er] at hrd
        rw [if_neg (by decide), Nat.add_zero]
        simp (disch := omega) only [ubX4_readableCases_1, ups_c5 h hA, hsb, e, hrd, ↓reduceIte, bt_do, bd_do, jn_eq, bI_z, gd_nI, gd_0, gd_1, nI_clamp, nI_add, nI_1, pk_mul, Nat.add_zero, Nat.zero_add, ile_t, ile_f, ilt_t, ilt_f, ieq_t, ieq_f, iz_t, iz_f, ilt0, ige0, im1, Bool.false_eq_true, Bool.true_eq_false, if_true, if_false]
      · rw [er] at hrd
        rw [if_pos rfl]
        simp (disch := omega) only [ubX4_readableCases_1, ups_c5 h hA, hsb, e, hrd, hca, lN_add, ↓reduceIte, bt_do, bd_do, jn_eq, bI_z, gd_nI, gd_0, gd_1, nI_clamp, nI_add, nI_1, pk_mul, Nat.add_zero, Nat.zero_add, ile_t, ile_f, ilt_t, ilt_f, ieq_t, ieq_f, iz_t, iz_f, ilt0, ige0, im1, Bool.false_eq_true, Bool.true_eq_false, if_true, if_false]
  · rintro z rfl
    refine ⟨_, rfl, fun rec => ?_⟩
    simp (disch := omega) only [ubX4_readableCases_1, ↓reduceIte, bt_do, bd_do, jn_eq, bI_z, gd_nI, gd_0, gd_1, nI_clamp, nI_add, nI_1, pk_mul, Nat.add_zero, Nat.zero_add, ile_t, ile_f, ilt_t, ilt_f, ieq_t, ieq_f, iz_t, iz_f, ilt0, ige0, im1, Bool.false_eq_true, Bool.true_eq_false, if_true, if_false]
theorem odds_loop_m {A : AH} {md : MD} {n : Nat} (h : RM A md.1) (hA : AI n A) (hn : n ≤ 8000) {f p : Nat} (hf : f < 6) (hp : p ≤ 10) (K : (Int64 × Int64 × Int32) → Option Int64) : lpF (bX11_odds_8 md (nI f) (nI p) K) FU (lN 0, lN 0, nI 0) = K (lN (sN (abG A f p) 32), lN (sN (beG A p) 32), nI 32) := by
  refine lp_gen (fun i z => z = (lN (sN (abG A f p) i), lN (sN (beG A p) i), nI i)) (fun X => X = K (lN (sN (abG A f p) 32), lN (sN (beG A p) 32), nI 32)) 32 (by omega) rfl ?_ ?_
  · rintro i z hi rfl
    left
    refine ⟨_, rfl, fun rec => ?_⟩
    have hup := ups_m5 h hA
    have hsb := sub_g (A := A) hi
    have hrd := readable_m h hA hn hf hi
    have hin : ∀ (q8 : Int64 × Int64 × Int32) (K2 : (Int64 × Int32) → Option Int64), q8.2.2 = nI i → lpF (bX11_odds_16 md q8 (nI p) K2) FU (lN 1, nI 0) = K2 (lN (cs A i p), nI 5) := by
      intro q8 K2 hq8
      unfold cs
      refine lp_gen (fun j z => z = (lN (prN (csG A i p) j), nI j)) (fun X => X = K2 (lN (prN (csG A i p) 5), nI 5)) 5 (by omega) rfl ?_ ?_
      · rintro j z hj rfl
        left
        refine ⟨_, rfl, fun rec2 => ?_⟩
        have hu := has_n (aUpB A) hj
        have hI := has_g hi hj
        rw [prN]
        unfold csG
        cases eu : aUpB A j
        · rw [eu] at hu
          rw [if_neg (by decide)]
          simp (disch := omega) only [ubX11_odds_16, hup, hu, lN_mul, ↓reduceIte, bt_do, bd_do, jn_eq, bI_z, gd_nI, gd_0, gd_1, nI_clamp, nI_add, nI_1, pk_mul, Nat.add_zero, Nat.zero_add, ile_t, ile_f, ilt_t, ilt_f, ieq_t, ieq_f, iz_t, iz_f, ilt0, ige0, im1, Bool.false_eq_true, Bool.true_eq_false, if_true, if_false]
        · rw [eu] at hu
          rw [if_pos rfl]
          cases e : i.testBit j
          · rw [e] at hI
            rw [if_neg (by decide)]
            simp (disch := omega) only [ubX11_odds_16, hup, hu, hq8, hI, pk_sub, nI_l, lN_mul, ↓reduceIte, bt_do, bd_do, jn_eq, bI_z, gd_nI, gd_0, gd_1, nI_clamp, nI_add, nI_1, pk_mul, Nat.add_zero, Nat.zero_add, ile_t, ile_f, ilt_t, ilt_f, ieq_t, ieq_f, iz_t, iz_f, ilt0, ige0, im1, Bool.false_eq_true, Bool.true_eq_false, if_true, if_false]
          · rw [e] at hI
            rw [if_pos rfl]
            simp (disch := omega) only [ubX11_odds_16, hup, hu, hq8, hI, nI_l, lN_mul, ↓reduceIte, bt_do, bd_do, jn_eq, bI_z, gd_nI, gd_0, gd_1, nI_clamp, nI_add, nI_1, pk_mul, Nat.add_zero, Nat.zero_add, ile_t, ile_f, ilt_t, ilt_f, ieq_t, ieq_f, iz_t, iz_f, ilt0, ige0, im1, Bool.false_eq_true, Bool.true_eq_false, if_true, if_false]
      · rintro z rfl
        refine ⟨_, rfl, fun rec2 => ?_⟩
        simp (disch := omega) only [ubX11_odds_16, ↓reduceIte, bt_do, bd_do, jn_eq, bI_z, gd_nI, gd_0, gd_1, nI_clamp, nI_add, nI_1, pk_mul, Nat.add_zero, Nat.zero_add, ile_t, ile_f, ilt_t, ilt_f, ieq_t, ieq_f, iz_t, iz_f, ilt0, ige0, im1, Bool.false_eq_true, Bool.true_eq_false, if_true, if_false]
    rw [sN, sN]
    unfold abG beG
    cases e : subB A i
    · rw [if_neg (by decide), if_neg (by decide), Nat.add_zero, Nat.add_zero]
      simp (disch := omega) only [ubX11_odds_8, hup, hsb, e, ↓reduceIte, bt_do, bd_do, jn_eq, bI_z, gd_nI, gd_0, gd_1, nI_clamp, nI_add, nI_1, pk_mul, Nat.add_zero, Nat.zero_add, ile_t, ile_f, ilt_t, ilt_f, ieq_t, ieq_f, iz_t, iz_f, ilt0, ige0, im1, Bool.false_eq_true, Bool.true_eq_false, if_true, if_false]
    · rw [if_pos rfl, if_pos rfl]
      have hx := hin (lN (sN (fun g => if subB A g = true then (if rdN A f g (aMany A f) = true then cs A g p else 0) else 0) i), lN (sN (fun g => if subB A g = true then cs A g p else 0) i), nI i)
      cases er : rdN A f i (aMany A f)
      · rw [er] at hrd
        rw [if_neg (by decide)]
        simp (disch := omega) only [ubX11_odds_8, hup, hsb, e, ↓reduceIte, bt_do, bd_do, jn_eq, bI_z, gd_nI, gd_0, gd_1, nI_clamp, nI_add, nI_1, pk_mul, Nat.add_zero, Nat.zero_add, ile_t, ile_f, ilt_t, ilt_f, ieq_t, ieq_f, iz_t, iz_f, ilt0, ige0, im1, Bool.false_eq_true, Bool.true_eq_false, if_true, if_false]
        rw [hin _ _ rfl]
        simp (disch := omega) only [hrd, lN_add, ↓reduceIte, bt_do, bd_do, jn_eq, bI_z, gd_nI, gd_0, gd_1, nI_clamp, nI_add, nI_1, pk_mul, Nat.add_zero, Nat.zero_add, ile_t, ile_f, ilt_t, ilt_f, ieq_t, ieq_f, iz_t, iz_f, ilt0, ige0, im1, Bool.false_eq_true, Bool.true_eq_false, if_true, if_false]
      · rw [er] at hrd
        rw [if_pos rfl]
        simp (disch := omega) only [ubX11_odds_8, hup, hsb, e, ↓reduceIte, bt_do, bd_do, jn_eq, bI_z, gd_nI, gd_0, gd_1, nI_clamp, nI_add, nI_1, pk_mul, Nat.add_zero, Nat.zero_add, ile_t, ile_f, ilt_t, ilt_f, ieq_t, ieq_f, iz_t, iz_f, ilt0, ige0, im1, Bool.false_eq_true, Bool.true_eq_false, if_true, if_false]
        rw [hin _ _ rfl]
        simp (disch := omega) only [hrd, lN_add, ↓reduceIte, bt_do, bd_do, jn_eq, bI_z, gd_nI, gd_0, gd_1, nI_clamp, nI_add, nI_1, pk_mul, Nat.add_zero, Nat.zero_add, ile_t, ile_f, ilt_t, ilt_f, ieq_t, ieq_f, iz_t, iz_f, ilt0, ige0, im1, Bool.false_eq_true, Bool.true_eq_false, if_true, if_false]
  · rintro z rfl
    refine ⟨_, rfl, fun rec => ?_⟩
    simp (disch := omega) only [ubX11_odds_8, ↓reduceIte, bt_do, bd_do, jn_eq, bI_z, gd_nI, gd_0, gd_1, nI_clamp, nI_add, nI_1, pk_mul, Nat.add_zero, Nat.zero_add, ile_t, ile_f, ilt_t, ilt_f, ieq_t, ieq_f, iz_t, iz_f, ilt0, ige0, im1, Bool.false_eq_true, Bool.true_eq_false, if_true, if_false]
/-- below, as the class and as the model adds it up -/
def csD (u0 u1 u2 u3 u4 : Bool) (g p : Nat) : Nat := (if u0 = true then (if g.testBit 0 = true then p else 10 - p) else 1) * (if u1 = true then (if g.testBit 1 = true then p else 10 - p) else 1) * (if u2 = true then (if g.testBit 2 = true then p else 10 - p) else 1) * (if u3 = true then (if g.testBit 3 = true then p else 10 - p) else 1) * (if u4 = true then (if g.testBit 4 = true then p else 10 - p) else 1)
def sbD (u0 u1 u2 u3 u4 : Bool) (g : Nat) : Bool := !((g.testBit 0 && !u0) || (g.testBit 1 && !u1) || (g.testBit 2 && !u2) || (g.testBit 3 && !u3) || (g.testBit 4 && !u4))
theorem below_d : ∀ p, p < 11 → ∀ u0 u1 u2 u3 u4 : Bool, sN (fun g => if sbD u0 u1 u2 u3 u4 g = true then csD u0 u1 u2 u3 u4 g p else 0) 32 = (if u0 = true then 10 else 1) * (if u1 = true then 10 else 1) * (if u2 = true then 10 else 1) * (if u3 = true then 10 else 1) * (if u4 = true then 10 else 1) := by decide +kernel
theorem below_e {A : AH} {p : Nat} (hp : p ≤ 10) : sN (beG A p) 32 = prN (alG A) 5 := by
  have h := below_d p (by omega) (aUpB A 0) (aUpB A 1) (aUpB A 2) (aUpB A 3) (aUpB A 4)
  have e1 : beG A p = fun g => if sbD (aUpB A 0) (aUpB A 1) (aUpB A 2) (aUpB A 3) (aUpB A 4) g = true then csD (aUpB A 0) (aUpB A 1) (aUpB A 2) (aUpB A 3) (aUpB A 4) g p else 0 := by
    funext g
    unfold beG subB any5 sbD cs csD
    simp only [prN, csG, Nat.one_mul]
  have e2 : prN (alG A) 5 = (if aUpB A 0 = true then 10 else 1) * (if aUpB A 1 = true then 10 else 1) * (if aUpB A 2 = true then 10 else 1) * (if aUpB A 3 = true then 10 else 1) * (if aUpB A 4 = true then 10 else 1) := by
    simp only [prN, alG, Nat.one_mul]
  rw [e1, e2]
  exact h
theorem below_b {A : AH} : 1 ≤ prN (alG A) 5 ∧ prN (alG A) 5 ≤ 100000 := by
  have h : ∀ u0 u1 u2 u3 u4 : Bool, 1 ≤ (if u0 = true then 10 else 1) * (if u1 = true then 10 else 1) * (if u2 = true then 10 else 1) * (if u3 = true then 10 else 1) * (if u4 = true then 10 else 1) ∧ (if u0 = true then 10 else 1) * (if u1 = true then 10 else 1) * (if u2 = true then 10 else 1) * (if u3 = true then 10 else 1) * (if u4 = true then 10 else 1) ≤ 100000 := by decide +kernel
  have e2 : prN (alG A) 5 = (if aUpB A 0 = true then 10 else 1) * (if aUpB A 1 = true then 10 else 1) * (if aUpB A 2 = true then 10 else 1) * (if aUpB A 3 = true then 10 else 1) * (if aUpB A 4 = true then 10 else 1) := by
    simp only [prN, alG, Nat.one_mul]
  rw [e2]
  exact h _ _ _ _ _
theorem above_b {A : AH} {f p : Nat} (hp : p ≤ 10) : sN (abG A f p) 32 ≤ prN (alG A) 5 := by
  rw [← below_e (A := A) hp]
  have key : ∀ n, sN (abG A f p) n ≤ sN (beG A p) n := by
    intro n
    induction n with
    | zero => exact Nat.le_refl _
    | succ n ih =>
      rw [sN, sN]
      have : abG A f p n ≤ beG A p n := by
        unfold abG beG
        split
        · split <;> omega
        · omega
      omega
  exact key 32
/-! the greatest common divisor -/
def GI (i x y G : Nat) : Prop := Nat.gcd x y = G ∧ x ≤ 100000 ∧ y ≤ 100000 ∧ (1 ≤ i → y < x ∧ x * y * 2 ^ (i - 1) ≤ 10000000000)
theorem GI.step {i x y G : Nat} (h : GI i x y G) (hy : 0 < y) : GI (i + 1) y (x % y) G := by
  obtain ⟨h1, h2, h3, h4⟩ := h
  have hm := Nat.mod_lt x hy
  refine ⟨?_, h3, by omega, fun _ => ⟨hm, ?_⟩⟩
  · rw [← h1, Nat.gcd_comm x y, Nat.gcd_rec y x, Nat.gcd_comm]
  · show y * (x % y) * 2 ^ (i + 1 - 1) ≤ _
    rw [Nat.add_sub_cancel]
    by_cases e : i = 0
    · subst e
      have : y * (x % y) ≤ 100000 * 100000 := Nat.mul_le_mul h3 (by omega)
      omega
    · have h5 := h4 (by omega)
      have h6 : 2 * (x % y) ≤ x := by
        have h7 := Nat.div_add_mod x y
        have h8 : 1 ≤ x / y := Nat.div_pos (by omega) hy
        have h9 : y * 1 ≤ y * (x / y) := Nat.mul_le_mul_left _ h8
        omega
      have h7 : 2 * (y * (x % y)) ≤ x * y := by
        have := Nat.mul_le_mul_left y h6
        rw [Nat.mul_comm x y]
        calc 2 * (y * (x % y)) = y * (2 * (x % y)) := by ac_rfl
          _ ≤ y * x := this
      have h8 : 2 ^ i = 2 * 2 ^ (i - 1) := by
        rw [← Nat.pow_succ']
        congr 1
        omega
      rw [h8]
      calc y * (x % y) * (2 * 2 ^ (i - 1)) = 2 * (y * (x % y)) * 2 ^ (i - 1) := by ac_rfl
        _ ≤ x * y * 2 ^ (i - 1) := Nat.mul_le_mul_right _ h7
        _ ≤ 10000000000 := h5.2
theorem GI.end {x y G : Nat} (h : GI 40 x y G) : y = 0 := by
  have h5 := h.2.2.2 (by omega)
  by_cases e : y = 0
  · exact e
  · exfalso
    have h6 : 1 * 1 ≤ x * y := Nat.mul_le_mul (by omega) (by omega)
    have h7 : 1 * 2 ^ (40 - 1) ≤ x * y * 2 ^ (40 - 1) := Nat.mul_le_mul_right _ (by omega)
    have h8 := h5.2
    have e2 : (2 : Nat) ^ (40 - 1) = 549755813888 := by decide
    omega
theorem gcd_c {x y : Nat} (hx : x ≤ 100000) (hy : y ≤ 100000) : f_X4_commonDivisor (lN x) (lN y) = some (lN (Nat.gcd x y)) := by
  rw [u_X4_commonDivisor, jn_eq]
  generalize hG : Nat.gcd x y = G
  refine lp_gen (fun i z => ∃ x y, z = (lN x, lN y, nI i) ∧ GI i x y G) (fun X => X = some (lN G)) 40 (by omega) ⟨x, y, rfl, hG, hx, hy, fun h => by omega⟩ ?_ ?_
  · rintro i z hi ⟨x, y, rfl, hI⟩
    by_cases e : y = 0
    · right
      subst e
      have : x = G := by have := hI.1; rw [Nat.gcd_zero_right] at this; exact this
      subst this
      refine ⟨_, rfl, fun rec => ?_⟩
      simp (disch := omega) only [ubX4_commonDivisor_1, ↓reduceIte, bt_do, bd_do, jn_eq, bI_z, gd_nI, gd_0, gd_1, nI_clamp, nI_add, nI_1, pk_mul, Nat.add_zero, Nat.zero_add, ile_t, ile_f, ilt_t, ilt_f, ieq_t, ieq_f, iz_t, iz_f, ilt0, ige0, im1, Bool.false_eq_true, Bool.true_eq_false, if_true, if_false, lc_ge_t, lc_ge_f, lc_eq_t, lc_eq_f, lc_le_t, lc_le_f, lc_gt_t, lc_gt_f, lc_lt_t, lc_lt_f, nI_l, lN_i, lN_add, lN_1]
    · left
      have h2 := hI.2.1
      have h3 := hI.2.2.1
      have hr := pk_lRem (a := x) (b := y) (by omega) (by omega) (by omega)
      have hne : ¬ lN y = 0 := fun q => e ((lN_eq (a := y) (b := 0) (by omega) (by omega)).mp q)
      refine ⟨(lN y, lN (x % y), nI (i + 1)), ⟨y, x % y, rfl, hI.step (by omega)⟩, fun rec => ?_⟩
      simp (disch := omega) only [ubX4_commonDivisor_1, hr, gdL_do hne, ↓reduceIte, bt_do, bd_do, jn_eq, bI_z, gd_nI, gd_0, gd_1, nI_clamp, nI_add, nI_1, pk_mul, Nat.add_zero, Nat.zero_add, ile_t, ile_f, ilt_t, ilt_f, ieq_t, ieq_f, iz_t, iz_f, ilt0, ige0, im1, Bool.false_eq_true, Bool.true_eq_false, if_true, if_false, lc_ge_t, lc_ge_f, lc_eq_t, lc_eq_f, lc_le_t, lc_le_f, lc_gt_t, lc_gt_f, lc_lt_t, lc_lt_f, nI_l, lN_i, lN_add, lN_1]
  · rintro z ⟨x, y, rfl, hI⟩
    have e := hI.end
    subst e
    have : x = G := by have := hI.1; rw [Nat.gcd_zero_right] at this; exact this
    subst this
    refine ⟨_, rfl, fun rec => ?_⟩
    simp (disch := omega) only [ubX4_commonDivisor_1, ↓reduceIte, bt_do, bd_do, jn_eq, bI_z, gd_nI, gd_0, gd_1, nI_clamp, nI_add, nI_1, pk_mul, Nat.add_zero, Nat.zero_add, ile_t, ile_f, ilt_t, ilt_f, ieq_t, ieq_f, iz_t, iz_f, ilt0, ige0, im1, Bool.false_eq_true, Bool.true_eq_false, if_true, if_false, lc_ge_t, lc_ge_f, lc_eq_t, lc_eq_f, lc_le_t, lc_le_f, lc_gt_t, lc_gt_f, lc_lt_t, lc_lt_f, nI_l, lN_i, lN_add, lN_1]
theorem gcd_m {x y : Nat} (hx : x ≤ 100000) (hy : y ≤ 100000) : f_X11_gcd (lN x) (lN y) = some (lN (Nat.gcd x y)) := by
  rw [u_X11_gcd, jn_eq]
  generalize hG : Nat.gcd x y = G
  refine lp_gen (fun i z => ∃ x y, z = (lN x, lN y) ∧ GI i x y G) (fun X => X = some (lN G)) 40 (by omega) ⟨x, y, rfl, hG, hx, hy, fun h => by omega⟩ ?_ ?_
  · rintro i z hi ⟨x, y, rfl, hI⟩
    by_cases e : y = 0
    · right
      subst e
      have : x = G := by have := hI.1; rw [Nat.gcd_zero_right] at this; exact this
      subst this
      refine ⟨_, rfl, fun rec => ?_⟩
      simp (disch := omega) only [ubX11_gcd_1, ↓reduceIte, bt_do, bd_do, jn_eq, bI_z, gd_nI, gd_0, gd_1, nI_clamp, nI_add, nI_1, pk_mul, Nat.add_zero, Nat.zero_add, ile_t, ile_f, ilt_t, ilt_f, ieq_t, ieq_f, iz_t, iz_f, ilt0, ige0, im1, Bool.false_eq_true, Bool.true_eq_false, if_true, if_false, lc_ge_t, lc_ge_f, lc_eq_t, lc_eq_f, lc_le_t, lc_le_f, lc_gt_t, lc_gt_f, lc_lt_t, lc_lt_f, nI_l, lN_i, lN_add, lN_1]
    · left
      have h2 := hI.2.1
      have h3 := hI.2.2.1
      have hr := pk_lRem (a := x) (b := y) (by omega) (by omega) (by omega)
      have hne : ¬ lN y = 0 := fun q => e ((lN_eq (a := y) (b := 0) (by omega) (by omega)).mp q)
      refine ⟨(lN y, lN (x % y)), ⟨y, x % y, rfl, hI.step (by omega)⟩, fun rec => ?_⟩
      simp (disch := omega) only [ubX11_gcd_1, hr, gdL_do hne, ↓reduceIte, bt_do, bd_do, jn_eq, bI_z, gd_nI, gd_0, gd_1, nI_clamp, nI_add, nI_1, pk_mul, Nat.add_zero, Nat.zero_add, ile_t, ile_f, ilt_t, ilt_f, ieq_t, ieq_f, iz_t, iz_f, ilt0, ige0, im1, Bool.false_eq_true, Bool.true_eq_false, if_true, if_false, lc_ge_t, lc_ge_f, lc_eq_t, lc_eq_f, lc_le_t, lc_le_f, lc_gt_t, lc_gt_f, lc_lt_t, lc_lt_f, nI_l, lN_i, lN_add, lN_1]
  · rintro z ⟨x, y, rfl, hI⟩
    have e := hI.end
    subst e
    have : x = G := by have := hI.1; rw [Nat.gcd_zero_right] at this; exact this
    subst this
    refine ⟨_, rfl, fun rec => ?_⟩
    simp (disch := omega) only [ubX11_gcd_1, ↓reduceIte, bt_do, bd_do, jn_eq, bI_z, gd_nI, gd_0, gd_1, nI_clamp, nI_add, nI_1, pk_mul, Nat.add_zero, Nat.zero_add, ile_t, ile_f, ilt_t, ilt_f, ieq_t, ieq_f, iz_t, iz_f, ilt0, ige0, im1, Bool.false_eq_true, Bool.true_eq_false, if_true, if_false, lc_ge_t, lc_ge_f, lc_eq_t, lc_eq_f, lc_le_t, lc_le_f, lc_gt_t, lc_gt_f, lc_lt_t, lc_lt_f, nI_l, lN_i, lN_add, lN_1]
