/-! PURE 85: copies as the model changes them; failures; all copies of a chunk -/
theorem up_same {α : Type} (D : Nat → α) (k : Nat) : upO D k (D k) = D := by
  funext j
  by_cases e : j = k
  · rw [e, up_s]
  · rw [up_n e]
abbrev spFail (A : AH) (s : Nat) : AH := setSpo A s (aSpo A s - 1)
theorem spFail_0 {A : AH} {s : Nat} (h : ¬ 1 ≤ aSpo A s) : spFail A s = A := by
  have e : upO (aSpo A) s (aSpo A s - 1) = aSpo A := by
    rw [show aSpo A s - 1 = aSpo A s by omega, up_same]
  show sSpo A (upO (aSpo A) s (aSpo A s - 1)) = A
  rw [e]
theorem AI.fail {n : Nat} {A : AH} (h : AI n A) {s : Nat} (hs : s < 5) : AI n (spFail A s) := h.spo (by have := (h.2.2.2.2.2.2.2.1 s hs).2; omega)
theorem fails_m {A : AH} {b : Nat → Int64} {n : Nat} (h : RM A b) (hA : AI n A) {s : Nat} (hs : s < 5) : ∃ b', f_X11_fails b (nI s) = some (decide (1 ≤ aSpo A s), b') ∧ RM (spFail A s) b' := by
  have h1 := (h.2.1 s hs).2.2
  have h9 := (hA.2.2.2.2.2.2.2.1 s hs).2
  refine ⟨vp_updL b (7 + 3 * s + 2) (lN (aSpo A s - 1)), ?_, h.spo hA.2.2.2.2.2.2.1 hs _⟩
  by_cases e : 1 ≤ aSpo A s
  · simp (disch := omega) only [u_X11_fails, ↓reduceIte, bt_do, bd_do, jn_eq, bI_z, gd_nI, gd_0, gd_1, nI_clamp, nI_add, nI_1, pk_mul, Nat.add_zero, Nat.zero_add, ile_t, ile_f, ilt_t, ilt_f, ieq_t, ieq_f, iz_t, iz_f, ilt0, ige0, im1, Bool.false_eq_true, Bool.true_eq_false, if_true, if_false, lc_ge_t, lc_ge_f, lc_eq_t, lc_eq_f, lc_le_t, lc_le_f, lc_gt_t, lc_gt_f, lc_lt_t, lc_lt_f, nI_l, lN_i, lN_add, lN_1, h1, lN_sub, decide_eq_true e]
  · have e0 : aSpo A s = 0 := by omega
    simp (disch := omega) only [u_X11_fails, ↓reduceIte, bt_do, bd_do, jn_eq, bI_z, gd_nI, gd_0, gd_1, nI_clamp, nI_add, nI_1, pk_mul, Nat.add_zero, Nat.zero_add, ile_t, ile_f, ilt_t, ilt_f, ieq_t, ieq_f, iz_t, iz_f, ilt0, ige0, im1, Bool.false_eq_true, Bool.true_eq_false, if_true, if_false, lc_ge_t, lc_ge_f, lc_eq_t, lc_eq_f, lc_le_t, lc_le_f, lc_gt_t, lc_gt_f, lc_lt_t, lc_lt_f, nI_l, lN_i, lN_add, lN_1, h1, lN_sub, e0, decide_eq_false]
theorem fails_c {A : AH} {x : SV} {n : Nat} (h : RSV A x) (hA : AI n A) {s : Nat} (hs : s < nS A) : ∃ y, f_X8_failsNow x (nI s) = some (decide (1 ≤ aSpo A s), y) ∧ RSV (spFail A s) y := by
  have h5 : nS A ≤ 5 := hA.1
  have h9 := (hA.2.2.2.2.2.2.2.1 s (by omega)).2
  have h1 := (h.2 s (by omega)).2.1
  by_cases e : 1 ≤ aSpo A s
  · refine ⟨(x.1, x.2.1, x.2.2.1, upd x.2.2.2 s (nI (aSpo A s - 1))), ?_, h.1, fun s' hs' => ⟨(h.2 s' hs').1, ?_, (h.2 s' hs').2.2⟩⟩
    · simp (disch := omega) only [u_X8_failsNow, has_sv h, hasP_of hs, ↓reduceIte, bt_do, bd_do, jn_eq, bI_z, gd_nI, gd_0, gd_1, nI_clamp, nI_add, nI_1, pk_mul, Nat.add_zero, Nat.zero_add, ile_t, ile_f, ilt_t, ilt_f, ieq_t, ieq_f, iz_t, iz_f, ilt0, ige0, im1, Bool.false_eq_true, Bool.true_eq_false, if_true, if_false, h1, pk_sub, decide_eq_true e]
    · show upd x.2.2.2 s _ s' = nI (upO (aSpo A) s (aSpo A s - 1) s')
      by_cases e : s' = s
      · rw [e, pk_us, up_s]
      · rw [pk_un e, up_n e]; exact (h.2 s' hs').2.1
  · refine ⟨x, ?_, by rw [spFail_0 e]; exact h⟩
    simp (disch := omega) only [u_X8_failsNow, has_sv h, hasP_of hs, ↓reduceIte, bt_do, bd_do, jn_eq, bI_z, gd_nI, gd_0, gd_1, nI_clamp, nI_add, nI_1, pk_mul, Nat.add_zero, Nat.zero_add, ile_t, ile_f, ilt_t, ilt_f, ieq_t, ieq_f, iz_t, iz_f, ilt0, ige0, im1, Bool.false_eq_true, Bool.true_eq_false, if_true, if_false, h1, decide_eq_false]
theorem wrC_s (ce : Nat → Nat) (fr i : Nat) (L : Nat → Nat) : upO (wrC ce fr i L) (fr + i) (L i) = wrC ce fr (i + 1) L := by
  funext j
  unfold wrC
  by_cases e : j = fr + i
  · rw [e, up_s, if_pos (by omega), Nat.add_sub_cancel_left]
  · rw [up_n e]
    by_cases e2 : fr ≤ j ∧ j < fr + i
    · rw [if_pos e2, if_pos (by omega)]
    · rw [if_neg e2, if_neg (by omega)]
theorem wrC_0 (ce : Nat → Nat) (fr : Nat) (L : Nat → Nat) : wrC ce fr 0 L = ce := by
  funext j
  unfold wrC
  rw [if_neg (by omega)]
theorem wrC_32 {ce : Nat → Nat} {fr k : Nat} {L : Nat → Nat} {m : Nat} (h : ∀ i, ce i < m) (hL : ∀ j, j < k → L j < m) : ∀ i, wrC ce fr k L i < m := by
  intro i
  unfold wrC
  split
  · exact hL _ (by omega)
  · exact h i
theorem writes_m {A : AH} {b : Nat → Int64} {md : MD} {n : Nat} (h : RM A b) (hA : AI n A) (hn : n ≤ 8000) {s c fr k : Nat} {L : Nat → Nat} (hs : s < 5) (hc : c < aMade A) (hk : fr + k ≤ 9) (hl : md.2.2.2.2.2.2.2.2.2.2.2.2.2.2.2.2 = nI k) (hL : ∀ j, j < k → md.2.2.2.2.2.2.2.2.2.2.2.2.2.2.2.1 j = nI (L j) ∧ L j < 32) {q : CPY} (hq : aCp A c s = some q) : ∃ b', f_X11_writes md b (nI c) (nI s) (nI fr) = some b' ∧ RM (setCp A c s (some (q.1, fr + k, wrC q.2.2 fr k L))) b' := by
  have h30 : aMade A ≤ 30 := hA.2.2.2.2.2.2.1
  have hk1 := cp_ok hA hn hq
  refine ⟨_, ?_, h.cp h30 hc hs _⟩
  rw [u_X11_writes, bd_at (copy_m h h30 hs hc), hq, cpM_some, hl, nI_add, nI_l (by omega), withF_pk hk1.1 hk1.2.1 hk1.2.2.1 (by omega), jn_eq]
  have h0 : lN (pk (q.1, fr + k, q.2.2)) = lN (pk (q.1, fr + k, wrC q.2.2 fr 0 L)) := by rw [wrC_0]
  rw [h0]
  refine lp_ind (b := bX11_writes_2 md (nI fr) _) (fun i => (lN (pk (q.1, fr + k, wrC q.2.2 fr i L)), nI i)) k (by omega) (fun rec => ?_) (fun rec i hi => ?_)
  · simp (disch := omega) only [ubX11_writes_2, hl, ↓reduceIte, bt_do, bd_do, jn_eq, bI_z, gd_nI, gd_0, gd_1, nI_clamp, nI_add, nI_1, pk_mul, Nat.add_zero, Nat.zero_add, ile_t, ile_f, ilt_t, ilt_f, ieq_t, ieq_f, iz_t, iz_f, ilt0, ige0, im1, Bool.false_eq_true, Bool.true_eq_false, if_true, if_false, cpM_some]
  · have hb := wrC_32 (fr := fr) (k := i) (L := L) hk1.2.2.1 (fun j hj => (hL j (by omega)).2)
    have hw := withC_pk (q := (q.1, fr + k, wrC q.2.2 fr i L)) (i := fr + i) (v := L i) hk1.1 (by show fr + k < 16; omega) hb (by omega) (hL i hi).2
    simp (disch := omega) only [ubX11_writes_2, hl, ↓reduceIte, bt_do, bd_do, jn_eq, bI_z, gd_nI, gd_0, gd_1, nI_clamp, nI_add, nI_1, pk_mul, Nat.add_zero, Nat.zero_add, ile_t, ile_f, ilt_t, ilt_f, ieq_t, ieq_f, iz_t, iz_f, ilt0, ige0, im1, Bool.false_eq_true, Bool.true_eq_false, if_true, if_false, (hL i hi).1, nI_l (show L i < 2 ^ 31 by have := (hL i hi).2; omega), hw, wrC_s]
theorem pdC_0 (ce : Nat → Nat) (fr : Nat) : pdC ce fr fr = ce := by
  funext j
  unfold pdC
  rw [if_neg (by omega)]
theorem pdC_s {ce : Nat → Nat} {fr i : Nat} (h : ce (fr + i) = 0) : upO (pdC ce fr (fr + i)) (fr + i) 27 = pdC ce fr (fr + i + 1) := by
  funext j
  unfold pdC
  by_cases e : j = fr + i
  · rw [e, up_s, if_pos ⟨by omega, by omega, h⟩]
  · rw [up_n e]
    by_cases e2 : fr ≤ j ∧ j < fr + i ∧ ce j = 0
    · rw [if_pos e2, if_pos ⟨e2.1, by omega, e2.2.2⟩]
    · rw [if_neg e2, if_neg (fun k => e2 ⟨k.1, by omega, k.2.2⟩)]
theorem pdC_n {ce : Nat → Nat} {fr i : Nat} (h : ¬ ce (fr + i) = 0) : pdC ce fr (fr + i) = pdC ce fr (fr + i + 1) := by
  funext j
  unfold pdC
  by_cases e : j = fr + i
  · rw [e, if_neg (fun k => h k.2.2), if_neg (fun k => h k.2.2)]
  · by_cases e2 : fr ≤ j ∧ j < fr + i ∧ ce j = 0
    · rw [if_pos e2, if_pos ⟨e2.1, by omega, e2.2.2⟩]
    · rw [if_neg e2, if_neg (fun k => e2 ⟨k.1, by omega, k.2.2⟩)]
theorem pdC_at (ce : Nat → Nat) (fr i : Nat) : pdC ce fr (fr + i) (fr + i) = ce (fr + i) := by
  unfold pdC
  rw [if_neg (by omega)]
theorem pdC_32 {ce : Nat → Nat} {fr sz m : Nat} (hm : 27 < m) (h : ∀ i, ce i < m) : ∀ i, pdC ce fr sz i < m := by
  intro i
  unfold pdC
  split
  · exact hm
  · exact h i
theorem pads_in {K8 : (Int64 × Int32) → Option (Nat → Int64)} {q1 : Int32 × (Nat → Int64)} {fr size : Nat} (hz : q1.2 2 = lN size) (hf : fr ≤ size) (h9 : size ≤ 9) {v : Nat} {ce : Nat → Nat} (hv : v < 8192) (hce : ∀ i, ce i < 32) : lpF (bX11_pads_8 q1 K8) FU (lN (pk (v, size, ce)), nI fr) = K8 (lN (pk (v, size, pdC ce fr size)), nI size) := by
  have h0 : lN (pk (v, size, ce)) = lN (pk (v, size, pdC ce fr (fr + 0))) := by rw [Nat.add_zero, pdC_0]
  rw [h0]
  have key := lp_ind (b := bX11_pads_8 q1 K8) (X := K8 (lN (pk (v, size, pdC ce fr size)), nI size)) (fun i => (lN (pk (v, size, pdC ce fr (fr + i))), nI (fr + i))) (size - fr) (by omega) (fun rec => ?_) (fun rec i hi => ?_)
  · exact key
  · simp (disch := omega) only [ubX11_pads_8, ↓reduceIte, bt_do, bd_do, jn_eq, bI_z, gd_nI, gd_0, gd_1, nI_clamp, nI_add, nI_1, pk_mul, Nat.add_zero, Nat.zero_add, ile_t, ile_f, ilt_t, ilt_f, ieq_t, ieq_f, iz_t, iz_f, ilt0, ige0, im1, Bool.false_eq_true, Bool.true_eq_false, if_true, if_false, lc_ge_t, lc_ge_f, lc_eq_t, lc_eq_f, lc_le_t, lc_le_f, lc_gt_t, lc_gt_f, lc_lt_t, lc_lt_f, nI_l, lN_i, lN_add, lN_1, hz, show fr + (size - fr) = size by omega]
  · have hb := pdC_32 (fr := fr) (sz := fr + i) (show 27 < 32 by omega) hce
    have hc := cell_pk (q := (v, size, pdC ce fr (fr + i))) hv (by show size < 16; omega) hb (i := fr + i) (by omega)
    have hat : pdC ce fr (fr + i) (fr + i) = ce (fr + i) := pdC_at ce fr i
    simp only [hat] at hc
    have hce1 := hce (fr + i)
    by_cases e : ce (fr + i) = 0
    · have hw := withC_pk (q := (v, size, pdC ce fr (fr + i))) (i := fr + i) (v := 27) hv (by show size < 16; omega) hb (by omega) (by omega)
      simp (disch := omega) only [ubX11_pads_8, ↓reduceIte, bt_do, bd_do, jn_eq, bI_z, gd_nI, gd_0, gd_1, nI_clamp, nI_add, nI_1, pk_mul, Nat.add_zero, Nat.zero_add, ile_t, ile_f, ilt_t, ilt_f, ieq_t, ieq_f, iz_t, iz_f, ilt0, ige0, im1, Bool.false_eq_true, Bool.true_eq_false, if_true, if_false, lc_ge_t, lc_ge_f, lc_eq_t, lc_eq_f, lc_le_t, lc_le_f, lc_gt_t, lc_gt_f, lc_lt_t, lc_lt_f, nI_l, lN_i, lN_add, lN_1, hz, hc, hw, pdC_s e, Nat.add_assoc]
    · simp (disch := omega) only [ubX11_pads_8, ↓reduceIte, bt_do, bd_do, jn_eq, bI_z, gd_nI, gd_0, gd_1, nI_clamp, nI_add, nI_1, pk_mul, Nat.add_zero, Nat.zero_add, ile_t, ile_f, ilt_t, ilt_f, ieq_t, ieq_f, iz_t, iz_f, ilt0, ige0, im1, Bool.false_eq_true, Bool.true_eq_false, if_true, if_false, lc_ge_t, lc_ge_f, lc_eq_t, lc_eq_f, lc_le_t, lc_le_f, lc_gt_t, lc_gt_f, lc_lt_t, lc_lt_f, nI_l, lN_i, lN_add, lN_1, hz, hc]
      rw [pdC_n e, Nat.add_assoc]
/-! all copies of a chunk -/
abbrev mapCp (A : AH) (c : Nat) (g : Nat → Option CPY) : AH := sCp A (upO (aCp A) c g)
def mapI (A : AH) (c : Nat) (g : Nat → Option CPY) (i : Nat) : AH := mapCp A c (fun s => if s < i then g s else aCp A c s)
theorem mapI_0 (A : AH) (c : Nat) (g : Nat → Option CPY) : mapI A c g 0 = A := by
  have e : (fun s => if s < 0 then g s else aCp A c s) = aCp A c := by
    funext s
    rw [if_neg (by omega)]
  unfold mapI
  show sCp A (upO (aCp A) c (fun s => if s < 0 then g s else aCp A c s)) = A
  rw [e, up_same]
theorem mapI_s (A : AH) (c : Nat) (g : Nat → Option CPY) (i : Nat) : mapI A c g (i + 1) = setCp (mapI A c g i) c i (g i) := by
  have e : upO (aCp A) c (fun s => if s < i + 1 then g s else aCp A c s) = upO (upO (aCp A) c (fun s => if s < i then g s else aCp A c s)) c (upO (fun s => if s < i then g s else aCp A c s) i (g i)) := by
    funext c' s'
    by_cases hc : c' = c
    · subst hc
      rw [up_s, up_s]
      by_cases hs : s' = i
      · subst hs
        rw [up_s, if_pos (by omega)]
      · rw [up_n hs]
        by_cases h2 : s' < i
        · rw [if_pos h2, if_pos (by omega)]
        · rw [if_neg h2, if_neg (by omega)]
    · rw [up_n hc, up_n hc, up_n hc]
  have e2 : aCp (mapI A c g i) c = fun s => if s < i then g s else aCp A c s := up_s _ _ _
  show sCp A _ = sCp A _
  rw [e, e2]
  rfl
theorem mapI_n {A : AH} {c : Nat} {g : Nat → Option CPY} {i : Nat} (h : g i = aCp A c i) : mapI A c g (i + 1) = mapI A c g i := by
  have e : (fun s => if s < i + 1 then g s else aCp A c s) = (fun s => if s < i then g s else aCp A c s) := by
    funext s
    by_cases h2 : s < i
    · rw [if_pos h2, if_pos (by omega)]
    · rw [if_neg h2]
      by_cases h3 : s = i
      · subst h3
        rw [if_pos (by omega), h]
      · rw [if_neg (by omega)]
  unfold mapI
  rw [e]
theorem mapI_e {A : AH} {c : Nat} {g : Nat → Option CPY} {n : Nat} (h : ∀ s, n ≤ s → g s = aCp A c s) : mapI A c g n = mapCp A c g := by
  have e : (fun s => if s < n then g s else aCp A c s) = g := by
    funext s
    by_cases h2 : s < n
    · rw [if_pos h2]
    · rw [if_neg h2, h s (by omega)]
  unfold mapI
  rw [e]
theorem mapI_at (A : AH) (c : Nat) (g : Nat → Option CPY) (i s : Nat) : aCp (mapI A c g i) c s = if s < i then g s else aCp A c s := by
  show upO (aCp A) c (fun s => if s < i then g s else aCp A c s) c s = _
  rw [up_s]
theorem mapI_o {A : AH} {c : Nat} {g : Nat → Option CPY} {i c' : Nat} (h : ¬ c' = c) : aCp (mapI A c g i) c' = aCp A c' := up_n h
theorem AI.map {n : Nat} {A : AH} (h : AI n A) {c : Nat} {g : Nat → Option CPY} (hc : c < aMade A) (hg : ∀ s q, g s = some q → s < nS A ∧ okC (aSize A) (aVer A c) q) : AI n (mapCp A c g) := by
  obtain ⟨a1, a2, a3, a4, a5, a6, a7, a8, a9, a10, a11, a12, a13, a14⟩ := h
  refine ⟨a1, a2, a3, a4, a5, a6, a7, a8, a9, a10, a11, a12, a13, fun c' s' q e => ?_⟩
  have e : upO (aCp A) c g c' s' = some q := e
  by_cases k : c' = c
  · subst k
    rw [up_s] at e
    exact ⟨hc, hg s' q e⟩
  · rw [up_n k] at e; exact a14 c' s' q e
theorem AI.mapI {n : Nat} {A : AH} (h : AI n A) {c : Nat} {g : Nat → Option CPY} (hc : c < aMade A) (hg : ∀ s q, g s = some q → s < nS A ∧ okC (aSize A) (aVer A c) q) (i : Nat) : AI n (mapI A c g i) := by
  refine h.map hc (fun s q e => ?_)
  by_cases k : s < i
  · rw [if_pos k] at e; exact hg s q e
  · rw [if_neg k] at e; exact (h.2.2.2.2.2.2.2.2.2.2.2.2.2 c s q e).2
