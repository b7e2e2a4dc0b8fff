/-! PURE 9d: houses copied, acts kept -/
def bcH (v0 v1 : HS) : HS := (v1.1, v1.2.1, v1.2.2.1, v1.2.2.2.1, v1.2.2.2.2.1, (v1.2.2.2.2.2.1.1, v1.2.2.2.2.2.1.2.1, va_cpy v1.2.2.2.2.2.1.2.2.1 v0.2.2.2.2.2.1.2.2.1 0 0 5, va_cpy v1.2.2.2.2.2.1.2.2.2 v0.2.2.2.2.2.1.2.2.2 0 0 5), (v1.2.2.2.2.2.2.1.1, va_cpy v1.2.2.2.2.2.2.1.2.1 v0.2.2.2.2.2.2.1.2.1 0 0 30, va_cpy v1.2.2.2.2.2.2.1.2.2.1 v0.2.2.2.2.2.2.1.2.2.1 0 0 30, va_cpy v1.2.2.2.2.2.2.1.2.2.2.1 v0.2.2.2.2.2.2.1.2.2.2.1 0 0 30, va_cpy v1.2.2.2.2.2.2.1.2.2.2.2 v0.2.2.2.2.2.2.1.2.2.2.2 0 0 30), (va_cpy v1.2.2.2.2.2.2.2.1.1 v0.2.2.2.2.2.2.2.1.1 0 0 150, va_cpy v1.2.2.2.2.2.2.2.1.2.1 v0.2.2.2.2.2.2.2.1.2.1 0 0 150, va_cpy v1.2.2.2.2.2.2.2.1.2.2 v0.2.2.2.2.2.2.2.1.2.2 0 0 1350), (va_cpy v1.2.2.2.2.2.2.2.2.1 v0.2.2.2.2.2.2.2.2.1 0 0 6, va_cpy v1.2.2.2.2.2.2.2.2.2.1 v0.2.2.2.2.2.2.2.2.2.1 0 0 6, va_cpy v1.2.2.2.2.2.2.2.2.2.2.1 v0.2.2.2.2.2.2.2.2.2.2.1 0 0 6, va_cpy v1.2.2.2.2.2.2.2.2.2.2.2.1 v0.2.2.2.2.2.2.2.2.2.2.2.1 0 0 6, va_cpy v1.2.2.2.2.2.2.2.2.2.2.2.2 v0.2.2.2.2.2.2.2.2.2.2.2.2 0 0 24))
theorem become_c {A : AH} {v1 : HS} {n : Nat} (h : RC A v1) (hA : AI n A) (v0 : HS) : ∃ w, f_X5_become v0 v1 = some w ∧ RC A w := by
  have h30 : aMade A ≤ 30 := hA.2.2.2.2.2.2.1
  have h5 : nS A ≤ 5 := hA.1
  obtain ⟨hn, hsv, hck, hcp, hfl⟩ := h
  have c0 : (nI 0).toNatClampNeg = 0 := nI_clamp (by omega)
  have c5 : (nI 5).toNatClampNeg = 5 := nI_clamp (by omega)
  have c6 : (nI 6).toNatClampNeg = 6 := nI_clamp (by omega)
  have c24 : (nI 24).toNatClampNeg = 24 := nI_clamp (by omega)
  have c30 : (nI 30).toNatClampNeg = 30 := nI_clamp (by omega)
  have c150 : (nI 150).toNatClampNeg = 150 := nI_clamp (by omega)
  have c1350 : (nI 1350).toNatClampNeg = 1350 := nI_clamp (by omega)
  have cp : ∀ {α : Type} (f g : Nat → α) (m j : Nat), j < m → va_cpy f g 0 0 m j = f j := by
    intro α f g m j hj
    rw [pk_cpy_in (Nat.zero_le _) (by omega), Nat.zero_add, Nat.sub_zero]
  refine ⟨bcH v0 v1, by simp only [u_X5_become, u_X8_become, u_X1_become, u_X2_become, u_X3_become, c0, c5, c6, c24, c30, c150, c1350, bd_do]; rfl, hn, ⟨hsv.1, fun s hs => ?_⟩, ⟨hck.1, fun c hc => ?_⟩, fun c s hc hs => ?_, fun f hf => ?_⟩
  · have h1 := hsv.2 s hs
    refine ⟨fun q => ?_, ?_, ?_⟩
    · show va_cpy _ _ 0 0 5 s = _
      rw [cp _ _ _ _ hs]; exact h1.1 q
    · show va_cpy _ _ 0 0 5 s = _
      rw [cp _ _ _ _ hs]; exact h1.2.1
    · exact h1.2.2
  · have h1 := hck.2 c hc
    refine ⟨?_, ?_, ?_⟩
    · show va_cpy _ _ 0 0 30 c = _
      rw [cp _ _ _ _ (by omega)]; exact h1.1
    · show va_cpy _ _ 0 0 30 c = _
      rw [cp _ _ _ _ (by omega)]; exact h1.2.1
    · show lsC _ (va_cpy _ _ 0 0 30 c) (va_cpy _ _ 0 0 30 c)
      rw [cp _ _ _ _ (by omega), cp _ _ _ _ (by omega)]; exact h1.2.2
  · have h1 := hcp c s hc hs
    show cpC _ (va_cpy _ _ 0 0 150 (5 * c + s)) (va_cpy _ _ 0 0 150 (5 * c + s)) (fun i => va_cpy _ _ 0 0 1350 ((5 * c + s) * 9 + i))
    rw [cp _ _ _ _ (by omega), cp _ _ _ _ (by omega)]
    exact h1.ext (fun i hi => cp _ _ _ _ (by omega))
  · have h1 := hfl f hf
    refine ⟨?_, fun q => ?_, fun q => ?_, ?_, fun k k4 hk => ?_⟩
    · show va_cpy _ _ 0 0 6 f = _
      rw [cp _ _ _ _ hf]; exact h1.1
    · show va_cpy _ _ 0 0 6 f = _
      rw [cp _ _ _ _ hf]; exact h1.2.1 q
    · show va_cpy _ _ 0 0 6 f = _
      rw [cp _ _ _ _ hf]; exact h1.2.2.1 q
    · show va_cpy _ _ 0 0 6 f = _
      rw [cp _ _ _ _ hf]; exact h1.2.2.2.1
    · show va_cpy _ _ 0 0 24 (4 * f + k) = _
      rw [cp _ _ _ _ (by omega)]; exact h1.2.2.2.2 k k4 hk
theorem RM.cong {A : AH} {b b' : Nat → Int64} (h : RM A b) (hm : aMade A ≤ 30) (e : ∀ j, j < 340 → b' j = b j) : RM A b' := by
  refine ⟨fun k hk => ?_, fun s hs => ?_, fun f hf => ?_, fun c hc => ?_, fun c s hc hs => ?_⟩
  · rw [e k (by omega)]; exact h.1 k hk
  · exact RMS.of (h.2.1 s hs) (e _ (by omega)) (e _ (by omega)) (e _ (by omega))
  · exact RMF.of (h.2.2.1 f hf) (fun j hj => e _ (by omega))
  · exact RMC.of (h.2.2.2.1 c hc) (fun j hj => e _ (by omega))
  · rw [e _ (by omega)]; exact h.2.2.2.2 c s hc hs
theorem copies_m {n0 n2 a b : Nat} (v0 v2 : Nat → Int64) (ha : a + 340 ≤ n0) (hb : b + 340 ≤ n2) (h0 : n0 < 5000) (h2 : n2 < 5000) : ∃ w, f_X11_copies n0 v0 (nI a) n2 v2 (nI b) = some w ∧ (∀ k, k < 340 → w (b + k) = v0 (a + k)) ∧ ∀ j, ¬ (b ≤ j ∧ j < b + 340) → w j = v2 j := by
  rw [u_X11_copies, jn_eq]
  refine lp_gen (fun i (z : Int32 × (Nat → Int64)) => z.1 = nI i ∧ (∀ k, k < i → z.2 (b + k) = v0 (a + k)) ∧ ∀ j, ¬ (b ≤ j ∧ j < b + i) → z.2 j = v2 j) (fun X => ∃ w : Nat → Int64, X = some w ∧ (∀ k, k < 340 → w (b + k) = v0 (a + k)) ∧ ∀ j, ¬ (b ≤ j ∧ j < b + 340) → w j = v2 j) 340 (by omega) ⟨rfl, fun k hk => by omega, fun j _ => rfl⟩ ?_ ?_
  · rintro i ⟨z1, w⟩ hi ⟨h1, h3, h4⟩
    dsimp only at h1 h3 h4
    subst h1
    left
    refine ⟨(nI (i + 1), vp_updL w (b + i) (v0 (a + i))), ⟨rfl, fun k hk => ?_, fun j hj => ?_⟩, fun rec => ?_⟩
    · show vp_updL w (b + i) _ (b + k) = _
      by_cases e : k = i
      · rw [e, pk_uLs]
      · rw [pk_uLn (by omega)]; exact h3 k (by omega)
    · show vp_updL w (b + i) _ j = _
      rw [pk_uLn (by omega)]; exact h4 j (by omega)
    · simp (disch := omega) only [ubX11_copies_1, ↓reduceIte, bt_do, bd_do, jn_eq, bI_z, gd_nI, gd_0, gd_1, nI_clamp, nI_add, nI_1, pk_mul, Nat.add_zero, Nat.zero_add, ile_t, ile_f, ilt_t, ilt_f, ieq_t, ieq_f, iz_t, iz_f, ilt0, ige0, im1, Bool.false_eq_true, Bool.true_eq_false, if_true, if_false]
  · rintro ⟨z1, w⟩ ⟨h1, h3, h4⟩
    dsimp only at h1 h3 h4
    subst h1
    refine ⟨_, ⟨w, rfl, h3, h4⟩, fun rec => ?_⟩
    simp (disch := omega) only [ubX11_copies_1, ↓reduceIte, bt_do, bd_do, jn_eq, bI_z, gd_nI, gd_0, gd_1, nI_clamp, nI_add, nI_1, pk_mul, Nat.add_zero, Nat.zero_add, ile_t, ile_f, ilt_t, ilt_f, ieq_t, ieq_f, iz_t, iz_f, ilt0, ige0, im1, Bool.false_eq_true, Bool.true_eq_false, if_true, if_false]
/-! acts: j is counted from the latest -/
def AcC (a : Nat) (P : Nat → AH) (ac : ACT) : Prop := ∃ nx, nx < 6 ∧ ac.2.1 = nI nx ∧ ac.2.2 = nI a ∧ a ≤ 6 ∧ ∀ j, j < a → ∃ w, ac.1 ((nx + 5 - j) % 6) = some w ∧ RC (P j) w
def AcM (a : Nat) (P : Nat → AH) (past : Nat → Int64) (acts : Int32) : Prop := acts = nI a ∧ a ≤ 6 ∧ ∀ j, j < a → RM (P j) (fun k => past (340 * (a - 1 - j) + k))
def AcI (n a : Nat) (P : Nat → AH) : Prop := ∀ j, j < a → AI (7 * n) (P j) ∧ AF (P j)
def pushP (P : Nat → AH) (A : AH) : Nat → AH
  | 0 => A
  | j + 1 => P j
theorem keep_c {A : AH} {v : HS} {n a : Nat} {P : Nat → AH} {ac : ACT} (h : RC A v) (hA : AI n A) (hC : AcC a P ac) : ∃ ac', f_X0_keep ac v = some ac' ∧ AcC (min (a + 1) 6) (pushP P A) ac' := by
  obtain ⟨nx, hnx, h1, h2, h6, h3⟩ := hC
  obtain ⟨w, hw, hR⟩ := become_c h hA ((ac.1 nx).getD (HS0 xf))
  refine ⟨(upO ac.1 nx (some w), nI ((nx + 1) % 6), nI (min (a + 1) 6)), ?_, (nx + 1) % 6, by omega, rfl, rfl, by omega, fun j hj => ?_⟩
  · by_cases e1 : nx = 5
    · rw [show (nx + 1) % 6 = 0 by omega]
      by_cases e2 : a = 6
      · rw [show min (a + 1) 6 = 6 by omega]
        simp (disch := omega) only [u_X0_keep, h1, h2, hw, ↓reduceIte, bt_do, bd_do, jn_eq, bI_z, gd_nI, gd_0, gd_1, nI_clamp, nI_add, nI_1, pk_mul, Nat.add_zero, Nat.zero_add, ile_t, ile_f, ilt_t, ilt_f, ieq_t, ieq_f, iz_t, iz_f, ilt0, ige0, im1, Bool.false_eq_true, Bool.true_eq_false, if_true, if_false]
      · rw [show min (a + 1) 6 = a + 1 by omega]
        simp (disch := omega) only [u_X0_keep, h1, h2, hw, ↓reduceIte, bt_do, bd_do, jn_eq, bI_z, gd_nI, gd_0, gd_1, nI_clamp, nI_add, nI_1, pk_mul, Nat.add_zero, Nat.zero_add, ile_t, ile_f, ilt_t, ilt_f, ieq_t, ieq_f, iz_t, iz_f, ilt0, ige0, im1, Bool.false_eq_true, Bool.true_eq_false, if_true, if_false]
    · rw [show (nx + 1) % 6 = nx + 1 by omega]
      by_cases e2 : a = 6
      · rw [show min (a + 1) 6 = 6 by omega]
        simp (disch := omega) only [u_X0_keep, h1, h2, hw, ↓reduceIte, bt_do, bd_do, jn_eq, bI_z, gd_nI, gd_0, gd_1, nI_clamp, nI_add, nI_1, pk_mul, Nat.add_zero, Nat.zero_add, ile_t, ile_f, ilt_t, ilt_f, ieq_t, ieq_f, iz_t, iz_f, ilt0, ige0, im1, Bool.false_eq_true, Bool.true_eq_false, if_true, if_false]
      · rw [show min (a + 1) 6 = a + 1 by omega]
        simp (disch := omega) only [u_X0_keep, h1, h2, hw, ↓reduceIte, bt_do, bd_do, jn_eq, bI_z, gd_nI, gd_0, gd_1, nI_clamp, nI_add, nI_1, pk_mul, Nat.add_zero, Nat.zero_add, ile_t, ile_f, ilt_t, ilt_f, ieq_t, ieq_f, iz_t, iz_f, ilt0, ige0, im1, Bool.false_eq_true, Bool.true_eq_false, if_true, if_false]
  · cases j with
    | zero =>
      refine ⟨w, ?_, hR⟩
      show upO ac.1 nx (some w) (((nx + 1) % 6 + 5 - 0) % 6) = some w
      rw [show ((nx + 1) % 6 + 5 - 0) % 6 = nx by omega, up_s]
    | succ j =>
      obtain ⟨w', hw', hR'⟩ := h3 j (by omega)
      refine ⟨w', ?_, hR'⟩
      show upO ac.1 nx (some w) (((nx + 1) % 6 + 5 - (j + 1)) % 6) = some w'
      rw [show ((nx + 1) % 6 + 5 - (j + 1)) % 6 = (nx + 5 - j) % 6 by omega, up_n (by omega)]
      exact hw'
def shP (past : Nat → Int64) (i k : Nat) : Int64 := if k < i then past (k + 340) else past k
theorem shP_s (past : Nat → Int64) (i : Nat) : vp_updL (shP past i) i (shP past i (i + 340)) = shP past (i + 1) := by
  funext k
  unfold shP
  by_cases e : k = i
  · rw [e, pk_uLs, if_neg (by omega), if_pos (by omega)]
  · rw [pk_uLn e]
    by_cases e2 : k < i
    · rw [if_pos e2, if_pos (by omega)]
    · rw [if_neg e2, if_neg (by omega)]
theorem notes_m {A : AH} {md : MD} {n a : Nat} {P : Nat → AH} (h : RM A md.1) (hA : AI n A) (hM : AcM a P md.2.2.1 md.2.2.2.1) (hI : AcI n a P) : ∃ past', f_X11_notes md = some (md.1, md.2.1, past', nI (min (a + 1) 6), md.2.2.2.2) ∧ AcM (min (a + 1) 6) (pushP P A) past' (nI (min (a + 1) 6)) := by
  have h30 : aMade A ≤ 30 := hA.2.2.2.2.2.2.1
  obtain ⟨a1, a2, a3, a4, a5, a6, a7, a8, a9, a10, a11, a12, a13, a14, a15, a16, a17⟩ := md
  obtain ⟨h1, h6, h3⟩ := hM
  dsimp only at h h1 h3
  subst h1
  by_cases e : a = 6
  · subst e
    obtain ⟨w, hw, hw1, hw2⟩ := copies_m (n0 := 340) (n2 := 2040) (a := 0) (b := 1700) a1 (shP a3 1700) (by omega) (by omega) (by omega) (by omega)
    have hsh : ∀ K : (Int32 × MD) → Option MD, lpF (bX11_notes_4 K) FU (nI 0, (a1, a2, a3, nI 6, a5, a6, a7, a8, a9, a10, a11, a12, a13, a14, a15, a16, a17)) = K (nI 1700, (a1, a2, shP a3 1700, nI 6, a5, a6, a7, a8, a9, a10, a11, a12, a13, a14, a15, a16, a17)) := by
      intro K
      have e0 : a3 = shP a3 0 := by
        funext k
        unfold shP
        rw [if_neg (by omega)]
      have key := lp_ind (b := bX11_notes_4 K) (X := K (nI 1700, (a1, a2, shP a3 1700, nI 6, a5, a6, a7, a8, a9, a10, a11, a12, a13, a14, a15, a16, a17))) (fun i => (nI i, (a1, a2, shP a3 i, nI 6, a5, a6, a7, a8, a9, a10, a11, a12, a13, a14, a15, a16, a17))) 1700 (by omega) (fun rec => ?_) (fun rec i hi => ?_)
      · rw [← e0] at key
        exact key
      · simp (disch := omega) only [ubX11_notes_4, ↓reduceIte, bt_do, bd_do, jn_eq, bI_z, gd_nI, gd_0, gd_1, nI_clamp, nI_add, nI_1, pk_mul, Nat.add_zero, Nat.zero_add, ile_t, ile_f, ilt_t, ilt_f, ieq_t, ieq_f, iz_t, iz_f, ilt0, ige0, im1, Bool.false_eq_true, Bool.true_eq_false, if_true, if_false]
      · simp (disch := omega) only [ubX11_notes_4, shP_s, ↓reduceIte, bt_do, bd_do, jn_eq, bI_z, gd_nI, gd_0, gd_1, nI_clamp, nI_add, nI_1, pk_mul, Nat.add_zero, Nat.zero_add, ile_t, ile_f, ilt_t, ilt_f, ieq_t, ieq_f, iz_t, iz_f, ilt0, ige0, im1, Bool.false_eq_true, Bool.true_eq_false, if_true, if_false]
    refine ⟨w, ?_, rfl, by omega, fun j hj => ?_⟩
    · rw [show min (6 + 1) 6 = 6 by omega]
      simp (disch := omega) only [u_X11_notes, hsh, pk_sub, hw, ↓reduceIte, bt_do, bd_do, jn_eq, bI_z, gd_nI, gd_0, gd_1, nI_clamp, nI_add, nI_1, pk_mul, Nat.add_zero, Nat.zero_add, ile_t, ile_f, ilt_t, ilt_f, ieq_t, ieq_f, iz_t, iz_f, ilt0, ige0, im1, Bool.false_eq_true, Bool.true_eq_false, if_true, if_false]
    · cases j with
      | zero =>
        refine h.cong h30 (fun k hk => ?_)
        show w (340 * (min (6 + 1) 6 - 1 - 0) + k) = a1 k
        rw [show 340 * (min (6 + 1) 6 - 1 - 0) + k = 1700 + k by omega, hw1 k hk, Nat.zero_add]
      | succ j =>
        have hj5 : j < 5 := by omega
        refine (h3 j (by omega)).cong (hI j (by omega)).1.2.2.2.2.2.2.1 (fun k hk => ?_)
        show w (340 * (min (6 + 1) 6 - 1 - (j + 1)) + k) = a3 (340 * (6 - 1 - j) + k)
        rw [show min (6 + 1) 6 = 6 by omega, hw2 _ (by omega)]
        unfold shP
        rw [if_pos (by omega)]
        exact congrArg a3 (by omega)
  · obtain ⟨w, hw, hw1, hw2⟩ := copies_m (n0 := 340) (n2 := 2040) (a := 0) (b := 340 * a) a1 a3 (by omega) (by omega) (by omega) (by omega)
    refine ⟨w, ?_, rfl, by omega, fun j hj => ?_⟩
    · rw [show min (a + 1) 6 = a + 1 by omega]
      simp (disch := omega) only [u_X11_notes, hw, ↓reduceIte, bt_do, bd_do, jn_eq, bI_z, gd_nI, gd_0, gd_1, nI_clamp, nI_add, nI_1, pk_mul, Nat.add_zero, Nat.zero_add, ile_t, ile_f, ilt_t, ilt_f, ieq_t, ieq_f, iz_t, iz_f, ilt0, ige0, im1, Bool.false_eq_true, Bool.true_eq_false, if_true, if_false]
    · cases j with
      | zero =>
        refine h.cong h30 (fun k hk => ?_)
        show w (340 * (min (a + 1) 6 - 1 - 0) + k) = a1 k
        rw [show 340 * (min (a + 1) 6 - 1 - 0) + k = 340 * a + k by omega, hw1 k hk, Nat.zero_add]
      | succ j =>
        refine (h3 j (by omega)).cong (hI j (by omega)).1.2.2.2.2.2.2.1 (fun k hk => ?_)
        show w (340 * (min (a + 1) 6 - 1 - (j + 1)) + k) = a3 (340 * (a - 1 - j) + k)
        rw [show min (a + 1) 6 = a + 1 by omega, hw2 _ (by omega)]
        exact congrArg a3 (by omega)
/-! class and model alike -/
def SmH (n : Nat) (A : AH) (g : GC) (md : MD) : Prop := RC A g.2.2.2.1 ∧ RM A md.1 ∧ AI (7 * n) A ∧ ((g.2.2.2.2.2.2.1 = 0 ∧ nS A = 0 ∧ aMade A = 0 ∧ ∀ f, f < 6 → aIs A f = 0) ∨ (¬ g.2.2.2.2.2.2.1 = 0 ∧ AF A))
def SmI (n : Nat) (I : Nat → Option AH) (im : DV) (rows : Nat → Int64) (kp : Nat → Int32) : Prop := ∀ k, k < 2 → match I k with
  | none => im k = none ∧ kp k = 0
  | some B => (∃ w, im k = some w ∧ RC B w) ∧ ¬ kp k = 0 ∧ RM B (fun j => rows (340 * k + j)) ∧ AI (7 * n) B ∧ AF B
def SmT (tp : TP) (tape : Nat → Int32) (taped : Int32) : Prop := ∃ (t : Nat) (T : Nat → Nat), t ≤ 80 ∧ tp.2 = nI t ∧ taped = nI t ∧ ∀ j, j < t → tp.1 j = nI (T j) ∧ tape j = nI (T j) ∧ T j ≤ 255
def Sm (n : Nat) (g : GC) (md : MD) (A : AH) (a : Nat) (P : Nat → AH) (I : Nat → Option AH) : Prop := SmH n A g md ∧ (AcC a P g.2.2.1 ∧ AcM a P md.2.2.1 md.2.2.2.1 ∧ AcI n a P) ∧ SmI n I g.2.2.2.2.2.1 md.2.2.2.2.1 md.2.2.2.2.2.1 ∧ SmT g.1.1 md.2.2.2.2.2.2.1 md.2.2.2.2.2.2.2.1 ∧ g.2.2.2.2.2.2.2 = md.2.2.2.2.2.2.2.2.2.2.2.2.2.2.1 ∧ ((g.2.2.2.2.2.2.1 = 0) → a = 0 ∧ ∀ k, k < 2 → I k = none)
def Sim (n : Nat) (g : GC) (md : MD) : Prop := ∃ A a P I, Sm n g md A a P I
theorem AcI.mono {n m a : Nat} {P : Nat → AH} (h : AcI n a P) (hm : n ≤ m) : AcI m a P := fun j hj => ⟨(h j hj).1.mono (by omega), (h j hj).2⟩
theorem SmI.mono {n m : Nat} {I : Nat → Option AH} {im : DV} {rows : Nat → Int64} {kp : Nat → Int32} (h : SmI n I im rows kp) (hm : n ≤ m) : SmI m I im rows kp := by
  intro k hk
  have h1 := h k hk
  cases hI : I k with
  | none => rw [hI] at h1; exact h1
  | some B => rw [hI] at h1; exact ⟨h1.1, h1.2.1, h1.2.2.1, h1.2.2.2.1.mono (by omega), h1.2.2.2.2⟩
theorem Sm.mono {n m : Nat} {g : GC} {md : MD} {A : AH} {a : Nat} {P : Nat → AH} {I : Nat → Option AH} (h : Sm n g md A a P I) (hm : n ≤ m) : Sm m g md A a P I := by
  obtain ⟨⟨h1, h2, h3, h4⟩, ⟨h5, h6, h7⟩, h8, h9, h10, h11⟩ := h
  exact ⟨⟨h1, h2, h3.mono (by omega), h4⟩, ⟨h5, h6, h7.mono hm⟩, h8.mono hm, h9, h10, h11⟩
theorem Sim.next {n : Nat} {g : GC} {md : MD} (h : Sim n g md) : Sim (n + 1) g md := by
  obtain ⟨A, a, P, I, h⟩ := h
  exact ⟨A, a, P, I, h.mono (by omega)⟩
/-- an act: kept on both sides, the house another behind it -/
theorem act {n : Nat} {g : GC} {md : MD} {A : AH} {a : Nat} {P : Nat → AH} {I : Nat → Option AH} (h : Sm n g md A a P I) (hF : AF A) : ∃ ac past', f_X0_keep g.2.2.1 g.2.2.2.1 = some ac ∧ f_X11_notes md = some (md.1, md.2.1, past', nI (min (a + 1) 6), md.2.2.2.2) ∧ ∀ (A' : AH) (v' : HS) (b' : Nat → Int64) (u : Unit) (tr : HS) (td : Nat → Int64), RC A' v' → RM A' b' → AI (7 * (n + 1)) A' → AF A' → Sim (n + 1) (g.1, u, ac, v', tr, g.2.2.2.2.2) (b', td, past', nI (min (a + 1) 6), md.2.2.2.2) := by
  obtain ⟨⟨h1, h2, h3, h4⟩, ⟨h5, h6, h7⟩, h8, h9, h10, h11⟩ := h
  obtain ⟨ac, hac, hC⟩ := keep_c h1 h3 h5
  have hI7 : AcI (7 * n) a P := fun j hj => ⟨(h7 j hj).1.mono (by omega), (h7 j hj).2⟩
  obtain ⟨past', hp, hM⟩ := notes_m h2 h3 h6 hI7
  have hst : ¬ g.2.2.2.2.2.2.1 = 0 := by
    rcases h4 with q | q
    · intro _
      have := hF.1
      omega
    · exact q.1
  refine ⟨ac, past', hac, hp, fun A' v' b' u tr td r1 r2 r3 r4 => ⟨A', min (a + 1) 6, pushP P A, I, ⟨r1, r2, r3, Or.inr ⟨hst, r4⟩⟩, ⟨hC, hM, fun j hj => ?_⟩, h8.mono (by omega), h9, h10, fun q => absurd q hst⟩⟩
  cases j with
  | zero => exact ⟨h3.mono (by omega), hF⟩
  | succ j => exact ⟨(h7 j (by omega)).1.mono (by omega), (h7 j (by omega)).2⟩
