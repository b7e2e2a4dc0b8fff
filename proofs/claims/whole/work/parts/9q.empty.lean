/-! PURE 9q: an empty house -/
def aE (x : Nat → Nat) : AH := (x, fun s => if s < x 0 then 1 else 0, fun _ => 1, fun _ => 0, fun _ => 0, fun _ => 0, fun _ => 0, fun _ => 0, fun _ => 0, fun _ => 0, fun _ _ => 0, fun _ => none, fun _ _ => none)
theorem upN (N : Nat) (h : N ≤ 5) : (nI 1 <<< (nI N &&& 31)) - nI 1 = nI (mN (fun s => (if s < N then 1 else 0) == 1) 5) := by
  rcases (by omega : N = 0 ∨ N = 1 ∨ N = 2 ∨ N = 3 ∨ N = 4 ∨ N = 5) with e | e | e | e | e | e <;> subst e <;> decide
theorem sv_open {N : Nat} (v : SV) (hN : N ≤ 5) : ∃ y, f_X8_open v (nI N) = some y ∧ y.1 = nI N ∧ y.2.1 = nI (mN (fun s => (if s < N then 1 else 0) == 1) 5) ∧ ∀ s, s < 5 → y.2.2.1 s = nI 1 ∧ y.2.2.2 s = nI 0 := by
  obtain ⟨y1, a1, b1⟩ := fill_c (n := 5) (by omega) v.2.2.1 (nI 1)
  obtain ⟨y2, a2, b2⟩ := fill_c (n := 5) (by omega) v.2.2.2 (nI 0)
  refine ⟨(nI N, (nI 1 <<< (nI N &&& 31)) - nI 1, y1, y2), ?_, rfl, upN N hN, fun s hs => ⟨b1 s hs, b2 s hs⟩⟩
  rw [u_X8_open, bd_at a1, bd_at a2, if_neg (by rw [ilt_f (by omega) (by omega)]; exact id)]
theorem fl_clear (v : FL) : ∃ y, f_X3_clear v = some y ∧ ∀ f, f < 6 → y.1 f = nI 0 ∧ y.2.2.2.1 f = nI 0 := by
  rw [u_X3_clear, jn_eq]
  refine lp_gen (fun i (z : Int32 × FL) => z.1 = nI i ∧ ∀ f, f < i → z.2.1 f = nI 0 ∧ z.2.2.2.2.1 f = nI 0) (fun X => ∃ y : FL, X = some y ∧ ∀ f, f < 6 → y.1 f = nI 0 ∧ y.2.2.2.1 f = nI 0) 6 (by omega) ⟨rfl, fun f hf => by omega⟩ ?_ ?_
  · rintro i ⟨z1, z2, z3, z4, z5, z6⟩ hi ⟨h1, h3⟩
    dsimp only at h1 h3
    subst h1
    left
    refine ⟨(nI (i + 1), upd z2 i (nI 0), z3, z4, upd z5 i (nI 0), z6), ⟨rfl, fun s hs => ?_⟩, fun rec => ?_⟩
    · show upd z2 i _ s = _ ∧ upd z5 i _ s = _
      by_cases e : s = i
      · subst e; rw [pk_us, pk_us]; exact ⟨rfl, rfl⟩
      · rw [pk_un e, pk_un e]; exact h3 s (by omega)
    · simp (disch := omega) only [ubX3_clear_1, ↓reduceIte, bt_do, bd_do, jn_eq, bI_z, gd_nI, gd_0, gd_1, nI_clamp, nI_add, nI_1, pk_mul, Nat.add_zero, Nat.zero_add, ile_t, ile_f, ilt_t, ilt_f, ieq_t, ieq_f, iz_t, iz_f, ilt0, ige0, im1, Bool.false_eq_true, Bool.true_eq_false, if_true, if_false]
  · rintro ⟨z1, z2⟩ ⟨h1, h3⟩
    dsimp only at h1 h3
    subst h1
    refine ⟨some z2, ⟨z2, rfl, h3⟩, fun rec => ?_⟩
    simp (disch := omega) only [ubX3_clear_1, ↓reduceIte, bt_do, bd_do, jn_eq, bI_z, gd_nI, gd_0, gd_1, nI_clamp, nI_add, nI_1, pk_mul, Nat.add_zero, Nat.zero_add, ile_t, ile_f, ilt_t, ilt_f, ieq_t, ieq_f, iz_t, iz_f, ilt0, ige0, im1, Bool.false_eq_true, Bool.true_eq_false, if_true, if_false]
theorem open_c {N : Nat} (v : HS) (hN : N ≤ 5) : ∃ sv ck cp fl, f_X5_open v (nI N) = some (v.1, v.2.1, v.2.2.1, v.2.2.2.1, nI 0, sv, ck, cp, fl) ∧ ∀ x : Nat → Nat, x 0 = N → x 6 = 0 → RSV (aE x) sv ∧ RCK (aE x) ck ∧ RCP (aE x) cp ∧ RFL (aE x) fl := by
  obtain ⟨sv, s1, s2, s4, s3⟩ := sv_open v.2.2.2.2.2.1 hN
  obtain ⟨fl, f1, f2⟩ := fl_clear v.2.2.2.2.2.2.2.2
  obtain ⟨cv', c1, c2⟩ := fill_c (n := 150) (by omega) v.2.2.2.2.2.2.2.1.1 (-1)
  refine ⟨sv, (nI 0, v.2.2.2.2.2.2.1.2.1, v.2.2.2.2.2.2.1.2.2.1, v.2.2.2.2.2.2.1.2.2.2.1, v.2.2.2.2.2.2.1.2.2.2.2), (cv', v.2.2.2.2.2.2.2.1.2.1, v.2.2.2.2.2.2.2.1.2.2), fl, ?_, fun x h0 h6 => ⟨⟨?_, fun s hs => ?_⟩, ⟨?_, fun c hc => ?_⟩, fun c s hc hs => ?_, fun f hf => ?_⟩⟩
  · simp only [u_X5_open, u_X2_clear, s1, f1, c1, ↓reduceIte, bt_do, bd_do, jn_eq, bI_z, gd_nI, gd_0, gd_1, nI_clamp, nI_add, nI_1, pk_mul, Nat.add_zero, Nat.zero_add, ile_t, ile_f, ilt_t, ilt_f, ieq_t, ieq_f, iz_t, iz_f, ilt0, ige0, im1, Bool.false_eq_true, Bool.true_eq_false, if_true, if_false]
  · show sv.1 = nI (x 0)
    rw [s2, h0]
  · obtain ⟨q1, q2⟩ := s3 s hs
    refine ⟨fun _ => q1, q2, ?_⟩
    rw [s4]
    show _ = nI (mN (fun s => (if s < x 0 then 1 else 0) == 1) 5)
    rw [h0]
  · show nI 0 = nI (x 6)
    rw [h6]
  · have hc : c < x 6 := hc
    omega
  · show cv' (5 * c + s) = -1
    exact c2 _ (by omega)
  · obtain ⟨q1, q2⟩ := f2 f hf
    exact ⟨q1, fun z => absurd rfl z, (fun z => absurd (show (0 : Nat) = 2 from z) (by decide)), q2, fun k k4 hk => absurd hk (Nat.not_lt_zero k)⟩
theorem zero_m (md : MD) : ∃ b : Nat → Int64, (∀ j, j < 340 → b j = lN 0) ∧ ∀ K, lpF (bX11_house_1 K) FU (nI 0, md) = K (nI 340, (md.1, b, md.2.2)) := by
  refine ⟨fun j => if j < 340 then lN 0 else md.2.1 j, fun j hj => if_pos hj, fun K => ?_⟩
  have key := lp_ind (b := bX11_house_1 K) (X := K (nI 340, (md.1, (fun j => if j < 340 then lN 0 else md.2.1 j), md.2.2))) (fun i => (nI i, (md.1, (fun j => if j < i then lN 0 else md.2.1 j), md.2.2))) 340 (by omega) (fun rec => ?_) (fun rec i hi => ?_)
  · refine Eq.trans ?_ key
    rfl
  · simp (disch := omega) only [ubX11_house_1, ↓reduceIte, bt_do, bd_do, jn_eq, bI_z, gd_nI, gd_0, gd_1, nI_clamp, nI_add, nI_1, pk_mul, Nat.add_zero, Nat.zero_add, ile_t, ile_f, ilt_t, ilt_f, ieq_t, ieq_f, iz_t, iz_f, ilt0, ige0, im1, Bool.false_eq_true, Bool.true_eq_false, if_true, if_false] <;> rfl
  · simp (disch := omega) only [ubX11_house_1, ↓reduceIte, bt_do, bd_do, jn_eq, bI_z, gd_nI, gd_0, gd_1, nI_clamp, nI_add, nI_1, pk_mul, Nat.add_zero, Nat.zero_add, ile_t, ile_f, ilt_t, ilt_f, ieq_t, ieq_f, iz_t, iz_f, ilt0, ige0, im1, Bool.false_eq_true, Bool.true_eq_false, if_true, if_false]
    have e : vp_updL (fun j => if j < i then lN 0 else md.2.1 j) i (lN 0) = (fun j => if j < i + 1 then lN 0 else md.2.1 j) := by
      funext j
      by_cases q : j = i
      · rw [q, pk_uLs, if_pos (by omega)]
      · rw [pk_uLn q]
        by_cases q2 : j < i
        · rw [if_pos q2, if_pos (by omega)]
        · rw [if_neg q2, if_neg (by omega)]
    rw [e]
def upW (b : Nat → Int64) : Nat → Nat → Int64
  | 0 => b
  | i + 1 => vp_updL (vp_updL (upW b i) (7 + 3 * i) (lN 1)) (7 + 3 * i + 1) (lN 1)
theorem upW_ne {b : Nat → Int64} {j : Nat} : ∀ i, (∀ s, s < i → ¬ j = 7 + 3 * s ∧ ¬ j = 7 + 3 * s + 1) → upW b i j = b j := by
  intro i
  induction i with
  | zero => intro _; rfl
  | succ i ih =>
    intro h
    have q := h i (by omega)
    rw [upW, pk_uLn q.2, pk_uLn q.1, ih (fun s hs => h s (by omega))]
theorem upW_at {b : Nat → Int64} {s : Nat} : ∀ i, s < i → upW b i (7 + 3 * s) = lN 1 ∧ upW b i (7 + 3 * s + 1) = lN 1 := by
  intro i
  induction i with
  | zero => intro h; omega
  | succ i ih =>
    intro h
    rw [upW]
    by_cases e : s = i
    · subst e
      rw [pk_uLn (by omega), pk_uLs, pk_uLs]
      exact ⟨rfl, rfl⟩
    · rw [pk_uLn (by omega), pk_uLn (by omega), pk_uLn (by omega), pk_uLn (by omega)]
      exact ih (by omega)
theorem up20_m {md : MD} {N : Nat} (hN : N ≤ 5) (h0 : md.2.1 0 = lN N) (K : (Int32 × MD) → Option (Int32 × MD)) : lpF (bX11_house_20 K) FU (nI 0, md) = K (nI N, (md.1, upW md.2.1 N, md.2.2)) := by
  have hk : ∀ i, i ≤ 5 → upW md.2.1 i 0 = lN N := fun i _ => by rw [upW_ne i (fun s _ => by omega), h0]
  have key := lp_ind (b := bX11_house_20 K) (X := K (nI N, (md.1, upW md.2.1 N, md.2.2))) (fun i => (nI i, (md.1, upW md.2.1 i, md.2.2))) N (by omega) (fun rec => ?_) (fun rec i hi => ?_)
  · refine Eq.trans ?_ key
    rfl
  · have q := hk N hN
    simp (disch := omega) only [ubX11_house_20, q, nI_l, ↓reduceIte, bt_do, bd_do, jn_eq, bI_z, gd_nI, gd_0, gd_1, nI_clamp, nI_add, nI_1, pk_mul, Nat.add_zero, Nat.zero_add, ile_t, ile_f, ilt_t, ilt_f, ieq_t, ieq_f, iz_t, iz_f, ilt0, ige0, im1, Bool.false_eq_true, Bool.true_eq_false, if_true, if_false, lc_ge_t, lc_ge_f, lc_eq_t, lc_eq_f, lc_le_t, lc_le_f, lc_gt_t, lc_gt_f, lc_lt_t, lc_lt_f, nI_l, lN_i, lN_add, lN_1] <;> rfl
  · have q := hk i (by omega)
    simp (disch := omega) only [ubX11_house_20, q, nI_l, ↓reduceIte, bt_do, bd_do, jn_eq, bI_z, gd_nI, gd_0, gd_1, nI_clamp, nI_add, nI_1, pk_mul, Nat.add_zero, Nat.zero_add, ile_t, ile_f, ilt_t, ilt_f, ieq_t, ieq_f, iz_t, iz_f, ilt0, ige0, im1, Bool.false_eq_true, Bool.true_eq_false, if_true, if_false, lc_ge_t, lc_ge_f, lc_eq_t, lc_eq_f, lc_le_t, lc_le_f, lc_gt_t, lc_gt_f, lc_lt_t, lc_lt_f, nI_l, lN_i, lN_add, lN_1] <;> rfl
theorem RM.E {x : Nat → Nat} {b : Nat → Int64} (h5 : x 0 ≤ 5) (h6 : x 6 = 0) (hb : ∀ k, k < 7 → b k = lN (x k)) (hz : ∀ j, 7 ≤ j → j < 340 → b j = lN 0) : RM (aE x) (upW b (x 0)) := by
  refine ⟨fun k hk => ?_, fun s hs => ?_, fun f hf => ?_, fun c hc => ?_, fun c s hc hs => ?_⟩
  · rw [upW_ne _ (fun s _ => by omega)]
    exact hb k hk
  · refine ⟨?_, fun q => ?_, ?_⟩
    · show _ = lN (if s < x 0 then 1 else 0)
      by_cases e : s < x 0
      · rw [if_pos e, (upW_at _ e).1]
      · rw [if_neg e, upW_ne _ (fun s' _ => by omega)]
        exact hz _ (by omega) (by omega)
    · exact (upW_at _ q).2
    · show _ = lN 0
      rw [upW_ne _ (fun s' _ => by omega)]
      exact hz _ (by omega) (by omega)
  · have q : ∀ j, j < 8 → upW b (x 0) (22 + 8 * f + j) = lN 0 := fun j hj => by
      rw [upW_ne _ (fun s' _ => by omega)]
      exact hz _ (by omega) (by omega)
    exact ⟨q 0 (by omega), fun z => absurd rfl z, q 2 (by omega), (fun z => absurd (show (0 : Nat) = 2 from z) (by decide)), fun k k4 hk => absurd hk (Nat.not_lt_zero k)⟩
  · have hc : c < x 6 := hc
    omega
  · have hc : c < x 6 := hc
    omega
theorem AI.E {x : Nat → Nat} (n : Nat) (h0 : x 0 ≤ 5) (h1 : x 1 ≤ 3) (h2 : x 2 ≤ 9) (h3 : x 3 ≤ 20) (h4 : x 4 ≤ 20) (h5 : x 5 = 0) (h6 : x 6 = 0) : AI n (aE x) := by
  refine ⟨h0, h1, h2, h3, h4, ?_, ?_, fun s hs => ⟨?_, Nat.zero_le 9⟩, fun s hs => ⟨Nat.le_refl 1, show 1 ≤ 9 by decide⟩, fun s hs => ?_, fun f hf => ⟨Nat.zero_le 2, Nat.zero_le 4, fun _ => rfl, fun z => absurd rfl z, Nat.zero_le _, fun k hk => absurd hk (Nat.not_lt_zero k)⟩, fun c hc => ?_, fun c hh tt hc => ?_, fun c s q hq => ?_⟩
  · show x 5 ≤ _
    omega
  · show x 6 ≤ _
    omega
  · show (if s < x 0 then 1 else 0) ≤ 1
    split <;> decide
  · show (if s < x 0 then 1 else 0) = 0
    have hs : x 0 ≤ s := hs
    rw [if_neg (by omega)]
  · have hc : c < x 6 := hc
    omega
  · have hc : c < x 6 := hc
    omega
  · cases hq
