/-! PURE 9l: records from the tape -/
theorem wi_d {x a b : Nat} (hx : x < 2 ^ 31) (ha : a < 2 ^ 31) (hb : b < 2 ^ 31) : f_X10_within (nI x) (nI a) (nI b) = decide (a ≤ x ∧ x ≤ b) := by
  rw [within_i, nI_toInt hx, nI_toInt ha, nI_toInt hb, ← Bool.decide_and]
  exact decide_eq_decide.mpr ⟨fun q => by omega, fun q => by omega⟩
theorem in_d {x a b : Nat} (hx : x < 2 ^ 31) (ha : a < 2 ^ 31) (hb : b < 2 ^ 31) : f_X11_in (nI x).toInt64 (lN a) (lN b) = decide (a ≤ x ∧ x ≤ b) := by
  rw [in_w _ ha hb, wi_d hx ha hb]
def isLt (x : Nat) : Bool := decide (97 ≤ x ∧ x ≤ 122)
def alL (T : Nat → Nat) : Nat → Bool
  | 0 => true
  | n + 1 => alL T n && isLt (T n)
theorem alL_f {T : Nat → Nat} {i n : Nat} (hi : i < n) (h : isLt (T i) = false) : alL T n = false := by
  induction n with
  | zero => omega
  | succ n ih =>
    rw [alL]
    by_cases e : i = n
    · subst e; rw [h, Bool.and_false]
    · rw [ih (by omega)]; rfl
theorem alL_t {T : Nat → Nat} {i n : Nat} (hi : i < n) (h : alL T n = true) : 97 ≤ T i ∧ T i ≤ 122 := by
  cases e : isLt (T i) with
  | false => rw [alL_f hi e] at h; cases h
  | true => exact of_decide_eq_true e
theorem ofLetters_c {tp : TP} {t : Nat} {T : Nat → Nat} (ht : t ≤ 80) (t1 : tp.2 = nI t) (t3 : ∀ j, j < t → tp.1 j = nI (T j) ∧ T j ≤ 255) : f_X9_isOfLetters tp = some (alL T t) := by
  rw [u_X9_isOfLetters, jn_eq]
  refine lp_gen (fun i (z : Int32) => z = nI i ∧ alL T i = true) (fun X => X = some (alL T t)) t (by omega) ⟨rfl, rfl⟩ ?_ ?_
  · rintro i z hi ⟨rfl, h2⟩
    obtain ⟨y1, y2⟩ := t3 i hi
    have hl : f_X10_isLetter (nI (T i)) = isLt (T i) := by
      rw [u_X10_isLetter, wi_d (by omega) (by omega) (by omega)]
      rfl
    cases e : isLt (T i) with
    | true =>
      left
      rw [e] at hl
      refine ⟨nI (i + 1), ⟨rfl, by rw [alL, h2, e]; rfl⟩, fun rec => ?_⟩
      simp (disch := omega) only [ubX9_isOfLetters_1, t1, y1, hl, ↓reduceIte, bt_do, bd_do, jn_eq, bI_z, gd_nI, gd_0, gd_1, nI_clamp, nI_add, nI_1, pk_mul, Nat.add_zero, Nat.zero_add, ile_t, ile_f, ilt_t, ilt_f, ieq_t, ieq_f, iz_t, iz_f, ilt0, ige0, im1, Bool.false_eq_true, Bool.true_eq_false, if_true, if_false]
    | false =>
      right
      rw [e] at hl
      refine ⟨some false, by rw [alL_f hi e], fun rec => ?_⟩
      simp (disch := omega) only [ubX9_isOfLetters_1, t1, y1, hl, ↓reduceIte, bt_do, bd_do, jn_eq, bI_z, gd_nI, gd_0, gd_1, nI_clamp, nI_add, nI_1, pk_mul, Nat.add_zero, Nat.zero_add, ile_t, ile_f, ilt_t, ilt_f, ieq_t, ieq_f, iz_t, iz_f, ilt0, ige0, im1, Bool.false_eq_true, Bool.true_eq_false, if_true, if_false]
  · rintro z ⟨rfl, h2⟩
    refine ⟨some true, by rw [h2], fun rec => ?_⟩
    simp (disch := omega) only [ubX9_isOfLetters_1, t1, ↓reduceIte, bt_do, bd_do, jn_eq, bI_z, gd_nI, gd_0, gd_1, nI_clamp, nI_add, nI_1, pk_mul, Nat.add_zero, Nat.zero_add, ile_t, ile_f, ilt_t, ilt_f, ieq_t, ieq_f, iz_t, iz_f, ilt0, ige0, im1, Bool.false_eq_true, Bool.true_eq_false, if_true, if_false]
theorem isRecord_m {A : AH} {n t : Nat} {T : Nat → Nat} {a1 a2 a3 : Nat → Int64} {a4 : Int32} {a5 : Nat → Int64} {a6 a7 : Nat → Int32} {a8 a9 a10 a11 a12 a13 a14 a15 : Int32} {rc : Nat → Int32} {le : Int32} (h : RM A a1) (hA : AI n A) (ht : t ≤ 80) (t1 : a8 = nI t) (t3 : ∀ j, j < t → a7 j = nI (T j) ∧ T j ≤ 255) : ∃ (rc' : Nat → Int32) (le' : Int32), f_X11_isRecord (a1, a2, a3, a4, a5, a6, a7, a8, a9, a10, a11, a12, a13, a14, a15, rc, le) = some (decide (1 ≤ t ∧ t ≤ aSize A) && alL T t, (a1, a2, a3, a4, a5, a6, a7, nI 0, a9, a10, a11, a12, a13, a14, a15, rc', le')) ∧ ((1 ≤ t ∧ t ≤ aSize A) → le' = nI t ∧ ∀ j, j < t → rc' j = nI (T j) - nI 96) := by
  subst t1
  have m2 : a1 2 = lN (aSize A) := h.1 2 (by omega)
  have h9 : aSize A ≤ 9 := hA.2.2.1
  have hin : f_X11_in (nI t).toInt64 (lN 1) (lN (aSize A)) = decide (1 ≤ t ∧ t ≤ aSize A) := in_d (by omega) (by omega) (by omega)
  by_cases e : 1 ≤ t ∧ t ≤ aSize A
  · rw [decide_eq_true e] at hin ⊢
    have key : ∃ (rc' : Nat → Int32) (le' : Int32), lpF (bX11_isRecord_3 (fun q3 : Bool × Int32 × MD => some (q3.1, (q3.2.2.1, q3.2.2.2.1, q3.2.2.2.2.1, q3.2.2.2.2.2.1, q3.2.2.2.2.2.2.1, q3.2.2.2.2.2.2.2.1, q3.2.2.2.2.2.2.2.2.1, (nI 0), q3.2.2.2.2.2.2.2.2.2.2.1, q3.2.2.2.2.2.2.2.2.2.2.2.1, q3.2.2.2.2.2.2.2.2.2.2.2.2.1, q3.2.2.2.2.2.2.2.2.2.2.2.2.2.1, q3.2.2.2.2.2.2.2.2.2.2.2.2.2.2.1, q3.2.2.2.2.2.2.2.2.2.2.2.2.2.2.2.1, q3.2.2.2.2.2.2.2.2.2.2.2.2.2.2.2.2.1, q3.2.2.2.2.2.2.2.2.2.2.2.2.2.2.2.2.2.1, q3.2.2.2.2.2.2.2.2.2.2.2.2.2.2.2.2.2.2)))) FU (true, nI 0, (a1, a2, a3, a4, a5, a6, a7, nI t, a9, a10, a11, a12, a13, a14, a15, rc, nI t)) = some (alL T t, (a1, a2, a3, a4, a5, a6, a7, nI 0, a9, a10, a11, a12, a13, a14, a15, rc', le')) ∧ (le' = nI t ∧ ∀ j, j < t → rc' j = nI (T j) - nI 96) := by
      refine lp_gen (fun i (z : Bool × Int32 × MD) => ∃ rc' : Nat → Int32, z = (alL T i, nI i, (a1, a2, a3, a4, a5, a6, a7, nI t, a9, a10, a11, a12, a13, a14, a15, rc', nI t)) ∧ ∀ j, j < i → rc' j = nI (T j) - nI 96) (fun X => ∃ (rc' : Nat → Int32) (le' : Int32), X = some (alL T t, (a1, a2, a3, a4, a5, a6, a7, nI 0, a9, a10, a11, a12, a13, a14, a15, rc', le')) ∧ (le' = nI t ∧ ∀ j, j < t → rc' j = nI (T j) - nI 96)) t (by omega) ⟨rc, rfl, fun j hj => by omega⟩ ?_ ?_
      · rintro i z hi ⟨rc', rfl, h2⟩
        obtain ⟨y1, y2⟩ := t3 i hi
        have hl : f_X11_in (nI (T i)).toInt64 (lN 97) (lN 122) = isLt (T i) := in_d (by omega) (by omega) (by omega)
        left
        refine ⟨(alL T (i + 1), nI (i + 1), (a1, a2, a3, a4, a5, a6, a7, nI t, a9, a10, a11, a12, a13, a14, a15, upd rc' i (nI (T i) - nI 96), nI t)), ⟨upd rc' i (nI (T i) - nI 96), rfl, fun j hj => ?_⟩, fun rec => ?_⟩
        · by_cases ej : j = i
          · rw [ej, pk_us]
          · rw [pk_un ej]; exact h2 j (by omega)
        · rw [alL]
          cases e1 : alL T i <;> cases e2 : isLt (T i) <;> rw [e2] at hl <;> simp (disch := omega) only [ubX11_isRecord_3, y1, ↓hl, Bool.and_true, Bool.and_false, ↓reduceIte, bt_do, bd_do, jn_eq, bI_z, gd_nI, gd_0, gd_1, nI_clamp, nI_add, nI_1, pk_mul, Nat.add_zero, Nat.zero_add, ile_t, ile_f, ilt_t, ilt_f, ieq_t, ieq_f, iz_t, iz_f, ilt0, ige0, im1, Bool.false_eq_true, Bool.true_eq_false, if_true, if_false]
      · rintro z ⟨rc', rfl, h2⟩
        refine ⟨some (alL T t, (a1, a2, a3, a4, a5, a6, a7, nI 0, a9, a10, a11, a12, a13, a14, a15, rc', nI t)), ⟨rc', nI t, rfl, rfl, h2⟩, fun rec => ?_⟩
        simp (disch := omega) only [ubX11_isRecord_3, ↓reduceIte, bt_do, bd_do, jn_eq, bI_z, gd_nI, gd_0, gd_1, nI_clamp, nI_add, nI_1, pk_mul, Nat.add_zero, Nat.zero_add, ile_t, ile_f, ilt_t, ilt_f, ieq_t, ieq_f, iz_t, iz_f, ilt0, ige0, im1, Bool.false_eq_true, Bool.true_eq_false, if_true, if_false]
    obtain ⟨rc', le', k1, k2⟩ := key
    refine ⟨rc', le', ?_, fun _ => k2⟩
    rw [Bool.true_and]
    refine Eq.trans ?_ k1
    simp (disch := omega) only [u_X11_isRecord, m2, ↓hin, ↓reduceIte, bt_do, bd_do, jn_eq, bI_z, gd_nI, gd_0, gd_1, nI_clamp, nI_add, nI_1, pk_mul, Nat.add_zero, Nat.zero_add, ile_t, ile_f, ilt_t, ilt_f, ieq_t, ieq_f, iz_t, iz_f, ilt0, ige0, im1, Bool.false_eq_true, Bool.true_eq_false, if_true, if_false]
  · rw [decide_eq_false e] at hin ⊢
    refine ⟨rc, nI 0, ?_, fun q => absurd q e⟩
    rw [Bool.false_and]
    have key : lpF (bX11_isRecord_3 (fun q3 : Bool × Int32 × MD => some (q3.1, (q3.2.2.1, q3.2.2.2.1, q3.2.2.2.2.1, q3.2.2.2.2.2.1, q3.2.2.2.2.2.2.1, q3.2.2.2.2.2.2.2.1, q3.2.2.2.2.2.2.2.2.1, (nI 0), q3.2.2.2.2.2.2.2.2.2.2.1, q3.2.2.2.2.2.2.2.2.2.2.2.1, q3.2.2.2.2.2.2.2.2.2.2.2.2.1, q3.2.2.2.2.2.2.2.2.2.2.2.2.2.1, q3.2.2.2.2.2.2.2.2.2.2.2.2.2.2.1, q3.2.2.2.2.2.2.2.2.2.2.2.2.2.2.2.1, q3.2.2.2.2.2.2.2.2.2.2.2.2.2.2.2.2.1, q3.2.2.2.2.2.2.2.2.2.2.2.2.2.2.2.2.2.1, q3.2.2.2.2.2.2.2.2.2.2.2.2.2.2.2.2.2.2)))) FU (false, nI 0, (a1, a2, a3, a4, a5, a6, a7, nI t, a9, a10, a11, a12, a13, a14, a15, rc, nI 0)) = some (false, (a1, a2, a3, a4, a5, a6, a7, nI 0, a9, a10, a11, a12, a13, a14, a15, rc, nI 0)) := by
      refine lp_gen (fun i (z : Bool × Int32 × MD) => z = (false, nI 0, (a1, a2, a3, a4, a5, a6, a7, nI t, a9, a10, a11, a12, a13, a14, a15, rc, nI 0))) (fun X => X = some (false, (a1, a2, a3, a4, a5, a6, a7, nI 0, a9, a10, a11, a12, a13, a14, a15, rc, nI 0))) 0 (by omega) rfl (fun i _ hi => by omega) ?_
      rintro z rfl
      refine ⟨_, rfl, fun rec => ?_⟩
      simp (disch := omega) only [ubX11_isRecord_3, ↓reduceIte, bt_do, bd_do, jn_eq, bI_z, gd_nI, gd_0, gd_1, nI_clamp, nI_add, nI_1, pk_mul, Nat.add_zero, Nat.zero_add, ile_t, ile_f, ilt_t, ilt_f, ieq_t, ieq_f, iz_t, iz_f, ilt0, ige0, im1, Bool.false_eq_true, Bool.true_eq_false, if_true, if_false]
    refine Eq.trans ?_ key
    simp (disch := omega) only [u_X11_isRecord, m2, ↓hin, ↓reduceIte, bt_do, bd_do, jn_eq, bI_z, gd_nI, gd_0, gd_1, nI_clamp, nI_add, nI_1, pk_mul, Nat.add_zero, Nat.zero_add, ile_t, ile_f, ilt_t, ilt_f, ieq_t, ieq_f, iz_t, iz_f, ilt0, ige0, im1, Bool.false_eq_true, Bool.true_eq_false, if_true, if_false]
theorem sm_fr {n : Nat} {g : GC} {md : MD} {A : AH} {a : Nat} {P : Nat → AH} {I : Nat → Option AH} (h : Sm n g md A a P I) (rd : RD) (u : Unit) (tr : HS) (td : Nat → Int64) (tape : Nat → Int32) (taped x9 x10 x11 x12 x13 x14 : Int32) (rc : Nat → Int32) (le : Int32) (hT : SmT rd.1 tape taped) : Sm n (rd, u, g.2.2.1, g.2.2.2.1, tr, g.2.2.2.2.2) (md.1, td, md.2.2.1, md.2.2.2.1, md.2.2.2.2.1, md.2.2.2.2.2.1, tape, taped, x9, x10, x11, x12, x13, x14, md.2.2.2.2.2.2.2.2.2.2.2.2.2.2.1, rc, le) A a P I := by
  obtain ⟨⟨h1, h2, h3, h4⟩, ⟨h5, h6, h7⟩, h8, h9, h10, h11⟩ := h
  exact ⟨⟨h1, h2, h3, h4⟩, ⟨h5, h6, h7⟩, h8, hT, h10, h11⟩
theorem record {n : Nat} {g : GC} {md : MD} {A : AH} {a : Nat} {P : Nat → AH} {I : Nat → Option AH} (h : Sm n g md A a P I) : ∃ (q : Nat) (L : Nat → Nat) (g1 : GC) (md1 : MD), f_X10_takeRecord g = some (nI q, g1) ∧ f_X11_isRecord md = some (decide (1 ≤ q ∧ q ≤ aSize A), md1) ∧ Sm n g1 md1 A a P I ∧ q ≤ 80 ∧ ((1 ≤ q ∧ q ≤ aSize A) → LK q L ∧ (∀ j, j < q → g1.1.1.1 j = cv (L j)) ∧ md1.2.2.2.2.2.2.2.2.2.2.2.2.2.2.2.2 = nI q ∧ ∀ j, j < q → md1.2.2.2.2.2.2.2.2.2.2.2.2.2.2.2.1 j = nI (L j)) := by
  obtain ⟨t, T, ht, t1, t2, t3⟩ := h.2.2.2.1
  have hc := ofLetters_c (T := T) ht t1 (fun j hj => ⟨(t3 j hj).1, (t3 j hj).2.2⟩)
  obtain ⟨rc', le', hm, hrl⟩ := isRecord_m (a1 := md.1) (a2 := md.2.1) (a3 := md.2.2.1) (a4 := md.2.2.2.1) (a5 := md.2.2.2.2.1) (a6 := md.2.2.2.2.2.1) (a7 := md.2.2.2.2.2.2.1) (a8 := md.2.2.2.2.2.2.2.1) (a9 := md.2.2.2.2.2.2.2.2.1) (a10 := md.2.2.2.2.2.2.2.2.2.1) (a11 := md.2.2.2.2.2.2.2.2.2.2.1) (a12 := md.2.2.2.2.2.2.2.2.2.2.2.1) (a13 := md.2.2.2.2.2.2.2.2.2.2.2.2.1) (a14 := md.2.2.2.2.2.2.2.2.2.2.2.2.2.1) (a15 := md.2.2.2.2.2.2.2.2.2.2.2.2.2.2.1) (rc := md.2.2.2.2.2.2.2.2.2.2.2.2.2.2.2.1) (le := md.2.2.2.2.2.2.2.2.2.2.2.2.2.2.2.2) h.1.2.1 h.1.2.2.1 ht t2 (T := T) (fun j hj => ⟨(t3 j hj).2.1, (t3 j hj).2.2⟩)
  have hT : SmT (g.1.1.1, nI 0) md.2.2.2.2.2.2.1 (nI 0) := ⟨0, T, by omega, rfl, rfl, fun j hj => by omega⟩
  have hs := sm_fr h ((g.1.1.1, nI 0), g.1.2.1, g.1.2.2.1, g.1.2.2.2) g.2.1 g.2.2.2.2.1 md.2.1 md.2.2.2.2.2.2.1 (nI 0) md.2.2.2.2.2.2.2.2.1 md.2.2.2.2.2.2.2.2.2.1 md.2.2.2.2.2.2.2.2.2.2.1 md.2.2.2.2.2.2.2.2.2.2.2.1 md.2.2.2.2.2.2.2.2.2.2.2.2.1 md.2.2.2.2.2.2.2.2.2.2.2.2.2.1 rc' le' hT
  cases e : alL T t with
  | true =>
    rw [e] at hc hm
    rw [Bool.and_true] at hm
    refine ⟨t, fun j => T j - 96, _, _, ?_, hm, hs, ht, fun hq => ⟨fun j hj => ?_, fun j hj => ?_, (hrl hq).1, fun j hj => ?_⟩⟩
    · simp only [u_X10_takeRecord, hc, t1, ↓reduceIte, bt_do, bd_do, jn_eq, bI_z, gd_nI, gd_0, gd_1, nI_clamp, nI_add, nI_1, pk_mul, Nat.add_zero, Nat.zero_add, ile_t, ile_f, ilt_t, ilt_f, ieq_t, ieq_f, iz_t, iz_f, ilt0, ige0, im1, Bool.false_eq_true, Bool.true_eq_false, if_true, if_false]
    · have := alL_t hj e
      show 1 ≤ T j - 96 ∧ T j - 96 ≤ 26
      omega
    · have q := alL_t hj e
      show g.1.1.1 j = cv (T j - 96)
      rw [cv_L (by omega), (t3 j hj).1, show 96 + (T j - 96) = T j by omega]
    · have q := alL_t hj e
      show rc' j = _
      rw [(hrl hq).2 j hj, pk_sub (by omega)]
  | false =>
    rw [e] at hc hm
    rw [Bool.and_false] at hm
    refine ⟨0, fun j => T j - 96, _, _, ?_, hm, hs, by omega, fun hq => by omega⟩
    simp only [u_X10_takeRecord, hc, ↓reduceIte, bt_do, bd_do, jn_eq, bI_z, gd_nI, gd_0, gd_1, nI_clamp, nI_add, nI_1, pk_mul, Nat.add_zero, Nat.zero_add, ile_t, ile_f, ilt_t, ilt_f, ieq_t, ieq_f, iz_t, iz_f, ilt0, ige0, im1, Bool.false_eq_true, Bool.true_eq_false, if_true, if_false]
