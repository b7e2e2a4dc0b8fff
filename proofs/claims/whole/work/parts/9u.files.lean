/-! PURE 9u: the files -/
theorem fls_fo {k q m : Nat} {md : MD} {x : Int32} (h : FO k q md) (K : (Int32 × MD) → Option (Int32 × MD)) : lpF (bX11_readsFiles_1 K) (m + 1) (x, md) = K (x, md) := by
  rw [lpF, ubX11_readsFiles_1]
  simp only [fo_letter h, ↓reduceIte, bt_do, bd_do, jn_eq, bI_z, gd_nI, gd_0, gd_1, nI_clamp, nI_add, nI_1, pk_mul, Nat.add_zero, Nat.zero_add, ile_t, ile_f, ilt_t, ilt_f, ieq_t, ieq_f, iz_t, iz_f, ilt0, ige0, im1, Bool.false_eq_true, Bool.true_eq_false, if_true, if_false]
def FI (A : AH) (j : Nat) : Prop := ∀ f, f < 6 → aIs A f = (if f < j then 1 else 0) ∧ aMany A f = 0
def FLS (t : Nat) (T : Nat → Nat) (n : Nat) (tp : TP) (A : AH) (md : MD) (X : Option (Bool × RD × HS)) (Y : Option (Int32 × MD)) : Prop := (∃ k q nu hs md' x, q ≤ 80 ∧ X = some (false, (tp, nI q, nI k, nu), hs) ∧ Y = some (x, md') ∧ Fr md md' ∧ FO k q md') ∨ (∃ q A' nu hs md' j, X = some (true, (tp, nI q, nI 0, nu), hs) ∧ Y = some (nI j, md') ∧ Fr md md' ∧ PO t T q md' ∧ RC A' hs ∧ RM A' md'.2.1 ∧ AI n A' ∧ A'.1 = A.1 ∧ j ≤ 6 ∧ FI A' j)
theorem FLS.tr {t : Nat} {T : Nat → Nat} {n : Nat} {tp : TP} {A B : AH} {m md : MD} {X : Option (Bool × RD × HS)} {Y : Option (Int32 × MD)} (h1 : Fr m md) (h2 : B.1 = A.1) (h : FLS t T n tp B md X Y) : FLS t T n tp A m X Y := by
  rcases h with ⟨k, q, nu, hs, md', x, q1, q2, q3, q4, q5⟩ | ⟨q, A', nu, hs, md', j, q2, q3, q4, q5, q6, q7, q8, q9, q10, q11⟩
  · exact Or.inl ⟨k, q, nu, hs, md', x, q1, q2, q3, h1.tr q4, q5⟩
  · exact Or.inr ⟨q, A', nu, hs, md', j, q2, q3, h1.tr q4, q5, q6, q7, q8, q9.trans h2, q10, q11⟩
theorem isFile_6 : f_X10_isFile (nI 6) = false := by decide +kernel
theorem files {t : Nat} {T : Nat → Nat} {n : Nat} {tp : TP} (hC : TPC t T tp) : ∀ (d i p : Nat) (A : AH) (hs : HS) (md : MD) (nu : Int32) (m1 m2 : Nat), i + d = 6 → d < m1 → d + 2 < m2 → RC A hs → RM A md.2.1 → AI n A → FI A i → TPM t T md → PO t T p md → FLS t T n tp A md (lpF (bX7_readFiles_1 (fun q1 : Int32 × RD × HS => some (true, q1.2.1, q1.2.2))) m1 (nI i, (tp, nI p, nI 0, nu), hs)) (lpF (bX11_readsFiles_1 (fun q1 : Int32 × MD => some (q1.1, q1.2))) m2 (nI i, md)) := by
  intro d
  induction d with
  | zero =>
    intro i p A hs md nu m1 m2 hi hm1 hm2 hR hM hA hI hT hP
    obtain ⟨m1, rfl⟩ : ∃ m, m1 = m + 1 := ⟨m1 - 1, by omega⟩
    obtain ⟨m2, rfl⟩ : ∃ m, m2 = m + 1 + 1 := ⟨m2 - 2, by omega⟩
    have hi6 : i = 6 := by omega
    subst hi6
    have ht := hC.1
    have hp := hP.1
    obtain ⟨l1, l2⟩ := letter_m hT hP (c := 102) (by omega)
    have ha := at_c hC (p := p) (by omega)
    have hq := at_is hC (c := 102) (p := p) (by omega)
    rw [lpF]
    cases e : sgn t T 102 p with
    | false =>
      right
      rw [e] at l1
      refine ⟨p, A, nu, hs, md, 6, ?_, ?_, Fr.rf _, hP, hR, hM, hA, rfl, by omega, hI⟩
      · simp (disch := omega) only [ubX7_readFiles_1, ha, hq, e, ↓reduceIte, bt_do, bd_do, jn_eq, bI_z, gd_nI, gd_0, gd_1, nI_clamp, nI_add, nI_1, pk_mul, Nat.add_zero, Nat.zero_add, ile_t, ile_f, ilt_t, ilt_f, ieq_t, ieq_f, iz_t, iz_f, ilt0, ige0, im1, Bool.false_eq_true, Bool.true_eq_false, if_true, if_false]
      · rw [lpF, ubX11_readsFiles_1]
        simp only [l1, ↓reduceIte, bt_do, bd_do, jn_eq, bI_z, gd_nI, gd_0, gd_1, nI_clamp, nI_add, nI_1, pk_mul, Nat.add_zero, Nat.zero_add, ile_t, ile_f, ilt_t, ilt_f, ieq_t, ieq_f, iz_t, iz_f, ilt0, ige0, im1, Bool.false_eq_true, Bool.true_eq_false, if_true, if_false]
    | true =>
      left
      rw [e] at l1
      obtain ⟨m3, b1, b2, b3, b4⟩ := bad_m (md := md) (k := 3) (p := p) (by omega) hP.2.2.1 hP.2.1
      refine ⟨3, p, nu, hs, m3, nI 6, by omega, ?_, ?_, b2, b4⟩
      · simp (disch := omega) only [ubX7_readFiles_1, ha, hq, e, isFile_6, u_X7_refuse, ↓reduceIte, bt_do, bd_do, jn_eq, bI_z, gd_nI, gd_0, gd_1, nI_clamp, nI_add, nI_1, pk_mul, Nat.add_zero, Nat.zero_add, ile_t, ile_f, ilt_t, ilt_f, ieq_t, ieq_f, iz_t, iz_f, ilt0, ige0, im1, Bool.false_eq_true, Bool.true_eq_false, if_true, if_false]
      · rw [lpF, ubX11_readsFiles_1]
        simp (disch := omega) only [l1, b1, fo_next b4, fo_number b4, fo_sign b4, fo_nz b4, ↓reduceIte, bt_do, bd_do, jn_eq, bI_z, gd_nI, gd_0, gd_1, nI_clamp, nI_add, nI_1, pk_mul, Nat.add_zero, Nat.zero_add, ile_t, ile_f, ilt_t, ilt_f, ieq_t, ieq_f, iz_t, iz_f, ilt0, ige0, im1, Bool.false_eq_true, Bool.true_eq_false, if_true, if_false, lc_ge_t, lc_ge_f, lc_eq_t, lc_eq_f, lc_le_t, lc_le_f, lc_gt_t, lc_gt_f, lc_lt_t, lc_lt_f, nI_l, lN_i, lN_add, lN_1]
        exact fls_fo b4 _
  | succ d ih =>
    intro i p A hs md nu m1 m2 hi hm1 hm2 hR hM hA hI hT hP
    obtain ⟨m1, rfl⟩ : ∃ m, m1 = m + 1 := ⟨m1 - 1, by omega⟩
    obtain ⟨m2, rfl⟩ : ∃ m, m2 = m + 1 + 1 := ⟨m2 - 2, by omega⟩
    have hi6 : i < 6 := by omega
    have h30 : aMade A ≤ 30 := hA.2.2.2.2.2.2.1
    have ht := hC.1
    have hp := hP.1
    have hf := isFile_n hi6
    obtain ⟨l1, l2⟩ := letter_m hT hP (c := 102) (by omega)
    have ha := at_c hC (p := p) (by omega)
    have hq := at_is hC (c := 102) (p := p) (by omega)
    rw [lpF]
    cases e : sgn t T 102 p with
    | false =>
      right
      rw [e] at l1
      refine ⟨p, A, nu, hs, md, i, ?_, ?_, Fr.rf _, hP, hR, hM, hA, rfl, by omega, hI⟩
      · simp (disch := omega) only [ubX7_readFiles_1, ha, hq, e, ↓reduceIte, bt_do, bd_do, jn_eq, bI_z, gd_nI, gd_0, gd_1, nI_clamp, nI_add, nI_1, pk_mul, Nat.add_zero, Nat.zero_add, ile_t, ile_f, ilt_t, ilt_f, ieq_t, ieq_f, iz_t, iz_f, ilt0, ige0, im1, Bool.false_eq_true, Bool.true_eq_false, if_true, if_false]
      · rw [lpF, ubX11_readsFiles_1]
        simp only [l1, ↓reduceIte, bt_do, bd_do, jn_eq, bI_z, gd_nI, gd_0, gd_1, nI_clamp, nI_add, nI_1, pk_mul, Nat.add_zero, Nat.zero_add, ile_t, ile_f, ilt_t, ilt_f, ieq_t, ieq_f, iz_t, iz_f, ilt0, ige0, im1, Bool.false_eq_true, Bool.true_eq_false, if_true, if_false]
    | true =>
      rw [e] at l1
      obtain ⟨at1, le1⟩ := l2 e
      obtain ⟨m3, b1, b2, b3, b4⟩ := next_m (p := p + 1) hT le1 at1 hP.2.1
      obtain ⟨m4, v, c1, c2, c3, c4⟩ := number_m (b2.tpm hT) b4 (a := 1) (b := 5) (by omega) (by omega)
      have s1 := sign_c hC (p := p) (c := 102) (by omega) (by omega) (nI 0) nu
      rw [if_pos e] at s1
      have s2 := num_c hC (p := p + 1) (a := 1) (b := 5) (by omega) (by omega) (by omega) (nI 0) nu
      rcases c4 with ⟨n1, y1, P4⟩ | ⟨n1, y1, P4⟩
      · rw [if_pos n1] at s2
        rw [y1] at c1
        have pd := P4.1
        have hr : 1 ≤ vN t T (p + 1) ∧ vN t T (p + 1) ≤ 5 := by
          unfold nuK at n1
          by_cases z : dC t T (p + 1) = 0 ∨ dC t T (p + 1) = 3
          · rw [if_pos z] at n1; omega
          · rw [if_neg z] at n1
            by_cases z2 : 1 ≤ vN t T (p + 1) ∧ vN t T (p + 1) ≤ 5
            · exact z2
            · rw [if_neg z2] at n1; omega
        have s3 := sign_c hC (p := p + 1 + dC t T (p + 1)) (c := 59) (by omega) (by omega) (nI 0) (nI (vN t T (p + 1)))
        obtain ⟨m5, d1, d2, d3, d4⟩ := sign_m ((b2.tr c2).tpm hT) P4 (c := 59) (by omega)
        have F5 := (b2.tr c2).tr d2
        rcases d4 with ⟨g1, P5⟩ | ⟨g1, P5⟩
        · rw [if_pos g1] at s3
          have tr5 : m5.2.1 = md.2.1 := d3.trans (c3.trans b3)
          obtain ⟨i1, i2⟩ := hI i hi6
          rw [if_neg (by omega)] at i1
          obtain ⟨y, hy, hRy⟩ := hR.cr (f := i) (k := vN t T (p + 1)) hi6
          have hMc := hM.cr h30 (f := i) (k := vN t T (p + 1)) hi6
          have hm2 : md.2.1 (22 + 8 * i + 2) = lN 0 := by
            have := (hM.2.2.1 i hi6).2.2.1
            rw [i2] at this
            exact this
          have hM' : RM (crA A i (vN t T (p + 1))) (vp_updL (vp_updL m5.2.1 (22 + 8 * i) (lN 1)) (22 + 8 * i + 1) (lN (vN t T (p + 1)))) := by
            rw [tr5]
            refine hMc.ext (fun j => ?_)
            by_cases ej : j = 22 + 8 * i + 2
            · rw [ej, pk_uLs, pk_uLn (by omega), pk_uLn (by omega), hm2]
            · rw [pk_uLn ej]
          have hI' : FI (crA A i (vN t T (p + 1))) (i + 1) := by
            intro f hf6
            by_cases ef : f = i
            · subst ef
              refine ⟨?_, ?_⟩
              · show upO (aIs A) f 1 f = _
                rw [up_s, if_pos (by omega)]
              · show upO (aMany A) f 0 f = _
                rw [up_s]
            · obtain ⟨j1, j2⟩ := hI f hf6
              refine ⟨?_, ?_⟩
              · show upO (aIs A) i 1 f = _
                rw [up_n ef, j1]
                by_cases q : f < i
                · rw [if_pos q, if_pos (by omega)]
                · rw [if_neg q, if_neg (by omega)]
              · show upO (aMany A) i 0 f = _
                rw [up_n ef, j2]
          have key := ih (i + 1) (p + 1 + dC t T (p + 1) + 1) (crA A i (vN t T (p + 1))) (hFL hs y) (m5.1, vp_updL (vp_updL m5.2.1 (22 + 8 * i) (lN 1)) (22 + 8 * i + 1) (lN (vN t T (p + 1))), m5.2.2) (nI (vN t T (p + 1))) m1 (m2 + 1) (by omega) (by omega) (by omega) hRy hM' (hA.cr hi6 i1 hr) hI' (F5.tpm hT) P5
          have key := key.tr (m := md) (A := A) F5 rfl
          have e1 : ∀ rec1 : (Int32 × RD × HS) → Option (Bool × RD × HS), bX7_readFiles_1 (fun q1 : Int32 × RD × HS => some (true, q1.2.1, q1.2.2)) rec1 (nI i, (tp, nI p, nI 0, nu), hs) = rec1 (nI (i + 1), (tp, nI (p + 1 + dC t T (p + 1) + 1), nI 0, nI (vN t T (p + 1))), hFL hs y) := by
            intro rec1
            simp (disch := omega) only [ubX7_readFiles_1, ha, hq, e, hf, s1, s2, s3, hy, ↓reduceIte, bt_do, bd_do, jn_eq, bI_z, gd_nI, gd_0, gd_1, nI_clamp, nI_add, nI_1, pk_mul, Nat.add_zero, Nat.zero_add, ile_t, ile_f, ilt_t, ilt_f, ieq_t, ieq_f, iz_t, iz_f, ilt0, ige0, im1, Bool.false_eq_true, Bool.true_eq_false, if_true, if_false] <;> rfl
          have f5 : (m5.2.2.2.2.2.2.2.2.2.2.2.2.1 = 0) = True := by rw [P5.2.1]; exact eq_true rfl
          have e2 : lpF (bX11_readsFiles_1 (fun q1 : Int32 × MD => some (q1.1, q1.2))) (m2 + 1 + 1) (nI i, md) = lpF (bX11_readsFiles_1 (fun q1 : Int32 × MD => some (q1.1, q1.2))) (m2 + 1) (nI (i + 1), (m5.1, vp_updL (vp_updL m5.2.1 (22 + 8 * i) (lN 1)) (22 + 8 * i + 1) (lN (vN t T (p + 1))), m5.2.2)) := by
            rw [lpF, ubX11_readsFiles_1]
            simp (disch := omega) only [l1, nI_l, b1, c1, d1, f5, ↓reduceIte, bt_do, bd_do, jn_eq, bI_z, gd_nI, gd_0, gd_1, nI_clamp, nI_add, nI_1, pk_mul, Nat.add_zero, Nat.zero_add, ile_t, ile_f, ilt_t, ilt_f, ieq_t, ieq_f, iz_t, iz_f, ilt0, ige0, im1, Bool.false_eq_true, Bool.true_eq_false, if_true, if_false, lc_ge_t, lc_ge_f, lc_eq_t, lc_eq_f, lc_le_t, lc_le_f, lc_gt_t, lc_gt_f, lc_lt_t, lc_lt_f, nI_l, lN_i, lN_add, lN_1] <;> rfl
          rw [e1, e2]
          exact key
        · left
          rw [if_neg (by rw [g1]; decide)] at s3
          refine ⟨1, p + 1 + dC t T (p + 1), nI (vN t T (p + 1)), hs, m5, nI i, by omega, ?_, ?_, F5, P5⟩
          · simp (disch := omega) only [ubX7_readFiles_1, ha, hq, e, hf, s1, s2, s3, ↓reduceIte, bt_do, bd_do, jn_eq, bI_z, gd_nI, gd_0, gd_1, nI_clamp, nI_add, nI_1, pk_mul, Nat.add_zero, Nat.zero_add, ile_t, ile_f, ilt_t, ilt_f, ieq_t, ieq_f, iz_t, iz_f, ilt0, ige0, im1, Bool.false_eq_true, Bool.true_eq_false, if_true, if_false]
          · rw [lpF, ubX11_readsFiles_1]
            simp (disch := omega) only [l1, b1, c1, d1, fo_nz P5, ↓reduceIte, bt_do, bd_do, jn_eq, bI_z, gd_nI, gd_0, gd_1, nI_clamp, nI_add, nI_1, pk_mul, Nat.add_zero, Nat.zero_add, ile_t, ile_f, ilt_t, ilt_f, ieq_t, ieq_f, iz_t, iz_f, ilt0, ige0, im1, Bool.false_eq_true, Bool.true_eq_false, if_true, if_false, lc_ge_t, lc_ge_f, lc_eq_t, lc_eq_f, lc_le_t, lc_le_f, lc_gt_t, lc_gt_f, lc_lt_t, lc_lt_f, nI_l, lN_i, lN_add, lN_1]
            exact fls_fo P5 _
      · left
        rw [if_neg n1] at s2
        rw [y1] at c1
        refine ⟨nuK t T 1 5 (p + 1), p + 1, nu, hs, m4, nI i, by omega, ?_, ?_, b2.tr c2, P4⟩
        · simp (disch := omega) only [ubX7_readFiles_1, ha, hq, e, hf, s1, s2, ↓reduceIte, bt_do, bd_do, jn_eq, bI_z, gd_nI, gd_0, gd_1, nI_clamp, nI_add, nI_1, pk_mul, Nat.add_zero, Nat.zero_add, ile_t, ile_f, ilt_t, ilt_f, ieq_t, ieq_f, iz_t, iz_f, ilt0, ige0, im1, Bool.false_eq_true, Bool.true_eq_false, if_true, if_false]
        · rw [lpF, ubX11_readsFiles_1]
          simp (disch := omega) only [l1, b1, c1, fo_sign P4, fo_nz P4, ↓reduceIte, bt_do, bd_do, jn_eq, bI_z, gd_nI, gd_0, gd_1, nI_clamp, nI_add, nI_1, pk_mul, Nat.add_zero, Nat.zero_add, ile_t, ile_f, ilt_t, ilt_f, ieq_t, ieq_f, iz_t, iz_f, ilt0, ige0, im1, Bool.false_eq_true, Bool.true_eq_false, if_true, if_false, lc_ge_t, lc_ge_f, lc_eq_t, lc_eq_f, lc_le_t, lc_le_f, lc_gt_t, lc_gt_f, lc_lt_t, lc_lt_f, nI_l, lN_i, lN_add, lN_1]
          exact fls_fo P4 _
