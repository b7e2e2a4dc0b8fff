/-! PURE 9n: reading the tape, class and model -/
def dg (t : Nat) (T : Nat → Nat) (p : Nat) : Bool := decide (p < t) && decide (48 ≤ T p ∧ T p ≤ 57)
def dC (t : Nat) (T : Nat → Nat) (p : Nat) : Nat := if dg t T p = true then (if dg t T (p + 1) = true then (if dg t T (p + 2) = true then 3 else 2) else 1) else 0
def vN (t : Nat) (T : Nat → Nat) (p : Nat) : Nat := if dC t T p = 1 then T p - 48 else 10 * (T p - 48) + (T (p + 1) - 48)
def sgn (t : Nat) (T : Nat → Nat) (c p : Nat) : Bool := decide (p < t ∧ T p = c)
/-- 0: a number from a to b; else the fault -/
def nuK (t : Nat) (T : Nat → Nat) (a b p : Nat) : Nat := if dC t T p = 0 ∨ dC t T p = 3 then 1 else if a ≤ vN t T p ∧ vN t T p ≤ b then 0 else 2
def TPC (t : Nat) (T : Nat → Nat) (tp : TP) : Prop := t ≤ 80 ∧ tp.2 = nI t ∧ ∀ j, j < t → tp.1 j = nI (T j) ∧ T j ≤ 255
theorem dg_t {t : Nat} {T : Nat → Nat} {p : Nat} (h : dg t T p = true) : p < t ∧ 48 ≤ T p ∧ T p ≤ 57 := by
  unfold dg at h
  rw [Bool.and_eq_true, decide_eq_true_eq, decide_eq_true_eq] at h
  exact ⟨h.1, h.2.1, h.2.2⟩
theorem at_c {t : Nat} {T : Nat → Nat} {tp : TP} (h : TPC t T tp) {p : Nat} (hp : p < 200) : f_X9_at tp (nI p) = some (if p < t then nI (T p) else -1) := by
  obtain ⟨ht, t1, t3⟩ := h
  by_cases e : p < t
  · rw [if_pos e]
    simp (disch := omega) only [u_X9_at, t1, (t3 p e).1, ↓reduceIte, bt_do, bd_do, jn_eq, bI_z, gd_nI, gd_0, gd_1, nI_clamp, nI_add, nI_1, pk_mul, Nat.add_zero, Nat.zero_add, ile_t, ile_f, ilt_t, ilt_f, ieq_t, ieq_f, iz_t, iz_f, ilt0, ige0, im1, Bool.false_eq_true, Bool.true_eq_false, if_true, if_false]
  · rw [if_neg e]
    simp (disch := omega) only [u_X9_at, t1, ↓reduceIte, bt_do, bd_do, jn_eq, bI_z, gd_nI, gd_0, gd_1, nI_clamp, nI_add, nI_1, pk_mul, Nat.add_zero, Nat.zero_add, ile_t, ile_f, ilt_t, ilt_f, ieq_t, ieq_f, iz_t, iz_f, ilt0, ige0, im1, Bool.false_eq_true, Bool.true_eq_false, if_true, if_false]
theorem m1_wi : f_X10_within (-1) (nI 48) (nI 57) = false := by decide +kernel
theorem at_dg {t : Nat} {T : Nat → Nat} {tp : TP} (h : TPC t T tp) {p : Nat} : f_X10_within (if p < t then nI (T p) else -1) (nI 48) (nI 57) = dg t T p := by
  unfold dg
  by_cases e : p < t
  · have := (h.2.2 p e).2
    rw [if_pos e, wi_d (by omega) (by omega) (by omega), decide_eq_true e, Bool.true_and]
  · rw [if_neg e, decide_eq_false e, m1_wi, Bool.false_and]
theorem sign_c {t : Nat} {T : Nat → Nat} {tp : TP} (h : TPC t T tp) {p c : Nat} (hp : p < 200) (hc : c < 200) (f nu : Int32) : f_X7_sign (tp, nI p, f, nu) (nI c) = some (if sgn t T c p = true then (true, (tp, nI (p + 1), f, nu)) else (false, (tp, nI p, nI 1, nu))) := by
  have ha := at_c h hp
  unfold sgn
  by_cases e : p < t
  · have h255 := (h.2.2 p e).2
    rw [if_pos e] at ha
    by_cases e2 : T p = c
    · rw [if_pos (decide_eq_true ⟨e, e2⟩)]
      simp (disch := omega) only [u_X7_sign, ha, ↓reduceIte, bt_do, bd_do, jn_eq, bI_z, gd_nI, gd_0, gd_1, nI_clamp, nI_add, nI_1, pk_mul, Nat.add_zero, Nat.zero_add, ile_t, ile_f, ilt_t, ilt_f, ieq_t, ieq_f, iz_t, iz_f, ilt0, ige0, im1, Bool.false_eq_true, Bool.true_eq_false, if_true, if_false]
    · rw [if_neg (by rw [decide_eq_false (fun q => e2 q.2)]; decide)]
      simp (disch := omega) only [u_X7_sign, u_X7_refuse, ha, ↓reduceIte, bt_do, bd_do, jn_eq, bI_z, gd_nI, gd_0, gd_1, nI_clamp, nI_add, nI_1, pk_mul, Nat.add_zero, Nat.zero_add, ile_t, ile_f, ilt_t, ilt_f, ieq_t, ieq_f, iz_t, iz_f, ilt0, ige0, im1, Bool.false_eq_true, Bool.true_eq_false, if_true, if_false]
  · rw [if_neg e] at ha
    rw [if_neg (by rw [decide_eq_false (fun q => e q.1)]; decide)]
    have hm : ((-1 : Int32) = nI c) = False := eq_false (fun q => by
      have := im1 (a := c) (by omega)
      rw [← q] at this
      exact this.mp rfl)
    simp (disch := omega) only [u_X7_sign, u_X7_refuse, ha, hm, ↓reduceIte, bt_do, bd_do, jn_eq, bI_z, gd_nI, gd_0, gd_1, nI_clamp, nI_add, nI_1, pk_mul, Nat.add_zero, Nat.zero_add, ile_t, ile_f, ilt_t, ilt_f, ieq_t, ieq_f, iz_t, iz_f, ilt0, ige0, im1, Bool.false_eq_true, Bool.true_eq_false, if_true, if_false]
theorem num_c {t : Nat} {T : Nat → Nat} {tp : TP} (h : TPC t T tp) {p a b : Nat} (hp : p ≤ 80) (ha : a < 100) (hb : b < 100) (f nu : Int32) : f_X7_numeral (tp, nI p, f, nu) (nI a) (nI b) = some (if nuK t T a b p = 0 then (true, (tp, nI (p + dC t T p), f, nI (vN t T p))) else (false, (tp, nI p, nI (nuK t T a b p), nu))) := by
  rw [u_X7_numeral, jn_eq]
  have a0 := at_c h (p := p + 0) (by omega)
  have a1 := at_c h (p := p + 1) (by omega)
  have a2 := at_c h (p := p + 2) (by omega)
  have d0 := at_dg h (p := p + 0)
  have d1 := at_dg h (p := p + 1)
  have d2 := at_dg h (p := p + 2)
  rw [Nat.add_zero] at a0 d0
  show lpF (bX7_numeral_1 _ _) (3999 + 1) _ = _
  rw [lpF]
  cases e0 : dg t T p with
  | false =>
    have hd : dC t T p = 0 := by unfold dC; rw [e0]; rfl
    rw [e0] at d0
    have hk : nuK t T a b p = 1 := by unfold nuK; rw [if_pos (Or.inl hd)]
    rw [hk, if_neg (by omega)]
    simp (disch := omega) only [ubX7_numeral_1, u_X7_refuse, a0, d0, ↓reduceIte, bt_do, bd_do, jn_eq, bI_z, gd_nI, gd_0, gd_1, nI_clamp, nI_add, nI_1, pk_mul, Nat.add_zero, Nat.zero_add, ile_t, ile_f, ilt_t, ilt_f, ieq_t, ieq_f, iz_t, iz_f, ilt0, ige0, im1, Bool.false_eq_true, Bool.true_eq_false, if_true, if_false]
  | true =>
    have b0 := dg_t e0
    rw [if_pos b0.1] at a0 d0
    rw [e0] at d0
    simp (disch := omega) only [ubX7_numeral_1, a0, d0, pk_sub, Nat.zero_mul, ↓reduceIte, bt_do, bd_do, jn_eq, bI_z, gd_nI, gd_0, gd_1, nI_clamp, nI_add, nI_1, pk_mul, Nat.add_zero, Nat.zero_add, ile_t, ile_f, ilt_t, ilt_f, ieq_t, ieq_f, iz_t, iz_f, ilt0, ige0, im1, Bool.false_eq_true, Bool.true_eq_false, if_true, if_false]
    show lpF (bX7_numeral_1 _ _) (3998 + 1) _ = _
    rw [lpF]
    cases e1 : dg t T (p + 1) with
    | false =>
      have hd : dC t T p = 1 := by unfold dC; rw [e0, e1]; rfl
      have hv : vN t T p = T p - 48 := by unfold vN; rw [if_pos hd]
      rw [e1] at d1
      have hw := wi_d (x := T p - 48) (a := a) (b := b) (by omega) (by omega) (by omega)
      by_cases er : a ≤ T p - 48 ∧ T p - 48 ≤ b
      · have hk : nuK t T a b p = 0 := by unfold nuK; rw [if_neg (by omega), hv, if_pos er]
        rw [decide_eq_true er] at hw
        rw [hk, if_pos rfl, hv, hd]
        simp (disch := omega) only [ubX7_numeral_1, a1, d1, ↓hw, ↓reduceIte, bt_do, bd_do, jn_eq, bI_z, gd_nI, gd_0, gd_1, nI_clamp, nI_add, nI_1, pk_mul, Nat.add_zero, Nat.zero_add, ile_t, ile_f, ilt_t, ilt_f, ieq_t, ieq_f, iz_t, iz_f, ilt0, ige0, im1, Bool.false_eq_true, Bool.true_eq_false, if_true, if_false]
      · have hk : nuK t T a b p = 2 := by unfold nuK; rw [if_neg (by omega), hv, if_neg er]
        rw [decide_eq_false er] at hw
        rw [hk, if_neg (by omega)]
        simp (disch := omega) only [ubX7_numeral_1, u_X7_refuse, a1, d1, ↓hw, ↓reduceIte, bt_do, bd_do, jn_eq, bI_z, gd_nI, gd_0, gd_1, nI_clamp, nI_add, nI_1, pk_mul, Nat.add_zero, Nat.zero_add, ile_t, ile_f, ilt_t, ilt_f, ieq_t, ieq_f, iz_t, iz_f, ilt0, ige0, im1, Bool.false_eq_true, Bool.true_eq_false, if_true, if_false]
    | true =>
      have b1 := dg_t e1
      rw [if_pos b1.1] at a1 d1
      rw [e1] at d1
      simp (disch := omega) only [ubX7_numeral_1, a1, d1, pk_sub, ↓reduceIte, bt_do, bd_do, jn_eq, bI_z, gd_nI, gd_0, gd_1, nI_clamp, nI_add, nI_1, pk_mul, Nat.add_zero, Nat.zero_add, ile_t, ile_f, ilt_t, ilt_f, ieq_t, ieq_f, iz_t, iz_f, ilt0, ige0, im1, Bool.false_eq_true, Bool.true_eq_false, if_true, if_false]
      show lpF (bX7_numeral_1 _ _) (3997 + 1) _ = _
      rw [lpF]
      cases e2 : dg t T (p + 2) with
      | false =>
        have hd : dC t T p = 2 := by unfold dC; rw [e0, e1, e2]; rfl
        have hv : vN t T p = 10 * (T p - 48) + (T (p + 1) - 48) := by unfold vN; rw [if_neg (by omega)]
        rw [e2] at d2
        have hx : (T p - 48) * 10 + T (p + 1) - 48 = 10 * (T p - 48) + (T (p + 1) - 48) := by omega
        rw [hx]
        have hw := wi_d (x := 10 * (T p - 48) + (T (p + 1) - 48)) (a := a) (b := b) (by omega) (by omega) (by omega)
        by_cases er : a ≤ 10 * (T p - 48) + (T (p + 1) - 48) ∧ 10 * (T p - 48) + (T (p + 1) - 48) ≤ b
        · have hk : nuK t T a b p = 0 := by unfold nuK; rw [if_neg (by omega), hv, if_pos er]
          rw [decide_eq_true er] at hw
          rw [hk, if_pos rfl, hv, hd]
          simp (disch := omega) only [ubX7_numeral_1, a2, d2, ↓hw, ↓reduceIte, bt_do, bd_do, jn_eq, bI_z, gd_nI, gd_0, gd_1, nI_clamp, nI_add, nI_1, pk_mul, Nat.add_zero, Nat.zero_add, ile_t, ile_f, ilt_t, ilt_f, ieq_t, ieq_f, iz_t, iz_f, ilt0, ige0, im1, Bool.false_eq_true, Bool.true_eq_false, if_true, if_false]
        · have hk : nuK t T a b p = 2 := by unfold nuK; rw [if_neg (by omega), hv, if_neg er]
          rw [decide_eq_false er] at hw
          rw [hk, if_neg (by omega)]
          simp (disch := omega) only [ubX7_numeral_1, u_X7_refuse, a2, d2, ↓hw, ↓reduceIte, bt_do, bd_do, jn_eq, bI_z, gd_nI, gd_0, gd_1, nI_clamp, nI_add, nI_1, pk_mul, Nat.add_zero, Nat.zero_add, ile_t, ile_f, ilt_t, ilt_f, ieq_t, ieq_f, iz_t, iz_f, ilt0, ige0, im1, Bool.false_eq_true, Bool.true_eq_false, if_true, if_false]
      | true =>
        have b2 := dg_t e2
        rw [if_pos b2.1] at a2 d2
        rw [e2] at d2
        have hd : dC t T p = 3 := by unfold dC; rw [e0, e1, e2]; rfl
        have hk : nuK t T a b p = 1 := by unfold nuK; rw [if_pos (Or.inr hd)]
        rw [hk, if_neg (by omega)]
        simp (disch := omega) only [ubX7_numeral_1, a2, d2, pk_sub, ↓reduceIte, bt_do, bd_do, jn_eq, bI_z, gd_nI, gd_0, gd_1, nI_clamp, nI_add, nI_1, pk_mul, Nat.add_zero, Nat.zero_add, ile_t, ile_f, ilt_t, ilt_f, ieq_t, ieq_f, iz_t, iz_f, ilt0, ige0, im1, Bool.false_eq_true, Bool.true_eq_false, if_true, if_false]
        show lpF (bX7_numeral_1 _ _) (3996 + 1) _ = _
        rw [lpF]
        simp (disch := omega) only [ubX7_numeral_1, u_X7_refuse, ↓reduceIte, bt_do, bd_do, jn_eq, bI_z, gd_nI, gd_0, gd_1, nI_clamp, nI_add, nI_1, pk_mul, Nat.add_zero, Nat.zero_add, ile_t, ile_f, ilt_t, ilt_f, ieq_t, ieq_f, iz_t, iz_f, ilt0, ige0, im1, Bool.false_eq_true, Bool.true_eq_false, if_true, if_false]
