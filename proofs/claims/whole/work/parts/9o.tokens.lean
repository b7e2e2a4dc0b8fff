/-! PURE 9o: the model's tokens -/
def Fr (m md : MD) : Prop := md.1 = m.1 ∧ md.2.2.1 = m.2.2.1 ∧ md.2.2.2.1 = m.2.2.2.1 ∧ md.2.2.2.2.1 = m.2.2.2.2.1 ∧ md.2.2.2.2.2.1 = m.2.2.2.2.2.1 ∧ md.2.2.2.2.2.2.1 = m.2.2.2.2.2.2.1 ∧ md.2.2.2.2.2.2.2.1 = m.2.2.2.2.2.2.2.1 ∧ md.2.2.2.2.2.2.2.2.2.2.2.2.2.2.1 = m.2.2.2.2.2.2.2.2.2.2.2.2.2.2.1
theorem Fr.rf (m : MD) : Fr m m := ⟨rfl, rfl, rfl, rfl, rfl, rfl, rfl, rfl⟩
theorem Fr.tr {a b c : MD} (h1 : Fr a b) (h2 : Fr b c) : Fr a c := ⟨h2.1.trans h1.1, h2.2.1.trans h1.2.1, h2.2.2.1.trans h1.2.2.1, h2.2.2.2.1.trans h1.2.2.2.1, h2.2.2.2.2.1.trans h1.2.2.2.2.1, h2.2.2.2.2.2.1.trans h1.2.2.2.2.2.1, h2.2.2.2.2.2.2.1.trans h1.2.2.2.2.2.2.1, h2.2.2.2.2.2.2.2.trans h1.2.2.2.2.2.2.2⟩
def TPM (t : Nat) (T : Nat → Nat) (md : MD) : Prop := t ≤ 80 ∧ md.2.2.2.2.2.2.2.1 = nI t ∧ ∀ j, j < t → md.2.2.2.2.2.2.1 j = nI (T j) ∧ T j ≤ 255
theorem Fr.tpm {t : Nat} {T : Nat → Nat} {m md : MD} (h : Fr m md) (ht : TPM t T m) : TPM t T md := by
  obtain ⟨q1, q2, q3⟩ := ht
  refine ⟨q1, by rw [h.2.2.2.2.2.2.1]; exact q2, fun j hj => ?_⟩
  rw [h.2.2.2.2.2.1]
  exact q3 j hj
def isLe (x : Nat) : Prop := 97 ≤ x ∧ x ≤ 122
def TKN (t : Nat) (T : Nat → Nat) (p : Nat) (x9 x11 x12 : Int32) : Prop := (p = t ∧ x11 = nI 0) ∨ (p < t ∧ isLe (T p) ∧ x11 = nI 1 ∧ x12 = nI (T p) ∧ x9 = nI (p + 1)) ∨ ((dC t T p = 1 ∨ dC t T p = 2) ∧ x11 = nI 2 ∧ x12 = nI (vN t T p) ∧ x9 = nI (p + dC t T p)) ∨ (p < t ∧ (T p = 44 ∨ T p = 59) ∧ x11 = nI 3 ∧ x12 = nI (T p) ∧ x9 = nI (p + 1)) ∨ (p < t ∧ (dC t T p = 0 ∨ dC t T p = 3) ∧ ¬ isLe (T p) ∧ ¬ T p = 44 ∧ ¬ T p = 59 ∧ x11 = nI 4)
/-- a token lies ahead at p -/
def PO (t : Nat) (T : Nat → Nat) (p : Nat) (md : MD) : Prop := p ≤ t ∧ md.2.2.2.2.2.2.2.2.2.2.2.2.1 = nI 0 ∧ md.2.2.2.2.2.2.2.2.2.1 = nI p ∧ TKN t T p md.2.2.2.2.2.2.2.2.1 md.2.2.2.2.2.2.2.2.2.2.1 md.2.2.2.2.2.2.2.2.2.2.2.1
/-- a fault was found at p -/
def FO (k p : Nat) (md : MD) : Prop := 1 ≤ k ∧ k ≤ 3 ∧ md.2.2.2.2.2.2.2.2.2.2.2.2.1 = nI k ∧ md.2.2.2.2.2.2.2.2.2.2.2.2.2.1 = nI p
theorem bIt : bI true = nI 1 := rfl
theorem bIf : bI false = nI 0 := rfl
theorem m1_in : f_X11_in (-1 : Int32).toInt64 (lN 48) (lN 57) = false := by decide +kernel
theorem m1_ge : (0 ≤ (-1 : Int32)) = False := eq_false (by decide)
theorem dC_0 {t : Nat} {T : Nat → Nat} {p : Nat} (h : ¬ (48 ≤ T p ∧ T p ≤ 57)) : dC t T p = 0 := by
  unfold dC
  rw [if_neg (fun q => h (dg_t q).2)]
theorem reads_m {t : Nat} {T : Nat → Nat} {md : MD} {p : Nat} (hT : TPM t T md) (hp : p ≤ t) (hat : md.2.2.2.2.2.2.2.2.1 = nI p) (hf : md.2.2.2.2.2.2.2.2.2.2.2.2.1 = nI 0) : ∃ md', f_X11_reads md = some md' ∧ Fr md md' ∧ md'.2.1 = md.2.1 ∧ PO t T p md' := by
  obtain ⟨ht, t2, t3⟩ := hT
  by_cases e : p = t
  · refine ⟨(md.1, md.2.1, md.2.2.1, md.2.2.2.1, md.2.2.2.2.1, md.2.2.2.2.2.1, md.2.2.2.2.2.2.1, md.2.2.2.2.2.2.2.1, nI p, nI p, nI 0, -1, md.2.2.2.2.2.2.2.2.2.2.2.2.1, md.2.2.2.2.2.2.2.2.2.2.2.2.2.1, md.2.2.2.2.2.2.2.2.2.2.2.2.2.2.1, md.2.2.2.2.2.2.2.2.2.2.2.2.2.2.2.1, md.2.2.2.2.2.2.2.2.2.2.2.2.2.2.2.2), ?_, Fr.rf _, rfl, hp, hf, rfl, Or.inl ⟨e, rfl⟩⟩
    simp (disch := omega) only [u_X11_reads, u_X11_byteAt, hat, t2, m1_ge, bIt, bIf, ↓reduceIte, bt_do, bd_do, jn_eq, bI_z, gd_nI, gd_0, gd_1, nI_clamp, nI_add, nI_1, pk_mul, Nat.add_zero, Nat.zero_add, ile_t, ile_f, ilt_t, ilt_f, ieq_t, ieq_f, iz_t, iz_f, ilt0, ige0, im1, Bool.false_eq_true, Bool.true_eq_false, if_true, if_false]
  · have hpt : p < t := by omega
    obtain ⟨y1, y2⟩ := t3 p hpt
    have hle : f_X11_in (nI (T p)).toInt64 (lN 97) (lN 122) = decide (97 ≤ T p ∧ T p ≤ 122) := in_d (by omega) (by omega) (by omega)
    have hdi : f_X11_in (nI (T p)).toInt64 (lN 48) (lN 57) = decide (48 ≤ T p ∧ T p ≤ 57) := in_d (by omega) (by omega) (by omega)
    by_cases e1 : 97 ≤ T p ∧ T p ≤ 122
    · rw [decide_eq_true e1] at hle
      refine ⟨(md.1, md.2.1, md.2.2.1, md.2.2.2.1, md.2.2.2.2.1, md.2.2.2.2.2.1, md.2.2.2.2.2.2.1, md.2.2.2.2.2.2.2.1, nI (p + 1), nI p, nI 1, nI (T p), md.2.2.2.2.2.2.2.2.2.2.2.2.1, md.2.2.2.2.2.2.2.2.2.2.2.2.2.1, md.2.2.2.2.2.2.2.2.2.2.2.2.2.2.1, md.2.2.2.2.2.2.2.2.2.2.2.2.2.2.2.1, md.2.2.2.2.2.2.2.2.2.2.2.2.2.2.2.2), ?_, Fr.rf _, rfl, hp, hf, rfl, Or.inr (Or.inl ⟨hpt, e1, rfl, rfl, rfl⟩)⟩
      simp (disch := omega) only [u_X11_reads, u_X11_byteAt, hat, t2, y1, ↓hle, bIt, bIf, ↓reduceIte, bt_do, bd_do, jn_eq, bI_z, gd_nI, gd_0, gd_1, nI_clamp, nI_add, nI_1, pk_mul, Nat.add_zero, Nat.zero_add, ile_t, ile_f, ilt_t, ilt_f, ieq_t, ieq_f, iz_t, iz_f, ilt0, ige0, im1, Bool.false_eq_true, Bool.true_eq_false, if_true, if_false]
    · rw [decide_eq_false e1] at hle
      by_cases e2 : 48 ≤ T p ∧ T p ≤ 57
      · rw [decide_eq_true e2] at hdi
        have hd0 : dg t T p = true := by
          unfold dg
          rw [decide_eq_true hpt, decide_eq_true e2]
          rfl
        have key : ∀ K5, K5 = (fun q5 : MD => bt (if (q5.2.2.2.2.2.2.2.2.1 - q5.2.2.2.2.2.2.2.2.2.1) ≤ (nI 2) then (nI 2) else (nI 4)) (fun q6 : Int32 => some (q5.1, q5.2.1, q5.2.2.1, q5.2.2.2.1, q5.2.2.2.2.1, q5.2.2.2.2.2.1, q5.2.2.2.2.2.2.1, q5.2.2.2.2.2.2.2.1, q5.2.2.2.2.2.2.2.2.1, q5.2.2.2.2.2.2.2.2.2.1, q6, q5.2.2.2.2.2.2.2.2.2.2.2.1, q5.2.2.2.2.2.2.2.2.2.2.2.2.1, q5.2.2.2.2.2.2.2.2.2.2.2.2.2.1, q5.2.2.2.2.2.2.2.2.2.2.2.2.2.2.1, q5.2.2.2.2.2.2.2.2.2.2.2.2.2.2.2.1, q5.2.2.2.2.2.2.2.2.2.2.2.2.2.2.2.2))) → ∃ md', lpF (bX11_reads_5 K5) FU (md.1, md.2.1, md.2.2.1, md.2.2.2.1, md.2.2.2.2.1, md.2.2.2.2.2.1, md.2.2.2.2.2.2.1, md.2.2.2.2.2.2.2.1, nI (p + 1), nI p, nI 2, nI (T p - 48), md.2.2.2.2.2.2.2.2.2.2.2.2.1, md.2.2.2.2.2.2.2.2.2.2.2.2.2.1, md.2.2.2.2.2.2.2.2.2.2.2.2.2.2.1, md.2.2.2.2.2.2.2.2.2.2.2.2.2.2.2.1, md.2.2.2.2.2.2.2.2.2.2.2.2.2.2.2.2) = some md' ∧ Fr md md' ∧ md'.2.1 = md.2.1 ∧ PO t T p md' := by
          intro K5 hK
          have hend : ∀ i x12, p + 1 + i ≤ t → (∀ j, j ≤ i → dg t T (p + j) = true) → dg t T (p + 1 + i) = false → (i = 0 → x12 = nI (T p - 48)) → (1 ≤ i → x12 = nI (10 * (T p - 48) + (T (p + 1) - 48))) → ∃ md', K5 (md.1, md.2.1, md.2.2.1, md.2.2.2.1, md.2.2.2.2.1, md.2.2.2.2.2.1, md.2.2.2.2.2.2.1, md.2.2.2.2.2.2.2.1, nI (p + 1 + i), nI p, nI 2, x12, md.2.2.2.2.2.2.2.2.2.2.2.2.1, md.2.2.2.2.2.2.2.2.2.2.2.2.2.1, md.2.2.2.2.2.2.2.2.2.2.2.2.2.2.1, md.2.2.2.2.2.2.2.2.2.2.2.2.2.2.2.1, md.2.2.2.2.2.2.2.2.2.2.2.2.2.2.2.2) = some md' ∧ Fr md md' ∧ md'.2.1 = md.2.1 ∧ PO t T p md' := by
            intro i x12 hi hd hdf h0 h1
            subst hK
            by_cases i2 : i ≤ 1
            · refine ⟨(md.1, md.2.1, md.2.2.1, md.2.2.2.1, md.2.2.2.2.1, md.2.2.2.2.2.1, md.2.2.2.2.2.2.1, md.2.2.2.2.2.2.2.1, nI (p + 1 + i), nI p, nI 2, x12, md.2.2.2.2.2.2.2.2.2.2.2.2.1, md.2.2.2.2.2.2.2.2.2.2.2.2.2.1, md.2.2.2.2.2.2.2.2.2.2.2.2.2.2.1, md.2.2.2.2.2.2.2.2.2.2.2.2.2.2.2.1, md.2.2.2.2.2.2.2.2.2.2.2.2.2.2.2.2), ?_, Fr.rf _, rfl, hp, hf, rfl, Or.inr (Or.inr (Or.inl ?_))⟩
              · simp (disch := omega) only [pk_sub, ↓reduceIte, bt_do, bd_do, jn_eq, bI_z, gd_nI, gd_0, gd_1, nI_clamp, nI_add, nI_1, pk_mul, Nat.add_zero, Nat.zero_add, ile_t, ile_f, ilt_t, ilt_f, ieq_t, ieq_f, iz_t, iz_f, ilt0, ige0, im1, Bool.false_eq_true, Bool.true_eq_false, if_true, if_false]
              · by_cases i0 : i = 0
                · subst i0
                  have hdc : dC t T p = 1 := by
                    unfold dC
                    rw [if_pos hd0, if_neg (by rw [hdf]; decide)]
                  refine ⟨Or.inl hdc, rfl, ?_, ?_⟩
                  · show x12 = _
                    rw [h0 rfl]
                    unfold vN
                    rw [if_pos hdc]
                  · show nI (p + 1 + 0) = _
                    rw [hdc]
                · have i1 : i = 1 := by omega
                  subst i1
                  have hdc : dC t T p = 2 := by
                    unfold dC
                    rw [if_pos hd0, if_pos (hd 1 (by omega)), if_neg (by rw [hdf]; decide)]
                  refine ⟨Or.inr hdc, rfl, ?_, ?_⟩
                  · show x12 = _
                    rw [h1 (by omega)]
                    unfold vN
                    rw [if_neg (by omega)]
                  · show nI (p + 1 + 1) = _
                    rw [hdc]
            · have hdc : dC t T p = 3 := by
                unfold dC
                rw [if_pos hd0, if_pos (hd 1 (by omega)), if_pos (hd 2 (by omega))]
              refine ⟨(md.1, md.2.1, md.2.2.1, md.2.2.2.1, md.2.2.2.2.1, md.2.2.2.2.2.1, md.2.2.2.2.2.2.1, md.2.2.2.2.2.2.2.1, nI (p + 1 + i), nI p, nI 4, x12, md.2.2.2.2.2.2.2.2.2.2.2.2.1, md.2.2.2.2.2.2.2.2.2.2.2.2.2.1, md.2.2.2.2.2.2.2.2.2.2.2.2.2.2.1, md.2.2.2.2.2.2.2.2.2.2.2.2.2.2.2.1, md.2.2.2.2.2.2.2.2.2.2.2.2.2.2.2.2), ?_, Fr.rf _, rfl, hp, hf, rfl, Or.inr (Or.inr (Or.inr (Or.inr ⟨hpt, Or.inr hdc, e1, by omega, by omega, rfl⟩)))⟩
              simp (disch := omega) only [pk_sub, ↓reduceIte, bt_do, bd_do, jn_eq, bI_z, gd_nI, gd_0, gd_1, nI_clamp, nI_add, nI_1, pk_mul, Nat.add_zero, Nat.zero_add, ile_t, ile_f, ilt_t, ilt_f, ieq_t, ieq_f, iz_t, iz_f, ilt0, ige0, im1, Bool.false_eq_true, Bool.true_eq_false, if_true, if_false]
          refine lp_gen (fun i (z : MD) => ∃ x12, z = (md.1, md.2.1, md.2.2.1, md.2.2.2.1, md.2.2.2.2.1, md.2.2.2.2.2.1, md.2.2.2.2.2.2.1, md.2.2.2.2.2.2.2.1, nI (p + 1 + i), nI p, nI 2, x12, md.2.2.2.2.2.2.2.2.2.2.2.2.1, md.2.2.2.2.2.2.2.2.2.2.2.2.2.1, md.2.2.2.2.2.2.2.2.2.2.2.2.2.2.1, md.2.2.2.2.2.2.2.2.2.2.2.2.2.2.2.1, md.2.2.2.2.2.2.2.2.2.2.2.2.2.2.2.2) ∧ (∀ j, j ≤ i → dg t T (p + j) = true) ∧ (i = 0 → x12 = nI (T p - 48)) ∧ (1 ≤ i → x12 = nI (10 * (T p - 48) + (T (p + 1) - 48)))) (fun X => ∃ md', X = some md' ∧ Fr md md' ∧ md'.2.1 = md.2.1 ∧ PO t T p md') (t - p - 1) (by omega) ⟨nI (T p - 48), rfl, fun j hj => by rw [show p + j = p by omega]; exact hd0, fun _ => rfl, fun q => by omega⟩ ?_ ?_
          · rintro i z hi ⟨x12, rfl, hd, h0, h1⟩
            have hlt : p + 1 + i < t := by omega
            obtain ⟨z1, z2⟩ := t3 (p + 1 + i) hlt
            have hz : f_X11_in (nI (T (p + 1 + i))).toInt64 (lN 48) (lN 57) = decide (48 ≤ T (p + 1 + i) ∧ T (p + 1 + i) ≤ 57) := in_d (by omega) (by omega) (by omega)
            by_cases e3 : 48 ≤ T (p + 1 + i) ∧ T (p + 1 + i) ≤ 57
            · rw [decide_eq_true e3] at hz
              left
              have hdi' : dg t T (p + (i + 1)) = true := by
                rw [show p + (i + 1) = p + 1 + i by omega]
                unfold dg
                rw [decide_eq_true hlt, decide_eq_true e3]
                rfl
              by_cases i0 : i = 0
              · subst i0
                have hx := h0 rfl
                subst hx
                refine ⟨(md.1, md.2.1, md.2.2.1, md.2.2.2.1, md.2.2.2.2.1, md.2.2.2.2.2.1, md.2.2.2.2.2.2.1, md.2.2.2.2.2.2.2.1, nI (p + 1 + (0 + 1)), nI p, nI 2, nI (10 * (T p - 48) + (T (p + 1) - 48)), md.2.2.2.2.2.2.2.2.2.2.2.2.1, md.2.2.2.2.2.2.2.2.2.2.2.2.2.1, md.2.2.2.2.2.2.2.2.2.2.2.2.2.2.1, md.2.2.2.2.2.2.2.2.2.2.2.2.2.2.2.1, md.2.2.2.2.2.2.2.2.2.2.2.2.2.2.2.2), ⟨_, rfl, fun j hj => ?_, fun q => by omega, fun _ => rfl⟩, fun rec => ?_⟩
                · by_cases ej : j = 0 + 1
                  · rw [ej]; exact hdi'
                  · exact hd j (by omega)
                · rw [Nat.add_zero] at z1 z2 hz e3
                  rw [show 10 * (T p - 48) + (T (p + 1) - 48) = 10 * (T p - 48) + T (p + 1) - 48 by omega]
                  simp (disch := omega) only [ubX11_reads_5, u_X11_byteAt, t2, z1, ↓hz, pk_sub, ↓reduceIte, bt_do, bd_do, jn_eq, bI_z, gd_nI, gd_0, gd_1, nI_clamp, nI_add, nI_1, pk_mul, Nat.add_zero, Nat.zero_add, ile_t, ile_f, ilt_t, ilt_f, ieq_t, ieq_f, iz_t, iz_f, ilt0, ige0, im1, Bool.false_eq_true, Bool.true_eq_false, if_true, if_false]
              · have hx := h1 (by omega)
                subst hx
                refine ⟨(md.1, md.2.1, md.2.2.1, md.2.2.2.1, md.2.2.2.2.1, md.2.2.2.2.2.1, md.2.2.2.2.2.2.1, md.2.2.2.2.2.2.2.1, nI (p + 1 + (i + 1)), nI p, nI 2, nI (10 * (T p - 48) + (T (p + 1) - 48)), md.2.2.2.2.2.2.2.2.2.2.2.2.1, md.2.2.2.2.2.2.2.2.2.2.2.2.2.1, md.2.2.2.2.2.2.2.2.2.2.2.2.2.2.1, md.2.2.2.2.2.2.2.2.2.2.2.2.2.2.2.1, md.2.2.2.2.2.2.2.2.2.2.2.2.2.2.2.2), ⟨_, rfl, fun j hj => ?_, fun q => by omega, fun _ => rfl⟩, fun rec => ?_⟩
                · by_cases ej : j = i + 1
                  · rw [ej]; exact hdi'
                  · exact hd j (by omega)
                · simp (disch := omega) only [ubX11_reads_5, u_X11_byteAt, t2, z1, ↓hz, pk_sub, ↓reduceIte, bt_do, bd_do, jn_eq, bI_z, gd_nI, gd_0, gd_1, nI_clamp, nI_add, nI_1, pk_mul, Nat.add_zero, Nat.zero_add, ile_t, ile_f, ilt_t, ilt_f, ieq_t, ieq_f, iz_t, iz_f, ilt0, ige0, im1, Bool.false_eq_true, Bool.true_eq_false, if_true, if_false]
                  rw [Nat.add_assoc]
            · rw [decide_eq_false e3] at hz
              right
              have hdf : dg t T (p + 1 + i) = false := by
                unfold dg
                rw [decide_eq_false e3, Bool.and_false]
              obtain ⟨md', k1, k2⟩ := hend i x12 (by omega) hd hdf h0 h1
              refine ⟨_, ⟨md', k1, k2⟩, fun rec => ?_⟩
              simp (disch := omega) only [ubX11_reads_5, u_X11_byteAt, t2, z1, ↓hz, ↓reduceIte, bt_do, bd_do, jn_eq, bI_z, gd_nI, gd_0, gd_1, nI_clamp, nI_add, nI_1, pk_mul, Nat.add_zero, Nat.zero_add, ile_t, ile_f, ilt_t, ilt_f, ieq_t, ieq_f, iz_t, iz_f, ilt0, ige0, im1, Bool.false_eq_true, Bool.true_eq_false, if_true, if_false] <;> rfl
          · rintro z ⟨x12, rfl, hd, h0, h1⟩
            have hdf : dg t T (p + 1 + (t - p - 1)) = false := by
              unfold dg
              rw [decide_eq_false (by omega), Bool.false_and]
            obtain ⟨md', k1, k2⟩ := hend (t - p - 1) x12 (by omega) hd hdf h0 h1
            refine ⟨_, ⟨md', k1, k2⟩, fun rec => ?_⟩
            simp (disch := omega) only [ubX11_reads_5, u_X11_byteAt, t2, m1_in, ↓reduceIte, bt_do, bd_do, jn_eq, bI_z, gd_nI, gd_0, gd_1, nI_clamp, nI_add, nI_1, pk_mul, Nat.add_zero, Nat.zero_add, ile_t, ile_f, ilt_t, ilt_f, ieq_t, ieq_f, iz_t, iz_f, ilt0, ige0, im1, Bool.false_eq_true, Bool.true_eq_false, if_true, if_false] <;> rfl
        obtain ⟨md', k1, k2⟩ := key _ rfl
        refine ⟨md', Eq.trans ?_ k1, k2⟩
        simp (disch := omega) only [u_X11_reads, u_X11_byteAt, hat, t2, y1, ↓hle, ↓hdi, bIt, bIf, pk_sub, ↓reduceIte, bt_do, bd_do, jn_eq, bI_z, gd_nI, gd_0, gd_1, nI_clamp, nI_add, nI_1, pk_mul, Nat.add_zero, Nat.zero_add, ile_t, ile_f, ilt_t, ilt_f, ieq_t, ieq_f, iz_t, iz_f, ilt0, ige0, im1, Bool.false_eq_true, Bool.true_eq_false, if_true, if_false]
      · rw [decide_eq_false e2] at hdi
        have hdc := dC_0 (t := t) e2
        by_cases e3 : T p = 44
        · refine ⟨(md.1, md.2.1, md.2.2.1, md.2.2.2.1, md.2.2.2.2.1, md.2.2.2.2.2.1, md.2.2.2.2.2.2.1, md.2.2.2.2.2.2.2.1, nI (p + 1), nI p, nI 3, nI (T p), md.2.2.2.2.2.2.2.2.2.2.2.2.1, md.2.2.2.2.2.2.2.2.2.2.2.2.2.1, md.2.2.2.2.2.2.2.2.2.2.2.2.2.2.1, md.2.2.2.2.2.2.2.2.2.2.2.2.2.2.2.1, md.2.2.2.2.2.2.2.2.2.2.2.2.2.2.2.2), ?_, Fr.rf _, rfl, hp, hf, rfl, Or.inr (Or.inr (Or.inr (Or.inl ⟨hpt, Or.inl e3, rfl, rfl, rfl⟩)))⟩
          simp (disch := omega) only [u_X11_reads, u_X11_byteAt, hat, t2, y1, ↓hle, ↓hdi, bIt, bIf, ↓reduceIte, bt_do, bd_do, jn_eq, bI_z, gd_nI, gd_0, gd_1, nI_clamp, nI_add, nI_1, pk_mul, Nat.add_zero, Nat.zero_add, ile_t, ile_f, ilt_t, ilt_f, ieq_t, ieq_f, iz_t, iz_f, ilt0, ige0, im1, Bool.false_eq_true, Bool.true_eq_false, if_true, if_false]
        · by_cases e4 : T p = 59
          · refine ⟨(md.1, md.2.1, md.2.2.1, md.2.2.2.1, md.2.2.2.2.1, md.2.2.2.2.2.1, md.2.2.2.2.2.2.1, md.2.2.2.2.2.2.2.1, nI (p + 1), nI p, nI 3, nI (T p), md.2.2.2.2.2.2.2.2.2.2.2.2.1, md.2.2.2.2.2.2.2.2.2.2.2.2.2.1, md.2.2.2.2.2.2.2.2.2.2.2.2.2.2.1, md.2.2.2.2.2.2.2.2.2.2.2.2.2.2.2.1, md.2.2.2.2.2.2.2.2.2.2.2.2.2.2.2.2), ?_, Fr.rf _, rfl, hp, hf, rfl, Or.inr (Or.inr (Or.inr (Or.inl ⟨hpt, Or.inr e4, rfl, rfl, rfl⟩)))⟩
            simp (disch := omega) only [u_X11_reads, u_X11_byteAt, hat, t2, y1, ↓hle, ↓hdi, bIt, bIf, ↓reduceIte, bt_do, bd_do, jn_eq, bI_z, gd_nI, gd_0, gd_1, nI_clamp, nI_add, nI_1, pk_mul, Nat.add_zero, Nat.zero_add, ile_t, ile_f, ilt_t, ilt_f, ieq_t, ieq_f, iz_t, iz_f, ilt0, ige0, im1, Bool.false_eq_true, Bool.true_eq_false, if_true, if_false]
          · refine ⟨(md.1, md.2.1, md.2.2.1, md.2.2.2.1, md.2.2.2.2.1, md.2.2.2.2.2.1, md.2.2.2.2.2.2.1, md.2.2.2.2.2.2.2.1, nI (p + 1), nI p, nI 4, nI (T p), md.2.2.2.2.2.2.2.2.2.2.2.2.1, md.2.2.2.2.2.2.2.2.2.2.2.2.2.1, md.2.2.2.2.2.2.2.2.2.2.2.2.2.2.1, md.2.2.2.2.2.2.2.2.2.2.2.2.2.2.2.1, md.2.2.2.2.2.2.2.2.2.2.2.2.2.2.2.2), ?_, Fr.rf _, rfl, hp, hf, rfl, Or.inr (Or.inr (Or.inr (Or.inr ⟨hpt, Or.inl hdc, e1, e3, e4, rfl⟩)))⟩
            simp (disch := omega) only [u_X11_reads, u_X11_byteAt, hat, t2, y1, ↓hle, ↓hdi, bIt, bIf, ↓reduceIte, bt_do, bd_do, jn_eq, bI_z, gd_nI, gd_0, gd_1, nI_clamp, nI_add, nI_1, pk_mul, Nat.add_zero, Nat.zero_add, ile_t, ile_f, ilt_t, ilt_f, ieq_t, ieq_f, iz_t, iz_f, ilt0, ige0, im1, Bool.false_eq_true, Bool.true_eq_false, if_true, if_false]
