/-! PURE 9r: the head -/
def finM (r22 : Int32 × MD) : Option (Int32 × MD) := bd (if r22.2.2.2.2.2.2.2.2.2.2.2.1 = 0 then (some r22.2) else (bd (f_X11_bad r22.2 (nI 1)) (fun r27 => some r27))) (fun q23 : MD => if q23.2.2.2.2.2.2.2.2.2.2.2.2.1 ≤ 0 then (bd (f_X11_copies 340 q23.2.1 (nI 0) 340 q23.1 (nI 0)) (fun r25 => some (r22.1, (r25, q23.2.1, q23.2.2.1, (nI 0), q23.2.2.2.2.1, q23.2.2.2.2.2.1, q23.2.2.2.2.2.2.1, (nI 0), q23.2.2.2.2.2.2.2.2.1, q23.2.2.2.2.2.2.2.2.2.1, q23.2.2.2.2.2.2.2.2.2.2.1, q23.2.2.2.2.2.2.2.2.2.2.2.1, q23.2.2.2.2.2.2.2.2.2.2.2.2.1, q23.2.2.2.2.2.2.2.2.2.2.2.2.2.1, q23.2.2.2.2.2.2.2.2.2.2.2.2.2.2.1, q23.2.2.2.2.2.2.2.2.2.2.2.2.2.2.2.1, q23.2.2.2.2.2.2.2.2.2.2.2.2.2.2.2.2)))) else (some ((((-1000100) : Int32) - q23.2.2.2.2.2.2.2.2.2.2.2.2.2.1), (q23.1, q23.2.1, q23.2.2.1, q23.2.2.2.1, q23.2.2.2.2.1, q23.2.2.2.2.2.1, q23.2.2.2.2.2.2.1, (nI 0), q23.2.2.2.2.2.2.2.2.1, q23.2.2.2.2.2.2.2.2.2.1, q23.2.2.2.2.2.2.2.2.2.2.1, q23.2.2.2.2.2.2.2.2.2.2.2.1, q23.2.2.2.2.2.2.2.2.2.2.2.2.1, q23.2.2.2.2.2.2.2.2.2.2.2.2.2.1, q23.2.2.2.2.2.2.2.2.2.2.2.2.1, q23.2.2.2.2.2.2.2.2.2.2.2.2.2.2.2.1, q23.2.2.2.2.2.2.2.2.2.2.2.2.2.2.2.2))))
def tailM (md : MD) : Option (Int32 × MD) := jn (fun q20 : Int32 × MD => bd (f_X11_readsServers q20.2) (fun r21 => bd (f_X11_readsFiles r21) finM)) (fun K20 => lpF (bX11_house_20 K20) FU ((nI 0), md))
def stg (a b i c : Nat) (next : MD → Option (Int32 × MD)) (md : MD) : Option (Int32 × MD) := bd (f_X11_number md (nI a) (nI b)) (fun r => gdI (nI i) 340 (bd (f_X11_sign (r.2.1, vp_updL r.2.2.1 (nI i).toNatClampNeg r.1.toInt64, r.2.2.2) (nI c)) next))
def hs5 : MD → Option (Int32 × MD) := stg 0 20 4 59 tailM
def hs4 : MD → Option (Int32 × MD) := stg 1 20 3 44 hs5
def hs3 : MD → Option (Int32 × MD) := stg 4 9 2 44 hs4
def hs2 : MD → Option (Int32 × MD) := stg 1 3 1 44 hs3
def hs1 : MD → Option (Int32 × MD) := stg 2 5 0 44 hs2
def begM (md : MD) : Option (Int32 × MD) := bd (f_X11_reads (md.1, md.2.1, md.2.2.1, md.2.2.2.1, md.2.2.2.2.1, md.2.2.2.2.2.1, md.2.2.2.2.2.2.1, md.2.2.2.2.2.2.2.1, (nI 0), md.2.2.2.2.2.2.2.2.2.1, md.2.2.2.2.2.2.2.2.2.2.1, md.2.2.2.2.2.2.2.2.2.2.2.1, (nI 0), md.2.2.2.2.2.2.2.2.2.2.2.2.2.1, md.2.2.2.2.2.2.2.2.2.2.2.2.2.2.1, md.2.2.2.2.2.2.2.2.2.2.2.2.2.2.2.1, md.2.2.2.2.2.2.2.2.2.2.2.2.2.2.2.2)) (fun r2 => bd (if (bI (f_X11_isLetter r2 (nI 104))) = 0 then (bd (f_X11_bad r2 (nI 1)) (fun r33 => some r33)) else (some r2)) (fun q3 : MD => bd (f_X11_goesOn q3) hs1))
theorem house_e (v0 : MD) : f_X11_house v0 = jn (fun q1 : Int32 × MD => begM q1.2) (fun K1 => lpF (bX11_house_1 K1) FU ((nI 0), v0)) := by
  rw [u_X11_house]
  rfl
theorem stg_fo {a b i c k p : Nat} {next : MD → Option (Int32 × MD)} {md : MD} (h : FO k p md) (ha : a < 100) (hi : i < 5) : ∃ md', stg a b i c next md = next md' ∧ Fr md md' ∧ md'.2.1 = vp_updL md.2.1 i (lN a) ∧ FO k p md' := by
  have h' : FO k p (md.1, vp_updL md.2.1 i (lN a), md.2.2) := h
  refine ⟨(md.1, vp_updL md.2.1 i (lN a), md.2.2), ?_, Fr.rf _, rfl, h⟩
  unfold stg
  simp (disch := omega) only [fo_number h, nI_l, fo_sign h', ↓reduceIte, bt_do, bd_do, jn_eq, bI_z, gd_nI, gd_0, gd_1, nI_clamp, nI_add, nI_1, pk_mul, Nat.add_zero, Nat.zero_add, ile_t, ile_f, ilt_t, ilt_f, ieq_t, ieq_f, iz_t, iz_f, ilt0, ige0, im1, Bool.false_eq_true, Bool.true_eq_false, if_true, if_false]
theorem stg_po {t : Nat} {T : Nat → Nat} {a b i c p : Nat} {next : MD → Option (Int32 × MD)} {md : MD} (hT : TPM t T md) (hP : PO t T p md) (ha : a < 100) (hb : b < 100) (hi : i < 5) (hc : c = 44 ∨ c = 59) (hab : a ≤ b) : ∃ md' y, stg a b i c next md = next md' ∧ Fr md md' ∧ md'.2.1 = vp_updL md.2.1 i (lN y) ∧ a ≤ y ∧ y ≤ b ∧ ((nuK t T a b p = 0 ∧ y = vN t T p ∧ p + dC t T p ≤ t ∧ ((sgn t T c (p + dC t T p) = true ∧ PO t T (p + dC t T p + 1) md') ∨ (sgn t T c (p + dC t T p) = false ∧ FO 1 (p + dC t T p) md'))) ∨ (¬ nuK t T a b p = 0 ∧ FO (nuK t T a b p) p md')) := by
  obtain ⟨m1, v, k1, k2, k3, k4⟩ := number_m hT hP ha hb
  rcases k4 with ⟨q1, q2, q3⟩ | ⟨q1, q2, q3⟩
  · have hr : a ≤ vN t T p ∧ vN t T p ≤ b := by
      unfold nuK at q1
      by_cases z : dC t T p = 0 ∨ dC t T p = 3
      · rw [if_pos z] at q1; omega
      · rw [if_neg z] at q1
        by_cases z2 : a ≤ vN t T p ∧ vN t T p ≤ b
        · exact z2
        · rw [if_neg z2] at q1; omega
    have hT1 : TPM t T (m1.1, vp_updL m1.2.1 i (lN (vN t T p)), m1.2.2) := k2.tpm hT
    have hP1 : PO t T (p + dC t T p) (m1.1, vp_updL m1.2.1 i (lN (vN t T p)), m1.2.2) := q3
    obtain ⟨m2, j1, j2, j3, j4⟩ := sign_m hT1 hP1 hc
    refine ⟨m2, vN t T p, ?_, k2.tr j2, ?_, hr.1, hr.2, Or.inl ⟨q1, rfl, q3.1, j4⟩⟩
    · unfold stg
      rw [q2] at k1
      simp (disch := omega) only [k1, nI_l, j1, ↓reduceIte, bt_do, bd_do, jn_eq, bI_z, gd_nI, gd_0, gd_1, nI_clamp, nI_add, nI_1, pk_mul, Nat.add_zero, Nat.zero_add, ile_t, ile_f, ilt_t, ilt_f, ieq_t, ieq_f, iz_t, iz_f, ilt0, ige0, im1, Bool.false_eq_true, Bool.true_eq_false, if_true, if_false]
    · rw [j3]
      show vp_updL m1.2.1 i _ = _
      rw [k3]
  · have h' : FO (nuK t T a b p) p (m1.1, vp_updL m1.2.1 i (lN a), m1.2.2) := q3
    refine ⟨(m1.1, vp_updL m1.2.1 i (lN a), m1.2.2), a, ?_, k2, ?_, Nat.le_refl _, hab, Or.inr ⟨q1, q3⟩⟩
    · unfold stg
      rw [q2] at k1
      simp (disch := omega) only [k1, nI_l, fo_sign h', ↓reduceIte, bt_do, bd_do, jn_eq, bI_z, gd_nI, gd_0, gd_1, nI_clamp, nI_add, nI_1, pk_mul, Nat.add_zero, Nat.zero_add, ile_t, ile_f, ilt_t, ilt_f, ieq_t, ieq_f, iz_t, iz_f, ilt0, ige0, im1, Bool.false_eq_true, Bool.true_eq_false, if_true, if_false]
    · show vp_updL m1.2.1 i _ = _
      rw [k3]
def N5 (md : MD) : Prop := ∃ N, N ≤ 5 ∧ md.2.1 0 = lN N
def TF (k p : Nat) (md : MD) (X : Option (Int32 × MD)) : Prop := ∃ md', X = tailM md' ∧ Fr md md' ∧ FO k p md' ∧ N5 md'
theorem N5.up {md md' : MD} {i : Nat} {y : Int64} (h : N5 md) (hi : ¬ i = 0) (e : md'.2.1 = vp_updL md.2.1 i y) : N5 md' := by
  obtain ⟨N, h1, h2⟩ := h
  exact ⟨N, h1, by rw [e, pk_uLn (by omega)]; exact h2⟩
theorem TF.tr {k p : Nat} {m md : MD} {X : Option (Int32 × MD)} (h1 : Fr m md) (h : TF k p md X) : TF k p m X := by
  obtain ⟨md', q1, q2, q3, q4⟩ := h
  exact ⟨md', q1, h1.tr q2, q3, q4⟩
theorem fo_5 {k p : Nat} {md : MD} (h : FO k p md) (hN : N5 md) : TF k p md (hs5 md) := by
  obtain ⟨md', q1, q2, q3, q4⟩ := stg_fo (b := 20) (c := 59) (next := tailM) (a := 0) (i := 4) h (by omega) (by omega)
  exact ⟨md', q1, q2, q4, hN.up (by omega) q3⟩
theorem fo_4 {k p : Nat} {md : MD} (h : FO k p md) (hN : N5 md) : TF k p md (hs4 md) := by
  obtain ⟨md', q1, q2, q3, q4⟩ := stg_fo (b := 20) (c := 44) (next := hs5) (a := 1) (i := 3) h (by omega) (by omega)
  exact (by rw [show hs4 md = _ from q1]; exact (fo_5 q4 (hN.up (by omega) q3)).tr q2)
theorem fo_3 {k p : Nat} {md : MD} (h : FO k p md) (hN : N5 md) : TF k p md (hs3 md) := by
  obtain ⟨md', q1, q2, q3, q4⟩ := stg_fo (b := 9) (c := 44) (next := hs4) (a := 4) (i := 2) h (by omega) (by omega)
  exact (by rw [show hs3 md = _ from q1]; exact (fo_4 q4 (hN.up (by omega) q3)).tr q2)
theorem fo_2 {k p : Nat} {md : MD} (h : FO k p md) (hN : N5 md) : TF k p md (hs2 md) := by
  obtain ⟨md', q1, q2, q3, q4⟩ := stg_fo (b := 3) (c := 44) (next := hs3) (a := 1) (i := 1) h (by omega) (by omega)
  exact (by rw [show hs2 md = _ from q1]; exact (fo_3 q4 (hN.up (by omega) q3)).tr q2)
theorem fo_1 {k p : Nat} {md : MD} (h : FO k p md) : TF k p md (hs1 md) := by
  obtain ⟨md', q1, q2, q3, q4⟩ := stg_fo (b := 5) (c := 44) (next := hs2) (a := 2) (i := 0) h (by omega) (by omega)
  exact (by rw [show hs1 md = _ from q1]; exact (fo_2 q4 ⟨2, by omega, by rw [q3, pk_uLs]⟩).tr q2)
