/-! PURE 9t: the servers -/
theorem at_is {t : Nat} {T : Nat → Nat} {tp : TP} (h : TPC t T tp) {c p : Nat} (hc : c < 200) : ((if p < t then nI (T p) else -1) = nI c) = (sgn t T c p = true) := by
  by_cases e : p < t
  · have h255 := (h.2.2 p e).2
    rw [if_pos e]
    by_cases e2 : T p = c
    · rw [sgn_t ⟨e, e2⟩, e2]
      exact propext ⟨fun _ => rfl, fun _ => rfl⟩
    · rw [sgn_f (fun q => e2 q.2), ieq_f (by omega) (by omega) (by omega)]
      exact propext ⟨fun q => q.elim, fun q => by cases q⟩
  · rw [if_neg e, sgn_f (fun q => e q.1)]
    refine propext ⟨fun q => ?_, fun q => by cases q⟩
    have := im1 (a := c) (by omega)
    rw [← q] at this
    exact (this.mp rfl).elim
def rmA (A : AH) (i v : Nat) : AH := (A.1, A.2.1, upO A.2.2.1 i v, A.2.2.2)
theorem RC.room {A : AH} {v : HS} (h : RC A v) (i x : Nat) : RC (rmA A i x) (hSV v (v.2.2.2.2.2.1.1, v.2.2.2.2.2.1.2.1, upd v.2.2.2.2.2.1.2.2.1 i (nI x), v.2.2.2.2.2.1.2.2.2)) := by
  refine ⟨h.1, ⟨h.2.1.1, fun s hs => ⟨fun q => ?_, (h.2.1.2 s hs).2.1, (h.2.1.2 s hs).2.2⟩⟩, h.2.2.1, h.2.2.2.1, h.2.2.2.2⟩
  show upd _ i _ s = nI (upO (A.2.2.1) i x s)
  by_cases e : s = i
  · rw [e, pk_us, up_s]
  · rw [pk_un e, up_n e]; exact (h.2.1.2 s hs).1 q
theorem RM.room {A : AH} {b : Nat → Int64} (h : RM A b) (hm : aMade A ≤ 30) {i : Nat} (hi : i < 5) (x : Nat) : RM (rmA A i x) (vp_updL b (7 + 3 * i + 1) (lN x)) := by
  refine ⟨fun k hk => ?_, fun s hs => ?_, fun f hf => ?_, fun c hc => ?_, fun c s hc hs => ?_⟩
  · rw [pk_uLn (by omega)]; exact h.1 k hk
  · obtain ⟨h1, h2, h3⟩ := h.2.1 s hs
    refine ⟨?_, fun q => ?_, ?_⟩
    · rw [pk_uLn (by omega)]; exact h1
    · show _ = lN (upO (A.2.2.1) i x s)
      by_cases e : s = i
      · rw [e, pk_uLs, up_s]
      · rw [pk_uLn (by omega), up_n e]; exact h2 q
    · rw [pk_uLn (by omega)]; exact h3
  · exact RMF.of (h.2.2.1 f hf) (fun j hj => pk_uLn (by omega))
  · have hc : c < aMade A := hc
    exact RMC.of (h.2.2.2.1 c hc) (fun j hj => pk_uLn (by omega))
  · have hc : c < aMade A := hc
    rw [pk_uLn (by omega)]; exact h.2.2.2.2 c s hc hs
theorem AI.room {n : Nat} {A : AH} (h : AI n A) {i x : Nat} (hx : 1 ≤ x ∧ x ≤ 9) : AI n (rmA A i x) := by
  obtain ⟨h0, h1, h2, h3, h4, h5, h6, h7, h8, h9, h10, h11, h12, h13⟩ := h
  refine ⟨h0, h1, h2, h3, h4, h5, h6, h7, fun s hs => ?_, h9, h10, h11, h12, h13⟩
  show 1 ≤ upO (A.2.2.1) i x s ∧ upO (A.2.2.1) i x s ≤ 9
  by_cases e : s = i
  · rw [e, up_s]; exact hx
  · rw [up_n e]; exact h8 s hs
theorem srv_fo {k q m : Nat} {md : MD} {x : Int32} (h : FO k q md) (K : (Int32 × MD) → Option MD) : lpF (bX11_readsServers_1 K) (m + 1) (x, md) = K (x, md) := by
  rw [lpF, ubX11_readsServers_1]
  simp only [fo_letter h, ↓reduceIte, bt_do, bd_do, jn_eq, bI_z, gd_nI, gd_0, gd_1, nI_clamp, nI_add, nI_1, pk_mul, Nat.add_zero, Nat.zero_add, ile_t, ile_f, ilt_t, ilt_f, ieq_t, ieq_f, iz_t, iz_f, ilt0, ige0, im1, Bool.false_eq_true, Bool.true_eq_false, if_true, if_false]
def SV1 (A A' : AH) : Prop := A'.1 = A.1 ∧ A'.2.1 = A.2.1 ∧ A'.2.2.2 = A.2.2.2
def SRV (t : Nat) (T : Nat → Nat) (n : Nat) (tp : TP) (A : AH) (md : MD) (X : Option (Bool × RD × HS)) (Y : Option MD) : Prop := (∃ k q nu hs md', q ≤ 80 ∧ X = some (false, (tp, nI q, nI k, nu), hs) ∧ Y = some md' ∧ Fr md md' ∧ FO k q md') ∨ (∃ q A' nu hs md', X = some (true, (tp, nI q, nI 0, nu), hs) ∧ Y = some md' ∧ Fr md md' ∧ PO t T q md' ∧ RC A' hs ∧ RM A' md'.2.1 ∧ AI n A' ∧ SV1 A A')
theorem SRV.tr {t : Nat} {T : Nat → Nat} {n : Nat} {tp : TP} {A B : AH} {m md : MD} {X : Option (Bool × RD × HS)} {Y : Option MD} (h1 : Fr m md) (h2 : SV1 A B) (h : SRV t T n tp B md X Y) : SRV t T n tp A m X Y := by
  rcases h with ⟨k, q, nu, hs, md', q1, q2, q3, q4, q5⟩ | ⟨q, A', nu, hs, md', q2, q3, q4, q5, q6, q7, q8, q9⟩
  · exact Or.inl ⟨k, q, nu, hs, md', q1, q2, q3, h1.tr q4, q5⟩
  · exact Or.inr ⟨q, A', nu, hs, md', q2, q3, h1.tr q4, q5, q6, q7, q8, q9.1.trans h2.1, q9.2.1.trans h2.2.1, q9.2.2.trans h2.2.2⟩
theorem servers {t : Nat} {T : Nat → Nat} {n : Nat} {tp : TP} (hC : TPC t T tp) : ∀ (d i p : Nat) (A : AH) (hs : HS) (md : MD) (nu : Int32) (m1 m2 : Nat), i + d = nS A → d < m1 → d + 2 < m2 → RC A hs → RM A md.2.1 → AI n A → TPM t T md → PO t T p md → SRV t T n tp A md (lpF (bX7_readServers_1 (fun q1 : Int32 × RD × HS => some (true, q1.2.1, q1.2.2))) m1 (nI i, (tp, nI p, nI 0, nu), hs)) (lpF (bX11_readsServers_1 (fun q1 : Int32 × MD => some q1.2)) m2 (nI i, md)) := by
  intro d
  induction d with
  | zero =>
    intro i p A hs md nu m1 m2 hi hm1 hm2 hR hM hA hT hP
    obtain ⟨m1, rfl⟩ : ∃ m, m1 = m + 1 := ⟨m1 - 1, by omega⟩
    obtain ⟨m2, rfl⟩ : ∃ m, m2 = m + 1 + 1 := ⟨m2 - 2, by omega⟩
    have h5 : nS A ≤ 5 := hA.1
    have ht := hC.1
    have hp := hP.1
    obtain ⟨l1, l2⟩ := letter_m hT hP (c := 115) (by omega)
    have ha := at_c hC (p := p) (by omega)
    have hq := at_is hC (c := 115) (p := p) (by omega)
    rw [lpF]
    cases e : sgn t T 115 p with
    | false =>
      right
      rw [e] at l1
      refine ⟨p, A, nu, hs, md, ?_, ?_, Fr.rf _, hP, hR, hM, hA, rfl, rfl, rfl⟩
      · simp (disch := omega) only [ubX7_readServers_1, ha, hq, e, ↓reduceIte, bt_do, bd_do, jn_eq, bI_z, gd_nI, gd_0, gd_1, nI_clamp, nI_add, nI_1, pk_mul, Nat.add_zero, Nat.zero_add, ile_t, ile_f, ilt_t, ilt_f, ieq_t, ieq_f, iz_t, iz_f, ilt0, ige0, im1, Bool.false_eq_true, Bool.true_eq_false, if_true, if_false]
      · rw [lpF, ubX11_readsServers_1]
        simp only [l1, ↓reduceIte, bt_do, bd_do, jn_eq, bI_z, gd_nI, gd_0, gd_1, nI_clamp, nI_add, nI_1, pk_mul, Nat.add_zero, Nat.zero_add, ile_t, ile_f, ilt_t, ilt_f, ieq_t, ieq_f, iz_t, iz_f, ilt0, ige0, im1, Bool.false_eq_true, Bool.true_eq_false, if_true, if_false]
    | true =>
      left
      rw [e] at l1
      have hhas : f_X8_has hs.2.2.2.2.2.1 (nI i) = false := by
        rw [has_sv hR.2.1, has_i _ (by omega), nI_toInt (by omega), decide_eq_false (show ¬ (i : Int) < (nS A : Int) by omega), Bool.and_false]
      obtain ⟨m3, b1, b2, b3, b4⟩ := bad_m (md := md) (k := 3) (p := p) (by omega) hP.2.2.1 hP.2.1
      have v0 : md.2.1 0 = lN (nS A) := hM.1 0 (by omega)
      refine ⟨3, p, nu, hs, m3, by omega, ?_, ?_, b2, b4⟩
      · simp (disch := omega) only [ubX7_readServers_1, ha, hq, e, hhas, u_X7_refuse, ↓reduceIte, bt_do, bd_do, jn_eq, bI_z, gd_nI, gd_0, gd_1, nI_clamp, nI_add, nI_1, pk_mul, Nat.add_zero, Nat.zero_add, ile_t, ile_f, ilt_t, ilt_f, ieq_t, ieq_f, iz_t, iz_f, ilt0, ige0, im1, Bool.false_eq_true, Bool.true_eq_false, if_true, if_false]
      · rw [lpF, ubX11_readsServers_1]
        simp (disch := omega) only [l1, v0, nI_l, b1, fo_next b4, fo_number b4, fo_sign b4, fo_nz b4, ↓reduceIte, bt_do, bd_do, jn_eq, bI_z, gd_nI, gd_0, gd_1, nI_clamp, nI_add, nI_1, pk_mul, Nat.add_zero, Nat.zero_add, ile_t, ile_f, ilt_t, ilt_f, ieq_t, ieq_f, iz_t, iz_f, ilt0, ige0, im1, Bool.false_eq_true, Bool.true_eq_false, if_true, if_false, lc_ge_t, lc_ge_f, lc_eq_t, lc_eq_f, lc_le_t, lc_le_f, lc_gt_t, lc_gt_f, lc_lt_t, lc_lt_f, nI_l, lN_i, lN_add, lN_1]
        exact srv_fo b4 _
  | succ d ih =>
    intro i p A hs md nu m1 m2 hi hm1 hm2 hR hM hA hT hP
    obtain ⟨m1, rfl⟩ : ∃ m, m1 = m + 1 := ⟨m1 - 1, by omega⟩
    obtain ⟨m2, rfl⟩ : ∃ m, m2 = m + 1 + 1 := ⟨m2 - 2, by omega⟩
    have h5 : nS A ≤ 5 := hA.1
    have h30 : aMade A ≤ 30 := hA.2.2.2.2.2.2.1
    have ht := hC.1
    have hp := hP.1
    obtain ⟨l1, l2⟩ := letter_m hT hP (c := 115) (by omega)
    have ha := at_c hC (p := p) (by omega)
    have hq := at_is hC (c := 115) (p := p) (by omega)
    rw [lpF]
    cases e : sgn t T 115 p with
    | false =>
      right
      rw [e] at l1
      refine ⟨p, A, nu, hs, md, ?_, ?_, Fr.rf _, hP, hR, hM, hA, rfl, rfl, rfl⟩
      · simp (disch := omega) only [ubX7_readServers_1, ha, hq, e, ↓reduceIte, bt_do, bd_do, jn_eq, bI_z, gd_nI, gd_0, gd_1, nI_clamp, nI_add, nI_1, pk_mul, Nat.add_zero, Nat.zero_add, ile_t, ile_f, ilt_t, ilt_f, ieq_t, ieq_f, iz_t, iz_f, ilt0, ige0, im1, Bool.false_eq_true, Bool.true_eq_false, if_true, if_false]
      · rw [lpF, ubX11_readsServers_1]
        simp only [l1, ↓reduceIte, bt_do, bd_do, jn_eq, bI_z, gd_nI, gd_0, gd_1, nI_clamp, nI_add, nI_1, pk_mul, Nat.add_zero, Nat.zero_add, ile_t, ile_f, ilt_t, ilt_f, ieq_t, ieq_f, iz_t, iz_f, ilt0, ige0, im1, Bool.false_eq_true, Bool.true_eq_false, if_true, if_false]
    | true =>
      rw [e] at l1
      obtain ⟨at1, le1⟩ := l2 e
      have hhas : f_X8_has hs.2.2.2.2.2.1 (nI i) = true := by
        rw [has_sv hR.2.1, has_i _ (by omega), nI_toInt (by omega), decide_eq_true (show (i : Int) < (nS A : Int) by omega), decide_eq_true (show 0 ≤ (i : Int) by omega)]
        rfl
      have v0 : md.2.1 0 = lN (nS A) := hM.1 0 (by omega)
      obtain ⟨m3, b1, b2, b3, b4⟩ := next_m (p := p + 1) hT le1 at1 hP.2.1
      obtain ⟨m4, v, c1, c2, c3, c4⟩ := number_m (b2.tpm hT) b4 (a := 1) (b := 9) (by omega) (by omega)
      have s1 := sign_c hC (p := p) (c := 115) (by omega) (by omega) (nI 0) nu
      rw [if_pos e] at s1
      have s2 := num_c hC (p := p + 1) (a := 1) (b := 9) (by omega) (by omega) (by omega) (nI 0) nu
      rcases c4 with ⟨n1, y1, P4⟩ | ⟨n1, y1, P4⟩
      · rw [if_pos n1] at s2
        rw [y1] at c1
        have pd := P4.1
        have hr : 1 ≤ vN t T (p + 1) ∧ vN t T (p + 1) ≤ 9 := by
          unfold nuK at n1
          by_cases z : dC t T (p + 1) = 0 ∨ dC t T (p + 1) = 3
          · rw [if_pos z] at n1; omega
          · rw [if_neg z] at n1
            by_cases z2 : 1 ≤ vN t T (p + 1) ∧ vN t T (p + 1) ≤ 9
            · exact z2
            · rw [if_neg z2] at n1; omega
        have s3 := sign_c hC (p := p + 1 + dC t T (p + 1)) (c := 59) (by omega) (by omega) (nI 0) (nI (vN t T (p + 1)))
        obtain ⟨m5, d1, d2, d3, d4⟩ := sign_m ((b2.tr c2).tpm hT) P4 (c := 59) (by omega)
        have F5 := (b2.tr c2).tr d2
        rcases d4 with ⟨g1, P5⟩ | ⟨g1, P5⟩
        · rw [if_pos g1] at s3
          have tr5 : m5.2.1 = md.2.1 := d3.trans (c3.trans b3)
          have hM' : RM (rmA A i (vN t T (p + 1))) (vp_updL m5.2.1 (7 + 3 * i + 1) (lN (vN t T (p + 1)))) := by
            rw [tr5]
            exact hM.room h30 (by omega) _
          have key := ih (i + 1) (p + 1 + dC t T (p + 1) + 1) (rmA A i (vN t T (p + 1))) (hSV hs (hs.2.2.2.2.2.1.1, hs.2.2.2.2.2.1.2.1, upd hs.2.2.2.2.2.1.2.2.1 i (nI (vN t T (p + 1))), hs.2.2.2.2.2.1.2.2.2)) (m5.1, vp_updL m5.2.1 (7 + 3 * i + 1) (lN (vN t T (p + 1))), m5.2.2) (nI (vN t T (p + 1))) m1 (m2 + 1) (by show i + 1 + d = nS A; omega) (by omega) (by omega) (hR.room i _) hM' (hA.room hr) (F5.tpm hT) P5
          have key := key.tr (m := md) (A := A) F5 ⟨rfl, rfl, rfl⟩
          have e1 : ∀ rec1 : (Int32 × RD × HS) → Option (Bool × RD × HS), bX7_readServers_1 (fun q1 : Int32 × RD × HS => some (true, q1.2.1, q1.2.2)) rec1 (nI i, (tp, nI p, nI 0, nu), hs) = rec1 (nI (i + 1), (tp, nI (p + 1 + dC t T (p + 1) + 1), nI 0, nI (vN t T (p + 1))), hSV hs (hs.2.2.2.2.2.1.1, hs.2.2.2.2.2.1.2.1, upd hs.2.2.2.2.2.1.2.2.1 i (nI (vN t T (p + 1))), hs.2.2.2.2.2.1.2.2.2)) := by
            intro rec1
            simp (disch := omega) only [ubX7_readServers_1, ha, hq, e, hhas, s1, s2, s3, ↓reduceIte, bt_do, bd_do, jn_eq, bI_z, gd_nI, gd_0, gd_1, nI_clamp, nI_add, nI_1, pk_mul, Nat.add_zero, Nat.zero_add, ile_t, ile_f, ilt_t, ilt_f, ieq_t, ieq_f, iz_t, iz_f, ilt0, ige0, im1, Bool.false_eq_true, Bool.true_eq_false, if_true, if_false] <;> rfl
          have f5 : (m5.2.2.2.2.2.2.2.2.2.2.2.2.1 = 0) = True := by rw [P5.2.1]; exact eq_true rfl
          have e2 : lpF (bX11_readsServers_1 (fun q1 : Int32 × MD => some q1.2)) (m2 + 1 + 1) (nI i, md) = lpF (bX11_readsServers_1 (fun q1 : Int32 × MD => some q1.2)) (m2 + 1) (nI (i + 1), (m5.1, vp_updL m5.2.1 (7 + 3 * i + 1) (lN (vN t T (p + 1))), m5.2.2)) := by
            rw [lpF, ubX11_readsServers_1]
            simp (disch := omega) only [l1, v0, nI_l, b1, c1, d1, f5, ↓reduceIte, bt_do, bd_do, jn_eq, bI_z, gd_nI, gd_0, gd_1, nI_clamp, nI_add, nI_1, pk_mul, Nat.add_zero, Nat.zero_add, ile_t, ile_f, ilt_t, ilt_f, ieq_t, ieq_f, iz_t, iz_f, ilt0, ige0, im1, Bool.false_eq_true, Bool.true_eq_false, if_true, if_false, lc_ge_t, lc_ge_f, lc_eq_t, lc_eq_f, lc_le_t, lc_le_f, lc_gt_t, lc_gt_f, lc_lt_t, lc_lt_f, nI_l, lN_i, lN_add, lN_1] <;> rfl
          rw [e1, e2]
          exact key
        · left
          rw [if_neg (by rw [g1]; decide)] at s3
          refine ⟨1, p + 1 + dC t T (p + 1), nI (vN t T (p + 1)), hs, m5, by omega, ?_, ?_, F5, P5⟩
          · simp (disch := omega) only [ubX7_readServers_1, ha, hq, e, hhas, s1, s2, s3, ↓reduceIte, bt_do, bd_do, jn_eq, bI_z, gd_nI, gd_0, gd_1, nI_clamp, nI_add, nI_1, pk_mul, Nat.add_zero, Nat.zero_add, ile_t, ile_f, ilt_t, ilt_f, ieq_t, ieq_f, iz_t, iz_f, ilt0, ige0, im1, Bool.false_eq_true, Bool.true_eq_false, if_true, if_false]
          · rw [lpF, ubX11_readsServers_1]
            simp (disch := omega) only [l1, v0, nI_l, b1, c1, d1, fo_nz P5, ↓reduceIte, bt_do, bd_do, jn_eq, bI_z, gd_nI, gd_0, gd_1, nI_clamp, nI_add, nI_1, pk_mul, Nat.add_zero, Nat.zero_add, ile_t, ile_f, ilt_t, ilt_f, ieq_t, ieq_f, iz_t, iz_f, ilt0, ige0, im1, Bool.false_eq_true, Bool.true_eq_false, if_true, if_false, lc_ge_t, lc_ge_f, lc_eq_t, lc_eq_f, lc_le_t, lc_le_f, lc_gt_t, lc_gt_f, lc_lt_t, lc_lt_f, nI_l, lN_i, lN_add, lN_1]
            exact srv_fo P5 _
      · left
        rw [if_neg n1] at s2
        rw [y1] at c1
        refine ⟨nuK t T 1 9 (p + 1), p + 1, nu, hs, m4, by omega, ?_, ?_, b2.tr c2, P4⟩
        · simp (disch := omega) only [ubX7_readServers_1, ha, hq, e, hhas, s1, s2, ↓reduceIte, bt_do, bd_do, jn_eq, bI_z, gd_nI, gd_0, gd_1, nI_clamp, nI_add, nI_1, pk_mul, Nat.add_zero, Nat.zero_add, ile_t, ile_f, ilt_t, ilt_f, ieq_t, ieq_f, iz_t, iz_f, ilt0, ige0, im1, Bool.false_eq_true, Bool.true_eq_false, if_true, if_false]
        · rw [lpF, ubX11_readsServers_1]
          simp (disch := omega) only [l1, v0, nI_l, b1, c1, fo_sign P4, fo_nz P4, ↓reduceIte, bt_do, bd_do, jn_eq, bI_z, gd_nI, gd_0, gd_1, nI_clamp, nI_add, nI_1, pk_mul, Nat.add_zero, Nat.zero_add, ile_t, ile_f, ilt_t, ilt_f, ieq_t, ieq_f, iz_t, iz_f, ilt0, ige0, im1, Bool.false_eq_true, Bool.true_eq_false, if_true, if_false, lc_ge_t, lc_ge_f, lc_eq_t, lc_eq_f, lc_le_t, lc_le_f, lc_gt_t, lc_gt_f, lc_lt_t, lc_lt_f, nI_l, lN_i, lN_add, lN_1]
          exact srv_fo P4 _
