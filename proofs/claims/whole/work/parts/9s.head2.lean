/-! PURE 9s: the head, both -/
def csg (a b c : Nat) (set : HS → Int32 → HS) (next : RD → HS → Option (Bool × RD × HS)) (rd : RD) (hs : HS) : Option (Bool × RD × HS) := bd (f_X7_numeral rd (nI a) (nI b)) (fun r => if (bI r.1) = 0 then (some (false, r.2, hs)) else (bd (f_X7_sign r.2 (nI c)) (fun r2 => if (bI r2.1) = 0 then (some (false, r2.2, set hs r.2.2.2.2)) else next r2.2 (set hs r.2.2.2.2))))
def ce5 (rd : RD) (hs : HS) : Option (Bool × RD × HS) := bd (f_X7_numeral rd (nI 0) (nI 20)) (fun r => if (bI r.1) = 0 then (some (false, r.2, hs)) else (bd (f_X7_sign r.2 (nI 59)) (fun r2 => some (r2.1, r2.2, (hs.1, hs.2.1, hs.2.2.1, r.2.2.2.2, hs.2.2.2.2)))))
def ce4 : RD → HS → Option (Bool × RD × HS) := csg 1 20 44 (fun hs x => (hs.1, hs.2.1, x, hs.2.2.2)) ce5
def ce3 : RD → HS → Option (Bool × RD × HS) := csg 4 9 44 (fun hs x => (hs.1, x, hs.2.2)) ce4
def ce2 : RD → HS → Option (Bool × RD × HS) := csg 1 3 44 (fun hs x => (x, hs.2)) ce3
def ce1 (rd : RD) (hs : HS) : Option (Bool × RD × HS) := bd (f_X7_numeral rd (nI 2) (nI 5)) (fun r => if (bI r.1) = 0 then (some (false, r.2, hs)) else (bd (f_X5_open hs r.2.2.2.2) (fun r5 => bd (f_X7_sign r.2 (nI 44)) (fun r2 => if (bI r2.1) = 0 then (some (false, r2.2, r5)) else ce2 r2.2 r5))))
theorem head_e (rd : RD) (hs : HS) : f_X7_readHead rd hs = bd (f_X7_sign rd (nI 104)) (fun r1 => if (bI r1.1) = 0 then (some (false, r1.2, hs)) else ce1 r1.2 hs) := by
  rw [u_X7_readHead]
  rfl
theorem csg_ok {t : Nat} {T : Nat → Nat} {tp : TP} {a b c p : Nat} {set : HS → Int32 → HS} {next : RD → HS → Option (Bool × RD × HS)} (hC : TPC t T tp) (hp : p ≤ 80) (ha : a < 100) (hb : b < 100) (hc : c < 100) (h1 : nuK t T a b p = 0) (h3 : p + dC t T p ≤ t) (h2 : sgn t T c (p + dC t T p) = true) (f nu : Int32) (hs : HS) : csg a b c set next (tp, nI p, f, nu) hs = next (tp, nI (p + dC t T p + 1), f, nI (vN t T p)) (set hs (nI (vN t T p))) := by
  have ht := hC.1
  unfold csg
  rw [num_c hC hp ha hb, if_pos h1, bd_do]
  dsimp only
  rw [if_neg (by decide), sign_c hC (by omega) (by omega), if_pos h2, bd_do]
  rfl
theorem csg_s {t : Nat} {T : Nat → Nat} {tp : TP} {a b c p : Nat} {set : HS → Int32 → HS} {next : RD → HS → Option (Bool × RD × HS)} (hC : TPC t T tp) (hp : p ≤ 80) (ha : a < 100) (hb : b < 100) (hc : c < 100) (h1 : nuK t T a b p = 0) (h3 : p + dC t T p ≤ t) (h2 : sgn t T c (p + dC t T p) = false) (f nu : Int32) (hs : HS) : csg a b c set next (tp, nI p, f, nu) hs = some (false, (tp, nI (p + dC t T p), nI 1, nI (vN t T p)), set hs (nI (vN t T p))) := by
  have ht := hC.1
  unfold csg
  rw [num_c hC hp ha hb, if_pos h1, bd_do]
  dsimp only
  rw [if_neg (by decide), sign_c hC (by omega) (by omega), if_neg (by rw [h2]; decide), bd_do]
  rfl
theorem csg_n {t : Nat} {T : Nat → Nat} {tp : TP} {a b c p : Nat} {set : HS → Int32 → HS} {next : RD → HS → Option (Bool × RD × HS)} (hC : TPC t T tp) (hp : p ≤ 80) (ha : a < 100) (hb : b < 100) (h1 : ¬ nuK t T a b p = 0) (f nu : Int32) (hs : HS) : csg a b c set next (tp, nI p, f, nu) hs = some (false, (tp, nI p, nI (nuK t T a b p), nu), hs) := by
  unfold csg
  rw [num_c hC hp ha hb, if_neg h1, bd_do]
  rfl
theorem ce5_ok {t : Nat} {T : Nat → Nat} {tp : TP} {p : Nat} (hC : TPC t T tp) (hp : p ≤ 80) (h1 : nuK t T 0 20 p = 0) (h3 : p + dC t T p ≤ t) (f nu : Int32) (hs : HS) : ce5 (tp, nI p, f, nu) hs = some (if sgn t T 59 (p + dC t T p) = true then (true, (tp, nI (p + dC t T p + 1), f, nI (vN t T p)), (hs.1, hs.2.1, hs.2.2.1, nI (vN t T p), hs.2.2.2.2)) else (false, (tp, nI (p + dC t T p), nI 1, nI (vN t T p)), (hs.1, hs.2.1, hs.2.2.1, nI (vN t T p), hs.2.2.2.2))) := by
  have ht := hC.1
  unfold ce5
  rw [num_c hC hp (by omega) (by omega), if_pos h1, bd_do]
  dsimp only
  rw [if_neg (by decide), sign_c hC (by omega) (by omega), bd_do]
  by_cases e : sgn t T 59 (p + dC t T p) = true
  · rw [if_pos e, if_pos e]
  · rw [if_neg e, if_neg e]
theorem ce5_n {t : Nat} {T : Nat → Nat} {tp : TP} {p : Nat} (hC : TPC t T tp) (hp : p ≤ 80) (h1 : ¬ nuK t T 0 20 p = 0) (f nu : Int32) (hs : HS) : ce5 (tp, nI p, f, nu) hs = some (false, (tp, nI p, nI (nuK t T 0 20 p), nu), hs) := by
  unfold ce5
  rw [num_c hC hp (by omega) (by omega), if_neg h1, bd_do]
  rfl
theorem ce1_n {t : Nat} {T : Nat → Nat} {tp : TP} {p : Nat} (hC : TPC t T tp) (hp : p ≤ 80) (h1 : ¬ nuK t T 2 5 p = 0) (f nu : Int32) (hs : HS) : ce1 (tp, nI p, f, nu) hs = some (false, (tp, nI p, nI (nuK t T 2 5 p), nu), hs) := by
  unfold ce1
  rw [num_c hC hp (by omega) (by omega), if_neg h1, bd_do]
  rfl
theorem ce1_ok {t : Nat} {T : Nat → Nat} {tp : TP} {p : Nat} (hC : TPC t T tp) (hp : p ≤ 80) (h1 : nuK t T 2 5 p = 0) (h3 : p + dC t T p ≤ t) (f nu : Int32) (hs v5 : HS) (ho : f_X5_open hs (nI (vN t T p)) = some v5) : ce1 (tp, nI p, f, nu) hs = if sgn t T 44 (p + dC t T p) = true then ce2 (tp, nI (p + dC t T p + 1), f, nI (vN t T p)) v5 else some (false, (tp, nI (p + dC t T p), nI 1, nI (vN t T p)), v5) := by
  have ht := hC.1
  unfold ce1
  rw [num_c hC hp (by omega) (by omega), if_pos h1, bd_do]
  dsimp only
  rw [if_neg (by decide), ho, bd_do, sign_c hC (by omega) (by omega), bd_do]
  by_cases e : sgn t T 44 (p + dC t T p) = true
  · rw [if_pos e, if_pos e]
    rfl
  · rw [if_neg e, if_neg e]
    rfl
def nm (N w s l g : Nat) (k : Nat) : Nat := if k = 0 then N else if k = 1 then w else if k = 2 then s else if k = 3 then l else if k = 4 then g else 0
def HF (tp : TP) (v : HS) (nu0 : Int32) (md : MD) : Prop := ∃ k p nu hs md', 1 ≤ k ∧ k ≤ 3 ∧ p ≤ 80 ∧ f_X7_readHead (tp, nI 0, nI 0, nu0) v = some (false, (tp, nI p, nI k, nu), hs) ∧ begM md = tailM md' ∧ Fr md md' ∧ FO k p md' ∧ N5 md'
def HOK (t : Nat) (T : Nat → Nat) (tp : TP) (v : HS) (nu0 : Int32) (md : MD) : Prop := ∃ p N w s l g nu hs md', p ≤ t ∧ f_X7_readHead (tp, nI 0, nI 0, nu0) v = some (true, (tp, nI p, nI 0, nu), hs) ∧ begM md = tailM md' ∧ Fr md md' ∧ PO t T p md' ∧ md'.2.1 = vp_updL (vp_updL (vp_updL (vp_updL (vp_updL md.2.1 0 (lN N)) 1 (lN w)) 2 (lN s)) 3 (lN l)) 4 (lN g) ∧ RC (aE (nm N w s l g)) hs ∧ (2 ≤ N ∧ N ≤ 5) ∧ (1 ≤ w ∧ w ≤ 3) ∧ (4 ≤ s ∧ s ≤ 9) ∧ (1 ≤ l ∧ l ≤ 20) ∧ g ≤ 20
theorem HF.of {tp : TP} {v : HS} {nu0 : Int32} {md m1 : MD} {X : Option (Int32 × MD)} {k p : Nat} (hp : p ≤ 80) (hc : ∃ nu hs, f_X7_readHead (tp, nI 0, nI 0, nu0) v = some (false, (tp, nI p, nI k, nu), hs)) (hb : begM md = X) (hF : Fr md m1) (hT : TF k p m1 X) : HF tp v nu0 md := by
  obtain ⟨nu, hs, hc⟩ := hc
  obtain ⟨md', q1, q2, q3, q4⟩ := hT
  exact ⟨k, p, nu, hs, md', q3.1, q3.2.1, hp, hc, hb.trans q1, hF.tr q2, q3, q4⟩
theorem head {t : Nat} {T : Nat → Nat} {tp : TP} {md : MD} (hC : TPC t T tp) (hT : TPM t T md) (v : HS) (nu0 : Int32) : HF tp v nu0 md ∨ HOK t T tp v nu0 md := by
  have ht := hC.1
  obtain ⟨m0, a1, a2, a3, a4⟩ := reads_m (md := (md.1, md.2.1, md.2.2.1, md.2.2.2.1, md.2.2.2.2.1, md.2.2.2.2.2.1, md.2.2.2.2.2.2.1, md.2.2.2.2.2.2.2.1, (nI 0), md.2.2.2.2.2.2.2.2.2.1, md.2.2.2.2.2.2.2.2.2.2.1, md.2.2.2.2.2.2.2.2.2.2.2.1, (nI 0), md.2.2.2.2.2.2.2.2.2.2.2.2.2.1, md.2.2.2.2.2.2.2.2.2.2.2.2.2.2.1, md.2.2.2.2.2.2.2.2.2.2.2.2.2.2.2.1, md.2.2.2.2.2.2.2.2.2.2.2.2.2.2.2.2)) hT (Nat.zero_le t) rfl rfl
  have a2 : Fr md m0 := a2
  have hT0 := a2.tpm hT
  obtain ⟨l1, l2⟩ := letter_m hT0 a4 (c := 104) (by omega)
  cases e0 : sgn t T 104 0 with
  | false =>
    left
    rw [e0] at l1
    obtain ⟨m1, b1, b2, b3, b4⟩ := bad_m (md := m0) (k := 1) (p := 0) (by omega) a4.2.2.1 a4.2.1
    refine HF.of (X := hs1 m1) (Nat.zero_le _) ⟨nu0, v, by rw [head_e, sign_c hC (by omega) (by omega), if_neg (by rw [e0]; decide), bd_do]; rfl⟩ ?_ (a2.tr b2) (fo_1 b4)
    unfold begM
    simp only [a1, l1, b1, fo_next b4, ↓reduceIte, bt_do, bd_do, jn_eq, bI_z, gd_nI, gd_0, gd_1, nI_clamp, nI_add, nI_1, pk_mul, Nat.add_zero, Nat.zero_add, ile_t, ile_f, ilt_t, ilt_f, ieq_t, ieq_f, iz_t, iz_f, ilt0, ige0, im1, Bool.false_eq_true, Bool.true_eq_false, if_true, if_false]
  | true =>
    rw [e0] at l1
    obtain ⟨at1, le1⟩ := l2 e0
    obtain ⟨m1, b1, b2, b3, b4⟩ := next_m (p := 1) hT0 le1 at1 a4.2.1
    have hb : begM md = hs1 m1 := by
      unfold begM
      simp only [a1, l1, b1, ↓reduceIte, bt_do, bd_do, jn_eq, bI_z, gd_nI, gd_0, gd_1, nI_clamp, nI_add, nI_1, pk_mul, Nat.add_zero, Nat.zero_add, ile_t, ile_f, ilt_t, ilt_f, ieq_t, ieq_f, iz_t, iz_f, ilt0, ige0, im1, Bool.false_eq_true, Bool.true_eq_false, if_true, if_false]
    have hc : f_X7_readHead (tp, nI 0, nI 0, nu0) v = ce1 (tp, nI 1, nI 0, nu0) v := by
      rw [head_e, sign_c hC (by omega) (by omega), if_pos e0, bd_do]
      rfl
    have F1 := a2.tr b2
    have t1 : m1.2.1 = md.2.1 := b3.trans a3
    obtain ⟨m2, N, c1, c2, c3, c4, c5, c6⟩ := stg_po (next := hs2) (F1.tpm hT) b4 (a := 2) (b := 5) (i := 0) (c := 44) (by omega) (by omega) (by omega) (by omega) (by omega)
    have hb := hb.trans c1
    have F2 := F1.tr c2
    have hN : N5 m2 := ⟨N, c5, by rw [c3, pk_uLs]⟩
    rcases c6 with ⟨n1, y1, p1, ⟨g1, P2⟩ | ⟨g1, P2⟩⟩ | ⟨n1, P2⟩
    · have p2 := P2.1
      obtain ⟨sv, ck, cp, fl, hop, hE⟩ := open_c v c5
      rw [y1] at hop
      have hc := hc.trans (ce1_ok hC (by omega) n1 p1 _ _ _ _ hop)
      rw [if_pos g1] at hc
      generalize hq2 : 1 + dC t T 1 = q2 at p1 g1 P2 p2 hc
      obtain ⟨m3, w, d1, d2, d3, d4, d5, d6⟩ := stg_po (next := hs3) (F2.tpm hT) P2 (a := 1) (b := 3) (i := 1) (c := 44) (by omega) (by omega) (by omega) (by omega) (by omega)
      have hb := hb.trans d1
      have F3 := F2.tr d2
      have hN3 := hN.up (by omega) d3
      rcases d6 with ⟨n2, y2, p3, ⟨g2, P3⟩ | ⟨g2, P3⟩⟩ | ⟨n2, P3⟩
      · have p4 := P3.1
        have hc := hc.trans (csg_ok hC (by omega) (by omega) (by omega) (by omega) n2 p3 g2 _ _ _)
        generalize hq3 : q2 + 1 + dC t T (q2 + 1) = q3 at p3 g2 P3 p4 hc
        obtain ⟨m4, s, f1, f2, f3, f4, f5, f6⟩ := stg_po (next := hs4) (F3.tpm hT) P3 (a := 4) (b := 9) (i := 2) (c := 44) (by omega) (by omega) (by omega) (by omega) (by omega)
        have hb := hb.trans f1
        have F4 := F3.tr f2
        have hN4 := hN3.up (by omega) f3
        rcases f6 with ⟨n3, y3, p5, ⟨g3, P4⟩ | ⟨g3, P4⟩⟩ | ⟨n3, P4⟩
        · have p6 := P4.1
          have hc := hc.trans (csg_ok hC (by omega) (by omega) (by omega) (by omega) n3 p5 g3 _ _ _)
          generalize hq4 : q3 + 1 + dC t T (q3 + 1) = q4 at p5 g3 P4 p6 hc
          obtain ⟨m5, l, h1, h2, h3, h4, h5, h6⟩ := stg_po (next := hs5) (F4.tpm hT) P4 (a := 1) (b := 20) (i := 3) (c := 44) (by omega) (by omega) (by omega) (by omega) (by omega)
          have hb := hb.trans h1
          have F5 := F4.tr h2
          have hN5 := hN4.up (by omega) h3
          rcases h6 with ⟨n4, y4, p7, ⟨g4, P5⟩ | ⟨g4, P5⟩⟩ | ⟨n4, P5⟩
          · have p8 := P5.1
            have hc := hc.trans (csg_ok hC (by omega) (by omega) (by omega) (by omega) n4 p7 g4 _ _ _)
            generalize hq5 : q4 + 1 + dC t T (q4 + 1) = q5 at p7 g4 P5 p8 hc
            obtain ⟨m6, g, i1, i2, i3, i4, i5, i6⟩ := stg_po (next := tailM) (F5.tpm hT) P5 (a := 0) (b := 20) (i := 4) (c := 59) (by omega) (by omega) (by omega) (by omega) (by omega)
            have hb := hb.trans i1
            have F6 := F5.tr i2
            have hN6 := hN5.up (by omega) i3
            rcases i6 with ⟨n5, y5, p9, ⟨g5, P6⟩ | ⟨g5, P6⟩⟩ | ⟨n5, P6⟩
            · right
              have hc := hc.trans (ce5_ok hC (by omega) n5 p9 _ _ _)
              rw [if_pos g5] at hc
              generalize hq6 : q5 + 1 + dC t T (q5 + 1) = q6 at p9 g5 P6 hc
              have px := P6.1
              refine ⟨q6 + 1, N, w, s, l, g, nI (vN t T (q5 + 1)), (nI w, nI s, nI l, nI g, nI 0, sv, ck, cp, fl), m6, px, ?_, hb, F6, P6, ?_, ?_, ⟨c4, c5⟩, ⟨d4, d5⟩, ⟨f4, f5⟩, ⟨h4, h5⟩, i5⟩
              · rw [y2, y3, y4, y5]
                exact hc
              · rw [i3, h3, f3, d3, c3, t1]
              · obtain ⟨r1, r2, r3, r4⟩ := hE (nm N w s l g) rfl rfl
                exact ⟨⟨rfl, rfl, rfl, rfl, rfl⟩, r1, r2, r3, r4⟩
            · left
              exact HF.of (X := tailM m6) (by omega) ⟨_, _, hc.trans ((ce5_ok hC (by omega) n5 p9 _ _ _).trans (by rw [if_neg (by rw [g5]; decide)]))⟩ hb F6 ⟨m6, rfl, Fr.rf _, P6, hN6⟩
            · left
              exact HF.of (X := tailM m6) (by omega) ⟨_, _, hc.trans (ce5_n hC (by omega) n5 _ _ _)⟩ hb F6 ⟨m6, rfl, Fr.rf _, P6, hN6⟩
          · left
            exact HF.of (X := hs5 m5) (by omega) ⟨_, _, hc.trans (csg_s hC (by omega) (by omega) (by omega) (by omega) n4 p7 g4 _ _ _)⟩ hb F5 (fo_5 P5 hN5)
          · left
            exact HF.of (X := hs5 m5) (by omega) ⟨_, _, hc.trans (csg_n hC (by omega) (by omega) (by omega) n4 _ _ _)⟩ hb F5 (fo_5 P5 hN5)
        · left
          exact HF.of (X := hs4 m4) (by omega) ⟨_, _, hc.trans (csg_s hC (by omega) (by omega) (by omega) (by omega) n3 p5 g3 _ _ _)⟩ hb F4 (fo_4 P4 hN4)
        · left
          exact HF.of (X := hs4 m4) (by omega) ⟨_, _, hc.trans (csg_n hC (by omega) (by omega) (by omega) n3 _ _ _)⟩ hb F4 (fo_4 P4 hN4)
      · left
        exact HF.of (X := hs3 m3) (by omega) ⟨_, _, hc.trans (csg_s hC (by omega) (by omega) (by omega) (by omega) n2 p3 g2 _ _ _)⟩ hb F3 (fo_3 P3 hN3)
      · left
        exact HF.of (X := hs3 m3) (by omega) ⟨_, _, hc.trans (csg_n hC (by omega) (by omega) (by omega) n2 _ _ _)⟩ hb F3 (fo_3 P3 hN3)
    · left
      obtain ⟨sv, ck, cp, fl, hop, hE⟩ := open_c v c5
      rw [y1] at hop
      exact HF.of (X := hs2 m2) (by omega) ⟨_, _, hc.trans ((ce1_ok hC (by omega) n1 p1 _ _ _ _ hop).trans (by rw [if_neg (by rw [g1]; decide)]))⟩ hb F2 (fo_2 P2 hN)
    · left
      exact HF.of (X := hs2 m2) (by omega) ⟨_, _, hc.trans (ce1_n hC (by omega) n1 _ _ _)⟩ hb F2 (fo_2 P2 hN)
