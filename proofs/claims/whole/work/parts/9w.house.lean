/-! PURE 9w: house, both -/
def PF (tp : TP) (rd : RD) (v : HS) (md : MD) : Prop := ∃ k q nu hs md', f_X7_readInto rd v = some (false, (tp, nI q, nI k, nu), hs) ∧ f_X11_house md = some (-1000100 - nI q, md') ∧ FEr k md md'
def PK (n : Nat) (tp : TP) (rd : RD) (v : HS) (md : MD) : Prop := ∃ q nu hs A j md', f_X7_readInto rd v = some (true, (tp, nI q, nI 0, nu), hs) ∧ f_X11_house md = some (nI j, md') ∧ FOk md md' ∧ RC A hs ∧ RM A md'.1 ∧ AI n A ∧ AF A ∧ j ≤ 6 ∧ FI A j
theorem parse {t : Nat} {T : Nat → Nat} {rd : RD} {md : MD} (hC : TPC t T rd.1) (hT : TPM t T md) (v : HS) (n : Nat) : PF rd.1 rd v md ∨ PK n rd.1 rd v md := by
  obtain ⟨b, hb0, hb1⟩ := zero_m md
  have hT0 : TPM t T (md.1, b, md.2.2) := hT
  have hh : f_X11_house md = begM (md.1, b, md.2.2) := by
    rw [house_e, jn_eq, hb1]
  have F0 : Fr md (md.1, b, md.2.2) := Fr.rf _
  rcases head hC hT0 v rd.2.2.2 with ⟨k, p, nu, hs, m1, k1, k2, p80, a1, a2, a3, a4, a5⟩ | ⟨p, N, w, s, l, g, nu, hs, m1, pt, a1, a2, a3, a4, a5, a6, ⟨N1, N2⟩, ⟨w1, w2⟩, ⟨s1, s2⟩, ⟨l1, l2⟩, g1⟩
  · left
    obtain ⟨md', b1, b2⟩ := tail_fo a4 a5
    refine ⟨k, p, nu, hs, md', ?_, hh.trans (a2.trans b1), b2.tr (F0.tr a3)⟩
    rw [u_X7_readInto, a1, bd_do]
    rfl
  · have m0 : m1.2.1 0 = lN N := by
      rw [a5, pk_uLn (by omega), pk_uLn (by omega), pk_uLn (by omega), pk_uLn (by omega), pk_uLs]
    have hRM : RM (aE (nm N w s l g)) (upW m1.2.1 N) := by
      refine RM.E (x := nm N w s l g) N2 rfl (fun k hk => ?_) (fun j j7 j340 => ?_)
      · rw [a5]
        rcases (by omega : k = 0 ∨ k = 1 ∨ k = 2 ∨ k = 3 ∨ k = 4 ∨ k = 5 ∨ k = 6) with e | e | e | e | e | e | e <;> subst e
        · rw [pk_uLn (by omega), pk_uLn (by omega), pk_uLn (by omega), pk_uLn (by omega), pk_uLs]; rfl
        · rw [pk_uLn (by omega), pk_uLn (by omega), pk_uLn (by omega), pk_uLs]; rfl
        · rw [pk_uLn (by omega), pk_uLn (by omega), pk_uLs]; rfl
        · rw [pk_uLn (by omega), pk_uLs]; rfl
        · rw [pk_uLs]; rfl
        · rw [pk_uLn (by omega), pk_uLn (by omega), pk_uLn (by omega), pk_uLn (by omega), pk_uLn (by omega)]
          exact hb0 5 (by omega)
        · rw [pk_uLn (by omega), pk_uLn (by omega), pk_uLn (by omega), pk_uLn (by omega), pk_uLn (by omega)]
          exact hb0 6 (by omega)
      · rw [a5, pk_uLn (by omega), pk_uLn (by omega), pk_uLn (by omega), pk_uLn (by omega), pk_uLn (by omega)]
        exact hb0 j j340
    have hAI : AI n (aE (nm N w s l g)) := AI.E n N2 w2 s2 l2 g1 rfl rfl
    have hAF : AF (aE (nm N w s l g)) := ⟨N1, w1, s1, l1⟩
    have hT1 : TPM t T (m1.1, upW m1.2.1 N, m1.2.2) := (F0.tr a3).tpm hT
    have hP1 : PO t T p (m1.1, upW m1.2.1 N, m1.2.2) := a4
    have F1 : Fr md (m1.1, upW m1.2.1 N, m1.2.2) := F0.tr a3
    have hsv := servers (n := n) hC N 0 p (aE (nm N w s l g)) hs (m1.1, upW m1.2.1 N, m1.2.2) nu FU FU (by show 0 + N = N; omega) (by rw [show FU = 4000 from rfl]; omega) (by rw [show FU = 4000 from rfl]; omega) a6 hRM hAI hT1 hP1
    have hmd : f_X11_house md = bd (f_X11_readsServers (m1.1, upW m1.2.1 N, m1.2.2)) (fun r21 => bd (f_X11_readsFiles r21) finM) := by
      refine hh.trans (a2.trans ?_)
      unfold tailM
      rw [jn_eq, up20_m N2 m0]
    have hrs : ∀ x y, f_X7_readServers x y = lpF (bX7_readServers_1 (fun q1 : Int32 × RD × HS => some (true, q1.2.1, q1.2.2))) FU (nI 0, x, y) := fun x y => by rw [u_X7_readServers, jn_eq]
    have hrm : ∀ x, f_X11_readsServers x = lpF (bX11_readsServers_1 (fun q1 : Int32 × MD => some q1.2)) FU (nI 0, x) := fun x => by rw [u_X11_readsServers, jn_eq]
    rw [← hrs, ← hrm] at hsv
    have hfs : ∀ x y, f_X7_readFiles x y = lpF (bX7_readFiles_1 (fun q1 : Int32 × RD × HS => some (true, q1.2.1, q1.2.2))) FU (nI 0, x, y) := fun x y => by rw [u_X7_readFiles, jn_eq]
    have hfm : ∀ x, f_X11_readsFiles x = lpF (bX11_readsFiles_1 (fun q1 : Int32 × MD => some (q1.1, q1.2))) FU (nI 0, x) := fun x => by rw [u_X11_readsFiles, jn_eq]
    rcases hsv with ⟨k, q, nu2, hs2, m2, q80, c1, c2, c3, c4⟩ | ⟨q, A2, nu2, hs2, m2, c1, c2, c3, c4, c5, c6, c7, c8⟩
    · left
      obtain ⟨md', b1, b2⟩ := fin_fo c4 (nI 0)
      refine ⟨k, q, nu2, hs2, md', ?_, ?_, b2.tr (F1.tr c3)⟩
      · rw [u_X7_readInto, a1, bd_do]
        dsimp only
        rw [if_neg (by decide), c1, bd_do]
        rfl
      · rw [hmd, c2, bd_do, hfm, show FU = 3999 + 1 from rfl, fls_fo c4, bd_do]
        exact b1
    · have hFI : FI A2 0 := by
        intro f hf
        have q1 : aIs A2 f = 0 := by
          show A2.2.2.2.2.1 f = 0
          rw [c8.2.2]
          rfl
        have q2 : aMany A2 f = 0 := by
          show A2.2.2.2.2.2.2.1 f = 0
          rw [c8.2.2]
          rfl
        exact ⟨by rw [q1, if_neg (by omega)], q2⟩
      have hfl := files (n := n) hC 6 0 q A2 hs2 m2 nu2 FU FU (by omega) (by rw [show FU = 4000 from rfl]; omega) (by rw [show FU = 4000 from rfl]; omega) c5 c6 c7 hFI ((F1.tr c3).tpm hT) c4
      rw [← hfs, ← hfm] at hfl
      rcases hfl with ⟨k, q3, nu3, hs3, m3, x, q80, d1, d2, d3, d4⟩ | ⟨q3, A3, nu3, hs3, m3, j, d1, d2, d3, d4, d5, d6, d7, d8, d9, d10⟩
      · left
        obtain ⟨md', b1, b2⟩ := fin_fo d4 x
        refine ⟨k, q3, nu3, hs3, md', ?_, ?_, b2.tr ((F1.tr c3).tr d3)⟩
        · rw [u_X7_readInto, a1, bd_do]
          dsimp only
          rw [if_neg (by decide), c1, bd_do]
          dsimp only
          rw [if_neg (by decide), d1, bd_do]
          rfl
        · rw [hmd, c2, bd_do, d2, bd_do]
          exact b1
      · have F3 := (F1.tr c3).tr d3
        have q3t := d4.1
        have ht := hC.1
        have ht1 := hC.2.1
        have hri : f_X7_readInto rd v = if nI q3 = nI t then some (true, (rd.1, nI q3, nI 0, nu3), hs3) else some (false, (rd.1, nI q3, nI 1, nu3), hs3) := by
          rw [u_X7_readInto, a1, bd_do]
          dsimp only
          rw [if_neg (by decide), c1, bd_do]
          dsimp only
          rw [if_neg (by decide), d1, bd_do]
          dsimp only
          rw [if_neg (by decide), ht1, u_X7_refuse, bd_do]
          rfl
        rcases fin_po (F3.tpm hT) d4 d6 d7 (nI j) with ⟨e, md', b1, b2, b3⟩ | ⟨e, md', b1, b2⟩
        · right
          refine ⟨q3, nu3, hs3, A3, j, md', ?_, ?_, b2.tr F3, d5, b3, d7, ?_, d9, d10⟩
          · rw [hri, if_pos (by rw [e])]
          · rw [hmd, c2, bd_do, d2, bd_do]
            exact b1
          · exact hAF.num (fun i _ => by rw [d8, c8.1])
        · left
          refine ⟨1, q3, nu3, hs3, md', ?_, ?_, b2.tr F3⟩
          · rw [hri, if_neg (by rw [ieq_f e (by omega) (by omega)]; exact id)]
          · rw [hmd, c2, bd_do, d2, bd_do]
            exact b1
theorem cN_FI {A : AH} {j : Nat} (hj : j ≤ 6) (h : FI A j) : cN (aIsB A 1) 6 = j := by
  have key : ∀ i, i ≤ 6 → cN (aIsB A 1) i = min i j := by
    intro i
    induction i with
    | zero => intro _; rw [cN]; omega
    | succ i ih =>
      intro hi
      have q := (h i (by omega)).1
      by_cases e : i < j
      · rw [if_pos e] at q
        rw [cN_t (P := aIsB A 1) (decide_eq_true q), ih (by omega)]
        omega
      · rw [if_neg e] at q
        rw [cN_f (P := aIsB A 1) (decide_eq_false (by omega)), ih (by omega)]
        omega
  rw [key 6 (by omega)]
  omega
theorem ok_house : Ok_house Sim := by
  intro n g md hn hS
  obtain ⟨A, a, P, I, hSm⟩ := hS
  obtain ⟨⟨h1, h2, h3, h4⟩, ⟨h5, h6, h7⟩, h8, ⟨t, T, ht, t1, t2, t3⟩, h10, h11⟩ := hSm.mono (show n ≤ n + 1 by omega)
  have hC : TPC t T g.1.1 := ⟨ht, t1, fun j hj => ⟨(t3 j hj).1, (t3 j hj).2.2⟩⟩
  have hT : TPM t T md := ⟨ht, t2, fun j hj => ⟨(t3 j hj).2.1, (t3 j hj).2.2⟩⟩
  rcases parse hC hT g.2.2.2.2.1 (7 * (n + 1)) with ⟨k, q, nu, hs, md', c1, c2, ⟨f1, f2, f3, f4, f5, f6, f7⟩⟩ | ⟨q, nu, hs, B, j, md', c1, c2, ⟨f3, f4, f5, f6, f7⟩, r1, r2, r3, r4, hj, hF⟩
  · refine ⟨-1000100 - nI q, (((g.1.1.1, nI 0), nI q, nI k, nu), g.2.1, g.2.2.1, g.2.2.2.1, hs, g.2.2.2.2.2.1, g.2.2.2.2.2.2.1, nI k), md', ?_, c2, A, a, P, I, ⟨h1, by rw [f1]; exact h2, h3, h4⟩, ⟨h5, by rw [f2, f3]; exact h6, h7⟩, by rw [f4, f5]; exact h8, ⟨0, T, by omega, rfl, f6, fun j hj => by omega⟩, f7.symm, h11⟩
    rw [u_X10_house, c1, bd_do]
    rfl
  · obtain ⟨nx, hnx, n1, n2, n6, n3⟩ := h5
    obtain ⟨v', hv, hR⟩ := become_c r1 r3 g.2.2.2.1
    have hmo := manyOf_c hR r3 (w := 1) (by omega)
    rw [cN_FI hj hF] at hmo
    have one : ¬ (nI 1 = 0) := by decide
    refine ⟨nI j, (((g.1.1.1, nI 0), nI q, nI 0, nu), g.2.1, (g.2.2.1.1, g.2.2.1.2.1, nI 0), v', hs, g.2.2.2.2.2.1, nI 1, g.2.2.2.2.2.2.2), md', ?_, c2, B, 0, P, I, ⟨hR, r2, r3, Or.inr ⟨one, r4⟩⟩, ⟨⟨nx, hnx, n1, rfl, by omega, fun j hj => by omega⟩, ⟨f3, by omega, fun j hj => by omega⟩, fun j hj => by omega⟩, by rw [f4, f5]; exact h8, ⟨0, T, by omega, rfl, f6, fun j hj => by omega⟩, by rw [f7]; exact h10, fun z => absurd z one⟩
    rw [u_X10_house, c1, bd_do]
    dsimp only
    rw [if_neg (by decide), hv, bd_do, hmo, bd_do]
