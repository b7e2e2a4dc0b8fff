/-! PURE 91: a try to write a record everywhere -/
def SF (A B : AH) : Prop := B.1 = A.1 ∧ B.2.1 = A.2.1 ∧ B.2.2.1 = A.2.2.1 ∧ B.2.2.2.2.1 = A.2.2.2.2.1 ∧ B.2.2.2.2.2.1 = A.2.2.2.2.2.1 ∧ B.2.2.2.2.2.2.1 = A.2.2.2.2.2.2.1 ∧ B.2.2.2.2.2.2.2.1 = A.2.2.2.2.2.2.2.1 ∧ B.2.2.2.2.2.2.2.2.1 = A.2.2.2.2.2.2.2.2.1 ∧ B.2.2.2.2.2.2.2.2.2.1 = A.2.2.2.2.2.2.2.2.2.1 ∧ B.2.2.2.2.2.2.2.2.2.2.1 = A.2.2.2.2.2.2.2.2.2.2.1
theorem SF.rf (A : AH) : SF A A := ⟨rfl, rfl, rfl, rfl, rfl, rfl, rfl, rfl, rfl, rfl⟩
theorem SF.tr {A B C : AH} (h : SF A B) (g : SF B C) : SF A C := by
  obtain ⟨h1, h2, h3, h4, h5, h6, h7, h8, h9, h10⟩ := h
  obtain ⟨g1, g2, g3, g4, g5, g6, g7, g8, g9, g10⟩ := g
  exact ⟨g1.trans h1, g2.trans h2, g3.trans h3, g4.trans h4, g5.trans h5, g6.trans h6, g7.trans h7, g8.trans h8, g9.trans h9, g10.trans h10⟩
theorem SF.spo (A : AH) (s x : Nat) : SF A (setSpo A s x) := ⟨rfl, rfl, rfl, rfl, rfl, rfl, rfl, rfl, rfl, rfl⟩
theorem SF.ls (A : AH) (c : Nat) (o : Option (Nat × Nat)) : SF A (setLs A c o) := ⟨rfl, rfl, rfl, rfl, rfl, rfl, rfl, rfl, rfl, rfl⟩
theorem SF.cp (A : AH) (c s : Nat) (o : Option CPY) : SF A (setCp A c s o) := ⟨rfl, rfl, rfl, rfl, rfl, rfl, rfl, rfl, rfl, rfl⟩
theorem SF.mp (A : AH) (c : Nat) (g : Nat → Option CPY) : SF A (mapCp A c g) := ⟨rfl, rfl, rfl, rfl, rfl, rfl, rfl, rfl, rfl, rfl⟩
theorem SF.nS {A B : AH} (h : SF A B) : nS B = nS A := congrFun h.1 0
theorem SF.size {A B : AH} (h : SF A B) : aSize B = aSize A := congrFun h.1 2
theorem SF.made {A B : AH} (h : SF A B) : aMade B = aMade A := congrFun h.1 6
theorem SF.up {A B : AH} (h : SF A B) (s : Nat) : aUp B s = aUp A s := congrFun h.2.1 s
theorem SF.is {A B : AH} (h : SF A B) (f : Nat) : aIs B f = aIs A f := congrFun h.2.2.2.1 f
theorem SF.many {A B : AH} (h : SF A B) (f : Nat) : aMany B f = aMany A f := congrFun h.2.2.2.2.2.1 f
theorem SF.ver {A B : AH} (h : SF A B) (c : Nat) : aVer B c = aVer A c := congrFun h.2.2.2.2.2.2.2.1 c
theorem SF.ch {A B : AH} (h : SF A B) (f : Nat) : aCh B f = aCh A f := congrFun h.2.2.2.2.2.2.2.2.2 f
def VP (A B : AH) (c : Nat) : Prop := ∀ s, (aCp B c s).map Prod.fst = (aCp A c s).map Prod.fst
theorem good_vp {A B : AH} {c : Nat} (h : VP A B c) (e : aVer B c = aVer A c) (s : Nat) : aGood B c s = aGood A c s := by
  have h1 := h s
  unfold aGood
  cases hb : aCp B c s with
  | none =>
    rw [hb] at h1
    cases ha : aCp A c s with
    | none => rfl
    | some q => rw [ha] at h1; cases h1
  | some p =>
    rw [hb] at h1
    cases ha : aCp A c s with
    | none => rw [ha] at h1; cases h1
    | some q =>
      rw [ha] at h1
      have h2 : p.1 = q.1 := Option.some.inj h1
      simp only [h2, e]
abbrev spWr (A : AH) (c s fr k : Nat) (L : Nat → Nat) : AH := setCp A c s ((aCp A c s).map (fun q => (q.1, fr + k, wrC q.2.2 fr k L)))
theorem spWr_some {A : AH} {c s fr k : Nat} {L : Nat → Nat} {q : CPY} (hq : aCp A c s = some q) : spWr A c s fr k L = setCp A c s (some (q.1, fr + k, wrC q.2.2 fr k L)) := by
  show setCp A c s ((aCp A c s).map _) = _
  rw [hq]
  rfl
theorem VP.rf (A : AH) (c : Nat) : VP A A c := fun _ => rfl
theorem VP.wr {A B : AH} {c : Nat} (h : VP A B c) (s fr k : Nat) (L : Nat → Nat) : VP A (spWr B c s fr k L) c := by
  intro s'
  by_cases e : s' = s
  · subst e
    rw [cp_s, ← h s']
    cases aCp B c s' <;> rfl
  · rw [cp_n (fun q => e q.2)]
    exact h s'
/-- letters by number: 1 to 26 -/
def LK (k : Nat) (L : Nat → Nat) : Prop := ∀ j, j < k → 1 ≤ L j ∧ L j ≤ 26
theorem AI.wr {n : Nat} {A : AH} (h : AI n A) {c s fr k : Nat} {L : Nat → Nat} (hL : LK k L) (hk : fr + k ≤ aSize A) : AI n (spWr A c s fr k L) := by
  cases hq : aCp A c s with
  | none =>
    have e : spWr A c s fr k L = setCp A c s none := by
      show setCp A c s ((aCp A c s).map _) = _
      rw [hq]
      rfl
    rw [e]
    exact h.cpN c s
  | some q =>
    rw [spWr_some hq]
    have h1 := h.2.2.2.2.2.2.2.2.2.2.2.2.2 c s q hq
    refine h.cpS h1.1 h1.2.1 ⟨h1.2.2.1, hk, fun i => ?_, fun i hi => ?_⟩
    · have := wrC_32 (fr := fr) (k := k) (L := L) (m := 28) (fun i => Nat.lt_succ_of_le (h1.2.2.2.2.1 i)) (fun j hj => by have := hL j hj; omega) i
      show wrC q.2.2 fr k L i ≤ 27
      omega
    · show wrC q.2.2 fr k L i = 0
      unfold wrC
      rw [if_neg (by omega)]
      exact h1.2.2.2.2.2 i hi
/-- one server more of a try; h is the holder, A the house as it was then -/
def tryS (A : AH) (c h fr k : Nat) (L : Nat → Nat) (s : Nat) (st : Bool × AH) : Bool × AH :=
  if s = h then st else if aGood A c s = true then (if aUp A s = 1 then (if 1 ≤ aSpo st.2 s then (false, spFail st.2 s) else (st.1, spWr st.2 c s fr k L)) else (false, setLs st.2 c none)) else st
def tryN (A : AH) (c h fr k : Nat) (L : Nat → Nat) (st : Bool × AH) : Nat → Bool × AH
  | 0 => st
  | s + 1 => tryS A c h fr k L s (tryN A c h fr k L st s)
def spTry (A : AH) (c fr k : Nat) (L : Nat → Nat) : Bool × AH := match aLs A c with
  | none => (false, A)
  | some q => if 1 ≤ aSpo A q.1 then (false, spFail A q.1) else tryN A c q.1 fr k L (true, spWr A c q.1 fr k L) 5
def TI (n : Nat) (A B : AH) (c : Nat) : Prop := AI n B ∧ SF A B ∧ VP A B c
theorem tryS_inv {n : Nat} {A : AH} {c h fr k : Nat} {L : Nat → Nat} (hL : LK k L) (hk : fr + k ≤ aSize A) {s : Nat} (hs : s < 5) {st : Bool × AH} (hI : TI n A st.2 c) : TI n A (tryS A c h fr k L s st).2 c := by
  obtain ⟨h1, h2, h3⟩ := hI
  unfold tryS
  split
  · exact ⟨h1, h2, h3⟩
  · split
    · split
      · split
        · exact ⟨h1.fail hs, h2.tr (SF.spo _ _ _), h3⟩
        · exact ⟨h1.wr hL (by rw [h2.size]; exact hk), h2.tr (SF.cp _ _ _ _), h3.wr _ _ _ _⟩
      · exact ⟨h1.lsN c, h2.tr (SF.ls _ _ _), h3⟩
    · exact ⟨h1, h2, h3⟩
theorem tryN_inv {n : Nat} {A : AH} {c h fr k : Nat} {L : Nat → Nat} (hL : LK k L) (hk : fr + k ≤ aSize A) {st : Bool × AH} (hI : TI n A st.2 c) : ∀ s, s ≤ 5 → TI n A (tryN A c h fr k L st s).2 c := by
  intro s
  induction s with
  | zero => intro _; exact hI
  | succ s ih =>
    intro hs
    exact tryS_inv hL hk (by omega) (ih (by omega))
theorem tryN_ext {n : Nat} {A : AH} (hA : AI n A) {c h fr k : Nat} {L : Nat → Nat} {st : Bool × AH} (d : Nat) : tryN A c h fr k L st (nS A + d) = tryN A c h fr k L st (nS A) := by
  induction d with
  | zero => rfl
  | succ d ih =>
    show tryS A c h fr k L (nS A + d) (tryN A c h fr k L st (nS A + d)) = _
    rw [ih]
    unfold tryS
    rw [good_out hA c (nS A + d) (by omega)]
    simp
theorem spTry_inv {n : Nat} {A : AH} (hA : AI n A) {c fr k : Nat} {L : Nat → Nat} (hc : c < aMade A) (hL : LK k L) (hk : fr + k ≤ aSize A) : TI n A (spTry A c fr k L).2 c := by
  unfold spTry
  cases hq : aLs A c with
  | none => exact ⟨hA, SF.rf A, VP.rf A c⟩
  | some q =>
    have hb := hA.2.2.2.2.2.2.2.2.2.2.2.2.1 c q.1 q.2 hc hq
    have h5 : nS A ≤ 5 := hA.1
    dsimp only
    split
    · exact ⟨hA.fail (by omega), SF.spo _ _ _, VP.rf A c⟩
    · exact tryN_inv hL hk ⟨hA.wr hL hk, SF.cp _ _ _ _, (VP.rf A c).wr _ _ _ _⟩ 5 (Nat.le_refl _)
theorem cv_L {x : Nat} (h : 1 ≤ x ∧ x ≤ 26) : cv x = nI (96 + x) := by
  unfold cv
  rw [if_neg (by omega), if_neg (by omega)]
theorem try_c {A : AH} {v : HS} {n : Nat} (h : RC A v) (hA : AI n A) (hn : n ≤ 8000) {c fr k n3 : Nat} {v3 : Nat → Int32} {L : Nat → Nat} (hc : c < aMade A) (hL : LK k L) (hk : fr + k ≤ aSize A) (h3k : k ≤ n3) (hn3 : n3 < 100) (hv3 : ∀ j, j < k → v3 j = cv (L j)) {q : Nat × Nat} (hq : aLs A c = some q) (hab : aGood A c q.1 = true) : ∃ v', f_X5_tryToWrite v (nI c) (nI fr) n3 v3 (nI k) = some ((spTry A c fr k L).1, v') ∧ RC (spTry A c fr k L).2 v' := by
  have h30 : aMade A ≤ 30 := hA.2.2.2.2.2.2.1
  have h5 : nS A ≤ 5 := hA.1
  have h9 : aSize A ≤ 9 := hA.2.2.1
  have hb := hA.2.2.2.2.2.2.2.2.2.2.2.2.1 c q.1 q.2 hc hq
  have hho : v.2.2.2.2.2.2.1.2.2.2.1 c = nI q.1 := by
    have := (h.2.2.1.2 c hc).2.2
    rw [hq] at this
    exact this.1
  obtain ⟨y, hy, hRy⟩ := fails_c h.2.1 hA hb.1
  unfold spTry
  rw [hq]
  dsimp only
  by_cases hsp : 1 ≤ aSpo A q.1
  · rw [if_pos hsp]
    rw [decide_eq_true hsp] at hy
    refine ⟨hSV v y, ?_, h.spo hRy⟩
    simp (disch := omega) only [u_X5_tryToWrite, has_ck h.2.2.1, hasP_of hc, hho, hy, ↓reduceIte, bt_do, bd_do, jn_eq, bI_z, gd_nI, gd_0, gd_1, nI_clamp, nI_add, nI_1, pk_mul, Nat.add_zero, Nat.zero_add, ile_t, ile_f, ilt_t, ilt_f, ieq_t, ieq_f, iz_t, iz_f, ilt0, ige0, im1, Bool.false_eq_true, Bool.true_eq_false, if_true, if_false]
  · rw [if_neg hsp]
    rw [decide_eq_false hsp] at hy
    have hR1 : RC (spFail A q.1) (hSV v y) := h.spo hRy
    rw [spFail_0 hsp] at hR1
    obtain ⟨q0, hq0, _⟩ := good_cp hab
    obtain ⟨z, hz, hRz⟩ := write_c h.2.2.2.1 (s := q.1) (c := c) (fr := fr) (k := k) (n4 := n3) (v4 := v3) (L := L) (by omega) (by omega) (by omega) h3k hn3 hv3 hq0
    have hR2 : RC (spWr A c q.1 fr k L) (hCP (hSV v y) z) := by
      rw [spWr_some hq0]
      exact hR1.cp hRz
    have hA2 : AI n (spWr A c q.1 fr k L) := hA.wr hL hk
    have hgd : f_X5_good (hCP (hSV v y) z) (nI c) = some (nI (mN (aGood A c) 5)) := by
      rw [good_c5 hR2 hA2 hn hc]
      congr 3
      funext s
      exact good_vp ((VP.rf A c).wr _ _ _ _) rfl s
    have e5 : tryN A c q.1 fr k L (true, spWr A c q.1 fr k L) 5 = tryN A c q.1 fr k L (true, spWr A c q.1 fr k L) (nS A) := by
      have := tryN_ext hA (c := c) (h := q.1) (fr := fr) (k := k) (L := L) (st := (true, spWr A c q.1 fr k L)) (5 - nS A)
      rw [show nS A + (5 - nS A) = 5 by omega] at this
      exact this
    rw [e5]
    simp (disch := omega) only [u_X5_tryToWrite, has_ck h.2.2.1, hasP_of hc, hho, hy, hz, ↓reduceIte, bt_do, bd_do, jn_eq, bI_z, gd_nI, gd_0, gd_1, nI_clamp, nI_add, nI_1, pk_mul, Nat.add_zero, Nat.zero_add, ile_t, ile_f, ilt_t, ilt_f, ieq_t, ieq_f, iz_t, iz_f, ilt0, ige0, im1, Bool.false_eq_true, Bool.true_eq_false, if_true, if_false]
    simp only [hCP, hSV] at hgd
    rw [bd_at hgd]
    refine lp_gen (fun i z => z.1 = (tryN A c q.1 fr k L (true, spWr A c q.1 fr k L) i).1 ∧ z.2.1 = nI i ∧ RC (tryN A c q.1 fr k L (true, spWr A c q.1 fr k L) i).2 z.2.2) (fun X => ∃ v', X = some ((tryN A c q.1 fr k L (true, spWr A c q.1 fr k L) (nS A)).1, v') ∧ RC (tryN A c q.1 fr k L (true, spWr A c q.1 fr k L) (nS A)).2 v') (nS A) (by omega) ?_ ?_ ?_
    · exact ⟨rfl, rfl, hR2⟩
    · intro i z hi hR
      obtain ⟨z1, z2, w⟩ := z
      obtain ⟨e1, e2, hRw⟩ := hR
      dsimp only at e1 e2 hRw
      subst e1
      subst e2
      obtain ⟨hAi, hSF, hVP⟩ := tryN_inv (h := q.1) hL hk (st := (true, spWr A c q.1 fr k L)) ⟨hA2, SF.cp _ _ _ _, (VP.rf A c).wr _ _ _ _⟩ i (by omega)
      rw [tryN]
      generalize tryN A c q.1 fr k L (true, spWr A c q.1 fr k L) i = st at *
      have hw : w.2.2.2.2.2.1.1 = nI (nS A) := by rw [← hSF.nS]; exact hRw.2.1.1
      have hin : f_X10_isIn (nI (mN (aGood A c) 5)) (nI i) = aGood A c i := isIn_n _ (by omega)
      have hub := (hA.2.2.2.2.2.2.2.1 i (by omega)).1
      have hcB : c < aMade st.2 := by rw [hSF.made]; exact hc
      have h30B : aMade st.2 ≤ 30 := by rw [hSF.made]; exact h30
      have hiB : i < nS st.2 := by rw [hSF.nS]; exact hi
      have hup : f_X8_hasUp w.2.2.2.2.2.1 (nI i) = aUpB A i := by
        unfold aUpB
        rw [← hSF.up]
        exact hasUp_c hRw.2.1 hAi hiB
      unfold tryS
      left
      by_cases e : i = q.1
      · rw [if_pos e]
        refine ⟨(st.1, nI (i + 1), w), ⟨rfl, rfl, hRw⟩, fun rec => ?_⟩
        simp (disch := omega) only [ubX5_tryToWrite_7, hw, hho, ↓reduceIte, bt_do, bd_do, jn_eq, bI_z, gd_nI, gd_0, gd_1, nI_clamp, nI_add, nI_1, pk_mul, Nat.add_zero, Nat.zero_add, ile_t, ile_f, ilt_t, ilt_f, ieq_t, ieq_f, iz_t, iz_f, ilt0, ige0, im1, Bool.false_eq_true, Bool.true_eq_false, if_true, if_false]
      · rw [if_neg e]
        by_cases eg : aGood A c i = true
        · rw [if_pos eg]
          by_cases eu : aUp A i = 1
          · rw [if_pos eu]
            obtain ⟨y1, hy1, hRy1⟩ := fails_c hRw.2.1 hAi hiB
            by_cases es : 1 ≤ aSpo st.2 i
            · rw [if_pos es]
              rw [decide_eq_true es] at hy1
              refine ⟨(false, nI (i + 1), hSV w y1), ⟨rfl, rfl, hRw.spo hRy1⟩, fun rec => ?_⟩
              simp (disch := omega) only [ubX5_tryToWrite_7, hw, hho, hin, eg, hup, aUpB_1 eu, hy1, hSV, ↓reduceIte, bt_do, bd_do, jn_eq, bI_z, gd_nI, gd_0, gd_1, nI_clamp, nI_add, nI_1, pk_mul, Nat.add_zero, Nat.zero_add, ile_t, ile_f, ilt_t, ilt_f, ieq_t, ieq_f, iz_t, iz_f, ilt0, ige0, im1, Bool.false_eq_true, Bool.true_eq_false, if_true, if_false]
            · rw [if_neg es]
              rw [decide_eq_false es] at hy1
              have hRs : RC (spFail st.2 i) (hSV w y1) := hRw.spo hRy1
              rw [spFail_0 es] at hRs
              have eg' : aGood st.2 c i = true := by rw [good_vp hVP (hSF.ver c) i]; exact eg
              obtain ⟨q1, hq1, _⟩ := good_cp eg'
              obtain ⟨z, hz, hRz⟩ := write_c hRw.2.2.2.1 (s := i) (c := c) (fr := fr) (k := k) (n4 := n3) (v4 := v3) (L := L) (by omega) (by omega) (by omega) h3k hn3 hv3 hq1
              refine ⟨(st.1, nI (i + 1), hCP (hSV w y1) z), ⟨rfl, rfl, by rw [spWr_some hq1]; exact hRs.cp hRz⟩, fun rec => ?_⟩
              simp (disch := omega) only [ubX5_tryToWrite_7, hw, hho, hin, eg, hup, aUpB_1 eu, hy1, hz, hSV, hCP, ↓reduceIte, bt_do, bd_do, jn_eq, bI_z, gd_nI, gd_0, gd_1, nI_clamp, nI_add, nI_1, pk_mul, Nat.add_zero, Nat.zero_add, ile_t, ile_f, ilt_t, ilt_f, ieq_t, ieq_f, iz_t, iz_f, ilt0, ige0, im1, Bool.false_eq_true, Bool.true_eq_false, if_true, if_false]
          · rw [if_neg eu]
            obtain ⟨y1, hy1, hRy1⟩ := endLease_c hRw hcB h30B
            refine ⟨(false, nI (i + 1), hCK w y1), ⟨rfl, rfl, hRy1⟩, fun rec => ?_⟩
            simp (disch := omega) only [ubX5_tryToWrite_7, hw, hho, hin, eg, hup, aUpB_0 (show aUp A i = 0 by omega), hy1, hCK, ↓reduceIte, bt_do, bd_do, jn_eq, bI_z, gd_nI, gd_0, gd_1, nI_clamp, nI_add, nI_1, pk_mul, Nat.add_zero, Nat.zero_add, ile_t, ile_f, ilt_t, ilt_f, ieq_t, ieq_f, iz_t, iz_f, ilt0, ige0, im1, Bool.false_eq_true, Bool.true_eq_false, if_true, if_false]
        · rw [if_neg eg]
          refine ⟨(st.1, nI (i + 1), w), ⟨rfl, rfl, hRw⟩, fun rec => ?_⟩
          simp (disch := omega) only [ubX5_tryToWrite_7, hw, hho, hin, bF eg, ↓reduceIte, bt_do, bd_do, jn_eq, bI_z, gd_nI, gd_0, gd_1, nI_clamp, nI_add, nI_1, pk_mul, Nat.add_zero, Nat.zero_add, ile_t, ile_f, ilt_t, ilt_f, ieq_t, ieq_f, iz_t, iz_f, ilt0, ige0, im1, Bool.false_eq_true, Bool.true_eq_false, if_true, if_false]
    · intro z hR
      obtain ⟨z1, z2, w⟩ := z
      obtain ⟨e1, e2, hRw⟩ := hR
      dsimp only at e1 e2 hRw
      subst e1
      subst e2
      obtain ⟨hAi, hSF, hVP⟩ := tryN_inv (h := q.1) hL hk (st := (true, spWr A c q.1 fr k L)) ⟨hA2, SF.cp _ _ _ _, (VP.rf A c).wr _ _ _ _⟩ (nS A) h5
      have hw : w.2.2.2.2.2.1.1 = nI (nS A) := by rw [← hSF.nS]; exact hRw.2.1.1
      refine ⟨_, ⟨w, rfl, hRw⟩, fun rec => ?_⟩
      simp (disch := omega) only [ubX5_tryToWrite_7, hw, ↓reduceIte, bt_do, bd_do, jn_eq, bI_z, gd_nI, gd_0, gd_1, nI_clamp, nI_add, nI_1, pk_mul, Nat.add_zero, Nat.zero_add, ile_t, ile_f, ilt_t, ilt_f, ieq_t, ieq_f, iz_t, iz_f, ilt0, ige0, im1, Bool.false_eq_true, Bool.true_eq_false, if_true, if_false]
/-! the model -/
theorem updL_same (f : Nat → Int64) (k : Nat) : vp_updL f k (f k) = f := by
  funext j
  by_cases e : j = k
  · rw [e, pk_uLs]
  · rw [pk_uLn e]
theorem try_m {A : AH} {b : Nat → Int64} {md : MD} {n : Nat} (h : RM A b) (hA : AI n A) (hn : n ≤ 8000) {c fr k : Nat} {L : Nat → Nat} (hc : c < aMade A) (hL : LK k L) (hk : fr + k ≤ aSize A) (hl : md.2.2.2.2.2.2.2.2.2.2.2.2.2.2.2.2 = nI k) (hrec : ∀ j, j < k → md.2.2.2.2.2.2.2.2.2.2.2.2.2.2.2.1 j = nI (L j)) {q : Nat × Nat} (hq : aLs A c = some q) (hab : aGood A c q.1 = true) : ∃ b', f_X11_writesAll md b (nI c) (nI fr) = some ((spTry A c fr k L).1, b') ∧ RM (spTry A c fr k L).2 b' := by
  have h30 : aMade A ≤ 30 := hA.2.2.2.2.2.2.1
  have h5 : nS A ≤ 5 := hA.1
  have h9 : aSize A ≤ 9 := hA.2.2.1
  have hb := hA.2.2.2.2.2.2.2.2.2.2.2.2.1 c q.1 q.2 hc hq
  have hrL : ∀ j, j < k → md.2.2.2.2.2.2.2.2.2.2.2.2.2.2.2.1 j = nI (L j) ∧ L j < 32 := fun j hj => ⟨hrec j hj, by have := hL j hj; omega⟩
  have hho : b (70 + 4 * c + 2) = lN q.1 := by
    have := (h.2.2.2.1 c hc).2.2
    rw [hq] at this
    exact this.1
  obtain ⟨b1, hb1, hR1⟩ := fails_m h hA (s := q.1) (by omega)
  unfold spTry
  rw [hq]
  dsimp only
  by_cases hsp : 1 ≤ aSpo A q.1
  · rw [if_pos hsp]
    rw [decide_eq_true hsp] at hb1
    refine ⟨b1, ?_, hR1⟩
    simp (disch := omega) only [u_X11_writesAll, hho, hb1, ↓reduceIte, bt_do, bd_do, jn_eq, bI_z, gd_nI, gd_0, gd_1, nI_clamp, nI_add, nI_1, pk_mul, Nat.add_zero, Nat.zero_add, ile_t, ile_f, ilt_t, ilt_f, ieq_t, ieq_f, iz_t, iz_f, ilt0, ige0, im1, Bool.false_eq_true, Bool.true_eq_false, if_true, if_false, lc_ge_t, lc_ge_f, lc_eq_t, lc_eq_f, lc_le_t, lc_le_f, lc_gt_t, lc_gt_f, lc_lt_t, lc_lt_f, nI_l, lN_i, lN_add, lN_1]
  · rw [if_neg hsp]
    rw [decide_eq_false hsp] at hb1
    rw [spFail_0 hsp] at hR1
    obtain ⟨q0, hq0, _⟩ := good_cp hab
    obtain ⟨b2, hb2, hR2⟩ := writes_m hR1 hA hn (s := q.1) (c := c) (fr := fr) (k := k) (L := L) (by omega) hc (by omega) hl hrL hq0
    rw [← spWr_some hq0] at hR2
    have hA2 : AI n (spWr A c q.1 fr k L) := hA.wr hL hk
    have e5 : tryN A c q.1 fr k L (true, spWr A c q.1 fr k L) 5 = tryN A c q.1 fr k L (true, spWr A c q.1 fr k L) (nS A) := by
      have := tryN_ext hA (c := c) (h := q.1) (fr := fr) (k := k) (L := L) (st := (true, spWr A c q.1 fr k L)) (5 - nS A)
      rw [show nS A + (5 - nS A) = 5 by omega] at this
      exact this
    rw [e5]
    simp (disch := omega) only [u_X11_writesAll, hho, hb1, hb2, ↓reduceIte, bt_do, bd_do, jn_eq, bI_z, gd_nI, gd_0, gd_1, nI_clamp, nI_add, nI_1, pk_mul, Nat.add_zero, Nat.zero_add, ile_t, ile_f, ilt_t, ilt_f, ieq_t, ieq_f, iz_t, iz_f, ilt0, ige0, im1, Bool.false_eq_true, Bool.true_eq_false, if_true, if_false, lc_ge_t, lc_ge_f, lc_eq_t, lc_eq_f, lc_le_t, lc_le_f, lc_gt_t, lc_gt_f, lc_lt_t, lc_lt_f, nI_l, lN_i, lN_add, lN_1]
    refine lp_gen (fun i z => z.1 = (tryN A c q.1 fr k L (true, spWr A c q.1 fr k L) i).1 ∧ z.2.1 = nI i ∧ RM (tryN A c q.1 fr k L (true, spWr A c q.1 fr k L) i).2 z.2.2) (fun X => ∃ b', X = some ((tryN A c q.1 fr k L (true, spWr A c q.1 fr k L) (nS A)).1, b') ∧ RM (tryN A c q.1 fr k L (true, spWr A c q.1 fr k L) (nS A)).2 b') (nS A) (by omega) ?_ ?_ ?_
    · exact ⟨rfl, rfl, hR2⟩
    · intro i z hi hR
      obtain ⟨z1, z2, w⟩ := z
      obtain ⟨e1, e2, hRw⟩ := hR
      dsimp only at e1 e2 hRw
      subst e1
      subst e2
      obtain ⟨hAi, hSF, hVP⟩ := tryN_inv (h := q.1) hL hk (st := (true, spWr A c q.1 fr k L)) ⟨hA2, SF.cp _ _ _ _, (VP.rf A c).wr _ _ _ _⟩ i (by omega)
      rw [tryN]
      generalize tryN A c q.1 fr k L (true, spWr A c q.1 fr k L) i = st at *
      have h0 : w 0 = lN (nS A) := by rw [← hSF.nS]; exact hRw.1 0 (by omega)
      have hcB : c < aMade st.2 := by rw [hSF.made]; exact hc
      have h30B : aMade st.2 ≤ 30 := by rw [hSF.made]; exact h30
      have hgB := isGood_m hRw hAi hn hcB (s := i) (by omega)
      rw [good_vp hVP (hSF.ver c) i] at hgB
      have hub := (hA.2.2.2.2.2.2.2.1 i (by omega)).1
      have huB := isUp_m hRw (s := i) (by omega) (by rw [hSF.up]; exact hub)
      rw [hSF.up] at huB
      unfold tryS
      left
      by_cases e : i = q.1
      · rw [if_pos e]
        refine ⟨(st.1, nI (i + 1), w), ⟨rfl, rfl, hRw⟩, fun rec => ?_⟩
        simp (disch := omega) only [ubX11_writesAll_5, h0, hho, ↓reduceIte, bt_do, bd_do, jn_eq, bI_z, gd_nI, gd_0, gd_1, nI_clamp, nI_add, nI_1, pk_mul, Nat.add_zero, Nat.zero_add, ile_t, ile_f, ilt_t, ilt_f, ieq_t, ieq_f, iz_t, iz_f, ilt0, ige0, im1, Bool.false_eq_true, Bool.true_eq_false, if_true, if_false, lc_ge_t, lc_ge_f, lc_eq_t, lc_eq_f, lc_le_t, lc_le_f, lc_gt_t, lc_gt_f, lc_lt_t, lc_lt_f, nI_l, lN_i, lN_add, lN_1]
      · rw [if_neg e]
        by_cases eg : aGood A c i = true
        · rw [if_pos eg]
          by_cases eu : aUp A i = 1
          · rw [if_pos eu]
            have eub : (aUp A i == 1) = true := by rw [eu]; rfl
            rw [eub] at huB
            obtain ⟨w1, hw1, hRw1⟩ := fails_m hRw hAi (s := i) (by omega)
            by_cases es : 1 ≤ aSpo st.2 i
            · rw [if_pos es]
              rw [decide_eq_true es] at hw1
              refine ⟨(false, nI (i + 1), w1), ⟨rfl, rfl, hRw1⟩, fun rec => ?_⟩
              cases st.1 <;> simp (disch := omega) only [ubX11_writesAll_5, h0, hho, hgB, eg, huB, updL_same, hw1, ↓reduceIte, bt_do, bd_do, jn_eq, bI_z, gd_nI, gd_0, gd_1, nI_clamp, nI_add, nI_1, pk_mul, Nat.add_zero, Nat.zero_add, ile_t, ile_f, ilt_t, ilt_f, ieq_t, ieq_f, iz_t, iz_f, ilt0, ige0, im1, Bool.false_eq_true, Bool.true_eq_false, if_true, if_false, lc_ge_t, lc_ge_f, lc_eq_t, lc_eq_f, lc_le_t, lc_le_f, lc_gt_t, lc_gt_f, lc_lt_t, lc_lt_f, nI_l, lN_i, lN_add, lN_1]
            · rw [if_neg es]
              rw [decide_eq_false es] at hw1
              rw [spFail_0 es] at hRw1
              have eg' : aGood st.2 c i = true := by rw [good_vp hVP (hSF.ver c) i]; exact eg
              obtain ⟨q1, hq1, _⟩ := good_cp eg'
              obtain ⟨w2, hw2, hRw2⟩ := writes_m hRw1 hAi hn (s := i) (c := c) (fr := fr) (k := k) (L := L) (by omega) hcB (by omega) hl hrL hq1
              rw [← spWr_some hq1] at hRw2
              refine ⟨(st.1, nI (i + 1), w2), ⟨rfl, rfl, hRw2⟩, fun rec => ?_⟩
              cases st.1 <;> simp (disch := omega) only [ubX11_writesAll_5, h0, hho, hgB, eg, huB, updL_same, hw1, hw2, ↓reduceIte, bt_do, bd_do, jn_eq, bI_z, gd_nI, gd_0, gd_1, nI_clamp, nI_add, nI_1, pk_mul, Nat.add_zero, Nat.zero_add, ile_t, ile_f, ilt_t, ilt_f, ieq_t, ieq_f, iz_t, iz_f, ilt0, ige0, im1, Bool.false_eq_true, Bool.true_eq_false, if_true, if_false, lc_ge_t, lc_ge_f, lc_eq_t, lc_eq_f, lc_le_t, lc_le_f, lc_gt_t, lc_gt_f, lc_lt_t, lc_lt_f, nI_l, lN_i, lN_add, lN_1]
          · rw [if_neg eu]
            have eub : (aUp A i == 1) = false := by
              have : aUp A i = 0 := by omega
              rw [this]; rfl
            rw [eub] at huB
            refine ⟨(false, nI (i + 1), vp_updL w (70 + 4 * c + 2) (-1)), ⟨rfl, rfl, hRw.lsN h30B hcB⟩, fun rec => ?_⟩
            cases st.1 <;> simp (disch := omega) only [ubX11_writesAll_5, h0, hho, hgB, eg, huB, ↓reduceIte, bt_do, bd_do, jn_eq, bI_z, gd_nI, gd_0, gd_1, nI_clamp, nI_add, nI_1, pk_mul, Nat.add_zero, Nat.zero_add, ile_t, ile_f, ilt_t, ilt_f, ieq_t, ieq_f, iz_t, iz_f, ilt0, ige0, im1, Bool.false_eq_true, Bool.true_eq_false, if_true, if_false, lc_ge_t, lc_ge_f, lc_eq_t, lc_eq_f, lc_le_t, lc_le_f, lc_gt_t, lc_gt_f, lc_lt_t, lc_lt_f, nI_l, lN_i, lN_add, lN_1]
        · rw [if_neg eg]
          refine ⟨(st.1, nI (i + 1), w), ⟨rfl, rfl, hRw⟩, fun rec => ?_⟩
          simp (disch := omega) only [ubX11_writesAll_5, h0, hho, hgB, bF eg, ↓reduceIte, bt_do, bd_do, jn_eq, bI_z, gd_nI, gd_0, gd_1, nI_clamp, nI_add, nI_1, pk_mul, Nat.add_zero, Nat.zero_add, ile_t, ile_f, ilt_t, ilt_f, ieq_t, ieq_f, iz_t, iz_f, ilt0, ige0, im1, Bool.false_eq_true, Bool.true_eq_false, if_true, if_false, lc_ge_t, lc_ge_f, lc_eq_t, lc_eq_f, lc_le_t, lc_le_f, lc_gt_t, lc_gt_f, lc_lt_t, lc_lt_f, nI_l, lN_i, lN_add, lN_1]
    · intro z hR
      obtain ⟨z1, z2, w⟩ := z
      obtain ⟨e1, e2, hRw⟩ := hR
      dsimp only at e1 e2 hRw
      subst e1
      subst e2
      obtain ⟨hAi, hSF, hVP⟩ := tryN_inv (h := q.1) hL hk (st := (true, spWr A c q.1 fr k L)) ⟨hA2, SF.cp _ _ _ _, (VP.rf A c).wr _ _ _ _⟩ (nS A) h5
      have h0 : w 0 = lN (nS A) := by rw [← hSF.nS]; exact hRw.1 0 (by omega)
      refine ⟨_, ⟨w, rfl, hRw⟩, fun rec => ?_⟩
      simp (disch := omega) only [ubX11_writesAll_5, h0, ↓reduceIte, bt_do, bd_do, jn_eq, bI_z, gd_nI, gd_0, gd_1, nI_clamp, nI_add, nI_1, pk_mul, Nat.add_zero, Nat.zero_add, ile_t, ile_f, ilt_t, ilt_f, ieq_t, ieq_f, iz_t, iz_f, ilt0, ige0, im1, Bool.false_eq_true, Bool.true_eq_false, if_true, if_false, lc_ge_t, lc_ge_f, lc_eq_t, lc_eq_f, lc_le_t, lc_le_f, lc_gt_t, lc_gt_f, lc_lt_t, lc_lt_f, nI_l, lN_i, lN_add, lN_1]
