/-! PURE 9c: draws -/
theorem fill_c {n : Nat} (hn : n < 4000) (v : Nat → Int32) (x : Int32) : ∃ y, f_J7_fill_53178 n v x = some y ∧ ∀ j, j < n → y j = x := by
  rw [u_J7_fill_53178, jn_eq]
  refine lp_gen (fun i (z : Int32 × (Nat → Int32)) => z.1 = nI i ∧ ∀ j, j < i → z.2 j = x) (fun X => ∃ y : Nat → Int32, X = some y ∧ ∀ j, j < n → y j = x) n (by omega) ⟨rfl, fun j hj => by omega⟩ ?_ ?_
  · rintro i ⟨z1, w⟩ hi ⟨h1, h2⟩
    dsimp only at h1 h2
    subst h1
    left
    refine ⟨(nI (i + 1), upd w i x), ⟨rfl, fun j hj => ?_⟩, fun rec => ?_⟩
    · show upd w i x j = x
      by_cases e : j = i
      · rw [e, pk_us]
      · rw [pk_un e]; exact h2 j (by omega)
    · simp (disch := omega) only [ubJ7_fill_53178_1, ↓reduceIte, bt_do, bd_do, jn_eq, bI_z, gd_nI, gd_0, gd_1, nI_clamp, nI_add, nI_1, pk_mul, Nat.add_zero, Nat.zero_add, ile_t, ile_f, ilt_t, ilt_f, ieq_t, ieq_f, iz_t, iz_f, ilt0, ige0, im1, Bool.false_eq_true, Bool.true_eq_false, if_true, if_false]
  · rintro ⟨z1, w⟩ ⟨h1, h2⟩
    dsimp only at h1 h2
    subst h1
    refine ⟨_, ⟨w, rfl, h2⟩, fun rec => ?_⟩
    simp (disch := omega) only [ubJ7_fill_53178_1, ↓reduceIte, bt_do, bd_do, jn_eq, bI_z, gd_nI, gd_0, gd_1, nI_clamp, nI_add, nI_1, pk_mul, Nat.add_zero, Nat.zero_add, ile_t, ile_f, ilt_t, ilt_f, ieq_t, ieq_f, iz_t, iz_f, ilt0, ige0, im1, Bool.false_eq_true, Bool.true_eq_false, if_true, if_false]
def nxX (x : Nat) : Nat := x * 16807 % 2147483647
def yrA (A : AH) (x : Nat) : AH := setSpo A (x / 128 % nS A) (min (aSpo A (x / 128 % nS A) + 1) 9)
def yrS (x : Nat) (st : Nat × AH) : Nat × AH := if aIs st.2 (x % 6) = 1 then (st.1 + (if (spApp (yrA st.2 x) (x % 6) (1 + x / 8 % aSize st.2) (fun _ => 1 + x / 64 % 26)).1 < 0 then 0 else 1), (spApp (yrA st.2 x) (x % 6) (1 + x / 8 % aSize st.2) (fun _ => 1 + x / 64 % 26)).2) else (st.1, yrA st.2 x)
def yrN : Nat → Nat → Nat × AH → Nat × AH
  | 0, _, st => st
  | d + 1, x, st => yrN d (nxX x) (yrS (nxX x) st)
theorem app_num {n : Nat} {A : AH} {f k : Nat} {L : Nat → Nat} (hf : f < 6) (hL : LK k L) (hQ : AQ n A f k) : ∀ j, ¬ j = 6 → (spApp A f k L).2.1 j = A.1 j := by
  intro j hj
  have h30 : ∀ (A : AH) (f : Nat), (spNewR A f).2.1 j = A.1 j := by
    intro A f
    unfold spNewR
    split
    · rfl
    · split
      · exact up_n (D := A.1) (k := 6) (j := j) (o := aMade A + 1) hj
      · rfl
  have h31 : ∀ (A : AH) (f k : Nat), (spOwnR A f k).2.1 j = A.1 j := by
    intro A f k
    unfold spOwnR
    split
    · rfl
    · split
      · rfl
      · split
        · exact up_n (D := A.1) (k := 6) (j := j) (o := aMade A + 1) hj
        · rfl
  have h32 : ∀ (m : Nat) (rc : Int32) (t n : Nat) (A : AH), AP n A f k → (apL f k L m rc t A).2.1 j = A.1 j := by
    intro m
    induction m with
    | zero => intro rc t n A h; rfl
    | succ m ih =>
      intro rc t n A h
      rw [apL]
      by_cases e1 : 3 ≤ t
      · rw [if_pos e1]
      · rw [if_neg e1]
        by_cases e2 : rc = 0
        · rw [if_pos e2]
          by_cases e3 : aHold A (lst A f) = true ∨ any5 (aAble A (lst A f)) = true
          · rw [if_pos e3]
            have hA1 := h.ape hf e3
            have hfl := (apA_files A f).1
            have hsz : aSize (apA A f) = aSize A := congrFun hfl 2
            have hmd : aMade (apA A f) = aMade A := congrFun hfl 6
            have hc : lst A f < aMade (apA A f) := by rw [hmd]; exact lst_lt h.1 hf h.2.2.1
            by_cases e4 : aSize A < aGf (apA A f) (lst A f) + k
            · rw [if_pos e4]
              have hPp := hA1.pad (fr := aGf (apA A f) (lst A f)) hc
              have i1 := ih (spNewR (spPad (apA A f) (lst A f) (aGf (apA A f) (lst A f))) f).1 t (n + 1) _ (hPp.newR hf)
              have j1 := h30 (spPad (apA A f) (lst A f) (aGf (apA A f) (lst A f))) f
              exact i1.trans (j1.trans (congrFun hfl j))
            · rw [if_neg e4]
              have hfit : aGf (apA A f) (lst A f) + k ≤ aSize (apA A f) := by rw [hsz]; omega
              obtain ⟨t1, t2, _⟩ := spTry_inv hA1.1 hc hL hfit
              have ht := hA1.try (fr := aGf (apA A f) (lst A f)) hc hL hfit
              by_cases e5 : (spTry (apA A f) (lst A f) (aGf (apA A f) (lst A f)) k L).1 = true
              · rw [if_pos e5]
                exact (congrFun t2.1 j).trans (congrFun hfl j)
              · rw [if_neg e5]
                have i1 := ih 0 (t + 1) (n + 1) _ ht
                exact i1.trans ((congrFun t2.1 j).trans (congrFun hfl j))
          · rw [if_neg e3]
        · rw [if_neg e2]
  have h33 : (spApp0 A f).2.1 j = A.1 j := by
    unfold spApp0
    split
    · exact h30 A f
    · exact h31 A f _
  obtain ⟨i1, i2⟩ := app0_inv hQ hf
  unfold spApp
  by_cases e : (spApp0 A f).1 = 0
  · exact (h32 6 (spApp0 A f).1 0 n _ (i2 e)).trans h33
  · rw [apL_rc e]
    exact h33
theorem AF.num {A B : AH} (h : AF A) (e : ∀ j, ¬ j = 6 → B.1 j = A.1 j) : AF B := by
  obtain ⟨h1, h2, h3, h4⟩ := h
  refine ⟨?_, ?_, ?_, ?_⟩
  · show 2 ≤ B.1 0; rw [e 0 (by omega)]; exact h1
  · rw [e 1 (by omega)]; exact h2
  · show 4 ≤ B.1 2; rw [e 2 (by omega)]; exact h3
  · rw [e 3 (by omega)]; exact h4
theorem yr_spo_c {A : AH} {v : HS} {n s : Nat} (h : RC A v) (hA : AI n A) (hs : s < nS A) : ∃ y, f_X8_spoilMore v.2.2.2.2.2.1 (nI s) = some y ∧ RC (setSpo A s (min (aSpo A s + 1) 9)) (hSV v y) := by
  have h5 : nS A ≤ 5 := hA.1
  have h9 := (hA.2.2.2.2.2.2.2.1 s (by omega)).2
  have h1 := (h.2.1.2 s (by omega)).2.1
  refine ⟨(v.2.2.2.2.2.1.1, v.2.2.2.2.2.1.2.1, v.2.2.2.2.2.1.2.2.1, upd v.2.2.2.2.2.1.2.2.2 s (nI (min (aSpo A s + 1) 9))), ?_, h.spo ⟨h.2.1.1, fun s' hs' => ⟨(h.2.1.2 s' hs').1, ?_, (h.2.1.2 s' hs').2.2⟩⟩⟩
  · by_cases e : aSpo A s = 9
    · rw [show min (aSpo A s + 1) 9 = 9 by omega]
      simp (disch := omega) only [u_X8_spoilMore, has_sv h.2.1, hasP_of hs, h1, ↓reduceIte, bt_do, bd_do, jn_eq, bI_z, gd_nI, gd_0, gd_1, nI_clamp, nI_add, nI_1, pk_mul, Nat.add_zero, Nat.zero_add, ile_t, ile_f, ilt_t, ilt_f, ieq_t, ieq_f, iz_t, iz_f, ilt0, ige0, im1, Bool.false_eq_true, Bool.true_eq_false, if_true, if_false]
    · rw [show min (aSpo A s + 1) 9 = aSpo A s + 1 by omega]
      simp (disch := omega) only [u_X8_spoilMore, has_sv h.2.1, hasP_of hs, h1, ↓reduceIte, bt_do, bd_do, jn_eq, bI_z, gd_nI, gd_0, gd_1, nI_clamp, nI_add, nI_1, pk_mul, Nat.add_zero, Nat.zero_add, ile_t, ile_f, ilt_t, ilt_f, ieq_t, ieq_f, iz_t, iz_f, ilt0, ige0, im1, Bool.false_eq_true, Bool.true_eq_false, if_true, if_false]
  · show upd _ s _ s' = nI (upO (aSpo A) s _ s')
    by_cases e : s' = s
    · rw [e, pk_us, up_s]
    · rw [pk_un e, up_n e]; exact (h.2.1.2 s' hs').2.1
/-- what is wanted of a house that years go over -/
def YQ (n : Nat) (A : AH) : Prop := AI n A ∧ AF A
theorem yr_inv {n x : Nat} {st : Nat × AH} (h : YQ n st.2) : YQ (n + 6) (yrS x st).2 ∧ (yrS x st).1 ≤ st.1 + 1 := by
  obtain ⟨hA, h2, h3, h4, h5⟩ := h
  have h9 : aSize st.2 ≤ 9 := hA.2.2.1
  have hn5 : nS st.2 ≤ 5 := hA.1
  have hs : x / 128 % nS st.2 < nS st.2 := Nat.mod_lt _ (by omega)
  have hAy : AI n (yrA st.2 x) := hA.spo (by omega)
  unfold yrS
  split
  · rename_i e
    have hk : x / 8 % aSize st.2 < aSize st.2 := Nat.mod_lt _ (by omega)
    have hL : LK (1 + x / 8 % aSize st.2) (fun _ => 1 + x / 64 % 26) := fun j _ => by
      have : x / 64 % 26 < 26 := Nat.mod_lt _ (by omega)
      show 1 ≤ 1 + x / 64 % 26 ∧ 1 + x / 64 % 26 ≤ 26
      omega
    have hf : x % 6 < 6 := Nat.mod_lt _ (by omega)
    have hQ : AQ n (yrA st.2 x) (x % 6) (1 + x / 8 % aSize st.2) := ⟨hAy, e, h3, by omega, by show _ ≤ aSize st.2; omega⟩
    exact ⟨⟨spApp_inv hQ hf hL, AF.num (A := yrA st.2 x) ⟨h2, h3, h4, h5⟩ (app_num hf hL hQ)⟩, by dsimp only; split <;> omega⟩
  · exact ⟨⟨hAy.mono (by omega), h2, h3, h4, h5⟩, by dsimp only; omega⟩
theorem nx_lt {x : Nat} : nxX x < 2147483647 := Nat.mod_lt _ (by omega)
theorem gdL_nI {α : Type} {s : Nat} {K : Option α} (h : 0 < s) (hs : s < 2 ^ 31) : gdL (lN s) K = K := gdL_do (fun q => by
  have := (lN_eq (a := s) (b := 0) hs (by omega)).mp q
  omega)
theorem live_c {A : AH} {v : HS} {n k x : Nat} (h : RC A v) (hY : YQ n A) (hn : n + 6 * k + 20 ≤ 8000) (hk : k ≤ 12) (hx : x < 2147483647) : ∃ v', f_X4_liveYears v (nI k) (nI x) = some (nI (yrN k x (0, A)).1, v') ∧ RC (yrN k x (0, A)).2 v' := by
  have h5 : nS A ≤ 5 := hY.1.1
  have h9 : aSize A ≤ 9 := hY.1.2.2.1
  have hw : v.2.2.2.2.2.1.1 = nI (nS A) := h.2.1.1
  have hz : v.2.1 = nI (aSize A) := h.1.2.1
  have hf1 : 2 ≤ nS A := hY.2.1
  have hf2 : 4 ≤ aSize A := hY.2.2.2.1
  simp (disch := omega) only [u_X4_liveYears, hw, hz, ↓reduceIte, bt_do, bd_do, jn_eq, bI_z, gd_nI, gd_0, gd_1, nI_clamp, nI_add, nI_1, pk_mul, Nat.add_zero, Nat.zero_add, ile_t, ile_f, ilt_t, ilt_f, ieq_t, ieq_f, iz_t, iz_f, ilt0, ige0, im1, Bool.false_eq_true, Bool.true_eq_false, if_true, if_false, nI_l]
  generalize hres : yrN k x (0, A) = res
  refine lp_gen (fun i z => ∃ x st w ar, z = (lN x, nI st.1, nI i, w, ar) ∧ x < 2147483647 ∧ RC st.2 w ∧ YQ (n + 6 * i) st.2 ∧ yrN (k - i) x st = res) (fun X => ∃ v', X = some (nI res.1, v') ∧ RC res.2 v') k (by omega) ⟨x, (0, A), v, z32, rfl, hx, h, hY, hres⟩ ?_ ?_
  · rintro i z hi ⟨x, st, w, ar, rfl, hx, hR, hY, hr⟩
    left
    rw [show k - i = (k - (i + 1)) + 1 by omega, yrN] at hr
    obtain ⟨hA, h2, h3, h4, h6⟩ := hY
    have hn5 : nS st.2 ≤ 5 := hA.1
    have hz9 : aSize st.2 ≤ 9 := hA.2.2.1
    obtain ⟨hYn, _⟩ := yr_inv (x := nxX x) (st := st) ⟨hA, h2, h3, h4, h6⟩
    have hmul := lN_mul x 16807
    have hrem := pk_lRem (a := x * 16807) (b := 2147483647) (by omega) (by omega) (by omega)
    have hnx : x * 16807 % 2147483647 = nxX x := rfl
    rw [hnx] at hrem
    have hxl := nx_lt (x := x)
    generalize nxX x = y at *
    have hsv : w.2.2.2.2.2.1.1 = nI (nS st.2) := hR.2.1.1
    have hsz : w.2.1 = nI (aSize st.2) := hR.1.2.1
    have d1 := pk_lDiv (a := y) (b := 128) (by omega) (by omega) (by omega)
    have r1 := pk_lRem (a := y / 128) (b := nS st.2) (by omega) (by omega) (by omega)
    have r2 := pk_lRem (a := y) (b := 6) (by omega) (by omega) (by omega)
    have d3 := pk_lDiv (a := y) (b := 8) (by omega) (by omega) (by omega)
    have r3 := pk_lRem (a := y / 8) (b := aSize st.2) (by omega) (by omega) (by omega)
    have d4 := pk_lDiv (a := y) (b := 64) (by omega) (by omega) (by omega)
    have r4 := pk_lRem (a := y / 64) (b := 26) (by omega) (by omega) (by omega)
    have hs : y / 128 % nS st.2 < nS st.2 := Nat.mod_lt _ (by omega)
    have hf : y % 6 < 6 := Nat.mod_lt _ (by omega)
    have hk8 : y / 8 % aSize st.2 < aSize st.2 := Nat.mod_lt _ (by omega)
    have hl26 : y / 64 % 26 < 26 := Nat.mod_lt _ (by omega)
    obtain ⟨sy, hsy, hRs⟩ := yr_spo_c hR hA hs
    have hRy : RC (yrA st.2 y) (hSV w sy) := hRs
    obtain ⟨ar', har, harv⟩ := fill_c (n := 9) (by omega) ar (nI (97 + y / 64 % 26))
    have hfl := hA.2.2.2.2.2.2.2.2.2.2.1 (y % 6) hf
    have his := is_c hR (w := 1) hf hfl.1 (by omega)
    by_cases e : aIs st.2 (y % 6) = 1
    · rw [decide_eq_true e] at his
      have hL : LK (1 + y / 8 % aSize st.2) (fun _ => 1 + y / 64 % 26) := fun j _ => by
        show 1 ≤ 1 + y / 64 % 26 ∧ 1 + y / 64 % 26 ≤ 26
        omega
      have hAy : AI (n + 6 * i) (yrA st.2 y) := hA.spo (by omega)
      have hQ : AQ (n + 6 * i) (yrA st.2 y) (y % 6) (1 + y / 8 % aSize st.2) := ⟨hAy, e, h3, by omega, by show _ ≤ aSize st.2; omega⟩
      obtain ⟨w', hw', hR'⟩ := addRecord_c (n2 := 9) (v2 := ar') hf hL (by omega) (by omega) (fun j hj => by
        rw [harv j (by omega), cv_L (hL j hj)]
        show nI (97 + y / 64 % 26) = nI (96 + (1 + y / 64 % 26))
        rw [← Nat.add_assoc]) hRy hQ (by omega)
      by_cases e2 : (spApp (yrA st.2 y) (y % 6) (1 + y / 8 % aSize st.2) (fun _ => 1 + y / 64 % 26)).1 < 0
      · have hyr : yrS y st = (st.1, (spApp (yrA st.2 y) (y % 6) (1 + y / 8 % aSize st.2) (fun _ => 1 + y / 64 % 26)).2) := by
          unfold yrS
          rw [if_pos e, if_pos e2]
          rfl
        rw [hyr] at hr hYn
        refine ⟨(lN y, nI st.1, nI (i + 1), w', ar'), ⟨y, (st.1, (spApp (yrA st.2 y) (y % 6) (1 + y / 8 % aSize st.2) (fun _ => 1 + y / 64 % 26)).2), w', ar', rfl, hxl, hR', by rw [show n + 6 * (i + 1) = n + 6 * i + 6 by omega]; exact hYn, hr⟩, fun rec => ?_⟩
        simp only [ubX4_liveYears_3, hmul, hrem]
        simp (disch := omega) only [gdL_nI, hsv, hsz, nI_l, d1, d3, d4, ↓reduceIte, bt_do, bd_do, jn_eq, bI_z, gd_nI, gd_0, gd_1, nI_clamp, nI_add, nI_1, pk_mul, Nat.add_zero, Nat.zero_add, ile_t, ile_f, ilt_t, ilt_f, ieq_t, ieq_f, iz_t, iz_f, ilt0, ige0, im1, Bool.false_eq_true, Bool.true_eq_false, if_true, if_false]
        simp (disch := omega) only [r1, r2, r3, r4, lN_i, hsy, har, his, ↓reduceIte, bt_do, bd_do, jn_eq, bI_z, gd_nI, gd_0, gd_1, nI_clamp, nI_add, nI_1, pk_mul, Nat.add_zero, Nat.zero_add, ile_t, ile_f, ilt_t, ilt_f, ieq_t, ieq_f, iz_t, iz_f, ilt0, ige0, im1, Bool.false_eq_true, Bool.true_eq_false, if_true, if_false]
        simp only [hSV, hsz] at hw'
        simp (disch := omega) only [hw', e2, ↓reduceIte, bt_do, bd_do, jn_eq, bI_z, gd_nI, gd_0, gd_1, nI_clamp, nI_add, nI_1, pk_mul, Nat.add_zero, Nat.zero_add, ile_t, ile_f, ilt_t, ilt_f, ieq_t, ieq_f, iz_t, iz_f, ilt0, ige0, im1, Bool.false_eq_true, Bool.true_eq_false, if_true, if_false]
      · have hyr : yrS y st = (st.1 + 1, (spApp (yrA st.2 y) (y % 6) (1 + y / 8 % aSize st.2) (fun _ => 1 + y / 64 % 26)).2) := by
          unfold yrS
          rw [if_pos e, if_neg e2]
        rw [hyr] at hr hYn
        refine ⟨(lN y, nI (st.1 + 1), nI (i + 1), w', ar'), ⟨y, (st.1 + 1, (spApp (yrA st.2 y) (y % 6) (1 + y / 8 % aSize st.2) (fun _ => 1 + y / 64 % 26)).2), w', ar', rfl, hxl, hR', by rw [show n + 6 * (i + 1) = n + 6 * i + 6 by omega]; exact hYn, hr⟩, fun rec => ?_⟩
        simp only [ubX4_liveYears_3, hmul, hrem]
        simp (disch := omega) only [gdL_nI, hsv, hsz, nI_l, d1, d3, d4, ↓reduceIte, bt_do, bd_do, jn_eq, bI_z, gd_nI, gd_0, gd_1, nI_clamp, nI_add, nI_1, pk_mul, Nat.add_zero, Nat.zero_add, ile_t, ile_f, ilt_t, ilt_f, ieq_t, ieq_f, iz_t, iz_f, ilt0, ige0, im1, Bool.false_eq_true, Bool.true_eq_false, if_true, if_false]
        simp (disch := omega) only [r1, r2, r3, r4, lN_i, hsy, har, his, ↓reduceIte, bt_do, bd_do, jn_eq, bI_z, gd_nI, gd_0, gd_1, nI_clamp, nI_add, nI_1, pk_mul, Nat.add_zero, Nat.zero_add, ile_t, ile_f, ilt_t, ilt_f, ieq_t, ieq_f, iz_t, iz_f, ilt0, ige0, im1, Bool.false_eq_true, Bool.true_eq_false, if_true, if_false]
        simp only [hSV, hsz] at hw'
        simp (disch := omega) only [hw', e2, ↓reduceIte, bt_do, bd_do, jn_eq, bI_z, gd_nI, gd_0, gd_1, nI_clamp, nI_add, nI_1, pk_mul, Nat.add_zero, Nat.zero_add, ile_t, ile_f, ilt_t, ilt_f, ieq_t, ieq_f, iz_t, iz_f, ilt0, ige0, im1, Bool.false_eq_true, Bool.true_eq_false, if_true, if_false]
    · rw [decide_eq_false e] at his
      have hyr : yrS y st = (st.1, yrA st.2 y) := by
        unfold yrS
        rw [if_neg e]
      rw [hyr] at hr hYn
      refine ⟨(lN y, nI st.1, nI (i + 1), hSV w sy, ar'), ⟨y, (st.1, yrA st.2 y), hSV w sy, ar', rfl, hxl, hRy, by rw [show n + 6 * (i + 1) = n + 6 * i + 6 by omega]; exact hYn, hr⟩, fun rec => ?_⟩
      simp only [ubX4_liveYears_3, hmul, hrem]
      simp (disch := omega) only [gdL_nI, hsv, hsz, nI_l, d1, d3, d4, ↓reduceIte, bt_do, bd_do, jn_eq, bI_z, gd_nI, gd_0, gd_1, nI_clamp, nI_add, nI_1, pk_mul, Nat.add_zero, Nat.zero_add, ile_t, ile_f, ilt_t, ilt_f, ieq_t, ieq_f, iz_t, iz_f, ilt0, ige0, im1, Bool.false_eq_true, Bool.true_eq_false, if_true, if_false]
      simp (disch := omega) only [r1, r2, r3, r4, lN_i, hsy, har, his, hSV, hsz, ↓reduceIte, bt_do, bd_do, jn_eq, bI_z, gd_nI, gd_0, gd_1, nI_clamp, nI_add, nI_1, pk_mul, Nat.add_zero, Nat.zero_add, ile_t, ile_f, ilt_t, ilt_f, ieq_t, ieq_f, iz_t, iz_f, ilt0, ige0, im1, Bool.false_eq_true, Bool.true_eq_false, if_true, if_false]
  · rintro z ⟨x, st, w, ar, rfl, hx, hR, hY, hr⟩
    rw [Nat.sub_self, yrN] at hr
    subst hr
    refine ⟨_, ⟨w, rfl, hR⟩, fun rec => ?_⟩
    simp (disch := omega) only [ubX4_liveYears_3, ↓reduceIte, bt_do, bd_do, jn_eq, bI_z, gd_nI, gd_0, gd_1, nI_clamp, nI_add, nI_1, pk_mul, Nat.add_zero, Nat.zero_add, ile_t, ile_f, ilt_t, ilt_f, ieq_t, ieq_f, iz_t, iz_f, ilt0, ige0, im1, Bool.false_eq_true, Bool.true_eq_false, if_true, if_false]
def fillR (rc : Nat → Int32) (m : Nat) (x : Int32) (i : Nat) : Int32 := if i < m then x else rc i
theorem fillR_s (rc : Nat → Int32) (m : Nat) (x : Int32) : upd (fillR rc m x) m x = fillR rc (m + 1) x := by
  funext j
  unfold fillR
  by_cases e : j = m
  · rw [e, pk_us, if_pos (by omega)]
  · rw [pk_un e]
    by_cases e2 : j < m
    · rw [if_pos e2, if_pos (by omega)]
    · rw [if_neg e2, if_neg (by omega)]
theorem fillR_0 (rc : Nat → Int32) (x : Int32) : fillR rc 0 x = rc := by
  funext j
  unfold fillR
  rw [if_neg (by omega)]
theorem draw_fill (K2 : (Int32 × MD) → Option (Int32 × MD)) {y m : Nat} (hy : y < 2147483647) (hm : m ≤ 9) (a1 a2 a3 : Nat → Int64) (a4 : Int32) (a5 : Nat → Int64) (a6 a7 : Nat → Int32) (a8 a9 a10 a11 a12 a13 a14 a15 : Int32) (rc : Nat → Int32) : lpF (bX11_drawn_30 (lN y) K2) FU (nI 0, (a1, a2, a3, a4, a5, a6, a7, a8, a9, a10, a11, a12, a13, a14, a15, rc, nI m)) = K2 (nI m, (a1, a2, a3, a4, a5, a6, a7, a8, a9, a10, a11, a12, a13, a14, a15, fillR rc m (nI (1 + y / 64 % 26)), nI m)) := by
  have d4 := pk_lDiv (a := y) (b := 64) (by omega) (by omega) (by omega)
  have r4 := pk_lRem (a := y / 64) (b := 26) (by omega) (by omega) (by omega)
  have key := lp_ind (b := bX11_drawn_30 (lN y) K2) (X := K2 (nI m, (a1, a2, a3, a4, a5, a6, a7, a8, a9, a10, a11, a12, a13, a14, a15, fillR rc m (nI (1 + y / 64 % 26)), nI m))) (fun j => (nI j, (a1, a2, a3, a4, a5, a6, a7, a8, a9, a10, a11, a12, a13, a14, a15, fillR rc j (nI (1 + y / 64 % 26)), nI m))) m (by omega) (fun rec => ?_) (fun rec j hj => ?_)
  · rw [fillR_0] at key
    exact key
  · simp (disch := omega) only [ubX11_drawn_30, ↓reduceIte, bt_do, bd_do, jn_eq, bI_z, gd_nI, gd_0, gd_1, nI_clamp, nI_add, nI_1, pk_mul, Nat.add_zero, Nat.zero_add, ile_t, ile_f, ilt_t, ilt_f, ieq_t, ieq_f, iz_t, iz_f, ilt0, ige0, im1, Bool.false_eq_true, Bool.true_eq_false, if_true, if_false]
  · simp (disch := omega) only [ubX11_drawn_30, gdL_nI, d4, ↓reduceIte, bt_do, bd_do, jn_eq, bI_z, gd_nI, gd_0, gd_1, nI_clamp, nI_add, nI_1, pk_mul, Nat.add_zero, Nat.zero_add, ile_t, ile_f, ilt_t, ilt_f, ieq_t, ieq_f, iz_t, iz_f, ilt0, ige0, im1, Bool.false_eq_true, Bool.true_eq_false, if_true, if_false]
    simp (disch := omega) only [r4, lN_i, fillR_s, ↓reduceIte, bt_do, bd_do, jn_eq, bI_z, gd_nI, gd_0, gd_1, nI_clamp, nI_add, nI_1, pk_mul, Nat.add_zero, Nat.zero_add, ile_t, ile_f, ilt_t, ilt_f, ieq_t, ieq_f, iz_t, iz_f, ilt0, ige0, im1, Bool.false_eq_true, Bool.true_eq_false, if_true, if_false]
theorem draw_t {K7 rec7 : (Int64 × Int32 × Int32 × MD) → Option (Int32 × MD)} {x y s0 f0 k0 ns sz p p' k cnt i : Nat} {w : Nat → Int64} (hi : i < k) (hk : k ≤ 12) (hy : y < 2147483647) (hs0 : s0 < 5) (hf0 : f0 < 6) (hk0 : 1 + k0 ≤ 9) (hns : 0 < ns ∧ ns < 100) (hsz : 0 < sz ∧ sz < 100) (e0 : lN x * lN 16807 - lN x * lN 16807 / lN 2147483647 * lN 2147483647 = lN y) (e1 : lN y / lN 128 - lN y / lN 128 / lN ns * lN ns = lN s0) (e2 : lN y - lN y / lN 6 * lN 6 = lN f0) (e3 : lN y / lN 8 - lN y / lN 8 / lN sz * lN sz = lN k0) (h0 : w 0 = lN ns) (h2 : w 2 = lN sz) (hp : w (7 + 3 * s0 + 2) = lN p) (hp' : lN p + (if 0 ≤ lg_cmp (lN p) (lN 9) then lN 0 else lN 1) = lN p') (his : w (22 + 8 * f0) = lN 1) (a1 a3 : Nat → Int64) (a4 : Int32) (a5 : Nat → Int64) (a6 a7 : Nat → Int32) (a8 a9 a10 a11 a12 a13 a14 a15 : Int32) (rc : Nat → Int32) (le : Int32) : bX11_drawn_7 (nI k) K7 rec7 (lN x, nI cnt, nI i, (a1, w, a3, a4, a5, a6, a7, a8, a9, a10, a11, a12, a13, a14, a15, rc, le)) = bd (f_X11_appends (a1, vp_updL w (7 + 3 * s0 + 2) (lN p'), a3, a4, a5, a6, a7, a8, a9, a10, a11, a12, a13, a14, a15, fillR rc (1 + k0) (nI (1 + y / 64 % 26)), nI (1 + k0)) (vp_updL w (7 + 3 * s0 + 2) (lN p')) (nI f0)) (fun r31 => if r31.1 < 0 then (rec7 (lN y, nI cnt, nI (i + 1), (a1, r31.2, a3, a4, a5, a6, a7, a8, a9, a10, a11, a12, a13, a14, a15, fillR rc (1 + k0) (nI (1 + y / 64 % 26)), nI (1 + k0)))) else (rec7 (lN y, nI (cnt + 1), nI (i + 1), (a1, r31.2, a3, a4, a5, a6, a7, a8, a9, a10, a11, a12, a13, a14, a15, fillR rc (1 + k0) (nI (1 + y / 64 % 26)), nI (1 + k0))))) := by
  simp only [ubX11_drawn_7, e0]
  simp (disch := omega) only [gdL_nI, h0, e1, e2, lN_i, ↓reduceIte, bt_do, bd_do, jn_eq, bI_z, gd_nI, gd_0, gd_1, nI_clamp, nI_add, nI_1, pk_mul, Nat.add_zero, Nat.zero_add, ile_t, ile_f, ilt_t, ilt_f, ieq_t, ieq_f, iz_t, iz_f, ilt0, ige0, im1, Bool.false_eq_true, Bool.true_eq_false, if_true, if_false]
  simp (disch := omega) only [hp, hp', pk_uLn, his, h2, e3, lN_i, gdL_nI, ↓reduceIte, bt_do, bd_do, jn_eq, bI_z, gd_nI, gd_0, gd_1, nI_clamp, nI_add, nI_1, pk_mul, Nat.add_zero, Nat.zero_add, ile_t, ile_f, ilt_t, ilt_f, ieq_t, ieq_f, iz_t, iz_f, ilt0, ige0, im1, Bool.false_eq_true, Bool.true_eq_false, if_true, if_false, lc_ge_t, lc_ge_f, lc_eq_t, lc_eq_f, lc_le_t, lc_le_f, lc_gt_t, lc_gt_f, lc_lt_t, lc_lt_f, nI_l, lN_i, lN_add, lN_1]
  rw [draw_fill _ hy hk0]
theorem draw_f {K7 rec7 : (Int64 × Int32 × Int32 × MD) → Option (Int32 × MD)} {x y s0 f0 ns p p' k cnt i q : Nat} {w : Nat → Int64} (hi : i < k) (hk : k ≤ 12) (hs0 : s0 < 5) (hf0 : f0 < 6) (hns : 0 < ns ∧ ns < 100) (e0 : lN x * lN 16807 - lN x * lN 16807 / lN 2147483647 * lN 2147483647 = lN y) (e1 : lN y / lN 128 - lN y / lN 128 / lN ns * lN ns = lN s0) (e2 : lN y - lN y / lN 6 * lN 6 = lN f0) (h0 : w 0 = lN ns) (hp : w (7 + 3 * s0 + 2) = lN p) (hp' : lN p + (if 0 ≤ lg_cmp (lN p) (lN 9) then lN 0 else lN 1) = lN p') (his : w (22 + 8 * f0) = lN q) (hq : ¬ q = 1) (hq2 : q < 100) (a1 a3 : Nat → Int64) (a4 : Int32) (a5 : Nat → Int64) (a6 a7 : Nat → Int32) (a8 a9 a10 a11 a12 a13 a14 a15 : Int32) (rc : Nat → Int32) (le : Int32) : bX11_drawn_7 (nI k) K7 rec7 (lN x, nI cnt, nI i, (a1, w, a3, a4, a5, a6, a7, a8, a9, a10, a11, a12, a13, a14, a15, rc, le)) = rec7 (lN y, nI cnt, nI (i + 1), (a1, vp_updL w (7 + 3 * s0 + 2) (lN p'), a3, a4, a5, a6, a7, a8, a9, a10, a11, a12, a13, a14, a15, rc, le)) := by
  simp only [ubX11_drawn_7, e0]
  simp (disch := omega) only [gdL_nI, h0, e1, e2, lN_i, ↓reduceIte, bt_do, bd_do, jn_eq, bI_z, gd_nI, gd_0, gd_1, nI_clamp, nI_add, nI_1, pk_mul, Nat.add_zero, Nat.zero_add, ile_t, ile_f, ilt_t, ilt_f, ieq_t, ieq_f, iz_t, iz_f, ilt0, ige0, im1, Bool.false_eq_true, Bool.true_eq_false, if_true, if_false]
  simp (disch := omega) only [hp, hp', pk_uLn, his, ↓reduceIte, bt_do, bd_do, jn_eq, bI_z, gd_nI, gd_0, gd_1, nI_clamp, nI_add, nI_1, pk_mul, Nat.add_zero, Nat.zero_add, ile_t, ile_f, ilt_t, ilt_f, ieq_t, ieq_f, iz_t, iz_f, ilt0, ige0, im1, Bool.false_eq_true, Bool.true_eq_false, if_true, if_false, lc_ge_t, lc_ge_f, lc_eq_t, lc_eq_f, lc_le_t, lc_le_f, lc_gt_t, lc_gt_f, lc_lt_t, lc_lt_f, nI_l, lN_i, lN_add, lN_1]
theorem drawn_loop_m {A : AH} {b : Nat → Int64} {md : MD} {n k x : Nat} (h : RM A b) (hY : YQ n A) (hn : n + 6 * k + 20 ≤ 8000) (hk : k ≤ 12) (hx : x < 2147483647) (K : (Int64 × Int32 × Int32 × MD) → Option (Int32 × MD)) : ∃ (b' : Nat → Int64) (x' : Int64) (rc : Nat → Int32) (le : Int32), lpF (bX11_drawn_7 (nI k) K) FU (lN x, nI 0, nI 0, (md.1, b, md.2.2)) = K (x', nI (yrN k x (0, A)).1, nI k, (md.1, b', md.2.2.1, md.2.2.2.1, md.2.2.2.2.1, md.2.2.2.2.2.1, md.2.2.2.2.2.2.1, md.2.2.2.2.2.2.2.1, md.2.2.2.2.2.2.2.2.1, md.2.2.2.2.2.2.2.2.2.1, md.2.2.2.2.2.2.2.2.2.2.1, md.2.2.2.2.2.2.2.2.2.2.2.1, md.2.2.2.2.2.2.2.2.2.2.2.2.1, md.2.2.2.2.2.2.2.2.2.2.2.2.2.1, md.2.2.2.2.2.2.2.2.2.2.2.2.2.2.1, rc, le)) ∧ RM (yrN k x (0, A)).2 b' := by
  generalize hres : yrN k x (0, A) = res
  refine lp_gen (fun i z => ∃ x st w rc le, z = (lN x, nI st.1, nI i, (md.1, w, md.2.2.1, md.2.2.2.1, md.2.2.2.2.1, md.2.2.2.2.2.1, md.2.2.2.2.2.2.1, md.2.2.2.2.2.2.2.1, md.2.2.2.2.2.2.2.2.1, md.2.2.2.2.2.2.2.2.2.1, md.2.2.2.2.2.2.2.2.2.2.1, md.2.2.2.2.2.2.2.2.2.2.2.1, md.2.2.2.2.2.2.2.2.2.2.2.2.1, md.2.2.2.2.2.2.2.2.2.2.2.2.2.1, md.2.2.2.2.2.2.2.2.2.2.2.2.2.2.1, rc, le)) ∧ x < 2147483647 ∧ RM st.2 w ∧ YQ (n + 6 * i) st.2 ∧ yrN (k - i) x st = res) (fun X => ∃ (b' : Nat → Int64) (x' : Int64) (rc : Nat → Int32) (le : Int32), X = K (x', nI res.1, nI k, (md.1, b', md.2.2.1, md.2.2.2.1, md.2.2.2.2.1, md.2.2.2.2.2.1, md.2.2.2.2.2.2.1, md.2.2.2.2.2.2.2.1, md.2.2.2.2.2.2.2.2.1, md.2.2.2.2.2.2.2.2.2.1, md.2.2.2.2.2.2.2.2.2.2.1, md.2.2.2.2.2.2.2.2.2.2.2.1, md.2.2.2.2.2.2.2.2.2.2.2.2.1, md.2.2.2.2.2.2.2.2.2.2.2.2.2.1, md.2.2.2.2.2.2.2.2.2.2.2.2.2.2.1, rc, le)) ∧ RM res.2 b') k (by omega) ⟨x, (0, A), b, md.2.2.2.2.2.2.2.2.2.2.2.2.2.2.2.1, md.2.2.2.2.2.2.2.2.2.2.2.2.2.2.2.2, rfl, hx, h, hY, hres⟩ ?_ ?_
  · rintro i z hi ⟨x, st, w, rc, le, rfl, hx, hR, hY, hr⟩
    left
    rw [show k - i = (k - (i + 1)) + 1 by omega, yrN] at hr
    obtain ⟨hA, h2, h3, h4, h6⟩ := hY
    have h30 : aMade st.2 ≤ 30 := hA.2.2.2.2.2.2.1
    have hn5 : nS st.2 ≤ 5 := hA.1
    have hz9 : aSize st.2 ≤ 9 := hA.2.2.1
    obtain ⟨hYn, _⟩ := yr_inv (x := nxX x) (st := st) ⟨hA, h2, h3, h4, h6⟩
    have hmul := lN_mul x 16807
    have hrem := pk_lRem (a := x * 16807) (b := 2147483647) (by omega) (by omega) (by omega)
    have hnx : x * 16807 % 2147483647 = nxX x := rfl
    rw [hnx] at hrem
    have hxl := nx_lt (x := x)
    generalize nxX x = y at *
    have hsv : w 0 = lN (nS st.2) := hR.1 0 (by omega)
    have hsz : w 2 = lN (aSize st.2) := hR.1 2 (by omega)
    have d1 := pk_lDiv (a := y) (b := 128) (by omega) (by omega) (by omega)
    have r1 := pk_lRem (a := y / 128) (b := nS st.2) (by omega) (by omega) (by omega)
    have r2 := pk_lRem (a := y) (b := 6) (by omega) (by omega) (by omega)
    have d3 := pk_lDiv (a := y) (b := 8) (by omega) (by omega) (by omega)
    have r3 := pk_lRem (a := y / 8) (b := aSize st.2) (by omega) (by omega) (by omega)
    have d4 := pk_lDiv (a := y) (b := 64) (by omega) (by omega) (by omega)
    have r4 := pk_lRem (a := y / 64) (b := 26) (by omega) (by omega) (by omega)
    have hs : y / 128 % nS st.2 < nS st.2 := Nat.mod_lt _ (by omega)
    have hf : y % 6 < 6 := Nat.mod_lt _ (by omega)
    have hk8 : y / 8 % aSize st.2 < aSize st.2 := Nat.mod_lt _ (by omega)
    have hl26 : y / 64 % 26 < 26 := Nat.mod_lt _ (by omega)
    have hspo := (hR.2.1 (y / 128 % nS st.2) (by omega)).2.2
    have hsp9 := (hA.2.2.2.2.2.2.2.1 (y / 128 % nS st.2) (by omega)).2
    have hRy : RM (yrA st.2 y) (vp_updL w (7 + 3 * (y / 128 % nS st.2) + 2) (lN (min (aSpo st.2 (y / 128 % nS st.2) + 1) 9))) := hR.spo h30 (by omega) _
    have hfl := hA.2.2.2.2.2.2.2.2.2.2.1 (y % 6) hf
    have his := (hR.2.2.1 (y % 6) hf).1
    have hsum : lN (aSpo st.2 (y / 128 % nS st.2)) + (if 0 ≤ lg_cmp (lN (aSpo st.2 (y / 128 % nS st.2))) (lN 9) then lN 0 else lN 1) = lN (min (aSpo st.2 (y / 128 % nS st.2) + 1) 9) := by
      by_cases e : aSpo st.2 (y / 128 % nS st.2) = 9
      · rw [show min (aSpo st.2 (y / 128 % nS st.2) + 1) 9 = 9 by omega]
        simp (disch := omega) only [↓reduceIte, bt_do, bd_do, jn_eq, bI_z, gd_nI, gd_0, gd_1, nI_clamp, nI_add, nI_1, pk_mul, Nat.add_zero, Nat.zero_add, ile_t, ile_f, ilt_t, ilt_f, ieq_t, ieq_f, iz_t, iz_f, ilt0, ige0, im1, Bool.false_eq_true, Bool.true_eq_false, if_true, if_false, lc_ge_t, lc_ge_f, lc_eq_t, lc_eq_f, lc_le_t, lc_le_f, lc_gt_t, lc_gt_f, lc_lt_t, lc_lt_f, nI_l, lN_i, lN_add, lN_1, e]
      · rw [show min (aSpo st.2 (y / 128 % nS st.2) + 1) 9 = aSpo st.2 (y / 128 % nS st.2) + 1 by omega]
        simp (disch := omega) only [↓reduceIte, bt_do, bd_do, jn_eq, bI_z, gd_nI, gd_0, gd_1, nI_clamp, nI_add, nI_1, pk_mul, Nat.add_zero, Nat.zero_add, ile_t, ile_f, ilt_t, ilt_f, ieq_t, ieq_f, iz_t, iz_f, ilt0, ige0, im1, Bool.false_eq_true, Bool.true_eq_false, if_true, if_false, lc_ge_t, lc_ge_f, lc_eq_t, lc_eq_f, lc_le_t, lc_le_f, lc_gt_t, lc_gt_f, lc_lt_t, lc_lt_f, nI_l, lN_i, lN_add, lN_1]
    have hE0 : lN x * lN 16807 - lN x * lN 16807 / lN 2147483647 * lN 2147483647 = lN y := by rw [hmul]; exact hrem
    have hE1 : lN y / lN 128 - lN y / lN 128 / lN (nS st.2) * lN (nS st.2) = lN (y / 128 % nS st.2) := by rw [d1]; exact r1
    have hE3 : lN y / lN 8 - lN y / lN 8 / lN (aSize st.2) * lN (aSize st.2) = lN (y / 8 % aSize st.2) := by rw [d3]; exact r3
    by_cases e : aIs st.2 (y % 6) = 1
    · have his1 : w (22 + 8 * (y % 6)) = lN 1 := by rw [his, e]
      have hL : LK (1 + y / 8 % aSize st.2) (fun _ => 1 + y / 64 % 26) := fun j _ => by
        show 1 ≤ 1 + y / 64 % 26 ∧ 1 + y / 64 % 26 ≤ 26
        omega
      have hAy : AI (n + 6 * i) (yrA st.2 y) := hA.spo (by omega)
      have hQ : AQ (n + 6 * i) (yrA st.2 y) (y % 6) (1 + y / 8 % aSize st.2) := ⟨hAy, e, h3, by omega, by show _ ≤ aSize st.2; omega⟩
      obtain ⟨b2, hb2, hR2⟩ := appends_m (md := (md.1, vp_updL w (7 + 3 * (y / 128 % nS st.2) + 2) (lN (min (aSpo st.2 (y / 128 % nS st.2) + 1) 9)), md.2.2.1, md.2.2.2.1, md.2.2.2.2.1, md.2.2.2.2.2.1, md.2.2.2.2.2.2.1, md.2.2.2.2.2.2.2.1, md.2.2.2.2.2.2.2.2.1, md.2.2.2.2.2.2.2.2.2.1, md.2.2.2.2.2.2.2.2.2.2.1, md.2.2.2.2.2.2.2.2.2.2.2.1, md.2.2.2.2.2.2.2.2.2.2.2.2.1, md.2.2.2.2.2.2.2.2.2.2.2.2.2.1, md.2.2.2.2.2.2.2.2.2.2.2.2.2.2.1, fillR rc (1 + y / 8 % aSize st.2) (nI (1 + y / 64 % 26)), nI (1 + y / 8 % aSize st.2))) hf hL rfl (fun j hj => by
        show fillR rc (1 + y / 8 % aSize st.2) (nI (1 + y / 64 % 26)) j = _
        unfold fillR
        rw [if_pos hj]) hRy hQ (by omega)
      by_cases e2 : (spApp (yrA st.2 y) (y % 6) (1 + y / 8 % aSize st.2) (fun _ => 1 + y / 64 % 26)).1 < 0
      · have hyr : yrS y st = (st.1, (spApp (yrA st.2 y) (y % 6) (1 + y / 8 % aSize st.2) (fun _ => 1 + y / 64 % 26)).2) := by
          unfold yrS
          rw [if_pos e, if_pos e2]
          rfl
        rw [hyr] at hr hYn
        refine ⟨(lN y, nI st.1, nI (i + 1), (md.1, b2, md.2.2.1, md.2.2.2.1, md.2.2.2.2.1, md.2.2.2.2.2.1, md.2.2.2.2.2.2.1, md.2.2.2.2.2.2.2.1, md.2.2.2.2.2.2.2.2.1, md.2.2.2.2.2.2.2.2.2.1, md.2.2.2.2.2.2.2.2.2.2.1, md.2.2.2.2.2.2.2.2.2.2.2.1, md.2.2.2.2.2.2.2.2.2.2.2.2.1, md.2.2.2.2.2.2.2.2.2.2.2.2.2.1, md.2.2.2.2.2.2.2.2.2.2.2.2.2.2.1, fillR rc (1 + y / 8 % aSize st.2) (nI (1 + y / 64 % 26)), nI (1 + y / 8 % aSize st.2))), ⟨y, (st.1, (spApp (yrA st.2 y) (y % 6) (1 + y / 8 % aSize st.2) (fun _ => 1 + y / 64 % 26)).2), b2, fillR rc (1 + y / 8 % aSize st.2) (nI (1 + y / 64 % 26)), nI (1 + y / 8 % aSize st.2), rfl, hxl, hR2, by rw [show n + 6 * (i + 1) = n + 6 * i + 6 by omega]; exact hYn, hr⟩, fun rec => ?_⟩
        rw [draw_t hi hk hxl (by omega) hf (by omega) ⟨by omega, by omega⟩ ⟨by omega, by omega⟩ hE0 hE1 r2 hE3 hsv hsz hspo hsum his1, bd_at hb2]
        simp only [e2, if_true, if_false]
      · have hyr : yrS y st = (st.1 + 1, (spApp (yrA st.2 y) (y % 6) (1 + y / 8 % aSize st.2) (fun _ => 1 + y / 64 % 26)).2) := by
          unfold yrS
          rw [if_pos e, if_neg e2]
        rw [hyr] at hr hYn
        refine ⟨(lN y, nI (st.1 + 1), nI (i + 1), (md.1, b2, md.2.2.1, md.2.2.2.1, md.2.2.2.2.1, md.2.2.2.2.2.1, md.2.2.2.2.2.2.1, md.2.2.2.2.2.2.2.1, md.2.2.2.2.2.2.2.2.1, md.2.2.2.2.2.2.2.2.2.1, md.2.2.2.2.2.2.2.2.2.2.1, md.2.2.2.2.2.2.2.2.2.2.2.1, md.2.2.2.2.2.2.2.2.2.2.2.2.1, md.2.2.2.2.2.2.2.2.2.2.2.2.2.1, md.2.2.2.2.2.2.2.2.2.2.2.2.2.2.1, fillR rc (1 + y / 8 % aSize st.2) (nI (1 + y / 64 % 26)), nI (1 + y / 8 % aSize st.2))), ⟨y, ((st.1 + 1), (spApp (yrA st.2 y) (y % 6) (1 + y / 8 % aSize st.2) (fun _ => 1 + y / 64 % 26)).2), b2, fillR rc (1 + y / 8 % aSize st.2) (nI (1 + y / 64 % 26)), nI (1 + y / 8 % aSize st.2), rfl, hxl, hR2, by rw [show n + 6 * (i + 1) = n + 6 * i + 6 by omega]; exact hYn, hr⟩, fun rec => ?_⟩
        rw [draw_t hi hk hxl (by omega) hf (by omega) ⟨by omega, by omega⟩ ⟨by omega, by omega⟩ hE0 hE1 r2 hE3 hsv hsz hspo hsum his1, bd_at hb2]
        simp only [e2, if_true, if_false]
    · have hyr : yrS y st = (st.1, yrA st.2 y) := by
        unfold yrS
        rw [if_neg e]
      rw [hyr] at hr hYn
      refine ⟨(lN y, nI st.1, nI (i + 1), (md.1, vp_updL w (7 + 3 * (y / 128 % nS st.2) + 2) (lN (min (aSpo st.2 (y / 128 % nS st.2) + 1) 9)), md.2.2.1, md.2.2.2.1, md.2.2.2.2.1, md.2.2.2.2.2.1, md.2.2.2.2.2.2.1, md.2.2.2.2.2.2.2.1, md.2.2.2.2.2.2.2.2.1, md.2.2.2.2.2.2.2.2.2.1, md.2.2.2.2.2.2.2.2.2.2.1, md.2.2.2.2.2.2.2.2.2.2.2.1, md.2.2.2.2.2.2.2.2.2.2.2.2.1, md.2.2.2.2.2.2.2.2.2.2.2.2.2.1, md.2.2.2.2.2.2.2.2.2.2.2.2.2.2.1, rc, le)), ⟨y, (st.1, yrA st.2 y), vp_updL w (7 + 3 * (y / 128 % nS st.2) + 2) (lN (min (aSpo st.2 (y / 128 % nS st.2) + 1) 9)), rc, le, rfl, hxl, hRy, by rw [show n + 6 * (i + 1) = n + 6 * i + 6 by omega]; exact hYn, hr⟩, fun rec => ?_⟩
      exact draw_f hi hk (by omega) hf ⟨by omega, by omega⟩ hE0 hE1 r2 hsv hspo hsum his e (by omega) _ _ _ _ _ _ _ _ _ _ _ _ _ _ _ _
  · rintro z ⟨x, st, w, rc, le, rfl, hx, hR, hY, hr⟩
    rw [Nat.sub_self, yrN] at hr
    subst hr
    refine ⟨_, ⟨w, lN x, rc, le, rfl, hR⟩, fun rec => ?_⟩
    simp (disch := omega) only [ubX11_drawn_7, ↓reduceIte, bt_do, bd_do, jn_eq, bI_z, gd_nI, gd_0, gd_1, nI_clamp, nI_add, nI_1, pk_mul, Nat.add_zero, Nat.zero_add, ile_t, ile_f, ilt_t, ilt_f, ieq_t, ieq_f, iz_t, iz_f, ilt0, ige0, im1, Bool.false_eq_true, Bool.true_eq_false, if_true, if_false]
