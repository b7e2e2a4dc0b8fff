/-! PURE 93: a record appended: the model; both whole -/
def fresh (A : AH) (f : Nat) : Prop := ∀ s q, aCp A (lst A f) s = some q → q.2.1 = 0
theorem fresh_new (A : AH) (f : Nat) : fresh (spNew A f) f := by
  intro s q e
  rw [(new_files A f).2.2.2.2] at e
  have e : upO (aCp A) (aMade A) (nwG (aTg A (aKind A f))) (aMade A) s = some q := e
  rw [up_s] at e
  unfold nwG at e
  split at e
  · cases e; rfl
  · cases e
theorem gf_0 {A : AH} {c : Nat} (h : ∀ s q, aCp A c s = some q → q.2.1 = 0) : aGf A c = 0 := by
  have hf : ∀ s, aFil A c s = 0 := by
    intro s
    unfold aFil
    cases hq : aCp A c s with
    | none => rfl
    | some q => exact h s q hq
  have key : ∀ s, gfN A c s = 0 := by
    intro s
    induction s with
    | zero => rfl
    | succ s ih =>
      rw [gfN, ih, hf]
      split <;> rfl
  exact key 5
theorem fresh_gf {A : AH} {f : Nat} (h : fresh A f) : aGf (apA A f) (lst A f) = 0 := by
  apply gf_0
  intro s q e
  unfold apA at e
  by_cases eh : aHold A (lst A f) = true
  · rw [if_pos eh] at e; exact h s q e
  · rw [if_neg eh] at e
    have e : upO (aCp A) (lst A f) (lsG A (lst A f)) (lst A f) s = some q := e
    rw [up_s] at e
    unfold lsG at e
    split at e
    · cases hq : aCp A (lst A f) s with
      | none => rw [hq] at e; cases e
      | some q0 =>
        rw [hq] at e
        cases e
        exact h s q0 hq
    · exact h s q e
theorem appends_loop {f k : Nat} {md : MD} {L : Nat → Nat} (hf : f < 6) (hL : LK k L) (hl : md.2.2.2.2.2.2.2.2.2.2.2.2.2.2.2.2 = nI k) (hrec : ∀ j, j < k → md.2.2.2.2.2.2.2.2.2.2.2.2.2.2.2.1 j = nI (L j)) {A : AH} {b : Nat → Int64} {n : Nat} {rc : Int32} (h : RM A b) (hP : AP n A f k) (hn : n + 10 ≤ 8000) : ∃ b', lpF (bX11_appends_3 (nI f) md (fun q3 : Int32 × Int32 × (Nat → Int64) => if q3.1 = 0 then (some (((-1000005) : Int32), q3.2.2)) else (some (q3.1, q3.2.2)))) FU (rc, nI 0, b) = some ((apL f k L 6 rc 0 A).1, b') ∧ RM (apL f k L 6 rc 0 A).2 b' := by
  generalize hres : apL f k L 6 rc 0 A = res
  refine lp_gen (fun i q => ∃ rc t A b, q = (rc, nI t, b) ∧ t ≤ 3 ∧ RM A b ∧ AP (n + i) A f k ∧ apL f k L (6 - i) rc t A = res ∧ (¬ rc = 0 ∨ 2 * (3 - t) ≤ 6 - i ∨ (2 * (3 - t) ≤ 6 - i + 1 ∧ fresh A f))) (fun X => ∃ b', X = some (res.1, b') ∧ RM res.2 b') 6 (by omega) ⟨rc, 0, A, b, rfl, by omega, h, hP, hres, Or.inr (Or.inl (by omega))⟩ ?_ ?_
  · rintro i q hi ⟨rc, t, A, b, rfl, ht, h, hP, hres, hfu⟩
    have hA := hP.1
    have h9 : aSize A ≤ 9 := hA.2.2.1
    have h4 := (hA.2.2.2.2.2.2.2.2.2.2.1 f hf).2.1
    by_cases e2 : rc = 0
    · subst e2
      by_cases e1 : 3 ≤ t
      · right
        rw [apL_3 e1] at hres
        subst hres
        refine ⟨_, ⟨b, rfl, h⟩, fun rec => ?_⟩
        simp (disch := omega) only [ubX11_appends_3, exitR, ↓reduceIte, bt_do, bd_do, jn_eq, bI_z, gd_nI, gd_0, gd_1, nI_clamp, nI_add, nI_1, pk_mul, Nat.add_zero, Nat.zero_add, ile_t, ile_f, ilt_t, ilt_f, ieq_t, ieq_f, iz_t, iz_f, ilt0, ige0, im1, Bool.false_eq_true, Bool.true_eq_false, if_true, if_false]
      · rw [show 6 - i = 5 - i + 1 by omega, apL, if_neg e1, if_pos rfl] at hres
        have hm1 := hP.2.2.1
        have hcl := lst_lt hA hf hm1
        have hlast := last_m h hA hf hm1
        have hhold := holds_m h hA (by omega) hcl
        by_cases e3 : aHold A (lst A f) = true ∨ any5 (aAble A (lst A f)) = true
        · rw [if_pos e3] at hres
          have hP1 := hP.ape hf e3
          obtain ⟨f1, f2, f3, f4, f5, f6⟩ := apA_files A f
          have hsz : aSize (apA A f) = aSize A := congrFun f1 2
          have hmd : aMade (apA A f) = aMade A := congrFun f1 6
          have hma : aMany (apA A f) f = aMany A f := congrFun f4 f
          have hc1 : lst A f < aMade (apA A f) := by rw [hmd]; exact hcl
          obtain ⟨q, hq, hgq⟩ := apA_ls (f := f) hA e3
          have hgl := gf_le hP1.1 (lst A f)
          rw [hsz] at hgl
          have hb1 : ∃ b1, RM (apA A f) b1 ∧ (if aHold A (lst A f) = false then (bd (f_X11_leases b (nI (lst A f))) (fun r27 => some (r27.1, r27.2))) else (some ((nI 0), b))) = some (nI 0, b1) := by
            by_cases eh : aHold A (lst A f) = true
            · refine ⟨b, by unfold apA; rw [if_pos eh]; exact h, ?_⟩
              simp (disch := omega) only [eh, ↓reduceIte, bt_do, bd_do, jn_eq, bI_z, gd_nI, gd_0, gd_1, nI_clamp, nI_add, nI_1, pk_mul, Nat.add_zero, Nat.zero_add, ile_t, ile_f, ilt_t, ilt_f, ieq_t, ieq_f, iz_t, iz_f, ilt0, ige0, im1, Bool.false_eq_true, Bool.true_eq_false, if_true, if_false]
            · obtain ⟨b1, hb1, hR1⟩ := leases_m h hA (by omega) hcl (e3.resolve_left eh)
              refine ⟨b1, by unfold apA; rw [if_neg eh]; exact hR1, ?_⟩
              simp (disch := omega) only [bF eh, hb1, ↓reduceIte, bt_do, bd_do, jn_eq, bI_z, gd_nI, gd_0, gd_1, nI_clamp, nI_add, nI_1, pk_mul, Nat.add_zero, Nat.zero_add, ile_t, ile_f, ilt_t, ilt_f, ieq_t, ieq_f, iz_t, iz_f, ilt0, ige0, im1, Bool.false_eq_true, Bool.true_eq_false, if_true, if_false]
          obtain ⟨b1, hR1, hb1⟩ := hb1
          have hgf := gf_m hR1 hP1.1 (by omega) hc1
          have hvs : b1 2 = lN (aSize A) := by rw [← hsz]; exact hR1.1 2 (by omega)
          have hk9 := hP.2.2.2.2.2
          by_cases e4 : aSize A < aGf (apA A f) (lst A f) + k
          · rw [if_pos e4] at hres
            have hnf : ¬ fresh A f := fun q => by
              rw [fresh_gf q] at e4
              omega
            have hfu : 2 * (3 - t) ≤ 6 - i := by
              rcases hfu with q | q | q
              · exact absurd rfl q
              · exact q
              · exact absurd q.2 hnf
            obtain ⟨b2, hpad, hRp⟩ := pads_m hR1 hP1.1 (by omega) hc1 (fr := aGf (apA A f) (lst A f)) (by rw [hsz]; exact hgl)
            have hPp := hP1.pad (fr := aGf (apA A f) (lst A f)) hc1
            obtain ⟨b3, hnew, hRn⟩ := newR_m hRp hPp.1 (by omega) hf (by rw [hPp.2.1]; omega)
            left
            refine ⟨_, ⟨_, t, _, b3, rfl, ht, hRn, hPp.newR hf, by rw [show 6 - (i + 1) = 5 - i by omega]; exact hres, ?_⟩, fun rec => ?_⟩
            · unfold spNewR
              split
              · exact Or.inl (fun q => absurd (show (-1000003 : Int32) = 0 from q) (by decide))
              · split
                · exact Or.inr (Or.inr ⟨by omega, fresh_new _ _⟩)
                · exact Or.inl (fun q => absurd (show (-1000004 : Int32) = 0 from q) (by decide))
            · simp (disch := omega) only [ubX11_appends_3, hlast, hhold, hb1, hgf, hl, hvs, hpad, hnew, ↓reduceIte, bt_do, bd_do, jn_eq, bI_z, gd_nI, gd_0, gd_1, nI_clamp, nI_add, nI_1, pk_mul, Nat.add_zero, Nat.zero_add, ile_t, ile_f, ilt_t, ilt_f, ieq_t, ieq_f, iz_t, iz_f, ilt0, ige0, im1, Bool.false_eq_true, Bool.true_eq_false, if_true, if_false, lc_ge_t, lc_ge_f, lc_eq_t, lc_eq_f, lc_le_t, lc_le_f, lc_gt_t, lc_gt_f, lc_lt_t, lc_lt_f, nI_l, lN_i, lN_add, lN_1]
          · rw [if_neg e4] at hres
            have hfit : aGf (apA A f) (lst A f) + k ≤ aSize (apA A f) := by rw [hsz]; omega
            obtain ⟨b2, htry, hRt⟩ := try_m (md := md) hR1 hP1.1 (by omega) hc1 hL hfit hl hrec hq hgq
            obtain ⟨t1, t2, _⟩ := spTry_inv hP1.1 hc1 hL hfit
            by_cases e5 : (spTry (apA A f) (lst A f) (aGf (apA A f) (lst A f)) k L).1 = true
            · rw [if_pos e5] at hres
              right
              subst hres
              have hts : b2 2 = lN (aSize A) := by rw [← hsz, ← t2.size]; exact hRt.1 2 (by omega)
              have htm := many_r hRt hf
              rw [t2.many, hma] at htm
              refine ⟨_, ⟨b2, rfl, hRt⟩, fun rec => ?_⟩
              rw [e5] at htry
              simp (disch := omega) only [ubX11_appends_3, hlast, hhold, hb1, hgf, hl, hvs, htry, hts, htm, pk_sub, ↓reduceIte, bt_do, bd_do, jn_eq, bI_z, gd_nI, gd_0, gd_1, nI_clamp, nI_add, nI_1, pk_mul, Nat.add_zero, Nat.zero_add, ile_t, ile_f, ilt_t, ilt_f, ieq_t, ieq_f, iz_t, iz_f, ilt0, ige0, im1, Bool.false_eq_true, Bool.true_eq_false, if_true, if_false, lc_ge_t, lc_ge_f, lc_eq_t, lc_eq_f, lc_le_t, lc_le_f, lc_gt_t, lc_gt_f, lc_lt_t, lc_lt_f, nI_l, lN_i, lN_add, lN_1]
            · rw [if_neg e5] at hres
              left
              rw [bF e5] at htry
              refine ⟨_, ⟨0, t + 1, _, b2, rfl, by omega, hRt, hP1.try hc1 hL hfit, by rw [show 6 - (i + 1) = 5 - i by omega]; exact hres, ?_⟩, fun rec => ?_⟩
              · rcases hfu with q | q | q
                · exact absurd rfl q
                · exact Or.inr (Or.inl (by omega))
                · exact Or.inr (Or.inl (by omega))
              · simp (disch := omega) only [ubX11_appends_3, hlast, hhold, hb1, hgf, hl, hvs, htry, ↓reduceIte, bt_do, bd_do, jn_eq, bI_z, gd_nI, gd_0, gd_1, nI_clamp, nI_add, nI_1, pk_mul, Nat.add_zero, Nat.zero_add, ile_t, ile_f, ilt_t, ilt_f, ieq_t, ieq_f, iz_t, iz_f, ilt0, ige0, im1, Bool.false_eq_true, Bool.true_eq_false, if_true, if_false, lc_ge_t, lc_ge_f, lc_eq_t, lc_eq_f, lc_le_t, lc_le_f, lc_gt_t, lc_gt_f, lc_lt_t, lc_lt_f, nI_l, lN_i, lN_add, lN_1]
                rw [nI_0]
        · rw [if_neg e3] at hres
          left
          have eh : aHold A (lst A f) = false := bF (fun q => e3 (Or.inl q))
          have ea : any5 (aAble A (lst A f)) = false := bF (fun q => e3 (Or.inr q))
          rw [eh] at hhold
          have e0 : ((-1000004 : Int32) = 0) = False := eq_false (by decide)
          have hgf := gf_m h hA (by omega) hcl
          refine ⟨_, ⟨-1000004, t, A, b, rfl, ht, h, hP.mono (by omega), by rw [apL_rc (by decide)]; exact hres, Or.inl (by decide)⟩, fun rec => ?_⟩
          simp (disch := omega) only [ubX11_appends_3, hlast, hhold, leases_no h hA (show n + i ≤ 8000 by omega) hcl ea, hgf, e0, ↓reduceIte, bt_do, bd_do, jn_eq, bI_z, gd_nI, gd_0, gd_1, nI_clamp, nI_add, nI_1, pk_mul, Nat.add_zero, Nat.zero_add, ile_t, ile_f, ilt_t, ilt_f, ieq_t, ieq_f, iz_t, iz_f, ilt0, ige0, im1, Bool.false_eq_true, Bool.true_eq_false, if_true, if_false]
    · right
      rw [apL_rc e2] at hres
      subst hres
      refine ⟨_, ⟨b, rfl, h⟩, fun rec => ?_⟩
      simp (disch := omega) only [ubX11_appends_3, e2, ↓reduceIte, bt_do, bd_do, jn_eq, bI_z, gd_nI, gd_0, gd_1, nI_clamp, nI_add, nI_1, pk_mul, Nat.add_zero, Nat.zero_add, ile_t, ile_f, ilt_t, ilt_f, ieq_t, ieq_f, iz_t, iz_f, ilt0, ige0, im1, Bool.false_eq_true, Bool.true_eq_false, if_true, if_false]
  · rintro q ⟨rc, t, A, b, rfl, ht, h, hP, hres, hfu⟩
    rw [show 6 - 6 = 0 by omega, apL] at hres
    subst hres
    refine ⟨_, ⟨b, rfl, h⟩, fun rec => ?_⟩
    by_cases e2 : rc = 0
    · have ht3 : 3 ≤ t := by
        rcases hfu with q | q | q
        · exact absurd e2 q
        · omega
        · omega
      subst e2
      simp (disch := omega) only [ubX11_appends_3, exitR, ↓reduceIte, bt_do, bd_do, jn_eq, bI_z, gd_nI, gd_0, gd_1, nI_clamp, nI_add, nI_1, pk_mul, Nat.add_zero, Nat.zero_add, ile_t, ile_f, ilt_t, ilt_f, ieq_t, ieq_f, iz_t, iz_f, ilt0, ige0, im1, Bool.false_eq_true, Bool.true_eq_false, if_true, if_false]
    · simp (disch := omega) only [ubX11_appends_3, e2, exitR, ↓reduceIte, bt_do, bd_do, jn_eq, bI_z, gd_nI, gd_0, gd_1, nI_clamp, nI_add, nI_1, pk_mul, Nat.add_zero, Nat.zero_add, ile_t, ile_f, ilt_t, ilt_f, ieq_t, ieq_f, iz_t, iz_f, ilt0, ige0, im1, Bool.false_eq_true, Bool.true_eq_false, if_true, if_false]
/-! whole -/
def spApp0 (A : AH) (f : Nat) : Int32 × AH := if aMany A f = 0 then spNewR A f else spOwnR A f (aMany A f - 1)
def spApp (A : AH) (f k : Nat) (L : Nat → Nat) : Int32 × AH := apL f k L 6 (spApp0 A f).1 0 (spApp0 A f).2
/-- what is wanted of a house that a record is appended to -/
def AQ (n : Nat) (A : AH) (f k : Nat) : Prop := AI n A ∧ aIs A f = 1 ∧ 1 ≤ A.1 1 ∧ 1 ≤ k ∧ k ≤ aSize A
theorem own_files (A : AH) (f k : Nat) : aIs (spOwn A f k) f = aIs A f ∧ aMany (spOwn A f k) f = aMany A f ∧ (spOwn A f k).1 1 = A.1 1 ∧ aSize (spOwn A f k) = aSize A := by
  refine ⟨rfl, rfl, up_n (D := A.1) (k := 6) (j := 1) (o := aMade A + 1) (by omega), up_n (D := A.1) (k := 6) (j := 2) (o := aMade A + 1) (by omega)⟩
theorem AI.newR {n : Nat} {A : AH} {f : Nat} (h1 : AI n A) (hf : f < 6) (h2 : ¬ aIs A f = 0) : AI n (spNewR A f).2 := by
  have h30 : aMade A ≤ 30 := h1.2.2.2.2.2.2.1
  have hm := (h1.2.2.2.2.2.2.2.2.2.2.1 f hf).2.1
  unfold spNewR
  by_cases e : aMade A = 30 ∨ aMany A f = 4
  · rw [if_pos e]; exact h1
  · rw [if_neg e]
    by_cases e2 : any5 (aUpB A) = true
    · rw [if_pos e2]; exact h1.new hf (by omega) (by omega) h2
    · rw [if_neg e2]; exact h1
theorem AI.ownR {n : Nat} {A : AH} {f k : Nat} (h1 : AI n A) (hf : f < 6) (hk : k < aMany A f) : AI n (spOwnR A f k).2 := by
  have h30 : aMade A ≤ 30 := h1.2.2.2.2.2.2.1
  unfold spOwnR
  by_cases e0 : aSh A (aCh A f k) = 1
  · rw [if_pos e0]; exact h1
  · rw [if_neg e0]
    by_cases e : aMade A = 30
    · rw [if_pos e]; exact h1
    · rw [if_neg e]
      by_cases e2 : any5 (aAble A (aCh A f k)) = true
      · rw [if_pos e2]; exact h1.own hf (by omega) hk
      · rw [if_neg e2]; exact h1
theorem app0_inv {n : Nat} {A : AH} {f k : Nat} (h : AQ n A f k) (hf : f < 6) : AI n (spApp0 A f).2 ∧ ((spApp0 A f).1 = 0 → AP n (spApp0 A f).2 f k) := by
  obtain ⟨h1, h2, h4, h5, h6⟩ := h
  unfold spApp0
  by_cases e : aMany A f = 0
  · rw [if_pos e]
    refine ⟨h1.newR hf (by omega), fun h0 => ⟨h1.newR hf (by omega), ?_⟩⟩
    unfold spNewR at h0 ⊢
    split at h0
    · exact absurd (show (-1000003 : Int32) = 0 from h0) (by decide)
    · rename_i e1
      rw [if_neg e1]
      split at h0
      · rename_i e2
        rw [if_pos e2]
        obtain ⟨n1, n2, n3, n4, _⟩ := new_files A f
        exact ⟨by rw [n1]; exact h2, by rw [n2]; omega, by rw [n3]; exact h4, h5, by rw [n4]; exact h6⟩
      · exact absurd (show (-1000004 : Int32) = 0 from h0) (by decide)
  · rw [if_neg e]
    refine ⟨h1.ownR hf (by omega), fun h0 => ⟨h1.ownR hf (by omega), ?_⟩⟩
    unfold spOwnR
    obtain ⟨o1, o2, o3, o4⟩ := own_files A f (aMany A f - 1)
    split
    · exact ⟨h2, by show 1 ≤ aMany A f; omega, h4, h5, h6⟩
    · split
      · exact ⟨h2, by show 1 ≤ aMany A f; omega, h4, h5, h6⟩
      · split
        · exact ⟨by rw [o1]; exact h2, by rw [o2]; omega, by rw [o3]; exact h4, h5, by rw [o4]; exact h6⟩
        · exact ⟨h2, by show 1 ≤ aMany A f; omega, h4, h5, h6⟩
theorem spApp_inv {n : Nat} {A : AH} {f k : Nat} {L : Nat → Nat} (h : AQ n A f k) (hf : f < 6) (hL : LK k L) : AI (n + 6) (spApp A f k L).2 := by
  obtain ⟨i1, i2⟩ := app0_inv h hf
  unfold spApp
  by_cases e : (spApp0 A f).1 = 0
  · exact (apL_inv hf hL 6 _ 0 n _ (i2 e)).1
  · rw [apL_rc e]
    exact i1.mono (by omega)
theorem addRecord_c {f k n2 : Nat} {v2 : Nat → Int32} {L : Nat → Nat} (hf : f < 6) (hL : LK k L) (h2k : k ≤ n2) (hn2 : n2 < 100) (hv2 : ∀ j, j < k → v2 j = cv (L j)) {A : AH} {v : HS} {n : Nat} (h : RC A v) (hQ : AQ n A f k) (hn : n + 10 ≤ 8000) : ∃ v', f_X5_addRecord v (nI f) n2 v2 (nI k) = some ((spApp A f k L).1, v') ∧ RC (spApp A f k L).2 v' := by
  obtain ⟨i1, i2⟩ := app0_inv hQ hf
  have hA := hQ.1
  have h4 := (hA.2.2.2.2.2.2.2.2.2.2.1 f hf).2.1
  have hmv := (h.2.2.2.2 f hf).2.2.2.1
  have hstart : ∃ v1, RC (spApp0 A f).2 v1 ∧ f_X5_addRecord v (nI f) n2 v2 (nI k) = lpF (bX5_addRecord_4 (nI f) (nI k) n2 v2 (fun q4 : Int32 × Int32 × Int32 × HS => if q4.1 = 0 then (some (((-1000005) : Int32), q4.2.2.2)) else (some (q4.1, q4.2.2.2)))) FU ((spApp0 A f).1, nI 0, nI 0, v1) := by
    unfold spApp0
    by_cases e : aMany A f = 0
    · rw [if_pos e]
      obtain ⟨v1, hv1, hR1⟩ := newR_c h hA (by omega) hQ.2.2.1 hf (by rw [hQ.2.1]; omega)
      refine ⟨v1, hR1, ?_⟩
      simp (disch := omega) only [u_X5_addRecord, last_none_c h.2.2.2.2 hf e, hv1, ↓reduceIte, bt_do, bd_do, jn_eq, bI_z, gd_nI, gd_0, gd_1, nI_clamp, nI_add, nI_1, pk_mul, Nat.add_zero, Nat.zero_add, ile_t, ile_f, ilt_t, ilt_f, ieq_t, ieq_f, iz_t, iz_f, ilt0, ige0, im1, Bool.false_eq_true, Bool.true_eq_false, if_true, if_false]
    · rw [if_neg e]
      obtain ⟨v1, hv1, hR1⟩ := ownR_c h hA (by omega) hf (k := aMany A f - 1) (by omega)
      refine ⟨v1, hR1, ?_⟩
      have hl := lst_lt hA hf (by omega)
      have h30 : aMade A ≤ 30 := hA.2.2.2.2.2.2.1
      simp (disch := omega) only [u_X5_addRecord, last_c h.2.2.2.2 hA hf (show 1 ≤ aMany A f by omega), hmv, pk_sub, hv1, ↓reduceIte, bt_do, bd_do, jn_eq, bI_z, gd_nI, gd_0, gd_1, nI_clamp, nI_add, nI_1, pk_mul, Nat.add_zero, Nat.zero_add, ile_t, ile_f, ilt_t, ilt_f, ieq_t, ieq_f, iz_t, iz_f, ilt0, ige0, im1, Bool.false_eq_true, Bool.true_eq_false, if_true, if_false]
  obtain ⟨v1, hR1, hs⟩ := hstart
  rw [hs]
  unfold spApp
  by_cases e : (spApp0 A f).1 = 0
  · exact addRec_loop hf hL h2k hn2 hv2 hR1 (i2 e) hn
  · rw [apL_rc e]
    refine lp_gen (fun i q => q = ((spApp0 A f).1, nI 0, nI 0, v1)) (fun X => ∃ v', X = some ((spApp0 A f).1, v') ∧ RC (spApp0 A f).2 v') 0 (by omega) rfl (fun i q hi => by omega) ?_
    rintro q rfl
    refine ⟨_, ⟨v1, rfl, hR1⟩, fun rec => ?_⟩
    simp (disch := omega) only [ubX5_addRecord_4, e, ↓reduceIte, bt_do, bd_do, jn_eq, bI_z, gd_nI, gd_0, gd_1, nI_clamp, nI_add, nI_1, pk_mul, Nat.add_zero, Nat.zero_add, ile_t, ile_f, ilt_t, ilt_f, ieq_t, ieq_f, iz_t, iz_f, ilt0, ige0, im1, Bool.false_eq_true, Bool.true_eq_false, if_true, if_false]
theorem appends_m {f k : Nat} {md : MD} {L : Nat → Nat} (hf : f < 6) (hL : LK k L) (hl : md.2.2.2.2.2.2.2.2.2.2.2.2.2.2.2.2 = nI k) (hrec : ∀ j, j < k → md.2.2.2.2.2.2.2.2.2.2.2.2.2.2.2.1 j = nI (L j)) {A : AH} {b : Nat → Int64} {n : Nat} (h : RM A b) (hQ : AQ n A f k) (hn : n + 10 ≤ 8000) : ∃ b', f_X11_appends md b (nI f) = some ((spApp A f k L).1, b') ∧ RM (spApp A f k L).2 b' := by
  obtain ⟨i1, i2⟩ := app0_inv hQ hf
  have hA := hQ.1
  have h4 := (hA.2.2.2.2.2.2.2.2.2.2.1 f hf).2.1
  have hstart : ∃ b1, RM (spApp0 A f).2 b1 ∧ f_X11_appends md b (nI f) = lpF (bX11_appends_3 (nI f) md (fun q3 : Int32 × Int32 × (Nat → Int64) => if q3.1 = 0 then (some (((-1000005) : Int32), q3.2.2)) else (some (q3.1, q3.2.2)))) FU ((spApp0 A f).1, nI 0, b1) := by
    unfold spApp0
    by_cases e : aMany A f = 0
    · rw [if_pos e]
      obtain ⟨b1, hv1, hR1⟩ := newR_m h hA (by omega) hf (by rw [hQ.2.1]; omega)
      refine ⟨b1, hR1, ?_⟩
      simp (disch := omega) only [u_X11_appends, many_r h hf, hv1, ↓reduceIte, bt_do, bd_do, jn_eq, bI_z, gd_nI, gd_0, gd_1, nI_clamp, nI_add, nI_1, pk_mul, Nat.add_zero, Nat.zero_add, ile_t, ile_f, ilt_t, ilt_f, ieq_t, ieq_f, iz_t, iz_f, ilt0, ige0, im1, Bool.false_eq_true, Bool.true_eq_false, if_true, if_false]
    · rw [if_neg e]
      obtain ⟨b1, hv1, hR1⟩ := ownR_m h hA (by omega) hf (k := aMany A f - 1) (by omega)
      refine ⟨b1, hR1, ?_⟩
      simp (disch := omega) only [u_X11_appends, many_r h hf, pk_sub, hv1, ↓reduceIte, bt_do, bd_do, jn_eq, bI_z, gd_nI, gd_0, gd_1, nI_clamp, nI_add, nI_1, pk_mul, Nat.add_zero, Nat.zero_add, ile_t, ile_f, ilt_t, ilt_f, ieq_t, ieq_f, iz_t, iz_f, ilt0, ige0, im1, Bool.false_eq_true, Bool.true_eq_false, if_true, if_false]
  obtain ⟨b1, hR1, hs⟩ := hstart
  rw [hs]
  unfold spApp
  by_cases e : (spApp0 A f).1 = 0
  · exact appends_loop hf hL hl hrec hR1 (i2 e) hn
  · rw [apL_rc e]
    refine lp_gen (fun i q => q = ((spApp0 A f).1, nI 0, b1)) (fun X => ∃ b', X = some ((spApp0 A f).1, b') ∧ RM (spApp0 A f).2 b') 0 (by omega) rfl (fun i q hi => by omega) ?_
    rintro q rfl
    refine ⟨_, ⟨b1, rfl, hR1⟩, fun rec => ?_⟩
    simp (disch := omega) only [ubX11_appends_3, e, ↓reduceIte, bt_do, bd_do, jn_eq, bI_z, gd_nI, gd_0, gd_1, nI_clamp, nI_add, nI_1, pk_mul, Nat.add_zero, Nat.zero_add, ile_t, ile_f, ilt_t, ilt_f, ieq_t, ieq_f, iz_t, iz_f, ilt0, ige0, im1, Bool.false_eq_true, Bool.true_eq_false, if_true, if_false]
