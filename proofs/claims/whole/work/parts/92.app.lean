/-! PURE 92: a record appended -/
def exitR (rc : Int32) : Int32 := if rc = 0 then -1000005 else rc
def spNewR (A : AH) (f : Nat) : Int32 × AH := if aMade A = 30 ∨ aMany A f = 4 then (-1000003, A) else if any5 (aUpB A) = true then (0, spNew A f) else (-1000004, A)
def spOwnR (A : AH) (f k : Nat) : Int32 × AH := if aSh A (aCh A f k) = 1 then (0, A) else if aMade A = 30 then (-1000003, A) else if any5 (aAble A (aCh A f k)) = true then (0, spOwn A f k) else (-1000004, A)
theorem newR_c {A : AH} {v : HS} {n : Nat} (h : RC A v) (hA : AI n A) (hn : n ≤ 8000) (hw : 1 ≤ A.1 1) {f : Nat} (hf : f < 6) (hi : ¬ aIs A f = 0) : ∃ v', f_X5_addNewChunk v (nI f) = some ((spNewR A f).1, v') ∧ RC (spNewR A f).2 v' := by
  have h30 : aMade A ≤ 30 := hA.2.2.2.2.2.2.1
  have h4 := (hA.2.2.2.2.2.2.2.2.2.2.1 f hf).2.1
  unfold spNewR
  by_cases e : aMade A = 30 ∨ aMany A f = 4
  · rw [if_pos e]
    exact ⟨v, new_full_c h hA hf e, h⟩
  · rw [if_neg e]
    by_cases e2 : any5 (aUpB A) = true
    · rw [if_pos e2]
      obtain ⟨v', hv, hR⟩ := new_c h hA hn hw hf hi (by omega) (by omega) e2
      exact ⟨v', by rw [hv, nI_0], hR⟩
    · rw [if_neg e2]
      exact ⟨v, new_lost_c h hA hn hw hf hi (by omega) (by omega) (bF e2), h⟩
theorem newR_m {A : AH} {b : Nat → Int64} {n : Nat} (h : RM A b) (hA : AI n A) (hn : n ≤ 8000) {f : Nat} (hf : f < 6) (hi : ¬ aIs A f = 0) : ∃ b', f_X11_makes b (nI f) = some ((spNewR A f).1, b') ∧ RM (spNewR A f).2 b' := by
  have h30 : aMade A ≤ 30 := hA.2.2.2.2.2.2.1
  have h4 := (hA.2.2.2.2.2.2.2.2.2.2.1 f hf).2.1
  unfold spNewR
  by_cases e : aMade A = 30 ∨ aMany A f = 4
  · rw [if_pos e]
    exact ⟨b, new_full_m h hA hf e, h⟩
  · rw [if_neg e]
    by_cases e2 : any5 (aUpB A) = true
    · rw [if_pos e2]
      obtain ⟨b', hv, hR⟩ := new_m h hA hn hf hi (by omega) (by omega) e2
      exact ⟨b', by rw [hv, nI_0], hR⟩
    · rw [if_neg e2]
      exact ⟨b, new_lost_m h hA hf (by omega) (by omega) (bF e2), h⟩
theorem ownR_c {A : AH} {v : HS} {n : Nat} (h : RC A v) (hA : AI n A) (hn : n ≤ 8000) {f k : Nat} (hf : f < 6) (hk : k < aMany A f) : ∃ v', f_X5_own v (nI f) (nI k) = some ((spOwnR A f k).1, v') ∧ RC (spOwnR A f k).2 v' := by
  have h30 : aMade A ≤ 30 := hA.2.2.2.2.2.2.1
  unfold spOwnR
  by_cases e0 : aSh A (aCh A f k) = 1
  · rw [if_pos e0]
    exact ⟨v, by rw [own_skip_c h hA hf hk e0, nI_0], h⟩
  · rw [if_neg e0]
    by_cases e : aMade A = 30
    · rw [if_pos e]
      exact ⟨v, own_full_c h hA hf hk e0 e, h⟩
    · rw [if_neg e]
      by_cases e2 : any5 (aAble A (aCh A f k)) = true
      · rw [if_pos e2]
        obtain ⟨v', hv, hR⟩ := own_c h hA hn hf hk e0 (by omega) e2
        exact ⟨v', by rw [hv, nI_0], hR⟩
      · rw [if_neg e2]
        exact ⟨v, own_lost_c h hA hn hf hk e0 (by omega) (bF e2), h⟩
theorem ownR_m {A : AH} {b : Nat → Int64} {n : Nat} (h : RM A b) (hA : AI n A) (hn : n ≤ 8000) {f k : Nat} (hf : f < 6) (hk : k < aMany A f) : ∃ b', f_X11_owns b (nI f) (nI k) = some ((spOwnR A f k).1, b') ∧ RM (spOwnR A f k).2 b' := by
  have h30 : aMade A ≤ 30 := hA.2.2.2.2.2.2.1
  unfold spOwnR
  by_cases e0 : aSh A (aCh A f k) = 1
  · rw [if_pos e0]
    exact ⟨b, by rw [own_skip_m h hA hf hk e0, nI_0], h⟩
  · rw [if_neg e0]
    by_cases e : aMade A = 30
    · rw [if_pos e]
      exact ⟨b, own_full_m h hA hf hk e0 e, h⟩
    · rw [if_neg e]
      by_cases e2 : any5 (aAble A (aCh A f k)) = true
      · rw [if_pos e2]
        obtain ⟨b', hv, hR⟩ := own_m h hA hn hf hk e0 (by omega) e2
        exact ⟨b', by rw [hv, nI_0], hR⟩
      · rw [if_neg e2]
        exact ⟨b, own_lost_m h hA hn hf hk e0 (by omega) (bF e2), h⟩
def lst (A : AH) (f : Nat) : Nat := aCh A f (aMany A f - 1)
theorem last_c {A : AH} {x : FL} {n : Nat} (h : RFL A x) (hA : AI n A) {f : Nat} (hf : f < 6) (hm : 1 ≤ aMany A f) : f_X3_lastChunk x (nI f) = some (nI (lst A f)) := by
  have h1 := (h f hf).2.2.2.1
  have h4 := (hA.2.2.2.2.2.2.2.2.2.2.1 f hf).2.1
  have hc := chunkOf_c h hA hf (k := aMany A f - 1) (by omega)
  simp (disch := omega) only [u_X3_lastChunk, isFile_n hf, h1, pk_sub, hc, ↓reduceIte, bt_do, bd_do, jn_eq, bI_z, gd_nI, gd_0, gd_1, nI_clamp, nI_add, nI_1, pk_mul, Nat.add_zero, Nat.zero_add, ile_t, ile_f, ilt_t, ilt_f, ieq_t, ieq_f, iz_t, iz_f, ilt0, ige0, im1, Bool.false_eq_true, Bool.true_eq_false, if_true, if_false]
  rfl
theorem last_none_c {A : AH} {x : FL} (h : RFL A x) {f : Nat} (hf : f < 6) (hm : aMany A f = 0) : f_X3_lastChunk x (nI f) = some (-1) := by
  have h1 := (h f hf).2.2.2.1
  rw [hm] at h1
  have e1 : nI 0 - nI 1 = -1 := by decide
  have e2 : f_X10_within (-1) (nI 0) (nI 3) = false := by decide
  simp (disch := omega) only [u_X3_lastChunk, isFile_n hf, h1, e1, u_X3_chunkOf, e2, ↓reduceIte, bt_do, bd_do, jn_eq, bI_z, gd_nI, gd_0, gd_1, nI_clamp, nI_add, nI_1, pk_mul, Nat.add_zero, Nat.zero_add, ile_t, ile_f, ilt_t, ilt_f, ieq_t, ieq_f, iz_t, iz_f, ilt0, ige0, im1, Bool.false_eq_true, Bool.true_eq_false, if_true, if_false]
theorem last_m {A : AH} {b : Nat → Int64} {n : Nat} (h : RM A b) (hA : AI n A) {f : Nat} (hf : f < 6) (hm : 1 ≤ aMany A f) : f_X11_lastOf b (nI f) = some (nI (lst A f)) := by
  have h4 := (hA.2.2.2.2.2.2.2.2.2.2.1 f hf).2.1
  have hc := chunkOf_m h hA hf (k := aMany A f - 1) (by omega)
  simp (disch := omega) only [u_X11_lastOf, many_r h hf, pk_sub, hc, ↓reduceIte, bt_do, bd_do, jn_eq, bI_z, gd_nI, gd_0, gd_1, nI_clamp, nI_add, nI_1, pk_mul, Nat.add_zero, Nat.zero_add, ile_t, ile_f, ilt_t, ilt_f, ieq_t, ieq_f, iz_t, iz_f, ilt0, ige0, im1, Bool.false_eq_true, Bool.true_eq_false, if_true, if_false]
  rfl
theorem lst_lt {A : AH} {n : Nat} (hA : AI n A) {f : Nat} (hf : f < 6) (hm : 1 ≤ aMany A f) : lst A f < aMade A := (hA.2.2.2.2.2.2.2.2.2.2.1 f hf).2.2.2.2.2 _ (by omega)
/-- what holds of a house while a record is appended -/
def AP (n : Nat) (A : AH) (f k : Nat) : Prop := AI n A ∧ aIs A f = 1 ∧ 1 ≤ aMany A f ∧ 1 ≤ A.1 1 ∧ 1 ≤ k ∧ k ≤ aSize A
def apA (A : AH) (f : Nat) : AH := if aHold A (lst A f) = true then A else spLease A (lst A f)
def apL (f k : Nat) (L : Nat → Nat) : Nat → Int32 → Nat → AH → Int32 × AH
  | 0, rc, _, A => (exitR rc, A)
  | m + 1, rc, t, A => if 3 ≤ t then (exitR rc, A) else if rc = 0 then
      (if aHold A (lst A f) = true ∨ any5 (aAble A (lst A f)) = true then
        (if aSize A < aGf (apA A f) (lst A f) + k then apL f k L m (spNewR (spPad (apA A f) (lst A f) (aGf (apA A f) (lst A f))) f).1 t (spNewR (spPad (apA A f) (lst A f) (aGf (apA A f) (lst A f))) f).2
        else if (spTry (apA A f) (lst A f) (aGf (apA A f) (lst A f)) k L).1 = true then (nI (aSize A * (aMany A f - 1) + aGf (apA A f) (lst A f)), (spTry (apA A f) (lst A f) (aGf (apA A f) (lst A f)) k L).2)
        else apL f k L m 0 (t + 1) (spTry (apA A f) (lst A f) (aGf (apA A f) (lst A f)) k L).2)
      else (-1000004, A))
    else (rc, A)
theorem apL_rc {f k : Nat} {L : Nat → Nat} {rc : Int32} (h : ¬ rc = 0) (m t : Nat) (A : AH) : apL f k L m rc t A = (rc, A) := by
  have e : exitR rc = rc := if_neg h
  cases m with
  | zero => rw [apL, e]
  | succ m =>
    rw [apL, e]
    split
    · rfl
    · rfl
theorem apL_3 {f k : Nat} {L : Nat → Nat} {rc : Int32} {t : Nat} (h : 3 ≤ t) (m : Nat) (A : AH) : apL f k L m rc t A = (exitR rc, A) := by
  cases m with
  | zero => rfl
  | succ m => rw [apL, if_pos h]
theorem lease_files (A : AH) (c : Nat) : (spLease A c).1 = A.1 ∧ aIs (spLease A c) = aIs A ∧ aKind (spLease A c) = aKind A ∧ aMany (spLease A c) = aMany A ∧ aCh (spLease A c) = aCh A ∧ aUp (spLease A c) = aUp A := ⟨rfl, rfl, rfl, rfl, rfl, rfl⟩
theorem apA_files (A : AH) (f : Nat) : (apA A f).1 = A.1 ∧ aIs (apA A f) = aIs A ∧ aKind (apA A f) = aKind A ∧ aMany (apA A f) = aMany A ∧ aCh (apA A f) = aCh A ∧ aUp (apA A f) = aUp A := by
  unfold apA
  split
  · exact ⟨rfl, rfl, rfl, rfl, rfl, rfl⟩
  · exact lease_files A _
theorem AP.ape {n : Nat} {A : AH} {f k : Nat} (h : AP n A f k) (hf : f < 6) (hx : aHold A (lst A f) = true ∨ any5 (aAble A (lst A f)) = true) : AP (n + 1) (apA A f) f k := by
  obtain ⟨h1, h2, h3, h4, h5, h6⟩ := h
  obtain ⟨e1, e2, e3, e4, e5, e6⟩ := apA_files A f
  refine ⟨?_, by rw [e2]; exact h2, by rw [e4]; exact h3, by rw [e1]; exact h4, h5, ?_⟩
  · unfold apA
    by_cases e : aHold A (lst A f) = true
    · rw [if_pos e]; exact h1.mono (by omega)
    · rw [if_neg e]
      exact h1.lease (lst_lt h1 hf h3) (hx.resolve_left e)
  · show k ≤ (apA A f).1 2
    rw [e1]
    exact h6
theorem apA_ls {n : Nat} {A : AH} {f : Nat} (h : AI n A) (hx : aHold A (lst A f) = true ∨ any5 (aAble A (lst A f)) = true) : ∃ q, aLs (apA A f) (lst A f) = some q ∧ aGood (apA A f) (lst A f) q.1 = true := by
  unfold apA
  by_cases e : aHold A (lst A f) = true
  · rw [if_pos e]
    unfold aHold at e
    cases hq : aLs A (lst A f) with
    | none => rw [hq] at e; cases e
    | some q =>
      rw [hq] at e
      simp only [Bool.and_eq_true] at e
      have e2 := e.2
      unfold aAble at e2
      rw [Bool.and_eq_true] at e2
      exact ⟨q, rfl, e2.1⟩
  · rw [if_neg e]
    have hx := hx.resolve_left e
    have hb := bst_in (lsA A (lst A f)) (any5_t.mp hx)
    refine ⟨_, up_s _ _ _, ?_⟩
    have := lease_able h (c := lst A f) (s := bst (lsA A (lst A f)) (aAble A (lst A f)))
    rw [hb.2.2] at this
    unfold aAble at this
    rw [Bool.and_eq_true] at this
    exact this.1
theorem AP.pad {n : Nat} {A : AH} {f k c fr : Nat} (h : AP n A f k) (hc : c < aMade A) : AP n (spPad A c fr) f k := ⟨h.1.pad hc, h.2⟩
theorem AP.sf {n : Nat} {A B : AH} {f k : Nat} (h : AP n A f k) (hs : SF A B) (hB : AI n B) : AP n B f k := by
  obtain ⟨h1, h2, h3, h4, h5, h6⟩ := h
  refine ⟨hB, by rw [hs.is]; exact h2, by rw [hs.many]; exact h3, ?_, h5, by rw [hs.size]; exact h6⟩
  rw [hs.1]
  exact h4
theorem new_files (A : AH) (f : Nat) : aIs (spNew A f) f = aIs A f ∧ aMany (spNew A f) f = aMany A f + 1 ∧ (spNew A f).1 1 = A.1 1 ∧ aSize (spNew A f) = aSize A ∧ lst (spNew A f) f = aMade A := by
  have e : aMany (spNew A f) f = aMany A f + 1 := up_s _ _ _
  refine ⟨rfl, e, up_n (D := A.1) (k := 6) (j := 1) (o := aMade A + 1) (by omega), up_n (D := A.1) (k := 6) (j := 2) (o := aMade A + 1) (by omega), ?_⟩
  unfold lst
  rw [e]
  show upO (aCh A) f (upO (aCh A f) (aMany A f) (aMade A)) f (aMany A f + 1 - 1) = _
  rw [up_s, Nat.add_sub_cancel, up_s]
theorem AP.newR {n : Nat} {A : AH} {f k : Nat} (h : AP n A f k) (hf : f < 6) : AP n (spNewR A f).2 f k := by
  obtain ⟨h1, h2, h3, h4, h5, h6⟩ := h
  have h30 : aMade A ≤ 30 := h1.2.2.2.2.2.2.1
  have hm := (h1.2.2.2.2.2.2.2.2.2.2.1 f hf).2.1
  unfold spNewR
  by_cases e : aMade A = 30 ∨ aMany A f = 4
  · rw [if_pos e]; exact ⟨h1, h2, h3, h4, h5, h6⟩
  · rw [if_neg e]
    by_cases e2 : any5 (aUpB A) = true
    · rw [if_pos e2]
      obtain ⟨n1, n2, n3, n4, _⟩ := new_files A f
      exact ⟨h1.new hf (by omega) (by omega) (by omega), by rw [n1]; exact h2, by rw [n2]; omega, by rw [n3]; exact h4, h5, by rw [n4]; exact h6⟩
    · rw [if_neg e2]; exact ⟨h1, h2, h3, h4, h5, h6⟩
theorem AP.try {n : Nat} {A : AH} {f k c fr : Nat} {L : Nat → Nat} (h : AP n A f k) (hc : c < aMade A) (hL : LK k L) (hk : fr + k ≤ aSize A) : AP n (spTry A c fr k L).2 f k := by
  obtain ⟨t1, t2, _⟩ := spTry_inv h.1 hc hL hk
  exact h.sf t2 t1
theorem AP.mono {n m : Nat} {A : AH} {f k : Nat} (h : AP n A f k) (hm : n ≤ m) : AP m A f k := ⟨h.1.mono hm, h.2⟩
theorem apL_inv {f k : Nat} {L : Nat → Nat} (hf : f < 6) (hL : LK k L) : ∀ (m : Nat) (rc : Int32) (t n : Nat) (A : AH), AP n A f k → AP (n + m) (apL f k L m rc t A).2 f k := by
  intro m
  induction m with
  | zero => intro rc t n A h; exact h
  | succ m ih =>
    intro rc t n A h
    rw [apL]
    by_cases e1 : 3 ≤ t
    · rw [if_pos e1]; exact h.mono (by omega)
    · rw [if_neg e1]
      by_cases e2 : rc = 0
      · rw [if_pos e2]
        by_cases e3 : aHold A (lst A f) = true ∨ any5 (aAble A (lst A f)) = true
        · rw [if_pos e3]
          have hA1 := h.ape hf e3
          have hsz : aSize (apA A f) = aSize A := congrFun (apA_files A f).1 2
          have hmd : aMade (apA A f) = aMade A := congrFun (apA_files A f).1 6
          have hc : lst A f < aMade (apA A f) := by rw [hmd]; exact lst_lt h.1 hf h.2.2.1
          by_cases e4 : aSize A < aGf (apA A f) (lst A f) + k
          · rw [if_pos e4]
            have := ih (spNewR (spPad (apA A f) (lst A f) (aGf (apA A f) (lst A f))) f).1 t (n + 1) _ ((hA1.pad (fr := aGf (apA A f) (lst A f)) hc).newR hf)
            rw [show n + (m + 1) = n + 1 + m by omega]
            exact this
          · rw [if_neg e4]
            have ht := hA1.try (fr := aGf (apA A f) (lst A f)) hc hL (by rw [hsz]; omega)
            by_cases e5 : (spTry (apA A f) (lst A f) (aGf (apA A f) (lst A f)) k L).1 = true
            · rw [if_pos e5]; exact ht.mono (by omega)
            · rw [if_neg e5]
              rw [show n + (m + 1) = n + 1 + m by omega]
              exact ih 0 (t + 1) (n + 1) _ ht
        · rw [if_neg e3]; exact h.mono (by omega)
      · rw [if_neg e2]; exact h.mono (by omega)
/-! the class -/
theorem addRec_loop {f k n2 : Nat} {v2 : Nat → Int32} {L : Nat → Nat} (hf : f < 6) (hL : LK k L) (h2k : k ≤ n2) (hn2 : n2 < 100) (hv2 : ∀ j, j < k → v2 j = cv (L j)) {A : AH} {v : HS} {n : Nat} {rc : Int32} (h : RC A v) (hP : AP n A f k) (hn : n + 10 ≤ 8000) : ∃ v', lpF (bX5_addRecord_4 (nI f) (nI k) n2 v2 (fun q4 : Int32 × Int32 × Int32 × HS => if q4.1 = 0 then (some (((-1000005) : Int32), q4.2.2.2)) else (some (q4.1, q4.2.2.2)))) FU (rc, nI 0, nI 0, v) = some ((apL f k L 6 rc 0 A).1, v') ∧ RC (apL f k L 6 rc 0 A).2 v' := by
  generalize hres : apL f k L 6 rc 0 A = res
  have hK : ∀ (rc : Int32) (v : HS), (if rc = 0 then (some (((-1000005) : Int32), v)) else (some (rc, v))) = some (exitR rc, v) := by
    intro rc v
    unfold exitR
    split <;> rfl
  refine lp_gen (fun i q => ∃ rc t A v, q = (rc, nI t, nI i, v) ∧ t ≤ 3 ∧ RC A v ∧ AP (n + i) A f k ∧ apL f k L (6 - i) rc t A = res) (fun X => ∃ v', X = some (res.1, v') ∧ RC res.2 v') 6 (by omega) ⟨rc, 0, A, v, rfl, by omega, h, hP, hres⟩ ?_ ?_
  · rintro i q hi ⟨rc, t, A, v, rfl, ht, h, hP, hres⟩
    have hA := hP.1
    have h9 : aSize A ≤ 9 := hA.2.2.1
    have h4 := (hA.2.2.2.2.2.2.2.2.2.2.1 f hf).2.1
    by_cases e1 : 3 ≤ t
    · right
      rw [apL_3 e1] at hres
      subst hres
      refine ⟨_, ⟨v, rfl, h⟩, fun rec => ?_⟩
      simp (disch := omega) only [ubX5_addRecord_4, hK, ↓reduceIte, bt_do, bd_do, jn_eq, bI_z, gd_nI, gd_0, gd_1, nI_clamp, nI_add, nI_1, pk_mul, Nat.add_zero, Nat.zero_add, ile_t, ile_f, ilt_t, ilt_f, ieq_t, ieq_f, iz_t, iz_f, ilt0, ige0, im1, Bool.false_eq_true, Bool.true_eq_false, if_true, if_false]
    · by_cases e2 : rc = 0
      · subst e2
        rw [show 6 - i = 5 - i + 1 by omega, apL, if_neg e1, if_pos rfl] at hres
        have hm1 := hP.2.2.1
        have hcl := lst_lt hA hf hm1
        have hlast := last_c h.2.2.2.2 hA hf hm1
        have hhold := holds_c h hA (by omega) hcl
        by_cases e3 : aHold A (lst A f) = true ∨ any5 (aAble A (lst A f)) = true
        · rw [if_pos e3] at hres
          have hP1 := hP.ape hf e3
          obtain ⟨f1, f2, f3, f4, f5, f6⟩ := apA_files A f
          have hsz : aSize (apA A f) = aSize A := congrFun f1 2
          have hmd : aMade (apA A f) = aMade A := congrFun f1 6
          have hma : aMany (apA A f) f = aMany A f := congrFun f4 f
          have hc1 : lst A f < aMade (apA A f) := by rw [hmd]; exact hcl
          obtain ⟨q, hq, hgq⟩ := apA_ls (f := f) hA e3
          have hgl := gf_le hP1.1 (lst A f)
          rw [hsz] at hgl
          -- the house with a lease
          have hv1 : ∃ v1, RC (apA A f) v1 ∧ ∀ (rec : Int32 × Int32 × Int32 × HS → Option (Int32 × HS)), bX5_addRecord_4 (nI f) (nI k) n2 v2 (fun q4 : Int32 × Int32 × Int32 × HS => if q4.1 = 0 then (some (((-1000005) : Int32), q4.2.2.2)) else (some (q4.1, q4.2.2.2))) rec (0, nI t, nI i, v) = bd (f_X5_greatestFilled v1 (nI (lst A f))) (fun r12 => if (r12 + nI k) ≤ v1.2.1 then (bd (f_X5_tryToWrite v1 (nI (lst A f)) r12 n2 v2 (nI k)) (fun r14 => if (bI r14.1) = 0 then (rec (0, nI (t + 1), nI (i + 1), r14.2)) else (gdI (nI f) 6 (some (((r14.2.2.1 * ((r14.2.2.2.2.2.2.2.2.2.2.2.2.1 f) - (nI 1))) + r12), r14.2))))) else (bd (f_X5_padAll v1 (nI (lst A f)) r12) (fun r17 => bd (f_X5_addNewChunk r17 (nI f)) (fun r18 => rec (r18.1, nI t, nI (i + 1), r18.2))))) := by
            by_cases eh : aHold A (lst A f) = true
            · refine ⟨v, by unfold apA; rw [if_pos eh]; exact h, fun rec => ?_⟩
              rw [eh] at hhold
              simp (disch := omega) only [ubX5_addRecord_4, hlast, hhold, ↓reduceIte, bt_do, bd_do, jn_eq, bI_z, gd_nI, gd_0, gd_1, nI_clamp, nI_add, nI_1, pk_mul, Nat.add_zero, Nat.zero_add, ile_t, ile_f, ilt_t, ilt_f, ieq_t, ieq_f, iz_t, iz_f, ilt0, ige0, im1, Bool.false_eq_true, Bool.true_eq_false, if_true, if_false]
            · obtain ⟨v1, hv1, hR1⟩ := lease_c h hA (by omega) hcl (e3.resolve_left eh)
              refine ⟨v1, by unfold apA; rw [if_neg eh]; exact hR1, fun rec => ?_⟩
              rw [bF eh] at hhold
              simp (disch := omega) only [ubX5_addRecord_4, hlast, hhold, hv1, ↓reduceIte, bt_do, bd_do, jn_eq, bI_z, gd_nI, gd_0, gd_1, nI_clamp, nI_add, nI_1, pk_mul, Nat.add_zero, Nat.zero_add, ile_t, ile_f, ilt_t, ilt_f, ieq_t, ieq_f, iz_t, iz_f, ilt0, ige0, im1, Bool.false_eq_true, Bool.true_eq_false, if_true, if_false]
          obtain ⟨v1, hR1, hbody⟩ := hv1
          have hgf := gf_c hR1 hP1.1 (by omega) hc1
          have hvs : v1.2.1 = nI (aSize A) := by rw [← hsz]; exact hR1.1.2.1
          by_cases e4 : aSize A < aGf (apA A f) (lst A f) + k
          · rw [if_pos e4] at hres
            obtain ⟨v2', hpad, hRp⟩ := pad_all_c hR1 hP1.1 (by omega) hc1 (fr := aGf (apA A f) (lst A f)) (by rw [hsz]; exact hgl)
            have hPp := hP1.pad (fr := aGf (apA A f) (lst A f)) hc1
            obtain ⟨v3, hnew, hRn⟩ := newR_c hRp hPp.1 (by omega) hPp.2.2.2.1 hf (by rw [hPp.2.1]; omega)
            left
            refine ⟨_, ⟨_, t, _, v3, rfl, ht, hRn, hPp.newR hf, by rw [show 6 - (i + 1) = 5 - i by omega]; exact hres⟩, fun rec => ?_⟩
            rw [hbody]
            simp (disch := omega) only [hgf, hvs, hpad, hnew, ↓reduceIte, bt_do, bd_do, jn_eq, bI_z, gd_nI, gd_0, gd_1, nI_clamp, nI_add, nI_1, pk_mul, Nat.add_zero, Nat.zero_add, ile_t, ile_f, ilt_t, ilt_f, ieq_t, ieq_f, iz_t, iz_f, ilt0, ige0, im1, Bool.false_eq_true, Bool.true_eq_false, if_true, if_false]
          · rw [if_neg e4] at hres
            have hfit : aGf (apA A f) (lst A f) + k ≤ aSize (apA A f) := by rw [hsz]; omega
            obtain ⟨v2', htry, hRt⟩ := try_c hR1 hP1.1 (by omega) hc1 hL hfit h2k hn2 hv2 hq hgq
            obtain ⟨t1, t2, _⟩ := spTry_inv hP1.1 hc1 hL hfit
            by_cases e5 : (spTry (apA A f) (lst A f) (aGf (apA A f) (lst A f)) k L).1 = true
            · rw [if_pos e5] at hres
              right
              subst hres
              have hts : v2'.2.1 = nI (aSize A) := by rw [← hsz, ← t2.size]; exact hRt.1.2.1
              have htm : v2'.2.2.2.2.2.2.2.2.2.2.2.1 f = nI (aMany A f) := by rw [← hma, ← t2.many]; exact (hRt.2.2.2.2 f hf).2.2.2.1
              refine ⟨_, ⟨v2', rfl, hRt⟩, fun rec => ?_⟩
              rw [hbody]
              rw [e5] at htry
              simp (disch := omega) only [hgf, hvs, htry, hts, htm, pk_sub, ↓reduceIte, bt_do, bd_do, jn_eq, bI_z, gd_nI, gd_0, gd_1, nI_clamp, nI_add, nI_1, pk_mul, Nat.add_zero, Nat.zero_add, ile_t, ile_f, ilt_t, ilt_f, ieq_t, ieq_f, iz_t, iz_f, ilt0, ige0, im1, Bool.false_eq_true, Bool.true_eq_false, if_true, if_false]
            · rw [if_neg e5] at hres
              left
              rw [bF e5] at htry
              refine ⟨_, ⟨0, t + 1, _, v2', rfl, by omega, hRt, hP1.try hc1 hL hfit, by rw [show 6 - (i + 1) = 5 - i by omega]; exact hres⟩, fun rec => ?_⟩
              rw [hbody]
              simp (disch := omega) only [hgf, hvs, htry, ↓reduceIte, bt_do, bd_do, jn_eq, bI_z, gd_nI, gd_0, gd_1, nI_clamp, nI_add, nI_1, pk_mul, Nat.add_zero, Nat.zero_add, ile_t, ile_f, ilt_t, ilt_f, ieq_t, ieq_f, iz_t, iz_f, ilt0, ige0, im1, Bool.false_eq_true, Bool.true_eq_false, if_true, if_false]
        · rw [if_neg e3] at hres
          right
          subst hres
          have eh : aHold A (lst A f) = false := bF (fun q => e3 (Or.inl q))
          have ea : any5 (aAble A (lst A f)) = false := bF (fun q => e3 (Or.inr q))
          rw [eh] at hhold
          refine ⟨_, ⟨v, rfl, h⟩, fun rec => ?_⟩
          simp (disch := omega) only [ubX5_addRecord_4, hlast, hhold, lease_no h hA (show n + i ≤ 8000 by omega) hcl ea, ↓reduceIte, bt_do, bd_do, jn_eq, bI_z, gd_nI, gd_0, gd_1, nI_clamp, nI_add, nI_1, pk_mul, Nat.add_zero, Nat.zero_add, ile_t, ile_f, ilt_t, ilt_f, ieq_t, ieq_f, iz_t, iz_f, ilt0, ige0, im1, Bool.false_eq_true, Bool.true_eq_false, if_true, if_false]
      · right
        rw [apL_rc e2] at hres
        subst hres
        refine ⟨_, ⟨v, rfl, h⟩, fun rec => ?_⟩
        simp (disch := omega) only [ubX5_addRecord_4, e2, ↓reduceIte, bt_do, bd_do, jn_eq, bI_z, gd_nI, gd_0, gd_1, nI_clamp, nI_add, nI_1, pk_mul, Nat.add_zero, Nat.zero_add, ile_t, ile_f, ilt_t, ilt_f, ieq_t, ieq_f, iz_t, iz_f, ilt0, ige0, im1, Bool.false_eq_true, Bool.true_eq_false, if_true, if_false]
  · rintro q ⟨rc, t, A, v, rfl, ht, h, hP, hres⟩
    rw [show 6 - 6 = 0 by omega, apL] at hres
    subst hres
    refine ⟨_, ⟨v, rfl, h⟩, fun rec => ?_⟩
    simp (disch := omega) only [ubX5_addRecord_4, hK, ↓reduceIte, bt_do, bd_do, jn_eq, bI_z, gd_nI, gd_0, gd_1, nI_clamp, nI_add, nI_1, pk_mul, Nat.add_zero, Nat.zero_add, ile_t, ile_f, ilt_t, ilt_f, ieq_t, ieq_f, iz_t, iz_f, ilt0, ige0, im1, Bool.false_eq_true, Bool.true_eq_false, if_true, if_false]
