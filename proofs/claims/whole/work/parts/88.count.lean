/-! PURE 88: counts of shares; a chunk more; files' rows of chunks -/
theorem sN_congr {g g' : Nat → Nat} {n : Nat} (h : ∀ j, j < n → g' j = g j) : sN g' n = sN g n := by
  induction n with
  | zero => rfl
  | succ n ih => rw [sN, sN, ih (fun j hj => h j (by omega)), h n (by omega)]
theorem sN_upd {g g' : Nat → Nat} {n k : Nat} (hk : k < n) (h : ∀ j, j < n → ¬ j = k → g' j = g j) : sN g' n + g k = sN g n + g' k := by
  induction n with
  | zero => omega
  | succ n ih =>
    rw [sN, sN]
    by_cases e : k = n
    · subst e
      rw [sN_congr (fun j hj => h j (by omega) (by omega))]
      omega
    · have := ih (by omega) (fun j hj hne => h j (by omega) hne)
      rw [h n (by omega) (by omega)]
      omega
theorem sN_zero {g : Nat → Nat} {n : Nat} (h : ∀ j, j < n → g j = 0) : sN g n = 0 := by
  induction n with
  | zero => rfl
  | succ n ih => rw [sN, ih (fun j hj => h j (by omega)), h n (by omega)]
theorem sN_ge {g : Nat → Nat} {n k : Nat} (hk : k < n) : g k ≤ sN g n := by
  induction n with
  | zero => omega
  | succ n ih =>
    rw [sN]
    by_cases e : k = n
    · subst e; omega
    · have := ih (by omega); omega
theorem rwCnt_add {m : Nat} (hm : m < 4) (ch : Nat → Nat) (x c : Nat) : rwCnt (m + 1) (upO ch m x) c = rwCnt m ch c + (if x = c then 1 else 0) := by
  unfold rwCnt
  have h := sN_upd (g := fun k => if k < m ∧ ch k = c then 1 else 0) (g' := fun k => if k < m + 1 ∧ upO ch m x k = c then 1 else 0) hm (fun j hj hne => by
    show (if j < m + 1 ∧ upO ch m x j = c then 1 else 0) = if j < m ∧ ch j = c then 1 else 0
    rw [up_n hne]
    by_cases e : j < m ∧ ch j = c
    · rw [if_pos e, if_pos ⟨by omega, e.2⟩]
    · rw [if_neg e, if_neg (fun q => e ⟨by omega, q.2⟩)])
  have e1 : (if m < m ∧ ch m = c then 1 else 0) = 0 := if_neg (by omega)
  have e2 : (if m < m + 1 ∧ upO ch m x m = c then 1 else 0) = if x = c then 1 else 0 := by
    rw [up_s]
    by_cases e : x = c
    · rw [if_pos ⟨by omega, e⟩, if_pos e]
    · rw [if_neg (fun q => e q.2), if_neg e]
  rw [e1, e2] at h
  omega
theorem rwCnt_rep {m k : Nat} (hm : m ≤ 4) (hk : k < m) (ch : Nat → Nat) (x c : Nat) : rwCnt m (upO ch k x) c + (if ch k = c then 1 else 0) = rwCnt m ch c + (if x = c then 1 else 0) := by
  unfold rwCnt
  have h := sN_upd (n := 4) (k := k) (g := fun k => if k < m ∧ ch k = c then 1 else 0) (g' := fun j => if j < m ∧ upO ch k x j = c then 1 else 0) (by omega) (fun j hj hne => by
    show (if j < m ∧ upO ch k x j = c then 1 else 0) = if j < m ∧ ch j = c then 1 else 0
    rw [up_n hne])
  have e1 : (if k < m ∧ ch k = c then 1 else 0) = if ch k = c then 1 else 0 := by
    by_cases e : ch k = c
    · rw [if_pos ⟨hk, e⟩, if_pos e]
    · rw [if_neg (fun q => e q.2), if_neg e]
  have e2 : (if k < m ∧ upO ch k x k = c then 1 else 0) = if x = c then 1 else 0 := by
    rw [up_s]
    by_cases e : x = c
    · rw [if_pos ⟨hk, e⟩, if_pos e]
    · rw [if_neg (fun q => e q.2), if_neg e]
  rw [e1, e2] at h
  exact h
theorem rwCnt_0 (ch : Nat → Nat) (c : Nat) : rwCnt 0 ch c = 0 := sN_zero (fun j hj => if_neg (by omega))
theorem rwCnt_no {m : Nat} {ch : Nat → Nat} {c : Nat} (h : ∀ k, k < m → ¬ ch k = c) : rwCnt m ch c = 0 := sN_zero (fun j hj => if_neg (fun q => h j q.1 q.2))
theorem rwCnt_yes {m k : Nat} {ch : Nat → Nat} (hk : k < m) (h4 : k < 4) : 1 ≤ rwCnt m ch (ch k) := by
  have := sN_ge (g := fun j => if j < m ∧ ch j = ch k then 1 else 0) (n := 4) h4
  have e : (if k < m ∧ ch k = ch k then 1 else 0) = 1 := if_pos ⟨hk, rfl⟩
  rw [e] at this
  exact this
theorem rwCnt_ge {A : AH} {f : Nat} (hf : f < 6) (c : Nat) : rwCnt (aMany A f) (aCh A f) c ≤ aCnt A c := sN_ge (g := fun f => rwCnt (aMany A f) (aCh A f) c) hf
theorem aCnt_no {A : AH} {c : Nat} (h : ∀ f k, f < 6 → k < aMany A f → ¬ aCh A f k = c) : aCnt A c = 0 := sN_zero (fun f hf => rwCnt_no (fun k hk => h f k hf hk))
theorem aCnt_yes {A : AH} {f k : Nat} (hf : f < 6) (hk : k < aMany A f) (h4 : k < 4) : 1 ≤ aCnt A (aCh A f k) := Nat.le_trans (rwCnt_yes hk h4) (rwCnt_ge hf _)
/-- one file's row changed -/
theorem aCnt_upd {A A' : AH} {f : Nat} (hf : f < 6) (c : Nat) (h : ∀ g, ¬ g = f → aMany A' g = aMany A g ∧ aCh A' g = aCh A g) : aCnt A' c + rwCnt (aMany A f) (aCh A f) c = aCnt A c + rwCnt (aMany A' f) (aCh A' f) c := by
  unfold aCnt
  exact sN_upd (g := fun f => rwCnt (aMany A f) (aCh A f) c) (g' := fun f => rwCnt (aMany A' f) (aCh A' f) c) hf (fun j hj hne => by
    have := h j hne
    show rwCnt (aMany A' j) (aCh A' j) c = rwCnt (aMany A j) (aCh A j) c
    rw [this.1, this.2])
/-! a chunk more -/
abbrev mkA (A : AH) : AH := (upO A.1 6 (aMade A + 1), A.2.1, A.2.2.1, A.2.2.2.1, A.2.2.2.2.1, A.2.2.2.2.2.1, A.2.2.2.2.2.2.1, A.2.2.2.2.2.2.2.1, upO (aVer A) (aMade A) 1, upO (aSh A) (aMade A) 1, A.2.2.2.2.2.2.2.2.2.2.1, upO (aLs A) (aMade A) none, A.2.2.2.2.2.2.2.2.2.2.2.2)
abbrev addCh (A : AH) (f x : Nat) : AH := (A.1, A.2.1, A.2.2.1, A.2.2.2.1, A.2.2.2.2.1, A.2.2.2.2.2.1, upO (aMany A) f (aMany A f + 1), A.2.2.2.2.2.2.2.1, A.2.2.2.2.2.2.2.2.1, A.2.2.2.2.2.2.2.2.2.1, upO (aCh A) f (upO (aCh A f) (aMany A f) x), A.2.2.2.2.2.2.2.2.2.2.2.1, A.2.2.2.2.2.2.2.2.2.2.2.2)
abbrev repCh (A : AH) (f k x : Nat) : AH := sCh A (upO (aCh A) f (upO (aCh A f) k x))
abbrev setSh (A : AH) (c x : Nat) : AH := sSh A (upO (aSh A) c x)
theorem made_mk (A : AH) : aMade (mkA A) = aMade A + 1 := up_s A.1 6 (aMade A + 1)
theorem aCnt_add {A : AH} {f x : Nat} (hf : f < 6) (h4 : aMany A f < 4) (c : Nat) : aCnt (addCh A f x) c = aCnt A c + (if x = c then 1 else 0) := by
  have h := aCnt_upd (A := A) (A' := addCh A f x) hf c (fun g hg => ⟨up_n hg, up_n hg⟩)
  have e1 : aMany (addCh A f x) f = aMany A f + 1 := up_s _ _ _
  have e2 : aCh (addCh A f x) f = upO (aCh A f) (aMany A f) x := up_s _ _ _
  rw [e1, e2, rwCnt_add h4] at h
  omega
theorem aCnt_rep {A : AH} {f k x : Nat} (hf : f < 6) (h4 : aMany A f ≤ 4) (hk : k < aMany A f) (c : Nat) : aCnt (repCh A f k x) c + (if aCh A f k = c then 1 else 0) = aCnt A c + (if x = c then 1 else 0) := by
  have h := aCnt_upd (A := A) (A' := repCh A f k x) hf c (fun g hg => ⟨rfl, up_n hg⟩)
  have e2 : aCh (repCh A f k x) f = upO (aCh A f) k x := up_s _ _ _
  have e1 : aMany (repCh A f k x) f = aMany A f := rfl
  rw [e1, e2] at h
  have := rwCnt_rep h4 hk (aCh A f) x c
  omega
/-! the class -/
theorem full_c {A : AH} {v : HS} (h : RC A v) (hm : aMade A ≤ 30) : f_X1_isFullUp v.2.2.2.2.2.2.1 = decide (aMade A = 30) := by
  have h1 := h.2.2.1.1
  by_cases e : aMade A = 30
  · simp (disch := omega) only [u_X1_isFullUp, h1, ↓reduceIte, bt_do, bd_do, jn_eq, bI_z, gd_nI, gd_0, gd_1, nI_clamp, nI_add, nI_1, pk_mul, Nat.add_zero, Nat.zero_add, ile_t, ile_f, ilt_t, ilt_f, ieq_t, ieq_f, iz_t, iz_f, ilt0, ige0, im1, Bool.false_eq_true, Bool.true_eq_false, if_true, if_false, decide_eq_true e]
  · simp (disch := omega) only [u_X1_isFullUp, h1, ↓reduceIte, bt_do, bd_do, jn_eq, bI_z, gd_nI, gd_0, gd_1, nI_clamp, nI_add, nI_1, pk_mul, Nat.add_zero, Nat.zero_add, ile_t, ile_f, ilt_t, ilt_f, ieq_t, ieq_f, iz_t, iz_f, ilt0, ige0, im1, Bool.false_eq_true, Bool.true_eq_false, if_true, if_false, decide_eq_false e]
theorem fullF_c {A : AH} {v : HS} (h : RC A v) {f : Nat} (hf : f < 6) (hm : aMany A f ≤ 4) : f_X3_isFullUp v.2.2.2.2.2.2.2.2 (nI f) = some (decide (aMany A f = 4)) := by
  have h1 := (h.2.2.2.2 f hf).2.2.2.1
  by_cases e : aMany A f = 4
  · simp (disch := omega) only [u_X3_isFullUp, isFile_n hf, h1, ↓reduceIte, bt_do, bd_do, jn_eq, bI_z, gd_nI, gd_0, gd_1, nI_clamp, nI_add, nI_1, pk_mul, Nat.add_zero, Nat.zero_add, ile_t, ile_f, ilt_t, ilt_f, ieq_t, ieq_f, iz_t, iz_f, ilt0, ige0, im1, Bool.false_eq_true, Bool.true_eq_false, if_true, if_false, decide_eq_true e]
  · simp (disch := omega) only [u_X3_isFullUp, isFile_n hf, h1, ↓reduceIte, bt_do, bd_do, jn_eq, bI_z, gd_nI, gd_0, gd_1, nI_clamp, nI_add, nI_1, pk_mul, Nat.add_zero, Nat.zero_add, ile_t, ile_f, ilt_t, ilt_f, ieq_t, ieq_f, iz_t, iz_f, ilt0, ige0, im1, Bool.false_eq_true, Bool.true_eq_false, if_true, if_false, decide_eq_false e]
theorem make_c {A : AH} {v : HS} (h : RC A v) (hm : aMade A < 30) : ∃ y, f_X1_make v.2.2.2.2.2.2.1 = some (nI (aMade A), y) ∧ RC (mkA A) (hCK v y) := by
  have h1 := h.2.2.1.1
  refine ⟨(nI (aMade A + 1), upd v.2.2.2.2.2.2.1.2.1 (aMade A) (nI 1), upd v.2.2.2.2.2.2.1.2.2.1 (aMade A) (nI 1), upd v.2.2.2.2.2.2.1.2.2.2.1 (aMade A) (-1), upd v.2.2.2.2.2.2.1.2.2.2.2 (aMade A) (nI 0)), ?_, h.1, h.2.1, ⟨?_, fun c hc => ?_⟩, h.2.2.2.1, h.2.2.2.2⟩
  · simp (disch := omega) only [u_X1_make, full_c h (show aMade A ≤ 30 by omega), decide_eq_false (show ¬ aMade A = 30 by omega), h1, u_X1_endLease, u_X1_has, ↓reduceIte, bt_do, bd_do, jn_eq, bI_z, gd_nI, gd_0, gd_1, nI_clamp, nI_add, nI_1, pk_mul, Nat.add_zero, Nat.zero_add, ile_t, ile_f, ilt_t, ilt_f, ieq_t, ieq_f, iz_t, iz_f, ilt0, ige0, im1, Bool.false_eq_true, Bool.true_eq_false, if_true, if_false]
  · rw [made_mk]
  · rw [made_mk] at hc
    show upd _ (aMade A) _ c = nI (upO (aVer A) (aMade A) 1 c) ∧ upd _ (aMade A) _ c = nI (upO (aSh A) (aMade A) 1 c) ∧ lsC (upO (aLs A) (aMade A) none c) (upd _ (aMade A) _ c) (upd _ (aMade A) _ c)
    by_cases e : c = aMade A
    · subst e
      simp only [pk_us, up_s, true_and]
      exact rfl
    · have h3 := h.2.2.1.2 c (by omega)
      simp only [pk_un e, up_n e]
      exact h3
theorem addCh_c {A : AH} {v : HS} (h : RC A v) {f x : Nat} (hf : f < 6) (h4 : aMany A f < 4) : ∃ y, f_X3_addChunk v.2.2.2.2.2.2.2.2 (nI f) (nI x) = some y ∧ RC (addCh A f x) (hFL v y) := by
  have h1 := (h.2.2.2.2 f hf).2.2.2.1
  have e4 : f * 4 + aMany A f = 4 * f + aMany A f := by omega
  refine ⟨(v.2.2.2.2.2.2.2.2.1, v.2.2.2.2.2.2.2.2.2.1, v.2.2.2.2.2.2.2.2.2.2.1, upd v.2.2.2.2.2.2.2.2.2.2.2.1 f (nI (aMany A f + 1)), upd v.2.2.2.2.2.2.2.2.2.2.2.2 (4 * f + aMany A f) (nI x)), ?_, h.1, h.2.1, h.2.2.1, h.2.2.2.1, fun g hg => ?_⟩
  · simp (disch := omega) only [u_X3_addChunk, fullF_c h hf (show aMany A f ≤ 4 by omega), decide_eq_false (show ¬ aMany A f = 4 by omega), h1, ↓reduceIte, bt_do, bd_do, jn_eq, bI_z, gd_nI, gd_0, gd_1, nI_clamp, nI_add, nI_1, pk_mul, Nat.add_zero, Nat.zero_add, ile_t, ile_f, ilt_t, ilt_f, ieq_t, ieq_f, iz_t, iz_f, ilt0, ige0, im1, Bool.false_eq_true, Bool.true_eq_false, if_true, if_false, e4]
  · have h3 := h.2.2.2.2 g hg
    refine ⟨h3.1, h3.2.1, h3.2.2.1, ?_, fun k k4 hk => ?_⟩
    · show upd _ f _ g = nI (upO (aMany A) f _ g)
      by_cases e : g = f
      · subst e; rw [pk_us, up_s]
      · rw [pk_un e, up_n e]; exact h3.2.2.2.1
    · show upd _ (4 * f + aMany A f) _ (4 * g + k) = nI (upO (aCh A) f (upO (aCh A f) (aMany A f) x) g k)
      have hk : k < upO (aMany A) f (aMany A f + 1) g := hk
      by_cases e : g = f
      · subst e
        rw [up_s] at hk ⊢
        by_cases e2 : k = aMany A g
        · subst e2
          rw [pk_us, up_s]
        · rw [pk_un (by omega), up_n e2]; exact h3.2.2.2.2 k k4 (by omega)
      · rw [up_n e] at hk ⊢
        rw [pk_un (by omega)]
        exact h3.2.2.2.2 k k4 hk
theorem repCh_c {A : AH} {v : HS} (h : RC A v) {f k x : Nat} (hf : f < 6) (hk : k < aMany A f) (h4 : aMany A f ≤ 4) (hx : aCh A f k < 100) : ∃ y, f_X3_replaceChunk v.2.2.2.2.2.2.2.2 (nI f) (nI k) (nI x) = some y ∧ RC (repCh A f k x) (hFL v y) := by
  have h1 := h.2.2.2.2 f hf
  have e4 : f * 4 + k = 4 * f + k := by omega
  have hch : f_X3_chunkOf v.2.2.2.2.2.2.2.2 (nI f) (nI k) = some (nI (aCh A f k)) := by
    simp (disch := omega) only [u_X3_chunkOf, isFile_n hf, u_X10_within, ↓reduceIte, bt_do, bd_do, jn_eq, bI_z, gd_nI, gd_0, gd_1, nI_clamp, nI_add, nI_1, pk_mul, Nat.add_zero, Nat.zero_add, ile_t, ile_f, ilt_t, ilt_f, ieq_t, ieq_f, iz_t, iz_f, ilt0, ige0, im1, Bool.false_eq_true, Bool.true_eq_false, if_true, if_false, h1.2.2.2.1, e4, h1.2.2.2.2 k (by omega) hk]
  refine ⟨(v.2.2.2.2.2.2.2.2.1, v.2.2.2.2.2.2.2.2.2.1, v.2.2.2.2.2.2.2.2.2.2.1, v.2.2.2.2.2.2.2.2.2.2.2.1, upd v.2.2.2.2.2.2.2.2.2.2.2.2 (4 * f + k) (nI x)), ?_, h.1, h.2.1, h.2.2.1, h.2.2.2.1, fun g hg => ?_⟩
  · simp (disch := omega) only [u_X3_replaceChunk, hch, ↓reduceIte, bt_do, bd_do, jn_eq, bI_z, gd_nI, gd_0, gd_1, nI_clamp, nI_add, nI_1, pk_mul, Nat.add_zero, Nat.zero_add, ile_t, ile_f, ilt_t, ilt_f, ieq_t, ieq_f, iz_t, iz_f, ilt0, ige0, im1, Bool.false_eq_true, Bool.true_eq_false, if_true, if_false, e4]
  · have h3 := h.2.2.2.2 g hg
    refine ⟨h3.1, h3.2.1, h3.2.2.1, h3.2.2.2.1, fun k' k4 hk' => ?_⟩
    show upd _ (4 * f + k) _ (4 * g + k') = nI (upO (aCh A) f (upO (aCh A f) k x) g k')
    have hk' : k' < aMany A g := hk'
    by_cases e : g = f
    · subst e
      rw [up_s]
      by_cases e2 : k' = k
      · subst e2
        rw [pk_us, up_s]
      · rw [pk_un (by omega), up_n e2]; exact h3.2.2.2.2 k' k4 hk'
    · rw [up_n e, pk_un (by omega)]
      exact h3.2.2.2.2 k' k4 hk'
theorem shDec_c {A : AH} {v : HS} (h : RC A v) {c : Nat} (hc : c < aMade A) (hm : aMade A ≤ 30) (h1 : 1 ≤ aSh A c) : ∃ y, f_X1_share v.2.2.2.2.2.2.1 (nI c) (-1) = some y ∧ RC (setSh A c (aSh A c - 1)) (hCK v y) := by
  have h2 := (h.2.2.1.2 c hc).2.1
  have e : nI (aSh A c) + (-1) = nI (aSh A c - 1) := by
    have := pk_m1 (aSh A c - 1)
    rw [show aSh A c - 1 + 1 = aSh A c by omega] at this
    exact this
  refine ⟨(v.2.2.2.2.2.2.1.1, v.2.2.2.2.2.2.1.2.1, upd v.2.2.2.2.2.2.1.2.2.1 c (nI (aSh A c - 1)), v.2.2.2.2.2.2.1.2.2.2.1, v.2.2.2.2.2.2.1.2.2.2.2), ?_, h.1, h.2.1, ⟨h.2.2.1.1, fun c' hc' => ?_⟩, h.2.2.2.1, h.2.2.2.2⟩
  · simp (disch := omega) only [u_X1_share, has_ck h.2.2.1, hasP_of hc, h2, e, ↓reduceIte, bt_do, bd_do, jn_eq, bI_z, gd_nI, gd_0, gd_1, nI_clamp, nI_add, nI_1, pk_mul, Nat.add_zero, Nat.zero_add, ile_t, ile_f, ilt_t, ilt_f, ieq_t, ieq_f, iz_t, iz_f, ilt0, ige0, im1, Bool.false_eq_true, Bool.true_eq_false, if_true, if_false]
  · have h3 := h.2.2.1.2 c' hc'
    refine ⟨h3.1, ?_, h3.2.2⟩
    show upd _ c _ c' = nI (upO (aSh A) c _ c')
    by_cases q : c' = c
    · subst q; rw [pk_us, up_s]
    · rw [pk_un q, up_n q]; exact h3.2.1
theorem shInc_c {A : AH} {v : HS} (h : RC A v) {c : Nat} (hc : c < aMade A) (hm : aMade A ≤ 30) : ∃ y, f_X1_share v.2.2.2.2.2.2.1 (nI c) (nI 1) = some y ∧ RC (setSh A c (aSh A c + 1)) (hCK v y) := by
  have h2 := (h.2.2.1.2 c hc).2.1
  refine ⟨(v.2.2.2.2.2.2.1.1, v.2.2.2.2.2.2.1.2.1, upd v.2.2.2.2.2.2.1.2.2.1 c (nI (aSh A c + 1)), v.2.2.2.2.2.2.1.2.2.2.1, v.2.2.2.2.2.2.1.2.2.2.2), ?_, h.1, h.2.1, ⟨h.2.2.1.1, fun c' hc' => ?_⟩, h.2.2.2.1, h.2.2.2.2⟩
  · simp (disch := omega) only [u_X1_share, has_ck h.2.2.1, hasP_of hc, h2, ↓reduceIte, bt_do, bd_do, jn_eq, bI_z, gd_nI, gd_0, gd_1, nI_clamp, nI_add, nI_1, pk_mul, Nat.add_zero, Nat.zero_add, ile_t, ile_f, ilt_t, ilt_f, ieq_t, ieq_f, iz_t, iz_f, ilt0, ige0, im1, Bool.false_eq_true, Bool.true_eq_false, if_true, if_false]
  · have h3 := h.2.2.1.2 c' hc'
    refine ⟨h3.1, ?_, h3.2.2⟩
    show upd _ c _ c' = nI (upO (aSh A) c _ c')
    by_cases q : c' = c
    · subst q; rw [pk_us, up_s]
    · rw [pk_un q, up_n q]; exact h3.2.1
theorem endLease_c {A : AH} {v : HS} (h : RC A v) {c : Nat} (hc : c < aMade A) (hm : aMade A ≤ 30) : ∃ y, f_X1_endLease v.2.2.2.2.2.2.1 (nI c) = some y ∧ RC (setLs A c none) (hCK v y) := by
  refine ⟨_, ?_, h.lsN c (nI 0)⟩
  simp (disch := omega) only [u_X1_endLease, has_ck h.2.2.1, hasP_of hc, ↓reduceIte, bt_do, bd_do, jn_eq, bI_z, gd_nI, gd_0, gd_1, nI_clamp, nI_add, nI_1, pk_mul, Nat.add_zero, Nat.zero_add, ile_t, ile_f, ilt_t, ilt_f, ieq_t, ieq_f, iz_t, iz_f, ilt0, ige0, im1, Bool.false_eq_true, Bool.true_eq_false, if_true, if_false]
/-! the model -/
theorem RM.sh {A : AH} {b : Nat → Int64} (h : RM A b) (hm : aMade A ≤ 30) {c : Nat} (hc : c < aMade A) (x : Nat) : RM (setSh A c x) (vp_updL b (70 + 4 * c + 1) (lN x)) := by
  have h3 := h.2.2.2.1 c hc
  refine h.chunk hm (c := c) (by omega) (fun j hj => pk_uLn (by omega)) ⟨?_, ?_, ?_⟩ (e4 := fun g => ⟨rfl, rfl, rfl, rfl, rfl⟩) (e5 := fun g hg => ⟨rfl, up_n hg, rfl⟩)
  · rw [pk_uLn (by omega)]; exact h3.1
  · show _ = lN (upO (aSh A) c x c)
    rw [pk_uLs, up_s]
  · rw [pk_uLn (by omega), pk_uLn (by omega)]; exact h3.2.2
theorem RM.lsN {A : AH} {b : Nat → Int64} (h : RM A b) (hm : aMade A ≤ 30) {c : Nat} (hc : c < aMade A) : RM (setLs A c none) (vp_updL b (70 + 4 * c + 2) (-1)) := by
  have h3 := h.2.2.2.1 c hc
  refine h.chunk hm (c := c) (by omega) (fun j hj => pk_uLn (by omega)) ⟨?_, ?_, ?_⟩ (e4 := fun g => ⟨rfl, rfl, rfl, rfl, rfl⟩) (e5 := fun g hg => ⟨rfl, rfl, up_n hg⟩)
  · rw [pk_uLn (by omega)]; exact h3.1
  · rw [pk_uLn (by omega)]; exact h3.2.1
  · show lsM (upO (aLs A) c none c) _ _
    rw [pk_uLs, up_s]
    exact rfl
theorem RM.rep {A : AH} {b : Nat → Int64} (h : RM A b) (hm : aMade A ≤ 30) {f k : Nat} (hf : f < 6) (hk : k < 4) (x : Nat) : RM (repCh A f k x) (vp_updL b (22 + 8 * f + 4 + k) (lN x)) := by
  have h3 := h.2.2.1 f hf
  refine h.file hm hf (fun j hj => pk_uLn (by omega)) ⟨?_, ?_, ?_, ?_, fun k' k4 hk' => ?_⟩ (e4 := fun g hg => ⟨rfl, rfl, rfl, rfl, up_n hg⟩)
  · rw [pk_uLn (by omega)]; exact h3.1
  · rw [pk_uLn (by omega)]; exact h3.2.1
  · rw [pk_uLn (by omega)]; exact h3.2.2.1
  · rw [pk_uLn (by omega)]; exact h3.2.2.2.1
  · show _ = lN (upO (aCh A) f (upO (aCh A f) k x) f k')
    rw [up_s]
    by_cases e : k' = k
    · subst e; rw [pk_uLs, up_s]
    · rw [pk_uLn (by omega), up_n e]; exact h3.2.2.2.2 k' k4 hk'
theorem RM.add {A : AH} {b : Nat → Int64} (h : RM A b) (hm : aMade A ≤ 30) {f : Nat} (hf : f < 6) (h4 : aMany A f < 4) (x : Nat) : RM (addCh A f x) (vp_updL (vp_updL b (22 + 8 * f + 4 + aMany A f) (lN x)) (22 + 8 * f + 2) (lN (aMany A f + 1))) := by
  have h3 := h.2.2.1 f hf
  refine h.file hm hf (fun j hj => by rw [pk_uLn (by omega), pk_uLn (by omega)]) ⟨?_, ?_, ?_, ?_, fun k' k4 hk' => ?_⟩ (e4 := fun g hg => ⟨rfl, rfl, up_n hg, rfl, up_n hg⟩)
  · rw [pk_uLn (by omega), pk_uLn (by omega)]; exact h3.1
  · rw [pk_uLn (by omega), pk_uLn (by omega)]; exact h3.2.1
  · show _ = lN (upO (aMany A) f _ f)
    rw [pk_uLs, up_s]
  · rw [pk_uLn (by omega), pk_uLn (by omega)]; exact h3.2.2.2.1
  · show _ = lN (upO (aCh A) f (upO (aCh A f) (aMany A f) x) f k')
    have hk' : k' < upO (aMany A) f (aMany A f + 1) f := hk'
    rw [up_s] at hk'
    rw [up_s, pk_uLn (by omega)]
    by_cases e : k' = aMany A f
    · subst e; rw [pk_uLs, up_s]
    · rw [pk_uLn (by omega), up_n e]; exact h3.2.2.2.2 k' k4 (by omega)
theorem RM.mk {A : AH} {b b' : Nat → Int64} (h : RM A b) (hm : aMade A < 30) (hb : ∀ j, ¬ j = 6 → ¬ (70 + 4 * aMade A ≤ j ∧ j < 74 + 4 * aMade A) → ¬ (190 + 5 * aMade A ≤ j ∧ j < 195 + 5 * aMade A) → b' j = b j) (h6 : b' 6 = lN (aMade A + 1)) (hv : b' (70 + 4 * aMade A) = lN 1) (hs : b' (70 + 4 * aMade A + 1) = lN 1) (hl : b' (70 + 4 * aMade A + 2) = -1) (hp : ∀ s, s < 5 → b' (190 + 5 * aMade A + s) = 0) (hno : ∀ s, aCp A (aMade A) s = none) : RM (mkA A) b' := by
  refine ⟨fun k hk => ?_, fun s' hs' => ?_, fun f hf => ?_, fun c' hc' => ?_, fun c' s' hc' hs' => ?_⟩
  · show _ = lN (upO A.1 6 _ k)
    by_cases e : k = 6
    · subst e; rw [h6, up_s]
    · rw [hb k e (by omega) (by omega), up_n e]; exact h.1 k hk
  · exact RMS.of (h.2.1 s' hs') (hb _ (by omega) (by omega) (by omega)) (hb _ (by omega) (by omega) (by omega)) (hb _ (by omega) (by omega) (by omega)) (up_n (D := A.1) (k := 6) (j := 0) (o := aMade A + 1) (by omega))
  · exact RMF.of (h.2.2.1 f hf) (fun j hj => hb _ (by omega) (by omega) (by omega))
  · rw [made_mk] at hc'
    by_cases e : c' = aMade A
    · subst e
      refine ⟨?_, ?_, ?_⟩
      · show _ = lN (upO (aVer A) _ 1 _)
        rw [up_s, hv]
      · show _ = lN (upO (aSh A) _ 1 _)
        rw [up_s, hs]
      · show lsM (upO (aLs A) _ none _) _ _
        rw [up_s]
        exact hl
    · exact RMC.of (h.2.2.2.1 c' (by omega)) (fun j hj => hb _ (by omega) (by omega) (by omega)) (up_n e) (up_n e) (up_n e)
  · rw [made_mk] at hc'
    by_cases e : c' = aMade A
    · subst e
      rw [hp s' hs']
      show _ = cpM (aCp A (aMade A) s')
      rw [hno]
      rfl
    · rw [hb _ (by omega) (by omega) (by omega)]
      exact h.2.2.2.2 c' s' (by omega) hs'
theorem adds_m {A : AH} {b : Nat → Int64} (h : RM A b) (hm : aMade A < 30) (hno : ∀ s, aCp A (aMade A) s = none) : ∃ b', f_X11_adds b = some (nI (aMade A), b') ∧ RM (mkA A) b' := by
  have h6 : b 6 = lN (aMade A) := h.1 6 (by omega)
  simp (disch := omega) only [u_X11_adds, ↓reduceIte, bt_do, bd_do, jn_eq, bI_z, gd_nI, gd_0, gd_1, nI_clamp, nI_add, nI_1, pk_mul, Nat.add_zero, Nat.zero_add, ile_t, ile_f, ilt_t, ilt_f, ieq_t, ieq_f, iz_t, iz_f, ilt0, ige0, im1, Bool.false_eq_true, Bool.true_eq_false, if_true, if_false, lc_ge_t, lc_ge_f, lc_eq_t, lc_eq_f, lc_le_t, lc_le_f, lc_gt_t, lc_gt_f, lc_lt_t, lc_lt_f, nI_l, lN_i, lN_add, lN_1, h6]
  refine lp_gen (fun i q => q.1 = nI i ∧ ∀ j, q.2 j = if 190 + 5 * aMade A ≤ j ∧ j < 190 + 5 * aMade A + i then 0 else vp_updL (vp_updL (vp_updL (vp_updL b (70 + 4 * aMade A) (lN 1)) (70 + 4 * aMade A + 1) (lN 1)) (70 + 4 * aMade A + 2) (-1)) (70 + 4 * aMade A + 3) (lN 0) j) (fun X => ∃ b', X = some (nI (aMade A), b') ∧ RM (mkA A) b') 5 (by omega) ?_ ?_ ?_
  · exact ⟨rfl, fun j => by rw [if_neg (by omega)]⟩
  · intro i q hi hR
    obtain ⟨q1, w⟩ := q
    obtain ⟨h1, h2⟩ := hR
    dsimp only at h1 h2
    subst h1
    left
    refine ⟨(nI (i + 1), vp_updL w (190 + 5 * aMade A + i) (lN 0)), ⟨rfl, fun j => ?_⟩, fun rec => ?_⟩
    · show vp_updL w _ _ j = _
      by_cases e : j = 190 + 5 * aMade A + i
      · subst e; rw [pk_uLs, if_pos (by omega)]; rfl
      · rw [pk_uLn e, h2]
        by_cases e2 : 190 + 5 * aMade A ≤ j ∧ j < 190 + 5 * aMade A + i
        · rw [if_pos e2, if_pos (by omega)]
        · rw [if_neg e2, if_neg (by omega)]
    · simp (disch := omega) only [ubX11_adds_6, ↓reduceIte, bt_do, bd_do, jn_eq, bI_z, gd_nI, gd_0, gd_1, nI_clamp, nI_add, nI_1, pk_mul, Nat.add_zero, Nat.zero_add, ile_t, ile_f, ilt_t, ilt_f, ieq_t, ieq_f, iz_t, iz_f, ilt0, ige0, im1, Bool.false_eq_true, Bool.true_eq_false, if_true, if_false, lc_ge_t, lc_ge_f, lc_eq_t, lc_eq_f, lc_le_t, lc_le_f, lc_gt_t, lc_gt_f, lc_lt_t, lc_lt_f, nI_l, lN_i, lN_add, lN_1, h6]
  · intro q hR
    obtain ⟨q1, w⟩ := q
    obtain ⟨h1, h2⟩ := hR
    dsimp only at h1 h2
    subst h1
    have hw6 : w 6 = lN (aMade A) := by rw [h2, if_neg (by omega), pk_uLn (by omega), pk_uLn (by omega), pk_uLn (by omega), pk_uLn (by omega), h6]
    refine ⟨_, ⟨vp_updL w 6 (lN (aMade A + 1)), rfl, h.mk hm (fun j j1 j2 j3 => ?_) pk_uLs ?_ ?_ ?_ (fun s hs => ?_) hno⟩, fun rec => ?_⟩
    · rw [pk_uLn j1, h2, if_neg (by omega), pk_uLn (by omega), pk_uLn (by omega), pk_uLn (by omega), pk_uLn (by omega)]
    · rw [pk_uLn (by omega), h2, if_neg (by omega), pk_uLn (by omega), pk_uLn (by omega), pk_uLn (by omega), pk_uLs]
    · rw [pk_uLn (by omega), h2, if_neg (by omega), pk_uLn (by omega), pk_uLn (by omega), pk_uLs]
    · rw [pk_uLn (by omega), h2, if_neg (by omega), pk_uLn (by omega), pk_uLs]
    · rw [pk_uLn (by omega), h2, if_pos (by omega)]
    · simp (disch := omega) only [ubX11_adds_6, ↓reduceIte, bt_do, bd_do, jn_eq, bI_z, gd_nI, gd_0, gd_1, nI_clamp, nI_add, nI_1, pk_mul, Nat.add_zero, Nat.zero_add, ile_t, ile_f, ilt_t, ilt_f, ieq_t, ieq_f, iz_t, iz_f, ilt0, ige0, im1, Bool.false_eq_true, Bool.true_eq_false, if_true, if_false, lc_ge_t, lc_ge_f, lc_eq_t, lc_eq_f, lc_le_t, lc_le_f, lc_gt_t, lc_gt_f, lc_lt_t, lc_lt_f, nI_l, lN_i, lN_add, lN_1, hw6, h6]
