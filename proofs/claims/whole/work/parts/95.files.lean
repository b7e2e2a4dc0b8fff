/-! PURE 95: files that come, are hidden, go, are shared -/
abbrev crA (A : AH) (f k : Nat) : AH := (A.1, A.2.1, A.2.2.1, A.2.2.2.1, upO (aIs A) f 1, upO (aKind A) f k, upO (aMany A) f 0, A.2.2.2.2.2.2.2.1, A.2.2.2.2.2.2.2.2)
abbrev hideA (A : AH) (f : Nat) : AH := (A.1, A.2.1, A.2.2.1, A.2.2.2.1, upO (aIs A) f 2, A.2.2.2.2.2.1, A.2.2.2.2.2.2.1, upO (aSince A) f (aNow A), A.2.2.2.2.2.2.2.2)
abbrev showA (A : AH) (f : Nat) : AH := (A.1, A.2.1, A.2.2.1, A.2.2.2.1, upO (aIs A) f 1, A.2.2.2.2.2)
def shI (A : AH) (f i : Nat) : AH := sSh A (fun c => aSh A c - sN (fun k => if k < aMany A f ∧ aCh A f k = c then 1 else 0) i)
abbrev endA (A : AH) (f : Nat) : AH := (A.1, A.2.1, A.2.2.1, A.2.2.2.1, upO (aIs A) f 0, A.2.2.2.2.2.1, upO (aMany A) f 0, A.2.2.2.2.2.2.2)
def goneA (A : AH) (f : Nat) : AH := endA (shI A f 4) f
theorem RC.cr {A : AH} {v : HS} (h : RC A v) {f k : Nat} (hf : f < 6) : ∃ y, f_X3_begin v.2.2.2.2.2.2.2.2 (nI f) (nI k) = some y ∧ RC (crA A f k) (hFL v y) := by
  refine ⟨(upd v.2.2.2.2.2.2.2.2.1 f (nI 1), upd v.2.2.2.2.2.2.2.2.2.1 f (nI k), v.2.2.2.2.2.2.2.2.2.2.1, upd v.2.2.2.2.2.2.2.2.2.2.2.1 f (nI 0), v.2.2.2.2.2.2.2.2.2.2.2.2), ?_, h.1, h.2.1, h.2.2.1, h.2.2.2.1, fun g hg => ?_⟩
  · simp (disch := omega) only [u_X3_begin, isFile_n hf, ↓reduceIte, bt_do, bd_do, jn_eq, bI_z, gd_nI, gd_0, gd_1, nI_clamp, nI_add, nI_1, pk_mul, Nat.add_zero, Nat.zero_add, ile_t, ile_f, ilt_t, ilt_f, ieq_t, ieq_f, iz_t, iz_f, ilt0, ige0, im1, Bool.false_eq_true, Bool.true_eq_false, if_true, if_false]
  · have h3 := h.2.2.2.2 g hg
    show upd _ f _ g = nI (upO (aIs A) f 1 g) ∧ (upO (aIs A) f 1 g ≠ 0 → upd _ f _ g = nI (upO (aKind A) f k g)) ∧ (upO (aIs A) f 1 g = 2 → v.2.2.2.2.2.2.2.2.2.2.1 g = nI (aSince A g)) ∧ upd _ f _ g = nI (upO (aMany A) f 0 g) ∧ ∀ k', k' < 4 → k' < upO (aMany A) f 0 g → v.2.2.2.2.2.2.2.2.2.2.2.2 (4 * g + k') = nI (aCh A g k')
    by_cases e : g = f
    · subst e
      simp only [pk_us, up_s]
      exact ⟨trivial, fun _ => trivial, fun q => by omega, trivial, fun k' _ q => by omega⟩
    · simp only [pk_un e, up_n e]
      exact h3
theorem RM.cr {A : AH} {b : Nat → Int64} (h : RM A b) (hm : aMade A ≤ 30) {f k : Nat} (hf : f < 6) : RM (crA A f k) (vp_updL (vp_updL (vp_updL b (22 + 8 * f) (lN 1)) (22 + 8 * f + 1) (lN k)) (22 + 8 * f + 2) (lN 0)) := by
  refine h.file hm hf (fun j hj => by rw [pk_uLn (by omega), pk_uLn (by omega), pk_uLn (by omega)]) ⟨?_, ?_, ?_, ?_, fun k' k4 hk' => ?_⟩ (e4 := fun g hg => ⟨up_n hg, up_n hg, up_n hg, rfl, rfl⟩)
  · show _ = lN (upO (aIs A) f 1 f)
    rw [pk_uLn (by omega), pk_uLn (by omega), pk_uLs, up_s]
  · intro _
    show _ = lN (upO (aKind A) f k f)
    rw [pk_uLn (by omega), pk_uLs, up_s]
  · show _ = lN (upO (aMany A) f 0 f)
    rw [pk_uLs, up_s]
  · intro q
    have q : upO (aIs A) f 1 f = 2 := q
    rw [up_s] at q
    omega
  · have hk' : k' < upO (aMany A) f 0 f := hk'
    rw [up_s] at hk'
    omega
theorem AI.cr {n : Nat} {A : AH} (h : AI n A) {f k : Nat} (hf : f < 6) (h0 : aIs A f = 0) (hk : 1 ≤ k ∧ k ≤ 5) : AI n (crA A f k) := by
  obtain ⟨a1, a2, a3, a4, a5, a6, a7, a8, a9, a10, a11, a12, a13, a14⟩ := h
  have hm0 := (a11 f hf).2.2.1 h0
  have hcnt : ∀ c, aCnt (crA A f k) c = aCnt A c := by
    intro c
    have := aCnt_upd (A := A) (A' := crA A f k) hf c (fun g hg => ⟨up_n hg, rfl⟩)
    have e : aMany (crA A f k) f = 0 := up_s _ _ _
    rw [e, hm0, rwCnt_0] at this
    omega
  refine ⟨a1, a2, a3, a4, a5, a6, a7, a8, a9, a10, fun g hg => ?_, fun c hc => ?_, a13, a14⟩
  · have h1 := a11 g hg
    show upO (aIs A) f 1 g ≤ 2 ∧ upO (aMany A) f 0 g ≤ 4 ∧ (upO (aIs A) f 1 g = 0 → upO (aMany A) f 0 g = 0) ∧ (upO (aIs A) f 1 g ≠ 0 → 1 ≤ upO (aKind A) f k g ∧ upO (aKind A) f k g ≤ 5) ∧ aSince A g ≤ aNow A ∧ ∀ k', k' < upO (aMany A) f 0 g → aCh A g k' < aMade A
    by_cases e : g = f
    · subst e
      simp only [up_s]
      exact ⟨by omega, by omega, fun _ => trivial, fun _ => hk, h1.2.2.2.2.1, fun k' q => by omega⟩
    · simp only [up_n e]
      exact h1
  · rw [hcnt c]
    exact a12 c hc
/-! hidden, shown -/
theorem RC.hide {A : AH} {v : HS} (h : RC A v) {f : Nat} (hf : f < 6) (hi : ¬ aIs A f = 0) : ∃ y, f_X3_hide v.2.2.2.2.2.2.2.2 (nI f) (nI (aNow A)) = some y ∧ RC (hideA A f) (hFL v y) := by
  refine ⟨(upd v.2.2.2.2.2.2.2.2.1 f (nI 2), v.2.2.2.2.2.2.2.2.2.1, upd v.2.2.2.2.2.2.2.2.2.2.1 f (nI (aNow A)), v.2.2.2.2.2.2.2.2.2.2.2.1, v.2.2.2.2.2.2.2.2.2.2.2.2), ?_, h.1, h.2.1, h.2.2.1, h.2.2.2.1, fun g hg => ?_⟩
  · simp (disch := omega) only [u_X3_hide, isFile_n hf, ↓reduceIte, bt_do, bd_do, jn_eq, bI_z, gd_nI, gd_0, gd_1, nI_clamp, nI_add, nI_1, pk_mul, Nat.add_zero, Nat.zero_add, ile_t, ile_f, ilt_t, ilt_f, ieq_t, ieq_f, iz_t, iz_f, ilt0, ige0, im1, Bool.false_eq_true, Bool.true_eq_false, if_true, if_false]
  · have h3 := h.2.2.2.2 g hg
    show upd _ f _ g = nI (upO (aIs A) f 2 g) ∧ (upO (aIs A) f 2 g ≠ 0 → v.2.2.2.2.2.2.2.2.2.1 g = nI (aKind A g)) ∧ (upO (aIs A) f 2 g = 2 → upd _ f _ g = nI (upO (aSince A) f (aNow A) g)) ∧ v.2.2.2.2.2.2.2.2.2.2.2.1 g = nI (aMany A g) ∧ _
    by_cases e : g = f
    · subst e
      simp only [pk_us, up_s]
      exact ⟨trivial, fun _ => h3.2.1 hi, fun q => trivial, h3.2.2.2⟩
    · simp only [pk_un e, up_n e]
      exact h3
theorem RM.hide {A : AH} {b : Nat → Int64} (h : RM A b) (hm : aMade A ≤ 30) {f : Nat} (hf : f < 6) (hi : ¬ aIs A f = 0) : RM (hideA A f) (vp_updL (vp_updL b (22 + 8 * f) (lN 2)) (22 + 8 * f + 3) (lN (aNow A))) := by
  have h3 := h.2.2.1 f hf
  refine h.file hm hf (fun j hj => by rw [pk_uLn (by omega), pk_uLn (by omega)]) ⟨?_, ?_, ?_, ?_, fun k' k4 hk' => ?_⟩ (e4 := fun g hg => ⟨up_n hg, rfl, rfl, up_n hg, rfl⟩)
  · show _ = lN (upO (aIs A) f 2 f)
    rw [pk_uLn (by omega), pk_uLs, up_s]
  · intro _
    rw [pk_uLn (by omega), pk_uLn (by omega)]
    exact h3.2.1 hi
  · rw [pk_uLn (by omega), pk_uLn (by omega)]; exact h3.2.2.1
  · intro _
    show _ = lN (upO (aSince A) f (aNow A) f)
    rw [pk_uLs, up_s]
  · rw [pk_uLn (by omega), pk_uLn (by omega)]; exact h3.2.2.2.2 k' k4 hk'
theorem AI.hide {n : Nat} {A : AH} (h : AI n A) {f : Nat} (hi : ¬ aIs A f = 0) : AI n (hideA A f) := by
  obtain ⟨a1, a2, a3, a4, a5, a6, a7, a8, a9, a10, a11, a12, a13, a14⟩ := h
  refine ⟨a1, a2, a3, a4, a5, a6, a7, a8, a9, a10, fun g hg => ?_, a12, a13, a14⟩
  have h1 := a11 g hg
  show upO (aIs A) f 2 g ≤ 2 ∧ aMany A g ≤ 4 ∧ (upO (aIs A) f 2 g = 0 → aMany A g = 0) ∧ (upO (aIs A) f 2 g ≠ 0 → 1 ≤ aKind A g ∧ aKind A g ≤ 5) ∧ upO (aSince A) f (aNow A) g ≤ aNow A ∧ ∀ k', k' < aMany A g → aCh A g k' < aMade A
  by_cases e : g = f
  · subst e
    simp only [up_s]
    exact ⟨by omega, h1.2.1, fun q => by omega, fun _ => h1.2.2.2.1 hi, Nat.le_refl _, h1.2.2.2.2.2⟩
  · simp only [up_n e]
    exact h1
theorem RC.show {A : AH} {v : HS} (h : RC A v) {f : Nat} (hf : f < 6) (hi : aIs A f = 2) : ∃ y, f_X3_showAgain v.2.2.2.2.2.2.2.2 (nI f) = some (nI (aSince A f), y) ∧ RC (showA A f) (hFL v y) := by
  have hs := (h.2.2.2.2 f hf).2.2.1 hi
  refine ⟨(upd v.2.2.2.2.2.2.2.2.1 f (nI 1), v.2.2.2.2.2.2.2.2.2.1, v.2.2.2.2.2.2.2.2.2.2.1, v.2.2.2.2.2.2.2.2.2.2.2.1, v.2.2.2.2.2.2.2.2.2.2.2.2), ?_, h.1, h.2.1, h.2.2.1, h.2.2.2.1, fun g hg => ?_⟩
  · simp (disch := omega) only [u_X3_showAgain, isFile_n hf, hs, ↓reduceIte, bt_do, bd_do, jn_eq, bI_z, gd_nI, gd_0, gd_1, nI_clamp, nI_add, nI_1, pk_mul, Nat.add_zero, Nat.zero_add, ile_t, ile_f, ilt_t, ilt_f, ieq_t, ieq_f, iz_t, iz_f, ilt0, ige0, im1, Bool.false_eq_true, Bool.true_eq_false, if_true, if_false]
  · have h3 := h.2.2.2.2 g hg
    show upd _ f _ g = nI (upO (aIs A) f 1 g) ∧ (upO (aIs A) f 1 g ≠ 0 → v.2.2.2.2.2.2.2.2.2.1 g = nI (aKind A g)) ∧ (upO (aIs A) f 1 g = 2 → v.2.2.2.2.2.2.2.2.2.2.1 g = nI (aSince A g)) ∧ v.2.2.2.2.2.2.2.2.2.2.2.1 g = nI (aMany A g) ∧ _
    by_cases e : g = f
    · subst e
      simp only [pk_us, up_s]
      exact ⟨trivial, fun _ => h3.2.1 (by omega), fun q => by omega, h3.2.2.2⟩
    · simp only [pk_un e, up_n e]
      exact h3
theorem RM.show {A : AH} {b : Nat → Int64} (h : RM A b) (hm : aMade A ≤ 30) {f : Nat} (hf : f < 6) (hi : aIs A f = 2) : RM (showA A f) (vp_updL b (22 + 8 * f) (lN 1)) := by
  have h3 := h.2.2.1 f hf
  refine h.file hm hf (fun j hj => by rw [pk_uLn (by omega)]) ⟨?_, ?_, ?_, ?_, fun k' k4 hk' => ?_⟩ (e4 := fun g hg => ⟨up_n hg, rfl, rfl, rfl, rfl⟩)
  · show _ = lN (upO (aIs A) f 1 f)
    rw [pk_uLs, up_s]
  · intro _
    rw [pk_uLn (by omega)]
    exact h3.2.1 (by omega)
  · rw [pk_uLn (by omega)]; exact h3.2.2.1
  · intro q
    have q : upO (aIs A) f 1 f = 2 := q
    rw [up_s] at q
    omega
  · rw [pk_uLn (by omega)]; exact h3.2.2.2.2 k' k4 hk'
theorem AI.show {n : Nat} {A : AH} (h : AI n A) {f : Nat} (hi : aIs A f = 2) : AI n (showA A f) := by
  obtain ⟨a1, a2, a3, a4, a5, a6, a7, a8, a9, a10, a11, a12, a13, a14⟩ := h
  refine ⟨a1, a2, a3, a4, a5, a6, a7, a8, a9, a10, fun g hg => ?_, a12, a13, a14⟩
  have h1 := a11 g hg
  show upO (aIs A) f 1 g ≤ 2 ∧ aMany A g ≤ 4 ∧ (upO (aIs A) f 1 g = 0 → aMany A g = 0) ∧ (upO (aIs A) f 1 g ≠ 0 → 1 ≤ aKind A g ∧ aKind A g ≤ 5) ∧ aSince A g ≤ aNow A ∧ ∀ k', k' < aMany A g → aCh A g k' < aMade A
  by_cases e : g = f
  · subst e
    simp only [up_s]
    exact ⟨by omega, h1.2.1, fun q => by omega, fun _ => h1.2.2.2.1 (by omega), h1.2.2.2.2⟩
  · simp only [up_n e]
    exact h1
/-! gone -/
theorem shI_0 (A : AH) (f : Nat) : shI A f 0 = A := by
  have e : (fun c => aSh A c - sN (fun k => if k < aMany A f ∧ aCh A f k = c then 1 else 0) 0) = aSh A := by
    funext c
    rfl
  unfold shI
  rw [e]
theorem shI_s {A : AH} {f i : Nat} (hi : i < aMany A f) : shI A f (i + 1) = setSh (shI A f i) (aCh A f i) (aSh (shI A f i) (aCh A f i) - 1) := by
  have e : (fun c => aSh A c - sN (fun k => if k < aMany A f ∧ aCh A f k = c then 1 else 0) (i + 1)) = upO (fun c => aSh A c - sN (fun k => if k < aMany A f ∧ aCh A f k = c then 1 else 0) i) (aCh A f i) (aSh A (aCh A f i) - sN (fun k => if k < aMany A f ∧ aCh A f k = aCh A f i then 1 else 0) i - 1) := by
    funext c
    by_cases q : c = aCh A f i
    · subst q
      rw [up_s, sN, if_pos ⟨hi, rfl⟩]
      omega
    · rw [up_n q, sN, if_neg (fun z => q z.2.symm), Nat.add_zero]
  show sSh A _ = sSh A _
  rw [e]
  rfl
theorem shI_n {A : AH} {f i : Nat} (hi : aMany A f ≤ i) : shI A f (i + 1) = shI A f i := by
  have e : (fun c => aSh A c - sN (fun k => if k < aMany A f ∧ aCh A f k = c then 1 else 0) (i + 1)) = (fun c => aSh A c - sN (fun k => if k < aMany A f ∧ aCh A f k = c then 1 else 0) i) := by
    funext c
    rw [sN, if_neg (by omega), Nat.add_zero]
  unfold shI
  rw [e]
theorem sN_mono {g : Nat → Nat} {n m : Nat} (h : n ≤ m) : sN g n ≤ sN g m := by
  induction m with
  | zero => rw [show n = 0 by omega]; exact Nat.le_refl _
  | succ m ih =>
    by_cases e : n = m + 1
    · rw [e]; exact Nat.le_refl _
    · have := ih (by omega)
      rw [sN]
      omega
theorem shI_pos {A : AH} {n f i : Nat} (hA : AI n A) (hf : f < 6) (hi : i < aMany A f) : 1 ≤ aSh (shI A f i) (aCh A f i) := by
  have h4 := (hA.2.2.2.2.2.2.2.2.2.2.1 f hf).2.1
  have hc := (hA.2.2.2.2.2.2.2.2.2.2.1 f hf).2.2.2.2.2 i hi
  have h1 := (hA.2.2.2.2.2.2.2.2.2.2.2.1 _ hc).2.2
  have h2 := rwCnt_ge (A := A) hf (aCh A f i)
  have h3 : sN (fun k => if k < aMany A f ∧ aCh A f k = aCh A f i then 1 else 0) (i + 1) ≤ sN (fun k => if k < aMany A f ∧ aCh A f k = aCh A f i then 1 else 0) 4 := sN_mono (by omega)
  rw [sN, if_pos ⟨hi, rfl⟩] at h3
  have h5 : rwCnt (aMany A f) (aCh A f) (aCh A f i) = sN (fun k => if k < aMany A f ∧ aCh A f k = aCh A f i then 1 else 0) 4 := rfl
  show 1 ≤ aSh A (aCh A f i) - sN (fun k => if k < aMany A f ∧ aCh A f k = aCh A f i then 1 else 0) i
  omega
theorem AI.gone {n : Nat} {A : AH} (h : AI n A) {f : Nat} (hf : f < 6) : AI n (goneA A f) := by
  obtain ⟨a1, a2, a3, a4, a5, a6, a7, a8, a9, a10, a11, a12, a13, a14⟩ := h
  refine ⟨a1, a2, a3, a4, a5, a6, a7, a8, a9, a10, fun g hg => ?_, fun c hc => ?_, a13, a14⟩
  · have h1 := a11 g hg
    show upO (aIs A) f 0 g ≤ 2 ∧ upO (aMany A) f 0 g ≤ 4 ∧ (upO (aIs A) f 0 g = 0 → upO (aMany A) f 0 g = 0) ∧ (upO (aIs A) f 0 g ≠ 0 → 1 ≤ aKind A g ∧ aKind A g ≤ 5) ∧ aSince A g ≤ aNow A ∧ ∀ k', k' < upO (aMany A) f 0 g → aCh A g k' < aMade A
    by_cases e : g = f
    · subst e
      simp only [up_s]
      exact ⟨by omega, by omega, fun _ => trivial, fun q => absurd rfl q, h1.2.2.2.2.1, fun k' q => by omega⟩
    · simp only [up_n e]
      exact h1
  · have h1 := a12 c hc
    have hx := aCnt_upd (A := A) (A' := goneA A f) hf c (fun g hg => ⟨up_n hg, rfl⟩)
    have e : aMany (goneA A f) f = 0 := up_s _ _ _
    rw [e, rwCnt_0] at hx
    refine ⟨h1.1, h1.2.1, ?_⟩
    show aSh A c - rwCnt (aMany A f) (aCh A f) c = _
    omega
theorem RC.end {A : AH} {v : HS} (h : RC A v) {f : Nat} (hf : f < 6) : ∃ y, f_X3_end v.2.2.2.2.2.2.2.2 (nI f) = some y ∧ RC (endA A f) (hFL v y) := by
  refine ⟨(upd v.2.2.2.2.2.2.2.2.1 f (nI 0), v.2.2.2.2.2.2.2.2.2.1, v.2.2.2.2.2.2.2.2.2.2.1, upd v.2.2.2.2.2.2.2.2.2.2.2.1 f (nI 0), v.2.2.2.2.2.2.2.2.2.2.2.2), ?_, h.1, h.2.1, h.2.2.1, h.2.2.2.1, fun g hg => ?_⟩
  · simp (disch := omega) only [u_X3_end, isFile_n hf, ↓reduceIte, bt_do, bd_do, jn_eq, bI_z, gd_nI, gd_0, gd_1, nI_clamp, nI_add, nI_1, pk_mul, Nat.add_zero, Nat.zero_add, ile_t, ile_f, ilt_t, ilt_f, ieq_t, ieq_f, iz_t, iz_f, ilt0, ige0, im1, Bool.false_eq_true, Bool.true_eq_false, if_true, if_false]
  · have h3 := h.2.2.2.2 g hg
    show upd _ f _ g = nI (upO (aIs A) f 0 g) ∧ (upO (aIs A) f 0 g ≠ 0 → v.2.2.2.2.2.2.2.2.2.1 g = nI (aKind A g)) ∧ (upO (aIs A) f 0 g = 2 → v.2.2.2.2.2.2.2.2.2.2.1 g = nI (aSince A g)) ∧ upd _ f _ g = nI (upO (aMany A) f 0 g) ∧ ∀ k', k' < 4 → k' < upO (aMany A) f 0 g → v.2.2.2.2.2.2.2.2.2.2.2.2 (4 * g + k') = nI (aCh A g k')
    by_cases e : g = f
    · subst e
      simp only [pk_us, up_s]
      exact ⟨trivial, fun q => absurd rfl q, fun q => by omega, trivial, fun k' _ q => by omega⟩
    · simp only [pk_un e, up_n e]
      exact h3
theorem chunkOf_none {A : AH} {x : FL} (h : RFL A x) {f k : Nat} (hf : f < 6) (hk : aMany A f ≤ k) (h4 : k < 4) : f_X3_chunkOf x (nI f) (nI k) = some (-1) := by
  have h1 := (h f hf).2.2.2.1
  simp (disch := omega) only [u_X3_chunkOf, isFile_n hf, u_X10_within, ↓reduceIte, bt_do, bd_do, jn_eq, bI_z, gd_nI, gd_0, gd_1, nI_clamp, nI_add, nI_1, pk_mul, Nat.add_zero, Nat.zero_add, ile_t, ile_f, ilt_t, ilt_f, ieq_t, ieq_f, iz_t, iz_f, ilt0, ige0, im1, Bool.false_eq_true, Bool.true_eq_false, if_true, if_false, h1]
theorem chunkOf_e {A : AH} {x : FL} (h : RFL A x) {f k : Nat} (hf : f < 6) (hk : k < aMany A f) (h4 : k < 4) (hm : aMany A f ≤ 4) : f_X3_chunkOf x (nI f) (nI k) = some (nI (aCh A f k)) := by
  have h1 := h f hf
  have e : f * 4 + k = 4 * f + k := by omega
  simp (disch := omega) only [u_X3_chunkOf, isFile_n hf, u_X10_within, ↓reduceIte, bt_do, bd_do, jn_eq, bI_z, gd_nI, gd_0, gd_1, nI_clamp, nI_add, nI_1, pk_mul, Nat.add_zero, Nat.zero_add, ile_t, ile_f, ilt_t, ilt_f, ieq_t, ieq_f, iz_t, iz_f, ilt0, ige0, im1, Bool.false_eq_true, Bool.true_eq_false, if_true, if_false, h1.2.2.2.1, e, h1.2.2.2.2 k h4 hk]
theorem lose_c {A : AH} {v : HS} {n : Nat} (h : RC A v) (hA : AI n A) {f : Nat} (hf : f < 6) : ∃ v', f_X5_loseFile v (nI f) = some v' ∧ RC (goneA A f) v' := by
  have h30 : aMade A ≤ 30 := hA.2.2.2.2.2.2.1
  have h4 := (hA.2.2.2.2.2.2.2.2.2.2.1 f hf).2.1
  have hm1 : ∀ x : CK, f_X1_has x (-1) = false := fun x => by
    rw [u_X1_has, if_pos (by decide)]
  rw [u_X5_loseFile, jn_eq]
  refine lp_gen (fun i q => q.1 = nI i ∧ RC (shI A f i) q.2) (fun X => ∃ v', X = some v' ∧ RC (goneA A f) v') 4 (by omega) ?_ ?_ ?_
  · exact ⟨rfl, by rw [shI_0]; exact h⟩
  · intro i q hi hR
    obtain ⟨q1, w⟩ := q
    obtain ⟨h1, h2⟩ := hR
    dsimp only at h1 h2
    subst h1
    left
    have hma : aMany (shI A f i) f = aMany A f := rfl
    by_cases e : i < aMany A f
    · have hc := (hA.2.2.2.2.2.2.2.2.2.2.1 f hf).2.2.2.2.2 i e
      obtain ⟨y, hy, hRy⟩ := shDec_c h2 (c := aCh A f i) hc h30 (shI_pos hA hf e)
      rw [← shI_s e] at hRy
      have hch := chunkOf_e h2.2.2.2.2 hf (k := i) e hi h4
      have hch : f_X3_chunkOf w.2.2.2.2.2.2.2.2 (nI f) (nI i) = some (nI (aCh A f i)) := hch
      refine ⟨(nI (i + 1), hCK w y), ⟨rfl, hRy⟩, fun rec => ?_⟩
      simp (disch := omega) only [ubX5_loseFile_1, hch, hy, ↓reduceIte, bt_do, bd_do, jn_eq, bI_z, gd_nI, gd_0, gd_1, nI_clamp, nI_add, nI_1, pk_mul, Nat.add_zero, Nat.zero_add, ile_t, ile_f, ilt_t, ilt_f, ieq_t, ieq_f, iz_t, iz_f, ilt0, ige0, im1, Bool.false_eq_true, Bool.true_eq_false, if_true, if_false]
    · have hch := chunkOf_none h2.2.2.2.2 hf (k := i) (by rw [hma]; omega) hi
      refine ⟨(nI (i + 1), w), ⟨rfl, by rw [shI_n (by omega)]; exact h2⟩, fun rec => ?_⟩
      simp (disch := omega) only [ubX5_loseFile_1, hch, u_X1_share, hm1, ↓reduceIte, bt_do, bd_do, jn_eq, bI_z, gd_nI, gd_0, gd_1, nI_clamp, nI_add, nI_1, pk_mul, Nat.add_zero, Nat.zero_add, ile_t, ile_f, ilt_t, ilt_f, ieq_t, ieq_f, iz_t, iz_f, ilt0, ige0, im1, Bool.false_eq_true, Bool.true_eq_false, if_true, if_false]
  · intro q hR
    obtain ⟨q1, w⟩ := q
    obtain ⟨h1, h2⟩ := hR
    dsimp only at h1 h2
    subst h1
    obtain ⟨y, hy, hRy⟩ := RC.end h2 hf
    refine ⟨_, ⟨_, rfl, hRy⟩, fun rec => ?_⟩
    simp (disch := omega) only [ubX5_loseFile_1, hy, ↓reduceIte, bt_do, bd_do, jn_eq, bI_z, gd_nI, gd_0, gd_1, nI_clamp, nI_add, nI_1, pk_mul, Nat.add_zero, Nat.zero_add, ile_t, ile_f, ilt_t, ilt_f, ieq_t, ieq_f, iz_t, iz_f, ilt0, ige0, im1, Bool.false_eq_true, Bool.true_eq_false, if_true, if_false]
theorem chunkOf_r {A : AH} {b : Nat → Int64} (h : RM A b) {f k : Nat} (hf : f < 6) (hk : k < aMany A f) (h4 : k < 4) : f_X11_chunkOf b (nI f) (nI k) = some (nI (aCh A f k)) := by
  have h1 := h.2.2.1 f hf
  simp (disch := omega) only [u_X11_chunkOf, ↓reduceIte, bt_do, bd_do, jn_eq, bI_z, gd_nI, gd_0, gd_1, nI_clamp, nI_add, nI_1, pk_mul, Nat.add_zero, Nat.zero_add, ile_t, ile_f, ilt_t, ilt_f, ieq_t, ieq_f, iz_t, iz_f, ilt0, ige0, im1, Bool.false_eq_true, Bool.true_eq_false, if_true, if_false, lc_ge_t, lc_ge_f, lc_eq_t, lc_eq_f, lc_le_t, lc_le_f, lc_gt_t, lc_gt_f, lc_lt_t, lc_lt_f, nI_l, lN_i, lN_add, lN_1, h1.2.2.2.2 k h4 hk]
theorem RM.is0 {A : AH} {b : Nat → Int64} (h : RM A b) (hm : aMade A ≤ 30) {f : Nat} (hf : f < 6) : RM (sIs A (upO (aIs A) f 0)) (vp_updL b (22 + 8 * f) (lN 0)) := by
  have h3 := h.2.2.1 f hf
  refine h.file hm hf (fun j hj => by rw [pk_uLn (by omega)]) ⟨?_, ?_, ?_, ?_, fun k' k4 hk' => ?_⟩ (e4 := fun g hg => ⟨up_n hg, rfl, rfl, rfl, rfl⟩)
  · show _ = lN (upO (aIs A) f 0 f)
    rw [pk_uLs, up_s]
  · intro q
    exact absurd (up_s (aIs A) f 0) q
  · rw [pk_uLn (by omega)]; exact h3.2.2.1
  · intro q
    have q : upO (aIs A) f 0 f = 2 := q
    rw [up_s] at q
    omega
  · rw [pk_uLn (by omega)]; exact h3.2.2.2.2 k' k4 hk'
theorem RM.many0 {A : AH} {b : Nat → Int64} (h : RM A b) (hm : aMade A ≤ 30) {f : Nat} (hf : f < 6) : RM (sMany A (upO (aMany A) f 0)) (vp_updL b (22 + 8 * f + 2) (lN 0)) := by
  have h3 := h.2.2.1 f hf
  refine h.file hm hf (fun j hj => by rw [pk_uLn (by omega)]) ⟨?_, ?_, ?_, ?_, fun k' k4 hk' => ?_⟩ (e4 := fun g hg => ⟨rfl, rfl, up_n hg, rfl, rfl⟩)
  · rw [pk_uLn (by omega)]; exact h3.1
  · rw [pk_uLn (by omega)]; exact h3.2.1
  · show _ = lN (upO (aMany A) f 0 f)
    rw [pk_uLs, up_s]
  · rw [pk_uLn (by omega)]; exact h3.2.2.2.1
  · have hk' : k' < upO (aMany A) f 0 f := hk'
    rw [up_s] at hk'
    omega
theorem goes_m {A : AH} {b : Nat → Int64} {n : Nat} (h : RM A b) (hA : AI n A) {f : Nat} (hf : f < 6) : ∃ b', f_X11_goes b (nI f) = some b' ∧ RM (goneA A f) b' := by
  have h30 : aMade A ≤ 30 := hA.2.2.2.2.2.2.1
  have h4 := (hA.2.2.2.2.2.2.2.2.2.2.1 f hf).2.1
  simp (disch := omega) only [u_X11_goes, ↓reduceIte, bt_do, bd_do, jn_eq, bI_z, gd_nI, gd_0, gd_1, nI_clamp, nI_add, nI_1, pk_mul, Nat.add_zero, Nat.zero_add, ile_t, ile_f, ilt_t, ilt_f, ieq_t, ieq_f, iz_t, iz_f, ilt0, ige0, im1, Bool.false_eq_true, Bool.true_eq_false, if_true, if_false]
  refine lp_gen (fun i q => q.1 = nI i ∧ RM (sIs (shI A f i) (upO (aIs A) f 0)) q.2) (fun X => ∃ b', X = some b' ∧ RM (goneA A f) b') (aMany A f) (by omega) ?_ ?_ ?_
  · refine ⟨rfl, ?_⟩
    rw [shI_0]
    exact h.is0 h30 hf
  · intro i q hi hR
    obtain ⟨q1, w⟩ := q
    obtain ⟨h1, h2⟩ := hR
    dsimp only at h1 h2
    subst h1
    left
    have hc := (hA.2.2.2.2.2.2.2.2.2.2.1 f hf).2.2.2.2.2 i hi
    have hmw : f_X11_many w (nI f) = some (nI (aMany A f)) := many_r h2 hf
    have hcw : f_X11_chunkOf w (nI f) (nI i) = some (nI (aCh A f i)) := chunkOf_r h2 hf (k := i) hi (by omega)
    have hsw : w (70 + 4 * aCh A f i + 1) = lN (aSh (shI A f i) (aCh A f i)) := (h2.2.2.2.1 (aCh A f i) hc).2.1
    have hp := shI_pos hA hf hi
    have hR3 := h2.sh h30 (c := aCh A f i) hc (aSh (shI A f i) (aCh A f i) - 1)
    refine ⟨(nI (i + 1), vp_updL w (70 + 4 * aCh A f i + 1) (lN (aSh (shI A f i) (aCh A f i) - 1))), ⟨rfl, by rw [shI_s hi]; exact hR3⟩, fun rec => ?_⟩
    simp (disch := omega) only [ubX11_goes_2, hmw, hcw, hsw, lN_sub, ↓reduceIte, bt_do, bd_do, jn_eq, bI_z, gd_nI, gd_0, gd_1, nI_clamp, nI_add, nI_1, pk_mul, Nat.add_zero, Nat.zero_add, ile_t, ile_f, ilt_t, ilt_f, ieq_t, ieq_f, iz_t, iz_f, ilt0, ige0, im1, Bool.false_eq_true, Bool.true_eq_false, if_true, if_false, lc_ge_t, lc_ge_f, lc_eq_t, lc_eq_f, lc_le_t, lc_le_f, lc_gt_t, lc_gt_f, lc_lt_t, lc_lt_f, nI_l, lN_i, lN_add, lN_1]
  · intro q hR
    obtain ⟨q1, w⟩ := q
    obtain ⟨h1, h2⟩ := hR
    dsimp only at h1 h2
    subst h1
    have hmw : f_X11_many w (nI f) = some (nI (aMany A f)) := many_r h2 hf
    have hR3 := h2.many0 h30 hf
    have e4 : shI A f 4 = shI A f (aMany A f) := by
      have key : ∀ d, shI A f (aMany A f + d) = shI A f (aMany A f) := by
        intro d
        induction d with
        | zero => rfl
        | succ d ih => rw [show aMany A f + (d + 1) = aMany A f + d + 1 by omega, shI_n (by omega), ih]
      have := key (4 - aMany A f)
      rw [show aMany A f + (4 - aMany A f) = 4 by omega] at this
      exact this
    refine ⟨_, ⟨vp_updL w (22 + 8 * f + 2) (lN 0), rfl, by unfold goneA; rw [e4]; exact hR3⟩, fun rec => ?_⟩
    simp (disch := omega) only [ubX11_goes_2, hmw, ↓reduceIte, bt_do, bd_do, jn_eq, bI_z, gd_nI, gd_0, gd_1, nI_clamp, nI_add, nI_1, pk_mul, Nat.add_zero, Nat.zero_add, ile_t, ile_f, ilt_t, ilt_f, ieq_t, ieq_f, iz_t, iz_f, ilt0, ige0, im1, Bool.false_eq_true, Bool.true_eq_false, if_true, if_false, lc_ge_t, lc_ge_f, lc_eq_t, lc_eq_f, lc_le_t, lc_le_f, lc_gt_t, lc_gt_f, lc_lt_t, lc_lt_f, nI_l, lN_i, lN_add, lN_1]
