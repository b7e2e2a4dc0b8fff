/-! PURE 83: the house changed, what stays true of it, how the model and the class hold it then -/
abbrev sNum (A : AH) (g : Nat → Nat) : AH := (g, A.2)
abbrev sUp (A : AH) (g : Nat → Nat) : AH := (A.1, g, A.2.2)
abbrev sRoom (A : AH) (g : Nat → Nat) : AH := (A.1, A.2.1, g, A.2.2.2)
abbrev sSpo (A : AH) (g : Nat → Nat) : AH := (A.1, A.2.1, A.2.2.1, g, A.2.2.2.2)
abbrev sIs (A : AH) (g : Nat → Nat) : AH := (A.1, A.2.1, A.2.2.1, A.2.2.2.1, g, A.2.2.2.2.2)
abbrev sKind (A : AH) (g : Nat → Nat) : AH := (A.1, A.2.1, A.2.2.1, A.2.2.2.1, A.2.2.2.2.1, g, A.2.2.2.2.2.2)
abbrev sMany (A : AH) (g : Nat → Nat) : AH := (A.1, A.2.1, A.2.2.1, A.2.2.2.1, A.2.2.2.2.1, A.2.2.2.2.2.1, g, A.2.2.2.2.2.2.2)
abbrev sSince (A : AH) (g : Nat → Nat) : AH := (A.1, A.2.1, A.2.2.1, A.2.2.2.1, A.2.2.2.2.1, A.2.2.2.2.2.1, A.2.2.2.2.2.2.1, g, A.2.2.2.2.2.2.2.2)
abbrev sVer (A : AH) (g : Nat → Nat) : AH := (A.1, A.2.1, A.2.2.1, A.2.2.2.1, A.2.2.2.2.1, A.2.2.2.2.2.1, A.2.2.2.2.2.2.1, A.2.2.2.2.2.2.2.1, g, A.2.2.2.2.2.2.2.2.2)
abbrev sSh (A : AH) (g : Nat → Nat) : AH := (A.1, A.2.1, A.2.2.1, A.2.2.2.1, A.2.2.2.2.1, A.2.2.2.2.2.1, A.2.2.2.2.2.2.1, A.2.2.2.2.2.2.2.1, A.2.2.2.2.2.2.2.2.1, g, A.2.2.2.2.2.2.2.2.2.2)
abbrev sCh (A : AH) (g : Nat → Nat → Nat) : AH := (A.1, A.2.1, A.2.2.1, A.2.2.2.1, A.2.2.2.2.1, A.2.2.2.2.2.1, A.2.2.2.2.2.2.1, A.2.2.2.2.2.2.2.1, A.2.2.2.2.2.2.2.2.1, A.2.2.2.2.2.2.2.2.2.1, g, A.2.2.2.2.2.2.2.2.2.2.2)
abbrev sLs (A : AH) (g : Nat → Option (Nat × Nat)) : AH := (A.1, A.2.1, A.2.2.1, A.2.2.2.1, A.2.2.2.2.1, A.2.2.2.2.2.1, A.2.2.2.2.2.2.1, A.2.2.2.2.2.2.2.1, A.2.2.2.2.2.2.2.2.1, A.2.2.2.2.2.2.2.2.2.1, A.2.2.2.2.2.2.2.2.2.2.1, g, A.2.2.2.2.2.2.2.2.2.2.2.2)
abbrev sCp (A : AH) (g : Nat → Nat → Option CPY) : AH := (A.1, A.2.1, A.2.2.1, A.2.2.2.1, A.2.2.2.2.1, A.2.2.2.2.2.1, A.2.2.2.2.2.2.1, A.2.2.2.2.2.2.2.1, A.2.2.2.2.2.2.2.2.1, A.2.2.2.2.2.2.2.2.2.1, A.2.2.2.2.2.2.2.2.2.2.1, A.2.2.2.2.2.2.2.2.2.2.2.1, g)
theorem up_s {α : Type} (D : Nat → α) (k : Nat) (o : α) : upO D k o k = o := if_pos rfl
theorem up_n {α : Type} {D : Nat → α} {k j : Nat} {o : α} (h : ¬ j = k) : upO D k o j = D j := if_neg h
abbrev setSpo (A : AH) (s x : Nat) : AH := sSpo A (upO (aSpo A) s x)
abbrev setUp (A : AH) (s x : Nat) : AH := sUp A (upO (aUp A) s x)
abbrev setLs (A : AH) (c : Nat) (o : Option (Nat × Nat)) : AH := sLs A (upO (aLs A) c o)
abbrev setCp (A : AH) (c s : Nat) (o : Option CPY) : AH := sCp A (upO (aCp A) c (upO (aCp A c) s o))
abbrev setNow (A : AH) (t : Nat) : AH := sNum A (upO A.1 5 t)
theorem cp_s (A : AH) (c s : Nat) (o : Option CPY) : aCp (setCp A c s o) c s = o := by
  show upO (aCp A) c (upO (aCp A c) s o) c s = o
  rw [up_s, up_s]
theorem cp_n {A : AH} {c s c' s' : Nat} {o : Option CPY} (h : ¬ (c' = c ∧ s' = s)) : aCp (setCp A c s o) c' s' = aCp A c' s' := by
  show upO (aCp A) c (upO (aCp A c) s o) c' s' = _
  by_cases hc : c' = c
  · subst hc
    rw [up_s, up_n (fun q => h ⟨rfl, q⟩)]
  · rw [up_n hc]
/-! what stays true -/
theorem AI.mono {n m : Nat} {A : AH} (h : AI n A) (hm : n ≤ m) : AI m A := by
  obtain ⟨a1, a2, a3, a4, a5, a6, a7, a8, a9, a10, a11, a12, a13, a14⟩ := h
  refine ⟨a1, a2, a3, a4, a5, by omega, a7, a8, a9, a10, a11, fun c hc => ?_, fun c h t hc e => ?_, a14⟩
  · have := a12 c hc
    exact ⟨this.1, by omega, this.2.2⟩
  · have := a13 c h t hc e
    exact ⟨this.1, by omega⟩
theorem AI.spo {n : Nat} {A : AH} (h : AI n A) {s x : Nat} (hx : x ≤ 9) : AI n (setSpo A s x) := by
  obtain ⟨a1, a2, a3, a4, a5, a6, a7, a8, a9, a10, a11, a12, a13, a14⟩ := h
  refine ⟨a1, a2, a3, a4, a5, a6, a7, fun s' hs' => ⟨(a8 s' hs').1, ?_⟩, a9, a10, a11, a12, a13, a14⟩
  show upO (aSpo A) s x s' ≤ 9
  by_cases e : s' = s
  · rw [e, up_s]; exact hx
  · rw [up_n e]; exact (a8 s' hs').2
theorem AI.up {n : Nat} {A : AH} (h : AI n A) {s x : Nat} (hs : s < nS A) (hx : x ≤ 1) : AI n (setUp A s x) := by
  obtain ⟨a1, a2, a3, a4, a5, a6, a7, a8, a9, a10, a11, a12, a13, a14⟩ := h
  refine ⟨a1, a2, a3, a4, a5, a6, a7, fun s' hs' => ⟨?_, (a8 s' hs').2⟩, a9, fun s' hs' => ?_, a11, a12, a13, a14⟩
  · show upO (aUp A) s x s' ≤ 1
    by_cases e : s' = s
    · rw [e, up_s]; exact hx
    · rw [up_n e]; exact (a8 s' hs').1
  · show upO (aUp A) s x s' = 0
    have hs' : nS A ≤ s' := hs'
    rw [up_n (by omega)]
    exact a10 s' hs'
theorem AI.lsN {n : Nat} {A : AH} (h : AI n A) (c : Nat) : AI n (setLs A c none) := by
  obtain ⟨a1, a2, a3, a4, a5, a6, a7, a8, a9, a10, a11, a12, a13, a14⟩ := h
  refine ⟨a1, a2, a3, a4, a5, a6, a7, a8, a9, a10, a11, a12, fun c' h t hc' e => ?_, a14⟩
  have e : upO (aLs A) c none c' = some (h, t) := e
  by_cases q : c' = c
  · rw [q, up_s] at e; cases e
  · rw [up_n q] at e; exact a13 c' h t hc' e
theorem AI.lsS {n : Nat} {A : AH} (h : AI n A) (c hh tt : Nat) (hs : hh < nS A) (ht : tt ≤ 20 + 50 * n) : AI n (setLs A c (some (hh, tt))) := by
  obtain ⟨a1, a2, a3, a4, a5, a6, a7, a8, a9, a10, a11, a12, a13, a14⟩ := h
  refine ⟨a1, a2, a3, a4, a5, a6, a7, a8, a9, a10, a11, a12, fun c' h t hc' e => ?_, a14⟩
  have e : upO (aLs A) c (some (hh, tt)) c' = some (h, t) := e
  by_cases q : c' = c
  · rw [q, up_s] at e; cases e; exact ⟨hs, ht⟩
  · rw [up_n q] at e; exact a13 c' h t hc' e
theorem AI.cpN {n : Nat} {A : AH} (h : AI n A) (c s : Nat) : AI n (setCp A c s none) := by
  obtain ⟨a1, a2, a3, a4, a5, a6, a7, a8, a9, a10, a11, a12, a13, a14⟩ := h
  refine ⟨a1, a2, a3, a4, a5, a6, a7, a8, a9, a10, a11, a12, a13, fun c' s' q e => ?_⟩
  by_cases k : c' = c ∧ s' = s
  · obtain ⟨rfl, rfl⟩ := k
    rw [cp_s] at e; cases e
  · rw [cp_n k] at e; exact a14 c' s' q e
theorem AI.cpS {n : Nat} {A : AH} (h : AI n A) {c s : Nat} {q : CPY} (hc : c < aMade A) (hs : s < nS A) (hq : okC (aSize A) (aVer A c) q) : AI n (setCp A c s (some q)) := by
  obtain ⟨a1, a2, a3, a4, a5, a6, a7, a8, a9, a10, a11, a12, a13, a14⟩ := h
  refine ⟨a1, a2, a3, a4, a5, a6, a7, a8, a9, a10, a11, a12, a13, fun c' s' q' e => ?_⟩
  by_cases k : c' = c ∧ s' = s
  · obtain ⟨rfl, rfl⟩ := k
    rw [cp_s] at e; cases e; exact ⟨hc, hs, hq⟩
  · rw [cp_n k] at e; exact a14 c' s' q' e
theorem AI.now {n : Nat} {A : AH} (h : AI n A) {k : Nat} (hk : k ≤ 50) : AI (n + 1) (setNow A (aNow A + k)) := by
  obtain ⟨a1, a2, a3, a4, a5, a6, a7, a8, a9, a10, a11, a12, a13, a14⟩ := h.mono (Nat.le_succ n)
  have a6' : aNow A ≤ 50 * n := h.2.2.2.2.2.1
  refine ⟨a1, a2, a3, a4, a5, ?_, a7, a8, a9, a10, fun f hf => ?_, a12, a13, a14⟩
  · show aNow A + k ≤ 50 * (n + 1)
    omega
  · have := a11 f hf
    refine ⟨this.1, this.2.1, this.2.2.1, this.2.2.2.1, ?_, this.2.2.2.2.2⟩
    show aSince A f ≤ aNow A + k
    have := this.2.2.2.2.1
    omega
/-! the model -/
theorem RM.cp {A : AH} {b : Nat → Int64} (h : RM A b) (hm : aMade A ≤ 30) {c s : Nat} (hc : c < aMade A) (hs : s < 5) (o : Option CPY) : RM (setCp A c s o) (vp_updL b (190 + 5 * c + s) (cpM o)) := by
  refine ⟨fun k hk => ?_, fun s' hs' => ?_, fun f hf => ?_, fun c' hc' => ?_, fun c' s' hc' hs' => ?_⟩
  · rw [pk_uLn (by omega)]; exact h.1 k hk
  · have := h.2.1 s' hs'
    simp (disch := omega) only [pk_uLn]
    exact this
  · refine ⟨?_, ?_, ?_, ?_, fun k h4 hk => ?_⟩
    · rw [pk_uLn (by omega)]; exact (h.2.2.1 f hf).1
    · rw [pk_uLn (by omega)]; exact (h.2.2.1 f hf).2.1
    · rw [pk_uLn (by omega)]; exact (h.2.2.1 f hf).2.2.1
    · rw [pk_uLn (by omega)]; exact (h.2.2.1 f hf).2.2.2.1
    · rw [pk_uLn (by omega)]; exact (h.2.2.1 f hf).2.2.2.2 k h4 hk
  · have hc' : c' < aMade A := hc'
    have := h.2.2.2.1 c' hc'
    simp (disch := omega) only [pk_uLn]
    exact this
  · have hc' : c' < aMade A := hc'
    by_cases k : c' = c ∧ s' = s
    · obtain ⟨rfl, rfl⟩ := k
      rw [pk_uLs, cp_s]
    · rw [cp_n k, pk_uLn (by omega)]
      exact h.2.2.2.2 c' s' hc' hs'

/-- a row that is elsewhere as it was -/
def RMS (A : AH) (b : Nat → Int64) (s : Nat) : Prop := b (7 + 3 * s) = lN (aUp A s) ∧ (s < nS A → b (7 + 3 * s + 1) = lN (aRoom A s)) ∧ b (7 + 3 * s + 2) = lN (aSpo A s)
def RMF (A : AH) (b : Nat → Int64) (f : Nat) : Prop := b (22 + 8 * f) = lN (aIs A f) ∧ (aIs A f ≠ 0 → b (22 + 8 * f + 1) = lN (aKind A f)) ∧ b (22 + 8 * f + 2) = lN (aMany A f) ∧ (aIs A f = 2 → b (22 + 8 * f + 3) = lN (aSince A f)) ∧ ∀ k, k < 4 → k < aMany A f → b (22 + 8 * f + 4 + k) = lN (aCh A f k)
def RMC (A : AH) (b : Nat → Int64) (c : Nat) : Prop := b (70 + 4 * c) = lN (aVer A c) ∧ b (70 + 4 * c + 1) = lN (aSh A c) ∧ lsM (aLs A c) (b (70 + 4 * c + 2)) (b (70 + 4 * c + 3))
theorem RMS.of {A A' : AH} {b b' : Nat → Int64} {s : Nat} (h : RMS A b s) (e0 : b' (7 + 3 * s) = b (7 + 3 * s)) (e1 : b' (7 + 3 * s + 1) = b (7 + 3 * s + 1)) (e2 : b' (7 + 3 * s + 2) = b (7 + 3 * s + 2)) (f0 : nS A' = nS A := by rfl) (f1 : aUp A' s = aUp A s := by rfl) (f2 : aRoom A' s = aRoom A s := by rfl) (f3 : aSpo A' s = aSpo A s := by rfl) : RMS A' b' s := by
  unfold RMS
  rw [e0, e1, e2, f0, f1, f2, f3]
  exact h
theorem RMF.of {A A' : AH} {b b' : Nat → Int64} {f : Nat} (h : RMF A b f) (e : ∀ j, j < 8 → b' (22 + 8 * f + j) = b (22 + 8 * f + j)) (f0 : aIs A' f = aIs A f := by rfl) (f1 : aKind A' f = aKind A f := by rfl) (f2 : aMany A' f = aMany A f := by rfl) (f3 : aSince A' f = aSince A f := by rfl) (f4 : aCh A' f = aCh A f := by rfl) : RMF A' b' f := by
  obtain ⟨h1, h2, h3, h4, h5⟩ := h
  refine ⟨?_, ?_, ?_, ?_, fun k k4 hk => ?_⟩
  · rw [f0, ← h1]; exact e 0 (by omega)
  · rw [f0, f1, e 1 (by omega)]; exact h2
  · rw [f2, ← h3]; exact e 2 (by omega)
  · rw [f0, f3, e 3 (by omega)]; exact h4
  · rw [f4, ← h5 k k4 (by rw [← f2]; exact hk)]
    have := e (4 + k) (by omega)
    rw [← Nat.add_assoc] at this
    exact this
theorem RMC.of {A A' : AH} {b b' : Nat → Int64} {c : Nat} (h : RMC A b c) (e : ∀ j, j < 4 → b' (70 + 4 * c + j) = b (70 + 4 * c + j)) (f0 : aVer A' c = aVer A c := by rfl) (f1 : aSh A' c = aSh A c := by rfl) (f2 : aLs A' c = aLs A c := by rfl) : RMC A' b' c := by
  obtain ⟨h1, h2, h3⟩ := h
  refine ⟨?_, ?_, ?_⟩
  · rw [f0, ← h1]; exact e 0 (by omega)
  · rw [f1, ← h2]; exact e 1 (by omega)
  · rw [f2, e 2 (by omega), e 3 (by omega)]; exact h3
theorem RM.num {A : AH} {b : Nat → Int64} (h : RM A b) (hm : aMade A ≤ 30) (k : Nat) (hk : k < 7) (k0 : ¬ k = 0) (k6 : ¬ k = 6) (x : Nat) : RM (sNum A (upO A.1 k x)) (vp_updL b k (lN x)) := by
  refine ⟨fun j hj => ?_, fun s' hs' => ?_, fun f hf => ?_, fun c' hc' => ?_, fun c' s' hc' hs' => ?_⟩
  · show _ = lN (upO A.1 k x j)
    by_cases e : j = k
    · rw [e, pk_uLs, up_s]
    · rw [pk_uLn e, up_n e]; exact h.1 j hj
  · exact RMS.of (h.2.1 s' hs') (pk_uLn (by omega)) (pk_uLn (by omega)) (pk_uLn (by omega)) (up_n (by omega))
  · exact RMF.of (h.2.2.1 f hf) (fun j hj => pk_uLn (by omega))
  · have hc' : upO A.1 k x 6 > c' := hc'
    rw [up_n (by omega)] at hc'
    exact RMC.of (h.2.2.2.1 c' hc') (fun j hj => pk_uLn (by omega))
  · have hc' : upO A.1 k x 6 > c' := hc'
    rw [up_n (by omega)] at hc'
    rw [pk_uLn (by omega)]
    exact h.2.2.2.2 c' s' hc' hs'
theorem RM.spo {A : AH} {b : Nat → Int64} (h : RM A b) (hm : aMade A ≤ 30) {s : Nat} (hs : s < 5) (x : Nat) : RM (setSpo A s x) (vp_updL b (7 + 3 * s + 2) (lN x)) := by
  refine ⟨fun j hj => ?_, fun s' hs' => ?_, fun f hf => ?_, fun c' hc' => ?_, fun c' s' hc' hs' => ?_⟩
  · rw [pk_uLn (by omega)]; exact h.1 j hj
  · by_cases e : s' = s
    · subst e
      have h1 := h.2.1 s' hs'
      refine ⟨?_, ?_, ?_⟩
      · rw [pk_uLn (by omega)]; exact h1.1
      · rw [pk_uLn (by omega)]; exact h1.2.1
      · show _ = lN (upO (aSpo A) s' x s')
        rw [pk_uLs, up_s]
    · exact RMS.of (h.2.1 s' hs') (pk_uLn (by omega)) (pk_uLn (by omega)) (pk_uLn (by omega)) (f3 := up_n e)
  · exact RMF.of (h.2.2.1 f hf) (fun j hj => pk_uLn (by omega))
  · have hc' : c' < aMade A := hc'
    exact RMC.of (h.2.2.2.1 c' hc') (fun j hj => pk_uLn (by omega))
  · have hc' : c' < aMade A := hc'
    rw [pk_uLn (by omega)]
    exact h.2.2.2.2 c' s' hc' hs'
theorem RM.up {A : AH} {b : Nat → Int64} (h : RM A b) (hm : aMade A ≤ 30) {s : Nat} (hs : s < 5) (x : Nat) : RM (setUp A s x) (vp_updL b (7 + 3 * s) (lN x)) := by
  refine ⟨fun j hj => ?_, fun s' hs' => ?_, fun f hf => ?_, fun c' hc' => ?_, fun c' s' hc' hs' => ?_⟩
  · rw [pk_uLn (by omega)]; exact h.1 j hj
  · by_cases e : s' = s
    · subst e
      have h1 := h.2.1 s' hs'
      refine ⟨?_, ?_, ?_⟩
      · show _ = lN (upO (aUp A) s' x s')
        rw [pk_uLs, up_s]
      · rw [pk_uLn (by omega)]; exact h1.2.1
      · rw [pk_uLn (by omega)]; exact h1.2.2
    · exact RMS.of (h.2.1 s' hs') (pk_uLn (by omega)) (pk_uLn (by omega)) (pk_uLn (by omega)) (f1 := up_n e)
  · exact RMF.of (h.2.2.1 f hf) (fun j hj => pk_uLn (by omega))
  · have hc' : c' < aMade A := hc'
    exact RMC.of (h.2.2.2.1 c' hc') (fun j hj => pk_uLn (by omega))
  · have hc' : c' < aMade A := hc'
    rw [pk_uLn (by omega)]
    exact h.2.2.2.2 c' s' hc' hs'
/-- a file changed: its row of eight -/
theorem RM.file {A A' : AH} {b b' : Nat → Int64} (h : RM A b) (hm : aMade A ≤ 30) {f : Nat} (hf : f < 6) (hb : ∀ j, ¬ (22 + 8 * f ≤ j ∧ j < 30 + 8 * f) → b' j = b j) (hF : RMF A' b' f) (e0 : A'.1 = A.1 := by rfl) (e1 : A'.2.1 = A.2.1 := by rfl) (e2 : A'.2.2.1 = A.2.2.1 := by rfl) (e3 : A'.2.2.2.1 = A.2.2.2.1 := by rfl) (e4 : ∀ g, ¬ g = f → aIs A' g = aIs A g ∧ aKind A' g = aKind A g ∧ aMany A' g = aMany A g ∧ aSince A' g = aSince A g ∧ aCh A' g = aCh A g) (e5 : A'.2.2.2.2.2.2.2.2.1 = A.2.2.2.2.2.2.2.2.1 := by rfl) (e6 : A'.2.2.2.2.2.2.2.2.2.1 = A.2.2.2.2.2.2.2.2.2.1 := by rfl) (e7 : A'.2.2.2.2.2.2.2.2.2.2.2 = A.2.2.2.2.2.2.2.2.2.2.2 := by rfl) : RM A' b' := by
  refine ⟨fun j hj => ?_, fun s' hs' => ?_, fun g hg => ?_, fun c' hc' => ?_, fun c' s' hc' hs' => ?_⟩
  · rw [hb _ (by omega), e0]; exact h.1 j hj
  · exact RMS.of (h.2.1 s' hs') (hb _ (by omega)) (hb _ (by omega)) (hb _ (by omega)) (congrFun e0 0) (congrFun e1 s') (congrFun e2 s') (congrFun e3 s')
  · by_cases e : g = f
    · subst e; exact hF
    · have h4 := e4 g e
      exact RMF.of (h.2.2.1 g hg) (fun j hj => hb _ (by omega)) h4.1 h4.2.1 h4.2.2.1 h4.2.2.2.1 h4.2.2.2.2
  · have hc' : c' < A'.1 6 := hc'
    rw [e0] at hc'
    exact RMC.of (h.2.2.2.1 c' hc') (fun j hj => hb _ (by omega)) (congrFun e5 c') (congrFun e6 c') (congrFun (congrArg Prod.fst e7) c')
  · have hc' : c' < A'.1 6 := hc'
    rw [e0] at hc'
    rw [hb _ (by omega)]
    show _ = cpM (A'.2.2.2.2.2.2.2.2.2.2.2.2 c' s')
    rw [e7]
    exact h.2.2.2.2 c' s' hc' hs'
/-- a chunk changed: its row of four -/
theorem RM.chunk {A A' : AH} {b b' : Nat → Int64} (h : RM A b) (hm : aMade A ≤ 30) {c : Nat} (hc : c < 30) (hb : ∀ j, ¬ (70 + 4 * c ≤ j ∧ j < 74 + 4 * c) → b' j = b j) (hC : RMC A' b' c) (e0 : A'.1 = A.1 := by rfl) (e1 : A'.2.1 = A.2.1 := by rfl) (e2 : A'.2.2.1 = A.2.2.1 := by rfl) (e3 : A'.2.2.2.1 = A.2.2.2.1 := by rfl) (e4 : ∀ g, aIs A' g = aIs A g ∧ aKind A' g = aKind A g ∧ aMany A' g = aMany A g ∧ aSince A' g = aSince A g ∧ aCh A' g = aCh A g) (e5 : ∀ g, ¬ g = c → aVer A' g = aVer A g ∧ aSh A' g = aSh A g ∧ aLs A' g = aLs A g) (e7 : A'.2.2.2.2.2.2.2.2.2.2.2.2 = A.2.2.2.2.2.2.2.2.2.2.2.2 := by rfl) : RM A' b' := by
  refine ⟨fun j hj => ?_, fun s' hs' => ?_, fun g hg => ?_, fun c' hc' => ?_, fun c' s' hc' hs' => ?_⟩
  · rw [hb _ (by omega), e0]; exact h.1 j hj
  · exact RMS.of (h.2.1 s' hs') (hb _ (by omega)) (hb _ (by omega)) (hb _ (by omega)) (congrFun e0 0) (congrFun e1 s') (congrFun e2 s') (congrFun e3 s')
  · have h4 := e4 g
    exact RMF.of (h.2.2.1 g hg) (fun j hj => hb _ (by omega)) h4.1 h4.2.1 h4.2.2.1 h4.2.2.2.1 h4.2.2.2.2
  · have hc' : c' < A'.1 6 := hc'
    rw [e0] at hc'
    by_cases e : c' = c
    · subst e; exact hC
    · have h5 := e5 c' e
      exact RMC.of (h.2.2.2.1 c' hc') (fun j hj => hb _ (by omega)) h5.1 h5.2.1 h5.2.2
  · have hc' : c' < A'.1 6 := hc'
    rw [e0] at hc'
    rw [hb _ (by omega)]
    show _ = cpM (A'.2.2.2.2.2.2.2.2.2.2.2.2 c' s')
    rw [e7]
    exact h.2.2.2.2 c' s' hc' hs'
/-! the class: copies -/
def cpE (x y : CP) (c s : Nat) : Prop := ∀ p, p < 150 → ¬ p = 5 * c + s → y.1 p = x.1 p ∧ y.2.1 p = x.2.1 p ∧ ∀ i, i < 9 → y.2.2 (p * 9 + i) = x.2.2 (p * 9 + i)
def cpAt (x : CP) (c s : Nat) (o : Option CPY) : Prop := cpC o (x.1 (5 * c + s)) (x.2.1 (5 * c + s)) (fun i => x.2.2 ((5 * c + s) * 9 + i))
theorem cpC.ext {o : Option CPY} {v f : Int32} {ce ce' : Nat → Int32} (h : cpC o v f ce) (e : ∀ i, i < 9 → ce' i = ce i) : cpC o v f ce' := by
  cases o with
  | none => exact h
  | some q => exact ⟨h.1, h.2.1, fun i hi => by rw [e i hi]; exact h.2.2 i hi⟩
theorem RCP.set {A : AH} {x y : CP} (h : RCP A x) {c s : Nat} (hs : s < 5) {o : Option CPY} (hE : cpE x y c s) (hN : cpAt y c s o) : RCP (setCp A c s o) y := by
  intro c' s' hc' hs'
  by_cases k : c' = c ∧ s' = s
  · obtain ⟨rfl, rfl⟩ := k
    rw [cp_s]
    exact hN
  · rw [cp_n k]
    have h1 := hE (5 * c' + s') (by omega) (by omega)
    rw [h1.1, h1.2.1]
    exact (h c' s' hc' hs').ext h1.2.2
