/-! DYN: worlds by permutation; houses that are made late -/
theorem va_P.perm {D : va_G} {cl : List vw_C} {ws ws' : va_W} {H : Heap} (h : va_P D cl ws H) (p : ws.Perm ws') : va_P D cl ws' H := by
  intro k q hk
  have hm : q ∈ ws := p.mem_iff.mpr (List.mem_of_getElem? hk)
  obtain ⟨i, hi⟩ := List.getElem?_of_mem hm
  exact h i q hi
theorem va_P.mem {D : va_G} {cl : List vw_C} {ws : va_W} {H : Heap} (h : va_P D cl ws H) {q : Nat × va_E} (hq : q ∈ ws) : va_at D cl q H := by
  obtain ⟨i, hi⟩ := List.getElem?_of_mem hq
  exact h i q hi
theorem va_P.of {D : va_G} {cl : List vw_C} {ws : va_W} {H : Heap} (h : ∀ q ∈ ws, va_at D cl q H) : va_P D cl ws H := fun k q hk => h q (List.mem_of_getElem? hk)
theorem va_D_iff {A : Nat → Prop} {ws : va_W} : va_D A ws ↔ (ws.map (·.1)).Nodup ∧ ∀ q ∈ ws, A q.1 := by
  have key : (ws.map (·.1)).Nodup ↔ ∀ (i j : Nat) (x y : Nat × va_E), ws[i]? = some x → ws[j]? = some y → i < j → x.1 ≠ y.1 := by
    rw [List.nodup_iff_pairwise_ne, List.pairwise_iff_getElem]
    constructor
    · intro h i j x y hi hj hij
      obtain ⟨li, ei⟩ := List.getElem?_eq_some_iff.mp hi
      obtain ⟨lj, ej⟩ := List.getElem?_eq_some_iff.mp hj
      have h1 := h i j (by rw [List.length_map]; exact li) (by rw [List.length_map]; exact lj) hij
      rw [List.getElem_map, List.getElem_map, ei, ej] at h1
      exact h1
    · intro h i j hi hj hij
      rw [List.length_map] at hi hj
      rw [List.getElem_map, List.getElem_map]
      exact h i j _ _ (List.getElem?_eq_getElem hi) (List.getElem?_eq_getElem hj) hij
  rw [key]
  constructor
  · intro h
    refine ⟨fun i j x y hi hj hij he => ?_, fun q hq => ?_⟩
    · have := h.1 i j x y hi hj he
      omega
    · obtain ⟨i, hi⟩ := List.getElem?_of_mem hq
      exact h.2 i q hi
  · intro h
    refine ⟨fun i j x y hi hj hxy => ?_, fun k q hk => h.2 q (List.mem_of_getElem? hk)⟩
    rcases Nat.lt_trichotomy i j with hlt | heq | hlt
    · exact absurd hxy (h.1 i j x y hi hj hlt)
    · exact heq
    · exact absurd hxy.symm (h.1 j i y x hj hi hlt)
theorem va_D.perm {A : Nat → Prop} {ws ws' : va_W} (h : va_D A ws) (p : ws.Perm ws') : va_D A ws' := by
  rw [va_D_iff] at h ⊢
  exact ⟨(p.map _).nodup_iff.mp h.1, fun q hq => h.2 q (p.mem_iff.mpr hq)⟩
theorem va_D.right {A : Nat → Prop} {w1 w2 : va_W} (h : va_D A (w1 ++ w2)) : va_D A w2 := by
  rw [va_D_iff] at h ⊢
  rw [List.map_append, List.nodup_append] at h
  exact ⟨h.1.2.1, fun q hq => h.2 q (List.mem_append_right _ hq)⟩
theorem va_A.mem {ws : va_W} {sz : Nat} {q : Nat × va_E} (h : q ∈ ws) : va_A ws sz q.1 := by
  obtain ⟨i, hi⟩ := List.getElem?_of_mem h
  exact Or.inl ⟨i, q.2, hi⟩
theorem va_freeR {A0 : Nat → Prop} {wr wc : va_W} {H0 H : Heap} {locs : List Loc} (hD : va_D A0 (wr ++ wc)) (hS : va_S A0 H0 H locs) (hA : ∀ q, H0.size ≤ q → A0 q) : ∀ q, va_A wc H.size q → A0 q := by
  intro q h
  rcases h with ⟨k, e, h⟩ | h
  · exact (va_D_iff.mp hD).2 (q, e) (List.mem_append_right _ (List.mem_of_getElem? h))
  · exact hA q (Nat.le_trans hS.1 h)
/-- behind a call: the rest as it was, and the callee's world -/
theorem pj {A : Nat → Prop} {D : va_G} {cl : List vw_C} {wr wc w1 : va_W} {H H1 : Heap} (hP : va_P D cl (wr ++ wc) H) (hD : va_D A (wr ++ wc)) (hk : ∀ q : Nat, q < H.size → ¬ va_A wc H.size q → H1[q]? = H[q]?) (hF : ∀ q, va_A wc H.size q → A q) (hP1 : va_P D cl w1 H1) (hD1 : va_D (va_A wc H.size) w1) : va_P D cl (wr ++ w1) H1 ∧ va_D A (wr ++ w1) := by
  have hn := va_D_iff.mp hD
  rw [List.map_append, List.nodup_append] at hn
  have apart : ∀ q ∈ wr, q.1 < H.size ∧ ¬ va_A wc H.size q.1 := by
    intro q hq
    have hl := (hP.mem (List.mem_append_left _ hq)).lt
    refine ⟨hl, fun h => ?_⟩
    rcases h with ⟨k, e, h⟩ | h
    · exact hn.1.2.2 q.1 (List.mem_map.mpr ⟨q, hq, rfl⟩) q.1 (List.mem_map.mpr ⟨(q.1, e), List.mem_of_getElem? h, rfl⟩) rfl
    · omega
  have hn1 := va_D_iff.mp hD1
  refine ⟨va_P.of (fun q hq => ?_), va_D_iff.mpr ⟨?_, fun q hq => ?_⟩⟩
  · rcases List.mem_append.mp hq with h | h
    · exact (hP.mem (List.mem_append_left _ h)).kept (hk q.1 (apart q h).1 (apart q h).2)
    · exact hP1.mem h
  · rw [List.map_append, List.nodup_append]
    refine ⟨hn.1.1, hn1.1, fun x hx y hy hxy => ?_⟩
    obtain ⟨q, hq, rfl⟩ := List.mem_map.mp hx
    obtain ⟨r, hr, rfl⟩ := List.mem_map.mp hy
    exact (apart q hq).2 (by rw [hxy]; exact hn1.2 r hr)
  · rcases List.mem_append.mp hq with h | h
    · exact hn.2 q (List.mem_append_left _ h)
    · exact hF q.1 (hn1.2 q h)
theorem pick_perm {ws : va_W} {is : List Nat} (h : is.isPerm (List.range ws.length) = true) : (pick ws is).Perm ws := by
  have h1 : is.Perm (List.range ws.length) := List.isPerm_iff.mp h
  have h2 : (pick ws is).Perm ((List.range ws.length).filterMap (fun i => ws[i]?)) := h1.filterMap _
  refine h2.trans (List.Perm.of_eq ?_)
  clear h h1 h2
  induction ws with
  | nil => rfl
  | cons a t ih =>
    rw [List.length_cons, List.range_succ_eq_map, List.filterMap_cons]
    simp only [List.getElem?_cons_zero, List.filterMap_map]
    exact congrArg (a :: ·) ih
theorem perm4 {α : Type} (A B C D : List α) : (A ++ (B ++ (C ++ D))).Perm ((A ++ D) ++ (B ++ C)) := by
  have h : (B ++ (C ++ D)).Perm (D ++ (B ++ C)) := by
    rw [← List.append_assoc]
    exact List.perm_append_comm
  rw [List.append_assoc]
  exact h.append_left A
section DYNC
variable {p : Program} {l : Launch} {e : Env} {R : Room} {s : State} {m : MethodId} {args : Array Value} {below : List Frame} {meth : Method} {c : Code} {H : Heap} {locs : List Loc} {cells slots : Nat} {Q : State → Prop}
variable {mc ms : Nat} {rest st : List Value} {pc : Nat} {ls : Array Slot} {E : G0} {A : Nat → Prop}
theorem cp_v {σ : Type} {post : σ → Prop} {wf : σ → va_W} {wr wc : va_W} {a : Array Value} (hP : va_P E.1 vwCl (wr ++ wc) H) (hD : va_D A (wr ++ wc)) (hS : va_S A s.heap H locs) (hA : ∀ q : Nat, s.heap.size ≤ q → A q)
    (hr0 : va_Run p l e R s m args below meth c H locs cells slots mc ms (F0 m pc ls st) rest (va_Qv post (fun q t => va_P E.1 vwCl (wf q) t.heap ∧ va_D (va_A wc H.size) (wf q)) (va_A wc H.size) a) (va_A wc H.size))
    (kk : ∀ (u : σ) (H1 : Heap) (locs1 : List Loc), post u → va_P E.1 vwCl (wr ++ wf u) H1 → va_D A (wr ++ wf u) → va_S A s.heap H1 locs1 → W p l e R s m args below meth c H1 locs1 (cells + mc) (slots + ms) Q (F0 m (pc + 3) ls rest)) : W p l e R s m args below meth c H locs cells slots Q (F0 m pc ls st) := by
  have hF := va_freeR hD hS hA
  refine va_callv hr0 hS (fun q _ h => hF q h) hF (fun u1 t H1 locs1 ht hvm hw hB hz1 hk1 hS1 => ?_)
  obtain ⟨hP1, hD1⟩ := hB
  rw [ht] at hP1
  obtain ⟨g1, g2⟩ := pj hP hD hk1 hF hP1 hD1
  exact kk u1 H1 locs1 hw g1 g2 hS1
theorem cp_i {σ : Type} {post : Int32 → σ → Prop} {wf : σ → va_W} {wr wc : va_W} {a : Array Value} (hP : va_P E.1 vwCl (wr ++ wc) H) (hD : va_D A (wr ++ wc)) (hS : va_S A s.heap H locs) (hA : ∀ q : Nat, s.heap.size ≤ q → A q)
    (hr0 : va_Run p l e R s m args below meth c H locs cells slots mc ms (F0 m pc ls st) rest (va_Qi post (fun q t => va_P E.1 vwCl (wf q) t.heap ∧ va_D (va_A wc H.size) (wf q)) (va_A wc H.size) a) (va_A wc H.size))
    (kk : ∀ (r : Int32) (u : σ) (H1 : Heap) (locs1 : List Loc), post r u → va_P E.1 vwCl (wr ++ wf u) H1 → va_D A (wr ++ wf u) → va_S A s.heap H1 locs1 → W p l e R s m args below meth c H1 locs1 (cells + mc) (slots + ms) Q (F0 m (pc + 3) ls (.int r :: rest))) : W p l e R s m args below meth c H locs cells slots Q (F0 m pc ls st) := by
  have hF := va_freeR hD hS hA
  refine va_calli hr0 hS (fun q _ h => hF q h) hF (fun r u1 t H1 locs1 ht hvm hw hB hz1 hk1 hS1 => ?_)
  obtain ⟨hP1, hD1⟩ := hB
  rw [ht] at hP1
  obtain ⟨g1, g2⟩ := pj hP hD hk1 hF hP1 hD1
  exact kk r u1 H1 locs1 hw g1 g2 hS1
/-- calls with a tail of the world that no place names -/
theorem cqt_perm {wc ws tl : va_W} (isC isR : List Nat) (hp : (isR ++ isC).isPerm (List.range ws.length) = true) (hc : pick ws isC = wc) : (ws ++ tl).Perm ((tl ++ pick ws isR) ++ wc) := by
  have h1 := (pick_perm hp).symm
  have h2 : pick ws (isR ++ isC) = pick ws isR ++ wc := by rw [← hc]; exact List.filterMap_append
  rw [h2] at h1
  rw [List.append_assoc]
  exact List.perm_append_comm.trans (h1.append_left tl)
theorem cqt_back {w1 ws ws1 tl : va_W} (isC isR : List Nat) (hp : (isR ++ isC).isPerm (List.range ws1.length) = true) (h1 : pick ws1 (isR ++ isC) = pick ws isR ++ w1) : ((tl ++ pick ws isR) ++ w1).Perm (ws1 ++ tl) := by
  have h2 := pick_perm hp
  rw [h1] at h2
  rw [List.append_assoc]
  exact (h2.append_left tl).trans List.perm_append_comm
theorem cqt_i {σ : Type} {u : σ} {x : Int32} {wf : σ → va_W} {wc ws tl : va_W} {a : Array Value} (hP : va_P E.1 vwCl (ws ++ tl) H) (hD : va_D A (ws ++ tl)) (hS : va_S A s.heap H locs) (hA : ∀ q : Nat, s.heap.size ≤ q → A q) (isC isR : List Nat)
    (hr0 : va_Run p l e R s m args below meth c H locs cells slots mc ms (F0 m pc ls st) rest (va_Qi (fun r q => r = x ∧ q = u) (fun q t => va_P E.1 vwCl (wf q) t.heap ∧ va_D (va_A wc H.size) (wf q)) (va_A wc H.size) a) (va_A wc H.size))
    (nn : Nat) (hn : ws.length = nn) (hp : (isR ++ isC).isPerm (List.range nn) = true) (hc : pick ws isC = wc) (ws1 : va_W) (hn1 : ws1.length = nn) (h1 : pick ws1 (isR ++ isC) = pick ws isR ++ wf u)
    (kk : ∀ (H1 : Heap) (locs1 : List Loc), va_P E.1 vwCl (ws1 ++ tl) H1 → va_D A (ws1 ++ tl) → va_S A s.heap H1 locs1 → W p l e R s m args below meth c H1 locs1 (cells + mc) (slots + ms) Q (F0 m (pc + 3) ls (.int x :: rest))) : W p l e R s m args below meth c H locs cells slots Q (F0 m pc ls st) := by
  have hq := cqt_perm (tl := tl) isC isR (by rw [hn]; exact hp) hc
  refine cp_i (hP.perm hq) (hD.perm hq) hS hA hr0 (fun r u1 H1 locs1 hw g1 g2 hS1 => ?_)
  obtain ⟨hw1, hw2⟩ := hw
  subst hw1; subst hw2
  have hb := cqt_back (tl := tl) isC isR (by rw [hn1]; exact hp) h1
  exact kk H1 locs1 (g1.perm hb) (g2.perm hb) hS1
theorem cqt_v {σ : Type} {u : σ} {wf : σ → va_W} {wc ws tl : va_W} {a : Array Value} (hP : va_P E.1 vwCl (ws ++ tl) H) (hD : va_D A (ws ++ tl)) (hS : va_S A s.heap H locs) (hA : ∀ q : Nat, s.heap.size ≤ q → A q) (isC isR : List Nat)
    (hr0 : va_Run p l e R s m args below meth c H locs cells slots mc ms (F0 m pc ls st) rest (va_Qv (fun q => q = u) (fun q t => va_P E.1 vwCl (wf q) t.heap ∧ va_D (va_A wc H.size) (wf q)) (va_A wc H.size) a) (va_A wc H.size))
    (nn : Nat) (hn : ws.length = nn) (hp : (isR ++ isC).isPerm (List.range nn) = true) (hc : pick ws isC = wc) (ws1 : va_W) (hn1 : ws1.length = nn) (h1 : pick ws1 (isR ++ isC) = pick ws isR ++ wf u)
    (kk : ∀ (H1 : Heap) (locs1 : List Loc), va_P E.1 vwCl (ws1 ++ tl) H1 → va_D A (ws1 ++ tl) → va_S A s.heap H1 locs1 → W p l e R s m args below meth c H1 locs1 (cells + mc) (slots + ms) Q (F0 m (pc + 3) ls rest)) : W p l e R s m args below meth c H locs cells slots Q (F0 m pc ls st) := by
  have hq := cqt_perm (tl := tl) isC isR (by rw [hn]; exact hp) hc
  refine cp_v (hP.perm hq) (hD.perm hq) hS hA hr0 (fun u1 H1 locs1 hw g1 g2 hS1 => ?_)
  subst hw
  have hb := cqt_back (tl := tl) isC isR (by rw [hn1]; exact hp) h1
  exact kk H1 locs1 (g1.perm hb) (g2.perm hb) hS1
end DYNC
/-! the houses that acts and images keep: by slots -/
theorem upO_self {α : Type} (D : Nat → α) (k : Nat) (o : α) : upO D k o k = o := if_pos rfl
theorem upO_ne {α : Type} (D : Nat → α) {k j : Nat} (o : α) (h : ¬ j = k) : upO D k o j = D j := if_neg h
def wO (E : G0) (a : Nat → Nat) (o : Option HS) : va_W := match o with
  | none => []
  | some v => wHS E a v
def wDY (E : G0) (n : Nat) (da : Nat → Nat → Nat) (D : DV) : va_W := (List.range n).flatMap (fun k => wO E (da k) (D k))
def bfR (da : Nat → Nat → Nat) (D : DV) : Nat → Option Nat := fun k => (D k).map (fun _ => da k 0)
theorem wDY_perm {E : G0} {n : Nat} {da : Nat → Nat → Nat} {D : DV} {k : Nat} (hk : k < n) (b : Nat → Nat) (o : Option HS) : (wDY E n (upO da k b) (upO D k o)).Perm (wO E b o ++ wDY E n da (upO D k none)) := by
  unfold wDY
  induction n with
  | zero => omega
  | succ n ih =>
    rw [List.range_succ, List.flatMap_append, List.flatMap_append]
    simp only [List.flatMap_cons, List.flatMap_nil, List.append_nil]
    by_cases h : k = n
    · subst h
      have e1 : (List.range k).flatMap (fun j => wO E (upO da k b j) (upO D k o j)) = (List.range k).flatMap (fun j => wO E (da j) (upO D k none j)) := by
        rw [List.flatMap_def, List.flatMap_def]
        refine congrArg List.flatten (List.map_congr_left (fun j hj => ?_))
        have hne : ¬ j = k := by have := List.mem_range.mp hj; omega
        rw [upO_ne _ _ hne, upO_ne _ _ hne, upO_ne _ _ hne]
      rw [e1, upO_self, upO_self, upO_self]
      simp only [wO, List.append_nil]
      exact List.perm_append_comm
    · have hne : ¬ n = k := fun q => h q.symm
      rw [upO_ne _ _ hne, upO_ne _ _ hne, upO_ne _ _ hne, ← List.append_assoc]
      exact (ih (by omega)).append_right _
theorem upO_id {α : Type} (D : Nat → α) (k : Nat) : upO D k (D k) = D := by
  funext j
  unfold upO
  split
  · rename_i h; rw [h]
  · rfl
theorem upO_up {α : Type} (D : Nat → α) (k : Nat) (o o' : α) : upO (upO D k o) k o' = upO D k o' := by
  funext j
  unfold upO
  split <;> rfl
theorem wDY_slot {E : G0} {n : Nat} {da : Nat → Nat → Nat} {D : DV} {k : Nat} (hk : k < n) : (wDY E n da D).Perm (wO E (da k) (D k) ++ wDY E n da (upO D k none)) := by
  have h := wDY_perm (E := E) (da := da) (D := D) hk (da k) (D k)
  rw [upO_id, upO_id] at h
  exact h
theorem bfR_up (da : Nat → Nat → Nat) (D : DV) (k : Nat) (b : Nat → Nat) (v : HS) : bfR (upO da k b) (upO D k (some v)) = va_up (bfR da D) k (some (b 0)) := by
  funext j
  unfold bfR va_up
  by_cases h : j = k
  · subst h; rw [upO_self, upO_self, if_pos rfl]; rfl
  · rw [upO_ne _ _ h, upO_ne _ _ h, if_neg h]
theorem bfR_same (da : Nat → Nat → Nat) (D : DV) (k : Nat) (w v : HS) (h : D k = some w) : bfR da (upO D k (some v)) = bfR da D := by
  funext j
  unfold bfR
  by_cases hj : j = k
  · subst hj; rw [upO_self, h]; rfl
  · rw [upO_ne _ _ hj]
abbrev wAO (E : G0) (a : Nat → Nat) (v : ACT) : va_W := [(a 0, .inr (0, [.ref (a 1), .int v.2.1, .int v.2.2]))]
/-- the acts, the house that is given, the houses that are kept -/
abbrev wAK (E : G0) (a : Nat → Nat) (db : Nat → Nat → Nat) (ac : ACT) (v : HS) : va_W := [(a 0, .inr (0, [.ref (a 1), .int ac.2.1, .int ac.2.2])), (a 1, .inl (E.2.1 3, 6, .inr (.inr (.inr (.inr (bfR db ac.1))))))] ++ (wHS E (fun k => a (k + 2)) v ++ wDY E 6 db ac.1)
