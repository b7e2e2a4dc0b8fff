/-! BASE: words of our own: partial functions (Option), loops by fuel, contexts, calls in one row. -/
theorem bI_nar (b : Bool) : narrow .boolean (.int (bI b)) = .int (bI b) := by cases b <;> rfl
theorem bI_fit (b : Bool) : fits .boolean (.int (bI b)) = true := by cases b <;> rfl
theorem i2b_some {x : Int32} {b : Bool} (h : i2b x = some b) : x = bI b := by
  unfold i2b at h
  split at h
  · rename_i e; cases h; exact e
  · split at h
    · rename_i e; cases h; exact e
    · cases h
theorem gdI_some {α : Type} {i : Int32} {n : Nat} {k : Option α} {x : α} (h : gdI i n k = some x) : vp_in i n ∧ k = some x := by
  unfold gdI at h
  split at h
  · cases h
  · rename_i c; exact ⟨c, h⟩
theorem gdZ_some {α : Type} {y : Int32} {k : Option α} {x : α} (h : gdZ y k = some x) : ¬ y = 0 ∧ k = some x := by
  unfold gdZ at h
  split at h
  · cases h
  · rename_i c; exact ⟨c, h⟩
theorem gdL_some {α : Type} {y : Int64} {k : Option α} {x : α} (h : gdL y k = some x) : ¬ y = 0 ∧ k = some x := by
  unfold gdL at h
  split at h
  · cases h
  · rename_i c; exact ⟨c, h⟩
theorem gdF_some {α : Type} {r : UInt32} {k : Option α} {x : α} (h : gdF r k = some x) : vf_n32 r ∧ k = some x := by
  unfold gdF at h
  split at h
  · rename_i c; exact ⟨c, h⟩
  · cases h
theorem gdT_some {α : Type} {f : Nat → Int32} {n : Nat} {k : Option α} {x : α} (h : gdT f n k = some x) : (∀ i, i < n → fits .boolean (.int (f i)) = true) ∧ k = some x := by
  unfold gdT at h
  split at h
  · rename_i c; exact ⟨fun i hi => List.all_eq_true.mp c i (List.mem_range.mpr hi), h⟩
  · cases h
theorem bd_some {α β : Type} {o : Option α} {k : α → Option β} {x : β} (h : bd o k = some x) : ∃ a, o = some a ∧ k a = some x := by
  cases o with
  | none => cases h
  | some a => exact ⟨a, rfl, h⟩
theorem bt_eq {α β : Type} {a : α} {k : α → β} {x : β} (h : bt a k = x) : ∃ q, a = q ∧ k q = x := ⟨a, rfl, h⟩
theorem jn_some {α β : Type} {K0 : α → Option β} {body : (α → Option β) → Option β} {x : β} (h : jn K0 body = some x) : ∃ K : α → Option β, (∀ q, K0 q = K q) ∧ body K = some x := ⟨K0, fun _ => rfl, h⟩
theorem lpF_zero {α β : Type} {body : (α → Option β) → α → Option β} {q : α} {x : β} (h : lpF body 0 q = some x) : False := by cases h
theorem lpF_succ {α β : Type} {body : (α → Option β) → α → Option β} {n : Nat} {q : α} {x : Option β} (h : lpF body (n + 1) q = x) : body (lpF body n) q = x := h
theorem it_t {α : Type} {c : Prop} [Decidable c] {a b x : α} (h : (if c then a else b) = x) (hc : c) : a = x := by rw [if_pos hc] at h; exact h
theorem it_f {α : Type} {c : Prop} [Decidable c] {a b x : α} (h : (if c then a else b) = x) (hc : ¬ c) : b = x := by rw [if_neg hc] at h; exact h
theorem in_pl {big ws : List Cond} (p : Nat) (h : (big.drop p).take ws.length = ws) : ∀ w ∈ ws, w ∈ big := by
  intro w hw
  rw [← h] at hw
  exact List.mem_of_mem_drop (List.mem_of_mem_take hw)
theorem sw_out {x : Int32} (n : Nat) (hn : n < 2 ^ 31) (h : ∀ k : Nat, k ≤ n → ¬ x = nI k) : x.toInt < 0 ∨ (n : Int) < x.toInt := by
  by_cases h0 : x.toInt < 0
  · exact Or.inl h0
  · by_cases h1 : (n : Int) < x.toInt
    · exact Or.inr h1
    · exfalso
      refine h x.toInt.toNat (by omega) ?_
      apply Int32.toInt_inj.mp
      rw [nI_toInt (by omega)]
      omega
theorem lk_out {x : Int32} {d : Int} {a b : Int} (h0 : ¬ x = 0) (h1 : ¬ x = 1) : Op.lookupswitch.offset [(0, a), (1, b)] d x.toInt = d := by
  have e0 : ¬ x.toInt = 0 := fun h => h0 (Int32.toInt_inj.mp h)
  have e1 : ¬ x.toInt = 1 := fun h => h1 (Int32.toInt_inj.mp h)
  simp only [Op.lookupswitch.offset]
  simp [e0, e1, Ne.symm e0, Ne.symm e1]
abbrev G0 : Type := va_G × (Nat → ClassId) × Nat
abbrev tyE (E : G0) : List (ClassId × FieldType) := [(E.2.1 0, .int), (E.2.1 1, .long), (E.2.1 2, .boolean), (E.2.1 3, .object RX5)]
def nwQ : List (String × Nat × MethodName × String) := [(RX10, 11, yX7_init, RX10), (RX7, 11, yX9_init, RX10), (RX10, 23, yX0_init, RX10), (RX10, 30, yX5_init, RX10), (RX5, 29, yX8_init, RX10), (RX5, 36, yX1_init, RX10), (RX5, 50, yX3_init, RX10), (RX7, 100, yX10_within, RX10), (RX7, 87, yX10_isFile, RX10), (RX3, 33, yX10_isFile, RX10), (RX0, 24, yX5_init, RX10), (RX9, 19, yX10_isLetter, RX10), (RX3, 38, yX10_within, RX10), (RX5, 117, yX10_isIn, RX10), (RX8, 47, yX10_isIn, RX10), (RX5, 152, yX10_isFile, RX10), (RX2, 59, yX10_isLetter, RX10), (RX4, 81, yX10_isIn, RX10)]
def NW (U : State) : Prop := ∀ q ∈ nwQ, va_Nw (.methodLinkNest q.1 q.2.1 q.2.2.1 q.2.2.2) U
def Zt (t : Nat) (A : Nat → Prop) (U : State) (H : Heap) : Prop := va_Z RX6 "ABOVE" "[I" (.ref t) A U H ∧ va_T .int t 6 (fun k => .int (abv k)) A U H
def CX (E : G0) (A : Nat → Prop) (U : State) (H : Heap) : Prop := va_K E.1 vwCl (tyE E) U ∧ NW U ∧ Zt E.2.2 A U H
theorem CX.call {E : G0} {A A' : Nat → Prop} {s U : State} {H : Heap} {locs : List Loc} (h : CX E A s s.heap) (hS : va_S A s.heap H locs) (hA : ∀ q, A' q → A q) (hU : U.heap = H) (hW : s.WarmedH U.vm) : CX E A' U U.heap := by
  obtain ⟨h1, h2, h3, h4⟩ := h
  subst hU
  exact ⟨va_K.moved hW.alike h1, fun q hq => va_Nw.warmM hW (h2 q hq), ((h3.kept hS.2.1).narrow hA).moved hW.alike, ((h4.kept hS.2.1).narrow hA).moved hW.alike⟩
theorem CX.blind {E : G0} {A : Nat → Prop} {U : State} (g : JFrame) (mk : MethodId) (a : Array Value) (h : CX E A U U.heap) : CX E A (U.calling g mk a) (U.calling g mk a).heap := by
  obtain ⟨h1, h2, h3, h4⟩ := h
  exact ⟨va_K.moved (u := U) (U := U.calling g mk a) (Vm.Alike.refl U.vm) h1, fun q hq => va_Nw.same (u := U) (U := U.calling g mk a) rfl rfl (h2 q hq), va_Z.moved (u := U) (U := U.calling g mk a) (Vm.Alike.refl U.vm) h3, va_T.moved (u := U) (U := U.calling g mk a) (Vm.Alike.refl U.vm) h4⟩
def PR (E : G0) (w : va_W) (U : State) : Prop := va_P E.1 vwCl w U.heap ∧ CX E (fun _ => False) U U.heap
def PW (E : G0) (w : va_W) (sz : Nat) (U : State) : Prop := U.heap.size = sz ∧ va_P E.1 vwCl w U.heap ∧ va_D (fun _ => True) w ∧ CX E (va_A w sz) U U.heap
theorem PR.blind {av : List Value} {E : G0} {w : va_W} : FrameBlind (va_Pc av (PR E w)) := fun a U g mk q => by
  obtain ⟨q0, qP, qC⟩ := q
  exact ⟨q0, qP, qC.blind g mk a⟩
theorem PW.blind {av : List Value} {E : G0} {w : va_W} {sz : Nat} : FrameBlind (va_Pc av (PW E w sz)) := fun a U g mk q => by
  obtain ⟨q0, q1, qP, qD, qC⟩ := q
  exact ⟨q0, q1, qP, qD, qC.blind g mk a⟩
theorem PR.pre {av : List Value} {E : G0} {w : va_W} {A : Nat → Prop} {s : State} {H : Heap} {locs : List Loc} (h : CX E A s s.heap) (hS : va_S A s.heap H locs) (hP : va_P E.1 vwCl w H) : ∀ U : State, U.heap = H → s.WarmedH U.vm → va_Pc av (PR E w) av.toArray U := by
  intro U hU hW
  exact ⟨rfl, by rw [hU]; exact hP, h.call hS (fun _ z => z.elim) hU hW⟩
theorem PW.pre {av : List Value} {E : G0} {w : va_W} {A : Nat → Prop} {s : State} {H : Heap} {locs : List Loc} (h : CX E A s s.heap) (hS : va_S A s.heap H locs) (hP : va_P E.1 vwCl w H) (hD : va_D A w) (hF : ∀ q, va_A w H.size q → A q) : ∀ U : State, U.heap = H → s.WarmedH U.vm → va_Pc av (PW E w H.size) av.toArray U := by
  intro U hU hW
  exact ⟨rfl, by rw [hU], by rw [hU]; exact hP, hD.weaken (fun _ _ _ _ => trivial), h.call hS hF hU hW⟩
def pick (ws : va_W) (is : List Nat) : va_W := is.filterMap (fun i => ws[i]?)
def disj (a b : List Nat) : Bool := a.all (fun i => !(b.contains i))
theorem disj_ok {a b : List Nat} (h : disj a b = true) : ∀ i ∈ a, i ∉ b := by
  intro i hi hb
  have h1 := List.all_eq_true.mp h i hi
  simp [hb] at h1
section BASE
variable {p : Program} {l : Launch} {e : Env} {R : Room} {s : State} {m : MethodId} {args : Array Value} {below : List Frame} {meth : Method} {c : Code} {H : Heap} {locs : List Loc} {cells slots : Nat} {Q : State → Prop}
variable {y : MethodName} {bytes cc : ByteArray} {maxL nL mc ms n index : Nat} {ret : Option FieldType} {wsy : List Cond} {rm : Room} {Ts : List Cond} {own C host : String} {b : Addr} {As rest st : List Value} {pc : Nat} {ls : Array Slot} {E : G0} {A : Nat → Prop} {w : va_W}
theorem st_W {vs : List Value} {nn : Nat} (ha : args = vs.toArray) (h : (lg_sl vs).length ≤ nn) (k : ∀ ls : Array Slot, lv_has ls nn (lv_args 0 vs) → W p l e R s m args below meth c H locs cells slots Q (F0 m 0 ls [])) : W p l e R s m args below meth c H locs cells slots Q (entryFrame m args nn) := by
  subst ha
  rw [lg_entry_eq]
  exact k _ (lv_entry vs h)
/-- ends -/
theorem en_i {x : Int32} {cc : ByteArray} (hx : p.tables.exec = Jvm.exec) (hb : c.code = cc) (hr : meth.sig.returnType = some .int) (hlocks : meth.locks = false) (hdg : decode cc pc = .ok (.ireturn, 1)) : W p l e R s m args below meth c s.heap [] 0 0 (MQ below (vp_Si (fun r => r = x)) args s 0 0 (fun _ => False)) (F0 m pc ls [.int x]) :=
  W.iret hx hb hr (fun t ht _ => ⟨x, rfl, rfl, ht⟩) (fun q h => by cases h) hdg hlocks
theorem en_z {v : Int32} {x : Bool} {cc : ByteArray} (hx : p.tables.exec = Jvm.exec) (hb : c.code = cc) (hr : meth.sig.returnType = some .boolean) (hlocks : meth.locks = false) (hv : v = bI x) (hdg : decode cc pc = .ok (.ireturn, 1)) : W p l e R s m args below meth c s.heap [] 0 0 (MQ below (vp_Si (fun r => r = bI x)) args s 0 0 (fun _ => False)) (F0 m pc ls [.int v]) := by
  subst hv
  exact W.zret hx hb hr (bI_nar x) (fun t ht _ => ⟨bI x, rfl, rfl, ht⟩) (fun q h => by cases h) hdg hlocks
theorem en_l {x : Int64} {cc : ByteArray} (hx : p.tables.exec = Jvm.exec) (hb : c.code = cc) (hr : meth.sig.returnType = some .long) (hlocks : meth.locks = false) (hdg : decode cc pc = .ok (.lreturn, 1)) : W p l e R s m args below meth c s.heap [] 0 0 (MQ below (vp_Sl (fun r => r = x)) args s 0 0 (fun _ => False)) (F0 m pc ls [.long x]) :=
  W.lret hx hb hr (fun t ht _ => ⟨x, rfl, rfl, ht⟩) (fun q h => by cases h) hdg hlocks
theorem en_f {x : UInt32} {cc : ByteArray} (hx : p.tables.exec = Jvm.exec) (hb : c.code = cc) (hr : meth.sig.returnType = some .float) (hlocks : meth.locks = false) (hdg : decode cc pc = .ok (.freturn, 1)) : W p l e R s m args below meth c s.heap [] 0 0 (MQ below (vp_Sf (fun r => r = x)) args s 0 0 (fun _ => False)) (F0 m pc ls [.float x]) :=
  W.fret hx hb hr (fun t ht _ => ⟨x, rfl, rfl, ht⟩) (fun q h => by cases h) hdg hlocks
theorem ew_v {σ : Type} {u : σ} {wf : σ → va_W} {cc : ByteArray} (hx : p.tables.exec = Jvm.exec) (hb : c.code = cc) (hr : meth.sig.returnType = none) (hlocks : meth.locks = false) (hP : va_P E.1 vwCl (wf u) H) (hD : va_D A (wf u)) (hS : va_S A s.heap H locs) (hdg : decode cc pc = .ok (.return_, 1)) : W p l e R s m args below meth c H locs cells slots (MQ below (va_Qv (fun q => q = u) (fun q t => va_P E.1 vwCl (wf q) t.heap ∧ va_D A (wf q)) A) args s cells slots A) (F0 m pc ls []) :=
  W.vret hx hb hr (fun t ht _ => ⟨⟨u, rfl, rfl, by rw [ht]; exact hP, hD⟩, hS.F ht⟩) hS.2.2 hdg hlocks
theorem ew_i {σ : Type} {u : σ} {x : Int32} {wf : σ → va_W} {cc : ByteArray} (hx : p.tables.exec = Jvm.exec) (hb : c.code = cc) (hr : meth.sig.returnType = some .int) (hlocks : meth.locks = false) (hP : va_P E.1 vwCl (wf u) H) (hD : va_D A (wf u)) (hS : va_S A s.heap H locs) (hdg : decode cc pc = .ok (.ireturn, 1)) : W p l e R s m args below meth c H locs cells slots (MQ below (va_Qi (fun r q => r = x ∧ q = u) (fun q t => va_P E.1 vwCl (wf q) t.heap ∧ va_D A (wf q)) A) args s cells slots A) (F0 m pc ls [.int x]) :=
  W.iret hx hb hr (fun t ht _ => ⟨⟨x, u, rfl, ⟨rfl, rfl⟩, by rw [ht]; exact hP, hD⟩, hS.F ht⟩) hS.2.2 hdg hlocks
theorem ew_l {σ : Type} {u : σ} {x : Int64} {wf : σ → va_W} {cc : ByteArray} (hx : p.tables.exec = Jvm.exec) (hb : c.code = cc) (hr : meth.sig.returnType = some .long) (hlocks : meth.locks = false) (hP : va_P E.1 vwCl (wf u) H) (hD : va_D A (wf u)) (hS : va_S A s.heap H locs) (hdg : decode cc pc = .ok (.lreturn, 1)) : W p l e R s m args below meth c H locs cells slots (MQ below (va_Ql (fun r q => r = x ∧ q = u) (fun q t => va_P E.1 vwCl (wf q) t.heap ∧ va_D A (wf q)) A) args s cells slots A) (F0 m pc ls [.long x]) :=
  W.lret hx hb hr (fun t ht _ => ⟨⟨x, u, rfl, ⟨rfl, rfl⟩, by rw [ht]; exact hP, hD⟩, hS.F ht⟩) hS.2.2 hdg hlocks
theorem ew_z {σ : Type} {u : σ} {v : Int32} {x : Bool} {wf : σ → va_W} {cc : ByteArray} (hx : p.tables.exec = Jvm.exec) (hb : c.code = cc) (hr : meth.sig.returnType = some .boolean) (hlocks : meth.locks = false) (hv : v = bI x) (hP : va_P E.1 vwCl (wf u) H) (hD : va_D A (wf u)) (hS : va_S A s.heap H locs) (hdg : decode cc pc = .ok (.ireturn, 1)) : W p l e R s m args below meth c H locs cells slots (MQ below (va_Qi (fun r q => r = bI x ∧ q = u) (fun q t => va_P E.1 vwCl (wf q) t.heap ∧ va_D A (wf q)) A) args s cells slots A) (F0 m pc ls [.int v]) := by
  subst hv
  exact W.zret hx hb hr (bI_nar x) (fun t ht _ => ⟨⟨bI x, u, rfl, ⟨rfl, rfl⟩, by rw [ht]; exact hP, hD⟩, hS.F ht⟩) hS.2.2 hdg hlocks
/-- a call behind which the heap is as it was -/
theorem cr_i {x : Int32} {a : Array Value} (hr : va_Run p l e R s m args below meth c H locs cells slots 0 0 (F0 m pc ls st) rest (vp_Si (fun r => r = x) a) (fun _ => False)) (kk : W p l e R s m args below meth c H locs cells slots Q (F0 m (pc + 3) ls (.int x :: rest))) : W p l e R s m args below meth c H locs cells slots Q (F0 m pc ls st) :=
  vp_callSi hr.run (fun r h => by rw [h]; exact kk)
theorem cr_l {x : Int64} {a : Array Value} (hr : va_Run p l e R s m args below meth c H locs cells slots 0 0 (F0 m pc ls st) rest (vp_Sl (fun r => r = x) a) (fun _ => False)) (kk : W p l e R s m args below meth c H locs cells slots Q (F0 m (pc + 3) ls (.long x :: rest))) : W p l e R s m args below meth c H locs cells slots Q (F0 m pc ls st) :=
  vp_callSl hr.run (fun r h => by rw [h]; exact kk)
theorem cr_f {x : UInt32} {a : Array Value} (hr : va_Run p l e R s m args below meth c H locs cells slots 0 0 (F0 m pc ls st) rest (vp_Sf (fun r => r = x) a) (fun _ => False)) (kk : W p l e R s m args below meth c H locs cells slots Q (F0 m (pc + 3) ls (.float x :: rest))) : W p l e R s m args below meth c H locs cells slots Q (F0 m pc ls st) :=
  vp_callSf hr.run (fun r h => by rw [h]; exact kk)
/-- a call that changes its part of the world -/
theorem cq_join {σ : Type} {u : σ} {wf : σ → va_W} {wc ws : va_W} {H1 : Heap} {t : State} (hP : va_P E.1 vwCl ws H) (hD : va_D A ws) (isC isR is1 : List Nat) (hc : isC.map (fun i => ws[i]?) = wc.map some) (hr : isR.map (fun i => ws[i]?) = (pick ws isR).map some) (hn : va_nd isR = true) (hd : disj isR isC = true) {ws1 : va_W} (h1 : is1.map (fun i => (pick ws isR ++ wf u)[i]?) = ws1.map some) (hn1 : va_nd is1 = true)
    (hF : ∀ q, va_A wc H.size q → A q) (ht : t.heap = H1) (hB : va_P E.1 vwCl (wf u) t.heap ∧ va_D (va_A wc H.size) (wf u)) (hk : ∀ q : Nat, q < H.size → ¬ va_A wc H.size q → H1[q]? = H[q]?) : va_P E.1 vwCl ws1 H1 ∧ va_D A ws1 := by
  obtain ⟨hP1, hD1⟩ := hB
  rw [ht] at hP1
  obtain ⟨g1, g2⟩ := va_join (wr := pick ws isR) (w1 := wf u) hP hD isC isR hc hr hn (disj_ok hd) hk hF hP1 hD1
  refine ⟨?_, g2.sub is1 hn1 h1⟩
  intro k q hk
  have h2 : (is1.map (fun i => (pick ws isR ++ wf u)[i]?))[k]? = some (some q) := by rw [h1, List.getElem?_map, hk]; rfl
  rw [List.getElem?_map] at h2
  cases hi : is1[k]? with
  | none => rw [hi] at h2; cases h2
  | some i => rw [hi] at h2; exact g1 i q (Option.some.inj h2)
theorem cq_i {σ : Type} {u : σ} {x : Int32} {wf : σ → va_W} {wc ws : va_W} {a : Array Value} (hP : va_P E.1 vwCl ws H) (hD : va_D A ws) (hS : va_S A s.heap H locs) (isC isR is1 : List Nat) (hF : ∀ q, va_A wc H.size q → A q)
    (hr0 : va_Run p l e R s m args below meth c H locs cells slots mc ms (F0 m pc ls st) rest (va_Qi (fun r q => r = x ∧ q = u) (fun q t => va_P E.1 vwCl (wf q) t.heap ∧ va_D (va_A wc H.size) (wf q)) (va_A wc H.size) a) (va_A wc H.size))
    (hc : isC.map (fun i => ws[i]?) = wc.map some) (hr : isR.map (fun i => ws[i]?) = (pick ws isR).map some) (hn : va_nd isR = true) (hd : disj isR isC = true) (ws1 : va_W) (h1 : is1.map (fun i => (pick ws isR ++ wf u)[i]?) = ws1.map some) (hn1 : va_nd is1 = true)
    (kk : ∀ (H1 : Heap) (locs1 : List Loc), va_P E.1 vwCl ws1 H1 → va_D A ws1 → va_S A s.heap H1 locs1 → W p l e R s m args below meth c H1 locs1 (cells + mc) (slots + ms) Q (F0 m (pc + 3) ls (.int x :: rest))) : W p l e R s m args below meth c H locs cells slots Q (F0 m pc ls st) := by
  refine va_calli hr0 hS (fun q _ h => hF q h) hF (fun r u1 t H1 locs1 ht hvm hw hB hz1 hk1 hS1 => ?_)
  obtain ⟨hw1, hw2⟩ := hw
  subst hw1; subst hw2
  obtain ⟨g1, g2⟩ := cq_join hP hD isC isR is1 hc hr hn hd h1 hn1 hF ht hB hk1
  exact kk H1 locs1 g1 g2 hS1
theorem cq_v {σ : Type} {u : σ} {wf : σ → va_W} {wc ws : va_W} {a : Array Value} (hP : va_P E.1 vwCl ws H) (hD : va_D A ws) (hS : va_S A s.heap H locs) (isC isR is1 : List Nat) (hF : ∀ q, va_A wc H.size q → A q)
    (hr0 : va_Run p l e R s m args below meth c H locs cells slots mc ms (F0 m pc ls st) rest (va_Qv (fun q => q = u) (fun q t => va_P E.1 vwCl (wf q) t.heap ∧ va_D (va_A wc H.size) (wf q)) (va_A wc H.size) a) (va_A wc H.size))
    (hc : isC.map (fun i => ws[i]?) = wc.map some) (hr : isR.map (fun i => ws[i]?) = (pick ws isR).map some) (hn : va_nd isR = true) (hd : disj isR isC = true) (ws1 : va_W) (h1 : is1.map (fun i => (pick ws isR ++ wf u)[i]?) = ws1.map some) (hn1 : va_nd is1 = true)
    (kk : ∀ (H1 : Heap) (locs1 : List Loc), va_P E.1 vwCl ws1 H1 → va_D A ws1 → va_S A s.heap H1 locs1 → W p l e R s m args below meth c H1 locs1 (cells + mc) (slots + ms) Q (F0 m (pc + 3) ls rest)) : W p l e R s m args below meth c H locs cells slots Q (F0 m pc ls st) := by
  refine va_callv hr0 hS (fun q _ h => hF q h) hF (fun u1 t H1 locs1 ht hvm hw hB hz1 hk1 hS1 => ?_)
  subst hw
  obtain ⟨g1, g2⟩ := cq_join hP hD isC isR is1 hc hr hn hd h1 hn1 hF ht hB hk1
  exact kk H1 locs1 g1 g2 hS1
end BASE
