def R_law : String := "GreatChunksLaw"
def lw_P (b : Addr) (xs : List Int32) (args : Array Value) (s : State) : Prop := args = #[.ref b] ∧ s.IntsAt b xs ∧ xs.length ≤ 2048 ∧ (Jvm.Cond.and given_1 narrow_1).before args s = true
/-- what a walk over the start with the record d0 says of its end, said of the start itself -/
theorem lw_closed {s t : State} {o : Outcome} {d0 : Drawn} {L : List Loc} {k n : Nat} (hd0 : s.drawn.sameBut d0 lw_cs) (hv : ∃ v, o = .returned v) (hW : (s.setDrawn d0).WarmedH t.vm) (hs : (s.setDrawn d0).sameButNew ({ t with vm := s.vm } : State) L k n) : State.butDraws s t lw_cs (fun t1 => Framed s o t1 L k n) := by
  have h2 : t.drawn = d0 := congrArg State.drawn hs.1
  refine ⟨⟨hv, hW, State.sameButNew.setDrawn hs s.drawn⟩, ?_, by decide⟩
  rw [h2]
  exact hd0
def lw_Q (_ : Array Value) (s : State) (o : Outcome) (t : State) : Prop := o = .returned (some (.int 1)) ∧ State.butDraws s t lw_cs (fun t1 => Framed s o t1 [] 600000 7302250)
def lw_Z (below : List Frame) (a : Array Value) (s : State) : State → Prop := fun t => ∃ o, t.status = .running ∧ Ended t below o ∧ lw_Q a s o t
/-- the law's own end, with 1 on the stack, nothing written that was there before, its room as the claim has it; d0: the record of draws at this point (at the entry s.drawn: begin with 'refine W.base ?_' and 'have hd0 := Drawn.sameBut.refl s.drawn lw_cs') -/
theorem lw_ret {p : Program} {l : Launch} {e : Env} {s : State} {m : MethodId} {below : List Frame} {meth : Method} {c : Code} {b : Nat} {d0 : Drawn} (hd0 : s.drawn.sameBut d0 lw_cs) (hx : p.tables.exec = Jvm.exec) (hb : c.code = code) (hr : meth.sig.returnType = ret) (hlocks : meth.locks = false) {pc : Nat} {H : Heap} {ls : Array Slot} (hdg : decode code pc = .ok (.ireturn, 1)) : W p l e room_1 (s.setDrawn d0) m #[Value.ref b] below meth c H [] 600000 7302250 (lw_Z below #[Value.ref b] s) (F0 m pc ls [.int 1]) := by
  intro T hT X
  obtain ⟨fs, hret, hrun, hended, hW, hframe⟩ := X.leave (v := some (.int 1)) (hlocks := hlocks) (fun h => by rw [hr] at h; cases h)
  have hmeth' : T.vm.method? m = some meth := X.method'
  refine ⟨T.setFrames fs, ?_, .returned (some (.int 1)), hrun, hended, rfl, lw_closed hd0 ⟨_, rfl⟩ hW hframe⟩
  jvm_step X.here [X.here.top, hx, hb, hdg, hmeth', hr, ret, narrow_b1]
  (try refine ⟨rfl, ?_⟩); (try refine ⟨rfl, ?_⟩)
  first | (intro acts; rw [hret _ acts rfl rfl rfl]) | rw [hret _ _ rfl rfl rfl]
  exact Steps.refl _
/-- what holds at the law's entry: the machine, the code, the tables' words (any of lw_tbl by 'hts w (by decide +kernel)'), the script of L ints xs at the cell b, what the Statement gives of the start (any of its parts by flat_of_before) -/
def lw_At (p : Program) (s : State) (m : MethodId) (meth : Method) (c : Code) (b L : Nat) (xs : Nat → Int32) : Prop :=
  p.tables.exec = Jvm.exec ∧ c.code = code ∧ meth.sig.returnType = ret ∧ c.maxLocals = 4 ∧ s.vm.findClass R_law = some m.cls ∧ (∀ w ∈ lw_tbl, w.before #[Value.ref b] s = true) ∧ va_X b L xs s s.heap ∧ b < s.heap.size ∧ meth.locks = false ∧ (Jvm.Cond.and given_1 narrow_1).before #[Value.ref b] s = true
set_option maxRecDepth 20000 in
theorem nw_in : ∀ q ∈ nwQ, Cond.methodLinkNest q.1 q.2.1 q.2.2.1 q.2.2.2 ∈ lw_tbl := by
  intro q hq
  have h : ∀ w ∈ nwQ.map (fun q => Cond.methodLinkNest q.1 q.2.1 q.2.2.1 q.2.2.2), w ∈ lw_tbl := in_ps [84, 90, 123, 142, 148, 174, 225, 362, 395, 402, 473, 488, 511, 541, 646, 695, 947, 1006] (by decide +kernel)
  exact h _ (List.mem_map.mpr ⟨q, hq, rfl⟩)
set_option maxRecDepth 20000 in
set_option maxHeartbeats 4000000 in
theorem law_ctx {s : State} {args : Array Value} (hts : ∀ w ∈ lw_tbl, w.before args s = true) (hgv : (Jvm.Cond.and given_1 narrow_1).before args s = true) : ∃ E : G0, CX E (fun q : Nat => s.heap.size ≤ q) s s.heap ∧ va_AO RX5 s := by
  obtain ⟨c0, i0, hk0⟩ := u_known (C := RX0) (T := TX0) (N := 3) (n := 3) hts inX0 (hts (.instantiable RX0 3) (List.mem_of_getElem? (i := 122) (by decide +kernel)))
  obtain ⟨c1, i1, hk1⟩ := u_known (C := RX1) (T := TX1) (N := 5) (n := 5) hts inX1 (hts (.instantiable RX1 5) (List.mem_of_getElem? (i := 173) (by decide +kernel)))
  obtain ⟨c2, i2, hk2⟩ := u_known (C := RX2) (T := TX2) (N := 3) (n := 3) hts inX2 (hts (.instantiable RX2 3) (List.mem_of_getElem? (i := 205) (by decide +kernel)))
  obtain ⟨c3, i3, hk3⟩ := u_known (C := RX3) (T := TX3) (N := 5) (n := 5) hts inX3 (hts (.instantiable RX3 5) (List.mem_of_getElem? (i := 224) (by decide +kernel)))
  obtain ⟨c4, i4, hk4⟩ := u_known (C := RX5) (T := TX5) (N := 9) (n := 9) hts inX5 (hts (.instantiable RX5 9) (List.mem_of_getElem? (i := 141) (by decide +kernel)))
  obtain ⟨c5, i5, hk5⟩ := u_known (C := RX7) (T := TX7) (N := 4) (n := 4) hts inX7 (hts (.instantiable RX7 4) (List.mem_of_getElem? (i := 83) (by decide +kernel)))
  obtain ⟨c6, i6, hk6⟩ := u_known (C := RX8) (T := TX8) (N := 4) (n := 4) hts inX8 (hts (.instantiable RX8 4) (List.mem_of_getElem? (i := 147) (by decide +kernel)))
  obtain ⟨c7, i7, hk7⟩ := u_known (C := RX9) (T := TX9) (N := 2) (n := 2) hts inX9 (hts (.instantiable RX9 2) (List.mem_of_getElem? (i := 89) (by decide +kernel)))
  obtain ⟨c8, i8, hk8⟩ := u_known (C := RX10) (T := TX10) (N := 8) (n := 8) hts inX10 (hts (.instantiable RX10 8) (List.mem_of_getElem? (i := 75) (by decide +kernel)))
  obtain ⟨c9, i9, hk9⟩ := u_known (C := RX11) (T := TX11) (N := 17) (n := 17) hts inX11 (hts (.instantiable RX11 17) (List.mem_of_getElem? (i := 1052) (by decide +kernel)))
  obtain ⟨dC, dI, hKc⟩ : ∃ (dC : Nat → ClassId) (dI : Nat → Nat → Nat), ∀ (k : Nat) (q : vw_C), vwCl[k]? = some q → u_Kn s q.1 q.2.1 q.2.2 (dC k) (dI k) := by
    refine ⟨fun k => match k with | 0 => c0 | 1 => c1 | 2 => c2 | 3 => c3 | 4 => c4 | 5 => c5 | 6 => c6 | 7 => c7 | 8 => c8 | _ => c9, fun k => match k with | 0 => i0 | 1 => i1 | 2 => i2 | 3 => i3 | 4 => i4 | 5 => i5 | 6 => i6 | 7 => i7 | 8 => i8 | _ => i9, ?_⟩
    intro k q hq
    match k, hq with
    | 0, hq => cases hq; exact hk0
    | 1, hq => cases hq; exact hk1
    | 2, hq => cases hq; exact hk2
    | 3, hq => cases hq; exact hk3
    | 4, hq => cases hq; exact hk4
    | 5, hq => cases hq; exact hk5
    | 6, hq => cases hq; exact hk6
    | 7, hq => cases hq; exact hk7
    | 8, hq => cases hq; exact hk8
    | 9, hq => cases hq; exact hk9
    | k + 10, hq => simp [vwCl] at hq
  obtain ⟨cI, kI, pI, fI1, fI2, fI3⟩ := Cond.arrayClass_spec (hts (.arrayClass .int) (List.mem_of_getElem? (i := 104) (by decide +kernel)))
  obtain ⟨cJ, kJ, pJ, fJ1, fJ2, fJ3⟩ := Cond.arrayClass_spec (hts (.arrayClass .long) (List.mem_of_getElem? (i := 1109) (by decide +kernel)))
  obtain ⟨cZ, kZ, pZ, fZ1, fZ2, fZ3⟩ := Cond.arrayClass_spec (hts (.arrayClass .boolean) (List.mem_of_getElem? (i := 1110) (by decide +kernel)))
  have hO := hts (.arrayOver (.object RX5)) (List.mem_of_getElem? (i := 128) (by decide +kernel))
  obtain ⟨pO, cO, kO, fO1, -, fO2, fO3, fO4⟩ := Cond.arrayOver_spec hO
  have hs := flat_of_before _ hgv
  have harr : (Cond.arrayOf (.static "GreatChunks$Kinds" "ABOVE" "[I") .int).before args s = true := hs _ (by decide +kernel)
  have hlen := va_eqt (hs (Cond.eq (.length (.static "GreatChunks$Kinds" "ABOVE" "[I")) (.int 6)) (by decide +kernel))
  have he0 := va_eqt (hs (Cond.eq (.elem (.static "GreatChunks$Kinds" "ABOVE" "[I") (.int 0)) (.int (-1))) (by decide +kernel))
  have he1 := va_eqt (hs (Cond.eq (.elem (.static "GreatChunks$Kinds" "ABOVE" "[I") (.int 1)) (.int (0))) (by decide +kernel))
  have he2 := va_eqt (hs (Cond.eq (.elem (.static "GreatChunks$Kinds" "ABOVE" "[I") (.int 2)) (.int (1))) (by decide +kernel))
  have he3 := va_eqt (hs (Cond.eq (.elem (.static "GreatChunks$Kinds" "ABOVE" "[I") (.int 3)) (.int (1))) (by decide +kernel))
  have he4 := va_eqt (hs (Cond.eq (.elem (.static "GreatChunks$Kinds" "ABOVE" "[I") (.int 4)) (.int (0))) (by decide +kernel))
  have he5 := va_eqt (hs (Cond.eq (.elem (.static "GreatChunks$Kinds" "ABOVE" "[I") (.int 5)) (.int (4))) (by decide +kernel))
  have hA : ∀ a : Nat, a < s.heap.size → ¬ (fun q : Nat => s.heap.size ≤ q) a := fun a h => Nat.not_le.mpr h
  obtain ⟨t, ht, hT⟩ := va_Tof (N := 6) (f := fun k => .int (abv k)) (A := (fun q : Nat => s.heap.size ≤ q)) (by decide) harr hlen (fun j hj => by
    match j, hj with
    | 0, _ => exact he0
    | 1, _ => exact he1
    | 2, _ => exact he2
    | 3, _ => exact he3
    | 4, _ => exact he4
    | 5, _ => exact he5
    | j + 6, hj => omega) hA
  have hZ := va_Zref (hts (.laysStatic "GreatChunks$Kinds" "ABOVE" "[I") (List.mem_of_getElem? (i := 464) (by decide +kernel))) (hts (.initialized RX6) (List.mem_of_getElem? (i := 71) (by decide +kernel))) ht hA
  refine ⟨((dC, dI), (fun k => match k with | 0 => cI | 1 => cJ | 2 => cZ | _ => cO), t), ⟨⟨hKc, ?_⟩, fun q hq => va_Nw.of rfl (hts _ (nw_in q hq)), hZ, hT⟩, hO⟩
  intro k q hk
  match k, hk with
  | 0, hk => cases hk; exact ⟨fun n z => ⟨(fun k h => by cases h), kI, fI2, pI, fI3⟩, fI1⟩
  | 1, hk => cases hk; exact ⟨fun n z => ⟨(fun k h => by cases h), kJ, fJ2, pJ, fJ3⟩, fJ1⟩
  | 2, hk => cases hk; exact ⟨fun n z => ⟨(fun k h => by cases h), kZ, fZ2, pZ, fZ3⟩, fZ1⟩
  | 3, hk => cases hk; exact ⟨fun n z => ⟨(fun k h => by cases h), kO, fO2, pO, fO3⟩, kO, pO, fO2, fO3, fO1, fO4⟩
  | k + 4, hk => simp [tyE] at hk
