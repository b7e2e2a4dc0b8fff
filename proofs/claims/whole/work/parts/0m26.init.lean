/-! INIT: what constructors need -/
theorem ar_I {E : G0} {cA : ClassId} {s : State} (h : va_K E.1 vwCl (tyE E ++ [(cA, .int)]) s) : cA = E.2.1 0 := by
  have h1 : s.vm.findClass ("[" ++ FieldType.int.toString) = some (E.2.1 0) := (h.2 0 _ rfl).2
  have h2 : s.vm.findClass ("[" ++ FieldType.int.toString) = some cA := (h.2 4 _ rfl).2
  exact Option.some.inj (h2.symm.trans h1)
theorem ar_J {E : G0} {cA : ClassId} {s : State} (h : va_K E.1 vwCl (tyE E ++ [(cA, .long)]) s) : cA = E.2.1 1 := by
  have h1 : s.vm.findClass ("[" ++ FieldType.long.toString) = some (E.2.1 1) := (h.2 1 _ rfl).2
  have h2 : s.vm.findClass ("[" ++ FieldType.long.toString) = some cA := (h.2 4 _ rfl).2
  exact Option.some.inj (h2.symm.trans h1)
theorem ar_Z {E : G0} {cA : ClassId} {s : State} (h : va_K E.1 vwCl (tyE E ++ [(cA, .boolean)]) s) : cA = E.2.1 2 := by
  have h1 : s.vm.findClass ("[" ++ FieldType.boolean.toString) = some (E.2.1 2) := (h.2 2 _ rfl).2
  have h2 : s.vm.findClass ("[" ++ FieldType.boolean.toString) = some cA := (h.2 4 _ rfl).2
  exact Option.some.inj (h2.symm.trans h1)
theorem ar_O {E : G0} {cA : ClassId} {s : State} (h : va_K E.1 vwCl (tyE E ++ [(cA, .object RX5)]) s) : cA = E.2.1 3 := by
  obtain ⟨_, _, _, _, _, h1⟩ := (h.2 3 _ rfl).2
  obtain ⟨_, _, _, _, _, h2⟩ := (h.2 4 _ rfl).2
  exact Option.some.inj (h2.symm.trans h1)
def PWO (E : G0) (w : va_W) (sz : Nat) (U : State) : Prop := PW E w sz U ∧ va_AO RX5 U
theorem PWO.blind {av : List Value} {E : G0} {w : va_W} {sz : Nat} : FrameBlind (va_Pc av (PWO E w sz)) := fun a U g mk q => by
  obtain ⟨q0, q1, q2⟩ := q
  exact ⟨q0, (PW.blind (av := av) a U g mk ⟨q0, q1⟩).2, va_AO.moved (u := U) (U := U.calling g mk a) (Vm.Alike.refl U.vm) q2⟩
theorem PWO.pre {av : List Value} {E : G0} {w : va_W} {A : Nat → Prop} {s : State} {H : Heap} {locs : List Loc} (hO : va_AO RX5 s) (h : CX E A s s.heap) (hS : va_S A s.heap H locs) (hP : va_P E.1 vwCl w H) (hD : va_D A w) (hF : ∀ q, va_A w H.size q → A q) : ∀ U : State, U.heap = H → s.WarmedH U.vm → va_Pc av (PWO E w H.size) av.toArray U := by
  intro U hU hW
  obtain ⟨h1, h2⟩ := PW.pre (av := av) h hS hP hD hF U hU hW
  exact ⟨h1, h2, va_AO.moved hW.alike hO⟩
section INITB
variable {p : Program} {l : Launch} {e : Env} {R : Room} {s : State} {m : MethodId} {args : Array Value} {below : List Frame} {meth : Method} {c : Code} {H : Heap} {locs : List Loc} {cells slots : Nat} {Q : State → Prop}
variable {mc ms : Nat} {rest st : List Value} {pc : Nat} {ls : Array Slot} {E : G0} {A : Nat → Prop}
theorem ei_v {a : Nat → Nat} {h0 : Nat} {wf : (Nat → Nat) → va_W} {cc : ByteArray} (hx : p.tables.exec = Jvm.exec) (hb : c.code = cc) (hr : meth.sig.returnType = none) (hlocks : meth.locks = false) (ha : a 0 = h0) (hP : va_P E.1 vwCl (wf a) H) (hD : va_D A (wf a)) (hS : va_S A s.heap H locs) (hdg : decode cc pc = .ok (.return_, 1)) : W p l e R s m args below meth c H locs cells slots (MQ below (va_Qv (fun q : Nat → Nat => q 0 = h0) (fun q t => va_P E.1 vwCl (wf q) t.heap ∧ va_D A (wf q)) A) args s cells slots A) (F0 m pc ls []) :=
  W.vret hx hb hr (fun t ht _ => ⟨⟨a, rfl, ha, by rw [ht]; exact hP, hD⟩, hS.F ht⟩) hS.2.2 hdg hlocks
theorem ci_v {q : Nat} {wf : (Nat → Nat) → va_W} {wc ws : va_W} {a : Array Value} (hP : va_P E.1 vwCl ws H) (hD : va_D A ws) (hS : va_S A s.heap H locs) (isC isR : List Nat) (hF : ∀ q, va_A wc H.size q → A q)
    (hr0 : va_Run p l e R s m args below meth c H locs cells slots mc ms (F0 m pc ls st) rest (va_Qv (fun a : Nat → Nat => a 0 = q) (fun a t => va_P E.1 vwCl (wf a) t.heap ∧ va_D (va_A wc H.size) (wf a)) (va_A wc H.size) a) (va_A wc H.size))
    (hc : isC.map (fun i => ws[i]?) = wc.map some) (hr : isR.map (fun i => ws[i]?) = (pick ws isR).map some) (hn : va_nd isR = true) (hd : disj isR isC = true)
    (kk : ∀ (a : Nat → Nat) (H1 : Heap) (locs1 : List Loc), a 0 = q → va_P E.1 vwCl (pick ws isR ++ wf a) H1 → va_D A (pick ws isR ++ wf a) → va_S A s.heap H1 locs1 → W p l e R s m args below meth c H1 locs1 (cells + mc) (slots + ms) Q (F0 m (pc + 3) ls rest)) : W p l e R s m args below meth c H locs cells slots Q (F0 m pc ls st) := by
  refine va_callv hr0 hS (fun q _ h => hF q h) hF (fun u1 t H1 locs1 ht hvm hw hB hz1 hk1 hS1 => ?_)
  obtain ⟨hP1, hD1⟩ := hB
  rw [ht] at hP1
  obtain ⟨g1, g2⟩ := va_join (wr := pick ws isR) (w1 := wf u1) hP hD isC isR hc hr hn (disj_ok hd) hk1 hF hP1 hD1
  exact kk u1 H1 locs1 hw g1 g2 hS1
end INITB
/-- the acts as they are made: without houses -/
abbrev AC : Type := Unit × Int32 × Int32
abbrev wAC2 (E : G0) (a : Nat → Nat) (v : AC) : va_W := [(a 0, .inr (0, [.ref (a 1), .int v.2.1, .int v.2.2])), (a 1, .inl (E.2.1 3, 6, .inr (.inr (.inr (.inr (fun _ => none))))))]
/-! X8_init -/
abbrev rmX8_init : Room := { frames := 1, cells := 2, slots := 10, locals := 12 }
theorem hdS_X8_init : yX8_init.cls ≠ "java/lang/invoke/MethodHandle" ∧ yX8_init.cls ≠ "java/lang/invoke/VarHandle" ∧ (parseMethodDescriptor yX8_init.desc).map (fun d => d.parameters.length) = some 0 := by decide +kernel
set_option maxHeartbeats 4000000 in
set_option maxRecDepth 100000 in
theorem c_X8_init (l : Launch) (E : G0) (sz : Nat) (h0 : Nat) : Met l yX8_init wsX8_init rmX8_init (va_Pc [.ref h0] (PW E [(h0, .inr (6, [.int 0, .int 0, .null, .null]))] sz)) (va_Qv (fun q : Nat → Nat => q 0 = h0) (fun q t => va_P E.1 vwCl ((fun a => wSV E a (0, 0, z32, z32)) q) t.heap ∧ va_D (va_A [(h0, .inr (6, [.int 0, .int 0, .null, .null]))] sz) ((fun a => wSV E a (0, 0, z32, z32)) q)) (va_A [(h0, .inr (6, [.int 0, .int 0, .null, .null]))] sz)) 2 10 (va_A [(h0, .inr (6, [.int 0, .int 0, .null, .null]))] sz) := by
  refine Met.ofW (cc := cX8_init) (maxL := 1) (ret := none) (by decide) rfl ?_
  intro p e s m args below meth c s₁ B hml hv
  obtain ⟨ha, hsz, hP, hD0, hC⟩ := hv
  have hx := B.exec
  have hb := B.bytes
  have hr := B.returns
  have hts := atoms_spec (ws := wsX8_init) B.pre
  have hown : s.vm.findClass RX8 = some m.cls := findClass_of_methodNamed B.named
  have hlocks := B.notSynchronized
  have hin : meth.name = "<init>" := (name_of_methodNamed B.named B.method).1
  subst hsz
  have hD := hD0.self (sz := s.heap.size)
  generalize hAe : va_A [(h0, .inr (6, [.int 0, .int 0, .null, .null]))] s.heap.size = A at hD hC ⊢
  have hA : ∀ q : Nat, s.heap.size ≤ q → A q := fun q h => by rw [← hAe]; exact Or.inr h
  have hS : va_S A s.heap s.heap [] := va_S.rf
  have w1 : (Cond.methodLink RX8 3 objectInit).before args s = true := hts _ (List.mem_of_getElem? (i := 1) rfl)
  have w2 : (Cond.instanceMethod objectInit).before args s = true := hts _ (List.mem_of_getElem? (i := 2) rfl)
  have w3 : (Cond.code objectInit ⟨#[0xb1]⟩ 1 none).before args s = true := hts _ (List.mem_of_getElem? (i := 3) rfl)
  have w4 : (Cond.fieldLink RX8 9 "GreatChunks$Servers" "many" "I").before args s = true := hts _ (List.mem_of_getElem? (i := 4) rfl)
  have w5 : ∀ w ∈ wsX80, w ∈ wsX8_init := in_pl 9 rfl
  have w6 : (Cond.fieldLink RX8 15 "GreatChunks$Servers" "upBits" "I").before args s = true := hts _ (List.mem_of_getElem? (i := 5) rfl)
  have w7 : (Cond.arrayClass .int).before args s = true := hts _ (List.mem_of_getElem? (i := 6) rfl)
  have w8 : (Cond.fieldLink RX8 18 "GreatChunks$Servers" "room" "[I").before args s = true := hts _ (List.mem_of_getElem? (i := 7) rfl)
  have w9 : (Cond.fieldLink RX8 22 "GreatChunks$Servers" "spoilt" "[I").before args s = true := hts _ (List.mem_of_getElem? (i := 8) rfl)
  refine st_W ha (Nat.le_of_ble_eq_true rfl) (fun ls hl => ?_)
  have hl : lv_has ls 1 [(0, .ref h0)] := hl
  refine lv_aload_n hx hb dX8_init_0 rfl (lv_at hl 0 rfl) ?_
  refine W.objInit hx hb hown w1 w2 w3 rfl (by rw [hml]; exact hl.1) rfl dX8_init_1 (Nat.le_of_ble_eq_true rfl) (Nat.le_of_ble_eq_true rfl) ?_
  refine lv_aload_n hx hb dX8_init_4 rfl (lv_at hl 0 rfl) ?_
  refine lv_iconst (v := 0) hx hb dX8_init_5 rfl ?_
  refine va_put (D := E.1) (ci := 6) (v := .int 0) (ty := .int) (C := RX8) (T := TX8) (N := 4) hx hb hts w5 tyX8 tyX8_ok nmX8 hown hC.1 hP hD hS 0 rfl rfl 0 (by decide) w4 (fun _ h9 => h9) rfl (by decide +kernel) rfl rfl (Nat.le_of_ble_eq_true rfl) dX8_init_6 (fun H locs hP hD hS => ?_)
  have hP : va_P E.1 vwCl [(h0, .inr (6, [.int 0, .int 0, .null, .null]))] H := hP
  have hD : va_D A [(h0, .inr (6, [.int 0, .int 0, .null, .null]))] := hD
  refine lv_aload_n hx hb dX8_init_9 rfl (lv_at hl 0 rfl) ?_
  refine lv_iconst (v := 0) hx hb dX8_init_10 rfl ?_
  refine va_put (D := E.1) (ci := 6) (v := .int 0) (ty := .int) (C := RX8) (T := TX8) (N := 4) hx hb hts w5 tyX8 tyX8_ok nmX8 hown hC.1 hP hD hS 0 rfl rfl 1 (by decide) w6 (fun _ h9 => h9) rfl (by decide +kernel) rfl rfl (Nat.le_of_ble_eq_true rfl) dX8_init_11 (fun H locs hP hD hS => ?_)
  have hP : va_P E.1 vwCl [(h0, .inr (6, [.int 0, .int 0, .null, .null]))] H := hP
  have hD : va_D A [(h0, .inr (6, [.int 0, .int 0, .null, .null]))] := hD
  refine lv_aload_n hx hb dX8_init_14 rfl (lv_at hl 0 rfl) ?_
  refine lv_iconst (v := 5) hx hb dX8_init_15 rfl ?_
  refine va_newa (atype := .int) (n := 5) (N' := 5) (a0 := (5, .inl z32)) hx hb w7 rfl hC.1 hP hD hS hA (fun _ => rfl) (by decide) (by decide) (by decide) (Nat.le_of_ble_eq_true rfl) (Nat.le_of_ble_eq_true rfl) dX8_init_16 (fun q1 cA H hK9 hP hD hS => ?_)
  obtain rfl := ar_I hK9
  have hP : va_P E.1 vwCl [(h0, .inr (6, [.int 0, .int 0, .null, .null])), (q1, .inl (E.2.1 0, 5, .inl z32))] H := hP
  have hD : va_D A [(h0, .inr (6, [.int 0, .int 0, .null, .null])), (q1, .inl (E.2.1 0, 5, .inl z32))] := hD
  refine va_putF (D := E.1) (ci := 6) (v := .ref q1) (ty := .array .int) (C := RX8) (T := TX8) (N := 4) hx hb hts w5 tyX8 tyX8_ok nmX8 hown hC.1 hP hD hS 0 rfl rfl 2 (by decide) w8 (fun _ h9 => h9) rfl hin rfl (by decide +kernel) rfl rfl (Nat.le_of_ble_eq_true rfl) dX8_init_18 (fun H locs hP hD hS => ?_)
  have hP : va_P E.1 vwCl [(h0, .inr (6, [.int 0, .int 0, .ref q1, .null])), (q1, .inl (E.2.1 0, 5, .inl z32))] H := hP
  have hD : va_D A [(h0, .inr (6, [.int 0, .int 0, .ref q1, .null])), (q1, .inl (E.2.1 0, 5, .inl z32))] := hD
  refine lv_aload_n hx hb dX8_init_21 rfl (lv_at hl 0 rfl) ?_
  refine lv_iconst (v := 5) hx hb dX8_init_22 rfl ?_
  refine va_newa (atype := .int) (n := 5) (N' := 5) (a0 := (5, .inl z32)) hx hb w7 rfl hC.1 hP hD hS hA (fun _ => rfl) (by decide) (by decide) (by decide) (Nat.le_of_ble_eq_true rfl) (Nat.le_of_ble_eq_true rfl) dX8_init_23 (fun q2 cA H hK9 hP hD hS => ?_)
  obtain rfl := ar_I hK9
  have hP : va_P E.1 vwCl [(h0, .inr (6, [.int 0, .int 0, .ref q1, .null])), (q1, .inl (E.2.1 0, 5, .inl z32)), (q2, .inl (E.2.1 0, 5, .inl z32))] H := hP
  have hD : va_D A [(h0, .inr (6, [.int 0, .int 0, .ref q1, .null])), (q1, .inl (E.2.1 0, 5, .inl z32)), (q2, .inl (E.2.1 0, 5, .inl z32))] := hD
  refine va_putF (D := E.1) (ci := 6) (v := .ref q2) (ty := .array .int) (C := RX8) (T := TX8) (N := 4) hx hb hts w5 tyX8 tyX8_ok nmX8 hown hC.1 hP hD hS 0 rfl rfl 3 (by decide) w9 (fun _ h9 => h9) rfl hin rfl (by decide +kernel) rfl rfl (Nat.le_of_ble_eq_true rfl) dX8_init_25 (fun H locs hP hD hS => ?_)
  have hP : va_P E.1 vwCl [(h0, .inr (6, [.int 0, .int 0, .ref q1, .ref q2])), (q1, .inl (E.2.1 0, 5, .inl z32)), (q2, .inl (E.2.1 0, 5, .inl z32))] H := hP
  have hD : va_D A [(h0, .inr (6, [.int 0, .int 0, .ref q1, .ref q2])), (q1, .inl (E.2.1 0, 5, .inl z32)), (q2, .inl (E.2.1 0, 5, .inl z32))] := hD
  refine W.widen (k := 2) (n := 10) (Nat.le_of_ble_eq_true rfl) (Nat.le_of_ble_eq_true rfl) ?_
  exact ei_v (a := (fun k => ([h0, q1, q2] : List Nat).getD k 0)) (wf := (fun a => wSV E a (0, 0, z32, z32))) hx hb hr hlocks rfl (hP.sub [0, 1, 2] rfl) (hD.sub [0, 1, 2] rfl rfl) hS dX8_init_28

/-! X1_init -/
abbrev rmX1_init : Room := { frames := 1, cells := 4, slots := 120, locals := 12 }
theorem hdS_X1_init : yX1_init.cls ≠ "java/lang/invoke/MethodHandle" ∧ yX1_init.cls ≠ "java/lang/invoke/VarHandle" ∧ (parseMethodDescriptor yX1_init.desc).map (fun d => d.parameters.length) = some 0 := by decide +kernel
set_option maxHeartbeats 4000000 in
set_option maxRecDepth 100000 in
theorem c_X1_init (l : Launch) (E : G0) (sz : Nat) (h0 : Nat) : Met l yX1_init wsX1_init rmX1_init (va_Pc [.ref h0] (PW E [(h0, .inr (1, [.int 0, .null, .null, .null, .null]))] sz)) (va_Qv (fun q : Nat → Nat => q 0 = h0) (fun q t => va_P E.1 vwCl ((fun a => wCK E a (0, z32, z32, z32, z32)) q) t.heap ∧ va_D (va_A [(h0, .inr (1, [.int 0, .null, .null, .null, .null]))] sz) ((fun a => wCK E a (0, z32, z32, z32, z32)) q)) (va_A [(h0, .inr (1, [.int 0, .null, .null, .null, .null]))] sz)) 4 120 (va_A [(h0, .inr (1, [.int 0, .null, .null, .null, .null]))] sz) := by
  refine Met.ofW (cc := cX1_init) (maxL := 1) (ret := none) (by decide) rfl ?_
  intro p e s m args below meth c s₁ B hml hv
  obtain ⟨ha, hsz, hP, hD0, hC⟩ := hv
  have hx := B.exec
  have hb := B.bytes
  have hr := B.returns
  have hts := atoms_spec (ws := wsX1_init) B.pre
  have hown : s.vm.findClass RX1 = some m.cls := findClass_of_methodNamed B.named
  have hlocks := B.notSynchronized
  have hin : meth.name = "<init>" := (name_of_methodNamed B.named B.method).1
  subst hsz
  have hD := hD0.self (sz := s.heap.size)
  generalize hAe : va_A [(h0, .inr (1, [.int 0, .null, .null, .null, .null]))] s.heap.size = A at hD hC ⊢
  have hA : ∀ q : Nat, s.heap.size ≤ q → A q := fun q h => by rw [← hAe]; exact Or.inr h
  have hS : va_S A s.heap s.heap [] := va_S.rf
  have w1 : (Cond.methodLink RX1 3 objectInit).before args s = true := hts _ (List.mem_of_getElem? (i := 1) rfl)
  have w2 : (Cond.instanceMethod objectInit).before args s = true := hts _ (List.mem_of_getElem? (i := 2) rfl)
  have w3 : (Cond.code objectInit ⟨#[0xb1]⟩ 1 none).before args s = true := hts _ (List.mem_of_getElem? (i := 3) rfl)
  have w4 : (Cond.fieldLink RX1 9 "GreatChunks$Chunks" "made" "I").before args s = true := hts _ (List.mem_of_getElem? (i := 4) rfl)
  have w5 : ∀ w ∈ wsX10, w ∈ wsX1_init := in_pl 10 rfl
  have w6 : (Cond.arrayClass .int).before args s = true := hts _ (List.mem_of_getElem? (i := 5) rfl)
  have w7 : (Cond.fieldLink RX1 15 "GreatChunks$Chunks" "version" "[I").before args s = true := hts _ (List.mem_of_getElem? (i := 6) rfl)
  have w8 : (Cond.fieldLink RX1 19 "GreatChunks$Chunks" "shares" "[I").before args s = true := hts _ (List.mem_of_getElem? (i := 7) rfl)
  have w9 : (Cond.fieldLink RX1 22 "GreatChunks$Chunks" "holder" "[I").before args s = true := hts _ (List.mem_of_getElem? (i := 8) rfl)
  have w10 : (Cond.fieldLink RX1 25 "GreatChunks$Chunks" "till" "[I").before args s = true := hts _ (List.mem_of_getElem? (i := 9) rfl)
  refine st_W ha (Nat.le_of_ble_eq_true rfl) (fun ls hl => ?_)
  have hl : lv_has ls 1 [(0, .ref h0)] := hl
  refine lv_aload_n hx hb dX1_init_0 rfl (lv_at hl 0 rfl) ?_
  refine W.objInit hx hb hown w1 w2 w3 rfl (by rw [hml]; exact hl.1) rfl dX1_init_1 (Nat.le_of_ble_eq_true rfl) (Nat.le_of_ble_eq_true rfl) ?_
  refine lv_aload_n hx hb dX1_init_4 rfl (lv_at hl 0 rfl) ?_
  refine lv_iconst (v := 0) hx hb dX1_init_5 rfl ?_
  refine va_put (D := E.1) (ci := 1) (v := .int 0) (ty := .int) (C := RX1) (T := TX1) (N := 5) hx hb hts w5 tyX1 tyX1_ok nmX1 hown hC.1 hP hD hS 0 rfl rfl 0 (by decide) w4 (fun _ h9 => h9) rfl (by decide +kernel) rfl rfl (Nat.le_of_ble_eq_true rfl) dX1_init_6 (fun H locs hP hD hS => ?_)
  have hP : va_P E.1 vwCl [(h0, .inr (1, [.int 0, .null, .null, .null, .null]))] H := hP
  have hD : va_D A [(h0, .inr (1, [.int 0, .null, .null, .null, .null]))] := hD
  refine lv_aload_n hx hb dX1_init_9 rfl (lv_at hl 0 rfl) ?_
  refine lv_bipush (v := 30) hx hb dX1_init_10 rfl ?_
  refine va_newa (atype := .int) (n := 30) (N' := 30) (a0 := (30, .inl z32)) hx hb w6 rfl hC.1 hP hD hS hA (fun _ => rfl) (by decide) (by decide) (by decide) (Nat.le_of_ble_eq_true rfl) (Nat.le_of_ble_eq_true rfl) dX1_init_12 (fun q1 cA H hK9 hP hD hS => ?_)
  obtain rfl := ar_I hK9
  have hP : va_P E.1 vwCl [(h0, .inr (1, [.int 0, .null, .null, .null, .null])), (q1, .inl (E.2.1 0, 30, .inl z32))] H := hP
  have hD : va_D A [(h0, .inr (1, [.int 0, .null, .null, .null, .null])), (q1, .inl (E.2.1 0, 30, .inl z32))] := hD
  refine va_putF (D := E.1) (ci := 1) (v := .ref q1) (ty := .array .int) (C := RX1) (T := TX1) (N := 5) hx hb hts w5 tyX1 tyX1_ok nmX1 hown hC.1 hP hD hS 0 rfl rfl 1 (by decide) w7 (fun _ h9 => h9) rfl hin rfl (by decide +kernel) rfl rfl (Nat.le_of_ble_eq_true rfl) dX1_init_14 (fun H locs hP hD hS => ?_)
  have hP : va_P E.1 vwCl [(h0, .inr (1, [.int 0, .ref q1, .null, .null, .null])), (q1, .inl (E.2.1 0, 30, .inl z32))] H := hP
  have hD : va_D A [(h0, .inr (1, [.int 0, .ref q1, .null, .null, .null])), (q1, .inl (E.2.1 0, 30, .inl z32))] := hD
  refine lv_aload_n hx hb dX1_init_17 rfl (lv_at hl 0 rfl) ?_
  refine lv_bipush (v := 30) hx hb dX1_init_18 rfl ?_
  refine va_newa (atype := .int) (n := 30) (N' := 30) (a0 := (30, .inl z32)) hx hb w6 rfl hC.1 hP hD hS hA (fun _ => rfl) (by decide) (by decide) (by decide) (Nat.le_of_ble_eq_true rfl) (Nat.le_of_ble_eq_true rfl) dX1_init_20 (fun q2 cA H hK9 hP hD hS => ?_)
  obtain rfl := ar_I hK9
  have hP : va_P E.1 vwCl [(h0, .inr (1, [.int 0, .ref q1, .null, .null, .null])), (q1, .inl (E.2.1 0, 30, .inl z32)), (q2, .inl (E.2.1 0, 30, .inl z32))] H := hP
  have hD : va_D A [(h0, .inr (1, [.int 0, .ref q1, .null, .null, .null])), (q1, .inl (E.2.1 0, 30, .inl z32)), (q2, .inl (E.2.1 0, 30, .inl z32))] := hD
  refine va_putF (D := E.1) (ci := 1) (v := .ref q2) (ty := .array .int) (C := RX1) (T := TX1) (N := 5) hx hb hts w5 tyX1 tyX1_ok nmX1 hown hC.1 hP hD hS 0 rfl rfl 2 (by decide) w8 (fun _ h9 => h9) rfl hin rfl (by decide +kernel) rfl rfl (Nat.le_of_ble_eq_true rfl) dX1_init_22 (fun H locs hP hD hS => ?_)
  have hP : va_P E.1 vwCl [(h0, .inr (1, [.int 0, .ref q1, .ref q2, .null, .null])), (q1, .inl (E.2.1 0, 30, .inl z32)), (q2, .inl (E.2.1 0, 30, .inl z32))] H := hP
  have hD : va_D A [(h0, .inr (1, [.int 0, .ref q1, .ref q2, .null, .null])), (q1, .inl (E.2.1 0, 30, .inl z32)), (q2, .inl (E.2.1 0, 30, .inl z32))] := hD
  refine lv_aload_n hx hb dX1_init_25 rfl (lv_at hl 0 rfl) ?_
  refine lv_bipush (v := 30) hx hb dX1_init_26 rfl ?_
  refine va_newa (atype := .int) (n := 30) (N' := 30) (a0 := (30, .inl z32)) hx hb w6 rfl hC.1 hP hD hS hA (fun _ => rfl) (by decide) (by decide) (by decide) (Nat.le_of_ble_eq_true rfl) (Nat.le_of_ble_eq_true rfl) dX1_init_28 (fun q3 cA H hK9 hP hD hS => ?_)
  obtain rfl := ar_I hK9
  have hP : va_P E.1 vwCl [(h0, .inr (1, [.int 0, .ref q1, .ref q2, .null, .null])), (q1, .inl (E.2.1 0, 30, .inl z32)), (q2, .inl (E.2.1 0, 30, .inl z32)), (q3, .inl (E.2.1 0, 30, .inl z32))] H := hP
  have hD : va_D A [(h0, .inr (1, [.int 0, .ref q1, .ref q2, .null, .null])), (q1, .inl (E.2.1 0, 30, .inl z32)), (q2, .inl (E.2.1 0, 30, .inl z32)), (q3, .inl (E.2.1 0, 30, .inl z32))] := hD
  refine va_putF (D := E.1) (ci := 1) (v := .ref q3) (ty := .array .int) (C := RX1) (T := TX1) (N := 5) hx hb hts w5 tyX1 tyX1_ok nmX1 hown hC.1 hP hD hS 0 rfl rfl 3 (by decide) w9 (fun _ h9 => h9) rfl hin rfl (by decide +kernel) rfl rfl (Nat.le_of_ble_eq_true rfl) dX1_init_30 (fun H locs hP hD hS => ?_)
  have hP : va_P E.1 vwCl [(h0, .inr (1, [.int 0, .ref q1, .ref q2, .ref q3, .null])), (q1, .inl (E.2.1 0, 30, .inl z32)), (q2, .inl (E.2.1 0, 30, .inl z32)), (q3, .inl (E.2.1 0, 30, .inl z32))] H := hP
  have hD : va_D A [(h0, .inr (1, [.int 0, .ref q1, .ref q2, .ref q3, .null])), (q1, .inl (E.2.1 0, 30, .inl z32)), (q2, .inl (E.2.1 0, 30, .inl z32)), (q3, .inl (E.2.1 0, 30, .inl z32))] := hD
  refine lv_aload_n hx hb dX1_init_33 rfl (lv_at hl 0 rfl) ?_
  refine lv_bipush (v := 30) hx hb dX1_init_34 rfl ?_
  refine va_newa (atype := .int) (n := 30) (N' := 30) (a0 := (30, .inl z32)) hx hb w6 rfl hC.1 hP hD hS hA (fun _ => rfl) (by decide) (by decide) (by decide) (Nat.le_of_ble_eq_true rfl) (Nat.le_of_ble_eq_true rfl) dX1_init_36 (fun q4 cA H hK9 hP hD hS => ?_)
  obtain rfl := ar_I hK9
  have hP : va_P E.1 vwCl [(h0, .inr (1, [.int 0, .ref q1, .ref q2, .ref q3, .null])), (q1, .inl (E.2.1 0, 30, .inl z32)), (q2, .inl (E.2.1 0, 30, .inl z32)), (q3, .inl (E.2.1 0, 30, .inl z32)), (q4, .inl (E.2.1 0, 30, .inl z32))] H := hP
  have hD : va_D A [(h0, .inr (1, [.int 0, .ref q1, .ref q2, .ref q3, .null])), (q1, .inl (E.2.1 0, 30, .inl z32)), (q2, .inl (E.2.1 0, 30, .inl z32)), (q3, .inl (E.2.1 0, 30, .inl z32)), (q4, .inl (E.2.1 0, 30, .inl z32))] := hD
  refine va_putF (D := E.1) (ci := 1) (v := .ref q4) (ty := .array .int) (C := RX1) (T := TX1) (N := 5) hx hb hts w5 tyX1 tyX1_ok nmX1 hown hC.1 hP hD hS 0 rfl rfl 4 (by decide) w10 (fun _ h9 => h9) rfl hin rfl (by decide +kernel) rfl rfl (Nat.le_of_ble_eq_true rfl) dX1_init_38 (fun H locs hP hD hS => ?_)
  have hP : va_P E.1 vwCl [(h0, .inr (1, [.int 0, .ref q1, .ref q2, .ref q3, .ref q4])), (q1, .inl (E.2.1 0, 30, .inl z32)), (q2, .inl (E.2.1 0, 30, .inl z32)), (q3, .inl (E.2.1 0, 30, .inl z32)), (q4, .inl (E.2.1 0, 30, .inl z32))] H := hP
  have hD : va_D A [(h0, .inr (1, [.int 0, .ref q1, .ref q2, .ref q3, .ref q4])), (q1, .inl (E.2.1 0, 30, .inl z32)), (q2, .inl (E.2.1 0, 30, .inl z32)), (q3, .inl (E.2.1 0, 30, .inl z32)), (q4, .inl (E.2.1 0, 30, .inl z32))] := hD
  refine W.widen (k := 4) (n := 120) (Nat.le_of_ble_eq_true rfl) (Nat.le_of_ble_eq_true rfl) ?_
  exact ei_v (a := (fun k => ([h0, q1, q2, q3, q4] : List Nat).getD k 0)) (wf := (fun a => wCK E a (0, z32, z32, z32, z32))) hx hb hr hlocks rfl (hP.sub [0, 1, 2, 3, 4] rfl) (hD.sub [0, 1, 2, 3, 4] rfl rfl) hS dX1_init_41

/-! X2_init -/
abbrev rmX2_init : Room := { frames := 1, cells := 3, slots := 1650, locals := 23 }
theorem hdS_X2_init : yX2_init.cls ≠ "java/lang/invoke/MethodHandle" ∧ yX2_init.cls ≠ "java/lang/invoke/VarHandle" ∧ (parseMethodDescriptor yX2_init.desc).map (fun d => d.parameters.length) = some 0 := by decide +kernel
set_option maxHeartbeats 4000000 in
set_option maxRecDepth 100000 in
theorem c_X2_init (l : Launch) (E : G0) (sz : Nat) (h0 : Nat) (x : Nat → Int32) (hf : f_J7_fill_53178 150 z32 (-1) = some x) : Met l yX2_init wsX2_init rmX2_init (va_Pc [.ref h0] (PW E [(h0, .inr (2, [.null, .null, .null]))] sz)) (va_Qv (fun q : Nat → Nat => q 0 = h0) (fun q t => va_P E.1 vwCl ((fun a => wCP E a (x, z32, z32)) q) t.heap ∧ va_D (va_A [(h0, .inr (2, [.null, .null, .null]))] sz) ((fun a => wCP E a (x, z32, z32)) q)) (va_A [(h0, .inr (2, [.null, .null, .null]))] sz)) 3 1650 (va_A [(h0, .inr (2, [.null, .null, .null]))] sz) := by
  refine Met.ofW (cc := cX2_init) (maxL := 1) (ret := none) (by decide) rfl ?_
  intro p e s m args below meth c s₁ B hml hv
  obtain ⟨ha, hsz, hP, hD0, hC⟩ := hv
  have hx := B.exec
  have hb := B.bytes
  have hr := B.returns
  have hts := atoms_spec (ws := wsX2_init) B.pre
  have hown : s.vm.findClass RX2 = some m.cls := findClass_of_methodNamed B.named
  have hlocks := B.notSynchronized
  have hin : meth.name = "<init>" := (name_of_methodNamed B.named B.method).1
  subst hsz
  have hD := hD0.self (sz := s.heap.size)
  generalize hAe : va_A [(h0, .inr (2, [.null, .null, .null]))] s.heap.size = A at hD hC ⊢
  have hA : ∀ q : Nat, s.heap.size ≤ q → A q := fun q h => by rw [← hAe]; exact Or.inr h
  have hS : va_S A s.heap s.heap [] := va_S.rf
  have w1 : (Cond.methodLink RX2 3 objectInit).before args s = true := hts _ (List.mem_of_getElem? (i := 1) rfl)
  have w2 : (Cond.instanceMethod objectInit).before args s = true := hts _ (List.mem_of_getElem? (i := 2) rfl)
  have w3 : (Cond.code objectInit ⟨#[0xb1]⟩ 1 none).before args s = true := hts _ (List.mem_of_getElem? (i := 3) rfl)
  have w4 : (Cond.arrayClass .int).before args s = true := hts _ (List.mem_of_getElem? (i := 4) rfl)
  have w5 : (Cond.fieldLink RX2 9 "GreatChunks$Copies" "version" "[I").before args s = true := hts _ (List.mem_of_getElem? (i := 5) rfl)
  have w6 : ∀ w ∈ wsX20, w ∈ wsX2_init := in_pl 12 rfl
  have w7 : (Cond.fieldLink RX2 15 "GreatChunks$Copies" "filled" "[I").before args s = true := hts _ (List.mem_of_getElem? (i := 6) rfl)
  have w8 : (Cond.fieldLink RX2 18 "GreatChunks$Copies" "cells" "[I").before args s = true := hts _ (List.mem_of_getElem? (i := 7) rfl)
  refine st_W ha (Nat.le_of_ble_eq_true rfl) (fun ls hl => ?_)
  have hl : lv_has ls 1 [(0, .ref h0)] := hl
  refine lv_aload_n hx hb dX2_init_0 rfl (lv_at hl 0 rfl) ?_
  refine W.objInit hx hb hown w1 w2 w3 rfl (by rw [hml]; exact hl.1) rfl dX2_init_1 (Nat.le_of_ble_eq_true rfl) (Nat.le_of_ble_eq_true rfl) ?_
  refine lv_aload_n hx hb dX2_init_4 rfl (lv_at hl 0 rfl) ?_
  refine lv_sipush (v := 150) hx hb dX2_init_5 rfl ?_
  refine va_newa (atype := .int) (n := 150) (N' := 150) (a0 := (150, .inl z32)) hx hb w4 rfl hC.1 hP hD hS hA (fun _ => rfl) (by decide) (by decide) (by decide) (Nat.le_of_ble_eq_true rfl) (Nat.le_of_ble_eq_true rfl) dX2_init_8 (fun q1 cA H hK9 hP hD hS => ?_)
  obtain rfl := ar_I hK9
  have hP : va_P E.1 vwCl [(h0, .inr (2, [.null, .null, .null])), (q1, .inl (E.2.1 0, 150, .inl z32))] H := hP
  have hD : va_D A [(h0, .inr (2, [.null, .null, .null])), (q1, .inl (E.2.1 0, 150, .inl z32))] := hD
  refine va_putF (D := E.1) (ci := 2) (v := .ref q1) (ty := .array .int) (C := RX2) (T := TX2) (N := 3) hx hb hts w6 tyX2 tyX2_ok nmX2 hown hC.1 hP hD hS 0 rfl rfl 0 (by decide) w5 (fun _ h9 => h9) rfl hin rfl (by decide +kernel) rfl rfl (Nat.le_of_ble_eq_true rfl) dX2_init_10 (fun H locs hP hD hS => ?_)
  have hP : va_P E.1 vwCl [(h0, .inr (2, [.ref q1, .null, .null])), (q1, .inl (E.2.1 0, 150, .inl z32))] H := hP
  have hD : va_D A [(h0, .inr (2, [.ref q1, .null, .null])), (q1, .inl (E.2.1 0, 150, .inl z32))] := hD
  refine lv_aload_n hx hb dX2_init_13 rfl (lv_at hl 0 rfl) ?_
  refine lv_sipush (v := 150) hx hb dX2_init_14 rfl ?_
  refine va_newa (atype := .int) (n := 150) (N' := 150) (a0 := (150, .inl z32)) hx hb w4 rfl hC.1 hP hD hS hA (fun _ => rfl) (by decide) (by decide) (by decide) (Nat.le_of_ble_eq_true rfl) (Nat.le_of_ble_eq_true rfl) dX2_init_17 (fun q2 cA H hK9 hP hD hS => ?_)
  obtain rfl := ar_I hK9
  have hP : va_P E.1 vwCl [(h0, .inr (2, [.ref q1, .null, .null])), (q1, .inl (E.2.1 0, 150, .inl z32)), (q2, .inl (E.2.1 0, 150, .inl z32))] H := hP
  have hD : va_D A [(h0, .inr (2, [.ref q1, .null, .null])), (q1, .inl (E.2.1 0, 150, .inl z32)), (q2, .inl (E.2.1 0, 150, .inl z32))] := hD
  refine va_putF (D := E.1) (ci := 2) (v := .ref q2) (ty := .array .int) (C := RX2) (T := TX2) (N := 3) hx hb hts w6 tyX2 tyX2_ok nmX2 hown hC.1 hP hD hS 0 rfl rfl 1 (by decide) w7 (fun _ h9 => h9) rfl hin rfl (by decide +kernel) rfl rfl (Nat.le_of_ble_eq_true rfl) dX2_init_19 (fun H locs hP hD hS => ?_)
  have hP : va_P E.1 vwCl [(h0, .inr (2, [.ref q1, .ref q2, .null])), (q1, .inl (E.2.1 0, 150, .inl z32)), (q2, .inl (E.2.1 0, 150, .inl z32))] H := hP
  have hD : va_D A [(h0, .inr (2, [.ref q1, .ref q2, .null])), (q1, .inl (E.2.1 0, 150, .inl z32)), (q2, .inl (E.2.1 0, 150, .inl z32))] := hD
  refine lv_aload_n hx hb dX2_init_22 rfl (lv_at hl 0 rfl) ?_
  refine lv_sipush (v := 1350) hx hb dX2_init_23 rfl ?_
  refine va_newa (atype := .int) (n := 1350) (N' := 1350) (a0 := (1350, .inl z32)) hx hb w4 rfl hC.1 hP hD hS hA (fun _ => rfl) (by decide) (by decide) (by decide) (Nat.le_of_ble_eq_true rfl) (Nat.le_of_ble_eq_true rfl) dX2_init_26 (fun q3 cA H hK9 hP hD hS => ?_)
  obtain rfl := ar_I hK9
  have hP : va_P E.1 vwCl [(h0, .inr (2, [.ref q1, .ref q2, .null])), (q1, .inl (E.2.1 0, 150, .inl z32)), (q2, .inl (E.2.1 0, 150, .inl z32)), (q3, .inl (E.2.1 0, 1350, .inl z32))] H := hP
  have hD : va_D A [(h0, .inr (2, [.ref q1, .ref q2, .null])), (q1, .inl (E.2.1 0, 150, .inl z32)), (q2, .inl (E.2.1 0, 150, .inl z32)), (q3, .inl (E.2.1 0, 1350, .inl z32))] := hD
  refine va_putF (D := E.1) (ci := 2) (v := .ref q3) (ty := .array .int) (C := RX2) (T := TX2) (N := 3) hx hb hts w6 tyX2 tyX2_ok nmX2 hown hC.1 hP hD hS 0 rfl rfl 2 (by decide) w8 (fun _ h9 => h9) rfl hin rfl (by decide +kernel) rfl rfl (Nat.le_of_ble_eq_true rfl) dX2_init_28 (fun H locs hP hD hS => ?_)
  have hP : va_P E.1 vwCl [(h0, .inr (2, [.ref q1, .ref q2, .ref q3])), (q1, .inl (E.2.1 0, 150, .inl z32)), (q2, .inl (E.2.1 0, 150, .inl z32)), (q3, .inl (E.2.1 0, 1350, .inl z32))] H := hP
  have hD : va_D A [(h0, .inr (2, [.ref q1, .ref q2, .ref q3])), (q1, .inl (E.2.1 0, 150, .inl z32)), (q2, .inl (E.2.1 0, 150, .inl z32)), (q3, .inl (E.2.1 0, 1350, .inl z32))] := hD
  refine lv_aload_n hx hb dX2_init_31 rfl (lv_at hl 0 rfl) ?_
  refine va_get (D := E.1) (ci := 2) (v := .ref q1) (C := RX2) (T := TX2) (N := 3) hx hb hts w6 hown hC.1 hP 0 rfl rfl 0 (by decide) w5 (fun _ h9 => h9) rfl dX2_init_32 ?_
  refine lv_iconst (v := (-1)) hx hb dX2_init_35 rfl ?_
  refine cq_v hP hD hS [1] [0, 2, 3] [0, 3, 1, 2] (va_free (wc := (wIA E q1 150 z32)) hD hS hA [1] rfl) (va_runS (As := [.ref q1, .int (-1)]) (rest := []) ⟨hx, hb, hml, hown, hts⟩ (c_J7_fill_53178 l E H.size q1 150 z32 (-1) x hf) (va_cwS 2 hts gX2_init_J7_fill_53178 rfl rfl rfl hdS_J7_fill_53178 ⟨Nat.le_of_ble_eq_true rfl, Nat.le_of_ble_eq_true rfl⟩) ⟨PW.blind, PW.pre hC hS (hP.sub [1] rfl) (hD.sub [1] rfl rfl) (va_free hD hS hA [1] rfl)⟩ rfl rfl hl.1 rfl (lv_room (Nat.le_of_ble_eq_true rfl)) dX2_init_36 ⟨Nat.le_of_ble_eq_true rfl, Nat.le_of_ble_eq_true rfl⟩) rfl rfl rfl rfl [(h0, .inr (2, [.ref q1, .ref q2, .ref q3])), (q1, .inl (E.2.1 0, 150, .inl x)), (q2, .inl (E.2.1 0, 150, .inl z32)), (q3, .inl (E.2.1 0, 1350, .inl z32))] rfl rfl (fun H locs hP hD hS => ?_)
  refine W.widen (k := 3) (n := 1650) (Nat.le_of_ble_eq_true rfl) (Nat.le_of_ble_eq_true rfl) ?_
  exact ei_v (a := (fun k => ([h0, q1, q2, q3] : List Nat).getD k 0)) (wf := (fun a => wCP E a (x, z32, z32))) hx hb hr hlocks rfl (hP.sub [0, 1, 2, 3] rfl) (hD.sub [0, 1, 2, 3] rfl rfl) hS dX2_init_39

/-! X3_init -/
abbrev rmX3_init : Room := { frames := 1, cells := 5, slots := 48, locals := 12 }
theorem hdS_X3_init : yX3_init.cls ≠ "java/lang/invoke/MethodHandle" ∧ yX3_init.cls ≠ "java/lang/invoke/VarHandle" ∧ (parseMethodDescriptor yX3_init.desc).map (fun d => d.parameters.length) = some 0 := by decide +kernel
set_option maxHeartbeats 4000000 in
set_option maxRecDepth 100000 in
theorem c_X3_init (l : Launch) (E : G0) (sz : Nat) (h0 : Nat) : Met l yX3_init wsX3_init rmX3_init (va_Pc [.ref h0] (PW E [(h0, .inr (3, [.null, .null, .null, .null, .null]))] sz)) (va_Qv (fun q : Nat → Nat => q 0 = h0) (fun q t => va_P E.1 vwCl ((fun a => wFL E a (z32, z32, z32, z32, z32)) q) t.heap ∧ va_D (va_A [(h0, .inr (3, [.null, .null, .null, .null, .null]))] sz) ((fun a => wFL E a (z32, z32, z32, z32, z32)) q)) (va_A [(h0, .inr (3, [.null, .null, .null, .null, .null]))] sz)) 5 48 (va_A [(h0, .inr (3, [.null, .null, .null, .null, .null]))] sz) := by
  refine Met.ofW (cc := cX3_init) (maxL := 1) (ret := none) (by decide) rfl ?_
  intro p e s m args below meth c s₁ B hml hv
  obtain ⟨ha, hsz, hP, hD0, hC⟩ := hv
  have hx := B.exec
  have hb := B.bytes
  have hr := B.returns
  have hts := atoms_spec (ws := wsX3_init) B.pre
  have hown : s.vm.findClass RX3 = some m.cls := findClass_of_methodNamed B.named
  have hlocks := B.notSynchronized
  have hin : meth.name = "<init>" := (name_of_methodNamed B.named B.method).1
  subst hsz
  have hD := hD0.self (sz := s.heap.size)
  generalize hAe : va_A [(h0, .inr (3, [.null, .null, .null, .null, .null]))] s.heap.size = A at hD hC ⊢
  have hA : ∀ q : Nat, s.heap.size ≤ q → A q := fun q h => by rw [← hAe]; exact Or.inr h
  have hS : va_S A s.heap s.heap [] := va_S.rf
  have w1 : (Cond.methodLink RX3 3 objectInit).before args s = true := hts _ (List.mem_of_getElem? (i := 1) rfl)
  have w2 : (Cond.instanceMethod objectInit).before args s = true := hts _ (List.mem_of_getElem? (i := 2) rfl)
  have w3 : (Cond.code objectInit ⟨#[0xb1]⟩ 1 none).before args s = true := hts _ (List.mem_of_getElem? (i := 3) rfl)
  have w4 : (Cond.arrayClass .int).before args s = true := hts _ (List.mem_of_getElem? (i := 4) rfl)
  have w5 : (Cond.fieldLink RX3 9 "GreatChunks$Files" "how" "[I").before args s = true := hts _ (List.mem_of_getElem? (i := 5) rfl)
  have w6 : ∀ w ∈ wsX30, w ∈ wsX3_init := in_pl 10 rfl
  have w7 : (Cond.fieldLink RX3 15 "GreatChunks$Files" "kind" "[I").before args s = true := hts _ (List.mem_of_getElem? (i := 6) rfl)
  have w8 : (Cond.fieldLink RX3 18 "GreatChunks$Files" "since" "[I").before args s = true := hts _ (List.mem_of_getElem? (i := 7) rfl)
  have w9 : (Cond.fieldLink RX3 21 "GreatChunks$Files" "many" "[I").before args s = true := hts _ (List.mem_of_getElem? (i := 8) rfl)
  have w10 : (Cond.fieldLink RX3 24 "GreatChunks$Files" "chunk" "[I").before args s = true := hts _ (List.mem_of_getElem? (i := 9) rfl)
  refine st_W ha (Nat.le_of_ble_eq_true rfl) (fun ls hl => ?_)
  have hl : lv_has ls 1 [(0, .ref h0)] := hl
  refine lv_aload_n hx hb dX3_init_0 rfl (lv_at hl 0 rfl) ?_
  refine W.objInit hx hb hown w1 w2 w3 rfl (by rw [hml]; exact hl.1) rfl dX3_init_1 (Nat.le_of_ble_eq_true rfl) (Nat.le_of_ble_eq_true rfl) ?_
  refine lv_aload_n hx hb dX3_init_4 rfl (lv_at hl 0 rfl) ?_
  refine lv_bipush (v := 6) hx hb dX3_init_5 rfl ?_
  refine va_newa (atype := .int) (n := 6) (N' := 6) (a0 := (6, .inl z32)) hx hb w4 rfl hC.1 hP hD hS hA (fun _ => rfl) (by decide) (by decide) (by decide) (Nat.le_of_ble_eq_true rfl) (Nat.le_of_ble_eq_true rfl) dX3_init_7 (fun q1 cA H hK9 hP hD hS => ?_)
  obtain rfl := ar_I hK9
  have hP : va_P E.1 vwCl [(h0, .inr (3, [.null, .null, .null, .null, .null])), (q1, .inl (E.2.1 0, 6, .inl z32))] H := hP
  have hD : va_D A [(h0, .inr (3, [.null, .null, .null, .null, .null])), (q1, .inl (E.2.1 0, 6, .inl z32))] := hD
  refine va_putF (D := E.1) (ci := 3) (v := .ref q1) (ty := .array .int) (C := RX3) (T := TX3) (N := 5) hx hb hts w6 tyX3 tyX3_ok nmX3 hown hC.1 hP hD hS 0 rfl rfl 0 (by decide) w5 (fun _ h9 => h9) rfl hin rfl (by decide +kernel) rfl rfl (Nat.le_of_ble_eq_true rfl) dX3_init_9 (fun H locs hP hD hS => ?_)
  have hP : va_P E.1 vwCl [(h0, .inr (3, [.ref q1, .null, .null, .null, .null])), (q1, .inl (E.2.1 0, 6, .inl z32))] H := hP
  have hD : va_D A [(h0, .inr (3, [.ref q1, .null, .null, .null, .null])), (q1, .inl (E.2.1 0, 6, .inl z32))] := hD
  refine lv_aload_n hx hb dX3_init_12 rfl (lv_at hl 0 rfl) ?_
  refine lv_bipush (v := 6) hx hb dX3_init_13 rfl ?_
  refine va_newa (atype := .int) (n := 6) (N' := 6) (a0 := (6, .inl z32)) hx hb w4 rfl hC.1 hP hD hS hA (fun _ => rfl) (by decide) (by decide) (by decide) (Nat.le_of_ble_eq_true rfl) (Nat.le_of_ble_eq_true rfl) dX3_init_15 (fun q2 cA H hK9 hP hD hS => ?_)
  obtain rfl := ar_I hK9
  have hP : va_P E.1 vwCl [(h0, .inr (3, [.ref q1, .null, .null, .null, .null])), (q1, .inl (E.2.1 0, 6, .inl z32)), (q2, .inl (E.2.1 0, 6, .inl z32))] H := hP
  have hD : va_D A [(h0, .inr (3, [.ref q1, .null, .null, .null, .null])), (q1, .inl (E.2.1 0, 6, .inl z32)), (q2, .inl (E.2.1 0, 6, .inl z32))] := hD
  refine va_putF (D := E.1) (ci := 3) (v := .ref q2) (ty := .array .int) (C := RX3) (T := TX3) (N := 5) hx hb hts w6 tyX3 tyX3_ok nmX3 hown hC.1 hP hD hS 0 rfl rfl 1 (by decide) w7 (fun _ h9 => h9) rfl hin rfl (by decide +kernel) rfl rfl (Nat.le_of_ble_eq_true rfl) dX3_init_17 (fun H locs hP hD hS => ?_)
  have hP : va_P E.1 vwCl [(h0, .inr (3, [.ref q1, .ref q2, .null, .null, .null])), (q1, .inl (E.2.1 0, 6, .inl z32)), (q2, .inl (E.2.1 0, 6, .inl z32))] H := hP
  have hD : va_D A [(h0, .inr (3, [.ref q1, .ref q2, .null, .null, .null])), (q1, .inl (E.2.1 0, 6, .inl z32)), (q2, .inl (E.2.1 0, 6, .inl z32))] := hD
  refine lv_aload_n hx hb dX3_init_20 rfl (lv_at hl 0 rfl) ?_
  refine lv_bipush (v := 6) hx hb dX3_init_21 rfl ?_
  refine va_newa (atype := .int) (n := 6) (N' := 6) (a0 := (6, .inl z32)) hx hb w4 rfl hC.1 hP hD hS hA (fun _ => rfl) (by decide) (by decide) (by decide) (Nat.le_of_ble_eq_true rfl) (Nat.le_of_ble_eq_true rfl) dX3_init_23 (fun q3 cA H hK9 hP hD hS => ?_)
  obtain rfl := ar_I hK9
  have hP : va_P E.1 vwCl [(h0, .inr (3, [.ref q1, .ref q2, .null, .null, .null])), (q1, .inl (E.2.1 0, 6, .inl z32)), (q2, .inl (E.2.1 0, 6, .inl z32)), (q3, .inl (E.2.1 0, 6, .inl z32))] H := hP
  have hD : va_D A [(h0, .inr (3, [.ref q1, .ref q2, .null, .null, .null])), (q1, .inl (E.2.1 0, 6, .inl z32)), (q2, .inl (E.2.1 0, 6, .inl z32)), (q3, .inl (E.2.1 0, 6, .inl z32))] := hD
  refine va_putF (D := E.1) (ci := 3) (v := .ref q3) (ty := .array .int) (C := RX3) (T := TX3) (N := 5) hx hb hts w6 tyX3 tyX3_ok nmX3 hown hC.1 hP hD hS 0 rfl rfl 2 (by decide) w8 (fun _ h9 => h9) rfl hin rfl (by decide +kernel) rfl rfl (Nat.le_of_ble_eq_true rfl) dX3_init_25 (fun H locs hP hD hS => ?_)
  have hP : va_P E.1 vwCl [(h0, .inr (3, [.ref q1, .ref q2, .ref q3, .null, .null])), (q1, .inl (E.2.1 0, 6, .inl z32)), (q2, .inl (E.2.1 0, 6, .inl z32)), (q3, .inl (E.2.1 0, 6, .inl z32))] H := hP
  have hD : va_D A [(h0, .inr (3, [.ref q1, .ref q2, .ref q3, .null, .null])), (q1, .inl (E.2.1 0, 6, .inl z32)), (q2, .inl (E.2.1 0, 6, .inl z32)), (q3, .inl (E.2.1 0, 6, .inl z32))] := hD
  refine lv_aload_n hx hb dX3_init_28 rfl (lv_at hl 0 rfl) ?_
  refine lv_bipush (v := 6) hx hb dX3_init_29 rfl ?_
  refine va_newa (atype := .int) (n := 6) (N' := 6) (a0 := (6, .inl z32)) hx hb w4 rfl hC.1 hP hD hS hA (fun _ => rfl) (by decide) (by decide) (by decide) (Nat.le_of_ble_eq_true rfl) (Nat.le_of_ble_eq_true rfl) dX3_init_31 (fun q4 cA H hK9 hP hD hS => ?_)
  obtain rfl := ar_I hK9
  have hP : va_P E.1 vwCl [(h0, .inr (3, [.ref q1, .ref q2, .ref q3, .null, .null])), (q1, .inl (E.2.1 0, 6, .inl z32)), (q2, .inl (E.2.1 0, 6, .inl z32)), (q3, .inl (E.2.1 0, 6, .inl z32)), (q4, .inl (E.2.1 0, 6, .inl z32))] H := hP
  have hD : va_D A [(h0, .inr (3, [.ref q1, .ref q2, .ref q3, .null, .null])), (q1, .inl (E.2.1 0, 6, .inl z32)), (q2, .inl (E.2.1 0, 6, .inl z32)), (q3, .inl (E.2.1 0, 6, .inl z32)), (q4, .inl (E.2.1 0, 6, .inl z32))] := hD
  refine va_putF (D := E.1) (ci := 3) (v := .ref q4) (ty := .array .int) (C := RX3) (T := TX3) (N := 5) hx hb hts w6 tyX3 tyX3_ok nmX3 hown hC.1 hP hD hS 0 rfl rfl 3 (by decide) w9 (fun _ h9 => h9) rfl hin rfl (by decide +kernel) rfl rfl (Nat.le_of_ble_eq_true rfl) dX3_init_33 (fun H locs hP hD hS => ?_)
  have hP : va_P E.1 vwCl [(h0, .inr (3, [.ref q1, .ref q2, .ref q3, .ref q4, .null])), (q1, .inl (E.2.1 0, 6, .inl z32)), (q2, .inl (E.2.1 0, 6, .inl z32)), (q3, .inl (E.2.1 0, 6, .inl z32)), (q4, .inl (E.2.1 0, 6, .inl z32))] H := hP
  have hD : va_D A [(h0, .inr (3, [.ref q1, .ref q2, .ref q3, .ref q4, .null])), (q1, .inl (E.2.1 0, 6, .inl z32)), (q2, .inl (E.2.1 0, 6, .inl z32)), (q3, .inl (E.2.1 0, 6, .inl z32)), (q4, .inl (E.2.1 0, 6, .inl z32))] := hD
  refine lv_aload_n hx hb dX3_init_36 rfl (lv_at hl 0 rfl) ?_
  refine lv_bipush (v := 24) hx hb dX3_init_37 rfl ?_
  refine va_newa (atype := .int) (n := 24) (N' := 24) (a0 := (24, .inl z32)) hx hb w4 rfl hC.1 hP hD hS hA (fun _ => rfl) (by decide) (by decide) (by decide) (Nat.le_of_ble_eq_true rfl) (Nat.le_of_ble_eq_true rfl) dX3_init_39 (fun q5 cA H hK9 hP hD hS => ?_)
  obtain rfl := ar_I hK9
  have hP : va_P E.1 vwCl [(h0, .inr (3, [.ref q1, .ref q2, .ref q3, .ref q4, .null])), (q1, .inl (E.2.1 0, 6, .inl z32)), (q2, .inl (E.2.1 0, 6, .inl z32)), (q3, .inl (E.2.1 0, 6, .inl z32)), (q4, .inl (E.2.1 0, 6, .inl z32)), (q5, .inl (E.2.1 0, 24, .inl z32))] H := hP
  have hD : va_D A [(h0, .inr (3, [.ref q1, .ref q2, .ref q3, .ref q4, .null])), (q1, .inl (E.2.1 0, 6, .inl z32)), (q2, .inl (E.2.1 0, 6, .inl z32)), (q3, .inl (E.2.1 0, 6, .inl z32)), (q4, .inl (E.2.1 0, 6, .inl z32)), (q5, .inl (E.2.1 0, 24, .inl z32))] := hD
  refine va_putF (D := E.1) (ci := 3) (v := .ref q5) (ty := .array .int) (C := RX3) (T := TX3) (N := 5) hx hb hts w6 tyX3 tyX3_ok nmX3 hown hC.1 hP hD hS 0 rfl rfl 4 (by decide) w10 (fun _ h9 => h9) rfl hin rfl (by decide +kernel) rfl rfl (Nat.le_of_ble_eq_true rfl) dX3_init_41 (fun H locs hP hD hS => ?_)
  have hP : va_P E.1 vwCl [(h0, .inr (3, [.ref q1, .ref q2, .ref q3, .ref q4, .ref q5])), (q1, .inl (E.2.1 0, 6, .inl z32)), (q2, .inl (E.2.1 0, 6, .inl z32)), (q3, .inl (E.2.1 0, 6, .inl z32)), (q4, .inl (E.2.1 0, 6, .inl z32)), (q5, .inl (E.2.1 0, 24, .inl z32))] H := hP
  have hD : va_D A [(h0, .inr (3, [.ref q1, .ref q2, .ref q3, .ref q4, .ref q5])), (q1, .inl (E.2.1 0, 6, .inl z32)), (q2, .inl (E.2.1 0, 6, .inl z32)), (q3, .inl (E.2.1 0, 6, .inl z32)), (q4, .inl (E.2.1 0, 6, .inl z32)), (q5, .inl (E.2.1 0, 24, .inl z32))] := hD
  refine W.widen (k := 5) (n := 48) (Nat.le_of_ble_eq_true rfl) (Nat.le_of_ble_eq_true rfl) ?_
  exact ei_v (a := (fun k => ([h0, q1, q2, q3, q4, q5] : List Nat).getD k 0)) (wf := (fun a => wFL E a (z32, z32, z32, z32, z32))) hx hb hr hlocks rfl (hP.sub [0, 1, 2, 3, 4, 5] rfl) (hD.sub [0, 1, 2, 3, 4, 5] rfl rfl) hS dX3_init_44

/-! X5_init -/
abbrev rmX5_init : Room := { frames := 2, cells := 18, slots := 1845, locals := 43 }
theorem hdS_X5_init : yX5_init.cls ≠ "java/lang/invoke/MethodHandle" ∧ yX5_init.cls ≠ "java/lang/invoke/VarHandle" ∧ (parseMethodDescriptor yX5_init.desc).map (fun d => d.parameters.length) = some 0 := by decide +kernel
set_option maxHeartbeats 4000000 in
set_option maxRecDepth 100000 in
theorem c_X5_init (l : Launch) (E : G0) (sz : Nat) (h0 : Nat) (x : Nat → Int32) (hf : f_J7_fill_53178 150 z32 (-1) = some x) : Met l yX5_init wsX5_init rmX5_init (va_Pc [.ref h0] (PW E [(h0, .inr (4, [.int 0, .int 0, .int 0, .int 0, .int 0, .null, .null, .null, .null]))] sz)) (va_Qv (fun q : Nat → Nat => q 0 = h0) (fun q t => va_P E.1 vwCl ((fun a => wHS E a (HS0 x)) q) t.heap ∧ va_D (va_A [(h0, .inr (4, [.int 0, .int 0, .int 0, .int 0, .int 0, .null, .null, .null, .null]))] sz) ((fun a => wHS E a (HS0 x)) q)) (va_A [(h0, .inr (4, [.int 0, .int 0, .int 0, .int 0, .int 0, .null, .null, .null, .null]))] sz)) 18 1845 (va_A [(h0, .inr (4, [.int 0, .int 0, .int 0, .int 0, .int 0, .null, .null, .null, .null]))] sz) := by
  refine Met.ofW (cc := cX5_init) (maxL := 1) (ret := none) (by decide) rfl ?_
  intro p e s m args below meth c s₁ B hml hv
  obtain ⟨ha, hsz, hP, hD0, hC⟩ := hv
  have hx := B.exec
  have hb := B.bytes
  have hr := B.returns
  have hts := atoms_spec (ws := wsX5_init) B.pre
  have hown : s.vm.findClass RX5 = some m.cls := findClass_of_methodNamed B.named
  have hlocks := B.notSynchronized
  have hin : meth.name = "<init>" := (name_of_methodNamed B.named B.method).1
  subst hsz
  have hD := hD0.self (sz := s.heap.size)
  generalize hAe : va_A [(h0, .inr (4, [.int 0, .int 0, .int 0, .int 0, .int 0, .null, .null, .null, .null]))] s.heap.size = A at hD hC ⊢
  have hA : ∀ q : Nat, s.heap.size ≤ q → A q := fun q h => by rw [← hAe]; exact Or.inr h
  have hS : va_S A s.heap s.heap [] := va_S.rf
  have w1 : (Cond.methodLink RX5 3 objectInit).before args s = true := hts _ (List.mem_of_getElem? (i := 1) rfl)
  have w2 : (Cond.instanceMethod objectInit).before args s = true := hts _ (List.mem_of_getElem? (i := 2) rfl)
  have w3 : (Cond.code objectInit ⟨#[0xb1]⟩ 1 none).before args s = true := hts _ (List.mem_of_getElem? (i := 3) rfl)
  have w4 : (Cond.fieldLink RX5 9 "GreatChunks$House" "wanted" "I").before args s = true := hts _ (List.mem_of_getElem? (i := 4) rfl)
  have w5 : ∀ w ∈ wsX50, w ∈ wsX5_init := in_pl 60 rfl
  have w6 : (Cond.fieldLink RX5 15 "GreatChunks$House" "size" "I").before args s = true := hts _ (List.mem_of_getElem? (i := 5) rfl)
  have w7 : (Cond.fieldLink RX5 18 "GreatChunks$House" "lease" "I").before args s = true := hts _ (List.mem_of_getElem? (i := 6) rfl)
  have w8 : (Cond.fieldLink RX5 21 "GreatChunks$House" "grace" "I").before args s = true := hts _ (List.mem_of_getElem? (i := 7) rfl)
  have w9 : (Cond.fieldLink RX5 24 "GreatChunks$House" "now" "I").before args s = true := hts _ (List.mem_of_getElem? (i := 8) rfl)
  have w10 : (Cond.classLink RX5 27 RX8).before args s = true := hts _ (List.mem_of_getElem? (i := 9) rfl)
  have w11 : (Cond.instantiable RX8 4).before args s = true := hts _ (List.mem_of_getElem? (i := 10) rfl)
  have w12 : (Cond.initialized RX8).before args s = true := hts _ (List.mem_of_getElem? (i := 11) rfl)
  have w13 : ∀ w ∈ wsX80, w ∈ wsX5_init := in_pl 69 rfl
  have w14 : (Cond.instanceMethod yX8_init).before args s = true := hts _ (List.mem_of_getElem? (i := 25) rfl)
  have w15 : (Cond.fieldLink RX5 30 "GreatChunks$House" "servers" "LGreatChunks$Servers;").before args s = true := hts _ (List.mem_of_getElem? (i := 12) rfl)
  have w16 : (Cond.classLink RX5 34 RX1).before args s = true := hts _ (List.mem_of_getElem? (i := 13) rfl)
  have w17 : (Cond.instantiable RX1 5).before args s = true := hts _ (List.mem_of_getElem? (i := 14) rfl)
  have w18 : (Cond.initialized RX1).before args s = true := hts _ (List.mem_of_getElem? (i := 15) rfl)
  have w19 : ∀ w ∈ wsX10, w ∈ wsX5_init := in_pl 73 rfl
  have w20 : (Cond.instanceMethod yX1_init).before args s = true := hts _ (List.mem_of_getElem? (i := 33) rfl)
  have w21 : (Cond.fieldLink RX5 37 "GreatChunks$House" "chunks" "LGreatChunks$Chunks;").before args s = true := hts _ (List.mem_of_getElem? (i := 16) rfl)
  have w22 : (Cond.classLink RX5 41 RX2).before args s = true := hts _ (List.mem_of_getElem? (i := 17) rfl)
  have w23 : (Cond.instantiable RX2 3).before args s = true := hts _ (List.mem_of_getElem? (i := 18) rfl)
  have w24 : (Cond.initialized RX2).before args s = true := hts _ (List.mem_of_getElem? (i := 19) rfl)
  have w25 : ∀ w ∈ wsX20, w ∈ wsX5_init := in_pl 78 rfl
  have w26 : (Cond.instanceMethod yX2_init).before args s = true := hts _ (List.mem_of_getElem? (i := 42) rfl)
  have w27 : (Cond.methodLink RX5 43 yX2_init).before args s = true := hts _ (List.mem_of_getElem? (i := 41) rfl)
  have w28 : (Cond.fieldLink RX5 44 "GreatChunks$House" "copies" "LGreatChunks$Copies;").before args s = true := hts _ (List.mem_of_getElem? (i := 20) rfl)
  have w29 : (Cond.classLink RX5 48 RX3).before args s = true := hts _ (List.mem_of_getElem? (i := 21) rfl)
  have w30 : (Cond.instantiable RX3 5).before args s = true := hts _ (List.mem_of_getElem? (i := 22) rfl)
  have w31 : (Cond.initialized RX3).before args s = true := hts _ (List.mem_of_getElem? (i := 23) rfl)
  have w32 : ∀ w ∈ wsX30, w ∈ wsX5_init := in_pl 81 rfl
  have w33 : (Cond.instanceMethod yX3_init).before args s = true := hts _ (List.mem_of_getElem? (i := 52) rfl)
  have w34 : (Cond.fieldLink RX5 51 "GreatChunks$House" "files" "LGreatChunks$Files;").before args s = true := hts _ (List.mem_of_getElem? (i := 24) rfl)
  refine st_W ha (Nat.le_of_ble_eq_true rfl) (fun ls hl => ?_)
  have hl : lv_has ls 1 [(0, .ref h0)] := hl
  refine lv_aload_n hx hb dX5_init_0 rfl (lv_at hl 0 rfl) ?_
  refine W.objInit hx hb hown w1 w2 w3 rfl (by rw [hml]; exact hl.1) rfl dX5_init_1 (Nat.le_of_ble_eq_true rfl) (Nat.le_of_ble_eq_true rfl) ?_
  refine lv_aload_n hx hb dX5_init_4 rfl (lv_at hl 0 rfl) ?_
  refine lv_iconst (v := 0) hx hb dX5_init_5 rfl ?_
  refine va_put (D := E.1) (ci := 4) (v := .int 0) (ty := .int) (C := RX5) (T := TX5) (N := 9) hx hb hts w5 tyX5 tyX5_ok nmX5 hown hC.1 hP hD hS 0 rfl rfl 0 (by decide) w4 (fun _ h9 => h9) rfl (by decide +kernel) rfl rfl (Nat.le_of_ble_eq_true rfl) dX5_init_6 (fun H locs hP hD hS => ?_)
  have hP : va_P E.1 vwCl [(h0, .inr (4, [.int 0, .int 0, .int 0, .int 0, .int 0, .null, .null, .null, .null]))] H := hP
  have hD : va_D A [(h0, .inr (4, [.int 0, .int 0, .int 0, .int 0, .int 0, .null, .null, .null, .null]))] := hD
  refine lv_aload_n hx hb dX5_init_9 rfl (lv_at hl 0 rfl) ?_
  refine lv_iconst (v := 0) hx hb dX5_init_10 rfl ?_
  refine va_put (D := E.1) (ci := 4) (v := .int 0) (ty := .int) (C := RX5) (T := TX5) (N := 9) hx hb hts w5 tyX5 tyX5_ok nmX5 hown hC.1 hP hD hS 0 rfl rfl 1 (by decide) w6 (fun _ h9 => h9) rfl (by decide +kernel) rfl rfl (Nat.le_of_ble_eq_true rfl) dX5_init_11 (fun H locs hP hD hS => ?_)
  have hP : va_P E.1 vwCl [(h0, .inr (4, [.int 0, .int 0, .int 0, .int 0, .int 0, .null, .null, .null, .null]))] H := hP
  have hD : va_D A [(h0, .inr (4, [.int 0, .int 0, .int 0, .int 0, .int 0, .null, .null, .null, .null]))] := hD
  refine lv_aload_n hx hb dX5_init_14 rfl (lv_at hl 0 rfl) ?_
  refine lv_iconst (v := 0) hx hb dX5_init_15 rfl ?_
  refine va_put (D := E.1) (ci := 4) (v := .int 0) (ty := .int) (C := RX5) (T := TX5) (N := 9) hx hb hts w5 tyX5 tyX5_ok nmX5 hown hC.1 hP hD hS 0 rfl rfl 2 (by decide) w7 (fun _ h9 => h9) rfl (by decide +kernel) rfl rfl (Nat.le_of_ble_eq_true rfl) dX5_init_16 (fun H locs hP hD hS => ?_)
  have hP : va_P E.1 vwCl [(h0, .inr (4, [.int 0, .int 0, .int 0, .int 0, .int 0, .null, .null, .null, .null]))] H := hP
  have hD : va_D A [(h0, .inr (4, [.int 0, .int 0, .int 0, .int 0, .int 0, .null, .null, .null, .null]))] := hD
  refine lv_aload_n hx hb dX5_init_19 rfl (lv_at hl 0 rfl) ?_
  refine lv_iconst (v := 0) hx hb dX5_init_20 rfl ?_
  refine va_put (D := E.1) (ci := 4) (v := .int 0) (ty := .int) (C := RX5) (T := TX5) (N := 9) hx hb hts w5 tyX5 tyX5_ok nmX5 hown hC.1 hP hD hS 0 rfl rfl 3 (by decide) w8 (fun _ h9 => h9) rfl (by decide +kernel) rfl rfl (Nat.le_of_ble_eq_true rfl) dX5_init_21 (fun H locs hP hD hS => ?_)
  have hP : va_P E.1 vwCl [(h0, .inr (4, [.int 0, .int 0, .int 0, .int 0, .int 0, .null, .null, .null, .null]))] H := hP
  have hD : va_D A [(h0, .inr (4, [.int 0, .int 0, .int 0, .int 0, .int 0, .null, .null, .null, .null]))] := hD
  refine lv_aload_n hx hb dX5_init_24 rfl (lv_at hl 0 rfl) ?_
  refine lv_iconst (v := 0) hx hb dX5_init_25 rfl ?_
  refine va_put (D := E.1) (ci := 4) (v := .int 0) (ty := .int) (C := RX5) (T := TX5) (N := 9) hx hb hts w5 tyX5 tyX5_ok nmX5 hown hC.1 hP hD hS 0 rfl rfl 4 (by decide) w9 (fun _ h9 => h9) rfl (by decide +kernel) rfl rfl (Nat.le_of_ble_eq_true rfl) dX5_init_26 (fun H locs hP hD hS => ?_)
  have hP : va_P E.1 vwCl [(h0, .inr (4, [.int 0, .int 0, .int 0, .int 0, .int 0, .null, .null, .null, .null]))] H := hP
  have hD : va_D A [(h0, .inr (4, [.int 0, .int 0, .int 0, .int 0, .int 0, .null, .null, .null, .null]))] := hD
  refine lv_aload_n hx hb dX5_init_29 rfl (lv_at hl 0 rfl) ?_
  refine va_new (ci := 6) (C := RX8) (T := TX8) (N := 4) (fs := [.int 0, .int 0, .null, .null]) hx hb hts w13 tyX8 tyX8_ok hown w10 w11 w12 hC.1 hP hD hS hA rfl (by decide) (Nat.le_of_ble_eq_true rfl) (Nat.le_of_ble_eq_true rfl) dX5_init_30 (fun q1 H hP hD hS => ?_)
  have hP : va_P E.1 vwCl [(h0, .inr (4, [.int 0, .int 0, .int 0, .int 0, .int 0, .null, .null, .null, .null])), (q1, .inr (6, [.int 0, .int 0, .null, .null]))] H := hP
  have hD : va_D A [(h0, .inr (4, [.int 0, .int 0, .int 0, .int 0, .int 0, .null, .null, .null, .null])), (q1, .inr (6, [.int 0, .int 0, .null, .null]))] := hD
  refine lv_dup hx hb dX5_init_33 rfl ?_
  refine ci_v (wf := (fun a => wSV E a (0, 0, z32, z32))) hP hD hS [1] [0] (va_free (wc := [(q1, .inr (6, [.int 0, .int 0, .null, .null]))]) hD hS hA [1] rfl) (va_runIN (As := []) (rest := [.ref q1, .ref h0]) ⟨hx, hb, hml, hown, hts⟩ (c_X8_init l E H.size q1) ⟨va_cnB 0 hts gX5_init_X8_init_n29 rfl rfl rfl (hC.2.1 (RX5, 29, yX8_init, RX10) (List.mem_of_getElem? (i := 4) rfl)) w12 hdS_X8_init ⟨Nat.le_of_ble_eq_true rfl, Nat.le_of_ble_eq_true rfl⟩, rfl, w14⟩ ⟨PW.blind, PW.pre hC hS (hP.sub [1] rfl) (hD.sub [1] rfl rfl) (va_free hD hS hA [1] rfl)⟩ rfl rfl hl.1 rfl (lv_room (Nat.le_of_ble_eq_true rfl)) dX5_init_34 ⟨Nat.le_of_ble_eq_true rfl, Nat.le_of_ble_eq_true rfl⟩) rfl rfl rfl rfl (fun a2 H locs ea2 hP hD hS => ?_)
  subst ea2
  have hP : va_P E.1 vwCl [(h0, .inr (4, [.int 0, .int 0, .int 0, .int 0, .int 0, .null, .null, .null, .null])), ((a2 0), .inr (6, [.int 0, .int 0, .ref (a2 1), .ref (a2 2)])), ((a2 1), .inl (E.2.1 0, 5, .inl z32)), ((a2 2), .inl (E.2.1 0, 5, .inl z32))] H := hP
  have hD : va_D A [(h0, .inr (4, [.int 0, .int 0, .int 0, .int 0, .int 0, .null, .null, .null, .null])), ((a2 0), .inr (6, [.int 0, .int 0, .ref (a2 1), .ref (a2 2)])), ((a2 1), .inl (E.2.1 0, 5, .inl z32)), ((a2 2), .inl (E.2.1 0, 5, .inl z32))] := hD
  refine va_putF (D := E.1) (ci := 4) (v := .ref (a2 0)) (ty := .object "GreatChunks$Servers") (C := RX5) (T := TX5) (N := 9) hx hb hts w5 tyX5 tyX5_ok nmX5 hown hC.1 hP hD hS 0 rfl rfl 5 (by decide) w15 (fun _ h9 => h9) rfl hin rfl (by decide +kernel) rfl rfl (Nat.le_of_ble_eq_true rfl) dX5_init_37 (fun H locs hP hD hS => ?_)
  have hP : va_P E.1 vwCl [(h0, .inr (4, [.int 0, .int 0, .int 0, .int 0, .int 0, .ref (a2 0), .null, .null, .null])), ((a2 0), .inr (6, [.int 0, .int 0, .ref (a2 1), .ref (a2 2)])), ((a2 1), .inl (E.2.1 0, 5, .inl z32)), ((a2 2), .inl (E.2.1 0, 5, .inl z32))] H := hP
  have hD : va_D A [(h0, .inr (4, [.int 0, .int 0, .int 0, .int 0, .int 0, .ref (a2 0), .null, .null, .null])), ((a2 0), .inr (6, [.int 0, .int 0, .ref (a2 1), .ref (a2 2)])), ((a2 1), .inl (E.2.1 0, 5, .inl z32)), ((a2 2), .inl (E.2.1 0, 5, .inl z32))] := hD
  refine lv_aload_n hx hb dX5_init_40 rfl (lv_at hl 0 rfl) ?_
  refine va_new (ci := 1) (C := RX1) (T := TX1) (N := 5) (fs := [.int 0, .null, .null, .null, .null]) hx hb hts w19 tyX1 tyX1_ok hown w16 w17 w18 hC.1 hP hD hS hA rfl (by decide) (Nat.le_of_ble_eq_true rfl) (Nat.le_of_ble_eq_true rfl) dX5_init_41 (fun q3 H hP hD hS => ?_)
  have hP : va_P E.1 vwCl [(h0, .inr (4, [.int 0, .int 0, .int 0, .int 0, .int 0, .ref (a2 0), .null, .null, .null])), ((a2 0), .inr (6, [.int 0, .int 0, .ref (a2 1), .ref (a2 2)])), ((a2 1), .inl (E.2.1 0, 5, .inl z32)), ((a2 2), .inl (E.2.1 0, 5, .inl z32)), (q3, .inr (1, [.int 0, .null, .null, .null, .null]))] H := hP
  have hD : va_D A [(h0, .inr (4, [.int 0, .int 0, .int 0, .int 0, .int 0, .ref (a2 0), .null, .null, .null])), ((a2 0), .inr (6, [.int 0, .int 0, .ref (a2 1), .ref (a2 2)])), ((a2 1), .inl (E.2.1 0, 5, .inl z32)), ((a2 2), .inl (E.2.1 0, 5, .inl z32)), (q3, .inr (1, [.int 0, .null, .null, .null, .null]))] := hD
  refine lv_dup hx hb dX5_init_44 rfl ?_
  refine ci_v (wf := (fun a => wCK E a (0, z32, z32, z32, z32))) hP hD hS [4] [0, 1, 2, 3] (va_free (wc := [(q3, .inr (1, [.int 0, .null, .null, .null, .null]))]) hD hS hA [4] rfl) (va_runIN (As := []) (rest := [.ref q3, .ref h0]) ⟨hx, hb, hml, hown, hts⟩ (c_X1_init l E H.size q3) ⟨va_cnB 0 hts gX5_init_X1_init_n36 rfl rfl rfl (hC.2.1 (RX5, 36, yX1_init, RX10) (List.mem_of_getElem? (i := 5) rfl)) w18 hdS_X1_init ⟨Nat.le_of_ble_eq_true rfl, Nat.le_of_ble_eq_true rfl⟩, rfl, w20⟩ ⟨PW.blind, PW.pre hC hS (hP.sub [4] rfl) (hD.sub [4] rfl rfl) (va_free hD hS hA [4] rfl)⟩ rfl rfl hl.1 rfl (lv_room (Nat.le_of_ble_eq_true rfl)) dX5_init_45 ⟨Nat.le_of_ble_eq_true rfl, Nat.le_of_ble_eq_true rfl⟩) rfl rfl rfl rfl (fun a4 H locs ea4 hP hD hS => ?_)
  subst ea4
  have hP : va_P E.1 vwCl [(h0, .inr (4, [.int 0, .int 0, .int 0, .int 0, .int 0, .ref (a2 0), .null, .null, .null])), ((a2 0), .inr (6, [.int 0, .int 0, .ref (a2 1), .ref (a2 2)])), ((a2 1), .inl (E.2.1 0, 5, .inl z32)), ((a2 2), .inl (E.2.1 0, 5, .inl z32)), ((a4 0), .inr (1, [.int 0, .ref (a4 1), .ref (a4 2), .ref (a4 3), .ref (a4 4)])), ((a4 1), .inl (E.2.1 0, 30, .inl z32)), ((a4 2), .inl (E.2.1 0, 30, .inl z32)), ((a4 3), .inl (E.2.1 0, 30, .inl z32)), ((a4 4), .inl (E.2.1 0, 30, .inl z32))] H := hP
  have hD : va_D A [(h0, .inr (4, [.int 0, .int 0, .int 0, .int 0, .int 0, .ref (a2 0), .null, .null, .null])), ((a2 0), .inr (6, [.int 0, .int 0, .ref (a2 1), .ref (a2 2)])), ((a2 1), .inl (E.2.1 0, 5, .inl z32)), ((a2 2), .inl (E.2.1 0, 5, .inl z32)), ((a4 0), .inr (1, [.int 0, .ref (a4 1), .ref (a4 2), .ref (a4 3), .ref (a4 4)])), ((a4 1), .inl (E.2.1 0, 30, .inl z32)), ((a4 2), .inl (E.2.1 0, 30, .inl z32)), ((a4 3), .inl (E.2.1 0, 30, .inl z32)), ((a4 4), .inl (E.2.1 0, 30, .inl z32))] := hD
  refine va_putF (D := E.1) (ci := 4) (v := .ref (a4 0)) (ty := .object "GreatChunks$Chunks") (C := RX5) (T := TX5) (N := 9) hx hb hts w5 tyX5 tyX5_ok nmX5 hown hC.1 hP hD hS 0 rfl rfl 6 (by decide) w21 (fun _ h9 => h9) rfl hin rfl (by decide +kernel) rfl rfl (Nat.le_of_ble_eq_true rfl) dX5_init_48 (fun H locs hP hD hS => ?_)
  have hP : va_P E.1 vwCl [(h0, .inr (4, [.int 0, .int 0, .int 0, .int 0, .int 0, .ref (a2 0), .ref (a4 0), .null, .null])), ((a2 0), .inr (6, [.int 0, .int 0, .ref (a2 1), .ref (a2 2)])), ((a2 1), .inl (E.2.1 0, 5, .inl z32)), ((a2 2), .inl (E.2.1 0, 5, .inl z32)), ((a4 0), .inr (1, [.int 0, .ref (a4 1), .ref (a4 2), .ref (a4 3), .ref (a4 4)])), ((a4 1), .inl (E.2.1 0, 30, .inl z32)), ((a4 2), .inl (E.2.1 0, 30, .inl z32)), ((a4 3), .inl (E.2.1 0, 30, .inl z32)), ((a4 4), .inl (E.2.1 0, 30, .inl z32))] H := hP
  have hD : va_D A [(h0, .inr (4, [.int 0, .int 0, .int 0, .int 0, .int 0, .ref (a2 0), .ref (a4 0), .null, .null])), ((a2 0), .inr (6, [.int 0, .int 0, .ref (a2 1), .ref (a2 2)])), ((a2 1), .inl (E.2.1 0, 5, .inl z32)), ((a2 2), .inl (E.2.1 0, 5, .inl z32)), ((a4 0), .inr (1, [.int 0, .ref (a4 1), .ref (a4 2), .ref (a4 3), .ref (a4 4)])), ((a4 1), .inl (E.2.1 0, 30, .inl z32)), ((a4 2), .inl (E.2.1 0, 30, .inl z32)), ((a4 3), .inl (E.2.1 0, 30, .inl z32)), ((a4 4), .inl (E.2.1 0, 30, .inl z32))] := hD
  refine lv_aload_n hx hb dX5_init_51 rfl (lv_at hl 0 rfl) ?_
  refine va_new (ci := 2) (C := RX2) (T := TX2) (N := 3) (fs := [.null, .null, .null]) hx hb hts w25 tyX2 tyX2_ok hown w22 w23 w24 hC.1 hP hD hS hA rfl (by decide) (Nat.le_of_ble_eq_true rfl) (Nat.le_of_ble_eq_true rfl) dX5_init_52 (fun q5 H hP hD hS => ?_)
  have hP : va_P E.1 vwCl [(h0, .inr (4, [.int 0, .int 0, .int 0, .int 0, .int 0, .ref (a2 0), .ref (a4 0), .null, .null])), ((a2 0), .inr (6, [.int 0, .int 0, .ref (a2 1), .ref (a2 2)])), ((a2 1), .inl (E.2.1 0, 5, .inl z32)), ((a2 2), .inl (E.2.1 0, 5, .inl z32)), ((a4 0), .inr (1, [.int 0, .ref (a4 1), .ref (a4 2), .ref (a4 3), .ref (a4 4)])), ((a4 1), .inl (E.2.1 0, 30, .inl z32)), ((a4 2), .inl (E.2.1 0, 30, .inl z32)), ((a4 3), .inl (E.2.1 0, 30, .inl z32)), ((a4 4), .inl (E.2.1 0, 30, .inl z32)), (q5, .inr (2, [.null, .null, .null]))] H := hP
  have hD : va_D A [(h0, .inr (4, [.int 0, .int 0, .int 0, .int 0, .int 0, .ref (a2 0), .ref (a4 0), .null, .null])), ((a2 0), .inr (6, [.int 0, .int 0, .ref (a2 1), .ref (a2 2)])), ((a2 1), .inl (E.2.1 0, 5, .inl z32)), ((a2 2), .inl (E.2.1 0, 5, .inl z32)), ((a4 0), .inr (1, [.int 0, .ref (a4 1), .ref (a4 2), .ref (a4 3), .ref (a4 4)])), ((a4 1), .inl (E.2.1 0, 30, .inl z32)), ((a4 2), .inl (E.2.1 0, 30, .inl z32)), ((a4 3), .inl (E.2.1 0, 30, .inl z32)), ((a4 4), .inl (E.2.1 0, 30, .inl z32)), (q5, .inr (2, [.null, .null, .null]))] := hD
  refine lv_dup hx hb dX5_init_55 rfl ?_
  refine ci_v (wf := (fun a => wCP E a (x, z32, z32))) hP hD hS [9] [0, 1, 2, 3, 4, 5, 6, 7, 8] (va_free (wc := [(q5, .inr (2, [.null, .null, .null]))]) hD hS hA [9] rfl) (va_runI (As := []) (rest := [.ref q5, .ref h0]) ⟨hx, hb, hml, hown, hts⟩ (c_X2_init l E H.size q5 x hf) (cwI 0 hts gX5_init_X2_init rfl rfl rfl w24 w27 w26 rfl hdS_X2_init ⟨Nat.le_of_ble_eq_true rfl, Nat.le_of_ble_eq_true rfl⟩) ⟨PW.blind, PW.pre hC hS (hP.sub [9] rfl) (hD.sub [9] rfl rfl) (va_free hD hS hA [9] rfl)⟩ rfl rfl hl.1 rfl (lv_room (Nat.le_of_ble_eq_true rfl)) dX5_init_56 ⟨Nat.le_of_ble_eq_true rfl, Nat.le_of_ble_eq_true rfl⟩) rfl rfl rfl rfl (fun a6 H locs ea6 hP hD hS => ?_)
  subst ea6
  have hP : va_P E.1 vwCl [(h0, .inr (4, [.int 0, .int 0, .int 0, .int 0, .int 0, .ref (a2 0), .ref (a4 0), .null, .null])), ((a2 0), .inr (6, [.int 0, .int 0, .ref (a2 1), .ref (a2 2)])), ((a2 1), .inl (E.2.1 0, 5, .inl z32)), ((a2 2), .inl (E.2.1 0, 5, .inl z32)), ((a4 0), .inr (1, [.int 0, .ref (a4 1), .ref (a4 2), .ref (a4 3), .ref (a4 4)])), ((a4 1), .inl (E.2.1 0, 30, .inl z32)), ((a4 2), .inl (E.2.1 0, 30, .inl z32)), ((a4 3), .inl (E.2.1 0, 30, .inl z32)), ((a4 4), .inl (E.2.1 0, 30, .inl z32)), ((a6 0), .inr (2, [.ref (a6 1), .ref (a6 2), .ref (a6 3)])), ((a6 1), .inl (E.2.1 0, 150, .inl x)), ((a6 2), .inl (E.2.1 0, 150, .inl z32)), ((a6 3), .inl (E.2.1 0, 1350, .inl z32))] H := hP
  have hD : va_D A [(h0, .inr (4, [.int 0, .int 0, .int 0, .int 0, .int 0, .ref (a2 0), .ref (a4 0), .null, .null])), ((a2 0), .inr (6, [.int 0, .int 0, .ref (a2 1), .ref (a2 2)])), ((a2 1), .inl (E.2.1 0, 5, .inl z32)), ((a2 2), .inl (E.2.1 0, 5, .inl z32)), ((a4 0), .inr (1, [.int 0, .ref (a4 1), .ref (a4 2), .ref (a4 3), .ref (a4 4)])), ((a4 1), .inl (E.2.1 0, 30, .inl z32)), ((a4 2), .inl (E.2.1 0, 30, .inl z32)), ((a4 3), .inl (E.2.1 0, 30, .inl z32)), ((a4 4), .inl (E.2.1 0, 30, .inl z32)), ((a6 0), .inr (2, [.ref (a6 1), .ref (a6 2), .ref (a6 3)])), ((a6 1), .inl (E.2.1 0, 150, .inl x)), ((a6 2), .inl (E.2.1 0, 150, .inl z32)), ((a6 3), .inl (E.2.1 0, 1350, .inl z32))] := hD
  refine va_putF (D := E.1) (ci := 4) (v := .ref (a6 0)) (ty := .object "GreatChunks$Copies") (C := RX5) (T := TX5) (N := 9) hx hb hts w5 tyX5 tyX5_ok nmX5 hown hC.1 hP hD hS 0 rfl rfl 7 (by decide) w28 (fun _ h9 => h9) rfl hin rfl (by decide +kernel) rfl rfl (Nat.le_of_ble_eq_true rfl) dX5_init_59 (fun H locs hP hD hS => ?_)
  have hP : va_P E.1 vwCl [(h0, .inr (4, [.int 0, .int 0, .int 0, .int 0, .int 0, .ref (a2 0), .ref (a4 0), .ref (a6 0), .null])), ((a2 0), .inr (6, [.int 0, .int 0, .ref (a2 1), .ref (a2 2)])), ((a2 1), .inl (E.2.1 0, 5, .inl z32)), ((a2 2), .inl (E.2.1 0, 5, .inl z32)), ((a4 0), .inr (1, [.int 0, .ref (a4 1), .ref (a4 2), .ref (a4 3), .ref (a4 4)])), ((a4 1), .inl (E.2.1 0, 30, .inl z32)), ((a4 2), .inl (E.2.1 0, 30, .inl z32)), ((a4 3), .inl (E.2.1 0, 30, .inl z32)), ((a4 4), .inl (E.2.1 0, 30, .inl z32)), ((a6 0), .inr (2, [.ref (a6 1), .ref (a6 2), .ref (a6 3)])), ((a6 1), .inl (E.2.1 0, 150, .inl x)), ((a6 2), .inl (E.2.1 0, 150, .inl z32)), ((a6 3), .inl (E.2.1 0, 1350, .inl z32))] H := hP
  have hD : va_D A [(h0, .inr (4, [.int 0, .int 0, .int 0, .int 0, .int 0, .ref (a2 0), .ref (a4 0), .ref (a6 0), .null])), ((a2 0), .inr (6, [.int 0, .int 0, .ref (a2 1), .ref (a2 2)])), ((a2 1), .inl (E.2.1 0, 5, .inl z32)), ((a2 2), .inl (E.2.1 0, 5, .inl z32)), ((a4 0), .inr (1, [.int 0, .ref (a4 1), .ref (a4 2), .ref (a4 3), .ref (a4 4)])), ((a4 1), .inl (E.2.1 0, 30, .inl z32)), ((a4 2), .inl (E.2.1 0, 30, .inl z32)), ((a4 3), .inl (E.2.1 0, 30, .inl z32)), ((a4 4), .inl (E.2.1 0, 30, .inl z32)), ((a6 0), .inr (2, [.ref (a6 1), .ref (a6 2), .ref (a6 3)])), ((a6 1), .inl (E.2.1 0, 150, .inl x)), ((a6 2), .inl (E.2.1 0, 150, .inl z32)), ((a6 3), .inl (E.2.1 0, 1350, .inl z32))] := hD
  refine lv_aload_n hx hb dX5_init_62 rfl (lv_at hl 0 rfl) ?_
  refine va_new (ci := 3) (C := RX3) (T := TX3) (N := 5) (fs := [.null, .null, .null, .null, .null]) hx hb hts w32 tyX3 tyX3_ok hown w29 w30 w31 hC.1 hP hD hS hA rfl (by decide) (Nat.le_of_ble_eq_true rfl) (Nat.le_of_ble_eq_true rfl) dX5_init_63 (fun q7 H hP hD hS => ?_)
  have hP : va_P E.1 vwCl [(h0, .inr (4, [.int 0, .int 0, .int 0, .int 0, .int 0, .ref (a2 0), .ref (a4 0), .ref (a6 0), .null])), ((a2 0), .inr (6, [.int 0, .int 0, .ref (a2 1), .ref (a2 2)])), ((a2 1), .inl (E.2.1 0, 5, .inl z32)), ((a2 2), .inl (E.2.1 0, 5, .inl z32)), ((a4 0), .inr (1, [.int 0, .ref (a4 1), .ref (a4 2), .ref (a4 3), .ref (a4 4)])), ((a4 1), .inl (E.2.1 0, 30, .inl z32)), ((a4 2), .inl (E.2.1 0, 30, .inl z32)), ((a4 3), .inl (E.2.1 0, 30, .inl z32)), ((a4 4), .inl (E.2.1 0, 30, .inl z32)), ((a6 0), .inr (2, [.ref (a6 1), .ref (a6 2), .ref (a6 3)])), ((a6 1), .inl (E.2.1 0, 150, .inl x)), ((a6 2), .inl (E.2.1 0, 150, .inl z32)), ((a6 3), .inl (E.2.1 0, 1350, .inl z32)), (q7, .inr (3, [.null, .null, .null, .null, .null]))] H := hP
  have hD : va_D A [(h0, .inr (4, [.int 0, .int 0, .int 0, .int 0, .int 0, .ref (a2 0), .ref (a4 0), .ref (a6 0), .null])), ((a2 0), .inr (6, [.int 0, .int 0, .ref (a2 1), .ref (a2 2)])), ((a2 1), .inl (E.2.1 0, 5, .inl z32)), ((a2 2), .inl (E.2.1 0, 5, .inl z32)), ((a4 0), .inr (1, [.int 0, .ref (a4 1), .ref (a4 2), .ref (a4 3), .ref (a4 4)])), ((a4 1), .inl (E.2.1 0, 30, .inl z32)), ((a4 2), .inl (E.2.1 0, 30, .inl z32)), ((a4 3), .inl (E.2.1 0, 30, .inl z32)), ((a4 4), .inl (E.2.1 0, 30, .inl z32)), ((a6 0), .inr (2, [.ref (a6 1), .ref (a6 2), .ref (a6 3)])), ((a6 1), .inl (E.2.1 0, 150, .inl x)), ((a6 2), .inl (E.2.1 0, 150, .inl z32)), ((a6 3), .inl (E.2.1 0, 1350, .inl z32)), (q7, .inr (3, [.null, .null, .null, .null, .null]))] := hD
  refine lv_dup hx hb dX5_init_66 rfl ?_
  refine ci_v (wf := (fun a => wFL E a (z32, z32, z32, z32, z32))) hP hD hS [13] [0, 1, 2, 3, 4, 5, 6, 7, 8, 9, 10, 11, 12] (va_free (wc := [(q7, .inr (3, [.null, .null, .null, .null, .null]))]) hD hS hA [13] rfl) (va_runIN (As := []) (rest := [.ref q7, .ref h0]) ⟨hx, hb, hml, hown, hts⟩ (c_X3_init l E H.size q7) ⟨va_cnB 0 hts gX5_init_X3_init_n50 rfl rfl rfl (hC.2.1 (RX5, 50, yX3_init, RX10) (List.mem_of_getElem? (i := 6) rfl)) w31 hdS_X3_init ⟨Nat.le_of_ble_eq_true rfl, Nat.le_of_ble_eq_true rfl⟩, rfl, w33⟩ ⟨PW.blind, PW.pre hC hS (hP.sub [13] rfl) (hD.sub [13] rfl rfl) (va_free hD hS hA [13] rfl)⟩ rfl rfl hl.1 rfl (lv_room (Nat.le_of_ble_eq_true rfl)) dX5_init_67 ⟨Nat.le_of_ble_eq_true rfl, Nat.le_of_ble_eq_true rfl⟩) rfl rfl rfl rfl (fun a8 H locs ea8 hP hD hS => ?_)
  subst ea8
  have hP : va_P E.1 vwCl [(h0, .inr (4, [.int 0, .int 0, .int 0, .int 0, .int 0, .ref (a2 0), .ref (a4 0), .ref (a6 0), .null])), ((a2 0), .inr (6, [.int 0, .int 0, .ref (a2 1), .ref (a2 2)])), ((a2 1), .inl (E.2.1 0, 5, .inl z32)), ((a2 2), .inl (E.2.1 0, 5, .inl z32)), ((a4 0), .inr (1, [.int 0, .ref (a4 1), .ref (a4 2), .ref (a4 3), .ref (a4 4)])), ((a4 1), .inl (E.2.1 0, 30, .inl z32)), ((a4 2), .inl (E.2.1 0, 30, .inl z32)), ((a4 3), .inl (E.2.1 0, 30, .inl z32)), ((a4 4), .inl (E.2.1 0, 30, .inl z32)), ((a6 0), .inr (2, [.ref (a6 1), .ref (a6 2), .ref (a6 3)])), ((a6 1), .inl (E.2.1 0, 150, .inl x)), ((a6 2), .inl (E.2.1 0, 150, .inl z32)), ((a6 3), .inl (E.2.1 0, 1350, .inl z32)), ((a8 0), .inr (3, [.ref (a8 1), .ref (a8 2), .ref (a8 3), .ref (a8 4), .ref (a8 5)])), ((a8 1), .inl (E.2.1 0, 6, .inl z32)), ((a8 2), .inl (E.2.1 0, 6, .inl z32)), ((a8 3), .inl (E.2.1 0, 6, .inl z32)), ((a8 4), .inl (E.2.1 0, 6, .inl z32)), ((a8 5), .inl (E.2.1 0, 24, .inl z32))] H := hP
  have hD : va_D A [(h0, .inr (4, [.int 0, .int 0, .int 0, .int 0, .int 0, .ref (a2 0), .ref (a4 0), .ref (a6 0), .null])), ((a2 0), .inr (6, [.int 0, .int 0, .ref (a2 1), .ref (a2 2)])), ((a2 1), .inl (E.2.1 0, 5, .inl z32)), ((a2 2), .inl (E.2.1 0, 5, .inl z32)), ((a4 0), .inr (1, [.int 0, .ref (a4 1), .ref (a4 2), .ref (a4 3), .ref (a4 4)])), ((a4 1), .inl (E.2.1 0, 30, .inl z32)), ((a4 2), .inl (E.2.1 0, 30, .inl z32)), ((a4 3), .inl (E.2.1 0, 30, .inl z32)), ((a4 4), .inl (E.2.1 0, 30, .inl z32)), ((a6 0), .inr (2, [.ref (a6 1), .ref (a6 2), .ref (a6 3)])), ((a6 1), .inl (E.2.1 0, 150, .inl x)), ((a6 2), .inl (E.2.1 0, 150, .inl z32)), ((a6 3), .inl (E.2.1 0, 1350, .inl z32)), ((a8 0), .inr (3, [.ref (a8 1), .ref (a8 2), .ref (a8 3), .ref (a8 4), .ref (a8 5)])), ((a8 1), .inl (E.2.1 0, 6, .inl z32)), ((a8 2), .inl (E.2.1 0, 6, .inl z32)), ((a8 3), .inl (E.2.1 0, 6, .inl z32)), ((a8 4), .inl (E.2.1 0, 6, .inl z32)), ((a8 5), .inl (E.2.1 0, 24, .inl z32))] := hD
  refine va_putF (D := E.1) (ci := 4) (v := .ref (a8 0)) (ty := .object "GreatChunks$Files") (C := RX5) (T := TX5) (N := 9) hx hb hts w5 tyX5 tyX5_ok nmX5 hown hC.1 hP hD hS 0 rfl rfl 8 (by decide) w34 (fun _ h9 => h9) rfl hin rfl (by decide +kernel) rfl rfl (Nat.le_of_ble_eq_true rfl) dX5_init_70 (fun H locs hP hD hS => ?_)
  have hP : va_P E.1 vwCl [(h0, .inr (4, [.int 0, .int 0, .int 0, .int 0, .int 0, .ref (a2 0), .ref (a4 0), .ref (a6 0), .ref (a8 0)])), ((a2 0), .inr (6, [.int 0, .int 0, .ref (a2 1), .ref (a2 2)])), ((a2 1), .inl (E.2.1 0, 5, .inl z32)), ((a2 2), .inl (E.2.1 0, 5, .inl z32)), ((a4 0), .inr (1, [.int 0, .ref (a4 1), .ref (a4 2), .ref (a4 3), .ref (a4 4)])), ((a4 1), .inl (E.2.1 0, 30, .inl z32)), ((a4 2), .inl (E.2.1 0, 30, .inl z32)), ((a4 3), .inl (E.2.1 0, 30, .inl z32)), ((a4 4), .inl (E.2.1 0, 30, .inl z32)), ((a6 0), .inr (2, [.ref (a6 1), .ref (a6 2), .ref (a6 3)])), ((a6 1), .inl (E.2.1 0, 150, .inl x)), ((a6 2), .inl (E.2.1 0, 150, .inl z32)), ((a6 3), .inl (E.2.1 0, 1350, .inl z32)), ((a8 0), .inr (3, [.ref (a8 1), .ref (a8 2), .ref (a8 3), .ref (a8 4), .ref (a8 5)])), ((a8 1), .inl (E.2.1 0, 6, .inl z32)), ((a8 2), .inl (E.2.1 0, 6, .inl z32)), ((a8 3), .inl (E.2.1 0, 6, .inl z32)), ((a8 4), .inl (E.2.1 0, 6, .inl z32)), ((a8 5), .inl (E.2.1 0, 24, .inl z32))] H := hP
  have hD : va_D A [(h0, .inr (4, [.int 0, .int 0, .int 0, .int 0, .int 0, .ref (a2 0), .ref (a4 0), .ref (a6 0), .ref (a8 0)])), ((a2 0), .inr (6, [.int 0, .int 0, .ref (a2 1), .ref (a2 2)])), ((a2 1), .inl (E.2.1 0, 5, .inl z32)), ((a2 2), .inl (E.2.1 0, 5, .inl z32)), ((a4 0), .inr (1, [.int 0, .ref (a4 1), .ref (a4 2), .ref (a4 3), .ref (a4 4)])), ((a4 1), .inl (E.2.1 0, 30, .inl z32)), ((a4 2), .inl (E.2.1 0, 30, .inl z32)), ((a4 3), .inl (E.2.1 0, 30, .inl z32)), ((a4 4), .inl (E.2.1 0, 30, .inl z32)), ((a6 0), .inr (2, [.ref (a6 1), .ref (a6 2), .ref (a6 3)])), ((a6 1), .inl (E.2.1 0, 150, .inl x)), ((a6 2), .inl (E.2.1 0, 150, .inl z32)), ((a6 3), .inl (E.2.1 0, 1350, .inl z32)), ((a8 0), .inr (3, [.ref (a8 1), .ref (a8 2), .ref (a8 3), .ref (a8 4), .ref (a8 5)])), ((a8 1), .inl (E.2.1 0, 6, .inl z32)), ((a8 2), .inl (E.2.1 0, 6, .inl z32)), ((a8 3), .inl (E.2.1 0, 6, .inl z32)), ((a8 4), .inl (E.2.1 0, 6, .inl z32)), ((a8 5), .inl (E.2.1 0, 24, .inl z32))] := hD
  refine W.widen (k := 18) (n := 1845) (Nat.le_of_ble_eq_true rfl) (Nat.le_of_ble_eq_true rfl) ?_
  exact ei_v (a := (fun k => ([h0, (a2 0), (a2 1), (a2 2), (a4 0), (a4 1), (a4 2), (a4 3), (a4 4), (a6 0), (a6 1), (a6 2), (a6 3), (a8 0), (a8 1), (a8 2), (a8 3), (a8 4), (a8 5)] : List Nat).getD k 0)) (wf := (fun a => wHS E a (HS0 x))) hx hb hr hlocks rfl (hP.sub [0, 1, 2, 3, 4, 5, 6, 7, 8, 9, 10, 11, 12, 13, 14, 15, 16, 17, 18] rfl) (hD.sub [0, 1, 2, 3, 4, 5, 6, 7, 8, 9, 10, 11, 12, 13, 14, 15, 16, 17, 18] rfl rfl) hS dX5_init_73

/-! X9_init -/
abbrev rmX9_init : Room := { frames := 1, cells := 1, slots := 80, locals := 12 }
theorem hdS_X9_init : yX9_init.cls ≠ "java/lang/invoke/MethodHandle" ∧ yX9_init.cls ≠ "java/lang/invoke/VarHandle" ∧ (parseMethodDescriptor yX9_init.desc).map (fun d => d.parameters.length) = some 0 := by decide +kernel
set_option maxHeartbeats 4000000 in
set_option maxRecDepth 100000 in
theorem c_X9_init (l : Launch) (E : G0) (sz : Nat) (h0 : Nat) : Met l yX9_init wsX9_init rmX9_init (va_Pc [.ref h0] (PW E [(h0, .inr (7, [.null, .int 0]))] sz)) (va_Qv (fun q : Nat → Nat => q 0 = h0) (fun q t => va_P E.1 vwCl ((fun a => wTP E a (z32, 0)) q) t.heap ∧ va_D (va_A [(h0, .inr (7, [.null, .int 0]))] sz) ((fun a => wTP E a (z32, 0)) q)) (va_A [(h0, .inr (7, [.null, .int 0]))] sz)) 1 80 (va_A [(h0, .inr (7, [.null, .int 0]))] sz) := by
  refine Met.ofW (cc := cX9_init) (maxL := 1) (ret := none) (by decide) rfl ?_
  intro p e s m args below meth c s₁ B hml hv
  obtain ⟨ha, hsz, hP, hD0, hC⟩ := hv
  have hx := B.exec
  have hb := B.bytes
  have hr := B.returns
  have hts := atoms_spec (ws := wsX9_init) B.pre
  have hown : s.vm.findClass RX9 = some m.cls := findClass_of_methodNamed B.named
  have hlocks := B.notSynchronized
  have hin : meth.name = "<init>" := (name_of_methodNamed B.named B.method).1
  subst hsz
  have hD := hD0.self (sz := s.heap.size)
  generalize hAe : va_A [(h0, .inr (7, [.null, .int 0]))] s.heap.size = A at hD hC ⊢
  have hA : ∀ q : Nat, s.heap.size ≤ q → A q := fun q h => by rw [← hAe]; exact Or.inr h
  have hS : va_S A s.heap s.heap [] := va_S.rf
  have w1 : (Cond.methodLink RX9 3 objectInit).before args s = true := hts _ (List.mem_of_getElem? (i := 1) rfl)
  have w2 : (Cond.instanceMethod objectInit).before args s = true := hts _ (List.mem_of_getElem? (i := 2) rfl)
  have w3 : (Cond.code objectInit ⟨#[0xb1]⟩ 1 none).before args s = true := hts _ (List.mem_of_getElem? (i := 3) rfl)
  have w4 : (Cond.arrayClass .int).before args s = true := hts _ (List.mem_of_getElem? (i := 4) rfl)
  have w5 : (Cond.fieldLink RX9 9 "GreatChunks$Tape" "bytes" "[I").before args s = true := hts _ (List.mem_of_getElem? (i := 5) rfl)
  have w6 : ∀ w ∈ wsX90, w ∈ wsX9_init := in_pl 7 rfl
  have w7 : (Cond.fieldLink RX9 15 "GreatChunks$Tape" "many" "I").before args s = true := hts _ (List.mem_of_getElem? (i := 6) rfl)
  refine st_W ha (Nat.le_of_ble_eq_true rfl) (fun ls hl => ?_)
  have hl : lv_has ls 1 [(0, .ref h0)] := hl
  refine lv_aload_n hx hb dX9_init_0 rfl (lv_at hl 0 rfl) ?_
  refine W.objInit hx hb hown w1 w2 w3 rfl (by rw [hml]; exact hl.1) rfl dX9_init_1 (Nat.le_of_ble_eq_true rfl) (Nat.le_of_ble_eq_true rfl) ?_
  refine lv_aload_n hx hb dX9_init_4 rfl (lv_at hl 0 rfl) ?_
  refine lv_bipush (v := 80) hx hb dX9_init_5 rfl ?_
  refine va_newa (atype := .int) (n := 80) (N' := 80) (a0 := (80, .inl z32)) hx hb w4 rfl hC.1 hP hD hS hA (fun _ => rfl) (by decide) (by decide) (by decide) (Nat.le_of_ble_eq_true rfl) (Nat.le_of_ble_eq_true rfl) dX9_init_7 (fun q1 cA H hK9 hP hD hS => ?_)
  obtain rfl := ar_I hK9
  have hP : va_P E.1 vwCl [(h0, .inr (7, [.null, .int 0])), (q1, .inl (E.2.1 0, 80, .inl z32))] H := hP
  have hD : va_D A [(h0, .inr (7, [.null, .int 0])), (q1, .inl (E.2.1 0, 80, .inl z32))] := hD
  refine va_putF (D := E.1) (ci := 7) (v := .ref q1) (ty := .array .int) (C := RX9) (T := TX9) (N := 2) hx hb hts w6 tyX9 tyX9_ok nmX9 hown hC.1 hP hD hS 0 rfl rfl 0 (by decide) w5 (fun _ h9 => h9) rfl hin rfl (by decide +kernel) rfl rfl (Nat.le_of_ble_eq_true rfl) dX9_init_9 (fun H locs hP hD hS => ?_)
  have hP : va_P E.1 vwCl [(h0, .inr (7, [.ref q1, .int 0])), (q1, .inl (E.2.1 0, 80, .inl z32))] H := hP
  have hD : va_D A [(h0, .inr (7, [.ref q1, .int 0])), (q1, .inl (E.2.1 0, 80, .inl z32))] := hD
  refine lv_aload_n hx hb dX9_init_12 rfl (lv_at hl 0 rfl) ?_
  refine lv_iconst (v := 0) hx hb dX9_init_13 rfl ?_
  refine va_put (D := E.1) (ci := 7) (v := .int 0) (ty := .int) (C := RX9) (T := TX9) (N := 2) hx hb hts w6 tyX9 tyX9_ok nmX9 hown hC.1 hP hD hS 0 rfl rfl 1 (by decide) w7 (fun _ h9 => h9) rfl (by decide +kernel) rfl rfl (Nat.le_of_ble_eq_true rfl) dX9_init_14 (fun H locs hP hD hS => ?_)
  have hP : va_P E.1 vwCl [(h0, .inr (7, [.ref q1, .int 0])), (q1, .inl (E.2.1 0, 80, .inl z32))] H := hP
  have hD : va_D A [(h0, .inr (7, [.ref q1, .int 0])), (q1, .inl (E.2.1 0, 80, .inl z32))] := hD
  refine W.widen (k := 1) (n := 80) (Nat.le_of_ble_eq_true rfl) (Nat.le_of_ble_eq_true rfl) ?_
  exact ei_v (a := (fun k => ([h0, q1] : List Nat).getD k 0)) (wf := (fun a => wTP E a (z32, 0))) hx hb hr hlocks rfl (hP.sub [0, 1] rfl) (hD.sub [0, 1] rfl rfl) hS dX9_init_17

/-! X7_init -/
abbrev rmX7_init : Room := { frames := 2, cells := 2, slots := 82, locals := 32 }
theorem hdS_X7_init : yX7_init.cls ≠ "java/lang/invoke/MethodHandle" ∧ yX7_init.cls ≠ "java/lang/invoke/VarHandle" ∧ (parseMethodDescriptor yX7_init.desc).map (fun d => d.parameters.length) = some 0 := by decide +kernel
set_option maxHeartbeats 4000000 in
set_option maxRecDepth 100000 in
theorem c_X7_init (l : Launch) (E : G0) (sz : Nat) (h0 : Nat) : Met l yX7_init wsX7_init rmX7_init (va_Pc [.ref h0] (PW E [(h0, .inr (5, [.null, .int 0, .int 0, .int 0]))] sz)) (va_Qv (fun q : Nat → Nat => q 0 = h0) (fun q t => va_P E.1 vwCl ((fun a => wRD E a ((z32, 0), 0, 0, 0)) q) t.heap ∧ va_D (va_A [(h0, .inr (5, [.null, .int 0, .int 0, .int 0]))] sz) ((fun a => wRD E a ((z32, 0), 0, 0, 0)) q)) (va_A [(h0, .inr (5, [.null, .int 0, .int 0, .int 0]))] sz)) 2 82 (va_A [(h0, .inr (5, [.null, .int 0, .int 0, .int 0]))] sz) := by
  refine Met.ofW (cc := cX7_init) (maxL := 1) (ret := none) (by decide) rfl ?_
  intro p e s m args below meth c s₁ B hml hv
  obtain ⟨ha, hsz, hP, hD0, hC⟩ := hv
  have hx := B.exec
  have hb := B.bytes
  have hr := B.returns
  have hts := atoms_spec (ws := wsX7_init) B.pre
  have hown : s.vm.findClass RX7 = some m.cls := findClass_of_methodNamed B.named
  have hlocks := B.notSynchronized
  have hin : meth.name = "<init>" := (name_of_methodNamed B.named B.method).1
  subst hsz
  have hD := hD0.self (sz := s.heap.size)
  generalize hAe : va_A [(h0, .inr (5, [.null, .int 0, .int 0, .int 0]))] s.heap.size = A at hD hC ⊢
  have hA : ∀ q : Nat, s.heap.size ≤ q → A q := fun q h => by rw [← hAe]; exact Or.inr h
  have hS : va_S A s.heap s.heap [] := va_S.rf
  have w1 : (Cond.methodLink RX7 3 objectInit).before args s = true := hts _ (List.mem_of_getElem? (i := 1) rfl)
  have w2 : (Cond.instanceMethod objectInit).before args s = true := hts _ (List.mem_of_getElem? (i := 2) rfl)
  have w3 : (Cond.code objectInit ⟨#[0xb1]⟩ 1 none).before args s = true := hts _ (List.mem_of_getElem? (i := 3) rfl)
  have w4 : (Cond.classLink RX7 9 RX9).before args s = true := hts _ (List.mem_of_getElem? (i := 4) rfl)
  have w5 : (Cond.instantiable RX9 2).before args s = true := hts _ (List.mem_of_getElem? (i := 5) rfl)
  have w6 : (Cond.initialized RX9).before args s = true := hts _ (List.mem_of_getElem? (i := 6) rfl)
  have w7 : ∀ w ∈ wsX90, w ∈ wsX7_init := in_pl 17 rfl
  have w8 : (Cond.instanceMethod yX9_init).before args s = true := hts _ (List.mem_of_getElem? (i := 11) rfl)
  have w9 : (Cond.fieldLink RX7 12 "GreatChunks$Reader" "tape" "LGreatChunks$Tape;").before args s = true := hts _ (List.mem_of_getElem? (i := 7) rfl)
  have w10 : ∀ w ∈ wsX70, w ∈ wsX7_init := in_pl 19 rfl
  have w11 : (Cond.fieldLink RX7 18 "GreatChunks$Reader" "place" "I").before args s = true := hts _ (List.mem_of_getElem? (i := 8) rfl)
  have w12 : (Cond.fieldLink RX7 22 "GreatChunks$Reader" "fault" "I").before args s = true := hts _ (List.mem_of_getElem? (i := 9) rfl)
  have w13 : (Cond.fieldLink RX7 25 "GreatChunks$Reader" "number" "I").before args s = true := hts _ (List.mem_of_getElem? (i := 10) rfl)
  refine st_W ha (Nat.le_of_ble_eq_true rfl) (fun ls hl => ?_)
  have hl : lv_has ls 1 [(0, .ref h0)] := hl
  refine lv_aload_n hx hb dX7_init_0 rfl (lv_at hl 0 rfl) ?_
  refine W.objInit hx hb hown w1 w2 w3 rfl (by rw [hml]; exact hl.1) rfl dX7_init_1 (Nat.le_of_ble_eq_true rfl) (Nat.le_of_ble_eq_true rfl) ?_
  refine lv_aload_n hx hb dX7_init_4 rfl (lv_at hl 0 rfl) ?_
  refine va_new (ci := 7) (C := RX9) (T := TX9) (N := 2) (fs := [.null, .int 0]) hx hb hts w7 tyX9 tyX9_ok hown w4 w5 w6 hC.1 hP hD hS hA rfl (by decide) (Nat.le_of_ble_eq_true rfl) (Nat.le_of_ble_eq_true rfl) dX7_init_5 (fun q1 H hP hD hS => ?_)
  have hP : va_P E.1 vwCl [(h0, .inr (5, [.null, .int 0, .int 0, .int 0])), (q1, .inr (7, [.null, .int 0]))] H := hP
  have hD : va_D A [(h0, .inr (5, [.null, .int 0, .int 0, .int 0])), (q1, .inr (7, [.null, .int 0]))] := hD
  refine lv_dup hx hb dX7_init_8 rfl ?_
  refine ci_v (wf := (fun a => wTP E a (z32, 0))) hP hD hS [1] [0] (va_free (wc := [(q1, .inr (7, [.null, .int 0]))]) hD hS hA [1] rfl) (va_runIN (As := []) (rest := [.ref q1, .ref h0]) ⟨hx, hb, hml, hown, hts⟩ (c_X9_init l E H.size q1) ⟨va_cnB 0 hts gX7_init_X9_init_n11 rfl rfl rfl (hC.2.1 (RX7, 11, yX9_init, RX10) (List.mem_of_getElem? (i := 1) rfl)) w6 hdS_X9_init ⟨Nat.le_of_ble_eq_true rfl, Nat.le_of_ble_eq_true rfl⟩, rfl, w8⟩ ⟨PW.blind, PW.pre hC hS (hP.sub [1] rfl) (hD.sub [1] rfl rfl) (va_free hD hS hA [1] rfl)⟩ rfl rfl hl.1 rfl (lv_room (Nat.le_of_ble_eq_true rfl)) dX7_init_9 ⟨Nat.le_of_ble_eq_true rfl, Nat.le_of_ble_eq_true rfl⟩) rfl rfl rfl rfl (fun a2 H locs ea2 hP hD hS => ?_)
  subst ea2
  have hP : va_P E.1 vwCl [(h0, .inr (5, [.null, .int 0, .int 0, .int 0])), ((a2 0), .inr (7, [.ref (a2 1), .int 0])), ((a2 1), .inl (E.2.1 0, 80, .inl z32))] H := hP
  have hD : va_D A [(h0, .inr (5, [.null, .int 0, .int 0, .int 0])), ((a2 0), .inr (7, [.ref (a2 1), .int 0])), ((a2 1), .inl (E.2.1 0, 80, .inl z32))] := hD
  refine va_putF (D := E.1) (ci := 5) (v := .ref (a2 0)) (ty := .object "GreatChunks$Tape") (C := RX7) (T := TX7) (N := 4) hx hb hts w10 tyX7 tyX7_ok nmX7 hown hC.1 hP hD hS 0 rfl rfl 0 (by decide) w9 (fun _ h9 => h9) rfl hin rfl (by decide +kernel) rfl rfl (Nat.le_of_ble_eq_true rfl) dX7_init_12 (fun H locs hP hD hS => ?_)
  have hP : va_P E.1 vwCl [(h0, .inr (5, [.ref (a2 0), .int 0, .int 0, .int 0])), ((a2 0), .inr (7, [.ref (a2 1), .int 0])), ((a2 1), .inl (E.2.1 0, 80, .inl z32))] H := hP
  have hD : va_D A [(h0, .inr (5, [.ref (a2 0), .int 0, .int 0, .int 0])), ((a2 0), .inr (7, [.ref (a2 1), .int 0])), ((a2 1), .inl (E.2.1 0, 80, .inl z32))] := hD
  refine lv_aload_n hx hb dX7_init_15 rfl (lv_at hl 0 rfl) ?_
  refine lv_iconst (v := 0) hx hb dX7_init_16 rfl ?_
  refine va_put (D := E.1) (ci := 5) (v := .int 0) (ty := .int) (C := RX7) (T := TX7) (N := 4) hx hb hts w10 tyX7 tyX7_ok nmX7 hown hC.1 hP hD hS 0 rfl rfl 1 (by decide) w11 (fun _ h9 => h9) rfl (by decide +kernel) rfl rfl (Nat.le_of_ble_eq_true rfl) dX7_init_17 (fun H locs hP hD hS => ?_)
  have hP : va_P E.1 vwCl [(h0, .inr (5, [.ref (a2 0), .int 0, .int 0, .int 0])), ((a2 0), .inr (7, [.ref (a2 1), .int 0])), ((a2 1), .inl (E.2.1 0, 80, .inl z32))] H := hP
  have hD : va_D A [(h0, .inr (5, [.ref (a2 0), .int 0, .int 0, .int 0])), ((a2 0), .inr (7, [.ref (a2 1), .int 0])), ((a2 1), .inl (E.2.1 0, 80, .inl z32))] := hD
  refine lv_aload_n hx hb dX7_init_20 rfl (lv_at hl 0 rfl) ?_
  refine lv_iconst (v := 0) hx hb dX7_init_21 rfl ?_
  refine va_put (D := E.1) (ci := 5) (v := .int 0) (ty := .int) (C := RX7) (T := TX7) (N := 4) hx hb hts w10 tyX7 tyX7_ok nmX7 hown hC.1 hP hD hS 0 rfl rfl 2 (by decide) w12 (fun _ h9 => h9) rfl (by decide +kernel) rfl rfl (Nat.le_of_ble_eq_true rfl) dX7_init_22 (fun H locs hP hD hS => ?_)
  have hP : va_P E.1 vwCl [(h0, .inr (5, [.ref (a2 0), .int 0, .int 0, .int 0])), ((a2 0), .inr (7, [.ref (a2 1), .int 0])), ((a2 1), .inl (E.2.1 0, 80, .inl z32))] H := hP
  have hD : va_D A [(h0, .inr (5, [.ref (a2 0), .int 0, .int 0, .int 0])), ((a2 0), .inr (7, [.ref (a2 1), .int 0])), ((a2 1), .inl (E.2.1 0, 80, .inl z32))] := hD
  refine lv_aload_n hx hb dX7_init_25 rfl (lv_at hl 0 rfl) ?_
  refine lv_iconst (v := 0) hx hb dX7_init_26 rfl ?_
  refine va_put (D := E.1) (ci := 5) (v := .int 0) (ty := .int) (C := RX7) (T := TX7) (N := 4) hx hb hts w10 tyX7 tyX7_ok nmX7 hown hC.1 hP hD hS 0 rfl rfl 3 (by decide) w13 (fun _ h9 => h9) rfl (by decide +kernel) rfl rfl (Nat.le_of_ble_eq_true rfl) dX7_init_27 (fun H locs hP hD hS => ?_)
  have hP : va_P E.1 vwCl [(h0, .inr (5, [.ref (a2 0), .int 0, .int 0, .int 0])), ((a2 0), .inr (7, [.ref (a2 1), .int 0])), ((a2 1), .inl (E.2.1 0, 80, .inl z32))] H := hP
  have hD : va_D A [(h0, .inr (5, [.ref (a2 0), .int 0, .int 0, .int 0])), ((a2 0), .inr (7, [.ref (a2 1), .int 0])), ((a2 1), .inl (E.2.1 0, 80, .inl z32))] := hD
  refine W.widen (k := 2) (n := 82) (Nat.le_of_ble_eq_true rfl) (Nat.le_of_ble_eq_true rfl) ?_
  exact ei_v (a := (fun k => ([h0, (a2 0), (a2 1)] : List Nat).getD k 0)) (wf := (fun a => wRD E a ((z32, 0), 0, 0, 0))) hx hb hr hlocks rfl (hP.sub [0, 1, 2] rfl) (hD.sub [0, 1, 2] rfl rfl) hS dX7_init_30

/-! X0_init -/
abbrev rmX0_init : Room := { frames := 1, cells := 1, slots := 6, locals := 12 }
theorem hdS_X0_init : yX0_init.cls ≠ "java/lang/invoke/MethodHandle" ∧ yX0_init.cls ≠ "java/lang/invoke/VarHandle" ∧ (parseMethodDescriptor yX0_init.desc).map (fun d => d.parameters.length) = some 0 := by decide +kernel
set_option maxHeartbeats 4000000 in
set_option maxRecDepth 100000 in
theorem c_X0_init (l : Launch) (E : G0) (sz : Nat) (h0 : Nat) : Met l yX0_init wsX0_init rmX0_init (va_Pc [.ref h0] (PWO E [(h0, .inr (0, [.null, .int 0, .int 0]))] sz)) (va_Qv (fun q : Nat → Nat => q 0 = h0) (fun q t => va_P E.1 vwCl ((fun a => wAC2 E a ((), 0, 0)) q) t.heap ∧ va_D (va_A [(h0, .inr (0, [.null, .int 0, .int 0]))] sz) ((fun a => wAC2 E a ((), 0, 0)) q)) (va_A [(h0, .inr (0, [.null, .int 0, .int 0]))] sz)) 1 6 (va_A [(h0, .inr (0, [.null, .int 0, .int 0]))] sz) := by
  refine Met.ofW (cc := cX0_init) (maxL := 1) (ret := none) (by decide) rfl ?_
  intro p e s m args below meth c s₁ B hml hv
  obtain ⟨ha, ⟨hsz, hP, hD0, hC⟩, hAO⟩ := hv
  have hx := B.exec
  have hb := B.bytes
  have hr := B.returns
  have hts := atoms_spec (ws := wsX0_init) B.pre
  have hown : s.vm.findClass RX0 = some m.cls := findClass_of_methodNamed B.named
  have hlocks := B.notSynchronized
  have hin : meth.name = "<init>" := (name_of_methodNamed B.named B.method).1
  subst hsz
  have hD := hD0.self (sz := s.heap.size)
  generalize hAe : va_A [(h0, .inr (0, [.null, .int 0, .int 0]))] s.heap.size = A at hD hC ⊢
  have hA : ∀ q : Nat, s.heap.size ≤ q → A q := fun q h => by rw [← hAe]; exact Or.inr h
  have hS : va_S A s.heap s.heap [] := va_S.rf
  have w1 : (Cond.methodLink RX0 3 objectInit).before args s = true := hts _ (List.mem_of_getElem? (i := 1) rfl)
  have w2 : (Cond.instanceMethod objectInit).before args s = true := hts _ (List.mem_of_getElem? (i := 2) rfl)
  have w3 : (Cond.code objectInit ⟨#[0xb1]⟩ 1 none).before args s = true := hts _ (List.mem_of_getElem? (i := 3) rfl)
  have w4 : (Cond.classLink RX0 9 RX5).before args s = true := hts _ (List.mem_of_getElem? (i := 4) rfl)
  have w5 : (Cond.fieldLink RX0 11 "GreatChunks$Acts" "before" "[LGreatChunks$House;").before args s = true := hts _ (List.mem_of_getElem? (i := 5) rfl)
  have w6 : ∀ w ∈ wsX00, w ∈ wsX0_init := in_pl 8 rfl
  have w7 : (Cond.fieldLink RX0 17 "GreatChunks$Acts" "next" "I").before args s = true := hts _ (List.mem_of_getElem? (i := 6) rfl)
  have w8 : (Cond.fieldLink RX0 21 "GreatChunks$Acts" "kept" "I").before args s = true := hts _ (List.mem_of_getElem? (i := 7) rfl)
  refine st_W ha (Nat.le_of_ble_eq_true rfl) (fun ls hl => ?_)
  have hl : lv_has ls 1 [(0, .ref h0)] := hl
  refine lv_aload_n hx hb dX0_init_0 rfl (lv_at hl 0 rfl) ?_
  refine W.objInit hx hb hown w1 w2 w3 rfl (by rw [hml]; exact hl.1) rfl dX0_init_1 (Nat.le_of_ble_eq_true rfl) (Nat.le_of_ble_eq_true rfl) ?_
  refine lv_aload_n hx hb dX0_init_4 rfl (lv_at hl 0 rfl) ?_
  refine lv_bipush (v := 6) hx hb dX0_init_5 rfl ?_
  refine va_newq (C := RX5) (n := 6) (N' := 6) hx hb hown w4 hAO hC.1 hP hD hS hA (by decide) (by decide) (by decide) (Nat.le_of_ble_eq_true rfl) (Nat.le_of_ble_eq_true rfl) dX0_init_7 (fun q1 cA H hK9 hP hD hS => ?_)
  obtain rfl := ar_O hK9
  have hP : va_P E.1 vwCl [(h0, .inr (0, [.null, .int 0, .int 0])), (q1, .inl (E.2.1 3, 6, .inr (.inr (.inr (.inr (fun _ => none))))))] H := hP
  have hD : va_D A [(h0, .inr (0, [.null, .int 0, .int 0])), (q1, .inl (E.2.1 3, 6, .inr (.inr (.inr (.inr (fun _ => none))))))] := hD
  refine va_putF (D := E.1) (ci := 0) (v := .ref q1) (ty := .array (.object "GreatChunks$House")) (C := RX0) (T := TX0) (N := 3) hx hb hts w6 tyX0 tyX0_ok nmX0 hown hC.1 hP hD hS 0 rfl rfl 0 (by decide) w5 (fun _ h9 => h9) rfl hin rfl (by decide +kernel) rfl rfl (Nat.le_of_ble_eq_true rfl) dX0_init_10 (fun H locs hP hD hS => ?_)
  have hP : va_P E.1 vwCl [(h0, .inr (0, [.ref q1, .int 0, .int 0])), (q1, .inl (E.2.1 3, 6, .inr (.inr (.inr (.inr (fun _ => none))))))] H := hP
  have hD : va_D A [(h0, .inr (0, [.ref q1, .int 0, .int 0])), (q1, .inl (E.2.1 3, 6, .inr (.inr (.inr (.inr (fun _ => none))))))] := hD
  refine lv_aload_n hx hb dX0_init_13 rfl (lv_at hl 0 rfl) ?_
  refine lv_iconst (v := 0) hx hb dX0_init_14 rfl ?_
  refine va_put (D := E.1) (ci := 0) (v := .int 0) (ty := .int) (C := RX0) (T := TX0) (N := 3) hx hb hts w6 tyX0 tyX0_ok nmX0 hown hC.1 hP hD hS 0 rfl rfl 1 (by decide) w7 (fun _ h9 => h9) rfl (by decide +kernel) rfl rfl (Nat.le_of_ble_eq_true rfl) dX0_init_15 (fun H locs hP hD hS => ?_)
  have hP : va_P E.1 vwCl [(h0, .inr (0, [.ref q1, .int 0, .int 0])), (q1, .inl (E.2.1 3, 6, .inr (.inr (.inr (.inr (fun _ => none))))))] H := hP
  have hD : va_D A [(h0, .inr (0, [.ref q1, .int 0, .int 0])), (q1, .inl (E.2.1 3, 6, .inr (.inr (.inr (.inr (fun _ => none))))))] := hD
  refine lv_aload_n hx hb dX0_init_18 rfl (lv_at hl 0 rfl) ?_
  refine lv_iconst (v := 0) hx hb dX0_init_19 rfl ?_
  refine va_put (D := E.1) (ci := 0) (v := .int 0) (ty := .int) (C := RX0) (T := TX0) (N := 3) hx hb hts w6 tyX0 tyX0_ok nmX0 hown hC.1 hP hD hS 0 rfl rfl 2 (by decide) w8 (fun _ h9 => h9) rfl (by decide +kernel) rfl rfl (Nat.le_of_ble_eq_true rfl) dX0_init_20 (fun H locs hP hD hS => ?_)
  have hP : va_P E.1 vwCl [(h0, .inr (0, [.ref q1, .int 0, .int 0])), (q1, .inl (E.2.1 3, 6, .inr (.inr (.inr (.inr (fun _ => none))))))] H := hP
  have hD : va_D A [(h0, .inr (0, [.ref q1, .int 0, .int 0])), (q1, .inl (E.2.1 3, 6, .inr (.inr (.inr (.inr (fun _ => none))))))] := hD
  refine W.widen (k := 1) (n := 6) (Nat.le_of_ble_eq_true rfl) (Nat.le_of_ble_eq_true rfl) ?_
  exact ei_v (a := (fun k => ([h0, q1] : List Nat).getD k 0)) (wf := (fun a => wAC2 E a ((), 0, 0))) hx hb hr hlocks rfl (hP.sub [0, 1] rfl) (hD.sub [0, 1] rfl rfl) hS dX0_init_23

/-! X11_init -/
abbrev rmX11_init : Room := { frames := 1, cells := 7, slots := 3491, locals := 12 }
theorem hdS_X11_init : yX11_init.cls ≠ "java/lang/invoke/MethodHandle" ∧ yX11_init.cls ≠ "java/lang/invoke/VarHandle" ∧ (parseMethodDescriptor yX11_init.desc).map (fun d => d.parameters.length) = some 0 := by decide +kernel
set_option maxHeartbeats 4000000 in
set_option maxRecDepth 100000 in
theorem c_X11_init (l : Launch) (E : G0) (sz : Nat) (h0 : Nat) : Met l yX11_init wsX11_init rmX11_init (va_Pc [.ref h0] (PW E [(h0, .inr (9, [.null, .null, .null, .int 0, .null, .null, .null, .int 0, .int 0, .int 0, .int 0, .int 0, .int 0, .int 0, .int 0, .null, .int 0]))] sz)) (va_Qv (fun q : Nat → Nat => q 0 = h0) (fun q t => va_P E.1 vwCl ((fun a => wMD E a (z64, z64, z64, 0, z64, z32, z32, 0, 0, 0, 0, 0, 0, 0, 0, z32, 0)) q) t.heap ∧ va_D (va_A [(h0, .inr (9, [.null, .null, .null, .int 0, .null, .null, .null, .int 0, .int 0, .int 0, .int 0, .int 0, .int 0, .int 0, .int 0, .null, .int 0]))] sz) ((fun a => wMD E a (z64, z64, z64, 0, z64, z32, z32, 0, 0, 0, 0, 0, 0, 0, 0, z32, 0)) q)) (va_A [(h0, .inr (9, [.null, .null, .null, .int 0, .null, .null, .null, .int 0, .int 0, .int 0, .int 0, .int 0, .int 0, .int 0, .int 0, .null, .int 0]))] sz)) 7 3491 (va_A [(h0, .inr (9, [.null, .null, .null, .int 0, .null, .null, .null, .int 0, .int 0, .int 0, .int 0, .int 0, .int 0, .int 0, .int 0, .null, .int 0]))] sz) := by
  refine Met.ofW (cc := cX11_init) (maxL := 1) (ret := none) (by decide) rfl ?_
  intro p e s m args below meth c s₁ B hml hv
  obtain ⟨ha, hsz, hP, hD0, hC⟩ := hv
  have hx := B.exec
  have hb := B.bytes
  have hr := B.returns
  have hts := atoms_spec (ws := wsX11_init) B.pre
  have hown : s.vm.findClass RX11 = some m.cls := findClass_of_methodNamed B.named
  have hlocks := B.notSynchronized
  have hin : meth.name = "<init>" := (name_of_methodNamed B.named B.method).1
  subst hsz
  have hD := hD0.self (sz := s.heap.size)
  generalize hAe : va_A [(h0, .inr (9, [.null, .null, .null, .int 0, .null, .null, .null, .int 0, .int 0, .int 0, .int 0, .int 0, .int 0, .int 0, .int 0, .null, .int 0]))] s.heap.size = A at hD hC ⊢
  have hA : ∀ q : Nat, s.heap.size ≤ q → A q := fun q h => by rw [← hAe]; exact Or.inr h
  have hS : va_S A s.heap s.heap [] := va_S.rf
  have w1 : (Cond.methodLink RX11 1 objectInit).before args s = true := hts _ (List.mem_of_getElem? (i := 1) rfl)
  have w2 : (Cond.instanceMethod objectInit).before args s = true := hts _ (List.mem_of_getElem? (i := 2) rfl)
  have w3 : (Cond.code objectInit ⟨#[0xb1]⟩ 1 none).before args s = true := hts _ (List.mem_of_getElem? (i := 3) rfl)
  have w4 : (Cond.arrayClass .long).before args s = true := hts _ (List.mem_of_getElem? (i := 4) rfl)
  have w5 : (Cond.fieldLink RX11 7 "GreatChunksModel" "now" "[J").before args s = true := hts _ (List.mem_of_getElem? (i := 5) rfl)
  have w6 : ∀ w ∈ wsX110, w ∈ wsX11_init := in_pl 14 rfl
  have w7 : (Cond.fieldLink RX11 13 "GreatChunksModel" "tried" "[J").before args s = true := hts _ (List.mem_of_getElem? (i := 6) rfl)
  have w8 : (Cond.fieldLink RX11 16 "GreatChunksModel" "past" "[J").before args s = true := hts _ (List.mem_of_getElem? (i := 7) rfl)
  have w9 : (Cond.fieldLink RX11 19 "GreatChunksModel" "images" "[J").before args s = true := hts _ (List.mem_of_getElem? (i := 8) rfl)
  have w10 : (Cond.arrayClass .boolean).before args s = true := hts _ (List.mem_of_getElem? (i := 9) rfl)
  have w11 : (Cond.fieldLink RX11 22 "GreatChunksModel" "kept" "[Z").before args s = true := hts _ (List.mem_of_getElem? (i := 10) rfl)
  have w12 : (Cond.arrayClass .int).before args s = true := hts _ (List.mem_of_getElem? (i := 11) rfl)
  have w13 : (Cond.fieldLink RX11 26 "GreatChunksModel" "tape" "[I").before args s = true := hts _ (List.mem_of_getElem? (i := 12) rfl)
  have w14 : (Cond.fieldLink RX11 30 "GreatChunksModel" "record" "[I").before args s = true := hts _ (List.mem_of_getElem? (i := 13) rfl)
  refine st_W ha (Nat.le_of_ble_eq_true rfl) (fun ls hl => ?_)
  have hl : lv_has ls 1 [(0, .ref h0)] := hl
  refine lv_aload_n hx hb dX11_init_0 rfl (lv_at hl 0 rfl) ?_
  refine W.objInit hx hb hown w1 w2 w3 rfl (by rw [hml]; exact hl.1) rfl dX11_init_1 (Nat.le_of_ble_eq_true rfl) (Nat.le_of_ble_eq_true rfl) ?_
  refine lv_aload_n hx hb dX11_init_4 rfl (lv_at hl 0 rfl) ?_
  refine lv_sipush (v := 340) hx hb dX11_init_5 rfl ?_
  refine va_newa (atype := .long) (n := 340) (N' := 340) (a0 := (340, .inr (.inl z64))) hx hb w4 rfl hC.1 hP hD hS hA (fun _ => rfl) (by decide) (by decide) (by decide) (Nat.le_of_ble_eq_true rfl) (Nat.le_of_ble_eq_true rfl) dX11_init_8 (fun q1 cA H hK9 hP hD hS => ?_)
  obtain rfl := ar_J hK9
  have hP : va_P E.1 vwCl [(h0, .inr (9, [.null, .null, .null, .int 0, .null, .null, .null, .int 0, .int 0, .int 0, .int 0, .int 0, .int 0, .int 0, .int 0, .null, .int 0])), (q1, .inl (E.2.1 1, 340, .inr (.inl z64)))] H := hP
  have hD : va_D A [(h0, .inr (9, [.null, .null, .null, .int 0, .null, .null, .null, .int 0, .int 0, .int 0, .int 0, .int 0, .int 0, .int 0, .int 0, .null, .int 0])), (q1, .inl (E.2.1 1, 340, .inr (.inl z64)))] := hD
  refine va_putF (D := E.1) (ci := 9) (v := .ref q1) (ty := .array .long) (C := RX11) (T := TX11) (N := 17) hx hb hts w6 tyX11 tyX11_ok nmX11 hown hC.1 hP hD hS 0 rfl rfl 0 (by decide) w5 (fun _ h9 => h9) rfl hin rfl (by decide +kernel) rfl rfl (Nat.le_of_ble_eq_true rfl) dX11_init_10 (fun H locs hP hD hS => ?_)
  have hP : va_P E.1 vwCl [(h0, .inr (9, [.ref q1, .null, .null, .int 0, .null, .null, .null, .int 0, .int 0, .int 0, .int 0, .int 0, .int 0, .int 0, .int 0, .null, .int 0])), (q1, .inl (E.2.1 1, 340, .inr (.inl z64)))] H := hP
  have hD : va_D A [(h0, .inr (9, [.ref q1, .null, .null, .int 0, .null, .null, .null, .int 0, .int 0, .int 0, .int 0, .int 0, .int 0, .int 0, .int 0, .null, .int 0])), (q1, .inl (E.2.1 1, 340, .inr (.inl z64)))] := hD
  refine lv_aload_n hx hb dX11_init_13 rfl (lv_at hl 0 rfl) ?_
  refine lv_sipush (v := 340) hx hb dX11_init_14 rfl ?_
  refine va_newa (atype := .long) (n := 340) (N' := 340) (a0 := (340, .inr (.inl z64))) hx hb w4 rfl hC.1 hP hD hS hA (fun _ => rfl) (by decide) (by decide) (by decide) (Nat.le_of_ble_eq_true rfl) (Nat.le_of_ble_eq_true rfl) dX11_init_17 (fun q2 cA H hK9 hP hD hS => ?_)
  obtain rfl := ar_J hK9
  have hP : va_P E.1 vwCl [(h0, .inr (9, [.ref q1, .null, .null, .int 0, .null, .null, .null, .int 0, .int 0, .int 0, .int 0, .int 0, .int 0, .int 0, .int 0, .null, .int 0])), (q1, .inl (E.2.1 1, 340, .inr (.inl z64))), (q2, .inl (E.2.1 1, 340, .inr (.inl z64)))] H := hP
  have hD : va_D A [(h0, .inr (9, [.ref q1, .null, .null, .int 0, .null, .null, .null, .int 0, .int 0, .int 0, .int 0, .int 0, .int 0, .int 0, .int 0, .null, .int 0])), (q1, .inl (E.2.1 1, 340, .inr (.inl z64))), (q2, .inl (E.2.1 1, 340, .inr (.inl z64)))] := hD
  refine va_putF (D := E.1) (ci := 9) (v := .ref q2) (ty := .array .long) (C := RX11) (T := TX11) (N := 17) hx hb hts w6 tyX11 tyX11_ok nmX11 hown hC.1 hP hD hS 0 rfl rfl 1 (by decide) w7 (fun _ h9 => h9) rfl hin rfl (by decide +kernel) rfl rfl (Nat.le_of_ble_eq_true rfl) dX11_init_19 (fun H locs hP hD hS => ?_)
  have hP : va_P E.1 vwCl [(h0, .inr (9, [.ref q1, .ref q2, .null, .int 0, .null, .null, .null, .int 0, .int 0, .int 0, .int 0, .int 0, .int 0, .int 0, .int 0, .null, .int 0])), (q1, .inl (E.2.1 1, 340, .inr (.inl z64))), (q2, .inl (E.2.1 1, 340, .inr (.inl z64)))] H := hP
  have hD : va_D A [(h0, .inr (9, [.ref q1, .ref q2, .null, .int 0, .null, .null, .null, .int 0, .int 0, .int 0, .int 0, .int 0, .int 0, .int 0, .int 0, .null, .int 0])), (q1, .inl (E.2.1 1, 340, .inr (.inl z64))), (q2, .inl (E.2.1 1, 340, .inr (.inl z64)))] := hD
  refine lv_aload_n hx hb dX11_init_22 rfl (lv_at hl 0 rfl) ?_
  refine lv_sipush (v := 2040) hx hb dX11_init_23 rfl ?_
  refine va_newa (atype := .long) (n := 2040) (N' := 2040) (a0 := (2040, .inr (.inl z64))) hx hb w4 rfl hC.1 hP hD hS hA (fun _ => rfl) (by decide) (by decide) (by decide) (Nat.le_of_ble_eq_true rfl) (Nat.le_of_ble_eq_true rfl) dX11_init_26 (fun q3 cA H hK9 hP hD hS => ?_)
  obtain rfl := ar_J hK9
  have hP : va_P E.1 vwCl [(h0, .inr (9, [.ref q1, .ref q2, .null, .int 0, .null, .null, .null, .int 0, .int 0, .int 0, .int 0, .int 0, .int 0, .int 0, .int 0, .null, .int 0])), (q1, .inl (E.2.1 1, 340, .inr (.inl z64))), (q2, .inl (E.2.1 1, 340, .inr (.inl z64))), (q3, .inl (E.2.1 1, 2040, .inr (.inl z64)))] H := hP
  have hD : va_D A [(h0, .inr (9, [.ref q1, .ref q2, .null, .int 0, .null, .null, .null, .int 0, .int 0, .int 0, .int 0, .int 0, .int 0, .int 0, .int 0, .null, .int 0])), (q1, .inl (E.2.1 1, 340, .inr (.inl z64))), (q2, .inl (E.2.1 1, 340, .inr (.inl z64))), (q3, .inl (E.2.1 1, 2040, .inr (.inl z64)))] := hD
  refine va_putF (D := E.1) (ci := 9) (v := .ref q3) (ty := .array .long) (C := RX11) (T := TX11) (N := 17) hx hb hts w6 tyX11 tyX11_ok nmX11 hown hC.1 hP hD hS 0 rfl rfl 2 (by decide) w8 (fun _ h9 => h9) rfl hin rfl (by decide +kernel) rfl rfl (Nat.le_of_ble_eq_true rfl) dX11_init_28 (fun H locs hP hD hS => ?_)
  have hP : va_P E.1 vwCl [(h0, .inr (9, [.ref q1, .ref q2, .ref q3, .int 0, .null, .null, .null, .int 0, .int 0, .int 0, .int 0, .int 0, .int 0, .int 0, .int 0, .null, .int 0])), (q1, .inl (E.2.1 1, 340, .inr (.inl z64))), (q2, .inl (E.2.1 1, 340, .inr (.inl z64))), (q3, .inl (E.2.1 1, 2040, .inr (.inl z64)))] H := hP
  have hD : va_D A [(h0, .inr (9, [.ref q1, .ref q2, .ref q3, .int 0, .null, .null, .null, .int 0, .int 0, .int 0, .int 0, .int 0, .int 0, .int 0, .int 0, .null, .int 0])), (q1, .inl (E.2.1 1, 340, .inr (.inl z64))), (q2, .inl (E.2.1 1, 340, .inr (.inl z64))), (q3, .inl (E.2.1 1, 2040, .inr (.inl z64)))] := hD
  refine lv_aload_n hx hb dX11_init_31 rfl (lv_at hl 0 rfl) ?_
  refine lv_sipush (v := 680) hx hb dX11_init_32 rfl ?_
  refine va_newa (atype := .long) (n := 680) (N' := 680) (a0 := (680, .inr (.inl z64))) hx hb w4 rfl hC.1 hP hD hS hA (fun _ => rfl) (by decide) (by decide) (by decide) (Nat.le_of_ble_eq_true rfl) (Nat.le_of_ble_eq_true rfl) dX11_init_35 (fun q4 cA H hK9 hP hD hS => ?_)
  obtain rfl := ar_J hK9
  have hP : va_P E.1 vwCl [(h0, .inr (9, [.ref q1, .ref q2, .ref q3, .int 0, .null, .null, .null, .int 0, .int 0, .int 0, .int 0, .int 0, .int 0, .int 0, .int 0, .null, .int 0])), (q1, .inl (E.2.1 1, 340, .inr (.inl z64))), (q2, .inl (E.2.1 1, 340, .inr (.inl z64))), (q3, .inl (E.2.1 1, 2040, .inr (.inl z64))), (q4, .inl (E.2.1 1, 680, .inr (.inl z64)))] H := hP
  have hD : va_D A [(h0, .inr (9, [.ref q1, .ref q2, .ref q3, .int 0, .null, .null, .null, .int 0, .int 0, .int 0, .int 0, .int 0, .int 0, .int 0, .int 0, .null, .int 0])), (q1, .inl (E.2.1 1, 340, .inr (.inl z64))), (q2, .inl (E.2.1 1, 340, .inr (.inl z64))), (q3, .inl (E.2.1 1, 2040, .inr (.inl z64))), (q4, .inl (E.2.1 1, 680, .inr (.inl z64)))] := hD
  refine va_putF (D := E.1) (ci := 9) (v := .ref q4) (ty := .array .long) (C := RX11) (T := TX11) (N := 17) hx hb hts w6 tyX11 tyX11_ok nmX11 hown hC.1 hP hD hS 0 rfl rfl 4 (by decide) w9 (fun _ h9 => h9) rfl hin rfl (by decide +kernel) rfl rfl (Nat.le_of_ble_eq_true rfl) dX11_init_37 (fun H locs hP hD hS => ?_)
  have hP : va_P E.1 vwCl [(h0, .inr (9, [.ref q1, .ref q2, .ref q3, .int 0, .ref q4, .null, .null, .int 0, .int 0, .int 0, .int 0, .int 0, .int 0, .int 0, .int 0, .null, .int 0])), (q1, .inl (E.2.1 1, 340, .inr (.inl z64))), (q2, .inl (E.2.1 1, 340, .inr (.inl z64))), (q3, .inl (E.2.1 1, 2040, .inr (.inl z64))), (q4, .inl (E.2.1 1, 680, .inr (.inl z64)))] H := hP
  have hD : va_D A [(h0, .inr (9, [.ref q1, .ref q2, .ref q3, .int 0, .ref q4, .null, .null, .int 0, .int 0, .int 0, .int 0, .int 0, .int 0, .int 0, .int 0, .null, .int 0])), (q1, .inl (E.2.1 1, 340, .inr (.inl z64))), (q2, .inl (E.2.1 1, 340, .inr (.inl z64))), (q3, .inl (E.2.1 1, 2040, .inr (.inl z64))), (q4, .inl (E.2.1 1, 680, .inr (.inl z64)))] := hD
  refine lv_aload_n hx hb dX11_init_40 rfl (lv_at hl 0 rfl) ?_
  refine lv_iconst (v := 2) hx hb dX11_init_41 rfl ?_
  refine va_newa (atype := .boolean) (n := 2) (N' := 2) (a0 := (2, .inl z32)) hx hb w10 rfl hC.1 hP hD hS hA (fun _ => rfl) (by decide) (by decide) (by decide) (Nat.le_of_ble_eq_true rfl) (Nat.le_of_ble_eq_true rfl) dX11_init_42 (fun q5 cA H hK9 hP hD hS => ?_)
  obtain rfl := ar_Z hK9
  have hP : va_P E.1 vwCl [(h0, .inr (9, [.ref q1, .ref q2, .ref q3, .int 0, .ref q4, .null, .null, .int 0, .int 0, .int 0, .int 0, .int 0, .int 0, .int 0, .int 0, .null, .int 0])), (q1, .inl (E.2.1 1, 340, .inr (.inl z64))), (q2, .inl (E.2.1 1, 340, .inr (.inl z64))), (q3, .inl (E.2.1 1, 2040, .inr (.inl z64))), (q4, .inl (E.2.1 1, 680, .inr (.inl z64))), (q5, .inl (E.2.1 2, 2, .inl z32))] H := hP
  have hD : va_D A [(h0, .inr (9, [.ref q1, .ref q2, .ref q3, .int 0, .ref q4, .null, .null, .int 0, .int 0, .int 0, .int 0, .int 0, .int 0, .int 0, .int 0, .null, .int 0])), (q1, .inl (E.2.1 1, 340, .inr (.inl z64))), (q2, .inl (E.2.1 1, 340, .inr (.inl z64))), (q3, .inl (E.2.1 1, 2040, .inr (.inl z64))), (q4, .inl (E.2.1 1, 680, .inr (.inl z64))), (q5, .inl (E.2.1 2, 2, .inl z32))] := hD
  refine va_putF (D := E.1) (ci := 9) (v := .ref q5) (ty := .array .boolean) (C := RX11) (T := TX11) (N := 17) hx hb hts w6 tyX11 tyX11_ok nmX11 hown hC.1 hP hD hS 0 rfl rfl 5 (by decide) w11 (fun _ h9 => h9) rfl hin rfl (by decide +kernel) rfl rfl (Nat.le_of_ble_eq_true rfl) dX11_init_44 (fun H locs hP hD hS => ?_)
  have hP : va_P E.1 vwCl [(h0, .inr (9, [.ref q1, .ref q2, .ref q3, .int 0, .ref q4, .ref q5, .null, .int 0, .int 0, .int 0, .int 0, .int 0, .int 0, .int 0, .int 0, .null, .int 0])), (q1, .inl (E.2.1 1, 340, .inr (.inl z64))), (q2, .inl (E.2.1 1, 340, .inr (.inl z64))), (q3, .inl (E.2.1 1, 2040, .inr (.inl z64))), (q4, .inl (E.2.1 1, 680, .inr (.inl z64))), (q5, .inl (E.2.1 2, 2, .inl z32))] H := hP
  have hD : va_D A [(h0, .inr (9, [.ref q1, .ref q2, .ref q3, .int 0, .ref q4, .ref q5, .null, .int 0, .int 0, .int 0, .int 0, .int 0, .int 0, .int 0, .int 0, .null, .int 0])), (q1, .inl (E.2.1 1, 340, .inr (.inl z64))), (q2, .inl (E.2.1 1, 340, .inr (.inl z64))), (q3, .inl (E.2.1 1, 2040, .inr (.inl z64))), (q4, .inl (E.2.1 1, 680, .inr (.inl z64))), (q5, .inl (E.2.1 2, 2, .inl z32))] := hD
  refine lv_aload_n hx hb dX11_init_47 rfl (lv_at hl 0 rfl) ?_
  refine lv_bipush (v := 80) hx hb dX11_init_48 rfl ?_
  refine va_newa (atype := .int) (n := 80) (N' := 80) (a0 := (80, .inl z32)) hx hb w12 rfl hC.1 hP hD hS hA (fun _ => rfl) (by decide) (by decide) (by decide) (Nat.le_of_ble_eq_true rfl) (Nat.le_of_ble_eq_true rfl) dX11_init_50 (fun q6 cA H hK9 hP hD hS => ?_)
  obtain rfl := ar_I hK9
  have hP : va_P E.1 vwCl [(h0, .inr (9, [.ref q1, .ref q2, .ref q3, .int 0, .ref q4, .ref q5, .null, .int 0, .int 0, .int 0, .int 0, .int 0, .int 0, .int 0, .int 0, .null, .int 0])), (q1, .inl (E.2.1 1, 340, .inr (.inl z64))), (q2, .inl (E.2.1 1, 340, .inr (.inl z64))), (q3, .inl (E.2.1 1, 2040, .inr (.inl z64))), (q4, .inl (E.2.1 1, 680, .inr (.inl z64))), (q5, .inl (E.2.1 2, 2, .inl z32)), (q6, .inl (E.2.1 0, 80, .inl z32))] H := hP
  have hD : va_D A [(h0, .inr (9, [.ref q1, .ref q2, .ref q3, .int 0, .ref q4, .ref q5, .null, .int 0, .int 0, .int 0, .int 0, .int 0, .int 0, .int 0, .int 0, .null, .int 0])), (q1, .inl (E.2.1 1, 340, .inr (.inl z64))), (q2, .inl (E.2.1 1, 340, .inr (.inl z64))), (q3, .inl (E.2.1 1, 2040, .inr (.inl z64))), (q4, .inl (E.2.1 1, 680, .inr (.inl z64))), (q5, .inl (E.2.1 2, 2, .inl z32)), (q6, .inl (E.2.1 0, 80, .inl z32))] := hD
  refine va_putF (D := E.1) (ci := 9) (v := .ref q6) (ty := .array .int) (C := RX11) (T := TX11) (N := 17) hx hb hts w6 tyX11 tyX11_ok nmX11 hown hC.1 hP hD hS 0 rfl rfl 6 (by decide) w13 (fun _ h9 => h9) rfl hin rfl (by decide +kernel) rfl rfl (Nat.le_of_ble_eq_true rfl) dX11_init_52 (fun H locs hP hD hS => ?_)
  have hP : va_P E.1 vwCl [(h0, .inr (9, [.ref q1, .ref q2, .ref q3, .int 0, .ref q4, .ref q5, .ref q6, .int 0, .int 0, .int 0, .int 0, .int 0, .int 0, .int 0, .int 0, .null, .int 0])), (q1, .inl (E.2.1 1, 340, .inr (.inl z64))), (q2, .inl (E.2.1 1, 340, .inr (.inl z64))), (q3, .inl (E.2.1 1, 2040, .inr (.inl z64))), (q4, .inl (E.2.1 1, 680, .inr (.inl z64))), (q5, .inl (E.2.1 2, 2, .inl z32)), (q6, .inl (E.2.1 0, 80, .inl z32))] H := hP
  have hD : va_D A [(h0, .inr (9, [.ref q1, .ref q2, .ref q3, .int 0, .ref q4, .ref q5, .ref q6, .int 0, .int 0, .int 0, .int 0, .int 0, .int 0, .int 0, .int 0, .null, .int 0])), (q1, .inl (E.2.1 1, 340, .inr (.inl z64))), (q2, .inl (E.2.1 1, 340, .inr (.inl z64))), (q3, .inl (E.2.1 1, 2040, .inr (.inl z64))), (q4, .inl (E.2.1 1, 680, .inr (.inl z64))), (q5, .inl (E.2.1 2, 2, .inl z32)), (q6, .inl (E.2.1 0, 80, .inl z32))] := hD
  refine lv_aload_n hx hb dX11_init_55 rfl (lv_at hl 0 rfl) ?_
  refine lv_bipush (v := 9) hx hb dX11_init_56 rfl ?_
  refine va_newa (atype := .int) (n := 9) (N' := 9) (a0 := (9, .inl z32)) hx hb w12 rfl hC.1 hP hD hS hA (fun _ => rfl) (by decide) (by decide) (by decide) (Nat.le_of_ble_eq_true rfl) (Nat.le_of_ble_eq_true rfl) dX11_init_58 (fun q7 cA H hK9 hP hD hS => ?_)
  obtain rfl := ar_I hK9
  have hP : va_P E.1 vwCl [(h0, .inr (9, [.ref q1, .ref q2, .ref q3, .int 0, .ref q4, .ref q5, .ref q6, .int 0, .int 0, .int 0, .int 0, .int 0, .int 0, .int 0, .int 0, .null, .int 0])), (q1, .inl (E.2.1 1, 340, .inr (.inl z64))), (q2, .inl (E.2.1 1, 340, .inr (.inl z64))), (q3, .inl (E.2.1 1, 2040, .inr (.inl z64))), (q4, .inl (E.2.1 1, 680, .inr (.inl z64))), (q5, .inl (E.2.1 2, 2, .inl z32)), (q6, .inl (E.2.1 0, 80, .inl z32)), (q7, .inl (E.2.1 0, 9, .inl z32))] H := hP
  have hD : va_D A [(h0, .inr (9, [.ref q1, .ref q2, .ref q3, .int 0, .ref q4, .ref q5, .ref q6, .int 0, .int 0, .int 0, .int 0, .int 0, .int 0, .int 0, .int 0, .null, .int 0])), (q1, .inl (E.2.1 1, 340, .inr (.inl z64))), (q2, .inl (E.2.1 1, 340, .inr (.inl z64))), (q3, .inl (E.2.1 1, 2040, .inr (.inl z64))), (q4, .inl (E.2.1 1, 680, .inr (.inl z64))), (q5, .inl (E.2.1 2, 2, .inl z32)), (q6, .inl (E.2.1 0, 80, .inl z32)), (q7, .inl (E.2.1 0, 9, .inl z32))] := hD
  refine va_putF (D := E.1) (ci := 9) (v := .ref q7) (ty := .array .int) (C := RX11) (T := TX11) (N := 17) hx hb hts w6 tyX11 tyX11_ok nmX11 hown hC.1 hP hD hS 0 rfl rfl 15 (by decide) w14 (fun _ h9 => h9) rfl hin rfl (by decide +kernel) rfl rfl (Nat.le_of_ble_eq_true rfl) dX11_init_60 (fun H locs hP hD hS => ?_)
  have hP : va_P E.1 vwCl [(h0, .inr (9, [.ref q1, .ref q2, .ref q3, .int 0, .ref q4, .ref q5, .ref q6, .int 0, .int 0, .int 0, .int 0, .int 0, .int 0, .int 0, .int 0, .ref q7, .int 0])), (q1, .inl (E.2.1 1, 340, .inr (.inl z64))), (q2, .inl (E.2.1 1, 340, .inr (.inl z64))), (q3, .inl (E.2.1 1, 2040, .inr (.inl z64))), (q4, .inl (E.2.1 1, 680, .inr (.inl z64))), (q5, .inl (E.2.1 2, 2, .inl z32)), (q6, .inl (E.2.1 0, 80, .inl z32)), (q7, .inl (E.2.1 0, 9, .inl z32))] H := hP
  have hD : va_D A [(h0, .inr (9, [.ref q1, .ref q2, .ref q3, .int 0, .ref q4, .ref q5, .ref q6, .int 0, .int 0, .int 0, .int 0, .int 0, .int 0, .int 0, .int 0, .ref q7, .int 0])), (q1, .inl (E.2.1 1, 340, .inr (.inl z64))), (q2, .inl (E.2.1 1, 340, .inr (.inl z64))), (q3, .inl (E.2.1 1, 2040, .inr (.inl z64))), (q4, .inl (E.2.1 1, 680, .inr (.inl z64))), (q5, .inl (E.2.1 2, 2, .inl z32)), (q6, .inl (E.2.1 0, 80, .inl z32)), (q7, .inl (E.2.1 0, 9, .inl z32))] := hD
  refine W.widen (k := 7) (n := 3491) (Nat.le_of_ble_eq_true rfl) (Nat.le_of_ble_eq_true rfl) ?_
  exact ei_v (a := (fun k => ([h0, q1, q2, q3, q4, q5, q6, q7] : List Nat).getD k 0)) (wf := (fun a => wMD E a (z64, z64, z64, 0, z64, z32, z32, 0, 0, 0, 0, 0, 0, 0, 0, z32, 0))) hx hb hr hlocks rfl (hP.sub [0, 1, 2, 3, 4, 5, 6, 7] rfl) (hD.sub [0, 1, 2, 3, 4, 5, 6, 7] rfl rfl) hS dX11_init_63
