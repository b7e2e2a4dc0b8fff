/-! X3_clear -/
abbrev rmX3_clear : Room := { frames := 0, cells := 0, slots := 0, locals := 0 }
theorem hdS_X3_clear : yX3_clear.cls ≠ "java/lang/invoke/MethodHandle" ∧ yX3_clear.cls ≠ "java/lang/invoke/VarHandle" ∧ (parseMethodDescriptor yX3_clear.desc).map (fun d => d.parameters.length) = some 0 := by decide +kernel
theorem hdV_X3_clear : yX3_clear.cls = RX3 ∧ yX3_clear.cls ≠ "java/lang/invoke/MethodHandle" ∧ yX3_clear.cls ≠ "java/lang/invoke/VarHandle" ∧ (parseMethodDescriptor yX3_clear.desc).map (fun d => d.parameters.length) = some 0 := ⟨rfl, hdS_X3_clear⟩
set_option maxHeartbeats 4000000 in
set_option maxRecDepth 100000 in
theorem c_X3_clear (l : Launch) (E : G0) (sz : Nat) (a0 : Nat → Nat) (v0 : FL) (x : FL) (hf : f_X3_clear v0 = some x) : Met l yX3_clear wsX3_clear rmX3_clear (va_Pc [.ref (a0 0)] (PW E (wFL E a0 v0) sz)) (va_Qv (fun q => q = x) (fun q t => va_P E.1 vwCl ((fun q : FL => wFL E a0 q) q) t.heap ∧ va_D (va_A (wFL E a0 v0) sz) ((fun q : FL => wFL E a0 q) q)) (va_A (wFL E a0 v0) sz)) 0 0 (va_A (wFL E a0 v0) sz) := by
  refine Met.ofW (cc := cX3_clear) (maxL := 2) (ret := none) (by decide) rfl ?_
  intro p e s m args below meth c s₁ B hml hv
  obtain ⟨ha, hsz, hP, hD0, hC⟩ := hv
  have hx := B.exec
  have hb := B.bytes
  have hr := B.returns
  have hts := atoms_spec (ws := wsX3_clear) B.pre
  have hown : s.vm.findClass RX3 = some m.cls := findClass_of_methodNamed B.named
  have hlocks := B.notSynchronized
  subst hsz
  have hD := hD0.self (sz := s.heap.size)
  generalize hAe : va_A (wFL E a0 v0) s.heap.size = A at hD hC ⊢
  have hA : ∀ q : Nat, s.heap.size ≤ q → A q := fun q h => by rw [← hAe]; exact Or.inr h
  have hS : va_S A s.heap s.heap [] := va_S.rf
  have w1 : (Cond.fieldLink RX3 9 "GreatChunks$Files" "how" "[I").before args s = true := hts _ (List.mem_of_getElem? (i := 1) rfl)
  have w2 : ∀ w ∈ wsX30, w ∈ wsX3_clear := in_pl 3 rfl
  have w3 : (Cond.fieldLink RX3 21 "GreatChunks$Files" "many" "[I").before args s = true := hts _ (List.mem_of_getElem? (i := 2) rfl)
  generalize hQe : MQ below (va_Qv (fun q => q = x) (fun q t => va_P E.1 vwCl ((fun q : FL => wFL E a0 q) q) t.heap ∧ va_D A ((fun q : FL => wFL E a0 q) q)) A) args s 0 0 A = Q
  refine st_W ha (Nat.le_of_ble_eq_true rfl) (fun ls hl => ?_)
  have hl : lv_has ls 2 [(0, .ref (a0 0))] := hl
  unfold f_X3_clear at hf
  refine lv_iconst (v := 0) hx hb dX3_clear_0 rfl ?_
  refine lv_istore_n (lv' := [(1, .int (0 : Int32)), (0, .ref (a0 0))]) hx hb dX3_clear_1 rfl hl (by decide) rfl (fun ls hl => ?_)
  obtain ⟨K1, hK1, hf⟩ := jn_some hf
  have J1 : ∀ (q1 : Int32 × FL) (H : Heap) (locs : List Loc) (hP : va_P E.1 vwCl (wFL E a0 q1.2) H) (hD : va_D A (wFL E a0 q1.2)) (hS : va_S A s.heap H locs) (ls : Array Slot) (hl : lv_has ls 2 []) (hf : K1 q1 = some x), W p l e (headSpec wsX3_clear rmX3_clear).room s m args below meth c H locs 0 0 Q (F0 m 28 ls []) := by
    intro q1 H locs hP hD hS ls hl hf
    have hf := (hK1 q1).trans hf
    cases Option.some.inj hf
    subst hQe
    exact ew_v (wf := (fun q : FL => wFL E a0 q)) hx hb hr hlocks hP hD hS dX3_clear_28
  have L1 : ∀ (n : Nat) (q1 : Int32 × FL) (H : Heap) (locs : List Loc) (hP : va_P E.1 vwCl (wFL E a0 q1.2) H) (hD : va_D A (wFL E a0 q1.2)) (hS : va_S A s.heap H locs) (ls : Array Slot) (hl : lv_has ls 2 [(0, .ref (a0 0)), (1, .int q1.1)]) (hf : lpF (bX3_clear_1 K1) n q1 = some x), W p l e (headSpec wsX3_clear rmX3_clear).room s m args below meth c H locs 0 0 Q (F0 m 2 ls []) := by
    intro n
    induction n with
    | zero => intro q1 H locs hP hD hS ls hl hf; exact (lpF_zero hf).elim
    | succ n ih1 =>
      intro q1 H locs hP hD hS ls hl hf
      have hf := lpF_succ hf
      unfold bX3_clear_1 at hf
      refine lv_iload_n hx hb dX3_clear_2 rfl (lv_at hl 1 rfl) ?_
      refine lv_bipush (v := 6) hx hb dX3_clear_3 rfl ?_
      refine lv_icmp_ge (tgt := 28) hx hb dX3_clear_5 rfl (fun c2 => ?_) (fun c2 => ?_)
      · have hf := it_t hf c2
        exact J1 (q1.1, q1.2) H locs hP hD hS ls (lv_sub hl [] rfl) hf
      · have hf := it_f hf c2
        refine lv_aload_n hx hb dX3_clear_8 rfl (lv_at hl 0 rfl) ?_
        refine va_get (D := E.1) (ci := 3) (v := .ref (a0 1)) (C := RX3) (T := TX3) (N := 5) hx hb hts w2 hown hC.1 hP 0 rfl rfl 0 (by decide) w1 (fun _ h9 => h9) rfl dX3_clear_9 ?_
        refine lv_iload_n hx hb dX3_clear_12 rfl (lv_at hl 1 rfl) ?_
        refine lv_iconst (v := 0) hx hb dX3_clear_13 rfl ?_
        obtain ⟨h3, hf⟩ := gdI_some hf
        refine va_iast hx hb hC.1 hP hD hS 1 0 rfl rfl h3 dX3_clear_14 (fun H locs hP hD hS => ?_)
        have hP : va_P E.1 vwCl (wFL E a0 ((upd q1.2.1 q1.1.toNatClampNeg (0 : Int32)), q1.2.2.1, q1.2.2.2.1, q1.2.2.2.2.1, q1.2.2.2.2.2)) H := hP
        have hD : va_D A (wFL E a0 ((upd q1.2.1 q1.1.toNatClampNeg (0 : Int32)), q1.2.2.1, q1.2.2.2.1, q1.2.2.2.2.1, q1.2.2.2.2.2)) := hD
        refine lv_aload_n hx hb dX3_clear_15 rfl (lv_at hl 0 rfl) ?_
        refine va_get (D := E.1) (ci := 3) (v := .ref (a0 4)) (C := RX3) (T := TX3) (N := 5) hx hb hts w2 hown hC.1 hP 0 rfl rfl 3 (by decide) w3 (fun _ h9 => h9) rfl dX3_clear_16 ?_
        refine lv_iload_n hx hb dX3_clear_19 rfl (lv_at hl 1 rfl) ?_
        refine lv_iconst (v := 0) hx hb dX3_clear_20 rfl ?_
        obtain ⟨h4, hf⟩ := gdI_some hf
        refine va_iast hx hb hC.1 hP hD hS 4 0 rfl rfl h4 dX3_clear_21 (fun H locs hP hD hS => ?_)
        have hP : va_P E.1 vwCl (wFL E a0 ((upd q1.2.1 q1.1.toNatClampNeg (0 : Int32)), q1.2.2.1, q1.2.2.2.1, (upd q1.2.2.2.2.1 q1.1.toNatClampNeg (0 : Int32)), q1.2.2.2.2.2)) H := hP
        have hD : va_D A (wFL E a0 ((upd q1.2.1 q1.1.toNatClampNeg (0 : Int32)), q1.2.2.1, q1.2.2.2.1, (upd q1.2.2.2.2.1 q1.1.toNatClampNeg (0 : Int32)), q1.2.2.2.2.2)) := hD
        refine lv_iinc (v := (q1.1 + 1)) (lv' := [(1, .int (q1.1 + 1)), (0, .ref (a0 0))]) hx hb dX3_clear_22 hl (k := 1) rfl rfl (by decide) rfl (fun ls hl => ?_)
        refine lv_goto (tgt := 2) hx hb dX3_clear_25 rfl ?_
        exact ih1 ((q1.1 + 1), ((upd q1.2.1 q1.1.toNatClampNeg (0 : Int32)), q1.2.2.1, q1.2.2.2.1, (upd q1.2.2.2.2.1 q1.1.toNatClampNeg (0 : Int32)), q1.2.2.2.2.2)) H locs hP hD hS ls (lv_sub hl [1, 0] rfl) hf
  exact L1 FU ((0 : Int32), v0) s.heap [] hP hD hS ls (lv_sub hl [1, 0] rfl) hf

/-! X3_become -/
abbrev rmX3_become : Room := { frames := 1, cells := 0, slots := 0, locals := 60 }
theorem hdS_X3_become : yX3_become.cls ≠ "java/lang/invoke/MethodHandle" ∧ yX3_become.cls ≠ "java/lang/invoke/VarHandle" ∧ (parseMethodDescriptor yX3_become.desc).map (fun d => d.parameters.length) = some 1 := by decide +kernel
theorem hdV_X3_become : yX3_become.cls = RX3 ∧ yX3_become.cls ≠ "java/lang/invoke/MethodHandle" ∧ yX3_become.cls ≠ "java/lang/invoke/VarHandle" ∧ (parseMethodDescriptor yX3_become.desc).map (fun d => d.parameters.length) = some 1 := ⟨rfl, hdS_X3_become⟩
set_option maxHeartbeats 4000000 in
set_option maxRecDepth 100000 in
theorem c_X3_become (l : Launch) (E : G0) (sz : Nat) (a0 : Nat → Nat) (v0 : FL) (a1 : Nat → Nat) (v1 : FL) (x : FL) (hf : f_X3_become v0 v1 = some x) : Met l yX3_become wsX3_become rmX3_become (va_Pc [.ref (a0 0), .ref (a1 0)] (PW E (wFL E a0 v0 ++ wFL E a1 v1) sz)) (va_Qv (fun q => q = x) (fun q t => va_P E.1 vwCl ((fun q : FL => wFL E a0 q ++ wFL E a1 v1) q) t.heap ∧ va_D (va_A (wFL E a0 v0 ++ wFL E a1 v1) sz) ((fun q : FL => wFL E a0 q ++ wFL E a1 v1) q)) (va_A (wFL E a0 v0 ++ wFL E a1 v1) sz)) 0 0 (va_A (wFL E a0 v0 ++ wFL E a1 v1) sz) := by
  refine Met.ofW (cc := cX3_become) (maxL := 2) (ret := none) (by decide) rfl ?_
  intro p e s m args below meth c s₁ B hml hv
  obtain ⟨ha, hsz, hP, hD0, hC⟩ := hv
  have hx := B.exec
  have hb := B.bytes
  have hr := B.returns
  have hts := atoms_spec (ws := wsX3_become) B.pre
  have hown : s.vm.findClass RX3 = some m.cls := findClass_of_methodNamed B.named
  have hlocks := B.notSynchronized
  subst hsz
  have hD := hD0.self (sz := s.heap.size)
  generalize hAe : va_A (wFL E a0 v0 ++ wFL E a1 v1) s.heap.size = A at hD hC ⊢
  have hA : ∀ q : Nat, s.heap.size ≤ q → A q := fun q h => by rw [← hAe]; exact Or.inr h
  have hS : va_S A s.heap s.heap [] := va_S.rf
  have w1 : (Cond.fieldLink RX3 9 "GreatChunks$Files" "how" "[I").before args s = true := hts _ (List.mem_of_getElem? (i := 1) rfl)
  have w2 : ∀ w ∈ wsX30, w ∈ wsX3_become := in_pl 10 rfl
  have w3 : (Cond.methodLink RX3 27 arraycopyName).before args s = true := hts _ (List.mem_of_getElem? (i := 2) rfl)
  have w4 : (Cond.native arraycopyName).before args s = true := hts _ (List.mem_of_getElem? (i := 3) rfl)
  have w5 : (Cond.static arraycopyName).before args s = true := hts _ (List.mem_of_getElem? (i := 4) rfl)
  have w6 : (Cond.initialized "java/lang/System").before args s = true := hts _ (List.mem_of_getElem? (i := 5) rfl)
  have w7 : (Cond.fieldLink RX3 15 "GreatChunks$Files" "kind" "[I").before args s = true := hts _ (List.mem_of_getElem? (i := 6) rfl)
  have w8 : (Cond.fieldLink RX3 18 "GreatChunks$Files" "since" "[I").before args s = true := hts _ (List.mem_of_getElem? (i := 7) rfl)
  have w9 : (Cond.fieldLink RX3 21 "GreatChunks$Files" "many" "[I").before args s = true := hts _ (List.mem_of_getElem? (i := 8) rfl)
  have w10 : (Cond.fieldLink RX3 24 "GreatChunks$Files" "chunk" "[I").before args s = true := hts _ (List.mem_of_getElem? (i := 9) rfl)
  generalize hQe : MQ below (va_Qv (fun q => q = x) (fun q t => va_P E.1 vwCl ((fun q : FL => wFL E a0 q ++ wFL E a1 v1) q) t.heap ∧ va_D A ((fun q : FL => wFL E a0 q ++ wFL E a1 v1) q)) A) args s 0 0 A = Q
  refine st_W ha (Nat.le_of_ble_eq_true rfl) (fun ls hl => ?_)
  have hl : lv_has ls 2 [(0, .ref (a0 0)), (1, .ref (a1 0))] := hl
  unfold f_X3_become at hf
  refine lv_aload_n hx hb dX3_become_0 rfl (lv_at hl 1 rfl) ?_
  refine va_get (D := E.1) (ci := 3) (v := .ref (a1 1)) (C := RX3) (T := TX3) (N := 5) hx hb hts w2 hown hC.1 hP 6 rfl rfl 0 (by decide) w1 (fun _ h9 => h9) rfl dX3_become_1 ?_
  refine lv_iconst (v := 0) hx hb dX3_become_4 rfl ?_
  refine lv_aload_n hx hb dX3_become_5 rfl (lv_at hl 0 rfl) ?_
  refine va_get (D := E.1) (ci := 3) (v := .ref (a0 1)) (C := RX3) (T := TX3) (N := 5) hx hb hts w2 hown hC.1 hP 0 rfl rfl 0 (by decide) w1 (fun _ h9 => h9) rfl dX3_become_6 ?_
  refine lv_iconst (v := 0) hx hb dX3_become_9 rfl ?_
  refine lv_bipush (v := 6) hx hb dX3_become_10 rfl ?_
  refine va_copyi hx hb (by rw [hml]; exact hl.1.symm) hown w3 w4 w5 w6 hC.1 hP hD hS 7 1 0 0 rfl rfl rfl rfl rfl (by decide) (by decide) (by decide) (by decide) (by decide) (fun _ _ => rfl) (Nat.le_of_ble_eq_true rfl) (by decide) dX3_become_12 (fun H locs hP hD hS => ?_)
  have hP : va_P E.1 vwCl (wFL E a0 ((va_cpy v1.1 v0.1 (0 : Int32).toNatClampNeg (0 : Int32).toNatClampNeg (6 : Int32).toNatClampNeg), v0.2.1, v0.2.2.1, v0.2.2.2.1, v0.2.2.2.2) ++ wFL E a1 v1) H := hP
  have hD : va_D A (wFL E a0 ((va_cpy v1.1 v0.1 (0 : Int32).toNatClampNeg (0 : Int32).toNatClampNeg (6 : Int32).toNatClampNeg), v0.2.1, v0.2.2.1, v0.2.2.2.1, v0.2.2.2.2) ++ wFL E a1 v1) := hD
  refine lv_aload_n hx hb dX3_become_15 rfl (lv_at hl 1 rfl) ?_
  refine va_get (D := E.1) (ci := 3) (v := .ref (a1 2)) (C := RX3) (T := TX3) (N := 5) hx hb hts w2 hown hC.1 hP 6 rfl rfl 1 (by decide) w7 (fun _ h9 => h9) rfl dX3_become_16 ?_
  refine lv_iconst (v := 0) hx hb dX3_become_19 rfl ?_
  refine lv_aload_n hx hb dX3_become_20 rfl (lv_at hl 0 rfl) ?_
  refine va_get (D := E.1) (ci := 3) (v := .ref (a0 2)) (C := RX3) (T := TX3) (N := 5) hx hb hts w2 hown hC.1 hP 0 rfl rfl 1 (by decide) w7 (fun _ h9 => h9) rfl dX3_become_21 ?_
  refine lv_iconst (v := 0) hx hb dX3_become_24 rfl ?_
  refine lv_bipush (v := 6) hx hb dX3_become_25 rfl ?_
  refine va_copyi hx hb (by rw [hml]; exact hl.1.symm) hown w3 w4 w5 w6 hC.1 hP hD hS 8 2 0 0 rfl rfl rfl rfl rfl (by decide) (by decide) (by decide) (by decide) (by decide) (fun _ _ => rfl) (Nat.le_of_ble_eq_true rfl) (by decide) dX3_become_27 (fun H locs hP hD hS => ?_)
  have hP : va_P E.1 vwCl (wFL E a0 ((va_cpy v1.1 v0.1 (0 : Int32).toNatClampNeg (0 : Int32).toNatClampNeg (6 : Int32).toNatClampNeg), (va_cpy v1.2.1 v0.2.1 (0 : Int32).toNatClampNeg (0 : Int32).toNatClampNeg (6 : Int32).toNatClampNeg), v0.2.2.1, v0.2.2.2.1, v0.2.2.2.2) ++ wFL E a1 v1) H := hP
  have hD : va_D A (wFL E a0 ((va_cpy v1.1 v0.1 (0 : Int32).toNatClampNeg (0 : Int32).toNatClampNeg (6 : Int32).toNatClampNeg), (va_cpy v1.2.1 v0.2.1 (0 : Int32).toNatClampNeg (0 : Int32).toNatClampNeg (6 : Int32).toNatClampNeg), v0.2.2.1, v0.2.2.2.1, v0.2.2.2.2) ++ wFL E a1 v1) := hD
  refine lv_aload_n hx hb dX3_become_30 rfl (lv_at hl 1 rfl) ?_
  refine va_get (D := E.1) (ci := 3) (v := .ref (a1 3)) (C := RX3) (T := TX3) (N := 5) hx hb hts w2 hown hC.1 hP 6 rfl rfl 2 (by decide) w8 (fun _ h9 => h9) rfl dX3_become_31 ?_
  refine lv_iconst (v := 0) hx hb dX3_become_34 rfl ?_
  refine lv_aload_n hx hb dX3_become_35 rfl (lv_at hl 0 rfl) ?_
  refine va_get (D := E.1) (ci := 3) (v := .ref (a0 3)) (C := RX3) (T := TX3) (N := 5) hx hb hts w2 hown hC.1 hP 0 rfl rfl 2 (by decide) w8 (fun _ h9 => h9) rfl dX3_become_36 ?_
  refine lv_iconst (v := 0) hx hb dX3_become_39 rfl ?_
  refine lv_bipush (v := 6) hx hb dX3_become_40 rfl ?_
  refine va_copyi hx hb (by rw [hml]; exact hl.1.symm) hown w3 w4 w5 w6 hC.1 hP hD hS 9 3 0 0 rfl rfl rfl rfl rfl (by decide) (by decide) (by decide) (by decide) (by decide) (fun _ _ => rfl) (Nat.le_of_ble_eq_true rfl) (by decide) dX3_become_42 (fun H locs hP hD hS => ?_)
  have hP : va_P E.1 vwCl (wFL E a0 ((va_cpy v1.1 v0.1 (0 : Int32).toNatClampNeg (0 : Int32).toNatClampNeg (6 : Int32).toNatClampNeg), (va_cpy v1.2.1 v0.2.1 (0 : Int32).toNatClampNeg (0 : Int32).toNatClampNeg (6 : Int32).toNatClampNeg), (va_cpy v1.2.2.1 v0.2.2.1 (0 : Int32).toNatClampNeg (0 : Int32).toNatClampNeg (6 : Int32).toNatClampNeg), v0.2.2.2.1, v0.2.2.2.2) ++ wFL E a1 v1) H := hP
  have hD : va_D A (wFL E a0 ((va_cpy v1.1 v0.1 (0 : Int32).toNatClampNeg (0 : Int32).toNatClampNeg (6 : Int32).toNatClampNeg), (va_cpy v1.2.1 v0.2.1 (0 : Int32).toNatClampNeg (0 : Int32).toNatClampNeg (6 : Int32).toNatClampNeg), (va_cpy v1.2.2.1 v0.2.2.1 (0 : Int32).toNatClampNeg (0 : Int32).toNatClampNeg (6 : Int32).toNatClampNeg), v0.2.2.2.1, v0.2.2.2.2) ++ wFL E a1 v1) := hD
  refine lv_aload_n hx hb dX3_become_45 rfl (lv_at hl 1 rfl) ?_
  refine va_get (D := E.1) (ci := 3) (v := .ref (a1 4)) (C := RX3) (T := TX3) (N := 5) hx hb hts w2 hown hC.1 hP 6 rfl rfl 3 (by decide) w9 (fun _ h9 => h9) rfl dX3_become_46 ?_
  refine lv_iconst (v := 0) hx hb dX3_become_49 rfl ?_
  refine lv_aload_n hx hb dX3_become_50 rfl (lv_at hl 0 rfl) ?_
  refine va_get (D := E.1) (ci := 3) (v := .ref (a0 4)) (C := RX3) (T := TX3) (N := 5) hx hb hts w2 hown hC.1 hP 0 rfl rfl 3 (by decide) w9 (fun _ h9 => h9) rfl dX3_become_51 ?_
  refine lv_iconst (v := 0) hx hb dX3_become_54 rfl ?_
  refine lv_bipush (v := 6) hx hb dX3_become_55 rfl ?_
  refine va_copyi hx hb (by rw [hml]; exact hl.1.symm) hown w3 w4 w5 w6 hC.1 hP hD hS 10 4 0 0 rfl rfl rfl rfl rfl (by decide) (by decide) (by decide) (by decide) (by decide) (fun _ _ => rfl) (Nat.le_of_ble_eq_true rfl) (by decide) dX3_become_57 (fun H locs hP hD hS => ?_)
  have hP : va_P E.1 vwCl (wFL E a0 ((va_cpy v1.1 v0.1 (0 : Int32).toNatClampNeg (0 : Int32).toNatClampNeg (6 : Int32).toNatClampNeg), (va_cpy v1.2.1 v0.2.1 (0 : Int32).toNatClampNeg (0 : Int32).toNatClampNeg (6 : Int32).toNatClampNeg), (va_cpy v1.2.2.1 v0.2.2.1 (0 : Int32).toNatClampNeg (0 : Int32).toNatClampNeg (6 : Int32).toNatClampNeg), (va_cpy v1.2.2.2.1 v0.2.2.2.1 (0 : Int32).toNatClampNeg (0 : Int32).toNatClampNeg (6 : Int32).toNatClampNeg), v0.2.2.2.2) ++ wFL E a1 v1) H := hP
  have hD : va_D A (wFL E a0 ((va_cpy v1.1 v0.1 (0 : Int32).toNatClampNeg (0 : Int32).toNatClampNeg (6 : Int32).toNatClampNeg), (va_cpy v1.2.1 v0.2.1 (0 : Int32).toNatClampNeg (0 : Int32).toNatClampNeg (6 : Int32).toNatClampNeg), (va_cpy v1.2.2.1 v0.2.2.1 (0 : Int32).toNatClampNeg (0 : Int32).toNatClampNeg (6 : Int32).toNatClampNeg), (va_cpy v1.2.2.2.1 v0.2.2.2.1 (0 : Int32).toNatClampNeg (0 : Int32).toNatClampNeg (6 : Int32).toNatClampNeg), v0.2.2.2.2) ++ wFL E a1 v1) := hD
  refine lv_aload_n hx hb dX3_become_60 rfl (lv_at hl 1 rfl) ?_
  refine va_get (D := E.1) (ci := 3) (v := .ref (a1 5)) (C := RX3) (T := TX3) (N := 5) hx hb hts w2 hown hC.1 hP 6 rfl rfl 4 (by decide) w10 (fun _ h9 => h9) rfl dX3_become_61 ?_
  refine lv_iconst (v := 0) hx hb dX3_become_64 rfl ?_
  refine lv_aload_n hx hb dX3_become_65 rfl (lv_at hl 0 rfl) ?_
  refine va_get (D := E.1) (ci := 3) (v := .ref (a0 5)) (C := RX3) (T := TX3) (N := 5) hx hb hts w2 hown hC.1 hP 0 rfl rfl 4 (by decide) w10 (fun _ h9 => h9) rfl dX3_become_66 ?_
  refine lv_iconst (v := 0) hx hb dX3_become_69 rfl ?_
  refine lv_aload_n hx hb dX3_become_70 rfl (lv_at hl 0 rfl) ?_
  refine va_get (D := E.1) (ci := 3) (v := .ref (a0 5)) (C := RX3) (T := TX3) (N := 5) hx hb hts w2 hown hC.1 hP 0 rfl rfl 4 (by decide) w10 (fun _ h9 => h9) rfl dX3_become_71 ?_
  refine va_alen (v := Int32.ofNat 24) hx hb hC.1 hP 5 0 rfl rfl rfl dX3_become_74 ?_
  refine va_copyi hx hb (by rw [hml]; exact hl.1.symm) hown w3 w4 w5 w6 hC.1 hP hD hS 11 5 0 0 rfl rfl rfl rfl rfl (by decide) (by decide) (by decide) (by decide) (by decide) (fun _ _ => rfl) (Nat.le_of_ble_eq_true rfl) (by decide) dX3_become_75 (fun H locs hP hD hS => ?_)
  have hP : va_P E.1 vwCl (wFL E a0 ((va_cpy v1.1 v0.1 (0 : Int32).toNatClampNeg (0 : Int32).toNatClampNeg (6 : Int32).toNatClampNeg), (va_cpy v1.2.1 v0.2.1 (0 : Int32).toNatClampNeg (0 : Int32).toNatClampNeg (6 : Int32).toNatClampNeg), (va_cpy v1.2.2.1 v0.2.2.1 (0 : Int32).toNatClampNeg (0 : Int32).toNatClampNeg (6 : Int32).toNatClampNeg), (va_cpy v1.2.2.2.1 v0.2.2.2.1 (0 : Int32).toNatClampNeg (0 : Int32).toNatClampNeg (6 : Int32).toNatClampNeg), (va_cpy v1.2.2.2.2 v0.2.2.2.2 (0 : Int32).toNatClampNeg (0 : Int32).toNatClampNeg (Int32.ofNat 24).toNatClampNeg)) ++ wFL E a1 v1) H := hP
  have hD : va_D A (wFL E a0 ((va_cpy v1.1 v0.1 (0 : Int32).toNatClampNeg (0 : Int32).toNatClampNeg (6 : Int32).toNatClampNeg), (va_cpy v1.2.1 v0.2.1 (0 : Int32).toNatClampNeg (0 : Int32).toNatClampNeg (6 : Int32).toNatClampNeg), (va_cpy v1.2.2.1 v0.2.2.1 (0 : Int32).toNatClampNeg (0 : Int32).toNatClampNeg (6 : Int32).toNatClampNeg), (va_cpy v1.2.2.2.1 v0.2.2.2.1 (0 : Int32).toNatClampNeg (0 : Int32).toNatClampNeg (6 : Int32).toNatClampNeg), (va_cpy v1.2.2.2.2 v0.2.2.2.2 (0 : Int32).toNatClampNeg (0 : Int32).toNatClampNeg (Int32.ofNat 24).toNatClampNeg)) ++ wFL E a1 v1) := hD
  cases Option.some.inj hf
  subst hQe
  exact ew_v (wf := (fun q : FL => wFL E a0 q ++ wFL E a1 v1)) hx hb hr hlocks hP hD hS dX3_become_78

/-! X3_is -/
abbrev rmX3_is : Room := { frames := 2, cells := 0, slots := 0, locals := 42 }
theorem hdS_X3_is : yX3_is.cls ≠ "java/lang/invoke/MethodHandle" ∧ yX3_is.cls ≠ "java/lang/invoke/VarHandle" ∧ (parseMethodDescriptor yX3_is.desc).map (fun d => d.parameters.length) = some 2 := by decide +kernel
theorem hdV_X3_is : yX3_is.cls = RX3 ∧ yX3_is.cls ≠ "java/lang/invoke/MethodHandle" ∧ yX3_is.cls ≠ "java/lang/invoke/VarHandle" ∧ (parseMethodDescriptor yX3_is.desc).map (fun d => d.parameters.length) = some 2 := ⟨rfl, hdS_X3_is⟩
set_option maxHeartbeats 4000000 in
set_option maxRecDepth 100000 in
theorem c_X3_is (l : Launch) (E : G0) (a0 : Nat → Nat) (v0 : FL) (p1 : Int32) (p2 : Int32) (x : Bool) (hf : f_X3_is v0 p1 p2 = some x) : Met l yX3_is wsX3_is rmX3_is (va_Pc [.ref (a0 0), .int p1, .int p2] (PR E (wFL E a0 v0))) (vp_Si (fun r => r = bI x)) 0 0 (fun _ => False) := by
  refine Met.ofW (cc := cX3_is) (maxL := 3) (ret := some .boolean) (by decide) rfl ?_
  intro p e s m args below meth c s₁ B hml hv
  obtain ⟨ha, hP, hC⟩ := hv
  have hx := B.exec
  have hb := B.bytes
  have hr := B.returns
  have hts := atoms_spec (ws := wsX3_is) B.pre
  have hown : s.vm.findClass RX3 = some m.cls := findClass_of_methodNamed B.named
  have hlocks := B.notSynchronized
  have hS : va_S (fun _ => False) s.heap s.heap [] := va_S.rf
  have w1 : (Cond.initialized RX10).before args s = true := hts _ (List.mem_of_getElem? (i := 3) rfl)
  have w2 : (Cond.static yX10_isFile).before args s = true := hts _ (List.mem_of_getElem? (i := 2) rfl)
  have w3 : (Cond.fieldLink RX3 9 "GreatChunks$Files" "how" "[I").before args s = true := hts _ (List.mem_of_getElem? (i := 1) rfl)
  have w4 : ∀ w ∈ wsX30, w ∈ wsX3_is := in_pl 8 rfl
  generalize hQe : MQ below (vp_Si (fun r => r = bI x)) args s 0 0 (fun _ => False) = Q
  refine st_W ha (Nat.le_of_ble_eq_true rfl) (fun ls hl => ?_)
  have hl : lv_has ls 3 [(0, .ref (a0 0)), (1, .int p1), (2, .int p2)] := hl
  unfold f_X3_is at hf
  refine lv_iload_n hx hb dX3_is_0 rfl (lv_at hl 1 rfl) ?_
  refine cr_i (va_runSN (As := [.int p1]) (rest := []) ⟨hx, hb, hml, hown, hts⟩ (c_X10_isFile l E p1 _ rfl) ⟨va_cnB 1 hts gX3_is_X10_isFile_n33 rfl rfl rfl (hC.2.1 (RX3, 33, yX10_isFile, RX10) (List.mem_of_getElem? (i := 9) rfl)) w1 hdS_X10_isFile ⟨Nat.le_of_ble_eq_true rfl, Nat.le_of_ble_eq_true rfl⟩, w2, trivial⟩ ⟨PR.blind, PR.pre hC hS (hP.sub [] rfl)⟩ rfl rfl hl.1 rfl (lv_room (Nat.le_of_ble_eq_true rfl)) dX3_is_1 ⟨Nat.le_of_ble_eq_true rfl, Nat.le_of_ble_eq_true rfl⟩) ?_
  refine lv_if_eq (tgt := 21) hx hb dX3_is_4 rfl (fun c1 => ?_) (fun c1 => ?_)
  · have hf := it_t hf c1
    refine lv_iconst (v := 0) hx hb dX3_is_21 rfl ?_
    cases Option.some.inj hf
    subst hQe
    exact en_z hx hb hr hlocks rfl dX3_is_22
  · have hf := it_f hf c1
    refine lv_aload_n hx hb dX3_is_7 rfl (lv_at hl 0 rfl) ?_
    refine va_get (D := E.1) (ci := 3) (v := .ref (a0 1)) (C := RX3) (T := TX3) (N := 5) hx hb hts w4 hown hC.1 hP 0 rfl rfl 0 (by decide) w3 (fun _ h9 => h9) rfl dX3_is_8 ?_
    refine lv_iload_n hx hb dX3_is_11 rfl (lv_at hl 1 rfl) ?_
    obtain ⟨h2, hf⟩ := gdI_some hf
    refine va_iald hx hb hC.1 hP 1 0 rfl rfl h2 dX3_is_12 ?_
    refine lv_iload_n hx hb dX3_is_13 rfl (lv_at hl 2 rfl) ?_
    refine lv_icmp_ne (tgt := 21) hx hb dX3_is_14 rfl (fun c3 => ?_) (fun c3 => ?_)
    · have hf := it_f hf c3
      refine lv_iconst (v := 0) hx hb dX3_is_21 rfl ?_
      cases Option.some.inj hf
      subst hQe
      exact en_z hx hb hr hlocks rfl dX3_is_22
    · have hf := it_t hf c3
      refine lv_iconst (v := 1) hx hb dX3_is_17 rfl ?_
      refine lv_goto (tgt := 22) hx hb dX3_is_18 rfl ?_
      cases Option.some.inj hf
      subst hQe
      exact en_z hx hb hr hlocks rfl dX3_is_22

/-! X3_manyOf -/
abbrev rmX3_manyOf : Room := { frames := 0, cells := 0, slots := 0, locals := 0 }
theorem hdS_X3_manyOf : yX3_manyOf.cls ≠ "java/lang/invoke/MethodHandle" ∧ yX3_manyOf.cls ≠ "java/lang/invoke/VarHandle" ∧ (parseMethodDescriptor yX3_manyOf.desc).map (fun d => d.parameters.length) = some 1 := by decide +kernel
theorem hdV_X3_manyOf : yX3_manyOf.cls = RX3 ∧ yX3_manyOf.cls ≠ "java/lang/invoke/MethodHandle" ∧ yX3_manyOf.cls ≠ "java/lang/invoke/VarHandle" ∧ (parseMethodDescriptor yX3_manyOf.desc).map (fun d => d.parameters.length) = some 1 := ⟨rfl, hdS_X3_manyOf⟩
set_option maxHeartbeats 4000000 in
set_option maxRecDepth 100000 in
theorem c_X3_manyOf (l : Launch) (E : G0) (a0 : Nat → Nat) (v0 : FL) (p1 : Int32) (x : Int32) (hf : f_X3_manyOf v0 p1 = some x) : Met l yX3_manyOf wsX3_manyOf rmX3_manyOf (va_Pc [.ref (a0 0), .int p1] (PR E (wFL E a0 v0))) (vp_Si (fun r => r = x)) 0 0 (fun _ => False) := by
  refine Met.ofW (cc := cX3_manyOf) (maxL := 4) (ret := some .int) (by decide) rfl ?_
  intro p e s m args below meth c s₁ B hml hv
  obtain ⟨ha, hP, hC⟩ := hv
  have hx := B.exec
  have hb := B.bytes
  have hr := B.returns
  have hts := atoms_spec (ws := wsX3_manyOf) B.pre
  have hown : s.vm.findClass RX3 = some m.cls := findClass_of_methodNamed B.named
  have hlocks := B.notSynchronized
  have hS : va_S (fun _ => False) s.heap s.heap [] := va_S.rf
  have w1 : (Cond.fieldLink RX3 9 "GreatChunks$Files" "how" "[I").before args s = true := hts _ (List.mem_of_getElem? (i := 1) rfl)
  have w2 : ∀ w ∈ wsX30, w ∈ wsX3_manyOf := in_pl 2 rfl
  generalize hQe : MQ below (vp_Si (fun r => r = x)) args s 0 0 (fun _ => False) = Q
  refine st_W ha (Nat.le_of_ble_eq_true rfl) (fun ls hl => ?_)
  have hl : lv_has ls 4 [(0, .ref (a0 0)), (1, .int p1)] := hl
  unfold f_X3_manyOf at hf
  refine lv_iconst (v := 0) hx hb dX3_manyOf_0 rfl ?_
  refine lv_istore_n (lv' := [(2, .int (0 : Int32)), (0, .ref (a0 0)), (1, .int p1)]) hx hb dX3_manyOf_1 rfl hl (by decide) rfl (fun ls hl => ?_)
  refine lv_iconst (v := 0) hx hb dX3_manyOf_2 rfl ?_
  refine lv_istore_n (lv' := [(3, .int (0 : Int32)), (2, .int (0 : Int32)), (0, .ref (a0 0)), (1, .int p1)]) hx hb dX3_manyOf_3 rfl hl (by decide) rfl (fun ls hl => ?_)
  obtain ⟨K1, hK1, hf⟩ := jn_some hf
  have J1 : ∀ (q1 : Int32 × Int32) (ls : Array Slot) (hl : lv_has ls 4 [(2, .int q1.1)]) (hf : K1 q1 = some x), W p l e (headSpec wsX3_manyOf rmX3_manyOf).room s m args below meth c s.heap [] 0 0 Q (F0 m 34 ls []) := by
    intro q1 ls hl hf
    have hf := (hK1 q1).trans hf
    refine lv_iload_n hx hb dX3_manyOf_34 rfl (lv_at hl 0 rfl) ?_
    cases Option.some.inj hf
    subst hQe
    exact en_i hx hb hr hlocks dX3_manyOf_35
  have L1 : ∀ (n : Nat) (q1 : Int32 × Int32) (ls : Array Slot) (hl : lv_has ls 4 [(0, .ref (a0 0)), (1, .int p1), (2, .int q1.1), (3, .int q1.2)]) (hf : lpF (bX3_manyOf_1 v0 p1 K1) n q1 = some x), W p l e (headSpec wsX3_manyOf rmX3_manyOf).room s m args below meth c s.heap [] 0 0 Q (F0 m 4 ls []) := by
    intro n
    induction n with
    | zero => intro q1 ls hl hf; exact (lpF_zero hf).elim
    | succ n ih1 =>
      intro q1 ls hl hf
      have hf := lpF_succ hf
      unfold bX3_manyOf_1 at hf
      refine lv_iload_n hx hb dX3_manyOf_4 rfl (lv_at hl 3 rfl) ?_
      refine lv_bipush (v := 6) hx hb dX3_manyOf_5 rfl ?_
      refine lv_icmp_ge (tgt := 34) hx hb dX3_manyOf_7 rfl (fun c2 => ?_) (fun c2 => ?_)
      · have hf := it_t hf c2
        exact J1 (q1.1, q1.2) ls (lv_sub hl [2] rfl) hf
      · have hf := it_f hf c2
        refine lv_iload_n hx hb dX3_manyOf_10 rfl (lv_at hl 2 rfl) ?_
        refine lv_aload_n hx hb dX3_manyOf_11 rfl (lv_at hl 0 rfl) ?_
        refine va_get (D := E.1) (ci := 3) (v := .ref (a0 1)) (C := RX3) (T := TX3) (N := 5) hx hb hts w2 hown hC.1 hP 0 rfl rfl 0 (by decide) w1 (fun _ h9 => h9) rfl dX3_manyOf_12 ?_
        refine lv_iload_n hx hb dX3_manyOf_15 rfl (lv_at hl 3 rfl) ?_
        obtain ⟨h3, hf⟩ := gdI_some hf
        refine va_iald hx hb hC.1 hP 1 0 rfl rfl h3 dX3_manyOf_16 ?_
        refine lv_iload_n hx hb dX3_manyOf_17 rfl (lv_at hl 1 rfl) ?_
        refine lv_icmp_ne (tgt := 25) hx hb dX3_manyOf_18 rfl (fun c4 => ?_) (fun c4 => ?_)
        · have hf := it_f hf c4
          refine lv_iconst (v := 0) hx hb dX3_manyOf_25 rfl ?_
          refine lv_iadd hx hb dX3_manyOf_26 ?_
          refine lv_istore_n (lv' := [(2, .int (q1.1 + (0 : Int32))), (0, .ref (a0 0)), (1, .int p1), (3, .int q1.2)]) hx hb dX3_manyOf_27 rfl hl (by decide) rfl (fun ls hl => ?_)
          refine lv_iinc (v := (q1.2 + 1)) (lv' := [(3, .int (q1.2 + 1)), (2, .int (q1.1 + (0 : Int32))), (0, .ref (a0 0)), (1, .int p1)]) hx hb dX3_manyOf_28 hl (k := 3) rfl rfl (by decide) rfl (fun ls hl => ?_)
          refine lv_goto (tgt := 4) hx hb dX3_manyOf_31 rfl ?_
          exact ih1 ((q1.1 + (0 : Int32)), (q1.2 + 1)) ls (lv_sub hl [2, 3, 1, 0] rfl) hf
        · have hf := it_t hf c4
          refine lv_iconst (v := 1) hx hb dX3_manyOf_21 rfl ?_
          refine lv_goto (tgt := 26) hx hb dX3_manyOf_22 rfl ?_
          refine lv_iadd hx hb dX3_manyOf_26 ?_
          refine lv_istore_n (lv' := [(2, .int (q1.1 + (1 : Int32))), (0, .ref (a0 0)), (1, .int p1), (3, .int q1.2)]) hx hb dX3_manyOf_27 rfl hl (by decide) rfl (fun ls hl => ?_)
          refine lv_iinc (v := (q1.2 + 1)) (lv' := [(3, .int (q1.2 + 1)), (2, .int (q1.1 + (1 : Int32))), (0, .ref (a0 0)), (1, .int p1)]) hx hb dX3_manyOf_28 hl (k := 3) rfl rfl (by decide) rfl (fun ls hl => ?_)
          refine lv_goto (tgt := 4) hx hb dX3_manyOf_31 rfl ?_
          exact ih1 ((q1.1 + (1 : Int32)), (q1.2 + 1)) ls (lv_sub hl [2, 3, 1, 0] rfl) hf
  exact L1 FU ((0 : Int32), (0 : Int32)) ls (lv_sub hl [2, 3, 1, 0] rfl) hf

/-! X3_begin -/
abbrev rmX3_begin : Room := { frames := 2, cells := 0, slots := 0, locals := 42 }
theorem hdS_X3_begin : yX3_begin.cls ≠ "java/lang/invoke/MethodHandle" ∧ yX3_begin.cls ≠ "java/lang/invoke/VarHandle" ∧ (parseMethodDescriptor yX3_begin.desc).map (fun d => d.parameters.length) = some 2 := by decide +kernel
theorem hdV_X3_begin : yX3_begin.cls = RX3 ∧ yX3_begin.cls ≠ "java/lang/invoke/MethodHandle" ∧ yX3_begin.cls ≠ "java/lang/invoke/VarHandle" ∧ (parseMethodDescriptor yX3_begin.desc).map (fun d => d.parameters.length) = some 2 := ⟨rfl, hdS_X3_begin⟩
set_option maxHeartbeats 4000000 in
set_option maxRecDepth 100000 in
theorem c_X3_begin (l : Launch) (E : G0) (sz : Nat) (a0 : Nat → Nat) (v0 : FL) (p1 : Int32) (p2 : Int32) (x : FL) (hf : f_X3_begin v0 p1 p2 = some x) : Met l yX3_begin wsX3_begin rmX3_begin (va_Pc [.ref (a0 0), .int p1, .int p2] (PW E (wFL E a0 v0) sz)) (va_Qv (fun q => q = x) (fun q t => va_P E.1 vwCl ((fun q : FL => wFL E a0 q) q) t.heap ∧ va_D (va_A (wFL E a0 v0) sz) ((fun q : FL => wFL E a0 q) q)) (va_A (wFL E a0 v0) sz)) 0 0 (va_A (wFL E a0 v0) sz) := by
  refine Met.ofW (cc := cX3_begin) (maxL := 3) (ret := none) (by decide) rfl ?_
  intro p e s m args below meth c s₁ B hml hv
  obtain ⟨ha, hsz, hP, hD0, hC⟩ := hv
  have hx := B.exec
  have hb := B.bytes
  have hr := B.returns
  have hts := atoms_spec (ws := wsX3_begin) B.pre
  have hown : s.vm.findClass RX3 = some m.cls := findClass_of_methodNamed B.named
  have hlocks := B.notSynchronized
  subst hsz
  have hD := hD0.self (sz := s.heap.size)
  generalize hAe : va_A (wFL E a0 v0) s.heap.size = A at hD hC ⊢
  have hA : ∀ q : Nat, s.heap.size ≤ q → A q := fun q h => by rw [← hAe]; exact Or.inr h
  have hS : va_S A s.heap s.heap [] := va_S.rf
  have w1 : (Cond.initialized RX10).before args s = true := hts _ (List.mem_of_getElem? (i := 5) rfl)
  have w2 : (Cond.static yX10_isFile).before args s = true := hts _ (List.mem_of_getElem? (i := 4) rfl)
  have w3 : (Cond.fieldLink RX3 9 "GreatChunks$Files" "how" "[I").before args s = true := hts _ (List.mem_of_getElem? (i := 1) rfl)
  have w4 : ∀ w ∈ wsX30, w ∈ wsX3_begin := in_pl 10 rfl
  have w5 : (Cond.fieldLink RX3 15 "GreatChunks$Files" "kind" "[I").before args s = true := hts _ (List.mem_of_getElem? (i := 2) rfl)
  have w6 : (Cond.fieldLink RX3 21 "GreatChunks$Files" "many" "[I").before args s = true := hts _ (List.mem_of_getElem? (i := 3) rfl)
  generalize hQe : MQ below (va_Qv (fun q => q = x) (fun q t => va_P E.1 vwCl ((fun q : FL => wFL E a0 q) q) t.heap ∧ va_D A ((fun q : FL => wFL E a0 q) q)) A) args s 0 0 A = Q
  refine st_W ha (Nat.le_of_ble_eq_true rfl) (fun ls hl => ?_)
  have hl : lv_has ls 3 [(0, .ref (a0 0)), (1, .int p1), (2, .int p2)] := hl
  unfold f_X3_begin at hf
  refine lv_iload_n hx hb dX3_begin_0 rfl (lv_at hl 1 rfl) ?_
  refine cr_i (va_runSN (As := [.int p1]) (rest := []) ⟨hx, hb, hml, hown, hts⟩ (c_X10_isFile l E p1 _ rfl) ⟨va_cnB 1 hts gX3_begin_X10_isFile_n33 rfl rfl rfl (hC.2.1 (RX3, 33, yX10_isFile, RX10) (List.mem_of_getElem? (i := 9) rfl)) w1 hdS_X10_isFile ⟨Nat.le_of_ble_eq_true rfl, Nat.le_of_ble_eq_true rfl⟩, w2, trivial⟩ ⟨PR.blind, PR.pre hC hS (hP.sub [] rfl)⟩ rfl rfl hl.1 rfl (lv_room (Nat.le_of_ble_eq_true rfl)) dX3_begin_1 ⟨Nat.le_of_ble_eq_true rfl, Nat.le_of_ble_eq_true rfl⟩) ?_
  refine lv_if_eq (tgt := 28) hx hb dX3_begin_4 rfl (fun c1 => ?_) (fun c1 => ?_)
  · have hf := it_t hf c1
    cases Option.some.inj hf
    subst hQe
    exact ew_v (wf := (fun q : FL => wFL E a0 q)) hx hb hr hlocks hP hD hS dX3_begin_28
  · have hf := it_f hf c1
    refine lv_aload_n hx hb dX3_begin_7 rfl (lv_at hl 0 rfl) ?_
    refine va_get (D := E.1) (ci := 3) (v := .ref (a0 1)) (C := RX3) (T := TX3) (N := 5) hx hb hts w4 hown hC.1 hP 0 rfl rfl 0 (by decide) w3 (fun _ h9 => h9) rfl dX3_begin_8 ?_
    refine lv_iload_n hx hb dX3_begin_11 rfl (lv_at hl 1 rfl) ?_
    refine lv_iconst (v := 1) hx hb dX3_begin_12 rfl ?_
    obtain ⟨h2, hf⟩ := gdI_some hf
    refine va_iast hx hb hC.1 hP hD hS 1 0 rfl rfl h2 dX3_begin_13 (fun H locs hP hD hS => ?_)
    have hP : va_P E.1 vwCl (wFL E a0 ((upd v0.1 p1.toNatClampNeg (1 : Int32)), v0.2.1, v0.2.2.1, v0.2.2.2.1, v0.2.2.2.2)) H := hP
    have hD : va_D A (wFL E a0 ((upd v0.1 p1.toNatClampNeg (1 : Int32)), v0.2.1, v0.2.2.1, v0.2.2.2.1, v0.2.2.2.2)) := hD
    refine lv_aload_n hx hb dX3_begin_14 rfl (lv_at hl 0 rfl) ?_
    refine va_get (D := E.1) (ci := 3) (v := .ref (a0 2)) (C := RX3) (T := TX3) (N := 5) hx hb hts w4 hown hC.1 hP 0 rfl rfl 1 (by decide) w5 (fun _ h9 => h9) rfl dX3_begin_15 ?_
    refine lv_iload_n hx hb dX3_begin_18 rfl (lv_at hl 1 rfl) ?_
    refine lv_iload_n hx hb dX3_begin_19 rfl (lv_at hl 2 rfl) ?_
    obtain ⟨h3, hf⟩ := gdI_some hf
    refine va_iast hx hb hC.1 hP hD hS 2 0 rfl rfl h3 dX3_begin_20 (fun H locs hP hD hS => ?_)
    have hP : va_P E.1 vwCl (wFL E a0 ((upd v0.1 p1.toNatClampNeg (1 : Int32)), (upd v0.2.1 p1.toNatClampNeg p2), v0.2.2.1, v0.2.2.2.1, v0.2.2.2.2)) H := hP
    have hD : va_D A (wFL E a0 ((upd v0.1 p1.toNatClampNeg (1 : Int32)), (upd v0.2.1 p1.toNatClampNeg p2), v0.2.2.1, v0.2.2.2.1, v0.2.2.2.2)) := hD
    refine lv_aload_n hx hb dX3_begin_21 rfl (lv_at hl 0 rfl) ?_
    refine va_get (D := E.1) (ci := 3) (v := .ref (a0 4)) (C := RX3) (T := TX3) (N := 5) hx hb hts w4 hown hC.1 hP 0 rfl rfl 3 (by decide) w6 (fun _ h9 => h9) rfl dX3_begin_22 ?_
    refine lv_iload_n hx hb dX3_begin_25 rfl (lv_at hl 1 rfl) ?_
    refine lv_iconst (v := 0) hx hb dX3_begin_26 rfl ?_
    obtain ⟨h4, hf⟩ := gdI_some hf
    refine va_iast hx hb hC.1 hP hD hS 4 0 rfl rfl h4 dX3_begin_27 (fun H locs hP hD hS => ?_)
    have hP : va_P E.1 vwCl (wFL E a0 ((upd v0.1 p1.toNatClampNeg (1 : Int32)), (upd v0.2.1 p1.toNatClampNeg p2), v0.2.2.1, (upd v0.2.2.2.1 p1.toNatClampNeg (0 : Int32)), v0.2.2.2.2)) H := hP
    have hD : va_D A (wFL E a0 ((upd v0.1 p1.toNatClampNeg (1 : Int32)), (upd v0.2.1 p1.toNatClampNeg p2), v0.2.2.1, (upd v0.2.2.2.1 p1.toNatClampNeg (0 : Int32)), v0.2.2.2.2)) := hD
    cases Option.some.inj hf
    subst hQe
    exact ew_v (wf := (fun q : FL => wFL E a0 q)) hx hb hr hlocks hP hD hS dX3_begin_28

/-! X3_hide -/
abbrev rmX3_hide : Room := { frames := 2, cells := 0, slots := 0, locals := 42 }
theorem hdS_X3_hide : yX3_hide.cls ≠ "java/lang/invoke/MethodHandle" ∧ yX3_hide.cls ≠ "java/lang/invoke/VarHandle" ∧ (parseMethodDescriptor yX3_hide.desc).map (fun d => d.parameters.length) = some 2 := by decide +kernel
theorem hdV_X3_hide : yX3_hide.cls = RX3 ∧ yX3_hide.cls ≠ "java/lang/invoke/MethodHandle" ∧ yX3_hide.cls ≠ "java/lang/invoke/VarHandle" ∧ (parseMethodDescriptor yX3_hide.desc).map (fun d => d.parameters.length) = some 2 := ⟨rfl, hdS_X3_hide⟩
set_option maxHeartbeats 4000000 in
set_option maxRecDepth 100000 in
theorem c_X3_hide (l : Launch) (E : G0) (sz : Nat) (a0 : Nat → Nat) (v0 : FL) (p1 : Int32) (p2 : Int32) (x : FL) (hf : f_X3_hide v0 p1 p2 = some x) : Met l yX3_hide wsX3_hide rmX3_hide (va_Pc [.ref (a0 0), .int p1, .int p2] (PW E (wFL E a0 v0) sz)) (va_Qv (fun q => q = x) (fun q t => va_P E.1 vwCl ((fun q : FL => wFL E a0 q) q) t.heap ∧ va_D (va_A (wFL E a0 v0) sz) ((fun q : FL => wFL E a0 q) q)) (va_A (wFL E a0 v0) sz)) 0 0 (va_A (wFL E a0 v0) sz) := by
  refine Met.ofW (cc := cX3_hide) (maxL := 3) (ret := none) (by decide) rfl ?_
  intro p e s m args below meth c s₁ B hml hv
  obtain ⟨ha, hsz, hP, hD0, hC⟩ := hv
  have hx := B.exec
  have hb := B.bytes
  have hr := B.returns
  have hts := atoms_spec (ws := wsX3_hide) B.pre
  have hown : s.vm.findClass RX3 = some m.cls := findClass_of_methodNamed B.named
  have hlocks := B.notSynchronized
  subst hsz
  have hD := hD0.self (sz := s.heap.size)
  generalize hAe : va_A (wFL E a0 v0) s.heap.size = A at hD hC ⊢
  have hA : ∀ q : Nat, s.heap.size ≤ q → A q := fun q h => by rw [← hAe]; exact Or.inr h
  have hS : va_S A s.heap s.heap [] := va_S.rf
  have w1 : (Cond.initialized RX10).before args s = true := hts _ (List.mem_of_getElem? (i := 4) rfl)
  have w2 : (Cond.static yX10_isFile).before args s = true := hts _ (List.mem_of_getElem? (i := 3) rfl)
  have w3 : (Cond.fieldLink RX3 9 "GreatChunks$Files" "how" "[I").before args s = true := hts _ (List.mem_of_getElem? (i := 1) rfl)
  have w4 : ∀ w ∈ wsX30, w ∈ wsX3_hide := in_pl 9 rfl
  have w5 : (Cond.fieldLink RX3 18 "GreatChunks$Files" "since" "[I").before args s = true := hts _ (List.mem_of_getElem? (i := 2) rfl)
  generalize hQe : MQ below (va_Qv (fun q => q = x) (fun q t => va_P E.1 vwCl ((fun q : FL => wFL E a0 q) q) t.heap ∧ va_D A ((fun q : FL => wFL E a0 q) q)) A) args s 0 0 A = Q
  refine st_W ha (Nat.le_of_ble_eq_true rfl) (fun ls hl => ?_)
  have hl : lv_has ls 3 [(0, .ref (a0 0)), (1, .int p1), (2, .int p2)] := hl
  unfold f_X3_hide at hf
  refine lv_iload_n hx hb dX3_hide_0 rfl (lv_at hl 1 rfl) ?_
  refine cr_i (va_runSN (As := [.int p1]) (rest := []) ⟨hx, hb, hml, hown, hts⟩ (c_X10_isFile l E p1 _ rfl) ⟨va_cnB 1 hts gX3_hide_X10_isFile_n33 rfl rfl rfl (hC.2.1 (RX3, 33, yX10_isFile, RX10) (List.mem_of_getElem? (i := 9) rfl)) w1 hdS_X10_isFile ⟨Nat.le_of_ble_eq_true rfl, Nat.le_of_ble_eq_true rfl⟩, w2, trivial⟩ ⟨PR.blind, PR.pre hC hS (hP.sub [] rfl)⟩ rfl rfl hl.1 rfl (lv_room (Nat.le_of_ble_eq_true rfl)) dX3_hide_1 ⟨Nat.le_of_ble_eq_true rfl, Nat.le_of_ble_eq_true rfl⟩) ?_
  refine lv_if_eq (tgt := 21) hx hb dX3_hide_4 rfl (fun c1 => ?_) (fun c1 => ?_)
  · have hf := it_t hf c1
    cases Option.some.inj hf
    subst hQe
    exact ew_v (wf := (fun q : FL => wFL E a0 q)) hx hb hr hlocks hP hD hS dX3_hide_21
  · have hf := it_f hf c1
    refine lv_aload_n hx hb dX3_hide_7 rfl (lv_at hl 0 rfl) ?_
    refine va_get (D := E.1) (ci := 3) (v := .ref (a0 1)) (C := RX3) (T := TX3) (N := 5) hx hb hts w4 hown hC.1 hP 0 rfl rfl 0 (by decide) w3 (fun _ h9 => h9) rfl dX3_hide_8 ?_
    refine lv_iload_n hx hb dX3_hide_11 rfl (lv_at hl 1 rfl) ?_
    refine lv_iconst (v := 2) hx hb dX3_hide_12 rfl ?_
    obtain ⟨h2, hf⟩ := gdI_some hf
    refine va_iast hx hb hC.1 hP hD hS 1 0 rfl rfl h2 dX3_hide_13 (fun H locs hP hD hS => ?_)
    have hP : va_P E.1 vwCl (wFL E a0 ((upd v0.1 p1.toNatClampNeg (2 : Int32)), v0.2.1, v0.2.2.1, v0.2.2.2.1, v0.2.2.2.2)) H := hP
    have hD : va_D A (wFL E a0 ((upd v0.1 p1.toNatClampNeg (2 : Int32)), v0.2.1, v0.2.2.1, v0.2.2.2.1, v0.2.2.2.2)) := hD
    refine lv_aload_n hx hb dX3_hide_14 rfl (lv_at hl 0 rfl) ?_
    refine va_get (D := E.1) (ci := 3) (v := .ref (a0 3)) (C := RX3) (T := TX3) (N := 5) hx hb hts w4 hown hC.1 hP 0 rfl rfl 2 (by decide) w5 (fun _ h9 => h9) rfl dX3_hide_15 ?_
    refine lv_iload_n hx hb dX3_hide_18 rfl (lv_at hl 1 rfl) ?_
    refine lv_iload_n hx hb dX3_hide_19 rfl (lv_at hl 2 rfl) ?_
    obtain ⟨h3, hf⟩ := gdI_some hf
    refine va_iast hx hb hC.1 hP hD hS 3 0 rfl rfl h3 dX3_hide_20 (fun H locs hP hD hS => ?_)
    have hP : va_P E.1 vwCl (wFL E a0 ((upd v0.1 p1.toNatClampNeg (2 : Int32)), v0.2.1, (upd v0.2.2.1 p1.toNatClampNeg p2), v0.2.2.2.1, v0.2.2.2.2)) H := hP
    have hD : va_D A (wFL E a0 ((upd v0.1 p1.toNatClampNeg (2 : Int32)), v0.2.1, (upd v0.2.2.1 p1.toNatClampNeg p2), v0.2.2.2.1, v0.2.2.2.2)) := hD
    cases Option.some.inj hf
    subst hQe
    exact ew_v (wf := (fun q : FL => wFL E a0 q)) hx hb hr hlocks hP hD hS dX3_hide_21

/-! X3_showAgain -/
abbrev rmX3_showAgain : Room := { frames := 2, cells := 0, slots := 0, locals := 42 }
theorem hdS_X3_showAgain : yX3_showAgain.cls ≠ "java/lang/invoke/MethodHandle" ∧ yX3_showAgain.cls ≠ "java/lang/invoke/VarHandle" ∧ (parseMethodDescriptor yX3_showAgain.desc).map (fun d => d.parameters.length) = some 1 := by decide +kernel
theorem hdV_X3_showAgain : yX3_showAgain.cls = RX3 ∧ yX3_showAgain.cls ≠ "java/lang/invoke/MethodHandle" ∧ yX3_showAgain.cls ≠ "java/lang/invoke/VarHandle" ∧ (parseMethodDescriptor yX3_showAgain.desc).map (fun d => d.parameters.length) = some 1 := ⟨rfl, hdS_X3_showAgain⟩
set_option maxHeartbeats 4000000 in
set_option maxRecDepth 100000 in
theorem c_X3_showAgain (l : Launch) (E : G0) (sz : Nat) (a0 : Nat → Nat) (v0 : FL) (p1 : Int32) (x : Int32 × FL) (hf : f_X3_showAgain v0 p1 = some x) : Met l yX3_showAgain wsX3_showAgain rmX3_showAgain (va_Pc [.ref (a0 0), .int p1] (PW E (wFL E a0 v0) sz)) (va_Qi (fun r q => r = x.1 ∧ q = x.2) (fun q t => va_P E.1 vwCl ((fun q : FL => wFL E a0 q) q) t.heap ∧ va_D (va_A (wFL E a0 v0) sz) ((fun q : FL => wFL E a0 q) q)) (va_A (wFL E a0 v0) sz)) 0 0 (va_A (wFL E a0 v0) sz) := by
  refine Met.ofW (cc := cX3_showAgain) (maxL := 2) (ret := some .int) (by decide) rfl ?_
  intro p e s m args below meth c s₁ B hml hv
  obtain ⟨ha, hsz, hP, hD0, hC⟩ := hv
  have hx := B.exec
  have hb := B.bytes
  have hr := B.returns
  have hts := atoms_spec (ws := wsX3_showAgain) B.pre
  have hown : s.vm.findClass RX3 = some m.cls := findClass_of_methodNamed B.named
  have hlocks := B.notSynchronized
  subst hsz
  have hD := hD0.self (sz := s.heap.size)
  generalize hAe : va_A (wFL E a0 v0) s.heap.size = A at hD hC ⊢
  have hA : ∀ q : Nat, s.heap.size ≤ q → A q := fun q h => by rw [← hAe]; exact Or.inr h
  have hS : va_S A s.heap s.heap [] := va_S.rf
  have w1 : (Cond.initialized RX10).before args s = true := hts _ (List.mem_of_getElem? (i := 5) rfl)
  have w2 : (Cond.static yX10_isFile).before args s = true := hts _ (List.mem_of_getElem? (i := 4) rfl)
  have w3 : (Cond.constant RX3 37 (-1000000)).before args s = true := hts _ (List.mem_of_getElem? (i := 1) rfl)
  have w4 : (Cond.fieldLink RX3 9 "GreatChunks$Files" "how" "[I").before args s = true := hts _ (List.mem_of_getElem? (i := 2) rfl)
  have w5 : ∀ w ∈ wsX30, w ∈ wsX3_showAgain := in_pl 10 rfl
  have w6 : (Cond.fieldLink RX3 18 "GreatChunks$Files" "since" "[I").before args s = true := hts _ (List.mem_of_getElem? (i := 3) rfl)
  generalize hQe : MQ below (va_Qi (fun r q => r = x.1 ∧ q = x.2) (fun q t => va_P E.1 vwCl ((fun q : FL => wFL E a0 q) q) t.heap ∧ va_D A ((fun q : FL => wFL E a0 q) q)) A) args s 0 0 A = Q
  refine st_W ha (Nat.le_of_ble_eq_true rfl) (fun ls hl => ?_)
  have hl : lv_has ls 2 [(0, .ref (a0 0)), (1, .int p1)] := hl
  unfold f_X3_showAgain at hf
  refine lv_iload_n hx hb dX3_showAgain_0 rfl (lv_at hl 1 rfl) ?_
  refine cr_i (va_runSN (As := [.int p1]) (rest := []) ⟨hx, hb, hml, hown, hts⟩ (c_X10_isFile l E p1 _ rfl) ⟨va_cnB 1 hts gX3_showAgain_X10_isFile_n33 rfl rfl rfl (hC.2.1 (RX3, 33, yX10_isFile, RX10) (List.mem_of_getElem? (i := 9) rfl)) w1 hdS_X10_isFile ⟨Nat.le_of_ble_eq_true rfl, Nat.le_of_ble_eq_true rfl⟩, w2, trivial⟩ ⟨PR.blind, PR.pre hC hS (hP.sub [] rfl)⟩ rfl rfl hl.1 rfl (lv_room (Nat.le_of_ble_eq_true rfl)) dX3_showAgain_1 ⟨Nat.le_of_ble_eq_true rfl, Nat.le_of_ble_eq_true rfl⟩) ?_
  refine lv_if_ne (tgt := 10) hx hb dX3_showAgain_4 rfl (fun c1 => ?_) (fun c1 => ?_)
  · have hf := it_f hf c1
    refine lv_aload_n hx hb dX3_showAgain_10 rfl (lv_at hl 0 rfl) ?_
    refine va_get (D := E.1) (ci := 3) (v := .ref (a0 1)) (C := RX3) (T := TX3) (N := 5) hx hb hts w5 hown hC.1 hP 0 rfl rfl 0 (by decide) w4 (fun _ h9 => h9) rfl dX3_showAgain_11 ?_
    refine lv_iload_n hx hb dX3_showAgain_14 rfl (lv_at hl 1 rfl) ?_
    refine lv_iconst (v := 1) hx hb dX3_showAgain_15 rfl ?_
    obtain ⟨h2, hf⟩ := gdI_some hf
    refine va_iast hx hb hC.1 hP hD hS 1 0 rfl rfl h2 dX3_showAgain_16 (fun H locs hP hD hS => ?_)
    have hP : va_P E.1 vwCl (wFL E a0 ((upd v0.1 p1.toNatClampNeg (1 : Int32)), v0.2.1, v0.2.2.1, v0.2.2.2.1, v0.2.2.2.2)) H := hP
    have hD : va_D A (wFL E a0 ((upd v0.1 p1.toNatClampNeg (1 : Int32)), v0.2.1, v0.2.2.1, v0.2.2.2.1, v0.2.2.2.2)) := hD
    refine lv_aload_n hx hb dX3_showAgain_17 rfl (lv_at hl 0 rfl) ?_
    refine va_get (D := E.1) (ci := 3) (v := .ref (a0 3)) (C := RX3) (T := TX3) (N := 5) hx hb hts w5 hown hC.1 hP 0 rfl rfl 2 (by decide) w6 (fun _ h9 => h9) rfl dX3_showAgain_18 ?_
    refine lv_iload_n hx hb dX3_showAgain_21 rfl (lv_at hl 1 rfl) ?_
    obtain ⟨h3, hf⟩ := gdI_some hf
    refine va_iald hx hb hC.1 hP 3 0 rfl rfl h3 dX3_showAgain_22 ?_
    cases Option.some.inj hf
    subst hQe
    exact ew_i (wf := (fun q : FL => wFL E a0 q)) hx hb hr hlocks hP hD hS dX3_showAgain_23
  · have hf := it_t hf c1
    refine lv_ldc hx hb hown w3 dX3_showAgain_7 ?_
    cases Option.some.inj hf
    subst hQe
    exact ew_i (wf := (fun q : FL => wFL E a0 q)) hx hb hr hlocks hP hD hS dX3_showAgain_9

/-! X3_end -/
abbrev rmX3_end : Room := { frames := 2, cells := 0, slots := 0, locals := 42 }
theorem hdS_X3_end : yX3_end.cls ≠ "java/lang/invoke/MethodHandle" ∧ yX3_end.cls ≠ "java/lang/invoke/VarHandle" ∧ (parseMethodDescriptor yX3_end.desc).map (fun d => d.parameters.length) = some 1 := by decide +kernel
theorem hdV_X3_end : yX3_end.cls = RX3 ∧ yX3_end.cls ≠ "java/lang/invoke/MethodHandle" ∧ yX3_end.cls ≠ "java/lang/invoke/VarHandle" ∧ (parseMethodDescriptor yX3_end.desc).map (fun d => d.parameters.length) = some 1 := ⟨rfl, hdS_X3_end⟩
set_option maxHeartbeats 4000000 in
set_option maxRecDepth 100000 in
theorem c_X3_end (l : Launch) (E : G0) (sz : Nat) (a0 : Nat → Nat) (v0 : FL) (p1 : Int32) (x : FL) (hf : f_X3_end v0 p1 = some x) : Met l yX3_end wsX3_end rmX3_end (va_Pc [.ref (a0 0), .int p1] (PW E (wFL E a0 v0) sz)) (va_Qv (fun q => q = x) (fun q t => va_P E.1 vwCl ((fun q : FL => wFL E a0 q) q) t.heap ∧ va_D (va_A (wFL E a0 v0) sz) ((fun q : FL => wFL E a0 q) q)) (va_A (wFL E a0 v0) sz)) 0 0 (va_A (wFL E a0 v0) sz) := by
  refine Met.ofW (cc := cX3_end) (maxL := 2) (ret := none) (by decide) rfl ?_
  intro p e s m args below meth c s₁ B hml hv
  obtain ⟨ha, hsz, hP, hD0, hC⟩ := hv
  have hx := B.exec
  have hb := B.bytes
  have hr := B.returns
  have hts := atoms_spec (ws := wsX3_end) B.pre
  have hown : s.vm.findClass RX3 = some m.cls := findClass_of_methodNamed B.named
  have hlocks := B.notSynchronized
  subst hsz
  have hD := hD0.self (sz := s.heap.size)
  generalize hAe : va_A (wFL E a0 v0) s.heap.size = A at hD hC ⊢
  have hA : ∀ q : Nat, s.heap.size ≤ q → A q := fun q h => by rw [← hAe]; exact Or.inr h
  have hS : va_S A s.heap s.heap [] := va_S.rf
  have w1 : (Cond.initialized RX10).before args s = true := hts _ (List.mem_of_getElem? (i := 4) rfl)
  have w2 : (Cond.static yX10_isFile).before args s = true := hts _ (List.mem_of_getElem? (i := 3) rfl)
  have w3 : (Cond.fieldLink RX3 9 "GreatChunks$Files" "how" "[I").before args s = true := hts _ (List.mem_of_getElem? (i := 1) rfl)
  have w4 : ∀ w ∈ wsX30, w ∈ wsX3_end := in_pl 9 rfl
  have w5 : (Cond.fieldLink RX3 21 "GreatChunks$Files" "many" "[I").before args s = true := hts _ (List.mem_of_getElem? (i := 2) rfl)
  generalize hQe : MQ below (va_Qv (fun q => q = x) (fun q t => va_P E.1 vwCl ((fun q : FL => wFL E a0 q) q) t.heap ∧ va_D A ((fun q : FL => wFL E a0 q) q)) A) args s 0 0 A = Q
  refine st_W ha (Nat.le_of_ble_eq_true rfl) (fun ls hl => ?_)
  have hl : lv_has ls 2 [(0, .ref (a0 0)), (1, .int p1)] := hl
  unfold f_X3_end at hf
  refine lv_iload_n hx hb dX3_end_0 rfl (lv_at hl 1 rfl) ?_
  refine cr_i (va_runSN (As := [.int p1]) (rest := []) ⟨hx, hb, hml, hown, hts⟩ (c_X10_isFile l E p1 _ rfl) ⟨va_cnB 1 hts gX3_end_X10_isFile_n33 rfl rfl rfl (hC.2.1 (RX3, 33, yX10_isFile, RX10) (List.mem_of_getElem? (i := 9) rfl)) w1 hdS_X10_isFile ⟨Nat.le_of_ble_eq_true rfl, Nat.le_of_ble_eq_true rfl⟩, w2, trivial⟩ ⟨PR.blind, PR.pre hC hS (hP.sub [] rfl)⟩ rfl rfl hl.1 rfl (lv_room (Nat.le_of_ble_eq_true rfl)) dX3_end_1 ⟨Nat.le_of_ble_eq_true rfl, Nat.le_of_ble_eq_true rfl⟩) ?_
  refine lv_if_eq (tgt := 21) hx hb dX3_end_4 rfl (fun c1 => ?_) (fun c1 => ?_)
  · have hf := it_t hf c1
    cases Option.some.inj hf
    subst hQe
    exact ew_v (wf := (fun q : FL => wFL E a0 q)) hx hb hr hlocks hP hD hS dX3_end_21
  · have hf := it_f hf c1
    refine lv_aload_n hx hb dX3_end_7 rfl (lv_at hl 0 rfl) ?_
    refine va_get (D := E.1) (ci := 3) (v := .ref (a0 1)) (C := RX3) (T := TX3) (N := 5) hx hb hts w4 hown hC.1 hP 0 rfl rfl 0 (by decide) w3 (fun _ h9 => h9) rfl dX3_end_8 ?_
    refine lv_iload_n hx hb dX3_end_11 rfl (lv_at hl 1 rfl) ?_
    refine lv_iconst (v := 0) hx hb dX3_end_12 rfl ?_
    obtain ⟨h2, hf⟩ := gdI_some hf
    refine va_iast hx hb hC.1 hP hD hS 1 0 rfl rfl h2 dX3_end_13 (fun H locs hP hD hS => ?_)
    have hP : va_P E.1 vwCl (wFL E a0 ((upd v0.1 p1.toNatClampNeg (0 : Int32)), v0.2.1, v0.2.2.1, v0.2.2.2.1, v0.2.2.2.2)) H := hP
    have hD : va_D A (wFL E a0 ((upd v0.1 p1.toNatClampNeg (0 : Int32)), v0.2.1, v0.2.2.1, v0.2.2.2.1, v0.2.2.2.2)) := hD
    refine lv_aload_n hx hb dX3_end_14 rfl (lv_at hl 0 rfl) ?_
    refine va_get (D := E.1) (ci := 3) (v := .ref (a0 4)) (C := RX3) (T := TX3) (N := 5) hx hb hts w4 hown hC.1 hP 0 rfl rfl 3 (by decide) w5 (fun _ h9 => h9) rfl dX3_end_15 ?_
    refine lv_iload_n hx hb dX3_end_18 rfl (lv_at hl 1 rfl) ?_
    refine lv_iconst (v := 0) hx hb dX3_end_19 rfl ?_
    obtain ⟨h3, hf⟩ := gdI_some hf
    refine va_iast hx hb hC.1 hP hD hS 4 0 rfl rfl h3 dX3_end_20 (fun H locs hP hD hS => ?_)
    have hP : va_P E.1 vwCl (wFL E a0 ((upd v0.1 p1.toNatClampNeg (0 : Int32)), v0.2.1, v0.2.2.1, (upd v0.2.2.2.1 p1.toNatClampNeg (0 : Int32)), v0.2.2.2.2)) H := hP
    have hD : va_D A (wFL E a0 ((upd v0.1 p1.toNatClampNeg (0 : Int32)), v0.2.1, v0.2.2.1, (upd v0.2.2.2.1 p1.toNatClampNeg (0 : Int32)), v0.2.2.2.2)) := hD
    cases Option.some.inj hf
    subst hQe
    exact ew_v (wf := (fun q : FL => wFL E a0 q)) hx hb hr hlocks hP hD hS dX3_end_21

/-! X3_chunkOf -/
abbrev rmX3_chunkOf : Room := { frames := 2, cells := 0, slots := 0, locals := 42 }
theorem hdS_X3_chunkOf : yX3_chunkOf.cls ≠ "java/lang/invoke/MethodHandle" ∧ yX3_chunkOf.cls ≠ "java/lang/invoke/VarHandle" ∧ (parseMethodDescriptor yX3_chunkOf.desc).map (fun d => d.parameters.length) = some 2 := by decide +kernel
theorem hdV_X3_chunkOf : yX3_chunkOf.cls = RX3 ∧ yX3_chunkOf.cls ≠ "java/lang/invoke/MethodHandle" ∧ yX3_chunkOf.cls ≠ "java/lang/invoke/VarHandle" ∧ (parseMethodDescriptor yX3_chunkOf.desc).map (fun d => d.parameters.length) = some 2 := ⟨rfl, hdS_X3_chunkOf⟩
set_option maxHeartbeats 4000000 in
set_option maxRecDepth 100000 in
theorem c_X3_chunkOf (l : Launch) (E : G0) (a0 : Nat → Nat) (v0 : FL) (p1 : Int32) (p2 : Int32) (x : Int32) (hf : f_X3_chunkOf v0 p1 p2 = some x) : Met l yX3_chunkOf wsX3_chunkOf rmX3_chunkOf (va_Pc [.ref (a0 0), .int p1, .int p2] (PR E (wFL E a0 v0))) (vp_Si (fun r => r = x)) 0 0 (fun _ => False) := by
  refine Met.ofW (cc := cX3_chunkOf) (maxL := 4) (ret := some .int) (by decide) rfl ?_
  intro p e s m args below meth c s₁ B hml hv
  obtain ⟨ha, hP, hC⟩ := hv
  have hx := B.exec
  have hb := B.bytes
  have hr := B.returns
  have hts := atoms_spec (ws := wsX3_chunkOf) B.pre
  have hown : s.vm.findClass RX3 = some m.cls := findClass_of_methodNamed B.named
  have hlocks := B.notSynchronized
  have hS : va_S (fun _ => False) s.heap s.heap [] := va_S.rf
  have w1 : (Cond.initialized RX10).before args s = true := hts _ (List.mem_of_getElem? (i := 4) rfl)
  have w2 : (Cond.static yX10_isFile).before args s = true := hts _ (List.mem_of_getElem? (i := 3) rfl)
  have w3 : (Cond.static yX10_within).before args s = true := hts _ (List.mem_of_getElem? (i := 7) rfl)
  have w4 : (Cond.fieldLink RX3 21 "GreatChunks$Files" "many" "[I").before args s = true := hts _ (List.mem_of_getElem? (i := 1) rfl)
  have w5 : ∀ w ∈ wsX30, w ∈ wsX3_chunkOf := in_pl 9 rfl
  have w6 : (Cond.fieldLink RX3 24 "GreatChunks$Files" "chunk" "[I").before args s = true := hts _ (List.mem_of_getElem? (i := 2) rfl)
  generalize hQe : MQ below (vp_Si (fun r => r = x)) args s 0 0 (fun _ => False) = Q
  refine st_W ha (Nat.le_of_ble_eq_true rfl) (fun ls hl => ?_)
  have hl : lv_has ls 4 [(0, .ref (a0 0)), (1, .int p1), (2, .int p2)] := hl
  unfold f_X3_chunkOf at hf
  refine lv_iload_n hx hb dX3_chunkOf_0 rfl (lv_at hl 1 rfl) ?_
  refine cr_i (va_runSN (As := [.int p1]) (rest := []) ⟨hx, hb, hml, hown, hts⟩ (c_X10_isFile l E p1 _ rfl) ⟨va_cnB 1 hts gX3_chunkOf_X10_isFile_n33 rfl rfl rfl (hC.2.1 (RX3, 33, yX10_isFile, RX10) (List.mem_of_getElem? (i := 9) rfl)) w1 hdS_X10_isFile ⟨Nat.le_of_ble_eq_true rfl, Nat.le_of_ble_eq_true rfl⟩, w2, trivial⟩ ⟨PR.blind, PR.pre hC hS (hP.sub [] rfl)⟩ rfl rfl hl.1 rfl (lv_room (Nat.le_of_ble_eq_true rfl)) dX3_chunkOf_1 ⟨Nat.le_of_ble_eq_true rfl, Nat.le_of_ble_eq_true rfl⟩) ?_
  obtain ⟨q1, e1, hf⟩ := bd_some hf
  have J1 : W p l e (headSpec wsX3_chunkOf rmX3_chunkOf).room s m args below meth c s.heap [] 0 0 Q (F0 m 31 ls [.int (bI q1)]) := by
    refine lv_istore_n (lv' := [(3, .int (bI q1)), (0, .ref (a0 0)), (1, .int p1), (2, .int p2)]) hx hb dX3_chunkOf_31 rfl hl (by decide) rfl (fun ls hl => ?_)
    refine lv_iload_n hx hb dX3_chunkOf_32 rfl (lv_at hl 0 rfl) ?_
    refine lv_if_eq (tgt := 49) hx hb dX3_chunkOf_33 rfl (fun c2 => ?_) (fun c2 => ?_)
    · have hf := it_t hf c2
      refine lv_iconst (v := (-1)) hx hb dX3_chunkOf_49 rfl ?_
      cases Option.some.inj hf
      subst hQe
      exact en_i hx hb hr hlocks dX3_chunkOf_50
    · have hf := it_f hf c2
      refine lv_aload_n hx hb dX3_chunkOf_36 rfl (lv_at hl 1 rfl) ?_
      refine va_get (D := E.1) (ci := 3) (v := .ref (a0 5)) (C := RX3) (T := TX3) (N := 5) hx hb hts w5 hown hC.1 hP 0 rfl rfl 4 (by decide) w6 (fun _ h9 => h9) rfl dX3_chunkOf_37 ?_
      refine lv_iload_n hx hb dX3_chunkOf_40 rfl (lv_at hl 2 rfl) ?_
      refine lv_iconst (v := 4) hx hb dX3_chunkOf_41 rfl ?_
      refine lv_imul hx hb dX3_chunkOf_42 ?_
      refine lv_iload_n hx hb dX3_chunkOf_43 rfl (lv_at hl 3 rfl) ?_
      refine lv_iadd hx hb dX3_chunkOf_44 ?_
      obtain ⟨h3, hf⟩ := gdI_some hf
      refine va_iald hx hb hC.1 hP 5 0 rfl rfl h3 dX3_chunkOf_45 ?_
      refine lv_goto (tgt := 50) hx hb dX3_chunkOf_46 rfl ?_
      cases Option.some.inj hf
      subst hQe
      exact en_i hx hb hr hlocks dX3_chunkOf_50
  have hf := e1
  refine lv_if_eq (tgt := 30) hx hb dX3_chunkOf_4 rfl (fun c4 => ?_) (fun c4 => ?_)
  · have hf := it_t hf c4
    refine lv_iconst (v := 0) hx hb dX3_chunkOf_30 rfl ?_
    cases Option.some.inj hf
    exact J1
  · have hf := it_f hf c4
    refine lv_iload_n hx hb dX3_chunkOf_7 rfl (lv_at hl 2 rfl) ?_
    refine lv_iconst (v := 0) hx hb dX3_chunkOf_8 rfl ?_
    refine lv_iconst (v := 3) hx hb dX3_chunkOf_9 rfl ?_
    refine cr_i (va_runSN (As := [.int p2, .int (0 : Int32), .int (3 : Int32)]) (rest := []) ⟨hx, hb, hml, hown, hts⟩ (c_X10_within l E p2 (0 : Int32) (3 : Int32) _ rfl) ⟨va_cnB 3 hts gX3_chunkOf_X10_within_n38 rfl rfl rfl (hC.2.1 (RX3, 38, yX10_within, RX10) (List.mem_of_getElem? (i := 12) rfl)) w1 hdS_X10_within ⟨Nat.le_of_ble_eq_true rfl, Nat.le_of_ble_eq_true rfl⟩, w3, trivial⟩ ⟨PR.blind, PR.pre hC hS (hP.sub [] rfl)⟩ rfl rfl hl.1 rfl (lv_room (Nat.le_of_ble_eq_true rfl)) dX3_chunkOf_10 ⟨Nat.le_of_ble_eq_true rfl, Nat.le_of_ble_eq_true rfl⟩) ?_
    refine lv_if_eq (tgt := 30) hx hb dX3_chunkOf_13 rfl (fun c5 => ?_) (fun c5 => ?_)
    · have hf := it_t hf c5
      refine lv_iconst (v := 0) hx hb dX3_chunkOf_30 rfl ?_
      cases Option.some.inj hf
      exact J1
    · have hf := it_f hf c5
      refine lv_iload_n hx hb dX3_chunkOf_16 rfl (lv_at hl 2 rfl) ?_
      refine lv_aload_n hx hb dX3_chunkOf_17 rfl (lv_at hl 0 rfl) ?_
      refine va_get (D := E.1) (ci := 3) (v := .ref (a0 4)) (C := RX3) (T := TX3) (N := 5) hx hb hts w5 hown hC.1 hP 0 rfl rfl 3 (by decide) w4 (fun _ h9 => h9) rfl dX3_chunkOf_18 ?_
      refine lv_iload_n hx hb dX3_chunkOf_21 rfl (lv_at hl 1 rfl) ?_
      obtain ⟨h6, hf⟩ := gdI_some hf
      refine va_iald hx hb hC.1 hP 4 0 rfl rfl h6 dX3_chunkOf_22 ?_
      refine lv_icmp_ge (tgt := 30) hx hb dX3_chunkOf_23 rfl (fun c7 => ?_) (fun c7 => ?_)
      · have hf := it_t hf c7
        refine lv_iconst (v := 0) hx hb dX3_chunkOf_30 rfl ?_
        cases Option.some.inj hf
        exact J1
      · have hf := it_f hf c7
        refine lv_iconst (v := 1) hx hb dX3_chunkOf_26 rfl ?_
        refine lv_goto (tgt := 31) hx hb dX3_chunkOf_27 rfl ?_
        cases Option.some.inj hf
        exact J1

/-! X3_lastChunk -/
abbrev rmX3_lastChunk : Room := { frames := 3, cells := 0, slots := 0, locals := 65 }
theorem hdS_X3_lastChunk : yX3_lastChunk.cls ≠ "java/lang/invoke/MethodHandle" ∧ yX3_lastChunk.cls ≠ "java/lang/invoke/VarHandle" ∧ (parseMethodDescriptor yX3_lastChunk.desc).map (fun d => d.parameters.length) = some 1 := by decide +kernel
theorem hdV_X3_lastChunk : yX3_lastChunk.cls = RX3 ∧ yX3_lastChunk.cls ≠ "java/lang/invoke/MethodHandle" ∧ yX3_lastChunk.cls ≠ "java/lang/invoke/VarHandle" ∧ (parseMethodDescriptor yX3_lastChunk.desc).map (fun d => d.parameters.length) = some 1 := ⟨rfl, hdS_X3_lastChunk⟩
set_option maxHeartbeats 4000000 in
set_option maxRecDepth 100000 in
theorem c_X3_lastChunk (l : Launch) (E : G0) (a0 : Nat → Nat) (v0 : FL) (p1 : Int32) (x : Int32) (hf : f_X3_lastChunk v0 p1 = some x) : Met l yX3_lastChunk wsX3_lastChunk rmX3_lastChunk (va_Pc [.ref (a0 0), .int p1] (PR E (wFL E a0 v0))) (vp_Si (fun r => r = x)) 0 0 (fun _ => False) := by
  refine Met.ofW (cc := cX3_lastChunk) (maxL := 2) (ret := some .int) (by decide) rfl ?_
  intro p e s m args below meth c s₁ B hml hv
  obtain ⟨ha, hP, hC⟩ := hv
  have hx := B.exec
  have hb := B.bytes
  have hr := B.returns
  have hts := atoms_spec (ws := wsX3_lastChunk) B.pre
  have hown : s.vm.findClass RX3 = some m.cls := findClass_of_methodNamed B.named
  have hlocks := B.notSynchronized
  have hS : va_S (fun _ => False) s.heap s.heap [] := va_S.rf
  have w1 : (Cond.initialized RX10).before args s = true := hts _ (List.mem_of_getElem? (i := 3) rfl)
  have w2 : (Cond.static yX10_isFile).before args s = true := hts _ (List.mem_of_getElem? (i := 2) rfl)
  have w3 : (Cond.fieldLink RX3 21 "GreatChunks$Files" "many" "[I").before args s = true := hts _ (List.mem_of_getElem? (i := 1) rfl)
  have w4 : ∀ w ∈ wsX30, w ∈ wsX3_lastChunk := in_pl 14 rfl
  generalize hQe : MQ below (vp_Si (fun r => r = x)) args s 0 0 (fun _ => False) = Q
  refine st_W ha (Nat.le_of_ble_eq_true rfl) (fun ls hl => ?_)
  have hl : lv_has ls 2 [(0, .ref (a0 0)), (1, .int p1)] := hl
  unfold f_X3_lastChunk at hf
  refine lv_iload_n hx hb dX3_lastChunk_0 rfl (lv_at hl 1 rfl) ?_
  refine cr_i (va_runSN (As := [.int p1]) (rest := []) ⟨hx, hb, hml, hown, hts⟩ (c_X10_isFile l E p1 _ rfl) ⟨va_cnB 1 hts gX3_lastChunk_X10_isFile_n33 rfl rfl rfl (hC.2.1 (RX3, 33, yX10_isFile, RX10) (List.mem_of_getElem? (i := 9) rfl)) w1 hdS_X10_isFile ⟨Nat.le_of_ble_eq_true rfl, Nat.le_of_ble_eq_true rfl⟩, w2, trivial⟩ ⟨PR.blind, PR.pre hC hS (hP.sub [] rfl)⟩ rfl rfl hl.1 rfl (lv_room (Nat.le_of_ble_eq_true rfl)) dX3_lastChunk_1 ⟨Nat.le_of_ble_eq_true rfl, Nat.le_of_ble_eq_true rfl⟩) ?_
  refine lv_if_eq (tgt := 23) hx hb dX3_lastChunk_4 rfl (fun c1 => ?_) (fun c1 => ?_)
  · have hf := it_t hf c1
    refine lv_iconst (v := (-1)) hx hb dX3_lastChunk_23 rfl ?_
    cases Option.some.inj hf
    subst hQe
    exact en_i hx hb hr hlocks dX3_lastChunk_24
  · have hf := it_f hf c1
    refine lv_aload_n hx hb dX3_lastChunk_7 rfl (lv_at hl 0 rfl) ?_
    refine lv_iload_n hx hb dX3_lastChunk_8 rfl (lv_at hl 1 rfl) ?_
    refine lv_aload_n hx hb dX3_lastChunk_9 rfl (lv_at hl 0 rfl) ?_
    refine va_get (D := E.1) (ci := 3) (v := .ref (a0 4)) (C := RX3) (T := TX3) (N := 5) hx hb hts w4 hown hC.1 hP 0 rfl rfl 3 (by decide) w3 (fun _ h9 => h9) rfl dX3_lastChunk_10 ?_
    refine lv_iload_n hx hb dX3_lastChunk_13 rfl (lv_at hl 1 rfl) ?_
    obtain ⟨h2, hf⟩ := gdI_some hf
    refine va_iald hx hb hC.1 hP 4 0 rfl rfl h2 dX3_lastChunk_14 ?_
    refine lv_iconst (v := 1) hx hb dX3_lastChunk_15 rfl ?_
    refine lv_isub hx hb dX3_lastChunk_16 ?_
    obtain ⟨r3, e3, hf⟩ := bd_some hf
    refine cr_i (va_runV (As := [.int p1, .int ((v0.2.2.2.1 p1.toNatClampNeg) - (1 : Int32))]) (rest := []) ⟨hx, hb, hml, hown, hts⟩ (c_X3_chunkOf l E a0 v0 p1 ((v0.2.2.2.1 p1.toNatClampNeg) - (1 : Int32)) r3 e3) (cwV 2 hts gX3_lastChunk_X3_chunkOf rfl rfl rfl hdV_X3_chunkOf ⟨Nat.le_of_ble_eq_true rfl, Nat.le_of_ble_eq_true rfl⟩) ⟨PR.blind, va_recv hC.1 hP (ci := 3) (q0 := 0) rfl rfl, PR.pre hC hS hP⟩ rfl rfl hl.1 rfl (lv_room (Nat.le_of_ble_eq_true rfl)) dX3_lastChunk_17 ⟨Nat.le_of_ble_eq_true rfl, Nat.le_of_ble_eq_true rfl⟩) ?_
    refine lv_goto (tgt := 24) hx hb dX3_lastChunk_20 rfl ?_
    cases Option.some.inj hf
    subst hQe
    exact en_i hx hb hr hlocks dX3_lastChunk_24

/-! X3_isFullUp -/
abbrev rmX3_isFullUp : Room := { frames := 2, cells := 0, slots := 0, locals := 42 }
theorem hdS_X3_isFullUp : yX3_isFullUp.cls ≠ "java/lang/invoke/MethodHandle" ∧ yX3_isFullUp.cls ≠ "java/lang/invoke/VarHandle" ∧ (parseMethodDescriptor yX3_isFullUp.desc).map (fun d => d.parameters.length) = some 1 := by decide +kernel
theorem hdV_X3_isFullUp : yX3_isFullUp.cls = RX3 ∧ yX3_isFullUp.cls ≠ "java/lang/invoke/MethodHandle" ∧ yX3_isFullUp.cls ≠ "java/lang/invoke/VarHandle" ∧ (parseMethodDescriptor yX3_isFullUp.desc).map (fun d => d.parameters.length) = some 1 := ⟨rfl, hdS_X3_isFullUp⟩
set_option maxHeartbeats 4000000 in
set_option maxRecDepth 100000 in
theorem c_X3_isFullUp (l : Launch) (E : G0) (a0 : Nat → Nat) (v0 : FL) (p1 : Int32) (x : Bool) (hf : f_X3_isFullUp v0 p1 = some x) : Met l yX3_isFullUp wsX3_isFullUp rmX3_isFullUp (va_Pc [.ref (a0 0), .int p1] (PR E (wFL E a0 v0))) (vp_Si (fun r => r = bI x)) 0 0 (fun _ => False) := by
  refine Met.ofW (cc := cX3_isFullUp) (maxL := 2) (ret := some .boolean) (by decide) rfl ?_
  intro p e s m args below meth c s₁ B hml hv
  obtain ⟨ha, hP, hC⟩ := hv
  have hx := B.exec
  have hb := B.bytes
  have hr := B.returns
  have hts := atoms_spec (ws := wsX3_isFullUp) B.pre
  have hown : s.vm.findClass RX3 = some m.cls := findClass_of_methodNamed B.named
  have hlocks := B.notSynchronized
  have hS : va_S (fun _ => False) s.heap s.heap [] := va_S.rf
  have w1 : (Cond.initialized RX10).before args s = true := hts _ (List.mem_of_getElem? (i := 3) rfl)
  have w2 : (Cond.static yX10_isFile).before args s = true := hts _ (List.mem_of_getElem? (i := 2) rfl)
  have w3 : (Cond.fieldLink RX3 21 "GreatChunks$Files" "many" "[I").before args s = true := hts _ (List.mem_of_getElem? (i := 1) rfl)
  have w4 : ∀ w ∈ wsX30, w ∈ wsX3_isFullUp := in_pl 8 rfl
  generalize hQe : MQ below (vp_Si (fun r => r = bI x)) args s 0 0 (fun _ => False) = Q
  refine st_W ha (Nat.le_of_ble_eq_true rfl) (fun ls hl => ?_)
  have hl : lv_has ls 2 [(0, .ref (a0 0)), (1, .int p1)] := hl
  unfold f_X3_isFullUp at hf
  refine lv_iload_n hx hb dX3_isFullUp_0 rfl (lv_at hl 1 rfl) ?_
  refine cr_i (va_runSN (As := [.int p1]) (rest := []) ⟨hx, hb, hml, hown, hts⟩ (c_X10_isFile l E p1 _ rfl) ⟨va_cnB 1 hts gX3_isFullUp_X10_isFile_n33 rfl rfl rfl (hC.2.1 (RX3, 33, yX10_isFile, RX10) (List.mem_of_getElem? (i := 9) rfl)) w1 hdS_X10_isFile ⟨Nat.le_of_ble_eq_true rfl, Nat.le_of_ble_eq_true rfl⟩, w2, trivial⟩ ⟨PR.blind, PR.pre hC hS (hP.sub [] rfl)⟩ rfl rfl hl.1 rfl (lv_room (Nat.le_of_ble_eq_true rfl)) dX3_isFullUp_1 ⟨Nat.le_of_ble_eq_true rfl, Nat.le_of_ble_eq_true rfl⟩) ?_
  refine lv_if_eq (tgt := 17) hx hb dX3_isFullUp_4 rfl (fun c1 => ?_) (fun c1 => ?_)
  · have hf := it_t hf c1
    refine lv_iconst (v := 1) hx hb dX3_isFullUp_17 rfl ?_
    refine lv_goto (tgt := 22) hx hb dX3_isFullUp_18 rfl ?_
    cases Option.some.inj hf
    subst hQe
    exact en_z hx hb hr hlocks rfl dX3_isFullUp_22
  · have hf := it_f hf c1
    refine lv_aload_n hx hb dX3_isFullUp_7 rfl (lv_at hl 0 rfl) ?_
    refine va_get (D := E.1) (ci := 3) (v := .ref (a0 4)) (C := RX3) (T := TX3) (N := 5) hx hb hts w4 hown hC.1 hP 0 rfl rfl 3 (by decide) w3 (fun _ h9 => h9) rfl dX3_isFullUp_8 ?_
    refine lv_iload_n hx hb dX3_isFullUp_11 rfl (lv_at hl 1 rfl) ?_
    obtain ⟨h2, hf⟩ := gdI_some hf
    refine va_iald hx hb hC.1 hP 4 0 rfl rfl h2 dX3_isFullUp_12 ?_
    refine lv_iconst (v := 4) hx hb dX3_isFullUp_13 rfl ?_
    refine lv_icmp_lt (tgt := 21) hx hb dX3_isFullUp_14 rfl (fun c3 => ?_) (fun c3 => ?_)
    · have hf := it_t hf c3
      refine lv_iconst (v := 0) hx hb dX3_isFullUp_21 rfl ?_
      cases Option.some.inj hf
      subst hQe
      exact en_z hx hb hr hlocks rfl dX3_isFullUp_22
    · have hf := it_f hf c3
      refine lv_iconst (v := 1) hx hb dX3_isFullUp_17 rfl ?_
      refine lv_goto (tgt := 22) hx hb dX3_isFullUp_18 rfl ?_
      cases Option.some.inj hf
      subst hQe
      exact en_z hx hb hr hlocks rfl dX3_isFullUp_22

/-! X3_addChunk -/
abbrev rmX3_addChunk : Room := { frames := 3, cells := 0, slots := 0, locals := 63 }
theorem hdS_X3_addChunk : yX3_addChunk.cls ≠ "java/lang/invoke/MethodHandle" ∧ yX3_addChunk.cls ≠ "java/lang/invoke/VarHandle" ∧ (parseMethodDescriptor yX3_addChunk.desc).map (fun d => d.parameters.length) = some 2 := by decide +kernel
theorem hdV_X3_addChunk : yX3_addChunk.cls = RX3 ∧ yX3_addChunk.cls ≠ "java/lang/invoke/MethodHandle" ∧ yX3_addChunk.cls ≠ "java/lang/invoke/VarHandle" ∧ (parseMethodDescriptor yX3_addChunk.desc).map (fun d => d.parameters.length) = some 2 := ⟨rfl, hdS_X3_addChunk⟩
set_option maxHeartbeats 4000000 in
set_option maxRecDepth 100000 in
theorem c_X3_addChunk (l : Launch) (E : G0) (sz : Nat) (a0 : Nat → Nat) (v0 : FL) (p1 : Int32) (p2 : Int32) (x : FL) (hf : f_X3_addChunk v0 p1 p2 = some x) : Met l yX3_addChunk wsX3_addChunk rmX3_addChunk (va_Pc [.ref (a0 0), .int p1, .int p2] (PW E (wFL E a0 v0) sz)) (va_Qv (fun q => q = x) (fun q t => va_P E.1 vwCl ((fun q : FL => wFL E a0 q) q) t.heap ∧ va_D (va_A (wFL E a0 v0) sz) ((fun q : FL => wFL E a0 q) q)) (va_A (wFL E a0 v0) sz)) 0 0 (va_A (wFL E a0 v0) sz) := by
  refine Met.ofW (cc := cX3_addChunk) (maxL := 3) (ret := none) (by decide) rfl ?_
  intro p e s m args below meth c s₁ B hml hv
  obtain ⟨ha, hsz, hP, hD0, hC⟩ := hv
  have hx := B.exec
  have hb := B.bytes
  have hr := B.returns
  have hts := atoms_spec (ws := wsX3_addChunk) B.pre
  have hown : s.vm.findClass RX3 = some m.cls := findClass_of_methodNamed B.named
  have hlocks := B.notSynchronized
  subst hsz
  have hD := hD0.self (sz := s.heap.size)
  generalize hAe : va_A (wFL E a0 v0) s.heap.size = A at hD hC ⊢
  have hA : ∀ q : Nat, s.heap.size ≤ q → A q := fun q h => by rw [← hAe]; exact Or.inr h
  have hS : va_S A s.heap s.heap [] := va_S.rf
  have w1 : (Cond.fieldLink RX3 24 "GreatChunks$Files" "chunk" "[I").before args s = true := hts _ (List.mem_of_getElem? (i := 1) rfl)
  have w2 : ∀ w ∈ wsX30, w ∈ wsX3_addChunk := in_pl 14 rfl
  have w3 : (Cond.fieldLink RX3 21 "GreatChunks$Files" "many" "[I").before args s = true := hts _ (List.mem_of_getElem? (i := 2) rfl)
  generalize hQe : MQ below (va_Qv (fun q => q = x) (fun q t => va_P E.1 vwCl ((fun q : FL => wFL E a0 q) q) t.heap ∧ va_D A ((fun q : FL => wFL E a0 q) q)) A) args s 0 0 A = Q
  refine st_W ha (Nat.le_of_ble_eq_true rfl) (fun ls hl => ?_)
  have hl : lv_has ls 3 [(0, .ref (a0 0)), (1, .int p1), (2, .int p2)] := hl
  unfold f_X3_addChunk at hf
  refine lv_aload_n hx hb dX3_addChunk_0 rfl (lv_at hl 0 rfl) ?_
  refine lv_iload_n hx hb dX3_addChunk_1 rfl (lv_at hl 1 rfl) ?_
  obtain ⟨r1, e1, hf⟩ := bd_some hf
  refine cr_i (va_runV (As := [.int p1]) (rest := []) ⟨hx, hb, hml, hown, hts⟩ (c_X3_isFullUp l E a0 v0 p1 r1 e1) (cwV 1 hts gX3_addChunk_X3_isFullUp rfl rfl rfl hdV_X3_isFullUp ⟨Nat.le_of_ble_eq_true rfl, Nat.le_of_ble_eq_true rfl⟩) ⟨PR.blind, va_recv hC.1 hP (ci := 3) (q0 := 0) rfl rfl, PR.pre hC hS hP⟩ rfl rfl hl.1 rfl (lv_room (Nat.le_of_ble_eq_true rfl)) dX3_addChunk_2 ⟨Nat.le_of_ble_eq_true rfl, Nat.le_of_ble_eq_true rfl⟩) ?_
  refine lv_if_ne (tgt := 34) hx hb dX3_addChunk_5 rfl (fun c2 => ?_) (fun c2 => ?_)
  · have hf := it_f hf c2
    cases Option.some.inj hf
    subst hQe
    exact ew_v (wf := (fun q : FL => wFL E a0 q)) hx hb hr hlocks hP hD hS dX3_addChunk_34
  · have hf := it_t hf c2
    refine lv_aload_n hx hb dX3_addChunk_8 rfl (lv_at hl 0 rfl) ?_
    refine va_get (D := E.1) (ci := 3) (v := .ref (a0 5)) (C := RX3) (T := TX3) (N := 5) hx hb hts w2 hown hC.1 hP 0 rfl rfl 4 (by decide) w1 (fun _ h9 => h9) rfl dX3_addChunk_9 ?_
    refine lv_iload_n hx hb dX3_addChunk_12 rfl (lv_at hl 1 rfl) ?_
    refine lv_iconst (v := 4) hx hb dX3_addChunk_13 rfl ?_
    refine lv_imul hx hb dX3_addChunk_14 ?_
    refine lv_aload_n hx hb dX3_addChunk_15 rfl (lv_at hl 0 rfl) ?_
    refine va_get (D := E.1) (ci := 3) (v := .ref (a0 4)) (C := RX3) (T := TX3) (N := 5) hx hb hts w2 hown hC.1 hP 0 rfl rfl 3 (by decide) w3 (fun _ h9 => h9) rfl dX3_addChunk_16 ?_
    refine lv_iload_n hx hb dX3_addChunk_19 rfl (lv_at hl 1 rfl) ?_
    obtain ⟨h3, hf⟩ := gdI_some hf
    refine va_iald hx hb hC.1 hP 4 0 rfl rfl h3 dX3_addChunk_20 ?_
    refine lv_iadd hx hb dX3_addChunk_21 ?_
    refine lv_iload_n hx hb dX3_addChunk_22 rfl (lv_at hl 2 rfl) ?_
    obtain ⟨h4, hf⟩ := gdI_some hf
    refine va_iast hx hb hC.1 hP hD hS 5 0 rfl rfl h4 dX3_addChunk_23 (fun H locs hP hD hS => ?_)
    have hP : va_P E.1 vwCl (wFL E a0 (v0.1, v0.2.1, v0.2.2.1, v0.2.2.2.1, (upd v0.2.2.2.2 ((p1 * (4 : Int32)) + (v0.2.2.2.1 p1.toNatClampNeg)).toNatClampNeg p2))) H := hP
    have hD : va_D A (wFL E a0 (v0.1, v0.2.1, v0.2.2.1, v0.2.2.2.1, (upd v0.2.2.2.2 ((p1 * (4 : Int32)) + (v0.2.2.2.1 p1.toNatClampNeg)).toNatClampNeg p2))) := hD
    refine lv_aload_n hx hb dX3_addChunk_24 rfl (lv_at hl 0 rfl) ?_
    refine va_get (D := E.1) (ci := 3) (v := .ref (a0 4)) (C := RX3) (T := TX3) (N := 5) hx hb hts w2 hown hC.1 hP 0 rfl rfl 3 (by decide) w3 (fun _ h9 => h9) rfl dX3_addChunk_25 ?_
    refine lv_iload_n hx hb dX3_addChunk_28 rfl (lv_at hl 1 rfl) ?_
    refine lv_dup2_11 hx hb dX3_addChunk_29 rfl rfl ?_
    obtain ⟨h5, hf⟩ := gdI_some hf
    refine va_iald hx hb hC.1 hP 4 0 rfl rfl h5 dX3_addChunk_30 ?_
    refine lv_iconst (v := 1) hx hb dX3_addChunk_31 rfl ?_
    refine lv_iadd hx hb dX3_addChunk_32 ?_
    obtain ⟨h6, hf⟩ := gdI_some hf
    refine va_iast hx hb hC.1 hP hD hS 4 0 rfl rfl h6 dX3_addChunk_33 (fun H locs hP hD hS => ?_)
    have hP : va_P E.1 vwCl (wFL E a0 (v0.1, v0.2.1, v0.2.2.1, (upd v0.2.2.2.1 p1.toNatClampNeg ((v0.2.2.2.1 p1.toNatClampNeg) + (1 : Int32))), (upd v0.2.2.2.2 ((p1 * (4 : Int32)) + (v0.2.2.2.1 p1.toNatClampNeg)).toNatClampNeg p2))) H := hP
    have hD : va_D A (wFL E a0 (v0.1, v0.2.1, v0.2.2.1, (upd v0.2.2.2.1 p1.toNatClampNeg ((v0.2.2.2.1 p1.toNatClampNeg) + (1 : Int32))), (upd v0.2.2.2.2 ((p1 * (4 : Int32)) + (v0.2.2.2.1 p1.toNatClampNeg)).toNatClampNeg p2))) := hD
    cases Option.some.inj hf
    subst hQe
    exact ew_v (wf := (fun q : FL => wFL E a0 q)) hx hb hr hlocks hP hD hS dX3_addChunk_34

/-! X3_replaceChunk -/
abbrev rmX3_replaceChunk : Room := { frames := 3, cells := 0, slots := 0, locals := 65 }
theorem hdS_X3_replaceChunk : yX3_replaceChunk.cls ≠ "java/lang/invoke/MethodHandle" ∧ yX3_replaceChunk.cls ≠ "java/lang/invoke/VarHandle" ∧ (parseMethodDescriptor yX3_replaceChunk.desc).map (fun d => d.parameters.length) = some 3 := by decide +kernel
theorem hdV_X3_replaceChunk : yX3_replaceChunk.cls = RX3 ∧ yX3_replaceChunk.cls ≠ "java/lang/invoke/MethodHandle" ∧ yX3_replaceChunk.cls ≠ "java/lang/invoke/VarHandle" ∧ (parseMethodDescriptor yX3_replaceChunk.desc).map (fun d => d.parameters.length) = some 3 := ⟨rfl, hdS_X3_replaceChunk⟩
set_option maxHeartbeats 4000000 in
set_option maxRecDepth 100000 in
theorem c_X3_replaceChunk (l : Launch) (E : G0) (sz : Nat) (a0 : Nat → Nat) (v0 : FL) (p1 : Int32) (p2 : Int32) (p3 : Int32) (x : FL) (hf : f_X3_replaceChunk v0 p1 p2 p3 = some x) : Met l yX3_replaceChunk wsX3_replaceChunk rmX3_replaceChunk (va_Pc [.ref (a0 0), .int p1, .int p2, .int p3] (PW E (wFL E a0 v0) sz)) (va_Qv (fun q => q = x) (fun q t => va_P E.1 vwCl ((fun q : FL => wFL E a0 q) q) t.heap ∧ va_D (va_A (wFL E a0 v0) sz) ((fun q : FL => wFL E a0 q) q)) (va_A (wFL E a0 v0) sz)) 0 0 (va_A (wFL E a0 v0) sz) := by
  refine Met.ofW (cc := cX3_replaceChunk) (maxL := 4) (ret := none) (by decide) rfl ?_
  intro p e s m args below meth c s₁ B hml hv
  obtain ⟨ha, hsz, hP, hD0, hC⟩ := hv
  have hx := B.exec
  have hb := B.bytes
  have hr := B.returns
  have hts := atoms_spec (ws := wsX3_replaceChunk) B.pre
  have hown : s.vm.findClass RX3 = some m.cls := findClass_of_methodNamed B.named
  have hlocks := B.notSynchronized
  subst hsz
  have hD := hD0.self (sz := s.heap.size)
  generalize hAe : va_A (wFL E a0 v0) s.heap.size = A at hD hC ⊢
  have hA : ∀ q : Nat, s.heap.size ≤ q → A q := fun q h => by rw [← hAe]; exact Or.inr h
  have hS : va_S A s.heap s.heap [] := va_S.rf
  have w1 : (Cond.fieldLink RX3 24 "GreatChunks$Files" "chunk" "[I").before args s = true := hts _ (List.mem_of_getElem? (i := 1) rfl)
  have w2 : ∀ w ∈ wsX30, w ∈ wsX3_replaceChunk := in_pl 14 rfl
  generalize hQe : MQ below (va_Qv (fun q => q = x) (fun q t => va_P E.1 vwCl ((fun q : FL => wFL E a0 q) q) t.heap ∧ va_D A ((fun q : FL => wFL E a0 q) q)) A) args s 0 0 A = Q
  refine st_W ha (Nat.le_of_ble_eq_true rfl) (fun ls hl => ?_)
  have hl : lv_has ls 4 [(0, .ref (a0 0)), (1, .int p1), (2, .int p2), (3, .int p3)] := hl
  unfold f_X3_replaceChunk at hf
  refine lv_aload_n hx hb dX3_replaceChunk_0 rfl (lv_at hl 0 rfl) ?_
  refine lv_iload_n hx hb dX3_replaceChunk_1 rfl (lv_at hl 1 rfl) ?_
  refine lv_iload_n hx hb dX3_replaceChunk_2 rfl (lv_at hl 2 rfl) ?_
  obtain ⟨r1, e1, hf⟩ := bd_some hf
  refine cr_i (va_runV (As := [.int p1, .int p2]) (rest := []) ⟨hx, hb, hml, hown, hts⟩ (c_X3_chunkOf l E a0 v0 p1 p2 r1 e1) (cwV 2 hts gX3_replaceChunk_X3_chunkOf rfl rfl rfl hdV_X3_chunkOf ⟨Nat.le_of_ble_eq_true rfl, Nat.le_of_ble_eq_true rfl⟩) ⟨PR.blind, va_recv hC.1 hP (ci := 3) (q0 := 0) rfl rfl, PR.pre hC hS hP⟩ rfl rfl hl.1 rfl (lv_room (Nat.le_of_ble_eq_true rfl)) dX3_replaceChunk_3 ⟨Nat.le_of_ble_eq_true rfl, Nat.le_of_ble_eq_true rfl⟩) ?_
  refine lv_iconst (v := (-1)) hx hb dX3_replaceChunk_6 rfl ?_
  refine lv_icmp_eq (tgt := 21) hx hb dX3_replaceChunk_7 rfl (fun c2 => ?_) (fun c2 => ?_)
  · have hf := it_t hf c2
    cases Option.some.inj hf
    subst hQe
    exact ew_v (wf := (fun q : FL => wFL E a0 q)) hx hb hr hlocks hP hD hS dX3_replaceChunk_21
  · have hf := it_f hf c2
    refine lv_aload_n hx hb dX3_replaceChunk_10 rfl (lv_at hl 0 rfl) ?_
    refine va_get (D := E.1) (ci := 3) (v := .ref (a0 5)) (C := RX3) (T := TX3) (N := 5) hx hb hts w2 hown hC.1 hP 0 rfl rfl 4 (by decide) w1 (fun _ h9 => h9) rfl dX3_replaceChunk_11 ?_
    refine lv_iload_n hx hb dX3_replaceChunk_14 rfl (lv_at hl 1 rfl) ?_
    refine lv_iconst (v := 4) hx hb dX3_replaceChunk_15 rfl ?_
    refine lv_imul hx hb dX3_replaceChunk_16 ?_
    refine lv_iload_n hx hb dX3_replaceChunk_17 rfl (lv_at hl 2 rfl) ?_
    refine lv_iadd hx hb dX3_replaceChunk_18 ?_
    refine lv_iload_n hx hb dX3_replaceChunk_19 rfl (lv_at hl 3 rfl) ?_
    obtain ⟨h3, hf⟩ := gdI_some hf
    refine va_iast hx hb hC.1 hP hD hS 5 0 rfl rfl h3 dX3_replaceChunk_20 (fun H locs hP hD hS => ?_)
    have hP : va_P E.1 vwCl (wFL E a0 (v0.1, v0.2.1, v0.2.2.1, v0.2.2.2.1, (upd v0.2.2.2.2 ((p1 * (4 : Int32)) + p2).toNatClampNeg p3))) H := hP
    have hD : va_D A (wFL E a0 (v0.1, v0.2.1, v0.2.2.1, v0.2.2.2.1, (upd v0.2.2.2.2 ((p1 * (4 : Int32)) + p2).toNatClampNeg p3))) := hD
    cases Option.some.inj hf
    subst hQe
    exact ew_v (wf := (fun q : FL => wFL E a0 q)) hx hb hr hlocks hP hD hS dX3_replaceChunk_21

/-! X3_owns -/
abbrev rmX3_owns : Room := { frames := 3, cells := 0, slots := 0, locals := 65 }
theorem hdS_X3_owns : yX3_owns.cls ≠ "java/lang/invoke/MethodHandle" ∧ yX3_owns.cls ≠ "java/lang/invoke/VarHandle" ∧ (parseMethodDescriptor yX3_owns.desc).map (fun d => d.parameters.length) = some 2 := by decide +kernel
theorem hdV_X3_owns : yX3_owns.cls = RX3 ∧ yX3_owns.cls ≠ "java/lang/invoke/MethodHandle" ∧ yX3_owns.cls ≠ "java/lang/invoke/VarHandle" ∧ (parseMethodDescriptor yX3_owns.desc).map (fun d => d.parameters.length) = some 2 := ⟨rfl, hdS_X3_owns⟩
set_option maxHeartbeats 4000000 in
set_option maxRecDepth 100000 in
theorem c_X3_owns (l : Launch) (E : G0) (a0 : Nat → Nat) (v0 : FL) (p1 : Int32) (p2 : Int32) (x : Bool) (hf : f_X3_owns v0 p1 p2 = some x) : Met l yX3_owns wsX3_owns rmX3_owns (va_Pc [.ref (a0 0), .int p1, .int p2] (PR E (wFL E a0 v0))) (vp_Si (fun r => r = bI x)) 0 0 (fun _ => False) := by
  refine Met.ofW (cc := cX3_owns) (maxL := 4) (ret := some .boolean) (by decide) rfl ?_
  intro p e s m args below meth c s₁ B hml hv
  obtain ⟨ha, hP, hC⟩ := hv
  have hx := B.exec
  have hb := B.bytes
  have hr := B.returns
  have hts := atoms_spec (ws := wsX3_owns) B.pre
  have hown : s.vm.findClass RX3 = some m.cls := findClass_of_methodNamed B.named
  have hlocks := B.notSynchronized
  have hS : va_S (fun _ => False) s.heap s.heap [] := va_S.rf
  generalize hQe : MQ below (vp_Si (fun r => r = bI x)) args s 0 0 (fun _ => False) = Q
  refine st_W ha (Nat.le_of_ble_eq_true rfl) (fun ls hl => ?_)
  have hl : lv_has ls 4 [(0, .ref (a0 0)), (1, .int p1), (2, .int p2)] := hl
  unfold f_X3_owns at hf
  refine lv_iconst (v := 0) hx hb dX3_owns_0 rfl ?_
  refine lv_istore_n (lv' := [(3, .int (0 : Int32)), (0, .ref (a0 0)), (1, .int p1), (2, .int p2)]) hx hb dX3_owns_1 rfl hl (by decide) rfl (fun ls hl => ?_)
  obtain ⟨K1, hK1, hf⟩ := jn_some hf
  have J1 : ∀ (q1 : Int32) (ls : Array Slot) (hl : lv_has ls 4 []) (hf : K1 q1 = some x), W p l e (headSpec wsX3_owns rmX3_owns).room s m args below meth c s.heap [] 0 0 Q (F0 m 30 ls []) := by
    intro q1 ls hl hf
    have hf := (hK1 q1).trans hf
    refine lv_iconst (v := 0) hx hb dX3_owns_30 rfl ?_
    cases Option.some.inj hf
    subst hQe
    exact en_z hx hb hr hlocks rfl dX3_owns_31
  have L1 : ∀ (n : Nat) (q1 : Int32) (ls : Array Slot) (hl : lv_has ls 4 [(0, .ref (a0 0)), (1, .int p1), (2, .int p2), (3, .int q1)]) (hf : lpF (bX3_owns_1 p2 v0 p1 K1) n q1 = some x), W p l e (headSpec wsX3_owns rmX3_owns).room s m args below meth c s.heap [] 0 0 Q (F0 m 2 ls []) := by
    intro n
    induction n with
    | zero => intro q1 ls hl hf; exact (lpF_zero hf).elim
    | succ n ih1 =>
      intro q1 ls hl hf
      have hf := lpF_succ hf
      unfold bX3_owns_1 at hf
      refine lv_iload_n hx hb dX3_owns_2 rfl (lv_at hl 3 rfl) ?_
      refine lv_iconst (v := 4) hx hb dX3_owns_3 rfl ?_
      refine lv_icmp_ge (tgt := 30) hx hb dX3_owns_4 rfl (fun c2 => ?_) (fun c2 => ?_)
      · have hf := it_t hf c2
        exact J1 q1 ls (lv_sub hl [] rfl) hf
      · have hf := it_f hf c2
        refine lv_iload_n hx hb dX3_owns_7 rfl (lv_at hl 2 rfl) ?_
        refine lv_iconst (v := (-1)) hx hb dX3_owns_8 rfl ?_
        refine lv_icmp_eq (tgt := 24) hx hb dX3_owns_9 rfl (fun c3 => ?_) (fun c3 => ?_)
        · have hf := it_t hf c3
          refine lv_iinc (v := (q1 + 1)) (lv' := [(3, .int (q1 + 1)), (0, .ref (a0 0)), (1, .int p1), (2, .int p2)]) hx hb dX3_owns_24 hl (k := 3) rfl rfl (by decide) rfl (fun ls hl => ?_)
          refine lv_goto (tgt := 2) hx hb dX3_owns_27 rfl ?_
          exact ih1 (q1 + 1) ls (lv_sub hl [1, 2, 3, 0] rfl) hf
        · have hf := it_f hf c3
          refine lv_aload_n hx hb dX3_owns_12 rfl (lv_at hl 0 rfl) ?_
          refine lv_iload_n hx hb dX3_owns_13 rfl (lv_at hl 1 rfl) ?_
          refine lv_iload_n hx hb dX3_owns_14 rfl (lv_at hl 3 rfl) ?_
          obtain ⟨r4, e4, hf⟩ := bd_some hf
          refine cr_i (va_runV (As := [.int p1, .int q1]) (rest := []) ⟨hx, hb, hml, hown, hts⟩ (c_X3_chunkOf l E a0 v0 p1 q1 r4 e4) (cwV 2 hts gX3_owns_X3_chunkOf rfl rfl rfl hdV_X3_chunkOf ⟨Nat.le_of_ble_eq_true rfl, Nat.le_of_ble_eq_true rfl⟩) ⟨PR.blind, va_recv hC.1 hP (ci := 3) (q0 := 0) rfl rfl, PR.pre hC hS hP⟩ rfl rfl hl.1 rfl (lv_room (Nat.le_of_ble_eq_true rfl)) dX3_owns_15 ⟨Nat.le_of_ble_eq_true rfl, Nat.le_of_ble_eq_true rfl⟩) ?_
          refine lv_iload_n hx hb dX3_owns_18 rfl (lv_at hl 2 rfl) ?_
          refine lv_icmp_ne (tgt := 24) hx hb dX3_owns_19 rfl (fun c5 => ?_) (fun c5 => ?_)
          · have hf := it_f hf c5
            refine lv_iinc (v := (q1 + 1)) (lv' := [(3, .int (q1 + 1)), (0, .ref (a0 0)), (1, .int p1), (2, .int p2)]) hx hb dX3_owns_24 hl (k := 3) rfl rfl (by decide) rfl (fun ls hl => ?_)
            refine lv_goto (tgt := 2) hx hb dX3_owns_27 rfl ?_
            exact ih1 (q1 + 1) ls (lv_sub hl [1, 2, 3, 0] rfl) hf
          · have hf := it_t hf c5
            refine lv_iconst (v := 1) hx hb dX3_owns_22 rfl ?_
            cases Option.some.inj hf
            subst hQe
            exact en_z hx hb hr hlocks rfl dX3_owns_23
  exact L1 FU (0 : Int32) ls (lv_sub hl [1, 2, 3, 0] rfl) hf
