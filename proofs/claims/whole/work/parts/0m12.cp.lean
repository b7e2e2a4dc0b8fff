/-! X2_clear -/
abbrev rmX2_clear : Room := { frames := 1, cells := 0, slots := 0, locals := 23 }
theorem hdS_X2_clear : yX2_clear.cls ≠ "java/lang/invoke/MethodHandle" ∧ yX2_clear.cls ≠ "java/lang/invoke/VarHandle" ∧ (parseMethodDescriptor yX2_clear.desc).map (fun d => d.parameters.length) = some 0 := by decide +kernel
theorem hdV_X2_clear : yX2_clear.cls = RX2 ∧ yX2_clear.cls ≠ "java/lang/invoke/MethodHandle" ∧ yX2_clear.cls ≠ "java/lang/invoke/VarHandle" ∧ (parseMethodDescriptor yX2_clear.desc).map (fun d => d.parameters.length) = some 0 := ⟨rfl, hdS_X2_clear⟩
set_option maxHeartbeats 4000000 in
set_option maxRecDepth 100000 in
theorem c_X2_clear (l : Launch) (E : G0) (sz : Nat) (a0 : Nat → Nat) (v0 : CP) (x : CP) (hf : f_X2_clear v0 = some x) : Met l yX2_clear wsX2_clear rmX2_clear (va_Pc [.ref (a0 0)] (PW E (wCP E a0 v0) sz)) (va_Qv (fun q => q = x) (fun q t => va_P E.1 vwCl ((fun q : CP => wCP E a0 q) q) t.heap ∧ va_D (va_A (wCP E a0 v0) sz) ((fun q : CP => wCP E a0 q) q)) (va_A (wCP E a0 v0) sz)) 0 0 (va_A (wCP E a0 v0) sz) := by
  refine Met.ofW (cc := cX2_clear) (maxL := 1) (ret := none) (by decide) rfl ?_
  intro p e s m args below meth c s₁ B hml hv
  obtain ⟨ha, hsz, hP, hD0, hC⟩ := hv
  have hx := B.exec
  have hb := B.bytes
  have hr := B.returns
  have hts := atoms_spec (ws := wsX2_clear) B.pre
  have hown : s.vm.findClass RX2 = some m.cls := findClass_of_methodNamed B.named
  have hlocks := B.notSynchronized
  subst hsz
  have hD := hD0.self (sz := s.heap.size)
  generalize hAe : va_A (wCP E a0 v0) s.heap.size = A at hD hC ⊢
  have hA : ∀ q : Nat, s.heap.size ≤ q → A q := fun q h => by rw [← hAe]; exact Or.inr h
  have hS : va_S A s.heap s.heap [] := va_S.rf
  have w1 : (Cond.fieldLink RX2 9 "GreatChunks$Copies" "version" "[I").before args s = true := hts _ (List.mem_of_getElem? (i := 1) rfl)
  have w2 : ∀ w ∈ wsX20, w ∈ wsX2_clear := in_pl 6 rfl
  generalize hQe : MQ below (va_Qv (fun q => q = x) (fun q t => va_P E.1 vwCl ((fun q : CP => wCP E a0 q) q) t.heap ∧ va_D A ((fun q : CP => wCP E a0 q) q)) A) args s 0 0 A = Q
  refine st_W ha (Nat.le_of_ble_eq_true rfl) (fun ls hl => ?_)
  have hl : lv_has ls 1 [(0, .ref (a0 0))] := hl
  unfold f_X2_clear at hf
  refine lv_aload_n hx hb dX2_clear_0 rfl (lv_at hl 0 rfl) ?_
  refine va_get (D := E.1) (ci := 2) (v := .ref (a0 1)) (C := RX2) (T := TX2) (N := 3) hx hb hts w2 hown hC.1 hP 0 rfl rfl 0 (by decide) w1 (fun _ h9 => h9) rfl dX2_clear_1 ?_
  refine lv_iconst (v := (-1)) hx hb dX2_clear_4 rfl ?_
  obtain ⟨r1, e1, hf⟩ := bd_some hf
  refine cq_v hP hD hS [1] [0, 2, 3] [0, 3, 1, 2] (va_free (wc := (wIA E (a0 1) 150 v0.1)) hD hS hA [1] rfl) (va_runS (As := [.ref (a0 1), .int (-1 : Int32)]) (rest := []) ⟨hx, hb, hml, hown, hts⟩ (c_J7_fill_53178 l E s.heap.size (a0 1) 150 v0.1 (-1 : Int32) r1 e1) (va_cwS 2 hts gX2_clear_J7_fill_53178 rfl rfl rfl hdS_J7_fill_53178 ⟨Nat.le_of_ble_eq_true rfl, Nat.le_of_ble_eq_true rfl⟩) ⟨PW.blind, PW.pre hC hS (hP.sub [1] rfl) (hD.sub [1] rfl rfl) (va_free hD hS hA [1] rfl)⟩ rfl rfl hl.1 rfl (lv_room (Nat.le_of_ble_eq_true rfl)) dX2_clear_5 ⟨Nat.le_of_ble_eq_true rfl, Nat.le_of_ble_eq_true rfl⟩) rfl rfl rfl rfl (wCP E a0 (r1, v0.2.1, v0.2.2)) rfl rfl (fun H locs hP hD hS => ?_)
  cases Option.some.inj hf
  subst hQe
  exact ew_v (wf := (fun q : CP => wCP E a0 q)) hx hb hr hlocks hP hD hS dX2_clear_8

/-! X2_become -/
abbrev rmX2_become : Room := { frames := 1, cells := 0, slots := 0, locals := 60 }
theorem hdS_X2_become : yX2_become.cls ≠ "java/lang/invoke/MethodHandle" ∧ yX2_become.cls ≠ "java/lang/invoke/VarHandle" ∧ (parseMethodDescriptor yX2_become.desc).map (fun d => d.parameters.length) = some 1 := by decide +kernel
theorem hdV_X2_become : yX2_become.cls = RX2 ∧ yX2_become.cls ≠ "java/lang/invoke/MethodHandle" ∧ yX2_become.cls ≠ "java/lang/invoke/VarHandle" ∧ (parseMethodDescriptor yX2_become.desc).map (fun d => d.parameters.length) = some 1 := ⟨rfl, hdS_X2_become⟩
set_option maxHeartbeats 4000000 in
set_option maxRecDepth 100000 in
theorem c_X2_become (l : Launch) (E : G0) (sz : Nat) (a0 : Nat → Nat) (v0 : CP) (a1 : Nat → Nat) (v1 : CP) (x : CP) (hf : f_X2_become v0 v1 = some x) : Met l yX2_become wsX2_become rmX2_become (va_Pc [.ref (a0 0), .ref (a1 0)] (PW E (wCP E a0 v0 ++ wCP E a1 v1) sz)) (va_Qv (fun q => q = x) (fun q t => va_P E.1 vwCl ((fun q : CP => wCP E a0 q ++ wCP E a1 v1) q) t.heap ∧ va_D (va_A (wCP E a0 v0 ++ wCP E a1 v1) sz) ((fun q : CP => wCP E a0 q ++ wCP E a1 v1) q)) (va_A (wCP E a0 v0 ++ wCP E a1 v1) sz)) 0 0 (va_A (wCP E a0 v0 ++ wCP E a1 v1) sz) := by
  refine Met.ofW (cc := cX2_become) (maxL := 2) (ret := none) (by decide) rfl ?_
  intro p e s m args below meth c s₁ B hml hv
  obtain ⟨ha, hsz, hP, hD0, hC⟩ := hv
  have hx := B.exec
  have hb := B.bytes
  have hr := B.returns
  have hts := atoms_spec (ws := wsX2_become) B.pre
  have hown : s.vm.findClass RX2 = some m.cls := findClass_of_methodNamed B.named
  have hlocks := B.notSynchronized
  subst hsz
  have hD := hD0.self (sz := s.heap.size)
  generalize hAe : va_A (wCP E a0 v0 ++ wCP E a1 v1) s.heap.size = A at hD hC ⊢
  have hA : ∀ q : Nat, s.heap.size ≤ q → A q := fun q h => by rw [← hAe]; exact Or.inr h
  have hS : va_S A s.heap s.heap [] := va_S.rf
  have w1 : (Cond.fieldLink RX2 9 "GreatChunks$Copies" "version" "[I").before args s = true := hts _ (List.mem_of_getElem? (i := 1) rfl)
  have w2 : ∀ w ∈ wsX20, w ∈ wsX2_become := in_pl 8 rfl
  have w3 : (Cond.methodLink RX2 27 arraycopyName).before args s = true := hts _ (List.mem_of_getElem? (i := 2) rfl)
  have w4 : (Cond.native arraycopyName).before args s = true := hts _ (List.mem_of_getElem? (i := 3) rfl)
  have w5 : (Cond.static arraycopyName).before args s = true := hts _ (List.mem_of_getElem? (i := 4) rfl)
  have w6 : (Cond.initialized "java/lang/System").before args s = true := hts _ (List.mem_of_getElem? (i := 5) rfl)
  have w7 : (Cond.fieldLink RX2 15 "GreatChunks$Copies" "filled" "[I").before args s = true := hts _ (List.mem_of_getElem? (i := 6) rfl)
  have w8 : (Cond.fieldLink RX2 18 "GreatChunks$Copies" "cells" "[I").before args s = true := hts _ (List.mem_of_getElem? (i := 7) rfl)
  generalize hQe : MQ below (va_Qv (fun q => q = x) (fun q t => va_P E.1 vwCl ((fun q : CP => wCP E a0 q ++ wCP E a1 v1) q) t.heap ∧ va_D A ((fun q : CP => wCP E a0 q ++ wCP E a1 v1) q)) A) args s 0 0 A = Q
  refine st_W ha (Nat.le_of_ble_eq_true rfl) (fun ls hl => ?_)
  have hl : lv_has ls 2 [(0, .ref (a0 0)), (1, .ref (a1 0))] := hl
  unfold f_X2_become at hf
  refine lv_aload_n hx hb dX2_become_0 rfl (lv_at hl 1 rfl) ?_
  refine va_get (D := E.1) (ci := 2) (v := .ref (a1 1)) (C := RX2) (T := TX2) (N := 3) hx hb hts w2 hown hC.1 hP 4 rfl rfl 0 (by decide) w1 (fun _ h9 => h9) rfl dX2_become_1 ?_
  refine lv_iconst (v := 0) hx hb dX2_become_4 rfl ?_
  refine lv_aload_n hx hb dX2_become_5 rfl (lv_at hl 0 rfl) ?_
  refine va_get (D := E.1) (ci := 2) (v := .ref (a0 1)) (C := RX2) (T := TX2) (N := 3) hx hb hts w2 hown hC.1 hP 0 rfl rfl 0 (by decide) w1 (fun _ h9 => h9) rfl dX2_become_6 ?_
  refine lv_iconst (v := 0) hx hb dX2_become_9 rfl ?_
  refine lv_aload_n hx hb dX2_become_10 rfl (lv_at hl 0 rfl) ?_
  refine va_get (D := E.1) (ci := 2) (v := .ref (a0 1)) (C := RX2) (T := TX2) (N := 3) hx hb hts w2 hown hC.1 hP 0 rfl rfl 0 (by decide) w1 (fun _ h9 => h9) rfl dX2_become_11 ?_
  refine va_alen (v := Int32.ofNat 150) hx hb hC.1 hP 1 0 rfl rfl rfl dX2_become_14 ?_
  refine va_copyi hx hb (by rw [hml]; exact hl.1.symm) hown w3 w4 w5 w6 hC.1 hP hD hS 5 1 0 0 rfl rfl rfl rfl rfl (by decide) (by decide) (by decide) (by decide) (by decide) (fun _ _ => rfl) (Nat.le_of_ble_eq_true rfl) (by decide) dX2_become_15 (fun H locs hP hD hS => ?_)
  have hP : va_P E.1 vwCl (wCP E a0 ((va_cpy v1.1 v0.1 (0 : Int32).toNatClampNeg (0 : Int32).toNatClampNeg (Int32.ofNat 150).toNatClampNeg), v0.2.1, v0.2.2) ++ wCP E a1 v1) H := hP
  have hD : va_D A (wCP E a0 ((va_cpy v1.1 v0.1 (0 : Int32).toNatClampNeg (0 : Int32).toNatClampNeg (Int32.ofNat 150).toNatClampNeg), v0.2.1, v0.2.2) ++ wCP E a1 v1) := hD
  refine lv_aload_n hx hb dX2_become_18 rfl (lv_at hl 1 rfl) ?_
  refine va_get (D := E.1) (ci := 2) (v := .ref (a1 2)) (C := RX2) (T := TX2) (N := 3) hx hb hts w2 hown hC.1 hP 4 rfl rfl 1 (by decide) w7 (fun _ h9 => h9) rfl dX2_become_19 ?_
  refine lv_iconst (v := 0) hx hb dX2_become_22 rfl ?_
  refine lv_aload_n hx hb dX2_become_23 rfl (lv_at hl 0 rfl) ?_
  refine va_get (D := E.1) (ci := 2) (v := .ref (a0 2)) (C := RX2) (T := TX2) (N := 3) hx hb hts w2 hown hC.1 hP 0 rfl rfl 1 (by decide) w7 (fun _ h9 => h9) rfl dX2_become_24 ?_
  refine lv_iconst (v := 0) hx hb dX2_become_27 rfl ?_
  refine lv_aload_n hx hb dX2_become_28 rfl (lv_at hl 0 rfl) ?_
  refine va_get (D := E.1) (ci := 2) (v := .ref (a0 2)) (C := RX2) (T := TX2) (N := 3) hx hb hts w2 hown hC.1 hP 0 rfl rfl 1 (by decide) w7 (fun _ h9 => h9) rfl dX2_become_29 ?_
  refine va_alen (v := Int32.ofNat 150) hx hb hC.1 hP 2 0 rfl rfl rfl dX2_become_32 ?_
  refine va_copyi hx hb (by rw [hml]; exact hl.1.symm) hown w3 w4 w5 w6 hC.1 hP hD hS 6 2 0 0 rfl rfl rfl rfl rfl (by decide) (by decide) (by decide) (by decide) (by decide) (fun _ _ => rfl) (Nat.le_of_ble_eq_true rfl) (by decide) dX2_become_33 (fun H locs hP hD hS => ?_)
  have hP : va_P E.1 vwCl (wCP E a0 ((va_cpy v1.1 v0.1 (0 : Int32).toNatClampNeg (0 : Int32).toNatClampNeg (Int32.ofNat 150).toNatClampNeg), (va_cpy v1.2.1 v0.2.1 (0 : Int32).toNatClampNeg (0 : Int32).toNatClampNeg (Int32.ofNat 150).toNatClampNeg), v0.2.2) ++ wCP E a1 v1) H := hP
  have hD : va_D A (wCP E a0 ((va_cpy v1.1 v0.1 (0 : Int32).toNatClampNeg (0 : Int32).toNatClampNeg (Int32.ofNat 150).toNatClampNeg), (va_cpy v1.2.1 v0.2.1 (0 : Int32).toNatClampNeg (0 : Int32).toNatClampNeg (Int32.ofNat 150).toNatClampNeg), v0.2.2) ++ wCP E a1 v1) := hD
  refine lv_aload_n hx hb dX2_become_36 rfl (lv_at hl 1 rfl) ?_
  refine va_get (D := E.1) (ci := 2) (v := .ref (a1 3)) (C := RX2) (T := TX2) (N := 3) hx hb hts w2 hown hC.1 hP 4 rfl rfl 2 (by decide) w8 (fun _ h9 => h9) rfl dX2_become_37 ?_
  refine lv_iconst (v := 0) hx hb dX2_become_40 rfl ?_
  refine lv_aload_n hx hb dX2_become_41 rfl (lv_at hl 0 rfl) ?_
  refine va_get (D := E.1) (ci := 2) (v := .ref (a0 3)) (C := RX2) (T := TX2) (N := 3) hx hb hts w2 hown hC.1 hP 0 rfl rfl 2 (by decide) w8 (fun _ h9 => h9) rfl dX2_become_42 ?_
  refine lv_iconst (v := 0) hx hb dX2_become_45 rfl ?_
  refine lv_aload_n hx hb dX2_become_46 rfl (lv_at hl 0 rfl) ?_
  refine va_get (D := E.1) (ci := 2) (v := .ref (a0 3)) (C := RX2) (T := TX2) (N := 3) hx hb hts w2 hown hC.1 hP 0 rfl rfl 2 (by decide) w8 (fun _ h9 => h9) rfl dX2_become_47 ?_
  refine va_alen (v := Int32.ofNat 1350) hx hb hC.1 hP 3 0 rfl rfl rfl dX2_become_50 ?_
  refine va_copyi hx hb (by rw [hml]; exact hl.1.symm) hown w3 w4 w5 w6 hC.1 hP hD hS 7 3 0 0 rfl rfl rfl rfl rfl (by decide) (by decide) (by decide) (by decide) (by decide) (fun _ _ => rfl) (Nat.le_of_ble_eq_true rfl) (by decide) dX2_become_51 (fun H locs hP hD hS => ?_)
  have hP : va_P E.1 vwCl (wCP E a0 ((va_cpy v1.1 v0.1 (0 : Int32).toNatClampNeg (0 : Int32).toNatClampNeg (Int32.ofNat 150).toNatClampNeg), (va_cpy v1.2.1 v0.2.1 (0 : Int32).toNatClampNeg (0 : Int32).toNatClampNeg (Int32.ofNat 150).toNatClampNeg), (va_cpy v1.2.2 v0.2.2 (0 : Int32).toNatClampNeg (0 : Int32).toNatClampNeg (Int32.ofNat 1350).toNatClampNeg)) ++ wCP E a1 v1) H := hP
  have hD : va_D A (wCP E a0 ((va_cpy v1.1 v0.1 (0 : Int32).toNatClampNeg (0 : Int32).toNatClampNeg (Int32.ofNat 150).toNatClampNeg), (va_cpy v1.2.1 v0.2.1 (0 : Int32).toNatClampNeg (0 : Int32).toNatClampNeg (Int32.ofNat 150).toNatClampNeg), (va_cpy v1.2.2 v0.2.2 (0 : Int32).toNatClampNeg (0 : Int32).toNatClampNeg (Int32.ofNat 1350).toNatClampNeg)) ++ wCP E a1 v1) := hD
  cases Option.some.inj hf
  subst hQe
  exact ew_v (wf := (fun q : CP => wCP E a0 q ++ wCP E a1 v1)) hx hb hr hlocks hP hD hS dX2_become_54

/-! X2_placeOf -/
abbrev rmX2_placeOf : Room := { frames := 0, cells := 0, slots := 0, locals := 0 }
theorem hdS_X2_placeOf : yX2_placeOf.cls ≠ "java/lang/invoke/MethodHandle" ∧ yX2_placeOf.cls ≠ "java/lang/invoke/VarHandle" ∧ (parseMethodDescriptor yX2_placeOf.desc).map (fun d => d.parameters.length) = some 2 := by decide +kernel
set_option maxHeartbeats 4000000 in
set_option maxRecDepth 100000 in
theorem c_X2_placeOf (l : Launch) (E : G0) (p0 : Int32) (p1 : Int32) (x : Int32) (hf : f_X2_placeOf p0 p1 = x) : Met l yX2_placeOf wsX2_placeOf rmX2_placeOf (va_Pc [.int p0, .int p1] (PR E ([] : va_W))) (vp_Si (fun r => r = x)) 0 0 (fun _ => False) := by
  refine Met.ofW (cc := cX2_placeOf) (maxL := 3) (ret := some .int) (by decide) rfl ?_
  intro p e s m args below meth c s₁ B hml hv
  obtain ⟨ha, hP, hC⟩ := hv
  have hx := B.exec
  have hb := B.bytes
  have hr := B.returns
  have hts := atoms_spec (ws := wsX2_placeOf) B.pre
  have hown : s.vm.findClass RX2 = some m.cls := findClass_of_methodNamed B.named
  have hlocks := B.notSynchronized
  have hS : va_S (fun _ => False) s.heap s.heap [] := va_S.rf
  generalize hQe : MQ below (vp_Si (fun r => r = x)) args s 0 0 (fun _ => False) = Q
  refine st_W ha (Nat.le_of_ble_eq_true rfl) (fun ls hl => ?_)
  have hl : lv_has ls 3 [(0, .int p0), (1, .int p1)] := hl
  unfold f_X2_placeOf at hf
  refine lv_iload_n hx hb dX2_placeOf_0 rfl (lv_at hl 0 rfl) ?_
  obtain ⟨q1, e1, hf⟩ := bt_eq hf
  have J1 : W p l e (headSpec wsX2_placeOf rmX2_placeOf).room s m args below meth c s.heap [] 0 0 Q (F0 m 24 ls [.int (bI q1)]) := by
    refine lv_istore_n (lv' := [(2, .int (bI q1)), (0, .int p0), (1, .int p1)]) hx hb dX2_placeOf_24 rfl hl (by decide) rfl (fun ls hl => ?_)
    refine lv_iload_n hx hb dX2_placeOf_25 rfl (lv_at hl 0 rfl) ?_
    refine lv_if_eq (tgt := 37) hx hb dX2_placeOf_26 rfl (fun c2 => ?_) (fun c2 => ?_)
    · have hf := it_t hf c2
      refine lv_iconst (v := (-1)) hx hb dX2_placeOf_37 rfl ?_
      subst hf
      subst hQe
      exact en_i hx hb hr hlocks dX2_placeOf_38
    · have hf := it_f hf c2
      refine lv_iload_n hx hb dX2_placeOf_29 rfl (lv_at hl 2 rfl) ?_
      refine lv_iconst (v := 5) hx hb dX2_placeOf_30 rfl ?_
      refine lv_imul hx hb dX2_placeOf_31 ?_
      refine lv_iload_n hx hb dX2_placeOf_32 rfl (lv_at hl 1 rfl) ?_
      refine lv_iadd hx hb dX2_placeOf_33 ?_
      refine lv_goto (tgt := 38) hx hb dX2_placeOf_34 rfl ?_
      subst hf
      subst hQe
      exact en_i hx hb hr hlocks dX2_placeOf_38
  have hf := e1
  refine lv_if_lt (tgt := 23) hx hb dX2_placeOf_1 rfl (fun c3 => ?_) (fun c3 => ?_)
  · have hf := it_t hf c3
    refine lv_iconst (v := 0) hx hb dX2_placeOf_23 rfl ?_
    cases hf
    exact J1
  · have hf := it_f hf c3
    refine lv_iload_n hx hb dX2_placeOf_4 rfl (lv_at hl 0 rfl) ?_
    refine lv_iconst (v := 5) hx hb dX2_placeOf_5 rfl ?_
    refine lv_icmp_ge (tgt := 23) hx hb dX2_placeOf_6 rfl (fun c4 => ?_) (fun c4 => ?_)
    · have hf := it_t hf c4
      refine lv_iconst (v := 0) hx hb dX2_placeOf_23 rfl ?_
      cases hf
      exact J1
    · have hf := it_f hf c4
      refine lv_iload_n hx hb dX2_placeOf_9 rfl (lv_at hl 1 rfl) ?_
      refine lv_if_lt (tgt := 23) hx hb dX2_placeOf_10 rfl (fun c5 => ?_) (fun c5 => ?_)
      · have hf := it_t hf c5
        refine lv_iconst (v := 0) hx hb dX2_placeOf_23 rfl ?_
        cases hf
        exact J1
      · have hf := it_f hf c5
        refine lv_iload_n hx hb dX2_placeOf_13 rfl (lv_at hl 1 rfl) ?_
        refine lv_bipush (v := 30) hx hb dX2_placeOf_14 rfl ?_
        refine lv_icmp_ge (tgt := 23) hx hb dX2_placeOf_16 rfl (fun c6 => ?_) (fun c6 => ?_)
        · have hf := it_t hf c6
          refine lv_iconst (v := 0) hx hb dX2_placeOf_23 rfl ?_
          cases hf
          exact J1
        · have hf := it_f hf c6
          refine lv_iconst (v := 1) hx hb dX2_placeOf_19 rfl ?_
          refine lv_goto (tgt := 24) hx hb dX2_placeOf_20 rfl ?_
          cases hf
          exact J1

/-! X2_versionOf -/
abbrev rmX2_versionOf : Room := { frames := 1, cells := 0, slots := 0, locals := 22 }
theorem hdS_X2_versionOf : yX2_versionOf.cls ≠ "java/lang/invoke/MethodHandle" ∧ yX2_versionOf.cls ≠ "java/lang/invoke/VarHandle" ∧ (parseMethodDescriptor yX2_versionOf.desc).map (fun d => d.parameters.length) = some 2 := by decide +kernel
theorem hdV_X2_versionOf : yX2_versionOf.cls = RX2 ∧ yX2_versionOf.cls ≠ "java/lang/invoke/MethodHandle" ∧ yX2_versionOf.cls ≠ "java/lang/invoke/VarHandle" ∧ (parseMethodDescriptor yX2_versionOf.desc).map (fun d => d.parameters.length) = some 2 := ⟨rfl, hdS_X2_versionOf⟩
set_option maxHeartbeats 4000000 in
set_option maxRecDepth 100000 in
theorem c_X2_versionOf (l : Launch) (E : G0) (a0 : Nat → Nat) (v0 : CP) (p1 : Int32) (p2 : Int32) (x : Int32) (hf : f_X2_versionOf v0 p1 p2 = some x) : Met l yX2_versionOf wsX2_versionOf rmX2_versionOf (va_Pc [.ref (a0 0), .int p1, .int p2] (PR E (wCP E a0 v0))) (vp_Si (fun r => r = x)) 0 0 (fun _ => False) := by
  refine Met.ofW (cc := cX2_versionOf) (maxL := 4) (ret := some .int) (by decide) rfl ?_
  intro p e s m args below meth c s₁ B hml hv
  obtain ⟨ha, hP, hC⟩ := hv
  have hx := B.exec
  have hb := B.bytes
  have hr := B.returns
  have hts := atoms_spec (ws := wsX2_versionOf) B.pre
  have hown : s.vm.findClass RX2 = some m.cls := findClass_of_methodNamed B.named
  have hlocks := B.notSynchronized
  have hS : va_S (fun _ => False) s.heap s.heap [] := va_S.rf
  have w1 : (Cond.fieldLink RX2 9 "GreatChunks$Copies" "version" "[I").before args s = true := hts _ (List.mem_of_getElem? (i := 1) rfl)
  have w2 : ∀ w ∈ wsX20, w ∈ wsX2_versionOf := in_pl 6 rfl
  generalize hQe : MQ below (vp_Si (fun r => r = x)) args s 0 0 (fun _ => False) = Q
  refine st_W ha (Nat.le_of_ble_eq_true rfl) (fun ls hl => ?_)
  have hl : lv_has ls 4 [(0, .ref (a0 0)), (1, .int p1), (2, .int p2)] := hl
  unfold f_X2_versionOf at hf
  refine lv_iload_n hx hb dX2_versionOf_0 rfl (lv_at hl 1 rfl) ?_
  refine lv_iload_n hx hb dX2_versionOf_1 rfl (lv_at hl 2 rfl) ?_
  refine cr_i (va_runS (As := [.int p1, .int p2]) (rest := []) ⟨hx, hb, hml, hown, hts⟩ (c_X2_placeOf l E p1 p2 _ rfl) (va_cwS 2 hts gX2_versionOf_X2_placeOf rfl rfl rfl hdS_X2_placeOf ⟨Nat.le_of_ble_eq_true rfl, Nat.le_of_ble_eq_true rfl⟩) ⟨PR.blind, PR.pre hC hS (hP.sub [] rfl)⟩ rfl rfl hl.1 rfl (lv_room (Nat.le_of_ble_eq_true rfl)) dX2_versionOf_2 ⟨Nat.le_of_ble_eq_true rfl, Nat.le_of_ble_eq_true rfl⟩) ?_
  refine lv_istore_n (lv' := [(3, .int (f_X2_placeOf p1 p2)), (0, .ref (a0 0)), (1, .int p1), (2, .int p2)]) hx hb dX2_versionOf_5 rfl hl (by decide) rfl (fun ls hl => ?_)
  refine lv_iload_n hx hb dX2_versionOf_6 rfl (lv_at hl 0 rfl) ?_
  refine lv_iconst (v := (-1)) hx hb dX2_versionOf_7 rfl ?_
  refine lv_icmp_ne (tgt := 15) hx hb dX2_versionOf_8 rfl (fun c1 => ?_) (fun c1 => ?_)
  · have hf := it_f hf c1
    refine lv_aload_n hx hb dX2_versionOf_15 rfl (lv_at hl 1 rfl) ?_
    refine va_get (D := E.1) (ci := 2) (v := .ref (a0 1)) (C := RX2) (T := TX2) (N := 3) hx hb hts w2 hown hC.1 hP 0 rfl rfl 0 (by decide) w1 (fun _ h9 => h9) rfl dX2_versionOf_16 ?_
    refine lv_iload_n hx hb dX2_versionOf_19 rfl (lv_at hl 0 rfl) ?_
    obtain ⟨h2, hf⟩ := gdI_some hf
    refine va_iald hx hb hC.1 hP 1 0 rfl rfl h2 dX2_versionOf_20 ?_
    cases Option.some.inj hf
    subst hQe
    exact en_i hx hb hr hlocks dX2_versionOf_21
  · have hf := it_t hf c1
    refine lv_iconst (v := (-1)) hx hb dX2_versionOf_11 rfl ?_
    refine lv_goto (tgt := 21) hx hb dX2_versionOf_12 rfl ?_
    cases Option.some.inj hf
    subst hQe
    exact en_i hx hb hr hlocks dX2_versionOf_21

/-! X2_lies -/
abbrev rmX2_lies : Room := { frames := 2, cells := 0, slots := 0, locals := 45 }
theorem hdS_X2_lies : yX2_lies.cls ≠ "java/lang/invoke/MethodHandle" ∧ yX2_lies.cls ≠ "java/lang/invoke/VarHandle" ∧ (parseMethodDescriptor yX2_lies.desc).map (fun d => d.parameters.length) = some 2 := by decide +kernel
theorem hdV_X2_lies : yX2_lies.cls = RX2 ∧ yX2_lies.cls ≠ "java/lang/invoke/MethodHandle" ∧ yX2_lies.cls ≠ "java/lang/invoke/VarHandle" ∧ (parseMethodDescriptor yX2_lies.desc).map (fun d => d.parameters.length) = some 2 := ⟨rfl, hdS_X2_lies⟩
set_option maxHeartbeats 4000000 in
set_option maxRecDepth 100000 in
theorem c_X2_lies (l : Launch) (E : G0) (a0 : Nat → Nat) (v0 : CP) (p1 : Int32) (p2 : Int32) (x : Bool) (hf : f_X2_lies v0 p1 p2 = some x) : Met l yX2_lies wsX2_lies rmX2_lies (va_Pc [.ref (a0 0), .int p1, .int p2] (PR E (wCP E a0 v0))) (vp_Si (fun r => r = bI x)) 0 0 (fun _ => False) := by
  refine Met.ofW (cc := cX2_lies) (maxL := 3) (ret := some .boolean) (by decide) rfl ?_
  intro p e s m args below meth c s₁ B hml hv
  obtain ⟨ha, hP, hC⟩ := hv
  have hx := B.exec
  have hb := B.bytes
  have hr := B.returns
  have hts := atoms_spec (ws := wsX2_lies) B.pre
  have hown : s.vm.findClass RX2 = some m.cls := findClass_of_methodNamed B.named
  have hlocks := B.notSynchronized
  have hS : va_S (fun _ => False) s.heap s.heap [] := va_S.rf
  generalize hQe : MQ below (vp_Si (fun r => r = bI x)) args s 0 0 (fun _ => False) = Q
  refine st_W ha (Nat.le_of_ble_eq_true rfl) (fun ls hl => ?_)
  have hl : lv_has ls 3 [(0, .ref (a0 0)), (1, .int p1), (2, .int p2)] := hl
  unfold f_X2_lies at hf
  refine lv_aload_n hx hb dX2_lies_0 rfl (lv_at hl 0 rfl) ?_
  refine lv_iload_n hx hb dX2_lies_1 rfl (lv_at hl 1 rfl) ?_
  refine lv_iload_n hx hb dX2_lies_2 rfl (lv_at hl 2 rfl) ?_
  obtain ⟨r1, e1, hf⟩ := bd_some hf
  refine cr_i (va_runV (As := [.int p1, .int p2]) (rest := []) ⟨hx, hb, hml, hown, hts⟩ (c_X2_versionOf l E a0 v0 p1 p2 r1 e1) (cwV 2 hts gX2_lies_X2_versionOf rfl rfl rfl hdV_X2_versionOf ⟨Nat.le_of_ble_eq_true rfl, Nat.le_of_ble_eq_true rfl⟩) ⟨PR.blind, va_recv hC.1 hP (ci := 2) (q0 := 0) rfl rfl, PR.pre hC hS hP⟩ rfl rfl hl.1 rfl (lv_room (Nat.le_of_ble_eq_true rfl)) dX2_lies_3 ⟨Nat.le_of_ble_eq_true rfl, Nat.le_of_ble_eq_true rfl⟩) ?_
  refine lv_iconst (v := (-1)) hx hb dX2_lies_6 rfl ?_
  refine lv_icmp_eq (tgt := 14) hx hb dX2_lies_7 rfl (fun c2 => ?_) (fun c2 => ?_)
  · have hf := it_t hf c2
    refine lv_iconst (v := 0) hx hb dX2_lies_14 rfl ?_
    cases Option.some.inj hf
    subst hQe
    exact en_z hx hb hr hlocks rfl dX2_lies_15
  · have hf := it_f hf c2
    refine lv_iconst (v := 1) hx hb dX2_lies_10 rfl ?_
    refine lv_goto (tgt := 15) hx hb dX2_lies_11 rfl ?_
    cases Option.some.inj hf
    subst hQe
    exact en_z hx hb hr hlocks rfl dX2_lies_15

/-! X2_filledOf -/
abbrev rmX2_filledOf : Room := { frames := 1, cells := 0, slots := 0, locals := 22 }
theorem hdS_X2_filledOf : yX2_filledOf.cls ≠ "java/lang/invoke/MethodHandle" ∧ yX2_filledOf.cls ≠ "java/lang/invoke/VarHandle" ∧ (parseMethodDescriptor yX2_filledOf.desc).map (fun d => d.parameters.length) = some 2 := by decide +kernel
theorem hdV_X2_filledOf : yX2_filledOf.cls = RX2 ∧ yX2_filledOf.cls ≠ "java/lang/invoke/MethodHandle" ∧ yX2_filledOf.cls ≠ "java/lang/invoke/VarHandle" ∧ (parseMethodDescriptor yX2_filledOf.desc).map (fun d => d.parameters.length) = some 2 := ⟨rfl, hdS_X2_filledOf⟩
set_option maxHeartbeats 4000000 in
set_option maxRecDepth 100000 in
theorem c_X2_filledOf (l : Launch) (E : G0) (a0 : Nat → Nat) (v0 : CP) (p1 : Int32) (p2 : Int32) (x : Int32) (hf : f_X2_filledOf v0 p1 p2 = some x) : Met l yX2_filledOf wsX2_filledOf rmX2_filledOf (va_Pc [.ref (a0 0), .int p1, .int p2] (PR E (wCP E a0 v0))) (vp_Si (fun r => r = x)) 0 0 (fun _ => False) := by
  refine Met.ofW (cc := cX2_filledOf) (maxL := 4) (ret := some .int) (by decide) rfl ?_
  intro p e s m args below meth c s₁ B hml hv
  obtain ⟨ha, hP, hC⟩ := hv
  have hx := B.exec
  have hb := B.bytes
  have hr := B.returns
  have hts := atoms_spec (ws := wsX2_filledOf) B.pre
  have hown : s.vm.findClass RX2 = some m.cls := findClass_of_methodNamed B.named
  have hlocks := B.notSynchronized
  have hS : va_S (fun _ => False) s.heap s.heap [] := va_S.rf
  have w1 : (Cond.fieldLink RX2 15 "GreatChunks$Copies" "filled" "[I").before args s = true := hts _ (List.mem_of_getElem? (i := 1) rfl)
  have w2 : ∀ w ∈ wsX20, w ∈ wsX2_filledOf := in_pl 6 rfl
  generalize hQe : MQ below (vp_Si (fun r => r = x)) args s 0 0 (fun _ => False) = Q
  refine st_W ha (Nat.le_of_ble_eq_true rfl) (fun ls hl => ?_)
  have hl : lv_has ls 4 [(0, .ref (a0 0)), (1, .int p1), (2, .int p2)] := hl
  unfold f_X2_filledOf at hf
  refine lv_iload_n hx hb dX2_filledOf_0 rfl (lv_at hl 1 rfl) ?_
  refine lv_iload_n hx hb dX2_filledOf_1 rfl (lv_at hl 2 rfl) ?_
  refine cr_i (va_runS (As := [.int p1, .int p2]) (rest := []) ⟨hx, hb, hml, hown, hts⟩ (c_X2_placeOf l E p1 p2 _ rfl) (va_cwS 2 hts gX2_filledOf_X2_placeOf rfl rfl rfl hdS_X2_placeOf ⟨Nat.le_of_ble_eq_true rfl, Nat.le_of_ble_eq_true rfl⟩) ⟨PR.blind, PR.pre hC hS (hP.sub [] rfl)⟩ rfl rfl hl.1 rfl (lv_room (Nat.le_of_ble_eq_true rfl)) dX2_filledOf_2 ⟨Nat.le_of_ble_eq_true rfl, Nat.le_of_ble_eq_true rfl⟩) ?_
  refine lv_istore_n (lv' := [(3, .int (f_X2_placeOf p1 p2)), (0, .ref (a0 0)), (1, .int p1), (2, .int p2)]) hx hb dX2_filledOf_5 rfl hl (by decide) rfl (fun ls hl => ?_)
  refine lv_iload_n hx hb dX2_filledOf_6 rfl (lv_at hl 0 rfl) ?_
  refine lv_iconst (v := (-1)) hx hb dX2_filledOf_7 rfl ?_
  refine lv_icmp_ne (tgt := 15) hx hb dX2_filledOf_8 rfl (fun c1 => ?_) (fun c1 => ?_)
  · have hf := it_f hf c1
    refine lv_aload_n hx hb dX2_filledOf_15 rfl (lv_at hl 1 rfl) ?_
    refine va_get (D := E.1) (ci := 2) (v := .ref (a0 2)) (C := RX2) (T := TX2) (N := 3) hx hb hts w2 hown hC.1 hP 0 rfl rfl 1 (by decide) w1 (fun _ h9 => h9) rfl dX2_filledOf_16 ?_
    refine lv_iload_n hx hb dX2_filledOf_19 rfl (lv_at hl 0 rfl) ?_
    obtain ⟨h2, hf⟩ := gdI_some hf
    refine va_iald hx hb hC.1 hP 2 0 rfl rfl h2 dX2_filledOf_20 ?_
    cases Option.some.inj hf
    subst hQe
    exact en_i hx hb hr hlocks dX2_filledOf_21
  · have hf := it_t hf c1
    refine lv_iconst (v := 0) hx hb dX2_filledOf_11 rfl ?_
    refine lv_goto (tgt := 21) hx hb dX2_filledOf_12 rfl ?_
    cases Option.some.inj hf
    subst hQe
    exact en_i hx hb hr hlocks dX2_filledOf_21

/-! X2_cell -/
abbrev rmX2_cell : Room := { frames := 1, cells := 0, slots := 0, locals := 22 }
theorem hdS_X2_cell : yX2_cell.cls ≠ "java/lang/invoke/MethodHandle" ∧ yX2_cell.cls ≠ "java/lang/invoke/VarHandle" ∧ (parseMethodDescriptor yX2_cell.desc).map (fun d => d.parameters.length) = some 3 := by decide +kernel
theorem hdV_X2_cell : yX2_cell.cls = RX2 ∧ yX2_cell.cls ≠ "java/lang/invoke/MethodHandle" ∧ yX2_cell.cls ≠ "java/lang/invoke/VarHandle" ∧ (parseMethodDescriptor yX2_cell.desc).map (fun d => d.parameters.length) = some 3 := ⟨rfl, hdS_X2_cell⟩
set_option maxHeartbeats 4000000 in
set_option maxRecDepth 100000 in
theorem c_X2_cell (l : Launch) (E : G0) (a0 : Nat → Nat) (v0 : CP) (p1 : Int32) (p2 : Int32) (p3 : Int32) (x : Int32) (hf : f_X2_cell v0 p1 p2 p3 = some x) : Met l yX2_cell wsX2_cell rmX2_cell (va_Pc [.ref (a0 0), .int p1, .int p2, .int p3] (PR E (wCP E a0 v0))) (vp_Si (fun r => r = x)) 0 0 (fun _ => False) := by
  refine Met.ofW (cc := cX2_cell) (maxL := 6) (ret := some .int) (by decide) rfl ?_
  intro p e s m args below meth c s₁ B hml hv
  obtain ⟨ha, hP, hC⟩ := hv
  have hx := B.exec
  have hb := B.bytes
  have hr := B.returns
  have hts := atoms_spec (ws := wsX2_cell) B.pre
  have hown : s.vm.findClass RX2 = some m.cls := findClass_of_methodNamed B.named
  have hlocks := B.notSynchronized
  have hS : va_S (fun _ => False) s.heap s.heap [] := va_S.rf
  have w1 : (Cond.constant RX2 40 (-1000000)).before args s = true := hts _ (List.mem_of_getElem? (i := 2) rfl)
  have w2 : (Cond.fieldLink RX2 18 "GreatChunks$Copies" "cells" "[I").before args s = true := hts _ (List.mem_of_getElem? (i := 1) rfl)
  have w3 : ∀ w ∈ wsX20, w ∈ wsX2_cell := in_pl 7 rfl
  generalize hQe : MQ below (vp_Si (fun r => r = x)) args s 0 0 (fun _ => False) = Q
  refine st_W ha (Nat.le_of_ble_eq_true rfl) (fun ls hl => ?_)
  have hl : lv_has ls 6 [(0, .ref (a0 0)), (1, .int p1), (2, .int p2), (3, .int p3)] := hl
  unfold f_X2_cell at hf
  refine lv_iload_n hx hb dX2_cell_0 rfl (lv_at hl 1 rfl) ?_
  refine lv_iload_n hx hb dX2_cell_1 rfl (lv_at hl 2 rfl) ?_
  refine cr_i (va_runS (As := [.int p1, .int p2]) (rest := []) ⟨hx, hb, hml, hown, hts⟩ (c_X2_placeOf l E p1 p2 _ rfl) (va_cwS 2 hts gX2_cell_X2_placeOf rfl rfl rfl hdS_X2_placeOf ⟨Nat.le_of_ble_eq_true rfl, Nat.le_of_ble_eq_true rfl⟩) ⟨PR.blind, PR.pre hC hS (hP.sub [] rfl)⟩ rfl rfl hl.1 rfl (lv_room (Nat.le_of_ble_eq_true rfl)) dX2_cell_2 ⟨Nat.le_of_ble_eq_true rfl, Nat.le_of_ble_eq_true rfl⟩) ?_
  refine lv_istore (lv' := [(4, .int (f_X2_placeOf p1 p2)), (0, .ref (a0 0)), (1, .int p1), (2, .int p2), (3, .int p3)]) hx hb dX2_cell_5 hl (by decide) rfl (fun ls hl => ?_)
  refine lv_iload hx hb dX2_cell_7 (lv_at hl 0 rfl) ?_
  refine lv_iconst (v := (-1)) hx hb dX2_cell_9 rfl ?_
  obtain ⟨q1, e1, hf⟩ := bt_eq hf
  have J1 : W p l e (headSpec wsX2_cell rmX2_cell).room s m args below meth c s.heap [] 0 0 Q (F0 m 28 ls [.int (bI q1)]) := by
    refine lv_istore (lv' := [(5, .int (bI q1)), (4, .int (f_X2_placeOf p1 p2)), (0, .ref (a0 0)), (1, .int p1), (2, .int p2), (3, .int p3)]) hx hb dX2_cell_28 hl (by decide) rfl (fun ls hl => ?_)
    refine lv_iload hx hb dX2_cell_30 (lv_at hl 0 rfl) ?_
    refine lv_if_eq (tgt := 50) hx hb dX2_cell_32 rfl (fun c2 => ?_) (fun c2 => ?_)
    · have hf := it_t hf c2
      refine lv_ldc hx hb hown w1 dX2_cell_50 ?_
      cases Option.some.inj hf
      subst hQe
      exact en_i hx hb hr hlocks dX2_cell_52
    · have hf := it_f hf c2
      refine lv_aload_n hx hb dX2_cell_35 rfl (lv_at hl 2 rfl) ?_
      refine va_get (D := E.1) (ci := 2) (v := .ref (a0 3)) (C := RX2) (T := TX2) (N := 3) hx hb hts w3 hown hC.1 hP 0 rfl rfl 2 (by decide) w2 (fun _ h9 => h9) rfl dX2_cell_36 ?_
      refine lv_iload hx hb dX2_cell_39 (lv_at hl 1 rfl) ?_
      refine lv_bipush (v := 9) hx hb dX2_cell_41 rfl ?_
      refine lv_imul hx hb dX2_cell_43 ?_
      refine lv_iload_n hx hb dX2_cell_44 rfl (lv_at hl 5 rfl) ?_
      refine lv_iadd hx hb dX2_cell_45 ?_
      obtain ⟨h3, hf⟩ := gdI_some hf
      refine va_iald hx hb hC.1 hP 3 0 rfl rfl h3 dX2_cell_46 ?_
      refine lv_goto (tgt := 52) hx hb dX2_cell_47 rfl ?_
      cases Option.some.inj hf
      subst hQe
      exact en_i hx hb hr hlocks dX2_cell_52
  have hf := e1
  refine lv_icmp_eq (tgt := 27) hx hb dX2_cell_10 rfl (fun c4 => ?_) (fun c4 => ?_)
  · have hf := it_t hf c4
    refine lv_iconst (v := 0) hx hb dX2_cell_27 rfl ?_
    cases hf
    exact J1
  · have hf := it_f hf c4
    refine lv_iload_n hx hb dX2_cell_13 rfl (lv_at hl 4 rfl) ?_
    refine lv_if_lt (tgt := 27) hx hb dX2_cell_14 rfl (fun c5 => ?_) (fun c5 => ?_)
    · have hf := it_t hf c5
      refine lv_iconst (v := 0) hx hb dX2_cell_27 rfl ?_
      cases hf
      exact J1
    · have hf := it_f hf c5
      refine lv_iload_n hx hb dX2_cell_17 rfl (lv_at hl 4 rfl) ?_
      refine lv_bipush (v := 9) hx hb dX2_cell_18 rfl ?_
      refine lv_icmp_ge (tgt := 27) hx hb dX2_cell_20 rfl (fun c6 => ?_) (fun c6 => ?_)
      · have hf := it_t hf c6
        refine lv_iconst (v := 0) hx hb dX2_cell_27 rfl ?_
        cases hf
        exact J1
      · have hf := it_f hf c6
        refine lv_iconst (v := 1) hx hb dX2_cell_23 rfl ?_
        refine lv_goto (tgt := 28) hx hb dX2_cell_24 rfl ?_
        cases hf
        exact J1

/-! X2_setVersion -/
abbrev rmX2_setVersion : Room := { frames := 1, cells := 0, slots := 0, locals := 22 }
theorem hdS_X2_setVersion : yX2_setVersion.cls ≠ "java/lang/invoke/MethodHandle" ∧ yX2_setVersion.cls ≠ "java/lang/invoke/VarHandle" ∧ (parseMethodDescriptor yX2_setVersion.desc).map (fun d => d.parameters.length) = some 3 := by decide +kernel
theorem hdV_X2_setVersion : yX2_setVersion.cls = RX2 ∧ yX2_setVersion.cls ≠ "java/lang/invoke/MethodHandle" ∧ yX2_setVersion.cls ≠ "java/lang/invoke/VarHandle" ∧ (parseMethodDescriptor yX2_setVersion.desc).map (fun d => d.parameters.length) = some 3 := ⟨rfl, hdS_X2_setVersion⟩
set_option maxHeartbeats 4000000 in
set_option maxRecDepth 100000 in
theorem c_X2_setVersion (l : Launch) (E : G0) (sz : Nat) (a0 : Nat → Nat) (v0 : CP) (p1 : Int32) (p2 : Int32) (p3 : Int32) (x : CP) (hf : f_X2_setVersion v0 p1 p2 p3 = some x) : Met l yX2_setVersion wsX2_setVersion rmX2_setVersion (va_Pc [.ref (a0 0), .int p1, .int p2, .int p3] (PW E (wCP E a0 v0) sz)) (va_Qv (fun q => q = x) (fun q t => va_P E.1 vwCl ((fun q : CP => wCP E a0 q) q) t.heap ∧ va_D (va_A (wCP E a0 v0) sz) ((fun q : CP => wCP E a0 q) q)) (va_A (wCP E a0 v0) sz)) 0 0 (va_A (wCP E a0 v0) sz) := by
  refine Met.ofW (cc := cX2_setVersion) (maxL := 5) (ret := none) (by decide) rfl ?_
  intro p e s m args below meth c s₁ B hml hv
  obtain ⟨ha, hsz, hP, hD0, hC⟩ := hv
  have hx := B.exec
  have hb := B.bytes
  have hr := B.returns
  have hts := atoms_spec (ws := wsX2_setVersion) B.pre
  have hown : s.vm.findClass RX2 = some m.cls := findClass_of_methodNamed B.named
  have hlocks := B.notSynchronized
  subst hsz
  have hD := hD0.self (sz := s.heap.size)
  generalize hAe : va_A (wCP E a0 v0) s.heap.size = A at hD hC ⊢
  have hA : ∀ q : Nat, s.heap.size ≤ q → A q := fun q h => by rw [← hAe]; exact Or.inr h
  have hS : va_S A s.heap s.heap [] := va_S.rf
  have w1 : (Cond.fieldLink RX2 9 "GreatChunks$Copies" "version" "[I").before args s = true := hts _ (List.mem_of_getElem? (i := 1) rfl)
  have w2 : ∀ w ∈ wsX20, w ∈ wsX2_setVersion := in_pl 6 rfl
  generalize hQe : MQ below (va_Qv (fun q => q = x) (fun q t => va_P E.1 vwCl ((fun q : CP => wCP E a0 q) q) t.heap ∧ va_D A ((fun q : CP => wCP E a0 q) q)) A) args s 0 0 A = Q
  refine st_W ha (Nat.le_of_ble_eq_true rfl) (fun ls hl => ?_)
  have hl : lv_has ls 5 [(0, .ref (a0 0)), (1, .int p1), (2, .int p2), (3, .int p3)] := hl
  unfold f_X2_setVersion at hf
  refine lv_iload_n hx hb dX2_setVersion_0 rfl (lv_at hl 1 rfl) ?_
  refine lv_iload_n hx hb dX2_setVersion_1 rfl (lv_at hl 2 rfl) ?_
  refine cr_i (va_runS (As := [.int p1, .int p2]) (rest := []) ⟨hx, hb, hml, hown, hts⟩ (c_X2_placeOf l E p1 p2 _ rfl) (va_cwS 2 hts gX2_setVersion_X2_placeOf rfl rfl rfl hdS_X2_placeOf ⟨Nat.le_of_ble_eq_true rfl, Nat.le_of_ble_eq_true rfl⟩) ⟨PR.blind, PR.pre hC hS (hP.sub [] rfl)⟩ rfl rfl hl.1 rfl (lv_room (Nat.le_of_ble_eq_true rfl)) dX2_setVersion_2 ⟨Nat.le_of_ble_eq_true rfl, Nat.le_of_ble_eq_true rfl⟩) ?_
  refine lv_istore (lv' := [(4, .int (f_X2_placeOf p1 p2)), (0, .ref (a0 0)), (1, .int p1), (2, .int p2), (3, .int p3)]) hx hb dX2_setVersion_5 hl (by decide) rfl (fun ls hl => ?_)
  refine lv_iload hx hb dX2_setVersion_7 (lv_at hl 0 rfl) ?_
  refine lv_iconst (v := (-1)) hx hb dX2_setVersion_9 rfl ?_
  refine lv_icmp_eq (tgt := 21) hx hb dX2_setVersion_10 rfl (fun c1 => ?_) (fun c1 => ?_)
  · have hf := it_t hf c1
    cases Option.some.inj hf
    subst hQe
    exact ew_v (wf := (fun q : CP => wCP E a0 q)) hx hb hr hlocks hP hD hS dX2_setVersion_21
  · have hf := it_f hf c1
    refine lv_aload_n hx hb dX2_setVersion_13 rfl (lv_at hl 1 rfl) ?_
    refine va_get (D := E.1) (ci := 2) (v := .ref (a0 1)) (C := RX2) (T := TX2) (N := 3) hx hb hts w2 hown hC.1 hP 0 rfl rfl 0 (by decide) w1 (fun _ h9 => h9) rfl dX2_setVersion_14 ?_
    refine lv_iload hx hb dX2_setVersion_17 (lv_at hl 0 rfl) ?_
    refine lv_iload_n hx hb dX2_setVersion_19 rfl (lv_at hl 4 rfl) ?_
    obtain ⟨h2, hf⟩ := gdI_some hf
    refine va_iast hx hb hC.1 hP hD hS 1 0 rfl rfl h2 dX2_setVersion_20 (fun H locs hP hD hS => ?_)
    have hP : va_P E.1 vwCl (wCP E a0 ((upd v0.1 (f_X2_placeOf p1 p2).toNatClampNeg p3), v0.2.1, v0.2.2)) H := hP
    have hD : va_D A (wCP E a0 ((upd v0.1 (f_X2_placeOf p1 p2).toNatClampNeg p3), v0.2.1, v0.2.2)) := hD
    cases Option.some.inj hf
    subst hQe
    exact ew_v (wf := (fun q : CP => wCP E a0 q)) hx hb hr hlocks hP hD hS dX2_setVersion_21

/-! X2_setFilled -/
abbrev rmX2_setFilled : Room := { frames := 1, cells := 0, slots := 0, locals := 22 }
theorem hdS_X2_setFilled : yX2_setFilled.cls ≠ "java/lang/invoke/MethodHandle" ∧ yX2_setFilled.cls ≠ "java/lang/invoke/VarHandle" ∧ (parseMethodDescriptor yX2_setFilled.desc).map (fun d => d.parameters.length) = some 3 := by decide +kernel
theorem hdV_X2_setFilled : yX2_setFilled.cls = RX2 ∧ yX2_setFilled.cls ≠ "java/lang/invoke/MethodHandle" ∧ yX2_setFilled.cls ≠ "java/lang/invoke/VarHandle" ∧ (parseMethodDescriptor yX2_setFilled.desc).map (fun d => d.parameters.length) = some 3 := ⟨rfl, hdS_X2_setFilled⟩
set_option maxHeartbeats 4000000 in
set_option maxRecDepth 100000 in
theorem c_X2_setFilled (l : Launch) (E : G0) (sz : Nat) (a0 : Nat → Nat) (v0 : CP) (p1 : Int32) (p2 : Int32) (p3 : Int32) (x : CP) (hf : f_X2_setFilled v0 p1 p2 p3 = some x) : Met l yX2_setFilled wsX2_setFilled rmX2_setFilled (va_Pc [.ref (a0 0), .int p1, .int p2, .int p3] (PW E (wCP E a0 v0) sz)) (va_Qv (fun q => q = x) (fun q t => va_P E.1 vwCl ((fun q : CP => wCP E a0 q) q) t.heap ∧ va_D (va_A (wCP E a0 v0) sz) ((fun q : CP => wCP E a0 q) q)) (va_A (wCP E a0 v0) sz)) 0 0 (va_A (wCP E a0 v0) sz) := by
  refine Met.ofW (cc := cX2_setFilled) (maxL := 5) (ret := none) (by decide) rfl ?_
  intro p e s m args below meth c s₁ B hml hv
  obtain ⟨ha, hsz, hP, hD0, hC⟩ := hv
  have hx := B.exec
  have hb := B.bytes
  have hr := B.returns
  have hts := atoms_spec (ws := wsX2_setFilled) B.pre
  have hown : s.vm.findClass RX2 = some m.cls := findClass_of_methodNamed B.named
  have hlocks := B.notSynchronized
  subst hsz
  have hD := hD0.self (sz := s.heap.size)
  generalize hAe : va_A (wCP E a0 v0) s.heap.size = A at hD hC ⊢
  have hA : ∀ q : Nat, s.heap.size ≤ q → A q := fun q h => by rw [← hAe]; exact Or.inr h
  have hS : va_S A s.heap s.heap [] := va_S.rf
  have w1 : (Cond.fieldLink RX2 15 "GreatChunks$Copies" "filled" "[I").before args s = true := hts _ (List.mem_of_getElem? (i := 1) rfl)
  have w2 : ∀ w ∈ wsX20, w ∈ wsX2_setFilled := in_pl 6 rfl
  generalize hQe : MQ below (va_Qv (fun q => q = x) (fun q t => va_P E.1 vwCl ((fun q : CP => wCP E a0 q) q) t.heap ∧ va_D A ((fun q : CP => wCP E a0 q) q)) A) args s 0 0 A = Q
  refine st_W ha (Nat.le_of_ble_eq_true rfl) (fun ls hl => ?_)
  have hl : lv_has ls 5 [(0, .ref (a0 0)), (1, .int p1), (2, .int p2), (3, .int p3)] := hl
  unfold f_X2_setFilled at hf
  refine lv_iload_n hx hb dX2_setFilled_0 rfl (lv_at hl 1 rfl) ?_
  refine lv_iload_n hx hb dX2_setFilled_1 rfl (lv_at hl 2 rfl) ?_
  refine cr_i (va_runS (As := [.int p1, .int p2]) (rest := []) ⟨hx, hb, hml, hown, hts⟩ (c_X2_placeOf l E p1 p2 _ rfl) (va_cwS 2 hts gX2_setFilled_X2_placeOf rfl rfl rfl hdS_X2_placeOf ⟨Nat.le_of_ble_eq_true rfl, Nat.le_of_ble_eq_true rfl⟩) ⟨PR.blind, PR.pre hC hS (hP.sub [] rfl)⟩ rfl rfl hl.1 rfl (lv_room (Nat.le_of_ble_eq_true rfl)) dX2_setFilled_2 ⟨Nat.le_of_ble_eq_true rfl, Nat.le_of_ble_eq_true rfl⟩) ?_
  refine lv_istore (lv' := [(4, .int (f_X2_placeOf p1 p2)), (0, .ref (a0 0)), (1, .int p1), (2, .int p2), (3, .int p3)]) hx hb dX2_setFilled_5 hl (by decide) rfl (fun ls hl => ?_)
  refine lv_iload hx hb dX2_setFilled_7 (lv_at hl 0 rfl) ?_
  refine lv_iconst (v := (-1)) hx hb dX2_setFilled_9 rfl ?_
  refine lv_icmp_eq (tgt := 21) hx hb dX2_setFilled_10 rfl (fun c1 => ?_) (fun c1 => ?_)
  · have hf := it_t hf c1
    cases Option.some.inj hf
    subst hQe
    exact ew_v (wf := (fun q : CP => wCP E a0 q)) hx hb hr hlocks hP hD hS dX2_setFilled_21
  · have hf := it_f hf c1
    refine lv_aload_n hx hb dX2_setFilled_13 rfl (lv_at hl 1 rfl) ?_
    refine va_get (D := E.1) (ci := 2) (v := .ref (a0 2)) (C := RX2) (T := TX2) (N := 3) hx hb hts w2 hown hC.1 hP 0 rfl rfl 1 (by decide) w1 (fun _ h9 => h9) rfl dX2_setFilled_14 ?_
    refine lv_iload hx hb dX2_setFilled_17 (lv_at hl 0 rfl) ?_
    refine lv_iload_n hx hb dX2_setFilled_19 rfl (lv_at hl 4 rfl) ?_
    obtain ⟨h2, hf⟩ := gdI_some hf
    refine va_iast hx hb hC.1 hP hD hS 2 0 rfl rfl h2 dX2_setFilled_20 (fun H locs hP hD hS => ?_)
    have hP : va_P E.1 vwCl (wCP E a0 (v0.1, (upd v0.2.1 (f_X2_placeOf p1 p2).toNatClampNeg p3), v0.2.2)) H := hP
    have hD : va_D A (wCP E a0 (v0.1, (upd v0.2.1 (f_X2_placeOf p1 p2).toNatClampNeg p3), v0.2.2)) := hD
    cases Option.some.inj hf
    subst hQe
    exact ew_v (wf := (fun q : CP => wCP E a0 q)) hx hb hr hlocks hP hD hS dX2_setFilled_21

/-! X2_setCell -/
abbrev rmX2_setCell : Room := { frames := 1, cells := 0, slots := 0, locals := 22 }
theorem hdS_X2_setCell : yX2_setCell.cls ≠ "java/lang/invoke/MethodHandle" ∧ yX2_setCell.cls ≠ "java/lang/invoke/VarHandle" ∧ (parseMethodDescriptor yX2_setCell.desc).map (fun d => d.parameters.length) = some 4 := by decide +kernel
theorem hdV_X2_setCell : yX2_setCell.cls = RX2 ∧ yX2_setCell.cls ≠ "java/lang/invoke/MethodHandle" ∧ yX2_setCell.cls ≠ "java/lang/invoke/VarHandle" ∧ (parseMethodDescriptor yX2_setCell.desc).map (fun d => d.parameters.length) = some 4 := ⟨rfl, hdS_X2_setCell⟩
set_option maxHeartbeats 4000000 in
set_option maxRecDepth 100000 in
theorem c_X2_setCell (l : Launch) (E : G0) (sz : Nat) (a0 : Nat → Nat) (v0 : CP) (p1 : Int32) (p2 : Int32) (p3 : Int32) (p4 : Int32) (x : CP) (hf : f_X2_setCell v0 p1 p2 p3 p4 = some x) : Met l yX2_setCell wsX2_setCell rmX2_setCell (va_Pc [.ref (a0 0), .int p1, .int p2, .int p3, .int p4] (PW E (wCP E a0 v0) sz)) (va_Qv (fun q => q = x) (fun q t => va_P E.1 vwCl ((fun q : CP => wCP E a0 q) q) t.heap ∧ va_D (va_A (wCP E a0 v0) sz) ((fun q : CP => wCP E a0 q) q)) (va_A (wCP E a0 v0) sz)) 0 0 (va_A (wCP E a0 v0) sz) := by
  refine Met.ofW (cc := cX2_setCell) (maxL := 6) (ret := none) (by decide) rfl ?_
  intro p e s m args below meth c s₁ B hml hv
  obtain ⟨ha, hsz, hP, hD0, hC⟩ := hv
  have hx := B.exec
  have hb := B.bytes
  have hr := B.returns
  have hts := atoms_spec (ws := wsX2_setCell) B.pre
  have hown : s.vm.findClass RX2 = some m.cls := findClass_of_methodNamed B.named
  have hlocks := B.notSynchronized
  subst hsz
  have hD := hD0.self (sz := s.heap.size)
  generalize hAe : va_A (wCP E a0 v0) s.heap.size = A at hD hC ⊢
  have hA : ∀ q : Nat, s.heap.size ≤ q → A q := fun q h => by rw [← hAe]; exact Or.inr h
  have hS : va_S A s.heap s.heap [] := va_S.rf
  have w1 : (Cond.fieldLink RX2 18 "GreatChunks$Copies" "cells" "[I").before args s = true := hts _ (List.mem_of_getElem? (i := 1) rfl)
  have w2 : ∀ w ∈ wsX20, w ∈ wsX2_setCell := in_pl 6 rfl
  generalize hQe : MQ below (va_Qv (fun q => q = x) (fun q t => va_P E.1 vwCl ((fun q : CP => wCP E a0 q) q) t.heap ∧ va_D A ((fun q : CP => wCP E a0 q) q)) A) args s 0 0 A = Q
  refine st_W ha (Nat.le_of_ble_eq_true rfl) (fun ls hl => ?_)
  have hl : lv_has ls 6 [(0, .ref (a0 0)), (1, .int p1), (2, .int p2), (3, .int p3), (4, .int p4)] := hl
  unfold f_X2_setCell at hf
  refine lv_iload_n hx hb dX2_setCell_0 rfl (lv_at hl 1 rfl) ?_
  refine lv_iload_n hx hb dX2_setCell_1 rfl (lv_at hl 2 rfl) ?_
  refine cr_i (va_runS (As := [.int p1, .int p2]) (rest := []) ⟨hx, hb, hml, hown, hts⟩ (c_X2_placeOf l E p1 p2 _ rfl) (va_cwS 2 hts gX2_setCell_X2_placeOf rfl rfl rfl hdS_X2_placeOf ⟨Nat.le_of_ble_eq_true rfl, Nat.le_of_ble_eq_true rfl⟩) ⟨PR.blind, PR.pre hC hS (hP.sub [] rfl)⟩ rfl rfl hl.1 rfl (lv_room (Nat.le_of_ble_eq_true rfl)) dX2_setCell_2 ⟨Nat.le_of_ble_eq_true rfl, Nat.le_of_ble_eq_true rfl⟩) ?_
  refine lv_istore (lv' := [(5, .int (f_X2_placeOf p1 p2)), (0, .ref (a0 0)), (1, .int p1), (2, .int p2), (3, .int p3), (4, .int p4)]) hx hb dX2_setCell_5 hl (by decide) rfl (fun ls hl => ?_)
  refine lv_iload hx hb dX2_setCell_7 (lv_at hl 0 rfl) ?_
  refine lv_iconst (v := (-1)) hx hb dX2_setCell_9 rfl ?_
  refine lv_icmp_eq (tgt := 37) hx hb dX2_setCell_10 rfl (fun c1 => ?_) (fun c1 => ?_)
  · have hf := it_t hf c1
    cases Option.some.inj hf
    subst hQe
    exact ew_v (wf := (fun q : CP => wCP E a0 q)) hx hb hr hlocks hP hD hS dX2_setCell_37
  · have hf := it_f hf c1
    refine lv_iload_n hx hb dX2_setCell_13 rfl (lv_at hl 4 rfl) ?_
    refine lv_if_lt (tgt := 37) hx hb dX2_setCell_14 rfl (fun c2 => ?_) (fun c2 => ?_)
    · have hf := it_t hf c2
      cases Option.some.inj hf
      subst hQe
      exact ew_v (wf := (fun q : CP => wCP E a0 q)) hx hb hr hlocks hP hD hS dX2_setCell_37
    · have hf := it_f hf c2
      refine lv_iload_n hx hb dX2_setCell_17 rfl (lv_at hl 4 rfl) ?_
      refine lv_bipush (v := 9) hx hb dX2_setCell_18 rfl ?_
      refine lv_icmp_ge (tgt := 37) hx hb dX2_setCell_20 rfl (fun c3 => ?_) (fun c3 => ?_)
      · have hf := it_t hf c3
        cases Option.some.inj hf
        subst hQe
        exact ew_v (wf := (fun q : CP => wCP E a0 q)) hx hb hr hlocks hP hD hS dX2_setCell_37
      · have hf := it_f hf c3
        refine lv_aload_n hx hb dX2_setCell_23 rfl (lv_at hl 1 rfl) ?_
        refine va_get (D := E.1) (ci := 2) (v := .ref (a0 3)) (C := RX2) (T := TX2) (N := 3) hx hb hts w2 hown hC.1 hP 0 rfl rfl 2 (by decide) w1 (fun _ h9 => h9) rfl dX2_setCell_24 ?_
        refine lv_iload hx hb dX2_setCell_27 (lv_at hl 0 rfl) ?_
        refine lv_bipush (v := 9) hx hb dX2_setCell_29 rfl ?_
        refine lv_imul hx hb dX2_setCell_31 ?_
        refine lv_iload_n hx hb dX2_setCell_32 rfl (lv_at hl 4 rfl) ?_
        refine lv_iadd hx hb dX2_setCell_33 ?_
        refine lv_iload hx hb dX2_setCell_34 (lv_at hl 5 rfl) ?_
        obtain ⟨h4, hf⟩ := gdI_some hf
        refine va_iast hx hb hC.1 hP hD hS 3 0 rfl rfl h4 dX2_setCell_36 (fun H locs hP hD hS => ?_)
        have hP : va_P E.1 vwCl (wCP E a0 (v0.1, v0.2.1, (upd v0.2.2 (((f_X2_placeOf p1 p2) * (9 : Int32)) + p3).toNatClampNeg p4))) H := hP
        have hD : va_D A (wCP E a0 (v0.1, v0.2.1, (upd v0.2.2 (((f_X2_placeOf p1 p2) * (9 : Int32)) + p3).toNatClampNeg p4))) := hD
        cases Option.some.inj hf
        subst hQe
        exact ew_v (wf := (fun q : CP => wCP E a0 q)) hx hb hr hlocks hP hD hS dX2_setCell_37

/-! X2_lay -/
abbrev rmX2_lay : Room := { frames := 2, cells := 0, slots := 0, locals := 47 }
theorem hdS_X2_lay : yX2_lay.cls ≠ "java/lang/invoke/MethodHandle" ∧ yX2_lay.cls ≠ "java/lang/invoke/VarHandle" ∧ (parseMethodDescriptor yX2_lay.desc).map (fun d => d.parameters.length) = some 2 := by decide +kernel
theorem hdV_X2_lay : yX2_lay.cls = RX2 ∧ yX2_lay.cls ≠ "java/lang/invoke/MethodHandle" ∧ yX2_lay.cls ≠ "java/lang/invoke/VarHandle" ∧ (parseMethodDescriptor yX2_lay.desc).map (fun d => d.parameters.length) = some 2 := ⟨rfl, hdS_X2_lay⟩
set_option maxHeartbeats 4000000 in
set_option maxRecDepth 100000 in
theorem c_X2_lay (l : Launch) (E : G0) (sz : Nat) (a0 : Nat → Nat) (v0 : CP) (p1 : Int32) (p2 : Int32) (x : CP) (hf : f_X2_lay v0 p1 p2 = some x) : Met l yX2_lay wsX2_lay rmX2_lay (va_Pc [.ref (a0 0), .int p1, .int p2] (PW E (wCP E a0 v0) sz)) (va_Qv (fun q => q = x) (fun q t => va_P E.1 vwCl ((fun q : CP => wCP E a0 q) q) t.heap ∧ va_D (va_A (wCP E a0 v0) sz) ((fun q : CP => wCP E a0 q) q)) (va_A (wCP E a0 v0) sz)) 0 0 (va_A (wCP E a0 v0) sz) := by
  refine Met.ofW (cc := cX2_lay) (maxL := 4) (ret := none) (by decide) rfl ?_
  intro p e s m args below meth c s₁ B hml hv
  obtain ⟨ha, hsz, hP, hD0, hC⟩ := hv
  have hx := B.exec
  have hb := B.bytes
  have hr := B.returns
  have hts := atoms_spec (ws := wsX2_lay) B.pre
  have hown : s.vm.findClass RX2 = some m.cls := findClass_of_methodNamed B.named
  have hlocks := B.notSynchronized
  subst hsz
  have hD := hD0.self (sz := s.heap.size)
  generalize hAe : va_A (wCP E a0 v0) s.heap.size = A at hD hC ⊢
  have hA : ∀ q : Nat, s.heap.size ≤ q → A q := fun q h => by rw [← hAe]; exact Or.inr h
  have hS : va_S A s.heap s.heap [] := va_S.rf
  have w1 : (Cond.constant RX2 40 (-1000000)).before args s = true := hts _ (List.mem_of_getElem? (i := 1) rfl)
  generalize hQe : MQ below (va_Qv (fun q => q = x) (fun q t => va_P E.1 vwCl ((fun q : CP => wCP E a0 q) q) t.heap ∧ va_D A ((fun q : CP => wCP E a0 q) q)) A) args s 0 0 A = Q
  refine st_W ha (Nat.le_of_ble_eq_true rfl) (fun ls hl => ?_)
  have hl : lv_has ls 4 [(0, .ref (a0 0)), (1, .int p1), (2, .int p2)] := hl
  unfold f_X2_lay at hf
  refine lv_iconst (v := 0) hx hb dX2_lay_0 rfl ?_
  refine lv_istore_n (lv' := [(3, .int (0 : Int32)), (0, .ref (a0 0)), (1, .int p1), (2, .int p2)]) hx hb dX2_lay_1 rfl hl (by decide) rfl (fun ls hl => ?_)
  obtain ⟨K1, hK1, hf⟩ := jn_some hf
  have J1 : ∀ (q1 : Int32 × CP) (H : Heap) (locs : List Loc) (hP : va_P E.1 vwCl (wCP E a0 q1.2) H) (hD : va_D A (wCP E a0 q1.2)) (hS : va_S A s.heap H locs) (ls : Array Slot) (hl : lv_has ls 4 [(0, .ref (a0 0)), (1, .int p1), (2, .int p2)]) (hf : K1 q1 = some x), W p l e (headSpec wsX2_lay rmX2_lay).room s m args below meth c H locs 0 0 Q (F0 m 23 ls []) := by
    intro q1 H locs hP hD hS ls hl hf
    have hf := (hK1 q1).trans hf
    refine lv_aload_n hx hb dX2_lay_23 rfl (lv_at hl 0 rfl) ?_
    refine lv_iload_n hx hb dX2_lay_24 rfl (lv_at hl 1 rfl) ?_
    refine lv_iload_n hx hb dX2_lay_25 rfl (lv_at hl 2 rfl) ?_
    refine lv_iconst (v := 0) hx hb dX2_lay_26 rfl ?_
    obtain ⟨r2, e2, hf⟩ := bd_some hf
    refine cq_v hP hD hS [0, 1, 2, 3] [] [0, 1, 2, 3] (va_free (wc := (wCP E a0 q1.2)) hD hS hA [0, 1, 2, 3] rfl) (va_runV (As := [.int p1, .int p2, .int (0 : Int32)]) (rest := []) ⟨hx, hb, hml, hown, hts⟩ (c_X2_setFilled l E H.size a0 q1.2 p1 p2 (0 : Int32) r2 e2) (cwV 3 hts gX2_lay_X2_setFilled rfl rfl rfl hdV_X2_setFilled ⟨Nat.le_of_ble_eq_true rfl, Nat.le_of_ble_eq_true rfl⟩) ⟨PW.blind, va_recv hC.1 hP (ci := 2) (q0 := 0) rfl rfl, PW.pre hC hS hP hD (va_free hD hS hA [0, 1, 2, 3] rfl)⟩ rfl rfl hl.1 rfl (lv_room (Nat.le_of_ble_eq_true rfl)) dX2_lay_27 ⟨Nat.le_of_ble_eq_true rfl, Nat.le_of_ble_eq_true rfl⟩) rfl rfl rfl rfl (wCP E a0 r2) rfl rfl (fun H locs hP hD hS => ?_)
    refine lv_aload_n hx hb dX2_lay_30 rfl (lv_at hl 0 rfl) ?_
    refine lv_iload_n hx hb dX2_lay_31 rfl (lv_at hl 1 rfl) ?_
    refine lv_iload_n hx hb dX2_lay_32 rfl (lv_at hl 2 rfl) ?_
    refine lv_iconst (v := 1) hx hb dX2_lay_33 rfl ?_
    obtain ⟨r3, e3, hf⟩ := bd_some hf
    refine cq_v hP hD hS [0, 1, 2, 3] [] [0, 1, 2, 3] (va_free (wc := (wCP E a0 r2)) hD hS hA [0, 1, 2, 3] rfl) (va_runV (As := [.int p1, .int p2, .int (1 : Int32)]) (rest := []) ⟨hx, hb, hml, hown, hts⟩ (c_X2_setVersion l E H.size a0 r2 p1 p2 (1 : Int32) r3 e3) (cwV 3 hts gX2_lay_X2_setVersion rfl rfl rfl hdV_X2_setVersion ⟨Nat.le_of_ble_eq_true rfl, Nat.le_of_ble_eq_true rfl⟩) ⟨PW.blind, va_recv hC.1 hP (ci := 2) (q0 := 0) rfl rfl, PW.pre hC hS hP hD (va_free hD hS hA [0, 1, 2, 3] rfl)⟩ rfl rfl hl.1 rfl (lv_room (Nat.le_of_ble_eq_true rfl)) dX2_lay_34 ⟨Nat.le_of_ble_eq_true rfl, Nat.le_of_ble_eq_true rfl⟩) rfl rfl rfl rfl (wCP E a0 r3) rfl rfl (fun H locs hP hD hS => ?_)
    cases Option.some.inj hf
    subst hQe
    exact ew_v (wf := (fun q : CP => wCP E a0 q)) hx hb hr hlocks hP hD hS dX2_lay_37
  have L1 : ∀ (n : Nat) (q1 : Int32 × CP) (H : Heap) (locs : List Loc) (hP : va_P E.1 vwCl (wCP E a0 q1.2) H) (hD : va_D A (wCP E a0 q1.2)) (hS : va_S A s.heap H locs) (ls : Array Slot) (hl : lv_has ls 4 [(0, .ref (a0 0)), (1, .int p1), (2, .int p2), (3, .int q1.1)]) (hf : lpF (bX2_lay_1 p1 p2 K1) n q1 = some x), W p l e (headSpec wsX2_lay rmX2_lay).room s m args below meth c H locs 0 0 Q (F0 m 2 ls []) := by
    intro n
    induction n with
    | zero => intro q1 H locs hP hD hS ls hl hf; exact (lpF_zero hf).elim
    | succ n ih1 =>
      intro q1 H locs hP hD hS ls hl hf
      have hf := lpF_succ hf
      unfold bX2_lay_1 at hf
      refine lv_iload_n hx hb dX2_lay_2 rfl (lv_at hl 3 rfl) ?_
      refine lv_bipush (v := 9) hx hb dX2_lay_3 rfl ?_
      refine lv_icmp_ge (tgt := 23) hx hb dX2_lay_5 rfl (fun c4 => ?_) (fun c4 => ?_)
      · have hf := it_t hf c4
        exact J1 (q1.1, q1.2) H locs hP hD hS ls (lv_sub hl [0, 1, 2] rfl) hf
      · have hf := it_f hf c4
        refine lv_aload_n hx hb dX2_lay_8 rfl (lv_at hl 0 rfl) ?_
        refine lv_iload_n hx hb dX2_lay_9 rfl (lv_at hl 1 rfl) ?_
        refine lv_iload_n hx hb dX2_lay_10 rfl (lv_at hl 2 rfl) ?_
        refine lv_iload_n hx hb dX2_lay_11 rfl (lv_at hl 3 rfl) ?_
        refine lv_ldc hx hb hown w1 dX2_lay_12 ?_
        obtain ⟨r5, e5, hf⟩ := bd_some hf
        refine cq_v hP hD hS [0, 1, 2, 3] [] [0, 1, 2, 3] (va_free (wc := (wCP E a0 q1.2)) hD hS hA [0, 1, 2, 3] rfl) (va_runV (As := [.int p1, .int p2, .int q1.1, .int ((-1000000) : Int32)]) (rest := []) ⟨hx, hb, hml, hown, hts⟩ (c_X2_setCell l E H.size a0 q1.2 p1 p2 q1.1 ((-1000000) : Int32) r5 e5) (cwV 4 hts gX2_lay_X2_setCell rfl rfl rfl hdV_X2_setCell ⟨Nat.le_of_ble_eq_true rfl, Nat.le_of_ble_eq_true rfl⟩) ⟨PW.blind, va_recv hC.1 hP (ci := 2) (q0 := 0) rfl rfl, PW.pre hC hS hP hD (va_free hD hS hA [0, 1, 2, 3] rfl)⟩ rfl rfl hl.1 rfl (lv_room (Nat.le_of_ble_eq_true rfl)) dX2_lay_14 ⟨Nat.le_of_ble_eq_true rfl, Nat.le_of_ble_eq_true rfl⟩) rfl rfl rfl rfl (wCP E a0 r5) rfl rfl (fun H locs hP hD hS => ?_)
        refine lv_iinc (v := (q1.1 + 1)) (lv' := [(3, .int (q1.1 + 1)), (0, .ref (a0 0)), (1, .int p1), (2, .int p2)]) hx hb dX2_lay_17 hl (k := 3) rfl rfl (by decide) rfl (fun ls hl => ?_)
        refine lv_goto (tgt := 2) hx hb dX2_lay_20 rfl ?_
        exact ih1 ((q1.1 + 1), r5) H locs hP hD hS ls (lv_sub hl [1, 2, 3, 0] rfl) hf
  exact L1 FU ((0 : Int32), v0) s.heap [] hP hD hS ls (lv_sub hl [1, 2, 3, 0] rfl) hf

/-! X2_layLike -/
abbrev rmX2_layLike : Room := { frames := 2, cells := 0, slots := 0, locals := 47 }
theorem hdS_X2_layLike : yX2_layLike.cls ≠ "java/lang/invoke/MethodHandle" ∧ yX2_layLike.cls ≠ "java/lang/invoke/VarHandle" ∧ (parseMethodDescriptor yX2_layLike.desc).map (fun d => d.parameters.length) = some 5 := by decide +kernel
theorem hdV_X2_layLike : yX2_layLike.cls = RX2 ∧ yX2_layLike.cls ≠ "java/lang/invoke/MethodHandle" ∧ yX2_layLike.cls ≠ "java/lang/invoke/VarHandle" ∧ (parseMethodDescriptor yX2_layLike.desc).map (fun d => d.parameters.length) = some 5 := ⟨rfl, hdS_X2_layLike⟩
set_option maxHeartbeats 4000000 in
set_option maxRecDepth 100000 in
theorem c_X2_layLike (l : Launch) (E : G0) (sz : Nat) (a0 : Nat → Nat) (v0 : CP) (p1 : Int32) (p2 : Int32) (p3 : Int32) (p4 : Int32) (p5 : Int32) (x : CP) (hf : f_X2_layLike v0 p1 p2 p3 p4 p5 = some x) : Met l yX2_layLike wsX2_layLike rmX2_layLike (va_Pc [.ref (a0 0), .int p1, .int p2, .int p3, .int p4, .int p5] (PW E (wCP E a0 v0) sz)) (va_Qv (fun q => q = x) (fun q t => va_P E.1 vwCl ((fun q : CP => wCP E a0 q) q) t.heap ∧ va_D (va_A (wCP E a0 v0) sz) ((fun q : CP => wCP E a0 q) q)) (va_A (wCP E a0 v0) sz)) 0 0 (va_A (wCP E a0 v0) sz) := by
  refine Met.ofW (cc := cX2_layLike) (maxL := 7) (ret := none) (by decide) rfl ?_
  intro p e s m args below meth c s₁ B hml hv
  obtain ⟨ha, hsz, hP, hD0, hC⟩ := hv
  have hx := B.exec
  have hb := B.bytes
  have hr := B.returns
  have hts := atoms_spec (ws := wsX2_layLike) B.pre
  have hown : s.vm.findClass RX2 = some m.cls := findClass_of_methodNamed B.named
  have hlocks := B.notSynchronized
  subst hsz
  have hD := hD0.self (sz := s.heap.size)
  generalize hAe : va_A (wCP E a0 v0) s.heap.size = A at hD hC ⊢
  have hA : ∀ q : Nat, s.heap.size ≤ q → A q := fun q h => by rw [← hAe]; exact Or.inr h
  have hS : va_S A s.heap s.heap [] := va_S.rf
  generalize hQe : MQ below (va_Qv (fun q => q = x) (fun q t => va_P E.1 vwCl ((fun q : CP => wCP E a0 q) q) t.heap ∧ va_D A ((fun q : CP => wCP E a0 q) q)) A) args s 0 0 A = Q
  refine st_W ha (Nat.le_of_ble_eq_true rfl) (fun ls hl => ?_)
  have hl : lv_has ls 7 [(0, .ref (a0 0)), (1, .int p1), (2, .int p2), (3, .int p3), (4, .int p4), (5, .int p5)] := hl
  unfold f_X2_layLike at hf
  refine lv_iconst (v := 0) hx hb dX2_layLike_0 rfl ?_
  refine lv_istore (lv' := [(6, .int (0 : Int32)), (0, .ref (a0 0)), (1, .int p1), (2, .int p2), (3, .int p3), (4, .int p4), (5, .int p5)]) hx hb dX2_layLike_1 hl (by decide) rfl (fun ls hl => ?_)
  obtain ⟨K1, hK1, hf⟩ := jn_some hf
  have J1 : ∀ (q1 : Int32 × CP) (H : Heap) (locs : List Loc) (hP : va_P E.1 vwCl (wCP E a0 q1.2) H) (hD : va_D A (wCP E a0 q1.2)) (hS : va_S A s.heap H locs) (ls : Array Slot) (hl : lv_has ls 7 [(0, .ref (a0 0)), (1, .int p1), (2, .int p2), (3, .int p3), (4, .int p4), (5, .int p5)]) (hf : K1 q1 = some x), W p l e (headSpec wsX2_layLike rmX2_layLike).room s m args below meth c H locs 0 0 Q (F0 m 33 ls []) := by
    intro q1 H locs hP hD hS ls hl hf
    have hf := (hK1 q1).trans hf
    refine lv_aload_n hx hb dX2_layLike_33 rfl (lv_at hl 0 rfl) ?_
    refine lv_iload_n hx hb dX2_layLike_34 rfl (lv_at hl 1 rfl) ?_
    refine lv_iload_n hx hb dX2_layLike_35 rfl (lv_at hl 2 rfl) ?_
    refine lv_aload_n hx hb dX2_layLike_36 rfl (lv_at hl 0 rfl) ?_
    refine lv_iload_n hx hb dX2_layLike_37 rfl (lv_at hl 3 rfl) ?_
    refine lv_iload hx hb dX2_layLike_38 (lv_at hl 4 rfl) ?_
    obtain ⟨r2, e2, hf⟩ := bd_some hf
    refine cr_i (va_runV (As := [.int p3, .int p4]) (rest := [.int p2, .int p1, .ref (a0 0)]) ⟨hx, hb, hml, hown, hts⟩ (c_X2_filledOf l E a0 q1.2 p3 p4 r2 e2) (cwV 2 hts gX2_layLike_X2_filledOf rfl rfl rfl hdV_X2_filledOf ⟨Nat.le_of_ble_eq_true rfl, Nat.le_of_ble_eq_true rfl⟩) ⟨PR.blind, va_recv hC.1 hP (ci := 2) (q0 := 0) rfl rfl, PR.pre hC hS hP⟩ rfl rfl hl.1 rfl (lv_room (Nat.le_of_ble_eq_true rfl)) dX2_layLike_40 ⟨Nat.le_of_ble_eq_true rfl, Nat.le_of_ble_eq_true rfl⟩) ?_
    obtain ⟨r3, e3, hf⟩ := bd_some hf
    refine cq_v hP hD hS [0, 1, 2, 3] [] [0, 1, 2, 3] (va_free (wc := (wCP E a0 q1.2)) hD hS hA [0, 1, 2, 3] rfl) (va_runV (As := [.int p1, .int p2, .int r2]) (rest := []) ⟨hx, hb, hml, hown, hts⟩ (c_X2_setFilled l E H.size a0 q1.2 p1 p2 r2 r3 e3) (cwV 3 hts gX2_layLike_X2_setFilled rfl rfl rfl hdV_X2_setFilled ⟨Nat.le_of_ble_eq_true rfl, Nat.le_of_ble_eq_true rfl⟩) ⟨PW.blind, va_recv hC.1 hP (ci := 2) (q0 := 0) rfl rfl, PW.pre hC hS hP hD (va_free hD hS hA [0, 1, 2, 3] rfl)⟩ rfl rfl hl.1 rfl (lv_room (Nat.le_of_ble_eq_true rfl)) dX2_layLike_43 ⟨Nat.le_of_ble_eq_true rfl, Nat.le_of_ble_eq_true rfl⟩) rfl rfl rfl rfl (wCP E a0 r3) rfl rfl (fun H locs hP hD hS => ?_)
    refine lv_aload_n hx hb dX2_layLike_46 rfl (lv_at hl 0 rfl) ?_
    refine lv_iload_n hx hb dX2_layLike_47 rfl (lv_at hl 1 rfl) ?_
    refine lv_iload_n hx hb dX2_layLike_48 rfl (lv_at hl 2 rfl) ?_
    refine lv_iload hx hb dX2_layLike_49 (lv_at hl 5 rfl) ?_
    obtain ⟨r4, e4, hf⟩ := bd_some hf
    refine cq_v hP hD hS [0, 1, 2, 3] [] [0, 1, 2, 3] (va_free (wc := (wCP E a0 r3)) hD hS hA [0, 1, 2, 3] rfl) (va_runV (As := [.int p1, .int p2, .int p5]) (rest := []) ⟨hx, hb, hml, hown, hts⟩ (c_X2_setVersion l E H.size a0 r3 p1 p2 p5 r4 e4) (cwV 3 hts gX2_layLike_X2_setVersion rfl rfl rfl hdV_X2_setVersion ⟨Nat.le_of_ble_eq_true rfl, Nat.le_of_ble_eq_true rfl⟩) ⟨PW.blind, va_recv hC.1 hP (ci := 2) (q0 := 0) rfl rfl, PW.pre hC hS hP hD (va_free hD hS hA [0, 1, 2, 3] rfl)⟩ rfl rfl hl.1 rfl (lv_room (Nat.le_of_ble_eq_true rfl)) dX2_layLike_51 ⟨Nat.le_of_ble_eq_true rfl, Nat.le_of_ble_eq_true rfl⟩) rfl rfl rfl rfl (wCP E a0 r4) rfl rfl (fun H locs hP hD hS => ?_)
    cases Option.some.inj hf
    subst hQe
    exact ew_v (wf := (fun q : CP => wCP E a0 q)) hx hb hr hlocks hP hD hS dX2_layLike_54
  have L1 : ∀ (n : Nat) (q1 : Int32 × CP) (H : Heap) (locs : List Loc) (hP : va_P E.1 vwCl (wCP E a0 q1.2) H) (hD : va_D A (wCP E a0 q1.2)) (hS : va_S A s.heap H locs) (ls : Array Slot) (hl : lv_has ls 7 [(0, .ref (a0 0)), (1, .int p1), (2, .int p2), (3, .int p3), (4, .int p4), (5, .int p5), (6, .int q1.1)]) (hf : lpF (bX2_layLike_1 p3 p4 p1 p2 K1) n q1 = some x), W p l e (headSpec wsX2_layLike rmX2_layLike).room s m args below meth c H locs 0 0 Q (F0 m 3 ls []) := by
    intro n
    induction n with
    | zero => intro q1 H locs hP hD hS ls hl hf; exact (lpF_zero hf).elim
    | succ n ih1 =>
      intro q1 H locs hP hD hS ls hl hf
      have hf := lpF_succ hf
      unfold bX2_layLike_1 at hf
      refine lv_iload hx hb dX2_layLike_3 (lv_at hl 6 rfl) ?_
      refine lv_bipush (v := 9) hx hb dX2_layLike_5 rfl ?_
      refine lv_icmp_ge (tgt := 33) hx hb dX2_layLike_7 rfl (fun c5 => ?_) (fun c5 => ?_)
      · have hf := it_t hf c5
        exact J1 (q1.1, q1.2) H locs hP hD hS ls (lv_sub hl [0, 1, 2, 3, 4, 5] rfl) hf
      · have hf := it_f hf c5
        refine lv_aload_n hx hb dX2_layLike_10 rfl (lv_at hl 0 rfl) ?_
        refine lv_iload_n hx hb dX2_layLike_11 rfl (lv_at hl 1 rfl) ?_
        refine lv_iload_n hx hb dX2_layLike_12 rfl (lv_at hl 2 rfl) ?_
        refine lv_iload hx hb dX2_layLike_13 (lv_at hl 6 rfl) ?_
        refine lv_aload_n hx hb dX2_layLike_15 rfl (lv_at hl 0 rfl) ?_
        refine lv_iload_n hx hb dX2_layLike_16 rfl (lv_at hl 3 rfl) ?_
        refine lv_iload hx hb dX2_layLike_17 (lv_at hl 4 rfl) ?_
        refine lv_iload hx hb dX2_layLike_19 (lv_at hl 6 rfl) ?_
        obtain ⟨r6, e6, hf⟩ := bd_some hf
        refine cr_i (va_runV (As := [.int p3, .int p4, .int q1.1]) (rest := [.int q1.1, .int p2, .int p1, .ref (a0 0)]) ⟨hx, hb, hml, hown, hts⟩ (c_X2_cell l E a0 q1.2 p3 p4 q1.1 r6 e6) (cwV 3 hts gX2_layLike_X2_cell rfl rfl rfl hdV_X2_cell ⟨Nat.le_of_ble_eq_true rfl, Nat.le_of_ble_eq_true rfl⟩) ⟨PR.blind, va_recv hC.1 hP (ci := 2) (q0 := 0) rfl rfl, PR.pre hC hS hP⟩ rfl rfl hl.1 rfl (lv_room (Nat.le_of_ble_eq_true rfl)) dX2_layLike_21 ⟨Nat.le_of_ble_eq_true rfl, Nat.le_of_ble_eq_true rfl⟩) ?_
        obtain ⟨r7, e7, hf⟩ := bd_some hf
        refine cq_v hP hD hS [0, 1, 2, 3] [] [0, 1, 2, 3] (va_free (wc := (wCP E a0 q1.2)) hD hS hA [0, 1, 2, 3] rfl) (va_runV (As := [.int p1, .int p2, .int q1.1, .int r6]) (rest := []) ⟨hx, hb, hml, hown, hts⟩ (c_X2_setCell l E H.size a0 q1.2 p1 p2 q1.1 r6 r7 e7) (cwV 4 hts gX2_layLike_X2_setCell rfl rfl rfl hdV_X2_setCell ⟨Nat.le_of_ble_eq_true rfl, Nat.le_of_ble_eq_true rfl⟩) ⟨PW.blind, va_recv hC.1 hP (ci := 2) (q0 := 0) rfl rfl, PW.pre hC hS hP hD (va_free hD hS hA [0, 1, 2, 3] rfl)⟩ rfl rfl hl.1 rfl (lv_room (Nat.le_of_ble_eq_true rfl)) dX2_layLike_24 ⟨Nat.le_of_ble_eq_true rfl, Nat.le_of_ble_eq_true rfl⟩) rfl rfl rfl rfl (wCP E a0 r7) rfl rfl (fun H locs hP hD hS => ?_)
        refine lv_iinc (v := (q1.1 + 1)) (lv' := [(6, .int (q1.1 + 1)), (0, .ref (a0 0)), (1, .int p1), (2, .int p2), (3, .int p3), (4, .int p4), (5, .int p5)]) hx hb dX2_layLike_27 hl (k := 6) rfl rfl (by decide) rfl (fun ls hl => ?_)
        refine lv_goto (tgt := 3) hx hb dX2_layLike_30 rfl ?_
        exact ih1 ((q1.1 + 1), r7) H locs hP hD hS ls (lv_sub hl [1, 2, 3, 4, 5, 6, 0] rfl) hf
  exact L1 FU ((0 : Int32), v0) s.heap [] hP hD hS ls (lv_sub hl [1, 2, 3, 4, 5, 6, 0] rfl) hf

/-! X2_drop -/
abbrev rmX2_drop : Room := { frames := 2, cells := 0, slots := 0, locals := 46 }
theorem hdS_X2_drop : yX2_drop.cls ≠ "java/lang/invoke/MethodHandle" ∧ yX2_drop.cls ≠ "java/lang/invoke/VarHandle" ∧ (parseMethodDescriptor yX2_drop.desc).map (fun d => d.parameters.length) = some 2 := by decide +kernel
theorem hdV_X2_drop : yX2_drop.cls = RX2 ∧ yX2_drop.cls ≠ "java/lang/invoke/MethodHandle" ∧ yX2_drop.cls ≠ "java/lang/invoke/VarHandle" ∧ (parseMethodDescriptor yX2_drop.desc).map (fun d => d.parameters.length) = some 2 := ⟨rfl, hdS_X2_drop⟩
set_option maxHeartbeats 4000000 in
set_option maxRecDepth 100000 in
theorem c_X2_drop (l : Launch) (E : G0) (sz : Nat) (a0 : Nat → Nat) (v0 : CP) (p1 : Int32) (p2 : Int32) (x : CP) (hf : f_X2_drop v0 p1 p2 = some x) : Met l yX2_drop wsX2_drop rmX2_drop (va_Pc [.ref (a0 0), .int p1, .int p2] (PW E (wCP E a0 v0) sz)) (va_Qv (fun q => q = x) (fun q t => va_P E.1 vwCl ((fun q : CP => wCP E a0 q) q) t.heap ∧ va_D (va_A (wCP E a0 v0) sz) ((fun q : CP => wCP E a0 q) q)) (va_A (wCP E a0 v0) sz)) 0 0 (va_A (wCP E a0 v0) sz) := by
  refine Met.ofW (cc := cX2_drop) (maxL := 3) (ret := none) (by decide) rfl ?_
  intro p e s m args below meth c s₁ B hml hv
  obtain ⟨ha, hsz, hP, hD0, hC⟩ := hv
  have hx := B.exec
  have hb := B.bytes
  have hr := B.returns
  have hts := atoms_spec (ws := wsX2_drop) B.pre
  have hown : s.vm.findClass RX2 = some m.cls := findClass_of_methodNamed B.named
  have hlocks := B.notSynchronized
  subst hsz
  have hD := hD0.self (sz := s.heap.size)
  generalize hAe : va_A (wCP E a0 v0) s.heap.size = A at hD hC ⊢
  have hA : ∀ q : Nat, s.heap.size ≤ q → A q := fun q h => by rw [← hAe]; exact Or.inr h
  have hS : va_S A s.heap s.heap [] := va_S.rf
  generalize hQe : MQ below (va_Qv (fun q => q = x) (fun q t => va_P E.1 vwCl ((fun q : CP => wCP E a0 q) q) t.heap ∧ va_D A ((fun q : CP => wCP E a0 q) q)) A) args s 0 0 A = Q
  refine st_W ha (Nat.le_of_ble_eq_true rfl) (fun ls hl => ?_)
  have hl : lv_has ls 3 [(0, .ref (a0 0)), (1, .int p1), (2, .int p2)] := hl
  unfold f_X2_drop at hf
  refine lv_aload_n hx hb dX2_drop_0 rfl (lv_at hl 0 rfl) ?_
  refine lv_iload_n hx hb dX2_drop_1 rfl (lv_at hl 1 rfl) ?_
  refine lv_iload_n hx hb dX2_drop_2 rfl (lv_at hl 2 rfl) ?_
  refine lv_iconst (v := (-1)) hx hb dX2_drop_3 rfl ?_
  obtain ⟨r1, e1, hf⟩ := bd_some hf
  refine cq_v hP hD hS [0, 1, 2, 3] [] [0, 1, 2, 3] (va_free (wc := (wCP E a0 v0)) hD hS hA [0, 1, 2, 3] rfl) (va_runV (As := [.int p1, .int p2, .int (-1 : Int32)]) (rest := []) ⟨hx, hb, hml, hown, hts⟩ (c_X2_setVersion l E s.heap.size a0 v0 p1 p2 (-1 : Int32) r1 e1) (cwV 3 hts gX2_drop_X2_setVersion rfl rfl rfl hdV_X2_setVersion ⟨Nat.le_of_ble_eq_true rfl, Nat.le_of_ble_eq_true rfl⟩) ⟨PW.blind, va_recv hC.1 hP (ci := 2) (q0 := 0) rfl rfl, PW.pre hC hS hP hD (va_free hD hS hA [0, 1, 2, 3] rfl)⟩ rfl rfl hl.1 rfl (lv_room (Nat.le_of_ble_eq_true rfl)) dX2_drop_4 ⟨Nat.le_of_ble_eq_true rfl, Nat.le_of_ble_eq_true rfl⟩) rfl rfl rfl rfl (wCP E a0 r1) rfl rfl (fun H locs hP hD hS => ?_)
  cases Option.some.inj hf
  subst hQe
  exact ew_v (wf := (fun q : CP => wCP E a0 q)) hx hb hr hlocks hP hD hS dX2_drop_7

/-! X2_write -/
abbrev rmX2_write : Room := { frames := 2, cells := 0, slots := 0, locals := 47 }
theorem hdS_X2_write : yX2_write.cls ≠ "java/lang/invoke/MethodHandle" ∧ yX2_write.cls ≠ "java/lang/invoke/VarHandle" ∧ (parseMethodDescriptor yX2_write.desc).map (fun d => d.parameters.length) = some 5 := by decide +kernel
theorem hdV_X2_write : yX2_write.cls = RX2 ∧ yX2_write.cls ≠ "java/lang/invoke/MethodHandle" ∧ yX2_write.cls ≠ "java/lang/invoke/VarHandle" ∧ (parseMethodDescriptor yX2_write.desc).map (fun d => d.parameters.length) = some 5 := ⟨rfl, hdS_X2_write⟩
set_option maxHeartbeats 4000000 in
set_option maxRecDepth 100000 in
theorem c_X2_write (l : Launch) (E : G0) (sz : Nat) (a0 : Nat → Nat) (v0 : CP) (p1 : Int32) (p2 : Int32) (p3 : Int32) (a4 n4 : Nat) (v4 : (Nat → Int32)) (p5 : Int32) (x : CP) (hf : f_X2_write v0 p1 p2 p3 n4 v4 p5 = some x) : Met l yX2_write wsX2_write rmX2_write (va_Pc [.ref (a0 0), .int p1, .int p2, .int p3, .ref a4, .int p5] (PW E (wCP E a0 v0 ++ wIA E a4 n4 v4) sz)) (va_Qv (fun q => q = x) (fun q t => va_P E.1 vwCl ((fun q : CP => wCP E a0 q ++ wIA E a4 n4 v4) q) t.heap ∧ va_D (va_A (wCP E a0 v0 ++ wIA E a4 n4 v4) sz) ((fun q : CP => wCP E a0 q ++ wIA E a4 n4 v4) q)) (va_A (wCP E a0 v0 ++ wIA E a4 n4 v4) sz)) 0 0 (va_A (wCP E a0 v0 ++ wIA E a4 n4 v4) sz) := by
  refine Met.ofW (cc := cX2_write) (maxL := 7) (ret := none) (by decide) rfl ?_
  intro p e s m args below meth c s₁ B hml hv
  obtain ⟨ha, hsz, hP, hD0, hC⟩ := hv
  have hx := B.exec
  have hb := B.bytes
  have hr := B.returns
  have hts := atoms_spec (ws := wsX2_write) B.pre
  have hown : s.vm.findClass RX2 = some m.cls := findClass_of_methodNamed B.named
  have hlocks := B.notSynchronized
  subst hsz
  have hD := hD0.self (sz := s.heap.size)
  generalize hAe : va_A (wCP E a0 v0 ++ wIA E a4 n4 v4) s.heap.size = A at hD hC ⊢
  have hA : ∀ q : Nat, s.heap.size ≤ q → A q := fun q h => by rw [← hAe]; exact Or.inr h
  have hS : va_S A s.heap s.heap [] := va_S.rf
  generalize hQe : MQ below (va_Qv (fun q => q = x) (fun q t => va_P E.1 vwCl ((fun q : CP => wCP E a0 q ++ wIA E a4 n4 v4) q) t.heap ∧ va_D A ((fun q : CP => wCP E a0 q ++ wIA E a4 n4 v4) q)) A) args s 0 0 A = Q
  refine st_W ha (Nat.le_of_ble_eq_true rfl) (fun ls hl => ?_)
  have hl : lv_has ls 7 [(0, .ref (a0 0)), (1, .int p1), (2, .int p2), (3, .int p3), (4, .ref a4), (5, .int p5)] := hl
  unfold f_X2_write at hf
  refine lv_iconst (v := 0) hx hb dX2_write_0 rfl ?_
  refine lv_istore (lv' := [(6, .int (0 : Int32)), (0, .ref (a0 0)), (1, .int p1), (2, .int p2), (3, .int p3), (4, .ref a4), (5, .int p5)]) hx hb dX2_write_1 hl (by decide) rfl (fun ls hl => ?_)
  obtain ⟨K1, hK1, hf⟩ := jn_some hf
  have J1 : ∀ (q1 : Int32 × CP) (H : Heap) (locs : List Loc) (hP : va_P E.1 vwCl (wCP E a0 q1.2 ++ wIA E a4 n4 v4) H) (hD : va_D A (wCP E a0 q1.2 ++ wIA E a4 n4 v4)) (hS : va_S A s.heap H locs) (ls : Array Slot) (hl : lv_has ls 7 [(0, .ref (a0 0)), (1, .int p1), (2, .int p2), (3, .int p3), (5, .int p5)]) (hf : K1 q1 = some x), W p l e (headSpec wsX2_write rmX2_write).room s m args below meth c H locs 0 0 Q (F0 m 39 ls []) := by
    intro q1 H locs hP hD hS ls hl hf
    have hf := (hK1 q1).trans hf
    refine lv_aload_n hx hb dX2_write_39 rfl (lv_at hl 0 rfl) ?_
    refine lv_iload_n hx hb dX2_write_40 rfl (lv_at hl 1 rfl) ?_
    refine lv_iload_n hx hb dX2_write_41 rfl (lv_at hl 2 rfl) ?_
    refine lv_iload_n hx hb dX2_write_42 rfl (lv_at hl 3 rfl) ?_
    refine lv_iload hx hb dX2_write_43 (lv_at hl 4 rfl) ?_
    refine lv_iadd hx hb dX2_write_45 ?_
    obtain ⟨r2, e2, hf⟩ := bd_some hf
    refine cq_v hP hD hS [0, 1, 2, 3] [4] [1, 2, 3, 4, 0] (va_free (wc := (wCP E a0 q1.2)) hD hS hA [0, 1, 2, 3] rfl) (va_runV (As := [.int p1, .int p2, .int (p3 + p5)]) (rest := []) ⟨hx, hb, hml, hown, hts⟩ (c_X2_setFilled l E H.size a0 q1.2 p1 p2 (p3 + p5) r2 e2) (cwV 3 hts gX2_write_X2_setFilled rfl rfl rfl hdV_X2_setFilled ⟨Nat.le_of_ble_eq_true rfl, Nat.le_of_ble_eq_true rfl⟩) ⟨PW.blind, va_recv hC.1 hP (ci := 2) (q0 := 0) rfl rfl, PW.pre hC hS (hP.sub [0, 1, 2, 3] rfl) (hD.sub [0, 1, 2, 3] rfl rfl) (va_free hD hS hA [0, 1, 2, 3] rfl)⟩ rfl rfl hl.1 rfl (lv_room (Nat.le_of_ble_eq_true rfl)) dX2_write_46 ⟨Nat.le_of_ble_eq_true rfl, Nat.le_of_ble_eq_true rfl⟩) rfl rfl rfl rfl (wCP E a0 r2 ++ wIA E a4 n4 v4) rfl rfl (fun H locs hP hD hS => ?_)
    cases Option.some.inj hf
    subst hQe
    exact ew_v (wf := (fun q : CP => wCP E a0 q ++ wIA E a4 n4 v4)) hx hb hr hlocks hP hD hS dX2_write_49
  have L1 : ∀ (n : Nat) (q1 : Int32 × CP) (H : Heap) (locs : List Loc) (hP : va_P E.1 vwCl (wCP E a0 q1.2 ++ wIA E a4 n4 v4) H) (hD : va_D A (wCP E a0 q1.2 ++ wIA E a4 n4 v4)) (hS : va_S A s.heap H locs) (ls : Array Slot) (hl : lv_has ls 7 [(0, .ref (a0 0)), (1, .int p1), (2, .int p2), (3, .int p3), (4, .ref a4), (5, .int p5), (6, .int q1.1)]) (hf : lpF (bX2_write_1 p5 n4 p1 p2 p3 v4 K1) n q1 = some x), W p l e (headSpec wsX2_write rmX2_write).room s m args below meth c H locs 0 0 Q (F0 m 3 ls []) := by
    intro n
    induction n with
    | zero => intro q1 H locs hP hD hS ls hl hf; exact (lpF_zero hf).elim
    | succ n ih1 =>
      intro q1 H locs hP hD hS ls hl hf
      have hf := lpF_succ hf
      unfold bX2_write_1 at hf
      refine lv_iload hx hb dX2_write_3 (lv_at hl 6 rfl) ?_
      refine lv_iload hx hb dX2_write_5 (lv_at hl 5 rfl) ?_
      refine lv_icmp_ge (tgt := 39) hx hb dX2_write_7 rfl (fun c3 => ?_) (fun c3 => ?_)
      · have hf := it_t hf c3
        exact J1 (q1.1, q1.2) H locs hP hD hS ls (lv_sub hl [0, 1, 2, 3, 5] rfl) hf
      · have hf := it_f hf c3
        refine lv_iload hx hb dX2_write_10 (lv_at hl 6 rfl) ?_
        refine lv_aload hx hb dX2_write_12 (lv_at hl 4 rfl) ?_
        refine va_alen (v := Int32.ofNat n4) hx hb hC.1 hP 4 0 rfl rfl rfl dX2_write_14 ?_
        refine lv_icmp_ge (tgt := 39) hx hb dX2_write_15 rfl (fun c4 => ?_) (fun c4 => ?_)
        · have hf := it_t hf c4
          exact J1 (q1.1, q1.2) H locs hP hD hS ls (lv_sub hl [0, 1, 2, 3, 5] rfl) hf
        · have hf := it_f hf c4
          refine lv_aload_n hx hb dX2_write_18 rfl (lv_at hl 0 rfl) ?_
          refine lv_iload_n hx hb dX2_write_19 rfl (lv_at hl 1 rfl) ?_
          refine lv_iload_n hx hb dX2_write_20 rfl (lv_at hl 2 rfl) ?_
          refine lv_iload_n hx hb dX2_write_21 rfl (lv_at hl 3 rfl) ?_
          refine lv_iload hx hb dX2_write_22 (lv_at hl 6 rfl) ?_
          refine lv_iadd hx hb dX2_write_24 ?_
          refine lv_aload hx hb dX2_write_25 (lv_at hl 4 rfl) ?_
          refine lv_iload hx hb dX2_write_27 (lv_at hl 6 rfl) ?_
          obtain ⟨h5, hf⟩ := gdI_some hf
          refine va_iald hx hb hC.1 hP 4 0 rfl rfl h5 dX2_write_29 ?_
          obtain ⟨r6, e6, hf⟩ := bd_some hf
          refine cq_v hP hD hS [0, 1, 2, 3] [4] [1, 2, 3, 4, 0] (va_free (wc := (wCP E a0 q1.2)) hD hS hA [0, 1, 2, 3] rfl) (va_runV (As := [.int p1, .int p2, .int (p3 + q1.1), .int (v4 q1.1.toNatClampNeg)]) (rest := []) ⟨hx, hb, hml, hown, hts⟩ (c_X2_setCell l E H.size a0 q1.2 p1 p2 (p3 + q1.1) (v4 q1.1.toNatClampNeg) r6 e6) (cwV 4 hts gX2_write_X2_setCell rfl rfl rfl hdV_X2_setCell ⟨Nat.le_of_ble_eq_true rfl, Nat.le_of_ble_eq_true rfl⟩) ⟨PW.blind, va_recv hC.1 hP (ci := 2) (q0 := 0) rfl rfl, PW.pre hC hS (hP.sub [0, 1, 2, 3] rfl) (hD.sub [0, 1, 2, 3] rfl rfl) (va_free hD hS hA [0, 1, 2, 3] rfl)⟩ rfl rfl hl.1 rfl (lv_room (Nat.le_of_ble_eq_true rfl)) dX2_write_30 ⟨Nat.le_of_ble_eq_true rfl, Nat.le_of_ble_eq_true rfl⟩) rfl rfl rfl rfl (wCP E a0 r6 ++ wIA E a4 n4 v4) rfl rfl (fun H locs hP hD hS => ?_)
          refine lv_iinc (v := (q1.1 + 1)) (lv' := [(6, .int (q1.1 + 1)), (0, .ref (a0 0)), (1, .int p1), (2, .int p2), (3, .int p3), (4, .ref a4), (5, .int p5)]) hx hb dX2_write_33 hl (k := 6) rfl rfl (by decide) rfl (fun ls hl => ?_)
          refine lv_goto (tgt := 3) hx hb dX2_write_36 rfl ?_
          exact ih1 ((q1.1 + 1), r6) H locs hP hD hS ls (lv_sub hl [1, 2, 3, 4, 5, 6, 0] rfl) hf
  exact L1 FU ((0 : Int32), v0) s.heap [] hP hD hS ls (lv_sub hl [1, 2, 3, 4, 5, 6, 0] rfl) hf

/-! X2_pad -/
abbrev rmX2_pad : Room := { frames := 2, cells := 0, slots := 0, locals := 47 }
theorem hdS_X2_pad : yX2_pad.cls ≠ "java/lang/invoke/MethodHandle" ∧ yX2_pad.cls ≠ "java/lang/invoke/VarHandle" ∧ (parseMethodDescriptor yX2_pad.desc).map (fun d => d.parameters.length) = some 4 := by decide +kernel
theorem hdV_X2_pad : yX2_pad.cls = RX2 ∧ yX2_pad.cls ≠ "java/lang/invoke/MethodHandle" ∧ yX2_pad.cls ≠ "java/lang/invoke/VarHandle" ∧ (parseMethodDescriptor yX2_pad.desc).map (fun d => d.parameters.length) = some 4 := ⟨rfl, hdS_X2_pad⟩
set_option maxHeartbeats 4000000 in
set_option maxRecDepth 100000 in
theorem c_X2_pad (l : Launch) (E : G0) (sz : Nat) (a0 : Nat → Nat) (v0 : CP) (p1 : Int32) (p2 : Int32) (p3 : Int32) (p4 : Int32) (x : CP) (hf : f_X2_pad v0 p1 p2 p3 p4 = some x) : Met l yX2_pad wsX2_pad rmX2_pad (va_Pc [.ref (a0 0), .int p1, .int p2, .int p3, .int p4] (PW E (wCP E a0 v0) sz)) (va_Qv (fun q => q = x) (fun q t => va_P E.1 vwCl ((fun q : CP => wCP E a0 q) q) t.heap ∧ va_D (va_A (wCP E a0 v0) sz) ((fun q : CP => wCP E a0 q) q)) (va_A (wCP E a0 v0) sz)) 0 0 (va_A (wCP E a0 v0) sz) := by
  refine Met.ofW (cc := cX2_pad) (maxL := 6) (ret := none) (by decide) rfl ?_
  intro p e s m args below meth c s₁ B hml hv
  obtain ⟨ha, hsz, hP, hD0, hC⟩ := hv
  have hx := B.exec
  have hb := B.bytes
  have hr := B.returns
  have hts := atoms_spec (ws := wsX2_pad) B.pre
  have hown : s.vm.findClass RX2 = some m.cls := findClass_of_methodNamed B.named
  have hlocks := B.notSynchronized
  subst hsz
  have hD := hD0.self (sz := s.heap.size)
  generalize hAe : va_A (wCP E a0 v0) s.heap.size = A at hD hC ⊢
  have hA : ∀ q : Nat, s.heap.size ≤ q → A q := fun q h => by rw [← hAe]; exact Or.inr h
  have hS : va_S A s.heap s.heap [] := va_S.rf
  have w1 : (Cond.constant RX2 40 (-1000000)).before args s = true := hts _ (List.mem_of_getElem? (i := 1) rfl)
  generalize hQe : MQ below (va_Qv (fun q => q = x) (fun q t => va_P E.1 vwCl ((fun q : CP => wCP E a0 q) q) t.heap ∧ va_D A ((fun q : CP => wCP E a0 q) q)) A) args s 0 0 A = Q
  refine st_W ha (Nat.le_of_ble_eq_true rfl) (fun ls hl => ?_)
  have hl : lv_has ls 6 [(0, .ref (a0 0)), (1, .int p1), (2, .int p2), (3, .int p3), (4, .int p4)] := hl
  unfold f_X2_pad at hf
  refine lv_iload_n hx hb dX2_pad_0 rfl (lv_at hl 3 rfl) ?_
  refine lv_istore (lv' := [(5, .int p3), (0, .ref (a0 0)), (1, .int p1), (2, .int p2), (3, .int p3), (4, .int p4)]) hx hb dX2_pad_1 hl (by decide) rfl (fun ls hl => ?_)
  obtain ⟨K1, hK1, hf⟩ := jn_some hf
  have J1 : ∀ (q1 : Int32 × CP) (H : Heap) (locs : List Loc) (hP : va_P E.1 vwCl (wCP E a0 q1.2) H) (hD : va_D A (wCP E a0 q1.2)) (hS : va_S A s.heap H locs) (ls : Array Slot) (hl : lv_has ls 6 [(0, .ref (a0 0)), (1, .int p1), (2, .int p2), (4, .int p4)]) (hf : K1 q1 = some x), W p l e (headSpec wsX2_pad rmX2_pad).room s m args below meth c H locs 0 0 Q (F0 m 38 ls []) := by
    intro q1 H locs hP hD hS ls hl hf
    have hf := (hK1 q1).trans hf
    refine lv_aload_n hx hb dX2_pad_38 rfl (lv_at hl 0 rfl) ?_
    refine lv_iload_n hx hb dX2_pad_39 rfl (lv_at hl 1 rfl) ?_
    refine lv_iload_n hx hb dX2_pad_40 rfl (lv_at hl 2 rfl) ?_
    refine lv_iload hx hb dX2_pad_41 (lv_at hl 3 rfl) ?_
    obtain ⟨r2, e2, hf⟩ := bd_some hf
    refine cq_v hP hD hS [0, 1, 2, 3] [] [0, 1, 2, 3] (va_free (wc := (wCP E a0 q1.2)) hD hS hA [0, 1, 2, 3] rfl) (va_runV (As := [.int p1, .int p2, .int p4]) (rest := []) ⟨hx, hb, hml, hown, hts⟩ (c_X2_setFilled l E H.size a0 q1.2 p1 p2 p4 r2 e2) (cwV 3 hts gX2_pad_X2_setFilled rfl rfl rfl hdV_X2_setFilled ⟨Nat.le_of_ble_eq_true rfl, Nat.le_of_ble_eq_true rfl⟩) ⟨PW.blind, va_recv hC.1 hP (ci := 2) (q0 := 0) rfl rfl, PW.pre hC hS hP hD (va_free hD hS hA [0, 1, 2, 3] rfl)⟩ rfl rfl hl.1 rfl (lv_room (Nat.le_of_ble_eq_true rfl)) dX2_pad_43 ⟨Nat.le_of_ble_eq_true rfl, Nat.le_of_ble_eq_true rfl⟩) rfl rfl rfl rfl (wCP E a0 r2) rfl rfl (fun H locs hP hD hS => ?_)
    cases Option.some.inj hf
    subst hQe
    exact ew_v (wf := (fun q : CP => wCP E a0 q)) hx hb hr hlocks hP hD hS dX2_pad_46
  have L1 : ∀ (n : Nat) (q1 : Int32 × CP) (H : Heap) (locs : List Loc) (hP : va_P E.1 vwCl (wCP E a0 q1.2) H) (hD : va_D A (wCP E a0 q1.2)) (hS : va_S A s.heap H locs) (ls : Array Slot) (hl : lv_has ls 6 [(0, .ref (a0 0)), (1, .int p1), (2, .int p2), (4, .int p4), (5, .int q1.1)]) (hf : lpF (bX2_pad_1 p4 p1 p2 K1) n q1 = some x), W p l e (headSpec wsX2_pad rmX2_pad).room s m args below meth c H locs 0 0 Q (F0 m 3 ls []) := by
    intro n
    induction n with
    | zero => intro q1 H locs hP hD hS ls hl hf; exact (lpF_zero hf).elim
    | succ n ih1 =>
      intro q1 H locs hP hD hS ls hl hf
      have hf := lpF_succ hf
      unfold bX2_pad_1 at hf
      refine lv_iload hx hb dX2_pad_3 (lv_at hl 4 rfl) ?_
      refine lv_iload hx hb dX2_pad_5 (lv_at hl 3 rfl) ?_
      refine lv_icmp_ge (tgt := 38) hx hb dX2_pad_7 rfl (fun c3 => ?_) (fun c3 => ?_)
      · have hf := it_t hf c3
        exact J1 (q1.1, q1.2) H locs hP hD hS ls (lv_sub hl [0, 1, 2, 3] rfl) hf
      · have hf := it_f hf c3
        refine lv_aload_n hx hb dX2_pad_10 rfl (lv_at hl 0 rfl) ?_
        refine lv_iload_n hx hb dX2_pad_11 rfl (lv_at hl 1 rfl) ?_
        refine lv_iload_n hx hb dX2_pad_12 rfl (lv_at hl 2 rfl) ?_
        refine lv_iload hx hb dX2_pad_13 (lv_at hl 4 rfl) ?_
        obtain ⟨r4, e4, hf⟩ := bd_some hf
        refine cr_i (va_runV (As := [.int p1, .int p2, .int q1.1]) (rest := []) ⟨hx, hb, hml, hown, hts⟩ (c_X2_cell l E a0 q1.2 p1 p2 q1.1 r4 e4) (cwV 3 hts gX2_pad_X2_cell rfl rfl rfl hdV_X2_cell ⟨Nat.le_of_ble_eq_true rfl, Nat.le_of_ble_eq_true rfl⟩) ⟨PR.blind, va_recv hC.1 hP (ci := 2) (q0 := 0) rfl rfl, PR.pre hC hS hP⟩ rfl rfl hl.1 rfl (lv_room (Nat.le_of_ble_eq_true rfl)) dX2_pad_15 ⟨Nat.le_of_ble_eq_true rfl, Nat.le_of_ble_eq_true rfl⟩) ?_
        refine lv_ldc hx hb hown w1 dX2_pad_18 ?_
        refine lv_icmp_ne (tgt := 32) hx hb dX2_pad_20 rfl (fun c5 => ?_) (fun c5 => ?_)
        · have hf := it_f hf c5
          refine lv_iinc (v := (q1.1 + 1)) (lv' := [(5, .int (q1.1 + 1)), (0, .ref (a0 0)), (1, .int p1), (2, .int p2), (4, .int p4)]) hx hb dX2_pad_32 hl (k := 4) rfl rfl (by decide) rfl (fun ls hl => ?_)
          refine lv_goto (tgt := 3) hx hb dX2_pad_35 rfl ?_
          exact ih1 ((q1.1 + 1), q1.2) H locs hP hD hS ls (lv_sub hl [1, 2, 3, 4, 0] rfl) hf
        · have hf := it_t hf c5
          refine lv_aload_n hx hb dX2_pad_23 rfl (lv_at hl 0 rfl) ?_
          refine lv_iload_n hx hb dX2_pad_24 rfl (lv_at hl 1 rfl) ?_
          refine lv_iload_n hx hb dX2_pad_25 rfl (lv_at hl 2 rfl) ?_
          refine lv_iload hx hb dX2_pad_26 (lv_at hl 4 rfl) ?_
          refine lv_iconst (v := 0) hx hb dX2_pad_28 rfl ?_
          obtain ⟨r6, e6, hf⟩ := bd_some hf
          refine cq_v hP hD hS [0, 1, 2, 3] [] [0, 1, 2, 3] (va_free (wc := (wCP E a0 q1.2)) hD hS hA [0, 1, 2, 3] rfl) (va_runV (As := [.int p1, .int p2, .int q1.1, .int (0 : Int32)]) (rest := []) ⟨hx, hb, hml, hown, hts⟩ (c_X2_setCell l E H.size a0 q1.2 p1 p2 q1.1 (0 : Int32) r6 e6) (cwV 4 hts gX2_pad_X2_setCell rfl rfl rfl hdV_X2_setCell ⟨Nat.le_of_ble_eq_true rfl, Nat.le_of_ble_eq_true rfl⟩) ⟨PW.blind, va_recv hC.1 hP (ci := 2) (q0 := 0) rfl rfl, PW.pre hC hS hP hD (va_free hD hS hA [0, 1, 2, 3] rfl)⟩ rfl rfl hl.1 rfl (lv_room (Nat.le_of_ble_eq_true rfl)) dX2_pad_29 ⟨Nat.le_of_ble_eq_true rfl, Nat.le_of_ble_eq_true rfl⟩) rfl rfl rfl rfl (wCP E a0 r6) rfl rfl (fun H locs hP hD hS => ?_)
          refine lv_iinc (v := (q1.1 + 1)) (lv' := [(5, .int (q1.1 + 1)), (0, .ref (a0 0)), (1, .int p1), (2, .int p2), (4, .int p4)]) hx hb dX2_pad_32 hl (k := 4) rfl rfl (by decide) rfl (fun ls hl => ?_)
          refine lv_goto (tgt := 3) hx hb dX2_pad_35 rfl ?_
          exact ih1 ((q1.1 + 1), r6) H locs hP hD hS ls (lv_sub hl [1, 2, 3, 4, 0] rfl) hf
  exact L1 FU (p3, v0) s.heap [] hP hD hS ls (lv_sub hl [1, 2, 3, 5, 0] rfl) hf

/-! X2_manyAt -/
abbrev rmX2_manyAt : Room := { frames := 0, cells := 0, slots := 0, locals := 0 }
theorem hdS_X2_manyAt : yX2_manyAt.cls ≠ "java/lang/invoke/MethodHandle" ∧ yX2_manyAt.cls ≠ "java/lang/invoke/VarHandle" ∧ (parseMethodDescriptor yX2_manyAt.desc).map (fun d => d.parameters.length) = some 1 := by decide +kernel
theorem hdV_X2_manyAt : yX2_manyAt.cls = RX2 ∧ yX2_manyAt.cls ≠ "java/lang/invoke/MethodHandle" ∧ yX2_manyAt.cls ≠ "java/lang/invoke/VarHandle" ∧ (parseMethodDescriptor yX2_manyAt.desc).map (fun d => d.parameters.length) = some 1 := ⟨rfl, hdS_X2_manyAt⟩
set_option maxHeartbeats 4000000 in
set_option maxRecDepth 100000 in
theorem c_X2_manyAt (l : Launch) (E : G0) (a0 : Nat → Nat) (v0 : CP) (p1 : Int32) (x : Int32) (hf : f_X2_manyAt v0 p1 = some x) : Met l yX2_manyAt wsX2_manyAt rmX2_manyAt (va_Pc [.ref (a0 0), .int p1] (PR E (wCP E a0 v0))) (vp_Si (fun r => r = x)) 0 0 (fun _ => False) := by
  refine Met.ofW (cc := cX2_manyAt) (maxL := 4) (ret := some .int) (by decide) rfl ?_
  intro p e s m args below meth c s₁ B hml hv
  obtain ⟨ha, hP, hC⟩ := hv
  have hx := B.exec
  have hb := B.bytes
  have hr := B.returns
  have hts := atoms_spec (ws := wsX2_manyAt) B.pre
  have hown : s.vm.findClass RX2 = some m.cls := findClass_of_methodNamed B.named
  have hlocks := B.notSynchronized
  have hS : va_S (fun _ => False) s.heap s.heap [] := va_S.rf
  have w1 : (Cond.fieldLink RX2 9 "GreatChunks$Copies" "version" "[I").before args s = true := hts _ (List.mem_of_getElem? (i := 1) rfl)
  have w2 : ∀ w ∈ wsX20, w ∈ wsX2_manyAt := in_pl 2 rfl
  generalize hQe : MQ below (vp_Si (fun r => r = x)) args s 0 0 (fun _ => False) = Q
  refine st_W ha (Nat.le_of_ble_eq_true rfl) (fun ls hl => ?_)
  have hl : lv_has ls 4 [(0, .ref (a0 0)), (1, .int p1)] := hl
  unfold f_X2_manyAt at hf
  refine lv_iload_n hx hb dX2_manyAt_0 rfl (lv_at hl 1 rfl) ?_
  refine lv_if_lt (tgt := 9) hx hb dX2_manyAt_1 rfl (fun c1 => ?_) (fun c1 => ?_)
  · have hf := it_t hf c1
    refine lv_iconst (v := 0) hx hb dX2_manyAt_9 rfl ?_
    cases Option.some.inj hf
    subst hQe
    exact en_i hx hb hr hlocks dX2_manyAt_10
  · have hf := it_f hf c1
    refine lv_iload_n hx hb dX2_manyAt_4 rfl (lv_at hl 1 rfl) ?_
    refine lv_iconst (v := 5) hx hb dX2_manyAt_5 rfl ?_
    refine lv_icmp_lt (tgt := 11) hx hb dX2_manyAt_6 rfl (fun c2 => ?_) (fun c2 => ?_)
    · have hf := it_t hf c2
      refine lv_iconst (v := 0) hx hb dX2_manyAt_11 rfl ?_
      refine lv_istore_n (lv' := [(2, .int (0 : Int32)), (0, .ref (a0 0)), (1, .int p1)]) hx hb dX2_manyAt_12 rfl hl (by decide) rfl (fun ls hl => ?_)
      refine lv_iconst (v := 0) hx hb dX2_manyAt_13 rfl ?_
      refine lv_istore_n (lv' := [(3, .int (0 : Int32)), (2, .int (0 : Int32)), (0, .ref (a0 0)), (1, .int p1)]) hx hb dX2_manyAt_14 rfl hl (by decide) rfl (fun ls hl => ?_)
      obtain ⟨K3, hK3, hf⟩ := jn_some hf
      have J3 : ∀ (q3 : Int32 × Int32) (ls : Array Slot) (hl : lv_has ls 4 [(2, .int q3.1)]) (hf : K3 q3 = some x), W p l e (headSpec wsX2_manyAt rmX2_manyAt).room s m args below meth c s.heap [] 0 0 Q (F0 m 49 ls []) := by
        intro q3 ls hl hf
        have hf := (hK3 q3).trans hf
        refine lv_iload_n hx hb dX2_manyAt_49 rfl (lv_at hl 0 rfl) ?_
        cases Option.some.inj hf
        subst hQe
        exact en_i hx hb hr hlocks dX2_manyAt_50
      have L3 : ∀ (n : Nat) (q3 : Int32 × Int32) (ls : Array Slot) (hl : lv_has ls 4 [(0, .ref (a0 0)), (1, .int p1), (2, .int q3.1), (3, .int q3.2)]) (hf : lpF (bX2_manyAt_3 p1 v0 K3) n q3 = some x), W p l e (headSpec wsX2_manyAt rmX2_manyAt).room s m args below meth c s.heap [] 0 0 Q (F0 m 15 ls []) := by
        intro n
        induction n with
        | zero => intro q3 ls hl hf; exact (lpF_zero hf).elim
        | succ n ih3 =>
          intro q3 ls hl hf
          have hf := lpF_succ hf
          unfold bX2_manyAt_3 at hf
          refine lv_iload_n hx hb dX2_manyAt_15 rfl (lv_at hl 3 rfl) ?_
          refine lv_bipush (v := 30) hx hb dX2_manyAt_16 rfl ?_
          refine lv_icmp_ge (tgt := 49) hx hb dX2_manyAt_18 rfl (fun c4 => ?_) (fun c4 => ?_)
          · have hf := it_t hf c4
            exact J3 (q3.1, q3.2) ls (lv_sub hl [2] rfl) hf
          · have hf := it_f hf c4
            refine lv_iload_n hx hb dX2_manyAt_21 rfl (lv_at hl 2 rfl) ?_
            refine lv_aload_n hx hb dX2_manyAt_22 rfl (lv_at hl 0 rfl) ?_
            refine va_get (D := E.1) (ci := 2) (v := .ref (a0 1)) (C := RX2) (T := TX2) (N := 3) hx hb hts w2 hown hC.1 hP 0 rfl rfl 0 (by decide) w1 (fun _ h9 => h9) rfl dX2_manyAt_23 ?_
            refine lv_iload_n hx hb dX2_manyAt_26 rfl (lv_at hl 3 rfl) ?_
            refine lv_iconst (v := 5) hx hb dX2_manyAt_27 rfl ?_
            refine lv_imul hx hb dX2_manyAt_28 ?_
            refine lv_iload_n hx hb dX2_manyAt_29 rfl (lv_at hl 1 rfl) ?_
            refine lv_iadd hx hb dX2_manyAt_30 ?_
            obtain ⟨h5, hf⟩ := gdI_some hf
            refine va_iald hx hb hC.1 hP 1 0 rfl rfl h5 dX2_manyAt_31 ?_
            refine lv_iconst (v := (-1)) hx hb dX2_manyAt_32 rfl ?_
            refine lv_icmp_eq (tgt := 40) hx hb dX2_manyAt_33 rfl (fun c6 => ?_) (fun c6 => ?_)
            · have hf := it_t hf c6
              refine lv_iconst (v := 0) hx hb dX2_manyAt_40 rfl ?_
              refine lv_iadd hx hb dX2_manyAt_41 ?_
              refine lv_istore_n (lv' := [(2, .int (q3.1 + (0 : Int32))), (0, .ref (a0 0)), (1, .int p1), (3, .int q3.2)]) hx hb dX2_manyAt_42 rfl hl (by decide) rfl (fun ls hl => ?_)
              refine lv_iinc (v := (q3.2 + 1)) (lv' := [(3, .int (q3.2 + 1)), (2, .int (q3.1 + (0 : Int32))), (0, .ref (a0 0)), (1, .int p1)]) hx hb dX2_manyAt_43 hl (k := 3) rfl rfl (by decide) rfl (fun ls hl => ?_)
              refine lv_goto (tgt := 15) hx hb dX2_manyAt_46 rfl ?_
              exact ih3 ((q3.1 + (0 : Int32)), (q3.2 + 1)) ls (lv_sub hl [2, 3, 1, 0] rfl) hf
            · have hf := it_f hf c6
              refine lv_iconst (v := 1) hx hb dX2_manyAt_36 rfl ?_
              refine lv_goto (tgt := 41) hx hb dX2_manyAt_37 rfl ?_
              refine lv_iadd hx hb dX2_manyAt_41 ?_
              refine lv_istore_n (lv' := [(2, .int (q3.1 + (1 : Int32))), (0, .ref (a0 0)), (1, .int p1), (3, .int q3.2)]) hx hb dX2_manyAt_42 rfl hl (by decide) rfl (fun ls hl => ?_)
              refine lv_iinc (v := (q3.2 + 1)) (lv' := [(3, .int (q3.2 + 1)), (2, .int (q3.1 + (1 : Int32))), (0, .ref (a0 0)), (1, .int p1)]) hx hb dX2_manyAt_43 hl (k := 3) rfl rfl (by decide) rfl (fun ls hl => ?_)
              refine lv_goto (tgt := 15) hx hb dX2_manyAt_46 rfl ?_
              exact ih3 ((q3.1 + (1 : Int32)), (q3.2 + 1)) ls (lv_sub hl [2, 3, 1, 0] rfl) hf
      exact L3 FU ((0 : Int32), (0 : Int32)) ls (lv_sub hl [2, 3, 1, 0] rfl) hf
    · have hf := it_f hf c2
      refine lv_iconst (v := 0) hx hb dX2_manyAt_9 rfl ?_
      cases Option.some.inj hf
      subst hQe
      exact en_i hx hb hr hlocks dX2_manyAt_10

/-! X2_lettersIn -/
abbrev rmX2_lettersIn : Room := { frames := 2, cells := 0, slots := 0, locals := 47 }
theorem hdS_X2_lettersIn : yX2_lettersIn.cls ≠ "java/lang/invoke/MethodHandle" ∧ yX2_lettersIn.cls ≠ "java/lang/invoke/VarHandle" ∧ (parseMethodDescriptor yX2_lettersIn.desc).map (fun d => d.parameters.length) = some 2 := by decide +kernel
theorem hdV_X2_lettersIn : yX2_lettersIn.cls = RX2 ∧ yX2_lettersIn.cls ≠ "java/lang/invoke/MethodHandle" ∧ yX2_lettersIn.cls ≠ "java/lang/invoke/VarHandle" ∧ (parseMethodDescriptor yX2_lettersIn.desc).map (fun d => d.parameters.length) = some 2 := ⟨rfl, hdS_X2_lettersIn⟩
set_option maxHeartbeats 4000000 in
set_option maxRecDepth 100000 in
theorem c_X2_lettersIn (l : Launch) (E : G0) (a0 : Nat → Nat) (v0 : CP) (p1 : Int32) (p2 : Int32) (x : Int32) (hf : f_X2_lettersIn v0 p1 p2 = some x) : Met l yX2_lettersIn wsX2_lettersIn rmX2_lettersIn (va_Pc [.ref (a0 0), .int p1, .int p2] (PR E (wCP E a0 v0))) (vp_Si (fun r => r = x)) 0 0 (fun _ => False) := by
  refine Met.ofW (cc := cX2_lettersIn) (maxL := 5) (ret := some .int) (by decide) rfl ?_
  intro p e s m args below meth c s₁ B hml hv
  obtain ⟨ha, hP, hC⟩ := hv
  have hx := B.exec
  have hb := B.bytes
  have hr := B.returns
  have hts := atoms_spec (ws := wsX2_lettersIn) B.pre
  have hown : s.vm.findClass RX2 = some m.cls := findClass_of_methodNamed B.named
  have hlocks := B.notSynchronized
  have hS : va_S (fun _ => False) s.heap s.heap [] := va_S.rf
  have w1 : (Cond.initialized RX10).before args s = true := hts _ (List.mem_of_getElem? (i := 12) rfl)
  have w2 : (Cond.static yX10_isLetter).before args s = true := hts _ (List.mem_of_getElem? (i := 11) rfl)
  generalize hQe : MQ below (vp_Si (fun r => r = x)) args s 0 0 (fun _ => False) = Q
  refine st_W ha (Nat.le_of_ble_eq_true rfl) (fun ls hl => ?_)
  have hl : lv_has ls 5 [(0, .ref (a0 0)), (1, .int p1), (2, .int p2)] := hl
  unfold f_X2_lettersIn at hf
  refine lv_iconst (v := 0) hx hb dX2_lettersIn_0 rfl ?_
  refine lv_istore_n (lv' := [(3, .int (0 : Int32)), (0, .ref (a0 0)), (1, .int p1), (2, .int p2)]) hx hb dX2_lettersIn_1 rfl hl (by decide) rfl (fun ls hl => ?_)
  refine lv_iconst (v := 0) hx hb dX2_lettersIn_2 rfl ?_
  refine lv_istore (lv' := [(4, .int (0 : Int32)), (3, .int (0 : Int32)), (0, .ref (a0 0)), (1, .int p1), (2, .int p2)]) hx hb dX2_lettersIn_3 hl (by decide) rfl (fun ls hl => ?_)
  obtain ⟨K1, hK1, hf⟩ := jn_some hf
  have J1 : ∀ (q1 : Int32 × Int32) (ls : Array Slot) (hl : lv_has ls 5 [(3, .int q1.1)]) (hf : K1 q1 = some x), W p l e (headSpec wsX2_lettersIn rmX2_lettersIn).room s m args below meth c s.heap [] 0 0 Q (F0 m 40 ls []) := by
    intro q1 ls hl hf
    have hf := (hK1 q1).trans hf
    refine lv_iload_n hx hb dX2_lettersIn_40 rfl (lv_at hl 0 rfl) ?_
    cases Option.some.inj hf
    subst hQe
    exact en_i hx hb hr hlocks dX2_lettersIn_41
  have L1 : ∀ (n : Nat) (q1 : Int32 × Int32) (ls : Array Slot) (hl : lv_has ls 5 [(0, .ref (a0 0)), (1, .int p1), (2, .int p2), (3, .int q1.1), (4, .int q1.2)]) (hf : lpF (bX2_lettersIn_1 v0 p1 p2 K1) n q1 = some x), W p l e (headSpec wsX2_lettersIn rmX2_lettersIn).room s m args below meth c s.heap [] 0 0 Q (F0 m 5 ls []) := by
    intro n
    induction n with
    | zero => intro q1 ls hl hf; exact (lpF_zero hf).elim
    | succ n ih1 =>
      intro q1 ls hl hf
      have hf := lpF_succ hf
      unfold bX2_lettersIn_1 at hf
      refine lv_iload hx hb dX2_lettersIn_5 (lv_at hl 4 rfl) ?_
      refine lv_bipush (v := 9) hx hb dX2_lettersIn_7 rfl ?_
      refine lv_icmp_ge (tgt := 40) hx hb dX2_lettersIn_9 rfl (fun c2 => ?_) (fun c2 => ?_)
      · have hf := it_t hf c2
        exact J1 (q1.1, q1.2) ls (lv_sub hl [3] rfl) hf
      · have hf := it_f hf c2
        refine lv_iload_n hx hb dX2_lettersIn_12 rfl (lv_at hl 3 rfl) ?_
        refine lv_aload_n hx hb dX2_lettersIn_13 rfl (lv_at hl 0 rfl) ?_
        refine lv_iload_n hx hb dX2_lettersIn_14 rfl (lv_at hl 1 rfl) ?_
        refine lv_iload_n hx hb dX2_lettersIn_15 rfl (lv_at hl 2 rfl) ?_
        refine lv_iload hx hb dX2_lettersIn_16 (lv_at hl 4 rfl) ?_
        obtain ⟨r3, e3, hf⟩ := bd_some hf
        refine cr_i (va_runV (As := [.int p1, .int p2, .int q1.2]) (rest := [.int q1.1]) ⟨hx, hb, hml, hown, hts⟩ (c_X2_cell l E a0 v0 p1 p2 q1.2 r3 e3) (cwV 3 hts gX2_lettersIn_X2_cell rfl rfl rfl hdV_X2_cell ⟨Nat.le_of_ble_eq_true rfl, Nat.le_of_ble_eq_true rfl⟩) ⟨PR.blind, va_recv hC.1 hP (ci := 2) (q0 := 0) rfl rfl, PR.pre hC hS hP⟩ rfl rfl hl.1 rfl (lv_room (Nat.le_of_ble_eq_true rfl)) dX2_lettersIn_18 ⟨Nat.le_of_ble_eq_true rfl, Nat.le_of_ble_eq_true rfl⟩) ?_
        refine cr_i (va_runSN (As := [.int r3]) (rest := [.int q1.1]) ⟨hx, hb, hml, hown, hts⟩ (c_X10_isLetter l E r3 _ rfl) ⟨va_cnB 1 hts gX2_lettersIn_X10_isLetter_n59 rfl rfl rfl (hC.2.1 (RX2, 59, yX10_isLetter, RX10) (List.mem_of_getElem? (i := 16) rfl)) w1 hdS_X10_isLetter ⟨Nat.le_of_ble_eq_true rfl, Nat.le_of_ble_eq_true rfl⟩, w2, trivial⟩ ⟨PR.blind, PR.pre hC hS (hP.sub [] rfl)⟩ rfl rfl hl.1 rfl (lv_room (Nat.le_of_ble_eq_true rfl)) dX2_lettersIn_21 ⟨Nat.le_of_ble_eq_true rfl, Nat.le_of_ble_eq_true rfl⟩) ?_
        refine lv_if_eq (tgt := 31) hx hb dX2_lettersIn_24 rfl (fun c4 => ?_) (fun c4 => ?_)
        · have hf := it_t hf c4
          refine lv_iconst (v := 0) hx hb dX2_lettersIn_31 rfl ?_
          refine lv_iadd hx hb dX2_lettersIn_32 ?_
          refine lv_istore_n (lv' := [(3, .int (q1.1 + (0 : Int32))), (0, .ref (a0 0)), (1, .int p1), (2, .int p2), (4, .int q1.2)]) hx hb dX2_lettersIn_33 rfl hl (by decide) rfl (fun ls hl => ?_)
          refine lv_iinc (v := (q1.2 + 1)) (lv' := [(4, .int (q1.2 + 1)), (3, .int (q1.1 + (0 : Int32))), (0, .ref (a0 0)), (1, .int p1), (2, .int p2)]) hx hb dX2_lettersIn_34 hl (k := 4) rfl rfl (by decide) rfl (fun ls hl => ?_)
          refine lv_goto (tgt := 5) hx hb dX2_lettersIn_37 rfl ?_
          exact ih1 ((q1.1 + (0 : Int32)), (q1.2 + 1)) ls (lv_sub hl [2, 3, 4, 1, 0] rfl) hf
        · have hf := it_f hf c4
          refine lv_iconst (v := 1) hx hb dX2_lettersIn_27 rfl ?_
          refine lv_goto (tgt := 32) hx hb dX2_lettersIn_28 rfl ?_
          refine lv_iadd hx hb dX2_lettersIn_32 ?_
          refine lv_istore_n (lv' := [(3, .int (q1.1 + (1 : Int32))), (0, .ref (a0 0)), (1, .int p1), (2, .int p2), (4, .int q1.2)]) hx hb dX2_lettersIn_33 rfl hl (by decide) rfl (fun ls hl => ?_)
          refine lv_iinc (v := (q1.2 + 1)) (lv' := [(4, .int (q1.2 + 1)), (3, .int (q1.1 + (1 : Int32))), (0, .ref (a0 0)), (1, .int p1), (2, .int p2)]) hx hb dX2_lettersIn_34 hl (k := 4) rfl rfl (by decide) rfl (fun ls hl => ?_)
          refine lv_goto (tgt := 5) hx hb dX2_lettersIn_37 rfl ?_
          exact ih1 ((q1.1 + (1 : Int32)), (q1.2 + 1)) ls (lv_sub hl [2, 3, 4, 1, 0] rfl) hf
  exact L1 FU ((0 : Int32), (0 : Int32)) ls (lv_sub hl [2, 3, 4, 1, 0] rfl) hf

/-! X2_padsIn -/
abbrev rmX2_padsIn : Room := { frames := 2, cells := 0, slots := 0, locals := 47 }
theorem hdS_X2_padsIn : yX2_padsIn.cls ≠ "java/lang/invoke/MethodHandle" ∧ yX2_padsIn.cls ≠ "java/lang/invoke/VarHandle" ∧ (parseMethodDescriptor yX2_padsIn.desc).map (fun d => d.parameters.length) = some 2 := by decide +kernel
theorem hdV_X2_padsIn : yX2_padsIn.cls = RX2 ∧ yX2_padsIn.cls ≠ "java/lang/invoke/MethodHandle" ∧ yX2_padsIn.cls ≠ "java/lang/invoke/VarHandle" ∧ (parseMethodDescriptor yX2_padsIn.desc).map (fun d => d.parameters.length) = some 2 := ⟨rfl, hdS_X2_padsIn⟩
set_option maxHeartbeats 4000000 in
set_option maxRecDepth 100000 in
theorem c_X2_padsIn (l : Launch) (E : G0) (a0 : Nat → Nat) (v0 : CP) (p1 : Int32) (p2 : Int32) (x : Int32) (hf : f_X2_padsIn v0 p1 p2 = some x) : Met l yX2_padsIn wsX2_padsIn rmX2_padsIn (va_Pc [.ref (a0 0), .int p1, .int p2] (PR E (wCP E a0 v0))) (vp_Si (fun r => r = x)) 0 0 (fun _ => False) := by
  refine Met.ofW (cc := cX2_padsIn) (maxL := 5) (ret := some .int) (by decide) rfl ?_
  intro p e s m args below meth c s₁ B hml hv
  obtain ⟨ha, hP, hC⟩ := hv
  have hx := B.exec
  have hb := B.bytes
  have hr := B.returns
  have hts := atoms_spec (ws := wsX2_padsIn) B.pre
  have hown : s.vm.findClass RX2 = some m.cls := findClass_of_methodNamed B.named
  have hlocks := B.notSynchronized
  have hS : va_S (fun _ => False) s.heap s.heap [] := va_S.rf
  generalize hQe : MQ below (vp_Si (fun r => r = x)) args s 0 0 (fun _ => False) = Q
  refine st_W ha (Nat.le_of_ble_eq_true rfl) (fun ls hl => ?_)
  have hl : lv_has ls 5 [(0, .ref (a0 0)), (1, .int p1), (2, .int p2)] := hl
  unfold f_X2_padsIn at hf
  refine lv_iconst (v := 0) hx hb dX2_padsIn_0 rfl ?_
  refine lv_istore_n (lv' := [(3, .int (0 : Int32)), (0, .ref (a0 0)), (1, .int p1), (2, .int p2)]) hx hb dX2_padsIn_1 rfl hl (by decide) rfl (fun ls hl => ?_)
  refine lv_iconst (v := 0) hx hb dX2_padsIn_2 rfl ?_
  refine lv_istore (lv' := [(4, .int (0 : Int32)), (3, .int (0 : Int32)), (0, .ref (a0 0)), (1, .int p1), (2, .int p2)]) hx hb dX2_padsIn_3 hl (by decide) rfl (fun ls hl => ?_)
  obtain ⟨K1, hK1, hf⟩ := jn_some hf
  have J1 : ∀ (q1 : Int32 × Int32) (ls : Array Slot) (hl : lv_has ls 5 [(3, .int q1.1)]) (hf : K1 q1 = some x), W p l e (headSpec wsX2_padsIn rmX2_padsIn).room s m args below meth c s.heap [] 0 0 Q (F0 m 37 ls []) := by
    intro q1 ls hl hf
    have hf := (hK1 q1).trans hf
    refine lv_iload_n hx hb dX2_padsIn_37 rfl (lv_at hl 0 rfl) ?_
    cases Option.some.inj hf
    subst hQe
    exact en_i hx hb hr hlocks dX2_padsIn_38
  have L1 : ∀ (n : Nat) (q1 : Int32 × Int32) (ls : Array Slot) (hl : lv_has ls 5 [(0, .ref (a0 0)), (1, .int p1), (2, .int p2), (3, .int q1.1), (4, .int q1.2)]) (hf : lpF (bX2_padsIn_1 v0 p1 p2 K1) n q1 = some x), W p l e (headSpec wsX2_padsIn rmX2_padsIn).room s m args below meth c s.heap [] 0 0 Q (F0 m 5 ls []) := by
    intro n
    induction n with
    | zero => intro q1 ls hl hf; exact (lpF_zero hf).elim
    | succ n ih1 =>
      intro q1 ls hl hf
      have hf := lpF_succ hf
      unfold bX2_padsIn_1 at hf
      refine lv_iload hx hb dX2_padsIn_5 (lv_at hl 4 rfl) ?_
      refine lv_bipush (v := 9) hx hb dX2_padsIn_7 rfl ?_
      refine lv_icmp_ge (tgt := 37) hx hb dX2_padsIn_9 rfl (fun c2 => ?_) (fun c2 => ?_)
      · have hf := it_t hf c2
        exact J1 (q1.1, q1.2) ls (lv_sub hl [3] rfl) hf
      · have hf := it_f hf c2
        refine lv_iload_n hx hb dX2_padsIn_12 rfl (lv_at hl 3 rfl) ?_
        refine lv_aload_n hx hb dX2_padsIn_13 rfl (lv_at hl 0 rfl) ?_
        refine lv_iload_n hx hb dX2_padsIn_14 rfl (lv_at hl 1 rfl) ?_
        refine lv_iload_n hx hb dX2_padsIn_15 rfl (lv_at hl 2 rfl) ?_
        refine lv_iload hx hb dX2_padsIn_16 (lv_at hl 4 rfl) ?_
        obtain ⟨r3, e3, hf⟩ := bd_some hf
        refine cr_i (va_runV (As := [.int p1, .int p2, .int q1.2]) (rest := [.int q1.1]) ⟨hx, hb, hml, hown, hts⟩ (c_X2_cell l E a0 v0 p1 p2 q1.2 r3 e3) (cwV 3 hts gX2_padsIn_X2_cell rfl rfl rfl hdV_X2_cell ⟨Nat.le_of_ble_eq_true rfl, Nat.le_of_ble_eq_true rfl⟩) ⟨PR.blind, va_recv hC.1 hP (ci := 2) (q0 := 0) rfl rfl, PR.pre hC hS hP⟩ rfl rfl hl.1 rfl (lv_room (Nat.le_of_ble_eq_true rfl)) dX2_padsIn_18 ⟨Nat.le_of_ble_eq_true rfl, Nat.le_of_ble_eq_true rfl⟩) ?_
        refine lv_if_ne (tgt := 28) hx hb dX2_padsIn_21 rfl (fun c4 => ?_) (fun c4 => ?_)
        · have hf := it_f hf c4
          refine lv_iconst (v := 0) hx hb dX2_padsIn_28 rfl ?_
          refine lv_iadd hx hb dX2_padsIn_29 ?_
          refine lv_istore_n (lv' := [(3, .int (q1.1 + (0 : Int32))), (0, .ref (a0 0)), (1, .int p1), (2, .int p2), (4, .int q1.2)]) hx hb dX2_padsIn_30 rfl hl (by decide) rfl (fun ls hl => ?_)
          refine lv_iinc (v := (q1.2 + 1)) (lv' := [(4, .int (q1.2 + 1)), (3, .int (q1.1 + (0 : Int32))), (0, .ref (a0 0)), (1, .int p1), (2, .int p2)]) hx hb dX2_padsIn_31 hl (k := 4) rfl rfl (by decide) rfl (fun ls hl => ?_)
          refine lv_goto (tgt := 5) hx hb dX2_padsIn_34 rfl ?_
          exact ih1 ((q1.1 + (0 : Int32)), (q1.2 + 1)) ls (lv_sub hl [2, 3, 4, 1, 0] rfl) hf
        · have hf := it_t hf c4
          refine lv_iconst (v := 1) hx hb dX2_padsIn_24 rfl ?_
          refine lv_goto (tgt := 29) hx hb dX2_padsIn_25 rfl ?_
          refine lv_iadd hx hb dX2_padsIn_29 ?_
          refine lv_istore_n (lv' := [(3, .int (q1.1 + (1 : Int32))), (0, .ref (a0 0)), (1, .int p1), (2, .int p2), (4, .int q1.2)]) hx hb dX2_padsIn_30 rfl hl (by decide) rfl (fun ls hl => ?_)
          refine lv_iinc (v := (q1.2 + 1)) (lv' := [(4, .int (q1.2 + 1)), (3, .int (q1.1 + (1 : Int32))), (0, .ref (a0 0)), (1, .int p1), (2, .int p2)]) hx hb dX2_padsIn_31 hl (k := 4) rfl rfl (by decide) rfl (fun ls hl => ?_)
          refine lv_goto (tgt := 5) hx hb dX2_padsIn_34 rfl ?_
          exact ih1 ((q1.1 + (1 : Int32)), (q1.2 + 1)) ls (lv_sub hl [2, 3, 4, 1, 0] rfl) hf
  exact L1 FU ((0 : Int32), (0 : Int32)) ls (lv_sub hl [2, 3, 4, 1, 0] rfl) hf

/-! X2_holdsAt -/
abbrev rmX2_holdsAt : Room := { frames := 2, cells := 0, slots := 0, locals := 47 }
theorem hdS_X2_holdsAt : yX2_holdsAt.cls ≠ "java/lang/invoke/MethodHandle" ∧ yX2_holdsAt.cls ≠ "java/lang/invoke/VarHandle" ∧ (parseMethodDescriptor yX2_holdsAt.desc).map (fun d => d.parameters.length) = some 5 := by decide +kernel
theorem hdV_X2_holdsAt : yX2_holdsAt.cls = RX2 ∧ yX2_holdsAt.cls ≠ "java/lang/invoke/MethodHandle" ∧ yX2_holdsAt.cls ≠ "java/lang/invoke/VarHandle" ∧ (parseMethodDescriptor yX2_holdsAt.desc).map (fun d => d.parameters.length) = some 5 := ⟨rfl, hdS_X2_holdsAt⟩
set_option maxHeartbeats 4000000 in
set_option maxRecDepth 100000 in
theorem c_X2_holdsAt (l : Launch) (E : G0) (a0 : Nat → Nat) (v0 : CP) (p1 : Int32) (p2 : Int32) (p3 : Int32) (a4 n4 : Nat) (v4 : (Nat → Int32)) (p5 : Int32) (x : Bool) (hf : f_X2_holdsAt v0 p1 p2 p3 n4 v4 p5 = some x) : Met l yX2_holdsAt wsX2_holdsAt rmX2_holdsAt (va_Pc [.ref (a0 0), .int p1, .int p2, .int p3, .ref a4, .int p5] (PR E (wCP E a0 v0 ++ wIA E a4 n4 v4))) (vp_Si (fun r => r = bI x)) 0 0 (fun _ => False) := by
  refine Met.ofW (cc := cX2_holdsAt) (maxL := 7) (ret := some .boolean) (by decide) rfl ?_
  intro p e s m args below meth c s₁ B hml hv
  obtain ⟨ha, hP, hC⟩ := hv
  have hx := B.exec
  have hb := B.bytes
  have hr := B.returns
  have hts := atoms_spec (ws := wsX2_holdsAt) B.pre
  have hown : s.vm.findClass RX2 = some m.cls := findClass_of_methodNamed B.named
  have hlocks := B.notSynchronized
  have hS : va_S (fun _ => False) s.heap s.heap [] := va_S.rf
  generalize hQe : MQ below (vp_Si (fun r => r = bI x)) args s 0 0 (fun _ => False) = Q
  refine st_W ha (Nat.le_of_ble_eq_true rfl) (fun ls hl => ?_)
  have hl : lv_has ls 7 [(0, .ref (a0 0)), (1, .int p1), (2, .int p2), (3, .int p3), (4, .ref a4), (5, .int p5)] := hl
  unfold f_X2_holdsAt at hf
  refine lv_iconst (v := 0) hx hb dX2_holdsAt_0 rfl ?_
  refine lv_istore (lv' := [(6, .int (0 : Int32)), (0, .ref (a0 0)), (1, .int p1), (2, .int p2), (3, .int p3), (4, .ref a4), (5, .int p5)]) hx hb dX2_holdsAt_1 hl (by decide) rfl (fun ls hl => ?_)
  obtain ⟨K1, hK1, hf⟩ := jn_some hf
  have J1 : ∀ (q1 : Int32) (ls : Array Slot) (hl : lv_has ls 7 []) (hf : K1 q1 = some x), W p l e (headSpec wsX2_holdsAt rmX2_holdsAt).room s m args below meth c s.heap [] 0 0 Q (F0 m 44 ls []) := by
    intro q1 ls hl hf
    have hf := (hK1 q1).trans hf
    refine lv_iconst (v := 1) hx hb dX2_holdsAt_44 rfl ?_
    cases Option.some.inj hf
    subst hQe
    exact en_z hx hb hr hlocks rfl dX2_holdsAt_45
  have L1 : ∀ (n : Nat) (q1 : Int32) (ls : Array Slot) (hl : lv_has ls 7 [(0, .ref (a0 0)), (1, .int p1), (2, .int p2), (3, .int p3), (4, .ref a4), (5, .int p5), (6, .int q1)]) (hf : lpF (bX2_holdsAt_1 p5 n4 v0 p1 p2 p3 v4 K1) n q1 = some x), W p l e (headSpec wsX2_holdsAt rmX2_holdsAt).room s m args below meth c s.heap [] 0 0 Q (F0 m 3 ls []) := by
    intro n
    induction n with
    | zero => intro q1 ls hl hf; exact (lpF_zero hf).elim
    | succ n ih1 =>
      intro q1 ls hl hf
      have hf := lpF_succ hf
      unfold bX2_holdsAt_1 at hf
      refine lv_iload hx hb dX2_holdsAt_3 (lv_at hl 6 rfl) ?_
      refine lv_iload hx hb dX2_holdsAt_5 (lv_at hl 5 rfl) ?_
      refine lv_icmp_ge (tgt := 44) hx hb dX2_holdsAt_7 rfl (fun c2 => ?_) (fun c2 => ?_)
      · have hf := it_t hf c2
        exact J1 q1 ls (lv_sub hl [] rfl) hf
      · have hf := it_f hf c2
        refine lv_iload hx hb dX2_holdsAt_10 (lv_at hl 6 rfl) ?_
        refine lv_aload hx hb dX2_holdsAt_12 (lv_at hl 4 rfl) ?_
        refine va_alen (v := Int32.ofNat n4) hx hb hC.1 hP 4 0 rfl rfl rfl dX2_holdsAt_14 ?_
        refine lv_icmp_ge (tgt := 44) hx hb dX2_holdsAt_15 rfl (fun c3 => ?_) (fun c3 => ?_)
        · have hf := it_t hf c3
          exact J1 q1 ls (lv_sub hl [] rfl) hf
        · have hf := it_f hf c3
          refine lv_aload_n hx hb dX2_holdsAt_18 rfl (lv_at hl 0 rfl) ?_
          refine lv_iload_n hx hb dX2_holdsAt_19 rfl (lv_at hl 1 rfl) ?_
          refine lv_iload_n hx hb dX2_holdsAt_20 rfl (lv_at hl 2 rfl) ?_
          refine lv_iload_n hx hb dX2_holdsAt_21 rfl (lv_at hl 3 rfl) ?_
          refine lv_iload hx hb dX2_holdsAt_22 (lv_at hl 6 rfl) ?_
          refine lv_iadd hx hb dX2_holdsAt_24 ?_
          obtain ⟨r4, e4, hf⟩ := bd_some hf
          refine cr_i (va_runV (As := [.int p1, .int p2, .int (p3 + q1)]) (rest := []) ⟨hx, hb, hml, hown, hts⟩ (c_X2_cell l E a0 v0 p1 p2 (p3 + q1) r4 e4) (cwV 3 hts gX2_holdsAt_X2_cell rfl rfl rfl hdV_X2_cell ⟨Nat.le_of_ble_eq_true rfl, Nat.le_of_ble_eq_true rfl⟩) ⟨PR.blind, va_recv hC.1 hP (ci := 2) (q0 := 0) rfl rfl, PR.pre hC hS (hP.sub [0, 1, 2, 3] rfl)⟩ rfl rfl hl.1 rfl (lv_room (Nat.le_of_ble_eq_true rfl)) dX2_holdsAt_25 ⟨Nat.le_of_ble_eq_true rfl, Nat.le_of_ble_eq_true rfl⟩) ?_
          refine lv_aload hx hb dX2_holdsAt_28 (lv_at hl 4 rfl) ?_
          refine lv_iload hx hb dX2_holdsAt_30 (lv_at hl 6 rfl) ?_
          obtain ⟨h5, hf⟩ := gdI_some hf
          refine va_iald hx hb hC.1 hP 4 0 rfl rfl h5 dX2_holdsAt_32 ?_
          refine lv_icmp_eq (tgt := 38) hx hb dX2_holdsAt_33 rfl (fun c6 => ?_) (fun c6 => ?_)
          · have hf := it_t hf c6
            refine lv_iinc (v := (q1 + 1)) (lv' := [(6, .int (q1 + 1)), (0, .ref (a0 0)), (1, .int p1), (2, .int p2), (3, .int p3), (4, .ref a4), (5, .int p5)]) hx hb dX2_holdsAt_38 hl (k := 6) rfl rfl (by decide) rfl (fun ls hl => ?_)
            refine lv_goto (tgt := 3) hx hb dX2_holdsAt_41 rfl ?_
            exact ih1 (q1 + 1) ls (lv_sub hl [1, 2, 3, 4, 5, 6, 0] rfl) hf
          · have hf := it_f hf c6
            refine lv_iconst (v := 0) hx hb dX2_holdsAt_36 rfl ?_
            cases Option.some.inj hf
            subst hQe
            exact en_z hx hb hr hlocks rfl dX2_holdsAt_37
  exact L1 FU (0 : Int32) ls (lv_sub hl [1, 2, 3, 4, 5, 6, 0] rfl) hf
