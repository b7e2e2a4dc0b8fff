/-! X1_become -/
abbrev rmX1_become : Room := { frames := 1, cells := 0, slots := 0, locals := 60 }
theorem hdS_X1_become : yX1_become.cls ≠ "java/lang/invoke/MethodHandle" ∧ yX1_become.cls ≠ "java/lang/invoke/VarHandle" ∧ (parseMethodDescriptor yX1_become.desc).map (fun d => d.parameters.length) = some 1 := by decide +kernel
theorem hdV_X1_become : yX1_become.cls = RX1 ∧ yX1_become.cls ≠ "java/lang/invoke/MethodHandle" ∧ yX1_become.cls ≠ "java/lang/invoke/VarHandle" ∧ (parseMethodDescriptor yX1_become.desc).map (fun d => d.parameters.length) = some 1 := ⟨rfl, hdS_X1_become⟩
set_option maxHeartbeats 4000000 in
set_option maxRecDepth 100000 in
theorem c_X1_become (l : Launch) (E : G0) (sz : Nat) (a0 : Nat → Nat) (v0 : CK) (a1 : Nat → Nat) (v1 : CK) (x : CK) (hf : f_X1_become v0 v1 = some x) : Met l yX1_become wsX1_become rmX1_become (va_Pc [.ref (a0 0), .ref (a1 0)] (PW E (wCK E a0 v0 ++ wCK E a1 v1) sz)) (va_Qv (fun q => q = x) (fun q t => va_P E.1 vwCl ((fun q : CK => wCK E a0 q ++ wCK E a1 v1) q) t.heap ∧ va_D (va_A (wCK E a0 v0 ++ wCK E a1 v1) sz) ((fun q : CK => wCK E a0 q ++ wCK E a1 v1) q)) (va_A (wCK E a0 v0 ++ wCK E a1 v1) sz)) 0 0 (va_A (wCK E a0 v0 ++ wCK E a1 v1) sz) := by
  refine Met.ofW (cc := cX1_become) (maxL := 2) (ret := none) (by decide) rfl ?_
  intro p e s m args below meth c s₁ B hml hv
  obtain ⟨ha, hsz, hP, hD0, hC⟩ := hv
  have hx := B.exec
  have hb := B.bytes
  have hr := B.returns
  have hts := atoms_spec (ws := wsX1_become) B.pre
  have hown : s.vm.findClass RX1 = some m.cls := findClass_of_methodNamed B.named
  have hlocks := B.notSynchronized
  subst hsz
  have hD := hD0.self (sz := s.heap.size)
  generalize hAe : va_A (wCK E a0 v0 ++ wCK E a1 v1) s.heap.size = A at hD hC ⊢
  have hA : ∀ q : Nat, s.heap.size ≤ q → A q := fun q h => by rw [← hAe]; exact Or.inr h
  have hS : va_S A s.heap s.heap [] := va_S.rf
  have w1 : (Cond.fieldLink RX1 9 "GreatChunks$Chunks" "made" "I").before args s = true := hts _ (List.mem_of_getElem? (i := 1) rfl)
  have w2 : ∀ w ∈ wsX10, w ∈ wsX1_become := in_pl 10 rfl
  have w3 : (Cond.fieldLink RX1 15 "GreatChunks$Chunks" "version" "[I").before args s = true := hts _ (List.mem_of_getElem? (i := 2) rfl)
  have w4 : (Cond.methodLink RX1 28 arraycopyName).before args s = true := hts _ (List.mem_of_getElem? (i := 3) rfl)
  have w5 : (Cond.native arraycopyName).before args s = true := hts _ (List.mem_of_getElem? (i := 4) rfl)
  have w6 : (Cond.static arraycopyName).before args s = true := hts _ (List.mem_of_getElem? (i := 5) rfl)
  have w7 : (Cond.initialized "java/lang/System").before args s = true := hts _ (List.mem_of_getElem? (i := 6) rfl)
  have w8 : (Cond.fieldLink RX1 19 "GreatChunks$Chunks" "shares" "[I").before args s = true := hts _ (List.mem_of_getElem? (i := 7) rfl)
  have w9 : (Cond.fieldLink RX1 22 "GreatChunks$Chunks" "holder" "[I").before args s = true := hts _ (List.mem_of_getElem? (i := 8) rfl)
  have w10 : (Cond.fieldLink RX1 25 "GreatChunks$Chunks" "till" "[I").before args s = true := hts _ (List.mem_of_getElem? (i := 9) rfl)
  generalize hQe : MQ below (va_Qv (fun q => q = x) (fun q t => va_P E.1 vwCl ((fun q : CK => wCK E a0 q ++ wCK E a1 v1) q) t.heap ∧ va_D A ((fun q : CK => wCK E a0 q ++ wCK E a1 v1) q)) A) args s 0 0 A = Q
  refine st_W ha (Nat.le_of_ble_eq_true rfl) (fun ls hl => ?_)
  have hl : lv_has ls 2 [(0, .ref (a0 0)), (1, .ref (a1 0))] := hl
  unfold f_X1_become at hf
  refine lv_aload_n hx hb dX1_become_0 rfl (lv_at hl 0 rfl) ?_
  refine lv_aload_n hx hb dX1_become_1 rfl (lv_at hl 1 rfl) ?_
  refine va_get (D := E.1) (ci := 1) (v := .int v1.1) (C := RX1) (T := TX1) (N := 5) hx hb hts w2 hown hC.1 hP 5 rfl rfl 0 (by decide) w1 (fun _ h9 => h9) rfl dX1_become_2 ?_
  refine va_put (D := E.1) (ci := 1) (v := .int v1.1) (ty := .int) (C := RX1) (T := TX1) (N := 5) hx hb hts w2 tyX1 tyX1_ok nmX1 hown hC.1 hP hD hS 0 rfl rfl 0 (by decide) w1 (fun _ h9 => h9) rfl (by decide +kernel) rfl rfl (Nat.le_of_ble_eq_true rfl) dX1_become_5 (fun H locs hP hD hS => ?_)
  have hP : va_P E.1 vwCl (wCK E a0 (v1.1, v0.2.1, v0.2.2.1, v0.2.2.2.1, v0.2.2.2.2) ++ wCK E a1 v1) H := hP
  have hD : va_D A (wCK E a0 (v1.1, v0.2.1, v0.2.2.1, v0.2.2.2.1, v0.2.2.2.2) ++ wCK E a1 v1) := hD
  refine lv_aload_n hx hb dX1_become_8 rfl (lv_at hl 1 rfl) ?_
  refine va_get (D := E.1) (ci := 1) (v := .ref (a1 1)) (C := RX1) (T := TX1) (N := 5) hx hb hts w2 hown hC.1 hP 5 rfl rfl 1 (by decide) w3 (fun _ h9 => h9) rfl dX1_become_9 ?_
  refine lv_iconst (v := 0) hx hb dX1_become_12 rfl ?_
  refine lv_aload_n hx hb dX1_become_13 rfl (lv_at hl 0 rfl) ?_
  refine va_get (D := E.1) (ci := 1) (v := .ref (a0 1)) (C := RX1) (T := TX1) (N := 5) hx hb hts w2 hown hC.1 hP 0 rfl rfl 1 (by decide) w3 (fun _ h9 => h9) rfl dX1_become_14 ?_
  refine lv_iconst (v := 0) hx hb dX1_become_17 rfl ?_
  refine lv_bipush (v := 30) hx hb dX1_become_18 rfl ?_
  refine va_copyi hx hb (by rw [hml]; exact hl.1.symm) hown w4 w5 w6 w7 hC.1 hP hD hS 6 1 0 0 rfl rfl rfl rfl rfl (by decide) (by decide) (by decide) (by decide) (by decide) (fun _ _ => rfl) (Nat.le_of_ble_eq_true rfl) (by decide) dX1_become_20 (fun H locs hP hD hS => ?_)
  have hP : va_P E.1 vwCl (wCK E a0 (v1.1, (va_cpy v1.2.1 v0.2.1 (0 : Int32).toNatClampNeg (0 : Int32).toNatClampNeg (30 : Int32).toNatClampNeg), v0.2.2.1, v0.2.2.2.1, v0.2.2.2.2) ++ wCK E a1 v1) H := hP
  have hD : va_D A (wCK E a0 (v1.1, (va_cpy v1.2.1 v0.2.1 (0 : Int32).toNatClampNeg (0 : Int32).toNatClampNeg (30 : Int32).toNatClampNeg), v0.2.2.1, v0.2.2.2.1, v0.2.2.2.2) ++ wCK E a1 v1) := hD
  refine lv_aload_n hx hb dX1_become_23 rfl (lv_at hl 1 rfl) ?_
  refine va_get (D := E.1) (ci := 1) (v := .ref (a1 2)) (C := RX1) (T := TX1) (N := 5) hx hb hts w2 hown hC.1 hP 5 rfl rfl 2 (by decide) w8 (fun _ h9 => h9) rfl dX1_become_24 ?_
  refine lv_iconst (v := 0) hx hb dX1_become_27 rfl ?_
  refine lv_aload_n hx hb dX1_become_28 rfl (lv_at hl 0 rfl) ?_
  refine va_get (D := E.1) (ci := 1) (v := .ref (a0 2)) (C := RX1) (T := TX1) (N := 5) hx hb hts w2 hown hC.1 hP 0 rfl rfl 2 (by decide) w8 (fun _ h9 => h9) rfl dX1_become_29 ?_
  refine lv_iconst (v := 0) hx hb dX1_become_32 rfl ?_
  refine lv_bipush (v := 30) hx hb dX1_become_33 rfl ?_
  refine va_copyi hx hb (by rw [hml]; exact hl.1.symm) hown w4 w5 w6 w7 hC.1 hP hD hS 7 2 0 0 rfl rfl rfl rfl rfl (by decide) (by decide) (by decide) (by decide) (by decide) (fun _ _ => rfl) (Nat.le_of_ble_eq_true rfl) (by decide) dX1_become_35 (fun H locs hP hD hS => ?_)
  have hP : va_P E.1 vwCl (wCK E a0 (v1.1, (va_cpy v1.2.1 v0.2.1 (0 : Int32).toNatClampNeg (0 : Int32).toNatClampNeg (30 : Int32).toNatClampNeg), (va_cpy v1.2.2.1 v0.2.2.1 (0 : Int32).toNatClampNeg (0 : Int32).toNatClampNeg (30 : Int32).toNatClampNeg), v0.2.2.2.1, v0.2.2.2.2) ++ wCK E a1 v1) H := hP
  have hD : va_D A (wCK E a0 (v1.1, (va_cpy v1.2.1 v0.2.1 (0 : Int32).toNatClampNeg (0 : Int32).toNatClampNeg (30 : Int32).toNatClampNeg), (va_cpy v1.2.2.1 v0.2.2.1 (0 : Int32).toNatClampNeg (0 : Int32).toNatClampNeg (30 : Int32).toNatClampNeg), v0.2.2.2.1, v0.2.2.2.2) ++ wCK E a1 v1) := hD
  refine lv_aload_n hx hb dX1_become_38 rfl (lv_at hl 1 rfl) ?_
  refine va_get (D := E.1) (ci := 1) (v := .ref (a1 3)) (C := RX1) (T := TX1) (N := 5) hx hb hts w2 hown hC.1 hP 5 rfl rfl 3 (by decide) w9 (fun _ h9 => h9) rfl dX1_become_39 ?_
  refine lv_iconst (v := 0) hx hb dX1_become_42 rfl ?_
  refine lv_aload_n hx hb dX1_become_43 rfl (lv_at hl 0 rfl) ?_
  refine va_get (D := E.1) (ci := 1) (v := .ref (a0 3)) (C := RX1) (T := TX1) (N := 5) hx hb hts w2 hown hC.1 hP 0 rfl rfl 3 (by decide) w9 (fun _ h9 => h9) rfl dX1_become_44 ?_
  refine lv_iconst (v := 0) hx hb dX1_become_47 rfl ?_
  refine lv_bipush (v := 30) hx hb dX1_become_48 rfl ?_
  refine va_copyi hx hb (by rw [hml]; exact hl.1.symm) hown w4 w5 w6 w7 hC.1 hP hD hS 8 3 0 0 rfl rfl rfl rfl rfl (by decide) (by decide) (by decide) (by decide) (by decide) (fun _ _ => rfl) (Nat.le_of_ble_eq_true rfl) (by decide) dX1_become_50 (fun H locs hP hD hS => ?_)
  have hP : va_P E.1 vwCl (wCK E a0 (v1.1, (va_cpy v1.2.1 v0.2.1 (0 : Int32).toNatClampNeg (0 : Int32).toNatClampNeg (30 : Int32).toNatClampNeg), (va_cpy v1.2.2.1 v0.2.2.1 (0 : Int32).toNatClampNeg (0 : Int32).toNatClampNeg (30 : Int32).toNatClampNeg), (va_cpy v1.2.2.2.1 v0.2.2.2.1 (0 : Int32).toNatClampNeg (0 : Int32).toNatClampNeg (30 : Int32).toNatClampNeg), v0.2.2.2.2) ++ wCK E a1 v1) H := hP
  have hD : va_D A (wCK E a0 (v1.1, (va_cpy v1.2.1 v0.2.1 (0 : Int32).toNatClampNeg (0 : Int32).toNatClampNeg (30 : Int32).toNatClampNeg), (va_cpy v1.2.2.1 v0.2.2.1 (0 : Int32).toNatClampNeg (0 : Int32).toNatClampNeg (30 : Int32).toNatClampNeg), (va_cpy v1.2.2.2.1 v0.2.2.2.1 (0 : Int32).toNatClampNeg (0 : Int32).toNatClampNeg (30 : Int32).toNatClampNeg), v0.2.2.2.2) ++ wCK E a1 v1) := hD
  refine lv_aload_n hx hb dX1_become_53 rfl (lv_at hl 1 rfl) ?_
  refine va_get (D := E.1) (ci := 1) (v := .ref (a1 4)) (C := RX1) (T := TX1) (N := 5) hx hb hts w2 hown hC.1 hP 5 rfl rfl 4 (by decide) w10 (fun _ h9 => h9) rfl dX1_become_54 ?_
  refine lv_iconst (v := 0) hx hb dX1_become_57 rfl ?_
  refine lv_aload_n hx hb dX1_become_58 rfl (lv_at hl 0 rfl) ?_
  refine va_get (D := E.1) (ci := 1) (v := .ref (a0 4)) (C := RX1) (T := TX1) (N := 5) hx hb hts w2 hown hC.1 hP 0 rfl rfl 4 (by decide) w10 (fun _ h9 => h9) rfl dX1_become_59 ?_
  refine lv_iconst (v := 0) hx hb dX1_become_62 rfl ?_
  refine lv_bipush (v := 30) hx hb dX1_become_63 rfl ?_
  refine va_copyi hx hb (by rw [hml]; exact hl.1.symm) hown w4 w5 w6 w7 hC.1 hP hD hS 9 4 0 0 rfl rfl rfl rfl rfl (by decide) (by decide) (by decide) (by decide) (by decide) (fun _ _ => rfl) (Nat.le_of_ble_eq_true rfl) (by decide) dX1_become_65 (fun H locs hP hD hS => ?_)
  have hP : va_P E.1 vwCl (wCK E a0 (v1.1, (va_cpy v1.2.1 v0.2.1 (0 : Int32).toNatClampNeg (0 : Int32).toNatClampNeg (30 : Int32).toNatClampNeg), (va_cpy v1.2.2.1 v0.2.2.1 (0 : Int32).toNatClampNeg (0 : Int32).toNatClampNeg (30 : Int32).toNatClampNeg), (va_cpy v1.2.2.2.1 v0.2.2.2.1 (0 : Int32).toNatClampNeg (0 : Int32).toNatClampNeg (30 : Int32).toNatClampNeg), (va_cpy v1.2.2.2.2 v0.2.2.2.2 (0 : Int32).toNatClampNeg (0 : Int32).toNatClampNeg (30 : Int32).toNatClampNeg)) ++ wCK E a1 v1) H := hP
  have hD : va_D A (wCK E a0 (v1.1, (va_cpy v1.2.1 v0.2.1 (0 : Int32).toNatClampNeg (0 : Int32).toNatClampNeg (30 : Int32).toNatClampNeg), (va_cpy v1.2.2.1 v0.2.2.1 (0 : Int32).toNatClampNeg (0 : Int32).toNatClampNeg (30 : Int32).toNatClampNeg), (va_cpy v1.2.2.2.1 v0.2.2.2.1 (0 : Int32).toNatClampNeg (0 : Int32).toNatClampNeg (30 : Int32).toNatClampNeg), (va_cpy v1.2.2.2.2 v0.2.2.2.2 (0 : Int32).toNatClampNeg (0 : Int32).toNatClampNeg (30 : Int32).toNatClampNeg)) ++ wCK E a1 v1) := hD
  cases Option.some.inj hf
  subst hQe
  exact ew_v (wf := (fun q : CK => wCK E a0 q ++ wCK E a1 v1)) hx hb hr hlocks hP hD hS dX1_become_68

/-! X1_has -/
abbrev rmX1_has : Room := { frames := 0, cells := 0, slots := 0, locals := 0 }
theorem hdS_X1_has : yX1_has.cls ≠ "java/lang/invoke/MethodHandle" ∧ yX1_has.cls ≠ "java/lang/invoke/VarHandle" ∧ (parseMethodDescriptor yX1_has.desc).map (fun d => d.parameters.length) = some 1 := by decide +kernel
theorem hdV_X1_has : yX1_has.cls = RX1 ∧ yX1_has.cls ≠ "java/lang/invoke/MethodHandle" ∧ yX1_has.cls ≠ "java/lang/invoke/VarHandle" ∧ (parseMethodDescriptor yX1_has.desc).map (fun d => d.parameters.length) = some 1 := ⟨rfl, hdS_X1_has⟩
set_option maxHeartbeats 4000000 in
set_option maxRecDepth 100000 in
theorem c_X1_has (l : Launch) (E : G0) (a0 : Nat → Nat) (v0 : CK) (p1 : Int32) (x : Bool) (hf : f_X1_has v0 p1 = x) : Met l yX1_has wsX1_has rmX1_has (va_Pc [.ref (a0 0), .int p1] (PR E (wCK E a0 v0))) (vp_Si (fun r => r = bI x)) 0 0 (fun _ => False) := by
  refine Met.ofW (cc := cX1_has) (maxL := 2) (ret := some .boolean) (by decide) rfl ?_
  intro p e s m args below meth c s₁ B hml hv
  obtain ⟨ha, hP, hC⟩ := hv
  have hx := B.exec
  have hb := B.bytes
  have hr := B.returns
  have hts := atoms_spec (ws := wsX1_has) B.pre
  have hown : s.vm.findClass RX1 = some m.cls := findClass_of_methodNamed B.named
  have hlocks := B.notSynchronized
  have hS : va_S (fun _ => False) s.heap s.heap [] := va_S.rf
  have w1 : (Cond.fieldLink RX1 9 "GreatChunks$Chunks" "made" "I").before args s = true := hts _ (List.mem_of_getElem? (i := 1) rfl)
  have w2 : ∀ w ∈ wsX10, w ∈ wsX1_has := in_pl 2 rfl
  generalize hQe : MQ below (vp_Si (fun r => r = bI x)) args s 0 0 (fun _ => False) = Q
  refine st_W ha (Nat.le_of_ble_eq_true rfl) (fun ls hl => ?_)
  have hl : lv_has ls 2 [(0, .ref (a0 0)), (1, .int p1)] := hl
  unfold f_X1_has at hf
  refine lv_iload_n hx hb dX1_has_0 rfl (lv_at hl 1 rfl) ?_
  refine lv_if_lt (tgt := 16) hx hb dX1_has_1 rfl (fun c1 => ?_) (fun c1 => ?_)
  · have hf := it_t hf c1
    refine lv_iconst (v := 0) hx hb dX1_has_16 rfl ?_
    subst hf
    subst hQe
    exact en_z hx hb hr hlocks rfl dX1_has_17
  · have hf := it_f hf c1
    refine lv_iload_n hx hb dX1_has_4 rfl (lv_at hl 1 rfl) ?_
    refine lv_aload_n hx hb dX1_has_5 rfl (lv_at hl 0 rfl) ?_
    refine va_get (D := E.1) (ci := 1) (v := .int v0.1) (C := RX1) (T := TX1) (N := 5) hx hb hts w2 hown hC.1 hP 0 rfl rfl 0 (by decide) w1 (fun _ h9 => h9) rfl dX1_has_6 ?_
    refine lv_icmp_ge (tgt := 16) hx hb dX1_has_9 rfl (fun c2 => ?_) (fun c2 => ?_)
    · have hf := it_t hf c2
      refine lv_iconst (v := 0) hx hb dX1_has_16 rfl ?_
      subst hf
      subst hQe
      exact en_z hx hb hr hlocks rfl dX1_has_17
    · have hf := it_f hf c2
      refine lv_iconst (v := 1) hx hb dX1_has_12 rfl ?_
      refine lv_goto (tgt := 17) hx hb dX1_has_13 rfl ?_
      subst hf
      subst hQe
      exact en_z hx hb hr hlocks rfl dX1_has_17

/-! X1_isFullUp -/
abbrev rmX1_isFullUp : Room := { frames := 0, cells := 0, slots := 0, locals := 0 }
theorem hdS_X1_isFullUp : yX1_isFullUp.cls ≠ "java/lang/invoke/MethodHandle" ∧ yX1_isFullUp.cls ≠ "java/lang/invoke/VarHandle" ∧ (parseMethodDescriptor yX1_isFullUp.desc).map (fun d => d.parameters.length) = some 0 := by decide +kernel
theorem hdV_X1_isFullUp : yX1_isFullUp.cls = RX1 ∧ yX1_isFullUp.cls ≠ "java/lang/invoke/MethodHandle" ∧ yX1_isFullUp.cls ≠ "java/lang/invoke/VarHandle" ∧ (parseMethodDescriptor yX1_isFullUp.desc).map (fun d => d.parameters.length) = some 0 := ⟨rfl, hdS_X1_isFullUp⟩
set_option maxHeartbeats 4000000 in
set_option maxRecDepth 100000 in
theorem c_X1_isFullUp (l : Launch) (E : G0) (a0 : Nat → Nat) (v0 : CK) (x : Bool) (hf : f_X1_isFullUp v0 = x) : Met l yX1_isFullUp wsX1_isFullUp rmX1_isFullUp (va_Pc [.ref (a0 0)] (PR E (wCK E a0 v0))) (vp_Si (fun r => r = bI x)) 0 0 (fun _ => False) := by
  refine Met.ofW (cc := cX1_isFullUp) (maxL := 1) (ret := some .boolean) (by decide) rfl ?_
  intro p e s m args below meth c s₁ B hml hv
  obtain ⟨ha, hP, hC⟩ := hv
  have hx := B.exec
  have hb := B.bytes
  have hr := B.returns
  have hts := atoms_spec (ws := wsX1_isFullUp) B.pre
  have hown : s.vm.findClass RX1 = some m.cls := findClass_of_methodNamed B.named
  have hlocks := B.notSynchronized
  have hS : va_S (fun _ => False) s.heap s.heap [] := va_S.rf
  have w1 : (Cond.fieldLink RX1 9 "GreatChunks$Chunks" "made" "I").before args s = true := hts _ (List.mem_of_getElem? (i := 1) rfl)
  have w2 : ∀ w ∈ wsX10, w ∈ wsX1_isFullUp := in_pl 2 rfl
  generalize hQe : MQ below (vp_Si (fun r => r = bI x)) args s 0 0 (fun _ => False) = Q
  refine st_W ha (Nat.le_of_ble_eq_true rfl) (fun ls hl => ?_)
  have hl : lv_has ls 1 [(0, .ref (a0 0))] := hl
  unfold f_X1_isFullUp at hf
  refine lv_aload_n hx hb dX1_isFullUp_0 rfl (lv_at hl 0 rfl) ?_
  refine va_get (D := E.1) (ci := 1) (v := .int v0.1) (C := RX1) (T := TX1) (N := 5) hx hb hts w2 hown hC.1 hP 0 rfl rfl 0 (by decide) w1 (fun _ h9 => h9) rfl dX1_isFullUp_1 ?_
  refine lv_bipush (v := 30) hx hb dX1_isFullUp_4 rfl ?_
  refine lv_icmp_lt (tgt := 13) hx hb dX1_isFullUp_6 rfl (fun c1 => ?_) (fun c1 => ?_)
  · have hf := it_t hf c1
    refine lv_iconst (v := 0) hx hb dX1_isFullUp_13 rfl ?_
    subst hf
    subst hQe
    exact en_z hx hb hr hlocks rfl dX1_isFullUp_14
  · have hf := it_f hf c1
    refine lv_iconst (v := 1) hx hb dX1_isFullUp_9 rfl ?_
    refine lv_goto (tgt := 14) hx hb dX1_isFullUp_10 rfl ?_
    subst hf
    subst hQe
    exact en_z hx hb hr hlocks rfl dX1_isFullUp_14

/-! X1_endLease -/
abbrev rmX1_endLease : Room := { frames := 1, cells := 0, slots := 0, locals := 21 }
theorem hdS_X1_endLease : yX1_endLease.cls ≠ "java/lang/invoke/MethodHandle" ∧ yX1_endLease.cls ≠ "java/lang/invoke/VarHandle" ∧ (parseMethodDescriptor yX1_endLease.desc).map (fun d => d.parameters.length) = some 1 := by decide +kernel
theorem hdV_X1_endLease : yX1_endLease.cls = RX1 ∧ yX1_endLease.cls ≠ "java/lang/invoke/MethodHandle" ∧ yX1_endLease.cls ≠ "java/lang/invoke/VarHandle" ∧ (parseMethodDescriptor yX1_endLease.desc).map (fun d => d.parameters.length) = some 1 := ⟨rfl, hdS_X1_endLease⟩
set_option maxHeartbeats 4000000 in
set_option maxRecDepth 100000 in
theorem c_X1_endLease (l : Launch) (E : G0) (sz : Nat) (a0 : Nat → Nat) (v0 : CK) (p1 : Int32) (x : CK) (hf : f_X1_endLease v0 p1 = some x) : Met l yX1_endLease wsX1_endLease rmX1_endLease (va_Pc [.ref (a0 0), .int p1] (PW E (wCK E a0 v0) sz)) (va_Qv (fun q => q = x) (fun q t => va_P E.1 vwCl ((fun q : CK => wCK E a0 q) q) t.heap ∧ va_D (va_A (wCK E a0 v0) sz) ((fun q : CK => wCK E a0 q) q)) (va_A (wCK E a0 v0) sz)) 0 0 (va_A (wCK E a0 v0) sz) := by
  refine Met.ofW (cc := cX1_endLease) (maxL := 2) (ret := none) (by decide) rfl ?_
  intro p e s m args below meth c s₁ B hml hv
  obtain ⟨ha, hsz, hP, hD0, hC⟩ := hv
  have hx := B.exec
  have hb := B.bytes
  have hr := B.returns
  have hts := atoms_spec (ws := wsX1_endLease) B.pre
  have hown : s.vm.findClass RX1 = some m.cls := findClass_of_methodNamed B.named
  have hlocks := B.notSynchronized
  subst hsz
  have hD := hD0.self (sz := s.heap.size)
  generalize hAe : va_A (wCK E a0 v0) s.heap.size = A at hD hC ⊢
  have hA : ∀ q : Nat, s.heap.size ≤ q → A q := fun q h => by rw [← hAe]; exact Or.inr h
  have hS : va_S A s.heap s.heap [] := va_S.rf
  have w1 : (Cond.fieldLink RX1 22 "GreatChunks$Chunks" "holder" "[I").before args s = true := hts _ (List.mem_of_getElem? (i := 1) rfl)
  have w2 : ∀ w ∈ wsX10, w ∈ wsX1_endLease := in_pl 9 rfl
  have w3 : (Cond.fieldLink RX1 25 "GreatChunks$Chunks" "till" "[I").before args s = true := hts _ (List.mem_of_getElem? (i := 2) rfl)
  generalize hQe : MQ below (va_Qv (fun q => q = x) (fun q t => va_P E.1 vwCl ((fun q : CK => wCK E a0 q) q) t.heap ∧ va_D A ((fun q : CK => wCK E a0 q) q)) A) args s 0 0 A = Q
  refine st_W ha (Nat.le_of_ble_eq_true rfl) (fun ls hl => ?_)
  have hl : lv_has ls 2 [(0, .ref (a0 0)), (1, .int p1)] := hl
  unfold f_X1_endLease at hf
  refine lv_aload_n hx hb dX1_endLease_0 rfl (lv_at hl 0 rfl) ?_
  refine lv_iload_n hx hb dX1_endLease_1 rfl (lv_at hl 1 rfl) ?_
  refine cr_i (va_runV (As := [.int p1]) (rest := []) ⟨hx, hb, hml, hown, hts⟩ (c_X1_has l E a0 v0 p1 _ rfl) (cwV 1 hts gX1_endLease_X1_has rfl rfl rfl hdV_X1_has ⟨Nat.le_of_ble_eq_true rfl, Nat.le_of_ble_eq_true rfl⟩) ⟨PR.blind, va_recv hC.1 hP (ci := 1) (q0 := 0) rfl rfl, PR.pre hC hS hP⟩ rfl rfl hl.1 rfl (lv_room (Nat.le_of_ble_eq_true rfl)) dX1_endLease_2 ⟨Nat.le_of_ble_eq_true rfl, Nat.le_of_ble_eq_true rfl⟩) ?_
  refine lv_if_eq (tgt := 22) hx hb dX1_endLease_5 rfl (fun c1 => ?_) (fun c1 => ?_)
  · have hf := it_t hf c1
    cases Option.some.inj hf
    subst hQe
    exact ew_v (wf := (fun q : CK => wCK E a0 q)) hx hb hr hlocks hP hD hS dX1_endLease_22
  · have hf := it_f hf c1
    refine lv_aload_n hx hb dX1_endLease_8 rfl (lv_at hl 0 rfl) ?_
    refine va_get (D := E.1) (ci := 1) (v := .ref (a0 3)) (C := RX1) (T := TX1) (N := 5) hx hb hts w2 hown hC.1 hP 0 rfl rfl 3 (by decide) w1 (fun _ h9 => h9) rfl dX1_endLease_9 ?_
    refine lv_iload_n hx hb dX1_endLease_12 rfl (lv_at hl 1 rfl) ?_
    refine lv_iconst (v := (-1)) hx hb dX1_endLease_13 rfl ?_
    obtain ⟨h2, hf⟩ := gdI_some hf
    refine va_iast hx hb hC.1 hP hD hS 3 0 rfl rfl h2 dX1_endLease_14 (fun H locs hP hD hS => ?_)
    have hP : va_P E.1 vwCl (wCK E a0 (v0.1, v0.2.1, v0.2.2.1, (upd v0.2.2.2.1 p1.toNatClampNeg (-1 : Int32)), v0.2.2.2.2)) H := hP
    have hD : va_D A (wCK E a0 (v0.1, v0.2.1, v0.2.2.1, (upd v0.2.2.2.1 p1.toNatClampNeg (-1 : Int32)), v0.2.2.2.2)) := hD
    refine lv_aload_n hx hb dX1_endLease_15 rfl (lv_at hl 0 rfl) ?_
    refine va_get (D := E.1) (ci := 1) (v := .ref (a0 4)) (C := RX1) (T := TX1) (N := 5) hx hb hts w2 hown hC.1 hP 0 rfl rfl 4 (by decide) w3 (fun _ h9 => h9) rfl dX1_endLease_16 ?_
    refine lv_iload_n hx hb dX1_endLease_19 rfl (lv_at hl 1 rfl) ?_
    refine lv_iconst (v := 0) hx hb dX1_endLease_20 rfl ?_
    obtain ⟨h3, hf⟩ := gdI_some hf
    refine va_iast hx hb hC.1 hP hD hS 4 0 rfl rfl h3 dX1_endLease_21 (fun H locs hP hD hS => ?_)
    have hP : va_P E.1 vwCl (wCK E a0 (v0.1, v0.2.1, v0.2.2.1, (upd v0.2.2.2.1 p1.toNatClampNeg (-1 : Int32)), (upd v0.2.2.2.2 p1.toNatClampNeg (0 : Int32)))) H := hP
    have hD : va_D A (wCK E a0 (v0.1, v0.2.1, v0.2.2.1, (upd v0.2.2.2.1 p1.toNatClampNeg (-1 : Int32)), (upd v0.2.2.2.2 p1.toNatClampNeg (0 : Int32)))) := hD
    cases Option.some.inj hf
    subst hQe
    exact ew_v (wf := (fun q : CK => wCK E a0 q)) hx hb hr hlocks hP hD hS dX1_endLease_22

/-! X1_make -/
abbrev rmX1_make : Room := { frames := 2, cells := 0, slots := 0, locals := 42 }
theorem hdS_X1_make : yX1_make.cls ≠ "java/lang/invoke/MethodHandle" ∧ yX1_make.cls ≠ "java/lang/invoke/VarHandle" ∧ (parseMethodDescriptor yX1_make.desc).map (fun d => d.parameters.length) = some 0 := by decide +kernel
theorem hdV_X1_make : yX1_make.cls = RX1 ∧ yX1_make.cls ≠ "java/lang/invoke/MethodHandle" ∧ yX1_make.cls ≠ "java/lang/invoke/VarHandle" ∧ (parseMethodDescriptor yX1_make.desc).map (fun d => d.parameters.length) = some 0 := ⟨rfl, hdS_X1_make⟩
set_option maxHeartbeats 4000000 in
set_option maxRecDepth 100000 in
theorem c_X1_make (l : Launch) (E : G0) (sz : Nat) (a0 : Nat → Nat) (v0 : CK) (x : Int32 × CK) (hf : f_X1_make v0 = some x) : Met l yX1_make wsX1_make rmX1_make (va_Pc [.ref (a0 0)] (PW E (wCK E a0 v0) sz)) (va_Qi (fun r q => r = x.1 ∧ q = x.2) (fun q t => va_P E.1 vwCl ((fun q : CK => wCK E a0 q) q) t.heap ∧ va_D (va_A (wCK E a0 v0) sz) ((fun q : CK => wCK E a0 q) q)) (va_A (wCK E a0 v0) sz)) 0 0 (va_A (wCK E a0 v0) sz) := by
  refine Met.ofW (cc := cX1_make) (maxL := 2) (ret := some .int) (by decide) rfl ?_
  intro p e s m args below meth c s₁ B hml hv
  obtain ⟨ha, hsz, hP, hD0, hC⟩ := hv
  have hx := B.exec
  have hb := B.bytes
  have hr := B.returns
  have hts := atoms_spec (ws := wsX1_make) B.pre
  have hown : s.vm.findClass RX1 = some m.cls := findClass_of_methodNamed B.named
  have hlocks := B.notSynchronized
  subst hsz
  have hD := hD0.self (sz := s.heap.size)
  generalize hAe : va_A (wCK E a0 v0) s.heap.size = A at hD hC ⊢
  have hA : ∀ q : Nat, s.heap.size ≤ q → A q := fun q h => by rw [← hAe]; exact Or.inr h
  have hS : va_S A s.heap s.heap [] := va_S.rf
  have w1 : (Cond.fieldLink RX1 9 "GreatChunks$Chunks" "made" "I").before args s = true := hts _ (List.mem_of_getElem? (i := 1) rfl)
  have w2 : ∀ w ∈ wsX10, w ∈ wsX1_make := in_pl 19 rfl
  have w3 : (Cond.fieldLink RX1 15 "GreatChunks$Chunks" "version" "[I").before args s = true := hts _ (List.mem_of_getElem? (i := 2) rfl)
  have w4 : (Cond.fieldLink RX1 19 "GreatChunks$Chunks" "shares" "[I").before args s = true := hts _ (List.mem_of_getElem? (i := 3) rfl)
  generalize hQe : MQ below (va_Qi (fun r q => r = x.1 ∧ q = x.2) (fun q t => va_P E.1 vwCl ((fun q : CK => wCK E a0 q) q) t.heap ∧ va_D A ((fun q : CK => wCK E a0 q) q)) A) args s 0 0 A = Q
  refine st_W ha (Nat.le_of_ble_eq_true rfl) (fun ls hl => ?_)
  have hl : lv_has ls 2 [(0, .ref (a0 0))] := hl
  unfold f_X1_make at hf
  refine lv_aload_n hx hb dX1_make_0 rfl (lv_at hl 0 rfl) ?_
  refine cr_i (va_runV (As := []) (rest := []) ⟨hx, hb, hml, hown, hts⟩ (c_X1_isFullUp l E a0 v0 _ rfl) (cwV 0 hts gX1_make_X1_isFullUp rfl rfl rfl hdV_X1_isFullUp ⟨Nat.le_of_ble_eq_true rfl, Nat.le_of_ble_eq_true rfl⟩) ⟨PR.blind, va_recv hC.1 hP (ci := 1) (q0 := 0) rfl rfl, PR.pre hC hS hP⟩ rfl rfl hl.1 rfl (lv_room (Nat.le_of_ble_eq_true rfl)) dX1_make_1 ⟨Nat.le_of_ble_eq_true rfl, Nat.le_of_ble_eq_true rfl⟩) ?_
  refine lv_if_eq (tgt := 9) hx hb dX1_make_4 rfl (fun c1 => ?_) (fun c1 => ?_)
  · have hf := it_t hf c1
    refine lv_aload_n hx hb dX1_make_9 rfl (lv_at hl 0 rfl) ?_
    refine va_get (D := E.1) (ci := 1) (v := .int v0.1) (C := RX1) (T := TX1) (N := 5) hx hb hts w2 hown hC.1 hP 0 rfl rfl 0 (by decide) w1 (fun _ h9 => h9) rfl dX1_make_10 ?_
    refine lv_istore_n (lv' := [(1, .int v0.1), (0, .ref (a0 0))]) hx hb dX1_make_13 rfl hl (by decide) rfl (fun ls hl => ?_)
    refine lv_aload_n hx hb dX1_make_14 rfl (lv_at hl 1 rfl) ?_
    refine lv_dup hx hb dX1_make_15 rfl ?_
    refine va_get (D := E.1) (ci := 1) (v := .int v0.1) (C := RX1) (T := TX1) (N := 5) hx hb hts w2 hown hC.1 hP 0 rfl rfl 0 (by decide) w1 (fun _ h9 => h9) rfl dX1_make_16 ?_
    refine lv_iconst (v := 1) hx hb dX1_make_19 rfl ?_
    refine lv_iadd hx hb dX1_make_20 ?_
    refine va_put (D := E.1) (ci := 1) (v := .int (v0.1 + (1 : Int32))) (ty := .int) (C := RX1) (T := TX1) (N := 5) hx hb hts w2 tyX1 tyX1_ok nmX1 hown hC.1 hP hD hS 0 rfl rfl 0 (by decide) w1 (fun _ h9 => h9) rfl (by decide +kernel) rfl rfl (Nat.le_of_ble_eq_true rfl) dX1_make_21 (fun H locs hP hD hS => ?_)
    have hP : va_P E.1 vwCl (wCK E a0 ((v0.1 + (1 : Int32)), v0.2.1, v0.2.2.1, v0.2.2.2.1, v0.2.2.2.2)) H := hP
    have hD : va_D A (wCK E a0 ((v0.1 + (1 : Int32)), v0.2.1, v0.2.2.1, v0.2.2.2.1, v0.2.2.2.2)) := hD
    refine lv_aload_n hx hb dX1_make_24 rfl (lv_at hl 1 rfl) ?_
    refine va_get (D := E.1) (ci := 1) (v := .ref (a0 1)) (C := RX1) (T := TX1) (N := 5) hx hb hts w2 hown hC.1 hP 0 rfl rfl 1 (by decide) w3 (fun _ h9 => h9) rfl dX1_make_25 ?_
    refine lv_iload_n hx hb dX1_make_28 rfl (lv_at hl 0 rfl) ?_
    refine lv_iconst (v := 1) hx hb dX1_make_29 rfl ?_
    obtain ⟨h2, hf⟩ := gdI_some hf
    refine va_iast hx hb hC.1 hP hD hS 1 0 rfl rfl h2 dX1_make_30 (fun H locs hP hD hS => ?_)
    have hP : va_P E.1 vwCl (wCK E a0 ((v0.1 + (1 : Int32)), (upd v0.2.1 v0.1.toNatClampNeg (1 : Int32)), v0.2.2.1, v0.2.2.2.1, v0.2.2.2.2)) H := hP
    have hD : va_D A (wCK E a0 ((v0.1 + (1 : Int32)), (upd v0.2.1 v0.1.toNatClampNeg (1 : Int32)), v0.2.2.1, v0.2.2.2.1, v0.2.2.2.2)) := hD
    refine lv_aload_n hx hb dX1_make_31 rfl (lv_at hl 1 rfl) ?_
    refine va_get (D := E.1) (ci := 1) (v := .ref (a0 2)) (C := RX1) (T := TX1) (N := 5) hx hb hts w2 hown hC.1 hP 0 rfl rfl 2 (by decide) w4 (fun _ h9 => h9) rfl dX1_make_32 ?_
    refine lv_iload_n hx hb dX1_make_35 rfl (lv_at hl 0 rfl) ?_
    refine lv_iconst (v := 1) hx hb dX1_make_36 rfl ?_
    obtain ⟨h3, hf⟩ := gdI_some hf
    refine va_iast hx hb hC.1 hP hD hS 2 0 rfl rfl h3 dX1_make_37 (fun H locs hP hD hS => ?_)
    have hP : va_P E.1 vwCl (wCK E a0 ((v0.1 + (1 : Int32)), (upd v0.2.1 v0.1.toNatClampNeg (1 : Int32)), (upd v0.2.2.1 v0.1.toNatClampNeg (1 : Int32)), v0.2.2.2.1, v0.2.2.2.2)) H := hP
    have hD : va_D A (wCK E a0 ((v0.1 + (1 : Int32)), (upd v0.2.1 v0.1.toNatClampNeg (1 : Int32)), (upd v0.2.2.1 v0.1.toNatClampNeg (1 : Int32)), v0.2.2.2.1, v0.2.2.2.2)) := hD
    refine lv_aload_n hx hb dX1_make_38 rfl (lv_at hl 1 rfl) ?_
    refine lv_iload_n hx hb dX1_make_39 rfl (lv_at hl 0 rfl) ?_
    obtain ⟨r4, e4, hf⟩ := bd_some hf
    refine cq_v hP hD hS [0, 1, 2, 3, 4] [] [0, 1, 2, 3, 4] (va_free (wc := (wCK E a0 ((v0.1 + (1 : Int32)), (upd v0.2.1 v0.1.toNatClampNeg (1 : Int32)), (upd v0.2.2.1 v0.1.toNatClampNeg (1 : Int32)), v0.2.2.2.1, v0.2.2.2.2))) hD hS hA [0, 1, 2, 3, 4] rfl) (va_runV (As := [.int v0.1]) (rest := []) ⟨hx, hb, hml, hown, hts⟩ (c_X1_endLease l E H.size a0 ((v0.1 + (1 : Int32)), (upd v0.2.1 v0.1.toNatClampNeg (1 : Int32)), (upd v0.2.2.1 v0.1.toNatClampNeg (1 : Int32)), v0.2.2.2.1, v0.2.2.2.2) v0.1 r4 e4) (cwV 1 hts gX1_make_X1_endLease rfl rfl rfl hdV_X1_endLease ⟨Nat.le_of_ble_eq_true rfl, Nat.le_of_ble_eq_true rfl⟩) ⟨PW.blind, va_recv hC.1 hP (ci := 1) (q0 := 0) rfl rfl, PW.pre hC hS hP hD (va_free hD hS hA [0, 1, 2, 3, 4] rfl)⟩ rfl rfl hl.1 rfl (lv_room (Nat.le_of_ble_eq_true rfl)) dX1_make_40 ⟨Nat.le_of_ble_eq_true rfl, Nat.le_of_ble_eq_true rfl⟩) rfl rfl rfl rfl (wCK E a0 r4) rfl rfl (fun H locs hP hD hS => ?_)
    refine lv_iload_n hx hb dX1_make_43 rfl (lv_at hl 0 rfl) ?_
    cases Option.some.inj hf
    subst hQe
    exact ew_i (wf := (fun q : CK => wCK E a0 q)) hx hb hr hlocks hP hD hS dX1_make_44
  · have hf := it_f hf c1
    refine lv_iconst (v := (-1)) hx hb dX1_make_7 rfl ?_
    cases Option.some.inj hf
    subst hQe
    exact ew_i (wf := (fun q : CK => wCK E a0 q)) hx hb hr hlocks hP hD hS dX1_make_8

/-! X1_share -/
abbrev rmX1_share : Room := { frames := 1, cells := 0, slots := 0, locals := 21 }
theorem hdS_X1_share : yX1_share.cls ≠ "java/lang/invoke/MethodHandle" ∧ yX1_share.cls ≠ "java/lang/invoke/VarHandle" ∧ (parseMethodDescriptor yX1_share.desc).map (fun d => d.parameters.length) = some 2 := by decide +kernel
theorem hdV_X1_share : yX1_share.cls = RX1 ∧ yX1_share.cls ≠ "java/lang/invoke/MethodHandle" ∧ yX1_share.cls ≠ "java/lang/invoke/VarHandle" ∧ (parseMethodDescriptor yX1_share.desc).map (fun d => d.parameters.length) = some 2 := ⟨rfl, hdS_X1_share⟩
set_option maxHeartbeats 4000000 in
set_option maxRecDepth 100000 in
theorem c_X1_share (l : Launch) (E : G0) (sz : Nat) (a0 : Nat → Nat) (v0 : CK) (p1 : Int32) (p2 : Int32) (x : CK) (hf : f_X1_share v0 p1 p2 = some x) : Met l yX1_share wsX1_share rmX1_share (va_Pc [.ref (a0 0), .int p1, .int p2] (PW E (wCK E a0 v0) sz)) (va_Qv (fun q => q = x) (fun q t => va_P E.1 vwCl ((fun q : CK => wCK E a0 q) q) t.heap ∧ va_D (va_A (wCK E a0 v0) sz) ((fun q : CK => wCK E a0 q) q)) (va_A (wCK E a0 v0) sz)) 0 0 (va_A (wCK E a0 v0) sz) := by
  refine Met.ofW (cc := cX1_share) (maxL := 3) (ret := none) (by decide) rfl ?_
  intro p e s m args below meth c s₁ B hml hv
  obtain ⟨ha, hsz, hP, hD0, hC⟩ := hv
  have hx := B.exec
  have hb := B.bytes
  have hr := B.returns
  have hts := atoms_spec (ws := wsX1_share) B.pre
  have hown : s.vm.findClass RX1 = some m.cls := findClass_of_methodNamed B.named
  have hlocks := B.notSynchronized
  subst hsz
  have hD := hD0.self (sz := s.heap.size)
  generalize hAe : va_A (wCK E a0 v0) s.heap.size = A at hD hC ⊢
  have hA : ∀ q : Nat, s.heap.size ≤ q → A q := fun q h => by rw [← hAe]; exact Or.inr h
  have hS : va_S A s.heap s.heap [] := va_S.rf
  have w1 : (Cond.fieldLink RX1 19 "GreatChunks$Chunks" "shares" "[I").before args s = true := hts _ (List.mem_of_getElem? (i := 1) rfl)
  have w2 : ∀ w ∈ wsX10, w ∈ wsX1_share := in_pl 8 rfl
  generalize hQe : MQ below (va_Qv (fun q => q = x) (fun q t => va_P E.1 vwCl ((fun q : CK => wCK E a0 q) q) t.heap ∧ va_D A ((fun q : CK => wCK E a0 q) q)) A) args s 0 0 A = Q
  refine st_W ha (Nat.le_of_ble_eq_true rfl) (fun ls hl => ?_)
  have hl : lv_has ls 3 [(0, .ref (a0 0)), (1, .int p1), (2, .int p2)] := hl
  unfold f_X1_share at hf
  refine lv_aload_n hx hb dX1_share_0 rfl (lv_at hl 0 rfl) ?_
  refine lv_iload_n hx hb dX1_share_1 rfl (lv_at hl 1 rfl) ?_
  refine cr_i (va_runV (As := [.int p1]) (rest := []) ⟨hx, hb, hml, hown, hts⟩ (c_X1_has l E a0 v0 p1 _ rfl) (cwV 1 hts gX1_share_X1_has rfl rfl rfl hdV_X1_has ⟨Nat.le_of_ble_eq_true rfl, Nat.le_of_ble_eq_true rfl⟩) ⟨PR.blind, va_recv hC.1 hP (ci := 1) (q0 := 0) rfl rfl, PR.pre hC hS hP⟩ rfl rfl hl.1 rfl (lv_room (Nat.le_of_ble_eq_true rfl)) dX1_share_2 ⟨Nat.le_of_ble_eq_true rfl, Nat.le_of_ble_eq_true rfl⟩) ?_
  refine lv_if_eq (tgt := 18) hx hb dX1_share_5 rfl (fun c1 => ?_) (fun c1 => ?_)
  · have hf := it_t hf c1
    cases Option.some.inj hf
    subst hQe
    exact ew_v (wf := (fun q : CK => wCK E a0 q)) hx hb hr hlocks hP hD hS dX1_share_18
  · have hf := it_f hf c1
    refine lv_aload_n hx hb dX1_share_8 rfl (lv_at hl 0 rfl) ?_
    refine va_get (D := E.1) (ci := 1) (v := .ref (a0 2)) (C := RX1) (T := TX1) (N := 5) hx hb hts w2 hown hC.1 hP 0 rfl rfl 2 (by decide) w1 (fun _ h9 => h9) rfl dX1_share_9 ?_
    refine lv_iload_n hx hb dX1_share_12 rfl (lv_at hl 1 rfl) ?_
    refine lv_dup2_11 hx hb dX1_share_13 rfl rfl ?_
    obtain ⟨h2, hf⟩ := gdI_some hf
    refine va_iald hx hb hC.1 hP 2 0 rfl rfl h2 dX1_share_14 ?_
    refine lv_iload_n hx hb dX1_share_15 rfl (lv_at hl 2 rfl) ?_
    refine lv_iadd hx hb dX1_share_16 ?_
    obtain ⟨h3, hf⟩ := gdI_some hf
    refine va_iast hx hb hC.1 hP hD hS 2 0 rfl rfl h3 dX1_share_17 (fun H locs hP hD hS => ?_)
    have hP : va_P E.1 vwCl (wCK E a0 (v0.1, v0.2.1, (upd v0.2.2.1 p1.toNatClampNeg ((v0.2.2.1 p1.toNatClampNeg) + p2)), v0.2.2.2.1, v0.2.2.2.2)) H := hP
    have hD : va_D A (wCK E a0 (v0.1, v0.2.1, (upd v0.2.2.1 p1.toNatClampNeg ((v0.2.2.1 p1.toNatClampNeg) + p2)), v0.2.2.2.1, v0.2.2.2.2)) := hD
    cases Option.some.inj hf
    subst hQe
    exact ew_v (wf := (fun q : CK => wCK E a0 q)) hx hb hr hlocks hP hD hS dX1_share_18

/-! X1_isShared -/
abbrev rmX1_isShared : Room := { frames := 1, cells := 0, slots := 0, locals := 21 }
theorem hdS_X1_isShared : yX1_isShared.cls ≠ "java/lang/invoke/MethodHandle" ∧ yX1_isShared.cls ≠ "java/lang/invoke/VarHandle" ∧ (parseMethodDescriptor yX1_isShared.desc).map (fun d => d.parameters.length) = some 1 := by decide +kernel
theorem hdV_X1_isShared : yX1_isShared.cls = RX1 ∧ yX1_isShared.cls ≠ "java/lang/invoke/MethodHandle" ∧ yX1_isShared.cls ≠ "java/lang/invoke/VarHandle" ∧ (parseMethodDescriptor yX1_isShared.desc).map (fun d => d.parameters.length) = some 1 := ⟨rfl, hdS_X1_isShared⟩
set_option maxHeartbeats 4000000 in
set_option maxRecDepth 100000 in
theorem c_X1_isShared (l : Launch) (E : G0) (a0 : Nat → Nat) (v0 : CK) (p1 : Int32) (x : Bool) (hf : f_X1_isShared v0 p1 = some x) : Met l yX1_isShared wsX1_isShared rmX1_isShared (va_Pc [.ref (a0 0), .int p1] (PR E (wCK E a0 v0))) (vp_Si (fun r => r = bI x)) 0 0 (fun _ => False) := by
  refine Met.ofW (cc := cX1_isShared) (maxL := 2) (ret := some .boolean) (by decide) rfl ?_
  intro p e s m args below meth c s₁ B hml hv
  obtain ⟨ha, hP, hC⟩ := hv
  have hx := B.exec
  have hb := B.bytes
  have hr := B.returns
  have hts := atoms_spec (ws := wsX1_isShared) B.pre
  have hown : s.vm.findClass RX1 = some m.cls := findClass_of_methodNamed B.named
  have hlocks := B.notSynchronized
  have hS : va_S (fun _ => False) s.heap s.heap [] := va_S.rf
  have w1 : (Cond.fieldLink RX1 19 "GreatChunks$Chunks" "shares" "[I").before args s = true := hts _ (List.mem_of_getElem? (i := 1) rfl)
  have w2 : ∀ w ∈ wsX10, w ∈ wsX1_isShared := in_pl 8 rfl
  generalize hQe : MQ below (vp_Si (fun r => r = bI x)) args s 0 0 (fun _ => False) = Q
  refine st_W ha (Nat.le_of_ble_eq_true rfl) (fun ls hl => ?_)
  have hl : lv_has ls 2 [(0, .ref (a0 0)), (1, .int p1)] := hl
  unfold f_X1_isShared at hf
  refine lv_aload_n hx hb dX1_isShared_0 rfl (lv_at hl 0 rfl) ?_
  refine lv_iload_n hx hb dX1_isShared_1 rfl (lv_at hl 1 rfl) ?_
  refine cr_i (va_runV (As := [.int p1]) (rest := []) ⟨hx, hb, hml, hown, hts⟩ (c_X1_has l E a0 v0 p1 _ rfl) (cwV 1 hts gX1_isShared_X1_has rfl rfl rfl hdV_X1_has ⟨Nat.le_of_ble_eq_true rfl, Nat.le_of_ble_eq_true rfl⟩) ⟨PR.blind, va_recv hC.1 hP (ci := 1) (q0 := 0) rfl rfl, PR.pre hC hS hP⟩ rfl rfl hl.1 rfl (lv_room (Nat.le_of_ble_eq_true rfl)) dX1_isShared_2 ⟨Nat.le_of_ble_eq_true rfl, Nat.le_of_ble_eq_true rfl⟩) ?_
  refine lv_if_eq (tgt := 22) hx hb dX1_isShared_5 rfl (fun c1 => ?_) (fun c1 => ?_)
  · have hf := it_t hf c1
    refine lv_iconst (v := 0) hx hb dX1_isShared_22 rfl ?_
    cases Option.some.inj hf
    subst hQe
    exact en_z hx hb hr hlocks rfl dX1_isShared_23
  · have hf := it_f hf c1
    refine lv_aload_n hx hb dX1_isShared_8 rfl (lv_at hl 0 rfl) ?_
    refine va_get (D := E.1) (ci := 1) (v := .ref (a0 2)) (C := RX1) (T := TX1) (N := 5) hx hb hts w2 hown hC.1 hP 0 rfl rfl 2 (by decide) w1 (fun _ h9 => h9) rfl dX1_isShared_9 ?_
    refine lv_iload_n hx hb dX1_isShared_12 rfl (lv_at hl 1 rfl) ?_
    obtain ⟨h2, hf⟩ := gdI_some hf
    refine va_iald hx hb hC.1 hP 2 0 rfl rfl h2 dX1_isShared_13 ?_
    refine lv_iconst (v := 1) hx hb dX1_isShared_14 rfl ?_
    refine lv_icmp_le (tgt := 22) hx hb dX1_isShared_15 rfl (fun c3 => ?_) (fun c3 => ?_)
    · have hf := it_t hf c3
      refine lv_iconst (v := 0) hx hb dX1_isShared_22 rfl ?_
      cases Option.some.inj hf
      subst hQe
      exact en_z hx hb hr hlocks rfl dX1_isShared_23
    · have hf := it_f hf c3
      refine lv_iconst (v := 1) hx hb dX1_isShared_18 rfl ?_
      refine lv_goto (tgt := 23) hx hb dX1_isShared_19 rfl ?_
      cases Option.some.inj hf
      subst hQe
      exact en_z hx hb hr hlocks rfl dX1_isShared_23

/-! X1_isForgotten -/
abbrev rmX1_isForgotten : Room := { frames := 1, cells := 0, slots := 0, locals := 21 }
theorem hdS_X1_isForgotten : yX1_isForgotten.cls ≠ "java/lang/invoke/MethodHandle" ∧ yX1_isForgotten.cls ≠ "java/lang/invoke/VarHandle" ∧ (parseMethodDescriptor yX1_isForgotten.desc).map (fun d => d.parameters.length) = some 1 := by decide +kernel
theorem hdV_X1_isForgotten : yX1_isForgotten.cls = RX1 ∧ yX1_isForgotten.cls ≠ "java/lang/invoke/MethodHandle" ∧ yX1_isForgotten.cls ≠ "java/lang/invoke/VarHandle" ∧ (parseMethodDescriptor yX1_isForgotten.desc).map (fun d => d.parameters.length) = some 1 := ⟨rfl, hdS_X1_isForgotten⟩
set_option maxHeartbeats 4000000 in
set_option maxRecDepth 100000 in
theorem c_X1_isForgotten (l : Launch) (E : G0) (a0 : Nat → Nat) (v0 : CK) (p1 : Int32) (x : Bool) (hf : f_X1_isForgotten v0 p1 = some x) : Met l yX1_isForgotten wsX1_isForgotten rmX1_isForgotten (va_Pc [.ref (a0 0), .int p1] (PR E (wCK E a0 v0))) (vp_Si (fun r => r = bI x)) 0 0 (fun _ => False) := by
  refine Met.ofW (cc := cX1_isForgotten) (maxL := 2) (ret := some .boolean) (by decide) rfl ?_
  intro p e s m args below meth c s₁ B hml hv
  obtain ⟨ha, hP, hC⟩ := hv
  have hx := B.exec
  have hb := B.bytes
  have hr := B.returns
  have hts := atoms_spec (ws := wsX1_isForgotten) B.pre
  have hown : s.vm.findClass RX1 = some m.cls := findClass_of_methodNamed B.named
  have hlocks := B.notSynchronized
  have hS : va_S (fun _ => False) s.heap s.heap [] := va_S.rf
  have w1 : (Cond.fieldLink RX1 19 "GreatChunks$Chunks" "shares" "[I").before args s = true := hts _ (List.mem_of_getElem? (i := 1) rfl)
  have w2 : ∀ w ∈ wsX10, w ∈ wsX1_isForgotten := in_pl 8 rfl
  generalize hQe : MQ below (vp_Si (fun r => r = bI x)) args s 0 0 (fun _ => False) = Q
  refine st_W ha (Nat.le_of_ble_eq_true rfl) (fun ls hl => ?_)
  have hl : lv_has ls 2 [(0, .ref (a0 0)), (1, .int p1)] := hl
  unfold f_X1_isForgotten at hf
  refine lv_aload_n hx hb dX1_isForgotten_0 rfl (lv_at hl 0 rfl) ?_
  refine lv_iload_n hx hb dX1_isForgotten_1 rfl (lv_at hl 1 rfl) ?_
  refine cr_i (va_runV (As := [.int p1]) (rest := []) ⟨hx, hb, hml, hown, hts⟩ (c_X1_has l E a0 v0 p1 _ rfl) (cwV 1 hts gX1_isForgotten_X1_has rfl rfl rfl hdV_X1_has ⟨Nat.le_of_ble_eq_true rfl, Nat.le_of_ble_eq_true rfl⟩) ⟨PR.blind, va_recv hC.1 hP (ci := 1) (q0 := 0) rfl rfl, PR.pre hC hS hP⟩ rfl rfl hl.1 rfl (lv_room (Nat.le_of_ble_eq_true rfl)) dX1_isForgotten_2 ⟨Nat.le_of_ble_eq_true rfl, Nat.le_of_ble_eq_true rfl⟩) ?_
  refine lv_if_eq (tgt := 21) hx hb dX1_isForgotten_5 rfl (fun c1 => ?_) (fun c1 => ?_)
  · have hf := it_t hf c1
    refine lv_iconst (v := 0) hx hb dX1_isForgotten_21 rfl ?_
    cases Option.some.inj hf
    subst hQe
    exact en_z hx hb hr hlocks rfl dX1_isForgotten_22
  · have hf := it_f hf c1
    refine lv_aload_n hx hb dX1_isForgotten_8 rfl (lv_at hl 0 rfl) ?_
    refine va_get (D := E.1) (ci := 1) (v := .ref (a0 2)) (C := RX1) (T := TX1) (N := 5) hx hb hts w2 hown hC.1 hP 0 rfl rfl 2 (by decide) w1 (fun _ h9 => h9) rfl dX1_isForgotten_9 ?_
    refine lv_iload_n hx hb dX1_isForgotten_12 rfl (lv_at hl 1 rfl) ?_
    obtain ⟨h2, hf⟩ := gdI_some hf
    refine va_iald hx hb hC.1 hP 2 0 rfl rfl h2 dX1_isForgotten_13 ?_
    refine lv_if_ne (tgt := 21) hx hb dX1_isForgotten_14 rfl (fun c3 => ?_) (fun c3 => ?_)
    · have hf := it_f hf c3
      refine lv_iconst (v := 0) hx hb dX1_isForgotten_21 rfl ?_
      cases Option.some.inj hf
      subst hQe
      exact en_z hx hb hr hlocks rfl dX1_isForgotten_22
    · have hf := it_t hf c3
      refine lv_iconst (v := 1) hx hb dX1_isForgotten_17 rfl ?_
      refine lv_goto (tgt := 22) hx hb dX1_isForgotten_18 rfl ?_
      cases Option.some.inj hf
      subst hQe
      exact en_z hx hb hr hlocks rfl dX1_isForgotten_22

/-! X1_manyForgotten -/
abbrev rmX1_manyForgotten : Room := { frames := 0, cells := 0, slots := 0, locals := 0 }
theorem hdS_X1_manyForgotten : yX1_manyForgotten.cls ≠ "java/lang/invoke/MethodHandle" ∧ yX1_manyForgotten.cls ≠ "java/lang/invoke/VarHandle" ∧ (parseMethodDescriptor yX1_manyForgotten.desc).map (fun d => d.parameters.length) = some 0 := by decide +kernel
theorem hdV_X1_manyForgotten : yX1_manyForgotten.cls = RX1 ∧ yX1_manyForgotten.cls ≠ "java/lang/invoke/MethodHandle" ∧ yX1_manyForgotten.cls ≠ "java/lang/invoke/VarHandle" ∧ (parseMethodDescriptor yX1_manyForgotten.desc).map (fun d => d.parameters.length) = some 0 := ⟨rfl, hdS_X1_manyForgotten⟩
set_option maxHeartbeats 4000000 in
set_option maxRecDepth 100000 in
theorem c_X1_manyForgotten (l : Launch) (E : G0) (a0 : Nat → Nat) (v0 : CK) (x : Int32) (hf : f_X1_manyForgotten v0 = some x) : Met l yX1_manyForgotten wsX1_manyForgotten rmX1_manyForgotten (va_Pc [.ref (a0 0)] (PR E (wCK E a0 v0))) (vp_Si (fun r => r = x)) 0 0 (fun _ => False) := by
  refine Met.ofW (cc := cX1_manyForgotten) (maxL := 3) (ret := some .int) (by decide) rfl ?_
  intro p e s m args below meth c s₁ B hml hv
  obtain ⟨ha, hP, hC⟩ := hv
  have hx := B.exec
  have hb := B.bytes
  have hr := B.returns
  have hts := atoms_spec (ws := wsX1_manyForgotten) B.pre
  have hown : s.vm.findClass RX1 = some m.cls := findClass_of_methodNamed B.named
  have hlocks := B.notSynchronized
  have hS : va_S (fun _ => False) s.heap s.heap [] := va_S.rf
  have w1 : (Cond.fieldLink RX1 9 "GreatChunks$Chunks" "made" "I").before args s = true := hts _ (List.mem_of_getElem? (i := 1) rfl)
  have w2 : ∀ w ∈ wsX10, w ∈ wsX1_manyForgotten := in_pl 3 rfl
  have w3 : (Cond.fieldLink RX1 19 "GreatChunks$Chunks" "shares" "[I").before args s = true := hts _ (List.mem_of_getElem? (i := 2) rfl)
  generalize hQe : MQ below (vp_Si (fun r => r = x)) args s 0 0 (fun _ => False) = Q
  refine st_W ha (Nat.le_of_ble_eq_true rfl) (fun ls hl => ?_)
  have hl : lv_has ls 3 [(0, .ref (a0 0))] := hl
  unfold f_X1_manyForgotten at hf
  refine lv_iconst (v := 0) hx hb dX1_manyForgotten_0 rfl ?_
  refine lv_istore_n (lv' := [(1, .int (0 : Int32)), (0, .ref (a0 0))]) hx hb dX1_manyForgotten_1 rfl hl (by decide) rfl (fun ls hl => ?_)
  refine lv_iconst (v := 0) hx hb dX1_manyForgotten_2 rfl ?_
  refine lv_istore_n (lv' := [(2, .int (0 : Int32)), (1, .int (0 : Int32)), (0, .ref (a0 0))]) hx hb dX1_manyForgotten_3 rfl hl (by decide) rfl (fun ls hl => ?_)
  obtain ⟨K1, hK1, hf⟩ := jn_some hf
  have J1 : ∀ (q1 : Int32 × Int32) (ls : Array Slot) (hl : lv_has ls 3 [(1, .int q1.1)]) (hf : K1 q1 = some x), W p l e (headSpec wsX1_manyForgotten rmX1_manyForgotten).room s m args below meth c s.heap [] 0 0 Q (F0 m 35 ls []) := by
    intro q1 ls hl hf
    have hf := (hK1 q1).trans hf
    refine lv_iload_n hx hb dX1_manyForgotten_35 rfl (lv_at hl 0 rfl) ?_
    cases Option.some.inj hf
    subst hQe
    exact en_i hx hb hr hlocks dX1_manyForgotten_36
  have L1 : ∀ (n : Nat) (q1 : Int32 × Int32) (ls : Array Slot) (hl : lv_has ls 3 [(0, .ref (a0 0)), (1, .int q1.1), (2, .int q1.2)]) (hf : lpF (bX1_manyForgotten_1 v0 K1) n q1 = some x), W p l e (headSpec wsX1_manyForgotten rmX1_manyForgotten).room s m args below meth c s.heap [] 0 0 Q (F0 m 4 ls []) := by
    intro n
    induction n with
    | zero => intro q1 ls hl hf; exact (lpF_zero hf).elim
    | succ n ih1 =>
      intro q1 ls hl hf
      have hf := lpF_succ hf
      unfold bX1_manyForgotten_1 at hf
      refine lv_iload_n hx hb dX1_manyForgotten_4 rfl (lv_at hl 2 rfl) ?_
      refine lv_aload_n hx hb dX1_manyForgotten_5 rfl (lv_at hl 0 rfl) ?_
      refine va_get (D := E.1) (ci := 1) (v := .int v0.1) (C := RX1) (T := TX1) (N := 5) hx hb hts w2 hown hC.1 hP 0 rfl rfl 0 (by decide) w1 (fun _ h9 => h9) rfl dX1_manyForgotten_6 ?_
      refine lv_icmp_ge (tgt := 35) hx hb dX1_manyForgotten_9 rfl (fun c2 => ?_) (fun c2 => ?_)
      · have hf := it_t hf c2
        exact J1 (q1.1, q1.2) ls (lv_sub hl [1] rfl) hf
      · have hf := it_f hf c2
        refine lv_iload_n hx hb dX1_manyForgotten_12 rfl (lv_at hl 1 rfl) ?_
        refine lv_aload_n hx hb dX1_manyForgotten_13 rfl (lv_at hl 0 rfl) ?_
        refine va_get (D := E.1) (ci := 1) (v := .ref (a0 2)) (C := RX1) (T := TX1) (N := 5) hx hb hts w2 hown hC.1 hP 0 rfl rfl 2 (by decide) w3 (fun _ h9 => h9) rfl dX1_manyForgotten_14 ?_
        refine lv_iload_n hx hb dX1_manyForgotten_17 rfl (lv_at hl 2 rfl) ?_
        obtain ⟨h3, hf⟩ := gdI_some hf
        refine va_iald hx hb hC.1 hP 2 0 rfl rfl h3 dX1_manyForgotten_18 ?_
        refine lv_if_ne (tgt := 26) hx hb dX1_manyForgotten_19 rfl (fun c4 => ?_) (fun c4 => ?_)
        · have hf := it_f hf c4
          refine lv_iconst (v := 0) hx hb dX1_manyForgotten_26 rfl ?_
          refine lv_iadd hx hb dX1_manyForgotten_27 ?_
          refine lv_istore_n (lv' := [(1, .int (q1.1 + (0 : Int32))), (0, .ref (a0 0)), (2, .int q1.2)]) hx hb dX1_manyForgotten_28 rfl hl (by decide) rfl (fun ls hl => ?_)
          refine lv_iinc (v := (q1.2 + 1)) (lv' := [(2, .int (q1.2 + 1)), (1, .int (q1.1 + (0 : Int32))), (0, .ref (a0 0))]) hx hb dX1_manyForgotten_29 hl (k := 2) rfl rfl (by decide) rfl (fun ls hl => ?_)
          refine lv_goto (tgt := 4) hx hb dX1_manyForgotten_32 rfl ?_
          exact ih1 ((q1.1 + (0 : Int32)), (q1.2 + 1)) ls (lv_sub hl [2, 1, 0] rfl) hf
        · have hf := it_t hf c4
          refine lv_iconst (v := 1) hx hb dX1_manyForgotten_22 rfl ?_
          refine lv_goto (tgt := 27) hx hb dX1_manyForgotten_23 rfl ?_
          refine lv_iadd hx hb dX1_manyForgotten_27 ?_
          refine lv_istore_n (lv' := [(1, .int (q1.1 + (1 : Int32))), (0, .ref (a0 0)), (2, .int q1.2)]) hx hb dX1_manyForgotten_28 rfl hl (by decide) rfl (fun ls hl => ?_)
          refine lv_iinc (v := (q1.2 + 1)) (lv' := [(2, .int (q1.2 + 1)), (1, .int (q1.1 + (1 : Int32))), (0, .ref (a0 0))]) hx hb dX1_manyForgotten_29 hl (k := 2) rfl rfl (by decide) rfl (fun ls hl => ?_)
          refine lv_goto (tgt := 4) hx hb dX1_manyForgotten_32 rfl ?_
          exact ih1 ((q1.1 + (1 : Int32)), (q1.2 + 1)) ls (lv_sub hl [2, 1, 0] rfl) hf
  exact L1 FU ((0 : Int32), (0 : Int32)) ls (lv_sub hl [2, 1, 0] rfl) hf
