/-! X7_refuse -/
abbrev rmX7_refuse : Room := { frames := 0, cells := 0, slots := 0, locals := 0 }
theorem hdS_X7_refuse : yX7_refuse.cls ≠ "java/lang/invoke/MethodHandle" ∧ yX7_refuse.cls ≠ "java/lang/invoke/VarHandle" ∧ (parseMethodDescriptor yX7_refuse.desc).map (fun d => d.parameters.length) = some 1 := by decide +kernel
theorem hdV_X7_refuse : yX7_refuse.cls = RX7 ∧ yX7_refuse.cls ≠ "java/lang/invoke/MethodHandle" ∧ yX7_refuse.cls ≠ "java/lang/invoke/VarHandle" ∧ (parseMethodDescriptor yX7_refuse.desc).map (fun d => d.parameters.length) = some 1 := ⟨rfl, hdS_X7_refuse⟩
set_option maxHeartbeats 4000000 in
set_option maxRecDepth 100000 in
theorem c_X7_refuse (l : Launch) (E : G0) (sz : Nat) (a0 : Nat → Nat) (v0 : RD) (p1 : Int32) (x : Bool × RD) (hf : f_X7_refuse v0 p1 = some x) : Met l yX7_refuse wsX7_refuse rmX7_refuse (va_Pc [.ref (a0 0), .int p1] (PW E (wRD E a0 v0) sz)) (va_Qi (fun r q => r = bI x.1 ∧ q = x.2) (fun q t => va_P E.1 vwCl ((fun q : RD => wRD E a0 q) q) t.heap ∧ va_D (va_A (wRD E a0 v0) sz) ((fun q : RD => wRD E a0 q) q)) (va_A (wRD E a0 v0) sz)) 0 0 (va_A (wRD E a0 v0) sz) := by
  refine Met.ofW (cc := cX7_refuse) (maxL := 2) (ret := some .boolean) (by decide) rfl ?_
  intro p e s m args below meth c s₁ B hml hv
  obtain ⟨ha, hsz, hP, hD0, hC⟩ := hv
  have hx := B.exec
  have hb := B.bytes
  have hr := B.returns
  have hts := atoms_spec (ws := wsX7_refuse) B.pre
  have hown : s.vm.findClass RX7 = some m.cls := findClass_of_methodNamed B.named
  have hlocks := B.notSynchronized
  subst hsz
  have hD := hD0.self (sz := s.heap.size)
  generalize hAe : va_A (wRD E a0 v0) s.heap.size = A at hD hC ⊢
  have hA : ∀ q : Nat, s.heap.size ≤ q → A q := fun q h => by rw [← hAe]; exact Or.inr h
  have hS : va_S A s.heap s.heap [] := va_S.rf
  have w1 : (Cond.fieldLink RX7 22 "GreatChunks$Reader" "fault" "I").before args s = true := hts _ (List.mem_of_getElem? (i := 1) rfl)
  have w2 : ∀ w ∈ wsX70, w ∈ wsX7_refuse := in_pl 2 rfl
  generalize hQe : MQ below (va_Qi (fun r q => r = bI x.1 ∧ q = x.2) (fun q t => va_P E.1 vwCl ((fun q : RD => wRD E a0 q) q) t.heap ∧ va_D A ((fun q : RD => wRD E a0 q) q)) A) args s 0 0 A = Q
  refine st_W ha (Nat.le_of_ble_eq_true rfl) (fun ls hl => ?_)
  have hl : lv_has ls 2 [(0, .ref (a0 0)), (1, .int p1)] := hl
  unfold f_X7_refuse at hf
  refine lv_aload_n hx hb dX7_refuse_0 rfl (lv_at hl 0 rfl) ?_
  refine lv_iload_n hx hb dX7_refuse_1 rfl (lv_at hl 1 rfl) ?_
  refine va_put (D := E.1) (ci := 5) (v := .int p1) (ty := .int) (C := RX7) (T := TX7) (N := 4) hx hb hts w2 tyX7 tyX7_ok nmX7 hown hC.1 hP hD hS 0 rfl rfl 2 (by decide) w1 (fun _ h9 => h9) rfl (by decide +kernel) rfl rfl (Nat.le_of_ble_eq_true rfl) dX7_refuse_2 (fun H locs hP hD hS => ?_)
  have hP : va_P E.1 vwCl (wRD E a0 (v0.1, v0.2.1, p1, v0.2.2.2)) H := hP
  have hD : va_D A (wRD E a0 (v0.1, v0.2.1, p1, v0.2.2.2)) := hD
  refine lv_iconst (v := 0) hx hb dX7_refuse_5 rfl ?_
  cases Option.some.inj hf
  subst hQe
  exact ew_z (wf := (fun q : RD => wRD E a0 q)) hx hb hr hlocks rfl hP hD hS dX7_refuse_6

/-! X7_sign -/
abbrev rmX7_sign : Room := { frames := 1, cells := 0, slots := 0, locals := 21 }
theorem hdS_X7_sign : yX7_sign.cls ≠ "java/lang/invoke/MethodHandle" ∧ yX7_sign.cls ≠ "java/lang/invoke/VarHandle" ∧ (parseMethodDescriptor yX7_sign.desc).map (fun d => d.parameters.length) = some 1 := by decide +kernel
theorem hdV_X7_sign : yX7_sign.cls = RX7 ∧ yX7_sign.cls ≠ "java/lang/invoke/MethodHandle" ∧ yX7_sign.cls ≠ "java/lang/invoke/VarHandle" ∧ (parseMethodDescriptor yX7_sign.desc).map (fun d => d.parameters.length) = some 1 := ⟨rfl, hdS_X7_sign⟩
set_option maxHeartbeats 4000000 in
set_option maxRecDepth 100000 in
theorem c_X7_sign (l : Launch) (E : G0) (sz : Nat) (a0 : Nat → Nat) (v0 : RD) (p1 : Int32) (x : Bool × RD) (hf : f_X7_sign v0 p1 = some x) : Met l yX7_sign wsX7_sign rmX7_sign (va_Pc [.ref (a0 0), .int p1] (PW E (wRD E a0 v0) sz)) (va_Qi (fun r q => r = bI x.1 ∧ q = x.2) (fun q t => va_P E.1 vwCl ((fun q : RD => wRD E a0 q) q) t.heap ∧ va_D (va_A (wRD E a0 v0) sz) ((fun q : RD => wRD E a0 q) q)) (va_A (wRD E a0 v0) sz)) 0 0 (va_A (wRD E a0 v0) sz) := by
  refine Met.ofW (cc := cX7_sign) (maxL := 2) (ret := some .boolean) (by decide) rfl ?_
  intro p e s m args below meth c s₁ B hml hv
  obtain ⟨ha, hsz, hP, hD0, hC⟩ := hv
  have hx := B.exec
  have hb := B.bytes
  have hr := B.returns
  have hts := atoms_spec (ws := wsX7_sign) B.pre
  have hown : s.vm.findClass RX7 = some m.cls := findClass_of_methodNamed B.named
  have hlocks := B.notSynchronized
  subst hsz
  have hD := hD0.self (sz := s.heap.size)
  generalize hAe : va_A (wRD E a0 v0) s.heap.size = A at hD hC ⊢
  have hA : ∀ q : Nat, s.heap.size ≤ q → A q := fun q h => by rw [← hAe]; exact Or.inr h
  have hS : va_S A s.heap s.heap [] := va_S.rf
  have w1 : (Cond.fieldLink RX7 12 "GreatChunks$Reader" "tape" "LGreatChunks$Tape;").before args s = true := hts _ (List.mem_of_getElem? (i := 1) rfl)
  have w2 : ∀ w ∈ wsX70, w ∈ wsX7_sign := in_pl 16 rfl
  have w3 : (Cond.fieldLink RX7 18 "GreatChunks$Reader" "place" "I").before args s = true := hts _ (List.mem_of_getElem? (i := 2) rfl)
  generalize hQe : MQ below (va_Qi (fun r q => r = bI x.1 ∧ q = x.2) (fun q t => va_P E.1 vwCl ((fun q : RD => wRD E a0 q) q) t.heap ∧ va_D A ((fun q : RD => wRD E a0 q) q)) A) args s 0 0 A = Q
  refine st_W ha (Nat.le_of_ble_eq_true rfl) (fun ls hl => ?_)
  have hl : lv_has ls 2 [(0, .ref (a0 0)), (1, .int p1)] := hl
  unfold f_X7_sign at hf
  refine lv_aload_n hx hb dX7_sign_0 rfl (lv_at hl 0 rfl) ?_
  refine va_get (D := E.1) (ci := 5) (v := .ref (a0 1)) (C := RX7) (T := TX7) (N := 4) hx hb hts w2 hown hC.1 hP 0 rfl rfl 0 (by decide) w1 (fun _ h9 => h9) rfl dX7_sign_1 ?_
  refine lv_aload_n hx hb dX7_sign_4 rfl (lv_at hl 0 rfl) ?_
  refine va_get (D := E.1) (ci := 5) (v := .int v0.2.1) (C := RX7) (T := TX7) (N := 4) hx hb hts w2 hown hC.1 hP 0 rfl rfl 1 (by decide) w3 (fun _ h9 => h9) rfl dX7_sign_5 ?_
  obtain ⟨r1, e1, hf⟩ := bd_some hf
  refine cr_i (va_runV (As := [.int v0.2.1]) (rest := []) ⟨hx, hb, hml, hown, hts⟩ (c_X9_at l E (fun k => a0 (k + 1)) v0.1 v0.2.1 r1 e1) (cwV 1 hts gX7_sign_X9_at rfl rfl rfl hdV_X9_at ⟨Nat.le_of_ble_eq_true rfl, Nat.le_of_ble_eq_true rfl⟩) ⟨PR.blind, va_recv hC.1 hP (ci := 7) (q0 := 1) rfl rfl, PR.pre hC hS (hP.sub [1, 2] rfl)⟩ rfl rfl hl.1 rfl (lv_room (Nat.le_of_ble_eq_true rfl)) dX7_sign_8 ⟨Nat.le_of_ble_eq_true rfl, Nat.le_of_ble_eq_true rfl⟩) ?_
  refine lv_iload_n hx hb dX7_sign_11 rfl (lv_at hl 1 rfl) ?_
  refine lv_icmp_eq (tgt := 21) hx hb dX7_sign_12 rfl (fun c2 => ?_) (fun c2 => ?_)
  · have hf := it_t hf c2
    refine lv_aload_n hx hb dX7_sign_21 rfl (lv_at hl 0 rfl) ?_
    refine lv_dup hx hb dX7_sign_22 rfl ?_
    refine va_get (D := E.1) (ci := 5) (v := .int v0.2.1) (C := RX7) (T := TX7) (N := 4) hx hb hts w2 hown hC.1 hP 0 rfl rfl 1 (by decide) w3 (fun _ h9 => h9) rfl dX7_sign_23 ?_
    refine lv_iconst (v := 1) hx hb dX7_sign_26 rfl ?_
    refine lv_iadd hx hb dX7_sign_27 ?_
    refine va_put (D := E.1) (ci := 5) (v := .int (v0.2.1 + (1 : Int32))) (ty := .int) (C := RX7) (T := TX7) (N := 4) hx hb hts w2 tyX7 tyX7_ok nmX7 hown hC.1 hP hD hS 0 rfl rfl 1 (by decide) w3 (fun _ h9 => h9) rfl (by decide +kernel) rfl rfl (Nat.le_of_ble_eq_true rfl) dX7_sign_28 (fun H locs hP hD hS => ?_)
    have hP : va_P E.1 vwCl (wRD E a0 (v0.1, (v0.2.1 + (1 : Int32)), v0.2.2.1, v0.2.2.2)) H := hP
    have hD : va_D A (wRD E a0 (v0.1, (v0.2.1 + (1 : Int32)), v0.2.2.1, v0.2.2.2)) := hD
    refine lv_iconst (v := 1) hx hb dX7_sign_31 rfl ?_
    cases Option.some.inj hf
    subst hQe
    exact ew_z (wf := (fun q : RD => wRD E a0 q)) hx hb hr hlocks rfl hP hD hS dX7_sign_32
  · have hf := it_f hf c2
    refine lv_aload_n hx hb dX7_sign_15 rfl (lv_at hl 0 rfl) ?_
    refine lv_iconst (v := 1) hx hb dX7_sign_16 rfl ?_
    obtain ⟨r3, e3, hf⟩ := bd_some hf
    refine cq_i hP hD hS [0, 1, 2] [] [0, 1, 2] (va_free (wc := (wRD E a0 v0)) hD hS hA [0, 1, 2] rfl) (va_runV (As := [.int (1 : Int32)]) (rest := []) ⟨hx, hb, hml, hown, hts⟩ (c_X7_refuse l E s.heap.size a0 v0 (1 : Int32) r3 e3) (cwV 1 hts gX7_sign_X7_refuse rfl rfl rfl hdV_X7_refuse ⟨Nat.le_of_ble_eq_true rfl, Nat.le_of_ble_eq_true rfl⟩) ⟨PW.blind, va_recv hC.1 hP (ci := 5) (q0 := 0) rfl rfl, PW.pre hC hS hP hD (va_free hD hS hA [0, 1, 2] rfl)⟩ rfl rfl hl.1 rfl (lv_room (Nat.le_of_ble_eq_true rfl)) dX7_sign_17 ⟨Nat.le_of_ble_eq_true rfl, Nat.le_of_ble_eq_true rfl⟩) rfl rfl rfl rfl (wRD E a0 r3.2) rfl rfl (fun H locs hP hD hS => ?_)
    cases Option.some.inj hf
    subst hQe
    exact ew_z (wf := (fun q : RD => wRD E a0 q)) hx hb hr hlocks rfl hP hD hS dX7_sign_20

/-! X7_numeral -/
abbrev rmX7_numeral : Room := { frames := 1, cells := 0, slots := 0, locals := 22 }
theorem hdS_X7_numeral : yX7_numeral.cls ≠ "java/lang/invoke/MethodHandle" ∧ yX7_numeral.cls ≠ "java/lang/invoke/VarHandle" ∧ (parseMethodDescriptor yX7_numeral.desc).map (fun d => d.parameters.length) = some 2 := by decide +kernel
theorem hdV_X7_numeral : yX7_numeral.cls = RX7 ∧ yX7_numeral.cls ≠ "java/lang/invoke/MethodHandle" ∧ yX7_numeral.cls ≠ "java/lang/invoke/VarHandle" ∧ (parseMethodDescriptor yX7_numeral.desc).map (fun d => d.parameters.length) = some 2 := ⟨rfl, hdS_X7_numeral⟩
set_option maxHeartbeats 4000000 in
set_option maxRecDepth 100000 in
theorem c_X7_numeral (l : Launch) (E : G0) (sz : Nat) (a0 : Nat → Nat) (v0 : RD) (p1 : Int32) (p2 : Int32) (x : Bool × RD) (hf : f_X7_numeral v0 p1 p2 = some x) : Met l yX7_numeral wsX7_numeral rmX7_numeral (va_Pc [.ref (a0 0), .int p1, .int p2] (PW E (wRD E a0 v0) sz)) (va_Qi (fun r q => r = bI x.1 ∧ q = x.2) (fun q t => va_P E.1 vwCl ((fun q : RD => wRD E a0 q) q) t.heap ∧ va_D (va_A (wRD E a0 v0) sz) ((fun q : RD => wRD E a0 q) q)) (va_A (wRD E a0 v0) sz)) 0 0 (va_A (wRD E a0 v0) sz) := by
  refine Met.ofW (cc := cX7_numeral) (maxL := 5) (ret := some .boolean) (by decide) rfl ?_
  intro p e s m args below meth c s₁ B hml hv
  obtain ⟨ha, hsz, hP, hD0, hC⟩ := hv
  have hx := B.exec
  have hb := B.bytes
  have hr := B.returns
  have hts := atoms_spec (ws := wsX7_numeral) B.pre
  have hown : s.vm.findClass RX7 = some m.cls := findClass_of_methodNamed B.named
  have hlocks := B.notSynchronized
  subst hsz
  have hD := hD0.self (sz := s.heap.size)
  generalize hAe : va_A (wRD E a0 v0) s.heap.size = A at hD hC ⊢
  have hA : ∀ q : Nat, s.heap.size ≤ q → A q := fun q h => by rw [← hAe]; exact Or.inr h
  have hS : va_S A s.heap s.heap [] := va_S.rf
  have w1 : (Cond.fieldLink RX7 12 "GreatChunks$Reader" "tape" "LGreatChunks$Tape;").before args s = true := hts _ (List.mem_of_getElem? (i := 1) rfl)
  have w2 : ∀ w ∈ wsX70, w ∈ wsX7_numeral := in_pl 20 rfl
  have w3 : (Cond.fieldLink RX7 18 "GreatChunks$Reader" "place" "I").before args s = true := hts _ (List.mem_of_getElem? (i := 2) rfl)
  have w4 : (Cond.initialized RX10).before args s = true := hts _ (List.mem_of_getElem? (i := 12) rfl)
  have w5 : (Cond.static yX10_within).before args s = true := hts _ (List.mem_of_getElem? (i := 11) rfl)
  have w6 : (Cond.fieldLink RX7 25 "GreatChunks$Reader" "number" "I").before args s = true := hts _ (List.mem_of_getElem? (i := 3) rfl)
  generalize hQe : MQ below (va_Qi (fun r q => r = bI x.1 ∧ q = x.2) (fun q t => va_P E.1 vwCl ((fun q : RD => wRD E a0 q) q) t.heap ∧ va_D A ((fun q : RD => wRD E a0 q) q)) A) args s 0 0 A = Q
  refine st_W ha (Nat.le_of_ble_eq_true rfl) (fun ls hl => ?_)
  have hl : lv_has ls 5 [(0, .ref (a0 0)), (1, .int p1), (2, .int p2)] := hl
  unfold f_X7_numeral at hf
  refine lv_iconst (v := 0) hx hb dX7_numeral_0 rfl ?_
  refine lv_istore_n (lv' := [(3, .int (0 : Int32)), (0, .ref (a0 0)), (1, .int p1), (2, .int p2)]) hx hb dX7_numeral_1 rfl hl (by decide) rfl (fun ls hl => ?_)
  refine lv_iconst (v := 0) hx hb dX7_numeral_2 rfl ?_
  refine lv_istore (lv' := [(4, .int (0 : Int32)), (3, .int (0 : Int32)), (0, .ref (a0 0)), (1, .int p1), (2, .int p2)]) hx hb dX7_numeral_3 hl (by decide) rfl (fun ls hl => ?_)
  obtain ⟨K1, hK1, hf⟩ := jn_some hf
  have J1 : ∀ (q1 : Int32 × Int32) (ls : Array Slot) (hl : lv_has ls 5 [(0, .ref (a0 0)), (1, .int p1), (2, .int p2), (3, .int q1.1), (4, .int q1.2)]) (hf : K1 q1 = some x), W p l e (headSpec wsX7_numeral rmX7_numeral).room s m args below meth c s.heap [] 0 0 Q (F0 m 63 ls []) := by
    intro q1 ls hl hf
    have hf := (hK1 q1).trans hf
    refine lv_iload_n hx hb dX7_numeral_63 rfl (lv_at hl 3 rfl) ?_
    refine lv_iconst (v := 1) hx hb dX7_numeral_64 rfl ?_
    refine lv_icmp_lt (tgt := 73) hx hb dX7_numeral_65 rfl (fun c2 => ?_) (fun c2 => ?_)
    · have hf := it_t hf c2
      refine lv_aload_n hx hb dX7_numeral_73 rfl (lv_at hl 0 rfl) ?_
      refine lv_iconst (v := 1) hx hb dX7_numeral_74 rfl ?_
      obtain ⟨r3, e3, hf⟩ := bd_some hf
      refine cq_i hP hD hS [0, 1, 2] [] [0, 1, 2] (va_free (wc := (wRD E a0 v0)) hD hS hA [0, 1, 2] rfl) (va_runV (As := [.int (1 : Int32)]) (rest := []) ⟨hx, hb, hml, hown, hts⟩ (c_X7_refuse l E s.heap.size a0 v0 (1 : Int32) r3 e3) (cwV 1 hts gX7_numeral_X7_refuse rfl rfl rfl hdV_X7_refuse ⟨Nat.le_of_ble_eq_true rfl, Nat.le_of_ble_eq_true rfl⟩) ⟨PW.blind, va_recv hC.1 hP (ci := 5) (q0 := 0) rfl rfl, PW.pre hC hS hP hD (va_free hD hS hA [0, 1, 2] rfl)⟩ rfl rfl hl.1 rfl (lv_room (Nat.le_of_ble_eq_true rfl)) dX7_numeral_75 ⟨Nat.le_of_ble_eq_true rfl, Nat.le_of_ble_eq_true rfl⟩) rfl rfl rfl rfl (wRD E a0 r3.2) rfl rfl (fun H locs hP hD hS => ?_)
      cases Option.some.inj hf
      subst hQe
      exact ew_z (wf := (fun q : RD => wRD E a0 q)) hx hb hr hlocks rfl hP hD hS dX7_numeral_78
    · have hf := it_f hf c2
      refine lv_iload_n hx hb dX7_numeral_68 rfl (lv_at hl 3 rfl) ?_
      refine lv_iconst (v := 2) hx hb dX7_numeral_69 rfl ?_
      refine lv_icmp_le (tgt := 79) hx hb dX7_numeral_70 rfl (fun c4 => ?_) (fun c4 => ?_)
      · have hf := it_t hf c4
        refine lv_iload hx hb dX7_numeral_79 (lv_at hl 4 rfl) ?_
        refine lv_iload_n hx hb dX7_numeral_81 rfl (lv_at hl 1 rfl) ?_
        refine lv_iload_n hx hb dX7_numeral_82 rfl (lv_at hl 2 rfl) ?_
        refine cr_i (va_runSN (As := [.int q1.2, .int p1, .int p2]) (rest := []) ⟨hx, hb, hml, hown, hts⟩ (c_X10_within l E q1.2 p1 p2 _ rfl) ⟨va_cnB 3 hts gX7_numeral_X10_within_n100 rfl rfl rfl (hC.2.1 (RX7, 100, yX10_within, RX10) (List.mem_of_getElem? (i := 7) rfl)) w4 hdS_X10_within ⟨Nat.le_of_ble_eq_true rfl, Nat.le_of_ble_eq_true rfl⟩, w5, trivial⟩ ⟨PR.blind, PR.pre hC hS (hP.sub [] rfl)⟩ rfl rfl hl.1 rfl (lv_room (Nat.le_of_ble_eq_true rfl)) dX7_numeral_83 ⟨Nat.le_of_ble_eq_true rfl, Nat.le_of_ble_eq_true rfl⟩) ?_
        refine lv_if_ne (tgt := 95) hx hb dX7_numeral_86 rfl (fun c5 => ?_) (fun c5 => ?_)
        · have hf := it_f hf c5
          refine lv_aload_n hx hb dX7_numeral_95 rfl (lv_at hl 0 rfl) ?_
          refine lv_iload hx hb dX7_numeral_96 (lv_at hl 4 rfl) ?_
          refine va_put (D := E.1) (ci := 5) (v := .int q1.2) (ty := .int) (C := RX7) (T := TX7) (N := 4) hx hb hts w2 tyX7 tyX7_ok nmX7 hown hC.1 hP hD hS 0 rfl rfl 3 (by decide) w6 (fun _ h9 => h9) rfl (by decide +kernel) rfl rfl (Nat.le_of_ble_eq_true rfl) dX7_numeral_98 (fun H locs hP hD hS => ?_)
          have hP : va_P E.1 vwCl (wRD E a0 (v0.1, v0.2.1, v0.2.2.1, q1.2)) H := hP
          have hD : va_D A (wRD E a0 (v0.1, v0.2.1, v0.2.2.1, q1.2)) := hD
          refine lv_aload_n hx hb dX7_numeral_101 rfl (lv_at hl 0 rfl) ?_
          refine lv_dup hx hb dX7_numeral_102 rfl ?_
          refine va_get (D := E.1) (ci := 5) (v := .int v0.2.1) (C := RX7) (T := TX7) (N := 4) hx hb hts w2 hown hC.1 hP 0 rfl rfl 1 (by decide) w3 (fun _ h9 => h9) rfl dX7_numeral_103 ?_
          refine lv_iload_n hx hb dX7_numeral_106 rfl (lv_at hl 3 rfl) ?_
          refine lv_iadd hx hb dX7_numeral_107 ?_
          refine va_put (D := E.1) (ci := 5) (v := .int (v0.2.1 + q1.1)) (ty := .int) (C := RX7) (T := TX7) (N := 4) hx hb hts w2 tyX7 tyX7_ok nmX7 hown hC.1 hP hD hS 0 rfl rfl 1 (by decide) w3 (fun _ h9 => h9) rfl (by decide +kernel) rfl rfl (Nat.le_of_ble_eq_true rfl) dX7_numeral_108 (fun H locs hP hD hS => ?_)
          have hP : va_P E.1 vwCl (wRD E a0 (v0.1, (v0.2.1 + q1.1), v0.2.2.1, q1.2)) H := hP
          have hD : va_D A (wRD E a0 (v0.1, (v0.2.1 + q1.1), v0.2.2.1, q1.2)) := hD
          refine lv_iconst (v := 1) hx hb dX7_numeral_111 rfl ?_
          cases Option.some.inj hf
          subst hQe
          exact ew_z (wf := (fun q : RD => wRD E a0 q)) hx hb hr hlocks rfl hP hD hS dX7_numeral_112
        · have hf := it_t hf c5
          refine lv_aload_n hx hb dX7_numeral_89 rfl (lv_at hl 0 rfl) ?_
          refine lv_iconst (v := 2) hx hb dX7_numeral_90 rfl ?_
          obtain ⟨r6, e6, hf⟩ := bd_some hf
          refine cq_i hP hD hS [0, 1, 2] [] [0, 1, 2] (va_free (wc := (wRD E a0 v0)) hD hS hA [0, 1, 2] rfl) (va_runV (As := [.int (2 : Int32)]) (rest := []) ⟨hx, hb, hml, hown, hts⟩ (c_X7_refuse l E s.heap.size a0 v0 (2 : Int32) r6 e6) (cwV 1 hts gX7_numeral_X7_refuse rfl rfl rfl hdV_X7_refuse ⟨Nat.le_of_ble_eq_true rfl, Nat.le_of_ble_eq_true rfl⟩) ⟨PW.blind, va_recv hC.1 hP (ci := 5) (q0 := 0) rfl rfl, PW.pre hC hS hP hD (va_free hD hS hA [0, 1, 2] rfl)⟩ rfl rfl hl.1 rfl (lv_room (Nat.le_of_ble_eq_true rfl)) dX7_numeral_91 ⟨Nat.le_of_ble_eq_true rfl, Nat.le_of_ble_eq_true rfl⟩) rfl rfl rfl rfl (wRD E a0 r6.2) rfl rfl (fun H locs hP hD hS => ?_)
          cases Option.some.inj hf
          subst hQe
          exact ew_z (wf := (fun q : RD => wRD E a0 q)) hx hb hr hlocks rfl hP hD hS dX7_numeral_94
      · have hf := it_f hf c4
        refine lv_aload_n hx hb dX7_numeral_73 rfl (lv_at hl 0 rfl) ?_
        refine lv_iconst (v := 1) hx hb dX7_numeral_74 rfl ?_
        obtain ⟨r7, e7, hf⟩ := bd_some hf
        refine cq_i hP hD hS [0, 1, 2] [] [0, 1, 2] (va_free (wc := (wRD E a0 v0)) hD hS hA [0, 1, 2] rfl) (va_runV (As := [.int (1 : Int32)]) (rest := []) ⟨hx, hb, hml, hown, hts⟩ (c_X7_refuse l E s.heap.size a0 v0 (1 : Int32) r7 e7) (cwV 1 hts gX7_numeral_X7_refuse rfl rfl rfl hdV_X7_refuse ⟨Nat.le_of_ble_eq_true rfl, Nat.le_of_ble_eq_true rfl⟩) ⟨PW.blind, va_recv hC.1 hP (ci := 5) (q0 := 0) rfl rfl, PW.pre hC hS hP hD (va_free hD hS hA [0, 1, 2] rfl)⟩ rfl rfl hl.1 rfl (lv_room (Nat.le_of_ble_eq_true rfl)) dX7_numeral_75 ⟨Nat.le_of_ble_eq_true rfl, Nat.le_of_ble_eq_true rfl⟩) rfl rfl rfl rfl (wRD E a0 r7.2) rfl rfl (fun H locs hP hD hS => ?_)
        cases Option.some.inj hf
        subst hQe
        exact ew_z (wf := (fun q : RD => wRD E a0 q)) hx hb hr hlocks rfl hP hD hS dX7_numeral_78
  have L1 : ∀ (n : Nat) (q1 : Int32 × Int32) (ls : Array Slot) (hl : lv_has ls 5 [(0, .ref (a0 0)), (1, .int p1), (2, .int p2), (3, .int q1.1), (4, .int q1.2)]) (hf : lpF (bX7_numeral_1 v0 K1) n q1 = some x), W p l e (headSpec wsX7_numeral rmX7_numeral).room s m args below meth c s.heap [] 0 0 Q (F0 m 5 ls []) := by
    intro n
    induction n with
    | zero => intro q1 ls hl hf; exact (lpF_zero hf).elim
    | succ n ih1 =>
      intro q1 ls hl hf
      have hf := lpF_succ hf
      unfold bX7_numeral_1 at hf
      refine lv_iload_n hx hb dX7_numeral_5 rfl (lv_at hl 3 rfl) ?_
      refine lv_iconst (v := 3) hx hb dX7_numeral_6 rfl ?_
      refine lv_icmp_ge (tgt := 63) hx hb dX7_numeral_7 rfl (fun c8 => ?_) (fun c8 => ?_)
      · have hf := it_t hf c8
        exact J1 (q1.1, q1.2) ls (lv_sub hl [0, 1, 2, 3, 4] rfl) hf
      · have hf := it_f hf c8
        refine lv_aload_n hx hb dX7_numeral_10 rfl (lv_at hl 0 rfl) ?_
        refine va_get (D := E.1) (ci := 5) (v := .ref (a0 1)) (C := RX7) (T := TX7) (N := 4) hx hb hts w2 hown hC.1 hP 0 rfl rfl 0 (by decide) w1 (fun _ h9 => h9) rfl dX7_numeral_11 ?_
        refine lv_aload_n hx hb dX7_numeral_14 rfl (lv_at hl 0 rfl) ?_
        refine va_get (D := E.1) (ci := 5) (v := .int v0.2.1) (C := RX7) (T := TX7) (N := 4) hx hb hts w2 hown hC.1 hP 0 rfl rfl 1 (by decide) w3 (fun _ h9 => h9) rfl dX7_numeral_15 ?_
        refine lv_iload_n hx hb dX7_numeral_18 rfl (lv_at hl 3 rfl) ?_
        refine lv_iadd hx hb dX7_numeral_19 ?_
        obtain ⟨r9, e9, hf⟩ := bd_some hf
        refine cr_i (va_runV (As := [.int (v0.2.1 + q1.1)]) (rest := []) ⟨hx, hb, hml, hown, hts⟩ (c_X9_at l E (fun k => a0 (k + 1)) v0.1 (v0.2.1 + q1.1) r9 e9) (cwV 1 hts gX7_numeral_X9_at rfl rfl rfl hdV_X9_at ⟨Nat.le_of_ble_eq_true rfl, Nat.le_of_ble_eq_true rfl⟩) ⟨PR.blind, va_recv hC.1 hP (ci := 7) (q0 := 1) rfl rfl, PR.pre hC hS (hP.sub [1, 2] rfl)⟩ rfl rfl hl.1 rfl (lv_room (Nat.le_of_ble_eq_true rfl)) dX7_numeral_20 ⟨Nat.le_of_ble_eq_true rfl, Nat.le_of_ble_eq_true rfl⟩) ?_
        refine lv_bipush (v := 48) hx hb dX7_numeral_23 rfl ?_
        refine lv_bipush (v := 57) hx hb dX7_numeral_25 rfl ?_
        refine cr_i (va_runSN (As := [.int r9, .int (48 : Int32), .int (57 : Int32)]) (rest := []) ⟨hx, hb, hml, hown, hts⟩ (c_X10_within l E r9 (48 : Int32) (57 : Int32) _ rfl) ⟨va_cnB 3 hts gX7_numeral_X10_within_n100 rfl rfl rfl (hC.2.1 (RX7, 100, yX10_within, RX10) (List.mem_of_getElem? (i := 7) rfl)) w4 hdS_X10_within ⟨Nat.le_of_ble_eq_true rfl, Nat.le_of_ble_eq_true rfl⟩, w5, trivial⟩ ⟨PR.blind, PR.pre hC hS (hP.sub [] rfl)⟩ rfl rfl hl.1 rfl (lv_room (Nat.le_of_ble_eq_true rfl)) dX7_numeral_27 ⟨Nat.le_of_ble_eq_true rfl, Nat.le_of_ble_eq_true rfl⟩) ?_
        refine lv_if_eq (tgt := 63) hx hb dX7_numeral_30 rfl (fun c10 => ?_) (fun c10 => ?_)
        · have hf := it_t hf c10
          exact J1 (q1.1, q1.2) ls (lv_sub hl [0, 1, 2, 3, 4] rfl) hf
        · have hf := it_f hf c10
          refine lv_iload hx hb dX7_numeral_33 (lv_at hl 4 rfl) ?_
          refine lv_bipush (v := 10) hx hb dX7_numeral_35 rfl ?_
          refine lv_imul hx hb dX7_numeral_37 ?_
          refine lv_aload_n hx hb dX7_numeral_38 rfl (lv_at hl 0 rfl) ?_
          refine va_get (D := E.1) (ci := 5) (v := .ref (a0 1)) (C := RX7) (T := TX7) (N := 4) hx hb hts w2 hown hC.1 hP 0 rfl rfl 0 (by decide) w1 (fun _ h9 => h9) rfl dX7_numeral_39 ?_
          refine lv_aload_n hx hb dX7_numeral_42 rfl (lv_at hl 0 rfl) ?_
          refine va_get (D := E.1) (ci := 5) (v := .int v0.2.1) (C := RX7) (T := TX7) (N := 4) hx hb hts w2 hown hC.1 hP 0 rfl rfl 1 (by decide) w3 (fun _ h9 => h9) rfl dX7_numeral_43 ?_
          refine lv_iload_n hx hb dX7_numeral_46 rfl (lv_at hl 3 rfl) ?_
          refine lv_iadd hx hb dX7_numeral_47 ?_
          obtain ⟨r11, e11, hf⟩ := bd_some hf
          refine cr_i (va_runV (As := [.int (v0.2.1 + q1.1)]) (rest := [.int (q1.2 * (10 : Int32))]) ⟨hx, hb, hml, hown, hts⟩ (c_X9_at l E (fun k => a0 (k + 1)) v0.1 (v0.2.1 + q1.1) r11 e11) (cwV 1 hts gX7_numeral_X9_at rfl rfl rfl hdV_X9_at ⟨Nat.le_of_ble_eq_true rfl, Nat.le_of_ble_eq_true rfl⟩) ⟨PR.blind, va_recv hC.1 hP (ci := 7) (q0 := 1) rfl rfl, PR.pre hC hS (hP.sub [1, 2] rfl)⟩ rfl rfl hl.1 rfl (lv_room (Nat.le_of_ble_eq_true rfl)) dX7_numeral_48 ⟨Nat.le_of_ble_eq_true rfl, Nat.le_of_ble_eq_true rfl⟩) ?_
          refine lv_iadd hx hb dX7_numeral_51 ?_
          refine lv_bipush (v := 48) hx hb dX7_numeral_52 rfl ?_
          refine lv_isub hx hb dX7_numeral_54 ?_
          refine lv_istore (lv' := [(4, .int (((q1.2 * (10 : Int32)) + r11) - (48 : Int32))), (0, .ref (a0 0)), (1, .int p1), (2, .int p2), (3, .int q1.1)]) hx hb dX7_numeral_55 hl (by decide) rfl (fun ls hl => ?_)
          refine lv_iinc (v := (q1.1 + 1)) (lv' := [(3, .int (q1.1 + 1)), (4, .int (((q1.2 * (10 : Int32)) + r11) - (48 : Int32))), (0, .ref (a0 0)), (1, .int p1), (2, .int p2)]) hx hb dX7_numeral_57 hl (k := 4) rfl rfl (by decide) rfl (fun ls hl => ?_)
          refine lv_goto (tgt := 5) hx hb dX7_numeral_60 rfl ?_
          exact ih1 ((q1.1 + 1), (((q1.2 * (10 : Int32)) + r11) - (48 : Int32))) ls (lv_sub hl [2, 3, 4, 0, 1] rfl) hf
  exact L1 FU ((0 : Int32), (0 : Int32)) ls (lv_sub hl [2, 3, 4, 1, 0] rfl) hf

/-! X7_readHead -/
abbrev rmX7_readHead : Room := { frames := 3, cells := 0, slots := 0, locals := 65 }
theorem hdS_X7_readHead : yX7_readHead.cls ≠ "java/lang/invoke/MethodHandle" ∧ yX7_readHead.cls ≠ "java/lang/invoke/VarHandle" ∧ (parseMethodDescriptor yX7_readHead.desc).map (fun d => d.parameters.length) = some 1 := by decide +kernel
theorem hdV_X7_readHead : yX7_readHead.cls = RX7 ∧ yX7_readHead.cls ≠ "java/lang/invoke/MethodHandle" ∧ yX7_readHead.cls ≠ "java/lang/invoke/VarHandle" ∧ (parseMethodDescriptor yX7_readHead.desc).map (fun d => d.parameters.length) = some 1 := ⟨rfl, hdS_X7_readHead⟩
set_option maxHeartbeats 4000000 in
set_option maxRecDepth 100000 in
theorem c_X7_readHead (l : Launch) (E : G0) (sz : Nat) (a0 : Nat → Nat) (v0 : RD) (a1 : Nat → Nat) (v1 : HS) (x : Bool × RD × HS) (hf : f_X7_readHead v0 v1 = some x) : Met l yX7_readHead wsX7_readHead rmX7_readHead (va_Pc [.ref (a0 0), .ref (a1 0)] (PW E (wRD E a0 v0 ++ wHS E a1 v1) sz)) (va_Qi (fun r q => r = bI x.1 ∧ q = x.2) (fun q t => va_P E.1 vwCl ((fun q : RD × HS => wRD E a0 q.1 ++ wHS E a1 q.2) q) t.heap ∧ va_D (va_A (wRD E a0 v0 ++ wHS E a1 v1) sz) ((fun q : RD × HS => wRD E a0 q.1 ++ wHS E a1 q.2) q)) (va_A (wRD E a0 v0 ++ wHS E a1 v1) sz)) 0 0 (va_A (wRD E a0 v0 ++ wHS E a1 v1) sz) := by
  refine Met.ofW (cc := cX7_readHead) (maxL := 2) (ret := some .boolean) (by decide) rfl ?_
  intro p e s m args below meth c s₁ B hml hv
  obtain ⟨ha, hsz, hP, hD0, hC⟩ := hv
  have hx := B.exec
  have hb := B.bytes
  have hr := B.returns
  have hts := atoms_spec (ws := wsX7_readHead) B.pre
  have hown : s.vm.findClass RX7 = some m.cls := findClass_of_methodNamed B.named
  have hlocks := B.notSynchronized
  subst hsz
  have hD := hD0.self (sz := s.heap.size)
  generalize hAe : va_A (wRD E a0 v0 ++ wHS E a1 v1) s.heap.size = A at hD hC ⊢
  have hA : ∀ q : Nat, s.heap.size ≤ q → A q := fun q h => by rw [← hAe]; exact Or.inr h
  have hS : va_S A s.heap s.heap [] := va_S.rf
  have w1 : (Cond.fieldLink RX7 25 "GreatChunks$Reader" "number" "I").before args s = true := hts _ (List.mem_of_getElem? (i := 1) rfl)
  have w2 : ∀ w ∈ wsX70, w ∈ wsX7_readHead := in_pl 74 rfl
  have w3 : (Cond.fieldLink RX7 58 "GreatChunks$House" "wanted" "I").before args s = true := hts _ (List.mem_of_getElem? (i := 2) rfl)
  have w4 : ∀ w ∈ wsX50, w ∈ wsX7_readHead := in_pl 78 rfl
  have w5 : (Cond.fieldLink RX7 61 "GreatChunks$House" "size" "I").before args s = true := hts _ (List.mem_of_getElem? (i := 3) rfl)
  have w6 : (Cond.fieldLink RX7 64 "GreatChunks$House" "lease" "I").before args s = true := hts _ (List.mem_of_getElem? (i := 4) rfl)
  have w7 : (Cond.fieldLink RX7 67 "GreatChunks$House" "grace" "I").before args s = true := hts _ (List.mem_of_getElem? (i := 5) rfl)
  generalize hQe : MQ below (va_Qi (fun r q => r = bI x.1 ∧ q = x.2) (fun q t => va_P E.1 vwCl ((fun q : RD × HS => wRD E a0 q.1 ++ wHS E a1 q.2) q) t.heap ∧ va_D A ((fun q : RD × HS => wRD E a0 q.1 ++ wHS E a1 q.2) q)) A) args s 0 0 A = Q
  refine st_W ha (Nat.le_of_ble_eq_true rfl) (fun ls hl => ?_)
  have hl : lv_has ls 2 [(0, .ref (a0 0)), (1, .ref (a1 0))] := hl
  unfold f_X7_readHead at hf
  refine lv_aload_n hx hb dX7_readHead_0 rfl (lv_at hl 0 rfl) ?_
  refine lv_bipush (v := 104) hx hb dX7_readHead_1 rfl ?_
  obtain ⟨r1, e1, hf⟩ := bd_some hf
  refine cq_i hP hD hS [0, 1, 2] [3, 4, 5, 6, 7, 8, 9, 10, 11, 12, 13, 14, 15, 16, 17, 18, 19, 20, 21] [19, 20, 21, 0, 1, 2, 3, 4, 5, 6, 7, 8, 9, 10, 11, 12, 13, 14, 15, 16, 17, 18] (va_free (wc := (wRD E a0 v0)) hD hS hA [0, 1, 2] rfl) (va_runV (As := [.int (104 : Int32)]) (rest := []) ⟨hx, hb, hml, hown, hts⟩ (c_X7_sign l E s.heap.size a0 v0 (104 : Int32) r1 e1) (cwV 1 hts gX7_readHead_X7_sign rfl rfl rfl hdV_X7_sign ⟨Nat.le_of_ble_eq_true rfl, Nat.le_of_ble_eq_true rfl⟩) ⟨PW.blind, va_recv hC.1 hP (ci := 5) (q0 := 0) rfl rfl, PW.pre hC hS (hP.sub [0, 1, 2] rfl) (hD.sub [0, 1, 2] rfl rfl) (va_free hD hS hA [0, 1, 2] rfl)⟩ rfl rfl hl.1 rfl (lv_room (Nat.le_of_ble_eq_true rfl)) dX7_readHead_3 ⟨Nat.le_of_ble_eq_true rfl, Nat.le_of_ble_eq_true rfl⟩) rfl rfl rfl rfl (wRD E a0 r1.2 ++ wHS E a1 v1) rfl rfl (fun H locs hP hD hS => ?_)
  refine lv_if_eq (tgt := 18) hx hb dX7_readHead_6 rfl (fun c2 => ?_) (fun c2 => ?_)
  · have hf := it_t hf c2
    refine lv_iconst (v := 0) hx hb dX7_readHead_18 rfl ?_
    cases Option.some.inj hf
    subst hQe
    exact ew_z (wf := (fun q : RD × HS => wRD E a0 q.1 ++ wHS E a1 q.2)) hx hb hr hlocks rfl hP hD hS dX7_readHead_19
  · have hf := it_f hf c2
    refine lv_aload_n hx hb dX7_readHead_9 rfl (lv_at hl 0 rfl) ?_
    refine lv_iconst (v := 2) hx hb dX7_readHead_10 rfl ?_
    refine lv_iconst (v := 5) hx hb dX7_readHead_11 rfl ?_
    obtain ⟨r3, e3, hf⟩ := bd_some hf
    refine cq_i hP hD hS [0, 1, 2] [3, 4, 5, 6, 7, 8, 9, 10, 11, 12, 13, 14, 15, 16, 17, 18, 19, 20, 21] [19, 20, 21, 0, 1, 2, 3, 4, 5, 6, 7, 8, 9, 10, 11, 12, 13, 14, 15, 16, 17, 18] (va_free (wc := (wRD E a0 r1.2)) hD hS hA [0, 1, 2] rfl) (va_runV (As := [.int (2 : Int32), .int (5 : Int32)]) (rest := []) ⟨hx, hb, hml, hown, hts⟩ (c_X7_numeral l E H.size a0 r1.2 (2 : Int32) (5 : Int32) r3 e3) (cwV 2 hts gX7_readHead_X7_numeral rfl rfl rfl hdV_X7_numeral ⟨Nat.le_of_ble_eq_true rfl, Nat.le_of_ble_eq_true rfl⟩) ⟨PW.blind, va_recv hC.1 hP (ci := 5) (q0 := 0) rfl rfl, PW.pre hC hS (hP.sub [0, 1, 2] rfl) (hD.sub [0, 1, 2] rfl rfl) (va_free hD hS hA [0, 1, 2] rfl)⟩ rfl rfl hl.1 rfl (lv_room (Nat.le_of_ble_eq_true rfl)) dX7_readHead_12 ⟨Nat.le_of_ble_eq_true rfl, Nat.le_of_ble_eq_true rfl⟩) rfl rfl rfl rfl (wRD E a0 r3.2 ++ wHS E a1 v1) rfl rfl (fun H locs hP hD hS => ?_)
    refine lv_if_ne (tgt := 20) hx hb dX7_readHead_15 rfl (fun c4 => ?_) (fun c4 => ?_)
    · have hf := it_f hf c4
      refine lv_aload_n hx hb dX7_readHead_20 rfl (lv_at hl 1 rfl) ?_
      refine lv_aload_n hx hb dX7_readHead_21 rfl (lv_at hl 0 rfl) ?_
      refine va_get (D := E.1) (ci := 5) (v := .int r3.2.2.2.2) (C := RX7) (T := TX7) (N := 4) hx hb hts w2 hown hC.1 hP 0 rfl rfl 3 (by decide) w1 (fun _ h9 => h9) rfl dX7_readHead_22 ?_
      obtain ⟨r5, e5, hf⟩ := bd_some hf
      refine cq_v hP hD hS [3, 4, 5, 6, 7, 8, 9, 10, 11, 12, 13, 14, 15, 16, 17, 18, 19, 20, 21] [0, 1, 2] [0, 1, 2, 3, 4, 5, 6, 7, 8, 9, 10, 11, 12, 13, 14, 15, 16, 17, 18, 19, 20, 21] (va_free (wc := (wHS E a1 v1)) hD hS hA [3, 4, 5, 6, 7, 8, 9, 10, 11, 12, 13, 14, 15, 16, 17, 18, 19, 20, 21] rfl) (va_runV (As := [.int r3.2.2.2.2]) (rest := []) ⟨hx, hb, hml, hown, hts⟩ (c_X5_open l E H.size a1 v1 r3.2.2.2.2 r5 e5) (cwV 1 hts gX7_readHead_X5_open rfl rfl rfl hdV_X5_open ⟨Nat.le_of_ble_eq_true rfl, Nat.le_of_ble_eq_true rfl⟩) ⟨PW.blind, va_recv hC.1 hP (ci := 4) (q0 := 3) rfl rfl, PW.pre hC hS (hP.sub [3, 4, 5, 6, 7, 8, 9, 10, 11, 12, 13, 14, 15, 16, 17, 18, 19, 20, 21] rfl) (hD.sub [3, 4, 5, 6, 7, 8, 9, 10, 11, 12, 13, 14, 15, 16, 17, 18, 19, 20, 21] rfl rfl) (va_free hD hS hA [3, 4, 5, 6, 7, 8, 9, 10, 11, 12, 13, 14, 15, 16, 17, 18, 19, 20, 21] rfl)⟩ rfl rfl hl.1 rfl (lv_room (Nat.le_of_ble_eq_true rfl)) dX7_readHead_25 ⟨Nat.le_of_ble_eq_true rfl, Nat.le_of_ble_eq_true rfl⟩) rfl rfl rfl rfl (wRD E a0 r3.2 ++ wHS E a1 r5) rfl rfl (fun H locs hP hD hS => ?_)
      refine lv_aload_n hx hb dX7_readHead_28 rfl (lv_at hl 0 rfl) ?_
      refine lv_bipush (v := 44) hx hb dX7_readHead_29 rfl ?_
      obtain ⟨r6, e6, hf⟩ := bd_some hf
      refine cq_i hP hD hS [0, 1, 2] [3, 4, 5, 6, 7, 8, 9, 10, 11, 12, 13, 14, 15, 16, 17, 18, 19, 20, 21] [19, 20, 21, 0, 1, 2, 3, 4, 5, 6, 7, 8, 9, 10, 11, 12, 13, 14, 15, 16, 17, 18] (va_free (wc := (wRD E a0 r3.2)) hD hS hA [0, 1, 2] rfl) (va_runV (As := [.int (44 : Int32)]) (rest := []) ⟨hx, hb, hml, hown, hts⟩ (c_X7_sign l E H.size a0 r3.2 (44 : Int32) r6 e6) (cwV 1 hts gX7_readHead_X7_sign rfl rfl rfl hdV_X7_sign ⟨Nat.le_of_ble_eq_true rfl, Nat.le_of_ble_eq_true rfl⟩) ⟨PW.blind, va_recv hC.1 hP (ci := 5) (q0 := 0) rfl rfl, PW.pre hC hS (hP.sub [0, 1, 2] rfl) (hD.sub [0, 1, 2] rfl rfl) (va_free hD hS hA [0, 1, 2] rfl)⟩ rfl rfl hl.1 rfl (lv_room (Nat.le_of_ble_eq_true rfl)) dX7_readHead_31 ⟨Nat.le_of_ble_eq_true rfl, Nat.le_of_ble_eq_true rfl⟩) rfl rfl rfl rfl (wRD E a0 r6.2 ++ wHS E a1 r5) rfl rfl (fun H locs hP hD hS => ?_)
      refine lv_if_eq (tgt := 46) hx hb dX7_readHead_34 rfl (fun c7 => ?_) (fun c7 => ?_)
      · have hf := it_t hf c7
        refine lv_iconst (v := 0) hx hb dX7_readHead_46 rfl ?_
        cases Option.some.inj hf
        subst hQe
        exact ew_z (wf := (fun q : RD × HS => wRD E a0 q.1 ++ wHS E a1 q.2)) hx hb hr hlocks rfl hP hD hS dX7_readHead_47
      · have hf := it_f hf c7
        refine lv_aload_n hx hb dX7_readHead_37 rfl (lv_at hl 0 rfl) ?_
        refine lv_iconst (v := 1) hx hb dX7_readHead_38 rfl ?_
        refine lv_iconst (v := 3) hx hb dX7_readHead_39 rfl ?_
        obtain ⟨r8, e8, hf⟩ := bd_some hf
        refine cq_i hP hD hS [0, 1, 2] [3, 4, 5, 6, 7, 8, 9, 10, 11, 12, 13, 14, 15, 16, 17, 18, 19, 20, 21] [19, 20, 21, 0, 1, 2, 3, 4, 5, 6, 7, 8, 9, 10, 11, 12, 13, 14, 15, 16, 17, 18] (va_free (wc := (wRD E a0 r6.2)) hD hS hA [0, 1, 2] rfl) (va_runV (As := [.int (1 : Int32), .int (3 : Int32)]) (rest := []) ⟨hx, hb, hml, hown, hts⟩ (c_X7_numeral l E H.size a0 r6.2 (1 : Int32) (3 : Int32) r8 e8) (cwV 2 hts gX7_readHead_X7_numeral rfl rfl rfl hdV_X7_numeral ⟨Nat.le_of_ble_eq_true rfl, Nat.le_of_ble_eq_true rfl⟩) ⟨PW.blind, va_recv hC.1 hP (ci := 5) (q0 := 0) rfl rfl, PW.pre hC hS (hP.sub [0, 1, 2] rfl) (hD.sub [0, 1, 2] rfl rfl) (va_free hD hS hA [0, 1, 2] rfl)⟩ rfl rfl hl.1 rfl (lv_room (Nat.le_of_ble_eq_true rfl)) dX7_readHead_40 ⟨Nat.le_of_ble_eq_true rfl, Nat.le_of_ble_eq_true rfl⟩) rfl rfl rfl rfl (wRD E a0 r8.2 ++ wHS E a1 r5) rfl rfl (fun H locs hP hD hS => ?_)
        refine lv_if_ne (tgt := 48) hx hb dX7_readHead_43 rfl (fun c9 => ?_) (fun c9 => ?_)
        · have hf := it_f hf c9
          refine lv_aload_n hx hb dX7_readHead_48 rfl (lv_at hl 1 rfl) ?_
          refine lv_aload_n hx hb dX7_readHead_49 rfl (lv_at hl 0 rfl) ?_
          refine va_get (D := E.1) (ci := 5) (v := .int r8.2.2.2.2) (C := RX7) (T := TX7) (N := 4) hx hb hts w2 hown hC.1 hP 0 rfl rfl 3 (by decide) w1 (fun _ h9 => h9) rfl dX7_readHead_50 ?_
          refine va_put (D := E.1) (ci := 4) (v := .int r8.2.2.2.2) (ty := .int) (C := RX5) (T := TX5) (N := 9) hx hb hts w4 tyX5 tyX5_ok nmX5 hown hC.1 hP hD hS 3 rfl rfl 0 (by decide) w3 (fun _ h9 => h9) rfl (by decide +kernel) rfl rfl (Nat.le_of_ble_eq_true rfl) dX7_readHead_53 (fun H locs hP hD hS => ?_)
          have hP : va_P E.1 vwCl (wRD E a0 r8.2 ++ wHS E a1 (r8.2.2.2.2, r5.2.1, r5.2.2.1, r5.2.2.2.1, r5.2.2.2.2.1, r5.2.2.2.2.2.1, r5.2.2.2.2.2.2.1, r5.2.2.2.2.2.2.2.1, r5.2.2.2.2.2.2.2.2)) H := hP
          have hD : va_D A (wRD E a0 r8.2 ++ wHS E a1 (r8.2.2.2.2, r5.2.1, r5.2.2.1, r5.2.2.2.1, r5.2.2.2.2.1, r5.2.2.2.2.2.1, r5.2.2.2.2.2.2.1, r5.2.2.2.2.2.2.2.1, r5.2.2.2.2.2.2.2.2)) := hD
          refine lv_aload_n hx hb dX7_readHead_56 rfl (lv_at hl 0 rfl) ?_
          refine lv_bipush (v := 44) hx hb dX7_readHead_57 rfl ?_
          obtain ⟨r10, e10, hf⟩ := bd_some hf
          refine cq_i hP hD hS [0, 1, 2] [3, 4, 5, 6, 7, 8, 9, 10, 11, 12, 13, 14, 15, 16, 17, 18, 19, 20, 21] [19, 20, 21, 0, 1, 2, 3, 4, 5, 6, 7, 8, 9, 10, 11, 12, 13, 14, 15, 16, 17, 18] (va_free (wc := (wRD E a0 r8.2)) hD hS hA [0, 1, 2] rfl) (va_runV (As := [.int (44 : Int32)]) (rest := []) ⟨hx, hb, hml, hown, hts⟩ (c_X7_sign l E H.size a0 r8.2 (44 : Int32) r10 e10) (cwV 1 hts gX7_readHead_X7_sign rfl rfl rfl hdV_X7_sign ⟨Nat.le_of_ble_eq_true rfl, Nat.le_of_ble_eq_true rfl⟩) ⟨PW.blind, va_recv hC.1 hP (ci := 5) (q0 := 0) rfl rfl, PW.pre hC hS (hP.sub [0, 1, 2] rfl) (hD.sub [0, 1, 2] rfl rfl) (va_free hD hS hA [0, 1, 2] rfl)⟩ rfl rfl hl.1 rfl (lv_room (Nat.le_of_ble_eq_true rfl)) dX7_readHead_59 ⟨Nat.le_of_ble_eq_true rfl, Nat.le_of_ble_eq_true rfl⟩) rfl rfl rfl rfl (wRD E a0 r10.2 ++ wHS E a1 (r8.2.2.2.2, r5.2.1, r5.2.2.1, r5.2.2.2.1, r5.2.2.2.2.1, r5.2.2.2.2.2.1, r5.2.2.2.2.2.2.1, r5.2.2.2.2.2.2.2.1, r5.2.2.2.2.2.2.2.2)) rfl rfl (fun H locs hP hD hS => ?_)
          refine lv_if_eq (tgt := 75) hx hb dX7_readHead_62 rfl (fun c11 => ?_) (fun c11 => ?_)
          · have hf := it_t hf c11
            refine lv_iconst (v := 0) hx hb dX7_readHead_75 rfl ?_
            cases Option.some.inj hf
            subst hQe
            exact ew_z (wf := (fun q : RD × HS => wRD E a0 q.1 ++ wHS E a1 q.2)) hx hb hr hlocks rfl hP hD hS dX7_readHead_76
          · have hf := it_f hf c11
            refine lv_aload_n hx hb dX7_readHead_65 rfl (lv_at hl 0 rfl) ?_
            refine lv_iconst (v := 4) hx hb dX7_readHead_66 rfl ?_
            refine lv_bipush (v := 9) hx hb dX7_readHead_67 rfl ?_
            obtain ⟨r12, e12, hf⟩ := bd_some hf
            refine cq_i hP hD hS [0, 1, 2] [3, 4, 5, 6, 7, 8, 9, 10, 11, 12, 13, 14, 15, 16, 17, 18, 19, 20, 21] [19, 20, 21, 0, 1, 2, 3, 4, 5, 6, 7, 8, 9, 10, 11, 12, 13, 14, 15, 16, 17, 18] (va_free (wc := (wRD E a0 r10.2)) hD hS hA [0, 1, 2] rfl) (va_runV (As := [.int (4 : Int32), .int (9 : Int32)]) (rest := []) ⟨hx, hb, hml, hown, hts⟩ (c_X7_numeral l E H.size a0 r10.2 (4 : Int32) (9 : Int32) r12 e12) (cwV 2 hts gX7_readHead_X7_numeral rfl rfl rfl hdV_X7_numeral ⟨Nat.le_of_ble_eq_true rfl, Nat.le_of_ble_eq_true rfl⟩) ⟨PW.blind, va_recv hC.1 hP (ci := 5) (q0 := 0) rfl rfl, PW.pre hC hS (hP.sub [0, 1, 2] rfl) (hD.sub [0, 1, 2] rfl rfl) (va_free hD hS hA [0, 1, 2] rfl)⟩ rfl rfl hl.1 rfl (lv_room (Nat.le_of_ble_eq_true rfl)) dX7_readHead_69 ⟨Nat.le_of_ble_eq_true rfl, Nat.le_of_ble_eq_true rfl⟩) rfl rfl rfl rfl (wRD E a0 r12.2 ++ wHS E a1 (r8.2.2.2.2, r5.2.1, r5.2.2.1, r5.2.2.2.1, r5.2.2.2.2.1, r5.2.2.2.2.2.1, r5.2.2.2.2.2.2.1, r5.2.2.2.2.2.2.2.1, r5.2.2.2.2.2.2.2.2)) rfl rfl (fun H locs hP hD hS => ?_)
            refine lv_if_ne (tgt := 77) hx hb dX7_readHead_72 rfl (fun c13 => ?_) (fun c13 => ?_)
            · have hf := it_f hf c13
              refine lv_aload_n hx hb dX7_readHead_77 rfl (lv_at hl 1 rfl) ?_
              refine lv_aload_n hx hb dX7_readHead_78 rfl (lv_at hl 0 rfl) ?_
              refine va_get (D := E.1) (ci := 5) (v := .int r12.2.2.2.2) (C := RX7) (T := TX7) (N := 4) hx hb hts w2 hown hC.1 hP 0 rfl rfl 3 (by decide) w1 (fun _ h9 => h9) rfl dX7_readHead_79 ?_
              refine va_put (D := E.1) (ci := 4) (v := .int r12.2.2.2.2) (ty := .int) (C := RX5) (T := TX5) (N := 9) hx hb hts w4 tyX5 tyX5_ok nmX5 hown hC.1 hP hD hS 3 rfl rfl 1 (by decide) w5 (fun _ h9 => h9) rfl (by decide +kernel) rfl rfl (Nat.le_of_ble_eq_true rfl) dX7_readHead_82 (fun H locs hP hD hS => ?_)
              have hP : va_P E.1 vwCl (wRD E a0 r12.2 ++ wHS E a1 (r8.2.2.2.2, r12.2.2.2.2, r5.2.2.1, r5.2.2.2.1, r5.2.2.2.2.1, r5.2.2.2.2.2.1, r5.2.2.2.2.2.2.1, r5.2.2.2.2.2.2.2.1, r5.2.2.2.2.2.2.2.2)) H := hP
              have hD : va_D A (wRD E a0 r12.2 ++ wHS E a1 (r8.2.2.2.2, r12.2.2.2.2, r5.2.2.1, r5.2.2.2.1, r5.2.2.2.2.1, r5.2.2.2.2.2.1, r5.2.2.2.2.2.2.1, r5.2.2.2.2.2.2.2.1, r5.2.2.2.2.2.2.2.2)) := hD
              refine lv_aload_n hx hb dX7_readHead_85 rfl (lv_at hl 0 rfl) ?_
              refine lv_bipush (v := 44) hx hb dX7_readHead_86 rfl ?_
              obtain ⟨r14, e14, hf⟩ := bd_some hf
              refine cq_i hP hD hS [0, 1, 2] [3, 4, 5, 6, 7, 8, 9, 10, 11, 12, 13, 14, 15, 16, 17, 18, 19, 20, 21] [19, 20, 21, 0, 1, 2, 3, 4, 5, 6, 7, 8, 9, 10, 11, 12, 13, 14, 15, 16, 17, 18] (va_free (wc := (wRD E a0 r12.2)) hD hS hA [0, 1, 2] rfl) (va_runV (As := [.int (44 : Int32)]) (rest := []) ⟨hx, hb, hml, hown, hts⟩ (c_X7_sign l E H.size a0 r12.2 (44 : Int32) r14 e14) (cwV 1 hts gX7_readHead_X7_sign rfl rfl rfl hdV_X7_sign ⟨Nat.le_of_ble_eq_true rfl, Nat.le_of_ble_eq_true rfl⟩) ⟨PW.blind, va_recv hC.1 hP (ci := 5) (q0 := 0) rfl rfl, PW.pre hC hS (hP.sub [0, 1, 2] rfl) (hD.sub [0, 1, 2] rfl rfl) (va_free hD hS hA [0, 1, 2] rfl)⟩ rfl rfl hl.1 rfl (lv_room (Nat.le_of_ble_eq_true rfl)) dX7_readHead_88 ⟨Nat.le_of_ble_eq_true rfl, Nat.le_of_ble_eq_true rfl⟩) rfl rfl rfl rfl (wRD E a0 r14.2 ++ wHS E a1 (r8.2.2.2.2, r12.2.2.2.2, r5.2.2.1, r5.2.2.2.1, r5.2.2.2.2.1, r5.2.2.2.2.2.1, r5.2.2.2.2.2.2.1, r5.2.2.2.2.2.2.2.1, r5.2.2.2.2.2.2.2.2)) rfl rfl (fun H locs hP hD hS => ?_)
              refine lv_if_eq (tgt := 104) hx hb dX7_readHead_91 rfl (fun c15 => ?_) (fun c15 => ?_)
              · have hf := it_t hf c15
                refine lv_iconst (v := 0) hx hb dX7_readHead_104 rfl ?_
                cases Option.some.inj hf
                subst hQe
                exact ew_z (wf := (fun q : RD × HS => wRD E a0 q.1 ++ wHS E a1 q.2)) hx hb hr hlocks rfl hP hD hS dX7_readHead_105
              · have hf := it_f hf c15
                refine lv_aload_n hx hb dX7_readHead_94 rfl (lv_at hl 0 rfl) ?_
                refine lv_iconst (v := 1) hx hb dX7_readHead_95 rfl ?_
                refine lv_bipush (v := 20) hx hb dX7_readHead_96 rfl ?_
                obtain ⟨r16, e16, hf⟩ := bd_some hf
                refine cq_i hP hD hS [0, 1, 2] [3, 4, 5, 6, 7, 8, 9, 10, 11, 12, 13, 14, 15, 16, 17, 18, 19, 20, 21] [19, 20, 21, 0, 1, 2, 3, 4, 5, 6, 7, 8, 9, 10, 11, 12, 13, 14, 15, 16, 17, 18] (va_free (wc := (wRD E a0 r14.2)) hD hS hA [0, 1, 2] rfl) (va_runV (As := [.int (1 : Int32), .int (20 : Int32)]) (rest := []) ⟨hx, hb, hml, hown, hts⟩ (c_X7_numeral l E H.size a0 r14.2 (1 : Int32) (20 : Int32) r16 e16) (cwV 2 hts gX7_readHead_X7_numeral rfl rfl rfl hdV_X7_numeral ⟨Nat.le_of_ble_eq_true rfl, Nat.le_of_ble_eq_true rfl⟩) ⟨PW.blind, va_recv hC.1 hP (ci := 5) (q0 := 0) rfl rfl, PW.pre hC hS (hP.sub [0, 1, 2] rfl) (hD.sub [0, 1, 2] rfl rfl) (va_free hD hS hA [0, 1, 2] rfl)⟩ rfl rfl hl.1 rfl (lv_room (Nat.le_of_ble_eq_true rfl)) dX7_readHead_98 ⟨Nat.le_of_ble_eq_true rfl, Nat.le_of_ble_eq_true rfl⟩) rfl rfl rfl rfl (wRD E a0 r16.2 ++ wHS E a1 (r8.2.2.2.2, r12.2.2.2.2, r5.2.2.1, r5.2.2.2.1, r5.2.2.2.2.1, r5.2.2.2.2.2.1, r5.2.2.2.2.2.2.1, r5.2.2.2.2.2.2.2.1, r5.2.2.2.2.2.2.2.2)) rfl rfl (fun H locs hP hD hS => ?_)
                refine lv_if_ne (tgt := 106) hx hb dX7_readHead_101 rfl (fun c17 => ?_) (fun c17 => ?_)
                · have hf := it_f hf c17
                  refine lv_aload_n hx hb dX7_readHead_106 rfl (lv_at hl 1 rfl) ?_
                  refine lv_aload_n hx hb dX7_readHead_107 rfl (lv_at hl 0 rfl) ?_
                  refine va_get (D := E.1) (ci := 5) (v := .int r16.2.2.2.2) (C := RX7) (T := TX7) (N := 4) hx hb hts w2 hown hC.1 hP 0 rfl rfl 3 (by decide) w1 (fun _ h9 => h9) rfl dX7_readHead_108 ?_
                  refine va_put (D := E.1) (ci := 4) (v := .int r16.2.2.2.2) (ty := .int) (C := RX5) (T := TX5) (N := 9) hx hb hts w4 tyX5 tyX5_ok nmX5 hown hC.1 hP hD hS 3 rfl rfl 2 (by decide) w6 (fun _ h9 => h9) rfl (by decide +kernel) rfl rfl (Nat.le_of_ble_eq_true rfl) dX7_readHead_111 (fun H locs hP hD hS => ?_)
                  have hP : va_P E.1 vwCl (wRD E a0 r16.2 ++ wHS E a1 (r8.2.2.2.2, r12.2.2.2.2, r16.2.2.2.2, r5.2.2.2.1, r5.2.2.2.2.1, r5.2.2.2.2.2.1, r5.2.2.2.2.2.2.1, r5.2.2.2.2.2.2.2.1, r5.2.2.2.2.2.2.2.2)) H := hP
                  have hD : va_D A (wRD E a0 r16.2 ++ wHS E a1 (r8.2.2.2.2, r12.2.2.2.2, r16.2.2.2.2, r5.2.2.2.1, r5.2.2.2.2.1, r5.2.2.2.2.2.1, r5.2.2.2.2.2.2.1, r5.2.2.2.2.2.2.2.1, r5.2.2.2.2.2.2.2.2)) := hD
                  refine lv_aload_n hx hb dX7_readHead_114 rfl (lv_at hl 0 rfl) ?_
                  refine lv_bipush (v := 44) hx hb dX7_readHead_115 rfl ?_
                  obtain ⟨r18, e18, hf⟩ := bd_some hf
                  refine cq_i hP hD hS [0, 1, 2] [3, 4, 5, 6, 7, 8, 9, 10, 11, 12, 13, 14, 15, 16, 17, 18, 19, 20, 21] [19, 20, 21, 0, 1, 2, 3, 4, 5, 6, 7, 8, 9, 10, 11, 12, 13, 14, 15, 16, 17, 18] (va_free (wc := (wRD E a0 r16.2)) hD hS hA [0, 1, 2] rfl) (va_runV (As := [.int (44 : Int32)]) (rest := []) ⟨hx, hb, hml, hown, hts⟩ (c_X7_sign l E H.size a0 r16.2 (44 : Int32) r18 e18) (cwV 1 hts gX7_readHead_X7_sign rfl rfl rfl hdV_X7_sign ⟨Nat.le_of_ble_eq_true rfl, Nat.le_of_ble_eq_true rfl⟩) ⟨PW.blind, va_recv hC.1 hP (ci := 5) (q0 := 0) rfl rfl, PW.pre hC hS (hP.sub [0, 1, 2] rfl) (hD.sub [0, 1, 2] rfl rfl) (va_free hD hS hA [0, 1, 2] rfl)⟩ rfl rfl hl.1 rfl (lv_room (Nat.le_of_ble_eq_true rfl)) dX7_readHead_117 ⟨Nat.le_of_ble_eq_true rfl, Nat.le_of_ble_eq_true rfl⟩) rfl rfl rfl rfl (wRD E a0 r18.2 ++ wHS E a1 (r8.2.2.2.2, r12.2.2.2.2, r16.2.2.2.2, r5.2.2.2.1, r5.2.2.2.2.1, r5.2.2.2.2.2.1, r5.2.2.2.2.2.2.1, r5.2.2.2.2.2.2.2.1, r5.2.2.2.2.2.2.2.2)) rfl rfl (fun H locs hP hD hS => ?_)
                  refine lv_if_eq (tgt := 133) hx hb dX7_readHead_120 rfl (fun c19 => ?_) (fun c19 => ?_)
                  · have hf := it_t hf c19
                    refine lv_iconst (v := 0) hx hb dX7_readHead_133 rfl ?_
                    cases Option.some.inj hf
                    subst hQe
                    exact ew_z (wf := (fun q : RD × HS => wRD E a0 q.1 ++ wHS E a1 q.2)) hx hb hr hlocks rfl hP hD hS dX7_readHead_134
                  · have hf := it_f hf c19
                    refine lv_aload_n hx hb dX7_readHead_123 rfl (lv_at hl 0 rfl) ?_
                    refine lv_iconst (v := 0) hx hb dX7_readHead_124 rfl ?_
                    refine lv_bipush (v := 20) hx hb dX7_readHead_125 rfl ?_
                    obtain ⟨r20, e20, hf⟩ := bd_some hf
                    refine cq_i hP hD hS [0, 1, 2] [3, 4, 5, 6, 7, 8, 9, 10, 11, 12, 13, 14, 15, 16, 17, 18, 19, 20, 21] [19, 20, 21, 0, 1, 2, 3, 4, 5, 6, 7, 8, 9, 10, 11, 12, 13, 14, 15, 16, 17, 18] (va_free (wc := (wRD E a0 r18.2)) hD hS hA [0, 1, 2] rfl) (va_runV (As := [.int (0 : Int32), .int (20 : Int32)]) (rest := []) ⟨hx, hb, hml, hown, hts⟩ (c_X7_numeral l E H.size a0 r18.2 (0 : Int32) (20 : Int32) r20 e20) (cwV 2 hts gX7_readHead_X7_numeral rfl rfl rfl hdV_X7_numeral ⟨Nat.le_of_ble_eq_true rfl, Nat.le_of_ble_eq_true rfl⟩) ⟨PW.blind, va_recv hC.1 hP (ci := 5) (q0 := 0) rfl rfl, PW.pre hC hS (hP.sub [0, 1, 2] rfl) (hD.sub [0, 1, 2] rfl rfl) (va_free hD hS hA [0, 1, 2] rfl)⟩ rfl rfl hl.1 rfl (lv_room (Nat.le_of_ble_eq_true rfl)) dX7_readHead_127 ⟨Nat.le_of_ble_eq_true rfl, Nat.le_of_ble_eq_true rfl⟩) rfl rfl rfl rfl (wRD E a0 r20.2 ++ wHS E a1 (r8.2.2.2.2, r12.2.2.2.2, r16.2.2.2.2, r5.2.2.2.1, r5.2.2.2.2.1, r5.2.2.2.2.2.1, r5.2.2.2.2.2.2.1, r5.2.2.2.2.2.2.2.1, r5.2.2.2.2.2.2.2.2)) rfl rfl (fun H locs hP hD hS => ?_)
                    refine lv_if_ne (tgt := 135) hx hb dX7_readHead_130 rfl (fun c21 => ?_) (fun c21 => ?_)
                    · have hf := it_f hf c21
                      refine lv_aload_n hx hb dX7_readHead_135 rfl (lv_at hl 1 rfl) ?_
                      refine lv_aload_n hx hb dX7_readHead_136 rfl (lv_at hl 0 rfl) ?_
                      refine va_get (D := E.1) (ci := 5) (v := .int r20.2.2.2.2) (C := RX7) (T := TX7) (N := 4) hx hb hts w2 hown hC.1 hP 0 rfl rfl 3 (by decide) w1 (fun _ h9 => h9) rfl dX7_readHead_137 ?_
                      refine va_put (D := E.1) (ci := 4) (v := .int r20.2.2.2.2) (ty := .int) (C := RX5) (T := TX5) (N := 9) hx hb hts w4 tyX5 tyX5_ok nmX5 hown hC.1 hP hD hS 3 rfl rfl 3 (by decide) w7 (fun _ h9 => h9) rfl (by decide +kernel) rfl rfl (Nat.le_of_ble_eq_true rfl) dX7_readHead_140 (fun H locs hP hD hS => ?_)
                      have hP : va_P E.1 vwCl (wRD E a0 r20.2 ++ wHS E a1 (r8.2.2.2.2, r12.2.2.2.2, r16.2.2.2.2, r20.2.2.2.2, r5.2.2.2.2.1, r5.2.2.2.2.2.1, r5.2.2.2.2.2.2.1, r5.2.2.2.2.2.2.2.1, r5.2.2.2.2.2.2.2.2)) H := hP
                      have hD : va_D A (wRD E a0 r20.2 ++ wHS E a1 (r8.2.2.2.2, r12.2.2.2.2, r16.2.2.2.2, r20.2.2.2.2, r5.2.2.2.2.1, r5.2.2.2.2.2.1, r5.2.2.2.2.2.2.1, r5.2.2.2.2.2.2.2.1, r5.2.2.2.2.2.2.2.2)) := hD
                      refine lv_aload_n hx hb dX7_readHead_143 rfl (lv_at hl 0 rfl) ?_
                      refine lv_bipush (v := 59) hx hb dX7_readHead_144 rfl ?_
                      obtain ⟨r22, e22, hf⟩ := bd_some hf
                      refine cq_i hP hD hS [0, 1, 2] [3, 4, 5, 6, 7, 8, 9, 10, 11, 12, 13, 14, 15, 16, 17, 18, 19, 20, 21] [19, 20, 21, 0, 1, 2, 3, 4, 5, 6, 7, 8, 9, 10, 11, 12, 13, 14, 15, 16, 17, 18] (va_free (wc := (wRD E a0 r20.2)) hD hS hA [0, 1, 2] rfl) (va_runV (As := [.int (59 : Int32)]) (rest := []) ⟨hx, hb, hml, hown, hts⟩ (c_X7_sign l E H.size a0 r20.2 (59 : Int32) r22 e22) (cwV 1 hts gX7_readHead_X7_sign rfl rfl rfl hdV_X7_sign ⟨Nat.le_of_ble_eq_true rfl, Nat.le_of_ble_eq_true rfl⟩) ⟨PW.blind, va_recv hC.1 hP (ci := 5) (q0 := 0) rfl rfl, PW.pre hC hS (hP.sub [0, 1, 2] rfl) (hD.sub [0, 1, 2] rfl rfl) (va_free hD hS hA [0, 1, 2] rfl)⟩ rfl rfl hl.1 rfl (lv_room (Nat.le_of_ble_eq_true rfl)) dX7_readHead_146 ⟨Nat.le_of_ble_eq_true rfl, Nat.le_of_ble_eq_true rfl⟩) rfl rfl rfl rfl (wRD E a0 r22.2 ++ wHS E a1 (r8.2.2.2.2, r12.2.2.2.2, r16.2.2.2.2, r20.2.2.2.2, r5.2.2.2.2.1, r5.2.2.2.2.2.1, r5.2.2.2.2.2.2.1, r5.2.2.2.2.2.2.2.1, r5.2.2.2.2.2.2.2.2)) rfl rfl (fun H locs hP hD hS => ?_)
                      cases Option.some.inj hf
                      subst hQe
                      exact ew_z (wf := (fun q : RD × HS => wRD E a0 q.1 ++ wHS E a1 q.2)) hx hb hr hlocks rfl hP hD hS dX7_readHead_149
                    · have hf := it_t hf c21
                      refine lv_iconst (v := 0) hx hb dX7_readHead_133 rfl ?_
                      cases Option.some.inj hf
                      subst hQe
                      exact ew_z (wf := (fun q : RD × HS => wRD E a0 q.1 ++ wHS E a1 q.2)) hx hb hr hlocks rfl hP hD hS dX7_readHead_134
                · have hf := it_t hf c17
                  refine lv_iconst (v := 0) hx hb dX7_readHead_104 rfl ?_
                  cases Option.some.inj hf
                  subst hQe
                  exact ew_z (wf := (fun q : RD × HS => wRD E a0 q.1 ++ wHS E a1 q.2)) hx hb hr hlocks rfl hP hD hS dX7_readHead_105
            · have hf := it_t hf c13
              refine lv_iconst (v := 0) hx hb dX7_readHead_75 rfl ?_
              cases Option.some.inj hf
              subst hQe
              exact ew_z (wf := (fun q : RD × HS => wRD E a0 q.1 ++ wHS E a1 q.2)) hx hb hr hlocks rfl hP hD hS dX7_readHead_76
        · have hf := it_t hf c9
          refine lv_iconst (v := 0) hx hb dX7_readHead_46 rfl ?_
          cases Option.some.inj hf
          subst hQe
          exact ew_z (wf := (fun q : RD × HS => wRD E a0 q.1 ++ wHS E a1 q.2)) hx hb hr hlocks rfl hP hD hS dX7_readHead_47
    · have hf := it_t hf c4
      refine lv_iconst (v := 0) hx hb dX7_readHead_18 rfl ?_
      cases Option.some.inj hf
      subst hQe
      exact ew_z (wf := (fun q : RD × HS => wRD E a0 q.1 ++ wHS E a1 q.2)) hx hb hr hlocks rfl hP hD hS dX7_readHead_19

/-! X7_readServers -/
abbrev rmX7_readServers : Room := { frames := 2, cells := 0, slots := 0, locals := 46 }
theorem hdS_X7_readServers : yX7_readServers.cls ≠ "java/lang/invoke/MethodHandle" ∧ yX7_readServers.cls ≠ "java/lang/invoke/VarHandle" ∧ (parseMethodDescriptor yX7_readServers.desc).map (fun d => d.parameters.length) = some 1 := by decide +kernel
theorem hdV_X7_readServers : yX7_readServers.cls = RX7 ∧ yX7_readServers.cls ≠ "java/lang/invoke/MethodHandle" ∧ yX7_readServers.cls ≠ "java/lang/invoke/VarHandle" ∧ (parseMethodDescriptor yX7_readServers.desc).map (fun d => d.parameters.length) = some 1 := ⟨rfl, hdS_X7_readServers⟩
set_option maxHeartbeats 4000000 in
set_option maxRecDepth 100000 in
theorem c_X7_readServers (l : Launch) (E : G0) (sz : Nat) (a0 : Nat → Nat) (v0 : RD) (a1 : Nat → Nat) (v1 : HS) (x : Bool × RD × HS) (hf : f_X7_readServers v0 v1 = some x) : Met l yX7_readServers wsX7_readServers rmX7_readServers (va_Pc [.ref (a0 0), .ref (a1 0)] (PW E (wRD E a0 v0 ++ wHS E a1 v1) sz)) (va_Qi (fun r q => r = bI x.1 ∧ q = x.2) (fun q t => va_P E.1 vwCl ((fun q : RD × HS => wRD E a0 q.1 ++ wHS E a1 q.2) q) t.heap ∧ va_D (va_A (wRD E a0 v0 ++ wHS E a1 v1) sz) ((fun q : RD × HS => wRD E a0 q.1 ++ wHS E a1 q.2) q)) (va_A (wRD E a0 v0 ++ wHS E a1 v1) sz)) 0 0 (va_A (wRD E a0 v0 ++ wHS E a1 v1) sz) := by
  refine Met.ofW (cc := cX7_readServers) (maxL := 3) (ret := some .boolean) (by decide) rfl ?_
  intro p e s m args below meth c s₁ B hml hv
  obtain ⟨ha, hsz, hP, hD0, hC⟩ := hv
  have hx := B.exec
  have hb := B.bytes
  have hr := B.returns
  have hts := atoms_spec (ws := wsX7_readServers) B.pre
  have hown : s.vm.findClass RX7 = some m.cls := findClass_of_methodNamed B.named
  have hlocks := B.notSynchronized
  subst hsz
  have hD := hD0.self (sz := s.heap.size)
  generalize hAe : va_A (wRD E a0 v0 ++ wHS E a1 v1) s.heap.size = A at hD hC ⊢
  have hA : ∀ q : Nat, s.heap.size ≤ q → A q := fun q h => by rw [← hAe]; exact Or.inr h
  have hS : va_S A s.heap s.heap [] := va_S.rf
  have w1 : (Cond.fieldLink RX7 12 "GreatChunks$Reader" "tape" "LGreatChunks$Tape;").before args s = true := hts _ (List.mem_of_getElem? (i := 1) rfl)
  have w2 : ∀ w ∈ wsX70, w ∈ wsX7_readServers := in_pl 36 rfl
  have w3 : (Cond.fieldLink RX7 18 "GreatChunks$Reader" "place" "I").before args s = true := hts _ (List.mem_of_getElem? (i := 2) rfl)
  have w4 : (Cond.fieldLink RX7 74 "GreatChunks$House" "servers" "LGreatChunks$Servers;").before args s = true := hts _ (List.mem_of_getElem? (i := 3) rfl)
  have w5 : ∀ w ∈ wsX50, w ∈ wsX7_readServers := in_pl 40 rfl
  have w6 : (Cond.fieldLink RX7 83 "GreatChunks$Servers" "room" "[I").before args s = true := hts _ (List.mem_of_getElem? (i := 4) rfl)
  have w7 : ∀ w ∈ wsX80, w ∈ wsX7_readServers := in_pl 49 rfl
  have w8 : (Cond.fieldLink RX7 25 "GreatChunks$Reader" "number" "I").before args s = true := hts _ (List.mem_of_getElem? (i := 5) rfl)
  generalize hQe : MQ below (va_Qi (fun r q => r = bI x.1 ∧ q = x.2) (fun q t => va_P E.1 vwCl ((fun q : RD × HS => wRD E a0 q.1 ++ wHS E a1 q.2) q) t.heap ∧ va_D A ((fun q : RD × HS => wRD E a0 q.1 ++ wHS E a1 q.2) q)) A) args s 0 0 A = Q
  refine st_W ha (Nat.le_of_ble_eq_true rfl) (fun ls hl => ?_)
  have hl : lv_has ls 3 [(0, .ref (a0 0)), (1, .ref (a1 0))] := hl
  unfold f_X7_readServers at hf
  refine lv_iconst (v := 0) hx hb dX7_readServers_0 rfl ?_
  refine lv_istore_n (lv' := [(2, .int (0 : Int32)), (0, .ref (a0 0)), (1, .ref (a1 0))]) hx hb dX7_readServers_1 rfl hl (by decide) rfl (fun ls hl => ?_)
  obtain ⟨K1, hK1, hf⟩ := jn_some hf
  have J1 : ∀ (q1 : Int32 × RD × HS) (H : Heap) (locs : List Loc) (hP : va_P E.1 vwCl (wRD E a0 q1.2.1 ++ wHS E a1 q1.2.2) H) (hD : va_D A (wRD E a0 q1.2.1 ++ wHS E a1 q1.2.2)) (hS : va_S A s.heap H locs) (ls : Array Slot) (hl : lv_has ls 3 []) (hf : K1 q1 = some x), W p l e (headSpec wsX7_readServers rmX7_readServers).room s m args below meth c H locs 0 0 Q (F0 m 89 ls []) := by
    intro q1 H locs hP hD hS ls hl hf
    have hf := (hK1 q1).trans hf
    refine lv_iconst (v := 1) hx hb dX7_readServers_89 rfl ?_
    cases Option.some.inj hf
    subst hQe
    exact ew_z (wf := (fun q : RD × HS => wRD E a0 q.1 ++ wHS E a1 q.2)) hx hb hr hlocks rfl hP hD hS dX7_readServers_90
  have L1 : ∀ (n : Nat) (q1 : Int32 × RD × HS) (H : Heap) (locs : List Loc) (hP : va_P E.1 vwCl (wRD E a0 q1.2.1 ++ wHS E a1 q1.2.2) H) (hD : va_D A (wRD E a0 q1.2.1 ++ wHS E a1 q1.2.2)) (hS : va_S A s.heap H locs) (ls : Array Slot) (hl : lv_has ls 3 [(0, .ref (a0 0)), (1, .ref (a1 0)), (2, .int q1.1)]) (hf : lpF (bX7_readServers_1 K1) n q1 = some x), W p l e (headSpec wsX7_readServers rmX7_readServers).room s m args below meth c H locs 0 0 Q (F0 m 2 ls []) := by
    intro n
    induction n with
    | zero => intro q1 H locs hP hD hS ls hl hf; exact (lpF_zero hf).elim
    | succ n ih1 =>
      intro q1 H locs hP hD hS ls hl hf
      have hf := lpF_succ hf
      unfold bX7_readServers_1 at hf
      refine lv_iload_n hx hb dX7_readServers_2 rfl (lv_at hl 2 rfl) ?_
      refine lv_iconst (v := 5) hx hb dX7_readServers_3 rfl ?_
      refine lv_icmp_gt (tgt := 89) hx hb dX7_readServers_4 rfl (fun c2 => ?_) (fun c2 => ?_)
      · have hf := it_t hf c2
        exact J1 (q1.1, q1.2.1, q1.2.2) H locs hP hD hS ls (lv_sub hl [] rfl) hf
      · have hf := it_f hf c2
        refine lv_aload_n hx hb dX7_readServers_7 rfl (lv_at hl 0 rfl) ?_
        refine va_get (D := E.1) (ci := 5) (v := .ref (a0 1)) (C := RX7) (T := TX7) (N := 4) hx hb hts w2 hown hC.1 hP 0 rfl rfl 0 (by decide) w1 (fun _ h9 => h9) rfl dX7_readServers_8 ?_
        refine lv_aload_n hx hb dX7_readServers_11 rfl (lv_at hl 0 rfl) ?_
        refine va_get (D := E.1) (ci := 5) (v := .int q1.2.1.2.1) (C := RX7) (T := TX7) (N := 4) hx hb hts w2 hown hC.1 hP 0 rfl rfl 1 (by decide) w3 (fun _ h9 => h9) rfl dX7_readServers_12 ?_
        obtain ⟨r3, e3, hf⟩ := bd_some hf
        refine cr_i (va_runV (As := [.int q1.2.1.2.1]) (rest := []) ⟨hx, hb, hml, hown, hts⟩ (c_X9_at l E (fun k => a0 (k + 1)) q1.2.1.1 q1.2.1.2.1 r3 e3) (cwV 1 hts gX7_readServers_X9_at rfl rfl rfl hdV_X9_at ⟨Nat.le_of_ble_eq_true rfl, Nat.le_of_ble_eq_true rfl⟩) ⟨PR.blind, va_recv hC.1 hP (ci := 7) (q0 := 1) rfl rfl, PR.pre hC hS (hP.sub [1, 2] rfl)⟩ rfl rfl hl.1 rfl (lv_room (Nat.le_of_ble_eq_true rfl)) dX7_readServers_15 ⟨Nat.le_of_ble_eq_true rfl, Nat.le_of_ble_eq_true rfl⟩) ?_
        refine lv_bipush (v := 115) hx hb dX7_readServers_18 rfl ?_
        refine lv_icmp_ne (tgt := 89) hx hb dX7_readServers_20 rfl (fun c4 => ?_) (fun c4 => ?_)
        · have hf := it_f hf c4
          exact J1 (q1.1, q1.2.1, q1.2.2) H locs hP hD hS ls (lv_sub hl [] rfl) hf
        · have hf := it_t hf c4
          refine lv_aload_n hx hb dX7_readServers_23 rfl (lv_at hl 1 rfl) ?_
          refine va_get (D := E.1) (ci := 4) (v := .ref (a1 1)) (C := RX5) (T := TX5) (N := 9) hx hb hts w5 hown hC.1 hP 3 rfl rfl 5 (by decide) w4 (fun _ h9 => h9) rfl dX7_readServers_24 ?_
          refine lv_iload_n hx hb dX7_readServers_27 rfl (lv_at hl 2 rfl) ?_
          refine cr_i (va_runV (As := [.int q1.1]) (rest := []) ⟨hx, hb, hml, hown, hts⟩ (c_X8_has l E (fun k => a1 (k + 1)) q1.2.2.2.2.2.2.2.1 q1.1 _ rfl) (cwV 1 hts gX7_readServers_X8_has rfl rfl rfl hdV_X8_has ⟨Nat.le_of_ble_eq_true rfl, Nat.le_of_ble_eq_true rfl⟩) ⟨PR.blind, va_recv hC.1 hP (ci := 6) (q0 := 4) rfl rfl, PR.pre hC hS (hP.sub [4, 5, 6] rfl)⟩ rfl rfl hl.1 rfl (lv_room (Nat.le_of_ble_eq_true rfl)) dX7_readServers_28 ⟨Nat.le_of_ble_eq_true rfl, Nat.le_of_ble_eq_true rfl⟩) ?_
          refine lv_if_ne (tgt := 40) hx hb dX7_readServers_31 rfl (fun c5 => ?_) (fun c5 => ?_)
          · have hf := it_f hf c5
            refine lv_aload_n hx hb dX7_readServers_40 rfl (lv_at hl 0 rfl) ?_
            refine lv_bipush (v := 115) hx hb dX7_readServers_41 rfl ?_
            obtain ⟨r6, e6, hf⟩ := bd_some hf
            refine cq_i hP hD hS [0, 1, 2] [3, 4, 5, 6, 7, 8, 9, 10, 11, 12, 13, 14, 15, 16, 17, 18, 19, 20, 21] [19, 20, 21, 0, 1, 2, 3, 4, 5, 6, 7, 8, 9, 10, 11, 12, 13, 14, 15, 16, 17, 18] (va_free (wc := (wRD E a0 q1.2.1)) hD hS hA [0, 1, 2] rfl) (va_runV (As := [.int (115 : Int32)]) (rest := []) ⟨hx, hb, hml, hown, hts⟩ (c_X7_sign l E H.size a0 q1.2.1 (115 : Int32) r6 e6) (cwV 1 hts gX7_readServers_X7_sign rfl rfl rfl hdV_X7_sign ⟨Nat.le_of_ble_eq_true rfl, Nat.le_of_ble_eq_true rfl⟩) ⟨PW.blind, va_recv hC.1 hP (ci := 5) (q0 := 0) rfl rfl, PW.pre hC hS (hP.sub [0, 1, 2] rfl) (hD.sub [0, 1, 2] rfl rfl) (va_free hD hS hA [0, 1, 2] rfl)⟩ rfl rfl hl.1 rfl (lv_room (Nat.le_of_ble_eq_true rfl)) dX7_readServers_43 ⟨Nat.le_of_ble_eq_true rfl, Nat.le_of_ble_eq_true rfl⟩) rfl rfl rfl rfl (wRD E a0 r6.2 ++ wHS E a1 q1.2.2) rfl rfl (fun H locs hP hD hS => ?_)
            refine lv_if_eq (tgt := 68) hx hb dX7_readServers_46 rfl (fun c7 => ?_) (fun c7 => ?_)
            · have hf := it_t hf c7
              refine lv_iconst (v := 0) hx hb dX7_readServers_68 rfl ?_
              cases Option.some.inj hf
              subst hQe
              exact ew_z (wf := (fun q : RD × HS => wRD E a0 q.1 ++ wHS E a1 q.2)) hx hb hr hlocks rfl hP hD hS dX7_readServers_69
            · have hf := it_f hf c7
              refine lv_aload_n hx hb dX7_readServers_49 rfl (lv_at hl 0 rfl) ?_
              refine lv_iconst (v := 1) hx hb dX7_readServers_50 rfl ?_
              refine lv_bipush (v := 9) hx hb dX7_readServers_51 rfl ?_
              obtain ⟨r8, e8, hf⟩ := bd_some hf
              refine cq_i hP hD hS [0, 1, 2] [3, 4, 5, 6, 7, 8, 9, 10, 11, 12, 13, 14, 15, 16, 17, 18, 19, 20, 21] [19, 20, 21, 0, 1, 2, 3, 4, 5, 6, 7, 8, 9, 10, 11, 12, 13, 14, 15, 16, 17, 18] (va_free (wc := (wRD E a0 r6.2)) hD hS hA [0, 1, 2] rfl) (va_runV (As := [.int (1 : Int32), .int (9 : Int32)]) (rest := []) ⟨hx, hb, hml, hown, hts⟩ (c_X7_numeral l E H.size a0 r6.2 (1 : Int32) (9 : Int32) r8 e8) (cwV 2 hts gX7_readServers_X7_numeral rfl rfl rfl hdV_X7_numeral ⟨Nat.le_of_ble_eq_true rfl, Nat.le_of_ble_eq_true rfl⟩) ⟨PW.blind, va_recv hC.1 hP (ci := 5) (q0 := 0) rfl rfl, PW.pre hC hS (hP.sub [0, 1, 2] rfl) (hD.sub [0, 1, 2] rfl rfl) (va_free hD hS hA [0, 1, 2] rfl)⟩ rfl rfl hl.1 rfl (lv_room (Nat.le_of_ble_eq_true rfl)) dX7_readServers_53 ⟨Nat.le_of_ble_eq_true rfl, Nat.le_of_ble_eq_true rfl⟩) rfl rfl rfl rfl (wRD E a0 r8.2 ++ wHS E a1 q1.2.2) rfl rfl (fun H locs hP hD hS => ?_)
              refine lv_if_eq (tgt := 68) hx hb dX7_readServers_56 rfl (fun c9 => ?_) (fun c9 => ?_)
              · have hf := it_t hf c9
                refine lv_iconst (v := 0) hx hb dX7_readServers_68 rfl ?_
                cases Option.some.inj hf
                subst hQe
                exact ew_z (wf := (fun q : RD × HS => wRD E a0 q.1 ++ wHS E a1 q.2)) hx hb hr hlocks rfl hP hD hS dX7_readServers_69
              · have hf := it_f hf c9
                refine lv_aload_n hx hb dX7_readServers_59 rfl (lv_at hl 0 rfl) ?_
                refine lv_bipush (v := 59) hx hb dX7_readServers_60 rfl ?_
                obtain ⟨r10, e10, hf⟩ := bd_some hf
                refine cq_i hP hD hS [0, 1, 2] [3, 4, 5, 6, 7, 8, 9, 10, 11, 12, 13, 14, 15, 16, 17, 18, 19, 20, 21] [19, 20, 21, 0, 1, 2, 3, 4, 5, 6, 7, 8, 9, 10, 11, 12, 13, 14, 15, 16, 17, 18] (va_free (wc := (wRD E a0 r8.2)) hD hS hA [0, 1, 2] rfl) (va_runV (As := [.int (59 : Int32)]) (rest := []) ⟨hx, hb, hml, hown, hts⟩ (c_X7_sign l E H.size a0 r8.2 (59 : Int32) r10 e10) (cwV 1 hts gX7_readServers_X7_sign rfl rfl rfl hdV_X7_sign ⟨Nat.le_of_ble_eq_true rfl, Nat.le_of_ble_eq_true rfl⟩) ⟨PW.blind, va_recv hC.1 hP (ci := 5) (q0 := 0) rfl rfl, PW.pre hC hS (hP.sub [0, 1, 2] rfl) (hD.sub [0, 1, 2] rfl rfl) (va_free hD hS hA [0, 1, 2] rfl)⟩ rfl rfl hl.1 rfl (lv_room (Nat.le_of_ble_eq_true rfl)) dX7_readServers_62 ⟨Nat.le_of_ble_eq_true rfl, Nat.le_of_ble_eq_true rfl⟩) rfl rfl rfl rfl (wRD E a0 r10.2 ++ wHS E a1 q1.2.2) rfl rfl (fun H locs hP hD hS => ?_)
                refine lv_if_ne (tgt := 70) hx hb dX7_readServers_65 rfl (fun c11 => ?_) (fun c11 => ?_)
                · have hf := it_f hf c11
                  refine lv_aload_n hx hb dX7_readServers_70 rfl (lv_at hl 1 rfl) ?_
                  refine va_get (D := E.1) (ci := 4) (v := .ref (a1 1)) (C := RX5) (T := TX5) (N := 9) hx hb hts w5 hown hC.1 hP 3 rfl rfl 5 (by decide) w4 (fun _ h9 => h9) rfl dX7_readServers_71 ?_
                  refine va_get (D := E.1) (ci := 6) (v := .ref (a1 2)) (C := RX8) (T := TX8) (N := 4) hx hb hts w7 hown hC.1 hP 4 rfl rfl 2 (by decide) w6 (fun _ h9 => h9) rfl dX7_readServers_74 ?_
                  refine lv_iload_n hx hb dX7_readServers_77 rfl (lv_at hl 2 rfl) ?_
                  refine lv_aload_n hx hb dX7_readServers_78 rfl (lv_at hl 0 rfl) ?_
                  refine va_get (D := E.1) (ci := 5) (v := .int r10.2.2.2.2) (C := RX7) (T := TX7) (N := 4) hx hb hts w2 hown hC.1 hP 0 rfl rfl 3 (by decide) w8 (fun _ h9 => h9) rfl dX7_readServers_79 ?_
                  obtain ⟨h12, hf⟩ := gdI_some hf
                  refine va_iast hx hb hC.1 hP hD hS 5 0 rfl rfl h12 dX7_readServers_82 (fun H locs hP hD hS => ?_)
                  have hP : va_P E.1 vwCl (wRD E a0 r10.2 ++ wHS E a1 (q1.2.2.1, q1.2.2.2.1, q1.2.2.2.2.1, q1.2.2.2.2.2.1, q1.2.2.2.2.2.2.1, (q1.2.2.2.2.2.2.2.1.1, q1.2.2.2.2.2.2.2.1.2.1, (upd q1.2.2.2.2.2.2.2.1.2.2.1 q1.1.toNatClampNeg r10.2.2.2.2), q1.2.2.2.2.2.2.2.1.2.2.2), q1.2.2.2.2.2.2.2.2.1, q1.2.2.2.2.2.2.2.2.2.1, q1.2.2.2.2.2.2.2.2.2.2)) H := hP
                  have hD : va_D A (wRD E a0 r10.2 ++ wHS E a1 (q1.2.2.1, q1.2.2.2.1, q1.2.2.2.2.1, q1.2.2.2.2.2.1, q1.2.2.2.2.2.2.1, (q1.2.2.2.2.2.2.2.1.1, q1.2.2.2.2.2.2.2.1.2.1, (upd q1.2.2.2.2.2.2.2.1.2.2.1 q1.1.toNatClampNeg r10.2.2.2.2), q1.2.2.2.2.2.2.2.1.2.2.2), q1.2.2.2.2.2.2.2.2.1, q1.2.2.2.2.2.2.2.2.2.1, q1.2.2.2.2.2.2.2.2.2.2)) := hD
                  refine lv_iinc (v := (q1.1 + 1)) (lv' := [(2, .int (q1.1 + 1)), (0, .ref (a0 0)), (1, .ref (a1 0))]) hx hb dX7_readServers_83 hl (k := 2) rfl rfl (by decide) rfl (fun ls hl => ?_)
                  refine lv_goto (tgt := 2) hx hb dX7_readServers_86 rfl ?_
                  exact ih1 ((q1.1 + 1), r10.2, (q1.2.2.1, q1.2.2.2.1, q1.2.2.2.2.1, q1.2.2.2.2.2.1, q1.2.2.2.2.2.2.1, (q1.2.2.2.2.2.2.2.1.1, q1.2.2.2.2.2.2.2.1.2.1, (upd q1.2.2.2.2.2.2.2.1.2.2.1 q1.1.toNatClampNeg r10.2.2.2.2), q1.2.2.2.2.2.2.2.1.2.2.2), q1.2.2.2.2.2.2.2.2.1, q1.2.2.2.2.2.2.2.2.2.1, q1.2.2.2.2.2.2.2.2.2.2)) H locs hP hD hS ls (lv_sub hl [1, 2, 0] rfl) hf
                · have hf := it_t hf c11
                  refine lv_iconst (v := 0) hx hb dX7_readServers_68 rfl ?_
                  cases Option.some.inj hf
                  subst hQe
                  exact ew_z (wf := (fun q : RD × HS => wRD E a0 q.1 ++ wHS E a1 q.2)) hx hb hr hlocks rfl hP hD hS dX7_readServers_69
          · have hf := it_t hf c5
            refine lv_aload_n hx hb dX7_readServers_34 rfl (lv_at hl 0 rfl) ?_
            refine lv_iconst (v := 3) hx hb dX7_readServers_35 rfl ?_
            obtain ⟨r13, e13, hf⟩ := bd_some hf
            refine cq_i hP hD hS [0, 1, 2] [3, 4, 5, 6, 7, 8, 9, 10, 11, 12, 13, 14, 15, 16, 17, 18, 19, 20, 21] [19, 20, 21, 0, 1, 2, 3, 4, 5, 6, 7, 8, 9, 10, 11, 12, 13, 14, 15, 16, 17, 18] (va_free (wc := (wRD E a0 q1.2.1)) hD hS hA [0, 1, 2] rfl) (va_runV (As := [.int (3 : Int32)]) (rest := []) ⟨hx, hb, hml, hown, hts⟩ (c_X7_refuse l E H.size a0 q1.2.1 (3 : Int32) r13 e13) (cwV 1 hts gX7_readServers_X7_refuse rfl rfl rfl hdV_X7_refuse ⟨Nat.le_of_ble_eq_true rfl, Nat.le_of_ble_eq_true rfl⟩) ⟨PW.blind, va_recv hC.1 hP (ci := 5) (q0 := 0) rfl rfl, PW.pre hC hS (hP.sub [0, 1, 2] rfl) (hD.sub [0, 1, 2] rfl rfl) (va_free hD hS hA [0, 1, 2] rfl)⟩ rfl rfl hl.1 rfl (lv_room (Nat.le_of_ble_eq_true rfl)) dX7_readServers_36 ⟨Nat.le_of_ble_eq_true rfl, Nat.le_of_ble_eq_true rfl⟩) rfl rfl rfl rfl (wRD E a0 r13.2 ++ wHS E a1 q1.2.2) rfl rfl (fun H locs hP hD hS => ?_)
            cases Option.some.inj hf
            subst hQe
            exact ew_z (wf := (fun q : RD × HS => wRD E a0 q.1 ++ wHS E a1 q.2)) hx hb hr hlocks rfl hP hD hS dX7_readServers_39
  exact L1 FU ((0 : Int32), v0, v1) s.heap [] hP hD hS ls (lv_sub hl [1, 2, 0] rfl) hf

/-! X7_readFiles -/
abbrev rmX7_readFiles : Room := { frames := 3, cells := 0, slots := 0, locals := 64 }
theorem hdS_X7_readFiles : yX7_readFiles.cls ≠ "java/lang/invoke/MethodHandle" ∧ yX7_readFiles.cls ≠ "java/lang/invoke/VarHandle" ∧ (parseMethodDescriptor yX7_readFiles.desc).map (fun d => d.parameters.length) = some 1 := by decide +kernel
theorem hdV_X7_readFiles : yX7_readFiles.cls = RX7 ∧ yX7_readFiles.cls ≠ "java/lang/invoke/MethodHandle" ∧ yX7_readFiles.cls ≠ "java/lang/invoke/VarHandle" ∧ (parseMethodDescriptor yX7_readFiles.desc).map (fun d => d.parameters.length) = some 1 := ⟨rfl, hdS_X7_readFiles⟩
set_option maxHeartbeats 4000000 in
set_option maxRecDepth 100000 in
theorem c_X7_readFiles (l : Launch) (E : G0) (sz : Nat) (a0 : Nat → Nat) (v0 : RD) (a1 : Nat → Nat) (v1 : HS) (x : Bool × RD × HS) (hf : f_X7_readFiles v0 v1 = some x) : Met l yX7_readFiles wsX7_readFiles rmX7_readFiles (va_Pc [.ref (a0 0), .ref (a1 0)] (PW E (wRD E a0 v0 ++ wHS E a1 v1) sz)) (va_Qi (fun r q => r = bI x.1 ∧ q = x.2) (fun q t => va_P E.1 vwCl ((fun q : RD × HS => wRD E a0 q.1 ++ wHS E a1 q.2) q) t.heap ∧ va_D (va_A (wRD E a0 v0 ++ wHS E a1 v1) sz) ((fun q : RD × HS => wRD E a0 q.1 ++ wHS E a1 q.2) q)) (va_A (wRD E a0 v0 ++ wHS E a1 v1) sz)) 0 0 (va_A (wRD E a0 v0 ++ wHS E a1 v1) sz) := by
  refine Met.ofW (cc := cX7_readFiles) (maxL := 3) (ret := some .boolean) (by decide) rfl ?_
  intro p e s m args below meth c s₁ B hml hv
  obtain ⟨ha, hsz, hP, hD0, hC⟩ := hv
  have hx := B.exec
  have hb := B.bytes
  have hr := B.returns
  have hts := atoms_spec (ws := wsX7_readFiles) B.pre
  have hown : s.vm.findClass RX7 = some m.cls := findClass_of_methodNamed B.named
  have hlocks := B.notSynchronized
  subst hsz
  have hD := hD0.self (sz := s.heap.size)
  generalize hAe : va_A (wRD E a0 v0 ++ wHS E a1 v1) s.heap.size = A at hD hC ⊢
  have hA : ∀ q : Nat, s.heap.size ≤ q → A q := fun q h => by rw [← hAe]; exact Or.inr h
  have hS : va_S A s.heap s.heap [] := va_S.rf
  have w1 : (Cond.fieldLink RX7 12 "GreatChunks$Reader" "tape" "LGreatChunks$Tape;").before args s = true := hts _ (List.mem_of_getElem? (i := 1) rfl)
  have w2 : ∀ w ∈ wsX70, w ∈ wsX7_readFiles := in_pl 40 rfl
  have w3 : (Cond.fieldLink RX7 18 "GreatChunks$Reader" "place" "I").before args s = true := hts _ (List.mem_of_getElem? (i := 2) rfl)
  have w4 : (Cond.initialized RX10).before args s = true := hts _ (List.mem_of_getElem? (i := 13) rfl)
  have w5 : (Cond.static yX10_isFile).before args s = true := hts _ (List.mem_of_getElem? (i := 12) rfl)
  have w6 : (Cond.fieldLink RX7 90 "GreatChunks$House" "files" "LGreatChunks$Files;").before args s = true := hts _ (List.mem_of_getElem? (i := 3) rfl)
  have w7 : ∀ w ∈ wsX50, w ∈ wsX7_readFiles := in_pl 44 rfl
  have w8 : (Cond.fieldLink RX7 25 "GreatChunks$Reader" "number" "I").before args s = true := hts _ (List.mem_of_getElem? (i := 4) rfl)
  generalize hQe : MQ below (va_Qi (fun r q => r = bI x.1 ∧ q = x.2) (fun q t => va_P E.1 vwCl ((fun q : RD × HS => wRD E a0 q.1 ++ wHS E a1 q.2) q) t.heap ∧ va_D A ((fun q : RD × HS => wRD E a0 q.1 ++ wHS E a1 q.2) q)) A) args s 0 0 A = Q
  refine st_W ha (Nat.le_of_ble_eq_true rfl) (fun ls hl => ?_)
  have hl : lv_has ls 3 [(0, .ref (a0 0)), (1, .ref (a1 0))] := hl
  unfold f_X7_readFiles at hf
  refine lv_iconst (v := 0) hx hb dX7_readFiles_0 rfl ?_
  refine lv_istore_n (lv' := [(2, .int (0 : Int32)), (0, .ref (a0 0)), (1, .ref (a1 0))]) hx hb dX7_readFiles_1 rfl hl (by decide) rfl (fun ls hl => ?_)
  obtain ⟨K1, hK1, hf⟩ := jn_some hf
  have J1 : ∀ (q1 : Int32 × RD × HS) (H : Heap) (locs : List Loc) (hP : va_P E.1 vwCl (wRD E a0 q1.2.1 ++ wHS E a1 q1.2.2) H) (hD : va_D A (wRD E a0 q1.2.1 ++ wHS E a1 q1.2.2)) (hS : va_S A s.heap H locs) (ls : Array Slot) (hl : lv_has ls 3 []) (hf : K1 q1 = some x), W p l e (headSpec wsX7_readFiles rmX7_readFiles).room s m args below meth c H locs 0 0 Q (F0 m 84 ls []) := by
    intro q1 H locs hP hD hS ls hl hf
    have hf := (hK1 q1).trans hf
    refine lv_iconst (v := 1) hx hb dX7_readFiles_84 rfl ?_
    cases Option.some.inj hf
    subst hQe
    exact ew_z (wf := (fun q : RD × HS => wRD E a0 q.1 ++ wHS E a1 q.2)) hx hb hr hlocks rfl hP hD hS dX7_readFiles_85
  have L1 : ∀ (n : Nat) (q1 : Int32 × RD × HS) (H : Heap) (locs : List Loc) (hP : va_P E.1 vwCl (wRD E a0 q1.2.1 ++ wHS E a1 q1.2.2) H) (hD : va_D A (wRD E a0 q1.2.1 ++ wHS E a1 q1.2.2)) (hS : va_S A s.heap H locs) (ls : Array Slot) (hl : lv_has ls 3 [(0, .ref (a0 0)), (1, .ref (a1 0)), (2, .int q1.1)]) (hf : lpF (bX7_readFiles_1 K1) n q1 = some x), W p l e (headSpec wsX7_readFiles rmX7_readFiles).room s m args below meth c H locs 0 0 Q (F0 m 2 ls []) := by
    intro n
    induction n with
    | zero => intro q1 H locs hP hD hS ls hl hf; exact (lpF_zero hf).elim
    | succ n ih1 =>
      intro q1 H locs hP hD hS ls hl hf
      have hf := lpF_succ hf
      unfold bX7_readFiles_1 at hf
      refine lv_iload_n hx hb dX7_readFiles_2 rfl (lv_at hl 2 rfl) ?_
      refine lv_bipush (v := 6) hx hb dX7_readFiles_3 rfl ?_
      refine lv_icmp_gt (tgt := 84) hx hb dX7_readFiles_5 rfl (fun c2 => ?_) (fun c2 => ?_)
      · have hf := it_t hf c2
        exact J1 (q1.1, q1.2.1, q1.2.2) H locs hP hD hS ls (lv_sub hl [] rfl) hf
      · have hf := it_f hf c2
        refine lv_aload_n hx hb dX7_readFiles_8 rfl (lv_at hl 0 rfl) ?_
        refine va_get (D := E.1) (ci := 5) (v := .ref (a0 1)) (C := RX7) (T := TX7) (N := 4) hx hb hts w2 hown hC.1 hP 0 rfl rfl 0 (by decide) w1 (fun _ h9 => h9) rfl dX7_readFiles_9 ?_
        refine lv_aload_n hx hb dX7_readFiles_12 rfl (lv_at hl 0 rfl) ?_
        refine va_get (D := E.1) (ci := 5) (v := .int q1.2.1.2.1) (C := RX7) (T := TX7) (N := 4) hx hb hts w2 hown hC.1 hP 0 rfl rfl 1 (by decide) w3 (fun _ h9 => h9) rfl dX7_readFiles_13 ?_
        obtain ⟨r3, e3, hf⟩ := bd_some hf
        refine cr_i (va_runV (As := [.int q1.2.1.2.1]) (rest := []) ⟨hx, hb, hml, hown, hts⟩ (c_X9_at l E (fun k => a0 (k + 1)) q1.2.1.1 q1.2.1.2.1 r3 e3) (cwV 1 hts gX7_readFiles_X9_at rfl rfl rfl hdV_X9_at ⟨Nat.le_of_ble_eq_true rfl, Nat.le_of_ble_eq_true rfl⟩) ⟨PR.blind, va_recv hC.1 hP (ci := 7) (q0 := 1) rfl rfl, PR.pre hC hS (hP.sub [1, 2] rfl)⟩ rfl rfl hl.1 rfl (lv_room (Nat.le_of_ble_eq_true rfl)) dX7_readFiles_16 ⟨Nat.le_of_ble_eq_true rfl, Nat.le_of_ble_eq_true rfl⟩) ?_
        refine lv_bipush (v := 102) hx hb dX7_readFiles_19 rfl ?_
        refine lv_icmp_ne (tgt := 84) hx hb dX7_readFiles_21 rfl (fun c4 => ?_) (fun c4 => ?_)
        · have hf := it_f hf c4
          exact J1 (q1.1, q1.2.1, q1.2.2) H locs hP hD hS ls (lv_sub hl [] rfl) hf
        · have hf := it_t hf c4
          refine lv_iload_n hx hb dX7_readFiles_24 rfl (lv_at hl 2 rfl) ?_
          refine cr_i (va_runSN (As := [.int q1.1]) (rest := []) ⟨hx, hb, hml, hown, hts⟩ (c_X10_isFile l E q1.1 _ rfl) ⟨va_cnB 1 hts gX7_readFiles_X10_isFile_n87 rfl rfl rfl (hC.2.1 (RX7, 87, yX10_isFile, RX10) (List.mem_of_getElem? (i := 8) rfl)) w4 hdS_X10_isFile ⟨Nat.le_of_ble_eq_true rfl, Nat.le_of_ble_eq_true rfl⟩, w5, trivial⟩ ⟨PR.blind, PR.pre hC hS (hP.sub [] rfl)⟩ rfl rfl hl.1 rfl (lv_room (Nat.le_of_ble_eq_true rfl)) dX7_readFiles_25 ⟨Nat.le_of_ble_eq_true rfl, Nat.le_of_ble_eq_true rfl⟩) ?_
          refine lv_if_ne (tgt := 37) hx hb dX7_readFiles_28 rfl (fun c5 => ?_) (fun c5 => ?_)
          · have hf := it_f hf c5
            refine lv_aload_n hx hb dX7_readFiles_37 rfl (lv_at hl 0 rfl) ?_
            refine lv_bipush (v := 102) hx hb dX7_readFiles_38 rfl ?_
            obtain ⟨r6, e6, hf⟩ := bd_some hf
            refine cq_i hP hD hS [0, 1, 2] [3, 4, 5, 6, 7, 8, 9, 10, 11, 12, 13, 14, 15, 16, 17, 18, 19, 20, 21] [19, 20, 21, 0, 1, 2, 3, 4, 5, 6, 7, 8, 9, 10, 11, 12, 13, 14, 15, 16, 17, 18] (va_free (wc := (wRD E a0 q1.2.1)) hD hS hA [0, 1, 2] rfl) (va_runV (As := [.int (102 : Int32)]) (rest := []) ⟨hx, hb, hml, hown, hts⟩ (c_X7_sign l E H.size a0 q1.2.1 (102 : Int32) r6 e6) (cwV 1 hts gX7_readFiles_X7_sign rfl rfl rfl hdV_X7_sign ⟨Nat.le_of_ble_eq_true rfl, Nat.le_of_ble_eq_true rfl⟩) ⟨PW.blind, va_recv hC.1 hP (ci := 5) (q0 := 0) rfl rfl, PW.pre hC hS (hP.sub [0, 1, 2] rfl) (hD.sub [0, 1, 2] rfl rfl) (va_free hD hS hA [0, 1, 2] rfl)⟩ rfl rfl hl.1 rfl (lv_room (Nat.le_of_ble_eq_true rfl)) dX7_readFiles_40 ⟨Nat.le_of_ble_eq_true rfl, Nat.le_of_ble_eq_true rfl⟩) rfl rfl rfl rfl (wRD E a0 r6.2 ++ wHS E a1 q1.2.2) rfl rfl (fun H locs hP hD hS => ?_)
            refine lv_if_eq (tgt := 64) hx hb dX7_readFiles_43 rfl (fun c7 => ?_) (fun c7 => ?_)
            · have hf := it_t hf c7
              refine lv_iconst (v := 0) hx hb dX7_readFiles_64 rfl ?_
              cases Option.some.inj hf
              subst hQe
              exact ew_z (wf := (fun q : RD × HS => wRD E a0 q.1 ++ wHS E a1 q.2)) hx hb hr hlocks rfl hP hD hS dX7_readFiles_65
            · have hf := it_f hf c7
              refine lv_aload_n hx hb dX7_readFiles_46 rfl (lv_at hl 0 rfl) ?_
              refine lv_iconst (v := 1) hx hb dX7_readFiles_47 rfl ?_
              refine lv_iconst (v := 5) hx hb dX7_readFiles_48 rfl ?_
              obtain ⟨r8, e8, hf⟩ := bd_some hf
              refine cq_i hP hD hS [0, 1, 2] [3, 4, 5, 6, 7, 8, 9, 10, 11, 12, 13, 14, 15, 16, 17, 18, 19, 20, 21] [19, 20, 21, 0, 1, 2, 3, 4, 5, 6, 7, 8, 9, 10, 11, 12, 13, 14, 15, 16, 17, 18] (va_free (wc := (wRD E a0 r6.2)) hD hS hA [0, 1, 2] rfl) (va_runV (As := [.int (1 : Int32), .int (5 : Int32)]) (rest := []) ⟨hx, hb, hml, hown, hts⟩ (c_X7_numeral l E H.size a0 r6.2 (1 : Int32) (5 : Int32) r8 e8) (cwV 2 hts gX7_readFiles_X7_numeral rfl rfl rfl hdV_X7_numeral ⟨Nat.le_of_ble_eq_true rfl, Nat.le_of_ble_eq_true rfl⟩) ⟨PW.blind, va_recv hC.1 hP (ci := 5) (q0 := 0) rfl rfl, PW.pre hC hS (hP.sub [0, 1, 2] rfl) (hD.sub [0, 1, 2] rfl rfl) (va_free hD hS hA [0, 1, 2] rfl)⟩ rfl rfl hl.1 rfl (lv_room (Nat.le_of_ble_eq_true rfl)) dX7_readFiles_49 ⟨Nat.le_of_ble_eq_true rfl, Nat.le_of_ble_eq_true rfl⟩) rfl rfl rfl rfl (wRD E a0 r8.2 ++ wHS E a1 q1.2.2) rfl rfl (fun H locs hP hD hS => ?_)
              refine lv_if_eq (tgt := 64) hx hb dX7_readFiles_52 rfl (fun c9 => ?_) (fun c9 => ?_)
              · have hf := it_t hf c9
                refine lv_iconst (v := 0) hx hb dX7_readFiles_64 rfl ?_
                cases Option.some.inj hf
                subst hQe
                exact ew_z (wf := (fun q : RD × HS => wRD E a0 q.1 ++ wHS E a1 q.2)) hx hb hr hlocks rfl hP hD hS dX7_readFiles_65
              · have hf := it_f hf c9
                refine lv_aload_n hx hb dX7_readFiles_55 rfl (lv_at hl 0 rfl) ?_
                refine lv_bipush (v := 59) hx hb dX7_readFiles_56 rfl ?_
                obtain ⟨r10, e10, hf⟩ := bd_some hf
                refine cq_i hP hD hS [0, 1, 2] [3, 4, 5, 6, 7, 8, 9, 10, 11, 12, 13, 14, 15, 16, 17, 18, 19, 20, 21] [19, 20, 21, 0, 1, 2, 3, 4, 5, 6, 7, 8, 9, 10, 11, 12, 13, 14, 15, 16, 17, 18] (va_free (wc := (wRD E a0 r8.2)) hD hS hA [0, 1, 2] rfl) (va_runV (As := [.int (59 : Int32)]) (rest := []) ⟨hx, hb, hml, hown, hts⟩ (c_X7_sign l E H.size a0 r8.2 (59 : Int32) r10 e10) (cwV 1 hts gX7_readFiles_X7_sign rfl rfl rfl hdV_X7_sign ⟨Nat.le_of_ble_eq_true rfl, Nat.le_of_ble_eq_true rfl⟩) ⟨PW.blind, va_recv hC.1 hP (ci := 5) (q0 := 0) rfl rfl, PW.pre hC hS (hP.sub [0, 1, 2] rfl) (hD.sub [0, 1, 2] rfl rfl) (va_free hD hS hA [0, 1, 2] rfl)⟩ rfl rfl hl.1 rfl (lv_room (Nat.le_of_ble_eq_true rfl)) dX7_readFiles_58 ⟨Nat.le_of_ble_eq_true rfl, Nat.le_of_ble_eq_true rfl⟩) rfl rfl rfl rfl (wRD E a0 r10.2 ++ wHS E a1 q1.2.2) rfl rfl (fun H locs hP hD hS => ?_)
                refine lv_if_ne (tgt := 66) hx hb dX7_readFiles_61 rfl (fun c11 => ?_) (fun c11 => ?_)
                · have hf := it_f hf c11
                  refine lv_aload_n hx hb dX7_readFiles_66 rfl (lv_at hl 1 rfl) ?_
                  refine va_get (D := E.1) (ci := 4) (v := .ref (a1 13)) (C := RX5) (T := TX5) (N := 9) hx hb hts w7 hown hC.1 hP 3 rfl rfl 8 (by decide) w6 (fun _ h9 => h9) rfl dX7_readFiles_67 ?_
                  refine lv_iload_n hx hb dX7_readFiles_70 rfl (lv_at hl 2 rfl) ?_
                  refine lv_aload_n hx hb dX7_readFiles_71 rfl (lv_at hl 0 rfl) ?_
                  refine va_get (D := E.1) (ci := 5) (v := .int r10.2.2.2.2) (C := RX7) (T := TX7) (N := 4) hx hb hts w2 hown hC.1 hP 0 rfl rfl 3 (by decide) w8 (fun _ h9 => h9) rfl dX7_readFiles_72 ?_
                  obtain ⟨r12, e12, hf⟩ := bd_some hf
                  refine cq_v hP hD hS [16, 17, 18, 19, 20, 21] [0, 1, 2, 3, 4, 5, 6, 7, 8, 9, 10, 11, 12, 13, 14, 15] [0, 1, 2, 3, 4, 5, 6, 7, 8, 9, 10, 11, 12, 13, 14, 15, 16, 17, 18, 19, 20, 21] (va_free (wc := (wFL E (fun k => a1 (k + 13)) q1.2.2.2.2.2.2.2.2.2.2)) hD hS hA [16, 17, 18, 19, 20, 21] rfl) (va_runV (As := [.int q1.1, .int r10.2.2.2.2]) (rest := []) ⟨hx, hb, hml, hown, hts⟩ (c_X3_begin l E H.size (fun k => a1 (k + 13)) q1.2.2.2.2.2.2.2.2.2.2 q1.1 r10.2.2.2.2 r12 e12) (cwV 2 hts gX7_readFiles_X3_begin rfl rfl rfl hdV_X3_begin ⟨Nat.le_of_ble_eq_true rfl, Nat.le_of_ble_eq_true rfl⟩) ⟨PW.blind, va_recv hC.1 hP (ci := 3) (q0 := 16) rfl rfl, PW.pre hC hS (hP.sub [16, 17, 18, 19, 20, 21] rfl) (hD.sub [16, 17, 18, 19, 20, 21] rfl rfl) (va_free hD hS hA [16, 17, 18, 19, 20, 21] rfl)⟩ rfl rfl hl.1 rfl (lv_room (Nat.le_of_ble_eq_true rfl)) dX7_readFiles_75 ⟨Nat.le_of_ble_eq_true rfl, Nat.le_of_ble_eq_true rfl⟩) rfl rfl rfl rfl (wRD E a0 r10.2 ++ wHS E a1 (q1.2.2.1, q1.2.2.2.1, q1.2.2.2.2.1, q1.2.2.2.2.2.1, q1.2.2.2.2.2.2.1, q1.2.2.2.2.2.2.2.1, q1.2.2.2.2.2.2.2.2.1, q1.2.2.2.2.2.2.2.2.2.1, r12)) rfl rfl (fun H locs hP hD hS => ?_)
                  refine lv_iinc (v := (q1.1 + 1)) (lv' := [(2, .int (q1.1 + 1)), (0, .ref (a0 0)), (1, .ref (a1 0))]) hx hb dX7_readFiles_78 hl (k := 2) rfl rfl (by decide) rfl (fun ls hl => ?_)
                  refine lv_goto (tgt := 2) hx hb dX7_readFiles_81 rfl ?_
                  exact ih1 ((q1.1 + 1), r10.2, (q1.2.2.1, q1.2.2.2.1, q1.2.2.2.2.1, q1.2.2.2.2.2.1, q1.2.2.2.2.2.2.1, q1.2.2.2.2.2.2.2.1, q1.2.2.2.2.2.2.2.2.1, q1.2.2.2.2.2.2.2.2.2.1, r12)) H locs hP hD hS ls (lv_sub hl [1, 2, 0] rfl) hf
                · have hf := it_t hf c11
                  refine lv_iconst (v := 0) hx hb dX7_readFiles_64 rfl ?_
                  cases Option.some.inj hf
                  subst hQe
                  exact ew_z (wf := (fun q : RD × HS => wRD E a0 q.1 ++ wHS E a1 q.2)) hx hb hr hlocks rfl hP hD hS dX7_readFiles_65
          · have hf := it_t hf c5
            refine lv_aload_n hx hb dX7_readFiles_31 rfl (lv_at hl 0 rfl) ?_
            refine lv_iconst (v := 3) hx hb dX7_readFiles_32 rfl ?_
            obtain ⟨r13, e13, hf⟩ := bd_some hf
            refine cq_i hP hD hS [0, 1, 2] [3, 4, 5, 6, 7, 8, 9, 10, 11, 12, 13, 14, 15, 16, 17, 18, 19, 20, 21] [19, 20, 21, 0, 1, 2, 3, 4, 5, 6, 7, 8, 9, 10, 11, 12, 13, 14, 15, 16, 17, 18] (va_free (wc := (wRD E a0 q1.2.1)) hD hS hA [0, 1, 2] rfl) (va_runV (As := [.int (3 : Int32)]) (rest := []) ⟨hx, hb, hml, hown, hts⟩ (c_X7_refuse l E H.size a0 q1.2.1 (3 : Int32) r13 e13) (cwV 1 hts gX7_readFiles_X7_refuse rfl rfl rfl hdV_X7_refuse ⟨Nat.le_of_ble_eq_true rfl, Nat.le_of_ble_eq_true rfl⟩) ⟨PW.blind, va_recv hC.1 hP (ci := 5) (q0 := 0) rfl rfl, PW.pre hC hS (hP.sub [0, 1, 2] rfl) (hD.sub [0, 1, 2] rfl rfl) (va_free hD hS hA [0, 1, 2] rfl)⟩ rfl rfl hl.1 rfl (lv_room (Nat.le_of_ble_eq_true rfl)) dX7_readFiles_33 ⟨Nat.le_of_ble_eq_true rfl, Nat.le_of_ble_eq_true rfl⟩) rfl rfl rfl rfl (wRD E a0 r13.2 ++ wHS E a1 q1.2.2) rfl rfl (fun H locs hP hD hS => ?_)
            cases Option.some.inj hf
            subst hQe
            exact ew_z (wf := (fun q : RD × HS => wRD E a0 q.1 ++ wHS E a1 q.2)) hx hb hr hlocks rfl hP hD hS dX7_readFiles_36
  exact L1 FU ((0 : Int32), v0, v1) s.heap [] hP hD hS ls (lv_sub hl [1, 2, 0] rfl) hf

/-! X7_readInto -/
abbrev rmX7_readInto : Room := { frames := 4, cells := 0, slots := 0, locals := 86 }
theorem hdS_X7_readInto : yX7_readInto.cls ≠ "java/lang/invoke/MethodHandle" ∧ yX7_readInto.cls ≠ "java/lang/invoke/VarHandle" ∧ (parseMethodDescriptor yX7_readInto.desc).map (fun d => d.parameters.length) = some 1 := by decide +kernel
theorem hdV_X7_readInto : yX7_readInto.cls = RX7 ∧ yX7_readInto.cls ≠ "java/lang/invoke/MethodHandle" ∧ yX7_readInto.cls ≠ "java/lang/invoke/VarHandle" ∧ (parseMethodDescriptor yX7_readInto.desc).map (fun d => d.parameters.length) = some 1 := ⟨rfl, hdS_X7_readInto⟩
set_option maxHeartbeats 4000000 in
set_option maxRecDepth 100000 in
theorem c_X7_readInto (l : Launch) (E : G0) (sz : Nat) (a0 : Nat → Nat) (v0 : RD) (a1 : Nat → Nat) (v1 : HS) (x : Bool × RD × HS) (hf : f_X7_readInto v0 v1 = some x) : Met l yX7_readInto wsX7_readInto rmX7_readInto (va_Pc [.ref (a0 0), .ref (a1 0)] (PW E (wRD E a0 v0 ++ wHS E a1 v1) sz)) (va_Qi (fun r q => r = bI x.1 ∧ q = x.2) (fun q t => va_P E.1 vwCl ((fun q : RD × HS => wRD E a0 q.1 ++ wHS E a1 q.2) q) t.heap ∧ va_D (va_A (wRD E a0 v0 ++ wHS E a1 v1) sz) ((fun q : RD × HS => wRD E a0 q.1 ++ wHS E a1 q.2) q)) (va_A (wRD E a0 v0 ++ wHS E a1 v1) sz)) 0 0 (va_A (wRD E a0 v0 ++ wHS E a1 v1) sz) := by
  refine Met.ofW (cc := cX7_readInto) (maxL := 2) (ret := some .boolean) (by decide) rfl ?_
  intro p e s m args below meth c s₁ B hml hv
  obtain ⟨ha, hsz, hP, hD0, hC⟩ := hv
  have hx := B.exec
  have hb := B.bytes
  have hr := B.returns
  have hts := atoms_spec (ws := wsX7_readInto) B.pre
  have hown : s.vm.findClass RX7 = some m.cls := findClass_of_methodNamed B.named
  have hlocks := B.notSynchronized
  subst hsz
  have hD := hD0.self (sz := s.heap.size)
  generalize hAe : va_A (wRD E a0 v0 ++ wHS E a1 v1) s.heap.size = A at hD hC ⊢
  have hA : ∀ q : Nat, s.heap.size ≤ q → A q := fun q h => by rw [← hAe]; exact Or.inr h
  have hS : va_S A s.heap s.heap [] := va_S.rf
  have w1 : (Cond.fieldLink RX7 18 "GreatChunks$Reader" "place" "I").before args s = true := hts _ (List.mem_of_getElem? (i := 1) rfl)
  have w2 : ∀ w ∈ wsX70, w ∈ wsX7_readInto := in_pl 102 rfl
  have w3 : (Cond.fieldLink RX7 22 "GreatChunks$Reader" "fault" "I").before args s = true := hts _ (List.mem_of_getElem? (i := 2) rfl)
  have w4 : (Cond.fieldLink RX7 12 "GreatChunks$Reader" "tape" "LGreatChunks$Tape;").before args s = true := hts _ (List.mem_of_getElem? (i := 3) rfl)
  have w5 : (Cond.fieldLink RX7 38 "GreatChunks$Tape" "many" "I").before args s = true := hts _ (List.mem_of_getElem? (i := 4) rfl)
  have w6 : ∀ w ∈ wsX90, w ∈ wsX7_readInto := in_pl 106 rfl
  generalize hQe : MQ below (va_Qi (fun r q => r = bI x.1 ∧ q = x.2) (fun q t => va_P E.1 vwCl ((fun q : RD × HS => wRD E a0 q.1 ++ wHS E a1 q.2) q) t.heap ∧ va_D A ((fun q : RD × HS => wRD E a0 q.1 ++ wHS E a1 q.2) q)) A) args s 0 0 A = Q
  refine st_W ha (Nat.le_of_ble_eq_true rfl) (fun ls hl => ?_)
  have hl : lv_has ls 2 [(0, .ref (a0 0)), (1, .ref (a1 0))] := hl
  unfold f_X7_readInto at hf
  refine lv_aload_n hx hb dX7_readInto_0 rfl (lv_at hl 0 rfl) ?_
  refine lv_iconst (v := 0) hx hb dX7_readInto_1 rfl ?_
  refine va_put (D := E.1) (ci := 5) (v := .int (0 : Int32)) (ty := .int) (C := RX7) (T := TX7) (N := 4) hx hb hts w2 tyX7 tyX7_ok nmX7 hown hC.1 hP hD hS 0 rfl rfl 1 (by decide) w1 (fun _ h9 => h9) rfl (by decide +kernel) rfl rfl (Nat.le_of_ble_eq_true rfl) dX7_readInto_2 (fun H locs hP hD hS => ?_)
  have hP : va_P E.1 vwCl (wRD E a0 (v0.1, (0 : Int32), v0.2.2.1, v0.2.2.2) ++ wHS E a1 v1) H := hP
  have hD : va_D A (wRD E a0 (v0.1, (0 : Int32), v0.2.2.1, v0.2.2.2) ++ wHS E a1 v1) := hD
  refine lv_aload_n hx hb dX7_readInto_5 rfl (lv_at hl 0 rfl) ?_
  refine lv_iconst (v := 0) hx hb dX7_readInto_6 rfl ?_
  refine va_put (D := E.1) (ci := 5) (v := .int (0 : Int32)) (ty := .int) (C := RX7) (T := TX7) (N := 4) hx hb hts w2 tyX7 tyX7_ok nmX7 hown hC.1 hP hD hS 0 rfl rfl 2 (by decide) w3 (fun _ h9 => h9) rfl (by decide +kernel) rfl rfl (Nat.le_of_ble_eq_true rfl) dX7_readInto_7 (fun H locs hP hD hS => ?_)
  have hP : va_P E.1 vwCl (wRD E a0 (v0.1, (0 : Int32), (0 : Int32), v0.2.2.2) ++ wHS E a1 v1) H := hP
  have hD : va_D A (wRD E a0 (v0.1, (0 : Int32), (0 : Int32), v0.2.2.2) ++ wHS E a1 v1) := hD
  refine lv_aload_n hx hb dX7_readInto_10 rfl (lv_at hl 0 rfl) ?_
  refine lv_aload_n hx hb dX7_readInto_11 rfl (lv_at hl 1 rfl) ?_
  obtain ⟨r1, e1, hf⟩ := bd_some hf
  refine cq_i hP hD hS [0, 1, 2, 3, 4, 5, 6, 7, 8, 9, 10, 11, 12, 13, 14, 15, 16, 17, 18, 19, 20, 21] [] [0, 1, 2, 3, 4, 5, 6, 7, 8, 9, 10, 11, 12, 13, 14, 15, 16, 17, 18, 19, 20, 21] (va_free (wc := (wRD E a0 (v0.1, (0 : Int32), (0 : Int32), v0.2.2.2) ++ wHS E a1 v1)) hD hS hA [0, 1, 2, 3, 4, 5, 6, 7, 8, 9, 10, 11, 12, 13, 14, 15, 16, 17, 18, 19, 20, 21] rfl) (va_runV (As := [.ref (a1 0)]) (rest := []) ⟨hx, hb, hml, hown, hts⟩ (c_X7_readHead l E H.size a0 (v0.1, (0 : Int32), (0 : Int32), v0.2.2.2) a1 v1 r1 e1) (cwV 1 hts gX7_readInto_X7_readHead rfl rfl rfl hdV_X7_readHead ⟨Nat.le_of_ble_eq_true rfl, Nat.le_of_ble_eq_true rfl⟩) ⟨PW.blind, va_recv hC.1 hP (ci := 5) (q0 := 0) rfl rfl, PW.pre hC hS hP hD (va_free hD hS hA [0, 1, 2, 3, 4, 5, 6, 7, 8, 9, 10, 11, 12, 13, 14, 15, 16, 17, 18, 19, 20, 21] rfl)⟩ rfl rfl hl.1 rfl (lv_room (Nat.le_of_ble_eq_true rfl)) dX7_readInto_12 ⟨Nat.le_of_ble_eq_true rfl, Nat.le_of_ble_eq_true rfl⟩) rfl rfl rfl rfl (wRD E a0 r1.2.1 ++ wHS E a1 r1.2.2) rfl rfl (fun H locs hP hD hS => ?_)
  refine lv_if_eq (tgt := 60) hx hb dX7_readInto_15 rfl (fun c2 => ?_) (fun c2 => ?_)
  · have hf := it_t hf c2
    refine lv_iconst (v := 0) hx hb dX7_readInto_60 rfl ?_
    cases Option.some.inj hf
    subst hQe
    exact ew_z (wf := (fun q : RD × HS => wRD E a0 q.1 ++ wHS E a1 q.2)) hx hb hr hlocks rfl hP hD hS dX7_readInto_61
  · have hf := it_f hf c2
    refine lv_aload_n hx hb dX7_readInto_18 rfl (lv_at hl 0 rfl) ?_
    refine lv_aload_n hx hb dX7_readInto_19 rfl (lv_at hl 1 rfl) ?_
    obtain ⟨r3, e3, hf⟩ := bd_some hf
    refine cq_i hP hD hS [0, 1, 2, 3, 4, 5, 6, 7, 8, 9, 10, 11, 12, 13, 14, 15, 16, 17, 18, 19, 20, 21] [] [0, 1, 2, 3, 4, 5, 6, 7, 8, 9, 10, 11, 12, 13, 14, 15, 16, 17, 18, 19, 20, 21] (va_free (wc := (wRD E a0 r1.2.1 ++ wHS E a1 r1.2.2)) hD hS hA [0, 1, 2, 3, 4, 5, 6, 7, 8, 9, 10, 11, 12, 13, 14, 15, 16, 17, 18, 19, 20, 21] rfl) (va_runV (As := [.ref (a1 0)]) (rest := []) ⟨hx, hb, hml, hown, hts⟩ (c_X7_readServers l E H.size a0 r1.2.1 a1 r1.2.2 r3 e3) (cwV 1 hts gX7_readInto_X7_readServers rfl rfl rfl hdV_X7_readServers ⟨Nat.le_of_ble_eq_true rfl, Nat.le_of_ble_eq_true rfl⟩) ⟨PW.blind, va_recv hC.1 hP (ci := 5) (q0 := 0) rfl rfl, PW.pre hC hS hP hD (va_free hD hS hA [0, 1, 2, 3, 4, 5, 6, 7, 8, 9, 10, 11, 12, 13, 14, 15, 16, 17, 18, 19, 20, 21] rfl)⟩ rfl rfl hl.1 rfl (lv_room (Nat.le_of_ble_eq_true rfl)) dX7_readInto_20 ⟨Nat.le_of_ble_eq_true rfl, Nat.le_of_ble_eq_true rfl⟩) rfl rfl rfl rfl (wRD E a0 r3.2.1 ++ wHS E a1 r3.2.2) rfl rfl (fun H locs hP hD hS => ?_)
    refine lv_if_eq (tgt := 60) hx hb dX7_readInto_23 rfl (fun c4 => ?_) (fun c4 => ?_)
    · have hf := it_t hf c4
      refine lv_iconst (v := 0) hx hb dX7_readInto_60 rfl ?_
      cases Option.some.inj hf
      subst hQe
      exact ew_z (wf := (fun q : RD × HS => wRD E a0 q.1 ++ wHS E a1 q.2)) hx hb hr hlocks rfl hP hD hS dX7_readInto_61
    · have hf := it_f hf c4
      refine lv_aload_n hx hb dX7_readInto_26 rfl (lv_at hl 0 rfl) ?_
      refine lv_aload_n hx hb dX7_readInto_27 rfl (lv_at hl 1 rfl) ?_
      obtain ⟨r5, e5, hf⟩ := bd_some hf
      refine cq_i hP hD hS [0, 1, 2, 3, 4, 5, 6, 7, 8, 9, 10, 11, 12, 13, 14, 15, 16, 17, 18, 19, 20, 21] [] [0, 1, 2, 3, 4, 5, 6, 7, 8, 9, 10, 11, 12, 13, 14, 15, 16, 17, 18, 19, 20, 21] (va_free (wc := (wRD E a0 r3.2.1 ++ wHS E a1 r3.2.2)) hD hS hA [0, 1, 2, 3, 4, 5, 6, 7, 8, 9, 10, 11, 12, 13, 14, 15, 16, 17, 18, 19, 20, 21] rfl) (va_runV (As := [.ref (a1 0)]) (rest := []) ⟨hx, hb, hml, hown, hts⟩ (c_X7_readFiles l E H.size a0 r3.2.1 a1 r3.2.2 r5 e5) (cwV 1 hts gX7_readInto_X7_readFiles rfl rfl rfl hdV_X7_readFiles ⟨Nat.le_of_ble_eq_true rfl, Nat.le_of_ble_eq_true rfl⟩) ⟨PW.blind, va_recv hC.1 hP (ci := 5) (q0 := 0) rfl rfl, PW.pre hC hS hP hD (va_free hD hS hA [0, 1, 2, 3, 4, 5, 6, 7, 8, 9, 10, 11, 12, 13, 14, 15, 16, 17, 18, 19, 20, 21] rfl)⟩ rfl rfl hl.1 rfl (lv_room (Nat.le_of_ble_eq_true rfl)) dX7_readInto_28 ⟨Nat.le_of_ble_eq_true rfl, Nat.le_of_ble_eq_true rfl⟩) rfl rfl rfl rfl (wRD E a0 r5.2.1 ++ wHS E a1 r5.2.2) rfl rfl (fun H locs hP hD hS => ?_)
      refine lv_if_eq (tgt := 60) hx hb dX7_readInto_31 rfl (fun c6 => ?_) (fun c6 => ?_)
      · have hf := it_t hf c6
        refine lv_iconst (v := 0) hx hb dX7_readInto_60 rfl ?_
        cases Option.some.inj hf
        subst hQe
        exact ew_z (wf := (fun q : RD × HS => wRD E a0 q.1 ++ wHS E a1 q.2)) hx hb hr hlocks rfl hP hD hS dX7_readInto_61
      · have hf := it_f hf c6
        refine lv_aload_n hx hb dX7_readInto_34 rfl (lv_at hl 0 rfl) ?_
        refine va_get (D := E.1) (ci := 5) (v := .int r5.2.1.2.1) (C := RX7) (T := TX7) (N := 4) hx hb hts w2 hown hC.1 hP 0 rfl rfl 1 (by decide) w1 (fun _ h9 => h9) rfl dX7_readInto_35 ?_
        refine lv_aload_n hx hb dX7_readInto_38 rfl (lv_at hl 0 rfl) ?_
        refine va_get (D := E.1) (ci := 5) (v := .ref (a0 1)) (C := RX7) (T := TX7) (N := 4) hx hb hts w2 hown hC.1 hP 0 rfl rfl 0 (by decide) w4 (fun _ h9 => h9) rfl dX7_readInto_39 ?_
        refine va_get (D := E.1) (ci := 7) (v := .int r5.2.1.1.2) (C := RX9) (T := TX9) (N := 2) hx hb hts w6 hown hC.1 hP 1 rfl rfl 1 (by decide) w5 (fun _ h9 => h9) rfl dX7_readInto_42 ?_
        refine lv_icmp_eq (tgt := 56) hx hb dX7_readInto_45 rfl (fun c7 => ?_) (fun c7 => ?_)
        · have hf := it_t hf c7
          refine lv_iconst (v := 1) hx hb dX7_readInto_56 rfl ?_
          refine lv_goto (tgt := 61) hx hb dX7_readInto_57 rfl ?_
          cases Option.some.inj hf
          subst hQe
          exact ew_z (wf := (fun q : RD × HS => wRD E a0 q.1 ++ wHS E a1 q.2)) hx hb hr hlocks rfl hP hD hS dX7_readInto_61
        · have hf := it_f hf c7
          refine lv_aload_n hx hb dX7_readInto_48 rfl (lv_at hl 0 rfl) ?_
          refine lv_iconst (v := 1) hx hb dX7_readInto_49 rfl ?_
          obtain ⟨r8, e8, hf⟩ := bd_some hf
          refine cq_i hP hD hS [0, 1, 2] [3, 4, 5, 6, 7, 8, 9, 10, 11, 12, 13, 14, 15, 16, 17, 18, 19, 20, 21] [19, 20, 21, 0, 1, 2, 3, 4, 5, 6, 7, 8, 9, 10, 11, 12, 13, 14, 15, 16, 17, 18] (va_free (wc := (wRD E a0 r5.2.1)) hD hS hA [0, 1, 2] rfl) (va_runV (As := [.int (1 : Int32)]) (rest := []) ⟨hx, hb, hml, hown, hts⟩ (c_X7_refuse l E H.size a0 r5.2.1 (1 : Int32) r8 e8) (cwV 1 hts gX7_readInto_X7_refuse rfl rfl rfl hdV_X7_refuse ⟨Nat.le_of_ble_eq_true rfl, Nat.le_of_ble_eq_true rfl⟩) ⟨PW.blind, va_recv hC.1 hP (ci := 5) (q0 := 0) rfl rfl, PW.pre hC hS (hP.sub [0, 1, 2] rfl) (hD.sub [0, 1, 2] rfl rfl) (va_free hD hS hA [0, 1, 2] rfl)⟩ rfl rfl hl.1 rfl (lv_room (Nat.le_of_ble_eq_true rfl)) dX7_readInto_50 ⟨Nat.le_of_ble_eq_true rfl, Nat.le_of_ble_eq_true rfl⟩) rfl rfl rfl rfl (wRD E a0 r8.2 ++ wHS E a1 r5.2.2) rfl rfl (fun H locs hP hD hS => ?_)
          refine lv_if_eq (tgt := 60) hx hb dX7_readInto_53 rfl (fun c9 => ?_) (fun c9 => ?_)
          · have hf := it_t hf c9
            refine lv_iconst (v := 0) hx hb dX7_readInto_60 rfl ?_
            cases Option.some.inj hf
            subst hQe
            exact ew_z (wf := (fun q : RD × HS => wRD E a0 q.1 ++ wHS E a1 q.2)) hx hb hr hlocks rfl hP hD hS dX7_readInto_61
          · have hf := it_f hf c9
            refine lv_iconst (v := 1) hx hb dX7_readInto_56 rfl ?_
            refine lv_goto (tgt := 61) hx hb dX7_readInto_57 rfl ?_
            cases Option.some.inj hf
            subst hQe
            exact ew_z (wf := (fun q : RD × HS => wRD E a0 q.1 ++ wHS E a1 q.2)) hx hb hr hlocks rfl hP hD hS dX7_readInto_61
