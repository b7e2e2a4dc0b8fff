/-! X9_take -/
abbrev rmX9_take : Room := { frames := 0, cells := 0, slots := 0, locals := 0 }
theorem hdS_X9_take : yX9_take.cls ≠ "java/lang/invoke/MethodHandle" ∧ yX9_take.cls ≠ "java/lang/invoke/VarHandle" ∧ (parseMethodDescriptor yX9_take.desc).map (fun d => d.parameters.length) = some 1 := by decide +kernel
theorem hdV_X9_take : yX9_take.cls = RX9 ∧ yX9_take.cls ≠ "java/lang/invoke/MethodHandle" ∧ yX9_take.cls ≠ "java/lang/invoke/VarHandle" ∧ (parseMethodDescriptor yX9_take.desc).map (fun d => d.parameters.length) = some 1 := ⟨rfl, hdS_X9_take⟩
set_option maxHeartbeats 4000000 in
set_option maxRecDepth 100000 in
theorem c_X9_take (l : Launch) (E : G0) (sz : Nat) (a0 : Nat → Nat) (v0 : TP) (p1 : Int32) (x : Bool × TP) (hf : f_X9_take v0 p1 = some x) : Met l yX9_take wsX9_take rmX9_take (va_Pc [.ref (a0 0), .int p1] (PW E (wTP E a0 v0) sz)) (va_Qi (fun r q => r = bI x.1 ∧ q = x.2) (fun q t => va_P E.1 vwCl ((fun q : TP => wTP E a0 q) q) t.heap ∧ va_D (va_A (wTP E a0 v0) sz) ((fun q : TP => wTP E a0 q) q)) (va_A (wTP E a0 v0) sz)) 0 0 (va_A (wTP E a0 v0) sz) := by
  refine Met.ofW (cc := cX9_take) (maxL := 2) (ret := some .boolean) (by decide) rfl ?_
  intro p e s m args below meth c s₁ B hml hv
  obtain ⟨ha, hsz, hP, hD0, hC⟩ := hv
  have hx := B.exec
  have hb := B.bytes
  have hr := B.returns
  have hts := atoms_spec (ws := wsX9_take) B.pre
  have hown : s.vm.findClass RX9 = some m.cls := findClass_of_methodNamed B.named
  have hlocks := B.notSynchronized
  subst hsz
  have hD := hD0.self (sz := s.heap.size)
  generalize hAe : va_A (wTP E a0 v0) s.heap.size = A at hD hC ⊢
  have hA : ∀ q : Nat, s.heap.size ≤ q → A q := fun q h => by rw [← hAe]; exact Or.inr h
  have hS : va_S A s.heap s.heap [] := va_S.rf
  have w1 : (Cond.fieldLink RX9 15 "GreatChunks$Tape" "many" "I").before args s = true := hts _ (List.mem_of_getElem? (i := 1) rfl)
  have w2 : ∀ w ∈ wsX90, w ∈ wsX9_take := in_pl 3 rfl
  have w3 : (Cond.fieldLink RX9 9 "GreatChunks$Tape" "bytes" "[I").before args s = true := hts _ (List.mem_of_getElem? (i := 2) rfl)
  generalize hQe : MQ below (va_Qi (fun r q => r = bI x.1 ∧ q = x.2) (fun q t => va_P E.1 vwCl ((fun q : TP => wTP E a0 q) q) t.heap ∧ va_D A ((fun q : TP => wTP E a0 q) q)) A) args s 0 0 A = Q
  refine st_W ha (Nat.le_of_ble_eq_true rfl) (fun ls hl => ?_)
  have hl : lv_has ls 2 [(0, .ref (a0 0)), (1, .int p1)] := hl
  unfold f_X9_take at hf
  refine lv_aload_n hx hb dX9_take_0 rfl (lv_at hl 0 rfl) ?_
  refine va_get (D := E.1) (ci := 7) (v := .int v0.2) (C := RX9) (T := TX9) (N := 2) hx hb hts w2 hown hC.1 hP 0 rfl rfl 1 (by decide) w1 (fun _ h9 => h9) rfl dX9_take_1 ?_
  refine lv_bipush (v := 80) hx hb dX9_take_4 rfl ?_
  refine lv_icmp_lt (tgt := 11) hx hb dX9_take_6 rfl (fun c1 => ?_) (fun c1 => ?_)
  · have hf := it_t hf c1
    refine lv_aload_n hx hb dX9_take_11 rfl (lv_at hl 0 rfl) ?_
    refine va_get (D := E.1) (ci := 7) (v := .ref (a0 1)) (C := RX9) (T := TX9) (N := 2) hx hb hts w2 hown hC.1 hP 0 rfl rfl 0 (by decide) w3 (fun _ h9 => h9) rfl dX9_take_12 ?_
    refine lv_aload_n hx hb dX9_take_15 rfl (lv_at hl 0 rfl) ?_
    refine va_get (D := E.1) (ci := 7) (v := .int v0.2) (C := RX9) (T := TX9) (N := 2) hx hb hts w2 hown hC.1 hP 0 rfl rfl 1 (by decide) w1 (fun _ h9 => h9) rfl dX9_take_16 ?_
    refine lv_iload_n hx hb dX9_take_19 rfl (lv_at hl 1 rfl) ?_
    obtain ⟨h2, hf⟩ := gdI_some hf
    refine va_iast hx hb hC.1 hP hD hS 1 0 rfl rfl h2 dX9_take_20 (fun H locs hP hD hS => ?_)
    have hP : va_P E.1 vwCl (wTP E a0 ((upd v0.1 v0.2.toNatClampNeg p1), v0.2)) H := hP
    have hD : va_D A (wTP E a0 ((upd v0.1 v0.2.toNatClampNeg p1), v0.2)) := hD
    refine lv_aload_n hx hb dX9_take_21 rfl (lv_at hl 0 rfl) ?_
    refine lv_dup hx hb dX9_take_22 rfl ?_
    refine va_get (D := E.1) (ci := 7) (v := .int v0.2) (C := RX9) (T := TX9) (N := 2) hx hb hts w2 hown hC.1 hP 0 rfl rfl 1 (by decide) w1 (fun _ h9 => h9) rfl dX9_take_23 ?_
    refine lv_iconst (v := 1) hx hb dX9_take_26 rfl ?_
    refine lv_iadd hx hb dX9_take_27 ?_
    refine va_put (D := E.1) (ci := 7) (v := .int (v0.2 + (1 : Int32))) (ty := .int) (C := RX9) (T := TX9) (N := 2) hx hb hts w2 tyX9 tyX9_ok nmX9 hown hC.1 hP hD hS 0 rfl rfl 1 (by decide) w1 (fun _ h9 => h9) rfl (by decide +kernel) rfl rfl (Nat.le_of_ble_eq_true rfl) dX9_take_28 (fun H locs hP hD hS => ?_)
    have hP : va_P E.1 vwCl (wTP E a0 ((upd v0.1 v0.2.toNatClampNeg p1), (v0.2 + (1 : Int32)))) H := hP
    have hD : va_D A (wTP E a0 ((upd v0.1 v0.2.toNatClampNeg p1), (v0.2 + (1 : Int32)))) := hD
    refine lv_iconst (v := 1) hx hb dX9_take_31 rfl ?_
    cases Option.some.inj hf
    subst hQe
    exact ew_z (wf := (fun q : TP => wTP E a0 q)) hx hb hr hlocks rfl hP hD hS dX9_take_32
  · have hf := it_f hf c1
    refine lv_iconst (v := 0) hx hb dX9_take_9 rfl ?_
    cases Option.some.inj hf
    subst hQe
    exact ew_z (wf := (fun q : TP => wTP E a0 q)) hx hb hr hlocks rfl hP hD hS dX9_take_10

/-! X9_at -/
abbrev rmX9_at : Room := { frames := 0, cells := 0, slots := 0, locals := 0 }
theorem hdS_X9_at : yX9_at.cls ≠ "java/lang/invoke/MethodHandle" ∧ yX9_at.cls ≠ "java/lang/invoke/VarHandle" ∧ (parseMethodDescriptor yX9_at.desc).map (fun d => d.parameters.length) = some 1 := by decide +kernel
theorem hdV_X9_at : yX9_at.cls = RX9 ∧ yX9_at.cls ≠ "java/lang/invoke/MethodHandle" ∧ yX9_at.cls ≠ "java/lang/invoke/VarHandle" ∧ (parseMethodDescriptor yX9_at.desc).map (fun d => d.parameters.length) = some 1 := ⟨rfl, hdS_X9_at⟩
set_option maxHeartbeats 4000000 in
set_option maxRecDepth 100000 in
theorem c_X9_at (l : Launch) (E : G0) (a0 : Nat → Nat) (v0 : TP) (p1 : Int32) (x : Int32) (hf : f_X9_at v0 p1 = some x) : Met l yX9_at wsX9_at rmX9_at (va_Pc [.ref (a0 0), .int p1] (PR E (wTP E a0 v0))) (vp_Si (fun r => r = x)) 0 0 (fun _ => False) := by
  refine Met.ofW (cc := cX9_at) (maxL := 2) (ret := some .int) (by decide) rfl ?_
  intro p e s m args below meth c s₁ B hml hv
  obtain ⟨ha, hP, hC⟩ := hv
  have hx := B.exec
  have hb := B.bytes
  have hr := B.returns
  have hts := atoms_spec (ws := wsX9_at) B.pre
  have hown : s.vm.findClass RX9 = some m.cls := findClass_of_methodNamed B.named
  have hlocks := B.notSynchronized
  have hS : va_S (fun _ => False) s.heap s.heap [] := va_S.rf
  have w1 : (Cond.fieldLink RX9 15 "GreatChunks$Tape" "many" "I").before args s = true := hts _ (List.mem_of_getElem? (i := 1) rfl)
  have w2 : ∀ w ∈ wsX90, w ∈ wsX9_at := in_pl 3 rfl
  have w3 : (Cond.fieldLink RX9 9 "GreatChunks$Tape" "bytes" "[I").before args s = true := hts _ (List.mem_of_getElem? (i := 2) rfl)
  generalize hQe : MQ below (vp_Si (fun r => r = x)) args s 0 0 (fun _ => False) = Q
  refine st_W ha (Nat.le_of_ble_eq_true rfl) (fun ls hl => ?_)
  have hl : lv_has ls 2 [(0, .ref (a0 0)), (1, .int p1)] := hl
  unfold f_X9_at at hf
  refine lv_iload_n hx hb dX9_at_0 rfl (lv_at hl 1 rfl) ?_
  refine lv_if_lt (tgt := 21) hx hb dX9_at_1 rfl (fun c1 => ?_) (fun c1 => ?_)
  · have hf := it_t hf c1
    refine lv_iconst (v := (-1)) hx hb dX9_at_21 rfl ?_
    cases Option.some.inj hf
    subst hQe
    exact en_i hx hb hr hlocks dX9_at_22
  · have hf := it_f hf c1
    refine lv_iload_n hx hb dX9_at_4 rfl (lv_at hl 1 rfl) ?_
    refine lv_aload_n hx hb dX9_at_5 rfl (lv_at hl 0 rfl) ?_
    refine va_get (D := E.1) (ci := 7) (v := .int v0.2) (C := RX9) (T := TX9) (N := 2) hx hb hts w2 hown hC.1 hP 0 rfl rfl 1 (by decide) w1 (fun _ h9 => h9) rfl dX9_at_6 ?_
    refine lv_icmp_ge (tgt := 21) hx hb dX9_at_9 rfl (fun c2 => ?_) (fun c2 => ?_)
    · have hf := it_t hf c2
      refine lv_iconst (v := (-1)) hx hb dX9_at_21 rfl ?_
      cases Option.some.inj hf
      subst hQe
      exact en_i hx hb hr hlocks dX9_at_22
    · have hf := it_f hf c2
      refine lv_aload_n hx hb dX9_at_12 rfl (lv_at hl 0 rfl) ?_
      refine va_get (D := E.1) (ci := 7) (v := .ref (a0 1)) (C := RX9) (T := TX9) (N := 2) hx hb hts w2 hown hC.1 hP 0 rfl rfl 0 (by decide) w3 (fun _ h9 => h9) rfl dX9_at_13 ?_
      refine lv_iload_n hx hb dX9_at_16 rfl (lv_at hl 1 rfl) ?_
      obtain ⟨h3, hf⟩ := gdI_some hf
      refine va_iald hx hb hC.1 hP 1 0 rfl rfl h3 dX9_at_17 ?_
      refine lv_goto (tgt := 22) hx hb dX9_at_18 rfl ?_
      cases Option.some.inj hf
      subst hQe
      exact en_i hx hb hr hlocks dX9_at_22

/-! X9_isOfLetters -/
abbrev rmX9_isOfLetters : Room := { frames := 2, cells := 0, slots := 0, locals := 42 }
theorem hdS_X9_isOfLetters : yX9_isOfLetters.cls ≠ "java/lang/invoke/MethodHandle" ∧ yX9_isOfLetters.cls ≠ "java/lang/invoke/VarHandle" ∧ (parseMethodDescriptor yX9_isOfLetters.desc).map (fun d => d.parameters.length) = some 0 := by decide +kernel
theorem hdV_X9_isOfLetters : yX9_isOfLetters.cls = RX9 ∧ yX9_isOfLetters.cls ≠ "java/lang/invoke/MethodHandle" ∧ yX9_isOfLetters.cls ≠ "java/lang/invoke/VarHandle" ∧ (parseMethodDescriptor yX9_isOfLetters.desc).map (fun d => d.parameters.length) = some 0 := ⟨rfl, hdS_X9_isOfLetters⟩
set_option maxHeartbeats 4000000 in
set_option maxRecDepth 100000 in
theorem c_X9_isOfLetters (l : Launch) (E : G0) (a0 : Nat → Nat) (v0 : TP) (x : Bool) (hf : f_X9_isOfLetters v0 = some x) : Met l yX9_isOfLetters wsX9_isOfLetters rmX9_isOfLetters (va_Pc [.ref (a0 0)] (PR E (wTP E a0 v0))) (vp_Si (fun r => r = bI x)) 0 0 (fun _ => False) := by
  refine Met.ofW (cc := cX9_isOfLetters) (maxL := 2) (ret := some .boolean) (by decide) rfl ?_
  intro p e s m args below meth c s₁ B hml hv
  obtain ⟨ha, hP, hC⟩ := hv
  have hx := B.exec
  have hb := B.bytes
  have hr := B.returns
  have hts := atoms_spec (ws := wsX9_isOfLetters) B.pre
  have hown : s.vm.findClass RX9 = some m.cls := findClass_of_methodNamed B.named
  have hlocks := B.notSynchronized
  have hS : va_S (fun _ => False) s.heap s.heap [] := va_S.rf
  have w1 : (Cond.fieldLink RX9 15 "GreatChunks$Tape" "many" "I").before args s = true := hts _ (List.mem_of_getElem? (i := 1) rfl)
  have w2 : ∀ w ∈ wsX90, w ∈ wsX9_isOfLetters := in_pl 9 rfl
  have w3 : (Cond.fieldLink RX9 9 "GreatChunks$Tape" "bytes" "[I").before args s = true := hts _ (List.mem_of_getElem? (i := 2) rfl)
  have w4 : (Cond.initialized RX10).before args s = true := hts _ (List.mem_of_getElem? (i := 4) rfl)
  have w5 : (Cond.static yX10_isLetter).before args s = true := hts _ (List.mem_of_getElem? (i := 3) rfl)
  generalize hQe : MQ below (vp_Si (fun r => r = bI x)) args s 0 0 (fun _ => False) = Q
  refine st_W ha (Nat.le_of_ble_eq_true rfl) (fun ls hl => ?_)
  have hl : lv_has ls 2 [(0, .ref (a0 0))] := hl
  unfold f_X9_isOfLetters at hf
  refine lv_iconst (v := 0) hx hb dX9_isOfLetters_0 rfl ?_
  refine lv_istore_n (lv' := [(1, .int (0 : Int32)), (0, .ref (a0 0))]) hx hb dX9_isOfLetters_1 rfl hl (by decide) rfl (fun ls hl => ?_)
  obtain ⟨K1, hK1, hf⟩ := jn_some hf
  have J1 : ∀ (q1 : Int32) (ls : Array Slot) (hl : lv_has ls 2 []) (hf : K1 q1 = some x), W p l e (headSpec wsX9_isOfLetters rmX9_isOfLetters).room s m args below meth c s.heap [] 0 0 Q (F0 m 30 ls []) := by
    intro q1 ls hl hf
    have hf := (hK1 q1).trans hf
    refine lv_iconst (v := 1) hx hb dX9_isOfLetters_30 rfl ?_
    cases Option.some.inj hf
    subst hQe
    exact en_z hx hb hr hlocks rfl dX9_isOfLetters_31
  have L1 : ∀ (n : Nat) (q1 : Int32) (ls : Array Slot) (hl : lv_has ls 2 [(0, .ref (a0 0)), (1, .int q1)]) (hf : lpF (bX9_isOfLetters_1 v0 K1) n q1 = some x), W p l e (headSpec wsX9_isOfLetters rmX9_isOfLetters).room s m args below meth c s.heap [] 0 0 Q (F0 m 2 ls []) := by
    intro n
    induction n with
    | zero => intro q1 ls hl hf; exact (lpF_zero hf).elim
    | succ n ih1 =>
      intro q1 ls hl hf
      have hf := lpF_succ hf
      unfold bX9_isOfLetters_1 at hf
      refine lv_iload_n hx hb dX9_isOfLetters_2 rfl (lv_at hl 1 rfl) ?_
      refine lv_aload_n hx hb dX9_isOfLetters_3 rfl (lv_at hl 0 rfl) ?_
      refine va_get (D := E.1) (ci := 7) (v := .int v0.2) (C := RX9) (T := TX9) (N := 2) hx hb hts w2 hown hC.1 hP 0 rfl rfl 1 (by decide) w1 (fun _ h9 => h9) rfl dX9_isOfLetters_4 ?_
      refine lv_icmp_ge (tgt := 30) hx hb dX9_isOfLetters_7 rfl (fun c2 => ?_) (fun c2 => ?_)
      · have hf := it_t hf c2
        exact J1 q1 ls (lv_sub hl [] rfl) hf
      · have hf := it_f hf c2
        refine lv_aload_n hx hb dX9_isOfLetters_10 rfl (lv_at hl 0 rfl) ?_
        refine va_get (D := E.1) (ci := 7) (v := .ref (a0 1)) (C := RX9) (T := TX9) (N := 2) hx hb hts w2 hown hC.1 hP 0 rfl rfl 0 (by decide) w3 (fun _ h9 => h9) rfl dX9_isOfLetters_11 ?_
        refine lv_iload_n hx hb dX9_isOfLetters_14 rfl (lv_at hl 1 rfl) ?_
        obtain ⟨h3, hf⟩ := gdI_some hf
        refine va_iald hx hb hC.1 hP 1 0 rfl rfl h3 dX9_isOfLetters_15 ?_
        refine cr_i (va_runSN (As := [.int (v0.1 q1.toNatClampNeg)]) (rest := []) ⟨hx, hb, hml, hown, hts⟩ (c_X10_isLetter l E (v0.1 q1.toNatClampNeg) _ rfl) ⟨va_cnB 1 hts gX9_isOfLetters_X10_isLetter_n19 rfl rfl rfl (hC.2.1 (RX9, 19, yX10_isLetter, RX10) (List.mem_of_getElem? (i := 11) rfl)) w4 hdS_X10_isLetter ⟨Nat.le_of_ble_eq_true rfl, Nat.le_of_ble_eq_true rfl⟩, w5, trivial⟩ ⟨PR.blind, PR.pre hC hS (hP.sub [] rfl)⟩ rfl rfl hl.1 rfl (lv_room (Nat.le_of_ble_eq_true rfl)) dX9_isOfLetters_16 ⟨Nat.le_of_ble_eq_true rfl, Nat.le_of_ble_eq_true rfl⟩) ?_
        refine lv_if_ne (tgt := 24) hx hb dX9_isOfLetters_19 rfl (fun c4 => ?_) (fun c4 => ?_)
        · have hf := it_f hf c4
          refine lv_iinc (v := (q1 + 1)) (lv' := [(1, .int (q1 + 1)), (0, .ref (a0 0))]) hx hb dX9_isOfLetters_24 hl (k := 1) rfl rfl (by decide) rfl (fun ls hl => ?_)
          refine lv_goto (tgt := 2) hx hb dX9_isOfLetters_27 rfl ?_
          exact ih1 (q1 + 1) ls (lv_sub hl [1, 0] rfl) hf
        · have hf := it_t hf c4
          refine lv_iconst (v := 0) hx hb dX9_isOfLetters_22 rfl ?_
          cases Option.some.inj hf
          subst hQe
          exact en_z hx hb hr hlocks rfl dX9_isOfLetters_23
  exact L1 FU (0 : Int32) ls (lv_sub hl [1, 0] rfl) hf
