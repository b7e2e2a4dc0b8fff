/-! X6_has -/
abbrev rmX6_has : Room := { frames := 0, cells := 0, slots := 0, locals := 0 }
theorem hdS_X6_has : yX6_has.cls ≠ "java/lang/invoke/MethodHandle" ∧ yX6_has.cls ≠ "java/lang/invoke/VarHandle" ∧ (parseMethodDescriptor yX6_has.desc).map (fun d => d.parameters.length) = some 1 := by decide +kernel
set_option maxHeartbeats 4000000 in
set_option maxRecDepth 100000 in
theorem c_X6_has (l : Launch) (E : G0) (p0 : Int32) (x : Bool) (hf : f_X6_has p0 = x) : Met l yX6_has wsX6_has rmX6_has (va_Pc [.int p0] (PR E ([] : va_W))) (vp_Si (fun r => r = bI x)) 0 0 (fun _ => False) := by
  refine Met.ofW (cc := cX6_has) (maxL := 1) (ret := some .boolean) (by decide) rfl ?_
  intro p e s m args below meth c s₁ B hml hv
  obtain ⟨ha, hP, hC⟩ := hv
  have hx := B.exec
  have hb := B.bytes
  have hr := B.returns
  have hts := atoms_spec (ws := wsX6_has) B.pre
  have hown : s.vm.findClass RX6 = some m.cls := findClass_of_methodNamed B.named
  have hlocks := B.notSynchronized
  have hS : va_S (fun _ => False) s.heap s.heap [] := va_S.rf
  have w1 : (Cond.fieldLink RX6 7 "GreatChunks$Kinds" "ABOVE" "[I").before args s = true := hts _ (List.mem_of_getElem? (i := 1) rfl)
  generalize hQe : MQ below (vp_Si (fun r => r = bI x)) args s 0 0 (fun _ => False) = Q
  refine st_W ha (Nat.le_of_ble_eq_true rfl) (fun ls hl => ?_)
  have hl : lv_has ls 1 [(0, .int p0)] := hl
  unfold f_X6_has at hf
  refine lv_iload_n hx hb dX6_has_0 rfl (lv_at hl 0 rfl) ?_
  refine lv_if_lt (tgt := 16) hx hb dX6_has_1 rfl (fun c1 => ?_) (fun c1 => ?_)
  · have hf := it_t hf c1
    refine lv_iconst (v := 0) hx hb dX6_has_16 rfl ?_
    subst hf
    subst hQe
    exact en_z hx hb hr hlocks rfl dX6_has_17
  · have hf := it_f hf c1
    refine lv_iload_n hx hb dX6_has_4 rfl (lv_at hl 0 rfl) ?_
    refine va_gets hx hb hC.2.2.1 hS hown w1 (fun _ h9 => h9) dX6_has_5 ?_
    refine va_tlen (v := Int32.ofNat 6) hx hb hC.2.2.2 hS rfl dX6_has_8 ?_
    refine lv_icmp_ge (tgt := 16) hx hb dX6_has_9 rfl (fun c2 => ?_) (fun c2 => ?_)
    · have hf := it_t hf c2
      refine lv_iconst (v := 0) hx hb dX6_has_16 rfl ?_
      subst hf
      subst hQe
      exact en_z hx hb hr hlocks rfl dX6_has_17
    · have hf := it_f hf c2
      refine lv_iconst (v := 1) hx hb dX6_has_12 rfl ?_
      refine lv_goto (tgt := 17) hx hb dX6_has_13 rfl ?_
      subst hf
      subst hQe
      exact en_z hx hb hr hlocks rfl dX6_has_17

/-! X6_isOne -/
abbrev rmX6_isOne : Room := { frames := 1, cells := 0, slots := 0, locals := 20 }
theorem hdS_X6_isOne : yX6_isOne.cls ≠ "java/lang/invoke/MethodHandle" ∧ yX6_isOne.cls ≠ "java/lang/invoke/VarHandle" ∧ (parseMethodDescriptor yX6_isOne.desc).map (fun d => d.parameters.length) = some 2 := by decide +kernel
set_option maxHeartbeats 4000000 in
set_option maxRecDepth 100000 in
theorem c_X6_isOne (l : Launch) (E : G0) (p0 : Int32) (p1 : Int32) (x : Bool) (hf : f_X6_isOne p0 p1 = some x) : Met l yX6_isOne wsX6_isOne rmX6_isOne (va_Pc [.int p0, .int p1] (PR E ([] : va_W))) (vp_Si (fun r => r = bI x)) 0 0 (fun _ => False) := by
  refine Met.ofW (cc := cX6_isOne) (maxL := 4) (ret := some .boolean) (by decide) rfl ?_
  intro p e s m args below meth c s₁ B hml hv
  obtain ⟨ha, hP, hC⟩ := hv
  have hx := B.exec
  have hb := B.bytes
  have hr := B.returns
  have hts := atoms_spec (ws := wsX6_isOne) B.pre
  have hown : s.vm.findClass RX6 = some m.cls := findClass_of_methodNamed B.named
  have hlocks := B.notSynchronized
  have hS : va_S (fun _ => False) s.heap s.heap [] := va_S.rf
  have w1 : (Cond.fieldLink RX6 7 "GreatChunks$Kinds" "ABOVE" "[I").before args s = true := hts _ (List.mem_of_getElem? (i := 1) rfl)
  generalize hQe : MQ below (vp_Si (fun r => r = bI x)) args s 0 0 (fun _ => False) = Q
  refine st_W ha (Nat.le_of_ble_eq_true rfl) (fun ls hl => ?_)
  have hl : lv_has ls 4 [(0, .int p0), (1, .int p1)] := hl
  unfold f_X6_isOne at hf
  refine lv_iload_n hx hb dX6_isOne_0 rfl (lv_at hl 0 rfl) ?_
  refine lv_istore_n (lv' := [(2, .int p0), (0, .int p0), (1, .int p1)]) hx hb dX6_isOne_1 rfl hl (by decide) rfl (fun ls hl => ?_)
  refine lv_iconst (v := 0) hx hb dX6_isOne_2 rfl ?_
  refine lv_istore_n (lv' := [(3, .int (0 : Int32)), (2, .int p0), (0, .int p0), (1, .int p1)]) hx hb dX6_isOne_3 rfl hl (by decide) rfl (fun ls hl => ?_)
  obtain ⟨K1, hK1, hf⟩ := jn_some hf
  have J1 : ∀ (q1 : Int32 × Int32) (ls : Array Slot) (hl : lv_has ls 4 []) (hf : K1 q1 = some x), W p l e (headSpec wsX6_isOne rmX6_isOne).room s m args below meth c s.heap [] 0 0 Q (F0 m 38 ls []) := by
    intro q1 ls hl hf
    have hf := (hK1 q1).trans hf
    refine lv_iconst (v := 0) hx hb dX6_isOne_38 rfl ?_
    cases Option.some.inj hf
    subst hQe
    exact en_z hx hb hr hlocks rfl dX6_isOne_39
  have L1 : ∀ (n : Nat) (q1 : Int32 × Int32) (ls : Array Slot) (hl : lv_has ls 4 [(1, .int p1), (2, .int q1.1), (3, .int q1.2)]) (hf : lpF (bX6_isOne_1 p1 K1) n q1 = some x), W p l e (headSpec wsX6_isOne rmX6_isOne).room s m args below meth c s.heap [] 0 0 Q (F0 m 4 ls []) := by
    intro n
    induction n with
    | zero => intro q1 ls hl hf; exact (lpF_zero hf).elim
    | succ n ih1 =>
      intro q1 ls hl hf
      have hf := lpF_succ hf
      unfold bX6_isOne_1 at hf
      refine lv_iload_n hx hb dX6_isOne_4 rfl (lv_at hl 2 rfl) ?_
      refine va_gets hx hb hC.2.2.1 hS hown w1 (fun _ h9 => h9) dX6_isOne_5 ?_
      refine va_tlen (v := Int32.ofNat 6) hx hb hC.2.2.2 hS rfl dX6_isOne_8 ?_
      refine lv_icmp_ge (tgt := 38) hx hb dX6_isOne_9 rfl (fun c2 => ?_) (fun c2 => ?_)
      · have hf := it_t hf c2
        exact J1 (q1.1, q1.2) ls (lv_sub hl [] rfl) hf
      · have hf := it_f hf c2
        refine lv_iload_n hx hb dX6_isOne_12 rfl (lv_at hl 1 rfl) ?_
        refine cr_i (va_runS (As := [.int q1.1]) (rest := []) ⟨hx, hb, hml, hown, hts⟩ (c_X6_has l E q1.1 _ rfl) (va_cwS 1 hts gX6_isOne_X6_has rfl rfl rfl hdS_X6_has ⟨Nat.le_of_ble_eq_true rfl, Nat.le_of_ble_eq_true rfl⟩) ⟨PR.blind, PR.pre hC hS hP⟩ rfl rfl hl.1 rfl (lv_room (Nat.le_of_ble_eq_true rfl)) dX6_isOne_13 ⟨Nat.le_of_ble_eq_true rfl, Nat.le_of_ble_eq_true rfl⟩) ?_
        refine lv_if_eq (tgt := 38) hx hb dX6_isOne_16 rfl (fun c3 => ?_) (fun c3 => ?_)
        · have hf := it_t hf c3
          exact J1 (q1.1, q1.2) ls (lv_sub hl [] rfl) hf
        · have hf := it_f hf c3
          refine lv_iload_n hx hb dX6_isOne_19 rfl (lv_at hl 1 rfl) ?_
          refine lv_iload_n hx hb dX6_isOne_20 rfl (lv_at hl 0 rfl) ?_
          refine lv_icmp_ne (tgt := 26) hx hb dX6_isOne_21 rfl (fun c4 => ?_) (fun c4 => ?_)
          · have hf := it_f hf c4
            refine va_gets hx hb hC.2.2.1 hS hown w1 (fun _ h9 => h9) dX6_isOne_26 ?_
            refine lv_iload_n hx hb dX6_isOne_29 rfl (lv_at hl 1 rfl) ?_
            obtain ⟨h5, hf⟩ := gdI_some hf
            refine va_ti hx hb hC.2.2.2 hS h5 rfl dX6_isOne_30 ?_
            refine lv_istore_n (lv' := [(2, .int (abv q1.1.toNatClampNeg)), (1, .int p1), (3, .int q1.2)]) hx hb dX6_isOne_31 rfl hl (by decide) rfl (fun ls hl => ?_)
            refine lv_iinc (v := (q1.2 + 1)) (lv' := [(3, .int (q1.2 + 1)), (2, .int (abv q1.1.toNatClampNeg)), (1, .int p1)]) hx hb dX6_isOne_32 hl (k := 2) rfl rfl (by decide) rfl (fun ls hl => ?_)
            refine lv_goto (tgt := 4) hx hb dX6_isOne_35 rfl ?_
            exact ih1 ((abv q1.1.toNatClampNeg), (q1.2 + 1)) ls (lv_sub hl [2, 1, 0] rfl) hf
          · have hf := it_t hf c4
            refine lv_iconst (v := 1) hx hb dX6_isOne_24 rfl ?_
            cases Option.some.inj hf
            subst hQe
            exact en_z hx hb hr hlocks rfl dX6_isOne_25
  exact L1 FU (p0, (0 : Int32)) ls (lv_sub hl [3, 1, 0] rfl) hf
