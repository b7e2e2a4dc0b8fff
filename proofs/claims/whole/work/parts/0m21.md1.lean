/-! X11_in -/
abbrev rmX11_in : Room := { frames := 0, cells := 0, slots := 0, locals := 0 }
theorem hdS_X11_in : yX11_in.cls ≠ "java/lang/invoke/MethodHandle" ∧ yX11_in.cls ≠ "java/lang/invoke/VarHandle" ∧ (parseMethodDescriptor yX11_in.desc).map (fun d => d.parameters.length) = some 3 := by decide +kernel
set_option maxHeartbeats 4000000 in
set_option maxRecDepth 100000 in
theorem c_X11_in (l : Launch) (E : G0) (p0 : Int64) (p1 : Int64) (p2 : Int64) (x : Bool) (hf : f_X11_in p0 p1 p2 = x) : Met l yX11_in wsX11_in rmX11_in (va_Pc [.long p0, .long p1, .long p2] (PR E ([] : va_W))) (vp_Si (fun r => r = bI x)) 0 0 (fun _ => False) := by
  refine Met.ofW (cc := cX11_in) (maxL := 6) (ret := some .boolean) (by decide) rfl ?_
  intro p e s m args below meth c s₁ B hml hv
  obtain ⟨ha, hP, hC⟩ := hv
  have hx := B.exec
  have hb := B.bytes
  have hr := B.returns
  have hts := atoms_spec (ws := wsX11_in) B.pre
  have hown : s.vm.findClass RX11 = some m.cls := findClass_of_methodNamed B.named
  have hlocks := B.notSynchronized
  have hS : va_S (fun _ => False) s.heap s.heap [] := va_S.rf
  generalize hQe : MQ below (vp_Si (fun r => r = bI x)) args s 0 0 (fun _ => False) = Q
  refine st_W ha (Nat.le_of_ble_eq_true rfl) (fun ls hl => ?_)
  have hl : lv_has ls 6 [(0, .long p0), (2, .long p1), (4, .long p2)] := hl
  unfold f_X11_in at hf
  refine lv_lload_n hx hb dX11_in_0 rfl (lv_at hl 0 rfl) ?_
  refine lv_lload_n hx hb dX11_in_1 rfl (lv_at hl 1 rfl) ?_
  refine W.lcmp hx hb dX11_in_2 ?_
  refine lv_if_lt (tgt := 17) hx hb dX11_in_3 rfl (fun c1 => ?_) (fun c1 => ?_)
  · have hf := it_t hf c1
    refine lv_iconst (v := 0) hx hb dX11_in_17 rfl ?_
    subst hf
    subst hQe
    exact en_z hx hb hr hlocks rfl dX11_in_18
  · have hf := it_f hf c1
    refine lv_lload_n hx hb dX11_in_6 rfl (lv_at hl 0 rfl) ?_
    refine lv_lload hx hb dX11_in_7 (lv_at hl 2 rfl) ?_
    refine W.lcmp hx hb dX11_in_9 ?_
    refine lv_if_gt (tgt := 17) hx hb dX11_in_10 rfl (fun c2 => ?_) (fun c2 => ?_)
    · have hf := it_t hf c2
      refine lv_iconst (v := 0) hx hb dX11_in_17 rfl ?_
      subst hf
      subst hQe
      exact en_z hx hb hr hlocks rfl dX11_in_18
    · have hf := it_f hf c2
      refine lv_iconst (v := 1) hx hb dX11_in_13 rfl ?_
      refine lv_goto (tgt := 18) hx hb dX11_in_14 rfl ?_
      subst hf
      subst hQe
      exact en_z hx hb hr hlocks rfl dX11_in_18

/-! X11_has -/
abbrev rmX11_has : Room := { frames := 0, cells := 0, slots := 0, locals := 0 }
theorem hdS_X11_has : yX11_has.cls ≠ "java/lang/invoke/MethodHandle" ∧ yX11_has.cls ≠ "java/lang/invoke/VarHandle" ∧ (parseMethodDescriptor yX11_has.desc).map (fun d => d.parameters.length) = some 2 := by decide +kernel
set_option maxHeartbeats 4000000 in
set_option maxRecDepth 100000 in
theorem c_X11_has (l : Launch) (E : G0) (p0 : Int32) (p1 : Int32) (x : Bool) (hf : f_X11_has p0 p1 = x) : Met l yX11_has wsX11_has rmX11_has (va_Pc [.int p0, .int p1] (PR E ([] : va_W))) (vp_Si (fun r => r = bI x)) 0 0 (fun _ => False) := by
  refine Met.ofW (cc := cX11_has) (maxL := 2) (ret := some .boolean) (by decide) rfl ?_
  intro p e s m args below meth c s₁ B hml hv
  obtain ⟨ha, hP, hC⟩ := hv
  have hx := B.exec
  have hb := B.bytes
  have hr := B.returns
  have hts := atoms_spec (ws := wsX11_has) B.pre
  have hown : s.vm.findClass RX11 = some m.cls := findClass_of_methodNamed B.named
  have hlocks := B.notSynchronized
  have hS : va_S (fun _ => False) s.heap s.heap [] := va_S.rf
  generalize hQe : MQ below (vp_Si (fun r => r = bI x)) args s 0 0 (fun _ => False) = Q
  refine st_W ha (Nat.le_of_ble_eq_true rfl) (fun ls hl => ?_)
  have hl : lv_has ls 2 [(0, .int p0), (1, .int p1)] := hl
  unfold f_X11_has at hf
  refine lv_iload_n hx hb dX11_has_0 rfl (lv_at hl 0 rfl) ?_
  refine lv_iload_n hx hb dX11_has_1 rfl (lv_at hl 1 rfl) ?_
  refine lv_ishr hx hb dX11_has_2 ?_
  refine lv_iconst (v := 1) hx hb dX11_has_3 rfl ?_
  refine lv_iand hx hb dX11_has_4 ?_
  refine lv_iconst (v := 1) hx hb dX11_has_5 rfl ?_
  refine lv_icmp_ne (tgt := 13) hx hb dX11_has_6 rfl (fun c1 => ?_) (fun c1 => ?_)
  · have hf := it_f hf c1
    refine lv_iconst (v := 0) hx hb dX11_has_13 rfl ?_
    subst hf
    subst hQe
    exact en_z hx hb hr hlocks rfl dX11_has_14
  · have hf := it_t hf c1
    refine lv_iconst (v := 1) hx hb dX11_has_9 rfl ?_
    refine lv_goto (tgt := 14) hx hb dX11_has_10 rfl ?_
    subst hf
    subst hQe
    exact en_z hx hb hr hlocks rfl dX11_has_14

/-! X11_ones -/
abbrev rmX11_ones : Room := { frames := 1, cells := 0, slots := 0, locals := 21 }
theorem hdS_X11_ones : yX11_ones.cls ≠ "java/lang/invoke/MethodHandle" ∧ yX11_ones.cls ≠ "java/lang/invoke/VarHandle" ∧ (parseMethodDescriptor yX11_ones.desc).map (fun d => d.parameters.length) = some 1 := by decide +kernel
set_option maxHeartbeats 4000000 in
set_option maxRecDepth 100000 in
theorem c_X11_ones (l : Launch) (E : G0) (p0 : Int32) (x : Int32) (hf : f_X11_ones p0 = some x) : Met l yX11_ones wsX11_ones rmX11_ones (va_Pc [.int p0] (PR E ([] : va_W))) (vp_Si (fun r => r = x)) 0 0 (fun _ => False) := by
  refine Met.ofW (cc := cX11_ones) (maxL := 3) (ret := some .int) (by decide) rfl ?_
  intro p e s m args below meth c s₁ B hml hv
  obtain ⟨ha, hP, hC⟩ := hv
  have hx := B.exec
  have hb := B.bytes
  have hr := B.returns
  have hts := atoms_spec (ws := wsX11_ones) B.pre
  have hown : s.vm.findClass RX11 = some m.cls := findClass_of_methodNamed B.named
  have hlocks := B.notSynchronized
  have hS : va_S (fun _ => False) s.heap s.heap [] := va_S.rf
  generalize hQe : MQ below (vp_Si (fun r => r = x)) args s 0 0 (fun _ => False) = Q
  refine st_W ha (Nat.le_of_ble_eq_true rfl) (fun ls hl => ?_)
  have hl : lv_has ls 3 [(0, .int p0)] := hl
  unfold f_X11_ones at hf
  refine lv_iconst (v := 0) hx hb dX11_ones_0 rfl ?_
  refine lv_istore_n (lv' := [(1, .int (0 : Int32)), (0, .int p0)]) hx hb dX11_ones_1 rfl hl (by decide) rfl (fun ls hl => ?_)
  refine lv_iconst (v := 0) hx hb dX11_ones_2 rfl ?_
  refine lv_istore_n (lv' := [(2, .int (0 : Int32)), (1, .int (0 : Int32)), (0, .int p0)]) hx hb dX11_ones_3 rfl hl (by decide) rfl (fun ls hl => ?_)
  obtain ⟨K1, hK1, hf⟩ := jn_some hf
  have J1 : ∀ (q1 : Int32 × Int32) (ls : Array Slot) (hl : lv_has ls 3 [(1, .int q1.1)]) (hf : K1 q1 = some x), W p l e (headSpec wsX11_ones rmX11_ones).room s m args below meth c s.heap [] 0 0 Q (F0 m 31 ls []) := by
    intro q1 ls hl hf
    have hf := (hK1 q1).trans hf
    refine lv_iload_n hx hb dX11_ones_31 rfl (lv_at hl 0 rfl) ?_
    cases Option.some.inj hf
    subst hQe
    exact en_i hx hb hr hlocks dX11_ones_32
  have L1 : ∀ (n : Nat) (q1 : Int32 × Int32) (ls : Array Slot) (hl : lv_has ls 3 [(0, .int p0), (1, .int q1.1), (2, .int q1.2)]) (hf : lpF (bX11_ones_1 p0 K1) n q1 = some x), W p l e (headSpec wsX11_ones rmX11_ones).room s m args below meth c s.heap [] 0 0 Q (F0 m 4 ls []) := by
    intro n
    induction n with
    | zero => intro q1 ls hl hf; exact (lpF_zero hf).elim
    | succ n ih1 =>
      intro q1 ls hl hf
      have hf := lpF_succ hf
      unfold bX11_ones_1 at hf
      refine lv_iload_n hx hb dX11_ones_4 rfl (lv_at hl 2 rfl) ?_
      refine lv_iconst (v := 5) hx hb dX11_ones_5 rfl ?_
      refine lv_icmp_ge (tgt := 31) hx hb dX11_ones_6 rfl (fun c2 => ?_) (fun c2 => ?_)
      · have hf := it_t hf c2
        exact J1 (q1.1, q1.2) ls (lv_sub hl [1] rfl) hf
      · have hf := it_f hf c2
        refine lv_iload_n hx hb dX11_ones_9 rfl (lv_at hl 1 rfl) ?_
        refine lv_iload_n hx hb dX11_ones_10 rfl (lv_at hl 0 rfl) ?_
        refine lv_iload_n hx hb dX11_ones_11 rfl (lv_at hl 2 rfl) ?_
        refine cr_i (va_runS (As := [.int p0, .int q1.2]) (rest := [.int q1.1]) ⟨hx, hb, hml, hown, hts⟩ (c_X11_has l E p0 q1.2 _ rfl) (va_cwS 2 hts gX11_ones_X11_has rfl rfl rfl hdS_X11_has ⟨Nat.le_of_ble_eq_true rfl, Nat.le_of_ble_eq_true rfl⟩) ⟨PR.blind, PR.pre hC hS hP⟩ rfl rfl hl.1 rfl (lv_room (Nat.le_of_ble_eq_true rfl)) dX11_ones_12 ⟨Nat.le_of_ble_eq_true rfl, Nat.le_of_ble_eq_true rfl⟩) ?_
        refine lv_if_eq (tgt := 22) hx hb dX11_ones_15 rfl (fun c3 => ?_) (fun c3 => ?_)
        · have hf := it_t hf c3
          refine lv_iconst (v := 0) hx hb dX11_ones_22 rfl ?_
          refine lv_iadd hx hb dX11_ones_23 ?_
          refine lv_istore_n (lv' := [(1, .int (q1.1 + (0 : Int32))), (0, .int p0), (2, .int q1.2)]) hx hb dX11_ones_24 rfl hl (by decide) rfl (fun ls hl => ?_)
          refine lv_iinc (v := (q1.2 + 1)) (lv' := [(2, .int (q1.2 + 1)), (1, .int (q1.1 + (0 : Int32))), (0, .int p0)]) hx hb dX11_ones_25 hl (k := 2) rfl rfl (by decide) rfl (fun ls hl => ?_)
          refine lv_goto (tgt := 4) hx hb dX11_ones_28 rfl ?_
          exact ih1 ((q1.1 + (0 : Int32)), (q1.2 + 1)) ls (lv_sub hl [2, 1, 0] rfl) hf
        · have hf := it_f hf c3
          refine lv_iconst (v := 1) hx hb dX11_ones_18 rfl ?_
          refine lv_goto (tgt := 23) hx hb dX11_ones_19 rfl ?_
          refine lv_iadd hx hb dX11_ones_23 ?_
          refine lv_istore_n (lv' := [(1, .int (q1.1 + (1 : Int32))), (0, .int p0), (2, .int q1.2)]) hx hb dX11_ones_24 rfl hl (by decide) rfl (fun ls hl => ?_)
          refine lv_iinc (v := (q1.2 + 1)) (lv' := [(2, .int (q1.2 + 1)), (1, .int (q1.1 + (1 : Int32))), (0, .int p0)]) hx hb dX11_ones_25 hl (k := 2) rfl rfl (by decide) rfl (fun ls hl => ?_)
          refine lv_goto (tgt := 4) hx hb dX11_ones_28 rfl ?_
          exact ih1 ((q1.1 + (1 : Int32)), (q1.2 + 1)) ls (lv_sub hl [2, 1, 0] rfl) hf
  exact L1 FU ((0 : Int32), (0 : Int32)) ls (lv_sub hl [2, 1, 0] rfl) hf

/-! X11_copies -/
abbrev rmX11_copies : Room := { frames := 0, cells := 0, slots := 0, locals := 0 }
theorem hdS_X11_copies : yX11_copies.cls ≠ "java/lang/invoke/MethodHandle" ∧ yX11_copies.cls ≠ "java/lang/invoke/VarHandle" ∧ (parseMethodDescriptor yX11_copies.desc).map (fun d => d.parameters.length) = some 4 := by decide +kernel
set_option maxHeartbeats 4000000 in
set_option maxRecDepth 100000 in
theorem c_X11_copies (l : Launch) (E : G0) (sz : Nat) (a0 n0 : Nat) (v0 : (Nat → Int64)) (p1 : Int32) (a2 n2 : Nat) (v2 : (Nat → Int64)) (p3 : Int32) (x : (Nat → Int64)) (hf : f_X11_copies n0 v0 p1 n2 v2 p3 = some x) : Met l yX11_copies wsX11_copies rmX11_copies (va_Pc [.ref a0, .int p1, .ref a2, .int p3] (PW E (wLA E a0 n0 v0 ++ wLA E a2 n2 v2) sz)) (va_Qv (fun q => q = x) (fun q t => va_P E.1 vwCl ((fun q : (Nat → Int64) => wLA E a0 n0 v0 ++ wLA E a2 n2 q) q) t.heap ∧ va_D (va_A (wLA E a0 n0 v0 ++ wLA E a2 n2 v2) sz) ((fun q : (Nat → Int64) => wLA E a0 n0 v0 ++ wLA E a2 n2 q) q)) (va_A (wLA E a0 n0 v0 ++ wLA E a2 n2 v2) sz)) 0 0 (va_A (wLA E a0 n0 v0 ++ wLA E a2 n2 v2) sz) := by
  refine Met.ofW (cc := cX11_copies) (maxL := 5) (ret := none) (by decide) rfl ?_
  intro p e s m args below meth c s₁ B hml hv
  obtain ⟨ha, hsz, hP, hD0, hC⟩ := hv
  have hx := B.exec
  have hb := B.bytes
  have hr := B.returns
  have hts := atoms_spec (ws := wsX11_copies) B.pre
  have hown : s.vm.findClass RX11 = some m.cls := findClass_of_methodNamed B.named
  have hlocks := B.notSynchronized
  subst hsz
  have hD := hD0.self (sz := s.heap.size)
  generalize hAe : va_A (wLA E a0 n0 v0 ++ wLA E a2 n2 v2) s.heap.size = A at hD hC ⊢
  have hA : ∀ q : Nat, s.heap.size ≤ q → A q := fun q h => by rw [← hAe]; exact Or.inr h
  have hS : va_S A s.heap s.heap [] := va_S.rf
  generalize hQe : MQ below (va_Qv (fun q => q = x) (fun q t => va_P E.1 vwCl ((fun q : (Nat → Int64) => wLA E a0 n0 v0 ++ wLA E a2 n2 q) q) t.heap ∧ va_D A ((fun q : (Nat → Int64) => wLA E a0 n0 v0 ++ wLA E a2 n2 q) q)) A) args s 0 0 A = Q
  refine st_W ha (Nat.le_of_ble_eq_true rfl) (fun ls hl => ?_)
  have hl : lv_has ls 5 [(0, .ref a0), (1, .int p1), (2, .ref a2), (3, .int p3)] := hl
  unfold f_X11_copies at hf
  refine lv_iconst (v := 0) hx hb dX11_copies_0 rfl ?_
  refine lv_istore (lv' := [(4, .int (0 : Int32)), (0, .ref a0), (1, .int p1), (2, .ref a2), (3, .int p3)]) hx hb dX11_copies_1 hl (by decide) rfl (fun ls hl => ?_)
  obtain ⟨K1, hK1, hf⟩ := jn_some hf
  have J1 : ∀ (q1 : Int32 × (Nat → Int64)) (H : Heap) (locs : List Loc) (hP : va_P E.1 vwCl (wLA E a0 n0 v0 ++ wLA E a2 n2 q1.2) H) (hD : va_D A (wLA E a0 n0 v0 ++ wLA E a2 n2 q1.2)) (hS : va_S A s.heap H locs) (ls : Array Slot) (hl : lv_has ls 5 []) (hf : K1 q1 = some x), W p l e (headSpec wsX11_copies rmX11_copies).room s m args below meth c H locs 0 0 Q (F0 m 29 ls []) := by
    intro q1 H locs hP hD hS ls hl hf
    have hf := (hK1 q1).trans hf
    cases Option.some.inj hf
    subst hQe
    exact ew_v (wf := (fun q : (Nat → Int64) => wLA E a0 n0 v0 ++ wLA E a2 n2 q)) hx hb hr hlocks hP hD hS dX11_copies_29
  have L1 : ∀ (n : Nat) (q1 : Int32 × (Nat → Int64)) (H : Heap) (locs : List Loc) (hP : va_P E.1 vwCl (wLA E a0 n0 v0 ++ wLA E a2 n2 q1.2) H) (hD : va_D A (wLA E a0 n0 v0 ++ wLA E a2 n2 q1.2)) (hS : va_S A s.heap H locs) (ls : Array Slot) (hl : lv_has ls 5 [(0, .ref a0), (1, .int p1), (2, .ref a2), (3, .int p3), (4, .int q1.1)]) (hf : lpF (bX11_copies_1 p1 n0 p3 n2 v0 K1) n q1 = some x), W p l e (headSpec wsX11_copies rmX11_copies).room s m args below meth c H locs 0 0 Q (F0 m 3 ls []) := by
    intro n
    induction n with
    | zero => intro q1 H locs hP hD hS ls hl hf; exact (lpF_zero hf).elim
    | succ n ih1 =>
      intro q1 H locs hP hD hS ls hl hf
      have hf := lpF_succ hf
      unfold bX11_copies_1 at hf
      refine lv_iload hx hb dX11_copies_3 (lv_at hl 4 rfl) ?_
      refine lv_sipush (v := 340) hx hb dX11_copies_5 rfl ?_
      refine lv_icmp_ge (tgt := 29) hx hb dX11_copies_8 rfl (fun c2 => ?_) (fun c2 => ?_)
      · have hf := it_t hf c2
        exact J1 (q1.1, q1.2) H locs hP hD hS ls (lv_sub hl [] rfl) hf
      · have hf := it_f hf c2
        refine lv_aload_n hx hb dX11_copies_11 rfl (lv_at hl 2 rfl) ?_
        refine lv_iload_n hx hb dX11_copies_12 rfl (lv_at hl 3 rfl) ?_
        refine lv_iload hx hb dX11_copies_13 (lv_at hl 4 rfl) ?_
        refine lv_iadd hx hb dX11_copies_15 ?_
        refine lv_aload_n hx hb dX11_copies_16 rfl (lv_at hl 0 rfl) ?_
        refine lv_iload_n hx hb dX11_copies_17 rfl (lv_at hl 1 rfl) ?_
        refine lv_iload hx hb dX11_copies_18 (lv_at hl 4 rfl) ?_
        refine lv_iadd hx hb dX11_copies_20 ?_
        obtain ⟨h3, hf⟩ := gdI_some hf
        refine va_lald hx hb hC.1 hP 0 1 rfl rfl h3 dX11_copies_21 ?_
        obtain ⟨h4, hf⟩ := gdI_some hf
        refine va_last hx hb hC.1 hP hD hS 1 1 rfl rfl h4 dX11_copies_22 (fun H locs hP hD hS => ?_)
        have hP : va_P E.1 vwCl (wLA E a0 n0 v0 ++ wLA E a2 n2 (vp_updL q1.2 (p3 + q1.1).toNatClampNeg (v0 (p1 + q1.1).toNatClampNeg))) H := hP
        have hD : va_D A (wLA E a0 n0 v0 ++ wLA E a2 n2 (vp_updL q1.2 (p3 + q1.1).toNatClampNeg (v0 (p1 + q1.1).toNatClampNeg))) := hD
        refine lv_iinc (v := (q1.1 + 1)) (lv' := [(4, .int (q1.1 + 1)), (0, .ref a0), (1, .int p1), (2, .ref a2), (3, .int p3)]) hx hb dX11_copies_23 hl (k := 4) rfl rfl (by decide) rfl (fun ls hl => ?_)
        refine lv_goto (tgt := 3) hx hb dX11_copies_26 rfl ?_
        exact ih1 ((q1.1 + 1), (vp_updL q1.2 (p3 + q1.1).toNatClampNeg (v0 (p1 + q1.1).toNatClampNeg))) H locs hP hD hS ls (lv_sub hl [1, 2, 3, 4, 0] rfl) hf
  exact L1 FU ((0 : Int32), v2) s.heap [] hP hD hS ls (lv_sub hl [1, 2, 3, 4, 0] rfl) hf

/-! X11_tries -/
abbrev rmX11_tries : Room := { frames := 1, cells := 0, slots := 0, locals := 24 }
theorem hdS_X11_tries : yX11_tries.cls ≠ "java/lang/invoke/MethodHandle" ∧ yX11_tries.cls ≠ "java/lang/invoke/VarHandle" ∧ (parseMethodDescriptor yX11_tries.desc).map (fun d => d.parameters.length) = some 0 := by decide +kernel
theorem hdV_X11_tries : yX11_tries.cls = RX11 ∧ yX11_tries.cls ≠ "java/lang/invoke/MethodHandle" ∧ yX11_tries.cls ≠ "java/lang/invoke/VarHandle" ∧ (parseMethodDescriptor yX11_tries.desc).map (fun d => d.parameters.length) = some 0 := ⟨rfl, hdS_X11_tries⟩
set_option maxHeartbeats 4000000 in
set_option maxRecDepth 100000 in
theorem c_X11_tries (l : Launch) (E : G0) (sz : Nat) (a0 : Nat → Nat) (v0 : MD) (x : MD) (hf : f_X11_tries v0 = some x) : Met l yX11_tries wsX11_tries rmX11_tries (va_Pc [.ref (a0 0)] (PW E (wMD E a0 v0) sz)) (va_Qv (fun q => q = x) (fun q t => va_P E.1 vwCl ((fun q : MD => wMD E a0 q) q) t.heap ∧ va_D (va_A (wMD E a0 v0) sz) ((fun q : MD => wMD E a0 q) q)) (va_A (wMD E a0 v0) sz)) 0 0 (va_A (wMD E a0 v0) sz) := by
  refine Met.ofW (cc := cX11_tries) (maxL := 1) (ret := none) (by decide) rfl ?_
  intro p e s m args below meth c s₁ B hml hv
  obtain ⟨ha, hsz, hP, hD0, hC⟩ := hv
  have hx := B.exec
  have hb := B.bytes
  have hr := B.returns
  have hts := atoms_spec (ws := wsX11_tries) B.pre
  have hown : s.vm.findClass RX11 = some m.cls := findClass_of_methodNamed B.named
  have hlocks := B.notSynchronized
  subst hsz
  have hD := hD0.self (sz := s.heap.size)
  generalize hAe : va_A (wMD E a0 v0) s.heap.size = A at hD hC ⊢
  have hA : ∀ q : Nat, s.heap.size ≤ q → A q := fun q h => by rw [← hAe]; exact Or.inr h
  have hS : va_S A s.heap s.heap [] := va_S.rf
  have w1 : (Cond.fieldLink RX11 7 "GreatChunksModel" "now" "[J").before args s = true := hts _ (List.mem_of_getElem? (i := 1) rfl)
  have w2 : ∀ w ∈ wsX110, w ∈ wsX11_tries := in_pl 7 rfl
  have w3 : (Cond.fieldLink RX11 13 "GreatChunksModel" "tried" "[J").before args s = true := hts _ (List.mem_of_getElem? (i := 2) rfl)
  generalize hQe : MQ below (va_Qv (fun q => q = x) (fun q t => va_P E.1 vwCl ((fun q : MD => wMD E a0 q) q) t.heap ∧ va_D A ((fun q : MD => wMD E a0 q) q)) A) args s 0 0 A = Q
  refine st_W ha (Nat.le_of_ble_eq_true rfl) (fun ls hl => ?_)
  have hl : lv_has ls 1 [(0, .ref (a0 0))] := hl
  unfold f_X11_tries at hf
  refine lv_aload_n hx hb dX11_tries_0 rfl (lv_at hl 0 rfl) ?_
  refine va_get (D := E.1) (ci := 9) (v := .ref (a0 1)) (C := RX11) (T := TX11) (N := 17) hx hb hts w2 hown hC.1 hP 0 rfl rfl 0 (by decide) w1 (fun _ h9 => h9) rfl dX11_tries_1 ?_
  refine lv_iconst (v := 0) hx hb dX11_tries_4 rfl ?_
  refine lv_aload_n hx hb dX11_tries_5 rfl (lv_at hl 0 rfl) ?_
  refine va_get (D := E.1) (ci := 9) (v := .ref (a0 2)) (C := RX11) (T := TX11) (N := 17) hx hb hts w2 hown hC.1 hP 0 rfl rfl 1 (by decide) w3 (fun _ h9 => h9) rfl dX11_tries_6 ?_
  refine lv_iconst (v := 0) hx hb dX11_tries_9 rfl ?_
  obtain ⟨r1, e1, hf⟩ := bd_some hf
  refine cq_v hP hD hS [1, 2] [0, 3, 4, 5, 6, 7] [0, 6, 7, 1, 2, 3, 4, 5] (va_free (wc := (wLA E (a0 1) 340 v0.1 ++ wLA E (a0 2) 340 v0.2.1)) hD hS hA [1, 2] rfl) (va_runS (As := [.ref (a0 1), .int (0 : Int32), .ref (a0 2), .int (0 : Int32)]) (rest := []) ⟨hx, hb, hml, hown, hts⟩ (c_X11_copies l E s.heap.size (a0 1) 340 v0.1 (0 : Int32) (a0 2) 340 v0.2.1 (0 : Int32) r1 e1) (va_cwS 4 hts gX11_tries_X11_copies rfl rfl rfl hdS_X11_copies ⟨Nat.le_of_ble_eq_true rfl, Nat.le_of_ble_eq_true rfl⟩) ⟨PW.blind, PW.pre hC hS (hP.sub [1, 2] rfl) (hD.sub [1, 2] rfl rfl) (va_free hD hS hA [1, 2] rfl)⟩ rfl rfl hl.1 rfl (lv_room (Nat.le_of_ble_eq_true rfl)) dX11_tries_10 ⟨Nat.le_of_ble_eq_true rfl, Nat.le_of_ble_eq_true rfl⟩) rfl rfl rfl rfl (wMD E a0 (v0.1, r1, v0.2.2.1, v0.2.2.2.1, v0.2.2.2.2.1, v0.2.2.2.2.2.1, v0.2.2.2.2.2.2.1, v0.2.2.2.2.2.2.2.1, v0.2.2.2.2.2.2.2.2.1, v0.2.2.2.2.2.2.2.2.2.1, v0.2.2.2.2.2.2.2.2.2.2.1, v0.2.2.2.2.2.2.2.2.2.2.2.1, v0.2.2.2.2.2.2.2.2.2.2.2.2.1, v0.2.2.2.2.2.2.2.2.2.2.2.2.2.1, v0.2.2.2.2.2.2.2.2.2.2.2.2.2.2.1, v0.2.2.2.2.2.2.2.2.2.2.2.2.2.2.2.1, v0.2.2.2.2.2.2.2.2.2.2.2.2.2.2.2.2)) rfl rfl (fun H locs hP hD hS => ?_)
  cases Option.some.inj hf
  subst hQe
  exact ew_v (wf := (fun q : MD => wMD E a0 q)) hx hb hr hlocks hP hD hS dX11_tries_13

/-! X11_version -/
abbrev rmX11_version : Room := { frames := 0, cells := 0, slots := 0, locals := 0 }
theorem hdS_X11_version : yX11_version.cls ≠ "java/lang/invoke/MethodHandle" ∧ yX11_version.cls ≠ "java/lang/invoke/VarHandle" ∧ (parseMethodDescriptor yX11_version.desc).map (fun d => d.parameters.length) = some 1 := by decide +kernel
set_option maxHeartbeats 4000000 in
set_option maxRecDepth 100000 in
theorem c_X11_version (l : Launch) (E : G0) (p0 : Int64) (x : Int32) (hf : f_X11_version p0 = x) : Met l yX11_version wsX11_version rmX11_version (va_Pc [.long p0] (PR E ([] : va_W))) (vp_Si (fun r => r = x)) 0 0 (fun _ => False) := by
  refine Met.ofW (cc := cX11_version) (maxL := 2) (ret := some .int) (by decide) rfl ?_
  intro p e s m args below meth c s₁ B hml hv
  obtain ⟨ha, hP, hC⟩ := hv
  have hx := B.exec
  have hb := B.bytes
  have hr := B.returns
  have hts := atoms_spec (ws := wsX11_version) B.pre
  have hown : s.vm.findClass RX11 = some m.cls := findClass_of_methodNamed B.named
  have hlocks := B.notSynchronized
  have hS : va_S (fun _ => False) s.heap s.heap [] := va_S.rf
  have w1 : (Cond.constantLong RX11 41 (8191)).before args s = true := hts _ (List.mem_of_getElem? (i := 1) rfl)
  generalize hQe : MQ below (vp_Si (fun r => r = x)) args s 0 0 (fun _ => False) = Q
  refine st_W ha (Nat.le_of_ble_eq_true rfl) (fun ls hl => ?_)
  have hl : lv_has ls 2 [(0, .long p0)] := hl
  unfold f_X11_version at hf
  refine lv_lload_n hx hb dX11_version_0 rfl (lv_at hl 0 rfl) ?_
  refine lv_bipush (v := 49) hx hb dX11_version_1 rfl ?_
  refine lv_lshr hx hb dX11_version_3 rfl ?_
  refine lv_ldc2 hx hb hown w1 dX11_version_4 ?_
  refine lv_land hx hb dX11_version_7 ?_
  refine lv_l2i hx hb dX11_version_8 rfl ?_
  subst hf
  subst hQe
  exact en_i hx hb hr hlocks dX11_version_9

/-! X11_filled -/
abbrev rmX11_filled : Room := { frames := 0, cells := 0, slots := 0, locals := 0 }
theorem hdS_X11_filled : yX11_filled.cls ≠ "java/lang/invoke/MethodHandle" ∧ yX11_filled.cls ≠ "java/lang/invoke/VarHandle" ∧ (parseMethodDescriptor yX11_filled.desc).map (fun d => d.parameters.length) = some 1 := by decide +kernel
set_option maxHeartbeats 4000000 in
set_option maxRecDepth 100000 in
theorem c_X11_filled (l : Launch) (E : G0) (p0 : Int64) (x : Int32) (hf : f_X11_filled p0 = x) : Met l yX11_filled wsX11_filled rmX11_filled (va_Pc [.long p0] (PR E ([] : va_W))) (vp_Si (fun r => r = x)) 0 0 (fun _ => False) := by
  refine Met.ofW (cc := cX11_filled) (maxL := 2) (ret := some .int) (by decide) rfl ?_
  intro p e s m args below meth c s₁ B hml hv
  obtain ⟨ha, hP, hC⟩ := hv
  have hx := B.exec
  have hb := B.bytes
  have hr := B.returns
  have hts := atoms_spec (ws := wsX11_filled) B.pre
  have hown : s.vm.findClass RX11 = some m.cls := findClass_of_methodNamed B.named
  have hlocks := B.notSynchronized
  have hS : va_S (fun _ => False) s.heap s.heap [] := va_S.rf
  have w1 : (Cond.constantLong RX11 43 (15)).before args s = true := hts _ (List.mem_of_getElem? (i := 1) rfl)
  generalize hQe : MQ below (vp_Si (fun r => r = x)) args s 0 0 (fun _ => False) = Q
  refine st_W ha (Nat.le_of_ble_eq_true rfl) (fun ls hl => ?_)
  have hl : lv_has ls 2 [(0, .long p0)] := hl
  unfold f_X11_filled at hf
  refine lv_lload_n hx hb dX11_filled_0 rfl (lv_at hl 0 rfl) ?_
  refine lv_bipush (v := 45) hx hb dX11_filled_1 rfl ?_
  refine lv_lshr hx hb dX11_filled_3 rfl ?_
  refine lv_ldc2 hx hb hown w1 dX11_filled_4 ?_
  refine lv_land hx hb dX11_filled_7 ?_
  refine lv_l2i hx hb dX11_filled_8 rfl ?_
  subst hf
  subst hQe
  exact en_i hx hb hr hlocks dX11_filled_9

/-! X11_cell -/
abbrev rmX11_cell : Room := { frames := 0, cells := 0, slots := 0, locals := 0 }
theorem hdS_X11_cell : yX11_cell.cls ≠ "java/lang/invoke/MethodHandle" ∧ yX11_cell.cls ≠ "java/lang/invoke/VarHandle" ∧ (parseMethodDescriptor yX11_cell.desc).map (fun d => d.parameters.length) = some 2 := by decide +kernel
set_option maxHeartbeats 4000000 in
set_option maxRecDepth 100000 in
theorem c_X11_cell (l : Launch) (E : G0) (p0 : Int64) (p1 : Int32) (x : Int32) (hf : f_X11_cell p0 p1 = x) : Met l yX11_cell wsX11_cell rmX11_cell (va_Pc [.long p0, .int p1] (PR E ([] : va_W))) (vp_Si (fun r => r = x)) 0 0 (fun _ => False) := by
  refine Met.ofW (cc := cX11_cell) (maxL := 3) (ret := some .int) (by decide) rfl ?_
  intro p e s m args below meth c s₁ B hml hv
  obtain ⟨ha, hP, hC⟩ := hv
  have hx := B.exec
  have hb := B.bytes
  have hr := B.returns
  have hts := atoms_spec (ws := wsX11_cell) B.pre
  have hown : s.vm.findClass RX11 = some m.cls := findClass_of_methodNamed B.named
  have hlocks := B.notSynchronized
  have hS : va_S (fun _ => False) s.heap s.heap [] := va_S.rf
  have w1 : (Cond.constantLong RX11 45 (31)).before args s = true := hts _ (List.mem_of_getElem? (i := 1) rfl)
  generalize hQe : MQ below (vp_Si (fun r => r = x)) args s 0 0 (fun _ => False) = Q
  refine st_W ha (Nat.le_of_ble_eq_true rfl) (fun ls hl => ?_)
  have hl : lv_has ls 3 [(0, .long p0), (2, .int p1)] := hl
  unfold f_X11_cell at hf
  refine lv_lload_n hx hb dX11_cell_0 rfl (lv_at hl 0 rfl) ?_
  refine lv_iconst (v := 5) hx hb dX11_cell_1 rfl ?_
  refine lv_iload_n hx hb dX11_cell_2 rfl (lv_at hl 1 rfl) ?_
  refine lv_imul hx hb dX11_cell_3 ?_
  refine lv_lshr hx hb dX11_cell_4 rfl ?_
  refine lv_ldc2 hx hb hown w1 dX11_cell_5 ?_
  refine lv_land hx hb dX11_cell_8 ?_
  refine lv_l2i hx hb dX11_cell_9 rfl ?_
  subst hf
  subst hQe
  exact en_i hx hb hr hlocks dX11_cell_10

/-! X11_withVersion -/
abbrev rmX11_withVersion : Room := { frames := 0, cells := 0, slots := 0, locals := 0 }
theorem hdS_X11_withVersion : yX11_withVersion.cls ≠ "java/lang/invoke/MethodHandle" ∧ yX11_withVersion.cls ≠ "java/lang/invoke/VarHandle" ∧ (parseMethodDescriptor yX11_withVersion.desc).map (fun d => d.parameters.length) = some 2 := by decide +kernel
set_option maxHeartbeats 4000000 in
set_option maxRecDepth 100000 in
theorem c_X11_withVersion (l : Launch) (E : G0) (p0 : Int64) (p1 : Int64) (x : Int64) (hf : f_X11_withVersion p0 p1 = x) : Met l yX11_withVersion wsX11_withVersion rmX11_withVersion (va_Pc [.long p0, .long p1] (PR E ([] : va_W))) (vp_Sl (fun r => r = x)) 0 0 (fun _ => False) := by
  refine Met.ofW (cc := cX11_withVersion) (maxL := 4) (ret := some .long) (by decide) rfl ?_
  intro p e s m args below meth c s₁ B hml hv
  obtain ⟨ha, hP, hC⟩ := hv
  have hx := B.exec
  have hb := B.bytes
  have hr := B.returns
  have hts := atoms_spec (ws := wsX11_withVersion) B.pre
  have hown : s.vm.findClass RX11 = some m.cls := findClass_of_methodNamed B.named
  have hlocks := B.notSynchronized
  have hS : va_S (fun _ => False) s.heap s.heap [] := va_S.rf
  have w1 : (Cond.constantLong RX11 47 (-4611123068473966593)).before args s = true := hts _ (List.mem_of_getElem? (i := 1) rfl)
  generalize hQe : MQ below (vp_Sl (fun r => r = x)) args s 0 0 (fun _ => False) = Q
  refine st_W ha (Nat.le_of_ble_eq_true rfl) (fun ls hl => ?_)
  have hl : lv_has ls 4 [(0, .long p0), (2, .long p1)] := hl
  unfold f_X11_withVersion at hf
  refine lv_lload_n hx hb dX11_withVersion_0 rfl (lv_at hl 0 rfl) ?_
  refine lv_ldc2 hx hb hown w1 dX11_withVersion_1 ?_
  refine lv_land hx hb dX11_withVersion_4 ?_
  refine lv_lload_n hx hb dX11_withVersion_5 rfl (lv_at hl 1 rfl) ?_
  refine lv_bipush (v := 49) hx hb dX11_withVersion_6 rfl ?_
  refine lv_lshl hx hb dX11_withVersion_8 rfl ?_
  refine lv_lor hx hb dX11_withVersion_9 ?_
  subst hf
  subst hQe
  exact en_l hx hb hr hlocks dX11_withVersion_10

/-! X11_withFilled -/
abbrev rmX11_withFilled : Room := { frames := 0, cells := 0, slots := 0, locals := 0 }
theorem hdS_X11_withFilled : yX11_withFilled.cls ≠ "java/lang/invoke/MethodHandle" ∧ yX11_withFilled.cls ≠ "java/lang/invoke/VarHandle" ∧ (parseMethodDescriptor yX11_withFilled.desc).map (fun d => d.parameters.length) = some 2 := by decide +kernel
set_option maxHeartbeats 4000000 in
set_option maxRecDepth 100000 in
theorem c_X11_withFilled (l : Launch) (E : G0) (p0 : Int64) (p1 : Int64) (x : Int64) (hf : f_X11_withFilled p0 p1 = x) : Met l yX11_withFilled wsX11_withFilled rmX11_withFilled (va_Pc [.long p0, .long p1] (PR E ([] : va_W))) (vp_Sl (fun r => r = x)) 0 0 (fun _ => False) := by
  refine Met.ofW (cc := cX11_withFilled) (maxL := 4) (ret := some .long) (by decide) rfl ?_
  intro p e s m args below meth c s₁ B hml hv
  obtain ⟨ha, hP, hC⟩ := hv
  have hx := B.exec
  have hb := B.bytes
  have hr := B.returns
  have hts := atoms_spec (ws := wsX11_withFilled) B.pre
  have hown : s.vm.findClass RX11 = some m.cls := findClass_of_methodNamed B.named
  have hlocks := B.notSynchronized
  have hS : va_S (fun _ => False) s.heap s.heap [] := va_S.rf
  have w1 : (Cond.constantLong RX11 49 (-527765581332481)).before args s = true := hts _ (List.mem_of_getElem? (i := 1) rfl)
  generalize hQe : MQ below (vp_Sl (fun r => r = x)) args s 0 0 (fun _ => False) = Q
  refine st_W ha (Nat.le_of_ble_eq_true rfl) (fun ls hl => ?_)
  have hl : lv_has ls 4 [(0, .long p0), (2, .long p1)] := hl
  unfold f_X11_withFilled at hf
  refine lv_lload_n hx hb dX11_withFilled_0 rfl (lv_at hl 0 rfl) ?_
  refine lv_ldc2 hx hb hown w1 dX11_withFilled_1 ?_
  refine lv_land hx hb dX11_withFilled_4 ?_
  refine lv_lload_n hx hb dX11_withFilled_5 rfl (lv_at hl 1 rfl) ?_
  refine lv_bipush (v := 45) hx hb dX11_withFilled_6 rfl ?_
  refine lv_lshl hx hb dX11_withFilled_8 rfl ?_
  refine lv_lor hx hb dX11_withFilled_9 ?_
  subst hf
  subst hQe
  exact en_l hx hb hr hlocks dX11_withFilled_10

/-! X11_withCell -/
abbrev rmX11_withCell : Room := { frames := 0, cells := 0, slots := 0, locals := 0 }
theorem hdS_X11_withCell : yX11_withCell.cls ≠ "java/lang/invoke/MethodHandle" ∧ yX11_withCell.cls ≠ "java/lang/invoke/VarHandle" ∧ (parseMethodDescriptor yX11_withCell.desc).map (fun d => d.parameters.length) = some 3 := by decide +kernel
set_option maxHeartbeats 4000000 in
set_option maxRecDepth 100000 in
theorem c_X11_withCell (l : Launch) (E : G0) (p0 : Int64) (p1 : Int32) (p2 : Int64) (x : Int64) (hf : f_X11_withCell p0 p1 p2 = x) : Met l yX11_withCell wsX11_withCell rmX11_withCell (va_Pc [.long p0, .int p1, .long p2] (PR E ([] : va_W))) (vp_Sl (fun r => r = x)) 0 0 (fun _ => False) := by
  refine Met.ofW (cc := cX11_withCell) (maxL := 5) (ret := some .long) (by decide) rfl ?_
  intro p e s m args below meth c s₁ B hml hv
  obtain ⟨ha, hP, hC⟩ := hv
  have hx := B.exec
  have hb := B.bytes
  have hr := B.returns
  have hts := atoms_spec (ws := wsX11_withCell) B.pre
  have hown : s.vm.findClass RX11 = some m.cls := findClass_of_methodNamed B.named
  have hlocks := B.notSynchronized
  have hS : va_S (fun _ => False) s.heap s.heap [] := va_S.rf
  have w1 : (Cond.constantLong RX11 45 (31)).before args s = true := hts _ (List.mem_of_getElem? (i := 1) rfl)
  have w2 : (Cond.constantLong RX11 51 (-1)).before args s = true := hts _ (List.mem_of_getElem? (i := 2) rfl)
  generalize hQe : MQ below (vp_Sl (fun r => r = x)) args s 0 0 (fun _ => False) = Q
  refine st_W ha (Nat.le_of_ble_eq_true rfl) (fun ls hl => ?_)
  have hl : lv_has ls 5 [(0, .long p0), (2, .int p1), (3, .long p2)] := hl
  unfold f_X11_withCell at hf
  refine lv_lload_n hx hb dX11_withCell_0 rfl (lv_at hl 0 rfl) ?_
  refine lv_ldc2 hx hb hown w1 dX11_withCell_1 ?_
  refine lv_iconst (v := 5) hx hb dX11_withCell_4 rfl ?_
  refine lv_iload_n hx hb dX11_withCell_5 rfl (lv_at hl 1 rfl) ?_
  refine lv_imul hx hb dX11_withCell_6 ?_
  refine lv_lshl hx hb dX11_withCell_7 rfl ?_
  refine lv_ldc2 hx hb hown w2 dX11_withCell_8 ?_
  refine lv_lxor hx hb dX11_withCell_11 ?_
  refine lv_land hx hb dX11_withCell_12 ?_
  refine lv_lload_n hx hb dX11_withCell_13 rfl (lv_at hl 2 rfl) ?_
  refine lv_iconst (v := 5) hx hb dX11_withCell_14 rfl ?_
  refine lv_iload_n hx hb dX11_withCell_15 rfl (lv_at hl 1 rfl) ?_
  refine lv_imul hx hb dX11_withCell_16 ?_
  refine lv_lshl hx hb dX11_withCell_17 rfl ?_
  refine lv_lor hx hb dX11_withCell_18 ?_
  subst hf
  subst hQe
  exact en_l hx hb hr hlocks dX11_withCell_19

/-! X11_isUp -/
abbrev rmX11_isUp : Room := { frames := 0, cells := 0, slots := 0, locals := 0 }
theorem hdS_X11_isUp : yX11_isUp.cls ≠ "java/lang/invoke/MethodHandle" ∧ yX11_isUp.cls ≠ "java/lang/invoke/VarHandle" ∧ (parseMethodDescriptor yX11_isUp.desc).map (fun d => d.parameters.length) = some 2 := by decide +kernel
set_option maxHeartbeats 4000000 in
set_option maxRecDepth 100000 in
theorem c_X11_isUp (l : Launch) (E : G0) (a0 : Nat) (v0 : (Nat → Int64)) (p1 : Int32) (x : Bool) (hf : f_X11_isUp v0 p1 = some x) : Met l yX11_isUp wsX11_isUp rmX11_isUp (va_Pc [.ref a0, .int p1] (PR E (wLA E a0 340 v0))) (vp_Si (fun r => r = bI x)) 0 0 (fun _ => False) := by
  refine Met.ofW (cc := cX11_isUp) (maxL := 2) (ret := some .boolean) (by decide) rfl ?_
  intro p e s m args below meth c s₁ B hml hv
  obtain ⟨ha, hP, hC⟩ := hv
  have hx := B.exec
  have hb := B.bytes
  have hr := B.returns
  have hts := atoms_spec (ws := wsX11_isUp) B.pre
  have hown : s.vm.findClass RX11 = some m.cls := findClass_of_methodNamed B.named
  have hlocks := B.notSynchronized
  have hS : va_S (fun _ => False) s.heap s.heap [] := va_S.rf
  generalize hQe : MQ below (vp_Si (fun r => r = bI x)) args s 0 0 (fun _ => False) = Q
  refine st_W ha (Nat.le_of_ble_eq_true rfl) (fun ls hl => ?_)
  have hl : lv_has ls 2 [(0, .ref a0), (1, .int p1)] := hl
  unfold f_X11_isUp at hf
  refine lv_aload_n hx hb dX11_isUp_0 rfl (lv_at hl 0 rfl) ?_
  refine lv_bipush (v := 7) hx hb dX11_isUp_1 rfl ?_
  refine lv_iconst (v := 3) hx hb dX11_isUp_3 rfl ?_
  refine lv_iload_n hx hb dX11_isUp_4 rfl (lv_at hl 1 rfl) ?_
  refine lv_imul hx hb dX11_isUp_5 ?_
  refine lv_iadd hx hb dX11_isUp_6 ?_
  refine lv_iconst (v := 0) hx hb dX11_isUp_7 rfl ?_
  refine lv_iadd hx hb dX11_isUp_8 ?_
  obtain ⟨h1, hf⟩ := gdI_some hf
  refine va_lald hx hb hC.1 hP 0 1 rfl rfl h1 dX11_isUp_9 ?_
  refine lv_lconst (v := 1) hx hb dX11_isUp_10 rfl ?_
  refine W.lcmp hx hb dX11_isUp_11 ?_
  refine lv_if_ne (tgt := 19) hx hb dX11_isUp_12 rfl (fun c2 => ?_) (fun c2 => ?_)
  · have hf := it_f hf c2
    refine lv_iconst (v := 0) hx hb dX11_isUp_19 rfl ?_
    cases Option.some.inj hf
    subst hQe
    exact en_z hx hb hr hlocks rfl dX11_isUp_20
  · have hf := it_t hf c2
    refine lv_iconst (v := 1) hx hb dX11_isUp_15 rfl ?_
    refine lv_goto (tgt := 20) hx hb dX11_isUp_16 rfl ?_
    cases Option.some.inj hf
    subst hQe
    exact en_z hx hb hr hlocks rfl dX11_isUp_20

/-! X11_copy -/
abbrev rmX11_copy : Room := { frames := 0, cells := 0, slots := 0, locals := 0 }
theorem hdS_X11_copy : yX11_copy.cls ≠ "java/lang/invoke/MethodHandle" ∧ yX11_copy.cls ≠ "java/lang/invoke/VarHandle" ∧ (parseMethodDescriptor yX11_copy.desc).map (fun d => d.parameters.length) = some 3 := by decide +kernel
set_option maxHeartbeats 4000000 in
set_option maxRecDepth 100000 in
theorem c_X11_copy (l : Launch) (E : G0) (a0 : Nat) (v0 : (Nat → Int64)) (p1 : Int32) (p2 : Int32) (x : Int64) (hf : f_X11_copy v0 p1 p2 = some x) : Met l yX11_copy wsX11_copy rmX11_copy (va_Pc [.ref a0, .int p1, .int p2] (PR E (wLA E a0 340 v0))) (vp_Sl (fun r => r = x)) 0 0 (fun _ => False) := by
  refine Met.ofW (cc := cX11_copy) (maxL := 3) (ret := some .long) (by decide) rfl ?_
  intro p e s m args below meth c s₁ B hml hv
  obtain ⟨ha, hP, hC⟩ := hv
  have hx := B.exec
  have hb := B.bytes
  have hr := B.returns
  have hts := atoms_spec (ws := wsX11_copy) B.pre
  have hown : s.vm.findClass RX11 = some m.cls := findClass_of_methodNamed B.named
  have hlocks := B.notSynchronized
  have hS : va_S (fun _ => False) s.heap s.heap [] := va_S.rf
  generalize hQe : MQ below (vp_Sl (fun r => r = x)) args s 0 0 (fun _ => False) = Q
  refine st_W ha (Nat.le_of_ble_eq_true rfl) (fun ls hl => ?_)
  have hl : lv_has ls 3 [(0, .ref a0), (1, .int p1), (2, .int p2)] := hl
  unfold f_X11_copy at hf
  refine lv_aload_n hx hb dX11_copy_0 rfl (lv_at hl 0 rfl) ?_
  refine lv_sipush (v := 190) hx hb dX11_copy_1 rfl ?_
  refine lv_iconst (v := 5) hx hb dX11_copy_4 rfl ?_
  refine lv_iload_n hx hb dX11_copy_5 rfl (lv_at hl 1 rfl) ?_
  refine lv_imul hx hb dX11_copy_6 ?_
  refine lv_iadd hx hb dX11_copy_7 ?_
  refine lv_iload_n hx hb dX11_copy_8 rfl (lv_at hl 2 rfl) ?_
  refine lv_iadd hx hb dX11_copy_9 ?_
  obtain ⟨h1, hf⟩ := gdI_some hf
  refine va_lald hx hb hC.1 hP 0 1 rfl rfl h1 dX11_copy_10 ?_
  cases Option.some.inj hf
  subst hQe
  exact en_l hx hb hr hlocks dX11_copy_11

/-! X11_isGood -/
abbrev rmX11_isGood : Room := { frames := 1, cells := 0, slots := 0, locals := 22 }
theorem hdS_X11_isGood : yX11_isGood.cls ≠ "java/lang/invoke/MethodHandle" ∧ yX11_isGood.cls ≠ "java/lang/invoke/VarHandle" ∧ (parseMethodDescriptor yX11_isGood.desc).map (fun d => d.parameters.length) = some 3 := by decide +kernel
set_option maxHeartbeats 4000000 in
set_option maxRecDepth 100000 in
theorem c_X11_isGood (l : Launch) (E : G0) (a0 : Nat) (v0 : (Nat → Int64)) (p1 : Int32) (p2 : Int32) (x : Bool) (hf : f_X11_isGood v0 p1 p2 = some x) : Met l yX11_isGood wsX11_isGood rmX11_isGood (va_Pc [.ref a0, .int p1, .int p2] (PR E (wLA E a0 340 v0))) (vp_Si (fun r => r = bI x)) 0 0 (fun _ => False) := by
  refine Met.ofW (cc := cX11_isGood) (maxL := 3) (ret := some .boolean) (by decide) rfl ?_
  intro p e s m args below meth c s₁ B hml hv
  obtain ⟨ha, hP, hC⟩ := hv
  have hx := B.exec
  have hb := B.bytes
  have hr := B.returns
  have hts := atoms_spec (ws := wsX11_isGood) B.pre
  have hown : s.vm.findClass RX11 = some m.cls := findClass_of_methodNamed B.named
  have hlocks := B.notSynchronized
  have hS : va_S (fun _ => False) s.heap s.heap [] := va_S.rf
  generalize hQe : MQ below (vp_Si (fun r => r = bI x)) args s 0 0 (fun _ => False) = Q
  refine st_W ha (Nat.le_of_ble_eq_true rfl) (fun ls hl => ?_)
  have hl : lv_has ls 3 [(0, .ref a0), (1, .int p1), (2, .int p2)] := hl
  unfold f_X11_isGood at hf
  refine lv_aload_n hx hb dX11_isGood_0 rfl (lv_at hl 0 rfl) ?_
  refine lv_iload_n hx hb dX11_isGood_1 rfl (lv_at hl 1 rfl) ?_
  refine lv_iload_n hx hb dX11_isGood_2 rfl (lv_at hl 2 rfl) ?_
  obtain ⟨r1, e1, hf⟩ := bd_some hf
  refine cr_l (va_runS (As := [.ref a0, .int p1, .int p2]) (rest := []) ⟨hx, hb, hml, hown, hts⟩ (c_X11_copy l E a0 v0 p1 p2 r1 e1) (va_cwS 3 hts gX11_isGood_X11_copy rfl rfl rfl hdS_X11_copy ⟨Nat.le_of_ble_eq_true rfl, Nat.le_of_ble_eq_true rfl⟩) ⟨PR.blind, PR.pre hC hS hP⟩ rfl rfl hl.1 rfl (lv_room (Nat.le_of_ble_eq_true rfl)) dX11_isGood_3 ⟨Nat.le_of_ble_eq_true rfl, Nat.le_of_ble_eq_true rfl⟩) ?_
  refine lv_lconst (v := 0) hx hb dX11_isGood_6 rfl ?_
  refine W.lcmp hx hb dX11_isGood_7 ?_
  refine lv_if_eq (tgt := 39) hx hb dX11_isGood_8 rfl (fun c2 => ?_) (fun c2 => ?_)
  · have hf := it_t hf c2
    refine lv_iconst (v := 0) hx hb dX11_isGood_39 rfl ?_
    cases Option.some.inj hf
    subst hQe
    exact en_z hx hb hr hlocks rfl dX11_isGood_40
  · have hf := it_f hf c2
    refine lv_aload_n hx hb dX11_isGood_11 rfl (lv_at hl 0 rfl) ?_
    refine lv_iload_n hx hb dX11_isGood_12 rfl (lv_at hl 1 rfl) ?_
    refine lv_iload_n hx hb dX11_isGood_13 rfl (lv_at hl 2 rfl) ?_
    obtain ⟨r3, e3, hf⟩ := bd_some hf
    refine cr_l (va_runS (As := [.ref a0, .int p1, .int p2]) (rest := []) ⟨hx, hb, hml, hown, hts⟩ (c_X11_copy l E a0 v0 p1 p2 r3 e3) (va_cwS 3 hts gX11_isGood_X11_copy rfl rfl rfl hdS_X11_copy ⟨Nat.le_of_ble_eq_true rfl, Nat.le_of_ble_eq_true rfl⟩) ⟨PR.blind, PR.pre hC hS hP⟩ rfl rfl hl.1 rfl (lv_room (Nat.le_of_ble_eq_true rfl)) dX11_isGood_14 ⟨Nat.le_of_ble_eq_true rfl, Nat.le_of_ble_eq_true rfl⟩) ?_
    refine cr_i (va_runS (As := [.long r3]) (rest := []) ⟨hx, hb, hml, hown, hts⟩ (c_X11_version l E r3 _ rfl) (va_cwS 1 hts gX11_isGood_X11_version rfl rfl rfl hdS_X11_version ⟨Nat.le_of_ble_eq_true rfl, Nat.le_of_ble_eq_true rfl⟩) ⟨PR.blind, PR.pre hC hS (hP.sub [] rfl)⟩ rfl rfl hl.1 rfl (lv_room (Nat.le_of_ble_eq_true rfl)) dX11_isGood_17 ⟨Nat.le_of_ble_eq_true rfl, Nat.le_of_ble_eq_true rfl⟩) ?_
    refine lv_i2l hx hb dX11_isGood_20 rfl ?_
    refine lv_aload_n hx hb dX11_isGood_21 rfl (lv_at hl 0 rfl) ?_
    refine lv_bipush (v := 70) hx hb dX11_isGood_22 rfl ?_
    refine lv_iconst (v := 4) hx hb dX11_isGood_24 rfl ?_
    refine lv_iload_n hx hb dX11_isGood_25 rfl (lv_at hl 1 rfl) ?_
    refine lv_imul hx hb dX11_isGood_26 ?_
    refine lv_iadd hx hb dX11_isGood_27 ?_
    refine lv_iconst (v := 0) hx hb dX11_isGood_28 rfl ?_
    refine lv_iadd hx hb dX11_isGood_29 ?_
    obtain ⟨h4, hf⟩ := gdI_some hf
    refine va_lald hx hb hC.1 hP 0 1 rfl rfl h4 dX11_isGood_30 ?_
    refine W.lcmp hx hb dX11_isGood_31 ?_
    refine lv_if_ne (tgt := 39) hx hb dX11_isGood_32 rfl (fun c5 => ?_) (fun c5 => ?_)
    · have hf := it_f hf c5
      refine lv_iconst (v := 0) hx hb dX11_isGood_39 rfl ?_
      cases Option.some.inj hf
      subst hQe
      exact en_z hx hb hr hlocks rfl dX11_isGood_40
    · have hf := it_t hf c5
      refine lv_iconst (v := 1) hx hb dX11_isGood_35 rfl ?_
      refine lv_goto (tgt := 40) hx hb dX11_isGood_36 rfl ?_
      cases Option.some.inj hf
      subst hQe
      exact en_z hx hb hr hlocks rfl dX11_isGood_40

/-! X11_isStale -/
abbrev rmX11_isStale : Room := { frames := 2, cells := 0, slots := 0, locals := 44 }
theorem hdS_X11_isStale : yX11_isStale.cls ≠ "java/lang/invoke/MethodHandle" ∧ yX11_isStale.cls ≠ "java/lang/invoke/VarHandle" ∧ (parseMethodDescriptor yX11_isStale.desc).map (fun d => d.parameters.length) = some 3 := by decide +kernel
set_option maxHeartbeats 4000000 in
set_option maxRecDepth 100000 in
theorem c_X11_isStale (l : Launch) (E : G0) (a0 : Nat) (v0 : (Nat → Int64)) (p1 : Int32) (p2 : Int32) (x : Bool) (hf : f_X11_isStale v0 p1 p2 = some x) : Met l yX11_isStale wsX11_isStale rmX11_isStale (va_Pc [.ref a0, .int p1, .int p2] (PR E (wLA E a0 340 v0))) (vp_Si (fun r => r = bI x)) 0 0 (fun _ => False) := by
  refine Met.ofW (cc := cX11_isStale) (maxL := 3) (ret := some .boolean) (by decide) rfl ?_
  intro p e s m args below meth c s₁ B hml hv
  obtain ⟨ha, hP, hC⟩ := hv
  have hx := B.exec
  have hb := B.bytes
  have hr := B.returns
  have hts := atoms_spec (ws := wsX11_isStale) B.pre
  have hown : s.vm.findClass RX11 = some m.cls := findClass_of_methodNamed B.named
  have hlocks := B.notSynchronized
  have hS : va_S (fun _ => False) s.heap s.heap [] := va_S.rf
  generalize hQe : MQ below (vp_Si (fun r => r = bI x)) args s 0 0 (fun _ => False) = Q
  refine st_W ha (Nat.le_of_ble_eq_true rfl) (fun ls hl => ?_)
  have hl : lv_has ls 3 [(0, .ref a0), (1, .int p1), (2, .int p2)] := hl
  unfold f_X11_isStale at hf
  refine lv_aload_n hx hb dX11_isStale_0 rfl (lv_at hl 0 rfl) ?_
  refine lv_iload_n hx hb dX11_isStale_1 rfl (lv_at hl 1 rfl) ?_
  refine lv_iload_n hx hb dX11_isStale_2 rfl (lv_at hl 2 rfl) ?_
  obtain ⟨r1, e1, hf⟩ := bd_some hf
  refine cr_l (va_runS (As := [.ref a0, .int p1, .int p2]) (rest := []) ⟨hx, hb, hml, hown, hts⟩ (c_X11_copy l E a0 v0 p1 p2 r1 e1) (va_cwS 3 hts gX11_isStale_X11_copy rfl rfl rfl hdS_X11_copy ⟨Nat.le_of_ble_eq_true rfl, Nat.le_of_ble_eq_true rfl⟩) ⟨PR.blind, PR.pre hC hS hP⟩ rfl rfl hl.1 rfl (lv_room (Nat.le_of_ble_eq_true rfl)) dX11_isStale_3 ⟨Nat.le_of_ble_eq_true rfl, Nat.le_of_ble_eq_true rfl⟩) ?_
  refine lv_lconst (v := 0) hx hb dX11_isStale_6 rfl ?_
  refine W.lcmp hx hb dX11_isStale_7 ?_
  refine lv_if_eq (tgt := 24) hx hb dX11_isStale_8 rfl (fun c2 => ?_) (fun c2 => ?_)
  · have hf := it_t hf c2
    refine lv_iconst (v := 0) hx hb dX11_isStale_24 rfl ?_
    cases Option.some.inj hf
    subst hQe
    exact en_z hx hb hr hlocks rfl dX11_isStale_25
  · have hf := it_f hf c2
    refine lv_aload_n hx hb dX11_isStale_11 rfl (lv_at hl 0 rfl) ?_
    refine lv_iload_n hx hb dX11_isStale_12 rfl (lv_at hl 1 rfl) ?_
    refine lv_iload_n hx hb dX11_isStale_13 rfl (lv_at hl 2 rfl) ?_
    obtain ⟨r3, e3, hf⟩ := bd_some hf
    refine cr_i (va_runS (As := [.ref a0, .int p1, .int p2]) (rest := []) ⟨hx, hb, hml, hown, hts⟩ (c_X11_isGood l E a0 v0 p1 p2 r3 e3) (va_cwS 3 hts gX11_isStale_X11_isGood rfl rfl rfl hdS_X11_isGood ⟨Nat.le_of_ble_eq_true rfl, Nat.le_of_ble_eq_true rfl⟩) ⟨PR.blind, PR.pre hC hS hP⟩ rfl rfl hl.1 rfl (lv_room (Nat.le_of_ble_eq_true rfl)) dX11_isStale_14 ⟨Nat.le_of_ble_eq_true rfl, Nat.le_of_ble_eq_true rfl⟩) ?_
    refine lv_if_ne (tgt := 24) hx hb dX11_isStale_17 rfl (fun c4 => ?_) (fun c4 => ?_)
    · have hf := it_f hf c4
      refine lv_iconst (v := 0) hx hb dX11_isStale_24 rfl ?_
      cases Option.some.inj hf
      subst hQe
      exact en_z hx hb hr hlocks rfl dX11_isStale_25
    · have hf := it_t hf c4
      refine lv_iconst (v := 1) hx hb dX11_isStale_20 rfl ?_
      refine lv_goto (tgt := 25) hx hb dX11_isStale_21 rfl ?_
      cases Option.some.inj hf
      subst hQe
      exact en_z hx hb hr hlocks rfl dX11_isStale_25

/-! X11_isAble -/
abbrev rmX11_isAble : Room := { frames := 2, cells := 0, slots := 0, locals := 44 }
theorem hdS_X11_isAble : yX11_isAble.cls ≠ "java/lang/invoke/MethodHandle" ∧ yX11_isAble.cls ≠ "java/lang/invoke/VarHandle" ∧ (parseMethodDescriptor yX11_isAble.desc).map (fun d => d.parameters.length) = some 3 := by decide +kernel
set_option maxHeartbeats 4000000 in
set_option maxRecDepth 100000 in
theorem c_X11_isAble (l : Launch) (E : G0) (a0 : Nat) (v0 : (Nat → Int64)) (p1 : Int32) (p2 : Int32) (x : Bool) (hf : f_X11_isAble v0 p1 p2 = some x) : Met l yX11_isAble wsX11_isAble rmX11_isAble (va_Pc [.ref a0, .int p1, .int p2] (PR E (wLA E a0 340 v0))) (vp_Si (fun r => r = bI x)) 0 0 (fun _ => False) := by
  refine Met.ofW (cc := cX11_isAble) (maxL := 3) (ret := some .boolean) (by decide) rfl ?_
  intro p e s m args below meth c s₁ B hml hv
  obtain ⟨ha, hP, hC⟩ := hv
  have hx := B.exec
  have hb := B.bytes
  have hr := B.returns
  have hts := atoms_spec (ws := wsX11_isAble) B.pre
  have hown : s.vm.findClass RX11 = some m.cls := findClass_of_methodNamed B.named
  have hlocks := B.notSynchronized
  have hS : va_S (fun _ => False) s.heap s.heap [] := va_S.rf
  generalize hQe : MQ below (vp_Si (fun r => r = bI x)) args s 0 0 (fun _ => False) = Q
  refine st_W ha (Nat.le_of_ble_eq_true rfl) (fun ls hl => ?_)
  have hl : lv_has ls 3 [(0, .ref a0), (1, .int p1), (2, .int p2)] := hl
  unfold f_X11_isAble at hf
  refine lv_aload_n hx hb dX11_isAble_0 rfl (lv_at hl 0 rfl) ?_
  refine lv_iload_n hx hb dX11_isAble_1 rfl (lv_at hl 2 rfl) ?_
  obtain ⟨r1, e1, hf⟩ := bd_some hf
  refine cr_i (va_runS (As := [.ref a0, .int p2]) (rest := []) ⟨hx, hb, hml, hown, hts⟩ (c_X11_isUp l E a0 v0 p2 r1 e1) (va_cwS 2 hts gX11_isAble_X11_isUp rfl rfl rfl hdS_X11_isUp ⟨Nat.le_of_ble_eq_true rfl, Nat.le_of_ble_eq_true rfl⟩) ⟨PR.blind, PR.pre hC hS hP⟩ rfl rfl hl.1 rfl (lv_room (Nat.le_of_ble_eq_true rfl)) dX11_isAble_2 ⟨Nat.le_of_ble_eq_true rfl, Nat.le_of_ble_eq_true rfl⟩) ?_
  refine lv_if_eq (tgt := 21) hx hb dX11_isAble_5 rfl (fun c2 => ?_) (fun c2 => ?_)
  · have hf := it_t hf c2
    refine lv_iconst (v := 0) hx hb dX11_isAble_21 rfl ?_
    cases Option.some.inj hf
    subst hQe
    exact en_z hx hb hr hlocks rfl dX11_isAble_22
  · have hf := it_f hf c2
    refine lv_aload_n hx hb dX11_isAble_8 rfl (lv_at hl 0 rfl) ?_
    refine lv_iload_n hx hb dX11_isAble_9 rfl (lv_at hl 1 rfl) ?_
    refine lv_iload_n hx hb dX11_isAble_10 rfl (lv_at hl 2 rfl) ?_
    obtain ⟨r3, e3, hf⟩ := bd_some hf
    refine cr_i (va_runS (As := [.ref a0, .int p1, .int p2]) (rest := []) ⟨hx, hb, hml, hown, hts⟩ (c_X11_isGood l E a0 v0 p1 p2 r3 e3) (va_cwS 3 hts gX11_isAble_X11_isGood rfl rfl rfl hdS_X11_isGood ⟨Nat.le_of_ble_eq_true rfl, Nat.le_of_ble_eq_true rfl⟩) ⟨PR.blind, PR.pre hC hS hP⟩ rfl rfl hl.1 rfl (lv_room (Nat.le_of_ble_eq_true rfl)) dX11_isAble_11 ⟨Nat.le_of_ble_eq_true rfl, Nat.le_of_ble_eq_true rfl⟩) ?_
    refine lv_if_eq (tgt := 21) hx hb dX11_isAble_14 rfl (fun c4 => ?_) (fun c4 => ?_)
    · have hf := it_t hf c4
      refine lv_iconst (v := 0) hx hb dX11_isAble_21 rfl ?_
      cases Option.some.inj hf
      subst hQe
      exact en_z hx hb hr hlocks rfl dX11_isAble_22
    · have hf := it_f hf c4
      refine lv_iconst (v := 1) hx hb dX11_isAble_17 rfl ?_
      refine lv_goto (tgt := 22) hx hb dX11_isAble_18 rfl ?_
      cases Option.some.inj hf
      subst hQe
      exact en_z hx hb hr hlocks rfl dX11_isAble_22

/-! X11_ups -/
abbrev rmX11_ups : Room := { frames := 1, cells := 0, slots := 0, locals := 21 }
theorem hdS_X11_ups : yX11_ups.cls ≠ "java/lang/invoke/MethodHandle" ∧ yX11_ups.cls ≠ "java/lang/invoke/VarHandle" ∧ (parseMethodDescriptor yX11_ups.desc).map (fun d => d.parameters.length) = some 1 := by decide +kernel
set_option maxHeartbeats 4000000 in
set_option maxRecDepth 100000 in
theorem c_X11_ups (l : Launch) (E : G0) (a0 : Nat) (v0 : (Nat → Int64)) (x : Int32) (hf : f_X11_ups v0 = some x) : Met l yX11_ups wsX11_ups rmX11_ups (va_Pc [.ref a0] (PR E (wLA E a0 340 v0))) (vp_Si (fun r => r = x)) 0 0 (fun _ => False) := by
  refine Met.ofW (cc := cX11_ups) (maxL := 3) (ret := some .int) (by decide) rfl ?_
  intro p e s m args below meth c s₁ B hml hv
  obtain ⟨ha, hP, hC⟩ := hv
  have hx := B.exec
  have hb := B.bytes
  have hr := B.returns
  have hts := atoms_spec (ws := wsX11_ups) B.pre
  have hown : s.vm.findClass RX11 = some m.cls := findClass_of_methodNamed B.named
  have hlocks := B.notSynchronized
  have hS : va_S (fun _ => False) s.heap s.heap [] := va_S.rf
  generalize hQe : MQ below (vp_Si (fun r => r = x)) args s 0 0 (fun _ => False) = Q
  refine st_W ha (Nat.le_of_ble_eq_true rfl) (fun ls hl => ?_)
  have hl : lv_has ls 3 [(0, .ref a0)] := hl
  unfold f_X11_ups at hf
  refine lv_iconst (v := 0) hx hb dX11_ups_0 rfl ?_
  refine lv_istore_n (lv' := [(1, .int (0 : Int32)), (0, .ref a0)]) hx hb dX11_ups_1 rfl hl (by decide) rfl (fun ls hl => ?_)
  refine lv_iconst (v := 0) hx hb dX11_ups_2 rfl ?_
  refine lv_istore_n (lv' := [(2, .int (0 : Int32)), (1, .int (0 : Int32)), (0, .ref a0)]) hx hb dX11_ups_3 rfl hl (by decide) rfl (fun ls hl => ?_)
  obtain ⟨K1, hK1, hf⟩ := jn_some hf
  have J1 : ∀ (q1 : Int32 × Int32) (ls : Array Slot) (hl : lv_has ls 3 [(1, .int q1.1)]) (hf : K1 q1 = some x), W p l e (headSpec wsX11_ups rmX11_ups).room s m args below meth c s.heap [] 0 0 Q (F0 m 37 ls []) := by
    intro q1 ls hl hf
    have hf := (hK1 q1).trans hf
    refine lv_iload_n hx hb dX11_ups_37 rfl (lv_at hl 0 rfl) ?_
    cases Option.some.inj hf
    subst hQe
    exact en_i hx hb hr hlocks dX11_ups_38
  have L1 : ∀ (n : Nat) (q1 : Int32 × Int32) (ls : Array Slot) (hl : lv_has ls 3 [(0, .ref a0), (1, .int q1.1), (2, .int q1.2)]) (hf : lpF (bX11_ups_1 v0 K1) n q1 = some x), W p l e (headSpec wsX11_ups rmX11_ups).room s m args below meth c s.heap [] 0 0 Q (F0 m 4 ls []) := by
    intro n
    induction n with
    | zero => intro q1 ls hl hf; exact (lpF_zero hf).elim
    | succ n ih1 =>
      intro q1 ls hl hf
      have hf := lpF_succ hf
      unfold bX11_ups_1 at hf
      refine lv_iload_n hx hb dX11_ups_4 rfl (lv_at hl 2 rfl) ?_
      refine lv_i2l hx hb dX11_ups_5 rfl ?_
      refine lv_aload_n hx hb dX11_ups_6 rfl (lv_at hl 0 rfl) ?_
      refine lv_iconst (v := 0) hx hb dX11_ups_7 rfl ?_
      obtain ⟨h2, hf⟩ := gdI_some hf
      refine va_lald hx hb hC.1 hP 0 1 rfl rfl h2 dX11_ups_8 ?_
      refine W.lcmp hx hb dX11_ups_9 ?_
      refine lv_if_ge (tgt := 37) hx hb dX11_ups_10 rfl (fun c3 => ?_) (fun c3 => ?_)
      · have hf := it_t hf c3
        exact J1 (q1.1, q1.2) ls (lv_sub hl [1] rfl) hf
      · have hf := it_f hf c3
        refine lv_iload_n hx hb dX11_ups_13 rfl (lv_at hl 1 rfl) ?_
        refine lv_aload_n hx hb dX11_ups_14 rfl (lv_at hl 0 rfl) ?_
        refine lv_iload_n hx hb dX11_ups_15 rfl (lv_at hl 2 rfl) ?_
        obtain ⟨r4, e4, hf⟩ := bd_some hf
        refine cr_i (va_runS (As := [.ref a0, .int q1.2]) (rest := [.int q1.1]) ⟨hx, hb, hml, hown, hts⟩ (c_X11_isUp l E a0 v0 q1.2 r4 e4) (va_cwS 2 hts gX11_ups_X11_isUp rfl rfl rfl hdS_X11_isUp ⟨Nat.le_of_ble_eq_true rfl, Nat.le_of_ble_eq_true rfl⟩) ⟨PR.blind, PR.pre hC hS hP⟩ rfl rfl hl.1 rfl (lv_room (Nat.le_of_ble_eq_true rfl)) dX11_ups_16 ⟨Nat.le_of_ble_eq_true rfl, Nat.le_of_ble_eq_true rfl⟩) ?_
        refine lv_if_eq (tgt := 28) hx hb dX11_ups_19 rfl (fun c5 => ?_) (fun c5 => ?_)
        · have hf := it_t hf c5
          refine lv_iconst (v := 0) hx hb dX11_ups_28 rfl ?_
          refine lv_ior hx hb dX11_ups_29 ?_
          refine lv_istore_n (lv' := [(1, .int (q1.1 ||| (0 : Int32))), (0, .ref a0), (2, .int q1.2)]) hx hb dX11_ups_30 rfl hl (by decide) rfl (fun ls hl => ?_)
          refine lv_iinc (v := (q1.2 + 1)) (lv' := [(2, .int (q1.2 + 1)), (1, .int (q1.1 ||| (0 : Int32))), (0, .ref a0)]) hx hb dX11_ups_31 hl (k := 2) rfl rfl (by decide) rfl (fun ls hl => ?_)
          refine lv_goto (tgt := 4) hx hb dX11_ups_34 rfl ?_
          exact ih1 ((q1.1 ||| (0 : Int32)), (q1.2 + 1)) ls (lv_sub hl [2, 1, 0] rfl) hf
        · have hf := it_f hf c5
          refine lv_iconst (v := 1) hx hb dX11_ups_22 rfl ?_
          refine lv_iload_n hx hb dX11_ups_23 rfl (lv_at hl 2 rfl) ?_
          refine lv_ishl hx hb dX11_ups_24 ?_
          refine lv_goto (tgt := 29) hx hb dX11_ups_25 rfl ?_
          refine lv_ior hx hb dX11_ups_29 ?_
          refine lv_istore_n (lv' := [(1, .int (q1.1 ||| ((1 : Int32) <<< (q1.2 &&& 31)))), (0, .ref a0), (2, .int q1.2)]) hx hb dX11_ups_30 rfl hl (by decide) rfl (fun ls hl => ?_)
          refine lv_iinc (v := (q1.2 + 1)) (lv' := [(2, .int (q1.2 + 1)), (1, .int (q1.1 ||| ((1 : Int32) <<< (q1.2 &&& 31)))), (0, .ref a0)]) hx hb dX11_ups_31 hl (k := 2) rfl rfl (by decide) rfl (fun ls hl => ?_)
          refine lv_goto (tgt := 4) hx hb dX11_ups_34 rfl ?_
          exact ih1 ((q1.1 ||| ((1 : Int32) <<< (q1.2 &&& 31))), (q1.2 + 1)) ls (lv_sub hl [2, 1, 0] rfl) hf
  exact L1 FU ((0 : Int32), (0 : Int32)) ls (lv_sub hl [2, 1, 0] rfl) hf

/-! X11_ables -/
abbrev rmX11_ables : Room := { frames := 3, cells := 0, slots := 0, locals := 66 }
theorem hdS_X11_ables : yX11_ables.cls ≠ "java/lang/invoke/MethodHandle" ∧ yX11_ables.cls ≠ "java/lang/invoke/VarHandle" ∧ (parseMethodDescriptor yX11_ables.desc).map (fun d => d.parameters.length) = some 2 := by decide +kernel
set_option maxHeartbeats 4000000 in
set_option maxRecDepth 100000 in
theorem c_X11_ables (l : Launch) (E : G0) (a0 : Nat) (v0 : (Nat → Int64)) (p1 : Int32) (x : Int32) (hf : f_X11_ables v0 p1 = some x) : Met l yX11_ables wsX11_ables rmX11_ables (va_Pc [.ref a0, .int p1] (PR E (wLA E a0 340 v0))) (vp_Si (fun r => r = x)) 0 0 (fun _ => False) := by
  refine Met.ofW (cc := cX11_ables) (maxL := 4) (ret := some .int) (by decide) rfl ?_
  intro p e s m args below meth c s₁ B hml hv
  obtain ⟨ha, hP, hC⟩ := hv
  have hx := B.exec
  have hb := B.bytes
  have hr := B.returns
  have hts := atoms_spec (ws := wsX11_ables) B.pre
  have hown : s.vm.findClass RX11 = some m.cls := findClass_of_methodNamed B.named
  have hlocks := B.notSynchronized
  have hS : va_S (fun _ => False) s.heap s.heap [] := va_S.rf
  generalize hQe : MQ below (vp_Si (fun r => r = x)) args s 0 0 (fun _ => False) = Q
  refine st_W ha (Nat.le_of_ble_eq_true rfl) (fun ls hl => ?_)
  have hl : lv_has ls 4 [(0, .ref a0), (1, .int p1)] := hl
  unfold f_X11_ables at hf
  refine lv_iconst (v := 0) hx hb dX11_ables_0 rfl ?_
  refine lv_istore_n (lv' := [(2, .int (0 : Int32)), (0, .ref a0), (1, .int p1)]) hx hb dX11_ables_1 rfl hl (by decide) rfl (fun ls hl => ?_)
  refine lv_iconst (v := 0) hx hb dX11_ables_2 rfl ?_
  refine lv_istore_n (lv' := [(3, .int (0 : Int32)), (2, .int (0 : Int32)), (0, .ref a0), (1, .int p1)]) hx hb dX11_ables_3 rfl hl (by decide) rfl (fun ls hl => ?_)
  obtain ⟨K1, hK1, hf⟩ := jn_some hf
  have J1 : ∀ (q1 : Int32 × Int32) (ls : Array Slot) (hl : lv_has ls 4 [(2, .int q1.1)]) (hf : K1 q1 = some x), W p l e (headSpec wsX11_ables rmX11_ables).room s m args below meth c s.heap [] 0 0 Q (F0 m 38 ls []) := by
    intro q1 ls hl hf
    have hf := (hK1 q1).trans hf
    refine lv_iload_n hx hb dX11_ables_38 rfl (lv_at hl 0 rfl) ?_
    cases Option.some.inj hf
    subst hQe
    exact en_i hx hb hr hlocks dX11_ables_39
  have L1 : ∀ (n : Nat) (q1 : Int32 × Int32) (ls : Array Slot) (hl : lv_has ls 4 [(0, .ref a0), (1, .int p1), (2, .int q1.1), (3, .int q1.2)]) (hf : lpF (bX11_ables_1 v0 p1 K1) n q1 = some x), W p l e (headSpec wsX11_ables rmX11_ables).room s m args below meth c s.heap [] 0 0 Q (F0 m 4 ls []) := by
    intro n
    induction n with
    | zero => intro q1 ls hl hf; exact (lpF_zero hf).elim
    | succ n ih1 =>
      intro q1 ls hl hf
      have hf := lpF_succ hf
      unfold bX11_ables_1 at hf
      refine lv_iload_n hx hb dX11_ables_4 rfl (lv_at hl 3 rfl) ?_
      refine lv_i2l hx hb dX11_ables_5 rfl ?_
      refine lv_aload_n hx hb dX11_ables_6 rfl (lv_at hl 0 rfl) ?_
      refine lv_iconst (v := 0) hx hb dX11_ables_7 rfl ?_
      obtain ⟨h2, hf⟩ := gdI_some hf
      refine va_lald hx hb hC.1 hP 0 1 rfl rfl h2 dX11_ables_8 ?_
      refine W.lcmp hx hb dX11_ables_9 ?_
      refine lv_if_ge (tgt := 38) hx hb dX11_ables_10 rfl (fun c3 => ?_) (fun c3 => ?_)
      · have hf := it_t hf c3
        exact J1 (q1.1, q1.2) ls (lv_sub hl [2] rfl) hf
      · have hf := it_f hf c3
        refine lv_iload_n hx hb dX11_ables_13 rfl (lv_at hl 2 rfl) ?_
        refine lv_aload_n hx hb dX11_ables_14 rfl (lv_at hl 0 rfl) ?_
        refine lv_iload_n hx hb dX11_ables_15 rfl (lv_at hl 1 rfl) ?_
        refine lv_iload_n hx hb dX11_ables_16 rfl (lv_at hl 3 rfl) ?_
        obtain ⟨r4, e4, hf⟩ := bd_some hf
        refine cr_i (va_runS (As := [.ref a0, .int p1, .int q1.2]) (rest := [.int q1.1]) ⟨hx, hb, hml, hown, hts⟩ (c_X11_isAble l E a0 v0 p1 q1.2 r4 e4) (va_cwS 3 hts gX11_ables_X11_isAble rfl rfl rfl hdS_X11_isAble ⟨Nat.le_of_ble_eq_true rfl, Nat.le_of_ble_eq_true rfl⟩) ⟨PR.blind, PR.pre hC hS hP⟩ rfl rfl hl.1 rfl (lv_room (Nat.le_of_ble_eq_true rfl)) dX11_ables_17 ⟨Nat.le_of_ble_eq_true rfl, Nat.le_of_ble_eq_true rfl⟩) ?_
        refine lv_if_eq (tgt := 29) hx hb dX11_ables_20 rfl (fun c5 => ?_) (fun c5 => ?_)
        · have hf := it_t hf c5
          refine lv_iconst (v := 0) hx hb dX11_ables_29 rfl ?_
          refine lv_ior hx hb dX11_ables_30 ?_
          refine lv_istore_n (lv' := [(2, .int (q1.1 ||| (0 : Int32))), (0, .ref a0), (1, .int p1), (3, .int q1.2)]) hx hb dX11_ables_31 rfl hl (by decide) rfl (fun ls hl => ?_)
          refine lv_iinc (v := (q1.2 + 1)) (lv' := [(3, .int (q1.2 + 1)), (2, .int (q1.1 ||| (0 : Int32))), (0, .ref a0), (1, .int p1)]) hx hb dX11_ables_32 hl (k := 3) rfl rfl (by decide) rfl (fun ls hl => ?_)
          refine lv_goto (tgt := 4) hx hb dX11_ables_35 rfl ?_
          exact ih1 ((q1.1 ||| (0 : Int32)), (q1.2 + 1)) ls (lv_sub hl [2, 3, 1, 0] rfl) hf
        · have hf := it_f hf c5
          refine lv_iconst (v := 1) hx hb dX11_ables_23 rfl ?_
          refine lv_iload_n hx hb dX11_ables_24 rfl (lv_at hl 3 rfl) ?_
          refine lv_ishl hx hb dX11_ables_25 ?_
          refine lv_goto (tgt := 30) hx hb dX11_ables_26 rfl ?_
          refine lv_ior hx hb dX11_ables_30 ?_
          refine lv_istore_n (lv' := [(2, .int (q1.1 ||| ((1 : Int32) <<< (q1.2 &&& 31)))), (0, .ref a0), (1, .int p1), (3, .int q1.2)]) hx hb dX11_ables_31 rfl hl (by decide) rfl (fun ls hl => ?_)
          refine lv_iinc (v := (q1.2 + 1)) (lv' := [(3, .int (q1.2 + 1)), (2, .int (q1.1 ||| ((1 : Int32) <<< (q1.2 &&& 31)))), (0, .ref a0), (1, .int p1)]) hx hb dX11_ables_32 hl (k := 3) rfl rfl (by decide) rfl (fun ls hl => ?_)
          refine lv_goto (tgt := 4) hx hb dX11_ables_35 rfl ?_
          exact ih1 ((q1.1 ||| ((1 : Int32) <<< (q1.2 &&& 31))), (q1.2 + 1)) ls (lv_sub hl [2, 3, 1, 0] rfl) hf
  exact L1 FU ((0 : Int32), (0 : Int32)) ls (lv_sub hl [2, 3, 1, 0] rfl) hf

/-! X11_least -/
abbrev rmX11_least : Room := { frames := 1, cells := 0, slots := 0, locals := 21 }
theorem hdS_X11_least : yX11_least.cls ≠ "java/lang/invoke/MethodHandle" ∧ yX11_least.cls ≠ "java/lang/invoke/VarHandle" ∧ (parseMethodDescriptor yX11_least.desc).map (fun d => d.parameters.length) = some 1 := by decide +kernel
set_option maxHeartbeats 4000000 in
set_option maxRecDepth 100000 in
theorem c_X11_least (l : Launch) (E : G0) (p0 : Int32) (x : Int32) (hf : f_X11_least p0 = some x) : Met l yX11_least wsX11_least rmX11_least (va_Pc [.int p0] (PR E ([] : va_W))) (vp_Si (fun r => r = x)) 0 0 (fun _ => False) := by
  refine Met.ofW (cc := cX11_least) (maxL := 2) (ret := some .int) (by decide) rfl ?_
  intro p e s m args below meth c s₁ B hml hv
  obtain ⟨ha, hP, hC⟩ := hv
  have hx := B.exec
  have hb := B.bytes
  have hr := B.returns
  have hts := atoms_spec (ws := wsX11_least) B.pre
  have hown : s.vm.findClass RX11 = some m.cls := findClass_of_methodNamed B.named
  have hlocks := B.notSynchronized
  have hS : va_S (fun _ => False) s.heap s.heap [] := va_S.rf
  generalize hQe : MQ below (vp_Si (fun r => r = x)) args s 0 0 (fun _ => False) = Q
  refine st_W ha (Nat.le_of_ble_eq_true rfl) (fun ls hl => ?_)
  have hl : lv_has ls 2 [(0, .int p0)] := hl
  unfold f_X11_least at hf
  refine lv_iconst (v := 0) hx hb dX11_least_0 rfl ?_
  refine lv_istore_n (lv' := [(1, .int (0 : Int32)), (0, .int p0)]) hx hb dX11_least_1 rfl hl (by decide) rfl (fun ls hl => ?_)
  obtain ⟨K1, hK1, hf⟩ := jn_some hf
  have J1 : ∀ (q1 : Int32) (ls : Array Slot) (hl : lv_has ls 2 [(1, .int q1)]) (hf : K1 q1 = some x), W p l e (headSpec wsX11_least rmX11_least).room s m args below meth c s.heap [] 0 0 Q (F0 m 21 ls []) := by
    intro q1 ls hl hf
    have hf := (hK1 q1).trans hf
    refine lv_iload_n hx hb dX11_least_21 rfl (lv_at hl 0 rfl) ?_
    cases Option.some.inj hf
    subst hQe
    exact en_i hx hb hr hlocks dX11_least_22
  have L1 : ∀ (n : Nat) (q1 : Int32) (ls : Array Slot) (hl : lv_has ls 2 [(0, .int p0), (1, .int q1)]) (hf : lpF (bX11_least_1 p0 K1) n q1 = some x), W p l e (headSpec wsX11_least rmX11_least).room s m args below meth c s.heap [] 0 0 Q (F0 m 2 ls []) := by
    intro n
    induction n with
    | zero => intro q1 ls hl hf; exact (lpF_zero hf).elim
    | succ n ih1 =>
      intro q1 ls hl hf
      have hf := lpF_succ hf
      unfold bX11_least_1 at hf
      refine lv_iload_n hx hb dX11_least_2 rfl (lv_at hl 1 rfl) ?_
      refine lv_iconst (v := 5) hx hb dX11_least_3 rfl ?_
      refine lv_icmp_ge (tgt := 21) hx hb dX11_least_4 rfl (fun c2 => ?_) (fun c2 => ?_)
      · have hf := it_t hf c2
        exact J1 q1 ls (lv_sub hl [1] rfl) hf
      · have hf := it_f hf c2
        refine lv_iload_n hx hb dX11_least_7 rfl (lv_at hl 0 rfl) ?_
        refine lv_iload_n hx hb dX11_least_8 rfl (lv_at hl 1 rfl) ?_
        refine cr_i (va_runS (As := [.int p0, .int q1]) (rest := []) ⟨hx, hb, hml, hown, hts⟩ (c_X11_has l E p0 q1 _ rfl) (va_cwS 2 hts gX11_least_X11_has rfl rfl rfl hdS_X11_has ⟨Nat.le_of_ble_eq_true rfl, Nat.le_of_ble_eq_true rfl⟩) ⟨PR.blind, PR.pre hC hS hP⟩ rfl rfl hl.1 rfl (lv_room (Nat.le_of_ble_eq_true rfl)) dX11_least_9 ⟨Nat.le_of_ble_eq_true rfl, Nat.le_of_ble_eq_true rfl⟩) ?_
        refine lv_if_ne (tgt := 21) hx hb dX11_least_12 rfl (fun c3 => ?_) (fun c3 => ?_)
        · have hf := it_f hf c3
          exact J1 q1 ls (lv_sub hl [1] rfl) hf
        · have hf := it_t hf c3
          refine lv_iinc (v := (q1 + 1)) (lv' := [(1, .int (q1 + 1)), (0, .int p0)]) hx hb dX11_least_15 hl (k := 1) rfl rfl (by decide) rfl (fun ls hl => ?_)
          refine lv_goto (tgt := 2) hx hb dX11_least_18 rfl ?_
          exact ih1 (q1 + 1) ls (lv_sub hl [1, 0] rfl) hf
  exact L1 FU (0 : Int32) ls (lv_sub hl [1, 0] rfl) hf

/-! X11_lying -/
abbrev rmX11_lying : Room := { frames := 1, cells := 0, slots := 0, locals := 22 }
theorem hdS_X11_lying : yX11_lying.cls ≠ "java/lang/invoke/MethodHandle" ∧ yX11_lying.cls ≠ "java/lang/invoke/VarHandle" ∧ (parseMethodDescriptor yX11_lying.desc).map (fun d => d.parameters.length) = some 2 := by decide +kernel
set_option maxHeartbeats 4000000 in
set_option maxRecDepth 100000 in
theorem c_X11_lying (l : Launch) (E : G0) (a0 : Nat) (v0 : (Nat → Int64)) (p1 : Int32) (x : Int32) (hf : f_X11_lying v0 p1 = some x) : Met l yX11_lying wsX11_lying rmX11_lying (va_Pc [.ref a0, .int p1] (PR E (wLA E a0 340 v0))) (vp_Si (fun r => r = x)) 0 0 (fun _ => False) := by
  refine Met.ofW (cc := cX11_lying) (maxL := 4) (ret := some .int) (by decide) rfl ?_
  intro p e s m args below meth c s₁ B hml hv
  obtain ⟨ha, hP, hC⟩ := hv
  have hx := B.exec
  have hb := B.bytes
  have hr := B.returns
  have hts := atoms_spec (ws := wsX11_lying) B.pre
  have hown : s.vm.findClass RX11 = some m.cls := findClass_of_methodNamed B.named
  have hlocks := B.notSynchronized
  have hS : va_S (fun _ => False) s.heap s.heap [] := va_S.rf
  generalize hQe : MQ below (vp_Si (fun r => r = x)) args s 0 0 (fun _ => False) = Q
  refine st_W ha (Nat.le_of_ble_eq_true rfl) (fun ls hl => ?_)
  have hl : lv_has ls 4 [(0, .ref a0), (1, .int p1)] := hl
  unfold f_X11_lying at hf
  refine lv_iconst (v := 0) hx hb dX11_lying_0 rfl ?_
  refine lv_istore_n (lv' := [(2, .int (0 : Int32)), (0, .ref a0), (1, .int p1)]) hx hb dX11_lying_1 rfl hl (by decide) rfl (fun ls hl => ?_)
  refine lv_iconst (v := 0) hx hb dX11_lying_2 rfl ?_
  refine lv_istore_n (lv' := [(3, .int (0 : Int32)), (2, .int (0 : Int32)), (0, .ref a0), (1, .int p1)]) hx hb dX11_lying_3 rfl hl (by decide) rfl (fun ls hl => ?_)
  obtain ⟨K1, hK1, hf⟩ := jn_some hf
  have J1 : ∀ (q1 : Int32 × Int32) (ls : Array Slot) (hl : lv_has ls 4 [(2, .int q1.1)]) (hf : K1 q1 = some x), W p l e (headSpec wsX11_lying rmX11_lying).room s m args below meth c s.heap [] 0 0 Q (F0 m 39 ls []) := by
    intro q1 ls hl hf
    have hf := (hK1 q1).trans hf
    refine lv_iload_n hx hb dX11_lying_39 rfl (lv_at hl 0 rfl) ?_
    cases Option.some.inj hf
    subst hQe
    exact en_i hx hb hr hlocks dX11_lying_40
  have L1 : ∀ (n : Nat) (q1 : Int32 × Int32) (ls : Array Slot) (hl : lv_has ls 4 [(0, .ref a0), (1, .int p1), (2, .int q1.1), (3, .int q1.2)]) (hf : lpF (bX11_lying_1 v0 p1 K1) n q1 = some x), W p l e (headSpec wsX11_lying rmX11_lying).room s m args below meth c s.heap [] 0 0 Q (F0 m 4 ls []) := by
    intro n
    induction n with
    | zero => intro q1 ls hl hf; exact (lpF_zero hf).elim
    | succ n ih1 =>
      intro q1 ls hl hf
      have hf := lpF_succ hf
      unfold bX11_lying_1 at hf
      refine lv_iload_n hx hb dX11_lying_4 rfl (lv_at hl 3 rfl) ?_
      refine lv_i2l hx hb dX11_lying_5 rfl ?_
      refine lv_aload_n hx hb dX11_lying_6 rfl (lv_at hl 0 rfl) ?_
      refine lv_bipush (v := 6) hx hb dX11_lying_7 rfl ?_
      obtain ⟨h2, hf⟩ := gdI_some hf
      refine va_lald hx hb hC.1 hP 0 1 rfl rfl h2 dX11_lying_9 ?_
      refine W.lcmp hx hb dX11_lying_10 ?_
      refine lv_if_ge (tgt := 39) hx hb dX11_lying_11 rfl (fun c3 => ?_) (fun c3 => ?_)
      · have hf := it_t hf c3
        exact J1 (q1.1, q1.2) ls (lv_sub hl [2] rfl) hf
      · have hf := it_f hf c3
        refine lv_iload_n hx hb dX11_lying_14 rfl (lv_at hl 2 rfl) ?_
        refine lv_aload_n hx hb dX11_lying_15 rfl (lv_at hl 0 rfl) ?_
        refine lv_iload_n hx hb dX11_lying_16 rfl (lv_at hl 3 rfl) ?_
        refine lv_iload_n hx hb dX11_lying_17 rfl (lv_at hl 1 rfl) ?_
        obtain ⟨r4, e4, hf⟩ := bd_some hf
        refine cr_l (va_runS (As := [.ref a0, .int q1.2, .int p1]) (rest := [.int q1.1]) ⟨hx, hb, hml, hown, hts⟩ (c_X11_copy l E a0 v0 q1.2 p1 r4 e4) (va_cwS 3 hts gX11_lying_X11_copy rfl rfl rfl hdS_X11_copy ⟨Nat.le_of_ble_eq_true rfl, Nat.le_of_ble_eq_true rfl⟩) ⟨PR.blind, PR.pre hC hS hP⟩ rfl rfl hl.1 rfl (lv_room (Nat.le_of_ble_eq_true rfl)) dX11_lying_18 ⟨Nat.le_of_ble_eq_true rfl, Nat.le_of_ble_eq_true rfl⟩) ?_
        refine lv_lconst (v := 0) hx hb dX11_lying_21 rfl ?_
        refine W.lcmp hx hb dX11_lying_22 ?_
        refine lv_if_eq (tgt := 30) hx hb dX11_lying_23 rfl (fun c5 => ?_) (fun c5 => ?_)
        · have hf := it_t hf c5
          refine lv_iconst (v := 0) hx hb dX11_lying_30 rfl ?_
          refine lv_iadd hx hb dX11_lying_31 ?_
          refine lv_istore_n (lv' := [(2, .int (q1.1 + (0 : Int32))), (0, .ref a0), (1, .int p1), (3, .int q1.2)]) hx hb dX11_lying_32 rfl hl (by decide) rfl (fun ls hl => ?_)
          refine lv_iinc (v := (q1.2 + 1)) (lv' := [(3, .int (q1.2 + 1)), (2, .int (q1.1 + (0 : Int32))), (0, .ref a0), (1, .int p1)]) hx hb dX11_lying_33 hl (k := 3) rfl rfl (by decide) rfl (fun ls hl => ?_)
          refine lv_goto (tgt := 4) hx hb dX11_lying_36 rfl ?_
          exact ih1 ((q1.1 + (0 : Int32)), (q1.2 + 1)) ls (lv_sub hl [2, 3, 1, 0] rfl) hf
        · have hf := it_f hf c5
          refine lv_iconst (v := 1) hx hb dX11_lying_26 rfl ?_
          refine lv_goto (tgt := 31) hx hb dX11_lying_27 rfl ?_
          refine lv_iadd hx hb dX11_lying_31 ?_
          refine lv_istore_n (lv' := [(2, .int (q1.1 + (1 : Int32))), (0, .ref a0), (1, .int p1), (3, .int q1.2)]) hx hb dX11_lying_32 rfl hl (by decide) rfl (fun ls hl => ?_)
          refine lv_iinc (v := (q1.2 + 1)) (lv' := [(3, .int (q1.2 + 1)), (2, .int (q1.1 + (1 : Int32))), (0, .ref a0), (1, .int p1)]) hx hb dX11_lying_33 hl (k := 3) rfl rfl (by decide) rfl (fun ls hl => ?_)
          refine lv_goto (tgt := 4) hx hb dX11_lying_36 rfl ?_
          exact ih1 ((q1.1 + (1 : Int32)), (q1.2 + 1)) ls (lv_sub hl [2, 3, 1, 0] rfl) hf
  exact L1 FU ((0 : Int32), (0 : Int32)) ls (lv_sub hl [2, 3, 1, 0] rfl) hf

/-! X11_load -/
abbrev rmX11_load : Room := { frames := 2, cells := 0, slots := 0, locals := 45 }
theorem hdS_X11_load : yX11_load.cls ≠ "java/lang/invoke/MethodHandle" ∧ yX11_load.cls ≠ "java/lang/invoke/VarHandle" ∧ (parseMethodDescriptor yX11_load.desc).map (fun d => d.parameters.length) = some 2 := by decide +kernel
set_option maxHeartbeats 4000000 in
set_option maxRecDepth 100000 in
theorem c_X11_load (l : Launch) (E : G0) (a0 : Nat) (v0 : (Nat → Int64)) (p1 : Int32) (x : UInt32) (hf : f_X11_load v0 p1 = some x) : Met l yX11_load wsX11_load rmX11_load (va_Pc [.ref a0, .int p1] (PR E (wLA E a0 340 v0))) (vp_Sf (fun r => r = x)) 0 0 (fun _ => False) := by
  refine Met.ofW (cc := cX11_load) (maxL := 2) (ret := some .float) (by decide) rfl ?_
  intro p e s m args below meth c s₁ B hml hv
  obtain ⟨ha, hP, hC⟩ := hv
  have hx := B.exec
  have hb := B.bytes
  have hr := B.returns
  have hts := atoms_spec (ws := wsX11_load) B.pre
  have hown : s.vm.findClass RX11 = some m.cls := findClass_of_methodNamed B.named
  have hlocks := B.notSynchronized
  have hS : va_S (fun _ => False) s.heap s.heap [] := va_S.rf
  generalize hQe : MQ below (vp_Sf (fun r => r = x)) args s 0 0 (fun _ => False) = Q
  refine st_W ha (Nat.le_of_ble_eq_true rfl) (fun ls hl => ?_)
  have hl : lv_has ls 2 [(0, .ref a0), (1, .int p1)] := hl
  unfold f_X11_load at hf
  refine lv_aload_n hx hb dX11_load_0 rfl (lv_at hl 0 rfl) ?_
  refine lv_iload_n hx hb dX11_load_1 rfl (lv_at hl 1 rfl) ?_
  obtain ⟨r1, e1, hf⟩ := bd_some hf
  refine cr_i (va_runS (As := [.ref a0, .int p1]) (rest := []) ⟨hx, hb, hml, hown, hts⟩ (c_X11_lying l E a0 v0 p1 r1 e1) (va_cwS 2 hts gX11_load_X11_lying rfl rfl rfl hdS_X11_lying ⟨Nat.le_of_ble_eq_true rfl, Nat.le_of_ble_eq_true rfl⟩) ⟨PR.blind, PR.pre hC hS hP⟩ rfl rfl hl.1 rfl (lv_room (Nat.le_of_ble_eq_true rfl)) dX11_load_2 ⟨Nat.le_of_ble_eq_true rfl, Nat.le_of_ble_eq_true rfl⟩) ?_
  refine lv_i2f hx hb dX11_load_5 ?_
  refine lv_aload_n hx hb dX11_load_6 rfl (lv_at hl 0 rfl) ?_
  refine lv_bipush (v := 7) hx hb dX11_load_7 rfl ?_
  refine lv_iconst (v := 3) hx hb dX11_load_9 rfl ?_
  refine lv_iload_n hx hb dX11_load_10 rfl (lv_at hl 1 rfl) ?_
  refine lv_imul hx hb dX11_load_11 ?_
  refine lv_iadd hx hb dX11_load_12 ?_
  refine lv_iconst (v := 1) hx hb dX11_load_13 rfl ?_
  refine lv_iadd hx hb dX11_load_14 ?_
  obtain ⟨h2, hf⟩ := gdI_some hf
  refine va_lald hx hb hC.1 hP 0 1 rfl rfl h2 dX11_load_15 ?_
  refine lv_l2f hx hb dX11_load_16 ?_
  obtain ⟨h3, hf⟩ := gdF_some hf
  refine lv_fdiv hx hb dX11_load_17 h3 ?_
  cases Option.some.inj hf
  subst hQe
  exact en_f hx hb hr hlocks dX11_load_18

/-! X11_best -/
abbrev rmX11_best : Room := { frames := 3, cells := 0, slots := 0, locals := 66 }
theorem hdS_X11_best : yX11_best.cls ≠ "java/lang/invoke/MethodHandle" ∧ yX11_best.cls ≠ "java/lang/invoke/VarHandle" ∧ (parseMethodDescriptor yX11_best.desc).map (fun d => d.parameters.length) = some 2 := by decide +kernel
set_option maxHeartbeats 4000000 in
set_option maxRecDepth 100000 in
theorem c_X11_best (l : Launch) (E : G0) (a0 : Nat) (v0 : (Nat → Int64)) (p1 : Int32) (x : Int32) (hf : f_X11_best v0 p1 = some x) : Met l yX11_best wsX11_best rmX11_best (va_Pc [.ref a0, .int p1] (PR E (wLA E a0 340 v0))) (vp_Si (fun r => r = x)) 0 0 (fun _ => False) := by
  refine Met.ofW (cc := cX11_best) (maxL := 4) (ret := some .int) (by decide) rfl ?_
  intro p e s m args below meth c s₁ B hml hv
  obtain ⟨ha, hP, hC⟩ := hv
  have hx := B.exec
  have hb := B.bytes
  have hr := B.returns
  have hts := atoms_spec (ws := wsX11_best) B.pre
  have hown : s.vm.findClass RX11 = some m.cls := findClass_of_methodNamed B.named
  have hlocks := B.notSynchronized
  have hS : va_S (fun _ => False) s.heap s.heap [] := va_S.rf
  generalize hQe : MQ below (vp_Si (fun r => r = x)) args s 0 0 (fun _ => False) = Q
  refine st_W ha (Nat.le_of_ble_eq_true rfl) (fun ls hl => ?_)
  have hl : lv_has ls 4 [(0, .ref a0), (1, .int p1)] := hl
  unfold f_X11_best at hf
  refine lv_iload_n hx hb dX11_best_0 rfl (lv_at hl 1 rfl) ?_
  obtain ⟨r1, e1, hf⟩ := bd_some hf
  refine cr_i (va_runS (As := [.int p1]) (rest := []) ⟨hx, hb, hml, hown, hts⟩ (c_X11_least l E p1 r1 e1) (va_cwS 1 hts gX11_best_X11_least rfl rfl rfl hdS_X11_least ⟨Nat.le_of_ble_eq_true rfl, Nat.le_of_ble_eq_true rfl⟩) ⟨PR.blind, PR.pre hC hS (hP.sub [] rfl)⟩ rfl rfl hl.1 rfl (lv_room (Nat.le_of_ble_eq_true rfl)) dX11_best_1 ⟨Nat.le_of_ble_eq_true rfl, Nat.le_of_ble_eq_true rfl⟩) ?_
  refine lv_istore_n (lv' := [(2, .int r1), (0, .ref a0), (1, .int p1)]) hx hb dX11_best_4 rfl hl (by decide) rfl (fun ls hl => ?_)
  refine lv_iload_n hx hb dX11_best_5 rfl (lv_at hl 0 rfl) ?_
  refine lv_iconst (v := 1) hx hb dX11_best_6 rfl ?_
  refine lv_iadd hx hb dX11_best_7 ?_
  refine lv_istore_n (lv' := [(3, .int (r1 + (1 : Int32))), (2, .int r1), (0, .ref a0), (1, .int p1)]) hx hb dX11_best_8 rfl hl (by decide) rfl (fun ls hl => ?_)
  obtain ⟨K2, hK2, hf⟩ := jn_some hf
  have J2 : ∀ (q2 : Int32 × Int32) (ls : Array Slot) (hl : lv_has ls 4 [(2, .int q2.1)]) (hf : K2 q2 = some x), W p l e (headSpec wsX11_best rmX11_best).room s m args below meth c s.heap [] 0 0 Q (F0 m 48 ls []) := by
    intro q2 ls hl hf
    have hf := (hK2 q2).trans hf
    refine lv_iload_n hx hb dX11_best_48 rfl (lv_at hl 0 rfl) ?_
    cases Option.some.inj hf
    subst hQe
    exact en_i hx hb hr hlocks dX11_best_49
  have L2 : ∀ (n : Nat) (q2 : Int32 × Int32) (ls : Array Slot) (hl : lv_has ls 4 [(0, .ref a0), (1, .int p1), (2, .int q2.1), (3, .int q2.2)]) (hf : lpF (bX11_best_2 p1 v0 K2) n q2 = some x), W p l e (headSpec wsX11_best rmX11_best).room s m args below meth c s.heap [] 0 0 Q (F0 m 9 ls []) := by
    intro n
    induction n with
    | zero => intro q2 ls hl hf; exact (lpF_zero hf).elim
    | succ n ih2 =>
      intro q2 ls hl hf
      have hf := lpF_succ hf
      unfold bX11_best_2 at hf
      refine lv_iload_n hx hb dX11_best_9 rfl (lv_at hl 3 rfl) ?_
      refine lv_iconst (v := 5) hx hb dX11_best_10 rfl ?_
      refine lv_icmp_ge (tgt := 48) hx hb dX11_best_11 rfl (fun c3 => ?_) (fun c3 => ?_)
      · have hf := it_t hf c3
        exact J2 (q2.1, q2.2) ls (lv_sub hl [2] rfl) hf
      · have hf := it_f hf c3
        refine lv_iload_n hx hb dX11_best_14 rfl (lv_at hl 1 rfl) ?_
        refine lv_iload_n hx hb dX11_best_15 rfl (lv_at hl 3 rfl) ?_
        refine cr_i (va_runS (As := [.int p1, .int q2.2]) (rest := []) ⟨hx, hb, hml, hown, hts⟩ (c_X11_has l E p1 q2.2 _ rfl) (va_cwS 2 hts gX11_best_X11_has rfl rfl rfl hdS_X11_has ⟨Nat.le_of_ble_eq_true rfl, Nat.le_of_ble_eq_true rfl⟩) ⟨PR.blind, PR.pre hC hS (hP.sub [] rfl)⟩ rfl rfl hl.1 rfl (lv_room (Nat.le_of_ble_eq_true rfl)) dX11_best_16 ⟨Nat.le_of_ble_eq_true rfl, Nat.le_of_ble_eq_true rfl⟩) ?_
        refine lv_if_eq (tgt := 40) hx hb dX11_best_19 rfl (fun c4 => ?_) (fun c4 => ?_)
        · have hf := it_t hf c4
          refine lv_iload_n hx hb dX11_best_40 rfl (lv_at hl 2 rfl) ?_
          refine lv_istore_n (lv' := [(2, .int q2.1), (0, .ref a0), (1, .int p1), (3, .int q2.2)]) hx hb dX11_best_41 rfl hl (by decide) rfl (fun ls hl => ?_)
          refine lv_iinc (v := (q2.2 + 1)) (lv' := [(3, .int (q2.2 + 1)), (2, .int q2.1), (0, .ref a0), (1, .int p1)]) hx hb dX11_best_42 hl (k := 3) rfl rfl (by decide) rfl (fun ls hl => ?_)
          refine lv_goto (tgt := 9) hx hb dX11_best_45 rfl ?_
          exact ih2 (q2.1, (q2.2 + 1)) ls (lv_sub hl [2, 3, 1, 0] rfl) hf
        · have hf := it_f hf c4
          refine lv_aload_n hx hb dX11_best_22 rfl (lv_at hl 0 rfl) ?_
          refine lv_iload_n hx hb dX11_best_23 rfl (lv_at hl 3 rfl) ?_
          obtain ⟨r5, e5, hf⟩ := bd_some hf
          refine cr_f (va_runS (As := [.ref a0, .int q2.2]) (rest := []) ⟨hx, hb, hml, hown, hts⟩ (c_X11_load l E a0 v0 q2.2 r5 e5) (va_cwS 2 hts gX11_best_X11_load rfl rfl rfl hdS_X11_load ⟨Nat.le_of_ble_eq_true rfl, Nat.le_of_ble_eq_true rfl⟩) ⟨PR.blind, PR.pre hC hS hP⟩ rfl rfl hl.1 rfl (lv_room (Nat.le_of_ble_eq_true rfl)) dX11_best_24 ⟨Nat.le_of_ble_eq_true rfl, Nat.le_of_ble_eq_true rfl⟩) ?_
          refine lv_aload_n hx hb dX11_best_27 rfl (lv_at hl 0 rfl) ?_
          refine lv_iload_n hx hb dX11_best_28 rfl (lv_at hl 2 rfl) ?_
          obtain ⟨r6, e6, hf⟩ := bd_some hf
          refine cr_f (va_runS (As := [.ref a0, .int q2.1]) (rest := [.float r5]) ⟨hx, hb, hml, hown, hts⟩ (c_X11_load l E a0 v0 q2.1 r6 e6) (va_cwS 2 hts gX11_best_X11_load rfl rfl rfl hdS_X11_load ⟨Nat.le_of_ble_eq_true rfl, Nat.le_of_ble_eq_true rfl⟩) ⟨PR.blind, PR.pre hC hS hP⟩ rfl rfl hl.1 rfl (lv_room (Nat.le_of_ble_eq_true rfl)) dX11_best_29 ⟨Nat.le_of_ble_eq_true rfl, Nat.le_of_ble_eq_true rfl⟩) ?_
          refine lv_fcmp hx hb dX11_best_32 ?_
          refine lv_if_ge (tgt := 40) hx hb dX11_best_33 rfl (fun c7 => ?_) (fun c7 => ?_)
          · have hf := it_t hf c7
            refine lv_iload_n hx hb dX11_best_40 rfl (lv_at hl 2 rfl) ?_
            refine lv_istore_n (lv' := [(2, .int q2.1), (0, .ref a0), (1, .int p1), (3, .int q2.2)]) hx hb dX11_best_41 rfl hl (by decide) rfl (fun ls hl => ?_)
            refine lv_iinc (v := (q2.2 + 1)) (lv' := [(3, .int (q2.2 + 1)), (2, .int q2.1), (0, .ref a0), (1, .int p1)]) hx hb dX11_best_42 hl (k := 3) rfl rfl (by decide) rfl (fun ls hl => ?_)
            refine lv_goto (tgt := 9) hx hb dX11_best_45 rfl ?_
            exact ih2 (q2.1, (q2.2 + 1)) ls (lv_sub hl [2, 3, 1, 0] rfl) hf
          · have hf := it_f hf c7
            refine lv_iload_n hx hb dX11_best_36 rfl (lv_at hl 3 rfl) ?_
            refine lv_goto (tgt := 41) hx hb dX11_best_37 rfl ?_
            refine lv_istore_n (lv' := [(2, .int q2.2), (0, .ref a0), (1, .int p1), (3, .int q2.2)]) hx hb dX11_best_41 rfl hl (by decide) rfl (fun ls hl => ?_)
            refine lv_iinc (v := (q2.2 + 1)) (lv' := [(3, .int (q2.2 + 1)), (2, .int q2.2), (0, .ref a0), (1, .int p1)]) hx hb dX11_best_42 hl (k := 3) rfl rfl (by decide) rfl (fun ls hl => ?_)
            refine lv_goto (tgt := 9) hx hb dX11_best_45 rfl ?_
            exact ih2 (q2.2, (q2.2 + 1)) ls (lv_sub hl [2, 3, 1, 0] rfl) hf
  exact L2 FU (r1, (r1 + (1 : Int32))) ls (lv_sub hl [2, 3, 1, 0] rfl) hf

/-! X11_fails -/
abbrev rmX11_fails : Room := { frames := 0, cells := 0, slots := 0, locals := 0 }
theorem hdS_X11_fails : yX11_fails.cls ≠ "java/lang/invoke/MethodHandle" ∧ yX11_fails.cls ≠ "java/lang/invoke/VarHandle" ∧ (parseMethodDescriptor yX11_fails.desc).map (fun d => d.parameters.length) = some 2 := by decide +kernel
set_option maxHeartbeats 4000000 in
set_option maxRecDepth 100000 in
theorem c_X11_fails (l : Launch) (E : G0) (sz : Nat) (a0 : Nat) (v0 : (Nat → Int64)) (p1 : Int32) (x : Bool × (Nat → Int64)) (hf : f_X11_fails v0 p1 = some x) : Met l yX11_fails wsX11_fails rmX11_fails (va_Pc [.ref a0, .int p1] (PW E (wLA E a0 340 v0) sz)) (va_Qi (fun r q => r = bI x.1 ∧ q = x.2) (fun q t => va_P E.1 vwCl ((fun q : (Nat → Int64) => wLA E a0 340 q) q) t.heap ∧ va_D (va_A (wLA E a0 340 v0) sz) ((fun q : (Nat → Int64) => wLA E a0 340 q) q)) (va_A (wLA E a0 340 v0) sz)) 0 0 (va_A (wLA E a0 340 v0) sz) := by
  refine Met.ofW (cc := cX11_fails) (maxL := 3) (ret := some .boolean) (by decide) rfl ?_
  intro p e s m args below meth c s₁ B hml hv
  obtain ⟨ha, hsz, hP, hD0, hC⟩ := hv
  have hx := B.exec
  have hb := B.bytes
  have hr := B.returns
  have hts := atoms_spec (ws := wsX11_fails) B.pre
  have hown : s.vm.findClass RX11 = some m.cls := findClass_of_methodNamed B.named
  have hlocks := B.notSynchronized
  subst hsz
  have hD := hD0.self (sz := s.heap.size)
  generalize hAe : va_A (wLA E a0 340 v0) s.heap.size = A at hD hC ⊢
  have hA : ∀ q : Nat, s.heap.size ≤ q → A q := fun q h => by rw [← hAe]; exact Or.inr h
  have hS : va_S A s.heap s.heap [] := va_S.rf
  generalize hQe : MQ below (va_Qi (fun r q => r = bI x.1 ∧ q = x.2) (fun q t => va_P E.1 vwCl ((fun q : (Nat → Int64) => wLA E a0 340 q) q) t.heap ∧ va_D A ((fun q : (Nat → Int64) => wLA E a0 340 q) q)) A) args s 0 0 A = Q
  refine st_W ha (Nat.le_of_ble_eq_true rfl) (fun ls hl => ?_)
  have hl : lv_has ls 3 [(0, .ref a0), (1, .int p1)] := hl
  unfold f_X11_fails at hf
  refine lv_aload_n hx hb dX11_fails_0 rfl (lv_at hl 0 rfl) ?_
  refine lv_bipush (v := 7) hx hb dX11_fails_1 rfl ?_
  refine lv_iconst (v := 3) hx hb dX11_fails_3 rfl ?_
  refine lv_iload_n hx hb dX11_fails_4 rfl (lv_at hl 1 rfl) ?_
  refine lv_imul hx hb dX11_fails_5 ?_
  refine lv_iadd hx hb dX11_fails_6 ?_
  refine lv_iconst (v := 2) hx hb dX11_fails_7 rfl ?_
  refine lv_iadd hx hb dX11_fails_8 ?_
  obtain ⟨h1, hf⟩ := gdI_some hf
  refine va_lald hx hb hC.1 hP 0 1 rfl rfl h1 dX11_fails_9 ?_
  refine lv_lconst (v := 0) hx hb dX11_fails_10 rfl ?_
  refine W.lcmp hx hb dX11_fails_11 ?_
  obtain ⟨q2, e2, hf⟩ := bt_eq hf
  have J2 : W p l e (headSpec wsX11_fails rmX11_fails).room s m args below meth c s.heap [] 0 0 Q (F0 m 20 ls [.int (bI q2)]) := by
    refine lv_istore_n (lv' := [(2, .int (bI q2)), (0, .ref a0), (1, .int p1)]) hx hb dX11_fails_20 rfl hl (by decide) rfl (fun ls hl => ?_)
    refine lv_aload_n hx hb dX11_fails_21 rfl (lv_at hl 1 rfl) ?_
    refine lv_bipush (v := 7) hx hb dX11_fails_22 rfl ?_
    refine lv_iconst (v := 3) hx hb dX11_fails_24 rfl ?_
    refine lv_iload_n hx hb dX11_fails_25 rfl (lv_at hl 2 rfl) ?_
    refine lv_imul hx hb dX11_fails_26 ?_
    refine lv_iadd hx hb dX11_fails_27 ?_
    refine lv_iconst (v := 2) hx hb dX11_fails_28 rfl ?_
    refine lv_iadd hx hb dX11_fails_29 ?_
    refine lv_dup2_11 hx hb dX11_fails_30 rfl rfl ?_
    obtain ⟨h3, hf⟩ := gdI_some hf
    refine va_lald hx hb hC.1 hP 0 1 rfl rfl h3 dX11_fails_31 ?_
    refine lv_iload_n hx hb dX11_fails_32 rfl (lv_at hl 0 rfl) ?_
    obtain ⟨q4, e4, hf⟩ := bt_eq hf
    have J4 : W p l e (headSpec wsX11_fails rmX11_fails).room s m args below meth c s.heap [] 0 0 Q (F0 m 41 ls [.long q4, .long (v0 (((7 : Int32) + ((3 : Int32) * p1)) + (2 : Int32)).toNatClampNeg), .int (((7 : Int32) + ((3 : Int32) * p1)) + (2 : Int32)), .ref a0]) := by
      refine lv_lsub hx hb dX11_fails_41 ?_
      obtain ⟨h5, hf⟩ := gdI_some hf
      refine va_last hx hb hC.1 hP hD hS 0 1 rfl rfl h5 dX11_fails_42 (fun H locs hP hD hS => ?_)
      have hP : va_P E.1 vwCl (wLA E a0 340 (vp_updL v0 (((7 : Int32) + ((3 : Int32) * p1)) + (2 : Int32)).toNatClampNeg ((v0 (((7 : Int32) + ((3 : Int32) * p1)) + (2 : Int32)).toNatClampNeg) - q4))) H := hP
      have hD : va_D A (wLA E a0 340 (vp_updL v0 (((7 : Int32) + ((3 : Int32) * p1)) + (2 : Int32)).toNatClampNeg ((v0 (((7 : Int32) + ((3 : Int32) * p1)) + (2 : Int32)).toNatClampNeg) - q4))) := hD
      refine lv_iload_n hx hb dX11_fails_43 rfl (lv_at hl 0 rfl) ?_
      cases Option.some.inj hf
      subst hQe
      exact ew_z (wf := (fun q : (Nat → Int64) => wLA E a0 340 q)) hx hb hr hlocks rfl hP hD hS dX11_fails_44
    have hf := e4
    refine lv_if_eq (tgt := 40) hx hb dX11_fails_33 rfl (fun c6 => ?_) (fun c6 => ?_)
    · have hf := it_t hf c6
      refine lv_lconst (v := 0) hx hb dX11_fails_40 rfl ?_
      cases hf
      exact J4
    · have hf := it_f hf c6
      refine lv_lconst (v := 1) hx hb dX11_fails_36 rfl ?_
      refine lv_goto (tgt := 41) hx hb dX11_fails_37 rfl ?_
      cases hf
      exact J4
  have hf := e2
  refine lv_if_le (tgt := 19) hx hb dX11_fails_12 rfl (fun c7 => ?_) (fun c7 => ?_)
  · have hf := it_t hf c7
    refine lv_iconst (v := 0) hx hb dX11_fails_19 rfl ?_
    cases hf
    exact J2
  · have hf := it_f hf c7
    refine lv_iconst (v := 1) hx hb dX11_fails_15 rfl ?_
    refine lv_goto (tgt := 20) hx hb dX11_fails_16 rfl ?_
    cases hf
    exact J2

/-! X11_wanted -/
abbrev rmX11_wanted : Room := { frames := 0, cells := 0, slots := 0, locals := 0 }
theorem hdS_X11_wanted : yX11_wanted.cls ≠ "java/lang/invoke/MethodHandle" ∧ yX11_wanted.cls ≠ "java/lang/invoke/VarHandle" ∧ (parseMethodDescriptor yX11_wanted.desc).map (fun d => d.parameters.length) = some 2 := by decide +kernel
set_option maxHeartbeats 4000000 in
set_option maxRecDepth 100000 in
theorem c_X11_wanted (l : Launch) (E : G0) (a0 : Nat) (v0 : (Nat → Int64)) (p1 : Int64) (x : Int32) (hf : f_X11_wanted v0 p1 = some x) : Met l yX11_wanted wsX11_wanted rmX11_wanted (va_Pc [.ref a0, .long p1] (PR E (wLA E a0 340 v0))) (vp_Si (fun r => r = x)) 0 0 (fun _ => False) := by
  refine Met.ofW (cc := cX11_wanted) (maxL := 3) (ret := some .int) (by decide) rfl ?_
  intro p e s m args below meth c s₁ B hml hv
  obtain ⟨ha, hP, hC⟩ := hv
  have hx := B.exec
  have hb := B.bytes
  have hr := B.returns
  have hts := atoms_spec (ws := wsX11_wanted) B.pre
  have hown : s.vm.findClass RX11 = some m.cls := findClass_of_methodNamed B.named
  have hlocks := B.notSynchronized
  have hS : va_S (fun _ => False) s.heap s.heap [] := va_S.rf
  have w1 : (Cond.constantLong RX11 84 (5)).before args s = true := hts _ (List.mem_of_getElem? (i := 1) rfl)
  have w2 : (Cond.constantLong RX11 86 (3)).before args s = true := hts _ (List.mem_of_getElem? (i := 2) rfl)
  generalize hQe : MQ below (vp_Si (fun r => r = x)) args s 0 0 (fun _ => False) = Q
  refine st_W ha (Nat.le_of_ble_eq_true rfl) (fun ls hl => ?_)
  have hl : lv_has ls 3 [(0, .ref a0), (1, .long p1)] := hl
  unfold f_X11_wanted at hf
  refine lv_lload_n hx hb dX11_wanted_0 rfl (lv_at hl 1 rfl) ?_
  refine lv_ldc2 hx hb hown w1 dX11_wanted_1 ?_
  refine W.lcmp hx hb dX11_wanted_4 ?_
  refine lv_if_ne (tgt := 12) hx hb dX11_wanted_5 rfl (fun c1 => ?_) (fun c1 => ?_)
  · have hf := it_f hf c1
    refine lv_aload_n hx hb dX11_wanted_12 rfl (lv_at hl 0 rfl) ?_
    refine lv_iconst (v := 1) hx hb dX11_wanted_13 rfl ?_
    obtain ⟨h2, hf⟩ := gdI_some hf
    refine va_lald hx hb hC.1 hP 0 1 rfl rfl h2 dX11_wanted_14 ?_
    refine lv_l2i hx hb dX11_wanted_15 rfl ?_
    refine lv_lload_n hx hb dX11_wanted_16 rfl (lv_at hl 1 rfl) ?_
    refine lv_ldc2 hx hb hown w2 dX11_wanted_17 ?_
    refine W.lcmp hx hb dX11_wanted_20 ?_
    refine lv_if_ne (tgt := 28) hx hb dX11_wanted_21 rfl (fun c3 => ?_) (fun c3 => ?_)
    · have hf := it_f hf c3
      refine lv_iconst (v := 0) hx hb dX11_wanted_28 rfl ?_
      refine lv_iadd hx hb dX11_wanted_29 ?_
      cases Option.some.inj hf
      subst hQe
      exact en_i hx hb hr hlocks dX11_wanted_30
    · have hf := it_t hf c3
      refine lv_iconst (v := 1) hx hb dX11_wanted_24 rfl ?_
      refine lv_goto (tgt := 29) hx hb dX11_wanted_25 rfl ?_
      refine lv_iadd hx hb dX11_wanted_29 ?_
      cases Option.some.inj hf
      subst hQe
      exact en_i hx hb hr hlocks dX11_wanted_30
  · have hf := it_t hf c1
    refine lv_iconst (v := 1) hx hb dX11_wanted_8 rfl ?_
    refine lv_goto (tgt := 30) hx hb dX11_wanted_9 rfl ?_
    cases Option.some.inj hf
    subst hQe
    exact en_i hx hb hr hlocks dX11_wanted_30

/-! X11_grace -/
abbrev rmX11_grace : Room := { frames := 0, cells := 0, slots := 0, locals := 0 }
theorem hdS_X11_grace : yX11_grace.cls ≠ "java/lang/invoke/MethodHandle" ∧ yX11_grace.cls ≠ "java/lang/invoke/VarHandle" ∧ (parseMethodDescriptor yX11_grace.desc).map (fun d => d.parameters.length) = some 2 := by decide +kernel
set_option maxHeartbeats 4000000 in
set_option maxRecDepth 100000 in
theorem c_X11_grace (l : Launch) (E : G0) (a0 : Nat) (v0 : (Nat → Int64)) (p1 : Int32) (x : Int64) (hf : f_X11_grace v0 p1 = some x) : Met l yX11_grace wsX11_grace rmX11_grace (va_Pc [.ref a0, .int p1] (PR E (wLA E a0 340 v0))) (vp_Sl (fun r => r = x)) 0 0 (fun _ => False) := by
  refine Met.ofW (cc := cX11_grace) (maxL := 2) (ret := some .long) (by decide) rfl ?_
  intro p e s m args below meth c s₁ B hml hv
  obtain ⟨ha, hP, hC⟩ := hv
  have hx := B.exec
  have hb := B.bytes
  have hr := B.returns
  have hts := atoms_spec (ws := wsX11_grace) B.pre
  have hown : s.vm.findClass RX11 = some m.cls := findClass_of_methodNamed B.named
  have hlocks := B.notSynchronized
  have hS : va_S (fun _ => False) s.heap s.heap [] := va_S.rf
  have w1 : (Cond.constantLong RX11 88 (4)).before args s = true := hts _ (List.mem_of_getElem? (i := 1) rfl)
  generalize hQe : MQ below (vp_Sl (fun r => r = x)) args s 0 0 (fun _ => False) = Q
  refine st_W ha (Nat.le_of_ble_eq_true rfl) (fun ls hl => ?_)
  have hl : lv_has ls 2 [(0, .ref a0), (1, .int p1)] := hl
  unfold f_X11_grace at hf
  refine lv_aload_n hx hb dX11_grace_0 rfl (lv_at hl 0 rfl) ?_
  refine lv_bipush (v := 22) hx hb dX11_grace_1 rfl ?_
  refine lv_bipush (v := 8) hx hb dX11_grace_3 rfl ?_
  refine lv_iload_n hx hb dX11_grace_5 rfl (lv_at hl 1 rfl) ?_
  refine lv_imul hx hb dX11_grace_6 ?_
  refine lv_iadd hx hb dX11_grace_7 ?_
  refine lv_iconst (v := 1) hx hb dX11_grace_8 rfl ?_
  refine lv_iadd hx hb dX11_grace_9 ?_
  obtain ⟨h1, hf⟩ := gdI_some hf
  refine va_lald hx hb hC.1 hP 0 1 rfl rfl h1 dX11_grace_10 ?_
  refine lv_ldc2 hx hb hown w1 dX11_grace_11 ?_
  refine W.lcmp hx hb dX11_grace_14 ?_
  refine lv_if_lt (tgt := 22) hx hb dX11_grace_15 rfl (fun c2 => ?_) (fun c2 => ?_)
  · have hf := it_t hf c2
    refine lv_aload_n hx hb dX11_grace_22 rfl (lv_at hl 0 rfl) ?_
    refine lv_iconst (v := 4) hx hb dX11_grace_23 rfl ?_
    obtain ⟨h3, hf⟩ := gdI_some hf
    refine va_lald hx hb hC.1 hP 0 1 rfl rfl h3 dX11_grace_24 ?_
    cases Option.some.inj hf
    subst hQe
    exact en_l hx hb hr hlocks dX11_grace_25
  · have hf := it_f hf c2
    refine lv_lconst (v := 0) hx hb dX11_grace_18 rfl ?_
    refine lv_goto (tgt := 25) hx hb dX11_grace_19 rfl ?_
    cases Option.some.inj hf
    subst hQe
    exact en_l hx hb hr hlocks dX11_grace_25

/-! X11_chunkOf -/
abbrev rmX11_chunkOf : Room := { frames := 0, cells := 0, slots := 0, locals := 0 }
theorem hdS_X11_chunkOf : yX11_chunkOf.cls ≠ "java/lang/invoke/MethodHandle" ∧ yX11_chunkOf.cls ≠ "java/lang/invoke/VarHandle" ∧ (parseMethodDescriptor yX11_chunkOf.desc).map (fun d => d.parameters.length) = some 3 := by decide +kernel
set_option maxHeartbeats 4000000 in
set_option maxRecDepth 100000 in
theorem c_X11_chunkOf (l : Launch) (E : G0) (a0 : Nat) (v0 : (Nat → Int64)) (p1 : Int32) (p2 : Int32) (x : Int32) (hf : f_X11_chunkOf v0 p1 p2 = some x) : Met l yX11_chunkOf wsX11_chunkOf rmX11_chunkOf (va_Pc [.ref a0, .int p1, .int p2] (PR E (wLA E a0 340 v0))) (vp_Si (fun r => r = x)) 0 0 (fun _ => False) := by
  refine Met.ofW (cc := cX11_chunkOf) (maxL := 3) (ret := some .int) (by decide) rfl ?_
  intro p e s m args below meth c s₁ B hml hv
  obtain ⟨ha, hP, hC⟩ := hv
  have hx := B.exec
  have hb := B.bytes
  have hr := B.returns
  have hts := atoms_spec (ws := wsX11_chunkOf) B.pre
  have hown : s.vm.findClass RX11 = some m.cls := findClass_of_methodNamed B.named
  have hlocks := B.notSynchronized
  have hS : va_S (fun _ => False) s.heap s.heap [] := va_S.rf
  generalize hQe : MQ below (vp_Si (fun r => r = x)) args s 0 0 (fun _ => False) = Q
  refine st_W ha (Nat.le_of_ble_eq_true rfl) (fun ls hl => ?_)
  have hl : lv_has ls 3 [(0, .ref a0), (1, .int p1), (2, .int p2)] := hl
  unfold f_X11_chunkOf at hf
  refine lv_aload_n hx hb dX11_chunkOf_0 rfl (lv_at hl 0 rfl) ?_
  refine lv_bipush (v := 22) hx hb dX11_chunkOf_1 rfl ?_
  refine lv_bipush (v := 8) hx hb dX11_chunkOf_3 rfl ?_
  refine lv_iload_n hx hb dX11_chunkOf_5 rfl (lv_at hl 1 rfl) ?_
  refine lv_imul hx hb dX11_chunkOf_6 ?_
  refine lv_iadd hx hb dX11_chunkOf_7 ?_
  refine lv_iconst (v := 4) hx hb dX11_chunkOf_8 rfl ?_
  refine lv_iadd hx hb dX11_chunkOf_9 ?_
  refine lv_iload_n hx hb dX11_chunkOf_10 rfl (lv_at hl 2 rfl) ?_
  refine lv_iadd hx hb dX11_chunkOf_11 ?_
  obtain ⟨h1, hf⟩ := gdI_some hf
  refine va_lald hx hb hC.1 hP 0 1 rfl rfl h1 dX11_chunkOf_12 ?_
  refine lv_l2i hx hb dX11_chunkOf_13 rfl ?_
  cases Option.some.inj hf
  subst hQe
  exact en_i hx hb hr hlocks dX11_chunkOf_14

/-! X11_many -/
abbrev rmX11_many : Room := { frames := 0, cells := 0, slots := 0, locals := 0 }
theorem hdS_X11_many : yX11_many.cls ≠ "java/lang/invoke/MethodHandle" ∧ yX11_many.cls ≠ "java/lang/invoke/VarHandle" ∧ (parseMethodDescriptor yX11_many.desc).map (fun d => d.parameters.length) = some 2 := by decide +kernel
set_option maxHeartbeats 4000000 in
set_option maxRecDepth 100000 in
theorem c_X11_many (l : Launch) (E : G0) (a0 : Nat) (v0 : (Nat → Int64)) (p1 : Int32) (x : Int32) (hf : f_X11_many v0 p1 = some x) : Met l yX11_many wsX11_many rmX11_many (va_Pc [.ref a0, .int p1] (PR E (wLA E a0 340 v0))) (vp_Si (fun r => r = x)) 0 0 (fun _ => False) := by
  refine Met.ofW (cc := cX11_many) (maxL := 2) (ret := some .int) (by decide) rfl ?_
  intro p e s m args below meth c s₁ B hml hv
  obtain ⟨ha, hP, hC⟩ := hv
  have hx := B.exec
  have hb := B.bytes
  have hr := B.returns
  have hts := atoms_spec (ws := wsX11_many) B.pre
  have hown : s.vm.findClass RX11 = some m.cls := findClass_of_methodNamed B.named
  have hlocks := B.notSynchronized
  have hS : va_S (fun _ => False) s.heap s.heap [] := va_S.rf
  generalize hQe : MQ below (vp_Si (fun r => r = x)) args s 0 0 (fun _ => False) = Q
  refine st_W ha (Nat.le_of_ble_eq_true rfl) (fun ls hl => ?_)
  have hl : lv_has ls 2 [(0, .ref a0), (1, .int p1)] := hl
  unfold f_X11_many at hf
  refine lv_aload_n hx hb dX11_many_0 rfl (lv_at hl 0 rfl) ?_
  refine lv_bipush (v := 22) hx hb dX11_many_1 rfl ?_
  refine lv_bipush (v := 8) hx hb dX11_many_3 rfl ?_
  refine lv_iload_n hx hb dX11_many_5 rfl (lv_at hl 1 rfl) ?_
  refine lv_imul hx hb dX11_many_6 ?_
  refine lv_iadd hx hb dX11_many_7 ?_
  refine lv_iconst (v := 2) hx hb dX11_many_8 rfl ?_
  refine lv_iadd hx hb dX11_many_9 ?_
  obtain ⟨h1, hf⟩ := gdI_some hf
  refine va_lald hx hb hC.1 hP 0 1 rfl rfl h1 dX11_many_10 ?_
  refine lv_l2i hx hb dX11_many_11 rfl ?_
  cases Option.some.inj hf
  subst hQe
  exact en_i hx hb hr hlocks dX11_many_12

/-! X11_lastOf -/
abbrev rmX11_lastOf : Room := { frames := 1, cells := 0, slots := 0, locals := 22 }
theorem hdS_X11_lastOf : yX11_lastOf.cls ≠ "java/lang/invoke/MethodHandle" ∧ yX11_lastOf.cls ≠ "java/lang/invoke/VarHandle" ∧ (parseMethodDescriptor yX11_lastOf.desc).map (fun d => d.parameters.length) = some 2 := by decide +kernel
set_option maxHeartbeats 4000000 in
set_option maxRecDepth 100000 in
theorem c_X11_lastOf (l : Launch) (E : G0) (a0 : Nat) (v0 : (Nat → Int64)) (p1 : Int32) (x : Int32) (hf : f_X11_lastOf v0 p1 = some x) : Met l yX11_lastOf wsX11_lastOf rmX11_lastOf (va_Pc [.ref a0, .int p1] (PR E (wLA E a0 340 v0))) (vp_Si (fun r => r = x)) 0 0 (fun _ => False) := by
  refine Met.ofW (cc := cX11_lastOf) (maxL := 2) (ret := some .int) (by decide) rfl ?_
  intro p e s m args below meth c s₁ B hml hv
  obtain ⟨ha, hP, hC⟩ := hv
  have hx := B.exec
  have hb := B.bytes
  have hr := B.returns
  have hts := atoms_spec (ws := wsX11_lastOf) B.pre
  have hown : s.vm.findClass RX11 = some m.cls := findClass_of_methodNamed B.named
  have hlocks := B.notSynchronized
  have hS : va_S (fun _ => False) s.heap s.heap [] := va_S.rf
  generalize hQe : MQ below (vp_Si (fun r => r = x)) args s 0 0 (fun _ => False) = Q
  refine st_W ha (Nat.le_of_ble_eq_true rfl) (fun ls hl => ?_)
  have hl : lv_has ls 2 [(0, .ref a0), (1, .int p1)] := hl
  unfold f_X11_lastOf at hf
  refine lv_aload_n hx hb dX11_lastOf_0 rfl (lv_at hl 0 rfl) ?_
  refine lv_iload_n hx hb dX11_lastOf_1 rfl (lv_at hl 1 rfl) ?_
  refine lv_aload_n hx hb dX11_lastOf_2 rfl (lv_at hl 0 rfl) ?_
  refine lv_iload_n hx hb dX11_lastOf_3 rfl (lv_at hl 1 rfl) ?_
  obtain ⟨r1, e1, hf⟩ := bd_some hf
  refine cr_i (va_runS (As := [.ref a0, .int p1]) (rest := [.int p1, .ref a0]) ⟨hx, hb, hml, hown, hts⟩ (c_X11_many l E a0 v0 p1 r1 e1) (va_cwS 2 hts gX11_lastOf_X11_many rfl rfl rfl hdS_X11_many ⟨Nat.le_of_ble_eq_true rfl, Nat.le_of_ble_eq_true rfl⟩) ⟨PR.blind, PR.pre hC hS hP⟩ rfl rfl hl.1 rfl (lv_room (Nat.le_of_ble_eq_true rfl)) dX11_lastOf_4 ⟨Nat.le_of_ble_eq_true rfl, Nat.le_of_ble_eq_true rfl⟩) ?_
  refine lv_iconst (v := 1) hx hb dX11_lastOf_7 rfl ?_
  refine lv_isub hx hb dX11_lastOf_8 ?_
  obtain ⟨r2, e2, hf⟩ := bd_some hf
  refine cr_i (va_runS (As := [.ref a0, .int p1, .int (r1 - (1 : Int32))]) (rest := []) ⟨hx, hb, hml, hown, hts⟩ (c_X11_chunkOf l E a0 v0 p1 (r1 - (1 : Int32)) r2 e2) (va_cwS 3 hts gX11_lastOf_X11_chunkOf rfl rfl rfl hdS_X11_chunkOf ⟨Nat.le_of_ble_eq_true rfl, Nat.le_of_ble_eq_true rfl⟩) ⟨PR.blind, PR.pre hC hS hP⟩ rfl rfl hl.1 rfl (lv_room (Nat.le_of_ble_eq_true rfl)) dX11_lastOf_9 ⟨Nat.le_of_ble_eq_true rfl, Nat.le_of_ble_eq_true rfl⟩) ?_
  cases Option.some.inj hf
  subst hQe
  exact en_i hx hb hr hlocks dX11_lastOf_12

/-! X11_adds -/
abbrev rmX11_adds : Room := { frames := 0, cells := 0, slots := 0, locals := 0 }
theorem hdS_X11_adds : yX11_adds.cls ≠ "java/lang/invoke/MethodHandle" ∧ yX11_adds.cls ≠ "java/lang/invoke/VarHandle" ∧ (parseMethodDescriptor yX11_adds.desc).map (fun d => d.parameters.length) = some 1 := by decide +kernel
set_option maxHeartbeats 4000000 in
set_option maxRecDepth 100000 in
theorem c_X11_adds (l : Launch) (E : G0) (sz : Nat) (a0 : Nat) (v0 : (Nat → Int64)) (x : Int32 × (Nat → Int64)) (hf : f_X11_adds v0 = some x) : Met l yX11_adds wsX11_adds rmX11_adds (va_Pc [.ref a0] (PW E (wLA E a0 340 v0) sz)) (va_Qi (fun r q => r = x.1 ∧ q = x.2) (fun q t => va_P E.1 vwCl ((fun q : (Nat → Int64) => wLA E a0 340 q) q) t.heap ∧ va_D (va_A (wLA E a0 340 v0) sz) ((fun q : (Nat → Int64) => wLA E a0 340 q) q)) (va_A (wLA E a0 340 v0) sz)) 0 0 (va_A (wLA E a0 340 v0) sz) := by
  refine Met.ofW (cc := cX11_adds) (maxL := 3) (ret := some .int) (by decide) rfl ?_
  intro p e s m args below meth c s₁ B hml hv
  obtain ⟨ha, hsz, hP, hD0, hC⟩ := hv
  have hx := B.exec
  have hb := B.bytes
  have hr := B.returns
  have hts := atoms_spec (ws := wsX11_adds) B.pre
  have hown : s.vm.findClass RX11 = some m.cls := findClass_of_methodNamed B.named
  have hlocks := B.notSynchronized
  subst hsz
  have hD := hD0.self (sz := s.heap.size)
  generalize hAe : va_A (wLA E a0 340 v0) s.heap.size = A at hD hC ⊢
  have hA : ∀ q : Nat, s.heap.size ≤ q → A q := fun q h => by rw [← hAe]; exact Or.inr h
  have hS : va_S A s.heap s.heap [] := va_S.rf
  have w1 : (Cond.constantLong RX11 51 (-1)).before args s = true := hts _ (List.mem_of_getElem? (i := 1) rfl)
  generalize hQe : MQ below (va_Qi (fun r q => r = x.1 ∧ q = x.2) (fun q t => va_P E.1 vwCl ((fun q : (Nat → Int64) => wLA E a0 340 q) q) t.heap ∧ va_D A ((fun q : (Nat → Int64) => wLA E a0 340 q) q)) A) args s 0 0 A = Q
  refine st_W ha (Nat.le_of_ble_eq_true rfl) (fun ls hl => ?_)
  have hl : lv_has ls 3 [(0, .ref a0)] := hl
  unfold f_X11_adds at hf
  refine lv_aload_n hx hb dX11_adds_0 rfl (lv_at hl 0 rfl) ?_
  refine lv_bipush (v := 6) hx hb dX11_adds_1 rfl ?_
  obtain ⟨h1, hf⟩ := gdI_some hf
  refine va_lald hx hb hC.1 hP 0 1 rfl rfl h1 dX11_adds_3 ?_
  refine lv_l2i hx hb dX11_adds_4 rfl ?_
  refine lv_istore_n (lv' := [(1, .int ((v0 (6 : Int32).toNatClampNeg).toInt32)), (0, .ref a0)]) hx hb dX11_adds_5 rfl hl (by decide) rfl (fun ls hl => ?_)
  refine lv_aload_n hx hb dX11_adds_6 rfl (lv_at hl 1 rfl) ?_
  refine lv_bipush (v := 70) hx hb dX11_adds_7 rfl ?_
  refine lv_iconst (v := 4) hx hb dX11_adds_9 rfl ?_
  refine lv_iload_n hx hb dX11_adds_10 rfl (lv_at hl 0 rfl) ?_
  refine lv_imul hx hb dX11_adds_11 ?_
  refine lv_iadd hx hb dX11_adds_12 ?_
  refine lv_iconst (v := 0) hx hb dX11_adds_13 rfl ?_
  refine lv_iadd hx hb dX11_adds_14 ?_
  refine lv_lconst (v := 1) hx hb dX11_adds_15 rfl ?_
  obtain ⟨h2, hf⟩ := gdI_some hf
  refine va_last hx hb hC.1 hP hD hS 0 1 rfl rfl h2 dX11_adds_16 (fun H locs hP hD hS => ?_)
  have hP : va_P E.1 vwCl (wLA E a0 340 (vp_updL v0 (((70 : Int32) + ((4 : Int32) * (v0 (6 : Int32).toNatClampNeg).toInt32)) + (0 : Int32)).toNatClampNeg (1 : Int64))) H := hP
  have hD : va_D A (wLA E a0 340 (vp_updL v0 (((70 : Int32) + ((4 : Int32) * (v0 (6 : Int32).toNatClampNeg).toInt32)) + (0 : Int32)).toNatClampNeg (1 : Int64))) := hD
  refine lv_aload_n hx hb dX11_adds_17 rfl (lv_at hl 1 rfl) ?_
  refine lv_bipush (v := 70) hx hb dX11_adds_18 rfl ?_
  refine lv_iconst (v := 4) hx hb dX11_adds_20 rfl ?_
  refine lv_iload_n hx hb dX11_adds_21 rfl (lv_at hl 0 rfl) ?_
  refine lv_imul hx hb dX11_adds_22 ?_
  refine lv_iadd hx hb dX11_adds_23 ?_
  refine lv_iconst (v := 1) hx hb dX11_adds_24 rfl ?_
  refine lv_iadd hx hb dX11_adds_25 ?_
  refine lv_lconst (v := 1) hx hb dX11_adds_26 rfl ?_
  obtain ⟨h3, hf⟩ := gdI_some hf
  refine va_last hx hb hC.1 hP hD hS 0 1 rfl rfl h3 dX11_adds_27 (fun H locs hP hD hS => ?_)
  have hP : va_P E.1 vwCl (wLA E a0 340 (vp_updL (vp_updL v0 (((70 : Int32) + ((4 : Int32) * (v0 (6 : Int32).toNatClampNeg).toInt32)) + (0 : Int32)).toNatClampNeg (1 : Int64)) (((70 : Int32) + ((4 : Int32) * (v0 (6 : Int32).toNatClampNeg).toInt32)) + (1 : Int32)).toNatClampNeg (1 : Int64))) H := hP
  have hD : va_D A (wLA E a0 340 (vp_updL (vp_updL v0 (((70 : Int32) + ((4 : Int32) * (v0 (6 : Int32).toNatClampNeg).toInt32)) + (0 : Int32)).toNatClampNeg (1 : Int64)) (((70 : Int32) + ((4 : Int32) * (v0 (6 : Int32).toNatClampNeg).toInt32)) + (1 : Int32)).toNatClampNeg (1 : Int64))) := hD
  refine lv_aload_n hx hb dX11_adds_28 rfl (lv_at hl 1 rfl) ?_
  refine lv_bipush (v := 70) hx hb dX11_adds_29 rfl ?_
  refine lv_iconst (v := 4) hx hb dX11_adds_31 rfl ?_
  refine lv_iload_n hx hb dX11_adds_32 rfl (lv_at hl 0 rfl) ?_
  refine lv_imul hx hb dX11_adds_33 ?_
  refine lv_iadd hx hb dX11_adds_34 ?_
  refine lv_iconst (v := 2) hx hb dX11_adds_35 rfl ?_
  refine lv_iadd hx hb dX11_adds_36 ?_
  refine lv_ldc2 hx hb hown w1 dX11_adds_37 ?_
  obtain ⟨h4, hf⟩ := gdI_some hf
  refine va_last hx hb hC.1 hP hD hS 0 1 rfl rfl h4 dX11_adds_40 (fun H locs hP hD hS => ?_)
  have hP : va_P E.1 vwCl (wLA E a0 340 (vp_updL (vp_updL (vp_updL v0 (((70 : Int32) + ((4 : Int32) * (v0 (6 : Int32).toNatClampNeg).toInt32)) + (0 : Int32)).toNatClampNeg (1 : Int64)) (((70 : Int32) + ((4 : Int32) * (v0 (6 : Int32).toNatClampNeg).toInt32)) + (1 : Int32)).toNatClampNeg (1 : Int64)) (((70 : Int32) + ((4 : Int32) * (v0 (6 : Int32).toNatClampNeg).toInt32)) + (2 : Int32)).toNatClampNeg ((-1) : Int64))) H := hP
  have hD : va_D A (wLA E a0 340 (vp_updL (vp_updL (vp_updL v0 (((70 : Int32) + ((4 : Int32) * (v0 (6 : Int32).toNatClampNeg).toInt32)) + (0 : Int32)).toNatClampNeg (1 : Int64)) (((70 : Int32) + ((4 : Int32) * (v0 (6 : Int32).toNatClampNeg).toInt32)) + (1 : Int32)).toNatClampNeg (1 : Int64)) (((70 : Int32) + ((4 : Int32) * (v0 (6 : Int32).toNatClampNeg).toInt32)) + (2 : Int32)).toNatClampNeg ((-1) : Int64))) := hD
  refine lv_aload_n hx hb dX11_adds_41 rfl (lv_at hl 1 rfl) ?_
  refine lv_bipush (v := 70) hx hb dX11_adds_42 rfl ?_
  refine lv_iconst (v := 4) hx hb dX11_adds_44 rfl ?_
  refine lv_iload_n hx hb dX11_adds_45 rfl (lv_at hl 0 rfl) ?_
  refine lv_imul hx hb dX11_adds_46 ?_
  refine lv_iadd hx hb dX11_adds_47 ?_
  refine lv_iconst (v := 3) hx hb dX11_adds_48 rfl ?_
  refine lv_iadd hx hb dX11_adds_49 ?_
  refine lv_lconst (v := 0) hx hb dX11_adds_50 rfl ?_
  obtain ⟨h5, hf⟩ := gdI_some hf
  refine va_last hx hb hC.1 hP hD hS 0 1 rfl rfl h5 dX11_adds_51 (fun H locs hP hD hS => ?_)
  have hP : va_P E.1 vwCl (wLA E a0 340 (vp_updL (vp_updL (vp_updL (vp_updL v0 (((70 : Int32) + ((4 : Int32) * (v0 (6 : Int32).toNatClampNeg).toInt32)) + (0 : Int32)).toNatClampNeg (1 : Int64)) (((70 : Int32) + ((4 : Int32) * (v0 (6 : Int32).toNatClampNeg).toInt32)) + (1 : Int32)).toNatClampNeg (1 : Int64)) (((70 : Int32) + ((4 : Int32) * (v0 (6 : Int32).toNatClampNeg).toInt32)) + (2 : Int32)).toNatClampNeg ((-1) : Int64)) (((70 : Int32) + ((4 : Int32) * (v0 (6 : Int32).toNatClampNeg).toInt32)) + (3 : Int32)).toNatClampNeg (0 : Int64))) H := hP
  have hD : va_D A (wLA E a0 340 (vp_updL (vp_updL (vp_updL (vp_updL v0 (((70 : Int32) + ((4 : Int32) * (v0 (6 : Int32).toNatClampNeg).toInt32)) + (0 : Int32)).toNatClampNeg (1 : Int64)) (((70 : Int32) + ((4 : Int32) * (v0 (6 : Int32).toNatClampNeg).toInt32)) + (1 : Int32)).toNatClampNeg (1 : Int64)) (((70 : Int32) + ((4 : Int32) * (v0 (6 : Int32).toNatClampNeg).toInt32)) + (2 : Int32)).toNatClampNeg ((-1) : Int64)) (((70 : Int32) + ((4 : Int32) * (v0 (6 : Int32).toNatClampNeg).toInt32)) + (3 : Int32)).toNatClampNeg (0 : Int64))) := hD
  refine lv_iconst (v := 0) hx hb dX11_adds_52 rfl ?_
  refine lv_istore_n (lv' := [(2, .int (0 : Int32)), (1, .int ((v0 (6 : Int32).toNatClampNeg).toInt32)), (0, .ref a0)]) hx hb dX11_adds_53 rfl hl (by decide) rfl (fun ls hl => ?_)
  obtain ⟨K6, hK6, hf⟩ := jn_some hf
  have J6 : ∀ (q6 : Int32 × (Nat → Int64)) (H : Heap) (locs : List Loc) (hP : va_P E.1 vwCl (wLA E a0 340 q6.2) H) (hD : va_D A (wLA E a0 340 q6.2)) (hS : va_S A s.heap H locs) (ls : Array Slot) (hl : lv_has ls 3 [(0, .ref a0), (1, .int ((v0 (6 : Int32).toNatClampNeg).toInt32))]) (hf : K6 q6 = some x), W p l e (headSpec wsX11_adds rmX11_adds).room s m args below meth c H locs 0 0 Q (F0 m 77 ls []) := by
    intro q6 H locs hP hD hS ls hl hf
    have hf := (hK6 q6).trans hf
    refine lv_aload_n hx hb dX11_adds_77 rfl (lv_at hl 0 rfl) ?_
    refine lv_bipush (v := 6) hx hb dX11_adds_78 rfl ?_
    refine lv_dup2_11 hx hb dX11_adds_80 rfl rfl ?_
    obtain ⟨h7, hf⟩ := gdI_some hf
    refine va_lald hx hb hC.1 hP 0 1 rfl rfl h7 dX11_adds_81 ?_
    refine lv_lconst (v := 1) hx hb dX11_adds_82 rfl ?_
    refine lv_ladd hx hb dX11_adds_83 ?_
    obtain ⟨h8, hf⟩ := gdI_some hf
    refine va_last hx hb hC.1 hP hD hS 0 1 rfl rfl h8 dX11_adds_84 (fun H locs hP hD hS => ?_)
    have hP : va_P E.1 vwCl (wLA E a0 340 (vp_updL q6.2 (6 : Int32).toNatClampNeg ((q6.2 (6 : Int32).toNatClampNeg) + (1 : Int64)))) H := hP
    have hD : va_D A (wLA E a0 340 (vp_updL q6.2 (6 : Int32).toNatClampNeg ((q6.2 (6 : Int32).toNatClampNeg) + (1 : Int64)))) := hD
    refine lv_iload_n hx hb dX11_adds_85 rfl (lv_at hl 1 rfl) ?_
    cases Option.some.inj hf
    subst hQe
    exact ew_i (wf := (fun q : (Nat → Int64) => wLA E a0 340 q)) hx hb hr hlocks hP hD hS dX11_adds_86
  have L6 : ∀ (n : Nat) (q6 : Int32 × (Nat → Int64)) (H : Heap) (locs : List Loc) (hP : va_P E.1 vwCl (wLA E a0 340 q6.2) H) (hD : va_D A (wLA E a0 340 q6.2)) (hS : va_S A s.heap H locs) (ls : Array Slot) (hl : lv_has ls 3 [(0, .ref a0), (1, .int ((v0 (6 : Int32).toNatClampNeg).toInt32)), (2, .int q6.1)]) (hf : lpF (bX11_adds_6 v0 K6) n q6 = some x), W p l e (headSpec wsX11_adds rmX11_adds).room s m args below meth c H locs 0 0 Q (F0 m 54 ls []) := by
    intro n
    induction n with
    | zero => intro q6 H locs hP hD hS ls hl hf; exact (lpF_zero hf).elim
    | succ n ih6 =>
      intro q6 H locs hP hD hS ls hl hf
      have hf := lpF_succ hf
      unfold bX11_adds_6 at hf
      refine lv_iload_n hx hb dX11_adds_54 rfl (lv_at hl 2 rfl) ?_
      refine lv_iconst (v := 5) hx hb dX11_adds_55 rfl ?_
      refine lv_icmp_ge (tgt := 77) hx hb dX11_adds_56 rfl (fun c9 => ?_) (fun c9 => ?_)
      · have hf := it_t hf c9
        exact J6 (q6.1, q6.2) H locs hP hD hS ls (lv_sub hl [0, 1] rfl) hf
      · have hf := it_f hf c9
        refine lv_aload_n hx hb dX11_adds_59 rfl (lv_at hl 0 rfl) ?_
        refine lv_sipush (v := 190) hx hb dX11_adds_60 rfl ?_
        refine lv_iconst (v := 5) hx hb dX11_adds_63 rfl ?_
        refine lv_iload_n hx hb dX11_adds_64 rfl (lv_at hl 1 rfl) ?_
        refine lv_imul hx hb dX11_adds_65 ?_
        refine lv_iadd hx hb dX11_adds_66 ?_
        refine lv_iload_n hx hb dX11_adds_67 rfl (lv_at hl 2 rfl) ?_
        refine lv_iadd hx hb dX11_adds_68 ?_
        refine lv_lconst (v := 0) hx hb dX11_adds_69 rfl ?_
        obtain ⟨h10, hf⟩ := gdI_some hf
        refine va_last hx hb hC.1 hP hD hS 0 1 rfl rfl h10 dX11_adds_70 (fun H locs hP hD hS => ?_)
        have hP : va_P E.1 vwCl (wLA E a0 340 (vp_updL q6.2 (((190 : Int32) + ((5 : Int32) * (v0 (6 : Int32).toNatClampNeg).toInt32)) + q6.1).toNatClampNeg (0 : Int64))) H := hP
        have hD : va_D A (wLA E a0 340 (vp_updL q6.2 (((190 : Int32) + ((5 : Int32) * (v0 (6 : Int32).toNatClampNeg).toInt32)) + q6.1).toNatClampNeg (0 : Int64))) := hD
        refine lv_iinc (v := (q6.1 + 1)) (lv' := [(2, .int (q6.1 + 1)), (0, .ref a0), (1, .int ((v0 (6 : Int32).toNatClampNeg).toInt32))]) hx hb dX11_adds_71 hl (k := 2) rfl rfl (by decide) rfl (fun ls hl => ?_)
        refine lv_goto (tgt := 54) hx hb dX11_adds_74 rfl ?_
        exact ih6 ((q6.1 + 1), (vp_updL q6.2 (((190 : Int32) + ((5 : Int32) * (v0 (6 : Int32).toNatClampNeg).toInt32)) + q6.1).toNatClampNeg (0 : Int64))) H locs hP hD hS ls (lv_sub hl [1, 2, 0] rfl) hf
  exact L6 FU ((0 : Int32), (vp_updL (vp_updL (vp_updL (vp_updL v0 (((70 : Int32) + ((4 : Int32) * (v0 (6 : Int32).toNatClampNeg).toInt32)) + (0 : Int32)).toNatClampNeg (1 : Int64)) (((70 : Int32) + ((4 : Int32) * (v0 (6 : Int32).toNatClampNeg).toInt32)) + (1 : Int32)).toNatClampNeg (1 : Int64)) (((70 : Int32) + ((4 : Int32) * (v0 (6 : Int32).toNatClampNeg).toInt32)) + (2 : Int32)).toNatClampNeg ((-1) : Int64)) (((70 : Int32) + ((4 : Int32) * (v0 (6 : Int32).toNatClampNeg).toInt32)) + (3 : Int32)).toNatClampNeg (0 : Int64))) H locs hP hD hS ls (lv_sub hl [2, 1, 0] rfl) hf

/-! X11_targets -/
abbrev rmX11_targets : Room := { frames := 4, cells := 0, slots := 0, locals := 89 }
theorem hdS_X11_targets : yX11_targets.cls ≠ "java/lang/invoke/MethodHandle" ∧ yX11_targets.cls ≠ "java/lang/invoke/VarHandle" ∧ (parseMethodDescriptor yX11_targets.desc).map (fun d => d.parameters.length) = some 2 := by decide +kernel
set_option maxHeartbeats 4000000 in
set_option maxRecDepth 100000 in
theorem c_X11_targets (l : Launch) (E : G0) (a0 : Nat) (v0 : (Nat → Int64)) (p1 : Int32) (x : Int32) (hf : f_X11_targets v0 p1 = some x) : Met l yX11_targets wsX11_targets rmX11_targets (va_Pc [.ref a0, .int p1] (PR E (wLA E a0 340 v0))) (vp_Si (fun r => r = x)) 0 0 (fun _ => False) := by
  refine Met.ofW (cc := cX11_targets) (maxL := 6) (ret := some .int) (by decide) rfl ?_
  intro p e s m args below meth c s₁ B hml hv
  obtain ⟨ha, hP, hC⟩ := hv
  have hx := B.exec
  have hb := B.bytes
  have hr := B.returns
  have hts := atoms_spec (ws := wsX11_targets) B.pre
  have hown : s.vm.findClass RX11 = some m.cls := findClass_of_methodNamed B.named
  have hlocks := B.notSynchronized
  have hS : va_S (fun _ => False) s.heap s.heap [] := va_S.rf
  generalize hQe : MQ below (vp_Si (fun r => r = x)) args s 0 0 (fun _ => False) = Q
  refine st_W ha (Nat.le_of_ble_eq_true rfl) (fun ls hl => ?_)
  have hl : lv_has ls 6 [(0, .ref a0), (1, .int p1)] := hl
  unfold f_X11_targets at hf
  refine lv_aload_n hx hb dX11_targets_0 rfl (lv_at hl 0 rfl) ?_
  obtain ⟨r1, e1, hf⟩ := bd_some hf
  refine cr_i (va_runS (As := [.ref a0]) (rest := []) ⟨hx, hb, hml, hown, hts⟩ (c_X11_ups l E a0 v0 r1 e1) (va_cwS 1 hts gX11_targets_X11_ups rfl rfl rfl hdS_X11_ups ⟨Nat.le_of_ble_eq_true rfl, Nat.le_of_ble_eq_true rfl⟩) ⟨PR.blind, PR.pre hC hS hP⟩ rfl rfl hl.1 rfl (lv_room (Nat.le_of_ble_eq_true rfl)) dX11_targets_1 ⟨Nat.le_of_ble_eq_true rfl, Nat.le_of_ble_eq_true rfl⟩) ?_
  refine lv_istore_n (lv' := [(2, .int r1), (0, .ref a0), (1, .int p1)]) hx hb dX11_targets_4 rfl hl (by decide) rfl (fun ls hl => ?_)
  refine lv_iconst (v := 0) hx hb dX11_targets_5 rfl ?_
  refine lv_istore_n (lv' := [(3, .int (0 : Int32)), (2, .int r1), (0, .ref a0), (1, .int p1)]) hx hb dX11_targets_6 rfl hl (by decide) rfl (fun ls hl => ?_)
  refine lv_iconst (v := 0) hx hb dX11_targets_7 rfl ?_
  refine lv_istore (lv' := [(4, .int (0 : Int32)), (3, .int (0 : Int32)), (2, .int r1), (0, .ref a0), (1, .int p1)]) hx hb dX11_targets_8 hl (by decide) rfl (fun ls hl => ?_)
  obtain ⟨K2, hK2, hf⟩ := jn_some hf
  have J2 : ∀ (q2 : Int32 × Int32 × Int32) (ls : Array Slot) (hl : lv_has ls 6 [(3, .int q2.2.1)]) (hf : K2 q2 = some x), W p l e (headSpec wsX11_targets rmX11_targets).room s m args below meth c s.heap [] 0 0 Q (F0 m 49 ls []) := by
    intro q2 ls hl hf
    have hf := (hK2 q2).trans hf
    refine lv_iload_n hx hb dX11_targets_49 rfl (lv_at hl 0 rfl) ?_
    cases Option.some.inj hf
    subst hQe
    exact en_i hx hb hr hlocks dX11_targets_50
  have L2 : ∀ (n : Nat) (q2 : Int32 × Int32 × Int32) (ls : Array Slot) (hl : lv_has ls 6 [(0, .ref a0), (1, .int p1), (2, .int q2.1), (3, .int q2.2.1), (4, .int q2.2.2)]) (hf : lpF (bX11_targets_2 p1 v0 K2) n q2 = some x), W p l e (headSpec wsX11_targets rmX11_targets).room s m args below meth c s.heap [] 0 0 Q (F0 m 10 ls []) := by
    intro n
    induction n with
    | zero => intro q2 ls hl hf; exact (lpF_zero hf).elim
    | succ n ih2 =>
      intro q2 ls hl hf
      have hf := lpF_succ hf
      unfold bX11_targets_2 at hf
      refine lv_iload hx hb dX11_targets_10 (lv_at hl 4 rfl) ?_
      refine lv_iload_n hx hb dX11_targets_12 rfl (lv_at hl 1 rfl) ?_
      refine lv_icmp_ge (tgt := 49) hx hb dX11_targets_13 rfl (fun c3 => ?_) (fun c3 => ?_)
      · have hf := it_t hf c3
        exact J2 (q2.1, q2.2.1, q2.2.2) ls (lv_sub hl [3] rfl) hf
      · have hf := it_f hf c3
        refine lv_iload_n hx hb dX11_targets_16 rfl (lv_at hl 2 rfl) ?_
        refine lv_if_eq (tgt := 49) hx hb dX11_targets_17 rfl (fun c4 => ?_) (fun c4 => ?_)
        · have hf := it_t hf c4
          exact J2 (q2.1, q2.2.1, q2.2.2) ls (lv_sub hl [3] rfl) hf
        · have hf := it_f hf c4
          refine lv_aload_n hx hb dX11_targets_20 rfl (lv_at hl 0 rfl) ?_
          refine lv_iload_n hx hb dX11_targets_21 rfl (lv_at hl 2 rfl) ?_
          obtain ⟨r5, e5, hf⟩ := bd_some hf
          refine cr_i (va_runS (As := [.ref a0, .int q2.1]) (rest := []) ⟨hx, hb, hml, hown, hts⟩ (c_X11_best l E a0 v0 q2.1 r5 e5) (va_cwS 2 hts gX11_targets_X11_best rfl rfl rfl hdS_X11_best ⟨Nat.le_of_ble_eq_true rfl, Nat.le_of_ble_eq_true rfl⟩) ⟨PR.blind, PR.pre hC hS hP⟩ rfl rfl hl.1 rfl (lv_room (Nat.le_of_ble_eq_true rfl)) dX11_targets_22 ⟨Nat.le_of_ble_eq_true rfl, Nat.le_of_ble_eq_true rfl⟩) ?_
          refine lv_istore (lv' := [(5, .int r5), (0, .ref a0), (1, .int p1), (2, .int q2.1), (3, .int q2.2.1), (4, .int q2.2.2)]) hx hb dX11_targets_25 hl (by decide) rfl (fun ls hl => ?_)
          refine lv_iload_n hx hb dX11_targets_27 rfl (lv_at hl 4 rfl) ?_
          refine lv_iconst (v := 1) hx hb dX11_targets_28 rfl ?_
          refine lv_iload hx hb dX11_targets_29 (lv_at hl 0 rfl) ?_
          refine lv_ishl hx hb dX11_targets_31 ?_
          refine lv_ior hx hb dX11_targets_32 ?_
          refine lv_istore_n (lv' := [(3, .int (q2.2.1 ||| ((1 : Int32) <<< (r5 &&& 31)))), (5, .int r5), (0, .ref a0), (1, .int p1), (2, .int q2.1), (4, .int q2.2.2)]) hx hb dX11_targets_33 rfl hl (by decide) rfl (fun ls hl => ?_)
          refine lv_iload_n hx hb dX11_targets_34 rfl (lv_at hl 4 rfl) ?_
          refine lv_iconst (v := 1) hx hb dX11_targets_35 rfl ?_
          refine lv_iload hx hb dX11_targets_36 (lv_at hl 1 rfl) ?_
          refine lv_ishl hx hb dX11_targets_38 ?_
          refine lv_iconst (v := (-1)) hx hb dX11_targets_39 rfl ?_
          refine lv_ixor hx hb dX11_targets_40 ?_
          refine lv_iand hx hb dX11_targets_41 ?_
          refine lv_istore_n (lv' := [(2, .int (q2.1 &&& (((1 : Int32) <<< (r5 &&& 31)) ^^^ (-1 : Int32)))), (3, .int (q2.2.1 ||| ((1 : Int32) <<< (r5 &&& 31)))), (5, .int r5), (0, .ref a0), (1, .int p1), (4, .int q2.2.2)]) hx hb dX11_targets_42 rfl hl (by decide) rfl (fun ls hl => ?_)
          refine lv_iinc (v := (q2.2.2 + 1)) (lv' := [(4, .int (q2.2.2 + 1)), (2, .int (q2.1 &&& (((1 : Int32) <<< (r5 &&& 31)) ^^^ (-1 : Int32)))), (3, .int (q2.2.1 ||| ((1 : Int32) <<< (r5 &&& 31)))), (5, .int r5), (0, .ref a0), (1, .int p1)]) hx hb dX11_targets_43 hl (k := 5) rfl rfl (by decide) rfl (fun ls hl => ?_)
          refine lv_goto (tgt := 10) hx hb dX11_targets_46 rfl ?_
          exact ih2 ((q2.1 &&& (((1 : Int32) <<< (r5 &&& 31)) ^^^ (-1 : Int32))), (q2.2.1 ||| ((1 : Int32) <<< (r5 &&& 31))), (q2.2.2 + 1)) ls (lv_sub hl [4, 5, 1, 2, 0] rfl) hf
  exact L2 FU (r1, (0 : Int32), (0 : Int32)) ls (lv_sub hl [3, 4, 2, 1, 0] rfl) hf

/-! X11_makes -/
abbrev rmX11_makes : Room := { frames := 5, cells := 0, slots := 0, locals := 114 }
theorem hdS_X11_makes : yX11_makes.cls ≠ "java/lang/invoke/MethodHandle" ∧ yX11_makes.cls ≠ "java/lang/invoke/VarHandle" ∧ (parseMethodDescriptor yX11_makes.desc).map (fun d => d.parameters.length) = some 2 := by decide +kernel
set_option maxHeartbeats 4000000 in
set_option maxRecDepth 100000 in
theorem c_X11_makes (l : Launch) (E : G0) (sz : Nat) (a0 : Nat) (v0 : (Nat → Int64)) (p1 : Int32) (x : Int32 × (Nat → Int64)) (hf : f_X11_makes v0 p1 = some x) : Met l yX11_makes wsX11_makes rmX11_makes (va_Pc [.ref a0, .int p1] (PW E (wLA E a0 340 v0) sz)) (va_Qi (fun r q => r = x.1 ∧ q = x.2) (fun q t => va_P E.1 vwCl ((fun q : (Nat → Int64) => wLA E a0 340 q) q) t.heap ∧ va_D (va_A (wLA E a0 340 v0) sz) ((fun q : (Nat → Int64) => wLA E a0 340 q) q)) (va_A (wLA E a0 340 v0) sz)) 0 0 (va_A (wLA E a0 340 v0) sz) := by
  refine Met.ofW (cc := cX11_makes) (maxL := 5) (ret := some .int) (by decide) rfl ?_
  intro p e s m args below meth c s₁ B hml hv
  obtain ⟨ha, hsz, hP, hD0, hC⟩ := hv
  have hx := B.exec
  have hb := B.bytes
  have hr := B.returns
  have hts := atoms_spec (ws := wsX11_makes) B.pre
  have hown : s.vm.findClass RX11 = some m.cls := findClass_of_methodNamed B.named
  have hlocks := B.notSynchronized
  subst hsz
  have hD := hD0.self (sz := s.heap.size)
  generalize hAe : va_A (wLA E a0 340 v0) s.heap.size = A at hD hC ⊢
  have hA : ∀ q : Nat, s.heap.size ≤ q → A q := fun q h => by rw [← hAe]; exact Or.inr h
  have hS : va_S A s.heap s.heap [] := va_S.rf
  have w1 : (Cond.constantLong RX11 104 (30)).before args s = true := hts _ (List.mem_of_getElem? (i := 1) rfl)
  have w2 : (Cond.constant RX11 106 (-1000003)).before args s = true := hts _ (List.mem_of_getElem? (i := 2) rfl)
  have w3 : (Cond.constant RX11 107 (-1000004)).before args s = true := hts _ (List.mem_of_getElem? (i := 3) rfl)
  have w4 : (Cond.constantLong RX11 118 (4611686018427387904)).before args s = true := hts _ (List.mem_of_getElem? (i := 4) rfl)
  generalize hQe : MQ below (va_Qi (fun r q => r = x.1 ∧ q = x.2) (fun q t => va_P E.1 vwCl ((fun q : (Nat → Int64) => wLA E a0 340 q) q) t.heap ∧ va_D A ((fun q : (Nat → Int64) => wLA E a0 340 q) q)) A) args s 0 0 A = Q
  refine st_W ha (Nat.le_of_ble_eq_true rfl) (fun ls hl => ?_)
  have hl : lv_has ls 5 [(0, .ref a0), (1, .int p1)] := hl
  unfold f_X11_makes at hf
  refine lv_aload_n hx hb dX11_makes_0 rfl (lv_at hl 0 rfl) ?_
  refine lv_bipush (v := 6) hx hb dX11_makes_1 rfl ?_
  obtain ⟨h1, hf⟩ := gdI_some hf
  refine va_lald hx hb hC.1 hP 0 1 rfl rfl h1 dX11_makes_3 ?_
  refine lv_ldc2 hx hb hown w1 dX11_makes_4 ?_
  refine W.lcmp hx hb dX11_makes_7 ?_
  refine lv_if_eq (tgt := 20) hx hb dX11_makes_8 rfl (fun c2 => ?_) (fun c2 => ?_)
  · have hf := it_t hf c2
    refine lv_ldc hx hb hown w2 dX11_makes_20 ?_
    cases Option.some.inj hf
    subst hQe
    exact ew_i (wf := (fun q : (Nat → Int64) => wLA E a0 340 q)) hx hb hr hlocks hP hD hS dX11_makes_22
  · have hf := it_f hf c2
    refine lv_aload_n hx hb dX11_makes_11 rfl (lv_at hl 0 rfl) ?_
    refine lv_iload_n hx hb dX11_makes_12 rfl (lv_at hl 1 rfl) ?_
    obtain ⟨r3, e3, hf⟩ := bd_some hf
    refine cr_i (va_runS (As := [.ref a0, .int p1]) (rest := []) ⟨hx, hb, hml, hown, hts⟩ (c_X11_many l E a0 v0 p1 r3 e3) (va_cwS 2 hts gX11_makes_X11_many rfl rfl rfl hdS_X11_many ⟨Nat.le_of_ble_eq_true rfl, Nat.le_of_ble_eq_true rfl⟩) ⟨PR.blind, PR.pre hC hS hP⟩ rfl rfl hl.1 rfl (lv_room (Nat.le_of_ble_eq_true rfl)) dX11_makes_13 ⟨Nat.le_of_ble_eq_true rfl, Nat.le_of_ble_eq_true rfl⟩) ?_
    refine lv_iconst (v := 4) hx hb dX11_makes_16 rfl ?_
    refine lv_icmp_ne (tgt := 23) hx hb dX11_makes_17 rfl (fun c4 => ?_) (fun c4 => ?_)
    · have hf := it_f hf c4
      refine lv_aload_n hx hb dX11_makes_23 rfl (lv_at hl 0 rfl) ?_
      obtain ⟨r5, e5, hf⟩ := bd_some hf
      refine cr_i (va_runS (As := [.ref a0]) (rest := []) ⟨hx, hb, hml, hown, hts⟩ (c_X11_ups l E a0 v0 r5 e5) (va_cwS 1 hts gX11_makes_X11_ups rfl rfl rfl hdS_X11_ups ⟨Nat.le_of_ble_eq_true rfl, Nat.le_of_ble_eq_true rfl⟩) ⟨PR.blind, PR.pre hC hS hP⟩ rfl rfl hl.1 rfl (lv_room (Nat.le_of_ble_eq_true rfl)) dX11_makes_24 ⟨Nat.le_of_ble_eq_true rfl, Nat.le_of_ble_eq_true rfl⟩) ?_
      refine lv_if_ne (tgt := 33) hx hb dX11_makes_27 rfl (fun c6 => ?_) (fun c6 => ?_)
      · have hf := it_f hf c6
        refine lv_aload_n hx hb dX11_makes_33 rfl (lv_at hl 0 rfl) ?_
        refine lv_aload_n hx hb dX11_makes_34 rfl (lv_at hl 0 rfl) ?_
        refine lv_aload_n hx hb dX11_makes_35 rfl (lv_at hl 0 rfl) ?_
        refine lv_bipush (v := 22) hx hb dX11_makes_36 rfl ?_
        refine lv_bipush (v := 8) hx hb dX11_makes_38 rfl ?_
        refine lv_iload_n hx hb dX11_makes_40 rfl (lv_at hl 1 rfl) ?_
        refine lv_imul hx hb dX11_makes_41 ?_
        refine lv_iadd hx hb dX11_makes_42 ?_
        refine lv_iconst (v := 1) hx hb dX11_makes_43 rfl ?_
        refine lv_iadd hx hb dX11_makes_44 ?_
        obtain ⟨h7, hf⟩ := gdI_some hf
        refine va_lald hx hb hC.1 hP 0 1 rfl rfl h7 dX11_makes_45 ?_
        obtain ⟨r8, e8, hf⟩ := bd_some hf
        refine cr_i (va_runS (As := [.ref a0, .long (v0 (((22 : Int32) + ((8 : Int32) * p1)) + (1 : Int32)).toNatClampNeg)]) (rest := [.ref a0]) ⟨hx, hb, hml, hown, hts⟩ (c_X11_wanted l E a0 v0 (v0 (((22 : Int32) + ((8 : Int32) * p1)) + (1 : Int32)).toNatClampNeg) r8 e8) (va_cwS 2 hts gX11_makes_X11_wanted rfl rfl rfl hdS_X11_wanted ⟨Nat.le_of_ble_eq_true rfl, Nat.le_of_ble_eq_true rfl⟩) ⟨PR.blind, PR.pre hC hS hP⟩ rfl rfl hl.1 rfl (lv_room (Nat.le_of_ble_eq_true rfl)) dX11_makes_46 ⟨Nat.le_of_ble_eq_true rfl, Nat.le_of_ble_eq_true rfl⟩) ?_
        obtain ⟨r9, e9, hf⟩ := bd_some hf
        refine cr_i (va_runS (As := [.ref a0, .int r8]) (rest := []) ⟨hx, hb, hml, hown, hts⟩ (c_X11_targets l E a0 v0 r8 r9 e9) (va_cwS 2 hts gX11_makes_X11_targets rfl rfl rfl hdS_X11_targets ⟨Nat.le_of_ble_eq_true rfl, Nat.le_of_ble_eq_true rfl⟩) ⟨PR.blind, PR.pre hC hS hP⟩ rfl rfl hl.1 rfl (lv_room (Nat.le_of_ble_eq_true rfl)) dX11_makes_49 ⟨Nat.le_of_ble_eq_true rfl, Nat.le_of_ble_eq_true rfl⟩) ?_
        refine lv_istore_n (lv' := [(2, .int r9), (0, .ref a0), (1, .int p1)]) hx hb dX11_makes_52 rfl hl (by decide) rfl (fun ls hl => ?_)
        refine lv_aload_n hx hb dX11_makes_53 rfl (lv_at hl 1 rfl) ?_
        obtain ⟨r10, e10, hf⟩ := bd_some hf
        refine cq_i hP hD hS [0] [] [0] (va_free (wc := (wLA E a0 340 v0)) hD hS hA [0] rfl) (va_runS (As := [.ref a0]) (rest := []) ⟨hx, hb, hml, hown, hts⟩ (c_X11_adds l E s.heap.size a0 v0 r10 e10) (va_cwS 1 hts gX11_makes_X11_adds rfl rfl rfl hdS_X11_adds ⟨Nat.le_of_ble_eq_true rfl, Nat.le_of_ble_eq_true rfl⟩) ⟨PW.blind, PW.pre hC hS hP hD (va_free hD hS hA [0] rfl)⟩ rfl rfl hl.1 rfl (lv_room (Nat.le_of_ble_eq_true rfl)) dX11_makes_54 ⟨Nat.le_of_ble_eq_true rfl, Nat.le_of_ble_eq_true rfl⟩) rfl rfl rfl rfl (wLA E a0 340 r10.2) rfl rfl (fun H locs hP hD hS => ?_)
        refine lv_istore_n (lv' := [(3, .int r10.1), (2, .int r9), (0, .ref a0), (1, .int p1)]) hx hb dX11_makes_57 rfl hl (by decide) rfl (fun ls hl => ?_)
        refine lv_iconst (v := 0) hx hb dX11_makes_58 rfl ?_
        refine lv_istore (lv' := [(4, .int (0 : Int32)), (3, .int r10.1), (2, .int r9), (0, .ref a0), (1, .int p1)]) hx hb dX11_makes_59 hl (by decide) rfl (fun ls hl => ?_)
        obtain ⟨K11, hK11, hf⟩ := jn_some hf
        have J11 : ∀ (q11 : Int32 × (Nat → Int64)) (H : Heap) (locs : List Loc) (hP : va_P E.1 vwCl (wLA E a0 340 q11.2) H) (hD : va_D A (wLA E a0 340 q11.2)) (hS : va_S A s.heap H locs) (ls : Array Slot) (hl : lv_has ls 5 [(0, .ref a0), (1, .int p1), (3, .int r10.1)]) (hf : K11 q11 = some x), W p l e (headSpec wsX11_makes rmX11_makes).room s m args below meth c H locs 0 0 Q (F0 m 105 ls []) := by
          intro q11 H locs hP hD hS ls hl hf
          have hf := (hK11 q11).trans hf
          refine lv_aload_n hx hb dX11_makes_105 rfl (lv_at hl 0 rfl) ?_
          refine lv_bipush (v := 22) hx hb dX11_makes_106 rfl ?_
          refine lv_bipush (v := 8) hx hb dX11_makes_108 rfl ?_
          refine lv_iload_n hx hb dX11_makes_110 rfl (lv_at hl 1 rfl) ?_
          refine lv_imul hx hb dX11_makes_111 ?_
          refine lv_iadd hx hb dX11_makes_112 ?_
          refine lv_iconst (v := 4) hx hb dX11_makes_113 rfl ?_
          refine lv_iadd hx hb dX11_makes_114 ?_
          refine lv_aload_n hx hb dX11_makes_115 rfl (lv_at hl 0 rfl) ?_
          refine lv_iload_n hx hb dX11_makes_116 rfl (lv_at hl 1 rfl) ?_
          obtain ⟨r12, e12, hf⟩ := bd_some hf
          refine cr_i (va_runS (As := [.ref a0, .int p1]) (rest := [.int (((22 : Int32) + ((8 : Int32) * p1)) + (4 : Int32)), .ref a0]) ⟨hx, hb, hml, hown, hts⟩ (c_X11_many l E a0 q11.2 p1 r12 e12) (va_cwS 2 hts gX11_makes_X11_many rfl rfl rfl hdS_X11_many ⟨Nat.le_of_ble_eq_true rfl, Nat.le_of_ble_eq_true rfl⟩) ⟨PR.blind, PR.pre hC hS hP⟩ rfl rfl hl.1 rfl (lv_room (Nat.le_of_ble_eq_true rfl)) dX11_makes_117 ⟨Nat.le_of_ble_eq_true rfl, Nat.le_of_ble_eq_true rfl⟩) ?_
          refine lv_iadd hx hb dX11_makes_120 ?_
          refine lv_iload_n hx hb dX11_makes_121 rfl (lv_at hl 2 rfl) ?_
          refine lv_i2l hx hb dX11_makes_122 rfl ?_
          obtain ⟨h13, hf⟩ := gdI_some hf
          refine va_last hx hb hC.1 hP hD hS 0 1 rfl rfl h13 dX11_makes_123 (fun H locs hP hD hS => ?_)
          have hP : va_P E.1 vwCl (wLA E a0 340 (vp_updL q11.2 ((((22 : Int32) + ((8 : Int32) * p1)) + (4 : Int32)) + r12).toNatClampNeg r10.1.toInt64)) H := hP
          have hD : va_D A (wLA E a0 340 (vp_updL q11.2 ((((22 : Int32) + ((8 : Int32) * p1)) + (4 : Int32)) + r12).toNatClampNeg r10.1.toInt64)) := hD
          refine lv_aload_n hx hb dX11_makes_124 rfl (lv_at hl 0 rfl) ?_
          refine lv_bipush (v := 22) hx hb dX11_makes_125 rfl ?_
          refine lv_bipush (v := 8) hx hb dX11_makes_127 rfl ?_
          refine lv_iload_n hx hb dX11_makes_129 rfl (lv_at hl 1 rfl) ?_
          refine lv_imul hx hb dX11_makes_130 ?_
          refine lv_iadd hx hb dX11_makes_131 ?_
          refine lv_iconst (v := 2) hx hb dX11_makes_132 rfl ?_
          refine lv_iadd hx hb dX11_makes_133 ?_
          refine lv_dup2_11 hx hb dX11_makes_134 rfl rfl ?_
          obtain ⟨h14, hf⟩ := gdI_some hf
          refine va_lald hx hb hC.1 hP 0 1 rfl rfl h14 dX11_makes_135 ?_
          refine lv_lconst (v := 1) hx hb dX11_makes_136 rfl ?_
          refine lv_ladd hx hb dX11_makes_137 ?_
          obtain ⟨h15, hf⟩ := gdI_some hf
          refine va_last hx hb hC.1 hP hD hS 0 1 rfl rfl h15 dX11_makes_138 (fun H locs hP hD hS => ?_)
          have hP : va_P E.1 vwCl (wLA E a0 340 (vp_updL (vp_updL q11.2 ((((22 : Int32) + ((8 : Int32) * p1)) + (4 : Int32)) + r12).toNatClampNeg r10.1.toInt64) (((22 : Int32) + ((8 : Int32) * p1)) + (2 : Int32)).toNatClampNeg (((vp_updL q11.2 ((((22 : Int32) + ((8 : Int32) * p1)) + (4 : Int32)) + r12).toNatClampNeg r10.1.toInt64) (((22 : Int32) + ((8 : Int32) * p1)) + (2 : Int32)).toNatClampNeg) + (1 : Int64)))) H := hP
          have hD : va_D A (wLA E a0 340 (vp_updL (vp_updL q11.2 ((((22 : Int32) + ((8 : Int32) * p1)) + (4 : Int32)) + r12).toNatClampNeg r10.1.toInt64) (((22 : Int32) + ((8 : Int32) * p1)) + (2 : Int32)).toNatClampNeg (((vp_updL q11.2 ((((22 : Int32) + ((8 : Int32) * p1)) + (4 : Int32)) + r12).toNatClampNeg r10.1.toInt64) (((22 : Int32) + ((8 : Int32) * p1)) + (2 : Int32)).toNatClampNeg) + (1 : Int64)))) := hD
          refine lv_iconst (v := 0) hx hb dX11_makes_139 rfl ?_
          cases Option.some.inj hf
          subst hQe
          exact ew_i (wf := (fun q : (Nat → Int64) => wLA E a0 340 q)) hx hb hr hlocks hP hD hS dX11_makes_140
        have L11 : ∀ (n : Nat) (q11 : Int32 × (Nat → Int64)) (H : Heap) (locs : List Loc) (hP : va_P E.1 vwCl (wLA E a0 340 q11.2) H) (hD : va_D A (wLA E a0 340 q11.2)) (hS : va_S A s.heap H locs) (ls : Array Slot) (hl : lv_has ls 5 [(0, .ref a0), (1, .int p1), (2, .int r9), (3, .int r10.1), (4, .int q11.1)]) (hf : lpF (bX11_makes_11 r9 r10 K11) n q11 = some x), W p l e (headSpec wsX11_makes rmX11_makes).room s m args below meth c H locs 0 0 Q (F0 m 61 ls []) := by
          intro n
          induction n with
          | zero => intro q11 H locs hP hD hS ls hl hf; exact (lpF_zero hf).elim
          | succ n ih11 =>
            intro q11 H locs hP hD hS ls hl hf
            have hf := lpF_succ hf
            unfold bX11_makes_11 at hf
            refine lv_iload hx hb dX11_makes_61 (lv_at hl 4 rfl) ?_
            refine lv_iconst (v := 5) hx hb dX11_makes_63 rfl ?_
            refine lv_icmp_ge (tgt := 105) hx hb dX11_makes_64 rfl (fun c16 => ?_) (fun c16 => ?_)
            · have hf := it_t hf c16
              exact J11 (q11.1, q11.2) H locs hP hD hS ls (lv_sub hl [0, 1, 3] rfl) hf
            · have hf := it_f hf c16
              refine lv_aload_n hx hb dX11_makes_67 rfl (lv_at hl 0 rfl) ?_
              refine lv_sipush (v := 190) hx hb dX11_makes_68 rfl ?_
              refine lv_iconst (v := 5) hx hb dX11_makes_71 rfl ?_
              refine lv_iload_n hx hb dX11_makes_72 rfl (lv_at hl 3 rfl) ?_
              refine lv_imul hx hb dX11_makes_73 ?_
              refine lv_iadd hx hb dX11_makes_74 ?_
              refine lv_iload hx hb dX11_makes_75 (lv_at hl 4 rfl) ?_
              refine lv_iadd hx hb dX11_makes_77 ?_
              refine lv_iload_n hx hb dX11_makes_78 rfl (lv_at hl 2 rfl) ?_
              refine lv_iload hx hb dX11_makes_79 (lv_at hl 4 rfl) ?_
              refine cr_i (va_runS (As := [.int r9, .int q11.1]) (rest := [.int (((190 : Int32) + ((5 : Int32) * r10.1)) + q11.1), .ref a0]) ⟨hx, hb, hml, hown, hts⟩ (c_X11_has l E r9 q11.1 _ rfl) (va_cwS 2 hts gX11_makes_X11_has rfl rfl rfl hdS_X11_has ⟨Nat.le_of_ble_eq_true rfl, Nat.le_of_ble_eq_true rfl⟩) ⟨PR.blind, PR.pre hC hS (hP.sub [] rfl)⟩ rfl rfl hl.1 rfl (lv_room (Nat.le_of_ble_eq_true rfl)) dX11_makes_81 ⟨Nat.le_of_ble_eq_true rfl, Nat.le_of_ble_eq_true rfl⟩) ?_
              obtain ⟨q17, e17, hf⟩ := bt_eq hf
              have J17 : W p l e (headSpec wsX11_makes rmX11_makes).room s m args below meth c H locs 0 0 Q (F0 m 98 ls [.long q17, .int (((190 : Int32) + ((5 : Int32) * r10.1)) + q11.1), .ref a0]) := by
                obtain ⟨h18, hf⟩ := gdI_some hf
                refine va_last hx hb hC.1 hP hD hS 0 1 rfl rfl h18 dX11_makes_98 (fun H locs hP hD hS => ?_)
                have hP : va_P E.1 vwCl (wLA E a0 340 (vp_updL q11.2 (((190 : Int32) + ((5 : Int32) * r10.1)) + q11.1).toNatClampNeg q17)) H := hP
                have hD : va_D A (wLA E a0 340 (vp_updL q11.2 (((190 : Int32) + ((5 : Int32) * r10.1)) + q11.1).toNatClampNeg q17)) := hD
                refine lv_iinc (v := (q11.1 + 1)) (lv' := [(4, .int (q11.1 + 1)), (0, .ref a0), (1, .int p1), (2, .int r9), (3, .int r10.1)]) hx hb dX11_makes_99 hl (k := 4) rfl rfl (by decide) rfl (fun ls hl => ?_)
                refine lv_goto (tgt := 61) hx hb dX11_makes_102 rfl ?_
                exact ih11 ((q11.1 + 1), (vp_updL q11.2 (((190 : Int32) + ((5 : Int32) * r10.1)) + q11.1).toNatClampNeg q17)) H locs hP hD hS ls (lv_sub hl [1, 2, 3, 4, 0] rfl) hf
              have hf := e17
              refine lv_if_eq (tgt := 97) hx hb dX11_makes_84 rfl (fun c19 => ?_) (fun c19 => ?_)
              · have hf := it_t hf c19
                refine lv_lconst (v := 0) hx hb dX11_makes_97 rfl ?_
                cases hf
                exact J17
              · have hf := it_f hf c19
                refine lv_ldc2 hx hb hown w4 dX11_makes_87 ?_
                refine lv_lconst (v := 1) hx hb dX11_makes_90 rfl ?_
                refine cr_l (va_runS (As := [.long ((4611686018427387904) : Int64), .long (1 : Int64)]) (rest := [.int (((190 : Int32) + ((5 : Int32) * r10.1)) + q11.1), .ref a0]) ⟨hx, hb, hml, hown, hts⟩ (c_X11_withVersion l E ((4611686018427387904) : Int64) (1 : Int64) _ rfl) (va_cwS 2 hts gX11_makes_X11_withVersion rfl rfl rfl hdS_X11_withVersion ⟨Nat.le_of_ble_eq_true rfl, Nat.le_of_ble_eq_true rfl⟩) ⟨PR.blind, PR.pre hC hS (hP.sub [] rfl)⟩ rfl rfl hl.1 rfl (lv_room (Nat.le_of_ble_eq_true rfl)) dX11_makes_91 ⟨Nat.le_of_ble_eq_true rfl, Nat.le_of_ble_eq_true rfl⟩) ?_
                refine lv_goto (tgt := 98) hx hb dX11_makes_94 rfl ?_
                cases hf
                exact J17
        exact L11 FU ((0 : Int32), r10.2) H locs hP hD hS ls (lv_sub hl [3, 4, 2, 1, 0] rfl) hf
      · have hf := it_t hf c6
        refine lv_ldc hx hb hown w3 dX11_makes_30 ?_
        cases Option.some.inj hf
        subst hQe
        exact ew_i (wf := (fun q : (Nat → Int64) => wLA E a0 340 q)) hx hb hr hlocks hP hD hS dX11_makes_32
    · have hf := it_t hf c4
      refine lv_ldc hx hb hown w2 dX11_makes_20 ?_
      cases Option.some.inj hf
      subst hQe
      exact ew_i (wf := (fun q : (Nat → Int64) => wLA E a0 340 q)) hx hb hr hlocks hP hD hS dX11_makes_22

/-! X11_owns -/
abbrev rmX11_owns : Room := { frames := 4, cells := 0, slots := 0, locals := 89 }
theorem hdS_X11_owns : yX11_owns.cls ≠ "java/lang/invoke/MethodHandle" ∧ yX11_owns.cls ≠ "java/lang/invoke/VarHandle" ∧ (parseMethodDescriptor yX11_owns.desc).map (fun d => d.parameters.length) = some 3 := by decide +kernel
set_option maxHeartbeats 4000000 in
set_option maxRecDepth 100000 in
theorem c_X11_owns (l : Launch) (E : G0) (sz : Nat) (a0 : Nat) (v0 : (Nat → Int64)) (p1 : Int32) (p2 : Int32) (x : Int32 × (Nat → Int64)) (hf : f_X11_owns v0 p1 p2 = some x) : Met l yX11_owns wsX11_owns rmX11_owns (va_Pc [.ref a0, .int p1, .int p2] (PW E (wLA E a0 340 v0) sz)) (va_Qi (fun r q => r = x.1 ∧ q = x.2) (fun q t => va_P E.1 vwCl ((fun q : (Nat → Int64) => wLA E a0 340 q) q) t.heap ∧ va_D (va_A (wLA E a0 340 v0) sz) ((fun q : (Nat → Int64) => wLA E a0 340 q) q)) (va_A (wLA E a0 340 v0) sz)) 0 0 (va_A (wLA E a0 340 v0) sz) := by
  refine Met.ofW (cc := cX11_owns) (maxL := 7) (ret := some .int) (by decide) rfl ?_
  intro p e s m args below meth c s₁ B hml hv
  obtain ⟨ha, hsz, hP, hD0, hC⟩ := hv
  have hx := B.exec
  have hb := B.bytes
  have hr := B.returns
  have hts := atoms_spec (ws := wsX11_owns) B.pre
  have hown : s.vm.findClass RX11 = some m.cls := findClass_of_methodNamed B.named
  have hlocks := B.notSynchronized
  subst hsz
  have hD := hD0.self (sz := s.heap.size)
  generalize hAe : va_A (wLA E a0 340 v0) s.heap.size = A at hD hC ⊢
  have hA : ∀ q : Nat, s.heap.size ≤ q → A q := fun q h => by rw [← hAe]; exact Or.inr h
  have hS : va_S A s.heap s.heap [] := va_S.rf
  have w1 : (Cond.constantLong RX11 104 (30)).before args s = true := hts _ (List.mem_of_getElem? (i := 1) rfl)
  have w2 : (Cond.constant RX11 106 (-1000003)).before args s = true := hts _ (List.mem_of_getElem? (i := 2) rfl)
  have w3 : (Cond.constant RX11 107 (-1000004)).before args s = true := hts _ (List.mem_of_getElem? (i := 3) rfl)
  generalize hQe : MQ below (va_Qi (fun r q => r = x.1 ∧ q = x.2) (fun q t => va_P E.1 vwCl ((fun q : (Nat → Int64) => wLA E a0 340 q) q) t.heap ∧ va_D A ((fun q : (Nat → Int64) => wLA E a0 340 q) q)) A) args s 0 0 A = Q
  refine st_W ha (Nat.le_of_ble_eq_true rfl) (fun ls hl => ?_)
  have hl : lv_has ls 7 [(0, .ref a0), (1, .int p1), (2, .int p2)] := hl
  unfold f_X11_owns at hf
  refine lv_aload_n hx hb dX11_owns_0 rfl (lv_at hl 0 rfl) ?_
  refine lv_iload_n hx hb dX11_owns_1 rfl (lv_at hl 1 rfl) ?_
  refine lv_iload_n hx hb dX11_owns_2 rfl (lv_at hl 2 rfl) ?_
  obtain ⟨r1, e1, hf⟩ := bd_some hf
  refine cr_i (va_runS (As := [.ref a0, .int p1, .int p2]) (rest := []) ⟨hx, hb, hml, hown, hts⟩ (c_X11_chunkOf l E a0 v0 p1 p2 r1 e1) (va_cwS 3 hts gX11_owns_X11_chunkOf rfl rfl rfl hdS_X11_chunkOf ⟨Nat.le_of_ble_eq_true rfl, Nat.le_of_ble_eq_true rfl⟩) ⟨PR.blind, PR.pre hC hS hP⟩ rfl rfl hl.1 rfl (lv_room (Nat.le_of_ble_eq_true rfl)) dX11_owns_3 ⟨Nat.le_of_ble_eq_true rfl, Nat.le_of_ble_eq_true rfl⟩) ?_
  refine lv_istore_n (lv' := [(3, .int r1), (0, .ref a0), (1, .int p1), (2, .int p2)]) hx hb dX11_owns_6 rfl hl (by decide) rfl (fun ls hl => ?_)
  refine lv_aload_n hx hb dX11_owns_7 rfl (lv_at hl 1 rfl) ?_
  refine lv_bipush (v := 70) hx hb dX11_owns_8 rfl ?_
  refine lv_iconst (v := 4) hx hb dX11_owns_10 rfl ?_
  refine lv_iload_n hx hb dX11_owns_11 rfl (lv_at hl 0 rfl) ?_
  refine lv_imul hx hb dX11_owns_12 ?_
  refine lv_iadd hx hb dX11_owns_13 ?_
  refine lv_iconst (v := 1) hx hb dX11_owns_14 rfl ?_
  refine lv_iadd hx hb dX11_owns_15 ?_
  obtain ⟨h2, hf⟩ := gdI_some hf
  refine va_lald hx hb hC.1 hP 0 1 rfl rfl h2 dX11_owns_16 ?_
  refine lv_lconst (v := 1) hx hb dX11_owns_17 rfl ?_
  refine W.lcmp hx hb dX11_owns_18 ?_
  refine lv_if_ne (tgt := 24) hx hb dX11_owns_19 rfl (fun c3 => ?_) (fun c3 => ?_)
  · have hf := it_f hf c3
    refine lv_aload_n hx hb dX11_owns_24 rfl (lv_at hl 1 rfl) ?_
    refine lv_bipush (v := 6) hx hb dX11_owns_25 rfl ?_
    obtain ⟨h4, hf⟩ := gdI_some hf
    refine va_lald hx hb hC.1 hP 0 1 rfl rfl h4 dX11_owns_27 ?_
    refine lv_ldc2 hx hb hown w1 dX11_owns_28 ?_
    refine W.lcmp hx hb dX11_owns_31 ?_
    refine lv_if_ne (tgt := 38) hx hb dX11_owns_32 rfl (fun c5 => ?_) (fun c5 => ?_)
    · have hf := it_f hf c5
      refine lv_aload_n hx hb dX11_owns_38 rfl (lv_at hl 1 rfl) ?_
      refine lv_iload_n hx hb dX11_owns_39 rfl (lv_at hl 0 rfl) ?_
      obtain ⟨r6, e6, hf⟩ := bd_some hf
      refine cr_i (va_runS (As := [.ref a0, .int r1]) (rest := []) ⟨hx, hb, hml, hown, hts⟩ (c_X11_ables l E a0 v0 r1 r6 e6) (va_cwS 2 hts gX11_owns_X11_ables rfl rfl rfl hdS_X11_ables ⟨Nat.le_of_ble_eq_true rfl, Nat.le_of_ble_eq_true rfl⟩) ⟨PR.blind, PR.pre hC hS hP⟩ rfl rfl hl.1 rfl (lv_room (Nat.le_of_ble_eq_true rfl)) dX11_owns_40 ⟨Nat.le_of_ble_eq_true rfl, Nat.le_of_ble_eq_true rfl⟩) ?_
      refine lv_istore (lv' := [(4, .int r6), (3, .int r1), (0, .ref a0), (1, .int p1), (2, .int p2)]) hx hb dX11_owns_43 hl (by decide) rfl (fun ls hl => ?_)
      refine lv_iload hx hb dX11_owns_45 (lv_at hl 0 rfl) ?_
      refine lv_if_ne (tgt := 53) hx hb dX11_owns_47 rfl (fun c7 => ?_) (fun c7 => ?_)
      · have hf := it_f hf c7
        refine lv_aload_n hx hb dX11_owns_53 rfl (lv_at hl 2 rfl) ?_
        obtain ⟨r8, e8, hf⟩ := bd_some hf
        refine cq_i hP hD hS [0] [] [0] (va_free (wc := (wLA E a0 340 v0)) hD hS hA [0] rfl) (va_runS (As := [.ref a0]) (rest := []) ⟨hx, hb, hml, hown, hts⟩ (c_X11_adds l E s.heap.size a0 v0 r8 e8) (va_cwS 1 hts gX11_owns_X11_adds rfl rfl rfl hdS_X11_adds ⟨Nat.le_of_ble_eq_true rfl, Nat.le_of_ble_eq_true rfl⟩) ⟨PW.blind, PW.pre hC hS hP hD (va_free hD hS hA [0] rfl)⟩ rfl rfl hl.1 rfl (lv_room (Nat.le_of_ble_eq_true rfl)) dX11_owns_54 ⟨Nat.le_of_ble_eq_true rfl, Nat.le_of_ble_eq_true rfl⟩) rfl rfl rfl rfl (wLA E a0 340 r8.2) rfl rfl (fun H locs hP hD hS => ?_)
        refine lv_istore (lv' := [(5, .int r8.1), (4, .int r6), (3, .int r1), (0, .ref a0), (1, .int p1), (2, .int p2)]) hx hb dX11_owns_57 hl (by decide) rfl (fun ls hl => ?_)
        refine lv_iconst (v := 0) hx hb dX11_owns_59 rfl ?_
        refine lv_istore (lv' := [(6, .int (0 : Int32)), (5, .int r8.1), (4, .int r6), (3, .int r1), (0, .ref a0), (1, .int p1), (2, .int p2)]) hx hb dX11_owns_60 hl (by decide) rfl (fun ls hl => ?_)
        obtain ⟨K9, hK9, hf⟩ := jn_some hf
        have J9 : ∀ (q9 : Int32 × (Nat → Int64)) (H : Heap) (locs : List Loc) (hP : va_P E.1 vwCl (wLA E a0 340 q9.2) H) (hD : va_D A (wLA E a0 340 q9.2)) (hS : va_S A s.heap H locs) (ls : Array Slot) (hl : lv_has ls 7 [(0, .ref a0), (1, .int p1), (2, .int p2), (3, .int r1), (5, .int r8.1)]) (hf : K9 q9 = some x), W p l e (headSpec wsX11_owns rmX11_owns).room s m args below meth c H locs 0 0 Q (F0 m 112 ls []) := by
          intro q9 H locs hP hD hS ls hl hf
          have hf := (hK9 q9).trans hf
          refine lv_aload_n hx hb dX11_owns_112 rfl (lv_at hl 0 rfl) ?_
          refine lv_bipush (v := 70) hx hb dX11_owns_113 rfl ?_
          refine lv_iconst (v := 4) hx hb dX11_owns_115 rfl ?_
          refine lv_iload_n hx hb dX11_owns_116 rfl (lv_at hl 3 rfl) ?_
          refine lv_imul hx hb dX11_owns_117 ?_
          refine lv_iadd hx hb dX11_owns_118 ?_
          refine lv_iconst (v := 1) hx hb dX11_owns_119 rfl ?_
          refine lv_iadd hx hb dX11_owns_120 ?_
          refine lv_dup2_11 hx hb dX11_owns_121 rfl rfl ?_
          obtain ⟨h10, hf⟩ := gdI_some hf
          refine va_lald hx hb hC.1 hP 0 1 rfl rfl h10 dX11_owns_122 ?_
          refine lv_lconst (v := 1) hx hb dX11_owns_123 rfl ?_
          refine lv_lsub hx hb dX11_owns_124 ?_
          obtain ⟨h11, hf⟩ := gdI_some hf
          refine va_last hx hb hC.1 hP hD hS 0 1 rfl rfl h11 dX11_owns_125 (fun H locs hP hD hS => ?_)
          have hP : va_P E.1 vwCl (wLA E a0 340 (vp_updL q9.2 (((70 : Int32) + ((4 : Int32) * r1)) + (1 : Int32)).toNatClampNeg ((q9.2 (((70 : Int32) + ((4 : Int32) * r1)) + (1 : Int32)).toNatClampNeg) - (1 : Int64)))) H := hP
          have hD : va_D A (wLA E a0 340 (vp_updL q9.2 (((70 : Int32) + ((4 : Int32) * r1)) + (1 : Int32)).toNatClampNeg ((q9.2 (((70 : Int32) + ((4 : Int32) * r1)) + (1 : Int32)).toNatClampNeg) - (1 : Int64)))) := hD
          refine lv_aload_n hx hb dX11_owns_126 rfl (lv_at hl 0 rfl) ?_
          refine lv_bipush (v := 22) hx hb dX11_owns_127 rfl ?_
          refine lv_bipush (v := 8) hx hb dX11_owns_129 rfl ?_
          refine lv_iload_n hx hb dX11_owns_131 rfl (lv_at hl 1 rfl) ?_
          refine lv_imul hx hb dX11_owns_132 ?_
          refine lv_iadd hx hb dX11_owns_133 ?_
          refine lv_iconst (v := 4) hx hb dX11_owns_134 rfl ?_
          refine lv_iadd hx hb dX11_owns_135 ?_
          refine lv_iload_n hx hb dX11_owns_136 rfl (lv_at hl 2 rfl) ?_
          refine lv_iadd hx hb dX11_owns_137 ?_
          refine lv_iload hx hb dX11_owns_138 (lv_at hl 4 rfl) ?_
          refine lv_i2l hx hb dX11_owns_140 rfl ?_
          obtain ⟨h12, hf⟩ := gdI_some hf
          refine va_last hx hb hC.1 hP hD hS 0 1 rfl rfl h12 dX11_owns_141 (fun H locs hP hD hS => ?_)
          have hP : va_P E.1 vwCl (wLA E a0 340 (vp_updL (vp_updL q9.2 (((70 : Int32) + ((4 : Int32) * r1)) + (1 : Int32)).toNatClampNeg ((q9.2 (((70 : Int32) + ((4 : Int32) * r1)) + (1 : Int32)).toNatClampNeg) - (1 : Int64))) ((((22 : Int32) + ((8 : Int32) * p1)) + (4 : Int32)) + p2).toNatClampNeg r8.1.toInt64)) H := hP
          have hD : va_D A (wLA E a0 340 (vp_updL (vp_updL q9.2 (((70 : Int32) + ((4 : Int32) * r1)) + (1 : Int32)).toNatClampNeg ((q9.2 (((70 : Int32) + ((4 : Int32) * r1)) + (1 : Int32)).toNatClampNeg) - (1 : Int64))) ((((22 : Int32) + ((8 : Int32) * p1)) + (4 : Int32)) + p2).toNatClampNeg r8.1.toInt64)) := hD
          refine lv_iconst (v := 0) hx hb dX11_owns_142 rfl ?_
          cases Option.some.inj hf
          subst hQe
          exact ew_i (wf := (fun q : (Nat → Int64) => wLA E a0 340 q)) hx hb hr hlocks hP hD hS dX11_owns_143
        have L9 : ∀ (n : Nat) (q9 : Int32 × (Nat → Int64)) (H : Heap) (locs : List Loc) (hP : va_P E.1 vwCl (wLA E a0 340 q9.2) H) (hD : va_D A (wLA E a0 340 q9.2)) (hS : va_S A s.heap H locs) (ls : Array Slot) (hl : lv_has ls 7 [(0, .ref a0), (1, .int p1), (2, .int p2), (3, .int r1), (4, .int r6), (5, .int r8.1), (6, .int q9.1)]) (hf : lpF (bX11_owns_9 r6 r1 r8 K9) n q9 = some x), W p l e (headSpec wsX11_owns rmX11_owns).room s m args below meth c H locs 0 0 Q (F0 m 62 ls []) := by
          intro n
          induction n with
          | zero => intro q9 H locs hP hD hS ls hl hf; exact (lpF_zero hf).elim
          | succ n ih9 =>
            intro q9 H locs hP hD hS ls hl hf
            have hf := lpF_succ hf
            unfold bX11_owns_9 at hf
            refine lv_iload hx hb dX11_owns_62 (lv_at hl 6 rfl) ?_
            refine lv_iconst (v := 5) hx hb dX11_owns_64 rfl ?_
            refine lv_icmp_ge (tgt := 112) hx hb dX11_owns_65 rfl (fun c13 => ?_) (fun c13 => ?_)
            · have hf := it_t hf c13
              exact J9 (q9.1, q9.2) H locs hP hD hS ls (lv_sub hl [0, 1, 2, 3, 5] rfl) hf
            · have hf := it_f hf c13
              refine lv_aload_n hx hb dX11_owns_68 rfl (lv_at hl 0 rfl) ?_
              refine lv_sipush (v := 190) hx hb dX11_owns_69 rfl ?_
              refine lv_iconst (v := 5) hx hb dX11_owns_72 rfl ?_
              refine lv_iload hx hb dX11_owns_73 (lv_at hl 5 rfl) ?_
              refine lv_imul hx hb dX11_owns_75 ?_
              refine lv_iadd hx hb dX11_owns_76 ?_
              refine lv_iload hx hb dX11_owns_77 (lv_at hl 6 rfl) ?_
              refine lv_iadd hx hb dX11_owns_79 ?_
              refine lv_iload hx hb dX11_owns_80 (lv_at hl 4 rfl) ?_
              refine lv_iload hx hb dX11_owns_82 (lv_at hl 6 rfl) ?_
              refine cr_i (va_runS (As := [.int r6, .int q9.1]) (rest := [.int (((190 : Int32) + ((5 : Int32) * r8.1)) + q9.1), .ref a0]) ⟨hx, hb, hml, hown, hts⟩ (c_X11_has l E r6 q9.1 _ rfl) (va_cwS 2 hts gX11_owns_X11_has rfl rfl rfl hdS_X11_has ⟨Nat.le_of_ble_eq_true rfl, Nat.le_of_ble_eq_true rfl⟩) ⟨PR.blind, PR.pre hC hS (hP.sub [] rfl)⟩ rfl rfl hl.1 rfl (lv_room (Nat.le_of_ble_eq_true rfl)) dX11_owns_84 ⟨Nat.le_of_ble_eq_true rfl, Nat.le_of_ble_eq_true rfl⟩) ?_
              obtain ⟨q14, e14, hf⟩ := bd_some hf
              have J14 : W p l e (headSpec wsX11_owns rmX11_owns).room s m args below meth c H locs 0 0 Q (F0 m 105 ls [.long q14, .int (((190 : Int32) + ((5 : Int32) * r8.1)) + q9.1), .ref a0]) := by
                obtain ⟨h15, hf⟩ := gdI_some hf
                refine va_last hx hb hC.1 hP hD hS 0 1 rfl rfl h15 dX11_owns_105 (fun H locs hP hD hS => ?_)
                have hP : va_P E.1 vwCl (wLA E a0 340 (vp_updL q9.2 (((190 : Int32) + ((5 : Int32) * r8.1)) + q9.1).toNatClampNeg q14)) H := hP
                have hD : va_D A (wLA E a0 340 (vp_updL q9.2 (((190 : Int32) + ((5 : Int32) * r8.1)) + q9.1).toNatClampNeg q14)) := hD
                refine lv_iinc (v := (q9.1 + 1)) (lv' := [(6, .int (q9.1 + 1)), (0, .ref a0), (1, .int p1), (2, .int p2), (3, .int r1), (4, .int r6), (5, .int r8.1)]) hx hb dX11_owns_106 hl (k := 6) rfl rfl (by decide) rfl (fun ls hl => ?_)
                refine lv_goto (tgt := 62) hx hb dX11_owns_109 rfl ?_
                exact ih9 ((q9.1 + 1), (vp_updL q9.2 (((190 : Int32) + ((5 : Int32) * r8.1)) + q9.1).toNatClampNeg q14)) H locs hP hD hS ls (lv_sub hl [1, 2, 3, 4, 5, 6, 0] rfl) hf
              have hf := e14
              refine lv_if_eq (tgt := 104) hx hb dX11_owns_87 rfl (fun c16 => ?_) (fun c16 => ?_)
              · have hf := it_t hf c16
                refine lv_lconst (v := 0) hx hb dX11_owns_104 rfl ?_
                cases Option.some.inj hf
                exact J14
              · have hf := it_f hf c16
                refine lv_aload_n hx hb dX11_owns_90 rfl (lv_at hl 0 rfl) ?_
                refine lv_iload_n hx hb dX11_owns_91 rfl (lv_at hl 3 rfl) ?_
                refine lv_iload hx hb dX11_owns_92 (lv_at hl 6 rfl) ?_
                obtain ⟨r17, e17, hf⟩ := bd_some hf
                refine cr_l (va_runS (As := [.ref a0, .int r1, .int q9.1]) (rest := [.int (((190 : Int32) + ((5 : Int32) * r8.1)) + q9.1), .ref a0]) ⟨hx, hb, hml, hown, hts⟩ (c_X11_copy l E a0 q9.2 r1 q9.1 r17 e17) (va_cwS 3 hts gX11_owns_X11_copy rfl rfl rfl hdS_X11_copy ⟨Nat.le_of_ble_eq_true rfl, Nat.le_of_ble_eq_true rfl⟩) ⟨PR.blind, PR.pre hC hS hP⟩ rfl rfl hl.1 rfl (lv_room (Nat.le_of_ble_eq_true rfl)) dX11_owns_94 ⟨Nat.le_of_ble_eq_true rfl, Nat.le_of_ble_eq_true rfl⟩) ?_
                refine lv_lconst (v := 1) hx hb dX11_owns_97 rfl ?_
                refine cr_l (va_runS (As := [.long r17, .long (1 : Int64)]) (rest := [.int (((190 : Int32) + ((5 : Int32) * r8.1)) + q9.1), .ref a0]) ⟨hx, hb, hml, hown, hts⟩ (c_X11_withVersion l E r17 (1 : Int64) _ rfl) (va_cwS 2 hts gX11_owns_X11_withVersion rfl rfl rfl hdS_X11_withVersion ⟨Nat.le_of_ble_eq_true rfl, Nat.le_of_ble_eq_true rfl⟩) ⟨PR.blind, PR.pre hC hS (hP.sub [] rfl)⟩ rfl rfl hl.1 rfl (lv_room (Nat.le_of_ble_eq_true rfl)) dX11_owns_98 ⟨Nat.le_of_ble_eq_true rfl, Nat.le_of_ble_eq_true rfl⟩) ?_
                refine lv_goto (tgt := 105) hx hb dX11_owns_101 rfl ?_
                cases Option.some.inj hf
                exact J14
        exact L9 FU ((0 : Int32), r8.2) H locs hP hD hS ls (lv_sub hl [4, 5, 6, 3, 2, 1, 0] rfl) hf
      · have hf := it_t hf c7
        refine lv_ldc hx hb hown w3 dX11_owns_50 ?_
        cases Option.some.inj hf
        subst hQe
        exact ew_i (wf := (fun q : (Nat → Int64) => wLA E a0 340 q)) hx hb hr hlocks hP hD hS dX11_owns_52
    · have hf := it_t hf c5
      refine lv_ldc hx hb hown w2 dX11_owns_35 ?_
      cases Option.some.inj hf
      subst hQe
      exact ew_i (wf := (fun q : (Nat → Int64) => wLA E a0 340 q)) hx hb hr hlocks hP hD hS dX11_owns_37
  · have hf := it_t hf c3
    refine lv_iconst (v := 0) hx hb dX11_owns_22 rfl ?_
    cases Option.some.inj hf
    subst hQe
    exact ew_i (wf := (fun q : (Nat → Int64) => wLA E a0 340 q)) hx hb hr hlocks hP hD hS dX11_owns_23

/-! X11_holds -/
abbrev rmX11_holds : Room := { frames := 3, cells := 0, slots := 0, locals := 66 }
theorem hdS_X11_holds : yX11_holds.cls ≠ "java/lang/invoke/MethodHandle" ∧ yX11_holds.cls ≠ "java/lang/invoke/VarHandle" ∧ (parseMethodDescriptor yX11_holds.desc).map (fun d => d.parameters.length) = some 2 := by decide +kernel
set_option maxHeartbeats 4000000 in
set_option maxRecDepth 100000 in
theorem c_X11_holds (l : Launch) (E : G0) (a0 : Nat) (v0 : (Nat → Int64)) (p1 : Int32) (x : Bool) (hf : f_X11_holds v0 p1 = some x) : Met l yX11_holds wsX11_holds rmX11_holds (va_Pc [.ref a0, .int p1] (PR E (wLA E a0 340 v0))) (vp_Si (fun r => r = bI x)) 0 0 (fun _ => False) := by
  refine Met.ofW (cc := cX11_holds) (maxL := 3) (ret := some .boolean) (by decide) rfl ?_
  intro p e s m args below meth c s₁ B hml hv
  obtain ⟨ha, hP, hC⟩ := hv
  have hx := B.exec
  have hb := B.bytes
  have hr := B.returns
  have hts := atoms_spec (ws := wsX11_holds) B.pre
  have hown : s.vm.findClass RX11 = some m.cls := findClass_of_methodNamed B.named
  have hlocks := B.notSynchronized
  have hS : va_S (fun _ => False) s.heap s.heap [] := va_S.rf
  generalize hQe : MQ below (vp_Si (fun r => r = bI x)) args s 0 0 (fun _ => False) = Q
  refine st_W ha (Nat.le_of_ble_eq_true rfl) (fun ls hl => ?_)
  have hl : lv_has ls 3 [(0, .ref a0), (1, .int p1)] := hl
  unfold f_X11_holds at hf
  refine lv_aload_n hx hb dX11_holds_0 rfl (lv_at hl 0 rfl) ?_
  refine lv_bipush (v := 70) hx hb dX11_holds_1 rfl ?_
  refine lv_iconst (v := 4) hx hb dX11_holds_3 rfl ?_
  refine lv_iload_n hx hb dX11_holds_4 rfl (lv_at hl 1 rfl) ?_
  refine lv_imul hx hb dX11_holds_5 ?_
  refine lv_iadd hx hb dX11_holds_6 ?_
  refine lv_iconst (v := 2) hx hb dX11_holds_7 rfl ?_
  refine lv_iadd hx hb dX11_holds_8 ?_
  obtain ⟨h1, hf⟩ := gdI_some hf
  refine va_lald hx hb hC.1 hP 0 1 rfl rfl h1 dX11_holds_9 ?_
  refine lv_l2i hx hb dX11_holds_10 rfl ?_
  refine lv_istore_n (lv' := [(2, .int ((v0 (((70 : Int32) + ((4 : Int32) * p1)) + (2 : Int32)).toNatClampNeg).toInt32)), (0, .ref a0), (1, .int p1)]) hx hb dX11_holds_11 rfl hl (by decide) rfl (fun ls hl => ?_)
  refine lv_iload_n hx hb dX11_holds_12 rfl (lv_at hl 0 rfl) ?_
  refine lv_if_lt (tgt := 46) hx hb dX11_holds_13 rfl (fun c2 => ?_) (fun c2 => ?_)
  · have hf := it_t hf c2
    refine lv_iconst (v := 0) hx hb dX11_holds_46 rfl ?_
    cases Option.some.inj hf
    subst hQe
    exact en_z hx hb hr hlocks rfl dX11_holds_47
  · have hf := it_f hf c2
    refine lv_aload_n hx hb dX11_holds_16 rfl (lv_at hl 1 rfl) ?_
    refine lv_iconst (v := 5) hx hb dX11_holds_17 rfl ?_
    obtain ⟨h3, hf⟩ := gdI_some hf
    refine va_lald hx hb hC.1 hP 0 1 rfl rfl h3 dX11_holds_18 ?_
    refine lv_aload_n hx hb dX11_holds_19 rfl (lv_at hl 1 rfl) ?_
    refine lv_bipush (v := 70) hx hb dX11_holds_20 rfl ?_
    refine lv_iconst (v := 4) hx hb dX11_holds_22 rfl ?_
    refine lv_iload_n hx hb dX11_holds_23 rfl (lv_at hl 2 rfl) ?_
    refine lv_imul hx hb dX11_holds_24 ?_
    refine lv_iadd hx hb dX11_holds_25 ?_
    refine lv_iconst (v := 3) hx hb dX11_holds_26 rfl ?_
    refine lv_iadd hx hb dX11_holds_27 ?_
    obtain ⟨h4, hf⟩ := gdI_some hf
    refine va_lald hx hb hC.1 hP 0 1 rfl rfl h4 dX11_holds_28 ?_
    refine W.lcmp hx hb dX11_holds_29 ?_
    refine lv_if_ge (tgt := 46) hx hb dX11_holds_30 rfl (fun c5 => ?_) (fun c5 => ?_)
    · have hf := it_t hf c5
      refine lv_iconst (v := 0) hx hb dX11_holds_46 rfl ?_
      cases Option.some.inj hf
      subst hQe
      exact en_z hx hb hr hlocks rfl dX11_holds_47
    · have hf := it_f hf c5
      refine lv_aload_n hx hb dX11_holds_33 rfl (lv_at hl 1 rfl) ?_
      refine lv_iload_n hx hb dX11_holds_34 rfl (lv_at hl 2 rfl) ?_
      refine lv_iload_n hx hb dX11_holds_35 rfl (lv_at hl 0 rfl) ?_
      obtain ⟨r6, e6, hf⟩ := bd_some hf
      refine cr_i (va_runS (As := [.ref a0, .int p1, .int ((v0 (((70 : Int32) + ((4 : Int32) * p1)) + (2 : Int32)).toNatClampNeg).toInt32)]) (rest := []) ⟨hx, hb, hml, hown, hts⟩ (c_X11_isAble l E a0 v0 p1 ((v0 (((70 : Int32) + ((4 : Int32) * p1)) + (2 : Int32)).toNatClampNeg).toInt32) r6 e6) (va_cwS 3 hts gX11_holds_X11_isAble rfl rfl rfl hdS_X11_isAble ⟨Nat.le_of_ble_eq_true rfl, Nat.le_of_ble_eq_true rfl⟩) ⟨PR.blind, PR.pre hC hS hP⟩ rfl rfl hl.1 rfl (lv_room (Nat.le_of_ble_eq_true rfl)) dX11_holds_36 ⟨Nat.le_of_ble_eq_true rfl, Nat.le_of_ble_eq_true rfl⟩) ?_
      refine lv_if_eq (tgt := 46) hx hb dX11_holds_39 rfl (fun c7 => ?_) (fun c7 => ?_)
      · have hf := it_t hf c7
        refine lv_iconst (v := 0) hx hb dX11_holds_46 rfl ?_
        cases Option.some.inj hf
        subst hQe
        exact en_z hx hb hr hlocks rfl dX11_holds_47
      · have hf := it_f hf c7
        refine lv_iconst (v := 1) hx hb dX11_holds_42 rfl ?_
        refine lv_goto (tgt := 47) hx hb dX11_holds_43 rfl ?_
        cases Option.some.inj hf
        subst hQe
        exact en_z hx hb hr hlocks rfl dX11_holds_47

/-! X11_leases -/
abbrev rmX11_leases : Room := { frames := 4, cells := 0, slots := 0, locals := 89 }
theorem hdS_X11_leases : yX11_leases.cls ≠ "java/lang/invoke/MethodHandle" ∧ yX11_leases.cls ≠ "java/lang/invoke/VarHandle" ∧ (parseMethodDescriptor yX11_leases.desc).map (fun d => d.parameters.length) = some 2 := by decide +kernel
set_option maxHeartbeats 4000000 in
set_option maxRecDepth 100000 in
theorem c_X11_leases (l : Launch) (E : G0) (sz : Nat) (a0 : Nat) (v0 : (Nat → Int64)) (p1 : Int32) (x : Int32 × (Nat → Int64)) (hf : f_X11_leases v0 p1 = some x) : Met l yX11_leases wsX11_leases rmX11_leases (va_Pc [.ref a0, .int p1] (PW E (wLA E a0 340 v0) sz)) (va_Qi (fun r q => r = x.1 ∧ q = x.2) (fun q t => va_P E.1 vwCl ((fun q : (Nat → Int64) => wLA E a0 340 q) q) t.heap ∧ va_D (va_A (wLA E a0 340 v0) sz) ((fun q : (Nat → Int64) => wLA E a0 340 q) q)) (va_A (wLA E a0 340 v0) sz)) 0 0 (va_A (wLA E a0 340 v0) sz) := by
  refine Met.ofW (cc := cX11_leases) (maxL := 4) (ret := some .int) (by decide) rfl ?_
  intro p e s m args below meth c s₁ B hml hv
  obtain ⟨ha, hsz, hP, hD0, hC⟩ := hv
  have hx := B.exec
  have hb := B.bytes
  have hr := B.returns
  have hts := atoms_spec (ws := wsX11_leases) B.pre
  have hown : s.vm.findClass RX11 = some m.cls := findClass_of_methodNamed B.named
  have hlocks := B.notSynchronized
  subst hsz
  have hD := hD0.self (sz := s.heap.size)
  generalize hAe : va_A (wLA E a0 340 v0) s.heap.size = A at hD hC ⊢
  have hA : ∀ q : Nat, s.heap.size ≤ q → A q := fun q h => by rw [← hAe]; exact Or.inr h
  have hS : va_S A s.heap s.heap [] := va_S.rf
  have w1 : (Cond.constant RX11 107 (-1000004)).before args s = true := hts _ (List.mem_of_getElem? (i := 1) rfl)
  generalize hQe : MQ below (va_Qi (fun r q => r = x.1 ∧ q = x.2) (fun q t => va_P E.1 vwCl ((fun q : (Nat → Int64) => wLA E a0 340 q) q) t.heap ∧ va_D A ((fun q : (Nat → Int64) => wLA E a0 340 q) q)) A) args s 0 0 A = Q
  refine st_W ha (Nat.le_of_ble_eq_true rfl) (fun ls hl => ?_)
  have hl : lv_has ls 4 [(0, .ref a0), (1, .int p1)] := hl
  unfold f_X11_leases at hf
  refine lv_aload_n hx hb dX11_leases_0 rfl (lv_at hl 0 rfl) ?_
  refine lv_iload_n hx hb dX11_leases_1 rfl (lv_at hl 1 rfl) ?_
  obtain ⟨r1, e1, hf⟩ := bd_some hf
  refine cr_i (va_runS (As := [.ref a0, .int p1]) (rest := []) ⟨hx, hb, hml, hown, hts⟩ (c_X11_ables l E a0 v0 p1 r1 e1) (va_cwS 2 hts gX11_leases_X11_ables rfl rfl rfl hdS_X11_ables ⟨Nat.le_of_ble_eq_true rfl, Nat.le_of_ble_eq_true rfl⟩) ⟨PR.blind, PR.pre hC hS hP⟩ rfl rfl hl.1 rfl (lv_room (Nat.le_of_ble_eq_true rfl)) dX11_leases_2 ⟨Nat.le_of_ble_eq_true rfl, Nat.le_of_ble_eq_true rfl⟩) ?_
  refine lv_istore_n (lv' := [(2, .int r1), (0, .ref a0), (1, .int p1)]) hx hb dX11_leases_5 rfl hl (by decide) rfl (fun ls hl => ?_)
  refine lv_iload_n hx hb dX11_leases_6 rfl (lv_at hl 0 rfl) ?_
  refine lv_if_ne (tgt := 13) hx hb dX11_leases_7 rfl (fun c2 => ?_) (fun c2 => ?_)
  · have hf := it_f hf c2
    refine lv_aload_n hx hb dX11_leases_13 rfl (lv_at hl 1 rfl) ?_
    refine lv_bipush (v := 70) hx hb dX11_leases_14 rfl ?_
    refine lv_iconst (v := 4) hx hb dX11_leases_16 rfl ?_
    refine lv_iload_n hx hb dX11_leases_17 rfl (lv_at hl 2 rfl) ?_
    refine lv_imul hx hb dX11_leases_18 ?_
    refine lv_iadd hx hb dX11_leases_19 ?_
    refine lv_iconst (v := 0) hx hb dX11_leases_20 rfl ?_
    refine lv_iadd hx hb dX11_leases_21 ?_
    refine lv_dup2_11 hx hb dX11_leases_22 rfl rfl ?_
    obtain ⟨h3, hf⟩ := gdI_some hf
    refine va_lald hx hb hC.1 hP 0 1 rfl rfl h3 dX11_leases_23 ?_
    refine lv_lconst (v := 1) hx hb dX11_leases_24 rfl ?_
    refine lv_ladd hx hb dX11_leases_25 ?_
    obtain ⟨h4, hf⟩ := gdI_some hf
    refine va_last hx hb hC.1 hP hD hS 0 1 rfl rfl h4 dX11_leases_26 (fun H locs hP hD hS => ?_)
    have hP : va_P E.1 vwCl (wLA E a0 340 (vp_updL v0 (((70 : Int32) + ((4 : Int32) * p1)) + (0 : Int32)).toNatClampNeg ((v0 (((70 : Int32) + ((4 : Int32) * p1)) + (0 : Int32)).toNatClampNeg) + (1 : Int64)))) H := hP
    have hD : va_D A (wLA E a0 340 (vp_updL v0 (((70 : Int32) + ((4 : Int32) * p1)) + (0 : Int32)).toNatClampNeg ((v0 (((70 : Int32) + ((4 : Int32) * p1)) + (0 : Int32)).toNatClampNeg) + (1 : Int64)))) := hD
    refine lv_iconst (v := 0) hx hb dX11_leases_27 rfl ?_
    refine lv_istore_n (lv' := [(3, .int (0 : Int32)), (2, .int r1), (0, .ref a0), (1, .int p1)]) hx hb dX11_leases_28 rfl hl (by decide) rfl (fun ls hl => ?_)
    obtain ⟨K5, hK5, hf⟩ := jn_some hf
    have J5 : ∀ (q5 : Int32 × (Nat → Int64)) (H : Heap) (locs : List Loc) (hP : va_P E.1 vwCl (wLA E a0 340 q5.2) H) (hD : va_D A (wLA E a0 340 q5.2)) (hS : va_S A s.heap H locs) (ls : Array Slot) (hl : lv_has ls 4 [(0, .ref a0), (1, .int p1), (2, .int r1)]) (hf : K5 q5 = some x), W p l e (headSpec wsX11_leases rmX11_leases).room s m args below meth c H locs 0 0 Q (F0 m 78 ls []) := by
      intro q5 H locs hP hD hS ls hl hf
      have hf := (hK5 q5).trans hf
      refine lv_aload_n hx hb dX11_leases_78 rfl (lv_at hl 0 rfl) ?_
      refine lv_bipush (v := 70) hx hb dX11_leases_79 rfl ?_
      refine lv_iconst (v := 4) hx hb dX11_leases_81 rfl ?_
      refine lv_iload_n hx hb dX11_leases_82 rfl (lv_at hl 1 rfl) ?_
      refine lv_imul hx hb dX11_leases_83 ?_
      refine lv_iadd hx hb dX11_leases_84 ?_
      refine lv_iconst (v := 2) hx hb dX11_leases_85 rfl ?_
      refine lv_iadd hx hb dX11_leases_86 ?_
      refine lv_aload_n hx hb dX11_leases_87 rfl (lv_at hl 0 rfl) ?_
      refine lv_iload_n hx hb dX11_leases_88 rfl (lv_at hl 2 rfl) ?_
      obtain ⟨r6, e6, hf⟩ := bd_some hf
      refine cr_i (va_runS (As := [.ref a0, .int r1]) (rest := [.int (((70 : Int32) + ((4 : Int32) * p1)) + (2 : Int32)), .ref a0]) ⟨hx, hb, hml, hown, hts⟩ (c_X11_best l E a0 q5.2 r1 r6 e6) (va_cwS 2 hts gX11_leases_X11_best rfl rfl rfl hdS_X11_best ⟨Nat.le_of_ble_eq_true rfl, Nat.le_of_ble_eq_true rfl⟩) ⟨PR.blind, PR.pre hC hS hP⟩ rfl rfl hl.1 rfl (lv_room (Nat.le_of_ble_eq_true rfl)) dX11_leases_89 ⟨Nat.le_of_ble_eq_true rfl, Nat.le_of_ble_eq_true rfl⟩) ?_
      refine lv_i2l hx hb dX11_leases_92 rfl ?_
      obtain ⟨h7, hf⟩ := gdI_some hf
      refine va_last hx hb hC.1 hP hD hS 0 1 rfl rfl h7 dX11_leases_93 (fun H locs hP hD hS => ?_)
      have hP : va_P E.1 vwCl (wLA E a0 340 (vp_updL q5.2 (((70 : Int32) + ((4 : Int32) * p1)) + (2 : Int32)).toNatClampNeg r6.toInt64)) H := hP
      have hD : va_D A (wLA E a0 340 (vp_updL q5.2 (((70 : Int32) + ((4 : Int32) * p1)) + (2 : Int32)).toNatClampNeg r6.toInt64)) := hD
      refine lv_aload_n hx hb dX11_leases_94 rfl (lv_at hl 0 rfl) ?_
      refine lv_bipush (v := 70) hx hb dX11_leases_95 rfl ?_
      refine lv_iconst (v := 4) hx hb dX11_leases_97 rfl ?_
      refine lv_iload_n hx hb dX11_leases_98 rfl (lv_at hl 1 rfl) ?_
      refine lv_imul hx hb dX11_leases_99 ?_
      refine lv_iadd hx hb dX11_leases_100 ?_
      refine lv_iconst (v := 3) hx hb dX11_leases_101 rfl ?_
      refine lv_iadd hx hb dX11_leases_102 ?_
      refine lv_aload_n hx hb dX11_leases_103 rfl (lv_at hl 0 rfl) ?_
      refine lv_iconst (v := 5) hx hb dX11_leases_104 rfl ?_
      obtain ⟨h8, hf⟩ := gdI_some hf
      refine va_lald hx hb hC.1 hP 0 1 rfl rfl h8 dX11_leases_105 ?_
      refine lv_aload_n hx hb dX11_leases_106 rfl (lv_at hl 0 rfl) ?_
      refine lv_iconst (v := 3) hx hb dX11_leases_107 rfl ?_
      obtain ⟨h9, hf⟩ := gdI_some hf
      refine va_lald hx hb hC.1 hP 0 1 rfl rfl h9 dX11_leases_108 ?_
      refine lv_ladd hx hb dX11_leases_109 ?_
      obtain ⟨h10, hf⟩ := gdI_some hf
      refine va_last hx hb hC.1 hP hD hS 0 1 rfl rfl h10 dX11_leases_110 (fun H locs hP hD hS => ?_)
      have hP : va_P E.1 vwCl (wLA E a0 340 (vp_updL (vp_updL q5.2 (((70 : Int32) + ((4 : Int32) * p1)) + (2 : Int32)).toNatClampNeg r6.toInt64) (((70 : Int32) + ((4 : Int32) * p1)) + (3 : Int32)).toNatClampNeg (((vp_updL q5.2 (((70 : Int32) + ((4 : Int32) * p1)) + (2 : Int32)).toNatClampNeg r6.toInt64) (5 : Int32).toNatClampNeg) + ((vp_updL q5.2 (((70 : Int32) + ((4 : Int32) * p1)) + (2 : Int32)).toNatClampNeg r6.toInt64) (3 : Int32).toNatClampNeg)))) H := hP
      have hD : va_D A (wLA E a0 340 (vp_updL (vp_updL q5.2 (((70 : Int32) + ((4 : Int32) * p1)) + (2 : Int32)).toNatClampNeg r6.toInt64) (((70 : Int32) + ((4 : Int32) * p1)) + (3 : Int32)).toNatClampNeg (((vp_updL q5.2 (((70 : Int32) + ((4 : Int32) * p1)) + (2 : Int32)).toNatClampNeg r6.toInt64) (5 : Int32).toNatClampNeg) + ((vp_updL q5.2 (((70 : Int32) + ((4 : Int32) * p1)) + (2 : Int32)).toNatClampNeg r6.toInt64) (3 : Int32).toNatClampNeg)))) := hD
      refine lv_iconst (v := 0) hx hb dX11_leases_111 rfl ?_
      cases Option.some.inj hf
      subst hQe
      exact ew_i (wf := (fun q : (Nat → Int64) => wLA E a0 340 q)) hx hb hr hlocks hP hD hS dX11_leases_112
    have L5 : ∀ (n : Nat) (q5 : Int32 × (Nat → Int64)) (H : Heap) (locs : List Loc) (hP : va_P E.1 vwCl (wLA E a0 340 q5.2) H) (hD : va_D A (wLA E a0 340 q5.2)) (hS : va_S A s.heap H locs) (ls : Array Slot) (hl : lv_has ls 4 [(0, .ref a0), (1, .int p1), (2, .int r1), (3, .int q5.1)]) (hf : lpF (bX11_leases_5 r1 p1 K5) n q5 = some x), W p l e (headSpec wsX11_leases rmX11_leases).room s m args below meth c H locs 0 0 Q (F0 m 29 ls []) := by
      intro n
      induction n with
      | zero => intro q5 H locs hP hD hS ls hl hf; exact (lpF_zero hf).elim
      | succ n ih5 =>
        intro q5 H locs hP hD hS ls hl hf
        have hf := lpF_succ hf
        unfold bX11_leases_5 at hf
        refine lv_iload_n hx hb dX11_leases_29 rfl (lv_at hl 3 rfl) ?_
        refine lv_iconst (v := 5) hx hb dX11_leases_30 rfl ?_
        refine lv_icmp_ge (tgt := 78) hx hb dX11_leases_31 rfl (fun c11 => ?_) (fun c11 => ?_)
        · have hf := it_t hf c11
          exact J5 (q5.1, q5.2) H locs hP hD hS ls (lv_sub hl [0, 1, 2] rfl) hf
        · have hf := it_f hf c11
          refine lv_iload_n hx hb dX11_leases_34 rfl (lv_at hl 2 rfl) ?_
          refine lv_iload_n hx hb dX11_leases_35 rfl (lv_at hl 3 rfl) ?_
          refine cr_i (va_runS (As := [.int r1, .int q5.1]) (rest := []) ⟨hx, hb, hml, hown, hts⟩ (c_X11_has l E r1 q5.1 _ rfl) (va_cwS 2 hts gX11_leases_X11_has rfl rfl rfl hdS_X11_has ⟨Nat.le_of_ble_eq_true rfl, Nat.le_of_ble_eq_true rfl⟩) ⟨PR.blind, PR.pre hC hS (hP.sub [] rfl)⟩ rfl rfl hl.1 rfl (lv_room (Nat.le_of_ble_eq_true rfl)) dX11_leases_36 ⟨Nat.le_of_ble_eq_true rfl, Nat.le_of_ble_eq_true rfl⟩) ?_
          refine lv_if_eq (tgt := 72) hx hb dX11_leases_39 rfl (fun c12 => ?_) (fun c12 => ?_)
          · have hf := it_t hf c12
            refine lv_iinc (v := (q5.1 + 1)) (lv' := [(3, .int (q5.1 + 1)), (0, .ref a0), (1, .int p1), (2, .int r1)]) hx hb dX11_leases_72 hl (k := 3) rfl rfl (by decide) rfl (fun ls hl => ?_)
            refine lv_goto (tgt := 29) hx hb dX11_leases_75 rfl ?_
            exact ih5 ((q5.1 + 1), q5.2) H locs hP hD hS ls (lv_sub hl [1, 2, 3, 0] rfl) hf
          · have hf := it_f hf c12
            refine lv_aload_n hx hb dX11_leases_42 rfl (lv_at hl 0 rfl) ?_
            refine lv_sipush (v := 190) hx hb dX11_leases_43 rfl ?_
            refine lv_iconst (v := 5) hx hb dX11_leases_46 rfl ?_
            refine lv_iload_n hx hb dX11_leases_47 rfl (lv_at hl 1 rfl) ?_
            refine lv_imul hx hb dX11_leases_48 ?_
            refine lv_iadd hx hb dX11_leases_49 ?_
            refine lv_iload_n hx hb dX11_leases_50 rfl (lv_at hl 3 rfl) ?_
            refine lv_iadd hx hb dX11_leases_51 ?_
            refine lv_aload_n hx hb dX11_leases_52 rfl (lv_at hl 0 rfl) ?_
            refine lv_iload_n hx hb dX11_leases_53 rfl (lv_at hl 1 rfl) ?_
            refine lv_iload_n hx hb dX11_leases_54 rfl (lv_at hl 3 rfl) ?_
            obtain ⟨r13, e13, hf⟩ := bd_some hf
            refine cr_l (va_runS (As := [.ref a0, .int p1, .int q5.1]) (rest := [.int (((190 : Int32) + ((5 : Int32) * p1)) + q5.1), .ref a0]) ⟨hx, hb, hml, hown, hts⟩ (c_X11_copy l E a0 q5.2 p1 q5.1 r13 e13) (va_cwS 3 hts gX11_leases_X11_copy rfl rfl rfl hdS_X11_copy ⟨Nat.le_of_ble_eq_true rfl, Nat.le_of_ble_eq_true rfl⟩) ⟨PR.blind, PR.pre hC hS hP⟩ rfl rfl hl.1 rfl (lv_room (Nat.le_of_ble_eq_true rfl)) dX11_leases_55 ⟨Nat.le_of_ble_eq_true rfl, Nat.le_of_ble_eq_true rfl⟩) ?_
            refine lv_aload_n hx hb dX11_leases_58 rfl (lv_at hl 0 rfl) ?_
            refine lv_bipush (v := 70) hx hb dX11_leases_59 rfl ?_
            refine lv_iconst (v := 4) hx hb dX11_leases_61 rfl ?_
            refine lv_iload_n hx hb dX11_leases_62 rfl (lv_at hl 1 rfl) ?_
            refine lv_imul hx hb dX11_leases_63 ?_
            refine lv_iadd hx hb dX11_leases_64 ?_
            refine lv_iconst (v := 0) hx hb dX11_leases_65 rfl ?_
            refine lv_iadd hx hb dX11_leases_66 ?_
            obtain ⟨h14, hf⟩ := gdI_some hf
            refine va_lald hx hb hC.1 hP 0 1 rfl rfl h14 dX11_leases_67 ?_
            refine cr_l (va_runS (As := [.long r13, .long (q5.2 (((70 : Int32) + ((4 : Int32) * p1)) + (0 : Int32)).toNatClampNeg)]) (rest := [.int (((190 : Int32) + ((5 : Int32) * p1)) + q5.1), .ref a0]) ⟨hx, hb, hml, hown, hts⟩ (c_X11_withVersion l E r13 (q5.2 (((70 : Int32) + ((4 : Int32) * p1)) + (0 : Int32)).toNatClampNeg) _ rfl) (va_cwS 2 hts gX11_leases_X11_withVersion rfl rfl rfl hdS_X11_withVersion ⟨Nat.le_of_ble_eq_true rfl, Nat.le_of_ble_eq_true rfl⟩) ⟨PR.blind, PR.pre hC hS (hP.sub [] rfl)⟩ rfl rfl hl.1 rfl (lv_room (Nat.le_of_ble_eq_true rfl)) dX11_leases_68 ⟨Nat.le_of_ble_eq_true rfl, Nat.le_of_ble_eq_true rfl⟩) ?_
            obtain ⟨h15, hf⟩ := gdI_some hf
            refine va_last hx hb hC.1 hP hD hS 0 1 rfl rfl h15 dX11_leases_71 (fun H locs hP hD hS => ?_)
            have hP : va_P E.1 vwCl (wLA E a0 340 (vp_updL q5.2 (((190 : Int32) + ((5 : Int32) * p1)) + q5.1).toNatClampNeg (f_X11_withVersion r13 (q5.2 (((70 : Int32) + ((4 : Int32) * p1)) + (0 : Int32)).toNatClampNeg)))) H := hP
            have hD : va_D A (wLA E a0 340 (vp_updL q5.2 (((190 : Int32) + ((5 : Int32) * p1)) + q5.1).toNatClampNeg (f_X11_withVersion r13 (q5.2 (((70 : Int32) + ((4 : Int32) * p1)) + (0 : Int32)).toNatClampNeg)))) := hD
            refine lv_iinc (v := (q5.1 + 1)) (lv' := [(3, .int (q5.1 + 1)), (0, .ref a0), (1, .int p1), (2, .int r1)]) hx hb dX11_leases_72 hl (k := 3) rfl rfl (by decide) rfl (fun ls hl => ?_)
            refine lv_goto (tgt := 29) hx hb dX11_leases_75 rfl ?_
            exact ih5 ((q5.1 + 1), (vp_updL q5.2 (((190 : Int32) + ((5 : Int32) * p1)) + q5.1).toNatClampNeg (f_X11_withVersion r13 (q5.2 (((70 : Int32) + ((4 : Int32) * p1)) + (0 : Int32)).toNatClampNeg)))) H locs hP hD hS ls (lv_sub hl [1, 2, 3, 0] rfl) hf
    exact L5 FU ((0 : Int32), (vp_updL v0 (((70 : Int32) + ((4 : Int32) * p1)) + (0 : Int32)).toNatClampNeg ((v0 (((70 : Int32) + ((4 : Int32) * p1)) + (0 : Int32)).toNatClampNeg) + (1 : Int64)))) H locs hP hD hS ls (lv_sub hl [2, 3, 1, 0] rfl) hf
  · have hf := it_t hf c2
    refine lv_ldc hx hb hown w1 dX11_leases_10 ?_
    cases Option.some.inj hf
    subst hQe
    exact ew_i (wf := (fun q : (Nat → Int64) => wLA E a0 340 q)) hx hb hr hlocks hP hD hS dX11_leases_12

/-! X11_greatestFilled -/
abbrev rmX11_greatestFilled : Room := { frames := 3, cells := 0, slots := 0, locals := 66 }
theorem hdS_X11_greatestFilled : yX11_greatestFilled.cls ≠ "java/lang/invoke/MethodHandle" ∧ yX11_greatestFilled.cls ≠ "java/lang/invoke/VarHandle" ∧ (parseMethodDescriptor yX11_greatestFilled.desc).map (fun d => d.parameters.length) = some 2 := by decide +kernel
set_option maxHeartbeats 4000000 in
set_option maxRecDepth 100000 in
theorem c_X11_greatestFilled (l : Launch) (E : G0) (a0 : Nat) (v0 : (Nat → Int64)) (p1 : Int32) (x : Int32) (hf : f_X11_greatestFilled v0 p1 = some x) : Met l yX11_greatestFilled wsX11_greatestFilled rmX11_greatestFilled (va_Pc [.ref a0, .int p1] (PR E (wLA E a0 340 v0))) (vp_Si (fun r => r = x)) 0 0 (fun _ => False) := by
  refine Met.ofW (cc := cX11_greatestFilled) (maxL := 5) (ret := some .int) (by decide) rfl ?_
  intro p e s m args below meth c s₁ B hml hv
  obtain ⟨ha, hP, hC⟩ := hv
  have hx := B.exec
  have hb := B.bytes
  have hr := B.returns
  have hts := atoms_spec (ws := wsX11_greatestFilled) B.pre
  have hown : s.vm.findClass RX11 = some m.cls := findClass_of_methodNamed B.named
  have hlocks := B.notSynchronized
  have hS : va_S (fun _ => False) s.heap s.heap [] := va_S.rf
  generalize hQe : MQ below (vp_Si (fun r => r = x)) args s 0 0 (fun _ => False) = Q
  refine st_W ha (Nat.le_of_ble_eq_true rfl) (fun ls hl => ?_)
  have hl : lv_has ls 5 [(0, .ref a0), (1, .int p1)] := hl
  unfold f_X11_greatestFilled at hf
  refine lv_iconst (v := 0) hx hb dX11_greatestFilled_0 rfl ?_
  refine lv_istore_n (lv' := [(2, .int (0 : Int32)), (0, .ref a0), (1, .int p1)]) hx hb dX11_greatestFilled_1 rfl hl (by decide) rfl (fun ls hl => ?_)
  refine lv_iconst (v := 0) hx hb dX11_greatestFilled_2 rfl ?_
  refine lv_istore_n (lv' := [(3, .int (0 : Int32)), (2, .int (0 : Int32)), (0, .ref a0), (1, .int p1)]) hx hb dX11_greatestFilled_3 rfl hl (by decide) rfl (fun ls hl => ?_)
  obtain ⟨K1, hK1, hf⟩ := jn_some hf
  have J1 : ∀ (q1 : Int32 × Int32) (ls : Array Slot) (hl : lv_has ls 5 [(2, .int q1.1)]) (hf : K1 q1 = some x), W p l e (headSpec wsX11_greatestFilled rmX11_greatestFilled).room s m args below meth c s.heap [] 0 0 Q (F0 m 72 ls []) := by
    intro q1 ls hl hf
    have hf := (hK1 q1).trans hf
    refine lv_iload_n hx hb dX11_greatestFilled_72 rfl (lv_at hl 0 rfl) ?_
    cases Option.some.inj hf
    subst hQe
    exact en_i hx hb hr hlocks dX11_greatestFilled_73
  have L1 : ∀ (n : Nat) (q1 : Int32 × Int32) (ls : Array Slot) (hl : lv_has ls 5 [(0, .ref a0), (1, .int p1), (2, .int q1.1), (3, .int q1.2)]) (hf : lpF (bX11_greatestFilled_1 v0 p1 K1) n q1 = some x), W p l e (headSpec wsX11_greatestFilled rmX11_greatestFilled).room s m args below meth c s.heap [] 0 0 Q (F0 m 4 ls []) := by
    intro n
    induction n with
    | zero => intro q1 ls hl hf; exact (lpF_zero hf).elim
    | succ n ih1 =>
      intro q1 ls hl hf
      have hf := lpF_succ hf
      unfold bX11_greatestFilled_1 at hf
      refine lv_iload_n hx hb dX11_greatestFilled_4 rfl (lv_at hl 3 rfl) ?_
      refine lv_iconst (v := 5) hx hb dX11_greatestFilled_5 rfl ?_
      refine lv_icmp_ge (tgt := 72) hx hb dX11_greatestFilled_6 rfl (fun c2 => ?_) (fun c2 => ?_)
      · have hf := it_t hf c2
        exact J1 (q1.1, q1.2) ls (lv_sub hl [2] rfl) hf
      · have hf := it_f hf c2
        refine lv_iload_n hx hb dX11_greatestFilled_9 rfl (lv_at hl 3 rfl) ?_
        refine lv_i2l hx hb dX11_greatestFilled_10 rfl ?_
        refine lv_aload_n hx hb dX11_greatestFilled_11 rfl (lv_at hl 0 rfl) ?_
        refine lv_iconst (v := 0) hx hb dX11_greatestFilled_12 rfl ?_
        obtain ⟨h3, hf⟩ := gdI_some hf
        refine va_lald hx hb hC.1 hP 0 1 rfl rfl h3 dX11_greatestFilled_13 ?_
        refine W.lcmp hx hb dX11_greatestFilled_14 ?_
        obtain ⟨q4, e4, hf⟩ := bd_some hf
        have J4 : W p l e (headSpec wsX11_greatestFilled rmX11_greatestFilled).room s m args below meth c s.heap [] 0 0 Q (F0 m 45 ls [.int (bI q4)]) := by
          refine lv_istore (lv' := [(4, .int (bI q4)), (0, .ref a0), (1, .int p1), (2, .int q1.1), (3, .int q1.2)]) hx hb dX11_greatestFilled_45 hl (by decide) rfl (fun ls hl => ?_)
          refine lv_iload hx hb dX11_greatestFilled_47 (lv_at hl 0 rfl) ?_
          refine lv_if_eq (tgt := 64) hx hb dX11_greatestFilled_49 rfl (fun c5 => ?_) (fun c5 => ?_)
          · have hf := it_t hf c5
            refine lv_iload_n hx hb dX11_greatestFilled_64 rfl (lv_at hl 3 rfl) ?_
            refine lv_istore_n (lv' := [(2, .int q1.1), (4, .int (bI q4)), (0, .ref a0), (1, .int p1), (3, .int q1.2)]) hx hb dX11_greatestFilled_65 rfl hl (by decide) rfl (fun ls hl => ?_)
            refine lv_iinc (v := (q1.2 + 1)) (lv' := [(3, .int (q1.2 + 1)), (2, .int q1.1), (4, .int (bI q4)), (0, .ref a0), (1, .int p1)]) hx hb dX11_greatestFilled_66 hl (k := 4) rfl rfl (by decide) rfl (fun ls hl => ?_)
            refine lv_goto (tgt := 4) hx hb dX11_greatestFilled_69 rfl ?_
            exact ih1 (q1.1, (q1.2 + 1)) ls (lv_sub hl [3, 4, 1, 0] rfl) hf
          · have hf := it_f hf c5
            refine lv_aload_n hx hb dX11_greatestFilled_52 rfl (lv_at hl 1 rfl) ?_
            refine lv_iload_n hx hb dX11_greatestFilled_53 rfl (lv_at hl 2 rfl) ?_
            refine lv_iload_n hx hb dX11_greatestFilled_54 rfl (lv_at hl 4 rfl) ?_
            obtain ⟨r6, e6, hf⟩ := bd_some hf
            refine cr_l (va_runS (As := [.ref a0, .int p1, .int q1.2]) (rest := []) ⟨hx, hb, hml, hown, hts⟩ (c_X11_copy l E a0 v0 p1 q1.2 r6 e6) (va_cwS 3 hts gX11_greatestFilled_X11_copy rfl rfl rfl hdS_X11_copy ⟨Nat.le_of_ble_eq_true rfl, Nat.le_of_ble_eq_true rfl⟩) ⟨PR.blind, PR.pre hC hS hP⟩ rfl rfl hl.1 rfl (lv_room (Nat.le_of_ble_eq_true rfl)) dX11_greatestFilled_55 ⟨Nat.le_of_ble_eq_true rfl, Nat.le_of_ble_eq_true rfl⟩) ?_
            refine cr_i (va_runS (As := [.long r6]) (rest := []) ⟨hx, hb, hml, hown, hts⟩ (c_X11_filled l E r6 _ rfl) (va_cwS 1 hts gX11_greatestFilled_X11_filled rfl rfl rfl hdS_X11_filled ⟨Nat.le_of_ble_eq_true rfl, Nat.le_of_ble_eq_true rfl⟩) ⟨PR.blind, PR.pre hC hS (hP.sub [] rfl)⟩ rfl rfl hl.1 rfl (lv_room (Nat.le_of_ble_eq_true rfl)) dX11_greatestFilled_58 ⟨Nat.le_of_ble_eq_true rfl, Nat.le_of_ble_eq_true rfl⟩) ?_
            refine lv_goto (tgt := 65) hx hb dX11_greatestFilled_61 rfl ?_
            refine lv_istore_n (lv' := [(2, .int (f_X11_filled r6)), (4, .int (bI q4)), (0, .ref a0), (1, .int p1), (3, .int q1.2)]) hx hb dX11_greatestFilled_65 rfl hl (by decide) rfl (fun ls hl => ?_)
            refine lv_iinc (v := (q1.2 + 1)) (lv' := [(3, .int (q1.2 + 1)), (2, .int (f_X11_filled r6)), (4, .int (bI q4)), (0, .ref a0), (1, .int p1)]) hx hb dX11_greatestFilled_66 hl (k := 4) rfl rfl (by decide) rfl (fun ls hl => ?_)
            refine lv_goto (tgt := 4) hx hb dX11_greatestFilled_69 rfl ?_
            exact ih1 ((f_X11_filled r6), (q1.2 + 1)) ls (lv_sub hl [3, 4, 1, 0] rfl) hf
        have hf := e4
        refine lv_if_ge (tgt := 44) hx hb dX11_greatestFilled_15 rfl (fun c7 => ?_) (fun c7 => ?_)
        · have hf := it_t hf c7
          refine lv_iconst (v := 0) hx hb dX11_greatestFilled_44 rfl ?_
          cases Option.some.inj hf
          exact J4
        · have hf := it_f hf c7
          refine lv_aload_n hx hb dX11_greatestFilled_18 rfl (lv_at hl 0 rfl) ?_
          refine lv_iload_n hx hb dX11_greatestFilled_19 rfl (lv_at hl 1 rfl) ?_
          refine lv_iload_n hx hb dX11_greatestFilled_20 rfl (lv_at hl 3 rfl) ?_
          obtain ⟨r8, e8, hf⟩ := bd_some hf
          refine cr_i (va_runS (As := [.ref a0, .int p1, .int q1.2]) (rest := []) ⟨hx, hb, hml, hown, hts⟩ (c_X11_isAble l E a0 v0 p1 q1.2 r8 e8) (va_cwS 3 hts gX11_greatestFilled_X11_isAble rfl rfl rfl hdS_X11_isAble ⟨Nat.le_of_ble_eq_true rfl, Nat.le_of_ble_eq_true rfl⟩) ⟨PR.blind, PR.pre hC hS hP⟩ rfl rfl hl.1 rfl (lv_room (Nat.le_of_ble_eq_true rfl)) dX11_greatestFilled_21 ⟨Nat.le_of_ble_eq_true rfl, Nat.le_of_ble_eq_true rfl⟩) ?_
          refine lv_if_eq (tgt := 44) hx hb dX11_greatestFilled_24 rfl (fun c9 => ?_) (fun c9 => ?_)
          · have hf := it_t hf c9
            refine lv_iconst (v := 0) hx hb dX11_greatestFilled_44 rfl ?_
            cases Option.some.inj hf
            exact J4
          · have hf := it_f hf c9
            refine lv_aload_n hx hb dX11_greatestFilled_27 rfl (lv_at hl 0 rfl) ?_
            refine lv_iload_n hx hb dX11_greatestFilled_28 rfl (lv_at hl 1 rfl) ?_
            refine lv_iload_n hx hb dX11_greatestFilled_29 rfl (lv_at hl 3 rfl) ?_
            obtain ⟨r10, e10, hf⟩ := bd_some hf
            refine cr_l (va_runS (As := [.ref a0, .int p1, .int q1.2]) (rest := []) ⟨hx, hb, hml, hown, hts⟩ (c_X11_copy l E a0 v0 p1 q1.2 r10 e10) (va_cwS 3 hts gX11_greatestFilled_X11_copy rfl rfl rfl hdS_X11_copy ⟨Nat.le_of_ble_eq_true rfl, Nat.le_of_ble_eq_true rfl⟩) ⟨PR.blind, PR.pre hC hS hP⟩ rfl rfl hl.1 rfl (lv_room (Nat.le_of_ble_eq_true rfl)) dX11_greatestFilled_30 ⟨Nat.le_of_ble_eq_true rfl, Nat.le_of_ble_eq_true rfl⟩) ?_
            refine cr_i (va_runS (As := [.long r10]) (rest := []) ⟨hx, hb, hml, hown, hts⟩ (c_X11_filled l E r10 _ rfl) (va_cwS 1 hts gX11_greatestFilled_X11_filled rfl rfl rfl hdS_X11_filled ⟨Nat.le_of_ble_eq_true rfl, Nat.le_of_ble_eq_true rfl⟩) ⟨PR.blind, PR.pre hC hS (hP.sub [] rfl)⟩ rfl rfl hl.1 rfl (lv_room (Nat.le_of_ble_eq_true rfl)) dX11_greatestFilled_33 ⟨Nat.le_of_ble_eq_true rfl, Nat.le_of_ble_eq_true rfl⟩) ?_
            refine lv_iload_n hx hb dX11_greatestFilled_36 rfl (lv_at hl 2 rfl) ?_
            refine lv_icmp_le (tgt := 44) hx hb dX11_greatestFilled_37 rfl (fun c11 => ?_) (fun c11 => ?_)
            · have hf := it_t hf c11
              refine lv_iconst (v := 0) hx hb dX11_greatestFilled_44 rfl ?_
              cases Option.some.inj hf
              exact J4
            · have hf := it_f hf c11
              refine lv_iconst (v := 1) hx hb dX11_greatestFilled_40 rfl ?_
              refine lv_goto (tgt := 45) hx hb dX11_greatestFilled_41 rfl ?_
              cases Option.some.inj hf
              exact J4
  exact L1 FU ((0 : Int32), (0 : Int32)) ls (lv_sub hl [2, 3, 1, 0] rfl) hf

/-! X11_pads -/
abbrev rmX11_pads : Room := { frames := 3, cells := 0, slots := 0, locals := 66 }
theorem hdS_X11_pads : yX11_pads.cls ≠ "java/lang/invoke/MethodHandle" ∧ yX11_pads.cls ≠ "java/lang/invoke/VarHandle" ∧ (parseMethodDescriptor yX11_pads.desc).map (fun d => d.parameters.length) = some 3 := by decide +kernel
set_option maxHeartbeats 4000000 in
set_option maxRecDepth 100000 in
theorem c_X11_pads (l : Launch) (E : G0) (sz : Nat) (a0 : Nat) (v0 : (Nat → Int64)) (p1 : Int32) (p2 : Int32) (x : (Nat → Int64)) (hf : f_X11_pads v0 p1 p2 = some x) : Met l yX11_pads wsX11_pads rmX11_pads (va_Pc [.ref a0, .int p1, .int p2] (PW E (wLA E a0 340 v0) sz)) (va_Qv (fun q => q = x) (fun q t => va_P E.1 vwCl ((fun q : (Nat → Int64) => wLA E a0 340 q) q) t.heap ∧ va_D (va_A (wLA E a0 340 v0) sz) ((fun q : (Nat → Int64) => wLA E a0 340 q) q)) (va_A (wLA E a0 340 v0) sz)) 0 0 (va_A (wLA E a0 340 v0) sz) := by
  refine Met.ofW (cc := cX11_pads) (maxL := 7) (ret := none) (by decide) rfl ?_
  intro p e s m args below meth c s₁ B hml hv
  obtain ⟨ha, hsz, hP, hD0, hC⟩ := hv
  have hx := B.exec
  have hb := B.bytes
  have hr := B.returns
  have hts := atoms_spec (ws := wsX11_pads) B.pre
  have hown : s.vm.findClass RX11 = some m.cls := findClass_of_methodNamed B.named
  have hlocks := B.notSynchronized
  subst hsz
  have hD := hD0.self (sz := s.heap.size)
  generalize hAe : va_A (wLA E a0 340 v0) s.heap.size = A at hD hC ⊢
  have hA : ∀ q : Nat, s.heap.size ≤ q → A q := fun q h => by rw [← hAe]; exact Or.inr h
  have hS : va_S A s.heap s.heap [] := va_S.rf
  have w1 : (Cond.constantLong RX11 137 (27)).before args s = true := hts _ (List.mem_of_getElem? (i := 1) rfl)
  generalize hQe : MQ below (va_Qv (fun q => q = x) (fun q t => va_P E.1 vwCl ((fun q : (Nat → Int64) => wLA E a0 340 q) q) t.heap ∧ va_D A ((fun q : (Nat → Int64) => wLA E a0 340 q) q)) A) args s 0 0 A = Q
  refine st_W ha (Nat.le_of_ble_eq_true rfl) (fun ls hl => ?_)
  have hl : lv_has ls 7 [(0, .ref a0), (1, .int p1), (2, .int p2)] := hl
  unfold f_X11_pads at hf
  refine lv_iconst (v := 0) hx hb dX11_pads_0 rfl ?_
  refine lv_istore_n (lv' := [(3, .int (0 : Int32)), (0, .ref a0), (1, .int p1), (2, .int p2)]) hx hb dX11_pads_1 rfl hl (by decide) rfl (fun ls hl => ?_)
  obtain ⟨K1, hK1, hf⟩ := jn_some hf
  have J1 : ∀ (q1 : Int32 × (Nat → Int64)) (H : Heap) (locs : List Loc) (hP : va_P E.1 vwCl (wLA E a0 340 q1.2) H) (hD : va_D A (wLA E a0 340 q1.2)) (hS : va_S A s.heap H locs) (ls : Array Slot) (hl : lv_has ls 7 []) (hf : K1 q1 = some x), W p l e (headSpec wsX11_pads rmX11_pads).room s m args below meth c H locs 0 0 Q (F0 m 99 ls []) := by
    intro q1 H locs hP hD hS ls hl hf
    have hf := (hK1 q1).trans hf
    cases Option.some.inj hf
    subst hQe
    exact ew_v (wf := (fun q : (Nat → Int64) => wLA E a0 340 q)) hx hb hr hlocks hP hD hS dX11_pads_99
  have L1 : ∀ (n : Nat) (q1 : Int32 × (Nat → Int64)) (H : Heap) (locs : List Loc) (hP : va_P E.1 vwCl (wLA E a0 340 q1.2) H) (hD : va_D A (wLA E a0 340 q1.2)) (hS : va_S A s.heap H locs) (ls : Array Slot) (hl : lv_has ls 7 [(0, .ref a0), (1, .int p1), (2, .int p2), (3, .int q1.1)]) (hf : lpF (bX11_pads_1 p1 p2 K1) n q1 = some x), W p l e (headSpec wsX11_pads rmX11_pads).room s m args below meth c H locs 0 0 Q (F0 m 2 ls []) := by
    intro n
    induction n with
    | zero => intro q1 H locs hP hD hS ls hl hf; exact (lpF_zero hf).elim
    | succ n ih1 =>
      intro q1 H locs hP hD hS ls hl hf
      have hf := lpF_succ hf
      unfold bX11_pads_1 at hf
      refine lv_iload_n hx hb dX11_pads_2 rfl (lv_at hl 3 rfl) ?_
      refine lv_i2l hx hb dX11_pads_3 rfl ?_
      refine lv_aload_n hx hb dX11_pads_4 rfl (lv_at hl 0 rfl) ?_
      refine lv_iconst (v := 0) hx hb dX11_pads_5 rfl ?_
      obtain ⟨h2, hf⟩ := gdI_some hf
      refine va_lald hx hb hC.1 hP 0 1 rfl rfl h2 dX11_pads_6 ?_
      refine W.lcmp hx hb dX11_pads_7 ?_
      refine lv_if_ge (tgt := 99) hx hb dX11_pads_8 rfl (fun c3 => ?_) (fun c3 => ?_)
      · have hf := it_t hf c3
        exact J1 (q1.1, q1.2) H locs hP hD hS ls (lv_sub hl [] rfl) hf
      · have hf := it_f hf c3
        refine lv_aload_n hx hb dX11_pads_11 rfl (lv_at hl 0 rfl) ?_
        refine lv_iload_n hx hb dX11_pads_12 rfl (lv_at hl 1 rfl) ?_
        refine lv_iload_n hx hb dX11_pads_13 rfl (lv_at hl 3 rfl) ?_
        obtain ⟨r4, e4, hf⟩ := bd_some hf
        refine cr_i (va_runS (As := [.ref a0, .int p1, .int q1.1]) (rest := []) ⟨hx, hb, hml, hown, hts⟩ (c_X11_isAble l E a0 q1.2 p1 q1.1 r4 e4) (va_cwS 3 hts gX11_pads_X11_isAble rfl rfl rfl hdS_X11_isAble ⟨Nat.le_of_ble_eq_true rfl, Nat.le_of_ble_eq_true rfl⟩) ⟨PR.blind, PR.pre hC hS hP⟩ rfl rfl hl.1 rfl (lv_room (Nat.le_of_ble_eq_true rfl)) dX11_pads_14 ⟨Nat.le_of_ble_eq_true rfl, Nat.le_of_ble_eq_true rfl⟩) ?_
        refine lv_if_eq (tgt := 93) hx hb dX11_pads_17 rfl (fun c5 => ?_) (fun c5 => ?_)
        · have hf := it_t hf c5
          refine lv_iinc (v := (q1.1 + 1)) (lv' := [(3, .int (q1.1 + 1)), (0, .ref a0), (1, .int p1), (2, .int p2)]) hx hb dX11_pads_93 hl (k := 3) rfl rfl (by decide) rfl (fun ls hl => ?_)
          refine lv_goto (tgt := 2) hx hb dX11_pads_96 rfl ?_
          exact ih1 ((q1.1 + 1), q1.2) H locs hP hD hS ls (lv_sub hl [1, 2, 3, 0] rfl) hf
        · have hf := it_f hf c5
          refine lv_aload_n hx hb dX11_pads_20 rfl (lv_at hl 0 rfl) ?_
          refine lv_iload_n hx hb dX11_pads_21 rfl (lv_at hl 1 rfl) ?_
          refine lv_iload_n hx hb dX11_pads_22 rfl (lv_at hl 3 rfl) ?_
          obtain ⟨r6, e6, hf⟩ := bd_some hf
          refine cr_l (va_runS (As := [.ref a0, .int p1, .int q1.1]) (rest := []) ⟨hx, hb, hml, hown, hts⟩ (c_X11_copy l E a0 q1.2 p1 q1.1 r6 e6) (va_cwS 3 hts gX11_pads_X11_copy rfl rfl rfl hdS_X11_copy ⟨Nat.le_of_ble_eq_true rfl, Nat.le_of_ble_eq_true rfl⟩) ⟨PR.blind, PR.pre hC hS hP⟩ rfl rfl hl.1 rfl (lv_room (Nat.le_of_ble_eq_true rfl)) dX11_pads_23 ⟨Nat.le_of_ble_eq_true rfl, Nat.le_of_ble_eq_true rfl⟩) ?_
          refine lv_aload_n hx hb dX11_pads_26 rfl (lv_at hl 0 rfl) ?_
          refine lv_iconst (v := 2) hx hb dX11_pads_27 rfl ?_
          obtain ⟨h7, hf⟩ := gdI_some hf
          refine va_lald hx hb hC.1 hP 0 1 rfl rfl h7 dX11_pads_28 ?_
          refine cr_l (va_runS (As := [.long r6, .long (q1.2 (2 : Int32).toNatClampNeg)]) (rest := []) ⟨hx, hb, hml, hown, hts⟩ (c_X11_withFilled l E r6 (q1.2 (2 : Int32).toNatClampNeg) _ rfl) (va_cwS 2 hts gX11_pads_X11_withFilled rfl rfl rfl hdS_X11_withFilled ⟨Nat.le_of_ble_eq_true rfl, Nat.le_of_ble_eq_true rfl⟩) ⟨PR.blind, PR.pre hC hS (hP.sub [] rfl)⟩ rfl rfl hl.1 rfl (lv_room (Nat.le_of_ble_eq_true rfl)) dX11_pads_29 ⟨Nat.le_of_ble_eq_true rfl, Nat.le_of_ble_eq_true rfl⟩) ?_
          refine lv_lstore (lv' := [(4, .long (f_X11_withFilled r6 (q1.2 (2 : Int32).toNatClampNeg))), (0, .ref a0), (1, .int p1), (2, .int p2), (3, .int q1.1)]) hx hb dX11_pads_32 hl (by decide) rfl (fun ls hl => ?_)
          refine lv_iload_n hx hb dX11_pads_34 rfl (lv_at hl 3 rfl) ?_
          refine lv_istore (lv' := [(6, .int p2), (4, .long (f_X11_withFilled r6 (q1.2 (2 : Int32).toNatClampNeg))), (0, .ref a0), (1, .int p1), (2, .int p2), (3, .int q1.1)]) hx hb dX11_pads_35 hl (by decide) rfl (fun ls hl => ?_)
          obtain ⟨K8, hK8, hf⟩ := jn_some hf
          have J8 : ∀ (q8 : Int64 × Int32) (ls : Array Slot) (hl : lv_has ls 7 [(0, .ref a0), (1, .int p1), (2, .int p2), (3, .int q1.1), (4, .long q8.1)]) (hf : K8 q8 = some x), W p l e (headSpec wsX11_pads rmX11_pads).room s m args below meth c H locs 0 0 Q (F0 m 80 ls []) := by
            intro q8 ls hl hf
            have hf := (hK8 q8).trans hf
            refine lv_aload_n hx hb dX11_pads_80 rfl (lv_at hl 0 rfl) ?_
            refine lv_sipush (v := 190) hx hb dX11_pads_81 rfl ?_
            refine lv_iconst (v := 5) hx hb dX11_pads_84 rfl ?_
            refine lv_iload_n hx hb dX11_pads_85 rfl (lv_at hl 1 rfl) ?_
            refine lv_imul hx hb dX11_pads_86 ?_
            refine lv_iadd hx hb dX11_pads_87 ?_
            refine lv_iload_n hx hb dX11_pads_88 rfl (lv_at hl 3 rfl) ?_
            refine lv_iadd hx hb dX11_pads_89 ?_
            refine lv_lload hx hb dX11_pads_90 (lv_at hl 4 rfl) ?_
            obtain ⟨h9, hf⟩ := gdI_some hf
            refine va_last hx hb hC.1 hP hD hS 0 1 rfl rfl h9 dX11_pads_92 (fun H locs hP hD hS => ?_)
            have hP : va_P E.1 vwCl (wLA E a0 340 (vp_updL q1.2 (((190 : Int32) + ((5 : Int32) * p1)) + q1.1).toNatClampNeg q8.1)) H := hP
            have hD : va_D A (wLA E a0 340 (vp_updL q1.2 (((190 : Int32) + ((5 : Int32) * p1)) + q1.1).toNatClampNeg q8.1)) := hD
            refine lv_iinc (v := (q1.1 + 1)) (lv' := [(3, .int (q1.1 + 1)), (0, .ref a0), (1, .int p1), (2, .int p2), (4, .long q8.1)]) hx hb dX11_pads_93 hl (k := 3) rfl rfl (by decide) rfl (fun ls hl => ?_)
            refine lv_goto (tgt := 2) hx hb dX11_pads_96 rfl ?_
            exact ih1 ((q1.1 + 1), (vp_updL q1.2 (((190 : Int32) + ((5 : Int32) * p1)) + q1.1).toNatClampNeg q8.1)) H locs hP hD hS ls (lv_sub hl [1, 2, 3, 0] rfl) hf
          have L8 : ∀ (n : Nat) (q8 : Int64 × Int32) (ls : Array Slot) (hl : lv_has ls 7 [(0, .ref a0), (1, .int p1), (2, .int p2), (3, .int q1.1), (4, .long q8.1), (6, .int q8.2)]) (hf : lpF (bX11_pads_8 q1 K8) n q8 = some x), W p l e (headSpec wsX11_pads rmX11_pads).room s m args below meth c H locs 0 0 Q (F0 m 37 ls []) := by
            intro n
            induction n with
            | zero => intro q8 ls hl hf; exact (lpF_zero hf).elim
            | succ n ih8 =>
              intro q8 ls hl hf
              have hf := lpF_succ hf
              unfold bX11_pads_8 at hf
              refine lv_iload hx hb dX11_pads_37 (lv_at hl 5 rfl) ?_
              refine lv_i2l hx hb dX11_pads_39 rfl ?_
              refine lv_aload_n hx hb dX11_pads_40 rfl (lv_at hl 0 rfl) ?_
              refine lv_iconst (v := 2) hx hb dX11_pads_41 rfl ?_
              obtain ⟨h10, hf⟩ := gdI_some hf
              refine va_lald hx hb hC.1 hP 0 1 rfl rfl h10 dX11_pads_42 ?_
              refine W.lcmp hx hb dX11_pads_43 ?_
              refine lv_if_ge (tgt := 80) hx hb dX11_pads_44 rfl (fun c11 => ?_) (fun c11 => ?_)
              · have hf := it_t hf c11
                exact J8 (q8.1, q8.2) ls (lv_sub hl [0, 1, 2, 3, 4] rfl) hf
              · have hf := it_f hf c11
                refine lv_lload hx hb dX11_pads_47 (lv_at hl 4 rfl) ?_
                refine lv_iload hx hb dX11_pads_49 (lv_at hl 5 rfl) ?_
                refine cr_i (va_runS (As := [.long q8.1, .int q8.2]) (rest := []) ⟨hx, hb, hml, hown, hts⟩ (c_X11_cell l E q8.1 q8.2 _ rfl) (va_cwS 2 hts gX11_pads_X11_cell rfl rfl rfl hdS_X11_cell ⟨Nat.le_of_ble_eq_true rfl, Nat.le_of_ble_eq_true rfl⟩) ⟨PR.blind, PR.pre hC hS (hP.sub [] rfl)⟩ rfl rfl hl.1 rfl (lv_room (Nat.le_of_ble_eq_true rfl)) dX11_pads_51 ⟨Nat.le_of_ble_eq_true rfl, Nat.le_of_ble_eq_true rfl⟩) ?_
                refine lv_if_ne (tgt := 70) hx hb dX11_pads_54 rfl (fun c12 => ?_) (fun c12 => ?_)
                · have hf := it_f hf c12
                  refine lv_lload hx hb dX11_pads_70 (lv_at hl 4 rfl) ?_
                  refine lv_lstore (lv' := [(4, .long q8.1), (0, .ref a0), (1, .int p1), (2, .int p2), (3, .int q1.1), (6, .int q8.2)]) hx hb dX11_pads_72 hl (by decide) rfl (fun ls hl => ?_)
                  refine lv_iinc (v := (q8.2 + 1)) (lv' := [(6, .int (q8.2 + 1)), (4, .long q8.1), (0, .ref a0), (1, .int p1), (2, .int p2), (3, .int q1.1)]) hx hb dX11_pads_74 hl (k := 5) rfl rfl (by decide) rfl (fun ls hl => ?_)
                  refine lv_goto (tgt := 37) hx hb dX11_pads_77 rfl ?_
                  exact ih8 (q8.1, (q8.2 + 1)) ls (lv_sub hl [2, 3, 4, 5, 1, 0] rfl) hf
                · have hf := it_t hf c12
                  refine lv_lload hx hb dX11_pads_57 (lv_at hl 4 rfl) ?_
                  refine lv_iload hx hb dX11_pads_59 (lv_at hl 5 rfl) ?_
                  refine lv_ldc2 hx hb hown w1 dX11_pads_61 ?_
                  refine cr_l (va_runS (As := [.long q8.1, .int q8.2, .long ((27) : Int64)]) (rest := []) ⟨hx, hb, hml, hown, hts⟩ (c_X11_withCell l E q8.1 q8.2 ((27) : Int64) _ rfl) (va_cwS 3 hts gX11_pads_X11_withCell rfl rfl rfl hdS_X11_withCell ⟨Nat.le_of_ble_eq_true rfl, Nat.le_of_ble_eq_true rfl⟩) ⟨PR.blind, PR.pre hC hS (hP.sub [] rfl)⟩ rfl rfl hl.1 rfl (lv_room (Nat.le_of_ble_eq_true rfl)) dX11_pads_64 ⟨Nat.le_of_ble_eq_true rfl, Nat.le_of_ble_eq_true rfl⟩) ?_
                  refine lv_goto (tgt := 72) hx hb dX11_pads_67 rfl ?_
                  refine lv_lstore (lv' := [(4, .long (f_X11_withCell q8.1 q8.2 ((27) : Int64))), (0, .ref a0), (1, .int p1), (2, .int p2), (3, .int q1.1), (6, .int q8.2)]) hx hb dX11_pads_72 hl (by decide) rfl (fun ls hl => ?_)
                  refine lv_iinc (v := (q8.2 + 1)) (lv' := [(6, .int (q8.2 + 1)), (4, .long (f_X11_withCell q8.1 q8.2 ((27) : Int64))), (0, .ref a0), (1, .int p1), (2, .int p2), (3, .int q1.1)]) hx hb dX11_pads_74 hl (k := 5) rfl rfl (by decide) rfl (fun ls hl => ?_)
                  refine lv_goto (tgt := 37) hx hb dX11_pads_77 rfl ?_
                  exact ih8 ((f_X11_withCell q8.1 q8.2 ((27) : Int64)), (q8.2 + 1)) ls (lv_sub hl [2, 3, 4, 5, 1, 0] rfl) hf
          exact L8 FU ((f_X11_withFilled r6 (q1.2 (2 : Int32).toNatClampNeg)), p2) ls (lv_sub hl [2, 3, 4, 5, 1, 0] rfl) hf
  exact L1 FU ((0 : Int32), v0) s.heap [] hP hD hS ls (lv_sub hl [1, 2, 3, 0] rfl) hf

/-! X11_writes -/
abbrev rmX11_writes : Room := { frames := 1, cells := 0, slots := 0, locals := 24 }
theorem hdS_X11_writes : yX11_writes.cls ≠ "java/lang/invoke/MethodHandle" ∧ yX11_writes.cls ≠ "java/lang/invoke/VarHandle" ∧ (parseMethodDescriptor yX11_writes.desc).map (fun d => d.parameters.length) = some 4 := by decide +kernel
theorem hdV_X11_writes : yX11_writes.cls = RX11 ∧ yX11_writes.cls ≠ "java/lang/invoke/MethodHandle" ∧ yX11_writes.cls ≠ "java/lang/invoke/VarHandle" ∧ (parseMethodDescriptor yX11_writes.desc).map (fun d => d.parameters.length) = some 4 := ⟨rfl, hdS_X11_writes⟩
set_option maxHeartbeats 4000000 in
set_option maxRecDepth 100000 in
theorem c_X11_writes (l : Launch) (E : G0) (sz : Nat) (a0 : Nat → Nat) (v0 : MD) (a1 : Nat) (v1 : (Nat → Int64)) (p2 : Int32) (p3 : Int32) (p4 : Int32) (x : (Nat → Int64)) (hf : f_X11_writes v0 v1 p2 p3 p4 = some x) : Met l yX11_writes wsX11_writes rmX11_writes (va_Pc [.ref (a0 0), .ref a1, .int p2, .int p3, .int p4] (PW E (wMR E a0 v0 ++ wLA E a1 340 v1) sz)) (va_Qv (fun q => q = x) (fun q t => va_P E.1 vwCl ((fun q : (Nat → Int64) => wMR E a0 v0 ++ wLA E a1 340 q) q) t.heap ∧ va_D (va_A (wMR E a0 v0 ++ wLA E a1 340 v1) sz) ((fun q : (Nat → Int64) => wMR E a0 v0 ++ wLA E a1 340 q) q)) (va_A (wMR E a0 v0 ++ wLA E a1 340 v1) sz)) 0 0 (va_A (wMR E a0 v0 ++ wLA E a1 340 v1) sz) := by
  refine Met.ofW (cc := cX11_writes) (maxL := 8) (ret := none) (by decide) rfl ?_
  intro p e s m args below meth c s₁ B hml hv
  obtain ⟨ha, hsz, hP, hD0, hC⟩ := hv
  have hx := B.exec
  have hb := B.bytes
  have hr := B.returns
  have hts := atoms_spec (ws := wsX11_writes) B.pre
  have hown : s.vm.findClass RX11 = some m.cls := findClass_of_methodNamed B.named
  have hlocks := B.notSynchronized
  subst hsz
  have hD := hD0.self (sz := s.heap.size)
  generalize hAe : va_A (wMR E a0 v0 ++ wLA E a1 340 v1) s.heap.size = A at hD hC ⊢
  have hA : ∀ q : Nat, s.heap.size ≤ q → A q := fun q h => by rw [← hAe]; exact Or.inr h
  have hS : va_S A s.heap s.heap [] := va_S.rf
  have w1 : (Cond.fieldLink RX11 143 "GreatChunksModel" "letters" "I").before args s = true := hts _ (List.mem_of_getElem? (i := 1) rfl)
  have w2 : ∀ w ∈ wsX110, w ∈ wsX11_writes := in_pl 16 rfl
  have w3 : (Cond.fieldLink RX11 30 "GreatChunksModel" "record" "[I").before args s = true := hts _ (List.mem_of_getElem? (i := 2) rfl)
  generalize hQe : MQ below (va_Qv (fun q => q = x) (fun q t => va_P E.1 vwCl ((fun q : (Nat → Int64) => wMR E a0 v0 ++ wLA E a1 340 q) q) t.heap ∧ va_D A ((fun q : (Nat → Int64) => wMR E a0 v0 ++ wLA E a1 340 q) q)) A) args s 0 0 A = Q
  refine st_W ha (Nat.le_of_ble_eq_true rfl) (fun ls hl => ?_)
  have hl : lv_has ls 8 [(0, .ref (a0 0)), (1, .ref a1), (2, .int p2), (3, .int p3), (4, .int p4)] := hl
  unfold f_X11_writes at hf
  refine lv_aload_n hx hb dX11_writes_0 rfl (lv_at hl 1 rfl) ?_
  refine lv_iload_n hx hb dX11_writes_1 rfl (lv_at hl 2 rfl) ?_
  refine lv_iload_n hx hb dX11_writes_2 rfl (lv_at hl 3 rfl) ?_
  obtain ⟨r1, e1, hf⟩ := bd_some hf
  refine cr_l (va_runS (As := [.ref a1, .int p2, .int p3]) (rest := []) ⟨hx, hb, hml, hown, hts⟩ (c_X11_copy l E a1 v1 p2 p3 r1 e1) (va_cwS 3 hts gX11_writes_X11_copy rfl rfl rfl hdS_X11_copy ⟨Nat.le_of_ble_eq_true rfl, Nat.le_of_ble_eq_true rfl⟩) ⟨PR.blind, PR.pre hC hS (hP.sub [2] rfl)⟩ rfl rfl hl.1 rfl (lv_room (Nat.le_of_ble_eq_true rfl)) dX11_writes_3 ⟨Nat.le_of_ble_eq_true rfl, Nat.le_of_ble_eq_true rfl⟩) ?_
  refine lv_iload hx hb dX11_writes_6 (lv_at hl 4 rfl) ?_
  refine lv_aload_n hx hb dX11_writes_8 rfl (lv_at hl 0 rfl) ?_
  refine va_get (D := E.1) (ci := 9) (v := .int v0.2.2.2.2.2.2.2.2.2.2.2.2.2.2.2.2) (C := RX11) (T := TX11) (N := 17) hx hb hts w2 hown hC.1 hP 0 rfl rfl 16 (by decide) w1 (fun _ h9 => h9) rfl dX11_writes_9 ?_
  refine lv_iadd hx hb dX11_writes_12 ?_
  refine lv_i2l hx hb dX11_writes_13 rfl ?_
  refine cr_l (va_runS (As := [.long r1, .long ((p4 + v0.2.2.2.2.2.2.2.2.2.2.2.2.2.2.2.2).toInt64)]) (rest := []) ⟨hx, hb, hml, hown, hts⟩ (c_X11_withFilled l E r1 ((p4 + v0.2.2.2.2.2.2.2.2.2.2.2.2.2.2.2.2).toInt64) _ rfl) (va_cwS 2 hts gX11_writes_X11_withFilled rfl rfl rfl hdS_X11_withFilled ⟨Nat.le_of_ble_eq_true rfl, Nat.le_of_ble_eq_true rfl⟩) ⟨PR.blind, PR.pre hC hS (hP.sub [] rfl)⟩ rfl rfl hl.1 rfl (lv_room (Nat.le_of_ble_eq_true rfl)) dX11_writes_14 ⟨Nat.le_of_ble_eq_true rfl, Nat.le_of_ble_eq_true rfl⟩) ?_
  refine lv_lstore (lv' := [(5, .long (f_X11_withFilled r1 ((p4 + v0.2.2.2.2.2.2.2.2.2.2.2.2.2.2.2.2).toInt64))), (0, .ref (a0 0)), (1, .ref a1), (2, .int p2), (3, .int p3), (4, .int p4)]) hx hb dX11_writes_17 hl (by decide) rfl (fun ls hl => ?_)
  refine lv_iconst (v := 0) hx hb dX11_writes_19 rfl ?_
  refine lv_istore (lv' := [(7, .int (0 : Int32)), (5, .long (f_X11_withFilled r1 ((p4 + v0.2.2.2.2.2.2.2.2.2.2.2.2.2.2.2.2).toInt64))), (0, .ref (a0 0)), (1, .ref a1), (2, .int p2), (3, .int p3), (4, .int p4)]) hx hb dX11_writes_20 hl (by decide) rfl (fun ls hl => ?_)
  obtain ⟨K2, hK2, hf⟩ := jn_some hf
  have J2 : ∀ (q2 : Int64 × Int32) (ls : Array Slot) (hl : lv_has ls 8 [(1, .ref a1), (2, .int p2), (3, .int p3), (5, .long q2.1)]) (hf : K2 q2 = some x), W p l e (headSpec wsX11_writes rmX11_writes).room s m args below meth c s.heap [] 0 0 Q (F0 m 57 ls []) := by
    intro q2 ls hl hf
    have hf := (hK2 q2).trans hf
    refine lv_aload_n hx hb dX11_writes_57 rfl (lv_at hl 0 rfl) ?_
    refine lv_sipush (v := 190) hx hb dX11_writes_58 rfl ?_
    refine lv_iconst (v := 5) hx hb dX11_writes_61 rfl ?_
    refine lv_iload_n hx hb dX11_writes_62 rfl (lv_at hl 1 rfl) ?_
    refine lv_imul hx hb dX11_writes_63 ?_
    refine lv_iadd hx hb dX11_writes_64 ?_
    refine lv_iload_n hx hb dX11_writes_65 rfl (lv_at hl 2 rfl) ?_
    refine lv_iadd hx hb dX11_writes_66 ?_
    refine lv_lload hx hb dX11_writes_67 (lv_at hl 3 rfl) ?_
    obtain ⟨h3, hf⟩ := gdI_some hf
    refine va_last hx hb hC.1 hP hD hS 2 1 rfl rfl h3 dX11_writes_69 (fun H locs hP hD hS => ?_)
    have hP : va_P E.1 vwCl (wMR E a0 v0 ++ wLA E a1 340 (vp_updL v1 (((190 : Int32) + ((5 : Int32) * p2)) + p3).toNatClampNeg q2.1)) H := hP
    have hD : va_D A (wMR E a0 v0 ++ wLA E a1 340 (vp_updL v1 (((190 : Int32) + ((5 : Int32) * p2)) + p3).toNatClampNeg q2.1)) := hD
    cases Option.some.inj hf
    subst hQe
    exact ew_v (wf := (fun q : (Nat → Int64) => wMR E a0 v0 ++ wLA E a1 340 q)) hx hb hr hlocks hP hD hS dX11_writes_70
  have L2 : ∀ (n : Nat) (q2 : Int64 × Int32) (ls : Array Slot) (hl : lv_has ls 8 [(0, .ref (a0 0)), (1, .ref a1), (2, .int p2), (3, .int p3), (4, .int p4), (5, .long q2.1), (7, .int q2.2)]) (hf : lpF (bX11_writes_2 v0 p4 K2) n q2 = some x), W p l e (headSpec wsX11_writes rmX11_writes).room s m args below meth c s.heap [] 0 0 Q (F0 m 22 ls []) := by
    intro n
    induction n with
    | zero => intro q2 ls hl hf; exact (lpF_zero hf).elim
    | succ n ih2 =>
      intro q2 ls hl hf
      have hf := lpF_succ hf
      unfold bX11_writes_2 at hf
      refine lv_iload hx hb dX11_writes_22 (lv_at hl 6 rfl) ?_
      refine lv_aload_n hx hb dX11_writes_24 rfl (lv_at hl 0 rfl) ?_
      refine va_get (D := E.1) (ci := 9) (v := .int v0.2.2.2.2.2.2.2.2.2.2.2.2.2.2.2.2) (C := RX11) (T := TX11) (N := 17) hx hb hts w2 hown hC.1 hP 0 rfl rfl 16 (by decide) w1 (fun _ h9 => h9) rfl dX11_writes_25 ?_
      refine lv_icmp_ge (tgt := 57) hx hb dX11_writes_28 rfl (fun c4 => ?_) (fun c4 => ?_)
      · have hf := it_t hf c4
        exact J2 (q2.1, q2.2) ls (lv_sub hl [1, 2, 3, 5] rfl) hf
      · have hf := it_f hf c4
        refine lv_lload hx hb dX11_writes_31 (lv_at hl 5 rfl) ?_
        refine lv_iload hx hb dX11_writes_33 (lv_at hl 4 rfl) ?_
        refine lv_iload hx hb dX11_writes_35 (lv_at hl 6 rfl) ?_
        refine lv_iadd hx hb dX11_writes_37 ?_
        refine lv_aload_n hx hb dX11_writes_38 rfl (lv_at hl 0 rfl) ?_
        refine va_get (D := E.1) (ci := 9) (v := .ref (a0 7)) (C := RX11) (T := TX11) (N := 17) hx hb hts w2 hown hC.1 hP 0 rfl rfl 15 (by decide) w3 (fun _ h9 => h9) rfl dX11_writes_39 ?_
        refine lv_iload hx hb dX11_writes_42 (lv_at hl 6 rfl) ?_
        obtain ⟨h5, hf⟩ := gdI_some hf
        refine va_iald hx hb hC.1 hP 1 0 rfl rfl h5 dX11_writes_44 ?_
        refine lv_i2l hx hb dX11_writes_45 rfl ?_
        refine cr_l (va_runS (As := [.long q2.1, .int (p4 + q2.2), .long ((v0.2.2.2.2.2.2.2.2.2.2.2.2.2.2.2.1 q2.2.toNatClampNeg).toInt64)]) (rest := []) ⟨hx, hb, hml, hown, hts⟩ (c_X11_withCell l E q2.1 (p4 + q2.2) ((v0.2.2.2.2.2.2.2.2.2.2.2.2.2.2.2.1 q2.2.toNatClampNeg).toInt64) _ rfl) (va_cwS 3 hts gX11_writes_X11_withCell rfl rfl rfl hdS_X11_withCell ⟨Nat.le_of_ble_eq_true rfl, Nat.le_of_ble_eq_true rfl⟩) ⟨PR.blind, PR.pre hC hS (hP.sub [] rfl)⟩ rfl rfl hl.1 rfl (lv_room (Nat.le_of_ble_eq_true rfl)) dX11_writes_46 ⟨Nat.le_of_ble_eq_true rfl, Nat.le_of_ble_eq_true rfl⟩) ?_
        refine lv_lstore (lv' := [(5, .long (f_X11_withCell q2.1 (p4 + q2.2) ((v0.2.2.2.2.2.2.2.2.2.2.2.2.2.2.2.1 q2.2.toNatClampNeg).toInt64))), (0, .ref (a0 0)), (1, .ref a1), (2, .int p2), (3, .int p3), (4, .int p4), (7, .int q2.2)]) hx hb dX11_writes_49 hl (by decide) rfl (fun ls hl => ?_)
        refine lv_iinc (v := (q2.2 + 1)) (lv' := [(7, .int (q2.2 + 1)), (5, .long (f_X11_withCell q2.1 (p4 + q2.2) ((v0.2.2.2.2.2.2.2.2.2.2.2.2.2.2.2.1 q2.2.toNatClampNeg).toInt64))), (0, .ref (a0 0)), (1, .ref a1), (2, .int p2), (3, .int p3), (4, .int p4)]) hx hb dX11_writes_51 hl (k := 6) rfl rfl (by decide) rfl (fun ls hl => ?_)
        refine lv_goto (tgt := 22) hx hb dX11_writes_54 rfl ?_
        exact ih2 ((f_X11_withCell q2.1 (p4 + q2.2) ((v0.2.2.2.2.2.2.2.2.2.2.2.2.2.2.2.1 q2.2.toNatClampNeg).toInt64)), (q2.2 + 1)) ls (lv_sub hl [2, 3, 4, 5, 6, 1, 0] rfl) hf
  exact L2 FU ((f_X11_withFilled r1 ((p4 + v0.2.2.2.2.2.2.2.2.2.2.2.2.2.2.2.2).toInt64)), (0 : Int32)) ls (lv_sub hl [2, 3, 4, 5, 6, 1, 0] rfl) hf

/-! X11_writesAll -/
abbrev rmX11_writesAll : Room := { frames := 2, cells := 0, slots := 0, locals := 51 }
theorem hdS_X11_writesAll : yX11_writesAll.cls ≠ "java/lang/invoke/MethodHandle" ∧ yX11_writesAll.cls ≠ "java/lang/invoke/VarHandle" ∧ (parseMethodDescriptor yX11_writesAll.desc).map (fun d => d.parameters.length) = some 3 := by decide +kernel
theorem hdV_X11_writesAll : yX11_writesAll.cls = RX11 ∧ yX11_writesAll.cls ≠ "java/lang/invoke/MethodHandle" ∧ yX11_writesAll.cls ≠ "java/lang/invoke/VarHandle" ∧ (parseMethodDescriptor yX11_writesAll.desc).map (fun d => d.parameters.length) = some 3 := ⟨rfl, hdS_X11_writesAll⟩
set_option maxHeartbeats 4000000 in
set_option maxRecDepth 100000 in
theorem c_X11_writesAll (l : Launch) (E : G0) (sz : Nat) (a0 : Nat → Nat) (v0 : MD) (a1 : Nat) (v1 : (Nat → Int64)) (p2 : Int32) (p3 : Int32) (x : Bool × (Nat → Int64)) (hf : f_X11_writesAll v0 v1 p2 p3 = some x) : Met l yX11_writesAll wsX11_writesAll rmX11_writesAll (va_Pc [.ref (a0 0), .ref a1, .int p2, .int p3] (PW E (wMR E a0 v0 ++ wLA E a1 340 v1) sz)) (va_Qi (fun r q => r = bI x.1 ∧ q = x.2) (fun q t => va_P E.1 vwCl ((fun q : (Nat → Int64) => wMR E a0 v0 ++ wLA E a1 340 q) q) t.heap ∧ va_D (va_A (wMR E a0 v0 ++ wLA E a1 340 v1) sz) ((fun q : (Nat → Int64) => wMR E a0 v0 ++ wLA E a1 340 q) q)) (va_A (wMR E a0 v0 ++ wLA E a1 340 v1) sz)) 0 0 (va_A (wMR E a0 v0 ++ wLA E a1 340 v1) sz) := by
  refine Met.ofW (cc := cX11_writesAll) (maxL := 9) (ret := some .boolean) (by decide) rfl ?_
  intro p e s m args below meth c s₁ B hml hv
  obtain ⟨ha, hsz, hP, hD0, hC⟩ := hv
  have hx := B.exec
  have hb := B.bytes
  have hr := B.returns
  have hts := atoms_spec (ws := wsX11_writesAll) B.pre
  have hown : s.vm.findClass RX11 = some m.cls := findClass_of_methodNamed B.named
  have hlocks := B.notSynchronized
  subst hsz
  have hD := hD0.self (sz := s.heap.size)
  generalize hAe : va_A (wMR E a0 v0 ++ wLA E a1 340 v1) s.heap.size = A at hD hC ⊢
  have hA : ∀ q : Nat, s.heap.size ≤ q → A q := fun q h => by rw [← hAe]; exact Or.inr h
  have hS : va_S A s.heap s.heap [] := va_S.rf
  have w1 : (Cond.constantLong RX11 51 (-1)).before args s = true := hts _ (List.mem_of_getElem? (i := 1) rfl)
  generalize hQe : MQ below (va_Qi (fun r q => r = bI x.1 ∧ q = x.2) (fun q t => va_P E.1 vwCl ((fun q : (Nat → Int64) => wMR E a0 v0 ++ wLA E a1 340 q) q) t.heap ∧ va_D A ((fun q : (Nat → Int64) => wMR E a0 v0 ++ wLA E a1 340 q) q)) A) args s 0 0 A = Q
  refine st_W ha (Nat.le_of_ble_eq_true rfl) (fun ls hl => ?_)
  have hl : lv_has ls 9 [(0, .ref (a0 0)), (1, .ref a1), (2, .int p2), (3, .int p3)] := hl
  unfold f_X11_writesAll at hf
  refine lv_aload_n hx hb dX11_writesAll_0 rfl (lv_at hl 1 rfl) ?_
  refine lv_bipush (v := 70) hx hb dX11_writesAll_1 rfl ?_
  refine lv_iconst (v := 4) hx hb dX11_writesAll_3 rfl ?_
  refine lv_iload_n hx hb dX11_writesAll_4 rfl (lv_at hl 2 rfl) ?_
  refine lv_imul hx hb dX11_writesAll_5 ?_
  refine lv_iadd hx hb dX11_writesAll_6 ?_
  refine lv_iconst (v := 2) hx hb dX11_writesAll_7 rfl ?_
  refine lv_iadd hx hb dX11_writesAll_8 ?_
  obtain ⟨h1, hf⟩ := gdI_some hf
  refine va_lald hx hb hC.1 hP 2 1 rfl rfl h1 dX11_writesAll_9 ?_
  refine lv_l2i hx hb dX11_writesAll_10 rfl ?_
  refine lv_istore (lv' := [(4, .int ((v1 (((70 : Int32) + ((4 : Int32) * p2)) + (2 : Int32)).toNatClampNeg).toInt32)), (0, .ref (a0 0)), (1, .ref a1), (2, .int p2), (3, .int p3)]) hx hb dX11_writesAll_11 hl (by decide) rfl (fun ls hl => ?_)
  refine lv_aload_n hx hb dX11_writesAll_13 rfl (lv_at hl 2 rfl) ?_
  refine lv_iload hx hb dX11_writesAll_14 (lv_at hl 0 rfl) ?_
  obtain ⟨r2, e2, hf⟩ := bd_some hf
  refine cq_i hP hD hS [2] [0, 1] [0, 1, 2] (va_free (wc := (wLA E a1 340 v1)) hD hS hA [2] rfl) (va_runS (As := [.ref a1, .int ((v1 (((70 : Int32) + ((4 : Int32) * p2)) + (2 : Int32)).toNatClampNeg).toInt32)]) (rest := []) ⟨hx, hb, hml, hown, hts⟩ (c_X11_fails l E s.heap.size a1 v1 ((v1 (((70 : Int32) + ((4 : Int32) * p2)) + (2 : Int32)).toNatClampNeg).toInt32) r2 e2) (va_cwS 2 hts gX11_writesAll_X11_fails rfl rfl rfl hdS_X11_fails ⟨Nat.le_of_ble_eq_true rfl, Nat.le_of_ble_eq_true rfl⟩) ⟨PW.blind, PW.pre hC hS (hP.sub [2] rfl) (hD.sub [2] rfl rfl) (va_free hD hS hA [2] rfl)⟩ rfl rfl hl.1 rfl (lv_room (Nat.le_of_ble_eq_true rfl)) dX11_writesAll_16 ⟨Nat.le_of_ble_eq_true rfl, Nat.le_of_ble_eq_true rfl⟩) rfl rfl rfl rfl (wMR E a0 v0 ++ wLA E a1 340 r2.2) rfl rfl (fun H locs hP hD hS => ?_)
  refine lv_if_eq (tgt := 24) hx hb dX11_writesAll_19 rfl (fun c3 => ?_) (fun c3 => ?_)
  · have hf := it_t hf c3
    refine lv_aload_n hx hb dX11_writesAll_24 rfl (lv_at hl 1 rfl) ?_
    refine lv_aload_n hx hb dX11_writesAll_25 rfl (lv_at hl 2 rfl) ?_
    refine lv_iload_n hx hb dX11_writesAll_26 rfl (lv_at hl 3 rfl) ?_
    refine lv_iload hx hb dX11_writesAll_27 (lv_at hl 0 rfl) ?_
    refine lv_iload_n hx hb dX11_writesAll_29 rfl (lv_at hl 4 rfl) ?_
    obtain ⟨r4, e4, hf⟩ := bd_some hf
    refine cq_v hP hD hS [0, 1, 2] [] [0, 1, 2] (va_free (wc := (wMR E a0 v0 ++ wLA E a1 340 r2.2)) hD hS hA [0, 1, 2] rfl) (va_runV (As := [.ref a1, .int p2, .int ((v1 (((70 : Int32) + ((4 : Int32) * p2)) + (2 : Int32)).toNatClampNeg).toInt32), .int p3]) (rest := []) ⟨hx, hb, hml, hown, hts⟩ (c_X11_writes l E H.size a0 v0 a1 r2.2 p2 ((v1 (((70 : Int32) + ((4 : Int32) * p2)) + (2 : Int32)).toNatClampNeg).toInt32) p3 r4 e4) (cwV 4 hts gX11_writesAll_X11_writes rfl rfl rfl hdV_X11_writes ⟨Nat.le_of_ble_eq_true rfl, Nat.le_of_ble_eq_true rfl⟩) ⟨PW.blind, va_recv hC.1 hP (ci := 9) (q0 := 0) rfl rfl, PW.pre hC hS hP hD (va_free hD hS hA [0, 1, 2] rfl)⟩ rfl rfl hl.1 rfl (lv_room (Nat.le_of_ble_eq_true rfl)) dX11_writesAll_30 ⟨Nat.le_of_ble_eq_true rfl, Nat.le_of_ble_eq_true rfl⟩) rfl rfl rfl rfl (wMR E a0 v0 ++ wLA E a1 340 r4) rfl rfl (fun H locs hP hD hS => ?_)
    refine lv_iconst (v := 1) hx hb dX11_writesAll_33 rfl ?_
    refine lv_istore (lv' := [(5, .int (1 : Int32)), (4, .int ((v1 (((70 : Int32) + ((4 : Int32) * p2)) + (2 : Int32)).toNatClampNeg).toInt32)), (0, .ref (a0 0)), (1, .ref a1), (2, .int p2), (3, .int p3)]) hx hb dX11_writesAll_34 hl (by decide) rfl (fun ls hl => ?_)
    refine lv_iconst (v := 0) hx hb dX11_writesAll_36 rfl ?_
    refine lv_istore (lv' := [(6, .int (0 : Int32)), (5, .int (1 : Int32)), (4, .int ((v1 (((70 : Int32) + ((4 : Int32) * p2)) + (2 : Int32)).toNatClampNeg).toInt32)), (0, .ref (a0 0)), (1, .ref a1), (2, .int p2), (3, .int p3)]) hx hb dX11_writesAll_37 hl (by decide) rfl (fun ls hl => ?_)
    obtain ⟨K5, hK5, hf⟩ := jn_some hf
    have J5 : ∀ (q5 : Bool × Int32 × (Nat → Int64)) (H : Heap) (locs : List Loc) (hP : va_P E.1 vwCl (wMR E a0 v0 ++ wLA E a1 340 q5.2.2) H) (hD : va_D A (wMR E a0 v0 ++ wLA E a1 340 q5.2.2)) (hS : va_S A s.heap H locs) (ls : Array Slot) (hl : lv_has ls 9 [(5, .int (bI q5.1))]) (hf : K5 q5 = some x), W p l e (headSpec wsX11_writesAll rmX11_writesAll).room s m args below meth c H locs 0 0 Q (F0 m 163 ls []) := by
      intro q5 H locs hP hD hS ls hl hf
      have hf := (hK5 q5).trans hf
      refine lv_iload hx hb dX11_writesAll_163 (lv_at hl 0 rfl) ?_
      cases Option.some.inj hf
      subst hQe
      exact ew_z (wf := (fun q : (Nat → Int64) => wMR E a0 v0 ++ wLA E a1 340 q)) hx hb hr hlocks rfl hP hD hS dX11_writesAll_165
    have L5 : ∀ (n : Nat) (q5 : Bool × Int32 × (Nat → Int64)) (H : Heap) (locs : List Loc) (hP : va_P E.1 vwCl (wMR E a0 v0 ++ wLA E a1 340 q5.2.2) H) (hD : va_D A (wMR E a0 v0 ++ wLA E a1 340 q5.2.2)) (hS : va_S A s.heap H locs) (ls : Array Slot) (hl : lv_has ls 9 [(0, .ref (a0 0)), (1, .ref a1), (2, .int p2), (3, .int p3), (4, .int ((v1 (((70 : Int32) + ((4 : Int32) * p2)) + (2 : Int32)).toNatClampNeg).toInt32)), (5, .int (bI q5.1)), (6, .int q5.2.1)]) (hf : lpF (bX11_writesAll_5 v1 p2 v0 p3 K5) n q5 = some x), W p l e (headSpec wsX11_writesAll rmX11_writesAll).room s m args below meth c H locs 0 0 Q (F0 m 39 ls []) := by
      intro n
      induction n with
      | zero => intro q5 H locs hP hD hS ls hl hf; exact (lpF_zero hf).elim
      | succ n ih5 =>
        intro q5 H locs hP hD hS ls hl hf
        have hf := lpF_succ hf
        unfold bX11_writesAll_5 at hf
        refine lv_iload hx hb dX11_writesAll_39 (lv_at hl 6 rfl) ?_
        refine lv_i2l hx hb dX11_writesAll_41 rfl ?_
        refine lv_aload_n hx hb dX11_writesAll_42 rfl (lv_at hl 1 rfl) ?_
        refine lv_iconst (v := 0) hx hb dX11_writesAll_43 rfl ?_
        obtain ⟨h6, hf⟩ := gdI_some hf
        refine va_lald hx hb hC.1 hP 2 1 rfl rfl h6 dX11_writesAll_44 ?_
        refine W.lcmp hx hb dX11_writesAll_45 ?_
        refine lv_if_ge (tgt := 163) hx hb dX11_writesAll_46 rfl (fun c7 => ?_) (fun c7 => ?_)
        · have hf := it_t hf c7
          exact J5 (q5.1, q5.2.1, q5.2.2) H locs hP hD hS ls (lv_sub hl [5] rfl) hf
        · have hf := it_f hf c7
          refine lv_iload hx hb dX11_writesAll_49 (lv_at hl 6 rfl) ?_
          refine lv_iload hx hb dX11_writesAll_51 (lv_at hl 4 rfl) ?_
          refine lv_icmp_eq (tgt := 157) hx hb dX11_writesAll_53 rfl (fun c8 => ?_) (fun c8 => ?_)
          · have hf := it_t hf c8
            refine lv_iinc (v := (q5.2.1 + 1)) (lv' := [(6, .int (q5.2.1 + 1)), (0, .ref (a0 0)), (1, .ref a1), (2, .int p2), (3, .int p3), (4, .int ((v1 (((70 : Int32) + ((4 : Int32) * p2)) + (2 : Int32)).toNatClampNeg).toInt32)), (5, .int (bI q5.1))]) hx hb dX11_writesAll_157 hl (k := 6) rfl rfl (by decide) rfl (fun ls hl => ?_)
            refine lv_goto (tgt := 39) hx hb dX11_writesAll_160 rfl ?_
            exact ih5 (q5.1, (q5.2.1 + 1), q5.2.2) H locs hP hD hS ls (lv_sub hl [1, 2, 3, 4, 5, 6, 0] rfl) hf
          · have hf := it_f hf c8
            refine lv_aload_n hx hb dX11_writesAll_56 rfl (lv_at hl 1 rfl) ?_
            refine lv_iload_n hx hb dX11_writesAll_57 rfl (lv_at hl 2 rfl) ?_
            refine lv_iload hx hb dX11_writesAll_58 (lv_at hl 6 rfl) ?_
            obtain ⟨r9, e9, hf⟩ := bd_some hf
            refine cr_i (va_runS (As := [.ref a1, .int p2, .int q5.2.1]) (rest := []) ⟨hx, hb, hml, hown, hts⟩ (c_X11_isGood l E a1 q5.2.2 p2 q5.2.1 r9 e9) (va_cwS 3 hts gX11_writesAll_X11_isGood rfl rfl rfl hdS_X11_isGood ⟨Nat.le_of_ble_eq_true rfl, Nat.le_of_ble_eq_true rfl⟩) ⟨PR.blind, PR.pre hC hS (hP.sub [2] rfl)⟩ rfl rfl hl.1 rfl (lv_room (Nat.le_of_ble_eq_true rfl)) dX11_writesAll_60 ⟨Nat.le_of_ble_eq_true rfl, Nat.le_of_ble_eq_true rfl⟩) ?_
            refine lv_if_eq (tgt := 157) hx hb dX11_writesAll_63 rfl (fun c10 => ?_) (fun c10 => ?_)
            · have hf := it_t hf c10
              refine lv_iinc (v := (q5.2.1 + 1)) (lv' := [(6, .int (q5.2.1 + 1)), (0, .ref (a0 0)), (1, .ref a1), (2, .int p2), (3, .int p3), (4, .int ((v1 (((70 : Int32) + ((4 : Int32) * p2)) + (2 : Int32)).toNatClampNeg).toInt32)), (5, .int (bI q5.1))]) hx hb dX11_writesAll_157 hl (k := 6) rfl rfl (by decide) rfl (fun ls hl => ?_)
              refine lv_goto (tgt := 39) hx hb dX11_writesAll_160 rfl ?_
              exact ih5 (q5.1, (q5.2.1 + 1), q5.2.2) H locs hP hD hS ls (lv_sub hl [1, 2, 3, 4, 5, 6, 0] rfl) hf
            · have hf := it_f hf c10
              refine lv_aload_n hx hb dX11_writesAll_66 rfl (lv_at hl 1 rfl) ?_
              refine lv_iload hx hb dX11_writesAll_67 (lv_at hl 6 rfl) ?_
              obtain ⟨r11, e11, hf⟩ := bd_some hf
              refine cr_i (va_runS (As := [.ref a1, .int q5.2.1]) (rest := []) ⟨hx, hb, hml, hown, hts⟩ (c_X11_isUp l E a1 q5.2.2 q5.2.1 r11 e11) (va_cwS 2 hts gX11_writesAll_X11_isUp rfl rfl rfl hdS_X11_isUp ⟨Nat.le_of_ble_eq_true rfl, Nat.le_of_ble_eq_true rfl⟩) ⟨PR.blind, PR.pre hC hS (hP.sub [2] rfl)⟩ rfl rfl hl.1 rfl (lv_room (Nat.le_of_ble_eq_true rfl)) dX11_writesAll_69 ⟨Nat.le_of_ble_eq_true rfl, Nat.le_of_ble_eq_true rfl⟩) ?_
              refine lv_istore (lv' := [(7, .int (bI r11)), (0, .ref (a0 0)), (1, .ref a1), (2, .int p2), (3, .int p3), (4, .int ((v1 (((70 : Int32) + ((4 : Int32) * p2)) + (2 : Int32)).toNatClampNeg).toInt32)), (5, .int (bI q5.1)), (6, .int q5.2.1)]) hx hb dX11_writesAll_72 hl (by decide) rfl (fun ls hl => ?_)
              refine lv_aload_n hx hb dX11_writesAll_74 rfl (lv_at hl 2 rfl) ?_
              refine lv_bipush (v := 70) hx hb dX11_writesAll_75 rfl ?_
              refine lv_iconst (v := 4) hx hb dX11_writesAll_77 rfl ?_
              refine lv_iload_n hx hb dX11_writesAll_78 rfl (lv_at hl 3 rfl) ?_
              refine lv_imul hx hb dX11_writesAll_79 ?_
              refine lv_iadd hx hb dX11_writesAll_80 ?_
              refine lv_iconst (v := 2) hx hb dX11_writesAll_81 rfl ?_
              refine lv_iadd hx hb dX11_writesAll_82 ?_
              refine lv_iload hx hb dX11_writesAll_83 (lv_at hl 0 rfl) ?_
              obtain ⟨q12, e12, hf⟩ := bd_some hf
              have J12 : W p l e (headSpec wsX11_writesAll rmX11_writesAll).room s m args below meth c H locs 0 0 Q (F0 m 104 ls [.long q12, .int (((70 : Int32) + ((4 : Int32) * p2)) + (2 : Int32)), .ref a1]) := by
                obtain ⟨h13, hf⟩ := gdI_some hf
                refine va_last hx hb hC.1 hP hD hS 2 1 rfl rfl h13 dX11_writesAll_104 (fun H locs hP hD hS => ?_)
                have hP : va_P E.1 vwCl (wMR E a0 v0 ++ wLA E a1 340 (vp_updL q5.2.2 (((70 : Int32) + ((4 : Int32) * p2)) + (2 : Int32)).toNatClampNeg q12)) H := hP
                have hD : va_D A (wMR E a0 v0 ++ wLA E a1 340 (vp_updL q5.2.2 (((70 : Int32) + ((4 : Int32) * p2)) + (2 : Int32)).toNatClampNeg q12)) := hD
                refine lv_iload hx hb dX11_writesAll_105 (lv_at hl 0 rfl) ?_
                obtain ⟨q14, e14, hf⟩ := bd_some hf
                have J14 : ∀ (H : Heap) (locs : List Loc) (hP : va_P E.1 vwCl (wMR E a0 v0 ++ wLA E a1 340 q14.2) H) (hD : va_D A (wMR E a0 v0 ++ wLA E a1 340 q14.2)) (hS : va_S A s.heap H locs), W p l e (headSpec wsX11_writesAll rmX11_writesAll).room s m args below meth c H locs 0 0 Q (F0 m 124 ls [.int (bI q14.1)]) := by
                  intro H locs hP hD hS
                  refine lv_istore (lv' := [(8, .int (bI q14.1)), (7, .int (bI r11)), (0, .ref (a0 0)), (1, .ref a1), (2, .int p2), (3, .int p3), (4, .int ((v1 (((70 : Int32) + ((4 : Int32) * p2)) + (2 : Int32)).toNatClampNeg).toInt32)), (5, .int (bI q5.1)), (6, .int q5.2.1)]) hx hb dX11_writesAll_124 hl (by decide) rfl (fun ls hl => ?_)
                  refine lv_iload hx hb dX11_writesAll_126 (lv_at hl 0 rfl) ?_
                  obtain ⟨q15, e15, hf⟩ := bd_some hf
                  have J15 : ∀ (H : Heap) (locs : List Loc) (hP : va_P E.1 vwCl (wMR E a0 v0 ++ wLA E a1 340 q15) H) (hD : va_D A (wMR E a0 v0 ++ wLA E a1 340 q15)) (hS : va_S A s.heap H locs), W p l e (headSpec wsX11_writesAll rmX11_writesAll).room s m args below meth c H locs 0 0 Q (F0 m 140 ls []) := by
                    intro H locs hP hD hS
                    refine lv_iload hx hb dX11_writesAll_140 (lv_at hl 7 rfl) ?_
                    refine lv_if_eq (tgt := 154) hx hb dX11_writesAll_142 rfl (fun c16 => ?_) (fun c16 => ?_)
                    · have hf := it_t hf c16
                      refine lv_iconst (v := 0) hx hb dX11_writesAll_154 rfl ?_
                      refine lv_istore (lv' := [(5, .int (0 : Int32)), (8, .int (bI q14.1)), (7, .int (bI r11)), (0, .ref (a0 0)), (1, .ref a1), (2, .int p2), (3, .int p3), (4, .int ((v1 (((70 : Int32) + ((4 : Int32) * p2)) + (2 : Int32)).toNatClampNeg).toInt32)), (6, .int q5.2.1)]) hx hb dX11_writesAll_155 hl (by decide) rfl (fun ls hl => ?_)
                      refine lv_iinc (v := (q5.2.1 + 1)) (lv' := [(6, .int (q5.2.1 + 1)), (5, .int (0 : Int32)), (8, .int (bI q14.1)), (7, .int (bI r11)), (0, .ref (a0 0)), (1, .ref a1), (2, .int p2), (3, .int p3), (4, .int ((v1 (((70 : Int32) + ((4 : Int32) * p2)) + (2 : Int32)).toNatClampNeg).toInt32))]) hx hb dX11_writesAll_157 hl (k := 8) rfl rfl (by decide) rfl (fun ls hl => ?_)
                      refine lv_goto (tgt := 39) hx hb dX11_writesAll_160 rfl ?_
                      exact ih5 (false, (q5.2.1 + 1), q15) H locs hP hD hS ls (lv_sub hl [4, 5, 6, 7, 8, 1, 0] rfl) hf
                    · have hf := it_f hf c16
                      refine lv_iload hx hb dX11_writesAll_145 (lv_at hl 0 rfl) ?_
                      refine lv_if_ne (tgt := 154) hx hb dX11_writesAll_147 rfl (fun c17 => ?_) (fun c17 => ?_)
                      · have hf := it_f hf c17
                        refine lv_iconst (v := 0) hx hb dX11_writesAll_154 rfl ?_
                        refine lv_istore (lv' := [(5, .int (0 : Int32)), (8, .int (bI q14.1)), (7, .int (bI r11)), (0, .ref (a0 0)), (1, .ref a1), (2, .int p2), (3, .int p3), (4, .int ((v1 (((70 : Int32) + ((4 : Int32) * p2)) + (2 : Int32)).toNatClampNeg).toInt32)), (6, .int q5.2.1)]) hx hb dX11_writesAll_155 hl (by decide) rfl (fun ls hl => ?_)
                        refine lv_iinc (v := (q5.2.1 + 1)) (lv' := [(6, .int (q5.2.1 + 1)), (5, .int (0 : Int32)), (8, .int (bI q14.1)), (7, .int (bI r11)), (0, .ref (a0 0)), (1, .ref a1), (2, .int p2), (3, .int p3), (4, .int ((v1 (((70 : Int32) + ((4 : Int32) * p2)) + (2 : Int32)).toNatClampNeg).toInt32))]) hx hb dX11_writesAll_157 hl (k := 8) rfl rfl (by decide) rfl (fun ls hl => ?_)
                        refine lv_goto (tgt := 39) hx hb dX11_writesAll_160 rfl ?_
                        exact ih5 (false, (q5.2.1 + 1), q15) H locs hP hD hS ls (lv_sub hl [4, 5, 6, 7, 8, 1, 0] rfl) hf
                      · have hf := it_t hf c17
                        refine lv_iconst (v := 1) hx hb dX11_writesAll_150 rfl ?_
                        refine lv_goto (tgt := 155) hx hb dX11_writesAll_151 rfl ?_
                        refine lv_istore (lv' := [(5, .int (1 : Int32)), (8, .int (bI q14.1)), (7, .int (bI r11)), (0, .ref (a0 0)), (1, .ref a1), (2, .int p2), (3, .int p3), (4, .int ((v1 (((70 : Int32) + ((4 : Int32) * p2)) + (2 : Int32)).toNatClampNeg).toInt32)), (6, .int q5.2.1)]) hx hb dX11_writesAll_155 hl (by decide) rfl (fun ls hl => ?_)
                        refine lv_iinc (v := (q5.2.1 + 1)) (lv' := [(6, .int (q5.2.1 + 1)), (5, .int (1 : Int32)), (8, .int (bI q14.1)), (7, .int (bI r11)), (0, .ref (a0 0)), (1, .ref a1), (2, .int p2), (3, .int p3), (4, .int ((v1 (((70 : Int32) + ((4 : Int32) * p2)) + (2 : Int32)).toNatClampNeg).toInt32))]) hx hb dX11_writesAll_157 hl (k := 8) rfl rfl (by decide) rfl (fun ls hl => ?_)
                        refine lv_goto (tgt := 39) hx hb dX11_writesAll_160 rfl ?_
                        exact ih5 (true, (q5.2.1 + 1), q15) H locs hP hD hS ls (lv_sub hl [4, 5, 6, 7, 8, 1, 0] rfl) hf
                  have hf := e15
                  refine lv_if_ne (tgt := 140) hx hb dX11_writesAll_128 rfl (fun c18 => ?_) (fun c18 => ?_)
                  · have hf := it_f hf c18
                    cases Option.some.inj hf
                    exact J15 H locs hP hD hS
                  · have hf := it_t hf c18
                    refine lv_aload_n hx hb dX11_writesAll_131 rfl (lv_at hl 2 rfl) ?_
                    refine lv_aload_n hx hb dX11_writesAll_132 rfl (lv_at hl 3 rfl) ?_
                    refine lv_iload_n hx hb dX11_writesAll_133 rfl (lv_at hl 4 rfl) ?_
                    refine lv_iload hx hb dX11_writesAll_134 (lv_at hl 8 rfl) ?_
                    refine lv_iload_n hx hb dX11_writesAll_136 rfl (lv_at hl 5 rfl) ?_
                    obtain ⟨r19, e19, hf⟩ := bd_some hf
                    refine cq_v hP hD hS [0, 1, 2] [] [0, 1, 2] (va_free (wc := (wMR E a0 v0 ++ wLA E a1 340 q14.2)) hD hS hA [0, 1, 2] rfl) (va_runV (As := [.ref a1, .int p2, .int q5.2.1, .int p3]) (rest := []) ⟨hx, hb, hml, hown, hts⟩ (c_X11_writes l E H.size a0 v0 a1 q14.2 p2 q5.2.1 p3 r19 e19) (cwV 4 hts gX11_writesAll_X11_writes rfl rfl rfl hdV_X11_writes ⟨Nat.le_of_ble_eq_true rfl, Nat.le_of_ble_eq_true rfl⟩) ⟨PW.blind, va_recv hC.1 hP (ci := 9) (q0 := 0) rfl rfl, PW.pre hC hS hP hD (va_free hD hS hA [0, 1, 2] rfl)⟩ rfl rfl hl.1 rfl (lv_room (Nat.le_of_ble_eq_true rfl)) dX11_writesAll_137 ⟨Nat.le_of_ble_eq_true rfl, Nat.le_of_ble_eq_true rfl⟩) rfl rfl rfl rfl (wMR E a0 v0 ++ wLA E a1 340 r19) rfl rfl (fun H locs hP hD hS => ?_)
                    cases Option.some.inj hf
                    exact J15 H locs hP hD hS
                have hf := e14
                refine lv_if_eq (tgt := 119) hx hb dX11_writesAll_107 rfl (fun c20 => ?_) (fun c20 => ?_)
                · have hf := it_t hf c20
                  refine lv_iconst (v := 1) hx hb dX11_writesAll_119 rfl ?_
                  refine lv_goto (tgt := 124) hx hb dX11_writesAll_120 rfl ?_
                  cases Option.some.inj hf
                  exact J14 H locs hP hD hS
                · have hf := it_f hf c20
                  refine lv_aload_n hx hb dX11_writesAll_110 rfl (lv_at hl 2 rfl) ?_
                  refine lv_iload hx hb dX11_writesAll_111 (lv_at hl 7 rfl) ?_
                  obtain ⟨r21, e21, hf⟩ := bd_some hf
                  refine cq_i hP hD hS [2] [0, 1] [0, 1, 2] (va_free (wc := (wLA E a1 340 (vp_updL q5.2.2 (((70 : Int32) + ((4 : Int32) * p2)) + (2 : Int32)).toNatClampNeg q12))) hD hS hA [2] rfl) (va_runS (As := [.ref a1, .int q5.2.1]) (rest := []) ⟨hx, hb, hml, hown, hts⟩ (c_X11_fails l E H.size a1 (vp_updL q5.2.2 (((70 : Int32) + ((4 : Int32) * p2)) + (2 : Int32)).toNatClampNeg q12) q5.2.1 r21 e21) (va_cwS 2 hts gX11_writesAll_X11_fails rfl rfl rfl hdS_X11_fails ⟨Nat.le_of_ble_eq_true rfl, Nat.le_of_ble_eq_true rfl⟩) ⟨PW.blind, PW.pre hC hS (hP.sub [2] rfl) (hD.sub [2] rfl rfl) (va_free hD hS hA [2] rfl)⟩ rfl rfl hl.1 rfl (lv_room (Nat.le_of_ble_eq_true rfl)) dX11_writesAll_113 ⟨Nat.le_of_ble_eq_true rfl, Nat.le_of_ble_eq_true rfl⟩) rfl rfl rfl rfl (wMR E a0 v0 ++ wLA E a1 340 r21.2) rfl rfl (fun H locs hP hD hS => ?_)
                  refine lv_if_eq (tgt := 123) hx hb dX11_writesAll_116 rfl (fun c22 => ?_) (fun c22 => ?_)
                  · have hf := it_t hf c22
                    refine lv_iconst (v := 0) hx hb dX11_writesAll_123 rfl ?_
                    cases Option.some.inj hf
                    exact J14 H locs hP hD hS
                  · have hf := it_f hf c22
                    refine lv_iconst (v := 1) hx hb dX11_writesAll_119 rfl ?_
                    refine lv_goto (tgt := 124) hx hb dX11_writesAll_120 rfl ?_
                    cases Option.some.inj hf
                    exact J14 H locs hP hD hS
              have hf := e12
              refine lv_if_eq (tgt := 101) hx hb dX11_writesAll_85 rfl (fun c23 => ?_) (fun c23 => ?_)
              · have hf := it_t hf c23
                refine lv_ldc2 hx hb hown w1 dX11_writesAll_101 ?_
                cases Option.some.inj hf
                exact J12
              · have hf := it_f hf c23
                refine lv_aload_n hx hb dX11_writesAll_88 rfl (lv_at hl 2 rfl) ?_
                refine lv_bipush (v := 70) hx hb dX11_writesAll_89 rfl ?_
                refine lv_iconst (v := 4) hx hb dX11_writesAll_91 rfl ?_
                refine lv_iload_n hx hb dX11_writesAll_92 rfl (lv_at hl 3 rfl) ?_
                refine lv_imul hx hb dX11_writesAll_93 ?_
                refine lv_iadd hx hb dX11_writesAll_94 ?_
                refine lv_iconst (v := 2) hx hb dX11_writesAll_95 rfl ?_
                refine lv_iadd hx hb dX11_writesAll_96 ?_
                obtain ⟨h24, hf⟩ := gdI_some hf
                refine va_lald hx hb hC.1 hP 2 1 rfl rfl h24 dX11_writesAll_97 ?_
                refine lv_goto (tgt := 104) hx hb dX11_writesAll_98 rfl ?_
                cases Option.some.inj hf
                exact J12
    exact L5 FU (true, (0 : Int32), r4) H locs hP hD hS ls (lv_sub hl [3, 4, 5, 6, 2, 1, 0] rfl) hf
  · have hf := it_f hf c3
    refine lv_iconst (v := 0) hx hb dX11_writesAll_22 rfl ?_
    cases Option.some.inj hf
    subst hQe
    exact ew_z (wf := (fun q : (Nat → Int64) => wMR E a0 v0 ++ wLA E a1 340 q)) hx hb hr hlocks rfl hP hD hS dX11_writesAll_23

/-! X11_appends -/
abbrev rmX11_appends : Room := { frames := 6, cells := 0, slots := 0, locals := 138 }
theorem hdS_X11_appends : yX11_appends.cls ≠ "java/lang/invoke/MethodHandle" ∧ yX11_appends.cls ≠ "java/lang/invoke/VarHandle" ∧ (parseMethodDescriptor yX11_appends.desc).map (fun d => d.parameters.length) = some 2 := by decide +kernel
theorem hdV_X11_appends : yX11_appends.cls = RX11 ∧ yX11_appends.cls ≠ "java/lang/invoke/MethodHandle" ∧ yX11_appends.cls ≠ "java/lang/invoke/VarHandle" ∧ (parseMethodDescriptor yX11_appends.desc).map (fun d => d.parameters.length) = some 2 := ⟨rfl, hdS_X11_appends⟩
set_option maxHeartbeats 4000000 in
set_option maxRecDepth 100000 in
theorem c_X11_appends (l : Launch) (E : G0) (sz : Nat) (a0 : Nat → Nat) (v0 : MD) (a1 : Nat) (v1 : (Nat → Int64)) (p2 : Int32) (x : Int32 × (Nat → Int64)) (hf : f_X11_appends v0 v1 p2 = some x) : Met l yX11_appends wsX11_appends rmX11_appends (va_Pc [.ref (a0 0), .ref a1, .int p2] (PW E (wMR E a0 v0 ++ wLA E a1 340 v1) sz)) (va_Qi (fun r q => r = x.1 ∧ q = x.2) (fun q t => va_P E.1 vwCl ((fun q : (Nat → Int64) => wMR E a0 v0 ++ wLA E a1 340 q) q) t.heap ∧ va_D (va_A (wMR E a0 v0 ++ wLA E a1 340 v1) sz) ((fun q : (Nat → Int64) => wMR E a0 v0 ++ wLA E a1 340 q) q)) (va_A (wMR E a0 v0 ++ wLA E a1 340 v1) sz)) 0 0 (va_A (wMR E a0 v0 ++ wLA E a1 340 v1) sz) := by
  refine Met.ofW (cc := cX11_appends) (maxL := 7) (ret := some .int) (by decide) rfl ?_
  intro p e s m args below meth c s₁ B hml hv
  obtain ⟨ha, hsz, hP, hD0, hC⟩ := hv
  have hx := B.exec
  have hb := B.bytes
  have hr := B.returns
  have hts := atoms_spec (ws := wsX11_appends) B.pre
  have hown : s.vm.findClass RX11 = some m.cls := findClass_of_methodNamed B.named
  have hlocks := B.notSynchronized
  subst hsz
  have hD := hD0.self (sz := s.heap.size)
  generalize hAe : va_A (wMR E a0 v0 ++ wLA E a1 340 v1) s.heap.size = A at hD hC ⊢
  have hA : ∀ q : Nat, s.heap.size ≤ q → A q := fun q h => by rw [← hAe]; exact Or.inr h
  have hS : va_S A s.heap s.heap [] := va_S.rf
  have w1 : (Cond.fieldLink RX11 143 "GreatChunksModel" "letters" "I").before args s = true := hts _ (List.mem_of_getElem? (i := 1) rfl)
  have w2 : ∀ w ∈ wsX110, w ∈ wsX11_appends := in_pl 116 rfl
  have w3 : (Cond.constant RX11 179 (-1000005)).before args s = true := hts _ (List.mem_of_getElem? (i := 2) rfl)
  generalize hQe : MQ below (va_Qi (fun r q => r = x.1 ∧ q = x.2) (fun q t => va_P E.1 vwCl ((fun q : (Nat → Int64) => wMR E a0 v0 ++ wLA E a1 340 q) q) t.heap ∧ va_D A ((fun q : (Nat → Int64) => wMR E a0 v0 ++ wLA E a1 340 q) q)) A) args s 0 0 A = Q
  refine st_W ha (Nat.le_of_ble_eq_true rfl) (fun ls hl => ?_)
  have hl : lv_has ls 7 [(0, .ref (a0 0)), (1, .ref a1), (2, .int p2)] := hl
  unfold f_X11_appends at hf
  refine lv_aload_n hx hb dX11_appends_0 rfl (lv_at hl 1 rfl) ?_
  refine lv_iload_n hx hb dX11_appends_1 rfl (lv_at hl 2 rfl) ?_
  obtain ⟨r1, e1, hf⟩ := bd_some hf
  refine cr_i (va_runS (As := [.ref a1, .int p2]) (rest := []) ⟨hx, hb, hml, hown, hts⟩ (c_X11_many l E a1 v1 p2 r1 e1) (va_cwS 2 hts gX11_appends_X11_many rfl rfl rfl hdS_X11_many ⟨Nat.le_of_ble_eq_true rfl, Nat.le_of_ble_eq_true rfl⟩) ⟨PR.blind, PR.pre hC hS (hP.sub [2] rfl)⟩ rfl rfl hl.1 rfl (lv_room (Nat.le_of_ble_eq_true rfl)) dX11_appends_2 ⟨Nat.le_of_ble_eq_true rfl, Nat.le_of_ble_eq_true rfl⟩) ?_
  obtain ⟨q2, e2, hf⟩ := bd_some hf
  have J2 : ∀ (H : Heap) (locs : List Loc) (hP : va_P E.1 vwCl (wMR E a0 v0 ++ wLA E a1 340 q2.2) H) (hD : va_D A (wMR E a0 v0 ++ wLA E a1 340 q2.2)) (hS : va_S A s.heap H locs), W p l e (headSpec wsX11_appends rmX11_appends).room s m args below meth c H locs 0 0 Q (F0 m 28 ls [.int q2.1]) := by
    intro H locs hP hD hS
    refine lv_istore_n (lv' := [(3, .int q2.1), (0, .ref (a0 0)), (1, .ref a1), (2, .int p2)]) hx hb dX11_appends_28 rfl hl (by decide) rfl (fun ls hl => ?_)
    refine lv_iconst (v := 0) hx hb dX11_appends_29 rfl ?_
    refine lv_istore (lv' := [(4, .int (0 : Int32)), (3, .int q2.1), (0, .ref (a0 0)), (1, .ref a1), (2, .int p2)]) hx hb dX11_appends_30 hl (by decide) rfl (fun ls hl => ?_)
    obtain ⟨K3, hK3, hf⟩ := jn_some hf
    have J3 : ∀ (q3 : Int32 × Int32 × (Nat → Int64)) (H : Heap) (locs : List Loc) (hP : va_P E.1 vwCl (wMR E a0 v0 ++ wLA E a1 340 q3.2.2) H) (hD : va_D A (wMR E a0 v0 ++ wLA E a1 340 q3.2.2)) (hS : va_S A s.heap H locs) (ls : Array Slot) (hl : lv_has ls 7 [(3, .int q3.1)]) (hf : K3 q3 = some x), W p l e (headSpec wsX11_appends rmX11_appends).room s m args below meth c H locs 0 0 Q (F0 m 151 ls []) := by
      intro q3 H locs hP hD hS ls hl hf
      have hf := (hK3 q3).trans hf
      refine lv_iload_n hx hb dX11_appends_151 rfl (lv_at hl 0 rfl) ?_
      refine lv_if_ne (tgt := 160) hx hb dX11_appends_152 rfl (fun c4 => ?_) (fun c4 => ?_)
      · have hf := it_f hf c4
        refine lv_iload_n hx hb dX11_appends_160 rfl (lv_at hl 0 rfl) ?_
        cases Option.some.inj hf
        subst hQe
        exact ew_i (wf := (fun q : (Nat → Int64) => wMR E a0 v0 ++ wLA E a1 340 q)) hx hb hr hlocks hP hD hS dX11_appends_161
      · have hf := it_t hf c4
        refine lv_ldc hx hb hown w3 dX11_appends_155 ?_
        refine lv_goto (tgt := 161) hx hb dX11_appends_157 rfl ?_
        cases Option.some.inj hf
        subst hQe
        exact ew_i (wf := (fun q : (Nat → Int64) => wMR E a0 v0 ++ wLA E a1 340 q)) hx hb hr hlocks hP hD hS dX11_appends_161
    have L3 : ∀ (n : Nat) (q3 : Int32 × Int32 × (Nat → Int64)) (H : Heap) (locs : List Loc) (hP : va_P E.1 vwCl (wMR E a0 v0 ++ wLA E a1 340 q3.2.2) H) (hD : va_D A (wMR E a0 v0 ++ wLA E a1 340 q3.2.2)) (hS : va_S A s.heap H locs) (ls : Array Slot) (hl : lv_has ls 7 [(0, .ref (a0 0)), (1, .ref a1), (2, .int p2), (3, .int q3.1), (4, .int q3.2.1)]) (hf : lpF (bX11_appends_3 p2 v0 K3) n q3 = some x), W p l e (headSpec wsX11_appends rmX11_appends).room s m args below meth c H locs 0 0 Q (F0 m 32 ls []) := by
      intro n
      induction n with
      | zero => intro q3 H locs hP hD hS ls hl hf; exact (lpF_zero hf).elim
      | succ n ih3 =>
        intro q3 H locs hP hD hS ls hl hf
        have hf := lpF_succ hf
        unfold bX11_appends_3 at hf
        refine lv_iload_n hx hb dX11_appends_32 rfl (lv_at hl 3 rfl) ?_
        refine lv_if_ne (tgt := 151) hx hb dX11_appends_33 rfl (fun c5 => ?_) (fun c5 => ?_)
        · have hf := it_f hf c5
          exact J3 (q3.1, q3.2.1, q3.2.2) H locs hP hD hS ls (lv_sub hl [3] rfl) hf
        · have hf := it_t hf c5
          refine lv_iload hx hb dX11_appends_36 (lv_at hl 4 rfl) ?_
          refine lv_iconst (v := 3) hx hb dX11_appends_38 rfl ?_
          refine lv_icmp_ge (tgt := 151) hx hb dX11_appends_39 rfl (fun c6 => ?_) (fun c6 => ?_)
          · have hf := it_t hf c6
            exact J3 (q3.1, q3.2.1, q3.2.2) H locs hP hD hS ls (lv_sub hl [3] rfl) hf
          · have hf := it_f hf c6
            refine lv_aload_n hx hb dX11_appends_42 rfl (lv_at hl 1 rfl) ?_
            refine lv_iload_n hx hb dX11_appends_43 rfl (lv_at hl 2 rfl) ?_
            obtain ⟨r7, e7, hf⟩ := bd_some hf
            refine cr_i (va_runS (As := [.ref a1, .int p2]) (rest := []) ⟨hx, hb, hml, hown, hts⟩ (c_X11_lastOf l E a1 q3.2.2 p2 r7 e7) (va_cwS 2 hts gX11_appends_X11_lastOf rfl rfl rfl hdS_X11_lastOf ⟨Nat.le_of_ble_eq_true rfl, Nat.le_of_ble_eq_true rfl⟩) ⟨PR.blind, PR.pre hC hS (hP.sub [2] rfl)⟩ rfl rfl hl.1 rfl (lv_room (Nat.le_of_ble_eq_true rfl)) dX11_appends_44 ⟨Nat.le_of_ble_eq_true rfl, Nat.le_of_ble_eq_true rfl⟩) ?_
            refine lv_istore (lv' := [(5, .int r7), (0, .ref (a0 0)), (1, .ref a1), (2, .int p2), (3, .int q3.1), (4, .int q3.2.1)]) hx hb dX11_appends_47 hl (by decide) rfl (fun ls hl => ?_)
            refine lv_aload_n hx hb dX11_appends_49 rfl (lv_at hl 2 rfl) ?_
            refine lv_iload hx hb dX11_appends_50 (lv_at hl 0 rfl) ?_
            obtain ⟨r8, e8, hf⟩ := bd_some hf
            refine cr_i (va_runS (As := [.ref a1, .int r7]) (rest := []) ⟨hx, hb, hml, hown, hts⟩ (c_X11_holds l E a1 q3.2.2 r7 r8 e8) (va_cwS 2 hts gX11_appends_X11_holds rfl rfl rfl hdS_X11_holds ⟨Nat.le_of_ble_eq_true rfl, Nat.le_of_ble_eq_true rfl⟩) ⟨PR.blind, PR.pre hC hS (hP.sub [2] rfl)⟩ rfl rfl hl.1 rfl (lv_room (Nat.le_of_ble_eq_true rfl)) dX11_appends_52 ⟨Nat.le_of_ble_eq_true rfl, Nat.le_of_ble_eq_true rfl⟩) ?_
            obtain ⟨q9, e9, hf⟩ := bd_some hf
            have J9 : ∀ (H : Heap) (locs : List Loc) (hP : va_P E.1 vwCl (wMR E a0 v0 ++ wLA E a1 340 q9.2) H) (hD : va_D A (wMR E a0 v0 ++ wLA E a1 340 q9.2)) (hS : va_S A s.heap H locs), W p l e (headSpec wsX11_appends rmX11_appends).room s m args below meth c H locs 0 0 Q (F0 m 68 ls [.int q9.1]) := by
              intro H locs hP hD hS
              refine lv_istore_n (lv' := [(3, .int q9.1), (5, .int r7), (0, .ref (a0 0)), (1, .ref a1), (2, .int p2), (4, .int q3.2.1)]) hx hb dX11_appends_68 rfl hl (by decide) rfl (fun ls hl => ?_)
              refine lv_aload_n hx hb dX11_appends_69 rfl (lv_at hl 3 rfl) ?_
              refine lv_iload hx hb dX11_appends_70 (lv_at hl 1 rfl) ?_
              obtain ⟨r10, e10, hf⟩ := bd_some hf
              refine cr_i (va_runS (As := [.ref a1, .int r7]) (rest := []) ⟨hx, hb, hml, hown, hts⟩ (c_X11_greatestFilled l E a1 q9.2 r7 r10 e10) (va_cwS 2 hts gX11_appends_X11_greatestFilled rfl rfl rfl hdS_X11_greatestFilled ⟨Nat.le_of_ble_eq_true rfl, Nat.le_of_ble_eq_true rfl⟩) ⟨PR.blind, PR.pre hC hS (hP.sub [2] rfl)⟩ rfl rfl hl.1 rfl (lv_room (Nat.le_of_ble_eq_true rfl)) dX11_appends_72 ⟨Nat.le_of_ble_eq_true rfl, Nat.le_of_ble_eq_true rfl⟩) ?_
              refine lv_istore (lv' := [(6, .int r10), (3, .int q9.1), (5, .int r7), (0, .ref (a0 0)), (1, .ref a1), (2, .int p2), (4, .int q3.2.1)]) hx hb dX11_appends_75 hl (by decide) rfl (fun ls hl => ?_)
              refine lv_iload_n hx hb dX11_appends_77 rfl (lv_at hl 1 rfl) ?_
              refine lv_if_ne (tgt := 113) hx hb dX11_appends_78 rfl (fun c11 => ?_) (fun c11 => ?_)
              · have hf := it_f hf c11
                refine lv_iload_n hx hb dX11_appends_113 rfl (lv_at hl 1 rfl) ?_
                refine lv_if_ne (tgt := 148) hx hb dX11_appends_114 rfl (fun c12 => ?_) (fun c12 => ?_)
                · have hf := it_f hf c12
                  refine lv_goto (tgt := 32) hx hb dX11_appends_148 rfl ?_
                  exact ih3 (q9.1, q3.2.1, q9.2) H locs hP hD hS ls (lv_sub hl [3, 4, 5, 1, 6] rfl) hf
                · have hf := it_t hf c12
                  refine lv_iinc (v := (q3.2.1 + 1)) (lv' := [(4, .int (q3.2.1 + 1)), (6, .int r10), (3, .int q9.1), (5, .int r7), (0, .ref (a0 0)), (1, .ref a1), (2, .int p2)]) hx hb dX11_appends_117 hl (k := 6) rfl rfl (by decide) rfl (fun ls hl => ?_)
                  refine lv_aload_n hx hb dX11_appends_120 rfl (lv_at hl 4 rfl) ?_
                  refine lv_aload_n hx hb dX11_appends_121 rfl (lv_at hl 5 rfl) ?_
                  refine lv_iload hx hb dX11_appends_122 (lv_at hl 3 rfl) ?_
                  refine lv_iload hx hb dX11_appends_124 (lv_at hl 1 rfl) ?_
                  obtain ⟨r13, e13, hf⟩ := bd_some hf
                  refine cq_i hP hD hS [0, 1, 2] [] [0, 1, 2] (va_free (wc := (wMR E a0 v0 ++ wLA E a1 340 q9.2)) hD hS hA [0, 1, 2] rfl) (va_runV (As := [.ref a1, .int r7, .int r10]) (rest := []) ⟨hx, hb, hml, hown, hts⟩ (c_X11_writesAll l E H.size a0 v0 a1 q9.2 r7 r10 r13 e13) (cwV 3 hts gX11_appends_X11_writesAll rfl rfl rfl hdV_X11_writesAll ⟨Nat.le_of_ble_eq_true rfl, Nat.le_of_ble_eq_true rfl⟩) ⟨PW.blind, va_recv hC.1 hP (ci := 9) (q0 := 0) rfl rfl, PW.pre hC hS hP hD (va_free hD hS hA [0, 1, 2] rfl)⟩ rfl rfl hl.1 rfl (lv_room (Nat.le_of_ble_eq_true rfl)) dX11_appends_126 ⟨Nat.le_of_ble_eq_true rfl, Nat.le_of_ble_eq_true rfl⟩) rfl rfl rfl rfl (wMR E a0 v0 ++ wLA E a1 340 r13.2) rfl rfl (fun H locs hP hD hS => ?_)
                  refine lv_if_eq (tgt := 148) hx hb dX11_appends_129 rfl (fun c14 => ?_) (fun c14 => ?_)
                  · have hf := it_t hf c14
                    refine lv_goto (tgt := 32) hx hb dX11_appends_148 rfl ?_
                    exact ih3 (q9.1, (q3.2.1 + 1), r13.2) H locs hP hD hS ls (lv_sub hl [4, 5, 6, 2, 0] rfl) hf
                  · have hf := it_f hf c14
                    refine lv_aload_n hx hb dX11_appends_132 rfl (lv_at hl 5 rfl) ?_
                    refine lv_iconst (v := 2) hx hb dX11_appends_133 rfl ?_
                    obtain ⟨h15, hf⟩ := gdI_some hf
                    refine va_lald hx hb hC.1 hP 2 1 rfl rfl h15 dX11_appends_134 ?_
                    refine lv_l2i hx hb dX11_appends_135 rfl ?_
                    refine lv_aload_n hx hb dX11_appends_136 rfl (lv_at hl 5 rfl) ?_
                    refine lv_iload_n hx hb dX11_appends_137 rfl (lv_at hl 6 rfl) ?_
                    obtain ⟨r16, e16, hf⟩ := bd_some hf
                    refine cr_i (va_runS (As := [.ref a1, .int p2]) (rest := [.int ((r13.2 (2 : Int32).toNatClampNeg).toInt32)]) ⟨hx, hb, hml, hown, hts⟩ (c_X11_many l E a1 r13.2 p2 r16 e16) (va_cwS 2 hts gX11_appends_X11_many rfl rfl rfl hdS_X11_many ⟨Nat.le_of_ble_eq_true rfl, Nat.le_of_ble_eq_true rfl⟩) ⟨PR.blind, PR.pre hC hS (hP.sub [2] rfl)⟩ rfl rfl hl.1 rfl (lv_room (Nat.le_of_ble_eq_true rfl)) dX11_appends_138 ⟨Nat.le_of_ble_eq_true rfl, Nat.le_of_ble_eq_true rfl⟩) ?_
                    refine lv_iconst (v := 1) hx hb dX11_appends_141 rfl ?_
                    refine lv_isub hx hb dX11_appends_142 ?_
                    refine lv_imul hx hb dX11_appends_143 ?_
                    refine lv_iload hx hb dX11_appends_144 (lv_at hl 1 rfl) ?_
                    refine lv_iadd hx hb dX11_appends_146 ?_
                    cases Option.some.inj hf
                    subst hQe
                    exact ew_i (wf := (fun q : (Nat → Int64) => wMR E a0 v0 ++ wLA E a1 340 q)) hx hb hr hlocks hP hD hS dX11_appends_147
              · have hf := it_t hf c11
                refine lv_iload hx hb dX11_appends_81 (lv_at hl 0 rfl) ?_
                refine lv_aload_n hx hb dX11_appends_83 rfl (lv_at hl 3 rfl) ?_
                refine va_get (D := E.1) (ci := 9) (v := .int v0.2.2.2.2.2.2.2.2.2.2.2.2.2.2.2.2) (C := RX11) (T := TX11) (N := 17) hx hb hts w2 hown hC.1 hP 0 rfl rfl 16 (by decide) w1 (fun _ h9 => h9) rfl dX11_appends_84 ?_
                refine lv_iadd hx hb dX11_appends_87 ?_
                refine lv_i2l hx hb dX11_appends_88 rfl ?_
                refine lv_aload_n hx hb dX11_appends_89 rfl (lv_at hl 4 rfl) ?_
                refine lv_iconst (v := 2) hx hb dX11_appends_90 rfl ?_
                obtain ⟨h17, hf⟩ := gdI_some hf
                refine va_lald hx hb hC.1 hP 2 1 rfl rfl h17 dX11_appends_91 ?_
                refine W.lcmp hx hb dX11_appends_92 ?_
                refine lv_if_le (tgt := 113) hx hb dX11_appends_93 rfl (fun c18 => ?_) (fun c18 => ?_)
                · have hf := it_t hf c18
                  refine lv_iload_n hx hb dX11_appends_113 rfl (lv_at hl 1 rfl) ?_
                  refine lv_if_ne (tgt := 148) hx hb dX11_appends_114 rfl (fun c19 => ?_) (fun c19 => ?_)
                  · have hf := it_f hf c19
                    refine lv_goto (tgt := 32) hx hb dX11_appends_148 rfl ?_
                    exact ih3 (q9.1, q3.2.1, q9.2) H locs hP hD hS ls (lv_sub hl [3, 4, 5, 1, 6] rfl) hf
                  · have hf := it_t hf c19
                    refine lv_iinc (v := (q3.2.1 + 1)) (lv' := [(4, .int (q3.2.1 + 1)), (6, .int r10), (3, .int q9.1), (5, .int r7), (0, .ref (a0 0)), (1, .ref a1), (2, .int p2)]) hx hb dX11_appends_117 hl (k := 6) rfl rfl (by decide) rfl (fun ls hl => ?_)
                    refine lv_aload_n hx hb dX11_appends_120 rfl (lv_at hl 4 rfl) ?_
                    refine lv_aload_n hx hb dX11_appends_121 rfl (lv_at hl 5 rfl) ?_
                    refine lv_iload hx hb dX11_appends_122 (lv_at hl 3 rfl) ?_
                    refine lv_iload hx hb dX11_appends_124 (lv_at hl 1 rfl) ?_
                    obtain ⟨r20, e20, hf⟩ := bd_some hf
                    refine cq_i hP hD hS [0, 1, 2] [] [0, 1, 2] (va_free (wc := (wMR E a0 v0 ++ wLA E a1 340 q9.2)) hD hS hA [0, 1, 2] rfl) (va_runV (As := [.ref a1, .int r7, .int r10]) (rest := []) ⟨hx, hb, hml, hown, hts⟩ (c_X11_writesAll l E H.size a0 v0 a1 q9.2 r7 r10 r20 e20) (cwV 3 hts gX11_appends_X11_writesAll rfl rfl rfl hdV_X11_writesAll ⟨Nat.le_of_ble_eq_true rfl, Nat.le_of_ble_eq_true rfl⟩) ⟨PW.blind, va_recv hC.1 hP (ci := 9) (q0 := 0) rfl rfl, PW.pre hC hS hP hD (va_free hD hS hA [0, 1, 2] rfl)⟩ rfl rfl hl.1 rfl (lv_room (Nat.le_of_ble_eq_true rfl)) dX11_appends_126 ⟨Nat.le_of_ble_eq_true rfl, Nat.le_of_ble_eq_true rfl⟩) rfl rfl rfl rfl (wMR E a0 v0 ++ wLA E a1 340 r20.2) rfl rfl (fun H locs hP hD hS => ?_)
                    refine lv_if_eq (tgt := 148) hx hb dX11_appends_129 rfl (fun c21 => ?_) (fun c21 => ?_)
                    · have hf := it_t hf c21
                      refine lv_goto (tgt := 32) hx hb dX11_appends_148 rfl ?_
                      exact ih3 (q9.1, (q3.2.1 + 1), r20.2) H locs hP hD hS ls (lv_sub hl [4, 5, 6, 2, 0] rfl) hf
                    · have hf := it_f hf c21
                      refine lv_aload_n hx hb dX11_appends_132 rfl (lv_at hl 5 rfl) ?_
                      refine lv_iconst (v := 2) hx hb dX11_appends_133 rfl ?_
                      obtain ⟨h22, hf⟩ := gdI_some hf
                      refine va_lald hx hb hC.1 hP 2 1 rfl rfl h22 dX11_appends_134 ?_
                      refine lv_l2i hx hb dX11_appends_135 rfl ?_
                      refine lv_aload_n hx hb dX11_appends_136 rfl (lv_at hl 5 rfl) ?_
                      refine lv_iload_n hx hb dX11_appends_137 rfl (lv_at hl 6 rfl) ?_
                      obtain ⟨r23, e23, hf⟩ := bd_some hf
                      refine cr_i (va_runS (As := [.ref a1, .int p2]) (rest := [.int ((r20.2 (2 : Int32).toNatClampNeg).toInt32)]) ⟨hx, hb, hml, hown, hts⟩ (c_X11_many l E a1 r20.2 p2 r23 e23) (va_cwS 2 hts gX11_appends_X11_many rfl rfl rfl hdS_X11_many ⟨Nat.le_of_ble_eq_true rfl, Nat.le_of_ble_eq_true rfl⟩) ⟨PR.blind, PR.pre hC hS (hP.sub [2] rfl)⟩ rfl rfl hl.1 rfl (lv_room (Nat.le_of_ble_eq_true rfl)) dX11_appends_138 ⟨Nat.le_of_ble_eq_true rfl, Nat.le_of_ble_eq_true rfl⟩) ?_
                      refine lv_iconst (v := 1) hx hb dX11_appends_141 rfl ?_
                      refine lv_isub hx hb dX11_appends_142 ?_
                      refine lv_imul hx hb dX11_appends_143 ?_
                      refine lv_iload hx hb dX11_appends_144 (lv_at hl 1 rfl) ?_
                      refine lv_iadd hx hb dX11_appends_146 ?_
                      cases Option.some.inj hf
                      subst hQe
                      exact ew_i (wf := (fun q : (Nat → Int64) => wMR E a0 v0 ++ wLA E a1 340 q)) hx hb hr hlocks hP hD hS dX11_appends_147
                · have hf := it_f hf c18
                  refine lv_aload_n hx hb dX11_appends_96 rfl (lv_at hl 4 rfl) ?_
                  refine lv_iload hx hb dX11_appends_97 (lv_at hl 2 rfl) ?_
                  refine lv_iload hx hb dX11_appends_99 (lv_at hl 0 rfl) ?_
                  obtain ⟨r24, e24, hf⟩ := bd_some hf
                  refine cq_v hP hD hS [2] [0, 1] [0, 1, 2] (va_free (wc := (wLA E a1 340 q9.2)) hD hS hA [2] rfl) (va_runS (As := [.ref a1, .int r7, .int r10]) (rest := []) ⟨hx, hb, hml, hown, hts⟩ (c_X11_pads l E H.size a1 q9.2 r7 r10 r24 e24) (va_cwS 3 hts gX11_appends_X11_pads rfl rfl rfl hdS_X11_pads ⟨Nat.le_of_ble_eq_true rfl, Nat.le_of_ble_eq_true rfl⟩) ⟨PW.blind, PW.pre hC hS (hP.sub [2] rfl) (hD.sub [2] rfl rfl) (va_free hD hS hA [2] rfl)⟩ rfl rfl hl.1 rfl (lv_room (Nat.le_of_ble_eq_true rfl)) dX11_appends_101 ⟨Nat.le_of_ble_eq_true rfl, Nat.le_of_ble_eq_true rfl⟩) rfl rfl rfl rfl (wMR E a0 v0 ++ wLA E a1 340 r24) rfl rfl (fun H locs hP hD hS => ?_)
                  refine lv_aload_n hx hb dX11_appends_104 rfl (lv_at hl 4 rfl) ?_
                  refine lv_iload_n hx hb dX11_appends_105 rfl (lv_at hl 5 rfl) ?_
                  obtain ⟨r25, e25, hf⟩ := bd_some hf
                  refine cq_i hP hD hS [2] [0, 1] [0, 1, 2] (va_free (wc := (wLA E a1 340 r24)) hD hS hA [2] rfl) (va_runS (As := [.ref a1, .int p2]) (rest := []) ⟨hx, hb, hml, hown, hts⟩ (c_X11_makes l E H.size a1 r24 p2 r25 e25) (va_cwS 2 hts gX11_appends_X11_makes rfl rfl rfl hdS_X11_makes ⟨Nat.le_of_ble_eq_true rfl, Nat.le_of_ble_eq_true rfl⟩) ⟨PW.blind, PW.pre hC hS (hP.sub [2] rfl) (hD.sub [2] rfl rfl) (va_free hD hS hA [2] rfl)⟩ rfl rfl hl.1 rfl (lv_room (Nat.le_of_ble_eq_true rfl)) dX11_appends_106 ⟨Nat.le_of_ble_eq_true rfl, Nat.le_of_ble_eq_true rfl⟩) rfl rfl rfl rfl (wMR E a0 v0 ++ wLA E a1 340 r25.2) rfl rfl (fun H locs hP hD hS => ?_)
                  refine lv_istore_n (lv' := [(3, .int r25.1), (6, .int r10), (5, .int r7), (0, .ref (a0 0)), (1, .ref a1), (2, .int p2), (4, .int q3.2.1)]) hx hb dX11_appends_109 rfl hl (by decide) rfl (fun ls hl => ?_)
                  refine lv_goto (tgt := 148) hx hb dX11_appends_110 rfl ?_
                  refine lv_goto (tgt := 32) hx hb dX11_appends_148 rfl ?_
                  exact ih3 (r25.1, q3.2.1, r25.2) H locs hP hD hS ls (lv_sub hl [3, 4, 5, 0, 6] rfl) hf
            have hf := e9
            refine lv_if_eq (tgt := 62) hx hb dX11_appends_55 rfl (fun c26 => ?_) (fun c26 => ?_)
            · have hf := it_t hf c26
              refine lv_aload_n hx hb dX11_appends_62 rfl (lv_at hl 2 rfl) ?_
              refine lv_iload hx hb dX11_appends_63 (lv_at hl 0 rfl) ?_
              obtain ⟨r27, e27, hf⟩ := bd_some hf
              refine cq_i hP hD hS [2] [0, 1] [0, 1, 2] (va_free (wc := (wLA E a1 340 q3.2.2)) hD hS hA [2] rfl) (va_runS (As := [.ref a1, .int r7]) (rest := []) ⟨hx, hb, hml, hown, hts⟩ (c_X11_leases l E H.size a1 q3.2.2 r7 r27 e27) (va_cwS 2 hts gX11_appends_X11_leases rfl rfl rfl hdS_X11_leases ⟨Nat.le_of_ble_eq_true rfl, Nat.le_of_ble_eq_true rfl⟩) ⟨PW.blind, PW.pre hC hS (hP.sub [2] rfl) (hD.sub [2] rfl rfl) (va_free hD hS hA [2] rfl)⟩ rfl rfl hl.1 rfl (lv_room (Nat.le_of_ble_eq_true rfl)) dX11_appends_65 ⟨Nat.le_of_ble_eq_true rfl, Nat.le_of_ble_eq_true rfl⟩) rfl rfl rfl rfl (wMR E a0 v0 ++ wLA E a1 340 r27.2) rfl rfl (fun H locs hP hD hS => ?_)
              cases Option.some.inj hf
              exact J9 H locs hP hD hS
            · have hf := it_f hf c26
              refine lv_iconst (v := 0) hx hb dX11_appends_58 rfl ?_
              refine lv_goto (tgt := 68) hx hb dX11_appends_59 rfl ?_
              cases Option.some.inj hf
              exact J9 H locs hP hD hS
    exact L3 FU (q2.1, (0 : Int32), q2.2) H locs hP hD hS ls (lv_sub hl [2, 3, 4, 1, 0] rfl) hf
  have hf := e2
  refine lv_if_ne (tgt := 16) hx hb dX11_appends_5 rfl (fun c28 => ?_) (fun c28 => ?_)
  · have hf := it_f hf c28
    refine lv_aload_n hx hb dX11_appends_16 rfl (lv_at hl 1 rfl) ?_
    refine lv_iload_n hx hb dX11_appends_17 rfl (lv_at hl 2 rfl) ?_
    refine lv_aload_n hx hb dX11_appends_18 rfl (lv_at hl 1 rfl) ?_
    refine lv_iload_n hx hb dX11_appends_19 rfl (lv_at hl 2 rfl) ?_
    obtain ⟨r29, e29, hf⟩ := bd_some hf
    refine cr_i (va_runS (As := [.ref a1, .int p2]) (rest := [.int p2, .ref a1]) ⟨hx, hb, hml, hown, hts⟩ (c_X11_many l E a1 v1 p2 r29 e29) (va_cwS 2 hts gX11_appends_X11_many rfl rfl rfl hdS_X11_many ⟨Nat.le_of_ble_eq_true rfl, Nat.le_of_ble_eq_true rfl⟩) ⟨PR.blind, PR.pre hC hS (hP.sub [2] rfl)⟩ rfl rfl hl.1 rfl (lv_room (Nat.le_of_ble_eq_true rfl)) dX11_appends_20 ⟨Nat.le_of_ble_eq_true rfl, Nat.le_of_ble_eq_true rfl⟩) ?_
    refine lv_iconst (v := 1) hx hb dX11_appends_23 rfl ?_
    refine lv_isub hx hb dX11_appends_24 ?_
    obtain ⟨r30, e30, hf⟩ := bd_some hf
    refine cq_i hP hD hS [2] [0, 1] [0, 1, 2] (va_free (wc := (wLA E a1 340 v1)) hD hS hA [2] rfl) (va_runS (As := [.ref a1, .int p2, .int (r29 - (1 : Int32))]) (rest := []) ⟨hx, hb, hml, hown, hts⟩ (c_X11_owns l E s.heap.size a1 v1 p2 (r29 - (1 : Int32)) r30 e30) (va_cwS 3 hts gX11_appends_X11_owns rfl rfl rfl hdS_X11_owns ⟨Nat.le_of_ble_eq_true rfl, Nat.le_of_ble_eq_true rfl⟩) ⟨PW.blind, PW.pre hC hS (hP.sub [2] rfl) (hD.sub [2] rfl rfl) (va_free hD hS hA [2] rfl)⟩ rfl rfl hl.1 rfl (lv_room (Nat.le_of_ble_eq_true rfl)) dX11_appends_25 ⟨Nat.le_of_ble_eq_true rfl, Nat.le_of_ble_eq_true rfl⟩) rfl rfl rfl rfl (wMR E a0 v0 ++ wLA E a1 340 r30.2) rfl rfl (fun H locs hP hD hS => ?_)
    cases Option.some.inj hf
    exact J2 H locs hP hD hS
  · have hf := it_t hf c28
    refine lv_aload_n hx hb dX11_appends_8 rfl (lv_at hl 1 rfl) ?_
    refine lv_iload_n hx hb dX11_appends_9 rfl (lv_at hl 2 rfl) ?_
    obtain ⟨r31, e31, hf⟩ := bd_some hf
    refine cq_i hP hD hS [2] [0, 1] [0, 1, 2] (va_free (wc := (wLA E a1 340 v1)) hD hS hA [2] rfl) (va_runS (As := [.ref a1, .int p2]) (rest := []) ⟨hx, hb, hml, hown, hts⟩ (c_X11_makes l E s.heap.size a1 v1 p2 r31 e31) (va_cwS 2 hts gX11_appends_X11_makes rfl rfl rfl hdS_X11_makes ⟨Nat.le_of_ble_eq_true rfl, Nat.le_of_ble_eq_true rfl⟩) ⟨PW.blind, PW.pre hC hS (hP.sub [2] rfl) (hD.sub [2] rfl rfl) (va_free hD hS hA [2] rfl)⟩ rfl rfl hl.1 rfl (lv_room (Nat.le_of_ble_eq_true rfl)) dX11_appends_10 ⟨Nat.le_of_ble_eq_true rfl, Nat.le_of_ble_eq_true rfl⟩) rfl rfl rfl rfl (wMR E a0 v0 ++ wLA E a1 340 r31.2) rfl rfl (fun H locs hP hD hS => ?_)
    refine lv_goto (tgt := 28) hx hb dX11_appends_13 rfl ?_
    cases Option.some.inj hf
    exact J2 H locs hP hD hS
