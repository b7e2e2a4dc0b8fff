/-! X4_strengthOf -/
abbrev rmX4_strengthOf : Room := { frames := 4, cells := 0, slots := 0, locals := 90 }
theorem hdS_X4_strengthOf : yX4_strengthOf.cls ≠ "java/lang/invoke/MethodHandle" ∧ yX4_strengthOf.cls ≠ "java/lang/invoke/VarHandle" ∧ (parseMethodDescriptor yX4_strengthOf.desc).map (fun d => d.parameters.length) = some 2 := by decide +kernel
set_option maxHeartbeats 4000000 in
set_option maxRecDepth 100000 in
theorem c_X4_strengthOf (l : Launch) (E : G0) (a0 : Nat → Nat) (v0 : HS) (p1 : Int32) (x : Int32) (hf : f_X4_strengthOf v0 p1 = some x) : Met l yX4_strengthOf wsX4_strengthOf rmX4_strengthOf (va_Pc [.ref (a0 0), .int p1] (PR E (wHS E a0 v0))) (vp_Si (fun r => r = x)) 0 0 (fun _ => False) := by
  refine Met.ofW (cc := cX4_strengthOf) (maxL := 6) (ret := some .int) (by decide) rfl ?_
  intro p e s m args below meth c s₁ B hml hv
  obtain ⟨ha, hP, hC⟩ := hv
  have hx := B.exec
  have hb := B.bytes
  have hr := B.returns
  have hts := atoms_spec (ws := wsX4_strengthOf) B.pre
  have hown : s.vm.findClass RX4 = some m.cls := findClass_of_methodNamed B.named
  have hlocks := B.notSynchronized
  have hS : va_S (fun _ => False) s.heap s.heap [] := va_S.rf
  have w1 : (Cond.constant RX4 9 (-1000000)).before args s = true := hts _ (List.mem_of_getElem? (i := 1) rfl)
  have w2 : (Cond.fieldLink RX4 10 "GreatChunks$House" "files" "LGreatChunks$Files;").before args s = true := hts _ (List.mem_of_getElem? (i := 2) rfl)
  have w3 : ∀ w ∈ wsX50, w ∈ wsX4_strengthOf := in_pl 57 rfl
  have w4 : (Cond.methodLink RX4 31 Lib.Math.min.name).before args s = true := hts _ (List.mem_of_getElem? (i := 3) rfl)
  have w5 : (Cond.static Lib.Math.min.name).before args s = true := hts _ (List.mem_of_getElem? (i := 4) rfl)
  have w6 : (Cond.initialized "java/lang/Math").before args s = true := hts _ (List.mem_of_getElem? (i := 5) rfl)
  have w7 : (Cond.code Lib.Math.min.name Lib.Math.min.code 2 (some .int)).before args s = true := hts _ (List.mem_of_getElem? (i := 6) rfl)
  generalize hQe : MQ below (vp_Si (fun r => r = x)) args s 0 0 (fun _ => False) = Q
  refine st_W ha (Nat.le_of_ble_eq_true rfl) (fun ls hl => ?_)
  have hl : lv_has ls 6 [(0, .ref (a0 0)), (1, .int p1)] := hl
  unfold f_X4_strengthOf at hf
  refine lv_ldc hx hb hown w1 dX4_strengthOf_0 ?_
  refine lv_istore_n (lv' := [(2, .int ((-1000000) : Int32)), (0, .ref (a0 0)), (1, .int p1)]) hx hb dX4_strengthOf_2 rfl hl (by decide) rfl (fun ls hl => ?_)
  refine lv_iconst (v := 0) hx hb dX4_strengthOf_3 rfl ?_
  refine lv_istore_n (lv' := [(3, .int (0 : Int32)), (2, .int ((-1000000) : Int32)), (0, .ref (a0 0)), (1, .int p1)]) hx hb dX4_strengthOf_4 rfl hl (by decide) rfl (fun ls hl => ?_)
  obtain ⟨K1, hK1, hf⟩ := jn_some hf
  have J1 : ∀ (q1 : Int32 × Int32) (ls : Array Slot) (hl : lv_has ls 6 [(2, .int q1.1)]) (hf : K1 q1 = some x), W p l e (headSpec wsX4_strengthOf rmX4_strengthOf).room s m args below meth c s.heap [] 0 0 Q (F0 m 62 ls []) := by
    intro q1 ls hl hf
    have hf := (hK1 q1).trans hf
    refine lv_iload_n hx hb dX4_strengthOf_62 rfl (lv_at hl 0 rfl) ?_
    refine lv_ldc hx hb hown w1 dX4_strengthOf_63 ?_
    refine lv_icmp_eq (tgt := 72) hx hb dX4_strengthOf_65 rfl (fun c2 => ?_) (fun c2 => ?_)
    · have hf := it_t hf c2
      refine lv_ldc hx hb hown w1 dX4_strengthOf_72 ?_
      refine lv_goto (tgt := 80) hx hb dX4_strengthOf_74 rfl ?_
      cases Option.some.inj hf
      subst hQe
      exact en_i hx hb hr hlocks dX4_strengthOf_80
    · have hf := it_f hf c2
      refine lv_iload_n hx hb dX4_strengthOf_68 rfl (lv_at hl 0 rfl) ?_
      refine lv_if_ne (tgt := 77) hx hb dX4_strengthOf_69 rfl (fun c3 => ?_) (fun c3 => ?_)
      · have hf := it_f hf c3
        refine lv_iload_n hx hb dX4_strengthOf_77 rfl (lv_at hl 0 rfl) ?_
        refine lv_iconst (v := 1) hx hb dX4_strengthOf_78 rfl ?_
        refine lv_isub hx hb dX4_strengthOf_79 ?_
        cases Option.some.inj hf
        subst hQe
        exact en_i hx hb hr hlocks dX4_strengthOf_80
      · have hf := it_t hf c3
        refine lv_ldc hx hb hown w1 dX4_strengthOf_72 ?_
        refine lv_goto (tgt := 80) hx hb dX4_strengthOf_74 rfl ?_
        cases Option.some.inj hf
        subst hQe
        exact en_i hx hb hr hlocks dX4_strengthOf_80
  have L1 : ∀ (n : Nat) (q1 : Int32 × Int32) (ls : Array Slot) (hl : lv_has ls 6 [(0, .ref (a0 0)), (1, .int p1), (2, .int q1.1), (3, .int q1.2)]) (hf : lpF (bX4_strengthOf_1 v0 p1 K1) n q1 = some x), W p l e (headSpec wsX4_strengthOf rmX4_strengthOf).room s m args below meth c s.heap [] 0 0 Q (F0 m 5 ls []) := by
    intro n
    induction n with
    | zero => intro q1 ls hl hf; exact (lpF_zero hf).elim
    | succ n ih1 =>
      intro q1 ls hl hf
      have hf := lpF_succ hf
      unfold bX4_strengthOf_1 at hf
      refine lv_iload_n hx hb dX4_strengthOf_5 rfl (lv_at hl 3 rfl) ?_
      refine lv_iconst (v := 4) hx hb dX4_strengthOf_6 rfl ?_
      refine lv_icmp_ge (tgt := 62) hx hb dX4_strengthOf_7 rfl (fun c4 => ?_) (fun c4 => ?_)
      · have hf := it_t hf c4
        exact J1 (q1.1, q1.2) ls (lv_sub hl [2] rfl) hf
      · have hf := it_f hf c4
        refine lv_aload_n hx hb dX4_strengthOf_10 rfl (lv_at hl 0 rfl) ?_
        refine va_get (D := E.1) (ci := 4) (v := .ref (a0 13)) (C := RX5) (T := TX5) (N := 9) hx hb hts w3 hown hC.1 hP 0 rfl rfl 8 (by decide) w2 (fun _ h9 => h9) rfl dX4_strengthOf_11 ?_
        refine lv_iload_n hx hb dX4_strengthOf_14 rfl (lv_at hl 1 rfl) ?_
        refine lv_iload_n hx hb dX4_strengthOf_15 rfl (lv_at hl 3 rfl) ?_
        obtain ⟨r5, e5, hf⟩ := bd_some hf
        refine cr_i (va_runV (As := [.int p1, .int q1.2]) (rest := []) ⟨hx, hb, hml, hown, hts⟩ (c_X3_chunkOf l E (fun k => a0 (k + 13)) v0.2.2.2.2.2.2.2.2 p1 q1.2 r5 e5) (cwV 2 hts gX4_strengthOf_X3_chunkOf rfl rfl rfl hdV_X3_chunkOf ⟨Nat.le_of_ble_eq_true rfl, Nat.le_of_ble_eq_true rfl⟩) ⟨PR.blind, va_recv hC.1 hP (ci := 3) (q0 := 13) rfl rfl, PR.pre hC hS (hP.sub [13, 14, 15, 16, 17, 18] rfl)⟩ rfl rfl hl.1 rfl (lv_room (Nat.le_of_ble_eq_true rfl)) dX4_strengthOf_16 ⟨Nat.le_of_ble_eq_true rfl, Nat.le_of_ble_eq_true rfl⟩) ?_
        refine lv_istore (lv' := [(4, .int r5), (0, .ref (a0 0)), (1, .int p1), (2, .int q1.1), (3, .int q1.2)]) hx hb dX4_strengthOf_19 hl (by decide) rfl (fun ls hl => ?_)
        refine lv_iload hx hb dX4_strengthOf_21 (lv_at hl 0 rfl) ?_
        refine lv_iconst (v := (-1)) hx hb dX4_strengthOf_23 rfl ?_
        refine lv_icmp_eq (tgt := 56) hx hb dX4_strengthOf_24 rfl (fun c6 => ?_) (fun c6 => ?_)
        · have hf := it_t hf c6
          refine lv_iinc (v := (q1.2 + 1)) (lv' := [(3, .int (q1.2 + 1)), (4, .int r5), (0, .ref (a0 0)), (1, .int p1), (2, .int q1.1)]) hx hb dX4_strengthOf_56 hl (k := 4) rfl rfl (by decide) rfl (fun ls hl => ?_)
          refine lv_goto (tgt := 5) hx hb dX4_strengthOf_59 rfl ?_
          exact ih1 (q1.1, (q1.2 + 1)) ls (lv_sub hl [2, 3, 4, 0] rfl) hf
        · have hf := it_f hf c6
          refine lv_aload_n hx hb dX4_strengthOf_27 rfl (lv_at hl 1 rfl) ?_
          refine lv_iload hx hb dX4_strengthOf_28 (lv_at hl 0 rfl) ?_
          obtain ⟨r7, e7, hf⟩ := bd_some hf
          refine cr_i (va_runV (As := [.int r5]) (rest := []) ⟨hx, hb, hml, hown, hts⟩ (c_X5_able l E a0 v0 r5 r7 e7) (cwV 1 hts gX4_strengthOf_X5_able rfl rfl rfl hdV_X5_able ⟨Nat.le_of_ble_eq_true rfl, Nat.le_of_ble_eq_true rfl⟩) ⟨PR.blind, va_recv hC.1 hP (ci := 4) (q0 := 0) rfl rfl, PR.pre hC hS hP⟩ rfl rfl hl.1 rfl (lv_room (Nat.le_of_ble_eq_true rfl)) dX4_strengthOf_30 ⟨Nat.le_of_ble_eq_true rfl, Nat.le_of_ble_eq_true rfl⟩) ?_
          refine cr_i (va_runS (As := [.int r7]) (rest := []) ⟨hx, hb, hml, hown, hts⟩ (c_J6_bitCount_0f7a4 l E r7 _ rfl) (va_cwS 1 hts gX4_strengthOf_J6_bitCount_0f7a4 rfl rfl rfl hdS_J6_bitCount_0f7a4 ⟨Nat.le_of_ble_eq_true rfl, Nat.le_of_ble_eq_true rfl⟩) ⟨PR.blind, PR.pre hC hS (hP.sub [] rfl)⟩ rfl rfl hl.1 rfl (lv_room (Nat.le_of_ble_eq_true rfl)) dX4_strengthOf_33 ⟨Nat.le_of_ble_eq_true rfl, Nat.le_of_ble_eq_true rfl⟩) ?_
          refine lv_istore (lv' := [(5, .int (f_J6_bitCount_0f7a4 r7)), (4, .int r5), (0, .ref (a0 0)), (1, .int p1), (2, .int q1.1), (3, .int q1.2)]) hx hb dX4_strengthOf_36 hl (by decide) rfl (fun ls hl => ?_)
          refine lv_iload_n hx hb dX4_strengthOf_38 rfl (lv_at hl 4 rfl) ?_
          refine lv_ldc hx hb hown w1 dX4_strengthOf_39 ?_
          refine lv_icmp_ne (tgt := 49) hx hb dX4_strengthOf_41 rfl (fun c8 => ?_) (fun c8 => ?_)
          · have hf := it_f hf c8
            refine lv_iload_n hx hb dX4_strengthOf_49 rfl (lv_at hl 4 rfl) ?_
            refine lv_iload hx hb dX4_strengthOf_50 (lv_at hl 0 rfl) ?_
            refine va_mmin hx hb (by rw [hml]; exact hl.1.symm) hown w4 w5 w6 w7 (Nat.le_of_ble_eq_true rfl) (Nat.le_of_ble_eq_true rfl) (Nat.le_of_ble_eq_true rfl) (Nat.le_of_ble_eq_true rfl) dX4_strengthOf_52 ?_
            refine lv_istore_n (lv' := [(2, .int (if (f_J6_bitCount_0f7a4 r7) < q1.1 then (f_J6_bitCount_0f7a4 r7) else q1.1)), (5, .int (f_J6_bitCount_0f7a4 r7)), (4, .int r5), (0, .ref (a0 0)), (1, .int p1), (3, .int q1.2)]) hx hb dX4_strengthOf_55 rfl hl (by decide) rfl (fun ls hl => ?_)
            refine lv_iinc (v := (q1.2 + 1)) (lv' := [(3, .int (q1.2 + 1)), (2, .int (if (f_J6_bitCount_0f7a4 r7) < q1.1 then (f_J6_bitCount_0f7a4 r7) else q1.1)), (5, .int (f_J6_bitCount_0f7a4 r7)), (4, .int r5), (0, .ref (a0 0)), (1, .int p1)]) hx hb dX4_strengthOf_56 hl (k := 5) rfl rfl (by decide) rfl (fun ls hl => ?_)
            refine lv_goto (tgt := 5) hx hb dX4_strengthOf_59 rfl ?_
            exact ih1 ((if (f_J6_bitCount_0f7a4 r7) < q1.1 then (f_J6_bitCount_0f7a4 r7) else q1.1), (q1.2 + 1)) ls (lv_sub hl [4, 5, 1, 0] rfl) hf
          · have hf := it_t hf c8
            refine lv_iload hx hb dX4_strengthOf_44 (lv_at hl 0 rfl) ?_
            refine lv_goto (tgt := 55) hx hb dX4_strengthOf_46 rfl ?_
            refine lv_istore_n (lv' := [(2, .int (f_J6_bitCount_0f7a4 r7)), (5, .int (f_J6_bitCount_0f7a4 r7)), (4, .int r5), (0, .ref (a0 0)), (1, .int p1), (3, .int q1.2)]) hx hb dX4_strengthOf_55 rfl hl (by decide) rfl (fun ls hl => ?_)
            refine lv_iinc (v := (q1.2 + 1)) (lv' := [(3, .int (q1.2 + 1)), (2, .int (f_J6_bitCount_0f7a4 r7)), (5, .int (f_J6_bitCount_0f7a4 r7)), (4, .int r5), (0, .ref (a0 0)), (1, .int p1)]) hx hb dX4_strengthOf_56 hl (k := 5) rfl rfl (by decide) rfl (fun ls hl => ?_)
            refine lv_goto (tgt := 5) hx hb dX4_strengthOf_59 rfl ?_
            exact ih1 ((f_J6_bitCount_0f7a4 r7), (q1.2 + 1)) ls (lv_sub hl [4, 5, 1, 0] rfl) hf
  exact L1 FU (((-1000000) : Int32), (0 : Int32)) ls (lv_sub hl [2, 3, 1, 0] rfl) hf

/-! X4_mendAll -/
abbrev rmX4_mendAll : Room := { frames := 6, cells := 0, slots := 0, locals := 135 }
theorem hdS_X4_mendAll : yX4_mendAll.cls ≠ "java/lang/invoke/MethodHandle" ∧ yX4_mendAll.cls ≠ "java/lang/invoke/VarHandle" ∧ (parseMethodDescriptor yX4_mendAll.desc).map (fun d => d.parameters.length) = some 1 := by decide +kernel
set_option maxHeartbeats 4000000 in
set_option maxRecDepth 100000 in
theorem c_X4_mendAll (l : Launch) (E : G0) (sz : Nat) (a0 : Nat → Nat) (v0 : HS) (x : Int32 × HS) (hf : f_X4_mendAll v0 = some x) : Met l yX4_mendAll wsX4_mendAll rmX4_mendAll (va_Pc [.ref (a0 0)] (PW E (wHS E a0 v0) sz)) (va_Qi (fun r q => r = x.1 ∧ q = x.2) (fun q t => va_P E.1 vwCl ((fun q : HS => wHS E a0 q) q) t.heap ∧ va_D (va_A (wHS E a0 v0) sz) ((fun q : HS => wHS E a0 q) q)) (va_A (wHS E a0 v0) sz)) 0 0 (va_A (wHS E a0 v0) sz) := by
  refine Met.ofW (cc := cX4_mendAll) (maxL := 4) (ret := some .int) (by decide) rfl ?_
  intro p e s m args below meth c s₁ B hml hv
  obtain ⟨ha, hsz, hP, hD0, hC⟩ := hv
  have hx := B.exec
  have hb := B.bytes
  have hr := B.returns
  have hts := atoms_spec (ws := wsX4_mendAll) B.pre
  have hown : s.vm.findClass RX4 = some m.cls := findClass_of_methodNamed B.named
  have hlocks := B.notSynchronized
  subst hsz
  have hD := hD0.self (sz := s.heap.size)
  generalize hAe : va_A (wHS E a0 v0) s.heap.size = A at hD hC ⊢
  have hA : ∀ q : Nat, s.heap.size ≤ q → A q := fun q h => by rw [← hAe]; exact Or.inr h
  have hS : va_S A s.heap s.heap [] := va_S.rf
  have w1 : (Cond.fieldLink RX4 36 "GreatChunks$House" "chunks" "LGreatChunks$Chunks;").before args s = true := hts _ (List.mem_of_getElem? (i := 1) rfl)
  have w2 : ∀ w ∈ wsX50, w ∈ wsX4_mendAll := in_pl 146 rfl
  have w3 : (Cond.fieldLink RX4 40 "GreatChunks$Chunks" "made" "I").before args s = true := hts _ (List.mem_of_getElem? (i := 2) rfl)
  have w4 : ∀ w ∈ wsX10, w ∈ wsX4_mendAll := in_pl 155 rfl
  generalize hQe : MQ below (va_Qi (fun r q => r = x.1 ∧ q = x.2) (fun q t => va_P E.1 vwCl ((fun q : HS => wHS E a0 q) q) t.heap ∧ va_D A ((fun q : HS => wHS E a0 q) q)) A) args s 0 0 A = Q
  refine st_W ha (Nat.le_of_ble_eq_true rfl) (fun ls hl => ?_)
  have hl : lv_has ls 4 [(0, .ref (a0 0))] := hl
  unfold f_X4_mendAll at hf
  refine lv_iconst (v := 0) hx hb dX4_mendAll_0 rfl ?_
  refine lv_istore_n (lv' := [(1, .int (0 : Int32)), (0, .ref (a0 0))]) hx hb dX4_mendAll_1 rfl hl (by decide) rfl (fun ls hl => ?_)
  refine lv_iconst (v := 0) hx hb dX4_mendAll_2 rfl ?_
  refine lv_istore_n (lv' := [(2, .int (0 : Int32)), (1, .int (0 : Int32)), (0, .ref (a0 0))]) hx hb dX4_mendAll_3 rfl hl (by decide) rfl (fun ls hl => ?_)
  obtain ⟨K1, hK1, hf⟩ := jn_some hf
  have J1 : ∀ (q1 : Int32 × Int32 × HS) (H : Heap) (locs : List Loc) (hP : va_P E.1 vwCl (wHS E a0 q1.2.2) H) (hD : va_D A (wHS E a0 q1.2.2)) (hS : va_S A s.heap H locs) (ls : Array Slot) (hl : lv_has ls 4 [(1, .int q1.1)]) (hf : K1 q1 = some x), W p l e (headSpec wsX4_mendAll rmX4_mendAll).room s m args below meth c H locs 0 0 Q (F0 m 50 ls []) := by
    intro q1 H locs hP hD hS ls hl hf
    have hf := (hK1 q1).trans hf
    refine lv_iload_n hx hb dX4_mendAll_50 rfl (lv_at hl 0 rfl) ?_
    cases Option.some.inj hf
    subst hQe
    exact ew_i (wf := (fun q : HS => wHS E a0 q)) hx hb hr hlocks hP hD hS dX4_mendAll_51
  have L1 : ∀ (n : Nat) (q1 : Int32 × Int32 × HS) (H : Heap) (locs : List Loc) (hP : va_P E.1 vwCl (wHS E a0 q1.2.2) H) (hD : va_D A (wHS E a0 q1.2.2)) (hS : va_S A s.heap H locs) (ls : Array Slot) (hl : lv_has ls 4 [(0, .ref (a0 0)), (1, .int q1.1), (2, .int q1.2.1)]) (hf : lpF (bX4_mendAll_1 K1) n q1 = some x), W p l e (headSpec wsX4_mendAll rmX4_mendAll).room s m args below meth c H locs 0 0 Q (F0 m 4 ls []) := by
    intro n
    induction n with
    | zero => intro q1 H locs hP hD hS ls hl hf; exact (lpF_zero hf).elim
    | succ n ih1 =>
      intro q1 H locs hP hD hS ls hl hf
      have hf := lpF_succ hf
      unfold bX4_mendAll_1 at hf
      refine lv_iload_n hx hb dX4_mendAll_4 rfl (lv_at hl 2 rfl) ?_
      refine lv_aload_n hx hb dX4_mendAll_5 rfl (lv_at hl 0 rfl) ?_
      refine va_get (D := E.1) (ci := 4) (v := .ref (a0 4)) (C := RX5) (T := TX5) (N := 9) hx hb hts w2 hown hC.1 hP 0 rfl rfl 6 (by decide) w1 (fun _ h9 => h9) rfl dX4_mendAll_6 ?_
      refine va_get (D := E.1) (ci := 1) (v := .int q1.2.2.2.2.2.2.2.2.1.1) (C := RX1) (T := TX1) (N := 5) hx hb hts w4 hown hC.1 hP 4 rfl rfl 0 (by decide) w3 (fun _ h9 => h9) rfl dX4_mendAll_9 ?_
      refine lv_icmp_ge (tgt := 50) hx hb dX4_mendAll_12 rfl (fun c2 => ?_) (fun c2 => ?_)
      · have hf := it_t hf c2
        exact J1 (q1.1, q1.2.1, q1.2.2) H locs hP hD hS ls (lv_sub hl [1] rfl) hf
      · have hf := it_f hf c2
        refine lv_iconst (v := 0) hx hb dX4_mendAll_15 rfl ?_
        refine lv_istore_n (lv' := [(3, .int (0 : Int32)), (0, .ref (a0 0)), (1, .int q1.1), (2, .int q1.2.1)]) hx hb dX4_mendAll_16 rfl hl (by decide) rfl (fun ls hl => ?_)
        obtain ⟨K3, hK3, hf⟩ := jn_some hf
        have J3 : ∀ (q3 : Int32 × Int32 × HS) (H : Heap) (locs : List Loc) (hP : va_P E.1 vwCl (wHS E a0 q3.2.2) H) (hD : va_D A (wHS E a0 q3.2.2)) (hS : va_S A s.heap H locs) (ls : Array Slot) (hl : lv_has ls 4 [(0, .ref (a0 0)), (1, .int q3.1), (2, .int q1.2.1)]) (hf : K3 q3 = some x), W p l e (headSpec wsX4_mendAll rmX4_mendAll).room s m args below meth c H locs 0 0 Q (F0 m 44 ls []) := by
          intro q3 H locs hP hD hS ls hl hf
          have hf := (hK3 q3).trans hf
          refine lv_iinc (v := (q1.2.1 + 1)) (lv' := [(2, .int (q1.2.1 + 1)), (0, .ref (a0 0)), (1, .int q3.1)]) hx hb dX4_mendAll_44 hl (k := 2) rfl rfl (by decide) rfl (fun ls hl => ?_)
          refine lv_goto (tgt := 4) hx hb dX4_mendAll_47 rfl ?_
          exact ih1 (q3.1, (q1.2.1 + 1), q3.2.2) H locs hP hD hS ls (lv_sub hl [1, 2, 0] rfl) hf
        have L3 : ∀ (n : Nat) (q3 : Int32 × Int32 × HS) (H : Heap) (locs : List Loc) (hP : va_P E.1 vwCl (wHS E a0 q3.2.2) H) (hD : va_D A (wHS E a0 q3.2.2)) (hS : va_S A s.heap H locs) (ls : Array Slot) (hl : lv_has ls 4 [(0, .ref (a0 0)), (1, .int q3.1), (2, .int q1.2.1), (3, .int q3.2.1)]) (hf : lpF (bX4_mendAll_3 q1 K3) n q3 = some x), W p l e (headSpec wsX4_mendAll rmX4_mendAll).room s m args below meth c H locs 0 0 Q (F0 m 17 ls []) := by
          intro n
          induction n with
          | zero => intro q3 H locs hP hD hS ls hl hf; exact (lpF_zero hf).elim
          | succ n ih3 =>
            intro q3 H locs hP hD hS ls hl hf
            have hf := lpF_succ hf
            unfold bX4_mendAll_3 at hf
            refine lv_iload_n hx hb dX4_mendAll_17 rfl (lv_at hl 3 rfl) ?_
            refine lv_iconst (v := 5) hx hb dX4_mendAll_18 rfl ?_
            refine lv_icmp_ge (tgt := 44) hx hb dX4_mendAll_19 rfl (fun c4 => ?_) (fun c4 => ?_)
            · have hf := it_t hf c4
              exact J3 (q3.1, q3.2.1, q3.2.2) H locs hP hD hS ls (lv_sub hl [0, 1, 2] rfl) hf
            · have hf := it_f hf c4
              refine lv_aload_n hx hb dX4_mendAll_22 rfl (lv_at hl 0 rfl) ?_
              refine lv_iload_n hx hb dX4_mendAll_23 rfl (lv_at hl 2 rfl) ?_
              obtain ⟨r5, e5, hf⟩ := bd_some hf
              refine cr_i (va_runV (As := [.int q1.2.1]) (rest := []) ⟨hx, hb, hml, hown, hts⟩ (c_X5_lacksCopy l E a0 q3.2.2 q1.2.1 r5 e5) (cwV 1 hts gX4_mendAll_X5_lacksCopy rfl rfl rfl hdV_X5_lacksCopy ⟨Nat.le_of_ble_eq_true rfl, Nat.le_of_ble_eq_true rfl⟩) ⟨PR.blind, va_recv hC.1 hP (ci := 4) (q0 := 0) rfl rfl, PR.pre hC hS hP⟩ rfl rfl hl.1 rfl (lv_room (Nat.le_of_ble_eq_true rfl)) dX4_mendAll_24 ⟨Nat.le_of_ble_eq_true rfl, Nat.le_of_ble_eq_true rfl⟩) ?_
              refine lv_if_eq (tgt := 44) hx hb dX4_mendAll_27 rfl (fun c6 => ?_) (fun c6 => ?_)
              · have hf := it_t hf c6
                exact J3 (q3.1, q3.2.1, q3.2.2) H locs hP hD hS ls (lv_sub hl [0, 1, 2] rfl) hf
              · have hf := it_f hf c6
                refine lv_aload_n hx hb dX4_mendAll_30 rfl (lv_at hl 0 rfl) ?_
                refine lv_iload_n hx hb dX4_mendAll_31 rfl (lv_at hl 2 rfl) ?_
                obtain ⟨r7, e7, hf⟩ := bd_some hf
                refine cq_v hP hD hS [0, 1, 2, 3, 4, 5, 6, 7, 8, 9, 10, 11, 12, 13, 14, 15, 16, 17, 18] [] [0, 1, 2, 3, 4, 5, 6, 7, 8, 9, 10, 11, 12, 13, 14, 15, 16, 17, 18] (va_free (wc := (wHS E a0 q3.2.2)) hD hS hA [0, 1, 2, 3, 4, 5, 6, 7, 8, 9, 10, 11, 12, 13, 14, 15, 16, 17, 18] rfl) (va_runV (As := [.int q1.2.1]) (rest := []) ⟨hx, hb, hml, hown, hts⟩ (c_X5_addCopy l E H.size a0 q3.2.2 q1.2.1 r7 e7) (cwV 1 hts gX4_mendAll_X5_addCopy rfl rfl rfl hdV_X5_addCopy ⟨Nat.le_of_ble_eq_true rfl, Nat.le_of_ble_eq_true rfl⟩) ⟨PW.blind, va_recv hC.1 hP (ci := 4) (q0 := 0) rfl rfl, PW.pre hC hS hP hD (va_free hD hS hA [0, 1, 2, 3, 4, 5, 6, 7, 8, 9, 10, 11, 12, 13, 14, 15, 16, 17, 18] rfl)⟩ rfl rfl hl.1 rfl (lv_room (Nat.le_of_ble_eq_true rfl)) dX4_mendAll_32 ⟨Nat.le_of_ble_eq_true rfl, Nat.le_of_ble_eq_true rfl⟩) rfl rfl rfl rfl (wHS E a0 r7) rfl rfl (fun H locs hP hD hS => ?_)
                refine lv_iinc (v := (q3.1 + 1)) (lv' := [(1, .int (q3.1 + 1)), (0, .ref (a0 0)), (2, .int q1.2.1), (3, .int q3.2.1)]) hx hb dX4_mendAll_35 hl (k := 1) rfl rfl (by decide) rfl (fun ls hl => ?_)
                refine lv_iinc (v := (q3.2.1 + 1)) (lv' := [(3, .int (q3.2.1 + 1)), (1, .int (q3.1 + 1)), (0, .ref (a0 0)), (2, .int q1.2.1)]) hx hb dX4_mendAll_38 hl (k := 3) rfl rfl (by decide) rfl (fun ls hl => ?_)
                refine lv_goto (tgt := 17) hx hb dX4_mendAll_41 rfl ?_
                exact ih3 ((q3.1 + 1), (q3.2.1 + 1), r7) H locs hP hD hS ls (lv_sub hl [2, 1, 3, 0] rfl) hf
        exact L3 FU (q1.1, (0 : Int32), q1.2.2) H locs hP hD hS ls (lv_sub hl [1, 2, 3, 0] rfl) hf
  exact L1 FU ((0 : Int32), (0 : Int32), v0) s.heap [] hP hD hS ls (lv_sub hl [2, 1, 0] rfl) hf

/-! X4_allCases -/
abbrev rmX4_allCases : Room := { frames := 2, cells := 0, slots := 0, locals := 42 }
theorem hdS_X4_allCases : yX4_allCases.cls ≠ "java/lang/invoke/MethodHandle" ∧ yX4_allCases.cls ≠ "java/lang/invoke/VarHandle" ∧ (parseMethodDescriptor yX4_allCases.desc).map (fun d => d.parameters.length) = some 1 := by decide +kernel
set_option maxHeartbeats 4000000 in
set_option maxRecDepth 100000 in
theorem c_X4_allCases (l : Launch) (E : G0) (a0 : Nat → Nat) (v0 : HS) (x : Int64) (hf : f_X4_allCases v0 = some x) : Met l yX4_allCases wsX4_allCases rmX4_allCases (va_Pc [.ref (a0 0)] (PR E (wHS E a0 v0))) (vp_Sl (fun r => r = x)) 0 0 (fun _ => False) := by
  refine Met.ofW (cc := cX4_allCases) (maxL := 4) (ret := some .long) (by decide) rfl ?_
  intro p e s m args below meth c s₁ B hml hv
  obtain ⟨ha, hP, hC⟩ := hv
  have hx := B.exec
  have hb := B.bytes
  have hr := B.returns
  have hts := atoms_spec (ws := wsX4_allCases) B.pre
  have hown : s.vm.findClass RX4 = some m.cls := findClass_of_methodNamed B.named
  have hlocks := B.notSynchronized
  have hS : va_S (fun _ => False) s.heap s.heap [] := va_S.rf
  have w1 : (Cond.fieldLink RX4 54 "GreatChunks$House" "servers" "LGreatChunks$Servers;").before args s = true := hts _ (List.mem_of_getElem? (i := 1) rfl)
  have w2 : ∀ w ∈ wsX50, w ∈ wsX4_allCases := in_pl 18 rfl
  have w3 : (Cond.fieldLink RX4 58 "GreatChunks$Servers" "many" "I").before args s = true := hts _ (List.mem_of_getElem? (i := 2) rfl)
  have w4 : ∀ w ∈ wsX80, w ∈ wsX4_allCases := in_pl 27 rfl
  have w5 : (Cond.constantLong RX4 68 (10)).before args s = true := hts _ (List.mem_of_getElem? (i := 3) rfl)
  generalize hQe : MQ below (vp_Sl (fun r => r = x)) args s 0 0 (fun _ => False) = Q
  refine st_W ha (Nat.le_of_ble_eq_true rfl) (fun ls hl => ?_)
  have hl : lv_has ls 4 [(0, .ref (a0 0))] := hl
  unfold f_X4_allCases at hf
  refine lv_lconst (v := 1) hx hb dX4_allCases_0 rfl ?_
  refine lv_lstore_n (lv' := [(1, .long (1 : Int64)), (0, .ref (a0 0))]) hx hb dX4_allCases_1 rfl hl (by decide) rfl (fun ls hl => ?_)
  refine lv_iconst (v := 0) hx hb dX4_allCases_2 rfl ?_
  refine lv_istore_n (lv' := [(3, .int (0 : Int32)), (1, .long (1 : Int64)), (0, .ref (a0 0))]) hx hb dX4_allCases_3 rfl hl (by decide) rfl (fun ls hl => ?_)
  obtain ⟨K1, hK1, hf⟩ := jn_some hf
  have J1 : ∀ (q1 : Int64 × Int32) (ls : Array Slot) (hl : lv_has ls 4 [(1, .long q1.1)]) (hf : K1 q1 = some x), W p l e (headSpec wsX4_allCases rmX4_allCases).room s m args below meth c s.heap [] 0 0 Q (F0 m 42 ls []) := by
    intro q1 ls hl hf
    have hf := (hK1 q1).trans hf
    refine lv_lload_n hx hb dX4_allCases_42 rfl (lv_at hl 0 rfl) ?_
    cases Option.some.inj hf
    subst hQe
    exact en_l hx hb hr hlocks dX4_allCases_43
  have L1 : ∀ (n : Nat) (q1 : Int64 × Int32) (ls : Array Slot) (hl : lv_has ls 4 [(0, .ref (a0 0)), (1, .long q1.1), (3, .int q1.2)]) (hf : lpF (bX4_allCases_1 v0 K1) n q1 = some x), W p l e (headSpec wsX4_allCases rmX4_allCases).room s m args below meth c s.heap [] 0 0 Q (F0 m 4 ls []) := by
    intro n
    induction n with
    | zero => intro q1 ls hl hf; exact (lpF_zero hf).elim
    | succ n ih1 =>
      intro q1 ls hl hf
      have hf := lpF_succ hf
      unfold bX4_allCases_1 at hf
      refine lv_iload_n hx hb dX4_allCases_4 rfl (lv_at hl 2 rfl) ?_
      refine lv_aload_n hx hb dX4_allCases_5 rfl (lv_at hl 0 rfl) ?_
      refine va_get (D := E.1) (ci := 4) (v := .ref (a0 1)) (C := RX5) (T := TX5) (N := 9) hx hb hts w2 hown hC.1 hP 0 rfl rfl 5 (by decide) w1 (fun _ h9 => h9) rfl dX4_allCases_6 ?_
      refine va_get (D := E.1) (ci := 6) (v := .int v0.2.2.2.2.2.1.1) (C := RX8) (T := TX8) (N := 4) hx hb hts w4 hown hC.1 hP 1 rfl rfl 0 (by decide) w3 (fun _ h9 => h9) rfl dX4_allCases_9 ?_
      refine lv_icmp_ge (tgt := 42) hx hb dX4_allCases_12 rfl (fun c2 => ?_) (fun c2 => ?_)
      · have hf := it_t hf c2
        exact J1 (q1.1, q1.2) ls (lv_sub hl [1] rfl) hf
      · have hf := it_f hf c2
        refine lv_lload_n hx hb dX4_allCases_15 rfl (lv_at hl 1 rfl) ?_
        refine lv_aload_n hx hb dX4_allCases_16 rfl (lv_at hl 0 rfl) ?_
        refine va_get (D := E.1) (ci := 4) (v := .ref (a0 1)) (C := RX5) (T := TX5) (N := 9) hx hb hts w2 hown hC.1 hP 0 rfl rfl 5 (by decide) w1 (fun _ h9 => h9) rfl dX4_allCases_17 ?_
        refine lv_iload_n hx hb dX4_allCases_20 rfl (lv_at hl 2 rfl) ?_
        refine cr_i (va_runV (As := [.int q1.2]) (rest := [.long q1.1]) ⟨hx, hb, hml, hown, hts⟩ (c_X8_hasUp l E (fun k => a0 (k + 1)) v0.2.2.2.2.2.1 q1.2 _ rfl) (cwV 1 hts gX4_allCases_X8_hasUp rfl rfl rfl hdV_X8_hasUp ⟨Nat.le_of_ble_eq_true rfl, Nat.le_of_ble_eq_true rfl⟩) ⟨PR.blind, va_recv hC.1 hP (ci := 6) (q0 := 1) rfl rfl, PR.pre hC hS (hP.sub [1, 2, 3] rfl)⟩ rfl rfl hl.1 rfl (lv_room (Nat.le_of_ble_eq_true rfl)) dX4_allCases_21 ⟨Nat.le_of_ble_eq_true rfl, Nat.le_of_ble_eq_true rfl⟩) ?_
        refine lv_if_eq (tgt := 33) hx hb dX4_allCases_24 rfl (fun c3 => ?_) (fun c3 => ?_)
        · have hf := it_t hf c3
          refine lv_lconst (v := 1) hx hb dX4_allCases_33 rfl ?_
          refine lv_lmul hx hb dX4_allCases_34 ?_
          refine lv_lstore_n (lv' := [(1, .long (q1.1 * (1 : Int64))), (0, .ref (a0 0)), (3, .int q1.2)]) hx hb dX4_allCases_35 rfl hl (by decide) rfl (fun ls hl => ?_)
          refine lv_iinc (v := (q1.2 + 1)) (lv' := [(3, .int (q1.2 + 1)), (1, .long (q1.1 * (1 : Int64))), (0, .ref (a0 0))]) hx hb dX4_allCases_36 hl (k := 2) rfl rfl (by decide) rfl (fun ls hl => ?_)
          refine lv_goto (tgt := 4) hx hb dX4_allCases_39 rfl ?_
          exact ih1 ((q1.1 * (1 : Int64)), (q1.2 + 1)) ls (lv_sub hl [2, 1, 0] rfl) hf
        · have hf := it_f hf c3
          refine lv_ldc2 hx hb hown w5 dX4_allCases_27 ?_
          refine lv_goto (tgt := 34) hx hb dX4_allCases_30 rfl ?_
          refine lv_lmul hx hb dX4_allCases_34 ?_
          refine lv_lstore_n (lv' := [(1, .long (q1.1 * ((10) : Int64))), (0, .ref (a0 0)), (3, .int q1.2)]) hx hb dX4_allCases_35 rfl hl (by decide) rfl (fun ls hl => ?_)
          refine lv_iinc (v := (q1.2 + 1)) (lv' := [(3, .int (q1.2 + 1)), (1, .long (q1.1 * ((10) : Int64))), (0, .ref (a0 0))]) hx hb dX4_allCases_36 hl (k := 2) rfl rfl (by decide) rfl (fun ls hl => ?_)
          refine lv_goto (tgt := 4) hx hb dX4_allCases_39 rfl ?_
          exact ih1 ((q1.1 * ((10) : Int64)), (q1.2 + 1)) ls (lv_sub hl [2, 1, 0] rfl) hf
  exact L1 FU ((1 : Int64), (0 : Int32)) ls (lv_sub hl [2, 1, 0] rfl) hf

/-! X4_isReadableWithout -/
abbrev rmX4_isReadableWithout : Room := { frames := 4, cells := 0, slots := 0, locals := 90 }
theorem hdS_X4_isReadableWithout : yX4_isReadableWithout.cls ≠ "java/lang/invoke/MethodHandle" ∧ yX4_isReadableWithout.cls ≠ "java/lang/invoke/VarHandle" ∧ (parseMethodDescriptor yX4_isReadableWithout.desc).map (fun d => d.parameters.length) = some 3 := by decide +kernel
set_option maxHeartbeats 4000000 in
set_option maxRecDepth 100000 in
theorem c_X4_isReadableWithout (l : Launch) (E : G0) (a0 : Nat → Nat) (v0 : HS) (p1 : Int32) (p2 : Int32) (x : Bool) (hf : f_X4_isReadableWithout v0 p1 p2 = some x) : Met l yX4_isReadableWithout wsX4_isReadableWithout rmX4_isReadableWithout (va_Pc [.ref (a0 0), .int p1, .int p2] (PR E (wHS E a0 v0))) (vp_Si (fun r => r = bI x)) 0 0 (fun _ => False) := by
  refine Met.ofW (cc := cX4_isReadableWithout) (maxL := 5) (ret := some .boolean) (by decide) rfl ?_
  intro p e s m args below meth c s₁ B hml hv
  obtain ⟨ha, hP, hC⟩ := hv
  have hx := B.exec
  have hb := B.bytes
  have hr := B.returns
  have hts := atoms_spec (ws := wsX4_isReadableWithout) B.pre
  have hown : s.vm.findClass RX4 = some m.cls := findClass_of_methodNamed B.named
  have hlocks := B.notSynchronized
  have hS : va_S (fun _ => False) s.heap s.heap [] := va_S.rf
  have w1 : (Cond.fieldLink RX4 10 "GreatChunks$House" "files" "LGreatChunks$Files;").before args s = true := hts _ (List.mem_of_getElem? (i := 1) rfl)
  have w2 : ∀ w ∈ wsX50, w ∈ wsX4_isReadableWithout := in_pl 45 rfl
  generalize hQe : MQ below (vp_Si (fun r => r = bI x)) args s 0 0 (fun _ => False) = Q
  refine st_W ha (Nat.le_of_ble_eq_true rfl) (fun ls hl => ?_)
  have hl : lv_has ls 5 [(0, .ref (a0 0)), (1, .int p1), (2, .int p2)] := hl
  unfold f_X4_isReadableWithout at hf
  refine lv_iconst (v := 0) hx hb dX4_isReadableWithout_0 rfl ?_
  refine lv_istore_n (lv' := [(3, .int (0 : Int32)), (0, .ref (a0 0)), (1, .int p1), (2, .int p2)]) hx hb dX4_isReadableWithout_1 rfl hl (by decide) rfl (fun ls hl => ?_)
  obtain ⟨K1, hK1, hf⟩ := jn_some hf
  have J1 : ∀ (q1 : Int32) (ls : Array Slot) (hl : lv_has ls 5 []) (hf : K1 q1 = some x), W p l e (headSpec wsX4_isReadableWithout rmX4_isReadableWithout).room s m args below meth c s.heap [] 0 0 Q (F0 m 45 ls []) := by
    intro q1 ls hl hf
    have hf := (hK1 q1).trans hf
    refine lv_iconst (v := 1) hx hb dX4_isReadableWithout_45 rfl ?_
    cases Option.some.inj hf
    subst hQe
    exact en_z hx hb hr hlocks rfl dX4_isReadableWithout_46
  have L1 : ∀ (n : Nat) (q1 : Int32) (ls : Array Slot) (hl : lv_has ls 5 [(0, .ref (a0 0)), (1, .int p1), (2, .int p2), (3, .int q1)]) (hf : lpF (bX4_isReadableWithout_1 v0 p1 p2 K1) n q1 = some x), W p l e (headSpec wsX4_isReadableWithout rmX4_isReadableWithout).room s m args below meth c s.heap [] 0 0 Q (F0 m 2 ls []) := by
    intro n
    induction n with
    | zero => intro q1 ls hl hf; exact (lpF_zero hf).elim
    | succ n ih1 =>
      intro q1 ls hl hf
      have hf := lpF_succ hf
      unfold bX4_isReadableWithout_1 at hf
      refine lv_iload_n hx hb dX4_isReadableWithout_2 rfl (lv_at hl 3 rfl) ?_
      refine lv_iconst (v := 4) hx hb dX4_isReadableWithout_3 rfl ?_
      refine lv_icmp_ge (tgt := 45) hx hb dX4_isReadableWithout_4 rfl (fun c2 => ?_) (fun c2 => ?_)
      · have hf := it_t hf c2
        exact J1 q1 ls (lv_sub hl [] rfl) hf
      · have hf := it_f hf c2
        refine lv_aload_n hx hb dX4_isReadableWithout_7 rfl (lv_at hl 0 rfl) ?_
        refine va_get (D := E.1) (ci := 4) (v := .ref (a0 13)) (C := RX5) (T := TX5) (N := 9) hx hb hts w2 hown hC.1 hP 0 rfl rfl 8 (by decide) w1 (fun _ h9 => h9) rfl dX4_isReadableWithout_8 ?_
        refine lv_iload_n hx hb dX4_isReadableWithout_11 rfl (lv_at hl 1 rfl) ?_
        refine lv_iload_n hx hb dX4_isReadableWithout_12 rfl (lv_at hl 3 rfl) ?_
        obtain ⟨r3, e3, hf⟩ := bd_some hf
        refine cr_i (va_runV (As := [.int p1, .int q1]) (rest := []) ⟨hx, hb, hml, hown, hts⟩ (c_X3_chunkOf l E (fun k => a0 (k + 13)) v0.2.2.2.2.2.2.2.2 p1 q1 r3 e3) (cwV 2 hts gX4_isReadableWithout_X3_chunkOf rfl rfl rfl hdV_X3_chunkOf ⟨Nat.le_of_ble_eq_true rfl, Nat.le_of_ble_eq_true rfl⟩) ⟨PR.blind, va_recv hC.1 hP (ci := 3) (q0 := 13) rfl rfl, PR.pre hC hS (hP.sub [13, 14, 15, 16, 17, 18] rfl)⟩ rfl rfl hl.1 rfl (lv_room (Nat.le_of_ble_eq_true rfl)) dX4_isReadableWithout_13 ⟨Nat.le_of_ble_eq_true rfl, Nat.le_of_ble_eq_true rfl⟩) ?_
        refine lv_istore (lv' := [(4, .int r3), (0, .ref (a0 0)), (1, .int p1), (2, .int p2), (3, .int q1)]) hx hb dX4_isReadableWithout_16 hl (by decide) rfl (fun ls hl => ?_)
        refine lv_iload hx hb dX4_isReadableWithout_18 (lv_at hl 0 rfl) ?_
        refine lv_iconst (v := (-1)) hx hb dX4_isReadableWithout_20 rfl ?_
        refine lv_icmp_eq (tgt := 39) hx hb dX4_isReadableWithout_21 rfl (fun c4 => ?_) (fun c4 => ?_)
        · have hf := it_t hf c4
          refine lv_iinc (v := (q1 + 1)) (lv' := [(3, .int (q1 + 1)), (4, .int r3), (0, .ref (a0 0)), (1, .int p1), (2, .int p2)]) hx hb dX4_isReadableWithout_39 hl (k := 4) rfl rfl (by decide) rfl (fun ls hl => ?_)
          refine lv_goto (tgt := 2) hx hb dX4_isReadableWithout_42 rfl ?_
          exact ih1 (q1 + 1) ls (lv_sub hl [2, 3, 4, 0] rfl) hf
        · have hf := it_f hf c4
          refine lv_aload_n hx hb dX4_isReadableWithout_24 rfl (lv_at hl 1 rfl) ?_
          refine lv_iload hx hb dX4_isReadableWithout_25 (lv_at hl 0 rfl) ?_
          obtain ⟨r5, e5, hf⟩ := bd_some hf
          refine cr_i (va_runV (As := [.int r3]) (rest := []) ⟨hx, hb, hml, hown, hts⟩ (c_X5_able l E a0 v0 r3 r5 e5) (cwV 1 hts gX4_isReadableWithout_X5_able rfl rfl rfl hdV_X5_able ⟨Nat.le_of_ble_eq_true rfl, Nat.le_of_ble_eq_true rfl⟩) ⟨PR.blind, va_recv hC.1 hP (ci := 4) (q0 := 0) rfl rfl, PR.pre hC hS hP⟩ rfl rfl hl.1 rfl (lv_room (Nat.le_of_ble_eq_true rfl)) dX4_isReadableWithout_27 ⟨Nat.le_of_ble_eq_true rfl, Nat.le_of_ble_eq_true rfl⟩) ?_
          refine lv_iload_n hx hb dX4_isReadableWithout_30 rfl (lv_at hl 3 rfl) ?_
          refine lv_iconst (v := (-1)) hx hb dX4_isReadableWithout_31 rfl ?_
          refine lv_ixor hx hb dX4_isReadableWithout_32 ?_
          refine lv_iand hx hb dX4_isReadableWithout_33 ?_
          refine lv_if_ne (tgt := 39) hx hb dX4_isReadableWithout_34 rfl (fun c6 => ?_) (fun c6 => ?_)
          · have hf := it_f hf c6
            refine lv_iinc (v := (q1 + 1)) (lv' := [(3, .int (q1 + 1)), (4, .int r3), (0, .ref (a0 0)), (1, .int p1), (2, .int p2)]) hx hb dX4_isReadableWithout_39 hl (k := 4) rfl rfl (by decide) rfl (fun ls hl => ?_)
            refine lv_goto (tgt := 2) hx hb dX4_isReadableWithout_42 rfl ?_
            exact ih1 (q1 + 1) ls (lv_sub hl [2, 3, 4, 0] rfl) hf
          · have hf := it_t hf c6
            refine lv_iconst (v := 0) hx hb dX4_isReadableWithout_37 rfl ?_
            cases Option.some.inj hf
            subst hQe
            exact en_z hx hb hr hlocks rfl dX4_isReadableWithout_38
  exact L1 FU (0 : Int32) ls (lv_sub hl [1, 2, 3, 0] rfl) hf

/-! X4_casesOf -/
abbrev rmX4_casesOf : Room := { frames := 2, cells := 0, slots := 0, locals := 42 }
theorem hdS_X4_casesOf : yX4_casesOf.cls ≠ "java/lang/invoke/MethodHandle" ∧ yX4_casesOf.cls ≠ "java/lang/invoke/VarHandle" ∧ (parseMethodDescriptor yX4_casesOf.desc).map (fun d => d.parameters.length) = some 3 := by decide +kernel
set_option maxHeartbeats 4000000 in
set_option maxRecDepth 100000 in
theorem c_X4_casesOf (l : Launch) (E : G0) (a0 : Nat → Nat) (v0 : HS) (p1 : Int32) (p2 : Int32) (x : Int64) (hf : f_X4_casesOf v0 p1 p2 = some x) : Met l yX4_casesOf wsX4_casesOf rmX4_casesOf (va_Pc [.ref (a0 0), .int p1, .int p2] (PR E (wHS E a0 v0))) (vp_Sl (fun r => r = x)) 0 0 (fun _ => False) := by
  refine Met.ofW (cc := cX4_casesOf) (maxL := 6) (ret := some .long) (by decide) rfl ?_
  intro p e s m args below meth c s₁ B hml hv
  obtain ⟨ha, hP, hC⟩ := hv
  have hx := B.exec
  have hb := B.bytes
  have hr := B.returns
  have hts := atoms_spec (ws := wsX4_casesOf) B.pre
  have hown : s.vm.findClass RX4 = some m.cls := findClass_of_methodNamed B.named
  have hlocks := B.notSynchronized
  have hS : va_S (fun _ => False) s.heap s.heap [] := va_S.rf
  have w1 : (Cond.fieldLink RX4 54 "GreatChunks$House" "servers" "LGreatChunks$Servers;").before args s = true := hts _ (List.mem_of_getElem? (i := 1) rfl)
  have w2 : ∀ w ∈ wsX50, w ∈ wsX4_casesOf := in_pl 17 rfl
  have w3 : (Cond.fieldLink RX4 58 "GreatChunks$Servers" "many" "I").before args s = true := hts _ (List.mem_of_getElem? (i := 2) rfl)
  have w4 : ∀ w ∈ wsX80, w ∈ wsX4_casesOf := in_pl 26 rfl
  have w5 : (Cond.initialized RX10).before args s = true := hts _ (List.mem_of_getElem? (i := 15) rfl)
  have w6 : (Cond.static yX10_isIn).before args s = true := hts _ (List.mem_of_getElem? (i := 14) rfl)
  generalize hQe : MQ below (vp_Sl (fun r => r = x)) args s 0 0 (fun _ => False) = Q
  refine st_W ha (Nat.le_of_ble_eq_true rfl) (fun ls hl => ?_)
  have hl : lv_has ls 6 [(0, .ref (a0 0)), (1, .int p1), (2, .int p2)] := hl
  unfold f_X4_casesOf at hf
  refine lv_lconst (v := 1) hx hb dX4_casesOf_0 rfl ?_
  refine lv_lstore_n (lv' := [(3, .long (1 : Int64)), (0, .ref (a0 0)), (1, .int p1), (2, .int p2)]) hx hb dX4_casesOf_1 rfl hl (by decide) rfl (fun ls hl => ?_)
  refine lv_iconst (v := 0) hx hb dX4_casesOf_2 rfl ?_
  refine lv_istore (lv' := [(5, .int (0 : Int32)), (3, .long (1 : Int64)), (0, .ref (a0 0)), (1, .int p1), (2, .int p2)]) hx hb dX4_casesOf_3 hl (by decide) rfl (fun ls hl => ?_)
  obtain ⟨K1, hK1, hf⟩ := jn_some hf
  have J1 : ∀ (q1 : Int64 × Int32) (ls : Array Slot) (hl : lv_has ls 6 [(3, .long q1.1)]) (hf : K1 q1 = some x), W p l e (headSpec wsX4_casesOf rmX4_casesOf).room s m args below meth c s.heap [] 0 0 Q (F0 m 57 ls []) := by
    intro q1 ls hl hf
    have hf := (hK1 q1).trans hf
    refine lv_lload_n hx hb dX4_casesOf_57 rfl (lv_at hl 0 rfl) ?_
    cases Option.some.inj hf
    subst hQe
    exact en_l hx hb hr hlocks dX4_casesOf_58
  have L1 : ∀ (n : Nat) (q1 : Int64 × Int32) (ls : Array Slot) (hl : lv_has ls 6 [(0, .ref (a0 0)), (1, .int p1), (2, .int p2), (3, .long q1.1), (5, .int q1.2)]) (hf : lpF (bX4_casesOf_1 v0 p1 p2 K1) n q1 = some x), W p l e (headSpec wsX4_casesOf rmX4_casesOf).room s m args below meth c s.heap [] 0 0 Q (F0 m 5 ls []) := by
    intro n
    induction n with
    | zero => intro q1 ls hl hf; exact (lpF_zero hf).elim
    | succ n ih1 =>
      intro q1 ls hl hf
      have hf := lpF_succ hf
      unfold bX4_casesOf_1 at hf
      refine lv_iload hx hb dX4_casesOf_5 (lv_at hl 4 rfl) ?_
      refine lv_aload_n hx hb dX4_casesOf_7 rfl (lv_at hl 0 rfl) ?_
      refine va_get (D := E.1) (ci := 4) (v := .ref (a0 1)) (C := RX5) (T := TX5) (N := 9) hx hb hts w2 hown hC.1 hP 0 rfl rfl 5 (by decide) w1 (fun _ h9 => h9) rfl dX4_casesOf_8 ?_
      refine va_get (D := E.1) (ci := 6) (v := .int v0.2.2.2.2.2.1.1) (C := RX8) (T := TX8) (N := 4) hx hb hts w4 hown hC.1 hP 1 rfl rfl 0 (by decide) w3 (fun _ h9 => h9) rfl dX4_casesOf_11 ?_
      refine lv_icmp_ge (tgt := 57) hx hb dX4_casesOf_14 rfl (fun c2 => ?_) (fun c2 => ?_)
      · have hf := it_t hf c2
        exact J1 (q1.1, q1.2) ls (lv_sub hl [3] rfl) hf
      · have hf := it_f hf c2
        refine lv_aload_n hx hb dX4_casesOf_17 rfl (lv_at hl 0 rfl) ?_
        refine va_get (D := E.1) (ci := 4) (v := .ref (a0 1)) (C := RX5) (T := TX5) (N := 9) hx hb hts w2 hown hC.1 hP 0 rfl rfl 5 (by decide) w1 (fun _ h9 => h9) rfl dX4_casesOf_18 ?_
        refine lv_iload hx hb dX4_casesOf_21 (lv_at hl 4 rfl) ?_
        refine cr_i (va_runV (As := [.int q1.2]) (rest := []) ⟨hx, hb, hml, hown, hts⟩ (c_X8_hasUp l E (fun k => a0 (k + 1)) v0.2.2.2.2.2.1 q1.2 _ rfl) (cwV 1 hts gX4_casesOf_X8_hasUp rfl rfl rfl hdV_X8_hasUp ⟨Nat.le_of_ble_eq_true rfl, Nat.le_of_ble_eq_true rfl⟩) ⟨PR.blind, va_recv hC.1 hP (ci := 6) (q0 := 1) rfl rfl, PR.pre hC hS (hP.sub [1, 2, 3] rfl)⟩ rfl rfl hl.1 rfl (lv_room (Nat.le_of_ble_eq_true rfl)) dX4_casesOf_23 ⟨Nat.le_of_ble_eq_true rfl, Nat.le_of_ble_eq_true rfl⟩) ?_
        refine lv_if_eq (tgt := 51) hx hb dX4_casesOf_26 rfl (fun c3 => ?_) (fun c3 => ?_)
        · have hf := it_t hf c3
          refine lv_iinc (v := (q1.2 + 1)) (lv' := [(5, .int (q1.2 + 1)), (0, .ref (a0 0)), (1, .int p1), (2, .int p2), (3, .long q1.1)]) hx hb dX4_casesOf_51 hl (k := 4) rfl rfl (by decide) rfl (fun ls hl => ?_)
          refine lv_goto (tgt := 5) hx hb dX4_casesOf_54 rfl ?_
          exact ih1 (q1.1, (q1.2 + 1)) ls (lv_sub hl [1, 2, 3, 4, 0] rfl) hf
        · have hf := it_f hf c3
          refine lv_lload_n hx hb dX4_casesOf_29 rfl (lv_at hl 3 rfl) ?_
          refine lv_iload_n hx hb dX4_casesOf_30 rfl (lv_at hl 1 rfl) ?_
          refine lv_iload hx hb dX4_casesOf_31 (lv_at hl 4 rfl) ?_
          refine cr_i (va_runSN (As := [.int p1, .int q1.2]) (rest := [.long q1.1]) ⟨hx, hb, hml, hown, hts⟩ (c_X10_isIn l E p1 q1.2 _ rfl) ⟨va_cnB 2 hts gX4_casesOf_X10_isIn_n81 rfl rfl rfl (hC.2.1 (RX4, 81, yX10_isIn, RX10) (List.mem_of_getElem? (i := 17) rfl)) w5 hdS_X10_isIn ⟨Nat.le_of_ble_eq_true rfl, Nat.le_of_ble_eq_true rfl⟩, w6, trivial⟩ ⟨PR.blind, PR.pre hC hS (hP.sub [] rfl)⟩ rfl rfl hl.1 rfl (lv_room (Nat.le_of_ble_eq_true rfl)) dX4_casesOf_33 ⟨Nat.le_of_ble_eq_true rfl, Nat.le_of_ble_eq_true rfl⟩) ?_
          refine lv_if_eq (tgt := 44) hx hb dX4_casesOf_36 rfl (fun c4 => ?_) (fun c4 => ?_)
          · have hf := it_t hf c4
            refine lv_bipush (v := 10) hx hb dX4_casesOf_44 rfl ?_
            refine lv_iload_n hx hb dX4_casesOf_46 rfl (lv_at hl 2 rfl) ?_
            refine lv_isub hx hb dX4_casesOf_47 ?_
            refine lv_i2l hx hb dX4_casesOf_48 rfl ?_
            refine lv_lmul hx hb dX4_casesOf_49 ?_
            refine lv_lstore_n (lv' := [(3, .long (q1.1 * ((10 : Int32) - p2).toInt64)), (0, .ref (a0 0)), (1, .int p1), (2, .int p2), (5, .int q1.2)]) hx hb dX4_casesOf_50 rfl hl (by decide) rfl (fun ls hl => ?_)
            refine lv_iinc (v := (q1.2 + 1)) (lv' := [(5, .int (q1.2 + 1)), (3, .long (q1.1 * ((10 : Int32) - p2).toInt64)), (0, .ref (a0 0)), (1, .int p1), (2, .int p2)]) hx hb dX4_casesOf_51 hl (k := 4) rfl rfl (by decide) rfl (fun ls hl => ?_)
            refine lv_goto (tgt := 5) hx hb dX4_casesOf_54 rfl ?_
            exact ih1 ((q1.1 * ((10 : Int32) - p2).toInt64), (q1.2 + 1)) ls (lv_sub hl [2, 3, 4, 1, 0] rfl) hf
          · have hf := it_f hf c4
            refine lv_iload_n hx hb dX4_casesOf_39 rfl (lv_at hl 2 rfl) ?_
            refine lv_i2l hx hb dX4_casesOf_40 rfl ?_
            refine lv_goto (tgt := 49) hx hb dX4_casesOf_41 rfl ?_
            refine lv_lmul hx hb dX4_casesOf_49 ?_
            refine lv_lstore_n (lv' := [(3, .long (q1.1 * p2.toInt64)), (0, .ref (a0 0)), (1, .int p1), (2, .int p2), (5, .int q1.2)]) hx hb dX4_casesOf_50 rfl hl (by decide) rfl (fun ls hl => ?_)
            refine lv_iinc (v := (q1.2 + 1)) (lv' := [(5, .int (q1.2 + 1)), (3, .long (q1.1 * p2.toInt64)), (0, .ref (a0 0)), (1, .int p1), (2, .int p2)]) hx hb dX4_casesOf_51 hl (k := 4) rfl rfl (by decide) rfl (fun ls hl => ?_)
            refine lv_goto (tgt := 5) hx hb dX4_casesOf_54 rfl ?_
            exact ih1 ((q1.1 * p2.toInt64), (q1.2 + 1)) ls (lv_sub hl [2, 3, 4, 1, 0] rfl) hf
  exact L1 FU ((1 : Int64), (0 : Int32)) ls (lv_sub hl [2, 3, 4, 1, 0] rfl) hf

/-! X4_readableCases -/
abbrev rmX4_readableCases : Room := { frames := 5, cells := 0, slots := 0, locals := 114 }
theorem hdS_X4_readableCases : yX4_readableCases.cls ≠ "java/lang/invoke/MethodHandle" ∧ yX4_readableCases.cls ≠ "java/lang/invoke/VarHandle" ∧ (parseMethodDescriptor yX4_readableCases.desc).map (fun d => d.parameters.length) = some 3 := by decide +kernel
set_option maxHeartbeats 4000000 in
set_option maxRecDepth 100000 in
theorem c_X4_readableCases (l : Launch) (E : G0) (a0 : Nat → Nat) (v0 : HS) (p1 : Int32) (p2 : Int32) (x : Int64) (hf : f_X4_readableCases v0 p1 p2 = some x) : Met l yX4_readableCases wsX4_readableCases rmX4_readableCases (va_Pc [.ref (a0 0), .int p1, .int p2] (PR E (wHS E a0 v0))) (vp_Sl (fun r => r = x)) 0 0 (fun _ => False) := by
  refine Met.ofW (cc := cX4_readableCases) (maxL := 7) (ret := some .long) (by decide) rfl ?_
  intro p e s m args below meth c s₁ B hml hv
  obtain ⟨ha, hP, hC⟩ := hv
  have hx := B.exec
  have hb := B.bytes
  have hr := B.returns
  have hts := atoms_spec (ws := wsX4_readableCases) B.pre
  have hown : s.vm.findClass RX4 = some m.cls := findClass_of_methodNamed B.named
  have hlocks := B.notSynchronized
  have hS : va_S (fun _ => False) s.heap s.heap [] := va_S.rf
  have w1 : (Cond.fieldLink RX4 54 "GreatChunks$House" "servers" "LGreatChunks$Servers;").before args s = true := hts _ (List.mem_of_getElem? (i := 1) rfl)
  have w2 : ∀ w ∈ wsX50, w ∈ wsX4_readableCases := in_pl 68 rfl
  have w3 : (Cond.fieldLink RX4 70 "GreatChunks$Servers" "upBits" "I").before args s = true := hts _ (List.mem_of_getElem? (i := 2) rfl)
  have w4 : ∀ w ∈ wsX80, w ∈ wsX4_readableCases := in_pl 77 rfl
  generalize hQe : MQ below (vp_Sl (fun r => r = x)) args s 0 0 (fun _ => False) = Q
  refine st_W ha (Nat.le_of_ble_eq_true rfl) (fun ls hl => ?_)
  have hl : lv_has ls 7 [(0, .ref (a0 0)), (1, .int p1), (2, .int p2)] := hl
  unfold f_X4_readableCases at hf
  refine lv_aload_n hx hb dX4_readableCases_0 rfl (lv_at hl 0 rfl) ?_
  refine va_get (D := E.1) (ci := 4) (v := .ref (a0 1)) (C := RX5) (T := TX5) (N := 9) hx hb hts w2 hown hC.1 hP 0 rfl rfl 5 (by decide) w1 (fun _ h9 => h9) rfl dX4_readableCases_1 ?_
  refine va_get (D := E.1) (ci := 6) (v := .int v0.2.2.2.2.2.1.2.1) (C := RX8) (T := TX8) (N := 4) hx hb hts w4 hown hC.1 hP 1 rfl rfl 1 (by decide) w3 (fun _ h9 => h9) rfl dX4_readableCases_4 ?_
  refine lv_istore_n (lv' := [(3, .int v0.2.2.2.2.2.1.2.1), (0, .ref (a0 0)), (1, .int p1), (2, .int p2)]) hx hb dX4_readableCases_7 rfl hl (by decide) rfl (fun ls hl => ?_)
  refine lv_lconst (v := 0) hx hb dX4_readableCases_8 rfl ?_
  refine lv_lstore (lv' := [(4, .long (0 : Int64)), (3, .int v0.2.2.2.2.2.1.2.1), (0, .ref (a0 0)), (1, .int p1), (2, .int p2)]) hx hb dX4_readableCases_9 hl (by decide) rfl (fun ls hl => ?_)
  refine lv_iconst (v := 0) hx hb dX4_readableCases_11 rfl ?_
  refine lv_istore (lv' := [(6, .int (0 : Int32)), (4, .long (0 : Int64)), (3, .int v0.2.2.2.2.2.1.2.1), (0, .ref (a0 0)), (1, .int p1), (2, .int p2)]) hx hb dX4_readableCases_12 hl (by decide) rfl (fun ls hl => ?_)
  obtain ⟨K1, hK1, hf⟩ := jn_some hf
  have J1 : ∀ (q1 : Int64 × Int32) (ls : Array Slot) (hl : lv_has ls 7 [(4, .long q1.1)]) (hf : K1 q1 = some x), W p l e (headSpec wsX4_readableCases rmX4_readableCases).room s m args below meth c s.heap [] 0 0 Q (F0 m 58 ls []) := by
    intro q1 ls hl hf
    have hf := (hK1 q1).trans hf
    refine lv_lload hx hb dX4_readableCases_58 (lv_at hl 0 rfl) ?_
    cases Option.some.inj hf
    subst hQe
    exact en_l hx hb hr hlocks dX4_readableCases_60
  have L1 : ∀ (n : Nat) (q1 : Int64 × Int32) (ls : Array Slot) (hl : lv_has ls 7 [(0, .ref (a0 0)), (1, .int p1), (2, .int p2), (3, .int v0.2.2.2.2.2.1.2.1), (4, .long q1.1), (6, .int q1.2)]) (hf : lpF (bX4_readableCases_1 v0 p1 p2 K1) n q1 = some x), W p l e (headSpec wsX4_readableCases rmX4_readableCases).room s m args below meth c s.heap [] 0 0 Q (F0 m 14 ls []) := by
    intro n
    induction n with
    | zero => intro q1 ls hl hf; exact (lpF_zero hf).elim
    | succ n ih1 =>
      intro q1 ls hl hf
      have hf := lpF_succ hf
      unfold bX4_readableCases_1 at hf
      refine lv_iload hx hb dX4_readableCases_14 (lv_at hl 5 rfl) ?_
      refine lv_bipush (v := 32) hx hb dX4_readableCases_16 rfl ?_
      refine lv_icmp_ge (tgt := 58) hx hb dX4_readableCases_18 rfl (fun c2 => ?_) (fun c2 => ?_)
      · have hf := it_t hf c2
        exact J1 (q1.1, q1.2) ls (lv_sub hl [4] rfl) hf
      · have hf := it_f hf c2
        refine lv_iload hx hb dX4_readableCases_21 (lv_at hl 5 rfl) ?_
        refine lv_iload_n hx hb dX4_readableCases_23 rfl (lv_at hl 3 rfl) ?_
        refine lv_iconst (v := (-1)) hx hb dX4_readableCases_24 rfl ?_
        refine lv_ixor hx hb dX4_readableCases_25 ?_
        refine lv_iand hx hb dX4_readableCases_26 ?_
        refine lv_if_ne (tgt := 52) hx hb dX4_readableCases_27 rfl (fun c3 => ?_) (fun c3 => ?_)
        · have hf := it_f hf c3
          refine lv_iinc (v := (q1.2 + 1)) (lv' := [(6, .int (q1.2 + 1)), (0, .ref (a0 0)), (1, .int p1), (2, .int p2), (3, .int v0.2.2.2.2.2.1.2.1), (4, .long q1.1)]) hx hb dX4_readableCases_52 hl (k := 5) rfl rfl (by decide) rfl (fun ls hl => ?_)
          refine lv_goto (tgt := 14) hx hb dX4_readableCases_55 rfl ?_
          exact ih1 (q1.1, (q1.2 + 1)) ls (lv_sub hl [1, 2, 3, 4, 5, 0] rfl) hf
        · have hf := it_t hf c3
          refine lv_aload_n hx hb dX4_readableCases_30 rfl (lv_at hl 0 rfl) ?_
          refine lv_iload_n hx hb dX4_readableCases_31 rfl (lv_at hl 1 rfl) ?_
          refine lv_iload hx hb dX4_readableCases_32 (lv_at hl 5 rfl) ?_
          obtain ⟨r4, e4, hf⟩ := bd_some hf
          refine cr_i (va_runS (As := [.ref (a0 0), .int p1, .int q1.2]) (rest := []) ⟨hx, hb, hml, hown, hts⟩ (c_X4_isReadableWithout l E a0 v0 p1 q1.2 r4 e4) (va_cwS 3 hts gX4_readableCases_X4_isReadableWithout rfl rfl rfl hdS_X4_isReadableWithout ⟨Nat.le_of_ble_eq_true rfl, Nat.le_of_ble_eq_true rfl⟩) ⟨PR.blind, PR.pre hC hS hP⟩ rfl rfl hl.1 rfl (lv_room (Nat.le_of_ble_eq_true rfl)) dX4_readableCases_34 ⟨Nat.le_of_ble_eq_true rfl, Nat.le_of_ble_eq_true rfl⟩) ?_
          refine lv_if_eq (tgt := 52) hx hb dX4_readableCases_37 rfl (fun c5 => ?_) (fun c5 => ?_)
          · have hf := it_t hf c5
            refine lv_iinc (v := (q1.2 + 1)) (lv' := [(6, .int (q1.2 + 1)), (0, .ref (a0 0)), (1, .int p1), (2, .int p2), (3, .int v0.2.2.2.2.2.1.2.1), (4, .long q1.1)]) hx hb dX4_readableCases_52 hl (k := 5) rfl rfl (by decide) rfl (fun ls hl => ?_)
            refine lv_goto (tgt := 14) hx hb dX4_readableCases_55 rfl ?_
            exact ih1 (q1.1, (q1.2 + 1)) ls (lv_sub hl [1, 2, 3, 4, 5, 0] rfl) hf
          · have hf := it_f hf c5
            refine lv_lload hx hb dX4_readableCases_40 (lv_at hl 4 rfl) ?_
            refine lv_aload_n hx hb dX4_readableCases_42 rfl (lv_at hl 0 rfl) ?_
            refine lv_iload hx hb dX4_readableCases_43 (lv_at hl 5 rfl) ?_
            refine lv_iload_n hx hb dX4_readableCases_45 rfl (lv_at hl 2 rfl) ?_
            obtain ⟨r6, e6, hf⟩ := bd_some hf
            refine cr_l (va_runS (As := [.ref (a0 0), .int q1.2, .int p2]) (rest := [.long q1.1]) ⟨hx, hb, hml, hown, hts⟩ (c_X4_casesOf l E a0 v0 q1.2 p2 r6 e6) (va_cwS 3 hts gX4_readableCases_X4_casesOf rfl rfl rfl hdS_X4_casesOf ⟨Nat.le_of_ble_eq_true rfl, Nat.le_of_ble_eq_true rfl⟩) ⟨PR.blind, PR.pre hC hS hP⟩ rfl rfl hl.1 rfl (lv_room (Nat.le_of_ble_eq_true rfl)) dX4_readableCases_46 ⟨Nat.le_of_ble_eq_true rfl, Nat.le_of_ble_eq_true rfl⟩) ?_
            refine lv_ladd hx hb dX4_readableCases_49 ?_
            refine lv_lstore (lv' := [(4, .long (q1.1 + r6)), (0, .ref (a0 0)), (1, .int p1), (2, .int p2), (3, .int v0.2.2.2.2.2.1.2.1), (6, .int q1.2)]) hx hb dX4_readableCases_50 hl (by decide) rfl (fun ls hl => ?_)
            refine lv_iinc (v := (q1.2 + 1)) (lv' := [(6, .int (q1.2 + 1)), (4, .long (q1.1 + r6)), (0, .ref (a0 0)), (1, .int p1), (2, .int p2), (3, .int v0.2.2.2.2.2.1.2.1)]) hx hb dX4_readableCases_52 hl (k := 5) rfl rfl (by decide) rfl (fun ls hl => ?_)
            refine lv_goto (tgt := 14) hx hb dX4_readableCases_55 rfl ?_
            exact ih1 ((q1.1 + r6), (q1.2 + 1)) ls (lv_sub hl [2, 3, 4, 5, 1, 0] rfl) hf
  exact L1 FU ((0 : Int64), (0 : Int32)) ls (lv_sub hl [3, 4, 5, 2, 1, 0] rfl) hf

/-! X4_commonDivisor -/
abbrev rmX4_commonDivisor : Room := { frames := 0, cells := 0, slots := 0, locals := 0 }
theorem hdS_X4_commonDivisor : yX4_commonDivisor.cls ≠ "java/lang/invoke/MethodHandle" ∧ yX4_commonDivisor.cls ≠ "java/lang/invoke/VarHandle" ∧ (parseMethodDescriptor yX4_commonDivisor.desc).map (fun d => d.parameters.length) = some 2 := by decide +kernel
set_option maxHeartbeats 4000000 in
set_option maxRecDepth 100000 in
theorem c_X4_commonDivisor (l : Launch) (E : G0) (p0 : Int64) (p1 : Int64) (x : Int64) (hf : f_X4_commonDivisor p0 p1 = some x) : Met l yX4_commonDivisor wsX4_commonDivisor rmX4_commonDivisor (va_Pc [.long p0, .long p1] (PR E ([] : va_W))) (vp_Sl (fun r => r = x)) 0 0 (fun _ => False) := by
  refine Met.ofW (cc := cX4_commonDivisor) (maxL := 11) (ret := some .long) (by decide) rfl ?_
  intro p e s m args below meth c s₁ B hml hv
  obtain ⟨ha, hP, hC⟩ := hv
  have hx := B.exec
  have hb := B.bytes
  have hr := B.returns
  have hts := atoms_spec (ws := wsX4_commonDivisor) B.pre
  have hown : s.vm.findClass RX4 = some m.cls := findClass_of_methodNamed B.named
  have hlocks := B.notSynchronized
  have hS : va_S (fun _ => False) s.heap s.heap [] := va_S.rf
  generalize hQe : MQ below (vp_Sl (fun r => r = x)) args s 0 0 (fun _ => False) = Q
  refine st_W ha (Nat.le_of_ble_eq_true rfl) (fun ls hl => ?_)
  have hl : lv_has ls 11 [(0, .long p0), (2, .long p1)] := hl
  unfold f_X4_commonDivisor at hf
  refine lv_lload_n hx hb dX4_commonDivisor_0 rfl (lv_at hl 0 rfl) ?_
  refine lv_lstore (lv' := [(4, .long p0), (0, .long p0), (2, .long p1)]) hx hb dX4_commonDivisor_1 hl (by decide) rfl (fun ls hl => ?_)
  refine lv_lload_n hx hb dX4_commonDivisor_3 rfl (lv_at hl 2 rfl) ?_
  refine lv_lstore (lv' := [(6, .long p1), (4, .long p0), (0, .long p0), (2, .long p1)]) hx hb dX4_commonDivisor_4 hl (by decide) rfl (fun ls hl => ?_)
  refine lv_iconst (v := 0) hx hb dX4_commonDivisor_6 rfl ?_
  refine lv_istore (lv' := [(8, .int (0 : Int32)), (6, .long p1), (4, .long p0), (0, .long p0), (2, .long p1)]) hx hb dX4_commonDivisor_7 hl (by decide) rfl (fun ls hl => ?_)
  obtain ⟨K1, hK1, hf⟩ := jn_some hf
  have J1 : ∀ (q1 : Int64 × Int64 × Int32) (ls : Array Slot) (hl : lv_has ls 11 [(4, .long q1.1)]) (hf : K1 q1 = some x), W p l e (headSpec wsX4_commonDivisor rmX4_commonDivisor).room s m args below meth c s.heap [] 0 0 Q (F0 m 44 ls []) := by
    intro q1 ls hl hf
    have hf := (hK1 q1).trans hf
    refine lv_lload hx hb dX4_commonDivisor_44 (lv_at hl 0 rfl) ?_
    cases Option.some.inj hf
    subst hQe
    exact en_l hx hb hr hlocks dX4_commonDivisor_46
  have L1 : ∀ (n : Nat) (q1 : Int64 × Int64 × Int32) (ls : Array Slot) (hl : lv_has ls 11 [(4, .long q1.1), (6, .long q1.2.1), (8, .int q1.2.2)]) (hf : lpF (bX4_commonDivisor_1 K1) n q1 = some x), W p l e (headSpec wsX4_commonDivisor rmX4_commonDivisor).room s m args below meth c s.heap [] 0 0 Q (F0 m 9 ls []) := by
    intro n
    induction n with
    | zero => intro q1 ls hl hf; exact (lpF_zero hf).elim
    | succ n ih1 =>
      intro q1 ls hl hf
      have hf := lpF_succ hf
      unfold bX4_commonDivisor_1 at hf
      refine lv_iload hx hb dX4_commonDivisor_9 (lv_at hl 2 rfl) ?_
      refine lv_bipush (v := 100) hx hb dX4_commonDivisor_11 rfl ?_
      refine lv_icmp_ge (tgt := 44) hx hb dX4_commonDivisor_13 rfl (fun c2 => ?_) (fun c2 => ?_)
      · have hf := it_t hf c2
        exact J1 (q1.1, q1.2.1, q1.2.2) ls (lv_sub hl [0] rfl) hf
      · have hf := it_f hf c2
        refine lv_lload hx hb dX4_commonDivisor_16 (lv_at hl 1 rfl) ?_
        refine lv_lconst (v := 0) hx hb dX4_commonDivisor_18 rfl ?_
        refine W.lcmp hx hb dX4_commonDivisor_19 ?_
        refine lv_if_eq (tgt := 44) hx hb dX4_commonDivisor_20 rfl (fun c3 => ?_) (fun c3 => ?_)
        · have hf := it_t hf c3
          exact J1 (q1.1, q1.2.1, q1.2.2) ls (lv_sub hl [0] rfl) hf
        · have hf := it_f hf c3
          refine lv_lload hx hb dX4_commonDivisor_23 (lv_at hl 0 rfl) ?_
          refine lv_lload hx hb dX4_commonDivisor_25 (lv_at hl 1 rfl) ?_
          obtain ⟨h4, hf⟩ := gdL_some hf
          refine lv_lrem hx hb dX4_commonDivisor_27 h4 ?_
          refine lv_lstore (lv' := [(9, .long (q1.1 - q1.1 / q1.2.1 * q1.2.1)), (4, .long q1.1), (6, .long q1.2.1), (8, .int q1.2.2)]) hx hb dX4_commonDivisor_28 hl (by decide) rfl (fun ls hl => ?_)
          refine lv_lload hx hb dX4_commonDivisor_30 (lv_at hl 2 rfl) ?_
          refine lv_lstore (lv' := [(4, .long q1.2.1), (9, .long (q1.1 - q1.1 / q1.2.1 * q1.2.1)), (6, .long q1.2.1), (8, .int q1.2.2)]) hx hb dX4_commonDivisor_32 hl (by decide) rfl (fun ls hl => ?_)
          refine lv_lload hx hb dX4_commonDivisor_34 (lv_at hl 1 rfl) ?_
          refine lv_lstore (lv' := [(6, .long (q1.1 - q1.1 / q1.2.1 * q1.2.1)), (4, .long q1.2.1), (9, .long (q1.1 - q1.1 / q1.2.1 * q1.2.1)), (8, .int q1.2.2)]) hx hb dX4_commonDivisor_36 hl (by decide) rfl (fun ls hl => ?_)
          refine lv_iinc (v := (q1.2.2 + 1)) (lv' := [(8, .int (q1.2.2 + 1)), (6, .long (q1.1 - q1.1 / q1.2.1 * q1.2.1)), (4, .long q1.2.1), (9, .long (q1.1 - q1.1 / q1.2.1 * q1.2.1))]) hx hb dX4_commonDivisor_38 hl (k := 3) rfl rfl (by decide) rfl (fun ls hl => ?_)
          refine lv_goto (tgt := 9) hx hb dX4_commonDivisor_41 rfl ?_
          exact ih1 (q1.2.1, (q1.1 - q1.1 / q1.2.1 * q1.2.1), (q1.2.2 + 1)) ls (lv_sub hl [2, 1, 0] rfl) hf
  exact L1 FU (p0, p1, (0 : Int32)) ls (lv_sub hl [2, 1, 0] rfl) hf
