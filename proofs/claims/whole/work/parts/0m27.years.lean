/-! X4_liveYears -/
abbrev rmX4_liveYears : Room := { frames := 6, cells := 1, slots := 9, locals := 148 }
theorem hdS_X4_liveYears : yX4_liveYears.cls ≠ "java/lang/invoke/MethodHandle" ∧ yX4_liveYears.cls ≠ "java/lang/invoke/VarHandle" ∧ (parseMethodDescriptor yX4_liveYears.desc).map (fun d => d.parameters.length) = some 3 := by decide +kernel
set_option maxHeartbeats 4000000 in
set_option maxRecDepth 100000 in
theorem c_X4_liveYears (l : Launch) (E : G0) (sz : Nat) (a0 : Nat → Nat) (v0 : HS) (p1 : Int32) (p2 : Int32) (x : Int32 × HS) (hf : f_X4_liveYears v0 p1 p2 = some x) : Met l yX4_liveYears wsX4_liveYears rmX4_liveYears (va_Pc [.ref (a0 0), .int p1, .int p2] (PW E (wHS E a0 v0) sz)) (va_Qi (fun r q => r = x.1 ∧ q = x.2) (fun q t => va_P E.1 vwCl ((fun q : HS => wHS E a0 q) q) t.heap ∧ va_D (va_A (wHS E a0 v0) sz) ((fun q : HS => wHS E a0 q) q)) (va_A (wHS E a0 v0) sz)) 1 9 (va_A (wHS E a0 v0) sz) := by
  refine Met.ofW (cc := cX4_liveYears) (maxL := 10) (ret := some .int) (by decide) rfl ?_
  intro p e s m args below meth c s₁ B hml hv
  obtain ⟨ha, hsz, hP, hD0, hC⟩ := hv
  have hx := B.exec
  have hb := B.bytes
  have hr := B.returns
  have hts := atoms_spec (ws := wsX4_liveYears) B.pre
  have hown : s.vm.findClass RX4 = some m.cls := findClass_of_methodNamed B.named
  have hlocks := B.notSynchronized
  subst hsz
  have hD := hD0.self (sz := s.heap.size)
  generalize hAe : va_A (wHS E a0 v0) s.heap.size = A at hD hC ⊢
  have hA : ∀ q : Nat, s.heap.size ≤ q → A q := fun q h => by rw [← hAe]; exact Or.inr h
  have hS : va_S A s.heap s.heap [] := va_S.rf
  have w1 : (Cond.fieldLink RX4 54 "GreatChunks$House" "servers" "LGreatChunks$Servers;").before args s = true := hts _ (List.mem_of_getElem? (i := 1) rfl)
  have w2 : ∀ w ∈ wsX50, w ∈ wsX4_liveYears := in_pl 261 rfl
  have w3 : (Cond.fieldLink RX4 58 "GreatChunks$Servers" "many" "I").before args s = true := hts _ (List.mem_of_getElem? (i := 2) rfl)
  have w4 : ∀ w ∈ wsX80, w ∈ wsX4_liveYears := in_pl 270 rfl
  have w5 : (Cond.fieldLink RX4 85 "GreatChunks$House" "size" "I").before args s = true := hts _ (List.mem_of_getElem? (i := 3) rfl)
  have w6 : (Cond.arrayClass .int).before args s = true := hts _ (List.mem_of_getElem? (i := 4) rfl)
  have w7 : (Cond.constantLong RX4 88 (16807)).before args s = true := hts _ (List.mem_of_getElem? (i := 5) rfl)
  have w8 : (Cond.constantLong RX4 90 (2147483647)).before args s = true := hts _ (List.mem_of_getElem? (i := 6) rfl)
  have w9 : (Cond.constantLong RX4 92 (128)).before args s = true := hts _ (List.mem_of_getElem? (i := 7) rfl)
  have w10 : (Cond.constantLong RX4 97 (6)).before args s = true := hts _ (List.mem_of_getElem? (i := 8) rfl)
  have w11 : (Cond.constantLong RX4 99 (8)).before args s = true := hts _ (List.mem_of_getElem? (i := 9) rfl)
  have w12 : (Cond.constantLong RX4 101 (64)).before args s = true := hts _ (List.mem_of_getElem? (i := 10) rfl)
  have w13 : (Cond.constantLong RX4 103 (26)).before args s = true := hts _ (List.mem_of_getElem? (i := 11) rfl)
  have w14 : (Cond.fieldLink RX4 10 "GreatChunks$House" "files" "LGreatChunks$Files;").before args s = true := hts _ (List.mem_of_getElem? (i := 12) rfl)
  generalize hQe : MQ below (va_Qi (fun r q => r = x.1 ∧ q = x.2) (fun q t => va_P E.1 vwCl ((fun q : HS => wHS E a0 q) q) t.heap ∧ va_D A ((fun q : HS => wHS E a0 q) q)) A) args s 1 9 A = Q
  refine st_W ha (Nat.le_of_ble_eq_true rfl) (fun ls hl => ?_)
  have hl : lv_has ls 10 [(0, .ref (a0 0)), (1, .int p1), (2, .int p2)] := hl
  unfold f_X4_liveYears at hf
  refine lv_aload_n hx hb dX4_liveYears_0 rfl (lv_at hl 0 rfl) ?_
  refine va_get (D := E.1) (ci := 4) (v := .ref (a0 1)) (C := RX5) (T := TX5) (N := 9) hx hb hts w2 hown hC.1 hP 0 rfl rfl 5 (by decide) w1 (fun _ h9 => h9) rfl dX4_liveYears_1 ?_
  refine va_get (D := E.1) (ci := 6) (v := .int v0.2.2.2.2.2.1.1) (C := RX8) (T := TX8) (N := 4) hx hb hts w4 hown hC.1 hP 1 rfl rfl 0 (by decide) w3 (fun _ h9 => h9) rfl dX4_liveYears_4 ?_
  refine lv_iconst (v := 1) hx hb dX4_liveYears_7 rfl ?_
  refine lv_icmp_lt (tgt := 19) hx hb dX4_liveYears_8 rfl (fun c1 => ?_) (fun c1 => ?_)
  · have hf := it_t hf c1
    refine lv_iconst (v := 0) hx hb dX4_liveYears_19 rfl ?_
    cases Option.some.inj hf
    subst hQe
    refine W.widen (k := 1) (n := 9) (by decide) (by decide) ?_
    exact ew_i (wf := (fun q : HS => wHS E a0 q)) hx hb hr hlocks hP hD hS dX4_liveYears_20
  · have hf := it_f hf c1
    refine lv_aload_n hx hb dX4_liveYears_11 rfl (lv_at hl 0 rfl) ?_
    refine va_get (D := E.1) (ci := 4) (v := .int v0.2.1) (C := RX5) (T := TX5) (N := 9) hx hb hts w2 hown hC.1 hP 0 rfl rfl 1 (by decide) w5 (fun _ h9 => h9) rfl dX4_liveYears_12 ?_
    refine lv_iconst (v := 1) hx hb dX4_liveYears_15 rfl ?_
    refine lv_icmp_ge (tgt := 21) hx hb dX4_liveYears_16 rfl (fun c2 => ?_) (fun c2 => ?_)
    · have hf := it_t hf c2
      refine lv_bipush (v := 9) hx hb dX4_liveYears_21 rfl ?_
      refine va_newa (atype := .int) (n := 9) (N' := 9) (a0 := (9, .inl z32)) hx hb w6 rfl hC.1 hP hD hS hA (fun _ => rfl) (by decide) (by decide) (by decide) (Nat.le_of_ble_eq_true rfl) (Nat.le_of_ble_eq_true rfl) dX4_liveYears_23 (fun qa cA H hK9 hP hD hS => ?_)
      obtain rfl := ar_I hK9
      have hP : va_P E.1 vwCl (wHS E a0 v0 ++ wIA E qa 9 z32) H := hP
      have hD : va_D A (wHS E a0 v0 ++ wIA E qa 9 z32) := hD
      refine lv_astore_n (lv' := [(3, .ref qa), (0, .ref (a0 0)), (1, .int p1), (2, .int p2)]) hx hb dX4_liveYears_25 rfl hl (by decide) rfl (fun ls hl => ?_)
      refine lv_iload_n hx hb dX4_liveYears_26 rfl (lv_at hl 3 rfl) ?_
      refine lv_i2l hx hb dX4_liveYears_27 rfl ?_
      refine lv_lstore (lv' := [(4, .long p2.toInt64), (3, .ref qa), (0, .ref (a0 0)), (1, .int p1), (2, .int p2)]) hx hb dX4_liveYears_28 hl (by decide) rfl (fun ls hl => ?_)
      refine lv_iconst (v := 0) hx hb dX4_liveYears_30 rfl ?_
      refine lv_istore (lv' := [(6, .int (0 : Int32)), (4, .long p2.toInt64), (3, .ref qa), (0, .ref (a0 0)), (1, .int p1), (2, .int p2)]) hx hb dX4_liveYears_31 hl (by decide) rfl (fun ls hl => ?_)
      refine lv_iconst (v := 0) hx hb dX4_liveYears_33 rfl ?_
      refine lv_istore (lv' := [(7, .int (0 : Int32)), (6, .int (0 : Int32)), (4, .long p2.toInt64), (3, .ref qa), (0, .ref (a0 0)), (1, .int p1), (2, .int p2)]) hx hb dX4_liveYears_34 hl (by decide) rfl (fun ls hl => ?_)
      obtain ⟨K3, hK3, hf⟩ := jn_some hf
      have J3 : ∀ (q3 : Int64 × Int32 × Int32 × HS × (Nat → Int32)) (H : Heap) (locs : List Loc) (hP : va_P E.1 vwCl (wHS E a0 q3.2.2.2.1 ++ wIA E qa 9 q3.2.2.2.2) H) (hD : va_D A (wHS E a0 q3.2.2.2.1 ++ wIA E qa 9 q3.2.2.2.2)) (hS : va_S A s.heap H locs) (ls : Array Slot) (hl : lv_has ls 10 [(6, .int q3.2.1)]) (hf : K3 q3 = some x), W p l e (headSpec wsX4_liveYears rmX4_liveYears).room s m args below meth c H locs 1 9 Q (F0 m 155 ls []) := by
        intro q3 H locs hP hD hS ls hl hf
        have hf := (hK3 q3).trans hf
        refine lv_iload hx hb dX4_liveYears_155 (lv_at hl 0 rfl) ?_
        cases Option.some.inj hf
        subst hQe
        exact ew_i (wf := (fun q : HS => wHS E a0 q)) hx hb hr hlocks (hP.sub [0, 1, 2, 3, 4, 5, 6, 7, 8, 9, 10, 11, 12, 13, 14, 15, 16, 17, 18] rfl) (hD.sub [0, 1, 2, 3, 4, 5, 6, 7, 8, 9, 10, 11, 12, 13, 14, 15, 16, 17, 18] rfl rfl) hS dX4_liveYears_157
      have L3 : ∀ (n : Nat) (q3 : Int64 × Int32 × Int32 × HS × (Nat → Int32)) (H : Heap) (locs : List Loc) (hP : va_P E.1 vwCl (wHS E a0 q3.2.2.2.1 ++ wIA E qa 9 q3.2.2.2.2) H) (hD : va_D A (wHS E a0 q3.2.2.2.1 ++ wIA E qa 9 q3.2.2.2.2)) (hS : va_S A s.heap H locs) (ls : Array Slot) (hl : lv_has ls 10 [(0, .ref (a0 0)), (1, .int p1), (3, .ref qa), (4, .long q3.1), (6, .int q3.2.1), (7, .int q3.2.2.1)]) (hf : lpF (bX4_liveYears_3 p1 K3) n q3 = some x), W p l e (headSpec wsX4_liveYears rmX4_liveYears).room s m args below meth c H locs 1 9 Q (F0 m 36 ls []) := by
        intro n
        induction n with
        | zero => intro q3 H locs hP hD hS ls hl hf; exact (lpF_zero hf).elim
        | succ n ih3 =>
          intro q3 H locs hP hD hS ls hl hf
          have hf := lpF_succ hf
          unfold bX4_liveYears_3 at hf
          refine lv_iload hx hb dX4_liveYears_36 (lv_at hl 5 rfl) ?_
          refine lv_iload_n hx hb dX4_liveYears_38 rfl (lv_at hl 1 rfl) ?_
          refine lv_icmp_ge (tgt := 155) hx hb dX4_liveYears_39 rfl (fun c4 => ?_) (fun c4 => ?_)
          · have hf := it_t hf c4
            exact J3 (q3.1, q3.2.1, q3.2.2.1, q3.2.2.2.1, q3.2.2.2.2) H locs hP hD hS ls (lv_sub hl [4] rfl) hf
          · have hf := it_f hf c4
            refine lv_lload hx hb dX4_liveYears_42 (lv_at hl 3 rfl) ?_
            refine lv_ldc2 hx hb hown w7 dX4_liveYears_44 ?_
            refine lv_lmul hx hb dX4_liveYears_47 ?_
            refine lv_ldc2 hx hb hown w8 dX4_liveYears_48 ?_
            obtain ⟨h5, hf⟩ := gdL_some hf
            refine lv_lrem hx hb dX4_liveYears_51 h5 ?_
            refine lv_topl (fun r6 e6 => ?_)
            have hf := bt_nm hf e6
            refine lv_lstore (lv' := [(4, .long r6), (0, .ref (a0 0)), (1, .int p1), (3, .ref qa), (6, .int q3.2.1), (7, .int q3.2.2.1)]) hx hb dX4_liveYears_52 hl (by decide) rfl (fun ls hl => ?_)
            refine lv_aload_n hx hb dX4_liveYears_54 rfl (lv_at hl 1 rfl) ?_
            refine va_get (D := E.1) (ci := 4) (v := .ref (a0 1)) (C := RX5) (T := TX5) (N := 9) hx hb hts w2 hown hC.1 hP 0 rfl rfl 5 (by decide) w1 (fun _ h9 => h9) rfl dX4_liveYears_55 ?_
            refine lv_lload hx hb dX4_liveYears_58 (lv_at hl 0 rfl) ?_
            refine lv_ldc2 hx hb hown w9 dX4_liveYears_60 ?_
            obtain ⟨h7, hf⟩ := gdL_some hf
            refine lv_ldiv hx hb dX4_liveYears_63 h7 ?_
            refine lv_aload_n hx hb dX4_liveYears_64 rfl (lv_at hl 1 rfl) ?_
            refine va_get (D := E.1) (ci := 4) (v := .ref (a0 1)) (C := RX5) (T := TX5) (N := 9) hx hb hts w2 hown hC.1 hP 0 rfl rfl 5 (by decide) w1 (fun _ h9 => h9) rfl dX4_liveYears_65 ?_
            refine va_get (D := E.1) (ci := 6) (v := .int q3.2.2.2.1.2.2.2.2.2.1.1) (C := RX8) (T := TX8) (N := 4) hx hb hts w4 hown hC.1 hP 1 rfl rfl 0 (by decide) w3 (fun _ h9 => h9) rfl dX4_liveYears_68 ?_
            refine lv_i2l hx hb dX4_liveYears_71 rfl ?_
            obtain ⟨h8, hf⟩ := gdL_some hf
            refine lv_lrem hx hb dX4_liveYears_72 h8 ?_
            refine lv_l2i hx hb dX4_liveYears_73 rfl ?_
            obtain ⟨r9, e9, hf⟩ := bd_some hf
            refine cq_v hP hD hS [1, 2, 3] [0, 4, 5, 6, 7, 8, 9, 10, 11, 12, 13, 14, 15, 16, 17, 18, 19] [0, 17, 18, 19, 1, 2, 3, 4, 5, 6, 7, 8, 9, 10, 11, 12, 13, 14, 15, 16] (va_free (wc := (wSV E (fun k => a0 (k + 1)) q3.2.2.2.1.2.2.2.2.2.1)) hD hS hA [1, 2, 3] rfl) (va_runV (As := [.int (((r6 / ((128) : Int64)) - (r6 / ((128) : Int64)) / q3.2.2.2.1.2.2.2.2.2.1.1.toInt64 * q3.2.2.2.1.2.2.2.2.2.1.1.toInt64).toInt32)]) (rest := []) ⟨hx, hb, hml, hown, hts⟩ (c_X8_spoilMore l E H.size (fun k => a0 (k + 1)) q3.2.2.2.1.2.2.2.2.2.1 (((r6 / ((128) : Int64)) - (r6 / ((128) : Int64)) / q3.2.2.2.1.2.2.2.2.2.1.1.toInt64 * q3.2.2.2.1.2.2.2.2.2.1.1.toInt64).toInt32) r9 e9) (cwV 1 hts gX4_liveYears_X8_spoilMore rfl rfl rfl hdV_X8_spoilMore ⟨Nat.le_of_ble_eq_true rfl, Nat.le_of_ble_eq_true rfl⟩) ⟨PW.blind, va_recv hC.1 hP (ci := 6) (q0 := 1) rfl rfl, PW.pre hC hS (hP.sub [1, 2, 3] rfl) (hD.sub [1, 2, 3] rfl rfl) (va_free hD hS hA [1, 2, 3] rfl)⟩ rfl rfl hl.1 rfl (lv_room (Nat.le_of_ble_eq_true rfl)) dX4_liveYears_74 ⟨Nat.le_of_ble_eq_true rfl, Nat.le_of_ble_eq_true rfl⟩) rfl rfl rfl rfl (wHS E a0 (q3.2.2.2.1.1, q3.2.2.2.1.2.1, q3.2.2.2.1.2.2.1, q3.2.2.2.1.2.2.2.1, q3.2.2.2.1.2.2.2.2.1, r9, q3.2.2.2.1.2.2.2.2.2.2.1, q3.2.2.2.1.2.2.2.2.2.2.2.1, q3.2.2.2.1.2.2.2.2.2.2.2.2) ++ wIA E qa 9 q3.2.2.2.2) rfl rfl (fun H locs hP hD hS => ?_)
            refine lv_lload hx hb dX4_liveYears_77 (lv_at hl 0 rfl) ?_
            refine lv_ldc2 hx hb hown w10 dX4_liveYears_79 ?_
            obtain ⟨h10, hf⟩ := gdL_some hf
            refine lv_lrem hx hb dX4_liveYears_82 h10 ?_
            refine lv_l2i hx hb dX4_liveYears_83 rfl ?_
            refine lv_topi (fun r11 e11 => ?_)
            have hf := bt_nm hf e11
            refine lv_istore (lv' := [(8, .int r11), (4, .long r6), (0, .ref (a0 0)), (1, .int p1), (3, .ref qa), (6, .int q3.2.1), (7, .int q3.2.2.1)]) hx hb dX4_liveYears_84 hl (by decide) rfl (fun ls hl => ?_)
            refine lv_iconst (v := 1) hx hb dX4_liveYears_86 rfl ?_
            refine lv_lload hx hb dX4_liveYears_87 (lv_at hl 1 rfl) ?_
            refine lv_ldc2 hx hb hown w11 dX4_liveYears_89 ?_
            obtain ⟨h12, hf⟩ := gdL_some hf
            refine lv_ldiv hx hb dX4_liveYears_92 h12 ?_
            refine lv_aload_n hx hb dX4_liveYears_93 rfl (lv_at hl 2 rfl) ?_
            refine va_get (D := E.1) (ci := 4) (v := .int q3.2.2.2.1.2.1) (C := RX5) (T := TX5) (N := 9) hx hb hts w2 hown hC.1 hP 0 rfl rfl 1 (by decide) w5 (fun _ h9 => h9) rfl dX4_liveYears_94 ?_
            refine lv_i2l hx hb dX4_liveYears_97 rfl ?_
            obtain ⟨h13, hf⟩ := gdL_some hf
            refine lv_lrem hx hb dX4_liveYears_98 h13 ?_
            refine lv_l2i hx hb dX4_liveYears_99 rfl ?_
            refine lv_iadd hx hb dX4_liveYears_100 ?_
            refine lv_topi (fun r14 e14 => ?_)
            have hf := bt_nm hf e14
            refine lv_istore (lv' := [(9, .int r14), (8, .int r11), (4, .long r6), (0, .ref (a0 0)), (1, .int p1), (3, .ref qa), (6, .int q3.2.1), (7, .int q3.2.2.1)]) hx hb dX4_liveYears_101 hl (by decide) rfl (fun ls hl => ?_)
            refine lv_aload_n hx hb dX4_liveYears_103 rfl (lv_at hl 5 rfl) ?_
            refine lv_bipush (v := 97) hx hb dX4_liveYears_104 rfl ?_
            refine lv_lload hx hb dX4_liveYears_106 (lv_at hl 2 rfl) ?_
            refine lv_ldc2 hx hb hown w12 dX4_liveYears_108 ?_
            obtain ⟨h15, hf⟩ := gdL_some hf
            refine lv_ldiv hx hb dX4_liveYears_111 h15 ?_
            refine lv_ldc2 hx hb hown w13 dX4_liveYears_112 ?_
            obtain ⟨h16, hf⟩ := gdL_some hf
            refine lv_lrem hx hb dX4_liveYears_115 h16 ?_
            refine lv_l2i hx hb dX4_liveYears_116 rfl ?_
            refine lv_iadd hx hb dX4_liveYears_117 ?_
            obtain ⟨r17, e17, hf⟩ := bd_some hf
            refine cq_v hP hD hS [19] [0, 1, 2, 3, 4, 5, 6, 7, 8, 9, 10, 11, 12, 13, 14, 15, 16, 17, 18] [0, 1, 2, 3, 4, 5, 6, 7, 8, 9, 10, 11, 12, 13, 14, 15, 16, 17, 18, 19] (va_free (wc := (wIA E qa 9 q3.2.2.2.2)) hD hS hA [19] rfl) (va_runS (As := [.ref qa, .int ((97 : Int32) + ((r6 / ((64) : Int64)) - (r6 / ((64) : Int64)) / ((26) : Int64) * ((26) : Int64)).toInt32)]) (rest := []) ⟨hx, hb, hml, hown, hts⟩ (c_J7_fill_53178 l E H.size qa 9 q3.2.2.2.2 ((97 : Int32) + ((r6 / ((64) : Int64)) - (r6 / ((64) : Int64)) / ((26) : Int64) * ((26) : Int64)).toInt32) r17 e17) (va_cwS 2 hts gX4_liveYears_J7_fill_53178 rfl rfl rfl hdS_J7_fill_53178 ⟨Nat.le_of_ble_eq_true rfl, Nat.le_of_ble_eq_true rfl⟩) ⟨PW.blind, PW.pre hC hS (hP.sub [19] rfl) (hD.sub [19] rfl rfl) (va_free hD hS hA [19] rfl)⟩ rfl rfl hl.1 rfl (lv_room (Nat.le_of_ble_eq_true rfl)) dX4_liveYears_118 ⟨Nat.le_of_ble_eq_true rfl, Nat.le_of_ble_eq_true rfl⟩) rfl rfl rfl rfl (wHS E a0 (q3.2.2.2.1.1, q3.2.2.2.1.2.1, q3.2.2.2.1.2.2.1, q3.2.2.2.1.2.2.2.1, q3.2.2.2.1.2.2.2.2.1, r9, q3.2.2.2.1.2.2.2.2.2.2.1, q3.2.2.2.1.2.2.2.2.2.2.2.1, q3.2.2.2.1.2.2.2.2.2.2.2.2) ++ wIA E qa 9 r17) rfl rfl (fun H locs hP hD hS => ?_)
            refine lv_aload_n hx hb dX4_liveYears_121 rfl (lv_at hl 3 rfl) ?_
            refine va_get (D := E.1) (ci := 4) (v := .ref (a0 13)) (C := RX5) (T := TX5) (N := 9) hx hb hts w2 hown hC.1 hP 0 rfl rfl 8 (by decide) w14 (fun _ h9 => h9) rfl dX4_liveYears_122 ?_
            refine lv_iload hx hb dX4_liveYears_125 (lv_at hl 1 rfl) ?_
            refine lv_iconst (v := 1) hx hb dX4_liveYears_127 rfl ?_
            obtain ⟨r18, e18, hf⟩ := bd_some hf
            refine cr_i (va_runV (As := [.int r11, .int (1 : Int32)]) (rest := []) ⟨hx, hb, hml, hown, hts⟩ (c_X3_is l E (fun k => a0 (k + 13)) q3.2.2.2.1.2.2.2.2.2.2.2.2 r11 (1 : Int32) r18 e18) (cwV 2 hts gX4_liveYears_X3_is rfl rfl rfl hdV_X3_is ⟨Nat.le_of_ble_eq_true rfl, Nat.le_of_ble_eq_true rfl⟩) ⟨PR.blind, va_recv hC.1 hP (ci := 3) (q0 := 13) rfl rfl, PR.pre hC hS (hP.sub [13, 14, 15, 16, 17, 18] rfl)⟩ rfl rfl hl.1 rfl (lv_room (Nat.le_of_ble_eq_true rfl)) dX4_liveYears_128 ⟨Nat.le_of_ble_eq_true rfl, Nat.le_of_ble_eq_true rfl⟩) ?_
            refine lv_if_eq (tgt := 149) hx hb dX4_liveYears_131 rfl (fun c19 => ?_) (fun c19 => ?_)
            · have hf := it_t hf c19
              refine lv_iinc (v := (q3.2.2.1 + 1)) (lv' := [(7, .int (q3.2.2.1 + 1)), (9, .int r14), (8, .int r11), (4, .long r6), (0, .ref (a0 0)), (1, .int p1), (3, .ref qa), (6, .int q3.2.1)]) hx hb dX4_liveYears_149 hl (k := 7) rfl rfl (by decide) rfl (fun ls hl => ?_)
              refine lv_goto (tgt := 36) hx hb dX4_liveYears_152 rfl ?_
              exact ih3 (r6, q3.2.1, (q3.2.2.1 + 1), (q3.2.2.2.1.1, q3.2.2.2.1.2.1, q3.2.2.2.1.2.2.1, q3.2.2.2.1.2.2.2.1, q3.2.2.2.1.2.2.2.2.1, r9, q3.2.2.2.1.2.2.2.2.2.2.1, q3.2.2.2.1.2.2.2.2.2.2.2.1, q3.2.2.2.1.2.2.2.2.2.2.2.2), r17) H locs hP hD hS ls (lv_sub hl [4, 5, 6, 3, 7, 0] rfl) hf
            · have hf := it_f hf c19
              refine lv_aload_n hx hb dX4_liveYears_134 rfl (lv_at hl 3 rfl) ?_
              refine lv_iload hx hb dX4_liveYears_135 (lv_at hl 1 rfl) ?_
              refine lv_aload_n hx hb dX4_liveYears_137 rfl (lv_at hl 5 rfl) ?_
              refine lv_iload hx hb dX4_liveYears_138 (lv_at hl 0 rfl) ?_
              obtain ⟨r20, e20, hf⟩ := bd_some hf
              refine cq_i hP hD hS [0, 1, 2, 3, 4, 5, 6, 7, 8, 9, 10, 11, 12, 13, 14, 15, 16, 17, 18, 19] [] [0, 1, 2, 3, 4, 5, 6, 7, 8, 9, 10, 11, 12, 13, 14, 15, 16, 17, 18, 19] (va_free (wc := (wHS E a0 (q3.2.2.2.1.1, q3.2.2.2.1.2.1, q3.2.2.2.1.2.2.1, q3.2.2.2.1.2.2.2.1, q3.2.2.2.1.2.2.2.2.1, r9, q3.2.2.2.1.2.2.2.2.2.2.1, q3.2.2.2.1.2.2.2.2.2.2.2.1, q3.2.2.2.1.2.2.2.2.2.2.2.2) ++ wIA E qa 9 r17)) hD hS hA [0, 1, 2, 3, 4, 5, 6, 7, 8, 9, 10, 11, 12, 13, 14, 15, 16, 17, 18, 19] rfl) (va_runV (As := [.int r11, .ref qa, .int r14]) (rest := []) ⟨hx, hb, hml, hown, hts⟩ (c_X5_addRecord l E H.size a0 (q3.2.2.2.1.1, q3.2.2.2.1.2.1, q3.2.2.2.1.2.2.1, q3.2.2.2.1.2.2.2.1, q3.2.2.2.1.2.2.2.2.1, r9, q3.2.2.2.1.2.2.2.2.2.2.1, q3.2.2.2.1.2.2.2.2.2.2.2.1, q3.2.2.2.1.2.2.2.2.2.2.2.2) r11 qa 9 r17 r14 r20 e20) (cwV 3 hts gX4_liveYears_X5_addRecord rfl rfl rfl hdV_X5_addRecord ⟨Nat.le_of_ble_eq_true rfl, Nat.le_of_ble_eq_true rfl⟩) ⟨PW.blind, va_recv hC.1 hP (ci := 4) (q0 := 0) rfl rfl, PW.pre hC hS hP hD (va_free hD hS hA [0, 1, 2, 3, 4, 5, 6, 7, 8, 9, 10, 11, 12, 13, 14, 15, 16, 17, 18, 19] rfl)⟩ rfl rfl hl.1 rfl (lv_room (Nat.le_of_ble_eq_true rfl)) dX4_liveYears_140 ⟨Nat.le_of_ble_eq_true rfl, Nat.le_of_ble_eq_true rfl⟩) rfl rfl rfl rfl (wHS E a0 r20.2 ++ wIA E qa 9 r17) rfl rfl (fun H locs hP hD hS => ?_)
              refine lv_if_lt (tgt := 149) hx hb dX4_liveYears_143 rfl (fun c21 => ?_) (fun c21 => ?_)
              · have hf := it_t hf c21
                refine lv_iinc (v := (q3.2.2.1 + 1)) (lv' := [(7, .int (q3.2.2.1 + 1)), (9, .int r14), (8, .int r11), (4, .long r6), (0, .ref (a0 0)), (1, .int p1), (3, .ref qa), (6, .int q3.2.1)]) hx hb dX4_liveYears_149 hl (k := 7) rfl rfl (by decide) rfl (fun ls hl => ?_)
                refine lv_goto (tgt := 36) hx hb dX4_liveYears_152 rfl ?_
                exact ih3 (r6, q3.2.1, (q3.2.2.1 + 1), r20.2, r17) H locs hP hD hS ls (lv_sub hl [4, 5, 6, 3, 7, 0] rfl) hf
              · have hf := it_f hf c21
                refine lv_iinc (v := (q3.2.1 + 1)) (lv' := [(6, .int (q3.2.1 + 1)), (9, .int r14), (8, .int r11), (4, .long r6), (0, .ref (a0 0)), (1, .int p1), (3, .ref qa), (7, .int q3.2.2.1)]) hx hb dX4_liveYears_146 hl (k := 6) rfl rfl (by decide) rfl (fun ls hl => ?_)
                refine lv_iinc (v := (q3.2.2.1 + 1)) (lv' := [(7, .int (q3.2.2.1 + 1)), (6, .int (q3.2.1 + 1)), (9, .int r14), (8, .int r11), (4, .long r6), (0, .ref (a0 0)), (1, .int p1), (3, .ref qa)]) hx hb dX4_liveYears_149 hl (k := 7) rfl rfl (by decide) rfl (fun ls hl => ?_)
                refine lv_goto (tgt := 36) hx hb dX4_liveYears_152 rfl ?_
                exact ih3 (r6, (q3.2.1 + 1), (q3.2.2.1 + 1), r20.2, r17) H locs hP hD hS ls (lv_sub hl [5, 6, 7, 4, 1, 0] rfl) hf
      exact L3 FU (p2.toInt64, (0 : Int32), (0 : Int32), v0, z32) H [] hP hD hS ls (lv_sub hl [4, 5, 3, 2, 1, 0] rfl) hf
    · have hf := it_f hf c2
      refine lv_iconst (v := 0) hx hb dX4_liveYears_19 rfl ?_
      cases Option.some.inj hf
      subst hQe
      refine W.widen (k := 1) (n := 9) (by decide) (by decide) ?_
      exact ew_i (wf := (fun q : HS => wHS E a0 q)) hx hb hr hlocks hP hD hS dX4_liveYears_20
