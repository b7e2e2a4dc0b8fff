/-! X10_feed -/
abbrev rmX10_feed : Room := { frames := 1, cells := 0, slots := 0, locals := 22 }
theorem hdS_X10_feed : yX10_feed.cls ≠ "java/lang/invoke/MethodHandle" ∧ yX10_feed.cls ≠ "java/lang/invoke/VarHandle" ∧ (parseMethodDescriptor yX10_feed.desc).map (fun d => d.parameters.length) = some 1 := by decide +kernel
theorem hdV_X10_feed : yX10_feed.cls = RX10 ∧ yX10_feed.cls ≠ "java/lang/invoke/MethodHandle" ∧ yX10_feed.cls ≠ "java/lang/invoke/VarHandle" ∧ (parseMethodDescriptor yX10_feed.desc).map (fun d => d.parameters.length) = some 1 := ⟨rfl, hdS_X10_feed⟩
set_option maxHeartbeats 4000000 in
set_option maxRecDepth 100000 in
theorem c_X10_feed (l : Launch) (E : G0) (sz : Nat) (a0 : Nat → Nat) (db di : Nat → Nat → Nat) (v0 : GC) (p1 : Int32) (x : Int32 × GC) (hf : f_X10_feed v0 p1 = some x) : Met l yX10_feed wsX10_feed rmX10_feed (va_Pc [.ref (a0 0), .int p1] (PW E (wGC E a0 db di v0) sz)) (va_Qi (fun r (q : DA × GC) => r = x.1 ∧ q.2 = x.2) (fun q t => va_P E.1 vwCl (wGC E a0 q.1.1 q.1.2 q.2) t.heap ∧ va_D (va_A (wGC E a0 db di v0) sz) (wGC E a0 q.1.1 q.1.2 q.2)) (va_A (wGC E a0 db di v0) sz)) 0 0 (va_A (wGC E a0 db di v0) sz) := by
  refine Met.ofW (cc := cX10_feed) (maxL := 2) (ret := some .int) (by decide) rfl ?_
  intro p e s m args below meth c s₁ B hml hv
  obtain ⟨ha, hsz, hP, hD0, hC⟩ := hv
  have hx := B.exec
  have hb := B.bytes
  have hr := B.returns
  have hts := atoms_spec (ws := wsX10_feed) B.pre
  have hown : s.vm.findClass RX10 = some m.cls := findClass_of_methodNamed B.named
  have hlocks := B.notSynchronized
  subst hsz
  have hD := hD0.self (sz := s.heap.size)
  generalize hAe : va_A (wGC E a0 db di v0) s.heap.size = A at hD hC ⊢
  have hA : ∀ q : Nat, s.heap.size ≤ q → A q := fun q h => by rw [← hAe]; exact Or.inr h
  have hS : va_S A s.heap s.heap [] := va_S.rf
  have w1 : (Cond.constant RX10 54 (-1000001)).before args s = true := hts _ (List.mem_of_getElem? (i := 1) rfl)
  have w2 : (Cond.fieldLink RX10 20 "GreatChunks" "tape" "LGreatChunks$Tape;").before args s = true := hts _ (List.mem_of_getElem? (i := 2) rfl)
  have w3 : ∀ w ∈ wsX100, w ∈ wsX10_feed := in_pl 16 rfl
  have w4 : (Cond.constant RX10 64 (-1000003)).before args s = true := hts _ (List.mem_of_getElem? (i := 4) rfl)
  have w5 : (Cond.fieldLink RX10 61 "GreatChunks$Tape" "many" "I").before args s = true := hts _ (List.mem_of_getElem? (i := 3) rfl)
  have w6 : ∀ w ∈ wsX90, w ∈ wsX10_feed := in_pl 24 rfl
  generalize hQe : MQ below (va_Qi (fun r (q : DA × GC) => r = x.1 ∧ q.2 = x.2) (fun q t => va_P E.1 vwCl (wGC E a0 q.1.1 q.1.2 q.2) t.heap ∧ va_D A (wGC E a0 q.1.1 q.1.2 q.2)) A) args s 0 0 A = Q
  refine st_W ha (Nat.le_of_ble_eq_true rfl) (fun ls hl => ?_)
  have hl : lv_has ls 2 [(0, .ref (a0 0)), (1, .int p1)] := hl
  unfold f_X10_feed at hf
  refine lv_iload_n hx hb dX10_feed_0 rfl (lv_at hl 1 rfl) ?_
  refine lv_iconst (v := 0) hx hb dX10_feed_1 rfl ?_
  refine lv_sipush (v := 255) hx hb dX10_feed_2 rfl ?_
  refine cr_i (va_runS (As := [.int p1, .int (0 : Int32), .int (255 : Int32)]) (rest := []) ⟨hx, hb, hml, hown, hts⟩ (c_X10_within l E p1 (0 : Int32) (255 : Int32) _ rfl) (va_cwS 3 hts gX10_feed_X10_within rfl rfl rfl hdS_X10_within ⟨Nat.le_of_ble_eq_true rfl, Nat.le_of_ble_eq_true rfl⟩) ⟨PR.blind, PR.pre hC hS (hP.sub [] rfl)⟩ rfl rfl hl.1 rfl (lv_room (Nat.le_of_ble_eq_true rfl)) dX10_feed_5 ⟨Nat.le_of_ble_eq_true rfl, Nat.le_of_ble_eq_true rfl⟩) ?_
  refine lv_if_ne (tgt := 14) hx hb dX10_feed_8 rfl (fun c1 => ?_) (fun c1 => ?_)
  · have hf := it_f hf c1
    refine lv_aload_n hx hb dX10_feed_14 rfl (lv_at hl 0 rfl) ?_
    refine va_get (D := E.1) (ci := 8) (v := .ref (a0 2)) (C := RX10) (T := TX10) (N := 8) hx hb hts w3 hown hC.1 hP 0 rfl rfl 1 (by decide) w2 (fun _ h9 => h9) rfl dX10_feed_15 ?_
    refine lv_iload_n hx hb dX10_feed_18 rfl (lv_at hl 1 rfl) ?_
    obtain ⟨r2, e2, hf⟩ := bd_some hf
    refine cqt_i (wc := (wTP E (fun k => a0 (k + 2)) v0.1.1)) (ws := wG0 E a0 db di v0) (tl := wGT E db di v0) hP hD hS hA [2, 3] [0, 1, 4, 5, 6, 7, 8, 9, 10, 11, 12, 13, 14, 15, 16, 17, 18, 19, 20, 21, 22, 23, 24, 25, 26, 27, 28, 29, 30, 31, 32, 33, 34, 35, 36, 37, 38, 39, 40, 41, 42, 43, 44] (va_runV (As := [.int p1]) (rest := []) ⟨hx, hb, hml, hown, hts⟩ (c_X9_take l E s.heap.size (fun k => a0 (k + 2)) v0.1.1 p1 r2 e2) (cwV 1 hts gX10_feed_X9_take rfl rfl rfl hdV_X9_take ⟨Nat.le_of_ble_eq_true rfl, Nat.le_of_ble_eq_true rfl⟩) ⟨PW.blind, va_recv hC.1 hP (ci := 7) (q0 := 2) rfl rfl, PW.pre hC hS (hP.sub [2, 3] rfl) (hD.sub [2, 3] rfl rfl) (va_free hD hS hA [2, 3] rfl)⟩ rfl rfl hl.1 rfl (lv_room (Nat.le_of_ble_eq_true rfl)) dX10_feed_19 ⟨Nat.le_of_ble_eq_true rfl, Nat.le_of_ble_eq_true rfl⟩) 45 rfl (by decide +kernel) rfl (wG0 E a0 db di ((r2.2, v0.1.2.1, v0.1.2.2.1, v0.1.2.2.2), v0.2.1, v0.2.2.1, v0.2.2.2.1, v0.2.2.2.2.1, v0.2.2.2.2.2.1, v0.2.2.2.2.2.2.1, v0.2.2.2.2.2.2.2)) rfl rfl (fun H locs hP hD hS => ?_)
    have hP : va_P E.1 vwCl (wGC E a0 db di ((r2.2, v0.1.2.1, v0.1.2.2.1, v0.1.2.2.2), v0.2.1, v0.2.2.1, v0.2.2.2.1, v0.2.2.2.2.1, v0.2.2.2.2.2.1, v0.2.2.2.2.2.2.1, v0.2.2.2.2.2.2.2)) H := hP
    have hD : va_D A (wGC E a0 db di ((r2.2, v0.1.2.1, v0.1.2.2.1, v0.1.2.2.2), v0.2.1, v0.2.2.1, v0.2.2.2.1, v0.2.2.2.2.1, v0.2.2.2.2.2.1, v0.2.2.2.2.2.2.1, v0.2.2.2.2.2.2.2)) := hD
    refine lv_if_eq (tgt := 35) hx hb dX10_feed_22 rfl (fun c3 => ?_) (fun c3 => ?_)
    · have hf := it_t hf c3
      refine lv_ldc hx hb hown w4 dX10_feed_35 ?_
      cases Option.some.inj hf
      subst hQe
      exact eg_i hx hb hr hlocks hP hD hS dX10_feed_37
    · have hf := it_f hf c3
      refine lv_aload_n hx hb dX10_feed_25 rfl (lv_at hl 0 rfl) ?_
      refine va_get (D := E.1) (ci := 8) (v := .ref (a0 2)) (C := RX10) (T := TX10) (N := 8) hx hb hts w3 hown hC.1 hP 0 rfl rfl 1 (by decide) w2 (fun _ h9 => h9) rfl dX10_feed_26 ?_
      refine va_get (D := E.1) (ci := 7) (v := .int r2.2.2) (C := RX9) (T := TX9) (N := 2) hx hb hts w6 hown hC.1 hP 2 rfl rfl 1 (by decide) w5 (fun _ h9 => h9) rfl dX10_feed_29 ?_
      refine lv_goto (tgt := 37) hx hb dX10_feed_32 rfl ?_
      cases Option.some.inj hf
      subst hQe
      exact eg_i hx hb hr hlocks hP hD hS dX10_feed_37
  · have hf := it_t hf c1
    refine lv_ldc hx hb hown w1 dX10_feed_11 ?_
    cases Option.some.inj hf
    subst hQe
    exact eg_i hx hb hr hlocks hP hD hS dX10_feed_13

/-! X10_house -/
abbrev rmX10_house : Room := { frames := 5, cells := 0, slots := 0, locals := 107 }
theorem hdS_X10_house : yX10_house.cls ≠ "java/lang/invoke/MethodHandle" ∧ yX10_house.cls ≠ "java/lang/invoke/VarHandle" ∧ (parseMethodDescriptor yX10_house.desc).map (fun d => d.parameters.length) = some 0 := by decide +kernel
theorem hdV_X10_house : yX10_house.cls = RX10 ∧ yX10_house.cls ≠ "java/lang/invoke/MethodHandle" ∧ yX10_house.cls ≠ "java/lang/invoke/VarHandle" ∧ (parseMethodDescriptor yX10_house.desc).map (fun d => d.parameters.length) = some 0 := ⟨rfl, hdS_X10_house⟩
set_option maxHeartbeats 4000000 in
set_option maxRecDepth 100000 in
theorem c_X10_house (l : Launch) (E : G0) (sz : Nat) (a0 : Nat → Nat) (db di : Nat → Nat → Nat) (v0 : GC) (x : Int32 × GC) (hf : f_X10_house v0 = some x) : Met l yX10_house wsX10_house rmX10_house (va_Pc [.ref (a0 0)] (PW E (wGC E a0 db di v0) sz)) (va_Qi (fun r (q : DA × GC) => r = x.1 ∧ q.2 = x.2) (fun q t => va_P E.1 vwCl (wGC E a0 q.1.1 q.1.2 q.2) t.heap ∧ va_D (va_A (wGC E a0 db di v0) sz) (wGC E a0 q.1.1 q.1.2 q.2)) (va_A (wGC E a0 db di v0) sz)) 0 0 (va_A (wGC E a0 db di v0) sz) := by
  refine Met.ofW (cc := cX10_house) (maxL := 2) (ret := some .int) (by decide) rfl ?_
  intro p e s m args below meth c s₁ B hml hv
  obtain ⟨ha, hsz, hP, hD0, hC⟩ := hv
  have hx := B.exec
  have hb := B.bytes
  have hr := B.returns
  have hts := atoms_spec (ws := wsX10_house) B.pre
  have hown : s.vm.findClass RX10 = some m.cls := findClass_of_methodNamed B.named
  have hlocks := B.notSynchronized
  subst hsz
  have hD := hD0.self (sz := s.heap.size)
  generalize hAe : va_A (wGC E a0 db di v0) s.heap.size = A at hD hC ⊢
  have hA : ∀ q : Nat, s.heap.size ≤ q → A q := fun q h => by rw [← hAe]; exact Or.inr h
  have hS : va_S A s.heap s.heap [] := va_S.rf
  have w1 : (Cond.fieldLink RX10 12 "GreatChunks" "reader" "LGreatChunks$Reader;").before args s = true := hts _ (List.mem_of_getElem? (i := 1) rfl)
  have w2 : ∀ w ∈ wsX100, w ∈ wsX10_house := in_pl 169 rfl
  have w3 : (Cond.fieldLink RX10 35 "GreatChunks" "trial" "LGreatChunks$House;").before args s = true := hts _ (List.mem_of_getElem? (i := 2) rfl)
  have w4 : (Cond.fieldLink RX10 20 "GreatChunks" "tape" "LGreatChunks$Tape;").before args s = true := hts _ (List.mem_of_getElem? (i := 3) rfl)
  have w5 : (Cond.fieldLink RX10 61 "GreatChunks$Tape" "many" "I").before args s = true := hts _ (List.mem_of_getElem? (i := 4) rfl)
  have w6 : ∀ w ∈ wsX90, w ∈ wsX10_house := in_pl 177 rfl
  have w7 : (Cond.fieldLink RX10 31 "GreatChunks" "house" "LGreatChunks$House;").before args s = true := hts _ (List.mem_of_getElem? (i := 9) rfl)
  have w8 : (Cond.fieldLink RX10 42 "GreatChunks" "standing" "Z").before args s = true := hts _ (List.mem_of_getElem? (i := 10) rfl)
  have w9 : (Cond.fieldLink RX10 24 "GreatChunks" "acts" "LGreatChunks$Acts;").before args s = true := hts _ (List.mem_of_getElem? (i := 11) rfl)
  have w10 : (Cond.fieldLink RX10 83 "GreatChunks$House" "files" "LGreatChunks$Files;").before args s = true := hts _ (List.mem_of_getElem? (i := 12) rfl)
  have w11 : ∀ w ∈ wsX50, w ∈ wsX10_house := in_pl 183 rfl
  have w12 : (Cond.fieldLink RX10 69 "GreatChunks$Reader" "fault" "I").before args s = true := hts _ (List.mem_of_getElem? (i := 5) rfl)
  have w13 : ∀ w ∈ wsX70, w ∈ wsX10_house := in_pl 179 rfl
  have w14 : (Cond.fieldLink RX10 46 "GreatChunks" "latestFault" "I").before args s = true := hts _ (List.mem_of_getElem? (i := 6) rfl)
  have w15 : (Cond.constant RX10 72 (-1000100)).before args s = true := hts _ (List.mem_of_getElem? (i := 7) rfl)
  have w16 : (Cond.fieldLink RX10 73 "GreatChunks$Reader" "place" "I").before args s = true := hts _ (List.mem_of_getElem? (i := 8) rfl)
  generalize hQe : MQ below (va_Qi (fun r (q : DA × GC) => r = x.1 ∧ q.2 = x.2) (fun q t => va_P E.1 vwCl (wGC E a0 q.1.1 q.1.2 q.2) t.heap ∧ va_D A (wGC E a0 q.1.1 q.1.2 q.2)) A) args s 0 0 A = Q
  refine st_W ha (Nat.le_of_ble_eq_true rfl) (fun ls hl => ?_)
  have hl : lv_has ls 2 [(0, .ref (a0 0))] := hl
  unfold f_X10_house at hf
  refine lv_aload_n hx hb dX10_house_0 rfl (lv_at hl 0 rfl) ?_
  refine va_get (D := E.1) (ci := 8) (v := .ref (a0 1)) (C := RX10) (T := TX10) (N := 8) hx hb hts w2 hown hC.1 hP 0 rfl rfl 0 (by decide) w1 (fun _ h9 => h9) rfl dX10_house_1 ?_
  refine lv_aload_n hx hb dX10_house_4 rfl (lv_at hl 0 rfl) ?_
  refine va_get (D := E.1) (ci := 8) (v := .ref (a0 4)) (C := RX10) (T := TX10) (N := 8) hx hb hts w2 hown hC.1 hP 0 rfl rfl 4 (by decide) w3 (fun _ h9 => h9) rfl dX10_house_5 ?_
  obtain ⟨r1, e1, hf⟩ := bd_some hf
  refine cqt_i (wc := (wRD E (fun k => a0 (k + 1)) v0.1 ++ wHS E (fun k => a0 (k + 4)) v0.2.2.2.2.1)) (ws := wG0 E a0 db di v0) (tl := wGT E db di v0) hP hD hS hA [1, 2, 3, 4, 5, 6, 7, 8, 9, 10, 11, 12, 13, 14, 15, 16, 17, 18, 19, 20, 21, 22] [0, 23, 24, 25, 26, 27, 28, 29, 30, 31, 32, 33, 34, 35, 36, 37, 38, 39, 40, 41, 42, 43, 44] (va_runV (As := [.ref (a0 4)]) (rest := []) ⟨hx, hb, hml, hown, hts⟩ (c_X7_readInto l E s.heap.size (fun k => a0 (k + 1)) v0.1 (fun k => a0 (k + 4)) v0.2.2.2.2.1 r1 e1) (cwV 1 hts gX10_house_X7_readInto rfl rfl rfl hdV_X7_readInto ⟨Nat.le_of_ble_eq_true rfl, Nat.le_of_ble_eq_true rfl⟩) ⟨PW.blind, va_recv hC.1 hP (ci := 5) (q0 := 1) rfl rfl, PW.pre hC hS (hP.sub [1, 2, 3, 4, 5, 6, 7, 8, 9, 10, 11, 12, 13, 14, 15, 16, 17, 18, 19, 20, 21, 22] rfl) (hD.sub [1, 2, 3, 4, 5, 6, 7, 8, 9, 10, 11, 12, 13, 14, 15, 16, 17, 18, 19, 20, 21, 22] rfl rfl) (va_free hD hS hA [1, 2, 3, 4, 5, 6, 7, 8, 9, 10, 11, 12, 13, 14, 15, 16, 17, 18, 19, 20, 21, 22] rfl)⟩ rfl rfl hl.1 rfl (lv_room (Nat.le_of_ble_eq_true rfl)) dX10_house_8 ⟨Nat.le_of_ble_eq_true rfl, Nat.le_of_ble_eq_true rfl⟩) 45 rfl (by decide +kernel) rfl (wG0 E a0 db di (r1.2.1, v0.2.1, v0.2.2.1, v0.2.2.2.1, r1.2.2, v0.2.2.2.2.2.1, v0.2.2.2.2.2.2.1, v0.2.2.2.2.2.2.2)) rfl rfl (fun H locs hP hD hS => ?_)
  have hP : va_P E.1 vwCl (wGC E a0 db di (r1.2.1, v0.2.1, v0.2.2.1, v0.2.2.2.1, r1.2.2, v0.2.2.2.2.2.1, v0.2.2.2.2.2.2.1, v0.2.2.2.2.2.2.2)) H := hP
  have hD : va_D A (wGC E a0 db di (r1.2.1, v0.2.1, v0.2.2.1, v0.2.2.2.1, r1.2.2, v0.2.2.2.2.2.1, v0.2.2.2.2.2.2.1, v0.2.2.2.2.2.2.2)) := hD
  refine lv_istore_n (lv' := [(1, .int (bI r1.1)), (0, .ref (a0 0))]) hx hb dX10_house_11 rfl hl (by decide) rfl (fun ls hl => ?_)
  refine lv_aload_n hx hb dX10_house_12 rfl (lv_at hl 1 rfl) ?_
  refine va_get (D := E.1) (ci := 8) (v := .ref (a0 2)) (C := RX10) (T := TX10) (N := 8) hx hb hts w2 hown hC.1 hP 0 rfl rfl 1 (by decide) w4 (fun _ h9 => h9) rfl dX10_house_13 ?_
  refine lv_iconst (v := 0) hx hb dX10_house_16 rfl ?_
  refine va_put (D := E.1) (ci := 7) (v := .int (0 : Int32)) (ty := .int) (C := RX9) (T := TX9) (N := 2) hx hb hts w6 tyX9 tyX9_ok nmX9 hown hC.1 hP hD hS 2 rfl rfl 1 (by decide) w5 (fun _ h9 => h9) rfl (by decide +kernel) rfl rfl (Nat.le_of_ble_eq_true rfl) dX10_house_17 (fun H locs hP hD hS => ?_)
  have hP : va_P E.1 vwCl (wGC E a0 db di (((r1.2.1.1.1, (0 : Int32)), r1.2.1.2.1, r1.2.1.2.2.1, r1.2.1.2.2.2), v0.2.1, v0.2.2.1, v0.2.2.2.1, r1.2.2, v0.2.2.2.2.2.1, v0.2.2.2.2.2.2.1, v0.2.2.2.2.2.2.2)) H := hP
  have hD : va_D A (wGC E a0 db di (((r1.2.1.1.1, (0 : Int32)), r1.2.1.2.1, r1.2.1.2.2.1, r1.2.1.2.2.2), v0.2.1, v0.2.2.1, v0.2.2.2.1, r1.2.2, v0.2.2.2.2.2.1, v0.2.2.2.2.2.2.1, v0.2.2.2.2.2.2.2)) := hD
  refine lv_iload_n hx hb dX10_house_20 rfl (lv_at hl 0 rfl) ?_
  refine lv_if_ne (tgt := 46) hx hb dX10_house_21 rfl (fun c2 => ?_) (fun c2 => ?_)
  · have hf := it_f hf c2
    refine lv_aload_n hx hb dX10_house_46 rfl (lv_at hl 1 rfl) ?_
    refine va_get (D := E.1) (ci := 8) (v := .ref (a0 26)) (C := RX10) (T := TX10) (N := 8) hx hb hts w2 hown hC.1 hP 0 rfl rfl 3 (by decide) w7 (fun _ h9 => h9) rfl dX10_house_47 ?_
    refine lv_aload_n hx hb dX10_house_50 rfl (lv_at hl 1 rfl) ?_
    refine va_get (D := E.1) (ci := 8) (v := .ref (a0 4)) (C := RX10) (T := TX10) (N := 8) hx hb hts w2 hown hC.1 hP 0 rfl rfl 4 (by decide) w3 (fun _ h9 => h9) rfl dX10_house_51 ?_
    obtain ⟨r3, e3, hf⟩ := bd_some hf
    refine cqt_v (wc := (wHS E (fun k => a0 (k + 26)) v0.2.2.2.1 ++ wHS E (fun k => a0 (k + 4)) r1.2.2)) (ws := wG0 E a0 db di (((r1.2.1.1.1, (0 : Int32)), r1.2.1.2.1, r1.2.1.2.2.1, r1.2.1.2.2.2), v0.2.1, v0.2.2.1, v0.2.2.2.1, r1.2.2, v0.2.2.2.2.2.1, v0.2.2.2.2.2.2.1, v0.2.2.2.2.2.2.2)) (tl := wGT E db di (((r1.2.1.1.1, (0 : Int32)), r1.2.1.2.1, r1.2.1.2.2.1, r1.2.1.2.2.2), v0.2.1, v0.2.2.1, v0.2.2.2.1, r1.2.2, v0.2.2.2.2.2.1, v0.2.2.2.2.2.2.1, v0.2.2.2.2.2.2.2)) hP hD hS hA [26, 27, 28, 29, 30, 31, 32, 33, 34, 35, 36, 37, 38, 39, 40, 41, 42, 43, 44, 4, 5, 6, 7, 8, 9, 10, 11, 12, 13, 14, 15, 16, 17, 18, 19, 20, 21, 22] [0, 1, 2, 3, 23, 24, 25] (va_runV (As := [.ref (a0 4)]) (rest := []) ⟨hx, hb, hml, hown, hts⟩ (c_X5_become l E H.size (fun k => a0 (k + 26)) v0.2.2.2.1 (fun k => a0 (k + 4)) r1.2.2 r3 e3) (cwV 1 hts gX10_house_X5_become rfl rfl rfl hdV_X5_become ⟨Nat.le_of_ble_eq_true rfl, Nat.le_of_ble_eq_true rfl⟩) ⟨PW.blind, va_recv hC.1 hP (ci := 4) (q0 := 26) rfl rfl, PW.pre hC hS (hP.sub [26, 27, 28, 29, 30, 31, 32, 33, 34, 35, 36, 37, 38, 39, 40, 41, 42, 43, 44, 4, 5, 6, 7, 8, 9, 10, 11, 12, 13, 14, 15, 16, 17, 18, 19, 20, 21, 22] rfl) (hD.sub [26, 27, 28, 29, 30, 31, 32, 33, 34, 35, 36, 37, 38, 39, 40, 41, 42, 43, 44, 4, 5, 6, 7, 8, 9, 10, 11, 12, 13, 14, 15, 16, 17, 18, 19, 20, 21, 22] rfl rfl) (va_free hD hS hA [26, 27, 28, 29, 30, 31, 32, 33, 34, 35, 36, 37, 38, 39, 40, 41, 42, 43, 44, 4, 5, 6, 7, 8, 9, 10, 11, 12, 13, 14, 15, 16, 17, 18, 19, 20, 21, 22] rfl)⟩ rfl rfl hl.1 rfl (lv_room (Nat.le_of_ble_eq_true rfl)) dX10_house_54 ⟨Nat.le_of_ble_eq_true rfl, Nat.le_of_ble_eq_true rfl⟩) 45 rfl (by decide +kernel) rfl (wG0 E a0 db di (((r1.2.1.1.1, (0 : Int32)), r1.2.1.2.1, r1.2.1.2.2.1, r1.2.1.2.2.2), v0.2.1, v0.2.2.1, r3, r1.2.2, v0.2.2.2.2.2.1, v0.2.2.2.2.2.2.1, v0.2.2.2.2.2.2.2)) rfl rfl (fun H locs hP hD hS => ?_)
    have hP : va_P E.1 vwCl (wGC E a0 db di (((r1.2.1.1.1, (0 : Int32)), r1.2.1.2.1, r1.2.1.2.2.1, r1.2.1.2.2.2), v0.2.1, v0.2.2.1, r3, r1.2.2, v0.2.2.2.2.2.1, v0.2.2.2.2.2.2.1, v0.2.2.2.2.2.2.2)) H := hP
    have hD : va_D A (wGC E a0 db di (((r1.2.1.1.1, (0 : Int32)), r1.2.1.2.1, r1.2.1.2.2.1, r1.2.1.2.2.2), v0.2.1, v0.2.2.1, r3, r1.2.2, v0.2.2.2.2.2.1, v0.2.2.2.2.2.2.1, v0.2.2.2.2.2.2.2)) := hD
    refine lv_aload_n hx hb dX10_house_57 rfl (lv_at hl 1 rfl) ?_
    refine lv_iconst (v := 1) hx hb dX10_house_58 rfl ?_
    refine va_put (D := E.1) (ci := 8) (v := .int (1 : Int32)) (ty := .boolean) (C := RX10) (T := TX10) (N := 8) hx hb hts w2 tyX10 tyX10_ok nmX10 hown hC.1 hP hD hS 0 rfl rfl 6 (by decide) w8 (fun _ h9 => h9) rfl (by decide +kernel) rfl rfl (Nat.le_of_ble_eq_true rfl) dX10_house_59 (fun H locs hP hD hS => ?_)
    have hP : va_P E.1 vwCl (wGC E a0 db di (((r1.2.1.1.1, (0 : Int32)), r1.2.1.2.1, r1.2.1.2.2.1, r1.2.1.2.2.2), v0.2.1, v0.2.2.1, r3, r1.2.2, v0.2.2.2.2.2.1, (1 : Int32), v0.2.2.2.2.2.2.2)) H := hP
    have hD : va_D A (wGC E a0 db di (((r1.2.1.1.1, (0 : Int32)), r1.2.1.2.1, r1.2.1.2.2.1, r1.2.1.2.2.2), v0.2.1, v0.2.2.1, r3, r1.2.2, v0.2.2.2.2.2.1, (1 : Int32), v0.2.2.2.2.2.2.2)) := hD
    refine lv_aload_n hx hb dX10_house_62 rfl (lv_at hl 1 rfl) ?_
    refine va_get (D := E.1) (ci := 8) (v := .ref (a0 24)) (C := RX10) (T := TX10) (N := 8) hx hb hts w2 hown hC.1 hP 0 rfl rfl 2 (by decide) w9 (fun _ h9 => h9) rfl dX10_house_63 ?_
    refine cqt_v (wc := (wAO E (fun k => a0 (k + 24)) v0.2.2.1)) (ws := wG0 E a0 db di (((r1.2.1.1.1, (0 : Int32)), r1.2.1.2.1, r1.2.1.2.2.1, r1.2.1.2.2.2), v0.2.1, v0.2.2.1, r3, r1.2.2, v0.2.2.2.2.2.1, (1 : Int32), v0.2.2.2.2.2.2.2)) (tl := wGT E db di (((r1.2.1.1.1, (0 : Int32)), r1.2.1.2.1, r1.2.1.2.2.1, r1.2.1.2.2.2), v0.2.1, v0.2.2.1, r3, r1.2.2, v0.2.2.2.2.2.1, (1 : Int32), v0.2.2.2.2.2.2.2)) hP hD hS hA [24] [0, 1, 2, 3, 4, 5, 6, 7, 8, 9, 10, 11, 12, 13, 14, 15, 16, 17, 18, 19, 20, 21, 22, 23, 25, 26, 27, 28, 29, 30, 31, 32, 33, 34, 35, 36, 37, 38, 39, 40, 41, 42, 43, 44] (va_runV (As := []) (rest := []) ⟨hx, hb, hml, hown, hts⟩ (c_X0_forget l E H.size (fun k => a0 (k + 24)) v0.2.2.1 (v0.2.2.1.1, v0.2.2.1.2.1, (0 : Int32)) rfl) (cwV 0 hts gX10_house_X0_forget rfl rfl rfl hdV_X0_forget ⟨Nat.le_of_ble_eq_true rfl, Nat.le_of_ble_eq_true rfl⟩) ⟨PW.blind, va_recv hC.1 hP (ci := 0) (q0 := 24) rfl rfl, PW.pre hC hS (hP.sub [24] rfl) (hD.sub [24] rfl rfl) (va_free hD hS hA [24] rfl)⟩ rfl rfl hl.1 rfl (lv_room (Nat.le_of_ble_eq_true rfl)) dX10_house_66 ⟨Nat.le_of_ble_eq_true rfl, Nat.le_of_ble_eq_true rfl⟩) 45 rfl (by decide +kernel) rfl (wG0 E a0 db di (((r1.2.1.1.1, (0 : Int32)), r1.2.1.2.1, r1.2.1.2.2.1, r1.2.1.2.2.2), v0.2.1, (v0.2.2.1.1, v0.2.2.1.2.1, (0 : Int32)), r3, r1.2.2, v0.2.2.2.2.2.1, (1 : Int32), v0.2.2.2.2.2.2.2)) rfl rfl (fun H locs hP hD hS => ?_)
    have hP : va_P E.1 vwCl (wGC E a0 db di (((r1.2.1.1.1, (0 : Int32)), r1.2.1.2.1, r1.2.1.2.2.1, r1.2.1.2.2.2), v0.2.1, (v0.2.2.1.1, v0.2.2.1.2.1, (0 : Int32)), r3, r1.2.2, v0.2.2.2.2.2.1, (1 : Int32), v0.2.2.2.2.2.2.2)) H := hP
    have hD : va_D A (wGC E a0 db di (((r1.2.1.1.1, (0 : Int32)), r1.2.1.2.1, r1.2.1.2.2.1, r1.2.1.2.2.2), v0.2.1, (v0.2.2.1.1, v0.2.2.1.2.1, (0 : Int32)), r3, r1.2.2, v0.2.2.2.2.2.1, (1 : Int32), v0.2.2.2.2.2.2.2)) := hD
    refine lv_aload_n hx hb dX10_house_69 rfl (lv_at hl 1 rfl) ?_
    refine va_get (D := E.1) (ci := 8) (v := .ref (a0 26)) (C := RX10) (T := TX10) (N := 8) hx hb hts w2 hown hC.1 hP 0 rfl rfl 3 (by decide) w7 (fun _ h9 => h9) rfl dX10_house_70 ?_
    refine va_get (D := E.1) (ci := 4) (v := .ref (a0 39)) (C := RX5) (T := TX5) (N := 9) hx hb hts w11 hown hC.1 hP 26 rfl rfl 8 (by decide) w10 (fun _ h9 => h9) rfl dX10_house_73 ?_
    refine lv_iconst (v := 1) hx hb dX10_house_76 rfl ?_
    obtain ⟨r4, e4, hf⟩ := bd_some hf
    refine cr_i (va_runV (As := [.int (1 : Int32)]) (rest := []) ⟨hx, hb, hml, hown, hts⟩ (c_X3_manyOf l E (fun k => a0 (k + 39)) r3.2.2.2.2.2.2.2.2 (1 : Int32) r4 e4) (cwV 1 hts gX10_house_X3_manyOf rfl rfl rfl hdV_X3_manyOf ⟨Nat.le_of_ble_eq_true rfl, Nat.le_of_ble_eq_true rfl⟩) ⟨PR.blind, va_recv hC.1 hP (ci := 3) (q0 := 39) rfl rfl, PR.pre hC hS (hP.sub [39, 40, 41, 42, 43, 44] rfl)⟩ rfl rfl hl.1 rfl (lv_room (Nat.le_of_ble_eq_true rfl)) dX10_house_77 ⟨Nat.le_of_ble_eq_true rfl, Nat.le_of_ble_eq_true rfl⟩) ?_
    cases Option.some.inj hf
    subst hQe
    exact eg_i hx hb hr hlocks hP hD hS dX10_house_80
  · have hf := it_t hf c2
    refine lv_aload_n hx hb dX10_house_24 rfl (lv_at hl 1 rfl) ?_
    refine lv_aload_n hx hb dX10_house_25 rfl (lv_at hl 1 rfl) ?_
    refine va_get (D := E.1) (ci := 8) (v := .ref (a0 1)) (C := RX10) (T := TX10) (N := 8) hx hb hts w2 hown hC.1 hP 0 rfl rfl 0 (by decide) w1 (fun _ h9 => h9) rfl dX10_house_26 ?_
    refine va_get (D := E.1) (ci := 5) (v := .int r1.2.1.2.2.1) (C := RX7) (T := TX7) (N := 4) hx hb hts w13 hown hC.1 hP 1 rfl rfl 2 (by decide) w12 (fun _ h9 => h9) rfl dX10_house_29 ?_
    refine va_put (D := E.1) (ci := 8) (v := .int r1.2.1.2.2.1) (ty := .int) (C := RX10) (T := TX10) (N := 8) hx hb hts w2 tyX10 tyX10_ok nmX10 hown hC.1 hP hD hS 0 rfl rfl 7 (by decide) w14 (fun _ h9 => h9) rfl (by decide +kernel) rfl rfl (Nat.le_of_ble_eq_true rfl) dX10_house_32 (fun H locs hP hD hS => ?_)
    have hP : va_P E.1 vwCl (wGC E a0 db di (((r1.2.1.1.1, (0 : Int32)), r1.2.1.2.1, r1.2.1.2.2.1, r1.2.1.2.2.2), v0.2.1, v0.2.2.1, v0.2.2.2.1, r1.2.2, v0.2.2.2.2.2.1, v0.2.2.2.2.2.2.1, r1.2.1.2.2.1)) H := hP
    have hD : va_D A (wGC E a0 db di (((r1.2.1.1.1, (0 : Int32)), r1.2.1.2.1, r1.2.1.2.2.1, r1.2.1.2.2.2), v0.2.1, v0.2.2.1, v0.2.2.2.1, r1.2.2, v0.2.2.2.2.2.1, v0.2.2.2.2.2.2.1, r1.2.1.2.2.1)) := hD
    refine lv_ldc hx hb hown w15 dX10_house_35 ?_
    refine lv_aload_n hx hb dX10_house_37 rfl (lv_at hl 1 rfl) ?_
    refine va_get (D := E.1) (ci := 8) (v := .ref (a0 1)) (C := RX10) (T := TX10) (N := 8) hx hb hts w2 hown hC.1 hP 0 rfl rfl 0 (by decide) w1 (fun _ h9 => h9) rfl dX10_house_38 ?_
    refine va_get (D := E.1) (ci := 5) (v := .int r1.2.1.2.1) (C := RX7) (T := TX7) (N := 4) hx hb hts w13 hown hC.1 hP 1 rfl rfl 1 (by decide) w16 (fun _ h9 => h9) rfl dX10_house_41 ?_
    refine lv_isub hx hb dX10_house_44 ?_
    cases Option.some.inj hf
    subst hQe
    exact eg_i hx hb hr hlocks hP hD hS dX10_house_45

/-! X10_fault -/
abbrev rmX10_fault : Room := { frames := 0, cells := 0, slots := 0, locals := 0 }
theorem hdS_X10_fault : yX10_fault.cls ≠ "java/lang/invoke/MethodHandle" ∧ yX10_fault.cls ≠ "java/lang/invoke/VarHandle" ∧ (parseMethodDescriptor yX10_fault.desc).map (fun d => d.parameters.length) = some 0 := by decide +kernel
theorem hdV_X10_fault : yX10_fault.cls = RX10 ∧ yX10_fault.cls ≠ "java/lang/invoke/MethodHandle" ∧ yX10_fault.cls ≠ "java/lang/invoke/VarHandle" ∧ (parseMethodDescriptor yX10_fault.desc).map (fun d => d.parameters.length) = some 0 := ⟨rfl, hdS_X10_fault⟩
set_option maxHeartbeats 4000000 in
set_option maxRecDepth 100000 in
theorem c_X10_fault (l : Launch) (E : G0) (a0 : Nat → Nat) (db di : Nat → Nat → Nat) (v0 : GC) (x : Int32) (hf : f_X10_fault v0 = x) : Met l yX10_fault wsX10_fault rmX10_fault (va_Pc [.ref (a0 0)] (PR E (wGC E a0 db di v0))) (vp_Si (fun r => r = x)) 0 0 (fun _ => False) := by
  refine Met.ofW (cc := cX10_fault) (maxL := 1) (ret := some .int) (by decide) rfl ?_
  intro p e s m args below meth c s₁ B hml hv
  obtain ⟨ha, hP, hC⟩ := hv
  have hx := B.exec
  have hb := B.bytes
  have hr := B.returns
  have hts := atoms_spec (ws := wsX10_fault) B.pre
  have hown : s.vm.findClass RX10 = some m.cls := findClass_of_methodNamed B.named
  have hlocks := B.notSynchronized
  have hS : va_S (fun _ => False) s.heap s.heap [] := va_S.rf
  have w1 : (Cond.fieldLink RX10 46 "GreatChunks" "latestFault" "I").before args s = true := hts _ (List.mem_of_getElem? (i := 1) rfl)
  have w2 : ∀ w ∈ wsX100, w ∈ wsX10_fault := in_pl 2 rfl
  generalize hQe : MQ below (vp_Si (fun r => r = x)) args s 0 0 (fun _ => False) = Q
  refine st_W ha (Nat.le_of_ble_eq_true rfl) (fun ls hl => ?_)
  have hl : lv_has ls 1 [(0, .ref (a0 0))] := hl
  unfold f_X10_fault at hf
  refine lv_aload_n hx hb dX10_fault_0 rfl (lv_at hl 0 rfl) ?_
  refine va_get (D := E.1) (ci := 8) (v := .int v0.2.2.2.2.2.2.2) (C := RX10) (T := TX10) (N := 8) hx hb hts w2 hown hC.1 hP 0 rfl rfl 7 (by decide) w1 (fun _ h9 => h9) rfl dX10_fault_1 ?_
  subst hf
  subst hQe
  exact en_i hx hb hr hlocks dX10_fault_4

/-! X10_undo -/
abbrev rmX10_undo : Room := { frames := 4, cells := 0, slots := 0, locals := 124 }
theorem hdS_X10_undo : yX10_undo.cls ≠ "java/lang/invoke/MethodHandle" ∧ yX10_undo.cls ≠ "java/lang/invoke/VarHandle" ∧ (parseMethodDescriptor yX10_undo.desc).map (fun d => d.parameters.length) = some 0 := by decide +kernel
theorem hdV_X10_undo : yX10_undo.cls = RX10 ∧ yX10_undo.cls ≠ "java/lang/invoke/MethodHandle" ∧ yX10_undo.cls ≠ "java/lang/invoke/VarHandle" ∧ (parseMethodDescriptor yX10_undo.desc).map (fun d => d.parameters.length) = some 0 := ⟨rfl, hdS_X10_undo⟩
set_option maxHeartbeats 4000000 in
set_option maxRecDepth 100000 in
theorem c_X10_undo (l : Launch) (E : G0) (sz : Nat) (a0 : Nat → Nat) (db di : Nat → Nat → Nat) (v0 : GC) (x : Int32 × GC) (hf : f_X10_undo v0 = some x) : Met l yX10_undo wsX10_undo rmX10_undo (va_Pc [.ref (a0 0)] (PW E (wGC E a0 db di v0) sz)) (va_Qi (fun r (q : DA × GC) => r = x.1 ∧ q.2 = x.2) (fun q t => va_P E.1 vwCl (wGC E a0 q.1.1 q.1.2 q.2) t.heap ∧ va_D (va_A (wGC E a0 db di v0) sz) (wGC E a0 q.1.1 q.1.2 q.2)) (va_A (wGC E a0 db di v0) sz)) 0 0 (va_A (wGC E a0 db di v0) sz) := by
  refine Met.ofW (cc := cX10_undo) (maxL := 1) (ret := some .int) (by decide) rfl ?_
  intro p e s m args below meth c s₁ B hml hv
  obtain ⟨ha, hsz, hP, hD0, hC⟩ := hv
  have hx := B.exec
  have hb := B.bytes
  have hr := B.returns
  have hts := atoms_spec (ws := wsX10_undo) B.pre
  have hown : s.vm.findClass RX10 = some m.cls := findClass_of_methodNamed B.named
  have hlocks := B.notSynchronized
  subst hsz
  have hD := hD0.self (sz := s.heap.size)
  generalize hAe : va_A (wGC E a0 db di v0) s.heap.size = A at hD hC ⊢
  have hA : ∀ q : Nat, s.heap.size ≤ q → A q := fun q h => by rw [← hAe]; exact Or.inr h
  have hS : va_S A s.heap s.heap [] := va_S.rf
  have w1 : (Cond.fieldLink RX10 24 "GreatChunks" "acts" "LGreatChunks$Acts;").before args s = true := hts _ (List.mem_of_getElem? (i := 1) rfl)
  have w2 : ∀ w ∈ wsX100, w ∈ wsX10_undo := in_pl 71 rfl
  have w3 : (Cond.fieldLink RX10 31 "GreatChunks" "house" "LGreatChunks$House;").before args s = true := hts _ (List.mem_of_getElem? (i := 2) rfl)
  have w4 : (Cond.constant RX10 99 (-1000002)).before args s = true := hts _ (List.mem_of_getElem? (i := 4) rfl)
  have w5 : (Cond.fieldLink RX10 96 "GreatChunks$Acts" "kept" "I").before args s = true := hts _ (List.mem_of_getElem? (i := 3) rfl)
  have w6 : ∀ w ∈ wsX00, w ∈ wsX10_undo := in_pl 79 rfl
  generalize hQe : MQ below (va_Qi (fun r (q : DA × GC) => r = x.1 ∧ q.2 = x.2) (fun q t => va_P E.1 vwCl (wGC E a0 q.1.1 q.1.2 q.2) t.heap ∧ va_D A (wGC E a0 q.1.1 q.1.2 q.2)) A) args s 0 0 A = Q
  refine st_W ha (Nat.le_of_ble_eq_true rfl) (fun ls hl => ?_)
  have hl : lv_has ls 1 [(0, .ref (a0 0))] := hl
  unfold f_X10_undo at hf
  refine lv_aload_n hx hb dX10_undo_0 rfl (lv_at hl 0 rfl) ?_
  refine va_get (D := E.1) (ci := 8) (v := .ref (a0 24)) (C := RX10) (T := TX10) (N := 8) hx hb hts w2 hown hC.1 hP 0 rfl rfl 2 (by decide) w1 (fun _ h9 => h9) rfl dX10_undo_1 ?_
  refine lv_aload_n hx hb dX10_undo_4 rfl (lv_at hl 0 rfl) ?_
  refine va_get (D := E.1) (ci := 8) (v := .ref (a0 26)) (C := RX10) (T := TX10) (N := 8) hx hb hts w2 hown hC.1 hP 0 rfl rfl 3 (by decide) w3 (fun _ h9 => h9) rfl dX10_undo_5 ?_
  obtain ⟨r1, e1, hf⟩ := bd_some hf
  have hrv := va_recv hC.1 hP (ci := 0) (q0 := 24) rfl rfl
  have hpm := gc_perm E a0 db di v0
  have hP := hP.perm hpm
  have hD := hD.perm hpm
  refine cp_i (wc := wAK E (fun k => a0 (k + 24)) db v0.2.2.1 v0.2.2.2.1) (wf := (fun q : (Nat → Nat → Nat) × ACT × HS => wAK E (fun k => a0 (k + 24)) q.1 q.2.1 q.2.2)) hP hD hS hA (va_runV (As := [.ref (a0 26)]) (rest := []) ⟨hx, hb, hml, hown, hts⟩ (c_X0_takeBack l E s.heap.size (fun k => a0 (k + 24)) db v0.2.2.1 v0.2.2.2.1 r1 e1) (cwV 1 hts gX10_undo_X0_takeBack rfl rfl rfl hdV_X0_takeBack ⟨Nat.le_of_ble_eq_true rfl, Nat.le_of_ble_eq_true rfl⟩) ⟨PW.blind, hrv, PW.pre hC hS (va_P.of (fun z hz => hP.mem (List.mem_append_right _ hz))) hD.right (va_freeR hD hS hA)⟩ rfl rfl hl.1 rfl (lv_room (Nat.le_of_ble_eq_true rfl)) dX10_undo_8 ⟨Nat.le_of_ble_eq_true rfl, Nat.le_of_ble_eq_true rfl⟩) (fun r9 u9 H locs hw9 hP hD hS => ?_)
  obtain ⟨db, u9⟩ := u9
  obtain ⟨hw8, hw9⟩ := hw9
  have hw9 : u9 = r1.2 := hw9
  subst hw8
  subst hw9
  have hpm := (gc_perm E a0 db di (v0.1, v0.2.1, r1.2.1, r1.2.2, v0.2.2.2.2.1, v0.2.2.2.2.2.1, v0.2.2.2.2.2.2.1, v0.2.2.2.2.2.2.2)).symm
  have hP : va_P E.1 vwCl (wGC E a0 db di (v0.1, v0.2.1, r1.2.1, r1.2.2, v0.2.2.2.2.1, v0.2.2.2.2.2.1, v0.2.2.2.2.2.2.1, v0.2.2.2.2.2.2.2)) H := hP.perm hpm
  have hD : va_D A (wGC E a0 db di (v0.1, v0.2.1, r1.2.1, r1.2.2, v0.2.2.2.2.1, v0.2.2.2.2.2.1, v0.2.2.2.2.2.2.1, v0.2.2.2.2.2.2.2)) := hD.perm hpm
  refine lv_if_eq (tgt := 24) hx hb dX10_undo_11 rfl (fun c2 => ?_) (fun c2 => ?_)
  · have hf := it_t hf c2
    refine lv_ldc hx hb hown w4 dX10_undo_24 ?_
    cases Option.some.inj hf
    subst hQe
    exact eg_i hx hb hr hlocks hP hD hS dX10_undo_26
  · have hf := it_f hf c2
    refine lv_aload_n hx hb dX10_undo_14 rfl (lv_at hl 0 rfl) ?_
    refine va_get (D := E.1) (ci := 8) (v := .ref (a0 24)) (C := RX10) (T := TX10) (N := 8) hx hb hts w2 hown hC.1 hP 0 rfl rfl 2 (by decide) w1 (fun _ h9 => h9) rfl dX10_undo_15 ?_
    refine va_get (D := E.1) (ci := 0) (v := .int r1.2.1.2.2) (C := RX0) (T := TX0) (N := 3) hx hb hts w6 hown hC.1 hP 24 rfl rfl 2 (by decide) w5 (fun _ h9 => h9) rfl dX10_undo_18 ?_
    refine lv_goto (tgt := 26) hx hb dX10_undo_21 rfl ?_
    cases Option.some.inj hf
    subst hQe
    exact eg_i hx hb hr hlocks hP hD hS dX10_undo_26

/-! X10_isKindOfFiles -/
abbrev rmX10_isKindOfFiles : Room := { frames := 1, cells := 0, slots := 0, locals := 20 }
theorem hdS_X10_isKindOfFiles : yX10_isKindOfFiles.cls ≠ "java/lang/invoke/MethodHandle" ∧ yX10_isKindOfFiles.cls ≠ "java/lang/invoke/VarHandle" ∧ (parseMethodDescriptor yX10_isKindOfFiles.desc).map (fun d => d.parameters.length) = some 1 := by decide +kernel
set_option maxHeartbeats 4000000 in
set_option maxRecDepth 100000 in
theorem c_X10_isKindOfFiles (l : Launch) (E : G0) (p0 : Int32) (x : Bool) (hf : f_X10_isKindOfFiles p0 = x) : Met l yX10_isKindOfFiles wsX10_isKindOfFiles rmX10_isKindOfFiles (va_Pc [.int p0] (PR E ([] : va_W))) (vp_Si (fun r => r = bI x)) 0 0 (fun _ => False) := by
  refine Met.ofW (cc := cX10_isKindOfFiles) (maxL := 1) (ret := some .boolean) (by decide) rfl ?_
  intro p e s m args below meth c s₁ B hml hv
  obtain ⟨ha, hP, hC⟩ := hv
  have hx := B.exec
  have hb := B.bytes
  have hr := B.returns
  have hts := atoms_spec (ws := wsX10_isKindOfFiles) B.pre
  have hown : s.vm.findClass RX10 = some m.cls := findClass_of_methodNamed B.named
  have hlocks := B.notSynchronized
  have hS : va_S (fun _ => False) s.heap s.heap [] := va_S.rf
  generalize hQe : MQ below (vp_Si (fun r => r = bI x)) args s 0 0 (fun _ => False) = Q
  refine st_W ha (Nat.le_of_ble_eq_true rfl) (fun ls hl => ?_)
  have hl : lv_has ls 1 [(0, .int p0)] := hl
  unfold f_X10_isKindOfFiles at hf
  refine lv_iload_n hx hb dX10_isKindOfFiles_0 rfl (lv_at hl 0 rfl) ?_
  refine cr_i (va_runS (As := [.int p0]) (rest := []) ⟨hx, hb, hml, hown, hts⟩ (c_X6_has l E p0 _ rfl) (va_cwS 1 hts gX10_isKindOfFiles_X6_has rfl rfl rfl hdS_X6_has ⟨Nat.le_of_ble_eq_true rfl, Nat.le_of_ble_eq_true rfl⟩) ⟨PR.blind, PR.pre hC hS hP⟩ rfl rfl hl.1 rfl (lv_room (Nat.le_of_ble_eq_true rfl)) dX10_isKindOfFiles_1 ⟨Nat.le_of_ble_eq_true rfl, Nat.le_of_ble_eq_true rfl⟩) ?_
  refine lv_if_eq (tgt := 15) hx hb dX10_isKindOfFiles_4 rfl (fun c1 => ?_) (fun c1 => ?_)
  · have hf := it_t hf c1
    refine lv_iconst (v := 0) hx hb dX10_isKindOfFiles_15 rfl ?_
    subst hf
    subst hQe
    exact en_z hx hb hr hlocks rfl dX10_isKindOfFiles_16
  · have hf := it_f hf c1
    refine lv_iload_n hx hb dX10_isKindOfFiles_7 rfl (lv_at hl 0 rfl) ?_
    refine lv_if_eq (tgt := 15) hx hb dX10_isKindOfFiles_8 rfl (fun c2 => ?_) (fun c2 => ?_)
    · have hf := it_t hf c2
      refine lv_iconst (v := 0) hx hb dX10_isKindOfFiles_15 rfl ?_
      subst hf
      subst hQe
      exact en_z hx hb hr hlocks rfl dX10_isKindOfFiles_16
    · have hf := it_f hf c2
      refine lv_iconst (v := 1) hx hb dX10_isKindOfFiles_11 rfl ?_
      refine lv_goto (tgt := 16) hx hb dX10_isKindOfFiles_12 rfl ?_
      subst hf
      subst hQe
      exact en_z hx hb hr hlocks rfl dX10_isKindOfFiles_16

/-! X10_create -/
abbrev rmX10_create : Room := { frames := 4, cells := 19, slots := 1854, locals := 123 }
theorem hdS_X10_create : yX10_create.cls ≠ "java/lang/invoke/MethodHandle" ∧ yX10_create.cls ≠ "java/lang/invoke/VarHandle" ∧ (parseMethodDescriptor yX10_create.desc).map (fun d => d.parameters.length) = some 2 := by decide +kernel
theorem hdV_X10_create : yX10_create.cls = RX10 ∧ yX10_create.cls ≠ "java/lang/invoke/MethodHandle" ∧ yX10_create.cls ≠ "java/lang/invoke/VarHandle" ∧ (parseMethodDescriptor yX10_create.desc).map (fun d => d.parameters.length) = some 2 := ⟨rfl, hdS_X10_create⟩
set_option maxHeartbeats 4000000 in
set_option maxRecDepth 100000 in
theorem c_X10_create (l : Launch) (E : G0) (sz : Nat) (a0 : Nat → Nat) (db di : Nat → Nat → Nat) (v0 : GC) (p1 : Int32) (p2 : Int32) (x : Int32 × GC) (hf : f_X10_create v0 p1 p2 = some x) : Met l yX10_create wsX10_create rmX10_create (va_Pc [.ref (a0 0), .int p1, .int p2] (PW E (wGC E a0 db di v0) sz)) (va_Qi (fun r (q : DA × GC) => r = x.1 ∧ q.2 = x.2) (fun q t => va_P E.1 vwCl (wGC E a0 q.1.1 q.1.2 q.2) t.heap ∧ va_D (va_A (wGC E a0 db di v0) sz) (wGC E a0 q.1.1 q.1.2 q.2)) (va_A (wGC E a0 db di v0) sz)) 19 1854 (va_A (wGC E a0 db di v0) sz) := by
  refine Met.ofW (cc := cX10_create) (maxL := 3) (ret := some .int) (by decide) rfl ?_
  intro p e s m args below meth c s₁ B hml hv
  obtain ⟨ha, hsz, hP, hD0, hC⟩ := hv
  have hx := B.exec
  have hb := B.bytes
  have hr := B.returns
  have hts := atoms_spec (ws := wsX10_create) B.pre
  have hown : s.vm.findClass RX10 = some m.cls := findClass_of_methodNamed B.named
  have hlocks := B.notSynchronized
  subst hsz
  have hD := hD0.self (sz := s.heap.size)
  generalize hAe : va_A (wGC E a0 db di v0) s.heap.size = A at hD hC ⊢
  have hA : ∀ q : Nat, s.heap.size ≤ q → A q := fun q h => by rw [← hAe]; exact Or.inr h
  have hS : va_S A s.heap s.heap [] := va_S.rf
  have w1 : (Cond.fieldLink RX10 42 "GreatChunks" "standing" "Z").before args s = true := hts _ (List.mem_of_getElem? (i := 1) rfl)
  have w2 : ∀ w ∈ wsX100, w ∈ wsX10_create := in_pl 137 rfl
  have w3 : (Cond.constant RX10 99 (-1000002)).before args s = true := hts _ (List.mem_of_getElem? (i := 2) rfl)
  have w4 : (Cond.constant RX10 54 (-1000001)).before args s = true := hts _ (List.mem_of_getElem? (i := 3) rfl)
  have w5 : (Cond.fieldLink RX10 31 "GreatChunks" "house" "LGreatChunks$House;").before args s = true := hts _ (List.mem_of_getElem? (i := 4) rfl)
  have w6 : (Cond.fieldLink RX10 83 "GreatChunks$House" "files" "LGreatChunks$Files;").before args s = true := hts _ (List.mem_of_getElem? (i := 5) rfl)
  have w7 : ∀ w ∈ wsX50, w ∈ wsX10_create := in_pl 145 rfl
  have w8 : (Cond.fieldLink RX10 24 "GreatChunks" "acts" "LGreatChunks$Acts;").before args s = true := hts _ (List.mem_of_getElem? (i := 6) rfl)
  generalize hQe : MQ below (va_Qi (fun r (q : DA × GC) => r = x.1 ∧ q.2 = x.2) (fun q t => va_P E.1 vwCl (wGC E a0 q.1.1 q.1.2 q.2) t.heap ∧ va_D A (wGC E a0 q.1.1 q.1.2 q.2)) A) args s 19 1854 A = Q
  refine st_W ha (Nat.le_of_ble_eq_true rfl) (fun ls hl => ?_)
  have hl : lv_has ls 3 [(0, .ref (a0 0)), (1, .int p1), (2, .int p2)] := hl
  unfold f_X10_create at hf
  refine lv_aload_n hx hb dX10_create_0 rfl (lv_at hl 0 rfl) ?_
  refine va_get (D := E.1) (ci := 8) (v := .int v0.2.2.2.2.2.2.1) (C := RX10) (T := TX10) (N := 8) hx hb hts w2 hown hC.1 hP 0 rfl rfl 6 (by decide) w1 (fun _ h9 => h9) rfl dX10_create_1 ?_
  refine lv_if_ne (tgt := 10) hx hb dX10_create_4 rfl (fun c1 => ?_) (fun c1 => ?_)
  · have hf := it_f hf c1
    refine lv_iload_n hx hb dX10_create_10 rfl (lv_at hl 1 rfl) ?_
    refine cr_i (va_runS (As := [.int p1]) (rest := []) ⟨hx, hb, hml, hown, hts⟩ (c_X10_isFile l E p1 _ rfl) (va_cwS 1 hts gX10_create_X10_isFile rfl rfl rfl hdS_X10_isFile ⟨Nat.le_of_ble_eq_true rfl, Nat.le_of_ble_eq_true rfl⟩) ⟨PR.blind, PR.pre hC hS (hP.sub [] rfl)⟩ rfl rfl hl.1 rfl (lv_room (Nat.le_of_ble_eq_true rfl)) dX10_create_11 ⟨Nat.le_of_ble_eq_true rfl, Nat.le_of_ble_eq_true rfl⟩) ?_
    refine lv_if_eq (tgt := 24) hx hb dX10_create_14 rfl (fun c2 => ?_) (fun c2 => ?_)
    · have hf := it_t hf c2
      refine lv_ldc hx hb hown w4 dX10_create_24 ?_
      cases Option.some.inj hf
      subst hQe
      refine W.widen (k := 19) (n := 1854) (by decide) (by decide) ?_
      exact eg_i hx hb hr hlocks hP hD hS dX10_create_26
    · have hf := it_f hf c2
      refine lv_iload_n hx hb dX10_create_17 rfl (lv_at hl 2 rfl) ?_
      refine cr_i (va_runS (As := [.int p2]) (rest := []) ⟨hx, hb, hml, hown, hts⟩ (c_X10_isKindOfFiles l E p2 _ rfl) (va_cwS 1 hts gX10_create_X10_isKindOfFiles rfl rfl rfl hdS_X10_isKindOfFiles ⟨Nat.le_of_ble_eq_true rfl, Nat.le_of_ble_eq_true rfl⟩) ⟨PR.blind, PR.pre hC hS (hP.sub [] rfl)⟩ rfl rfl hl.1 rfl (lv_room (Nat.le_of_ble_eq_true rfl)) dX10_create_18 ⟨Nat.le_of_ble_eq_true rfl, Nat.le_of_ble_eq_true rfl⟩) ?_
      refine lv_if_ne (tgt := 27) hx hb dX10_create_21 rfl (fun c3 => ?_) (fun c3 => ?_)
      · have hf := it_f hf c3
        refine lv_aload_n hx hb dX10_create_27 rfl (lv_at hl 0 rfl) ?_
        refine va_get (D := E.1) (ci := 8) (v := .ref (a0 26)) (C := RX10) (T := TX10) (N := 8) hx hb hts w2 hown hC.1 hP 0 rfl rfl 3 (by decide) w5 (fun _ h9 => h9) rfl dX10_create_28 ?_
        refine va_get (D := E.1) (ci := 4) (v := .ref (a0 39)) (C := RX5) (T := TX5) (N := 9) hx hb hts w7 hown hC.1 hP 26 rfl rfl 8 (by decide) w6 (fun _ h9 => h9) rfl dX10_create_31 ?_
        refine lv_iload_n hx hb dX10_create_34 rfl (lv_at hl 1 rfl) ?_
        refine lv_iconst (v := 0) hx hb dX10_create_35 rfl ?_
        obtain ⟨r4, e4, hf⟩ := bd_some hf
        refine cr_i (va_runV (As := [.int p1, .int (0 : Int32)]) (rest := []) ⟨hx, hb, hml, hown, hts⟩ (c_X3_is l E (fun k => a0 (k + 39)) v0.2.2.2.1.2.2.2.2.2.2.2.2 p1 (0 : Int32) r4 e4) (cwV 2 hts gX10_create_X3_is rfl rfl rfl hdV_X3_is ⟨Nat.le_of_ble_eq_true rfl, Nat.le_of_ble_eq_true rfl⟩) ⟨PR.blind, va_recv hC.1 hP (ci := 3) (q0 := 39) rfl rfl, PR.pre hC hS (hP.sub [39, 40, 41, 42, 43, 44] rfl)⟩ rfl rfl hl.1 rfl (lv_room (Nat.le_of_ble_eq_true rfl)) dX10_create_36 ⟨Nat.le_of_ble_eq_true rfl, Nat.le_of_ble_eq_true rfl⟩) ?_
        refine lv_if_ne (tgt := 45) hx hb dX10_create_39 rfl (fun c5 => ?_) (fun c5 => ?_)
        · have hf := it_f hf c5
          refine lv_aload_n hx hb dX10_create_45 rfl (lv_at hl 0 rfl) ?_
          refine va_get (D := E.1) (ci := 8) (v := .ref (a0 24)) (C := RX10) (T := TX10) (N := 8) hx hb hts w2 hown hC.1 hP 0 rfl rfl 2 (by decide) w8 (fun _ h9 => h9) rfl dX10_create_46 ?_
          refine lv_aload_n hx hb dX10_create_49 rfl (lv_at hl 0 rfl) ?_
          refine va_get (D := E.1) (ci := 8) (v := .ref (a0 26)) (C := RX10) (T := TX10) (N := 8) hx hb hts w2 hown hC.1 hP 0 rfl rfl 3 (by decide) w5 (fun _ h9 => h9) rfl dX10_create_50 ?_
          obtain ⟨r6, e6, hf⟩ := bd_some hf
          have hrv := va_recv hC.1 hP (ci := 0) (q0 := 24) rfl rfl
          have hpm := gc_perm E a0 db di v0
          have hP := hP.perm hpm
          have hD := hD.perm hpm
          refine cp_v (wc := wAK E (fun k => a0 (k + 24)) db v0.2.2.1 v0.2.2.2.1) (wf := (fun q : (Nat → Nat → Nat) × ACT => wAK E (fun k => a0 (k + 24)) q.1 q.2 v0.2.2.2.1)) hP hD hS hA (va_runV (As := [.ref (a0 26)]) (rest := []) ⟨hx, hb, hml, hown, hts⟩ (c_X0_keep l E s.heap.size (fun k => a0 (k + 24)) db v0.2.2.1 v0.2.2.2.1 r6 e6) (cwV 1 hts gX10_create_X0_keep rfl rfl rfl hdV_X0_keep ⟨Nat.le_of_ble_eq_true rfl, Nat.le_of_ble_eq_true rfl⟩) ⟨PW.blind, hrv, PW.pre hC hS (va_P.of (fun z hz => hP.mem (List.mem_append_right _ hz))) hD.right (va_freeR hD hS hA)⟩ rfl rfl hl.1 rfl (lv_room (Nat.le_of_ble_eq_true rfl)) dX10_create_53 ⟨Nat.le_of_ble_eq_true rfl, Nat.le_of_ble_eq_true rfl⟩) (fun u9 H locs hw9 hP hD hS => ?_)
          obtain ⟨db, u9⟩ := u9
          have hw9 : r6 = u9 := hw9.symm
          subst hw9
          have hpm := (gc_perm E a0 db di (v0.1, v0.2.1, r6, v0.2.2.2.1, v0.2.2.2.2.1, v0.2.2.2.2.2.1, v0.2.2.2.2.2.2.1, v0.2.2.2.2.2.2.2)).symm
          have hP : va_P E.1 vwCl (wGC E a0 db di (v0.1, v0.2.1, r6, v0.2.2.2.1, v0.2.2.2.2.1, v0.2.2.2.2.2.1, v0.2.2.2.2.2.2.1, v0.2.2.2.2.2.2.2)) H := hP.perm hpm
          have hD : va_D A (wGC E a0 db di (v0.1, v0.2.1, r6, v0.2.2.2.1, v0.2.2.2.2.1, v0.2.2.2.2.2.1, v0.2.2.2.2.2.2.1, v0.2.2.2.2.2.2.2)) := hD.perm hpm
          refine lv_aload_n hx hb dX10_create_56 rfl (lv_at hl 0 rfl) ?_
          refine va_get (D := E.1) (ci := 8) (v := .ref (a0 26)) (C := RX10) (T := TX10) (N := 8) hx hb hts w2 hown hC.1 hP 0 rfl rfl 3 (by decide) w5 (fun _ h9 => h9) rfl dX10_create_57 ?_
          refine va_get (D := E.1) (ci := 4) (v := .ref (a0 39)) (C := RX5) (T := TX5) (N := 9) hx hb hts w7 hown hC.1 hP 26 rfl rfl 8 (by decide) w6 (fun _ h9 => h9) rfl dX10_create_60 ?_
          refine lv_iload_n hx hb dX10_create_63 rfl (lv_at hl 1 rfl) ?_
          refine lv_iload_n hx hb dX10_create_64 rfl (lv_at hl 2 rfl) ?_
          obtain ⟨r7, e7, hf⟩ := bd_some hf
          refine cqt_v (wc := (wFL E (fun k => a0 (k + 39)) v0.2.2.2.1.2.2.2.2.2.2.2.2)) (ws := wG0 E a0 db di (v0.1, v0.2.1, r6, v0.2.2.2.1, v0.2.2.2.2.1, v0.2.2.2.2.2.1, v0.2.2.2.2.2.2.1, v0.2.2.2.2.2.2.2)) (tl := wGT E db di (v0.1, v0.2.1, r6, v0.2.2.2.1, v0.2.2.2.2.1, v0.2.2.2.2.2.1, v0.2.2.2.2.2.2.1, v0.2.2.2.2.2.2.2)) hP hD hS hA [39, 40, 41, 42, 43, 44] [0, 1, 2, 3, 4, 5, 6, 7, 8, 9, 10, 11, 12, 13, 14, 15, 16, 17, 18, 19, 20, 21, 22, 23, 24, 25, 26, 27, 28, 29, 30, 31, 32, 33, 34, 35, 36, 37, 38] (va_runV (As := [.int p1, .int p2]) (rest := []) ⟨hx, hb, hml, hown, hts⟩ (c_X3_begin l E H.size (fun k => a0 (k + 39)) v0.2.2.2.1.2.2.2.2.2.2.2.2 p1 p2 r7 e7) (cwV 2 hts gX10_create_X3_begin rfl rfl rfl hdV_X3_begin ⟨Nat.le_of_ble_eq_true rfl, Nat.le_of_ble_eq_true rfl⟩) ⟨PW.blind, va_recv hC.1 hP (ci := 3) (q0 := 39) rfl rfl, PW.pre hC hS (hP.sub [39, 40, 41, 42, 43, 44] rfl) (hD.sub [39, 40, 41, 42, 43, 44] rfl rfl) (va_free hD hS hA [39, 40, 41, 42, 43, 44] rfl)⟩ rfl rfl hl.1 rfl (lv_room (Nat.le_of_ble_eq_true rfl)) dX10_create_65 ⟨Nat.le_of_ble_eq_true rfl, Nat.le_of_ble_eq_true rfl⟩) 45 rfl (by decide +kernel) rfl (wG0 E a0 db di (v0.1, v0.2.1, r6, (v0.2.2.2.1.1, v0.2.2.2.1.2.1, v0.2.2.2.1.2.2.1, v0.2.2.2.1.2.2.2.1, v0.2.2.2.1.2.2.2.2.1, v0.2.2.2.1.2.2.2.2.2.1, v0.2.2.2.1.2.2.2.2.2.2.1, v0.2.2.2.1.2.2.2.2.2.2.2.1, r7), v0.2.2.2.2.1, v0.2.2.2.2.2.1, v0.2.2.2.2.2.2.1, v0.2.2.2.2.2.2.2)) rfl rfl (fun H locs hP hD hS => ?_)
          have hP : va_P E.1 vwCl (wGC E a0 db di (v0.1, v0.2.1, r6, (v0.2.2.2.1.1, v0.2.2.2.1.2.1, v0.2.2.2.1.2.2.1, v0.2.2.2.1.2.2.2.1, v0.2.2.2.1.2.2.2.2.1, v0.2.2.2.1.2.2.2.2.2.1, v0.2.2.2.1.2.2.2.2.2.2.1, v0.2.2.2.1.2.2.2.2.2.2.2.1, r7), v0.2.2.2.2.1, v0.2.2.2.2.2.1, v0.2.2.2.2.2.2.1, v0.2.2.2.2.2.2.2)) H := hP
          have hD : va_D A (wGC E a0 db di (v0.1, v0.2.1, r6, (v0.2.2.2.1.1, v0.2.2.2.1.2.1, v0.2.2.2.1.2.2.1, v0.2.2.2.1.2.2.2.1, v0.2.2.2.1.2.2.2.2.1, v0.2.2.2.1.2.2.2.2.2.1, v0.2.2.2.1.2.2.2.2.2.2.1, v0.2.2.2.1.2.2.2.2.2.2.2.1, r7), v0.2.2.2.2.1, v0.2.2.2.2.2.1, v0.2.2.2.2.2.2.1, v0.2.2.2.2.2.2.2)) := hD
          refine lv_aload_n hx hb dX10_create_68 rfl (lv_at hl 0 rfl) ?_
          refine va_get (D := E.1) (ci := 8) (v := .ref (a0 26)) (C := RX10) (T := TX10) (N := 8) hx hb hts w2 hown hC.1 hP 0 rfl rfl 3 (by decide) w5 (fun _ h9 => h9) rfl dX10_create_69 ?_
          refine va_get (D := E.1) (ci := 4) (v := .ref (a0 39)) (C := RX5) (T := TX5) (N := 9) hx hb hts w7 hown hC.1 hP 26 rfl rfl 8 (by decide) w6 (fun _ h9 => h9) rfl dX10_create_72 ?_
          refine lv_iconst (v := 1) hx hb dX10_create_75 rfl ?_
          obtain ⟨r8, e8, hf⟩ := bd_some hf
          refine cr_i (va_runV (As := [.int (1 : Int32)]) (rest := []) ⟨hx, hb, hml, hown, hts⟩ (c_X3_manyOf l E (fun k => a0 (k + 39)) r7 (1 : Int32) r8 e8) (cwV 1 hts gX10_create_X3_manyOf rfl rfl rfl hdV_X3_manyOf ⟨Nat.le_of_ble_eq_true rfl, Nat.le_of_ble_eq_true rfl⟩) ⟨PR.blind, va_recv hC.1 hP (ci := 3) (q0 := 39) rfl rfl, PR.pre hC hS (hP.sub [39, 40, 41, 42, 43, 44] rfl)⟩ rfl rfl hl.1 rfl (lv_room (Nat.le_of_ble_eq_true rfl)) dX10_create_76 ⟨Nat.le_of_ble_eq_true rfl, Nat.le_of_ble_eq_true rfl⟩) ?_
          cases Option.some.inj hf
          subst hQe
          exact eg_i hx hb hr hlocks hP hD hS dX10_create_79
        · have hf := it_t hf c5
          refine lv_ldc hx hb hown w3 dX10_create_42 ?_
          cases Option.some.inj hf
          subst hQe
          refine W.widen (k := 19) (n := 1854) (by decide) (by decide) ?_
          exact eg_i hx hb hr hlocks hP hD hS dX10_create_44
      · have hf := it_t hf c3
        refine lv_ldc hx hb hown w4 dX10_create_24 ?_
        cases Option.some.inj hf
        subst hQe
        refine W.widen (k := 19) (n := 1854) (by decide) (by decide) ?_
        exact eg_i hx hb hr hlocks hP hD hS dX10_create_26
  · have hf := it_t hf c1
    refine lv_ldc hx hb hown w3 dX10_create_7 ?_
    cases Option.some.inj hf
    subst hQe
    refine W.widen (k := 19) (n := 1854) (by decide) (by decide) ?_
    exact eg_i hx hb hr hlocks hP hD hS dX10_create_9

/-! X10_takeRecord -/
abbrev rmX10_takeRecord : Room := { frames := 3, cells := 0, slots := 0, locals := 63 }
theorem hdS_X10_takeRecord : yX10_takeRecord.cls ≠ "java/lang/invoke/MethodHandle" ∧ yX10_takeRecord.cls ≠ "java/lang/invoke/VarHandle" ∧ (parseMethodDescriptor yX10_takeRecord.desc).map (fun d => d.parameters.length) = some 0 := by decide +kernel
theorem hdV_X10_takeRecord : yX10_takeRecord.cls = RX10 ∧ yX10_takeRecord.cls ≠ "java/lang/invoke/MethodHandle" ∧ yX10_takeRecord.cls ≠ "java/lang/invoke/VarHandle" ∧ (parseMethodDescriptor yX10_takeRecord.desc).map (fun d => d.parameters.length) = some 0 := ⟨rfl, hdS_X10_takeRecord⟩
set_option maxHeartbeats 4000000 in
set_option maxRecDepth 100000 in
theorem c_X10_takeRecord (l : Launch) (E : G0) (sz : Nat) (a0 : Nat → Nat) (db di : Nat → Nat → Nat) (v0 : GC) (x : Int32 × GC) (hf : f_X10_takeRecord v0 = some x) : Met l yX10_takeRecord wsX10_takeRecord rmX10_takeRecord (va_Pc [.ref (a0 0)] (PW E (wGC E a0 db di v0) sz)) (va_Qi (fun r (q : DA × GC) => r = x.1 ∧ q.2 = x.2) (fun q t => va_P E.1 vwCl (wGC E a0 q.1.1 q.1.2 q.2) t.heap ∧ va_D (va_A (wGC E a0 db di v0) sz) (wGC E a0 q.1.1 q.1.2 q.2)) (va_A (wGC E a0 db di v0) sz)) 0 0 (va_A (wGC E a0 db di v0) sz) := by
  refine Met.ofW (cc := cX10_takeRecord) (maxL := 2) (ret := some .int) (by decide) rfl ?_
  intro p e s m args below meth c s₁ B hml hv
  obtain ⟨ha, hsz, hP, hD0, hC⟩ := hv
  have hx := B.exec
  have hb := B.bytes
  have hr := B.returns
  have hts := atoms_spec (ws := wsX10_takeRecord) B.pre
  have hown : s.vm.findClass RX10 = some m.cls := findClass_of_methodNamed B.named
  have hlocks := B.notSynchronized
  subst hsz
  have hD := hD0.self (sz := s.heap.size)
  generalize hAe : va_A (wGC E a0 db di v0) s.heap.size = A at hD hC ⊢
  have hA : ∀ q : Nat, s.heap.size ≤ q → A q := fun q h => by rw [← hAe]; exact Or.inr h
  have hS : va_S A s.heap s.heap [] := va_S.rf
  have w1 : (Cond.fieldLink RX10 20 "GreatChunks" "tape" "LGreatChunks$Tape;").before args s = true := hts _ (List.mem_of_getElem? (i := 1) rfl)
  have w2 : ∀ w ∈ wsX100, w ∈ wsX10_takeRecord := in_pl 16 rfl
  have w3 : (Cond.fieldLink RX10 61 "GreatChunks$Tape" "many" "I").before args s = true := hts _ (List.mem_of_getElem? (i := 2) rfl)
  have w4 : ∀ w ∈ wsX90, w ∈ wsX10_takeRecord := in_pl 24 rfl
  generalize hQe : MQ below (va_Qi (fun r (q : DA × GC) => r = x.1 ∧ q.2 = x.2) (fun q t => va_P E.1 vwCl (wGC E a0 q.1.1 q.1.2 q.2) t.heap ∧ va_D A (wGC E a0 q.1.1 q.1.2 q.2)) A) args s 0 0 A = Q
  refine st_W ha (Nat.le_of_ble_eq_true rfl) (fun ls hl => ?_)
  have hl : lv_has ls 2 [(0, .ref (a0 0))] := hl
  unfold f_X10_takeRecord at hf
  refine lv_aload_n hx hb dX10_takeRecord_0 rfl (lv_at hl 0 rfl) ?_
  refine va_get (D := E.1) (ci := 8) (v := .ref (a0 2)) (C := RX10) (T := TX10) (N := 8) hx hb hts w2 hown hC.1 hP 0 rfl rfl 1 (by decide) w1 (fun _ h9 => h9) rfl dX10_takeRecord_1 ?_
  obtain ⟨r1, e1, hf⟩ := bd_some hf
  refine cr_i (va_runV (As := []) (rest := []) ⟨hx, hb, hml, hown, hts⟩ (c_X9_isOfLetters l E (fun k => a0 (k + 2)) v0.1.1 r1 e1) (cwV 0 hts gX10_takeRecord_X9_isOfLetters rfl rfl rfl hdV_X9_isOfLetters ⟨Nat.le_of_ble_eq_true rfl, Nat.le_of_ble_eq_true rfl⟩) ⟨PR.blind, va_recv hC.1 hP (ci := 7) (q0 := 2) rfl rfl, PR.pre hC hS (hP.sub [2, 3] rfl)⟩ rfl rfl hl.1 rfl (lv_room (Nat.le_of_ble_eq_true rfl)) dX10_takeRecord_4 ⟨Nat.le_of_ble_eq_true rfl, Nat.le_of_ble_eq_true rfl⟩) ?_
  obtain ⟨q2, e2, hf⟩ := bt_eq hf
  have J2 : W p l e (headSpec wsX10_takeRecord rmX10_takeRecord).room s m args below meth c s.heap [] 0 0 Q (F0 m 21 ls [.int q2]) := by
    refine lv_istore_n (lv' := [(1, .int q2), (0, .ref (a0 0))]) hx hb dX10_takeRecord_21 rfl hl (by decide) rfl (fun ls hl => ?_)
    refine lv_aload_n hx hb dX10_takeRecord_22 rfl (lv_at hl 1 rfl) ?_
    refine va_get (D := E.1) (ci := 8) (v := .ref (a0 2)) (C := RX10) (T := TX10) (N := 8) hx hb hts w2 hown hC.1 hP 0 rfl rfl 1 (by decide) w1 (fun _ h9 => h9) rfl dX10_takeRecord_23 ?_
    refine lv_iconst (v := 0) hx hb dX10_takeRecord_26 rfl ?_
    refine va_put (D := E.1) (ci := 7) (v := .int (0 : Int32)) (ty := .int) (C := RX9) (T := TX9) (N := 2) hx hb hts w4 tyX9 tyX9_ok nmX9 hown hC.1 hP hD hS 2 rfl rfl 1 (by decide) w3 (fun _ h9 => h9) rfl (by decide +kernel) rfl rfl (Nat.le_of_ble_eq_true rfl) dX10_takeRecord_27 (fun H locs hP hD hS => ?_)
    have hP : va_P E.1 vwCl (wGC E a0 db di (((v0.1.1.1, (0 : Int32)), v0.1.2.1, v0.1.2.2.1, v0.1.2.2.2), v0.2.1, v0.2.2.1, v0.2.2.2.1, v0.2.2.2.2.1, v0.2.2.2.2.2.1, v0.2.2.2.2.2.2.1, v0.2.2.2.2.2.2.2)) H := hP
    have hD : va_D A (wGC E a0 db di (((v0.1.1.1, (0 : Int32)), v0.1.2.1, v0.1.2.2.1, v0.1.2.2.2), v0.2.1, v0.2.2.1, v0.2.2.2.1, v0.2.2.2.2.1, v0.2.2.2.2.2.1, v0.2.2.2.2.2.2.1, v0.2.2.2.2.2.2.2)) := hD
    refine lv_iload_n hx hb dX10_takeRecord_30 rfl (lv_at hl 0 rfl) ?_
    cases Option.some.inj hf
    subst hQe
    exact eg_i hx hb hr hlocks hP hD hS dX10_takeRecord_31
  have hf := e2
  refine lv_if_eq (tgt := 20) hx hb dX10_takeRecord_7 rfl (fun c3 => ?_) (fun c3 => ?_)
  · have hf := it_t hf c3
    refine lv_iconst (v := 0) hx hb dX10_takeRecord_20 rfl ?_
    cases hf
    exact J2
  · have hf := it_f hf c3
    refine lv_aload_n hx hb dX10_takeRecord_10 rfl (lv_at hl 0 rfl) ?_
    refine va_get (D := E.1) (ci := 8) (v := .ref (a0 2)) (C := RX10) (T := TX10) (N := 8) hx hb hts w2 hown hC.1 hP 0 rfl rfl 1 (by decide) w1 (fun _ h9 => h9) rfl dX10_takeRecord_11 ?_
    refine va_get (D := E.1) (ci := 7) (v := .int v0.1.1.2) (C := RX9) (T := TX9) (N := 2) hx hb hts w4 hown hC.1 hP 2 rfl rfl 1 (by decide) w3 (fun _ h9 => h9) rfl dX10_takeRecord_14 ?_
    refine lv_goto (tgt := 21) hx hb dX10_takeRecord_17 rfl ?_
    cases hf
    exact J2

/-! X10_refusalOfFile -/
abbrev rmX10_refusalOfFile : Room := { frames := 3, cells := 0, slots := 0, locals := 64 }
theorem hdS_X10_refusalOfFile : yX10_refusalOfFile.cls ≠ "java/lang/invoke/MethodHandle" ∧ yX10_refusalOfFile.cls ≠ "java/lang/invoke/VarHandle" ∧ (parseMethodDescriptor yX10_refusalOfFile.desc).map (fun d => d.parameters.length) = some 1 := by decide +kernel
theorem hdV_X10_refusalOfFile : yX10_refusalOfFile.cls = RX10 ∧ yX10_refusalOfFile.cls ≠ "java/lang/invoke/MethodHandle" ∧ yX10_refusalOfFile.cls ≠ "java/lang/invoke/VarHandle" ∧ (parseMethodDescriptor yX10_refusalOfFile.desc).map (fun d => d.parameters.length) = some 1 := ⟨rfl, hdS_X10_refusalOfFile⟩
set_option maxHeartbeats 4000000 in
set_option maxRecDepth 100000 in
theorem c_X10_refusalOfFile (l : Launch) (E : G0) (a0 : Nat → Nat) (db di : Nat → Nat → Nat) (v0 : GC) (p1 : Int32) (x : Int32) (hf : f_X10_refusalOfFile v0 p1 = some x) : Met l yX10_refusalOfFile wsX10_refusalOfFile rmX10_refusalOfFile (va_Pc [.ref (a0 0), .int p1] (PR E (wGC E a0 db di v0))) (vp_Si (fun r => r = x)) 0 0 (fun _ => False) := by
  refine Met.ofW (cc := cX10_refusalOfFile) (maxL := 2) (ret := some .int) (by decide) rfl ?_
  intro p e s m args below meth c s₁ B hml hv
  obtain ⟨ha, hP, hC⟩ := hv
  have hx := B.exec
  have hb := B.bytes
  have hr := B.returns
  have hts := atoms_spec (ws := wsX10_refusalOfFile) B.pre
  have hown : s.vm.findClass RX10 = some m.cls := findClass_of_methodNamed B.named
  have hlocks := B.notSynchronized
  have hS : va_S (fun _ => False) s.heap s.heap [] := va_S.rf
  have w1 : (Cond.fieldLink RX10 42 "GreatChunks" "standing" "Z").before args s = true := hts _ (List.mem_of_getElem? (i := 1) rfl)
  have w2 : ∀ w ∈ wsX100, w ∈ wsX10_refusalOfFile := in_pl 19 rfl
  have w3 : (Cond.constant RX10 99 (-1000002)).before args s = true := hts _ (List.mem_of_getElem? (i := 2) rfl)
  have w4 : (Cond.constant RX10 54 (-1000001)).before args s = true := hts _ (List.mem_of_getElem? (i := 3) rfl)
  have w5 : (Cond.fieldLink RX10 31 "GreatChunks" "house" "LGreatChunks$House;").before args s = true := hts _ (List.mem_of_getElem? (i := 4) rfl)
  have w6 : (Cond.fieldLink RX10 83 "GreatChunks$House" "files" "LGreatChunks$Files;").before args s = true := hts _ (List.mem_of_getElem? (i := 5) rfl)
  have w7 : ∀ w ∈ wsX50, w ∈ wsX10_refusalOfFile := in_pl 27 rfl
  generalize hQe : MQ below (vp_Si (fun r => r = x)) args s 0 0 (fun _ => False) = Q
  refine st_W ha (Nat.le_of_ble_eq_true rfl) (fun ls hl => ?_)
  have hl : lv_has ls 2 [(0, .ref (a0 0)), (1, .int p1)] := hl
  unfold f_X10_refusalOfFile at hf
  refine lv_aload_n hx hb dX10_refusalOfFile_0 rfl (lv_at hl 0 rfl) ?_
  refine va_get (D := E.1) (ci := 8) (v := .int v0.2.2.2.2.2.2.1) (C := RX10) (T := TX10) (N := 8) hx hb hts w2 hown hC.1 hP 0 rfl rfl 6 (by decide) w1 (fun _ h9 => h9) rfl dX10_refusalOfFile_1 ?_
  refine lv_if_ne (tgt := 10) hx hb dX10_refusalOfFile_4 rfl (fun c1 => ?_) (fun c1 => ?_)
  · have hf := it_f hf c1
    refine lv_iload_n hx hb dX10_refusalOfFile_10 rfl (lv_at hl 1 rfl) ?_
    refine cr_i (va_runS (As := [.int p1]) (rest := []) ⟨hx, hb, hml, hown, hts⟩ (c_X10_isFile l E p1 _ rfl) (va_cwS 1 hts gX10_refusalOfFile_X10_isFile rfl rfl rfl hdS_X10_isFile ⟨Nat.le_of_ble_eq_true rfl, Nat.le_of_ble_eq_true rfl⟩) ⟨PR.blind, PR.pre hC hS (hP.sub [] rfl)⟩ rfl rfl hl.1 rfl (lv_room (Nat.le_of_ble_eq_true rfl)) dX10_refusalOfFile_11 ⟨Nat.le_of_ble_eq_true rfl, Nat.le_of_ble_eq_true rfl⟩) ?_
    refine lv_if_ne (tgt := 20) hx hb dX10_refusalOfFile_14 rfl (fun c2 => ?_) (fun c2 => ?_)
    · have hf := it_f hf c2
      refine lv_aload_n hx hb dX10_refusalOfFile_20 rfl (lv_at hl 0 rfl) ?_
      refine va_get (D := E.1) (ci := 8) (v := .ref (a0 26)) (C := RX10) (T := TX10) (N := 8) hx hb hts w2 hown hC.1 hP 0 rfl rfl 3 (by decide) w5 (fun _ h9 => h9) rfl dX10_refusalOfFile_21 ?_
      refine va_get (D := E.1) (ci := 4) (v := .ref (a0 39)) (C := RX5) (T := TX5) (N := 9) hx hb hts w7 hown hC.1 hP 26 rfl rfl 8 (by decide) w6 (fun _ h9 => h9) rfl dX10_refusalOfFile_24 ?_
      refine lv_iload_n hx hb dX10_refusalOfFile_27 rfl (lv_at hl 1 rfl) ?_
      refine lv_iconst (v := 1) hx hb dX10_refusalOfFile_28 rfl ?_
      obtain ⟨r3, e3, hf⟩ := bd_some hf
      refine cr_i (va_runV (As := [.int p1, .int (1 : Int32)]) (rest := []) ⟨hx, hb, hml, hown, hts⟩ (c_X3_is l E (fun k => a0 (k + 39)) v0.2.2.2.1.2.2.2.2.2.2.2.2 p1 (1 : Int32) r3 e3) (cwV 2 hts gX10_refusalOfFile_X3_is rfl rfl rfl hdV_X3_is ⟨Nat.le_of_ble_eq_true rfl, Nat.le_of_ble_eq_true rfl⟩) ⟨PR.blind, va_recv hC.1 hP (ci := 3) (q0 := 39) rfl rfl, PR.pre hC hS (hP.sub [39, 40, 41, 42, 43, 44] rfl)⟩ rfl rfl hl.1 rfl (lv_room (Nat.le_of_ble_eq_true rfl)) dX10_refusalOfFile_29 ⟨Nat.le_of_ble_eq_true rfl, Nat.le_of_ble_eq_true rfl⟩) ?_
      refine lv_if_eq (tgt := 39) hx hb dX10_refusalOfFile_32 rfl (fun c4 => ?_) (fun c4 => ?_)
      · have hf := it_t hf c4
        refine lv_ldc hx hb hown w3 dX10_refusalOfFile_39 ?_
        cases Option.some.inj hf
        subst hQe
        exact en_i hx hb hr hlocks dX10_refusalOfFile_41
      · have hf := it_f hf c4
        refine lv_iconst (v := 0) hx hb dX10_refusalOfFile_35 rfl ?_
        refine lv_goto (tgt := 41) hx hb dX10_refusalOfFile_36 rfl ?_
        cases Option.some.inj hf
        subst hQe
        exact en_i hx hb hr hlocks dX10_refusalOfFile_41
    · have hf := it_t hf c2
      refine lv_ldc hx hb hown w4 dX10_refusalOfFile_17 ?_
      cases Option.some.inj hf
      subst hQe
      exact en_i hx hb hr hlocks dX10_refusalOfFile_19
  · have hf := it_t hf c1
    refine lv_ldc hx hb hown w3 dX10_refusalOfFile_7 ?_
    cases Option.some.inj hf
    subst hQe
    exact en_i hx hb hr hlocks dX10_refusalOfFile_9

/-! X10_refusalOfRecord -/
abbrev rmX10_refusalOfRecord : Room := { frames := 4, cells := 0, slots := 0, locals := 85 }
theorem hdS_X10_refusalOfRecord : yX10_refusalOfRecord.cls ≠ "java/lang/invoke/MethodHandle" ∧ yX10_refusalOfRecord.cls ≠ "java/lang/invoke/VarHandle" ∧ (parseMethodDescriptor yX10_refusalOfRecord.desc).map (fun d => d.parameters.length) = some 2 := by decide +kernel
theorem hdV_X10_refusalOfRecord : yX10_refusalOfRecord.cls = RX10 ∧ yX10_refusalOfRecord.cls ≠ "java/lang/invoke/MethodHandle" ∧ yX10_refusalOfRecord.cls ≠ "java/lang/invoke/VarHandle" ∧ (parseMethodDescriptor yX10_refusalOfRecord.desc).map (fun d => d.parameters.length) = some 2 := ⟨rfl, hdS_X10_refusalOfRecord⟩
set_option maxHeartbeats 4000000 in
set_option maxRecDepth 100000 in
theorem c_X10_refusalOfRecord (l : Launch) (E : G0) (a0 : Nat → Nat) (db di : Nat → Nat → Nat) (v0 : GC) (p1 : Int32) (p2 : Int32) (x : Int32) (hf : f_X10_refusalOfRecord v0 p1 p2 = some x) : Met l yX10_refusalOfRecord wsX10_refusalOfRecord rmX10_refusalOfRecord (va_Pc [.ref (a0 0), .int p1, .int p2] (PR E (wGC E a0 db di v0))) (vp_Si (fun r => r = x)) 0 0 (fun _ => False) := by
  refine Met.ofW (cc := cX10_refusalOfRecord) (maxL := 4) (ret := some .int) (by decide) rfl ?_
  intro p e s m args below meth c s₁ B hml hv
  obtain ⟨ha, hP, hC⟩ := hv
  have hx := B.exec
  have hb := B.bytes
  have hr := B.returns
  have hts := atoms_spec (ws := wsX10_refusalOfRecord) B.pre
  have hown : s.vm.findClass RX10 = some m.cls := findClass_of_methodNamed B.named
  have hlocks := B.notSynchronized
  have hS : va_S (fun _ => False) s.heap s.heap [] := va_S.rf
  have w1 : (Cond.fieldLink RX10 31 "GreatChunks" "house" "LGreatChunks$House;").before args s = true := hts _ (List.mem_of_getElem? (i := 1) rfl)
  have w2 : ∀ w ∈ wsX100, w ∈ wsX10_refusalOfRecord := in_pl 24 rfl
  have w3 : (Cond.fieldLink RX10 261 "GreatChunks$House" "size" "I").before args s = true := hts _ (List.mem_of_getElem? (i := 2) rfl)
  have w4 : ∀ w ∈ wsX50, w ∈ wsX10_refusalOfRecord := in_pl 32 rfl
  have w5 : (Cond.fieldLink RX10 42 "GreatChunks" "standing" "Z").before args s = true := hts _ (List.mem_of_getElem? (i := 3) rfl)
  have w6 : (Cond.constant RX10 54 (-1000001)).before args s = true := hts _ (List.mem_of_getElem? (i := 4) rfl)
  generalize hQe : MQ below (vp_Si (fun r => r = x)) args s 0 0 (fun _ => False) = Q
  refine st_W ha (Nat.le_of_ble_eq_true rfl) (fun ls hl => ?_)
  have hl : lv_has ls 4 [(0, .ref (a0 0)), (1, .int p1), (2, .int p2)] := hl
  unfold f_X10_refusalOfRecord at hf
  refine lv_iload_n hx hb dX10_refusalOfRecord_0 rfl (lv_at hl 2 rfl) ?_
  refine lv_iconst (v := 1) hx hb dX10_refusalOfRecord_1 rfl ?_
  refine lv_aload_n hx hb dX10_refusalOfRecord_2 rfl (lv_at hl 0 rfl) ?_
  refine va_get (D := E.1) (ci := 8) (v := .ref (a0 26)) (C := RX10) (T := TX10) (N := 8) hx hb hts w2 hown hC.1 hP 0 rfl rfl 3 (by decide) w1 (fun _ h9 => h9) rfl dX10_refusalOfRecord_3 ?_
  refine va_get (D := E.1) (ci := 4) (v := .int v0.2.2.2.1.2.1) (C := RX5) (T := TX5) (N := 9) hx hb hts w4 hown hC.1 hP 26 rfl rfl 1 (by decide) w3 (fun _ h9 => h9) rfl dX10_refusalOfRecord_6 ?_
  refine cr_i (va_runS (As := [.int p2, .int (1 : Int32), .int v0.2.2.2.1.2.1]) (rest := []) ⟨hx, hb, hml, hown, hts⟩ (c_X10_within l E p2 (1 : Int32) v0.2.2.2.1.2.1 _ rfl) (va_cwS 3 hts gX10_refusalOfRecord_X10_within rfl rfl rfl hdS_X10_within ⟨Nat.le_of_ble_eq_true rfl, Nat.le_of_ble_eq_true rfl⟩) ⟨PR.blind, PR.pre hC hS (hP.sub [] rfl)⟩ rfl rfl hl.1 rfl (lv_room (Nat.le_of_ble_eq_true rfl)) dX10_refusalOfRecord_9 ⟨Nat.le_of_ble_eq_true rfl, Nat.le_of_ble_eq_true rfl⟩) ?_
  refine lv_istore_n (lv' := [(3, .int (bI (f_X10_within p2 (1 : Int32) v0.2.2.2.1.2.1))), (0, .ref (a0 0)), (1, .int p1), (2, .int p2)]) hx hb dX10_refusalOfRecord_12 rfl hl (by decide) rfl (fun ls hl => ?_)
  refine lv_aload_n hx hb dX10_refusalOfRecord_13 rfl (lv_at hl 1 rfl) ?_
  refine va_get (D := E.1) (ci := 8) (v := .int v0.2.2.2.2.2.2.1) (C := RX10) (T := TX10) (N := 8) hx hb hts w2 hown hC.1 hP 0 rfl rfl 6 (by decide) w5 (fun _ h9 => h9) rfl dX10_refusalOfRecord_14 ?_
  obtain ⟨K1, hK1, hf⟩ := jn_some hf
  have J1 : ∀ (q1 : Unit) (hf : K1 q1 = some x), W p l e (headSpec wsX10_refusalOfRecord rmX10_refusalOfRecord).room s m args below meth c s.heap [] 0 0 Q (F0 m 29 ls []) := by
    intro q1 hf
    have hf := (hK1 q1).trans hf
    refine lv_aload_n hx hb dX10_refusalOfRecord_29 rfl (lv_at hl 1 rfl) ?_
    refine lv_iload_n hx hb dX10_refusalOfRecord_30 rfl (lv_at hl 2 rfl) ?_
    obtain ⟨r2, e2, hf⟩ := bd_some hf
    refine cr_i (va_runV (As := [.int p1]) (rest := []) ⟨hx, hb, hml, hown, hts⟩ (c_X10_refusalOfFile l E a0 db di v0 p1 r2 e2) (cwV 1 hts gX10_refusalOfRecord_X10_refusalOfFile rfl rfl rfl hdV_X10_refusalOfFile ⟨Nat.le_of_ble_eq_true rfl, Nat.le_of_ble_eq_true rfl⟩) ⟨PR.blind, va_recv hC.1 hP (ci := 8) (q0 := 0) rfl rfl, PR.pre hC hS hP⟩ rfl rfl hl.1 rfl (lv_room (Nat.le_of_ble_eq_true rfl)) dX10_refusalOfRecord_31 ⟨Nat.le_of_ble_eq_true rfl, Nat.le_of_ble_eq_true rfl⟩) ?_
    cases Option.some.inj hf
    subst hQe
    exact en_i hx hb hr hlocks dX10_refusalOfRecord_34
  refine lv_if_eq (tgt := 29) hx hb dX10_refusalOfRecord_17 rfl (fun c3 => ?_) (fun c3 => ?_)
  · have hf := it_t hf c3
    exact J1 () hf
  · have hf := it_f hf c3
    refine lv_iload_n hx hb dX10_refusalOfRecord_20 rfl (lv_at hl 0 rfl) ?_
    refine lv_if_ne (tgt := 29) hx hb dX10_refusalOfRecord_21 rfl (fun c4 => ?_) (fun c4 => ?_)
    · have hf := it_f hf c4
      exact J1 () hf
    · have hf := it_t hf c4
      refine lv_ldc hx hb hown w6 dX10_refusalOfRecord_24 ?_
      refine lv_goto (tgt := 34) hx hb dX10_refusalOfRecord_26 rfl ?_
      cases Option.some.inj hf
      subst hQe
      exact en_i hx hb hr hlocks dX10_refusalOfRecord_34

/-! X10_append -/
abbrev rmX10_append : Room := { frames := 6, cells := 19, slots := 1854, locals := 148 }
theorem hdS_X10_append : yX10_append.cls ≠ "java/lang/invoke/MethodHandle" ∧ yX10_append.cls ≠ "java/lang/invoke/VarHandle" ∧ (parseMethodDescriptor yX10_append.desc).map (fun d => d.parameters.length) = some 1 := by decide +kernel
theorem hdV_X10_append : yX10_append.cls = RX10 ∧ yX10_append.cls ≠ "java/lang/invoke/MethodHandle" ∧ yX10_append.cls ≠ "java/lang/invoke/VarHandle" ∧ (parseMethodDescriptor yX10_append.desc).map (fun d => d.parameters.length) = some 1 := ⟨rfl, hdS_X10_append⟩
set_option maxHeartbeats 4000000 in
set_option maxRecDepth 100000 in
theorem c_X10_append (l : Launch) (E : G0) (sz : Nat) (a0 : Nat → Nat) (db di : Nat → Nat → Nat) (v0 : GC) (p1 : Int32) (x : Int32 × GC) (hf : f_X10_append v0 p1 = some x) : Met l yX10_append wsX10_append rmX10_append (va_Pc [.ref (a0 0), .int p1] (PW E (wGC E a0 db di v0) sz)) (va_Qi (fun r (q : DA × GC) => r = x.1 ∧ q.2 = x.2) (fun q t => va_P E.1 vwCl (wGC E a0 q.1.1 q.1.2 q.2) t.heap ∧ va_D (va_A (wGC E a0 db di v0) sz) (wGC E a0 q.1.1 q.1.2 q.2)) (va_A (wGC E a0 db di v0) sz)) 19 1854 (va_A (wGC E a0 db di v0) sz) := by
  refine Met.ofW (cc := cX10_append) (maxL := 4) (ret := some .int) (by decide) rfl ?_
  intro p e s m args below meth c s₁ B hml hv
  obtain ⟨ha, hsz, hP, hD0, hC⟩ := hv
  have hx := B.exec
  have hb := B.bytes
  have hr := B.returns
  have hts := atoms_spec (ws := wsX10_append) B.pre
  have hown : s.vm.findClass RX10 = some m.cls := findClass_of_methodNamed B.named
  have hlocks := B.notSynchronized
  subst hsz
  have hD := hD0.self (sz := s.heap.size)
  generalize hAe : va_A (wGC E a0 db di v0) s.heap.size = A at hD hC ⊢
  have hA : ∀ q : Nat, s.heap.size ≤ q → A q := fun q h => by rw [← hAe]; exact Or.inr h
  have hS : va_S A s.heap s.heap [] := va_S.rf
  have w1 : (Cond.fieldLink RX10 24 "GreatChunks" "acts" "LGreatChunks$Acts;").before args s = true := hts _ (List.mem_of_getElem? (i := 1) rfl)
  have w2 : ∀ w ∈ wsX100, w ∈ wsX10_append := in_pl 344 rfl
  have w3 : (Cond.fieldLink RX10 31 "GreatChunks" "house" "LGreatChunks$House;").before args s = true := hts _ (List.mem_of_getElem? (i := 2) rfl)
  have w4 : (Cond.fieldLink RX10 20 "GreatChunks" "tape" "LGreatChunks$Tape;").before args s = true := hts _ (List.mem_of_getElem? (i := 3) rfl)
  have w5 : (Cond.fieldLink RX10 125 "GreatChunks$Tape" "bytes" "[I").before args s = true := hts _ (List.mem_of_getElem? (i := 4) rfl)
  have w6 : ∀ w ∈ wsX90, w ∈ wsX10_append := in_pl 352 rfl
  generalize hQe : MQ below (va_Qi (fun r (q : DA × GC) => r = x.1 ∧ q.2 = x.2) (fun q t => va_P E.1 vwCl (wGC E a0 q.1.1 q.1.2 q.2) t.heap ∧ va_D A (wGC E a0 q.1.1 q.1.2 q.2)) A) args s 19 1854 A = Q
  refine st_W ha (Nat.le_of_ble_eq_true rfl) (fun ls hl => ?_)
  have hl : lv_has ls 4 [(0, .ref (a0 0)), (1, .int p1)] := hl
  unfold f_X10_append at hf
  refine lv_aload_n hx hb dX10_append_0 rfl (lv_at hl 0 rfl) ?_
  obtain ⟨r1, e1, hf⟩ := bd_some hf
  refine cp_i (wr := []) (wc := (wGC E a0 db di v0)) (wf := (fun q : DA × GC => wGC E a0 q.1.1 q.1.2 q.2)) hP hD hS hA (va_runV (As := []) (rest := []) ⟨hx, hb, hml, hown, hts⟩ (c_X10_takeRecord l E s.heap.size a0 db di v0 r1 e1) (cwV 0 hts gX10_append_X10_takeRecord rfl rfl rfl hdV_X10_takeRecord ⟨Nat.le_of_ble_eq_true rfl, Nat.le_of_ble_eq_true rfl⟩) ⟨PW.blind, va_recv hC.1 hP (ci := 8) (q0 := 0) rfl rfl, PW.pre hC hS hP hD (va_freeR (wr := []) hD hS hA)⟩ rfl rfl hl.1 rfl (lv_room (Nat.le_of_ble_eq_true rfl)) dX10_append_1 ⟨Nat.le_of_ble_eq_true rfl, Nat.le_of_ble_eq_true rfl⟩) (fun r9 u9 H locs hw9 hP hD hS => ?_)
  obtain ⟨⟨db, di⟩, u9⟩ := u9
  obtain ⟨hw8, hw9⟩ := hw9
  have hw9 : u9 = r1.2 := hw9
  subst hw8
  subst hw9
  have hP : va_P E.1 vwCl (wGC E a0 db di r1.2) H := hP
  have hD : va_D A (wGC E a0 db di r1.2) := hD
  refine lv_istore_n (lv' := [(2, .int r1.1), (0, .ref (a0 0)), (1, .int p1)]) hx hb dX10_append_4 rfl hl (by decide) rfl (fun ls hl => ?_)
  refine lv_aload_n hx hb dX10_append_5 rfl (lv_at hl 1 rfl) ?_
  refine lv_iload_n hx hb dX10_append_6 rfl (lv_at hl 2 rfl) ?_
  refine lv_iload_n hx hb dX10_append_7 rfl (lv_at hl 0 rfl) ?_
  obtain ⟨r2, e2, hf⟩ := bd_some hf
  refine cr_i (va_runV (As := [.int p1, .int r1.1]) (rest := []) ⟨hx, hb, hml, hown, hts⟩ (c_X10_refusalOfRecord l E a0 db di r1.2 p1 r1.1 r2 e2) (cwV 2 hts gX10_append_X10_refusalOfRecord rfl rfl rfl hdV_X10_refusalOfRecord ⟨Nat.le_of_ble_eq_true rfl, Nat.le_of_ble_eq_true rfl⟩) ⟨PR.blind, va_recv hC.1 hP (ci := 8) (q0 := 0) rfl rfl, PR.pre hC hS hP⟩ rfl rfl hl.1 rfl (lv_room (Nat.le_of_ble_eq_true rfl)) dX10_append_8 ⟨Nat.le_of_ble_eq_true rfl, Nat.le_of_ble_eq_true rfl⟩) ?_
  refine lv_istore_n (lv' := [(3, .int r2), (2, .int r1.1), (0, .ref (a0 0)), (1, .int p1)]) hx hb dX10_append_11 rfl hl (by decide) rfl (fun ls hl => ?_)
  refine lv_iload_n hx hb dX10_append_12 rfl (lv_at hl 0 rfl) ?_
  refine lv_if_eq (tgt := 18) hx hb dX10_append_13 rfl (fun c3 => ?_) (fun c3 => ?_)
  · have hf := it_t hf c3
    refine lv_aload_n hx hb dX10_append_18 rfl (lv_at hl 2 rfl) ?_
    refine va_get (D := E.1) (ci := 8) (v := .ref (a0 24)) (C := RX10) (T := TX10) (N := 8) hx hb hts w2 hown hC.1 hP 0 rfl rfl 2 (by decide) w1 (fun _ h9 => h9) rfl dX10_append_19 ?_
    refine lv_aload_n hx hb dX10_append_22 rfl (lv_at hl 2 rfl) ?_
    refine va_get (D := E.1) (ci := 8) (v := .ref (a0 26)) (C := RX10) (T := TX10) (N := 8) hx hb hts w2 hown hC.1 hP 0 rfl rfl 3 (by decide) w3 (fun _ h9 => h9) rfl dX10_append_23 ?_
    obtain ⟨r4, e4, hf⟩ := bd_some hf
    have hrv := va_recv hC.1 hP (ci := 0) (q0 := 24) rfl rfl
    have hpm := gc_perm E a0 db di r1.2
    have hP := hP.perm hpm
    have hD := hD.perm hpm
    refine cp_v (wc := wAK E (fun k => a0 (k + 24)) db r1.2.2.2.1 r1.2.2.2.2.1) (wf := (fun q : (Nat → Nat → Nat) × ACT => wAK E (fun k => a0 (k + 24)) q.1 q.2 r1.2.2.2.2.1)) hP hD hS hA (va_runV (As := [.ref (a0 26)]) (rest := []) ⟨hx, hb, hml, hown, hts⟩ (c_X0_keep l E H.size (fun k => a0 (k + 24)) db r1.2.2.2.1 r1.2.2.2.2.1 r4 e4) (cwV 1 hts gX10_append_X0_keep rfl rfl rfl hdV_X0_keep ⟨Nat.le_of_ble_eq_true rfl, Nat.le_of_ble_eq_true rfl⟩) ⟨PW.blind, hrv, PW.pre hC hS (va_P.of (fun z hz => hP.mem (List.mem_append_right _ hz))) hD.right (va_freeR hD hS hA)⟩ rfl rfl hl.1 rfl (lv_room (Nat.le_of_ble_eq_true rfl)) dX10_append_26 ⟨Nat.le_of_ble_eq_true rfl, Nat.le_of_ble_eq_true rfl⟩) (fun u9 H locs hw9 hP hD hS => ?_)
    obtain ⟨db, u9⟩ := u9
    have hw9 : r4 = u9 := hw9.symm
    subst hw9
    have hpm := (gc_perm E a0 db di (r1.2.1, r1.2.2.1, r4, r1.2.2.2.2.1, r1.2.2.2.2.2.1, r1.2.2.2.2.2.2.1, r1.2.2.2.2.2.2.2.1, r1.2.2.2.2.2.2.2.2)).symm
    have hP : va_P E.1 vwCl (wGC E a0 db di (r1.2.1, r1.2.2.1, r4, r1.2.2.2.2.1, r1.2.2.2.2.2.1, r1.2.2.2.2.2.2.1, r1.2.2.2.2.2.2.2.1, r1.2.2.2.2.2.2.2.2)) H := hP.perm hpm
    have hD : va_D A (wGC E a0 db di (r1.2.1, r1.2.2.1, r4, r1.2.2.2.2.1, r1.2.2.2.2.2.1, r1.2.2.2.2.2.2.1, r1.2.2.2.2.2.2.2.1, r1.2.2.2.2.2.2.2.2)) := hD.perm hpm
    refine lv_aload_n hx hb dX10_append_29 rfl (lv_at hl 2 rfl) ?_
    refine va_get (D := E.1) (ci := 8) (v := .ref (a0 26)) (C := RX10) (T := TX10) (N := 8) hx hb hts w2 hown hC.1 hP 0 rfl rfl 3 (by decide) w3 (fun _ h9 => h9) rfl dX10_append_30 ?_
    refine lv_iload_n hx hb dX10_append_33 rfl (lv_at hl 3 rfl) ?_
    refine lv_aload_n hx hb dX10_append_34 rfl (lv_at hl 2 rfl) ?_
    refine va_get (D := E.1) (ci := 8) (v := .ref (a0 2)) (C := RX10) (T := TX10) (N := 8) hx hb hts w2 hown hC.1 hP 0 rfl rfl 1 (by decide) w4 (fun _ h9 => h9) rfl dX10_append_35 ?_
    refine va_get (D := E.1) (ci := 7) (v := .ref (a0 3)) (C := RX9) (T := TX9) (N := 2) hx hb hts w6 hown hC.1 hP 2 rfl rfl 0 (by decide) w5 (fun _ h9 => h9) rfl dX10_append_38 ?_
    refine lv_iload_n hx hb dX10_append_41 rfl (lv_at hl 1 rfl) ?_
    obtain ⟨r5, e5, hf⟩ := bd_some hf
    refine cqt_i (wc := (wHS E (fun k => a0 (k + 26)) r1.2.2.2.2.1 ++ wIA E (a0 3) 80 r1.2.1.1.1)) (ws := wG0 E a0 db di (r1.2.1, r1.2.2.1, r4, r1.2.2.2.2.1, r1.2.2.2.2.2.1, r1.2.2.2.2.2.2.1, r1.2.2.2.2.2.2.2.1, r1.2.2.2.2.2.2.2.2)) (tl := wGT E db di (r1.2.1, r1.2.2.1, r4, r1.2.2.2.2.1, r1.2.2.2.2.2.1, r1.2.2.2.2.2.2.1, r1.2.2.2.2.2.2.2.1, r1.2.2.2.2.2.2.2.2)) hP hD hS hA [26, 27, 28, 29, 30, 31, 32, 33, 34, 35, 36, 37, 38, 39, 40, 41, 42, 43, 44, 3] [0, 1, 2, 4, 5, 6, 7, 8, 9, 10, 11, 12, 13, 14, 15, 16, 17, 18, 19, 20, 21, 22, 23, 24, 25] (va_runV (As := [.int p1, .ref (a0 3), .int r1.1]) (rest := []) ⟨hx, hb, hml, hown, hts⟩ (c_X5_addRecord l E H.size (fun k => a0 (k + 26)) r1.2.2.2.2.1 p1 (a0 3) 80 r1.2.1.1.1 r1.1 r5 e5) (cwV 3 hts gX10_append_X5_addRecord rfl rfl rfl hdV_X5_addRecord ⟨Nat.le_of_ble_eq_true rfl, Nat.le_of_ble_eq_true rfl⟩) ⟨PW.blind, va_recv hC.1 hP (ci := 4) (q0 := 26) rfl rfl, PW.pre hC hS (hP.sub [26, 27, 28, 29, 30, 31, 32, 33, 34, 35, 36, 37, 38, 39, 40, 41, 42, 43, 44, 3] rfl) (hD.sub [26, 27, 28, 29, 30, 31, 32, 33, 34, 35, 36, 37, 38, 39, 40, 41, 42, 43, 44, 3] rfl rfl) (va_free hD hS hA [26, 27, 28, 29, 30, 31, 32, 33, 34, 35, 36, 37, 38, 39, 40, 41, 42, 43, 44, 3] rfl)⟩ rfl rfl hl.1 rfl (lv_room (Nat.le_of_ble_eq_true rfl)) dX10_append_42 ⟨Nat.le_of_ble_eq_true rfl, Nat.le_of_ble_eq_true rfl⟩) 45 rfl (by decide +kernel) rfl (wG0 E a0 db di (r1.2.1, r1.2.2.1, r4, r5.2, r1.2.2.2.2.2.1, r1.2.2.2.2.2.2.1, r1.2.2.2.2.2.2.2.1, r1.2.2.2.2.2.2.2.2)) rfl rfl (fun H locs hP hD hS => ?_)
    have hP : va_P E.1 vwCl (wGC E a0 db di (r1.2.1, r1.2.2.1, r4, r5.2, r1.2.2.2.2.2.1, r1.2.2.2.2.2.2.1, r1.2.2.2.2.2.2.2.1, r1.2.2.2.2.2.2.2.2)) H := hP
    have hD : va_D A (wGC E a0 db di (r1.2.1, r1.2.2.1, r4, r5.2, r1.2.2.2.2.2.1, r1.2.2.2.2.2.2.1, r1.2.2.2.2.2.2.2.1, r1.2.2.2.2.2.2.2.2)) := hD
    cases Option.some.inj hf
    subst hQe
    exact eg_i hx hb hr hlocks hP hD hS dX10_append_45
  · have hf := it_f hf c3
    refine lv_iload_n hx hb dX10_append_16 rfl (lv_at hl 0 rfl) ?_
    cases Option.some.inj hf
    subst hQe
    refine W.widen (k := 19) (n := 1854) (by decide) (by decide) ?_
    exact eg_i hx hb hr hlocks hP hD hS dX10_append_17

/-! X10_put -/
abbrev rmX10_put : Room := { frames := 6, cells := 19, slots := 1854, locals := 144 }
theorem hdS_X10_put : yX10_put.cls ≠ "java/lang/invoke/MethodHandle" ∧ yX10_put.cls ≠ "java/lang/invoke/VarHandle" ∧ (parseMethodDescriptor yX10_put.desc).map (fun d => d.parameters.length) = some 3 := by decide +kernel
theorem hdV_X10_put : yX10_put.cls = RX10 ∧ yX10_put.cls ≠ "java/lang/invoke/MethodHandle" ∧ yX10_put.cls ≠ "java/lang/invoke/VarHandle" ∧ (parseMethodDescriptor yX10_put.desc).map (fun d => d.parameters.length) = some 3 := ⟨rfl, hdS_X10_put⟩
set_option maxHeartbeats 4000000 in
set_option maxRecDepth 100000 in
theorem c_X10_put (l : Launch) (E : G0) (sz : Nat) (a0 : Nat → Nat) (db di : Nat → Nat → Nat) (v0 : GC) (p1 : Int32) (p2 : Int32) (p3 : Int32) (x : Int32 × GC) (hf : f_X10_put v0 p1 p2 p3 = some x) : Met l yX10_put wsX10_put rmX10_put (va_Pc [.ref (a0 0), .int p1, .int p2, .int p3] (PW E (wGC E a0 db di v0) sz)) (va_Qi (fun r (q : DA × GC) => r = x.1 ∧ q.2 = x.2) (fun q t => va_P E.1 vwCl (wGC E a0 q.1.1 q.1.2 q.2) t.heap ∧ va_D (va_A (wGC E a0 db di v0) sz) (wGC E a0 q.1.1 q.1.2 q.2)) (va_A (wGC E a0 db di v0) sz)) 19 1854 (va_A (wGC E a0 db di v0) sz) := by
  refine Met.ofW (cc := cX10_put) (maxL := 4) (ret := some .int) (by decide) rfl ?_
  intro p e s m args below meth c s₁ B hml hv
  obtain ⟨ha, hsz, hP, hD0, hC⟩ := hv
  have hx := B.exec
  have hb := B.bytes
  have hr := B.returns
  have hts := atoms_spec (ws := wsX10_put) B.pre
  have hown : s.vm.findClass RX10 = some m.cls := findClass_of_methodNamed B.named
  have hlocks := B.notSynchronized
  subst hsz
  have hD := hD0.self (sz := s.heap.size)
  generalize hAe : va_A (wGC E a0 db di v0) s.heap.size = A at hD hC ⊢
  have hA : ∀ q : Nat, s.heap.size ≤ q → A q := fun q h => by rw [← hAe]; exact Or.inr h
  have hS : va_S A s.heap s.heap [] := va_S.rf
  have w1 : (Cond.fieldLink RX10 42 "GreatChunks" "standing" "Z").before args s = true := hts _ (List.mem_of_getElem? (i := 1) rfl)
  have w2 : ∀ w ∈ wsX100, w ∈ wsX10_put := in_pl 277 rfl
  have w3 : (Cond.constant RX10 99 (-1000002)).before args s = true := hts _ (List.mem_of_getElem? (i := 2) rfl)
  have w4 : (Cond.constant RX10 54 (-1000001)).before args s = true := hts _ (List.mem_of_getElem? (i := 3) rfl)
  have w5 : (Cond.fieldLink RX10 31 "GreatChunks" "house" "LGreatChunks$House;").before args s = true := hts _ (List.mem_of_getElem? (i := 4) rfl)
  have w6 : (Cond.fieldLink RX10 83 "GreatChunks$House" "files" "LGreatChunks$Files;").before args s = true := hts _ (List.mem_of_getElem? (i := 5) rfl)
  have w7 : ∀ w ∈ wsX50, w ∈ wsX10_put := in_pl 285 rfl
  have w8 : (Cond.fieldLink RX10 133 "GreatChunks$Files" "kind" "[I").before args s = true := hts _ (List.mem_of_getElem? (i := 6) rfl)
  have w9 : ∀ w ∈ wsX30, w ∈ wsX10_put := in_pl 294 rfl
  have w10 : (Cond.fieldLink RX10 24 "GreatChunks" "acts" "LGreatChunks$Acts;").before args s = true := hts _ (List.mem_of_getElem? (i := 7) rfl)
  generalize hQe : MQ below (va_Qi (fun r (q : DA × GC) => r = x.1 ∧ q.2 = x.2) (fun q t => va_P E.1 vwCl (wGC E a0 q.1.1 q.1.2 q.2) t.heap ∧ va_D A (wGC E a0 q.1.1 q.1.2 q.2)) A) args s 19 1854 A = Q
  refine st_W ha (Nat.le_of_ble_eq_true rfl) (fun ls hl => ?_)
  have hl : lv_has ls 4 [(0, .ref (a0 0)), (1, .int p1), (2, .int p2), (3, .int p3)] := hl
  unfold f_X10_put at hf
  refine lv_aload_n hx hb dX10_put_0 rfl (lv_at hl 0 rfl) ?_
  refine va_get (D := E.1) (ci := 8) (v := .int v0.2.2.2.2.2.2.1) (C := RX10) (T := TX10) (N := 8) hx hb hts w2 hown hC.1 hP 0 rfl rfl 6 (by decide) w1 (fun _ h9 => h9) rfl dX10_put_1 ?_
  refine lv_if_ne (tgt := 10) hx hb dX10_put_4 rfl (fun c1 => ?_) (fun c1 => ?_)
  · have hf := it_f hf c1
    refine lv_iload_n hx hb dX10_put_10 rfl (lv_at hl 1 rfl) ?_
    refine cr_i (va_runS (As := [.int p1]) (rest := []) ⟨hx, hb, hml, hown, hts⟩ (c_X10_isFile l E p1 _ rfl) (va_cwS 1 hts gX10_put_X10_isFile rfl rfl rfl hdS_X10_isFile ⟨Nat.le_of_ble_eq_true rfl, Nat.le_of_ble_eq_true rfl⟩) ⟨PR.blind, PR.pre hC hS (hP.sub [] rfl)⟩ rfl rfl hl.1 rfl (lv_room (Nat.le_of_ble_eq_true rfl)) dX10_put_11 ⟨Nat.le_of_ble_eq_true rfl, Nat.le_of_ble_eq_true rfl⟩) ?_
    refine lv_if_ne (tgt := 20) hx hb dX10_put_14 rfl (fun c2 => ?_) (fun c2 => ?_)
    · have hf := it_f hf c2
      refine lv_aload_n hx hb dX10_put_20 rfl (lv_at hl 0 rfl) ?_
      refine va_get (D := E.1) (ci := 8) (v := .ref (a0 26)) (C := RX10) (T := TX10) (N := 8) hx hb hts w2 hown hC.1 hP 0 rfl rfl 3 (by decide) w5 (fun _ h9 => h9) rfl dX10_put_21 ?_
      refine va_get (D := E.1) (ci := 4) (v := .ref (a0 39)) (C := RX5) (T := TX5) (N := 9) hx hb hts w7 hown hC.1 hP 26 rfl rfl 8 (by decide) w6 (fun _ h9 => h9) rfl dX10_put_24 ?_
      refine lv_iload_n hx hb dX10_put_27 rfl (lv_at hl 1 rfl) ?_
      refine lv_iconst (v := 1) hx hb dX10_put_28 rfl ?_
      obtain ⟨r3, e3, hf⟩ := bd_some hf
      refine cr_i (va_runV (As := [.int p1, .int (1 : Int32)]) (rest := []) ⟨hx, hb, hml, hown, hts⟩ (c_X3_is l E (fun k => a0 (k + 39)) v0.2.2.2.1.2.2.2.2.2.2.2.2 p1 (1 : Int32) r3 e3) (cwV 2 hts gX10_put_X3_is rfl rfl rfl hdV_X3_is ⟨Nat.le_of_ble_eq_true rfl, Nat.le_of_ble_eq_true rfl⟩) ⟨PR.blind, va_recv hC.1 hP (ci := 3) (q0 := 39) rfl rfl, PR.pre hC hS (hP.sub [39, 40, 41, 42, 43, 44] rfl)⟩ rfl rfl hl.1 rfl (lv_room (Nat.le_of_ble_eq_true rfl)) dX10_put_29 ⟨Nat.le_of_ble_eq_true rfl, Nat.le_of_ble_eq_true rfl⟩) ?_
      refine lv_if_eq (tgt := 54) hx hb dX10_put_32 rfl (fun c4 => ?_) (fun c4 => ?_)
      · have hf := it_t hf c4
        refine lv_ldc hx hb hown w3 dX10_put_54 ?_
        cases Option.some.inj hf
        subst hQe
        refine W.widen (k := 19) (n := 1854) (by decide) (by decide) ?_
        exact eg_i hx hb hr hlocks hP hD hS dX10_put_56
      · have hf := it_f hf c4
        refine lv_aload_n hx hb dX10_put_35 rfl (lv_at hl 0 rfl) ?_
        refine va_get (D := E.1) (ci := 8) (v := .ref (a0 26)) (C := RX10) (T := TX10) (N := 8) hx hb hts w2 hown hC.1 hP 0 rfl rfl 3 (by decide) w5 (fun _ h9 => h9) rfl dX10_put_36 ?_
        refine va_get (D := E.1) (ci := 4) (v := .ref (a0 39)) (C := RX5) (T := TX5) (N := 9) hx hb hts w7 hown hC.1 hP 26 rfl rfl 8 (by decide) w6 (fun _ h9 => h9) rfl dX10_put_39 ?_
        refine va_get (D := E.1) (ci := 3) (v := .ref (a0 41)) (C := RX3) (T := TX3) (N := 5) hx hb hts w9 hown hC.1 hP 39 rfl rfl 1 (by decide) w8 (fun _ h9 => h9) rfl dX10_put_42 ?_
        refine lv_iload_n hx hb dX10_put_45 rfl (lv_at hl 1 rfl) ?_
        obtain ⟨h5, hf⟩ := gdI_some hf
        refine va_iald hx hb hC.1 hP 41 0 rfl rfl h5 dX10_put_46 ?_
        refine lv_iconst (v := 2) hx hb dX10_put_47 rfl ?_
        obtain ⟨r6, e6, hf⟩ := bd_some hf
        refine cr_i (va_runS (As := [.int (v0.2.2.2.1.2.2.2.2.2.2.2.2.2.1 p1.toNatClampNeg), .int (2 : Int32)]) (rest := []) ⟨hx, hb, hml, hown, hts⟩ (c_X6_isOne l E (v0.2.2.2.1.2.2.2.2.2.2.2.2.2.1 p1.toNatClampNeg) (2 : Int32) r6 e6) (va_cwS 2 hts gX10_put_X6_isOne rfl rfl rfl hdS_X6_isOne ⟨Nat.le_of_ble_eq_true rfl, Nat.le_of_ble_eq_true rfl⟩) ⟨PR.blind, PR.pre hC hS (hP.sub [] rfl)⟩ rfl rfl hl.1 rfl (lv_room (Nat.le_of_ble_eq_true rfl)) dX10_put_48 ⟨Nat.le_of_ble_eq_true rfl, Nat.le_of_ble_eq_true rfl⟩) ?_
        refine lv_if_eq (tgt := 57) hx hb dX10_put_51 rfl (fun c7 => ?_) (fun c7 => ?_)
        · have hf := it_t hf c7
          refine lv_aload_n hx hb dX10_put_57 rfl (lv_at hl 0 rfl) ?_
          refine va_get (D := E.1) (ci := 8) (v := .ref (a0 26)) (C := RX10) (T := TX10) (N := 8) hx hb hts w2 hown hC.1 hP 0 rfl rfl 3 (by decide) w5 (fun _ h9 => h9) rfl dX10_put_58 ?_
          refine lv_iload_n hx hb dX10_put_61 rfl (lv_at hl 1 rfl) ?_
          refine lv_iload_n hx hb dX10_put_62 rfl (lv_at hl 2 rfl) ?_
          obtain ⟨r8, e8, hf⟩ := bd_some hf
          refine cr_i (va_runV (As := [.int p1, .int p2]) (rest := []) ⟨hx, hb, hml, hown, hts⟩ (c_X5_hasCell l E (fun k => a0 (k + 26)) v0.2.2.2.1 p1 p2 r8 e8) (cwV 2 hts gX10_put_X5_hasCell rfl rfl rfl hdV_X5_hasCell ⟨Nat.le_of_ble_eq_true rfl, Nat.le_of_ble_eq_true rfl⟩) ⟨PR.blind, va_recv hC.1 hP (ci := 4) (q0 := 26) rfl rfl, PR.pre hC hS (hP.sub [26, 27, 28, 29, 30, 31, 32, 33, 34, 35, 36, 37, 38, 39, 40, 41, 42, 43, 44] rfl)⟩ rfl rfl hl.1 rfl (lv_room (Nat.le_of_ble_eq_true rfl)) dX10_put_63 ⟨Nat.le_of_ble_eq_true rfl, Nat.le_of_ble_eq_true rfl⟩) ?_
          refine lv_if_eq (tgt := 76) hx hb dX10_put_66 rfl (fun c9 => ?_) (fun c9 => ?_)
          · have hf := it_t hf c9
            refine lv_ldc hx hb hown w4 dX10_put_76 ?_
            cases Option.some.inj hf
            subst hQe
            refine W.widen (k := 19) (n := 1854) (by decide) (by decide) ?_
            exact eg_i hx hb hr hlocks hP hD hS dX10_put_78
          · have hf := it_f hf c9
            refine lv_iload_n hx hb dX10_put_69 rfl (lv_at hl 3 rfl) ?_
            refine cr_i (va_runS (As := [.int p3]) (rest := []) ⟨hx, hb, hml, hown, hts⟩ (c_X10_isLetter l E p3 _ rfl) (va_cwS 1 hts gX10_put_X10_isLetter rfl rfl rfl hdS_X10_isLetter ⟨Nat.le_of_ble_eq_true rfl, Nat.le_of_ble_eq_true rfl⟩) ⟨PR.blind, PR.pre hC hS (hP.sub [] rfl)⟩ rfl rfl hl.1 rfl (lv_room (Nat.le_of_ble_eq_true rfl)) dX10_put_70 ⟨Nat.le_of_ble_eq_true rfl, Nat.le_of_ble_eq_true rfl⟩) ?_
            refine lv_if_ne (tgt := 79) hx hb dX10_put_73 rfl (fun c10 => ?_) (fun c10 => ?_)
            · have hf := it_f hf c10
              refine lv_aload_n hx hb dX10_put_79 rfl (lv_at hl 0 rfl) ?_
              refine va_get (D := E.1) (ci := 8) (v := .ref (a0 24)) (C := RX10) (T := TX10) (N := 8) hx hb hts w2 hown hC.1 hP 0 rfl rfl 2 (by decide) w10 (fun _ h9 => h9) rfl dX10_put_80 ?_
              refine lv_aload_n hx hb dX10_put_83 rfl (lv_at hl 0 rfl) ?_
              refine va_get (D := E.1) (ci := 8) (v := .ref (a0 26)) (C := RX10) (T := TX10) (N := 8) hx hb hts w2 hown hC.1 hP 0 rfl rfl 3 (by decide) w5 (fun _ h9 => h9) rfl dX10_put_84 ?_
              obtain ⟨r11, e11, hf⟩ := bd_some hf
              have hrv := va_recv hC.1 hP (ci := 0) (q0 := 24) rfl rfl
              have hpm := gc_perm E a0 db di v0
              have hP := hP.perm hpm
              have hD := hD.perm hpm
              refine cp_v (wc := wAK E (fun k => a0 (k + 24)) db v0.2.2.1 v0.2.2.2.1) (wf := (fun q : (Nat → Nat → Nat) × ACT => wAK E (fun k => a0 (k + 24)) q.1 q.2 v0.2.2.2.1)) hP hD hS hA (va_runV (As := [.ref (a0 26)]) (rest := []) ⟨hx, hb, hml, hown, hts⟩ (c_X0_keep l E s.heap.size (fun k => a0 (k + 24)) db v0.2.2.1 v0.2.2.2.1 r11 e11) (cwV 1 hts gX10_put_X0_keep rfl rfl rfl hdV_X0_keep ⟨Nat.le_of_ble_eq_true rfl, Nat.le_of_ble_eq_true rfl⟩) ⟨PW.blind, hrv, PW.pre hC hS (va_P.of (fun z hz => hP.mem (List.mem_append_right _ hz))) hD.right (va_freeR hD hS hA)⟩ rfl rfl hl.1 rfl (lv_room (Nat.le_of_ble_eq_true rfl)) dX10_put_87 ⟨Nat.le_of_ble_eq_true rfl, Nat.le_of_ble_eq_true rfl⟩) (fun u9 H locs hw9 hP hD hS => ?_)
              obtain ⟨db, u9⟩ := u9
              have hw9 : r11 = u9 := hw9.symm
              subst hw9
              have hpm := (gc_perm E a0 db di (v0.1, v0.2.1, r11, v0.2.2.2.1, v0.2.2.2.2.1, v0.2.2.2.2.2.1, v0.2.2.2.2.2.2.1, v0.2.2.2.2.2.2.2)).symm
              have hP : va_P E.1 vwCl (wGC E a0 db di (v0.1, v0.2.1, r11, v0.2.2.2.1, v0.2.2.2.2.1, v0.2.2.2.2.2.1, v0.2.2.2.2.2.2.1, v0.2.2.2.2.2.2.2)) H := hP.perm hpm
              have hD : va_D A (wGC E a0 db di (v0.1, v0.2.1, r11, v0.2.2.2.1, v0.2.2.2.2.1, v0.2.2.2.2.2.1, v0.2.2.2.2.2.2.1, v0.2.2.2.2.2.2.2)) := hD.perm hpm
              refine lv_aload_n hx hb dX10_put_90 rfl (lv_at hl 0 rfl) ?_
              refine va_get (D := E.1) (ci := 8) (v := .ref (a0 26)) (C := RX10) (T := TX10) (N := 8) hx hb hts w2 hown hC.1 hP 0 rfl rfl 3 (by decide) w5 (fun _ h9 => h9) rfl dX10_put_91 ?_
              refine lv_iload_n hx hb dX10_put_94 rfl (lv_at hl 1 rfl) ?_
              refine lv_iload_n hx hb dX10_put_95 rfl (lv_at hl 2 rfl) ?_
              refine lv_iload_n hx hb dX10_put_96 rfl (lv_at hl 3 rfl) ?_
              obtain ⟨r12, e12, hf⟩ := bd_some hf
              refine cqt_i (wc := (wHS E (fun k => a0 (k + 26)) v0.2.2.2.1)) (ws := wG0 E a0 db di (v0.1, v0.2.1, r11, v0.2.2.2.1, v0.2.2.2.2.1, v0.2.2.2.2.2.1, v0.2.2.2.2.2.2.1, v0.2.2.2.2.2.2.2)) (tl := wGT E db di (v0.1, v0.2.1, r11, v0.2.2.2.1, v0.2.2.2.2.1, v0.2.2.2.2.2.1, v0.2.2.2.2.2.2.1, v0.2.2.2.2.2.2.2)) hP hD hS hA [26, 27, 28, 29, 30, 31, 32, 33, 34, 35, 36, 37, 38, 39, 40, 41, 42, 43, 44] [0, 1, 2, 3, 4, 5, 6, 7, 8, 9, 10, 11, 12, 13, 14, 15, 16, 17, 18, 19, 20, 21, 22, 23, 24, 25] (va_runV (As := [.int p1, .int p2, .int p3]) (rest := []) ⟨hx, hb, hml, hown, hts⟩ (c_X5_tellCell l E H.size (fun k => a0 (k + 26)) v0.2.2.2.1 p1 p2 p3 r12 e12) (cwV 3 hts gX10_put_X5_tellCell rfl rfl rfl hdV_X5_tellCell ⟨Nat.le_of_ble_eq_true rfl, Nat.le_of_ble_eq_true rfl⟩) ⟨PW.blind, va_recv hC.1 hP (ci := 4) (q0 := 26) rfl rfl, PW.pre hC hS (hP.sub [26, 27, 28, 29, 30, 31, 32, 33, 34, 35, 36, 37, 38, 39, 40, 41, 42, 43, 44] rfl) (hD.sub [26, 27, 28, 29, 30, 31, 32, 33, 34, 35, 36, 37, 38, 39, 40, 41, 42, 43, 44] rfl rfl) (va_free hD hS hA [26, 27, 28, 29, 30, 31, 32, 33, 34, 35, 36, 37, 38, 39, 40, 41, 42, 43, 44] rfl)⟩ rfl rfl hl.1 rfl (lv_room (Nat.le_of_ble_eq_true rfl)) dX10_put_97 ⟨Nat.le_of_ble_eq_true rfl, Nat.le_of_ble_eq_true rfl⟩) 45 rfl (by decide +kernel) rfl (wG0 E a0 db di (v0.1, v0.2.1, r11, r12.2, v0.2.2.2.2.1, v0.2.2.2.2.2.1, v0.2.2.2.2.2.2.1, v0.2.2.2.2.2.2.2)) rfl rfl (fun H locs hP hD hS => ?_)
              have hP : va_P E.1 vwCl (wGC E a0 db di (v0.1, v0.2.1, r11, r12.2, v0.2.2.2.2.1, v0.2.2.2.2.2.1, v0.2.2.2.2.2.2.1, v0.2.2.2.2.2.2.2)) H := hP
              have hD : va_D A (wGC E a0 db di (v0.1, v0.2.1, r11, r12.2, v0.2.2.2.2.1, v0.2.2.2.2.2.1, v0.2.2.2.2.2.2.1, v0.2.2.2.2.2.2.2)) := hD
              cases Option.some.inj hf
              subst hQe
              exact eg_i hx hb hr hlocks hP hD hS dX10_put_100
            · have hf := it_t hf c10
              refine lv_ldc hx hb hown w4 dX10_put_76 ?_
              cases Option.some.inj hf
              subst hQe
              refine W.widen (k := 19) (n := 1854) (by decide) (by decide) ?_
              exact eg_i hx hb hr hlocks hP hD hS dX10_put_78
        · have hf := it_f hf c7
          refine lv_ldc hx hb hown w3 dX10_put_54 ?_
          cases Option.some.inj hf
          subst hQe
          refine W.widen (k := 19) (n := 1854) (by decide) (by decide) ?_
          exact eg_i hx hb hr hlocks hP hD hS dX10_put_56
    · have hf := it_t hf c2
      refine lv_ldc hx hb hown w4 dX10_put_17 ?_
      cases Option.some.inj hf
      subst hQe
      refine W.widen (k := 19) (n := 1854) (by decide) (by decide) ?_
      exact eg_i hx hb hr hlocks hP hD hS dX10_put_19
  · have hf := it_t hf c1
    refine lv_ldc hx hb hown w3 dX10_put_7 ?_
    cases Option.some.inj hf
    subst hQe
    refine W.widen (k := 19) (n := 1854) (by decide) (by decide) ?_
    exact eg_i hx hb hr hlocks hP hD hS dX10_put_9

/-! X10_both -/
abbrev rmX10_both : Room := { frames := 5, cells := 19, slots := 1854, locals := 123 }
theorem hdS_X10_both : yX10_both.cls ≠ "java/lang/invoke/MethodHandle" ∧ yX10_both.cls ≠ "java/lang/invoke/VarHandle" ∧ (parseMethodDescriptor yX10_both.desc).map (fun d => d.parameters.length) = some 2 := by decide +kernel
theorem hdV_X10_both : yX10_both.cls = RX10 ∧ yX10_both.cls ≠ "java/lang/invoke/MethodHandle" ∧ yX10_both.cls ≠ "java/lang/invoke/VarHandle" ∧ (parseMethodDescriptor yX10_both.desc).map (fun d => d.parameters.length) = some 2 := ⟨rfl, hdS_X10_both⟩
set_option maxHeartbeats 4000000 in
set_option maxRecDepth 100000 in
theorem c_X10_both (l : Launch) (E : G0) (sz : Nat) (a0 : Nat → Nat) (db di : Nat → Nat → Nat) (v0 : GC) (p1 : Int32) (p2 : Int32) (x : Int32 × GC) (hf : f_X10_both v0 p1 p2 = some x) : Met l yX10_both wsX10_both rmX10_both (va_Pc [.ref (a0 0), .int p1, .int p2] (PW E (wGC E a0 db di v0) sz)) (va_Qi (fun r (q : DA × GC) => r = x.1 ∧ q.2 = x.2) (fun q t => va_P E.1 vwCl (wGC E a0 q.1.1 q.1.2 q.2) t.heap ∧ va_D (va_A (wGC E a0 db di v0) sz) (wGC E a0 q.1.1 q.1.2 q.2)) (va_A (wGC E a0 db di v0) sz)) 19 1854 (va_A (wGC E a0 db di v0) sz) := by
  refine Met.ofW (cc := cX10_both) (maxL := 3) (ret := some .int) (by decide) rfl ?_
  intro p e s m args below meth c s₁ B hml hv
  obtain ⟨ha, hsz, hP, hD0, hC⟩ := hv
  have hx := B.exec
  have hb := B.bytes
  have hr := B.returns
  have hts := atoms_spec (ws := wsX10_both) B.pre
  have hown : s.vm.findClass RX10 = some m.cls := findClass_of_methodNamed B.named
  have hlocks := B.notSynchronized
  subst hsz
  have hD := hD0.self (sz := s.heap.size)
  generalize hAe : va_A (wGC E a0 db di v0) s.heap.size = A at hD hC ⊢
  have hA : ∀ q : Nat, s.heap.size ≤ q → A q := fun q h => by rw [← hAe]; exact Or.inr h
  have hS : va_S A s.heap s.heap [] := va_S.rf
  have w1 : (Cond.fieldLink RX10 42 "GreatChunks" "standing" "Z").before args s = true := hts _ (List.mem_of_getElem? (i := 1) rfl)
  have w2 : ∀ w ∈ wsX100, w ∈ wsX10_both := in_pl 155 rfl
  have w3 : (Cond.constant RX10 99 (-1000002)).before args s = true := hts _ (List.mem_of_getElem? (i := 2) rfl)
  have w4 : (Cond.constant RX10 54 (-1000001)).before args s = true := hts _ (List.mem_of_getElem? (i := 3) rfl)
  have w5 : (Cond.fieldLink RX10 31 "GreatChunks" "house" "LGreatChunks$House;").before args s = true := hts _ (List.mem_of_getElem? (i := 4) rfl)
  have w6 : (Cond.fieldLink RX10 83 "GreatChunks$House" "files" "LGreatChunks$Files;").before args s = true := hts _ (List.mem_of_getElem? (i := 5) rfl)
  have w7 : ∀ w ∈ wsX50, w ∈ wsX10_both := in_pl 163 rfl
  have w8 : (Cond.fieldLink RX10 24 "GreatChunks" "acts" "LGreatChunks$Acts;").before args s = true := hts _ (List.mem_of_getElem? (i := 6) rfl)
  generalize hQe : MQ below (va_Qi (fun r (q : DA × GC) => r = x.1 ∧ q.2 = x.2) (fun q t => va_P E.1 vwCl (wGC E a0 q.1.1 q.1.2 q.2) t.heap ∧ va_D A (wGC E a0 q.1.1 q.1.2 q.2)) A) args s 19 1854 A = Q
  refine st_W ha (Nat.le_of_ble_eq_true rfl) (fun ls hl => ?_)
  have hl : lv_has ls 3 [(0, .ref (a0 0)), (1, .int p1), (2, .int p2)] := hl
  unfold f_X10_both at hf
  refine lv_aload_n hx hb dX10_both_0 rfl (lv_at hl 0 rfl) ?_
  refine va_get (D := E.1) (ci := 8) (v := .int v0.2.2.2.2.2.2.1) (C := RX10) (T := TX10) (N := 8) hx hb hts w2 hown hC.1 hP 0 rfl rfl 6 (by decide) w1 (fun _ h9 => h9) rfl dX10_both_1 ?_
  refine lv_if_ne (tgt := 10) hx hb dX10_both_4 rfl (fun c1 => ?_) (fun c1 => ?_)
  · have hf := it_f hf c1
    refine lv_iload_n hx hb dX10_both_10 rfl (lv_at hl 1 rfl) ?_
    refine cr_i (va_runS (As := [.int p1]) (rest := []) ⟨hx, hb, hml, hown, hts⟩ (c_X10_isFile l E p1 _ rfl) (va_cwS 1 hts gX10_both_X10_isFile rfl rfl rfl hdS_X10_isFile ⟨Nat.le_of_ble_eq_true rfl, Nat.le_of_ble_eq_true rfl⟩) ⟨PR.blind, PR.pre hC hS (hP.sub [] rfl)⟩ rfl rfl hl.1 rfl (lv_room (Nat.le_of_ble_eq_true rfl)) dX10_both_11 ⟨Nat.le_of_ble_eq_true rfl, Nat.le_of_ble_eq_true rfl⟩) ?_
    refine lv_if_eq (tgt := 24) hx hb dX10_both_14 rfl (fun c2 => ?_) (fun c2 => ?_)
    · have hf := it_t hf c2
      refine lv_ldc hx hb hown w4 dX10_both_24 ?_
      cases Option.some.inj hf
      subst hQe
      refine W.widen (k := 19) (n := 1854) (by decide) (by decide) ?_
      exact eg_i hx hb hr hlocks hP hD hS dX10_both_26
    · have hf := it_f hf c2
      refine lv_iload_n hx hb dX10_both_17 rfl (lv_at hl 2 rfl) ?_
      refine cr_i (va_runS (As := [.int p2]) (rest := []) ⟨hx, hb, hml, hown, hts⟩ (c_X10_isFile l E p2 _ rfl) (va_cwS 1 hts gX10_both_X10_isFile rfl rfl rfl hdS_X10_isFile ⟨Nat.le_of_ble_eq_true rfl, Nat.le_of_ble_eq_true rfl⟩) ⟨PR.blind, PR.pre hC hS (hP.sub [] rfl)⟩ rfl rfl hl.1 rfl (lv_room (Nat.le_of_ble_eq_true rfl)) dX10_both_18 ⟨Nat.le_of_ble_eq_true rfl, Nat.le_of_ble_eq_true rfl⟩) ?_
      refine lv_if_ne (tgt := 27) hx hb dX10_both_21 rfl (fun c3 => ?_) (fun c3 => ?_)
      · have hf := it_f hf c3
        refine lv_aload_n hx hb dX10_both_27 rfl (lv_at hl 0 rfl) ?_
        refine va_get (D := E.1) (ci := 8) (v := .ref (a0 26)) (C := RX10) (T := TX10) (N := 8) hx hb hts w2 hown hC.1 hP 0 rfl rfl 3 (by decide) w5 (fun _ h9 => h9) rfl dX10_both_28 ?_
        refine va_get (D := E.1) (ci := 4) (v := .ref (a0 39)) (C := RX5) (T := TX5) (N := 9) hx hb hts w7 hown hC.1 hP 26 rfl rfl 8 (by decide) w6 (fun _ h9 => h9) rfl dX10_both_31 ?_
        refine lv_iload_n hx hb dX10_both_34 rfl (lv_at hl 1 rfl) ?_
        refine lv_iconst (v := 1) hx hb dX10_both_35 rfl ?_
        obtain ⟨r4, e4, hf⟩ := bd_some hf
        refine cr_i (va_runV (As := [.int p1, .int (1 : Int32)]) (rest := []) ⟨hx, hb, hml, hown, hts⟩ (c_X3_is l E (fun k => a0 (k + 39)) v0.2.2.2.1.2.2.2.2.2.2.2.2 p1 (1 : Int32) r4 e4) (cwV 2 hts gX10_both_X3_is rfl rfl rfl hdV_X3_is ⟨Nat.le_of_ble_eq_true rfl, Nat.le_of_ble_eq_true rfl⟩) ⟨PR.blind, va_recv hC.1 hP (ci := 3) (q0 := 39) rfl rfl, PR.pre hC hS (hP.sub [39, 40, 41, 42, 43, 44] rfl)⟩ rfl rfl hl.1 rfl (lv_room (Nat.le_of_ble_eq_true rfl)) dX10_both_36 ⟨Nat.le_of_ble_eq_true rfl, Nat.le_of_ble_eq_true rfl⟩) ?_
        refine lv_if_eq (tgt := 57) hx hb dX10_both_39 rfl (fun c5 => ?_) (fun c5 => ?_)
        · have hf := it_t hf c5
          refine lv_ldc hx hb hown w3 dX10_both_57 ?_
          cases Option.some.inj hf
          subst hQe
          refine W.widen (k := 19) (n := 1854) (by decide) (by decide) ?_
          exact eg_i hx hb hr hlocks hP hD hS dX10_both_59
        · have hf := it_f hf c5
          refine lv_aload_n hx hb dX10_both_42 rfl (lv_at hl 0 rfl) ?_
          refine va_get (D := E.1) (ci := 8) (v := .ref (a0 26)) (C := RX10) (T := TX10) (N := 8) hx hb hts w2 hown hC.1 hP 0 rfl rfl 3 (by decide) w5 (fun _ h9 => h9) rfl dX10_both_43 ?_
          refine va_get (D := E.1) (ci := 4) (v := .ref (a0 39)) (C := RX5) (T := TX5) (N := 9) hx hb hts w7 hown hC.1 hP 26 rfl rfl 8 (by decide) w6 (fun _ h9 => h9) rfl dX10_both_46 ?_
          refine lv_iload_n hx hb dX10_both_49 rfl (lv_at hl 2 rfl) ?_
          refine lv_iconst (v := 0) hx hb dX10_both_50 rfl ?_
          obtain ⟨r6, e6, hf⟩ := bd_some hf
          refine cr_i (va_runV (As := [.int p2, .int (0 : Int32)]) (rest := []) ⟨hx, hb, hml, hown, hts⟩ (c_X3_is l E (fun k => a0 (k + 39)) v0.2.2.2.1.2.2.2.2.2.2.2.2 p2 (0 : Int32) r6 e6) (cwV 2 hts gX10_both_X3_is rfl rfl rfl hdV_X3_is ⟨Nat.le_of_ble_eq_true rfl, Nat.le_of_ble_eq_true rfl⟩) ⟨PR.blind, va_recv hC.1 hP (ci := 3) (q0 := 39) rfl rfl, PR.pre hC hS (hP.sub [39, 40, 41, 42, 43, 44] rfl)⟩ rfl rfl hl.1 rfl (lv_room (Nat.le_of_ble_eq_true rfl)) dX10_both_51 ⟨Nat.le_of_ble_eq_true rfl, Nat.le_of_ble_eq_true rfl⟩) ?_
          refine lv_if_ne (tgt := 60) hx hb dX10_both_54 rfl (fun c7 => ?_) (fun c7 => ?_)
          · have hf := it_f hf c7
            refine lv_aload_n hx hb dX10_both_60 rfl (lv_at hl 0 rfl) ?_
            refine va_get (D := E.1) (ci := 8) (v := .ref (a0 24)) (C := RX10) (T := TX10) (N := 8) hx hb hts w2 hown hC.1 hP 0 rfl rfl 2 (by decide) w8 (fun _ h9 => h9) rfl dX10_both_61 ?_
            refine lv_aload_n hx hb dX10_both_64 rfl (lv_at hl 0 rfl) ?_
            refine va_get (D := E.1) (ci := 8) (v := .ref (a0 26)) (C := RX10) (T := TX10) (N := 8) hx hb hts w2 hown hC.1 hP 0 rfl rfl 3 (by decide) w5 (fun _ h9 => h9) rfl dX10_both_65 ?_
            obtain ⟨r8, e8, hf⟩ := bd_some hf
            have hrv := va_recv hC.1 hP (ci := 0) (q0 := 24) rfl rfl
            have hpm := gc_perm E a0 db di v0
            have hP := hP.perm hpm
            have hD := hD.perm hpm
            refine cp_v (wc := wAK E (fun k => a0 (k + 24)) db v0.2.2.1 v0.2.2.2.1) (wf := (fun q : (Nat → Nat → Nat) × ACT => wAK E (fun k => a0 (k + 24)) q.1 q.2 v0.2.2.2.1)) hP hD hS hA (va_runV (As := [.ref (a0 26)]) (rest := []) ⟨hx, hb, hml, hown, hts⟩ (c_X0_keep l E s.heap.size (fun k => a0 (k + 24)) db v0.2.2.1 v0.2.2.2.1 r8 e8) (cwV 1 hts gX10_both_X0_keep rfl rfl rfl hdV_X0_keep ⟨Nat.le_of_ble_eq_true rfl, Nat.le_of_ble_eq_true rfl⟩) ⟨PW.blind, hrv, PW.pre hC hS (va_P.of (fun z hz => hP.mem (List.mem_append_right _ hz))) hD.right (va_freeR hD hS hA)⟩ rfl rfl hl.1 rfl (lv_room (Nat.le_of_ble_eq_true rfl)) dX10_both_68 ⟨Nat.le_of_ble_eq_true rfl, Nat.le_of_ble_eq_true rfl⟩) (fun u9 H locs hw9 hP hD hS => ?_)
            obtain ⟨db, u9⟩ := u9
            have hw9 : r8 = u9 := hw9.symm
            subst hw9
            have hpm := (gc_perm E a0 db di (v0.1, v0.2.1, r8, v0.2.2.2.1, v0.2.2.2.2.1, v0.2.2.2.2.2.1, v0.2.2.2.2.2.2.1, v0.2.2.2.2.2.2.2)).symm
            have hP : va_P E.1 vwCl (wGC E a0 db di (v0.1, v0.2.1, r8, v0.2.2.2.1, v0.2.2.2.2.1, v0.2.2.2.2.2.1, v0.2.2.2.2.2.2.1, v0.2.2.2.2.2.2.2)) H := hP.perm hpm
            have hD : va_D A (wGC E a0 db di (v0.1, v0.2.1, r8, v0.2.2.2.1, v0.2.2.2.2.1, v0.2.2.2.2.2.1, v0.2.2.2.2.2.2.1, v0.2.2.2.2.2.2.2)) := hD.perm hpm
            refine lv_aload_n hx hb dX10_both_71 rfl (lv_at hl 0 rfl) ?_
            refine va_get (D := E.1) (ci := 8) (v := .ref (a0 26)) (C := RX10) (T := TX10) (N := 8) hx hb hts w2 hown hC.1 hP 0 rfl rfl 3 (by decide) w5 (fun _ h9 => h9) rfl dX10_both_72 ?_
            refine lv_iload_n hx hb dX10_both_75 rfl (lv_at hl 1 rfl) ?_
            refine lv_iload_n hx hb dX10_both_76 rfl (lv_at hl 2 rfl) ?_
            obtain ⟨r9, e9, hf⟩ := bd_some hf
            refine cqt_i (wc := (wHS E (fun k => a0 (k + 26)) v0.2.2.2.1)) (ws := wG0 E a0 db di (v0.1, v0.2.1, r8, v0.2.2.2.1, v0.2.2.2.2.1, v0.2.2.2.2.2.1, v0.2.2.2.2.2.2.1, v0.2.2.2.2.2.2.2)) (tl := wGT E db di (v0.1, v0.2.1, r8, v0.2.2.2.1, v0.2.2.2.2.1, v0.2.2.2.2.2.1, v0.2.2.2.2.2.2.1, v0.2.2.2.2.2.2.2)) hP hD hS hA [26, 27, 28, 29, 30, 31, 32, 33, 34, 35, 36, 37, 38, 39, 40, 41, 42, 43, 44] [0, 1, 2, 3, 4, 5, 6, 7, 8, 9, 10, 11, 12, 13, 14, 15, 16, 17, 18, 19, 20, 21, 22, 23, 24, 25] (va_runV (As := [.int p1, .int p2]) (rest := []) ⟨hx, hb, hml, hown, hts⟩ (c_X5_shareFile l E H.size (fun k => a0 (k + 26)) v0.2.2.2.1 p1 p2 r9 e9) (cwV 2 hts gX10_both_X5_shareFile rfl rfl rfl hdV_X5_shareFile ⟨Nat.le_of_ble_eq_true rfl, Nat.le_of_ble_eq_true rfl⟩) ⟨PW.blind, va_recv hC.1 hP (ci := 4) (q0 := 26) rfl rfl, PW.pre hC hS (hP.sub [26, 27, 28, 29, 30, 31, 32, 33, 34, 35, 36, 37, 38, 39, 40, 41, 42, 43, 44] rfl) (hD.sub [26, 27, 28, 29, 30, 31, 32, 33, 34, 35, 36, 37, 38, 39, 40, 41, 42, 43, 44] rfl rfl) (va_free hD hS hA [26, 27, 28, 29, 30, 31, 32, 33, 34, 35, 36, 37, 38, 39, 40, 41, 42, 43, 44] rfl)⟩ rfl rfl hl.1 rfl (lv_room (Nat.le_of_ble_eq_true rfl)) dX10_both_77 ⟨Nat.le_of_ble_eq_true rfl, Nat.le_of_ble_eq_true rfl⟩) 45 rfl (by decide +kernel) rfl (wG0 E a0 db di (v0.1, v0.2.1, r8, r9.2, v0.2.2.2.2.1, v0.2.2.2.2.2.1, v0.2.2.2.2.2.2.1, v0.2.2.2.2.2.2.2)) rfl rfl (fun H locs hP hD hS => ?_)
            have hP : va_P E.1 vwCl (wGC E a0 db di (v0.1, v0.2.1, r8, r9.2, v0.2.2.2.2.1, v0.2.2.2.2.2.1, v0.2.2.2.2.2.2.1, v0.2.2.2.2.2.2.2)) H := hP
            have hD : va_D A (wGC E a0 db di (v0.1, v0.2.1, r8, r9.2, v0.2.2.2.2.1, v0.2.2.2.2.2.1, v0.2.2.2.2.2.2.1, v0.2.2.2.2.2.2.2)) := hD
            cases Option.some.inj hf
            subst hQe
            exact eg_i hx hb hr hlocks hP hD hS dX10_both_80
          · have hf := it_t hf c7
            refine lv_ldc hx hb hown w3 dX10_both_57 ?_
            cases Option.some.inj hf
            subst hQe
            refine W.widen (k := 19) (n := 1854) (by decide) (by decide) ?_
            exact eg_i hx hb hr hlocks hP hD hS dX10_both_59
      · have hf := it_t hf c3
        refine lv_ldc hx hb hown w4 dX10_both_24 ?_
        cases Option.some.inj hf
        subst hQe
        refine W.widen (k := 19) (n := 1854) (by decide) (by decide) ?_
        exact eg_i hx hb hr hlocks hP hD hS dX10_both_26
  · have hf := it_t hf c1
    refine lv_ldc hx hb hown w3 dX10_both_7 ?_
    cases Option.some.inj hf
    subst hQe
    refine W.widen (k := 19) (n := 1854) (by decide) (by decide) ?_
    exact eg_i hx hb hr hlocks hP hD hS dX10_both_9

/-! X10_remove -/
abbrev rmX10_remove : Room := { frames := 5, cells := 19, slots := 1854, locals := 123 }
theorem hdS_X10_remove : yX10_remove.cls ≠ "java/lang/invoke/MethodHandle" ∧ yX10_remove.cls ≠ "java/lang/invoke/VarHandle" ∧ (parseMethodDescriptor yX10_remove.desc).map (fun d => d.parameters.length) = some 1 := by decide +kernel
theorem hdV_X10_remove : yX10_remove.cls = RX10 ∧ yX10_remove.cls ≠ "java/lang/invoke/MethodHandle" ∧ yX10_remove.cls ≠ "java/lang/invoke/VarHandle" ∧ (parseMethodDescriptor yX10_remove.desc).map (fun d => d.parameters.length) = some 1 := ⟨rfl, hdS_X10_remove⟩
set_option maxHeartbeats 4000000 in
set_option maxRecDepth 100000 in
theorem c_X10_remove (l : Launch) (E : G0) (sz : Nat) (a0 : Nat → Nat) (db di : Nat → Nat → Nat) (v0 : GC) (p1 : Int32) (x : Int32 × GC) (hf : f_X10_remove v0 p1 = some x) : Met l yX10_remove wsX10_remove rmX10_remove (va_Pc [.ref (a0 0), .int p1] (PW E (wGC E a0 db di v0) sz)) (va_Qi (fun r (q : DA × GC) => r = x.1 ∧ q.2 = x.2) (fun q t => va_P E.1 vwCl (wGC E a0 q.1.1 q.1.2 q.2) t.heap ∧ va_D (va_A (wGC E a0 db di v0) sz) (wGC E a0 q.1.1 q.1.2 q.2)) (va_A (wGC E a0 db di v0) sz)) 19 1854 (va_A (wGC E a0 db di v0) sz) := by
  refine Met.ofW (cc := cX10_remove) (maxL := 3) (ret := some .int) (by decide) rfl ?_
  intro p e s m args below meth c s₁ B hml hv
  obtain ⟨ha, hsz, hP, hD0, hC⟩ := hv
  have hx := B.exec
  have hb := B.bytes
  have hr := B.returns
  have hts := atoms_spec (ws := wsX10_remove) B.pre
  have hown : s.vm.findClass RX10 = some m.cls := findClass_of_methodNamed B.named
  have hlocks := B.notSynchronized
  subst hsz
  have hD := hD0.self (sz := s.heap.size)
  generalize hAe : va_A (wGC E a0 db di v0) s.heap.size = A at hD hC ⊢
  have hA : ∀ q : Nat, s.heap.size ≤ q → A q := fun q h => by rw [← hAe]; exact Or.inr h
  have hS : va_S A s.heap s.heap [] := va_S.rf
  have w1 : (Cond.fieldLink RX10 24 "GreatChunks" "acts" "LGreatChunks$Acts;").before args s = true := hts _ (List.mem_of_getElem? (i := 1) rfl)
  have w2 : ∀ w ∈ wsX100, w ∈ wsX10_remove := in_pl 166 rfl
  have w3 : (Cond.fieldLink RX10 31 "GreatChunks" "house" "LGreatChunks$House;").before args s = true := hts _ (List.mem_of_getElem? (i := 2) rfl)
  generalize hQe : MQ below (va_Qi (fun r (q : DA × GC) => r = x.1 ∧ q.2 = x.2) (fun q t => va_P E.1 vwCl (wGC E a0 q.1.1 q.1.2 q.2) t.heap ∧ va_D A (wGC E a0 q.1.1 q.1.2 q.2)) A) args s 19 1854 A = Q
  refine st_W ha (Nat.le_of_ble_eq_true rfl) (fun ls hl => ?_)
  have hl : lv_has ls 3 [(0, .ref (a0 0)), (1, .int p1)] := hl
  unfold f_X10_remove at hf
  refine lv_aload_n hx hb dX10_remove_0 rfl (lv_at hl 0 rfl) ?_
  refine lv_iload_n hx hb dX10_remove_1 rfl (lv_at hl 1 rfl) ?_
  obtain ⟨r1, e1, hf⟩ := bd_some hf
  refine cr_i (va_runV (As := [.int p1]) (rest := []) ⟨hx, hb, hml, hown, hts⟩ (c_X10_refusalOfFile l E a0 db di v0 p1 r1 e1) (cwV 1 hts gX10_remove_X10_refusalOfFile rfl rfl rfl hdV_X10_refusalOfFile ⟨Nat.le_of_ble_eq_true rfl, Nat.le_of_ble_eq_true rfl⟩) ⟨PR.blind, va_recv hC.1 hP (ci := 8) (q0 := 0) rfl rfl, PR.pre hC hS hP⟩ rfl rfl hl.1 rfl (lv_room (Nat.le_of_ble_eq_true rfl)) dX10_remove_2 ⟨Nat.le_of_ble_eq_true rfl, Nat.le_of_ble_eq_true rfl⟩) ?_
  refine lv_istore_n (lv' := [(2, .int r1), (0, .ref (a0 0)), (1, .int p1)]) hx hb dX10_remove_5 rfl hl (by decide) rfl (fun ls hl => ?_)
  refine lv_iload_n hx hb dX10_remove_6 rfl (lv_at hl 0 rfl) ?_
  refine lv_if_eq (tgt := 12) hx hb dX10_remove_7 rfl (fun c2 => ?_) (fun c2 => ?_)
  · have hf := it_t hf c2
    refine lv_aload_n hx hb dX10_remove_12 rfl (lv_at hl 1 rfl) ?_
    refine va_get (D := E.1) (ci := 8) (v := .ref (a0 24)) (C := RX10) (T := TX10) (N := 8) hx hb hts w2 hown hC.1 hP 0 rfl rfl 2 (by decide) w1 (fun _ h9 => h9) rfl dX10_remove_13 ?_
    refine lv_aload_n hx hb dX10_remove_16 rfl (lv_at hl 1 rfl) ?_
    refine va_get (D := E.1) (ci := 8) (v := .ref (a0 26)) (C := RX10) (T := TX10) (N := 8) hx hb hts w2 hown hC.1 hP 0 rfl rfl 3 (by decide) w3 (fun _ h9 => h9) rfl dX10_remove_17 ?_
    obtain ⟨r3, e3, hf⟩ := bd_some hf
    have hrv := va_recv hC.1 hP (ci := 0) (q0 := 24) rfl rfl
    have hpm := gc_perm E a0 db di v0
    have hP := hP.perm hpm
    have hD := hD.perm hpm
    refine cp_v (wc := wAK E (fun k => a0 (k + 24)) db v0.2.2.1 v0.2.2.2.1) (wf := (fun q : (Nat → Nat → Nat) × ACT => wAK E (fun k => a0 (k + 24)) q.1 q.2 v0.2.2.2.1)) hP hD hS hA (va_runV (As := [.ref (a0 26)]) (rest := []) ⟨hx, hb, hml, hown, hts⟩ (c_X0_keep l E s.heap.size (fun k => a0 (k + 24)) db v0.2.2.1 v0.2.2.2.1 r3 e3) (cwV 1 hts gX10_remove_X0_keep rfl rfl rfl hdV_X0_keep ⟨Nat.le_of_ble_eq_true rfl, Nat.le_of_ble_eq_true rfl⟩) ⟨PW.blind, hrv, PW.pre hC hS (va_P.of (fun z hz => hP.mem (List.mem_append_right _ hz))) hD.right (va_freeR hD hS hA)⟩ rfl rfl hl.1 rfl (lv_room (Nat.le_of_ble_eq_true rfl)) dX10_remove_20 ⟨Nat.le_of_ble_eq_true rfl, Nat.le_of_ble_eq_true rfl⟩) (fun u9 H locs hw9 hP hD hS => ?_)
    obtain ⟨db, u9⟩ := u9
    have hw9 : r3 = u9 := hw9.symm
    subst hw9
    have hpm := (gc_perm E a0 db di (v0.1, v0.2.1, r3, v0.2.2.2.1, v0.2.2.2.2.1, v0.2.2.2.2.2.1, v0.2.2.2.2.2.2.1, v0.2.2.2.2.2.2.2)).symm
    have hP : va_P E.1 vwCl (wGC E a0 db di (v0.1, v0.2.1, r3, v0.2.2.2.1, v0.2.2.2.2.1, v0.2.2.2.2.2.1, v0.2.2.2.2.2.2.1, v0.2.2.2.2.2.2.2)) H := hP.perm hpm
    have hD : va_D A (wGC E a0 db di (v0.1, v0.2.1, r3, v0.2.2.2.1, v0.2.2.2.2.1, v0.2.2.2.2.2.1, v0.2.2.2.2.2.2.1, v0.2.2.2.2.2.2.2)) := hD.perm hpm
    refine lv_aload_n hx hb dX10_remove_23 rfl (lv_at hl 1 rfl) ?_
    refine va_get (D := E.1) (ci := 8) (v := .ref (a0 26)) (C := RX10) (T := TX10) (N := 8) hx hb hts w2 hown hC.1 hP 0 rfl rfl 3 (by decide) w3 (fun _ h9 => h9) rfl dX10_remove_24 ?_
    refine lv_iload_n hx hb dX10_remove_27 rfl (lv_at hl 2 rfl) ?_
    obtain ⟨r4, e4, hf⟩ := bd_some hf
    refine cqt_i (wc := (wHS E (fun k => a0 (k + 26)) v0.2.2.2.1)) (ws := wG0 E a0 db di (v0.1, v0.2.1, r3, v0.2.2.2.1, v0.2.2.2.2.1, v0.2.2.2.2.2.1, v0.2.2.2.2.2.2.1, v0.2.2.2.2.2.2.2)) (tl := wGT E db di (v0.1, v0.2.1, r3, v0.2.2.2.1, v0.2.2.2.2.1, v0.2.2.2.2.2.1, v0.2.2.2.2.2.2.1, v0.2.2.2.2.2.2.2)) hP hD hS hA [26, 27, 28, 29, 30, 31, 32, 33, 34, 35, 36, 37, 38, 39, 40, 41, 42, 43, 44] [0, 1, 2, 3, 4, 5, 6, 7, 8, 9, 10, 11, 12, 13, 14, 15, 16, 17, 18, 19, 20, 21, 22, 23, 24, 25] (va_runV (As := [.int p1]) (rest := []) ⟨hx, hb, hml, hown, hts⟩ (c_X5_takeAway l E H.size (fun k => a0 (k + 26)) v0.2.2.2.1 p1 r4 e4) (cwV 1 hts gX10_remove_X5_takeAway rfl rfl rfl hdV_X5_takeAway ⟨Nat.le_of_ble_eq_true rfl, Nat.le_of_ble_eq_true rfl⟩) ⟨PW.blind, va_recv hC.1 hP (ci := 4) (q0 := 26) rfl rfl, PW.pre hC hS (hP.sub [26, 27, 28, 29, 30, 31, 32, 33, 34, 35, 36, 37, 38, 39, 40, 41, 42, 43, 44] rfl) (hD.sub [26, 27, 28, 29, 30, 31, 32, 33, 34, 35, 36, 37, 38, 39, 40, 41, 42, 43, 44] rfl rfl) (va_free hD hS hA [26, 27, 28, 29, 30, 31, 32, 33, 34, 35, 36, 37, 38, 39, 40, 41, 42, 43, 44] rfl)⟩ rfl rfl hl.1 rfl (lv_room (Nat.le_of_ble_eq_true rfl)) dX10_remove_28 ⟨Nat.le_of_ble_eq_true rfl, Nat.le_of_ble_eq_true rfl⟩) 45 rfl (by decide +kernel) rfl (wG0 E a0 db di (v0.1, v0.2.1, r3, r4.2, v0.2.2.2.2.1, v0.2.2.2.2.2.1, v0.2.2.2.2.2.2.1, v0.2.2.2.2.2.2.2)) rfl rfl (fun H locs hP hD hS => ?_)
    have hP : va_P E.1 vwCl (wGC E a0 db di (v0.1, v0.2.1, r3, r4.2, v0.2.2.2.2.1, v0.2.2.2.2.2.1, v0.2.2.2.2.2.2.1, v0.2.2.2.2.2.2.2)) H := hP
    have hD : va_D A (wGC E a0 db di (v0.1, v0.2.1, r3, r4.2, v0.2.2.2.2.1, v0.2.2.2.2.2.1, v0.2.2.2.2.2.2.1, v0.2.2.2.2.2.2.2)) := hD
    cases Option.some.inj hf
    subst hQe
    exact eg_i hx hb hr hlocks hP hD hS dX10_remove_31
  · have hf := it_f hf c2
    refine lv_iload_n hx hb dX10_remove_10 rfl (lv_at hl 0 rfl) ?_
    cases Option.some.inj hf
    subst hQe
    refine W.widen (k := 19) (n := 1854) (by decide) (by decide) ?_
    exact eg_i hx hb hr hlocks hP hD hS dX10_remove_11

/-! X10_bring -/
abbrev rmX10_bring : Room := { frames := 4, cells := 19, slots := 1854, locals := 123 }
theorem hdS_X10_bring : yX10_bring.cls ≠ "java/lang/invoke/MethodHandle" ∧ yX10_bring.cls ≠ "java/lang/invoke/VarHandle" ∧ (parseMethodDescriptor yX10_bring.desc).map (fun d => d.parameters.length) = some 1 := by decide +kernel
theorem hdV_X10_bring : yX10_bring.cls = RX10 ∧ yX10_bring.cls ≠ "java/lang/invoke/MethodHandle" ∧ yX10_bring.cls ≠ "java/lang/invoke/VarHandle" ∧ (parseMethodDescriptor yX10_bring.desc).map (fun d => d.parameters.length) = some 1 := ⟨rfl, hdS_X10_bring⟩
set_option maxHeartbeats 4000000 in
set_option maxRecDepth 100000 in
theorem c_X10_bring (l : Launch) (E : G0) (sz : Nat) (a0 : Nat → Nat) (db di : Nat → Nat → Nat) (v0 : GC) (p1 : Int32) (x : Int32 × GC) (hf : f_X10_bring v0 p1 = some x) : Met l yX10_bring wsX10_bring rmX10_bring (va_Pc [.ref (a0 0), .int p1] (PW E (wGC E a0 db di v0) sz)) (va_Qi (fun r (q : DA × GC) => r = x.1 ∧ q.2 = x.2) (fun q t => va_P E.1 vwCl (wGC E a0 q.1.1 q.1.2 q.2) t.heap ∧ va_D (va_A (wGC E a0 db di v0) sz) (wGC E a0 q.1.1 q.1.2 q.2)) (va_A (wGC E a0 db di v0) sz)) 19 1854 (va_A (wGC E a0 db di v0) sz) := by
  refine Met.ofW (cc := cX10_bring) (maxL := 2) (ret := some .int) (by decide) rfl ?_
  intro p e s m args below meth c s₁ B hml hv
  obtain ⟨ha, hsz, hP, hD0, hC⟩ := hv
  have hx := B.exec
  have hb := B.bytes
  have hr := B.returns
  have hts := atoms_spec (ws := wsX10_bring) B.pre
  have hown : s.vm.findClass RX10 = some m.cls := findClass_of_methodNamed B.named
  have hlocks := B.notSynchronized
  subst hsz
  have hD := hD0.self (sz := s.heap.size)
  generalize hAe : va_A (wGC E a0 db di v0) s.heap.size = A at hD hC ⊢
  have hA : ∀ q : Nat, s.heap.size ≤ q → A q := fun q h => by rw [← hAe]; exact Or.inr h
  have hS : va_S A s.heap s.heap [] := va_S.rf
  have w1 : (Cond.fieldLink RX10 42 "GreatChunks" "standing" "Z").before args s = true := hts _ (List.mem_of_getElem? (i := 1) rfl)
  have w2 : ∀ w ∈ wsX100, w ∈ wsX10_bring := in_pl 126 rfl
  have w3 : (Cond.constant RX10 99 (-1000002)).before args s = true := hts _ (List.mem_of_getElem? (i := 2) rfl)
  have w4 : (Cond.constant RX10 54 (-1000001)).before args s = true := hts _ (List.mem_of_getElem? (i := 3) rfl)
  have w5 : (Cond.fieldLink RX10 31 "GreatChunks" "house" "LGreatChunks$House;").before args s = true := hts _ (List.mem_of_getElem? (i := 4) rfl)
  have w6 : (Cond.fieldLink RX10 83 "GreatChunks$House" "files" "LGreatChunks$Files;").before args s = true := hts _ (List.mem_of_getElem? (i := 5) rfl)
  have w7 : ∀ w ∈ wsX50, w ∈ wsX10_bring := in_pl 134 rfl
  have w8 : (Cond.fieldLink RX10 24 "GreatChunks" "acts" "LGreatChunks$Acts;").before args s = true := hts _ (List.mem_of_getElem? (i := 6) rfl)
  generalize hQe : MQ below (va_Qi (fun r (q : DA × GC) => r = x.1 ∧ q.2 = x.2) (fun q t => va_P E.1 vwCl (wGC E a0 q.1.1 q.1.2 q.2) t.heap ∧ va_D A (wGC E a0 q.1.1 q.1.2 q.2)) A) args s 19 1854 A = Q
  refine st_W ha (Nat.le_of_ble_eq_true rfl) (fun ls hl => ?_)
  have hl : lv_has ls 2 [(0, .ref (a0 0)), (1, .int p1)] := hl
  unfold f_X10_bring at hf
  refine lv_aload_n hx hb dX10_bring_0 rfl (lv_at hl 0 rfl) ?_
  refine va_get (D := E.1) (ci := 8) (v := .int v0.2.2.2.2.2.2.1) (C := RX10) (T := TX10) (N := 8) hx hb hts w2 hown hC.1 hP 0 rfl rfl 6 (by decide) w1 (fun _ h9 => h9) rfl dX10_bring_1 ?_
  refine lv_if_ne (tgt := 10) hx hb dX10_bring_4 rfl (fun c1 => ?_) (fun c1 => ?_)
  · have hf := it_f hf c1
    refine lv_iload_n hx hb dX10_bring_10 rfl (lv_at hl 1 rfl) ?_
    refine cr_i (va_runS (As := [.int p1]) (rest := []) ⟨hx, hb, hml, hown, hts⟩ (c_X10_isFile l E p1 _ rfl) (va_cwS 1 hts gX10_bring_X10_isFile rfl rfl rfl hdS_X10_isFile ⟨Nat.le_of_ble_eq_true rfl, Nat.le_of_ble_eq_true rfl⟩) ⟨PR.blind, PR.pre hC hS (hP.sub [] rfl)⟩ rfl rfl hl.1 rfl (lv_room (Nat.le_of_ble_eq_true rfl)) dX10_bring_11 ⟨Nat.le_of_ble_eq_true rfl, Nat.le_of_ble_eq_true rfl⟩) ?_
    refine lv_if_ne (tgt := 20) hx hb dX10_bring_14 rfl (fun c2 => ?_) (fun c2 => ?_)
    · have hf := it_f hf c2
      refine lv_aload_n hx hb dX10_bring_20 rfl (lv_at hl 0 rfl) ?_
      refine va_get (D := E.1) (ci := 8) (v := .ref (a0 26)) (C := RX10) (T := TX10) (N := 8) hx hb hts w2 hown hC.1 hP 0 rfl rfl 3 (by decide) w5 (fun _ h9 => h9) rfl dX10_bring_21 ?_
      refine va_get (D := E.1) (ci := 4) (v := .ref (a0 39)) (C := RX5) (T := TX5) (N := 9) hx hb hts w7 hown hC.1 hP 26 rfl rfl 8 (by decide) w6 (fun _ h9 => h9) rfl dX10_bring_24 ?_
      refine lv_iload_n hx hb dX10_bring_27 rfl (lv_at hl 1 rfl) ?_
      refine lv_iconst (v := 2) hx hb dX10_bring_28 rfl ?_
      obtain ⟨r3, e3, hf⟩ := bd_some hf
      refine cr_i (va_runV (As := [.int p1, .int (2 : Int32)]) (rest := []) ⟨hx, hb, hml, hown, hts⟩ (c_X3_is l E (fun k => a0 (k + 39)) v0.2.2.2.1.2.2.2.2.2.2.2.2 p1 (2 : Int32) r3 e3) (cwV 2 hts gX10_bring_X3_is rfl rfl rfl hdV_X3_is ⟨Nat.le_of_ble_eq_true rfl, Nat.le_of_ble_eq_true rfl⟩) ⟨PR.blind, va_recv hC.1 hP (ci := 3) (q0 := 39) rfl rfl, PR.pre hC hS (hP.sub [39, 40, 41, 42, 43, 44] rfl)⟩ rfl rfl hl.1 rfl (lv_room (Nat.le_of_ble_eq_true rfl)) dX10_bring_29 ⟨Nat.le_of_ble_eq_true rfl, Nat.le_of_ble_eq_true rfl⟩) ?_
      refine lv_if_ne (tgt := 38) hx hb dX10_bring_32 rfl (fun c4 => ?_) (fun c4 => ?_)
      · have hf := it_f hf c4
        refine lv_aload_n hx hb dX10_bring_38 rfl (lv_at hl 0 rfl) ?_
        refine va_get (D := E.1) (ci := 8) (v := .ref (a0 24)) (C := RX10) (T := TX10) (N := 8) hx hb hts w2 hown hC.1 hP 0 rfl rfl 2 (by decide) w8 (fun _ h9 => h9) rfl dX10_bring_39 ?_
        refine lv_aload_n hx hb dX10_bring_42 rfl (lv_at hl 0 rfl) ?_
        refine va_get (D := E.1) (ci := 8) (v := .ref (a0 26)) (C := RX10) (T := TX10) (N := 8) hx hb hts w2 hown hC.1 hP 0 rfl rfl 3 (by decide) w5 (fun _ h9 => h9) rfl dX10_bring_43 ?_
        obtain ⟨r5, e5, hf⟩ := bd_some hf
        have hrv := va_recv hC.1 hP (ci := 0) (q0 := 24) rfl rfl
        have hpm := gc_perm E a0 db di v0
        have hP := hP.perm hpm
        have hD := hD.perm hpm
        refine cp_v (wc := wAK E (fun k => a0 (k + 24)) db v0.2.2.1 v0.2.2.2.1) (wf := (fun q : (Nat → Nat → Nat) × ACT => wAK E (fun k => a0 (k + 24)) q.1 q.2 v0.2.2.2.1)) hP hD hS hA (va_runV (As := [.ref (a0 26)]) (rest := []) ⟨hx, hb, hml, hown, hts⟩ (c_X0_keep l E s.heap.size (fun k => a0 (k + 24)) db v0.2.2.1 v0.2.2.2.1 r5 e5) (cwV 1 hts gX10_bring_X0_keep rfl rfl rfl hdV_X0_keep ⟨Nat.le_of_ble_eq_true rfl, Nat.le_of_ble_eq_true rfl⟩) ⟨PW.blind, hrv, PW.pre hC hS (va_P.of (fun z hz => hP.mem (List.mem_append_right _ hz))) hD.right (va_freeR hD hS hA)⟩ rfl rfl hl.1 rfl (lv_room (Nat.le_of_ble_eq_true rfl)) dX10_bring_46 ⟨Nat.le_of_ble_eq_true rfl, Nat.le_of_ble_eq_true rfl⟩) (fun u9 H locs hw9 hP hD hS => ?_)
        obtain ⟨db, u9⟩ := u9
        have hw9 : r5 = u9 := hw9.symm
        subst hw9
        have hpm := (gc_perm E a0 db di (v0.1, v0.2.1, r5, v0.2.2.2.1, v0.2.2.2.2.1, v0.2.2.2.2.2.1, v0.2.2.2.2.2.2.1, v0.2.2.2.2.2.2.2)).symm
        have hP : va_P E.1 vwCl (wGC E a0 db di (v0.1, v0.2.1, r5, v0.2.2.2.1, v0.2.2.2.2.1, v0.2.2.2.2.2.1, v0.2.2.2.2.2.2.1, v0.2.2.2.2.2.2.2)) H := hP.perm hpm
        have hD : va_D A (wGC E a0 db di (v0.1, v0.2.1, r5, v0.2.2.2.1, v0.2.2.2.2.1, v0.2.2.2.2.2.1, v0.2.2.2.2.2.2.1, v0.2.2.2.2.2.2.2)) := hD.perm hpm
        refine lv_aload_n hx hb dX10_bring_49 rfl (lv_at hl 0 rfl) ?_
        refine va_get (D := E.1) (ci := 8) (v := .ref (a0 26)) (C := RX10) (T := TX10) (N := 8) hx hb hts w2 hown hC.1 hP 0 rfl rfl 3 (by decide) w5 (fun _ h9 => h9) rfl dX10_bring_50 ?_
        refine va_get (D := E.1) (ci := 4) (v := .ref (a0 39)) (C := RX5) (T := TX5) (N := 9) hx hb hts w7 hown hC.1 hP 26 rfl rfl 8 (by decide) w6 (fun _ h9 => h9) rfl dX10_bring_53 ?_
        refine lv_iload_n hx hb dX10_bring_56 rfl (lv_at hl 1 rfl) ?_
        obtain ⟨r6, e6, hf⟩ := bd_some hf
        refine cqt_i (wc := (wFL E (fun k => a0 (k + 39)) v0.2.2.2.1.2.2.2.2.2.2.2.2)) (ws := wG0 E a0 db di (v0.1, v0.2.1, r5, v0.2.2.2.1, v0.2.2.2.2.1, v0.2.2.2.2.2.1, v0.2.2.2.2.2.2.1, v0.2.2.2.2.2.2.2)) (tl := wGT E db di (v0.1, v0.2.1, r5, v0.2.2.2.1, v0.2.2.2.2.1, v0.2.2.2.2.2.1, v0.2.2.2.2.2.2.1, v0.2.2.2.2.2.2.2)) hP hD hS hA [39, 40, 41, 42, 43, 44] [0, 1, 2, 3, 4, 5, 6, 7, 8, 9, 10, 11, 12, 13, 14, 15, 16, 17, 18, 19, 20, 21, 22, 23, 24, 25, 26, 27, 28, 29, 30, 31, 32, 33, 34, 35, 36, 37, 38] (va_runV (As := [.int p1]) (rest := []) ⟨hx, hb, hml, hown, hts⟩ (c_X3_showAgain l E H.size (fun k => a0 (k + 39)) v0.2.2.2.1.2.2.2.2.2.2.2.2 p1 r6 e6) (cwV 1 hts gX10_bring_X3_showAgain rfl rfl rfl hdV_X3_showAgain ⟨Nat.le_of_ble_eq_true rfl, Nat.le_of_ble_eq_true rfl⟩) ⟨PW.blind, va_recv hC.1 hP (ci := 3) (q0 := 39) rfl rfl, PW.pre hC hS (hP.sub [39, 40, 41, 42, 43, 44] rfl) (hD.sub [39, 40, 41, 42, 43, 44] rfl rfl) (va_free hD hS hA [39, 40, 41, 42, 43, 44] rfl)⟩ rfl rfl hl.1 rfl (lv_room (Nat.le_of_ble_eq_true rfl)) dX10_bring_57 ⟨Nat.le_of_ble_eq_true rfl, Nat.le_of_ble_eq_true rfl⟩) 45 rfl (by decide +kernel) rfl (wG0 E a0 db di (v0.1, v0.2.1, r5, (v0.2.2.2.1.1, v0.2.2.2.1.2.1, v0.2.2.2.1.2.2.1, v0.2.2.2.1.2.2.2.1, v0.2.2.2.1.2.2.2.2.1, v0.2.2.2.1.2.2.2.2.2.1, v0.2.2.2.1.2.2.2.2.2.2.1, v0.2.2.2.1.2.2.2.2.2.2.2.1, r6.2), v0.2.2.2.2.1, v0.2.2.2.2.2.1, v0.2.2.2.2.2.2.1, v0.2.2.2.2.2.2.2)) rfl rfl (fun H locs hP hD hS => ?_)
        have hP : va_P E.1 vwCl (wGC E a0 db di (v0.1, v0.2.1, r5, (v0.2.2.2.1.1, v0.2.2.2.1.2.1, v0.2.2.2.1.2.2.1, v0.2.2.2.1.2.2.2.1, v0.2.2.2.1.2.2.2.2.1, v0.2.2.2.1.2.2.2.2.2.1, v0.2.2.2.1.2.2.2.2.2.2.1, v0.2.2.2.1.2.2.2.2.2.2.2.1, r6.2), v0.2.2.2.2.1, v0.2.2.2.2.2.1, v0.2.2.2.2.2.2.1, v0.2.2.2.2.2.2.2)) H := hP
        have hD : va_D A (wGC E a0 db di (v0.1, v0.2.1, r5, (v0.2.2.2.1.1, v0.2.2.2.1.2.1, v0.2.2.2.1.2.2.1, v0.2.2.2.1.2.2.2.1, v0.2.2.2.1.2.2.2.2.1, v0.2.2.2.1.2.2.2.2.2.1, v0.2.2.2.1.2.2.2.2.2.2.1, v0.2.2.2.1.2.2.2.2.2.2.2.1, r6.2), v0.2.2.2.2.1, v0.2.2.2.2.2.1, v0.2.2.2.2.2.2.1, v0.2.2.2.2.2.2.2)) := hD
        cases Option.some.inj hf
        subst hQe
        exact eg_i hx hb hr hlocks hP hD hS dX10_bring_60
      · have hf := it_t hf c4
        refine lv_ldc hx hb hown w3 dX10_bring_35 ?_
        cases Option.some.inj hf
        subst hQe
        refine W.widen (k := 19) (n := 1854) (by decide) (by decide) ?_
        exact eg_i hx hb hr hlocks hP hD hS dX10_bring_37
    · have hf := it_t hf c2
      refine lv_ldc hx hb hown w4 dX10_bring_17 ?_
      cases Option.some.inj hf
      subst hQe
      refine W.widen (k := 19) (n := 1854) (by decide) (by decide) ?_
      exact eg_i hx hb hr hlocks hP hD hS dX10_bring_19
  · have hf := it_t hf c1
    refine lv_ldc hx hb hown w3 dX10_bring_7 ?_
    cases Option.some.inj hf
    subst hQe
    refine W.widen (k := 19) (n := 1854) (by decide) (by decide) ?_
    exact eg_i hx hb hr hlocks hP hD hS dX10_bring_9

/-! X10_tick -/
abbrev rmX10_tick : Room := { frames := 5, cells := 19, slots := 1854, locals := 123 }
theorem hdS_X10_tick : yX10_tick.cls ≠ "java/lang/invoke/MethodHandle" ∧ yX10_tick.cls ≠ "java/lang/invoke/VarHandle" ∧ (parseMethodDescriptor yX10_tick.desc).map (fun d => d.parameters.length) = some 1 := by decide +kernel
theorem hdV_X10_tick : yX10_tick.cls = RX10 ∧ yX10_tick.cls ≠ "java/lang/invoke/MethodHandle" ∧ yX10_tick.cls ≠ "java/lang/invoke/VarHandle" ∧ (parseMethodDescriptor yX10_tick.desc).map (fun d => d.parameters.length) = some 1 := ⟨rfl, hdS_X10_tick⟩
set_option maxHeartbeats 4000000 in
set_option maxRecDepth 100000 in
theorem c_X10_tick (l : Launch) (E : G0) (sz : Nat) (a0 : Nat → Nat) (db di : Nat → Nat → Nat) (v0 : GC) (p1 : Int32) (x : Int32 × GC) (hf : f_X10_tick v0 p1 = some x) : Met l yX10_tick wsX10_tick rmX10_tick (va_Pc [.ref (a0 0), .int p1] (PW E (wGC E a0 db di v0) sz)) (va_Qi (fun r (q : DA × GC) => r = x.1 ∧ q.2 = x.2) (fun q t => va_P E.1 vwCl (wGC E a0 q.1.1 q.1.2 q.2) t.heap ∧ va_D (va_A (wGC E a0 db di v0) sz) (wGC E a0 q.1.1 q.1.2 q.2)) (va_A (wGC E a0 db di v0) sz)) 19 1854 (va_A (wGC E a0 db di v0) sz) := by
  refine Met.ofW (cc := cX10_tick) (maxL := 2) (ret := some .int) (by decide) rfl ?_
  intro p e s m args below meth c s₁ B hml hv
  obtain ⟨ha, hsz, hP, hD0, hC⟩ := hv
  have hx := B.exec
  have hb := B.bytes
  have hr := B.returns
  have hts := atoms_spec (ws := wsX10_tick) B.pre
  have hown : s.vm.findClass RX10 = some m.cls := findClass_of_methodNamed B.named
  have hlocks := B.notSynchronized
  subst hsz
  have hD := hD0.self (sz := s.heap.size)
  generalize hAe : va_A (wGC E a0 db di v0) s.heap.size = A at hD hC ⊢
  have hA : ∀ q : Nat, s.heap.size ≤ q → A q := fun q h => by rw [← hAe]; exact Or.inr h
  have hS : va_S A s.heap s.heap [] := va_S.rf
  have w1 : (Cond.fieldLink RX10 42 "GreatChunks" "standing" "Z").before args s = true := hts _ (List.mem_of_getElem? (i := 1) rfl)
  have w2 : ∀ w ∈ wsX100, w ∈ wsX10_tick := in_pl 157 rfl
  have w3 : (Cond.constant RX10 99 (-1000002)).before args s = true := hts _ (List.mem_of_getElem? (i := 2) rfl)
  have w4 : (Cond.constant RX10 54 (-1000001)).before args s = true := hts _ (List.mem_of_getElem? (i := 3) rfl)
  have w5 : (Cond.fieldLink RX10 24 "GreatChunks" "acts" "LGreatChunks$Acts;").before args s = true := hts _ (List.mem_of_getElem? (i := 4) rfl)
  have w6 : (Cond.fieldLink RX10 31 "GreatChunks" "house" "LGreatChunks$House;").before args s = true := hts _ (List.mem_of_getElem? (i := 5) rfl)
  generalize hQe : MQ below (va_Qi (fun r (q : DA × GC) => r = x.1 ∧ q.2 = x.2) (fun q t => va_P E.1 vwCl (wGC E a0 q.1.1 q.1.2 q.2) t.heap ∧ va_D A (wGC E a0 q.1.1 q.1.2 q.2)) A) args s 19 1854 A = Q
  refine st_W ha (Nat.le_of_ble_eq_true rfl) (fun ls hl => ?_)
  have hl : lv_has ls 2 [(0, .ref (a0 0)), (1, .int p1)] := hl
  unfold f_X10_tick at hf
  refine lv_aload_n hx hb dX10_tick_0 rfl (lv_at hl 0 rfl) ?_
  refine va_get (D := E.1) (ci := 8) (v := .int v0.2.2.2.2.2.2.1) (C := RX10) (T := TX10) (N := 8) hx hb hts w2 hown hC.1 hP 0 rfl rfl 6 (by decide) w1 (fun _ h9 => h9) rfl dX10_tick_1 ?_
  refine lv_if_ne (tgt := 10) hx hb dX10_tick_4 rfl (fun c1 => ?_) (fun c1 => ?_)
  · have hf := it_f hf c1
    refine lv_iload_n hx hb dX10_tick_10 rfl (lv_at hl 1 rfl) ?_
    refine lv_iconst (v := 1) hx hb dX10_tick_11 rfl ?_
    refine lv_bipush (v := 50) hx hb dX10_tick_12 rfl ?_
    refine cr_i (va_runS (As := [.int p1, .int (1 : Int32), .int (50 : Int32)]) (rest := []) ⟨hx, hb, hml, hown, hts⟩ (c_X10_within l E p1 (1 : Int32) (50 : Int32) _ rfl) (va_cwS 3 hts gX10_tick_X10_within rfl rfl rfl hdS_X10_within ⟨Nat.le_of_ble_eq_true rfl, Nat.le_of_ble_eq_true rfl⟩) ⟨PR.blind, PR.pre hC hS (hP.sub [] rfl)⟩ rfl rfl hl.1 rfl (lv_room (Nat.le_of_ble_eq_true rfl)) dX10_tick_14 ⟨Nat.le_of_ble_eq_true rfl, Nat.le_of_ble_eq_true rfl⟩) ?_
    refine lv_if_ne (tgt := 23) hx hb dX10_tick_17 rfl (fun c2 => ?_) (fun c2 => ?_)
    · have hf := it_f hf c2
      refine lv_aload_n hx hb dX10_tick_23 rfl (lv_at hl 0 rfl) ?_
      refine va_get (D := E.1) (ci := 8) (v := .ref (a0 24)) (C := RX10) (T := TX10) (N := 8) hx hb hts w2 hown hC.1 hP 0 rfl rfl 2 (by decide) w5 (fun _ h9 => h9) rfl dX10_tick_24 ?_
      refine lv_aload_n hx hb dX10_tick_27 rfl (lv_at hl 0 rfl) ?_
      refine va_get (D := E.1) (ci := 8) (v := .ref (a0 26)) (C := RX10) (T := TX10) (N := 8) hx hb hts w2 hown hC.1 hP 0 rfl rfl 3 (by decide) w6 (fun _ h9 => h9) rfl dX10_tick_28 ?_
      obtain ⟨r3, e3, hf⟩ := bd_some hf
      have hrv := va_recv hC.1 hP (ci := 0) (q0 := 24) rfl rfl
      have hpm := gc_perm E a0 db di v0
      have hP := hP.perm hpm
      have hD := hD.perm hpm
      refine cp_v (wc := wAK E (fun k => a0 (k + 24)) db v0.2.2.1 v0.2.2.2.1) (wf := (fun q : (Nat → Nat → Nat) × ACT => wAK E (fun k => a0 (k + 24)) q.1 q.2 v0.2.2.2.1)) hP hD hS hA (va_runV (As := [.ref (a0 26)]) (rest := []) ⟨hx, hb, hml, hown, hts⟩ (c_X0_keep l E s.heap.size (fun k => a0 (k + 24)) db v0.2.2.1 v0.2.2.2.1 r3 e3) (cwV 1 hts gX10_tick_X0_keep rfl rfl rfl hdV_X0_keep ⟨Nat.le_of_ble_eq_true rfl, Nat.le_of_ble_eq_true rfl⟩) ⟨PW.blind, hrv, PW.pre hC hS (va_P.of (fun z hz => hP.mem (List.mem_append_right _ hz))) hD.right (va_freeR hD hS hA)⟩ rfl rfl hl.1 rfl (lv_room (Nat.le_of_ble_eq_true rfl)) dX10_tick_31 ⟨Nat.le_of_ble_eq_true rfl, Nat.le_of_ble_eq_true rfl⟩) (fun u9 H locs hw9 hP hD hS => ?_)
      obtain ⟨db, u9⟩ := u9
      have hw9 : r3 = u9 := hw9.symm
      subst hw9
      have hpm := (gc_perm E a0 db di (v0.1, v0.2.1, r3, v0.2.2.2.1, v0.2.2.2.2.1, v0.2.2.2.2.2.1, v0.2.2.2.2.2.2.1, v0.2.2.2.2.2.2.2)).symm
      have hP : va_P E.1 vwCl (wGC E a0 db di (v0.1, v0.2.1, r3, v0.2.2.2.1, v0.2.2.2.2.1, v0.2.2.2.2.2.1, v0.2.2.2.2.2.2.1, v0.2.2.2.2.2.2.2)) H := hP.perm hpm
      have hD : va_D A (wGC E a0 db di (v0.1, v0.2.1, r3, v0.2.2.2.1, v0.2.2.2.2.1, v0.2.2.2.2.2.1, v0.2.2.2.2.2.2.1, v0.2.2.2.2.2.2.2)) := hD.perm hpm
      refine lv_aload_n hx hb dX10_tick_34 rfl (lv_at hl 0 rfl) ?_
      refine va_get (D := E.1) (ci := 8) (v := .ref (a0 26)) (C := RX10) (T := TX10) (N := 8) hx hb hts w2 hown hC.1 hP 0 rfl rfl 3 (by decide) w6 (fun _ h9 => h9) rfl dX10_tick_35 ?_
      refine lv_iload_n hx hb dX10_tick_38 rfl (lv_at hl 1 rfl) ?_
      obtain ⟨r4, e4, hf⟩ := bd_some hf
      refine cqt_i (wc := (wHS E (fun k => a0 (k + 26)) v0.2.2.2.1)) (ws := wG0 E a0 db di (v0.1, v0.2.1, r3, v0.2.2.2.1, v0.2.2.2.2.1, v0.2.2.2.2.2.1, v0.2.2.2.2.2.2.1, v0.2.2.2.2.2.2.2)) (tl := wGT E db di (v0.1, v0.2.1, r3, v0.2.2.2.1, v0.2.2.2.2.1, v0.2.2.2.2.2.1, v0.2.2.2.2.2.2.1, v0.2.2.2.2.2.2.2)) hP hD hS hA [26, 27, 28, 29, 30, 31, 32, 33, 34, 35, 36, 37, 38, 39, 40, 41, 42, 43, 44] [0, 1, 2, 3, 4, 5, 6, 7, 8, 9, 10, 11, 12, 13, 14, 15, 16, 17, 18, 19, 20, 21, 22, 23, 24, 25] (va_runV (As := [.int p1]) (rest := []) ⟨hx, hb, hml, hown, hts⟩ (c_X5_comeOn l E H.size (fun k => a0 (k + 26)) v0.2.2.2.1 p1 r4 e4) (cwV 1 hts gX10_tick_X5_comeOn rfl rfl rfl hdV_X5_comeOn ⟨Nat.le_of_ble_eq_true rfl, Nat.le_of_ble_eq_true rfl⟩) ⟨PW.blind, va_recv hC.1 hP (ci := 4) (q0 := 26) rfl rfl, PW.pre hC hS (hP.sub [26, 27, 28, 29, 30, 31, 32, 33, 34, 35, 36, 37, 38, 39, 40, 41, 42, 43, 44] rfl) (hD.sub [26, 27, 28, 29, 30, 31, 32, 33, 34, 35, 36, 37, 38, 39, 40, 41, 42, 43, 44] rfl rfl) (va_free hD hS hA [26, 27, 28, 29, 30, 31, 32, 33, 34, 35, 36, 37, 38, 39, 40, 41, 42, 43, 44] rfl)⟩ rfl rfl hl.1 rfl (lv_room (Nat.le_of_ble_eq_true rfl)) dX10_tick_39 ⟨Nat.le_of_ble_eq_true rfl, Nat.le_of_ble_eq_true rfl⟩) 45 rfl (by decide +kernel) rfl (wG0 E a0 db di (v0.1, v0.2.1, r3, r4.2, v0.2.2.2.2.1, v0.2.2.2.2.2.1, v0.2.2.2.2.2.2.1, v0.2.2.2.2.2.2.2)) rfl rfl (fun H locs hP hD hS => ?_)
      have hP : va_P E.1 vwCl (wGC E a0 db di (v0.1, v0.2.1, r3, r4.2, v0.2.2.2.2.1, v0.2.2.2.2.2.1, v0.2.2.2.2.2.2.1, v0.2.2.2.2.2.2.2)) H := hP
      have hD : va_D A (wGC E a0 db di (v0.1, v0.2.1, r3, r4.2, v0.2.2.2.2.1, v0.2.2.2.2.2.1, v0.2.2.2.2.2.2.1, v0.2.2.2.2.2.2.2)) := hD
      cases Option.some.inj hf
      subst hQe
      exact eg_i hx hb hr hlocks hP hD hS dX10_tick_42
    · have hf := it_t hf c2
      refine lv_ldc hx hb hown w4 dX10_tick_20 ?_
      cases Option.some.inj hf
      subst hQe
      refine W.widen (k := 19) (n := 1854) (by decide) (by decide) ?_
      exact eg_i hx hb hr hlocks hP hD hS dX10_tick_22
  · have hf := it_t hf c1
    refine lv_ldc hx hb hown w3 dX10_tick_7 ?_
    cases Option.some.inj hf
    subst hQe
    refine W.widen (k := 19) (n := 1854) (by decide) (by decide) ?_
    exact eg_i hx hb hr hlocks hP hD hS dX10_tick_9

/-! X10_turn -/
abbrev rmX10_turn : Room := { frames := 4, cells := 19, slots := 1854, locals := 123 }
theorem hdS_X10_turn : yX10_turn.cls ≠ "java/lang/invoke/MethodHandle" ∧ yX10_turn.cls ≠ "java/lang/invoke/VarHandle" ∧ (parseMethodDescriptor yX10_turn.desc).map (fun d => d.parameters.length) = some 3 := by decide +kernel
theorem hdV_X10_turn : yX10_turn.cls = RX10 ∧ yX10_turn.cls ≠ "java/lang/invoke/MethodHandle" ∧ yX10_turn.cls ≠ "java/lang/invoke/VarHandle" ∧ (parseMethodDescriptor yX10_turn.desc).map (fun d => d.parameters.length) = some 3 := ⟨rfl, hdS_X10_turn⟩
set_option maxHeartbeats 4000000 in
set_option maxRecDepth 100000 in
theorem c_X10_turn (l : Launch) (E : G0) (sz : Nat) (a0 : Nat → Nat) (db di : Nat → Nat → Nat) (v0 : GC) (p1 : Int32) (p2 : Int32) (p3 : Int32) (x : Int32 × GC) (hf : f_X10_turn v0 p1 p2 p3 = some x) : Met l yX10_turn wsX10_turn rmX10_turn (va_Pc [.ref (a0 0), .int p1, .int p2, .int p3] (PW E (wGC E a0 db di v0) sz)) (va_Qi (fun r (q : DA × GC) => r = x.1 ∧ q.2 = x.2) (fun q t => va_P E.1 vwCl (wGC E a0 q.1.1 q.1.2 q.2) t.heap ∧ va_D (va_A (wGC E a0 db di v0) sz) (wGC E a0 q.1.1 q.1.2 q.2)) (va_A (wGC E a0 db di v0) sz)) 19 1854 (va_A (wGC E a0 db di v0) sz) := by
  refine Met.ofW (cc := cX10_turn) (maxL := 4) (ret := some .int) (by decide) rfl ?_
  intro p e s m args below meth c s₁ B hml hv
  obtain ⟨ha, hsz, hP, hD0, hC⟩ := hv
  have hx := B.exec
  have hb := B.bytes
  have hr := B.returns
  have hts := atoms_spec (ws := wsX10_turn) B.pre
  have hown : s.vm.findClass RX10 = some m.cls := findClass_of_methodNamed B.named
  have hlocks := B.notSynchronized
  subst hsz
  have hD := hD0.self (sz := s.heap.size)
  generalize hAe : va_A (wGC E a0 db di v0) s.heap.size = A at hD hC ⊢
  have hA : ∀ q : Nat, s.heap.size ≤ q → A q := fun q h => by rw [← hAe]; exact Or.inr h
  have hS : va_S A s.heap s.heap [] := va_S.rf
  have w1 : (Cond.fieldLink RX10 31 "GreatChunks" "house" "LGreatChunks$House;").before args s = true := hts _ (List.mem_of_getElem? (i := 1) rfl)
  have w2 : ∀ w ∈ wsX100, w ∈ wsX10_turn := in_pl 136 rfl
  have w3 : (Cond.fieldLink RX10 170 "GreatChunks$House" "servers" "LGreatChunks$Servers;").before args s = true := hts _ (List.mem_of_getElem? (i := 2) rfl)
  have w4 : ∀ w ∈ wsX50, w ∈ wsX10_turn := in_pl 144 rfl
  have w5 : (Cond.constant RX10 54 (-1000001)).before args s = true := hts _ (List.mem_of_getElem? (i := 3) rfl)
  have w6 : (Cond.constant RX10 99 (-1000002)).before args s = true := hts _ (List.mem_of_getElem? (i := 4) rfl)
  have w7 : (Cond.fieldLink RX10 24 "GreatChunks" "acts" "LGreatChunks$Acts;").before args s = true := hts _ (List.mem_of_getElem? (i := 5) rfl)
  generalize hQe : MQ below (va_Qi (fun r (q : DA × GC) => r = x.1 ∧ q.2 = x.2) (fun q t => va_P E.1 vwCl (wGC E a0 q.1.1 q.1.2 q.2) t.heap ∧ va_D A (wGC E a0 q.1.1 q.1.2 q.2)) A) args s 19 1854 A = Q
  refine st_W ha (Nat.le_of_ble_eq_true rfl) (fun ls hl => ?_)
  have hl : lv_has ls 4 [(0, .ref (a0 0)), (1, .int p1), (2, .int p2), (3, .int p3)] := hl
  unfold f_X10_turn at hf
  refine lv_aload_n hx hb dX10_turn_0 rfl (lv_at hl 0 rfl) ?_
  refine va_get (D := E.1) (ci := 8) (v := .ref (a0 26)) (C := RX10) (T := TX10) (N := 8) hx hb hts w2 hown hC.1 hP 0 rfl rfl 3 (by decide) w1 (fun _ h9 => h9) rfl dX10_turn_1 ?_
  refine va_get (D := E.1) (ci := 4) (v := .ref (a0 27)) (C := RX5) (T := TX5) (N := 9) hx hb hts w4 hown hC.1 hP 26 rfl rfl 5 (by decide) w3 (fun _ h9 => h9) rfl dX10_turn_4 ?_
  refine lv_iload_n hx hb dX10_turn_7 rfl (lv_at hl 1 rfl) ?_
  refine cr_i (va_runV (As := [.int p1]) (rest := []) ⟨hx, hb, hml, hown, hts⟩ (c_X8_has l E (fun k => a0 (k + 27)) v0.2.2.2.1.2.2.2.2.2.1 p1 _ rfl) (cwV 1 hts gX10_turn_X8_has rfl rfl rfl hdV_X8_has ⟨Nat.le_of_ble_eq_true rfl, Nat.le_of_ble_eq_true rfl⟩) ⟨PR.blind, va_recv hC.1 hP (ci := 6) (q0 := 27) rfl rfl, PR.pre hC hS (hP.sub [27, 28, 29] rfl)⟩ rfl rfl hl.1 rfl (lv_room (Nat.le_of_ble_eq_true rfl)) dX10_turn_8 ⟨Nat.le_of_ble_eq_true rfl, Nat.le_of_ble_eq_true rfl⟩) ?_
  refine lv_if_ne (tgt := 17) hx hb dX10_turn_11 rfl (fun c1 => ?_) (fun c1 => ?_)
  · have hf := it_f hf c1
    refine lv_aload_n hx hb dX10_turn_17 rfl (lv_at hl 0 rfl) ?_
    refine va_get (D := E.1) (ci := 8) (v := .ref (a0 26)) (C := RX10) (T := TX10) (N := 8) hx hb hts w2 hown hC.1 hP 0 rfl rfl 3 (by decide) w1 (fun _ h9 => h9) rfl dX10_turn_18 ?_
    refine va_get (D := E.1) (ci := 4) (v := .ref (a0 27)) (C := RX5) (T := TX5) (N := 9) hx hb hts w4 hown hC.1 hP 26 rfl rfl 5 (by decide) w3 (fun _ h9 => h9) rfl dX10_turn_21 ?_
    refine lv_iload_n hx hb dX10_turn_24 rfl (lv_at hl 1 rfl) ?_
    refine cr_i (va_runV (As := [.int p1]) (rest := []) ⟨hx, hb, hml, hown, hts⟩ (c_X8_hasUp l E (fun k => a0 (k + 27)) v0.2.2.2.1.2.2.2.2.2.1 p1 _ rfl) (cwV 1 hts gX10_turn_X8_hasUp rfl rfl rfl hdV_X8_hasUp ⟨Nat.le_of_ble_eq_true rfl, Nat.le_of_ble_eq_true rfl⟩) ⟨PR.blind, va_recv hC.1 hP (ci := 6) (q0 := 27) rfl rfl, PR.pre hC hS (hP.sub [27, 28, 29] rfl)⟩ rfl rfl hl.1 rfl (lv_room (Nat.le_of_ble_eq_true rfl)) dX10_turn_25 ⟨Nat.le_of_ble_eq_true rfl, Nat.le_of_ble_eq_true rfl⟩) ?_
    refine lv_iload_n hx hb dX10_turn_28 rfl (lv_at hl 2 rfl) ?_
    refine lv_icmp_eq (tgt := 35) hx hb dX10_turn_29 rfl (fun c2 => ?_) (fun c2 => ?_)
    · have hf := it_t hf c2
      refine lv_aload_n hx hb dX10_turn_35 rfl (lv_at hl 0 rfl) ?_
      refine va_get (D := E.1) (ci := 8) (v := .ref (a0 24)) (C := RX10) (T := TX10) (N := 8) hx hb hts w2 hown hC.1 hP 0 rfl rfl 2 (by decide) w7 (fun _ h9 => h9) rfl dX10_turn_36 ?_
      refine lv_aload_n hx hb dX10_turn_39 rfl (lv_at hl 0 rfl) ?_
      refine va_get (D := E.1) (ci := 8) (v := .ref (a0 26)) (C := RX10) (T := TX10) (N := 8) hx hb hts w2 hown hC.1 hP 0 rfl rfl 3 (by decide) w1 (fun _ h9 => h9) rfl dX10_turn_40 ?_
      obtain ⟨r3, e3, hf⟩ := bd_some hf
      have hrv := va_recv hC.1 hP (ci := 0) (q0 := 24) rfl rfl
      have hpm := gc_perm E a0 db di v0
      have hP := hP.perm hpm
      have hD := hD.perm hpm
      refine cp_v (wc := wAK E (fun k => a0 (k + 24)) db v0.2.2.1 v0.2.2.2.1) (wf := (fun q : (Nat → Nat → Nat) × ACT => wAK E (fun k => a0 (k + 24)) q.1 q.2 v0.2.2.2.1)) hP hD hS hA (va_runV (As := [.ref (a0 26)]) (rest := []) ⟨hx, hb, hml, hown, hts⟩ (c_X0_keep l E s.heap.size (fun k => a0 (k + 24)) db v0.2.2.1 v0.2.2.2.1 r3 e3) (cwV 1 hts gX10_turn_X0_keep rfl rfl rfl hdV_X0_keep ⟨Nat.le_of_ble_eq_true rfl, Nat.le_of_ble_eq_true rfl⟩) ⟨PW.blind, hrv, PW.pre hC hS (va_P.of (fun z hz => hP.mem (List.mem_append_right _ hz))) hD.right (va_freeR hD hS hA)⟩ rfl rfl hl.1 rfl (lv_room (Nat.le_of_ble_eq_true rfl)) dX10_turn_43 ⟨Nat.le_of_ble_eq_true rfl, Nat.le_of_ble_eq_true rfl⟩) (fun u9 H locs hw9 hP hD hS => ?_)
      obtain ⟨db, u9⟩ := u9
      have hw9 : r3 = u9 := hw9.symm
      subst hw9
      have hpm := (gc_perm E a0 db di (v0.1, v0.2.1, r3, v0.2.2.2.1, v0.2.2.2.2.1, v0.2.2.2.2.2.1, v0.2.2.2.2.2.2.1, v0.2.2.2.2.2.2.2)).symm
      have hP : va_P E.1 vwCl (wGC E a0 db di (v0.1, v0.2.1, r3, v0.2.2.2.1, v0.2.2.2.2.1, v0.2.2.2.2.2.1, v0.2.2.2.2.2.2.1, v0.2.2.2.2.2.2.2)) H := hP.perm hpm
      have hD : va_D A (wGC E a0 db di (v0.1, v0.2.1, r3, v0.2.2.2.1, v0.2.2.2.2.1, v0.2.2.2.2.2.1, v0.2.2.2.2.2.2.1, v0.2.2.2.2.2.2.2)) := hD.perm hpm
      refine lv_aload_n hx hb dX10_turn_46 rfl (lv_at hl 0 rfl) ?_
      refine va_get (D := E.1) (ci := 8) (v := .ref (a0 26)) (C := RX10) (T := TX10) (N := 8) hx hb hts w2 hown hC.1 hP 0 rfl rfl 3 (by decide) w1 (fun _ h9 => h9) rfl dX10_turn_47 ?_
      refine va_get (D := E.1) (ci := 4) (v := .ref (a0 27)) (C := RX5) (T := TX5) (N := 9) hx hb hts w4 hown hC.1 hP 26 rfl rfl 5 (by decide) w3 (fun _ h9 => h9) rfl dX10_turn_50 ?_
      refine lv_iload_n hx hb dX10_turn_53 rfl (lv_at hl 1 rfl) ?_
      refine lv_iload_n hx hb dX10_turn_54 rfl (lv_at hl 3 rfl) ?_
      obtain ⟨r4, e4, hf⟩ := bd_some hf
      refine cqt_v (wc := (wSV E (fun k => a0 (k + 27)) v0.2.2.2.1.2.2.2.2.2.1)) (ws := wG0 E a0 db di (v0.1, v0.2.1, r3, v0.2.2.2.1, v0.2.2.2.2.1, v0.2.2.2.2.2.1, v0.2.2.2.2.2.2.1, v0.2.2.2.2.2.2.2)) (tl := wGT E db di (v0.1, v0.2.1, r3, v0.2.2.2.1, v0.2.2.2.2.1, v0.2.2.2.2.2.1, v0.2.2.2.2.2.2.1, v0.2.2.2.2.2.2.2)) hP hD hS hA [27, 28, 29] [0, 1, 2, 3, 4, 5, 6, 7, 8, 9, 10, 11, 12, 13, 14, 15, 16, 17, 18, 19, 20, 21, 22, 23, 24, 25, 26, 30, 31, 32, 33, 34, 35, 36, 37, 38, 39, 40, 41, 42, 43, 44] (va_runV (As := [.int p1, .int p3]) (rest := []) ⟨hx, hb, hml, hown, hts⟩ (c_X8_turn l E H.size (fun k => a0 (k + 27)) v0.2.2.2.1.2.2.2.2.2.1 p1 p3 r4 e4) (cwV 2 hts gX10_turn_X8_turn rfl rfl rfl hdV_X8_turn ⟨Nat.le_of_ble_eq_true rfl, Nat.le_of_ble_eq_true rfl⟩) ⟨PW.blind, va_recv hC.1 hP (ci := 6) (q0 := 27) rfl rfl, PW.pre hC hS (hP.sub [27, 28, 29] rfl) (hD.sub [27, 28, 29] rfl rfl) (va_free hD hS hA [27, 28, 29] rfl)⟩ rfl rfl hl.1 rfl (lv_room (Nat.le_of_ble_eq_true rfl)) dX10_turn_55 ⟨Nat.le_of_ble_eq_true rfl, Nat.le_of_ble_eq_true rfl⟩) 45 rfl (by decide +kernel) rfl (wG0 E a0 db di (v0.1, v0.2.1, r3, (v0.2.2.2.1.1, v0.2.2.2.1.2.1, v0.2.2.2.1.2.2.1, v0.2.2.2.1.2.2.2.1, v0.2.2.2.1.2.2.2.2.1, r4, v0.2.2.2.1.2.2.2.2.2.2.1, v0.2.2.2.1.2.2.2.2.2.2.2.1, v0.2.2.2.1.2.2.2.2.2.2.2.2), v0.2.2.2.2.1, v0.2.2.2.2.2.1, v0.2.2.2.2.2.2.1, v0.2.2.2.2.2.2.2)) rfl rfl (fun H locs hP hD hS => ?_)
      have hP : va_P E.1 vwCl (wGC E a0 db di (v0.1, v0.2.1, r3, (v0.2.2.2.1.1, v0.2.2.2.1.2.1, v0.2.2.2.1.2.2.1, v0.2.2.2.1.2.2.2.1, v0.2.2.2.1.2.2.2.2.1, r4, v0.2.2.2.1.2.2.2.2.2.2.1, v0.2.2.2.1.2.2.2.2.2.2.2.1, v0.2.2.2.1.2.2.2.2.2.2.2.2), v0.2.2.2.2.1, v0.2.2.2.2.2.1, v0.2.2.2.2.2.2.1, v0.2.2.2.2.2.2.2)) H := hP
      have hD : va_D A (wGC E a0 db di (v0.1, v0.2.1, r3, (v0.2.2.2.1.1, v0.2.2.2.1.2.1, v0.2.2.2.1.2.2.1, v0.2.2.2.1.2.2.2.1, v0.2.2.2.1.2.2.2.2.1, r4, v0.2.2.2.1.2.2.2.2.2.2.1, v0.2.2.2.1.2.2.2.2.2.2.2.1, v0.2.2.2.1.2.2.2.2.2.2.2.2), v0.2.2.2.2.1, v0.2.2.2.2.2.1, v0.2.2.2.2.2.2.1, v0.2.2.2.2.2.2.2)) := hD
      refine lv_aload_n hx hb dX10_turn_58 rfl (lv_at hl 0 rfl) ?_
      refine va_get (D := E.1) (ci := 8) (v := .ref (a0 26)) (C := RX10) (T := TX10) (N := 8) hx hb hts w2 hown hC.1 hP 0 rfl rfl 3 (by decide) w1 (fun _ h9 => h9) rfl dX10_turn_59 ?_
      refine va_get (D := E.1) (ci := 4) (v := .ref (a0 27)) (C := RX5) (T := TX5) (N := 9) hx hb hts w4 hown hC.1 hP 26 rfl rfl 5 (by decide) w3 (fun _ h9 => h9) rfl dX10_turn_62 ?_
      refine cr_i (va_runV (As := []) (rest := []) ⟨hx, hb, hml, hown, hts⟩ (c_X8_manyUp l E (fun k => a0 (k + 27)) r4 _ rfl) (cwV 0 hts gX10_turn_X8_manyUp rfl rfl rfl hdV_X8_manyUp ⟨Nat.le_of_ble_eq_true rfl, Nat.le_of_ble_eq_true rfl⟩) ⟨PR.blind, va_recv hC.1 hP (ci := 6) (q0 := 27) rfl rfl, PR.pre hC hS (hP.sub [27, 28, 29] rfl)⟩ rfl rfl hl.1 rfl (lv_room (Nat.le_of_ble_eq_true rfl)) dX10_turn_65 ⟨Nat.le_of_ble_eq_true rfl, Nat.le_of_ble_eq_true rfl⟩) ?_
      cases Option.some.inj hf
      subst hQe
      exact eg_i hx hb hr hlocks hP hD hS dX10_turn_68
    · have hf := it_f hf c2
      refine lv_ldc hx hb hown w6 dX10_turn_32 ?_
      cases Option.some.inj hf
      subst hQe
      refine W.widen (k := 19) (n := 1854) (by decide) (by decide) ?_
      exact eg_i hx hb hr hlocks hP hD hS dX10_turn_34
  · have hf := it_t hf c1
    refine lv_ldc hx hb hown w5 dX10_turn_14 ?_
    cases Option.some.inj hf
    subst hQe
    refine W.widen (k := 19) (n := 1854) (by decide) (by decide) ?_
    exact eg_i hx hb hr hlocks hP hD hS dX10_turn_16

/-! X10_down -/
abbrev rmX10_down : Room := { frames := 5, cells := 19, slots := 1854, locals := 146 }
theorem hdS_X10_down : yX10_down.cls ≠ "java/lang/invoke/MethodHandle" ∧ yX10_down.cls ≠ "java/lang/invoke/VarHandle" ∧ (parseMethodDescriptor yX10_down.desc).map (fun d => d.parameters.length) = some 1 := by decide +kernel
theorem hdV_X10_down : yX10_down.cls = RX10 ∧ yX10_down.cls ≠ "java/lang/invoke/MethodHandle" ∧ yX10_down.cls ≠ "java/lang/invoke/VarHandle" ∧ (parseMethodDescriptor yX10_down.desc).map (fun d => d.parameters.length) = some 1 := ⟨rfl, hdS_X10_down⟩
set_option maxHeartbeats 4000000 in
set_option maxRecDepth 100000 in
theorem c_X10_down (l : Launch) (E : G0) (sz : Nat) (a0 : Nat → Nat) (db di : Nat → Nat → Nat) (v0 : GC) (p1 : Int32) (x : Int32 × GC) (hf : f_X10_down v0 p1 = some x) : Met l yX10_down wsX10_down rmX10_down (va_Pc [.ref (a0 0), .int p1] (PW E (wGC E a0 db di v0) sz)) (va_Qi (fun r (q : DA × GC) => r = x.1 ∧ q.2 = x.2) (fun q t => va_P E.1 vwCl (wGC E a0 q.1.1 q.1.2 q.2) t.heap ∧ va_D (va_A (wGC E a0 db di v0) sz) (wGC E a0 q.1.1 q.1.2 q.2)) (va_A (wGC E a0 db di v0) sz)) 19 1854 (va_A (wGC E a0 db di v0) sz) := by
  refine Met.ofW (cc := cX10_down) (maxL := 2) (ret := some .int) (by decide) rfl ?_
  intro p e s m args below meth c s₁ B hml hv
  obtain ⟨ha, hsz, hP, hD0, hC⟩ := hv
  have hx := B.exec
  have hb := B.bytes
  have hr := B.returns
  have hts := atoms_spec (ws := wsX10_down) B.pre
  have hown : s.vm.findClass RX10 = some m.cls := findClass_of_methodNamed B.named
  have hlocks := B.notSynchronized
  subst hsz
  have hD := hD0.self (sz := s.heap.size)
  generalize hAe : va_A (wGC E a0 db di v0) s.heap.size = A at hD hC ⊢
  have hA : ∀ q : Nat, s.heap.size ≤ q → A q := fun q h => by rw [← hAe]; exact Or.inr h
  have hS : va_S A s.heap s.heap [] := va_S.rf
  generalize hQe : MQ below (va_Qi (fun r (q : DA × GC) => r = x.1 ∧ q.2 = x.2) (fun q t => va_P E.1 vwCl (wGC E a0 q.1.1 q.1.2 q.2) t.heap ∧ va_D A (wGC E a0 q.1.1 q.1.2 q.2)) A) args s 19 1854 A = Q
  refine st_W ha (Nat.le_of_ble_eq_true rfl) (fun ls hl => ?_)
  have hl : lv_has ls 2 [(0, .ref (a0 0)), (1, .int p1)] := hl
  unfold f_X10_down at hf
  refine lv_aload_n hx hb dX10_down_0 rfl (lv_at hl 0 rfl) ?_
  refine lv_iload_n hx hb dX10_down_1 rfl (lv_at hl 1 rfl) ?_
  refine lv_iconst (v := 1) hx hb dX10_down_2 rfl ?_
  refine lv_iconst (v := 0) hx hb dX10_down_3 rfl ?_
  obtain ⟨r1, e1, hf⟩ := bd_some hf
  refine cp_i (wr := []) (wc := (wGC E a0 db di v0)) (wf := (fun q : DA × GC => wGC E a0 q.1.1 q.1.2 q.2)) hP hD hS hA (va_runV (As := [.int p1, .int (1 : Int32), .int (0 : Int32)]) (rest := []) ⟨hx, hb, hml, hown, hts⟩ (c_X10_turn l E s.heap.size a0 db di v0 p1 (1 : Int32) (0 : Int32) r1 e1) (cwV 3 hts gX10_down_X10_turn rfl rfl rfl hdV_X10_turn ⟨Nat.le_of_ble_eq_true rfl, Nat.le_of_ble_eq_true rfl⟩) ⟨PW.blind, va_recv hC.1 hP (ci := 8) (q0 := 0) rfl rfl, PW.pre hC hS hP hD (va_freeR (wr := []) hD hS hA)⟩ rfl rfl hl.1 rfl (lv_room (Nat.le_of_ble_eq_true rfl)) dX10_down_4 ⟨Nat.le_of_ble_eq_true rfl, Nat.le_of_ble_eq_true rfl⟩) (fun r9 u9 H locs hw9 hP hD hS => ?_)
  obtain ⟨⟨db, di⟩, u9⟩ := u9
  obtain ⟨hw8, hw9⟩ := hw9
  have hw9 : u9 = r1.2 := hw9
  subst hw8
  subst hw9
  have hP : va_P E.1 vwCl (wGC E a0 db di r1.2) H := hP
  have hD : va_D A (wGC E a0 db di r1.2) := hD
  cases Option.some.inj hf
  subst hQe
  exact eg_i hx hb hr hlocks hP hD hS dX10_down_7

/-! X10_up -/
abbrev rmX10_up : Room := { frames := 5, cells := 19, slots := 1854, locals := 146 }
theorem hdS_X10_up : yX10_up.cls ≠ "java/lang/invoke/MethodHandle" ∧ yX10_up.cls ≠ "java/lang/invoke/VarHandle" ∧ (parseMethodDescriptor yX10_up.desc).map (fun d => d.parameters.length) = some 1 := by decide +kernel
theorem hdV_X10_up : yX10_up.cls = RX10 ∧ yX10_up.cls ≠ "java/lang/invoke/MethodHandle" ∧ yX10_up.cls ≠ "java/lang/invoke/VarHandle" ∧ (parseMethodDescriptor yX10_up.desc).map (fun d => d.parameters.length) = some 1 := ⟨rfl, hdS_X10_up⟩
set_option maxHeartbeats 4000000 in
set_option maxRecDepth 100000 in
theorem c_X10_up (l : Launch) (E : G0) (sz : Nat) (a0 : Nat → Nat) (db di : Nat → Nat → Nat) (v0 : GC) (p1 : Int32) (x : Int32 × GC) (hf : f_X10_up v0 p1 = some x) : Met l yX10_up wsX10_up rmX10_up (va_Pc [.ref (a0 0), .int p1] (PW E (wGC E a0 db di v0) sz)) (va_Qi (fun r (q : DA × GC) => r = x.1 ∧ q.2 = x.2) (fun q t => va_P E.1 vwCl (wGC E a0 q.1.1 q.1.2 q.2) t.heap ∧ va_D (va_A (wGC E a0 db di v0) sz) (wGC E a0 q.1.1 q.1.2 q.2)) (va_A (wGC E a0 db di v0) sz)) 19 1854 (va_A (wGC E a0 db di v0) sz) := by
  refine Met.ofW (cc := cX10_up) (maxL := 2) (ret := some .int) (by decide) rfl ?_
  intro p e s m args below meth c s₁ B hml hv
  obtain ⟨ha, hsz, hP, hD0, hC⟩ := hv
  have hx := B.exec
  have hb := B.bytes
  have hr := B.returns
  have hts := atoms_spec (ws := wsX10_up) B.pre
  have hown : s.vm.findClass RX10 = some m.cls := findClass_of_methodNamed B.named
  have hlocks := B.notSynchronized
  subst hsz
  have hD := hD0.self (sz := s.heap.size)
  generalize hAe : va_A (wGC E a0 db di v0) s.heap.size = A at hD hC ⊢
  have hA : ∀ q : Nat, s.heap.size ≤ q → A q := fun q h => by rw [← hAe]; exact Or.inr h
  have hS : va_S A s.heap s.heap [] := va_S.rf
  generalize hQe : MQ below (va_Qi (fun r (q : DA × GC) => r = x.1 ∧ q.2 = x.2) (fun q t => va_P E.1 vwCl (wGC E a0 q.1.1 q.1.2 q.2) t.heap ∧ va_D A (wGC E a0 q.1.1 q.1.2 q.2)) A) args s 19 1854 A = Q
  refine st_W ha (Nat.le_of_ble_eq_true rfl) (fun ls hl => ?_)
  have hl : lv_has ls 2 [(0, .ref (a0 0)), (1, .int p1)] := hl
  unfold f_X10_up at hf
  refine lv_aload_n hx hb dX10_up_0 rfl (lv_at hl 0 rfl) ?_
  refine lv_iload_n hx hb dX10_up_1 rfl (lv_at hl 1 rfl) ?_
  refine lv_iconst (v := 0) hx hb dX10_up_2 rfl ?_
  refine lv_iconst (v := 1) hx hb dX10_up_3 rfl ?_
  obtain ⟨r1, e1, hf⟩ := bd_some hf
  refine cp_i (wr := []) (wc := (wGC E a0 db di v0)) (wf := (fun q : DA × GC => wGC E a0 q.1.1 q.1.2 q.2)) hP hD hS hA (va_runV (As := [.int p1, .int (0 : Int32), .int (1 : Int32)]) (rest := []) ⟨hx, hb, hml, hown, hts⟩ (c_X10_turn l E s.heap.size a0 db di v0 p1 (0 : Int32) (1 : Int32) r1 e1) (cwV 3 hts gX10_up_X10_turn rfl rfl rfl hdV_X10_turn ⟨Nat.le_of_ble_eq_true rfl, Nat.le_of_ble_eq_true rfl⟩) ⟨PW.blind, va_recv hC.1 hP (ci := 8) (q0 := 0) rfl rfl, PW.pre hC hS hP hD (va_freeR (wr := []) hD hS hA)⟩ rfl rfl hl.1 rfl (lv_room (Nat.le_of_ble_eq_true rfl)) dX10_up_4 ⟨Nat.le_of_ble_eq_true rfl, Nat.le_of_ble_eq_true rfl⟩) (fun r9 u9 H locs hw9 hP hD hS => ?_)
  obtain ⟨⟨db, di⟩, u9⟩ := u9
  obtain ⟨hw8, hw9⟩ := hw9
  have hw9 : u9 = r1.2 := hw9
  subst hw8
  subst hw9
  have hP : va_P E.1 vwCl (wGC E a0 db di r1.2) H := hP
  have hD : va_D A (wGC E a0 db di r1.2) := hD
  cases Option.some.inj hf
  subst hQe
  exact eg_i hx hb hr hlocks hP hD hS dX10_up_7
