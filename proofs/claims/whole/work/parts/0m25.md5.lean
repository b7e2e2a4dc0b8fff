/-! X11_image -/
abbrev rmX11_image : Room := { frames := 1, cells := 0, slots := 0, locals := 25 }
theorem hdS_X11_image : yX11_image.cls ≠ "java/lang/invoke/MethodHandle" ∧ yX11_image.cls ≠ "java/lang/invoke/VarHandle" ∧ (parseMethodDescriptor yX11_image.desc).map (fun d => d.parameters.length) = some 1 := by decide +kernel
theorem hdV_X11_image : yX11_image.cls = RX11 ∧ yX11_image.cls ≠ "java/lang/invoke/MethodHandle" ∧ yX11_image.cls ≠ "java/lang/invoke/VarHandle" ∧ (parseMethodDescriptor yX11_image.desc).map (fun d => d.parameters.length) = some 1 := ⟨rfl, hdS_X11_image⟩
set_option maxHeartbeats 4000000 in
set_option maxRecDepth 100000 in
theorem c_X11_image (l : Launch) (E : G0) (sz : Nat) (a0 : Nat → Nat) (v0 : MD) (p1 : Int32) (x : Int32 × MD) (hf : f_X11_image v0 p1 = some x) : Met l yX11_image wsX11_image rmX11_image (va_Pc [.ref (a0 0), .int p1] (PW E (wMD E a0 v0) sz)) (va_Qi (fun r q => r = x.1 ∧ q = x.2) (fun q t => va_P E.1 vwCl ((fun q : MD => wMD E a0 q) q) t.heap ∧ va_D (va_A (wMD E a0 v0) sz) ((fun q : MD => wMD E a0 q) q)) (va_A (wMD E a0 v0) sz)) 0 0 (va_A (wMD E a0 v0) sz) := by
  refine Met.ofW (cc := cX11_image) (maxL := 2) (ret := some .int) (by decide) rfl ?_
  intro p e s m args below meth c s₁ B hml hv
  obtain ⟨ha, hsz, hP, hD0, hC⟩ := hv
  have hx := B.exec
  have hb := B.bytes
  have hr := B.returns
  have hts := atoms_spec (ws := wsX11_image) B.pre
  have hown : s.vm.findClass RX11 = some m.cls := findClass_of_methodNamed B.named
  have hlocks := B.notSynchronized
  subst hsz
  have hD := hD0.self (sz := s.heap.size)
  generalize hAe : va_A (wMD E a0 v0) s.heap.size = A at hD hC ⊢
  have hA : ∀ q : Nat, s.heap.size ≤ q → A q := fun q h => by rw [← hAe]; exact Or.inr h
  have hS : va_S A s.heap s.heap [] := va_S.rf
  have w1 : (Cond.constant RX11 235 (-1000001)).before args s = true := hts _ (List.mem_of_getElem? (i := 1) rfl)
  have w2 : (Cond.constant RX11 261 (-1000002)).before args s = true := hts _ (List.mem_of_getElem? (i := 2) rfl)
  have w3 : (Cond.fieldLink RX11 7 "GreatChunksModel" "now" "[J").before args s = true := hts _ (List.mem_of_getElem? (i := 3) rfl)
  have w4 : ∀ w ∈ wsX110, w ∈ wsX11_image := in_pl 17 rfl
  have w5 : (Cond.fieldLink RX11 19 "GreatChunksModel" "images" "[J").before args s = true := hts _ (List.mem_of_getElem? (i := 4) rfl)
  have w6 : (Cond.fieldLink RX11 22 "GreatChunksModel" "kept" "[Z").before args s = true := hts _ (List.mem_of_getElem? (i := 5) rfl)
  generalize hQe : MQ below (va_Qi (fun r q => r = x.1 ∧ q = x.2) (fun q t => va_P E.1 vwCl ((fun q : MD => wMD E a0 q) q) t.heap ∧ va_D A ((fun q : MD => wMD E a0 q) q)) A) args s 0 0 A = Q
  refine st_W ha (Nat.le_of_ble_eq_true rfl) (fun ls hl => ?_)
  have hl : lv_has ls 2 [(0, .ref (a0 0)), (1, .int p1)] := hl
  unfold f_X11_image at hf
  refine lv_iload_n hx hb dX11_image_0 rfl (lv_at hl 1 rfl) ?_
  refine lv_i2l hx hb dX11_image_1 rfl ?_
  refine lv_lconst (v := 0) hx hb dX11_image_2 rfl ?_
  refine lv_lconst (v := 1) hx hb dX11_image_3 rfl ?_
  refine cr_i (va_runS (As := [.long p1.toInt64, .long (0 : Int64), .long (1 : Int64)]) (rest := []) ⟨hx, hb, hml, hown, hts⟩ (c_X11_in l E p1.toInt64 (0 : Int64) (1 : Int64) _ rfl) (va_cwS 3 hts gX11_image_X11_in rfl rfl rfl hdS_X11_in ⟨Nat.le_of_ble_eq_true rfl, Nat.le_of_ble_eq_true rfl⟩) ⟨PR.blind, PR.pre hC hS (hP.sub [] rfl)⟩ rfl rfl hl.1 rfl (lv_room (Nat.le_of_ble_eq_true rfl)) dX11_image_4 ⟨Nat.le_of_ble_eq_true rfl, Nat.le_of_ble_eq_true rfl⟩) ?_
  refine lv_if_ne (tgt := 13) hx hb dX11_image_7 rfl (fun c1 => ?_) (fun c1 => ?_)
  · have hf := it_f hf c1
    refine lv_aload_n hx hb dX11_image_13 rfl (lv_at hl 0 rfl) ?_
    obtain ⟨r2, e2, hf⟩ := bd_some hf
    refine cr_i (va_runV (As := []) (rest := []) ⟨hx, hb, hml, hown, hts⟩ (c_X11_isHouse l E a0 v0 r2 e2) (cwV 0 hts gX11_image_X11_isHouse rfl rfl rfl hdV_X11_isHouse ⟨Nat.le_of_ble_eq_true rfl, Nat.le_of_ble_eq_true rfl⟩) ⟨PR.blind, va_recv hC.1 hP (ci := 9) (q0 := 0) rfl rfl, PR.pre hC hS hP⟩ rfl rfl hl.1 rfl (lv_room (Nat.le_of_ble_eq_true rfl)) dX11_image_14 ⟨Nat.le_of_ble_eq_true rfl, Nat.le_of_ble_eq_true rfl⟩) ?_
    refine lv_if_ne (tgt := 24) hx hb dX11_image_17 rfl (fun c3 => ?_) (fun c3 => ?_)
    · have hf := it_f hf c3
      refine lv_aload_n hx hb dX11_image_24 rfl (lv_at hl 0 rfl) ?_
      refine va_get (D := E.1) (ci := 9) (v := .ref (a0 1)) (C := RX11) (T := TX11) (N := 17) hx hb hts w4 hown hC.1 hP 0 rfl rfl 0 (by decide) w3 (fun _ h9 => h9) rfl dX11_image_25 ?_
      refine lv_iconst (v := 0) hx hb dX11_image_28 rfl ?_
      refine lv_aload_n hx hb dX11_image_29 rfl (lv_at hl 0 rfl) ?_
      refine va_get (D := E.1) (ci := 9) (v := .ref (a0 4)) (C := RX11) (T := TX11) (N := 17) hx hb hts w4 hown hC.1 hP 0 rfl rfl 4 (by decide) w5 (fun _ h9 => h9) rfl dX11_image_30 ?_
      refine lv_sipush (v := 340) hx hb dX11_image_33 rfl ?_
      refine lv_iload_n hx hb dX11_image_36 rfl (lv_at hl 1 rfl) ?_
      refine lv_imul hx hb dX11_image_37 ?_
      obtain ⟨r4, e4, hf⟩ := bd_some hf
      refine cq_v hP hD hS [1, 4] [0, 2, 3, 5, 6, 7] [0, 6, 1, 2, 7, 3, 4, 5] (va_free (wc := (wLA E (a0 1) 340 v0.1 ++ wLA E (a0 4) 680 v0.2.2.2.2.1)) hD hS hA [1, 4] rfl) (va_runS (As := [.ref (a0 1), .int (0 : Int32), .ref (a0 4), .int ((340 : Int32) * p1)]) (rest := []) ⟨hx, hb, hml, hown, hts⟩ (c_X11_copies l E s.heap.size (a0 1) 340 v0.1 (0 : Int32) (a0 4) 680 v0.2.2.2.2.1 ((340 : Int32) * p1) r4 e4) (va_cwS 4 hts gX11_image_X11_copies rfl rfl rfl hdS_X11_copies ⟨Nat.le_of_ble_eq_true rfl, Nat.le_of_ble_eq_true rfl⟩) ⟨PW.blind, PW.pre hC hS (hP.sub [1, 4] rfl) (hD.sub [1, 4] rfl rfl) (va_free hD hS hA [1, 4] rfl)⟩ rfl rfl hl.1 rfl (lv_room (Nat.le_of_ble_eq_true rfl)) dX11_image_38 ⟨Nat.le_of_ble_eq_true rfl, Nat.le_of_ble_eq_true rfl⟩) rfl rfl rfl rfl (wMD E a0 (v0.1, v0.2.1, v0.2.2.1, v0.2.2.2.1, r4, v0.2.2.2.2.2.1, v0.2.2.2.2.2.2.1, v0.2.2.2.2.2.2.2.1, v0.2.2.2.2.2.2.2.2.1, v0.2.2.2.2.2.2.2.2.2.1, v0.2.2.2.2.2.2.2.2.2.2.1, v0.2.2.2.2.2.2.2.2.2.2.2.1, v0.2.2.2.2.2.2.2.2.2.2.2.2.1, v0.2.2.2.2.2.2.2.2.2.2.2.2.2.1, v0.2.2.2.2.2.2.2.2.2.2.2.2.2.2.1, v0.2.2.2.2.2.2.2.2.2.2.2.2.2.2.2.1, v0.2.2.2.2.2.2.2.2.2.2.2.2.2.2.2.2)) rfl rfl (fun H locs hP hD hS => ?_)
      refine lv_aload_n hx hb dX11_image_41 rfl (lv_at hl 0 rfl) ?_
      refine va_get (D := E.1) (ci := 9) (v := .ref (a0 5)) (C := RX11) (T := TX11) (N := 17) hx hb hts w4 hown hC.1 hP 0 rfl rfl 5 (by decide) w6 (fun _ h9 => h9) rfl dX11_image_42 ?_
      refine lv_iload_n hx hb dX11_image_45 rfl (lv_at hl 1 rfl) ?_
      refine lv_iconst (v := 1) hx hb dX11_image_46 rfl ?_
      obtain ⟨h5, hf⟩ := gdI_some hf
      refine va_zast hx hb hC.1 hP hD hS 5 2 rfl rfl h5 dX11_image_47 (fun H locs hP hD hS => ?_)
      have hP : va_P E.1 vwCl (wMD E a0 (v0.1, v0.2.1, v0.2.2.1, v0.2.2.2.1, r4, (upd v0.2.2.2.2.2.1 p1.toNatClampNeg (vp_nar .boolean (1 : Int32))), v0.2.2.2.2.2.2.1, v0.2.2.2.2.2.2.2.1, v0.2.2.2.2.2.2.2.2.1, v0.2.2.2.2.2.2.2.2.2.1, v0.2.2.2.2.2.2.2.2.2.2.1, v0.2.2.2.2.2.2.2.2.2.2.2.1, v0.2.2.2.2.2.2.2.2.2.2.2.2.1, v0.2.2.2.2.2.2.2.2.2.2.2.2.2.1, v0.2.2.2.2.2.2.2.2.2.2.2.2.2.2.1, v0.2.2.2.2.2.2.2.2.2.2.2.2.2.2.2.1, v0.2.2.2.2.2.2.2.2.2.2.2.2.2.2.2.2)) H := hP
      have hD : va_D A (wMD E a0 (v0.1, v0.2.1, v0.2.2.1, v0.2.2.2.1, r4, (upd v0.2.2.2.2.2.1 p1.toNatClampNeg (vp_nar .boolean (1 : Int32))), v0.2.2.2.2.2.2.1, v0.2.2.2.2.2.2.2.1, v0.2.2.2.2.2.2.2.2.1, v0.2.2.2.2.2.2.2.2.2.1, v0.2.2.2.2.2.2.2.2.2.2.1, v0.2.2.2.2.2.2.2.2.2.2.2.1, v0.2.2.2.2.2.2.2.2.2.2.2.2.1, v0.2.2.2.2.2.2.2.2.2.2.2.2.2.1, v0.2.2.2.2.2.2.2.2.2.2.2.2.2.2.1, v0.2.2.2.2.2.2.2.2.2.2.2.2.2.2.2.1, v0.2.2.2.2.2.2.2.2.2.2.2.2.2.2.2.2)) := hD
      refine lv_iconst (v := 1) hx hb dX11_image_48 rfl ?_
      cases Option.some.inj hf
      subst hQe
      exact ew_i (wf := (fun q : MD => wMD E a0 q)) hx hb hr hlocks hP hD hS dX11_image_49
    · have hf := it_t hf c3
      refine lv_ldcw hx hb hown w2 dX11_image_20 ?_
      cases Option.some.inj hf
      subst hQe
      exact ew_i (wf := (fun q : MD => wMD E a0 q)) hx hb hr hlocks hP hD hS dX11_image_23
  · have hf := it_t hf c1
    refine lv_ldc hx hb hown w1 dX11_image_10 ?_
    cases Option.some.inj hf
    subst hQe
    exact ew_i (wf := (fun q : MD => wMD E a0 q)) hx hb hr hlocks hP hD hS dX11_image_12

/-! X11_restore -/
abbrev rmX11_restore : Room := { frames := 1, cells := 0, slots := 0, locals := 25 }
theorem hdS_X11_restore : yX11_restore.cls ≠ "java/lang/invoke/MethodHandle" ∧ yX11_restore.cls ≠ "java/lang/invoke/VarHandle" ∧ (parseMethodDescriptor yX11_restore.desc).map (fun d => d.parameters.length) = some 1 := by decide +kernel
theorem hdV_X11_restore : yX11_restore.cls = RX11 ∧ yX11_restore.cls ≠ "java/lang/invoke/MethodHandle" ∧ yX11_restore.cls ≠ "java/lang/invoke/VarHandle" ∧ (parseMethodDescriptor yX11_restore.desc).map (fun d => d.parameters.length) = some 1 := ⟨rfl, hdS_X11_restore⟩
set_option maxHeartbeats 4000000 in
set_option maxRecDepth 100000 in
theorem c_X11_restore (l : Launch) (E : G0) (sz : Nat) (a0 : Nat → Nat) (v0 : MD) (p1 : Int32) (x : Int32 × MD) (hf : f_X11_restore v0 p1 = some x) : Met l yX11_restore wsX11_restore rmX11_restore (va_Pc [.ref (a0 0), .int p1] (PW E (wMD E a0 v0) sz)) (va_Qi (fun r q => r = x.1 ∧ q = x.2) (fun q t => va_P E.1 vwCl ((fun q : MD => wMD E a0 q) q) t.heap ∧ va_D (va_A (wMD E a0 v0) sz) ((fun q : MD => wMD E a0 q) q)) (va_A (wMD E a0 v0) sz)) 0 0 (va_A (wMD E a0 v0) sz) := by
  refine Met.ofW (cc := cX11_restore) (maxL := 2) (ret := some .int) (by decide) rfl ?_
  intro p e s m args below meth c s₁ B hml hv
  obtain ⟨ha, hsz, hP, hD0, hC⟩ := hv
  have hx := B.exec
  have hb := B.bytes
  have hr := B.returns
  have hts := atoms_spec (ws := wsX11_restore) B.pre
  have hown : s.vm.findClass RX11 = some m.cls := findClass_of_methodNamed B.named
  have hlocks := B.notSynchronized
  subst hsz
  have hD := hD0.self (sz := s.heap.size)
  generalize hAe : va_A (wMD E a0 v0) s.heap.size = A at hD hC ⊢
  have hA : ∀ q : Nat, s.heap.size ≤ q → A q := fun q h => by rw [← hAe]; exact Or.inr h
  have hS : va_S A s.heap s.heap [] := va_S.rf
  have w1 : (Cond.constant RX11 235 (-1000001)).before args s = true := hts _ (List.mem_of_getElem? (i := 1) rfl)
  have w2 : (Cond.fieldLink RX11 22 "GreatChunksModel" "kept" "[Z").before args s = true := hts _ (List.mem_of_getElem? (i := 2) rfl)
  have w3 : ∀ w ∈ wsX110, w ∈ wsX11_restore := in_pl 14 rfl
  have w4 : (Cond.constant RX11 261 (-1000002)).before args s = true := hts _ (List.mem_of_getElem? (i := 3) rfl)
  have w5 : (Cond.fieldLink RX11 19 "GreatChunksModel" "images" "[J").before args s = true := hts _ (List.mem_of_getElem? (i := 4) rfl)
  have w6 : (Cond.fieldLink RX11 7 "GreatChunksModel" "now" "[J").before args s = true := hts _ (List.mem_of_getElem? (i := 5) rfl)
  have w7 : (Cond.fieldLink RX11 258 "GreatChunksModel" "acts" "I").before args s = true := hts _ (List.mem_of_getElem? (i := 6) rfl)
  generalize hQe : MQ below (va_Qi (fun r q => r = x.1 ∧ q = x.2) (fun q t => va_P E.1 vwCl ((fun q : MD => wMD E a0 q) q) t.heap ∧ va_D A ((fun q : MD => wMD E a0 q) q)) A) args s 0 0 A = Q
  refine st_W ha (Nat.le_of_ble_eq_true rfl) (fun ls hl => ?_)
  have hl : lv_has ls 2 [(0, .ref (a0 0)), (1, .int p1)] := hl
  unfold f_X11_restore at hf
  refine lv_iload_n hx hb dX11_restore_0 rfl (lv_at hl 1 rfl) ?_
  refine lv_i2l hx hb dX11_restore_1 rfl ?_
  refine lv_lconst (v := 0) hx hb dX11_restore_2 rfl ?_
  refine lv_lconst (v := 1) hx hb dX11_restore_3 rfl ?_
  refine cr_i (va_runS (As := [.long p1.toInt64, .long (0 : Int64), .long (1 : Int64)]) (rest := []) ⟨hx, hb, hml, hown, hts⟩ (c_X11_in l E p1.toInt64 (0 : Int64) (1 : Int64) _ rfl) (va_cwS 3 hts gX11_restore_X11_in rfl rfl rfl hdS_X11_in ⟨Nat.le_of_ble_eq_true rfl, Nat.le_of_ble_eq_true rfl⟩) ⟨PR.blind, PR.pre hC hS (hP.sub [] rfl)⟩ rfl rfl hl.1 rfl (lv_room (Nat.le_of_ble_eq_true rfl)) dX11_restore_4 ⟨Nat.le_of_ble_eq_true rfl, Nat.le_of_ble_eq_true rfl⟩) ?_
  refine lv_if_ne (tgt := 13) hx hb dX11_restore_7 rfl (fun c1 => ?_) (fun c1 => ?_)
  · have hf := it_f hf c1
    refine lv_aload_n hx hb dX11_restore_13 rfl (lv_at hl 0 rfl) ?_
    refine va_get (D := E.1) (ci := 9) (v := .ref (a0 5)) (C := RX11) (T := TX11) (N := 17) hx hb hts w3 hown hC.1 hP 0 rfl rfl 5 (by decide) w2 (fun _ h9 => h9) rfl dX11_restore_14 ?_
    refine lv_iload_n hx hb dX11_restore_17 rfl (lv_at hl 1 rfl) ?_
    obtain ⟨h2, hf⟩ := gdI_some hf
    refine va_zald hx hb hC.1 hP 5 2 rfl rfl h2 dX11_restore_18 ?_
    refine lv_if_ne (tgt := 26) hx hb dX11_restore_19 rfl (fun c3 => ?_) (fun c3 => ?_)
    · have hf := it_f hf c3
      refine lv_aload_n hx hb dX11_restore_26 rfl (lv_at hl 0 rfl) ?_
      refine va_get (D := E.1) (ci := 9) (v := .ref (a0 4)) (C := RX11) (T := TX11) (N := 17) hx hb hts w3 hown hC.1 hP 0 rfl rfl 4 (by decide) w5 (fun _ h9 => h9) rfl dX11_restore_27 ?_
      refine lv_sipush (v := 340) hx hb dX11_restore_30 rfl ?_
      refine lv_iload_n hx hb dX11_restore_33 rfl (lv_at hl 1 rfl) ?_
      refine lv_imul hx hb dX11_restore_34 ?_
      refine lv_aload_n hx hb dX11_restore_35 rfl (lv_at hl 0 rfl) ?_
      refine va_get (D := E.1) (ci := 9) (v := .ref (a0 1)) (C := RX11) (T := TX11) (N := 17) hx hb hts w3 hown hC.1 hP 0 rfl rfl 0 (by decide) w6 (fun _ h9 => h9) rfl dX11_restore_36 ?_
      refine lv_iconst (v := 0) hx hb dX11_restore_39 rfl ?_
      obtain ⟨r4, e4, hf⟩ := bd_some hf
      refine cq_v hP hD hS [4, 1] [0, 2, 3, 5, 6, 7] [0, 7, 1, 2, 6, 3, 4, 5] (va_free (wc := (wLA E (a0 4) 680 v0.2.2.2.2.1 ++ wLA E (a0 1) 340 v0.1)) hD hS hA [4, 1] rfl) (va_runS (As := [.ref (a0 4), .int ((340 : Int32) * p1), .ref (a0 1), .int (0 : Int32)]) (rest := []) ⟨hx, hb, hml, hown, hts⟩ (c_X11_copies l E s.heap.size (a0 4) 680 v0.2.2.2.2.1 ((340 : Int32) * p1) (a0 1) 340 v0.1 (0 : Int32) r4 e4) (va_cwS 4 hts gX11_restore_X11_copies rfl rfl rfl hdS_X11_copies ⟨Nat.le_of_ble_eq_true rfl, Nat.le_of_ble_eq_true rfl⟩) ⟨PW.blind, PW.pre hC hS (hP.sub [4, 1] rfl) (hD.sub [4, 1] rfl rfl) (va_free hD hS hA [4, 1] rfl)⟩ rfl rfl hl.1 rfl (lv_room (Nat.le_of_ble_eq_true rfl)) dX11_restore_40 ⟨Nat.le_of_ble_eq_true rfl, Nat.le_of_ble_eq_true rfl⟩) rfl rfl rfl rfl (wMD E a0 (r4, v0.2.1, v0.2.2.1, v0.2.2.2.1, v0.2.2.2.2.1, v0.2.2.2.2.2.1, v0.2.2.2.2.2.2.1, v0.2.2.2.2.2.2.2.1, v0.2.2.2.2.2.2.2.2.1, v0.2.2.2.2.2.2.2.2.2.1, v0.2.2.2.2.2.2.2.2.2.2.1, v0.2.2.2.2.2.2.2.2.2.2.2.1, v0.2.2.2.2.2.2.2.2.2.2.2.2.1, v0.2.2.2.2.2.2.2.2.2.2.2.2.2.1, v0.2.2.2.2.2.2.2.2.2.2.2.2.2.2.1, v0.2.2.2.2.2.2.2.2.2.2.2.2.2.2.2.1, v0.2.2.2.2.2.2.2.2.2.2.2.2.2.2.2.2)) rfl rfl (fun H locs hP hD hS => ?_)
      refine lv_aload_n hx hb dX11_restore_43 rfl (lv_at hl 0 rfl) ?_
      refine lv_iconst (v := 0) hx hb dX11_restore_44 rfl ?_
      refine va_put (D := E.1) (ci := 9) (v := .int (0 : Int32)) (ty := .int) (C := RX11) (T := TX11) (N := 17) hx hb hts w3 tyX11 tyX11_ok nmX11 hown hC.1 hP hD hS 0 rfl rfl 3 (by decide) w7 (fun _ h9 => h9) rfl (by decide +kernel) rfl rfl (Nat.le_of_ble_eq_true rfl) dX11_restore_45 (fun H locs hP hD hS => ?_)
      have hP : va_P E.1 vwCl (wMD E a0 (r4, v0.2.1, v0.2.2.1, (0 : Int32), v0.2.2.2.2.1, v0.2.2.2.2.2.1, v0.2.2.2.2.2.2.1, v0.2.2.2.2.2.2.2.1, v0.2.2.2.2.2.2.2.2.1, v0.2.2.2.2.2.2.2.2.2.1, v0.2.2.2.2.2.2.2.2.2.2.1, v0.2.2.2.2.2.2.2.2.2.2.2.1, v0.2.2.2.2.2.2.2.2.2.2.2.2.1, v0.2.2.2.2.2.2.2.2.2.2.2.2.2.1, v0.2.2.2.2.2.2.2.2.2.2.2.2.2.2.1, v0.2.2.2.2.2.2.2.2.2.2.2.2.2.2.2.1, v0.2.2.2.2.2.2.2.2.2.2.2.2.2.2.2.2)) H := hP
      have hD : va_D A (wMD E a0 (r4, v0.2.1, v0.2.2.1, (0 : Int32), v0.2.2.2.2.1, v0.2.2.2.2.2.1, v0.2.2.2.2.2.2.1, v0.2.2.2.2.2.2.2.1, v0.2.2.2.2.2.2.2.2.1, v0.2.2.2.2.2.2.2.2.2.1, v0.2.2.2.2.2.2.2.2.2.2.1, v0.2.2.2.2.2.2.2.2.2.2.2.1, v0.2.2.2.2.2.2.2.2.2.2.2.2.1, v0.2.2.2.2.2.2.2.2.2.2.2.2.2.1, v0.2.2.2.2.2.2.2.2.2.2.2.2.2.2.1, v0.2.2.2.2.2.2.2.2.2.2.2.2.2.2.2.1, v0.2.2.2.2.2.2.2.2.2.2.2.2.2.2.2.2)) := hD
      refine lv_iconst (v := 1) hx hb dX11_restore_48 rfl ?_
      cases Option.some.inj hf
      subst hQe
      exact ew_i (wf := (fun q : MD => wMD E a0 q)) hx hb hr hlocks hP hD hS dX11_restore_49
    · have hf := it_t hf c3
      refine lv_ldcw hx hb hown w4 dX11_restore_22 ?_
      cases Option.some.inj hf
      subst hQe
      exact ew_i (wf := (fun q : MD => wMD E a0 q)) hx hb hr hlocks hP hD hS dX11_restore_25
  · have hf := it_t hf c1
    refine lv_ldc hx hb hown w1 dX11_restore_10 ?_
    cases Option.some.inj hf
    subst hQe
    exact ew_i (wf := (fun q : MD => wMD E a0 q)) hx hb hr hlocks hP hD hS dX11_restore_12

/-! X11_count -/
abbrev rmX11_count : Room := { frames := 2, cells := 0, slots := 0, locals := 43 }
theorem hdS_X11_count : yX11_count.cls ≠ "java/lang/invoke/MethodHandle" ∧ yX11_count.cls ≠ "java/lang/invoke/VarHandle" ∧ (parseMethodDescriptor yX11_count.desc).map (fun d => d.parameters.length) = some 1 := by decide +kernel
theorem hdV_X11_count : yX11_count.cls = RX11 ∧ yX11_count.cls ≠ "java/lang/invoke/MethodHandle" ∧ yX11_count.cls ≠ "java/lang/invoke/VarHandle" ∧ (parseMethodDescriptor yX11_count.desc).map (fun d => d.parameters.length) = some 1 := ⟨rfl, hdS_X11_count⟩
set_option maxHeartbeats 4000000 in
set_option maxRecDepth 100000 in
theorem c_X11_count (l : Launch) (E : G0) (a0 : Nat → Nat) (v0 : MD) (p1 : Int32) (x : Int32) (hf : f_X11_count v0 p1 = some x) : Met l yX11_count wsX11_count rmX11_count (va_Pc [.ref (a0 0), .int p1] (PR E (wMD E a0 v0))) (vp_Si (fun r => r = x)) 0 0 (fun _ => False) := by
  refine Met.ofW (cc := cX11_count) (maxL := 2) (ret := some .int) (by decide) rfl ?_
  intro p e s m args below meth c s₁ B hml hv
  obtain ⟨ha, hP, hC⟩ := hv
  have hx := B.exec
  have hb := B.bytes
  have hr := B.returns
  have hts := atoms_spec (ws := wsX11_count) B.pre
  have hown : s.vm.findClass RX11 = some m.cls := findClass_of_methodNamed B.named
  have hlocks := B.notSynchronized
  have hS : va_S (fun _ => False) s.heap s.heap [] := va_S.rf
  have w1 : (Cond.fieldLink RX11 7 "GreatChunksModel" "now" "[J").before args s = true := hts _ (List.mem_of_getElem? (i := 1) rfl)
  have w2 : ∀ w ∈ wsX110, w ∈ wsX11_count := in_pl 22 rfl
  have w3 : (Cond.fieldLink RX11 258 "GreatChunksModel" "acts" "I").before args s = true := hts _ (List.mem_of_getElem? (i := 2) rfl)
  have w4 : (Cond.fieldLink RX11 187 "GreatChunksModel" "taped" "I").before args s = true := hts _ (List.mem_of_getElem? (i := 3) rfl)
  have w5 : (Cond.constant RX11 235 (-1000001)).before args s = true := hts _ (List.mem_of_getElem? (i := 4) rfl)
  generalize hQe : MQ below (vp_Si (fun r => r = x)) args s 0 0 (fun _ => False) = Q
  refine st_W ha (Nat.le_of_ble_eq_true rfl) (fun ls hl => ?_)
  have hl : lv_has ls 2 [(0, .ref (a0 0)), (1, .int p1)] := hl
  unfold f_X11_count at hf
  refine lv_iload_n hx hb dX11_count_0 rfl (lv_at hl 1 rfl) ?_
  by_cases s1 : p1 = 0
  · have hf := it_t hf s1
    refine lv_tableIn (tgt := 44) (off := 43) hx hb dX11_count_1 (by rw [s1]; decide) (by rw [s1]; decide) (by rw [s1]; rfl) rfl ?_
    refine lv_aload_n hx hb dX11_count_44 rfl (lv_at hl 0 rfl) ?_
    refine va_get (D := E.1) (ci := 9) (v := .ref (a0 1)) (C := RX11) (T := TX11) (N := 17) hx hb hts w2 hown hC.1 hP 0 rfl rfl 0 (by decide) w1 (fun _ h9 => h9) rfl dX11_count_45 ?_
    refine lv_iconst (v := 0) hx hb dX11_count_48 rfl ?_
    obtain ⟨h2, hf⟩ := gdI_some hf
    refine va_lald hx hb hC.1 hP 1 1 rfl rfl h2 dX11_count_49 ?_
    refine lv_l2i hx hb dX11_count_50 rfl ?_
    cases Option.some.inj hf
    subst hQe
    exact en_i hx hb hr hlocks dX11_count_51
  have hf := it_f hf s1
  by_cases s3 : p1 = 1
  · have hf := it_t hf s3
    refine lv_tableIn (tgt := 52) (off := 51) hx hb dX11_count_1 (by rw [s3]; decide) (by rw [s3]; decide) (by rw [s3]; rfl) rfl ?_
    refine lv_aload_n hx hb dX11_count_52 rfl (lv_at hl 0 rfl) ?_
    refine va_get (D := E.1) (ci := 9) (v := .ref (a0 1)) (C := RX11) (T := TX11) (N := 17) hx hb hts w2 hown hC.1 hP 0 rfl rfl 0 (by decide) w1 (fun _ h9 => h9) rfl dX11_count_53 ?_
    obtain ⟨r4, e4, hf⟩ := bd_some hf
    refine cr_i (va_runS (As := [.ref (a0 1)]) (rest := []) ⟨hx, hb, hml, hown, hts⟩ (c_X11_ups l E (a0 1) v0.1 r4 e4) (va_cwS 1 hts gX11_count_X11_ups rfl rfl rfl hdS_X11_ups ⟨Nat.le_of_ble_eq_true rfl, Nat.le_of_ble_eq_true rfl⟩) ⟨PR.blind, PR.pre hC hS (hP.sub [1] rfl)⟩ rfl rfl hl.1 rfl (lv_room (Nat.le_of_ble_eq_true rfl)) dX11_count_56 ⟨Nat.le_of_ble_eq_true rfl, Nat.le_of_ble_eq_true rfl⟩) ?_
    obtain ⟨r5, e5, hf⟩ := bd_some hf
    refine cr_i (va_runS (As := [.int r4]) (rest := []) ⟨hx, hb, hml, hown, hts⟩ (c_X11_ones l E r4 r5 e5) (va_cwS 1 hts gX11_count_X11_ones rfl rfl rfl hdS_X11_ones ⟨Nat.le_of_ble_eq_true rfl, Nat.le_of_ble_eq_true rfl⟩) ⟨PR.blind, PR.pre hC hS (hP.sub [] rfl)⟩ rfl rfl hl.1 rfl (lv_room (Nat.le_of_ble_eq_true rfl)) dX11_count_59 ⟨Nat.le_of_ble_eq_true rfl, Nat.le_of_ble_eq_true rfl⟩) ?_
    cases Option.some.inj hf
    subst hQe
    exact en_i hx hb hr hlocks dX11_count_62
  have hf := it_f hf s3
  by_cases s6 : p1 = 2
  · have hf := it_t hf s6
    refine lv_tableIn (tgt := 63) (off := 62) hx hb dX11_count_1 (by rw [s6]; decide) (by rw [s6]; decide) (by rw [s6]; rfl) rfl ?_
    refine lv_aload_n hx hb dX11_count_63 rfl (lv_at hl 0 rfl) ?_
    refine lv_iconst (v := 1) hx hb dX11_count_64 rfl ?_
    obtain ⟨r7, e7, hf⟩ := bd_some hf
    refine cr_i (va_runV (As := [.int (1 : Int32)]) (rest := []) ⟨hx, hb, hml, hown, hts⟩ (c_X11_filesThat l E a0 v0 (1 : Int32) r7 e7) (cwV 1 hts gX11_count_X11_filesThat rfl rfl rfl hdV_X11_filesThat ⟨Nat.le_of_ble_eq_true rfl, Nat.le_of_ble_eq_true rfl⟩) ⟨PR.blind, va_recv hC.1 hP (ci := 9) (q0 := 0) rfl rfl, PR.pre hC hS hP⟩ rfl rfl hl.1 rfl (lv_room (Nat.le_of_ble_eq_true rfl)) dX11_count_65 ⟨Nat.le_of_ble_eq_true rfl, Nat.le_of_ble_eq_true rfl⟩) ?_
    cases Option.some.inj hf
    subst hQe
    exact en_i hx hb hr hlocks dX11_count_68
  have hf := it_f hf s6
  by_cases s8 : p1 = 3
  · have hf := it_t hf s8
    refine lv_tableIn (tgt := 69) (off := 68) hx hb dX11_count_1 (by rw [s8]; decide) (by rw [s8]; decide) (by rw [s8]; rfl) rfl ?_
    refine lv_aload_n hx hb dX11_count_69 rfl (lv_at hl 0 rfl) ?_
    refine lv_iconst (v := 2) hx hb dX11_count_70 rfl ?_
    obtain ⟨r9, e9, hf⟩ := bd_some hf
    refine cr_i (va_runV (As := [.int (2 : Int32)]) (rest := []) ⟨hx, hb, hml, hown, hts⟩ (c_X11_filesThat l E a0 v0 (2 : Int32) r9 e9) (cwV 1 hts gX11_count_X11_filesThat rfl rfl rfl hdV_X11_filesThat ⟨Nat.le_of_ble_eq_true rfl, Nat.le_of_ble_eq_true rfl⟩) ⟨PR.blind, va_recv hC.1 hP (ci := 9) (q0 := 0) rfl rfl, PR.pre hC hS hP⟩ rfl rfl hl.1 rfl (lv_room (Nat.le_of_ble_eq_true rfl)) dX11_count_71 ⟨Nat.le_of_ble_eq_true rfl, Nat.le_of_ble_eq_true rfl⟩) ?_
    cases Option.some.inj hf
    subst hQe
    exact en_i hx hb hr hlocks dX11_count_74
  have hf := it_f hf s8
  by_cases s10 : p1 = 4
  · have hf := it_t hf s10
    refine lv_tableIn (tgt := 75) (off := 74) hx hb dX11_count_1 (by rw [s10]; decide) (by rw [s10]; decide) (by rw [s10]; rfl) rfl ?_
    refine lv_aload_n hx hb dX11_count_75 rfl (lv_at hl 0 rfl) ?_
    refine va_get (D := E.1) (ci := 9) (v := .ref (a0 1)) (C := RX11) (T := TX11) (N := 17) hx hb hts w2 hown hC.1 hP 0 rfl rfl 0 (by decide) w1 (fun _ h9 => h9) rfl dX11_count_76 ?_
    refine lv_bipush (v := 6) hx hb dX11_count_79 rfl ?_
    obtain ⟨h11, hf⟩ := gdI_some hf
    refine va_lald hx hb hC.1 hP 1 1 rfl rfl h11 dX11_count_81 ?_
    refine lv_l2i hx hb dX11_count_82 rfl ?_
    cases Option.some.inj hf
    subst hQe
    exact en_i hx hb hr hlocks dX11_count_83
  have hf := it_f hf s10
  by_cases s12 : p1 = 5
  · have hf := it_t hf s12
    refine lv_tableIn (tgt := 84) (off := 83) hx hb dX11_count_1 (by rw [s12]; decide) (by rw [s12]; decide) (by rw [s12]; rfl) rfl ?_
    refine lv_aload_n hx hb dX11_count_84 rfl (lv_at hl 0 rfl) ?_
    refine va_get (D := E.1) (ci := 9) (v := .int v0.2.2.2.1) (C := RX11) (T := TX11) (N := 17) hx hb hts w2 hown hC.1 hP 0 rfl rfl 3 (by decide) w3 (fun _ h9 => h9) rfl dX11_count_85 ?_
    cases Option.some.inj hf
    subst hQe
    exact en_i hx hb hr hlocks dX11_count_88
  have hf := it_f hf s12
  by_cases s13 : p1 = 6
  · have hf := it_t hf s13
    refine lv_tableIn (tgt := 89) (off := 88) hx hb dX11_count_1 (by rw [s13]; decide) (by rw [s13]; decide) (by rw [s13]; rfl) rfl ?_
    refine lv_aload_n hx hb dX11_count_89 rfl (lv_at hl 0 rfl) ?_
    refine va_get (D := E.1) (ci := 9) (v := .int v0.2.2.2.2.2.2.2.1) (C := RX11) (T := TX11) (N := 17) hx hb hts w2 hown hC.1 hP 0 rfl rfl 7 (by decide) w4 (fun _ h9 => h9) rfl dX11_count_90 ?_
    cases Option.some.inj hf
    subst hQe
    exact en_i hx hb hr hlocks dX11_count_93
  have hf := it_f hf s13
  refine lv_tableOut (tgt := 94) hx hb dX11_count_1 (sw_out (x := p1) 6 (by decide) (fun k hk => match k, hk with | 0, _ => s1 | 1, _ => s3 | 2, _ => s6 | 3, _ => s8 | 4, _ => s10 | 5, _ => s12 | 6, _ => s13 | k + 7, hk => absurd hk (by omega))) rfl ?_
  refine lv_ldc hx hb hown w5 dX11_count_94 ?_
  cases Option.some.inj hf
  subst hQe
  exact en_i hx hb hr hlocks dX11_count_96
