abbrev wSV (E : G0) (a : Nat → Nat) (v : SV) : va_W := [(a 0, .inr (6, [.int v.1, .int v.2.1, .ref (a 1), .ref (a 2)])), (a 1, .inl (E.2.1 0, 5, .inl v.2.2.1)), (a 2, .inl (E.2.1 0, 5, .inl v.2.2.2))]
abbrev wCK (E : G0) (a : Nat → Nat) (v : CK) : va_W := [(a 0, .inr (1, [.int v.1, .ref (a 1), .ref (a 2), .ref (a 3), .ref (a 4)])), (a 1, .inl (E.2.1 0, 30, .inl v.2.1)), (a 2, .inl (E.2.1 0, 30, .inl v.2.2.1)), (a 3, .inl (E.2.1 0, 30, .inl v.2.2.2.1)), (a 4, .inl (E.2.1 0, 30, .inl v.2.2.2.2))]
abbrev wCP (E : G0) (a : Nat → Nat) (v : CP) : va_W := [(a 0, .inr (2, [.ref (a 1), .ref (a 2), .ref (a 3)])), (a 1, .inl (E.2.1 0, 150, .inl v.1)), (a 2, .inl (E.2.1 0, 150, .inl v.2.1)), (a 3, .inl (E.2.1 0, 1350, .inl v.2.2))]
abbrev wFL (E : G0) (a : Nat → Nat) (v : FL) : va_W := [(a 0, .inr (3, [.ref (a 1), .ref (a 2), .ref (a 3), .ref (a 4), .ref (a 5)])), (a 1, .inl (E.2.1 0, 6, .inl v.1)), (a 2, .inl (E.2.1 0, 6, .inl v.2.1)), (a 3, .inl (E.2.1 0, 6, .inl v.2.2.1)), (a 4, .inl (E.2.1 0, 6, .inl v.2.2.2.1)), (a 5, .inl (E.2.1 0, 24, .inl v.2.2.2.2))]
abbrev wHS (E : G0) (a : Nat → Nat) (v : HS) : va_W := [(a 0, .inr (4, [.int v.1, .int v.2.1, .int v.2.2.1, .int v.2.2.2.1, .int v.2.2.2.2.1, .ref (a 1), .ref (a 4), .ref (a 9), .ref (a 13)])), (a 1, .inr (6, [.int v.2.2.2.2.2.1.1, .int v.2.2.2.2.2.1.2.1, .ref (a 2), .ref (a 3)])), (a 2, .inl (E.2.1 0, 5, .inl v.2.2.2.2.2.1.2.2.1)), (a 3, .inl (E.2.1 0, 5, .inl v.2.2.2.2.2.1.2.2.2)), (a 4, .inr (1, [.int v.2.2.2.2.2.2.1.1, .ref (a 5), .ref (a 6), .ref (a 7), .ref (a 8)])), (a 5, .inl (E.2.1 0, 30, .inl v.2.2.2.2.2.2.1.2.1)), (a 6, .inl (E.2.1 0, 30, .inl v.2.2.2.2.2.2.1.2.2.1)), (a 7, .inl (E.2.1 0, 30, .inl v.2.2.2.2.2.2.1.2.2.2.1)), (a 8, .inl (E.2.1 0, 30, .inl v.2.2.2.2.2.2.1.2.2.2.2)), (a 9, .inr (2, [.ref (a 10), .ref (a 11), .ref (a 12)])), (a 10, .inl (E.2.1 0, 150, .inl v.2.2.2.2.2.2.2.1.1)), (a 11, .inl (E.2.1 0, 150, .inl v.2.2.2.2.2.2.2.1.2.1)), (a 12, .inl (E.2.1 0, 1350, .inl v.2.2.2.2.2.2.2.1.2.2)), (a 13, .inr (3, [.ref (a 14), .ref (a 15), .ref (a 16), .ref (a 17), .ref (a 18)])), (a 14, .inl (E.2.1 0, 6, .inl v.2.2.2.2.2.2.2.2.1)), (a 15, .inl (E.2.1 0, 6, .inl v.2.2.2.2.2.2.2.2.2.1)), (a 16, .inl (E.2.1 0, 6, .inl v.2.2.2.2.2.2.2.2.2.2.1)), (a 17, .inl (E.2.1 0, 6, .inl v.2.2.2.2.2.2.2.2.2.2.2.1)), (a 18, .inl (E.2.1 0, 24, .inl v.2.2.2.2.2.2.2.2.2.2.2.2))]
abbrev wTP (E : G0) (a : Nat → Nat) (v : TP) : va_W := [(a 0, .inr (7, [.ref (a 1), .int v.2])), (a 1, .inl (E.2.1 0, 80, .inl v.1))]
abbrev wRD (E : G0) (a : Nat → Nat) (v : RD) : va_W := [(a 0, .inr (5, [.ref (a 1), .int v.2.1, .int v.2.2.1, .int v.2.2.2])), (a 1, .inr (7, [.ref (a 2), .int v.1.2])), (a 2, .inl (E.2.1 0, 80, .inl v.1.1))]
abbrev wMD (E : G0) (a : Nat → Nat) (v : MD) : va_W := [(a 0, .inr (9, [.ref (a 1), .ref (a 2), .ref (a 3), .int v.2.2.2.1, .ref (a 4), .ref (a 5), .ref (a 6), .int v.2.2.2.2.2.2.2.1, .int v.2.2.2.2.2.2.2.2.1, .int v.2.2.2.2.2.2.2.2.2.1, .int v.2.2.2.2.2.2.2.2.2.2.1, .int v.2.2.2.2.2.2.2.2.2.2.2.1, .int v.2.2.2.2.2.2.2.2.2.2.2.2.1, .int v.2.2.2.2.2.2.2.2.2.2.2.2.2.1, .int v.2.2.2.2.2.2.2.2.2.2.2.2.2.2.1, .ref (a 7), .int v.2.2.2.2.2.2.2.2.2.2.2.2.2.2.2.2])), (a 1, .inl (E.2.1 1, 340, .inr (.inl v.1))), (a 2, .inl (E.2.1 1, 340, .inr (.inl v.2.1))), (a 3, .inl (E.2.1 1, 2040, .inr (.inl v.2.2.1))), (a 4, .inl (E.2.1 1, 680, .inr (.inl v.2.2.2.2.1))), (a 5, .inl (E.2.1 2, 2, .inl v.2.2.2.2.2.1)), (a 6, .inl (E.2.1 0, 80, .inl v.2.2.2.2.2.2.1)), (a 7, .inl (E.2.1 0, 9, .inl v.2.2.2.2.2.2.2.2.2.2.2.2.2.2.2.1))]
abbrev wMR (E : G0) (a : Nat → Nat) (v : MD) : va_W := [(a 0, .inr (9, [.ref (a 1), .ref (a 2), .ref (a 3), .int v.2.2.2.1, .ref (a 4), .ref (a 5), .ref (a 6), .int v.2.2.2.2.2.2.2.1, .int v.2.2.2.2.2.2.2.2.1, .int v.2.2.2.2.2.2.2.2.2.1, .int v.2.2.2.2.2.2.2.2.2.2.1, .int v.2.2.2.2.2.2.2.2.2.2.2.1, .int v.2.2.2.2.2.2.2.2.2.2.2.2.1, .int v.2.2.2.2.2.2.2.2.2.2.2.2.2.1, .int v.2.2.2.2.2.2.2.2.2.2.2.2.2.2.1, .ref (a 7), .int v.2.2.2.2.2.2.2.2.2.2.2.2.2.2.2.2])), (a 7, .inl (E.2.1 0, 9, .inl v.2.2.2.2.2.2.2.2.2.2.2.2.2.2.2.1))]
abbrev wIA (E : G0) (a n : Nat) (f : Nat → Int32) : va_W := [(a, .inl (E.2.1 0, n, .inl f))]
abbrev wLA (E : G0) (a n : Nat) (f : Nat → Int64) : va_W := [(a, .inl (E.2.1 1, n, .inr (.inl f)))]
/-! X10_within -/
abbrev rmX10_within : Room := { frames := 0, cells := 0, slots := 0, locals := 0 }
theorem hdS_X10_within : yX10_within.cls ≠ "java/lang/invoke/MethodHandle" ∧ yX10_within.cls ≠ "java/lang/invoke/VarHandle" ∧ (parseMethodDescriptor yX10_within.desc).map (fun d => d.parameters.length) = some 3 := by decide +kernel
set_option maxHeartbeats 4000000 in
set_option maxRecDepth 100000 in
theorem c_X10_within (l : Launch) (E : G0) (p0 : Int32) (p1 : Int32) (p2 : Int32) (x : Bool) (hf : f_X10_within p0 p1 p2 = x) : Met l yX10_within wsX10_within rmX10_within (va_Pc [.int p0, .int p1, .int p2] (PR E ([] : va_W))) (vp_Si (fun r => r = bI x)) 0 0 (fun _ => False) := by
  refine Met.ofW (cc := cX10_within) (maxL := 3) (ret := some .boolean) (by decide) rfl ?_
  intro p e s m args below meth c s₁ B hml hv
  obtain ⟨ha, hP, hC⟩ := hv
  have hx := B.exec
  have hb := B.bytes
  have hr := B.returns
  have hts := atoms_spec (ws := wsX10_within) B.pre
  have hown : s.vm.findClass RX10 = some m.cls := findClass_of_methodNamed B.named
  have hlocks := B.notSynchronized
  have hS : va_S (fun _ => False) s.heap s.heap [] := va_S.rf
  generalize hQe : MQ below (vp_Si (fun r => r = bI x)) args s 0 0 (fun _ => False) = Q
  refine st_W ha (Nat.le_of_ble_eq_true rfl) (fun ls hl => ?_)
  have hl : lv_has ls 3 [(0, .int p0), (1, .int p1), (2, .int p2)] := hl
  unfold f_X10_within at hf
  refine lv_iload_n hx hb dX10_within_0 rfl (lv_at hl 0 rfl) ?_
  refine lv_iload_n hx hb dX10_within_1 rfl (lv_at hl 1 rfl) ?_
  refine lv_icmp_lt (tgt := 14) hx hb dX10_within_2 rfl (fun c1 => ?_) (fun c1 => ?_)
  · have hf := it_t hf c1
    refine lv_iconst (v := 0) hx hb dX10_within_14 rfl ?_
    subst hf
    subst hQe
    exact en_z hx hb hr hlocks rfl dX10_within_15
  · have hf := it_f hf c1
    refine lv_iload_n hx hb dX10_within_5 rfl (lv_at hl 0 rfl) ?_
    refine lv_iload_n hx hb dX10_within_6 rfl (lv_at hl 2 rfl) ?_
    refine lv_icmp_gt (tgt := 14) hx hb dX10_within_7 rfl (fun c2 => ?_) (fun c2 => ?_)
    · have hf := it_t hf c2
      refine lv_iconst (v := 0) hx hb dX10_within_14 rfl ?_
      subst hf
      subst hQe
      exact en_z hx hb hr hlocks rfl dX10_within_15
    · have hf := it_f hf c2
      refine lv_iconst (v := 1) hx hb dX10_within_10 rfl ?_
      refine lv_goto (tgt := 15) hx hb dX10_within_11 rfl ?_
      subst hf
      subst hQe
      exact en_z hx hb hr hlocks rfl dX10_within_15

/-! X10_isFile -/
abbrev rmX10_isFile : Room := { frames := 1, cells := 0, slots := 0, locals := 22 }
theorem hdS_X10_isFile : yX10_isFile.cls ≠ "java/lang/invoke/MethodHandle" ∧ yX10_isFile.cls ≠ "java/lang/invoke/VarHandle" ∧ (parseMethodDescriptor yX10_isFile.desc).map (fun d => d.parameters.length) = some 1 := by decide +kernel
set_option maxHeartbeats 4000000 in
set_option maxRecDepth 100000 in
theorem c_X10_isFile (l : Launch) (E : G0) (p0 : Int32) (x : Bool) (hf : f_X10_isFile p0 = x) : Met l yX10_isFile wsX10_isFile rmX10_isFile (va_Pc [.int p0] (PR E ([] : va_W))) (vp_Si (fun r => r = bI x)) 0 0 (fun _ => False) := by
  refine Met.ofW (cc := cX10_isFile) (maxL := 1) (ret := some .boolean) (by decide) rfl ?_
  intro p e s m args below meth c s₁ B hml hv
  obtain ⟨ha, hP, hC⟩ := hv
  have hx := B.exec
  have hb := B.bytes
  have hr := B.returns
  have hts := atoms_spec (ws := wsX10_isFile) B.pre
  have hown : s.vm.findClass RX10 = some m.cls := findClass_of_methodNamed B.named
  have hlocks := B.notSynchronized
  have hS : va_S (fun _ => False) s.heap s.heap [] := va_S.rf
  generalize hQe : MQ below (vp_Si (fun r => r = bI x)) args s 0 0 (fun _ => False) = Q
  refine st_W ha (Nat.le_of_ble_eq_true rfl) (fun ls hl => ?_)
  have hl : lv_has ls 1 [(0, .int p0)] := hl
  unfold f_X10_isFile at hf
  refine lv_iload_n hx hb dX10_isFile_0 rfl (lv_at hl 0 rfl) ?_
  refine lv_iconst (v := 0) hx hb dX10_isFile_1 rfl ?_
  refine lv_iconst (v := 5) hx hb dX10_isFile_2 rfl ?_
  refine cr_i (va_runS (As := [.int p0, .int (0 : Int32), .int (5 : Int32)]) (rest := []) ⟨hx, hb, hml, hown, hts⟩ (c_X10_within l E p0 (0 : Int32) (5 : Int32) _ rfl) (va_cwS 3 hts gX10_isFile_X10_within rfl rfl rfl hdS_X10_within ⟨Nat.le_of_ble_eq_true rfl, Nat.le_of_ble_eq_true rfl⟩) ⟨PR.blind, PR.pre hC hS hP⟩ rfl rfl hl.1 rfl (lv_room (Nat.le_of_ble_eq_true rfl)) dX10_isFile_3 ⟨Nat.le_of_ble_eq_true rfl, Nat.le_of_ble_eq_true rfl⟩) ?_
  subst hf
  subst hQe
  exact en_z hx hb hr hlocks rfl dX10_isFile_6

/-! X10_isIn -/
abbrev rmX10_isIn : Room := { frames := 0, cells := 0, slots := 0, locals := 0 }
theorem hdS_X10_isIn : yX10_isIn.cls ≠ "java/lang/invoke/MethodHandle" ∧ yX10_isIn.cls ≠ "java/lang/invoke/VarHandle" ∧ (parseMethodDescriptor yX10_isIn.desc).map (fun d => d.parameters.length) = some 2 := by decide +kernel
set_option maxHeartbeats 4000000 in
set_option maxRecDepth 100000 in
theorem c_X10_isIn (l : Launch) (E : G0) (p0 : Int32) (p1 : Int32) (x : Bool) (hf : f_X10_isIn p0 p1 = x) : Met l yX10_isIn wsX10_isIn rmX10_isIn (va_Pc [.int p0, .int p1] (PR E ([] : va_W))) (vp_Si (fun r => r = bI x)) 0 0 (fun _ => False) := by
  refine Met.ofW (cc := cX10_isIn) (maxL := 2) (ret := some .boolean) (by decide) rfl ?_
  intro p e s m args below meth c s₁ B hml hv
  obtain ⟨ha, hP, hC⟩ := hv
  have hx := B.exec
  have hb := B.bytes
  have hr := B.returns
  have hts := atoms_spec (ws := wsX10_isIn) B.pre
  have hown : s.vm.findClass RX10 = some m.cls := findClass_of_methodNamed B.named
  have hlocks := B.notSynchronized
  have hS : va_S (fun _ => False) s.heap s.heap [] := va_S.rf
  generalize hQe : MQ below (vp_Si (fun r => r = bI x)) args s 0 0 (fun _ => False) = Q
  refine st_W ha (Nat.le_of_ble_eq_true rfl) (fun ls hl => ?_)
  have hl : lv_has ls 2 [(0, .int p0), (1, .int p1)] := hl
  unfold f_X10_isIn at hf
  refine lv_iload_n hx hb dX10_isIn_0 rfl (lv_at hl 0 rfl) ?_
  refine lv_iload_n hx hb dX10_isIn_1 rfl (lv_at hl 1 rfl) ?_
  refine lv_ishr hx hb dX10_isIn_2 ?_
  refine lv_iconst (v := 1) hx hb dX10_isIn_3 rfl ?_
  refine lv_iand hx hb dX10_isIn_4 ?_
  refine lv_if_eq (tgt := 12) hx hb dX10_isIn_5 rfl (fun c1 => ?_) (fun c1 => ?_)
  · have hf := it_t hf c1
    refine lv_iconst (v := 0) hx hb dX10_isIn_12 rfl ?_
    subst hf
    subst hQe
    exact en_z hx hb hr hlocks rfl dX10_isIn_13
  · have hf := it_f hf c1
    refine lv_iconst (v := 1) hx hb dX10_isIn_8 rfl ?_
    refine lv_goto (tgt := 13) hx hb dX10_isIn_9 rfl ?_
    subst hf
    subst hQe
    exact en_z hx hb hr hlocks rfl dX10_isIn_13

/-! X10_isLetter -/
abbrev rmX10_isLetter : Room := { frames := 1, cells := 0, slots := 0, locals := 22 }
theorem hdS_X10_isLetter : yX10_isLetter.cls ≠ "java/lang/invoke/MethodHandle" ∧ yX10_isLetter.cls ≠ "java/lang/invoke/VarHandle" ∧ (parseMethodDescriptor yX10_isLetter.desc).map (fun d => d.parameters.length) = some 1 := by decide +kernel
set_option maxHeartbeats 4000000 in
set_option maxRecDepth 100000 in
theorem c_X10_isLetter (l : Launch) (E : G0) (p0 : Int32) (x : Bool) (hf : f_X10_isLetter p0 = x) : Met l yX10_isLetter wsX10_isLetter rmX10_isLetter (va_Pc [.int p0] (PR E ([] : va_W))) (vp_Si (fun r => r = bI x)) 0 0 (fun _ => False) := by
  refine Met.ofW (cc := cX10_isLetter) (maxL := 1) (ret := some .boolean) (by decide) rfl ?_
  intro p e s m args below meth c s₁ B hml hv
  obtain ⟨ha, hP, hC⟩ := hv
  have hx := B.exec
  have hb := B.bytes
  have hr := B.returns
  have hts := atoms_spec (ws := wsX10_isLetter) B.pre
  have hown : s.vm.findClass RX10 = some m.cls := findClass_of_methodNamed B.named
  have hlocks := B.notSynchronized
  have hS : va_S (fun _ => False) s.heap s.heap [] := va_S.rf
  generalize hQe : MQ below (vp_Si (fun r => r = bI x)) args s 0 0 (fun _ => False) = Q
  refine st_W ha (Nat.le_of_ble_eq_true rfl) (fun ls hl => ?_)
  have hl : lv_has ls 1 [(0, .int p0)] := hl
  unfold f_X10_isLetter at hf
  refine lv_iload_n hx hb dX10_isLetter_0 rfl (lv_at hl 0 rfl) ?_
  refine lv_bipush (v := 97) hx hb dX10_isLetter_1 rfl ?_
  refine lv_bipush (v := 122) hx hb dX10_isLetter_3 rfl ?_
  refine cr_i (va_runS (As := [.int p0, .int (97 : Int32), .int (122 : Int32)]) (rest := []) ⟨hx, hb, hml, hown, hts⟩ (c_X10_within l E p0 (97 : Int32) (122 : Int32) _ rfl) (va_cwS 3 hts gX10_isLetter_X10_within rfl rfl rfl hdS_X10_within ⟨Nat.le_of_ble_eq_true rfl, Nat.le_of_ble_eq_true rfl⟩) ⟨PR.blind, PR.pre hC hS hP⟩ rfl rfl hl.1 rfl (lv_room (Nat.le_of_ble_eq_true rfl)) dX10_isLetter_5 ⟨Nat.le_of_ble_eq_true rfl, Nat.le_of_ble_eq_true rfl⟩) ?_
  subst hf
  subst hQe
  exact en_z hx hb hr hlocks rfl dX10_isLetter_8

/-! X10_isImage -/
abbrev rmX10_isImage : Room := { frames := 1, cells := 0, slots := 0, locals := 22 }
theorem hdS_X10_isImage : yX10_isImage.cls ≠ "java/lang/invoke/MethodHandle" ∧ yX10_isImage.cls ≠ "java/lang/invoke/VarHandle" ∧ (parseMethodDescriptor yX10_isImage.desc).map (fun d => d.parameters.length) = some 1 := by decide +kernel
set_option maxHeartbeats 4000000 in
set_option maxRecDepth 100000 in
theorem c_X10_isImage (l : Launch) (E : G0) (p0 : Int32) (x : Bool) (hf : f_X10_isImage p0 = x) : Met l yX10_isImage wsX10_isImage rmX10_isImage (va_Pc [.int p0] (PR E ([] : va_W))) (vp_Si (fun r => r = bI x)) 0 0 (fun _ => False) := by
  refine Met.ofW (cc := cX10_isImage) (maxL := 1) (ret := some .boolean) (by decide) rfl ?_
  intro p e s m args below meth c s₁ B hml hv
  obtain ⟨ha, hP, hC⟩ := hv
  have hx := B.exec
  have hb := B.bytes
  have hr := B.returns
  have hts := atoms_spec (ws := wsX10_isImage) B.pre
  have hown : s.vm.findClass RX10 = some m.cls := findClass_of_methodNamed B.named
  have hlocks := B.notSynchronized
  have hS : va_S (fun _ => False) s.heap s.heap [] := va_S.rf
  generalize hQe : MQ below (vp_Si (fun r => r = bI x)) args s 0 0 (fun _ => False) = Q
  refine st_W ha (Nat.le_of_ble_eq_true rfl) (fun ls hl => ?_)
  have hl : lv_has ls 1 [(0, .int p0)] := hl
  unfold f_X10_isImage at hf
  refine lv_iload_n hx hb dX10_isImage_0 rfl (lv_at hl 0 rfl) ?_
  refine lv_iconst (v := 0) hx hb dX10_isImage_1 rfl ?_
  refine lv_iconst (v := 1) hx hb dX10_isImage_2 rfl ?_
  refine cr_i (va_runS (As := [.int p0, .int (0 : Int32), .int (1 : Int32)]) (rest := []) ⟨hx, hb, hml, hown, hts⟩ (c_X10_within l E p0 (0 : Int32) (1 : Int32) _ rfl) (va_cwS 3 hts gX10_isImage_X10_within rfl rfl rfl hdS_X10_within ⟨Nat.le_of_ble_eq_true rfl, Nat.le_of_ble_eq_true rfl⟩) ⟨PR.blind, PR.pre hC hS hP⟩ rfl rfl hl.1 rfl (lv_room (Nat.le_of_ble_eq_true rfl)) dX10_isImage_3 ⟨Nat.le_of_ble_eq_true rfl, Nat.le_of_ble_eq_true rfl⟩) ?_
  subst hf
  subst hQe
  exact en_z hx hb hr hlocks rfl dX10_isImage_6

/-! J6_bitCount_0f7a4 -/
abbrev rmJ6_bitCount_0f7a4 : Room := { frames := 0, cells := 0, slots := 0, locals := 0 }
theorem hdS_J6_bitCount_0f7a4 : yJ6_bitCount_0f7a4.cls ≠ "java/lang/invoke/MethodHandle" ∧ yJ6_bitCount_0f7a4.cls ≠ "java/lang/invoke/VarHandle" ∧ (parseMethodDescriptor yJ6_bitCount_0f7a4.desc).map (fun d => d.parameters.length) = some 1 := by decide +kernel
set_option maxHeartbeats 4000000 in
set_option maxRecDepth 100000 in
theorem c_J6_bitCount_0f7a4 (l : Launch) (E : G0) (p0 : Int32) (x : Int32) (hf : f_J6_bitCount_0f7a4 p0 = x) : Met l yJ6_bitCount_0f7a4 wsJ6_bitCount_0f7a4 rmJ6_bitCount_0f7a4 (va_Pc [.int p0] (PR E ([] : va_W))) (vp_Si (fun r => r = x)) 0 0 (fun _ => False) := by
  refine Met.ofW (cc := cJ6_bitCount_0f7a4) (maxL := 1) (ret := some .int) (by decide) rfl ?_
  intro p e s m args below meth c s₁ B hml hv
  obtain ⟨ha, hP, hC⟩ := hv
  have hx := B.exec
  have hb := B.bytes
  have hr := B.returns
  have hts := atoms_spec (ws := wsJ6_bitCount_0f7a4) B.pre
  have hown : s.vm.findClass RJ6 = some m.cls := findClass_of_methodNamed B.named
  have hlocks := B.notSynchronized
  have hS : va_S (fun _ => False) s.heap s.heap [] := va_S.rf
  have w1 : (Cond.constant RJ6 265 (1431655765)).before args s = true := hts _ (List.mem_of_getElem? (i := 1) rfl)
  have w2 : (Cond.constant RJ6 266 (858993459)).before args s = true := hts _ (List.mem_of_getElem? (i := 2) rfl)
  have w3 : (Cond.constant RJ6 267 (252645135)).before args s = true := hts _ (List.mem_of_getElem? (i := 3) rfl)
  generalize hQe : MQ below (vp_Si (fun r => r = x)) args s 0 0 (fun _ => False) = Q
  refine st_W ha (Nat.le_of_ble_eq_true rfl) (fun ls hl => ?_)
  have hl : lv_has ls 1 [(0, .int p0)] := hl
  unfold f_J6_bitCount_0f7a4 at hf
  refine lv_iload_n hx hb dJ6_bitCount_0f7a4_0 rfl (lv_at hl 0 rfl) ?_
  refine lv_iload_n hx hb dJ6_bitCount_0f7a4_1 rfl (lv_at hl 0 rfl) ?_
  refine lv_iconst (v := 1) hx hb dJ6_bitCount_0f7a4_2 rfl ?_
  refine lv_iushr hx hb dJ6_bitCount_0f7a4_3 rfl ?_
  refine lv_ldcw hx hb hown w1 dJ6_bitCount_0f7a4_4 ?_
  refine lv_iand hx hb dJ6_bitCount_0f7a4_7 ?_
  refine lv_isub hx hb dJ6_bitCount_0f7a4_8 ?_
  refine lv_istore_n (lv' := [(0, .int (p0 - ((p0.toUInt32 >>> ((1 : Int32).toUInt32 &&& Int32.toUInt32 31)).toInt32 &&& ((1431655765) : Int32))))]) hx hb dJ6_bitCount_0f7a4_9 rfl hl (by decide) rfl (fun ls hl => ?_)
  refine lv_iload_n hx hb dJ6_bitCount_0f7a4_10 rfl (lv_at hl 0 rfl) ?_
  refine lv_ldcw hx hb hown w2 dJ6_bitCount_0f7a4_11 ?_
  refine lv_iand hx hb dJ6_bitCount_0f7a4_14 ?_
  refine lv_iload_n hx hb dJ6_bitCount_0f7a4_15 rfl (lv_at hl 0 rfl) ?_
  refine lv_iconst (v := 2) hx hb dJ6_bitCount_0f7a4_16 rfl ?_
  refine lv_iushr hx hb dJ6_bitCount_0f7a4_17 rfl ?_
  refine lv_ldcw hx hb hown w2 dJ6_bitCount_0f7a4_18 ?_
  refine lv_iand hx hb dJ6_bitCount_0f7a4_21 ?_
  refine lv_iadd hx hb dJ6_bitCount_0f7a4_22 ?_
  refine lv_istore_n (lv' := [(0, .int (((p0 - ((p0.toUInt32 >>> ((1 : Int32).toUInt32 &&& Int32.toUInt32 31)).toInt32 &&& ((1431655765) : Int32))) &&& ((858993459) : Int32)) + (((p0 - ((p0.toUInt32 >>> ((1 : Int32).toUInt32 &&& Int32.toUInt32 31)).toInt32 &&& ((1431655765) : Int32))).toUInt32 >>> ((2 : Int32).toUInt32 &&& Int32.toUInt32 31)).toInt32 &&& ((858993459) : Int32))))]) hx hb dJ6_bitCount_0f7a4_23 rfl hl (by decide) rfl (fun ls hl => ?_)
  refine lv_iload_n hx hb dJ6_bitCount_0f7a4_24 rfl (lv_at hl 0 rfl) ?_
  refine lv_iload_n hx hb dJ6_bitCount_0f7a4_25 rfl (lv_at hl 0 rfl) ?_
  refine lv_iconst (v := 4) hx hb dJ6_bitCount_0f7a4_26 rfl ?_
  refine lv_iushr hx hb dJ6_bitCount_0f7a4_27 rfl ?_
  refine lv_iadd hx hb dJ6_bitCount_0f7a4_28 ?_
  refine lv_ldcw hx hb hown w3 dJ6_bitCount_0f7a4_29 ?_
  refine lv_iand hx hb dJ6_bitCount_0f7a4_32 ?_
  refine lv_istore_n (lv' := [(0, .int (((((p0 - ((p0.toUInt32 >>> ((1 : Int32).toUInt32 &&& Int32.toUInt32 31)).toInt32 &&& ((1431655765) : Int32))) &&& ((858993459) : Int32)) + (((p0 - ((p0.toUInt32 >>> ((1 : Int32).toUInt32 &&& Int32.toUInt32 31)).toInt32 &&& ((1431655765) : Int32))).toUInt32 >>> ((2 : Int32).toUInt32 &&& Int32.toUInt32 31)).toInt32 &&& ((858993459) : Int32))) + ((((p0 - ((p0.toUInt32 >>> ((1 : Int32).toUInt32 &&& Int32.toUInt32 31)).toInt32 &&& ((1431655765) : Int32))) &&& ((858993459) : Int32)) + (((p0 - ((p0.toUInt32 >>> ((1 : Int32).toUInt32 &&& Int32.toUInt32 31)).toInt32 &&& ((1431655765) : Int32))).toUInt32 >>> ((2 : Int32).toUInt32 &&& Int32.toUInt32 31)).toInt32 &&& ((858993459) : Int32))).toUInt32 >>> ((4 : Int32).toUInt32 &&& Int32.toUInt32 31)).toInt32) &&& ((252645135) : Int32)))]) hx hb dJ6_bitCount_0f7a4_33 rfl hl (by decide) rfl (fun ls hl => ?_)
  refine lv_iload_n hx hb dJ6_bitCount_0f7a4_34 rfl (lv_at hl 0 rfl) ?_
  refine lv_iload_n hx hb dJ6_bitCount_0f7a4_35 rfl (lv_at hl 0 rfl) ?_
  refine lv_bipush (v := 8) hx hb dJ6_bitCount_0f7a4_36 rfl ?_
  refine lv_iushr hx hb dJ6_bitCount_0f7a4_38 rfl ?_
  refine lv_iadd hx hb dJ6_bitCount_0f7a4_39 ?_
  refine lv_istore_n (lv' := [(0, .int ((((((p0 - ((p0.toUInt32 >>> ((1 : Int32).toUInt32 &&& Int32.toUInt32 31)).toInt32 &&& ((1431655765) : Int32))) &&& ((858993459) : Int32)) + (((p0 - ((p0.toUInt32 >>> ((1 : Int32).toUInt32 &&& Int32.toUInt32 31)).toInt32 &&& ((1431655765) : Int32))).toUInt32 >>> ((2 : Int32).toUInt32 &&& Int32.toUInt32 31)).toInt32 &&& ((858993459) : Int32))) + ((((p0 - ((p0.toUInt32 >>> ((1 : Int32).toUInt32 &&& Int32.toUInt32 31)).toInt32 &&& ((1431655765) : Int32))) &&& ((858993459) : Int32)) + (((p0 - ((p0.toUInt32 >>> ((1 : Int32).toUInt32 &&& Int32.toUInt32 31)).toInt32 &&& ((1431655765) : Int32))).toUInt32 >>> ((2 : Int32).toUInt32 &&& Int32.toUInt32 31)).toInt32 &&& ((858993459) : Int32))).toUInt32 >>> ((4 : Int32).toUInt32 &&& Int32.toUInt32 31)).toInt32) &&& ((252645135) : Int32)) + ((((((p0 - ((p0.toUInt32 >>> ((1 : Int32).toUInt32 &&& Int32.toUInt32 31)).toInt32 &&& ((1431655765) : Int32))) &&& ((858993459) : Int32)) + (((p0 - ((p0.toUInt32 >>> ((1 : Int32).toUInt32 &&& Int32.toUInt32 31)).toInt32 &&& ((1431655765) : Int32))).toUInt32 >>> ((2 : Int32).toUInt32 &&& Int32.toUInt32 31)).toInt32 &&& ((858993459) : Int32))) + ((((p0 - ((p0.toUInt32 >>> ((1 : Int32).toUInt32 &&& Int32.toUInt32 31)).toInt32 &&& ((1431655765) : Int32))) &&& ((858993459) : Int32)) + (((p0 - ((p0.toUInt32 >>> ((1 : Int32).toUInt32 &&& Int32.toUInt32 31)).toInt32 &&& ((1431655765) : Int32))).toUInt32 >>> ((2 : Int32).toUInt32 &&& Int32.toUInt32 31)).toInt32 &&& ((858993459) : Int32))).toUInt32 >>> ((4 : Int32).toUInt32 &&& Int32.toUInt32 31)).toInt32) &&& ((252645135) : Int32)).toUInt32 >>> ((8 : Int32).toUInt32 &&& Int32.toUInt32 31)).toInt32))]) hx hb dJ6_bitCount_0f7a4_40 rfl hl (by decide) rfl (fun ls hl => ?_)
  refine lv_iload_n hx hb dJ6_bitCount_0f7a4_41 rfl (lv_at hl 0 rfl) ?_
  refine lv_iload_n hx hb dJ6_bitCount_0f7a4_42 rfl (lv_at hl 0 rfl) ?_
  refine lv_bipush (v := 16) hx hb dJ6_bitCount_0f7a4_43 rfl ?_
  refine lv_iushr hx hb dJ6_bitCount_0f7a4_45 rfl ?_
  refine lv_iadd hx hb dJ6_bitCount_0f7a4_46 ?_
  refine lv_istore_n (lv' := [(0, .int (((((((p0 - ((p0.toUInt32 >>> ((1 : Int32).toUInt32 &&& Int32.toUInt32 31)).toInt32 &&& ((1431655765) : Int32))) &&& ((858993459) : Int32)) + (((p0 - ((p0.toUInt32 >>> ((1 : Int32).toUInt32 &&& Int32.toUInt32 31)).toInt32 &&& ((1431655765) : Int32))).toUInt32 >>> ((2 : Int32).toUInt32 &&& Int32.toUInt32 31)).toInt32 &&& ((858993459) : Int32))) + ((((p0 - ((p0.toUInt32 >>> ((1 : Int32).toUInt32 &&& Int32.toUInt32 31)).toInt32 &&& ((1431655765) : Int32))) &&& ((858993459) : Int32)) + (((p0 - ((p0.toUInt32 >>> ((1 : Int32).toUInt32 &&& Int32.toUInt32 31)).toInt32 &&& ((1431655765) : Int32))).toUInt32 >>> ((2 : Int32).toUInt32 &&& Int32.toUInt32 31)).toInt32 &&& ((858993459) : Int32))).toUInt32 >>> ((4 : Int32).toUInt32 &&& Int32.toUInt32 31)).toInt32) &&& ((252645135) : Int32)) + ((((((p0 - ((p0.toUInt32 >>> ((1 : Int32).toUInt32 &&& Int32.toUInt32 31)).toInt32 &&& ((1431655765) : Int32))) &&& ((858993459) : Int32)) + (((p0 - ((p0.toUInt32 >>> ((1 : Int32).toUInt32 &&& Int32.toUInt32 31)).toInt32 &&& ((1431655765) : Int32))).toUInt32 >>> ((2 : Int32).toUInt32 &&& Int32.toUInt32 31)).toInt32 &&& ((858993459) : Int32))) + ((((p0 - ((p0.toUInt32 >>> ((1 : Int32).toUInt32 &&& Int32.toUInt32 31)).toInt32 &&& ((1431655765) : Int32))) &&& ((858993459) : Int32)) + (((p0 - ((p0.toUInt32 >>> ((1 : Int32).toUInt32 &&& Int32.toUInt32 31)).toInt32 &&& ((1431655765) : Int32))).toUInt32 >>> ((2 : Int32).toUInt32 &&& Int32.toUInt32 31)).toInt32 &&& ((858993459) : Int32))).toUInt32 >>> ((4 : Int32).toUInt32 &&& Int32.toUInt32 31)).toInt32) &&& ((252645135) : Int32)).toUInt32 >>> ((8 : Int32).toUInt32 &&& Int32.toUInt32 31)).toInt32) + (((((((p0 - ((p0.toUInt32 >>> ((1 : Int32).toUInt32 &&& Int32.toUInt32 31)).toInt32 &&& ((1431655765) : Int32))) &&& ((858993459) : Int32)) + (((p0 - ((p0.toUInt32 >>> ((1 : Int32).toUInt32 &&& Int32.toUInt32 31)).toInt32 &&& ((1431655765) : Int32))).toUInt32 >>> ((2 : Int32).toUInt32 &&& Int32.toUInt32 31)).toInt32 &&& ((858993459) : Int32))) + ((((p0 - ((p0.toUInt32 >>> ((1 : Int32).toUInt32 &&& Int32.toUInt32 31)).toInt32 &&& ((1431655765) : Int32))) &&& ((858993459) : Int32)) + (((p0 - ((p0.toUInt32 >>> ((1 : Int32).toUInt32 &&& Int32.toUInt32 31)).toInt32 &&& ((1431655765) : Int32))).toUInt32 >>> ((2 : Int32).toUInt32 &&& Int32.toUInt32 31)).toInt32 &&& ((858993459) : Int32))).toUInt32 >>> ((4 : Int32).toUInt32 &&& Int32.toUInt32 31)).toInt32) &&& ((252645135) : Int32)) + ((((((p0 - ((p0.toUInt32 >>> ((1 : Int32).toUInt32 &&& Int32.toUInt32 31)).toInt32 &&& ((1431655765) : Int32))) &&& ((858993459) : Int32)) + (((p0 - ((p0.toUInt32 >>> ((1 : Int32).toUInt32 &&& Int32.toUInt32 31)).toInt32 &&& ((1431655765) : Int32))).toUInt32 >>> ((2 : Int32).toUInt32 &&& Int32.toUInt32 31)).toInt32 &&& ((858993459) : Int32))) + ((((p0 - ((p0.toUInt32 >>> ((1 : Int32).toUInt32 &&& Int32.toUInt32 31)).toInt32 &&& ((1431655765) : Int32))) &&& ((858993459) : Int32)) + (((p0 - ((p0.toUInt32 >>> ((1 : Int32).toUInt32 &&& Int32.toUInt32 31)).toInt32 &&& ((1431655765) : Int32))).toUInt32 >>> ((2 : Int32).toUInt32 &&& Int32.toUInt32 31)).toInt32 &&& ((858993459) : Int32))).toUInt32 >>> ((4 : Int32).toUInt32 &&& Int32.toUInt32 31)).toInt32) &&& ((252645135) : Int32)).toUInt32 >>> ((8 : Int32).toUInt32 &&& Int32.toUInt32 31)).toInt32).toUInt32 >>> ((16 : Int32).toUInt32 &&& Int32.toUInt32 31)).toInt32))]) hx hb dJ6_bitCount_0f7a4_47 rfl hl (by decide) rfl (fun ls hl => ?_)
  refine lv_iload_n hx hb dJ6_bitCount_0f7a4_48 rfl (lv_at hl 0 rfl) ?_
  refine lv_bipush (v := 63) hx hb dJ6_bitCount_0f7a4_49 rfl ?_
  refine lv_iand hx hb dJ6_bitCount_0f7a4_51 ?_
  subst hf
  subst hQe
  exact en_i hx hb hr hlocks dJ6_bitCount_0f7a4_52

/-! J7_fill_53178 -/
abbrev rmJ7_fill_53178 : Room := { frames := 0, cells := 0, slots := 0, locals := 0 }
theorem hdS_J7_fill_53178 : yJ7_fill_53178.cls ≠ "java/lang/invoke/MethodHandle" ∧ yJ7_fill_53178.cls ≠ "java/lang/invoke/VarHandle" ∧ (parseMethodDescriptor yJ7_fill_53178.desc).map (fun d => d.parameters.length) = some 2 := by decide +kernel
set_option maxHeartbeats 4000000 in
set_option maxRecDepth 100000 in
theorem c_J7_fill_53178 (l : Launch) (E : G0) (sz : Nat) (a0 n0 : Nat) (v0 : (Nat → Int32)) (p1 : Int32) (x : (Nat → Int32)) (hf : f_J7_fill_53178 n0 v0 p1 = some x) : Met l yJ7_fill_53178 wsJ7_fill_53178 rmJ7_fill_53178 (va_Pc [.ref a0, .int p1] (PW E (wIA E a0 n0 v0) sz)) (va_Qv (fun q => q = x) (fun q t => va_P E.1 vwCl ((fun q : (Nat → Int32) => wIA E a0 n0 q) q) t.heap ∧ va_D (va_A (wIA E a0 n0 v0) sz) ((fun q : (Nat → Int32) => wIA E a0 n0 q) q)) (va_A (wIA E a0 n0 v0) sz)) 0 0 (va_A (wIA E a0 n0 v0) sz) := by
  refine Met.ofW (cc := cJ7_fill_53178) (maxL := 4) (ret := none) (by decide) rfl ?_
  intro p e s m args below meth c s₁ B hml hv
  obtain ⟨ha, hsz, hP, hD0, hC⟩ := hv
  have hx := B.exec
  have hb := B.bytes
  have hr := B.returns
  have hts := atoms_spec (ws := wsJ7_fill_53178) B.pre
  have hown : s.vm.findClass RJ7 = some m.cls := findClass_of_methodNamed B.named
  have hlocks := B.notSynchronized
  subst hsz
  have hD := hD0.self (sz := s.heap.size)
  generalize hAe : va_A (wIA E a0 n0 v0) s.heap.size = A at hD hC ⊢
  have hA : ∀ q : Nat, s.heap.size ≤ q → A q := fun q h => by rw [← hAe]; exact Or.inr h
  have hS : va_S A s.heap s.heap [] := va_S.rf
  generalize hQe : MQ below (va_Qv (fun q => q = x) (fun q t => va_P E.1 vwCl ((fun q : (Nat → Int32) => wIA E a0 n0 q) q) t.heap ∧ va_D A ((fun q : (Nat → Int32) => wIA E a0 n0 q) q)) A) args s 0 0 A = Q
  refine st_W ha (Nat.le_of_ble_eq_true rfl) (fun ls hl => ?_)
  have hl : lv_has ls 4 [(0, .ref a0), (1, .int p1)] := hl
  unfold f_J7_fill_53178 at hf
  refine lv_iconst (v := 0) hx hb dJ7_fill_53178_0 rfl ?_
  refine lv_istore_n (lv' := [(2, .int (0 : Int32)), (0, .ref a0), (1, .int p1)]) hx hb dJ7_fill_53178_1 rfl hl (by decide) rfl (fun ls hl => ?_)
  refine lv_aload_n hx hb dJ7_fill_53178_2 rfl (lv_at hl 1 rfl) ?_
  refine va_alen (v := Int32.ofNat n0) hx hb hC.1 hP 0 0 rfl rfl rfl dJ7_fill_53178_3 ?_
  refine lv_istore_n (lv' := [(3, .int (Int32.ofNat n0)), (2, .int (0 : Int32)), (0, .ref a0), (1, .int p1)]) hx hb dJ7_fill_53178_4 rfl hl (by decide) rfl (fun ls hl => ?_)
  obtain ⟨K1, hK1, hf⟩ := jn_some hf
  have J1 : ∀ (q1 : Int32 × (Nat → Int32)) (H : Heap) (locs : List Loc) (hP : va_P E.1 vwCl (wIA E a0 n0 q1.2) H) (hD : va_D A (wIA E a0 n0 q1.2)) (hS : va_S A s.heap H locs) (ls : Array Slot) (hl : lv_has ls 4 []) (hf : K1 q1 = some x), W p l e (headSpec wsJ7_fill_53178 rmJ7_fill_53178).room s m args below meth c H locs 0 0 Q (F0 m 20 ls []) := by
    intro q1 H locs hP hD hS ls hl hf
    have hf := (hK1 q1).trans hf
    cases Option.some.inj hf
    subst hQe
    exact ew_v (wf := (fun q : (Nat → Int32) => wIA E a0 n0 q)) hx hb hr hlocks hP hD hS dJ7_fill_53178_20
  have L1 : ∀ (n : Nat) (q1 : Int32 × (Nat → Int32)) (H : Heap) (locs : List Loc) (hP : va_P E.1 vwCl (wIA E a0 n0 q1.2) H) (hD : va_D A (wIA E a0 n0 q1.2)) (hS : va_S A s.heap H locs) (ls : Array Slot) (hl : lv_has ls 4 [(0, .ref a0), (1, .int p1), (2, .int q1.1), (3, .int (Int32.ofNat n0))]) (hf : lpF (bJ7_fill_53178_1 n0 p1 K1) n q1 = some x), W p l e (headSpec wsJ7_fill_53178 rmJ7_fill_53178).room s m args below meth c H locs 0 0 Q (F0 m 5 ls []) := by
    intro n
    induction n with
    | zero => intro q1 H locs hP hD hS ls hl hf; exact (lpF_zero hf).elim
    | succ n ih1 =>
      intro q1 H locs hP hD hS ls hl hf
      have hf := lpF_succ hf
      unfold bJ7_fill_53178_1 at hf
      refine lv_iload_n hx hb dJ7_fill_53178_5 rfl (lv_at hl 2 rfl) ?_
      refine lv_iload_n hx hb dJ7_fill_53178_6 rfl (lv_at hl 3 rfl) ?_
      refine lv_icmp_ge (tgt := 20) hx hb dJ7_fill_53178_7 rfl (fun c2 => ?_) (fun c2 => ?_)
      · have hf := it_t hf c2
        exact J1 (q1.1, q1.2) H locs hP hD hS ls (lv_sub hl [] rfl) hf
      · have hf := it_f hf c2
        refine lv_aload_n hx hb dJ7_fill_53178_10 rfl (lv_at hl 0 rfl) ?_
        refine lv_iload_n hx hb dJ7_fill_53178_11 rfl (lv_at hl 2 rfl) ?_
        refine lv_iload_n hx hb dJ7_fill_53178_12 rfl (lv_at hl 1 rfl) ?_
        obtain ⟨h3, hf⟩ := gdI_some hf
        refine va_iast hx hb hC.1 hP hD hS 0 0 rfl rfl h3 dJ7_fill_53178_13 (fun H locs hP hD hS => ?_)
        have hP : va_P E.1 vwCl (wIA E a0 n0 (upd q1.2 q1.1.toNatClampNeg p1)) H := hP
        have hD : va_D A (wIA E a0 n0 (upd q1.2 q1.1.toNatClampNeg p1)) := hD
        refine lv_iinc (v := (q1.1 + 1)) (lv' := [(2, .int (q1.1 + 1)), (0, .ref a0), (1, .int p1), (3, .int (Int32.ofNat n0))]) hx hb dJ7_fill_53178_14 hl (k := 2) rfl rfl (by decide) rfl (fun ls hl => ?_)
        refine lv_goto (tgt := 5) hx hb dJ7_fill_53178_17 rfl ?_
        exact ih1 ((q1.1 + 1), (upd q1.2 q1.1.toNatClampNeg p1)) H locs hP hD hS ls (lv_sub hl [1, 2, 0, 3] rfl) hf
  exact L1 FU ((0 : Int32), v0) s.heap [] hP hD hS ls (lv_sub hl [2, 3, 1, 0] rfl) hf

/-! X8_open -/
abbrev rmX8_open : Room := { frames := 1, cells := 0, slots := 0, locals := 23 }
theorem hdS_X8_open : yX8_open.cls ≠ "java/lang/invoke/MethodHandle" ∧ yX8_open.cls ≠ "java/lang/invoke/VarHandle" ∧ (parseMethodDescriptor yX8_open.desc).map (fun d => d.parameters.length) = some 1 := by decide +kernel
theorem hdV_X8_open : yX8_open.cls = RX8 ∧ yX8_open.cls ≠ "java/lang/invoke/MethodHandle" ∧ yX8_open.cls ≠ "java/lang/invoke/VarHandle" ∧ (parseMethodDescriptor yX8_open.desc).map (fun d => d.parameters.length) = some 1 := ⟨rfl, hdS_X8_open⟩
set_option maxHeartbeats 4000000 in
set_option maxRecDepth 100000 in
theorem c_X8_open (l : Launch) (E : G0) (sz : Nat) (a0 : Nat → Nat) (v0 : SV) (p1 : Int32) (x : SV) (hf : f_X8_open v0 p1 = some x) : Met l yX8_open wsX8_open rmX8_open (va_Pc [.ref (a0 0), .int p1] (PW E (wSV E a0 v0) sz)) (va_Qv (fun q => q = x) (fun q t => va_P E.1 vwCl ((fun q : SV => wSV E a0 q) q) t.heap ∧ va_D (va_A (wSV E a0 v0) sz) ((fun q : SV => wSV E a0 q) q)) (va_A (wSV E a0 v0) sz)) 0 0 (va_A (wSV E a0 v0) sz) := by
  refine Met.ofW (cc := cX8_open) (maxL := 2) (ret := none) (by decide) rfl ?_
  intro p e s m args below meth c s₁ B hml hv
  obtain ⟨ha, hsz, hP, hD0, hC⟩ := hv
  have hx := B.exec
  have hb := B.bytes
  have hr := B.returns
  have hts := atoms_spec (ws := wsX8_open) B.pre
  have hown : s.vm.findClass RX8 = some m.cls := findClass_of_methodNamed B.named
  have hlocks := B.notSynchronized
  subst hsz
  have hD := hD0.self (sz := s.heap.size)
  generalize hAe : va_A (wSV E a0 v0) s.heap.size = A at hD hC ⊢
  have hA : ∀ q : Nat, s.heap.size ≤ q → A q := fun q h => by rw [← hAe]; exact Or.inr h
  have hS : va_S A s.heap s.heap [] := va_S.rf
  have w1 : (Cond.methodLink RX8 25 Lib.Math.min.name).before args s = true := hts _ (List.mem_of_getElem? (i := 1) rfl)
  have w2 : (Cond.static Lib.Math.min.name).before args s = true := hts _ (List.mem_of_getElem? (i := 2) rfl)
  have w3 : (Cond.initialized "java/lang/Math").before args s = true := hts _ (List.mem_of_getElem? (i := 3) rfl)
  have w4 : (Cond.code Lib.Math.min.name Lib.Math.min.code 2 (some .int)).before args s = true := hts _ (List.mem_of_getElem? (i := 4) rfl)
  have w5 : (Cond.fieldLink RX8 9 "GreatChunks$Servers" "many" "I").before args s = true := hts _ (List.mem_of_getElem? (i := 5) rfl)
  have w6 : ∀ w ∈ wsX80, w ∈ wsX8_open := in_pl 13 rfl
  have w7 : (Cond.fieldLink RX8 15 "GreatChunks$Servers" "upBits" "I").before args s = true := hts _ (List.mem_of_getElem? (i := 6) rfl)
  have w8 : (Cond.fieldLink RX8 18 "GreatChunks$Servers" "room" "[I").before args s = true := hts _ (List.mem_of_getElem? (i := 7) rfl)
  have w9 : (Cond.fieldLink RX8 22 "GreatChunks$Servers" "spoilt" "[I").before args s = true := hts _ (List.mem_of_getElem? (i := 8) rfl)
  generalize hQe : MQ below (va_Qv (fun q => q = x) (fun q t => va_P E.1 vwCl ((fun q : SV => wSV E a0 q) q) t.heap ∧ va_D A ((fun q : SV => wSV E a0 q) q)) A) args s 0 0 A = Q
  refine st_W ha (Nat.le_of_ble_eq_true rfl) (fun ls hl => ?_)
  have hl : lv_has ls 2 [(0, .ref (a0 0)), (1, .int p1)] := hl
  unfold f_X8_open at hf
  refine lv_aload_n hx hb dX8_open_0 rfl (lv_at hl 0 rfl) ?_
  refine lv_iload_n hx hb dX8_open_1 rfl (lv_at hl 1 rfl) ?_
  refine lv_iconst (v := 5) hx hb dX8_open_2 rfl ?_
  refine va_mmin hx hb (by rw [hml]; exact hl.1.symm) hown w1 w2 w3 w4 (Nat.le_of_ble_eq_true rfl) (Nat.le_of_ble_eq_true rfl) (Nat.le_of_ble_eq_true rfl) (Nat.le_of_ble_eq_true rfl) dX8_open_3 ?_
  refine va_put (D := E.1) (ci := 6) (v := .int (if (5 : Int32) < p1 then (5 : Int32) else p1)) (ty := .int) (C := RX8) (T := TX8) (N := 4) hx hb hts w6 tyX8 tyX8_ok nmX8 hown hC.1 hP hD hS 0 rfl rfl 0 (by decide) w5 (fun _ h9 => h9) rfl (by decide +kernel) rfl rfl (Nat.le_of_ble_eq_true rfl) dX8_open_6 (fun H locs hP hD hS => ?_)
  have hP : va_P E.1 vwCl (wSV E a0 ((if (5 : Int32) < p1 then (5 : Int32) else p1), v0.2.1, v0.2.2.1, v0.2.2.2)) H := hP
  have hD : va_D A (wSV E a0 ((if (5 : Int32) < p1 then (5 : Int32) else p1), v0.2.1, v0.2.2.1, v0.2.2.2)) := hD
  refine lv_aload_n hx hb dX8_open_9 rfl (lv_at hl 0 rfl) ?_
  refine lv_iconst (v := 1) hx hb dX8_open_10 rfl ?_
  refine lv_aload_n hx hb dX8_open_11 rfl (lv_at hl 0 rfl) ?_
  refine va_get (D := E.1) (ci := 6) (v := .int (if (5 : Int32) < p1 then (5 : Int32) else p1)) (C := RX8) (T := TX8) (N := 4) hx hb hts w6 hown hC.1 hP 0 rfl rfl 0 (by decide) w5 (fun _ h9 => h9) rfl dX8_open_12 ?_
  refine lv_ishl hx hb dX8_open_15 ?_
  refine lv_iconst (v := 1) hx hb dX8_open_16 rfl ?_
  refine lv_isub hx hb dX8_open_17 ?_
  refine va_put (D := E.1) (ci := 6) (v := .int (((1 : Int32) <<< ((if (5 : Int32) < p1 then (5 : Int32) else p1) &&& 31)) - (1 : Int32))) (ty := .int) (C := RX8) (T := TX8) (N := 4) hx hb hts w6 tyX8 tyX8_ok nmX8 hown hC.1 hP hD hS 0 rfl rfl 1 (by decide) w7 (fun _ h9 => h9) rfl (by decide +kernel) rfl rfl (Nat.le_of_ble_eq_true rfl) dX8_open_18 (fun H locs hP hD hS => ?_)
  have hP : va_P E.1 vwCl (wSV E a0 ((if (5 : Int32) < p1 then (5 : Int32) else p1), (((1 : Int32) <<< ((if (5 : Int32) < p1 then (5 : Int32) else p1) &&& 31)) - (1 : Int32)), v0.2.2.1, v0.2.2.2)) H := hP
  have hD : va_D A (wSV E a0 ((if (5 : Int32) < p1 then (5 : Int32) else p1), (((1 : Int32) <<< ((if (5 : Int32) < p1 then (5 : Int32) else p1) &&& 31)) - (1 : Int32)), v0.2.2.1, v0.2.2.2)) := hD
  refine lv_aload_n hx hb dX8_open_21 rfl (lv_at hl 0 rfl) ?_
  refine va_get (D := E.1) (ci := 6) (v := .ref (a0 1)) (C := RX8) (T := TX8) (N := 4) hx hb hts w6 hown hC.1 hP 0 rfl rfl 2 (by decide) w8 (fun _ h9 => h9) rfl dX8_open_22 ?_
  refine lv_iconst (v := 1) hx hb dX8_open_25 rfl ?_
  obtain ⟨r1, e1, hf⟩ := bd_some hf
  refine cq_v hP hD hS [1] [0, 2] [0, 2, 1] (va_free (wc := (wIA E (a0 1) 5 v0.2.2.1)) hD hS hA [1] rfl) (va_runS (As := [.ref (a0 1), .int (1 : Int32)]) (rest := []) ⟨hx, hb, hml, hown, hts⟩ (c_J7_fill_53178 l E H.size (a0 1) 5 v0.2.2.1 (1 : Int32) r1 e1) (va_cwS 2 hts gX8_open_J7_fill_53178 rfl rfl rfl hdS_J7_fill_53178 ⟨Nat.le_of_ble_eq_true rfl, Nat.le_of_ble_eq_true rfl⟩) ⟨PW.blind, PW.pre hC hS (hP.sub [1] rfl) (hD.sub [1] rfl rfl) (va_free hD hS hA [1] rfl)⟩ rfl rfl hl.1 rfl (lv_room (Nat.le_of_ble_eq_true rfl)) dX8_open_26 ⟨Nat.le_of_ble_eq_true rfl, Nat.le_of_ble_eq_true rfl⟩) rfl rfl rfl rfl (wSV E a0 ((if (5 : Int32) < p1 then (5 : Int32) else p1), (((1 : Int32) <<< ((if (5 : Int32) < p1 then (5 : Int32) else p1) &&& 31)) - (1 : Int32)), r1, v0.2.2.2)) rfl rfl (fun H locs hP hD hS => ?_)
  refine lv_aload_n hx hb dX8_open_29 rfl (lv_at hl 0 rfl) ?_
  refine va_get (D := E.1) (ci := 6) (v := .ref (a0 2)) (C := RX8) (T := TX8) (N := 4) hx hb hts w6 hown hC.1 hP 0 rfl rfl 3 (by decide) w9 (fun _ h9 => h9) rfl dX8_open_30 ?_
  refine lv_iconst (v := 0) hx hb dX8_open_33 rfl ?_
  obtain ⟨r2, e2, hf⟩ := bd_some hf
  refine cq_v hP hD hS [2] [0, 1] [0, 1, 2] (va_free (wc := (wIA E (a0 2) 5 v0.2.2.2)) hD hS hA [2] rfl) (va_runS (As := [.ref (a0 2), .int (0 : Int32)]) (rest := []) ⟨hx, hb, hml, hown, hts⟩ (c_J7_fill_53178 l E H.size (a0 2) 5 v0.2.2.2 (0 : Int32) r2 e2) (va_cwS 2 hts gX8_open_J7_fill_53178 rfl rfl rfl hdS_J7_fill_53178 ⟨Nat.le_of_ble_eq_true rfl, Nat.le_of_ble_eq_true rfl⟩) ⟨PW.blind, PW.pre hC hS (hP.sub [2] rfl) (hD.sub [2] rfl rfl) (va_free hD hS hA [2] rfl)⟩ rfl rfl hl.1 rfl (lv_room (Nat.le_of_ble_eq_true rfl)) dX8_open_34 ⟨Nat.le_of_ble_eq_true rfl, Nat.le_of_ble_eq_true rfl⟩) rfl rfl rfl rfl (wSV E a0 ((if (5 : Int32) < p1 then (5 : Int32) else p1), (((1 : Int32) <<< ((if (5 : Int32) < p1 then (5 : Int32) else p1) &&& 31)) - (1 : Int32)), r1, r2)) rfl rfl (fun H locs hP hD hS => ?_)
  cases Option.some.inj hf
  subst hQe
  exact ew_v (wf := (fun q : SV => wSV E a0 q)) hx hb hr hlocks hP hD hS dX8_open_37

/-! X8_become -/
abbrev rmX8_become : Room := { frames := 1, cells := 0, slots := 0, locals := 60 }
theorem hdS_X8_become : yX8_become.cls ≠ "java/lang/invoke/MethodHandle" ∧ yX8_become.cls ≠ "java/lang/invoke/VarHandle" ∧ (parseMethodDescriptor yX8_become.desc).map (fun d => d.parameters.length) = some 1 := by decide +kernel
theorem hdV_X8_become : yX8_become.cls = RX8 ∧ yX8_become.cls ≠ "java/lang/invoke/MethodHandle" ∧ yX8_become.cls ≠ "java/lang/invoke/VarHandle" ∧ (parseMethodDescriptor yX8_become.desc).map (fun d => d.parameters.length) = some 1 := ⟨rfl, hdS_X8_become⟩
set_option maxHeartbeats 4000000 in
set_option maxRecDepth 100000 in
theorem c_X8_become (l : Launch) (E : G0) (sz : Nat) (a0 : Nat → Nat) (v0 : SV) (a1 : Nat → Nat) (v1 : SV) (x : SV) (hf : f_X8_become v0 v1 = some x) : Met l yX8_become wsX8_become rmX8_become (va_Pc [.ref (a0 0), .ref (a1 0)] (PW E (wSV E a0 v0 ++ wSV E a1 v1) sz)) (va_Qv (fun q => q = x) (fun q t => va_P E.1 vwCl ((fun q : SV => wSV E a0 q ++ wSV E a1 v1) q) t.heap ∧ va_D (va_A (wSV E a0 v0 ++ wSV E a1 v1) sz) ((fun q : SV => wSV E a0 q ++ wSV E a1 v1) q)) (va_A (wSV E a0 v0 ++ wSV E a1 v1) sz)) 0 0 (va_A (wSV E a0 v0 ++ wSV E a1 v1) sz) := by
  refine Met.ofW (cc := cX8_become) (maxL := 2) (ret := none) (by decide) rfl ?_
  intro p e s m args below meth c s₁ B hml hv
  obtain ⟨ha, hsz, hP, hD0, hC⟩ := hv
  have hx := B.exec
  have hb := B.bytes
  have hr := B.returns
  have hts := atoms_spec (ws := wsX8_become) B.pre
  have hown : s.vm.findClass RX8 = some m.cls := findClass_of_methodNamed B.named
  have hlocks := B.notSynchronized
  subst hsz
  have hD := hD0.self (sz := s.heap.size)
  generalize hAe : va_A (wSV E a0 v0 ++ wSV E a1 v1) s.heap.size = A at hD hC ⊢
  have hA : ∀ q : Nat, s.heap.size ≤ q → A q := fun q h => by rw [← hAe]; exact Or.inr h
  have hS : va_S A s.heap s.heap [] := va_S.rf
  have w1 : (Cond.fieldLink RX8 9 "GreatChunks$Servers" "many" "I").before args s = true := hts _ (List.mem_of_getElem? (i := 1) rfl)
  have w2 : ∀ w ∈ wsX80, w ∈ wsX8_become := in_pl 9 rfl
  have w3 : (Cond.fieldLink RX8 15 "GreatChunks$Servers" "upBits" "I").before args s = true := hts _ (List.mem_of_getElem? (i := 2) rfl)
  have w4 : (Cond.fieldLink RX8 18 "GreatChunks$Servers" "room" "[I").before args s = true := hts _ (List.mem_of_getElem? (i := 3) rfl)
  have w5 : (Cond.methodLink RX8 37 arraycopyName).before args s = true := hts _ (List.mem_of_getElem? (i := 4) rfl)
  have w6 : (Cond.native arraycopyName).before args s = true := hts _ (List.mem_of_getElem? (i := 5) rfl)
  have w7 : (Cond.static arraycopyName).before args s = true := hts _ (List.mem_of_getElem? (i := 6) rfl)
  have w8 : (Cond.initialized "java/lang/System").before args s = true := hts _ (List.mem_of_getElem? (i := 7) rfl)
  have w9 : (Cond.fieldLink RX8 22 "GreatChunks$Servers" "spoilt" "[I").before args s = true := hts _ (List.mem_of_getElem? (i := 8) rfl)
  generalize hQe : MQ below (va_Qv (fun q => q = x) (fun q t => va_P E.1 vwCl ((fun q : SV => wSV E a0 q ++ wSV E a1 v1) q) t.heap ∧ va_D A ((fun q : SV => wSV E a0 q ++ wSV E a1 v1) q)) A) args s 0 0 A = Q
  refine st_W ha (Nat.le_of_ble_eq_true rfl) (fun ls hl => ?_)
  have hl : lv_has ls 2 [(0, .ref (a0 0)), (1, .ref (a1 0))] := hl
  unfold f_X8_become at hf
  refine lv_aload_n hx hb dX8_become_0 rfl (lv_at hl 0 rfl) ?_
  refine lv_aload_n hx hb dX8_become_1 rfl (lv_at hl 1 rfl) ?_
  refine va_get (D := E.1) (ci := 6) (v := .int v1.1) (C := RX8) (T := TX8) (N := 4) hx hb hts w2 hown hC.1 hP 3 rfl rfl 0 (by decide) w1 (fun _ h9 => h9) rfl dX8_become_2 ?_
  refine va_put (D := E.1) (ci := 6) (v := .int v1.1) (ty := .int) (C := RX8) (T := TX8) (N := 4) hx hb hts w2 tyX8 tyX8_ok nmX8 hown hC.1 hP hD hS 0 rfl rfl 0 (by decide) w1 (fun _ h9 => h9) rfl (by decide +kernel) rfl rfl (Nat.le_of_ble_eq_true rfl) dX8_become_5 (fun H locs hP hD hS => ?_)
  have hP : va_P E.1 vwCl (wSV E a0 (v1.1, v0.2.1, v0.2.2.1, v0.2.2.2) ++ wSV E a1 v1) H := hP
  have hD : va_D A (wSV E a0 (v1.1, v0.2.1, v0.2.2.1, v0.2.2.2) ++ wSV E a1 v1) := hD
  refine lv_aload_n hx hb dX8_become_8 rfl (lv_at hl 0 rfl) ?_
  refine lv_aload_n hx hb dX8_become_9 rfl (lv_at hl 1 rfl) ?_
  refine va_get (D := E.1) (ci := 6) (v := .int v1.2.1) (C := RX8) (T := TX8) (N := 4) hx hb hts w2 hown hC.1 hP 3 rfl rfl 1 (by decide) w3 (fun _ h9 => h9) rfl dX8_become_10 ?_
  refine va_put (D := E.1) (ci := 6) (v := .int v1.2.1) (ty := .int) (C := RX8) (T := TX8) (N := 4) hx hb hts w2 tyX8 tyX8_ok nmX8 hown hC.1 hP hD hS 0 rfl rfl 1 (by decide) w3 (fun _ h9 => h9) rfl (by decide +kernel) rfl rfl (Nat.le_of_ble_eq_true rfl) dX8_become_13 (fun H locs hP hD hS => ?_)
  have hP : va_P E.1 vwCl (wSV E a0 (v1.1, v1.2.1, v0.2.2.1, v0.2.2.2) ++ wSV E a1 v1) H := hP
  have hD : va_D A (wSV E a0 (v1.1, v1.2.1, v0.2.2.1, v0.2.2.2) ++ wSV E a1 v1) := hD
  refine lv_aload_n hx hb dX8_become_16 rfl (lv_at hl 1 rfl) ?_
  refine va_get (D := E.1) (ci := 6) (v := .ref (a1 1)) (C := RX8) (T := TX8) (N := 4) hx hb hts w2 hown hC.1 hP 3 rfl rfl 2 (by decide) w4 (fun _ h9 => h9) rfl dX8_become_17 ?_
  refine lv_iconst (v := 0) hx hb dX8_become_20 rfl ?_
  refine lv_aload_n hx hb dX8_become_21 rfl (lv_at hl 0 rfl) ?_
  refine va_get (D := E.1) (ci := 6) (v := .ref (a0 1)) (C := RX8) (T := TX8) (N := 4) hx hb hts w2 hown hC.1 hP 0 rfl rfl 2 (by decide) w4 (fun _ h9 => h9) rfl dX8_become_22 ?_
  refine lv_iconst (v := 0) hx hb dX8_become_25 rfl ?_
  refine lv_iconst (v := 5) hx hb dX8_become_26 rfl ?_
  refine va_copyi hx hb (by rw [hml]; exact hl.1.symm) hown w5 w6 w7 w8 hC.1 hP hD hS 4 1 0 0 rfl rfl rfl rfl rfl (by decide) (by decide) (by decide) (by decide) (by decide) (fun _ _ => rfl) (Nat.le_of_ble_eq_true rfl) (by decide) dX8_become_27 (fun H locs hP hD hS => ?_)
  have hP : va_P E.1 vwCl (wSV E a0 (v1.1, v1.2.1, (va_cpy v1.2.2.1 v0.2.2.1 (0 : Int32).toNatClampNeg (0 : Int32).toNatClampNeg (5 : Int32).toNatClampNeg), v0.2.2.2) ++ wSV E a1 v1) H := hP
  have hD : va_D A (wSV E a0 (v1.1, v1.2.1, (va_cpy v1.2.2.1 v0.2.2.1 (0 : Int32).toNatClampNeg (0 : Int32).toNatClampNeg (5 : Int32).toNatClampNeg), v0.2.2.2) ++ wSV E a1 v1) := hD
  refine lv_aload_n hx hb dX8_become_30 rfl (lv_at hl 1 rfl) ?_
  refine va_get (D := E.1) (ci := 6) (v := .ref (a1 2)) (C := RX8) (T := TX8) (N := 4) hx hb hts w2 hown hC.1 hP 3 rfl rfl 3 (by decide) w9 (fun _ h9 => h9) rfl dX8_become_31 ?_
  refine lv_iconst (v := 0) hx hb dX8_become_34 rfl ?_
  refine lv_aload_n hx hb dX8_become_35 rfl (lv_at hl 0 rfl) ?_
  refine va_get (D := E.1) (ci := 6) (v := .ref (a0 2)) (C := RX8) (T := TX8) (N := 4) hx hb hts w2 hown hC.1 hP 0 rfl rfl 3 (by decide) w9 (fun _ h9 => h9) rfl dX8_become_36 ?_
  refine lv_iconst (v := 0) hx hb dX8_become_39 rfl ?_
  refine lv_iconst (v := 5) hx hb dX8_become_40 rfl ?_
  refine va_copyi hx hb (by rw [hml]; exact hl.1.symm) hown w5 w6 w7 w8 hC.1 hP hD hS 5 2 0 0 rfl rfl rfl rfl rfl (by decide) (by decide) (by decide) (by decide) (by decide) (fun _ _ => rfl) (Nat.le_of_ble_eq_true rfl) (by decide) dX8_become_41 (fun H locs hP hD hS => ?_)
  have hP : va_P E.1 vwCl (wSV E a0 (v1.1, v1.2.1, (va_cpy v1.2.2.1 v0.2.2.1 (0 : Int32).toNatClampNeg (0 : Int32).toNatClampNeg (5 : Int32).toNatClampNeg), (va_cpy v1.2.2.2 v0.2.2.2 (0 : Int32).toNatClampNeg (0 : Int32).toNatClampNeg (5 : Int32).toNatClampNeg)) ++ wSV E a1 v1) H := hP
  have hD : va_D A (wSV E a0 (v1.1, v1.2.1, (va_cpy v1.2.2.1 v0.2.2.1 (0 : Int32).toNatClampNeg (0 : Int32).toNatClampNeg (5 : Int32).toNatClampNeg), (va_cpy v1.2.2.2 v0.2.2.2 (0 : Int32).toNatClampNeg (0 : Int32).toNatClampNeg (5 : Int32).toNatClampNeg)) ++ wSV E a1 v1) := hD
  cases Option.some.inj hf
  subst hQe
  exact ew_v (wf := (fun q : SV => wSV E a0 q ++ wSV E a1 v1)) hx hb hr hlocks hP hD hS dX8_become_44

/-! X8_has -/
abbrev rmX8_has : Room := { frames := 0, cells := 0, slots := 0, locals := 0 }
theorem hdS_X8_has : yX8_has.cls ≠ "java/lang/invoke/MethodHandle" ∧ yX8_has.cls ≠ "java/lang/invoke/VarHandle" ∧ (parseMethodDescriptor yX8_has.desc).map (fun d => d.parameters.length) = some 1 := by decide +kernel
theorem hdV_X8_has : yX8_has.cls = RX8 ∧ yX8_has.cls ≠ "java/lang/invoke/MethodHandle" ∧ yX8_has.cls ≠ "java/lang/invoke/VarHandle" ∧ (parseMethodDescriptor yX8_has.desc).map (fun d => d.parameters.length) = some 1 := ⟨rfl, hdS_X8_has⟩
set_option maxHeartbeats 4000000 in
set_option maxRecDepth 100000 in
theorem c_X8_has (l : Launch) (E : G0) (a0 : Nat → Nat) (v0 : SV) (p1 : Int32) (x : Bool) (hf : f_X8_has v0 p1 = x) : Met l yX8_has wsX8_has rmX8_has (va_Pc [.ref (a0 0), .int p1] (PR E (wSV E a0 v0))) (vp_Si (fun r => r = bI x)) 0 0 (fun _ => False) := by
  refine Met.ofW (cc := cX8_has) (maxL := 2) (ret := some .boolean) (by decide) rfl ?_
  intro p e s m args below meth c s₁ B hml hv
  obtain ⟨ha, hP, hC⟩ := hv
  have hx := B.exec
  have hb := B.bytes
  have hr := B.returns
  have hts := atoms_spec (ws := wsX8_has) B.pre
  have hown : s.vm.findClass RX8 = some m.cls := findClass_of_methodNamed B.named
  have hlocks := B.notSynchronized
  have hS : va_S (fun _ => False) s.heap s.heap [] := va_S.rf
  have w1 : (Cond.fieldLink RX8 9 "GreatChunks$Servers" "many" "I").before args s = true := hts _ (List.mem_of_getElem? (i := 1) rfl)
  have w2 : ∀ w ∈ wsX80, w ∈ wsX8_has := in_pl 2 rfl
  generalize hQe : MQ below (vp_Si (fun r => r = bI x)) args s 0 0 (fun _ => False) = Q
  refine st_W ha (Nat.le_of_ble_eq_true rfl) (fun ls hl => ?_)
  have hl : lv_has ls 2 [(0, .ref (a0 0)), (1, .int p1)] := hl
  unfold f_X8_has at hf
  refine lv_iload_n hx hb dX8_has_0 rfl (lv_at hl 1 rfl) ?_
  refine lv_if_lt (tgt := 16) hx hb dX8_has_1 rfl (fun c1 => ?_) (fun c1 => ?_)
  · have hf := it_t hf c1
    refine lv_iconst (v := 0) hx hb dX8_has_16 rfl ?_
    subst hf
    subst hQe
    exact en_z hx hb hr hlocks rfl dX8_has_17
  · have hf := it_f hf c1
    refine lv_iload_n hx hb dX8_has_4 rfl (lv_at hl 1 rfl) ?_
    refine lv_aload_n hx hb dX8_has_5 rfl (lv_at hl 0 rfl) ?_
    refine va_get (D := E.1) (ci := 6) (v := .int v0.1) (C := RX8) (T := TX8) (N := 4) hx hb hts w2 hown hC.1 hP 0 rfl rfl 0 (by decide) w1 (fun _ h9 => h9) rfl dX8_has_6 ?_
    refine lv_icmp_ge (tgt := 16) hx hb dX8_has_9 rfl (fun c2 => ?_) (fun c2 => ?_)
    · have hf := it_t hf c2
      refine lv_iconst (v := 0) hx hb dX8_has_16 rfl ?_
      subst hf
      subst hQe
      exact en_z hx hb hr hlocks rfl dX8_has_17
    · have hf := it_f hf c2
      refine lv_iconst (v := 1) hx hb dX8_has_12 rfl ?_
      refine lv_goto (tgt := 17) hx hb dX8_has_13 rfl ?_
      subst hf
      subst hQe
      exact en_z hx hb hr hlocks rfl dX8_has_17

/-! X8_hasUp -/
abbrev rmX8_hasUp : Room := { frames := 1, cells := 0, slots := 0, locals := 21 }
theorem hdS_X8_hasUp : yX8_hasUp.cls ≠ "java/lang/invoke/MethodHandle" ∧ yX8_hasUp.cls ≠ "java/lang/invoke/VarHandle" ∧ (parseMethodDescriptor yX8_hasUp.desc).map (fun d => d.parameters.length) = some 1 := by decide +kernel
theorem hdV_X8_hasUp : yX8_hasUp.cls = RX8 ∧ yX8_hasUp.cls ≠ "java/lang/invoke/MethodHandle" ∧ yX8_hasUp.cls ≠ "java/lang/invoke/VarHandle" ∧ (parseMethodDescriptor yX8_hasUp.desc).map (fun d => d.parameters.length) = some 1 := ⟨rfl, hdS_X8_hasUp⟩
set_option maxHeartbeats 4000000 in
set_option maxRecDepth 100000 in
theorem c_X8_hasUp (l : Launch) (E : G0) (a0 : Nat → Nat) (v0 : SV) (p1 : Int32) (x : Bool) (hf : f_X8_hasUp v0 p1 = x) : Met l yX8_hasUp wsX8_hasUp rmX8_hasUp (va_Pc [.ref (a0 0), .int p1] (PR E (wSV E a0 v0))) (vp_Si (fun r => r = bI x)) 0 0 (fun _ => False) := by
  refine Met.ofW (cc := cX8_hasUp) (maxL := 2) (ret := some .boolean) (by decide) rfl ?_
  intro p e s m args below meth c s₁ B hml hv
  obtain ⟨ha, hP, hC⟩ := hv
  have hx := B.exec
  have hb := B.bytes
  have hr := B.returns
  have hts := atoms_spec (ws := wsX8_hasUp) B.pre
  have hown : s.vm.findClass RX8 = some m.cls := findClass_of_methodNamed B.named
  have hlocks := B.notSynchronized
  have hS : va_S (fun _ => False) s.heap s.heap [] := va_S.rf
  have w1 : (Cond.fieldLink RX8 15 "GreatChunks$Servers" "upBits" "I").before args s = true := hts _ (List.mem_of_getElem? (i := 1) rfl)
  have w2 : ∀ w ∈ wsX80, w ∈ wsX8_hasUp := in_pl 11 rfl
  have w3 : (Cond.initialized RX10).before args s = true := hts _ (List.mem_of_getElem? (i := 9) rfl)
  have w4 : (Cond.static yX10_isIn).before args s = true := hts _ (List.mem_of_getElem? (i := 8) rfl)
  generalize hQe : MQ below (vp_Si (fun r => r = bI x)) args s 0 0 (fun _ => False) = Q
  refine st_W ha (Nat.le_of_ble_eq_true rfl) (fun ls hl => ?_)
  have hl : lv_has ls 2 [(0, .ref (a0 0)), (1, .int p1)] := hl
  unfold f_X8_hasUp at hf
  refine lv_aload_n hx hb dX8_hasUp_0 rfl (lv_at hl 0 rfl) ?_
  refine lv_iload_n hx hb dX8_hasUp_1 rfl (lv_at hl 1 rfl) ?_
  refine cr_i (va_runV (As := [.int p1]) (rest := []) ⟨hx, hb, hml, hown, hts⟩ (c_X8_has l E a0 v0 p1 _ rfl) (cwV 1 hts gX8_hasUp_X8_has rfl rfl rfl hdV_X8_has ⟨Nat.le_of_ble_eq_true rfl, Nat.le_of_ble_eq_true rfl⟩) ⟨PR.blind, va_recv hC.1 hP (ci := 6) (q0 := 0) rfl rfl, PR.pre hC hS hP⟩ rfl rfl hl.1 rfl (lv_room (Nat.le_of_ble_eq_true rfl)) dX8_hasUp_2 ⟨Nat.le_of_ble_eq_true rfl, Nat.le_of_ble_eq_true rfl⟩) ?_
  refine lv_if_eq (tgt := 23) hx hb dX8_hasUp_5 rfl (fun c1 => ?_) (fun c1 => ?_)
  · have hf := it_t hf c1
    refine lv_iconst (v := 0) hx hb dX8_hasUp_23 rfl ?_
    subst hf
    subst hQe
    exact en_z hx hb hr hlocks rfl dX8_hasUp_24
  · have hf := it_f hf c1
    refine lv_aload_n hx hb dX8_hasUp_8 rfl (lv_at hl 0 rfl) ?_
    refine va_get (D := E.1) (ci := 6) (v := .int v0.2.1) (C := RX8) (T := TX8) (N := 4) hx hb hts w2 hown hC.1 hP 0 rfl rfl 1 (by decide) w1 (fun _ h9 => h9) rfl dX8_hasUp_9 ?_
    refine lv_iload_n hx hb dX8_hasUp_12 rfl (lv_at hl 1 rfl) ?_
    refine cr_i (va_runSN (As := [.int v0.2.1, .int p1]) (rest := []) ⟨hx, hb, hml, hown, hts⟩ (c_X10_isIn l E v0.2.1 p1 _ rfl) ⟨va_cnB 2 hts gX8_hasUp_X10_isIn_n47 rfl rfl rfl (hC.2.1 (RX8, 47, yX10_isIn, RX10) (List.mem_of_getElem? (i := 14) rfl)) w3 hdS_X10_isIn ⟨Nat.le_of_ble_eq_true rfl, Nat.le_of_ble_eq_true rfl⟩, w4, trivial⟩ ⟨PR.blind, PR.pre hC hS (hP.sub [] rfl)⟩ rfl rfl hl.1 rfl (lv_room (Nat.le_of_ble_eq_true rfl)) dX8_hasUp_13 ⟨Nat.le_of_ble_eq_true rfl, Nat.le_of_ble_eq_true rfl⟩) ?_
    refine lv_if_eq (tgt := 23) hx hb dX8_hasUp_16 rfl (fun c2 => ?_) (fun c2 => ?_)
    · have hf := it_t hf c2
      refine lv_iconst (v := 0) hx hb dX8_hasUp_23 rfl ?_
      subst hf
      subst hQe
      exact en_z hx hb hr hlocks rfl dX8_hasUp_24
    · have hf := it_f hf c2
      refine lv_iconst (v := 1) hx hb dX8_hasUp_19 rfl ?_
      refine lv_goto (tgt := 24) hx hb dX8_hasUp_20 rfl ?_
      subst hf
      subst hQe
      exact en_z hx hb hr hlocks rfl dX8_hasUp_24

/-! X8_turn -/
abbrev rmX8_turn : Room := { frames := 1, cells := 0, slots := 0, locals := 21 }
theorem hdS_X8_turn : yX8_turn.cls ≠ "java/lang/invoke/MethodHandle" ∧ yX8_turn.cls ≠ "java/lang/invoke/VarHandle" ∧ (parseMethodDescriptor yX8_turn.desc).map (fun d => d.parameters.length) = some 2 := by decide +kernel
theorem hdV_X8_turn : yX8_turn.cls = RX8 ∧ yX8_turn.cls ≠ "java/lang/invoke/MethodHandle" ∧ yX8_turn.cls ≠ "java/lang/invoke/VarHandle" ∧ (parseMethodDescriptor yX8_turn.desc).map (fun d => d.parameters.length) = some 2 := ⟨rfl, hdS_X8_turn⟩
set_option maxHeartbeats 4000000 in
set_option maxRecDepth 100000 in
theorem c_X8_turn (l : Launch) (E : G0) (sz : Nat) (a0 : Nat → Nat) (v0 : SV) (p1 : Int32) (p2 : Int32) (x : SV) (hf : f_X8_turn v0 p1 p2 = some x) : Met l yX8_turn wsX8_turn rmX8_turn (va_Pc [.ref (a0 0), .int p1, .int p2] (PW E (wSV E a0 v0) sz)) (va_Qv (fun q => q = x) (fun q t => va_P E.1 vwCl ((fun q : SV => wSV E a0 q) q) t.heap ∧ va_D (va_A (wSV E a0 v0) sz) ((fun q : SV => wSV E a0 q) q)) (va_A (wSV E a0 v0) sz)) 0 0 (va_A (wSV E a0 v0) sz) := by
  refine Met.ofW (cc := cX8_turn) (maxL := 4) (ret := none) (by decide) rfl ?_
  intro p e s m args below meth c s₁ B hml hv
  obtain ⟨ha, hsz, hP, hD0, hC⟩ := hv
  have hx := B.exec
  have hb := B.bytes
  have hr := B.returns
  have hts := atoms_spec (ws := wsX8_turn) B.pre
  have hown : s.vm.findClass RX8 = some m.cls := findClass_of_methodNamed B.named
  have hlocks := B.notSynchronized
  subst hsz
  have hD := hD0.self (sz := s.heap.size)
  generalize hAe : va_A (wSV E a0 v0) s.heap.size = A at hD hC ⊢
  have hA : ∀ q : Nat, s.heap.size ≤ q → A q := fun q h => by rw [← hAe]; exact Or.inr h
  have hS : va_S A s.heap s.heap [] := va_S.rf
  have w1 : (Cond.fieldLink RX8 15 "GreatChunks$Servers" "upBits" "I").before args s = true := hts _ (List.mem_of_getElem? (i := 1) rfl)
  have w2 : ∀ w ∈ wsX80, w ∈ wsX8_turn := in_pl 8 rfl
  generalize hQe : MQ below (va_Qv (fun q => q = x) (fun q t => va_P E.1 vwCl ((fun q : SV => wSV E a0 q) q) t.heap ∧ va_D A ((fun q : SV => wSV E a0 q) q)) A) args s 0 0 A = Q
  refine st_W ha (Nat.le_of_ble_eq_true rfl) (fun ls hl => ?_)
  have hl : lv_has ls 4 [(0, .ref (a0 0)), (1, .int p1), (2, .int p2)] := hl
  unfold f_X8_turn at hf
  refine lv_aload_n hx hb dX8_turn_0 rfl (lv_at hl 0 rfl) ?_
  refine lv_iload_n hx hb dX8_turn_1 rfl (lv_at hl 1 rfl) ?_
  refine cr_i (va_runV (As := [.int p1]) (rest := []) ⟨hx, hb, hml, hown, hts⟩ (c_X8_has l E a0 v0 p1 _ rfl) (cwV 1 hts gX8_turn_X8_has rfl rfl rfl hdV_X8_has ⟨Nat.le_of_ble_eq_true rfl, Nat.le_of_ble_eq_true rfl⟩) ⟨PR.blind, va_recv hC.1 hP (ci := 6) (q0 := 0) rfl rfl, PR.pre hC hS hP⟩ rfl rfl hl.1 rfl (lv_room (Nat.le_of_ble_eq_true rfl)) dX8_turn_2 ⟨Nat.le_of_ble_eq_true rfl, Nat.le_of_ble_eq_true rfl⟩) ?_
  refine lv_if_eq (tgt := 37) hx hb dX8_turn_5 rfl (fun c1 => ?_) (fun c1 => ?_)
  · have hf := it_t hf c1
    cases Option.some.inj hf
    subst hQe
    exact ew_v (wf := (fun q : SV => wSV E a0 q)) hx hb hr hlocks hP hD hS dX8_turn_37
  · have hf := it_f hf c1
    refine lv_iconst (v := 1) hx hb dX8_turn_8 rfl ?_
    refine lv_iload_n hx hb dX8_turn_9 rfl (lv_at hl 1 rfl) ?_
    refine lv_ishl hx hb dX8_turn_10 ?_
    refine lv_istore_n (lv' := [(3, .int ((1 : Int32) <<< (p1 &&& 31))), (0, .ref (a0 0)), (1, .int p1), (2, .int p2)]) hx hb dX8_turn_11 rfl hl (by decide) rfl (fun ls hl => ?_)
    refine lv_aload_n hx hb dX8_turn_12 rfl (lv_at hl 1 rfl) ?_
    refine lv_iload_n hx hb dX8_turn_13 rfl (lv_at hl 3 rfl) ?_
    obtain ⟨q2, e2, hf⟩ := bt_eq hf
    have J2 : W p l e (headSpec wsX8_turn rmX8_turn).room s m args below meth c s.heap [] 0 0 Q (F0 m 34 ls [.int q2, .ref (a0 0)]) := by
      refine va_put (D := E.1) (ci := 6) (v := .int q2) (ty := .int) (C := RX8) (T := TX8) (N := 4) hx hb hts w2 tyX8 tyX8_ok nmX8 hown hC.1 hP hD hS 0 rfl rfl 1 (by decide) w1 (fun _ h9 => h9) rfl (by decide +kernel) rfl rfl (Nat.le_of_ble_eq_true rfl) dX8_turn_34 (fun H locs hP hD hS => ?_)
      have hP : va_P E.1 vwCl (wSV E a0 (v0.1, q2, v0.2.2.1, v0.2.2.2)) H := hP
      have hD : va_D A (wSV E a0 (v0.1, q2, v0.2.2.1, v0.2.2.2)) := hD
      cases Option.some.inj hf
      subst hQe
      exact ew_v (wf := (fun q : SV => wSV E a0 q)) hx hb hr hlocks hP hD hS dX8_turn_37
    have hf := e2
    refine lv_if_eq (tgt := 26) hx hb dX8_turn_14 rfl (fun c3 => ?_) (fun c3 => ?_)
    · have hf := it_t hf c3
      refine lv_aload_n hx hb dX8_turn_26 rfl (lv_at hl 1 rfl) ?_
      refine va_get (D := E.1) (ci := 6) (v := .int v0.2.1) (C := RX8) (T := TX8) (N := 4) hx hb hts w2 hown hC.1 hP 0 rfl rfl 1 (by decide) w1 (fun _ h9 => h9) rfl dX8_turn_27 ?_
      refine lv_iload_n hx hb dX8_turn_30 rfl (lv_at hl 0 rfl) ?_
      refine lv_iconst (v := (-1)) hx hb dX8_turn_31 rfl ?_
      refine lv_ixor hx hb dX8_turn_32 ?_
      refine lv_iand hx hb dX8_turn_33 ?_
      cases hf
      exact J2
    · have hf := it_f hf c3
      refine lv_aload_n hx hb dX8_turn_17 rfl (lv_at hl 1 rfl) ?_
      refine va_get (D := E.1) (ci := 6) (v := .int v0.2.1) (C := RX8) (T := TX8) (N := 4) hx hb hts w2 hown hC.1 hP 0 rfl rfl 1 (by decide) w1 (fun _ h9 => h9) rfl dX8_turn_18 ?_
      refine lv_iload_n hx hb dX8_turn_21 rfl (lv_at hl 0 rfl) ?_
      refine lv_ior hx hb dX8_turn_22 ?_
      refine lv_goto (tgt := 34) hx hb dX8_turn_23 rfl ?_
      cases hf
      exact J2

/-! X8_roomOf -/
abbrev rmX8_roomOf : Room := { frames := 0, cells := 0, slots := 0, locals := 0 }
theorem hdS_X8_roomOf : yX8_roomOf.cls ≠ "java/lang/invoke/MethodHandle" ∧ yX8_roomOf.cls ≠ "java/lang/invoke/VarHandle" ∧ (parseMethodDescriptor yX8_roomOf.desc).map (fun d => d.parameters.length) = some 1 := by decide +kernel
theorem hdV_X8_roomOf : yX8_roomOf.cls = RX8 ∧ yX8_roomOf.cls ≠ "java/lang/invoke/MethodHandle" ∧ yX8_roomOf.cls ≠ "java/lang/invoke/VarHandle" ∧ (parseMethodDescriptor yX8_roomOf.desc).map (fun d => d.parameters.length) = some 1 := ⟨rfl, hdS_X8_roomOf⟩
set_option maxHeartbeats 4000000 in
set_option maxRecDepth 100000 in
theorem c_X8_roomOf (l : Launch) (E : G0) (a0 : Nat → Nat) (v0 : SV) (p1 : Int32) (x : Int32) (hf : f_X8_roomOf v0 p1 = some x) : Met l yX8_roomOf wsX8_roomOf rmX8_roomOf (va_Pc [.ref (a0 0), .int p1] (PR E (wSV E a0 v0))) (vp_Si (fun r => r = x)) 0 0 (fun _ => False) := by
  refine Met.ofW (cc := cX8_roomOf) (maxL := 2) (ret := some .int) (by decide) rfl ?_
  intro p e s m args below meth c s₁ B hml hv
  obtain ⟨ha, hP, hC⟩ := hv
  have hx := B.exec
  have hb := B.bytes
  have hr := B.returns
  have hts := atoms_spec (ws := wsX8_roomOf) B.pre
  have hown : s.vm.findClass RX8 = some m.cls := findClass_of_methodNamed B.named
  have hlocks := B.notSynchronized
  have hS : va_S (fun _ => False) s.heap s.heap [] := va_S.rf
  have w1 : (Cond.fieldLink RX8 9 "GreatChunks$Servers" "many" "I").before args s = true := hts _ (List.mem_of_getElem? (i := 1) rfl)
  have w2 : ∀ w ∈ wsX80, w ∈ wsX8_roomOf := in_pl 3 rfl
  have w3 : (Cond.fieldLink RX8 18 "GreatChunks$Servers" "room" "[I").before args s = true := hts _ (List.mem_of_getElem? (i := 2) rfl)
  generalize hQe : MQ below (vp_Si (fun r => r = x)) args s 0 0 (fun _ => False) = Q
  refine st_W ha (Nat.le_of_ble_eq_true rfl) (fun ls hl => ?_)
  have hl : lv_has ls 2 [(0, .ref (a0 0)), (1, .int p1)] := hl
  unfold f_X8_roomOf at hf
  refine lv_iload_n hx hb dX8_roomOf_0 rfl (lv_at hl 1 rfl) ?_
  refine lv_if_lt (tgt := 21) hx hb dX8_roomOf_1 rfl (fun c1 => ?_) (fun c1 => ?_)
  · have hf := it_t hf c1
    refine lv_iconst (v := 1) hx hb dX8_roomOf_21 rfl ?_
    cases Option.some.inj hf
    subst hQe
    exact en_i hx hb hr hlocks dX8_roomOf_22
  · have hf := it_f hf c1
    refine lv_iload_n hx hb dX8_roomOf_4 rfl (lv_at hl 1 rfl) ?_
    refine lv_aload_n hx hb dX8_roomOf_5 rfl (lv_at hl 0 rfl) ?_
    refine va_get (D := E.1) (ci := 6) (v := .int v0.1) (C := RX8) (T := TX8) (N := 4) hx hb hts w2 hown hC.1 hP 0 rfl rfl 0 (by decide) w1 (fun _ h9 => h9) rfl dX8_roomOf_6 ?_
    refine lv_icmp_ge (tgt := 21) hx hb dX8_roomOf_9 rfl (fun c2 => ?_) (fun c2 => ?_)
    · have hf := it_t hf c2
      refine lv_iconst (v := 1) hx hb dX8_roomOf_21 rfl ?_
      cases Option.some.inj hf
      subst hQe
      exact en_i hx hb hr hlocks dX8_roomOf_22
    · have hf := it_f hf c2
      refine lv_aload_n hx hb dX8_roomOf_12 rfl (lv_at hl 0 rfl) ?_
      refine va_get (D := E.1) (ci := 6) (v := .ref (a0 1)) (C := RX8) (T := TX8) (N := 4) hx hb hts w2 hown hC.1 hP 0 rfl rfl 2 (by decide) w3 (fun _ h9 => h9) rfl dX8_roomOf_13 ?_
      refine lv_iload_n hx hb dX8_roomOf_16 rfl (lv_at hl 1 rfl) ?_
      obtain ⟨h3, hf⟩ := gdI_some hf
      refine va_iald hx hb hC.1 hP 1 0 rfl rfl h3 dX8_roomOf_17 ?_
      refine lv_goto (tgt := 22) hx hb dX8_roomOf_18 rfl ?_
      cases Option.some.inj hf
      subst hQe
      exact en_i hx hb hr hlocks dX8_roomOf_22

/-! X8_manyUp -/
abbrev rmX8_manyUp : Room := { frames := 1, cells := 0, slots := 0, locals := 20 }
theorem hdS_X8_manyUp : yX8_manyUp.cls ≠ "java/lang/invoke/MethodHandle" ∧ yX8_manyUp.cls ≠ "java/lang/invoke/VarHandle" ∧ (parseMethodDescriptor yX8_manyUp.desc).map (fun d => d.parameters.length) = some 0 := by decide +kernel
theorem hdV_X8_manyUp : yX8_manyUp.cls = RX8 ∧ yX8_manyUp.cls ≠ "java/lang/invoke/MethodHandle" ∧ yX8_manyUp.cls ≠ "java/lang/invoke/VarHandle" ∧ (parseMethodDescriptor yX8_manyUp.desc).map (fun d => d.parameters.length) = some 0 := ⟨rfl, hdS_X8_manyUp⟩
set_option maxHeartbeats 4000000 in
set_option maxRecDepth 100000 in
theorem c_X8_manyUp (l : Launch) (E : G0) (a0 : Nat → Nat) (v0 : SV) (x : Int32) (hf : f_X8_manyUp v0 = x) : Met l yX8_manyUp wsX8_manyUp rmX8_manyUp (va_Pc [.ref (a0 0)] (PR E (wSV E a0 v0))) (vp_Si (fun r => r = x)) 0 0 (fun _ => False) := by
  refine Met.ofW (cc := cX8_manyUp) (maxL := 1) (ret := some .int) (by decide) rfl ?_
  intro p e s m args below meth c s₁ B hml hv
  obtain ⟨ha, hP, hC⟩ := hv
  have hx := B.exec
  have hb := B.bytes
  have hr := B.returns
  have hts := atoms_spec (ws := wsX8_manyUp) B.pre
  have hown : s.vm.findClass RX8 = some m.cls := findClass_of_methodNamed B.named
  have hlocks := B.notSynchronized
  have hS : va_S (fun _ => False) s.heap s.heap [] := va_S.rf
  have w1 : (Cond.fieldLink RX8 15 "GreatChunks$Servers" "upBits" "I").before args s = true := hts _ (List.mem_of_getElem? (i := 1) rfl)
  have w2 : ∀ w ∈ wsX80, w ∈ wsX8_manyUp := in_pl 9 rfl
  generalize hQe : MQ below (vp_Si (fun r => r = x)) args s 0 0 (fun _ => False) = Q
  refine st_W ha (Nat.le_of_ble_eq_true rfl) (fun ls hl => ?_)
  have hl : lv_has ls 1 [(0, .ref (a0 0))] := hl
  unfold f_X8_manyUp at hf
  refine lv_aload_n hx hb dX8_manyUp_0 rfl (lv_at hl 0 rfl) ?_
  refine va_get (D := E.1) (ci := 6) (v := .int v0.2.1) (C := RX8) (T := TX8) (N := 4) hx hb hts w2 hown hC.1 hP 0 rfl rfl 1 (by decide) w1 (fun _ h9 => h9) rfl dX8_manyUp_1 ?_
  refine cr_i (va_runS (As := [.int v0.2.1]) (rest := []) ⟨hx, hb, hml, hown, hts⟩ (c_J6_bitCount_0f7a4 l E v0.2.1 _ rfl) (va_cwS 1 hts gX8_manyUp_J6_bitCount_0f7a4 rfl rfl rfl hdS_J6_bitCount_0f7a4 ⟨Nat.le_of_ble_eq_true rfl, Nat.le_of_ble_eq_true rfl⟩) ⟨PR.blind, PR.pre hC hS (hP.sub [] rfl)⟩ rfl rfl hl.1 rfl (lv_room (Nat.le_of_ble_eq_true rfl)) dX8_manyUp_4 ⟨Nat.le_of_ble_eq_true rfl, Nat.le_of_ble_eq_true rfl⟩) ?_
  subst hf
  subst hQe
  exact en_i hx hb hr hlocks dX8_manyUp_7

/-! X8_failsNow -/
abbrev rmX8_failsNow : Room := { frames := 1, cells := 0, slots := 0, locals := 21 }
theorem hdS_X8_failsNow : yX8_failsNow.cls ≠ "java/lang/invoke/MethodHandle" ∧ yX8_failsNow.cls ≠ "java/lang/invoke/VarHandle" ∧ (parseMethodDescriptor yX8_failsNow.desc).map (fun d => d.parameters.length) = some 1 := by decide +kernel
theorem hdV_X8_failsNow : yX8_failsNow.cls = RX8 ∧ yX8_failsNow.cls ≠ "java/lang/invoke/MethodHandle" ∧ yX8_failsNow.cls ≠ "java/lang/invoke/VarHandle" ∧ (parseMethodDescriptor yX8_failsNow.desc).map (fun d => d.parameters.length) = some 1 := ⟨rfl, hdS_X8_failsNow⟩
set_option maxHeartbeats 4000000 in
set_option maxRecDepth 100000 in
theorem c_X8_failsNow (l : Launch) (E : G0) (sz : Nat) (a0 : Nat → Nat) (v0 : SV) (p1 : Int32) (x : Bool × SV) (hf : f_X8_failsNow v0 p1 = some x) : Met l yX8_failsNow wsX8_failsNow rmX8_failsNow (va_Pc [.ref (a0 0), .int p1] (PW E (wSV E a0 v0) sz)) (va_Qi (fun r q => r = bI x.1 ∧ q = x.2) (fun q t => va_P E.1 vwCl ((fun q : SV => wSV E a0 q) q) t.heap ∧ va_D (va_A (wSV E a0 v0) sz) ((fun q : SV => wSV E a0 q) q)) (va_A (wSV E a0 v0) sz)) 0 0 (va_A (wSV E a0 v0) sz) := by
  refine Met.ofW (cc := cX8_failsNow) (maxL := 2) (ret := some .boolean) (by decide) rfl ?_
  intro p e s m args below meth c s₁ B hml hv
  obtain ⟨ha, hsz, hP, hD0, hC⟩ := hv
  have hx := B.exec
  have hb := B.bytes
  have hr := B.returns
  have hts := atoms_spec (ws := wsX8_failsNow) B.pre
  have hown : s.vm.findClass RX8 = some m.cls := findClass_of_methodNamed B.named
  have hlocks := B.notSynchronized
  subst hsz
  have hD := hD0.self (sz := s.heap.size)
  generalize hAe : va_A (wSV E a0 v0) s.heap.size = A at hD hC ⊢
  have hA : ∀ q : Nat, s.heap.size ≤ q → A q := fun q h => by rw [← hAe]; exact Or.inr h
  have hS : va_S A s.heap s.heap [] := va_S.rf
  have w1 : (Cond.fieldLink RX8 22 "GreatChunks$Servers" "spoilt" "[I").before args s = true := hts _ (List.mem_of_getElem? (i := 1) rfl)
  have w2 : ∀ w ∈ wsX80, w ∈ wsX8_failsNow := in_pl 8 rfl
  generalize hQe : MQ below (va_Qi (fun r q => r = bI x.1 ∧ q = x.2) (fun q t => va_P E.1 vwCl ((fun q : SV => wSV E a0 q) q) t.heap ∧ va_D A ((fun q : SV => wSV E a0 q) q)) A) args s 0 0 A = Q
  refine st_W ha (Nat.le_of_ble_eq_true rfl) (fun ls hl => ?_)
  have hl : lv_has ls 2 [(0, .ref (a0 0)), (1, .int p1)] := hl
  unfold f_X8_failsNow at hf
  refine lv_aload_n hx hb dX8_failsNow_0 rfl (lv_at hl 0 rfl) ?_
  refine lv_iload_n hx hb dX8_failsNow_1 rfl (lv_at hl 1 rfl) ?_
  refine cr_i (va_runV (As := [.int p1]) (rest := []) ⟨hx, hb, hml, hown, hts⟩ (c_X8_has l E a0 v0 p1 _ rfl) (cwV 1 hts gX8_failsNow_X8_has rfl rfl rfl hdV_X8_has ⟨Nat.le_of_ble_eq_true rfl, Nat.le_of_ble_eq_true rfl⟩) ⟨PR.blind, va_recv hC.1 hP (ci := 6) (q0 := 0) rfl rfl, PR.pre hC hS hP⟩ rfl rfl hl.1 rfl (lv_room (Nat.le_of_ble_eq_true rfl)) dX8_failsNow_2 ⟨Nat.le_of_ble_eq_true rfl, Nat.le_of_ble_eq_true rfl⟩) ?_
  refine lv_if_eq (tgt := 18) hx hb dX8_failsNow_5 rfl (fun c1 => ?_) (fun c1 => ?_)
  · have hf := it_t hf c1
    refine lv_iconst (v := 0) hx hb dX8_failsNow_18 rfl ?_
    cases Option.some.inj hf
    subst hQe
    exact ew_z (wf := (fun q : SV => wSV E a0 q)) hx hb hr hlocks rfl hP hD hS dX8_failsNow_19
  · have hf := it_f hf c1
    refine lv_aload_n hx hb dX8_failsNow_8 rfl (lv_at hl 0 rfl) ?_
    refine va_get (D := E.1) (ci := 6) (v := .ref (a0 2)) (C := RX8) (T := TX8) (N := 4) hx hb hts w2 hown hC.1 hP 0 rfl rfl 3 (by decide) w1 (fun _ h9 => h9) rfl dX8_failsNow_9 ?_
    refine lv_iload_n hx hb dX8_failsNow_12 rfl (lv_at hl 1 rfl) ?_
    obtain ⟨h2, hf⟩ := gdI_some hf
    refine va_iald hx hb hC.1 hP 2 0 rfl rfl h2 dX8_failsNow_13 ?_
    refine lv_iconst (v := 1) hx hb dX8_failsNow_14 rfl ?_
    refine lv_icmp_ge (tgt := 20) hx hb dX8_failsNow_15 rfl (fun c3 => ?_) (fun c3 => ?_)
    · have hf := it_t hf c3
      refine lv_aload_n hx hb dX8_failsNow_20 rfl (lv_at hl 0 rfl) ?_
      refine va_get (D := E.1) (ci := 6) (v := .ref (a0 2)) (C := RX8) (T := TX8) (N := 4) hx hb hts w2 hown hC.1 hP 0 rfl rfl 3 (by decide) w1 (fun _ h9 => h9) rfl dX8_failsNow_21 ?_
      refine lv_iload_n hx hb dX8_failsNow_24 rfl (lv_at hl 1 rfl) ?_
      refine lv_dup2_11 hx hb dX8_failsNow_25 rfl rfl ?_
      obtain ⟨h4, hf⟩ := gdI_some hf
      refine va_iald hx hb hC.1 hP 2 0 rfl rfl h4 dX8_failsNow_26 ?_
      refine lv_iconst (v := 1) hx hb dX8_failsNow_27 rfl ?_
      refine lv_isub hx hb dX8_failsNow_28 ?_
      obtain ⟨h5, hf⟩ := gdI_some hf
      refine va_iast hx hb hC.1 hP hD hS 2 0 rfl rfl h5 dX8_failsNow_29 (fun H locs hP hD hS => ?_)
      have hP : va_P E.1 vwCl (wSV E a0 (v0.1, v0.2.1, v0.2.2.1, (upd v0.2.2.2 p1.toNatClampNeg ((v0.2.2.2 p1.toNatClampNeg) - (1 : Int32))))) H := hP
      have hD : va_D A (wSV E a0 (v0.1, v0.2.1, v0.2.2.1, (upd v0.2.2.2 p1.toNatClampNeg ((v0.2.2.2 p1.toNatClampNeg) - (1 : Int32))))) := hD
      refine lv_iconst (v := 1) hx hb dX8_failsNow_30 rfl ?_
      cases Option.some.inj hf
      subst hQe
      exact ew_z (wf := (fun q : SV => wSV E a0 q)) hx hb hr hlocks rfl hP hD hS dX8_failsNow_31
    · have hf := it_f hf c3
      refine lv_iconst (v := 0) hx hb dX8_failsNow_18 rfl ?_
      cases Option.some.inj hf
      subst hQe
      exact ew_z (wf := (fun q : SV => wSV E a0 q)) hx hb hr hlocks rfl hP hD hS dX8_failsNow_19

/-! X8_spoilMore -/
abbrev rmX8_spoilMore : Room := { frames := 1, cells := 0, slots := 0, locals := 21 }
theorem hdS_X8_spoilMore : yX8_spoilMore.cls ≠ "java/lang/invoke/MethodHandle" ∧ yX8_spoilMore.cls ≠ "java/lang/invoke/VarHandle" ∧ (parseMethodDescriptor yX8_spoilMore.desc).map (fun d => d.parameters.length) = some 1 := by decide +kernel
theorem hdV_X8_spoilMore : yX8_spoilMore.cls = RX8 ∧ yX8_spoilMore.cls ≠ "java/lang/invoke/MethodHandle" ∧ yX8_spoilMore.cls ≠ "java/lang/invoke/VarHandle" ∧ (parseMethodDescriptor yX8_spoilMore.desc).map (fun d => d.parameters.length) = some 1 := ⟨rfl, hdS_X8_spoilMore⟩
set_option maxHeartbeats 4000000 in
set_option maxRecDepth 100000 in
theorem c_X8_spoilMore (l : Launch) (E : G0) (sz : Nat) (a0 : Nat → Nat) (v0 : SV) (p1 : Int32) (x : SV) (hf : f_X8_spoilMore v0 p1 = some x) : Met l yX8_spoilMore wsX8_spoilMore rmX8_spoilMore (va_Pc [.ref (a0 0), .int p1] (PW E (wSV E a0 v0) sz)) (va_Qv (fun q => q = x) (fun q t => va_P E.1 vwCl ((fun q : SV => wSV E a0 q) q) t.heap ∧ va_D (va_A (wSV E a0 v0) sz) ((fun q : SV => wSV E a0 q) q)) (va_A (wSV E a0 v0) sz)) 0 0 (va_A (wSV E a0 v0) sz) := by
  refine Met.ofW (cc := cX8_spoilMore) (maxL := 2) (ret := none) (by decide) rfl ?_
  intro p e s m args below meth c s₁ B hml hv
  obtain ⟨ha, hsz, hP, hD0, hC⟩ := hv
  have hx := B.exec
  have hb := B.bytes
  have hr := B.returns
  have hts := atoms_spec (ws := wsX8_spoilMore) B.pre
  have hown : s.vm.findClass RX8 = some m.cls := findClass_of_methodNamed B.named
  have hlocks := B.notSynchronized
  subst hsz
  have hD := hD0.self (sz := s.heap.size)
  generalize hAe : va_A (wSV E a0 v0) s.heap.size = A at hD hC ⊢
  have hA : ∀ q : Nat, s.heap.size ≤ q → A q := fun q h => by rw [← hAe]; exact Or.inr h
  have hS : va_S A s.heap s.heap [] := va_S.rf
  have w1 : (Cond.fieldLink RX8 22 "GreatChunks$Servers" "spoilt" "[I").before args s = true := hts _ (List.mem_of_getElem? (i := 1) rfl)
  have w2 : ∀ w ∈ wsX80, w ∈ wsX8_spoilMore := in_pl 12 rfl
  have w3 : (Cond.methodLink RX8 25 Lib.Math.min.name).before args s = true := hts _ (List.mem_of_getElem? (i := 2) rfl)
  have w4 : (Cond.static Lib.Math.min.name).before args s = true := hts _ (List.mem_of_getElem? (i := 3) rfl)
  have w5 : (Cond.initialized "java/lang/Math").before args s = true := hts _ (List.mem_of_getElem? (i := 4) rfl)
  have w6 : (Cond.code Lib.Math.min.name Lib.Math.min.code 2 (some .int)).before args s = true := hts _ (List.mem_of_getElem? (i := 5) rfl)
  generalize hQe : MQ below (va_Qv (fun q => q = x) (fun q t => va_P E.1 vwCl ((fun q : SV => wSV E a0 q) q) t.heap ∧ va_D A ((fun q : SV => wSV E a0 q) q)) A) args s 0 0 A = Q
  refine st_W ha (Nat.le_of_ble_eq_true rfl) (fun ls hl => ?_)
  have hl : lv_has ls 2 [(0, .ref (a0 0)), (1, .int p1)] := hl
  unfold f_X8_spoilMore at hf
  refine lv_aload_n hx hb dX8_spoilMore_0 rfl (lv_at hl 0 rfl) ?_
  refine lv_iload_n hx hb dX8_spoilMore_1 rfl (lv_at hl 1 rfl) ?_
  refine cr_i (va_runV (As := [.int p1]) (rest := []) ⟨hx, hb, hml, hown, hts⟩ (c_X8_has l E a0 v0 p1 _ rfl) (cwV 1 hts gX8_spoilMore_X8_has rfl rfl rfl hdV_X8_has ⟨Nat.le_of_ble_eq_true rfl, Nat.le_of_ble_eq_true rfl⟩) ⟨PR.blind, va_recv hC.1 hP (ci := 6) (q0 := 0) rfl rfl, PR.pre hC hS hP⟩ rfl rfl hl.1 rfl (lv_room (Nat.le_of_ble_eq_true rfl)) dX8_spoilMore_2 ⟨Nat.le_of_ble_eq_true rfl, Nat.le_of_ble_eq_true rfl⟩) ?_
  refine lv_if_eq (tgt := 27) hx hb dX8_spoilMore_5 rfl (fun c1 => ?_) (fun c1 => ?_)
  · have hf := it_t hf c1
    cases Option.some.inj hf
    subst hQe
    exact ew_v (wf := (fun q : SV => wSV E a0 q)) hx hb hr hlocks hP hD hS dX8_spoilMore_27
  · have hf := it_f hf c1
    refine lv_aload_n hx hb dX8_spoilMore_8 rfl (lv_at hl 0 rfl) ?_
    refine va_get (D := E.1) (ci := 6) (v := .ref (a0 2)) (C := RX8) (T := TX8) (N := 4) hx hb hts w2 hown hC.1 hP 0 rfl rfl 3 (by decide) w1 (fun _ h9 => h9) rfl dX8_spoilMore_9 ?_
    refine lv_iload_n hx hb dX8_spoilMore_12 rfl (lv_at hl 1 rfl) ?_
    refine lv_aload_n hx hb dX8_spoilMore_13 rfl (lv_at hl 0 rfl) ?_
    refine va_get (D := E.1) (ci := 6) (v := .ref (a0 2)) (C := RX8) (T := TX8) (N := 4) hx hb hts w2 hown hC.1 hP 0 rfl rfl 3 (by decide) w1 (fun _ h9 => h9) rfl dX8_spoilMore_14 ?_
    refine lv_iload_n hx hb dX8_spoilMore_17 rfl (lv_at hl 1 rfl) ?_
    obtain ⟨h2, hf⟩ := gdI_some hf
    refine va_iald hx hb hC.1 hP 2 0 rfl rfl h2 dX8_spoilMore_18 ?_
    refine lv_iconst (v := 1) hx hb dX8_spoilMore_19 rfl ?_
    refine lv_iadd hx hb dX8_spoilMore_20 ?_
    refine lv_bipush (v := 9) hx hb dX8_spoilMore_21 rfl ?_
    refine va_mmin hx hb (by rw [hml]; exact hl.1.symm) hown w3 w4 w5 w6 (Nat.le_of_ble_eq_true rfl) (Nat.le_of_ble_eq_true rfl) (Nat.le_of_ble_eq_true rfl) (Nat.le_of_ble_eq_true rfl) dX8_spoilMore_23 ?_
    obtain ⟨h3, hf⟩ := gdI_some hf
    refine va_iast hx hb hC.1 hP hD hS 2 0 rfl rfl h3 dX8_spoilMore_26 (fun H locs hP hD hS => ?_)
    have hP : va_P E.1 vwCl (wSV E a0 (v0.1, v0.2.1, v0.2.2.1, (upd v0.2.2.2 p1.toNatClampNeg (if (9 : Int32) < ((v0.2.2.2 p1.toNatClampNeg) + (1 : Int32)) then (9 : Int32) else ((v0.2.2.2 p1.toNatClampNeg) + (1 : Int32)))))) H := hP
    have hD : va_D A (wSV E a0 (v0.1, v0.2.1, v0.2.2.1, (upd v0.2.2.2 p1.toNatClampNeg (if (9 : Int32) < ((v0.2.2.2 p1.toNatClampNeg) + (1 : Int32)) then (9 : Int32) else ((v0.2.2.2 p1.toNatClampNeg) + (1 : Int32)))))) := hD
    cases Option.some.inj hf
    subst hQe
    exact ew_v (wf := (fun q : SV => wSV E a0 q)) hx hb hr hlocks hP hD hS dX8_spoilMore_27
