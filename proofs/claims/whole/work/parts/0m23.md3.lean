/-! X11_isHouse -/
abbrev rmX11_isHouse : Room := { frames := 0, cells := 0, slots := 0, locals := 0 }
theorem hdS_X11_isHouse : yX11_isHouse.cls ≠ "java/lang/invoke/MethodHandle" ∧ yX11_isHouse.cls ≠ "java/lang/invoke/VarHandle" ∧ (parseMethodDescriptor yX11_isHouse.desc).map (fun d => d.parameters.length) = some 0 := by decide +kernel
theorem hdV_X11_isHouse : yX11_isHouse.cls = RX11 ∧ yX11_isHouse.cls ≠ "java/lang/invoke/MethodHandle" ∧ yX11_isHouse.cls ≠ "java/lang/invoke/VarHandle" ∧ (parseMethodDescriptor yX11_isHouse.desc).map (fun d => d.parameters.length) = some 0 := ⟨rfl, hdS_X11_isHouse⟩
set_option maxHeartbeats 4000000 in
set_option maxRecDepth 100000 in
theorem c_X11_isHouse (l : Launch) (E : G0) (a0 : Nat → Nat) (v0 : MD) (x : Bool) (hf : f_X11_isHouse v0 = some x) : Met l yX11_isHouse wsX11_isHouse rmX11_isHouse (va_Pc [.ref (a0 0)] (PR E (wMD E a0 v0))) (vp_Si (fun r => r = bI x)) 0 0 (fun _ => False) := by
  refine Met.ofW (cc := cX11_isHouse) (maxL := 1) (ret := some .boolean) (by decide) rfl ?_
  intro p e s m args below meth c s₁ B hml hv
  obtain ⟨ha, hP, hC⟩ := hv
  have hx := B.exec
  have hb := B.bytes
  have hr := B.returns
  have hts := atoms_spec (ws := wsX11_isHouse) B.pre
  have hown : s.vm.findClass RX11 = some m.cls := findClass_of_methodNamed B.named
  have hlocks := B.notSynchronized
  have hS : va_S (fun _ => False) s.heap s.heap [] := va_S.rf
  have w1 : (Cond.fieldLink RX11 7 "GreatChunksModel" "now" "[J").before args s = true := hts _ (List.mem_of_getElem? (i := 1) rfl)
  have w2 : ∀ w ∈ wsX110, w ∈ wsX11_isHouse := in_pl 2 rfl
  generalize hQe : MQ below (vp_Si (fun r => r = bI x)) args s 0 0 (fun _ => False) = Q
  refine st_W ha (Nat.le_of_ble_eq_true rfl) (fun ls hl => ?_)
  have hl : lv_has ls 1 [(0, .ref (a0 0))] := hl
  unfold f_X11_isHouse at hf
  refine lv_aload_n hx hb dX11_isHouse_0 rfl (lv_at hl 0 rfl) ?_
  refine va_get (D := E.1) (ci := 9) (v := .ref (a0 1)) (C := RX11) (T := TX11) (N := 17) hx hb hts w2 hown hC.1 hP 0 rfl rfl 0 (by decide) w1 (fun _ h9 => h9) rfl dX11_isHouse_1 ?_
  refine lv_iconst (v := 0) hx hb dX11_isHouse_4 rfl ?_
  obtain ⟨h1, hf⟩ := gdI_some hf
  refine va_lald hx hb hC.1 hP 1 1 rfl rfl h1 dX11_isHouse_5 ?_
  refine lv_lconst (v := 0) hx hb dX11_isHouse_6 rfl ?_
  refine W.lcmp hx hb dX11_isHouse_7 ?_
  refine lv_if_le (tgt := 15) hx hb dX11_isHouse_8 rfl (fun c2 => ?_) (fun c2 => ?_)
  · have hf := it_t hf c2
    refine lv_iconst (v := 0) hx hb dX11_isHouse_15 rfl ?_
    cases Option.some.inj hf
    subst hQe
    exact en_z hx hb hr hlocks rfl dX11_isHouse_16
  · have hf := it_f hf c2
    refine lv_iconst (v := 1) hx hb dX11_isHouse_11 rfl ?_
    refine lv_goto (tgt := 16) hx hb dX11_isHouse_12 rfl ?_
    cases Option.some.inj hf
    subst hQe
    exact en_z hx hb hr hlocks rfl dX11_isHouse_16

/-! X11_isFile -/
abbrev rmX11_isFile : Room := { frames := 1, cells := 0, slots := 0, locals := 25 }
theorem hdS_X11_isFile : yX11_isFile.cls ≠ "java/lang/invoke/MethodHandle" ∧ yX11_isFile.cls ≠ "java/lang/invoke/VarHandle" ∧ (parseMethodDescriptor yX11_isFile.desc).map (fun d => d.parameters.length) = some 1 := by decide +kernel
set_option maxHeartbeats 4000000 in
set_option maxRecDepth 100000 in
theorem c_X11_isFile (l : Launch) (E : G0) (p0 : Int32) (x : Bool) (hf : f_X11_isFile p0 = x) : Met l yX11_isFile wsX11_isFile rmX11_isFile (va_Pc [.int p0] (PR E ([] : va_W))) (vp_Si (fun r => r = bI x)) 0 0 (fun _ => False) := by
  refine Met.ofW (cc := cX11_isFile) (maxL := 1) (ret := some .boolean) (by decide) rfl ?_
  intro p e s m args below meth c s₁ B hml hv
  obtain ⟨ha, hP, hC⟩ := hv
  have hx := B.exec
  have hb := B.bytes
  have hr := B.returns
  have hts := atoms_spec (ws := wsX11_isFile) B.pre
  have hown : s.vm.findClass RX11 = some m.cls := findClass_of_methodNamed B.named
  have hlocks := B.notSynchronized
  have hS : va_S (fun _ => False) s.heap s.heap [] := va_S.rf
  have w1 : (Cond.constantLong RX11 84 (5)).before args s = true := hts _ (List.mem_of_getElem? (i := 1) rfl)
  generalize hQe : MQ below (vp_Si (fun r => r = bI x)) args s 0 0 (fun _ => False) = Q
  refine st_W ha (Nat.le_of_ble_eq_true rfl) (fun ls hl => ?_)
  have hl : lv_has ls 1 [(0, .int p0)] := hl
  unfold f_X11_isFile at hf
  refine lv_iload_n hx hb dX11_isFile_0 rfl (lv_at hl 0 rfl) ?_
  refine lv_i2l hx hb dX11_isFile_1 rfl ?_
  refine lv_lconst (v := 0) hx hb dX11_isFile_2 rfl ?_
  refine lv_ldc2 hx hb hown w1 dX11_isFile_3 ?_
  refine cr_i (va_runS (As := [.long p0.toInt64, .long (0 : Int64), .long ((5) : Int64)]) (rest := []) ⟨hx, hb, hml, hown, hts⟩ (c_X11_in l E p0.toInt64 (0 : Int64) ((5) : Int64) _ rfl) (va_cwS 3 hts gX11_isFile_X11_in rfl rfl rfl hdS_X11_in ⟨Nat.le_of_ble_eq_true rfl, Nat.le_of_ble_eq_true rfl⟩) ⟨PR.blind, PR.pre hC hS hP⟩ rfl rfl hl.1 rfl (lv_room (Nat.le_of_ble_eq_true rfl)) dX11_isFile_6 ⟨Nat.le_of_ble_eq_true rfl, Nat.le_of_ble_eq_true rfl⟩) ?_
  subst hf
  subst hQe
  exact en_z hx hb hr hlocks rfl dX11_isFile_9

/-! X11_isServer -/
abbrev rmX11_isServer : Room := { frames := 1, cells := 0, slots := 0, locals := 25 }
theorem hdS_X11_isServer : yX11_isServer.cls ≠ "java/lang/invoke/MethodHandle" ∧ yX11_isServer.cls ≠ "java/lang/invoke/VarHandle" ∧ (parseMethodDescriptor yX11_isServer.desc).map (fun d => d.parameters.length) = some 1 := by decide +kernel
theorem hdV_X11_isServer : yX11_isServer.cls = RX11 ∧ yX11_isServer.cls ≠ "java/lang/invoke/MethodHandle" ∧ yX11_isServer.cls ≠ "java/lang/invoke/VarHandle" ∧ (parseMethodDescriptor yX11_isServer.desc).map (fun d => d.parameters.length) = some 1 := ⟨rfl, hdS_X11_isServer⟩
set_option maxHeartbeats 4000000 in
set_option maxRecDepth 100000 in
theorem c_X11_isServer (l : Launch) (E : G0) (a0 : Nat → Nat) (v0 : MD) (p1 : Int32) (x : Bool) (hf : f_X11_isServer v0 p1 = some x) : Met l yX11_isServer wsX11_isServer rmX11_isServer (va_Pc [.ref (a0 0), .int p1] (PR E (wMD E a0 v0))) (vp_Si (fun r => r = bI x)) 0 0 (fun _ => False) := by
  refine Met.ofW (cc := cX11_isServer) (maxL := 2) (ret := some .boolean) (by decide) rfl ?_
  intro p e s m args below meth c s₁ B hml hv
  obtain ⟨ha, hP, hC⟩ := hv
  have hx := B.exec
  have hb := B.bytes
  have hr := B.returns
  have hts := atoms_spec (ws := wsX11_isServer) B.pre
  have hown : s.vm.findClass RX11 = some m.cls := findClass_of_methodNamed B.named
  have hlocks := B.notSynchronized
  have hS : va_S (fun _ => False) s.heap s.heap [] := va_S.rf
  have w1 : (Cond.fieldLink RX11 7 "GreatChunksModel" "now" "[J").before args s = true := hts _ (List.mem_of_getElem? (i := 1) rfl)
  have w2 : ∀ w ∈ wsX110, w ∈ wsX11_isServer := in_pl 6 rfl
  generalize hQe : MQ below (vp_Si (fun r => r = bI x)) args s 0 0 (fun _ => False) = Q
  refine st_W ha (Nat.le_of_ble_eq_true rfl) (fun ls hl => ?_)
  have hl : lv_has ls 2 [(0, .ref (a0 0)), (1, .int p1)] := hl
  unfold f_X11_isServer at hf
  refine lv_iload_n hx hb dX11_isServer_0 rfl (lv_at hl 1 rfl) ?_
  refine lv_i2l hx hb dX11_isServer_1 rfl ?_
  refine lv_lconst (v := 0) hx hb dX11_isServer_2 rfl ?_
  refine lv_aload_n hx hb dX11_isServer_3 rfl (lv_at hl 0 rfl) ?_
  refine va_get (D := E.1) (ci := 9) (v := .ref (a0 1)) (C := RX11) (T := TX11) (N := 17) hx hb hts w2 hown hC.1 hP 0 rfl rfl 0 (by decide) w1 (fun _ h9 => h9) rfl dX11_isServer_4 ?_
  refine lv_iconst (v := 0) hx hb dX11_isServer_7 rfl ?_
  obtain ⟨h1, hf⟩ := gdI_some hf
  refine va_lald hx hb hC.1 hP 1 1 rfl rfl h1 dX11_isServer_8 ?_
  refine lv_lconst (v := 1) hx hb dX11_isServer_9 rfl ?_
  refine lv_lsub hx hb dX11_isServer_10 ?_
  refine cr_i (va_runS (As := [.long p1.toInt64, .long (0 : Int64), .long ((v0.1 (0 : Int32).toNatClampNeg) - (1 : Int64))]) (rest := []) ⟨hx, hb, hml, hown, hts⟩ (c_X11_in l E p1.toInt64 (0 : Int64) ((v0.1 (0 : Int32).toNatClampNeg) - (1 : Int64)) _ rfl) (va_cwS 3 hts gX11_isServer_X11_in rfl rfl rfl hdS_X11_in ⟨Nat.le_of_ble_eq_true rfl, Nat.le_of_ble_eq_true rfl⟩) ⟨PR.blind, PR.pre hC hS (hP.sub [] rfl)⟩ rfl rfl hl.1 rfl (lv_room (Nat.le_of_ble_eq_true rfl)) dX11_isServer_11 ⟨Nat.le_of_ble_eq_true rfl, Nat.le_of_ble_eq_true rfl⟩) ?_
  cases Option.some.inj hf
  subst hQe
  exact en_z hx hb hr hlocks rfl dX11_isServer_14

/-! X11_isThere -/
abbrev rmX11_isThere : Room := { frames := 0, cells := 0, slots := 0, locals := 0 }
theorem hdS_X11_isThere : yX11_isThere.cls ≠ "java/lang/invoke/MethodHandle" ∧ yX11_isThere.cls ≠ "java/lang/invoke/VarHandle" ∧ (parseMethodDescriptor yX11_isThere.desc).map (fun d => d.parameters.length) = some 1 := by decide +kernel
theorem hdV_X11_isThere : yX11_isThere.cls = RX11 ∧ yX11_isThere.cls ≠ "java/lang/invoke/MethodHandle" ∧ yX11_isThere.cls ≠ "java/lang/invoke/VarHandle" ∧ (parseMethodDescriptor yX11_isThere.desc).map (fun d => d.parameters.length) = some 1 := ⟨rfl, hdS_X11_isThere⟩
set_option maxHeartbeats 4000000 in
set_option maxRecDepth 100000 in
theorem c_X11_isThere (l : Launch) (E : G0) (a0 : Nat → Nat) (v0 : MD) (p1 : Int32) (x : Bool) (hf : f_X11_isThere v0 p1 = some x) : Met l yX11_isThere wsX11_isThere rmX11_isThere (va_Pc [.ref (a0 0), .int p1] (PR E (wMD E a0 v0))) (vp_Si (fun r => r = bI x)) 0 0 (fun _ => False) := by
  refine Met.ofW (cc := cX11_isThere) (maxL := 2) (ret := some .boolean) (by decide) rfl ?_
  intro p e s m args below meth c s₁ B hml hv
  obtain ⟨ha, hP, hC⟩ := hv
  have hx := B.exec
  have hb := B.bytes
  have hr := B.returns
  have hts := atoms_spec (ws := wsX11_isThere) B.pre
  have hown : s.vm.findClass RX11 = some m.cls := findClass_of_methodNamed B.named
  have hlocks := B.notSynchronized
  have hS : va_S (fun _ => False) s.heap s.heap [] := va_S.rf
  have w1 : (Cond.fieldLink RX11 7 "GreatChunksModel" "now" "[J").before args s = true := hts _ (List.mem_of_getElem? (i := 1) rfl)
  have w2 : ∀ w ∈ wsX110, w ∈ wsX11_isThere := in_pl 2 rfl
  generalize hQe : MQ below (vp_Si (fun r => r = bI x)) args s 0 0 (fun _ => False) = Q
  refine st_W ha (Nat.le_of_ble_eq_true rfl) (fun ls hl => ?_)
  have hl : lv_has ls 2 [(0, .ref (a0 0)), (1, .int p1)] := hl
  unfold f_X11_isThere at hf
  refine lv_aload_n hx hb dX11_isThere_0 rfl (lv_at hl 0 rfl) ?_
  refine va_get (D := E.1) (ci := 9) (v := .ref (a0 1)) (C := RX11) (T := TX11) (N := 17) hx hb hts w2 hown hC.1 hP 0 rfl rfl 0 (by decide) w1 (fun _ h9 => h9) rfl dX11_isThere_1 ?_
  refine lv_bipush (v := 22) hx hb dX11_isThere_4 rfl ?_
  refine lv_bipush (v := 8) hx hb dX11_isThere_6 rfl ?_
  refine lv_iload_n hx hb dX11_isThere_8 rfl (lv_at hl 1 rfl) ?_
  refine lv_imul hx hb dX11_isThere_9 ?_
  refine lv_iadd hx hb dX11_isThere_10 ?_
  refine lv_iconst (v := 0) hx hb dX11_isThere_11 rfl ?_
  refine lv_iadd hx hb dX11_isThere_12 ?_
  obtain ⟨h1, hf⟩ := gdI_some hf
  refine va_lald hx hb hC.1 hP 1 1 rfl rfl h1 dX11_isThere_13 ?_
  refine lv_lconst (v := 1) hx hb dX11_isThere_14 rfl ?_
  refine W.lcmp hx hb dX11_isThere_15 ?_
  refine lv_if_ne (tgt := 23) hx hb dX11_isThere_16 rfl (fun c2 => ?_) (fun c2 => ?_)
  · have hf := it_f hf c2
    refine lv_iconst (v := 0) hx hb dX11_isThere_23 rfl ?_
    cases Option.some.inj hf
    subst hQe
    exact en_z hx hb hr hlocks rfl dX11_isThere_24
  · have hf := it_t hf c2
    refine lv_iconst (v := 1) hx hb dX11_isThere_19 rfl ?_
    refine lv_goto (tgt := 24) hx hb dX11_isThere_20 rfl ?_
    cases Option.some.inj hf
    subst hQe
    exact en_z hx hb hr hlocks rfl dX11_isThere_24

/-! X11_filesThat -/
abbrev rmX11_filesThat : Room := { frames := 0, cells := 0, slots := 0, locals := 0 }
theorem hdS_X11_filesThat : yX11_filesThat.cls ≠ "java/lang/invoke/MethodHandle" ∧ yX11_filesThat.cls ≠ "java/lang/invoke/VarHandle" ∧ (parseMethodDescriptor yX11_filesThat.desc).map (fun d => d.parameters.length) = some 1 := by decide +kernel
theorem hdV_X11_filesThat : yX11_filesThat.cls = RX11 ∧ yX11_filesThat.cls ≠ "java/lang/invoke/MethodHandle" ∧ yX11_filesThat.cls ≠ "java/lang/invoke/VarHandle" ∧ (parseMethodDescriptor yX11_filesThat.desc).map (fun d => d.parameters.length) = some 1 := ⟨rfl, hdS_X11_filesThat⟩
set_option maxHeartbeats 4000000 in
set_option maxRecDepth 100000 in
theorem c_X11_filesThat (l : Launch) (E : G0) (a0 : Nat → Nat) (v0 : MD) (p1 : Int32) (x : Int32) (hf : f_X11_filesThat v0 p1 = some x) : Met l yX11_filesThat wsX11_filesThat rmX11_filesThat (va_Pc [.ref (a0 0), .int p1] (PR E (wMD E a0 v0))) (vp_Si (fun r => r = x)) 0 0 (fun _ => False) := by
  refine Met.ofW (cc := cX11_filesThat) (maxL := 4) (ret := some .int) (by decide) rfl ?_
  intro p e s m args below meth c s₁ B hml hv
  obtain ⟨ha, hP, hC⟩ := hv
  have hx := B.exec
  have hb := B.bytes
  have hr := B.returns
  have hts := atoms_spec (ws := wsX11_filesThat) B.pre
  have hown : s.vm.findClass RX11 = some m.cls := findClass_of_methodNamed B.named
  have hlocks := B.notSynchronized
  have hS : va_S (fun _ => False) s.heap s.heap [] := va_S.rf
  have w1 : (Cond.fieldLink RX11 7 "GreatChunksModel" "now" "[J").before args s = true := hts _ (List.mem_of_getElem? (i := 1) rfl)
  have w2 : ∀ w ∈ wsX110, w ∈ wsX11_filesThat := in_pl 2 rfl
  generalize hQe : MQ below (vp_Si (fun r => r = x)) args s 0 0 (fun _ => False) = Q
  refine st_W ha (Nat.le_of_ble_eq_true rfl) (fun ls hl => ?_)
  have hl : lv_has ls 4 [(0, .ref (a0 0)), (1, .int p1)] := hl
  unfold f_X11_filesThat at hf
  refine lv_iconst (v := 0) hx hb dX11_filesThat_0 rfl ?_
  refine lv_istore_n (lv' := [(2, .int (0 : Int32)), (0, .ref (a0 0)), (1, .int p1)]) hx hb dX11_filesThat_1 rfl hl (by decide) rfl (fun ls hl => ?_)
  refine lv_iconst (v := 0) hx hb dX11_filesThat_2 rfl ?_
  refine lv_istore_n (lv' := [(3, .int (0 : Int32)), (2, .int (0 : Int32)), (0, .ref (a0 0)), (1, .int p1)]) hx hb dX11_filesThat_3 rfl hl (by decide) rfl (fun ls hl => ?_)
  obtain ⟨K1, hK1, hf⟩ := jn_some hf
  have J1 : ∀ (q1 : Int32 × Int32) (ls : Array Slot) (hl : lv_has ls 4 [(2, .int q1.1)]) (hf : K1 q1 = some x), W p l e (headSpec wsX11_filesThat rmX11_filesThat).room s m args below meth c s.heap [] 0 0 Q (F0 m 44 ls []) := by
    intro q1 ls hl hf
    have hf := (hK1 q1).trans hf
    refine lv_iload_n hx hb dX11_filesThat_44 rfl (lv_at hl 0 rfl) ?_
    cases Option.some.inj hf
    subst hQe
    exact en_i hx hb hr hlocks dX11_filesThat_45
  have L1 : ∀ (n : Nat) (q1 : Int32 × Int32) (ls : Array Slot) (hl : lv_has ls 4 [(0, .ref (a0 0)), (1, .int p1), (2, .int q1.1), (3, .int q1.2)]) (hf : lpF (bX11_filesThat_1 v0 p1 K1) n q1 = some x), W p l e (headSpec wsX11_filesThat rmX11_filesThat).room s m args below meth c s.heap [] 0 0 Q (F0 m 4 ls []) := by
    intro n
    induction n with
    | zero => intro q1 ls hl hf; exact (lpF_zero hf).elim
    | succ n ih1 =>
      intro q1 ls hl hf
      have hf := lpF_succ hf
      unfold bX11_filesThat_1 at hf
      refine lv_iload_n hx hb dX11_filesThat_4 rfl (lv_at hl 3 rfl) ?_
      refine lv_bipush (v := 6) hx hb dX11_filesThat_5 rfl ?_
      refine lv_icmp_ge (tgt := 44) hx hb dX11_filesThat_7 rfl (fun c2 => ?_) (fun c2 => ?_)
      · have hf := it_t hf c2
        exact J1 (q1.1, q1.2) ls (lv_sub hl [2] rfl) hf
      · have hf := it_f hf c2
        refine lv_iload_n hx hb dX11_filesThat_10 rfl (lv_at hl 2 rfl) ?_
        refine lv_aload_n hx hb dX11_filesThat_11 rfl (lv_at hl 0 rfl) ?_
        refine va_get (D := E.1) (ci := 9) (v := .ref (a0 1)) (C := RX11) (T := TX11) (N := 17) hx hb hts w2 hown hC.1 hP 0 rfl rfl 0 (by decide) w1 (fun _ h9 => h9) rfl dX11_filesThat_12 ?_
        refine lv_bipush (v := 22) hx hb dX11_filesThat_15 rfl ?_
        refine lv_bipush (v := 8) hx hb dX11_filesThat_17 rfl ?_
        refine lv_iload_n hx hb dX11_filesThat_19 rfl (lv_at hl 3 rfl) ?_
        refine lv_imul hx hb dX11_filesThat_20 ?_
        refine lv_iadd hx hb dX11_filesThat_21 ?_
        refine lv_iconst (v := 0) hx hb dX11_filesThat_22 rfl ?_
        refine lv_iadd hx hb dX11_filesThat_23 ?_
        obtain ⟨h3, hf⟩ := gdI_some hf
        refine va_lald hx hb hC.1 hP 1 1 rfl rfl h3 dX11_filesThat_24 ?_
        refine lv_iload_n hx hb dX11_filesThat_25 rfl (lv_at hl 1 rfl) ?_
        refine lv_i2l hx hb dX11_filesThat_26 rfl ?_
        refine W.lcmp hx hb dX11_filesThat_27 ?_
        refine lv_if_ne (tgt := 35) hx hb dX11_filesThat_28 rfl (fun c4 => ?_) (fun c4 => ?_)
        · have hf := it_f hf c4
          refine lv_iconst (v := 0) hx hb dX11_filesThat_35 rfl ?_
          refine lv_iadd hx hb dX11_filesThat_36 ?_
          refine lv_istore_n (lv' := [(2, .int (q1.1 + (0 : Int32))), (0, .ref (a0 0)), (1, .int p1), (3, .int q1.2)]) hx hb dX11_filesThat_37 rfl hl (by decide) rfl (fun ls hl => ?_)
          refine lv_iinc (v := (q1.2 + 1)) (lv' := [(3, .int (q1.2 + 1)), (2, .int (q1.1 + (0 : Int32))), (0, .ref (a0 0)), (1, .int p1)]) hx hb dX11_filesThat_38 hl (k := 3) rfl rfl (by decide) rfl (fun ls hl => ?_)
          refine lv_goto (tgt := 4) hx hb dX11_filesThat_41 rfl ?_
          exact ih1 ((q1.1 + (0 : Int32)), (q1.2 + 1)) ls (lv_sub hl [2, 3, 1, 0] rfl) hf
        · have hf := it_t hf c4
          refine lv_iconst (v := 1) hx hb dX11_filesThat_31 rfl ?_
          refine lv_goto (tgt := 36) hx hb dX11_filesThat_32 rfl ?_
          refine lv_iadd hx hb dX11_filesThat_36 ?_
          refine lv_istore_n (lv' := [(2, .int (q1.1 + (1 : Int32))), (0, .ref (a0 0)), (1, .int p1), (3, .int q1.2)]) hx hb dX11_filesThat_37 rfl hl (by decide) rfl (fun ls hl => ?_)
          refine lv_iinc (v := (q1.2 + 1)) (lv' := [(3, .int (q1.2 + 1)), (2, .int (q1.1 + (1 : Int32))), (0, .ref (a0 0)), (1, .int p1)]) hx hb dX11_filesThat_38 hl (k := 3) rfl rfl (by decide) rfl (fun ls hl => ?_)
          refine lv_goto (tgt := 4) hx hb dX11_filesThat_41 rfl ?_
          exact ih1 ((q1.1 + (1 : Int32)), (q1.2 + 1)) ls (lv_sub hl [2, 3, 1, 0] rfl) hf
  exact L1 FU ((0 : Int32), (0 : Int32)) ls (lv_sub hl [2, 3, 1, 0] rfl) hf

/-! X11_isRecord -/
abbrev rmX11_isRecord : Room := { frames := 1, cells := 0, slots := 0, locals := 25 }
theorem hdS_X11_isRecord : yX11_isRecord.cls ≠ "java/lang/invoke/MethodHandle" ∧ yX11_isRecord.cls ≠ "java/lang/invoke/VarHandle" ∧ (parseMethodDescriptor yX11_isRecord.desc).map (fun d => d.parameters.length) = some 0 := by decide +kernel
theorem hdV_X11_isRecord : yX11_isRecord.cls = RX11 ∧ yX11_isRecord.cls ≠ "java/lang/invoke/MethodHandle" ∧ yX11_isRecord.cls ≠ "java/lang/invoke/VarHandle" ∧ (parseMethodDescriptor yX11_isRecord.desc).map (fun d => d.parameters.length) = some 0 := ⟨rfl, hdS_X11_isRecord⟩
set_option maxHeartbeats 4000000 in
set_option maxRecDepth 100000 in
theorem c_X11_isRecord (l : Launch) (E : G0) (sz : Nat) (a0 : Nat → Nat) (v0 : MD) (x : Bool × MD) (hf : f_X11_isRecord v0 = some x) : Met l yX11_isRecord wsX11_isRecord rmX11_isRecord (va_Pc [.ref (a0 0)] (PW E (wMD E a0 v0) sz)) (va_Qi (fun r q => r = bI x.1 ∧ q = x.2) (fun q t => va_P E.1 vwCl ((fun q : MD => wMD E a0 q) q) t.heap ∧ va_D (va_A (wMD E a0 v0) sz) ((fun q : MD => wMD E a0 q) q)) (va_A (wMD E a0 v0) sz)) 0 0 (va_A (wMD E a0 v0) sz) := by
  refine Met.ofW (cc := cX11_isRecord) (maxL := 3) (ret := some .boolean) (by decide) rfl ?_
  intro p e s m args below meth c s₁ B hml hv
  obtain ⟨ha, hsz, hP, hD0, hC⟩ := hv
  have hx := B.exec
  have hb := B.bytes
  have hr := B.returns
  have hts := atoms_spec (ws := wsX11_isRecord) B.pre
  have hown : s.vm.findClass RX11 = some m.cls := findClass_of_methodNamed B.named
  have hlocks := B.notSynchronized
  subst hsz
  have hD := hD0.self (sz := s.heap.size)
  generalize hAe : va_A (wMD E a0 v0) s.heap.size = A at hD hC ⊢
  have hA : ∀ q : Nat, s.heap.size ≤ q → A q := fun q h => by rw [← hAe]; exact Or.inr h
  have hS : va_S A s.heap s.heap [] := va_S.rf
  have w1 : (Cond.fieldLink RX11 187 "GreatChunksModel" "taped" "I").before args s = true := hts _ (List.mem_of_getElem? (i := 1) rfl)
  have w2 : ∀ w ∈ wsX110, w ∈ wsX11_isRecord := in_pl 12 rfl
  have w3 : (Cond.fieldLink RX11 7 "GreatChunksModel" "now" "[J").before args s = true := hts _ (List.mem_of_getElem? (i := 2) rfl)
  have w4 : (Cond.fieldLink RX11 143 "GreatChunksModel" "letters" "I").before args s = true := hts _ (List.mem_of_getElem? (i := 3) rfl)
  have w5 : (Cond.fieldLink RX11 26 "GreatChunksModel" "tape" "[I").before args s = true := hts _ (List.mem_of_getElem? (i := 4) rfl)
  have w6 : (Cond.constantLong RX11 202 (97)).before args s = true := hts _ (List.mem_of_getElem? (i := 5) rfl)
  have w7 : (Cond.constantLong RX11 204 (122)).before args s = true := hts _ (List.mem_of_getElem? (i := 6) rfl)
  have w8 : (Cond.fieldLink RX11 30 "GreatChunksModel" "record" "[I").before args s = true := hts _ (List.mem_of_getElem? (i := 7) rfl)
  generalize hQe : MQ below (va_Qi (fun r q => r = bI x.1 ∧ q = x.2) (fun q t => va_P E.1 vwCl ((fun q : MD => wMD E a0 q) q) t.heap ∧ va_D A ((fun q : MD => wMD E a0 q) q)) A) args s 0 0 A = Q
  refine st_W ha (Nat.le_of_ble_eq_true rfl) (fun ls hl => ?_)
  have hl : lv_has ls 3 [(0, .ref (a0 0))] := hl
  unfold f_X11_isRecord at hf
  refine lv_aload_n hx hb dX11_isRecord_0 rfl (lv_at hl 0 rfl) ?_
  refine va_get (D := E.1) (ci := 9) (v := .int v0.2.2.2.2.2.2.2.1) (C := RX11) (T := TX11) (N := 17) hx hb hts w2 hown hC.1 hP 0 rfl rfl 7 (by decide) w1 (fun _ h9 => h9) rfl dX11_isRecord_1 ?_
  refine lv_i2l hx hb dX11_isRecord_4 rfl ?_
  refine lv_lconst (v := 1) hx hb dX11_isRecord_5 rfl ?_
  refine lv_aload_n hx hb dX11_isRecord_6 rfl (lv_at hl 0 rfl) ?_
  refine va_get (D := E.1) (ci := 9) (v := .ref (a0 1)) (C := RX11) (T := TX11) (N := 17) hx hb hts w2 hown hC.1 hP 0 rfl rfl 0 (by decide) w3 (fun _ h9 => h9) rfl dX11_isRecord_7 ?_
  refine lv_iconst (v := 2) hx hb dX11_isRecord_10 rfl ?_
  obtain ⟨h1, hf⟩ := gdI_some hf
  refine va_lald hx hb hC.1 hP 1 1 rfl rfl h1 dX11_isRecord_11 ?_
  refine cr_i (va_runS (As := [.long v0.2.2.2.2.2.2.2.1.toInt64, .long (1 : Int64), .long (v0.1 (2 : Int32).toNatClampNeg)]) (rest := []) ⟨hx, hb, hml, hown, hts⟩ (c_X11_in l E v0.2.2.2.2.2.2.2.1.toInt64 (1 : Int64) (v0.1 (2 : Int32).toNatClampNeg) _ rfl) (va_cwS 3 hts gX11_isRecord_X11_in rfl rfl rfl hdS_X11_in ⟨Nat.le_of_ble_eq_true rfl, Nat.le_of_ble_eq_true rfl⟩) ⟨PR.blind, PR.pre hC hS (hP.sub [] rfl)⟩ rfl rfl hl.1 rfl (lv_room (Nat.le_of_ble_eq_true rfl)) dX11_isRecord_12 ⟨Nat.le_of_ble_eq_true rfl, Nat.le_of_ble_eq_true rfl⟩) ?_
  refine lv_istore_n (lv' := [(1, .int (bI (f_X11_in v0.2.2.2.2.2.2.2.1.toInt64 (1 : Int64) (v0.1 (2 : Int32).toNatClampNeg)))), (0, .ref (a0 0))]) hx hb dX11_isRecord_15 rfl hl (by decide) rfl (fun ls hl => ?_)
  refine lv_aload_n hx hb dX11_isRecord_16 rfl (lv_at hl 1 rfl) ?_
  refine lv_iload_n hx hb dX11_isRecord_17 rfl (lv_at hl 0 rfl) ?_
  obtain ⟨q2, e2, hf⟩ := bt_eq hf
  have J2 : W p l e (headSpec wsX11_isRecord rmX11_isRecord).room s m args below meth c s.heap [] 0 0 Q (F0 m 29 ls [.int q2, .ref (a0 0)]) := by
    refine va_put (D := E.1) (ci := 9) (v := .int q2) (ty := .int) (C := RX11) (T := TX11) (N := 17) hx hb hts w2 tyX11 tyX11_ok nmX11 hown hC.1 hP hD hS 0 rfl rfl 16 (by decide) w4 (fun _ h9 => h9) rfl (by decide +kernel) rfl rfl (Nat.le_of_ble_eq_true rfl) dX11_isRecord_29 (fun H locs hP hD hS => ?_)
    have hP : va_P E.1 vwCl (wMD E a0 (v0.1, v0.2.1, v0.2.2.1, v0.2.2.2.1, v0.2.2.2.2.1, v0.2.2.2.2.2.1, v0.2.2.2.2.2.2.1, v0.2.2.2.2.2.2.2.1, v0.2.2.2.2.2.2.2.2.1, v0.2.2.2.2.2.2.2.2.2.1, v0.2.2.2.2.2.2.2.2.2.2.1, v0.2.2.2.2.2.2.2.2.2.2.2.1, v0.2.2.2.2.2.2.2.2.2.2.2.2.1, v0.2.2.2.2.2.2.2.2.2.2.2.2.2.1, v0.2.2.2.2.2.2.2.2.2.2.2.2.2.2.1, v0.2.2.2.2.2.2.2.2.2.2.2.2.2.2.2.1, q2)) H := hP
    have hD : va_D A (wMD E a0 (v0.1, v0.2.1, v0.2.2.1, v0.2.2.2.1, v0.2.2.2.2.1, v0.2.2.2.2.2.1, v0.2.2.2.2.2.2.1, v0.2.2.2.2.2.2.2.1, v0.2.2.2.2.2.2.2.2.1, v0.2.2.2.2.2.2.2.2.2.1, v0.2.2.2.2.2.2.2.2.2.2.1, v0.2.2.2.2.2.2.2.2.2.2.2.1, v0.2.2.2.2.2.2.2.2.2.2.2.2.1, v0.2.2.2.2.2.2.2.2.2.2.2.2.2.1, v0.2.2.2.2.2.2.2.2.2.2.2.2.2.2.1, v0.2.2.2.2.2.2.2.2.2.2.2.2.2.2.2.1, q2)) := hD
    refine lv_iconst (v := 0) hx hb dX11_isRecord_32 rfl ?_
    refine lv_istore_n (lv' := [(2, .int (0 : Int32)), (1, .int (bI (f_X11_in v0.2.2.2.2.2.2.2.1.toInt64 (1 : Int64) (v0.1 (2 : Int32).toNatClampNeg)))), (0, .ref (a0 0))]) hx hb dX11_isRecord_33 rfl hl (by decide) rfl (fun ls hl => ?_)
    obtain ⟨K3, hK3, hf⟩ := jn_some hf
    have J3 : ∀ (q3 : Bool × Int32 × MD) (H : Heap) (locs : List Loc) (hP : va_P E.1 vwCl (wMD E a0 q3.2.2) H) (hD : va_D A (wMD E a0 q3.2.2)) (hS : va_S A s.heap H locs) (ls : Array Slot) (hl : lv_has ls 3 [(0, .ref (a0 0)), (1, .int (bI q3.1))]) (hf : K3 q3 = some x), W p l e (headSpec wsX11_isRecord rmX11_isRecord).room s m args below meth c H locs 0 0 Q (F0 m 92 ls []) := by
      intro q3 H locs hP hD hS ls hl hf
      have hf := (hK3 q3).trans hf
      refine lv_aload_n hx hb dX11_isRecord_92 rfl (lv_at hl 0 rfl) ?_
      refine lv_iconst (v := 0) hx hb dX11_isRecord_93 rfl ?_
      refine va_put (D := E.1) (ci := 9) (v := .int (0 : Int32)) (ty := .int) (C := RX11) (T := TX11) (N := 17) hx hb hts w2 tyX11 tyX11_ok nmX11 hown hC.1 hP hD hS 0 rfl rfl 7 (by decide) w1 (fun _ h9 => h9) rfl (by decide +kernel) rfl rfl (Nat.le_of_ble_eq_true rfl) dX11_isRecord_94 (fun H locs hP hD hS => ?_)
      have hP : va_P E.1 vwCl (wMD E a0 (q3.2.2.1, q3.2.2.2.1, q3.2.2.2.2.1, q3.2.2.2.2.2.1, q3.2.2.2.2.2.2.1, q3.2.2.2.2.2.2.2.1, q3.2.2.2.2.2.2.2.2.1, (0 : Int32), q3.2.2.2.2.2.2.2.2.2.2.1, q3.2.2.2.2.2.2.2.2.2.2.2.1, q3.2.2.2.2.2.2.2.2.2.2.2.2.1, q3.2.2.2.2.2.2.2.2.2.2.2.2.2.1, q3.2.2.2.2.2.2.2.2.2.2.2.2.2.2.1, q3.2.2.2.2.2.2.2.2.2.2.2.2.2.2.2.1, q3.2.2.2.2.2.2.2.2.2.2.2.2.2.2.2.2.1, q3.2.2.2.2.2.2.2.2.2.2.2.2.2.2.2.2.2.1, q3.2.2.2.2.2.2.2.2.2.2.2.2.2.2.2.2.2.2)) H := hP
      have hD : va_D A (wMD E a0 (q3.2.2.1, q3.2.2.2.1, q3.2.2.2.2.1, q3.2.2.2.2.2.1, q3.2.2.2.2.2.2.1, q3.2.2.2.2.2.2.2.1, q3.2.2.2.2.2.2.2.2.1, (0 : Int32), q3.2.2.2.2.2.2.2.2.2.2.1, q3.2.2.2.2.2.2.2.2.2.2.2.1, q3.2.2.2.2.2.2.2.2.2.2.2.2.1, q3.2.2.2.2.2.2.2.2.2.2.2.2.2.1, q3.2.2.2.2.2.2.2.2.2.2.2.2.2.2.1, q3.2.2.2.2.2.2.2.2.2.2.2.2.2.2.2.1, q3.2.2.2.2.2.2.2.2.2.2.2.2.2.2.2.2.1, q3.2.2.2.2.2.2.2.2.2.2.2.2.2.2.2.2.2.1, q3.2.2.2.2.2.2.2.2.2.2.2.2.2.2.2.2.2.2)) := hD
      refine lv_iload_n hx hb dX11_isRecord_97 rfl (lv_at hl 1 rfl) ?_
      cases Option.some.inj hf
      subst hQe
      exact ew_z (wf := (fun q : MD => wMD E a0 q)) hx hb hr hlocks rfl hP hD hS dX11_isRecord_98
    have L3 : ∀ (n : Nat) (q3 : Bool × Int32 × MD) (H : Heap) (locs : List Loc) (hP : va_P E.1 vwCl (wMD E a0 q3.2.2) H) (hD : va_D A (wMD E a0 q3.2.2)) (hS : va_S A s.heap H locs) (ls : Array Slot) (hl : lv_has ls 3 [(0, .ref (a0 0)), (1, .int (bI q3.1)), (2, .int q3.2.1)]) (hf : lpF (bX11_isRecord_3 K3) n q3 = some x), W p l e (headSpec wsX11_isRecord rmX11_isRecord).room s m args below meth c H locs 0 0 Q (F0 m 34 ls []) := by
      intro n
      induction n with
      | zero => intro q3 H locs hP hD hS ls hl hf; exact (lpF_zero hf).elim
      | succ n ih3 =>
        intro q3 H locs hP hD hS ls hl hf
        have hf := lpF_succ hf
        unfold bX11_isRecord_3 at hf
        refine lv_iload_n hx hb dX11_isRecord_34 rfl (lv_at hl 2 rfl) ?_
        refine lv_aload_n hx hb dX11_isRecord_35 rfl (lv_at hl 0 rfl) ?_
        refine va_get (D := E.1) (ci := 9) (v := .int q3.2.2.2.2.2.2.2.2.2.2.2.2.2.2.2.2.2.2) (C := RX11) (T := TX11) (N := 17) hx hb hts w2 hown hC.1 hP 0 rfl rfl 16 (by decide) w4 (fun _ h9 => h9) rfl dX11_isRecord_36 ?_
        refine lv_icmp_ge (tgt := 92) hx hb dX11_isRecord_39 rfl (fun c4 => ?_) (fun c4 => ?_)
        · have hf := it_t hf c4
          exact J3 (q3.1, q3.2.1, q3.2.2) H locs hP hD hS ls (lv_sub hl [0, 1] rfl) hf
        · have hf := it_f hf c4
          refine lv_iload_n hx hb dX11_isRecord_42 rfl (lv_at hl 1 rfl) ?_
          obtain ⟨q5, e5, hf⟩ := bd_some hf
          have J5 : W p l e (headSpec wsX11_isRecord rmX11_isRecord).room s m args below meth c H locs 0 0 Q (F0 m 70 ls [.int (bI q5)]) := by
            refine lv_istore_n (lv' := [(1, .int (bI q5)), (0, .ref (a0 0)), (2, .int q3.2.1)]) hx hb dX11_isRecord_70 rfl hl (by decide) rfl (fun ls hl => ?_)
            refine lv_aload_n hx hb dX11_isRecord_71 rfl (lv_at hl 1 rfl) ?_
            refine va_get (D := E.1) (ci := 9) (v := .ref (a0 7)) (C := RX11) (T := TX11) (N := 17) hx hb hts w2 hown hC.1 hP 0 rfl rfl 15 (by decide) w8 (fun _ h9 => h9) rfl dX11_isRecord_72 ?_
            refine lv_iload_n hx hb dX11_isRecord_75 rfl (lv_at hl 2 rfl) ?_
            refine lv_aload_n hx hb dX11_isRecord_76 rfl (lv_at hl 1 rfl) ?_
            refine va_get (D := E.1) (ci := 9) (v := .ref (a0 6)) (C := RX11) (T := TX11) (N := 17) hx hb hts w2 hown hC.1 hP 0 rfl rfl 6 (by decide) w5 (fun _ h9 => h9) rfl dX11_isRecord_77 ?_
            refine lv_iload_n hx hb dX11_isRecord_80 rfl (lv_at hl 2 rfl) ?_
            obtain ⟨h6, hf⟩ := gdI_some hf
            refine va_iald hx hb hC.1 hP 6 0 rfl rfl h6 dX11_isRecord_81 ?_
            refine lv_bipush (v := 96) hx hb dX11_isRecord_82 rfl ?_
            refine lv_isub hx hb dX11_isRecord_84 ?_
            obtain ⟨h7, hf⟩ := gdI_some hf
            refine va_iast hx hb hC.1 hP hD hS 7 0 rfl rfl h7 dX11_isRecord_85 (fun H locs hP hD hS => ?_)
            have hP : va_P E.1 vwCl (wMD E a0 (q3.2.2.1, q3.2.2.2.1, q3.2.2.2.2.1, q3.2.2.2.2.2.1, q3.2.2.2.2.2.2.1, q3.2.2.2.2.2.2.2.1, q3.2.2.2.2.2.2.2.2.1, q3.2.2.2.2.2.2.2.2.2.1, q3.2.2.2.2.2.2.2.2.2.2.1, q3.2.2.2.2.2.2.2.2.2.2.2.1, q3.2.2.2.2.2.2.2.2.2.2.2.2.1, q3.2.2.2.2.2.2.2.2.2.2.2.2.2.1, q3.2.2.2.2.2.2.2.2.2.2.2.2.2.2.1, q3.2.2.2.2.2.2.2.2.2.2.2.2.2.2.2.1, q3.2.2.2.2.2.2.2.2.2.2.2.2.2.2.2.2.1, (upd q3.2.2.2.2.2.2.2.2.2.2.2.2.2.2.2.2.2.1 q3.2.1.toNatClampNeg ((q3.2.2.2.2.2.2.2.2.1 q3.2.1.toNatClampNeg) - (96 : Int32))), q3.2.2.2.2.2.2.2.2.2.2.2.2.2.2.2.2.2.2)) H := hP
            have hD : va_D A (wMD E a0 (q3.2.2.1, q3.2.2.2.1, q3.2.2.2.2.1, q3.2.2.2.2.2.1, q3.2.2.2.2.2.2.1, q3.2.2.2.2.2.2.2.1, q3.2.2.2.2.2.2.2.2.1, q3.2.2.2.2.2.2.2.2.2.1, q3.2.2.2.2.2.2.2.2.2.2.1, q3.2.2.2.2.2.2.2.2.2.2.2.1, q3.2.2.2.2.2.2.2.2.2.2.2.2.1, q3.2.2.2.2.2.2.2.2.2.2.2.2.2.1, q3.2.2.2.2.2.2.2.2.2.2.2.2.2.2.1, q3.2.2.2.2.2.2.2.2.2.2.2.2.2.2.2.1, q3.2.2.2.2.2.2.2.2.2.2.2.2.2.2.2.2.1, (upd q3.2.2.2.2.2.2.2.2.2.2.2.2.2.2.2.2.2.1 q3.2.1.toNatClampNeg ((q3.2.2.2.2.2.2.2.2.1 q3.2.1.toNatClampNeg) - (96 : Int32))), q3.2.2.2.2.2.2.2.2.2.2.2.2.2.2.2.2.2.2)) := hD
            refine lv_iinc (v := (q3.2.1 + 1)) (lv' := [(2, .int (q3.2.1 + 1)), (1, .int (bI q5)), (0, .ref (a0 0))]) hx hb dX11_isRecord_86 hl (k := 2) rfl rfl (by decide) rfl (fun ls hl => ?_)
            refine lv_goto (tgt := 34) hx hb dX11_isRecord_89 rfl ?_
            exact ih3 (q5, (q3.2.1 + 1), (q3.2.2.1, q3.2.2.2.1, q3.2.2.2.2.1, q3.2.2.2.2.2.1, q3.2.2.2.2.2.2.1, q3.2.2.2.2.2.2.2.1, q3.2.2.2.2.2.2.2.2.1, q3.2.2.2.2.2.2.2.2.2.1, q3.2.2.2.2.2.2.2.2.2.2.1, q3.2.2.2.2.2.2.2.2.2.2.2.1, q3.2.2.2.2.2.2.2.2.2.2.2.2.1, q3.2.2.2.2.2.2.2.2.2.2.2.2.2.1, q3.2.2.2.2.2.2.2.2.2.2.2.2.2.2.1, q3.2.2.2.2.2.2.2.2.2.2.2.2.2.2.2.1, q3.2.2.2.2.2.2.2.2.2.2.2.2.2.2.2.2.1, (upd q3.2.2.2.2.2.2.2.2.2.2.2.2.2.2.2.2.2.1 q3.2.1.toNatClampNeg ((q3.2.2.2.2.2.2.2.2.1 q3.2.1.toNatClampNeg) - (96 : Int32))), q3.2.2.2.2.2.2.2.2.2.2.2.2.2.2.2.2.2.2)) H locs hP hD hS ls (lv_sub hl [2, 1, 0] rfl) hf
          have hf := e5
          refine lv_if_eq (tgt := 69) hx hb dX11_isRecord_43 rfl (fun c8 => ?_) (fun c8 => ?_)
          · have hf := it_t hf c8
            refine lv_iconst (v := 0) hx hb dX11_isRecord_69 rfl ?_
            cases Option.some.inj hf
            exact J5
          · have hf := it_f hf c8
            refine lv_aload_n hx hb dX11_isRecord_46 rfl (lv_at hl 0 rfl) ?_
            refine va_get (D := E.1) (ci := 9) (v := .ref (a0 6)) (C := RX11) (T := TX11) (N := 17) hx hb hts w2 hown hC.1 hP 0 rfl rfl 6 (by decide) w5 (fun _ h9 => h9) rfl dX11_isRecord_47 ?_
            refine lv_iload_n hx hb dX11_isRecord_50 rfl (lv_at hl 2 rfl) ?_
            obtain ⟨h9, hf⟩ := gdI_some hf
            refine va_iald hx hb hC.1 hP 6 0 rfl rfl h9 dX11_isRecord_51 ?_
            refine lv_i2l hx hb dX11_isRecord_52 rfl ?_
            refine lv_ldc2 hx hb hown w6 dX11_isRecord_53 ?_
            refine lv_ldc2 hx hb hown w7 dX11_isRecord_56 ?_
            refine cr_i (va_runS (As := [.long ((q3.2.2.2.2.2.2.2.2.1 q3.2.1.toNatClampNeg).toInt64), .long ((97) : Int64), .long ((122) : Int64)]) (rest := []) ⟨hx, hb, hml, hown, hts⟩ (c_X11_in l E ((q3.2.2.2.2.2.2.2.2.1 q3.2.1.toNatClampNeg).toInt64) ((97) : Int64) ((122) : Int64) _ rfl) (va_cwS 3 hts gX11_isRecord_X11_in rfl rfl rfl hdS_X11_in ⟨Nat.le_of_ble_eq_true rfl, Nat.le_of_ble_eq_true rfl⟩) ⟨PR.blind, PR.pre hC hS (hP.sub [] rfl)⟩ rfl rfl hl.1 rfl (lv_room (Nat.le_of_ble_eq_true rfl)) dX11_isRecord_59 ⟨Nat.le_of_ble_eq_true rfl, Nat.le_of_ble_eq_true rfl⟩) ?_
            refine lv_if_eq (tgt := 69) hx hb dX11_isRecord_62 rfl (fun c10 => ?_) (fun c10 => ?_)
            · have hf := it_t hf c10
              refine lv_iconst (v := 0) hx hb dX11_isRecord_69 rfl ?_
              cases Option.some.inj hf
              exact J5
            · have hf := it_f hf c10
              refine lv_iconst (v := 1) hx hb dX11_isRecord_65 rfl ?_
              refine lv_goto (tgt := 70) hx hb dX11_isRecord_66 rfl ?_
              cases Option.some.inj hf
              exact J5
    exact L3 FU ((f_X11_in v0.2.2.2.2.2.2.2.1.toInt64 (1 : Int64) (v0.1 (2 : Int32).toNatClampNeg)), (0 : Int32), (v0.1, v0.2.1, v0.2.2.1, v0.2.2.2.1, v0.2.2.2.2.1, v0.2.2.2.2.2.1, v0.2.2.2.2.2.2.1, v0.2.2.2.2.2.2.2.1, v0.2.2.2.2.2.2.2.2.1, v0.2.2.2.2.2.2.2.2.2.1, v0.2.2.2.2.2.2.2.2.2.2.1, v0.2.2.2.2.2.2.2.2.2.2.2.1, v0.2.2.2.2.2.2.2.2.2.2.2.2.1, v0.2.2.2.2.2.2.2.2.2.2.2.2.2.1, v0.2.2.2.2.2.2.2.2.2.2.2.2.2.2.1, v0.2.2.2.2.2.2.2.2.2.2.2.2.2.2.2.1, q2)) H locs hP hD hS ls (lv_sub hl [2, 1, 0] rfl) hf
  have hf := e2
  refine lv_if_eq (tgt := 28) hx hb dX11_isRecord_18 rfl (fun c11 => ?_) (fun c11 => ?_)
  · have hf := it_t hf c11
    refine lv_iconst (v := 0) hx hb dX11_isRecord_28 rfl ?_
    cases hf
    exact J2
  · have hf := it_f hf c11
    refine lv_aload_n hx hb dX11_isRecord_21 rfl (lv_at hl 1 rfl) ?_
    refine va_get (D := E.1) (ci := 9) (v := .int v0.2.2.2.2.2.2.2.1) (C := RX11) (T := TX11) (N := 17) hx hb hts w2 hown hC.1 hP 0 rfl rfl 7 (by decide) w1 (fun _ h9 => h9) rfl dX11_isRecord_22 ?_
    refine lv_goto (tgt := 29) hx hb dX11_isRecord_25 rfl ?_
    cases hf
    exact J2

/-! X11_create -/
abbrev rmX11_create : Room := { frames := 2, cells := 0, slots := 0, locals := 45 }
theorem hdS_X11_create : yX11_create.cls ≠ "java/lang/invoke/MethodHandle" ∧ yX11_create.cls ≠ "java/lang/invoke/VarHandle" ∧ (parseMethodDescriptor yX11_create.desc).map (fun d => d.parameters.length) = some 2 := by decide +kernel
theorem hdV_X11_create : yX11_create.cls = RX11 ∧ yX11_create.cls ≠ "java/lang/invoke/MethodHandle" ∧ yX11_create.cls ≠ "java/lang/invoke/VarHandle" ∧ (parseMethodDescriptor yX11_create.desc).map (fun d => d.parameters.length) = some 2 := ⟨rfl, hdS_X11_create⟩
set_option maxHeartbeats 4000000 in
set_option maxRecDepth 100000 in
theorem c_X11_create (l : Launch) (E : G0) (sz : Nat) (a0 : Nat → Nat) (v0 : MD) (p1 : Int32) (p2 : Int32) (x : Int32 × MD) (hf : f_X11_create v0 p1 p2 = some x) : Met l yX11_create wsX11_create rmX11_create (va_Pc [.ref (a0 0), .int p1, .int p2] (PW E (wMD E a0 v0) sz)) (va_Qi (fun r q => r = x.1 ∧ q = x.2) (fun q t => va_P E.1 vwCl ((fun q : MD => wMD E a0 q) q) t.heap ∧ va_D (va_A (wMD E a0 v0) sz) ((fun q : MD => wMD E a0 q) q)) (va_A (wMD E a0 v0) sz)) 0 0 (va_A (wMD E a0 v0) sz) := by
  refine Met.ofW (cc := cX11_create) (maxL := 3) (ret := some .int) (by decide) rfl ?_
  intro p e s m args below meth c s₁ B hml hv
  obtain ⟨ha, hsz, hP, hD0, hC⟩ := hv
  have hx := B.exec
  have hb := B.bytes
  have hr := B.returns
  have hts := atoms_spec (ws := wsX11_create) B.pre
  have hown : s.vm.findClass RX11 = some m.cls := findClass_of_methodNamed B.named
  have hlocks := B.notSynchronized
  subst hsz
  have hD := hD0.self (sz := s.heap.size)
  generalize hAe : va_A (wMD E a0 v0) s.heap.size = A at hD hC ⊢
  have hA : ∀ q : Nat, s.heap.size ≤ q → A q := fun q h => by rw [← hAe]; exact Or.inr h
  have hS : va_S A s.heap s.heap [] := va_S.rf
  have w1 : (Cond.constant RX11 261 (-1000002)).before args s = true := hts _ (List.mem_of_getElem? (i := 1) rfl)
  have w2 : (Cond.constant RX11 235 (-1000001)).before args s = true := hts _ (List.mem_of_getElem? (i := 3) rfl)
  have w3 : (Cond.constantLong RX11 84 (5)).before args s = true := hts _ (List.mem_of_getElem? (i := 2) rfl)
  have w4 : (Cond.fieldLink RX11 7 "GreatChunksModel" "now" "[J").before args s = true := hts _ (List.mem_of_getElem? (i := 4) rfl)
  have w5 : ∀ w ∈ wsX110, w ∈ wsX11_create := in_pl 29 rfl
  generalize hQe : MQ below (va_Qi (fun r q => r = x.1 ∧ q = x.2) (fun q t => va_P E.1 vwCl ((fun q : MD => wMD E a0 q) q) t.heap ∧ va_D A ((fun q : MD => wMD E a0 q) q)) A) args s 0 0 A = Q
  refine st_W ha (Nat.le_of_ble_eq_true rfl) (fun ls hl => ?_)
  have hl : lv_has ls 3 [(0, .ref (a0 0)), (1, .int p1), (2, .int p2)] := hl
  unfold f_X11_create at hf
  refine lv_aload_n hx hb dX11_create_0 rfl (lv_at hl 0 rfl) ?_
  obtain ⟨r1, e1, hf⟩ := bd_some hf
  refine cr_i (va_runV (As := []) (rest := []) ⟨hx, hb, hml, hown, hts⟩ (c_X11_isHouse l E a0 v0 r1 e1) (cwV 0 hts gX11_create_X11_isHouse rfl rfl rfl hdV_X11_isHouse ⟨Nat.le_of_ble_eq_true rfl, Nat.le_of_ble_eq_true rfl⟩) ⟨PR.blind, va_recv hC.1 hP (ci := 9) (q0 := 0) rfl rfl, PR.pre hC hS hP⟩ rfl rfl hl.1 rfl (lv_room (Nat.le_of_ble_eq_true rfl)) dX11_create_1 ⟨Nat.le_of_ble_eq_true rfl, Nat.le_of_ble_eq_true rfl⟩) ?_
  refine lv_if_ne (tgt := 11) hx hb dX11_create_4 rfl (fun c2 => ?_) (fun c2 => ?_)
  · have hf := it_f hf c2
    refine lv_iload_n hx hb dX11_create_11 rfl (lv_at hl 1 rfl) ?_
    refine cr_i (va_runS (As := [.int p1]) (rest := []) ⟨hx, hb, hml, hown, hts⟩ (c_X11_isFile l E p1 _ rfl) (va_cwS 1 hts gX11_create_X11_isFile rfl rfl rfl hdS_X11_isFile ⟨Nat.le_of_ble_eq_true rfl, Nat.le_of_ble_eq_true rfl⟩) ⟨PR.blind, PR.pre hC hS (hP.sub [] rfl)⟩ rfl rfl hl.1 rfl (lv_room (Nat.le_of_ble_eq_true rfl)) dX11_create_12 ⟨Nat.le_of_ble_eq_true rfl, Nat.le_of_ble_eq_true rfl⟩) ?_
    refine lv_if_eq (tgt := 30) hx hb dX11_create_15 rfl (fun c3 => ?_) (fun c3 => ?_)
    · have hf := it_t hf c3
      refine lv_ldc hx hb hown w2 dX11_create_30 ?_
      cases Option.some.inj hf
      subst hQe
      exact ew_i (wf := (fun q : MD => wMD E a0 q)) hx hb hr hlocks hP hD hS dX11_create_32
    · have hf := it_f hf c3
      refine lv_iload_n hx hb dX11_create_18 rfl (lv_at hl 2 rfl) ?_
      refine lv_i2l hx hb dX11_create_19 rfl ?_
      refine lv_lconst (v := 1) hx hb dX11_create_20 rfl ?_
      refine lv_ldc2 hx hb hown w3 dX11_create_21 ?_
      refine cr_i (va_runS (As := [.long p2.toInt64, .long (1 : Int64), .long ((5) : Int64)]) (rest := []) ⟨hx, hb, hml, hown, hts⟩ (c_X11_in l E p2.toInt64 (1 : Int64) ((5) : Int64) _ rfl) (va_cwS 3 hts gX11_create_X11_in rfl rfl rfl hdS_X11_in ⟨Nat.le_of_ble_eq_true rfl, Nat.le_of_ble_eq_true rfl⟩) ⟨PR.blind, PR.pre hC hS (hP.sub [] rfl)⟩ rfl rfl hl.1 rfl (lv_room (Nat.le_of_ble_eq_true rfl)) dX11_create_24 ⟨Nat.le_of_ble_eq_true rfl, Nat.le_of_ble_eq_true rfl⟩) ?_
      refine lv_if_ne (tgt := 33) hx hb dX11_create_27 rfl (fun c4 => ?_) (fun c4 => ?_)
      · have hf := it_f hf c4
        refine lv_aload_n hx hb dX11_create_33 rfl (lv_at hl 0 rfl) ?_
        refine va_get (D := E.1) (ci := 9) (v := .ref (a0 1)) (C := RX11) (T := TX11) (N := 17) hx hb hts w5 hown hC.1 hP 0 rfl rfl 0 (by decide) w4 (fun _ h9 => h9) rfl dX11_create_34 ?_
        refine lv_bipush (v := 22) hx hb dX11_create_37 rfl ?_
        refine lv_bipush (v := 8) hx hb dX11_create_39 rfl ?_
        refine lv_iload_n hx hb dX11_create_41 rfl (lv_at hl 1 rfl) ?_
        refine lv_imul hx hb dX11_create_42 ?_
        refine lv_iadd hx hb dX11_create_43 ?_
        refine lv_iconst (v := 0) hx hb dX11_create_44 rfl ?_
        refine lv_iadd hx hb dX11_create_45 ?_
        obtain ⟨h5, hf⟩ := gdI_some hf
        refine va_lald hx hb hC.1 hP 1 1 rfl rfl h5 dX11_create_46 ?_
        refine lv_lconst (v := 0) hx hb dX11_create_47 rfl ?_
        refine W.lcmp hx hb dX11_create_48 ?_
        refine lv_if_eq (tgt := 56) hx hb dX11_create_49 rfl (fun c6 => ?_) (fun c6 => ?_)
        · have hf := it_t hf c6
          refine lv_aload_n hx hb dX11_create_56 rfl (lv_at hl 0 rfl) ?_
          obtain ⟨r7, e7, hf⟩ := bd_some hf
          refine cq_v hP hD hS [0, 1, 2, 3, 4, 5, 6, 7] [] [0, 1, 2, 3, 4, 5, 6, 7] (va_free (wc := (wMD E a0 v0)) hD hS hA [0, 1, 2, 3, 4, 5, 6, 7] rfl) (va_runV (As := []) (rest := []) ⟨hx, hb, hml, hown, hts⟩ (c_X11_notes l E s.heap.size a0 v0 r7 e7) (cwV 0 hts gX11_create_X11_notes rfl rfl rfl hdV_X11_notes ⟨Nat.le_of_ble_eq_true rfl, Nat.le_of_ble_eq_true rfl⟩) ⟨PW.blind, va_recv hC.1 hP (ci := 9) (q0 := 0) rfl rfl, PW.pre hC hS hP hD (va_free hD hS hA [0, 1, 2, 3, 4, 5, 6, 7] rfl)⟩ rfl rfl hl.1 rfl (lv_room (Nat.le_of_ble_eq_true rfl)) dX11_create_57 ⟨Nat.le_of_ble_eq_true rfl, Nat.le_of_ble_eq_true rfl⟩) rfl rfl rfl rfl (wMD E a0 r7) rfl rfl (fun H locs hP hD hS => ?_)
          refine lv_aload_n hx hb dX11_create_60 rfl (lv_at hl 0 rfl) ?_
          refine va_get (D := E.1) (ci := 9) (v := .ref (a0 1)) (C := RX11) (T := TX11) (N := 17) hx hb hts w5 hown hC.1 hP 0 rfl rfl 0 (by decide) w4 (fun _ h9 => h9) rfl dX11_create_61 ?_
          refine lv_bipush (v := 22) hx hb dX11_create_64 rfl ?_
          refine lv_bipush (v := 8) hx hb dX11_create_66 rfl ?_
          refine lv_iload_n hx hb dX11_create_68 rfl (lv_at hl 1 rfl) ?_
          refine lv_imul hx hb dX11_create_69 ?_
          refine lv_iadd hx hb dX11_create_70 ?_
          refine lv_iconst (v := 0) hx hb dX11_create_71 rfl ?_
          refine lv_iadd hx hb dX11_create_72 ?_
          refine lv_lconst (v := 1) hx hb dX11_create_73 rfl ?_
          obtain ⟨h8, hf⟩ := gdI_some hf
          refine va_last hx hb hC.1 hP hD hS 1 1 rfl rfl h8 dX11_create_74 (fun H locs hP hD hS => ?_)
          have hP : va_P E.1 vwCl (wMD E a0 ((vp_updL r7.1 (((22 : Int32) + ((8 : Int32) * p1)) + (0 : Int32)).toNatClampNeg (1 : Int64)), r7.2.1, r7.2.2.1, r7.2.2.2.1, r7.2.2.2.2.1, r7.2.2.2.2.2.1, r7.2.2.2.2.2.2.1, r7.2.2.2.2.2.2.2.1, r7.2.2.2.2.2.2.2.2.1, r7.2.2.2.2.2.2.2.2.2.1, r7.2.2.2.2.2.2.2.2.2.2.1, r7.2.2.2.2.2.2.2.2.2.2.2.1, r7.2.2.2.2.2.2.2.2.2.2.2.2.1, r7.2.2.2.2.2.2.2.2.2.2.2.2.2.1, r7.2.2.2.2.2.2.2.2.2.2.2.2.2.2.1, r7.2.2.2.2.2.2.2.2.2.2.2.2.2.2.2.1, r7.2.2.2.2.2.2.2.2.2.2.2.2.2.2.2.2)) H := hP
          have hD : va_D A (wMD E a0 ((vp_updL r7.1 (((22 : Int32) + ((8 : Int32) * p1)) + (0 : Int32)).toNatClampNeg (1 : Int64)), r7.2.1, r7.2.2.1, r7.2.2.2.1, r7.2.2.2.2.1, r7.2.2.2.2.2.1, r7.2.2.2.2.2.2.1, r7.2.2.2.2.2.2.2.1, r7.2.2.2.2.2.2.2.2.1, r7.2.2.2.2.2.2.2.2.2.1, r7.2.2.2.2.2.2.2.2.2.2.1, r7.2.2.2.2.2.2.2.2.2.2.2.1, r7.2.2.2.2.2.2.2.2.2.2.2.2.1, r7.2.2.2.2.2.2.2.2.2.2.2.2.2.1, r7.2.2.2.2.2.2.2.2.2.2.2.2.2.2.1, r7.2.2.2.2.2.2.2.2.2.2.2.2.2.2.2.1, r7.2.2.2.2.2.2.2.2.2.2.2.2.2.2.2.2)) := hD
          refine lv_aload_n hx hb dX11_create_75 rfl (lv_at hl 0 rfl) ?_
          refine va_get (D := E.1) (ci := 9) (v := .ref (a0 1)) (C := RX11) (T := TX11) (N := 17) hx hb hts w5 hown hC.1 hP 0 rfl rfl 0 (by decide) w4 (fun _ h9 => h9) rfl dX11_create_76 ?_
          refine lv_bipush (v := 22) hx hb dX11_create_79 rfl ?_
          refine lv_bipush (v := 8) hx hb dX11_create_81 rfl ?_
          refine lv_iload_n hx hb dX11_create_83 rfl (lv_at hl 1 rfl) ?_
          refine lv_imul hx hb dX11_create_84 ?_
          refine lv_iadd hx hb dX11_create_85 ?_
          refine lv_iconst (v := 1) hx hb dX11_create_86 rfl ?_
          refine lv_iadd hx hb dX11_create_87 ?_
          refine lv_iload_n hx hb dX11_create_88 rfl (lv_at hl 2 rfl) ?_
          refine lv_i2l hx hb dX11_create_89 rfl ?_
          obtain ⟨h9, hf⟩ := gdI_some hf
          refine va_last hx hb hC.1 hP hD hS 1 1 rfl rfl h9 dX11_create_90 (fun H locs hP hD hS => ?_)
          have hP : va_P E.1 vwCl (wMD E a0 ((vp_updL (vp_updL r7.1 (((22 : Int32) + ((8 : Int32) * p1)) + (0 : Int32)).toNatClampNeg (1 : Int64)) (((22 : Int32) + ((8 : Int32) * p1)) + (1 : Int32)).toNatClampNeg p2.toInt64), r7.2.1, r7.2.2.1, r7.2.2.2.1, r7.2.2.2.2.1, r7.2.2.2.2.2.1, r7.2.2.2.2.2.2.1, r7.2.2.2.2.2.2.2.1, r7.2.2.2.2.2.2.2.2.1, r7.2.2.2.2.2.2.2.2.2.1, r7.2.2.2.2.2.2.2.2.2.2.1, r7.2.2.2.2.2.2.2.2.2.2.2.1, r7.2.2.2.2.2.2.2.2.2.2.2.2.1, r7.2.2.2.2.2.2.2.2.2.2.2.2.2.1, r7.2.2.2.2.2.2.2.2.2.2.2.2.2.2.1, r7.2.2.2.2.2.2.2.2.2.2.2.2.2.2.2.1, r7.2.2.2.2.2.2.2.2.2.2.2.2.2.2.2.2)) H := hP
          have hD : va_D A (wMD E a0 ((vp_updL (vp_updL r7.1 (((22 : Int32) + ((8 : Int32) * p1)) + (0 : Int32)).toNatClampNeg (1 : Int64)) (((22 : Int32) + ((8 : Int32) * p1)) + (1 : Int32)).toNatClampNeg p2.toInt64), r7.2.1, r7.2.2.1, r7.2.2.2.1, r7.2.2.2.2.1, r7.2.2.2.2.2.1, r7.2.2.2.2.2.2.1, r7.2.2.2.2.2.2.2.1, r7.2.2.2.2.2.2.2.2.1, r7.2.2.2.2.2.2.2.2.2.1, r7.2.2.2.2.2.2.2.2.2.2.1, r7.2.2.2.2.2.2.2.2.2.2.2.1, r7.2.2.2.2.2.2.2.2.2.2.2.2.1, r7.2.2.2.2.2.2.2.2.2.2.2.2.2.1, r7.2.2.2.2.2.2.2.2.2.2.2.2.2.2.1, r7.2.2.2.2.2.2.2.2.2.2.2.2.2.2.2.1, r7.2.2.2.2.2.2.2.2.2.2.2.2.2.2.2.2)) := hD
          refine lv_aload_n hx hb dX11_create_91 rfl (lv_at hl 0 rfl) ?_
          refine va_get (D := E.1) (ci := 9) (v := .ref (a0 1)) (C := RX11) (T := TX11) (N := 17) hx hb hts w5 hown hC.1 hP 0 rfl rfl 0 (by decide) w4 (fun _ h9 => h9) rfl dX11_create_92 ?_
          refine lv_bipush (v := 22) hx hb dX11_create_95 rfl ?_
          refine lv_bipush (v := 8) hx hb dX11_create_97 rfl ?_
          refine lv_iload_n hx hb dX11_create_99 rfl (lv_at hl 1 rfl) ?_
          refine lv_imul hx hb dX11_create_100 ?_
          refine lv_iadd hx hb dX11_create_101 ?_
          refine lv_iconst (v := 2) hx hb dX11_create_102 rfl ?_
          refine lv_iadd hx hb dX11_create_103 ?_
          refine lv_lconst (v := 0) hx hb dX11_create_104 rfl ?_
          obtain ⟨h10, hf⟩ := gdI_some hf
          refine va_last hx hb hC.1 hP hD hS 1 1 rfl rfl h10 dX11_create_105 (fun H locs hP hD hS => ?_)
          have hP : va_P E.1 vwCl (wMD E a0 ((vp_updL (vp_updL (vp_updL r7.1 (((22 : Int32) + ((8 : Int32) * p1)) + (0 : Int32)).toNatClampNeg (1 : Int64)) (((22 : Int32) + ((8 : Int32) * p1)) + (1 : Int32)).toNatClampNeg p2.toInt64) (((22 : Int32) + ((8 : Int32) * p1)) + (2 : Int32)).toNatClampNeg (0 : Int64)), r7.2.1, r7.2.2.1, r7.2.2.2.1, r7.2.2.2.2.1, r7.2.2.2.2.2.1, r7.2.2.2.2.2.2.1, r7.2.2.2.2.2.2.2.1, r7.2.2.2.2.2.2.2.2.1, r7.2.2.2.2.2.2.2.2.2.1, r7.2.2.2.2.2.2.2.2.2.2.1, r7.2.2.2.2.2.2.2.2.2.2.2.1, r7.2.2.2.2.2.2.2.2.2.2.2.2.1, r7.2.2.2.2.2.2.2.2.2.2.2.2.2.1, r7.2.2.2.2.2.2.2.2.2.2.2.2.2.2.1, r7.2.2.2.2.2.2.2.2.2.2.2.2.2.2.2.1, r7.2.2.2.2.2.2.2.2.2.2.2.2.2.2.2.2)) H := hP
          have hD : va_D A (wMD E a0 ((vp_updL (vp_updL (vp_updL r7.1 (((22 : Int32) + ((8 : Int32) * p1)) + (0 : Int32)).toNatClampNeg (1 : Int64)) (((22 : Int32) + ((8 : Int32) * p1)) + (1 : Int32)).toNatClampNeg p2.toInt64) (((22 : Int32) + ((8 : Int32) * p1)) + (2 : Int32)).toNatClampNeg (0 : Int64)), r7.2.1, r7.2.2.1, r7.2.2.2.1, r7.2.2.2.2.1, r7.2.2.2.2.2.1, r7.2.2.2.2.2.2.1, r7.2.2.2.2.2.2.2.1, r7.2.2.2.2.2.2.2.2.1, r7.2.2.2.2.2.2.2.2.2.1, r7.2.2.2.2.2.2.2.2.2.2.1, r7.2.2.2.2.2.2.2.2.2.2.2.1, r7.2.2.2.2.2.2.2.2.2.2.2.2.1, r7.2.2.2.2.2.2.2.2.2.2.2.2.2.1, r7.2.2.2.2.2.2.2.2.2.2.2.2.2.2.1, r7.2.2.2.2.2.2.2.2.2.2.2.2.2.2.2.1, r7.2.2.2.2.2.2.2.2.2.2.2.2.2.2.2.2)) := hD
          refine lv_aload_n hx hb dX11_create_106 rfl (lv_at hl 0 rfl) ?_
          refine lv_iconst (v := 1) hx hb dX11_create_107 rfl ?_
          obtain ⟨r11, e11, hf⟩ := bd_some hf
          refine cr_i (va_runV (As := [.int (1 : Int32)]) (rest := []) ⟨hx, hb, hml, hown, hts⟩ (c_X11_filesThat l E a0 ((vp_updL (vp_updL (vp_updL r7.1 (((22 : Int32) + ((8 : Int32) * p1)) + (0 : Int32)).toNatClampNeg (1 : Int64)) (((22 : Int32) + ((8 : Int32) * p1)) + (1 : Int32)).toNatClampNeg p2.toInt64) (((22 : Int32) + ((8 : Int32) * p1)) + (2 : Int32)).toNatClampNeg (0 : Int64)), r7.2.1, r7.2.2.1, r7.2.2.2.1, r7.2.2.2.2.1, r7.2.2.2.2.2.1, r7.2.2.2.2.2.2.1, r7.2.2.2.2.2.2.2.1, r7.2.2.2.2.2.2.2.2.1, r7.2.2.2.2.2.2.2.2.2.1, r7.2.2.2.2.2.2.2.2.2.2.1, r7.2.2.2.2.2.2.2.2.2.2.2.1, r7.2.2.2.2.2.2.2.2.2.2.2.2.1, r7.2.2.2.2.2.2.2.2.2.2.2.2.2.1, r7.2.2.2.2.2.2.2.2.2.2.2.2.2.2.1, r7.2.2.2.2.2.2.2.2.2.2.2.2.2.2.2.1, r7.2.2.2.2.2.2.2.2.2.2.2.2.2.2.2.2) (1 : Int32) r11 e11) (cwV 1 hts gX11_create_X11_filesThat rfl rfl rfl hdV_X11_filesThat ⟨Nat.le_of_ble_eq_true rfl, Nat.le_of_ble_eq_true rfl⟩) ⟨PR.blind, va_recv hC.1 hP (ci := 9) (q0 := 0) rfl rfl, PR.pre hC hS hP⟩ rfl rfl hl.1 rfl (lv_room (Nat.le_of_ble_eq_true rfl)) dX11_create_108 ⟨Nat.le_of_ble_eq_true rfl, Nat.le_of_ble_eq_true rfl⟩) ?_
          cases Option.some.inj hf
          subst hQe
          exact ew_i (wf := (fun q : MD => wMD E a0 q)) hx hb hr hlocks hP hD hS dX11_create_111
        · have hf := it_f hf c6
          refine lv_ldcw hx hb hown w1 dX11_create_52 ?_
          cases Option.some.inj hf
          subst hQe
          exact ew_i (wf := (fun q : MD => wMD E a0 q)) hx hb hr hlocks hP hD hS dX11_create_55
      · have hf := it_t hf c4
        refine lv_ldc hx hb hown w2 dX11_create_30 ?_
        cases Option.some.inj hf
        subst hQe
        exact ew_i (wf := (fun q : MD => wMD E a0 q)) hx hb hr hlocks hP hD hS dX11_create_32
  · have hf := it_t hf c2
    refine lv_ldcw hx hb hown w1 dX11_create_7 ?_
    cases Option.some.inj hf
    subst hQe
    exact ew_i (wf := (fun q : MD => wMD E a0 q)) hx hb hr hlocks hP hD hS dX11_create_10

/-! X11_append -/
abbrev rmX11_append : Room := { frames := 7, cells := 0, slots := 0, locals := 164 }
theorem hdS_X11_append : yX11_append.cls ≠ "java/lang/invoke/MethodHandle" ∧ yX11_append.cls ≠ "java/lang/invoke/VarHandle" ∧ (parseMethodDescriptor yX11_append.desc).map (fun d => d.parameters.length) = some 1 := by decide +kernel
theorem hdV_X11_append : yX11_append.cls = RX11 ∧ yX11_append.cls ≠ "java/lang/invoke/MethodHandle" ∧ yX11_append.cls ≠ "java/lang/invoke/VarHandle" ∧ (parseMethodDescriptor yX11_append.desc).map (fun d => d.parameters.length) = some 1 := ⟨rfl, hdS_X11_append⟩
set_option maxHeartbeats 4000000 in
set_option maxRecDepth 100000 in
theorem c_X11_append (l : Launch) (E : G0) (sz : Nat) (a0 : Nat → Nat) (v0 : MD) (p1 : Int32) (x : Int32 × MD) (hf : f_X11_append v0 p1 = some x) : Met l yX11_append wsX11_append rmX11_append (va_Pc [.ref (a0 0), .int p1] (PW E (wMD E a0 v0) sz)) (va_Qi (fun r q => r = x.1 ∧ q = x.2) (fun q t => va_P E.1 vwCl ((fun q : MD => wMD E a0 q) q) t.heap ∧ va_D (va_A (wMD E a0 v0) sz) ((fun q : MD => wMD E a0 q) q)) (va_A (wMD E a0 v0) sz)) 0 0 (va_A (wMD E a0 v0) sz) := by
  refine Met.ofW (cc := cX11_append) (maxL := 3) (ret := some .int) (by decide) rfl ?_
  intro p e s m args below meth c s₁ B hml hv
  obtain ⟨ha, hsz, hP, hD0, hC⟩ := hv
  have hx := B.exec
  have hb := B.bytes
  have hr := B.returns
  have hts := atoms_spec (ws := wsX11_append) B.pre
  have hown : s.vm.findClass RX11 = some m.cls := findClass_of_methodNamed B.named
  have hlocks := B.notSynchronized
  subst hsz
  have hD := hD0.self (sz := s.heap.size)
  generalize hAe : va_A (wMD E a0 v0) s.heap.size = A at hD hC ⊢
  have hA : ∀ q : Nat, s.heap.size ≤ q → A q := fun q h => by rw [← hAe]; exact Or.inr h
  have hS : va_S A s.heap s.heap [] := va_S.rf
  have w1 : (Cond.constant RX11 261 (-1000002)).before args s = true := hts _ (List.mem_of_getElem? (i := 1) rfl)
  have w2 : (Cond.constant RX11 235 (-1000001)).before args s = true := hts _ (List.mem_of_getElem? (i := 2) rfl)
  have w3 : (Cond.fieldLink RX11 7 "GreatChunksModel" "now" "[J").before args s = true := hts _ (List.mem_of_getElem? (i := 3) rfl)
  have w4 : ∀ w ∈ wsX110, w ∈ wsX11_append := in_pl 154 rfl
  generalize hQe : MQ below (va_Qi (fun r q => r = x.1 ∧ q = x.2) (fun q t => va_P E.1 vwCl ((fun q : MD => wMD E a0 q) q) t.heap ∧ va_D A ((fun q : MD => wMD E a0 q) q)) A) args s 0 0 A = Q
  refine st_W ha (Nat.le_of_ble_eq_true rfl) (fun ls hl => ?_)
  have hl : lv_has ls 3 [(0, .ref (a0 0)), (1, .int p1)] := hl
  unfold f_X11_append at hf
  refine lv_aload_n hx hb dX11_append_0 rfl (lv_at hl 0 rfl) ?_
  obtain ⟨r1, e1, hf⟩ := bd_some hf
  refine cq_i hP hD hS [0, 1, 2, 3, 4, 5, 6, 7] [] [0, 1, 2, 3, 4, 5, 6, 7] (va_free (wc := (wMD E a0 v0)) hD hS hA [0, 1, 2, 3, 4, 5, 6, 7] rfl) (va_runV (As := []) (rest := []) ⟨hx, hb, hml, hown, hts⟩ (c_X11_isRecord l E s.heap.size a0 v0 r1 e1) (cwV 0 hts gX11_append_X11_isRecord rfl rfl rfl hdV_X11_isRecord ⟨Nat.le_of_ble_eq_true rfl, Nat.le_of_ble_eq_true rfl⟩) ⟨PW.blind, va_recv hC.1 hP (ci := 9) (q0 := 0) rfl rfl, PW.pre hC hS hP hD (va_free hD hS hA [0, 1, 2, 3, 4, 5, 6, 7] rfl)⟩ rfl rfl hl.1 rfl (lv_room (Nat.le_of_ble_eq_true rfl)) dX11_append_1 ⟨Nat.le_of_ble_eq_true rfl, Nat.le_of_ble_eq_true rfl⟩) rfl rfl rfl rfl (wMD E a0 r1.2) rfl rfl (fun H locs hP hD hS => ?_)
  refine lv_istore_n (lv' := [(2, .int (bI r1.1)), (0, .ref (a0 0)), (1, .int p1)]) hx hb dX11_append_4 rfl hl (by decide) rfl (fun ls hl => ?_)
  refine lv_aload_n hx hb dX11_append_5 rfl (lv_at hl 1 rfl) ?_
  obtain ⟨r2, e2, hf⟩ := bd_some hf
  refine cr_i (va_runV (As := []) (rest := []) ⟨hx, hb, hml, hown, hts⟩ (c_X11_isHouse l E a0 r1.2 r2 e2) (cwV 0 hts gX11_append_X11_isHouse rfl rfl rfl hdV_X11_isHouse ⟨Nat.le_of_ble_eq_true rfl, Nat.le_of_ble_eq_true rfl⟩) ⟨PR.blind, va_recv hC.1 hP (ci := 9) (q0 := 0) rfl rfl, PR.pre hC hS hP⟩ rfl rfl hl.1 rfl (lv_room (Nat.le_of_ble_eq_true rfl)) dX11_append_6 ⟨Nat.le_of_ble_eq_true rfl, Nat.le_of_ble_eq_true rfl⟩) ?_
  refine lv_if_ne (tgt := 16) hx hb dX11_append_9 rfl (fun c3 => ?_) (fun c3 => ?_)
  · have hf := it_f hf c3
    refine lv_iload_n hx hb dX11_append_16 rfl (lv_at hl 2 rfl) ?_
    refine cr_i (va_runS (As := [.int p1]) (rest := []) ⟨hx, hb, hml, hown, hts⟩ (c_X11_isFile l E p1 _ rfl) (va_cwS 1 hts gX11_append_X11_isFile rfl rfl rfl hdS_X11_isFile ⟨Nat.le_of_ble_eq_true rfl, Nat.le_of_ble_eq_true rfl⟩) ⟨PR.blind, PR.pre hC hS (hP.sub [] rfl)⟩ rfl rfl hl.1 rfl (lv_room (Nat.le_of_ble_eq_true rfl)) dX11_append_17 ⟨Nat.le_of_ble_eq_true rfl, Nat.le_of_ble_eq_true rfl⟩) ?_
    refine lv_if_eq (tgt := 27) hx hb dX11_append_20 rfl (fun c4 => ?_) (fun c4 => ?_)
    · have hf := it_t hf c4
      refine lv_ldc hx hb hown w2 dX11_append_27 ?_
      cases Option.some.inj hf
      subst hQe
      exact ew_i (wf := (fun q : MD => wMD E a0 q)) hx hb hr hlocks hP hD hS dX11_append_29
    · have hf := it_f hf c4
      refine lv_iload_n hx hb dX11_append_23 rfl (lv_at hl 0 rfl) ?_
      refine lv_if_ne (tgt := 30) hx hb dX11_append_24 rfl (fun c5 => ?_) (fun c5 => ?_)
      · have hf := it_f hf c5
        refine lv_aload_n hx hb dX11_append_30 rfl (lv_at hl 1 rfl) ?_
        refine lv_iload_n hx hb dX11_append_31 rfl (lv_at hl 2 rfl) ?_
        obtain ⟨r6, e6, hf⟩ := bd_some hf
        refine cr_i (va_runV (As := [.int p1]) (rest := []) ⟨hx, hb, hml, hown, hts⟩ (c_X11_isThere l E a0 r1.2 p1 r6 e6) (cwV 1 hts gX11_append_X11_isThere rfl rfl rfl hdV_X11_isThere ⟨Nat.le_of_ble_eq_true rfl, Nat.le_of_ble_eq_true rfl⟩) ⟨PR.blind, va_recv hC.1 hP (ci := 9) (q0 := 0) rfl rfl, PR.pre hC hS hP⟩ rfl rfl hl.1 rfl (lv_room (Nat.le_of_ble_eq_true rfl)) dX11_append_32 ⟨Nat.le_of_ble_eq_true rfl, Nat.le_of_ble_eq_true rfl⟩) ?_
        refine lv_if_ne (tgt := 42) hx hb dX11_append_35 rfl (fun c7 => ?_) (fun c7 => ?_)
        · have hf := it_f hf c7
          refine lv_aload_n hx hb dX11_append_42 rfl (lv_at hl 1 rfl) ?_
          obtain ⟨r8, e8, hf⟩ := bd_some hf
          refine cq_v hP hD hS [0, 1, 2, 3, 4, 5, 6, 7] [] [0, 1, 2, 3, 4, 5, 6, 7] (va_free (wc := (wMD E a0 r1.2)) hD hS hA [0, 1, 2, 3, 4, 5, 6, 7] rfl) (va_runV (As := []) (rest := []) ⟨hx, hb, hml, hown, hts⟩ (c_X11_notes l E H.size a0 r1.2 r8 e8) (cwV 0 hts gX11_append_X11_notes rfl rfl rfl hdV_X11_notes ⟨Nat.le_of_ble_eq_true rfl, Nat.le_of_ble_eq_true rfl⟩) ⟨PW.blind, va_recv hC.1 hP (ci := 9) (q0 := 0) rfl rfl, PW.pre hC hS hP hD (va_free hD hS hA [0, 1, 2, 3, 4, 5, 6, 7] rfl)⟩ rfl rfl hl.1 rfl (lv_room (Nat.le_of_ble_eq_true rfl)) dX11_append_43 ⟨Nat.le_of_ble_eq_true rfl, Nat.le_of_ble_eq_true rfl⟩) rfl rfl rfl rfl (wMD E a0 r8) rfl rfl (fun H locs hP hD hS => ?_)
          refine lv_aload_n hx hb dX11_append_46 rfl (lv_at hl 1 rfl) ?_
          refine lv_aload_n hx hb dX11_append_47 rfl (lv_at hl 1 rfl) ?_
          refine va_get (D := E.1) (ci := 9) (v := .ref (a0 1)) (C := RX11) (T := TX11) (N := 17) hx hb hts w4 hown hC.1 hP 0 rfl rfl 0 (by decide) w3 (fun _ h9 => h9) rfl dX11_append_48 ?_
          refine lv_iload_n hx hb dX11_append_51 rfl (lv_at hl 2 rfl) ?_
          obtain ⟨r9, e9, hf⟩ := bd_some hf
          refine cq_i hP hD hS [0, 7, 1] [2, 3, 4, 5, 6] [5, 7, 0, 1, 2, 3, 4, 6] (va_free (wc := (wMR E a0 r8 ++ wLA E (a0 1) 340 r8.1)) hD hS hA [0, 7, 1] rfl) (va_runV (As := [.ref (a0 1), .int p1]) (rest := []) ⟨hx, hb, hml, hown, hts⟩ (c_X11_appends l E H.size a0 r8 (a0 1) r8.1 p1 r9 e9) (cwV 2 hts gX11_append_X11_appends rfl rfl rfl hdV_X11_appends ⟨Nat.le_of_ble_eq_true rfl, Nat.le_of_ble_eq_true rfl⟩) ⟨PW.blind, va_recv hC.1 hP (ci := 9) (q0 := 0) rfl rfl, PW.pre hC hS (hP.sub [0, 7, 1] rfl) (hD.sub [0, 7, 1] rfl rfl) (va_free hD hS hA [0, 7, 1] rfl)⟩ rfl rfl hl.1 rfl (lv_room (Nat.le_of_ble_eq_true rfl)) dX11_append_52 ⟨Nat.le_of_ble_eq_true rfl, Nat.le_of_ble_eq_true rfl⟩) rfl rfl rfl rfl (wMD E a0 (r9.2, r8.2.1, r8.2.2.1, r8.2.2.2.1, r8.2.2.2.2.1, r8.2.2.2.2.2.1, r8.2.2.2.2.2.2.1, r8.2.2.2.2.2.2.2.1, r8.2.2.2.2.2.2.2.2.1, r8.2.2.2.2.2.2.2.2.2.1, r8.2.2.2.2.2.2.2.2.2.2.1, r8.2.2.2.2.2.2.2.2.2.2.2.1, r8.2.2.2.2.2.2.2.2.2.2.2.2.1, r8.2.2.2.2.2.2.2.2.2.2.2.2.2.1, r8.2.2.2.2.2.2.2.2.2.2.2.2.2.2.1, r8.2.2.2.2.2.2.2.2.2.2.2.2.2.2.2.1, r8.2.2.2.2.2.2.2.2.2.2.2.2.2.2.2.2)) rfl rfl (fun H locs hP hD hS => ?_)
          cases Option.some.inj hf
          subst hQe
          exact ew_i (wf := (fun q : MD => wMD E a0 q)) hx hb hr hlocks hP hD hS dX11_append_55
        · have hf := it_t hf c7
          refine lv_ldcw hx hb hown w1 dX11_append_38 ?_
          cases Option.some.inj hf
          subst hQe
          exact ew_i (wf := (fun q : MD => wMD E a0 q)) hx hb hr hlocks hP hD hS dX11_append_41
      · have hf := it_t hf c5
        refine lv_ldc hx hb hown w2 dX11_append_27 ?_
        cases Option.some.inj hf
        subst hQe
        exact ew_i (wf := (fun q : MD => wMD E a0 q)) hx hb hr hlocks hP hD hS dX11_append_29
  · have hf := it_t hf c3
    refine lv_ldcw hx hb hown w1 dX11_append_12 ?_
    cases Option.some.inj hf
    subst hQe
    exact ew_i (wf := (fun q : MD => wMD E a0 q)) hx hb hr hlocks hP hD hS dX11_append_15

/-! X11_isCell -/
abbrev rmX11_isCell : Room := { frames := 1, cells := 0, slots := 0, locals := 25 }
theorem hdS_X11_isCell : yX11_isCell.cls ≠ "java/lang/invoke/MethodHandle" ∧ yX11_isCell.cls ≠ "java/lang/invoke/VarHandle" ∧ (parseMethodDescriptor yX11_isCell.desc).map (fun d => d.parameters.length) = some 2 := by decide +kernel
theorem hdV_X11_isCell : yX11_isCell.cls = RX11 ∧ yX11_isCell.cls ≠ "java/lang/invoke/MethodHandle" ∧ yX11_isCell.cls ≠ "java/lang/invoke/VarHandle" ∧ (parseMethodDescriptor yX11_isCell.desc).map (fun d => d.parameters.length) = some 2 := ⟨rfl, hdS_X11_isCell⟩
set_option maxHeartbeats 4000000 in
set_option maxRecDepth 100000 in
theorem c_X11_isCell (l : Launch) (E : G0) (a0 : Nat → Nat) (v0 : MD) (p1 : Int32) (p2 : Int32) (x : Bool) (hf : f_X11_isCell v0 p1 p2 = some x) : Met l yX11_isCell wsX11_isCell rmX11_isCell (va_Pc [.ref (a0 0), .int p1, .int p2] (PR E (wMD E a0 v0))) (vp_Si (fun r => r = bI x)) 0 0 (fun _ => False) := by
  refine Met.ofW (cc := cX11_isCell) (maxL := 3) (ret := some .boolean) (by decide) rfl ?_
  intro p e s m args below meth c s₁ B hml hv
  obtain ⟨ha, hP, hC⟩ := hv
  have hx := B.exec
  have hb := B.bytes
  have hr := B.returns
  have hts := atoms_spec (ws := wsX11_isCell) B.pre
  have hown : s.vm.findClass RX11 = some m.cls := findClass_of_methodNamed B.named
  have hlocks := B.notSynchronized
  have hS : va_S (fun _ => False) s.heap s.heap [] := va_S.rf
  have w1 : (Cond.fieldLink RX11 7 "GreatChunksModel" "now" "[J").before args s = true := hts _ (List.mem_of_getElem? (i := 1) rfl)
  have w2 : ∀ w ∈ wsX110, w ∈ wsX11_isCell := in_pl 9 rfl
  generalize hQe : MQ below (vp_Si (fun r => r = bI x)) args s 0 0 (fun _ => False) = Q
  refine st_W ha (Nat.le_of_ble_eq_true rfl) (fun ls hl => ?_)
  have hl : lv_has ls 3 [(0, .ref (a0 0)), (1, .int p1), (2, .int p2)] := hl
  unfold f_X11_isCell at hf
  refine lv_iload_n hx hb dX11_isCell_0 rfl (lv_at hl 2 rfl) ?_
  refine lv_i2l hx hb dX11_isCell_1 rfl ?_
  refine lv_lconst (v := 0) hx hb dX11_isCell_2 rfl ?_
  refine lv_aload_n hx hb dX11_isCell_3 rfl (lv_at hl 0 rfl) ?_
  refine va_get (D := E.1) (ci := 9) (v := .ref (a0 1)) (C := RX11) (T := TX11) (N := 17) hx hb hts w2 hown hC.1 hP 0 rfl rfl 0 (by decide) w1 (fun _ h9 => h9) rfl dX11_isCell_4 ?_
  refine lv_iconst (v := 2) hx hb dX11_isCell_7 rfl ?_
  obtain ⟨h1, hf⟩ := gdI_some hf
  refine va_lald hx hb hC.1 hP 1 1 rfl rfl h1 dX11_isCell_8 ?_
  refine lv_aload_n hx hb dX11_isCell_9 rfl (lv_at hl 0 rfl) ?_
  refine va_get (D := E.1) (ci := 9) (v := .ref (a0 1)) (C := RX11) (T := TX11) (N := 17) hx hb hts w2 hown hC.1 hP 0 rfl rfl 0 (by decide) w1 (fun _ h9 => h9) rfl dX11_isCell_10 ?_
  refine lv_iload_n hx hb dX11_isCell_13 rfl (lv_at hl 1 rfl) ?_
  obtain ⟨r2, e2, hf⟩ := bd_some hf
  refine cr_i (va_runS (As := [.ref (a0 1), .int p1]) (rest := [.long (v0.1 (2 : Int32).toNatClampNeg), .long (0 : Int64), .long p2.toInt64]) ⟨hx, hb, hml, hown, hts⟩ (c_X11_many l E (a0 1) v0.1 p1 r2 e2) (va_cwS 2 hts gX11_isCell_X11_many rfl rfl rfl hdS_X11_many ⟨Nat.le_of_ble_eq_true rfl, Nat.le_of_ble_eq_true rfl⟩) ⟨PR.blind, PR.pre hC hS (hP.sub [1] rfl)⟩ rfl rfl hl.1 rfl (lv_room (Nat.le_of_ble_eq_true rfl)) dX11_isCell_14 ⟨Nat.le_of_ble_eq_true rfl, Nat.le_of_ble_eq_true rfl⟩) ?_
  refine lv_i2l hx hb dX11_isCell_17 rfl ?_
  refine lv_lmul hx hb dX11_isCell_18 ?_
  refine lv_lconst (v := 1) hx hb dX11_isCell_19 rfl ?_
  refine lv_lsub hx hb dX11_isCell_20 ?_
  refine cr_i (va_runS (As := [.long p2.toInt64, .long (0 : Int64), .long (((v0.1 (2 : Int32).toNatClampNeg) * r2.toInt64) - (1 : Int64))]) (rest := []) ⟨hx, hb, hml, hown, hts⟩ (c_X11_in l E p2.toInt64 (0 : Int64) (((v0.1 (2 : Int32).toNatClampNeg) * r2.toInt64) - (1 : Int64)) _ rfl) (va_cwS 3 hts gX11_isCell_X11_in rfl rfl rfl hdS_X11_in ⟨Nat.le_of_ble_eq_true rfl, Nat.le_of_ble_eq_true rfl⟩) ⟨PR.blind, PR.pre hC hS (hP.sub [] rfl)⟩ rfl rfl hl.1 rfl (lv_room (Nat.le_of_ble_eq_true rfl)) dX11_isCell_21 ⟨Nat.le_of_ble_eq_true rfl, Nat.le_of_ble_eq_true rfl⟩) ?_
  cases Option.some.inj hf
  subst hQe
  exact en_z hx hb hr hlocks rfl dX11_isCell_24

/-! X11_put -/
abbrev rmX11_put : Room := { frames := 6, cells := 0, slots := 0, locals := 148 }
theorem hdS_X11_put : yX11_put.cls ≠ "java/lang/invoke/MethodHandle" ∧ yX11_put.cls ≠ "java/lang/invoke/VarHandle" ∧ (parseMethodDescriptor yX11_put.desc).map (fun d => d.parameters.length) = some 3 := by decide +kernel
theorem hdV_X11_put : yX11_put.cls = RX11 ∧ yX11_put.cls ≠ "java/lang/invoke/MethodHandle" ∧ yX11_put.cls ≠ "java/lang/invoke/VarHandle" ∧ (parseMethodDescriptor yX11_put.desc).map (fun d => d.parameters.length) = some 3 := ⟨rfl, hdS_X11_put⟩
set_option maxHeartbeats 4000000 in
set_option maxRecDepth 100000 in
theorem c_X11_put (l : Launch) (E : G0) (sz : Nat) (a0 : Nat → Nat) (v0 : MD) (p1 : Int32) (p2 : Int32) (p3 : Int32) (x : Int32 × MD) (hf : f_X11_put v0 p1 p2 p3 = some x) : Met l yX11_put wsX11_put rmX11_put (va_Pc [.ref (a0 0), .int p1, .int p2, .int p3] (PW E (wMD E a0 v0) sz)) (va_Qi (fun r q => r = x.1 ∧ q = x.2) (fun q t => va_P E.1 vwCl ((fun q : MD => wMD E a0 q) q) t.heap ∧ va_D (va_A (wMD E a0 v0) sz) ((fun q : MD => wMD E a0 q) q)) (va_A (wMD E a0 v0) sz)) 0 0 (va_A (wMD E a0 v0) sz) := by
  refine Met.ofW (cc := cX11_put) (maxL := 4) (ret := some .int) (by decide) rfl ?_
  intro p e s m args below meth c s₁ B hml hv
  obtain ⟨ha, hsz, hP, hD0, hC⟩ := hv
  have hx := B.exec
  have hb := B.bytes
  have hr := B.returns
  have hts := atoms_spec (ws := wsX11_put) B.pre
  have hown : s.vm.findClass RX11 = some m.cls := findClass_of_methodNamed B.named
  have hlocks := B.notSynchronized
  subst hsz
  have hD := hD0.self (sz := s.heap.size)
  generalize hAe : va_A (wMD E a0 v0) s.heap.size = A at hD hC ⊢
  have hA : ∀ q : Nat, s.heap.size ≤ q → A q := fun q h => by rw [← hAe]; exact Or.inr h
  have hS : va_S A s.heap s.heap [] := va_S.rf
  have w1 : (Cond.constant RX11 261 (-1000002)).before args s = true := hts _ (List.mem_of_getElem? (i := 1) rfl)
  have w2 : (Cond.constant RX11 235 (-1000001)).before args s = true := hts _ (List.mem_of_getElem? (i := 2) rfl)
  have w3 : (Cond.fieldLink RX11 7 "GreatChunksModel" "now" "[J").before args s = true := hts _ (List.mem_of_getElem? (i := 3) rfl)
  have w4 : ∀ w ∈ wsX110, w ∈ wsX11_put := in_pl 111 rfl
  have w5 : (Cond.constantLong RX11 284 (2)).before args s = true := hts _ (List.mem_of_getElem? (i := 4) rfl)
  have w6 : (Cond.constantLong RX11 202 (97)).before args s = true := hts _ (List.mem_of_getElem? (i := 5) rfl)
  have w7 : (Cond.constantLong RX11 204 (122)).before args s = true := hts _ (List.mem_of_getElem? (i := 6) rfl)
  generalize hQe : MQ below (va_Qi (fun r q => r = x.1 ∧ q = x.2) (fun q t => va_P E.1 vwCl ((fun q : MD => wMD E a0 q) q) t.heap ∧ va_D A ((fun q : MD => wMD E a0 q) q)) A) args s 0 0 A = Q
  refine st_W ha (Nat.le_of_ble_eq_true rfl) (fun ls hl => ?_)
  have hl : lv_has ls 4 [(0, .ref (a0 0)), (1, .int p1), (2, .int p2), (3, .int p3)] := hl
  unfold f_X11_put at hf
  refine lv_aload_n hx hb dX11_put_0 rfl (lv_at hl 0 rfl) ?_
  obtain ⟨r1, e1, hf⟩ := bd_some hf
  refine cr_i (va_runV (As := []) (rest := []) ⟨hx, hb, hml, hown, hts⟩ (c_X11_isHouse l E a0 v0 r1 e1) (cwV 0 hts gX11_put_X11_isHouse rfl rfl rfl hdV_X11_isHouse ⟨Nat.le_of_ble_eq_true rfl, Nat.le_of_ble_eq_true rfl⟩) ⟨PR.blind, va_recv hC.1 hP (ci := 9) (q0 := 0) rfl rfl, PR.pre hC hS hP⟩ rfl rfl hl.1 rfl (lv_room (Nat.le_of_ble_eq_true rfl)) dX11_put_1 ⟨Nat.le_of_ble_eq_true rfl, Nat.le_of_ble_eq_true rfl⟩) ?_
  refine lv_if_ne (tgt := 11) hx hb dX11_put_4 rfl (fun c2 => ?_) (fun c2 => ?_)
  · have hf := it_f hf c2
    refine lv_iload_n hx hb dX11_put_11 rfl (lv_at hl 1 rfl) ?_
    refine cr_i (va_runS (As := [.int p1]) (rest := []) ⟨hx, hb, hml, hown, hts⟩ (c_X11_isFile l E p1 _ rfl) (va_cwS 1 hts gX11_put_X11_isFile rfl rfl rfl hdS_X11_isFile ⟨Nat.le_of_ble_eq_true rfl, Nat.le_of_ble_eq_true rfl⟩) ⟨PR.blind, PR.pre hC hS (hP.sub [] rfl)⟩ rfl rfl hl.1 rfl (lv_room (Nat.le_of_ble_eq_true rfl)) dX11_put_12 ⟨Nat.le_of_ble_eq_true rfl, Nat.le_of_ble_eq_true rfl⟩) ?_
    refine lv_if_ne (tgt := 21) hx hb dX11_put_15 rfl (fun c3 => ?_) (fun c3 => ?_)
    · have hf := it_f hf c3
      refine lv_aload_n hx hb dX11_put_21 rfl (lv_at hl 0 rfl) ?_
      refine lv_iload_n hx hb dX11_put_22 rfl (lv_at hl 1 rfl) ?_
      obtain ⟨r4, e4, hf⟩ := bd_some hf
      refine cr_i (va_runV (As := [.int p1]) (rest := []) ⟨hx, hb, hml, hown, hts⟩ (c_X11_isThere l E a0 v0 p1 r4 e4) (cwV 1 hts gX11_put_X11_isThere rfl rfl rfl hdV_X11_isThere ⟨Nat.le_of_ble_eq_true rfl, Nat.le_of_ble_eq_true rfl⟩) ⟨PR.blind, va_recv hC.1 hP (ci := 9) (q0 := 0) rfl rfl, PR.pre hC hS hP⟩ rfl rfl hl.1 rfl (lv_room (Nat.le_of_ble_eq_true rfl)) dX11_put_23 ⟨Nat.le_of_ble_eq_true rfl, Nat.le_of_ble_eq_true rfl⟩) ?_
      refine lv_if_eq (tgt := 50) hx hb dX11_put_26 rfl (fun c5 => ?_) (fun c5 => ?_)
      · have hf := it_t hf c5
        refine lv_ldcw hx hb hown w1 dX11_put_50 ?_
        cases Option.some.inj hf
        subst hQe
        exact ew_i (wf := (fun q : MD => wMD E a0 q)) hx hb hr hlocks hP hD hS dX11_put_53
      · have hf := it_f hf c5
        refine lv_aload_n hx hb dX11_put_29 rfl (lv_at hl 0 rfl) ?_
        refine va_get (D := E.1) (ci := 9) (v := .ref (a0 1)) (C := RX11) (T := TX11) (N := 17) hx hb hts w4 hown hC.1 hP 0 rfl rfl 0 (by decide) w3 (fun _ h9 => h9) rfl dX11_put_30 ?_
        refine lv_bipush (v := 22) hx hb dX11_put_33 rfl ?_
        refine lv_bipush (v := 8) hx hb dX11_put_35 rfl ?_
        refine lv_iload_n hx hb dX11_put_37 rfl (lv_at hl 1 rfl) ?_
        refine lv_imul hx hb dX11_put_38 ?_
        refine lv_iadd hx hb dX11_put_39 ?_
        refine lv_iconst (v := 1) hx hb dX11_put_40 rfl ?_
        refine lv_iadd hx hb dX11_put_41 ?_
        obtain ⟨h6, hf⟩ := gdI_some hf
        refine va_lald hx hb hC.1 hP 1 1 rfl rfl h6 dX11_put_42 ?_
        refine lv_ldc2 hx hb hown w5 dX11_put_43 ?_
        refine W.lcmp hx hb dX11_put_46 ?_
        refine lv_if_ne (tgt := 54) hx hb dX11_put_47 rfl (fun c7 => ?_) (fun c7 => ?_)
        · have hf := it_f hf c7
          refine lv_aload_n hx hb dX11_put_54 rfl (lv_at hl 0 rfl) ?_
          refine lv_iload_n hx hb dX11_put_55 rfl (lv_at hl 1 rfl) ?_
          refine lv_iload_n hx hb dX11_put_56 rfl (lv_at hl 2 rfl) ?_
          obtain ⟨r8, e8, hf⟩ := bd_some hf
          refine cr_i (va_runV (As := [.int p1, .int p2]) (rest := []) ⟨hx, hb, hml, hown, hts⟩ (c_X11_isCell l E a0 v0 p1 p2 r8 e8) (cwV 2 hts gX11_put_X11_isCell rfl rfl rfl hdV_X11_isCell ⟨Nat.le_of_ble_eq_true rfl, Nat.le_of_ble_eq_true rfl⟩) ⟨PR.blind, va_recv hC.1 hP (ci := 9) (q0 := 0) rfl rfl, PR.pre hC hS hP⟩ rfl rfl hl.1 rfl (lv_room (Nat.le_of_ble_eq_true rfl)) dX11_put_57 ⟨Nat.le_of_ble_eq_true rfl, Nat.le_of_ble_eq_true rfl⟩) ?_
          refine lv_if_eq (tgt := 77) hx hb dX11_put_60 rfl (fun c9 => ?_) (fun c9 => ?_)
          · have hf := it_t hf c9
            refine lv_ldc hx hb hown w2 dX11_put_77 ?_
            cases Option.some.inj hf
            subst hQe
            exact ew_i (wf := (fun q : MD => wMD E a0 q)) hx hb hr hlocks hP hD hS dX11_put_79
          · have hf := it_f hf c9
            refine lv_iload_n hx hb dX11_put_63 rfl (lv_at hl 3 rfl) ?_
            refine lv_i2l hx hb dX11_put_64 rfl ?_
            refine lv_ldc2 hx hb hown w6 dX11_put_65 ?_
            refine lv_ldc2 hx hb hown w7 dX11_put_68 ?_
            refine cr_i (va_runS (As := [.long p3.toInt64, .long ((97) : Int64), .long ((122) : Int64)]) (rest := []) ⟨hx, hb, hml, hown, hts⟩ (c_X11_in l E p3.toInt64 ((97) : Int64) ((122) : Int64) _ rfl) (va_cwS 3 hts gX11_put_X11_in rfl rfl rfl hdS_X11_in ⟨Nat.le_of_ble_eq_true rfl, Nat.le_of_ble_eq_true rfl⟩) ⟨PR.blind, PR.pre hC hS (hP.sub [] rfl)⟩ rfl rfl hl.1 rfl (lv_room (Nat.le_of_ble_eq_true rfl)) dX11_put_71 ⟨Nat.le_of_ble_eq_true rfl, Nat.le_of_ble_eq_true rfl⟩) ?_
            refine lv_if_ne (tgt := 80) hx hb dX11_put_74 rfl (fun c10 => ?_) (fun c10 => ?_)
            · have hf := it_f hf c10
              refine lv_aload_n hx hb dX11_put_80 rfl (lv_at hl 0 rfl) ?_
              obtain ⟨r11, e11, hf⟩ := bd_some hf
              refine cq_v hP hD hS [0, 1, 2, 3, 4, 5, 6, 7] [] [0, 1, 2, 3, 4, 5, 6, 7] (va_free (wc := (wMD E a0 v0)) hD hS hA [0, 1, 2, 3, 4, 5, 6, 7] rfl) (va_runV (As := []) (rest := []) ⟨hx, hb, hml, hown, hts⟩ (c_X11_notes l E s.heap.size a0 v0 r11 e11) (cwV 0 hts gX11_put_X11_notes rfl rfl rfl hdV_X11_notes ⟨Nat.le_of_ble_eq_true rfl, Nat.le_of_ble_eq_true rfl⟩) ⟨PW.blind, va_recv hC.1 hP (ci := 9) (q0 := 0) rfl rfl, PW.pre hC hS hP hD (va_free hD hS hA [0, 1, 2, 3, 4, 5, 6, 7] rfl)⟩ rfl rfl hl.1 rfl (lv_room (Nat.le_of_ble_eq_true rfl)) dX11_put_81 ⟨Nat.le_of_ble_eq_true rfl, Nat.le_of_ble_eq_true rfl⟩) rfl rfl rfl rfl (wMD E a0 r11) rfl rfl (fun H locs hP hD hS => ?_)
              refine lv_aload_n hx hb dX11_put_84 rfl (lv_at hl 0 rfl) ?_
              refine va_get (D := E.1) (ci := 9) (v := .ref (a0 1)) (C := RX11) (T := TX11) (N := 17) hx hb hts w4 hown hC.1 hP 0 rfl rfl 0 (by decide) w3 (fun _ h9 => h9) rfl dX11_put_85 ?_
              refine lv_iload_n hx hb dX11_put_88 rfl (lv_at hl 1 rfl) ?_
              refine lv_iload_n hx hb dX11_put_89 rfl (lv_at hl 2 rfl) ?_
              refine lv_iload_n hx hb dX11_put_90 rfl (lv_at hl 3 rfl) ?_
              obtain ⟨r12, e12, hf⟩ := bd_some hf
              refine cq_i hP hD hS [1] [0, 2, 3, 4, 5, 6, 7] [0, 7, 1, 2, 3, 4, 5, 6] (va_free (wc := (wLA E (a0 1) 340 r11.1)) hD hS hA [1] rfl) (va_runS (As := [.ref (a0 1), .int p1, .int p2, .int p3]) (rest := []) ⟨hx, hb, hml, hown, hts⟩ (c_X11_puts l E H.size (a0 1) r11.1 p1 p2 p3 r12 e12) (va_cwS 4 hts gX11_put_X11_puts rfl rfl rfl hdS_X11_puts ⟨Nat.le_of_ble_eq_true rfl, Nat.le_of_ble_eq_true rfl⟩) ⟨PW.blind, PW.pre hC hS (hP.sub [1] rfl) (hD.sub [1] rfl rfl) (va_free hD hS hA [1] rfl)⟩ rfl rfl hl.1 rfl (lv_room (Nat.le_of_ble_eq_true rfl)) dX11_put_91 ⟨Nat.le_of_ble_eq_true rfl, Nat.le_of_ble_eq_true rfl⟩) rfl rfl rfl rfl (wMD E a0 (r12.2, r11.2.1, r11.2.2.1, r11.2.2.2.1, r11.2.2.2.2.1, r11.2.2.2.2.2.1, r11.2.2.2.2.2.2.1, r11.2.2.2.2.2.2.2.1, r11.2.2.2.2.2.2.2.2.1, r11.2.2.2.2.2.2.2.2.2.1, r11.2.2.2.2.2.2.2.2.2.2.1, r11.2.2.2.2.2.2.2.2.2.2.2.1, r11.2.2.2.2.2.2.2.2.2.2.2.2.1, r11.2.2.2.2.2.2.2.2.2.2.2.2.2.1, r11.2.2.2.2.2.2.2.2.2.2.2.2.2.2.1, r11.2.2.2.2.2.2.2.2.2.2.2.2.2.2.2.1, r11.2.2.2.2.2.2.2.2.2.2.2.2.2.2.2.2)) rfl rfl (fun H locs hP hD hS => ?_)
              cases Option.some.inj hf
              subst hQe
              exact ew_i (wf := (fun q : MD => wMD E a0 q)) hx hb hr hlocks hP hD hS dX11_put_94
            · have hf := it_t hf c10
              refine lv_ldc hx hb hown w2 dX11_put_77 ?_
              cases Option.some.inj hf
              subst hQe
              exact ew_i (wf := (fun q : MD => wMD E a0 q)) hx hb hr hlocks hP hD hS dX11_put_79
        · have hf := it_t hf c7
          refine lv_ldcw hx hb hown w1 dX11_put_50 ?_
          cases Option.some.inj hf
          subst hQe
          exact ew_i (wf := (fun q : MD => wMD E a0 q)) hx hb hr hlocks hP hD hS dX11_put_53
    · have hf := it_t hf c3
      refine lv_ldc hx hb hown w2 dX11_put_18 ?_
      cases Option.some.inj hf
      subst hQe
      exact ew_i (wf := (fun q : MD => wMD E a0 q)) hx hb hr hlocks hP hD hS dX11_put_20
  · have hf := it_t hf c2
    refine lv_ldcw hx hb hown w1 dX11_put_7 ?_
    cases Option.some.inj hf
    subst hQe
    exact ew_i (wf := (fun q : MD => wMD E a0 q)) hx hb hr hlocks hP hD hS dX11_put_10

/-! X11_both -/
abbrev rmX11_both : Room := { frames := 2, cells := 0, slots := 0, locals := 45 }
theorem hdS_X11_both : yX11_both.cls ≠ "java/lang/invoke/MethodHandle" ∧ yX11_both.cls ≠ "java/lang/invoke/VarHandle" ∧ (parseMethodDescriptor yX11_both.desc).map (fun d => d.parameters.length) = some 2 := by decide +kernel
theorem hdV_X11_both : yX11_both.cls = RX11 ∧ yX11_both.cls ≠ "java/lang/invoke/MethodHandle" ∧ yX11_both.cls ≠ "java/lang/invoke/VarHandle" ∧ (parseMethodDescriptor yX11_both.desc).map (fun d => d.parameters.length) = some 2 := ⟨rfl, hdS_X11_both⟩
set_option maxHeartbeats 4000000 in
set_option maxRecDepth 100000 in
theorem c_X11_both (l : Launch) (E : G0) (sz : Nat) (a0 : Nat → Nat) (v0 : MD) (p1 : Int32) (p2 : Int32) (x : Int32 × MD) (hf : f_X11_both v0 p1 p2 = some x) : Met l yX11_both wsX11_both rmX11_both (va_Pc [.ref (a0 0), .int p1, .int p2] (PW E (wMD E a0 v0) sz)) (va_Qi (fun r q => r = x.1 ∧ q = x.2) (fun q t => va_P E.1 vwCl ((fun q : MD => wMD E a0 q) q) t.heap ∧ va_D (va_A (wMD E a0 v0) sz) ((fun q : MD => wMD E a0 q) q)) (va_A (wMD E a0 v0) sz)) 0 0 (va_A (wMD E a0 v0) sz) := by
  refine Met.ofW (cc := cX11_both) (maxL := 5) (ret := some .int) (by decide) rfl ?_
  intro p e s m args below meth c s₁ B hml hv
  obtain ⟨ha, hsz, hP, hD0, hC⟩ := hv
  have hx := B.exec
  have hb := B.bytes
  have hr := B.returns
  have hts := atoms_spec (ws := wsX11_both) B.pre
  have hown : s.vm.findClass RX11 = some m.cls := findClass_of_methodNamed B.named
  have hlocks := B.notSynchronized
  subst hsz
  have hD := hD0.self (sz := s.heap.size)
  generalize hAe : va_A (wMD E a0 v0) s.heap.size = A at hD hC ⊢
  have hA : ∀ q : Nat, s.heap.size ≤ q → A q := fun q h => by rw [← hAe]; exact Or.inr h
  have hS : va_S A s.heap s.heap [] := va_S.rf
  have w1 : (Cond.constant RX11 261 (-1000002)).before args s = true := hts _ (List.mem_of_getElem? (i := 1) rfl)
  have w2 : (Cond.constant RX11 235 (-1000001)).before args s = true := hts _ (List.mem_of_getElem? (i := 2) rfl)
  have w3 : (Cond.fieldLink RX11 7 "GreatChunksModel" "now" "[J").before args s = true := hts _ (List.mem_of_getElem? (i := 3) rfl)
  have w4 : ∀ w ∈ wsX110, w ∈ wsX11_both := in_pl 36 rfl
  have w5 : (Cond.constantLong RX11 51 (-1)).before args s = true := hts _ (List.mem_of_getElem? (i := 4) rfl)
  generalize hQe : MQ below (va_Qi (fun r q => r = x.1 ∧ q = x.2) (fun q t => va_P E.1 vwCl ((fun q : MD => wMD E a0 q) q) t.heap ∧ va_D A ((fun q : MD => wMD E a0 q) q)) A) args s 0 0 A = Q
  refine st_W ha (Nat.le_of_ble_eq_true rfl) (fun ls hl => ?_)
  have hl : lv_has ls 5 [(0, .ref (a0 0)), (1, .int p1), (2, .int p2)] := hl
  unfold f_X11_both at hf
  refine lv_aload_n hx hb dX11_both_0 rfl (lv_at hl 0 rfl) ?_
  obtain ⟨r1, e1, hf⟩ := bd_some hf
  refine cr_i (va_runV (As := []) (rest := []) ⟨hx, hb, hml, hown, hts⟩ (c_X11_isHouse l E a0 v0 r1 e1) (cwV 0 hts gX11_both_X11_isHouse rfl rfl rfl hdV_X11_isHouse ⟨Nat.le_of_ble_eq_true rfl, Nat.le_of_ble_eq_true rfl⟩) ⟨PR.blind, va_recv hC.1 hP (ci := 9) (q0 := 0) rfl rfl, PR.pre hC hS hP⟩ rfl rfl hl.1 rfl (lv_room (Nat.le_of_ble_eq_true rfl)) dX11_both_1 ⟨Nat.le_of_ble_eq_true rfl, Nat.le_of_ble_eq_true rfl⟩) ?_
  refine lv_if_ne (tgt := 11) hx hb dX11_both_4 rfl (fun c2 => ?_) (fun c2 => ?_)
  · have hf := it_f hf c2
    refine lv_iload_n hx hb dX11_both_11 rfl (lv_at hl 1 rfl) ?_
    refine cr_i (va_runS (As := [.int p1]) (rest := []) ⟨hx, hb, hml, hown, hts⟩ (c_X11_isFile l E p1 _ rfl) (va_cwS 1 hts gX11_both_X11_isFile rfl rfl rfl hdS_X11_isFile ⟨Nat.le_of_ble_eq_true rfl, Nat.le_of_ble_eq_true rfl⟩) ⟨PR.blind, PR.pre hC hS (hP.sub [] rfl)⟩ rfl rfl hl.1 rfl (lv_room (Nat.le_of_ble_eq_true rfl)) dX11_both_12 ⟨Nat.le_of_ble_eq_true rfl, Nat.le_of_ble_eq_true rfl⟩) ?_
    refine lv_if_eq (tgt := 25) hx hb dX11_both_15 rfl (fun c3 => ?_) (fun c3 => ?_)
    · have hf := it_t hf c3
      refine lv_ldc hx hb hown w2 dX11_both_25 ?_
      cases Option.some.inj hf
      subst hQe
      exact ew_i (wf := (fun q : MD => wMD E a0 q)) hx hb hr hlocks hP hD hS dX11_both_27
    · have hf := it_f hf c3
      refine lv_iload_n hx hb dX11_both_18 rfl (lv_at hl 2 rfl) ?_
      refine cr_i (va_runS (As := [.int p2]) (rest := []) ⟨hx, hb, hml, hown, hts⟩ (c_X11_isFile l E p2 _ rfl) (va_cwS 1 hts gX11_both_X11_isFile rfl rfl rfl hdS_X11_isFile ⟨Nat.le_of_ble_eq_true rfl, Nat.le_of_ble_eq_true rfl⟩) ⟨PR.blind, PR.pre hC hS (hP.sub [] rfl)⟩ rfl rfl hl.1 rfl (lv_room (Nat.le_of_ble_eq_true rfl)) dX11_both_19 ⟨Nat.le_of_ble_eq_true rfl, Nat.le_of_ble_eq_true rfl⟩) ?_
      refine lv_if_ne (tgt := 28) hx hb dX11_both_22 rfl (fun c4 => ?_) (fun c4 => ?_)
      · have hf := it_f hf c4
        refine lv_aload_n hx hb dX11_both_28 rfl (lv_at hl 0 rfl) ?_
        refine lv_iload_n hx hb dX11_both_29 rfl (lv_at hl 1 rfl) ?_
        obtain ⟨r5, e5, hf⟩ := bd_some hf
        refine cr_i (va_runV (As := [.int p1]) (rest := []) ⟨hx, hb, hml, hown, hts⟩ (c_X11_isThere l E a0 v0 p1 r5 e5) (cwV 1 hts gX11_both_X11_isThere rfl rfl rfl hdV_X11_isThere ⟨Nat.le_of_ble_eq_true rfl, Nat.le_of_ble_eq_true rfl⟩) ⟨PR.blind, va_recv hC.1 hP (ci := 9) (q0 := 0) rfl rfl, PR.pre hC hS hP⟩ rfl rfl hl.1 rfl (lv_room (Nat.le_of_ble_eq_true rfl)) dX11_both_30 ⟨Nat.le_of_ble_eq_true rfl, Nat.le_of_ble_eq_true rfl⟩) ?_
        refine lv_if_eq (tgt := 55) hx hb dX11_both_33 rfl (fun c6 => ?_) (fun c6 => ?_)
        · have hf := it_t hf c6
          refine lv_ldcw hx hb hown w1 dX11_both_55 ?_
          cases Option.some.inj hf
          subst hQe
          exact ew_i (wf := (fun q : MD => wMD E a0 q)) hx hb hr hlocks hP hD hS dX11_both_58
        · have hf := it_f hf c6
          refine lv_aload_n hx hb dX11_both_36 rfl (lv_at hl 0 rfl) ?_
          refine va_get (D := E.1) (ci := 9) (v := .ref (a0 1)) (C := RX11) (T := TX11) (N := 17) hx hb hts w4 hown hC.1 hP 0 rfl rfl 0 (by decide) w3 (fun _ h9 => h9) rfl dX11_both_37 ?_
          refine lv_bipush (v := 22) hx hb dX11_both_40 rfl ?_
          refine lv_bipush (v := 8) hx hb dX11_both_42 rfl ?_
          refine lv_iload_n hx hb dX11_both_44 rfl (lv_at hl 2 rfl) ?_
          refine lv_imul hx hb dX11_both_45 ?_
          refine lv_iadd hx hb dX11_both_46 ?_
          refine lv_iconst (v := 0) hx hb dX11_both_47 rfl ?_
          refine lv_iadd hx hb dX11_both_48 ?_
          obtain ⟨h7, hf⟩ := gdI_some hf
          refine va_lald hx hb hC.1 hP 1 1 rfl rfl h7 dX11_both_49 ?_
          refine lv_lconst (v := 0) hx hb dX11_both_50 rfl ?_
          refine W.lcmp hx hb dX11_both_51 ?_
          refine lv_if_eq (tgt := 59) hx hb dX11_both_52 rfl (fun c8 => ?_) (fun c8 => ?_)
          · have hf := it_t hf c8
            refine lv_aload_n hx hb dX11_both_59 rfl (lv_at hl 0 rfl) ?_
            obtain ⟨r9, e9, hf⟩ := bd_some hf
            refine cq_v hP hD hS [0, 1, 2, 3, 4, 5, 6, 7] [] [0, 1, 2, 3, 4, 5, 6, 7] (va_free (wc := (wMD E a0 v0)) hD hS hA [0, 1, 2, 3, 4, 5, 6, 7] rfl) (va_runV (As := []) (rest := []) ⟨hx, hb, hml, hown, hts⟩ (c_X11_notes l E s.heap.size a0 v0 r9 e9) (cwV 0 hts gX11_both_X11_notes rfl rfl rfl hdV_X11_notes ⟨Nat.le_of_ble_eq_true rfl, Nat.le_of_ble_eq_true rfl⟩) ⟨PW.blind, va_recv hC.1 hP (ci := 9) (q0 := 0) rfl rfl, PW.pre hC hS hP hD (va_free hD hS hA [0, 1, 2, 3, 4, 5, 6, 7] rfl)⟩ rfl rfl hl.1 rfl (lv_room (Nat.le_of_ble_eq_true rfl)) dX11_both_60 ⟨Nat.le_of_ble_eq_true rfl, Nat.le_of_ble_eq_true rfl⟩) rfl rfl rfl rfl (wMD E a0 r9) rfl rfl (fun H locs hP hD hS => ?_)
            refine lv_aload_n hx hb dX11_both_63 rfl (lv_at hl 0 rfl) ?_
            refine va_get (D := E.1) (ci := 9) (v := .ref (a0 1)) (C := RX11) (T := TX11) (N := 17) hx hb hts w4 hown hC.1 hP 0 rfl rfl 0 (by decide) w3 (fun _ h9 => h9) rfl dX11_both_64 ?_
            refine lv_bipush (v := 22) hx hb dX11_both_67 rfl ?_
            refine lv_bipush (v := 8) hx hb dX11_both_69 rfl ?_
            refine lv_iload_n hx hb dX11_both_71 rfl (lv_at hl 2 rfl) ?_
            refine lv_imul hx hb dX11_both_72 ?_
            refine lv_iadd hx hb dX11_both_73 ?_
            refine lv_iconst (v := 0) hx hb dX11_both_74 rfl ?_
            refine lv_iadd hx hb dX11_both_75 ?_
            refine lv_lconst (v := 1) hx hb dX11_both_76 rfl ?_
            obtain ⟨h10, hf⟩ := gdI_some hf
            refine va_last hx hb hC.1 hP hD hS 1 1 rfl rfl h10 dX11_both_77 (fun H locs hP hD hS => ?_)
            have hP : va_P E.1 vwCl (wMD E a0 ((vp_updL r9.1 (((22 : Int32) + ((8 : Int32) * p2)) + (0 : Int32)).toNatClampNeg (1 : Int64)), r9.2.1, r9.2.2.1, r9.2.2.2.1, r9.2.2.2.2.1, r9.2.2.2.2.2.1, r9.2.2.2.2.2.2.1, r9.2.2.2.2.2.2.2.1, r9.2.2.2.2.2.2.2.2.1, r9.2.2.2.2.2.2.2.2.2.1, r9.2.2.2.2.2.2.2.2.2.2.1, r9.2.2.2.2.2.2.2.2.2.2.2.1, r9.2.2.2.2.2.2.2.2.2.2.2.2.1, r9.2.2.2.2.2.2.2.2.2.2.2.2.2.1, r9.2.2.2.2.2.2.2.2.2.2.2.2.2.2.1, r9.2.2.2.2.2.2.2.2.2.2.2.2.2.2.2.1, r9.2.2.2.2.2.2.2.2.2.2.2.2.2.2.2.2)) H := hP
            have hD : va_D A (wMD E a0 ((vp_updL r9.1 (((22 : Int32) + ((8 : Int32) * p2)) + (0 : Int32)).toNatClampNeg (1 : Int64)), r9.2.1, r9.2.2.1, r9.2.2.2.1, r9.2.2.2.2.1, r9.2.2.2.2.2.1, r9.2.2.2.2.2.2.1, r9.2.2.2.2.2.2.2.1, r9.2.2.2.2.2.2.2.2.1, r9.2.2.2.2.2.2.2.2.2.1, r9.2.2.2.2.2.2.2.2.2.2.1, r9.2.2.2.2.2.2.2.2.2.2.2.1, r9.2.2.2.2.2.2.2.2.2.2.2.2.1, r9.2.2.2.2.2.2.2.2.2.2.2.2.2.1, r9.2.2.2.2.2.2.2.2.2.2.2.2.2.2.1, r9.2.2.2.2.2.2.2.2.2.2.2.2.2.2.2.1, r9.2.2.2.2.2.2.2.2.2.2.2.2.2.2.2.2)) := hD
            refine lv_aload_n hx hb dX11_both_78 rfl (lv_at hl 0 rfl) ?_
            refine va_get (D := E.1) (ci := 9) (v := .ref (a0 1)) (C := RX11) (T := TX11) (N := 17) hx hb hts w4 hown hC.1 hP 0 rfl rfl 0 (by decide) w3 (fun _ h9 => h9) rfl dX11_both_79 ?_
            refine lv_bipush (v := 22) hx hb dX11_both_82 rfl ?_
            refine lv_bipush (v := 8) hx hb dX11_both_84 rfl ?_
            refine lv_iload_n hx hb dX11_both_86 rfl (lv_at hl 2 rfl) ?_
            refine lv_imul hx hb dX11_both_87 ?_
            refine lv_iadd hx hb dX11_both_88 ?_
            refine lv_iconst (v := 1) hx hb dX11_both_89 rfl ?_
            refine lv_iadd hx hb dX11_both_90 ?_
            refine lv_aload_n hx hb dX11_both_91 rfl (lv_at hl 0 rfl) ?_
            refine va_get (D := E.1) (ci := 9) (v := .ref (a0 1)) (C := RX11) (T := TX11) (N := 17) hx hb hts w4 hown hC.1 hP 0 rfl rfl 0 (by decide) w3 (fun _ h9 => h9) rfl dX11_both_92 ?_
            refine lv_bipush (v := 22) hx hb dX11_both_95 rfl ?_
            refine lv_bipush (v := 8) hx hb dX11_both_97 rfl ?_
            refine lv_iload_n hx hb dX11_both_99 rfl (lv_at hl 1 rfl) ?_
            refine lv_imul hx hb dX11_both_100 ?_
            refine lv_iadd hx hb dX11_both_101 ?_
            refine lv_iconst (v := 1) hx hb dX11_both_102 rfl ?_
            refine lv_iadd hx hb dX11_both_103 ?_
            obtain ⟨h11, hf⟩ := gdI_some hf
            refine va_lald hx hb hC.1 hP 1 1 rfl rfl h11 dX11_both_104 ?_
            obtain ⟨h12, hf⟩ := gdI_some hf
            refine va_last hx hb hC.1 hP hD hS 1 1 rfl rfl h12 dX11_both_105 (fun H locs hP hD hS => ?_)
            have hP : va_P E.1 vwCl (wMD E a0 ((vp_updL (vp_updL r9.1 (((22 : Int32) + ((8 : Int32) * p2)) + (0 : Int32)).toNatClampNeg (1 : Int64)) (((22 : Int32) + ((8 : Int32) * p2)) + (1 : Int32)).toNatClampNeg ((vp_updL r9.1 (((22 : Int32) + ((8 : Int32) * p2)) + (0 : Int32)).toNatClampNeg (1 : Int64)) (((22 : Int32) + ((8 : Int32) * p1)) + (1 : Int32)).toNatClampNeg)), r9.2.1, r9.2.2.1, r9.2.2.2.1, r9.2.2.2.2.1, r9.2.2.2.2.2.1, r9.2.2.2.2.2.2.1, r9.2.2.2.2.2.2.2.1, r9.2.2.2.2.2.2.2.2.1, r9.2.2.2.2.2.2.2.2.2.1, r9.2.2.2.2.2.2.2.2.2.2.1, r9.2.2.2.2.2.2.2.2.2.2.2.1, r9.2.2.2.2.2.2.2.2.2.2.2.2.1, r9.2.2.2.2.2.2.2.2.2.2.2.2.2.1, r9.2.2.2.2.2.2.2.2.2.2.2.2.2.2.1, r9.2.2.2.2.2.2.2.2.2.2.2.2.2.2.2.1, r9.2.2.2.2.2.2.2.2.2.2.2.2.2.2.2.2)) H := hP
            have hD : va_D A (wMD E a0 ((vp_updL (vp_updL r9.1 (((22 : Int32) + ((8 : Int32) * p2)) + (0 : Int32)).toNatClampNeg (1 : Int64)) (((22 : Int32) + ((8 : Int32) * p2)) + (1 : Int32)).toNatClampNeg ((vp_updL r9.1 (((22 : Int32) + ((8 : Int32) * p2)) + (0 : Int32)).toNatClampNeg (1 : Int64)) (((22 : Int32) + ((8 : Int32) * p1)) + (1 : Int32)).toNatClampNeg)), r9.2.1, r9.2.2.1, r9.2.2.2.1, r9.2.2.2.2.1, r9.2.2.2.2.2.1, r9.2.2.2.2.2.2.1, r9.2.2.2.2.2.2.2.1, r9.2.2.2.2.2.2.2.2.1, r9.2.2.2.2.2.2.2.2.2.1, r9.2.2.2.2.2.2.2.2.2.2.1, r9.2.2.2.2.2.2.2.2.2.2.2.1, r9.2.2.2.2.2.2.2.2.2.2.2.2.1, r9.2.2.2.2.2.2.2.2.2.2.2.2.2.1, r9.2.2.2.2.2.2.2.2.2.2.2.2.2.2.1, r9.2.2.2.2.2.2.2.2.2.2.2.2.2.2.2.1, r9.2.2.2.2.2.2.2.2.2.2.2.2.2.2.2.2)) := hD
            refine lv_aload_n hx hb dX11_both_106 rfl (lv_at hl 0 rfl) ?_
            refine va_get (D := E.1) (ci := 9) (v := .ref (a0 1)) (C := RX11) (T := TX11) (N := 17) hx hb hts w4 hown hC.1 hP 0 rfl rfl 0 (by decide) w3 (fun _ h9 => h9) rfl dX11_both_107 ?_
            refine lv_bipush (v := 22) hx hb dX11_both_110 rfl ?_
            refine lv_bipush (v := 8) hx hb dX11_both_112 rfl ?_
            refine lv_iload_n hx hb dX11_both_114 rfl (lv_at hl 2 rfl) ?_
            refine lv_imul hx hb dX11_both_115 ?_
            refine lv_iadd hx hb dX11_both_116 ?_
            refine lv_iconst (v := 2) hx hb dX11_both_117 rfl ?_
            refine lv_iadd hx hb dX11_both_118 ?_
            refine lv_aload_n hx hb dX11_both_119 rfl (lv_at hl 0 rfl) ?_
            refine va_get (D := E.1) (ci := 9) (v := .ref (a0 1)) (C := RX11) (T := TX11) (N := 17) hx hb hts w4 hown hC.1 hP 0 rfl rfl 0 (by decide) w3 (fun _ h9 => h9) rfl dX11_both_120 ?_
            refine lv_iload_n hx hb dX11_both_123 rfl (lv_at hl 1 rfl) ?_
            obtain ⟨r13, e13, hf⟩ := bd_some hf
            refine cr_i (va_runS (As := [.ref (a0 1), .int p1]) (rest := [.int (((22 : Int32) + ((8 : Int32) * p2)) + (2 : Int32)), .ref (a0 1)]) ⟨hx, hb, hml, hown, hts⟩ (c_X11_many l E (a0 1) (vp_updL (vp_updL r9.1 (((22 : Int32) + ((8 : Int32) * p2)) + (0 : Int32)).toNatClampNeg (1 : Int64)) (((22 : Int32) + ((8 : Int32) * p2)) + (1 : Int32)).toNatClampNeg ((vp_updL r9.1 (((22 : Int32) + ((8 : Int32) * p2)) + (0 : Int32)).toNatClampNeg (1 : Int64)) (((22 : Int32) + ((8 : Int32) * p1)) + (1 : Int32)).toNatClampNeg)) p1 r13 e13) (va_cwS 2 hts gX11_both_X11_many rfl rfl rfl hdS_X11_many ⟨Nat.le_of_ble_eq_true rfl, Nat.le_of_ble_eq_true rfl⟩) ⟨PR.blind, PR.pre hC hS (hP.sub [1] rfl)⟩ rfl rfl hl.1 rfl (lv_room (Nat.le_of_ble_eq_true rfl)) dX11_both_124 ⟨Nat.le_of_ble_eq_true rfl, Nat.le_of_ble_eq_true rfl⟩) ?_
            refine lv_i2l hx hb dX11_both_127 rfl ?_
            obtain ⟨h14, hf⟩ := gdI_some hf
            refine va_last hx hb hC.1 hP hD hS 1 1 rfl rfl h14 dX11_both_128 (fun H locs hP hD hS => ?_)
            have hP : va_P E.1 vwCl (wMD E a0 ((vp_updL (vp_updL (vp_updL r9.1 (((22 : Int32) + ((8 : Int32) * p2)) + (0 : Int32)).toNatClampNeg (1 : Int64)) (((22 : Int32) + ((8 : Int32) * p2)) + (1 : Int32)).toNatClampNeg ((vp_updL r9.1 (((22 : Int32) + ((8 : Int32) * p2)) + (0 : Int32)).toNatClampNeg (1 : Int64)) (((22 : Int32) + ((8 : Int32) * p1)) + (1 : Int32)).toNatClampNeg)) (((22 : Int32) + ((8 : Int32) * p2)) + (2 : Int32)).toNatClampNeg r13.toInt64), r9.2.1, r9.2.2.1, r9.2.2.2.1, r9.2.2.2.2.1, r9.2.2.2.2.2.1, r9.2.2.2.2.2.2.1, r9.2.2.2.2.2.2.2.1, r9.2.2.2.2.2.2.2.2.1, r9.2.2.2.2.2.2.2.2.2.1, r9.2.2.2.2.2.2.2.2.2.2.1, r9.2.2.2.2.2.2.2.2.2.2.2.1, r9.2.2.2.2.2.2.2.2.2.2.2.2.1, r9.2.2.2.2.2.2.2.2.2.2.2.2.2.1, r9.2.2.2.2.2.2.2.2.2.2.2.2.2.2.1, r9.2.2.2.2.2.2.2.2.2.2.2.2.2.2.2.1, r9.2.2.2.2.2.2.2.2.2.2.2.2.2.2.2.2)) H := hP
            have hD : va_D A (wMD E a0 ((vp_updL (vp_updL (vp_updL r9.1 (((22 : Int32) + ((8 : Int32) * p2)) + (0 : Int32)).toNatClampNeg (1 : Int64)) (((22 : Int32) + ((8 : Int32) * p2)) + (1 : Int32)).toNatClampNeg ((vp_updL r9.1 (((22 : Int32) + ((8 : Int32) * p2)) + (0 : Int32)).toNatClampNeg (1 : Int64)) (((22 : Int32) + ((8 : Int32) * p1)) + (1 : Int32)).toNatClampNeg)) (((22 : Int32) + ((8 : Int32) * p2)) + (2 : Int32)).toNatClampNeg r13.toInt64), r9.2.1, r9.2.2.1, r9.2.2.2.1, r9.2.2.2.2.1, r9.2.2.2.2.2.1, r9.2.2.2.2.2.2.1, r9.2.2.2.2.2.2.2.1, r9.2.2.2.2.2.2.2.2.1, r9.2.2.2.2.2.2.2.2.2.1, r9.2.2.2.2.2.2.2.2.2.2.1, r9.2.2.2.2.2.2.2.2.2.2.2.1, r9.2.2.2.2.2.2.2.2.2.2.2.2.1, r9.2.2.2.2.2.2.2.2.2.2.2.2.2.1, r9.2.2.2.2.2.2.2.2.2.2.2.2.2.2.1, r9.2.2.2.2.2.2.2.2.2.2.2.2.2.2.2.1, r9.2.2.2.2.2.2.2.2.2.2.2.2.2.2.2.2)) := hD
            refine lv_iconst (v := 0) hx hb dX11_both_129 rfl ?_
            refine lv_istore_n (lv' := [(3, .int (0 : Int32)), (0, .ref (a0 0)), (1, .int p1), (2, .int p2)]) hx hb dX11_both_130 rfl hl (by decide) rfl (fun ls hl => ?_)
            obtain ⟨K15, hK15, hf⟩ := jn_some hf
            have J15 : ∀ (q15 : Int32 × MD) (H : Heap) (locs : List Loc) (hP : va_P E.1 vwCl (wMD E a0 q15.2) H) (hD : va_D A (wMD E a0 q15.2)) (hS : va_S A s.heap H locs) (ls : Array Slot) (hl : lv_has ls 5 [(0, .ref (a0 0)), (1, .int p1)]) (hf : K15 q15 = some x), W p l e (headSpec wsX11_both rmX11_both).room s m args below meth c H locs 0 0 Q (F0 m 214 ls []) := by
              intro q15 H locs hP hD hS ls hl hf
              have hf := (hK15 q15).trans hf
              refine lv_aload_n hx hb dX11_both_214 rfl (lv_at hl 0 rfl) ?_
              refine va_get (D := E.1) (ci := 9) (v := .ref (a0 1)) (C := RX11) (T := TX11) (N := 17) hx hb hts w4 hown hC.1 hP 0 rfl rfl 0 (by decide) w3 (fun _ h9 => h9) rfl dX11_both_215 ?_
              refine lv_iload_n hx hb dX11_both_218 rfl (lv_at hl 1 rfl) ?_
              obtain ⟨r16, e16, hf⟩ := bd_some hf
              refine cr_i (va_runS (As := [.ref (a0 1), .int p1]) (rest := []) ⟨hx, hb, hml, hown, hts⟩ (c_X11_many l E (a0 1) q15.2.1 p1 r16 e16) (va_cwS 2 hts gX11_both_X11_many rfl rfl rfl hdS_X11_many ⟨Nat.le_of_ble_eq_true rfl, Nat.le_of_ble_eq_true rfl⟩) ⟨PR.blind, PR.pre hC hS (hP.sub [1] rfl)⟩ rfl rfl hl.1 rfl (lv_room (Nat.le_of_ble_eq_true rfl)) dX11_both_219 ⟨Nat.le_of_ble_eq_true rfl, Nat.le_of_ble_eq_true rfl⟩) ?_
              cases Option.some.inj hf
              subst hQe
              exact ew_i (wf := (fun q : MD => wMD E a0 q)) hx hb hr hlocks hP hD hS dX11_both_222
            have L15 : ∀ (n : Nat) (q15 : Int32 × MD) (H : Heap) (locs : List Loc) (hP : va_P E.1 vwCl (wMD E a0 q15.2) H) (hD : va_D A (wMD E a0 q15.2)) (hS : va_S A s.heap H locs) (ls : Array Slot) (hl : lv_has ls 5 [(0, .ref (a0 0)), (1, .int p1), (2, .int p2), (3, .int q15.1)]) (hf : lpF (bX11_both_15 p1 p2 K15) n q15 = some x), W p l e (headSpec wsX11_both rmX11_both).room s m args below meth c H locs 0 0 Q (F0 m 131 ls []) := by
              intro n
              induction n with
              | zero => intro q15 H locs hP hD hS ls hl hf; exact (lpF_zero hf).elim
              | succ n ih15 =>
                intro q15 H locs hP hD hS ls hl hf
                have hf := lpF_succ hf
                unfold bX11_both_15 at hf
                refine lv_iload_n hx hb dX11_both_131 rfl (lv_at hl 3 rfl) ?_
                refine lv_aload_n hx hb dX11_both_132 rfl (lv_at hl 0 rfl) ?_
                refine va_get (D := E.1) (ci := 9) (v := .ref (a0 1)) (C := RX11) (T := TX11) (N := 17) hx hb hts w4 hown hC.1 hP 0 rfl rfl 0 (by decide) w3 (fun _ h9 => h9) rfl dX11_both_133 ?_
                refine lv_iload_n hx hb dX11_both_136 rfl (lv_at hl 1 rfl) ?_
                obtain ⟨r17, e17, hf⟩ := bd_some hf
                refine cr_i (va_runS (As := [.ref (a0 1), .int p1]) (rest := [.int q15.1]) ⟨hx, hb, hml, hown, hts⟩ (c_X11_many l E (a0 1) q15.2.1 p1 r17 e17) (va_cwS 2 hts gX11_both_X11_many rfl rfl rfl hdS_X11_many ⟨Nat.le_of_ble_eq_true rfl, Nat.le_of_ble_eq_true rfl⟩) ⟨PR.blind, PR.pre hC hS (hP.sub [1] rfl)⟩ rfl rfl hl.1 rfl (lv_room (Nat.le_of_ble_eq_true rfl)) dX11_both_137 ⟨Nat.le_of_ble_eq_true rfl, Nat.le_of_ble_eq_true rfl⟩) ?_
                refine lv_icmp_ge (tgt := 214) hx hb dX11_both_140 rfl (fun c18 => ?_) (fun c18 => ?_)
                · have hf := it_t hf c18
                  exact J15 (q15.1, q15.2) H locs hP hD hS ls (lv_sub hl [0, 1] rfl) hf
                · have hf := it_f hf c18
                  refine lv_aload_n hx hb dX11_both_143 rfl (lv_at hl 0 rfl) ?_
                  refine va_get (D := E.1) (ci := 9) (v := .ref (a0 1)) (C := RX11) (T := TX11) (N := 17) hx hb hts w4 hown hC.1 hP 0 rfl rfl 0 (by decide) w3 (fun _ h9 => h9) rfl dX11_both_144 ?_
                  refine lv_iload_n hx hb dX11_both_147 rfl (lv_at hl 1 rfl) ?_
                  refine lv_iload_n hx hb dX11_both_148 rfl (lv_at hl 3 rfl) ?_
                  obtain ⟨r19, e19, hf⟩ := bd_some hf
                  refine cr_i (va_runS (As := [.ref (a0 1), .int p1, .int q15.1]) (rest := []) ⟨hx, hb, hml, hown, hts⟩ (c_X11_chunkOf l E (a0 1) q15.2.1 p1 q15.1 r19 e19) (va_cwS 3 hts gX11_both_X11_chunkOf rfl rfl rfl hdS_X11_chunkOf ⟨Nat.le_of_ble_eq_true rfl, Nat.le_of_ble_eq_true rfl⟩) ⟨PR.blind, PR.pre hC hS (hP.sub [1] rfl)⟩ rfl rfl hl.1 rfl (lv_room (Nat.le_of_ble_eq_true rfl)) dX11_both_149 ⟨Nat.le_of_ble_eq_true rfl, Nat.le_of_ble_eq_true rfl⟩) ?_
                  refine lv_istore (lv' := [(4, .int r19), (0, .ref (a0 0)), (1, .int p1), (2, .int p2), (3, .int q15.1)]) hx hb dX11_both_152 hl (by decide) rfl (fun ls hl => ?_)
                  refine lv_aload_n hx hb dX11_both_154 rfl (lv_at hl 1 rfl) ?_
                  refine va_get (D := E.1) (ci := 9) (v := .ref (a0 1)) (C := RX11) (T := TX11) (N := 17) hx hb hts w4 hown hC.1 hP 0 rfl rfl 0 (by decide) w3 (fun _ h9 => h9) rfl dX11_both_155 ?_
                  refine lv_bipush (v := 22) hx hb dX11_both_158 rfl ?_
                  refine lv_bipush (v := 8) hx hb dX11_both_160 rfl ?_
                  refine lv_iload_n hx hb dX11_both_162 rfl (lv_at hl 3 rfl) ?_
                  refine lv_imul hx hb dX11_both_163 ?_
                  refine lv_iadd hx hb dX11_both_164 ?_
                  refine lv_iconst (v := 4) hx hb dX11_both_165 rfl ?_
                  refine lv_iadd hx hb dX11_both_166 ?_
                  refine lv_iload_n hx hb dX11_both_167 rfl (lv_at hl 4 rfl) ?_
                  refine lv_iadd hx hb dX11_both_168 ?_
                  refine lv_iload hx hb dX11_both_169 (lv_at hl 0 rfl) ?_
                  refine lv_i2l hx hb dX11_both_171 rfl ?_
                  obtain ⟨h20, hf⟩ := gdI_some hf
                  refine va_last hx hb hC.1 hP hD hS 1 1 rfl rfl h20 dX11_both_172 (fun H locs hP hD hS => ?_)
                  have hP : va_P E.1 vwCl (wMD E a0 ((vp_updL q15.2.1 ((((22 : Int32) + ((8 : Int32) * p2)) + (4 : Int32)) + q15.1).toNatClampNeg r19.toInt64), q15.2.2.1, q15.2.2.2.1, q15.2.2.2.2.1, q15.2.2.2.2.2.1, q15.2.2.2.2.2.2.1, q15.2.2.2.2.2.2.2.1, q15.2.2.2.2.2.2.2.2.1, q15.2.2.2.2.2.2.2.2.2.1, q15.2.2.2.2.2.2.2.2.2.2.1, q15.2.2.2.2.2.2.2.2.2.2.2.1, q15.2.2.2.2.2.2.2.2.2.2.2.2.1, q15.2.2.2.2.2.2.2.2.2.2.2.2.2.1, q15.2.2.2.2.2.2.2.2.2.2.2.2.2.2.1, q15.2.2.2.2.2.2.2.2.2.2.2.2.2.2.2.1, q15.2.2.2.2.2.2.2.2.2.2.2.2.2.2.2.2.1, q15.2.2.2.2.2.2.2.2.2.2.2.2.2.2.2.2.2)) H := hP
                  have hD : va_D A (wMD E a0 ((vp_updL q15.2.1 ((((22 : Int32) + ((8 : Int32) * p2)) + (4 : Int32)) + q15.1).toNatClampNeg r19.toInt64), q15.2.2.1, q15.2.2.2.1, q15.2.2.2.2.1, q15.2.2.2.2.2.1, q15.2.2.2.2.2.2.1, q15.2.2.2.2.2.2.2.1, q15.2.2.2.2.2.2.2.2.1, q15.2.2.2.2.2.2.2.2.2.1, q15.2.2.2.2.2.2.2.2.2.2.1, q15.2.2.2.2.2.2.2.2.2.2.2.1, q15.2.2.2.2.2.2.2.2.2.2.2.2.1, q15.2.2.2.2.2.2.2.2.2.2.2.2.2.1, q15.2.2.2.2.2.2.2.2.2.2.2.2.2.2.1, q15.2.2.2.2.2.2.2.2.2.2.2.2.2.2.2.1, q15.2.2.2.2.2.2.2.2.2.2.2.2.2.2.2.2.1, q15.2.2.2.2.2.2.2.2.2.2.2.2.2.2.2.2.2)) := hD
                  refine lv_aload_n hx hb dX11_both_173 rfl (lv_at hl 1 rfl) ?_
                  refine va_get (D := E.1) (ci := 9) (v := .ref (a0 1)) (C := RX11) (T := TX11) (N := 17) hx hb hts w4 hown hC.1 hP 0 rfl rfl 0 (by decide) w3 (fun _ h9 => h9) rfl dX11_both_174 ?_
                  refine lv_bipush (v := 70) hx hb dX11_both_177 rfl ?_
                  refine lv_iconst (v := 4) hx hb dX11_both_179 rfl ?_
                  refine lv_iload hx hb dX11_both_180 (lv_at hl 0 rfl) ?_
                  refine lv_imul hx hb dX11_both_182 ?_
                  refine lv_iadd hx hb dX11_both_183 ?_
                  refine lv_iconst (v := 1) hx hb dX11_both_184 rfl ?_
                  refine lv_iadd hx hb dX11_both_185 ?_
                  refine lv_dup2_11 hx hb dX11_both_186 rfl rfl ?_
                  obtain ⟨h21, hf⟩ := gdI_some hf
                  refine va_lald hx hb hC.1 hP 1 1 rfl rfl h21 dX11_both_187 ?_
                  refine lv_lconst (v := 1) hx hb dX11_both_188 rfl ?_
                  refine lv_ladd hx hb dX11_both_189 ?_
                  obtain ⟨h22, hf⟩ := gdI_some hf
                  refine va_last hx hb hC.1 hP hD hS 1 1 rfl rfl h22 dX11_both_190 (fun H locs hP hD hS => ?_)
                  have hP : va_P E.1 vwCl (wMD E a0 ((vp_updL (vp_updL q15.2.1 ((((22 : Int32) + ((8 : Int32) * p2)) + (4 : Int32)) + q15.1).toNatClampNeg r19.toInt64) (((70 : Int32) + ((4 : Int32) * r19)) + (1 : Int32)).toNatClampNeg (((vp_updL q15.2.1 ((((22 : Int32) + ((8 : Int32) * p2)) + (4 : Int32)) + q15.1).toNatClampNeg r19.toInt64) (((70 : Int32) + ((4 : Int32) * r19)) + (1 : Int32)).toNatClampNeg) + (1 : Int64))), q15.2.2.1, q15.2.2.2.1, q15.2.2.2.2.1, q15.2.2.2.2.2.1, q15.2.2.2.2.2.2.1, q15.2.2.2.2.2.2.2.1, q15.2.2.2.2.2.2.2.2.1, q15.2.2.2.2.2.2.2.2.2.1, q15.2.2.2.2.2.2.2.2.2.2.1, q15.2.2.2.2.2.2.2.2.2.2.2.1, q15.2.2.2.2.2.2.2.2.2.2.2.2.1, q15.2.2.2.2.2.2.2.2.2.2.2.2.2.1, q15.2.2.2.2.2.2.2.2.2.2.2.2.2.2.1, q15.2.2.2.2.2.2.2.2.2.2.2.2.2.2.2.1, q15.2.2.2.2.2.2.2.2.2.2.2.2.2.2.2.2.1, q15.2.2.2.2.2.2.2.2.2.2.2.2.2.2.2.2.2)) H := hP
                  have hD : va_D A (wMD E a0 ((vp_updL (vp_updL q15.2.1 ((((22 : Int32) + ((8 : Int32) * p2)) + (4 : Int32)) + q15.1).toNatClampNeg r19.toInt64) (((70 : Int32) + ((4 : Int32) * r19)) + (1 : Int32)).toNatClampNeg (((vp_updL q15.2.1 ((((22 : Int32) + ((8 : Int32) * p2)) + (4 : Int32)) + q15.1).toNatClampNeg r19.toInt64) (((70 : Int32) + ((4 : Int32) * r19)) + (1 : Int32)).toNatClampNeg) + (1 : Int64))), q15.2.2.1, q15.2.2.2.1, q15.2.2.2.2.1, q15.2.2.2.2.2.1, q15.2.2.2.2.2.2.1, q15.2.2.2.2.2.2.2.1, q15.2.2.2.2.2.2.2.2.1, q15.2.2.2.2.2.2.2.2.2.1, q15.2.2.2.2.2.2.2.2.2.2.1, q15.2.2.2.2.2.2.2.2.2.2.2.1, q15.2.2.2.2.2.2.2.2.2.2.2.2.1, q15.2.2.2.2.2.2.2.2.2.2.2.2.2.1, q15.2.2.2.2.2.2.2.2.2.2.2.2.2.2.1, q15.2.2.2.2.2.2.2.2.2.2.2.2.2.2.2.1, q15.2.2.2.2.2.2.2.2.2.2.2.2.2.2.2.2.1, q15.2.2.2.2.2.2.2.2.2.2.2.2.2.2.2.2.2)) := hD
                  refine lv_aload_n hx hb dX11_both_191 rfl (lv_at hl 1 rfl) ?_
                  refine va_get (D := E.1) (ci := 9) (v := .ref (a0 1)) (C := RX11) (T := TX11) (N := 17) hx hb hts w4 hown hC.1 hP 0 rfl rfl 0 (by decide) w3 (fun _ h9 => h9) rfl dX11_both_192 ?_
                  refine lv_bipush (v := 70) hx hb dX11_both_195 rfl ?_
                  refine lv_iconst (v := 4) hx hb dX11_both_197 rfl ?_
                  refine lv_iload hx hb dX11_both_198 (lv_at hl 0 rfl) ?_
                  refine lv_imul hx hb dX11_both_200 ?_
                  refine lv_iadd hx hb dX11_both_201 ?_
                  refine lv_iconst (v := 2) hx hb dX11_both_202 rfl ?_
                  refine lv_iadd hx hb dX11_both_203 ?_
                  refine lv_ldc2 hx hb hown w5 dX11_both_204 ?_
                  obtain ⟨h23, hf⟩ := gdI_some hf
                  refine va_last hx hb hC.1 hP hD hS 1 1 rfl rfl h23 dX11_both_207 (fun H locs hP hD hS => ?_)
                  have hP : va_P E.1 vwCl (wMD E a0 ((vp_updL (vp_updL (vp_updL q15.2.1 ((((22 : Int32) + ((8 : Int32) * p2)) + (4 : Int32)) + q15.1).toNatClampNeg r19.toInt64) (((70 : Int32) + ((4 : Int32) * r19)) + (1 : Int32)).toNatClampNeg (((vp_updL q15.2.1 ((((22 : Int32) + ((8 : Int32) * p2)) + (4 : Int32)) + q15.1).toNatClampNeg r19.toInt64) (((70 : Int32) + ((4 : Int32) * r19)) + (1 : Int32)).toNatClampNeg) + (1 : Int64))) (((70 : Int32) + ((4 : Int32) * r19)) + (2 : Int32)).toNatClampNeg ((-1) : Int64)), q15.2.2.1, q15.2.2.2.1, q15.2.2.2.2.1, q15.2.2.2.2.2.1, q15.2.2.2.2.2.2.1, q15.2.2.2.2.2.2.2.1, q15.2.2.2.2.2.2.2.2.1, q15.2.2.2.2.2.2.2.2.2.1, q15.2.2.2.2.2.2.2.2.2.2.1, q15.2.2.2.2.2.2.2.2.2.2.2.1, q15.2.2.2.2.2.2.2.2.2.2.2.2.1, q15.2.2.2.2.2.2.2.2.2.2.2.2.2.1, q15.2.2.2.2.2.2.2.2.2.2.2.2.2.2.1, q15.2.2.2.2.2.2.2.2.2.2.2.2.2.2.2.1, q15.2.2.2.2.2.2.2.2.2.2.2.2.2.2.2.2.1, q15.2.2.2.2.2.2.2.2.2.2.2.2.2.2.2.2.2)) H := hP
                  have hD : va_D A (wMD E a0 ((vp_updL (vp_updL (vp_updL q15.2.1 ((((22 : Int32) + ((8 : Int32) * p2)) + (4 : Int32)) + q15.1).toNatClampNeg r19.toInt64) (((70 : Int32) + ((4 : Int32) * r19)) + (1 : Int32)).toNatClampNeg (((vp_updL q15.2.1 ((((22 : Int32) + ((8 : Int32) * p2)) + (4 : Int32)) + q15.1).toNatClampNeg r19.toInt64) (((70 : Int32) + ((4 : Int32) * r19)) + (1 : Int32)).toNatClampNeg) + (1 : Int64))) (((70 : Int32) + ((4 : Int32) * r19)) + (2 : Int32)).toNatClampNeg ((-1) : Int64)), q15.2.2.1, q15.2.2.2.1, q15.2.2.2.2.1, q15.2.2.2.2.2.1, q15.2.2.2.2.2.2.1, q15.2.2.2.2.2.2.2.1, q15.2.2.2.2.2.2.2.2.1, q15.2.2.2.2.2.2.2.2.2.1, q15.2.2.2.2.2.2.2.2.2.2.1, q15.2.2.2.2.2.2.2.2.2.2.2.1, q15.2.2.2.2.2.2.2.2.2.2.2.2.1, q15.2.2.2.2.2.2.2.2.2.2.2.2.2.1, q15.2.2.2.2.2.2.2.2.2.2.2.2.2.2.1, q15.2.2.2.2.2.2.2.2.2.2.2.2.2.2.2.1, q15.2.2.2.2.2.2.2.2.2.2.2.2.2.2.2.2.1, q15.2.2.2.2.2.2.2.2.2.2.2.2.2.2.2.2.2)) := hD
                  refine lv_iinc (v := (q15.1 + 1)) (lv' := [(3, .int (q15.1 + 1)), (4, .int r19), (0, .ref (a0 0)), (1, .int p1), (2, .int p2)]) hx hb dX11_both_208 hl (k := 4) rfl rfl (by decide) rfl (fun ls hl => ?_)
                  refine lv_goto (tgt := 131) hx hb dX11_both_211 rfl ?_
                  exact ih15 ((q15.1 + 1), ((vp_updL (vp_updL (vp_updL q15.2.1 ((((22 : Int32) + ((8 : Int32) * p2)) + (4 : Int32)) + q15.1).toNatClampNeg r19.toInt64) (((70 : Int32) + ((4 : Int32) * r19)) + (1 : Int32)).toNatClampNeg (((vp_updL q15.2.1 ((((22 : Int32) + ((8 : Int32) * p2)) + (4 : Int32)) + q15.1).toNatClampNeg r19.toInt64) (((70 : Int32) + ((4 : Int32) * r19)) + (1 : Int32)).toNatClampNeg) + (1 : Int64))) (((70 : Int32) + ((4 : Int32) * r19)) + (2 : Int32)).toNatClampNeg ((-1) : Int64)), q15.2.2.1, q15.2.2.2.1, q15.2.2.2.2.1, q15.2.2.2.2.2.1, q15.2.2.2.2.2.2.1, q15.2.2.2.2.2.2.2.1, q15.2.2.2.2.2.2.2.2.1, q15.2.2.2.2.2.2.2.2.2.1, q15.2.2.2.2.2.2.2.2.2.2.1, q15.2.2.2.2.2.2.2.2.2.2.2.1, q15.2.2.2.2.2.2.2.2.2.2.2.2.1, q15.2.2.2.2.2.2.2.2.2.2.2.2.2.1, q15.2.2.2.2.2.2.2.2.2.2.2.2.2.2.1, q15.2.2.2.2.2.2.2.2.2.2.2.2.2.2.2.1, q15.2.2.2.2.2.2.2.2.2.2.2.2.2.2.2.2.1, q15.2.2.2.2.2.2.2.2.2.2.2.2.2.2.2.2.2)) H locs hP hD hS ls (lv_sub hl [2, 3, 4, 0] rfl) hf
            exact L15 FU ((0 : Int32), ((vp_updL (vp_updL (vp_updL r9.1 (((22 : Int32) + ((8 : Int32) * p2)) + (0 : Int32)).toNatClampNeg (1 : Int64)) (((22 : Int32) + ((8 : Int32) * p2)) + (1 : Int32)).toNatClampNeg ((vp_updL r9.1 (((22 : Int32) + ((8 : Int32) * p2)) + (0 : Int32)).toNatClampNeg (1 : Int64)) (((22 : Int32) + ((8 : Int32) * p1)) + (1 : Int32)).toNatClampNeg)) (((22 : Int32) + ((8 : Int32) * p2)) + (2 : Int32)).toNatClampNeg r13.toInt64), r9.2.1, r9.2.2.1, r9.2.2.2.1, r9.2.2.2.2.1, r9.2.2.2.2.2.1, r9.2.2.2.2.2.2.1, r9.2.2.2.2.2.2.2.1, r9.2.2.2.2.2.2.2.2.1, r9.2.2.2.2.2.2.2.2.2.1, r9.2.2.2.2.2.2.2.2.2.2.1, r9.2.2.2.2.2.2.2.2.2.2.2.1, r9.2.2.2.2.2.2.2.2.2.2.2.2.1, r9.2.2.2.2.2.2.2.2.2.2.2.2.2.1, r9.2.2.2.2.2.2.2.2.2.2.2.2.2.2.1, r9.2.2.2.2.2.2.2.2.2.2.2.2.2.2.2.1, r9.2.2.2.2.2.2.2.2.2.2.2.2.2.2.2.2)) H locs hP hD hS ls (lv_sub hl [1, 2, 3, 0] rfl) hf
          · have hf := it_f hf c8
            refine lv_ldcw hx hb hown w1 dX11_both_55 ?_
            cases Option.some.inj hf
            subst hQe
            exact ew_i (wf := (fun q : MD => wMD E a0 q)) hx hb hr hlocks hP hD hS dX11_both_58
      · have hf := it_t hf c4
        refine lv_ldc hx hb hown w2 dX11_both_25 ?_
        cases Option.some.inj hf
        subst hQe
        exact ew_i (wf := (fun q : MD => wMD E a0 q)) hx hb hr hlocks hP hD hS dX11_both_27
  · have hf := it_t hf c2
    refine lv_ldcw hx hb hown w1 dX11_both_7 ?_
    cases Option.some.inj hf
    subst hQe
    exact ew_i (wf := (fun q : MD => wMD E a0 q)) hx hb hr hlocks hP hD hS dX11_both_10

/-! X11_remove -/
abbrev rmX11_remove : Room := { frames := 2, cells := 0, slots := 0, locals := 45 }
theorem hdS_X11_remove : yX11_remove.cls ≠ "java/lang/invoke/MethodHandle" ∧ yX11_remove.cls ≠ "java/lang/invoke/VarHandle" ∧ (parseMethodDescriptor yX11_remove.desc).map (fun d => d.parameters.length) = some 1 := by decide +kernel
theorem hdV_X11_remove : yX11_remove.cls = RX11 ∧ yX11_remove.cls ≠ "java/lang/invoke/MethodHandle" ∧ yX11_remove.cls ≠ "java/lang/invoke/VarHandle" ∧ (parseMethodDescriptor yX11_remove.desc).map (fun d => d.parameters.length) = some 1 := ⟨rfl, hdS_X11_remove⟩
set_option maxHeartbeats 4000000 in
set_option maxRecDepth 100000 in
theorem c_X11_remove (l : Launch) (E : G0) (sz : Nat) (a0 : Nat → Nat) (v0 : MD) (p1 : Int32) (x : Int32 × MD) (hf : f_X11_remove v0 p1 = some x) : Met l yX11_remove wsX11_remove rmX11_remove (va_Pc [.ref (a0 0), .int p1] (PW E (wMD E a0 v0) sz)) (va_Qi (fun r q => r = x.1 ∧ q = x.2) (fun q t => va_P E.1 vwCl ((fun q : MD => wMD E a0 q) q) t.heap ∧ va_D (va_A (wMD E a0 v0) sz) ((fun q : MD => wMD E a0 q) q)) (va_A (wMD E a0 v0) sz)) 0 0 (va_A (wMD E a0 v0) sz) := by
  refine Met.ofW (cc := cX11_remove) (maxL := 4) (ret := some .int) (by decide) rfl ?_
  intro p e s m args below meth c s₁ B hml hv
  obtain ⟨ha, hsz, hP, hD0, hC⟩ := hv
  have hx := B.exec
  have hb := B.bytes
  have hr := B.returns
  have hts := atoms_spec (ws := wsX11_remove) B.pre
  have hown : s.vm.findClass RX11 = some m.cls := findClass_of_methodNamed B.named
  have hlocks := B.notSynchronized
  subst hsz
  have hD := hD0.self (sz := s.heap.size)
  generalize hAe : va_A (wMD E a0 v0) s.heap.size = A at hD hC ⊢
  have hA : ∀ q : Nat, s.heap.size ≤ q → A q := fun q h => by rw [← hAe]; exact Or.inr h
  have hS : va_S A s.heap s.heap [] := va_S.rf
  have w1 : (Cond.constant RX11 261 (-1000002)).before args s = true := hts _ (List.mem_of_getElem? (i := 1) rfl)
  have w2 : (Cond.constant RX11 235 (-1000001)).before args s = true := hts _ (List.mem_of_getElem? (i := 2) rfl)
  have w3 : (Cond.fieldLink RX11 7 "GreatChunksModel" "now" "[J").before args s = true := hts _ (List.mem_of_getElem? (i := 3) rfl)
  have w4 : ∀ w ∈ wsX110, w ∈ wsX11_remove := in_pl 43 rfl
  have w5 : (Cond.constantLong RX11 284 (2)).before args s = true := hts _ (List.mem_of_getElem? (i := 4) rfl)
  generalize hQe : MQ below (va_Qi (fun r q => r = x.1 ∧ q = x.2) (fun q t => va_P E.1 vwCl ((fun q : MD => wMD E a0 q) q) t.heap ∧ va_D A ((fun q : MD => wMD E a0 q) q)) A) args s 0 0 A = Q
  refine st_W ha (Nat.le_of_ble_eq_true rfl) (fun ls hl => ?_)
  have hl : lv_has ls 4 [(0, .ref (a0 0)), (1, .int p1)] := hl
  unfold f_X11_remove at hf
  refine lv_aload_n hx hb dX11_remove_0 rfl (lv_at hl 0 rfl) ?_
  obtain ⟨r1, e1, hf⟩ := bd_some hf
  refine cr_i (va_runV (As := []) (rest := []) ⟨hx, hb, hml, hown, hts⟩ (c_X11_isHouse l E a0 v0 r1 e1) (cwV 0 hts gX11_remove_X11_isHouse rfl rfl rfl hdV_X11_isHouse ⟨Nat.le_of_ble_eq_true rfl, Nat.le_of_ble_eq_true rfl⟩) ⟨PR.blind, va_recv hC.1 hP (ci := 9) (q0 := 0) rfl rfl, PR.pre hC hS hP⟩ rfl rfl hl.1 rfl (lv_room (Nat.le_of_ble_eq_true rfl)) dX11_remove_1 ⟨Nat.le_of_ble_eq_true rfl, Nat.le_of_ble_eq_true rfl⟩) ?_
  refine lv_if_ne (tgt := 11) hx hb dX11_remove_4 rfl (fun c2 => ?_) (fun c2 => ?_)
  · have hf := it_f hf c2
    refine lv_iload_n hx hb dX11_remove_11 rfl (lv_at hl 1 rfl) ?_
    refine cr_i (va_runS (As := [.int p1]) (rest := []) ⟨hx, hb, hml, hown, hts⟩ (c_X11_isFile l E p1 _ rfl) (va_cwS 1 hts gX11_remove_X11_isFile rfl rfl rfl hdS_X11_isFile ⟨Nat.le_of_ble_eq_true rfl, Nat.le_of_ble_eq_true rfl⟩) ⟨PR.blind, PR.pre hC hS (hP.sub [] rfl)⟩ rfl rfl hl.1 rfl (lv_room (Nat.le_of_ble_eq_true rfl)) dX11_remove_12 ⟨Nat.le_of_ble_eq_true rfl, Nat.le_of_ble_eq_true rfl⟩) ?_
    refine lv_if_ne (tgt := 21) hx hb dX11_remove_15 rfl (fun c3 => ?_) (fun c3 => ?_)
    · have hf := it_f hf c3
      refine lv_aload_n hx hb dX11_remove_21 rfl (lv_at hl 0 rfl) ?_
      refine lv_iload_n hx hb dX11_remove_22 rfl (lv_at hl 1 rfl) ?_
      obtain ⟨r4, e4, hf⟩ := bd_some hf
      refine cr_i (va_runV (As := [.int p1]) (rest := []) ⟨hx, hb, hml, hown, hts⟩ (c_X11_isThere l E a0 v0 p1 r4 e4) (cwV 1 hts gX11_remove_X11_isThere rfl rfl rfl hdV_X11_isThere ⟨Nat.le_of_ble_eq_true rfl, Nat.le_of_ble_eq_true rfl⟩) ⟨PR.blind, va_recv hC.1 hP (ci := 9) (q0 := 0) rfl rfl, PR.pre hC hS hP⟩ rfl rfl hl.1 rfl (lv_room (Nat.le_of_ble_eq_true rfl)) dX11_remove_23 ⟨Nat.le_of_ble_eq_true rfl, Nat.le_of_ble_eq_true rfl⟩) ?_
      refine lv_if_ne (tgt := 33) hx hb dX11_remove_26 rfl (fun c5 => ?_) (fun c5 => ?_)
      · have hf := it_f hf c5
        refine lv_aload_n hx hb dX11_remove_33 rfl (lv_at hl 0 rfl) ?_
        obtain ⟨r6, e6, hf⟩ := bd_some hf
        refine cq_v hP hD hS [0, 1, 2, 3, 4, 5, 6, 7] [] [0, 1, 2, 3, 4, 5, 6, 7] (va_free (wc := (wMD E a0 v0)) hD hS hA [0, 1, 2, 3, 4, 5, 6, 7] rfl) (va_runV (As := []) (rest := []) ⟨hx, hb, hml, hown, hts⟩ (c_X11_notes l E s.heap.size a0 v0 r6 e6) (cwV 0 hts gX11_remove_X11_notes rfl rfl rfl hdV_X11_notes ⟨Nat.le_of_ble_eq_true rfl, Nat.le_of_ble_eq_true rfl⟩) ⟨PW.blind, va_recv hC.1 hP (ci := 9) (q0 := 0) rfl rfl, PW.pre hC hS hP hD (va_free hD hS hA [0, 1, 2, 3, 4, 5, 6, 7] rfl)⟩ rfl rfl hl.1 rfl (lv_room (Nat.le_of_ble_eq_true rfl)) dX11_remove_34 ⟨Nat.le_of_ble_eq_true rfl, Nat.le_of_ble_eq_true rfl⟩) rfl rfl rfl rfl (wMD E a0 r6) rfl rfl (fun H locs hP hD hS => ?_)
        refine lv_aload_n hx hb dX11_remove_37 rfl (lv_at hl 0 rfl) ?_
        refine va_get (D := E.1) (ci := 9) (v := .ref (a0 1)) (C := RX11) (T := TX11) (N := 17) hx hb hts w4 hown hC.1 hP 0 rfl rfl 0 (by decide) w3 (fun _ h9 => h9) rfl dX11_remove_38 ?_
        refine lv_bipush (v := 22) hx hb dX11_remove_41 rfl ?_
        refine lv_bipush (v := 8) hx hb dX11_remove_43 rfl ?_
        refine lv_iload_n hx hb dX11_remove_45 rfl (lv_at hl 1 rfl) ?_
        refine lv_imul hx hb dX11_remove_46 ?_
        refine lv_iadd hx hb dX11_remove_47 ?_
        refine lv_iconst (v := 0) hx hb dX11_remove_48 rfl ?_
        refine lv_iadd hx hb dX11_remove_49 ?_
        refine lv_ldc2 hx hb hown w5 dX11_remove_50 ?_
        obtain ⟨h7, hf⟩ := gdI_some hf
        refine va_last hx hb hC.1 hP hD hS 1 1 rfl rfl h7 dX11_remove_53 (fun H locs hP hD hS => ?_)
        have hP : va_P E.1 vwCl (wMD E a0 ((vp_updL r6.1 (((22 : Int32) + ((8 : Int32) * p1)) + (0 : Int32)).toNatClampNeg ((2) : Int64)), r6.2.1, r6.2.2.1, r6.2.2.2.1, r6.2.2.2.2.1, r6.2.2.2.2.2.1, r6.2.2.2.2.2.2.1, r6.2.2.2.2.2.2.2.1, r6.2.2.2.2.2.2.2.2.1, r6.2.2.2.2.2.2.2.2.2.1, r6.2.2.2.2.2.2.2.2.2.2.1, r6.2.2.2.2.2.2.2.2.2.2.2.1, r6.2.2.2.2.2.2.2.2.2.2.2.2.1, r6.2.2.2.2.2.2.2.2.2.2.2.2.2.1, r6.2.2.2.2.2.2.2.2.2.2.2.2.2.2.1, r6.2.2.2.2.2.2.2.2.2.2.2.2.2.2.2.1, r6.2.2.2.2.2.2.2.2.2.2.2.2.2.2.2.2)) H := hP
        have hD : va_D A (wMD E a0 ((vp_updL r6.1 (((22 : Int32) + ((8 : Int32) * p1)) + (0 : Int32)).toNatClampNeg ((2) : Int64)), r6.2.1, r6.2.2.1, r6.2.2.2.1, r6.2.2.2.2.1, r6.2.2.2.2.2.1, r6.2.2.2.2.2.2.1, r6.2.2.2.2.2.2.2.1, r6.2.2.2.2.2.2.2.2.1, r6.2.2.2.2.2.2.2.2.2.1, r6.2.2.2.2.2.2.2.2.2.2.1, r6.2.2.2.2.2.2.2.2.2.2.2.1, r6.2.2.2.2.2.2.2.2.2.2.2.2.1, r6.2.2.2.2.2.2.2.2.2.2.2.2.2.1, r6.2.2.2.2.2.2.2.2.2.2.2.2.2.2.1, r6.2.2.2.2.2.2.2.2.2.2.2.2.2.2.2.1, r6.2.2.2.2.2.2.2.2.2.2.2.2.2.2.2.2)) := hD
        refine lv_aload_n hx hb dX11_remove_54 rfl (lv_at hl 0 rfl) ?_
        refine va_get (D := E.1) (ci := 9) (v := .ref (a0 1)) (C := RX11) (T := TX11) (N := 17) hx hb hts w4 hown hC.1 hP 0 rfl rfl 0 (by decide) w3 (fun _ h9 => h9) rfl dX11_remove_55 ?_
        refine lv_bipush (v := 22) hx hb dX11_remove_58 rfl ?_
        refine lv_bipush (v := 8) hx hb dX11_remove_60 rfl ?_
        refine lv_iload_n hx hb dX11_remove_62 rfl (lv_at hl 1 rfl) ?_
        refine lv_imul hx hb dX11_remove_63 ?_
        refine lv_iadd hx hb dX11_remove_64 ?_
        refine lv_iconst (v := 3) hx hb dX11_remove_65 rfl ?_
        refine lv_iadd hx hb dX11_remove_66 ?_
        refine lv_aload_n hx hb dX11_remove_67 rfl (lv_at hl 0 rfl) ?_
        refine va_get (D := E.1) (ci := 9) (v := .ref (a0 1)) (C := RX11) (T := TX11) (N := 17) hx hb hts w4 hown hC.1 hP 0 rfl rfl 0 (by decide) w3 (fun _ h9 => h9) rfl dX11_remove_68 ?_
        refine lv_iconst (v := 5) hx hb dX11_remove_71 rfl ?_
        obtain ⟨h8, hf⟩ := gdI_some hf
        refine va_lald hx hb hC.1 hP 1 1 rfl rfl h8 dX11_remove_72 ?_
        obtain ⟨h9, hf⟩ := gdI_some hf
        refine va_last hx hb hC.1 hP hD hS 1 1 rfl rfl h9 dX11_remove_73 (fun H locs hP hD hS => ?_)
        have hP : va_P E.1 vwCl (wMD E a0 ((vp_updL (vp_updL r6.1 (((22 : Int32) + ((8 : Int32) * p1)) + (0 : Int32)).toNatClampNeg ((2) : Int64)) (((22 : Int32) + ((8 : Int32) * p1)) + (3 : Int32)).toNatClampNeg ((vp_updL r6.1 (((22 : Int32) + ((8 : Int32) * p1)) + (0 : Int32)).toNatClampNeg ((2) : Int64)) (5 : Int32).toNatClampNeg)), r6.2.1, r6.2.2.1, r6.2.2.2.1, r6.2.2.2.2.1, r6.2.2.2.2.2.1, r6.2.2.2.2.2.2.1, r6.2.2.2.2.2.2.2.1, r6.2.2.2.2.2.2.2.2.1, r6.2.2.2.2.2.2.2.2.2.1, r6.2.2.2.2.2.2.2.2.2.2.1, r6.2.2.2.2.2.2.2.2.2.2.2.1, r6.2.2.2.2.2.2.2.2.2.2.2.2.1, r6.2.2.2.2.2.2.2.2.2.2.2.2.2.1, r6.2.2.2.2.2.2.2.2.2.2.2.2.2.2.1, r6.2.2.2.2.2.2.2.2.2.2.2.2.2.2.2.1, r6.2.2.2.2.2.2.2.2.2.2.2.2.2.2.2.2)) H := hP
        have hD : va_D A (wMD E a0 ((vp_updL (vp_updL r6.1 (((22 : Int32) + ((8 : Int32) * p1)) + (0 : Int32)).toNatClampNeg ((2) : Int64)) (((22 : Int32) + ((8 : Int32) * p1)) + (3 : Int32)).toNatClampNeg ((vp_updL r6.1 (((22 : Int32) + ((8 : Int32) * p1)) + (0 : Int32)).toNatClampNeg ((2) : Int64)) (5 : Int32).toNatClampNeg)), r6.2.1, r6.2.2.1, r6.2.2.2.1, r6.2.2.2.2.1, r6.2.2.2.2.2.1, r6.2.2.2.2.2.2.1, r6.2.2.2.2.2.2.2.1, r6.2.2.2.2.2.2.2.2.1, r6.2.2.2.2.2.2.2.2.2.1, r6.2.2.2.2.2.2.2.2.2.2.1, r6.2.2.2.2.2.2.2.2.2.2.2.1, r6.2.2.2.2.2.2.2.2.2.2.2.2.1, r6.2.2.2.2.2.2.2.2.2.2.2.2.2.1, r6.2.2.2.2.2.2.2.2.2.2.2.2.2.2.1, r6.2.2.2.2.2.2.2.2.2.2.2.2.2.2.2.1, r6.2.2.2.2.2.2.2.2.2.2.2.2.2.2.2.2)) := hD
        refine lv_aload_n hx hb dX11_remove_74 rfl (lv_at hl 0 rfl) ?_
        refine va_get (D := E.1) (ci := 9) (v := .ref (a0 1)) (C := RX11) (T := TX11) (N := 17) hx hb hts w4 hown hC.1 hP 0 rfl rfl 0 (by decide) w3 (fun _ h9 => h9) rfl dX11_remove_75 ?_
        refine lv_iconst (v := 5) hx hb dX11_remove_78 rfl ?_
        obtain ⟨h10, hf⟩ := gdI_some hf
        refine va_lald hx hb hC.1 hP 1 1 rfl rfl h10 dX11_remove_79 ?_
        refine lv_aload_n hx hb dX11_remove_80 rfl (lv_at hl 0 rfl) ?_
        refine va_get (D := E.1) (ci := 9) (v := .ref (a0 1)) (C := RX11) (T := TX11) (N := 17) hx hb hts w4 hown hC.1 hP 0 rfl rfl 0 (by decide) w3 (fun _ h9 => h9) rfl dX11_remove_81 ?_
        refine lv_iload_n hx hb dX11_remove_84 rfl (lv_at hl 1 rfl) ?_
        obtain ⟨r11, e11, hf⟩ := bd_some hf
        refine cr_l (va_runS (As := [.ref (a0 1), .int p1]) (rest := [.long ((vp_updL (vp_updL r6.1 (((22 : Int32) + ((8 : Int32) * p1)) + (0 : Int32)).toNatClampNeg ((2) : Int64)) (((22 : Int32) + ((8 : Int32) * p1)) + (3 : Int32)).toNatClampNeg ((vp_updL r6.1 (((22 : Int32) + ((8 : Int32) * p1)) + (0 : Int32)).toNatClampNeg ((2) : Int64)) (5 : Int32).toNatClampNeg)) (5 : Int32).toNatClampNeg)]) ⟨hx, hb, hml, hown, hts⟩ (c_X11_grace l E (a0 1) (vp_updL (vp_updL r6.1 (((22 : Int32) + ((8 : Int32) * p1)) + (0 : Int32)).toNatClampNeg ((2) : Int64)) (((22 : Int32) + ((8 : Int32) * p1)) + (3 : Int32)).toNatClampNeg ((vp_updL r6.1 (((22 : Int32) + ((8 : Int32) * p1)) + (0 : Int32)).toNatClampNeg ((2) : Int64)) (5 : Int32).toNatClampNeg)) p1 r11 e11) (va_cwS 2 hts gX11_remove_X11_grace rfl rfl rfl hdS_X11_grace ⟨Nat.le_of_ble_eq_true rfl, Nat.le_of_ble_eq_true rfl⟩) ⟨PR.blind, PR.pre hC hS (hP.sub [1] rfl)⟩ rfl rfl hl.1 rfl (lv_room (Nat.le_of_ble_eq_true rfl)) dX11_remove_85 ⟨Nat.le_of_ble_eq_true rfl, Nat.le_of_ble_eq_true rfl⟩) ?_
        refine lv_ladd hx hb dX11_remove_88 ?_
        refine lv_lstore_n (lv' := [(2, .long (((vp_updL (vp_updL r6.1 (((22 : Int32) + ((8 : Int32) * p1)) + (0 : Int32)).toNatClampNeg ((2) : Int64)) (((22 : Int32) + ((8 : Int32) * p1)) + (3 : Int32)).toNatClampNeg ((vp_updL r6.1 (((22 : Int32) + ((8 : Int32) * p1)) + (0 : Int32)).toNatClampNeg ((2) : Int64)) (5 : Int32).toNatClampNeg)) (5 : Int32).toNatClampNeg) + r11)), (0, .ref (a0 0)), (1, .int p1)]) hx hb dX11_remove_89 rfl hl (by decide) rfl (fun ls hl => ?_)
        refine lv_lload_n hx hb dX11_remove_90 rfl (lv_at hl 0 rfl) ?_
        refine lv_aload_n hx hb dX11_remove_91 rfl (lv_at hl 1 rfl) ?_
        refine va_get (D := E.1) (ci := 9) (v := .ref (a0 1)) (C := RX11) (T := TX11) (N := 17) hx hb hts w4 hown hC.1 hP 0 rfl rfl 0 (by decide) w3 (fun _ h9 => h9) rfl dX11_remove_92 ?_
        refine lv_iconst (v := 5) hx hb dX11_remove_95 rfl ?_
        obtain ⟨h12, hf⟩ := gdI_some hf
        refine va_lald hx hb hC.1 hP 1 1 rfl rfl h12 dX11_remove_96 ?_
        refine W.lcmp hx hb dX11_remove_97 ?_
        refine lv_if_ne (tgt := 109) hx hb dX11_remove_98 rfl (fun c13 => ?_) (fun c13 => ?_)
        · have hf := it_f hf c13
          refine lv_lload_n hx hb dX11_remove_109 rfl (lv_at hl 0 rfl) ?_
          refine lv_l2i hx hb dX11_remove_110 rfl ?_
          cases Option.some.inj hf
          subst hQe
          exact ew_i (wf := (fun q : MD => wMD E a0 q)) hx hb hr hlocks hP hD hS dX11_remove_111
        · have hf := it_t hf c13
          refine lv_aload_n hx hb dX11_remove_101 rfl (lv_at hl 1 rfl) ?_
          refine va_get (D := E.1) (ci := 9) (v := .ref (a0 1)) (C := RX11) (T := TX11) (N := 17) hx hb hts w4 hown hC.1 hP 0 rfl rfl 0 (by decide) w3 (fun _ h9 => h9) rfl dX11_remove_102 ?_
          refine lv_iload_n hx hb dX11_remove_105 rfl (lv_at hl 2 rfl) ?_
          obtain ⟨r14, e14, hf⟩ := bd_some hf
          refine cq_v hP hD hS [1] [0, 2, 3, 4, 5, 6, 7] [0, 7, 1, 2, 3, 4, 5, 6] (va_free (wc := (wLA E (a0 1) 340 (vp_updL (vp_updL r6.1 (((22 : Int32) + ((8 : Int32) * p1)) + (0 : Int32)).toNatClampNeg ((2) : Int64)) (((22 : Int32) + ((8 : Int32) * p1)) + (3 : Int32)).toNatClampNeg ((vp_updL r6.1 (((22 : Int32) + ((8 : Int32) * p1)) + (0 : Int32)).toNatClampNeg ((2) : Int64)) (5 : Int32).toNatClampNeg)))) hD hS hA [1] rfl) (va_runS (As := [.ref (a0 1), .int p1]) (rest := []) ⟨hx, hb, hml, hown, hts⟩ (c_X11_goes l E H.size (a0 1) (vp_updL (vp_updL r6.1 (((22 : Int32) + ((8 : Int32) * p1)) + (0 : Int32)).toNatClampNeg ((2) : Int64)) (((22 : Int32) + ((8 : Int32) * p1)) + (3 : Int32)).toNatClampNeg ((vp_updL r6.1 (((22 : Int32) + ((8 : Int32) * p1)) + (0 : Int32)).toNatClampNeg ((2) : Int64)) (5 : Int32).toNatClampNeg)) p1 r14 e14) (va_cwS 2 hts gX11_remove_X11_goes rfl rfl rfl hdS_X11_goes ⟨Nat.le_of_ble_eq_true rfl, Nat.le_of_ble_eq_true rfl⟩) ⟨PW.blind, PW.pre hC hS (hP.sub [1] rfl) (hD.sub [1] rfl rfl) (va_free hD hS hA [1] rfl)⟩ rfl rfl hl.1 rfl (lv_room (Nat.le_of_ble_eq_true rfl)) dX11_remove_106 ⟨Nat.le_of_ble_eq_true rfl, Nat.le_of_ble_eq_true rfl⟩) rfl rfl rfl rfl (wMD E a0 (r14, r6.2.1, r6.2.2.1, r6.2.2.2.1, r6.2.2.2.2.1, r6.2.2.2.2.2.1, r6.2.2.2.2.2.2.1, r6.2.2.2.2.2.2.2.1, r6.2.2.2.2.2.2.2.2.1, r6.2.2.2.2.2.2.2.2.2.1, r6.2.2.2.2.2.2.2.2.2.2.1, r6.2.2.2.2.2.2.2.2.2.2.2.1, r6.2.2.2.2.2.2.2.2.2.2.2.2.1, r6.2.2.2.2.2.2.2.2.2.2.2.2.2.1, r6.2.2.2.2.2.2.2.2.2.2.2.2.2.2.1, r6.2.2.2.2.2.2.2.2.2.2.2.2.2.2.2.1, r6.2.2.2.2.2.2.2.2.2.2.2.2.2.2.2.2)) rfl rfl (fun H locs hP hD hS => ?_)
          refine lv_lload_n hx hb dX11_remove_109 rfl (lv_at hl 0 rfl) ?_
          refine lv_l2i hx hb dX11_remove_110 rfl ?_
          cases Option.some.inj hf
          subst hQe
          exact ew_i (wf := (fun q : MD => wMD E a0 q)) hx hb hr hlocks hP hD hS dX11_remove_111
      · have hf := it_t hf c5
        refine lv_ldcw hx hb hown w1 dX11_remove_29 ?_
        cases Option.some.inj hf
        subst hQe
        exact ew_i (wf := (fun q : MD => wMD E a0 q)) hx hb hr hlocks hP hD hS dX11_remove_32
    · have hf := it_t hf c3
      refine lv_ldc hx hb hown w2 dX11_remove_18 ?_
      cases Option.some.inj hf
      subst hQe
      exact ew_i (wf := (fun q : MD => wMD E a0 q)) hx hb hr hlocks hP hD hS dX11_remove_20
  · have hf := it_t hf c2
    refine lv_ldcw hx hb hown w1 dX11_remove_7 ?_
    cases Option.some.inj hf
    subst hQe
    exact ew_i (wf := (fun q : MD => wMD E a0 q)) hx hb hr hlocks hP hD hS dX11_remove_10

/-! X11_bring -/
abbrev rmX11_bring : Room := { frames := 2, cells := 0, slots := 0, locals := 45 }
theorem hdS_X11_bring : yX11_bring.cls ≠ "java/lang/invoke/MethodHandle" ∧ yX11_bring.cls ≠ "java/lang/invoke/VarHandle" ∧ (parseMethodDescriptor yX11_bring.desc).map (fun d => d.parameters.length) = some 1 := by decide +kernel
theorem hdV_X11_bring : yX11_bring.cls = RX11 ∧ yX11_bring.cls ≠ "java/lang/invoke/MethodHandle" ∧ yX11_bring.cls ≠ "java/lang/invoke/VarHandle" ∧ (parseMethodDescriptor yX11_bring.desc).map (fun d => d.parameters.length) = some 1 := ⟨rfl, hdS_X11_bring⟩
set_option maxHeartbeats 4000000 in
set_option maxRecDepth 100000 in
theorem c_X11_bring (l : Launch) (E : G0) (sz : Nat) (a0 : Nat → Nat) (v0 : MD) (p1 : Int32) (x : Int32 × MD) (hf : f_X11_bring v0 p1 = some x) : Met l yX11_bring wsX11_bring rmX11_bring (va_Pc [.ref (a0 0), .int p1] (PW E (wMD E a0 v0) sz)) (va_Qi (fun r q => r = x.1 ∧ q = x.2) (fun q t => va_P E.1 vwCl ((fun q : MD => wMD E a0 q) q) t.heap ∧ va_D (va_A (wMD E a0 v0) sz) ((fun q : MD => wMD E a0 q) q)) (va_A (wMD E a0 v0) sz)) 0 0 (va_A (wMD E a0 v0) sz) := by
  refine Met.ofW (cc := cX11_bring) (maxL := 2) (ret := some .int) (by decide) rfl ?_
  intro p e s m args below meth c s₁ B hml hv
  obtain ⟨ha, hsz, hP, hD0, hC⟩ := hv
  have hx := B.exec
  have hb := B.bytes
  have hr := B.returns
  have hts := atoms_spec (ws := wsX11_bring) B.pre
  have hown : s.vm.findClass RX11 = some m.cls := findClass_of_methodNamed B.named
  have hlocks := B.notSynchronized
  subst hsz
  have hD := hD0.self (sz := s.heap.size)
  generalize hAe : va_A (wMD E a0 v0) s.heap.size = A at hD hC ⊢
  have hA : ∀ q : Nat, s.heap.size ≤ q → A q := fun q h => by rw [← hAe]; exact Or.inr h
  have hS : va_S A s.heap s.heap [] := va_S.rf
  have w1 : (Cond.constant RX11 261 (-1000002)).before args s = true := hts _ (List.mem_of_getElem? (i := 1) rfl)
  have w2 : (Cond.constant RX11 235 (-1000001)).before args s = true := hts _ (List.mem_of_getElem? (i := 2) rfl)
  have w3 : (Cond.fieldLink RX11 7 "GreatChunksModel" "now" "[J").before args s = true := hts _ (List.mem_of_getElem? (i := 3) rfl)
  have w4 : ∀ w ∈ wsX110, w ∈ wsX11_bring := in_pl 26 rfl
  have w5 : (Cond.constantLong RX11 284 (2)).before args s = true := hts _ (List.mem_of_getElem? (i := 4) rfl)
  generalize hQe : MQ below (va_Qi (fun r q => r = x.1 ∧ q = x.2) (fun q t => va_P E.1 vwCl ((fun q : MD => wMD E a0 q) q) t.heap ∧ va_D A ((fun q : MD => wMD E a0 q) q)) A) args s 0 0 A = Q
  refine st_W ha (Nat.le_of_ble_eq_true rfl) (fun ls hl => ?_)
  have hl : lv_has ls 2 [(0, .ref (a0 0)), (1, .int p1)] := hl
  unfold f_X11_bring at hf
  refine lv_aload_n hx hb dX11_bring_0 rfl (lv_at hl 0 rfl) ?_
  obtain ⟨r1, e1, hf⟩ := bd_some hf
  refine cr_i (va_runV (As := []) (rest := []) ⟨hx, hb, hml, hown, hts⟩ (c_X11_isHouse l E a0 v0 r1 e1) (cwV 0 hts gX11_bring_X11_isHouse rfl rfl rfl hdV_X11_isHouse ⟨Nat.le_of_ble_eq_true rfl, Nat.le_of_ble_eq_true rfl⟩) ⟨PR.blind, va_recv hC.1 hP (ci := 9) (q0 := 0) rfl rfl, PR.pre hC hS hP⟩ rfl rfl hl.1 rfl (lv_room (Nat.le_of_ble_eq_true rfl)) dX11_bring_1 ⟨Nat.le_of_ble_eq_true rfl, Nat.le_of_ble_eq_true rfl⟩) ?_
  refine lv_if_ne (tgt := 11) hx hb dX11_bring_4 rfl (fun c2 => ?_) (fun c2 => ?_)
  · have hf := it_f hf c2
    refine lv_iload_n hx hb dX11_bring_11 rfl (lv_at hl 1 rfl) ?_
    refine cr_i (va_runS (As := [.int p1]) (rest := []) ⟨hx, hb, hml, hown, hts⟩ (c_X11_isFile l E p1 _ rfl) (va_cwS 1 hts gX11_bring_X11_isFile rfl rfl rfl hdS_X11_isFile ⟨Nat.le_of_ble_eq_true rfl, Nat.le_of_ble_eq_true rfl⟩) ⟨PR.blind, PR.pre hC hS (hP.sub [] rfl)⟩ rfl rfl hl.1 rfl (lv_room (Nat.le_of_ble_eq_true rfl)) dX11_bring_12 ⟨Nat.le_of_ble_eq_true rfl, Nat.le_of_ble_eq_true rfl⟩) ?_
    refine lv_if_ne (tgt := 21) hx hb dX11_bring_15 rfl (fun c3 => ?_) (fun c3 => ?_)
    · have hf := it_f hf c3
      refine lv_aload_n hx hb dX11_bring_21 rfl (lv_at hl 0 rfl) ?_
      refine va_get (D := E.1) (ci := 9) (v := .ref (a0 1)) (C := RX11) (T := TX11) (N := 17) hx hb hts w4 hown hC.1 hP 0 rfl rfl 0 (by decide) w3 (fun _ h9 => h9) rfl dX11_bring_22 ?_
      refine lv_bipush (v := 22) hx hb dX11_bring_25 rfl ?_
      refine lv_bipush (v := 8) hx hb dX11_bring_27 rfl ?_
      refine lv_iload_n hx hb dX11_bring_29 rfl (lv_at hl 1 rfl) ?_
      refine lv_imul hx hb dX11_bring_30 ?_
      refine lv_iadd hx hb dX11_bring_31 ?_
      refine lv_iconst (v := 0) hx hb dX11_bring_32 rfl ?_
      refine lv_iadd hx hb dX11_bring_33 ?_
      obtain ⟨h4, hf⟩ := gdI_some hf
      refine va_lald hx hb hC.1 hP 1 1 rfl rfl h4 dX11_bring_34 ?_
      refine lv_ldc2 hx hb hown w5 dX11_bring_35 ?_
      refine W.lcmp hx hb dX11_bring_38 ?_
      refine lv_if_eq (tgt := 46) hx hb dX11_bring_39 rfl (fun c5 => ?_) (fun c5 => ?_)
      · have hf := it_t hf c5
        refine lv_aload_n hx hb dX11_bring_46 rfl (lv_at hl 0 rfl) ?_
        obtain ⟨r6, e6, hf⟩ := bd_some hf
        refine cq_v hP hD hS [0, 1, 2, 3, 4, 5, 6, 7] [] [0, 1, 2, 3, 4, 5, 6, 7] (va_free (wc := (wMD E a0 v0)) hD hS hA [0, 1, 2, 3, 4, 5, 6, 7] rfl) (va_runV (As := []) (rest := []) ⟨hx, hb, hml, hown, hts⟩ (c_X11_notes l E s.heap.size a0 v0 r6 e6) (cwV 0 hts gX11_bring_X11_notes rfl rfl rfl hdV_X11_notes ⟨Nat.le_of_ble_eq_true rfl, Nat.le_of_ble_eq_true rfl⟩) ⟨PW.blind, va_recv hC.1 hP (ci := 9) (q0 := 0) rfl rfl, PW.pre hC hS hP hD (va_free hD hS hA [0, 1, 2, 3, 4, 5, 6, 7] rfl)⟩ rfl rfl hl.1 rfl (lv_room (Nat.le_of_ble_eq_true rfl)) dX11_bring_47 ⟨Nat.le_of_ble_eq_true rfl, Nat.le_of_ble_eq_true rfl⟩) rfl rfl rfl rfl (wMD E a0 r6) rfl rfl (fun H locs hP hD hS => ?_)
        refine lv_aload_n hx hb dX11_bring_50 rfl (lv_at hl 0 rfl) ?_
        refine va_get (D := E.1) (ci := 9) (v := .ref (a0 1)) (C := RX11) (T := TX11) (N := 17) hx hb hts w4 hown hC.1 hP 0 rfl rfl 0 (by decide) w3 (fun _ h9 => h9) rfl dX11_bring_51 ?_
        refine lv_bipush (v := 22) hx hb dX11_bring_54 rfl ?_
        refine lv_bipush (v := 8) hx hb dX11_bring_56 rfl ?_
        refine lv_iload_n hx hb dX11_bring_58 rfl (lv_at hl 1 rfl) ?_
        refine lv_imul hx hb dX11_bring_59 ?_
        refine lv_iadd hx hb dX11_bring_60 ?_
        refine lv_iconst (v := 0) hx hb dX11_bring_61 rfl ?_
        refine lv_iadd hx hb dX11_bring_62 ?_
        refine lv_lconst (v := 1) hx hb dX11_bring_63 rfl ?_
        obtain ⟨h7, hf⟩ := gdI_some hf
        refine va_last hx hb hC.1 hP hD hS 1 1 rfl rfl h7 dX11_bring_64 (fun H locs hP hD hS => ?_)
        have hP : va_P E.1 vwCl (wMD E a0 ((vp_updL r6.1 (((22 : Int32) + ((8 : Int32) * p1)) + (0 : Int32)).toNatClampNeg (1 : Int64)), r6.2.1, r6.2.2.1, r6.2.2.2.1, r6.2.2.2.2.1, r6.2.2.2.2.2.1, r6.2.2.2.2.2.2.1, r6.2.2.2.2.2.2.2.1, r6.2.2.2.2.2.2.2.2.1, r6.2.2.2.2.2.2.2.2.2.1, r6.2.2.2.2.2.2.2.2.2.2.1, r6.2.2.2.2.2.2.2.2.2.2.2.1, r6.2.2.2.2.2.2.2.2.2.2.2.2.1, r6.2.2.2.2.2.2.2.2.2.2.2.2.2.1, r6.2.2.2.2.2.2.2.2.2.2.2.2.2.2.1, r6.2.2.2.2.2.2.2.2.2.2.2.2.2.2.2.1, r6.2.2.2.2.2.2.2.2.2.2.2.2.2.2.2.2)) H := hP
        have hD : va_D A (wMD E a0 ((vp_updL r6.1 (((22 : Int32) + ((8 : Int32) * p1)) + (0 : Int32)).toNatClampNeg (1 : Int64)), r6.2.1, r6.2.2.1, r6.2.2.2.1, r6.2.2.2.2.1, r6.2.2.2.2.2.1, r6.2.2.2.2.2.2.1, r6.2.2.2.2.2.2.2.1, r6.2.2.2.2.2.2.2.2.1, r6.2.2.2.2.2.2.2.2.2.1, r6.2.2.2.2.2.2.2.2.2.2.1, r6.2.2.2.2.2.2.2.2.2.2.2.1, r6.2.2.2.2.2.2.2.2.2.2.2.2.1, r6.2.2.2.2.2.2.2.2.2.2.2.2.2.1, r6.2.2.2.2.2.2.2.2.2.2.2.2.2.2.1, r6.2.2.2.2.2.2.2.2.2.2.2.2.2.2.2.1, r6.2.2.2.2.2.2.2.2.2.2.2.2.2.2.2.2)) := hD
        refine lv_aload_n hx hb dX11_bring_65 rfl (lv_at hl 0 rfl) ?_
        refine va_get (D := E.1) (ci := 9) (v := .ref (a0 1)) (C := RX11) (T := TX11) (N := 17) hx hb hts w4 hown hC.1 hP 0 rfl rfl 0 (by decide) w3 (fun _ h9 => h9) rfl dX11_bring_66 ?_
        refine lv_bipush (v := 22) hx hb dX11_bring_69 rfl ?_
        refine lv_bipush (v := 8) hx hb dX11_bring_71 rfl ?_
        refine lv_iload_n hx hb dX11_bring_73 rfl (lv_at hl 1 rfl) ?_
        refine lv_imul hx hb dX11_bring_74 ?_
        refine lv_iadd hx hb dX11_bring_75 ?_
        refine lv_iconst (v := 3) hx hb dX11_bring_76 rfl ?_
        refine lv_iadd hx hb dX11_bring_77 ?_
        obtain ⟨h8, hf⟩ := gdI_some hf
        refine va_lald hx hb hC.1 hP 1 1 rfl rfl h8 dX11_bring_78 ?_
        refine lv_l2i hx hb dX11_bring_79 rfl ?_
        cases Option.some.inj hf
        subst hQe
        exact ew_i (wf := (fun q : MD => wMD E a0 q)) hx hb hr hlocks hP hD hS dX11_bring_80
      · have hf := it_f hf c5
        refine lv_ldcw hx hb hown w1 dX11_bring_42 ?_
        cases Option.some.inj hf
        subst hQe
        exact ew_i (wf := (fun q : MD => wMD E a0 q)) hx hb hr hlocks hP hD hS dX11_bring_45
    · have hf := it_t hf c3
      refine lv_ldc hx hb hown w2 dX11_bring_18 ?_
      cases Option.some.inj hf
      subst hQe
      exact ew_i (wf := (fun q : MD => wMD E a0 q)) hx hb hr hlocks hP hD hS dX11_bring_20
  · have hf := it_t hf c2
    refine lv_ldcw hx hb hown w1 dX11_bring_7 ?_
    cases Option.some.inj hf
    subst hQe
    exact ew_i (wf := (fun q : MD => wMD E a0 q)) hx hb hr hlocks hP hD hS dX11_bring_10

/-! X11_tick -/
abbrev rmX11_tick : Room := { frames := 2, cells := 0, slots := 0, locals := 45 }
theorem hdS_X11_tick : yX11_tick.cls ≠ "java/lang/invoke/MethodHandle" ∧ yX11_tick.cls ≠ "java/lang/invoke/VarHandle" ∧ (parseMethodDescriptor yX11_tick.desc).map (fun d => d.parameters.length) = some 1 := by decide +kernel
theorem hdV_X11_tick : yX11_tick.cls = RX11 ∧ yX11_tick.cls ≠ "java/lang/invoke/MethodHandle" ∧ yX11_tick.cls ≠ "java/lang/invoke/VarHandle" ∧ (parseMethodDescriptor yX11_tick.desc).map (fun d => d.parameters.length) = some 1 := ⟨rfl, hdS_X11_tick⟩
set_option maxHeartbeats 4000000 in
set_option maxRecDepth 100000 in
theorem c_X11_tick (l : Launch) (E : G0) (sz : Nat) (a0 : Nat → Nat) (v0 : MD) (p1 : Int32) (x : Int32 × MD) (hf : f_X11_tick v0 p1 = some x) : Met l yX11_tick wsX11_tick rmX11_tick (va_Pc [.ref (a0 0), .int p1] (PW E (wMD E a0 v0) sz)) (va_Qi (fun r q => r = x.1 ∧ q = x.2) (fun q t => va_P E.1 vwCl ((fun q : MD => wMD E a0 q) q) t.heap ∧ va_D (va_A (wMD E a0 v0) sz) ((fun q : MD => wMD E a0 q) q)) (va_A (wMD E a0 v0) sz)) 0 0 (va_A (wMD E a0 v0) sz) := by
  refine Met.ofW (cc := cX11_tick) (maxL := 4) (ret := some .int) (by decide) rfl ?_
  intro p e s m args below meth c s₁ B hml hv
  obtain ⟨ha, hsz, hP, hD0, hC⟩ := hv
  have hx := B.exec
  have hb := B.bytes
  have hr := B.returns
  have hts := atoms_spec (ws := wsX11_tick) B.pre
  have hown : s.vm.findClass RX11 = some m.cls := findClass_of_methodNamed B.named
  have hlocks := B.notSynchronized
  subst hsz
  have hD := hD0.self (sz := s.heap.size)
  generalize hAe : va_A (wMD E a0 v0) s.heap.size = A at hD hC ⊢
  have hA : ∀ q : Nat, s.heap.size ≤ q → A q := fun q h => by rw [← hAe]; exact Or.inr h
  have hS : va_S A s.heap s.heap [] := va_S.rf
  have w1 : (Cond.constantLong RX11 301 (50)).before args s = true := hts _ (List.mem_of_getElem? (i := 2) rfl)
  have w2 : (Cond.fieldLink RX11 7 "GreatChunksModel" "now" "[J").before args s = true := hts _ (List.mem_of_getElem? (i := 4) rfl)
  have w3 : ∀ w ∈ wsX110, w ∈ wsX11_tick := in_pl 36 rfl
  have w4 : (Cond.constantLong RX11 284 (2)).before args s = true := hts _ (List.mem_of_getElem? (i := 5) rfl)
  have w5 : (Cond.constant RX11 235 (-1000001)).before args s = true := hts _ (List.mem_of_getElem? (i := 3) rfl)
  have w6 : (Cond.constant RX11 261 (-1000002)).before args s = true := hts _ (List.mem_of_getElem? (i := 1) rfl)
  generalize hQe : MQ below (va_Qi (fun r q => r = x.1 ∧ q = x.2) (fun q t => va_P E.1 vwCl ((fun q : MD => wMD E a0 q) q) t.heap ∧ va_D A ((fun q : MD => wMD E a0 q) q)) A) args s 0 0 A = Q
  refine st_W ha (Nat.le_of_ble_eq_true rfl) (fun ls hl => ?_)
  have hl : lv_has ls 4 [(0, .ref (a0 0)), (1, .int p1)] := hl
  unfold f_X11_tick at hf
  refine lv_aload_n hx hb dX11_tick_0 rfl (lv_at hl 0 rfl) ?_
  obtain ⟨r1, e1, hf⟩ := bd_some hf
  refine cr_i (va_runV (As := []) (rest := []) ⟨hx, hb, hml, hown, hts⟩ (c_X11_isHouse l E a0 v0 r1 e1) (cwV 0 hts gX11_tick_X11_isHouse rfl rfl rfl hdV_X11_isHouse ⟨Nat.le_of_ble_eq_true rfl, Nat.le_of_ble_eq_true rfl⟩) ⟨PR.blind, va_recv hC.1 hP (ci := 9) (q0 := 0) rfl rfl, PR.pre hC hS hP⟩ rfl rfl hl.1 rfl (lv_room (Nat.le_of_ble_eq_true rfl)) dX11_tick_1 ⟨Nat.le_of_ble_eq_true rfl, Nat.le_of_ble_eq_true rfl⟩) ?_
  refine lv_if_ne (tgt := 11) hx hb dX11_tick_4 rfl (fun c2 => ?_) (fun c2 => ?_)
  · have hf := it_f hf c2
    refine lv_iload_n hx hb dX11_tick_11 rfl (lv_at hl 1 rfl) ?_
    refine lv_i2l hx hb dX11_tick_12 rfl ?_
    refine lv_lconst (v := 1) hx hb dX11_tick_13 rfl ?_
    refine lv_ldc2 hx hb hown w1 dX11_tick_14 ?_
    refine cr_i (va_runS (As := [.long p1.toInt64, .long (1 : Int64), .long ((50) : Int64)]) (rest := []) ⟨hx, hb, hml, hown, hts⟩ (c_X11_in l E p1.toInt64 (1 : Int64) ((50) : Int64) _ rfl) (va_cwS 3 hts gX11_tick_X11_in rfl rfl rfl hdS_X11_in ⟨Nat.le_of_ble_eq_true rfl, Nat.le_of_ble_eq_true rfl⟩) ⟨PR.blind, PR.pre hC hS (hP.sub [] rfl)⟩ rfl rfl hl.1 rfl (lv_room (Nat.le_of_ble_eq_true rfl)) dX11_tick_17 ⟨Nat.le_of_ble_eq_true rfl, Nat.le_of_ble_eq_true rfl⟩) ?_
    refine lv_if_ne (tgt := 26) hx hb dX11_tick_20 rfl (fun c3 => ?_) (fun c3 => ?_)
    · have hf := it_f hf c3
      refine lv_aload_n hx hb dX11_tick_26 rfl (lv_at hl 0 rfl) ?_
      obtain ⟨r4, e4, hf⟩ := bd_some hf
      refine cq_v hP hD hS [0, 1, 2, 3, 4, 5, 6, 7] [] [0, 1, 2, 3, 4, 5, 6, 7] (va_free (wc := (wMD E a0 v0)) hD hS hA [0, 1, 2, 3, 4, 5, 6, 7] rfl) (va_runV (As := []) (rest := []) ⟨hx, hb, hml, hown, hts⟩ (c_X11_notes l E s.heap.size a0 v0 r4 e4) (cwV 0 hts gX11_tick_X11_notes rfl rfl rfl hdV_X11_notes ⟨Nat.le_of_ble_eq_true rfl, Nat.le_of_ble_eq_true rfl⟩) ⟨PW.blind, va_recv hC.1 hP (ci := 9) (q0 := 0) rfl rfl, PW.pre hC hS hP hD (va_free hD hS hA [0, 1, 2, 3, 4, 5, 6, 7] rfl)⟩ rfl rfl hl.1 rfl (lv_room (Nat.le_of_ble_eq_true rfl)) dX11_tick_27 ⟨Nat.le_of_ble_eq_true rfl, Nat.le_of_ble_eq_true rfl⟩) rfl rfl rfl rfl (wMD E a0 r4) rfl rfl (fun H locs hP hD hS => ?_)
      refine lv_aload_n hx hb dX11_tick_30 rfl (lv_at hl 0 rfl) ?_
      refine va_get (D := E.1) (ci := 9) (v := .ref (a0 1)) (C := RX11) (T := TX11) (N := 17) hx hb hts w3 hown hC.1 hP 0 rfl rfl 0 (by decide) w2 (fun _ h9 => h9) rfl dX11_tick_31 ?_
      refine lv_iconst (v := 5) hx hb dX11_tick_34 rfl ?_
      refine lv_dup2_11 hx hb dX11_tick_35 rfl rfl ?_
      obtain ⟨h5, hf⟩ := gdI_some hf
      refine va_lald hx hb hC.1 hP 1 1 rfl rfl h5 dX11_tick_36 ?_
      refine lv_iload_n hx hb dX11_tick_37 rfl (lv_at hl 1 rfl) ?_
      refine lv_i2l hx hb dX11_tick_38 rfl ?_
      refine lv_ladd hx hb dX11_tick_39 ?_
      obtain ⟨h6, hf⟩ := gdI_some hf
      refine va_last hx hb hC.1 hP hD hS 1 1 rfl rfl h6 dX11_tick_40 (fun H locs hP hD hS => ?_)
      have hP : va_P E.1 vwCl (wMD E a0 ((vp_updL r4.1 (5 : Int32).toNatClampNeg ((r4.1 (5 : Int32).toNatClampNeg) + p1.toInt64)), r4.2.1, r4.2.2.1, r4.2.2.2.1, r4.2.2.2.2.1, r4.2.2.2.2.2.1, r4.2.2.2.2.2.2.1, r4.2.2.2.2.2.2.2.1, r4.2.2.2.2.2.2.2.2.1, r4.2.2.2.2.2.2.2.2.2.1, r4.2.2.2.2.2.2.2.2.2.2.1, r4.2.2.2.2.2.2.2.2.2.2.2.1, r4.2.2.2.2.2.2.2.2.2.2.2.2.1, r4.2.2.2.2.2.2.2.2.2.2.2.2.2.1, r4.2.2.2.2.2.2.2.2.2.2.2.2.2.2.1, r4.2.2.2.2.2.2.2.2.2.2.2.2.2.2.2.1, r4.2.2.2.2.2.2.2.2.2.2.2.2.2.2.2.2)) H := hP
      have hD : va_D A (wMD E a0 ((vp_updL r4.1 (5 : Int32).toNatClampNeg ((r4.1 (5 : Int32).toNatClampNeg) + p1.toInt64)), r4.2.1, r4.2.2.1, r4.2.2.2.1, r4.2.2.2.2.1, r4.2.2.2.2.2.1, r4.2.2.2.2.2.2.1, r4.2.2.2.2.2.2.2.1, r4.2.2.2.2.2.2.2.2.1, r4.2.2.2.2.2.2.2.2.2.1, r4.2.2.2.2.2.2.2.2.2.2.1, r4.2.2.2.2.2.2.2.2.2.2.2.1, r4.2.2.2.2.2.2.2.2.2.2.2.2.1, r4.2.2.2.2.2.2.2.2.2.2.2.2.2.1, r4.2.2.2.2.2.2.2.2.2.2.2.2.2.2.1, r4.2.2.2.2.2.2.2.2.2.2.2.2.2.2.2.1, r4.2.2.2.2.2.2.2.2.2.2.2.2.2.2.2.2)) := hD
      refine lv_iconst (v := 0) hx hb dX11_tick_41 rfl ?_
      refine lv_istore_n (lv' := [(2, .int (0 : Int32)), (0, .ref (a0 0)), (1, .int p1)]) hx hb dX11_tick_42 rfl hl (by decide) rfl (fun ls hl => ?_)
      refine lv_iconst (v := 0) hx hb dX11_tick_43 rfl ?_
      refine lv_istore_n (lv' := [(3, .int (0 : Int32)), (2, .int (0 : Int32)), (0, .ref (a0 0)), (1, .int p1)]) hx hb dX11_tick_44 rfl hl (by decide) rfl (fun ls hl => ?_)
      obtain ⟨K7, hK7, hf⟩ := jn_some hf
      have J7 : ∀ (q7 : Int32 × Int32 × MD) (H : Heap) (locs : List Loc) (hP : va_P E.1 vwCl (wMD E a0 q7.2.2) H) (hD : va_D A (wMD E a0 q7.2.2)) (hS : va_S A s.heap H locs) (ls : Array Slot) (hl : lv_has ls 4 [(2, .int q7.1)]) (hf : K7 q7 = some x), W p l e (headSpec wsX11_tick rmX11_tick).room s m args below meth c H locs 0 0 Q (F0 m 122 ls []) := by
        intro q7 H locs hP hD hS ls hl hf
        have hf := (hK7 q7).trans hf
        refine lv_iload_n hx hb dX11_tick_122 rfl (lv_at hl 0 rfl) ?_
        cases Option.some.inj hf
        subst hQe
        exact ew_i (wf := (fun q : MD => wMD E a0 q)) hx hb hr hlocks hP hD hS dX11_tick_123
      have L7 : ∀ (n : Nat) (q7 : Int32 × Int32 × MD) (H : Heap) (locs : List Loc) (hP : va_P E.1 vwCl (wMD E a0 q7.2.2) H) (hD : va_D A (wMD E a0 q7.2.2)) (hS : va_S A s.heap H locs) (ls : Array Slot) (hl : lv_has ls 4 [(0, .ref (a0 0)), (2, .int q7.1), (3, .int q7.2.1)]) (hf : lpF (bX11_tick_7 K7) n q7 = some x), W p l e (headSpec wsX11_tick rmX11_tick).room s m args below meth c H locs 0 0 Q (F0 m 45 ls []) := by
        intro n
        induction n with
        | zero => intro q7 H locs hP hD hS ls hl hf; exact (lpF_zero hf).elim
        | succ n ih7 =>
          intro q7 H locs hP hD hS ls hl hf
          have hf := lpF_succ hf
          unfold bX11_tick_7 at hf
          refine lv_iload_n hx hb dX11_tick_45 rfl (lv_at hl 2 rfl) ?_
          refine lv_bipush (v := 6) hx hb dX11_tick_46 rfl ?_
          refine lv_icmp_ge (tgt := 122) hx hb dX11_tick_48 rfl (fun c8 => ?_) (fun c8 => ?_)
          · have hf := it_t hf c8
            exact J7 (q7.1, q7.2.1, q7.2.2) H locs hP hD hS ls (lv_sub hl [1] rfl) hf
          · have hf := it_f hf c8
            refine lv_aload_n hx hb dX11_tick_51 rfl (lv_at hl 0 rfl) ?_
            refine va_get (D := E.1) (ci := 9) (v := .ref (a0 1)) (C := RX11) (T := TX11) (N := 17) hx hb hts w3 hown hC.1 hP 0 rfl rfl 0 (by decide) w2 (fun _ h9 => h9) rfl dX11_tick_52 ?_
            refine lv_bipush (v := 22) hx hb dX11_tick_55 rfl ?_
            refine lv_bipush (v := 8) hx hb dX11_tick_57 rfl ?_
            refine lv_iload_n hx hb dX11_tick_59 rfl (lv_at hl 2 rfl) ?_
            refine lv_imul hx hb dX11_tick_60 ?_
            refine lv_iadd hx hb dX11_tick_61 ?_
            refine lv_iconst (v := 0) hx hb dX11_tick_62 rfl ?_
            refine lv_iadd hx hb dX11_tick_63 ?_
            obtain ⟨h9, hf⟩ := gdI_some hf
            refine va_lald hx hb hC.1 hP 1 1 rfl rfl h9 dX11_tick_64 ?_
            refine lv_ldc2 hx hb hown w4 dX11_tick_65 ?_
            refine W.lcmp hx hb dX11_tick_68 ?_
            refine lv_if_ne (tgt := 116) hx hb dX11_tick_69 rfl (fun c10 => ?_) (fun c10 => ?_)
            · have hf := it_f hf c10
              refine lv_iinc (v := (q7.2.1 + 1)) (lv' := [(3, .int (q7.2.1 + 1)), (0, .ref (a0 0)), (2, .int q7.1)]) hx hb dX11_tick_116 hl (k := 2) rfl rfl (by decide) rfl (fun ls hl => ?_)
              refine lv_goto (tgt := 45) hx hb dX11_tick_119 rfl ?_
              exact ih7 (q7.1, (q7.2.1 + 1), q7.2.2) H locs hP hD hS ls (lv_sub hl [1, 2, 0] rfl) hf
            · have hf := it_t hf c10
              refine lv_aload_n hx hb dX11_tick_72 rfl (lv_at hl 0 rfl) ?_
              refine va_get (D := E.1) (ci := 9) (v := .ref (a0 1)) (C := RX11) (T := TX11) (N := 17) hx hb hts w3 hown hC.1 hP 0 rfl rfl 0 (by decide) w2 (fun _ h9 => h9) rfl dX11_tick_73 ?_
              refine lv_iconst (v := 5) hx hb dX11_tick_76 rfl ?_
              obtain ⟨h11, hf⟩ := gdI_some hf
              refine va_lald hx hb hC.1 hP 1 1 rfl rfl h11 dX11_tick_77 ?_
              refine lv_aload_n hx hb dX11_tick_78 rfl (lv_at hl 0 rfl) ?_
              refine va_get (D := E.1) (ci := 9) (v := .ref (a0 1)) (C := RX11) (T := TX11) (N := 17) hx hb hts w3 hown hC.1 hP 0 rfl rfl 0 (by decide) w2 (fun _ h9 => h9) rfl dX11_tick_79 ?_
              refine lv_bipush (v := 22) hx hb dX11_tick_82 rfl ?_
              refine lv_bipush (v := 8) hx hb dX11_tick_84 rfl ?_
              refine lv_iload_n hx hb dX11_tick_86 rfl (lv_at hl 2 rfl) ?_
              refine lv_imul hx hb dX11_tick_87 ?_
              refine lv_iadd hx hb dX11_tick_88 ?_
              refine lv_iconst (v := 3) hx hb dX11_tick_89 rfl ?_
              refine lv_iadd hx hb dX11_tick_90 ?_
              obtain ⟨h12, hf⟩ := gdI_some hf
              refine va_lald hx hb hC.1 hP 1 1 rfl rfl h12 dX11_tick_91 ?_
              refine lv_lsub hx hb dX11_tick_92 ?_
              refine lv_aload_n hx hb dX11_tick_93 rfl (lv_at hl 0 rfl) ?_
              refine va_get (D := E.1) (ci := 9) (v := .ref (a0 1)) (C := RX11) (T := TX11) (N := 17) hx hb hts w3 hown hC.1 hP 0 rfl rfl 0 (by decide) w2 (fun _ h9 => h9) rfl dX11_tick_94 ?_
              refine lv_iload_n hx hb dX11_tick_97 rfl (lv_at hl 2 rfl) ?_
              obtain ⟨r13, e13, hf⟩ := bd_some hf
              refine cr_l (va_runS (As := [.ref (a0 1), .int q7.2.1]) (rest := [.long ((q7.2.2.1 (5 : Int32).toNatClampNeg) - (q7.2.2.1 (((22 : Int32) + ((8 : Int32) * q7.2.1)) + (3 : Int32)).toNatClampNeg))]) ⟨hx, hb, hml, hown, hts⟩ (c_X11_grace l E (a0 1) q7.2.2.1 q7.2.1 r13 e13) (va_cwS 2 hts gX11_tick_X11_grace rfl rfl rfl hdS_X11_grace ⟨Nat.le_of_ble_eq_true rfl, Nat.le_of_ble_eq_true rfl⟩) ⟨PR.blind, PR.pre hC hS (hP.sub [1] rfl)⟩ rfl rfl hl.1 rfl (lv_room (Nat.le_of_ble_eq_true rfl)) dX11_tick_98 ⟨Nat.le_of_ble_eq_true rfl, Nat.le_of_ble_eq_true rfl⟩) ?_
              refine W.lcmp hx hb dX11_tick_101 ?_
              refine lv_if_lt (tgt := 116) hx hb dX11_tick_102 rfl (fun c14 => ?_) (fun c14 => ?_)
              · have hf := it_t hf c14
                refine lv_iinc (v := (q7.2.1 + 1)) (lv' := [(3, .int (q7.2.1 + 1)), (0, .ref (a0 0)), (2, .int q7.1)]) hx hb dX11_tick_116 hl (k := 2) rfl rfl (by decide) rfl (fun ls hl => ?_)
                refine lv_goto (tgt := 45) hx hb dX11_tick_119 rfl ?_
                exact ih7 (q7.1, (q7.2.1 + 1), q7.2.2) H locs hP hD hS ls (lv_sub hl [1, 2, 0] rfl) hf
              · have hf := it_f hf c14
                refine lv_aload_n hx hb dX11_tick_105 rfl (lv_at hl 0 rfl) ?_
                refine va_get (D := E.1) (ci := 9) (v := .ref (a0 1)) (C := RX11) (T := TX11) (N := 17) hx hb hts w3 hown hC.1 hP 0 rfl rfl 0 (by decide) w2 (fun _ h9 => h9) rfl dX11_tick_106 ?_
                refine lv_iload_n hx hb dX11_tick_109 rfl (lv_at hl 2 rfl) ?_
                obtain ⟨r15, e15, hf⟩ := bd_some hf
                refine cq_v hP hD hS [1] [0, 2, 3, 4, 5, 6, 7] [0, 7, 1, 2, 3, 4, 5, 6] (va_free (wc := (wLA E (a0 1) 340 q7.2.2.1)) hD hS hA [1] rfl) (va_runS (As := [.ref (a0 1), .int q7.2.1]) (rest := []) ⟨hx, hb, hml, hown, hts⟩ (c_X11_goes l E H.size (a0 1) q7.2.2.1 q7.2.1 r15 e15) (va_cwS 2 hts gX11_tick_X11_goes rfl rfl rfl hdS_X11_goes ⟨Nat.le_of_ble_eq_true rfl, Nat.le_of_ble_eq_true rfl⟩) ⟨PW.blind, PW.pre hC hS (hP.sub [1] rfl) (hD.sub [1] rfl rfl) (va_free hD hS hA [1] rfl)⟩ rfl rfl hl.1 rfl (lv_room (Nat.le_of_ble_eq_true rfl)) dX11_tick_110 ⟨Nat.le_of_ble_eq_true rfl, Nat.le_of_ble_eq_true rfl⟩) rfl rfl rfl rfl (wMD E a0 (r15, q7.2.2.2.1, q7.2.2.2.2.1, q7.2.2.2.2.2.1, q7.2.2.2.2.2.2.1, q7.2.2.2.2.2.2.2.1, q7.2.2.2.2.2.2.2.2.1, q7.2.2.2.2.2.2.2.2.2.1, q7.2.2.2.2.2.2.2.2.2.2.1, q7.2.2.2.2.2.2.2.2.2.2.2.1, q7.2.2.2.2.2.2.2.2.2.2.2.2.1, q7.2.2.2.2.2.2.2.2.2.2.2.2.2.1, q7.2.2.2.2.2.2.2.2.2.2.2.2.2.2.1, q7.2.2.2.2.2.2.2.2.2.2.2.2.2.2.2.1, q7.2.2.2.2.2.2.2.2.2.2.2.2.2.2.2.2.1, q7.2.2.2.2.2.2.2.2.2.2.2.2.2.2.2.2.2.1, q7.2.2.2.2.2.2.2.2.2.2.2.2.2.2.2.2.2.2)) rfl rfl (fun H locs hP hD hS => ?_)
                refine lv_iinc (v := (q7.1 + 1)) (lv' := [(2, .int (q7.1 + 1)), (0, .ref (a0 0)), (3, .int q7.2.1)]) hx hb dX11_tick_113 hl (k := 1) rfl rfl (by decide) rfl (fun ls hl => ?_)
                refine lv_iinc (v := (q7.2.1 + 1)) (lv' := [(3, .int (q7.2.1 + 1)), (2, .int (q7.1 + 1)), (0, .ref (a0 0))]) hx hb dX11_tick_116 hl (k := 2) rfl rfl (by decide) rfl (fun ls hl => ?_)
                refine lv_goto (tgt := 45) hx hb dX11_tick_119 rfl ?_
                exact ih7 ((q7.1 + 1), (q7.2.1 + 1), (r15, q7.2.2.2.1, q7.2.2.2.2.1, q7.2.2.2.2.2.1, q7.2.2.2.2.2.2.1, q7.2.2.2.2.2.2.2.1, q7.2.2.2.2.2.2.2.2.1, q7.2.2.2.2.2.2.2.2.2.1, q7.2.2.2.2.2.2.2.2.2.2.1, q7.2.2.2.2.2.2.2.2.2.2.2.1, q7.2.2.2.2.2.2.2.2.2.2.2.2.1, q7.2.2.2.2.2.2.2.2.2.2.2.2.2.1, q7.2.2.2.2.2.2.2.2.2.2.2.2.2.2.1, q7.2.2.2.2.2.2.2.2.2.2.2.2.2.2.2.1, q7.2.2.2.2.2.2.2.2.2.2.2.2.2.2.2.2.1, q7.2.2.2.2.2.2.2.2.2.2.2.2.2.2.2.2.2.1, q7.2.2.2.2.2.2.2.2.2.2.2.2.2.2.2.2.2.2)) H locs hP hD hS ls (lv_sub hl [2, 1, 0] rfl) hf
      exact L7 FU ((0 : Int32), (0 : Int32), ((vp_updL r4.1 (5 : Int32).toNatClampNeg ((r4.1 (5 : Int32).toNatClampNeg) + p1.toInt64)), r4.2.1, r4.2.2.1, r4.2.2.2.1, r4.2.2.2.2.1, r4.2.2.2.2.2.1, r4.2.2.2.2.2.2.1, r4.2.2.2.2.2.2.2.1, r4.2.2.2.2.2.2.2.2.1, r4.2.2.2.2.2.2.2.2.2.1, r4.2.2.2.2.2.2.2.2.2.2.1, r4.2.2.2.2.2.2.2.2.2.2.2.1, r4.2.2.2.2.2.2.2.2.2.2.2.2.1, r4.2.2.2.2.2.2.2.2.2.2.2.2.2.1, r4.2.2.2.2.2.2.2.2.2.2.2.2.2.2.1, r4.2.2.2.2.2.2.2.2.2.2.2.2.2.2.2.1, r4.2.2.2.2.2.2.2.2.2.2.2.2.2.2.2.2)) H locs hP hD hS ls (lv_sub hl [2, 1, 0] rfl) hf
    · have hf := it_t hf c3
      refine lv_ldc hx hb hown w5 dX11_tick_23 ?_
      cases Option.some.inj hf
      subst hQe
      exact ew_i (wf := (fun q : MD => wMD E a0 q)) hx hb hr hlocks hP hD hS dX11_tick_25
  · have hf := it_t hf c2
    refine lv_ldcw hx hb hown w6 dX11_tick_7 ?_
    cases Option.some.inj hf
    subst hQe
    exact ew_i (wf := (fun q : MD => wMD E a0 q)) hx hb hr hlocks hP hD hS dX11_tick_10

/-! X11_turns -/
abbrev rmX11_turns : Room := { frames := 2, cells := 0, slots := 0, locals := 46 }
theorem hdS_X11_turns : yX11_turns.cls ≠ "java/lang/invoke/MethodHandle" ∧ yX11_turns.cls ≠ "java/lang/invoke/VarHandle" ∧ (parseMethodDescriptor yX11_turns.desc).map (fun d => d.parameters.length) = some 2 := by decide +kernel
theorem hdV_X11_turns : yX11_turns.cls = RX11 ∧ yX11_turns.cls ≠ "java/lang/invoke/MethodHandle" ∧ yX11_turns.cls ≠ "java/lang/invoke/VarHandle" ∧ (parseMethodDescriptor yX11_turns.desc).map (fun d => d.parameters.length) = some 2 := ⟨rfl, hdS_X11_turns⟩
set_option maxHeartbeats 4000000 in
set_option maxRecDepth 100000 in
theorem c_X11_turns (l : Launch) (E : G0) (sz : Nat) (a0 : Nat → Nat) (v0 : MD) (p1 : Int32) (p2 : Int64) (x : Int32 × MD) (hf : f_X11_turns v0 p1 p2 = some x) : Met l yX11_turns wsX11_turns rmX11_turns (va_Pc [.ref (a0 0), .int p1, .long p2] (PW E (wMD E a0 v0) sz)) (va_Qi (fun r q => r = x.1 ∧ q = x.2) (fun q t => va_P E.1 vwCl ((fun q : MD => wMD E a0 q) q) t.heap ∧ va_D (va_A (wMD E a0 v0) sz) ((fun q : MD => wMD E a0 q) q)) (va_A (wMD E a0 v0) sz)) 0 0 (va_A (wMD E a0 v0) sz) := by
  refine Met.ofW (cc := cX11_turns) (maxL := 4) (ret := some .int) (by decide) rfl ?_
  intro p e s m args below meth c s₁ B hml hv
  obtain ⟨ha, hsz, hP, hD0, hC⟩ := hv
  have hx := B.exec
  have hb := B.bytes
  have hr := B.returns
  have hts := atoms_spec (ws := wsX11_turns) B.pre
  have hown : s.vm.findClass RX11 = some m.cls := findClass_of_methodNamed B.named
  have hlocks := B.notSynchronized
  subst hsz
  have hD := hD0.self (sz := s.heap.size)
  generalize hAe : va_A (wMD E a0 v0) s.heap.size = A at hD hC ⊢
  have hA : ∀ q : Nat, s.heap.size ≤ q → A q := fun q h => by rw [← hAe]; exact Or.inr h
  have hS : va_S A s.heap s.heap [] := va_S.rf
  have w1 : (Cond.constant RX11 235 (-1000001)).before args s = true := hts _ (List.mem_of_getElem? (i := 1) rfl)
  have w2 : (Cond.fieldLink RX11 7 "GreatChunksModel" "now" "[J").before args s = true := hts _ (List.mem_of_getElem? (i := 2) rfl)
  have w3 : ∀ w ∈ wsX110, w ∈ wsX11_turns := in_pl 33 rfl
  have w4 : (Cond.constant RX11 261 (-1000002)).before args s = true := hts _ (List.mem_of_getElem? (i := 3) rfl)
  generalize hQe : MQ below (va_Qi (fun r q => r = x.1 ∧ q = x.2) (fun q t => va_P E.1 vwCl ((fun q : MD => wMD E a0 q) q) t.heap ∧ va_D A ((fun q : MD => wMD E a0 q) q)) A) args s 0 0 A = Q
  refine st_W ha (Nat.le_of_ble_eq_true rfl) (fun ls hl => ?_)
  have hl : lv_has ls 4 [(0, .ref (a0 0)), (1, .int p1), (2, .long p2)] := hl
  unfold f_X11_turns at hf
  refine lv_aload_n hx hb dX11_turns_0 rfl (lv_at hl 0 rfl) ?_
  refine lv_iload_n hx hb dX11_turns_1 rfl (lv_at hl 1 rfl) ?_
  obtain ⟨r1, e1, hf⟩ := bd_some hf
  refine cr_i (va_runV (As := [.int p1]) (rest := []) ⟨hx, hb, hml, hown, hts⟩ (c_X11_isServer l E a0 v0 p1 r1 e1) (cwV 1 hts gX11_turns_X11_isServer rfl rfl rfl hdV_X11_isServer ⟨Nat.le_of_ble_eq_true rfl, Nat.le_of_ble_eq_true rfl⟩) ⟨PR.blind, va_recv hC.1 hP (ci := 9) (q0 := 0) rfl rfl, PR.pre hC hS hP⟩ rfl rfl hl.1 rfl (lv_room (Nat.le_of_ble_eq_true rfl)) dX11_turns_2 ⟨Nat.le_of_ble_eq_true rfl, Nat.le_of_ble_eq_true rfl⟩) ?_
  refine lv_if_ne (tgt := 11) hx hb dX11_turns_5 rfl (fun c2 => ?_) (fun c2 => ?_)
  · have hf := it_f hf c2
    refine lv_aload_n hx hb dX11_turns_11 rfl (lv_at hl 0 rfl) ?_
    refine va_get (D := E.1) (ci := 9) (v := .ref (a0 1)) (C := RX11) (T := TX11) (N := 17) hx hb hts w3 hown hC.1 hP 0 rfl rfl 0 (by decide) w2 (fun _ h9 => h9) rfl dX11_turns_12 ?_
    refine lv_bipush (v := 7) hx hb dX11_turns_15 rfl ?_
    refine lv_iconst (v := 3) hx hb dX11_turns_17 rfl ?_
    refine lv_iload_n hx hb dX11_turns_18 rfl (lv_at hl 1 rfl) ?_
    refine lv_imul hx hb dX11_turns_19 ?_
    refine lv_iadd hx hb dX11_turns_20 ?_
    refine lv_iconst (v := 0) hx hb dX11_turns_21 rfl ?_
    refine lv_iadd hx hb dX11_turns_22 ?_
    obtain ⟨h3, hf⟩ := gdI_some hf
    refine va_lald hx hb hC.1 hP 1 1 rfl rfl h3 dX11_turns_23 ?_
    refine lv_lload_n hx hb dX11_turns_24 rfl (lv_at hl 2 rfl) ?_
    refine W.lcmp hx hb dX11_turns_25 ?_
    refine lv_if_ne (tgt := 33) hx hb dX11_turns_26 rfl (fun c4 => ?_) (fun c4 => ?_)
    · have hf := it_f hf c4
      refine lv_aload_n hx hb dX11_turns_33 rfl (lv_at hl 0 rfl) ?_
      obtain ⟨r5, e5, hf⟩ := bd_some hf
      refine cq_v hP hD hS [0, 1, 2, 3, 4, 5, 6, 7] [] [0, 1, 2, 3, 4, 5, 6, 7] (va_free (wc := (wMD E a0 v0)) hD hS hA [0, 1, 2, 3, 4, 5, 6, 7] rfl) (va_runV (As := []) (rest := []) ⟨hx, hb, hml, hown, hts⟩ (c_X11_notes l E s.heap.size a0 v0 r5 e5) (cwV 0 hts gX11_turns_X11_notes rfl rfl rfl hdV_X11_notes ⟨Nat.le_of_ble_eq_true rfl, Nat.le_of_ble_eq_true rfl⟩) ⟨PW.blind, va_recv hC.1 hP (ci := 9) (q0 := 0) rfl rfl, PW.pre hC hS hP hD (va_free hD hS hA [0, 1, 2, 3, 4, 5, 6, 7] rfl)⟩ rfl rfl hl.1 rfl (lv_room (Nat.le_of_ble_eq_true rfl)) dX11_turns_34 ⟨Nat.le_of_ble_eq_true rfl, Nat.le_of_ble_eq_true rfl⟩) rfl rfl rfl rfl (wMD E a0 r5) rfl rfl (fun H locs hP hD hS => ?_)
      refine lv_aload_n hx hb dX11_turns_37 rfl (lv_at hl 0 rfl) ?_
      refine va_get (D := E.1) (ci := 9) (v := .ref (a0 1)) (C := RX11) (T := TX11) (N := 17) hx hb hts w3 hown hC.1 hP 0 rfl rfl 0 (by decide) w2 (fun _ h9 => h9) rfl dX11_turns_38 ?_
      refine lv_bipush (v := 7) hx hb dX11_turns_41 rfl ?_
      refine lv_iconst (v := 3) hx hb dX11_turns_43 rfl ?_
      refine lv_iload_n hx hb dX11_turns_44 rfl (lv_at hl 1 rfl) ?_
      refine lv_imul hx hb dX11_turns_45 ?_
      refine lv_iadd hx hb dX11_turns_46 ?_
      refine lv_iconst (v := 0) hx hb dX11_turns_47 rfl ?_
      refine lv_iadd hx hb dX11_turns_48 ?_
      refine lv_lload_n hx hb dX11_turns_49 rfl (lv_at hl 2 rfl) ?_
      obtain ⟨h6, hf⟩ := gdI_some hf
      refine va_last hx hb hC.1 hP hD hS 1 1 rfl rfl h6 dX11_turns_50 (fun H locs hP hD hS => ?_)
      have hP : va_P E.1 vwCl (wMD E a0 ((vp_updL r5.1 (((7 : Int32) + ((3 : Int32) * p1)) + (0 : Int32)).toNatClampNeg p2), r5.2.1, r5.2.2.1, r5.2.2.2.1, r5.2.2.2.2.1, r5.2.2.2.2.2.1, r5.2.2.2.2.2.2.1, r5.2.2.2.2.2.2.2.1, r5.2.2.2.2.2.2.2.2.1, r5.2.2.2.2.2.2.2.2.2.1, r5.2.2.2.2.2.2.2.2.2.2.1, r5.2.2.2.2.2.2.2.2.2.2.2.1, r5.2.2.2.2.2.2.2.2.2.2.2.2.1, r5.2.2.2.2.2.2.2.2.2.2.2.2.2.1, r5.2.2.2.2.2.2.2.2.2.2.2.2.2.2.1, r5.2.2.2.2.2.2.2.2.2.2.2.2.2.2.2.1, r5.2.2.2.2.2.2.2.2.2.2.2.2.2.2.2.2)) H := hP
      have hD : va_D A (wMD E a0 ((vp_updL r5.1 (((7 : Int32) + ((3 : Int32) * p1)) + (0 : Int32)).toNatClampNeg p2), r5.2.1, r5.2.2.1, r5.2.2.2.1, r5.2.2.2.2.1, r5.2.2.2.2.2.1, r5.2.2.2.2.2.2.1, r5.2.2.2.2.2.2.2.1, r5.2.2.2.2.2.2.2.2.1, r5.2.2.2.2.2.2.2.2.2.1, r5.2.2.2.2.2.2.2.2.2.2.1, r5.2.2.2.2.2.2.2.2.2.2.2.1, r5.2.2.2.2.2.2.2.2.2.2.2.2.1, r5.2.2.2.2.2.2.2.2.2.2.2.2.2.1, r5.2.2.2.2.2.2.2.2.2.2.2.2.2.2.1, r5.2.2.2.2.2.2.2.2.2.2.2.2.2.2.2.1, r5.2.2.2.2.2.2.2.2.2.2.2.2.2.2.2.2)) := hD
      refine lv_aload_n hx hb dX11_turns_51 rfl (lv_at hl 0 rfl) ?_
      refine va_get (D := E.1) (ci := 9) (v := .ref (a0 1)) (C := RX11) (T := TX11) (N := 17) hx hb hts w3 hown hC.1 hP 0 rfl rfl 0 (by decide) w2 (fun _ h9 => h9) rfl dX11_turns_52 ?_
      obtain ⟨r7, e7, hf⟩ := bd_some hf
      refine cr_i (va_runS (As := [.ref (a0 1)]) (rest := []) ⟨hx, hb, hml, hown, hts⟩ (c_X11_ups l E (a0 1) (vp_updL r5.1 (((7 : Int32) + ((3 : Int32) * p1)) + (0 : Int32)).toNatClampNeg p2) r7 e7) (va_cwS 1 hts gX11_turns_X11_ups rfl rfl rfl hdS_X11_ups ⟨Nat.le_of_ble_eq_true rfl, Nat.le_of_ble_eq_true rfl⟩) ⟨PR.blind, PR.pre hC hS (hP.sub [1] rfl)⟩ rfl rfl hl.1 rfl (lv_room (Nat.le_of_ble_eq_true rfl)) dX11_turns_55 ⟨Nat.le_of_ble_eq_true rfl, Nat.le_of_ble_eq_true rfl⟩) ?_
      obtain ⟨r8, e8, hf⟩ := bd_some hf
      refine cr_i (va_runS (As := [.int r7]) (rest := []) ⟨hx, hb, hml, hown, hts⟩ (c_X11_ones l E r7 r8 e8) (va_cwS 1 hts gX11_turns_X11_ones rfl rfl rfl hdS_X11_ones ⟨Nat.le_of_ble_eq_true rfl, Nat.le_of_ble_eq_true rfl⟩) ⟨PR.blind, PR.pre hC hS (hP.sub [] rfl)⟩ rfl rfl hl.1 rfl (lv_room (Nat.le_of_ble_eq_true rfl)) dX11_turns_58 ⟨Nat.le_of_ble_eq_true rfl, Nat.le_of_ble_eq_true rfl⟩) ?_
      cases Option.some.inj hf
      subst hQe
      exact ew_i (wf := (fun q : MD => wMD E a0 q)) hx hb hr hlocks hP hD hS dX11_turns_61
    · have hf := it_t hf c4
      refine lv_ldcw hx hb hown w4 dX11_turns_29 ?_
      cases Option.some.inj hf
      subst hQe
      exact ew_i (wf := (fun q : MD => wMD E a0 q)) hx hb hr hlocks hP hD hS dX11_turns_32
  · have hf := it_t hf c2
    refine lv_ldc hx hb hown w1 dX11_turns_8 ?_
    cases Option.some.inj hf
    subst hQe
    exact ew_i (wf := (fun q : MD => wMD E a0 q)) hx hb hr hlocks hP hD hS dX11_turns_10

/-! X11_down -/
abbrev rmX11_down : Room := { frames := 3, cells := 0, slots := 0, locals := 69 }
theorem hdS_X11_down : yX11_down.cls ≠ "java/lang/invoke/MethodHandle" ∧ yX11_down.cls ≠ "java/lang/invoke/VarHandle" ∧ (parseMethodDescriptor yX11_down.desc).map (fun d => d.parameters.length) = some 1 := by decide +kernel
theorem hdV_X11_down : yX11_down.cls = RX11 ∧ yX11_down.cls ≠ "java/lang/invoke/MethodHandle" ∧ yX11_down.cls ≠ "java/lang/invoke/VarHandle" ∧ (parseMethodDescriptor yX11_down.desc).map (fun d => d.parameters.length) = some 1 := ⟨rfl, hdS_X11_down⟩
set_option maxHeartbeats 4000000 in
set_option maxRecDepth 100000 in
theorem c_X11_down (l : Launch) (E : G0) (sz : Nat) (a0 : Nat → Nat) (v0 : MD) (p1 : Int32) (x : Int32 × MD) (hf : f_X11_down v0 p1 = some x) : Met l yX11_down wsX11_down rmX11_down (va_Pc [.ref (a0 0), .int p1] (PW E (wMD E a0 v0) sz)) (va_Qi (fun r q => r = x.1 ∧ q = x.2) (fun q t => va_P E.1 vwCl ((fun q : MD => wMD E a0 q) q) t.heap ∧ va_D (va_A (wMD E a0 v0) sz) ((fun q : MD => wMD E a0 q) q)) (va_A (wMD E a0 v0) sz)) 0 0 (va_A (wMD E a0 v0) sz) := by
  refine Met.ofW (cc := cX11_down) (maxL := 2) (ret := some .int) (by decide) rfl ?_
  intro p e s m args below meth c s₁ B hml hv
  obtain ⟨ha, hsz, hP, hD0, hC⟩ := hv
  have hx := B.exec
  have hb := B.bytes
  have hr := B.returns
  have hts := atoms_spec (ws := wsX11_down) B.pre
  have hown : s.vm.findClass RX11 = some m.cls := findClass_of_methodNamed B.named
  have hlocks := B.notSynchronized
  subst hsz
  have hD := hD0.self (sz := s.heap.size)
  generalize hAe : va_A (wMD E a0 v0) s.heap.size = A at hD hC ⊢
  have hA : ∀ q : Nat, s.heap.size ≤ q → A q := fun q h => by rw [← hAe]; exact Or.inr h
  have hS : va_S A s.heap s.heap [] := va_S.rf
  generalize hQe : MQ below (va_Qi (fun r q => r = x.1 ∧ q = x.2) (fun q t => va_P E.1 vwCl ((fun q : MD => wMD E a0 q) q) t.heap ∧ va_D A ((fun q : MD => wMD E a0 q) q)) A) args s 0 0 A = Q
  refine st_W ha (Nat.le_of_ble_eq_true rfl) (fun ls hl => ?_)
  have hl : lv_has ls 2 [(0, .ref (a0 0)), (1, .int p1)] := hl
  unfold f_X11_down at hf
  refine lv_aload_n hx hb dX11_down_0 rfl (lv_at hl 0 rfl) ?_
  refine lv_iload_n hx hb dX11_down_1 rfl (lv_at hl 1 rfl) ?_
  refine lv_lconst (v := 0) hx hb dX11_down_2 rfl ?_
  obtain ⟨r1, e1, hf⟩ := bd_some hf
  refine cq_i hP hD hS [0, 1, 2, 3, 4, 5, 6, 7] [] [0, 1, 2, 3, 4, 5, 6, 7] (va_free (wc := (wMD E a0 v0)) hD hS hA [0, 1, 2, 3, 4, 5, 6, 7] rfl) (va_runV (As := [.int p1, .long (0 : Int64)]) (rest := []) ⟨hx, hb, hml, hown, hts⟩ (c_X11_turns l E s.heap.size a0 v0 p1 (0 : Int64) r1 e1) (cwV 2 hts gX11_down_X11_turns rfl rfl rfl hdV_X11_turns ⟨Nat.le_of_ble_eq_true rfl, Nat.le_of_ble_eq_true rfl⟩) ⟨PW.blind, va_recv hC.1 hP (ci := 9) (q0 := 0) rfl rfl, PW.pre hC hS hP hD (va_free hD hS hA [0, 1, 2, 3, 4, 5, 6, 7] rfl)⟩ rfl rfl hl.1 rfl (lv_room (Nat.le_of_ble_eq_true rfl)) dX11_down_3 ⟨Nat.le_of_ble_eq_true rfl, Nat.le_of_ble_eq_true rfl⟩) rfl rfl rfl rfl (wMD E a0 r1.2) rfl rfl (fun H locs hP hD hS => ?_)
  cases Option.some.inj hf
  subst hQe
  exact ew_i (wf := (fun q : MD => wMD E a0 q)) hx hb hr hlocks hP hD hS dX11_down_6

/-! X11_up -/
abbrev rmX11_up : Room := { frames := 3, cells := 0, slots := 0, locals := 69 }
theorem hdS_X11_up : yX11_up.cls ≠ "java/lang/invoke/MethodHandle" ∧ yX11_up.cls ≠ "java/lang/invoke/VarHandle" ∧ (parseMethodDescriptor yX11_up.desc).map (fun d => d.parameters.length) = some 1 := by decide +kernel
theorem hdV_X11_up : yX11_up.cls = RX11 ∧ yX11_up.cls ≠ "java/lang/invoke/MethodHandle" ∧ yX11_up.cls ≠ "java/lang/invoke/VarHandle" ∧ (parseMethodDescriptor yX11_up.desc).map (fun d => d.parameters.length) = some 1 := ⟨rfl, hdS_X11_up⟩
set_option maxHeartbeats 4000000 in
set_option maxRecDepth 100000 in
theorem c_X11_up (l : Launch) (E : G0) (sz : Nat) (a0 : Nat → Nat) (v0 : MD) (p1 : Int32) (x : Int32 × MD) (hf : f_X11_up v0 p1 = some x) : Met l yX11_up wsX11_up rmX11_up (va_Pc [.ref (a0 0), .int p1] (PW E (wMD E a0 v0) sz)) (va_Qi (fun r q => r = x.1 ∧ q = x.2) (fun q t => va_P E.1 vwCl ((fun q : MD => wMD E a0 q) q) t.heap ∧ va_D (va_A (wMD E a0 v0) sz) ((fun q : MD => wMD E a0 q) q)) (va_A (wMD E a0 v0) sz)) 0 0 (va_A (wMD E a0 v0) sz) := by
  refine Met.ofW (cc := cX11_up) (maxL := 2) (ret := some .int) (by decide) rfl ?_
  intro p e s m args below meth c s₁ B hml hv
  obtain ⟨ha, hsz, hP, hD0, hC⟩ := hv
  have hx := B.exec
  have hb := B.bytes
  have hr := B.returns
  have hts := atoms_spec (ws := wsX11_up) B.pre
  have hown : s.vm.findClass RX11 = some m.cls := findClass_of_methodNamed B.named
  have hlocks := B.notSynchronized
  subst hsz
  have hD := hD0.self (sz := s.heap.size)
  generalize hAe : va_A (wMD E a0 v0) s.heap.size = A at hD hC ⊢
  have hA : ∀ q : Nat, s.heap.size ≤ q → A q := fun q h => by rw [← hAe]; exact Or.inr h
  have hS : va_S A s.heap s.heap [] := va_S.rf
  generalize hQe : MQ below (va_Qi (fun r q => r = x.1 ∧ q = x.2) (fun q t => va_P E.1 vwCl ((fun q : MD => wMD E a0 q) q) t.heap ∧ va_D A ((fun q : MD => wMD E a0 q) q)) A) args s 0 0 A = Q
  refine st_W ha (Nat.le_of_ble_eq_true rfl) (fun ls hl => ?_)
  have hl : lv_has ls 2 [(0, .ref (a0 0)), (1, .int p1)] := hl
  unfold f_X11_up at hf
  refine lv_aload_n hx hb dX11_up_0 rfl (lv_at hl 0 rfl) ?_
  refine lv_iload_n hx hb dX11_up_1 rfl (lv_at hl 1 rfl) ?_
  refine lv_lconst (v := 1) hx hb dX11_up_2 rfl ?_
  obtain ⟨r1, e1, hf⟩ := bd_some hf
  refine cq_i hP hD hS [0, 1, 2, 3, 4, 5, 6, 7] [] [0, 1, 2, 3, 4, 5, 6, 7] (va_free (wc := (wMD E a0 v0)) hD hS hA [0, 1, 2, 3, 4, 5, 6, 7] rfl) (va_runV (As := [.int p1, .long (1 : Int64)]) (rest := []) ⟨hx, hb, hml, hown, hts⟩ (c_X11_turns l E s.heap.size a0 v0 p1 (1 : Int64) r1 e1) (cwV 2 hts gX11_up_X11_turns rfl rfl rfl hdV_X11_turns ⟨Nat.le_of_ble_eq_true rfl, Nat.le_of_ble_eq_true rfl⟩) ⟨PW.blind, va_recv hC.1 hP (ci := 9) (q0 := 0) rfl rfl, PW.pre hC hS hP hD (va_free hD hS hA [0, 1, 2, 3, 4, 5, 6, 7] rfl)⟩ rfl rfl hl.1 rfl (lv_room (Nat.le_of_ble_eq_true rfl)) dX11_up_3 ⟨Nat.le_of_ble_eq_true rfl, Nat.le_of_ble_eq_true rfl⟩) rfl rfl rfl rfl (wMD E a0 r1.2) rfl rfl (fun H locs hP hD hS => ?_)
  cases Option.some.inj hf
  subst hQe
  exact ew_i (wf := (fun q : MD => wMD E a0 q)) hx hb hr hlocks hP hD hS dX11_up_6

/-! X11_spoil -/
abbrev rmX11_spoil : Room := { frames := 2, cells := 0, slots := 0, locals := 46 }
theorem hdS_X11_spoil : yX11_spoil.cls ≠ "java/lang/invoke/MethodHandle" ∧ yX11_spoil.cls ≠ "java/lang/invoke/VarHandle" ∧ (parseMethodDescriptor yX11_spoil.desc).map (fun d => d.parameters.length) = some 2 := by decide +kernel
theorem hdV_X11_spoil : yX11_spoil.cls = RX11 ∧ yX11_spoil.cls ≠ "java/lang/invoke/MethodHandle" ∧ yX11_spoil.cls ≠ "java/lang/invoke/VarHandle" ∧ (parseMethodDescriptor yX11_spoil.desc).map (fun d => d.parameters.length) = some 2 := ⟨rfl, hdS_X11_spoil⟩
set_option maxHeartbeats 4000000 in
set_option maxRecDepth 100000 in
theorem c_X11_spoil (l : Launch) (E : G0) (sz : Nat) (a0 : Nat → Nat) (v0 : MD) (p1 : Int32) (p2 : Int32) (x : Int32 × MD) (hf : f_X11_spoil v0 p1 p2 = some x) : Met l yX11_spoil wsX11_spoil rmX11_spoil (va_Pc [.ref (a0 0), .int p1, .int p2] (PW E (wMD E a0 v0) sz)) (va_Qi (fun r q => r = x.1 ∧ q = x.2) (fun q t => va_P E.1 vwCl ((fun q : MD => wMD E a0 q) q) t.heap ∧ va_D (va_A (wMD E a0 v0) sz) ((fun q : MD => wMD E a0 q) q)) (va_A (wMD E a0 v0) sz)) 0 0 (va_A (wMD E a0 v0) sz) := by
  refine Met.ofW (cc := cX11_spoil) (maxL := 4) (ret := some .int) (by decide) rfl ?_
  intro p e s m args below meth c s₁ B hml hv
  obtain ⟨ha, hsz, hP, hD0, hC⟩ := hv
  have hx := B.exec
  have hb := B.bytes
  have hr := B.returns
  have hts := atoms_spec (ws := wsX11_spoil) B.pre
  have hown : s.vm.findClass RX11 = some m.cls := findClass_of_methodNamed B.named
  have hlocks := B.notSynchronized
  subst hsz
  have hD := hD0.self (sz := s.heap.size)
  generalize hAe : va_A (wMD E a0 v0) s.heap.size = A at hD hC ⊢
  have hA : ∀ q : Nat, s.heap.size ≤ q → A q := fun q h => by rw [← hAe]; exact Or.inr h
  have hS : va_S A s.heap s.heap [] := va_S.rf
  have w1 : (Cond.constant RX11 235 (-1000001)).before args s = true := hts _ (List.mem_of_getElem? (i := 2) rfl)
  have w2 : (Cond.constantLong RX11 310 (9)).before args s = true := hts _ (List.mem_of_getElem? (i := 1) rfl)
  have w3 : (Cond.fieldLink RX11 7 "GreatChunksModel" "now" "[J").before args s = true := hts _ (List.mem_of_getElem? (i := 3) rfl)
  have w4 : ∀ w ∈ wsX110, w ∈ wsX11_spoil := in_pl 21 rfl
  generalize hQe : MQ below (va_Qi (fun r q => r = x.1 ∧ q = x.2) (fun q t => va_P E.1 vwCl ((fun q : MD => wMD E a0 q) q) t.heap ∧ va_D A ((fun q : MD => wMD E a0 q) q)) A) args s 0 0 A = Q
  refine st_W ha (Nat.le_of_ble_eq_true rfl) (fun ls hl => ?_)
  have hl : lv_has ls 4 [(0, .ref (a0 0)), (1, .int p1), (2, .int p2)] := hl
  unfold f_X11_spoil at hf
  refine lv_aload_n hx hb dX11_spoil_0 rfl (lv_at hl 0 rfl) ?_
  refine lv_iload_n hx hb dX11_spoil_1 rfl (lv_at hl 1 rfl) ?_
  obtain ⟨r1, e1, hf⟩ := bd_some hf
  refine cr_i (va_runV (As := [.int p1]) (rest := []) ⟨hx, hb, hml, hown, hts⟩ (c_X11_isServer l E a0 v0 p1 r1 e1) (cwV 1 hts gX11_spoil_X11_isServer rfl rfl rfl hdV_X11_isServer ⟨Nat.le_of_ble_eq_true rfl, Nat.le_of_ble_eq_true rfl⟩) ⟨PR.blind, va_recv hC.1 hP (ci := 9) (q0 := 0) rfl rfl, PR.pre hC hS hP⟩ rfl rfl hl.1 rfl (lv_room (Nat.le_of_ble_eq_true rfl)) dX11_spoil_2 ⟨Nat.le_of_ble_eq_true rfl, Nat.le_of_ble_eq_true rfl⟩) ?_
  refine lv_if_eq (tgt := 20) hx hb dX11_spoil_5 rfl (fun c2 => ?_) (fun c2 => ?_)
  · have hf := it_t hf c2
    refine lv_ldc hx hb hown w1 dX11_spoil_20 ?_
    cases Option.some.inj hf
    subst hQe
    exact ew_i (wf := (fun q : MD => wMD E a0 q)) hx hb hr hlocks hP hD hS dX11_spoil_22
  · have hf := it_f hf c2
    refine lv_iload_n hx hb dX11_spoil_8 rfl (lv_at hl 2 rfl) ?_
    refine lv_i2l hx hb dX11_spoil_9 rfl ?_
    refine lv_lconst (v := 0) hx hb dX11_spoil_10 rfl ?_
    refine lv_ldc2 hx hb hown w2 dX11_spoil_11 ?_
    refine cr_i (va_runS (As := [.long p2.toInt64, .long (0 : Int64), .long ((9) : Int64)]) (rest := []) ⟨hx, hb, hml, hown, hts⟩ (c_X11_in l E p2.toInt64 (0 : Int64) ((9) : Int64) _ rfl) (va_cwS 3 hts gX11_spoil_X11_in rfl rfl rfl hdS_X11_in ⟨Nat.le_of_ble_eq_true rfl, Nat.le_of_ble_eq_true rfl⟩) ⟨PR.blind, PR.pre hC hS (hP.sub [] rfl)⟩ rfl rfl hl.1 rfl (lv_room (Nat.le_of_ble_eq_true rfl)) dX11_spoil_14 ⟨Nat.le_of_ble_eq_true rfl, Nat.le_of_ble_eq_true rfl⟩) ?_
    refine lv_if_ne (tgt := 23) hx hb dX11_spoil_17 rfl (fun c3 => ?_) (fun c3 => ?_)
    · have hf := it_f hf c3
      refine lv_aload_n hx hb dX11_spoil_23 rfl (lv_at hl 0 rfl) ?_
      obtain ⟨r4, e4, hf⟩ := bd_some hf
      refine cq_v hP hD hS [0, 1, 2, 3, 4, 5, 6, 7] [] [0, 1, 2, 3, 4, 5, 6, 7] (va_free (wc := (wMD E a0 v0)) hD hS hA [0, 1, 2, 3, 4, 5, 6, 7] rfl) (va_runV (As := []) (rest := []) ⟨hx, hb, hml, hown, hts⟩ (c_X11_notes l E s.heap.size a0 v0 r4 e4) (cwV 0 hts gX11_spoil_X11_notes rfl rfl rfl hdV_X11_notes ⟨Nat.le_of_ble_eq_true rfl, Nat.le_of_ble_eq_true rfl⟩) ⟨PW.blind, va_recv hC.1 hP (ci := 9) (q0 := 0) rfl rfl, PW.pre hC hS hP hD (va_free hD hS hA [0, 1, 2, 3, 4, 5, 6, 7] rfl)⟩ rfl rfl hl.1 rfl (lv_room (Nat.le_of_ble_eq_true rfl)) dX11_spoil_24 ⟨Nat.le_of_ble_eq_true rfl, Nat.le_of_ble_eq_true rfl⟩) rfl rfl rfl rfl (wMD E a0 r4) rfl rfl (fun H locs hP hD hS => ?_)
      refine lv_aload_n hx hb dX11_spoil_27 rfl (lv_at hl 0 rfl) ?_
      refine va_get (D := E.1) (ci := 9) (v := .ref (a0 1)) (C := RX11) (T := TX11) (N := 17) hx hb hts w4 hown hC.1 hP 0 rfl rfl 0 (by decide) w3 (fun _ h9 => h9) rfl dX11_spoil_28 ?_
      refine lv_bipush (v := 7) hx hb dX11_spoil_31 rfl ?_
      refine lv_iconst (v := 3) hx hb dX11_spoil_33 rfl ?_
      refine lv_iload_n hx hb dX11_spoil_34 rfl (lv_at hl 1 rfl) ?_
      refine lv_imul hx hb dX11_spoil_35 ?_
      refine lv_iadd hx hb dX11_spoil_36 ?_
      refine lv_iconst (v := 2) hx hb dX11_spoil_37 rfl ?_
      refine lv_iadd hx hb dX11_spoil_38 ?_
      obtain ⟨h5, hf⟩ := gdI_some hf
      refine va_lald hx hb hC.1 hP 1 1 rfl rfl h5 dX11_spoil_39 ?_
      refine lv_l2i hx hb dX11_spoil_40 rfl ?_
      refine lv_istore_n (lv' := [(3, .int ((r4.1 (((7 : Int32) + ((3 : Int32) * p1)) + (2 : Int32)).toNatClampNeg).toInt32)), (0, .ref (a0 0)), (1, .int p1), (2, .int p2)]) hx hb dX11_spoil_41 rfl hl (by decide) rfl (fun ls hl => ?_)
      refine lv_aload_n hx hb dX11_spoil_42 rfl (lv_at hl 1 rfl) ?_
      refine va_get (D := E.1) (ci := 9) (v := .ref (a0 1)) (C := RX11) (T := TX11) (N := 17) hx hb hts w4 hown hC.1 hP 0 rfl rfl 0 (by decide) w3 (fun _ h9 => h9) rfl dX11_spoil_43 ?_
      refine lv_bipush (v := 7) hx hb dX11_spoil_46 rfl ?_
      refine lv_iconst (v := 3) hx hb dX11_spoil_48 rfl ?_
      refine lv_iload_n hx hb dX11_spoil_49 rfl (lv_at hl 2 rfl) ?_
      refine lv_imul hx hb dX11_spoil_50 ?_
      refine lv_iadd hx hb dX11_spoil_51 ?_
      refine lv_iconst (v := 2) hx hb dX11_spoil_52 rfl ?_
      refine lv_iadd hx hb dX11_spoil_53 ?_
      refine lv_iload_n hx hb dX11_spoil_54 rfl (lv_at hl 3 rfl) ?_
      refine lv_i2l hx hb dX11_spoil_55 rfl ?_
      obtain ⟨h6, hf⟩ := gdI_some hf
      refine va_last hx hb hC.1 hP hD hS 1 1 rfl rfl h6 dX11_spoil_56 (fun H locs hP hD hS => ?_)
      have hP : va_P E.1 vwCl (wMD E a0 ((vp_updL r4.1 (((7 : Int32) + ((3 : Int32) * p1)) + (2 : Int32)).toNatClampNeg p2.toInt64), r4.2.1, r4.2.2.1, r4.2.2.2.1, r4.2.2.2.2.1, r4.2.2.2.2.2.1, r4.2.2.2.2.2.2.1, r4.2.2.2.2.2.2.2.1, r4.2.2.2.2.2.2.2.2.1, r4.2.2.2.2.2.2.2.2.2.1, r4.2.2.2.2.2.2.2.2.2.2.1, r4.2.2.2.2.2.2.2.2.2.2.2.1, r4.2.2.2.2.2.2.2.2.2.2.2.2.1, r4.2.2.2.2.2.2.2.2.2.2.2.2.2.1, r4.2.2.2.2.2.2.2.2.2.2.2.2.2.2.1, r4.2.2.2.2.2.2.2.2.2.2.2.2.2.2.2.1, r4.2.2.2.2.2.2.2.2.2.2.2.2.2.2.2.2)) H := hP
      have hD : va_D A (wMD E a0 ((vp_updL r4.1 (((7 : Int32) + ((3 : Int32) * p1)) + (2 : Int32)).toNatClampNeg p2.toInt64), r4.2.1, r4.2.2.1, r4.2.2.2.1, r4.2.2.2.2.1, r4.2.2.2.2.2.1, r4.2.2.2.2.2.2.1, r4.2.2.2.2.2.2.2.1, r4.2.2.2.2.2.2.2.2.1, r4.2.2.2.2.2.2.2.2.2.1, r4.2.2.2.2.2.2.2.2.2.2.1, r4.2.2.2.2.2.2.2.2.2.2.2.1, r4.2.2.2.2.2.2.2.2.2.2.2.2.1, r4.2.2.2.2.2.2.2.2.2.2.2.2.2.1, r4.2.2.2.2.2.2.2.2.2.2.2.2.2.2.1, r4.2.2.2.2.2.2.2.2.2.2.2.2.2.2.2.1, r4.2.2.2.2.2.2.2.2.2.2.2.2.2.2.2.2)) := hD
      refine lv_iload_n hx hb dX11_spoil_57 rfl (lv_at hl 0 rfl) ?_
      cases Option.some.inj hf
      subst hQe
      exact ew_i (wf := (fun q : MD => wMD E a0 q)) hx hb hr hlocks hP hD hS dX11_spoil_58
    · have hf := it_t hf c3
      refine lv_ldc hx hb hown w1 dX11_spoil_20 ?_
      cases Option.some.inj hf
      subst hQe
      exact ew_i (wf := (fun q : MD => wMD E a0 q)) hx hb hr hlocks hP hD hS dX11_spoil_22

/-! X11_beat -/
abbrev rmX11_beat : Room := { frames := 2, cells := 0, slots := 0, locals := 46 }
theorem hdS_X11_beat : yX11_beat.cls ≠ "java/lang/invoke/MethodHandle" ∧ yX11_beat.cls ≠ "java/lang/invoke/VarHandle" ∧ (parseMethodDescriptor yX11_beat.desc).map (fun d => d.parameters.length) = some 1 := by decide +kernel
theorem hdV_X11_beat : yX11_beat.cls = RX11 ∧ yX11_beat.cls ≠ "java/lang/invoke/MethodHandle" ∧ yX11_beat.cls ≠ "java/lang/invoke/VarHandle" ∧ (parseMethodDescriptor yX11_beat.desc).map (fun d => d.parameters.length) = some 1 := ⟨rfl, hdS_X11_beat⟩
set_option maxHeartbeats 4000000 in
set_option maxRecDepth 100000 in
theorem c_X11_beat (l : Launch) (E : G0) (sz : Nat) (a0 : Nat → Nat) (v0 : MD) (p1 : Int32) (x : Int32 × MD) (hf : f_X11_beat v0 p1 = some x) : Met l yX11_beat wsX11_beat rmX11_beat (va_Pc [.ref (a0 0), .int p1] (PW E (wMD E a0 v0) sz)) (va_Qi (fun r q => r = x.1 ∧ q = x.2) (fun q t => va_P E.1 vwCl ((fun q : MD => wMD E a0 q) q) t.heap ∧ va_D (va_A (wMD E a0 v0) sz) ((fun q : MD => wMD E a0 q) q)) (va_A (wMD E a0 v0) sz)) 0 0 (va_A (wMD E a0 v0) sz) := by
  refine Met.ofW (cc := cX11_beat) (maxL := 5) (ret := some .int) (by decide) rfl ?_
  intro p e s m args below meth c s₁ B hml hv
  obtain ⟨ha, hsz, hP, hD0, hC⟩ := hv
  have hx := B.exec
  have hb := B.bytes
  have hr := B.returns
  have hts := atoms_spec (ws := wsX11_beat) B.pre
  have hown : s.vm.findClass RX11 = some m.cls := findClass_of_methodNamed B.named
  have hlocks := B.notSynchronized
  subst hsz
  have hD := hD0.self (sz := s.heap.size)
  generalize hAe : va_A (wMD E a0 v0) s.heap.size = A at hD hC ⊢
  have hA : ∀ q : Nat, s.heap.size ≤ q → A q := fun q h => by rw [← hAe]; exact Or.inr h
  have hS : va_S A s.heap s.heap [] := va_S.rf
  have w1 : (Cond.fieldLink RX11 7 "GreatChunksModel" "now" "[J").before args s = true := hts _ (List.mem_of_getElem? (i := 2) rfl)
  have w2 : ∀ w ∈ wsX110, w ∈ wsX11_beat := in_pl 34 rfl
  have w3 : (Cond.constant RX11 261 (-1000002)).before args s = true := hts _ (List.mem_of_getElem? (i := 3) rfl)
  have w4 : (Cond.constant RX11 235 (-1000001)).before args s = true := hts _ (List.mem_of_getElem? (i := 1) rfl)
  generalize hQe : MQ below (va_Qi (fun r q => r = x.1 ∧ q = x.2) (fun q t => va_P E.1 vwCl ((fun q : MD => wMD E a0 q) q) t.heap ∧ va_D A ((fun q : MD => wMD E a0 q) q)) A) args s 0 0 A = Q
  refine st_W ha (Nat.le_of_ble_eq_true rfl) (fun ls hl => ?_)
  have hl : lv_has ls 5 [(0, .ref (a0 0)), (1, .int p1)] := hl
  unfold f_X11_beat at hf
  refine lv_aload_n hx hb dX11_beat_0 rfl (lv_at hl 0 rfl) ?_
  refine lv_iload_n hx hb dX11_beat_1 rfl (lv_at hl 1 rfl) ?_
  obtain ⟨r1, e1, hf⟩ := bd_some hf
  refine cr_i (va_runV (As := [.int p1]) (rest := []) ⟨hx, hb, hml, hown, hts⟩ (c_X11_isServer l E a0 v0 p1 r1 e1) (cwV 1 hts gX11_beat_X11_isServer rfl rfl rfl hdV_X11_isServer ⟨Nat.le_of_ble_eq_true rfl, Nat.le_of_ble_eq_true rfl⟩) ⟨PR.blind, va_recv hC.1 hP (ci := 9) (q0 := 0) rfl rfl, PR.pre hC hS hP⟩ rfl rfl hl.1 rfl (lv_room (Nat.le_of_ble_eq_true rfl)) dX11_beat_2 ⟨Nat.le_of_ble_eq_true rfl, Nat.le_of_ble_eq_true rfl⟩) ?_
  refine lv_if_ne (tgt := 11) hx hb dX11_beat_5 rfl (fun c2 => ?_) (fun c2 => ?_)
  · have hf := it_f hf c2
    refine lv_aload_n hx hb dX11_beat_11 rfl (lv_at hl 0 rfl) ?_
    refine va_get (D := E.1) (ci := 9) (v := .ref (a0 1)) (C := RX11) (T := TX11) (N := 17) hx hb hts w2 hown hC.1 hP 0 rfl rfl 0 (by decide) w1 (fun _ h9 => h9) rfl dX11_beat_12 ?_
    refine lv_iload_n hx hb dX11_beat_15 rfl (lv_at hl 1 rfl) ?_
    obtain ⟨r3, e3, hf⟩ := bd_some hf
    refine cr_i (va_runS (As := [.ref (a0 1), .int p1]) (rest := []) ⟨hx, hb, hml, hown, hts⟩ (c_X11_isUp l E (a0 1) v0.1 p1 r3 e3) (va_cwS 2 hts gX11_beat_X11_isUp rfl rfl rfl hdS_X11_isUp ⟨Nat.le_of_ble_eq_true rfl, Nat.le_of_ble_eq_true rfl⟩) ⟨PR.blind, PR.pre hC hS (hP.sub [1] rfl)⟩ rfl rfl hl.1 rfl (lv_room (Nat.le_of_ble_eq_true rfl)) dX11_beat_16 ⟨Nat.le_of_ble_eq_true rfl, Nat.le_of_ble_eq_true rfl⟩) ?_
    refine lv_if_ne (tgt := 26) hx hb dX11_beat_19 rfl (fun c4 => ?_) (fun c4 => ?_)
    · have hf := it_f hf c4
      refine lv_aload_n hx hb dX11_beat_26 rfl (lv_at hl 0 rfl) ?_
      obtain ⟨r5, e5, hf⟩ := bd_some hf
      refine cq_v hP hD hS [0, 1, 2, 3, 4, 5, 6, 7] [] [0, 1, 2, 3, 4, 5, 6, 7] (va_free (wc := (wMD E a0 v0)) hD hS hA [0, 1, 2, 3, 4, 5, 6, 7] rfl) (va_runV (As := []) (rest := []) ⟨hx, hb, hml, hown, hts⟩ (c_X11_notes l E s.heap.size a0 v0 r5 e5) (cwV 0 hts gX11_beat_X11_notes rfl rfl rfl hdV_X11_notes ⟨Nat.le_of_ble_eq_true rfl, Nat.le_of_ble_eq_true rfl⟩) ⟨PW.blind, va_recv hC.1 hP (ci := 9) (q0 := 0) rfl rfl, PW.pre hC hS hP hD (va_free hD hS hA [0, 1, 2, 3, 4, 5, 6, 7] rfl)⟩ rfl rfl hl.1 rfl (lv_room (Nat.le_of_ble_eq_true rfl)) dX11_beat_27 ⟨Nat.le_of_ble_eq_true rfl, Nat.le_of_ble_eq_true rfl⟩) rfl rfl rfl rfl (wMD E a0 r5) rfl rfl (fun H locs hP hD hS => ?_)
      refine lv_iconst (v := 0) hx hb dX11_beat_30 rfl ?_
      refine lv_istore_n (lv' := [(2, .int (0 : Int32)), (0, .ref (a0 0)), (1, .int p1)]) hx hb dX11_beat_31 rfl hl (by decide) rfl (fun ls hl => ?_)
      refine lv_iconst (v := 0) hx hb dX11_beat_32 rfl ?_
      refine lv_istore_n (lv' := [(3, .int (0 : Int32)), (2, .int (0 : Int32)), (0, .ref (a0 0)), (1, .int p1)]) hx hb dX11_beat_33 rfl hl (by decide) rfl (fun ls hl => ?_)
      obtain ⟨K6, hK6, hf⟩ := jn_some hf
      have J6 : ∀ (q6 : Int32 × Int32 × MD) (H : Heap) (locs : List Loc) (hP : va_P E.1 vwCl (wMD E a0 q6.2.2) H) (hD : va_D A (wMD E a0 q6.2.2)) (hS : va_S A s.heap H locs) (ls : Array Slot) (hl : lv_has ls 5 [(2, .int q6.1)]) (hf : K6 q6 = some x), W p l e (headSpec wsX11_beat rmX11_beat).room s m args below meth c H locs 0 0 Q (F0 m 149 ls []) := by
        intro q6 H locs hP hD hS ls hl hf
        have hf := (hK6 q6).trans hf
        refine lv_iload_n hx hb dX11_beat_149 rfl (lv_at hl 0 rfl) ?_
        cases Option.some.inj hf
        subst hQe
        exact ew_i (wf := (fun q : MD => wMD E a0 q)) hx hb hr hlocks hP hD hS dX11_beat_150
      have L6 : ∀ (n : Nat) (q6 : Int32 × Int32 × MD) (H : Heap) (locs : List Loc) (hP : va_P E.1 vwCl (wMD E a0 q6.2.2) H) (hD : va_D A (wMD E a0 q6.2.2)) (hS : va_S A s.heap H locs) (ls : Array Slot) (hl : lv_has ls 5 [(0, .ref (a0 0)), (1, .int p1), (2, .int q6.1), (3, .int q6.2.1)]) (hf : lpF (bX11_beat_6 p1 K6) n q6 = some x), W p l e (headSpec wsX11_beat rmX11_beat).room s m args below meth c H locs 0 0 Q (F0 m 34 ls []) := by
        intro n
        induction n with
        | zero => intro q6 H locs hP hD hS ls hl hf; exact (lpF_zero hf).elim
        | succ n ih6 =>
          intro q6 H locs hP hD hS ls hl hf
          have hf := lpF_succ hf
          unfold bX11_beat_6 at hf
          refine lv_iload_n hx hb dX11_beat_34 rfl (lv_at hl 3 rfl) ?_
          refine lv_i2l hx hb dX11_beat_35 rfl ?_
          refine lv_aload_n hx hb dX11_beat_36 rfl (lv_at hl 0 rfl) ?_
          refine va_get (D := E.1) (ci := 9) (v := .ref (a0 1)) (C := RX11) (T := TX11) (N := 17) hx hb hts w2 hown hC.1 hP 0 rfl rfl 0 (by decide) w1 (fun _ h9 => h9) rfl dX11_beat_37 ?_
          refine lv_bipush (v := 6) hx hb dX11_beat_40 rfl ?_
          obtain ⟨h7, hf⟩ := gdI_some hf
          refine va_lald hx hb hC.1 hP 1 1 rfl rfl h7 dX11_beat_42 ?_
          refine W.lcmp hx hb dX11_beat_43 ?_
          refine lv_if_ge (tgt := 149) hx hb dX11_beat_44 rfl (fun c8 => ?_) (fun c8 => ?_)
          · have hf := it_t hf c8
            exact J6 (q6.1, q6.2.1, q6.2.2) H locs hP hD hS ls (lv_sub hl [2] rfl) hf
          · have hf := it_f hf c8
            refine lv_aload_n hx hb dX11_beat_47 rfl (lv_at hl 0 rfl) ?_
            refine va_get (D := E.1) (ci := 9) (v := .ref (a0 1)) (C := RX11) (T := TX11) (N := 17) hx hb hts w2 hown hC.1 hP 0 rfl rfl 0 (by decide) w1 (fun _ h9 => h9) rfl dX11_beat_48 ?_
            refine lv_iload_n hx hb dX11_beat_51 rfl (lv_at hl 3 rfl) ?_
            refine lv_iload_n hx hb dX11_beat_52 rfl (lv_at hl 1 rfl) ?_
            obtain ⟨r9, e9, hf⟩ := bd_some hf
            refine cr_l (va_runS (As := [.ref (a0 1), .int q6.2.1, .int p1]) (rest := []) ⟨hx, hb, hml, hown, hts⟩ (c_X11_copy l E (a0 1) q6.2.2.1 q6.2.1 p1 r9 e9) (va_cwS 3 hts gX11_beat_X11_copy rfl rfl rfl hdS_X11_copy ⟨Nat.le_of_ble_eq_true rfl, Nat.le_of_ble_eq_true rfl⟩) ⟨PR.blind, PR.pre hC hS (hP.sub [1] rfl)⟩ rfl rfl hl.1 rfl (lv_room (Nat.le_of_ble_eq_true rfl)) dX11_beat_53 ⟨Nat.le_of_ble_eq_true rfl, Nat.le_of_ble_eq_true rfl⟩) ?_
            refine lv_lconst (v := 0) hx hb dX11_beat_56 rfl ?_
            refine W.lcmp hx hb dX11_beat_57 ?_
            obtain ⟨q10, e10, hf⟩ := bd_some hf
            have J10 : W p l e (headSpec wsX11_beat rmX11_beat).room s m args below meth c H locs 0 0 Q (F0 m 96 ls [.int (bI q10)]) := by
              refine lv_istore (lv' := [(4, .int (bI q10)), (0, .ref (a0 0)), (1, .int p1), (2, .int q6.1), (3, .int q6.2.1)]) hx hb dX11_beat_96 hl (by decide) rfl (fun ls hl => ?_)
              refine lv_aload_n hx hb dX11_beat_98 rfl (lv_at hl 1 rfl) ?_
              refine va_get (D := E.1) (ci := 9) (v := .ref (a0 1)) (C := RX11) (T := TX11) (N := 17) hx hb hts w2 hown hC.1 hP 0 rfl rfl 0 (by decide) w1 (fun _ h9 => h9) rfl dX11_beat_99 ?_
              refine lv_sipush (v := 190) hx hb dX11_beat_102 rfl ?_
              refine lv_iconst (v := 5) hx hb dX11_beat_105 rfl ?_
              refine lv_iload_n hx hb dX11_beat_106 rfl (lv_at hl 4 rfl) ?_
              refine lv_imul hx hb dX11_beat_107 ?_
              refine lv_iadd hx hb dX11_beat_108 ?_
              refine lv_iload_n hx hb dX11_beat_109 rfl (lv_at hl 2 rfl) ?_
              refine lv_iadd hx hb dX11_beat_110 ?_
              refine lv_iload hx hb dX11_beat_111 (lv_at hl 0 rfl) ?_
              obtain ⟨q11, e11, hf⟩ := bd_some hf
              have J11 : W p l e (headSpec wsX11_beat rmX11_beat).room s m args below meth c H locs 0 0 Q (F0 m 129 ls [.long q11, .int (((190 : Int32) + ((5 : Int32) * q6.2.1)) + p1), .ref (a0 1)]) := by
                obtain ⟨h12, hf⟩ := gdI_some hf
                refine va_last hx hb hC.1 hP hD hS 1 1 rfl rfl h12 dX11_beat_129 (fun H locs hP hD hS => ?_)
                have hP : va_P E.1 vwCl (wMD E a0 ((vp_updL q6.2.2.1 (((190 : Int32) + ((5 : Int32) * q6.2.1)) + p1).toNatClampNeg q11), q6.2.2.2.1, q6.2.2.2.2.1, q6.2.2.2.2.2.1, q6.2.2.2.2.2.2.1, q6.2.2.2.2.2.2.2.1, q6.2.2.2.2.2.2.2.2.1, q6.2.2.2.2.2.2.2.2.2.1, q6.2.2.2.2.2.2.2.2.2.2.1, q6.2.2.2.2.2.2.2.2.2.2.2.1, q6.2.2.2.2.2.2.2.2.2.2.2.2.1, q6.2.2.2.2.2.2.2.2.2.2.2.2.2.1, q6.2.2.2.2.2.2.2.2.2.2.2.2.2.2.1, q6.2.2.2.2.2.2.2.2.2.2.2.2.2.2.2.1, q6.2.2.2.2.2.2.2.2.2.2.2.2.2.2.2.2.1, q6.2.2.2.2.2.2.2.2.2.2.2.2.2.2.2.2.2.1, q6.2.2.2.2.2.2.2.2.2.2.2.2.2.2.2.2.2.2)) H := hP
                have hD : va_D A (wMD E a0 ((vp_updL q6.2.2.1 (((190 : Int32) + ((5 : Int32) * q6.2.1)) + p1).toNatClampNeg q11), q6.2.2.2.1, q6.2.2.2.2.1, q6.2.2.2.2.2.1, q6.2.2.2.2.2.2.1, q6.2.2.2.2.2.2.2.1, q6.2.2.2.2.2.2.2.2.1, q6.2.2.2.2.2.2.2.2.2.1, q6.2.2.2.2.2.2.2.2.2.2.1, q6.2.2.2.2.2.2.2.2.2.2.2.1, q6.2.2.2.2.2.2.2.2.2.2.2.2.1, q6.2.2.2.2.2.2.2.2.2.2.2.2.2.1, q6.2.2.2.2.2.2.2.2.2.2.2.2.2.2.1, q6.2.2.2.2.2.2.2.2.2.2.2.2.2.2.2.1, q6.2.2.2.2.2.2.2.2.2.2.2.2.2.2.2.2.1, q6.2.2.2.2.2.2.2.2.2.2.2.2.2.2.2.2.2.1, q6.2.2.2.2.2.2.2.2.2.2.2.2.2.2.2.2.2.2)) := hD
                refine lv_iload_n hx hb dX11_beat_130 rfl (lv_at hl 3 rfl) ?_
                refine lv_iload hx hb dX11_beat_131 (lv_at hl 0 rfl) ?_
                refine lv_if_eq (tgt := 140) hx hb dX11_beat_133 rfl (fun c13 => ?_) (fun c13 => ?_)
                · have hf := it_t hf c13
                  refine lv_iconst (v := 0) hx hb dX11_beat_140 rfl ?_
                  refine lv_iadd hx hb dX11_beat_141 ?_
                  refine lv_istore_n (lv' := [(2, .int (q6.1 + (0 : Int32))), (4, .int (bI q10)), (0, .ref (a0 0)), (1, .int p1), (3, .int q6.2.1)]) hx hb dX11_beat_142 rfl hl (by decide) rfl (fun ls hl => ?_)
                  refine lv_iinc (v := (q6.2.1 + 1)) (lv' := [(3, .int (q6.2.1 + 1)), (2, .int (q6.1 + (0 : Int32))), (4, .int (bI q10)), (0, .ref (a0 0)), (1, .int p1)]) hx hb dX11_beat_143 hl (k := 4) rfl rfl (by decide) rfl (fun ls hl => ?_)
                  refine lv_goto (tgt := 34) hx hb dX11_beat_146 rfl ?_
                  exact ih6 ((q6.1 + (0 : Int32)), (q6.2.1 + 1), ((vp_updL q6.2.2.1 (((190 : Int32) + ((5 : Int32) * q6.2.1)) + p1).toNatClampNeg q11), q6.2.2.2.1, q6.2.2.2.2.1, q6.2.2.2.2.2.1, q6.2.2.2.2.2.2.1, q6.2.2.2.2.2.2.2.1, q6.2.2.2.2.2.2.2.2.1, q6.2.2.2.2.2.2.2.2.2.1, q6.2.2.2.2.2.2.2.2.2.2.1, q6.2.2.2.2.2.2.2.2.2.2.2.1, q6.2.2.2.2.2.2.2.2.2.2.2.2.1, q6.2.2.2.2.2.2.2.2.2.2.2.2.2.1, q6.2.2.2.2.2.2.2.2.2.2.2.2.2.2.1, q6.2.2.2.2.2.2.2.2.2.2.2.2.2.2.2.1, q6.2.2.2.2.2.2.2.2.2.2.2.2.2.2.2.2.1, q6.2.2.2.2.2.2.2.2.2.2.2.2.2.2.2.2.2.1, q6.2.2.2.2.2.2.2.2.2.2.2.2.2.2.2.2.2.2)) H locs hP hD hS ls (lv_sub hl [3, 4, 1, 0] rfl) hf
                · have hf := it_f hf c13
                  refine lv_iconst (v := 1) hx hb dX11_beat_136 rfl ?_
                  refine lv_goto (tgt := 141) hx hb dX11_beat_137 rfl ?_
                  refine lv_iadd hx hb dX11_beat_141 ?_
                  refine lv_istore_n (lv' := [(2, .int (q6.1 + (1 : Int32))), (4, .int (bI q10)), (0, .ref (a0 0)), (1, .int p1), (3, .int q6.2.1)]) hx hb dX11_beat_142 rfl hl (by decide) rfl (fun ls hl => ?_)
                  refine lv_iinc (v := (q6.2.1 + 1)) (lv' := [(3, .int (q6.2.1 + 1)), (2, .int (q6.1 + (1 : Int32))), (4, .int (bI q10)), (0, .ref (a0 0)), (1, .int p1)]) hx hb dX11_beat_143 hl (k := 4) rfl rfl (by decide) rfl (fun ls hl => ?_)
                  refine lv_goto (tgt := 34) hx hb dX11_beat_146 rfl ?_
                  exact ih6 ((q6.1 + (1 : Int32)), (q6.2.1 + 1), ((vp_updL q6.2.2.1 (((190 : Int32) + ((5 : Int32) * q6.2.1)) + p1).toNatClampNeg q11), q6.2.2.2.1, q6.2.2.2.2.1, q6.2.2.2.2.2.1, q6.2.2.2.2.2.2.1, q6.2.2.2.2.2.2.2.1, q6.2.2.2.2.2.2.2.2.1, q6.2.2.2.2.2.2.2.2.2.1, q6.2.2.2.2.2.2.2.2.2.2.1, q6.2.2.2.2.2.2.2.2.2.2.2.1, q6.2.2.2.2.2.2.2.2.2.2.2.2.1, q6.2.2.2.2.2.2.2.2.2.2.2.2.2.1, q6.2.2.2.2.2.2.2.2.2.2.2.2.2.2.1, q6.2.2.2.2.2.2.2.2.2.2.2.2.2.2.2.1, q6.2.2.2.2.2.2.2.2.2.2.2.2.2.2.2.2.1, q6.2.2.2.2.2.2.2.2.2.2.2.2.2.2.2.2.2.1, q6.2.2.2.2.2.2.2.2.2.2.2.2.2.2.2.2.2.2)) H locs hP hD hS ls (lv_sub hl [3, 4, 1, 0] rfl) hf
              have hf := e11
              refine lv_if_eq (tgt := 120) hx hb dX11_beat_113 rfl (fun c14 => ?_) (fun c14 => ?_)
              · have hf := it_t hf c14
                refine lv_aload_n hx hb dX11_beat_120 rfl (lv_at hl 1 rfl) ?_
                refine va_get (D := E.1) (ci := 9) (v := .ref (a0 1)) (C := RX11) (T := TX11) (N := 17) hx hb hts w2 hown hC.1 hP 0 rfl rfl 0 (by decide) w1 (fun _ h9 => h9) rfl dX11_beat_121 ?_
                refine lv_iload_n hx hb dX11_beat_124 rfl (lv_at hl 4 rfl) ?_
                refine lv_iload_n hx hb dX11_beat_125 rfl (lv_at hl 2 rfl) ?_
                obtain ⟨r15, e15, hf⟩ := bd_some hf
                refine cr_l (va_runS (As := [.ref (a0 1), .int q6.2.1, .int p1]) (rest := [.int (((190 : Int32) + ((5 : Int32) * q6.2.1)) + p1), .ref (a0 1)]) ⟨hx, hb, hml, hown, hts⟩ (c_X11_copy l E (a0 1) q6.2.2.1 q6.2.1 p1 r15 e15) (va_cwS 3 hts gX11_beat_X11_copy rfl rfl rfl hdS_X11_copy ⟨Nat.le_of_ble_eq_true rfl, Nat.le_of_ble_eq_true rfl⟩) ⟨PR.blind, PR.pre hC hS (hP.sub [1] rfl)⟩ rfl rfl hl.1 rfl (lv_room (Nat.le_of_ble_eq_true rfl)) dX11_beat_126 ⟨Nat.le_of_ble_eq_true rfl, Nat.le_of_ble_eq_true rfl⟩) ?_
                cases Option.some.inj hf
                exact J11
              · have hf := it_f hf c14
                refine lv_lconst (v := 0) hx hb dX11_beat_116 rfl ?_
                refine lv_goto (tgt := 129) hx hb dX11_beat_117 rfl ?_
                cases Option.some.inj hf
                exact J11
            have hf := e10
            refine lv_if_eq (tgt := 95) hx hb dX11_beat_58 rfl (fun c16 => ?_) (fun c16 => ?_)
            · have hf := it_t hf c16
              refine lv_iconst (v := 0) hx hb dX11_beat_95 rfl ?_
              cases Option.some.inj hf
              exact J10
            · have hf := it_f hf c16
              refine lv_aload_n hx hb dX11_beat_61 rfl (lv_at hl 0 rfl) ?_
              refine va_get (D := E.1) (ci := 9) (v := .ref (a0 1)) (C := RX11) (T := TX11) (N := 17) hx hb hts w2 hown hC.1 hP 0 rfl rfl 0 (by decide) w1 (fun _ h9 => h9) rfl dX11_beat_62 ?_
              refine lv_bipush (v := 70) hx hb dX11_beat_65 rfl ?_
              refine lv_iconst (v := 4) hx hb dX11_beat_67 rfl ?_
              refine lv_iload_n hx hb dX11_beat_68 rfl (lv_at hl 3 rfl) ?_
              refine lv_imul hx hb dX11_beat_69 ?_
              refine lv_iadd hx hb dX11_beat_70 ?_
              refine lv_iconst (v := 1) hx hb dX11_beat_71 rfl ?_
              refine lv_iadd hx hb dX11_beat_72 ?_
              obtain ⟨h17, hf⟩ := gdI_some hf
              refine va_lald hx hb hC.1 hP 1 1 rfl rfl h17 dX11_beat_73 ?_
              refine lv_lconst (v := 0) hx hb dX11_beat_74 rfl ?_
              refine W.lcmp hx hb dX11_beat_75 ?_
              refine lv_if_eq (tgt := 91) hx hb dX11_beat_76 rfl (fun c18 => ?_) (fun c18 => ?_)
              · have hf := it_t hf c18
                refine lv_iconst (v := 1) hx hb dX11_beat_91 rfl ?_
                refine lv_goto (tgt := 96) hx hb dX11_beat_92 rfl ?_
                cases Option.some.inj hf
                exact J10
              · have hf := it_f hf c18
                refine lv_aload_n hx hb dX11_beat_79 rfl (lv_at hl 0 rfl) ?_
                refine va_get (D := E.1) (ci := 9) (v := .ref (a0 1)) (C := RX11) (T := TX11) (N := 17) hx hb hts w2 hown hC.1 hP 0 rfl rfl 0 (by decide) w1 (fun _ h9 => h9) rfl dX11_beat_80 ?_
                refine lv_iload_n hx hb dX11_beat_83 rfl (lv_at hl 3 rfl) ?_
                refine lv_iload_n hx hb dX11_beat_84 rfl (lv_at hl 1 rfl) ?_
                obtain ⟨r19, e19, hf⟩ := bd_some hf
                refine cr_i (va_runS (As := [.ref (a0 1), .int q6.2.1, .int p1]) (rest := []) ⟨hx, hb, hml, hown, hts⟩ (c_X11_isGood l E (a0 1) q6.2.2.1 q6.2.1 p1 r19 e19) (va_cwS 3 hts gX11_beat_X11_isGood rfl rfl rfl hdS_X11_isGood ⟨Nat.le_of_ble_eq_true rfl, Nat.le_of_ble_eq_true rfl⟩) ⟨PR.blind, PR.pre hC hS (hP.sub [1] rfl)⟩ rfl rfl hl.1 rfl (lv_room (Nat.le_of_ble_eq_true rfl)) dX11_beat_85 ⟨Nat.le_of_ble_eq_true rfl, Nat.le_of_ble_eq_true rfl⟩) ?_
                refine lv_if_ne (tgt := 95) hx hb dX11_beat_88 rfl (fun c20 => ?_) (fun c20 => ?_)
                · have hf := it_f hf c20
                  refine lv_iconst (v := 0) hx hb dX11_beat_95 rfl ?_
                  cases Option.some.inj hf
                  exact J10
                · have hf := it_t hf c20
                  refine lv_iconst (v := 1) hx hb dX11_beat_91 rfl ?_
                  refine lv_goto (tgt := 96) hx hb dX11_beat_92 rfl ?_
                  cases Option.some.inj hf
                  exact J10
      exact L6 FU ((0 : Int32), (0 : Int32), r5) H locs hP hD hS ls (lv_sub hl [2, 3, 1, 0] rfl) hf
    · have hf := it_t hf c4
      refine lv_ldcw hx hb hown w3 dX11_beat_22 ?_
      cases Option.some.inj hf
      subst hQe
      exact ew_i (wf := (fun q : MD => wMD E a0 q)) hx hb hr hlocks hP hD hS dX11_beat_25
  · have hf := it_t hf c2
    refine lv_ldc hx hb hown w4 dX11_beat_8 ?_
    cases Option.some.inj hf
    subst hQe
    exact ew_i (wf := (fun q : MD => wMD E a0 q)) hx hb hr hlocks hP hD hS dX11_beat_10

/-! X11_mend -/
abbrev rmX11_mend : Room := { frames := 5, cells := 0, slots := 0, locals := 111 }
theorem hdS_X11_mend : yX11_mend.cls ≠ "java/lang/invoke/MethodHandle" ∧ yX11_mend.cls ≠ "java/lang/invoke/VarHandle" ∧ (parseMethodDescriptor yX11_mend.desc).map (fun d => d.parameters.length) = some 0 := by decide +kernel
theorem hdV_X11_mend : yX11_mend.cls = RX11 ∧ yX11_mend.cls ≠ "java/lang/invoke/MethodHandle" ∧ yX11_mend.cls ≠ "java/lang/invoke/VarHandle" ∧ (parseMethodDescriptor yX11_mend.desc).map (fun d => d.parameters.length) = some 0 := ⟨rfl, hdS_X11_mend⟩
set_option maxHeartbeats 4000000 in
set_option maxRecDepth 100000 in
theorem c_X11_mend (l : Launch) (E : G0) (sz : Nat) (a0 : Nat → Nat) (v0 : MD) (x : Int32 × MD) (hf : f_X11_mend v0 = some x) : Met l yX11_mend wsX11_mend rmX11_mend (va_Pc [.ref (a0 0)] (PW E (wMD E a0 v0) sz)) (va_Qi (fun r q => r = x.1 ∧ q = x.2) (fun q t => va_P E.1 vwCl ((fun q : MD => wMD E a0 q) q) t.heap ∧ va_D (va_A (wMD E a0 v0) sz) ((fun q : MD => wMD E a0 q) q)) (va_A (wMD E a0 v0) sz)) 0 0 (va_A (wMD E a0 v0) sz) := by
  refine Met.ofW (cc := cX11_mend) (maxL := 2) (ret := some .int) (by decide) rfl ?_
  intro p e s m args below meth c s₁ B hml hv
  obtain ⟨ha, hsz, hP, hD0, hC⟩ := hv
  have hx := B.exec
  have hb := B.bytes
  have hr := B.returns
  have hts := atoms_spec (ws := wsX11_mend) B.pre
  have hown : s.vm.findClass RX11 = some m.cls := findClass_of_methodNamed B.named
  have hlocks := B.notSynchronized
  subst hsz
  have hD := hD0.self (sz := s.heap.size)
  generalize hAe : va_A (wMD E a0 v0) s.heap.size = A at hD hC ⊢
  have hA : ∀ q : Nat, s.heap.size ≤ q → A q := fun q h => by rw [← hAe]; exact Or.inr h
  have hS : va_S A s.heap s.heap [] := va_S.rf
  have w1 : (Cond.constant RX11 261 (-1000002)).before args s = true := hts _ (List.mem_of_getElem? (i := 1) rfl)
  have w2 : (Cond.fieldLink RX11 7 "GreatChunksModel" "now" "[J").before args s = true := hts _ (List.mem_of_getElem? (i := 2) rfl)
  have w3 : ∀ w ∈ wsX110, w ∈ wsX11_mend := in_pl 78 rfl
  have w4 : (Cond.constant RX11 186 (-1000000)).before args s = true := hts _ (List.mem_of_getElem? (i := 3) rfl)
  generalize hQe : MQ below (va_Qi (fun r q => r = x.1 ∧ q = x.2) (fun q t => va_P E.1 vwCl ((fun q : MD => wMD E a0 q) q) t.heap ∧ va_D A ((fun q : MD => wMD E a0 q) q)) A) args s 0 0 A = Q
  refine st_W ha (Nat.le_of_ble_eq_true rfl) (fun ls hl => ?_)
  have hl : lv_has ls 2 [(0, .ref (a0 0))] := hl
  unfold f_X11_mend at hf
  refine lv_aload_n hx hb dX11_mend_0 rfl (lv_at hl 0 rfl) ?_
  obtain ⟨r1, e1, hf⟩ := bd_some hf
  refine cr_i (va_runV (As := []) (rest := []) ⟨hx, hb, hml, hown, hts⟩ (c_X11_isHouse l E a0 v0 r1 e1) (cwV 0 hts gX11_mend_X11_isHouse rfl rfl rfl hdV_X11_isHouse ⟨Nat.le_of_ble_eq_true rfl, Nat.le_of_ble_eq_true rfl⟩) ⟨PR.blind, va_recv hC.1 hP (ci := 9) (q0 := 0) rfl rfl, PR.pre hC hS hP⟩ rfl rfl hl.1 rfl (lv_room (Nat.le_of_ble_eq_true rfl)) dX11_mend_1 ⟨Nat.le_of_ble_eq_true rfl, Nat.le_of_ble_eq_true rfl⟩) ?_
  refine lv_if_ne (tgt := 11) hx hb dX11_mend_4 rfl (fun c2 => ?_) (fun c2 => ?_)
  · have hf := it_f hf c2
    refine lv_aload_n hx hb dX11_mend_11 rfl (lv_at hl 0 rfl) ?_
    refine va_get (D := E.1) (ci := 9) (v := .ref (a0 1)) (C := RX11) (T := TX11) (N := 17) hx hb hts w3 hown hC.1 hP 0 rfl rfl 0 (by decide) w2 (fun _ h9 => h9) rfl dX11_mend_12 ?_
    obtain ⟨r3, e3, hf⟩ := bd_some hf
    refine cr_i (va_runS (As := [.ref (a0 1)]) (rest := []) ⟨hx, hb, hml, hown, hts⟩ (c_X11_poor l E (a0 1) v0.1 r3 e3) (va_cwS 1 hts gX11_mend_X11_poor rfl rfl rfl hdS_X11_poor ⟨Nat.le_of_ble_eq_true rfl, Nat.le_of_ble_eq_true rfl⟩) ⟨PR.blind, PR.pre hC hS (hP.sub [1] rfl)⟩ rfl rfl hl.1 rfl (lv_room (Nat.le_of_ble_eq_true rfl)) dX11_mend_15 ⟨Nat.le_of_ble_eq_true rfl, Nat.le_of_ble_eq_true rfl⟩) ?_
    refine lv_istore_n (lv' := [(1, .int r3), (0, .ref (a0 0))]) hx hb dX11_mend_18 rfl hl (by decide) rfl (fun ls hl => ?_)
    refine lv_iload_n hx hb dX11_mend_19 rfl (lv_at hl 0 rfl) ?_
    refine lv_ldc hx hb hown w4 dX11_mend_20 ?_
    refine lv_icmp_eq (tgt := 37) hx hb dX11_mend_22 rfl (fun c4 => ?_) (fun c4 => ?_)
    · have hf := it_t hf c4
      refine lv_iload_n hx hb dX11_mend_37 rfl (lv_at hl 0 rfl) ?_
      cases Option.some.inj hf
      subst hQe
      exact ew_i (wf := (fun q : MD => wMD E a0 q)) hx hb hr hlocks hP hD hS dX11_mend_38
    · have hf := it_f hf c4
      refine lv_aload_n hx hb dX11_mend_25 rfl (lv_at hl 1 rfl) ?_
      obtain ⟨r5, e5, hf⟩ := bd_some hf
      refine cq_v hP hD hS [0, 1, 2, 3, 4, 5, 6, 7] [] [0, 1, 2, 3, 4, 5, 6, 7] (va_free (wc := (wMD E a0 v0)) hD hS hA [0, 1, 2, 3, 4, 5, 6, 7] rfl) (va_runV (As := []) (rest := []) ⟨hx, hb, hml, hown, hts⟩ (c_X11_notes l E s.heap.size a0 v0 r5 e5) (cwV 0 hts gX11_mend_X11_notes rfl rfl rfl hdV_X11_notes ⟨Nat.le_of_ble_eq_true rfl, Nat.le_of_ble_eq_true rfl⟩) ⟨PW.blind, va_recv hC.1 hP (ci := 9) (q0 := 0) rfl rfl, PW.pre hC hS hP hD (va_free hD hS hA [0, 1, 2, 3, 4, 5, 6, 7] rfl)⟩ rfl rfl hl.1 rfl (lv_room (Nat.le_of_ble_eq_true rfl)) dX11_mend_26 ⟨Nat.le_of_ble_eq_true rfl, Nat.le_of_ble_eq_true rfl⟩) rfl rfl rfl rfl (wMD E a0 r5) rfl rfl (fun H locs hP hD hS => ?_)
      refine lv_aload_n hx hb dX11_mend_29 rfl (lv_at hl 1 rfl) ?_
      refine va_get (D := E.1) (ci := 9) (v := .ref (a0 1)) (C := RX11) (T := TX11) (N := 17) hx hb hts w3 hown hC.1 hP 0 rfl rfl 0 (by decide) w2 (fun _ h9 => h9) rfl dX11_mend_30 ?_
      refine lv_iload_n hx hb dX11_mend_33 rfl (lv_at hl 0 rfl) ?_
      obtain ⟨r6, e6, hf⟩ := bd_some hf
      refine cq_v hP hD hS [1] [0, 2, 3, 4, 5, 6, 7] [0, 7, 1, 2, 3, 4, 5, 6] (va_free (wc := (wLA E (a0 1) 340 r5.1)) hD hS hA [1] rfl) (va_runS (As := [.ref (a0 1), .int r3]) (rest := []) ⟨hx, hb, hml, hown, hts⟩ (c_X11_gives l E H.size (a0 1) r5.1 r3 r6 e6) (va_cwS 2 hts gX11_mend_X11_gives rfl rfl rfl hdS_X11_gives ⟨Nat.le_of_ble_eq_true rfl, Nat.le_of_ble_eq_true rfl⟩) ⟨PW.blind, PW.pre hC hS (hP.sub [1] rfl) (hD.sub [1] rfl rfl) (va_free hD hS hA [1] rfl)⟩ rfl rfl hl.1 rfl (lv_room (Nat.le_of_ble_eq_true rfl)) dX11_mend_34 ⟨Nat.le_of_ble_eq_true rfl, Nat.le_of_ble_eq_true rfl⟩) rfl rfl rfl rfl (wMD E a0 (r6, r5.2.1, r5.2.2.1, r5.2.2.2.1, r5.2.2.2.2.1, r5.2.2.2.2.2.1, r5.2.2.2.2.2.2.1, r5.2.2.2.2.2.2.2.1, r5.2.2.2.2.2.2.2.2.1, r5.2.2.2.2.2.2.2.2.2.1, r5.2.2.2.2.2.2.2.2.2.2.1, r5.2.2.2.2.2.2.2.2.2.2.2.1, r5.2.2.2.2.2.2.2.2.2.2.2.2.1, r5.2.2.2.2.2.2.2.2.2.2.2.2.2.1, r5.2.2.2.2.2.2.2.2.2.2.2.2.2.2.1, r5.2.2.2.2.2.2.2.2.2.2.2.2.2.2.2.1, r5.2.2.2.2.2.2.2.2.2.2.2.2.2.2.2.2)) rfl rfl (fun H locs hP hD hS => ?_)
      refine lv_iload_n hx hb dX11_mend_37 rfl (lv_at hl 0 rfl) ?_
      cases Option.some.inj hf
      subst hQe
      exact ew_i (wf := (fun q : MD => wMD E a0 q)) hx hb hr hlocks hP hD hS dX11_mend_38
  · have hf := it_t hf c2
    refine lv_ldcw hx hb hown w1 dX11_mend_7 ?_
    cases Option.some.inj hf
    subst hQe
    exact ew_i (wf := (fun q : MD => wMD E a0 q)) hx hb hr hlocks hP hD hS dX11_mend_10

/-! X11_lyingAs -/
abbrev rmX11_lyingAs : Room := { frames := 3, cells := 0, slots := 0, locals := 66 }
theorem hdS_X11_lyingAs : yX11_lyingAs.cls ≠ "java/lang/invoke/MethodHandle" ∧ yX11_lyingAs.cls ≠ "java/lang/invoke/VarHandle" ∧ (parseMethodDescriptor yX11_lyingAs.desc).map (fun d => d.parameters.length) = some 2 := by decide +kernel
theorem hdV_X11_lyingAs : yX11_lyingAs.cls = RX11 ∧ yX11_lyingAs.cls ≠ "java/lang/invoke/MethodHandle" ∧ yX11_lyingAs.cls ≠ "java/lang/invoke/VarHandle" ∧ (parseMethodDescriptor yX11_lyingAs.desc).map (fun d => d.parameters.length) = some 2 := ⟨rfl, hdS_X11_lyingAs⟩
set_option maxHeartbeats 4000000 in
set_option maxRecDepth 100000 in
theorem c_X11_lyingAs (l : Launch) (E : G0) (a0 : Nat → Nat) (v0 : MD) (p1 : Int32) (p2 : Int32) (x : Int32) (hf : f_X11_lyingAs v0 p1 p2 = some x) : Met l yX11_lyingAs wsX11_lyingAs rmX11_lyingAs (va_Pc [.ref (a0 0), .int p1, .int p2] (PR E (wMD E a0 v0))) (vp_Si (fun r => r = x)) 0 0 (fun _ => False) := by
  refine Met.ofW (cc := cX11_lyingAs) (maxL := 6) (ret := some .int) (by decide) rfl ?_
  intro p e s m args below meth c s₁ B hml hv
  obtain ⟨ha, hP, hC⟩ := hv
  have hx := B.exec
  have hb := B.bytes
  have hr := B.returns
  have hts := atoms_spec (ws := wsX11_lyingAs) B.pre
  have hown : s.vm.findClass RX11 = some m.cls := findClass_of_methodNamed B.named
  have hlocks := B.notSynchronized
  have hS : va_S (fun _ => False) s.heap s.heap [] := va_S.rf
  have w1 : (Cond.fieldLink RX11 7 "GreatChunksModel" "now" "[J").before args s = true := hts _ (List.mem_of_getElem? (i := 1) rfl)
  have w2 : ∀ w ∈ wsX110, w ∈ wsX11_lyingAs := in_pl 16 rfl
  generalize hQe : MQ below (vp_Si (fun r => r = x)) args s 0 0 (fun _ => False) = Q
  refine st_W ha (Nat.le_of_ble_eq_true rfl) (fun ls hl => ?_)
  have hl : lv_has ls 6 [(0, .ref (a0 0)), (1, .int p1), (2, .int p2)] := hl
  unfold f_X11_lyingAs at hf
  refine lv_iconst (v := 0) hx hb dX11_lyingAs_0 rfl ?_
  refine lv_istore_n (lv' := [(3, .int (0 : Int32)), (0, .ref (a0 0)), (1, .int p1), (2, .int p2)]) hx hb dX11_lyingAs_1 rfl hl (by decide) rfl (fun ls hl => ?_)
  refine lv_iconst (v := 0) hx hb dX11_lyingAs_2 rfl ?_
  refine lv_istore (lv' := [(4, .int (0 : Int32)), (3, .int (0 : Int32)), (0, .ref (a0 0)), (1, .int p1), (2, .int p2)]) hx hb dX11_lyingAs_3 hl (by decide) rfl (fun ls hl => ?_)
  obtain ⟨K1, hK1, hf⟩ := jn_some hf
  have J1 : ∀ (q1 : Int32 × Int32) (ls : Array Slot) (hl : lv_has ls 6 [(3, .int q1.1)]) (hf : K1 q1 = some x), W p l e (headSpec wsX11_lyingAs rmX11_lyingAs).room s m args below meth c s.heap [] 0 0 Q (F0 m 96 ls []) := by
    intro q1 ls hl hf
    have hf := (hK1 q1).trans hf
    refine lv_iload_n hx hb dX11_lyingAs_96 rfl (lv_at hl 0 rfl) ?_
    cases Option.some.inj hf
    subst hQe
    exact en_i hx hb hr hlocks dX11_lyingAs_97
  have L1 : ∀ (n : Nat) (q1 : Int32 × Int32) (ls : Array Slot) (hl : lv_has ls 6 [(0, .ref (a0 0)), (1, .int p1), (2, .int p2), (3, .int q1.1), (4, .int q1.2)]) (hf : lpF (bX11_lyingAs_1 v0 p2 p1 K1) n q1 = some x), W p l e (headSpec wsX11_lyingAs rmX11_lyingAs).room s m args below meth c s.heap [] 0 0 Q (F0 m 5 ls []) := by
    intro n
    induction n with
    | zero => intro q1 ls hl hf; exact (lpF_zero hf).elim
    | succ n ih1 =>
      intro q1 ls hl hf
      have hf := lpF_succ hf
      unfold bX11_lyingAs_1 at hf
      refine lv_iload hx hb dX11_lyingAs_5 (lv_at hl 4 rfl) ?_
      refine lv_i2l hx hb dX11_lyingAs_7 rfl ?_
      refine lv_aload_n hx hb dX11_lyingAs_8 rfl (lv_at hl 0 rfl) ?_
      refine va_get (D := E.1) (ci := 9) (v := .ref (a0 1)) (C := RX11) (T := TX11) (N := 17) hx hb hts w2 hown hC.1 hP 0 rfl rfl 0 (by decide) w1 (fun _ h9 => h9) rfl dX11_lyingAs_9 ?_
      refine lv_bipush (v := 6) hx hb dX11_lyingAs_12 rfl ?_
      obtain ⟨h2, hf⟩ := gdI_some hf
      refine va_lald hx hb hC.1 hP 1 1 rfl rfl h2 dX11_lyingAs_14 ?_
      refine W.lcmp hx hb dX11_lyingAs_15 ?_
      refine lv_if_ge (tgt := 96) hx hb dX11_lyingAs_16 rfl (fun c3 => ?_) (fun c3 => ?_)
      · have hf := it_t hf c3
        exact J1 (q1.1, q1.2) ls (lv_sub hl [3] rfl) hf
      · have hf := it_f hf c3
        refine lv_iload_n hx hb dX11_lyingAs_19 rfl (lv_at hl 2 rfl) ?_
        obtain ⟨q4, e4, hf⟩ := bd_some hf
        have J4 : W p l e (headSpec wsX11_lyingAs rmX11_lyingAs).room s m args below meth c s.heap [] 0 0 Q (F0 m 75 ls [.int (bI q4)]) := by
          refine lv_istore (lv' := [(5, .int (bI q4)), (0, .ref (a0 0)), (1, .int p1), (2, .int p2), (3, .int q1.1), (4, .int q1.2)]) hx hb dX11_lyingAs_75 hl (by decide) rfl (fun ls hl => ?_)
          refine lv_iload_n hx hb dX11_lyingAs_77 rfl (lv_at hl 4 rfl) ?_
          refine lv_iload hx hb dX11_lyingAs_78 (lv_at hl 0 rfl) ?_
          refine lv_if_eq (tgt := 87) hx hb dX11_lyingAs_80 rfl (fun c5 => ?_) (fun c5 => ?_)
          · have hf := it_t hf c5
            refine lv_iconst (v := 0) hx hb dX11_lyingAs_87 rfl ?_
            refine lv_iadd hx hb dX11_lyingAs_88 ?_
            refine lv_istore_n (lv' := [(3, .int (q1.1 + (0 : Int32))), (5, .int (bI q4)), (0, .ref (a0 0)), (1, .int p1), (2, .int p2), (4, .int q1.2)]) hx hb dX11_lyingAs_89 rfl hl (by decide) rfl (fun ls hl => ?_)
            refine lv_iinc (v := (q1.2 + 1)) (lv' := [(4, .int (q1.2 + 1)), (3, .int (q1.1 + (0 : Int32))), (5, .int (bI q4)), (0, .ref (a0 0)), (1, .int p1), (2, .int p2)]) hx hb dX11_lyingAs_90 hl (k := 5) rfl rfl (by decide) rfl (fun ls hl => ?_)
            refine lv_goto (tgt := 5) hx hb dX11_lyingAs_93 rfl ?_
            exact ih1 ((q1.1 + (0 : Int32)), (q1.2 + 1)) ls (lv_sub hl [3, 4, 5, 1, 0] rfl) hf
          · have hf := it_f hf c5
            refine lv_iconst (v := 1) hx hb dX11_lyingAs_83 rfl ?_
            refine lv_goto (tgt := 88) hx hb dX11_lyingAs_84 rfl ?_
            refine lv_iadd hx hb dX11_lyingAs_88 ?_
            refine lv_istore_n (lv' := [(3, .int (q1.1 + (1 : Int32))), (5, .int (bI q4)), (0, .ref (a0 0)), (1, .int p1), (2, .int p2), (4, .int q1.2)]) hx hb dX11_lyingAs_89 rfl hl (by decide) rfl (fun ls hl => ?_)
            refine lv_iinc (v := (q1.2 + 1)) (lv' := [(4, .int (q1.2 + 1)), (3, .int (q1.1 + (1 : Int32))), (5, .int (bI q4)), (0, .ref (a0 0)), (1, .int p1), (2, .int p2)]) hx hb dX11_lyingAs_90 hl (k := 5) rfl rfl (by decide) rfl (fun ls hl => ?_)
            refine lv_goto (tgt := 5) hx hb dX11_lyingAs_93 rfl ?_
            exact ih1 ((q1.1 + (1 : Int32)), (q1.2 + 1)) ls (lv_sub hl [3, 4, 5, 1, 0] rfl) hf
        have hf := e4
        refine lv_if_eq (tgt := 65) hx hb dX11_lyingAs_20 rfl (fun c6 => ?_) (fun c6 => ?_)
        · have hf := it_t hf c6
          refine lv_aload_n hx hb dX11_lyingAs_65 rfl (lv_at hl 0 rfl) ?_
          refine va_get (D := E.1) (ci := 9) (v := .ref (a0 1)) (C := RX11) (T := TX11) (N := 17) hx hb hts w2 hown hC.1 hP 0 rfl rfl 0 (by decide) w1 (fun _ h9 => h9) rfl dX11_lyingAs_66 ?_
          refine lv_iload hx hb dX11_lyingAs_69 (lv_at hl 4 rfl) ?_
          refine lv_iload_n hx hb dX11_lyingAs_71 rfl (lv_at hl 1 rfl) ?_
          obtain ⟨r7, e7, hf⟩ := bd_some hf
          refine cr_i (va_runS (As := [.ref (a0 1), .int q1.2, .int p1]) (rest := []) ⟨hx, hb, hml, hown, hts⟩ (c_X11_isStale l E (a0 1) v0.1 q1.2 p1 r7 e7) (va_cwS 3 hts gX11_lyingAs_X11_isStale rfl rfl rfl hdS_X11_isStale ⟨Nat.le_of_ble_eq_true rfl, Nat.le_of_ble_eq_true rfl⟩) ⟨PR.blind, PR.pre hC hS (hP.sub [1] rfl)⟩ rfl rfl hl.1 rfl (lv_room (Nat.le_of_ble_eq_true rfl)) dX11_lyingAs_72 ⟨Nat.le_of_ble_eq_true rfl, Nat.le_of_ble_eq_true rfl⟩) ?_
          cases Option.some.inj hf
          exact J4
        · have hf := it_f hf c6
          refine lv_aload_n hx hb dX11_lyingAs_23 rfl (lv_at hl 0 rfl) ?_
          refine va_get (D := E.1) (ci := 9) (v := .ref (a0 1)) (C := RX11) (T := TX11) (N := 17) hx hb hts w2 hown hC.1 hP 0 rfl rfl 0 (by decide) w1 (fun _ h9 => h9) rfl dX11_lyingAs_24 ?_
          refine lv_bipush (v := 70) hx hb dX11_lyingAs_27 rfl ?_
          refine lv_iconst (v := 4) hx hb dX11_lyingAs_29 rfl ?_
          refine lv_iload hx hb dX11_lyingAs_30 (lv_at hl 4 rfl) ?_
          refine lv_imul hx hb dX11_lyingAs_32 ?_
          refine lv_iadd hx hb dX11_lyingAs_33 ?_
          refine lv_iconst (v := 1) hx hb dX11_lyingAs_34 rfl ?_
          refine lv_iadd hx hb dX11_lyingAs_35 ?_
          obtain ⟨h8, hf⟩ := gdI_some hf
          refine va_lald hx hb hC.1 hP 1 1 rfl rfl h8 dX11_lyingAs_36 ?_
          refine lv_lconst (v := 0) hx hb dX11_lyingAs_37 rfl ?_
          refine W.lcmp hx hb dX11_lyingAs_38 ?_
          refine lv_if_ne (tgt := 61) hx hb dX11_lyingAs_39 rfl (fun c9 => ?_) (fun c9 => ?_)
          · have hf := it_f hf c9
            refine lv_iconst (v := 0) hx hb dX11_lyingAs_61 rfl ?_
            refine lv_goto (tgt := 75) hx hb dX11_lyingAs_62 rfl ?_
            cases Option.some.inj hf
            exact J4
          · have hf := it_t hf c9
            refine lv_aload_n hx hb dX11_lyingAs_42 rfl (lv_at hl 0 rfl) ?_
            refine va_get (D := E.1) (ci := 9) (v := .ref (a0 1)) (C := RX11) (T := TX11) (N := 17) hx hb hts w2 hown hC.1 hP 0 rfl rfl 0 (by decide) w1 (fun _ h9 => h9) rfl dX11_lyingAs_43 ?_
            refine lv_iload hx hb dX11_lyingAs_46 (lv_at hl 4 rfl) ?_
            refine lv_iload_n hx hb dX11_lyingAs_48 rfl (lv_at hl 1 rfl) ?_
            obtain ⟨r10, e10, hf⟩ := bd_some hf
            refine cr_l (va_runS (As := [.ref (a0 1), .int q1.2, .int p1]) (rest := []) ⟨hx, hb, hml, hown, hts⟩ (c_X11_copy l E (a0 1) v0.1 q1.2 p1 r10 e10) (va_cwS 3 hts gX11_lyingAs_X11_copy rfl rfl rfl hdS_X11_copy ⟨Nat.le_of_ble_eq_true rfl, Nat.le_of_ble_eq_true rfl⟩) ⟨PR.blind, PR.pre hC hS (hP.sub [1] rfl)⟩ rfl rfl hl.1 rfl (lv_room (Nat.le_of_ble_eq_true rfl)) dX11_lyingAs_49 ⟨Nat.le_of_ble_eq_true rfl, Nat.le_of_ble_eq_true rfl⟩) ?_
            refine lv_lconst (v := 0) hx hb dX11_lyingAs_52 rfl ?_
            refine W.lcmp hx hb dX11_lyingAs_53 ?_
            refine lv_if_eq (tgt := 61) hx hb dX11_lyingAs_54 rfl (fun c11 => ?_) (fun c11 => ?_)
            · have hf := it_t hf c11
              refine lv_iconst (v := 0) hx hb dX11_lyingAs_61 rfl ?_
              refine lv_goto (tgt := 75) hx hb dX11_lyingAs_62 rfl ?_
              cases Option.some.inj hf
              exact J4
            · have hf := it_f hf c11
              refine lv_iconst (v := 1) hx hb dX11_lyingAs_57 rfl ?_
              refine lv_goto (tgt := 75) hx hb dX11_lyingAs_58 rfl ?_
              cases Option.some.inj hf
              exact J4
  exact L1 FU ((0 : Int32), (0 : Int32)) ls (lv_sub hl [2, 3, 4, 1, 0] rfl) hf

/-! X11_server -/
abbrev rmX11_server : Room := { frames := 4, cells := 0, slots := 0, locals := 91 }
theorem hdS_X11_server : yX11_server.cls ≠ "java/lang/invoke/MethodHandle" ∧ yX11_server.cls ≠ "java/lang/invoke/VarHandle" ∧ (parseMethodDescriptor yX11_server.desc).map (fun d => d.parameters.length) = some 2 := by decide +kernel
theorem hdV_X11_server : yX11_server.cls = RX11 ∧ yX11_server.cls ≠ "java/lang/invoke/MethodHandle" ∧ yX11_server.cls ≠ "java/lang/invoke/VarHandle" ∧ (parseMethodDescriptor yX11_server.desc).map (fun d => d.parameters.length) = some 2 := ⟨rfl, hdS_X11_server⟩
set_option maxHeartbeats 4000000 in
set_option maxRecDepth 100000 in
theorem c_X11_server (l : Launch) (E : G0) (a0 : Nat → Nat) (v0 : MD) (p1 : Int32) (p2 : Int32) (x : Int32) (hf : f_X11_server v0 p1 p2 = some x) : Met l yX11_server wsX11_server rmX11_server (va_Pc [.ref (a0 0), .int p1, .int p2] (PR E (wMD E a0 v0))) (vp_Si (fun r => r = x)) 0 0 (fun _ => False) := by
  refine Met.ofW (cc := cX11_server) (maxL := 3) (ret := some .int) (by decide) rfl ?_
  intro p e s m args below meth c s₁ B hml hv
  obtain ⟨ha, hP, hC⟩ := hv
  have hx := B.exec
  have hb := B.bytes
  have hr := B.returns
  have hts := atoms_spec (ws := wsX11_server) B.pre
  have hown : s.vm.findClass RX11 = some m.cls := findClass_of_methodNamed B.named
  have hlocks := B.notSynchronized
  have hS : va_S (fun _ => False) s.heap s.heap [] := va_S.rf
  have w1 : (Cond.constant RX11 235 (-1000001)).before args s = true := hts _ (List.mem_of_getElem? (i := 1) rfl)
  have w2 : (Cond.fieldLink RX11 7 "GreatChunksModel" "now" "[J").before args s = true := hts _ (List.mem_of_getElem? (i := 2) rfl)
  have w3 : ∀ w ∈ wsX110, w ∈ wsX11_server := in_pl 38 rfl
  have w4 : (Cond.constantFloat RX11 325 (1148846080)).before args s = true := hts _ (List.mem_of_getElem? (i := 3) rfl)
  generalize hQe : MQ below (vp_Si (fun r => r = x)) args s 0 0 (fun _ => False) = Q
  refine st_W ha (Nat.le_of_ble_eq_true rfl) (fun ls hl => ?_)
  have hl : lv_has ls 3 [(0, .ref (a0 0)), (1, .int p1), (2, .int p2)] := hl
  unfold f_X11_server at hf
  refine lv_aload_n hx hb dX11_server_0 rfl (lv_at hl 0 rfl) ?_
  refine lv_iload_n hx hb dX11_server_1 rfl (lv_at hl 1 rfl) ?_
  obtain ⟨r1, e1, hf⟩ := bd_some hf
  refine cr_i (va_runV (As := [.int p1]) (rest := []) ⟨hx, hb, hml, hown, hts⟩ (c_X11_isServer l E a0 v0 p1 r1 e1) (cwV 1 hts gX11_server_X11_isServer rfl rfl rfl hdV_X11_isServer ⟨Nat.le_of_ble_eq_true rfl, Nat.le_of_ble_eq_true rfl⟩) ⟨PR.blind, va_recv hC.1 hP (ci := 9) (q0 := 0) rfl rfl, PR.pre hC hS hP⟩ rfl rfl hl.1 rfl (lv_room (Nat.le_of_ble_eq_true rfl)) dX11_server_2 ⟨Nat.le_of_ble_eq_true rfl, Nat.le_of_ble_eq_true rfl⟩) ?_
  refine lv_if_ne (tgt := 11) hx hb dX11_server_5 rfl (fun c2 => ?_) (fun c2 => ?_)
  · have hf := it_f hf c2
    refine lv_iload_n hx hb dX11_server_11 rfl (lv_at hl 2 rfl) ?_
    by_cases s3 : p2 = 0
    · have hf := it_t hf s3
      refine lv_tableIn (tgt := 56) (off := 44) hx hb dX11_server_12 (by rw [s3]; decide) (by rw [s3]; decide) (by rw [s3]; rfl) rfl ?_
      refine lv_aload_n hx hb dX11_server_56 rfl (lv_at hl 0 rfl) ?_
      refine va_get (D := E.1) (ci := 9) (v := .ref (a0 1)) (C := RX11) (T := TX11) (N := 17) hx hb hts w3 hown hC.1 hP 0 rfl rfl 0 (by decide) w2 (fun _ h9 => h9) rfl dX11_server_57 ?_
      refine lv_iload_n hx hb dX11_server_60 rfl (lv_at hl 1 rfl) ?_
      obtain ⟨r4, e4, hf⟩ := bd_some hf
      refine cr_i (va_runS (As := [.ref (a0 1), .int p1]) (rest := []) ⟨hx, hb, hml, hown, hts⟩ (c_X11_isUp l E (a0 1) v0.1 p1 r4 e4) (va_cwS 2 hts gX11_server_X11_isUp rfl rfl rfl hdS_X11_isUp ⟨Nat.le_of_ble_eq_true rfl, Nat.le_of_ble_eq_true rfl⟩) ⟨PR.blind, PR.pre hC hS (hP.sub [1] rfl)⟩ rfl rfl hl.1 rfl (lv_room (Nat.le_of_ble_eq_true rfl)) dX11_server_61 ⟨Nat.le_of_ble_eq_true rfl, Nat.le_of_ble_eq_true rfl⟩) ?_
      refine lv_if_eq (tgt := 71) hx hb dX11_server_64 rfl (fun c5 => ?_) (fun c5 => ?_)
      · have hf := it_t hf c5
        refine lv_iconst (v := 0) hx hb dX11_server_71 rfl ?_
        cases Option.some.inj hf
        subst hQe
        exact en_i hx hb hr hlocks dX11_server_72
      · have hf := it_f hf c5
        refine lv_iconst (v := 1) hx hb dX11_server_67 rfl ?_
        refine lv_goto (tgt := 72) hx hb dX11_server_68 rfl ?_
        cases Option.some.inj hf
        subst hQe
        exact en_i hx hb hr hlocks dX11_server_72
    have hf := it_f hf s3
    by_cases s6 : p2 = 1
    · have hf := it_t hf s6
      refine lv_tableIn (tgt := 73) (off := 61) hx hb dX11_server_12 (by rw [s6]; decide) (by rw [s6]; decide) (by rw [s6]; rfl) rfl ?_
      refine lv_aload_n hx hb dX11_server_73 rfl (lv_at hl 0 rfl) ?_
      refine va_get (D := E.1) (ci := 9) (v := .ref (a0 1)) (C := RX11) (T := TX11) (N := 17) hx hb hts w3 hown hC.1 hP 0 rfl rfl 0 (by decide) w2 (fun _ h9 => h9) rfl dX11_server_74 ?_
      refine lv_bipush (v := 7) hx hb dX11_server_77 rfl ?_
      refine lv_iconst (v := 3) hx hb dX11_server_79 rfl ?_
      refine lv_iload_n hx hb dX11_server_80 rfl (lv_at hl 1 rfl) ?_
      refine lv_imul hx hb dX11_server_81 ?_
      refine lv_iadd hx hb dX11_server_82 ?_
      refine lv_iconst (v := 1) hx hb dX11_server_83 rfl ?_
      refine lv_iadd hx hb dX11_server_84 ?_
      obtain ⟨h7, hf⟩ := gdI_some hf
      refine va_lald hx hb hC.1 hP 1 1 rfl rfl h7 dX11_server_85 ?_
      refine lv_l2i hx hb dX11_server_86 rfl ?_
      cases Option.some.inj hf
      subst hQe
      exact en_i hx hb hr hlocks dX11_server_87
    have hf := it_f hf s6
    by_cases s8 : p2 = 2
    · have hf := it_t hf s8
      refine lv_tableIn (tgt := 88) (off := 76) hx hb dX11_server_12 (by rw [s8]; decide) (by rw [s8]; decide) (by rw [s8]; rfl) rfl ?_
      refine lv_aload_n hx hb dX11_server_88 rfl (lv_at hl 0 rfl) ?_
      refine va_get (D := E.1) (ci := 9) (v := .ref (a0 1)) (C := RX11) (T := TX11) (N := 17) hx hb hts w3 hown hC.1 hP 0 rfl rfl 0 (by decide) w2 (fun _ h9 => h9) rfl dX11_server_89 ?_
      refine lv_iload_n hx hb dX11_server_92 rfl (lv_at hl 1 rfl) ?_
      obtain ⟨r9, e9, hf⟩ := bd_some hf
      refine cr_i (va_runS (As := [.ref (a0 1), .int p1]) (rest := []) ⟨hx, hb, hml, hown, hts⟩ (c_X11_lying l E (a0 1) v0.1 p1 r9 e9) (va_cwS 2 hts gX11_server_X11_lying rfl rfl rfl hdS_X11_lying ⟨Nat.le_of_ble_eq_true rfl, Nat.le_of_ble_eq_true rfl⟩) ⟨PR.blind, PR.pre hC hS (hP.sub [1] rfl)⟩ rfl rfl hl.1 rfl (lv_room (Nat.le_of_ble_eq_true rfl)) dX11_server_93 ⟨Nat.le_of_ble_eq_true rfl, Nat.le_of_ble_eq_true rfl⟩) ?_
      cases Option.some.inj hf
      subst hQe
      exact en_i hx hb hr hlocks dX11_server_96
    have hf := it_f hf s8
    by_cases s10 : p2 = 3
    · have hf := it_t hf s10
      refine lv_tableIn (tgt := 97) (off := 85) hx hb dX11_server_12 (by rw [s10]; decide) (by rw [s10]; decide) (by rw [s10]; rfl) rfl ?_
      refine lv_aload_n hx hb dX11_server_97 rfl (lv_at hl 0 rfl) ?_
      refine lv_iload_n hx hb dX11_server_98 rfl (lv_at hl 1 rfl) ?_
      refine lv_iconst (v := 0) hx hb dX11_server_99 rfl ?_
      obtain ⟨r11, e11, hf⟩ := bd_some hf
      refine cr_i (va_runV (As := [.int p1, .int (0 : Int32)]) (rest := []) ⟨hx, hb, hml, hown, hts⟩ (c_X11_lyingAs l E a0 v0 p1 (0 : Int32) r11 e11) (cwV 2 hts gX11_server_X11_lyingAs rfl rfl rfl hdV_X11_lyingAs ⟨Nat.le_of_ble_eq_true rfl, Nat.le_of_ble_eq_true rfl⟩) ⟨PR.blind, va_recv hC.1 hP (ci := 9) (q0 := 0) rfl rfl, PR.pre hC hS hP⟩ rfl rfl hl.1 rfl (lv_room (Nat.le_of_ble_eq_true rfl)) dX11_server_100 ⟨Nat.le_of_ble_eq_true rfl, Nat.le_of_ble_eq_true rfl⟩) ?_
      cases Option.some.inj hf
      subst hQe
      exact en_i hx hb hr hlocks dX11_server_103
    have hf := it_f hf s10
    by_cases s12 : p2 = 4
    · have hf := it_t hf s12
      refine lv_tableIn (tgt := 104) (off := 92) hx hb dX11_server_12 (by rw [s12]; decide) (by rw [s12]; decide) (by rw [s12]; rfl) rfl ?_
      refine lv_aload_n hx hb dX11_server_104 rfl (lv_at hl 0 rfl) ?_
      refine lv_iload_n hx hb dX11_server_105 rfl (lv_at hl 1 rfl) ?_
      refine lv_iconst (v := 1) hx hb dX11_server_106 rfl ?_
      obtain ⟨r13, e13, hf⟩ := bd_some hf
      refine cr_i (va_runV (As := [.int p1, .int (1 : Int32)]) (rest := []) ⟨hx, hb, hml, hown, hts⟩ (c_X11_lyingAs l E a0 v0 p1 (1 : Int32) r13 e13) (cwV 2 hts gX11_server_X11_lyingAs rfl rfl rfl hdV_X11_lyingAs ⟨Nat.le_of_ble_eq_true rfl, Nat.le_of_ble_eq_true rfl⟩) ⟨PR.blind, va_recv hC.1 hP (ci := 9) (q0 := 0) rfl rfl, PR.pre hC hS hP⟩ rfl rfl hl.1 rfl (lv_room (Nat.le_of_ble_eq_true rfl)) dX11_server_107 ⟨Nat.le_of_ble_eq_true rfl, Nat.le_of_ble_eq_true rfl⟩) ?_
      cases Option.some.inj hf
      subst hQe
      exact en_i hx hb hr hlocks dX11_server_110
    have hf := it_f hf s12
    by_cases s14 : p2 = 5
    · have hf := it_t hf s14
      refine lv_tableIn (tgt := 111) (off := 99) hx hb dX11_server_12 (by rw [s14]; decide) (by rw [s14]; decide) (by rw [s14]; rfl) rfl ?_
      refine lv_aload_n hx hb dX11_server_111 rfl (lv_at hl 0 rfl) ?_
      refine va_get (D := E.1) (ci := 9) (v := .ref (a0 1)) (C := RX11) (T := TX11) (N := 17) hx hb hts w3 hown hC.1 hP 0 rfl rfl 0 (by decide) w2 (fun _ h9 => h9) rfl dX11_server_112 ?_
      refine lv_bipush (v := 7) hx hb dX11_server_115 rfl ?_
      refine lv_iconst (v := 3) hx hb dX11_server_117 rfl ?_
      refine lv_iload_n hx hb dX11_server_118 rfl (lv_at hl 1 rfl) ?_
      refine lv_imul hx hb dX11_server_119 ?_
      refine lv_iadd hx hb dX11_server_120 ?_
      refine lv_iconst (v := 2) hx hb dX11_server_121 rfl ?_
      refine lv_iadd hx hb dX11_server_122 ?_
      obtain ⟨h15, hf⟩ := gdI_some hf
      refine va_lald hx hb hC.1 hP 1 1 rfl rfl h15 dX11_server_123 ?_
      refine lv_l2i hx hb dX11_server_124 rfl ?_
      cases Option.some.inj hf
      subst hQe
      exact en_i hx hb hr hlocks dX11_server_125
    have hf := it_f hf s14
    by_cases s16 : p2 = 6
    · have hf := it_t hf s16
      refine lv_tableIn (tgt := 126) (off := 114) hx hb dX11_server_12 (by rw [s16]; decide) (by rw [s16]; decide) (by rw [s16]; rfl) rfl ?_
      refine lv_aload_n hx hb dX11_server_126 rfl (lv_at hl 0 rfl) ?_
      refine va_get (D := E.1) (ci := 9) (v := .ref (a0 1)) (C := RX11) (T := TX11) (N := 17) hx hb hts w3 hown hC.1 hP 0 rfl rfl 0 (by decide) w2 (fun _ h9 => h9) rfl dX11_server_127 ?_
      refine lv_iload_n hx hb dX11_server_130 rfl (lv_at hl 1 rfl) ?_
      obtain ⟨r17, e17, hf⟩ := bd_some hf
      refine cr_f (va_runS (As := [.ref (a0 1), .int p1]) (rest := []) ⟨hx, hb, hml, hown, hts⟩ (c_X11_load l E (a0 1) v0.1 p1 r17 e17) (va_cwS 2 hts gX11_server_X11_load rfl rfl rfl hdS_X11_load ⟨Nat.le_of_ble_eq_true rfl, Nat.le_of_ble_eq_true rfl⟩) ⟨PR.blind, PR.pre hC hS (hP.sub [1] rfl)⟩ rfl rfl hl.1 rfl (lv_room (Nat.le_of_ble_eq_true rfl)) dX11_server_131 ⟨Nat.le_of_ble_eq_true rfl, Nat.le_of_ble_eq_true rfl⟩) ?_
      refine lv_ldcfw hx hb hown w4 dX11_server_134 ?_
      obtain ⟨h18, hf⟩ := gdF_some hf
      refine lv_fmul hx hb dX11_server_137 h18 ?_
      refine lv_f2i hx hb dX11_server_138 ?_
      cases Option.some.inj hf
      subst hQe
      exact en_i hx hb hr hlocks dX11_server_139
    have hf := it_f hf s16
    refine lv_tableOut (tgt := 140) hx hb dX11_server_12 (sw_out (x := p2) 6 (by decide) (fun k hk => match k, hk with | 0, _ => s3 | 1, _ => s6 | 2, _ => s8 | 3, _ => s10 | 4, _ => s12 | 5, _ => s14 | 6, _ => s16 | k + 7, hk => absurd hk (by omega))) rfl ?_
    refine lv_ldc hx hb hown w1 dX11_server_140 ?_
    cases Option.some.inj hf
    subst hQe
    exact en_i hx hb hr hlocks dX11_server_142
  · have hf := it_t hf c2
    refine lv_ldc hx hb hown w1 dX11_server_8 ?_
    cases Option.some.inj hf
    subst hQe
    exact en_i hx hb hr hlocks dX11_server_10

/-! X11_isChunk -/
abbrev rmX11_isChunk : Room := { frames := 1, cells := 0, slots := 0, locals := 25 }
theorem hdS_X11_isChunk : yX11_isChunk.cls ≠ "java/lang/invoke/MethodHandle" ∧ yX11_isChunk.cls ≠ "java/lang/invoke/VarHandle" ∧ (parseMethodDescriptor yX11_isChunk.desc).map (fun d => d.parameters.length) = some 1 := by decide +kernel
theorem hdV_X11_isChunk : yX11_isChunk.cls = RX11 ∧ yX11_isChunk.cls ≠ "java/lang/invoke/MethodHandle" ∧ yX11_isChunk.cls ≠ "java/lang/invoke/VarHandle" ∧ (parseMethodDescriptor yX11_isChunk.desc).map (fun d => d.parameters.length) = some 1 := ⟨rfl, hdS_X11_isChunk⟩
set_option maxHeartbeats 4000000 in
set_option maxRecDepth 100000 in
theorem c_X11_isChunk (l : Launch) (E : G0) (a0 : Nat → Nat) (v0 : MD) (p1 : Int32) (x : Bool) (hf : f_X11_isChunk v0 p1 = some x) : Met l yX11_isChunk wsX11_isChunk rmX11_isChunk (va_Pc [.ref (a0 0), .int p1] (PR E (wMD E a0 v0))) (vp_Si (fun r => r = bI x)) 0 0 (fun _ => False) := by
  refine Met.ofW (cc := cX11_isChunk) (maxL := 2) (ret := some .boolean) (by decide) rfl ?_
  intro p e s m args below meth c s₁ B hml hv
  obtain ⟨ha, hP, hC⟩ := hv
  have hx := B.exec
  have hb := B.bytes
  have hr := B.returns
  have hts := atoms_spec (ws := wsX11_isChunk) B.pre
  have hown : s.vm.findClass RX11 = some m.cls := findClass_of_methodNamed B.named
  have hlocks := B.notSynchronized
  have hS : va_S (fun _ => False) s.heap s.heap [] := va_S.rf
  have w1 : (Cond.fieldLink RX11 7 "GreatChunksModel" "now" "[J").before args s = true := hts _ (List.mem_of_getElem? (i := 1) rfl)
  have w2 : ∀ w ∈ wsX110, w ∈ wsX11_isChunk := in_pl 6 rfl
  generalize hQe : MQ below (vp_Si (fun r => r = bI x)) args s 0 0 (fun _ => False) = Q
  refine st_W ha (Nat.le_of_ble_eq_true rfl) (fun ls hl => ?_)
  have hl : lv_has ls 2 [(0, .ref (a0 0)), (1, .int p1)] := hl
  unfold f_X11_isChunk at hf
  refine lv_iload_n hx hb dX11_isChunk_0 rfl (lv_at hl 1 rfl) ?_
  refine lv_i2l hx hb dX11_isChunk_1 rfl ?_
  refine lv_lconst (v := 0) hx hb dX11_isChunk_2 rfl ?_
  refine lv_aload_n hx hb dX11_isChunk_3 rfl (lv_at hl 0 rfl) ?_
  refine va_get (D := E.1) (ci := 9) (v := .ref (a0 1)) (C := RX11) (T := TX11) (N := 17) hx hb hts w2 hown hC.1 hP 0 rfl rfl 0 (by decide) w1 (fun _ h9 => h9) rfl dX11_isChunk_4 ?_
  refine lv_bipush (v := 6) hx hb dX11_isChunk_7 rfl ?_
  obtain ⟨h1, hf⟩ := gdI_some hf
  refine va_lald hx hb hC.1 hP 1 1 rfl rfl h1 dX11_isChunk_9 ?_
  refine lv_lconst (v := 1) hx hb dX11_isChunk_10 rfl ?_
  refine lv_lsub hx hb dX11_isChunk_11 ?_
  refine cr_i (va_runS (As := [.long p1.toInt64, .long (0 : Int64), .long ((v0.1 (6 : Int32).toNatClampNeg) - (1 : Int64))]) (rest := []) ⟨hx, hb, hml, hown, hts⟩ (c_X11_in l E p1.toInt64 (0 : Int64) ((v0.1 (6 : Int32).toNatClampNeg) - (1 : Int64)) _ rfl) (va_cwS 3 hts gX11_isChunk_X11_in rfl rfl rfl hdS_X11_in ⟨Nat.le_of_ble_eq_true rfl, Nat.le_of_ble_eq_true rfl⟩) ⟨PR.blind, PR.pre hC hS (hP.sub [] rfl)⟩ rfl rfl hl.1 rfl (lv_room (Nat.le_of_ble_eq_true rfl)) dX11_isChunk_12 ⟨Nat.le_of_ble_eq_true rfl, Nat.le_of_ble_eq_true rfl⟩) ?_
  cases Option.some.inj hf
  subst hQe
  exact en_z hx hb hr hlocks rfl dX11_isChunk_15

/-! X11_thoseWith -/
abbrev rmX11_thoseWith : Room := { frames := 3, cells := 0, slots := 0, locals := 66 }
theorem hdS_X11_thoseWith : yX11_thoseWith.cls ≠ "java/lang/invoke/MethodHandle" ∧ yX11_thoseWith.cls ≠ "java/lang/invoke/VarHandle" ∧ (parseMethodDescriptor yX11_thoseWith.desc).map (fun d => d.parameters.length) = some 2 := by decide +kernel
theorem hdV_X11_thoseWith : yX11_thoseWith.cls = RX11 ∧ yX11_thoseWith.cls ≠ "java/lang/invoke/MethodHandle" ∧ yX11_thoseWith.cls ≠ "java/lang/invoke/VarHandle" ∧ (parseMethodDescriptor yX11_thoseWith.desc).map (fun d => d.parameters.length) = some 2 := ⟨rfl, hdS_X11_thoseWith⟩
set_option maxHeartbeats 4000000 in
set_option maxRecDepth 100000 in
theorem c_X11_thoseWith (l : Launch) (E : G0) (a0 : Nat → Nat) (v0 : MD) (p1 : Int32) (p2 : Int32) (x : Int32) (hf : f_X11_thoseWith v0 p1 p2 = some x) : Met l yX11_thoseWith wsX11_thoseWith rmX11_thoseWith (va_Pc [.ref (a0 0), .int p1, .int p2] (PR E (wMD E a0 v0))) (vp_Si (fun r => r = x)) 0 0 (fun _ => False) := by
  refine Met.ofW (cc := cX11_thoseWith) (maxL := 5) (ret := some .int) (by decide) rfl ?_
  intro p e s m args below meth c s₁ B hml hv
  obtain ⟨ha, hP, hC⟩ := hv
  have hx := B.exec
  have hb := B.bytes
  have hr := B.returns
  have hts := atoms_spec (ws := wsX11_thoseWith) B.pre
  have hown : s.vm.findClass RX11 = some m.cls := findClass_of_methodNamed B.named
  have hlocks := B.notSynchronized
  have hS : va_S (fun _ => False) s.heap s.heap [] := va_S.rf
  have w1 : (Cond.fieldLink RX11 7 "GreatChunksModel" "now" "[J").before args s = true := hts _ (List.mem_of_getElem? (i := 1) rfl)
  have w2 : ∀ w ∈ wsX110, w ∈ wsX11_thoseWith := in_pl 16 rfl
  generalize hQe : MQ below (vp_Si (fun r => r = x)) args s 0 0 (fun _ => False) = Q
  refine st_W ha (Nat.le_of_ble_eq_true rfl) (fun ls hl => ?_)
  have hl : lv_has ls 5 [(0, .ref (a0 0)), (1, .int p1), (2, .int p2)] := hl
  unfold f_X11_thoseWith at hf
  refine lv_iconst (v := 0) hx hb dX11_thoseWith_0 rfl ?_
  refine lv_istore_n (lv' := [(3, .int (0 : Int32)), (0, .ref (a0 0)), (1, .int p1), (2, .int p2)]) hx hb dX11_thoseWith_1 rfl hl (by decide) rfl (fun ls hl => ?_)
  refine lv_iconst (v := 0) hx hb dX11_thoseWith_2 rfl ?_
  refine lv_istore (lv' := [(4, .int (0 : Int32)), (3, .int (0 : Int32)), (0, .ref (a0 0)), (1, .int p1), (2, .int p2)]) hx hb dX11_thoseWith_3 hl (by decide) rfl (fun ls hl => ?_)
  obtain ⟨K1, hK1, hf⟩ := jn_some hf
  have J1 : ∀ (q1 : Int32 × Int32) (ls : Array Slot) (hl : lv_has ls 5 [(3, .int q1.1)]) (hf : K1 q1 = some x), W p l e (headSpec wsX11_thoseWith rmX11_thoseWith).room s m args below meth c s.heap [] 0 0 Q (F0 m 68 ls []) := by
    intro q1 ls hl hf
    have hf := (hK1 q1).trans hf
    refine lv_iload_n hx hb dX11_thoseWith_68 rfl (lv_at hl 0 rfl) ?_
    cases Option.some.inj hf
    subst hQe
    exact en_i hx hb hr hlocks dX11_thoseWith_69
  have L1 : ∀ (n : Nat) (q1 : Int32 × Int32) (ls : Array Slot) (hl : lv_has ls 5 [(0, .ref (a0 0)), (1, .int p1), (2, .int p2), (3, .int q1.1), (4, .int q1.2)]) (hf : lpF (bX11_thoseWith_1 v0 p2 p1 K1) n q1 = some x), W p l e (headSpec wsX11_thoseWith rmX11_thoseWith).room s m args below meth c s.heap [] 0 0 Q (F0 m 5 ls []) := by
    intro n
    induction n with
    | zero => intro q1 ls hl hf; exact (lpF_zero hf).elim
    | succ n ih1 =>
      intro q1 ls hl hf
      have hf := lpF_succ hf
      unfold bX11_thoseWith_1 at hf
      refine lv_iload hx hb dX11_thoseWith_5 (lv_at hl 4 rfl) ?_
      refine lv_i2l hx hb dX11_thoseWith_7 rfl ?_
      refine lv_aload_n hx hb dX11_thoseWith_8 rfl (lv_at hl 0 rfl) ?_
      refine va_get (D := E.1) (ci := 9) (v := .ref (a0 1)) (C := RX11) (T := TX11) (N := 17) hx hb hts w2 hown hC.1 hP 0 rfl rfl 0 (by decide) w1 (fun _ h9 => h9) rfl dX11_thoseWith_9 ?_
      refine lv_iconst (v := 0) hx hb dX11_thoseWith_12 rfl ?_
      obtain ⟨h2, hf⟩ := gdI_some hf
      refine va_lald hx hb hC.1 hP 1 1 rfl rfl h2 dX11_thoseWith_13 ?_
      refine W.lcmp hx hb dX11_thoseWith_14 ?_
      refine lv_if_ge (tgt := 68) hx hb dX11_thoseWith_15 rfl (fun c3 => ?_) (fun c3 => ?_)
      · have hf := it_t hf c3
        exact J1 (q1.1, q1.2) ls (lv_sub hl [3] rfl) hf
      · have hf := it_f hf c3
        refine lv_iload_n hx hb dX11_thoseWith_18 rfl (lv_at hl 3 rfl) ?_
        refine lv_iload_n hx hb dX11_thoseWith_19 rfl (lv_at hl 2 rfl) ?_
        refine lv_if_eq (tgt := 39) hx hb dX11_thoseWith_20 rfl (fun c4 => ?_) (fun c4 => ?_)
        · have hf := it_t hf c4
          refine lv_aload_n hx hb dX11_thoseWith_39 rfl (lv_at hl 0 rfl) ?_
          refine va_get (D := E.1) (ci := 9) (v := .ref (a0 1)) (C := RX11) (T := TX11) (N := 17) hx hb hts w2 hown hC.1 hP 0 rfl rfl 0 (by decide) w1 (fun _ h9 => h9) rfl dX11_thoseWith_40 ?_
          refine lv_iload_n hx hb dX11_thoseWith_43 rfl (lv_at hl 1 rfl) ?_
          refine lv_iload hx hb dX11_thoseWith_44 (lv_at hl 4 rfl) ?_
          obtain ⟨r5, e5, hf⟩ := bd_some hf
          refine cr_i (va_runS (As := [.ref (a0 1), .int p1, .int q1.2]) (rest := [.int q1.1]) ⟨hx, hb, hml, hown, hts⟩ (c_X11_isStale l E (a0 1) v0.1 p1 q1.2 r5 e5) (va_cwS 3 hts gX11_thoseWith_X11_isStale rfl rfl rfl hdS_X11_isStale ⟨Nat.le_of_ble_eq_true rfl, Nat.le_of_ble_eq_true rfl⟩) ⟨PR.blind, PR.pre hC hS (hP.sub [1] rfl)⟩ rfl rfl hl.1 rfl (lv_room (Nat.le_of_ble_eq_true rfl)) dX11_thoseWith_46 ⟨Nat.le_of_ble_eq_true rfl, Nat.le_of_ble_eq_true rfl⟩) ?_
          refine lv_if_eq (tgt := 59) hx hb dX11_thoseWith_49 rfl (fun c6 => ?_) (fun c6 => ?_)
          · have hf := it_t hf c6
            refine lv_iconst (v := 0) hx hb dX11_thoseWith_59 rfl ?_
            refine lv_ior hx hb dX11_thoseWith_60 ?_
            refine lv_istore_n (lv' := [(3, .int (q1.1 ||| (0 : Int32))), (0, .ref (a0 0)), (1, .int p1), (2, .int p2), (4, .int q1.2)]) hx hb dX11_thoseWith_61 rfl hl (by decide) rfl (fun ls hl => ?_)
            refine lv_iinc (v := (q1.2 + 1)) (lv' := [(4, .int (q1.2 + 1)), (3, .int (q1.1 ||| (0 : Int32))), (0, .ref (a0 0)), (1, .int p1), (2, .int p2)]) hx hb dX11_thoseWith_62 hl (k := 4) rfl rfl (by decide) rfl (fun ls hl => ?_)
            refine lv_goto (tgt := 5) hx hb dX11_thoseWith_65 rfl ?_
            exact ih1 ((q1.1 ||| (0 : Int32)), (q1.2 + 1)) ls (lv_sub hl [2, 3, 4, 1, 0] rfl) hf
          · have hf := it_f hf c6
            refine lv_iconst (v := 1) hx hb dX11_thoseWith_52 rfl ?_
            refine lv_iload hx hb dX11_thoseWith_53 (lv_at hl 4 rfl) ?_
            refine lv_ishl hx hb dX11_thoseWith_55 ?_
            refine lv_goto (tgt := 60) hx hb dX11_thoseWith_56 rfl ?_
            refine lv_ior hx hb dX11_thoseWith_60 ?_
            refine lv_istore_n (lv' := [(3, .int (q1.1 ||| ((1 : Int32) <<< (q1.2 &&& 31)))), (0, .ref (a0 0)), (1, .int p1), (2, .int p2), (4, .int q1.2)]) hx hb dX11_thoseWith_61 rfl hl (by decide) rfl (fun ls hl => ?_)
            refine lv_iinc (v := (q1.2 + 1)) (lv' := [(4, .int (q1.2 + 1)), (3, .int (q1.1 ||| ((1 : Int32) <<< (q1.2 &&& 31)))), (0, .ref (a0 0)), (1, .int p1), (2, .int p2)]) hx hb dX11_thoseWith_62 hl (k := 4) rfl rfl (by decide) rfl (fun ls hl => ?_)
            refine lv_goto (tgt := 5) hx hb dX11_thoseWith_65 rfl ?_
            exact ih1 ((q1.1 ||| ((1 : Int32) <<< (q1.2 &&& 31))), (q1.2 + 1)) ls (lv_sub hl [2, 3, 4, 1, 0] rfl) hf
        · have hf := it_f hf c4
          refine lv_aload_n hx hb dX11_thoseWith_23 rfl (lv_at hl 0 rfl) ?_
          refine va_get (D := E.1) (ci := 9) (v := .ref (a0 1)) (C := RX11) (T := TX11) (N := 17) hx hb hts w2 hown hC.1 hP 0 rfl rfl 0 (by decide) w1 (fun _ h9 => h9) rfl dX11_thoseWith_24 ?_
          refine lv_iload_n hx hb dX11_thoseWith_27 rfl (lv_at hl 1 rfl) ?_
          refine lv_iload hx hb dX11_thoseWith_28 (lv_at hl 4 rfl) ?_
          obtain ⟨r7, e7, hf⟩ := bd_some hf
          refine cr_i (va_runS (As := [.ref (a0 1), .int p1, .int q1.2]) (rest := [.int q1.1]) ⟨hx, hb, hml, hown, hts⟩ (c_X11_isGood l E (a0 1) v0.1 p1 q1.2 r7 e7) (va_cwS 3 hts gX11_thoseWith_X11_isGood rfl rfl rfl hdS_X11_isGood ⟨Nat.le_of_ble_eq_true rfl, Nat.le_of_ble_eq_true rfl⟩) ⟨PR.blind, PR.pre hC hS (hP.sub [1] rfl)⟩ rfl rfl hl.1 rfl (lv_room (Nat.le_of_ble_eq_true rfl)) dX11_thoseWith_30 ⟨Nat.le_of_ble_eq_true rfl, Nat.le_of_ble_eq_true rfl⟩) ?_
          refine lv_if_eq (tgt := 59) hx hb dX11_thoseWith_33 rfl (fun c8 => ?_) (fun c8 => ?_)
          · have hf := it_t hf c8
            refine lv_iconst (v := 0) hx hb dX11_thoseWith_59 rfl ?_
            refine lv_ior hx hb dX11_thoseWith_60 ?_
            refine lv_istore_n (lv' := [(3, .int (q1.1 ||| (0 : Int32))), (0, .ref (a0 0)), (1, .int p1), (2, .int p2), (4, .int q1.2)]) hx hb dX11_thoseWith_61 rfl hl (by decide) rfl (fun ls hl => ?_)
            refine lv_iinc (v := (q1.2 + 1)) (lv' := [(4, .int (q1.2 + 1)), (3, .int (q1.1 ||| (0 : Int32))), (0, .ref (a0 0)), (1, .int p1), (2, .int p2)]) hx hb dX11_thoseWith_62 hl (k := 4) rfl rfl (by decide) rfl (fun ls hl => ?_)
            refine lv_goto (tgt := 5) hx hb dX11_thoseWith_65 rfl ?_
            exact ih1 ((q1.1 ||| (0 : Int32)), (q1.2 + 1)) ls (lv_sub hl [2, 3, 4, 1, 0] rfl) hf
          · have hf := it_f hf c8
            refine lv_goto (tgt := 52) hx hb dX11_thoseWith_36 rfl ?_
            refine lv_iconst (v := 1) hx hb dX11_thoseWith_52 rfl ?_
            refine lv_iload hx hb dX11_thoseWith_53 (lv_at hl 4 rfl) ?_
            refine lv_ishl hx hb dX11_thoseWith_55 ?_
            refine lv_goto (tgt := 60) hx hb dX11_thoseWith_56 rfl ?_
            refine lv_ior hx hb dX11_thoseWith_60 ?_
            refine lv_istore_n (lv' := [(3, .int (q1.1 ||| ((1 : Int32) <<< (q1.2 &&& 31)))), (0, .ref (a0 0)), (1, .int p1), (2, .int p2), (4, .int q1.2)]) hx hb dX11_thoseWith_61 rfl hl (by decide) rfl (fun ls hl => ?_)
            refine lv_iinc (v := (q1.2 + 1)) (lv' := [(4, .int (q1.2 + 1)), (3, .int (q1.1 ||| ((1 : Int32) <<< (q1.2 &&& 31)))), (0, .ref (a0 0)), (1, .int p1), (2, .int p2)]) hx hb dX11_thoseWith_62 hl (k := 4) rfl rfl (by decide) rfl (fun ls hl => ?_)
            refine lv_goto (tgt := 5) hx hb dX11_thoseWith_65 rfl ?_
            exact ih1 ((q1.1 ||| ((1 : Int32) <<< (q1.2 &&& 31))), (q1.2 + 1)) ls (lv_sub hl [2, 3, 4, 1, 0] rfl) hf
  exact L1 FU ((0 : Int32), (0 : Int32)) ls (lv_sub hl [2, 3, 4, 1, 0] rfl) hf
