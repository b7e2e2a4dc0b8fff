/-! X5_open -/
abbrev rmX5_open : Room := { frames := 2, cells := 0, slots := 0, locals := 44 }
theorem hdS_X5_open : yX5_open.cls ≠ "java/lang/invoke/MethodHandle" ∧ yX5_open.cls ≠ "java/lang/invoke/VarHandle" ∧ (parseMethodDescriptor yX5_open.desc).map (fun d => d.parameters.length) = some 1 := by decide +kernel
theorem hdV_X5_open : yX5_open.cls = RX5 ∧ yX5_open.cls ≠ "java/lang/invoke/MethodHandle" ∧ yX5_open.cls ≠ "java/lang/invoke/VarHandle" ∧ (parseMethodDescriptor yX5_open.desc).map (fun d => d.parameters.length) = some 1 := ⟨rfl, hdS_X5_open⟩
set_option maxHeartbeats 4000000 in
set_option maxRecDepth 100000 in
theorem c_X5_open (l : Launch) (E : G0) (sz : Nat) (a0 : Nat → Nat) (v0 : HS) (p1 : Int32) (x : HS) (hf : f_X5_open v0 p1 = some x) : Met l yX5_open wsX5_open rmX5_open (va_Pc [.ref (a0 0), .int p1] (PW E (wHS E a0 v0) sz)) (va_Qv (fun q => q = x) (fun q t => va_P E.1 vwCl ((fun q : HS => wHS E a0 q) q) t.heap ∧ va_D (va_A (wHS E a0 v0) sz) ((fun q : HS => wHS E a0 q) q)) (va_A (wHS E a0 v0) sz)) 0 0 (va_A (wHS E a0 v0) sz) := by
  refine Met.ofW (cc := cX5_open) (maxL := 2) (ret := none) (by decide) rfl ?_
  intro p e s m args below meth c s₁ B hml hv
  obtain ⟨ha, hsz, hP, hD0, hC⟩ := hv
  have hx := B.exec
  have hb := B.bytes
  have hr := B.returns
  have hts := atoms_spec (ws := wsX5_open) B.pre
  have hown : s.vm.findClass RX5 = some m.cls := findClass_of_methodNamed B.named
  have hlocks := B.notSynchronized
  subst hsz
  have hD := hD0.self (sz := s.heap.size)
  generalize hAe : va_A (wHS E a0 v0) s.heap.size = A at hD hC ⊢
  have hA : ∀ q : Nat, s.heap.size ≤ q → A q := fun q h => by rw [← hAe]; exact Or.inr h
  have hS : va_S A s.heap s.heap [] := va_S.rf
  have w1 : (Cond.fieldLink RX5 24 "GreatChunks$House" "now" "I").before args s = true := hts _ (List.mem_of_getElem? (i := 1) rfl)
  have w2 : ∀ w ∈ wsX50, w ∈ wsX5_open := in_pl 38 rfl
  have w3 : (Cond.fieldLink RX5 30 "GreatChunks$House" "servers" "LGreatChunks$Servers;").before args s = true := hts _ (List.mem_of_getElem? (i := 2) rfl)
  have w4 : (Cond.fieldLink RX5 37 "GreatChunks$House" "chunks" "LGreatChunks$Chunks;").before args s = true := hts _ (List.mem_of_getElem? (i := 3) rfl)
  have w5 : (Cond.fieldLink RX5 59 "GreatChunks$Chunks" "made" "I").before args s = true := hts _ (List.mem_of_getElem? (i := 4) rfl)
  have w6 : ∀ w ∈ wsX10, w ∈ wsX5_open := in_pl 47 rfl
  have w7 : (Cond.fieldLink RX5 44 "GreatChunks$House" "copies" "LGreatChunks$Copies;").before args s = true := hts _ (List.mem_of_getElem? (i := 5) rfl)
  have w8 : (Cond.fieldLink RX5 51 "GreatChunks$House" "files" "LGreatChunks$Files;").before args s = true := hts _ (List.mem_of_getElem? (i := 6) rfl)
  generalize hQe : MQ below (va_Qv (fun q => q = x) (fun q t => va_P E.1 vwCl ((fun q : HS => wHS E a0 q) q) t.heap ∧ va_D A ((fun q : HS => wHS E a0 q) q)) A) args s 0 0 A = Q
  refine st_W ha (Nat.le_of_ble_eq_true rfl) (fun ls hl => ?_)
  have hl : lv_has ls 2 [(0, .ref (a0 0)), (1, .int p1)] := hl
  unfold f_X5_open at hf
  refine lv_aload_n hx hb dX5_open_0 rfl (lv_at hl 0 rfl) ?_
  refine lv_iconst (v := 0) hx hb dX5_open_1 rfl ?_
  refine va_put (D := E.1) (ci := 4) (v := .int (0 : Int32)) (ty := .int) (C := RX5) (T := TX5) (N := 9) hx hb hts w2 tyX5 tyX5_ok nmX5 hown hC.1 hP hD hS 0 rfl rfl 4 (by decide) w1 (fun _ h9 => h9) rfl (by decide +kernel) rfl rfl (Nat.le_of_ble_eq_true rfl) dX5_open_2 (fun H locs hP hD hS => ?_)
  have hP : va_P E.1 vwCl (wHS E a0 (v0.1, v0.2.1, v0.2.2.1, v0.2.2.2.1, (0 : Int32), v0.2.2.2.2.2.1, v0.2.2.2.2.2.2.1, v0.2.2.2.2.2.2.2.1, v0.2.2.2.2.2.2.2.2)) H := hP
  have hD : va_D A (wHS E a0 (v0.1, v0.2.1, v0.2.2.1, v0.2.2.2.1, (0 : Int32), v0.2.2.2.2.2.1, v0.2.2.2.2.2.2.1, v0.2.2.2.2.2.2.2.1, v0.2.2.2.2.2.2.2.2)) := hD
  refine lv_aload_n hx hb dX5_open_5 rfl (lv_at hl 0 rfl) ?_
  refine va_get (D := E.1) (ci := 4) (v := .ref (a0 1)) (C := RX5) (T := TX5) (N := 9) hx hb hts w2 hown hC.1 hP 0 rfl rfl 5 (by decide) w3 (fun _ h9 => h9) rfl dX5_open_6 ?_
  refine lv_iload_n hx hb dX5_open_9 rfl (lv_at hl 1 rfl) ?_
  obtain ⟨r1, e1, hf⟩ := bd_some hf
  refine cq_v hP hD hS [1, 2, 3] [0, 4, 5, 6, 7, 8, 9, 10, 11, 12, 13, 14, 15, 16, 17, 18] [0, 16, 17, 18, 1, 2, 3, 4, 5, 6, 7, 8, 9, 10, 11, 12, 13, 14, 15] (va_free (wc := (wSV E (fun k => a0 (k + 1)) v0.2.2.2.2.2.1)) hD hS hA [1, 2, 3] rfl) (va_runV (As := [.int p1]) (rest := []) ⟨hx, hb, hml, hown, hts⟩ (c_X8_open l E H.size (fun k => a0 (k + 1)) v0.2.2.2.2.2.1 p1 r1 e1) (cwV 1 hts gX5_open_X8_open rfl rfl rfl hdV_X8_open ⟨Nat.le_of_ble_eq_true rfl, Nat.le_of_ble_eq_true rfl⟩) ⟨PW.blind, va_recv hC.1 hP (ci := 6) (q0 := 1) rfl rfl, PW.pre hC hS (hP.sub [1, 2, 3] rfl) (hD.sub [1, 2, 3] rfl rfl) (va_free hD hS hA [1, 2, 3] rfl)⟩ rfl rfl hl.1 rfl (lv_room (Nat.le_of_ble_eq_true rfl)) dX5_open_10 ⟨Nat.le_of_ble_eq_true rfl, Nat.le_of_ble_eq_true rfl⟩) rfl rfl rfl rfl (wHS E a0 (v0.1, v0.2.1, v0.2.2.1, v0.2.2.2.1, (0 : Int32), r1, v0.2.2.2.2.2.2.1, v0.2.2.2.2.2.2.2.1, v0.2.2.2.2.2.2.2.2)) rfl rfl (fun H locs hP hD hS => ?_)
  refine lv_aload_n hx hb dX5_open_13 rfl (lv_at hl 0 rfl) ?_
  refine va_get (D := E.1) (ci := 4) (v := .ref (a0 4)) (C := RX5) (T := TX5) (N := 9) hx hb hts w2 hown hC.1 hP 0 rfl rfl 6 (by decide) w4 (fun _ h9 => h9) rfl dX5_open_14 ?_
  refine lv_iconst (v := 0) hx hb dX5_open_17 rfl ?_
  refine va_put (D := E.1) (ci := 1) (v := .int (0 : Int32)) (ty := .int) (C := RX1) (T := TX1) (N := 5) hx hb hts w6 tyX1 tyX1_ok nmX1 hown hC.1 hP hD hS 4 rfl rfl 0 (by decide) w5 (fun _ h9 => h9) rfl (by decide +kernel) rfl rfl (Nat.le_of_ble_eq_true rfl) dX5_open_18 (fun H locs hP hD hS => ?_)
  have hP : va_P E.1 vwCl (wHS E a0 (v0.1, v0.2.1, v0.2.2.1, v0.2.2.2.1, (0 : Int32), r1, ((0 : Int32), v0.2.2.2.2.2.2.1.2.1, v0.2.2.2.2.2.2.1.2.2.1, v0.2.2.2.2.2.2.1.2.2.2.1, v0.2.2.2.2.2.2.1.2.2.2.2), v0.2.2.2.2.2.2.2.1, v0.2.2.2.2.2.2.2.2)) H := hP
  have hD : va_D A (wHS E a0 (v0.1, v0.2.1, v0.2.2.1, v0.2.2.2.1, (0 : Int32), r1, ((0 : Int32), v0.2.2.2.2.2.2.1.2.1, v0.2.2.2.2.2.2.1.2.2.1, v0.2.2.2.2.2.2.1.2.2.2.1, v0.2.2.2.2.2.2.1.2.2.2.2), v0.2.2.2.2.2.2.2.1, v0.2.2.2.2.2.2.2.2)) := hD
  refine lv_aload_n hx hb dX5_open_21 rfl (lv_at hl 0 rfl) ?_
  refine va_get (D := E.1) (ci := 4) (v := .ref (a0 9)) (C := RX5) (T := TX5) (N := 9) hx hb hts w2 hown hC.1 hP 0 rfl rfl 7 (by decide) w7 (fun _ h9 => h9) rfl dX5_open_22 ?_
  obtain ⟨r2, e2, hf⟩ := bd_some hf
  refine cq_v hP hD hS [9, 10, 11, 12] [0, 1, 2, 3, 4, 5, 6, 7, 8, 13, 14, 15, 16, 17, 18] [0, 1, 2, 3, 4, 5, 6, 7, 8, 15, 16, 17, 18, 9, 10, 11, 12, 13, 14] (va_free (wc := (wCP E (fun k => a0 (k + 9)) v0.2.2.2.2.2.2.2.1)) hD hS hA [9, 10, 11, 12] rfl) (va_runV (As := []) (rest := []) ⟨hx, hb, hml, hown, hts⟩ (c_X2_clear l E H.size (fun k => a0 (k + 9)) v0.2.2.2.2.2.2.2.1 r2 e2) (cwV 0 hts gX5_open_X2_clear rfl rfl rfl hdV_X2_clear ⟨Nat.le_of_ble_eq_true rfl, Nat.le_of_ble_eq_true rfl⟩) ⟨PW.blind, va_recv hC.1 hP (ci := 2) (q0 := 9) rfl rfl, PW.pre hC hS (hP.sub [9, 10, 11, 12] rfl) (hD.sub [9, 10, 11, 12] rfl rfl) (va_free hD hS hA [9, 10, 11, 12] rfl)⟩ rfl rfl hl.1 rfl (lv_room (Nat.le_of_ble_eq_true rfl)) dX5_open_25 ⟨Nat.le_of_ble_eq_true rfl, Nat.le_of_ble_eq_true rfl⟩) rfl rfl rfl rfl (wHS E a0 (v0.1, v0.2.1, v0.2.2.1, v0.2.2.2.1, (0 : Int32), r1, ((0 : Int32), v0.2.2.2.2.2.2.1.2.1, v0.2.2.2.2.2.2.1.2.2.1, v0.2.2.2.2.2.2.1.2.2.2.1, v0.2.2.2.2.2.2.1.2.2.2.2), r2, v0.2.2.2.2.2.2.2.2)) rfl rfl (fun H locs hP hD hS => ?_)
  refine lv_aload_n hx hb dX5_open_28 rfl (lv_at hl 0 rfl) ?_
  refine va_get (D := E.1) (ci := 4) (v := .ref (a0 13)) (C := RX5) (T := TX5) (N := 9) hx hb hts w2 hown hC.1 hP 0 rfl rfl 8 (by decide) w8 (fun _ h9 => h9) rfl dX5_open_29 ?_
  obtain ⟨r3, e3, hf⟩ := bd_some hf
  refine cq_v hP hD hS [13, 14, 15, 16, 17, 18] [0, 1, 2, 3, 4, 5, 6, 7, 8, 9, 10, 11, 12] [0, 1, 2, 3, 4, 5, 6, 7, 8, 9, 10, 11, 12, 13, 14, 15, 16, 17, 18] (va_free (wc := (wFL E (fun k => a0 (k + 13)) v0.2.2.2.2.2.2.2.2)) hD hS hA [13, 14, 15, 16, 17, 18] rfl) (va_runV (As := []) (rest := []) ⟨hx, hb, hml, hown, hts⟩ (c_X3_clear l E H.size (fun k => a0 (k + 13)) v0.2.2.2.2.2.2.2.2 r3 e3) (cwV 0 hts gX5_open_X3_clear rfl rfl rfl hdV_X3_clear ⟨Nat.le_of_ble_eq_true rfl, Nat.le_of_ble_eq_true rfl⟩) ⟨PW.blind, va_recv hC.1 hP (ci := 3) (q0 := 13) rfl rfl, PW.pre hC hS (hP.sub [13, 14, 15, 16, 17, 18] rfl) (hD.sub [13, 14, 15, 16, 17, 18] rfl rfl) (va_free hD hS hA [13, 14, 15, 16, 17, 18] rfl)⟩ rfl rfl hl.1 rfl (lv_room (Nat.le_of_ble_eq_true rfl)) dX5_open_32 ⟨Nat.le_of_ble_eq_true rfl, Nat.le_of_ble_eq_true rfl⟩) rfl rfl rfl rfl (wHS E a0 (v0.1, v0.2.1, v0.2.2.1, v0.2.2.2.1, (0 : Int32), r1, ((0 : Int32), v0.2.2.2.2.2.2.1.2.1, v0.2.2.2.2.2.2.1.2.2.1, v0.2.2.2.2.2.2.1.2.2.2.1, v0.2.2.2.2.2.2.1.2.2.2.2), r2, r3)) rfl rfl (fun H locs hP hD hS => ?_)
  cases Option.some.inj hf
  subst hQe
  exact ew_v (wf := (fun q : HS => wHS E a0 q)) hx hb hr hlocks hP hD hS dX5_open_35

/-! X5_become -/
abbrev rmX5_become : Room := { frames := 2, cells := 0, slots := 0, locals := 81 }
theorem hdS_X5_become : yX5_become.cls ≠ "java/lang/invoke/MethodHandle" ∧ yX5_become.cls ≠ "java/lang/invoke/VarHandle" ∧ (parseMethodDescriptor yX5_become.desc).map (fun d => d.parameters.length) = some 1 := by decide +kernel
theorem hdV_X5_become : yX5_become.cls = RX5 ∧ yX5_become.cls ≠ "java/lang/invoke/MethodHandle" ∧ yX5_become.cls ≠ "java/lang/invoke/VarHandle" ∧ (parseMethodDescriptor yX5_become.desc).map (fun d => d.parameters.length) = some 1 := ⟨rfl, hdS_X5_become⟩
set_option maxHeartbeats 4000000 in
set_option maxRecDepth 100000 in
theorem c_X5_become (l : Launch) (E : G0) (sz : Nat) (a0 : Nat → Nat) (v0 : HS) (a1 : Nat → Nat) (v1 : HS) (x : HS) (hf : f_X5_become v0 v1 = some x) : Met l yX5_become wsX5_become rmX5_become (va_Pc [.ref (a0 0), .ref (a1 0)] (PW E (wHS E a0 v0 ++ wHS E a1 v1) sz)) (va_Qv (fun q => q = x) (fun q t => va_P E.1 vwCl ((fun q : HS => wHS E a0 q ++ wHS E a1 v1) q) t.heap ∧ va_D (va_A (wHS E a0 v0 ++ wHS E a1 v1) sz) ((fun q : HS => wHS E a0 q ++ wHS E a1 v1) q)) (va_A (wHS E a0 v0 ++ wHS E a1 v1) sz)) 0 0 (va_A (wHS E a0 v0 ++ wHS E a1 v1) sz) := by
  refine Met.ofW (cc := cX5_become) (maxL := 2) (ret := none) (by decide) rfl ?_
  intro p e s m args below meth c s₁ B hml hv
  obtain ⟨ha, hsz, hP, hD0, hC⟩ := hv
  have hx := B.exec
  have hb := B.bytes
  have hr := B.returns
  have hts := atoms_spec (ws := wsX5_become) B.pre
  have hown : s.vm.findClass RX5 = some m.cls := findClass_of_methodNamed B.named
  have hlocks := B.notSynchronized
  subst hsz
  have hD := hD0.self (sz := s.heap.size)
  generalize hAe : va_A (wHS E a0 v0 ++ wHS E a1 v1) s.heap.size = A at hD hC ⊢
  have hA : ∀ q : Nat, s.heap.size ≤ q → A q := fun q h => by rw [← hAe]; exact Or.inr h
  have hS : va_S A s.heap s.heap [] := va_S.rf
  have w1 : (Cond.fieldLink RX5 9 "GreatChunks$House" "wanted" "I").before args s = true := hts _ (List.mem_of_getElem? (i := 1) rfl)
  have w2 : ∀ w ∈ wsX50, w ∈ wsX5_become := in_pl 54 rfl
  have w3 : (Cond.fieldLink RX5 15 "GreatChunks$House" "size" "I").before args s = true := hts _ (List.mem_of_getElem? (i := 2) rfl)
  have w4 : (Cond.fieldLink RX5 18 "GreatChunks$House" "lease" "I").before args s = true := hts _ (List.mem_of_getElem? (i := 3) rfl)
  have w5 : (Cond.fieldLink RX5 21 "GreatChunks$House" "grace" "I").before args s = true := hts _ (List.mem_of_getElem? (i := 4) rfl)
  have w6 : (Cond.fieldLink RX5 24 "GreatChunks$House" "now" "I").before args s = true := hts _ (List.mem_of_getElem? (i := 5) rfl)
  have w7 : (Cond.fieldLink RX5 30 "GreatChunks$House" "servers" "LGreatChunks$Servers;").before args s = true := hts _ (List.mem_of_getElem? (i := 6) rfl)
  have w8 : (Cond.fieldLink RX5 37 "GreatChunks$House" "chunks" "LGreatChunks$Chunks;").before args s = true := hts _ (List.mem_of_getElem? (i := 7) rfl)
  have w9 : (Cond.fieldLink RX5 44 "GreatChunks$House" "copies" "LGreatChunks$Copies;").before args s = true := hts _ (List.mem_of_getElem? (i := 8) rfl)
  have w10 : (Cond.fieldLink RX5 51 "GreatChunks$House" "files" "LGreatChunks$Files;").before args s = true := hts _ (List.mem_of_getElem? (i := 9) rfl)
  generalize hQe : MQ below (va_Qv (fun q => q = x) (fun q t => va_P E.1 vwCl ((fun q : HS => wHS E a0 q ++ wHS E a1 v1) q) t.heap ∧ va_D A ((fun q : HS => wHS E a0 q ++ wHS E a1 v1) q)) A) args s 0 0 A = Q
  refine st_W ha (Nat.le_of_ble_eq_true rfl) (fun ls hl => ?_)
  have hl : lv_has ls 2 [(0, .ref (a0 0)), (1, .ref (a1 0))] := hl
  unfold f_X5_become at hf
  refine lv_aload_n hx hb dX5_become_0 rfl (lv_at hl 0 rfl) ?_
  refine lv_aload_n hx hb dX5_become_1 rfl (lv_at hl 1 rfl) ?_
  refine va_get (D := E.1) (ci := 4) (v := .int v1.1) (C := RX5) (T := TX5) (N := 9) hx hb hts w2 hown hC.1 hP 19 rfl rfl 0 (by decide) w1 (fun _ h9 => h9) rfl dX5_become_2 ?_
  refine va_put (D := E.1) (ci := 4) (v := .int v1.1) (ty := .int) (C := RX5) (T := TX5) (N := 9) hx hb hts w2 tyX5 tyX5_ok nmX5 hown hC.1 hP hD hS 0 rfl rfl 0 (by decide) w1 (fun _ h9 => h9) rfl (by decide +kernel) rfl rfl (Nat.le_of_ble_eq_true rfl) dX5_become_5 (fun H locs hP hD hS => ?_)
  have hP : va_P E.1 vwCl (wHS E a0 (v1.1, v0.2.1, v0.2.2.1, v0.2.2.2.1, v0.2.2.2.2.1, v0.2.2.2.2.2.1, v0.2.2.2.2.2.2.1, v0.2.2.2.2.2.2.2.1, v0.2.2.2.2.2.2.2.2) ++ wHS E a1 v1) H := hP
  have hD : va_D A (wHS E a0 (v1.1, v0.2.1, v0.2.2.1, v0.2.2.2.1, v0.2.2.2.2.1, v0.2.2.2.2.2.1, v0.2.2.2.2.2.2.1, v0.2.2.2.2.2.2.2.1, v0.2.2.2.2.2.2.2.2) ++ wHS E a1 v1) := hD
  refine lv_aload_n hx hb dX5_become_8 rfl (lv_at hl 0 rfl) ?_
  refine lv_aload_n hx hb dX5_become_9 rfl (lv_at hl 1 rfl) ?_
  refine va_get (D := E.1) (ci := 4) (v := .int v1.2.1) (C := RX5) (T := TX5) (N := 9) hx hb hts w2 hown hC.1 hP 19 rfl rfl 1 (by decide) w3 (fun _ h9 => h9) rfl dX5_become_10 ?_
  refine va_put (D := E.1) (ci := 4) (v := .int v1.2.1) (ty := .int) (C := RX5) (T := TX5) (N := 9) hx hb hts w2 tyX5 tyX5_ok nmX5 hown hC.1 hP hD hS 0 rfl rfl 1 (by decide) w3 (fun _ h9 => h9) rfl (by decide +kernel) rfl rfl (Nat.le_of_ble_eq_true rfl) dX5_become_13 (fun H locs hP hD hS => ?_)
  have hP : va_P E.1 vwCl (wHS E a0 (v1.1, v1.2.1, v0.2.2.1, v0.2.2.2.1, v0.2.2.2.2.1, v0.2.2.2.2.2.1, v0.2.2.2.2.2.2.1, v0.2.2.2.2.2.2.2.1, v0.2.2.2.2.2.2.2.2) ++ wHS E a1 v1) H := hP
  have hD : va_D A (wHS E a0 (v1.1, v1.2.1, v0.2.2.1, v0.2.2.2.1, v0.2.2.2.2.1, v0.2.2.2.2.2.1, v0.2.2.2.2.2.2.1, v0.2.2.2.2.2.2.2.1, v0.2.2.2.2.2.2.2.2) ++ wHS E a1 v1) := hD
  refine lv_aload_n hx hb dX5_become_16 rfl (lv_at hl 0 rfl) ?_
  refine lv_aload_n hx hb dX5_become_17 rfl (lv_at hl 1 rfl) ?_
  refine va_get (D := E.1) (ci := 4) (v := .int v1.2.2.1) (C := RX5) (T := TX5) (N := 9) hx hb hts w2 hown hC.1 hP 19 rfl rfl 2 (by decide) w4 (fun _ h9 => h9) rfl dX5_become_18 ?_
  refine va_put (D := E.1) (ci := 4) (v := .int v1.2.2.1) (ty := .int) (C := RX5) (T := TX5) (N := 9) hx hb hts w2 tyX5 tyX5_ok nmX5 hown hC.1 hP hD hS 0 rfl rfl 2 (by decide) w4 (fun _ h9 => h9) rfl (by decide +kernel) rfl rfl (Nat.le_of_ble_eq_true rfl) dX5_become_21 (fun H locs hP hD hS => ?_)
  have hP : va_P E.1 vwCl (wHS E a0 (v1.1, v1.2.1, v1.2.2.1, v0.2.2.2.1, v0.2.2.2.2.1, v0.2.2.2.2.2.1, v0.2.2.2.2.2.2.1, v0.2.2.2.2.2.2.2.1, v0.2.2.2.2.2.2.2.2) ++ wHS E a1 v1) H := hP
  have hD : va_D A (wHS E a0 (v1.1, v1.2.1, v1.2.2.1, v0.2.2.2.1, v0.2.2.2.2.1, v0.2.2.2.2.2.1, v0.2.2.2.2.2.2.1, v0.2.2.2.2.2.2.2.1, v0.2.2.2.2.2.2.2.2) ++ wHS E a1 v1) := hD
  refine lv_aload_n hx hb dX5_become_24 rfl (lv_at hl 0 rfl) ?_
  refine lv_aload_n hx hb dX5_become_25 rfl (lv_at hl 1 rfl) ?_
  refine va_get (D := E.1) (ci := 4) (v := .int v1.2.2.2.1) (C := RX5) (T := TX5) (N := 9) hx hb hts w2 hown hC.1 hP 19 rfl rfl 3 (by decide) w5 (fun _ h9 => h9) rfl dX5_become_26 ?_
  refine va_put (D := E.1) (ci := 4) (v := .int v1.2.2.2.1) (ty := .int) (C := RX5) (T := TX5) (N := 9) hx hb hts w2 tyX5 tyX5_ok nmX5 hown hC.1 hP hD hS 0 rfl rfl 3 (by decide) w5 (fun _ h9 => h9) rfl (by decide +kernel) rfl rfl (Nat.le_of_ble_eq_true rfl) dX5_become_29 (fun H locs hP hD hS => ?_)
  have hP : va_P E.1 vwCl (wHS E a0 (v1.1, v1.2.1, v1.2.2.1, v1.2.2.2.1, v0.2.2.2.2.1, v0.2.2.2.2.2.1, v0.2.2.2.2.2.2.1, v0.2.2.2.2.2.2.2.1, v0.2.2.2.2.2.2.2.2) ++ wHS E a1 v1) H := hP
  have hD : va_D A (wHS E a0 (v1.1, v1.2.1, v1.2.2.1, v1.2.2.2.1, v0.2.2.2.2.1, v0.2.2.2.2.2.1, v0.2.2.2.2.2.2.1, v0.2.2.2.2.2.2.2.1, v0.2.2.2.2.2.2.2.2) ++ wHS E a1 v1) := hD
  refine lv_aload_n hx hb dX5_become_32 rfl (lv_at hl 0 rfl) ?_
  refine lv_aload_n hx hb dX5_become_33 rfl (lv_at hl 1 rfl) ?_
  refine va_get (D := E.1) (ci := 4) (v := .int v1.2.2.2.2.1) (C := RX5) (T := TX5) (N := 9) hx hb hts w2 hown hC.1 hP 19 rfl rfl 4 (by decide) w6 (fun _ h9 => h9) rfl dX5_become_34 ?_
  refine va_put (D := E.1) (ci := 4) (v := .int v1.2.2.2.2.1) (ty := .int) (C := RX5) (T := TX5) (N := 9) hx hb hts w2 tyX5 tyX5_ok nmX5 hown hC.1 hP hD hS 0 rfl rfl 4 (by decide) w6 (fun _ h9 => h9) rfl (by decide +kernel) rfl rfl (Nat.le_of_ble_eq_true rfl) dX5_become_37 (fun H locs hP hD hS => ?_)
  have hP : va_P E.1 vwCl (wHS E a0 (v1.1, v1.2.1, v1.2.2.1, v1.2.2.2.1, v1.2.2.2.2.1, v0.2.2.2.2.2.1, v0.2.2.2.2.2.2.1, v0.2.2.2.2.2.2.2.1, v0.2.2.2.2.2.2.2.2) ++ wHS E a1 v1) H := hP
  have hD : va_D A (wHS E a0 (v1.1, v1.2.1, v1.2.2.1, v1.2.2.2.1, v1.2.2.2.2.1, v0.2.2.2.2.2.1, v0.2.2.2.2.2.2.1, v0.2.2.2.2.2.2.2.1, v0.2.2.2.2.2.2.2.2) ++ wHS E a1 v1) := hD
  refine lv_aload_n hx hb dX5_become_40 rfl (lv_at hl 0 rfl) ?_
  refine va_get (D := E.1) (ci := 4) (v := .ref (a0 1)) (C := RX5) (T := TX5) (N := 9) hx hb hts w2 hown hC.1 hP 0 rfl rfl 5 (by decide) w7 (fun _ h9 => h9) rfl dX5_become_41 ?_
  refine lv_aload_n hx hb dX5_become_44 rfl (lv_at hl 1 rfl) ?_
  refine va_get (D := E.1) (ci := 4) (v := .ref (a1 1)) (C := RX5) (T := TX5) (N := 9) hx hb hts w2 hown hC.1 hP 19 rfl rfl 5 (by decide) w7 (fun _ h9 => h9) rfl dX5_become_45 ?_
  obtain ⟨r1, e1, hf⟩ := bd_some hf
  refine cq_v hP hD hS [1, 2, 3, 20, 21, 22] [0, 4, 5, 6, 7, 8, 9, 10, 11, 12, 13, 14, 15, 16, 17, 18, 19, 23, 24, 25, 26, 27, 28, 29, 30, 31, 32, 33, 34, 35, 36, 37] [0, 32, 33, 34, 1, 2, 3, 4, 5, 6, 7, 8, 9, 10, 11, 12, 13, 14, 15, 16, 35, 36, 37, 17, 18, 19, 20, 21, 22, 23, 24, 25, 26, 27, 28, 29, 30, 31] (va_free (wc := (wSV E (fun k => a0 (k + 1)) v0.2.2.2.2.2.1 ++ wSV E (fun k => a1 (k + 1)) v1.2.2.2.2.2.1)) hD hS hA [1, 2, 3, 20, 21, 22] rfl) (va_runV (As := [.ref (a1 1)]) (rest := []) ⟨hx, hb, hml, hown, hts⟩ (c_X8_become l E H.size (fun k => a0 (k + 1)) v0.2.2.2.2.2.1 (fun k => a1 (k + 1)) v1.2.2.2.2.2.1 r1 e1) (cwV 1 hts gX5_become_X8_become rfl rfl rfl hdV_X8_become ⟨Nat.le_of_ble_eq_true rfl, Nat.le_of_ble_eq_true rfl⟩) ⟨PW.blind, va_recv hC.1 hP (ci := 6) (q0 := 1) rfl rfl, PW.pre hC hS (hP.sub [1, 2, 3, 20, 21, 22] rfl) (hD.sub [1, 2, 3, 20, 21, 22] rfl rfl) (va_free hD hS hA [1, 2, 3, 20, 21, 22] rfl)⟩ rfl rfl hl.1 rfl (lv_room (Nat.le_of_ble_eq_true rfl)) dX5_become_48 ⟨Nat.le_of_ble_eq_true rfl, Nat.le_of_ble_eq_true rfl⟩) rfl rfl rfl rfl (wHS E a0 (v1.1, v1.2.1, v1.2.2.1, v1.2.2.2.1, v1.2.2.2.2.1, r1, v0.2.2.2.2.2.2.1, v0.2.2.2.2.2.2.2.1, v0.2.2.2.2.2.2.2.2) ++ wHS E a1 v1) rfl rfl (fun H locs hP hD hS => ?_)
  refine lv_aload_n hx hb dX5_become_51 rfl (lv_at hl 0 rfl) ?_
  refine va_get (D := E.1) (ci := 4) (v := .ref (a0 4)) (C := RX5) (T := TX5) (N := 9) hx hb hts w2 hown hC.1 hP 0 rfl rfl 6 (by decide) w8 (fun _ h9 => h9) rfl dX5_become_52 ?_
  refine lv_aload_n hx hb dX5_become_55 rfl (lv_at hl 1 rfl) ?_
  refine va_get (D := E.1) (ci := 4) (v := .ref (a1 4)) (C := RX5) (T := TX5) (N := 9) hx hb hts w2 hown hC.1 hP 19 rfl rfl 6 (by decide) w8 (fun _ h9 => h9) rfl dX5_become_56 ?_
  obtain ⟨r2, e2, hf⟩ := bd_some hf
  refine cq_v hP hD hS [4, 5, 6, 7, 8, 23, 24, 25, 26, 27] [0, 1, 2, 3, 9, 10, 11, 12, 13, 14, 15, 16, 17, 18, 19, 20, 21, 22, 28, 29, 30, 31, 32, 33, 34, 35, 36, 37] [0, 1, 2, 3, 28, 29, 30, 31, 32, 4, 5, 6, 7, 8, 9, 10, 11, 12, 13, 14, 15, 16, 17, 33, 34, 35, 36, 37, 18, 19, 20, 21, 22, 23, 24, 25, 26, 27] (va_free (wc := (wCK E (fun k => a0 (k + 4)) v0.2.2.2.2.2.2.1 ++ wCK E (fun k => a1 (k + 4)) v1.2.2.2.2.2.2.1)) hD hS hA [4, 5, 6, 7, 8, 23, 24, 25, 26, 27] rfl) (va_runV (As := [.ref (a1 4)]) (rest := []) ⟨hx, hb, hml, hown, hts⟩ (c_X1_become l E H.size (fun k => a0 (k + 4)) v0.2.2.2.2.2.2.1 (fun k => a1 (k + 4)) v1.2.2.2.2.2.2.1 r2 e2) (cwV 1 hts gX5_become_X1_become rfl rfl rfl hdV_X1_become ⟨Nat.le_of_ble_eq_true rfl, Nat.le_of_ble_eq_true rfl⟩) ⟨PW.blind, va_recv hC.1 hP (ci := 1) (q0 := 4) rfl rfl, PW.pre hC hS (hP.sub [4, 5, 6, 7, 8, 23, 24, 25, 26, 27] rfl) (hD.sub [4, 5, 6, 7, 8, 23, 24, 25, 26, 27] rfl rfl) (va_free hD hS hA [4, 5, 6, 7, 8, 23, 24, 25, 26, 27] rfl)⟩ rfl rfl hl.1 rfl (lv_room (Nat.le_of_ble_eq_true rfl)) dX5_become_59 ⟨Nat.le_of_ble_eq_true rfl, Nat.le_of_ble_eq_true rfl⟩) rfl rfl rfl rfl (wHS E a0 (v1.1, v1.2.1, v1.2.2.1, v1.2.2.2.1, v1.2.2.2.2.1, r1, r2, v0.2.2.2.2.2.2.2.1, v0.2.2.2.2.2.2.2.2) ++ wHS E a1 v1) rfl rfl (fun H locs hP hD hS => ?_)
  refine lv_aload_n hx hb dX5_become_62 rfl (lv_at hl 0 rfl) ?_
  refine va_get (D := E.1) (ci := 4) (v := .ref (a0 9)) (C := RX5) (T := TX5) (N := 9) hx hb hts w2 hown hC.1 hP 0 rfl rfl 7 (by decide) w9 (fun _ h9 => h9) rfl dX5_become_63 ?_
  refine lv_aload_n hx hb dX5_become_66 rfl (lv_at hl 1 rfl) ?_
  refine va_get (D := E.1) (ci := 4) (v := .ref (a1 9)) (C := RX5) (T := TX5) (N := 9) hx hb hts w2 hown hC.1 hP 19 rfl rfl 7 (by decide) w9 (fun _ h9 => h9) rfl dX5_become_67 ?_
  obtain ⟨r3, e3, hf⟩ := bd_some hf
  refine cq_v hP hD hS [9, 10, 11, 12, 28, 29, 30, 31] [0, 1, 2, 3, 4, 5, 6, 7, 8, 13, 14, 15, 16, 17, 18, 19, 20, 21, 22, 23, 24, 25, 26, 27, 32, 33, 34, 35, 36, 37] [0, 1, 2, 3, 4, 5, 6, 7, 8, 30, 31, 32, 33, 9, 10, 11, 12, 13, 14, 15, 16, 17, 18, 19, 20, 21, 22, 23, 34, 35, 36, 37, 24, 25, 26, 27, 28, 29] (va_free (wc := (wCP E (fun k => a0 (k + 9)) v0.2.2.2.2.2.2.2.1 ++ wCP E (fun k => a1 (k + 9)) v1.2.2.2.2.2.2.2.1)) hD hS hA [9, 10, 11, 12, 28, 29, 30, 31] rfl) (va_runV (As := [.ref (a1 9)]) (rest := []) ⟨hx, hb, hml, hown, hts⟩ (c_X2_become l E H.size (fun k => a0 (k + 9)) v0.2.2.2.2.2.2.2.1 (fun k => a1 (k + 9)) v1.2.2.2.2.2.2.2.1 r3 e3) (cwV 1 hts gX5_become_X2_become rfl rfl rfl hdV_X2_become ⟨Nat.le_of_ble_eq_true rfl, Nat.le_of_ble_eq_true rfl⟩) ⟨PW.blind, va_recv hC.1 hP (ci := 2) (q0 := 9) rfl rfl, PW.pre hC hS (hP.sub [9, 10, 11, 12, 28, 29, 30, 31] rfl) (hD.sub [9, 10, 11, 12, 28, 29, 30, 31] rfl rfl) (va_free hD hS hA [9, 10, 11, 12, 28, 29, 30, 31] rfl)⟩ rfl rfl hl.1 rfl (lv_room (Nat.le_of_ble_eq_true rfl)) dX5_become_70 ⟨Nat.le_of_ble_eq_true rfl, Nat.le_of_ble_eq_true rfl⟩) rfl rfl rfl rfl (wHS E a0 (v1.1, v1.2.1, v1.2.2.1, v1.2.2.2.1, v1.2.2.2.2.1, r1, r2, r3, v0.2.2.2.2.2.2.2.2) ++ wHS E a1 v1) rfl rfl (fun H locs hP hD hS => ?_)
  refine lv_aload_n hx hb dX5_become_73 rfl (lv_at hl 0 rfl) ?_
  refine va_get (D := E.1) (ci := 4) (v := .ref (a0 13)) (C := RX5) (T := TX5) (N := 9) hx hb hts w2 hown hC.1 hP 0 rfl rfl 8 (by decide) w10 (fun _ h9 => h9) rfl dX5_become_74 ?_
  refine lv_aload_n hx hb dX5_become_77 rfl (lv_at hl 1 rfl) ?_
  refine va_get (D := E.1) (ci := 4) (v := .ref (a1 13)) (C := RX5) (T := TX5) (N := 9) hx hb hts w2 hown hC.1 hP 19 rfl rfl 8 (by decide) w10 (fun _ h9 => h9) rfl dX5_become_78 ?_
  obtain ⟨r4, e4, hf⟩ := bd_some hf
  refine cq_v hP hD hS [13, 14, 15, 16, 17, 18, 32, 33, 34, 35, 36, 37] [0, 1, 2, 3, 4, 5, 6, 7, 8, 9, 10, 11, 12, 19, 20, 21, 22, 23, 24, 25, 26, 27, 28, 29, 30, 31] [0, 1, 2, 3, 4, 5, 6, 7, 8, 9, 10, 11, 12, 26, 27, 28, 29, 30, 31, 13, 14, 15, 16, 17, 18, 19, 20, 21, 22, 23, 24, 25, 32, 33, 34, 35, 36, 37] (va_free (wc := (wFL E (fun k => a0 (k + 13)) v0.2.2.2.2.2.2.2.2 ++ wFL E (fun k => a1 (k + 13)) v1.2.2.2.2.2.2.2.2)) hD hS hA [13, 14, 15, 16, 17, 18, 32, 33, 34, 35, 36, 37] rfl) (va_runV (As := [.ref (a1 13)]) (rest := []) ⟨hx, hb, hml, hown, hts⟩ (c_X3_become l E H.size (fun k => a0 (k + 13)) v0.2.2.2.2.2.2.2.2 (fun k => a1 (k + 13)) v1.2.2.2.2.2.2.2.2 r4 e4) (cwV 1 hts gX5_become_X3_become rfl rfl rfl hdV_X3_become ⟨Nat.le_of_ble_eq_true rfl, Nat.le_of_ble_eq_true rfl⟩) ⟨PW.blind, va_recv hC.1 hP (ci := 3) (q0 := 13) rfl rfl, PW.pre hC hS (hP.sub [13, 14, 15, 16, 17, 18, 32, 33, 34, 35, 36, 37] rfl) (hD.sub [13, 14, 15, 16, 17, 18, 32, 33, 34, 35, 36, 37] rfl rfl) (va_free hD hS hA [13, 14, 15, 16, 17, 18, 32, 33, 34, 35, 36, 37] rfl)⟩ rfl rfl hl.1 rfl (lv_room (Nat.le_of_ble_eq_true rfl)) dX5_become_81 ⟨Nat.le_of_ble_eq_true rfl, Nat.le_of_ble_eq_true rfl⟩) rfl rfl rfl rfl (wHS E a0 (v1.1, v1.2.1, v1.2.2.1, v1.2.2.2.1, v1.2.2.2.2.1, r1, r2, r3, r4) ++ wHS E a1 v1) rfl rfl (fun H locs hP hD hS => ?_)
  cases Option.some.inj hf
  subst hQe
  exact ew_v (wf := (fun q : HS => wHS E a0 q ++ wHS E a1 v1)) hx hb hr hlocks hP hD hS dX5_become_84

/-! X5_isGood -/
abbrev rmX5_isGood : Room := { frames := 2, cells := 0, slots := 0, locals := 45 }
theorem hdS_X5_isGood : yX5_isGood.cls ≠ "java/lang/invoke/MethodHandle" ∧ yX5_isGood.cls ≠ "java/lang/invoke/VarHandle" ∧ (parseMethodDescriptor yX5_isGood.desc).map (fun d => d.parameters.length) = some 2 := by decide +kernel
theorem hdV_X5_isGood : yX5_isGood.cls = RX5 ∧ yX5_isGood.cls ≠ "java/lang/invoke/MethodHandle" ∧ yX5_isGood.cls ≠ "java/lang/invoke/VarHandle" ∧ (parseMethodDescriptor yX5_isGood.desc).map (fun d => d.parameters.length) = some 2 := ⟨rfl, hdS_X5_isGood⟩
set_option maxHeartbeats 4000000 in
set_option maxRecDepth 100000 in
theorem c_X5_isGood (l : Launch) (E : G0) (a0 : Nat → Nat) (v0 : HS) (p1 : Int32) (p2 : Int32) (x : Bool) (hf : f_X5_isGood v0 p1 p2 = some x) : Met l yX5_isGood wsX5_isGood rmX5_isGood (va_Pc [.ref (a0 0), .int p1, .int p2] (PR E (wHS E a0 v0))) (vp_Si (fun r => r = bI x)) 0 0 (fun _ => False) := by
  refine Met.ofW (cc := cX5_isGood) (maxL := 3) (ret := some .boolean) (by decide) rfl ?_
  intro p e s m args below meth c s₁ B hml hv
  obtain ⟨ha, hP, hC⟩ := hv
  have hx := B.exec
  have hb := B.bytes
  have hr := B.returns
  have hts := atoms_spec (ws := wsX5_isGood) B.pre
  have hown : s.vm.findClass RX5 = some m.cls := findClass_of_methodNamed B.named
  have hlocks := B.notSynchronized
  have hS : va_S (fun _ => False) s.heap s.heap [] := va_S.rf
  have w1 : (Cond.fieldLink RX5 37 "GreatChunks$House" "chunks" "LGreatChunks$Chunks;").before args s = true := hts _ (List.mem_of_getElem? (i := 1) rfl)
  have w2 : ∀ w ∈ wsX50, w ∈ wsX5_isGood := in_pl 19 rfl
  have w3 : (Cond.fieldLink RX5 44 "GreatChunks$House" "copies" "LGreatChunks$Copies;").before args s = true := hts _ (List.mem_of_getElem? (i := 2) rfl)
  have w4 : (Cond.fieldLink RX5 87 "GreatChunks$Chunks" "version" "[I").before args s = true := hts _ (List.mem_of_getElem? (i := 3) rfl)
  have w5 : ∀ w ∈ wsX10, w ∈ wsX5_isGood := in_pl 28 rfl
  generalize hQe : MQ below (vp_Si (fun r => r = bI x)) args s 0 0 (fun _ => False) = Q
  refine st_W ha (Nat.le_of_ble_eq_true rfl) (fun ls hl => ?_)
  have hl : lv_has ls 3 [(0, .ref (a0 0)), (1, .int p1), (2, .int p2)] := hl
  unfold f_X5_isGood at hf
  refine lv_aload_n hx hb dX5_isGood_0 rfl (lv_at hl 0 rfl) ?_
  refine va_get (D := E.1) (ci := 4) (v := .ref (a0 4)) (C := RX5) (T := TX5) (N := 9) hx hb hts w2 hown hC.1 hP 0 rfl rfl 6 (by decide) w1 (fun _ h9 => h9) rfl dX5_isGood_1 ?_
  refine lv_iload_n hx hb dX5_isGood_4 rfl (lv_at hl 2 rfl) ?_
  refine cr_i (va_runV (As := [.int p2]) (rest := []) ⟨hx, hb, hml, hown, hts⟩ (c_X1_has l E (fun k => a0 (k + 4)) v0.2.2.2.2.2.2.1 p2 _ rfl) (cwV 1 hts gX5_isGood_X1_has rfl rfl rfl hdV_X1_has ⟨Nat.le_of_ble_eq_true rfl, Nat.le_of_ble_eq_true rfl⟩) ⟨PR.blind, va_recv hC.1 hP (ci := 1) (q0 := 4) rfl rfl, PR.pre hC hS (hP.sub [4, 5, 6, 7, 8] rfl)⟩ rfl rfl hl.1 rfl (lv_room (Nat.le_of_ble_eq_true rfl)) dX5_isGood_5 ⟨Nat.le_of_ble_eq_true rfl, Nat.le_of_ble_eq_true rfl⟩) ?_
  refine lv_if_eq (tgt := 36) hx hb dX5_isGood_8 rfl (fun c1 => ?_) (fun c1 => ?_)
  · have hf := it_t hf c1
    refine lv_iconst (v := 0) hx hb dX5_isGood_36 rfl ?_
    cases Option.some.inj hf
    subst hQe
    exact en_z hx hb hr hlocks rfl dX5_isGood_37
  · have hf := it_f hf c1
    refine lv_aload_n hx hb dX5_isGood_11 rfl (lv_at hl 0 rfl) ?_
    refine va_get (D := E.1) (ci := 4) (v := .ref (a0 9)) (C := RX5) (T := TX5) (N := 9) hx hb hts w2 hown hC.1 hP 0 rfl rfl 7 (by decide) w3 (fun _ h9 => h9) rfl dX5_isGood_12 ?_
    refine lv_iload_n hx hb dX5_isGood_15 rfl (lv_at hl 1 rfl) ?_
    refine lv_iload_n hx hb dX5_isGood_16 rfl (lv_at hl 2 rfl) ?_
    obtain ⟨r2, e2, hf⟩ := bd_some hf
    refine cr_i (va_runV (As := [.int p1, .int p2]) (rest := []) ⟨hx, hb, hml, hown, hts⟩ (c_X2_versionOf l E (fun k => a0 (k + 9)) v0.2.2.2.2.2.2.2.1 p1 p2 r2 e2) (cwV 2 hts gX5_isGood_X2_versionOf rfl rfl rfl hdV_X2_versionOf ⟨Nat.le_of_ble_eq_true rfl, Nat.le_of_ble_eq_true rfl⟩) ⟨PR.blind, va_recv hC.1 hP (ci := 2) (q0 := 9) rfl rfl, PR.pre hC hS (hP.sub [9, 10, 11, 12] rfl)⟩ rfl rfl hl.1 rfl (lv_room (Nat.le_of_ble_eq_true rfl)) dX5_isGood_17 ⟨Nat.le_of_ble_eq_true rfl, Nat.le_of_ble_eq_true rfl⟩) ?_
    refine lv_aload_n hx hb dX5_isGood_20 rfl (lv_at hl 0 rfl) ?_
    refine va_get (D := E.1) (ci := 4) (v := .ref (a0 4)) (C := RX5) (T := TX5) (N := 9) hx hb hts w2 hown hC.1 hP 0 rfl rfl 6 (by decide) w1 (fun _ h9 => h9) rfl dX5_isGood_21 ?_
    refine va_get (D := E.1) (ci := 1) (v := .ref (a0 5)) (C := RX1) (T := TX1) (N := 5) hx hb hts w5 hown hC.1 hP 4 rfl rfl 1 (by decide) w4 (fun _ h9 => h9) rfl dX5_isGood_24 ?_
    refine lv_iload_n hx hb dX5_isGood_27 rfl (lv_at hl 2 rfl) ?_
    obtain ⟨h3, hf⟩ := gdI_some hf
    refine va_iald hx hb hC.1 hP 5 0 rfl rfl h3 dX5_isGood_28 ?_
    refine lv_icmp_ne (tgt := 36) hx hb dX5_isGood_29 rfl (fun c4 => ?_) (fun c4 => ?_)
    · have hf := it_f hf c4
      refine lv_iconst (v := 0) hx hb dX5_isGood_36 rfl ?_
      cases Option.some.inj hf
      subst hQe
      exact en_z hx hb hr hlocks rfl dX5_isGood_37
    · have hf := it_t hf c4
      refine lv_iconst (v := 1) hx hb dX5_isGood_32 rfl ?_
      refine lv_goto (tgt := 37) hx hb dX5_isGood_33 rfl ?_
      cases Option.some.inj hf
      subst hQe
      exact en_z hx hb hr hlocks rfl dX5_isGood_37

/-! X5_isStale -/
abbrev rmX5_isStale : Room := { frames := 3, cells := 0, slots := 0, locals := 67 }
theorem hdS_X5_isStale : yX5_isStale.cls ≠ "java/lang/invoke/MethodHandle" ∧ yX5_isStale.cls ≠ "java/lang/invoke/VarHandle" ∧ (parseMethodDescriptor yX5_isStale.desc).map (fun d => d.parameters.length) = some 2 := by decide +kernel
theorem hdV_X5_isStale : yX5_isStale.cls = RX5 ∧ yX5_isStale.cls ≠ "java/lang/invoke/MethodHandle" ∧ yX5_isStale.cls ≠ "java/lang/invoke/VarHandle" ∧ (parseMethodDescriptor yX5_isStale.desc).map (fun d => d.parameters.length) = some 2 := ⟨rfl, hdS_X5_isStale⟩
set_option maxHeartbeats 4000000 in
set_option maxRecDepth 100000 in
theorem c_X5_isStale (l : Launch) (E : G0) (a0 : Nat → Nat) (v0 : HS) (p1 : Int32) (p2 : Int32) (x : Bool) (hf : f_X5_isStale v0 p1 p2 = some x) : Met l yX5_isStale wsX5_isStale rmX5_isStale (va_Pc [.ref (a0 0), .int p1, .int p2] (PR E (wHS E a0 v0))) (vp_Si (fun r => r = bI x)) 0 0 (fun _ => False) := by
  refine Met.ofW (cc := cX5_isStale) (maxL := 3) (ret := some .boolean) (by decide) rfl ?_
  intro p e s m args below meth c s₁ B hml hv
  obtain ⟨ha, hP, hC⟩ := hv
  have hx := B.exec
  have hb := B.bytes
  have hr := B.returns
  have hts := atoms_spec (ws := wsX5_isStale) B.pre
  have hown : s.vm.findClass RX5 = some m.cls := findClass_of_methodNamed B.named
  have hlocks := B.notSynchronized
  have hS : va_S (fun _ => False) s.heap s.heap [] := va_S.rf
  have w1 : (Cond.fieldLink RX5 44 "GreatChunks$House" "copies" "LGreatChunks$Copies;").before args s = true := hts _ (List.mem_of_getElem? (i := 1) rfl)
  have w2 : ∀ w ∈ wsX50, w ∈ wsX5_isStale := in_pl 29 rfl
  generalize hQe : MQ below (vp_Si (fun r => r = bI x)) args s 0 0 (fun _ => False) = Q
  refine st_W ha (Nat.le_of_ble_eq_true rfl) (fun ls hl => ?_)
  have hl : lv_has ls 3 [(0, .ref (a0 0)), (1, .int p1), (2, .int p2)] := hl
  unfold f_X5_isStale at hf
  refine lv_aload_n hx hb dX5_isStale_0 rfl (lv_at hl 0 rfl) ?_
  refine va_get (D := E.1) (ci := 4) (v := .ref (a0 9)) (C := RX5) (T := TX5) (N := 9) hx hb hts w2 hown hC.1 hP 0 rfl rfl 7 (by decide) w1 (fun _ h9 => h9) rfl dX5_isStale_1 ?_
  refine lv_iload_n hx hb dX5_isStale_4 rfl (lv_at hl 1 rfl) ?_
  refine lv_iload_n hx hb dX5_isStale_5 rfl (lv_at hl 2 rfl) ?_
  obtain ⟨r1, e1, hf⟩ := bd_some hf
  refine cr_i (va_runV (As := [.int p1, .int p2]) (rest := []) ⟨hx, hb, hml, hown, hts⟩ (c_X2_lies l E (fun k => a0 (k + 9)) v0.2.2.2.2.2.2.2.1 p1 p2 r1 e1) (cwV 2 hts gX5_isStale_X2_lies rfl rfl rfl hdV_X2_lies ⟨Nat.le_of_ble_eq_true rfl, Nat.le_of_ble_eq_true rfl⟩) ⟨PR.blind, va_recv hC.1 hP (ci := 2) (q0 := 9) rfl rfl, PR.pre hC hS (hP.sub [9, 10, 11, 12] rfl)⟩ rfl rfl hl.1 rfl (lv_room (Nat.le_of_ble_eq_true rfl)) dX5_isStale_6 ⟨Nat.le_of_ble_eq_true rfl, Nat.le_of_ble_eq_true rfl⟩) ?_
  refine lv_if_eq (tgt := 25) hx hb dX5_isStale_9 rfl (fun c2 => ?_) (fun c2 => ?_)
  · have hf := it_t hf c2
    refine lv_iconst (v := 0) hx hb dX5_isStale_25 rfl ?_
    cases Option.some.inj hf
    subst hQe
    exact en_z hx hb hr hlocks rfl dX5_isStale_26
  · have hf := it_f hf c2
    refine lv_aload_n hx hb dX5_isStale_12 rfl (lv_at hl 0 rfl) ?_
    refine lv_iload_n hx hb dX5_isStale_13 rfl (lv_at hl 1 rfl) ?_
    refine lv_iload_n hx hb dX5_isStale_14 rfl (lv_at hl 2 rfl) ?_
    obtain ⟨r3, e3, hf⟩ := bd_some hf
    refine cr_i (va_runV (As := [.int p1, .int p2]) (rest := []) ⟨hx, hb, hml, hown, hts⟩ (c_X5_isGood l E a0 v0 p1 p2 r3 e3) (cwV 2 hts gX5_isStale_X5_isGood rfl rfl rfl hdV_X5_isGood ⟨Nat.le_of_ble_eq_true rfl, Nat.le_of_ble_eq_true rfl⟩) ⟨PR.blind, va_recv hC.1 hP (ci := 4) (q0 := 0) rfl rfl, PR.pre hC hS hP⟩ rfl rfl hl.1 rfl (lv_room (Nat.le_of_ble_eq_true rfl)) dX5_isStale_15 ⟨Nat.le_of_ble_eq_true rfl, Nat.le_of_ble_eq_true rfl⟩) ?_
    refine lv_if_ne (tgt := 25) hx hb dX5_isStale_18 rfl (fun c4 => ?_) (fun c4 => ?_)
    · have hf := it_f hf c4
      refine lv_iconst (v := 0) hx hb dX5_isStale_25 rfl ?_
      cases Option.some.inj hf
      subst hQe
      exact en_z hx hb hr hlocks rfl dX5_isStale_26
    · have hf := it_t hf c4
      refine lv_iconst (v := 1) hx hb dX5_isStale_21 rfl ?_
      refine lv_goto (tgt := 26) hx hb dX5_isStale_22 rfl ?_
      cases Option.some.inj hf
      subst hQe
      exact en_z hx hb hr hlocks rfl dX5_isStale_26

/-! X5_good -/
abbrev rmX5_good : Room := { frames := 2, cells := 0, slots := 0, locals := 45 }
theorem hdS_X5_good : yX5_good.cls ≠ "java/lang/invoke/MethodHandle" ∧ yX5_good.cls ≠ "java/lang/invoke/VarHandle" ∧ (parseMethodDescriptor yX5_good.desc).map (fun d => d.parameters.length) = some 1 := by decide +kernel
theorem hdV_X5_good : yX5_good.cls = RX5 ∧ yX5_good.cls ≠ "java/lang/invoke/MethodHandle" ∧ yX5_good.cls ≠ "java/lang/invoke/VarHandle" ∧ (parseMethodDescriptor yX5_good.desc).map (fun d => d.parameters.length) = some 1 := ⟨rfl, hdS_X5_good⟩
set_option maxHeartbeats 4000000 in
set_option maxRecDepth 100000 in
theorem c_X5_good (l : Launch) (E : G0) (a0 : Nat → Nat) (v0 : HS) (p1 : Int32) (x : Int32) (hf : f_X5_good v0 p1 = some x) : Met l yX5_good wsX5_good rmX5_good (va_Pc [.ref (a0 0), .int p1] (PR E (wHS E a0 v0))) (vp_Si (fun r => r = x)) 0 0 (fun _ => False) := by
  refine Met.ofW (cc := cX5_good) (maxL := 5) (ret := some .int) (by decide) rfl ?_
  intro p e s m args below meth c s₁ B hml hv
  obtain ⟨ha, hP, hC⟩ := hv
  have hx := B.exec
  have hb := B.bytes
  have hr := B.returns
  have hts := atoms_spec (ws := wsX5_good) B.pre
  have hown : s.vm.findClass RX5 = some m.cls := findClass_of_methodNamed B.named
  have hlocks := B.notSynchronized
  have hS : va_S (fun _ => False) s.heap s.heap [] := va_S.rf
  have w1 : (Cond.fieldLink RX5 37 "GreatChunks$House" "chunks" "LGreatChunks$Chunks;").before args s = true := hts _ (List.mem_of_getElem? (i := 1) rfl)
  have w2 : ∀ w ∈ wsX50, w ∈ wsX5_good := in_pl 21 rfl
  have w3 : (Cond.fieldLink RX5 87 "GreatChunks$Chunks" "version" "[I").before args s = true := hts _ (List.mem_of_getElem? (i := 2) rfl)
  have w4 : ∀ w ∈ wsX10, w ∈ wsX5_good := in_pl 30 rfl
  have w5 : (Cond.fieldLink RX5 30 "GreatChunks$House" "servers" "LGreatChunks$Servers;").before args s = true := hts _ (List.mem_of_getElem? (i := 3) rfl)
  have w6 : (Cond.fieldLink RX5 98 "GreatChunks$Servers" "many" "I").before args s = true := hts _ (List.mem_of_getElem? (i := 4) rfl)
  have w7 : ∀ w ∈ wsX80, w ∈ wsX5_good := in_pl 35 rfl
  have w8 : (Cond.fieldLink RX5 44 "GreatChunks$House" "copies" "LGreatChunks$Copies;").before args s = true := hts _ (List.mem_of_getElem? (i := 5) rfl)
  generalize hQe : MQ below (vp_Si (fun r => r = x)) args s 0 0 (fun _ => False) = Q
  refine st_W ha (Nat.le_of_ble_eq_true rfl) (fun ls hl => ?_)
  have hl : lv_has ls 5 [(0, .ref (a0 0)), (1, .int p1)] := hl
  unfold f_X5_good at hf
  refine lv_aload_n hx hb dX5_good_0 rfl (lv_at hl 0 rfl) ?_
  refine va_get (D := E.1) (ci := 4) (v := .ref (a0 4)) (C := RX5) (T := TX5) (N := 9) hx hb hts w2 hown hC.1 hP 0 rfl rfl 6 (by decide) w1 (fun _ h9 => h9) rfl dX5_good_1 ?_
  refine lv_iload_n hx hb dX5_good_4 rfl (lv_at hl 1 rfl) ?_
  refine cr_i (va_runV (As := [.int p1]) (rest := []) ⟨hx, hb, hml, hown, hts⟩ (c_X1_has l E (fun k => a0 (k + 4)) v0.2.2.2.2.2.2.1 p1 _ rfl) (cwV 1 hts gX5_good_X1_has rfl rfl rfl hdV_X1_has ⟨Nat.le_of_ble_eq_true rfl, Nat.le_of_ble_eq_true rfl⟩) ⟨PR.blind, va_recv hC.1 hP (ci := 1) (q0 := 4) rfl rfl, PR.pre hC hS (hP.sub [4, 5, 6, 7, 8] rfl)⟩ rfl rfl hl.1 rfl (lv_room (Nat.le_of_ble_eq_true rfl)) dX5_good_5 ⟨Nat.le_of_ble_eq_true rfl, Nat.le_of_ble_eq_true rfl⟩) ?_
  refine lv_if_ne (tgt := 13) hx hb dX5_good_8 rfl (fun c1 => ?_) (fun c1 => ?_)
  · have hf := it_f hf c1
    refine lv_aload_n hx hb dX5_good_13 rfl (lv_at hl 0 rfl) ?_
    refine va_get (D := E.1) (ci := 4) (v := .ref (a0 4)) (C := RX5) (T := TX5) (N := 9) hx hb hts w2 hown hC.1 hP 0 rfl rfl 6 (by decide) w1 (fun _ h9 => h9) rfl dX5_good_14 ?_
    refine va_get (D := E.1) (ci := 1) (v := .ref (a0 5)) (C := RX1) (T := TX1) (N := 5) hx hb hts w4 hown hC.1 hP 4 rfl rfl 1 (by decide) w3 (fun _ h9 => h9) rfl dX5_good_17 ?_
    refine lv_iload_n hx hb dX5_good_20 rfl (lv_at hl 1 rfl) ?_
    obtain ⟨h2, hf⟩ := gdI_some hf
    refine va_iald hx hb hC.1 hP 5 0 rfl rfl h2 dX5_good_21 ?_
    refine lv_istore_n (lv' := [(2, .int (v0.2.2.2.2.2.2.1.2.1 p1.toNatClampNeg)), (0, .ref (a0 0)), (1, .int p1)]) hx hb dX5_good_22 rfl hl (by decide) rfl (fun ls hl => ?_)
    refine lv_iconst (v := 0) hx hb dX5_good_23 rfl ?_
    refine lv_istore_n (lv' := [(3, .int (0 : Int32)), (2, .int (v0.2.2.2.2.2.2.1.2.1 p1.toNatClampNeg)), (0, .ref (a0 0)), (1, .int p1)]) hx hb dX5_good_24 rfl hl (by decide) rfl (fun ls hl => ?_)
    refine lv_iconst (v := 0) hx hb dX5_good_25 rfl ?_
    refine lv_istore (lv' := [(4, .int (0 : Int32)), (3, .int (0 : Int32)), (2, .int (v0.2.2.2.2.2.2.1.2.1 p1.toNatClampNeg)), (0, .ref (a0 0)), (1, .int p1)]) hx hb dX5_good_26 hl (by decide) rfl (fun ls hl => ?_)
    obtain ⟨K3, hK3, hf⟩ := jn_some hf
    have J3 : ∀ (q3 : Int32 × Int32) (ls : Array Slot) (hl : lv_has ls 5 [(3, .int q3.1)]) (hf : K3 q3 = some x), W p l e (headSpec wsX5_good rmX5_good).room s m args below meth c s.heap [] 0 0 Q (F0 m 71 ls []) := by
      intro q3 ls hl hf
      have hf := (hK3 q3).trans hf
      refine lv_iload_n hx hb dX5_good_71 rfl (lv_at hl 0 rfl) ?_
      cases Option.some.inj hf
      subst hQe
      exact en_i hx hb hr hlocks dX5_good_72
    have L3 : ∀ (n : Nat) (q3 : Int32 × Int32) (ls : Array Slot) (hl : lv_has ls 5 [(0, .ref (a0 0)), (1, .int p1), (2, .int (v0.2.2.2.2.2.2.1.2.1 p1.toNatClampNeg)), (3, .int q3.1), (4, .int q3.2)]) (hf : lpF (bX5_good_3 v0 p1 K3) n q3 = some x), W p l e (headSpec wsX5_good rmX5_good).room s m args below meth c s.heap [] 0 0 Q (F0 m 28 ls []) := by
      intro n
      induction n with
      | zero => intro q3 ls hl hf; exact (lpF_zero hf).elim
      | succ n ih3 =>
        intro q3 ls hl hf
        have hf := lpF_succ hf
        unfold bX5_good_3 at hf
        refine lv_iload hx hb dX5_good_28 (lv_at hl 4 rfl) ?_
        refine lv_aload_n hx hb dX5_good_30 rfl (lv_at hl 0 rfl) ?_
        refine va_get (D := E.1) (ci := 4) (v := .ref (a0 1)) (C := RX5) (T := TX5) (N := 9) hx hb hts w2 hown hC.1 hP 0 rfl rfl 5 (by decide) w5 (fun _ h9 => h9) rfl dX5_good_31 ?_
        refine va_get (D := E.1) (ci := 6) (v := .int v0.2.2.2.2.2.1.1) (C := RX8) (T := TX8) (N := 4) hx hb hts w7 hown hC.1 hP 1 rfl rfl 0 (by decide) w6 (fun _ h9 => h9) rfl dX5_good_34 ?_
        refine lv_icmp_ge (tgt := 71) hx hb dX5_good_37 rfl (fun c4 => ?_) (fun c4 => ?_)
        · have hf := it_t hf c4
          exact J3 (q3.1, q3.2) ls (lv_sub hl [3] rfl) hf
        · have hf := it_f hf c4
          refine lv_iload_n hx hb dX5_good_40 rfl (lv_at hl 3 rfl) ?_
          refine lv_aload_n hx hb dX5_good_41 rfl (lv_at hl 0 rfl) ?_
          refine va_get (D := E.1) (ci := 4) (v := .ref (a0 9)) (C := RX5) (T := TX5) (N := 9) hx hb hts w2 hown hC.1 hP 0 rfl rfl 7 (by decide) w8 (fun _ h9 => h9) rfl dX5_good_42 ?_
          refine lv_iload hx hb dX5_good_45 (lv_at hl 4 rfl) ?_
          refine lv_iload_n hx hb dX5_good_47 rfl (lv_at hl 1 rfl) ?_
          obtain ⟨r5, e5, hf⟩ := bd_some hf
          refine cr_i (va_runV (As := [.int q3.2, .int p1]) (rest := [.int q3.1]) ⟨hx, hb, hml, hown, hts⟩ (c_X2_versionOf l E (fun k => a0 (k + 9)) v0.2.2.2.2.2.2.2.1 q3.2 p1 r5 e5) (cwV 2 hts gX5_good_X2_versionOf rfl rfl rfl hdV_X2_versionOf ⟨Nat.le_of_ble_eq_true rfl, Nat.le_of_ble_eq_true rfl⟩) ⟨PR.blind, va_recv hC.1 hP (ci := 2) (q0 := 9) rfl rfl, PR.pre hC hS (hP.sub [9, 10, 11, 12] rfl)⟩ rfl rfl hl.1 rfl (lv_room (Nat.le_of_ble_eq_true rfl)) dX5_good_48 ⟨Nat.le_of_ble_eq_true rfl, Nat.le_of_ble_eq_true rfl⟩) ?_
          refine lv_iload_n hx hb dX5_good_51 rfl (lv_at hl 2 rfl) ?_
          refine lv_icmp_ne (tgt := 62) hx hb dX5_good_52 rfl (fun c6 => ?_) (fun c6 => ?_)
          · have hf := it_f hf c6
            refine lv_iconst (v := 0) hx hb dX5_good_62 rfl ?_
            refine lv_ior hx hb dX5_good_63 ?_
            refine lv_istore_n (lv' := [(3, .int (q3.1 ||| (0 : Int32))), (0, .ref (a0 0)), (1, .int p1), (2, .int (v0.2.2.2.2.2.2.1.2.1 p1.toNatClampNeg)), (4, .int q3.2)]) hx hb dX5_good_64 rfl hl (by decide) rfl (fun ls hl => ?_)
            refine lv_iinc (v := (q3.2 + 1)) (lv' := [(4, .int (q3.2 + 1)), (3, .int (q3.1 ||| (0 : Int32))), (0, .ref (a0 0)), (1, .int p1), (2, .int (v0.2.2.2.2.2.2.1.2.1 p1.toNatClampNeg))]) hx hb dX5_good_65 hl (k := 4) rfl rfl (by decide) rfl (fun ls hl => ?_)
            refine lv_goto (tgt := 28) hx hb dX5_good_68 rfl ?_
            exact ih3 ((q3.1 ||| (0 : Int32)), (q3.2 + 1)) ls (lv_sub hl [2, 3, 4, 1, 0] rfl) hf
          · have hf := it_t hf c6
            refine lv_iconst (v := 1) hx hb dX5_good_55 rfl ?_
            refine lv_iload hx hb dX5_good_56 (lv_at hl 4 rfl) ?_
            refine lv_ishl hx hb dX5_good_58 ?_
            refine lv_goto (tgt := 63) hx hb dX5_good_59 rfl ?_
            refine lv_ior hx hb dX5_good_63 ?_
            refine lv_istore_n (lv' := [(3, .int (q3.1 ||| ((1 : Int32) <<< (q3.2 &&& 31)))), (0, .ref (a0 0)), (1, .int p1), (2, .int (v0.2.2.2.2.2.2.1.2.1 p1.toNatClampNeg)), (4, .int q3.2)]) hx hb dX5_good_64 rfl hl (by decide) rfl (fun ls hl => ?_)
            refine lv_iinc (v := (q3.2 + 1)) (lv' := [(4, .int (q3.2 + 1)), (3, .int (q3.1 ||| ((1 : Int32) <<< (q3.2 &&& 31)))), (0, .ref (a0 0)), (1, .int p1), (2, .int (v0.2.2.2.2.2.2.1.2.1 p1.toNatClampNeg))]) hx hb dX5_good_65 hl (k := 4) rfl rfl (by decide) rfl (fun ls hl => ?_)
            refine lv_goto (tgt := 28) hx hb dX5_good_68 rfl ?_
            exact ih3 ((q3.1 ||| ((1 : Int32) <<< (q3.2 &&& 31))), (q3.2 + 1)) ls (lv_sub hl [2, 3, 4, 1, 0] rfl) hf
    exact L3 FU ((0 : Int32), (0 : Int32)) ls (lv_sub hl [3, 4, 2, 1, 0] rfl) hf
  · have hf := it_t hf c1
    refine lv_iconst (v := 0) hx hb dX5_good_11 rfl ?_
    cases Option.some.inj hf
    subst hQe
    exact en_i hx hb hr hlocks dX5_good_12

/-! X5_stale -/
abbrev rmX5_stale : Room := { frames := 4, cells := 0, slots := 0, locals := 89 }
theorem hdS_X5_stale : yX5_stale.cls ≠ "java/lang/invoke/MethodHandle" ∧ yX5_stale.cls ≠ "java/lang/invoke/VarHandle" ∧ (parseMethodDescriptor yX5_stale.desc).map (fun d => d.parameters.length) = some 1 := by decide +kernel
theorem hdV_X5_stale : yX5_stale.cls = RX5 ∧ yX5_stale.cls ≠ "java/lang/invoke/MethodHandle" ∧ yX5_stale.cls ≠ "java/lang/invoke/VarHandle" ∧ (parseMethodDescriptor yX5_stale.desc).map (fun d => d.parameters.length) = some 1 := ⟨rfl, hdS_X5_stale⟩
set_option maxHeartbeats 4000000 in
set_option maxRecDepth 100000 in
theorem c_X5_stale (l : Launch) (E : G0) (a0 : Nat → Nat) (v0 : HS) (p1 : Int32) (x : Int32) (hf : f_X5_stale v0 p1 = some x) : Met l yX5_stale wsX5_stale rmX5_stale (va_Pc [.ref (a0 0), .int p1] (PR E (wHS E a0 v0))) (vp_Si (fun r => r = x)) 0 0 (fun _ => False) := by
  refine Met.ofW (cc := cX5_stale) (maxL := 4) (ret := some .int) (by decide) rfl ?_
  intro p e s m args below meth c s₁ B hml hv
  obtain ⟨ha, hP, hC⟩ := hv
  have hx := B.exec
  have hb := B.bytes
  have hr := B.returns
  have hts := atoms_spec (ws := wsX5_stale) B.pre
  have hown : s.vm.findClass RX5 = some m.cls := findClass_of_methodNamed B.named
  have hlocks := B.notSynchronized
  have hS : va_S (fun _ => False) s.heap s.heap [] := va_S.rf
  have w1 : (Cond.fieldLink RX5 30 "GreatChunks$House" "servers" "LGreatChunks$Servers;").before args s = true := hts _ (List.mem_of_getElem? (i := 1) rfl)
  have w2 : ∀ w ∈ wsX50, w ∈ wsX5_stale := in_pl 35 rfl
  have w3 : (Cond.fieldLink RX5 98 "GreatChunks$Servers" "many" "I").before args s = true := hts _ (List.mem_of_getElem? (i := 2) rfl)
  have w4 : ∀ w ∈ wsX80, w ∈ wsX5_stale := in_pl 44 rfl
  generalize hQe : MQ below (vp_Si (fun r => r = x)) args s 0 0 (fun _ => False) = Q
  refine st_W ha (Nat.le_of_ble_eq_true rfl) (fun ls hl => ?_)
  have hl : lv_has ls 4 [(0, .ref (a0 0)), (1, .int p1)] := hl
  unfold f_X5_stale at hf
  refine lv_iconst (v := 0) hx hb dX5_stale_0 rfl ?_
  refine lv_istore_n (lv' := [(2, .int (0 : Int32)), (0, .ref (a0 0)), (1, .int p1)]) hx hb dX5_stale_1 rfl hl (by decide) rfl (fun ls hl => ?_)
  refine lv_iconst (v := 0) hx hb dX5_stale_2 rfl ?_
  refine lv_istore_n (lv' := [(3, .int (0 : Int32)), (2, .int (0 : Int32)), (0, .ref (a0 0)), (1, .int p1)]) hx hb dX5_stale_3 rfl hl (by decide) rfl (fun ls hl => ?_)
  obtain ⟨K1, hK1, hf⟩ := jn_some hf
  have J1 : ∀ (q1 : Int32 × Int32) (ls : Array Slot) (hl : lv_has ls 4 [(2, .int q1.1)]) (hf : K1 q1 = some x), W p l e (headSpec wsX5_stale rmX5_stale).room s m args below meth c s.heap [] 0 0 Q (F0 m 40 ls []) := by
    intro q1 ls hl hf
    have hf := (hK1 q1).trans hf
    refine lv_iload_n hx hb dX5_stale_40 rfl (lv_at hl 0 rfl) ?_
    cases Option.some.inj hf
    subst hQe
    exact en_i hx hb hr hlocks dX5_stale_41
  have L1 : ∀ (n : Nat) (q1 : Int32 × Int32) (ls : Array Slot) (hl : lv_has ls 4 [(0, .ref (a0 0)), (1, .int p1), (2, .int q1.1), (3, .int q1.2)]) (hf : lpF (bX5_stale_1 v0 p1 K1) n q1 = some x), W p l e (headSpec wsX5_stale rmX5_stale).room s m args below meth c s.heap [] 0 0 Q (F0 m 4 ls []) := by
    intro n
    induction n with
    | zero => intro q1 ls hl hf; exact (lpF_zero hf).elim
    | succ n ih1 =>
      intro q1 ls hl hf
      have hf := lpF_succ hf
      unfold bX5_stale_1 at hf
      refine lv_iload_n hx hb dX5_stale_4 rfl (lv_at hl 3 rfl) ?_
      refine lv_aload_n hx hb dX5_stale_5 rfl (lv_at hl 0 rfl) ?_
      refine va_get (D := E.1) (ci := 4) (v := .ref (a0 1)) (C := RX5) (T := TX5) (N := 9) hx hb hts w2 hown hC.1 hP 0 rfl rfl 5 (by decide) w1 (fun _ h9 => h9) rfl dX5_stale_6 ?_
      refine va_get (D := E.1) (ci := 6) (v := .int v0.2.2.2.2.2.1.1) (C := RX8) (T := TX8) (N := 4) hx hb hts w4 hown hC.1 hP 1 rfl rfl 0 (by decide) w3 (fun _ h9 => h9) rfl dX5_stale_9 ?_
      refine lv_icmp_ge (tgt := 40) hx hb dX5_stale_12 rfl (fun c2 => ?_) (fun c2 => ?_)
      · have hf := it_t hf c2
        exact J1 (q1.1, q1.2) ls (lv_sub hl [2] rfl) hf
      · have hf := it_f hf c2
        refine lv_iload_n hx hb dX5_stale_15 rfl (lv_at hl 2 rfl) ?_
        refine lv_aload_n hx hb dX5_stale_16 rfl (lv_at hl 0 rfl) ?_
        refine lv_iload_n hx hb dX5_stale_17 rfl (lv_at hl 3 rfl) ?_
        refine lv_iload_n hx hb dX5_stale_18 rfl (lv_at hl 1 rfl) ?_
        obtain ⟨r3, e3, hf⟩ := bd_some hf
        refine cr_i (va_runV (As := [.int q1.2, .int p1]) (rest := [.int q1.1]) ⟨hx, hb, hml, hown, hts⟩ (c_X5_isStale l E a0 v0 q1.2 p1 r3 e3) (cwV 2 hts gX5_stale_X5_isStale rfl rfl rfl hdV_X5_isStale ⟨Nat.le_of_ble_eq_true rfl, Nat.le_of_ble_eq_true rfl⟩) ⟨PR.blind, va_recv hC.1 hP (ci := 4) (q0 := 0) rfl rfl, PR.pre hC hS hP⟩ rfl rfl hl.1 rfl (lv_room (Nat.le_of_ble_eq_true rfl)) dX5_stale_19 ⟨Nat.le_of_ble_eq_true rfl, Nat.le_of_ble_eq_true rfl⟩) ?_
        refine lv_if_eq (tgt := 31) hx hb dX5_stale_22 rfl (fun c4 => ?_) (fun c4 => ?_)
        · have hf := it_t hf c4
          refine lv_iconst (v := 0) hx hb dX5_stale_31 rfl ?_
          refine lv_ior hx hb dX5_stale_32 ?_
          refine lv_istore_n (lv' := [(2, .int (q1.1 ||| (0 : Int32))), (0, .ref (a0 0)), (1, .int p1), (3, .int q1.2)]) hx hb dX5_stale_33 rfl hl (by decide) rfl (fun ls hl => ?_)
          refine lv_iinc (v := (q1.2 + 1)) (lv' := [(3, .int (q1.2 + 1)), (2, .int (q1.1 ||| (0 : Int32))), (0, .ref (a0 0)), (1, .int p1)]) hx hb dX5_stale_34 hl (k := 3) rfl rfl (by decide) rfl (fun ls hl => ?_)
          refine lv_goto (tgt := 4) hx hb dX5_stale_37 rfl ?_
          exact ih1 ((q1.1 ||| (0 : Int32)), (q1.2 + 1)) ls (lv_sub hl [2, 3, 1, 0] rfl) hf
        · have hf := it_f hf c4
          refine lv_iconst (v := 1) hx hb dX5_stale_25 rfl ?_
          refine lv_iload_n hx hb dX5_stale_26 rfl (lv_at hl 3 rfl) ?_
          refine lv_ishl hx hb dX5_stale_27 ?_
          refine lv_goto (tgt := 32) hx hb dX5_stale_28 rfl ?_
          refine lv_ior hx hb dX5_stale_32 ?_
          refine lv_istore_n (lv' := [(2, .int (q1.1 ||| ((1 : Int32) <<< (q1.2 &&& 31)))), (0, .ref (a0 0)), (1, .int p1), (3, .int q1.2)]) hx hb dX5_stale_33 rfl hl (by decide) rfl (fun ls hl => ?_)
          refine lv_iinc (v := (q1.2 + 1)) (lv' := [(3, .int (q1.2 + 1)), (2, .int (q1.1 ||| ((1 : Int32) <<< (q1.2 &&& 31)))), (0, .ref (a0 0)), (1, .int p1)]) hx hb dX5_stale_34 hl (k := 3) rfl rfl (by decide) rfl (fun ls hl => ?_)
          refine lv_goto (tgt := 4) hx hb dX5_stale_37 rfl ?_
          exact ih1 ((q1.1 ||| ((1 : Int32) <<< (q1.2 &&& 31))), (q1.2 + 1)) ls (lv_sub hl [2, 3, 1, 0] rfl) hf
  exact L1 FU ((0 : Int32), (0 : Int32)) ls (lv_sub hl [2, 3, 1, 0] rfl) hf

/-! X5_able -/
abbrev rmX5_able : Room := { frames := 3, cells := 0, slots := 0, locals := 69 }
theorem hdS_X5_able : yX5_able.cls ≠ "java/lang/invoke/MethodHandle" ∧ yX5_able.cls ≠ "java/lang/invoke/VarHandle" ∧ (parseMethodDescriptor yX5_able.desc).map (fun d => d.parameters.length) = some 1 := by decide +kernel
theorem hdV_X5_able : yX5_able.cls = RX5 ∧ yX5_able.cls ≠ "java/lang/invoke/MethodHandle" ∧ yX5_able.cls ≠ "java/lang/invoke/VarHandle" ∧ (parseMethodDescriptor yX5_able.desc).map (fun d => d.parameters.length) = some 1 := ⟨rfl, hdS_X5_able⟩
set_option maxHeartbeats 4000000 in
set_option maxRecDepth 100000 in
theorem c_X5_able (l : Launch) (E : G0) (a0 : Nat → Nat) (v0 : HS) (p1 : Int32) (x : Int32) (hf : f_X5_able v0 p1 = some x) : Met l yX5_able wsX5_able rmX5_able (va_Pc [.ref (a0 0), .int p1] (PR E (wHS E a0 v0))) (vp_Si (fun r => r = x)) 0 0 (fun _ => False) := by
  refine Met.ofW (cc := cX5_able) (maxL := 2) (ret := some .int) (by decide) rfl ?_
  intro p e s m args below meth c s₁ B hml hv
  obtain ⟨ha, hP, hC⟩ := hv
  have hx := B.exec
  have hb := B.bytes
  have hr := B.returns
  have hts := atoms_spec (ws := wsX5_able) B.pre
  have hown : s.vm.findClass RX5 = some m.cls := findClass_of_methodNamed B.named
  have hlocks := B.notSynchronized
  have hS : va_S (fun _ => False) s.heap s.heap [] := va_S.rf
  have w1 : (Cond.fieldLink RX5 30 "GreatChunks$House" "servers" "LGreatChunks$Servers;").before args s = true := hts _ (List.mem_of_getElem? (i := 1) rfl)
  have w2 : ∀ w ∈ wsX50, w ∈ wsX5_able := in_pl 27 rfl
  have w3 : (Cond.fieldLink RX5 108 "GreatChunks$Servers" "upBits" "I").before args s = true := hts _ (List.mem_of_getElem? (i := 2) rfl)
  have w4 : ∀ w ∈ wsX80, w ∈ wsX5_able := in_pl 36 rfl
  generalize hQe : MQ below (vp_Si (fun r => r = x)) args s 0 0 (fun _ => False) = Q
  refine st_W ha (Nat.le_of_ble_eq_true rfl) (fun ls hl => ?_)
  have hl : lv_has ls 2 [(0, .ref (a0 0)), (1, .int p1)] := hl
  unfold f_X5_able at hf
  refine lv_aload_n hx hb dX5_able_0 rfl (lv_at hl 0 rfl) ?_
  refine lv_iload_n hx hb dX5_able_1 rfl (lv_at hl 1 rfl) ?_
  obtain ⟨r1, e1, hf⟩ := bd_some hf
  refine cr_i (va_runV (As := [.int p1]) (rest := []) ⟨hx, hb, hml, hown, hts⟩ (c_X5_good l E a0 v0 p1 r1 e1) (cwV 1 hts gX5_able_X5_good rfl rfl rfl hdV_X5_good ⟨Nat.le_of_ble_eq_true rfl, Nat.le_of_ble_eq_true rfl⟩) ⟨PR.blind, va_recv hC.1 hP (ci := 4) (q0 := 0) rfl rfl, PR.pre hC hS hP⟩ rfl rfl hl.1 rfl (lv_room (Nat.le_of_ble_eq_true rfl)) dX5_able_2 ⟨Nat.le_of_ble_eq_true rfl, Nat.le_of_ble_eq_true rfl⟩) ?_
  refine lv_aload_n hx hb dX5_able_5 rfl (lv_at hl 0 rfl) ?_
  refine va_get (D := E.1) (ci := 4) (v := .ref (a0 1)) (C := RX5) (T := TX5) (N := 9) hx hb hts w2 hown hC.1 hP 0 rfl rfl 5 (by decide) w1 (fun _ h9 => h9) rfl dX5_able_6 ?_
  refine va_get (D := E.1) (ci := 6) (v := .int v0.2.2.2.2.2.1.2.1) (C := RX8) (T := TX8) (N := 4) hx hb hts w4 hown hC.1 hP 1 rfl rfl 1 (by decide) w3 (fun _ h9 => h9) rfl dX5_able_9 ?_
  refine lv_iand hx hb dX5_able_12 ?_
  cases Option.some.inj hf
  subst hQe
  exact en_i hx hb hr hlocks dX5_able_13

/-! X5_load -/
abbrev rmX5_load : Room := { frames := 1, cells := 0, slots := 0, locals := 23 }
theorem hdS_X5_load : yX5_load.cls ≠ "java/lang/invoke/MethodHandle" ∧ yX5_load.cls ≠ "java/lang/invoke/VarHandle" ∧ (parseMethodDescriptor yX5_load.desc).map (fun d => d.parameters.length) = some 1 := by decide +kernel
theorem hdV_X5_load : yX5_load.cls = RX5 ∧ yX5_load.cls ≠ "java/lang/invoke/MethodHandle" ∧ yX5_load.cls ≠ "java/lang/invoke/VarHandle" ∧ (parseMethodDescriptor yX5_load.desc).map (fun d => d.parameters.length) = some 1 := ⟨rfl, hdS_X5_load⟩
set_option maxHeartbeats 4000000 in
set_option maxRecDepth 100000 in
theorem c_X5_load (l : Launch) (E : G0) (a0 : Nat → Nat) (v0 : HS) (p1 : Int32) (x : UInt32) (hf : f_X5_load v0 p1 = some x) : Met l yX5_load wsX5_load rmX5_load (va_Pc [.ref (a0 0), .int p1] (PR E (wHS E a0 v0))) (vp_Sf (fun r => r = x)) 0 0 (fun _ => False) := by
  refine Met.ofW (cc := cX5_load) (maxL := 2) (ret := some .float) (by decide) rfl ?_
  intro p e s m args below meth c s₁ B hml hv
  obtain ⟨ha, hP, hC⟩ := hv
  have hx := B.exec
  have hb := B.bytes
  have hr := B.returns
  have hts := atoms_spec (ws := wsX5_load) B.pre
  have hown : s.vm.findClass RX5 = some m.cls := findClass_of_methodNamed B.named
  have hlocks := B.notSynchronized
  have hS : va_S (fun _ => False) s.heap s.heap [] := va_S.rf
  have w1 : (Cond.fieldLink RX5 44 "GreatChunks$House" "copies" "LGreatChunks$Copies;").before args s = true := hts _ (List.mem_of_getElem? (i := 1) rfl)
  have w2 : ∀ w ∈ wsX50, w ∈ wsX5_load := in_pl 16 rfl
  have w3 : (Cond.fieldLink RX5 30 "GreatChunks$House" "servers" "LGreatChunks$Servers;").before args s = true := hts _ (List.mem_of_getElem? (i := 2) rfl)
  generalize hQe : MQ below (vp_Sf (fun r => r = x)) args s 0 0 (fun _ => False) = Q
  refine st_W ha (Nat.le_of_ble_eq_true rfl) (fun ls hl => ?_)
  have hl : lv_has ls 2 [(0, .ref (a0 0)), (1, .int p1)] := hl
  unfold f_X5_load at hf
  refine lv_aload_n hx hb dX5_load_0 rfl (lv_at hl 0 rfl) ?_
  refine va_get (D := E.1) (ci := 4) (v := .ref (a0 9)) (C := RX5) (T := TX5) (N := 9) hx hb hts w2 hown hC.1 hP 0 rfl rfl 7 (by decide) w1 (fun _ h9 => h9) rfl dX5_load_1 ?_
  refine lv_iload_n hx hb dX5_load_4 rfl (lv_at hl 1 rfl) ?_
  obtain ⟨r1, e1, hf⟩ := bd_some hf
  refine cr_i (va_runV (As := [.int p1]) (rest := []) ⟨hx, hb, hml, hown, hts⟩ (c_X2_manyAt l E (fun k => a0 (k + 9)) v0.2.2.2.2.2.2.2.1 p1 r1 e1) (cwV 1 hts gX5_load_X2_manyAt rfl rfl rfl hdV_X2_manyAt ⟨Nat.le_of_ble_eq_true rfl, Nat.le_of_ble_eq_true rfl⟩) ⟨PR.blind, va_recv hC.1 hP (ci := 2) (q0 := 9) rfl rfl, PR.pre hC hS (hP.sub [9, 10, 11, 12] rfl)⟩ rfl rfl hl.1 rfl (lv_room (Nat.le_of_ble_eq_true rfl)) dX5_load_5 ⟨Nat.le_of_ble_eq_true rfl, Nat.le_of_ble_eq_true rfl⟩) ?_
  refine lv_i2f hx hb dX5_load_8 ?_
  refine lv_aload_n hx hb dX5_load_9 rfl (lv_at hl 0 rfl) ?_
  refine va_get (D := E.1) (ci := 4) (v := .ref (a0 1)) (C := RX5) (T := TX5) (N := 9) hx hb hts w2 hown hC.1 hP 0 rfl rfl 5 (by decide) w3 (fun _ h9 => h9) rfl dX5_load_10 ?_
  refine lv_iload_n hx hb dX5_load_13 rfl (lv_at hl 1 rfl) ?_
  obtain ⟨r2, e2, hf⟩ := bd_some hf
  refine cr_i (va_runV (As := [.int p1]) (rest := [.float (FP.i2f r1)]) ⟨hx, hb, hml, hown, hts⟩ (c_X8_roomOf l E (fun k => a0 (k + 1)) v0.2.2.2.2.2.1 p1 r2 e2) (cwV 1 hts gX5_load_X8_roomOf rfl rfl rfl hdV_X8_roomOf ⟨Nat.le_of_ble_eq_true rfl, Nat.le_of_ble_eq_true rfl⟩) ⟨PR.blind, va_recv hC.1 hP (ci := 6) (q0 := 1) rfl rfl, PR.pre hC hS (hP.sub [1, 2, 3] rfl)⟩ rfl rfl hl.1 rfl (lv_room (Nat.le_of_ble_eq_true rfl)) dX5_load_14 ⟨Nat.le_of_ble_eq_true rfl, Nat.le_of_ble_eq_true rfl⟩) ?_
  refine lv_i2f hx hb dX5_load_17 ?_
  obtain ⟨h3, hf⟩ := gdF_some hf
  refine lv_fdiv hx hb dX5_load_18 h3 ?_
  cases Option.some.inj hf
  subst hQe
  exact en_f hx hb hr hlocks dX5_load_19

/-! X5_best -/
abbrev rmX5_best : Room := { frames := 2, cells := 0, slots := 0, locals := 44 }
theorem hdS_X5_best : yX5_best.cls ≠ "java/lang/invoke/MethodHandle" ∧ yX5_best.cls ≠ "java/lang/invoke/VarHandle" ∧ (parseMethodDescriptor yX5_best.desc).map (fun d => d.parameters.length) = some 1 := by decide +kernel
theorem hdV_X5_best : yX5_best.cls = RX5 ∧ yX5_best.cls ≠ "java/lang/invoke/MethodHandle" ∧ yX5_best.cls ≠ "java/lang/invoke/VarHandle" ∧ (parseMethodDescriptor yX5_best.desc).map (fun d => d.parameters.length) = some 1 := ⟨rfl, hdS_X5_best⟩
set_option maxHeartbeats 4000000 in
set_option maxRecDepth 100000 in
theorem c_X5_best (l : Launch) (E : G0) (a0 : Nat → Nat) (v0 : HS) (p1 : Int32) (x : Int32) (hf : f_X5_best v0 p1 = some x) : Met l yX5_best wsX5_best rmX5_best (va_Pc [.ref (a0 0), .int p1] (PR E (wHS E a0 v0))) (vp_Si (fun r => r = x)) 0 0 (fun _ => False) := by
  refine Met.ofW (cc := cX5_best) (maxL := 6) (ret := some .int) (by decide) rfl ?_
  intro p e s m args below meth c s₁ B hml hv
  obtain ⟨ha, hP, hC⟩ := hv
  have hx := B.exec
  have hb := B.bytes
  have hr := B.returns
  have hts := atoms_spec (ws := wsX5_best) B.pre
  have hown : s.vm.findClass RX5 = some m.cls := findClass_of_methodNamed B.named
  have hlocks := B.notSynchronized
  have hS : va_S (fun _ => False) s.heap s.heap [] := va_S.rf
  have w1 : (Cond.fieldLink RX5 30 "GreatChunks$House" "servers" "LGreatChunks$Servers;").before args s = true := hts _ (List.mem_of_getElem? (i := 1) rfl)
  have w2 : ∀ w ∈ wsX50, w ∈ wsX5_best := in_pl 25 rfl
  have w3 : (Cond.fieldLink RX5 98 "GreatChunks$Servers" "many" "I").before args s = true := hts _ (List.mem_of_getElem? (i := 2) rfl)
  have w4 : ∀ w ∈ wsX80, w ∈ wsX5_best := in_pl 34 rfl
  have w5 : (Cond.initialized RX10).before args s = true := hts _ (List.mem_of_getElem? (i := 4) rfl)
  have w6 : (Cond.static yX10_isIn).before args s = true := hts _ (List.mem_of_getElem? (i := 3) rfl)
  generalize hQe : MQ below (vp_Si (fun r => r = x)) args s 0 0 (fun _ => False) = Q
  refine st_W ha (Nat.le_of_ble_eq_true rfl) (fun ls hl => ?_)
  have hl : lv_has ls 6 [(0, .ref (a0 0)), (1, .int p1)] := hl
  unfold f_X5_best at hf
  refine lv_iconst (v := (-1)) hx hb dX5_best_0 rfl ?_
  refine lv_istore_n (lv' := [(2, .int (-1 : Int32)), (0, .ref (a0 0)), (1, .int p1)]) hx hb dX5_best_1 rfl hl (by decide) rfl (fun ls hl => ?_)
  refine lv_fconst0 hx hb dX5_best_2 ?_
  refine lv_fstore_n (lv' := [(3, .float FP.fconst0), (2, .int (-1 : Int32)), (0, .ref (a0 0)), (1, .int p1)]) hx hb dX5_best_3 rfl hl (by decide) rfl (fun ls hl => ?_)
  refine lv_iconst (v := 0) hx hb dX5_best_4 rfl ?_
  refine lv_istore (lv' := [(4, .int (0 : Int32)), (3, .float FP.fconst0), (2, .int (-1 : Int32)), (0, .ref (a0 0)), (1, .int p1)]) hx hb dX5_best_5 hl (by decide) rfl (fun ls hl => ?_)
  obtain ⟨K1, hK1, hf⟩ := jn_some hf
  have J1 : ∀ (q1 : Int32 × UInt32 × Int32) (ls : Array Slot) (hl : lv_has ls 6 [(2, .int q1.1)]) (hf : K1 q1 = some x), W p l e (headSpec wsX5_best rmX5_best).room s m args below meth c s.heap [] 0 0 Q (F0 m 60 ls []) := by
    intro q1 ls hl hf
    have hf := (hK1 q1).trans hf
    refine lv_iload_n hx hb dX5_best_60 rfl (lv_at hl 0 rfl) ?_
    cases Option.some.inj hf
    subst hQe
    exact en_i hx hb hr hlocks dX5_best_61
  have L1 : ∀ (n : Nat) (q1 : Int32 × UInt32 × Int32) (ls : Array Slot) (hl : lv_has ls 6 [(0, .ref (a0 0)), (1, .int p1), (2, .int q1.1), (3, .float q1.2.1), (4, .int q1.2.2)]) (hf : lpF (bX5_best_1 v0 p1 K1) n q1 = some x), W p l e (headSpec wsX5_best rmX5_best).room s m args below meth c s.heap [] 0 0 Q (F0 m 7 ls []) := by
    intro n
    induction n with
    | zero => intro q1 ls hl hf; exact (lpF_zero hf).elim
    | succ n ih1 =>
      intro q1 ls hl hf
      have hf := lpF_succ hf
      unfold bX5_best_1 at hf
      refine lv_iload hx hb dX5_best_7 (lv_at hl 4 rfl) ?_
      refine lv_aload_n hx hb dX5_best_9 rfl (lv_at hl 0 rfl) ?_
      refine va_get (D := E.1) (ci := 4) (v := .ref (a0 1)) (C := RX5) (T := TX5) (N := 9) hx hb hts w2 hown hC.1 hP 0 rfl rfl 5 (by decide) w1 (fun _ h9 => h9) rfl dX5_best_10 ?_
      refine va_get (D := E.1) (ci := 6) (v := .int v0.2.2.2.2.2.1.1) (C := RX8) (T := TX8) (N := 4) hx hb hts w4 hown hC.1 hP 1 rfl rfl 0 (by decide) w3 (fun _ h9 => h9) rfl dX5_best_13 ?_
      refine lv_icmp_ge (tgt := 60) hx hb dX5_best_16 rfl (fun c2 => ?_) (fun c2 => ?_)
      · have hf := it_t hf c2
        exact J1 (q1.1, q1.2.1, q1.2.2) ls (lv_sub hl [2] rfl) hf
      · have hf := it_f hf c2
        refine lv_iload_n hx hb dX5_best_19 rfl (lv_at hl 1 rfl) ?_
        refine lv_iload hx hb dX5_best_20 (lv_at hl 4 rfl) ?_
        refine cr_i (va_runSN (As := [.int p1, .int q1.2.2]) (rest := []) ⟨hx, hb, hml, hown, hts⟩ (c_X10_isIn l E p1 q1.2.2 _ rfl) ⟨va_cnB 2 hts gX5_best_X10_isIn_n117 rfl rfl rfl (hC.2.1 (RX5, 117, yX10_isIn, RX10) (List.mem_of_getElem? (i := 13) rfl)) w5 hdS_X10_isIn ⟨Nat.le_of_ble_eq_true rfl, Nat.le_of_ble_eq_true rfl⟩, w6, trivial⟩ ⟨PR.blind, PR.pre hC hS (hP.sub [] rfl)⟩ rfl rfl hl.1 rfl (lv_room (Nat.le_of_ble_eq_true rfl)) dX5_best_22 ⟨Nat.le_of_ble_eq_true rfl, Nat.le_of_ble_eq_true rfl⟩) ?_
        refine lv_if_eq (tgt := 54) hx hb dX5_best_25 rfl (fun c3 => ?_) (fun c3 => ?_)
        · have hf := it_t hf c3
          refine lv_iinc (v := (q1.2.2 + 1)) (lv' := [(4, .int (q1.2.2 + 1)), (0, .ref (a0 0)), (1, .int p1), (2, .int q1.1), (3, .float q1.2.1)]) hx hb dX5_best_54 hl (k := 4) rfl rfl (by decide) rfl (fun ls hl => ?_)
          refine lv_goto (tgt := 7) hx hb dX5_best_57 rfl ?_
          exact ih1 (q1.1, q1.2.1, (q1.2.2 + 1)) ls (lv_sub hl [1, 2, 3, 4, 0] rfl) hf
        · have hf := it_f hf c3
          refine lv_aload_n hx hb dX5_best_28 rfl (lv_at hl 0 rfl) ?_
          refine lv_iload hx hb dX5_best_29 (lv_at hl 4 rfl) ?_
          obtain ⟨r4, e4, hf⟩ := bd_some hf
          refine cr_f (va_runV (As := [.int q1.2.2]) (rest := []) ⟨hx, hb, hml, hown, hts⟩ (c_X5_load l E a0 v0 q1.2.2 r4 e4) (cwV 1 hts gX5_best_X5_load rfl rfl rfl hdV_X5_load ⟨Nat.le_of_ble_eq_true rfl, Nat.le_of_ble_eq_true rfl⟩) ⟨PR.blind, va_recv hC.1 hP (ci := 4) (q0 := 0) rfl rfl, PR.pre hC hS hP⟩ rfl rfl hl.1 rfl (lv_room (Nat.le_of_ble_eq_true rfl)) dX5_best_31 ⟨Nat.le_of_ble_eq_true rfl, Nat.le_of_ble_eq_true rfl⟩) ?_
          refine lv_fstore (lv' := [(5, .float r4), (0, .ref (a0 0)), (1, .int p1), (2, .int q1.1), (3, .float q1.2.1), (4, .int q1.2.2)]) hx hb dX5_best_34 hl (by decide) rfl (fun ls hl => ?_)
          refine lv_iload_n hx hb dX5_best_36 rfl (lv_at hl 3 rfl) ?_
          refine lv_iconst (v := (-1)) hx hb dX5_best_37 rfl ?_
          refine lv_icmp_eq (tgt := 48) hx hb dX5_best_38 rfl (fun c5 => ?_) (fun c5 => ?_)
          · have hf := it_t hf c5
            refine lv_iload hx hb dX5_best_48 (lv_at hl 5 rfl) ?_
            refine lv_istore_n (lv' := [(2, .int q1.2.2), (5, .float r4), (0, .ref (a0 0)), (1, .int p1), (3, .float q1.2.1), (4, .int q1.2.2)]) hx hb dX5_best_50 rfl hl (by decide) rfl (fun ls hl => ?_)
            refine lv_fload hx hb dX5_best_51 (lv_at hl 1 rfl) ?_
            refine lv_fstore_n (lv' := [(3, .float r4), (2, .int q1.2.2), (5, .float r4), (0, .ref (a0 0)), (1, .int p1), (4, .int q1.2.2)]) hx hb dX5_best_53 rfl hl (by decide) rfl (fun ls hl => ?_)
            refine lv_iinc (v := (q1.2.2 + 1)) (lv' := [(4, .int (q1.2.2 + 1)), (3, .float r4), (2, .int q1.2.2), (5, .float r4), (0, .ref (a0 0)), (1, .int p1)]) hx hb dX5_best_54 hl (k := 5) rfl rfl (by decide) rfl (fun ls hl => ?_)
            refine lv_goto (tgt := 7) hx hb dX5_best_57 rfl ?_
            exact ih1 (q1.2.2, r4, (q1.2.2 + 1)) ls (lv_sub hl [4, 5, 2, 1, 0] rfl) hf
          · have hf := it_f hf c5
            refine lv_fload hx hb dX5_best_41 (lv_at hl 0 rfl) ?_
            refine lv_fload_n hx hb dX5_best_43 rfl (lv_at hl 4 rfl) ?_
            refine lv_fcmp hx hb dX5_best_44 ?_
            refine lv_if_ge (tgt := 54) hx hb dX5_best_45 rfl (fun c6 => ?_) (fun c6 => ?_)
            · have hf := it_t hf c6
              refine lv_iinc (v := (q1.2.2 + 1)) (lv' := [(4, .int (q1.2.2 + 1)), (5, .float r4), (0, .ref (a0 0)), (1, .int p1), (2, .int q1.1), (3, .float q1.2.1)]) hx hb dX5_best_54 hl (k := 5) rfl rfl (by decide) rfl (fun ls hl => ?_)
              refine lv_goto (tgt := 7) hx hb dX5_best_57 rfl ?_
              exact ih1 (q1.1, q1.2.1, (q1.2.2 + 1)) ls (lv_sub hl [2, 3, 4, 5, 0] rfl) hf
            · have hf := it_f hf c6
              refine lv_iload hx hb dX5_best_48 (lv_at hl 5 rfl) ?_
              refine lv_istore_n (lv' := [(2, .int q1.2.2), (5, .float r4), (0, .ref (a0 0)), (1, .int p1), (3, .float q1.2.1), (4, .int q1.2.2)]) hx hb dX5_best_50 rfl hl (by decide) rfl (fun ls hl => ?_)
              refine lv_fload hx hb dX5_best_51 (lv_at hl 1 rfl) ?_
              refine lv_fstore_n (lv' := [(3, .float r4), (2, .int q1.2.2), (5, .float r4), (0, .ref (a0 0)), (1, .int p1), (4, .int q1.2.2)]) hx hb dX5_best_53 rfl hl (by decide) rfl (fun ls hl => ?_)
              refine lv_iinc (v := (q1.2.2 + 1)) (lv' := [(4, .int (q1.2.2 + 1)), (3, .float r4), (2, .int q1.2.2), (5, .float r4), (0, .ref (a0 0)), (1, .int p1)]) hx hb dX5_best_54 hl (k := 5) rfl rfl (by decide) rfl (fun ls hl => ?_)
              refine lv_goto (tgt := 7) hx hb dX5_best_57 rfl ?_
              exact ih1 (q1.2.2, r4, (q1.2.2 + 1)) ls (lv_sub hl [4, 5, 2, 1, 0] rfl) hf
  exact L1 FU ((-1 : Int32), FP.fconst0, (0 : Int32)) ls (lv_sub hl [3, 4, 2, 1, 0] rfl) hf

/-! X5_first -/
abbrev rmX5_first : Room := { frames := 1, cells := 0, slots := 0, locals := 21 }
theorem hdS_X5_first : yX5_first.cls ≠ "java/lang/invoke/MethodHandle" ∧ yX5_first.cls ≠ "java/lang/invoke/VarHandle" ∧ (parseMethodDescriptor yX5_first.desc).map (fun d => d.parameters.length) = some 1 := by decide +kernel
theorem hdV_X5_first : yX5_first.cls = RX5 ∧ yX5_first.cls ≠ "java/lang/invoke/MethodHandle" ∧ yX5_first.cls ≠ "java/lang/invoke/VarHandle" ∧ (parseMethodDescriptor yX5_first.desc).map (fun d => d.parameters.length) = some 1 := ⟨rfl, hdS_X5_first⟩
set_option maxHeartbeats 4000000 in
set_option maxRecDepth 100000 in
theorem c_X5_first (l : Launch) (E : G0) (a0 : Nat → Nat) (v0 : HS) (p1 : Int32) (x : Int32) (hf : f_X5_first v0 p1 = some x) : Met l yX5_first wsX5_first rmX5_first (va_Pc [.ref (a0 0), .int p1] (PR E (wHS E a0 v0))) (vp_Si (fun r => r = x)) 0 0 (fun _ => False) := by
  refine Met.ofW (cc := cX5_first) (maxL := 3) (ret := some .int) (by decide) rfl ?_
  intro p e s m args below meth c s₁ B hml hv
  obtain ⟨ha, hP, hC⟩ := hv
  have hx := B.exec
  have hb := B.bytes
  have hr := B.returns
  have hts := atoms_spec (ws := wsX5_first) B.pre
  have hown : s.vm.findClass RX5 = some m.cls := findClass_of_methodNamed B.named
  have hlocks := B.notSynchronized
  have hS : va_S (fun _ => False) s.heap s.heap [] := va_S.rf
  have w1 : (Cond.fieldLink RX5 30 "GreatChunks$House" "servers" "LGreatChunks$Servers;").before args s = true := hts _ (List.mem_of_getElem? (i := 1) rfl)
  have w2 : ∀ w ∈ wsX50, w ∈ wsX5_first := in_pl 6 rfl
  have w3 : (Cond.fieldLink RX5 98 "GreatChunks$Servers" "many" "I").before args s = true := hts _ (List.mem_of_getElem? (i := 2) rfl)
  have w4 : ∀ w ∈ wsX80, w ∈ wsX5_first := in_pl 15 rfl
  have w5 : (Cond.initialized RX10).before args s = true := hts _ (List.mem_of_getElem? (i := 4) rfl)
  have w6 : (Cond.static yX10_isIn).before args s = true := hts _ (List.mem_of_getElem? (i := 3) rfl)
  generalize hQe : MQ below (vp_Si (fun r => r = x)) args s 0 0 (fun _ => False) = Q
  refine st_W ha (Nat.le_of_ble_eq_true rfl) (fun ls hl => ?_)
  have hl : lv_has ls 3 [(0, .ref (a0 0)), (1, .int p1)] := hl
  unfold f_X5_first at hf
  refine lv_iconst (v := 0) hx hb dX5_first_0 rfl ?_
  refine lv_istore_n (lv' := [(2, .int (0 : Int32)), (0, .ref (a0 0)), (1, .int p1)]) hx hb dX5_first_1 rfl hl (by decide) rfl (fun ls hl => ?_)
  obtain ⟨K1, hK1, hf⟩ := jn_some hf
  have J1 : ∀ (q1 : Int32) (ls : Array Slot) (hl : lv_has ls 3 []) (hf : K1 q1 = some x), W p l e (headSpec wsX5_first rmX5_first).room s m args below meth c s.heap [] 0 0 Q (F0 m 29 ls []) := by
    intro q1 ls hl hf
    have hf := (hK1 q1).trans hf
    refine lv_iconst (v := (-1)) hx hb dX5_first_29 rfl ?_
    cases Option.some.inj hf
    subst hQe
    exact en_i hx hb hr hlocks dX5_first_30
  have L1 : ∀ (n : Nat) (q1 : Int32) (ls : Array Slot) (hl : lv_has ls 3 [(0, .ref (a0 0)), (1, .int p1), (2, .int q1)]) (hf : lpF (bX5_first_1 v0 p1 K1) n q1 = some x), W p l e (headSpec wsX5_first rmX5_first).room s m args below meth c s.heap [] 0 0 Q (F0 m 2 ls []) := by
    intro n
    induction n with
    | zero => intro q1 ls hl hf; exact (lpF_zero hf).elim
    | succ n ih1 =>
      intro q1 ls hl hf
      have hf := lpF_succ hf
      unfold bX5_first_1 at hf
      refine lv_iload_n hx hb dX5_first_2 rfl (lv_at hl 2 rfl) ?_
      refine lv_aload_n hx hb dX5_first_3 rfl (lv_at hl 0 rfl) ?_
      refine va_get (D := E.1) (ci := 4) (v := .ref (a0 1)) (C := RX5) (T := TX5) (N := 9) hx hb hts w2 hown hC.1 hP 0 rfl rfl 5 (by decide) w1 (fun _ h9 => h9) rfl dX5_first_4 ?_
      refine va_get (D := E.1) (ci := 6) (v := .int v0.2.2.2.2.2.1.1) (C := RX8) (T := TX8) (N := 4) hx hb hts w4 hown hC.1 hP 1 rfl rfl 0 (by decide) w3 (fun _ h9 => h9) rfl dX5_first_7 ?_
      refine lv_icmp_ge (tgt := 29) hx hb dX5_first_10 rfl (fun c2 => ?_) (fun c2 => ?_)
      · have hf := it_t hf c2
        exact J1 q1 ls (lv_sub hl [] rfl) hf
      · have hf := it_f hf c2
        refine lv_iload_n hx hb dX5_first_13 rfl (lv_at hl 1 rfl) ?_
        refine lv_iload_n hx hb dX5_first_14 rfl (lv_at hl 2 rfl) ?_
        refine cr_i (va_runSN (As := [.int p1, .int q1]) (rest := []) ⟨hx, hb, hml, hown, hts⟩ (c_X10_isIn l E p1 q1 _ rfl) ⟨va_cnB 2 hts gX5_first_X10_isIn_n117 rfl rfl rfl (hC.2.1 (RX5, 117, yX10_isIn, RX10) (List.mem_of_getElem? (i := 13) rfl)) w5 hdS_X10_isIn ⟨Nat.le_of_ble_eq_true rfl, Nat.le_of_ble_eq_true rfl⟩, w6, trivial⟩ ⟨PR.blind, PR.pre hC hS (hP.sub [] rfl)⟩ rfl rfl hl.1 rfl (lv_room (Nat.le_of_ble_eq_true rfl)) dX5_first_15 ⟨Nat.le_of_ble_eq_true rfl, Nat.le_of_ble_eq_true rfl⟩) ?_
        refine lv_if_eq (tgt := 23) hx hb dX5_first_18 rfl (fun c3 => ?_) (fun c3 => ?_)
        · have hf := it_t hf c3
          refine lv_iinc (v := (q1 + 1)) (lv' := [(2, .int (q1 + 1)), (0, .ref (a0 0)), (1, .int p1)]) hx hb dX5_first_23 hl (k := 2) rfl rfl (by decide) rfl (fun ls hl => ?_)
          refine lv_goto (tgt := 2) hx hb dX5_first_26 rfl ?_
          exact ih1 (q1 + 1) ls (lv_sub hl [1, 2, 0] rfl) hf
        · have hf := it_f hf c3
          refine lv_iload_n hx hb dX5_first_21 rfl (lv_at hl 2 rfl) ?_
          cases Option.some.inj hf
          subst hQe
          exact en_i hx hb hr hlocks dX5_first_22
  exact L1 FU (0 : Int32) ls (lv_sub hl [1, 2, 0] rfl) hf

/-! X5_staleAt -/
abbrev rmX5_staleAt : Room := { frames := 4, cells := 0, slots := 0, locals := 89 }
theorem hdS_X5_staleAt : yX5_staleAt.cls ≠ "java/lang/invoke/MethodHandle" ∧ yX5_staleAt.cls ≠ "java/lang/invoke/VarHandle" ∧ (parseMethodDescriptor yX5_staleAt.desc).map (fun d => d.parameters.length) = some 1 := by decide +kernel
theorem hdV_X5_staleAt : yX5_staleAt.cls = RX5 ∧ yX5_staleAt.cls ≠ "java/lang/invoke/MethodHandle" ∧ yX5_staleAt.cls ≠ "java/lang/invoke/VarHandle" ∧ (parseMethodDescriptor yX5_staleAt.desc).map (fun d => d.parameters.length) = some 1 := ⟨rfl, hdS_X5_staleAt⟩
set_option maxHeartbeats 4000000 in
set_option maxRecDepth 100000 in
theorem c_X5_staleAt (l : Launch) (E : G0) (a0 : Nat → Nat) (v0 : HS) (p1 : Int32) (x : Int32) (hf : f_X5_staleAt v0 p1 = some x) : Met l yX5_staleAt wsX5_staleAt rmX5_staleAt (va_Pc [.ref (a0 0), .int p1] (PR E (wHS E a0 v0))) (vp_Si (fun r => r = x)) 0 0 (fun _ => False) := by
  refine Met.ofW (cc := cX5_staleAt) (maxL := 4) (ret := some .int) (by decide) rfl ?_
  intro p e s m args below meth c s₁ B hml hv
  obtain ⟨ha, hP, hC⟩ := hv
  have hx := B.exec
  have hb := B.bytes
  have hr := B.returns
  have hts := atoms_spec (ws := wsX5_staleAt) B.pre
  have hown : s.vm.findClass RX5 = some m.cls := findClass_of_methodNamed B.named
  have hlocks := B.notSynchronized
  have hS : va_S (fun _ => False) s.heap s.heap [] := va_S.rf
  have w1 : (Cond.fieldLink RX5 37 "GreatChunks$House" "chunks" "LGreatChunks$Chunks;").before args s = true := hts _ (List.mem_of_getElem? (i := 1) rfl)
  have w2 : ∀ w ∈ wsX50, w ∈ wsX5_staleAt := in_pl 34 rfl
  have w3 : (Cond.fieldLink RX5 59 "GreatChunks$Chunks" "made" "I").before args s = true := hts _ (List.mem_of_getElem? (i := 2) rfl)
  have w4 : ∀ w ∈ wsX10, w ∈ wsX5_staleAt := in_pl 43 rfl
  generalize hQe : MQ below (vp_Si (fun r => r = x)) args s 0 0 (fun _ => False) = Q
  refine st_W ha (Nat.le_of_ble_eq_true rfl) (fun ls hl => ?_)
  have hl : lv_has ls 4 [(0, .ref (a0 0)), (1, .int p1)] := hl
  unfold f_X5_staleAt at hf
  refine lv_iconst (v := 0) hx hb dX5_staleAt_0 rfl ?_
  refine lv_istore_n (lv' := [(2, .int (0 : Int32)), (0, .ref (a0 0)), (1, .int p1)]) hx hb dX5_staleAt_1 rfl hl (by decide) rfl (fun ls hl => ?_)
  refine lv_iconst (v := 0) hx hb dX5_staleAt_2 rfl ?_
  refine lv_istore_n (lv' := [(3, .int (0 : Int32)), (2, .int (0 : Int32)), (0, .ref (a0 0)), (1, .int p1)]) hx hb dX5_staleAt_3 rfl hl (by decide) rfl (fun ls hl => ?_)
  obtain ⟨K1, hK1, hf⟩ := jn_some hf
  have J1 : ∀ (q1 : Int32 × Int32) (ls : Array Slot) (hl : lv_has ls 4 [(2, .int q1.1)]) (hf : K1 q1 = some x), W p l e (headSpec wsX5_staleAt rmX5_staleAt).room s m args below meth c s.heap [] 0 0 Q (F0 m 38 ls []) := by
    intro q1 ls hl hf
    have hf := (hK1 q1).trans hf
    refine lv_iload_n hx hb dX5_staleAt_38 rfl (lv_at hl 0 rfl) ?_
    cases Option.some.inj hf
    subst hQe
    exact en_i hx hb hr hlocks dX5_staleAt_39
  have L1 : ∀ (n : Nat) (q1 : Int32 × Int32) (ls : Array Slot) (hl : lv_has ls 4 [(0, .ref (a0 0)), (1, .int p1), (2, .int q1.1), (3, .int q1.2)]) (hf : lpF (bX5_staleAt_1 v0 p1 K1) n q1 = some x), W p l e (headSpec wsX5_staleAt rmX5_staleAt).room s m args below meth c s.heap [] 0 0 Q (F0 m 4 ls []) := by
    intro n
    induction n with
    | zero => intro q1 ls hl hf; exact (lpF_zero hf).elim
    | succ n ih1 =>
      intro q1 ls hl hf
      have hf := lpF_succ hf
      unfold bX5_staleAt_1 at hf
      refine lv_iload_n hx hb dX5_staleAt_4 rfl (lv_at hl 3 rfl) ?_
      refine lv_aload_n hx hb dX5_staleAt_5 rfl (lv_at hl 0 rfl) ?_
      refine va_get (D := E.1) (ci := 4) (v := .ref (a0 4)) (C := RX5) (T := TX5) (N := 9) hx hb hts w2 hown hC.1 hP 0 rfl rfl 6 (by decide) w1 (fun _ h9 => h9) rfl dX5_staleAt_6 ?_
      refine va_get (D := E.1) (ci := 1) (v := .int v0.2.2.2.2.2.2.1.1) (C := RX1) (T := TX1) (N := 5) hx hb hts w4 hown hC.1 hP 4 rfl rfl 0 (by decide) w3 (fun _ h9 => h9) rfl dX5_staleAt_9 ?_
      refine lv_icmp_ge (tgt := 38) hx hb dX5_staleAt_12 rfl (fun c2 => ?_) (fun c2 => ?_)
      · have hf := it_t hf c2
        exact J1 (q1.1, q1.2) ls (lv_sub hl [2] rfl) hf
      · have hf := it_f hf c2
        refine lv_iload_n hx hb dX5_staleAt_15 rfl (lv_at hl 2 rfl) ?_
        refine lv_aload_n hx hb dX5_staleAt_16 rfl (lv_at hl 0 rfl) ?_
        refine lv_iload_n hx hb dX5_staleAt_17 rfl (lv_at hl 1 rfl) ?_
        refine lv_iload_n hx hb dX5_staleAt_18 rfl (lv_at hl 3 rfl) ?_
        obtain ⟨r3, e3, hf⟩ := bd_some hf
        refine cr_i (va_runV (As := [.int p1, .int q1.2]) (rest := [.int q1.1]) ⟨hx, hb, hml, hown, hts⟩ (c_X5_isStale l E a0 v0 p1 q1.2 r3 e3) (cwV 2 hts gX5_staleAt_X5_isStale rfl rfl rfl hdV_X5_isStale ⟨Nat.le_of_ble_eq_true rfl, Nat.le_of_ble_eq_true rfl⟩) ⟨PR.blind, va_recv hC.1 hP (ci := 4) (q0 := 0) rfl rfl, PR.pre hC hS hP⟩ rfl rfl hl.1 rfl (lv_room (Nat.le_of_ble_eq_true rfl)) dX5_staleAt_19 ⟨Nat.le_of_ble_eq_true rfl, Nat.le_of_ble_eq_true rfl⟩) ?_
        refine lv_if_eq (tgt := 29) hx hb dX5_staleAt_22 rfl (fun c4 => ?_) (fun c4 => ?_)
        · have hf := it_t hf c4
          refine lv_iconst (v := 0) hx hb dX5_staleAt_29 rfl ?_
          refine lv_iadd hx hb dX5_staleAt_30 ?_
          refine lv_istore_n (lv' := [(2, .int (q1.1 + (0 : Int32))), (0, .ref (a0 0)), (1, .int p1), (3, .int q1.2)]) hx hb dX5_staleAt_31 rfl hl (by decide) rfl (fun ls hl => ?_)
          refine lv_iinc (v := (q1.2 + 1)) (lv' := [(3, .int (q1.2 + 1)), (2, .int (q1.1 + (0 : Int32))), (0, .ref (a0 0)), (1, .int p1)]) hx hb dX5_staleAt_32 hl (k := 3) rfl rfl (by decide) rfl (fun ls hl => ?_)
          refine lv_goto (tgt := 4) hx hb dX5_staleAt_35 rfl ?_
          exact ih1 ((q1.1 + (0 : Int32)), (q1.2 + 1)) ls (lv_sub hl [2, 3, 1, 0] rfl) hf
        · have hf := it_f hf c4
          refine lv_iconst (v := 1) hx hb dX5_staleAt_25 rfl ?_
          refine lv_goto (tgt := 30) hx hb dX5_staleAt_26 rfl ?_
          refine lv_iadd hx hb dX5_staleAt_30 ?_
          refine lv_istore_n (lv' := [(2, .int (q1.1 + (1 : Int32))), (0, .ref (a0 0)), (1, .int p1), (3, .int q1.2)]) hx hb dX5_staleAt_31 rfl hl (by decide) rfl (fun ls hl => ?_)
          refine lv_iinc (v := (q1.2 + 1)) (lv' := [(3, .int (q1.2 + 1)), (2, .int (q1.1 + (1 : Int32))), (0, .ref (a0 0)), (1, .int p1)]) hx hb dX5_staleAt_32 hl (k := 3) rfl rfl (by decide) rfl (fun ls hl => ?_)
          refine lv_goto (tgt := 4) hx hb dX5_staleAt_35 rfl ?_
          exact ih1 ((q1.1 + (1 : Int32)), (q1.2 + 1)) ls (lv_sub hl [2, 3, 1, 0] rfl) hf
  exact L1 FU ((0 : Int32), (0 : Int32)) ls (lv_sub hl [2, 3, 1, 0] rfl) hf

/-! X5_forgottenAt -/
abbrev rmX5_forgottenAt : Room := { frames := 3, cells := 0, slots := 0, locals := 67 }
theorem hdS_X5_forgottenAt : yX5_forgottenAt.cls ≠ "java/lang/invoke/MethodHandle" ∧ yX5_forgottenAt.cls ≠ "java/lang/invoke/VarHandle" ∧ (parseMethodDescriptor yX5_forgottenAt.desc).map (fun d => d.parameters.length) = some 1 := by decide +kernel
theorem hdV_X5_forgottenAt : yX5_forgottenAt.cls = RX5 ∧ yX5_forgottenAt.cls ≠ "java/lang/invoke/MethodHandle" ∧ yX5_forgottenAt.cls ≠ "java/lang/invoke/VarHandle" ∧ (parseMethodDescriptor yX5_forgottenAt.desc).map (fun d => d.parameters.length) = some 1 := ⟨rfl, hdS_X5_forgottenAt⟩
set_option maxHeartbeats 4000000 in
set_option maxRecDepth 100000 in
theorem c_X5_forgottenAt (l : Launch) (E : G0) (a0 : Nat → Nat) (v0 : HS) (p1 : Int32) (x : Int32) (hf : f_X5_forgottenAt v0 p1 = some x) : Met l yX5_forgottenAt wsX5_forgottenAt rmX5_forgottenAt (va_Pc [.ref (a0 0), .int p1] (PR E (wHS E a0 v0))) (vp_Si (fun r => r = x)) 0 0 (fun _ => False) := by
  refine Met.ofW (cc := cX5_forgottenAt) (maxL := 4) (ret := some .int) (by decide) rfl ?_
  intro p e s m args below meth c s₁ B hml hv
  obtain ⟨ha, hP, hC⟩ := hv
  have hx := B.exec
  have hb := B.bytes
  have hr := B.returns
  have hts := atoms_spec (ws := wsX5_forgottenAt) B.pre
  have hown : s.vm.findClass RX5 = some m.cls := findClass_of_methodNamed B.named
  have hlocks := B.notSynchronized
  have hS : va_S (fun _ => False) s.heap s.heap [] := va_S.rf
  have w1 : (Cond.fieldLink RX5 37 "GreatChunks$House" "chunks" "LGreatChunks$Chunks;").before args s = true := hts _ (List.mem_of_getElem? (i := 1) rfl)
  have w2 : ∀ w ∈ wsX50, w ∈ wsX5_forgottenAt := in_pl 28 rfl
  have w3 : (Cond.fieldLink RX5 59 "GreatChunks$Chunks" "made" "I").before args s = true := hts _ (List.mem_of_getElem? (i := 2) rfl)
  have w4 : ∀ w ∈ wsX10, w ∈ wsX5_forgottenAt := in_pl 37 rfl
  have w5 : (Cond.fieldLink RX5 44 "GreatChunks$House" "copies" "LGreatChunks$Copies;").before args s = true := hts _ (List.mem_of_getElem? (i := 3) rfl)
  generalize hQe : MQ below (vp_Si (fun r => r = x)) args s 0 0 (fun _ => False) = Q
  refine st_W ha (Nat.le_of_ble_eq_true rfl) (fun ls hl => ?_)
  have hl : lv_has ls 4 [(0, .ref (a0 0)), (1, .int p1)] := hl
  unfold f_X5_forgottenAt at hf
  refine lv_iconst (v := 0) hx hb dX5_forgottenAt_0 rfl ?_
  refine lv_istore_n (lv' := [(2, .int (0 : Int32)), (0, .ref (a0 0)), (1, .int p1)]) hx hb dX5_forgottenAt_1 rfl hl (by decide) rfl (fun ls hl => ?_)
  refine lv_iconst (v := 0) hx hb dX5_forgottenAt_2 rfl ?_
  refine lv_istore_n (lv' := [(3, .int (0 : Int32)), (2, .int (0 : Int32)), (0, .ref (a0 0)), (1, .int p1)]) hx hb dX5_forgottenAt_3 rfl hl (by decide) rfl (fun ls hl => ?_)
  obtain ⟨K1, hK1, hf⟩ := jn_some hf
  have J1 : ∀ (q1 : Int32 × Int32) (ls : Array Slot) (hl : lv_has ls 4 [(2, .int q1.1)]) (hf : K1 q1 = some x), W p l e (headSpec wsX5_forgottenAt rmX5_forgottenAt).room s m args below meth c s.heap [] 0 0 Q (F0 m 52 ls []) := by
    intro q1 ls hl hf
    have hf := (hK1 q1).trans hf
    refine lv_iload_n hx hb dX5_forgottenAt_52 rfl (lv_at hl 0 rfl) ?_
    cases Option.some.inj hf
    subst hQe
    exact en_i hx hb hr hlocks dX5_forgottenAt_53
  have L1 : ∀ (n : Nat) (q1 : Int32 × Int32) (ls : Array Slot) (hl : lv_has ls 4 [(0, .ref (a0 0)), (1, .int p1), (2, .int q1.1), (3, .int q1.2)]) (hf : lpF (bX5_forgottenAt_1 v0 p1 K1) n q1 = some x), W p l e (headSpec wsX5_forgottenAt rmX5_forgottenAt).room s m args below meth c s.heap [] 0 0 Q (F0 m 4 ls []) := by
    intro n
    induction n with
    | zero => intro q1 ls hl hf; exact (lpF_zero hf).elim
    | succ n ih1 =>
      intro q1 ls hl hf
      have hf := lpF_succ hf
      unfold bX5_forgottenAt_1 at hf
      refine lv_iload_n hx hb dX5_forgottenAt_4 rfl (lv_at hl 3 rfl) ?_
      refine lv_aload_n hx hb dX5_forgottenAt_5 rfl (lv_at hl 0 rfl) ?_
      refine va_get (D := E.1) (ci := 4) (v := .ref (a0 4)) (C := RX5) (T := TX5) (N := 9) hx hb hts w2 hown hC.1 hP 0 rfl rfl 6 (by decide) w1 (fun _ h9 => h9) rfl dX5_forgottenAt_6 ?_
      refine va_get (D := E.1) (ci := 1) (v := .int v0.2.2.2.2.2.2.1.1) (C := RX1) (T := TX1) (N := 5) hx hb hts w4 hown hC.1 hP 4 rfl rfl 0 (by decide) w3 (fun _ h9 => h9) rfl dX5_forgottenAt_9 ?_
      refine lv_icmp_ge (tgt := 52) hx hb dX5_forgottenAt_12 rfl (fun c2 => ?_) (fun c2 => ?_)
      · have hf := it_t hf c2
        exact J1 (q1.1, q1.2) ls (lv_sub hl [2] rfl) hf
      · have hf := it_f hf c2
        refine lv_iload_n hx hb dX5_forgottenAt_15 rfl (lv_at hl 2 rfl) ?_
        refine lv_aload_n hx hb dX5_forgottenAt_16 rfl (lv_at hl 0 rfl) ?_
        refine va_get (D := E.1) (ci := 4) (v := .ref (a0 9)) (C := RX5) (T := TX5) (N := 9) hx hb hts w2 hown hC.1 hP 0 rfl rfl 7 (by decide) w5 (fun _ h9 => h9) rfl dX5_forgottenAt_17 ?_
        refine lv_iload_n hx hb dX5_forgottenAt_20 rfl (lv_at hl 1 rfl) ?_
        refine lv_iload_n hx hb dX5_forgottenAt_21 rfl (lv_at hl 3 rfl) ?_
        obtain ⟨r3, e3, hf⟩ := bd_some hf
        refine cr_i (va_runV (As := [.int p1, .int q1.2]) (rest := [.int q1.1]) ⟨hx, hb, hml, hown, hts⟩ (c_X2_lies l E (fun k => a0 (k + 9)) v0.2.2.2.2.2.2.2.1 p1 q1.2 r3 e3) (cwV 2 hts gX5_forgottenAt_X2_lies rfl rfl rfl hdV_X2_lies ⟨Nat.le_of_ble_eq_true rfl, Nat.le_of_ble_eq_true rfl⟩) ⟨PR.blind, va_recv hC.1 hP (ci := 2) (q0 := 9) rfl rfl, PR.pre hC hS (hP.sub [9, 10, 11, 12] rfl)⟩ rfl rfl hl.1 rfl (lv_room (Nat.le_of_ble_eq_true rfl)) dX5_forgottenAt_22 ⟨Nat.le_of_ble_eq_true rfl, Nat.le_of_ble_eq_true rfl⟩) ?_
        refine lv_if_eq (tgt := 43) hx hb dX5_forgottenAt_25 rfl (fun c4 => ?_) (fun c4 => ?_)
        · have hf := it_t hf c4
          refine lv_iconst (v := 0) hx hb dX5_forgottenAt_43 rfl ?_
          refine lv_iadd hx hb dX5_forgottenAt_44 ?_
          refine lv_istore_n (lv' := [(2, .int (q1.1 + (0 : Int32))), (0, .ref (a0 0)), (1, .int p1), (3, .int q1.2)]) hx hb dX5_forgottenAt_45 rfl hl (by decide) rfl (fun ls hl => ?_)
          refine lv_iinc (v := (q1.2 + 1)) (lv' := [(3, .int (q1.2 + 1)), (2, .int (q1.1 + (0 : Int32))), (0, .ref (a0 0)), (1, .int p1)]) hx hb dX5_forgottenAt_46 hl (k := 3) rfl rfl (by decide) rfl (fun ls hl => ?_)
          refine lv_goto (tgt := 4) hx hb dX5_forgottenAt_49 rfl ?_
          exact ih1 ((q1.1 + (0 : Int32)), (q1.2 + 1)) ls (lv_sub hl [2, 3, 1, 0] rfl) hf
        · have hf := it_f hf c4
          refine lv_aload_n hx hb dX5_forgottenAt_28 rfl (lv_at hl 0 rfl) ?_
          refine va_get (D := E.1) (ci := 4) (v := .ref (a0 4)) (C := RX5) (T := TX5) (N := 9) hx hb hts w2 hown hC.1 hP 0 rfl rfl 6 (by decide) w1 (fun _ h9 => h9) rfl dX5_forgottenAt_29 ?_
          refine lv_iload_n hx hb dX5_forgottenAt_32 rfl (lv_at hl 3 rfl) ?_
          obtain ⟨r5, e5, hf⟩ := bd_some hf
          refine cr_i (va_runV (As := [.int q1.2]) (rest := [.int q1.1]) ⟨hx, hb, hml, hown, hts⟩ (c_X1_isForgotten l E (fun k => a0 (k + 4)) v0.2.2.2.2.2.2.1 q1.2 r5 e5) (cwV 1 hts gX5_forgottenAt_X1_isForgotten rfl rfl rfl hdV_X1_isForgotten ⟨Nat.le_of_ble_eq_true rfl, Nat.le_of_ble_eq_true rfl⟩) ⟨PR.blind, va_recv hC.1 hP (ci := 1) (q0 := 4) rfl rfl, PR.pre hC hS (hP.sub [4, 5, 6, 7, 8] rfl)⟩ rfl rfl hl.1 rfl (lv_room (Nat.le_of_ble_eq_true rfl)) dX5_forgottenAt_33 ⟨Nat.le_of_ble_eq_true rfl, Nat.le_of_ble_eq_true rfl⟩) ?_
          refine lv_if_eq (tgt := 43) hx hb dX5_forgottenAt_36 rfl (fun c6 => ?_) (fun c6 => ?_)
          · have hf := it_t hf c6
            refine lv_iconst (v := 0) hx hb dX5_forgottenAt_43 rfl ?_
            refine lv_iadd hx hb dX5_forgottenAt_44 ?_
            refine lv_istore_n (lv' := [(2, .int (q1.1 + (0 : Int32))), (0, .ref (a0 0)), (1, .int p1), (3, .int q1.2)]) hx hb dX5_forgottenAt_45 rfl hl (by decide) rfl (fun ls hl => ?_)
            refine lv_iinc (v := (q1.2 + 1)) (lv' := [(3, .int (q1.2 + 1)), (2, .int (q1.1 + (0 : Int32))), (0, .ref (a0 0)), (1, .int p1)]) hx hb dX5_forgottenAt_46 hl (k := 3) rfl rfl (by decide) rfl (fun ls hl => ?_)
            refine lv_goto (tgt := 4) hx hb dX5_forgottenAt_49 rfl ?_
            exact ih1 ((q1.1 + (0 : Int32)), (q1.2 + 1)) ls (lv_sub hl [2, 3, 1, 0] rfl) hf
          · have hf := it_f hf c6
            refine lv_iconst (v := 1) hx hb dX5_forgottenAt_39 rfl ?_
            refine lv_goto (tgt := 44) hx hb dX5_forgottenAt_40 rfl ?_
            refine lv_iadd hx hb dX5_forgottenAt_44 ?_
            refine lv_istore_n (lv' := [(2, .int (q1.1 + (1 : Int32))), (0, .ref (a0 0)), (1, .int p1), (3, .int q1.2)]) hx hb dX5_forgottenAt_45 rfl hl (by decide) rfl (fun ls hl => ?_)
            refine lv_iinc (v := (q1.2 + 1)) (lv' := [(3, .int (q1.2 + 1)), (2, .int (q1.1 + (1 : Int32))), (0, .ref (a0 0)), (1, .int p1)]) hx hb dX5_forgottenAt_46 hl (k := 3) rfl rfl (by decide) rfl (fun ls hl => ?_)
            refine lv_goto (tgt := 4) hx hb dX5_forgottenAt_49 rfl ?_
            exact ih1 ((q1.1 + (1 : Int32)), (q1.2 + 1)) ls (lv_sub hl [2, 3, 1, 0] rfl) hf
  exact L1 FU ((0 : Int32), (0 : Int32)) ls (lv_sub hl [2, 3, 1, 0] rfl) hf

/-! X5_allCopies -/
abbrev rmX5_allCopies : Room := { frames := 1, cells := 0, slots := 0, locals := 23 }
theorem hdS_X5_allCopies : yX5_allCopies.cls ≠ "java/lang/invoke/MethodHandle" ∧ yX5_allCopies.cls ≠ "java/lang/invoke/VarHandle" ∧ (parseMethodDescriptor yX5_allCopies.desc).map (fun d => d.parameters.length) = some 0 := by decide +kernel
theorem hdV_X5_allCopies : yX5_allCopies.cls = RX5 ∧ yX5_allCopies.cls ≠ "java/lang/invoke/MethodHandle" ∧ yX5_allCopies.cls ≠ "java/lang/invoke/VarHandle" ∧ (parseMethodDescriptor yX5_allCopies.desc).map (fun d => d.parameters.length) = some 0 := ⟨rfl, hdS_X5_allCopies⟩
set_option maxHeartbeats 4000000 in
set_option maxRecDepth 100000 in
theorem c_X5_allCopies (l : Launch) (E : G0) (a0 : Nat → Nat) (v0 : HS) (x : Int32) (hf : f_X5_allCopies v0 = some x) : Met l yX5_allCopies wsX5_allCopies rmX5_allCopies (va_Pc [.ref (a0 0)] (PR E (wHS E a0 v0))) (vp_Si (fun r => r = x)) 0 0 (fun _ => False) := by
  refine Met.ofW (cc := cX5_allCopies) (maxL := 3) (ret := some .int) (by decide) rfl ?_
  intro p e s m args below meth c s₁ B hml hv
  obtain ⟨ha, hP, hC⟩ := hv
  have hx := B.exec
  have hb := B.bytes
  have hr := B.returns
  have hts := atoms_spec (ws := wsX5_allCopies) B.pre
  have hown : s.vm.findClass RX5 = some m.cls := findClass_of_methodNamed B.named
  have hlocks := B.notSynchronized
  have hS : va_S (fun _ => False) s.heap s.heap [] := va_S.rf
  have w1 : (Cond.fieldLink RX5 30 "GreatChunks$House" "servers" "LGreatChunks$Servers;").before args s = true := hts _ (List.mem_of_getElem? (i := 1) rfl)
  have w2 : ∀ w ∈ wsX50, w ∈ wsX5_allCopies := in_pl 10 rfl
  have w3 : (Cond.fieldLink RX5 98 "GreatChunks$Servers" "many" "I").before args s = true := hts _ (List.mem_of_getElem? (i := 2) rfl)
  have w4 : ∀ w ∈ wsX80, w ∈ wsX5_allCopies := in_pl 19 rfl
  have w5 : (Cond.fieldLink RX5 44 "GreatChunks$House" "copies" "LGreatChunks$Copies;").before args s = true := hts _ (List.mem_of_getElem? (i := 3) rfl)
  generalize hQe : MQ below (vp_Si (fun r => r = x)) args s 0 0 (fun _ => False) = Q
  refine st_W ha (Nat.le_of_ble_eq_true rfl) (fun ls hl => ?_)
  have hl : lv_has ls 3 [(0, .ref (a0 0))] := hl
  unfold f_X5_allCopies at hf
  refine lv_iconst (v := 0) hx hb dX5_allCopies_0 rfl ?_
  refine lv_istore_n (lv' := [(1, .int (0 : Int32)), (0, .ref (a0 0))]) hx hb dX5_allCopies_1 rfl hl (by decide) rfl (fun ls hl => ?_)
  refine lv_iconst (v := 0) hx hb dX5_allCopies_2 rfl ?_
  refine lv_istore_n (lv' := [(2, .int (0 : Int32)), (1, .int (0 : Int32)), (0, .ref (a0 0))]) hx hb dX5_allCopies_3 rfl hl (by decide) rfl (fun ls hl => ?_)
  obtain ⟨K1, hK1, hf⟩ := jn_some hf
  have J1 : ∀ (q1 : Int32 × Int32) (ls : Array Slot) (hl : lv_has ls 3 [(1, .int q1.1)]) (hf : K1 q1 = some x), W p l e (headSpec wsX5_allCopies rmX5_allCopies).room s m args below meth c s.heap [] 0 0 Q (F0 m 32 ls []) := by
    intro q1 ls hl hf
    have hf := (hK1 q1).trans hf
    refine lv_iload_n hx hb dX5_allCopies_32 rfl (lv_at hl 0 rfl) ?_
    cases Option.some.inj hf
    subst hQe
    exact en_i hx hb hr hlocks dX5_allCopies_33
  have L1 : ∀ (n : Nat) (q1 : Int32 × Int32) (ls : Array Slot) (hl : lv_has ls 3 [(0, .ref (a0 0)), (1, .int q1.1), (2, .int q1.2)]) (hf : lpF (bX5_allCopies_1 v0 K1) n q1 = some x), W p l e (headSpec wsX5_allCopies rmX5_allCopies).room s m args below meth c s.heap [] 0 0 Q (F0 m 4 ls []) := by
    intro n
    induction n with
    | zero => intro q1 ls hl hf; exact (lpF_zero hf).elim
    | succ n ih1 =>
      intro q1 ls hl hf
      have hf := lpF_succ hf
      unfold bX5_allCopies_1 at hf
      refine lv_iload_n hx hb dX5_allCopies_4 rfl (lv_at hl 2 rfl) ?_
      refine lv_aload_n hx hb dX5_allCopies_5 rfl (lv_at hl 0 rfl) ?_
      refine va_get (D := E.1) (ci := 4) (v := .ref (a0 1)) (C := RX5) (T := TX5) (N := 9) hx hb hts w2 hown hC.1 hP 0 rfl rfl 5 (by decide) w1 (fun _ h9 => h9) rfl dX5_allCopies_6 ?_
      refine va_get (D := E.1) (ci := 6) (v := .int v0.2.2.2.2.2.1.1) (C := RX8) (T := TX8) (N := 4) hx hb hts w4 hown hC.1 hP 1 rfl rfl 0 (by decide) w3 (fun _ h9 => h9) rfl dX5_allCopies_9 ?_
      refine lv_icmp_ge (tgt := 32) hx hb dX5_allCopies_12 rfl (fun c2 => ?_) (fun c2 => ?_)
      · have hf := it_t hf c2
        exact J1 (q1.1, q1.2) ls (lv_sub hl [1] rfl) hf
      · have hf := it_f hf c2
        refine lv_iload_n hx hb dX5_allCopies_15 rfl (lv_at hl 1 rfl) ?_
        refine lv_aload_n hx hb dX5_allCopies_16 rfl (lv_at hl 0 rfl) ?_
        refine va_get (D := E.1) (ci := 4) (v := .ref (a0 9)) (C := RX5) (T := TX5) (N := 9) hx hb hts w2 hown hC.1 hP 0 rfl rfl 7 (by decide) w5 (fun _ h9 => h9) rfl dX5_allCopies_17 ?_
        refine lv_iload_n hx hb dX5_allCopies_20 rfl (lv_at hl 2 rfl) ?_
        obtain ⟨r3, e3, hf⟩ := bd_some hf
        refine cr_i (va_runV (As := [.int q1.2]) (rest := [.int q1.1]) ⟨hx, hb, hml, hown, hts⟩ (c_X2_manyAt l E (fun k => a0 (k + 9)) v0.2.2.2.2.2.2.2.1 q1.2 r3 e3) (cwV 1 hts gX5_allCopies_X2_manyAt rfl rfl rfl hdV_X2_manyAt ⟨Nat.le_of_ble_eq_true rfl, Nat.le_of_ble_eq_true rfl⟩) ⟨PR.blind, va_recv hC.1 hP (ci := 2) (q0 := 9) rfl rfl, PR.pre hC hS (hP.sub [9, 10, 11, 12] rfl)⟩ rfl rfl hl.1 rfl (lv_room (Nat.le_of_ble_eq_true rfl)) dX5_allCopies_21 ⟨Nat.le_of_ble_eq_true rfl, Nat.le_of_ble_eq_true rfl⟩) ?_
        refine lv_iadd hx hb dX5_allCopies_24 ?_
        refine lv_istore_n (lv' := [(1, .int (q1.1 + r3)), (0, .ref (a0 0)), (2, .int q1.2)]) hx hb dX5_allCopies_25 rfl hl (by decide) rfl (fun ls hl => ?_)
        refine lv_iinc (v := (q1.2 + 1)) (lv' := [(2, .int (q1.2 + 1)), (1, .int (q1.1 + r3)), (0, .ref (a0 0))]) hx hb dX5_allCopies_26 hl (k := 2) rfl rfl (by decide) rfl (fun ls hl => ?_)
        refine lv_goto (tgt := 4) hx hb dX5_allCopies_29 rfl ?_
        exact ih1 ((q1.1 + r3), (q1.2 + 1)) ls (lv_sub hl [2, 1, 0] rfl) hf
  exact L1 FU ((0 : Int32), (0 : Int32)) ls (lv_sub hl [2, 1, 0] rfl) hf

/-! X5_allStale -/
abbrev rmX5_allStale : Room := { frames := 5, cells := 0, slots := 0, locals := 112 }
theorem hdS_X5_allStale : yX5_allStale.cls ≠ "java/lang/invoke/MethodHandle" ∧ yX5_allStale.cls ≠ "java/lang/invoke/VarHandle" ∧ (parseMethodDescriptor yX5_allStale.desc).map (fun d => d.parameters.length) = some 0 := by decide +kernel
theorem hdV_X5_allStale : yX5_allStale.cls = RX5 ∧ yX5_allStale.cls ≠ "java/lang/invoke/MethodHandle" ∧ yX5_allStale.cls ≠ "java/lang/invoke/VarHandle" ∧ (parseMethodDescriptor yX5_allStale.desc).map (fun d => d.parameters.length) = some 0 := ⟨rfl, hdS_X5_allStale⟩
set_option maxHeartbeats 4000000 in
set_option maxRecDepth 100000 in
theorem c_X5_allStale (l : Launch) (E : G0) (a0 : Nat → Nat) (v0 : HS) (x : Int32) (hf : f_X5_allStale v0 = some x) : Met l yX5_allStale wsX5_allStale rmX5_allStale (va_Pc [.ref (a0 0)] (PR E (wHS E a0 v0))) (vp_Si (fun r => r = x)) 0 0 (fun _ => False) := by
  refine Met.ofW (cc := cX5_allStale) (maxL := 3) (ret := some .int) (by decide) rfl ?_
  intro p e s m args below meth c s₁ B hml hv
  obtain ⟨ha, hP, hC⟩ := hv
  have hx := B.exec
  have hb := B.bytes
  have hr := B.returns
  have hts := atoms_spec (ws := wsX5_allStale) B.pre
  have hown : s.vm.findClass RX5 = some m.cls := findClass_of_methodNamed B.named
  have hlocks := B.notSynchronized
  have hS : va_S (fun _ => False) s.heap s.heap [] := va_S.rf
  have w1 : (Cond.fieldLink RX5 30 "GreatChunks$House" "servers" "LGreatChunks$Servers;").before args s = true := hts _ (List.mem_of_getElem? (i := 1) rfl)
  have w2 : ∀ w ∈ wsX50, w ∈ wsX5_allStale := in_pl 40 rfl
  have w3 : (Cond.fieldLink RX5 98 "GreatChunks$Servers" "many" "I").before args s = true := hts _ (List.mem_of_getElem? (i := 2) rfl)
  have w4 : ∀ w ∈ wsX80, w ∈ wsX5_allStale := in_pl 49 rfl
  generalize hQe : MQ below (vp_Si (fun r => r = x)) args s 0 0 (fun _ => False) = Q
  refine st_W ha (Nat.le_of_ble_eq_true rfl) (fun ls hl => ?_)
  have hl : lv_has ls 3 [(0, .ref (a0 0))] := hl
  unfold f_X5_allStale at hf
  refine lv_iconst (v := 0) hx hb dX5_allStale_0 rfl ?_
  refine lv_istore_n (lv' := [(1, .int (0 : Int32)), (0, .ref (a0 0))]) hx hb dX5_allStale_1 rfl hl (by decide) rfl (fun ls hl => ?_)
  refine lv_iconst (v := 0) hx hb dX5_allStale_2 rfl ?_
  refine lv_istore_n (lv' := [(2, .int (0 : Int32)), (1, .int (0 : Int32)), (0, .ref (a0 0))]) hx hb dX5_allStale_3 rfl hl (by decide) rfl (fun ls hl => ?_)
  obtain ⟨K1, hK1, hf⟩ := jn_some hf
  have J1 : ∀ (q1 : Int32 × Int32) (ls : Array Slot) (hl : lv_has ls 3 [(1, .int q1.1)]) (hf : K1 q1 = some x), W p l e (headSpec wsX5_allStale rmX5_allStale).room s m args below meth c s.heap [] 0 0 Q (F0 m 29 ls []) := by
    intro q1 ls hl hf
    have hf := (hK1 q1).trans hf
    refine lv_iload_n hx hb dX5_allStale_29 rfl (lv_at hl 0 rfl) ?_
    cases Option.some.inj hf
    subst hQe
    exact en_i hx hb hr hlocks dX5_allStale_30
  have L1 : ∀ (n : Nat) (q1 : Int32 × Int32) (ls : Array Slot) (hl : lv_has ls 3 [(0, .ref (a0 0)), (1, .int q1.1), (2, .int q1.2)]) (hf : lpF (bX5_allStale_1 v0 K1) n q1 = some x), W p l e (headSpec wsX5_allStale rmX5_allStale).room s m args below meth c s.heap [] 0 0 Q (F0 m 4 ls []) := by
    intro n
    induction n with
    | zero => intro q1 ls hl hf; exact (lpF_zero hf).elim
    | succ n ih1 =>
      intro q1 ls hl hf
      have hf := lpF_succ hf
      unfold bX5_allStale_1 at hf
      refine lv_iload_n hx hb dX5_allStale_4 rfl (lv_at hl 2 rfl) ?_
      refine lv_aload_n hx hb dX5_allStale_5 rfl (lv_at hl 0 rfl) ?_
      refine va_get (D := E.1) (ci := 4) (v := .ref (a0 1)) (C := RX5) (T := TX5) (N := 9) hx hb hts w2 hown hC.1 hP 0 rfl rfl 5 (by decide) w1 (fun _ h9 => h9) rfl dX5_allStale_6 ?_
      refine va_get (D := E.1) (ci := 6) (v := .int v0.2.2.2.2.2.1.1) (C := RX8) (T := TX8) (N := 4) hx hb hts w4 hown hC.1 hP 1 rfl rfl 0 (by decide) w3 (fun _ h9 => h9) rfl dX5_allStale_9 ?_
      refine lv_icmp_ge (tgt := 29) hx hb dX5_allStale_12 rfl (fun c2 => ?_) (fun c2 => ?_)
      · have hf := it_t hf c2
        exact J1 (q1.1, q1.2) ls (lv_sub hl [1] rfl) hf
      · have hf := it_f hf c2
        refine lv_iload_n hx hb dX5_allStale_15 rfl (lv_at hl 1 rfl) ?_
        refine lv_aload_n hx hb dX5_allStale_16 rfl (lv_at hl 0 rfl) ?_
        refine lv_iload_n hx hb dX5_allStale_17 rfl (lv_at hl 2 rfl) ?_
        obtain ⟨r3, e3, hf⟩ := bd_some hf
        refine cr_i (va_runV (As := [.int q1.2]) (rest := [.int q1.1]) ⟨hx, hb, hml, hown, hts⟩ (c_X5_staleAt l E a0 v0 q1.2 r3 e3) (cwV 1 hts gX5_allStale_X5_staleAt rfl rfl rfl hdV_X5_staleAt ⟨Nat.le_of_ble_eq_true rfl, Nat.le_of_ble_eq_true rfl⟩) ⟨PR.blind, va_recv hC.1 hP (ci := 4) (q0 := 0) rfl rfl, PR.pre hC hS hP⟩ rfl rfl hl.1 rfl (lv_room (Nat.le_of_ble_eq_true rfl)) dX5_allStale_18 ⟨Nat.le_of_ble_eq_true rfl, Nat.le_of_ble_eq_true rfl⟩) ?_
        refine lv_iadd hx hb dX5_allStale_21 ?_
        refine lv_istore_n (lv' := [(1, .int (q1.1 + r3)), (0, .ref (a0 0)), (2, .int q1.2)]) hx hb dX5_allStale_22 rfl hl (by decide) rfl (fun ls hl => ?_)
        refine lv_iinc (v := (q1.2 + 1)) (lv' := [(2, .int (q1.2 + 1)), (1, .int (q1.1 + r3)), (0, .ref (a0 0))]) hx hb dX5_allStale_23 hl (k := 2) rfl rfl (by decide) rfl (fun ls hl => ?_)
        refine lv_goto (tgt := 4) hx hb dX5_allStale_26 rfl ?_
        exact ih1 ((q1.1 + r3), (q1.2 + 1)) ls (lv_sub hl [2, 1, 0] rfl) hf
  exact L1 FU ((0 : Int32), (0 : Int32)) ls (lv_sub hl [2, 1, 0] rfl) hf

/-! X5_goodCells -/
abbrev rmX5_goodCells : Room := { frames := 3, cells := 0, slots := 0, locals := 71 }
theorem hdS_X5_goodCells : yX5_goodCells.cls ≠ "java/lang/invoke/MethodHandle" ∧ yX5_goodCells.cls ≠ "java/lang/invoke/VarHandle" ∧ (parseMethodDescriptor yX5_goodCells.desc).map (fun d => d.parameters.length) = some 1 := by decide +kernel
theorem hdV_X5_goodCells : yX5_goodCells.cls = RX5 ∧ yX5_goodCells.cls ≠ "java/lang/invoke/MethodHandle" ∧ yX5_goodCells.cls ≠ "java/lang/invoke/VarHandle" ∧ (parseMethodDescriptor yX5_goodCells.desc).map (fun d => d.parameters.length) = some 1 := ⟨rfl, hdS_X5_goodCells⟩
set_option maxHeartbeats 4000000 in
set_option maxRecDepth 100000 in
theorem c_X5_goodCells (l : Launch) (E : G0) (a0 : Nat → Nat) (v0 : HS) (p1 : Int32) (x : Int32) (hf : f_X5_goodCells v0 p1 = some x) : Met l yX5_goodCells wsX5_goodCells rmX5_goodCells (va_Pc [.ref (a0 0), .int p1] (PR E (wHS E a0 v0))) (vp_Si (fun r => r = x)) 0 0 (fun _ => False) := by
  refine Met.ofW (cc := cX5_goodCells) (maxL := 6) (ret := some .int) (by decide) rfl ?_
  intro p e s m args below meth c s₁ B hml hv
  obtain ⟨ha, hP, hC⟩ := hv
  have hx := B.exec
  have hb := B.bytes
  have hr := B.returns
  have hts := atoms_spec (ws := wsX5_goodCells) B.pre
  have hown : s.vm.findClass RX5 = some m.cls := findClass_of_methodNamed B.named
  have hlocks := B.notSynchronized
  have hS : va_S (fun _ => False) s.heap s.heap [] := va_S.rf
  have w1 : (Cond.fieldLink RX5 37 "GreatChunks$House" "chunks" "LGreatChunks$Chunks;").before args s = true := hts _ (List.mem_of_getElem? (i := 1) rfl)
  have w2 : ∀ w ∈ wsX50, w ∈ wsX5_goodCells := in_pl 49 rfl
  have w3 : (Cond.fieldLink RX5 59 "GreatChunks$Chunks" "made" "I").before args s = true := hts _ (List.mem_of_getElem? (i := 2) rfl)
  have w4 : ∀ w ∈ wsX10, w ∈ wsX5_goodCells := in_pl 58 rfl
  have w5 : (Cond.fieldLink RX5 30 "GreatChunks$House" "servers" "LGreatChunks$Servers;").before args s = true := hts _ (List.mem_of_getElem? (i := 3) rfl)
  have w6 : (Cond.fieldLink RX5 98 "GreatChunks$Servers" "many" "I").before args s = true := hts _ (List.mem_of_getElem? (i := 4) rfl)
  have w7 : ∀ w ∈ wsX80, w ∈ wsX5_goodCells := in_pl 63 rfl
  have w8 : (Cond.initialized RX10).before args s = true := hts _ (List.mem_of_getElem? (i := 28) rfl)
  have w9 : (Cond.static yX10_isIn).before args s = true := hts _ (List.mem_of_getElem? (i := 27) rfl)
  have w10 : (Cond.fieldLink RX5 44 "GreatChunks$House" "copies" "LGreatChunks$Copies;").before args s = true := hts _ (List.mem_of_getElem? (i := 5) rfl)
  generalize hQe : MQ below (vp_Si (fun r => r = x)) args s 0 0 (fun _ => False) = Q
  refine st_W ha (Nat.le_of_ble_eq_true rfl) (fun ls hl => ?_)
  have hl : lv_has ls 6 [(0, .ref (a0 0)), (1, .int p1)] := hl
  unfold f_X5_goodCells at hf
  refine lv_iconst (v := 0) hx hb dX5_goodCells_0 rfl ?_
  refine lv_istore_n (lv' := [(2, .int (0 : Int32)), (0, .ref (a0 0)), (1, .int p1)]) hx hb dX5_goodCells_1 rfl hl (by decide) rfl (fun ls hl => ?_)
  refine lv_iconst (v := 0) hx hb dX5_goodCells_2 rfl ?_
  refine lv_istore_n (lv' := [(3, .int (0 : Int32)), (2, .int (0 : Int32)), (0, .ref (a0 0)), (1, .int p1)]) hx hb dX5_goodCells_3 rfl hl (by decide) rfl (fun ls hl => ?_)
  obtain ⟨K1, hK1, hf⟩ := jn_some hf
  have J1 : ∀ (q1 : Int32 × Int32) (ls : Array Slot) (hl : lv_has ls 6 [(2, .int q1.1)]) (hf : K1 q1 = some x), W p l e (headSpec wsX5_goodCells rmX5_goodCells).room s m args below meth c s.heap [] 0 0 Q (F0 m 89 ls []) := by
    intro q1 ls hl hf
    have hf := (hK1 q1).trans hf
    refine lv_iload_n hx hb dX5_goodCells_89 rfl (lv_at hl 0 rfl) ?_
    cases Option.some.inj hf
    subst hQe
    exact en_i hx hb hr hlocks dX5_goodCells_90
  have L1 : ∀ (n : Nat) (q1 : Int32 × Int32) (ls : Array Slot) (hl : lv_has ls 6 [(0, .ref (a0 0)), (1, .int p1), (2, .int q1.1), (3, .int q1.2)]) (hf : lpF (bX5_goodCells_1 v0 p1 K1) n q1 = some x), W p l e (headSpec wsX5_goodCells rmX5_goodCells).room s m args below meth c s.heap [] 0 0 Q (F0 m 4 ls []) := by
    intro n
    induction n with
    | zero => intro q1 ls hl hf; exact (lpF_zero hf).elim
    | succ n ih1 =>
      intro q1 ls hl hf
      have hf := lpF_succ hf
      unfold bX5_goodCells_1 at hf
      refine lv_iload_n hx hb dX5_goodCells_4 rfl (lv_at hl 3 rfl) ?_
      refine lv_aload_n hx hb dX5_goodCells_5 rfl (lv_at hl 0 rfl) ?_
      refine va_get (D := E.1) (ci := 4) (v := .ref (a0 4)) (C := RX5) (T := TX5) (N := 9) hx hb hts w2 hown hC.1 hP 0 rfl rfl 6 (by decide) w1 (fun _ h9 => h9) rfl dX5_goodCells_6 ?_
      refine va_get (D := E.1) (ci := 1) (v := .int v0.2.2.2.2.2.2.1.1) (C := RX1) (T := TX1) (N := 5) hx hb hts w4 hown hC.1 hP 4 rfl rfl 0 (by decide) w3 (fun _ h9 => h9) rfl dX5_goodCells_9 ?_
      refine lv_icmp_ge (tgt := 89) hx hb dX5_goodCells_12 rfl (fun c2 => ?_) (fun c2 => ?_)
      · have hf := it_t hf c2
        exact J1 (q1.1, q1.2) ls (lv_sub hl [2] rfl) hf
      · have hf := it_f hf c2
        refine lv_aload_n hx hb dX5_goodCells_15 rfl (lv_at hl 0 rfl) ?_
        refine lv_iload_n hx hb dX5_goodCells_16 rfl (lv_at hl 3 rfl) ?_
        obtain ⟨r3, e3, hf⟩ := bd_some hf
        refine cr_i (va_runV (As := [.int q1.2]) (rest := []) ⟨hx, hb, hml, hown, hts⟩ (c_X5_good l E a0 v0 q1.2 r3 e3) (cwV 1 hts gX5_goodCells_X5_good rfl rfl rfl hdV_X5_good ⟨Nat.le_of_ble_eq_true rfl, Nat.le_of_ble_eq_true rfl⟩) ⟨PR.blind, va_recv hC.1 hP (ci := 4) (q0 := 0) rfl rfl, PR.pre hC hS hP⟩ rfl rfl hl.1 rfl (lv_room (Nat.le_of_ble_eq_true rfl)) dX5_goodCells_17 ⟨Nat.le_of_ble_eq_true rfl, Nat.le_of_ble_eq_true rfl⟩) ?_
        refine lv_istore (lv' := [(4, .int r3), (0, .ref (a0 0)), (1, .int p1), (2, .int q1.1), (3, .int q1.2)]) hx hb dX5_goodCells_20 hl (by decide) rfl (fun ls hl => ?_)
        refine lv_iconst (v := 0) hx hb dX5_goodCells_22 rfl ?_
        refine lv_istore (lv' := [(5, .int (0 : Int32)), (4, .int r3), (0, .ref (a0 0)), (1, .int p1), (2, .int q1.1), (3, .int q1.2)]) hx hb dX5_goodCells_23 hl (by decide) rfl (fun ls hl => ?_)
        obtain ⟨K4, hK4, hf⟩ := jn_some hf
        have J4 : ∀ (q4 : Int32 × Int32) (ls : Array Slot) (hl : lv_has ls 6 [(0, .ref (a0 0)), (1, .int p1), (2, .int q4.1), (3, .int q1.2)]) (hf : K4 q4 = some x), W p l e (headSpec wsX5_goodCells rmX5_goodCells).room s m args below meth c s.heap [] 0 0 Q (F0 m 83 ls []) := by
          intro q4 ls hl hf
          have hf := (hK4 q4).trans hf
          refine lv_iinc (v := (q1.2 + 1)) (lv' := [(3, .int (q1.2 + 1)), (0, .ref (a0 0)), (1, .int p1), (2, .int q4.1)]) hx hb dX5_goodCells_83 hl (k := 3) rfl rfl (by decide) rfl (fun ls hl => ?_)
          refine lv_goto (tgt := 4) hx hb dX5_goodCells_86 rfl ?_
          exact ih1 (q4.1, (q1.2 + 1)) ls (lv_sub hl [1, 2, 3, 0] rfl) hf
        have L4 : ∀ (n : Nat) (q4 : Int32 × Int32) (ls : Array Slot) (hl : lv_has ls 6 [(0, .ref (a0 0)), (1, .int p1), (2, .int q4.1), (3, .int q1.2), (4, .int r3), (5, .int q4.2)]) (hf : lpF (bX5_goodCells_4 v0 r3 p1 q1 K4) n q4 = some x), W p l e (headSpec wsX5_goodCells rmX5_goodCells).room s m args below meth c s.heap [] 0 0 Q (F0 m 25 ls []) := by
          intro n
          induction n with
          | zero => intro q4 ls hl hf; exact (lpF_zero hf).elim
          | succ n ih4 =>
            intro q4 ls hl hf
            have hf := lpF_succ hf
            unfold bX5_goodCells_4 at hf
            refine lv_iload hx hb dX5_goodCells_25 (lv_at hl 5 rfl) ?_
            refine lv_aload_n hx hb dX5_goodCells_27 rfl (lv_at hl 0 rfl) ?_
            refine va_get (D := E.1) (ci := 4) (v := .ref (a0 1)) (C := RX5) (T := TX5) (N := 9) hx hb hts w2 hown hC.1 hP 0 rfl rfl 5 (by decide) w5 (fun _ h9 => h9) rfl dX5_goodCells_28 ?_
            refine va_get (D := E.1) (ci := 6) (v := .int v0.2.2.2.2.2.1.1) (C := RX8) (T := TX8) (N := 4) hx hb hts w7 hown hC.1 hP 1 rfl rfl 0 (by decide) w6 (fun _ h9 => h9) rfl dX5_goodCells_31 ?_
            refine lv_icmp_ge (tgt := 83) hx hb dX5_goodCells_34 rfl (fun c5 => ?_) (fun c5 => ?_)
            · have hf := it_t hf c5
              exact J4 (q4.1, q4.2) ls (lv_sub hl [0, 1, 2, 3] rfl) hf
            · have hf := it_f hf c5
              refine lv_iload hx hb dX5_goodCells_37 (lv_at hl 4 rfl) ?_
              refine lv_iload hx hb dX5_goodCells_39 (lv_at hl 5 rfl) ?_
              refine cr_i (va_runSN (As := [.int r3, .int q4.2]) (rest := []) ⟨hx, hb, hml, hown, hts⟩ (c_X10_isIn l E r3 q4.2 _ rfl) ⟨va_cnB 2 hts gX5_goodCells_X10_isIn_n117 rfl rfl rfl (hC.2.1 (RX5, 117, yX10_isIn, RX10) (List.mem_of_getElem? (i := 13) rfl)) w8 hdS_X10_isIn ⟨Nat.le_of_ble_eq_true rfl, Nat.le_of_ble_eq_true rfl⟩, w9, trivial⟩ ⟨PR.blind, PR.pre hC hS (hP.sub [] rfl)⟩ rfl rfl hl.1 rfl (lv_room (Nat.le_of_ble_eq_true rfl)) dX5_goodCells_41 ⟨Nat.le_of_ble_eq_true rfl, Nat.le_of_ble_eq_true rfl⟩) ?_
              refine lv_if_eq (tgt := 77) hx hb dX5_goodCells_44 rfl (fun c6 => ?_) (fun c6 => ?_)
              · have hf := it_t hf c6
                refine lv_iinc (v := (q4.2 + 1)) (lv' := [(5, .int (q4.2 + 1)), (0, .ref (a0 0)), (1, .int p1), (2, .int q4.1), (3, .int q1.2), (4, .int r3)]) hx hb dX5_goodCells_77 hl (k := 5) rfl rfl (by decide) rfl (fun ls hl => ?_)
                refine lv_goto (tgt := 25) hx hb dX5_goodCells_80 rfl ?_
                exact ih4 (q4.1, (q4.2 + 1)) ls (lv_sub hl [1, 2, 3, 4, 5, 0] rfl) hf
              · have hf := it_f hf c6
                refine lv_iload_n hx hb dX5_goodCells_47 rfl (lv_at hl 2 rfl) ?_
                refine lv_iload_n hx hb dX5_goodCells_48 rfl (lv_at hl 1 rfl) ?_
                refine lv_if_eq (tgt := 65) hx hb dX5_goodCells_49 rfl (fun c7 => ?_) (fun c7 => ?_)
                · have hf := it_t hf c7
                  refine lv_aload_n hx hb dX5_goodCells_65 rfl (lv_at hl 0 rfl) ?_
                  refine va_get (D := E.1) (ci := 4) (v := .ref (a0 9)) (C := RX5) (T := TX5) (N := 9) hx hb hts w2 hown hC.1 hP 0 rfl rfl 7 (by decide) w10 (fun _ h9 => h9) rfl dX5_goodCells_66 ?_
                  refine lv_iload hx hb dX5_goodCells_69 (lv_at hl 5 rfl) ?_
                  refine lv_iload_n hx hb dX5_goodCells_71 rfl (lv_at hl 3 rfl) ?_
                  obtain ⟨r8, e8, hf⟩ := bd_some hf
                  refine cr_i (va_runV (As := [.int q4.2, .int q1.2]) (rest := [.int q4.1]) ⟨hx, hb, hml, hown, hts⟩ (c_X2_padsIn l E (fun k => a0 (k + 9)) v0.2.2.2.2.2.2.2.1 q4.2 q1.2 r8 e8) (cwV 2 hts gX5_goodCells_X2_padsIn rfl rfl rfl hdV_X2_padsIn ⟨Nat.le_of_ble_eq_true rfl, Nat.le_of_ble_eq_true rfl⟩) ⟨PR.blind, va_recv hC.1 hP (ci := 2) (q0 := 9) rfl rfl, PR.pre hC hS (hP.sub [9, 10, 11, 12] rfl)⟩ rfl rfl hl.1 rfl (lv_room (Nat.le_of_ble_eq_true rfl)) dX5_goodCells_72 ⟨Nat.le_of_ble_eq_true rfl, Nat.le_of_ble_eq_true rfl⟩) ?_
                  refine lv_iadd hx hb dX5_goodCells_75 ?_
                  refine lv_istore_n (lv' := [(2, .int (q4.1 + r8)), (0, .ref (a0 0)), (1, .int p1), (3, .int q1.2), (4, .int r3), (5, .int q4.2)]) hx hb dX5_goodCells_76 rfl hl (by decide) rfl (fun ls hl => ?_)
                  refine lv_iinc (v := (q4.2 + 1)) (lv' := [(5, .int (q4.2 + 1)), (2, .int (q4.1 + r8)), (0, .ref (a0 0)), (1, .int p1), (3, .int q1.2), (4, .int r3)]) hx hb dX5_goodCells_77 hl (k := 5) rfl rfl (by decide) rfl (fun ls hl => ?_)
                  refine lv_goto (tgt := 25) hx hb dX5_goodCells_80 rfl ?_
                  exact ih4 ((q4.1 + r8), (q4.2 + 1)) ls (lv_sub hl [2, 3, 1, 4, 5, 0] rfl) hf
                · have hf := it_f hf c7
                  refine lv_aload_n hx hb dX5_goodCells_52 rfl (lv_at hl 0 rfl) ?_
                  refine va_get (D := E.1) (ci := 4) (v := .ref (a0 9)) (C := RX5) (T := TX5) (N := 9) hx hb hts w2 hown hC.1 hP 0 rfl rfl 7 (by decide) w10 (fun _ h9 => h9) rfl dX5_goodCells_53 ?_
                  refine lv_iload hx hb dX5_goodCells_56 (lv_at hl 5 rfl) ?_
                  refine lv_iload_n hx hb dX5_goodCells_58 rfl (lv_at hl 3 rfl) ?_
                  obtain ⟨r9, e9, hf⟩ := bd_some hf
                  refine cr_i (va_runV (As := [.int q4.2, .int q1.2]) (rest := [.int q4.1]) ⟨hx, hb, hml, hown, hts⟩ (c_X2_lettersIn l E (fun k => a0 (k + 9)) v0.2.2.2.2.2.2.2.1 q4.2 q1.2 r9 e9) (cwV 2 hts gX5_goodCells_X2_lettersIn rfl rfl rfl hdV_X2_lettersIn ⟨Nat.le_of_ble_eq_true rfl, Nat.le_of_ble_eq_true rfl⟩) ⟨PR.blind, va_recv hC.1 hP (ci := 2) (q0 := 9) rfl rfl, PR.pre hC hS (hP.sub [9, 10, 11, 12] rfl)⟩ rfl rfl hl.1 rfl (lv_room (Nat.le_of_ble_eq_true rfl)) dX5_goodCells_59 ⟨Nat.le_of_ble_eq_true rfl, Nat.le_of_ble_eq_true rfl⟩) ?_
                  refine lv_goto (tgt := 75) hx hb dX5_goodCells_62 rfl ?_
                  refine lv_iadd hx hb dX5_goodCells_75 ?_
                  refine lv_istore_n (lv' := [(2, .int (q4.1 + r9)), (0, .ref (a0 0)), (1, .int p1), (3, .int q1.2), (4, .int r3), (5, .int q4.2)]) hx hb dX5_goodCells_76 rfl hl (by decide) rfl (fun ls hl => ?_)
                  refine lv_iinc (v := (q4.2 + 1)) (lv' := [(5, .int (q4.2 + 1)), (2, .int (q4.1 + r9)), (0, .ref (a0 0)), (1, .int p1), (3, .int q1.2), (4, .int r3)]) hx hb dX5_goodCells_77 hl (k := 5) rfl rfl (by decide) rfl (fun ls hl => ?_)
                  refine lv_goto (tgt := 25) hx hb dX5_goodCells_80 rfl ?_
                  exact ih4 ((q4.1 + r9), (q4.2 + 1)) ls (lv_sub hl [2, 3, 1, 4, 5, 0] rfl) hf
        exact L4 FU (q1.1, (0 : Int32)) ls (lv_sub hl [2, 3, 4, 5, 1, 0] rfl) hf
  exact L1 FU ((0 : Int32), (0 : Int32)) ls (lv_sub hl [2, 3, 1, 0] rfl) hf

/-! X5_greatestFilled -/
abbrev rmX5_greatestFilled : Room := { frames := 4, cells := 0, slots := 0, locals := 90 }
theorem hdS_X5_greatestFilled : yX5_greatestFilled.cls ≠ "java/lang/invoke/MethodHandle" ∧ yX5_greatestFilled.cls ≠ "java/lang/invoke/VarHandle" ∧ (parseMethodDescriptor yX5_greatestFilled.desc).map (fun d => d.parameters.length) = some 1 := by decide +kernel
theorem hdV_X5_greatestFilled : yX5_greatestFilled.cls = RX5 ∧ yX5_greatestFilled.cls ≠ "java/lang/invoke/MethodHandle" ∧ yX5_greatestFilled.cls ≠ "java/lang/invoke/VarHandle" ∧ (parseMethodDescriptor yX5_greatestFilled.desc).map (fun d => d.parameters.length) = some 1 := ⟨rfl, hdS_X5_greatestFilled⟩
set_option maxHeartbeats 4000000 in
set_option maxRecDepth 100000 in
theorem c_X5_greatestFilled (l : Launch) (E : G0) (a0 : Nat → Nat) (v0 : HS) (p1 : Int32) (x : Int32) (hf : f_X5_greatestFilled v0 p1 = some x) : Met l yX5_greatestFilled wsX5_greatestFilled rmX5_greatestFilled (va_Pc [.ref (a0 0), .int p1] (PR E (wHS E a0 v0))) (vp_Si (fun r => r = x)) 0 0 (fun _ => False) := by
  refine Met.ofW (cc := cX5_greatestFilled) (maxL := 5) (ret := some .int) (by decide) rfl ?_
  intro p e s m args below meth c s₁ B hml hv
  obtain ⟨ha, hP, hC⟩ := hv
  have hx := B.exec
  have hb := B.bytes
  have hr := B.returns
  have hts := atoms_spec (ws := wsX5_greatestFilled) B.pre
  have hown : s.vm.findClass RX5 = some m.cls := findClass_of_methodNamed B.named
  have hlocks := B.notSynchronized
  have hS : va_S (fun _ => False) s.heap s.heap [] := va_S.rf
  have w1 : (Cond.fieldLink RX5 30 "GreatChunks$House" "servers" "LGreatChunks$Servers;").before args s = true := hts _ (List.mem_of_getElem? (i := 1) rfl)
  have w2 : ∀ w ∈ wsX50, w ∈ wsX5_greatestFilled := in_pl 43 rfl
  have w3 : (Cond.fieldLink RX5 98 "GreatChunks$Servers" "many" "I").before args s = true := hts _ (List.mem_of_getElem? (i := 2) rfl)
  have w4 : ∀ w ∈ wsX80, w ∈ wsX5_greatestFilled := in_pl 52 rfl
  have w5 : (Cond.initialized RX10).before args s = true := hts _ (List.mem_of_getElem? (i := 36) rfl)
  have w6 : (Cond.static yX10_isIn).before args s = true := hts _ (List.mem_of_getElem? (i := 35) rfl)
  have w7 : (Cond.fieldLink RX5 44 "GreatChunks$House" "copies" "LGreatChunks$Copies;").before args s = true := hts _ (List.mem_of_getElem? (i := 3) rfl)
  have w8 : (Cond.methodLink RX5 142 Lib.Math.max.name).before args s = true := hts _ (List.mem_of_getElem? (i := 4) rfl)
  have w9 : (Cond.static Lib.Math.max.name).before args s = true := hts _ (List.mem_of_getElem? (i := 5) rfl)
  have w10 : (Cond.initialized "java/lang/Math").before args s = true := hts _ (List.mem_of_getElem? (i := 6) rfl)
  have w11 : (Cond.code Lib.Math.max.name Lib.Math.max.code 2 (some .int)).before args s = true := hts _ (List.mem_of_getElem? (i := 7) rfl)
  generalize hQe : MQ below (vp_Si (fun r => r = x)) args s 0 0 (fun _ => False) = Q
  refine st_W ha (Nat.le_of_ble_eq_true rfl) (fun ls hl => ?_)
  have hl : lv_has ls 5 [(0, .ref (a0 0)), (1, .int p1)] := hl
  unfold f_X5_greatestFilled at hf
  refine lv_aload_n hx hb dX5_greatestFilled_0 rfl (lv_at hl 0 rfl) ?_
  refine lv_iload_n hx hb dX5_greatestFilled_1 rfl (lv_at hl 1 rfl) ?_
  obtain ⟨r1, e1, hf⟩ := bd_some hf
  refine cr_i (va_runV (As := [.int p1]) (rest := []) ⟨hx, hb, hml, hown, hts⟩ (c_X5_able l E a0 v0 p1 r1 e1) (cwV 1 hts gX5_greatestFilled_X5_able rfl rfl rfl hdV_X5_able ⟨Nat.le_of_ble_eq_true rfl, Nat.le_of_ble_eq_true rfl⟩) ⟨PR.blind, va_recv hC.1 hP (ci := 4) (q0 := 0) rfl rfl, PR.pre hC hS hP⟩ rfl rfl hl.1 rfl (lv_room (Nat.le_of_ble_eq_true rfl)) dX5_greatestFilled_2 ⟨Nat.le_of_ble_eq_true rfl, Nat.le_of_ble_eq_true rfl⟩) ?_
  refine lv_istore_n (lv' := [(2, .int r1), (0, .ref (a0 0)), (1, .int p1)]) hx hb dX5_greatestFilled_5 rfl hl (by decide) rfl (fun ls hl => ?_)
  refine lv_iconst (v := 0) hx hb dX5_greatestFilled_6 rfl ?_
  refine lv_istore_n (lv' := [(3, .int (0 : Int32)), (2, .int r1), (0, .ref (a0 0)), (1, .int p1)]) hx hb dX5_greatestFilled_7 rfl hl (by decide) rfl (fun ls hl => ?_)
  refine lv_iconst (v := 0) hx hb dX5_greatestFilled_8 rfl ?_
  refine lv_istore (lv' := [(4, .int (0 : Int32)), (3, .int (0 : Int32)), (2, .int r1), (0, .ref (a0 0)), (1, .int p1)]) hx hb dX5_greatestFilled_9 hl (by decide) rfl (fun ls hl => ?_)
  obtain ⟨K2, hK2, hf⟩ := jn_some hf
  have J2 : ∀ (q2 : Int32 × Int32) (ls : Array Slot) (hl : lv_has ls 5 [(3, .int q2.1)]) (hf : K2 q2 = some x), W p l e (headSpec wsX5_greatestFilled rmX5_greatestFilled).room s m args below meth c s.heap [] 0 0 Q (F0 m 53 ls []) := by
    intro q2 ls hl hf
    have hf := (hK2 q2).trans hf
    refine lv_iload_n hx hb dX5_greatestFilled_53 rfl (lv_at hl 0 rfl) ?_
    cases Option.some.inj hf
    subst hQe
    exact en_i hx hb hr hlocks dX5_greatestFilled_54
  have L2 : ∀ (n : Nat) (q2 : Int32 × Int32) (ls : Array Slot) (hl : lv_has ls 5 [(0, .ref (a0 0)), (1, .int p1), (2, .int r1), (3, .int q2.1), (4, .int q2.2)]) (hf : lpF (bX5_greatestFilled_2 v0 r1 p1 K2) n q2 = some x), W p l e (headSpec wsX5_greatestFilled rmX5_greatestFilled).room s m args below meth c s.heap [] 0 0 Q (F0 m 11 ls []) := by
    intro n
    induction n with
    | zero => intro q2 ls hl hf; exact (lpF_zero hf).elim
    | succ n ih2 =>
      intro q2 ls hl hf
      have hf := lpF_succ hf
      unfold bX5_greatestFilled_2 at hf
      refine lv_iload hx hb dX5_greatestFilled_11 (lv_at hl 4 rfl) ?_
      refine lv_aload_n hx hb dX5_greatestFilled_13 rfl (lv_at hl 0 rfl) ?_
      refine va_get (D := E.1) (ci := 4) (v := .ref (a0 1)) (C := RX5) (T := TX5) (N := 9) hx hb hts w2 hown hC.1 hP 0 rfl rfl 5 (by decide) w1 (fun _ h9 => h9) rfl dX5_greatestFilled_14 ?_
      refine va_get (D := E.1) (ci := 6) (v := .int v0.2.2.2.2.2.1.1) (C := RX8) (T := TX8) (N := 4) hx hb hts w4 hown hC.1 hP 1 rfl rfl 0 (by decide) w3 (fun _ h9 => h9) rfl dX5_greatestFilled_17 ?_
      refine lv_icmp_ge (tgt := 53) hx hb dX5_greatestFilled_20 rfl (fun c3 => ?_) (fun c3 => ?_)
      · have hf := it_t hf c3
        exact J2 (q2.1, q2.2) ls (lv_sub hl [3] rfl) hf
      · have hf := it_f hf c3
        refine lv_iload_n hx hb dX5_greatestFilled_23 rfl (lv_at hl 2 rfl) ?_
        refine lv_iload hx hb dX5_greatestFilled_24 (lv_at hl 4 rfl) ?_
        refine cr_i (va_runSN (As := [.int r1, .int q2.2]) (rest := []) ⟨hx, hb, hml, hown, hts⟩ (c_X10_isIn l E r1 q2.2 _ rfl) ⟨va_cnB 2 hts gX5_greatestFilled_X10_isIn_n117 rfl rfl rfl (hC.2.1 (RX5, 117, yX10_isIn, RX10) (List.mem_of_getElem? (i := 13) rfl)) w5 hdS_X10_isIn ⟨Nat.le_of_ble_eq_true rfl, Nat.le_of_ble_eq_true rfl⟩, w6, trivial⟩ ⟨PR.blind, PR.pre hC hS (hP.sub [] rfl)⟩ rfl rfl hl.1 rfl (lv_room (Nat.le_of_ble_eq_true rfl)) dX5_greatestFilled_26 ⟨Nat.le_of_ble_eq_true rfl, Nat.le_of_ble_eq_true rfl⟩) ?_
        refine lv_if_eq (tgt := 47) hx hb dX5_greatestFilled_29 rfl (fun c4 => ?_) (fun c4 => ?_)
        · have hf := it_t hf c4
          refine lv_iinc (v := (q2.2 + 1)) (lv' := [(4, .int (q2.2 + 1)), (0, .ref (a0 0)), (1, .int p1), (2, .int r1), (3, .int q2.1)]) hx hb dX5_greatestFilled_47 hl (k := 4) rfl rfl (by decide) rfl (fun ls hl => ?_)
          refine lv_goto (tgt := 11) hx hb dX5_greatestFilled_50 rfl ?_
          exact ih2 (q2.1, (q2.2 + 1)) ls (lv_sub hl [1, 2, 3, 4, 0] rfl) hf
        · have hf := it_f hf c4
          refine lv_iload_n hx hb dX5_greatestFilled_32 rfl (lv_at hl 3 rfl) ?_
          refine lv_aload_n hx hb dX5_greatestFilled_33 rfl (lv_at hl 0 rfl) ?_
          refine va_get (D := E.1) (ci := 4) (v := .ref (a0 9)) (C := RX5) (T := TX5) (N := 9) hx hb hts w2 hown hC.1 hP 0 rfl rfl 7 (by decide) w7 (fun _ h9 => h9) rfl dX5_greatestFilled_34 ?_
          refine lv_iload hx hb dX5_greatestFilled_37 (lv_at hl 4 rfl) ?_
          refine lv_iload_n hx hb dX5_greatestFilled_39 rfl (lv_at hl 1 rfl) ?_
          obtain ⟨r5, e5, hf⟩ := bd_some hf
          refine cr_i (va_runV (As := [.int q2.2, .int p1]) (rest := [.int q2.1]) ⟨hx, hb, hml, hown, hts⟩ (c_X2_filledOf l E (fun k => a0 (k + 9)) v0.2.2.2.2.2.2.2.1 q2.2 p1 r5 e5) (cwV 2 hts gX5_greatestFilled_X2_filledOf rfl rfl rfl hdV_X2_filledOf ⟨Nat.le_of_ble_eq_true rfl, Nat.le_of_ble_eq_true rfl⟩) ⟨PR.blind, va_recv hC.1 hP (ci := 2) (q0 := 9) rfl rfl, PR.pre hC hS (hP.sub [9, 10, 11, 12] rfl)⟩ rfl rfl hl.1 rfl (lv_room (Nat.le_of_ble_eq_true rfl)) dX5_greatestFilled_40 ⟨Nat.le_of_ble_eq_true rfl, Nat.le_of_ble_eq_true rfl⟩) ?_
          refine va_mmax hx hb (by rw [hml]; exact hl.1.symm) hown w8 w9 w10 w11 (Nat.le_of_ble_eq_true rfl) (Nat.le_of_ble_eq_true rfl) (Nat.le_of_ble_eq_true rfl) (Nat.le_of_ble_eq_true rfl) dX5_greatestFilled_43 ?_
          refine lv_istore_n (lv' := [(3, .int (if q2.1 < r5 then r5 else q2.1)), (0, .ref (a0 0)), (1, .int p1), (2, .int r1), (4, .int q2.2)]) hx hb dX5_greatestFilled_46 rfl hl (by decide) rfl (fun ls hl => ?_)
          refine lv_iinc (v := (q2.2 + 1)) (lv' := [(4, .int (q2.2 + 1)), (3, .int (if q2.1 < r5 then r5 else q2.1)), (0, .ref (a0 0)), (1, .int p1), (2, .int r1)]) hx hb dX5_greatestFilled_47 hl (k := 4) rfl rfl (by decide) rfl (fun ls hl => ?_)
          refine lv_goto (tgt := 11) hx hb dX5_greatestFilled_50 rfl ?_
          exact ih2 ((if q2.1 < r5 then r5 else q2.1), (q2.2 + 1)) ls (lv_sub hl [2, 3, 4, 1, 0] rfl) hf
  exact L2 FU ((0 : Int32), (0 : Int32)) ls (lv_sub hl [3, 4, 2, 1, 0] rfl) hf

/-! X5_copiesWanted -/
abbrev rmX5_copiesWanted : Room := { frames := 2, cells := 0, slots := 0, locals := 43 }
theorem hdS_X5_copiesWanted : yX5_copiesWanted.cls ≠ "java/lang/invoke/MethodHandle" ∧ yX5_copiesWanted.cls ≠ "java/lang/invoke/VarHandle" ∧ (parseMethodDescriptor yX5_copiesWanted.desc).map (fun d => d.parameters.length) = some 1 := by decide +kernel
theorem hdV_X5_copiesWanted : yX5_copiesWanted.cls = RX5 ∧ yX5_copiesWanted.cls ≠ "java/lang/invoke/MethodHandle" ∧ yX5_copiesWanted.cls ≠ "java/lang/invoke/VarHandle" ∧ (parseMethodDescriptor yX5_copiesWanted.desc).map (fun d => d.parameters.length) = some 1 := ⟨rfl, hdS_X5_copiesWanted⟩
set_option maxHeartbeats 4000000 in
set_option maxRecDepth 100000 in
theorem c_X5_copiesWanted (l : Launch) (E : G0) (a0 : Nat → Nat) (v0 : HS) (p1 : Int32) (x : Int32) (hf : f_X5_copiesWanted v0 p1 = some x) : Met l yX5_copiesWanted wsX5_copiesWanted rmX5_copiesWanted (va_Pc [.ref (a0 0), .int p1] (PR E (wHS E a0 v0))) (vp_Si (fun r => r = x)) 0 0 (fun _ => False) := by
  refine Met.ofW (cc := cX5_copiesWanted) (maxL := 2) (ret := some .int) (by decide) rfl ?_
  intro p e s m args below meth c s₁ B hml hv
  obtain ⟨ha, hP, hC⟩ := hv
  have hx := B.exec
  have hb := B.bytes
  have hr := B.returns
  have hts := atoms_spec (ws := wsX5_copiesWanted) B.pre
  have hown : s.vm.findClass RX5 = some m.cls := findClass_of_methodNamed B.named
  have hlocks := B.notSynchronized
  have hS : va_S (fun _ => False) s.heap s.heap [] := va_S.rf
  have w1 : (Cond.fieldLink RX5 9 "GreatChunks$House" "wanted" "I").before args s = true := hts _ (List.mem_of_getElem? (i := 1) rfl)
  have w2 : ∀ w ∈ wsX50, w ∈ wsX5_copiesWanted := in_pl 10 rfl
  generalize hQe : MQ below (vp_Si (fun r => r = x)) args s 0 0 (fun _ => False) = Q
  refine st_W ha (Nat.le_of_ble_eq_true rfl) (fun ls hl => ?_)
  have hl : lv_has ls 2 [(0, .ref (a0 0)), (1, .int p1)] := hl
  unfold f_X5_copiesWanted at hf
  refine lv_iload_n hx hb dX5_copiesWanted_0 rfl (lv_at hl 1 rfl) ?_
  refine lv_iconst (v := 5) hx hb dX5_copiesWanted_1 rfl ?_
  obtain ⟨r1, e1, hf⟩ := bd_some hf
  refine cr_i (va_runS (As := [.int p1, .int (5 : Int32)]) (rest := []) ⟨hx, hb, hml, hown, hts⟩ (c_X6_isOne l E p1 (5 : Int32) r1 e1) (va_cwS 2 hts gX5_copiesWanted_X6_isOne rfl rfl rfl hdS_X6_isOne ⟨Nat.le_of_ble_eq_true rfl, Nat.le_of_ble_eq_true rfl⟩) ⟨PR.blind, PR.pre hC hS (hP.sub [] rfl)⟩ rfl rfl hl.1 rfl (lv_room (Nat.le_of_ble_eq_true rfl)) dX5_copiesWanted_2 ⟨Nat.le_of_ble_eq_true rfl, Nat.le_of_ble_eq_true rfl⟩) ?_
  refine lv_if_eq (tgt := 10) hx hb dX5_copiesWanted_5 rfl (fun c2 => ?_) (fun c2 => ?_)
  · have hf := it_t hf c2
    refine lv_iload_n hx hb dX5_copiesWanted_10 rfl (lv_at hl 1 rfl) ?_
    refine lv_iconst (v := 3) hx hb dX5_copiesWanted_11 rfl ?_
    obtain ⟨r3, e3, hf⟩ := bd_some hf
    refine cr_i (va_runS (As := [.int p1, .int (3 : Int32)]) (rest := []) ⟨hx, hb, hml, hown, hts⟩ (c_X6_isOne l E p1 (3 : Int32) r3 e3) (va_cwS 2 hts gX5_copiesWanted_X6_isOne rfl rfl rfl hdS_X6_isOne ⟨Nat.le_of_ble_eq_true rfl, Nat.le_of_ble_eq_true rfl⟩) ⟨PR.blind, PR.pre hC hS (hP.sub [] rfl)⟩ rfl rfl hl.1 rfl (lv_room (Nat.le_of_ble_eq_true rfl)) dX5_copiesWanted_12 ⟨Nat.le_of_ble_eq_true rfl, Nat.le_of_ble_eq_true rfl⟩) ?_
    refine lv_if_eq (tgt := 27) hx hb dX5_copiesWanted_15 rfl (fun c4 => ?_) (fun c4 => ?_)
    · have hf := it_t hf c4
      refine lv_aload_n hx hb dX5_copiesWanted_27 rfl (lv_at hl 0 rfl) ?_
      refine va_get (D := E.1) (ci := 4) (v := .int v0.1) (C := RX5) (T := TX5) (N := 9) hx hb hts w2 hown hC.1 hP 0 rfl rfl 0 (by decide) w1 (fun _ h9 => h9) rfl dX5_copiesWanted_28 ?_
      cases Option.some.inj hf
      subst hQe
      exact en_i hx hb hr hlocks dX5_copiesWanted_31
    · have hf := it_f hf c4
      refine lv_aload_n hx hb dX5_copiesWanted_18 rfl (lv_at hl 0 rfl) ?_
      refine va_get (D := E.1) (ci := 4) (v := .int v0.1) (C := RX5) (T := TX5) (N := 9) hx hb hts w2 hown hC.1 hP 0 rfl rfl 0 (by decide) w1 (fun _ h9 => h9) rfl dX5_copiesWanted_19 ?_
      refine lv_iconst (v := 1) hx hb dX5_copiesWanted_22 rfl ?_
      refine lv_iadd hx hb dX5_copiesWanted_23 ?_
      refine lv_goto (tgt := 31) hx hb dX5_copiesWanted_24 rfl ?_
      cases Option.some.inj hf
      subst hQe
      exact en_i hx hb hr hlocks dX5_copiesWanted_31
  · have hf := it_f hf c2
    refine lv_iconst (v := 1) hx hb dX5_copiesWanted_8 rfl ?_
    cases Option.some.inj hf
    subst hQe
    exact en_i hx hb hr hlocks dX5_copiesWanted_9

/-! X5_graceOf -/
abbrev rmX5_graceOf : Room := { frames := 2, cells := 0, slots := 0, locals := 43 }
theorem hdS_X5_graceOf : yX5_graceOf.cls ≠ "java/lang/invoke/MethodHandle" ∧ yX5_graceOf.cls ≠ "java/lang/invoke/VarHandle" ∧ (parseMethodDescriptor yX5_graceOf.desc).map (fun d => d.parameters.length) = some 1 := by decide +kernel
theorem hdV_X5_graceOf : yX5_graceOf.cls = RX5 ∧ yX5_graceOf.cls ≠ "java/lang/invoke/MethodHandle" ∧ yX5_graceOf.cls ≠ "java/lang/invoke/VarHandle" ∧ (parseMethodDescriptor yX5_graceOf.desc).map (fun d => d.parameters.length) = some 1 := ⟨rfl, hdS_X5_graceOf⟩
set_option maxHeartbeats 4000000 in
set_option maxRecDepth 100000 in
theorem c_X5_graceOf (l : Launch) (E : G0) (a0 : Nat → Nat) (v0 : HS) (p1 : Int32) (x : Int32) (hf : f_X5_graceOf v0 p1 = some x) : Met l yX5_graceOf wsX5_graceOf rmX5_graceOf (va_Pc [.ref (a0 0), .int p1] (PR E (wHS E a0 v0))) (vp_Si (fun r => r = x)) 0 0 (fun _ => False) := by
  refine Met.ofW (cc := cX5_graceOf) (maxL := 2) (ret := some .int) (by decide) rfl ?_
  intro p e s m args below meth c s₁ B hml hv
  obtain ⟨ha, hP, hC⟩ := hv
  have hx := B.exec
  have hb := B.bytes
  have hr := B.returns
  have hts := atoms_spec (ws := wsX5_graceOf) B.pre
  have hown : s.vm.findClass RX5 = some m.cls := findClass_of_methodNamed B.named
  have hlocks := B.notSynchronized
  have hS : va_S (fun _ => False) s.heap s.heap [] := va_S.rf
  have w1 : (Cond.initialized RX10).before args s = true := hts _ (List.mem_of_getElem? (i := 5) rfl)
  have w2 : (Cond.static yX10_isFile).before args s = true := hts _ (List.mem_of_getElem? (i := 4) rfl)
  have w3 : (Cond.fieldLink RX5 21 "GreatChunks$House" "grace" "I").before args s = true := hts _ (List.mem_of_getElem? (i := 3) rfl)
  have w4 : ∀ w ∈ wsX50, w ∈ wsX5_graceOf := in_pl 18 rfl
  have w5 : (Cond.fieldLink RX5 51 "GreatChunks$House" "files" "LGreatChunks$Files;").before args s = true := hts _ (List.mem_of_getElem? (i := 1) rfl)
  have w6 : (Cond.fieldLink RX5 155 "GreatChunks$Files" "kind" "[I").before args s = true := hts _ (List.mem_of_getElem? (i := 2) rfl)
  have w7 : ∀ w ∈ wsX30, w ∈ wsX5_graceOf := in_pl 27 rfl
  generalize hQe : MQ below (vp_Si (fun r => r = x)) args s 0 0 (fun _ => False) = Q
  refine st_W ha (Nat.le_of_ble_eq_true rfl) (fun ls hl => ?_)
  have hl : lv_has ls 2 [(0, .ref (a0 0)), (1, .int p1)] := hl
  unfold f_X5_graceOf at hf
  refine lv_iload_n hx hb dX5_graceOf_0 rfl (lv_at hl 1 rfl) ?_
  refine cr_i (va_runSN (As := [.int p1]) (rest := []) ⟨hx, hb, hml, hown, hts⟩ (c_X10_isFile l E p1 _ rfl) ⟨va_cnB 1 hts gX5_graceOf_X10_isFile_n152 rfl rfl rfl (hC.2.1 (RX5, 152, yX10_isFile, RX10) (List.mem_of_getElem? (i := 15) rfl)) w1 hdS_X10_isFile ⟨Nat.le_of_ble_eq_true rfl, Nat.le_of_ble_eq_true rfl⟩, w2, trivial⟩ ⟨PR.blind, PR.pre hC hS (hP.sub [] rfl)⟩ rfl rfl hl.1 rfl (lv_room (Nat.le_of_ble_eq_true rfl)) dX5_graceOf_1 ⟨Nat.le_of_ble_eq_true rfl, Nat.le_of_ble_eq_true rfl⟩) ?_
  refine lv_if_eq (tgt := 27) hx hb dX5_graceOf_4 rfl (fun c1 => ?_) (fun c1 => ?_)
  · have hf := it_t hf c1
    refine lv_aload_n hx hb dX5_graceOf_27 rfl (lv_at hl 0 rfl) ?_
    refine va_get (D := E.1) (ci := 4) (v := .int v0.2.2.2.1) (C := RX5) (T := TX5) (N := 9) hx hb hts w4 hown hC.1 hP 0 rfl rfl 3 (by decide) w3 (fun _ h9 => h9) rfl dX5_graceOf_28 ?_
    cases Option.some.inj hf
    subst hQe
    exact en_i hx hb hr hlocks dX5_graceOf_31
  · have hf := it_f hf c1
    refine lv_aload_n hx hb dX5_graceOf_7 rfl (lv_at hl 0 rfl) ?_
    refine va_get (D := E.1) (ci := 4) (v := .ref (a0 13)) (C := RX5) (T := TX5) (N := 9) hx hb hts w4 hown hC.1 hP 0 rfl rfl 8 (by decide) w5 (fun _ h9 => h9) rfl dX5_graceOf_8 ?_
    refine va_get (D := E.1) (ci := 3) (v := .ref (a0 15)) (C := RX3) (T := TX3) (N := 5) hx hb hts w7 hown hC.1 hP 13 rfl rfl 1 (by decide) w6 (fun _ h9 => h9) rfl dX5_graceOf_11 ?_
    refine lv_iload_n hx hb dX5_graceOf_14 rfl (lv_at hl 1 rfl) ?_
    obtain ⟨h2, hf⟩ := gdI_some hf
    refine va_iald hx hb hC.1 hP 15 0 rfl rfl h2 dX5_graceOf_15 ?_
    refine lv_iconst (v := 4) hx hb dX5_graceOf_16 rfl ?_
    obtain ⟨r3, e3, hf⟩ := bd_some hf
    refine cr_i (va_runS (As := [.int (v0.2.2.2.2.2.2.2.2.2.1 p1.toNatClampNeg), .int (4 : Int32)]) (rest := []) ⟨hx, hb, hml, hown, hts⟩ (c_X6_isOne l E (v0.2.2.2.2.2.2.2.2.2.1 p1.toNatClampNeg) (4 : Int32) r3 e3) (va_cwS 2 hts gX5_graceOf_X6_isOne rfl rfl rfl hdS_X6_isOne ⟨Nat.le_of_ble_eq_true rfl, Nat.le_of_ble_eq_true rfl⟩) ⟨PR.blind, PR.pre hC hS (hP.sub [] rfl)⟩ rfl rfl hl.1 rfl (lv_room (Nat.le_of_ble_eq_true rfl)) dX5_graceOf_17 ⟨Nat.le_of_ble_eq_true rfl, Nat.le_of_ble_eq_true rfl⟩) ?_
    refine lv_if_eq (tgt := 27) hx hb dX5_graceOf_20 rfl (fun c4 => ?_) (fun c4 => ?_)
    · have hf := it_t hf c4
      refine lv_aload_n hx hb dX5_graceOf_27 rfl (lv_at hl 0 rfl) ?_
      refine va_get (D := E.1) (ci := 4) (v := .int v0.2.2.2.1) (C := RX5) (T := TX5) (N := 9) hx hb hts w4 hown hC.1 hP 0 rfl rfl 3 (by decide) w3 (fun _ h9 => h9) rfl dX5_graceOf_28 ?_
      cases Option.some.inj hf
      subst hQe
      exact en_i hx hb hr hlocks dX5_graceOf_31
    · have hf := it_f hf c4
      refine lv_iconst (v := 0) hx hb dX5_graceOf_23 rfl ?_
      refine lv_goto (tgt := 31) hx hb dX5_graceOf_24 rfl ?_
      cases Option.some.inj hf
      subst hQe
      exact en_i hx hb hr hlocks dX5_graceOf_31

/-! X5_hasCell -/
abbrev rmX5_hasCell : Room := { frames := 2, cells := 0, slots := 0, locals := 42 }
theorem hdS_X5_hasCell : yX5_hasCell.cls ≠ "java/lang/invoke/MethodHandle" ∧ yX5_hasCell.cls ≠ "java/lang/invoke/VarHandle" ∧ (parseMethodDescriptor yX5_hasCell.desc).map (fun d => d.parameters.length) = some 2 := by decide +kernel
theorem hdV_X5_hasCell : yX5_hasCell.cls = RX5 ∧ yX5_hasCell.cls ≠ "java/lang/invoke/MethodHandle" ∧ yX5_hasCell.cls ≠ "java/lang/invoke/VarHandle" ∧ (parseMethodDescriptor yX5_hasCell.desc).map (fun d => d.parameters.length) = some 2 := ⟨rfl, hdS_X5_hasCell⟩
set_option maxHeartbeats 4000000 in
set_option maxRecDepth 100000 in
theorem c_X5_hasCell (l : Launch) (E : G0) (a0 : Nat → Nat) (v0 : HS) (p1 : Int32) (p2 : Int32) (x : Bool) (hf : f_X5_hasCell v0 p1 p2 = some x) : Met l yX5_hasCell wsX5_hasCell rmX5_hasCell (va_Pc [.ref (a0 0), .int p1, .int p2] (PR E (wHS E a0 v0))) (vp_Si (fun r => r = bI x)) 0 0 (fun _ => False) := by
  refine Met.ofW (cc := cX5_hasCell) (maxL := 3) (ret := some .boolean) (by decide) rfl ?_
  intro p e s m args below meth c s₁ B hml hv
  obtain ⟨ha, hP, hC⟩ := hv
  have hx := B.exec
  have hb := B.bytes
  have hr := B.returns
  have hts := atoms_spec (ws := wsX5_hasCell) B.pre
  have hown : s.vm.findClass RX5 = some m.cls := findClass_of_methodNamed B.named
  have hlocks := B.notSynchronized
  have hS : va_S (fun _ => False) s.heap s.heap [] := va_S.rf
  have w1 : (Cond.initialized RX10).before args s = true := hts _ (List.mem_of_getElem? (i := 5) rfl)
  have w2 : (Cond.static yX10_isFile).before args s = true := hts _ (List.mem_of_getElem? (i := 4) rfl)
  have w3 : (Cond.fieldLink RX5 15 "GreatChunks$House" "size" "I").before args s = true := hts _ (List.mem_of_getElem? (i := 1) rfl)
  have w4 : ∀ w ∈ wsX50, w ∈ wsX5_hasCell := in_pl 10 rfl
  have w5 : (Cond.fieldLink RX5 51 "GreatChunks$House" "files" "LGreatChunks$Files;").before args s = true := hts _ (List.mem_of_getElem? (i := 2) rfl)
  have w6 : (Cond.fieldLink RX5 158 "GreatChunks$Files" "many" "[I").before args s = true := hts _ (List.mem_of_getElem? (i := 3) rfl)
  have w7 : ∀ w ∈ wsX30, w ∈ wsX5_hasCell := in_pl 19 rfl
  generalize hQe : MQ below (vp_Si (fun r => r = bI x)) args s 0 0 (fun _ => False) = Q
  refine st_W ha (Nat.le_of_ble_eq_true rfl) (fun ls hl => ?_)
  have hl : lv_has ls 3 [(0, .ref (a0 0)), (1, .int p1), (2, .int p2)] := hl
  unfold f_X5_hasCell at hf
  refine lv_iload_n hx hb dX5_hasCell_0 rfl (lv_at hl 1 rfl) ?_
  refine cr_i (va_runSN (As := [.int p1]) (rest := []) ⟨hx, hb, hml, hown, hts⟩ (c_X10_isFile l E p1 _ rfl) ⟨va_cnB 1 hts gX5_hasCell_X10_isFile_n152 rfl rfl rfl (hC.2.1 (RX5, 152, yX10_isFile, RX10) (List.mem_of_getElem? (i := 15) rfl)) w1 hdS_X10_isFile ⟨Nat.le_of_ble_eq_true rfl, Nat.le_of_ble_eq_true rfl⟩, w2, trivial⟩ ⟨PR.blind, PR.pre hC hS (hP.sub [] rfl)⟩ rfl rfl hl.1 rfl (lv_room (Nat.le_of_ble_eq_true rfl)) dX5_hasCell_1 ⟨Nat.le_of_ble_eq_true rfl, Nat.le_of_ble_eq_true rfl⟩) ?_
  refine lv_if_eq (tgt := 33) hx hb dX5_hasCell_4 rfl (fun c1 => ?_) (fun c1 => ?_)
  · have hf := it_t hf c1
    refine lv_iconst (v := 0) hx hb dX5_hasCell_33 rfl ?_
    cases Option.some.inj hf
    subst hQe
    exact en_z hx hb hr hlocks rfl dX5_hasCell_34
  · have hf := it_f hf c1
    refine lv_iload_n hx hb dX5_hasCell_7 rfl (lv_at hl 2 rfl) ?_
    refine lv_if_lt (tgt := 33) hx hb dX5_hasCell_8 rfl (fun c2 => ?_) (fun c2 => ?_)
    · have hf := it_t hf c2
      refine lv_iconst (v := 0) hx hb dX5_hasCell_33 rfl ?_
      cases Option.some.inj hf
      subst hQe
      exact en_z hx hb hr hlocks rfl dX5_hasCell_34
    · have hf := it_f hf c2
      refine lv_iload_n hx hb dX5_hasCell_11 rfl (lv_at hl 2 rfl) ?_
      refine lv_aload_n hx hb dX5_hasCell_12 rfl (lv_at hl 0 rfl) ?_
      refine va_get (D := E.1) (ci := 4) (v := .int v0.2.1) (C := RX5) (T := TX5) (N := 9) hx hb hts w4 hown hC.1 hP 0 rfl rfl 1 (by decide) w3 (fun _ h9 => h9) rfl dX5_hasCell_13 ?_
      refine lv_aload_n hx hb dX5_hasCell_16 rfl (lv_at hl 0 rfl) ?_
      refine va_get (D := E.1) (ci := 4) (v := .ref (a0 13)) (C := RX5) (T := TX5) (N := 9) hx hb hts w4 hown hC.1 hP 0 rfl rfl 8 (by decide) w5 (fun _ h9 => h9) rfl dX5_hasCell_17 ?_
      refine va_get (D := E.1) (ci := 3) (v := .ref (a0 17)) (C := RX3) (T := TX3) (N := 5) hx hb hts w7 hown hC.1 hP 13 rfl rfl 3 (by decide) w6 (fun _ h9 => h9) rfl dX5_hasCell_20 ?_
      refine lv_iload_n hx hb dX5_hasCell_23 rfl (lv_at hl 1 rfl) ?_
      obtain ⟨h3, hf⟩ := gdI_some hf
      refine va_iald hx hb hC.1 hP 17 0 rfl rfl h3 dX5_hasCell_24 ?_
      refine lv_imul hx hb dX5_hasCell_25 ?_
      refine lv_icmp_ge (tgt := 33) hx hb dX5_hasCell_26 rfl (fun c4 => ?_) (fun c4 => ?_)
      · have hf := it_t hf c4
        refine lv_iconst (v := 0) hx hb dX5_hasCell_33 rfl ?_
        cases Option.some.inj hf
        subst hQe
        exact en_z hx hb hr hlocks rfl dX5_hasCell_34
      · have hf := it_f hf c4
        refine lv_iconst (v := 1) hx hb dX5_hasCell_29 rfl ?_
        refine lv_goto (tgt := 34) hx hb dX5_hasCell_30 rfl ?_
        cases Option.some.inj hf
        subst hQe
        exact en_z hx hb hr hlocks rfl dX5_hasCell_34

/-! X5_rowOf -/
abbrev rmX5_rowOf : Room := { frames := 0, cells := 0, slots := 0, locals := 0 }
theorem hdS_X5_rowOf : yX5_rowOf.cls ≠ "java/lang/invoke/MethodHandle" ∧ yX5_rowOf.cls ≠ "java/lang/invoke/VarHandle" ∧ (parseMethodDescriptor yX5_rowOf.desc).map (fun d => d.parameters.length) = some 1 := by decide +kernel
theorem hdV_X5_rowOf : yX5_rowOf.cls = RX5 ∧ yX5_rowOf.cls ≠ "java/lang/invoke/MethodHandle" ∧ yX5_rowOf.cls ≠ "java/lang/invoke/VarHandle" ∧ (parseMethodDescriptor yX5_rowOf.desc).map (fun d => d.parameters.length) = some 1 := ⟨rfl, hdS_X5_rowOf⟩
set_option maxHeartbeats 4000000 in
set_option maxRecDepth 100000 in
theorem c_X5_rowOf (l : Launch) (E : G0) (a0 : Nat → Nat) (v0 : HS) (p1 : Int32) (x : Int32) (hf : f_X5_rowOf v0 p1 = some x) : Met l yX5_rowOf wsX5_rowOf rmX5_rowOf (va_Pc [.ref (a0 0), .int p1] (PR E (wHS E a0 v0))) (vp_Si (fun r => r = x)) 0 0 (fun _ => False) := by
  refine Met.ofW (cc := cX5_rowOf) (maxL := 2) (ret := some .int) (by decide) rfl ?_
  intro p e s m args below meth c s₁ B hml hv
  obtain ⟨ha, hP, hC⟩ := hv
  have hx := B.exec
  have hb := B.bytes
  have hr := B.returns
  have hts := atoms_spec (ws := wsX5_rowOf) B.pre
  have hown : s.vm.findClass RX5 = some m.cls := findClass_of_methodNamed B.named
  have hlocks := B.notSynchronized
  have hS : va_S (fun _ => False) s.heap s.heap [] := va_S.rf
  have w1 : (Cond.fieldLink RX5 15 "GreatChunks$House" "size" "I").before args s = true := hts _ (List.mem_of_getElem? (i := 1) rfl)
  have w2 : ∀ w ∈ wsX50, w ∈ wsX5_rowOf := in_pl 2 rfl
  generalize hQe : MQ below (vp_Si (fun r => r = x)) args s 0 0 (fun _ => False) = Q
  refine st_W ha (Nat.le_of_ble_eq_true rfl) (fun ls hl => ?_)
  have hl : lv_has ls 2 [(0, .ref (a0 0)), (1, .int p1)] := hl
  unfold f_X5_rowOf at hf
  refine lv_aload_n hx hb dX5_rowOf_0 rfl (lv_at hl 0 rfl) ?_
  refine va_get (D := E.1) (ci := 4) (v := .int v0.2.1) (C := RX5) (T := TX5) (N := 9) hx hb hts w2 hown hC.1 hP 0 rfl rfl 1 (by decide) w1 (fun _ h9 => h9) rfl dX5_rowOf_1 ?_
  refine lv_iconst (v := 1) hx hb dX5_rowOf_4 rfl ?_
  refine lv_icmp_ge (tgt := 12) hx hb dX5_rowOf_5 rfl (fun c1 => ?_) (fun c1 => ?_)
  · have hf := it_t hf c1
    refine lv_iload_n hx hb dX5_rowOf_12 rfl (lv_at hl 1 rfl) ?_
    refine lv_aload_n hx hb dX5_rowOf_13 rfl (lv_at hl 0 rfl) ?_
    refine va_get (D := E.1) (ci := 4) (v := .int v0.2.1) (C := RX5) (T := TX5) (N := 9) hx hb hts w2 hown hC.1 hP 0 rfl rfl 1 (by decide) w1 (fun _ h9 => h9) rfl dX5_rowOf_14 ?_
    obtain ⟨h2, hf⟩ := gdZ_some hf
    refine lv_idiv hx hb dX5_rowOf_17 h2 ?_
    cases Option.some.inj hf
    subst hQe
    exact en_i hx hb hr hlocks dX5_rowOf_18
  · have hf := it_f hf c1
    refine lv_iconst (v := 0) hx hb dX5_rowOf_8 rfl ?_
    refine lv_goto (tgt := 18) hx hb dX5_rowOf_9 rfl ?_
    cases Option.some.inj hf
    subst hQe
    exact en_i hx hb hr hlocks dX5_rowOf_18

/-! X5_cellOf -/
abbrev rmX5_cellOf : Room := { frames := 0, cells := 0, slots := 0, locals := 0 }
theorem hdS_X5_cellOf : yX5_cellOf.cls ≠ "java/lang/invoke/MethodHandle" ∧ yX5_cellOf.cls ≠ "java/lang/invoke/VarHandle" ∧ (parseMethodDescriptor yX5_cellOf.desc).map (fun d => d.parameters.length) = some 1 := by decide +kernel
theorem hdV_X5_cellOf : yX5_cellOf.cls = RX5 ∧ yX5_cellOf.cls ≠ "java/lang/invoke/MethodHandle" ∧ yX5_cellOf.cls ≠ "java/lang/invoke/VarHandle" ∧ (parseMethodDescriptor yX5_cellOf.desc).map (fun d => d.parameters.length) = some 1 := ⟨rfl, hdS_X5_cellOf⟩
set_option maxHeartbeats 4000000 in
set_option maxRecDepth 100000 in
theorem c_X5_cellOf (l : Launch) (E : G0) (a0 : Nat → Nat) (v0 : HS) (p1 : Int32) (x : Int32) (hf : f_X5_cellOf v0 p1 = some x) : Met l yX5_cellOf wsX5_cellOf rmX5_cellOf (va_Pc [.ref (a0 0), .int p1] (PR E (wHS E a0 v0))) (vp_Si (fun r => r = x)) 0 0 (fun _ => False) := by
  refine Met.ofW (cc := cX5_cellOf) (maxL := 2) (ret := some .int) (by decide) rfl ?_
  intro p e s m args below meth c s₁ B hml hv
  obtain ⟨ha, hP, hC⟩ := hv
  have hx := B.exec
  have hb := B.bytes
  have hr := B.returns
  have hts := atoms_spec (ws := wsX5_cellOf) B.pre
  have hown : s.vm.findClass RX5 = some m.cls := findClass_of_methodNamed B.named
  have hlocks := B.notSynchronized
  have hS : va_S (fun _ => False) s.heap s.heap [] := va_S.rf
  have w1 : (Cond.fieldLink RX5 15 "GreatChunks$House" "size" "I").before args s = true := hts _ (List.mem_of_getElem? (i := 1) rfl)
  have w2 : ∀ w ∈ wsX50, w ∈ wsX5_cellOf := in_pl 2 rfl
  generalize hQe : MQ below (vp_Si (fun r => r = x)) args s 0 0 (fun _ => False) = Q
  refine st_W ha (Nat.le_of_ble_eq_true rfl) (fun ls hl => ?_)
  have hl : lv_has ls 2 [(0, .ref (a0 0)), (1, .int p1)] := hl
  unfold f_X5_cellOf at hf
  refine lv_aload_n hx hb dX5_cellOf_0 rfl (lv_at hl 0 rfl) ?_
  refine va_get (D := E.1) (ci := 4) (v := .int v0.2.1) (C := RX5) (T := TX5) (N := 9) hx hb hts w2 hown hC.1 hP 0 rfl rfl 1 (by decide) w1 (fun _ h9 => h9) rfl dX5_cellOf_1 ?_
  refine lv_iconst (v := 1) hx hb dX5_cellOf_4 rfl ?_
  refine lv_icmp_ge (tgt := 12) hx hb dX5_cellOf_5 rfl (fun c1 => ?_) (fun c1 => ?_)
  · have hf := it_t hf c1
    refine lv_iload_n hx hb dX5_cellOf_12 rfl (lv_at hl 1 rfl) ?_
    refine lv_aload_n hx hb dX5_cellOf_13 rfl (lv_at hl 0 rfl) ?_
    refine va_get (D := E.1) (ci := 4) (v := .int v0.2.1) (C := RX5) (T := TX5) (N := 9) hx hb hts w2 hown hC.1 hP 0 rfl rfl 1 (by decide) w1 (fun _ h9 => h9) rfl dX5_cellOf_14 ?_
    obtain ⟨h2, hf⟩ := gdZ_some hf
    refine lv_irem hx hb dX5_cellOf_17 h2 ?_
    cases Option.some.inj hf
    subst hQe
    exact en_i hx hb hr hlocks dX5_cellOf_18
  · have hf := it_f hf c1
    refine lv_iconst (v := 0) hx hb dX5_cellOf_8 rfl ?_
    refine lv_goto (tgt := 18) hx hb dX5_cellOf_9 rfl ?_
    cases Option.some.inj hf
    subst hQe
    exact en_i hx hb hr hlocks dX5_cellOf_18

/-! X5_readCell -/
abbrev rmX5_readCell : Room := { frames := 3, cells := 0, slots := 0, locals := 67 }
theorem hdS_X5_readCell : yX5_readCell.cls ≠ "java/lang/invoke/MethodHandle" ∧ yX5_readCell.cls ≠ "java/lang/invoke/VarHandle" ∧ (parseMethodDescriptor yX5_readCell.desc).map (fun d => d.parameters.length) = some 3 := by decide +kernel
theorem hdV_X5_readCell : yX5_readCell.cls = RX5 ∧ yX5_readCell.cls ≠ "java/lang/invoke/MethodHandle" ∧ yX5_readCell.cls ≠ "java/lang/invoke/VarHandle" ∧ (parseMethodDescriptor yX5_readCell.desc).map (fun d => d.parameters.length) = some 3 := ⟨rfl, hdS_X5_readCell⟩
set_option maxHeartbeats 4000000 in
set_option maxRecDepth 100000 in
theorem c_X5_readCell (l : Launch) (E : G0) (a0 : Nat → Nat) (v0 : HS) (p1 : Int32) (p2 : Int32) (p3 : Int32) (x : Int32) (hf : f_X5_readCell v0 p1 p2 p3 = some x) : Met l yX5_readCell wsX5_readCell rmX5_readCell (va_Pc [.ref (a0 0), .int p1, .int p2, .int p3] (PR E (wHS E a0 v0))) (vp_Si (fun r => r = x)) 0 0 (fun _ => False) := by
  refine Met.ofW (cc := cX5_readCell) (maxL := 5) (ret := some .int) (by decide) rfl ?_
  intro p e s m args below meth c s₁ B hml hv
  obtain ⟨ha, hP, hC⟩ := hv
  have hx := B.exec
  have hb := B.bytes
  have hr := B.returns
  have hts := atoms_spec (ws := wsX5_readCell) B.pre
  have hown : s.vm.findClass RX5 = some m.cls := findClass_of_methodNamed B.named
  have hlocks := B.notSynchronized
  have hS : va_S (fun _ => False) s.heap s.heap [] := va_S.rf
  have w1 : (Cond.fieldLink RX5 30 "GreatChunks$House" "servers" "LGreatChunks$Servers;").before args s = true := hts _ (List.mem_of_getElem? (i := 1) rfl)
  have w2 : ∀ w ∈ wsX50, w ∈ wsX5_readCell := in_pl 75 rfl
  have w3 : (Cond.constant RX5 163 (-1000007)).before args s = true := hts _ (List.mem_of_getElem? (i := 2) rfl)
  have w4 : (Cond.fieldLink RX5 51 "GreatChunks$House" "files" "LGreatChunks$Files;").before args s = true := hts _ (List.mem_of_getElem? (i := 3) rfl)
  have w5 : (Cond.fieldLink RX5 44 "GreatChunks$House" "copies" "LGreatChunks$Copies;").before args s = true := hts _ (List.mem_of_getElem? (i := 4) rfl)
  have w6 : (Cond.constant RX5 170 (-1000000)).before args s = true := hts _ (List.mem_of_getElem? (i := 5) rfl)
  have w7 : (Cond.constant RX5 178 (-1000006)).before args s = true := hts _ (List.mem_of_getElem? (i := 6) rfl)
  generalize hQe : MQ below (vp_Si (fun r => r = x)) args s 0 0 (fun _ => False) = Q
  refine st_W ha (Nat.le_of_ble_eq_true rfl) (fun ls hl => ?_)
  have hl : lv_has ls 5 [(0, .ref (a0 0)), (1, .int p1), (2, .int p2), (3, .int p3)] := hl
  unfold f_X5_readCell at hf
  refine lv_aload_n hx hb dX5_readCell_0 rfl (lv_at hl 0 rfl) ?_
  refine va_get (D := E.1) (ci := 4) (v := .ref (a0 1)) (C := RX5) (T := TX5) (N := 9) hx hb hts w2 hown hC.1 hP 0 rfl rfl 5 (by decide) w1 (fun _ h9 => h9) rfl dX5_readCell_1 ?_
  refine lv_iload_n hx hb dX5_readCell_4 rfl (lv_at hl 3 rfl) ?_
  refine cr_i (va_runV (As := [.int p3]) (rest := []) ⟨hx, hb, hml, hown, hts⟩ (c_X8_hasUp l E (fun k => a0 (k + 1)) v0.2.2.2.2.2.1 p3 _ rfl) (cwV 1 hts gX5_readCell_X8_hasUp rfl rfl rfl hdV_X8_hasUp ⟨Nat.le_of_ble_eq_true rfl, Nat.le_of_ble_eq_true rfl⟩) ⟨PR.blind, va_recv hC.1 hP (ci := 6) (q0 := 1) rfl rfl, PR.pre hC hS (hP.sub [1, 2, 3] rfl)⟩ rfl rfl hl.1 rfl (lv_room (Nat.le_of_ble_eq_true rfl)) dX5_readCell_5 ⟨Nat.le_of_ble_eq_true rfl, Nat.le_of_ble_eq_true rfl⟩) ?_
  refine lv_if_ne (tgt := 14) hx hb dX5_readCell_8 rfl (fun c1 => ?_) (fun c1 => ?_)
  · have hf := it_f hf c1
    refine lv_aload_n hx hb dX5_readCell_14 rfl (lv_at hl 0 rfl) ?_
    refine va_get (D := E.1) (ci := 4) (v := .ref (a0 13)) (C := RX5) (T := TX5) (N := 9) hx hb hts w2 hown hC.1 hP 0 rfl rfl 8 (by decide) w4 (fun _ h9 => h9) rfl dX5_readCell_15 ?_
    refine lv_iload_n hx hb dX5_readCell_18 rfl (lv_at hl 1 rfl) ?_
    refine lv_aload_n hx hb dX5_readCell_19 rfl (lv_at hl 0 rfl) ?_
    refine lv_iload_n hx hb dX5_readCell_20 rfl (lv_at hl 2 rfl) ?_
    obtain ⟨r2, e2, hf⟩ := bd_some hf
    refine cr_i (va_runV (As := [.int p2]) (rest := [.int p1, .ref (a0 13)]) ⟨hx, hb, hml, hown, hts⟩ (c_X5_rowOf l E a0 v0 p2 r2 e2) (cwV 1 hts gX5_readCell_X5_rowOf rfl rfl rfl hdV_X5_rowOf ⟨Nat.le_of_ble_eq_true rfl, Nat.le_of_ble_eq_true rfl⟩) ⟨PR.blind, va_recv hC.1 hP (ci := 4) (q0 := 0) rfl rfl, PR.pre hC hS hP⟩ rfl rfl hl.1 rfl (lv_room (Nat.le_of_ble_eq_true rfl)) dX5_readCell_21 ⟨Nat.le_of_ble_eq_true rfl, Nat.le_of_ble_eq_true rfl⟩) ?_
    obtain ⟨r3, e3, hf⟩ := bd_some hf
    refine cr_i (va_runV (As := [.int p1, .int r2]) (rest := []) ⟨hx, hb, hml, hown, hts⟩ (c_X3_chunkOf l E (fun k => a0 (k + 13)) v0.2.2.2.2.2.2.2.2 p1 r2 r3 e3) (cwV 2 hts gX5_readCell_X3_chunkOf rfl rfl rfl hdV_X3_chunkOf ⟨Nat.le_of_ble_eq_true rfl, Nat.le_of_ble_eq_true rfl⟩) ⟨PR.blind, va_recv hC.1 hP (ci := 3) (q0 := 13) rfl rfl, PR.pre hC hS (hP.sub [13, 14, 15, 16, 17, 18] rfl)⟩ rfl rfl hl.1 rfl (lv_room (Nat.le_of_ble_eq_true rfl)) dX5_readCell_24 ⟨Nat.le_of_ble_eq_true rfl, Nat.le_of_ble_eq_true rfl⟩) ?_
    refine lv_istore (lv' := [(4, .int r3), (0, .ref (a0 0)), (1, .int p1), (2, .int p2), (3, .int p3)]) hx hb dX5_readCell_27 hl (by decide) rfl (fun ls hl => ?_)
    refine lv_aload_n hx hb dX5_readCell_29 rfl (lv_at hl 1 rfl) ?_
    refine va_get (D := E.1) (ci := 4) (v := .ref (a0 9)) (C := RX5) (T := TX5) (N := 9) hx hb hts w2 hown hC.1 hP 0 rfl rfl 7 (by decide) w5 (fun _ h9 => h9) rfl dX5_readCell_30 ?_
    refine lv_iload_n hx hb dX5_readCell_33 rfl (lv_at hl 4 rfl) ?_
    refine lv_iload hx hb dX5_readCell_34 (lv_at hl 0 rfl) ?_
    obtain ⟨r4, e4, hf⟩ := bd_some hf
    refine cr_i (va_runV (As := [.int p3, .int r3]) (rest := []) ⟨hx, hb, hml, hown, hts⟩ (c_X2_lies l E (fun k => a0 (k + 9)) v0.2.2.2.2.2.2.2.1 p3 r3 r4 e4) (cwV 2 hts gX5_readCell_X2_lies rfl rfl rfl hdV_X2_lies ⟨Nat.le_of_ble_eq_true rfl, Nat.le_of_ble_eq_true rfl⟩) ⟨PR.blind, va_recv hC.1 hP (ci := 2) (q0 := 9) rfl rfl, PR.pre hC hS (hP.sub [9, 10, 11, 12] rfl)⟩ rfl rfl hl.1 rfl (lv_room (Nat.le_of_ble_eq_true rfl)) dX5_readCell_36 ⟨Nat.le_of_ble_eq_true rfl, Nat.le_of_ble_eq_true rfl⟩) ?_
    refine lv_if_ne (tgt := 45) hx hb dX5_readCell_39 rfl (fun c5 => ?_) (fun c5 => ?_)
    · have hf := it_f hf c5
      refine lv_aload_n hx hb dX5_readCell_45 rfl (lv_at hl 1 rfl) ?_
      refine lv_iload_n hx hb dX5_readCell_46 rfl (lv_at hl 4 rfl) ?_
      refine lv_iload hx hb dX5_readCell_47 (lv_at hl 0 rfl) ?_
      obtain ⟨r6, e6, hf⟩ := bd_some hf
      refine cr_i (va_runV (As := [.int p3, .int r3]) (rest := []) ⟨hx, hb, hml, hown, hts⟩ (c_X5_isGood l E a0 v0 p3 r3 r6 e6) (cwV 2 hts gX5_readCell_X5_isGood rfl rfl rfl hdV_X5_isGood ⟨Nat.le_of_ble_eq_true rfl, Nat.le_of_ble_eq_true rfl⟩) ⟨PR.blind, va_recv hC.1 hP (ci := 4) (q0 := 0) rfl rfl, PR.pre hC hS hP⟩ rfl rfl hl.1 rfl (lv_room (Nat.le_of_ble_eq_true rfl)) dX5_readCell_49 ⟨Nat.le_of_ble_eq_true rfl, Nat.le_of_ble_eq_true rfl⟩) ?_
      refine lv_if_eq (tgt := 73) hx hb dX5_readCell_52 rfl (fun c7 => ?_) (fun c7 => ?_)
      · have hf := it_t hf c7
        refine lv_ldc hx hb hown w7 dX5_readCell_73 ?_
        cases Option.some.inj hf
        subst hQe
        exact en_i hx hb hr hlocks dX5_readCell_75
      · have hf := it_f hf c7
        refine lv_aload_n hx hb dX5_readCell_55 rfl (lv_at hl 1 rfl) ?_
        refine va_get (D := E.1) (ci := 4) (v := .ref (a0 9)) (C := RX5) (T := TX5) (N := 9) hx hb hts w2 hown hC.1 hP 0 rfl rfl 7 (by decide) w5 (fun _ h9 => h9) rfl dX5_readCell_56 ?_
        refine lv_iload_n hx hb dX5_readCell_59 rfl (lv_at hl 4 rfl) ?_
        refine lv_iload hx hb dX5_readCell_60 (lv_at hl 0 rfl) ?_
        refine lv_aload_n hx hb dX5_readCell_62 rfl (lv_at hl 1 rfl) ?_
        refine lv_iload_n hx hb dX5_readCell_63 rfl (lv_at hl 3 rfl) ?_
        obtain ⟨r8, e8, hf⟩ := bd_some hf
        refine cr_i (va_runV (As := [.int p2]) (rest := [.int r3, .int p3, .ref (a0 9)]) ⟨hx, hb, hml, hown, hts⟩ (c_X5_cellOf l E a0 v0 p2 r8 e8) (cwV 1 hts gX5_readCell_X5_cellOf rfl rfl rfl hdV_X5_cellOf ⟨Nat.le_of_ble_eq_true rfl, Nat.le_of_ble_eq_true rfl⟩) ⟨PR.blind, va_recv hC.1 hP (ci := 4) (q0 := 0) rfl rfl, PR.pre hC hS hP⟩ rfl rfl hl.1 rfl (lv_room (Nat.le_of_ble_eq_true rfl)) dX5_readCell_64 ⟨Nat.le_of_ble_eq_true rfl, Nat.le_of_ble_eq_true rfl⟩) ?_
        obtain ⟨r9, e9, hf⟩ := bd_some hf
        refine cr_i (va_runV (As := [.int p3, .int r3, .int r8]) (rest := []) ⟨hx, hb, hml, hown, hts⟩ (c_X2_cell l E (fun k => a0 (k + 9)) v0.2.2.2.2.2.2.2.1 p3 r3 r8 r9 e9) (cwV 3 hts gX5_readCell_X2_cell rfl rfl rfl hdV_X2_cell ⟨Nat.le_of_ble_eq_true rfl, Nat.le_of_ble_eq_true rfl⟩) ⟨PR.blind, va_recv hC.1 hP (ci := 2) (q0 := 9) rfl rfl, PR.pre hC hS (hP.sub [9, 10, 11, 12] rfl)⟩ rfl rfl hl.1 rfl (lv_room (Nat.le_of_ble_eq_true rfl)) dX5_readCell_67 ⟨Nat.le_of_ble_eq_true rfl, Nat.le_of_ble_eq_true rfl⟩) ?_
        refine lv_goto (tgt := 75) hx hb dX5_readCell_70 rfl ?_
        cases Option.some.inj hf
        subst hQe
        exact en_i hx hb hr hlocks dX5_readCell_75
    · have hf := it_t hf c5
      refine lv_ldc hx hb hown w6 dX5_readCell_42 ?_
      cases Option.some.inj hf
      subst hQe
      exact en_i hx hb hr hlocks dX5_readCell_44
  · have hf := it_t hf c1
    refine lv_ldc hx hb hown w3 dX5_readCell_11 ?_
    cases Option.some.inj hf
    subst hQe
    exact en_i hx hb hr hlocks dX5_readCell_13

/-! X5_placesIn -/
abbrev rmX5_placesIn : Room := { frames := 3, cells := 0, slots := 0, locals := 73 }
theorem hdS_X5_placesIn : yX5_placesIn.cls ≠ "java/lang/invoke/MethodHandle" ∧ yX5_placesIn.cls ≠ "java/lang/invoke/VarHandle" ∧ (parseMethodDescriptor yX5_placesIn.desc).map (fun d => d.parameters.length) = some 4 := by decide +kernel
theorem hdV_X5_placesIn : yX5_placesIn.cls = RX5 ∧ yX5_placesIn.cls ≠ "java/lang/invoke/MethodHandle" ∧ yX5_placesIn.cls ≠ "java/lang/invoke/VarHandle" ∧ (parseMethodDescriptor yX5_placesIn.desc).map (fun d => d.parameters.length) = some 4 := ⟨rfl, hdS_X5_placesIn⟩
set_option maxHeartbeats 4000000 in
set_option maxRecDepth 100000 in
theorem c_X5_placesIn (l : Launch) (E : G0) (a0 : Nat → Nat) (v0 : HS) (p1 : Int32) (p2 : Int32) (a3 n3 : Nat) (v3 : (Nat → Int32)) (p4 : Int32) (x : Int32) (hf : f_X5_placesIn v0 p1 p2 n3 v3 p4 = some x) : Met l yX5_placesIn wsX5_placesIn rmX5_placesIn (va_Pc [.ref (a0 0), .int p1, .int p2, .ref a3, .int p4] (PR E (wHS E a0 v0 ++ wIA E a3 n3 v3))) (vp_Si (fun r => r = x)) 0 0 (fun _ => False) := by
  refine Met.ofW (cc := cX5_placesIn) (maxL := 7) (ret := some .int) (by decide) rfl ?_
  intro p e s m args below meth c s₁ B hml hv
  obtain ⟨ha, hP, hC⟩ := hv
  have hx := B.exec
  have hb := B.bytes
  have hr := B.returns
  have hts := atoms_spec (ws := wsX5_placesIn) B.pre
  have hown : s.vm.findClass RX5 = some m.cls := findClass_of_methodNamed B.named
  have hlocks := B.notSynchronized
  have hS : va_S (fun _ => False) s.heap s.heap [] := va_S.rf
  have w1 : (Cond.fieldLink RX5 15 "GreatChunks$House" "size" "I").before args s = true := hts _ (List.mem_of_getElem? (i := 1) rfl)
  have w2 : ∀ w ∈ wsX50, w ∈ wsX5_placesIn := in_pl 17 rfl
  have w3 : (Cond.fieldLink RX5 44 "GreatChunks$House" "copies" "LGreatChunks$Copies;").before args s = true := hts _ (List.mem_of_getElem? (i := 2) rfl)
  generalize hQe : MQ below (vp_Si (fun r => r = x)) args s 0 0 (fun _ => False) = Q
  refine st_W ha (Nat.le_of_ble_eq_true rfl) (fun ls hl => ?_)
  have hl : lv_has ls 7 [(0, .ref (a0 0)), (1, .int p1), (2, .int p2), (3, .ref a3), (4, .int p4)] := hl
  unfold f_X5_placesIn at hf
  refine lv_iconst (v := 0) hx hb dX5_placesIn_0 rfl ?_
  refine lv_istore (lv' := [(5, .int (0 : Int32)), (0, .ref (a0 0)), (1, .int p1), (2, .int p2), (3, .ref a3), (4, .int p4)]) hx hb dX5_placesIn_1 hl (by decide) rfl (fun ls hl => ?_)
  refine lv_iconst (v := 0) hx hb dX5_placesIn_3 rfl ?_
  refine lv_istore (lv' := [(6, .int (0 : Int32)), (5, .int (0 : Int32)), (0, .ref (a0 0)), (1, .int p1), (2, .int p2), (3, .ref a3), (4, .int p4)]) hx hb dX5_placesIn_4 hl (by decide) rfl (fun ls hl => ?_)
  obtain ⟨K1, hK1, hf⟩ := jn_some hf
  have J1 : ∀ (q1 : Int32 × Int32) (ls : Array Slot) (hl : lv_has ls 7 [(5, .int q1.1)]) (hf : K1 q1 = some x), W p l e (headSpec wsX5_placesIn rmX5_placesIn).room s m args below meth c s.heap [] 0 0 Q (F0 m 51 ls []) := by
    intro q1 ls hl hf
    have hf := (hK1 q1).trans hf
    refine lv_iload hx hb dX5_placesIn_51 (lv_at hl 0 rfl) ?_
    cases Option.some.inj hf
    subst hQe
    exact en_i hx hb hr hlocks dX5_placesIn_53
  have L1 : ∀ (n : Nat) (q1 : Int32 × Int32) (ls : Array Slot) (hl : lv_has ls 7 [(0, .ref (a0 0)), (1, .int p1), (2, .int p2), (3, .ref a3), (4, .int p4), (5, .int q1.1), (6, .int q1.2)]) (hf : lpF (bX5_placesIn_1 v0 p4 p1 p2 n3 v3 K1) n q1 = some x), W p l e (headSpec wsX5_placesIn rmX5_placesIn).room s m args below meth c s.heap [] 0 0 Q (F0 m 6 ls []) := by
    intro n
    induction n with
    | zero => intro q1 ls hl hf; exact (lpF_zero hf).elim
    | succ n ih1 =>
      intro q1 ls hl hf
      have hf := lpF_succ hf
      unfold bX5_placesIn_1 at hf
      refine lv_iload hx hb dX5_placesIn_6 (lv_at hl 6 rfl) ?_
      refine lv_iload hx hb dX5_placesIn_8 (lv_at hl 4 rfl) ?_
      refine lv_iadd hx hb dX5_placesIn_10 ?_
      refine lv_aload_n hx hb dX5_placesIn_11 rfl (lv_at hl 0 rfl) ?_
      refine va_get (D := E.1) (ci := 4) (v := .int v0.2.1) (C := RX5) (T := TX5) (N := 9) hx hb hts w2 hown hC.1 hP 0 rfl rfl 1 (by decide) w1 (fun _ h9 => h9) rfl dX5_placesIn_12 ?_
      refine lv_icmp_gt (tgt := 51) hx hb dX5_placesIn_15 rfl (fun c2 => ?_) (fun c2 => ?_)
      · have hf := it_t hf c2
        exact J1 (q1.1, q1.2) ls (lv_sub hl [5] rfl) hf
      · have hf := it_f hf c2
        refine lv_iload hx hb dX5_placesIn_18 (lv_at hl 5 rfl) ?_
        refine lv_aload_n hx hb dX5_placesIn_20 rfl (lv_at hl 0 rfl) ?_
        refine va_get (D := E.1) (ci := 4) (v := .ref (a0 9)) (C := RX5) (T := TX5) (N := 9) hx hb hts w2 hown hC.1 hP 0 rfl rfl 7 (by decide) w3 (fun _ h9 => h9) rfl dX5_placesIn_21 ?_
        refine lv_iload_n hx hb dX5_placesIn_24 rfl (lv_at hl 1 rfl) ?_
        refine lv_iload_n hx hb dX5_placesIn_25 rfl (lv_at hl 2 rfl) ?_
        refine lv_iload hx hb dX5_placesIn_26 (lv_at hl 6 rfl) ?_
        refine lv_aload_n hx hb dX5_placesIn_28 rfl (lv_at hl 3 rfl) ?_
        refine lv_iload hx hb dX5_placesIn_29 (lv_at hl 4 rfl) ?_
        obtain ⟨r3, e3, hf⟩ := bd_some hf
        refine cr_i (va_runV (As := [.int p1, .int p2, .int q1.2, .ref a3, .int p4]) (rest := [.int q1.1]) ⟨hx, hb, hml, hown, hts⟩ (c_X2_holdsAt l E (fun k => a0 (k + 9)) v0.2.2.2.2.2.2.2.1 p1 p2 q1.2 a3 n3 v3 p4 r3 e3) (cwV 5 hts gX5_placesIn_X2_holdsAt rfl rfl rfl hdV_X2_holdsAt ⟨Nat.le_of_ble_eq_true rfl, Nat.le_of_ble_eq_true rfl⟩) ⟨PR.blind, va_recv hC.1 hP (ci := 2) (q0 := 9) rfl rfl, PR.pre hC hS (hP.sub [9, 10, 11, 12, 19] rfl)⟩ rfl rfl hl.1 rfl (lv_room (Nat.le_of_ble_eq_true rfl)) dX5_placesIn_31 ⟨Nat.le_of_ble_eq_true rfl, Nat.le_of_ble_eq_true rfl⟩) ?_
        refine lv_if_eq (tgt := 41) hx hb dX5_placesIn_34 rfl (fun c4 => ?_) (fun c4 => ?_)
        · have hf := it_t hf c4
          refine lv_iconst (v := 0) hx hb dX5_placesIn_41 rfl ?_
          refine lv_iadd hx hb dX5_placesIn_42 ?_
          refine lv_istore (lv' := [(5, .int (q1.1 + (0 : Int32))), (0, .ref (a0 0)), (1, .int p1), (2, .int p2), (3, .ref a3), (4, .int p4), (6, .int q1.2)]) hx hb dX5_placesIn_43 hl (by decide) rfl (fun ls hl => ?_)
          refine lv_iinc (v := (q1.2 + 1)) (lv' := [(6, .int (q1.2 + 1)), (5, .int (q1.1 + (0 : Int32))), (0, .ref (a0 0)), (1, .int p1), (2, .int p2), (3, .ref a3), (4, .int p4)]) hx hb dX5_placesIn_45 hl (k := 6) rfl rfl (by decide) rfl (fun ls hl => ?_)
          refine lv_goto (tgt := 6) hx hb dX5_placesIn_48 rfl ?_
          exact ih1 ((q1.1 + (0 : Int32)), (q1.2 + 1)) ls (lv_sub hl [2, 3, 4, 5, 6, 1, 0] rfl) hf
        · have hf := it_f hf c4
          refine lv_iconst (v := 1) hx hb dX5_placesIn_37 rfl ?_
          refine lv_goto (tgt := 42) hx hb dX5_placesIn_38 rfl ?_
          refine lv_iadd hx hb dX5_placesIn_42 ?_
          refine lv_istore (lv' := [(5, .int (q1.1 + (1 : Int32))), (0, .ref (a0 0)), (1, .int p1), (2, .int p2), (3, .ref a3), (4, .int p4), (6, .int q1.2)]) hx hb dX5_placesIn_43 hl (by decide) rfl (fun ls hl => ?_)
          refine lv_iinc (v := (q1.2 + 1)) (lv' := [(6, .int (q1.2 + 1)), (5, .int (q1.1 + (1 : Int32))), (0, .ref (a0 0)), (1, .int p1), (2, .int p2), (3, .ref a3), (4, .int p4)]) hx hb dX5_placesIn_45 hl (k := 6) rfl rfl (by decide) rfl (fun ls hl => ?_)
          refine lv_goto (tgt := 6) hx hb dX5_placesIn_48 rfl ?_
          exact ih1 ((q1.1 + (1 : Int32)), (q1.2 + 1)) ls (lv_sub hl [2, 3, 4, 5, 6, 1, 0] rfl) hf
  exact L1 FU ((0 : Int32), (0 : Int32)) ls (lv_sub hl [2, 3, 4, 5, 6, 1, 0] rfl) hf

/-! X5_placesOf -/
abbrev rmX5_placesOf : Room := { frames := 4, cells := 0, slots := 0, locals := 99 }
theorem hdS_X5_placesOf : yX5_placesOf.cls ≠ "java/lang/invoke/MethodHandle" ∧ yX5_placesOf.cls ≠ "java/lang/invoke/VarHandle" ∧ (parseMethodDescriptor yX5_placesOf.desc).map (fun d => d.parameters.length) = some 3 := by decide +kernel
theorem hdV_X5_placesOf : yX5_placesOf.cls = RX5 ∧ yX5_placesOf.cls ≠ "java/lang/invoke/MethodHandle" ∧ yX5_placesOf.cls ≠ "java/lang/invoke/VarHandle" ∧ (parseMethodDescriptor yX5_placesOf.desc).map (fun d => d.parameters.length) = some 3 := ⟨rfl, hdS_X5_placesOf⟩
set_option maxHeartbeats 4000000 in
set_option maxRecDepth 100000 in
theorem c_X5_placesOf (l : Launch) (E : G0) (a0 : Nat → Nat) (v0 : HS) (p1 : Int32) (a2 n2 : Nat) (v2 : (Nat → Int32)) (p3 : Int32) (x : Int32) (hf : f_X5_placesOf v0 p1 n2 v2 p3 = some x) : Met l yX5_placesOf wsX5_placesOf rmX5_placesOf (va_Pc [.ref (a0 0), .int p1, .ref a2, .int p3] (PR E (wHS E a0 v0 ++ wIA E a2 n2 v2))) (vp_Si (fun r => r = x)) 0 0 (fun _ => False) := by
  refine Met.ofW (cc := cX5_placesOf) (maxL := 8) (ret := some .int) (by decide) rfl ?_
  intro p e s m args below meth c s₁ B hml hv
  obtain ⟨ha, hP, hC⟩ := hv
  have hx := B.exec
  have hb := B.bytes
  have hr := B.returns
  have hts := atoms_spec (ws := wsX5_placesOf) B.pre
  have hown : s.vm.findClass RX5 = some m.cls := findClass_of_methodNamed B.named
  have hlocks := B.notSynchronized
  have hS : va_S (fun _ => False) s.heap s.heap [] := va_S.rf
  have w1 : (Cond.fieldLink RX5 51 "GreatChunks$House" "files" "LGreatChunks$Files;").before args s = true := hts _ (List.mem_of_getElem? (i := 1) rfl)
  have w2 : ∀ w ∈ wsX50, w ∈ wsX5_placesOf := in_pl 67 rfl
  have w3 : (Cond.constant RX5 182 (-1000004)).before args s = true := hts _ (List.mem_of_getElem? (i := 2) rfl)
  generalize hQe : MQ below (vp_Si (fun r => r = x)) args s 0 0 (fun _ => False) = Q
  refine st_W ha (Nat.le_of_ble_eq_true rfl) (fun ls hl => ?_)
  have hl : lv_has ls 8 [(0, .ref (a0 0)), (1, .int p1), (2, .ref a2), (3, .int p3)] := hl
  unfold f_X5_placesOf at hf
  refine lv_iconst (v := 0) hx hb dX5_placesOf_0 rfl ?_
  refine lv_istore (lv' := [(4, .int (0 : Int32)), (0, .ref (a0 0)), (1, .int p1), (2, .ref a2), (3, .int p3)]) hx hb dX5_placesOf_1 hl (by decide) rfl (fun ls hl => ?_)
  refine lv_iconst (v := 0) hx hb dX5_placesOf_3 rfl ?_
  refine lv_istore (lv' := [(5, .int (0 : Int32)), (4, .int (0 : Int32)), (0, .ref (a0 0)), (1, .int p1), (2, .ref a2), (3, .int p3)]) hx hb dX5_placesOf_4 hl (by decide) rfl (fun ls hl => ?_)
  obtain ⟨K1, hK1, hf⟩ := jn_some hf
  have J1 : ∀ (q1 : Int32 × Int32) (ls : Array Slot) (hl : lv_has ls 8 [(4, .int q1.1)]) (hf : K1 q1 = some x), W p l e (headSpec wsX5_placesOf rmX5_placesOf).room s m args below meth c s.heap [] 0 0 Q (F0 m 72 ls []) := by
    intro q1 ls hl hf
    have hf := (hK1 q1).trans hf
    refine lv_iload hx hb dX5_placesOf_72 (lv_at hl 0 rfl) ?_
    cases Option.some.inj hf
    subst hQe
    exact en_i hx hb hr hlocks dX5_placesOf_74
  have L1 : ∀ (n : Nat) (q1 : Int32 × Int32) (ls : Array Slot) (hl : lv_has ls 8 [(0, .ref (a0 0)), (1, .int p1), (2, .ref a2), (3, .int p3), (4, .int q1.1), (5, .int q1.2)]) (hf : lpF (bX5_placesOf_1 v0 p1 n2 v2 p3 K1) n q1 = some x), W p l e (headSpec wsX5_placesOf rmX5_placesOf).room s m args below meth c s.heap [] 0 0 Q (F0 m 6 ls []) := by
    intro n
    induction n with
    | zero => intro q1 ls hl hf; exact (lpF_zero hf).elim
    | succ n ih1 =>
      intro q1 ls hl hf
      have hf := lpF_succ hf
      unfold bX5_placesOf_1 at hf
      refine lv_iload hx hb dX5_placesOf_6 (lv_at hl 5 rfl) ?_
      refine lv_iconst (v := 4) hx hb dX5_placesOf_8 rfl ?_
      refine lv_icmp_ge (tgt := 72) hx hb dX5_placesOf_9 rfl (fun c2 => ?_) (fun c2 => ?_)
      · have hf := it_t hf c2
        exact J1 (q1.1, q1.2) ls (lv_sub hl [4] rfl) hf
      · have hf := it_f hf c2
        refine lv_aload_n hx hb dX5_placesOf_12 rfl (lv_at hl 0 rfl) ?_
        refine va_get (D := E.1) (ci := 4) (v := .ref (a0 13)) (C := RX5) (T := TX5) (N := 9) hx hb hts w2 hown hC.1 hP 0 rfl rfl 8 (by decide) w1 (fun _ h9 => h9) rfl dX5_placesOf_13 ?_
        refine lv_iload_n hx hb dX5_placesOf_16 rfl (lv_at hl 1 rfl) ?_
        refine lv_iload hx hb dX5_placesOf_17 (lv_at hl 5 rfl) ?_
        obtain ⟨r3, e3, hf⟩ := bd_some hf
        refine cr_i (va_runV (As := [.int p1, .int q1.2]) (rest := []) ⟨hx, hb, hml, hown, hts⟩ (c_X3_chunkOf l E (fun k => a0 (k + 13)) v0.2.2.2.2.2.2.2.2 p1 q1.2 r3 e3) (cwV 2 hts gX5_placesOf_X3_chunkOf rfl rfl rfl hdV_X3_chunkOf ⟨Nat.le_of_ble_eq_true rfl, Nat.le_of_ble_eq_true rfl⟩) ⟨PR.blind, va_recv hC.1 hP (ci := 3) (q0 := 13) rfl rfl, PR.pre hC hS (hP.sub [13, 14, 15, 16, 17, 18] rfl)⟩ rfl rfl hl.1 rfl (lv_room (Nat.le_of_ble_eq_true rfl)) dX5_placesOf_19 ⟨Nat.le_of_ble_eq_true rfl, Nat.le_of_ble_eq_true rfl⟩) ?_
        refine lv_istore (lv' := [(6, .int r3), (0, .ref (a0 0)), (1, .int p1), (2, .ref a2), (3, .int p3), (4, .int q1.1), (5, .int q1.2)]) hx hb dX5_placesOf_22 hl (by decide) rfl (fun ls hl => ?_)
        refine lv_iload hx hb dX5_placesOf_24 (lv_at hl 0 rfl) ?_
        refine lv_iconst (v := (-1)) hx hb dX5_placesOf_26 rfl ?_
        refine lv_icmp_eq (tgt := 66) hx hb dX5_placesOf_27 rfl (fun c4 => ?_) (fun c4 => ?_)
        · have hf := it_t hf c4
          refine lv_iinc (v := (q1.2 + 1)) (lv' := [(5, .int (q1.2 + 1)), (6, .int r3), (0, .ref (a0 0)), (1, .int p1), (2, .ref a2), (3, .int p3), (4, .int q1.1)]) hx hb dX5_placesOf_66 hl (k := 6) rfl rfl (by decide) rfl (fun ls hl => ?_)
          refine lv_goto (tgt := 6) hx hb dX5_placesOf_69 rfl ?_
          exact ih1 (q1.1, (q1.2 + 1)) ls (lv_sub hl [2, 3, 4, 5, 6, 0] rfl) hf
        · have hf := it_f hf c4
          refine lv_aload_n hx hb dX5_placesOf_30 rfl (lv_at hl 1 rfl) ?_
          refine lv_aload_n hx hb dX5_placesOf_31 rfl (lv_at hl 1 rfl) ?_
          refine lv_iload hx hb dX5_placesOf_32 (lv_at hl 0 rfl) ?_
          obtain ⟨r5, e5, hf⟩ := bd_some hf
          refine cr_i (va_runV (As := [.int r3]) (rest := [.ref (a0 0)]) ⟨hx, hb, hml, hown, hts⟩ (c_X5_able l E a0 v0 r3 r5 e5) (cwV 1 hts gX5_placesOf_X5_able rfl rfl rfl hdV_X5_able ⟨Nat.le_of_ble_eq_true rfl, Nat.le_of_ble_eq_true rfl⟩) ⟨PR.blind, va_recv hC.1 hP (ci := 4) (q0 := 0) rfl rfl, PR.pre hC hS (hP.sub [0, 1, 2, 3, 4, 5, 6, 7, 8, 9, 10, 11, 12, 13, 14, 15, 16, 17, 18] rfl)⟩ rfl rfl hl.1 rfl (lv_room (Nat.le_of_ble_eq_true rfl)) dX5_placesOf_34 ⟨Nat.le_of_ble_eq_true rfl, Nat.le_of_ble_eq_true rfl⟩) ?_
          obtain ⟨r6, e6, hf⟩ := bd_some hf
          refine cr_i (va_runV (As := [.int r5]) (rest := []) ⟨hx, hb, hml, hown, hts⟩ (c_X5_first l E a0 v0 r5 r6 e6) (cwV 1 hts gX5_placesOf_X5_first rfl rfl rfl hdV_X5_first ⟨Nat.le_of_ble_eq_true rfl, Nat.le_of_ble_eq_true rfl⟩) ⟨PR.blind, va_recv hC.1 hP (ci := 4) (q0 := 0) rfl rfl, PR.pre hC hS (hP.sub [0, 1, 2, 3, 4, 5, 6, 7, 8, 9, 10, 11, 12, 13, 14, 15, 16, 17, 18] rfl)⟩ rfl rfl hl.1 rfl (lv_room (Nat.le_of_ble_eq_true rfl)) dX5_placesOf_37 ⟨Nat.le_of_ble_eq_true rfl, Nat.le_of_ble_eq_true rfl⟩) ?_
          refine lv_istore (lv' := [(7, .int r6), (6, .int r3), (0, .ref (a0 0)), (1, .int p1), (2, .ref a2), (3, .int p3), (4, .int q1.1), (5, .int q1.2)]) hx hb dX5_placesOf_40 hl (by decide) rfl (fun ls hl => ?_)
          refine lv_iload hx hb dX5_placesOf_42 (lv_at hl 0 rfl) ?_
          refine lv_iconst (v := (-1)) hx hb dX5_placesOf_44 rfl ?_
          refine lv_icmp_ne (tgt := 51) hx hb dX5_placesOf_45 rfl (fun c7 => ?_) (fun c7 => ?_)
          · have hf := it_f hf c7
            refine lv_iload hx hb dX5_placesOf_51 (lv_at hl 6 rfl) ?_
            refine lv_aload_n hx hb dX5_placesOf_53 rfl (lv_at hl 2 rfl) ?_
            refine lv_iload hx hb dX5_placesOf_54 (lv_at hl 0 rfl) ?_
            refine lv_iload hx hb dX5_placesOf_56 (lv_at hl 1 rfl) ?_
            refine lv_aload_n hx hb dX5_placesOf_58 rfl (lv_at hl 4 rfl) ?_
            refine lv_iload_n hx hb dX5_placesOf_59 rfl (lv_at hl 5 rfl) ?_
            obtain ⟨r8, e8, hf⟩ := bd_some hf
            refine cr_i (va_runV (As := [.int r6, .int r3, .ref a2, .int p3]) (rest := [.int q1.1]) ⟨hx, hb, hml, hown, hts⟩ (c_X5_placesIn l E a0 v0 r6 r3 a2 n2 v2 p3 r8 e8) (cwV 4 hts gX5_placesOf_X5_placesIn rfl rfl rfl hdV_X5_placesIn ⟨Nat.le_of_ble_eq_true rfl, Nat.le_of_ble_eq_true rfl⟩) ⟨PR.blind, va_recv hC.1 hP (ci := 4) (q0 := 0) rfl rfl, PR.pre hC hS hP⟩ rfl rfl hl.1 rfl (lv_room (Nat.le_of_ble_eq_true rfl)) dX5_placesOf_60 ⟨Nat.le_of_ble_eq_true rfl, Nat.le_of_ble_eq_true rfl⟩) ?_
            refine lv_iadd hx hb dX5_placesOf_63 ?_
            refine lv_istore (lv' := [(4, .int (q1.1 + r8)), (7, .int r6), (6, .int r3), (0, .ref (a0 0)), (1, .int p1), (2, .ref a2), (3, .int p3), (5, .int q1.2)]) hx hb dX5_placesOf_64 hl (by decide) rfl (fun ls hl => ?_)
            refine lv_iinc (v := (q1.2 + 1)) (lv' := [(5, .int (q1.2 + 1)), (4, .int (q1.1 + r8)), (7, .int r6), (6, .int r3), (0, .ref (a0 0)), (1, .int p1), (2, .ref a2), (3, .int p3)]) hx hb dX5_placesOf_66 hl (k := 7) rfl rfl (by decide) rfl (fun ls hl => ?_)
            refine lv_goto (tgt := 6) hx hb dX5_placesOf_69 rfl ?_
            exact ih1 ((q1.1 + r8), (q1.2 + 1)) ls (lv_sub hl [4, 5, 6, 7, 1, 0] rfl) hf
          · have hf := it_t hf c7
            refine lv_ldc hx hb hown w3 dX5_placesOf_48 ?_
            cases Option.some.inj hf
            subst hQe
            exact en_i hx hb hr hlocks dX5_placesOf_50
  exact L1 FU ((0 : Int32), (0 : Int32)) ls (lv_sub hl [2, 3, 4, 5, 1, 0] rfl) hf

/-! X5_lettersLeft -/
abbrev rmX5_lettersLeft : Room := { frames := 5, cells := 0, slots := 0, locals := 114 }
theorem hdS_X5_lettersLeft : yX5_lettersLeft.cls ≠ "java/lang/invoke/MethodHandle" ∧ yX5_lettersLeft.cls ≠ "java/lang/invoke/VarHandle" ∧ (parseMethodDescriptor yX5_lettersLeft.desc).map (fun d => d.parameters.length) = some 1 := by decide +kernel
theorem hdV_X5_lettersLeft : yX5_lettersLeft.cls = RX5 ∧ yX5_lettersLeft.cls ≠ "java/lang/invoke/MethodHandle" ∧ yX5_lettersLeft.cls ≠ "java/lang/invoke/VarHandle" ∧ (parseMethodDescriptor yX5_lettersLeft.desc).map (fun d => d.parameters.length) = some 1 := ⟨rfl, hdS_X5_lettersLeft⟩
set_option maxHeartbeats 4000000 in
set_option maxRecDepth 100000 in
theorem c_X5_lettersLeft (l : Launch) (E : G0) (a0 : Nat → Nat) (v0 : HS) (p1 : Int32) (x : Int32) (hf : f_X5_lettersLeft v0 p1 = some x) : Met l yX5_lettersLeft wsX5_lettersLeft rmX5_lettersLeft (va_Pc [.ref (a0 0), .int p1] (PR E (wHS E a0 v0))) (vp_Si (fun r => r = x)) 0 0 (fun _ => False) := by
  refine Met.ofW (cc := cX5_lettersLeft) (maxL := 3) (ret := some .int) (by decide) rfl ?_
  intro p e s m args below meth c s₁ B hml hv
  obtain ⟨ha, hP, hC⟩ := hv
  have hx := B.exec
  have hb := B.bytes
  have hr := B.returns
  have hts := atoms_spec (ws := wsX5_lettersLeft) B.pre
  have hown : s.vm.findClass RX5 = some m.cls := findClass_of_methodNamed B.named
  have hlocks := B.notSynchronized
  have hS : va_S (fun _ => False) s.heap s.heap [] := va_S.rf
  have w1 : (Cond.fieldLink RX5 51 "GreatChunks$House" "files" "LGreatChunks$Files;").before args s = true := hts _ (List.mem_of_getElem? (i := 1) rfl)
  have w2 : ∀ w ∈ wsX50, w ∈ wsX5_lettersLeft := in_pl 66 rfl
  have w3 : (Cond.constant RX5 170 (-1000000)).before args s = true := hts _ (List.mem_of_getElem? (i := 2) rfl)
  have w4 : (Cond.fieldLink RX5 15 "GreatChunks$House" "size" "I").before args s = true := hts _ (List.mem_of_getElem? (i := 3) rfl)
  generalize hQe : MQ below (vp_Si (fun r => r = x)) args s 0 0 (fun _ => False) = Q
  refine st_W ha (Nat.le_of_ble_eq_true rfl) (fun ls hl => ?_)
  have hl : lv_has ls 3 [(0, .ref (a0 0)), (1, .int p1)] := hl
  unfold f_X5_lettersLeft at hf
  refine lv_aload_n hx hb dX5_lettersLeft_0 rfl (lv_at hl 0 rfl) ?_
  refine va_get (D := E.1) (ci := 4) (v := .ref (a0 13)) (C := RX5) (T := TX5) (N := 9) hx hb hts w2 hown hC.1 hP 0 rfl rfl 8 (by decide) w1 (fun _ h9 => h9) rfl dX5_lettersLeft_1 ?_
  refine lv_iload_n hx hb dX5_lettersLeft_4 rfl (lv_at hl 1 rfl) ?_
  obtain ⟨r1, e1, hf⟩ := bd_some hf
  refine cr_i (va_runV (As := [.int p1]) (rest := []) ⟨hx, hb, hml, hown, hts⟩ (c_X3_lastChunk l E (fun k => a0 (k + 13)) v0.2.2.2.2.2.2.2.2 p1 r1 e1) (cwV 1 hts gX5_lettersLeft_X3_lastChunk rfl rfl rfl hdV_X3_lastChunk ⟨Nat.le_of_ble_eq_true rfl, Nat.le_of_ble_eq_true rfl⟩) ⟨PR.blind, va_recv hC.1 hP (ci := 3) (q0 := 13) rfl rfl, PR.pre hC hS (hP.sub [13, 14, 15, 16, 17, 18] rfl)⟩ rfl rfl hl.1 rfl (lv_room (Nat.le_of_ble_eq_true rfl)) dX5_lettersLeft_5 ⟨Nat.le_of_ble_eq_true rfl, Nat.le_of_ble_eq_true rfl⟩) ?_
  refine lv_istore_n (lv' := [(2, .int r1), (0, .ref (a0 0)), (1, .int p1)]) hx hb dX5_lettersLeft_8 rfl hl (by decide) rfl (fun ls hl => ?_)
  refine lv_iload_n hx hb dX5_lettersLeft_9 rfl (lv_at hl 0 rfl) ?_
  refine lv_iconst (v := (-1)) hx hb dX5_lettersLeft_10 rfl ?_
  refine lv_icmp_eq (tgt := 22) hx hb dX5_lettersLeft_11 rfl (fun c2 => ?_) (fun c2 => ?_)
  · have hf := it_t hf c2
    refine lv_ldc hx hb hown w3 dX5_lettersLeft_22 ?_
    cases Option.some.inj hf
    subst hQe
    exact en_i hx hb hr hlocks dX5_lettersLeft_24
  · have hf := it_f hf c2
    refine lv_aload_n hx hb dX5_lettersLeft_14 rfl (lv_at hl 1 rfl) ?_
    refine lv_iload_n hx hb dX5_lettersLeft_15 rfl (lv_at hl 0 rfl) ?_
    obtain ⟨r3, e3, hf⟩ := bd_some hf
    refine cr_i (va_runV (As := [.int r1]) (rest := []) ⟨hx, hb, hml, hown, hts⟩ (c_X5_able l E a0 v0 r1 r3 e3) (cwV 1 hts gX5_lettersLeft_X5_able rfl rfl rfl hdV_X5_able ⟨Nat.le_of_ble_eq_true rfl, Nat.le_of_ble_eq_true rfl⟩) ⟨PR.blind, va_recv hC.1 hP (ci := 4) (q0 := 0) rfl rfl, PR.pre hC hS hP⟩ rfl rfl hl.1 rfl (lv_room (Nat.le_of_ble_eq_true rfl)) dX5_lettersLeft_16 ⟨Nat.le_of_ble_eq_true rfl, Nat.le_of_ble_eq_true rfl⟩) ?_
    refine lv_if_ne (tgt := 25) hx hb dX5_lettersLeft_19 rfl (fun c4 => ?_) (fun c4 => ?_)
    · have hf := it_f hf c4
      refine lv_aload_n hx hb dX5_lettersLeft_25 rfl (lv_at hl 1 rfl) ?_
      refine va_get (D := E.1) (ci := 4) (v := .int v0.2.1) (C := RX5) (T := TX5) (N := 9) hx hb hts w2 hown hC.1 hP 0 rfl rfl 1 (by decide) w4 (fun _ h9 => h9) rfl dX5_lettersLeft_26 ?_
      refine lv_aload_n hx hb dX5_lettersLeft_29 rfl (lv_at hl 1 rfl) ?_
      refine lv_iload_n hx hb dX5_lettersLeft_30 rfl (lv_at hl 0 rfl) ?_
      obtain ⟨r5, e5, hf⟩ := bd_some hf
      refine cr_i (va_runV (As := [.int r1]) (rest := [.int v0.2.1]) ⟨hx, hb, hml, hown, hts⟩ (c_X5_greatestFilled l E a0 v0 r1 r5 e5) (cwV 1 hts gX5_lettersLeft_X5_greatestFilled rfl rfl rfl hdV_X5_greatestFilled ⟨Nat.le_of_ble_eq_true rfl, Nat.le_of_ble_eq_true rfl⟩) ⟨PR.blind, va_recv hC.1 hP (ci := 4) (q0 := 0) rfl rfl, PR.pre hC hS hP⟩ rfl rfl hl.1 rfl (lv_room (Nat.le_of_ble_eq_true rfl)) dX5_lettersLeft_31 ⟨Nat.le_of_ble_eq_true rfl, Nat.le_of_ble_eq_true rfl⟩) ?_
      refine lv_isub hx hb dX5_lettersLeft_34 ?_
      cases Option.some.inj hf
      subst hQe
      exact en_i hx hb hr hlocks dX5_lettersLeft_35
    · have hf := it_t hf c4
      refine lv_ldc hx hb hown w3 dX5_lettersLeft_22 ?_
      cases Option.some.inj hf
      subst hQe
      exact en_i hx hb hr hlocks dX5_lettersLeft_24

/-! X5_placesForNew -/
abbrev rmX5_placesForNew : Room := { frames := 3, cells := 0, slots := 0, locals := 69 }
theorem hdS_X5_placesForNew : yX5_placesForNew.cls ≠ "java/lang/invoke/MethodHandle" ∧ yX5_placesForNew.cls ≠ "java/lang/invoke/VarHandle" ∧ (parseMethodDescriptor yX5_placesForNew.desc).map (fun d => d.parameters.length) = some 1 := by decide +kernel
theorem hdV_X5_placesForNew : yX5_placesForNew.cls = RX5 ∧ yX5_placesForNew.cls ≠ "java/lang/invoke/MethodHandle" ∧ yX5_placesForNew.cls ≠ "java/lang/invoke/VarHandle" ∧ (parseMethodDescriptor yX5_placesForNew.desc).map (fun d => d.parameters.length) = some 1 := ⟨rfl, hdS_X5_placesForNew⟩
set_option maxHeartbeats 4000000 in
set_option maxRecDepth 100000 in
theorem c_X5_placesForNew (l : Launch) (E : G0) (a0 : Nat → Nat) (v0 : HS) (p1 : Int32) (x : Int32) (hf : f_X5_placesForNew v0 p1 = some x) : Met l yX5_placesForNew wsX5_placesForNew rmX5_placesForNew (va_Pc [.ref (a0 0), .int p1] (PR E (wHS E a0 v0))) (vp_Si (fun r => r = x)) 0 0 (fun _ => False) := by
  refine Met.ofW (cc := cX5_placesForNew) (maxL := 7) (ret := some .int) (by decide) rfl ?_
  intro p e s m args below meth c s₁ B hml hv
  obtain ⟨ha, hP, hC⟩ := hv
  have hx := B.exec
  have hb := B.bytes
  have hr := B.returns
  have hts := atoms_spec (ws := wsX5_placesForNew) B.pre
  have hown : s.vm.findClass RX5 = some m.cls := findClass_of_methodNamed B.named
  have hlocks := B.notSynchronized
  have hS : va_S (fun _ => False) s.heap s.heap [] := va_S.rf
  have w1 : (Cond.fieldLink RX5 30 "GreatChunks$House" "servers" "LGreatChunks$Servers;").before args s = true := hts _ (List.mem_of_getElem? (i := 1) rfl)
  have w2 : ∀ w ∈ wsX50, w ∈ wsX5_placesForNew := in_pl 43 rfl
  have w3 : (Cond.fieldLink RX5 108 "GreatChunks$Servers" "upBits" "I").before args s = true := hts _ (List.mem_of_getElem? (i := 2) rfl)
  have w4 : ∀ w ∈ wsX80, w ∈ wsX5_placesForNew := in_pl 52 rfl
  generalize hQe : MQ below (vp_Si (fun r => r = x)) args s 0 0 (fun _ => False) = Q
  refine st_W ha (Nat.le_of_ble_eq_true rfl) (fun ls hl => ?_)
  have hl : lv_has ls 7 [(0, .ref (a0 0)), (1, .int p1)] := hl
  unfold f_X5_placesForNew at hf
  refine lv_aload_n hx hb dX5_placesForNew_0 rfl (lv_at hl 0 rfl) ?_
  refine va_get (D := E.1) (ci := 4) (v := .ref (a0 1)) (C := RX5) (T := TX5) (N := 9) hx hb hts w2 hown hC.1 hP 0 rfl rfl 5 (by decide) w1 (fun _ h9 => h9) rfl dX5_placesForNew_1 ?_
  refine va_get (D := E.1) (ci := 6) (v := .int v0.2.2.2.2.2.1.2.1) (C := RX8) (T := TX8) (N := 4) hx hb hts w4 hown hC.1 hP 1 rfl rfl 1 (by decide) w3 (fun _ h9 => h9) rfl dX5_placesForNew_4 ?_
  refine lv_istore_n (lv' := [(2, .int v0.2.2.2.2.2.1.2.1), (0, .ref (a0 0)), (1, .int p1)]) hx hb dX5_placesForNew_7 rfl hl (by decide) rfl (fun ls hl => ?_)
  refine lv_iconst (v := 0) hx hb dX5_placesForNew_8 rfl ?_
  refine lv_istore_n (lv' := [(3, .int (0 : Int32)), (2, .int v0.2.2.2.2.2.1.2.1), (0, .ref (a0 0)), (1, .int p1)]) hx hb dX5_placesForNew_9 rfl hl (by decide) rfl (fun ls hl => ?_)
  refine lv_aload_n hx hb dX5_placesForNew_10 rfl (lv_at hl 2 rfl) ?_
  refine lv_iload_n hx hb dX5_placesForNew_11 rfl (lv_at hl 3 rfl) ?_
  obtain ⟨r1, e1, hf⟩ := bd_some hf
  refine cr_i (va_runV (As := [.int p1]) (rest := []) ⟨hx, hb, hml, hown, hts⟩ (c_X5_copiesWanted l E a0 v0 p1 r1 e1) (cwV 1 hts gX5_placesForNew_X5_copiesWanted rfl rfl rfl hdV_X5_copiesWanted ⟨Nat.le_of_ble_eq_true rfl, Nat.le_of_ble_eq_true rfl⟩) ⟨PR.blind, va_recv hC.1 hP (ci := 4) (q0 := 0) rfl rfl, PR.pre hC hS hP⟩ rfl rfl hl.1 rfl (lv_room (Nat.le_of_ble_eq_true rfl)) dX5_placesForNew_12 ⟨Nat.le_of_ble_eq_true rfl, Nat.le_of_ble_eq_true rfl⟩) ?_
  refine lv_istore (lv' := [(4, .int r1), (3, .int (0 : Int32)), (2, .int v0.2.2.2.2.2.1.2.1), (0, .ref (a0 0)), (1, .int p1)]) hx hb dX5_placesForNew_15 hl (by decide) rfl (fun ls hl => ?_)
  refine lv_iconst (v := 0) hx hb dX5_placesForNew_17 rfl ?_
  refine lv_istore (lv' := [(5, .int (0 : Int32)), (4, .int r1), (3, .int (0 : Int32)), (2, .int v0.2.2.2.2.2.1.2.1), (0, .ref (a0 0)), (1, .int p1)]) hx hb dX5_placesForNew_18 hl (by decide) rfl (fun ls hl => ?_)
  obtain ⟨K2, hK2, hf⟩ := jn_some hf
  have J2 : ∀ (q2 : Int32 × Int32 × Int32) (ls : Array Slot) (hl : lv_has ls 7 [(3, .int q2.2.1)]) (hf : K2 q2 = some x), W p l e (headSpec wsX5_placesForNew rmX5_placesForNew).room s m args below meth c s.heap [] 0 0 Q (F0 m 66 ls []) := by
    intro q2 ls hl hf
    have hf := (hK2 q2).trans hf
    refine lv_iload_n hx hb dX5_placesForNew_66 rfl (lv_at hl 0 rfl) ?_
    cases Option.some.inj hf
    subst hQe
    exact en_i hx hb hr hlocks dX5_placesForNew_67
  have L2 : ∀ (n : Nat) (q2 : Int32 × Int32 × Int32) (ls : Array Slot) (hl : lv_has ls 7 [(0, .ref (a0 0)), (2, .int q2.1), (3, .int q2.2.1), (4, .int r1), (5, .int q2.2.2)]) (hf : lpF (bX5_placesForNew_2 r1 v0 K2) n q2 = some x), W p l e (headSpec wsX5_placesForNew rmX5_placesForNew).room s m args below meth c s.heap [] 0 0 Q (F0 m 20 ls []) := by
    intro n
    induction n with
    | zero => intro q2 ls hl hf; exact (lpF_zero hf).elim
    | succ n ih2 =>
      intro q2 ls hl hf
      have hf := lpF_succ hf
      unfold bX5_placesForNew_2 at hf
      refine lv_iload hx hb dX5_placesForNew_20 (lv_at hl 4 rfl) ?_
      refine lv_iload hx hb dX5_placesForNew_22 (lv_at hl 3 rfl) ?_
      refine lv_icmp_ge (tgt := 66) hx hb dX5_placesForNew_24 rfl (fun c3 => ?_) (fun c3 => ?_)
      · have hf := it_t hf c3
        exact J2 (q2.1, q2.2.1, q2.2.2) ls (lv_sub hl [2] rfl) hf
      · have hf := it_f hf c3
        refine lv_iload_n hx hb dX5_placesForNew_27 rfl (lv_at hl 1 rfl) ?_
        refine lv_if_eq (tgt := 66) hx hb dX5_placesForNew_28 rfl (fun c4 => ?_) (fun c4 => ?_)
        · have hf := it_t hf c4
          exact J2 (q2.1, q2.2.1, q2.2.2) ls (lv_sub hl [2] rfl) hf
        · have hf := it_f hf c4
          refine lv_aload_n hx hb dX5_placesForNew_31 rfl (lv_at hl 0 rfl) ?_
          refine lv_iload_n hx hb dX5_placesForNew_32 rfl (lv_at hl 1 rfl) ?_
          obtain ⟨r5, e5, hf⟩ := bd_some hf
          refine cr_i (va_runV (As := [.int q2.1]) (rest := []) ⟨hx, hb, hml, hown, hts⟩ (c_X5_best l E a0 v0 q2.1 r5 e5) (cwV 1 hts gX5_placesForNew_X5_best rfl rfl rfl hdV_X5_best ⟨Nat.le_of_ble_eq_true rfl, Nat.le_of_ble_eq_true rfl⟩) ⟨PR.blind, va_recv hC.1 hP (ci := 4) (q0 := 0) rfl rfl, PR.pre hC hS hP⟩ rfl rfl hl.1 rfl (lv_room (Nat.le_of_ble_eq_true rfl)) dX5_placesForNew_33 ⟨Nat.le_of_ble_eq_true rfl, Nat.le_of_ble_eq_true rfl⟩) ?_
          refine lv_istore (lv' := [(6, .int r5), (0, .ref (a0 0)), (2, .int q2.1), (3, .int q2.2.1), (4, .int r1), (5, .int q2.2.2)]) hx hb dX5_placesForNew_36 hl (by decide) rfl (fun ls hl => ?_)
          refine lv_iload hx hb dX5_placesForNew_38 (lv_at hl 0 rfl) ?_
          refine lv_iconst (v := (-1)) hx hb dX5_placesForNew_40 rfl ?_
          refine lv_icmp_eq (tgt := 60) hx hb dX5_placesForNew_41 rfl (fun c6 => ?_) (fun c6 => ?_)
          · have hf := it_t hf c6
            refine lv_iinc (v := (q2.2.2 + 1)) (lv' := [(5, .int (q2.2.2 + 1)), (6, .int r5), (0, .ref (a0 0)), (2, .int q2.1), (3, .int q2.2.1), (4, .int r1)]) hx hb dX5_placesForNew_60 hl (k := 5) rfl rfl (by decide) rfl (fun ls hl => ?_)
            refine lv_goto (tgt := 20) hx hb dX5_placesForNew_63 rfl ?_
            exact ih2 (q2.1, q2.2.1, (q2.2.2 + 1)) ls (lv_sub hl [2, 3, 4, 5, 0] rfl) hf
          · have hf := it_f hf c6
            refine lv_iload_n hx hb dX5_placesForNew_44 rfl (lv_at hl 3 rfl) ?_
            refine lv_iconst (v := 1) hx hb dX5_placesForNew_45 rfl ?_
            refine lv_iload hx hb dX5_placesForNew_46 (lv_at hl 0 rfl) ?_
            refine lv_ishl hx hb dX5_placesForNew_48 ?_
            refine lv_ior hx hb dX5_placesForNew_49 ?_
            refine lv_istore_n (lv' := [(3, .int (q2.2.1 ||| ((1 : Int32) <<< (r5 &&& 31)))), (6, .int r5), (0, .ref (a0 0)), (2, .int q2.1), (4, .int r1), (5, .int q2.2.2)]) hx hb dX5_placesForNew_50 rfl hl (by decide) rfl (fun ls hl => ?_)
            refine lv_iload_n hx hb dX5_placesForNew_51 rfl (lv_at hl 3 rfl) ?_
            refine lv_iconst (v := 1) hx hb dX5_placesForNew_52 rfl ?_
            refine lv_iload hx hb dX5_placesForNew_53 (lv_at hl 1 rfl) ?_
            refine lv_ishl hx hb dX5_placesForNew_55 ?_
            refine lv_iconst (v := (-1)) hx hb dX5_placesForNew_56 rfl ?_
            refine lv_ixor hx hb dX5_placesForNew_57 ?_
            refine lv_iand hx hb dX5_placesForNew_58 ?_
            refine lv_istore_n (lv' := [(2, .int (q2.1 &&& (((1 : Int32) <<< (r5 &&& 31)) ^^^ (-1 : Int32)))), (3, .int (q2.2.1 ||| ((1 : Int32) <<< (r5 &&& 31)))), (6, .int r5), (0, .ref (a0 0)), (4, .int r1), (5, .int q2.2.2)]) hx hb dX5_placesForNew_59 rfl hl (by decide) rfl (fun ls hl => ?_)
            refine lv_iinc (v := (q2.2.2 + 1)) (lv' := [(5, .int (q2.2.2 + 1)), (2, .int (q2.1 &&& (((1 : Int32) <<< (r5 &&& 31)) ^^^ (-1 : Int32)))), (3, .int (q2.2.1 ||| ((1 : Int32) <<< (r5 &&& 31)))), (6, .int r5), (0, .ref (a0 0)), (4, .int r1)]) hx hb dX5_placesForNew_60 hl (k := 5) rfl rfl (by decide) rfl (fun ls hl => ?_)
            refine lv_goto (tgt := 20) hx hb dX5_placesForNew_63 rfl ?_
            exact ih2 ((q2.1 &&& (((1 : Int32) <<< (r5 &&& 31)) ^^^ (-1 : Int32))), (q2.2.1 ||| ((1 : Int32) <<< (r5 &&& 31))), (q2.2.2 + 1)) ls (lv_sub hl [4, 1, 2, 5, 0] rfl) hf
  exact L2 FU (v0.2.2.2.2.2.1.2.1, (0 : Int32), (0 : Int32)) ls (lv_sub hl [4, 3, 2, 1, 0] rfl) hf

/-! X5_addNewChunk -/
abbrev rmX5_addNewChunk : Room := { frames := 4, cells := 0, slots := 0, locals := 95 }
theorem hdS_X5_addNewChunk : yX5_addNewChunk.cls ≠ "java/lang/invoke/MethodHandle" ∧ yX5_addNewChunk.cls ≠ "java/lang/invoke/VarHandle" ∧ (parseMethodDescriptor yX5_addNewChunk.desc).map (fun d => d.parameters.length) = some 1 := by decide +kernel
theorem hdV_X5_addNewChunk : yX5_addNewChunk.cls = RX5 ∧ yX5_addNewChunk.cls ≠ "java/lang/invoke/MethodHandle" ∧ yX5_addNewChunk.cls ≠ "java/lang/invoke/VarHandle" ∧ (parseMethodDescriptor yX5_addNewChunk.desc).map (fun d => d.parameters.length) = some 1 := ⟨rfl, hdS_X5_addNewChunk⟩
set_option maxHeartbeats 4000000 in
set_option maxRecDepth 100000 in
theorem c_X5_addNewChunk (l : Launch) (E : G0) (sz : Nat) (a0 : Nat → Nat) (v0 : HS) (p1 : Int32) (x : Int32 × HS) (hf : f_X5_addNewChunk v0 p1 = some x) : Met l yX5_addNewChunk wsX5_addNewChunk rmX5_addNewChunk (va_Pc [.ref (a0 0), .int p1] (PW E (wHS E a0 v0) sz)) (va_Qi (fun r q => r = x.1 ∧ q = x.2) (fun q t => va_P E.1 vwCl ((fun q : HS => wHS E a0 q) q) t.heap ∧ va_D (va_A (wHS E a0 v0) sz) ((fun q : HS => wHS E a0 q) q)) (va_A (wHS E a0 v0) sz)) 0 0 (va_A (wHS E a0 v0) sz) := by
  refine Met.ofW (cc := cX5_addNewChunk) (maxL := 5) (ret := some .int) (by decide) rfl ?_
  intro p e s m args below meth c s₁ B hml hv
  obtain ⟨ha, hsz, hP, hD0, hC⟩ := hv
  have hx := B.exec
  have hb := B.bytes
  have hr := B.returns
  have hts := atoms_spec (ws := wsX5_addNewChunk) B.pre
  have hown : s.vm.findClass RX5 = some m.cls := findClass_of_methodNamed B.named
  have hlocks := B.notSynchronized
  subst hsz
  have hD := hD0.self (sz := s.heap.size)
  generalize hAe : va_A (wHS E a0 v0) s.heap.size = A at hD hC ⊢
  have hA : ∀ q : Nat, s.heap.size ≤ q → A q := fun q h => by rw [← hAe]; exact Or.inr h
  have hS : va_S A s.heap s.heap [] := va_S.rf
  have w1 : (Cond.fieldLink RX5 37 "GreatChunks$House" "chunks" "LGreatChunks$Chunks;").before args s = true := hts _ (List.mem_of_getElem? (i := 1) rfl)
  have w2 : ∀ w ∈ wsX50, w ∈ wsX5_addNewChunk := in_pl 114 rfl
  have w3 : (Cond.constant RX5 209 (-1000003)).before args s = true := hts _ (List.mem_of_getElem? (i := 3) rfl)
  have w4 : (Cond.fieldLink RX5 51 "GreatChunks$House" "files" "LGreatChunks$Files;").before args s = true := hts _ (List.mem_of_getElem? (i := 2) rfl)
  have w5 : (Cond.fieldLink RX5 155 "GreatChunks$Files" "kind" "[I").before args s = true := hts _ (List.mem_of_getElem? (i := 4) rfl)
  have w6 : ∀ w ∈ wsX30, w ∈ wsX5_addNewChunk := in_pl 123 rfl
  have w7 : (Cond.constant RX5 182 (-1000004)).before args s = true := hts _ (List.mem_of_getElem? (i := 5) rfl)
  have w8 : (Cond.fieldLink RX5 30 "GreatChunks$House" "servers" "LGreatChunks$Servers;").before args s = true := hts _ (List.mem_of_getElem? (i := 6) rfl)
  have w9 : (Cond.fieldLink RX5 98 "GreatChunks$Servers" "many" "I").before args s = true := hts _ (List.mem_of_getElem? (i := 7) rfl)
  have w10 : ∀ w ∈ wsX80, w ∈ wsX5_addNewChunk := in_pl 128 rfl
  have w11 : (Cond.initialized RX10).before args s = true := hts _ (List.mem_of_getElem? (i := 22) rfl)
  have w12 : (Cond.static yX10_isIn).before args s = true := hts _ (List.mem_of_getElem? (i := 50) rfl)
  have w13 : (Cond.fieldLink RX5 44 "GreatChunks$House" "copies" "LGreatChunks$Copies;").before args s = true := hts _ (List.mem_of_getElem? (i := 8) rfl)
  generalize hQe : MQ below (va_Qi (fun r q => r = x.1 ∧ q = x.2) (fun q t => va_P E.1 vwCl ((fun q : HS => wHS E a0 q) q) t.heap ∧ va_D A ((fun q : HS => wHS E a0 q) q)) A) args s 0 0 A = Q
  refine st_W ha (Nat.le_of_ble_eq_true rfl) (fun ls hl => ?_)
  have hl : lv_has ls 5 [(0, .ref (a0 0)), (1, .int p1)] := hl
  unfold f_X5_addNewChunk at hf
  refine lv_aload_n hx hb dX5_addNewChunk_0 rfl (lv_at hl 0 rfl) ?_
  refine va_get (D := E.1) (ci := 4) (v := .ref (a0 4)) (C := RX5) (T := TX5) (N := 9) hx hb hts w2 hown hC.1 hP 0 rfl rfl 6 (by decide) w1 (fun _ h9 => h9) rfl dX5_addNewChunk_1 ?_
  refine cr_i (va_runV (As := []) (rest := []) ⟨hx, hb, hml, hown, hts⟩ (c_X1_isFullUp l E (fun k => a0 (k + 4)) v0.2.2.2.2.2.2.1 _ rfl) (cwV 0 hts gX5_addNewChunk_X1_isFullUp rfl rfl rfl hdV_X1_isFullUp ⟨Nat.le_of_ble_eq_true rfl, Nat.le_of_ble_eq_true rfl⟩) ⟨PR.blind, va_recv hC.1 hP (ci := 1) (q0 := 4) rfl rfl, PR.pre hC hS (hP.sub [4, 5, 6, 7, 8] rfl)⟩ rfl rfl hl.1 rfl (lv_room (Nat.le_of_ble_eq_true rfl)) dX5_addNewChunk_4 ⟨Nat.le_of_ble_eq_true rfl, Nat.le_of_ble_eq_true rfl⟩) ?_
  refine lv_if_ne (tgt := 21) hx hb dX5_addNewChunk_7 rfl (fun c1 => ?_) (fun c1 => ?_)
  · have hf := it_f hf c1
    refine lv_ldc hx hb hown w3 dX5_addNewChunk_21 ?_
    cases Option.some.inj hf
    subst hQe
    exact ew_i (wf := (fun q : HS => wHS E a0 q)) hx hb hr hlocks hP hD hS dX5_addNewChunk_23
  · have hf := it_t hf c1
    refine lv_aload_n hx hb dX5_addNewChunk_10 rfl (lv_at hl 0 rfl) ?_
    refine va_get (D := E.1) (ci := 4) (v := .ref (a0 13)) (C := RX5) (T := TX5) (N := 9) hx hb hts w2 hown hC.1 hP 0 rfl rfl 8 (by decide) w4 (fun _ h9 => h9) rfl dX5_addNewChunk_11 ?_
    refine lv_iload_n hx hb dX5_addNewChunk_14 rfl (lv_at hl 1 rfl) ?_
    obtain ⟨r2, e2, hf⟩ := bd_some hf
    refine cr_i (va_runV (As := [.int p1]) (rest := []) ⟨hx, hb, hml, hown, hts⟩ (c_X3_isFullUp l E (fun k => a0 (k + 13)) v0.2.2.2.2.2.2.2.2 p1 r2 e2) (cwV 1 hts gX5_addNewChunk_X3_isFullUp rfl rfl rfl hdV_X3_isFullUp ⟨Nat.le_of_ble_eq_true rfl, Nat.le_of_ble_eq_true rfl⟩) ⟨PR.blind, va_recv hC.1 hP (ci := 3) (q0 := 13) rfl rfl, PR.pre hC hS (hP.sub [13, 14, 15, 16, 17, 18] rfl)⟩ rfl rfl hl.1 rfl (lv_room (Nat.le_of_ble_eq_true rfl)) dX5_addNewChunk_15 ⟨Nat.le_of_ble_eq_true rfl, Nat.le_of_ble_eq_true rfl⟩) ?_
    refine lv_if_eq (tgt := 24) hx hb dX5_addNewChunk_18 rfl (fun c3 => ?_) (fun c3 => ?_)
    · have hf := it_t hf c3
      refine lv_aload_n hx hb dX5_addNewChunk_24 rfl (lv_at hl 0 rfl) ?_
      refine lv_aload_n hx hb dX5_addNewChunk_25 rfl (lv_at hl 0 rfl) ?_
      refine va_get (D := E.1) (ci := 4) (v := .ref (a0 13)) (C := RX5) (T := TX5) (N := 9) hx hb hts w2 hown hC.1 hP 0 rfl rfl 8 (by decide) w4 (fun _ h9 => h9) rfl dX5_addNewChunk_26 ?_
      refine va_get (D := E.1) (ci := 3) (v := .ref (a0 15)) (C := RX3) (T := TX3) (N := 5) hx hb hts w6 hown hC.1 hP 13 rfl rfl 1 (by decide) w5 (fun _ h9 => h9) rfl dX5_addNewChunk_29 ?_
      refine lv_iload_n hx hb dX5_addNewChunk_32 rfl (lv_at hl 1 rfl) ?_
      obtain ⟨h4, hf⟩ := gdI_some hf
      refine va_iald hx hb hC.1 hP 15 0 rfl rfl h4 dX5_addNewChunk_33 ?_
      obtain ⟨r5, e5, hf⟩ := bd_some hf
      refine cr_i (va_runV (As := [.int (v0.2.2.2.2.2.2.2.2.2.1 p1.toNatClampNeg)]) (rest := []) ⟨hx, hb, hml, hown, hts⟩ (c_X5_placesForNew l E a0 v0 (v0.2.2.2.2.2.2.2.2.2.1 p1.toNatClampNeg) r5 e5) (cwV 1 hts gX5_addNewChunk_X5_placesForNew rfl rfl rfl hdV_X5_placesForNew ⟨Nat.le_of_ble_eq_true rfl, Nat.le_of_ble_eq_true rfl⟩) ⟨PR.blind, va_recv hC.1 hP (ci := 4) (q0 := 0) rfl rfl, PR.pre hC hS hP⟩ rfl rfl hl.1 rfl (lv_room (Nat.le_of_ble_eq_true rfl)) dX5_addNewChunk_34 ⟨Nat.le_of_ble_eq_true rfl, Nat.le_of_ble_eq_true rfl⟩) ?_
      refine lv_istore_n (lv' := [(2, .int r5), (0, .ref (a0 0)), (1, .int p1)]) hx hb dX5_addNewChunk_37 rfl hl (by decide) rfl (fun ls hl => ?_)
      refine lv_iload_n hx hb dX5_addNewChunk_38 rfl (lv_at hl 0 rfl) ?_
      refine lv_if_ne (tgt := 45) hx hb dX5_addNewChunk_39 rfl (fun c6 => ?_) (fun c6 => ?_)
      · have hf := it_f hf c6
        refine lv_aload_n hx hb dX5_addNewChunk_45 rfl (lv_at hl 1 rfl) ?_
        refine va_get (D := E.1) (ci := 4) (v := .ref (a0 4)) (C := RX5) (T := TX5) (N := 9) hx hb hts w2 hown hC.1 hP 0 rfl rfl 6 (by decide) w1 (fun _ h9 => h9) rfl dX5_addNewChunk_46 ?_
        obtain ⟨r7, e7, hf⟩ := bd_some hf
        refine cq_i hP hD hS [4, 5, 6, 7, 8] [0, 1, 2, 3, 9, 10, 11, 12, 13, 14, 15, 16, 17, 18] [0, 1, 2, 3, 14, 15, 16, 17, 18, 4, 5, 6, 7, 8, 9, 10, 11, 12, 13] (va_free (wc := (wCK E (fun k => a0 (k + 4)) v0.2.2.2.2.2.2.1)) hD hS hA [4, 5, 6, 7, 8] rfl) (va_runV (As := []) (rest := []) ⟨hx, hb, hml, hown, hts⟩ (c_X1_make l E s.heap.size (fun k => a0 (k + 4)) v0.2.2.2.2.2.2.1 r7 e7) (cwV 0 hts gX5_addNewChunk_X1_make rfl rfl rfl hdV_X1_make ⟨Nat.le_of_ble_eq_true rfl, Nat.le_of_ble_eq_true rfl⟩) ⟨PW.blind, va_recv hC.1 hP (ci := 1) (q0 := 4) rfl rfl, PW.pre hC hS (hP.sub [4, 5, 6, 7, 8] rfl) (hD.sub [4, 5, 6, 7, 8] rfl rfl) (va_free hD hS hA [4, 5, 6, 7, 8] rfl)⟩ rfl rfl hl.1 rfl (lv_room (Nat.le_of_ble_eq_true rfl)) dX5_addNewChunk_49 ⟨Nat.le_of_ble_eq_true rfl, Nat.le_of_ble_eq_true rfl⟩) rfl rfl rfl rfl (wHS E a0 (v0.1, v0.2.1, v0.2.2.1, v0.2.2.2.1, v0.2.2.2.2.1, v0.2.2.2.2.2.1, r7.2, v0.2.2.2.2.2.2.2.1, v0.2.2.2.2.2.2.2.2)) rfl rfl (fun H locs hP hD hS => ?_)
        refine lv_istore_n (lv' := [(3, .int r7.1), (2, .int r5), (0, .ref (a0 0)), (1, .int p1)]) hx hb dX5_addNewChunk_52 rfl hl (by decide) rfl (fun ls hl => ?_)
        refine lv_iconst (v := 0) hx hb dX5_addNewChunk_53 rfl ?_
        refine lv_istore (lv' := [(4, .int (0 : Int32)), (3, .int r7.1), (2, .int r5), (0, .ref (a0 0)), (1, .int p1)]) hx hb dX5_addNewChunk_54 hl (by decide) rfl (fun ls hl => ?_)
        obtain ⟨K8, hK8, hf⟩ := jn_some hf
        have J8 : ∀ (q8 : Int32 × HS) (H : Heap) (locs : List Loc) (hP : va_P E.1 vwCl (wHS E a0 q8.2) H) (hD : va_D A (wHS E a0 q8.2)) (hS : va_S A s.heap H locs) (ls : Array Slot) (hl : lv_has ls 5 [(0, .ref (a0 0)), (1, .int p1), (3, .int r7.1)]) (hf : K8 q8 = some x), W p l e (headSpec wsX5_addNewChunk rmX5_addNewChunk).room s m args below meth c H locs 0 0 Q (F0 m 93 ls []) := by
          intro q8 H locs hP hD hS ls hl hf
          have hf := (hK8 q8).trans hf
          refine lv_aload_n hx hb dX5_addNewChunk_93 rfl (lv_at hl 0 rfl) ?_
          refine va_get (D := E.1) (ci := 4) (v := .ref (a0 13)) (C := RX5) (T := TX5) (N := 9) hx hb hts w2 hown hC.1 hP 0 rfl rfl 8 (by decide) w4 (fun _ h9 => h9) rfl dX5_addNewChunk_94 ?_
          refine lv_iload_n hx hb dX5_addNewChunk_97 rfl (lv_at hl 1 rfl) ?_
          refine lv_iload_n hx hb dX5_addNewChunk_98 rfl (lv_at hl 2 rfl) ?_
          obtain ⟨r9, e9, hf⟩ := bd_some hf
          refine cq_v hP hD hS [13, 14, 15, 16, 17, 18] [0, 1, 2, 3, 4, 5, 6, 7, 8, 9, 10, 11, 12] [0, 1, 2, 3, 4, 5, 6, 7, 8, 9, 10, 11, 12, 13, 14, 15, 16, 17, 18] (va_free (wc := (wFL E (fun k => a0 (k + 13)) q8.2.2.2.2.2.2.2.2.2)) hD hS hA [13, 14, 15, 16, 17, 18] rfl) (va_runV (As := [.int p1, .int r7.1]) (rest := []) ⟨hx, hb, hml, hown, hts⟩ (c_X3_addChunk l E H.size (fun k => a0 (k + 13)) q8.2.2.2.2.2.2.2.2.2 p1 r7.1 r9 e9) (cwV 2 hts gX5_addNewChunk_X3_addChunk rfl rfl rfl hdV_X3_addChunk ⟨Nat.le_of_ble_eq_true rfl, Nat.le_of_ble_eq_true rfl⟩) ⟨PW.blind, va_recv hC.1 hP (ci := 3) (q0 := 13) rfl rfl, PW.pre hC hS (hP.sub [13, 14, 15, 16, 17, 18] rfl) (hD.sub [13, 14, 15, 16, 17, 18] rfl rfl) (va_free hD hS hA [13, 14, 15, 16, 17, 18] rfl)⟩ rfl rfl hl.1 rfl (lv_room (Nat.le_of_ble_eq_true rfl)) dX5_addNewChunk_99 ⟨Nat.le_of_ble_eq_true rfl, Nat.le_of_ble_eq_true rfl⟩) rfl rfl rfl rfl (wHS E a0 (q8.2.1, q8.2.2.1, q8.2.2.2.1, q8.2.2.2.2.1, q8.2.2.2.2.2.1, q8.2.2.2.2.2.2.1, q8.2.2.2.2.2.2.2.1, q8.2.2.2.2.2.2.2.2.1, r9)) rfl rfl (fun H locs hP hD hS => ?_)
          refine lv_iconst (v := 0) hx hb dX5_addNewChunk_102 rfl ?_
          cases Option.some.inj hf
          subst hQe
          exact ew_i (wf := (fun q : HS => wHS E a0 q)) hx hb hr hlocks hP hD hS dX5_addNewChunk_103
        have L8 : ∀ (n : Nat) (q8 : Int32 × HS) (H : Heap) (locs : List Loc) (hP : va_P E.1 vwCl (wHS E a0 q8.2) H) (hD : va_D A (wHS E a0 q8.2)) (hS : va_S A s.heap H locs) (ls : Array Slot) (hl : lv_has ls 5 [(0, .ref (a0 0)), (1, .int p1), (2, .int r5), (3, .int r7.1), (4, .int q8.1)]) (hf : lpF (bX5_addNewChunk_8 r5 r7 K8) n q8 = some x), W p l e (headSpec wsX5_addNewChunk rmX5_addNewChunk).room s m args below meth c H locs 0 0 Q (F0 m 56 ls []) := by
          intro n
          induction n with
          | zero => intro q8 H locs hP hD hS ls hl hf; exact (lpF_zero hf).elim
          | succ n ih8 =>
            intro q8 H locs hP hD hS ls hl hf
            have hf := lpF_succ hf
            unfold bX5_addNewChunk_8 at hf
            refine lv_iload hx hb dX5_addNewChunk_56 (lv_at hl 4 rfl) ?_
            refine lv_aload_n hx hb dX5_addNewChunk_58 rfl (lv_at hl 0 rfl) ?_
            refine va_get (D := E.1) (ci := 4) (v := .ref (a0 1)) (C := RX5) (T := TX5) (N := 9) hx hb hts w2 hown hC.1 hP 0 rfl rfl 5 (by decide) w8 (fun _ h9 => h9) rfl dX5_addNewChunk_59 ?_
            refine va_get (D := E.1) (ci := 6) (v := .int q8.2.2.2.2.2.2.1.1) (C := RX8) (T := TX8) (N := 4) hx hb hts w10 hown hC.1 hP 1 rfl rfl 0 (by decide) w9 (fun _ h9 => h9) rfl dX5_addNewChunk_62 ?_
            refine lv_icmp_ge (tgt := 93) hx hb dX5_addNewChunk_65 rfl (fun c10 => ?_) (fun c10 => ?_)
            · have hf := it_t hf c10
              exact J8 (q8.1, q8.2) H locs hP hD hS ls (lv_sub hl [0, 1, 3] rfl) hf
            · have hf := it_f hf c10
              refine lv_iload_n hx hb dX5_addNewChunk_68 rfl (lv_at hl 2 rfl) ?_
              refine lv_iload hx hb dX5_addNewChunk_69 (lv_at hl 4 rfl) ?_
              refine cr_i (va_runSN (As := [.int r5, .int q8.1]) (rest := []) ⟨hx, hb, hml, hown, hts⟩ (c_X10_isIn l E r5 q8.1 _ rfl) ⟨va_cnB 2 hts gX5_addNewChunk_X10_isIn_n117 rfl rfl rfl (hC.2.1 (RX5, 117, yX10_isIn, RX10) (List.mem_of_getElem? (i := 13) rfl)) w11 hdS_X10_isIn ⟨Nat.le_of_ble_eq_true rfl, Nat.le_of_ble_eq_true rfl⟩, w12, trivial⟩ ⟨PR.blind, PR.pre hC hS (hP.sub [] rfl)⟩ rfl rfl hl.1 rfl (lv_room (Nat.le_of_ble_eq_true rfl)) dX5_addNewChunk_71 ⟨Nat.le_of_ble_eq_true rfl, Nat.le_of_ble_eq_true rfl⟩) ?_
              refine lv_if_eq (tgt := 87) hx hb dX5_addNewChunk_74 rfl (fun c11 => ?_) (fun c11 => ?_)
              · have hf := it_t hf c11
                refine lv_iinc (v := (q8.1 + 1)) (lv' := [(4, .int (q8.1 + 1)), (0, .ref (a0 0)), (1, .int p1), (2, .int r5), (3, .int r7.1)]) hx hb dX5_addNewChunk_87 hl (k := 4) rfl rfl (by decide) rfl (fun ls hl => ?_)
                refine lv_goto (tgt := 56) hx hb dX5_addNewChunk_90 rfl ?_
                exact ih8 ((q8.1 + 1), q8.2) H locs hP hD hS ls (lv_sub hl [1, 2, 3, 4, 0] rfl) hf
              · have hf := it_f hf c11
                refine lv_aload_n hx hb dX5_addNewChunk_77 rfl (lv_at hl 0 rfl) ?_
                refine va_get (D := E.1) (ci := 4) (v := .ref (a0 9)) (C := RX5) (T := TX5) (N := 9) hx hb hts w2 hown hC.1 hP 0 rfl rfl 7 (by decide) w13 (fun _ h9 => h9) rfl dX5_addNewChunk_78 ?_
                refine lv_iload hx hb dX5_addNewChunk_81 (lv_at hl 4 rfl) ?_
                refine lv_iload_n hx hb dX5_addNewChunk_83 rfl (lv_at hl 3 rfl) ?_
                obtain ⟨r12, e12, hf⟩ := bd_some hf
                refine cq_v hP hD hS [9, 10, 11, 12] [0, 1, 2, 3, 4, 5, 6, 7, 8, 13, 14, 15, 16, 17, 18] [0, 1, 2, 3, 4, 5, 6, 7, 8, 15, 16, 17, 18, 9, 10, 11, 12, 13, 14] (va_free (wc := (wCP E (fun k => a0 (k + 9)) q8.2.2.2.2.2.2.2.2.1)) hD hS hA [9, 10, 11, 12] rfl) (va_runV (As := [.int q8.1, .int r7.1]) (rest := []) ⟨hx, hb, hml, hown, hts⟩ (c_X2_lay l E H.size (fun k => a0 (k + 9)) q8.2.2.2.2.2.2.2.2.1 q8.1 r7.1 r12 e12) (cwV 2 hts gX5_addNewChunk_X2_lay rfl rfl rfl hdV_X2_lay ⟨Nat.le_of_ble_eq_true rfl, Nat.le_of_ble_eq_true rfl⟩) ⟨PW.blind, va_recv hC.1 hP (ci := 2) (q0 := 9) rfl rfl, PW.pre hC hS (hP.sub [9, 10, 11, 12] rfl) (hD.sub [9, 10, 11, 12] rfl rfl) (va_free hD hS hA [9, 10, 11, 12] rfl)⟩ rfl rfl hl.1 rfl (lv_room (Nat.le_of_ble_eq_true rfl)) dX5_addNewChunk_84 ⟨Nat.le_of_ble_eq_true rfl, Nat.le_of_ble_eq_true rfl⟩) rfl rfl rfl rfl (wHS E a0 (q8.2.1, q8.2.2.1, q8.2.2.2.1, q8.2.2.2.2.1, q8.2.2.2.2.2.1, q8.2.2.2.2.2.2.1, q8.2.2.2.2.2.2.2.1, r12, q8.2.2.2.2.2.2.2.2.2)) rfl rfl (fun H locs hP hD hS => ?_)
                refine lv_iinc (v := (q8.1 + 1)) (lv' := [(4, .int (q8.1 + 1)), (0, .ref (a0 0)), (1, .int p1), (2, .int r5), (3, .int r7.1)]) hx hb dX5_addNewChunk_87 hl (k := 4) rfl rfl (by decide) rfl (fun ls hl => ?_)
                refine lv_goto (tgt := 56) hx hb dX5_addNewChunk_90 rfl ?_
                exact ih8 ((q8.1 + 1), (q8.2.1, q8.2.2.1, q8.2.2.2.1, q8.2.2.2.2.1, q8.2.2.2.2.2.1, q8.2.2.2.2.2.2.1, q8.2.2.2.2.2.2.2.1, r12, q8.2.2.2.2.2.2.2.2.2)) H locs hP hD hS ls (lv_sub hl [1, 2, 3, 4, 0] rfl) hf
        exact L8 FU ((0 : Int32), (v0.1, v0.2.1, v0.2.2.1, v0.2.2.2.1, v0.2.2.2.2.1, v0.2.2.2.2.2.1, r7.2, v0.2.2.2.2.2.2.2.1, v0.2.2.2.2.2.2.2.2)) H locs hP hD hS ls (lv_sub hl [3, 4, 2, 1, 0] rfl) hf
      · have hf := it_t hf c6
        refine lv_ldc hx hb hown w7 dX5_addNewChunk_42 ?_
        cases Option.some.inj hf
        subst hQe
        exact ew_i (wf := (fun q : HS => wHS E a0 q)) hx hb hr hlocks hP hD hS dX5_addNewChunk_44
    · have hf := it_f hf c3
      refine lv_ldc hx hb hown w3 dX5_addNewChunk_21 ?_
      cases Option.some.inj hf
      subst hQe
      exact ew_i (wf := (fun q : HS => wHS E a0 q)) hx hb hr hlocks hP hD hS dX5_addNewChunk_23

/-! X5_own -/
abbrev rmX5_own : Room := { frames := 4, cells := 0, slots := 0, locals := 90 }
theorem hdS_X5_own : yX5_own.cls ≠ "java/lang/invoke/MethodHandle" ∧ yX5_own.cls ≠ "java/lang/invoke/VarHandle" ∧ (parseMethodDescriptor yX5_own.desc).map (fun d => d.parameters.length) = some 2 := by decide +kernel
theorem hdV_X5_own : yX5_own.cls = RX5 ∧ yX5_own.cls ≠ "java/lang/invoke/MethodHandle" ∧ yX5_own.cls ≠ "java/lang/invoke/VarHandle" ∧ (parseMethodDescriptor yX5_own.desc).map (fun d => d.parameters.length) = some 2 := ⟨rfl, hdS_X5_own⟩
set_option maxHeartbeats 4000000 in
set_option maxRecDepth 100000 in
theorem c_X5_own (l : Launch) (E : G0) (sz : Nat) (a0 : Nat → Nat) (v0 : HS) (p1 : Int32) (p2 : Int32) (x : Int32 × HS) (hf : f_X5_own v0 p1 p2 = some x) : Met l yX5_own wsX5_own rmX5_own (va_Pc [.ref (a0 0), .int p1, .int p2] (PW E (wHS E a0 v0) sz)) (va_Qi (fun r q => r = x.1 ∧ q = x.2) (fun q t => va_P E.1 vwCl ((fun q : HS => wHS E a0 q) q) t.heap ∧ va_D (va_A (wHS E a0 v0) sz) ((fun q : HS => wHS E a0 q) q)) (va_A (wHS E a0 v0) sz)) 0 0 (va_A (wHS E a0 v0) sz) := by
  refine Met.ofW (cc := cX5_own) (maxL := 7) (ret := some .int) (by decide) rfl ?_
  intro p e s m args below meth c s₁ B hml hv
  obtain ⟨ha, hsz, hP, hD0, hC⟩ := hv
  have hx := B.exec
  have hb := B.bytes
  have hr := B.returns
  have hts := atoms_spec (ws := wsX5_own) B.pre
  have hown : s.vm.findClass RX5 = some m.cls := findClass_of_methodNamed B.named
  have hlocks := B.notSynchronized
  subst hsz
  have hD := hD0.self (sz := s.heap.size)
  generalize hAe : va_A (wHS E a0 v0) s.heap.size = A at hD hC ⊢
  have hA : ∀ q : Nat, s.heap.size ≤ q → A q := fun q h => by rw [← hAe]; exact Or.inr h
  have hS : va_S A s.heap s.heap [] := va_S.rf
  have w1 : (Cond.fieldLink RX5 51 "GreatChunks$House" "files" "LGreatChunks$Files;").before args s = true := hts _ (List.mem_of_getElem? (i := 1) rfl)
  have w2 : ∀ w ∈ wsX50, w ∈ wsX5_own := in_pl 107 rfl
  have w3 : (Cond.fieldLink RX5 37 "GreatChunks$House" "chunks" "LGreatChunks$Chunks;").before args s = true := hts _ (List.mem_of_getElem? (i := 2) rfl)
  have w4 : (Cond.constant RX5 209 (-1000003)).before args s = true := hts _ (List.mem_of_getElem? (i := 3) rfl)
  have w5 : (Cond.constant RX5 182 (-1000004)).before args s = true := hts _ (List.mem_of_getElem? (i := 4) rfl)
  have w6 : (Cond.fieldLink RX5 30 "GreatChunks$House" "servers" "LGreatChunks$Servers;").before args s = true := hts _ (List.mem_of_getElem? (i := 5) rfl)
  have w7 : (Cond.fieldLink RX5 98 "GreatChunks$Servers" "many" "I").before args s = true := hts _ (List.mem_of_getElem? (i := 6) rfl)
  have w8 : ∀ w ∈ wsX80, w ∈ wsX5_own := in_pl 116 rfl
  have w9 : (Cond.initialized RX10).before args s = true := hts _ (List.mem_of_getElem? (i := 16) rfl)
  have w10 : (Cond.static yX10_isIn).before args s = true := hts _ (List.mem_of_getElem? (i := 69) rfl)
  have w11 : (Cond.fieldLink RX5 44 "GreatChunks$House" "copies" "LGreatChunks$Copies;").before args s = true := hts _ (List.mem_of_getElem? (i := 7) rfl)
  generalize hQe : MQ below (va_Qi (fun r q => r = x.1 ∧ q = x.2) (fun q t => va_P E.1 vwCl ((fun q : HS => wHS E a0 q) q) t.heap ∧ va_D A ((fun q : HS => wHS E a0 q) q)) A) args s 0 0 A = Q
  refine st_W ha (Nat.le_of_ble_eq_true rfl) (fun ls hl => ?_)
  have hl : lv_has ls 7 [(0, .ref (a0 0)), (1, .int p1), (2, .int p2)] := hl
  unfold f_X5_own at hf
  refine lv_aload_n hx hb dX5_own_0 rfl (lv_at hl 0 rfl) ?_
  refine va_get (D := E.1) (ci := 4) (v := .ref (a0 13)) (C := RX5) (T := TX5) (N := 9) hx hb hts w2 hown hC.1 hP 0 rfl rfl 8 (by decide) w1 (fun _ h9 => h9) rfl dX5_own_1 ?_
  refine lv_iload_n hx hb dX5_own_4 rfl (lv_at hl 1 rfl) ?_
  refine lv_iload_n hx hb dX5_own_5 rfl (lv_at hl 2 rfl) ?_
  obtain ⟨r1, e1, hf⟩ := bd_some hf
  refine cr_i (va_runV (As := [.int p1, .int p2]) (rest := []) ⟨hx, hb, hml, hown, hts⟩ (c_X3_chunkOf l E (fun k => a0 (k + 13)) v0.2.2.2.2.2.2.2.2 p1 p2 r1 e1) (cwV 2 hts gX5_own_X3_chunkOf rfl rfl rfl hdV_X3_chunkOf ⟨Nat.le_of_ble_eq_true rfl, Nat.le_of_ble_eq_true rfl⟩) ⟨PR.blind, va_recv hC.1 hP (ci := 3) (q0 := 13) rfl rfl, PR.pre hC hS (hP.sub [13, 14, 15, 16, 17, 18] rfl)⟩ rfl rfl hl.1 rfl (lv_room (Nat.le_of_ble_eq_true rfl)) dX5_own_6 ⟨Nat.le_of_ble_eq_true rfl, Nat.le_of_ble_eq_true rfl⟩) ?_
  refine lv_istore_n (lv' := [(3, .int r1), (0, .ref (a0 0)), (1, .int p1), (2, .int p2)]) hx hb dX5_own_9 rfl hl (by decide) rfl (fun ls hl => ?_)
  refine lv_aload_n hx hb dX5_own_10 rfl (lv_at hl 1 rfl) ?_
  refine va_get (D := E.1) (ci := 4) (v := .ref (a0 4)) (C := RX5) (T := TX5) (N := 9) hx hb hts w2 hown hC.1 hP 0 rfl rfl 6 (by decide) w3 (fun _ h9 => h9) rfl dX5_own_11 ?_
  refine lv_iload_n hx hb dX5_own_14 rfl (lv_at hl 0 rfl) ?_
  obtain ⟨r2, e2, hf⟩ := bd_some hf
  refine cr_i (va_runV (As := [.int r1]) (rest := []) ⟨hx, hb, hml, hown, hts⟩ (c_X1_isShared l E (fun k => a0 (k + 4)) v0.2.2.2.2.2.2.1 r1 r2 e2) (cwV 1 hts gX5_own_X1_isShared rfl rfl rfl hdV_X1_isShared ⟨Nat.le_of_ble_eq_true rfl, Nat.le_of_ble_eq_true rfl⟩) ⟨PR.blind, va_recv hC.1 hP (ci := 1) (q0 := 4) rfl rfl, PR.pre hC hS (hP.sub [4, 5, 6, 7, 8] rfl)⟩ rfl rfl hl.1 rfl (lv_room (Nat.le_of_ble_eq_true rfl)) dX5_own_15 ⟨Nat.le_of_ble_eq_true rfl, Nat.le_of_ble_eq_true rfl⟩) ?_
  refine lv_if_ne (tgt := 23) hx hb dX5_own_18 rfl (fun c3 => ?_) (fun c3 => ?_)
  · have hf := it_f hf c3
    refine lv_aload_n hx hb dX5_own_23 rfl (lv_at hl 1 rfl) ?_
    refine va_get (D := E.1) (ci := 4) (v := .ref (a0 4)) (C := RX5) (T := TX5) (N := 9) hx hb hts w2 hown hC.1 hP 0 rfl rfl 6 (by decide) w3 (fun _ h9 => h9) rfl dX5_own_24 ?_
    refine cr_i (va_runV (As := []) (rest := []) ⟨hx, hb, hml, hown, hts⟩ (c_X1_isFullUp l E (fun k => a0 (k + 4)) v0.2.2.2.2.2.2.1 _ rfl) (cwV 0 hts gX5_own_X1_isFullUp rfl rfl rfl hdV_X1_isFullUp ⟨Nat.le_of_ble_eq_true rfl, Nat.le_of_ble_eq_true rfl⟩) ⟨PR.blind, va_recv hC.1 hP (ci := 1) (q0 := 4) rfl rfl, PR.pre hC hS (hP.sub [4, 5, 6, 7, 8] rfl)⟩ rfl rfl hl.1 rfl (lv_room (Nat.le_of_ble_eq_true rfl)) dX5_own_27 ⟨Nat.le_of_ble_eq_true rfl, Nat.le_of_ble_eq_true rfl⟩) ?_
    refine lv_if_eq (tgt := 36) hx hb dX5_own_30 rfl (fun c4 => ?_) (fun c4 => ?_)
    · have hf := it_t hf c4
      refine lv_aload_n hx hb dX5_own_36 rfl (lv_at hl 1 rfl) ?_
      refine lv_iload_n hx hb dX5_own_37 rfl (lv_at hl 0 rfl) ?_
      obtain ⟨r5, e5, hf⟩ := bd_some hf
      refine cr_i (va_runV (As := [.int r1]) (rest := []) ⟨hx, hb, hml, hown, hts⟩ (c_X5_able l E a0 v0 r1 r5 e5) (cwV 1 hts gX5_own_X5_able rfl rfl rfl hdV_X5_able ⟨Nat.le_of_ble_eq_true rfl, Nat.le_of_ble_eq_true rfl⟩) ⟨PR.blind, va_recv hC.1 hP (ci := 4) (q0 := 0) rfl rfl, PR.pre hC hS hP⟩ rfl rfl hl.1 rfl (lv_room (Nat.le_of_ble_eq_true rfl)) dX5_own_38 ⟨Nat.le_of_ble_eq_true rfl, Nat.le_of_ble_eq_true rfl⟩) ?_
      refine lv_istore (lv' := [(4, .int r5), (3, .int r1), (0, .ref (a0 0)), (1, .int p1), (2, .int p2)]) hx hb dX5_own_41 hl (by decide) rfl (fun ls hl => ?_)
      refine lv_iload hx hb dX5_own_43 (lv_at hl 0 rfl) ?_
      refine lv_if_ne (tgt := 51) hx hb dX5_own_45 rfl (fun c6 => ?_) (fun c6 => ?_)
      · have hf := it_f hf c6
        refine lv_aload_n hx hb dX5_own_51 rfl (lv_at hl 2 rfl) ?_
        refine va_get (D := E.1) (ci := 4) (v := .ref (a0 4)) (C := RX5) (T := TX5) (N := 9) hx hb hts w2 hown hC.1 hP 0 rfl rfl 6 (by decide) w3 (fun _ h9 => h9) rfl dX5_own_52 ?_
        obtain ⟨r7, e7, hf⟩ := bd_some hf
        refine cq_i hP hD hS [4, 5, 6, 7, 8] [0, 1, 2, 3, 9, 10, 11, 12, 13, 14, 15, 16, 17, 18] [0, 1, 2, 3, 14, 15, 16, 17, 18, 4, 5, 6, 7, 8, 9, 10, 11, 12, 13] (va_free (wc := (wCK E (fun k => a0 (k + 4)) v0.2.2.2.2.2.2.1)) hD hS hA [4, 5, 6, 7, 8] rfl) (va_runV (As := []) (rest := []) ⟨hx, hb, hml, hown, hts⟩ (c_X1_make l E s.heap.size (fun k => a0 (k + 4)) v0.2.2.2.2.2.2.1 r7 e7) (cwV 0 hts gX5_own_X1_make rfl rfl rfl hdV_X1_make ⟨Nat.le_of_ble_eq_true rfl, Nat.le_of_ble_eq_true rfl⟩) ⟨PW.blind, va_recv hC.1 hP (ci := 1) (q0 := 4) rfl rfl, PW.pre hC hS (hP.sub [4, 5, 6, 7, 8] rfl) (hD.sub [4, 5, 6, 7, 8] rfl rfl) (va_free hD hS hA [4, 5, 6, 7, 8] rfl)⟩ rfl rfl hl.1 rfl (lv_room (Nat.le_of_ble_eq_true rfl)) dX5_own_55 ⟨Nat.le_of_ble_eq_true rfl, Nat.le_of_ble_eq_true rfl⟩) rfl rfl rfl rfl (wHS E a0 (v0.1, v0.2.1, v0.2.2.1, v0.2.2.2.1, v0.2.2.2.2.1, v0.2.2.2.2.2.1, r7.2, v0.2.2.2.2.2.2.2.1, v0.2.2.2.2.2.2.2.2)) rfl rfl (fun H locs hP hD hS => ?_)
        refine lv_istore (lv' := [(5, .int r7.1), (4, .int r5), (3, .int r1), (0, .ref (a0 0)), (1, .int p1), (2, .int p2)]) hx hb dX5_own_58 hl (by decide) rfl (fun ls hl => ?_)
        refine lv_iconst (v := 0) hx hb dX5_own_60 rfl ?_
        refine lv_istore (lv' := [(6, .int (0 : Int32)), (5, .int r7.1), (4, .int r5), (3, .int r1), (0, .ref (a0 0)), (1, .int p1), (2, .int p2)]) hx hb dX5_own_61 hl (by decide) rfl (fun ls hl => ?_)
        obtain ⟨K8, hK8, hf⟩ := jn_some hf
        have J8 : ∀ (q8 : Int32 × HS) (H : Heap) (locs : List Loc) (hP : va_P E.1 vwCl (wHS E a0 q8.2) H) (hD : va_D A (wHS E a0 q8.2)) (hS : va_S A s.heap H locs) (ls : Array Slot) (hl : lv_has ls 7 [(0, .ref (a0 0)), (1, .int p1), (2, .int p2), (3, .int r1), (5, .int r7.1)]) (hf : K8 q8 = some x), W p l e (headSpec wsX5_own rmX5_own).room s m args below meth c H locs 0 0 Q (F0 m 106 ls []) := by
          intro q8 H locs hP hD hS ls hl hf
          have hf := (hK8 q8).trans hf
          refine lv_aload_n hx hb dX5_own_106 rfl (lv_at hl 0 rfl) ?_
          refine va_get (D := E.1) (ci := 4) (v := .ref (a0 4)) (C := RX5) (T := TX5) (N := 9) hx hb hts w2 hown hC.1 hP 0 rfl rfl 6 (by decide) w3 (fun _ h9 => h9) rfl dX5_own_107 ?_
          refine lv_iload_n hx hb dX5_own_110 rfl (lv_at hl 3 rfl) ?_
          refine lv_iconst (v := (-1)) hx hb dX5_own_111 rfl ?_
          obtain ⟨r9, e9, hf⟩ := bd_some hf
          refine cq_v hP hD hS [4, 5, 6, 7, 8] [0, 1, 2, 3, 9, 10, 11, 12, 13, 14, 15, 16, 17, 18] [0, 1, 2, 3, 14, 15, 16, 17, 18, 4, 5, 6, 7, 8, 9, 10, 11, 12, 13] (va_free (wc := (wCK E (fun k => a0 (k + 4)) q8.2.2.2.2.2.2.2.1)) hD hS hA [4, 5, 6, 7, 8] rfl) (va_runV (As := [.int r1, .int (-1 : Int32)]) (rest := []) ⟨hx, hb, hml, hown, hts⟩ (c_X1_share l E H.size (fun k => a0 (k + 4)) q8.2.2.2.2.2.2.2.1 r1 (-1 : Int32) r9 e9) (cwV 2 hts gX5_own_X1_share rfl rfl rfl hdV_X1_share ⟨Nat.le_of_ble_eq_true rfl, Nat.le_of_ble_eq_true rfl⟩) ⟨PW.blind, va_recv hC.1 hP (ci := 1) (q0 := 4) rfl rfl, PW.pre hC hS (hP.sub [4, 5, 6, 7, 8] rfl) (hD.sub [4, 5, 6, 7, 8] rfl rfl) (va_free hD hS hA [4, 5, 6, 7, 8] rfl)⟩ rfl rfl hl.1 rfl (lv_room (Nat.le_of_ble_eq_true rfl)) dX5_own_112 ⟨Nat.le_of_ble_eq_true rfl, Nat.le_of_ble_eq_true rfl⟩) rfl rfl rfl rfl (wHS E a0 (q8.2.1, q8.2.2.1, q8.2.2.2.1, q8.2.2.2.2.1, q8.2.2.2.2.2.1, q8.2.2.2.2.2.2.1, r9, q8.2.2.2.2.2.2.2.2.1, q8.2.2.2.2.2.2.2.2.2)) rfl rfl (fun H locs hP hD hS => ?_)
          refine lv_aload_n hx hb dX5_own_115 rfl (lv_at hl 0 rfl) ?_
          refine va_get (D := E.1) (ci := 4) (v := .ref (a0 13)) (C := RX5) (T := TX5) (N := 9) hx hb hts w2 hown hC.1 hP 0 rfl rfl 8 (by decide) w1 (fun _ h9 => h9) rfl dX5_own_116 ?_
          refine lv_iload_n hx hb dX5_own_119 rfl (lv_at hl 1 rfl) ?_
          refine lv_iload_n hx hb dX5_own_120 rfl (lv_at hl 2 rfl) ?_
          refine lv_iload hx hb dX5_own_121 (lv_at hl 4 rfl) ?_
          obtain ⟨r10, e10, hf⟩ := bd_some hf
          refine cq_v hP hD hS [13, 14, 15, 16, 17, 18] [0, 1, 2, 3, 4, 5, 6, 7, 8, 9, 10, 11, 12] [0, 1, 2, 3, 4, 5, 6, 7, 8, 9, 10, 11, 12, 13, 14, 15, 16, 17, 18] (va_free (wc := (wFL E (fun k => a0 (k + 13)) q8.2.2.2.2.2.2.2.2.2)) hD hS hA [13, 14, 15, 16, 17, 18] rfl) (va_runV (As := [.int p1, .int p2, .int r7.1]) (rest := []) ⟨hx, hb, hml, hown, hts⟩ (c_X3_replaceChunk l E H.size (fun k => a0 (k + 13)) q8.2.2.2.2.2.2.2.2.2 p1 p2 r7.1 r10 e10) (cwV 3 hts gX5_own_X3_replaceChunk rfl rfl rfl hdV_X3_replaceChunk ⟨Nat.le_of_ble_eq_true rfl, Nat.le_of_ble_eq_true rfl⟩) ⟨PW.blind, va_recv hC.1 hP (ci := 3) (q0 := 13) rfl rfl, PW.pre hC hS (hP.sub [13, 14, 15, 16, 17, 18] rfl) (hD.sub [13, 14, 15, 16, 17, 18] rfl rfl) (va_free hD hS hA [13, 14, 15, 16, 17, 18] rfl)⟩ rfl rfl hl.1 rfl (lv_room (Nat.le_of_ble_eq_true rfl)) dX5_own_123 ⟨Nat.le_of_ble_eq_true rfl, Nat.le_of_ble_eq_true rfl⟩) rfl rfl rfl rfl (wHS E a0 (q8.2.1, q8.2.2.1, q8.2.2.2.1, q8.2.2.2.2.1, q8.2.2.2.2.2.1, q8.2.2.2.2.2.2.1, r9, q8.2.2.2.2.2.2.2.2.1, r10)) rfl rfl (fun H locs hP hD hS => ?_)
          refine lv_iconst (v := 0) hx hb dX5_own_126 rfl ?_
          cases Option.some.inj hf
          subst hQe
          exact ew_i (wf := (fun q : HS => wHS E a0 q)) hx hb hr hlocks hP hD hS dX5_own_127
        have L8 : ∀ (n : Nat) (q8 : Int32 × HS) (H : Heap) (locs : List Loc) (hP : va_P E.1 vwCl (wHS E a0 q8.2) H) (hD : va_D A (wHS E a0 q8.2)) (hS : va_S A s.heap H locs) (ls : Array Slot) (hl : lv_has ls 7 [(0, .ref (a0 0)), (1, .int p1), (2, .int p2), (3, .int r1), (4, .int r5), (5, .int r7.1), (6, .int q8.1)]) (hf : lpF (bX5_own_8 r5 r7 r1 K8) n q8 = some x), W p l e (headSpec wsX5_own rmX5_own).room s m args below meth c H locs 0 0 Q (F0 m 63 ls []) := by
          intro n
          induction n with
          | zero => intro q8 H locs hP hD hS ls hl hf; exact (lpF_zero hf).elim
          | succ n ih8 =>
            intro q8 H locs hP hD hS ls hl hf
            have hf := lpF_succ hf
            unfold bX5_own_8 at hf
            refine lv_iload hx hb dX5_own_63 (lv_at hl 6 rfl) ?_
            refine lv_aload_n hx hb dX5_own_65 rfl (lv_at hl 0 rfl) ?_
            refine va_get (D := E.1) (ci := 4) (v := .ref (a0 1)) (C := RX5) (T := TX5) (N := 9) hx hb hts w2 hown hC.1 hP 0 rfl rfl 5 (by decide) w6 (fun _ h9 => h9) rfl dX5_own_66 ?_
            refine va_get (D := E.1) (ci := 6) (v := .int q8.2.2.2.2.2.2.1.1) (C := RX8) (T := TX8) (N := 4) hx hb hts w8 hown hC.1 hP 1 rfl rfl 0 (by decide) w7 (fun _ h9 => h9) rfl dX5_own_69 ?_
            refine lv_icmp_ge (tgt := 106) hx hb dX5_own_72 rfl (fun c11 => ?_) (fun c11 => ?_)
            · have hf := it_t hf c11
              exact J8 (q8.1, q8.2) H locs hP hD hS ls (lv_sub hl [0, 1, 2, 3, 5] rfl) hf
            · have hf := it_f hf c11
              refine lv_iload hx hb dX5_own_75 (lv_at hl 4 rfl) ?_
              refine lv_iload hx hb dX5_own_77 (lv_at hl 6 rfl) ?_
              refine cr_i (va_runSN (As := [.int r5, .int q8.1]) (rest := []) ⟨hx, hb, hml, hown, hts⟩ (c_X10_isIn l E r5 q8.1 _ rfl) ⟨va_cnB 2 hts gX5_own_X10_isIn_n117 rfl rfl rfl (hC.2.1 (RX5, 117, yX10_isIn, RX10) (List.mem_of_getElem? (i := 13) rfl)) w9 hdS_X10_isIn ⟨Nat.le_of_ble_eq_true rfl, Nat.le_of_ble_eq_true rfl⟩, w10, trivial⟩ ⟨PR.blind, PR.pre hC hS (hP.sub [] rfl)⟩ rfl rfl hl.1 rfl (lv_room (Nat.le_of_ble_eq_true rfl)) dX5_own_79 ⟨Nat.le_of_ble_eq_true rfl, Nat.le_of_ble_eq_true rfl⟩) ?_
              refine lv_if_eq (tgt := 100) hx hb dX5_own_82 rfl (fun c12 => ?_) (fun c12 => ?_)
              · have hf := it_t hf c12
                refine lv_iinc (v := (q8.1 + 1)) (lv' := [(6, .int (q8.1 + 1)), (0, .ref (a0 0)), (1, .int p1), (2, .int p2), (3, .int r1), (4, .int r5), (5, .int r7.1)]) hx hb dX5_own_100 hl (k := 6) rfl rfl (by decide) rfl (fun ls hl => ?_)
                refine lv_goto (tgt := 63) hx hb dX5_own_103 rfl ?_
                exact ih8 ((q8.1 + 1), q8.2) H locs hP hD hS ls (lv_sub hl [1, 2, 3, 4, 5, 6, 0] rfl) hf
              · have hf := it_f hf c12
                refine lv_aload_n hx hb dX5_own_85 rfl (lv_at hl 0 rfl) ?_
                refine va_get (D := E.1) (ci := 4) (v := .ref (a0 9)) (C := RX5) (T := TX5) (N := 9) hx hb hts w2 hown hC.1 hP 0 rfl rfl 7 (by decide) w11 (fun _ h9 => h9) rfl dX5_own_86 ?_
                refine lv_iload hx hb dX5_own_89 (lv_at hl 6 rfl) ?_
                refine lv_iload hx hb dX5_own_91 (lv_at hl 5 rfl) ?_
                refine lv_iload hx hb dX5_own_93 (lv_at hl 6 rfl) ?_
                refine lv_iload_n hx hb dX5_own_95 rfl (lv_at hl 3 rfl) ?_
                refine lv_iconst (v := 1) hx hb dX5_own_96 rfl ?_
                obtain ⟨r13, e13, hf⟩ := bd_some hf
                refine cq_v hP hD hS [9, 10, 11, 12] [0, 1, 2, 3, 4, 5, 6, 7, 8, 13, 14, 15, 16, 17, 18] [0, 1, 2, 3, 4, 5, 6, 7, 8, 15, 16, 17, 18, 9, 10, 11, 12, 13, 14] (va_free (wc := (wCP E (fun k => a0 (k + 9)) q8.2.2.2.2.2.2.2.2.1)) hD hS hA [9, 10, 11, 12] rfl) (va_runV (As := [.int q8.1, .int r7.1, .int q8.1, .int r1, .int (1 : Int32)]) (rest := []) ⟨hx, hb, hml, hown, hts⟩ (c_X2_layLike l E H.size (fun k => a0 (k + 9)) q8.2.2.2.2.2.2.2.2.1 q8.1 r7.1 q8.1 r1 (1 : Int32) r13 e13) (cwV 5 hts gX5_own_X2_layLike rfl rfl rfl hdV_X2_layLike ⟨Nat.le_of_ble_eq_true rfl, Nat.le_of_ble_eq_true rfl⟩) ⟨PW.blind, va_recv hC.1 hP (ci := 2) (q0 := 9) rfl rfl, PW.pre hC hS (hP.sub [9, 10, 11, 12] rfl) (hD.sub [9, 10, 11, 12] rfl rfl) (va_free hD hS hA [9, 10, 11, 12] rfl)⟩ rfl rfl hl.1 rfl (lv_room (Nat.le_of_ble_eq_true rfl)) dX5_own_97 ⟨Nat.le_of_ble_eq_true rfl, Nat.le_of_ble_eq_true rfl⟩) rfl rfl rfl rfl (wHS E a0 (q8.2.1, q8.2.2.1, q8.2.2.2.1, q8.2.2.2.2.1, q8.2.2.2.2.2.1, q8.2.2.2.2.2.2.1, q8.2.2.2.2.2.2.2.1, r13, q8.2.2.2.2.2.2.2.2.2)) rfl rfl (fun H locs hP hD hS => ?_)
                refine lv_iinc (v := (q8.1 + 1)) (lv' := [(6, .int (q8.1 + 1)), (0, .ref (a0 0)), (1, .int p1), (2, .int p2), (3, .int r1), (4, .int r5), (5, .int r7.1)]) hx hb dX5_own_100 hl (k := 6) rfl rfl (by decide) rfl (fun ls hl => ?_)
                refine lv_goto (tgt := 63) hx hb dX5_own_103 rfl ?_
                exact ih8 ((q8.1 + 1), (q8.2.1, q8.2.2.1, q8.2.2.2.1, q8.2.2.2.2.1, q8.2.2.2.2.2.1, q8.2.2.2.2.2.2.1, q8.2.2.2.2.2.2.2.1, r13, q8.2.2.2.2.2.2.2.2.2)) H locs hP hD hS ls (lv_sub hl [1, 2, 3, 4, 5, 6, 0] rfl) hf
        exact L8 FU ((0 : Int32), (v0.1, v0.2.1, v0.2.2.1, v0.2.2.2.1, v0.2.2.2.2.1, v0.2.2.2.2.2.1, r7.2, v0.2.2.2.2.2.2.2.1, v0.2.2.2.2.2.2.2.2)) H locs hP hD hS ls (lv_sub hl [4, 5, 6, 3, 2, 1, 0] rfl) hf
      · have hf := it_t hf c6
        refine lv_ldc hx hb hown w5 dX5_own_48 ?_
        cases Option.some.inj hf
        subst hQe
        exact ew_i (wf := (fun q : HS => wHS E a0 q)) hx hb hr hlocks hP hD hS dX5_own_50
    · have hf := it_f hf c4
      refine lv_ldc hx hb hown w4 dX5_own_33 ?_
      cases Option.some.inj hf
      subst hQe
      exact ew_i (wf := (fun q : HS => wHS E a0 q)) hx hb hr hlocks hP hD hS dX5_own_35
  · have hf := it_t hf c3
    refine lv_iconst (v := 0) hx hb dX5_own_21 rfl ?_
    cases Option.some.inj hf
    subst hQe
    exact ew_i (wf := (fun q : HS => wHS E a0 q)) hx hb hr hlocks hP hD hS dX5_own_22

/-! X5_leaseHolds -/
abbrev rmX5_leaseHolds : Room := { frames := 3, cells := 0, slots := 0, locals := 67 }
theorem hdS_X5_leaseHolds : yX5_leaseHolds.cls ≠ "java/lang/invoke/MethodHandle" ∧ yX5_leaseHolds.cls ≠ "java/lang/invoke/VarHandle" ∧ (parseMethodDescriptor yX5_leaseHolds.desc).map (fun d => d.parameters.length) = some 1 := by decide +kernel
theorem hdV_X5_leaseHolds : yX5_leaseHolds.cls = RX5 ∧ yX5_leaseHolds.cls ≠ "java/lang/invoke/MethodHandle" ∧ yX5_leaseHolds.cls ≠ "java/lang/invoke/VarHandle" ∧ (parseMethodDescriptor yX5_leaseHolds.desc).map (fun d => d.parameters.length) = some 1 := ⟨rfl, hdS_X5_leaseHolds⟩
set_option maxHeartbeats 4000000 in
set_option maxRecDepth 100000 in
theorem c_X5_leaseHolds (l : Launch) (E : G0) (a0 : Nat → Nat) (v0 : HS) (p1 : Int32) (x : Bool) (hf : f_X5_leaseHolds v0 p1 = some x) : Met l yX5_leaseHolds wsX5_leaseHolds rmX5_leaseHolds (va_Pc [.ref (a0 0), .int p1] (PR E (wHS E a0 v0))) (vp_Si (fun r => r = bI x)) 0 0 (fun _ => False) := by
  refine Met.ofW (cc := cX5_leaseHolds) (maxL := 3) (ret := some .boolean) (by decide) rfl ?_
  intro p e s m args below meth c s₁ B hml hv
  obtain ⟨ha, hP, hC⟩ := hv
  have hx := B.exec
  have hb := B.bytes
  have hr := B.returns
  have hts := atoms_spec (ws := wsX5_leaseHolds) B.pre
  have hown : s.vm.findClass RX5 = some m.cls := findClass_of_methodNamed B.named
  have hlocks := B.notSynchronized
  have hS : va_S (fun _ => False) s.heap s.heap [] := va_S.rf
  have w1 : (Cond.fieldLink RX5 37 "GreatChunks$House" "chunks" "LGreatChunks$Chunks;").before args s = true := hts _ (List.mem_of_getElem? (i := 1) rfl)
  have w2 : ∀ w ∈ wsX50, w ∈ wsX5_leaseHolds := in_pl 42 rfl
  have w3 : (Cond.fieldLink RX5 238 "GreatChunks$Chunks" "holder" "[I").before args s = true := hts _ (List.mem_of_getElem? (i := 2) rfl)
  have w4 : ∀ w ∈ wsX10, w ∈ wsX5_leaseHolds := in_pl 51 rfl
  have w5 : (Cond.fieldLink RX5 24 "GreatChunks$House" "now" "I").before args s = true := hts _ (List.mem_of_getElem? (i := 3) rfl)
  have w6 : (Cond.fieldLink RX5 241 "GreatChunks$Chunks" "till" "[I").before args s = true := hts _ (List.mem_of_getElem? (i := 4) rfl)
  have w7 : (Cond.fieldLink RX5 30 "GreatChunks$House" "servers" "LGreatChunks$Servers;").before args s = true := hts _ (List.mem_of_getElem? (i := 5) rfl)
  generalize hQe : MQ below (vp_Si (fun r => r = bI x)) args s 0 0 (fun _ => False) = Q
  refine st_W ha (Nat.le_of_ble_eq_true rfl) (fun ls hl => ?_)
  have hl : lv_has ls 3 [(0, .ref (a0 0)), (1, .int p1)] := hl
  unfold f_X5_leaseHolds at hf
  refine lv_aload_n hx hb dX5_leaseHolds_0 rfl (lv_at hl 0 rfl) ?_
  refine va_get (D := E.1) (ci := 4) (v := .ref (a0 4)) (C := RX5) (T := TX5) (N := 9) hx hb hts w2 hown hC.1 hP 0 rfl rfl 6 (by decide) w1 (fun _ h9 => h9) rfl dX5_leaseHolds_1 ?_
  refine lv_iload_n hx hb dX5_leaseHolds_4 rfl (lv_at hl 1 rfl) ?_
  refine cr_i (va_runV (As := [.int p1]) (rest := []) ⟨hx, hb, hml, hown, hts⟩ (c_X1_has l E (fun k => a0 (k + 4)) v0.2.2.2.2.2.2.1 p1 _ rfl) (cwV 1 hts gX5_leaseHolds_X1_has rfl rfl rfl hdV_X1_has ⟨Nat.le_of_ble_eq_true rfl, Nat.le_of_ble_eq_true rfl⟩) ⟨PR.blind, va_recv hC.1 hP (ci := 1) (q0 := 4) rfl rfl, PR.pre hC hS (hP.sub [4, 5, 6, 7, 8] rfl)⟩ rfl rfl hl.1 rfl (lv_room (Nat.le_of_ble_eq_true rfl)) dX5_leaseHolds_5 ⟨Nat.le_of_ble_eq_true rfl, Nat.le_of_ble_eq_true rfl⟩) ?_
  refine lv_if_ne (tgt := 13) hx hb dX5_leaseHolds_8 rfl (fun c1 => ?_) (fun c1 => ?_)
  · have hf := it_f hf c1
    refine lv_aload_n hx hb dX5_leaseHolds_13 rfl (lv_at hl 0 rfl) ?_
    refine va_get (D := E.1) (ci := 4) (v := .ref (a0 4)) (C := RX5) (T := TX5) (N := 9) hx hb hts w2 hown hC.1 hP 0 rfl rfl 6 (by decide) w1 (fun _ h9 => h9) rfl dX5_leaseHolds_14 ?_
    refine va_get (D := E.1) (ci := 1) (v := .ref (a0 7)) (C := RX1) (T := TX1) (N := 5) hx hb hts w4 hown hC.1 hP 4 rfl rfl 3 (by decide) w3 (fun _ h9 => h9) rfl dX5_leaseHolds_17 ?_
    refine lv_iload_n hx hb dX5_leaseHolds_20 rfl (lv_at hl 1 rfl) ?_
    obtain ⟨h2, hf⟩ := gdI_some hf
    refine va_iald hx hb hC.1 hP 7 0 rfl rfl h2 dX5_leaseHolds_21 ?_
    refine lv_istore_n (lv' := [(2, .int (v0.2.2.2.2.2.2.1.2.2.2.1 p1.toNatClampNeg)), (0, .ref (a0 0)), (1, .int p1)]) hx hb dX5_leaseHolds_22 rfl hl (by decide) rfl (fun ls hl => ?_)
    refine lv_iload_n hx hb dX5_leaseHolds_23 rfl (lv_at hl 0 rfl) ?_
    refine lv_iconst (v := (-1)) hx hb dX5_leaseHolds_24 rfl ?_
    refine lv_icmp_eq (tgt := 68) hx hb dX5_leaseHolds_25 rfl (fun c3 => ?_) (fun c3 => ?_)
    · have hf := it_t hf c3
      refine lv_iconst (v := 0) hx hb dX5_leaseHolds_68 rfl ?_
      cases Option.some.inj hf
      subst hQe
      exact en_z hx hb hr hlocks rfl dX5_leaseHolds_69
    · have hf := it_f hf c3
      refine lv_aload_n hx hb dX5_leaseHolds_28 rfl (lv_at hl 1 rfl) ?_
      refine va_get (D := E.1) (ci := 4) (v := .int v0.2.2.2.2.1) (C := RX5) (T := TX5) (N := 9) hx hb hts w2 hown hC.1 hP 0 rfl rfl 4 (by decide) w5 (fun _ h9 => h9) rfl dX5_leaseHolds_29 ?_
      refine lv_aload_n hx hb dX5_leaseHolds_32 rfl (lv_at hl 1 rfl) ?_
      refine va_get (D := E.1) (ci := 4) (v := .ref (a0 4)) (C := RX5) (T := TX5) (N := 9) hx hb hts w2 hown hC.1 hP 0 rfl rfl 6 (by decide) w1 (fun _ h9 => h9) rfl dX5_leaseHolds_33 ?_
      refine va_get (D := E.1) (ci := 1) (v := .ref (a0 8)) (C := RX1) (T := TX1) (N := 5) hx hb hts w4 hown hC.1 hP 4 rfl rfl 4 (by decide) w6 (fun _ h9 => h9) rfl dX5_leaseHolds_36 ?_
      refine lv_iload_n hx hb dX5_leaseHolds_39 rfl (lv_at hl 2 rfl) ?_
      obtain ⟨h4, hf⟩ := gdI_some hf
      refine va_iald hx hb hC.1 hP 8 0 rfl rfl h4 dX5_leaseHolds_40 ?_
      refine lv_icmp_ge (tgt := 68) hx hb dX5_leaseHolds_41 rfl (fun c5 => ?_) (fun c5 => ?_)
      · have hf := it_t hf c5
        refine lv_iconst (v := 0) hx hb dX5_leaseHolds_68 rfl ?_
        cases Option.some.inj hf
        subst hQe
        exact en_z hx hb hr hlocks rfl dX5_leaseHolds_69
      · have hf := it_f hf c5
        refine lv_aload_n hx hb dX5_leaseHolds_44 rfl (lv_at hl 1 rfl) ?_
        refine va_get (D := E.1) (ci := 4) (v := .ref (a0 1)) (C := RX5) (T := TX5) (N := 9) hx hb hts w2 hown hC.1 hP 0 rfl rfl 5 (by decide) w7 (fun _ h9 => h9) rfl dX5_leaseHolds_45 ?_
        refine lv_iload_n hx hb dX5_leaseHolds_48 rfl (lv_at hl 0 rfl) ?_
        refine cr_i (va_runV (As := [.int (v0.2.2.2.2.2.2.1.2.2.2.1 p1.toNatClampNeg)]) (rest := []) ⟨hx, hb, hml, hown, hts⟩ (c_X8_hasUp l E (fun k => a0 (k + 1)) v0.2.2.2.2.2.1 (v0.2.2.2.2.2.2.1.2.2.2.1 p1.toNatClampNeg) _ rfl) (cwV 1 hts gX5_leaseHolds_X8_hasUp rfl rfl rfl hdV_X8_hasUp ⟨Nat.le_of_ble_eq_true rfl, Nat.le_of_ble_eq_true rfl⟩) ⟨PR.blind, va_recv hC.1 hP (ci := 6) (q0 := 1) rfl rfl, PR.pre hC hS (hP.sub [1, 2, 3] rfl)⟩ rfl rfl hl.1 rfl (lv_room (Nat.le_of_ble_eq_true rfl)) dX5_leaseHolds_49 ⟨Nat.le_of_ble_eq_true rfl, Nat.le_of_ble_eq_true rfl⟩) ?_
        refine lv_if_eq (tgt := 68) hx hb dX5_leaseHolds_52 rfl (fun c6 => ?_) (fun c6 => ?_)
        · have hf := it_t hf c6
          refine lv_iconst (v := 0) hx hb dX5_leaseHolds_68 rfl ?_
          cases Option.some.inj hf
          subst hQe
          exact en_z hx hb hr hlocks rfl dX5_leaseHolds_69
        · have hf := it_f hf c6
          refine lv_aload_n hx hb dX5_leaseHolds_55 rfl (lv_at hl 1 rfl) ?_
          refine lv_iload_n hx hb dX5_leaseHolds_56 rfl (lv_at hl 0 rfl) ?_
          refine lv_iload_n hx hb dX5_leaseHolds_57 rfl (lv_at hl 2 rfl) ?_
          obtain ⟨r7, e7, hf⟩ := bd_some hf
          refine cr_i (va_runV (As := [.int (v0.2.2.2.2.2.2.1.2.2.2.1 p1.toNatClampNeg), .int p1]) (rest := []) ⟨hx, hb, hml, hown, hts⟩ (c_X5_isGood l E a0 v0 (v0.2.2.2.2.2.2.1.2.2.2.1 p1.toNatClampNeg) p1 r7 e7) (cwV 2 hts gX5_leaseHolds_X5_isGood rfl rfl rfl hdV_X5_isGood ⟨Nat.le_of_ble_eq_true rfl, Nat.le_of_ble_eq_true rfl⟩) ⟨PR.blind, va_recv hC.1 hP (ci := 4) (q0 := 0) rfl rfl, PR.pre hC hS hP⟩ rfl rfl hl.1 rfl (lv_room (Nat.le_of_ble_eq_true rfl)) dX5_leaseHolds_58 ⟨Nat.le_of_ble_eq_true rfl, Nat.le_of_ble_eq_true rfl⟩) ?_
          refine lv_if_eq (tgt := 68) hx hb dX5_leaseHolds_61 rfl (fun c8 => ?_) (fun c8 => ?_)
          · have hf := it_t hf c8
            refine lv_iconst (v := 0) hx hb dX5_leaseHolds_68 rfl ?_
            cases Option.some.inj hf
            subst hQe
            exact en_z hx hb hr hlocks rfl dX5_leaseHolds_69
          · have hf := it_f hf c8
            refine lv_iconst (v := 1) hx hb dX5_leaseHolds_64 rfl ?_
            refine lv_goto (tgt := 69) hx hb dX5_leaseHolds_65 rfl ?_
            cases Option.some.inj hf
            subst hQe
            exact en_z hx hb hr hlocks rfl dX5_leaseHolds_69
  · have hf := it_t hf c1
    refine lv_iconst (v := 0) hx hb dX5_leaseHolds_11 rfl ?_
    cases Option.some.inj hf
    subst hQe
    exact en_z hx hb hr hlocks rfl dX5_leaseHolds_12

/-! X5_giveLease -/
abbrev rmX5_giveLease : Room := { frames := 4, cells := 0, slots := 0, locals := 90 }
theorem hdS_X5_giveLease : yX5_giveLease.cls ≠ "java/lang/invoke/MethodHandle" ∧ yX5_giveLease.cls ≠ "java/lang/invoke/VarHandle" ∧ (parseMethodDescriptor yX5_giveLease.desc).map (fun d => d.parameters.length) = some 1 := by decide +kernel
theorem hdV_X5_giveLease : yX5_giveLease.cls = RX5 ∧ yX5_giveLease.cls ≠ "java/lang/invoke/MethodHandle" ∧ yX5_giveLease.cls ≠ "java/lang/invoke/VarHandle" ∧ (parseMethodDescriptor yX5_giveLease.desc).map (fun d => d.parameters.length) = some 1 := ⟨rfl, hdS_X5_giveLease⟩
set_option maxHeartbeats 4000000 in
set_option maxRecDepth 100000 in
theorem c_X5_giveLease (l : Launch) (E : G0) (sz : Nat) (a0 : Nat → Nat) (v0 : HS) (p1 : Int32) (x : Bool × HS) (hf : f_X5_giveLease v0 p1 = some x) : Met l yX5_giveLease wsX5_giveLease rmX5_giveLease (va_Pc [.ref (a0 0), .int p1] (PW E (wHS E a0 v0) sz)) (va_Qi (fun r q => r = bI x.1 ∧ q = x.2) (fun q t => va_P E.1 vwCl ((fun q : HS => wHS E a0 q) q) t.heap ∧ va_D (va_A (wHS E a0 v0) sz) ((fun q : HS => wHS E a0 q) q)) (va_A (wHS E a0 v0) sz)) 0 0 (va_A (wHS E a0 v0) sz) := by
  refine Met.ofW (cc := cX5_giveLease) (maxL := 4) (ret := some .boolean) (by decide) rfl ?_
  intro p e s m args below meth c s₁ B hml hv
  obtain ⟨ha, hsz, hP, hD0, hC⟩ := hv
  have hx := B.exec
  have hb := B.bytes
  have hr := B.returns
  have hts := atoms_spec (ws := wsX5_giveLease) B.pre
  have hown : s.vm.findClass RX5 = some m.cls := findClass_of_methodNamed B.named
  have hlocks := B.notSynchronized
  subst hsz
  have hD := hD0.self (sz := s.heap.size)
  generalize hAe : va_A (wHS E a0 v0) s.heap.size = A at hD hC ⊢
  have hA : ∀ q : Nat, s.heap.size ≤ q → A q := fun q h => by rw [← hAe]; exact Or.inr h
  have hS : va_S A s.heap s.heap [] := va_S.rf
  have w1 : (Cond.fieldLink RX5 37 "GreatChunks$House" "chunks" "LGreatChunks$Chunks;").before args s = true := hts _ (List.mem_of_getElem? (i := 1) rfl)
  have w2 : ∀ w ∈ wsX50, w ∈ wsX5_giveLease := in_pl 61 rfl
  have w3 : (Cond.fieldLink RX5 87 "GreatChunks$Chunks" "version" "[I").before args s = true := hts _ (List.mem_of_getElem? (i := 2) rfl)
  have w4 : ∀ w ∈ wsX10, w ∈ wsX5_giveLease := in_pl 70 rfl
  have w5 : (Cond.fieldLink RX5 30 "GreatChunks$House" "servers" "LGreatChunks$Servers;").before args s = true := hts _ (List.mem_of_getElem? (i := 3) rfl)
  have w6 : (Cond.fieldLink RX5 98 "GreatChunks$Servers" "many" "I").before args s = true := hts _ (List.mem_of_getElem? (i := 4) rfl)
  have w7 : ∀ w ∈ wsX80, w ∈ wsX5_giveLease := in_pl 75 rfl
  have w8 : (Cond.initialized RX10).before args s = true := hts _ (List.mem_of_getElem? (i := 36) rfl)
  have w9 : (Cond.static yX10_isIn).before args s = true := hts _ (List.mem_of_getElem? (i := 35) rfl)
  have w10 : (Cond.fieldLink RX5 44 "GreatChunks$House" "copies" "LGreatChunks$Copies;").before args s = true := hts _ (List.mem_of_getElem? (i := 5) rfl)
  have w11 : (Cond.fieldLink RX5 238 "GreatChunks$Chunks" "holder" "[I").before args s = true := hts _ (List.mem_of_getElem? (i := 6) rfl)
  have w12 : (Cond.fieldLink RX5 241 "GreatChunks$Chunks" "till" "[I").before args s = true := hts _ (List.mem_of_getElem? (i := 7) rfl)
  have w13 : (Cond.fieldLink RX5 24 "GreatChunks$House" "now" "I").before args s = true := hts _ (List.mem_of_getElem? (i := 8) rfl)
  have w14 : (Cond.fieldLink RX5 18 "GreatChunks$House" "lease" "I").before args s = true := hts _ (List.mem_of_getElem? (i := 9) rfl)
  generalize hQe : MQ below (va_Qi (fun r q => r = bI x.1 ∧ q = x.2) (fun q t => va_P E.1 vwCl ((fun q : HS => wHS E a0 q) q) t.heap ∧ va_D A ((fun q : HS => wHS E a0 q) q)) A) args s 0 0 A = Q
  refine st_W ha (Nat.le_of_ble_eq_true rfl) (fun ls hl => ?_)
  have hl : lv_has ls 4 [(0, .ref (a0 0)), (1, .int p1)] := hl
  unfold f_X5_giveLease at hf
  refine lv_aload_n hx hb dX5_giveLease_0 rfl (lv_at hl 0 rfl) ?_
  refine lv_iload_n hx hb dX5_giveLease_1 rfl (lv_at hl 1 rfl) ?_
  obtain ⟨r1, e1, hf⟩ := bd_some hf
  refine cr_i (va_runV (As := [.int p1]) (rest := []) ⟨hx, hb, hml, hown, hts⟩ (c_X5_able l E a0 v0 p1 r1 e1) (cwV 1 hts gX5_giveLease_X5_able rfl rfl rfl hdV_X5_able ⟨Nat.le_of_ble_eq_true rfl, Nat.le_of_ble_eq_true rfl⟩) ⟨PR.blind, va_recv hC.1 hP (ci := 4) (q0 := 0) rfl rfl, PR.pre hC hS hP⟩ rfl rfl hl.1 rfl (lv_room (Nat.le_of_ble_eq_true rfl)) dX5_giveLease_2 ⟨Nat.le_of_ble_eq_true rfl, Nat.le_of_ble_eq_true rfl⟩) ?_
  refine lv_istore_n (lv' := [(2, .int r1), (0, .ref (a0 0)), (1, .int p1)]) hx hb dX5_giveLease_5 rfl hl (by decide) rfl (fun ls hl => ?_)
  refine lv_iload_n hx hb dX5_giveLease_6 rfl (lv_at hl 0 rfl) ?_
  refine lv_if_eq (tgt := 21) hx hb dX5_giveLease_7 rfl (fun c2 => ?_) (fun c2 => ?_)
  · have hf := it_t hf c2
    refine lv_iconst (v := 0) hx hb dX5_giveLease_21 rfl ?_
    cases Option.some.inj hf
    subst hQe
    exact ew_z (wf := (fun q : HS => wHS E a0 q)) hx hb hr hlocks rfl hP hD hS dX5_giveLease_22
  · have hf := it_f hf c2
    refine lv_aload_n hx hb dX5_giveLease_10 rfl (lv_at hl 1 rfl) ?_
    refine va_get (D := E.1) (ci := 4) (v := .ref (a0 4)) (C := RX5) (T := TX5) (N := 9) hx hb hts w2 hown hC.1 hP 0 rfl rfl 6 (by decide) w1 (fun _ h9 => h9) rfl dX5_giveLease_11 ?_
    refine lv_iload_n hx hb dX5_giveLease_14 rfl (lv_at hl 2 rfl) ?_
    refine cr_i (va_runV (As := [.int p1]) (rest := []) ⟨hx, hb, hml, hown, hts⟩ (c_X1_has l E (fun k => a0 (k + 4)) v0.2.2.2.2.2.2.1 p1 _ rfl) (cwV 1 hts gX5_giveLease_X1_has rfl rfl rfl hdV_X1_has ⟨Nat.le_of_ble_eq_true rfl, Nat.le_of_ble_eq_true rfl⟩) ⟨PR.blind, va_recv hC.1 hP (ci := 1) (q0 := 4) rfl rfl, PR.pre hC hS (hP.sub [4, 5, 6, 7, 8] rfl)⟩ rfl rfl hl.1 rfl (lv_room (Nat.le_of_ble_eq_true rfl)) dX5_giveLease_15 ⟨Nat.le_of_ble_eq_true rfl, Nat.le_of_ble_eq_true rfl⟩) ?_
    refine lv_if_ne (tgt := 23) hx hb dX5_giveLease_18 rfl (fun c3 => ?_) (fun c3 => ?_)
    · have hf := it_f hf c3
      refine lv_aload_n hx hb dX5_giveLease_23 rfl (lv_at hl 1 rfl) ?_
      refine va_get (D := E.1) (ci := 4) (v := .ref (a0 4)) (C := RX5) (T := TX5) (N := 9) hx hb hts w2 hown hC.1 hP 0 rfl rfl 6 (by decide) w1 (fun _ h9 => h9) rfl dX5_giveLease_24 ?_
      refine va_get (D := E.1) (ci := 1) (v := .ref (a0 5)) (C := RX1) (T := TX1) (N := 5) hx hb hts w4 hown hC.1 hP 4 rfl rfl 1 (by decide) w3 (fun _ h9 => h9) rfl dX5_giveLease_27 ?_
      refine lv_iload_n hx hb dX5_giveLease_30 rfl (lv_at hl 2 rfl) ?_
      refine lv_dup2_11 hx hb dX5_giveLease_31 rfl rfl ?_
      obtain ⟨h4, hf⟩ := gdI_some hf
      refine va_iald hx hb hC.1 hP 5 0 rfl rfl h4 dX5_giveLease_32 ?_
      refine lv_iconst (v := 1) hx hb dX5_giveLease_33 rfl ?_
      refine lv_iadd hx hb dX5_giveLease_34 ?_
      obtain ⟨h5, hf⟩ := gdI_some hf
      refine va_iast hx hb hC.1 hP hD hS 5 0 rfl rfl h5 dX5_giveLease_35 (fun H locs hP hD hS => ?_)
      have hP : va_P E.1 vwCl (wHS E a0 (v0.1, v0.2.1, v0.2.2.1, v0.2.2.2.1, v0.2.2.2.2.1, v0.2.2.2.2.2.1, (v0.2.2.2.2.2.2.1.1, (upd v0.2.2.2.2.2.2.1.2.1 p1.toNatClampNeg ((v0.2.2.2.2.2.2.1.2.1 p1.toNatClampNeg) + (1 : Int32))), v0.2.2.2.2.2.2.1.2.2.1, v0.2.2.2.2.2.2.1.2.2.2.1, v0.2.2.2.2.2.2.1.2.2.2.2), v0.2.2.2.2.2.2.2.1, v0.2.2.2.2.2.2.2.2)) H := hP
      have hD : va_D A (wHS E a0 (v0.1, v0.2.1, v0.2.2.1, v0.2.2.2.1, v0.2.2.2.2.1, v0.2.2.2.2.2.1, (v0.2.2.2.2.2.2.1.1, (upd v0.2.2.2.2.2.2.1.2.1 p1.toNatClampNeg ((v0.2.2.2.2.2.2.1.2.1 p1.toNatClampNeg) + (1 : Int32))), v0.2.2.2.2.2.2.1.2.2.1, v0.2.2.2.2.2.2.1.2.2.2.1, v0.2.2.2.2.2.2.1.2.2.2.2), v0.2.2.2.2.2.2.2.1, v0.2.2.2.2.2.2.2.2)) := hD
      refine lv_iconst (v := 0) hx hb dX5_giveLease_36 rfl ?_
      refine lv_istore_n (lv' := [(3, .int (0 : Int32)), (2, .int r1), (0, .ref (a0 0)), (1, .int p1)]) hx hb dX5_giveLease_37 rfl hl (by decide) rfl (fun ls hl => ?_)
      obtain ⟨K6, hK6, hf⟩ := jn_some hf
      have J6 : ∀ (q6 : Int32 × HS) (H : Heap) (locs : List Loc) (hP : va_P E.1 vwCl (wHS E a0 q6.2) H) (hD : va_D A (wHS E a0 q6.2)) (hS : va_S A s.heap H locs) (ls : Array Slot) (hl : lv_has ls 4 [(0, .ref (a0 0)), (1, .int p1), (2, .int r1)]) (hf : K6 q6 = some x), W p l e (headSpec wsX5_giveLease rmX5_giveLease).room s m args below meth c H locs 0 0 Q (F0 m 81 ls []) := by
        intro q6 H locs hP hD hS ls hl hf
        have hf := (hK6 q6).trans hf
        refine lv_aload_n hx hb dX5_giveLease_81 rfl (lv_at hl 0 rfl) ?_
        refine va_get (D := E.1) (ci := 4) (v := .ref (a0 4)) (C := RX5) (T := TX5) (N := 9) hx hb hts w2 hown hC.1 hP 0 rfl rfl 6 (by decide) w1 (fun _ h9 => h9) rfl dX5_giveLease_82 ?_
        refine va_get (D := E.1) (ci := 1) (v := .ref (a0 7)) (C := RX1) (T := TX1) (N := 5) hx hb hts w4 hown hC.1 hP 4 rfl rfl 3 (by decide) w11 (fun _ h9 => h9) rfl dX5_giveLease_85 ?_
        refine lv_iload_n hx hb dX5_giveLease_88 rfl (lv_at hl 1 rfl) ?_
        refine lv_aload_n hx hb dX5_giveLease_89 rfl (lv_at hl 0 rfl) ?_
        refine lv_iload_n hx hb dX5_giveLease_90 rfl (lv_at hl 2 rfl) ?_
        obtain ⟨r7, e7, hf⟩ := bd_some hf
        refine cr_i (va_runV (As := [.int r1]) (rest := [.int p1, .ref (a0 7)]) ⟨hx, hb, hml, hown, hts⟩ (c_X5_best l E a0 q6.2 r1 r7 e7) (cwV 1 hts gX5_giveLease_X5_best rfl rfl rfl hdV_X5_best ⟨Nat.le_of_ble_eq_true rfl, Nat.le_of_ble_eq_true rfl⟩) ⟨PR.blind, va_recv hC.1 hP (ci := 4) (q0 := 0) rfl rfl, PR.pre hC hS hP⟩ rfl rfl hl.1 rfl (lv_room (Nat.le_of_ble_eq_true rfl)) dX5_giveLease_91 ⟨Nat.le_of_ble_eq_true rfl, Nat.le_of_ble_eq_true rfl⟩) ?_
        obtain ⟨h8, hf⟩ := gdI_some hf
        refine va_iast hx hb hC.1 hP hD hS 7 0 rfl rfl h8 dX5_giveLease_94 (fun H locs hP hD hS => ?_)
        have hP : va_P E.1 vwCl (wHS E a0 (q6.2.1, q6.2.2.1, q6.2.2.2.1, q6.2.2.2.2.1, q6.2.2.2.2.2.1, q6.2.2.2.2.2.2.1, (q6.2.2.2.2.2.2.2.1.1, q6.2.2.2.2.2.2.2.1.2.1, q6.2.2.2.2.2.2.2.1.2.2.1, (upd q6.2.2.2.2.2.2.2.1.2.2.2.1 p1.toNatClampNeg r7), q6.2.2.2.2.2.2.2.1.2.2.2.2), q6.2.2.2.2.2.2.2.2.1, q6.2.2.2.2.2.2.2.2.2)) H := hP
        have hD : va_D A (wHS E a0 (q6.2.1, q6.2.2.1, q6.2.2.2.1, q6.2.2.2.2.1, q6.2.2.2.2.2.1, q6.2.2.2.2.2.2.1, (q6.2.2.2.2.2.2.2.1.1, q6.2.2.2.2.2.2.2.1.2.1, q6.2.2.2.2.2.2.2.1.2.2.1, (upd q6.2.2.2.2.2.2.2.1.2.2.2.1 p1.toNatClampNeg r7), q6.2.2.2.2.2.2.2.1.2.2.2.2), q6.2.2.2.2.2.2.2.2.1, q6.2.2.2.2.2.2.2.2.2)) := hD
        refine lv_aload_n hx hb dX5_giveLease_95 rfl (lv_at hl 0 rfl) ?_
        refine va_get (D := E.1) (ci := 4) (v := .ref (a0 4)) (C := RX5) (T := TX5) (N := 9) hx hb hts w2 hown hC.1 hP 0 rfl rfl 6 (by decide) w1 (fun _ h9 => h9) rfl dX5_giveLease_96 ?_
        refine va_get (D := E.1) (ci := 1) (v := .ref (a0 8)) (C := RX1) (T := TX1) (N := 5) hx hb hts w4 hown hC.1 hP 4 rfl rfl 4 (by decide) w12 (fun _ h9 => h9) rfl dX5_giveLease_99 ?_
        refine lv_iload_n hx hb dX5_giveLease_102 rfl (lv_at hl 1 rfl) ?_
        refine lv_aload_n hx hb dX5_giveLease_103 rfl (lv_at hl 0 rfl) ?_
        refine va_get (D := E.1) (ci := 4) (v := .int q6.2.2.2.2.2.1) (C := RX5) (T := TX5) (N := 9) hx hb hts w2 hown hC.1 hP 0 rfl rfl 4 (by decide) w13 (fun _ h9 => h9) rfl dX5_giveLease_104 ?_
        refine lv_aload_n hx hb dX5_giveLease_107 rfl (lv_at hl 0 rfl) ?_
        refine va_get (D := E.1) (ci := 4) (v := .int q6.2.2.2.1) (C := RX5) (T := TX5) (N := 9) hx hb hts w2 hown hC.1 hP 0 rfl rfl 2 (by decide) w14 (fun _ h9 => h9) rfl dX5_giveLease_108 ?_
        refine lv_iadd hx hb dX5_giveLease_111 ?_
        obtain ⟨h9, hf⟩ := gdI_some hf
        refine va_iast hx hb hC.1 hP hD hS 8 0 rfl rfl h9 dX5_giveLease_112 (fun H locs hP hD hS => ?_)
        have hP : va_P E.1 vwCl (wHS E a0 (q6.2.1, q6.2.2.1, q6.2.2.2.1, q6.2.2.2.2.1, q6.2.2.2.2.2.1, q6.2.2.2.2.2.2.1, (q6.2.2.2.2.2.2.2.1.1, q6.2.2.2.2.2.2.2.1.2.1, q6.2.2.2.2.2.2.2.1.2.2.1, (upd q6.2.2.2.2.2.2.2.1.2.2.2.1 p1.toNatClampNeg r7), (upd q6.2.2.2.2.2.2.2.1.2.2.2.2 p1.toNatClampNeg (q6.2.2.2.2.2.1 + q6.2.2.2.1))), q6.2.2.2.2.2.2.2.2.1, q6.2.2.2.2.2.2.2.2.2)) H := hP
        have hD : va_D A (wHS E a0 (q6.2.1, q6.2.2.1, q6.2.2.2.1, q6.2.2.2.2.1, q6.2.2.2.2.2.1, q6.2.2.2.2.2.2.1, (q6.2.2.2.2.2.2.2.1.1, q6.2.2.2.2.2.2.2.1.2.1, q6.2.2.2.2.2.2.2.1.2.2.1, (upd q6.2.2.2.2.2.2.2.1.2.2.2.1 p1.toNatClampNeg r7), (upd q6.2.2.2.2.2.2.2.1.2.2.2.2 p1.toNatClampNeg (q6.2.2.2.2.2.1 + q6.2.2.2.1))), q6.2.2.2.2.2.2.2.2.1, q6.2.2.2.2.2.2.2.2.2)) := hD
        refine lv_iconst (v := 1) hx hb dX5_giveLease_113 rfl ?_
        cases Option.some.inj hf
        subst hQe
        exact ew_z (wf := (fun q : HS => wHS E a0 q)) hx hb hr hlocks rfl hP hD hS dX5_giveLease_114
      have L6 : ∀ (n : Nat) (q6 : Int32 × HS) (H : Heap) (locs : List Loc) (hP : va_P E.1 vwCl (wHS E a0 q6.2) H) (hD : va_D A (wHS E a0 q6.2)) (hS : va_S A s.heap H locs) (ls : Array Slot) (hl : lv_has ls 4 [(0, .ref (a0 0)), (1, .int p1), (2, .int r1), (3, .int q6.1)]) (hf : lpF (bX5_giveLease_6 r1 p1 K6) n q6 = some x), W p l e (headSpec wsX5_giveLease rmX5_giveLease).room s m args below meth c H locs 0 0 Q (F0 m 38 ls []) := by
        intro n
        induction n with
        | zero => intro q6 H locs hP hD hS ls hl hf; exact (lpF_zero hf).elim
        | succ n ih6 =>
          intro q6 H locs hP hD hS ls hl hf
          have hf := lpF_succ hf
          unfold bX5_giveLease_6 at hf
          refine lv_iload_n hx hb dX5_giveLease_38 rfl (lv_at hl 3 rfl) ?_
          refine lv_aload_n hx hb dX5_giveLease_39 rfl (lv_at hl 0 rfl) ?_
          refine va_get (D := E.1) (ci := 4) (v := .ref (a0 1)) (C := RX5) (T := TX5) (N := 9) hx hb hts w2 hown hC.1 hP 0 rfl rfl 5 (by decide) w5 (fun _ h9 => h9) rfl dX5_giveLease_40 ?_
          refine va_get (D := E.1) (ci := 6) (v := .int q6.2.2.2.2.2.2.1.1) (C := RX8) (T := TX8) (N := 4) hx hb hts w7 hown hC.1 hP 1 rfl rfl 0 (by decide) w6 (fun _ h9 => h9) rfl dX5_giveLease_43 ?_
          refine lv_icmp_ge (tgt := 81) hx hb dX5_giveLease_46 rfl (fun c10 => ?_) (fun c10 => ?_)
          · have hf := it_t hf c10
            exact J6 (q6.1, q6.2) H locs hP hD hS ls (lv_sub hl [0, 1, 2] rfl) hf
          · have hf := it_f hf c10
            refine lv_iload_n hx hb dX5_giveLease_49 rfl (lv_at hl 2 rfl) ?_
            refine lv_iload_n hx hb dX5_giveLease_50 rfl (lv_at hl 3 rfl) ?_
            refine cr_i (va_runSN (As := [.int r1, .int q6.1]) (rest := []) ⟨hx, hb, hml, hown, hts⟩ (c_X10_isIn l E r1 q6.1 _ rfl) ⟨va_cnB 2 hts gX5_giveLease_X10_isIn_n117 rfl rfl rfl (hC.2.1 (RX5, 117, yX10_isIn, RX10) (List.mem_of_getElem? (i := 13) rfl)) w8 hdS_X10_isIn ⟨Nat.le_of_ble_eq_true rfl, Nat.le_of_ble_eq_true rfl⟩, w9, trivial⟩ ⟨PR.blind, PR.pre hC hS (hP.sub [] rfl)⟩ rfl rfl hl.1 rfl (lv_room (Nat.le_of_ble_eq_true rfl)) dX5_giveLease_51 ⟨Nat.le_of_ble_eq_true rfl, Nat.le_of_ble_eq_true rfl⟩) ?_
            refine lv_if_eq (tgt := 75) hx hb dX5_giveLease_54 rfl (fun c11 => ?_) (fun c11 => ?_)
            · have hf := it_t hf c11
              refine lv_iinc (v := (q6.1 + 1)) (lv' := [(3, .int (q6.1 + 1)), (0, .ref (a0 0)), (1, .int p1), (2, .int r1)]) hx hb dX5_giveLease_75 hl (k := 3) rfl rfl (by decide) rfl (fun ls hl => ?_)
              refine lv_goto (tgt := 38) hx hb dX5_giveLease_78 rfl ?_
              exact ih6 ((q6.1 + 1), q6.2) H locs hP hD hS ls (lv_sub hl [1, 2, 3, 0] rfl) hf
            · have hf := it_f hf c11
              refine lv_aload_n hx hb dX5_giveLease_57 rfl (lv_at hl 0 rfl) ?_
              refine va_get (D := E.1) (ci := 4) (v := .ref (a0 9)) (C := RX5) (T := TX5) (N := 9) hx hb hts w2 hown hC.1 hP 0 rfl rfl 7 (by decide) w10 (fun _ h9 => h9) rfl dX5_giveLease_58 ?_
              refine lv_iload_n hx hb dX5_giveLease_61 rfl (lv_at hl 3 rfl) ?_
              refine lv_iload_n hx hb dX5_giveLease_62 rfl (lv_at hl 1 rfl) ?_
              refine lv_aload_n hx hb dX5_giveLease_63 rfl (lv_at hl 0 rfl) ?_
              refine va_get (D := E.1) (ci := 4) (v := .ref (a0 4)) (C := RX5) (T := TX5) (N := 9) hx hb hts w2 hown hC.1 hP 0 rfl rfl 6 (by decide) w1 (fun _ h9 => h9) rfl dX5_giveLease_64 ?_
              refine va_get (D := E.1) (ci := 1) (v := .ref (a0 5)) (C := RX1) (T := TX1) (N := 5) hx hb hts w4 hown hC.1 hP 4 rfl rfl 1 (by decide) w3 (fun _ h9 => h9) rfl dX5_giveLease_67 ?_
              refine lv_iload_n hx hb dX5_giveLease_70 rfl (lv_at hl 1 rfl) ?_
              obtain ⟨h12, hf⟩ := gdI_some hf
              refine va_iald hx hb hC.1 hP 5 0 rfl rfl h12 dX5_giveLease_71 ?_
              obtain ⟨r13, e13, hf⟩ := bd_some hf
              refine cq_v hP hD hS [9, 10, 11, 12] [0, 1, 2, 3, 4, 5, 6, 7, 8, 13, 14, 15, 16, 17, 18] [0, 1, 2, 3, 4, 5, 6, 7, 8, 15, 16, 17, 18, 9, 10, 11, 12, 13, 14] (va_free (wc := (wCP E (fun k => a0 (k + 9)) q6.2.2.2.2.2.2.2.2.1)) hD hS hA [9, 10, 11, 12] rfl) (va_runV (As := [.int q6.1, .int p1, .int (q6.2.2.2.2.2.2.2.1.2.1 p1.toNatClampNeg)]) (rest := []) ⟨hx, hb, hml, hown, hts⟩ (c_X2_setVersion l E H.size (fun k => a0 (k + 9)) q6.2.2.2.2.2.2.2.2.1 q6.1 p1 (q6.2.2.2.2.2.2.2.1.2.1 p1.toNatClampNeg) r13 e13) (cwV 3 hts gX5_giveLease_X2_setVersion rfl rfl rfl hdV_X2_setVersion ⟨Nat.le_of_ble_eq_true rfl, Nat.le_of_ble_eq_true rfl⟩) ⟨PW.blind, va_recv hC.1 hP (ci := 2) (q0 := 9) rfl rfl, PW.pre hC hS (hP.sub [9, 10, 11, 12] rfl) (hD.sub [9, 10, 11, 12] rfl rfl) (va_free hD hS hA [9, 10, 11, 12] rfl)⟩ rfl rfl hl.1 rfl (lv_room (Nat.le_of_ble_eq_true rfl)) dX5_giveLease_72 ⟨Nat.le_of_ble_eq_true rfl, Nat.le_of_ble_eq_true rfl⟩) rfl rfl rfl rfl (wHS E a0 (q6.2.1, q6.2.2.1, q6.2.2.2.1, q6.2.2.2.2.1, q6.2.2.2.2.2.1, q6.2.2.2.2.2.2.1, q6.2.2.2.2.2.2.2.1, r13, q6.2.2.2.2.2.2.2.2.2)) rfl rfl (fun H locs hP hD hS => ?_)
              refine lv_iinc (v := (q6.1 + 1)) (lv' := [(3, .int (q6.1 + 1)), (0, .ref (a0 0)), (1, .int p1), (2, .int r1)]) hx hb dX5_giveLease_75 hl (k := 3) rfl rfl (by decide) rfl (fun ls hl => ?_)
              refine lv_goto (tgt := 38) hx hb dX5_giveLease_78 rfl ?_
              exact ih6 ((q6.1 + 1), (q6.2.1, q6.2.2.1, q6.2.2.2.1, q6.2.2.2.2.1, q6.2.2.2.2.2.1, q6.2.2.2.2.2.2.1, q6.2.2.2.2.2.2.2.1, r13, q6.2.2.2.2.2.2.2.2.2)) H locs hP hD hS ls (lv_sub hl [1, 2, 3, 0] rfl) hf
      exact L6 FU ((0 : Int32), (v0.1, v0.2.1, v0.2.2.1, v0.2.2.2.1, v0.2.2.2.2.1, v0.2.2.2.2.2.1, (v0.2.2.2.2.2.2.1.1, (upd v0.2.2.2.2.2.2.1.2.1 p1.toNatClampNeg ((v0.2.2.2.2.2.2.1.2.1 p1.toNatClampNeg) + (1 : Int32))), v0.2.2.2.2.2.2.1.2.2.1, v0.2.2.2.2.2.2.1.2.2.2.1, v0.2.2.2.2.2.2.1.2.2.2.2), v0.2.2.2.2.2.2.2.1, v0.2.2.2.2.2.2.2.2)) H locs hP hD hS ls (lv_sub hl [2, 3, 1, 0] rfl) hf
    · have hf := it_t hf c3
      refine lv_iconst (v := 0) hx hb dX5_giveLease_21 rfl ?_
      cases Option.some.inj hf
      subst hQe
      exact ew_z (wf := (fun q : HS => wHS E a0 q)) hx hb hr hlocks rfl hP hD hS dX5_giveLease_22

/-! X5_padAll -/
abbrev rmX5_padAll : Room := { frames := 4, cells := 0, slots := 0, locals := 90 }
theorem hdS_X5_padAll : yX5_padAll.cls ≠ "java/lang/invoke/MethodHandle" ∧ yX5_padAll.cls ≠ "java/lang/invoke/VarHandle" ∧ (parseMethodDescriptor yX5_padAll.desc).map (fun d => d.parameters.length) = some 2 := by decide +kernel
theorem hdV_X5_padAll : yX5_padAll.cls = RX5 ∧ yX5_padAll.cls ≠ "java/lang/invoke/MethodHandle" ∧ yX5_padAll.cls ≠ "java/lang/invoke/VarHandle" ∧ (parseMethodDescriptor yX5_padAll.desc).map (fun d => d.parameters.length) = some 2 := ⟨rfl, hdS_X5_padAll⟩
set_option maxHeartbeats 4000000 in
set_option maxRecDepth 100000 in
theorem c_X5_padAll (l : Launch) (E : G0) (sz : Nat) (a0 : Nat → Nat) (v0 : HS) (p1 : Int32) (p2 : Int32) (x : HS) (hf : f_X5_padAll v0 p1 p2 = some x) : Met l yX5_padAll wsX5_padAll rmX5_padAll (va_Pc [.ref (a0 0), .int p1, .int p2] (PW E (wHS E a0 v0) sz)) (va_Qv (fun q => q = x) (fun q t => va_P E.1 vwCl ((fun q : HS => wHS E a0 q) q) t.heap ∧ va_D (va_A (wHS E a0 v0) sz) ((fun q : HS => wHS E a0 q) q)) (va_A (wHS E a0 v0) sz)) 0 0 (va_A (wHS E a0 v0) sz) := by
  refine Met.ofW (cc := cX5_padAll) (maxL := 5) (ret := none) (by decide) rfl ?_
  intro p e s m args below meth c s₁ B hml hv
  obtain ⟨ha, hsz, hP, hD0, hC⟩ := hv
  have hx := B.exec
  have hb := B.bytes
  have hr := B.returns
  have hts := atoms_spec (ws := wsX5_padAll) B.pre
  have hown : s.vm.findClass RX5 = some m.cls := findClass_of_methodNamed B.named
  have hlocks := B.notSynchronized
  subst hsz
  have hD := hD0.self (sz := s.heap.size)
  generalize hAe : va_A (wHS E a0 v0) s.heap.size = A at hD hC ⊢
  have hA : ∀ q : Nat, s.heap.size ≤ q → A q := fun q h => by rw [← hAe]; exact Or.inr h
  have hS : va_S A s.heap s.heap [] := va_S.rf
  have w1 : (Cond.fieldLink RX5 30 "GreatChunks$House" "servers" "LGreatChunks$Servers;").before args s = true := hts _ (List.mem_of_getElem? (i := 1) rfl)
  have w2 : ∀ w ∈ wsX50, w ∈ wsX5_padAll := in_pl 54 rfl
  have w3 : (Cond.fieldLink RX5 98 "GreatChunks$Servers" "many" "I").before args s = true := hts _ (List.mem_of_getElem? (i := 2) rfl)
  have w4 : ∀ w ∈ wsX80, w ∈ wsX5_padAll := in_pl 63 rfl
  have w5 : (Cond.initialized RX10).before args s = true := hts _ (List.mem_of_getElem? (i := 33) rfl)
  have w6 : (Cond.static yX10_isIn).before args s = true := hts _ (List.mem_of_getElem? (i := 32) rfl)
  have w7 : (Cond.fieldLink RX5 44 "GreatChunks$House" "copies" "LGreatChunks$Copies;").before args s = true := hts _ (List.mem_of_getElem? (i := 3) rfl)
  have w8 : (Cond.fieldLink RX5 15 "GreatChunks$House" "size" "I").before args s = true := hts _ (List.mem_of_getElem? (i := 4) rfl)
  generalize hQe : MQ below (va_Qv (fun q => q = x) (fun q t => va_P E.1 vwCl ((fun q : HS => wHS E a0 q) q) t.heap ∧ va_D A ((fun q : HS => wHS E a0 q) q)) A) args s 0 0 A = Q
  refine st_W ha (Nat.le_of_ble_eq_true rfl) (fun ls hl => ?_)
  have hl : lv_has ls 5 [(0, .ref (a0 0)), (1, .int p1), (2, .int p2)] := hl
  unfold f_X5_padAll at hf
  refine lv_aload_n hx hb dX5_padAll_0 rfl (lv_at hl 0 rfl) ?_
  refine lv_iload_n hx hb dX5_padAll_1 rfl (lv_at hl 1 rfl) ?_
  obtain ⟨r1, e1, hf⟩ := bd_some hf
  refine cr_i (va_runV (As := [.int p1]) (rest := []) ⟨hx, hb, hml, hown, hts⟩ (c_X5_able l E a0 v0 p1 r1 e1) (cwV 1 hts gX5_padAll_X5_able rfl rfl rfl hdV_X5_able ⟨Nat.le_of_ble_eq_true rfl, Nat.le_of_ble_eq_true rfl⟩) ⟨PR.blind, va_recv hC.1 hP (ci := 4) (q0 := 0) rfl rfl, PR.pre hC hS hP⟩ rfl rfl hl.1 rfl (lv_room (Nat.le_of_ble_eq_true rfl)) dX5_padAll_2 ⟨Nat.le_of_ble_eq_true rfl, Nat.le_of_ble_eq_true rfl⟩) ?_
  refine lv_istore_n (lv' := [(3, .int r1), (0, .ref (a0 0)), (1, .int p1), (2, .int p2)]) hx hb dX5_padAll_5 rfl hl (by decide) rfl (fun ls hl => ?_)
  refine lv_iconst (v := 0) hx hb dX5_padAll_6 rfl ?_
  refine lv_istore (lv' := [(4, .int (0 : Int32)), (3, .int r1), (0, .ref (a0 0)), (1, .int p1), (2, .int p2)]) hx hb dX5_padAll_7 hl (by decide) rfl (fun ls hl => ?_)
  obtain ⟨K2, hK2, hf⟩ := jn_some hf
  have J2 : ∀ (q2 : Int32 × HS) (H : Heap) (locs : List Loc) (hP : va_P E.1 vwCl (wHS E a0 q2.2) H) (hD : va_D A (wHS E a0 q2.2)) (hS : va_S A s.heap H locs) (ls : Array Slot) (hl : lv_has ls 5 []) (hf : K2 q2 = some x), W p l e (headSpec wsX5_padAll rmX5_padAll).room s m args below meth c H locs 0 0 Q (F0 m 51 ls []) := by
    intro q2 H locs hP hD hS ls hl hf
    have hf := (hK2 q2).trans hf
    cases Option.some.inj hf
    subst hQe
    exact ew_v (wf := (fun q : HS => wHS E a0 q)) hx hb hr hlocks hP hD hS dX5_padAll_51
  have L2 : ∀ (n : Nat) (q2 : Int32 × HS) (H : Heap) (locs : List Loc) (hP : va_P E.1 vwCl (wHS E a0 q2.2) H) (hD : va_D A (wHS E a0 q2.2)) (hS : va_S A s.heap H locs) (ls : Array Slot) (hl : lv_has ls 5 [(0, .ref (a0 0)), (1, .int p1), (2, .int p2), (3, .int r1), (4, .int q2.1)]) (hf : lpF (bX5_padAll_2 r1 p1 p2 K2) n q2 = some x), W p l e (headSpec wsX5_padAll rmX5_padAll).room s m args below meth c H locs 0 0 Q (F0 m 9 ls []) := by
    intro n
    induction n with
    | zero => intro q2 H locs hP hD hS ls hl hf; exact (lpF_zero hf).elim
    | succ n ih2 =>
      intro q2 H locs hP hD hS ls hl hf
      have hf := lpF_succ hf
      unfold bX5_padAll_2 at hf
      refine lv_iload hx hb dX5_padAll_9 (lv_at hl 4 rfl) ?_
      refine lv_aload_n hx hb dX5_padAll_11 rfl (lv_at hl 0 rfl) ?_
      refine va_get (D := E.1) (ci := 4) (v := .ref (a0 1)) (C := RX5) (T := TX5) (N := 9) hx hb hts w2 hown hC.1 hP 0 rfl rfl 5 (by decide) w1 (fun _ h9 => h9) rfl dX5_padAll_12 ?_
      refine va_get (D := E.1) (ci := 6) (v := .int q2.2.2.2.2.2.2.1.1) (C := RX8) (T := TX8) (N := 4) hx hb hts w4 hown hC.1 hP 1 rfl rfl 0 (by decide) w3 (fun _ h9 => h9) rfl dX5_padAll_15 ?_
      refine lv_icmp_ge (tgt := 51) hx hb dX5_padAll_18 rfl (fun c3 => ?_) (fun c3 => ?_)
      · have hf := it_t hf c3
        exact J2 (q2.1, q2.2) H locs hP hD hS ls (lv_sub hl [] rfl) hf
      · have hf := it_f hf c3
        refine lv_iload_n hx hb dX5_padAll_21 rfl (lv_at hl 3 rfl) ?_
        refine lv_iload hx hb dX5_padAll_22 (lv_at hl 4 rfl) ?_
        refine cr_i (va_runSN (As := [.int r1, .int q2.1]) (rest := []) ⟨hx, hb, hml, hown, hts⟩ (c_X10_isIn l E r1 q2.1 _ rfl) ⟨va_cnB 2 hts gX5_padAll_X10_isIn_n117 rfl rfl rfl (hC.2.1 (RX5, 117, yX10_isIn, RX10) (List.mem_of_getElem? (i := 13) rfl)) w5 hdS_X10_isIn ⟨Nat.le_of_ble_eq_true rfl, Nat.le_of_ble_eq_true rfl⟩, w6, trivial⟩ ⟨PR.blind, PR.pre hC hS (hP.sub [] rfl)⟩ rfl rfl hl.1 rfl (lv_room (Nat.le_of_ble_eq_true rfl)) dX5_padAll_24 ⟨Nat.le_of_ble_eq_true rfl, Nat.le_of_ble_eq_true rfl⟩) ?_
        refine lv_if_eq (tgt := 45) hx hb dX5_padAll_27 rfl (fun c4 => ?_) (fun c4 => ?_)
        · have hf := it_t hf c4
          refine lv_iinc (v := (q2.1 + 1)) (lv' := [(4, .int (q2.1 + 1)), (0, .ref (a0 0)), (1, .int p1), (2, .int p2), (3, .int r1)]) hx hb dX5_padAll_45 hl (k := 4) rfl rfl (by decide) rfl (fun ls hl => ?_)
          refine lv_goto (tgt := 9) hx hb dX5_padAll_48 rfl ?_
          exact ih2 ((q2.1 + 1), q2.2) H locs hP hD hS ls (lv_sub hl [1, 2, 3, 4, 0] rfl) hf
        · have hf := it_f hf c4
          refine lv_aload_n hx hb dX5_padAll_30 rfl (lv_at hl 0 rfl) ?_
          refine va_get (D := E.1) (ci := 4) (v := .ref (a0 9)) (C := RX5) (T := TX5) (N := 9) hx hb hts w2 hown hC.1 hP 0 rfl rfl 7 (by decide) w7 (fun _ h9 => h9) rfl dX5_padAll_31 ?_
          refine lv_iload hx hb dX5_padAll_34 (lv_at hl 4 rfl) ?_
          refine lv_iload_n hx hb dX5_padAll_36 rfl (lv_at hl 1 rfl) ?_
          refine lv_iload_n hx hb dX5_padAll_37 rfl (lv_at hl 2 rfl) ?_
          refine lv_aload_n hx hb dX5_padAll_38 rfl (lv_at hl 0 rfl) ?_
          refine va_get (D := E.1) (ci := 4) (v := .int q2.2.2.1) (C := RX5) (T := TX5) (N := 9) hx hb hts w2 hown hC.1 hP 0 rfl rfl 1 (by decide) w8 (fun _ h9 => h9) rfl dX5_padAll_39 ?_
          obtain ⟨r5, e5, hf⟩ := bd_some hf
          refine cq_v hP hD hS [9, 10, 11, 12] [0, 1, 2, 3, 4, 5, 6, 7, 8, 13, 14, 15, 16, 17, 18] [0, 1, 2, 3, 4, 5, 6, 7, 8, 15, 16, 17, 18, 9, 10, 11, 12, 13, 14] (va_free (wc := (wCP E (fun k => a0 (k + 9)) q2.2.2.2.2.2.2.2.2.1)) hD hS hA [9, 10, 11, 12] rfl) (va_runV (As := [.int q2.1, .int p1, .int p2, .int q2.2.2.1]) (rest := []) ⟨hx, hb, hml, hown, hts⟩ (c_X2_pad l E H.size (fun k => a0 (k + 9)) q2.2.2.2.2.2.2.2.2.1 q2.1 p1 p2 q2.2.2.1 r5 e5) (cwV 4 hts gX5_padAll_X2_pad rfl rfl rfl hdV_X2_pad ⟨Nat.le_of_ble_eq_true rfl, Nat.le_of_ble_eq_true rfl⟩) ⟨PW.blind, va_recv hC.1 hP (ci := 2) (q0 := 9) rfl rfl, PW.pre hC hS (hP.sub [9, 10, 11, 12] rfl) (hD.sub [9, 10, 11, 12] rfl rfl) (va_free hD hS hA [9, 10, 11, 12] rfl)⟩ rfl rfl hl.1 rfl (lv_room (Nat.le_of_ble_eq_true rfl)) dX5_padAll_42 ⟨Nat.le_of_ble_eq_true rfl, Nat.le_of_ble_eq_true rfl⟩) rfl rfl rfl rfl (wHS E a0 (q2.2.1, q2.2.2.1, q2.2.2.2.1, q2.2.2.2.2.1, q2.2.2.2.2.2.1, q2.2.2.2.2.2.2.1, q2.2.2.2.2.2.2.2.1, r5, q2.2.2.2.2.2.2.2.2.2)) rfl rfl (fun H locs hP hD hS => ?_)
          refine lv_iinc (v := (q2.1 + 1)) (lv' := [(4, .int (q2.1 + 1)), (0, .ref (a0 0)), (1, .int p1), (2, .int p2), (3, .int r1)]) hx hb dX5_padAll_45 hl (k := 4) rfl rfl (by decide) rfl (fun ls hl => ?_)
          refine lv_goto (tgt := 9) hx hb dX5_padAll_48 rfl ?_
          exact ih2 ((q2.1 + 1), (q2.2.1, q2.2.2.1, q2.2.2.2.1, q2.2.2.2.2.1, q2.2.2.2.2.2.1, q2.2.2.2.2.2.2.1, q2.2.2.2.2.2.2.2.1, r5, q2.2.2.2.2.2.2.2.2.2)) H locs hP hD hS ls (lv_sub hl [1, 2, 3, 4, 0] rfl) hf
  exact L2 FU ((0 : Int32), v0) s.heap [] hP hD hS ls (lv_sub hl [2, 3, 4, 1, 0] rfl) hf

/-! X5_tryToWrite -/
abbrev rmX5_tryToWrite : Room := { frames := 3, cells := 0, slots := 0, locals := 73 }
theorem hdS_X5_tryToWrite : yX5_tryToWrite.cls ≠ "java/lang/invoke/MethodHandle" ∧ yX5_tryToWrite.cls ≠ "java/lang/invoke/VarHandle" ∧ (parseMethodDescriptor yX5_tryToWrite.desc).map (fun d => d.parameters.length) = some 4 := by decide +kernel
theorem hdV_X5_tryToWrite : yX5_tryToWrite.cls = RX5 ∧ yX5_tryToWrite.cls ≠ "java/lang/invoke/MethodHandle" ∧ yX5_tryToWrite.cls ≠ "java/lang/invoke/VarHandle" ∧ (parseMethodDescriptor yX5_tryToWrite.desc).map (fun d => d.parameters.length) = some 4 := ⟨rfl, hdS_X5_tryToWrite⟩
set_option maxHeartbeats 4000000 in
set_option maxRecDepth 100000 in
theorem c_X5_tryToWrite (l : Launch) (E : G0) (sz : Nat) (a0 : Nat → Nat) (v0 : HS) (p1 : Int32) (p2 : Int32) (a3 n3 : Nat) (v3 : (Nat → Int32)) (p4 : Int32) (x : Bool × HS) (hf : f_X5_tryToWrite v0 p1 p2 n3 v3 p4 = some x) : Met l yX5_tryToWrite wsX5_tryToWrite rmX5_tryToWrite (va_Pc [.ref (a0 0), .int p1, .int p2, .ref a3, .int p4] (PW E (wHS E a0 v0 ++ wIA E a3 n3 v3) sz)) (va_Qi (fun r q => r = bI x.1 ∧ q = x.2) (fun q t => va_P E.1 vwCl ((fun q : HS => wHS E a0 q ++ wIA E a3 n3 v3) q) t.heap ∧ va_D (va_A (wHS E a0 v0 ++ wIA E a3 n3 v3) sz) ((fun q : HS => wHS E a0 q ++ wIA E a3 n3 v3) q)) (va_A (wHS E a0 v0 ++ wIA E a3 n3 v3) sz)) 0 0 (va_A (wHS E a0 v0 ++ wIA E a3 n3 v3) sz) := by
  refine Met.ofW (cc := cX5_tryToWrite) (maxL := 9) (ret := some .boolean) (by decide) rfl ?_
  intro p e s m args below meth c s₁ B hml hv
  obtain ⟨ha, hsz, hP, hD0, hC⟩ := hv
  have hx := B.exec
  have hb := B.bytes
  have hr := B.returns
  have hts := atoms_spec (ws := wsX5_tryToWrite) B.pre
  have hown : s.vm.findClass RX5 = some m.cls := findClass_of_methodNamed B.named
  have hlocks := B.notSynchronized
  subst hsz
  have hD := hD0.self (sz := s.heap.size)
  generalize hAe : va_A (wHS E a0 v0 ++ wIA E a3 n3 v3) s.heap.size = A at hD hC ⊢
  have hA : ∀ q : Nat, s.heap.size ≤ q → A q := fun q h => by rw [← hAe]; exact Or.inr h
  have hS : va_S A s.heap s.heap [] := va_S.rf
  have w1 : (Cond.fieldLink RX5 37 "GreatChunks$House" "chunks" "LGreatChunks$Chunks;").before args s = true := hts _ (List.mem_of_getElem? (i := 1) rfl)
  have w2 : ∀ w ∈ wsX50, w ∈ wsX5_tryToWrite := in_pl 67 rfl
  have w3 : (Cond.fieldLink RX5 238 "GreatChunks$Chunks" "holder" "[I").before args s = true := hts _ (List.mem_of_getElem? (i := 2) rfl)
  have w4 : ∀ w ∈ wsX10, w ∈ wsX5_tryToWrite := in_pl 76 rfl
  have w5 : (Cond.fieldLink RX5 30 "GreatChunks$House" "servers" "LGreatChunks$Servers;").before args s = true := hts _ (List.mem_of_getElem? (i := 3) rfl)
  have w6 : (Cond.fieldLink RX5 44 "GreatChunks$House" "copies" "LGreatChunks$Copies;").before args s = true := hts _ (List.mem_of_getElem? (i := 4) rfl)
  have w7 : (Cond.fieldLink RX5 98 "GreatChunks$Servers" "many" "I").before args s = true := hts _ (List.mem_of_getElem? (i := 5) rfl)
  have w8 : ∀ w ∈ wsX80, w ∈ wsX5_tryToWrite := in_pl 81 rfl
  have w9 : (Cond.initialized RX10).before args s = true := hts _ (List.mem_of_getElem? (i := 53) rfl)
  have w10 : (Cond.static yX10_isIn).before args s = true := hts _ (List.mem_of_getElem? (i := 52) rfl)
  generalize hQe : MQ below (va_Qi (fun r q => r = bI x.1 ∧ q = x.2) (fun q t => va_P E.1 vwCl ((fun q : HS => wHS E a0 q ++ wIA E a3 n3 v3) q) t.heap ∧ va_D A ((fun q : HS => wHS E a0 q ++ wIA E a3 n3 v3) q)) A) args s 0 0 A = Q
  refine st_W ha (Nat.le_of_ble_eq_true rfl) (fun ls hl => ?_)
  have hl : lv_has ls 9 [(0, .ref (a0 0)), (1, .int p1), (2, .int p2), (3, .ref a3), (4, .int p4)] := hl
  unfold f_X5_tryToWrite at hf
  refine lv_aload_n hx hb dX5_tryToWrite_0 rfl (lv_at hl 0 rfl) ?_
  refine va_get (D := E.1) (ci := 4) (v := .ref (a0 4)) (C := RX5) (T := TX5) (N := 9) hx hb hts w2 hown hC.1 hP 0 rfl rfl 6 (by decide) w1 (fun _ h9 => h9) rfl dX5_tryToWrite_1 ?_
  refine lv_iload_n hx hb dX5_tryToWrite_4 rfl (lv_at hl 1 rfl) ?_
  refine cr_i (va_runV (As := [.int p1]) (rest := []) ⟨hx, hb, hml, hown, hts⟩ (c_X1_has l E (fun k => a0 (k + 4)) v0.2.2.2.2.2.2.1 p1 _ rfl) (cwV 1 hts gX5_tryToWrite_X1_has rfl rfl rfl hdV_X1_has ⟨Nat.le_of_ble_eq_true rfl, Nat.le_of_ble_eq_true rfl⟩) ⟨PR.blind, va_recv hC.1 hP (ci := 1) (q0 := 4) rfl rfl, PR.pre hC hS (hP.sub [4, 5, 6, 7, 8] rfl)⟩ rfl rfl hl.1 rfl (lv_room (Nat.le_of_ble_eq_true rfl)) dX5_tryToWrite_5 ⟨Nat.le_of_ble_eq_true rfl, Nat.le_of_ble_eq_true rfl⟩) ?_
  refine lv_if_ne (tgt := 13) hx hb dX5_tryToWrite_8 rfl (fun c1 => ?_) (fun c1 => ?_)
  · have hf := it_f hf c1
    refine lv_aload_n hx hb dX5_tryToWrite_13 rfl (lv_at hl 0 rfl) ?_
    refine va_get (D := E.1) (ci := 4) (v := .ref (a0 4)) (C := RX5) (T := TX5) (N := 9) hx hb hts w2 hown hC.1 hP 0 rfl rfl 6 (by decide) w1 (fun _ h9 => h9) rfl dX5_tryToWrite_14 ?_
    refine va_get (D := E.1) (ci := 1) (v := .ref (a0 7)) (C := RX1) (T := TX1) (N := 5) hx hb hts w4 hown hC.1 hP 4 rfl rfl 3 (by decide) w3 (fun _ h9 => h9) rfl dX5_tryToWrite_17 ?_
    refine lv_iload_n hx hb dX5_tryToWrite_20 rfl (lv_at hl 1 rfl) ?_
    obtain ⟨h2, hf⟩ := gdI_some hf
    refine va_iald hx hb hC.1 hP 7 0 rfl rfl h2 dX5_tryToWrite_21 ?_
    refine lv_istore (lv' := [(5, .int (v0.2.2.2.2.2.2.1.2.2.2.1 p1.toNatClampNeg)), (0, .ref (a0 0)), (1, .int p1), (2, .int p2), (3, .ref a3), (4, .int p4)]) hx hb dX5_tryToWrite_22 hl (by decide) rfl (fun ls hl => ?_)
    refine lv_aload_n hx hb dX5_tryToWrite_24 rfl (lv_at hl 1 rfl) ?_
    refine va_get (D := E.1) (ci := 4) (v := .ref (a0 1)) (C := RX5) (T := TX5) (N := 9) hx hb hts w2 hown hC.1 hP 0 rfl rfl 5 (by decide) w5 (fun _ h9 => h9) rfl dX5_tryToWrite_25 ?_
    refine lv_iload hx hb dX5_tryToWrite_28 (lv_at hl 0 rfl) ?_
    obtain ⟨r3, e3, hf⟩ := bd_some hf
    refine cq_i hP hD hS [1, 2, 3] [0, 4, 5, 6, 7, 8, 9, 10, 11, 12, 13, 14, 15, 16, 17, 18, 19] [0, 17, 18, 19, 1, 2, 3, 4, 5, 6, 7, 8, 9, 10, 11, 12, 13, 14, 15, 16] (va_free (wc := (wSV E (fun k => a0 (k + 1)) v0.2.2.2.2.2.1)) hD hS hA [1, 2, 3] rfl) (va_runV (As := [.int (v0.2.2.2.2.2.2.1.2.2.2.1 p1.toNatClampNeg)]) (rest := []) ⟨hx, hb, hml, hown, hts⟩ (c_X8_failsNow l E s.heap.size (fun k => a0 (k + 1)) v0.2.2.2.2.2.1 (v0.2.2.2.2.2.2.1.2.2.2.1 p1.toNatClampNeg) r3 e3) (cwV 1 hts gX5_tryToWrite_X8_failsNow rfl rfl rfl hdV_X8_failsNow ⟨Nat.le_of_ble_eq_true rfl, Nat.le_of_ble_eq_true rfl⟩) ⟨PW.blind, va_recv hC.1 hP (ci := 6) (q0 := 1) rfl rfl, PW.pre hC hS (hP.sub [1, 2, 3] rfl) (hD.sub [1, 2, 3] rfl rfl) (va_free hD hS hA [1, 2, 3] rfl)⟩ rfl rfl hl.1 rfl (lv_room (Nat.le_of_ble_eq_true rfl)) dX5_tryToWrite_30 ⟨Nat.le_of_ble_eq_true rfl, Nat.le_of_ble_eq_true rfl⟩) rfl rfl rfl rfl (wHS E a0 (v0.1, v0.2.1, v0.2.2.1, v0.2.2.2.1, v0.2.2.2.2.1, r3.2, v0.2.2.2.2.2.2.1, v0.2.2.2.2.2.2.2.1, v0.2.2.2.2.2.2.2.2) ++ wIA E a3 n3 v3) rfl rfl (fun H locs hP hD hS => ?_)
    refine lv_if_eq (tgt := 38) hx hb dX5_tryToWrite_33 rfl (fun c4 => ?_) (fun c4 => ?_)
    · have hf := it_t hf c4
      refine lv_aload_n hx hb dX5_tryToWrite_38 rfl (lv_at hl 1 rfl) ?_
      refine va_get (D := E.1) (ci := 4) (v := .ref (a0 9)) (C := RX5) (T := TX5) (N := 9) hx hb hts w2 hown hC.1 hP 0 rfl rfl 7 (by decide) w6 (fun _ h9 => h9) rfl dX5_tryToWrite_39 ?_
      refine lv_iload hx hb dX5_tryToWrite_42 (lv_at hl 0 rfl) ?_
      refine lv_iload_n hx hb dX5_tryToWrite_44 rfl (lv_at hl 2 rfl) ?_
      refine lv_iload_n hx hb dX5_tryToWrite_45 rfl (lv_at hl 3 rfl) ?_
      refine lv_aload_n hx hb dX5_tryToWrite_46 rfl (lv_at hl 4 rfl) ?_
      refine lv_iload hx hb dX5_tryToWrite_47 (lv_at hl 5 rfl) ?_
      obtain ⟨r5, e5, hf⟩ := bd_some hf
      refine cq_v hP hD hS [9, 10, 11, 12, 19] [0, 1, 2, 3, 4, 5, 6, 7, 8, 13, 14, 15, 16, 17, 18] [0, 1, 2, 3, 4, 5, 6, 7, 8, 15, 16, 17, 18, 9, 10, 11, 12, 13, 14, 19] (va_free (wc := (wCP E (fun k => a0 (k + 9)) v0.2.2.2.2.2.2.2.1 ++ wIA E a3 n3 v3)) hD hS hA [9, 10, 11, 12, 19] rfl) (va_runV (As := [.int (v0.2.2.2.2.2.2.1.2.2.2.1 p1.toNatClampNeg), .int p1, .int p2, .ref a3, .int p4]) (rest := []) ⟨hx, hb, hml, hown, hts⟩ (c_X2_write l E H.size (fun k => a0 (k + 9)) v0.2.2.2.2.2.2.2.1 (v0.2.2.2.2.2.2.1.2.2.2.1 p1.toNatClampNeg) p1 p2 a3 n3 v3 p4 r5 e5) (cwV 5 hts gX5_tryToWrite_X2_write rfl rfl rfl hdV_X2_write ⟨Nat.le_of_ble_eq_true rfl, Nat.le_of_ble_eq_true rfl⟩) ⟨PW.blind, va_recv hC.1 hP (ci := 2) (q0 := 9) rfl rfl, PW.pre hC hS (hP.sub [9, 10, 11, 12, 19] rfl) (hD.sub [9, 10, 11, 12, 19] rfl rfl) (va_free hD hS hA [9, 10, 11, 12, 19] rfl)⟩ rfl rfl hl.1 rfl (lv_room (Nat.le_of_ble_eq_true rfl)) dX5_tryToWrite_49 ⟨Nat.le_of_ble_eq_true rfl, Nat.le_of_ble_eq_true rfl⟩) rfl rfl rfl rfl (wHS E a0 (v0.1, v0.2.1, v0.2.2.1, v0.2.2.2.1, v0.2.2.2.2.1, r3.2, v0.2.2.2.2.2.2.1, r5, v0.2.2.2.2.2.2.2.2) ++ wIA E a3 n3 v3) rfl rfl (fun H locs hP hD hS => ?_)
      refine lv_aload_n hx hb dX5_tryToWrite_52 rfl (lv_at hl 1 rfl) ?_
      refine lv_iload_n hx hb dX5_tryToWrite_53 rfl (lv_at hl 2 rfl) ?_
      obtain ⟨r6, e6, hf⟩ := bd_some hf
      refine cr_i (va_runV (As := [.int p1]) (rest := []) ⟨hx, hb, hml, hown, hts⟩ (c_X5_good l E a0 (v0.1, v0.2.1, v0.2.2.1, v0.2.2.2.1, v0.2.2.2.2.1, r3.2, v0.2.2.2.2.2.2.1, r5, v0.2.2.2.2.2.2.2.2) p1 r6 e6) (cwV 1 hts gX5_tryToWrite_X5_good rfl rfl rfl hdV_X5_good ⟨Nat.le_of_ble_eq_true rfl, Nat.le_of_ble_eq_true rfl⟩) ⟨PR.blind, va_recv hC.1 hP (ci := 4) (q0 := 0) rfl rfl, PR.pre hC hS (hP.sub [0, 1, 2, 3, 4, 5, 6, 7, 8, 9, 10, 11, 12, 13, 14, 15, 16, 17, 18] rfl)⟩ rfl rfl hl.1 rfl (lv_room (Nat.le_of_ble_eq_true rfl)) dX5_tryToWrite_54 ⟨Nat.le_of_ble_eq_true rfl, Nat.le_of_ble_eq_true rfl⟩) ?_
      refine lv_istore (lv' := [(6, .int r6), (5, .int (v0.2.2.2.2.2.2.1.2.2.2.1 p1.toNatClampNeg)), (0, .ref (a0 0)), (1, .int p1), (2, .int p2), (3, .ref a3), (4, .int p4)]) hx hb dX5_tryToWrite_57 hl (by decide) rfl (fun ls hl => ?_)
      refine lv_iconst (v := 1) hx hb dX5_tryToWrite_59 rfl ?_
      refine lv_istore (lv' := [(7, .int (1 : Int32)), (6, .int r6), (5, .int (v0.2.2.2.2.2.2.1.2.2.2.1 p1.toNatClampNeg)), (0, .ref (a0 0)), (1, .int p1), (2, .int p2), (3, .ref a3), (4, .int p4)]) hx hb dX5_tryToWrite_60 hl (by decide) rfl (fun ls hl => ?_)
      refine lv_iconst (v := 0) hx hb dX5_tryToWrite_62 rfl ?_
      refine lv_istore (lv' := [(8, .int (0 : Int32)), (7, .int (1 : Int32)), (6, .int r6), (5, .int (v0.2.2.2.2.2.2.1.2.2.2.1 p1.toNatClampNeg)), (0, .ref (a0 0)), (1, .int p1), (2, .int p2), (3, .ref a3), (4, .int p4)]) hx hb dX5_tryToWrite_63 hl (by decide) rfl (fun ls hl => ?_)
      obtain ⟨K7, hK7, hf⟩ := jn_some hf
      have J7 : ∀ (q7 : Bool × Int32 × HS) (H : Heap) (locs : List Loc) (hP : va_P E.1 vwCl (wHS E a0 q7.2.2 ++ wIA E a3 n3 v3) H) (hD : va_D A (wHS E a0 q7.2.2 ++ wIA E a3 n3 v3)) (hS : va_S A s.heap H locs) (ls : Array Slot) (hl : lv_has ls 9 [(7, .int (bI q7.1))]) (hf : K7 q7 = some x), W p l e (headSpec wsX5_tryToWrite rmX5_tryToWrite).room s m args below meth c H locs 0 0 Q (F0 m 158 ls []) := by
        intro q7 H locs hP hD hS ls hl hf
        have hf := (hK7 q7).trans hf
        refine lv_iload hx hb dX5_tryToWrite_158 (lv_at hl 0 rfl) ?_
        cases Option.some.inj hf
        subst hQe
        exact ew_z (wf := (fun q : HS => wHS E a0 q ++ wIA E a3 n3 v3)) hx hb hr hlocks rfl hP hD hS dX5_tryToWrite_160
      have L7 : ∀ (n : Nat) (q7 : Bool × Int32 × HS) (H : Heap) (locs : List Loc) (hP : va_P E.1 vwCl (wHS E a0 q7.2.2 ++ wIA E a3 n3 v3) H) (hD : va_D A (wHS E a0 q7.2.2 ++ wIA E a3 n3 v3)) (hS : va_S A s.heap H locs) (ls : Array Slot) (hl : lv_has ls 9 [(0, .ref (a0 0)), (1, .int p1), (2, .int p2), (3, .ref a3), (4, .int p4), (5, .int (v0.2.2.2.2.2.2.1.2.2.2.1 p1.toNatClampNeg)), (6, .int r6), (7, .int (bI q7.1)), (8, .int q7.2.1)]) (hf : lpF (bX5_tryToWrite_7 v0 p1 r6 p2 n3 v3 p4 K7) n q7 = some x), W p l e (headSpec wsX5_tryToWrite rmX5_tryToWrite).room s m args below meth c H locs 0 0 Q (F0 m 65 ls []) := by
        intro n
        induction n with
        | zero => intro q7 H locs hP hD hS ls hl hf; exact (lpF_zero hf).elim
        | succ n ih7 =>
          intro q7 H locs hP hD hS ls hl hf
          have hf := lpF_succ hf
          unfold bX5_tryToWrite_7 at hf
          refine lv_iload hx hb dX5_tryToWrite_65 (lv_at hl 8 rfl) ?_
          refine lv_aload_n hx hb dX5_tryToWrite_67 rfl (lv_at hl 0 rfl) ?_
          refine va_get (D := E.1) (ci := 4) (v := .ref (a0 1)) (C := RX5) (T := TX5) (N := 9) hx hb hts w2 hown hC.1 hP 0 rfl rfl 5 (by decide) w5 (fun _ h9 => h9) rfl dX5_tryToWrite_68 ?_
          refine va_get (D := E.1) (ci := 6) (v := .int q7.2.2.2.2.2.2.2.1.1) (C := RX8) (T := TX8) (N := 4) hx hb hts w8 hown hC.1 hP 1 rfl rfl 0 (by decide) w7 (fun _ h9 => h9) rfl dX5_tryToWrite_71 ?_
          refine lv_icmp_ge (tgt := 158) hx hb dX5_tryToWrite_74 rfl (fun c8 => ?_) (fun c8 => ?_)
          · have hf := it_t hf c8
            exact J7 (q7.1, q7.2.1, q7.2.2) H locs hP hD hS ls (lv_sub hl [7] rfl) hf
          · have hf := it_f hf c8
            refine lv_iload hx hb dX5_tryToWrite_77 (lv_at hl 8 rfl) ?_
            refine lv_iload hx hb dX5_tryToWrite_79 (lv_at hl 5 rfl) ?_
            refine lv_icmp_eq (tgt := 152) hx hb dX5_tryToWrite_81 rfl (fun c9 => ?_) (fun c9 => ?_)
            · have hf := it_t hf c9
              refine lv_iinc (v := (q7.2.1 + 1)) (lv' := [(8, .int (q7.2.1 + 1)), (0, .ref (a0 0)), (1, .int p1), (2, .int p2), (3, .ref a3), (4, .int p4), (5, .int (v0.2.2.2.2.2.2.1.2.2.2.1 p1.toNatClampNeg)), (6, .int r6), (7, .int (bI q7.1))]) hx hb dX5_tryToWrite_152 hl (k := 8) rfl rfl (by decide) rfl (fun ls hl => ?_)
              refine lv_goto (tgt := 65) hx hb dX5_tryToWrite_155 rfl ?_
              exact ih7 (q7.1, (q7.2.1 + 1), q7.2.2) H locs hP hD hS ls (lv_sub hl [1, 2, 3, 4, 5, 6, 7, 8, 0] rfl) hf
            · have hf := it_f hf c9
              refine lv_iload hx hb dX5_tryToWrite_84 (lv_at hl 6 rfl) ?_
              refine lv_iload hx hb dX5_tryToWrite_86 (lv_at hl 8 rfl) ?_
              refine cr_i (va_runSN (As := [.int r6, .int q7.2.1]) (rest := []) ⟨hx, hb, hml, hown, hts⟩ (c_X10_isIn l E r6 q7.2.1 _ rfl) ⟨va_cnB 2 hts gX5_tryToWrite_X10_isIn_n117 rfl rfl rfl (hC.2.1 (RX5, 117, yX10_isIn, RX10) (List.mem_of_getElem? (i := 13) rfl)) w9 hdS_X10_isIn ⟨Nat.le_of_ble_eq_true rfl, Nat.le_of_ble_eq_true rfl⟩, w10, trivial⟩ ⟨PR.blind, PR.pre hC hS (hP.sub [] rfl)⟩ rfl rfl hl.1 rfl (lv_room (Nat.le_of_ble_eq_true rfl)) dX5_tryToWrite_88 ⟨Nat.le_of_ble_eq_true rfl, Nat.le_of_ble_eq_true rfl⟩) ?_
              refine lv_if_eq (tgt := 152) hx hb dX5_tryToWrite_91 rfl (fun c10 => ?_) (fun c10 => ?_)
              · have hf := it_t hf c10
                refine lv_iinc (v := (q7.2.1 + 1)) (lv' := [(8, .int (q7.2.1 + 1)), (0, .ref (a0 0)), (1, .int p1), (2, .int p2), (3, .ref a3), (4, .int p4), (5, .int (v0.2.2.2.2.2.2.1.2.2.2.1 p1.toNatClampNeg)), (6, .int r6), (7, .int (bI q7.1))]) hx hb dX5_tryToWrite_152 hl (k := 8) rfl rfl (by decide) rfl (fun ls hl => ?_)
                refine lv_goto (tgt := 65) hx hb dX5_tryToWrite_155 rfl ?_
                exact ih7 (q7.1, (q7.2.1 + 1), q7.2.2) H locs hP hD hS ls (lv_sub hl [1, 2, 3, 4, 5, 6, 7, 8, 0] rfl) hf
              · have hf := it_f hf c10
                refine lv_aload_n hx hb dX5_tryToWrite_94 rfl (lv_at hl 0 rfl) ?_
                refine va_get (D := E.1) (ci := 4) (v := .ref (a0 1)) (C := RX5) (T := TX5) (N := 9) hx hb hts w2 hown hC.1 hP 0 rfl rfl 5 (by decide) w5 (fun _ h9 => h9) rfl dX5_tryToWrite_95 ?_
                refine lv_iload hx hb dX5_tryToWrite_98 (lv_at hl 8 rfl) ?_
                refine cr_i (va_runV (As := [.int q7.2.1]) (rest := []) ⟨hx, hb, hml, hown, hts⟩ (c_X8_hasUp l E (fun k => a0 (k + 1)) q7.2.2.2.2.2.2.2.1 q7.2.1 _ rfl) (cwV 1 hts gX5_tryToWrite_X8_hasUp rfl rfl rfl hdV_X8_hasUp ⟨Nat.le_of_ble_eq_true rfl, Nat.le_of_ble_eq_true rfl⟩) ⟨PR.blind, va_recv hC.1 hP (ci := 6) (q0 := 1) rfl rfl, PR.pre hC hS (hP.sub [1, 2, 3] rfl)⟩ rfl rfl hl.1 rfl (lv_room (Nat.le_of_ble_eq_true rfl)) dX5_tryToWrite_100 ⟨Nat.le_of_ble_eq_true rfl, Nat.le_of_ble_eq_true rfl⟩) ?_
                refine lv_if_ne (tgt := 120) hx hb dX5_tryToWrite_103 rfl (fun c11 => ?_) (fun c11 => ?_)
                · have hf := it_f hf c11
                  refine lv_aload_n hx hb dX5_tryToWrite_120 rfl (lv_at hl 0 rfl) ?_
                  refine va_get (D := E.1) (ci := 4) (v := .ref (a0 1)) (C := RX5) (T := TX5) (N := 9) hx hb hts w2 hown hC.1 hP 0 rfl rfl 5 (by decide) w5 (fun _ h9 => h9) rfl dX5_tryToWrite_121 ?_
                  refine lv_iload hx hb dX5_tryToWrite_124 (lv_at hl 8 rfl) ?_
                  obtain ⟨r12, e12, hf⟩ := bd_some hf
                  refine cq_i hP hD hS [1, 2, 3] [0, 4, 5, 6, 7, 8, 9, 10, 11, 12, 13, 14, 15, 16, 17, 18, 19] [0, 17, 18, 19, 1, 2, 3, 4, 5, 6, 7, 8, 9, 10, 11, 12, 13, 14, 15, 16] (va_free (wc := (wSV E (fun k => a0 (k + 1)) q7.2.2.2.2.2.2.2.1)) hD hS hA [1, 2, 3] rfl) (va_runV (As := [.int q7.2.1]) (rest := []) ⟨hx, hb, hml, hown, hts⟩ (c_X8_failsNow l E H.size (fun k => a0 (k + 1)) q7.2.2.2.2.2.2.2.1 q7.2.1 r12 e12) (cwV 1 hts gX5_tryToWrite_X8_failsNow rfl rfl rfl hdV_X8_failsNow ⟨Nat.le_of_ble_eq_true rfl, Nat.le_of_ble_eq_true rfl⟩) ⟨PW.blind, va_recv hC.1 hP (ci := 6) (q0 := 1) rfl rfl, PW.pre hC hS (hP.sub [1, 2, 3] rfl) (hD.sub [1, 2, 3] rfl rfl) (va_free hD hS hA [1, 2, 3] rfl)⟩ rfl rfl hl.1 rfl (lv_room (Nat.le_of_ble_eq_true rfl)) dX5_tryToWrite_126 ⟨Nat.le_of_ble_eq_true rfl, Nat.le_of_ble_eq_true rfl⟩) rfl rfl rfl rfl (wHS E a0 (q7.2.2.1, q7.2.2.2.1, q7.2.2.2.2.1, q7.2.2.2.2.2.1, q7.2.2.2.2.2.2.1, r12.2, q7.2.2.2.2.2.2.2.2.1, q7.2.2.2.2.2.2.2.2.2.1, q7.2.2.2.2.2.2.2.2.2.2) ++ wIA E a3 n3 v3) rfl rfl (fun H locs hP hD hS => ?_)
                  refine lv_if_eq (tgt := 138) hx hb dX5_tryToWrite_129 rfl (fun c13 => ?_) (fun c13 => ?_)
                  · have hf := it_t hf c13
                    refine lv_aload_n hx hb dX5_tryToWrite_138 rfl (lv_at hl 0 rfl) ?_
                    refine va_get (D := E.1) (ci := 4) (v := .ref (a0 9)) (C := RX5) (T := TX5) (N := 9) hx hb hts w2 hown hC.1 hP 0 rfl rfl 7 (by decide) w6 (fun _ h9 => h9) rfl dX5_tryToWrite_139 ?_
                    refine lv_iload hx hb dX5_tryToWrite_142 (lv_at hl 8 rfl) ?_
                    refine lv_iload_n hx hb dX5_tryToWrite_144 rfl (lv_at hl 1 rfl) ?_
                    refine lv_iload_n hx hb dX5_tryToWrite_145 rfl (lv_at hl 2 rfl) ?_
                    refine lv_aload_n hx hb dX5_tryToWrite_146 rfl (lv_at hl 3 rfl) ?_
                    refine lv_iload hx hb dX5_tryToWrite_147 (lv_at hl 4 rfl) ?_
                    obtain ⟨r14, e14, hf⟩ := bd_some hf
                    refine cq_v hP hD hS [9, 10, 11, 12, 19] [0, 1, 2, 3, 4, 5, 6, 7, 8, 13, 14, 15, 16, 17, 18] [0, 1, 2, 3, 4, 5, 6, 7, 8, 15, 16, 17, 18, 9, 10, 11, 12, 13, 14, 19] (va_free (wc := (wCP E (fun k => a0 (k + 9)) q7.2.2.2.2.2.2.2.2.2.1 ++ wIA E a3 n3 v3)) hD hS hA [9, 10, 11, 12, 19] rfl) (va_runV (As := [.int q7.2.1, .int p1, .int p2, .ref a3, .int p4]) (rest := []) ⟨hx, hb, hml, hown, hts⟩ (c_X2_write l E H.size (fun k => a0 (k + 9)) q7.2.2.2.2.2.2.2.2.2.1 q7.2.1 p1 p2 a3 n3 v3 p4 r14 e14) (cwV 5 hts gX5_tryToWrite_X2_write rfl rfl rfl hdV_X2_write ⟨Nat.le_of_ble_eq_true rfl, Nat.le_of_ble_eq_true rfl⟩) ⟨PW.blind, va_recv hC.1 hP (ci := 2) (q0 := 9) rfl rfl, PW.pre hC hS (hP.sub [9, 10, 11, 12, 19] rfl) (hD.sub [9, 10, 11, 12, 19] rfl rfl) (va_free hD hS hA [9, 10, 11, 12, 19] rfl)⟩ rfl rfl hl.1 rfl (lv_room (Nat.le_of_ble_eq_true rfl)) dX5_tryToWrite_149 ⟨Nat.le_of_ble_eq_true rfl, Nat.le_of_ble_eq_true rfl⟩) rfl rfl rfl rfl (wHS E a0 (q7.2.2.1, q7.2.2.2.1, q7.2.2.2.2.1, q7.2.2.2.2.2.1, q7.2.2.2.2.2.2.1, r12.2, q7.2.2.2.2.2.2.2.2.1, r14, q7.2.2.2.2.2.2.2.2.2.2) ++ wIA E a3 n3 v3) rfl rfl (fun H locs hP hD hS => ?_)
                    refine lv_iinc (v := (q7.2.1 + 1)) (lv' := [(8, .int (q7.2.1 + 1)), (0, .ref (a0 0)), (1, .int p1), (2, .int p2), (3, .ref a3), (4, .int p4), (5, .int (v0.2.2.2.2.2.2.1.2.2.2.1 p1.toNatClampNeg)), (6, .int r6), (7, .int (bI q7.1))]) hx hb dX5_tryToWrite_152 hl (k := 8) rfl rfl (by decide) rfl (fun ls hl => ?_)
                    refine lv_goto (tgt := 65) hx hb dX5_tryToWrite_155 rfl ?_
                    exact ih7 (q7.1, (q7.2.1 + 1), (q7.2.2.1, q7.2.2.2.1, q7.2.2.2.2.1, q7.2.2.2.2.2.1, q7.2.2.2.2.2.2.1, r12.2, q7.2.2.2.2.2.2.2.2.1, r14, q7.2.2.2.2.2.2.2.2.2.2)) H locs hP hD hS ls (lv_sub hl [1, 2, 3, 4, 5, 6, 7, 8, 0] rfl) hf
                  · have hf := it_f hf c13
                    refine lv_iconst (v := 0) hx hb dX5_tryToWrite_132 rfl ?_
                    refine lv_istore (lv' := [(7, .int (0 : Int32)), (0, .ref (a0 0)), (1, .int p1), (2, .int p2), (3, .ref a3), (4, .int p4), (5, .int (v0.2.2.2.2.2.2.1.2.2.2.1 p1.toNatClampNeg)), (6, .int r6), (8, .int q7.2.1)]) hx hb dX5_tryToWrite_133 hl (by decide) rfl (fun ls hl => ?_)
                    refine lv_goto (tgt := 152) hx hb dX5_tryToWrite_135 rfl ?_
                    refine lv_iinc (v := (q7.2.1 + 1)) (lv' := [(8, .int (q7.2.1 + 1)), (7, .int (0 : Int32)), (0, .ref (a0 0)), (1, .int p1), (2, .int p2), (3, .ref a3), (4, .int p4), (5, .int (v0.2.2.2.2.2.2.1.2.2.2.1 p1.toNatClampNeg)), (6, .int r6)]) hx hb dX5_tryToWrite_152 hl (k := 8) rfl rfl (by decide) rfl (fun ls hl => ?_)
                    refine lv_goto (tgt := 65) hx hb dX5_tryToWrite_155 rfl ?_
                    exact ih7 (false, (q7.2.1 + 1), (q7.2.2.1, q7.2.2.2.1, q7.2.2.2.2.1, q7.2.2.2.2.2.1, q7.2.2.2.2.2.2.1, r12.2, q7.2.2.2.2.2.2.2.2.1, q7.2.2.2.2.2.2.2.2.2.1, q7.2.2.2.2.2.2.2.2.2.2)) H locs hP hD hS ls (lv_sub hl [2, 3, 4, 5, 6, 7, 8, 1, 0] rfl) hf
                · have hf := it_t hf c11
                  refine lv_aload_n hx hb dX5_tryToWrite_106 rfl (lv_at hl 0 rfl) ?_
                  refine va_get (D := E.1) (ci := 4) (v := .ref (a0 4)) (C := RX5) (T := TX5) (N := 9) hx hb hts w2 hown hC.1 hP 0 rfl rfl 6 (by decide) w1 (fun _ h9 => h9) rfl dX5_tryToWrite_107 ?_
                  refine lv_iload_n hx hb dX5_tryToWrite_110 rfl (lv_at hl 1 rfl) ?_
                  obtain ⟨r15, e15, hf⟩ := bd_some hf
                  refine cq_v hP hD hS [4, 5, 6, 7, 8] [0, 1, 2, 3, 9, 10, 11, 12, 13, 14, 15, 16, 17, 18, 19] [0, 1, 2, 3, 15, 16, 17, 18, 19, 4, 5, 6, 7, 8, 9, 10, 11, 12, 13, 14] (va_free (wc := (wCK E (fun k => a0 (k + 4)) q7.2.2.2.2.2.2.2.2.1)) hD hS hA [4, 5, 6, 7, 8] rfl) (va_runV (As := [.int p1]) (rest := []) ⟨hx, hb, hml, hown, hts⟩ (c_X1_endLease l E H.size (fun k => a0 (k + 4)) q7.2.2.2.2.2.2.2.2.1 p1 r15 e15) (cwV 1 hts gX5_tryToWrite_X1_endLease rfl rfl rfl hdV_X1_endLease ⟨Nat.le_of_ble_eq_true rfl, Nat.le_of_ble_eq_true rfl⟩) ⟨PW.blind, va_recv hC.1 hP (ci := 1) (q0 := 4) rfl rfl, PW.pre hC hS (hP.sub [4, 5, 6, 7, 8] rfl) (hD.sub [4, 5, 6, 7, 8] rfl rfl) (va_free hD hS hA [4, 5, 6, 7, 8] rfl)⟩ rfl rfl hl.1 rfl (lv_room (Nat.le_of_ble_eq_true rfl)) dX5_tryToWrite_111 ⟨Nat.le_of_ble_eq_true rfl, Nat.le_of_ble_eq_true rfl⟩) rfl rfl rfl rfl (wHS E a0 (q7.2.2.1, q7.2.2.2.1, q7.2.2.2.2.1, q7.2.2.2.2.2.1, q7.2.2.2.2.2.2.1, q7.2.2.2.2.2.2.2.1, r15, q7.2.2.2.2.2.2.2.2.2.1, q7.2.2.2.2.2.2.2.2.2.2) ++ wIA E a3 n3 v3) rfl rfl (fun H locs hP hD hS => ?_)
                  refine lv_iconst (v := 0) hx hb dX5_tryToWrite_114 rfl ?_
                  refine lv_istore (lv' := [(7, .int (0 : Int32)), (0, .ref (a0 0)), (1, .int p1), (2, .int p2), (3, .ref a3), (4, .int p4), (5, .int (v0.2.2.2.2.2.2.1.2.2.2.1 p1.toNatClampNeg)), (6, .int r6), (8, .int q7.2.1)]) hx hb dX5_tryToWrite_115 hl (by decide) rfl (fun ls hl => ?_)
                  refine lv_goto (tgt := 152) hx hb dX5_tryToWrite_117 rfl ?_
                  refine lv_iinc (v := (q7.2.1 + 1)) (lv' := [(8, .int (q7.2.1 + 1)), (7, .int (0 : Int32)), (0, .ref (a0 0)), (1, .int p1), (2, .int p2), (3, .ref a3), (4, .int p4), (5, .int (v0.2.2.2.2.2.2.1.2.2.2.1 p1.toNatClampNeg)), (6, .int r6)]) hx hb dX5_tryToWrite_152 hl (k := 8) rfl rfl (by decide) rfl (fun ls hl => ?_)
                  refine lv_goto (tgt := 65) hx hb dX5_tryToWrite_155 rfl ?_
                  exact ih7 (false, (q7.2.1 + 1), (q7.2.2.1, q7.2.2.2.1, q7.2.2.2.2.1, q7.2.2.2.2.2.1, q7.2.2.2.2.2.2.1, q7.2.2.2.2.2.2.2.1, r15, q7.2.2.2.2.2.2.2.2.2.1, q7.2.2.2.2.2.2.2.2.2.2)) H locs hP hD hS ls (lv_sub hl [2, 3, 4, 5, 6, 7, 8, 1, 0] rfl) hf
      exact L7 FU (true, (0 : Int32), (v0.1, v0.2.1, v0.2.2.1, v0.2.2.2.1, v0.2.2.2.2.1, r3.2, v0.2.2.2.2.2.2.1, r5, v0.2.2.2.2.2.2.2.2)) H locs hP hD hS ls (lv_sub hl [4, 5, 6, 7, 8, 3, 2, 1, 0] rfl) hf
    · have hf := it_f hf c4
      refine lv_iconst (v := 0) hx hb dX5_tryToWrite_36 rfl ?_
      cases Option.some.inj hf
      subst hQe
      exact ew_z (wf := (fun q : HS => wHS E a0 q ++ wIA E a3 n3 v3)) hx hb hr hlocks rfl hP hD hS dX5_tryToWrite_37
  · have hf := it_t hf c1
    refine lv_iconst (v := 0) hx hb dX5_tryToWrite_11 rfl ?_
    cases Option.some.inj hf
    subst hQe
    exact ew_z (wf := (fun q : HS => wHS E a0 q ++ wIA E a3 n3 v3)) hx hb hr hlocks rfl hP hD hS dX5_tryToWrite_12

/-! X5_addRecord -/
abbrev rmX5_addRecord : Room := { frames := 5, cells := 0, slots := 0, locals := 119 }
theorem hdS_X5_addRecord : yX5_addRecord.cls ≠ "java/lang/invoke/MethodHandle" ∧ yX5_addRecord.cls ≠ "java/lang/invoke/VarHandle" ∧ (parseMethodDescriptor yX5_addRecord.desc).map (fun d => d.parameters.length) = some 3 := by decide +kernel
theorem hdV_X5_addRecord : yX5_addRecord.cls = RX5 ∧ yX5_addRecord.cls ≠ "java/lang/invoke/MethodHandle" ∧ yX5_addRecord.cls ≠ "java/lang/invoke/VarHandle" ∧ (parseMethodDescriptor yX5_addRecord.desc).map (fun d => d.parameters.length) = some 3 := ⟨rfl, hdS_X5_addRecord⟩
set_option maxHeartbeats 4000000 in
set_option maxRecDepth 100000 in
theorem c_X5_addRecord (l : Launch) (E : G0) (sz : Nat) (a0 : Nat → Nat) (v0 : HS) (p1 : Int32) (a2 n2 : Nat) (v2 : (Nat → Int32)) (p3 : Int32) (x : Int32 × HS) (hf : f_X5_addRecord v0 p1 n2 v2 p3 = some x) : Met l yX5_addRecord wsX5_addRecord rmX5_addRecord (va_Pc [.ref (a0 0), .int p1, .ref a2, .int p3] (PW E (wHS E a0 v0 ++ wIA E a2 n2 v2) sz)) (va_Qi (fun r q => r = x.1 ∧ q = x.2) (fun q t => va_P E.1 vwCl ((fun q : HS => wHS E a0 q ++ wIA E a2 n2 v2) q) t.heap ∧ va_D (va_A (wHS E a0 v0 ++ wIA E a2 n2 v2) sz) ((fun q : HS => wHS E a0 q ++ wIA E a2 n2 v2) q)) (va_A (wHS E a0 v0 ++ wIA E a2 n2 v2) sz)) 0 0 (va_A (wHS E a0 v0 ++ wIA E a2 n2 v2) sz) := by
  refine Met.ofW (cc := cX5_addRecord) (maxL := 10) (ret := some .int) (by decide) rfl ?_
  intro p e s m args below meth c s₁ B hml hv
  obtain ⟨ha, hsz, hP, hD0, hC⟩ := hv
  have hx := B.exec
  have hb := B.bytes
  have hr := B.returns
  have hts := atoms_spec (ws := wsX5_addRecord) B.pre
  have hown : s.vm.findClass RX5 = some m.cls := findClass_of_methodNamed B.named
  have hlocks := B.notSynchronized
  subst hsz
  have hD := hD0.self (sz := s.heap.size)
  generalize hAe : va_A (wHS E a0 v0 ++ wIA E a2 n2 v2) s.heap.size = A at hD hC ⊢
  have hA : ∀ q : Nat, s.heap.size ≤ q → A q := fun q h => by rw [← hAe]; exact Or.inr h
  have hS : va_S A s.heap s.heap [] := va_S.rf
  have w1 : (Cond.fieldLink RX5 51 "GreatChunks$House" "files" "LGreatChunks$Files;").before args s = true := hts _ (List.mem_of_getElem? (i := 1) rfl)
  have w2 : ∀ w ∈ wsX50, w ∈ wsX5_addRecord := in_pl 229 rfl
  have w3 : (Cond.fieldLink RX5 158 "GreatChunks$Files" "many" "[I").before args s = true := hts _ (List.mem_of_getElem? (i := 2) rfl)
  have w4 : ∀ w ∈ wsX30, w ∈ wsX5_addRecord := in_pl 238 rfl
  have w5 : (Cond.constant RX5 182 (-1000004)).before args s = true := hts _ (List.mem_of_getElem? (i := 3) rfl)
  have w6 : (Cond.fieldLink RX5 15 "GreatChunks$House" "size" "I").before args s = true := hts _ (List.mem_of_getElem? (i := 4) rfl)
  have w7 : (Cond.constant RX5 266 (-1000005)).before args s = true := hts _ (List.mem_of_getElem? (i := 5) rfl)
  generalize hQe : MQ below (va_Qi (fun r q => r = x.1 ∧ q = x.2) (fun q t => va_P E.1 vwCl ((fun q : HS => wHS E a0 q ++ wIA E a2 n2 v2) q) t.heap ∧ va_D A ((fun q : HS => wHS E a0 q ++ wIA E a2 n2 v2) q)) A) args s 0 0 A = Q
  refine st_W ha (Nat.le_of_ble_eq_true rfl) (fun ls hl => ?_)
  have hl : lv_has ls 10 [(0, .ref (a0 0)), (1, .int p1), (2, .ref a2), (3, .int p3)] := hl
  unfold f_X5_addRecord at hf
  refine lv_aload_n hx hb dX5_addRecord_0 rfl (lv_at hl 0 rfl) ?_
  refine va_get (D := E.1) (ci := 4) (v := .ref (a0 13)) (C := RX5) (T := TX5) (N := 9) hx hb hts w2 hown hC.1 hP 0 rfl rfl 8 (by decide) w1 (fun _ h9 => h9) rfl dX5_addRecord_1 ?_
  refine lv_iload_n hx hb dX5_addRecord_4 rfl (lv_at hl 1 rfl) ?_
  obtain ⟨r1, e1, hf⟩ := bd_some hf
  refine cr_i (va_runV (As := [.int p1]) (rest := []) ⟨hx, hb, hml, hown, hts⟩ (c_X3_lastChunk l E (fun k => a0 (k + 13)) v0.2.2.2.2.2.2.2.2 p1 r1 e1) (cwV 1 hts gX5_addRecord_X3_lastChunk rfl rfl rfl hdV_X3_lastChunk ⟨Nat.le_of_ble_eq_true rfl, Nat.le_of_ble_eq_true rfl⟩) ⟨PR.blind, va_recv hC.1 hP (ci := 3) (q0 := 13) rfl rfl, PR.pre hC hS (hP.sub [13, 14, 15, 16, 17, 18] rfl)⟩ rfl rfl hl.1 rfl (lv_room (Nat.le_of_ble_eq_true rfl)) dX5_addRecord_5 ⟨Nat.le_of_ble_eq_true rfl, Nat.le_of_ble_eq_true rfl⟩) ?_
  refine lv_iconst (v := (-1)) hx hb dX5_addRecord_8 rfl ?_
  obtain ⟨q2, e2, hf⟩ := bt_eq hf
  have J2 : W p l e (headSpec wsX5_addRecord rmX5_addRecord).room s m args below meth c s.heap [] 0 0 Q (F0 m 17 ls [.int (bI q2)]) := by
    refine lv_istore (lv' := [(4, .int (bI q2)), (0, .ref (a0 0)), (1, .int p1), (2, .ref a2), (3, .int p3)]) hx hb dX5_addRecord_17 hl (by decide) rfl (fun ls hl => ?_)
    refine lv_iload hx hb dX5_addRecord_19 (lv_at hl 0 rfl) ?_
    obtain ⟨q3, e3, hf⟩ := bd_some hf
    have J3 : ∀ (H : Heap) (locs : List Loc) (hP : va_P E.1 vwCl (wHS E a0 q3.2 ++ wIA E a2 n2 v2) H) (hD : va_D A (wHS E a0 q3.2 ++ wIA E a2 n2 v2)) (hS : va_S A s.heap H locs), W p l e (headSpec wsX5_addRecord rmX5_addRecord).room s m args below meth c H locs 0 0 Q (F0 m 48 ls [.int q3.1]) := by
      intro H locs hP hD hS
      refine lv_istore (lv' := [(5, .int q3.1), (4, .int (bI q2)), (0, .ref (a0 0)), (1, .int p1), (2, .ref a2), (3, .int p3)]) hx hb dX5_addRecord_48 hl (by decide) rfl (fun ls hl => ?_)
      refine lv_iconst (v := 0) hx hb dX5_addRecord_50 rfl ?_
      refine lv_istore (lv' := [(6, .int (0 : Int32)), (5, .int q3.1), (4, .int (bI q2)), (0, .ref (a0 0)), (1, .int p1), (2, .ref a2), (3, .int p3)]) hx hb dX5_addRecord_51 hl (by decide) rfl (fun ls hl => ?_)
      refine lv_iconst (v := 0) hx hb dX5_addRecord_53 rfl ?_
      refine lv_istore (lv' := [(7, .int (0 : Int32)), (6, .int (0 : Int32)), (5, .int q3.1), (4, .int (bI q2)), (0, .ref (a0 0)), (1, .int p1), (2, .ref a2), (3, .int p3)]) hx hb dX5_addRecord_54 hl (by decide) rfl (fun ls hl => ?_)
      obtain ⟨K4, hK4, hf⟩ := jn_some hf
      have J4 : ∀ (q4 : Int32 × Int32 × Int32 × HS) (H : Heap) (locs : List Loc) (hP : va_P E.1 vwCl (wHS E a0 q4.2.2.2 ++ wIA E a2 n2 v2) H) (hD : va_D A (wHS E a0 q4.2.2.2 ++ wIA E a2 n2 v2)) (hS : va_S A s.heap H locs) (ls : Array Slot) (hl : lv_has ls 10 [(5, .int q4.1)]) (hf : K4 q4 = some x), W p l e (headSpec wsX5_addRecord rmX5_addRecord).room s m args below meth c H locs 0 0 Q (F0 m 184 ls []) := by
        intro q4 H locs hP hD hS ls hl hf
        have hf := (hK4 q4).trans hf
        refine lv_iload hx hb dX5_addRecord_184 (lv_at hl 0 rfl) ?_
        refine lv_if_eq (tgt := 194) hx hb dX5_addRecord_186 rfl (fun c5 => ?_) (fun c5 => ?_)
        · have hf := it_t hf c5
          refine lv_ldcw hx hb hown w7 dX5_addRecord_194 ?_
          cases Option.some.inj hf
          subst hQe
          exact ew_i (wf := (fun q : HS => wHS E a0 q ++ wIA E a2 n2 v2)) hx hb hr hlocks hP hD hS dX5_addRecord_197
        · have hf := it_f hf c5
          refine lv_iload hx hb dX5_addRecord_189 (lv_at hl 0 rfl) ?_
          refine lv_goto (tgt := 197) hx hb dX5_addRecord_191 rfl ?_
          cases Option.some.inj hf
          subst hQe
          exact ew_i (wf := (fun q : HS => wHS E a0 q ++ wIA E a2 n2 v2)) hx hb hr hlocks hP hD hS dX5_addRecord_197
      have L4 : ∀ (n : Nat) (q4 : Int32 × Int32 × Int32 × HS) (H : Heap) (locs : List Loc) (hP : va_P E.1 vwCl (wHS E a0 q4.2.2.2 ++ wIA E a2 n2 v2) H) (hD : va_D A (wHS E a0 q4.2.2.2 ++ wIA E a2 n2 v2)) (hS : va_S A s.heap H locs) (ls : Array Slot) (hl : lv_has ls 10 [(0, .ref (a0 0)), (1, .int p1), (2, .ref a2), (3, .int p3), (5, .int q4.1), (6, .int q4.2.1), (7, .int q4.2.2.1)]) (hf : lpF (bX5_addRecord_4 p1 p3 n2 v2 K4) n q4 = some x), W p l e (headSpec wsX5_addRecord rmX5_addRecord).room s m args below meth c H locs 0 0 Q (F0 m 56 ls []) := by
        intro n
        induction n with
        | zero => intro q4 H locs hP hD hS ls hl hf; exact (lpF_zero hf).elim
        | succ n ih4 =>
          intro q4 H locs hP hD hS ls hl hf
          have hf := lpF_succ hf
          unfold bX5_addRecord_4 at hf
          refine lv_iload hx hb dX5_addRecord_56 (lv_at hl 6 rfl) ?_
          refine lv_bipush (v := 6) hx hb dX5_addRecord_58 rfl ?_
          refine lv_icmp_ge (tgt := 184) hx hb dX5_addRecord_60 rfl (fun c6 => ?_) (fun c6 => ?_)
          · have hf := it_t hf c6
            exact J4 (q4.1, q4.2.1, q4.2.2.1, q4.2.2.2) H locs hP hD hS ls (lv_sub hl [4] rfl) hf
          · have hf := it_f hf c6
            refine lv_iload hx hb dX5_addRecord_63 (lv_at hl 5 rfl) ?_
            refine lv_iconst (v := 3) hx hb dX5_addRecord_65 rfl ?_
            refine lv_icmp_ge (tgt := 184) hx hb dX5_addRecord_66 rfl (fun c7 => ?_) (fun c7 => ?_)
            · have hf := it_t hf c7
              exact J4 (q4.1, q4.2.1, q4.2.2.1, q4.2.2.2) H locs hP hD hS ls (lv_sub hl [4] rfl) hf
            · have hf := it_f hf c7
              refine lv_iload hx hb dX5_addRecord_69 (lv_at hl 4 rfl) ?_
              refine lv_if_ne (tgt := 184) hx hb dX5_addRecord_71 rfl (fun c8 => ?_) (fun c8 => ?_)
              · have hf := it_f hf c8
                exact J4 (q4.1, q4.2.1, q4.2.2.1, q4.2.2.2) H locs hP hD hS ls (lv_sub hl [4] rfl) hf
              · have hf := it_t hf c8
                refine lv_aload_n hx hb dX5_addRecord_74 rfl (lv_at hl 0 rfl) ?_
                refine va_get (D := E.1) (ci := 4) (v := .ref (a0 13)) (C := RX5) (T := TX5) (N := 9) hx hb hts w2 hown hC.1 hP 0 rfl rfl 8 (by decide) w1 (fun _ h9 => h9) rfl dX5_addRecord_75 ?_
                refine lv_iload_n hx hb dX5_addRecord_78 rfl (lv_at hl 1 rfl) ?_
                obtain ⟨r9, e9, hf⟩ := bd_some hf
                refine cr_i (va_runV (As := [.int p1]) (rest := []) ⟨hx, hb, hml, hown, hts⟩ (c_X3_lastChunk l E (fun k => a0 (k + 13)) q4.2.2.2.2.2.2.2.2.2.2.2 p1 r9 e9) (cwV 1 hts gX5_addRecord_X3_lastChunk rfl rfl rfl hdV_X3_lastChunk ⟨Nat.le_of_ble_eq_true rfl, Nat.le_of_ble_eq_true rfl⟩) ⟨PR.blind, va_recv hC.1 hP (ci := 3) (q0 := 13) rfl rfl, PR.pre hC hS (hP.sub [13, 14, 15, 16, 17, 18] rfl)⟩ rfl rfl hl.1 rfl (lv_room (Nat.le_of_ble_eq_true rfl)) dX5_addRecord_79 ⟨Nat.le_of_ble_eq_true rfl, Nat.le_of_ble_eq_true rfl⟩) ?_
                refine lv_istore (lv' := [(8, .int r9), (0, .ref (a0 0)), (1, .int p1), (2, .ref a2), (3, .int p3), (5, .int q4.1), (6, .int q4.2.1), (7, .int q4.2.2.1)]) hx hb dX5_addRecord_82 hl (by decide) rfl (fun ls hl => ?_)
                refine lv_aload_n hx hb dX5_addRecord_84 rfl (lv_at hl 1 rfl) ?_
                refine lv_iload hx hb dX5_addRecord_85 (lv_at hl 0 rfl) ?_
                obtain ⟨r10, e10, hf⟩ := bd_some hf
                refine cr_i (va_runV (As := [.int r9]) (rest := []) ⟨hx, hb, hml, hown, hts⟩ (c_X5_leaseHolds l E a0 q4.2.2.2 r9 r10 e10) (cwV 1 hts gX5_addRecord_X5_leaseHolds rfl rfl rfl hdV_X5_leaseHolds ⟨Nat.le_of_ble_eq_true rfl, Nat.le_of_ble_eq_true rfl⟩) ⟨PR.blind, va_recv hC.1 hP (ci := 4) (q0 := 0) rfl rfl, PR.pre hC hS (hP.sub [0, 1, 2, 3, 4, 5, 6, 7, 8, 9, 10, 11, 12, 13, 14, 15, 16, 17, 18] rfl)⟩ rfl rfl hl.1 rfl (lv_room (Nat.le_of_ble_eq_true rfl)) dX5_addRecord_87 ⟨Nat.le_of_ble_eq_true rfl, Nat.le_of_ble_eq_true rfl⟩) ?_
                obtain ⟨K11, hK11, hf⟩ := jn_some hf
                have J11 : ∀ (q11 : HS) (H : Heap) (locs : List Loc) (hP : va_P E.1 vwCl (wHS E a0 q11 ++ wIA E a2 n2 v2) H) (hD : va_D A (wHS E a0 q11 ++ wIA E a2 n2 v2)) (hS : va_S A s.heap H locs) (hf : K11 q11 = some x), W p l e (headSpec wsX5_addRecord rmX5_addRecord).room s m args below meth c H locs 0 0 Q (F0 m 105 ls []) := by
                  intro q11 H locs hP hD hS hf
                  have hf := (hK11 q11).trans hf
                  refine lv_aload_n hx hb dX5_addRecord_105 rfl (lv_at hl 1 rfl) ?_
                  refine lv_iload hx hb dX5_addRecord_106 (lv_at hl 0 rfl) ?_
                  obtain ⟨r12, e12, hf⟩ := bd_some hf
                  refine cr_i (va_runV (As := [.int r9]) (rest := []) ⟨hx, hb, hml, hown, hts⟩ (c_X5_greatestFilled l E a0 q11 r9 r12 e12) (cwV 1 hts gX5_addRecord_X5_greatestFilled rfl rfl rfl hdV_X5_greatestFilled ⟨Nat.le_of_ble_eq_true rfl, Nat.le_of_ble_eq_true rfl⟩) ⟨PR.blind, va_recv hC.1 hP (ci := 4) (q0 := 0) rfl rfl, PR.pre hC hS (hP.sub [0, 1, 2, 3, 4, 5, 6, 7, 8, 9, 10, 11, 12, 13, 14, 15, 16, 17, 18] rfl)⟩ rfl rfl hl.1 rfl (lv_room (Nat.le_of_ble_eq_true rfl)) dX5_addRecord_108 ⟨Nat.le_of_ble_eq_true rfl, Nat.le_of_ble_eq_true rfl⟩) ?_
                  refine lv_istore (lv' := [(9, .int r12), (8, .int r9), (0, .ref (a0 0)), (1, .int p1), (2, .ref a2), (3, .int p3), (5, .int q4.1), (6, .int q4.2.1), (7, .int q4.2.2.1)]) hx hb dX5_addRecord_111 hl (by decide) rfl (fun ls hl => ?_)
                  refine lv_iload hx hb dX5_addRecord_113 (lv_at hl 0 rfl) ?_
                  refine lv_iload_n hx hb dX5_addRecord_115 rfl (lv_at hl 5 rfl) ?_
                  refine lv_iadd hx hb dX5_addRecord_116 ?_
                  refine lv_aload_n hx hb dX5_addRecord_117 rfl (lv_at hl 2 rfl) ?_
                  refine va_get (D := E.1) (ci := 4) (v := .int q11.2.1) (C := RX5) (T := TX5) (N := 9) hx hb hts w2 hown hC.1 hP 0 rfl rfl 1 (by decide) w6 (fun _ h9 => h9) rfl dX5_addRecord_118 ?_
                  refine lv_icmp_le (tgt := 142) hx hb dX5_addRecord_121 rfl (fun c13 => ?_) (fun c13 => ?_)
                  · have hf := it_t hf c13
                    refine lv_iinc (v := (q4.2.1 + 1)) (lv' := [(6, .int (q4.2.1 + 1)), (9, .int r12), (8, .int r9), (0, .ref (a0 0)), (1, .int p1), (2, .ref a2), (3, .int p3), (5, .int q4.1), (7, .int q4.2.2.1)]) hx hb dX5_addRecord_142 hl (k := 7) rfl rfl (by decide) rfl (fun ls hl => ?_)
                    refine lv_aload_n hx hb dX5_addRecord_145 rfl (lv_at hl 3 rfl) ?_
                    refine lv_iload hx hb dX5_addRecord_146 (lv_at hl 2 rfl) ?_
                    refine lv_iload hx hb dX5_addRecord_148 (lv_at hl 1 rfl) ?_
                    refine lv_aload_n hx hb dX5_addRecord_150 rfl (lv_at hl 5 rfl) ?_
                    refine lv_iload_n hx hb dX5_addRecord_151 rfl (lv_at hl 6 rfl) ?_
                    obtain ⟨r14, e14, hf⟩ := bd_some hf
                    refine cq_i hP hD hS [0, 1, 2, 3, 4, 5, 6, 7, 8, 9, 10, 11, 12, 13, 14, 15, 16, 17, 18, 19] [] [0, 1, 2, 3, 4, 5, 6, 7, 8, 9, 10, 11, 12, 13, 14, 15, 16, 17, 18, 19] (va_free (wc := (wHS E a0 q11 ++ wIA E a2 n2 v2)) hD hS hA [0, 1, 2, 3, 4, 5, 6, 7, 8, 9, 10, 11, 12, 13, 14, 15, 16, 17, 18, 19] rfl) (va_runV (As := [.int r9, .int r12, .ref a2, .int p3]) (rest := []) ⟨hx, hb, hml, hown, hts⟩ (c_X5_tryToWrite l E H.size a0 q11 r9 r12 a2 n2 v2 p3 r14 e14) (cwV 4 hts gX5_addRecord_X5_tryToWrite rfl rfl rfl hdV_X5_tryToWrite ⟨Nat.le_of_ble_eq_true rfl, Nat.le_of_ble_eq_true rfl⟩) ⟨PW.blind, va_recv hC.1 hP (ci := 4) (q0 := 0) rfl rfl, PW.pre hC hS hP hD (va_free hD hS hA [0, 1, 2, 3, 4, 5, 6, 7, 8, 9, 10, 11, 12, 13, 14, 15, 16, 17, 18, 19] rfl)⟩ rfl rfl hl.1 rfl (lv_room (Nat.le_of_ble_eq_true rfl)) dX5_addRecord_152 ⟨Nat.le_of_ble_eq_true rfl, Nat.le_of_ble_eq_true rfl⟩) rfl rfl rfl rfl (wHS E a0 r14.2 ++ wIA E a2 n2 v2) rfl rfl (fun H locs hP hD hS => ?_)
                    refine lv_if_eq (tgt := 178) hx hb dX5_addRecord_155 rfl (fun c15 => ?_) (fun c15 => ?_)
                    · have hf := it_t hf c15
                      refine lv_iinc (v := (q4.2.2.1 + 1)) (lv' := [(7, .int (q4.2.2.1 + 1)), (6, .int (q4.2.1 + 1)), (9, .int r12), (8, .int r9), (0, .ref (a0 0)), (1, .int p1), (2, .ref a2), (3, .int p3), (5, .int q4.1)]) hx hb dX5_addRecord_178 hl (k := 8) rfl rfl (by decide) rfl (fun ls hl => ?_)
                      refine lv_goto (tgt := 56) hx hb dX5_addRecord_181 rfl ?_
                      exact ih4 (q4.1, (q4.2.1 + 1), (q4.2.2.1 + 1), r14.2) H locs hP hD hS ls (lv_sub hl [4, 5, 6, 7, 8, 1, 0] rfl) hf
                    · have hf := it_f hf c15
                      refine lv_aload_n hx hb dX5_addRecord_158 rfl (lv_at hl 3 rfl) ?_
                      refine va_get (D := E.1) (ci := 4) (v := .int r14.2.2.1) (C := RX5) (T := TX5) (N := 9) hx hb hts w2 hown hC.1 hP 0 rfl rfl 1 (by decide) w6 (fun _ h9 => h9) rfl dX5_addRecord_159 ?_
                      refine lv_aload_n hx hb dX5_addRecord_162 rfl (lv_at hl 3 rfl) ?_
                      refine va_get (D := E.1) (ci := 4) (v := .ref (a0 13)) (C := RX5) (T := TX5) (N := 9) hx hb hts w2 hown hC.1 hP 0 rfl rfl 8 (by decide) w1 (fun _ h9 => h9) rfl dX5_addRecord_163 ?_
                      refine va_get (D := E.1) (ci := 3) (v := .ref (a0 17)) (C := RX3) (T := TX3) (N := 5) hx hb hts w4 hown hC.1 hP 13 rfl rfl 3 (by decide) w3 (fun _ h9 => h9) rfl dX5_addRecord_166 ?_
                      refine lv_iload_n hx hb dX5_addRecord_169 rfl (lv_at hl 4 rfl) ?_
                      obtain ⟨h16, hf⟩ := gdI_some hf
                      refine va_iald hx hb hC.1 hP 17 0 rfl rfl h16 dX5_addRecord_170 ?_
                      refine lv_iconst (v := 1) hx hb dX5_addRecord_171 rfl ?_
                      refine lv_isub hx hb dX5_addRecord_172 ?_
                      refine lv_imul hx hb dX5_addRecord_173 ?_
                      refine lv_iload hx hb dX5_addRecord_174 (lv_at hl 1 rfl) ?_
                      refine lv_iadd hx hb dX5_addRecord_176 ?_
                      cases Option.some.inj hf
                      subst hQe
                      exact ew_i (wf := (fun q : HS => wHS E a0 q ++ wIA E a2 n2 v2)) hx hb hr hlocks hP hD hS dX5_addRecord_177
                  · have hf := it_f hf c13
                    refine lv_aload_n hx hb dX5_addRecord_124 rfl (lv_at hl 2 rfl) ?_
                    refine lv_iload hx hb dX5_addRecord_125 (lv_at hl 1 rfl) ?_
                    refine lv_iload hx hb dX5_addRecord_127 (lv_at hl 0 rfl) ?_
                    obtain ⟨r17, e17, hf⟩ := bd_some hf
                    refine cq_v hP hD hS [0, 1, 2, 3, 4, 5, 6, 7, 8, 9, 10, 11, 12, 13, 14, 15, 16, 17, 18] [19] [1, 2, 3, 4, 5, 6, 7, 8, 9, 10, 11, 12, 13, 14, 15, 16, 17, 18, 19, 0] (va_free (wc := (wHS E a0 q11)) hD hS hA [0, 1, 2, 3, 4, 5, 6, 7, 8, 9, 10, 11, 12, 13, 14, 15, 16, 17, 18] rfl) (va_runV (As := [.int r9, .int r12]) (rest := []) ⟨hx, hb, hml, hown, hts⟩ (c_X5_padAll l E H.size a0 q11 r9 r12 r17 e17) (cwV 2 hts gX5_addRecord_X5_padAll rfl rfl rfl hdV_X5_padAll ⟨Nat.le_of_ble_eq_true rfl, Nat.le_of_ble_eq_true rfl⟩) ⟨PW.blind, va_recv hC.1 hP (ci := 4) (q0 := 0) rfl rfl, PW.pre hC hS (hP.sub [0, 1, 2, 3, 4, 5, 6, 7, 8, 9, 10, 11, 12, 13, 14, 15, 16, 17, 18] rfl) (hD.sub [0, 1, 2, 3, 4, 5, 6, 7, 8, 9, 10, 11, 12, 13, 14, 15, 16, 17, 18] rfl rfl) (va_free hD hS hA [0, 1, 2, 3, 4, 5, 6, 7, 8, 9, 10, 11, 12, 13, 14, 15, 16, 17, 18] rfl)⟩ rfl rfl hl.1 rfl (lv_room (Nat.le_of_ble_eq_true rfl)) dX5_addRecord_129 ⟨Nat.le_of_ble_eq_true rfl, Nat.le_of_ble_eq_true rfl⟩) rfl rfl rfl rfl (wHS E a0 r17 ++ wIA E a2 n2 v2) rfl rfl (fun H locs hP hD hS => ?_)
                    refine lv_aload_n hx hb dX5_addRecord_132 rfl (lv_at hl 2 rfl) ?_
                    refine lv_iload_n hx hb dX5_addRecord_133 rfl (lv_at hl 3 rfl) ?_
                    obtain ⟨r18, e18, hf⟩ := bd_some hf
                    refine cq_i hP hD hS [0, 1, 2, 3, 4, 5, 6, 7, 8, 9, 10, 11, 12, 13, 14, 15, 16, 17, 18] [19] [1, 2, 3, 4, 5, 6, 7, 8, 9, 10, 11, 12, 13, 14, 15, 16, 17, 18, 19, 0] (va_free (wc := (wHS E a0 r17)) hD hS hA [0, 1, 2, 3, 4, 5, 6, 7, 8, 9, 10, 11, 12, 13, 14, 15, 16, 17, 18] rfl) (va_runV (As := [.int p1]) (rest := []) ⟨hx, hb, hml, hown, hts⟩ (c_X5_addNewChunk l E H.size a0 r17 p1 r18 e18) (cwV 1 hts gX5_addRecord_X5_addNewChunk rfl rfl rfl hdV_X5_addNewChunk ⟨Nat.le_of_ble_eq_true rfl, Nat.le_of_ble_eq_true rfl⟩) ⟨PW.blind, va_recv hC.1 hP (ci := 4) (q0 := 0) rfl rfl, PW.pre hC hS (hP.sub [0, 1, 2, 3, 4, 5, 6, 7, 8, 9, 10, 11, 12, 13, 14, 15, 16, 17, 18] rfl) (hD.sub [0, 1, 2, 3, 4, 5, 6, 7, 8, 9, 10, 11, 12, 13, 14, 15, 16, 17, 18] rfl rfl) (va_free hD hS hA [0, 1, 2, 3, 4, 5, 6, 7, 8, 9, 10, 11, 12, 13, 14, 15, 16, 17, 18] rfl)⟩ rfl rfl hl.1 rfl (lv_room (Nat.le_of_ble_eq_true rfl)) dX5_addRecord_134 ⟨Nat.le_of_ble_eq_true rfl, Nat.le_of_ble_eq_true rfl⟩) rfl rfl rfl rfl (wHS E a0 r18.2 ++ wIA E a2 n2 v2) rfl rfl (fun H locs hP hD hS => ?_)
                    refine lv_istore (lv' := [(5, .int r18.1), (9, .int r12), (8, .int r9), (0, .ref (a0 0)), (1, .int p1), (2, .ref a2), (3, .int p3), (6, .int q4.2.1), (7, .int q4.2.2.1)]) hx hb dX5_addRecord_137 hl (by decide) rfl (fun ls hl => ?_)
                    refine lv_goto (tgt := 178) hx hb dX5_addRecord_139 rfl ?_
                    refine lv_iinc (v := (q4.2.2.1 + 1)) (lv' := [(7, .int (q4.2.2.1 + 1)), (5, .int r18.1), (9, .int r12), (8, .int r9), (0, .ref (a0 0)), (1, .int p1), (2, .ref a2), (3, .int p3), (6, .int q4.2.1)]) hx hb dX5_addRecord_178 hl (k := 8) rfl rfl (by decide) rfl (fun ls hl => ?_)
                    refine lv_goto (tgt := 56) hx hb dX5_addRecord_181 rfl ?_
                    exact ih4 (r18.1, q4.2.1, (q4.2.2.1 + 1), r18.2) H locs hP hD hS ls (lv_sub hl [4, 5, 6, 7, 1, 8, 0] rfl) hf
                refine lv_if_ne (tgt := 105) hx hb dX5_addRecord_90 rfl (fun c19 => ?_) (fun c19 => ?_)
                · have hf := it_f hf c19
                  exact J11 q4.2.2.2 H locs hP hD hS hf
                · have hf := it_t hf c19
                  refine lv_aload_n hx hb dX5_addRecord_93 rfl (lv_at hl 1 rfl) ?_
                  refine lv_iload hx hb dX5_addRecord_94 (lv_at hl 0 rfl) ?_
                  obtain ⟨r20, e20, hf⟩ := bd_some hf
                  refine cq_i hP hD hS [0, 1, 2, 3, 4, 5, 6, 7, 8, 9, 10, 11, 12, 13, 14, 15, 16, 17, 18] [19] [1, 2, 3, 4, 5, 6, 7, 8, 9, 10, 11, 12, 13, 14, 15, 16, 17, 18, 19, 0] (va_free (wc := (wHS E a0 q4.2.2.2)) hD hS hA [0, 1, 2, 3, 4, 5, 6, 7, 8, 9, 10, 11, 12, 13, 14, 15, 16, 17, 18] rfl) (va_runV (As := [.int r9]) (rest := []) ⟨hx, hb, hml, hown, hts⟩ (c_X5_giveLease l E H.size a0 q4.2.2.2 r9 r20 e20) (cwV 1 hts gX5_addRecord_X5_giveLease rfl rfl rfl hdV_X5_giveLease ⟨Nat.le_of_ble_eq_true rfl, Nat.le_of_ble_eq_true rfl⟩) ⟨PW.blind, va_recv hC.1 hP (ci := 4) (q0 := 0) rfl rfl, PW.pre hC hS (hP.sub [0, 1, 2, 3, 4, 5, 6, 7, 8, 9, 10, 11, 12, 13, 14, 15, 16, 17, 18] rfl) (hD.sub [0, 1, 2, 3, 4, 5, 6, 7, 8, 9, 10, 11, 12, 13, 14, 15, 16, 17, 18] rfl rfl) (va_free hD hS hA [0, 1, 2, 3, 4, 5, 6, 7, 8, 9, 10, 11, 12, 13, 14, 15, 16, 17, 18] rfl)⟩ rfl rfl hl.1 rfl (lv_room (Nat.le_of_ble_eq_true rfl)) dX5_addRecord_96 ⟨Nat.le_of_ble_eq_true rfl, Nat.le_of_ble_eq_true rfl⟩) rfl rfl rfl rfl (wHS E a0 r20.2 ++ wIA E a2 n2 v2) rfl rfl (fun H locs hP hD hS => ?_)
                  refine lv_if_ne (tgt := 105) hx hb dX5_addRecord_99 rfl (fun c21 => ?_) (fun c21 => ?_)
                  · have hf := it_f hf c21
                    exact J11 r20.2 H locs hP hD hS hf
                  · have hf := it_t hf c21
                    refine lv_ldc hx hb hown w5 dX5_addRecord_102 ?_
                    cases Option.some.inj hf
                    subst hQe
                    exact ew_i (wf := (fun q : HS => wHS E a0 q ++ wIA E a2 n2 v2)) hx hb hr hlocks hP hD hS dX5_addRecord_104
      exact L4 FU (q3.1, (0 : Int32), (0 : Int32), q3.2) H locs hP hD hS ls (lv_sub hl [4, 5, 6, 7, 2, 1, 0] rfl) hf
    have hf := e3
    refine lv_if_eq (tgt := 32) hx hb dX5_addRecord_21 rfl (fun c22 => ?_) (fun c22 => ?_)
    · have hf := it_t hf c22
      refine lv_aload_n hx hb dX5_addRecord_32 rfl (lv_at hl 1 rfl) ?_
      refine lv_iload_n hx hb dX5_addRecord_33 rfl (lv_at hl 2 rfl) ?_
      refine lv_aload_n hx hb dX5_addRecord_34 rfl (lv_at hl 1 rfl) ?_
      refine va_get (D := E.1) (ci := 4) (v := .ref (a0 13)) (C := RX5) (T := TX5) (N := 9) hx hb hts w2 hown hC.1 hP 0 rfl rfl 8 (by decide) w1 (fun _ h9 => h9) rfl dX5_addRecord_35 ?_
      refine va_get (D := E.1) (ci := 3) (v := .ref (a0 17)) (C := RX3) (T := TX3) (N := 5) hx hb hts w4 hown hC.1 hP 13 rfl rfl 3 (by decide) w3 (fun _ h9 => h9) rfl dX5_addRecord_38 ?_
      refine lv_iload_n hx hb dX5_addRecord_41 rfl (lv_at hl 2 rfl) ?_
      obtain ⟨h23, hf⟩ := gdI_some hf
      refine va_iald hx hb hC.1 hP 17 0 rfl rfl h23 dX5_addRecord_42 ?_
      refine lv_iconst (v := 1) hx hb dX5_addRecord_43 rfl ?_
      refine lv_isub hx hb dX5_addRecord_44 ?_
      obtain ⟨r24, e24, hf⟩ := bd_some hf
      refine cq_i hP hD hS [0, 1, 2, 3, 4, 5, 6, 7, 8, 9, 10, 11, 12, 13, 14, 15, 16, 17, 18] [19] [1, 2, 3, 4, 5, 6, 7, 8, 9, 10, 11, 12, 13, 14, 15, 16, 17, 18, 19, 0] (va_free (wc := (wHS E a0 v0)) hD hS hA [0, 1, 2, 3, 4, 5, 6, 7, 8, 9, 10, 11, 12, 13, 14, 15, 16, 17, 18] rfl) (va_runV (As := [.int p1, .int ((v0.2.2.2.2.2.2.2.2.2.2.2.1 p1.toNatClampNeg) - (1 : Int32))]) (rest := []) ⟨hx, hb, hml, hown, hts⟩ (c_X5_own l E s.heap.size a0 v0 p1 ((v0.2.2.2.2.2.2.2.2.2.2.2.1 p1.toNatClampNeg) - (1 : Int32)) r24 e24) (cwV 2 hts gX5_addRecord_X5_own rfl rfl rfl hdV_X5_own ⟨Nat.le_of_ble_eq_true rfl, Nat.le_of_ble_eq_true rfl⟩) ⟨PW.blind, va_recv hC.1 hP (ci := 4) (q0 := 0) rfl rfl, PW.pre hC hS (hP.sub [0, 1, 2, 3, 4, 5, 6, 7, 8, 9, 10, 11, 12, 13, 14, 15, 16, 17, 18] rfl) (hD.sub [0, 1, 2, 3, 4, 5, 6, 7, 8, 9, 10, 11, 12, 13, 14, 15, 16, 17, 18] rfl rfl) (va_free hD hS hA [0, 1, 2, 3, 4, 5, 6, 7, 8, 9, 10, 11, 12, 13, 14, 15, 16, 17, 18] rfl)⟩ rfl rfl hl.1 rfl (lv_room (Nat.le_of_ble_eq_true rfl)) dX5_addRecord_45 ⟨Nat.le_of_ble_eq_true rfl, Nat.le_of_ble_eq_true rfl⟩) rfl rfl rfl rfl (wHS E a0 r24.2 ++ wIA E a2 n2 v2) rfl rfl (fun H locs hP hD hS => ?_)
      cases Option.some.inj hf
      exact J3 H locs hP hD hS
    · have hf := it_f hf c22
      refine lv_aload_n hx hb dX5_addRecord_24 rfl (lv_at hl 1 rfl) ?_
      refine lv_iload_n hx hb dX5_addRecord_25 rfl (lv_at hl 2 rfl) ?_
      obtain ⟨r25, e25, hf⟩ := bd_some hf
      refine cq_i hP hD hS [0, 1, 2, 3, 4, 5, 6, 7, 8, 9, 10, 11, 12, 13, 14, 15, 16, 17, 18] [19] [1, 2, 3, 4, 5, 6, 7, 8, 9, 10, 11, 12, 13, 14, 15, 16, 17, 18, 19, 0] (va_free (wc := (wHS E a0 v0)) hD hS hA [0, 1, 2, 3, 4, 5, 6, 7, 8, 9, 10, 11, 12, 13, 14, 15, 16, 17, 18] rfl) (va_runV (As := [.int p1]) (rest := []) ⟨hx, hb, hml, hown, hts⟩ (c_X5_addNewChunk l E s.heap.size a0 v0 p1 r25 e25) (cwV 1 hts gX5_addRecord_X5_addNewChunk rfl rfl rfl hdV_X5_addNewChunk ⟨Nat.le_of_ble_eq_true rfl, Nat.le_of_ble_eq_true rfl⟩) ⟨PW.blind, va_recv hC.1 hP (ci := 4) (q0 := 0) rfl rfl, PW.pre hC hS (hP.sub [0, 1, 2, 3, 4, 5, 6, 7, 8, 9, 10, 11, 12, 13, 14, 15, 16, 17, 18] rfl) (hD.sub [0, 1, 2, 3, 4, 5, 6, 7, 8, 9, 10, 11, 12, 13, 14, 15, 16, 17, 18] rfl rfl) (va_free hD hS hA [0, 1, 2, 3, 4, 5, 6, 7, 8, 9, 10, 11, 12, 13, 14, 15, 16, 17, 18] rfl)⟩ rfl rfl hl.1 rfl (lv_room (Nat.le_of_ble_eq_true rfl)) dX5_addRecord_26 ⟨Nat.le_of_ble_eq_true rfl, Nat.le_of_ble_eq_true rfl⟩) rfl rfl rfl rfl (wHS E a0 r25.2 ++ wIA E a2 n2 v2) rfl rfl (fun H locs hP hD hS => ?_)
      refine lv_goto (tgt := 48) hx hb dX5_addRecord_29 rfl ?_
      cases Option.some.inj hf
      exact J3 H locs hP hD hS
  have hf := e2
  refine lv_icmp_ne (tgt := 16) hx hb dX5_addRecord_9 rfl (fun c26 => ?_) (fun c26 => ?_)
  · have hf := it_f hf c26
    refine lv_iconst (v := 0) hx hb dX5_addRecord_16 rfl ?_
    cases hf
    exact J2
  · have hf := it_t hf c26
    refine lv_iconst (v := 1) hx hb dX5_addRecord_12 rfl ?_
    refine lv_goto (tgt := 17) hx hb dX5_addRecord_13 rfl ?_
    cases hf
    exact J2

/-! X5_tellCellAt -/
abbrev rmX5_tellCellAt : Room := { frames := 2, cells := 0, slots := 0, locals := 47 }
theorem hdS_X5_tellCellAt : yX5_tellCellAt.cls ≠ "java/lang/invoke/MethodHandle" ∧ yX5_tellCellAt.cls ≠ "java/lang/invoke/VarHandle" ∧ (parseMethodDescriptor yX5_tellCellAt.desc).map (fun d => d.parameters.length) = some 4 := by decide +kernel
theorem hdV_X5_tellCellAt : yX5_tellCellAt.cls = RX5 ∧ yX5_tellCellAt.cls ≠ "java/lang/invoke/MethodHandle" ∧ yX5_tellCellAt.cls ≠ "java/lang/invoke/VarHandle" ∧ (parseMethodDescriptor yX5_tellCellAt.desc).map (fun d => d.parameters.length) = some 4 := ⟨rfl, hdS_X5_tellCellAt⟩
set_option maxHeartbeats 4000000 in
set_option maxRecDepth 100000 in
theorem c_X5_tellCellAt (l : Launch) (E : G0) (sz : Nat) (a0 : Nat → Nat) (v0 : HS) (p1 : Int32) (p2 : Int32) (p3 : Int32) (p4 : Int32) (x : Bool × HS) (hf : f_X5_tellCellAt v0 p1 p2 p3 p4 = some x) : Met l yX5_tellCellAt wsX5_tellCellAt rmX5_tellCellAt (va_Pc [.ref (a0 0), .int p1, .int p2, .int p3, .int p4] (PW E (wHS E a0 v0) sz)) (va_Qi (fun r q => r = bI x.1 ∧ q = x.2) (fun q t => va_P E.1 vwCl ((fun q : HS => wHS E a0 q) q) t.heap ∧ va_D (va_A (wHS E a0 v0) sz) ((fun q : HS => wHS E a0 q) q)) (va_A (wHS E a0 v0) sz)) 0 0 (va_A (wHS E a0 v0) sz) := by
  refine Met.ofW (cc := cX5_tellCellAt) (maxL := 5) (ret := some .boolean) (by decide) rfl ?_
  intro p e s m args below meth c s₁ B hml hv
  obtain ⟨ha, hsz, hP, hD0, hC⟩ := hv
  have hx := B.exec
  have hb := B.bytes
  have hr := B.returns
  have hts := atoms_spec (ws := wsX5_tellCellAt) B.pre
  have hown : s.vm.findClass RX5 = some m.cls := findClass_of_methodNamed B.named
  have hlocks := B.notSynchronized
  subst hsz
  have hD := hD0.self (sz := s.heap.size)
  generalize hAe : va_A (wHS E a0 v0) s.heap.size = A at hD hC ⊢
  have hA : ∀ q : Nat, s.heap.size ≤ q → A q := fun q h => by rw [← hAe]; exact Or.inr h
  have hS : va_S A s.heap s.heap [] := va_S.rf
  have w1 : (Cond.fieldLink RX5 30 "GreatChunks$House" "servers" "LGreatChunks$Servers;").before args s = true := hts _ (List.mem_of_getElem? (i := 1) rfl)
  have w2 : ∀ w ∈ wsX50, w ∈ wsX5_tellCellAt := in_pl 41 rfl
  have w3 : (Cond.fieldLink RX5 44 "GreatChunks$House" "copies" "LGreatChunks$Copies;").before args s = true := hts _ (List.mem_of_getElem? (i := 2) rfl)
  have w4 : (Cond.methodLink RX5 142 Lib.Math.max.name).before args s = true := hts _ (List.mem_of_getElem? (i := 3) rfl)
  have w5 : (Cond.static Lib.Math.max.name).before args s = true := hts _ (List.mem_of_getElem? (i := 4) rfl)
  have w6 : (Cond.initialized "java/lang/Math").before args s = true := hts _ (List.mem_of_getElem? (i := 5) rfl)
  have w7 : (Cond.code Lib.Math.max.name Lib.Math.max.code 2 (some .int)).before args s = true := hts _ (List.mem_of_getElem? (i := 6) rfl)
  generalize hQe : MQ below (va_Qi (fun r q => r = bI x.1 ∧ q = x.2) (fun q t => va_P E.1 vwCl ((fun q : HS => wHS E a0 q) q) t.heap ∧ va_D A ((fun q : HS => wHS E a0 q) q)) A) args s 0 0 A = Q
  refine st_W ha (Nat.le_of_ble_eq_true rfl) (fun ls hl => ?_)
  have hl : lv_has ls 5 [(0, .ref (a0 0)), (1, .int p1), (2, .int p2), (3, .int p3), (4, .int p4)] := hl
  unfold f_X5_tellCellAt at hf
  refine lv_aload_n hx hb dX5_tellCellAt_0 rfl (lv_at hl 0 rfl) ?_
  refine va_get (D := E.1) (ci := 4) (v := .ref (a0 1)) (C := RX5) (T := TX5) (N := 9) hx hb hts w2 hown hC.1 hP 0 rfl rfl 5 (by decide) w1 (fun _ h9 => h9) rfl dX5_tellCellAt_1 ?_
  refine lv_iload_n hx hb dX5_tellCellAt_4 rfl (lv_at hl 1 rfl) ?_
  obtain ⟨r1, e1, hf⟩ := bd_some hf
  refine cq_i hP hD hS [1, 2, 3] [0, 4, 5, 6, 7, 8, 9, 10, 11, 12, 13, 14, 15, 16, 17, 18] [0, 16, 17, 18, 1, 2, 3, 4, 5, 6, 7, 8, 9, 10, 11, 12, 13, 14, 15] (va_free (wc := (wSV E (fun k => a0 (k + 1)) v0.2.2.2.2.2.1)) hD hS hA [1, 2, 3] rfl) (va_runV (As := [.int p1]) (rest := []) ⟨hx, hb, hml, hown, hts⟩ (c_X8_failsNow l E s.heap.size (fun k => a0 (k + 1)) v0.2.2.2.2.2.1 p1 r1 e1) (cwV 1 hts gX5_tellCellAt_X8_failsNow rfl rfl rfl hdV_X8_failsNow ⟨Nat.le_of_ble_eq_true rfl, Nat.le_of_ble_eq_true rfl⟩) ⟨PW.blind, va_recv hC.1 hP (ci := 6) (q0 := 1) rfl rfl, PW.pre hC hS (hP.sub [1, 2, 3] rfl) (hD.sub [1, 2, 3] rfl rfl) (va_free hD hS hA [1, 2, 3] rfl)⟩ rfl rfl hl.1 rfl (lv_room (Nat.le_of_ble_eq_true rfl)) dX5_tellCellAt_5 ⟨Nat.le_of_ble_eq_true rfl, Nat.le_of_ble_eq_true rfl⟩) rfl rfl rfl rfl (wHS E a0 (v0.1, v0.2.1, v0.2.2.1, v0.2.2.2.1, v0.2.2.2.2.1, r1.2, v0.2.2.2.2.2.2.1, v0.2.2.2.2.2.2.2.1, v0.2.2.2.2.2.2.2.2)) rfl rfl (fun H locs hP hD hS => ?_)
  refine lv_if_eq (tgt := 23) hx hb dX5_tellCellAt_8 rfl (fun c2 => ?_) (fun c2 => ?_)
  · have hf := it_t hf c2
    refine lv_aload_n hx hb dX5_tellCellAt_23 rfl (lv_at hl 0 rfl) ?_
    refine va_get (D := E.1) (ci := 4) (v := .ref (a0 9)) (C := RX5) (T := TX5) (N := 9) hx hb hts w2 hown hC.1 hP 0 rfl rfl 7 (by decide) w3 (fun _ h9 => h9) rfl dX5_tellCellAt_24 ?_
    refine lv_iload_n hx hb dX5_tellCellAt_27 rfl (lv_at hl 1 rfl) ?_
    refine lv_iload_n hx hb dX5_tellCellAt_28 rfl (lv_at hl 2 rfl) ?_
    refine lv_iload_n hx hb dX5_tellCellAt_29 rfl (lv_at hl 3 rfl) ?_
    refine lv_iload hx hb dX5_tellCellAt_30 (lv_at hl 4 rfl) ?_
    obtain ⟨r3, e3, hf⟩ := bd_some hf
    refine cq_v hP hD hS [9, 10, 11, 12] [0, 1, 2, 3, 4, 5, 6, 7, 8, 13, 14, 15, 16, 17, 18] [0, 1, 2, 3, 4, 5, 6, 7, 8, 15, 16, 17, 18, 9, 10, 11, 12, 13, 14] (va_free (wc := (wCP E (fun k => a0 (k + 9)) v0.2.2.2.2.2.2.2.1)) hD hS hA [9, 10, 11, 12] rfl) (va_runV (As := [.int p1, .int p2, .int p3, .int p4]) (rest := []) ⟨hx, hb, hml, hown, hts⟩ (c_X2_setCell l E H.size (fun k => a0 (k + 9)) v0.2.2.2.2.2.2.2.1 p1 p2 p3 p4 r3 e3) (cwV 4 hts gX5_tellCellAt_X2_setCell rfl rfl rfl hdV_X2_setCell ⟨Nat.le_of_ble_eq_true rfl, Nat.le_of_ble_eq_true rfl⟩) ⟨PW.blind, va_recv hC.1 hP (ci := 2) (q0 := 9) rfl rfl, PW.pre hC hS (hP.sub [9, 10, 11, 12] rfl) (hD.sub [9, 10, 11, 12] rfl rfl) (va_free hD hS hA [9, 10, 11, 12] rfl)⟩ rfl rfl hl.1 rfl (lv_room (Nat.le_of_ble_eq_true rfl)) dX5_tellCellAt_32 ⟨Nat.le_of_ble_eq_true rfl, Nat.le_of_ble_eq_true rfl⟩) rfl rfl rfl rfl (wHS E a0 (v0.1, v0.2.1, v0.2.2.1, v0.2.2.2.1, v0.2.2.2.2.1, r1.2, v0.2.2.2.2.2.2.1, r3, v0.2.2.2.2.2.2.2.2)) rfl rfl (fun H locs hP hD hS => ?_)
    refine lv_aload_n hx hb dX5_tellCellAt_35 rfl (lv_at hl 0 rfl) ?_
    refine va_get (D := E.1) (ci := 4) (v := .ref (a0 9)) (C := RX5) (T := TX5) (N := 9) hx hb hts w2 hown hC.1 hP 0 rfl rfl 7 (by decide) w3 (fun _ h9 => h9) rfl dX5_tellCellAt_36 ?_
    refine lv_iload_n hx hb dX5_tellCellAt_39 rfl (lv_at hl 1 rfl) ?_
    refine lv_iload_n hx hb dX5_tellCellAt_40 rfl (lv_at hl 2 rfl) ?_
    refine lv_aload_n hx hb dX5_tellCellAt_41 rfl (lv_at hl 0 rfl) ?_
    refine va_get (D := E.1) (ci := 4) (v := .ref (a0 9)) (C := RX5) (T := TX5) (N := 9) hx hb hts w2 hown hC.1 hP 0 rfl rfl 7 (by decide) w3 (fun _ h9 => h9) rfl dX5_tellCellAt_42 ?_
    refine lv_iload_n hx hb dX5_tellCellAt_45 rfl (lv_at hl 1 rfl) ?_
    refine lv_iload_n hx hb dX5_tellCellAt_46 rfl (lv_at hl 2 rfl) ?_
    obtain ⟨r4, e4, hf⟩ := bd_some hf
    refine cr_i (va_runV (As := [.int p1, .int p2]) (rest := [.int p2, .int p1, .ref (a0 9)]) ⟨hx, hb, hml, hown, hts⟩ (c_X2_filledOf l E (fun k => a0 (k + 9)) r3 p1 p2 r4 e4) (cwV 2 hts gX5_tellCellAt_X2_filledOf rfl rfl rfl hdV_X2_filledOf ⟨Nat.le_of_ble_eq_true rfl, Nat.le_of_ble_eq_true rfl⟩) ⟨PR.blind, va_recv hC.1 hP (ci := 2) (q0 := 9) rfl rfl, PR.pre hC hS (hP.sub [9, 10, 11, 12] rfl)⟩ rfl rfl hl.1 rfl (lv_room (Nat.le_of_ble_eq_true rfl)) dX5_tellCellAt_47 ⟨Nat.le_of_ble_eq_true rfl, Nat.le_of_ble_eq_true rfl⟩) ?_
    refine lv_iload_n hx hb dX5_tellCellAt_50 rfl (lv_at hl 3 rfl) ?_
    refine lv_iconst (v := 1) hx hb dX5_tellCellAt_51 rfl ?_
    refine lv_iadd hx hb dX5_tellCellAt_52 ?_
    refine va_mmax hx hb (by rw [hml]; exact hl.1.symm) hown w4 w5 w6 w7 (Nat.le_of_ble_eq_true rfl) (Nat.le_of_ble_eq_true rfl) (Nat.le_of_ble_eq_true rfl) (Nat.le_of_ble_eq_true rfl) dX5_tellCellAt_53 ?_
    obtain ⟨r5, e5, hf⟩ := bd_some hf
    refine cq_v hP hD hS [9, 10, 11, 12] [0, 1, 2, 3, 4, 5, 6, 7, 8, 13, 14, 15, 16, 17, 18] [0, 1, 2, 3, 4, 5, 6, 7, 8, 15, 16, 17, 18, 9, 10, 11, 12, 13, 14] (va_free (wc := (wCP E (fun k => a0 (k + 9)) r3)) hD hS hA [9, 10, 11, 12] rfl) (va_runV (As := [.int p1, .int p2, .int (if r4 < (p3 + (1 : Int32)) then (p3 + (1 : Int32)) else r4)]) (rest := []) ⟨hx, hb, hml, hown, hts⟩ (c_X2_setFilled l E H.size (fun k => a0 (k + 9)) r3 p1 p2 (if r4 < (p3 + (1 : Int32)) then (p3 + (1 : Int32)) else r4) r5 e5) (cwV 3 hts gX5_tellCellAt_X2_setFilled rfl rfl rfl hdV_X2_setFilled ⟨Nat.le_of_ble_eq_true rfl, Nat.le_of_ble_eq_true rfl⟩) ⟨PW.blind, va_recv hC.1 hP (ci := 2) (q0 := 9) rfl rfl, PW.pre hC hS (hP.sub [9, 10, 11, 12] rfl) (hD.sub [9, 10, 11, 12] rfl rfl) (va_free hD hS hA [9, 10, 11, 12] rfl)⟩ rfl rfl hl.1 rfl (lv_room (Nat.le_of_ble_eq_true rfl)) dX5_tellCellAt_56 ⟨Nat.le_of_ble_eq_true rfl, Nat.le_of_ble_eq_true rfl⟩) rfl rfl rfl rfl (wHS E a0 (v0.1, v0.2.1, v0.2.2.1, v0.2.2.2.1, v0.2.2.2.2.1, r1.2, v0.2.2.2.2.2.2.1, r5, v0.2.2.2.2.2.2.2.2)) rfl rfl (fun H locs hP hD hS => ?_)
    refine lv_iconst (v := 1) hx hb dX5_tellCellAt_59 rfl ?_
    cases Option.some.inj hf
    subst hQe
    exact ew_z (wf := (fun q : HS => wHS E a0 q)) hx hb hr hlocks rfl hP hD hS dX5_tellCellAt_60
  · have hf := it_f hf c2
    refine lv_aload_n hx hb dX5_tellCellAt_11 rfl (lv_at hl 0 rfl) ?_
    refine va_get (D := E.1) (ci := 4) (v := .ref (a0 9)) (C := RX5) (T := TX5) (N := 9) hx hb hts w2 hown hC.1 hP 0 rfl rfl 7 (by decide) w3 (fun _ h9 => h9) rfl dX5_tellCellAt_12 ?_
    refine lv_iload_n hx hb dX5_tellCellAt_15 rfl (lv_at hl 1 rfl) ?_
    refine lv_iload_n hx hb dX5_tellCellAt_16 rfl (lv_at hl 2 rfl) ?_
    refine lv_iconst (v := 0) hx hb dX5_tellCellAt_17 rfl ?_
    obtain ⟨r6, e6, hf⟩ := bd_some hf
    refine cq_v hP hD hS [9, 10, 11, 12] [0, 1, 2, 3, 4, 5, 6, 7, 8, 13, 14, 15, 16, 17, 18] [0, 1, 2, 3, 4, 5, 6, 7, 8, 15, 16, 17, 18, 9, 10, 11, 12, 13, 14] (va_free (wc := (wCP E (fun k => a0 (k + 9)) v0.2.2.2.2.2.2.2.1)) hD hS hA [9, 10, 11, 12] rfl) (va_runV (As := [.int p1, .int p2, .int (0 : Int32)]) (rest := []) ⟨hx, hb, hml, hown, hts⟩ (c_X2_setVersion l E H.size (fun k => a0 (k + 9)) v0.2.2.2.2.2.2.2.1 p1 p2 (0 : Int32) r6 e6) (cwV 3 hts gX5_tellCellAt_X2_setVersion rfl rfl rfl hdV_X2_setVersion ⟨Nat.le_of_ble_eq_true rfl, Nat.le_of_ble_eq_true rfl⟩) ⟨PW.blind, va_recv hC.1 hP (ci := 2) (q0 := 9) rfl rfl, PW.pre hC hS (hP.sub [9, 10, 11, 12] rfl) (hD.sub [9, 10, 11, 12] rfl rfl) (va_free hD hS hA [9, 10, 11, 12] rfl)⟩ rfl rfl hl.1 rfl (lv_room (Nat.le_of_ble_eq_true rfl)) dX5_tellCellAt_18 ⟨Nat.le_of_ble_eq_true rfl, Nat.le_of_ble_eq_true rfl⟩) rfl rfl rfl rfl (wHS E a0 (v0.1, v0.2.1, v0.2.2.1, v0.2.2.2.1, v0.2.2.2.2.1, r1.2, v0.2.2.2.2.2.2.1, r6, v0.2.2.2.2.2.2.2.2)) rfl rfl (fun H locs hP hD hS => ?_)
    refine lv_iconst (v := 0) hx hb dX5_tellCellAt_21 rfl ?_
    cases Option.some.inj hf
    subst hQe
    exact ew_z (wf := (fun q : HS => wHS E a0 q)) hx hb hr hlocks rfl hP hD hS dX5_tellCellAt_22

/-! X5_tellCell -/
abbrev rmX5_tellCell : Room := { frames := 5, cells := 0, slots := 0, locals := 116 }
theorem hdS_X5_tellCell : yX5_tellCell.cls ≠ "java/lang/invoke/MethodHandle" ∧ yX5_tellCell.cls ≠ "java/lang/invoke/VarHandle" ∧ (parseMethodDescriptor yX5_tellCell.desc).map (fun d => d.parameters.length) = some 3 := by decide +kernel
theorem hdV_X5_tellCell : yX5_tellCell.cls = RX5 ∧ yX5_tellCell.cls ≠ "java/lang/invoke/MethodHandle" ∧ yX5_tellCell.cls ≠ "java/lang/invoke/VarHandle" ∧ (parseMethodDescriptor yX5_tellCell.desc).map (fun d => d.parameters.length) = some 3 := ⟨rfl, hdS_X5_tellCell⟩
set_option maxHeartbeats 4000000 in
set_option maxRecDepth 100000 in
theorem c_X5_tellCell (l : Launch) (E : G0) (sz : Nat) (a0 : Nat → Nat) (v0 : HS) (p1 : Int32) (p2 : Int32) (p3 : Int32) (x : Int32 × HS) (hf : f_X5_tellCell v0 p1 p2 p3 = some x) : Met l yX5_tellCell wsX5_tellCell rmX5_tellCell (va_Pc [.ref (a0 0), .int p1, .int p2, .int p3] (PW E (wHS E a0 v0) sz)) (va_Qi (fun r q => r = x.1 ∧ q = x.2) (fun q t => va_P E.1 vwCl ((fun q : HS => wHS E a0 q) q) t.heap ∧ va_D (va_A (wHS E a0 v0) sz) ((fun q : HS => wHS E a0 q) q)) (va_A (wHS E a0 v0) sz)) 0 0 (va_A (wHS E a0 v0) sz) := by
  refine Met.ofW (cc := cX5_tellCell) (maxL := 9) (ret := some .int) (by decide) rfl ?_
  intro p e s m args below meth c s₁ B hml hv
  obtain ⟨ha, hsz, hP, hD0, hC⟩ := hv
  have hx := B.exec
  have hb := B.bytes
  have hr := B.returns
  have hts := atoms_spec (ws := wsX5_tellCell) B.pre
  have hown : s.vm.findClass RX5 = some m.cls := findClass_of_methodNamed B.named
  have hlocks := B.notSynchronized
  subst hsz
  have hD := hD0.self (sz := s.heap.size)
  generalize hAe : va_A (wHS E a0 v0) s.heap.size = A at hD hC ⊢
  have hA : ∀ q : Nat, s.heap.size ≤ q → A q := fun q h => by rw [← hAe]; exact Or.inr h
  have hS : va_S A s.heap s.heap [] := va_S.rf
  have w1 : (Cond.fieldLink RX5 51 "GreatChunks$House" "files" "LGreatChunks$Files;").before args s = true := hts _ (List.mem_of_getElem? (i := 1) rfl)
  have w2 : ∀ w ∈ wsX50, w ∈ wsX5_tellCell := in_pl 168 rfl
  have w3 : (Cond.constant RX5 182 (-1000004)).before args s = true := hts _ (List.mem_of_getElem? (i := 2) rfl)
  have w4 : (Cond.fieldLink RX5 30 "GreatChunks$House" "servers" "LGreatChunks$Servers;").before args s = true := hts _ (List.mem_of_getElem? (i := 3) rfl)
  have w5 : (Cond.fieldLink RX5 98 "GreatChunks$Servers" "many" "I").before args s = true := hts _ (List.mem_of_getElem? (i := 4) rfl)
  have w6 : ∀ w ∈ wsX80, w ∈ wsX5_tellCell := in_pl 177 rfl
  have w7 : (Cond.initialized RX10).before args s = true := hts _ (List.mem_of_getElem? (i := 26) rfl)
  have w8 : (Cond.static yX10_isIn).before args s = true := hts _ (List.mem_of_getElem? (i := 78) rfl)
  generalize hQe : MQ below (va_Qi (fun r q => r = x.1 ∧ q = x.2) (fun q t => va_P E.1 vwCl ((fun q : HS => wHS E a0 q) q) t.heap ∧ va_D A ((fun q : HS => wHS E a0 q) q)) A) args s 0 0 A = Q
  refine st_W ha (Nat.le_of_ble_eq_true rfl) (fun ls hl => ?_)
  have hl : lv_has ls 9 [(0, .ref (a0 0)), (1, .int p1), (2, .int p2), (3, .int p3)] := hl
  unfold f_X5_tellCell at hf
  refine lv_aload_n hx hb dX5_tellCell_0 rfl (lv_at hl 0 rfl) ?_
  refine lv_iload_n hx hb dX5_tellCell_1 rfl (lv_at hl 1 rfl) ?_
  refine lv_aload_n hx hb dX5_tellCell_2 rfl (lv_at hl 0 rfl) ?_
  refine lv_iload_n hx hb dX5_tellCell_3 rfl (lv_at hl 2 rfl) ?_
  obtain ⟨r1, e1, hf⟩ := bd_some hf
  refine cr_i (va_runV (As := [.int p2]) (rest := [.int p1, .ref (a0 0)]) ⟨hx, hb, hml, hown, hts⟩ (c_X5_rowOf l E a0 v0 p2 r1 e1) (cwV 1 hts gX5_tellCell_X5_rowOf rfl rfl rfl hdV_X5_rowOf ⟨Nat.le_of_ble_eq_true rfl, Nat.le_of_ble_eq_true rfl⟩) ⟨PR.blind, va_recv hC.1 hP (ci := 4) (q0 := 0) rfl rfl, PR.pre hC hS hP⟩ rfl rfl hl.1 rfl (lv_room (Nat.le_of_ble_eq_true rfl)) dX5_tellCell_4 ⟨Nat.le_of_ble_eq_true rfl, Nat.le_of_ble_eq_true rfl⟩) ?_
  obtain ⟨r2, e2, hf⟩ := bd_some hf
  refine cq_i hP hD hS [0, 1, 2, 3, 4, 5, 6, 7, 8, 9, 10, 11, 12, 13, 14, 15, 16, 17, 18] [] [0, 1, 2, 3, 4, 5, 6, 7, 8, 9, 10, 11, 12, 13, 14, 15, 16, 17, 18] (va_free (wc := (wHS E a0 v0)) hD hS hA [0, 1, 2, 3, 4, 5, 6, 7, 8, 9, 10, 11, 12, 13, 14, 15, 16, 17, 18] rfl) (va_runV (As := [.int p1, .int r1]) (rest := []) ⟨hx, hb, hml, hown, hts⟩ (c_X5_own l E s.heap.size a0 v0 p1 r1 r2 e2) (cwV 2 hts gX5_tellCell_X5_own rfl rfl rfl hdV_X5_own ⟨Nat.le_of_ble_eq_true rfl, Nat.le_of_ble_eq_true rfl⟩) ⟨PW.blind, va_recv hC.1 hP (ci := 4) (q0 := 0) rfl rfl, PW.pre hC hS hP hD (va_free hD hS hA [0, 1, 2, 3, 4, 5, 6, 7, 8, 9, 10, 11, 12, 13, 14, 15, 16, 17, 18] rfl)⟩ rfl rfl hl.1 rfl (lv_room (Nat.le_of_ble_eq_true rfl)) dX5_tellCell_7 ⟨Nat.le_of_ble_eq_true rfl, Nat.le_of_ble_eq_true rfl⟩) rfl rfl rfl rfl (wHS E a0 r2.2) rfl rfl (fun H locs hP hD hS => ?_)
  refine lv_istore (lv' := [(4, .int r2.1), (0, .ref (a0 0)), (1, .int p1), (2, .int p2), (3, .int p3)]) hx hb dX5_tellCell_10 hl (by decide) rfl (fun ls hl => ?_)
  refine lv_iload hx hb dX5_tellCell_12 (lv_at hl 0 rfl) ?_
  refine lv_if_eq (tgt := 20) hx hb dX5_tellCell_14 rfl (fun c3 => ?_) (fun c3 => ?_)
  · have hf := it_t hf c3
    refine lv_aload_n hx hb dX5_tellCell_20 rfl (lv_at hl 1 rfl) ?_
    refine va_get (D := E.1) (ci := 4) (v := .ref (a0 13)) (C := RX5) (T := TX5) (N := 9) hx hb hts w2 hown hC.1 hP 0 rfl rfl 8 (by decide) w1 (fun _ h9 => h9) rfl dX5_tellCell_21 ?_
    refine lv_iload_n hx hb dX5_tellCell_24 rfl (lv_at hl 2 rfl) ?_
    refine lv_aload_n hx hb dX5_tellCell_25 rfl (lv_at hl 1 rfl) ?_
    refine lv_iload_n hx hb dX5_tellCell_26 rfl (lv_at hl 3 rfl) ?_
    obtain ⟨r4, e4, hf⟩ := bd_some hf
    refine cr_i (va_runV (As := [.int p2]) (rest := [.int p1, .ref (a0 13)]) ⟨hx, hb, hml, hown, hts⟩ (c_X5_rowOf l E a0 r2.2 p2 r4 e4) (cwV 1 hts gX5_tellCell_X5_rowOf rfl rfl rfl hdV_X5_rowOf ⟨Nat.le_of_ble_eq_true rfl, Nat.le_of_ble_eq_true rfl⟩) ⟨PR.blind, va_recv hC.1 hP (ci := 4) (q0 := 0) rfl rfl, PR.pre hC hS hP⟩ rfl rfl hl.1 rfl (lv_room (Nat.le_of_ble_eq_true rfl)) dX5_tellCell_27 ⟨Nat.le_of_ble_eq_true rfl, Nat.le_of_ble_eq_true rfl⟩) ?_
    obtain ⟨r5, e5, hf⟩ := bd_some hf
    refine cr_i (va_runV (As := [.int p1, .int r4]) (rest := []) ⟨hx, hb, hml, hown, hts⟩ (c_X3_chunkOf l E (fun k => a0 (k + 13)) r2.2.2.2.2.2.2.2.2.2 p1 r4 r5 e5) (cwV 2 hts gX5_tellCell_X3_chunkOf rfl rfl rfl hdV_X3_chunkOf ⟨Nat.le_of_ble_eq_true rfl, Nat.le_of_ble_eq_true rfl⟩) ⟨PR.blind, va_recv hC.1 hP (ci := 3) (q0 := 13) rfl rfl, PR.pre hC hS (hP.sub [13, 14, 15, 16, 17, 18] rfl)⟩ rfl rfl hl.1 rfl (lv_room (Nat.le_of_ble_eq_true rfl)) dX5_tellCell_30 ⟨Nat.le_of_ble_eq_true rfl, Nat.le_of_ble_eq_true rfl⟩) ?_
    refine lv_istore (lv' := [(5, .int r5), (4, .int r2.1), (0, .ref (a0 0)), (1, .int p1), (2, .int p2), (3, .int p3)]) hx hb dX5_tellCell_33 hl (by decide) rfl (fun ls hl => ?_)
    refine lv_aload_n hx hb dX5_tellCell_35 rfl (lv_at hl 2 rfl) ?_
    refine lv_iload hx hb dX5_tellCell_36 (lv_at hl 0 rfl) ?_
    obtain ⟨r6, e6, hf⟩ := bd_some hf
    refine cq_i hP hD hS [0, 1, 2, 3, 4, 5, 6, 7, 8, 9, 10, 11, 12, 13, 14, 15, 16, 17, 18] [] [0, 1, 2, 3, 4, 5, 6, 7, 8, 9, 10, 11, 12, 13, 14, 15, 16, 17, 18] (va_free (wc := (wHS E a0 r2.2)) hD hS hA [0, 1, 2, 3, 4, 5, 6, 7, 8, 9, 10, 11, 12, 13, 14, 15, 16, 17, 18] rfl) (va_runV (As := [.int r5]) (rest := []) ⟨hx, hb, hml, hown, hts⟩ (c_X5_giveLease l E H.size a0 r2.2 r5 r6 e6) (cwV 1 hts gX5_tellCell_X5_giveLease rfl rfl rfl hdV_X5_giveLease ⟨Nat.le_of_ble_eq_true rfl, Nat.le_of_ble_eq_true rfl⟩) ⟨PW.blind, va_recv hC.1 hP (ci := 4) (q0 := 0) rfl rfl, PW.pre hC hS hP hD (va_free hD hS hA [0, 1, 2, 3, 4, 5, 6, 7, 8, 9, 10, 11, 12, 13, 14, 15, 16, 17, 18] rfl)⟩ rfl rfl hl.1 rfl (lv_room (Nat.le_of_ble_eq_true rfl)) dX5_tellCell_38 ⟨Nat.le_of_ble_eq_true rfl, Nat.le_of_ble_eq_true rfl⟩) rfl rfl rfl rfl (wHS E a0 r6.2) rfl rfl (fun H locs hP hD hS => ?_)
    refine lv_if_ne (tgt := 47) hx hb dX5_tellCell_41 rfl (fun c7 => ?_) (fun c7 => ?_)
    · have hf := it_f hf c7
      refine lv_aload_n hx hb dX5_tellCell_47 rfl (lv_at hl 2 rfl) ?_
      refine lv_iload hx hb dX5_tellCell_48 (lv_at hl 0 rfl) ?_
      obtain ⟨r8, e8, hf⟩ := bd_some hf
      refine cr_i (va_runV (As := [.int r5]) (rest := []) ⟨hx, hb, hml, hown, hts⟩ (c_X5_able l E a0 r6.2 r5 r8 e8) (cwV 1 hts gX5_tellCell_X5_able rfl rfl rfl hdV_X5_able ⟨Nat.le_of_ble_eq_true rfl, Nat.le_of_ble_eq_true rfl⟩) ⟨PR.blind, va_recv hC.1 hP (ci := 4) (q0 := 0) rfl rfl, PR.pre hC hS hP⟩ rfl rfl hl.1 rfl (lv_room (Nat.le_of_ble_eq_true rfl)) dX5_tellCell_50 ⟨Nat.le_of_ble_eq_true rfl, Nat.le_of_ble_eq_true rfl⟩) ?_
      refine lv_istore (lv' := [(6, .int r8), (5, .int r5), (4, .int r2.1), (0, .ref (a0 0)), (1, .int p1), (2, .int p2), (3, .int p3)]) hx hb dX5_tellCell_53 hl (by decide) rfl (fun ls hl => ?_)
      refine lv_iconst (v := 0) hx hb dX5_tellCell_55 rfl ?_
      refine lv_istore (lv' := [(7, .int (0 : Int32)), (6, .int r8), (5, .int r5), (4, .int r2.1), (0, .ref (a0 0)), (1, .int p1), (2, .int p2), (3, .int p3)]) hx hb dX5_tellCell_56 hl (by decide) rfl (fun ls hl => ?_)
      refine lv_iconst (v := 0) hx hb dX5_tellCell_58 rfl ?_
      refine lv_istore (lv' := [(8, .int (0 : Int32)), (7, .int (0 : Int32)), (6, .int r8), (5, .int r5), (4, .int r2.1), (0, .ref (a0 0)), (1, .int p1), (2, .int p2), (3, .int p3)]) hx hb dX5_tellCell_59 hl (by decide) rfl (fun ls hl => ?_)
      obtain ⟨K9, hK9, hf⟩ := jn_some hf
      have J9 : ∀ (q9 : Int32 × Int32 × HS) (H : Heap) (locs : List Loc) (hP : va_P E.1 vwCl (wHS E a0 q9.2.2) H) (hD : va_D A (wHS E a0 q9.2.2)) (hS : va_S A s.heap H locs) (ls : Array Slot) (hl : lv_has ls 9 [(7, .int q9.1)]) (hf : K9 q9 = some x), W p l e (headSpec wsX5_tellCell rmX5_tellCell).room s m args below meth c H locs 0 0 Q (F0 m 116 ls []) := by
        intro q9 H locs hP hD hS ls hl hf
        have hf := (hK9 q9).trans hf
        refine lv_iload hx hb dX5_tellCell_116 (lv_at hl 0 rfl) ?_
        refine lv_if_ne (tgt := 126) hx hb dX5_tellCell_118 rfl (fun c10 => ?_) (fun c10 => ?_)
        · have hf := it_f hf c10
          refine lv_iload hx hb dX5_tellCell_126 (lv_at hl 0 rfl) ?_
          cases Option.some.inj hf
          subst hQe
          exact ew_i (wf := (fun q : HS => wHS E a0 q)) hx hb hr hlocks hP hD hS dX5_tellCell_128
        · have hf := it_t hf c10
          refine lv_ldc hx hb hown w3 dX5_tellCell_121 ?_
          refine lv_goto (tgt := 128) hx hb dX5_tellCell_123 rfl ?_
          cases Option.some.inj hf
          subst hQe
          exact ew_i (wf := (fun q : HS => wHS E a0 q)) hx hb hr hlocks hP hD hS dX5_tellCell_128
      have L9 : ∀ (n : Nat) (q9 : Int32 × Int32 × HS) (H : Heap) (locs : List Loc) (hP : va_P E.1 vwCl (wHS E a0 q9.2.2) H) (hD : va_D A (wHS E a0 q9.2.2)) (hS : va_S A s.heap H locs) (ls : Array Slot) (hl : lv_has ls 9 [(0, .ref (a0 0)), (2, .int p2), (3, .int p3), (5, .int r5), (6, .int r8), (7, .int q9.1), (8, .int q9.2.1)]) (hf : lpF (bX5_tellCell_9 r8 p2 r5 p3 K9) n q9 = some x), W p l e (headSpec wsX5_tellCell rmX5_tellCell).room s m args below meth c H locs 0 0 Q (F0 m 61 ls []) := by
        intro n
        induction n with
        | zero => intro q9 H locs hP hD hS ls hl hf; exact (lpF_zero hf).elim
        | succ n ih9 =>
          intro q9 H locs hP hD hS ls hl hf
          have hf := lpF_succ hf
          unfold bX5_tellCell_9 at hf
          refine lv_iload hx hb dX5_tellCell_61 (lv_at hl 6 rfl) ?_
          refine lv_aload_n hx hb dX5_tellCell_63 rfl (lv_at hl 0 rfl) ?_
          refine va_get (D := E.1) (ci := 4) (v := .ref (a0 1)) (C := RX5) (T := TX5) (N := 9) hx hb hts w2 hown hC.1 hP 0 rfl rfl 5 (by decide) w4 (fun _ h9 => h9) rfl dX5_tellCell_64 ?_
          refine va_get (D := E.1) (ci := 6) (v := .int q9.2.2.2.2.2.2.2.1.1) (C := RX8) (T := TX8) (N := 4) hx hb hts w6 hown hC.1 hP 1 rfl rfl 0 (by decide) w5 (fun _ h9 => h9) rfl dX5_tellCell_67 ?_
          refine lv_icmp_ge (tgt := 116) hx hb dX5_tellCell_70 rfl (fun c11 => ?_) (fun c11 => ?_)
          · have hf := it_t hf c11
            exact J9 (q9.1, q9.2.1, q9.2.2) H locs hP hD hS ls (lv_sub hl [5] rfl) hf
          · have hf := it_f hf c11
            refine lv_iload hx hb dX5_tellCell_73 (lv_at hl 4 rfl) ?_
            refine lv_iload hx hb dX5_tellCell_75 (lv_at hl 6 rfl) ?_
            refine cr_i (va_runSN (As := [.int r8, .int q9.2.1]) (rest := []) ⟨hx, hb, hml, hown, hts⟩ (c_X10_isIn l E r8 q9.2.1 _ rfl) ⟨va_cnB 2 hts gX5_tellCell_X10_isIn_n117 rfl rfl rfl (hC.2.1 (RX5, 117, yX10_isIn, RX10) (List.mem_of_getElem? (i := 13) rfl)) w7 hdS_X10_isIn ⟨Nat.le_of_ble_eq_true rfl, Nat.le_of_ble_eq_true rfl⟩, w8, trivial⟩ ⟨PR.blind, PR.pre hC hS (hP.sub [] rfl)⟩ rfl rfl hl.1 rfl (lv_room (Nat.le_of_ble_eq_true rfl)) dX5_tellCell_77 ⟨Nat.le_of_ble_eq_true rfl, Nat.le_of_ble_eq_true rfl⟩) ?_
            refine lv_if_eq (tgt := 110) hx hb dX5_tellCell_80 rfl (fun c12 => ?_) (fun c12 => ?_)
            · have hf := it_t hf c12
              refine lv_iinc (v := (q9.2.1 + 1)) (lv' := [(8, .int (q9.2.1 + 1)), (0, .ref (a0 0)), (2, .int p2), (3, .int p3), (5, .int r5), (6, .int r8), (7, .int q9.1)]) hx hb dX5_tellCell_110 hl (k := 6) rfl rfl (by decide) rfl (fun ls hl => ?_)
              refine lv_goto (tgt := 61) hx hb dX5_tellCell_113 rfl ?_
              exact ih9 (q9.1, (q9.2.1 + 1), q9.2.2) H locs hP hD hS ls (lv_sub hl [1, 2, 3, 4, 5, 6, 0] rfl) hf
            · have hf := it_f hf c12
              refine lv_iload hx hb dX5_tellCell_83 (lv_at hl 5 rfl) ?_
              refine lv_aload_n hx hb dX5_tellCell_85 rfl (lv_at hl 0 rfl) ?_
              refine lv_iload hx hb dX5_tellCell_86 (lv_at hl 6 rfl) ?_
              refine lv_iload hx hb dX5_tellCell_88 (lv_at hl 3 rfl) ?_
              refine lv_aload_n hx hb dX5_tellCell_90 rfl (lv_at hl 0 rfl) ?_
              refine lv_iload_n hx hb dX5_tellCell_91 rfl (lv_at hl 1 rfl) ?_
              obtain ⟨r13, e13, hf⟩ := bd_some hf
              refine cr_i (va_runV (As := [.int p2]) (rest := [.int r5, .int q9.2.1, .ref (a0 0), .int q9.1]) ⟨hx, hb, hml, hown, hts⟩ (c_X5_cellOf l E a0 q9.2.2 p2 r13 e13) (cwV 1 hts gX5_tellCell_X5_cellOf rfl rfl rfl hdV_X5_cellOf ⟨Nat.le_of_ble_eq_true rfl, Nat.le_of_ble_eq_true rfl⟩) ⟨PR.blind, va_recv hC.1 hP (ci := 4) (q0 := 0) rfl rfl, PR.pre hC hS hP⟩ rfl rfl hl.1 rfl (lv_room (Nat.le_of_ble_eq_true rfl)) dX5_tellCell_92 ⟨Nat.le_of_ble_eq_true rfl, Nat.le_of_ble_eq_true rfl⟩) ?_
              refine lv_iload_n hx hb dX5_tellCell_95 rfl (lv_at hl 2 rfl) ?_
              obtain ⟨r14, e14, hf⟩ := bd_some hf
              refine cq_i hP hD hS [0, 1, 2, 3, 4, 5, 6, 7, 8, 9, 10, 11, 12, 13, 14, 15, 16, 17, 18] [] [0, 1, 2, 3, 4, 5, 6, 7, 8, 9, 10, 11, 12, 13, 14, 15, 16, 17, 18] (va_free (wc := (wHS E a0 q9.2.2)) hD hS hA [0, 1, 2, 3, 4, 5, 6, 7, 8, 9, 10, 11, 12, 13, 14, 15, 16, 17, 18] rfl) (va_runV (As := [.int q9.2.1, .int r5, .int r13, .int p3]) (rest := [.int q9.1]) ⟨hx, hb, hml, hown, hts⟩ (c_X5_tellCellAt l E H.size a0 q9.2.2 q9.2.1 r5 r13 p3 r14 e14) (cwV 4 hts gX5_tellCell_X5_tellCellAt rfl rfl rfl hdV_X5_tellCellAt ⟨Nat.le_of_ble_eq_true rfl, Nat.le_of_ble_eq_true rfl⟩) ⟨PW.blind, va_recv hC.1 hP (ci := 4) (q0 := 0) rfl rfl, PW.pre hC hS hP hD (va_free hD hS hA [0, 1, 2, 3, 4, 5, 6, 7, 8, 9, 10, 11, 12, 13, 14, 15, 16, 17, 18] rfl)⟩ rfl rfl hl.1 rfl (lv_room (Nat.le_of_ble_eq_true rfl)) dX5_tellCell_96 ⟨Nat.le_of_ble_eq_true rfl, Nat.le_of_ble_eq_true rfl⟩) rfl rfl rfl rfl (wHS E a0 r14.2) rfl rfl (fun H locs hP hD hS => ?_)
              refine lv_if_eq (tgt := 106) hx hb dX5_tellCell_99 rfl (fun c15 => ?_) (fun c15 => ?_)
              · have hf := it_t hf c15
                refine lv_iconst (v := 0) hx hb dX5_tellCell_106 rfl ?_
                refine lv_iadd hx hb dX5_tellCell_107 ?_
                refine lv_istore (lv' := [(7, .int (q9.1 + (0 : Int32))), (0, .ref (a0 0)), (2, .int p2), (3, .int p3), (5, .int r5), (6, .int r8), (8, .int q9.2.1)]) hx hb dX5_tellCell_108 hl (by decide) rfl (fun ls hl => ?_)
                refine lv_iinc (v := (q9.2.1 + 1)) (lv' := [(8, .int (q9.2.1 + 1)), (7, .int (q9.1 + (0 : Int32))), (0, .ref (a0 0)), (2, .int p2), (3, .int p3), (5, .int r5), (6, .int r8)]) hx hb dX5_tellCell_110 hl (k := 6) rfl rfl (by decide) rfl (fun ls hl => ?_)
                refine lv_goto (tgt := 61) hx hb dX5_tellCell_113 rfl ?_
                exact ih9 ((q9.1 + (0 : Int32)), (q9.2.1 + 1), r14.2) H locs hP hD hS ls (lv_sub hl [2, 3, 4, 5, 6, 1, 0] rfl) hf
              · have hf := it_f hf c15
                refine lv_iconst (v := 1) hx hb dX5_tellCell_102 rfl ?_
                refine lv_goto (tgt := 107) hx hb dX5_tellCell_103 rfl ?_
                refine lv_iadd hx hb dX5_tellCell_107 ?_
                refine lv_istore (lv' := [(7, .int (q9.1 + (1 : Int32))), (0, .ref (a0 0)), (2, .int p2), (3, .int p3), (5, .int r5), (6, .int r8), (8, .int q9.2.1)]) hx hb dX5_tellCell_108 hl (by decide) rfl (fun ls hl => ?_)
                refine lv_iinc (v := (q9.2.1 + 1)) (lv' := [(8, .int (q9.2.1 + 1)), (7, .int (q9.1 + (1 : Int32))), (0, .ref (a0 0)), (2, .int p2), (3, .int p3), (5, .int r5), (6, .int r8)]) hx hb dX5_tellCell_110 hl (k := 6) rfl rfl (by decide) rfl (fun ls hl => ?_)
                refine lv_goto (tgt := 61) hx hb dX5_tellCell_113 rfl ?_
                exact ih9 ((q9.1 + (1 : Int32)), (q9.2.1 + 1), r14.2) H locs hP hD hS ls (lv_sub hl [2, 3, 4, 5, 6, 1, 0] rfl) hf
      exact L9 FU ((0 : Int32), (0 : Int32), r6.2) H locs hP hD hS ls (lv_sub hl [5, 7, 8, 3, 2, 1, 0] rfl) hf
    · have hf := it_t hf c7
      refine lv_ldc hx hb hown w3 dX5_tellCell_44 ?_
      cases Option.some.inj hf
      subst hQe
      exact ew_i (wf := (fun q : HS => wHS E a0 q)) hx hb hr hlocks hP hD hS dX5_tellCell_46
  · have hf := it_f hf c3
    refine lv_iload hx hb dX5_tellCell_17 (lv_at hl 0 rfl) ?_
    cases Option.some.inj hf
    subst hQe
    exact ew_i (wf := (fun q : HS => wHS E a0 q)) hx hb hr hlocks hP hD hS dX5_tellCell_19

/-! X5_shareFile -/
abbrev rmX5_shareFile : Room := { frames := 4, cells := 0, slots := 0, locals := 85 }
theorem hdS_X5_shareFile : yX5_shareFile.cls ≠ "java/lang/invoke/MethodHandle" ∧ yX5_shareFile.cls ≠ "java/lang/invoke/VarHandle" ∧ (parseMethodDescriptor yX5_shareFile.desc).map (fun d => d.parameters.length) = some 2 := by decide +kernel
theorem hdV_X5_shareFile : yX5_shareFile.cls = RX5 ∧ yX5_shareFile.cls ≠ "java/lang/invoke/MethodHandle" ∧ yX5_shareFile.cls ≠ "java/lang/invoke/VarHandle" ∧ (parseMethodDescriptor yX5_shareFile.desc).map (fun d => d.parameters.length) = some 2 := ⟨rfl, hdS_X5_shareFile⟩
set_option maxHeartbeats 4000000 in
set_option maxRecDepth 100000 in
theorem c_X5_shareFile (l : Launch) (E : G0) (sz : Nat) (a0 : Nat → Nat) (v0 : HS) (p1 : Int32) (p2 : Int32) (x : Int32 × HS) (hf : f_X5_shareFile v0 p1 p2 = some x) : Met l yX5_shareFile wsX5_shareFile rmX5_shareFile (va_Pc [.ref (a0 0), .int p1, .int p2] (PW E (wHS E a0 v0) sz)) (va_Qi (fun r q => r = x.1 ∧ q = x.2) (fun q t => va_P E.1 vwCl ((fun q : HS => wHS E a0 q) q) t.heap ∧ va_D (va_A (wHS E a0 v0) sz) ((fun q : HS => wHS E a0 q) q)) (va_A (wHS E a0 v0) sz)) 0 0 (va_A (wHS E a0 v0) sz) := by
  refine Met.ofW (cc := cX5_shareFile) (maxL := 5) (ret := some .int) (by decide) rfl ?_
  intro p e s m args below meth c s₁ B hml hv
  obtain ⟨ha, hsz, hP, hD0, hC⟩ := hv
  have hx := B.exec
  have hb := B.bytes
  have hr := B.returns
  have hts := atoms_spec (ws := wsX5_shareFile) B.pre
  have hown : s.vm.findClass RX5 = some m.cls := findClass_of_methodNamed B.named
  have hlocks := B.notSynchronized
  subst hsz
  have hD := hD0.self (sz := s.heap.size)
  generalize hAe : va_A (wHS E a0 v0) s.heap.size = A at hD hC ⊢
  have hA : ∀ q : Nat, s.heap.size ≤ q → A q := fun q h => by rw [← hAe]; exact Or.inr h
  have hS : va_S A s.heap s.heap [] := va_S.rf
  have w1 : (Cond.initialized RX10).before args s = true := hts _ (List.mem_of_getElem? (i := 6) rfl)
  have w2 : (Cond.static yX10_isFile).before args s = true := hts _ (List.mem_of_getElem? (i := 5) rfl)
  have w3 : (Cond.fieldLink RX5 51 "GreatChunks$House" "files" "LGreatChunks$Files;").before args s = true := hts _ (List.mem_of_getElem? (i := 1) rfl)
  have w4 : ∀ w ∈ wsX50, w ∈ wsX5_shareFile := in_pl 49 rfl
  have w5 : (Cond.fieldLink RX5 155 "GreatChunks$Files" "kind" "[I").before args s = true := hts _ (List.mem_of_getElem? (i := 2) rfl)
  have w6 : ∀ w ∈ wsX30, w ∈ wsX5_shareFile := in_pl 58 rfl
  have w7 : (Cond.fieldLink RX5 37 "GreatChunks$House" "chunks" "LGreatChunks$Chunks;").before args s = true := hts _ (List.mem_of_getElem? (i := 3) rfl)
  have w8 : (Cond.fieldLink RX5 158 "GreatChunks$Files" "many" "[I").before args s = true := hts _ (List.mem_of_getElem? (i := 4) rfl)
  generalize hQe : MQ below (va_Qi (fun r q => r = x.1 ∧ q = x.2) (fun q t => va_P E.1 vwCl ((fun q : HS => wHS E a0 q) q) t.heap ∧ va_D A ((fun q : HS => wHS E a0 q) q)) A) args s 0 0 A = Q
  refine st_W ha (Nat.le_of_ble_eq_true rfl) (fun ls hl => ?_)
  have hl : lv_has ls 5 [(0, .ref (a0 0)), (1, .int p1), (2, .int p2)] := hl
  unfold f_X5_shareFile at hf
  refine lv_iload_n hx hb dX5_shareFile_0 rfl (lv_at hl 1 rfl) ?_
  refine cr_i (va_runSN (As := [.int p1]) (rest := []) ⟨hx, hb, hml, hown, hts⟩ (c_X10_isFile l E p1 _ rfl) ⟨va_cnB 1 hts gX5_shareFile_X10_isFile_n152 rfl rfl rfl (hC.2.1 (RX5, 152, yX10_isFile, RX10) (List.mem_of_getElem? (i := 15) rfl)) w1 hdS_X10_isFile ⟨Nat.le_of_ble_eq_true rfl, Nat.le_of_ble_eq_true rfl⟩, w2, trivial⟩ ⟨PR.blind, PR.pre hC hS (hP.sub [] rfl)⟩ rfl rfl hl.1 rfl (lv_room (Nat.le_of_ble_eq_true rfl)) dX5_shareFile_1 ⟨Nat.le_of_ble_eq_true rfl, Nat.le_of_ble_eq_true rfl⟩) ?_
  refine lv_if_eq (tgt := 14) hx hb dX5_shareFile_4 rfl (fun c1 => ?_) (fun c1 => ?_)
  · have hf := it_t hf c1
    refine lv_iconst (v := 0) hx hb dX5_shareFile_14 rfl ?_
    cases Option.some.inj hf
    subst hQe
    exact ew_i (wf := (fun q : HS => wHS E a0 q)) hx hb hr hlocks hP hD hS dX5_shareFile_15
  · have hf := it_f hf c1
    refine lv_iload_n hx hb dX5_shareFile_7 rfl (lv_at hl 2 rfl) ?_
    refine cr_i (va_runSN (As := [.int p2]) (rest := []) ⟨hx, hb, hml, hown, hts⟩ (c_X10_isFile l E p2 _ rfl) ⟨va_cnB 1 hts gX5_shareFile_X10_isFile_n152 rfl rfl rfl (hC.2.1 (RX5, 152, yX10_isFile, RX10) (List.mem_of_getElem? (i := 15) rfl)) w1 hdS_X10_isFile ⟨Nat.le_of_ble_eq_true rfl, Nat.le_of_ble_eq_true rfl⟩, w2, trivial⟩ ⟨PR.blind, PR.pre hC hS (hP.sub [] rfl)⟩ rfl rfl hl.1 rfl (lv_room (Nat.le_of_ble_eq_true rfl)) dX5_shareFile_8 ⟨Nat.le_of_ble_eq_true rfl, Nat.le_of_ble_eq_true rfl⟩) ?_
    refine lv_if_ne (tgt := 16) hx hb dX5_shareFile_11 rfl (fun c2 => ?_) (fun c2 => ?_)
    · have hf := it_f hf c2
      refine lv_aload_n hx hb dX5_shareFile_16 rfl (lv_at hl 0 rfl) ?_
      refine va_get (D := E.1) (ci := 4) (v := .ref (a0 13)) (C := RX5) (T := TX5) (N := 9) hx hb hts w4 hown hC.1 hP 0 rfl rfl 8 (by decide) w3 (fun _ h9 => h9) rfl dX5_shareFile_17 ?_
      refine lv_iload_n hx hb dX5_shareFile_20 rfl (lv_at hl 2 rfl) ?_
      refine lv_aload_n hx hb dX5_shareFile_21 rfl (lv_at hl 0 rfl) ?_
      refine va_get (D := E.1) (ci := 4) (v := .ref (a0 13)) (C := RX5) (T := TX5) (N := 9) hx hb hts w4 hown hC.1 hP 0 rfl rfl 8 (by decide) w3 (fun _ h9 => h9) rfl dX5_shareFile_22 ?_
      refine va_get (D := E.1) (ci := 3) (v := .ref (a0 15)) (C := RX3) (T := TX3) (N := 5) hx hb hts w6 hown hC.1 hP 13 rfl rfl 1 (by decide) w5 (fun _ h9 => h9) rfl dX5_shareFile_25 ?_
      refine lv_iload_n hx hb dX5_shareFile_28 rfl (lv_at hl 1 rfl) ?_
      obtain ⟨h3, hf⟩ := gdI_some hf
      refine va_iald hx hb hC.1 hP 15 0 rfl rfl h3 dX5_shareFile_29 ?_
      obtain ⟨r4, e4, hf⟩ := bd_some hf
      refine cq_v hP hD hS [13, 14, 15, 16, 17, 18] [0, 1, 2, 3, 4, 5, 6, 7, 8, 9, 10, 11, 12] [0, 1, 2, 3, 4, 5, 6, 7, 8, 9, 10, 11, 12, 13, 14, 15, 16, 17, 18] (va_free (wc := (wFL E (fun k => a0 (k + 13)) v0.2.2.2.2.2.2.2.2)) hD hS hA [13, 14, 15, 16, 17, 18] rfl) (va_runV (As := [.int p2, .int (v0.2.2.2.2.2.2.2.2.2.1 p1.toNatClampNeg)]) (rest := []) ⟨hx, hb, hml, hown, hts⟩ (c_X3_begin l E s.heap.size (fun k => a0 (k + 13)) v0.2.2.2.2.2.2.2.2 p2 (v0.2.2.2.2.2.2.2.2.2.1 p1.toNatClampNeg) r4 e4) (cwV 2 hts gX5_shareFile_X3_begin rfl rfl rfl hdV_X3_begin ⟨Nat.le_of_ble_eq_true rfl, Nat.le_of_ble_eq_true rfl⟩) ⟨PW.blind, va_recv hC.1 hP (ci := 3) (q0 := 13) rfl rfl, PW.pre hC hS (hP.sub [13, 14, 15, 16, 17, 18] rfl) (hD.sub [13, 14, 15, 16, 17, 18] rfl rfl) (va_free hD hS hA [13, 14, 15, 16, 17, 18] rfl)⟩ rfl rfl hl.1 rfl (lv_room (Nat.le_of_ble_eq_true rfl)) dX5_shareFile_30 ⟨Nat.le_of_ble_eq_true rfl, Nat.le_of_ble_eq_true rfl⟩) rfl rfl rfl rfl (wHS E a0 (v0.1, v0.2.1, v0.2.2.1, v0.2.2.2.1, v0.2.2.2.2.1, v0.2.2.2.2.2.1, v0.2.2.2.2.2.2.1, v0.2.2.2.2.2.2.2.1, r4)) rfl rfl (fun H locs hP hD hS => ?_)
      refine lv_iconst (v := 0) hx hb dX5_shareFile_33 rfl ?_
      refine lv_istore_n (lv' := [(3, .int (0 : Int32)), (0, .ref (a0 0)), (1, .int p1), (2, .int p2)]) hx hb dX5_shareFile_34 rfl hl (by decide) rfl (fun ls hl => ?_)
      obtain ⟨K5, hK5, hf⟩ := jn_some hf
      have J5 : ∀ (q5 : Int32 × HS) (H : Heap) (locs : List Loc) (hP : va_P E.1 vwCl (wHS E a0 q5.2) H) (hD : va_D A (wHS E a0 q5.2)) (hS : va_S A s.heap H locs) (ls : Array Slot) (hl : lv_has ls 5 [(0, .ref (a0 0)), (2, .int p2)]) (hf : K5 q5 = some x), W p l e (headSpec wsX5_shareFile rmX5_shareFile).room s m args below meth c H locs 0 0 Q (F0 m 92 ls []) := by
        intro q5 H locs hP hD hS ls hl hf
        have hf := (hK5 q5).trans hf
        refine lv_aload_n hx hb dX5_shareFile_92 rfl (lv_at hl 0 rfl) ?_
        refine va_get (D := E.1) (ci := 4) (v := .ref (a0 13)) (C := RX5) (T := TX5) (N := 9) hx hb hts w4 hown hC.1 hP 0 rfl rfl 8 (by decide) w3 (fun _ h9 => h9) rfl dX5_shareFile_93 ?_
        refine va_get (D := E.1) (ci := 3) (v := .ref (a0 17)) (C := RX3) (T := TX3) (N := 5) hx hb hts w6 hown hC.1 hP 13 rfl rfl 3 (by decide) w8 (fun _ h9 => h9) rfl dX5_shareFile_96 ?_
        refine lv_iload_n hx hb dX5_shareFile_99 rfl (lv_at hl 1 rfl) ?_
        obtain ⟨h6, hf⟩ := gdI_some hf
        refine va_iald hx hb hC.1 hP 17 0 rfl rfl h6 dX5_shareFile_100 ?_
        cases Option.some.inj hf
        subst hQe
        exact ew_i (wf := (fun q : HS => wHS E a0 q)) hx hb hr hlocks hP hD hS dX5_shareFile_101
      have L5 : ∀ (n : Nat) (q5 : Int32 × HS) (H : Heap) (locs : List Loc) (hP : va_P E.1 vwCl (wHS E a0 q5.2) H) (hD : va_D A (wHS E a0 q5.2)) (hS : va_S A s.heap H locs) (ls : Array Slot) (hl : lv_has ls 5 [(0, .ref (a0 0)), (1, .int p1), (2, .int p2), (3, .int q5.1)]) (hf : lpF (bX5_shareFile_5 p1 p2 K5) n q5 = some x), W p l e (headSpec wsX5_shareFile rmX5_shareFile).room s m args below meth c H locs 0 0 Q (F0 m 35 ls []) := by
        intro n
        induction n with
        | zero => intro q5 H locs hP hD hS ls hl hf; exact (lpF_zero hf).elim
        | succ n ih5 =>
          intro q5 H locs hP hD hS ls hl hf
          have hf := lpF_succ hf
          unfold bX5_shareFile_5 at hf
          refine lv_iload_n hx hb dX5_shareFile_35 rfl (lv_at hl 3 rfl) ?_
          refine lv_iconst (v := 4) hx hb dX5_shareFile_36 rfl ?_
          refine lv_icmp_ge (tgt := 92) hx hb dX5_shareFile_37 rfl (fun c7 => ?_) (fun c7 => ?_)
          · have hf := it_t hf c7
            exact J5 (q5.1, q5.2) H locs hP hD hS ls (lv_sub hl [0, 2] rfl) hf
          · have hf := it_f hf c7
            refine lv_aload_n hx hb dX5_shareFile_40 rfl (lv_at hl 0 rfl) ?_
            refine va_get (D := E.1) (ci := 4) (v := .ref (a0 13)) (C := RX5) (T := TX5) (N := 9) hx hb hts w4 hown hC.1 hP 0 rfl rfl 8 (by decide) w3 (fun _ h9 => h9) rfl dX5_shareFile_41 ?_
            refine lv_iload_n hx hb dX5_shareFile_44 rfl (lv_at hl 1 rfl) ?_
            refine lv_iload_n hx hb dX5_shareFile_45 rfl (lv_at hl 3 rfl) ?_
            obtain ⟨r8, e8, hf⟩ := bd_some hf
            refine cr_i (va_runV (As := [.int p1, .int q5.1]) (rest := []) ⟨hx, hb, hml, hown, hts⟩ (c_X3_chunkOf l E (fun k => a0 (k + 13)) q5.2.2.2.2.2.2.2.2.2 p1 q5.1 r8 e8) (cwV 2 hts gX5_shareFile_X3_chunkOf rfl rfl rfl hdV_X3_chunkOf ⟨Nat.le_of_ble_eq_true rfl, Nat.le_of_ble_eq_true rfl⟩) ⟨PR.blind, va_recv hC.1 hP (ci := 3) (q0 := 13) rfl rfl, PR.pre hC hS (hP.sub [13, 14, 15, 16, 17, 18] rfl)⟩ rfl rfl hl.1 rfl (lv_room (Nat.le_of_ble_eq_true rfl)) dX5_shareFile_46 ⟨Nat.le_of_ble_eq_true rfl, Nat.le_of_ble_eq_true rfl⟩) ?_
            refine lv_istore (lv' := [(4, .int r8), (0, .ref (a0 0)), (1, .int p1), (2, .int p2), (3, .int q5.1)]) hx hb dX5_shareFile_49 hl (by decide) rfl (fun ls hl => ?_)
            refine lv_iload hx hb dX5_shareFile_51 (lv_at hl 0 rfl) ?_
            refine lv_iconst (v := (-1)) hx hb dX5_shareFile_53 rfl ?_
            refine lv_icmp_eq (tgt := 86) hx hb dX5_shareFile_54 rfl (fun c9 => ?_) (fun c9 => ?_)
            · have hf := it_t hf c9
              refine lv_iinc (v := (q5.1 + 1)) (lv' := [(3, .int (q5.1 + 1)), (4, .int r8), (0, .ref (a0 0)), (1, .int p1), (2, .int p2)]) hx hb dX5_shareFile_86 hl (k := 4) rfl rfl (by decide) rfl (fun ls hl => ?_)
              refine lv_goto (tgt := 35) hx hb dX5_shareFile_89 rfl ?_
              exact ih5 ((q5.1 + 1), q5.2) H locs hP hD hS ls (lv_sub hl [2, 3, 4, 0] rfl) hf
            · have hf := it_f hf c9
              refine lv_aload_n hx hb dX5_shareFile_57 rfl (lv_at hl 1 rfl) ?_
              refine va_get (D := E.1) (ci := 4) (v := .ref (a0 13)) (C := RX5) (T := TX5) (N := 9) hx hb hts w4 hown hC.1 hP 0 rfl rfl 8 (by decide) w3 (fun _ h9 => h9) rfl dX5_shareFile_58 ?_
              refine lv_iload_n hx hb dX5_shareFile_61 rfl (lv_at hl 3 rfl) ?_
              refine lv_iload hx hb dX5_shareFile_62 (lv_at hl 0 rfl) ?_
              obtain ⟨r10, e10, hf⟩ := bd_some hf
              refine cq_v hP hD hS [13, 14, 15, 16, 17, 18] [0, 1, 2, 3, 4, 5, 6, 7, 8, 9, 10, 11, 12] [0, 1, 2, 3, 4, 5, 6, 7, 8, 9, 10, 11, 12, 13, 14, 15, 16, 17, 18] (va_free (wc := (wFL E (fun k => a0 (k + 13)) q5.2.2.2.2.2.2.2.2.2)) hD hS hA [13, 14, 15, 16, 17, 18] rfl) (va_runV (As := [.int p2, .int r8]) (rest := []) ⟨hx, hb, hml, hown, hts⟩ (c_X3_addChunk l E H.size (fun k => a0 (k + 13)) q5.2.2.2.2.2.2.2.2.2 p2 r8 r10 e10) (cwV 2 hts gX5_shareFile_X3_addChunk rfl rfl rfl hdV_X3_addChunk ⟨Nat.le_of_ble_eq_true rfl, Nat.le_of_ble_eq_true rfl⟩) ⟨PW.blind, va_recv hC.1 hP (ci := 3) (q0 := 13) rfl rfl, PW.pre hC hS (hP.sub [13, 14, 15, 16, 17, 18] rfl) (hD.sub [13, 14, 15, 16, 17, 18] rfl rfl) (va_free hD hS hA [13, 14, 15, 16, 17, 18] rfl)⟩ rfl rfl hl.1 rfl (lv_room (Nat.le_of_ble_eq_true rfl)) dX5_shareFile_64 ⟨Nat.le_of_ble_eq_true rfl, Nat.le_of_ble_eq_true rfl⟩) rfl rfl rfl rfl (wHS E a0 (q5.2.1, q5.2.2.1, q5.2.2.2.1, q5.2.2.2.2.1, q5.2.2.2.2.2.1, q5.2.2.2.2.2.2.1, q5.2.2.2.2.2.2.2.1, q5.2.2.2.2.2.2.2.2.1, r10)) rfl rfl (fun H locs hP hD hS => ?_)
              refine lv_aload_n hx hb dX5_shareFile_67 rfl (lv_at hl 1 rfl) ?_
              refine va_get (D := E.1) (ci := 4) (v := .ref (a0 4)) (C := RX5) (T := TX5) (N := 9) hx hb hts w4 hown hC.1 hP 0 rfl rfl 6 (by decide) w7 (fun _ h9 => h9) rfl dX5_shareFile_68 ?_
              refine lv_iload hx hb dX5_shareFile_71 (lv_at hl 0 rfl) ?_
              refine lv_iconst (v := 1) hx hb dX5_shareFile_73 rfl ?_
              obtain ⟨r11, e11, hf⟩ := bd_some hf
              refine cq_v hP hD hS [4, 5, 6, 7, 8] [0, 1, 2, 3, 9, 10, 11, 12, 13, 14, 15, 16, 17, 18] [0, 1, 2, 3, 14, 15, 16, 17, 18, 4, 5, 6, 7, 8, 9, 10, 11, 12, 13] (va_free (wc := (wCK E (fun k => a0 (k + 4)) q5.2.2.2.2.2.2.2.1)) hD hS hA [4, 5, 6, 7, 8] rfl) (va_runV (As := [.int r8, .int (1 : Int32)]) (rest := []) ⟨hx, hb, hml, hown, hts⟩ (c_X1_share l E H.size (fun k => a0 (k + 4)) q5.2.2.2.2.2.2.2.1 r8 (1 : Int32) r11 e11) (cwV 2 hts gX5_shareFile_X1_share rfl rfl rfl hdV_X1_share ⟨Nat.le_of_ble_eq_true rfl, Nat.le_of_ble_eq_true rfl⟩) ⟨PW.blind, va_recv hC.1 hP (ci := 1) (q0 := 4) rfl rfl, PW.pre hC hS (hP.sub [4, 5, 6, 7, 8] rfl) (hD.sub [4, 5, 6, 7, 8] rfl rfl) (va_free hD hS hA [4, 5, 6, 7, 8] rfl)⟩ rfl rfl hl.1 rfl (lv_room (Nat.le_of_ble_eq_true rfl)) dX5_shareFile_74 ⟨Nat.le_of_ble_eq_true rfl, Nat.le_of_ble_eq_true rfl⟩) rfl rfl rfl rfl (wHS E a0 (q5.2.1, q5.2.2.1, q5.2.2.2.1, q5.2.2.2.2.1, q5.2.2.2.2.2.1, q5.2.2.2.2.2.2.1, r11, q5.2.2.2.2.2.2.2.2.1, r10)) rfl rfl (fun H locs hP hD hS => ?_)
              refine lv_aload_n hx hb dX5_shareFile_77 rfl (lv_at hl 1 rfl) ?_
              refine va_get (D := E.1) (ci := 4) (v := .ref (a0 4)) (C := RX5) (T := TX5) (N := 9) hx hb hts w4 hown hC.1 hP 0 rfl rfl 6 (by decide) w7 (fun _ h9 => h9) rfl dX5_shareFile_78 ?_
              refine lv_iload hx hb dX5_shareFile_81 (lv_at hl 0 rfl) ?_
              obtain ⟨r12, e12, hf⟩ := bd_some hf
              refine cq_v hP hD hS [4, 5, 6, 7, 8] [0, 1, 2, 3, 9, 10, 11, 12, 13, 14, 15, 16, 17, 18] [0, 1, 2, 3, 14, 15, 16, 17, 18, 4, 5, 6, 7, 8, 9, 10, 11, 12, 13] (va_free (wc := (wCK E (fun k => a0 (k + 4)) r11)) hD hS hA [4, 5, 6, 7, 8] rfl) (va_runV (As := [.int r8]) (rest := []) ⟨hx, hb, hml, hown, hts⟩ (c_X1_endLease l E H.size (fun k => a0 (k + 4)) r11 r8 r12 e12) (cwV 1 hts gX5_shareFile_X1_endLease rfl rfl rfl hdV_X1_endLease ⟨Nat.le_of_ble_eq_true rfl, Nat.le_of_ble_eq_true rfl⟩) ⟨PW.blind, va_recv hC.1 hP (ci := 1) (q0 := 4) rfl rfl, PW.pre hC hS (hP.sub [4, 5, 6, 7, 8] rfl) (hD.sub [4, 5, 6, 7, 8] rfl rfl) (va_free hD hS hA [4, 5, 6, 7, 8] rfl)⟩ rfl rfl hl.1 rfl (lv_room (Nat.le_of_ble_eq_true rfl)) dX5_shareFile_83 ⟨Nat.le_of_ble_eq_true rfl, Nat.le_of_ble_eq_true rfl⟩) rfl rfl rfl rfl (wHS E a0 (q5.2.1, q5.2.2.1, q5.2.2.2.1, q5.2.2.2.2.1, q5.2.2.2.2.2.1, q5.2.2.2.2.2.2.1, r12, q5.2.2.2.2.2.2.2.2.1, r10)) rfl rfl (fun H locs hP hD hS => ?_)
              refine lv_iinc (v := (q5.1 + 1)) (lv' := [(3, .int (q5.1 + 1)), (4, .int r8), (0, .ref (a0 0)), (1, .int p1), (2, .int p2)]) hx hb dX5_shareFile_86 hl (k := 4) rfl rfl (by decide) rfl (fun ls hl => ?_)
              refine lv_goto (tgt := 35) hx hb dX5_shareFile_89 rfl ?_
              exact ih5 ((q5.1 + 1), (q5.2.1, q5.2.2.1, q5.2.2.2.1, q5.2.2.2.2.1, q5.2.2.2.2.2.1, q5.2.2.2.2.2.2.1, r12, q5.2.2.2.2.2.2.2.2.1, r10)) H locs hP hD hS ls (lv_sub hl [2, 3, 4, 0] rfl) hf
      exact L5 FU ((0 : Int32), (v0.1, v0.2.1, v0.2.2.1, v0.2.2.2.1, v0.2.2.2.2.1, v0.2.2.2.2.2.1, v0.2.2.2.2.2.2.1, v0.2.2.2.2.2.2.2.1, r4)) H locs hP hD hS ls (lv_sub hl [1, 2, 3, 0] rfl) hf
    · have hf := it_t hf c2
      refine lv_iconst (v := 0) hx hb dX5_shareFile_14 rfl ?_
      cases Option.some.inj hf
      subst hQe
      exact ew_i (wf := (fun q : HS => wHS E a0 q)) hx hb hr hlocks hP hD hS dX5_shareFile_15

/-! X5_loseFile -/
abbrev rmX5_loseFile : Room := { frames := 3, cells := 0, slots := 0, locals := 65 }
theorem hdS_X5_loseFile : yX5_loseFile.cls ≠ "java/lang/invoke/MethodHandle" ∧ yX5_loseFile.cls ≠ "java/lang/invoke/VarHandle" ∧ (parseMethodDescriptor yX5_loseFile.desc).map (fun d => d.parameters.length) = some 1 := by decide +kernel
theorem hdV_X5_loseFile : yX5_loseFile.cls = RX5 ∧ yX5_loseFile.cls ≠ "java/lang/invoke/MethodHandle" ∧ yX5_loseFile.cls ≠ "java/lang/invoke/VarHandle" ∧ (parseMethodDescriptor yX5_loseFile.desc).map (fun d => d.parameters.length) = some 1 := ⟨rfl, hdS_X5_loseFile⟩
set_option maxHeartbeats 4000000 in
set_option maxRecDepth 100000 in
theorem c_X5_loseFile (l : Launch) (E : G0) (sz : Nat) (a0 : Nat → Nat) (v0 : HS) (p1 : Int32) (x : HS) (hf : f_X5_loseFile v0 p1 = some x) : Met l yX5_loseFile wsX5_loseFile rmX5_loseFile (va_Pc [.ref (a0 0), .int p1] (PW E (wHS E a0 v0) sz)) (va_Qv (fun q => q = x) (fun q t => va_P E.1 vwCl ((fun q : HS => wHS E a0 q) q) t.heap ∧ va_D (va_A (wHS E a0 v0) sz) ((fun q : HS => wHS E a0 q) q)) (va_A (wHS E a0 v0) sz)) 0 0 (va_A (wHS E a0 v0) sz) := by
  refine Met.ofW (cc := cX5_loseFile) (maxL := 3) (ret := none) (by decide) rfl ?_
  intro p e s m args below meth c s₁ B hml hv
  obtain ⟨ha, hsz, hP, hD0, hC⟩ := hv
  have hx := B.exec
  have hb := B.bytes
  have hr := B.returns
  have hts := atoms_spec (ws := wsX5_loseFile) B.pre
  have hown : s.vm.findClass RX5 = some m.cls := findClass_of_methodNamed B.named
  have hlocks := B.notSynchronized
  subst hsz
  have hD := hD0.self (sz := s.heap.size)
  generalize hAe : va_A (wHS E a0 v0) s.heap.size = A at hD hC ⊢
  have hA : ∀ q : Nat, s.heap.size ≤ q → A q := fun q h => by rw [← hAe]; exact Or.inr h
  have hS : va_S A s.heap s.heap [] := va_S.rf
  have w1 : (Cond.fieldLink RX5 37 "GreatChunks$House" "chunks" "LGreatChunks$Chunks;").before args s = true := hts _ (List.mem_of_getElem? (i := 1) rfl)
  have w2 : ∀ w ∈ wsX50, w ∈ wsX5_loseFile := in_pl 32 rfl
  have w3 : (Cond.fieldLink RX5 51 "GreatChunks$House" "files" "LGreatChunks$Files;").before args s = true := hts _ (List.mem_of_getElem? (i := 2) rfl)
  generalize hQe : MQ below (va_Qv (fun q => q = x) (fun q t => va_P E.1 vwCl ((fun q : HS => wHS E a0 q) q) t.heap ∧ va_D A ((fun q : HS => wHS E a0 q) q)) A) args s 0 0 A = Q
  refine st_W ha (Nat.le_of_ble_eq_true rfl) (fun ls hl => ?_)
  have hl : lv_has ls 3 [(0, .ref (a0 0)), (1, .int p1)] := hl
  unfold f_X5_loseFile at hf
  refine lv_iconst (v := 0) hx hb dX5_loseFile_0 rfl ?_
  refine lv_istore_n (lv' := [(2, .int (0 : Int32)), (0, .ref (a0 0)), (1, .int p1)]) hx hb dX5_loseFile_1 rfl hl (by decide) rfl (fun ls hl => ?_)
  obtain ⟨K1, hK1, hf⟩ := jn_some hf
  have J1 : ∀ (q1 : Int32 × HS) (H : Heap) (locs : List Loc) (hP : va_P E.1 vwCl (wHS E a0 q1.2) H) (hD : va_D A (wHS E a0 q1.2)) (hS : va_S A s.heap H locs) (ls : Array Slot) (hl : lv_has ls 3 [(0, .ref (a0 0)), (1, .int p1)]) (hf : K1 q1 = some x), W p l e (headSpec wsX5_loseFile rmX5_loseFile).room s m args below meth c H locs 0 0 Q (F0 m 30 ls []) := by
    intro q1 H locs hP hD hS ls hl hf
    have hf := (hK1 q1).trans hf
    refine lv_aload_n hx hb dX5_loseFile_30 rfl (lv_at hl 0 rfl) ?_
    refine va_get (D := E.1) (ci := 4) (v := .ref (a0 13)) (C := RX5) (T := TX5) (N := 9) hx hb hts w2 hown hC.1 hP 0 rfl rfl 8 (by decide) w3 (fun _ h9 => h9) rfl dX5_loseFile_31 ?_
    refine lv_iload_n hx hb dX5_loseFile_34 rfl (lv_at hl 1 rfl) ?_
    obtain ⟨r2, e2, hf⟩ := bd_some hf
    refine cq_v hP hD hS [13, 14, 15, 16, 17, 18] [0, 1, 2, 3, 4, 5, 6, 7, 8, 9, 10, 11, 12] [0, 1, 2, 3, 4, 5, 6, 7, 8, 9, 10, 11, 12, 13, 14, 15, 16, 17, 18] (va_free (wc := (wFL E (fun k => a0 (k + 13)) q1.2.2.2.2.2.2.2.2.2)) hD hS hA [13, 14, 15, 16, 17, 18] rfl) (va_runV (As := [.int p1]) (rest := []) ⟨hx, hb, hml, hown, hts⟩ (c_X3_end l E H.size (fun k => a0 (k + 13)) q1.2.2.2.2.2.2.2.2.2 p1 r2 e2) (cwV 1 hts gX5_loseFile_X3_end rfl rfl rfl hdV_X3_end ⟨Nat.le_of_ble_eq_true rfl, Nat.le_of_ble_eq_true rfl⟩) ⟨PW.blind, va_recv hC.1 hP (ci := 3) (q0 := 13) rfl rfl, PW.pre hC hS (hP.sub [13, 14, 15, 16, 17, 18] rfl) (hD.sub [13, 14, 15, 16, 17, 18] rfl rfl) (va_free hD hS hA [13, 14, 15, 16, 17, 18] rfl)⟩ rfl rfl hl.1 rfl (lv_room (Nat.le_of_ble_eq_true rfl)) dX5_loseFile_35 ⟨Nat.le_of_ble_eq_true rfl, Nat.le_of_ble_eq_true rfl⟩) rfl rfl rfl rfl (wHS E a0 (q1.2.1, q1.2.2.1, q1.2.2.2.1, q1.2.2.2.2.1, q1.2.2.2.2.2.1, q1.2.2.2.2.2.2.1, q1.2.2.2.2.2.2.2.1, q1.2.2.2.2.2.2.2.2.1, r2)) rfl rfl (fun H locs hP hD hS => ?_)
    cases Option.some.inj hf
    subst hQe
    exact ew_v (wf := (fun q : HS => wHS E a0 q)) hx hb hr hlocks hP hD hS dX5_loseFile_38
  have L1 : ∀ (n : Nat) (q1 : Int32 × HS) (H : Heap) (locs : List Loc) (hP : va_P E.1 vwCl (wHS E a0 q1.2) H) (hD : va_D A (wHS E a0 q1.2)) (hS : va_S A s.heap H locs) (ls : Array Slot) (hl : lv_has ls 3 [(0, .ref (a0 0)), (1, .int p1), (2, .int q1.1)]) (hf : lpF (bX5_loseFile_1 p1 K1) n q1 = some x), W p l e (headSpec wsX5_loseFile rmX5_loseFile).room s m args below meth c H locs 0 0 Q (F0 m 2 ls []) := by
    intro n
    induction n with
    | zero => intro q1 H locs hP hD hS ls hl hf; exact (lpF_zero hf).elim
    | succ n ih1 =>
      intro q1 H locs hP hD hS ls hl hf
      have hf := lpF_succ hf
      unfold bX5_loseFile_1 at hf
      refine lv_iload_n hx hb dX5_loseFile_2 rfl (lv_at hl 2 rfl) ?_
      refine lv_iconst (v := 4) hx hb dX5_loseFile_3 rfl ?_
      refine lv_icmp_ge (tgt := 30) hx hb dX5_loseFile_4 rfl (fun c3 => ?_) (fun c3 => ?_)
      · have hf := it_t hf c3
        exact J1 (q1.1, q1.2) H locs hP hD hS ls (lv_sub hl [0, 1] rfl) hf
      · have hf := it_f hf c3
        refine lv_aload_n hx hb dX5_loseFile_7 rfl (lv_at hl 0 rfl) ?_
        refine va_get (D := E.1) (ci := 4) (v := .ref (a0 4)) (C := RX5) (T := TX5) (N := 9) hx hb hts w2 hown hC.1 hP 0 rfl rfl 6 (by decide) w1 (fun _ h9 => h9) rfl dX5_loseFile_8 ?_
        refine lv_aload_n hx hb dX5_loseFile_11 rfl (lv_at hl 0 rfl) ?_
        refine va_get (D := E.1) (ci := 4) (v := .ref (a0 13)) (C := RX5) (T := TX5) (N := 9) hx hb hts w2 hown hC.1 hP 0 rfl rfl 8 (by decide) w3 (fun _ h9 => h9) rfl dX5_loseFile_12 ?_
        refine lv_iload_n hx hb dX5_loseFile_15 rfl (lv_at hl 1 rfl) ?_
        refine lv_iload_n hx hb dX5_loseFile_16 rfl (lv_at hl 2 rfl) ?_
        obtain ⟨r4, e4, hf⟩ := bd_some hf
        refine cr_i (va_runV (As := [.int p1, .int q1.1]) (rest := [.ref (a0 4)]) ⟨hx, hb, hml, hown, hts⟩ (c_X3_chunkOf l E (fun k => a0 (k + 13)) q1.2.2.2.2.2.2.2.2.2 p1 q1.1 r4 e4) (cwV 2 hts gX5_loseFile_X3_chunkOf rfl rfl rfl hdV_X3_chunkOf ⟨Nat.le_of_ble_eq_true rfl, Nat.le_of_ble_eq_true rfl⟩) ⟨PR.blind, va_recv hC.1 hP (ci := 3) (q0 := 13) rfl rfl, PR.pre hC hS (hP.sub [13, 14, 15, 16, 17, 18] rfl)⟩ rfl rfl hl.1 rfl (lv_room (Nat.le_of_ble_eq_true rfl)) dX5_loseFile_17 ⟨Nat.le_of_ble_eq_true rfl, Nat.le_of_ble_eq_true rfl⟩) ?_
        refine lv_iconst (v := (-1)) hx hb dX5_loseFile_20 rfl ?_
        obtain ⟨r5, e5, hf⟩ := bd_some hf
        refine cq_v hP hD hS [4, 5, 6, 7, 8] [0, 1, 2, 3, 9, 10, 11, 12, 13, 14, 15, 16, 17, 18] [0, 1, 2, 3, 14, 15, 16, 17, 18, 4, 5, 6, 7, 8, 9, 10, 11, 12, 13] (va_free (wc := (wCK E (fun k => a0 (k + 4)) q1.2.2.2.2.2.2.2.1)) hD hS hA [4, 5, 6, 7, 8] rfl) (va_runV (As := [.int r4, .int (-1 : Int32)]) (rest := []) ⟨hx, hb, hml, hown, hts⟩ (c_X1_share l E H.size (fun k => a0 (k + 4)) q1.2.2.2.2.2.2.2.1 r4 (-1 : Int32) r5 e5) (cwV 2 hts gX5_loseFile_X1_share rfl rfl rfl hdV_X1_share ⟨Nat.le_of_ble_eq_true rfl, Nat.le_of_ble_eq_true rfl⟩) ⟨PW.blind, va_recv hC.1 hP (ci := 1) (q0 := 4) rfl rfl, PW.pre hC hS (hP.sub [4, 5, 6, 7, 8] rfl) (hD.sub [4, 5, 6, 7, 8] rfl rfl) (va_free hD hS hA [4, 5, 6, 7, 8] rfl)⟩ rfl rfl hl.1 rfl (lv_room (Nat.le_of_ble_eq_true rfl)) dX5_loseFile_21 ⟨Nat.le_of_ble_eq_true rfl, Nat.le_of_ble_eq_true rfl⟩) rfl rfl rfl rfl (wHS E a0 (q1.2.1, q1.2.2.1, q1.2.2.2.1, q1.2.2.2.2.1, q1.2.2.2.2.2.1, q1.2.2.2.2.2.2.1, r5, q1.2.2.2.2.2.2.2.2.1, q1.2.2.2.2.2.2.2.2.2)) rfl rfl (fun H locs hP hD hS => ?_)
        refine lv_iinc (v := (q1.1 + 1)) (lv' := [(2, .int (q1.1 + 1)), (0, .ref (a0 0)), (1, .int p1)]) hx hb dX5_loseFile_24 hl (k := 2) rfl rfl (by decide) rfl (fun ls hl => ?_)
        refine lv_goto (tgt := 2) hx hb dX5_loseFile_27 rfl ?_
        exact ih1 ((q1.1 + 1), (q1.2.1, q1.2.2.1, q1.2.2.2.1, q1.2.2.2.2.1, q1.2.2.2.2.2.1, q1.2.2.2.2.2.2.1, r5, q1.2.2.2.2.2.2.2.2.1, q1.2.2.2.2.2.2.2.2.2)) H locs hP hD hS ls (lv_sub hl [1, 2, 0] rfl) hf
  exact L1 FU ((0 : Int32), v0) s.heap [] hP hD hS ls (lv_sub hl [1, 2, 0] rfl) hf

/-! X5_takeAway -/
abbrev rmX5_takeAway : Room := { frames := 4, cells := 0, slots := 0, locals := 87 }
theorem hdS_X5_takeAway : yX5_takeAway.cls ≠ "java/lang/invoke/MethodHandle" ∧ yX5_takeAway.cls ≠ "java/lang/invoke/VarHandle" ∧ (parseMethodDescriptor yX5_takeAway.desc).map (fun d => d.parameters.length) = some 1 := by decide +kernel
theorem hdV_X5_takeAway : yX5_takeAway.cls = RX5 ∧ yX5_takeAway.cls ≠ "java/lang/invoke/MethodHandle" ∧ yX5_takeAway.cls ≠ "java/lang/invoke/VarHandle" ∧ (parseMethodDescriptor yX5_takeAway.desc).map (fun d => d.parameters.length) = some 1 := ⟨rfl, hdS_X5_takeAway⟩
set_option maxHeartbeats 4000000 in
set_option maxRecDepth 100000 in
theorem c_X5_takeAway (l : Launch) (E : G0) (sz : Nat) (a0 : Nat → Nat) (v0 : HS) (p1 : Int32) (x : Int32 × HS) (hf : f_X5_takeAway v0 p1 = some x) : Met l yX5_takeAway wsX5_takeAway rmX5_takeAway (va_Pc [.ref (a0 0), .int p1] (PW E (wHS E a0 v0) sz)) (va_Qi (fun r q => r = x.1 ∧ q = x.2) (fun q t => va_P E.1 vwCl ((fun q : HS => wHS E a0 q) q) t.heap ∧ va_D (va_A (wHS E a0 v0) sz) ((fun q : HS => wHS E a0 q) q)) (va_A (wHS E a0 v0) sz)) 0 0 (va_A (wHS E a0 v0) sz) := by
  refine Met.ofW (cc := cX5_takeAway) (maxL := 3) (ret := some .int) (by decide) rfl ?_
  intro p e s m args below meth c s₁ B hml hv
  obtain ⟨ha, hsz, hP, hD0, hC⟩ := hv
  have hx := B.exec
  have hb := B.bytes
  have hr := B.returns
  have hts := atoms_spec (ws := wsX5_takeAway) B.pre
  have hown : s.vm.findClass RX5 = some m.cls := findClass_of_methodNamed B.named
  have hlocks := B.notSynchronized
  subst hsz
  have hD := hD0.self (sz := s.heap.size)
  generalize hAe : va_A (wHS E a0 v0) s.heap.size = A at hD hC ⊢
  have hA : ∀ q : Nat, s.heap.size ≤ q → A q := fun q h => by rw [← hAe]; exact Or.inr h
  have hS : va_S A s.heap s.heap [] := va_S.rf
  have w1 : (Cond.fieldLink RX5 24 "GreatChunks$House" "now" "I").before args s = true := hts _ (List.mem_of_getElem? (i := 1) rfl)
  have w2 : ∀ w ∈ wsX50, w ∈ wsX5_takeAway := in_pl 57 rfl
  have w3 : (Cond.fieldLink RX5 51 "GreatChunks$House" "files" "LGreatChunks$Files;").before args s = true := hts _ (List.mem_of_getElem? (i := 2) rfl)
  generalize hQe : MQ below (va_Qi (fun r q => r = x.1 ∧ q = x.2) (fun q t => va_P E.1 vwCl ((fun q : HS => wHS E a0 q) q) t.heap ∧ va_D A ((fun q : HS => wHS E a0 q) q)) A) args s 0 0 A = Q
  refine st_W ha (Nat.le_of_ble_eq_true rfl) (fun ls hl => ?_)
  have hl : lv_has ls 3 [(0, .ref (a0 0)), (1, .int p1)] := hl
  unfold f_X5_takeAway at hf
  refine lv_aload_n hx hb dX5_takeAway_0 rfl (lv_at hl 0 rfl) ?_
  refine va_get (D := E.1) (ci := 4) (v := .int v0.2.2.2.2.1) (C := RX5) (T := TX5) (N := 9) hx hb hts w2 hown hC.1 hP 0 rfl rfl 4 (by decide) w1 (fun _ h9 => h9) rfl dX5_takeAway_1 ?_
  refine lv_aload_n hx hb dX5_takeAway_4 rfl (lv_at hl 0 rfl) ?_
  refine lv_iload_n hx hb dX5_takeAway_5 rfl (lv_at hl 1 rfl) ?_
  obtain ⟨r1, e1, hf⟩ := bd_some hf
  refine cr_i (va_runV (As := [.int p1]) (rest := [.int v0.2.2.2.2.1]) ⟨hx, hb, hml, hown, hts⟩ (c_X5_graceOf l E a0 v0 p1 r1 e1) (cwV 1 hts gX5_takeAway_X5_graceOf rfl rfl rfl hdV_X5_graceOf ⟨Nat.le_of_ble_eq_true rfl, Nat.le_of_ble_eq_true rfl⟩) ⟨PR.blind, va_recv hC.1 hP (ci := 4) (q0 := 0) rfl rfl, PR.pre hC hS hP⟩ rfl rfl hl.1 rfl (lv_room (Nat.le_of_ble_eq_true rfl)) dX5_takeAway_6 ⟨Nat.le_of_ble_eq_true rfl, Nat.le_of_ble_eq_true rfl⟩) ?_
  refine lv_iadd hx hb dX5_takeAway_9 ?_
  refine lv_istore_n (lv' := [(2, .int (v0.2.2.2.2.1 + r1)), (0, .ref (a0 0)), (1, .int p1)]) hx hb dX5_takeAway_10 rfl hl (by decide) rfl (fun ls hl => ?_)
  refine lv_iload_n hx hb dX5_takeAway_11 rfl (lv_at hl 0 rfl) ?_
  refine lv_aload_n hx hb dX5_takeAway_12 rfl (lv_at hl 1 rfl) ?_
  refine va_get (D := E.1) (ci := 4) (v := .int v0.2.2.2.2.1) (C := RX5) (T := TX5) (N := 9) hx hb hts w2 hown hC.1 hP 0 rfl rfl 4 (by decide) w1 (fun _ h9 => h9) rfl dX5_takeAway_13 ?_
  refine lv_icmp_ne (tgt := 27) hx hb dX5_takeAway_16 rfl (fun c2 => ?_) (fun c2 => ?_)
  · have hf := it_f hf c2
    refine lv_aload_n hx hb dX5_takeAway_27 rfl (lv_at hl 1 rfl) ?_
    refine va_get (D := E.1) (ci := 4) (v := .ref (a0 13)) (C := RX5) (T := TX5) (N := 9) hx hb hts w2 hown hC.1 hP 0 rfl rfl 8 (by decide) w3 (fun _ h9 => h9) rfl dX5_takeAway_28 ?_
    refine lv_iload_n hx hb dX5_takeAway_31 rfl (lv_at hl 2 rfl) ?_
    refine lv_aload_n hx hb dX5_takeAway_32 rfl (lv_at hl 1 rfl) ?_
    refine va_get (D := E.1) (ci := 4) (v := .int v0.2.2.2.2.1) (C := RX5) (T := TX5) (N := 9) hx hb hts w2 hown hC.1 hP 0 rfl rfl 4 (by decide) w1 (fun _ h9 => h9) rfl dX5_takeAway_33 ?_
    obtain ⟨r3, e3, hf⟩ := bd_some hf
    refine cq_v hP hD hS [13, 14, 15, 16, 17, 18] [0, 1, 2, 3, 4, 5, 6, 7, 8, 9, 10, 11, 12] [0, 1, 2, 3, 4, 5, 6, 7, 8, 9, 10, 11, 12, 13, 14, 15, 16, 17, 18] (va_free (wc := (wFL E (fun k => a0 (k + 13)) v0.2.2.2.2.2.2.2.2)) hD hS hA [13, 14, 15, 16, 17, 18] rfl) (va_runV (As := [.int p1, .int v0.2.2.2.2.1]) (rest := []) ⟨hx, hb, hml, hown, hts⟩ (c_X3_hide l E s.heap.size (fun k => a0 (k + 13)) v0.2.2.2.2.2.2.2.2 p1 v0.2.2.2.2.1 r3 e3) (cwV 2 hts gX5_takeAway_X3_hide rfl rfl rfl hdV_X3_hide ⟨Nat.le_of_ble_eq_true rfl, Nat.le_of_ble_eq_true rfl⟩) ⟨PW.blind, va_recv hC.1 hP (ci := 3) (q0 := 13) rfl rfl, PW.pre hC hS (hP.sub [13, 14, 15, 16, 17, 18] rfl) (hD.sub [13, 14, 15, 16, 17, 18] rfl rfl) (va_free hD hS hA [13, 14, 15, 16, 17, 18] rfl)⟩ rfl rfl hl.1 rfl (lv_room (Nat.le_of_ble_eq_true rfl)) dX5_takeAway_36 ⟨Nat.le_of_ble_eq_true rfl, Nat.le_of_ble_eq_true rfl⟩) rfl rfl rfl rfl (wHS E a0 (v0.1, v0.2.1, v0.2.2.1, v0.2.2.2.1, v0.2.2.2.2.1, v0.2.2.2.2.2.1, v0.2.2.2.2.2.2.1, v0.2.2.2.2.2.2.2.1, r3)) rfl rfl (fun H locs hP hD hS => ?_)
    refine lv_iload_n hx hb dX5_takeAway_39 rfl (lv_at hl 0 rfl) ?_
    cases Option.some.inj hf
    subst hQe
    exact ew_i (wf := (fun q : HS => wHS E a0 q)) hx hb hr hlocks hP hD hS dX5_takeAway_40
  · have hf := it_t hf c2
    refine lv_aload_n hx hb dX5_takeAway_19 rfl (lv_at hl 1 rfl) ?_
    refine lv_iload_n hx hb dX5_takeAway_20 rfl (lv_at hl 2 rfl) ?_
    obtain ⟨r4, e4, hf⟩ := bd_some hf
    refine cq_v hP hD hS [0, 1, 2, 3, 4, 5, 6, 7, 8, 9, 10, 11, 12, 13, 14, 15, 16, 17, 18] [] [0, 1, 2, 3, 4, 5, 6, 7, 8, 9, 10, 11, 12, 13, 14, 15, 16, 17, 18] (va_free (wc := (wHS E a0 v0)) hD hS hA [0, 1, 2, 3, 4, 5, 6, 7, 8, 9, 10, 11, 12, 13, 14, 15, 16, 17, 18] rfl) (va_runV (As := [.int p1]) (rest := []) ⟨hx, hb, hml, hown, hts⟩ (c_X5_loseFile l E s.heap.size a0 v0 p1 r4 e4) (cwV 1 hts gX5_takeAway_X5_loseFile rfl rfl rfl hdV_X5_loseFile ⟨Nat.le_of_ble_eq_true rfl, Nat.le_of_ble_eq_true rfl⟩) ⟨PW.blind, va_recv hC.1 hP (ci := 4) (q0 := 0) rfl rfl, PW.pre hC hS hP hD (va_free hD hS hA [0, 1, 2, 3, 4, 5, 6, 7, 8, 9, 10, 11, 12, 13, 14, 15, 16, 17, 18] rfl)⟩ rfl rfl hl.1 rfl (lv_room (Nat.le_of_ble_eq_true rfl)) dX5_takeAway_21 ⟨Nat.le_of_ble_eq_true rfl, Nat.le_of_ble_eq_true rfl⟩) rfl rfl rfl rfl (wHS E a0 r4) rfl rfl (fun H locs hP hD hS => ?_)
    refine lv_goto (tgt := 39) hx hb dX5_takeAway_24 rfl ?_
    refine lv_iload_n hx hb dX5_takeAway_39 rfl (lv_at hl 0 rfl) ?_
    cases Option.some.inj hf
    subst hQe
    exact ew_i (wf := (fun q : HS => wHS E a0 q)) hx hb hr hlocks hP hD hS dX5_takeAway_40

/-! X5_comeOn -/
abbrev rmX5_comeOn : Room := { frames := 4, cells := 0, slots := 0, locals := 87 }
theorem hdS_X5_comeOn : yX5_comeOn.cls ≠ "java/lang/invoke/MethodHandle" ∧ yX5_comeOn.cls ≠ "java/lang/invoke/VarHandle" ∧ (parseMethodDescriptor yX5_comeOn.desc).map (fun d => d.parameters.length) = some 1 := by decide +kernel
theorem hdV_X5_comeOn : yX5_comeOn.cls = RX5 ∧ yX5_comeOn.cls ≠ "java/lang/invoke/MethodHandle" ∧ yX5_comeOn.cls ≠ "java/lang/invoke/VarHandle" ∧ (parseMethodDescriptor yX5_comeOn.desc).map (fun d => d.parameters.length) = some 1 := ⟨rfl, hdS_X5_comeOn⟩
set_option maxHeartbeats 4000000 in
set_option maxRecDepth 100000 in
theorem c_X5_comeOn (l : Launch) (E : G0) (sz : Nat) (a0 : Nat → Nat) (v0 : HS) (p1 : Int32) (x : Int32 × HS) (hf : f_X5_comeOn v0 p1 = some x) : Met l yX5_comeOn wsX5_comeOn rmX5_comeOn (va_Pc [.ref (a0 0), .int p1] (PW E (wHS E a0 v0) sz)) (va_Qi (fun r q => r = x.1 ∧ q = x.2) (fun q t => va_P E.1 vwCl ((fun q : HS => wHS E a0 q) q) t.heap ∧ va_D (va_A (wHS E a0 v0) sz) ((fun q : HS => wHS E a0 q) q)) (va_A (wHS E a0 v0) sz)) 0 0 (va_A (wHS E a0 v0) sz) := by
  refine Met.ofW (cc := cX5_comeOn) (maxL := 4) (ret := some .int) (by decide) rfl ?_
  intro p e s m args below meth c s₁ B hml hv
  obtain ⟨ha, hsz, hP, hD0, hC⟩ := hv
  have hx := B.exec
  have hb := B.bytes
  have hr := B.returns
  have hts := atoms_spec (ws := wsX5_comeOn) B.pre
  have hown : s.vm.findClass RX5 = some m.cls := findClass_of_methodNamed B.named
  have hlocks := B.notSynchronized
  subst hsz
  have hD := hD0.self (sz := s.heap.size)
  generalize hAe : va_A (wHS E a0 v0) s.heap.size = A at hD hC ⊢
  have hA : ∀ q : Nat, s.heap.size ≤ q → A q := fun q h => by rw [← hAe]; exact Or.inr h
  have hS : va_S A s.heap s.heap [] := va_S.rf
  have w1 : (Cond.fieldLink RX5 24 "GreatChunks$House" "now" "I").before args s = true := hts _ (List.mem_of_getElem? (i := 1) rfl)
  have w2 : ∀ w ∈ wsX50, w ∈ wsX5_comeOn := in_pl 57 rfl
  have w3 : (Cond.fieldLink RX5 51 "GreatChunks$House" "files" "LGreatChunks$Files;").before args s = true := hts _ (List.mem_of_getElem? (i := 2) rfl)
  have w4 : (Cond.fieldLink RX5 309 "GreatChunks$Files" "since" "[I").before args s = true := hts _ (List.mem_of_getElem? (i := 3) rfl)
  have w5 : ∀ w ∈ wsX30, w ∈ wsX5_comeOn := in_pl 66 rfl
  generalize hQe : MQ below (va_Qi (fun r q => r = x.1 ∧ q = x.2) (fun q t => va_P E.1 vwCl ((fun q : HS => wHS E a0 q) q) t.heap ∧ va_D A ((fun q : HS => wHS E a0 q) q)) A) args s 0 0 A = Q
  refine st_W ha (Nat.le_of_ble_eq_true rfl) (fun ls hl => ?_)
  have hl : lv_has ls 4 [(0, .ref (a0 0)), (1, .int p1)] := hl
  unfold f_X5_comeOn at hf
  refine lv_aload_n hx hb dX5_comeOn_0 rfl (lv_at hl 0 rfl) ?_
  refine lv_dup hx hb dX5_comeOn_1 rfl ?_
  refine va_get (D := E.1) (ci := 4) (v := .int v0.2.2.2.2.1) (C := RX5) (T := TX5) (N := 9) hx hb hts w2 hown hC.1 hP 0 rfl rfl 4 (by decide) w1 (fun _ h9 => h9) rfl dX5_comeOn_2 ?_
  refine lv_iload_n hx hb dX5_comeOn_5 rfl (lv_at hl 1 rfl) ?_
  refine lv_iadd hx hb dX5_comeOn_6 ?_
  refine va_put (D := E.1) (ci := 4) (v := .int (v0.2.2.2.2.1 + p1)) (ty := .int) (C := RX5) (T := TX5) (N := 9) hx hb hts w2 tyX5 tyX5_ok nmX5 hown hC.1 hP hD hS 0 rfl rfl 4 (by decide) w1 (fun _ h9 => h9) rfl (by decide +kernel) rfl rfl (Nat.le_of_ble_eq_true rfl) dX5_comeOn_7 (fun H locs hP hD hS => ?_)
  have hP : va_P E.1 vwCl (wHS E a0 (v0.1, v0.2.1, v0.2.2.1, v0.2.2.2.1, (v0.2.2.2.2.1 + p1), v0.2.2.2.2.2.1, v0.2.2.2.2.2.2.1, v0.2.2.2.2.2.2.2.1, v0.2.2.2.2.2.2.2.2)) H := hP
  have hD : va_D A (wHS E a0 (v0.1, v0.2.1, v0.2.2.1, v0.2.2.2.1, (v0.2.2.2.2.1 + p1), v0.2.2.2.2.2.1, v0.2.2.2.2.2.2.1, v0.2.2.2.2.2.2.2.1, v0.2.2.2.2.2.2.2.2)) := hD
  refine lv_iconst (v := 0) hx hb dX5_comeOn_10 rfl ?_
  refine lv_istore_n (lv' := [(2, .int (0 : Int32)), (0, .ref (a0 0)), (1, .int p1)]) hx hb dX5_comeOn_11 rfl hl (by decide) rfl (fun ls hl => ?_)
  refine lv_iconst (v := 0) hx hb dX5_comeOn_12 rfl ?_
  refine lv_istore_n (lv' := [(3, .int (0 : Int32)), (2, .int (0 : Int32)), (0, .ref (a0 0)), (1, .int p1)]) hx hb dX5_comeOn_13 rfl hl (by decide) rfl (fun ls hl => ?_)
  obtain ⟨K1, hK1, hf⟩ := jn_some hf
  have J1 : ∀ (q1 : Int32 × Int32 × HS) (H : Heap) (locs : List Loc) (hP : va_P E.1 vwCl (wHS E a0 q1.2.2) H) (hD : va_D A (wHS E a0 q1.2.2)) (hS : va_S A s.heap H locs) (ls : Array Slot) (hl : lv_has ls 4 [(2, .int q1.1)]) (hf : K1 q1 = some x), W p l e (headSpec wsX5_comeOn rmX5_comeOn).room s m args below meth c H locs 0 0 Q (F0 m 68 ls []) := by
    intro q1 H locs hP hD hS ls hl hf
    have hf := (hK1 q1).trans hf
    refine lv_iload_n hx hb dX5_comeOn_68 rfl (lv_at hl 0 rfl) ?_
    cases Option.some.inj hf
    subst hQe
    exact ew_i (wf := (fun q : HS => wHS E a0 q)) hx hb hr hlocks hP hD hS dX5_comeOn_69
  have L1 : ∀ (n : Nat) (q1 : Int32 × Int32 × HS) (H : Heap) (locs : List Loc) (hP : va_P E.1 vwCl (wHS E a0 q1.2.2) H) (hD : va_D A (wHS E a0 q1.2.2)) (hS : va_S A s.heap H locs) (ls : Array Slot) (hl : lv_has ls 4 [(0, .ref (a0 0)), (2, .int q1.1), (3, .int q1.2.1)]) (hf : lpF (bX5_comeOn_1 K1) n q1 = some x), W p l e (headSpec wsX5_comeOn rmX5_comeOn).room s m args below meth c H locs 0 0 Q (F0 m 14 ls []) := by
    intro n
    induction n with
    | zero => intro q1 H locs hP hD hS ls hl hf; exact (lpF_zero hf).elim
    | succ n ih1 =>
      intro q1 H locs hP hD hS ls hl hf
      have hf := lpF_succ hf
      unfold bX5_comeOn_1 at hf
      refine lv_iload_n hx hb dX5_comeOn_14 rfl (lv_at hl 2 rfl) ?_
      refine lv_bipush (v := 6) hx hb dX5_comeOn_15 rfl ?_
      refine lv_icmp_ge (tgt := 68) hx hb dX5_comeOn_17 rfl (fun c2 => ?_) (fun c2 => ?_)
      · have hf := it_t hf c2
        exact J1 (q1.1, q1.2.1, q1.2.2) H locs hP hD hS ls (lv_sub hl [1] rfl) hf
      · have hf := it_f hf c2
        refine lv_aload_n hx hb dX5_comeOn_20 rfl (lv_at hl 0 rfl) ?_
        refine va_get (D := E.1) (ci := 4) (v := .ref (a0 13)) (C := RX5) (T := TX5) (N := 9) hx hb hts w2 hown hC.1 hP 0 rfl rfl 8 (by decide) w3 (fun _ h9 => h9) rfl dX5_comeOn_21 ?_
        refine lv_iload_n hx hb dX5_comeOn_24 rfl (lv_at hl 2 rfl) ?_
        refine lv_iconst (v := 2) hx hb dX5_comeOn_25 rfl ?_
        obtain ⟨r3, e3, hf⟩ := bd_some hf
        refine cr_i (va_runV (As := [.int q1.2.1, .int (2 : Int32)]) (rest := []) ⟨hx, hb, hml, hown, hts⟩ (c_X3_is l E (fun k => a0 (k + 13)) q1.2.2.2.2.2.2.2.2.2.2 q1.2.1 (2 : Int32) r3 e3) (cwV 2 hts gX5_comeOn_X3_is rfl rfl rfl hdV_X3_is ⟨Nat.le_of_ble_eq_true rfl, Nat.le_of_ble_eq_true rfl⟩) ⟨PR.blind, va_recv hC.1 hP (ci := 3) (q0 := 13) rfl rfl, PR.pre hC hS (hP.sub [13, 14, 15, 16, 17, 18] rfl)⟩ rfl rfl hl.1 rfl (lv_room (Nat.le_of_ble_eq_true rfl)) dX5_comeOn_26 ⟨Nat.le_of_ble_eq_true rfl, Nat.le_of_ble_eq_true rfl⟩) ?_
        refine lv_if_eq (tgt := 62) hx hb dX5_comeOn_29 rfl (fun c4 => ?_) (fun c4 => ?_)
        · have hf := it_t hf c4
          refine lv_iinc (v := (q1.2.1 + 1)) (lv' := [(3, .int (q1.2.1 + 1)), (0, .ref (a0 0)), (2, .int q1.1)]) hx hb dX5_comeOn_62 hl (k := 2) rfl rfl (by decide) rfl (fun ls hl => ?_)
          refine lv_goto (tgt := 14) hx hb dX5_comeOn_65 rfl ?_
          exact ih1 (q1.1, (q1.2.1 + 1), q1.2.2) H locs hP hD hS ls (lv_sub hl [1, 2, 0] rfl) hf
        · have hf := it_f hf c4
          refine lv_aload_n hx hb dX5_comeOn_32 rfl (lv_at hl 0 rfl) ?_
          refine va_get (D := E.1) (ci := 4) (v := .int q1.2.2.2.2.2.2.1) (C := RX5) (T := TX5) (N := 9) hx hb hts w2 hown hC.1 hP 0 rfl rfl 4 (by decide) w1 (fun _ h9 => h9) rfl dX5_comeOn_33 ?_
          refine lv_aload_n hx hb dX5_comeOn_36 rfl (lv_at hl 0 rfl) ?_
          refine va_get (D := E.1) (ci := 4) (v := .ref (a0 13)) (C := RX5) (T := TX5) (N := 9) hx hb hts w2 hown hC.1 hP 0 rfl rfl 8 (by decide) w3 (fun _ h9 => h9) rfl dX5_comeOn_37 ?_
          refine va_get (D := E.1) (ci := 3) (v := .ref (a0 16)) (C := RX3) (T := TX3) (N := 5) hx hb hts w5 hown hC.1 hP 13 rfl rfl 2 (by decide) w4 (fun _ h9 => h9) rfl dX5_comeOn_40 ?_
          refine lv_iload_n hx hb dX5_comeOn_43 rfl (lv_at hl 2 rfl) ?_
          obtain ⟨h5, hf⟩ := gdI_some hf
          refine va_iald hx hb hC.1 hP 16 0 rfl rfl h5 dX5_comeOn_44 ?_
          refine lv_isub hx hb dX5_comeOn_45 ?_
          refine lv_aload_n hx hb dX5_comeOn_46 rfl (lv_at hl 0 rfl) ?_
          refine lv_iload_n hx hb dX5_comeOn_47 rfl (lv_at hl 2 rfl) ?_
          obtain ⟨r6, e6, hf⟩ := bd_some hf
          refine cr_i (va_runV (As := [.int q1.2.1]) (rest := [.int (q1.2.2.2.2.2.2.1 - (q1.2.2.2.2.2.2.2.2.2.2.2.2.1 q1.2.1.toNatClampNeg))]) ⟨hx, hb, hml, hown, hts⟩ (c_X5_graceOf l E a0 q1.2.2 q1.2.1 r6 e6) (cwV 1 hts gX5_comeOn_X5_graceOf rfl rfl rfl hdV_X5_graceOf ⟨Nat.le_of_ble_eq_true rfl, Nat.le_of_ble_eq_true rfl⟩) ⟨PR.blind, va_recv hC.1 hP (ci := 4) (q0 := 0) rfl rfl, PR.pre hC hS hP⟩ rfl rfl hl.1 rfl (lv_room (Nat.le_of_ble_eq_true rfl)) dX5_comeOn_48 ⟨Nat.le_of_ble_eq_true rfl, Nat.le_of_ble_eq_true rfl⟩) ?_
          refine lv_icmp_lt (tgt := 62) hx hb dX5_comeOn_51 rfl (fun c7 => ?_) (fun c7 => ?_)
          · have hf := it_t hf c7
            refine lv_iinc (v := (q1.2.1 + 1)) (lv' := [(3, .int (q1.2.1 + 1)), (0, .ref (a0 0)), (2, .int q1.1)]) hx hb dX5_comeOn_62 hl (k := 2) rfl rfl (by decide) rfl (fun ls hl => ?_)
            refine lv_goto (tgt := 14) hx hb dX5_comeOn_65 rfl ?_
            exact ih1 (q1.1, (q1.2.1 + 1), q1.2.2) H locs hP hD hS ls (lv_sub hl [1, 2, 0] rfl) hf
          · have hf := it_f hf c7
            refine lv_aload_n hx hb dX5_comeOn_54 rfl (lv_at hl 0 rfl) ?_
            refine lv_iload_n hx hb dX5_comeOn_55 rfl (lv_at hl 2 rfl) ?_
            obtain ⟨r8, e8, hf⟩ := bd_some hf
            refine cq_v hP hD hS [0, 1, 2, 3, 4, 5, 6, 7, 8, 9, 10, 11, 12, 13, 14, 15, 16, 17, 18] [] [0, 1, 2, 3, 4, 5, 6, 7, 8, 9, 10, 11, 12, 13, 14, 15, 16, 17, 18] (va_free (wc := (wHS E a0 q1.2.2)) hD hS hA [0, 1, 2, 3, 4, 5, 6, 7, 8, 9, 10, 11, 12, 13, 14, 15, 16, 17, 18] rfl) (va_runV (As := [.int q1.2.1]) (rest := []) ⟨hx, hb, hml, hown, hts⟩ (c_X5_loseFile l E H.size a0 q1.2.2 q1.2.1 r8 e8) (cwV 1 hts gX5_comeOn_X5_loseFile rfl rfl rfl hdV_X5_loseFile ⟨Nat.le_of_ble_eq_true rfl, Nat.le_of_ble_eq_true rfl⟩) ⟨PW.blind, va_recv hC.1 hP (ci := 4) (q0 := 0) rfl rfl, PW.pre hC hS hP hD (va_free hD hS hA [0, 1, 2, 3, 4, 5, 6, 7, 8, 9, 10, 11, 12, 13, 14, 15, 16, 17, 18] rfl)⟩ rfl rfl hl.1 rfl (lv_room (Nat.le_of_ble_eq_true rfl)) dX5_comeOn_56 ⟨Nat.le_of_ble_eq_true rfl, Nat.le_of_ble_eq_true rfl⟩) rfl rfl rfl rfl (wHS E a0 r8) rfl rfl (fun H locs hP hD hS => ?_)
            refine lv_iinc (v := (q1.1 + 1)) (lv' := [(2, .int (q1.1 + 1)), (0, .ref (a0 0)), (3, .int q1.2.1)]) hx hb dX5_comeOn_59 hl (k := 1) rfl rfl (by decide) rfl (fun ls hl => ?_)
            refine lv_iinc (v := (q1.2.1 + 1)) (lv' := [(3, .int (q1.2.1 + 1)), (2, .int (q1.1 + 1)), (0, .ref (a0 0))]) hx hb dX5_comeOn_62 hl (k := 2) rfl rfl (by decide) rfl (fun ls hl => ?_)
            refine lv_goto (tgt := 14) hx hb dX5_comeOn_65 rfl ?_
            exact ih1 ((q1.1 + 1), (q1.2.1 + 1), r8) H locs hP hD hS ls (lv_sub hl [2, 1, 0] rfl) hf
  exact L1 FU ((0 : Int32), (0 : Int32), (v0.1, v0.2.1, v0.2.2.1, v0.2.2.2.1, (v0.2.2.2.2.1 + p1), v0.2.2.2.2.2.1, v0.2.2.2.2.2.2.1, v0.2.2.2.2.2.2.2.1, v0.2.2.2.2.2.2.2.2)) H locs hP hD hS ls (lv_sub hl [2, 1, 0] rfl) hf

/-! X5_throwAway -/
abbrev rmX5_throwAway : Room := { frames := 4, cells := 0, slots := 0, locals := 89 }
theorem hdS_X5_throwAway : yX5_throwAway.cls ≠ "java/lang/invoke/MethodHandle" ∧ yX5_throwAway.cls ≠ "java/lang/invoke/VarHandle" ∧ (parseMethodDescriptor yX5_throwAway.desc).map (fun d => d.parameters.length) = some 1 := by decide +kernel
theorem hdV_X5_throwAway : yX5_throwAway.cls = RX5 ∧ yX5_throwAway.cls ≠ "java/lang/invoke/MethodHandle" ∧ yX5_throwAway.cls ≠ "java/lang/invoke/VarHandle" ∧ (parseMethodDescriptor yX5_throwAway.desc).map (fun d => d.parameters.length) = some 1 := ⟨rfl, hdS_X5_throwAway⟩
set_option maxHeartbeats 4000000 in
set_option maxRecDepth 100000 in
theorem c_X5_throwAway (l : Launch) (E : G0) (sz : Nat) (a0 : Nat → Nat) (v0 : HS) (p1 : Int32) (x : Int32 × HS) (hf : f_X5_throwAway v0 p1 = some x) : Met l yX5_throwAway wsX5_throwAway rmX5_throwAway (va_Pc [.ref (a0 0), .int p1] (PW E (wHS E a0 v0) sz)) (va_Qi (fun r q => r = x.1 ∧ q = x.2) (fun q t => va_P E.1 vwCl ((fun q : HS => wHS E a0 q) q) t.heap ∧ va_D (va_A (wHS E a0 v0) sz) ((fun q : HS => wHS E a0 q) q)) (va_A (wHS E a0 v0) sz)) 0 0 (va_A (wHS E a0 v0) sz) := by
  refine Met.ofW (cc := cX5_throwAway) (maxL := 4) (ret := some .int) (by decide) rfl ?_
  intro p e s m args below meth c s₁ B hml hv
  obtain ⟨ha, hsz, hP, hD0, hC⟩ := hv
  have hx := B.exec
  have hb := B.bytes
  have hr := B.returns
  have hts := atoms_spec (ws := wsX5_throwAway) B.pre
  have hown : s.vm.findClass RX5 = some m.cls := findClass_of_methodNamed B.named
  have hlocks := B.notSynchronized
  subst hsz
  have hD := hD0.self (sz := s.heap.size)
  generalize hAe : va_A (wHS E a0 v0) s.heap.size = A at hD hC ⊢
  have hA : ∀ q : Nat, s.heap.size ≤ q → A q := fun q h => by rw [← hAe]; exact Or.inr h
  have hS : va_S A s.heap s.heap [] := va_S.rf
  have w1 : (Cond.fieldLink RX5 37 "GreatChunks$House" "chunks" "LGreatChunks$Chunks;").before args s = true := hts _ (List.mem_of_getElem? (i := 1) rfl)
  have w2 : ∀ w ∈ wsX50, w ∈ wsX5_throwAway := in_pl 48 rfl
  have w3 : (Cond.fieldLink RX5 59 "GreatChunks$Chunks" "made" "I").before args s = true := hts _ (List.mem_of_getElem? (i := 2) rfl)
  have w4 : ∀ w ∈ wsX10, w ∈ wsX5_throwAway := in_pl 57 rfl
  have w5 : (Cond.fieldLink RX5 44 "GreatChunks$House" "copies" "LGreatChunks$Copies;").before args s = true := hts _ (List.mem_of_getElem? (i := 3) rfl)
  generalize hQe : MQ below (va_Qi (fun r q => r = x.1 ∧ q = x.2) (fun q t => va_P E.1 vwCl ((fun q : HS => wHS E a0 q) q) t.heap ∧ va_D A ((fun q : HS => wHS E a0 q) q)) A) args s 0 0 A = Q
  refine st_W ha (Nat.le_of_ble_eq_true rfl) (fun ls hl => ?_)
  have hl : lv_has ls 4 [(0, .ref (a0 0)), (1, .int p1)] := hl
  unfold f_X5_throwAway at hf
  refine lv_iconst (v := 0) hx hb dX5_throwAway_0 rfl ?_
  refine lv_istore_n (lv' := [(2, .int (0 : Int32)), (0, .ref (a0 0)), (1, .int p1)]) hx hb dX5_throwAway_1 rfl hl (by decide) rfl (fun ls hl => ?_)
  refine lv_iconst (v := 0) hx hb dX5_throwAway_2 rfl ?_
  refine lv_istore_n (lv' := [(3, .int (0 : Int32)), (2, .int (0 : Int32)), (0, .ref (a0 0)), (1, .int p1)]) hx hb dX5_throwAway_3 rfl hl (by decide) rfl (fun ls hl => ?_)
  obtain ⟨K1, hK1, hf⟩ := jn_some hf
  have J1 : ∀ (q1 : Int32 × Int32 × HS) (H : Heap) (locs : List Loc) (hP : va_P E.1 vwCl (wHS E a0 q1.2.2) H) (hD : va_D A (wHS E a0 q1.2.2)) (hS : va_S A s.heap H locs) (ls : Array Slot) (hl : lv_has ls 4 [(2, .int q1.1)]) (hf : K1 q1 = some x), W p l e (headSpec wsX5_throwAway rmX5_throwAway).room s m args below meth c H locs 0 0 Q (F0 m 65 ls []) := by
    intro q1 H locs hP hD hS ls hl hf
    have hf := (hK1 q1).trans hf
    refine lv_iload_n hx hb dX5_throwAway_65 rfl (lv_at hl 0 rfl) ?_
    cases Option.some.inj hf
    subst hQe
    exact ew_i (wf := (fun q : HS => wHS E a0 q)) hx hb hr hlocks hP hD hS dX5_throwAway_66
  have L1 : ∀ (n : Nat) (q1 : Int32 × Int32 × HS) (H : Heap) (locs : List Loc) (hP : va_P E.1 vwCl (wHS E a0 q1.2.2) H) (hD : va_D A (wHS E a0 q1.2.2)) (hS : va_S A s.heap H locs) (ls : Array Slot) (hl : lv_has ls 4 [(0, .ref (a0 0)), (1, .int p1), (2, .int q1.1), (3, .int q1.2.1)]) (hf : lpF (bX5_throwAway_1 p1 K1) n q1 = some x), W p l e (headSpec wsX5_throwAway rmX5_throwAway).room s m args below meth c H locs 0 0 Q (F0 m 4 ls []) := by
    intro n
    induction n with
    | zero => intro q1 H locs hP hD hS ls hl hf; exact (lpF_zero hf).elim
    | succ n ih1 =>
      intro q1 H locs hP hD hS ls hl hf
      have hf := lpF_succ hf
      unfold bX5_throwAway_1 at hf
      refine lv_iload_n hx hb dX5_throwAway_4 rfl (lv_at hl 3 rfl) ?_
      refine lv_aload_n hx hb dX5_throwAway_5 rfl (lv_at hl 0 rfl) ?_
      refine va_get (D := E.1) (ci := 4) (v := .ref (a0 4)) (C := RX5) (T := TX5) (N := 9) hx hb hts w2 hown hC.1 hP 0 rfl rfl 6 (by decide) w1 (fun _ h9 => h9) rfl dX5_throwAway_6 ?_
      refine va_get (D := E.1) (ci := 1) (v := .int q1.2.2.2.2.2.2.2.2.1.1) (C := RX1) (T := TX1) (N := 5) hx hb hts w4 hown hC.1 hP 4 rfl rfl 0 (by decide) w3 (fun _ h9 => h9) rfl dX5_throwAway_9 ?_
      refine lv_icmp_ge (tgt := 65) hx hb dX5_throwAway_12 rfl (fun c2 => ?_) (fun c2 => ?_)
      · have hf := it_t hf c2
        exact J1 (q1.1, q1.2.1, q1.2.2) H locs hP hD hS ls (lv_sub hl [2] rfl) hf
      · have hf := it_f hf c2
        refine lv_aload_n hx hb dX5_throwAway_15 rfl (lv_at hl 0 rfl) ?_
        refine lv_iload_n hx hb dX5_throwAway_16 rfl (lv_at hl 1 rfl) ?_
        refine lv_iload_n hx hb dX5_throwAway_17 rfl (lv_at hl 3 rfl) ?_
        obtain ⟨r3, e3, hf⟩ := bd_some hf
        refine cr_i (va_runV (As := [.int p1, .int q1.2.1]) (rest := []) ⟨hx, hb, hml, hown, hts⟩ (c_X5_isStale l E a0 q1.2.2 p1 q1.2.1 r3 e3) (cwV 2 hts gX5_throwAway_X5_isStale rfl rfl rfl hdV_X5_isStale ⟨Nat.le_of_ble_eq_true rfl, Nat.le_of_ble_eq_true rfl⟩) ⟨PR.blind, va_recv hC.1 hP (ci := 4) (q0 := 0) rfl rfl, PR.pre hC hS hP⟩ rfl rfl hl.1 rfl (lv_room (Nat.le_of_ble_eq_true rfl)) dX5_throwAway_18 ⟨Nat.le_of_ble_eq_true rfl, Nat.le_of_ble_eq_true rfl⟩) ?_
        refine lv_if_ne (tgt := 47) hx hb dX5_throwAway_21 rfl (fun c4 => ?_) (fun c4 => ?_)
        · have hf := it_f hf c4
          refine lv_aload_n hx hb dX5_throwAway_47 rfl (lv_at hl 0 rfl) ?_
          refine va_get (D := E.1) (ci := 4) (v := .ref (a0 9)) (C := RX5) (T := TX5) (N := 9) hx hb hts w2 hown hC.1 hP 0 rfl rfl 7 (by decide) w5 (fun _ h9 => h9) rfl dX5_throwAway_48 ?_
          refine lv_iload_n hx hb dX5_throwAway_51 rfl (lv_at hl 1 rfl) ?_
          refine lv_iload_n hx hb dX5_throwAway_52 rfl (lv_at hl 3 rfl) ?_
          obtain ⟨r5, e5, hf⟩ := bd_some hf
          refine cq_v hP hD hS [9, 10, 11, 12] [0, 1, 2, 3, 4, 5, 6, 7, 8, 13, 14, 15, 16, 17, 18] [0, 1, 2, 3, 4, 5, 6, 7, 8, 15, 16, 17, 18, 9, 10, 11, 12, 13, 14] (va_free (wc := (wCP E (fun k => a0 (k + 9)) q1.2.2.2.2.2.2.2.2.2.1)) hD hS hA [9, 10, 11, 12] rfl) (va_runV (As := [.int p1, .int q1.2.1]) (rest := []) ⟨hx, hb, hml, hown, hts⟩ (c_X2_drop l E H.size (fun k => a0 (k + 9)) q1.2.2.2.2.2.2.2.2.2.1 p1 q1.2.1 r5 e5) (cwV 2 hts gX5_throwAway_X2_drop rfl rfl rfl hdV_X2_drop ⟨Nat.le_of_ble_eq_true rfl, Nat.le_of_ble_eq_true rfl⟩) ⟨PW.blind, va_recv hC.1 hP (ci := 2) (q0 := 9) rfl rfl, PW.pre hC hS (hP.sub [9, 10, 11, 12] rfl) (hD.sub [9, 10, 11, 12] rfl rfl) (va_free hD hS hA [9, 10, 11, 12] rfl)⟩ rfl rfl hl.1 rfl (lv_room (Nat.le_of_ble_eq_true rfl)) dX5_throwAway_53 ⟨Nat.le_of_ble_eq_true rfl, Nat.le_of_ble_eq_true rfl⟩) rfl rfl rfl rfl (wHS E a0 (q1.2.2.1, q1.2.2.2.1, q1.2.2.2.2.1, q1.2.2.2.2.2.1, q1.2.2.2.2.2.2.1, q1.2.2.2.2.2.2.2.1, q1.2.2.2.2.2.2.2.2.1, r5, q1.2.2.2.2.2.2.2.2.2.2)) rfl rfl (fun H locs hP hD hS => ?_)
          refine lv_iinc (v := (q1.1 + 1)) (lv' := [(2, .int (q1.1 + 1)), (0, .ref (a0 0)), (1, .int p1), (3, .int q1.2.1)]) hx hb dX5_throwAway_56 hl (k := 2) rfl rfl (by decide) rfl (fun ls hl => ?_)
          refine lv_iinc (v := (q1.2.1 + 1)) (lv' := [(3, .int (q1.2.1 + 1)), (2, .int (q1.1 + 1)), (0, .ref (a0 0)), (1, .int p1)]) hx hb dX5_throwAway_59 hl (k := 3) rfl rfl (by decide) rfl (fun ls hl => ?_)
          refine lv_goto (tgt := 4) hx hb dX5_throwAway_62 rfl ?_
          exact ih1 ((q1.1 + 1), (q1.2.1 + 1), (q1.2.2.1, q1.2.2.2.1, q1.2.2.2.2.1, q1.2.2.2.2.2.1, q1.2.2.2.2.2.2.1, q1.2.2.2.2.2.2.2.1, q1.2.2.2.2.2.2.2.2.1, r5, q1.2.2.2.2.2.2.2.2.2.2)) H locs hP hD hS ls (lv_sub hl [2, 3, 1, 0] rfl) hf
        · have hf := it_t hf c4
          refine lv_aload_n hx hb dX5_throwAway_24 rfl (lv_at hl 0 rfl) ?_
          refine va_get (D := E.1) (ci := 4) (v := .ref (a0 9)) (C := RX5) (T := TX5) (N := 9) hx hb hts w2 hown hC.1 hP 0 rfl rfl 7 (by decide) w5 (fun _ h9 => h9) rfl dX5_throwAway_25 ?_
          refine lv_iload_n hx hb dX5_throwAway_28 rfl (lv_at hl 1 rfl) ?_
          refine lv_iload_n hx hb dX5_throwAway_29 rfl (lv_at hl 3 rfl) ?_
          obtain ⟨r6, e6, hf⟩ := bd_some hf
          refine cr_i (va_runV (As := [.int p1, .int q1.2.1]) (rest := []) ⟨hx, hb, hml, hown, hts⟩ (c_X2_lies l E (fun k => a0 (k + 9)) q1.2.2.2.2.2.2.2.2.2.1 p1 q1.2.1 r6 e6) (cwV 2 hts gX5_throwAway_X2_lies rfl rfl rfl hdV_X2_lies ⟨Nat.le_of_ble_eq_true rfl, Nat.le_of_ble_eq_true rfl⟩) ⟨PR.blind, va_recv hC.1 hP (ci := 2) (q0 := 9) rfl rfl, PR.pre hC hS (hP.sub [9, 10, 11, 12] rfl)⟩ rfl rfl hl.1 rfl (lv_room (Nat.le_of_ble_eq_true rfl)) dX5_throwAway_30 ⟨Nat.le_of_ble_eq_true rfl, Nat.le_of_ble_eq_true rfl⟩) ?_
          refine lv_if_eq (tgt := 59) hx hb dX5_throwAway_33 rfl (fun c7 => ?_) (fun c7 => ?_)
          · have hf := it_t hf c7
            refine lv_iinc (v := (q1.2.1 + 1)) (lv' := [(3, .int (q1.2.1 + 1)), (0, .ref (a0 0)), (1, .int p1), (2, .int q1.1)]) hx hb dX5_throwAway_59 hl (k := 3) rfl rfl (by decide) rfl (fun ls hl => ?_)
            refine lv_goto (tgt := 4) hx hb dX5_throwAway_62 rfl ?_
            exact ih1 (q1.1, (q1.2.1 + 1), q1.2.2) H locs hP hD hS ls (lv_sub hl [1, 2, 3, 0] rfl) hf
          · have hf := it_f hf c7
            refine lv_aload_n hx hb dX5_throwAway_36 rfl (lv_at hl 0 rfl) ?_
            refine va_get (D := E.1) (ci := 4) (v := .ref (a0 4)) (C := RX5) (T := TX5) (N := 9) hx hb hts w2 hown hC.1 hP 0 rfl rfl 6 (by decide) w1 (fun _ h9 => h9) rfl dX5_throwAway_37 ?_
            refine lv_iload_n hx hb dX5_throwAway_40 rfl (lv_at hl 3 rfl) ?_
            obtain ⟨r8, e8, hf⟩ := bd_some hf
            refine cr_i (va_runV (As := [.int q1.2.1]) (rest := []) ⟨hx, hb, hml, hown, hts⟩ (c_X1_isForgotten l E (fun k => a0 (k + 4)) q1.2.2.2.2.2.2.2.2.1 q1.2.1 r8 e8) (cwV 1 hts gX5_throwAway_X1_isForgotten rfl rfl rfl hdV_X1_isForgotten ⟨Nat.le_of_ble_eq_true rfl, Nat.le_of_ble_eq_true rfl⟩) ⟨PR.blind, va_recv hC.1 hP (ci := 1) (q0 := 4) rfl rfl, PR.pre hC hS (hP.sub [4, 5, 6, 7, 8] rfl)⟩ rfl rfl hl.1 rfl (lv_room (Nat.le_of_ble_eq_true rfl)) dX5_throwAway_41 ⟨Nat.le_of_ble_eq_true rfl, Nat.le_of_ble_eq_true rfl⟩) ?_
            refine lv_if_eq (tgt := 59) hx hb dX5_throwAway_44 rfl (fun c9 => ?_) (fun c9 => ?_)
            · have hf := it_t hf c9
              refine lv_iinc (v := (q1.2.1 + 1)) (lv' := [(3, .int (q1.2.1 + 1)), (0, .ref (a0 0)), (1, .int p1), (2, .int q1.1)]) hx hb dX5_throwAway_59 hl (k := 3) rfl rfl (by decide) rfl (fun ls hl => ?_)
              refine lv_goto (tgt := 4) hx hb dX5_throwAway_62 rfl ?_
              exact ih1 (q1.1, (q1.2.1 + 1), q1.2.2) H locs hP hD hS ls (lv_sub hl [1, 2, 3, 0] rfl) hf
            · have hf := it_f hf c9
              refine lv_aload_n hx hb dX5_throwAway_47 rfl (lv_at hl 0 rfl) ?_
              refine va_get (D := E.1) (ci := 4) (v := .ref (a0 9)) (C := RX5) (T := TX5) (N := 9) hx hb hts w2 hown hC.1 hP 0 rfl rfl 7 (by decide) w5 (fun _ h9 => h9) rfl dX5_throwAway_48 ?_
              refine lv_iload_n hx hb dX5_throwAway_51 rfl (lv_at hl 1 rfl) ?_
              refine lv_iload_n hx hb dX5_throwAway_52 rfl (lv_at hl 3 rfl) ?_
              obtain ⟨r10, e10, hf⟩ := bd_some hf
              refine cq_v hP hD hS [9, 10, 11, 12] [0, 1, 2, 3, 4, 5, 6, 7, 8, 13, 14, 15, 16, 17, 18] [0, 1, 2, 3, 4, 5, 6, 7, 8, 15, 16, 17, 18, 9, 10, 11, 12, 13, 14] (va_free (wc := (wCP E (fun k => a0 (k + 9)) q1.2.2.2.2.2.2.2.2.2.1)) hD hS hA [9, 10, 11, 12] rfl) (va_runV (As := [.int p1, .int q1.2.1]) (rest := []) ⟨hx, hb, hml, hown, hts⟩ (c_X2_drop l E H.size (fun k => a0 (k + 9)) q1.2.2.2.2.2.2.2.2.2.1 p1 q1.2.1 r10 e10) (cwV 2 hts gX5_throwAway_X2_drop rfl rfl rfl hdV_X2_drop ⟨Nat.le_of_ble_eq_true rfl, Nat.le_of_ble_eq_true rfl⟩) ⟨PW.blind, va_recv hC.1 hP (ci := 2) (q0 := 9) rfl rfl, PW.pre hC hS (hP.sub [9, 10, 11, 12] rfl) (hD.sub [9, 10, 11, 12] rfl rfl) (va_free hD hS hA [9, 10, 11, 12] rfl)⟩ rfl rfl hl.1 rfl (lv_room (Nat.le_of_ble_eq_true rfl)) dX5_throwAway_53 ⟨Nat.le_of_ble_eq_true rfl, Nat.le_of_ble_eq_true rfl⟩) rfl rfl rfl rfl (wHS E a0 (q1.2.2.1, q1.2.2.2.1, q1.2.2.2.2.1, q1.2.2.2.2.2.1, q1.2.2.2.2.2.2.1, q1.2.2.2.2.2.2.2.1, q1.2.2.2.2.2.2.2.2.1, r10, q1.2.2.2.2.2.2.2.2.2.2)) rfl rfl (fun H locs hP hD hS => ?_)
              refine lv_iinc (v := (q1.1 + 1)) (lv' := [(2, .int (q1.1 + 1)), (0, .ref (a0 0)), (1, .int p1), (3, .int q1.2.1)]) hx hb dX5_throwAway_56 hl (k := 2) rfl rfl (by decide) rfl (fun ls hl => ?_)
              refine lv_iinc (v := (q1.2.1 + 1)) (lv' := [(3, .int (q1.2.1 + 1)), (2, .int (q1.1 + 1)), (0, .ref (a0 0)), (1, .int p1)]) hx hb dX5_throwAway_59 hl (k := 3) rfl rfl (by decide) rfl (fun ls hl => ?_)
              refine lv_goto (tgt := 4) hx hb dX5_throwAway_62 rfl ?_
              exact ih1 ((q1.1 + 1), (q1.2.1 + 1), (q1.2.2.1, q1.2.2.2.1, q1.2.2.2.2.1, q1.2.2.2.2.2.1, q1.2.2.2.2.2.2.1, q1.2.2.2.2.2.2.2.1, q1.2.2.2.2.2.2.2.2.1, r10, q1.2.2.2.2.2.2.2.2.2.2)) H locs hP hD hS ls (lv_sub hl [2, 3, 1, 0] rfl) hf
  exact L1 FU ((0 : Int32), (0 : Int32), v0) s.heap [] hP hD hS ls (lv_sub hl [2, 3, 1, 0] rfl) hf

/-! X5_mostWanted -/
abbrev rmX5_mostWanted : Room := { frames := 4, cells := 0, slots := 0, locals := 88 }
theorem hdS_X5_mostWanted : yX5_mostWanted.cls ≠ "java/lang/invoke/MethodHandle" ∧ yX5_mostWanted.cls ≠ "java/lang/invoke/VarHandle" ∧ (parseMethodDescriptor yX5_mostWanted.desc).map (fun d => d.parameters.length) = some 1 := by decide +kernel
theorem hdV_X5_mostWanted : yX5_mostWanted.cls = RX5 ∧ yX5_mostWanted.cls ≠ "java/lang/invoke/MethodHandle" ∧ yX5_mostWanted.cls ≠ "java/lang/invoke/VarHandle" ∧ (parseMethodDescriptor yX5_mostWanted.desc).map (fun d => d.parameters.length) = some 1 := ⟨rfl, hdS_X5_mostWanted⟩
set_option maxHeartbeats 4000000 in
set_option maxRecDepth 100000 in
theorem c_X5_mostWanted (l : Launch) (E : G0) (a0 : Nat → Nat) (v0 : HS) (p1 : Int32) (x : Int32) (hf : f_X5_mostWanted v0 p1 = some x) : Met l yX5_mostWanted wsX5_mostWanted rmX5_mostWanted (va_Pc [.ref (a0 0), .int p1] (PR E (wHS E a0 v0))) (vp_Si (fun r => r = x)) 0 0 (fun _ => False) := by
  refine Met.ofW (cc := cX5_mostWanted) (maxL := 4) (ret := some .int) (by decide) rfl ?_
  intro p e s m args below meth c s₁ B hml hv
  obtain ⟨ha, hP, hC⟩ := hv
  have hx := B.exec
  have hb := B.bytes
  have hr := B.returns
  have hts := atoms_spec (ws := wsX5_mostWanted) B.pre
  have hown : s.vm.findClass RX5 = some m.cls := findClass_of_methodNamed B.named
  have hlocks := B.notSynchronized
  have hS : va_S (fun _ => False) s.heap s.heap [] := va_S.rf
  have w1 : (Cond.fieldLink RX5 51 "GreatChunks$House" "files" "LGreatChunks$Files;").before args s = true := hts _ (List.mem_of_getElem? (i := 1) rfl)
  have w2 : ∀ w ∈ wsX50, w ∈ wsX5_mostWanted := in_pl 38 rfl
  have w3 : (Cond.fieldLink RX5 155 "GreatChunks$Files" "kind" "[I").before args s = true := hts _ (List.mem_of_getElem? (i := 2) rfl)
  have w4 : ∀ w ∈ wsX30, w ∈ wsX5_mostWanted := in_pl 47 rfl
  have w5 : (Cond.methodLink RX5 142 Lib.Math.max.name).before args s = true := hts _ (List.mem_of_getElem? (i := 3) rfl)
  have w6 : (Cond.static Lib.Math.max.name).before args s = true := hts _ (List.mem_of_getElem? (i := 4) rfl)
  have w7 : (Cond.initialized "java/lang/Math").before args s = true := hts _ (List.mem_of_getElem? (i := 5) rfl)
  have w8 : (Cond.code Lib.Math.max.name Lib.Math.max.code 2 (some .int)).before args s = true := hts _ (List.mem_of_getElem? (i := 6) rfl)
  generalize hQe : MQ below (vp_Si (fun r => r = x)) args s 0 0 (fun _ => False) = Q
  refine st_W ha (Nat.le_of_ble_eq_true rfl) (fun ls hl => ?_)
  have hl : lv_has ls 4 [(0, .ref (a0 0)), (1, .int p1)] := hl
  unfold f_X5_mostWanted at hf
  refine lv_iconst (v := 0) hx hb dX5_mostWanted_0 rfl ?_
  refine lv_istore_n (lv' := [(2, .int (0 : Int32)), (0, .ref (a0 0)), (1, .int p1)]) hx hb dX5_mostWanted_1 rfl hl (by decide) rfl (fun ls hl => ?_)
  refine lv_iconst (v := 0) hx hb dX5_mostWanted_2 rfl ?_
  refine lv_istore_n (lv' := [(3, .int (0 : Int32)), (2, .int (0 : Int32)), (0, .ref (a0 0)), (1, .int p1)]) hx hb dX5_mostWanted_3 rfl hl (by decide) rfl (fun ls hl => ?_)
  obtain ⟨K1, hK1, hf⟩ := jn_some hf
  have J1 : ∀ (q1 : Int32 × Int32) (ls : Array Slot) (hl : lv_has ls 4 [(2, .int q1.1)]) (hf : K1 q1 = some x), W p l e (headSpec wsX5_mostWanted rmX5_mostWanted).room s m args below meth c s.heap [] 0 0 Q (F0 m 46 ls []) := by
    intro q1 ls hl hf
    have hf := (hK1 q1).trans hf
    refine lv_iload_n hx hb dX5_mostWanted_46 rfl (lv_at hl 0 rfl) ?_
    cases Option.some.inj hf
    subst hQe
    exact en_i hx hb hr hlocks dX5_mostWanted_47
  have L1 : ∀ (n : Nat) (q1 : Int32 × Int32) (ls : Array Slot) (hl : lv_has ls 4 [(0, .ref (a0 0)), (1, .int p1), (2, .int q1.1), (3, .int q1.2)]) (hf : lpF (bX5_mostWanted_1 v0 p1 K1) n q1 = some x), W p l e (headSpec wsX5_mostWanted rmX5_mostWanted).room s m args below meth c s.heap [] 0 0 Q (F0 m 4 ls []) := by
    intro n
    induction n with
    | zero => intro q1 ls hl hf; exact (lpF_zero hf).elim
    | succ n ih1 =>
      intro q1 ls hl hf
      have hf := lpF_succ hf
      unfold bX5_mostWanted_1 at hf
      refine lv_iload_n hx hb dX5_mostWanted_4 rfl (lv_at hl 3 rfl) ?_
      refine lv_bipush (v := 6) hx hb dX5_mostWanted_5 rfl ?_
      refine lv_icmp_ge (tgt := 46) hx hb dX5_mostWanted_7 rfl (fun c2 => ?_) (fun c2 => ?_)
      · have hf := it_t hf c2
        exact J1 (q1.1, q1.2) ls (lv_sub hl [2] rfl) hf
      · have hf := it_f hf c2
        refine lv_aload_n hx hb dX5_mostWanted_10 rfl (lv_at hl 0 rfl) ?_
        refine va_get (D := E.1) (ci := 4) (v := .ref (a0 13)) (C := RX5) (T := TX5) (N := 9) hx hb hts w2 hown hC.1 hP 0 rfl rfl 8 (by decide) w1 (fun _ h9 => h9) rfl dX5_mostWanted_11 ?_
        refine lv_iload_n hx hb dX5_mostWanted_14 rfl (lv_at hl 3 rfl) ?_
        refine lv_iload_n hx hb dX5_mostWanted_15 rfl (lv_at hl 1 rfl) ?_
        obtain ⟨r3, e3, hf⟩ := bd_some hf
        refine cr_i (va_runV (As := [.int q1.2, .int p1]) (rest := []) ⟨hx, hb, hml, hown, hts⟩ (c_X3_owns l E (fun k => a0 (k + 13)) v0.2.2.2.2.2.2.2.2 q1.2 p1 r3 e3) (cwV 2 hts gX5_mostWanted_X3_owns rfl rfl rfl hdV_X3_owns ⟨Nat.le_of_ble_eq_true rfl, Nat.le_of_ble_eq_true rfl⟩) ⟨PR.blind, va_recv hC.1 hP (ci := 3) (q0 := 13) rfl rfl, PR.pre hC hS (hP.sub [13, 14, 15, 16, 17, 18] rfl)⟩ rfl rfl hl.1 rfl (lv_room (Nat.le_of_ble_eq_true rfl)) dX5_mostWanted_16 ⟨Nat.le_of_ble_eq_true rfl, Nat.le_of_ble_eq_true rfl⟩) ?_
        refine lv_if_eq (tgt := 40) hx hb dX5_mostWanted_19 rfl (fun c4 => ?_) (fun c4 => ?_)
        · have hf := it_t hf c4
          refine lv_iinc (v := (q1.2 + 1)) (lv' := [(3, .int (q1.2 + 1)), (0, .ref (a0 0)), (1, .int p1), (2, .int q1.1)]) hx hb dX5_mostWanted_40 hl (k := 3) rfl rfl (by decide) rfl (fun ls hl => ?_)
          refine lv_goto (tgt := 4) hx hb dX5_mostWanted_43 rfl ?_
          exact ih1 (q1.1, (q1.2 + 1)) ls (lv_sub hl [1, 2, 3, 0] rfl) hf
        · have hf := it_f hf c4
          refine lv_iload_n hx hb dX5_mostWanted_22 rfl (lv_at hl 2 rfl) ?_
          refine lv_aload_n hx hb dX5_mostWanted_23 rfl (lv_at hl 0 rfl) ?_
          refine lv_aload_n hx hb dX5_mostWanted_24 rfl (lv_at hl 0 rfl) ?_
          refine va_get (D := E.1) (ci := 4) (v := .ref (a0 13)) (C := RX5) (T := TX5) (N := 9) hx hb hts w2 hown hC.1 hP 0 rfl rfl 8 (by decide) w1 (fun _ h9 => h9) rfl dX5_mostWanted_25 ?_
          refine va_get (D := E.1) (ci := 3) (v := .ref (a0 15)) (C := RX3) (T := TX3) (N := 5) hx hb hts w4 hown hC.1 hP 13 rfl rfl 1 (by decide) w3 (fun _ h9 => h9) rfl dX5_mostWanted_28 ?_
          refine lv_iload_n hx hb dX5_mostWanted_31 rfl (lv_at hl 3 rfl) ?_
          obtain ⟨h5, hf⟩ := gdI_some hf
          refine va_iald hx hb hC.1 hP 15 0 rfl rfl h5 dX5_mostWanted_32 ?_
          obtain ⟨r6, e6, hf⟩ := bd_some hf
          refine cr_i (va_runV (As := [.int (v0.2.2.2.2.2.2.2.2.2.1 q1.2.toNatClampNeg)]) (rest := [.int q1.1]) ⟨hx, hb, hml, hown, hts⟩ (c_X5_copiesWanted l E a0 v0 (v0.2.2.2.2.2.2.2.2.2.1 q1.2.toNatClampNeg) r6 e6) (cwV 1 hts gX5_mostWanted_X5_copiesWanted rfl rfl rfl hdV_X5_copiesWanted ⟨Nat.le_of_ble_eq_true rfl, Nat.le_of_ble_eq_true rfl⟩) ⟨PR.blind, va_recv hC.1 hP (ci := 4) (q0 := 0) rfl rfl, PR.pre hC hS hP⟩ rfl rfl hl.1 rfl (lv_room (Nat.le_of_ble_eq_true rfl)) dX5_mostWanted_33 ⟨Nat.le_of_ble_eq_true rfl, Nat.le_of_ble_eq_true rfl⟩) ?_
          refine va_mmax hx hb (by rw [hml]; exact hl.1.symm) hown w5 w6 w7 w8 (Nat.le_of_ble_eq_true rfl) (Nat.le_of_ble_eq_true rfl) (Nat.le_of_ble_eq_true rfl) (Nat.le_of_ble_eq_true rfl) dX5_mostWanted_36 ?_
          refine lv_istore_n (lv' := [(2, .int (if q1.1 < r6 then r6 else q1.1)), (0, .ref (a0 0)), (1, .int p1), (3, .int q1.2)]) hx hb dX5_mostWanted_39 rfl hl (by decide) rfl (fun ls hl => ?_)
          refine lv_iinc (v := (q1.2 + 1)) (lv' := [(3, .int (q1.2 + 1)), (2, .int (if q1.1 < r6 then r6 else q1.1)), (0, .ref (a0 0)), (1, .int p1)]) hx hb dX5_mostWanted_40 hl (k := 3) rfl rfl (by decide) rfl (fun ls hl => ?_)
          refine lv_goto (tgt := 4) hx hb dX5_mostWanted_43 rfl ?_
          exact ih1 ((if q1.1 < r6 then r6 else q1.1), (q1.2 + 1)) ls (lv_sub hl [2, 3, 1, 0] rfl) hf
  exact L1 FU ((0 : Int32), (0 : Int32)) ls (lv_sub hl [2, 3, 1, 0] rfl) hf

/-! X5_lacksCopy -/
abbrev rmX5_lacksCopy : Room := { frames := 5, cells := 0, slots := 0, locals := 111 }
theorem hdS_X5_lacksCopy : yX5_lacksCopy.cls ≠ "java/lang/invoke/MethodHandle" ∧ yX5_lacksCopy.cls ≠ "java/lang/invoke/VarHandle" ∧ (parseMethodDescriptor yX5_lacksCopy.desc).map (fun d => d.parameters.length) = some 1 := by decide +kernel
theorem hdV_X5_lacksCopy : yX5_lacksCopy.cls = RX5 ∧ yX5_lacksCopy.cls ≠ "java/lang/invoke/MethodHandle" ∧ yX5_lacksCopy.cls ≠ "java/lang/invoke/VarHandle" ∧ (parseMethodDescriptor yX5_lacksCopy.desc).map (fun d => d.parameters.length) = some 1 := ⟨rfl, hdS_X5_lacksCopy⟩
set_option maxHeartbeats 4000000 in
set_option maxRecDepth 100000 in
theorem c_X5_lacksCopy (l : Launch) (E : G0) (a0 : Nat → Nat) (v0 : HS) (p1 : Int32) (x : Bool) (hf : f_X5_lacksCopy v0 p1 = some x) : Met l yX5_lacksCopy wsX5_lacksCopy rmX5_lacksCopy (va_Pc [.ref (a0 0), .int p1] (PR E (wHS E a0 v0))) (vp_Si (fun r => r = bI x)) 0 0 (fun _ => False) := by
  refine Met.ofW (cc := cX5_lacksCopy) (maxL := 5) (ret := some .boolean) (by decide) rfl ?_
  intro p e s m args below meth c s₁ B hml hv
  obtain ⟨ha, hP, hC⟩ := hv
  have hx := B.exec
  have hb := B.bytes
  have hr := B.returns
  have hts := atoms_spec (ws := wsX5_lacksCopy) B.pre
  have hown : s.vm.findClass RX5 = some m.cls := findClass_of_methodNamed B.named
  have hlocks := B.notSynchronized
  have hS : va_S (fun _ => False) s.heap s.heap [] := va_S.rf
  have w1 : (Cond.fieldLink RX5 37 "GreatChunks$House" "chunks" "LGreatChunks$Chunks;").before args s = true := hts _ (List.mem_of_getElem? (i := 1) rfl)
  have w2 : ∀ w ∈ wsX50, w ∈ wsX5_lacksCopy := in_pl 84 rfl
  have w3 : (Cond.fieldLink RX5 30 "GreatChunks$House" "servers" "LGreatChunks$Servers;").before args s = true := hts _ (List.mem_of_getElem? (i := 2) rfl)
  have w4 : (Cond.fieldLink RX5 108 "GreatChunks$Servers" "upBits" "I").before args s = true := hts _ (List.mem_of_getElem? (i := 3) rfl)
  have w5 : ∀ w ∈ wsX80, w ∈ wsX5_lacksCopy := in_pl 93 rfl
  generalize hQe : MQ below (vp_Si (fun r => r = bI x)) args s 0 0 (fun _ => False) = Q
  refine st_W ha (Nat.le_of_ble_eq_true rfl) (fun ls hl => ?_)
  have hl : lv_has ls 5 [(0, .ref (a0 0)), (1, .int p1)] := hl
  unfold f_X5_lacksCopy at hf
  refine lv_aload_n hx hb dX5_lacksCopy_0 rfl (lv_at hl 0 rfl) ?_
  refine lv_iload_n hx hb dX5_lacksCopy_1 rfl (lv_at hl 1 rfl) ?_
  obtain ⟨r1, e1, hf⟩ := bd_some hf
  refine cr_i (va_runV (As := [.int p1]) (rest := []) ⟨hx, hb, hml, hown, hts⟩ (c_X5_able l E a0 v0 p1 r1 e1) (cwV 1 hts gX5_lacksCopy_X5_able rfl rfl rfl hdV_X5_able ⟨Nat.le_of_ble_eq_true rfl, Nat.le_of_ble_eq_true rfl⟩) ⟨PR.blind, va_recv hC.1 hP (ci := 4) (q0 := 0) rfl rfl, PR.pre hC hS hP⟩ rfl rfl hl.1 rfl (lv_room (Nat.le_of_ble_eq_true rfl)) dX5_lacksCopy_2 ⟨Nat.le_of_ble_eq_true rfl, Nat.le_of_ble_eq_true rfl⟩) ?_
  refine lv_istore_n (lv' := [(2, .int r1), (0, .ref (a0 0)), (1, .int p1)]) hx hb dX5_lacksCopy_5 rfl hl (by decide) rfl (fun ls hl => ?_)
  refine lv_iload_n hx hb dX5_lacksCopy_6 rfl (lv_at hl 0 rfl) ?_
  obtain ⟨q2, e2, hf⟩ := bd_some hf
  have J2 : W p l e (headSpec wsX5_lacksCopy rmX5_lacksCopy).room s m args below meth c s.heap [] 0 0 Q (F0 m 26 ls [.int (bI q2)]) := by
    refine lv_istore_n (lv' := [(3, .int (bI q2)), (2, .int r1), (0, .ref (a0 0)), (1, .int p1)]) hx hb dX5_lacksCopy_26 rfl hl (by decide) rfl (fun ls hl => ?_)
    refine lv_aload_n hx hb dX5_lacksCopy_27 rfl (lv_at hl 2 rfl) ?_
    refine va_get (D := E.1) (ci := 4) (v := .ref (a0 1)) (C := RX5) (T := TX5) (N := 9) hx hb hts w2 hown hC.1 hP 0 rfl rfl 5 (by decide) w3 (fun _ h9 => h9) rfl dX5_lacksCopy_28 ?_
    refine va_get (D := E.1) (ci := 6) (v := .int v0.2.2.2.2.2.1.2.1) (C := RX8) (T := TX8) (N := 4) hx hb hts w5 hown hC.1 hP 1 rfl rfl 1 (by decide) w4 (fun _ h9 => h9) rfl dX5_lacksCopy_31 ?_
    refine lv_iload_n hx hb dX5_lacksCopy_34 rfl (lv_at hl 1 rfl) ?_
    refine lv_iconst (v := (-1)) hx hb dX5_lacksCopy_35 rfl ?_
    refine lv_ixor hx hb dX5_lacksCopy_36 ?_
    refine lv_iand hx hb dX5_lacksCopy_37 ?_
    obtain ⟨q3, e3, hf⟩ := bt_eq hf
    have J3 : W p l e (headSpec wsX5_lacksCopy rmX5_lacksCopy).room s m args below meth c s.heap [] 0 0 Q (F0 m 46 ls [.int (bI q3)]) := by
      refine lv_istore (lv' := [(4, .int (bI q3)), (3, .int (bI q2)), (2, .int r1), (0, .ref (a0 0)), (1, .int p1)]) hx hb dX5_lacksCopy_46 hl (by decide) rfl (fun ls hl => ?_)
      refine lv_iload_n hx hb dX5_lacksCopy_48 rfl (lv_at hl 1 rfl) ?_
      refine lv_if_eq (tgt := 73) hx hb dX5_lacksCopy_49 rfl (fun c4 => ?_) (fun c4 => ?_)
      · have hf := it_t hf c4
        refine lv_iconst (v := 0) hx hb dX5_lacksCopy_73 rfl ?_
        cases Option.some.inj hf
        subst hQe
        exact en_z hx hb hr hlocks rfl dX5_lacksCopy_74
      · have hf := it_f hf c4
        refine lv_iload hx hb dX5_lacksCopy_52 (lv_at hl 0 rfl) ?_
        refine lv_if_eq (tgt := 73) hx hb dX5_lacksCopy_54 rfl (fun c5 => ?_) (fun c5 => ?_)
        · have hf := it_t hf c5
          refine lv_iconst (v := 0) hx hb dX5_lacksCopy_73 rfl ?_
          cases Option.some.inj hf
          subst hQe
          exact en_z hx hb hr hlocks rfl dX5_lacksCopy_74
        · have hf := it_f hf c5
          refine lv_iload_n hx hb dX5_lacksCopy_57 rfl (lv_at hl 2 rfl) ?_
          refine cr_i (va_runS (As := [.int r1]) (rest := []) ⟨hx, hb, hml, hown, hts⟩ (c_J6_bitCount_0f7a4 l E r1 _ rfl) (va_cwS 1 hts gX5_lacksCopy_J6_bitCount_0f7a4 rfl rfl rfl hdS_J6_bitCount_0f7a4 ⟨Nat.le_of_ble_eq_true rfl, Nat.le_of_ble_eq_true rfl⟩) ⟨PR.blind, PR.pre hC hS (hP.sub [] rfl)⟩ rfl rfl hl.1 rfl (lv_room (Nat.le_of_ble_eq_true rfl)) dX5_lacksCopy_58 ⟨Nat.le_of_ble_eq_true rfl, Nat.le_of_ble_eq_true rfl⟩) ?_
          refine lv_aload_n hx hb dX5_lacksCopy_61 rfl (lv_at hl 3 rfl) ?_
          refine lv_iload_n hx hb dX5_lacksCopy_62 rfl (lv_at hl 4 rfl) ?_
          obtain ⟨r6, e6, hf⟩ := bd_some hf
          refine cr_i (va_runV (As := [.int p1]) (rest := [.int (f_J6_bitCount_0f7a4 r1)]) ⟨hx, hb, hml, hown, hts⟩ (c_X5_mostWanted l E a0 v0 p1 r6 e6) (cwV 1 hts gX5_lacksCopy_X5_mostWanted rfl rfl rfl hdV_X5_mostWanted ⟨Nat.le_of_ble_eq_true rfl, Nat.le_of_ble_eq_true rfl⟩) ⟨PR.blind, va_recv hC.1 hP (ci := 4) (q0 := 0) rfl rfl, PR.pre hC hS hP⟩ rfl rfl hl.1 rfl (lv_room (Nat.le_of_ble_eq_true rfl)) dX5_lacksCopy_63 ⟨Nat.le_of_ble_eq_true rfl, Nat.le_of_ble_eq_true rfl⟩) ?_
          refine lv_icmp_ge (tgt := 73) hx hb dX5_lacksCopy_66 rfl (fun c7 => ?_) (fun c7 => ?_)
          · have hf := it_t hf c7
            refine lv_iconst (v := 0) hx hb dX5_lacksCopy_73 rfl ?_
            cases Option.some.inj hf
            subst hQe
            exact en_z hx hb hr hlocks rfl dX5_lacksCopy_74
          · have hf := it_f hf c7
            refine lv_iconst (v := 1) hx hb dX5_lacksCopy_69 rfl ?_
            refine lv_goto (tgt := 74) hx hb dX5_lacksCopy_70 rfl ?_
            cases Option.some.inj hf
            subst hQe
            exact en_z hx hb hr hlocks rfl dX5_lacksCopy_74
    have hf := e3
    refine lv_if_eq (tgt := 45) hx hb dX5_lacksCopy_38 rfl (fun c8 => ?_) (fun c8 => ?_)
    · have hf := it_t hf c8
      refine lv_iconst (v := 0) hx hb dX5_lacksCopy_45 rfl ?_
      cases hf
      exact J3
    · have hf := it_f hf c8
      refine lv_iconst (v := 1) hx hb dX5_lacksCopy_41 rfl ?_
      refine lv_goto (tgt := 46) hx hb dX5_lacksCopy_42 rfl ?_
      cases hf
      exact J3
  have hf := e2
  refine lv_if_eq (tgt := 25) hx hb dX5_lacksCopy_7 rfl (fun c9 => ?_) (fun c9 => ?_)
  · have hf := it_t hf c9
    refine lv_iconst (v := 0) hx hb dX5_lacksCopy_25 rfl ?_
    cases Option.some.inj hf
    exact J2
  · have hf := it_f hf c9
    refine lv_aload_n hx hb dX5_lacksCopy_10 rfl (lv_at hl 1 rfl) ?_
    refine va_get (D := E.1) (ci := 4) (v := .ref (a0 4)) (C := RX5) (T := TX5) (N := 9) hx hb hts w2 hown hC.1 hP 0 rfl rfl 6 (by decide) w1 (fun _ h9 => h9) rfl dX5_lacksCopy_11 ?_
    refine lv_iload_n hx hb dX5_lacksCopy_14 rfl (lv_at hl 2 rfl) ?_
    obtain ⟨r10, e10, hf⟩ := bd_some hf
    refine cr_i (va_runV (As := [.int p1]) (rest := []) ⟨hx, hb, hml, hown, hts⟩ (c_X1_isForgotten l E (fun k => a0 (k + 4)) v0.2.2.2.2.2.2.1 p1 r10 e10) (cwV 1 hts gX5_lacksCopy_X1_isForgotten rfl rfl rfl hdV_X1_isForgotten ⟨Nat.le_of_ble_eq_true rfl, Nat.le_of_ble_eq_true rfl⟩) ⟨PR.blind, va_recv hC.1 hP (ci := 1) (q0 := 4) rfl rfl, PR.pre hC hS (hP.sub [4, 5, 6, 7, 8] rfl)⟩ rfl rfl hl.1 rfl (lv_room (Nat.le_of_ble_eq_true rfl)) dX5_lacksCopy_15 ⟨Nat.le_of_ble_eq_true rfl, Nat.le_of_ble_eq_true rfl⟩) ?_
    refine lv_if_ne (tgt := 25) hx hb dX5_lacksCopy_18 rfl (fun c11 => ?_) (fun c11 => ?_)
    · have hf := it_f hf c11
      refine lv_iconst (v := 0) hx hb dX5_lacksCopy_25 rfl ?_
      cases Option.some.inj hf
      exact J2
    · have hf := it_t hf c11
      refine lv_iconst (v := 1) hx hb dX5_lacksCopy_21 rfl ?_
      refine lv_goto (tgt := 26) hx hb dX5_lacksCopy_22 rfl ?_
      cases Option.some.inj hf
      exact J2

/-! X5_firstToMend -/
abbrev rmX5_firstToMend : Room := { frames := 6, cells := 0, slots := 0, locals := 135 }
theorem hdS_X5_firstToMend : yX5_firstToMend.cls ≠ "java/lang/invoke/MethodHandle" ∧ yX5_firstToMend.cls ≠ "java/lang/invoke/VarHandle" ∧ (parseMethodDescriptor yX5_firstToMend.desc).map (fun d => d.parameters.length) = some 0 := by decide +kernel
theorem hdV_X5_firstToMend : yX5_firstToMend.cls = RX5 ∧ yX5_firstToMend.cls ≠ "java/lang/invoke/MethodHandle" ∧ yX5_firstToMend.cls ≠ "java/lang/invoke/VarHandle" ∧ (parseMethodDescriptor yX5_firstToMend.desc).map (fun d => d.parameters.length) = some 0 := ⟨rfl, hdS_X5_firstToMend⟩
set_option maxHeartbeats 4000000 in
set_option maxRecDepth 100000 in
theorem c_X5_firstToMend (l : Launch) (E : G0) (a0 : Nat → Nat) (v0 : HS) (x : Int32) (hf : f_X5_firstToMend v0 = some x) : Met l yX5_firstToMend wsX5_firstToMend rmX5_firstToMend (va_Pc [.ref (a0 0)] (PR E (wHS E a0 v0))) (vp_Si (fun r => r = x)) 0 0 (fun _ => False) := by
  refine Met.ofW (cc := cX5_firstToMend) (maxL := 2) (ret := some .int) (by decide) rfl ?_
  intro p e s m args below meth c s₁ B hml hv
  obtain ⟨ha, hP, hC⟩ := hv
  have hx := B.exec
  have hb := B.bytes
  have hr := B.returns
  have hts := atoms_spec (ws := wsX5_firstToMend) B.pre
  have hown : s.vm.findClass RX5 = some m.cls := findClass_of_methodNamed B.named
  have hlocks := B.notSynchronized
  have hS : va_S (fun _ => False) s.heap s.heap [] := va_S.rf
  have w1 : (Cond.fieldLink RX5 37 "GreatChunks$House" "chunks" "LGreatChunks$Chunks;").before args s = true := hts _ (List.mem_of_getElem? (i := 1) rfl)
  have w2 : ∀ w ∈ wsX50, w ∈ wsX5_firstToMend := in_pl 89 rfl
  have w3 : (Cond.fieldLink RX5 59 "GreatChunks$Chunks" "made" "I").before args s = true := hts _ (List.mem_of_getElem? (i := 2) rfl)
  have w4 : ∀ w ∈ wsX10, w ∈ wsX5_firstToMend := in_pl 98 rfl
  generalize hQe : MQ below (vp_Si (fun r => r = x)) args s 0 0 (fun _ => False) = Q
  refine st_W ha (Nat.le_of_ble_eq_true rfl) (fun ls hl => ?_)
  have hl : lv_has ls 2 [(0, .ref (a0 0))] := hl
  unfold f_X5_firstToMend at hf
  refine lv_iconst (v := 0) hx hb dX5_firstToMend_0 rfl ?_
  refine lv_istore_n (lv' := [(1, .int (0 : Int32)), (0, .ref (a0 0))]) hx hb dX5_firstToMend_1 rfl hl (by decide) rfl (fun ls hl => ?_)
  obtain ⟨K1, hK1, hf⟩ := jn_some hf
  have J1 : ∀ (q1 : Int32) (ls : Array Slot) (hl : lv_has ls 2 []) (hf : K1 q1 = some x), W p l e (headSpec wsX5_firstToMend rmX5_firstToMend).room s m args below meth c s.heap [] 0 0 Q (F0 m 29 ls []) := by
    intro q1 ls hl hf
    have hf := (hK1 q1).trans hf
    refine lv_iconst (v := (-1)) hx hb dX5_firstToMend_29 rfl ?_
    cases Option.some.inj hf
    subst hQe
    exact en_i hx hb hr hlocks dX5_firstToMend_30
  have L1 : ∀ (n : Nat) (q1 : Int32) (ls : Array Slot) (hl : lv_has ls 2 [(0, .ref (a0 0)), (1, .int q1)]) (hf : lpF (bX5_firstToMend_1 v0 K1) n q1 = some x), W p l e (headSpec wsX5_firstToMend rmX5_firstToMend).room s m args below meth c s.heap [] 0 0 Q (F0 m 2 ls []) := by
    intro n
    induction n with
    | zero => intro q1 ls hl hf; exact (lpF_zero hf).elim
    | succ n ih1 =>
      intro q1 ls hl hf
      have hf := lpF_succ hf
      unfold bX5_firstToMend_1 at hf
      refine lv_iload_n hx hb dX5_firstToMend_2 rfl (lv_at hl 1 rfl) ?_
      refine lv_aload_n hx hb dX5_firstToMend_3 rfl (lv_at hl 0 rfl) ?_
      refine va_get (D := E.1) (ci := 4) (v := .ref (a0 4)) (C := RX5) (T := TX5) (N := 9) hx hb hts w2 hown hC.1 hP 0 rfl rfl 6 (by decide) w1 (fun _ h9 => h9) rfl dX5_firstToMend_4 ?_
      refine va_get (D := E.1) (ci := 1) (v := .int v0.2.2.2.2.2.2.1.1) (C := RX1) (T := TX1) (N := 5) hx hb hts w4 hown hC.1 hP 4 rfl rfl 0 (by decide) w3 (fun _ h9 => h9) rfl dX5_firstToMend_7 ?_
      refine lv_icmp_ge (tgt := 29) hx hb dX5_firstToMend_10 rfl (fun c2 => ?_) (fun c2 => ?_)
      · have hf := it_t hf c2
        exact J1 q1 ls (lv_sub hl [] rfl) hf
      · have hf := it_f hf c2
        refine lv_aload_n hx hb dX5_firstToMend_13 rfl (lv_at hl 0 rfl) ?_
        refine lv_iload_n hx hb dX5_firstToMend_14 rfl (lv_at hl 1 rfl) ?_
        obtain ⟨r3, e3, hf⟩ := bd_some hf
        refine cr_i (va_runV (As := [.int q1]) (rest := []) ⟨hx, hb, hml, hown, hts⟩ (c_X5_lacksCopy l E a0 v0 q1 r3 e3) (cwV 1 hts gX5_firstToMend_X5_lacksCopy rfl rfl rfl hdV_X5_lacksCopy ⟨Nat.le_of_ble_eq_true rfl, Nat.le_of_ble_eq_true rfl⟩) ⟨PR.blind, va_recv hC.1 hP (ci := 4) (q0 := 0) rfl rfl, PR.pre hC hS hP⟩ rfl rfl hl.1 rfl (lv_room (Nat.le_of_ble_eq_true rfl)) dX5_firstToMend_15 ⟨Nat.le_of_ble_eq_true rfl, Nat.le_of_ble_eq_true rfl⟩) ?_
        refine lv_if_eq (tgt := 23) hx hb dX5_firstToMend_18 rfl (fun c4 => ?_) (fun c4 => ?_)
        · have hf := it_t hf c4
          refine lv_iinc (v := (q1 + 1)) (lv' := [(1, .int (q1 + 1)), (0, .ref (a0 0))]) hx hb dX5_firstToMend_23 hl (k := 1) rfl rfl (by decide) rfl (fun ls hl => ?_)
          refine lv_goto (tgt := 2) hx hb dX5_firstToMend_26 rfl ?_
          exact ih1 (q1 + 1) ls (lv_sub hl [1, 0] rfl) hf
        · have hf := it_f hf c4
          refine lv_iload_n hx hb dX5_firstToMend_21 rfl (lv_at hl 1 rfl) ?_
          cases Option.some.inj hf
          subst hQe
          exact en_i hx hb hr hlocks dX5_firstToMend_22
  exact L1 FU (0 : Int32) ls (lv_sub hl [1, 0] rfl) hf

/-! X5_addCopy -/
abbrev rmX5_addCopy : Room := { frames := 4, cells := 0, slots := 0, locals := 90 }
theorem hdS_X5_addCopy : yX5_addCopy.cls ≠ "java/lang/invoke/MethodHandle" ∧ yX5_addCopy.cls ≠ "java/lang/invoke/VarHandle" ∧ (parseMethodDescriptor yX5_addCopy.desc).map (fun d => d.parameters.length) = some 1 := by decide +kernel
theorem hdV_X5_addCopy : yX5_addCopy.cls = RX5 ∧ yX5_addCopy.cls ≠ "java/lang/invoke/MethodHandle" ∧ yX5_addCopy.cls ≠ "java/lang/invoke/VarHandle" ∧ (parseMethodDescriptor yX5_addCopy.desc).map (fun d => d.parameters.length) = some 1 := ⟨rfl, hdS_X5_addCopy⟩
set_option maxHeartbeats 4000000 in
set_option maxRecDepth 100000 in
theorem c_X5_addCopy (l : Launch) (E : G0) (sz : Nat) (a0 : Nat → Nat) (v0 : HS) (p1 : Int32) (x : HS) (hf : f_X5_addCopy v0 p1 = some x) : Met l yX5_addCopy wsX5_addCopy rmX5_addCopy (va_Pc [.ref (a0 0), .int p1] (PW E (wHS E a0 v0) sz)) (va_Qv (fun q => q = x) (fun q t => va_P E.1 vwCl ((fun q : HS => wHS E a0 q) q) t.heap ∧ va_D (va_A (wHS E a0 v0) sz) ((fun q : HS => wHS E a0 q) q)) (va_A (wHS E a0 v0) sz)) 0 0 (va_A (wHS E a0 v0) sz) := by
  refine Met.ofW (cc := cX5_addCopy) (maxL := 5) (ret := none) (by decide) rfl ?_
  intro p e s m args below meth c s₁ B hml hv
  obtain ⟨ha, hsz, hP, hD0, hC⟩ := hv
  have hx := B.exec
  have hb := B.bytes
  have hr := B.returns
  have hts := atoms_spec (ws := wsX5_addCopy) B.pre
  have hown : s.vm.findClass RX5 = some m.cls := findClass_of_methodNamed B.named
  have hlocks := B.notSynchronized
  subst hsz
  have hD := hD0.self (sz := s.heap.size)
  generalize hAe : va_A (wHS E a0 v0) s.heap.size = A at hD hC ⊢
  have hA : ∀ q : Nat, s.heap.size ≤ q → A q := fun q h => by rw [← hAe]; exact Or.inr h
  have hS : va_S A s.heap s.heap [] := va_S.rf
  have w1 : (Cond.fieldLink RX5 30 "GreatChunks$House" "servers" "LGreatChunks$Servers;").before args s = true := hts _ (List.mem_of_getElem? (i := 1) rfl)
  have w2 : ∀ w ∈ wsX50, w ∈ wsX5_addCopy := in_pl 84 rfl
  have w3 : (Cond.fieldLink RX5 108 "GreatChunks$Servers" "upBits" "I").before args s = true := hts _ (List.mem_of_getElem? (i := 2) rfl)
  have w4 : ∀ w ∈ wsX80, w ∈ wsX5_addCopy := in_pl 93 rfl
  have w5 : (Cond.fieldLink RX5 44 "GreatChunks$House" "copies" "LGreatChunks$Copies;").before args s = true := hts _ (List.mem_of_getElem? (i := 3) rfl)
  generalize hQe : MQ below (va_Qv (fun q => q = x) (fun q t => va_P E.1 vwCl ((fun q : HS => wHS E a0 q) q) t.heap ∧ va_D A ((fun q : HS => wHS E a0 q) q)) A) args s 0 0 A = Q
  refine st_W ha (Nat.le_of_ble_eq_true rfl) (fun ls hl => ?_)
  have hl : lv_has ls 5 [(0, .ref (a0 0)), (1, .int p1)] := hl
  unfold f_X5_addCopy at hf
  refine lv_aload_n hx hb dX5_addCopy_0 rfl (lv_at hl 0 rfl) ?_
  refine lv_iload_n hx hb dX5_addCopy_1 rfl (lv_at hl 1 rfl) ?_
  obtain ⟨r1, e1, hf⟩ := bd_some hf
  refine cr_i (va_runV (As := [.int p1]) (rest := []) ⟨hx, hb, hml, hown, hts⟩ (c_X5_able l E a0 v0 p1 r1 e1) (cwV 1 hts gX5_addCopy_X5_able rfl rfl rfl hdV_X5_able ⟨Nat.le_of_ble_eq_true rfl, Nat.le_of_ble_eq_true rfl⟩) ⟨PR.blind, va_recv hC.1 hP (ci := 4) (q0 := 0) rfl rfl, PR.pre hC hS hP⟩ rfl rfl hl.1 rfl (lv_room (Nat.le_of_ble_eq_true rfl)) dX5_addCopy_2 ⟨Nat.le_of_ble_eq_true rfl, Nat.le_of_ble_eq_true rfl⟩) ?_
  refine lv_istore_n (lv' := [(2, .int r1), (0, .ref (a0 0)), (1, .int p1)]) hx hb dX5_addCopy_5 rfl hl (by decide) rfl (fun ls hl => ?_)
  refine lv_aload_n hx hb dX5_addCopy_6 rfl (lv_at hl 1 rfl) ?_
  refine lv_iload_n hx hb dX5_addCopy_7 rfl (lv_at hl 0 rfl) ?_
  obtain ⟨r2, e2, hf⟩ := bd_some hf
  refine cr_i (va_runV (As := [.int r1]) (rest := []) ⟨hx, hb, hml, hown, hts⟩ (c_X5_first l E a0 v0 r1 r2 e2) (cwV 1 hts gX5_addCopy_X5_first rfl rfl rfl hdV_X5_first ⟨Nat.le_of_ble_eq_true rfl, Nat.le_of_ble_eq_true rfl⟩) ⟨PR.blind, va_recv hC.1 hP (ci := 4) (q0 := 0) rfl rfl, PR.pre hC hS hP⟩ rfl rfl hl.1 rfl (lv_room (Nat.le_of_ble_eq_true rfl)) dX5_addCopy_8 ⟨Nat.le_of_ble_eq_true rfl, Nat.le_of_ble_eq_true rfl⟩) ?_
  refine lv_istore_n (lv' := [(3, .int r2), (2, .int r1), (0, .ref (a0 0)), (1, .int p1)]) hx hb dX5_addCopy_11 rfl hl (by decide) rfl (fun ls hl => ?_)
  refine lv_aload_n hx hb dX5_addCopy_12 rfl (lv_at hl 2 rfl) ?_
  refine lv_aload_n hx hb dX5_addCopy_13 rfl (lv_at hl 2 rfl) ?_
  refine va_get (D := E.1) (ci := 4) (v := .ref (a0 1)) (C := RX5) (T := TX5) (N := 9) hx hb hts w2 hown hC.1 hP 0 rfl rfl 5 (by decide) w1 (fun _ h9 => h9) rfl dX5_addCopy_14 ?_
  refine va_get (D := E.1) (ci := 6) (v := .int v0.2.2.2.2.2.1.2.1) (C := RX8) (T := TX8) (N := 4) hx hb hts w4 hown hC.1 hP 1 rfl rfl 1 (by decide) w3 (fun _ h9 => h9) rfl dX5_addCopy_17 ?_
  refine lv_iload_n hx hb dX5_addCopy_20 rfl (lv_at hl 1 rfl) ?_
  refine lv_iconst (v := (-1)) hx hb dX5_addCopy_21 rfl ?_
  refine lv_ixor hx hb dX5_addCopy_22 ?_
  refine lv_iand hx hb dX5_addCopy_23 ?_
  obtain ⟨r3, e3, hf⟩ := bd_some hf
  refine cr_i (va_runV (As := [.int (v0.2.2.2.2.2.1.2.1 &&& (r1 ^^^ (-1 : Int32)))]) (rest := []) ⟨hx, hb, hml, hown, hts⟩ (c_X5_best l E a0 v0 (v0.2.2.2.2.2.1.2.1 &&& (r1 ^^^ (-1 : Int32))) r3 e3) (cwV 1 hts gX5_addCopy_X5_best rfl rfl rfl hdV_X5_best ⟨Nat.le_of_ble_eq_true rfl, Nat.le_of_ble_eq_true rfl⟩) ⟨PR.blind, va_recv hC.1 hP (ci := 4) (q0 := 0) rfl rfl, PR.pre hC hS hP⟩ rfl rfl hl.1 rfl (lv_room (Nat.le_of_ble_eq_true rfl)) dX5_addCopy_24 ⟨Nat.le_of_ble_eq_true rfl, Nat.le_of_ble_eq_true rfl⟩) ?_
  refine lv_istore (lv' := [(4, .int r3), (3, .int r2), (2, .int r1), (0, .ref (a0 0)), (1, .int p1)]) hx hb dX5_addCopy_27 hl (by decide) rfl (fun ls hl => ?_)
  refine lv_iload_n hx hb dX5_addCopy_29 rfl (lv_at hl 1 rfl) ?_
  refine lv_iconst (v := (-1)) hx hb dX5_addCopy_30 rfl ?_
  refine lv_icmp_eq (tgt := 61) hx hb dX5_addCopy_31 rfl (fun c4 => ?_) (fun c4 => ?_)
  · have hf := it_t hf c4
    cases Option.some.inj hf
    subst hQe
    exact ew_v (wf := (fun q : HS => wHS E a0 q)) hx hb hr hlocks hP hD hS dX5_addCopy_61
  · have hf := it_f hf c4
    refine lv_iload hx hb dX5_addCopy_34 (lv_at hl 0 rfl) ?_
    refine lv_iconst (v := (-1)) hx hb dX5_addCopy_36 rfl ?_
    refine lv_icmp_eq (tgt := 61) hx hb dX5_addCopy_37 rfl (fun c5 => ?_) (fun c5 => ?_)
    · have hf := it_t hf c5
      cases Option.some.inj hf
      subst hQe
      exact ew_v (wf := (fun q : HS => wHS E a0 q)) hx hb hr hlocks hP hD hS dX5_addCopy_61
    · have hf := it_f hf c5
      refine lv_aload_n hx hb dX5_addCopy_40 rfl (lv_at hl 3 rfl) ?_
      refine va_get (D := E.1) (ci := 4) (v := .ref (a0 9)) (C := RX5) (T := TX5) (N := 9) hx hb hts w2 hown hC.1 hP 0 rfl rfl 7 (by decide) w5 (fun _ h9 => h9) rfl dX5_addCopy_41 ?_
      refine lv_iload hx hb dX5_addCopy_44 (lv_at hl 0 rfl) ?_
      refine lv_iload_n hx hb dX5_addCopy_46 rfl (lv_at hl 4 rfl) ?_
      refine lv_iload_n hx hb dX5_addCopy_47 rfl (lv_at hl 1 rfl) ?_
      refine lv_iload_n hx hb dX5_addCopy_48 rfl (lv_at hl 4 rfl) ?_
      refine lv_aload_n hx hb dX5_addCopy_49 rfl (lv_at hl 3 rfl) ?_
      refine va_get (D := E.1) (ci := 4) (v := .ref (a0 9)) (C := RX5) (T := TX5) (N := 9) hx hb hts w2 hown hC.1 hP 0 rfl rfl 7 (by decide) w5 (fun _ h9 => h9) rfl dX5_addCopy_50 ?_
      refine lv_iload_n hx hb dX5_addCopy_53 rfl (lv_at hl 1 rfl) ?_
      refine lv_iload_n hx hb dX5_addCopy_54 rfl (lv_at hl 4 rfl) ?_
      obtain ⟨r6, e6, hf⟩ := bd_some hf
      refine cr_i (va_runV (As := [.int r2, .int p1]) (rest := [.int p1, .int r2, .int p1, .int r3, .ref (a0 9)]) ⟨hx, hb, hml, hown, hts⟩ (c_X2_versionOf l E (fun k => a0 (k + 9)) v0.2.2.2.2.2.2.2.1 r2 p1 r6 e6) (cwV 2 hts gX5_addCopy_X2_versionOf rfl rfl rfl hdV_X2_versionOf ⟨Nat.le_of_ble_eq_true rfl, Nat.le_of_ble_eq_true rfl⟩) ⟨PR.blind, va_recv hC.1 hP (ci := 2) (q0 := 9) rfl rfl, PR.pre hC hS (hP.sub [9, 10, 11, 12] rfl)⟩ rfl rfl hl.1 rfl (lv_room (Nat.le_of_ble_eq_true rfl)) dX5_addCopy_55 ⟨Nat.le_of_ble_eq_true rfl, Nat.le_of_ble_eq_true rfl⟩) ?_
      obtain ⟨r7, e7, hf⟩ := bd_some hf
      refine cq_v hP hD hS [9, 10, 11, 12] [0, 1, 2, 3, 4, 5, 6, 7, 8, 13, 14, 15, 16, 17, 18] [0, 1, 2, 3, 4, 5, 6, 7, 8, 15, 16, 17, 18, 9, 10, 11, 12, 13, 14] (va_free (wc := (wCP E (fun k => a0 (k + 9)) v0.2.2.2.2.2.2.2.1)) hD hS hA [9, 10, 11, 12] rfl) (va_runV (As := [.int r3, .int p1, .int r2, .int p1, .int r6]) (rest := []) ⟨hx, hb, hml, hown, hts⟩ (c_X2_layLike l E s.heap.size (fun k => a0 (k + 9)) v0.2.2.2.2.2.2.2.1 r3 p1 r2 p1 r6 r7 e7) (cwV 5 hts gX5_addCopy_X2_layLike rfl rfl rfl hdV_X2_layLike ⟨Nat.le_of_ble_eq_true rfl, Nat.le_of_ble_eq_true rfl⟩) ⟨PW.blind, va_recv hC.1 hP (ci := 2) (q0 := 9) rfl rfl, PW.pre hC hS (hP.sub [9, 10, 11, 12] rfl) (hD.sub [9, 10, 11, 12] rfl rfl) (va_free hD hS hA [9, 10, 11, 12] rfl)⟩ rfl rfl hl.1 rfl (lv_room (Nat.le_of_ble_eq_true rfl)) dX5_addCopy_58 ⟨Nat.le_of_ble_eq_true rfl, Nat.le_of_ble_eq_true rfl⟩) rfl rfl rfl rfl (wHS E a0 (v0.1, v0.2.1, v0.2.2.1, v0.2.2.2.1, v0.2.2.2.2.1, v0.2.2.2.2.2.1, v0.2.2.2.2.2.2.1, r7, v0.2.2.2.2.2.2.2.2)) rfl rfl (fun H locs hP hD hS => ?_)
      cases Option.some.inj hf
      subst hQe
      exact ew_v (wf := (fun q : HS => wHS E a0 q)) hx hb hr hlocks hP hD hS dX5_addCopy_61
