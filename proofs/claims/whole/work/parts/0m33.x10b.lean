/-! X10_spoil -/
abbrev rmX10_spoil : Room := { frames := 4, cells := 19, slots := 1854, locals := 123 }
theorem hdS_X10_spoil : yX10_spoil.cls ≠ "java/lang/invoke/MethodHandle" ∧ yX10_spoil.cls ≠ "java/lang/invoke/VarHandle" ∧ (parseMethodDescriptor yX10_spoil.desc).map (fun d => d.parameters.length) = some 2 := by decide +kernel
theorem hdV_X10_spoil : yX10_spoil.cls = RX10 ∧ yX10_spoil.cls ≠ "java/lang/invoke/MethodHandle" ∧ yX10_spoil.cls ≠ "java/lang/invoke/VarHandle" ∧ (parseMethodDescriptor yX10_spoil.desc).map (fun d => d.parameters.length) = some 2 := ⟨rfl, hdS_X10_spoil⟩
set_option maxHeartbeats 4000000 in
set_option maxRecDepth 100000 in
theorem c_X10_spoil (l : Launch) (E : G0) (sz : Nat) (a0 : Nat → Nat) (db di : Nat → Nat → Nat) (v0 : GC) (p1 : Int32) (p2 : Int32) (x : Int32 × GC) (hf : f_X10_spoil v0 p1 p2 = some x) : Met l yX10_spoil wsX10_spoil rmX10_spoil (va_Pc [.ref (a0 0), .int p1, .int p2] (PW E (wGC E a0 db di v0) sz)) (va_Qi (fun r (q : DA × GC) => r = x.1 ∧ q.2 = x.2) (fun q t => va_P E.1 vwCl (wGC E a0 q.1.1 q.1.2 q.2) t.heap ∧ va_D (va_A (wGC E a0 db di v0) sz) (wGC E a0 q.1.1 q.1.2 q.2)) (va_A (wGC E a0 db di v0) sz)) 19 1854 (va_A (wGC E a0 db di v0) sz) := by
  refine Met.ofW (cc := cX10_spoil) (maxL := 4) (ret := some .int) (by decide) rfl ?_
  intro p e s m args below meth c s₁ B hml hv
  obtain ⟨ha, hsz, hP, hD0, hC⟩ := hv
  have hx := B.exec
  have hb := B.bytes
  have hr := B.returns
  have hts := atoms_spec (ws := wsX10_spoil) B.pre
  have hown : s.vm.findClass RX10 = some m.cls := findClass_of_methodNamed B.named
  have hlocks := B.notSynchronized
  subst hsz
  have hD := hD0.self (sz := s.heap.size)
  generalize hAe : va_A (wGC E a0 db di v0) s.heap.size = A at hD hC ⊢
  have hA : ∀ q : Nat, s.heap.size ≤ q → A q := fun q h => by rw [← hAe]; exact Or.inr h
  have hS : va_S A s.heap s.heap [] := va_S.rf
  have w1 : (Cond.fieldLink RX10 31 "GreatChunks" "house" "LGreatChunks$House;").before args s = true := hts _ (List.mem_of_getElem? (i := 1) rfl)
  have w2 : ∀ w ∈ wsX100, w ∈ wsX10_spoil := in_pl 117 rfl
  have w3 : (Cond.fieldLink RX10 170 "GreatChunks$House" "servers" "LGreatChunks$Servers;").before args s = true := hts _ (List.mem_of_getElem? (i := 2) rfl)
  have w4 : ∀ w ∈ wsX50, w ∈ wsX10_spoil := in_pl 125 rfl
  have w5 : (Cond.constant RX10 54 (-1000001)).before args s = true := hts _ (List.mem_of_getElem? (i := 3) rfl)
  have w6 : (Cond.fieldLink RX10 24 "GreatChunks" "acts" "LGreatChunks$Acts;").before args s = true := hts _ (List.mem_of_getElem? (i := 4) rfl)
  have w7 : (Cond.fieldLink RX10 179 "GreatChunks$Servers" "spoilt" "[I").before args s = true := hts _ (List.mem_of_getElem? (i := 5) rfl)
  have w8 : ∀ w ∈ wsX80, w ∈ wsX10_spoil := in_pl 134 rfl
  generalize hQe : MQ below (va_Qi (fun r (q : DA × GC) => r = x.1 ∧ q.2 = x.2) (fun q t => va_P E.1 vwCl (wGC E a0 q.1.1 q.1.2 q.2) t.heap ∧ va_D A (wGC E a0 q.1.1 q.1.2 q.2)) A) args s 19 1854 A = Q
  refine st_W ha (Nat.le_of_ble_eq_true rfl) (fun ls hl => ?_)
  have hl : lv_has ls 4 [(0, .ref (a0 0)), (1, .int p1), (2, .int p2)] := hl
  unfold f_X10_spoil at hf
  refine lv_aload_n hx hb dX10_spoil_0 rfl (lv_at hl 0 rfl) ?_
  refine va_get (D := E.1) (ci := 8) (v := .ref (a0 26)) (C := RX10) (T := TX10) (N := 8) hx hb hts w2 hown hC.1 hP 0 rfl rfl 3 (by decide) w1 (fun _ h9 => h9) rfl dX10_spoil_1 ?_
  refine va_get (D := E.1) (ci := 4) (v := .ref (a0 27)) (C := RX5) (T := TX5) (N := 9) hx hb hts w4 hown hC.1 hP 26 rfl rfl 5 (by decide) w3 (fun _ h9 => h9) rfl dX10_spoil_4 ?_
  refine lv_iload_n hx hb dX10_spoil_7 rfl (lv_at hl 1 rfl) ?_
  refine cr_i (va_runV (As := [.int p1]) (rest := []) ⟨hx, hb, hml, hown, hts⟩ (c_X8_has l E (fun k => a0 (k + 27)) v0.2.2.2.1.2.2.2.2.2.1 p1 _ rfl) (cwV 1 hts gX10_spoil_X8_has rfl rfl rfl hdV_X8_has ⟨Nat.le_of_ble_eq_true rfl, Nat.le_of_ble_eq_true rfl⟩) ⟨PR.blind, va_recv hC.1 hP (ci := 6) (q0 := 27) rfl rfl, PR.pre hC hS (hP.sub [27, 28, 29] rfl)⟩ rfl rfl hl.1 rfl (lv_room (Nat.le_of_ble_eq_true rfl)) dX10_spoil_8 ⟨Nat.le_of_ble_eq_true rfl, Nat.le_of_ble_eq_true rfl⟩) ?_
  refine lv_if_eq (tgt := 24) hx hb dX10_spoil_11 rfl (fun c1 => ?_) (fun c1 => ?_)
  · have hf := it_t hf c1
    refine lv_ldc hx hb hown w5 dX10_spoil_24 ?_
    cases Option.some.inj hf
    subst hQe
    refine W.widen (k := 19) (n := 1854) (by decide) (by decide) ?_
    exact eg_i hx hb hr hlocks hP hD hS dX10_spoil_26
  · have hf := it_f hf c1
    refine lv_iload_n hx hb dX10_spoil_14 rfl (lv_at hl 2 rfl) ?_
    refine lv_iconst (v := 0) hx hb dX10_spoil_15 rfl ?_
    refine lv_bipush (v := 9) hx hb dX10_spoil_16 rfl ?_
    refine cr_i (va_runS (As := [.int p2, .int (0 : Int32), .int (9 : Int32)]) (rest := []) ⟨hx, hb, hml, hown, hts⟩ (c_X10_within l E p2 (0 : Int32) (9 : Int32) _ rfl) (va_cwS 3 hts gX10_spoil_X10_within rfl rfl rfl hdS_X10_within ⟨Nat.le_of_ble_eq_true rfl, Nat.le_of_ble_eq_true rfl⟩) ⟨PR.blind, PR.pre hC hS (hP.sub [] rfl)⟩ rfl rfl hl.1 rfl (lv_room (Nat.le_of_ble_eq_true rfl)) dX10_spoil_18 ⟨Nat.le_of_ble_eq_true rfl, Nat.le_of_ble_eq_true rfl⟩) ?_
    refine lv_if_ne (tgt := 27) hx hb dX10_spoil_21 rfl (fun c2 => ?_) (fun c2 => ?_)
    · have hf := it_f hf c2
      refine lv_aload_n hx hb dX10_spoil_27 rfl (lv_at hl 0 rfl) ?_
      refine va_get (D := E.1) (ci := 8) (v := .ref (a0 24)) (C := RX10) (T := TX10) (N := 8) hx hb hts w2 hown hC.1 hP 0 rfl rfl 2 (by decide) w6 (fun _ h9 => h9) rfl dX10_spoil_28 ?_
      refine lv_aload_n hx hb dX10_spoil_31 rfl (lv_at hl 0 rfl) ?_
      refine va_get (D := E.1) (ci := 8) (v := .ref (a0 26)) (C := RX10) (T := TX10) (N := 8) hx hb hts w2 hown hC.1 hP 0 rfl rfl 3 (by decide) w1 (fun _ h9 => h9) rfl dX10_spoil_32 ?_
      obtain ⟨r3, e3, hf⟩ := bd_some hf
      have hrv := va_recv hC.1 hP (ci := 0) (q0 := 24) rfl rfl
      have hpm := gc_perm E a0 db di v0
      have hP := hP.perm hpm
      have hD := hD.perm hpm
      refine cp_v (wc := wAK E (fun k => a0 (k + 24)) db v0.2.2.1 v0.2.2.2.1) (wf := (fun q : (Nat → Nat → Nat) × ACT => wAK E (fun k => a0 (k + 24)) q.1 q.2 v0.2.2.2.1)) hP hD hS hA (va_runV (As := [.ref (a0 26)]) (rest := []) ⟨hx, hb, hml, hown, hts⟩ (c_X0_keep l E s.heap.size (fun k => a0 (k + 24)) db v0.2.2.1 v0.2.2.2.1 r3 e3) (cwV 1 hts gX10_spoil_X0_keep rfl rfl rfl hdV_X0_keep ⟨Nat.le_of_ble_eq_true rfl, Nat.le_of_ble_eq_true rfl⟩) ⟨PW.blind, hrv, PW.pre hC hS (va_P.of (fun z hz => hP.mem (List.mem_append_right _ hz))) hD.right (va_freeR hD hS hA)⟩ rfl rfl hl.1 rfl (lv_room (Nat.le_of_ble_eq_true rfl)) dX10_spoil_35 ⟨Nat.le_of_ble_eq_true rfl, Nat.le_of_ble_eq_true rfl⟩) (fun u9 H locs hw9 hP hD hS => ?_)
      obtain ⟨db, u9⟩ := u9
      have hw9 : r3 = u9 := hw9.symm
      subst hw9
      have hpm := (gc_perm E a0 db di (v0.1, v0.2.1, r3, v0.2.2.2.1, v0.2.2.2.2.1, v0.2.2.2.2.2.1, v0.2.2.2.2.2.2.1, v0.2.2.2.2.2.2.2)).symm
      have hP : va_P E.1 vwCl (wGC E a0 db di (v0.1, v0.2.1, r3, v0.2.2.2.1, v0.2.2.2.2.1, v0.2.2.2.2.2.1, v0.2.2.2.2.2.2.1, v0.2.2.2.2.2.2.2)) H := hP.perm hpm
      have hD : va_D A (wGC E a0 db di (v0.1, v0.2.1, r3, v0.2.2.2.1, v0.2.2.2.2.1, v0.2.2.2.2.2.1, v0.2.2.2.2.2.2.1, v0.2.2.2.2.2.2.2)) := hD.perm hpm
      refine lv_aload_n hx hb dX10_spoil_38 rfl (lv_at hl 0 rfl) ?_
      refine va_get (D := E.1) (ci := 8) (v := .ref (a0 26)) (C := RX10) (T := TX10) (N := 8) hx hb hts w2 hown hC.1 hP 0 rfl rfl 3 (by decide) w1 (fun _ h9 => h9) rfl dX10_spoil_39 ?_
      refine va_get (D := E.1) (ci := 4) (v := .ref (a0 27)) (C := RX5) (T := TX5) (N := 9) hx hb hts w4 hown hC.1 hP 26 rfl rfl 5 (by decide) w3 (fun _ h9 => h9) rfl dX10_spoil_42 ?_
      refine va_get (D := E.1) (ci := 6) (v := .ref (a0 29)) (C := RX8) (T := TX8) (N := 4) hx hb hts w8 hown hC.1 hP 27 rfl rfl 3 (by decide) w7 (fun _ h9 => h9) rfl dX10_spoil_45 ?_
      refine lv_iload_n hx hb dX10_spoil_48 rfl (lv_at hl 1 rfl) ?_
      obtain ⟨h4, hf⟩ := gdI_some hf
      refine va_iald hx hb hC.1 hP 29 0 rfl rfl h4 dX10_spoil_49 ?_
      refine lv_istore_n (lv' := [(3, .int (v0.2.2.2.1.2.2.2.2.2.1.2.2.2 p1.toNatClampNeg)), (0, .ref (a0 0)), (1, .int p1), (2, .int p2)]) hx hb dX10_spoil_50 rfl hl (by decide) rfl (fun ls hl => ?_)
      refine lv_aload_n hx hb dX10_spoil_51 rfl (lv_at hl 1 rfl) ?_
      refine va_get (D := E.1) (ci := 8) (v := .ref (a0 26)) (C := RX10) (T := TX10) (N := 8) hx hb hts w2 hown hC.1 hP 0 rfl rfl 3 (by decide) w1 (fun _ h9 => h9) rfl dX10_spoil_52 ?_
      refine va_get (D := E.1) (ci := 4) (v := .ref (a0 27)) (C := RX5) (T := TX5) (N := 9) hx hb hts w4 hown hC.1 hP 26 rfl rfl 5 (by decide) w3 (fun _ h9 => h9) rfl dX10_spoil_55 ?_
      refine va_get (D := E.1) (ci := 6) (v := .ref (a0 29)) (C := RX8) (T := TX8) (N := 4) hx hb hts w8 hown hC.1 hP 27 rfl rfl 3 (by decide) w7 (fun _ h9 => h9) rfl dX10_spoil_58 ?_
      refine lv_iload_n hx hb dX10_spoil_61 rfl (lv_at hl 2 rfl) ?_
      refine lv_iload_n hx hb dX10_spoil_62 rfl (lv_at hl 3 rfl) ?_
      obtain ⟨h5, hf⟩ := gdI_some hf
      refine va_iast hx hb hC.1 hP hD hS 29 0 rfl rfl h5 dX10_spoil_63 (fun H locs hP hD hS => ?_)
      have hP : va_P E.1 vwCl (wGC E a0 db di (v0.1, v0.2.1, r3, (v0.2.2.2.1.1, v0.2.2.2.1.2.1, v0.2.2.2.1.2.2.1, v0.2.2.2.1.2.2.2.1, v0.2.2.2.1.2.2.2.2.1, (v0.2.2.2.1.2.2.2.2.2.1.1, v0.2.2.2.1.2.2.2.2.2.1.2.1, v0.2.2.2.1.2.2.2.2.2.1.2.2.1, (upd v0.2.2.2.1.2.2.2.2.2.1.2.2.2 p1.toNatClampNeg p2)), v0.2.2.2.1.2.2.2.2.2.2.1, v0.2.2.2.1.2.2.2.2.2.2.2.1, v0.2.2.2.1.2.2.2.2.2.2.2.2), v0.2.2.2.2.1, v0.2.2.2.2.2.1, v0.2.2.2.2.2.2.1, v0.2.2.2.2.2.2.2)) H := hP
      have hD : va_D A (wGC E a0 db di (v0.1, v0.2.1, r3, (v0.2.2.2.1.1, v0.2.2.2.1.2.1, v0.2.2.2.1.2.2.1, v0.2.2.2.1.2.2.2.1, v0.2.2.2.1.2.2.2.2.1, (v0.2.2.2.1.2.2.2.2.2.1.1, v0.2.2.2.1.2.2.2.2.2.1.2.1, v0.2.2.2.1.2.2.2.2.2.1.2.2.1, (upd v0.2.2.2.1.2.2.2.2.2.1.2.2.2 p1.toNatClampNeg p2)), v0.2.2.2.1.2.2.2.2.2.2.1, v0.2.2.2.1.2.2.2.2.2.2.2.1, v0.2.2.2.1.2.2.2.2.2.2.2.2), v0.2.2.2.2.1, v0.2.2.2.2.2.1, v0.2.2.2.2.2.2.1, v0.2.2.2.2.2.2.2)) := hD
      refine lv_iload_n hx hb dX10_spoil_64 rfl (lv_at hl 0 rfl) ?_
      cases Option.some.inj hf
      subst hQe
      exact eg_i hx hb hr hlocks hP hD hS dX10_spoil_65
    · have hf := it_t hf c2
      refine lv_ldc hx hb hown w5 dX10_spoil_24 ?_
      cases Option.some.inj hf
      subst hQe
      refine W.widen (k := 19) (n := 1854) (by decide) (by decide) ?_
      exact eg_i hx hb hr hlocks hP hD hS dX10_spoil_26

/-! X10_beat -/
abbrev rmX10_beat : Room := { frames := 5, cells := 19, slots := 1854, locals := 123 }
theorem hdS_X10_beat : yX10_beat.cls ≠ "java/lang/invoke/MethodHandle" ∧ yX10_beat.cls ≠ "java/lang/invoke/VarHandle" ∧ (parseMethodDescriptor yX10_beat.desc).map (fun d => d.parameters.length) = some 1 := by decide +kernel
theorem hdV_X10_beat : yX10_beat.cls = RX10 ∧ yX10_beat.cls ≠ "java/lang/invoke/MethodHandle" ∧ yX10_beat.cls ≠ "java/lang/invoke/VarHandle" ∧ (parseMethodDescriptor yX10_beat.desc).map (fun d => d.parameters.length) = some 1 := ⟨rfl, hdS_X10_beat⟩
set_option maxHeartbeats 4000000 in
set_option maxRecDepth 100000 in
theorem c_X10_beat (l : Launch) (E : G0) (sz : Nat) (a0 : Nat → Nat) (db di : Nat → Nat → Nat) (v0 : GC) (p1 : Int32) (x : Int32 × GC) (hf : f_X10_beat v0 p1 = some x) : Met l yX10_beat wsX10_beat rmX10_beat (va_Pc [.ref (a0 0), .int p1] (PW E (wGC E a0 db di v0) sz)) (va_Qi (fun r (q : DA × GC) => r = x.1 ∧ q.2 = x.2) (fun q t => va_P E.1 vwCl (wGC E a0 q.1.1 q.1.2 q.2) t.heap ∧ va_D (va_A (wGC E a0 db di v0) sz) (wGC E a0 q.1.1 q.1.2 q.2)) (va_A (wGC E a0 db di v0) sz)) 19 1854 (va_A (wGC E a0 db di v0) sz) := by
  refine Met.ofW (cc := cX10_beat) (maxL := 2) (ret := some .int) (by decide) rfl ?_
  intro p e s m args below meth c s₁ B hml hv
  obtain ⟨ha, hsz, hP, hD0, hC⟩ := hv
  have hx := B.exec
  have hb := B.bytes
  have hr := B.returns
  have hts := atoms_spec (ws := wsX10_beat) B.pre
  have hown : s.vm.findClass RX10 = some m.cls := findClass_of_methodNamed B.named
  have hlocks := B.notSynchronized
  subst hsz
  have hD := hD0.self (sz := s.heap.size)
  generalize hAe : va_A (wGC E a0 db di v0) s.heap.size = A at hD hC ⊢
  have hA : ∀ q : Nat, s.heap.size ≤ q → A q := fun q h => by rw [← hAe]; exact Or.inr h
  have hS : va_S A s.heap s.heap [] := va_S.rf
  have w1 : (Cond.fieldLink RX10 31 "GreatChunks" "house" "LGreatChunks$House;").before args s = true := hts _ (List.mem_of_getElem? (i := 1) rfl)
  have w2 : ∀ w ∈ wsX100, w ∈ wsX10_beat := in_pl 164 rfl
  have w3 : (Cond.fieldLink RX10 170 "GreatChunks$House" "servers" "LGreatChunks$Servers;").before args s = true := hts _ (List.mem_of_getElem? (i := 2) rfl)
  have w4 : ∀ w ∈ wsX50, w ∈ wsX10_beat := in_pl 172 rfl
  have w5 : (Cond.constant RX10 54 (-1000001)).before args s = true := hts _ (List.mem_of_getElem? (i := 3) rfl)
  have w6 : (Cond.constant RX10 99 (-1000002)).before args s = true := hts _ (List.mem_of_getElem? (i := 4) rfl)
  have w7 : (Cond.fieldLink RX10 24 "GreatChunks" "acts" "LGreatChunks$Acts;").before args s = true := hts _ (List.mem_of_getElem? (i := 5) rfl)
  generalize hQe : MQ below (va_Qi (fun r (q : DA × GC) => r = x.1 ∧ q.2 = x.2) (fun q t => va_P E.1 vwCl (wGC E a0 q.1.1 q.1.2 q.2) t.heap ∧ va_D A (wGC E a0 q.1.1 q.1.2 q.2)) A) args s 19 1854 A = Q
  refine st_W ha (Nat.le_of_ble_eq_true rfl) (fun ls hl => ?_)
  have hl : lv_has ls 2 [(0, .ref (a0 0)), (1, .int p1)] := hl
  unfold f_X10_beat at hf
  refine lv_aload_n hx hb dX10_beat_0 rfl (lv_at hl 0 rfl) ?_
  refine va_get (D := E.1) (ci := 8) (v := .ref (a0 26)) (C := RX10) (T := TX10) (N := 8) hx hb hts w2 hown hC.1 hP 0 rfl rfl 3 (by decide) w1 (fun _ h9 => h9) rfl dX10_beat_1 ?_
  refine va_get (D := E.1) (ci := 4) (v := .ref (a0 27)) (C := RX5) (T := TX5) (N := 9) hx hb hts w4 hown hC.1 hP 26 rfl rfl 5 (by decide) w3 (fun _ h9 => h9) rfl dX10_beat_4 ?_
  refine lv_iload_n hx hb dX10_beat_7 rfl (lv_at hl 1 rfl) ?_
  refine cr_i (va_runV (As := [.int p1]) (rest := []) ⟨hx, hb, hml, hown, hts⟩ (c_X8_has l E (fun k => a0 (k + 27)) v0.2.2.2.1.2.2.2.2.2.1 p1 _ rfl) (cwV 1 hts gX10_beat_X8_has rfl rfl rfl hdV_X8_has ⟨Nat.le_of_ble_eq_true rfl, Nat.le_of_ble_eq_true rfl⟩) ⟨PR.blind, va_recv hC.1 hP (ci := 6) (q0 := 27) rfl rfl, PR.pre hC hS (hP.sub [27, 28, 29] rfl)⟩ rfl rfl hl.1 rfl (lv_room (Nat.le_of_ble_eq_true rfl)) dX10_beat_8 ⟨Nat.le_of_ble_eq_true rfl, Nat.le_of_ble_eq_true rfl⟩) ?_
  refine lv_if_ne (tgt := 17) hx hb dX10_beat_11 rfl (fun c1 => ?_) (fun c1 => ?_)
  · have hf := it_f hf c1
    refine lv_aload_n hx hb dX10_beat_17 rfl (lv_at hl 0 rfl) ?_
    refine va_get (D := E.1) (ci := 8) (v := .ref (a0 26)) (C := RX10) (T := TX10) (N := 8) hx hb hts w2 hown hC.1 hP 0 rfl rfl 3 (by decide) w1 (fun _ h9 => h9) rfl dX10_beat_18 ?_
    refine va_get (D := E.1) (ci := 4) (v := .ref (a0 27)) (C := RX5) (T := TX5) (N := 9) hx hb hts w4 hown hC.1 hP 26 rfl rfl 5 (by decide) w3 (fun _ h9 => h9) rfl dX10_beat_21 ?_
    refine lv_iload_n hx hb dX10_beat_24 rfl (lv_at hl 1 rfl) ?_
    refine cr_i (va_runV (As := [.int p1]) (rest := []) ⟨hx, hb, hml, hown, hts⟩ (c_X8_hasUp l E (fun k => a0 (k + 27)) v0.2.2.2.1.2.2.2.2.2.1 p1 _ rfl) (cwV 1 hts gX10_beat_X8_hasUp rfl rfl rfl hdV_X8_hasUp ⟨Nat.le_of_ble_eq_true rfl, Nat.le_of_ble_eq_true rfl⟩) ⟨PR.blind, va_recv hC.1 hP (ci := 6) (q0 := 27) rfl rfl, PR.pre hC hS (hP.sub [27, 28, 29] rfl)⟩ rfl rfl hl.1 rfl (lv_room (Nat.le_of_ble_eq_true rfl)) dX10_beat_25 ⟨Nat.le_of_ble_eq_true rfl, Nat.le_of_ble_eq_true rfl⟩) ?_
    refine lv_if_ne (tgt := 34) hx hb dX10_beat_28 rfl (fun c2 => ?_) (fun c2 => ?_)
    · have hf := it_f hf c2
      refine lv_aload_n hx hb dX10_beat_34 rfl (lv_at hl 0 rfl) ?_
      refine va_get (D := E.1) (ci := 8) (v := .ref (a0 24)) (C := RX10) (T := TX10) (N := 8) hx hb hts w2 hown hC.1 hP 0 rfl rfl 2 (by decide) w7 (fun _ h9 => h9) rfl dX10_beat_35 ?_
      refine lv_aload_n hx hb dX10_beat_38 rfl (lv_at hl 0 rfl) ?_
      refine va_get (D := E.1) (ci := 8) (v := .ref (a0 26)) (C := RX10) (T := TX10) (N := 8) hx hb hts w2 hown hC.1 hP 0 rfl rfl 3 (by decide) w1 (fun _ h9 => h9) rfl dX10_beat_39 ?_
      obtain ⟨r3, e3, hf⟩ := bd_some hf
      have hrv := va_recv hC.1 hP (ci := 0) (q0 := 24) rfl rfl
      have hpm := gc_perm E a0 db di v0
      have hP := hP.perm hpm
      have hD := hD.perm hpm
      refine cp_v (wc := wAK E (fun k => a0 (k + 24)) db v0.2.2.1 v0.2.2.2.1) (wf := (fun q : (Nat → Nat → Nat) × ACT => wAK E (fun k => a0 (k + 24)) q.1 q.2 v0.2.2.2.1)) hP hD hS hA (va_runV (As := [.ref (a0 26)]) (rest := []) ⟨hx, hb, hml, hown, hts⟩ (c_X0_keep l E s.heap.size (fun k => a0 (k + 24)) db v0.2.2.1 v0.2.2.2.1 r3 e3) (cwV 1 hts gX10_beat_X0_keep rfl rfl rfl hdV_X0_keep ⟨Nat.le_of_ble_eq_true rfl, Nat.le_of_ble_eq_true rfl⟩) ⟨PW.blind, hrv, PW.pre hC hS (va_P.of (fun z hz => hP.mem (List.mem_append_right _ hz))) hD.right (va_freeR hD hS hA)⟩ rfl rfl hl.1 rfl (lv_room (Nat.le_of_ble_eq_true rfl)) dX10_beat_42 ⟨Nat.le_of_ble_eq_true rfl, Nat.le_of_ble_eq_true rfl⟩) (fun u9 H locs hw9 hP hD hS => ?_)
      obtain ⟨db, u9⟩ := u9
      have hw9 : r3 = u9 := hw9.symm
      subst hw9
      have hpm := (gc_perm E a0 db di (v0.1, v0.2.1, r3, v0.2.2.2.1, v0.2.2.2.2.1, v0.2.2.2.2.2.1, v0.2.2.2.2.2.2.1, v0.2.2.2.2.2.2.2)).symm
      have hP : va_P E.1 vwCl (wGC E a0 db di (v0.1, v0.2.1, r3, v0.2.2.2.1, v0.2.2.2.2.1, v0.2.2.2.2.2.1, v0.2.2.2.2.2.2.1, v0.2.2.2.2.2.2.2)) H := hP.perm hpm
      have hD : va_D A (wGC E a0 db di (v0.1, v0.2.1, r3, v0.2.2.2.1, v0.2.2.2.2.1, v0.2.2.2.2.2.1, v0.2.2.2.2.2.2.1, v0.2.2.2.2.2.2.2)) := hD.perm hpm
      refine lv_aload_n hx hb dX10_beat_45 rfl (lv_at hl 0 rfl) ?_
      refine va_get (D := E.1) (ci := 8) (v := .ref (a0 26)) (C := RX10) (T := TX10) (N := 8) hx hb hts w2 hown hC.1 hP 0 rfl rfl 3 (by decide) w1 (fun _ h9 => h9) rfl dX10_beat_46 ?_
      refine lv_iload_n hx hb dX10_beat_49 rfl (lv_at hl 1 rfl) ?_
      obtain ⟨r4, e4, hf⟩ := bd_some hf
      refine cqt_i (wc := (wHS E (fun k => a0 (k + 26)) v0.2.2.2.1)) (ws := wG0 E a0 db di (v0.1, v0.2.1, r3, v0.2.2.2.1, v0.2.2.2.2.1, v0.2.2.2.2.2.1, v0.2.2.2.2.2.2.1, v0.2.2.2.2.2.2.2)) (tl := wGT E db di (v0.1, v0.2.1, r3, v0.2.2.2.1, v0.2.2.2.2.1, v0.2.2.2.2.2.1, v0.2.2.2.2.2.2.1, v0.2.2.2.2.2.2.2)) hP hD hS hA [26, 27, 28, 29, 30, 31, 32, 33, 34, 35, 36, 37, 38, 39, 40, 41, 42, 43, 44] [0, 1, 2, 3, 4, 5, 6, 7, 8, 9, 10, 11, 12, 13, 14, 15, 16, 17, 18, 19, 20, 21, 22, 23, 24, 25] (va_runV (As := [.int p1]) (rest := []) ⟨hx, hb, hml, hown, hts⟩ (c_X5_throwAway l E H.size (fun k => a0 (k + 26)) v0.2.2.2.1 p1 r4 e4) (cwV 1 hts gX10_beat_X5_throwAway rfl rfl rfl hdV_X5_throwAway ⟨Nat.le_of_ble_eq_true rfl, Nat.le_of_ble_eq_true rfl⟩) ⟨PW.blind, va_recv hC.1 hP (ci := 4) (q0 := 26) rfl rfl, PW.pre hC hS (hP.sub [26, 27, 28, 29, 30, 31, 32, 33, 34, 35, 36, 37, 38, 39, 40, 41, 42, 43, 44] rfl) (hD.sub [26, 27, 28, 29, 30, 31, 32, 33, 34, 35, 36, 37, 38, 39, 40, 41, 42, 43, 44] rfl rfl) (va_free hD hS hA [26, 27, 28, 29, 30, 31, 32, 33, 34, 35, 36, 37, 38, 39, 40, 41, 42, 43, 44] rfl)⟩ rfl rfl hl.1 rfl (lv_room (Nat.le_of_ble_eq_true rfl)) dX10_beat_50 ⟨Nat.le_of_ble_eq_true rfl, Nat.le_of_ble_eq_true rfl⟩) 45 rfl (by decide +kernel) rfl (wG0 E a0 db di (v0.1, v0.2.1, r3, r4.2, v0.2.2.2.2.1, v0.2.2.2.2.2.1, v0.2.2.2.2.2.2.1, v0.2.2.2.2.2.2.2)) rfl rfl (fun H locs hP hD hS => ?_)
      have hP : va_P E.1 vwCl (wGC E a0 db di (v0.1, v0.2.1, r3, r4.2, v0.2.2.2.2.1, v0.2.2.2.2.2.1, v0.2.2.2.2.2.2.1, v0.2.2.2.2.2.2.2)) H := hP
      have hD : va_D A (wGC E a0 db di (v0.1, v0.2.1, r3, r4.2, v0.2.2.2.2.1, v0.2.2.2.2.2.1, v0.2.2.2.2.2.2.1, v0.2.2.2.2.2.2.2)) := hD
      cases Option.some.inj hf
      subst hQe
      exact eg_i hx hb hr hlocks hP hD hS dX10_beat_53
    · have hf := it_t hf c2
      refine lv_ldc hx hb hown w6 dX10_beat_31 ?_
      cases Option.some.inj hf
      subst hQe
      refine W.widen (k := 19) (n := 1854) (by decide) (by decide) ?_
      exact eg_i hx hb hr hlocks hP hD hS dX10_beat_33
  · have hf := it_t hf c1
    refine lv_ldc hx hb hown w5 dX10_beat_14 ?_
    cases Option.some.inj hf
    subst hQe
    refine W.widen (k := 19) (n := 1854) (by decide) (by decide) ?_
    exact eg_i hx hb hr hlocks hP hD hS dX10_beat_16

/-! X10_mend -/
abbrev rmX10_mend : Room := { frames := 7, cells := 19, slots := 1854, locals := 156 }
theorem hdS_X10_mend : yX10_mend.cls ≠ "java/lang/invoke/MethodHandle" ∧ yX10_mend.cls ≠ "java/lang/invoke/VarHandle" ∧ (parseMethodDescriptor yX10_mend.desc).map (fun d => d.parameters.length) = some 0 := by decide +kernel
theorem hdV_X10_mend : yX10_mend.cls = RX10 ∧ yX10_mend.cls ≠ "java/lang/invoke/MethodHandle" ∧ yX10_mend.cls ≠ "java/lang/invoke/VarHandle" ∧ (parseMethodDescriptor yX10_mend.desc).map (fun d => d.parameters.length) = some 0 := ⟨rfl, hdS_X10_mend⟩
set_option maxHeartbeats 4000000 in
set_option maxRecDepth 100000 in
theorem c_X10_mend (l : Launch) (E : G0) (sz : Nat) (a0 : Nat → Nat) (db di : Nat → Nat → Nat) (v0 : GC) (x : Int32 × GC) (hf : f_X10_mend v0 = some x) : Met l yX10_mend wsX10_mend rmX10_mend (va_Pc [.ref (a0 0)] (PW E (wGC E a0 db di v0) sz)) (va_Qi (fun r (q : DA × GC) => r = x.1 ∧ q.2 = x.2) (fun q t => va_P E.1 vwCl (wGC E a0 q.1.1 q.1.2 q.2) t.heap ∧ va_D (va_A (wGC E a0 db di v0) sz) (wGC E a0 q.1.1 q.1.2 q.2)) (va_A (wGC E a0 db di v0) sz)) 19 1854 (va_A (wGC E a0 db di v0) sz) := by
  refine Met.ofW (cc := cX10_mend) (maxL := 2) (ret := some .int) (by decide) rfl ?_
  intro p e s m args below meth c s₁ B hml hv
  obtain ⟨ha, hsz, hP, hD0, hC⟩ := hv
  have hx := B.exec
  have hb := B.bytes
  have hr := B.returns
  have hts := atoms_spec (ws := wsX10_mend) B.pre
  have hown : s.vm.findClass RX10 = some m.cls := findClass_of_methodNamed B.named
  have hlocks := B.notSynchronized
  subst hsz
  have hD := hD0.self (sz := s.heap.size)
  generalize hAe : va_A (wGC E a0 db di v0) s.heap.size = A at hD hC ⊢
  have hA : ∀ q : Nat, s.heap.size ≤ q → A q := fun q h => by rw [← hAe]; exact Or.inr h
  have hS : va_S A s.heap s.heap [] := va_S.rf
  have w1 : (Cond.fieldLink RX10 42 "GreatChunks" "standing" "Z").before args s = true := hts _ (List.mem_of_getElem? (i := 1) rfl)
  have w2 : ∀ w ∈ wsX100, w ∈ wsX10_mend := in_pl 237 rfl
  have w3 : (Cond.constant RX10 99 (-1000002)).before args s = true := hts _ (List.mem_of_getElem? (i := 2) rfl)
  have w4 : (Cond.fieldLink RX10 31 "GreatChunks" "house" "LGreatChunks$House;").before args s = true := hts _ (List.mem_of_getElem? (i := 3) rfl)
  have w5 : (Cond.constant RX10 191 (-1000000)).before args s = true := hts _ (List.mem_of_getElem? (i := 4) rfl)
  have w6 : (Cond.fieldLink RX10 24 "GreatChunks" "acts" "LGreatChunks$Acts;").before args s = true := hts _ (List.mem_of_getElem? (i := 5) rfl)
  generalize hQe : MQ below (va_Qi (fun r (q : DA × GC) => r = x.1 ∧ q.2 = x.2) (fun q t => va_P E.1 vwCl (wGC E a0 q.1.1 q.1.2 q.2) t.heap ∧ va_D A (wGC E a0 q.1.1 q.1.2 q.2)) A) args s 19 1854 A = Q
  refine st_W ha (Nat.le_of_ble_eq_true rfl) (fun ls hl => ?_)
  have hl : lv_has ls 2 [(0, .ref (a0 0))] := hl
  unfold f_X10_mend at hf
  refine lv_aload_n hx hb dX10_mend_0 rfl (lv_at hl 0 rfl) ?_
  refine va_get (D := E.1) (ci := 8) (v := .int v0.2.2.2.2.2.2.1) (C := RX10) (T := TX10) (N := 8) hx hb hts w2 hown hC.1 hP 0 rfl rfl 6 (by decide) w1 (fun _ h9 => h9) rfl dX10_mend_1 ?_
  refine lv_if_ne (tgt := 10) hx hb dX10_mend_4 rfl (fun c1 => ?_) (fun c1 => ?_)
  · have hf := it_f hf c1
    refine lv_aload_n hx hb dX10_mend_10 rfl (lv_at hl 0 rfl) ?_
    refine va_get (D := E.1) (ci := 8) (v := .ref (a0 26)) (C := RX10) (T := TX10) (N := 8) hx hb hts w2 hown hC.1 hP 0 rfl rfl 3 (by decide) w4 (fun _ h9 => h9) rfl dX10_mend_11 ?_
    obtain ⟨r2, e2, hf⟩ := bd_some hf
    refine cr_i (va_runV (As := []) (rest := []) ⟨hx, hb, hml, hown, hts⟩ (c_X5_firstToMend l E (fun k => a0 (k + 26)) v0.2.2.2.1 r2 e2) (cwV 0 hts gX10_mend_X5_firstToMend rfl rfl rfl hdV_X5_firstToMend ⟨Nat.le_of_ble_eq_true rfl, Nat.le_of_ble_eq_true rfl⟩) ⟨PR.blind, va_recv hC.1 hP (ci := 4) (q0 := 26) rfl rfl, PR.pre hC hS (hP.sub [26, 27, 28, 29, 30, 31, 32, 33, 34, 35, 36, 37, 38, 39, 40, 41, 42, 43, 44] rfl)⟩ rfl rfl hl.1 rfl (lv_room (Nat.le_of_ble_eq_true rfl)) dX10_mend_14 ⟨Nat.le_of_ble_eq_true rfl, Nat.le_of_ble_eq_true rfl⟩) ?_
    refine lv_istore_n (lv' := [(1, .int r2), (0, .ref (a0 0))]) hx hb dX10_mend_17 rfl hl (by decide) rfl (fun ls hl => ?_)
    refine lv_iload_n hx hb dX10_mend_18 rfl (lv_at hl 0 rfl) ?_
    refine lv_iconst (v := (-1)) hx hb dX10_mend_19 rfl ?_
    refine lv_icmp_ne (tgt := 26) hx hb dX10_mend_20 rfl (fun c3 => ?_) (fun c3 => ?_)
    · have hf := it_f hf c3
      refine lv_aload_n hx hb dX10_mend_26 rfl (lv_at hl 1 rfl) ?_
      refine va_get (D := E.1) (ci := 8) (v := .ref (a0 24)) (C := RX10) (T := TX10) (N := 8) hx hb hts w2 hown hC.1 hP 0 rfl rfl 2 (by decide) w6 (fun _ h9 => h9) rfl dX10_mend_27 ?_
      refine lv_aload_n hx hb dX10_mend_30 rfl (lv_at hl 1 rfl) ?_
      refine va_get (D := E.1) (ci := 8) (v := .ref (a0 26)) (C := RX10) (T := TX10) (N := 8) hx hb hts w2 hown hC.1 hP 0 rfl rfl 3 (by decide) w4 (fun _ h9 => h9) rfl dX10_mend_31 ?_
      obtain ⟨r4, e4, hf⟩ := bd_some hf
      have hrv := va_recv hC.1 hP (ci := 0) (q0 := 24) rfl rfl
      have hpm := gc_perm E a0 db di v0
      have hP := hP.perm hpm
      have hD := hD.perm hpm
      refine cp_v (wc := wAK E (fun k => a0 (k + 24)) db v0.2.2.1 v0.2.2.2.1) (wf := (fun q : (Nat → Nat → Nat) × ACT => wAK E (fun k => a0 (k + 24)) q.1 q.2 v0.2.2.2.1)) hP hD hS hA (va_runV (As := [.ref (a0 26)]) (rest := []) ⟨hx, hb, hml, hown, hts⟩ (c_X0_keep l E s.heap.size (fun k => a0 (k + 24)) db v0.2.2.1 v0.2.2.2.1 r4 e4) (cwV 1 hts gX10_mend_X0_keep rfl rfl rfl hdV_X0_keep ⟨Nat.le_of_ble_eq_true rfl, Nat.le_of_ble_eq_true rfl⟩) ⟨PW.blind, hrv, PW.pre hC hS (va_P.of (fun z hz => hP.mem (List.mem_append_right _ hz))) hD.right (va_freeR hD hS hA)⟩ rfl rfl hl.1 rfl (lv_room (Nat.le_of_ble_eq_true rfl)) dX10_mend_34 ⟨Nat.le_of_ble_eq_true rfl, Nat.le_of_ble_eq_true rfl⟩) (fun u9 H locs hw9 hP hD hS => ?_)
      obtain ⟨db, u9⟩ := u9
      have hw9 : r4 = u9 := hw9.symm
      subst hw9
      have hpm := (gc_perm E a0 db di (v0.1, v0.2.1, r4, v0.2.2.2.1, v0.2.2.2.2.1, v0.2.2.2.2.2.1, v0.2.2.2.2.2.2.1, v0.2.2.2.2.2.2.2)).symm
      have hP : va_P E.1 vwCl (wGC E a0 db di (v0.1, v0.2.1, r4, v0.2.2.2.1, v0.2.2.2.2.1, v0.2.2.2.2.2.1, v0.2.2.2.2.2.2.1, v0.2.2.2.2.2.2.2)) H := hP.perm hpm
      have hD : va_D A (wGC E a0 db di (v0.1, v0.2.1, r4, v0.2.2.2.1, v0.2.2.2.2.1, v0.2.2.2.2.2.1, v0.2.2.2.2.2.2.1, v0.2.2.2.2.2.2.2)) := hD.perm hpm
      refine lv_aload_n hx hb dX10_mend_37 rfl (lv_at hl 1 rfl) ?_
      refine va_get (D := E.1) (ci := 8) (v := .ref (a0 26)) (C := RX10) (T := TX10) (N := 8) hx hb hts w2 hown hC.1 hP 0 rfl rfl 3 (by decide) w4 (fun _ h9 => h9) rfl dX10_mend_38 ?_
      refine lv_iload_n hx hb dX10_mend_41 rfl (lv_at hl 0 rfl) ?_
      obtain ⟨r5, e5, hf⟩ := bd_some hf
      refine cqt_v (wc := (wHS E (fun k => a0 (k + 26)) v0.2.2.2.1)) (ws := wG0 E a0 db di (v0.1, v0.2.1, r4, v0.2.2.2.1, v0.2.2.2.2.1, v0.2.2.2.2.2.1, v0.2.2.2.2.2.2.1, v0.2.2.2.2.2.2.2)) (tl := wGT E db di (v0.1, v0.2.1, r4, v0.2.2.2.1, v0.2.2.2.2.1, v0.2.2.2.2.2.1, v0.2.2.2.2.2.2.1, v0.2.2.2.2.2.2.2)) hP hD hS hA [26, 27, 28, 29, 30, 31, 32, 33, 34, 35, 36, 37, 38, 39, 40, 41, 42, 43, 44] [0, 1, 2, 3, 4, 5, 6, 7, 8, 9, 10, 11, 12, 13, 14, 15, 16, 17, 18, 19, 20, 21, 22, 23, 24, 25] (va_runV (As := [.int r2]) (rest := []) ⟨hx, hb, hml, hown, hts⟩ (c_X5_addCopy l E H.size (fun k => a0 (k + 26)) v0.2.2.2.1 r2 r5 e5) (cwV 1 hts gX10_mend_X5_addCopy rfl rfl rfl hdV_X5_addCopy ⟨Nat.le_of_ble_eq_true rfl, Nat.le_of_ble_eq_true rfl⟩) ⟨PW.blind, va_recv hC.1 hP (ci := 4) (q0 := 26) rfl rfl, PW.pre hC hS (hP.sub [26, 27, 28, 29, 30, 31, 32, 33, 34, 35, 36, 37, 38, 39, 40, 41, 42, 43, 44] rfl) (hD.sub [26, 27, 28, 29, 30, 31, 32, 33, 34, 35, 36, 37, 38, 39, 40, 41, 42, 43, 44] rfl rfl) (va_free hD hS hA [26, 27, 28, 29, 30, 31, 32, 33, 34, 35, 36, 37, 38, 39, 40, 41, 42, 43, 44] rfl)⟩ rfl rfl hl.1 rfl (lv_room (Nat.le_of_ble_eq_true rfl)) dX10_mend_42 ⟨Nat.le_of_ble_eq_true rfl, Nat.le_of_ble_eq_true rfl⟩) 45 rfl (by decide +kernel) rfl (wG0 E a0 db di (v0.1, v0.2.1, r4, r5, v0.2.2.2.2.1, v0.2.2.2.2.2.1, v0.2.2.2.2.2.2.1, v0.2.2.2.2.2.2.2)) rfl rfl (fun H locs hP hD hS => ?_)
      have hP : va_P E.1 vwCl (wGC E a0 db di (v0.1, v0.2.1, r4, r5, v0.2.2.2.2.1, v0.2.2.2.2.2.1, v0.2.2.2.2.2.2.1, v0.2.2.2.2.2.2.2)) H := hP
      have hD : va_D A (wGC E a0 db di (v0.1, v0.2.1, r4, r5, v0.2.2.2.2.1, v0.2.2.2.2.2.1, v0.2.2.2.2.2.2.1, v0.2.2.2.2.2.2.2)) := hD
      refine lv_iload_n hx hb dX10_mend_45 rfl (lv_at hl 0 rfl) ?_
      cases Option.some.inj hf
      subst hQe
      exact eg_i hx hb hr hlocks hP hD hS dX10_mend_46
    · have hf := it_t hf c3
      refine lv_ldc hx hb hown w5 dX10_mend_23 ?_
      cases Option.some.inj hf
      subst hQe
      refine W.widen (k := 19) (n := 1854) (by decide) (by decide) ?_
      exact eg_i hx hb hr hlocks hP hD hS dX10_mend_25
  · have hf := it_t hf c1
    refine lv_ldc hx hb hown w3 dX10_mend_7 ?_
    cases Option.some.inj hf
    subst hQe
    refine W.widen (k := 19) (n := 1854) (by decide) (by decide) ?_
    exact eg_i hx hb hr hlocks hP hD hS dX10_mend_9

/-! X10_server -/
abbrev rmX10_server : Room := { frames := 5, cells := 0, slots := 0, locals := 112 }
theorem hdS_X10_server : yX10_server.cls ≠ "java/lang/invoke/MethodHandle" ∧ yX10_server.cls ≠ "java/lang/invoke/VarHandle" ∧ (parseMethodDescriptor yX10_server.desc).map (fun d => d.parameters.length) = some 2 := by decide +kernel
theorem hdV_X10_server : yX10_server.cls = RX10 ∧ yX10_server.cls ≠ "java/lang/invoke/MethodHandle" ∧ yX10_server.cls ≠ "java/lang/invoke/VarHandle" ∧ (parseMethodDescriptor yX10_server.desc).map (fun d => d.parameters.length) = some 2 := ⟨rfl, hdS_X10_server⟩
set_option maxHeartbeats 4000000 in
set_option maxRecDepth 100000 in
theorem c_X10_server (l : Launch) (E : G0) (a0 : Nat → Nat) (db di : Nat → Nat → Nat) (v0 : GC) (p1 : Int32) (p2 : Int32) (x : Int32) (hf : f_X10_server v0 p1 p2 = some x) : Met l yX10_server wsX10_server rmX10_server (va_Pc [.ref (a0 0), .int p1, .int p2] (PR E (wGC E a0 db di v0))) (vp_Si (fun r => r = x)) 0 0 (fun _ => False) := by
  refine Met.ofW (cc := cX10_server) (maxL := 3) (ret := some .int) (by decide) rfl ?_
  intro p e s m args below meth c s₁ B hml hv
  obtain ⟨ha, hP, hC⟩ := hv
  have hx := B.exec
  have hb := B.bytes
  have hr := B.returns
  have hts := atoms_spec (ws := wsX10_server) B.pre
  have hown : s.vm.findClass RX10 = some m.cls := findClass_of_methodNamed B.named
  have hlocks := B.notSynchronized
  have hS : va_S (fun _ => False) s.heap s.heap [] := va_S.rf
  have w1 : (Cond.fieldLink RX10 31 "GreatChunks" "house" "LGreatChunks$House;").before args s = true := hts _ (List.mem_of_getElem? (i := 1) rfl)
  have w2 : ∀ w ∈ wsX100, w ∈ wsX10_server := in_pl 85 rfl
  have w3 : (Cond.fieldLink RX10 170 "GreatChunks$House" "servers" "LGreatChunks$Servers;").before args s = true := hts _ (List.mem_of_getElem? (i := 2) rfl)
  have w4 : ∀ w ∈ wsX50, w ∈ wsX10_server := in_pl 93 rfl
  have w5 : (Cond.constant RX10 54 (-1000001)).before args s = true := hts _ (List.mem_of_getElem? (i := 3) rfl)
  have w6 : (Cond.fieldLink RX10 199 "GreatChunks$House" "copies" "LGreatChunks$Copies;").before args s = true := hts _ (List.mem_of_getElem? (i := 4) rfl)
  have w7 : (Cond.fieldLink RX10 179 "GreatChunks$Servers" "spoilt" "[I").before args s = true := hts _ (List.mem_of_getElem? (i := 5) rfl)
  have w8 : ∀ w ∈ wsX80, w ∈ wsX10_server := in_pl 102 rfl
  have w9 : (Cond.constantFloat RX10 218 (1148846080)).before args s = true := hts _ (List.mem_of_getElem? (i := 6) rfl)
  generalize hQe : MQ below (vp_Si (fun r => r = x)) args s 0 0 (fun _ => False) = Q
  refine st_W ha (Nat.le_of_ble_eq_true rfl) (fun ls hl => ?_)
  have hl : lv_has ls 3 [(0, .ref (a0 0)), (1, .int p1), (2, .int p2)] := hl
  unfold f_X10_server at hf
  refine lv_aload_n hx hb dX10_server_0 rfl (lv_at hl 0 rfl) ?_
  refine va_get (D := E.1) (ci := 8) (v := .ref (a0 26)) (C := RX10) (T := TX10) (N := 8) hx hb hts w2 hown hC.1 hP 0 rfl rfl 3 (by decide) w1 (fun _ h9 => h9) rfl dX10_server_1 ?_
  refine va_get (D := E.1) (ci := 4) (v := .ref (a0 27)) (C := RX5) (T := TX5) (N := 9) hx hb hts w4 hown hC.1 hP 26 rfl rfl 5 (by decide) w3 (fun _ h9 => h9) rfl dX10_server_4 ?_
  refine lv_iload_n hx hb dX10_server_7 rfl (lv_at hl 1 rfl) ?_
  refine cr_i (va_runV (As := [.int p1]) (rest := []) ⟨hx, hb, hml, hown, hts⟩ (c_X8_has l E (fun k => a0 (k + 27)) v0.2.2.2.1.2.2.2.2.2.1 p1 _ rfl) (cwV 1 hts gX10_server_X8_has rfl rfl rfl hdV_X8_has ⟨Nat.le_of_ble_eq_true rfl, Nat.le_of_ble_eq_true rfl⟩) ⟨PR.blind, va_recv hC.1 hP (ci := 6) (q0 := 27) rfl rfl, PR.pre hC hS (hP.sub [27, 28, 29] rfl)⟩ rfl rfl hl.1 rfl (lv_room (Nat.le_of_ble_eq_true rfl)) dX10_server_8 ⟨Nat.le_of_ble_eq_true rfl, Nat.le_of_ble_eq_true rfl⟩) ?_
  refine lv_if_ne (tgt := 17) hx hb dX10_server_11 rfl (fun c1 => ?_) (fun c1 => ?_)
  · have hf := it_f hf c1
    refine lv_iload_n hx hb dX10_server_17 rfl (lv_at hl 2 rfl) ?_
    by_cases s2 : p2 = 0
    · have hf := it_t hf s2
      refine lv_tableIn (tgt := 60) (off := 42) hx hb dX10_server_18 (by rw [s2]; decide) (by rw [s2]; decide) (by rw [s2]; rfl) rfl ?_
      refine lv_aload_n hx hb dX10_server_60 rfl (lv_at hl 0 rfl) ?_
      refine va_get (D := E.1) (ci := 8) (v := .ref (a0 26)) (C := RX10) (T := TX10) (N := 8) hx hb hts w2 hown hC.1 hP 0 rfl rfl 3 (by decide) w1 (fun _ h9 => h9) rfl dX10_server_61 ?_
      refine va_get (D := E.1) (ci := 4) (v := .ref (a0 27)) (C := RX5) (T := TX5) (N := 9) hx hb hts w4 hown hC.1 hP 26 rfl rfl 5 (by decide) w3 (fun _ h9 => h9) rfl dX10_server_64 ?_
      refine lv_iload_n hx hb dX10_server_67 rfl (lv_at hl 1 rfl) ?_
      refine cr_i (va_runV (As := [.int p1]) (rest := []) ⟨hx, hb, hml, hown, hts⟩ (c_X8_hasUp l E (fun k => a0 (k + 27)) v0.2.2.2.1.2.2.2.2.2.1 p1 _ rfl) (cwV 1 hts gX10_server_X8_hasUp rfl rfl rfl hdV_X8_hasUp ⟨Nat.le_of_ble_eq_true rfl, Nat.le_of_ble_eq_true rfl⟩) ⟨PR.blind, va_recv hC.1 hP (ci := 6) (q0 := 27) rfl rfl, PR.pre hC hS (hP.sub [27, 28, 29] rfl)⟩ rfl rfl hl.1 rfl (lv_room (Nat.le_of_ble_eq_true rfl)) dX10_server_68 ⟨Nat.le_of_ble_eq_true rfl, Nat.le_of_ble_eq_true rfl⟩) ?_
      refine lv_if_eq (tgt := 78) hx hb dX10_server_71 rfl (fun c3 => ?_) (fun c3 => ?_)
      · have hf := it_t hf c3
        refine lv_iconst (v := 0) hx hb dX10_server_78 rfl ?_
        cases Option.some.inj hf
        subst hQe
        exact en_i hx hb hr hlocks dX10_server_79
      · have hf := it_f hf c3
        refine lv_iconst (v := 1) hx hb dX10_server_74 rfl ?_
        refine lv_goto (tgt := 79) hx hb dX10_server_75 rfl ?_
        cases Option.some.inj hf
        subst hQe
        exact en_i hx hb hr hlocks dX10_server_79
    have hf := it_f hf s2
    by_cases s4 : p2 = 1
    · have hf := it_t hf s4
      refine lv_tableIn (tgt := 80) (off := 62) hx hb dX10_server_18 (by rw [s4]; decide) (by rw [s4]; decide) (by rw [s4]; rfl) rfl ?_
      refine lv_aload_n hx hb dX10_server_80 rfl (lv_at hl 0 rfl) ?_
      refine va_get (D := E.1) (ci := 8) (v := .ref (a0 26)) (C := RX10) (T := TX10) (N := 8) hx hb hts w2 hown hC.1 hP 0 rfl rfl 3 (by decide) w1 (fun _ h9 => h9) rfl dX10_server_81 ?_
      refine va_get (D := E.1) (ci := 4) (v := .ref (a0 27)) (C := RX5) (T := TX5) (N := 9) hx hb hts w4 hown hC.1 hP 26 rfl rfl 5 (by decide) w3 (fun _ h9 => h9) rfl dX10_server_84 ?_
      refine lv_iload_n hx hb dX10_server_87 rfl (lv_at hl 1 rfl) ?_
      obtain ⟨r5, e5, hf⟩ := bd_some hf
      refine cr_i (va_runV (As := [.int p1]) (rest := []) ⟨hx, hb, hml, hown, hts⟩ (c_X8_roomOf l E (fun k => a0 (k + 27)) v0.2.2.2.1.2.2.2.2.2.1 p1 r5 e5) (cwV 1 hts gX10_server_X8_roomOf rfl rfl rfl hdV_X8_roomOf ⟨Nat.le_of_ble_eq_true rfl, Nat.le_of_ble_eq_true rfl⟩) ⟨PR.blind, va_recv hC.1 hP (ci := 6) (q0 := 27) rfl rfl, PR.pre hC hS (hP.sub [27, 28, 29] rfl)⟩ rfl rfl hl.1 rfl (lv_room (Nat.le_of_ble_eq_true rfl)) dX10_server_88 ⟨Nat.le_of_ble_eq_true rfl, Nat.le_of_ble_eq_true rfl⟩) ?_
      cases Option.some.inj hf
      subst hQe
      exact en_i hx hb hr hlocks dX10_server_91
    have hf := it_f hf s4
    by_cases s6 : p2 = 2
    · have hf := it_t hf s6
      refine lv_tableIn (tgt := 92) (off := 74) hx hb dX10_server_18 (by rw [s6]; decide) (by rw [s6]; decide) (by rw [s6]; rfl) rfl ?_
      refine lv_aload_n hx hb dX10_server_92 rfl (lv_at hl 0 rfl) ?_
      refine va_get (D := E.1) (ci := 8) (v := .ref (a0 26)) (C := RX10) (T := TX10) (N := 8) hx hb hts w2 hown hC.1 hP 0 rfl rfl 3 (by decide) w1 (fun _ h9 => h9) rfl dX10_server_93 ?_
      refine va_get (D := E.1) (ci := 4) (v := .ref (a0 35)) (C := RX5) (T := TX5) (N := 9) hx hb hts w4 hown hC.1 hP 26 rfl rfl 7 (by decide) w6 (fun _ h9 => h9) rfl dX10_server_96 ?_
      refine lv_iload_n hx hb dX10_server_99 rfl (lv_at hl 1 rfl) ?_
      obtain ⟨r7, e7, hf⟩ := bd_some hf
      refine cr_i (va_runV (As := [.int p1]) (rest := []) ⟨hx, hb, hml, hown, hts⟩ (c_X2_manyAt l E (fun k => a0 (k + 35)) v0.2.2.2.1.2.2.2.2.2.2.2.1 p1 r7 e7) (cwV 1 hts gX10_server_X2_manyAt rfl rfl rfl hdV_X2_manyAt ⟨Nat.le_of_ble_eq_true rfl, Nat.le_of_ble_eq_true rfl⟩) ⟨PR.blind, va_recv hC.1 hP (ci := 2) (q0 := 35) rfl rfl, PR.pre hC hS (hP.sub [35, 36, 37, 38] rfl)⟩ rfl rfl hl.1 rfl (lv_room (Nat.le_of_ble_eq_true rfl)) dX10_server_100 ⟨Nat.le_of_ble_eq_true rfl, Nat.le_of_ble_eq_true rfl⟩) ?_
      cases Option.some.inj hf
      subst hQe
      exact en_i hx hb hr hlocks dX10_server_103
    have hf := it_f hf s6
    by_cases s8 : p2 = 3
    · have hf := it_t hf s8
      refine lv_tableIn (tgt := 104) (off := 86) hx hb dX10_server_18 (by rw [s8]; decide) (by rw [s8]; decide) (by rw [s8]; rfl) rfl ?_
      refine lv_aload_n hx hb dX10_server_104 rfl (lv_at hl 0 rfl) ?_
      refine va_get (D := E.1) (ci := 8) (v := .ref (a0 26)) (C := RX10) (T := TX10) (N := 8) hx hb hts w2 hown hC.1 hP 0 rfl rfl 3 (by decide) w1 (fun _ h9 => h9) rfl dX10_server_105 ?_
      refine lv_iload_n hx hb dX10_server_108 rfl (lv_at hl 1 rfl) ?_
      obtain ⟨r9, e9, hf⟩ := bd_some hf
      refine cr_i (va_runV (As := [.int p1]) (rest := []) ⟨hx, hb, hml, hown, hts⟩ (c_X5_staleAt l E (fun k => a0 (k + 26)) v0.2.2.2.1 p1 r9 e9) (cwV 1 hts gX10_server_X5_staleAt rfl rfl rfl hdV_X5_staleAt ⟨Nat.le_of_ble_eq_true rfl, Nat.le_of_ble_eq_true rfl⟩) ⟨PR.blind, va_recv hC.1 hP (ci := 4) (q0 := 26) rfl rfl, PR.pre hC hS (hP.sub [26, 27, 28, 29, 30, 31, 32, 33, 34, 35, 36, 37, 38, 39, 40, 41, 42, 43, 44] rfl)⟩ rfl rfl hl.1 rfl (lv_room (Nat.le_of_ble_eq_true rfl)) dX10_server_109 ⟨Nat.le_of_ble_eq_true rfl, Nat.le_of_ble_eq_true rfl⟩) ?_
      cases Option.some.inj hf
      subst hQe
      exact en_i hx hb hr hlocks dX10_server_112
    have hf := it_f hf s8
    by_cases s10 : p2 = 4
    · have hf := it_t hf s10
      refine lv_tableIn (tgt := 113) (off := 95) hx hb dX10_server_18 (by rw [s10]; decide) (by rw [s10]; decide) (by rw [s10]; rfl) rfl ?_
      refine lv_aload_n hx hb dX10_server_113 rfl (lv_at hl 0 rfl) ?_
      refine va_get (D := E.1) (ci := 8) (v := .ref (a0 26)) (C := RX10) (T := TX10) (N := 8) hx hb hts w2 hown hC.1 hP 0 rfl rfl 3 (by decide) w1 (fun _ h9 => h9) rfl dX10_server_114 ?_
      refine lv_iload_n hx hb dX10_server_117 rfl (lv_at hl 1 rfl) ?_
      obtain ⟨r11, e11, hf⟩ := bd_some hf
      refine cr_i (va_runV (As := [.int p1]) (rest := []) ⟨hx, hb, hml, hown, hts⟩ (c_X5_forgottenAt l E (fun k => a0 (k + 26)) v0.2.2.2.1 p1 r11 e11) (cwV 1 hts gX10_server_X5_forgottenAt rfl rfl rfl hdV_X5_forgottenAt ⟨Nat.le_of_ble_eq_true rfl, Nat.le_of_ble_eq_true rfl⟩) ⟨PR.blind, va_recv hC.1 hP (ci := 4) (q0 := 26) rfl rfl, PR.pre hC hS (hP.sub [26, 27, 28, 29, 30, 31, 32, 33, 34, 35, 36, 37, 38, 39, 40, 41, 42, 43, 44] rfl)⟩ rfl rfl hl.1 rfl (lv_room (Nat.le_of_ble_eq_true rfl)) dX10_server_118 ⟨Nat.le_of_ble_eq_true rfl, Nat.le_of_ble_eq_true rfl⟩) ?_
      cases Option.some.inj hf
      subst hQe
      exact en_i hx hb hr hlocks dX10_server_121
    have hf := it_f hf s10
    by_cases s12 : p2 = 5
    · have hf := it_t hf s12
      refine lv_tableIn (tgt := 122) (off := 104) hx hb dX10_server_18 (by rw [s12]; decide) (by rw [s12]; decide) (by rw [s12]; rfl) rfl ?_
      refine lv_aload_n hx hb dX10_server_122 rfl (lv_at hl 0 rfl) ?_
      refine va_get (D := E.1) (ci := 8) (v := .ref (a0 26)) (C := RX10) (T := TX10) (N := 8) hx hb hts w2 hown hC.1 hP 0 rfl rfl 3 (by decide) w1 (fun _ h9 => h9) rfl dX10_server_123 ?_
      refine va_get (D := E.1) (ci := 4) (v := .ref (a0 27)) (C := RX5) (T := TX5) (N := 9) hx hb hts w4 hown hC.1 hP 26 rfl rfl 5 (by decide) w3 (fun _ h9 => h9) rfl dX10_server_126 ?_
      refine va_get (D := E.1) (ci := 6) (v := .ref (a0 29)) (C := RX8) (T := TX8) (N := 4) hx hb hts w8 hown hC.1 hP 27 rfl rfl 3 (by decide) w7 (fun _ h9 => h9) rfl dX10_server_129 ?_
      refine lv_iload_n hx hb dX10_server_132 rfl (lv_at hl 1 rfl) ?_
      obtain ⟨h13, hf⟩ := gdI_some hf
      refine va_iald hx hb hC.1 hP 29 0 rfl rfl h13 dX10_server_133 ?_
      cases Option.some.inj hf
      subst hQe
      exact en_i hx hb hr hlocks dX10_server_134
    have hf := it_f hf s12
    by_cases s14 : p2 = 6
    · have hf := it_t hf s14
      refine lv_tableIn (tgt := 135) (off := 117) hx hb dX10_server_18 (by rw [s14]; decide) (by rw [s14]; decide) (by rw [s14]; rfl) rfl ?_
      refine lv_aload_n hx hb dX10_server_135 rfl (lv_at hl 0 rfl) ?_
      refine va_get (D := E.1) (ci := 8) (v := .ref (a0 26)) (C := RX10) (T := TX10) (N := 8) hx hb hts w2 hown hC.1 hP 0 rfl rfl 3 (by decide) w1 (fun _ h9 => h9) rfl dX10_server_136 ?_
      refine lv_iload_n hx hb dX10_server_139 rfl (lv_at hl 1 rfl) ?_
      obtain ⟨r15, e15, hf⟩ := bd_some hf
      refine cr_f (va_runV (As := [.int p1]) (rest := []) ⟨hx, hb, hml, hown, hts⟩ (c_X5_load l E (fun k => a0 (k + 26)) v0.2.2.2.1 p1 r15 e15) (cwV 1 hts gX10_server_X5_load rfl rfl rfl hdV_X5_load ⟨Nat.le_of_ble_eq_true rfl, Nat.le_of_ble_eq_true rfl⟩) ⟨PR.blind, va_recv hC.1 hP (ci := 4) (q0 := 26) rfl rfl, PR.pre hC hS (hP.sub [26, 27, 28, 29, 30, 31, 32, 33, 34, 35, 36, 37, 38, 39, 40, 41, 42, 43, 44] rfl)⟩ rfl rfl hl.1 rfl (lv_room (Nat.le_of_ble_eq_true rfl)) dX10_server_140 ⟨Nat.le_of_ble_eq_true rfl, Nat.le_of_ble_eq_true rfl⟩) ?_
      refine lv_ldcf hx hb hown w9 dX10_server_143 ?_
      obtain ⟨h16, hf⟩ := gdF_some hf
      refine lv_fmul hx hb dX10_server_145 h16 ?_
      refine lv_f2i hx hb dX10_server_146 ?_
      cases Option.some.inj hf
      subst hQe
      exact en_i hx hb hr hlocks dX10_server_147
    have hf := it_f hf s14
    refine lv_tableOut (tgt := 148) hx hb dX10_server_18 (sw_out (x := p2) 6 (by decide) (fun k hk => match k, hk with | 0, _ => s2 | 1, _ => s4 | 2, _ => s6 | 3, _ => s8 | 4, _ => s10 | 5, _ => s12 | 6, _ => s14 | k + 7, hk => absurd hk (by omega))) rfl ?_
    refine lv_ldc hx hb hown w5 dX10_server_148 ?_
    cases Option.some.inj hf
    subst hQe
    exact en_i hx hb hr hlocks dX10_server_150
  · have hf := it_t hf c1
    refine lv_ldc hx hb hown w5 dX10_server_14 ?_
    cases Option.some.inj hf
    subst hQe
    exact en_i hx hb hr hlocks dX10_server_16

/-! X10_chunk -/
abbrev rmX10_chunk : Room := { frames := 5, cells := 0, slots := 0, locals := 112 }
theorem hdS_X10_chunk : yX10_chunk.cls ≠ "java/lang/invoke/MethodHandle" ∧ yX10_chunk.cls ≠ "java/lang/invoke/VarHandle" ∧ (parseMethodDescriptor yX10_chunk.desc).map (fun d => d.parameters.length) = some 2 := by decide +kernel
theorem hdV_X10_chunk : yX10_chunk.cls = RX10 ∧ yX10_chunk.cls ≠ "java/lang/invoke/MethodHandle" ∧ yX10_chunk.cls ≠ "java/lang/invoke/VarHandle" ∧ (parseMethodDescriptor yX10_chunk.desc).map (fun d => d.parameters.length) = some 2 := ⟨rfl, hdS_X10_chunk⟩
set_option maxHeartbeats 4000000 in
set_option maxRecDepth 100000 in
theorem c_X10_chunk (l : Launch) (E : G0) (a0 : Nat → Nat) (db di : Nat → Nat → Nat) (v0 : GC) (p1 : Int32) (p2 : Int32) (x : Int32) (hf : f_X10_chunk v0 p1 p2 = some x) : Met l yX10_chunk wsX10_chunk rmX10_chunk (va_Pc [.ref (a0 0), .int p1, .int p2] (PR E (wGC E a0 db di v0))) (vp_Si (fun r => r = x)) 0 0 (fun _ => False) := by
  refine Met.ofW (cc := cX10_chunk) (maxL := 3) (ret := some .int) (by decide) rfl ?_
  intro p e s m args below meth c s₁ B hml hv
  obtain ⟨ha, hP, hC⟩ := hv
  have hx := B.exec
  have hb := B.bytes
  have hr := B.returns
  have hts := atoms_spec (ws := wsX10_chunk) B.pre
  have hown : s.vm.findClass RX10 = some m.cls := findClass_of_methodNamed B.named
  have hlocks := B.notSynchronized
  have hS : va_S (fun _ => False) s.heap s.heap [] := va_S.rf
  have w1 : (Cond.fieldLink RX10 31 "GreatChunks" "house" "LGreatChunks$House;").before args s = true := hts _ (List.mem_of_getElem? (i := 1) rfl)
  have w2 : ∀ w ∈ wsX100, w ∈ wsX10_chunk := in_pl 79 rfl
  have w3 : (Cond.fieldLink RX10 219 "GreatChunks$House" "chunks" "LGreatChunks$Chunks;").before args s = true := hts _ (List.mem_of_getElem? (i := 2) rfl)
  have w4 : ∀ w ∈ wsX50, w ∈ wsX10_chunk := in_pl 87 rfl
  have w5 : (Cond.constant RX10 54 (-1000001)).before args s = true := hts _ (List.mem_of_getElem? (i := 3) rfl)
  have w6 : (Cond.fieldLink RX10 226 "GreatChunks$Chunks" "version" "[I").before args s = true := hts _ (List.mem_of_getElem? (i := 4) rfl)
  have w7 : ∀ w ∈ wsX10, w ∈ wsX10_chunk := in_pl 96 rfl
  have w8 : (Cond.fieldLink RX10 229 "GreatChunks$Chunks" "shares" "[I").before args s = true := hts _ (List.mem_of_getElem? (i := 5) rfl)
  have w9 : (Cond.constant RX10 191 (-1000000)).before args s = true := hts _ (List.mem_of_getElem? (i := 7) rfl)
  have w10 : (Cond.fieldLink RX10 235 "GreatChunks$Chunks" "holder" "[I").before args s = true := hts _ (List.mem_of_getElem? (i := 6) rfl)
  have w11 : (Cond.fieldLink RX10 238 "GreatChunks$Chunks" "till" "[I").before args s = true := hts _ (List.mem_of_getElem? (i := 8) rfl)
  generalize hQe : MQ below (vp_Si (fun r => r = x)) args s 0 0 (fun _ => False) = Q
  refine st_W ha (Nat.le_of_ble_eq_true rfl) (fun ls hl => ?_)
  have hl : lv_has ls 3 [(0, .ref (a0 0)), (1, .int p1), (2, .int p2)] := hl
  unfold f_X10_chunk at hf
  refine lv_aload_n hx hb dX10_chunk_0 rfl (lv_at hl 0 rfl) ?_
  refine va_get (D := E.1) (ci := 8) (v := .ref (a0 26)) (C := RX10) (T := TX10) (N := 8) hx hb hts w2 hown hC.1 hP 0 rfl rfl 3 (by decide) w1 (fun _ h9 => h9) rfl dX10_chunk_1 ?_
  refine va_get (D := E.1) (ci := 4) (v := .ref (a0 30)) (C := RX5) (T := TX5) (N := 9) hx hb hts w4 hown hC.1 hP 26 rfl rfl 6 (by decide) w3 (fun _ h9 => h9) rfl dX10_chunk_4 ?_
  refine lv_iload_n hx hb dX10_chunk_7 rfl (lv_at hl 1 rfl) ?_
  refine cr_i (va_runV (As := [.int p1]) (rest := []) ⟨hx, hb, hml, hown, hts⟩ (c_X1_has l E (fun k => a0 (k + 30)) v0.2.2.2.1.2.2.2.2.2.2.1 p1 _ rfl) (cwV 1 hts gX10_chunk_X1_has rfl rfl rfl hdV_X1_has ⟨Nat.le_of_ble_eq_true rfl, Nat.le_of_ble_eq_true rfl⟩) ⟨PR.blind, va_recv hC.1 hP (ci := 1) (q0 := 30) rfl rfl, PR.pre hC hS (hP.sub [30, 31, 32, 33, 34] rfl)⟩ rfl rfl hl.1 rfl (lv_room (Nat.le_of_ble_eq_true rfl)) dX10_chunk_8 ⟨Nat.le_of_ble_eq_true rfl, Nat.le_of_ble_eq_true rfl⟩) ?_
  refine lv_if_ne (tgt := 17) hx hb dX10_chunk_11 rfl (fun c1 => ?_) (fun c1 => ?_)
  · have hf := it_f hf c1
    refine lv_iload_n hx hb dX10_chunk_17 rfl (lv_at hl 2 rfl) ?_
    by_cases s2 : p2 = 0
    · have hf := it_t hf s2
      refine lv_tableIn (tgt := 60) (off := 42) hx hb dX10_chunk_18 (by rw [s2]; decide) (by rw [s2]; decide) (by rw [s2]; rfl) rfl ?_
      refine lv_aload_n hx hb dX10_chunk_60 rfl (lv_at hl 0 rfl) ?_
      refine va_get (D := E.1) (ci := 8) (v := .ref (a0 26)) (C := RX10) (T := TX10) (N := 8) hx hb hts w2 hown hC.1 hP 0 rfl rfl 3 (by decide) w1 (fun _ h9 => h9) rfl dX10_chunk_61 ?_
      refine va_get (D := E.1) (ci := 4) (v := .ref (a0 30)) (C := RX5) (T := TX5) (N := 9) hx hb hts w4 hown hC.1 hP 26 rfl rfl 6 (by decide) w3 (fun _ h9 => h9) rfl dX10_chunk_64 ?_
      refine va_get (D := E.1) (ci := 1) (v := .ref (a0 31)) (C := RX1) (T := TX1) (N := 5) hx hb hts w7 hown hC.1 hP 30 rfl rfl 1 (by decide) w6 (fun _ h9 => h9) rfl dX10_chunk_67 ?_
      refine lv_iload_n hx hb dX10_chunk_70 rfl (lv_at hl 1 rfl) ?_
      obtain ⟨h3, hf⟩ := gdI_some hf
      refine va_iald hx hb hC.1 hP 31 0 rfl rfl h3 dX10_chunk_71 ?_
      cases Option.some.inj hf
      subst hQe
      exact en_i hx hb hr hlocks dX10_chunk_72
    have hf := it_f hf s2
    by_cases s4 : p2 = 1
    · have hf := it_t hf s4
      refine lv_tableIn (tgt := 73) (off := 55) hx hb dX10_chunk_18 (by rw [s4]; decide) (by rw [s4]; decide) (by rw [s4]; rfl) rfl ?_
      refine lv_aload_n hx hb dX10_chunk_73 rfl (lv_at hl 0 rfl) ?_
      refine va_get (D := E.1) (ci := 8) (v := .ref (a0 26)) (C := RX10) (T := TX10) (N := 8) hx hb hts w2 hown hC.1 hP 0 rfl rfl 3 (by decide) w1 (fun _ h9 => h9) rfl dX10_chunk_74 ?_
      refine va_get (D := E.1) (ci := 4) (v := .ref (a0 30)) (C := RX5) (T := TX5) (N := 9) hx hb hts w4 hown hC.1 hP 26 rfl rfl 6 (by decide) w3 (fun _ h9 => h9) rfl dX10_chunk_77 ?_
      refine va_get (D := E.1) (ci := 1) (v := .ref (a0 32)) (C := RX1) (T := TX1) (N := 5) hx hb hts w7 hown hC.1 hP 30 rfl rfl 2 (by decide) w8 (fun _ h9 => h9) rfl dX10_chunk_80 ?_
      refine lv_iload_n hx hb dX10_chunk_83 rfl (lv_at hl 1 rfl) ?_
      obtain ⟨h5, hf⟩ := gdI_some hf
      refine va_iald hx hb hC.1 hP 32 0 rfl rfl h5 dX10_chunk_84 ?_
      cases Option.some.inj hf
      subst hQe
      exact en_i hx hb hr hlocks dX10_chunk_85
    have hf := it_f hf s4
    by_cases s6 : p2 = 2
    · have hf := it_t hf s6
      refine lv_tableIn (tgt := 86) (off := 68) hx hb dX10_chunk_18 (by rw [s6]; decide) (by rw [s6]; decide) (by rw [s6]; rfl) rfl ?_
      refine lv_aload_n hx hb dX10_chunk_86 rfl (lv_at hl 0 rfl) ?_
      refine va_get (D := E.1) (ci := 8) (v := .ref (a0 26)) (C := RX10) (T := TX10) (N := 8) hx hb hts w2 hown hC.1 hP 0 rfl rfl 3 (by decide) w1 (fun _ h9 => h9) rfl dX10_chunk_87 ?_
      refine lv_iload_n hx hb dX10_chunk_90 rfl (lv_at hl 1 rfl) ?_
      obtain ⟨r7, e7, hf⟩ := bd_some hf
      refine cr_i (va_runV (As := [.int p1]) (rest := []) ⟨hx, hb, hml, hown, hts⟩ (c_X5_leaseHolds l E (fun k => a0 (k + 26)) v0.2.2.2.1 p1 r7 e7) (cwV 1 hts gX10_chunk_X5_leaseHolds rfl rfl rfl hdV_X5_leaseHolds ⟨Nat.le_of_ble_eq_true rfl, Nat.le_of_ble_eq_true rfl⟩) ⟨PR.blind, va_recv hC.1 hP (ci := 4) (q0 := 26) rfl rfl, PR.pre hC hS (hP.sub [26, 27, 28, 29, 30, 31, 32, 33, 34, 35, 36, 37, 38, 39, 40, 41, 42, 43, 44] rfl)⟩ rfl rfl hl.1 rfl (lv_room (Nat.le_of_ble_eq_true rfl)) dX10_chunk_91 ⟨Nat.le_of_ble_eq_true rfl, Nat.le_of_ble_eq_true rfl⟩) ?_
      refine lv_if_eq (tgt := 112) hx hb dX10_chunk_94 rfl (fun c8 => ?_) (fun c8 => ?_)
      · have hf := it_t hf c8
        refine lv_ldc hx hb hown w9 dX10_chunk_112 ?_
        cases Option.some.inj hf
        subst hQe
        exact en_i hx hb hr hlocks dX10_chunk_114
      · have hf := it_f hf c8
        refine lv_aload_n hx hb dX10_chunk_97 rfl (lv_at hl 0 rfl) ?_
        refine va_get (D := E.1) (ci := 8) (v := .ref (a0 26)) (C := RX10) (T := TX10) (N := 8) hx hb hts w2 hown hC.1 hP 0 rfl rfl 3 (by decide) w1 (fun _ h9 => h9) rfl dX10_chunk_98 ?_
        refine va_get (D := E.1) (ci := 4) (v := .ref (a0 30)) (C := RX5) (T := TX5) (N := 9) hx hb hts w4 hown hC.1 hP 26 rfl rfl 6 (by decide) w3 (fun _ h9 => h9) rfl dX10_chunk_101 ?_
        refine va_get (D := E.1) (ci := 1) (v := .ref (a0 33)) (C := RX1) (T := TX1) (N := 5) hx hb hts w7 hown hC.1 hP 30 rfl rfl 3 (by decide) w10 (fun _ h9 => h9) rfl dX10_chunk_104 ?_
        refine lv_iload_n hx hb dX10_chunk_107 rfl (lv_at hl 1 rfl) ?_
        obtain ⟨h9, hf⟩ := gdI_some hf
        refine va_iald hx hb hC.1 hP 33 0 rfl rfl h9 dX10_chunk_108 ?_
        refine lv_goto (tgt := 114) hx hb dX10_chunk_109 rfl ?_
        cases Option.some.inj hf
        subst hQe
        exact en_i hx hb hr hlocks dX10_chunk_114
    have hf := it_f hf s6
    by_cases s10 : p2 = 3
    · have hf := it_t hf s10
      refine lv_tableIn (tgt := 115) (off := 97) hx hb dX10_chunk_18 (by rw [s10]; decide) (by rw [s10]; decide) (by rw [s10]; rfl) rfl ?_
      refine lv_aload_n hx hb dX10_chunk_115 rfl (lv_at hl 0 rfl) ?_
      refine va_get (D := E.1) (ci := 8) (v := .ref (a0 26)) (C := RX10) (T := TX10) (N := 8) hx hb hts w2 hown hC.1 hP 0 rfl rfl 3 (by decide) w1 (fun _ h9 => h9) rfl dX10_chunk_116 ?_
      refine lv_iload_n hx hb dX10_chunk_119 rfl (lv_at hl 1 rfl) ?_
      obtain ⟨r11, e11, hf⟩ := bd_some hf
      refine cr_i (va_runV (As := [.int p1]) (rest := []) ⟨hx, hb, hml, hown, hts⟩ (c_X5_leaseHolds l E (fun k => a0 (k + 26)) v0.2.2.2.1 p1 r11 e11) (cwV 1 hts gX10_chunk_X5_leaseHolds rfl rfl rfl hdV_X5_leaseHolds ⟨Nat.le_of_ble_eq_true rfl, Nat.le_of_ble_eq_true rfl⟩) ⟨PR.blind, va_recv hC.1 hP (ci := 4) (q0 := 26) rfl rfl, PR.pre hC hS (hP.sub [26, 27, 28, 29, 30, 31, 32, 33, 34, 35, 36, 37, 38, 39, 40, 41, 42, 43, 44] rfl)⟩ rfl rfl hl.1 rfl (lv_room (Nat.le_of_ble_eq_true rfl)) dX10_chunk_120 ⟨Nat.le_of_ble_eq_true rfl, Nat.le_of_ble_eq_true rfl⟩) ?_
      refine lv_if_eq (tgt := 141) hx hb dX10_chunk_123 rfl (fun c12 => ?_) (fun c12 => ?_)
      · have hf := it_t hf c12
        refine lv_ldc hx hb hown w9 dX10_chunk_141 ?_
        cases Option.some.inj hf
        subst hQe
        exact en_i hx hb hr hlocks dX10_chunk_143
      · have hf := it_f hf c12
        refine lv_aload_n hx hb dX10_chunk_126 rfl (lv_at hl 0 rfl) ?_
        refine va_get (D := E.1) (ci := 8) (v := .ref (a0 26)) (C := RX10) (T := TX10) (N := 8) hx hb hts w2 hown hC.1 hP 0 rfl rfl 3 (by decide) w1 (fun _ h9 => h9) rfl dX10_chunk_127 ?_
        refine va_get (D := E.1) (ci := 4) (v := .ref (a0 30)) (C := RX5) (T := TX5) (N := 9) hx hb hts w4 hown hC.1 hP 26 rfl rfl 6 (by decide) w3 (fun _ h9 => h9) rfl dX10_chunk_130 ?_
        refine va_get (D := E.1) (ci := 1) (v := .ref (a0 34)) (C := RX1) (T := TX1) (N := 5) hx hb hts w7 hown hC.1 hP 30 rfl rfl 4 (by decide) w11 (fun _ h9 => h9) rfl dX10_chunk_133 ?_
        refine lv_iload_n hx hb dX10_chunk_136 rfl (lv_at hl 1 rfl) ?_
        obtain ⟨h13, hf⟩ := gdI_some hf
        refine va_iald hx hb hC.1 hP 34 0 rfl rfl h13 dX10_chunk_137 ?_
        refine lv_goto (tgt := 143) hx hb dX10_chunk_138 rfl ?_
        cases Option.some.inj hf
        subst hQe
        exact en_i hx hb hr hlocks dX10_chunk_143
    have hf := it_f hf s10
    by_cases s14 : p2 = 4
    · have hf := it_t hf s14
      refine lv_tableIn (tgt := 144) (off := 126) hx hb dX10_chunk_18 (by rw [s14]; decide) (by rw [s14]; decide) (by rw [s14]; rfl) rfl ?_
      refine lv_aload_n hx hb dX10_chunk_144 rfl (lv_at hl 0 rfl) ?_
      refine va_get (D := E.1) (ci := 8) (v := .ref (a0 26)) (C := RX10) (T := TX10) (N := 8) hx hb hts w2 hown hC.1 hP 0 rfl rfl 3 (by decide) w1 (fun _ h9 => h9) rfl dX10_chunk_145 ?_
      refine lv_iload_n hx hb dX10_chunk_148 rfl (lv_at hl 1 rfl) ?_
      obtain ⟨r15, e15, hf⟩ := bd_some hf
      refine cr_i (va_runV (As := [.int p1]) (rest := []) ⟨hx, hb, hml, hown, hts⟩ (c_X5_good l E (fun k => a0 (k + 26)) v0.2.2.2.1 p1 r15 e15) (cwV 1 hts gX10_chunk_X5_good rfl rfl rfl hdV_X5_good ⟨Nat.le_of_ble_eq_true rfl, Nat.le_of_ble_eq_true rfl⟩) ⟨PR.blind, va_recv hC.1 hP (ci := 4) (q0 := 26) rfl rfl, PR.pre hC hS (hP.sub [26, 27, 28, 29, 30, 31, 32, 33, 34, 35, 36, 37, 38, 39, 40, 41, 42, 43, 44] rfl)⟩ rfl rfl hl.1 rfl (lv_room (Nat.le_of_ble_eq_true rfl)) dX10_chunk_149 ⟨Nat.le_of_ble_eq_true rfl, Nat.le_of_ble_eq_true rfl⟩) ?_
      cases Option.some.inj hf
      subst hQe
      exact en_i hx hb hr hlocks dX10_chunk_152
    have hf := it_f hf s14
    by_cases s16 : p2 = 5
    · have hf := it_t hf s16
      refine lv_tableIn (tgt := 153) (off := 135) hx hb dX10_chunk_18 (by rw [s16]; decide) (by rw [s16]; decide) (by rw [s16]; rfl) rfl ?_
      refine lv_aload_n hx hb dX10_chunk_153 rfl (lv_at hl 0 rfl) ?_
      refine va_get (D := E.1) (ci := 8) (v := .ref (a0 26)) (C := RX10) (T := TX10) (N := 8) hx hb hts w2 hown hC.1 hP 0 rfl rfl 3 (by decide) w1 (fun _ h9 => h9) rfl dX10_chunk_154 ?_
      refine lv_iload_n hx hb dX10_chunk_157 rfl (lv_at hl 1 rfl) ?_
      obtain ⟨r17, e17, hf⟩ := bd_some hf
      refine cr_i (va_runV (As := [.int p1]) (rest := []) ⟨hx, hb, hml, hown, hts⟩ (c_X5_stale l E (fun k => a0 (k + 26)) v0.2.2.2.1 p1 r17 e17) (cwV 1 hts gX10_chunk_X5_stale rfl rfl rfl hdV_X5_stale ⟨Nat.le_of_ble_eq_true rfl, Nat.le_of_ble_eq_true rfl⟩) ⟨PR.blind, va_recv hC.1 hP (ci := 4) (q0 := 26) rfl rfl, PR.pre hC hS (hP.sub [26, 27, 28, 29, 30, 31, 32, 33, 34, 35, 36, 37, 38, 39, 40, 41, 42, 43, 44] rfl)⟩ rfl rfl hl.1 rfl (lv_room (Nat.le_of_ble_eq_true rfl)) dX10_chunk_158 ⟨Nat.le_of_ble_eq_true rfl, Nat.le_of_ble_eq_true rfl⟩) ?_
      cases Option.some.inj hf
      subst hQe
      exact en_i hx hb hr hlocks dX10_chunk_161
    have hf := it_f hf s16
    by_cases s18 : p2 = 6
    · have hf := it_t hf s18
      refine lv_tableIn (tgt := 162) (off := 144) hx hb dX10_chunk_18 (by rw [s18]; decide) (by rw [s18]; decide) (by rw [s18]; rfl) rfl ?_
      refine lv_aload_n hx hb dX10_chunk_162 rfl (lv_at hl 0 rfl) ?_
      refine va_get (D := E.1) (ci := 8) (v := .ref (a0 26)) (C := RX10) (T := TX10) (N := 8) hx hb hts w2 hown hC.1 hP 0 rfl rfl 3 (by decide) w1 (fun _ h9 => h9) rfl dX10_chunk_163 ?_
      refine lv_iload_n hx hb dX10_chunk_166 rfl (lv_at hl 1 rfl) ?_
      obtain ⟨r19, e19, hf⟩ := bd_some hf
      refine cr_i (va_runV (As := [.int p1]) (rest := []) ⟨hx, hb, hml, hown, hts⟩ (c_X5_able l E (fun k => a0 (k + 26)) v0.2.2.2.1 p1 r19 e19) (cwV 1 hts gX10_chunk_X5_able rfl rfl rfl hdV_X5_able ⟨Nat.le_of_ble_eq_true rfl, Nat.le_of_ble_eq_true rfl⟩) ⟨PR.blind, va_recv hC.1 hP (ci := 4) (q0 := 26) rfl rfl, PR.pre hC hS (hP.sub [26, 27, 28, 29, 30, 31, 32, 33, 34, 35, 36, 37, 38, 39, 40, 41, 42, 43, 44] rfl)⟩ rfl rfl hl.1 rfl (lv_room (Nat.le_of_ble_eq_true rfl)) dX10_chunk_167 ⟨Nat.le_of_ble_eq_true rfl, Nat.le_of_ble_eq_true rfl⟩) ?_
      cases Option.some.inj hf
      subst hQe
      exact en_i hx hb hr hlocks dX10_chunk_170
    have hf := it_f hf s18
    refine lv_tableOut (tgt := 171) hx hb dX10_chunk_18 (sw_out (x := p2) 6 (by decide) (fun k hk => match k, hk with | 0, _ => s2 | 1, _ => s4 | 2, _ => s6 | 3, _ => s10 | 4, _ => s14 | 5, _ => s16 | 6, _ => s18 | k + 7, hk => absurd hk (by omega))) rfl ?_
    refine lv_ldc hx hb hown w5 dX10_chunk_171 ?_
    cases Option.some.inj hf
    subst hQe
    exact en_i hx hb hr hlocks dX10_chunk_173
  · have hf := it_t hf c1
    refine lv_ldc hx hb hown w5 dX10_chunk_14 ?_
    cases Option.some.inj hf
    subst hQe
    exact en_i hx hb hr hlocks dX10_chunk_16

/-! X10_file -/
abbrev rmX10_file : Room := { frames := 3, cells := 0, slots := 0, locals := 65 }
theorem hdS_X10_file : yX10_file.cls ≠ "java/lang/invoke/MethodHandle" ∧ yX10_file.cls ≠ "java/lang/invoke/VarHandle" ∧ (parseMethodDescriptor yX10_file.desc).map (fun d => d.parameters.length) = some 2 := by decide +kernel
theorem hdV_X10_file : yX10_file.cls = RX10 ∧ yX10_file.cls ≠ "java/lang/invoke/MethodHandle" ∧ yX10_file.cls ≠ "java/lang/invoke/VarHandle" ∧ (parseMethodDescriptor yX10_file.desc).map (fun d => d.parameters.length) = some 2 := ⟨rfl, hdS_X10_file⟩
set_option maxHeartbeats 4000000 in
set_option maxRecDepth 100000 in
theorem c_X10_file (l : Launch) (E : G0) (a0 : Nat → Nat) (db di : Nat → Nat → Nat) (v0 : GC) (p1 : Int32) (p2 : Int32) (x : Int32) (hf : f_X10_file v0 p1 p2 = some x) : Met l yX10_file wsX10_file rmX10_file (va_Pc [.ref (a0 0), .int p1, .int p2] (PR E (wGC E a0 db di v0))) (vp_Si (fun r => r = x)) 0 0 (fun _ => False) := by
  refine Met.ofW (cc := cX10_file) (maxL := 4) (ret := some .int) (by decide) rfl ?_
  intro p e s m args below meth c s₁ B hml hv
  obtain ⟨ha, hP, hC⟩ := hv
  have hx := B.exec
  have hb := B.bytes
  have hr := B.returns
  have hts := atoms_spec (ws := wsX10_file) B.pre
  have hown : s.vm.findClass RX10 = some m.cls := findClass_of_methodNamed B.named
  have hlocks := B.notSynchronized
  have hS : va_S (fun _ => False) s.heap s.heap [] := va_S.rf
  have w1 : (Cond.fieldLink RX10 42 "GreatChunks" "standing" "Z").before args s = true := hts _ (List.mem_of_getElem? (i := 1) rfl)
  have w2 : ∀ w ∈ wsX100, w ∈ wsX10_file := in_pl 30 rfl
  have w3 : (Cond.constant RX10 99 (-1000002)).before args s = true := hts _ (List.mem_of_getElem? (i := 2) rfl)
  have w4 : (Cond.constant RX10 54 (-1000001)).before args s = true := hts _ (List.mem_of_getElem? (i := 3) rfl)
  have w5 : (Cond.fieldLink RX10 31 "GreatChunks" "house" "LGreatChunks$House;").before args s = true := hts _ (List.mem_of_getElem? (i := 4) rfl)
  have w6 : (Cond.fieldLink RX10 83 "GreatChunks$House" "files" "LGreatChunks$Files;").before args s = true := hts _ (List.mem_of_getElem? (i := 5) rfl)
  have w7 : ∀ w ∈ wsX50, w ∈ wsX10_file := in_pl 38 rfl
  have w8 : (Cond.fieldLink RX10 253 "GreatChunks$Files" "how" "[I").before args s = true := hts _ (List.mem_of_getElem? (i := 7) rfl)
  have w9 : ∀ w ∈ wsX30, w ∈ wsX10_file := in_pl 47 rfl
  have w10 : (Cond.constant RX10 191 (-1000000)).before args s = true := hts _ (List.mem_of_getElem? (i := 6) rfl)
  have w11 : (Cond.fieldLink RX10 133 "GreatChunks$Files" "kind" "[I").before args s = true := hts _ (List.mem_of_getElem? (i := 8) rfl)
  have w12 : (Cond.fieldLink RX10 256 "GreatChunks$Files" "many" "[I").before args s = true := hts _ (List.mem_of_getElem? (i := 9) rfl)
  have w13 : (Cond.fieldLink RX10 258 "GreatChunks$Files" "since" "[I").before args s = true := hts _ (List.mem_of_getElem? (i := 10) rfl)
  generalize hQe : MQ below (vp_Si (fun r => r = x)) args s 0 0 (fun _ => False) = Q
  refine st_W ha (Nat.le_of_ble_eq_true rfl) (fun ls hl => ?_)
  have hl : lv_has ls 4 [(0, .ref (a0 0)), (1, .int p1), (2, .int p2)] := hl
  unfold f_X10_file at hf
  refine lv_aload_n hx hb dX10_file_0 rfl (lv_at hl 0 rfl) ?_
  refine va_get (D := E.1) (ci := 8) (v := .int v0.2.2.2.2.2.2.1) (C := RX10) (T := TX10) (N := 8) hx hb hts w2 hown hC.1 hP 0 rfl rfl 6 (by decide) w1 (fun _ h9 => h9) rfl dX10_file_1 ?_
  refine lv_if_ne (tgt := 10) hx hb dX10_file_4 rfl (fun c1 => ?_) (fun c1 => ?_)
  · have hf := it_f hf c1
    refine lv_iload_n hx hb dX10_file_10 rfl (lv_at hl 1 rfl) ?_
    refine cr_i (va_runS (As := [.int p1]) (rest := []) ⟨hx, hb, hml, hown, hts⟩ (c_X10_isFile l E p1 _ rfl) (va_cwS 1 hts gX10_file_X10_isFile rfl rfl rfl hdS_X10_isFile ⟨Nat.le_of_ble_eq_true rfl, Nat.le_of_ble_eq_true rfl⟩) ⟨PR.blind, PR.pre hC hS (hP.sub [] rfl)⟩ rfl rfl hl.1 rfl (lv_room (Nat.le_of_ble_eq_true rfl)) dX10_file_11 ⟨Nat.le_of_ble_eq_true rfl, Nat.le_of_ble_eq_true rfl⟩) ?_
    refine lv_if_ne (tgt := 20) hx hb dX10_file_14 rfl (fun c2 => ?_) (fun c2 => ?_)
    · have hf := it_f hf c2
      refine lv_iload_n hx hb dX10_file_20 rfl (lv_at hl 2 rfl) ?_
      refine lv_bipush (v := 10) hx hb dX10_file_21 rfl ?_
      refine lv_bipush (v := 13) hx hb dX10_file_23 rfl ?_
      refine cr_i (va_runS (As := [.int p2, .int (10 : Int32), .int (13 : Int32)]) (rest := []) ⟨hx, hb, hml, hown, hts⟩ (c_X10_within l E p2 (10 : Int32) (13 : Int32) _ rfl) (va_cwS 3 hts gX10_file_X10_within rfl rfl rfl hdS_X10_within ⟨Nat.le_of_ble_eq_true rfl, Nat.le_of_ble_eq_true rfl⟩) ⟨PR.blind, PR.pre hC hS (hP.sub [] rfl)⟩ rfl rfl hl.1 rfl (lv_room (Nat.le_of_ble_eq_true rfl)) dX10_file_25 ⟨Nat.le_of_ble_eq_true rfl, Nat.le_of_ble_eq_true rfl⟩) ?_
      refine lv_if_eq (tgt := 59) hx hb dX10_file_28 rfl (fun c3 => ?_) (fun c3 => ?_)
      · have hf := it_t hf c3
        refine lv_iload_n hx hb dX10_file_59 rfl (lv_at hl 2 rfl) ?_
        by_cases s4 : p2 = 0
        · have hf := it_t hf s4
          refine lv_tableIn (tgt := 92) (off := 32) hx hb dX10_file_60 (by rw [s4]; decide) (by rw [s4]; decide) (by rw [s4]; rfl) rfl ?_
          refine lv_aload_n hx hb dX10_file_92 rfl (lv_at hl 0 rfl) ?_
          refine va_get (D := E.1) (ci := 8) (v := .ref (a0 26)) (C := RX10) (T := TX10) (N := 8) hx hb hts w2 hown hC.1 hP 0 rfl rfl 3 (by decide) w5 (fun _ h9 => h9) rfl dX10_file_93 ?_
          refine va_get (D := E.1) (ci := 4) (v := .ref (a0 39)) (C := RX5) (T := TX5) (N := 9) hx hb hts w7 hown hC.1 hP 26 rfl rfl 8 (by decide) w6 (fun _ h9 => h9) rfl dX10_file_96 ?_
          refine va_get (D := E.1) (ci := 3) (v := .ref (a0 40)) (C := RX3) (T := TX3) (N := 5) hx hb hts w9 hown hC.1 hP 39 rfl rfl 0 (by decide) w8 (fun _ h9 => h9) rfl dX10_file_99 ?_
          refine lv_iload_n hx hb dX10_file_102 rfl (lv_at hl 1 rfl) ?_
          obtain ⟨h5, hf⟩ := gdI_some hf
          refine va_iald hx hb hC.1 hP 40 0 rfl rfl h5 dX10_file_103 ?_
          cases Option.some.inj hf
          subst hQe
          exact en_i hx hb hr hlocks dX10_file_104
        have hf := it_f hf s4
        by_cases s6 : p2 = 1
        · have hf := it_t hf s6
          refine lv_tableIn (tgt := 105) (off := 45) hx hb dX10_file_60 (by rw [s6]; decide) (by rw [s6]; decide) (by rw [s6]; rfl) rfl ?_
          refine lv_aload_n hx hb dX10_file_105 rfl (lv_at hl 0 rfl) ?_
          refine va_get (D := E.1) (ci := 8) (v := .ref (a0 26)) (C := RX10) (T := TX10) (N := 8) hx hb hts w2 hown hC.1 hP 0 rfl rfl 3 (by decide) w5 (fun _ h9 => h9) rfl dX10_file_106 ?_
          refine va_get (D := E.1) (ci := 4) (v := .ref (a0 39)) (C := RX5) (T := TX5) (N := 9) hx hb hts w7 hown hC.1 hP 26 rfl rfl 8 (by decide) w6 (fun _ h9 => h9) rfl dX10_file_109 ?_
          refine lv_iload_n hx hb dX10_file_112 rfl (lv_at hl 1 rfl) ?_
          refine lv_iconst (v := 0) hx hb dX10_file_113 rfl ?_
          obtain ⟨r7, e7, hf⟩ := bd_some hf
          refine cr_i (va_runV (As := [.int p1, .int (0 : Int32)]) (rest := []) ⟨hx, hb, hml, hown, hts⟩ (c_X3_is l E (fun k => a0 (k + 39)) v0.2.2.2.1.2.2.2.2.2.2.2.2 p1 (0 : Int32) r7 e7) (cwV 2 hts gX10_file_X3_is rfl rfl rfl hdV_X3_is ⟨Nat.le_of_ble_eq_true rfl, Nat.le_of_ble_eq_true rfl⟩) ⟨PR.blind, va_recv hC.1 hP (ci := 3) (q0 := 39) rfl rfl, PR.pre hC hS (hP.sub [39, 40, 41, 42, 43, 44] rfl)⟩ rfl rfl hl.1 rfl (lv_room (Nat.le_of_ble_eq_true rfl)) dX10_file_114 ⟨Nat.le_of_ble_eq_true rfl, Nat.le_of_ble_eq_true rfl⟩) ?_
          refine lv_if_eq (tgt := 125) hx hb dX10_file_117 rfl (fun c8 => ?_) (fun c8 => ?_)
          · have hf := it_t hf c8
            refine lv_aload_n hx hb dX10_file_125 rfl (lv_at hl 0 rfl) ?_
            refine va_get (D := E.1) (ci := 8) (v := .ref (a0 26)) (C := RX10) (T := TX10) (N := 8) hx hb hts w2 hown hC.1 hP 0 rfl rfl 3 (by decide) w5 (fun _ h9 => h9) rfl dX10_file_126 ?_
            refine va_get (D := E.1) (ci := 4) (v := .ref (a0 39)) (C := RX5) (T := TX5) (N := 9) hx hb hts w7 hown hC.1 hP 26 rfl rfl 8 (by decide) w6 (fun _ h9 => h9) rfl dX10_file_129 ?_
            refine va_get (D := E.1) (ci := 3) (v := .ref (a0 41)) (C := RX3) (T := TX3) (N := 5) hx hb hts w9 hown hC.1 hP 39 rfl rfl 1 (by decide) w11 (fun _ h9 => h9) rfl dX10_file_132 ?_
            refine lv_iload_n hx hb dX10_file_135 rfl (lv_at hl 1 rfl) ?_
            obtain ⟨h9, hf⟩ := gdI_some hf
            refine va_iald hx hb hC.1 hP 41 0 rfl rfl h9 dX10_file_136 ?_
            cases Option.some.inj hf
            subst hQe
            exact en_i hx hb hr hlocks dX10_file_137
          · have hf := it_f hf c8
            refine lv_ldc hx hb hown w10 dX10_file_120 ?_
            refine lv_goto (tgt := 137) hx hb dX10_file_122 rfl ?_
            cases Option.some.inj hf
            subst hQe
            exact en_i hx hb hr hlocks dX10_file_137
        have hf := it_f hf s6
        by_cases s10 : p2 = 2
        · have hf := it_t hf s10
          refine lv_tableIn (tgt := 138) (off := 78) hx hb dX10_file_60 (by rw [s10]; decide) (by rw [s10]; decide) (by rw [s10]; rfl) rfl ?_
          refine lv_aload_n hx hb dX10_file_138 rfl (lv_at hl 0 rfl) ?_
          refine va_get (D := E.1) (ci := 8) (v := .ref (a0 26)) (C := RX10) (T := TX10) (N := 8) hx hb hts w2 hown hC.1 hP 0 rfl rfl 3 (by decide) w5 (fun _ h9 => h9) rfl dX10_file_139 ?_
          refine va_get (D := E.1) (ci := 4) (v := .ref (a0 39)) (C := RX5) (T := TX5) (N := 9) hx hb hts w7 hown hC.1 hP 26 rfl rfl 8 (by decide) w6 (fun _ h9 => h9) rfl dX10_file_142 ?_
          refine va_get (D := E.1) (ci := 3) (v := .ref (a0 43)) (C := RX3) (T := TX3) (N := 5) hx hb hts w9 hown hC.1 hP 39 rfl rfl 3 (by decide) w12 (fun _ h9 => h9) rfl dX10_file_145 ?_
          refine lv_iload_n hx hb dX10_file_148 rfl (lv_at hl 1 rfl) ?_
          obtain ⟨h11, hf⟩ := gdI_some hf
          refine va_iald hx hb hC.1 hP 43 0 rfl rfl h11 dX10_file_149 ?_
          cases Option.some.inj hf
          subst hQe
          exact en_i hx hb hr hlocks dX10_file_150
        have hf := it_f hf s10
        by_cases s12 : p2 = 3
        · have hf := it_t hf s12
          refine lv_tableIn (tgt := 151) (off := 91) hx hb dX10_file_60 (by rw [s12]; decide) (by rw [s12]; decide) (by rw [s12]; rfl) rfl ?_
          refine lv_aload_n hx hb dX10_file_151 rfl (lv_at hl 0 rfl) ?_
          refine va_get (D := E.1) (ci := 8) (v := .ref (a0 26)) (C := RX10) (T := TX10) (N := 8) hx hb hts w2 hown hC.1 hP 0 rfl rfl 3 (by decide) w5 (fun _ h9 => h9) rfl dX10_file_152 ?_
          refine va_get (D := E.1) (ci := 4) (v := .ref (a0 39)) (C := RX5) (T := TX5) (N := 9) hx hb hts w7 hown hC.1 hP 26 rfl rfl 8 (by decide) w6 (fun _ h9 => h9) rfl dX10_file_155 ?_
          refine lv_iload_n hx hb dX10_file_158 rfl (lv_at hl 1 rfl) ?_
          refine lv_iconst (v := 2) hx hb dX10_file_159 rfl ?_
          obtain ⟨r13, e13, hf⟩ := bd_some hf
          refine cr_i (va_runV (As := [.int p1, .int (2 : Int32)]) (rest := []) ⟨hx, hb, hml, hown, hts⟩ (c_X3_is l E (fun k => a0 (k + 39)) v0.2.2.2.1.2.2.2.2.2.2.2.2 p1 (2 : Int32) r13 e13) (cwV 2 hts gX10_file_X3_is rfl rfl rfl hdV_X3_is ⟨Nat.le_of_ble_eq_true rfl, Nat.le_of_ble_eq_true rfl⟩) ⟨PR.blind, va_recv hC.1 hP (ci := 3) (q0 := 39) rfl rfl, PR.pre hC hS (hP.sub [39, 40, 41, 42, 43, 44] rfl)⟩ rfl rfl hl.1 rfl (lv_room (Nat.le_of_ble_eq_true rfl)) dX10_file_160 ⟨Nat.le_of_ble_eq_true rfl, Nat.le_of_ble_eq_true rfl⟩) ?_
          refine lv_if_eq (tgt := 181) hx hb dX10_file_163 rfl (fun c14 => ?_) (fun c14 => ?_)
          · have hf := it_t hf c14
            refine lv_ldc hx hb hown w10 dX10_file_181 ?_
            cases Option.some.inj hf
            subst hQe
            exact en_i hx hb hr hlocks dX10_file_183
          · have hf := it_f hf c14
            refine lv_aload_n hx hb dX10_file_166 rfl (lv_at hl 0 rfl) ?_
            refine va_get (D := E.1) (ci := 8) (v := .ref (a0 26)) (C := RX10) (T := TX10) (N := 8) hx hb hts w2 hown hC.1 hP 0 rfl rfl 3 (by decide) w5 (fun _ h9 => h9) rfl dX10_file_167 ?_
            refine va_get (D := E.1) (ci := 4) (v := .ref (a0 39)) (C := RX5) (T := TX5) (N := 9) hx hb hts w7 hown hC.1 hP 26 rfl rfl 8 (by decide) w6 (fun _ h9 => h9) rfl dX10_file_170 ?_
            refine va_get (D := E.1) (ci := 3) (v := .ref (a0 42)) (C := RX3) (T := TX3) (N := 5) hx hb hts w9 hown hC.1 hP 39 rfl rfl 2 (by decide) w13 (fun _ h9 => h9) rfl dX10_file_173 ?_
            refine lv_iload_n hx hb dX10_file_176 rfl (lv_at hl 1 rfl) ?_
            obtain ⟨h15, hf⟩ := gdI_some hf
            refine va_iald hx hb hC.1 hP 42 0 rfl rfl h15 dX10_file_177 ?_
            refine lv_goto (tgt := 183) hx hb dX10_file_178 rfl ?_
            cases Option.some.inj hf
            subst hQe
            exact en_i hx hb hr hlocks dX10_file_183
        have hf := it_f hf s12
        refine lv_tableOut (tgt := 184) hx hb dX10_file_60 (sw_out (x := p2) 3 (by decide) (fun k hk => match k, hk with | 0, _ => s4 | 1, _ => s6 | 2, _ => s10 | 3, _ => s12 | k + 4, hk => absurd hk (by omega))) rfl ?_
        refine lv_ldc hx hb hown w4 dX10_file_184 ?_
        cases Option.some.inj hf
        subst hQe
        exact en_i hx hb hr hlocks dX10_file_186
      · have hf := it_f hf c3
        refine lv_aload_n hx hb dX10_file_31 rfl (lv_at hl 0 rfl) ?_
        refine va_get (D := E.1) (ci := 8) (v := .ref (a0 26)) (C := RX10) (T := TX10) (N := 8) hx hb hts w2 hown hC.1 hP 0 rfl rfl 3 (by decide) w5 (fun _ h9 => h9) rfl dX10_file_32 ?_
        refine va_get (D := E.1) (ci := 4) (v := .ref (a0 39)) (C := RX5) (T := TX5) (N := 9) hx hb hts w7 hown hC.1 hP 26 rfl rfl 8 (by decide) w6 (fun _ h9 => h9) rfl dX10_file_35 ?_
        refine lv_iload_n hx hb dX10_file_38 rfl (lv_at hl 1 rfl) ?_
        refine lv_iload_n hx hb dX10_file_39 rfl (lv_at hl 2 rfl) ?_
        refine lv_bipush (v := 10) hx hb dX10_file_40 rfl ?_
        refine lv_isub hx hb dX10_file_42 ?_
        obtain ⟨r16, e16, hf⟩ := bd_some hf
        refine cr_i (va_runV (As := [.int p1, .int (p2 - (10 : Int32))]) (rest := []) ⟨hx, hb, hml, hown, hts⟩ (c_X3_chunkOf l E (fun k => a0 (k + 39)) v0.2.2.2.1.2.2.2.2.2.2.2.2 p1 (p2 - (10 : Int32)) r16 e16) (cwV 2 hts gX10_file_X3_chunkOf rfl rfl rfl hdV_X3_chunkOf ⟨Nat.le_of_ble_eq_true rfl, Nat.le_of_ble_eq_true rfl⟩) ⟨PR.blind, va_recv hC.1 hP (ci := 3) (q0 := 39) rfl rfl, PR.pre hC hS (hP.sub [39, 40, 41, 42, 43, 44] rfl)⟩ rfl rfl hl.1 rfl (lv_room (Nat.le_of_ble_eq_true rfl)) dX10_file_43 ⟨Nat.le_of_ble_eq_true rfl, Nat.le_of_ble_eq_true rfl⟩) ?_
        refine lv_istore_n (lv' := [(3, .int r16), (0, .ref (a0 0)), (1, .int p1), (2, .int p2)]) hx hb dX10_file_46 rfl hl (by decide) rfl (fun ls hl => ?_)
        refine lv_iload_n hx hb dX10_file_47 rfl (lv_at hl 0 rfl) ?_
        refine lv_iconst (v := (-1)) hx hb dX10_file_48 rfl ?_
        refine lv_icmp_ne (tgt := 57) hx hb dX10_file_49 rfl (fun c17 => ?_) (fun c17 => ?_)
        · have hf := it_f hf c17
          refine lv_iload_n hx hb dX10_file_57 rfl (lv_at hl 0 rfl) ?_
          cases Option.some.inj hf
          subst hQe
          exact en_i hx hb hr hlocks dX10_file_58
        · have hf := it_t hf c17
          refine lv_ldc hx hb hown w10 dX10_file_52 ?_
          refine lv_goto (tgt := 58) hx hb dX10_file_54 rfl ?_
          cases Option.some.inj hf
          subst hQe
          exact en_i hx hb hr hlocks dX10_file_58
    · have hf := it_t hf c2
      refine lv_ldc hx hb hown w4 dX10_file_17 ?_
      cases Option.some.inj hf
      subst hQe
      exact en_i hx hb hr hlocks dX10_file_19
  · have hf := it_t hf c1
    refine lv_ldc hx hb hown w3 dX10_file_7 ?_
    cases Option.some.inj hf
    subst hQe
    exact en_i hx hb hr hlocks dX10_file_9

/-! X10_part -/
abbrev rmX10_part : Room := { frames := 3, cells := 0, slots := 0, locals := 67 }
theorem hdS_X10_part : yX10_part.cls ≠ "java/lang/invoke/MethodHandle" ∧ yX10_part.cls ≠ "java/lang/invoke/VarHandle" ∧ (parseMethodDescriptor yX10_part.desc).map (fun d => d.parameters.length) = some 3 := by decide +kernel
theorem hdV_X10_part : yX10_part.cls = RX10 ∧ yX10_part.cls ≠ "java/lang/invoke/MethodHandle" ∧ yX10_part.cls ≠ "java/lang/invoke/VarHandle" ∧ (parseMethodDescriptor yX10_part.desc).map (fun d => d.parameters.length) = some 3 := ⟨rfl, hdS_X10_part⟩
set_option maxHeartbeats 4000000 in
set_option maxRecDepth 100000 in
theorem c_X10_part (l : Launch) (E : G0) (a0 : Nat → Nat) (db di : Nat → Nat → Nat) (v0 : GC) (p1 : Int32) (p2 : Int32) (p3 : Int32) (x : Int32) (hf : f_X10_part v0 p1 p2 p3 = some x) : Met l yX10_part wsX10_part rmX10_part (va_Pc [.ref (a0 0), .int p1, .int p2, .int p3] (PR E (wGC E a0 db di v0))) (vp_Si (fun r => r = x)) 0 0 (fun _ => False) := by
  refine Met.ofW (cc := cX10_part) (maxL := 5) (ret := some .int) (by decide) rfl ?_
  intro p e s m args below meth c s₁ B hml hv
  obtain ⟨ha, hP, hC⟩ := hv
  have hx := B.exec
  have hb := B.bytes
  have hr := B.returns
  have hts := atoms_spec (ws := wsX10_part) B.pre
  have hown : s.vm.findClass RX10 = some m.cls := findClass_of_methodNamed B.named
  have hlocks := B.notSynchronized
  have hS : va_S (fun _ => False) s.heap s.heap [] := va_S.rf
  have w1 : (Cond.fieldLink RX10 31 "GreatChunks" "house" "LGreatChunks$House;").before args s = true := hts _ (List.mem_of_getElem? (i := 1) rfl)
  have w2 : ∀ w ∈ wsX100, w ∈ wsX10_part := in_pl 49 rfl
  have w3 : (Cond.fieldLink RX10 170 "GreatChunks$House" "servers" "LGreatChunks$Servers;").before args s = true := hts _ (List.mem_of_getElem? (i := 2) rfl)
  have w4 : ∀ w ∈ wsX50, w ∈ wsX10_part := in_pl 57 rfl
  have w5 : (Cond.constant RX10 54 (-1000001)).before args s = true := hts _ (List.mem_of_getElem? (i := 4) rfl)
  have w6 : (Cond.fieldLink RX10 219 "GreatChunks$House" "chunks" "LGreatChunks$Chunks;").before args s = true := hts _ (List.mem_of_getElem? (i := 3) rfl)
  have w7 : (Cond.fieldLink RX10 261 "GreatChunks$House" "size" "I").before args s = true := hts _ (List.mem_of_getElem? (i := 5) rfl)
  have w8 : (Cond.fieldLink RX10 199 "GreatChunks$House" "copies" "LGreatChunks$Copies;").before args s = true := hts _ (List.mem_of_getElem? (i := 6) rfl)
  have w9 : (Cond.constant RX10 191 (-1000000)).before args s = true := hts _ (List.mem_of_getElem? (i := 7) rfl)
  generalize hQe : MQ below (vp_Si (fun r => r = x)) args s 0 0 (fun _ => False) = Q
  refine st_W ha (Nat.le_of_ble_eq_true rfl) (fun ls hl => ?_)
  have hl : lv_has ls 5 [(0, .ref (a0 0)), (1, .int p1), (2, .int p2), (3, .int p3)] := hl
  unfold f_X10_part at hf
  refine lv_aload_n hx hb dX10_part_0 rfl (lv_at hl 0 rfl) ?_
  refine va_get (D := E.1) (ci := 8) (v := .ref (a0 26)) (C := RX10) (T := TX10) (N := 8) hx hb hts w2 hown hC.1 hP 0 rfl rfl 3 (by decide) w1 (fun _ h9 => h9) rfl dX10_part_1 ?_
  refine va_get (D := E.1) (ci := 4) (v := .ref (a0 27)) (C := RX5) (T := TX5) (N := 9) hx hb hts w4 hown hC.1 hP 26 rfl rfl 5 (by decide) w3 (fun _ h9 => h9) rfl dX10_part_4 ?_
  refine lv_iload_n hx hb dX10_part_7 rfl (lv_at hl 1 rfl) ?_
  refine cr_i (va_runV (As := [.int p1]) (rest := []) ⟨hx, hb, hml, hown, hts⟩ (c_X8_has l E (fun k => a0 (k + 27)) v0.2.2.2.1.2.2.2.2.2.1 p1 _ rfl) (cwV 1 hts gX10_part_X8_has rfl rfl rfl hdV_X8_has ⟨Nat.le_of_ble_eq_true rfl, Nat.le_of_ble_eq_true rfl⟩) ⟨PR.blind, va_recv hC.1 hP (ci := 6) (q0 := 27) rfl rfl, PR.pre hC hS (hP.sub [27, 28, 29] rfl)⟩ rfl rfl hl.1 rfl (lv_room (Nat.le_of_ble_eq_true rfl)) dX10_part_8 ⟨Nat.le_of_ble_eq_true rfl, Nat.le_of_ble_eq_true rfl⟩) ?_
  refine lv_if_eq (tgt := 28) hx hb dX10_part_11 rfl (fun c1 => ?_) (fun c1 => ?_)
  · have hf := it_t hf c1
    refine lv_ldc hx hb hown w5 dX10_part_28 ?_
    cases Option.some.inj hf
    subst hQe
    exact en_i hx hb hr hlocks dX10_part_30
  · have hf := it_f hf c1
    refine lv_aload_n hx hb dX10_part_14 rfl (lv_at hl 0 rfl) ?_
    refine va_get (D := E.1) (ci := 8) (v := .ref (a0 26)) (C := RX10) (T := TX10) (N := 8) hx hb hts w2 hown hC.1 hP 0 rfl rfl 3 (by decide) w1 (fun _ h9 => h9) rfl dX10_part_15 ?_
    refine va_get (D := E.1) (ci := 4) (v := .ref (a0 30)) (C := RX5) (T := TX5) (N := 9) hx hb hts w4 hown hC.1 hP 26 rfl rfl 6 (by decide) w6 (fun _ h9 => h9) rfl dX10_part_18 ?_
    refine lv_iload_n hx hb dX10_part_21 rfl (lv_at hl 2 rfl) ?_
    refine cr_i (va_runV (As := [.int p2]) (rest := []) ⟨hx, hb, hml, hown, hts⟩ (c_X1_has l E (fun k => a0 (k + 30)) v0.2.2.2.1.2.2.2.2.2.2.1 p2 _ rfl) (cwV 1 hts gX10_part_X1_has rfl rfl rfl hdV_X1_has ⟨Nat.le_of_ble_eq_true rfl, Nat.le_of_ble_eq_true rfl⟩) ⟨PR.blind, va_recv hC.1 hP (ci := 1) (q0 := 30) rfl rfl, PR.pre hC hS (hP.sub [30, 31, 32, 33, 34] rfl)⟩ rfl rfl hl.1 rfl (lv_room (Nat.le_of_ble_eq_true rfl)) dX10_part_22 ⟨Nat.le_of_ble_eq_true rfl, Nat.le_of_ble_eq_true rfl⟩) ?_
    refine lv_if_ne (tgt := 31) hx hb dX10_part_25 rfl (fun c2 => ?_) (fun c2 => ?_)
    · have hf := it_f hf c2
      refine lv_iload_n hx hb dX10_part_31 rfl (lv_at hl 3 rfl) ?_
      refine lv_bipush (v := 10) hx hb dX10_part_32 rfl ?_
      refine lv_bipush (v := 9) hx hb dX10_part_34 rfl ?_
      refine lv_aload_n hx hb dX10_part_36 rfl (lv_at hl 0 rfl) ?_
      refine va_get (D := E.1) (ci := 8) (v := .ref (a0 26)) (C := RX10) (T := TX10) (N := 8) hx hb hts w2 hown hC.1 hP 0 rfl rfl 3 (by decide) w1 (fun _ h9 => h9) rfl dX10_part_37 ?_
      refine va_get (D := E.1) (ci := 4) (v := .int v0.2.2.2.1.2.1) (C := RX5) (T := TX5) (N := 9) hx hb hts w4 hown hC.1 hP 26 rfl rfl 1 (by decide) w7 (fun _ h9 => h9) rfl dX10_part_40 ?_
      refine lv_iadd hx hb dX10_part_43 ?_
      refine cr_i (va_runS (As := [.int p3, .int (10 : Int32), .int ((9 : Int32) + v0.2.2.2.1.2.1)]) (rest := []) ⟨hx, hb, hml, hown, hts⟩ (c_X10_within l E p3 (10 : Int32) ((9 : Int32) + v0.2.2.2.1.2.1) _ rfl) (va_cwS 3 hts gX10_part_X10_within rfl rfl rfl hdS_X10_within ⟨Nat.le_of_ble_eq_true rfl, Nat.le_of_ble_eq_true rfl⟩) ⟨PR.blind, PR.pre hC hS (hP.sub [] rfl)⟩ rfl rfl hl.1 rfl (lv_room (Nat.le_of_ble_eq_true rfl)) dX10_part_44 ⟨Nat.le_of_ble_eq_true rfl, Nat.le_of_ble_eq_true rfl⟩) ?_
      refine lv_istore (lv' := [(4, .int (bI (f_X10_within p3 (10 : Int32) ((9 : Int32) + v0.2.2.2.1.2.1)))), (0, .ref (a0 0)), (1, .int p1), (2, .int p2), (3, .int p3)]) hx hb dX10_part_47 hl (by decide) rfl (fun ls hl => ?_)
      refine lv_iload hx hb dX10_part_49 (lv_at hl 0 rfl) ?_
      obtain ⟨K3, hK3, hf⟩ := jn_some hf
      have J3 : ∀ (q3 : Unit) (hf : K3 q3 = some x), W p l e (headSpec wsX10_part rmX10_part).room s m args below meth c s.heap [] 0 0 Q (F0 m 66 ls []) := by
        intro q3 hf
        have hf := (hK3 q3).trans hf
        refine lv_aload_n hx hb dX10_part_66 rfl (lv_at hl 1 rfl) ?_
        refine va_get (D := E.1) (ci := 8) (v := .ref (a0 26)) (C := RX10) (T := TX10) (N := 8) hx hb hts w2 hown hC.1 hP 0 rfl rfl 3 (by decide) w1 (fun _ h9 => h9) rfl dX10_part_67 ?_
        refine va_get (D := E.1) (ci := 4) (v := .ref (a0 35)) (C := RX5) (T := TX5) (N := 9) hx hb hts w4 hown hC.1 hP 26 rfl rfl 7 (by decide) w8 (fun _ h9 => h9) rfl dX10_part_70 ?_
        refine lv_iload_n hx hb dX10_part_73 rfl (lv_at hl 2 rfl) ?_
        refine lv_iload_n hx hb dX10_part_74 rfl (lv_at hl 3 rfl) ?_
        obtain ⟨r4, e4, hf⟩ := bd_some hf
        refine cr_i (va_runV (As := [.int p1, .int p2]) (rest := []) ⟨hx, hb, hml, hown, hts⟩ (c_X2_lies l E (fun k => a0 (k + 35)) v0.2.2.2.1.2.2.2.2.2.2.2.1 p1 p2 r4 e4) (cwV 2 hts gX10_part_X2_lies rfl rfl rfl hdV_X2_lies ⟨Nat.le_of_ble_eq_true rfl, Nat.le_of_ble_eq_true rfl⟩) ⟨PR.blind, va_recv hC.1 hP (ci := 2) (q0 := 35) rfl rfl, PR.pre hC hS (hP.sub [35, 36, 37, 38] rfl)⟩ rfl rfl hl.1 rfl (lv_room (Nat.le_of_ble_eq_true rfl)) dX10_part_75 ⟨Nat.le_of_ble_eq_true rfl, Nat.le_of_ble_eq_true rfl⟩) ?_
        refine lv_if_ne (tgt := 84) hx hb dX10_part_78 rfl (fun c5 => ?_) (fun c5 => ?_)
        · have hf := it_f hf c5
          refine lv_iload hx hb dX10_part_84 (lv_at hl 0 rfl) ?_
          refine lv_if_eq (tgt := 106) hx hb dX10_part_86 rfl (fun c6 => ?_) (fun c6 => ?_)
          · have hf := it_t hf c6
            refine lv_iload_n hx hb dX10_part_106 rfl (lv_at hl 4 rfl) ?_
            refine lv_if_ne (tgt := 125) hx hb dX10_part_107 rfl (fun c7 => ?_) (fun c7 => ?_)
            · have hf := it_f hf c7
              refine lv_aload_n hx hb dX10_part_125 rfl (lv_at hl 1 rfl) ?_
              refine va_get (D := E.1) (ci := 8) (v := .ref (a0 26)) (C := RX10) (T := TX10) (N := 8) hx hb hts w2 hown hC.1 hP 0 rfl rfl 3 (by decide) w1 (fun _ h9 => h9) rfl dX10_part_126 ?_
              refine va_get (D := E.1) (ci := 4) (v := .ref (a0 35)) (C := RX5) (T := TX5) (N := 9) hx hb hts w4 hown hC.1 hP 26 rfl rfl 7 (by decide) w8 (fun _ h9 => h9) rfl dX10_part_129 ?_
              refine lv_iload_n hx hb dX10_part_132 rfl (lv_at hl 2 rfl) ?_
              refine lv_iload_n hx hb dX10_part_133 rfl (lv_at hl 3 rfl) ?_
              obtain ⟨r8, e8, hf⟩ := bd_some hf
              refine cr_i (va_runV (As := [.int p1, .int p2]) (rest := []) ⟨hx, hb, hml, hown, hts⟩ (c_X2_filledOf l E (fun k => a0 (k + 35)) v0.2.2.2.1.2.2.2.2.2.2.2.1 p1 p2 r8 e8) (cwV 2 hts gX10_part_X2_filledOf rfl rfl rfl hdV_X2_filledOf ⟨Nat.le_of_ble_eq_true rfl, Nat.le_of_ble_eq_true rfl⟩) ⟨PR.blind, va_recv hC.1 hP (ci := 2) (q0 := 35) rfl rfl, PR.pre hC hS (hP.sub [35, 36, 37, 38] rfl)⟩ rfl rfl hl.1 rfl (lv_room (Nat.le_of_ble_eq_true rfl)) dX10_part_134 ⟨Nat.le_of_ble_eq_true rfl, Nat.le_of_ble_eq_true rfl⟩) ?_
              cases Option.some.inj hf
              subst hQe
              exact en_i hx hb hr hlocks dX10_part_137
            · have hf := it_t hf c7
              refine lv_aload_n hx hb dX10_part_110 rfl (lv_at hl 1 rfl) ?_
              refine va_get (D := E.1) (ci := 8) (v := .ref (a0 26)) (C := RX10) (T := TX10) (N := 8) hx hb hts w2 hown hC.1 hP 0 rfl rfl 3 (by decide) w1 (fun _ h9 => h9) rfl dX10_part_111 ?_
              refine va_get (D := E.1) (ci := 4) (v := .ref (a0 35)) (C := RX5) (T := TX5) (N := 9) hx hb hts w4 hown hC.1 hP 26 rfl rfl 7 (by decide) w8 (fun _ h9 => h9) rfl dX10_part_114 ?_
              refine lv_iload_n hx hb dX10_part_117 rfl (lv_at hl 2 rfl) ?_
              refine lv_iload_n hx hb dX10_part_118 rfl (lv_at hl 3 rfl) ?_
              obtain ⟨r9, e9, hf⟩ := bd_some hf
              refine cr_i (va_runV (As := [.int p1, .int p2]) (rest := []) ⟨hx, hb, hml, hown, hts⟩ (c_X2_versionOf l E (fun k => a0 (k + 35)) v0.2.2.2.1.2.2.2.2.2.2.2.1 p1 p2 r9 e9) (cwV 2 hts gX10_part_X2_versionOf rfl rfl rfl hdV_X2_versionOf ⟨Nat.le_of_ble_eq_true rfl, Nat.le_of_ble_eq_true rfl⟩) ⟨PR.blind, va_recv hC.1 hP (ci := 2) (q0 := 35) rfl rfl, PR.pre hC hS (hP.sub [35, 36, 37, 38] rfl)⟩ rfl rfl hl.1 rfl (lv_room (Nat.le_of_ble_eq_true rfl)) dX10_part_119 ⟨Nat.le_of_ble_eq_true rfl, Nat.le_of_ble_eq_true rfl⟩) ?_
              refine lv_goto (tgt := 137) hx hb dX10_part_122 rfl ?_
              cases Option.some.inj hf
              subst hQe
              exact en_i hx hb hr hlocks dX10_part_137
          · have hf := it_f hf c6
            refine lv_aload_n hx hb dX10_part_89 rfl (lv_at hl 1 rfl) ?_
            refine va_get (D := E.1) (ci := 8) (v := .ref (a0 26)) (C := RX10) (T := TX10) (N := 8) hx hb hts w2 hown hC.1 hP 0 rfl rfl 3 (by decide) w1 (fun _ h9 => h9) rfl dX10_part_90 ?_
            refine va_get (D := E.1) (ci := 4) (v := .ref (a0 35)) (C := RX5) (T := TX5) (N := 9) hx hb hts w4 hown hC.1 hP 26 rfl rfl 7 (by decide) w8 (fun _ h9 => h9) rfl dX10_part_93 ?_
            refine lv_iload_n hx hb dX10_part_96 rfl (lv_at hl 2 rfl) ?_
            refine lv_iload_n hx hb dX10_part_97 rfl (lv_at hl 3 rfl) ?_
            refine lv_iload_n hx hb dX10_part_98 rfl (lv_at hl 4 rfl) ?_
            refine lv_bipush (v := 10) hx hb dX10_part_99 rfl ?_
            refine lv_isub hx hb dX10_part_101 ?_
            obtain ⟨r10, e10, hf⟩ := bd_some hf
            refine cr_i (va_runV (As := [.int p1, .int p2, .int (p3 - (10 : Int32))]) (rest := []) ⟨hx, hb, hml, hown, hts⟩ (c_X2_cell l E (fun k => a0 (k + 35)) v0.2.2.2.1.2.2.2.2.2.2.2.1 p1 p2 (p3 - (10 : Int32)) r10 e10) (cwV 3 hts gX10_part_X2_cell rfl rfl rfl hdV_X2_cell ⟨Nat.le_of_ble_eq_true rfl, Nat.le_of_ble_eq_true rfl⟩) ⟨PR.blind, va_recv hC.1 hP (ci := 2) (q0 := 35) rfl rfl, PR.pre hC hS (hP.sub [35, 36, 37, 38] rfl)⟩ rfl rfl hl.1 rfl (lv_room (Nat.le_of_ble_eq_true rfl)) dX10_part_102 ⟨Nat.le_of_ble_eq_true rfl, Nat.le_of_ble_eq_true rfl⟩) ?_
            cases Option.some.inj hf
            subst hQe
            exact en_i hx hb hr hlocks dX10_part_105
        · have hf := it_t hf c5
          refine lv_ldc hx hb hown w9 dX10_part_81 ?_
          cases Option.some.inj hf
          subst hQe
          exact en_i hx hb hr hlocks dX10_part_83
      refine lv_if_ne (tgt := 66) hx hb dX10_part_51 rfl (fun c11 => ?_) (fun c11 => ?_)
      · have hf := it_f hf c11
        exact J3 () hf
      · have hf := it_t hf c11
        refine lv_iload_n hx hb dX10_part_54 rfl (lv_at hl 4 rfl) ?_
        refine lv_iconst (v := 0) hx hb dX10_part_55 rfl ?_
        refine lv_iconst (v := 1) hx hb dX10_part_56 rfl ?_
        refine cr_i (va_runS (As := [.int p3, .int (0 : Int32), .int (1 : Int32)]) (rest := []) ⟨hx, hb, hml, hown, hts⟩ (c_X10_within l E p3 (0 : Int32) (1 : Int32) _ rfl) (va_cwS 3 hts gX10_part_X10_within rfl rfl rfl hdS_X10_within ⟨Nat.le_of_ble_eq_true rfl, Nat.le_of_ble_eq_true rfl⟩) ⟨PR.blind, PR.pre hC hS (hP.sub [] rfl)⟩ rfl rfl hl.1 rfl (lv_room (Nat.le_of_ble_eq_true rfl)) dX10_part_57 ⟨Nat.le_of_ble_eq_true rfl, Nat.le_of_ble_eq_true rfl⟩) ?_
        refine lv_if_ne (tgt := 66) hx hb dX10_part_60 rfl (fun c12 => ?_) (fun c12 => ?_)
        · have hf := it_f hf c12
          exact J3 () hf
        · have hf := it_t hf c12
          refine lv_ldc hx hb hown w5 dX10_part_63 ?_
          cases Option.some.inj hf
          subst hQe
          exact en_i hx hb hr hlocks dX10_part_65
    · have hf := it_t hf c2
      refine lv_ldc hx hb hown w5 dX10_part_28 ?_
      cases Option.some.inj hf
      subst hQe
      exact en_i hx hb hr hlocks dX10_part_30

/-! X10_read -/
abbrev rmX10_read : Room := { frames := 4, cells := 0, slots := 0, locals := 91 }
theorem hdS_X10_read : yX10_read.cls ≠ "java/lang/invoke/MethodHandle" ∧ yX10_read.cls ≠ "java/lang/invoke/VarHandle" ∧ (parseMethodDescriptor yX10_read.desc).map (fun d => d.parameters.length) = some 3 := by decide +kernel
theorem hdV_X10_read : yX10_read.cls = RX10 ∧ yX10_read.cls ≠ "java/lang/invoke/MethodHandle" ∧ yX10_read.cls ≠ "java/lang/invoke/VarHandle" ∧ (parseMethodDescriptor yX10_read.desc).map (fun d => d.parameters.length) = some 3 := ⟨rfl, hdS_X10_read⟩
set_option maxHeartbeats 4000000 in
set_option maxRecDepth 100000 in
theorem c_X10_read (l : Launch) (E : G0) (a0 : Nat → Nat) (db di : Nat → Nat → Nat) (v0 : GC) (p1 : Int32) (p2 : Int32) (p3 : Int32) (x : Int32) (hf : f_X10_read v0 p1 p2 p3 = some x) : Met l yX10_read wsX10_read rmX10_read (va_Pc [.ref (a0 0), .int p1, .int p2, .int p3] (PR E (wGC E a0 db di v0))) (vp_Si (fun r => r = x)) 0 0 (fun _ => False) := by
  refine Met.ofW (cc := cX10_read) (maxL := 4) (ret := some .int) (by decide) rfl ?_
  intro p e s m args below meth c s₁ B hml hv
  obtain ⟨ha, hP, hC⟩ := hv
  have hx := B.exec
  have hb := B.bytes
  have hr := B.returns
  have hts := atoms_spec (ws := wsX10_read) B.pre
  have hown : s.vm.findClass RX10 = some m.cls := findClass_of_methodNamed B.named
  have hlocks := B.notSynchronized
  have hS : va_S (fun _ => False) s.heap s.heap [] := va_S.rf
  have w1 : (Cond.fieldLink RX10 42 "GreatChunks" "standing" "Z").before args s = true := hts _ (List.mem_of_getElem? (i := 1) rfl)
  have w2 : ∀ w ∈ wsX100, w ∈ wsX10_read := in_pl 97 rfl
  have w3 : (Cond.constant RX10 99 (-1000002)).before args s = true := hts _ (List.mem_of_getElem? (i := 2) rfl)
  have w4 : (Cond.constant RX10 54 (-1000001)).before args s = true := hts _ (List.mem_of_getElem? (i := 5) rfl)
  have w5 : (Cond.fieldLink RX10 31 "GreatChunks" "house" "LGreatChunks$House;").before args s = true := hts _ (List.mem_of_getElem? (i := 3) rfl)
  have w6 : (Cond.fieldLink RX10 170 "GreatChunks$House" "servers" "LGreatChunks$Servers;").before args s = true := hts _ (List.mem_of_getElem? (i := 4) rfl)
  have w7 : ∀ w ∈ wsX50, w ∈ wsX10_read := in_pl 105 rfl
  have w8 : (Cond.fieldLink RX10 83 "GreatChunks$House" "files" "LGreatChunks$Files;").before args s = true := hts _ (List.mem_of_getElem? (i := 6) rfl)
  generalize hQe : MQ below (vp_Si (fun r => r = x)) args s 0 0 (fun _ => False) = Q
  refine st_W ha (Nat.le_of_ble_eq_true rfl) (fun ls hl => ?_)
  have hl : lv_has ls 4 [(0, .ref (a0 0)), (1, .int p1), (2, .int p2), (3, .int p3)] := hl
  unfold f_X10_read at hf
  refine lv_aload_n hx hb dX10_read_0 rfl (lv_at hl 0 rfl) ?_
  refine va_get (D := E.1) (ci := 8) (v := .int v0.2.2.2.2.2.2.1) (C := RX10) (T := TX10) (N := 8) hx hb hts w2 hown hC.1 hP 0 rfl rfl 6 (by decide) w1 (fun _ h9 => h9) rfl dX10_read_1 ?_
  refine lv_if_ne (tgt := 10) hx hb dX10_read_4 rfl (fun c1 => ?_) (fun c1 => ?_)
  · have hf := it_f hf c1
    refine lv_iload_n hx hb dX10_read_10 rfl (lv_at hl 1 rfl) ?_
    refine cr_i (va_runS (As := [.int p1]) (rest := []) ⟨hx, hb, hml, hown, hts⟩ (c_X10_isFile l E p1 _ rfl) (va_cwS 1 hts gX10_read_X10_isFile rfl rfl rfl hdS_X10_isFile ⟨Nat.le_of_ble_eq_true rfl, Nat.le_of_ble_eq_true rfl⟩) ⟨PR.blind, PR.pre hC hS (hP.sub [] rfl)⟩ rfl rfl hl.1 rfl (lv_room (Nat.le_of_ble_eq_true rfl)) dX10_read_11 ⟨Nat.le_of_ble_eq_true rfl, Nat.le_of_ble_eq_true rfl⟩) ?_
    refine lv_if_eq (tgt := 31) hx hb dX10_read_14 rfl (fun c2 => ?_) (fun c2 => ?_)
    · have hf := it_t hf c2
      refine lv_ldc hx hb hown w4 dX10_read_31 ?_
      cases Option.some.inj hf
      subst hQe
      exact en_i hx hb hr hlocks dX10_read_33
    · have hf := it_f hf c2
      refine lv_aload_n hx hb dX10_read_17 rfl (lv_at hl 0 rfl) ?_
      refine va_get (D := E.1) (ci := 8) (v := .ref (a0 26)) (C := RX10) (T := TX10) (N := 8) hx hb hts w2 hown hC.1 hP 0 rfl rfl 3 (by decide) w5 (fun _ h9 => h9) rfl dX10_read_18 ?_
      refine va_get (D := E.1) (ci := 4) (v := .ref (a0 27)) (C := RX5) (T := TX5) (N := 9) hx hb hts w7 hown hC.1 hP 26 rfl rfl 5 (by decide) w6 (fun _ h9 => h9) rfl dX10_read_21 ?_
      refine lv_iload_n hx hb dX10_read_24 rfl (lv_at hl 3 rfl) ?_
      refine cr_i (va_runV (As := [.int p3]) (rest := []) ⟨hx, hb, hml, hown, hts⟩ (c_X8_has l E (fun k => a0 (k + 27)) v0.2.2.2.1.2.2.2.2.2.1 p3 _ rfl) (cwV 1 hts gX10_read_X8_has rfl rfl rfl hdV_X8_has ⟨Nat.le_of_ble_eq_true rfl, Nat.le_of_ble_eq_true rfl⟩) ⟨PR.blind, va_recv hC.1 hP (ci := 6) (q0 := 27) rfl rfl, PR.pre hC hS (hP.sub [27, 28, 29] rfl)⟩ rfl rfl hl.1 rfl (lv_room (Nat.le_of_ble_eq_true rfl)) dX10_read_25 ⟨Nat.le_of_ble_eq_true rfl, Nat.le_of_ble_eq_true rfl⟩) ?_
      refine lv_if_ne (tgt := 34) hx hb dX10_read_28 rfl (fun c3 => ?_) (fun c3 => ?_)
      · have hf := it_f hf c3
        refine lv_aload_n hx hb dX10_read_34 rfl (lv_at hl 0 rfl) ?_
        refine va_get (D := E.1) (ci := 8) (v := .ref (a0 26)) (C := RX10) (T := TX10) (N := 8) hx hb hts w2 hown hC.1 hP 0 rfl rfl 3 (by decide) w5 (fun _ h9 => h9) rfl dX10_read_35 ?_
        refine va_get (D := E.1) (ci := 4) (v := .ref (a0 39)) (C := RX5) (T := TX5) (N := 9) hx hb hts w7 hown hC.1 hP 26 rfl rfl 8 (by decide) w8 (fun _ h9 => h9) rfl dX10_read_38 ?_
        refine lv_iload_n hx hb dX10_read_41 rfl (lv_at hl 1 rfl) ?_
        refine lv_iconst (v := 1) hx hb dX10_read_42 rfl ?_
        obtain ⟨r4, e4, hf⟩ := bd_some hf
        refine cr_i (va_runV (As := [.int p1, .int (1 : Int32)]) (rest := []) ⟨hx, hb, hml, hown, hts⟩ (c_X3_is l E (fun k => a0 (k + 39)) v0.2.2.2.1.2.2.2.2.2.2.2.2 p1 (1 : Int32) r4 e4) (cwV 2 hts gX10_read_X3_is rfl rfl rfl hdV_X3_is ⟨Nat.le_of_ble_eq_true rfl, Nat.le_of_ble_eq_true rfl⟩) ⟨PR.blind, va_recv hC.1 hP (ci := 3) (q0 := 39) rfl rfl, PR.pre hC hS (hP.sub [39, 40, 41, 42, 43, 44] rfl)⟩ rfl rfl hl.1 rfl (lv_room (Nat.le_of_ble_eq_true rfl)) dX10_read_43 ⟨Nat.le_of_ble_eq_true rfl, Nat.le_of_ble_eq_true rfl⟩) ?_
        refine lv_if_ne (tgt := 52) hx hb dX10_read_46 rfl (fun c5 => ?_) (fun c5 => ?_)
        · have hf := it_f hf c5
          refine lv_aload_n hx hb dX10_read_52 rfl (lv_at hl 0 rfl) ?_
          refine va_get (D := E.1) (ci := 8) (v := .ref (a0 26)) (C := RX10) (T := TX10) (N := 8) hx hb hts w2 hown hC.1 hP 0 rfl rfl 3 (by decide) w5 (fun _ h9 => h9) rfl dX10_read_53 ?_
          refine lv_iload_n hx hb dX10_read_56 rfl (lv_at hl 1 rfl) ?_
          refine lv_iload_n hx hb dX10_read_57 rfl (lv_at hl 2 rfl) ?_
          obtain ⟨r6, e6, hf⟩ := bd_some hf
          refine cr_i (va_runV (As := [.int p1, .int p2]) (rest := []) ⟨hx, hb, hml, hown, hts⟩ (c_X5_hasCell l E (fun k => a0 (k + 26)) v0.2.2.2.1 p1 p2 r6 e6) (cwV 2 hts gX10_read_X5_hasCell rfl rfl rfl hdV_X5_hasCell ⟨Nat.le_of_ble_eq_true rfl, Nat.le_of_ble_eq_true rfl⟩) ⟨PR.blind, va_recv hC.1 hP (ci := 4) (q0 := 26) rfl rfl, PR.pre hC hS (hP.sub [26, 27, 28, 29, 30, 31, 32, 33, 34, 35, 36, 37, 38, 39, 40, 41, 42, 43, 44] rfl)⟩ rfl rfl hl.1 rfl (lv_room (Nat.le_of_ble_eq_true rfl)) dX10_read_58 ⟨Nat.le_of_ble_eq_true rfl, Nat.le_of_ble_eq_true rfl⟩) ?_
          refine lv_if_ne (tgt := 67) hx hb dX10_read_61 rfl (fun c7 => ?_) (fun c7 => ?_)
          · have hf := it_f hf c7
            refine lv_aload_n hx hb dX10_read_67 rfl (lv_at hl 0 rfl) ?_
            refine va_get (D := E.1) (ci := 8) (v := .ref (a0 26)) (C := RX10) (T := TX10) (N := 8) hx hb hts w2 hown hC.1 hP 0 rfl rfl 3 (by decide) w5 (fun _ h9 => h9) rfl dX10_read_68 ?_
            refine lv_iload_n hx hb dX10_read_71 rfl (lv_at hl 1 rfl) ?_
            refine lv_iload_n hx hb dX10_read_72 rfl (lv_at hl 2 rfl) ?_
            refine lv_iload_n hx hb dX10_read_73 rfl (lv_at hl 3 rfl) ?_
            obtain ⟨r8, e8, hf⟩ := bd_some hf
            refine cr_i (va_runV (As := [.int p1, .int p2, .int p3]) (rest := []) ⟨hx, hb, hml, hown, hts⟩ (c_X5_readCell l E (fun k => a0 (k + 26)) v0.2.2.2.1 p1 p2 p3 r8 e8) (cwV 3 hts gX10_read_X5_readCell rfl rfl rfl hdV_X5_readCell ⟨Nat.le_of_ble_eq_true rfl, Nat.le_of_ble_eq_true rfl⟩) ⟨PR.blind, va_recv hC.1 hP (ci := 4) (q0 := 26) rfl rfl, PR.pre hC hS (hP.sub [26, 27, 28, 29, 30, 31, 32, 33, 34, 35, 36, 37, 38, 39, 40, 41, 42, 43, 44] rfl)⟩ rfl rfl hl.1 rfl (lv_room (Nat.le_of_ble_eq_true rfl)) dX10_read_74 ⟨Nat.le_of_ble_eq_true rfl, Nat.le_of_ble_eq_true rfl⟩) ?_
            cases Option.some.inj hf
            subst hQe
            exact en_i hx hb hr hlocks dX10_read_77
          · have hf := it_t hf c7
            refine lv_ldc hx hb hown w4 dX10_read_64 ?_
            cases Option.some.inj hf
            subst hQe
            exact en_i hx hb hr hlocks dX10_read_66
        · have hf := it_t hf c5
          refine lv_ldc hx hb hown w3 dX10_read_49 ?_
          cases Option.some.inj hf
          subst hQe
          exact en_i hx hb hr hlocks dX10_read_51
      · have hf := it_t hf c3
        refine lv_ldc hx hb hown w4 dX10_read_31 ?_
        cases Option.some.inj hf
        subst hQe
        exact en_i hx hb hr hlocks dX10_read_33
  · have hf := it_t hf c1
    refine lv_ldc hx hb hown w3 dX10_read_7 ?_
    cases Option.some.inj hf
    subst hQe
    exact en_i hx hb hr hlocks dX10_read_9

/-! X10_find -/
abbrev rmX10_find : Room := { frames := 5, cells := 0, slots := 0, locals := 126 }
theorem hdS_X10_find : yX10_find.cls ≠ "java/lang/invoke/MethodHandle" ∧ yX10_find.cls ≠ "java/lang/invoke/VarHandle" ∧ (parseMethodDescriptor yX10_find.desc).map (fun d => d.parameters.length) = some 1 := by decide +kernel
theorem hdV_X10_find : yX10_find.cls = RX10 ∧ yX10_find.cls ≠ "java/lang/invoke/MethodHandle" ∧ yX10_find.cls ≠ "java/lang/invoke/VarHandle" ∧ (parseMethodDescriptor yX10_find.desc).map (fun d => d.parameters.length) = some 1 := ⟨rfl, hdS_X10_find⟩
set_option maxHeartbeats 4000000 in
set_option maxRecDepth 100000 in
theorem c_X10_find (l : Launch) (E : G0) (sz : Nat) (a0 : Nat → Nat) (db di : Nat → Nat → Nat) (v0 : GC) (p1 : Int32) (x : Int32 × GC) (hf : f_X10_find v0 p1 = some x) : Met l yX10_find wsX10_find rmX10_find (va_Pc [.ref (a0 0), .int p1] (PW E (wGC E a0 db di v0) sz)) (va_Qi (fun r (q : DA × GC) => r = x.1 ∧ q.2 = x.2) (fun q t => va_P E.1 vwCl (wGC E a0 q.1.1 q.1.2 q.2) t.heap ∧ va_D (va_A (wGC E a0 db di v0) sz) (wGC E a0 q.1.1 q.1.2 q.2)) (va_A (wGC E a0 db di v0) sz)) 0 0 (va_A (wGC E a0 db di v0) sz) := by
  refine Met.ofW (cc := cX10_find) (maxL := 4) (ret := some .int) (by decide) rfl ?_
  intro p e s m args below meth c s₁ B hml hv
  obtain ⟨ha, hsz, hP, hD0, hC⟩ := hv
  have hx := B.exec
  have hb := B.bytes
  have hr := B.returns
  have hts := atoms_spec (ws := wsX10_find) B.pre
  have hown : s.vm.findClass RX10 = some m.cls := findClass_of_methodNamed B.named
  have hlocks := B.notSynchronized
  subst hsz
  have hD := hD0.self (sz := s.heap.size)
  generalize hAe : va_A (wGC E a0 db di v0) s.heap.size = A at hD hC ⊢
  have hA : ∀ q : Nat, s.heap.size ≤ q → A q := fun q h => by rw [← hAe]; exact Or.inr h
  have hS : va_S A s.heap s.heap [] := va_S.rf
  have w1 : (Cond.fieldLink RX10 31 "GreatChunks" "house" "LGreatChunks$House;").before args s = true := hts _ (List.mem_of_getElem? (i := 1) rfl)
  have w2 : ∀ w ∈ wsX100, w ∈ wsX10_find := in_pl 107 rfl
  have w3 : (Cond.fieldLink RX10 20 "GreatChunks" "tape" "LGreatChunks$Tape;").before args s = true := hts _ (List.mem_of_getElem? (i := 2) rfl)
  have w4 : (Cond.fieldLink RX10 125 "GreatChunks$Tape" "bytes" "[I").before args s = true := hts _ (List.mem_of_getElem? (i := 3) rfl)
  have w5 : ∀ w ∈ wsX90, w ∈ wsX10_find := in_pl 115 rfl
  generalize hQe : MQ below (va_Qi (fun r (q : DA × GC) => r = x.1 ∧ q.2 = x.2) (fun q t => va_P E.1 vwCl (wGC E a0 q.1.1 q.1.2 q.2) t.heap ∧ va_D A (wGC E a0 q.1.1 q.1.2 q.2)) A) args s 0 0 A = Q
  refine st_W ha (Nat.le_of_ble_eq_true rfl) (fun ls hl => ?_)
  have hl : lv_has ls 4 [(0, .ref (a0 0)), (1, .int p1)] := hl
  unfold f_X10_find at hf
  refine lv_aload_n hx hb dX10_find_0 rfl (lv_at hl 0 rfl) ?_
  obtain ⟨r1, e1, hf⟩ := bd_some hf
  refine cp_i (wr := []) (wc := (wGC E a0 db di v0)) (wf := (fun q : DA × GC => wGC E a0 q.1.1 q.1.2 q.2)) hP hD hS hA (va_runV (As := []) (rest := []) ⟨hx, hb, hml, hown, hts⟩ (c_X10_takeRecord l E s.heap.size a0 db di v0 r1 e1) (cwV 0 hts gX10_find_X10_takeRecord rfl rfl rfl hdV_X10_takeRecord ⟨Nat.le_of_ble_eq_true rfl, Nat.le_of_ble_eq_true rfl⟩) ⟨PW.blind, va_recv hC.1 hP (ci := 8) (q0 := 0) rfl rfl, PW.pre hC hS hP hD (va_freeR (wr := []) hD hS hA)⟩ rfl rfl hl.1 rfl (lv_room (Nat.le_of_ble_eq_true rfl)) dX10_find_1 ⟨Nat.le_of_ble_eq_true rfl, Nat.le_of_ble_eq_true rfl⟩) (fun r9 u9 H locs hw9 hP hD hS => ?_)
  obtain ⟨⟨db, di⟩, u9⟩ := u9
  obtain ⟨hw8, hw9⟩ := hw9
  have hw9 : u9 = r1.2 := hw9
  subst hw8
  subst hw9
  have hP : va_P E.1 vwCl (wGC E a0 db di r1.2) H := hP
  have hD : va_D A (wGC E a0 db di r1.2) := hD
  refine lv_istore_n (lv' := [(2, .int r1.1), (0, .ref (a0 0)), (1, .int p1)]) hx hb dX10_find_4 rfl hl (by decide) rfl (fun ls hl => ?_)
  refine lv_aload_n hx hb dX10_find_5 rfl (lv_at hl 1 rfl) ?_
  refine lv_iload_n hx hb dX10_find_6 rfl (lv_at hl 2 rfl) ?_
  refine lv_iload_n hx hb dX10_find_7 rfl (lv_at hl 0 rfl) ?_
  obtain ⟨r2, e2, hf⟩ := bd_some hf
  refine cr_i (va_runV (As := [.int p1, .int r1.1]) (rest := []) ⟨hx, hb, hml, hown, hts⟩ (c_X10_refusalOfRecord l E a0 db di r1.2 p1 r1.1 r2 e2) (cwV 2 hts gX10_find_X10_refusalOfRecord rfl rfl rfl hdV_X10_refusalOfRecord ⟨Nat.le_of_ble_eq_true rfl, Nat.le_of_ble_eq_true rfl⟩) ⟨PR.blind, va_recv hC.1 hP (ci := 8) (q0 := 0) rfl rfl, PR.pre hC hS hP⟩ rfl rfl hl.1 rfl (lv_room (Nat.le_of_ble_eq_true rfl)) dX10_find_8 ⟨Nat.le_of_ble_eq_true rfl, Nat.le_of_ble_eq_true rfl⟩) ?_
  refine lv_istore_n (lv' := [(3, .int r2), (2, .int r1.1), (0, .ref (a0 0)), (1, .int p1)]) hx hb dX10_find_11 rfl hl (by decide) rfl (fun ls hl => ?_)
  refine lv_iload_n hx hb dX10_find_12 rfl (lv_at hl 0 rfl) ?_
  refine lv_if_eq (tgt := 20) hx hb dX10_find_13 rfl (fun c3 => ?_) (fun c3 => ?_)
  · have hf := it_t hf c3
    refine lv_aload_n hx hb dX10_find_20 rfl (lv_at hl 2 rfl) ?_
    refine va_get (D := E.1) (ci := 8) (v := .ref (a0 26)) (C := RX10) (T := TX10) (N := 8) hx hb hts w2 hown hC.1 hP 0 rfl rfl 3 (by decide) w1 (fun _ h9 => h9) rfl dX10_find_21 ?_
    refine lv_iload_n hx hb dX10_find_24 rfl (lv_at hl 3 rfl) ?_
    refine lv_aload_n hx hb dX10_find_25 rfl (lv_at hl 2 rfl) ?_
    refine va_get (D := E.1) (ci := 8) (v := .ref (a0 2)) (C := RX10) (T := TX10) (N := 8) hx hb hts w2 hown hC.1 hP 0 rfl rfl 1 (by decide) w3 (fun _ h9 => h9) rfl dX10_find_26 ?_
    refine va_get (D := E.1) (ci := 7) (v := .ref (a0 3)) (C := RX9) (T := TX9) (N := 2) hx hb hts w5 hown hC.1 hP 2 rfl rfl 0 (by decide) w4 (fun _ h9 => h9) rfl dX10_find_29 ?_
    refine lv_iload_n hx hb dX10_find_32 rfl (lv_at hl 1 rfl) ?_
    obtain ⟨r4, e4, hf⟩ := bd_some hf
    refine cr_i (va_runV (As := [.int p1, .ref (a0 3), .int r1.1]) (rest := []) ⟨hx, hb, hml, hown, hts⟩ (c_X5_placesOf l E (fun k => a0 (k + 26)) r1.2.2.2.2.1 p1 (a0 3) 80 r1.2.1.1.1 r1.1 r4 e4) (cwV 3 hts gX10_find_X5_placesOf rfl rfl rfl hdV_X5_placesOf ⟨Nat.le_of_ble_eq_true rfl, Nat.le_of_ble_eq_true rfl⟩) ⟨PR.blind, va_recv hC.1 hP (ci := 4) (q0 := 26) rfl rfl, PR.pre hC hS (hP.sub [26, 27, 28, 29, 30, 31, 32, 33, 34, 35, 36, 37, 38, 39, 40, 41, 42, 43, 44, 3] rfl)⟩ rfl rfl hl.1 rfl (lv_room (Nat.le_of_ble_eq_true rfl)) dX10_find_33 ⟨Nat.le_of_ble_eq_true rfl, Nat.le_of_ble_eq_true rfl⟩) ?_
    cases Option.some.inj hf
    subst hQe
    exact eg_i hx hb hr hlocks hP hD hS dX10_find_36
  · have hf := it_f hf c3
    refine lv_iload_n hx hb dX10_find_16 rfl (lv_at hl 0 rfl) ?_
    refine lv_goto (tgt := 36) hx hb dX10_find_17 rfl ?_
    cases Option.some.inj hf
    subst hQe
    exact eg_i hx hb hr hlocks hP hD hS dX10_find_36

/-! X10_sums -/
abbrev rmX10_sums : Room := { frames := 6, cells := 0, slots := 0, locals := 134 }
theorem hdS_X10_sums : yX10_sums.cls ≠ "java/lang/invoke/MethodHandle" ∧ yX10_sums.cls ≠ "java/lang/invoke/VarHandle" ∧ (parseMethodDescriptor yX10_sums.desc).map (fun d => d.parameters.length) = some 1 := by decide +kernel
theorem hdV_X10_sums : yX10_sums.cls = RX10 ∧ yX10_sums.cls ≠ "java/lang/invoke/MethodHandle" ∧ yX10_sums.cls ≠ "java/lang/invoke/VarHandle" ∧ (parseMethodDescriptor yX10_sums.desc).map (fun d => d.parameters.length) = some 1 := ⟨rfl, hdS_X10_sums⟩
set_option maxHeartbeats 4000000 in
set_option maxRecDepth 100000 in
theorem c_X10_sums (l : Launch) (E : G0) (a0 : Nat → Nat) (db di : Nat → Nat → Nat) (v0 : GC) (p1 : Int32) (x : Int32) (hf : f_X10_sums v0 p1 = some x) : Met l yX10_sums wsX10_sums rmX10_sums (va_Pc [.ref (a0 0), .int p1] (PR E (wGC E a0 db di v0))) (vp_Si (fun r => r = x)) 0 0 (fun _ => False) := by
  refine Met.ofW (cc := cX10_sums) (maxL := 2) (ret := some .int) (by decide) rfl ?_
  intro p e s m args below meth c s₁ B hml hv
  obtain ⟨ha, hP, hC⟩ := hv
  have hx := B.exec
  have hb := B.bytes
  have hr := B.returns
  have hts := atoms_spec (ws := wsX10_sums) B.pre
  have hown : s.vm.findClass RX10 = some m.cls := findClass_of_methodNamed B.named
  have hlocks := B.notSynchronized
  have hS : va_S (fun _ => False) s.heap s.heap [] := va_S.rf
  have w1 : (Cond.fieldLink RX10 42 "GreatChunks" "standing" "Z").before args s = true := hts _ (List.mem_of_getElem? (i := 1) rfl)
  have w2 : ∀ w ∈ wsX100, w ∈ wsX10_sums := in_pl 94 rfl
  have w3 : (Cond.constant RX10 99 (-1000002)).before args s = true := hts _ (List.mem_of_getElem? (i := 2) rfl)
  have w4 : (Cond.fieldLink RX10 31 "GreatChunks" "house" "LGreatChunks$House;").before args s = true := hts _ (List.mem_of_getElem? (i := 3) rfl)
  have w5 : (Cond.fieldLink RX10 282 "GreatChunks$House" "now" "I").before args s = true := hts _ (List.mem_of_getElem? (i := 4) rfl)
  have w6 : ∀ w ∈ wsX50, w ∈ wsX10_sums := in_pl 102 rfl
  have w7 : (Cond.fieldLink RX10 219 "GreatChunks$House" "chunks" "LGreatChunks$Chunks;").before args s = true := hts _ (List.mem_of_getElem? (i := 5) rfl)
  have w8 : (Cond.fieldLink RX10 285 "GreatChunks$Chunks" "made" "I").before args s = true := hts _ (List.mem_of_getElem? (i := 6) rfl)
  have w9 : ∀ w ∈ wsX10, w ∈ wsX10_sums := in_pl 111 rfl
  have w10 : (Cond.constant RX10 54 (-1000001)).before args s = true := hts _ (List.mem_of_getElem? (i := 7) rfl)
  generalize hQe : MQ below (vp_Si (fun r => r = x)) args s 0 0 (fun _ => False) = Q
  refine st_W ha (Nat.le_of_ble_eq_true rfl) (fun ls hl => ?_)
  have hl : lv_has ls 2 [(0, .ref (a0 0)), (1, .int p1)] := hl
  unfold f_X10_sums at hf
  refine lv_aload_n hx hb dX10_sums_0 rfl (lv_at hl 0 rfl) ?_
  refine va_get (D := E.1) (ci := 8) (v := .int v0.2.2.2.2.2.2.1) (C := RX10) (T := TX10) (N := 8) hx hb hts w2 hown hC.1 hP 0 rfl rfl 6 (by decide) w1 (fun _ h9 => h9) rfl dX10_sums_1 ?_
  refine lv_if_ne (tgt := 10) hx hb dX10_sums_4 rfl (fun c1 => ?_) (fun c1 => ?_)
  · have hf := it_f hf c1
    refine lv_iload_n hx hb dX10_sums_10 rfl (lv_at hl 1 rfl) ?_
    by_cases s2 : p1 = 0
    · have hf := it_t hf s2
      refine lv_tableIn (tgt := 52) (off := 41) hx hb dX10_sums_11 (by rw [s2]; decide) (by rw [s2]; decide) (by rw [s2]; rfl) rfl ?_
      refine lv_aload_n hx hb dX10_sums_52 rfl (lv_at hl 0 rfl) ?_
      refine va_get (D := E.1) (ci := 8) (v := .ref (a0 26)) (C := RX10) (T := TX10) (N := 8) hx hb hts w2 hown hC.1 hP 0 rfl rfl 3 (by decide) w4 (fun _ h9 => h9) rfl dX10_sums_53 ?_
      refine va_get (D := E.1) (ci := 4) (v := .int v0.2.2.2.1.2.2.2.2.1) (C := RX5) (T := TX5) (N := 9) hx hb hts w6 hown hC.1 hP 26 rfl rfl 4 (by decide) w5 (fun _ h9 => h9) rfl dX10_sums_56 ?_
      cases Option.some.inj hf
      subst hQe
      exact en_i hx hb hr hlocks dX10_sums_59
    have hf := it_f hf s2
    by_cases s3 : p1 = 1
    · have hf := it_t hf s3
      refine lv_tableIn (tgt := 60) (off := 49) hx hb dX10_sums_11 (by rw [s3]; decide) (by rw [s3]; decide) (by rw [s3]; rfl) rfl ?_
      refine lv_aload_n hx hb dX10_sums_60 rfl (lv_at hl 0 rfl) ?_
      refine va_get (D := E.1) (ci := 8) (v := .ref (a0 26)) (C := RX10) (T := TX10) (N := 8) hx hb hts w2 hown hC.1 hP 0 rfl rfl 3 (by decide) w4 (fun _ h9 => h9) rfl dX10_sums_61 ?_
      refine va_get (D := E.1) (ci := 4) (v := .ref (a0 30)) (C := RX5) (T := TX5) (N := 9) hx hb hts w6 hown hC.1 hP 26 rfl rfl 6 (by decide) w7 (fun _ h9 => h9) rfl dX10_sums_64 ?_
      refine va_get (D := E.1) (ci := 1) (v := .int v0.2.2.2.1.2.2.2.2.2.2.1.1) (C := RX1) (T := TX1) (N := 5) hx hb hts w9 hown hC.1 hP 30 rfl rfl 0 (by decide) w8 (fun _ h9 => h9) rfl dX10_sums_67 ?_
      cases Option.some.inj hf
      subst hQe
      exact en_i hx hb hr hlocks dX10_sums_70
    have hf := it_f hf s3
    by_cases s4 : p1 = 2
    · have hf := it_t hf s4
      refine lv_tableIn (tgt := 71) (off := 60) hx hb dX10_sums_11 (by rw [s4]; decide) (by rw [s4]; decide) (by rw [s4]; rfl) rfl ?_
      refine lv_aload_n hx hb dX10_sums_71 rfl (lv_at hl 0 rfl) ?_
      refine va_get (D := E.1) (ci := 8) (v := .ref (a0 26)) (C := RX10) (T := TX10) (N := 8) hx hb hts w2 hown hC.1 hP 0 rfl rfl 3 (by decide) w4 (fun _ h9 => h9) rfl dX10_sums_72 ?_
      refine va_get (D := E.1) (ci := 4) (v := .ref (a0 30)) (C := RX5) (T := TX5) (N := 9) hx hb hts w6 hown hC.1 hP 26 rfl rfl 6 (by decide) w7 (fun _ h9 => h9) rfl dX10_sums_75 ?_
      obtain ⟨r5, e5, hf⟩ := bd_some hf
      refine cr_i (va_runV (As := []) (rest := []) ⟨hx, hb, hml, hown, hts⟩ (c_X1_manyForgotten l E (fun k => a0 (k + 30)) v0.2.2.2.1.2.2.2.2.2.2.1 r5 e5) (cwV 0 hts gX10_sums_X1_manyForgotten rfl rfl rfl hdV_X1_manyForgotten ⟨Nat.le_of_ble_eq_true rfl, Nat.le_of_ble_eq_true rfl⟩) ⟨PR.blind, va_recv hC.1 hP (ci := 1) (q0 := 30) rfl rfl, PR.pre hC hS (hP.sub [30, 31, 32, 33, 34] rfl)⟩ rfl rfl hl.1 rfl (lv_room (Nat.le_of_ble_eq_true rfl)) dX10_sums_78 ⟨Nat.le_of_ble_eq_true rfl, Nat.le_of_ble_eq_true rfl⟩) ?_
      cases Option.some.inj hf
      subst hQe
      exact en_i hx hb hr hlocks dX10_sums_81
    have hf := it_f hf s4
    by_cases s6 : p1 = 3
    · have hf := it_t hf s6
      refine lv_tableIn (tgt := 82) (off := 71) hx hb dX10_sums_11 (by rw [s6]; decide) (by rw [s6]; decide) (by rw [s6]; rfl) rfl ?_
      refine lv_aload_n hx hb dX10_sums_82 rfl (lv_at hl 0 rfl) ?_
      refine va_get (D := E.1) (ci := 8) (v := .ref (a0 26)) (C := RX10) (T := TX10) (N := 8) hx hb hts w2 hown hC.1 hP 0 rfl rfl 3 (by decide) w4 (fun _ h9 => h9) rfl dX10_sums_83 ?_
      obtain ⟨r7, e7, hf⟩ := bd_some hf
      refine cr_i (va_runV (As := []) (rest := []) ⟨hx, hb, hml, hown, hts⟩ (c_X5_allCopies l E (fun k => a0 (k + 26)) v0.2.2.2.1 r7 e7) (cwV 0 hts gX10_sums_X5_allCopies rfl rfl rfl hdV_X5_allCopies ⟨Nat.le_of_ble_eq_true rfl, Nat.le_of_ble_eq_true rfl⟩) ⟨PR.blind, va_recv hC.1 hP (ci := 4) (q0 := 26) rfl rfl, PR.pre hC hS (hP.sub [26, 27, 28, 29, 30, 31, 32, 33, 34, 35, 36, 37, 38, 39, 40, 41, 42, 43, 44] rfl)⟩ rfl rfl hl.1 rfl (lv_room (Nat.le_of_ble_eq_true rfl)) dX10_sums_86 ⟨Nat.le_of_ble_eq_true rfl, Nat.le_of_ble_eq_true rfl⟩) ?_
      cases Option.some.inj hf
      subst hQe
      exact en_i hx hb hr hlocks dX10_sums_89
    have hf := it_f hf s6
    by_cases s8 : p1 = 4
    · have hf := it_t hf s8
      refine lv_tableIn (tgt := 90) (off := 79) hx hb dX10_sums_11 (by rw [s8]; decide) (by rw [s8]; decide) (by rw [s8]; rfl) rfl ?_
      refine lv_aload_n hx hb dX10_sums_90 rfl (lv_at hl 0 rfl) ?_
      refine va_get (D := E.1) (ci := 8) (v := .ref (a0 26)) (C := RX10) (T := TX10) (N := 8) hx hb hts w2 hown hC.1 hP 0 rfl rfl 3 (by decide) w4 (fun _ h9 => h9) rfl dX10_sums_91 ?_
      obtain ⟨r9, e9, hf⟩ := bd_some hf
      refine cr_i (va_runV (As := []) (rest := []) ⟨hx, hb, hml, hown, hts⟩ (c_X5_allStale l E (fun k => a0 (k + 26)) v0.2.2.2.1 r9 e9) (cwV 0 hts gX10_sums_X5_allStale rfl rfl rfl hdV_X5_allStale ⟨Nat.le_of_ble_eq_true rfl, Nat.le_of_ble_eq_true rfl⟩) ⟨PR.blind, va_recv hC.1 hP (ci := 4) (q0 := 26) rfl rfl, PR.pre hC hS (hP.sub [26, 27, 28, 29, 30, 31, 32, 33, 34, 35, 36, 37, 38, 39, 40, 41, 42, 43, 44] rfl)⟩ rfl rfl hl.1 rfl (lv_room (Nat.le_of_ble_eq_true rfl)) dX10_sums_94 ⟨Nat.le_of_ble_eq_true rfl, Nat.le_of_ble_eq_true rfl⟩) ?_
      cases Option.some.inj hf
      subst hQe
      exact en_i hx hb hr hlocks dX10_sums_97
    have hf := it_f hf s8
    by_cases s10 : p1 = 5
    · have hf := it_t hf s10
      refine lv_tableIn (tgt := 98) (off := 87) hx hb dX10_sums_11 (by rw [s10]; decide) (by rw [s10]; decide) (by rw [s10]; rfl) rfl ?_
      refine lv_aload_n hx hb dX10_sums_98 rfl (lv_at hl 0 rfl) ?_
      refine va_get (D := E.1) (ci := 8) (v := .ref (a0 26)) (C := RX10) (T := TX10) (N := 8) hx hb hts w2 hown hC.1 hP 0 rfl rfl 3 (by decide) w4 (fun _ h9 => h9) rfl dX10_sums_99 ?_
      refine lv_iconst (v := 1) hx hb dX10_sums_102 rfl ?_
      obtain ⟨r11, e11, hf⟩ := bd_some hf
      refine cr_i (va_runV (As := [.int (1 : Int32)]) (rest := []) ⟨hx, hb, hml, hown, hts⟩ (c_X5_goodCells l E (fun k => a0 (k + 26)) v0.2.2.2.1 (1 : Int32) r11 e11) (cwV 1 hts gX10_sums_X5_goodCells rfl rfl rfl hdV_X5_goodCells ⟨Nat.le_of_ble_eq_true rfl, Nat.le_of_ble_eq_true rfl⟩) ⟨PR.blind, va_recv hC.1 hP (ci := 4) (q0 := 26) rfl rfl, PR.pre hC hS (hP.sub [26, 27, 28, 29, 30, 31, 32, 33, 34, 35, 36, 37, 38, 39, 40, 41, 42, 43, 44] rfl)⟩ rfl rfl hl.1 rfl (lv_room (Nat.le_of_ble_eq_true rfl)) dX10_sums_103 ⟨Nat.le_of_ble_eq_true rfl, Nat.le_of_ble_eq_true rfl⟩) ?_
      cases Option.some.inj hf
      subst hQe
      exact en_i hx hb hr hlocks dX10_sums_106
    have hf := it_f hf s10
    by_cases s12 : p1 = 6
    · have hf := it_t hf s12
      refine lv_tableIn (tgt := 107) (off := 96) hx hb dX10_sums_11 (by rw [s12]; decide) (by rw [s12]; decide) (by rw [s12]; rfl) rfl ?_
      refine lv_aload_n hx hb dX10_sums_107 rfl (lv_at hl 0 rfl) ?_
      refine va_get (D := E.1) (ci := 8) (v := .ref (a0 26)) (C := RX10) (T := TX10) (N := 8) hx hb hts w2 hown hC.1 hP 0 rfl rfl 3 (by decide) w4 (fun _ h9 => h9) rfl dX10_sums_108 ?_
      refine lv_iconst (v := 0) hx hb dX10_sums_111 rfl ?_
      obtain ⟨r13, e13, hf⟩ := bd_some hf
      refine cr_i (va_runV (As := [.int (0 : Int32)]) (rest := []) ⟨hx, hb, hml, hown, hts⟩ (c_X5_goodCells l E (fun k => a0 (k + 26)) v0.2.2.2.1 (0 : Int32) r13 e13) (cwV 1 hts gX10_sums_X5_goodCells rfl rfl rfl hdV_X5_goodCells ⟨Nat.le_of_ble_eq_true rfl, Nat.le_of_ble_eq_true rfl⟩) ⟨PR.blind, va_recv hC.1 hP (ci := 4) (q0 := 26) rfl rfl, PR.pre hC hS (hP.sub [26, 27, 28, 29, 30, 31, 32, 33, 34, 35, 36, 37, 38, 39, 40, 41, 42, 43, 44] rfl)⟩ rfl rfl hl.1 rfl (lv_room (Nat.le_of_ble_eq_true rfl)) dX10_sums_112 ⟨Nat.le_of_ble_eq_true rfl, Nat.le_of_ble_eq_true rfl⟩) ?_
      cases Option.some.inj hf
      subst hQe
      exact en_i hx hb hr hlocks dX10_sums_115
    have hf := it_f hf s12
    refine lv_tableOut (tgt := 116) hx hb dX10_sums_11 (sw_out (x := p1) 6 (by decide) (fun k hk => match k, hk with | 0, _ => s2 | 1, _ => s3 | 2, _ => s4 | 3, _ => s6 | 4, _ => s8 | 5, _ => s10 | 6, _ => s12 | k + 7, hk => absurd hk (by omega))) rfl ?_
    refine lv_ldc hx hb hown w10 dX10_sums_116 ?_
    cases Option.some.inj hf
    subst hQe
    exact en_i hx hb hr hlocks dX10_sums_118
  · have hf := it_t hf c1
    refine lv_ldc hx hb hown w3 dX10_sums_7 ?_
    cases Option.some.inj hf
    subst hQe
    exact en_i hx hb hr hlocks dX10_sums_9

/-! X10_as -/
abbrev rmX10_as : Room := { frames := 3, cells := 0, slots := 0, locals := 64 }
theorem hdS_X10_as : yX10_as.cls ≠ "java/lang/invoke/MethodHandle" ∧ yX10_as.cls ≠ "java/lang/invoke/VarHandle" ∧ (parseMethodDescriptor yX10_as.desc).map (fun d => d.parameters.length) = some 2 := by decide +kernel
theorem hdV_X10_as : yX10_as.cls = RX10 ∧ yX10_as.cls ≠ "java/lang/invoke/MethodHandle" ∧ yX10_as.cls ≠ "java/lang/invoke/VarHandle" ∧ (parseMethodDescriptor yX10_as.desc).map (fun d => d.parameters.length) = some 2 := ⟨rfl, hdS_X10_as⟩
set_option maxHeartbeats 4000000 in
set_option maxRecDepth 100000 in
theorem c_X10_as (l : Launch) (E : G0) (a0 : Nat → Nat) (db di : Nat → Nat → Nat) (v0 : GC) (p1 : Int32) (p2 : Int32) (x : Int32) (hf : f_X10_as v0 p1 p2 = some x) : Met l yX10_as wsX10_as rmX10_as (va_Pc [.ref (a0 0), .int p1, .int p2] (PR E (wGC E a0 db di v0))) (vp_Si (fun r => r = x)) 0 0 (fun _ => False) := by
  refine Met.ofW (cc := cX10_as) (maxL := 3) (ret := some .int) (by decide) rfl ?_
  intro p e s m args below meth c s₁ B hml hv
  obtain ⟨ha, hP, hC⟩ := hv
  have hx := B.exec
  have hb := B.bytes
  have hr := B.returns
  have hts := atoms_spec (ws := wsX10_as) B.pre
  have hown : s.vm.findClass RX10 = some m.cls := findClass_of_methodNamed B.named
  have hlocks := B.notSynchronized
  have hS : va_S (fun _ => False) s.heap s.heap [] := va_S.rf
  have w1 : (Cond.fieldLink RX10 42 "GreatChunks" "standing" "Z").before args s = true := hts _ (List.mem_of_getElem? (i := 1) rfl)
  have w2 : ∀ w ∈ wsX100, w ∈ wsX10_as := in_pl 30 rfl
  have w3 : (Cond.constant RX10 99 (-1000002)).before args s = true := hts _ (List.mem_of_getElem? (i := 2) rfl)
  have w4 : (Cond.constant RX10 54 (-1000001)).before args s = true := hts _ (List.mem_of_getElem? (i := 3) rfl)
  have w5 : (Cond.fieldLink RX10 31 "GreatChunks" "house" "LGreatChunks$House;").before args s = true := hts _ (List.mem_of_getElem? (i := 4) rfl)
  have w6 : (Cond.fieldLink RX10 83 "GreatChunks$House" "files" "LGreatChunks$Files;").before args s = true := hts _ (List.mem_of_getElem? (i := 5) rfl)
  have w7 : ∀ w ∈ wsX50, w ∈ wsX10_as := in_pl 38 rfl
  have w8 : (Cond.fieldLink RX10 133 "GreatChunks$Files" "kind" "[I").before args s = true := hts _ (List.mem_of_getElem? (i := 6) rfl)
  have w9 : ∀ w ∈ wsX30, w ∈ wsX10_as := in_pl 47 rfl
  have w10 : (Cond.constant RX10 191 (-1000000)).before args s = true := hts _ (List.mem_of_getElem? (i := 7) rfl)
  generalize hQe : MQ below (vp_Si (fun r => r = x)) args s 0 0 (fun _ => False) = Q
  refine st_W ha (Nat.le_of_ble_eq_true rfl) (fun ls hl => ?_)
  have hl : lv_has ls 3 [(0, .ref (a0 0)), (1, .int p1), (2, .int p2)] := hl
  unfold f_X10_as at hf
  refine lv_aload_n hx hb dX10_as_0 rfl (lv_at hl 0 rfl) ?_
  refine va_get (D := E.1) (ci := 8) (v := .int v0.2.2.2.2.2.2.1) (C := RX10) (T := TX10) (N := 8) hx hb hts w2 hown hC.1 hP 0 rfl rfl 6 (by decide) w1 (fun _ h9 => h9) rfl dX10_as_1 ?_
  refine lv_if_ne (tgt := 10) hx hb dX10_as_4 rfl (fun c1 => ?_) (fun c1 => ?_)
  · have hf := it_f hf c1
    refine lv_iload_n hx hb dX10_as_10 rfl (lv_at hl 1 rfl) ?_
    refine cr_i (va_runS (As := [.int p1]) (rest := []) ⟨hx, hb, hml, hown, hts⟩ (c_X10_isFile l E p1 _ rfl) (va_cwS 1 hts gX10_as_X10_isFile rfl rfl rfl hdS_X10_isFile ⟨Nat.le_of_ble_eq_true rfl, Nat.le_of_ble_eq_true rfl⟩) ⟨PR.blind, PR.pre hC hS (hP.sub [] rfl)⟩ rfl rfl hl.1 rfl (lv_room (Nat.le_of_ble_eq_true rfl)) dX10_as_11 ⟨Nat.le_of_ble_eq_true rfl, Nat.le_of_ble_eq_true rfl⟩) ?_
    refine lv_if_eq (tgt := 24) hx hb dX10_as_14 rfl (fun c2 => ?_) (fun c2 => ?_)
    · have hf := it_t hf c2
      refine lv_ldc hx hb hown w4 dX10_as_24 ?_
      cases Option.some.inj hf
      subst hQe
      exact en_i hx hb hr hlocks dX10_as_26
    · have hf := it_f hf c2
      refine lv_iload_n hx hb dX10_as_17 rfl (lv_at hl 2 rfl) ?_
      refine cr_i (va_runS (As := [.int p2]) (rest := []) ⟨hx, hb, hml, hown, hts⟩ (c_X6_has l E p2 _ rfl) (va_cwS 1 hts gX10_as_X6_has rfl rfl rfl hdS_X6_has ⟨Nat.le_of_ble_eq_true rfl, Nat.le_of_ble_eq_true rfl⟩) ⟨PR.blind, PR.pre hC hS (hP.sub [] rfl)⟩ rfl rfl hl.1 rfl (lv_room (Nat.le_of_ble_eq_true rfl)) dX10_as_18 ⟨Nat.le_of_ble_eq_true rfl, Nat.le_of_ble_eq_true rfl⟩) ?_
      refine lv_if_ne (tgt := 27) hx hb dX10_as_21 rfl (fun c3 => ?_) (fun c3 => ?_)
      · have hf := it_f hf c3
        refine lv_aload_n hx hb dX10_as_27 rfl (lv_at hl 0 rfl) ?_
        refine va_get (D := E.1) (ci := 8) (v := .ref (a0 26)) (C := RX10) (T := TX10) (N := 8) hx hb hts w2 hown hC.1 hP 0 rfl rfl 3 (by decide) w5 (fun _ h9 => h9) rfl dX10_as_28 ?_
        refine va_get (D := E.1) (ci := 4) (v := .ref (a0 39)) (C := RX5) (T := TX5) (N := 9) hx hb hts w7 hown hC.1 hP 26 rfl rfl 8 (by decide) w6 (fun _ h9 => h9) rfl dX10_as_31 ?_
        refine lv_iload_n hx hb dX10_as_34 rfl (lv_at hl 1 rfl) ?_
        refine lv_iconst (v := 0) hx hb dX10_as_35 rfl ?_
        obtain ⟨r4, e4, hf⟩ := bd_some hf
        refine cr_i (va_runV (As := [.int p1, .int (0 : Int32)]) (rest := []) ⟨hx, hb, hml, hown, hts⟩ (c_X3_is l E (fun k => a0 (k + 39)) v0.2.2.2.1.2.2.2.2.2.2.2.2 p1 (0 : Int32) r4 e4) (cwV 2 hts gX10_as_X3_is rfl rfl rfl hdV_X3_is ⟨Nat.le_of_ble_eq_true rfl, Nat.le_of_ble_eq_true rfl⟩) ⟨PR.blind, va_recv hC.1 hP (ci := 3) (q0 := 39) rfl rfl, PR.pre hC hS (hP.sub [39, 40, 41, 42, 43, 44] rfl)⟩ rfl rfl hl.1 rfl (lv_room (Nat.le_of_ble_eq_true rfl)) dX10_as_36 ⟨Nat.le_of_ble_eq_true rfl, Nat.le_of_ble_eq_true rfl⟩) ?_
        refine lv_if_eq (tgt := 45) hx hb dX10_as_39 rfl (fun c5 => ?_) (fun c5 => ?_)
        · have hf := it_t hf c5
          refine lv_aload_n hx hb dX10_as_45 rfl (lv_at hl 0 rfl) ?_
          refine va_get (D := E.1) (ci := 8) (v := .ref (a0 26)) (C := RX10) (T := TX10) (N := 8) hx hb hts w2 hown hC.1 hP 0 rfl rfl 3 (by decide) w5 (fun _ h9 => h9) rfl dX10_as_46 ?_
          refine va_get (D := E.1) (ci := 4) (v := .ref (a0 39)) (C := RX5) (T := TX5) (N := 9) hx hb hts w7 hown hC.1 hP 26 rfl rfl 8 (by decide) w6 (fun _ h9 => h9) rfl dX10_as_49 ?_
          refine va_get (D := E.1) (ci := 3) (v := .ref (a0 41)) (C := RX3) (T := TX3) (N := 5) hx hb hts w9 hown hC.1 hP 39 rfl rfl 1 (by decide) w8 (fun _ h9 => h9) rfl dX10_as_52 ?_
          refine lv_iload_n hx hb dX10_as_55 rfl (lv_at hl 1 rfl) ?_
          obtain ⟨h6, hf⟩ := gdI_some hf
          refine va_iald hx hb hC.1 hP 41 0 rfl rfl h6 dX10_as_56 ?_
          refine lv_iload_n hx hb dX10_as_57 rfl (lv_at hl 2 rfl) ?_
          obtain ⟨r7, e7, hf⟩ := bd_some hf
          refine cr_i (va_runS (As := [.int (v0.2.2.2.1.2.2.2.2.2.2.2.2.2.1 p1.toNatClampNeg), .int p2]) (rest := []) ⟨hx, hb, hml, hown, hts⟩ (c_X6_isOne l E (v0.2.2.2.1.2.2.2.2.2.2.2.2.2.1 p1.toNatClampNeg) p2 r7 e7) (va_cwS 2 hts gX10_as_X6_isOne rfl rfl rfl hdS_X6_isOne ⟨Nat.le_of_ble_eq_true rfl, Nat.le_of_ble_eq_true rfl⟩) ⟨PR.blind, PR.pre hC hS (hP.sub [] rfl)⟩ rfl rfl hl.1 rfl (lv_room (Nat.le_of_ble_eq_true rfl)) dX10_as_58 ⟨Nat.le_of_ble_eq_true rfl, Nat.le_of_ble_eq_true rfl⟩) ?_
          refine lv_if_eq (tgt := 68) hx hb dX10_as_61 rfl (fun c8 => ?_) (fun c8 => ?_)
          · have hf := it_t hf c8
            refine lv_ldc hx hb hown w10 dX10_as_68 ?_
            cases Option.some.inj hf
            subst hQe
            exact en_i hx hb hr hlocks dX10_as_70
          · have hf := it_f hf c8
            refine lv_iload_n hx hb dX10_as_64 rfl (lv_at hl 1 rfl) ?_
            refine lv_goto (tgt := 70) hx hb dX10_as_65 rfl ?_
            cases Option.some.inj hf
            subst hQe
            exact en_i hx hb hr hlocks dX10_as_70
        · have hf := it_f hf c5
          refine lv_ldc hx hb hown w3 dX10_as_42 ?_
          cases Option.some.inj hf
          subst hQe
          exact en_i hx hb hr hlocks dX10_as_44
      · have hf := it_t hf c3
        refine lv_ldc hx hb hown w4 dX10_as_24 ?_
        cases Option.some.inj hf
        subst hQe
        exact en_i hx hb hr hlocks dX10_as_26
  · have hf := it_t hf c1
    refine lv_ldc hx hb hown w3 dX10_as_7 ?_
    cases Option.some.inj hf
    subst hQe
    exact en_i hx hb hr hlocks dX10_as_9

/-! X10_target -/
abbrev rmX10_target : Room := { frames := 4, cells := 0, slots := 0, locals := 95 }
theorem hdS_X10_target : yX10_target.cls ≠ "java/lang/invoke/MethodHandle" ∧ yX10_target.cls ≠ "java/lang/invoke/VarHandle" ∧ (parseMethodDescriptor yX10_target.desc).map (fun d => d.parameters.length) = some 1 := by decide +kernel
theorem hdV_X10_target : yX10_target.cls = RX10 ∧ yX10_target.cls ≠ "java/lang/invoke/MethodHandle" ∧ yX10_target.cls ≠ "java/lang/invoke/VarHandle" ∧ (parseMethodDescriptor yX10_target.desc).map (fun d => d.parameters.length) = some 1 := ⟨rfl, hdS_X10_target⟩
set_option maxHeartbeats 4000000 in
set_option maxRecDepth 100000 in
theorem c_X10_target (l : Launch) (E : G0) (a0 : Nat → Nat) (db di : Nat → Nat → Nat) (v0 : GC) (p1 : Int32) (x : Int32) (hf : f_X10_target v0 p1 = some x) : Met l yX10_target wsX10_target rmX10_target (va_Pc [.ref (a0 0), .int p1] (PR E (wGC E a0 db di v0))) (vp_Si (fun r => r = x)) 0 0 (fun _ => False) := by
  refine Met.ofW (cc := cX10_target) (maxL := 2) (ret := some .int) (by decide) rfl ?_
  intro p e s m args below meth c s₁ B hml hv
  obtain ⟨ha, hP, hC⟩ := hv
  have hx := B.exec
  have hb := B.bytes
  have hr := B.returns
  have hts := atoms_spec (ws := wsX10_target) B.pre
  have hown : s.vm.findClass RX10 = some m.cls := findClass_of_methodNamed B.named
  have hlocks := B.notSynchronized
  have hS : va_S (fun _ => False) s.heap s.heap [] := va_S.rf
  have w1 : (Cond.fieldLink RX10 42 "GreatChunks" "standing" "Z").before args s = true := hts _ (List.mem_of_getElem? (i := 1) rfl)
  have w2 : ∀ w ∈ wsX100, w ∈ wsX10_target := in_pl 55 rfl
  have w3 : (Cond.constant RX10 99 (-1000002)).before args s = true := hts _ (List.mem_of_getElem? (i := 2) rfl)
  have w4 : (Cond.constant RX10 54 (-1000001)).before args s = true := hts _ (List.mem_of_getElem? (i := 4) rfl)
  have w5 : (Cond.fieldLink RX10 31 "GreatChunks" "house" "LGreatChunks$House;").before args s = true := hts _ (List.mem_of_getElem? (i := 3) rfl)
  generalize hQe : MQ below (vp_Si (fun r => r = x)) args s 0 0 (fun _ => False) = Q
  refine st_W ha (Nat.le_of_ble_eq_true rfl) (fun ls hl => ?_)
  have hl : lv_has ls 2 [(0, .ref (a0 0)), (1, .int p1)] := hl
  unfold f_X10_target at hf
  refine lv_aload_n hx hb dX10_target_0 rfl (lv_at hl 0 rfl) ?_
  refine va_get (D := E.1) (ci := 8) (v := .int v0.2.2.2.2.2.2.1) (C := RX10) (T := TX10) (N := 8) hx hb hts w2 hown hC.1 hP 0 rfl rfl 6 (by decide) w1 (fun _ h9 => h9) rfl dX10_target_1 ?_
  refine lv_if_ne (tgt := 10) hx hb dX10_target_4 rfl (fun c1 => ?_) (fun c1 => ?_)
  · have hf := it_f hf c1
    refine lv_iload_n hx hb dX10_target_10 rfl (lv_at hl 1 rfl) ?_
    refine cr_i (va_runS (As := [.int p1]) (rest := []) ⟨hx, hb, hml, hown, hts⟩ (c_X10_isKindOfFiles l E p1 _ rfl) (va_cwS 1 hts gX10_target_X10_isKindOfFiles rfl rfl rfl hdS_X10_isKindOfFiles ⟨Nat.le_of_ble_eq_true rfl, Nat.le_of_ble_eq_true rfl⟩) ⟨PR.blind, PR.pre hC hS (hP.sub [] rfl)⟩ rfl rfl hl.1 rfl (lv_room (Nat.le_of_ble_eq_true rfl)) dX10_target_11 ⟨Nat.le_of_ble_eq_true rfl, Nat.le_of_ble_eq_true rfl⟩) ?_
    refine lv_if_eq (tgt := 28) hx hb dX10_target_14 rfl (fun c2 => ?_) (fun c2 => ?_)
    · have hf := it_t hf c2
      refine lv_ldc hx hb hown w4 dX10_target_28 ?_
      cases Option.some.inj hf
      subst hQe
      exact en_i hx hb hr hlocks dX10_target_30
    · have hf := it_f hf c2
      refine lv_aload_n hx hb dX10_target_17 rfl (lv_at hl 0 rfl) ?_
      refine va_get (D := E.1) (ci := 8) (v := .ref (a0 26)) (C := RX10) (T := TX10) (N := 8) hx hb hts w2 hown hC.1 hP 0 rfl rfl 3 (by decide) w5 (fun _ h9 => h9) rfl dX10_target_18 ?_
      refine lv_iload_n hx hb dX10_target_21 rfl (lv_at hl 1 rfl) ?_
      obtain ⟨r3, e3, hf⟩ := bd_some hf
      refine cr_i (va_runV (As := [.int p1]) (rest := []) ⟨hx, hb, hml, hown, hts⟩ (c_X5_placesForNew l E (fun k => a0 (k + 26)) v0.2.2.2.1 p1 r3 e3) (cwV 1 hts gX10_target_X5_placesForNew rfl rfl rfl hdV_X5_placesForNew ⟨Nat.le_of_ble_eq_true rfl, Nat.le_of_ble_eq_true rfl⟩) ⟨PR.blind, va_recv hC.1 hP (ci := 4) (q0 := 26) rfl rfl, PR.pre hC hS (hP.sub [26, 27, 28, 29, 30, 31, 32, 33, 34, 35, 36, 37, 38, 39, 40, 41, 42, 43, 44] rfl)⟩ rfl rfl hl.1 rfl (lv_room (Nat.le_of_ble_eq_true rfl)) dX10_target_22 ⟨Nat.le_of_ble_eq_true rfl, Nat.le_of_ble_eq_true rfl⟩) ?_
      refine lv_goto (tgt := 30) hx hb dX10_target_25 rfl ?_
      cases Option.some.inj hf
      subst hQe
      exact en_i hx hb hr hlocks dX10_target_30
  · have hf := it_t hf c1
    refine lv_ldc hx hb hown w3 dX10_target_7 ?_
    cases Option.some.inj hf
    subst hQe
    exact en_i hx hb hr hlocks dX10_target_9

/-! X10_left -/
abbrev rmX10_left : Room := { frames := 6, cells := 0, slots := 0, locals := 136 }
theorem hdS_X10_left : yX10_left.cls ≠ "java/lang/invoke/MethodHandle" ∧ yX10_left.cls ≠ "java/lang/invoke/VarHandle" ∧ (parseMethodDescriptor yX10_left.desc).map (fun d => d.parameters.length) = some 1 := by decide +kernel
theorem hdV_X10_left : yX10_left.cls = RX10 ∧ yX10_left.cls ≠ "java/lang/invoke/MethodHandle" ∧ yX10_left.cls ≠ "java/lang/invoke/VarHandle" ∧ (parseMethodDescriptor yX10_left.desc).map (fun d => d.parameters.length) = some 1 := ⟨rfl, hdS_X10_left⟩
set_option maxHeartbeats 4000000 in
set_option maxRecDepth 100000 in
theorem c_X10_left (l : Launch) (E : G0) (a0 : Nat → Nat) (db di : Nat → Nat → Nat) (v0 : GC) (p1 : Int32) (x : Int32) (hf : f_X10_left v0 p1 = some x) : Met l yX10_left wsX10_left rmX10_left (va_Pc [.ref (a0 0), .int p1] (PR E (wGC E a0 db di v0))) (vp_Si (fun r => r = x)) 0 0 (fun _ => False) := by
  refine Met.ofW (cc := cX10_left) (maxL := 3) (ret := some .int) (by decide) rfl ?_
  intro p e s m args below meth c s₁ B hml hv
  obtain ⟨ha, hP, hC⟩ := hv
  have hx := B.exec
  have hb := B.bytes
  have hr := B.returns
  have hts := atoms_spec (ws := wsX10_left) B.pre
  have hown : s.vm.findClass RX10 = some m.cls := findClass_of_methodNamed B.named
  have hlocks := B.notSynchronized
  have hS : va_S (fun _ => False) s.heap s.heap [] := va_S.rf
  have w1 : (Cond.fieldLink RX10 31 "GreatChunks" "house" "LGreatChunks$House;").before args s = true := hts _ (List.mem_of_getElem? (i := 1) rfl)
  have w2 : ∀ w ∈ wsX100, w ∈ wsX10_left := in_pl 85 rfl
  generalize hQe : MQ below (vp_Si (fun r => r = x)) args s 0 0 (fun _ => False) = Q
  refine st_W ha (Nat.le_of_ble_eq_true rfl) (fun ls hl => ?_)
  have hl : lv_has ls 3 [(0, .ref (a0 0)), (1, .int p1)] := hl
  unfold f_X10_left at hf
  refine lv_aload_n hx hb dX10_left_0 rfl (lv_at hl 0 rfl) ?_
  refine lv_iload_n hx hb dX10_left_1 rfl (lv_at hl 1 rfl) ?_
  obtain ⟨r1, e1, hf⟩ := bd_some hf
  refine cr_i (va_runV (As := [.int p1]) (rest := []) ⟨hx, hb, hml, hown, hts⟩ (c_X10_refusalOfFile l E a0 db di v0 p1 r1 e1) (cwV 1 hts gX10_left_X10_refusalOfFile rfl rfl rfl hdV_X10_refusalOfFile ⟨Nat.le_of_ble_eq_true rfl, Nat.le_of_ble_eq_true rfl⟩) ⟨PR.blind, va_recv hC.1 hP (ci := 8) (q0 := 0) rfl rfl, PR.pre hC hS hP⟩ rfl rfl hl.1 rfl (lv_room (Nat.le_of_ble_eq_true rfl)) dX10_left_2 ⟨Nat.le_of_ble_eq_true rfl, Nat.le_of_ble_eq_true rfl⟩) ?_
  refine lv_istore_n (lv' := [(2, .int r1), (0, .ref (a0 0)), (1, .int p1)]) hx hb dX10_left_5 rfl hl (by decide) rfl (fun ls hl => ?_)
  refine lv_iload_n hx hb dX10_left_6 rfl (lv_at hl 0 rfl) ?_
  refine lv_if_eq (tgt := 14) hx hb dX10_left_7 rfl (fun c2 => ?_) (fun c2 => ?_)
  · have hf := it_t hf c2
    refine lv_aload_n hx hb dX10_left_14 rfl (lv_at hl 1 rfl) ?_
    refine va_get (D := E.1) (ci := 8) (v := .ref (a0 26)) (C := RX10) (T := TX10) (N := 8) hx hb hts w2 hown hC.1 hP 0 rfl rfl 3 (by decide) w1 (fun _ h9 => h9) rfl dX10_left_15 ?_
    refine lv_iload_n hx hb dX10_left_18 rfl (lv_at hl 2 rfl) ?_
    obtain ⟨r3, e3, hf⟩ := bd_some hf
    refine cr_i (va_runV (As := [.int p1]) (rest := []) ⟨hx, hb, hml, hown, hts⟩ (c_X5_lettersLeft l E (fun k => a0 (k + 26)) v0.2.2.2.1 p1 r3 e3) (cwV 1 hts gX10_left_X5_lettersLeft rfl rfl rfl hdV_X5_lettersLeft ⟨Nat.le_of_ble_eq_true rfl, Nat.le_of_ble_eq_true rfl⟩) ⟨PR.blind, va_recv hC.1 hP (ci := 4) (q0 := 26) rfl rfl, PR.pre hC hS (hP.sub [26, 27, 28, 29, 30, 31, 32, 33, 34, 35, 36, 37, 38, 39, 40, 41, 42, 43, 44] rfl)⟩ rfl rfl hl.1 rfl (lv_room (Nat.le_of_ble_eq_true rfl)) dX10_left_19 ⟨Nat.le_of_ble_eq_true rfl, Nat.le_of_ble_eq_true rfl⟩) ?_
    cases Option.some.inj hf
    subst hQe
    exact en_i hx hb hr hlocks dX10_left_22
  · have hf := it_f hf c2
    refine lv_iload_n hx hb dX10_left_10 rfl (lv_at hl 0 rfl) ?_
    refine lv_goto (tgt := 22) hx hb dX10_left_11 rfl ?_
    cases Option.some.inj hf
    subst hQe
    exact en_i hx hb hr hlocks dX10_left_22

/-! X10_strength -/
abbrev rmX10_strength : Room := { frames := 5, cells := 0, slots := 0, locals := 115 }
theorem hdS_X10_strength : yX10_strength.cls ≠ "java/lang/invoke/MethodHandle" ∧ yX10_strength.cls ≠ "java/lang/invoke/VarHandle" ∧ (parseMethodDescriptor yX10_strength.desc).map (fun d => d.parameters.length) = some 1 := by decide +kernel
theorem hdV_X10_strength : yX10_strength.cls = RX10 ∧ yX10_strength.cls ≠ "java/lang/invoke/MethodHandle" ∧ yX10_strength.cls ≠ "java/lang/invoke/VarHandle" ∧ (parseMethodDescriptor yX10_strength.desc).map (fun d => d.parameters.length) = some 1 := ⟨rfl, hdS_X10_strength⟩
set_option maxHeartbeats 4000000 in
set_option maxRecDepth 100000 in
theorem c_X10_strength (l : Launch) (E : G0) (a0 : Nat → Nat) (db di : Nat → Nat → Nat) (v0 : GC) (p1 : Int32) (x : Int32) (hf : f_X10_strength v0 p1 = some x) : Met l yX10_strength wsX10_strength rmX10_strength (va_Pc [.ref (a0 0), .int p1] (PR E (wGC E a0 db di v0))) (vp_Si (fun r => r = x)) 0 0 (fun _ => False) := by
  refine Met.ofW (cc := cX10_strength) (maxL := 3) (ret := some .int) (by decide) rfl ?_
  intro p e s m args below meth c s₁ B hml hv
  obtain ⟨ha, hP, hC⟩ := hv
  have hx := B.exec
  have hb := B.bytes
  have hr := B.returns
  have hts := atoms_spec (ws := wsX10_strength) B.pre
  have hown : s.vm.findClass RX10 = some m.cls := findClass_of_methodNamed B.named
  have hlocks := B.notSynchronized
  have hS : va_S (fun _ => False) s.heap s.heap [] := va_S.rf
  have w1 : (Cond.fieldLink RX10 31 "GreatChunks" "house" "LGreatChunks$House;").before args s = true := hts _ (List.mem_of_getElem? (i := 1) rfl)
  have w2 : ∀ w ∈ wsX100, w ∈ wsX10_strength := in_pl 76 rfl
  generalize hQe : MQ below (vp_Si (fun r => r = x)) args s 0 0 (fun _ => False) = Q
  refine st_W ha (Nat.le_of_ble_eq_true rfl) (fun ls hl => ?_)
  have hl : lv_has ls 3 [(0, .ref (a0 0)), (1, .int p1)] := hl
  unfold f_X10_strength at hf
  refine lv_aload_n hx hb dX10_strength_0 rfl (lv_at hl 0 rfl) ?_
  refine lv_iload_n hx hb dX10_strength_1 rfl (lv_at hl 1 rfl) ?_
  obtain ⟨r1, e1, hf⟩ := bd_some hf
  refine cr_i (va_runV (As := [.int p1]) (rest := []) ⟨hx, hb, hml, hown, hts⟩ (c_X10_refusalOfFile l E a0 db di v0 p1 r1 e1) (cwV 1 hts gX10_strength_X10_refusalOfFile rfl rfl rfl hdV_X10_refusalOfFile ⟨Nat.le_of_ble_eq_true rfl, Nat.le_of_ble_eq_true rfl⟩) ⟨PR.blind, va_recv hC.1 hP (ci := 8) (q0 := 0) rfl rfl, PR.pre hC hS hP⟩ rfl rfl hl.1 rfl (lv_room (Nat.le_of_ble_eq_true rfl)) dX10_strength_2 ⟨Nat.le_of_ble_eq_true rfl, Nat.le_of_ble_eq_true rfl⟩) ?_
  refine lv_istore_n (lv' := [(2, .int r1), (0, .ref (a0 0)), (1, .int p1)]) hx hb dX10_strength_5 rfl hl (by decide) rfl (fun ls hl => ?_)
  refine lv_iload_n hx hb dX10_strength_6 rfl (lv_at hl 0 rfl) ?_
  refine lv_if_eq (tgt := 14) hx hb dX10_strength_7 rfl (fun c2 => ?_) (fun c2 => ?_)
  · have hf := it_t hf c2
    refine lv_aload_n hx hb dX10_strength_14 rfl (lv_at hl 1 rfl) ?_
    refine va_get (D := E.1) (ci := 8) (v := .ref (a0 26)) (C := RX10) (T := TX10) (N := 8) hx hb hts w2 hown hC.1 hP 0 rfl rfl 3 (by decide) w1 (fun _ h9 => h9) rfl dX10_strength_15 ?_
    refine lv_iload_n hx hb dX10_strength_18 rfl (lv_at hl 2 rfl) ?_
    obtain ⟨r3, e3, hf⟩ := bd_some hf
    refine cr_i (va_runS (As := [.ref (a0 26), .int p1]) (rest := []) ⟨hx, hb, hml, hown, hts⟩ (c_X4_strengthOf l E (fun k => a0 (k + 26)) v0.2.2.2.1 p1 r3 e3) (va_cwS 2 hts gX10_strength_X4_strengthOf rfl rfl rfl hdS_X4_strengthOf ⟨Nat.le_of_ble_eq_true rfl, Nat.le_of_ble_eq_true rfl⟩) ⟨PR.blind, PR.pre hC hS (hP.sub [26, 27, 28, 29, 30, 31, 32, 33, 34, 35, 36, 37, 38, 39, 40, 41, 42, 43, 44] rfl)⟩ rfl rfl hl.1 rfl (lv_room (Nat.le_of_ble_eq_true rfl)) dX10_strength_19 ⟨Nat.le_of_ble_eq_true rfl, Nat.le_of_ble_eq_true rfl⟩) ?_
    cases Option.some.inj hf
    subst hQe
    exact en_i hx hb hr hlocks dX10_strength_22
  · have hf := it_f hf c2
    refine lv_iload_n hx hb dX10_strength_10 rfl (lv_at hl 0 rfl) ?_
    refine lv_goto (tgt := 22) hx hb dX10_strength_11 rfl ?_
    cases Option.some.inj hf
    subst hQe
    exact en_i hx hb hr hlocks dX10_strength_22

/-! X10_mends -/
abbrev rmX10_mends : Room := { frames := 7, cells := 0, slots := 0, locals := 158 }
theorem hdS_X10_mends : yX10_mends.cls ≠ "java/lang/invoke/MethodHandle" ∧ yX10_mends.cls ≠ "java/lang/invoke/VarHandle" ∧ (parseMethodDescriptor yX10_mends.desc).map (fun d => d.parameters.length) = some 0 := by decide +kernel
theorem hdV_X10_mends : yX10_mends.cls = RX10 ∧ yX10_mends.cls ≠ "java/lang/invoke/MethodHandle" ∧ yX10_mends.cls ≠ "java/lang/invoke/VarHandle" ∧ (parseMethodDescriptor yX10_mends.desc).map (fun d => d.parameters.length) = some 0 := ⟨rfl, hdS_X10_mends⟩
set_option maxHeartbeats 4000000 in
set_option maxRecDepth 100000 in
theorem c_X10_mends (l : Launch) (E : G0) (sz : Nat) (a0 : Nat → Nat) (db di : Nat → Nat → Nat) (v0 : GC) (x : Int32 × GC) (hf : f_X10_mends v0 = some x) : Met l yX10_mends wsX10_mends rmX10_mends (va_Pc [.ref (a0 0)] (PW E (wGC E a0 db di v0) sz)) (va_Qi (fun r (q : DA × GC) => r = x.1 ∧ q.2 = x.2) (fun q t => va_P E.1 vwCl (wGC E a0 q.1.1 q.1.2 q.2) t.heap ∧ va_D (va_A (wGC E a0 db di v0) sz) (wGC E a0 q.1.1 q.1.2 q.2)) (va_A (wGC E a0 db di v0) sz)) 0 0 (va_A (wGC E a0 db di v0) sz) := by
  refine Met.ofW (cc := cX10_mends) (maxL := 1) (ret := some .int) (by decide) rfl ?_
  intro p e s m args below meth c s₁ B hml hv
  obtain ⟨ha, hsz, hP, hD0, hC⟩ := hv
  have hx := B.exec
  have hb := B.bytes
  have hr := B.returns
  have hts := atoms_spec (ws := wsX10_mends) B.pre
  have hown : s.vm.findClass RX10 = some m.cls := findClass_of_methodNamed B.named
  have hlocks := B.notSynchronized
  subst hsz
  have hD := hD0.self (sz := s.heap.size)
  generalize hAe : va_A (wGC E a0 db di v0) s.heap.size = A at hD hC ⊢
  have hA : ∀ q : Nat, s.heap.size ≤ q → A q := fun q h => by rw [← hAe]; exact Or.inr h
  have hS : va_S A s.heap s.heap [] := va_S.rf
  have w1 : (Cond.fieldLink RX10 42 "GreatChunks" "standing" "Z").before args s = true := hts _ (List.mem_of_getElem? (i := 1) rfl)
  have w2 : ∀ w ∈ wsX100, w ∈ wsX10_mends := in_pl 193 rfl
  have w3 : (Cond.constant RX10 99 (-1000002)).before args s = true := hts _ (List.mem_of_getElem? (i := 2) rfl)
  have w4 : (Cond.fieldLink RX10 35 "GreatChunks" "trial" "LGreatChunks$House;").before args s = true := hts _ (List.mem_of_getElem? (i := 3) rfl)
  have w5 : (Cond.fieldLink RX10 31 "GreatChunks" "house" "LGreatChunks$House;").before args s = true := hts _ (List.mem_of_getElem? (i := 4) rfl)
  generalize hQe : MQ below (va_Qi (fun r (q : DA × GC) => r = x.1 ∧ q.2 = x.2) (fun q t => va_P E.1 vwCl (wGC E a0 q.1.1 q.1.2 q.2) t.heap ∧ va_D A (wGC E a0 q.1.1 q.1.2 q.2)) A) args s 0 0 A = Q
  refine st_W ha (Nat.le_of_ble_eq_true rfl) (fun ls hl => ?_)
  have hl : lv_has ls 1 [(0, .ref (a0 0))] := hl
  unfold f_X10_mends at hf
  refine lv_aload_n hx hb dX10_mends_0 rfl (lv_at hl 0 rfl) ?_
  refine va_get (D := E.1) (ci := 8) (v := .int v0.2.2.2.2.2.2.1) (C := RX10) (T := TX10) (N := 8) hx hb hts w2 hown hC.1 hP 0 rfl rfl 6 (by decide) w1 (fun _ h9 => h9) rfl dX10_mends_1 ?_
  refine lv_if_ne (tgt := 10) hx hb dX10_mends_4 rfl (fun c1 => ?_) (fun c1 => ?_)
  · have hf := it_f hf c1
    refine lv_aload_n hx hb dX10_mends_10 rfl (lv_at hl 0 rfl) ?_
    refine va_get (D := E.1) (ci := 8) (v := .ref (a0 4)) (C := RX10) (T := TX10) (N := 8) hx hb hts w2 hown hC.1 hP 0 rfl rfl 4 (by decide) w4 (fun _ h9 => h9) rfl dX10_mends_11 ?_
    refine lv_aload_n hx hb dX10_mends_14 rfl (lv_at hl 0 rfl) ?_
    refine va_get (D := E.1) (ci := 8) (v := .ref (a0 26)) (C := RX10) (T := TX10) (N := 8) hx hb hts w2 hown hC.1 hP 0 rfl rfl 3 (by decide) w5 (fun _ h9 => h9) rfl dX10_mends_15 ?_
    obtain ⟨r2, e2, hf⟩ := bd_some hf
    refine cqt_v (wc := (wHS E (fun k => a0 (k + 4)) v0.2.2.2.2.1 ++ wHS E (fun k => a0 (k + 26)) v0.2.2.2.1)) (ws := wG0 E a0 db di v0) (tl := wGT E db di v0) hP hD hS hA [4, 5, 6, 7, 8, 9, 10, 11, 12, 13, 14, 15, 16, 17, 18, 19, 20, 21, 22, 26, 27, 28, 29, 30, 31, 32, 33, 34, 35, 36, 37, 38, 39, 40, 41, 42, 43, 44] [0, 1, 2, 3, 23, 24, 25] (va_runV (As := [.ref (a0 26)]) (rest := []) ⟨hx, hb, hml, hown, hts⟩ (c_X5_become l E s.heap.size (fun k => a0 (k + 4)) v0.2.2.2.2.1 (fun k => a0 (k + 26)) v0.2.2.2.1 r2 e2) (cwV 1 hts gX10_mends_X5_become rfl rfl rfl hdV_X5_become ⟨Nat.le_of_ble_eq_true rfl, Nat.le_of_ble_eq_true rfl⟩) ⟨PW.blind, va_recv hC.1 hP (ci := 4) (q0 := 4) rfl rfl, PW.pre hC hS (hP.sub [4, 5, 6, 7, 8, 9, 10, 11, 12, 13, 14, 15, 16, 17, 18, 19, 20, 21, 22, 26, 27, 28, 29, 30, 31, 32, 33, 34, 35, 36, 37, 38, 39, 40, 41, 42, 43, 44] rfl) (hD.sub [4, 5, 6, 7, 8, 9, 10, 11, 12, 13, 14, 15, 16, 17, 18, 19, 20, 21, 22, 26, 27, 28, 29, 30, 31, 32, 33, 34, 35, 36, 37, 38, 39, 40, 41, 42, 43, 44] rfl rfl) (va_free hD hS hA [4, 5, 6, 7, 8, 9, 10, 11, 12, 13, 14, 15, 16, 17, 18, 19, 20, 21, 22, 26, 27, 28, 29, 30, 31, 32, 33, 34, 35, 36, 37, 38, 39, 40, 41, 42, 43, 44] rfl)⟩ rfl rfl hl.1 rfl (lv_room (Nat.le_of_ble_eq_true rfl)) dX10_mends_18 ⟨Nat.le_of_ble_eq_true rfl, Nat.le_of_ble_eq_true rfl⟩) 45 rfl (by decide +kernel) rfl (wG0 E a0 db di (v0.1, v0.2.1, v0.2.2.1, v0.2.2.2.1, r2, v0.2.2.2.2.2.1, v0.2.2.2.2.2.2.1, v0.2.2.2.2.2.2.2)) rfl rfl (fun H locs hP hD hS => ?_)
    have hP : va_P E.1 vwCl (wGC E a0 db di (v0.1, v0.2.1, v0.2.2.1, v0.2.2.2.1, r2, v0.2.2.2.2.2.1, v0.2.2.2.2.2.2.1, v0.2.2.2.2.2.2.2)) H := hP
    have hD : va_D A (wGC E a0 db di (v0.1, v0.2.1, v0.2.2.1, v0.2.2.2.1, r2, v0.2.2.2.2.2.1, v0.2.2.2.2.2.2.1, v0.2.2.2.2.2.2.2)) := hD
    refine lv_aload_n hx hb dX10_mends_21 rfl (lv_at hl 0 rfl) ?_
    refine va_get (D := E.1) (ci := 8) (v := .ref (a0 4)) (C := RX10) (T := TX10) (N := 8) hx hb hts w2 hown hC.1 hP 0 rfl rfl 4 (by decide) w4 (fun _ h9 => h9) rfl dX10_mends_22 ?_
    obtain ⟨r3, e3, hf⟩ := bd_some hf
    refine cqt_i (wc := (wHS E (fun k => a0 (k + 4)) r2)) (ws := wG0 E a0 db di (v0.1, v0.2.1, v0.2.2.1, v0.2.2.2.1, r2, v0.2.2.2.2.2.1, v0.2.2.2.2.2.2.1, v0.2.2.2.2.2.2.2)) (tl := wGT E db di (v0.1, v0.2.1, v0.2.2.1, v0.2.2.2.1, r2, v0.2.2.2.2.2.1, v0.2.2.2.2.2.2.1, v0.2.2.2.2.2.2.2)) hP hD hS hA [4, 5, 6, 7, 8, 9, 10, 11, 12, 13, 14, 15, 16, 17, 18, 19, 20, 21, 22] [0, 1, 2, 3, 23, 24, 25, 26, 27, 28, 29, 30, 31, 32, 33, 34, 35, 36, 37, 38, 39, 40, 41, 42, 43, 44] (va_runS (As := [.ref (a0 4)]) (rest := []) ⟨hx, hb, hml, hown, hts⟩ (c_X4_mendAll l E H.size (fun k => a0 (k + 4)) r2 r3 e3) (va_cwS 1 hts gX10_mends_X4_mendAll rfl rfl rfl hdS_X4_mendAll ⟨Nat.le_of_ble_eq_true rfl, Nat.le_of_ble_eq_true rfl⟩) ⟨PW.blind, PW.pre hC hS (hP.sub [4, 5, 6, 7, 8, 9, 10, 11, 12, 13, 14, 15, 16, 17, 18, 19, 20, 21, 22] rfl) (hD.sub [4, 5, 6, 7, 8, 9, 10, 11, 12, 13, 14, 15, 16, 17, 18, 19, 20, 21, 22] rfl rfl) (va_free hD hS hA [4, 5, 6, 7, 8, 9, 10, 11, 12, 13, 14, 15, 16, 17, 18, 19, 20, 21, 22] rfl)⟩ rfl rfl hl.1 rfl (lv_room (Nat.le_of_ble_eq_true rfl)) dX10_mends_25 ⟨Nat.le_of_ble_eq_true rfl, Nat.le_of_ble_eq_true rfl⟩) 45 rfl (by decide +kernel) rfl (wG0 E a0 db di (v0.1, v0.2.1, v0.2.2.1, v0.2.2.2.1, r3.2, v0.2.2.2.2.2.1, v0.2.2.2.2.2.2.1, v0.2.2.2.2.2.2.2)) rfl rfl (fun H locs hP hD hS => ?_)
    have hP : va_P E.1 vwCl (wGC E a0 db di (v0.1, v0.2.1, v0.2.2.1, v0.2.2.2.1, r3.2, v0.2.2.2.2.2.1, v0.2.2.2.2.2.2.1, v0.2.2.2.2.2.2.2)) H := hP
    have hD : va_D A (wGC E a0 db di (v0.1, v0.2.1, v0.2.2.1, v0.2.2.2.1, r3.2, v0.2.2.2.2.2.1, v0.2.2.2.2.2.2.1, v0.2.2.2.2.2.2.2)) := hD
    cases Option.some.inj hf
    subst hQe
    exact eg_i hx hb hr hlocks hP hD hS dX10_mends_28
  · have hf := it_t hf c1
    refine lv_ldc hx hb hown w3 dX10_mends_7 ?_
    cases Option.some.inj hf
    subst hQe
    exact eg_i hx hb hr hlocks hP hD hS dX10_mends_9

/-! X10_odds -/
abbrev rmX10_odds : Room := { frames := 6, cells := 0, slots := 0, locals := 140 }
theorem hdS_X10_odds : yX10_odds.cls ≠ "java/lang/invoke/MethodHandle" ∧ yX10_odds.cls ≠ "java/lang/invoke/VarHandle" ∧ (parseMethodDescriptor yX10_odds.desc).map (fun d => d.parameters.length) = some 3 := by decide +kernel
theorem hdV_X10_odds : yX10_odds.cls = RX10 ∧ yX10_odds.cls ≠ "java/lang/invoke/MethodHandle" ∧ yX10_odds.cls ≠ "java/lang/invoke/VarHandle" ∧ (parseMethodDescriptor yX10_odds.desc).map (fun d => d.parameters.length) = some 3 := ⟨rfl, hdS_X10_odds⟩
set_option maxHeartbeats 4000000 in
set_option maxRecDepth 100000 in
theorem c_X10_odds (l : Launch) (E : G0) (a0 : Nat → Nat) (db di : Nat → Nat → Nat) (v0 : GC) (p1 : Int32) (p2 : Int32) (p3 : Int32) (x : Int64) (hf : f_X10_odds v0 p1 p2 p3 = some x) : Met l yX10_odds wsX10_odds rmX10_odds (va_Pc [.ref (a0 0), .int p1, .int p2, .int p3] (PR E (wGC E a0 db di v0))) (vp_Sl (fun r => r = x)) 0 0 (fun _ => False) := by
  refine Met.ofW (cc := cX10_odds) (maxL := 12) (ret := some .long) (by decide) rfl ?_
  intro p e s m args below meth c s₁ B hml hv
  obtain ⟨ha, hP, hC⟩ := hv
  have hx := B.exec
  have hb := B.bytes
  have hr := B.returns
  have hts := atoms_spec (ws := wsX10_odds) B.pre
  have hown : s.vm.findClass RX10 = some m.cls := findClass_of_methodNamed B.named
  have hlocks := B.notSynchronized
  have hS : va_S (fun _ => False) s.heap s.heap [] := va_S.rf
  have w1 : (Cond.fieldLink RX10 42 "GreatChunks" "standing" "Z").before args s = true := hts _ (List.mem_of_getElem? (i := 1) rfl)
  have w2 : ∀ w ∈ wsX100, w ∈ wsX10_odds := in_pl 89 rfl
  have w3 : (Cond.constantLong RX10 318 (-1000002)).before args s = true := hts _ (List.mem_of_getElem? (i := 2) rfl)
  have w4 : (Cond.constantLong RX10 320 (-1000001)).before args s = true := hts _ (List.mem_of_getElem? (i := 3) rfl)
  have w5 : (Cond.fieldLink RX10 31 "GreatChunks" "house" "LGreatChunks$House;").before args s = true := hts _ (List.mem_of_getElem? (i := 4) rfl)
  have w6 : (Cond.fieldLink RX10 83 "GreatChunks$House" "files" "LGreatChunks$Files;").before args s = true := hts _ (List.mem_of_getElem? (i := 5) rfl)
  have w7 : ∀ w ∈ wsX50, w ∈ wsX10_odds := in_pl 97 rfl
  generalize hQe : MQ below (vp_Sl (fun r => r = x)) args s 0 0 (fun _ => False) = Q
  refine st_W ha (Nat.le_of_ble_eq_true rfl) (fun ls hl => ?_)
  have hl : lv_has ls 12 [(0, .ref (a0 0)), (1, .int p1), (2, .int p2), (3, .int p3)] := hl
  unfold f_X10_odds at hf
  refine lv_aload_n hx hb dX10_odds_0 rfl (lv_at hl 0 rfl) ?_
  refine va_get (D := E.1) (ci := 8) (v := .int v0.2.2.2.2.2.2.1) (C := RX10) (T := TX10) (N := 8) hx hb hts w2 hown hC.1 hP 0 rfl rfl 6 (by decide) w1 (fun _ h9 => h9) rfl dX10_odds_1 ?_
  refine lv_if_ne (tgt := 11) hx hb dX10_odds_4 rfl (fun c1 => ?_) (fun c1 => ?_)
  · have hf := it_f hf c1
    refine lv_iload_n hx hb dX10_odds_11 rfl (lv_at hl 1 rfl) ?_
    refine cr_i (va_runS (As := [.int p1]) (rest := []) ⟨hx, hb, hml, hown, hts⟩ (c_X10_isFile l E p1 _ rfl) (va_cwS 1 hts gX10_odds_X10_isFile rfl rfl rfl hdS_X10_isFile ⟨Nat.le_of_ble_eq_true rfl, Nat.le_of_ble_eq_true rfl⟩) ⟨PR.blind, PR.pre hC hS (hP.sub [] rfl)⟩ rfl rfl hl.1 rfl (lv_room (Nat.le_of_ble_eq_true rfl)) dX10_odds_12 ⟨Nat.le_of_ble_eq_true rfl, Nat.le_of_ble_eq_true rfl⟩) ?_
    refine lv_if_eq (tgt := 37) hx hb dX10_odds_15 rfl (fun c2 => ?_) (fun c2 => ?_)
    · have hf := it_t hf c2
      refine lv_ldc2 hx hb hown w4 dX10_odds_37 ?_
      cases Option.some.inj hf
      subst hQe
      exact en_l hx hb hr hlocks dX10_odds_40
    · have hf := it_f hf c2
      refine lv_iload_n hx hb dX10_odds_18 rfl (lv_at hl 2 rfl) ?_
      refine lv_iconst (v := 0) hx hb dX10_odds_19 rfl ?_
      refine lv_bipush (v := 10) hx hb dX10_odds_20 rfl ?_
      refine cr_i (va_runS (As := [.int p2, .int (0 : Int32), .int (10 : Int32)]) (rest := []) ⟨hx, hb, hml, hown, hts⟩ (c_X10_within l E p2 (0 : Int32) (10 : Int32) _ rfl) (va_cwS 3 hts gX10_odds_X10_within rfl rfl rfl hdS_X10_within ⟨Nat.le_of_ble_eq_true rfl, Nat.le_of_ble_eq_true rfl⟩) ⟨PR.blind, PR.pre hC hS (hP.sub [] rfl)⟩ rfl rfl hl.1 rfl (lv_room (Nat.le_of_ble_eq_true rfl)) dX10_odds_22 ⟨Nat.le_of_ble_eq_true rfl, Nat.le_of_ble_eq_true rfl⟩) ?_
      refine lv_if_eq (tgt := 37) hx hb dX10_odds_25 rfl (fun c3 => ?_) (fun c3 => ?_)
      · have hf := it_t hf c3
        refine lv_ldc2 hx hb hown w4 dX10_odds_37 ?_
        cases Option.some.inj hf
        subst hQe
        exact en_l hx hb hr hlocks dX10_odds_40
      · have hf := it_f hf c3
        refine lv_iload_n hx hb dX10_odds_28 rfl (lv_at hl 3 rfl) ?_
        refine lv_iconst (v := 0) hx hb dX10_odds_29 rfl ?_
        refine lv_iconst (v := 1) hx hb dX10_odds_30 rfl ?_
        refine cr_i (va_runS (As := [.int p3, .int (0 : Int32), .int (1 : Int32)]) (rest := []) ⟨hx, hb, hml, hown, hts⟩ (c_X10_within l E p3 (0 : Int32) (1 : Int32) _ rfl) (va_cwS 3 hts gX10_odds_X10_within rfl rfl rfl hdS_X10_within ⟨Nat.le_of_ble_eq_true rfl, Nat.le_of_ble_eq_true rfl⟩) ⟨PR.blind, PR.pre hC hS (hP.sub [] rfl)⟩ rfl rfl hl.1 rfl (lv_room (Nat.le_of_ble_eq_true rfl)) dX10_odds_31 ⟨Nat.le_of_ble_eq_true rfl, Nat.le_of_ble_eq_true rfl⟩) ?_
        refine lv_if_ne (tgt := 41) hx hb dX10_odds_34 rfl (fun c4 => ?_) (fun c4 => ?_)
        · have hf := it_f hf c4
          refine lv_aload_n hx hb dX10_odds_41 rfl (lv_at hl 0 rfl) ?_
          refine va_get (D := E.1) (ci := 8) (v := .ref (a0 26)) (C := RX10) (T := TX10) (N := 8) hx hb hts w2 hown hC.1 hP 0 rfl rfl 3 (by decide) w5 (fun _ h9 => h9) rfl dX10_odds_42 ?_
          refine va_get (D := E.1) (ci := 4) (v := .ref (a0 39)) (C := RX5) (T := TX5) (N := 9) hx hb hts w7 hown hC.1 hP 26 rfl rfl 8 (by decide) w6 (fun _ h9 => h9) rfl dX10_odds_45 ?_
          refine lv_iload_n hx hb dX10_odds_48 rfl (lv_at hl 1 rfl) ?_
          refine lv_iconst (v := 1) hx hb dX10_odds_49 rfl ?_
          obtain ⟨r5, e5, hf⟩ := bd_some hf
          refine cr_i (va_runV (As := [.int p1, .int (1 : Int32)]) (rest := []) ⟨hx, hb, hml, hown, hts⟩ (c_X3_is l E (fun k => a0 (k + 39)) v0.2.2.2.1.2.2.2.2.2.2.2.2 p1 (1 : Int32) r5 e5) (cwV 2 hts gX10_odds_X3_is rfl rfl rfl hdV_X3_is ⟨Nat.le_of_ble_eq_true rfl, Nat.le_of_ble_eq_true rfl⟩) ⟨PR.blind, va_recv hC.1 hP (ci := 3) (q0 := 39) rfl rfl, PR.pre hC hS (hP.sub [39, 40, 41, 42, 43, 44] rfl)⟩ rfl rfl hl.1 rfl (lv_room (Nat.le_of_ble_eq_true rfl)) dX10_odds_50 ⟨Nat.le_of_ble_eq_true rfl, Nat.le_of_ble_eq_true rfl⟩) ?_
          refine lv_if_ne (tgt := 60) hx hb dX10_odds_53 rfl (fun c6 => ?_) (fun c6 => ?_)
          · have hf := it_f hf c6
            refine lv_aload_n hx hb dX10_odds_60 rfl (lv_at hl 0 rfl) ?_
            refine va_get (D := E.1) (ci := 8) (v := .ref (a0 26)) (C := RX10) (T := TX10) (N := 8) hx hb hts w2 hown hC.1 hP 0 rfl rfl 3 (by decide) w5 (fun _ h9 => h9) rfl dX10_odds_61 ?_
            refine lv_iload_n hx hb dX10_odds_64 rfl (lv_at hl 1 rfl) ?_
            refine lv_iload_n hx hb dX10_odds_65 rfl (lv_at hl 2 rfl) ?_
            obtain ⟨r7, e7, hf⟩ := bd_some hf
            refine cr_l (va_runS (As := [.ref (a0 26), .int p1, .int p2]) (rest := []) ⟨hx, hb, hml, hown, hts⟩ (c_X4_readableCases l E (fun k => a0 (k + 26)) v0.2.2.2.1 p1 p2 r7 e7) (va_cwS 3 hts gX10_odds_X4_readableCases rfl rfl rfl hdS_X4_readableCases ⟨Nat.le_of_ble_eq_true rfl, Nat.le_of_ble_eq_true rfl⟩) ⟨PR.blind, PR.pre hC hS (hP.sub [26, 27, 28, 29, 30, 31, 32, 33, 34, 35, 36, 37, 38, 39, 40, 41, 42, 43, 44] rfl)⟩ rfl rfl hl.1 rfl (lv_room (Nat.le_of_ble_eq_true rfl)) dX10_odds_66 ⟨Nat.le_of_ble_eq_true rfl, Nat.le_of_ble_eq_true rfl⟩) ?_
            refine lv_lstore (lv' := [(4, .long r7), (0, .ref (a0 0)), (1, .int p1), (2, .int p2), (3, .int p3)]) hx hb dX10_odds_69 hl (by decide) rfl (fun ls hl => ?_)
            refine lv_aload_n hx hb dX10_odds_71 rfl (lv_at hl 1 rfl) ?_
            refine va_get (D := E.1) (ci := 8) (v := .ref (a0 26)) (C := RX10) (T := TX10) (N := 8) hx hb hts w2 hown hC.1 hP 0 rfl rfl 3 (by decide) w5 (fun _ h9 => h9) rfl dX10_odds_72 ?_
            obtain ⟨r8, e8, hf⟩ := bd_some hf
            refine cr_l (va_runS (As := [.ref (a0 26)]) (rest := []) ⟨hx, hb, hml, hown, hts⟩ (c_X4_allCases l E (fun k => a0 (k + 26)) v0.2.2.2.1 r8 e8) (va_cwS 1 hts gX10_odds_X4_allCases rfl rfl rfl hdS_X4_allCases ⟨Nat.le_of_ble_eq_true rfl, Nat.le_of_ble_eq_true rfl⟩) ⟨PR.blind, PR.pre hC hS (hP.sub [26, 27, 28, 29, 30, 31, 32, 33, 34, 35, 36, 37, 38, 39, 40, 41, 42, 43, 44] rfl)⟩ rfl rfl hl.1 rfl (lv_room (Nat.le_of_ble_eq_true rfl)) dX10_odds_75 ⟨Nat.le_of_ble_eq_true rfl, Nat.le_of_ble_eq_true rfl⟩) ?_
            refine lv_lstore (lv' := [(6, .long r8), (4, .long r7), (0, .ref (a0 0)), (1, .int p1), (2, .int p2), (3, .int p3)]) hx hb dX10_odds_78 hl (by decide) rfl (fun ls hl => ?_)
            refine lv_lload hx hb dX10_odds_80 (lv_at hl 1 rfl) ?_
            refine lv_lload hx hb dX10_odds_82 (lv_at hl 0 rfl) ?_
            obtain ⟨r9, e9, hf⟩ := bd_some hf
            refine cr_l (va_runS (As := [.long r7, .long r8]) (rest := []) ⟨hx, hb, hml, hown, hts⟩ (c_X4_commonDivisor l E r7 r8 r9 e9) (va_cwS 2 hts gX10_odds_X4_commonDivisor rfl rfl rfl hdS_X4_commonDivisor ⟨Nat.le_of_ble_eq_true rfl, Nat.le_of_ble_eq_true rfl⟩) ⟨PR.blind, PR.pre hC hS (hP.sub [] rfl)⟩ rfl rfl hl.1 rfl (lv_room (Nat.le_of_ble_eq_true rfl)) dX10_odds_84 ⟨Nat.le_of_ble_eq_true rfl, Nat.le_of_ble_eq_true rfl⟩) ?_
            refine lv_lstore (lv' := [(8, .long r9), (6, .long r8), (4, .long r7), (0, .ref (a0 0)), (1, .int p1), (2, .int p2), (3, .int p3)]) hx hb dX10_odds_87 hl (by decide) rfl (fun ls hl => ?_)
            refine lv_iload_n hx hb dX10_odds_89 rfl (lv_at hl 6 rfl) ?_
            obtain ⟨q10, e10, hf⟩ := bt_eq hf
            have J10 : W p l e (headSpec wsX10_odds rmX10_odds).room s m args below meth c s.heap [] 0 0 Q (F0 m 100 ls [.long q10]) := by
              refine lv_lstore (lv' := [(10, .long q10), (8, .long r9), (6, .long r8), (4, .long r7), (0, .ref (a0 0)), (1, .int p1), (2, .int p2), (3, .int p3)]) hx hb dX10_odds_100 hl (by decide) rfl (fun ls hl => ?_)
              refine lv_lload hx hb dX10_odds_102 (lv_at hl 1 rfl) ?_
              refine lv_lconst (v := 0) hx hb dX10_odds_104 rfl ?_
              refine W.lcmp hx hb dX10_odds_105 ?_
              refine lv_if_ne (tgt := 114) hx hb dX10_odds_106 rfl (fun c11 => ?_) (fun c11 => ?_)
              · have hf := it_f hf c11
                refine lv_lload hx hb dX10_odds_114 (lv_at hl 0 rfl) ?_
                refine lv_lload hx hb dX10_odds_116 (lv_at hl 1 rfl) ?_
                obtain ⟨h12, hf⟩ := gdL_some hf
                refine lv_ldiv hx hb dX10_odds_118 h12 ?_
                cases Option.some.inj hf
                subst hQe
                exact en_l hx hb hr hlocks dX10_odds_119
              · have hf := it_t hf c11
                refine lv_lload hx hb dX10_odds_109 (lv_at hl 0 rfl) ?_
                refine lv_goto (tgt := 119) hx hb dX10_odds_111 rfl ?_
                cases Option.some.inj hf
                subst hQe
                exact en_l hx hb hr hlocks dX10_odds_119
            have hf := e10
            refine lv_if_ne (tgt := 98) hx hb dX10_odds_90 rfl (fun c13 => ?_) (fun c13 => ?_)
            · have hf := it_f hf c13
              refine lv_lload hx hb dX10_odds_98 (lv_at hl 1 rfl) ?_
              cases hf
              exact J10
            · have hf := it_t hf c13
              refine lv_lload hx hb dX10_odds_93 (lv_at hl 2 rfl) ?_
              refine lv_goto (tgt := 100) hx hb dX10_odds_95 rfl ?_
              cases hf
              exact J10
          · have hf := it_t hf c6
            refine lv_ldc2 hx hb hown w3 dX10_odds_56 ?_
            cases Option.some.inj hf
            subst hQe
            exact en_l hx hb hr hlocks dX10_odds_59
        · have hf := it_t hf c4
          refine lv_ldc2 hx hb hown w4 dX10_odds_37 ?_
          cases Option.some.inj hf
          subst hQe
          exact en_l hx hb hr hlocks dX10_odds_40
  · have hf := it_t hf c1
    refine lv_ldc2 hx hb hown w3 dX10_odds_7 ?_
    cases Option.some.inj hf
    subst hQe
    exact en_l hx hb hr hlocks dX10_odds_10

/-! X10_drawn -/
abbrev rmX10_drawn : Room := { frames := 7, cells := 1, slots := 9, locals := 177 }
theorem hdS_X10_drawn : yX10_drawn.cls ≠ "java/lang/invoke/MethodHandle" ∧ yX10_drawn.cls ≠ "java/lang/invoke/VarHandle" ∧ (parseMethodDescriptor yX10_drawn.desc).map (fun d => d.parameters.length) = some 3 := by decide +kernel
theorem hdV_X10_drawn : yX10_drawn.cls = RX10 ∧ yX10_drawn.cls ≠ "java/lang/invoke/MethodHandle" ∧ yX10_drawn.cls ≠ "java/lang/invoke/VarHandle" ∧ (parseMethodDescriptor yX10_drawn.desc).map (fun d => d.parameters.length) = some 3 := ⟨rfl, hdS_X10_drawn⟩
set_option maxHeartbeats 4000000 in
set_option maxRecDepth 100000 in
theorem c_X10_drawn (l : Launch) (E : G0) (sz : Nat) (a0 : Nat → Nat) (db di : Nat → Nat → Nat) (v0 : GC) (p1 : Int32) (p2 : Int32) (p3 : Int32) (x : Int32 × GC) (hf : f_X10_drawn v0 p1 p2 p3 = some x) : Met l yX10_drawn wsX10_drawn rmX10_drawn (va_Pc [.ref (a0 0), .int p1, .int p2, .int p3] (PW E (wGC E a0 db di v0) sz)) (va_Qi (fun r (q : DA × GC) => r = x.1 ∧ q.2 = x.2) (fun q t => va_P E.1 vwCl (wGC E a0 q.1.1 q.1.2 q.2) t.heap ∧ va_D (va_A (wGC E a0 db di v0) sz) (wGC E a0 q.1.1 q.1.2 q.2)) (va_A (wGC E a0 db di v0) sz)) 1 9 (va_A (wGC E a0 db di v0) sz) := by
  refine Met.ofW (cc := cX10_drawn) (maxL := 5) (ret := some .int) (by decide) rfl ?_
  intro p e s m args below meth c s₁ B hml hv
  obtain ⟨ha, hsz, hP, hD0, hC⟩ := hv
  have hx := B.exec
  have hb := B.bytes
  have hr := B.returns
  have hts := atoms_spec (ws := wsX10_drawn) B.pre
  have hown : s.vm.findClass RX10 = some m.cls := findClass_of_methodNamed B.named
  have hlocks := B.notSynchronized
  subst hsz
  have hD := hD0.self (sz := s.heap.size)
  generalize hAe : va_A (wGC E a0 db di v0) s.heap.size = A at hD hC ⊢
  have hA : ∀ q : Nat, s.heap.size ≤ q → A q := fun q h => by rw [← hAe]; exact Or.inr h
  have hS : va_S A s.heap s.heap [] := va_S.rf
  have w1 : (Cond.fieldLink RX10 42 "GreatChunks" "standing" "Z").before args s = true := hts _ (List.mem_of_getElem? (i := 1) rfl)
  have w2 : ∀ w ∈ wsX100, w ∈ wsX10_drawn := in_pl 307 rfl
  have w3 : (Cond.constant RX10 99 (-1000002)).before args s = true := hts _ (List.mem_of_getElem? (i := 2) rfl)
  have w4 : (Cond.constant RX10 54 (-1000001)).before args s = true := hts _ (List.mem_of_getElem? (i := 4) rfl)
  have w5 : (Cond.constant RX10 334 (999999)).before args s = true := hts _ (List.mem_of_getElem? (i := 3) rfl)
  have w6 : (Cond.fieldLink RX10 35 "GreatChunks" "trial" "LGreatChunks$House;").before args s = true := hts _ (List.mem_of_getElem? (i := 5) rfl)
  have w7 : (Cond.fieldLink RX10 31 "GreatChunks" "house" "LGreatChunks$House;").before args s = true := hts _ (List.mem_of_getElem? (i := 6) rfl)
  have w8 : (Cond.fieldLink RX10 219 "GreatChunks$House" "chunks" "LGreatChunks$Chunks;").before args s = true := hts _ (List.mem_of_getElem? (i := 7) rfl)
  have w9 : ∀ w ∈ wsX50, w ∈ wsX10_drawn := in_pl 315 rfl
  have w10 : (Cond.fieldLink RX10 285 "GreatChunks$Chunks" "made" "I").before args s = true := hts _ (List.mem_of_getElem? (i := 8) rfl)
  have w11 : ∀ w ∈ wsX10, w ∈ wsX10_drawn := in_pl 324 rfl
  generalize hQe : MQ below (va_Qi (fun r (q : DA × GC) => r = x.1 ∧ q.2 = x.2) (fun q t => va_P E.1 vwCl (wGC E a0 q.1.1 q.1.2 q.2) t.heap ∧ va_D A (wGC E a0 q.1.1 q.1.2 q.2)) A) args s 1 9 A = Q
  refine st_W ha (Nat.le_of_ble_eq_true rfl) (fun ls hl => ?_)
  have hl : lv_has ls 5 [(0, .ref (a0 0)), (1, .int p1), (2, .int p2), (3, .int p3)] := hl
  unfold f_X10_drawn at hf
  refine lv_aload_n hx hb dX10_drawn_0 rfl (lv_at hl 0 rfl) ?_
  refine va_get (D := E.1) (ci := 8) (v := .int v0.2.2.2.2.2.2.1) (C := RX10) (T := TX10) (N := 8) hx hb hts w2 hown hC.1 hP 0 rfl rfl 6 (by decide) w1 (fun _ h9 => h9) rfl dX10_drawn_1 ?_
  refine lv_if_ne (tgt := 10) hx hb dX10_drawn_4 rfl (fun c1 => ?_) (fun c1 => ?_)
  · have hf := it_f hf c1
    refine lv_iload_n hx hb dX10_drawn_10 rfl (lv_at hl 1 rfl) ?_
    refine lv_iconst (v := 0) hx hb dX10_drawn_11 rfl ?_
    refine lv_bipush (v := 12) hx hb dX10_drawn_12 rfl ?_
    refine cr_i (va_runS (As := [.int p1, .int (0 : Int32), .int (12 : Int32)]) (rest := []) ⟨hx, hb, hml, hown, hts⟩ (c_X10_within l E p1 (0 : Int32) (12 : Int32) _ rfl) (va_cwS 3 hts gX10_drawn_X10_within rfl rfl rfl hdS_X10_within ⟨Nat.le_of_ble_eq_true rfl, Nat.le_of_ble_eq_true rfl⟩) ⟨PR.blind, PR.pre hC hS (hP.sub [] rfl)⟩ rfl rfl hl.1 rfl (lv_room (Nat.le_of_ble_eq_true rfl)) dX10_drawn_14 ⟨Nat.le_of_ble_eq_true rfl, Nat.le_of_ble_eq_true rfl⟩) ?_
    refine lv_if_eq (tgt := 40) hx hb dX10_drawn_17 rfl (fun c2 => ?_) (fun c2 => ?_)
    · have hf := it_t hf c2
      refine lv_ldc hx hb hown w4 dX10_drawn_40 ?_
      cases Option.some.inj hf
      subst hQe
      refine W.widen (k := 1) (n := 9) (by decide) (by decide) ?_
      exact eg_i hx hb hr hlocks hP hD hS dX10_drawn_42
    · have hf := it_f hf c2
      refine lv_iload_n hx hb dX10_drawn_20 rfl (lv_at hl 2 rfl) ?_
      refine lv_iconst (v := 1) hx hb dX10_drawn_21 rfl ?_
      refine lv_ldcw hx hb hown w5 dX10_drawn_22 ?_
      refine cr_i (va_runS (As := [.int p2, .int (1 : Int32), .int ((999999) : Int32)]) (rest := []) ⟨hx, hb, hml, hown, hts⟩ (c_X10_within l E p2 (1 : Int32) ((999999) : Int32) _ rfl) (va_cwS 3 hts gX10_drawn_X10_within rfl rfl rfl hdS_X10_within ⟨Nat.le_of_ble_eq_true rfl, Nat.le_of_ble_eq_true rfl⟩) ⟨PR.blind, PR.pre hC hS (hP.sub [] rfl)⟩ rfl rfl hl.1 rfl (lv_room (Nat.le_of_ble_eq_true rfl)) dX10_drawn_25 ⟨Nat.le_of_ble_eq_true rfl, Nat.le_of_ble_eq_true rfl⟩) ?_
      refine lv_if_eq (tgt := 40) hx hb dX10_drawn_28 rfl (fun c3 => ?_) (fun c3 => ?_)
      · have hf := it_t hf c3
        refine lv_ldc hx hb hown w4 dX10_drawn_40 ?_
        cases Option.some.inj hf
        subst hQe
        refine W.widen (k := 1) (n := 9) (by decide) (by decide) ?_
        exact eg_i hx hb hr hlocks hP hD hS dX10_drawn_42
      · have hf := it_f hf c3
        refine lv_iload_n hx hb dX10_drawn_31 rfl (lv_at hl 3 rfl) ?_
        refine lv_iconst (v := 0) hx hb dX10_drawn_32 rfl ?_
        refine lv_iconst (v := 2) hx hb dX10_drawn_33 rfl ?_
        refine cr_i (va_runS (As := [.int p3, .int (0 : Int32), .int (2 : Int32)]) (rest := []) ⟨hx, hb, hml, hown, hts⟩ (c_X10_within l E p3 (0 : Int32) (2 : Int32) _ rfl) (va_cwS 3 hts gX10_drawn_X10_within rfl rfl rfl hdS_X10_within ⟨Nat.le_of_ble_eq_true rfl, Nat.le_of_ble_eq_true rfl⟩) ⟨PR.blind, PR.pre hC hS (hP.sub [] rfl)⟩ rfl rfl hl.1 rfl (lv_room (Nat.le_of_ble_eq_true rfl)) dX10_drawn_34 ⟨Nat.le_of_ble_eq_true rfl, Nat.le_of_ble_eq_true rfl⟩) ?_
        refine lv_if_ne (tgt := 43) hx hb dX10_drawn_37 rfl (fun c4 => ?_) (fun c4 => ?_)
        · have hf := it_f hf c4
          refine lv_aload_n hx hb dX10_drawn_43 rfl (lv_at hl 0 rfl) ?_
          refine va_get (D := E.1) (ci := 8) (v := .ref (a0 4)) (C := RX10) (T := TX10) (N := 8) hx hb hts w2 hown hC.1 hP 0 rfl rfl 4 (by decide) w6 (fun _ h9 => h9) rfl dX10_drawn_44 ?_
          refine lv_aload_n hx hb dX10_drawn_47 rfl (lv_at hl 0 rfl) ?_
          refine va_get (D := E.1) (ci := 8) (v := .ref (a0 26)) (C := RX10) (T := TX10) (N := 8) hx hb hts w2 hown hC.1 hP 0 rfl rfl 3 (by decide) w7 (fun _ h9 => h9) rfl dX10_drawn_48 ?_
          obtain ⟨r5, e5, hf⟩ := bd_some hf
          refine cqt_v (wc := (wHS E (fun k => a0 (k + 4)) v0.2.2.2.2.1 ++ wHS E (fun k => a0 (k + 26)) v0.2.2.2.1)) (ws := wG0 E a0 db di v0) (tl := wGT E db di v0) hP hD hS hA [4, 5, 6, 7, 8, 9, 10, 11, 12, 13, 14, 15, 16, 17, 18, 19, 20, 21, 22, 26, 27, 28, 29, 30, 31, 32, 33, 34, 35, 36, 37, 38, 39, 40, 41, 42, 43, 44] [0, 1, 2, 3, 23, 24, 25] (va_runV (As := [.ref (a0 26)]) (rest := []) ⟨hx, hb, hml, hown, hts⟩ (c_X5_become l E s.heap.size (fun k => a0 (k + 4)) v0.2.2.2.2.1 (fun k => a0 (k + 26)) v0.2.2.2.1 r5 e5) (cwV 1 hts gX10_drawn_X5_become rfl rfl rfl hdV_X5_become ⟨Nat.le_of_ble_eq_true rfl, Nat.le_of_ble_eq_true rfl⟩) ⟨PW.blind, va_recv hC.1 hP (ci := 4) (q0 := 4) rfl rfl, PW.pre hC hS (hP.sub [4, 5, 6, 7, 8, 9, 10, 11, 12, 13, 14, 15, 16, 17, 18, 19, 20, 21, 22, 26, 27, 28, 29, 30, 31, 32, 33, 34, 35, 36, 37, 38, 39, 40, 41, 42, 43, 44] rfl) (hD.sub [4, 5, 6, 7, 8, 9, 10, 11, 12, 13, 14, 15, 16, 17, 18, 19, 20, 21, 22, 26, 27, 28, 29, 30, 31, 32, 33, 34, 35, 36, 37, 38, 39, 40, 41, 42, 43, 44] rfl rfl) (va_free hD hS hA [4, 5, 6, 7, 8, 9, 10, 11, 12, 13, 14, 15, 16, 17, 18, 19, 20, 21, 22, 26, 27, 28, 29, 30, 31, 32, 33, 34, 35, 36, 37, 38, 39, 40, 41, 42, 43, 44] rfl)⟩ rfl rfl hl.1 rfl (lv_room (Nat.le_of_ble_eq_true rfl)) dX10_drawn_51 ⟨Nat.le_of_ble_eq_true rfl, Nat.le_of_ble_eq_true rfl⟩) 45 rfl (by decide +kernel) rfl (wG0 E a0 db di (v0.1, v0.2.1, v0.2.2.1, v0.2.2.2.1, r5, v0.2.2.2.2.2.1, v0.2.2.2.2.2.2.1, v0.2.2.2.2.2.2.2)) rfl rfl (fun H locs hP hD hS => ?_)
          have hP : va_P E.1 vwCl (wGC E a0 db di (v0.1, v0.2.1, v0.2.2.1, v0.2.2.2.1, r5, v0.2.2.2.2.2.1, v0.2.2.2.2.2.2.1, v0.2.2.2.2.2.2.2)) H := hP
          have hD : va_D A (wGC E a0 db di (v0.1, v0.2.1, v0.2.2.1, v0.2.2.2.1, r5, v0.2.2.2.2.2.1, v0.2.2.2.2.2.2.1, v0.2.2.2.2.2.2.2)) := hD
          refine lv_aload_n hx hb dX10_drawn_54 rfl (lv_at hl 0 rfl) ?_
          refine va_get (D := E.1) (ci := 8) (v := .ref (a0 4)) (C := RX10) (T := TX10) (N := 8) hx hb hts w2 hown hC.1 hP 0 rfl rfl 4 (by decide) w6 (fun _ h9 => h9) rfl dX10_drawn_55 ?_
          refine lv_iload_n hx hb dX10_drawn_58 rfl (lv_at hl 1 rfl) ?_
          refine lv_iload_n hx hb dX10_drawn_59 rfl (lv_at hl 2 rfl) ?_
          obtain ⟨r6, e6, hf⟩ := bd_some hf
          refine cqt_i (wc := (wHS E (fun k => a0 (k + 4)) r5)) (ws := wG0 E a0 db di (v0.1, v0.2.1, v0.2.2.1, v0.2.2.2.1, r5, v0.2.2.2.2.2.1, v0.2.2.2.2.2.2.1, v0.2.2.2.2.2.2.2)) (tl := wGT E db di (v0.1, v0.2.1, v0.2.2.1, v0.2.2.2.1, r5, v0.2.2.2.2.2.1, v0.2.2.2.2.2.2.1, v0.2.2.2.2.2.2.2)) hP hD hS hA [4, 5, 6, 7, 8, 9, 10, 11, 12, 13, 14, 15, 16, 17, 18, 19, 20, 21, 22] [0, 1, 2, 3, 23, 24, 25, 26, 27, 28, 29, 30, 31, 32, 33, 34, 35, 36, 37, 38, 39, 40, 41, 42, 43, 44] (va_runS (As := [.ref (a0 4), .int p1, .int p2]) (rest := []) ⟨hx, hb, hml, hown, hts⟩ (c_X4_liveYears l E H.size (fun k => a0 (k + 4)) r5 p1 p2 r6 e6) (va_cwS 3 hts gX10_drawn_X4_liveYears rfl rfl rfl hdS_X4_liveYears ⟨Nat.le_of_ble_eq_true rfl, Nat.le_of_ble_eq_true rfl⟩) ⟨PW.blind, PW.pre hC hS (hP.sub [4, 5, 6, 7, 8, 9, 10, 11, 12, 13, 14, 15, 16, 17, 18, 19, 20, 21, 22] rfl) (hD.sub [4, 5, 6, 7, 8, 9, 10, 11, 12, 13, 14, 15, 16, 17, 18, 19, 20, 21, 22] rfl rfl) (va_free hD hS hA [4, 5, 6, 7, 8, 9, 10, 11, 12, 13, 14, 15, 16, 17, 18, 19, 20, 21, 22] rfl)⟩ rfl rfl hl.1 rfl (lv_room (Nat.le_of_ble_eq_true rfl)) dX10_drawn_60 ⟨Nat.le_of_ble_eq_true rfl, Nat.le_of_ble_eq_true rfl⟩) 45 rfl (by decide +kernel) rfl (wG0 E a0 db di (v0.1, v0.2.1, v0.2.2.1, v0.2.2.2.1, r6.2, v0.2.2.2.2.2.1, v0.2.2.2.2.2.2.1, v0.2.2.2.2.2.2.2)) rfl rfl (fun H locs hP hD hS => ?_)
          have hP : va_P E.1 vwCl (wGC E a0 db di (v0.1, v0.2.1, v0.2.2.1, v0.2.2.2.1, r6.2, v0.2.2.2.2.2.1, v0.2.2.2.2.2.2.1, v0.2.2.2.2.2.2.2)) H := hP
          have hD : va_D A (wGC E a0 db di (v0.1, v0.2.1, v0.2.2.1, v0.2.2.2.1, r6.2, v0.2.2.2.2.2.1, v0.2.2.2.2.2.2.1, v0.2.2.2.2.2.2.2)) := hD
          refine lv_istore (lv' := [(4, .int r6.1), (0, .ref (a0 0)), (1, .int p1), (2, .int p2), (3, .int p3)]) hx hb dX10_drawn_63 hl (by decide) rfl (fun ls hl => ?_)
          refine lv_iload_n hx hb dX10_drawn_65 rfl (lv_at hl 4 rfl) ?_
          by_cases s7 : p3 = 0
          · have hf := it_t hf s7
            refine lv_lookup (tgt := 92) (off := 26) hx hb dX10_drawn_66 (by decide) (by rw [s7]; decide) rfl ?_
            refine lv_iload hx hb dX10_drawn_92 (lv_at hl 0 rfl) ?_
            cases Option.some.inj hf
            subst hQe
            exact eg_i hx hb hr hlocks hP hD hS dX10_drawn_94
          have hf := it_f hf s7
          by_cases s8 : p3 = 1
          · have hf := it_t hf s8
            refine lv_lookup (tgt := 95) (off := 29) hx hb dX10_drawn_66 (by decide) (by rw [s8]; decide) rfl ?_
            refine lv_aload_n hx hb dX10_drawn_95 rfl (lv_at hl 1 rfl) ?_
            refine va_get (D := E.1) (ci := 8) (v := .ref (a0 4)) (C := RX10) (T := TX10) (N := 8) hx hb hts w2 hown hC.1 hP 0 rfl rfl 4 (by decide) w6 (fun _ h9 => h9) rfl dX10_drawn_96 ?_
            refine va_get (D := E.1) (ci := 4) (v := .ref (a0 8)) (C := RX5) (T := TX5) (N := 9) hx hb hts w9 hown hC.1 hP 4 rfl rfl 6 (by decide) w8 (fun _ h9 => h9) rfl dX10_drawn_99 ?_
            refine va_get (D := E.1) (ci := 1) (v := .int r6.2.2.2.2.2.2.2.1.1) (C := RX1) (T := TX1) (N := 5) hx hb hts w11 hown hC.1 hP 8 rfl rfl 0 (by decide) w10 (fun _ h9 => h9) rfl dX10_drawn_102 ?_
            cases Option.some.inj hf
            subst hQe
            exact eg_i hx hb hr hlocks hP hD hS dX10_drawn_105
          have hf := it_f hf s8
          refine lv_lookup (tgt := 106) (off := 40) hx hb dX10_drawn_66 (by decide) (lk_out s7 s8) rfl ?_
          refine lv_aload_n hx hb dX10_drawn_106 rfl (lv_at hl 1 rfl) ?_
          refine va_get (D := E.1) (ci := 8) (v := .ref (a0 4)) (C := RX10) (T := TX10) (N := 8) hx hb hts w2 hown hC.1 hP 0 rfl rfl 4 (by decide) w6 (fun _ h9 => h9) rfl dX10_drawn_107 ?_
          obtain ⟨r9, e9, hf⟩ := bd_some hf
          refine cr_i (va_runV (As := []) (rest := []) ⟨hx, hb, hml, hown, hts⟩ (c_X5_allCopies l E (fun k => a0 (k + 4)) r6.2 r9 e9) (cwV 0 hts gX10_drawn_X5_allCopies rfl rfl rfl hdV_X5_allCopies ⟨Nat.le_of_ble_eq_true rfl, Nat.le_of_ble_eq_true rfl⟩) ⟨PR.blind, va_recv hC.1 hP (ci := 4) (q0 := 4) rfl rfl, PR.pre hC hS (hP.sub [4, 5, 6, 7, 8, 9, 10, 11, 12, 13, 14, 15, 16, 17, 18, 19, 20, 21, 22] rfl)⟩ rfl rfl hl.1 rfl (lv_room (Nat.le_of_ble_eq_true rfl)) dX10_drawn_110 ⟨Nat.le_of_ble_eq_true rfl, Nat.le_of_ble_eq_true rfl⟩) ?_
          cases Option.some.inj hf
          subst hQe
          exact eg_i hx hb hr hlocks hP hD hS dX10_drawn_113
        · have hf := it_t hf c4
          refine lv_ldc hx hb hown w4 dX10_drawn_40 ?_
          cases Option.some.inj hf
          subst hQe
          refine W.widen (k := 1) (n := 9) (by decide) (by decide) ?_
          exact eg_i hx hb hr hlocks hP hD hS dX10_drawn_42
  · have hf := it_t hf c1
    refine lv_ldc hx hb hown w3 dX10_drawn_7 ?_
    cases Option.some.inj hf
    subst hQe
    refine W.widen (k := 1) (n := 9) (by decide) (by decide) ?_
    exact eg_i hx hb hr hlocks hP hD hS dX10_drawn_9

/-! X10_count -/
abbrev rmX10_count : Room := { frames := 2, cells := 0, slots := 0, locals := 40 }
theorem hdS_X10_count : yX10_count.cls ≠ "java/lang/invoke/MethodHandle" ∧ yX10_count.cls ≠ "java/lang/invoke/VarHandle" ∧ (parseMethodDescriptor yX10_count.desc).map (fun d => d.parameters.length) = some 1 := by decide +kernel
theorem hdV_X10_count : yX10_count.cls = RX10 ∧ yX10_count.cls ≠ "java/lang/invoke/MethodHandle" ∧ yX10_count.cls ≠ "java/lang/invoke/VarHandle" ∧ (parseMethodDescriptor yX10_count.desc).map (fun d => d.parameters.length) = some 1 := ⟨rfl, hdS_X10_count⟩
set_option maxHeartbeats 4000000 in
set_option maxRecDepth 100000 in
theorem c_X10_count (l : Launch) (E : G0) (a0 : Nat → Nat) (db di : Nat → Nat → Nat) (v0 : GC) (p1 : Int32) (x : Int32) (hf : f_X10_count v0 p1 = some x) : Met l yX10_count wsX10_count rmX10_count (va_Pc [.ref (a0 0), .int p1] (PR E (wGC E a0 db di v0))) (vp_Si (fun r => r = x)) 0 0 (fun _ => False) := by
  refine Met.ofW (cc := cX10_count) (maxL := 2) (ret := some .int) (by decide) rfl ?_
  intro p e s m args below meth c s₁ B hml hv
  obtain ⟨ha, hP, hC⟩ := hv
  have hx := B.exec
  have hb := B.bytes
  have hr := B.returns
  have hts := atoms_spec (ws := wsX10_count) B.pre
  have hown : s.vm.findClass RX10 = some m.cls := findClass_of_methodNamed B.named
  have hlocks := B.notSynchronized
  have hS : va_S (fun _ => False) s.heap s.heap [] := va_S.rf
  have w1 : (Cond.fieldLink RX10 31 "GreatChunks" "house" "LGreatChunks$House;").before args s = true := hts _ (List.mem_of_getElem? (i := 1) rfl)
  have w2 : ∀ w ∈ wsX100, w ∈ wsX10_count := in_pl 31 rfl
  have w3 : (Cond.fieldLink RX10 170 "GreatChunks$House" "servers" "LGreatChunks$Servers;").before args s = true := hts _ (List.mem_of_getElem? (i := 2) rfl)
  have w4 : ∀ w ∈ wsX50, w ∈ wsX10_count := in_pl 39 rfl
  have w5 : (Cond.fieldLink RX10 342 "GreatChunks$Servers" "many" "I").before args s = true := hts _ (List.mem_of_getElem? (i := 3) rfl)
  have w6 : ∀ w ∈ wsX80, w ∈ wsX10_count := in_pl 48 rfl
  have w7 : (Cond.fieldLink RX10 83 "GreatChunks$House" "files" "LGreatChunks$Files;").before args s = true := hts _ (List.mem_of_getElem? (i := 4) rfl)
  have w8 : (Cond.fieldLink RX10 219 "GreatChunks$House" "chunks" "LGreatChunks$Chunks;").before args s = true := hts _ (List.mem_of_getElem? (i := 5) rfl)
  have w9 : (Cond.fieldLink RX10 285 "GreatChunks$Chunks" "made" "I").before args s = true := hts _ (List.mem_of_getElem? (i := 6) rfl)
  have w10 : ∀ w ∈ wsX10, w ∈ wsX10_count := in_pl 52 rfl
  have w11 : (Cond.fieldLink RX10 24 "GreatChunks" "acts" "LGreatChunks$Acts;").before args s = true := hts _ (List.mem_of_getElem? (i := 7) rfl)
  have w12 : (Cond.fieldLink RX10 96 "GreatChunks$Acts" "kept" "I").before args s = true := hts _ (List.mem_of_getElem? (i := 8) rfl)
  have w13 : ∀ w ∈ wsX00, w ∈ wsX10_count := in_pl 57 rfl
  have w14 : (Cond.fieldLink RX10 20 "GreatChunks" "tape" "LGreatChunks$Tape;").before args s = true := hts _ (List.mem_of_getElem? (i := 9) rfl)
  have w15 : (Cond.fieldLink RX10 61 "GreatChunks$Tape" "many" "I").before args s = true := hts _ (List.mem_of_getElem? (i := 10) rfl)
  have w16 : ∀ w ∈ wsX90, w ∈ wsX10_count := in_pl 60 rfl
  have w17 : (Cond.constant RX10 54 (-1000001)).before args s = true := hts _ (List.mem_of_getElem? (i := 11) rfl)
  generalize hQe : MQ below (vp_Si (fun r => r = x)) args s 0 0 (fun _ => False) = Q
  refine st_W ha (Nat.le_of_ble_eq_true rfl) (fun ls hl => ?_)
  have hl : lv_has ls 2 [(0, .ref (a0 0)), (1, .int p1)] := hl
  unfold f_X10_count at hf
  refine lv_iload_n hx hb dX10_count_0 rfl (lv_at hl 1 rfl) ?_
  by_cases s1 : p1 = 0
  · have hf := it_t hf s1
    refine lv_tableIn (tgt := 44) (off := 43) hx hb dX10_count_1 (by rw [s1]; decide) (by rw [s1]; decide) (by rw [s1]; rfl) rfl ?_
    refine lv_aload_n hx hb dX10_count_44 rfl (lv_at hl 0 rfl) ?_
    refine va_get (D := E.1) (ci := 8) (v := .ref (a0 26)) (C := RX10) (T := TX10) (N := 8) hx hb hts w2 hown hC.1 hP 0 rfl rfl 3 (by decide) w1 (fun _ h9 => h9) rfl dX10_count_45 ?_
    refine va_get (D := E.1) (ci := 4) (v := .ref (a0 27)) (C := RX5) (T := TX5) (N := 9) hx hb hts w4 hown hC.1 hP 26 rfl rfl 5 (by decide) w3 (fun _ h9 => h9) rfl dX10_count_48 ?_
    refine va_get (D := E.1) (ci := 6) (v := .int v0.2.2.2.1.2.2.2.2.2.1.1) (C := RX8) (T := TX8) (N := 4) hx hb hts w6 hown hC.1 hP 27 rfl rfl 0 (by decide) w5 (fun _ h9 => h9) rfl dX10_count_51 ?_
    cases Option.some.inj hf
    subst hQe
    exact en_i hx hb hr hlocks dX10_count_54
  have hf := it_f hf s1
  by_cases s2 : p1 = 1
  · have hf := it_t hf s2
    refine lv_tableIn (tgt := 55) (off := 54) hx hb dX10_count_1 (by rw [s2]; decide) (by rw [s2]; decide) (by rw [s2]; rfl) rfl ?_
    refine lv_aload_n hx hb dX10_count_55 rfl (lv_at hl 0 rfl) ?_
    refine va_get (D := E.1) (ci := 8) (v := .ref (a0 26)) (C := RX10) (T := TX10) (N := 8) hx hb hts w2 hown hC.1 hP 0 rfl rfl 3 (by decide) w1 (fun _ h9 => h9) rfl dX10_count_56 ?_
    refine va_get (D := E.1) (ci := 4) (v := .ref (a0 27)) (C := RX5) (T := TX5) (N := 9) hx hb hts w4 hown hC.1 hP 26 rfl rfl 5 (by decide) w3 (fun _ h9 => h9) rfl dX10_count_59 ?_
    refine cr_i (va_runV (As := []) (rest := []) ⟨hx, hb, hml, hown, hts⟩ (c_X8_manyUp l E (fun k => a0 (k + 27)) v0.2.2.2.1.2.2.2.2.2.1 _ rfl) (cwV 0 hts gX10_count_X8_manyUp rfl rfl rfl hdV_X8_manyUp ⟨Nat.le_of_ble_eq_true rfl, Nat.le_of_ble_eq_true rfl⟩) ⟨PR.blind, va_recv hC.1 hP (ci := 6) (q0 := 27) rfl rfl, PR.pre hC hS (hP.sub [27, 28, 29] rfl)⟩ rfl rfl hl.1 rfl (lv_room (Nat.le_of_ble_eq_true rfl)) dX10_count_62 ⟨Nat.le_of_ble_eq_true rfl, Nat.le_of_ble_eq_true rfl⟩) ?_
    cases Option.some.inj hf
    subst hQe
    exact en_i hx hb hr hlocks dX10_count_65
  have hf := it_f hf s2
  by_cases s3 : p1 = 2
  · have hf := it_t hf s3
    refine lv_tableIn (tgt := 66) (off := 65) hx hb dX10_count_1 (by rw [s3]; decide) (by rw [s3]; decide) (by rw [s3]; rfl) rfl ?_
    refine lv_aload_n hx hb dX10_count_66 rfl (lv_at hl 0 rfl) ?_
    refine va_get (D := E.1) (ci := 8) (v := .ref (a0 26)) (C := RX10) (T := TX10) (N := 8) hx hb hts w2 hown hC.1 hP 0 rfl rfl 3 (by decide) w1 (fun _ h9 => h9) rfl dX10_count_67 ?_
    refine va_get (D := E.1) (ci := 4) (v := .ref (a0 39)) (C := RX5) (T := TX5) (N := 9) hx hb hts w4 hown hC.1 hP 26 rfl rfl 8 (by decide) w7 (fun _ h9 => h9) rfl dX10_count_70 ?_
    refine lv_iconst (v := 1) hx hb dX10_count_73 rfl ?_
    obtain ⟨r4, e4, hf⟩ := bd_some hf
    refine cr_i (va_runV (As := [.int (1 : Int32)]) (rest := []) ⟨hx, hb, hml, hown, hts⟩ (c_X3_manyOf l E (fun k => a0 (k + 39)) v0.2.2.2.1.2.2.2.2.2.2.2.2 (1 : Int32) r4 e4) (cwV 1 hts gX10_count_X3_manyOf rfl rfl rfl hdV_X3_manyOf ⟨Nat.le_of_ble_eq_true rfl, Nat.le_of_ble_eq_true rfl⟩) ⟨PR.blind, va_recv hC.1 hP (ci := 3) (q0 := 39) rfl rfl, PR.pre hC hS (hP.sub [39, 40, 41, 42, 43, 44] rfl)⟩ rfl rfl hl.1 rfl (lv_room (Nat.le_of_ble_eq_true rfl)) dX10_count_74 ⟨Nat.le_of_ble_eq_true rfl, Nat.le_of_ble_eq_true rfl⟩) ?_
    cases Option.some.inj hf
    subst hQe
    exact en_i hx hb hr hlocks dX10_count_77
  have hf := it_f hf s3
  by_cases s5 : p1 = 3
  · have hf := it_t hf s5
    refine lv_tableIn (tgt := 78) (off := 77) hx hb dX10_count_1 (by rw [s5]; decide) (by rw [s5]; decide) (by rw [s5]; rfl) rfl ?_
    refine lv_aload_n hx hb dX10_count_78 rfl (lv_at hl 0 rfl) ?_
    refine va_get (D := E.1) (ci := 8) (v := .ref (a0 26)) (C := RX10) (T := TX10) (N := 8) hx hb hts w2 hown hC.1 hP 0 rfl rfl 3 (by decide) w1 (fun _ h9 => h9) rfl dX10_count_79 ?_
    refine va_get (D := E.1) (ci := 4) (v := .ref (a0 39)) (C := RX5) (T := TX5) (N := 9) hx hb hts w4 hown hC.1 hP 26 rfl rfl 8 (by decide) w7 (fun _ h9 => h9) rfl dX10_count_82 ?_
    refine lv_iconst (v := 2) hx hb dX10_count_85 rfl ?_
    obtain ⟨r6, e6, hf⟩ := bd_some hf
    refine cr_i (va_runV (As := [.int (2 : Int32)]) (rest := []) ⟨hx, hb, hml, hown, hts⟩ (c_X3_manyOf l E (fun k => a0 (k + 39)) v0.2.2.2.1.2.2.2.2.2.2.2.2 (2 : Int32) r6 e6) (cwV 1 hts gX10_count_X3_manyOf rfl rfl rfl hdV_X3_manyOf ⟨Nat.le_of_ble_eq_true rfl, Nat.le_of_ble_eq_true rfl⟩) ⟨PR.blind, va_recv hC.1 hP (ci := 3) (q0 := 39) rfl rfl, PR.pre hC hS (hP.sub [39, 40, 41, 42, 43, 44] rfl)⟩ rfl rfl hl.1 rfl (lv_room (Nat.le_of_ble_eq_true rfl)) dX10_count_86 ⟨Nat.le_of_ble_eq_true rfl, Nat.le_of_ble_eq_true rfl⟩) ?_
    cases Option.some.inj hf
    subst hQe
    exact en_i hx hb hr hlocks dX10_count_89
  have hf := it_f hf s5
  by_cases s7 : p1 = 4
  · have hf := it_t hf s7
    refine lv_tableIn (tgt := 90) (off := 89) hx hb dX10_count_1 (by rw [s7]; decide) (by rw [s7]; decide) (by rw [s7]; rfl) rfl ?_
    refine lv_aload_n hx hb dX10_count_90 rfl (lv_at hl 0 rfl) ?_
    refine va_get (D := E.1) (ci := 8) (v := .ref (a0 26)) (C := RX10) (T := TX10) (N := 8) hx hb hts w2 hown hC.1 hP 0 rfl rfl 3 (by decide) w1 (fun _ h9 => h9) rfl dX10_count_91 ?_
    refine va_get (D := E.1) (ci := 4) (v := .ref (a0 30)) (C := RX5) (T := TX5) (N := 9) hx hb hts w4 hown hC.1 hP 26 rfl rfl 6 (by decide) w8 (fun _ h9 => h9) rfl dX10_count_94 ?_
    refine va_get (D := E.1) (ci := 1) (v := .int v0.2.2.2.1.2.2.2.2.2.2.1.1) (C := RX1) (T := TX1) (N := 5) hx hb hts w10 hown hC.1 hP 30 rfl rfl 0 (by decide) w9 (fun _ h9 => h9) rfl dX10_count_97 ?_
    cases Option.some.inj hf
    subst hQe
    exact en_i hx hb hr hlocks dX10_count_100
  have hf := it_f hf s7
  by_cases s8 : p1 = 5
  · have hf := it_t hf s8
    refine lv_tableIn (tgt := 101) (off := 100) hx hb dX10_count_1 (by rw [s8]; decide) (by rw [s8]; decide) (by rw [s8]; rfl) rfl ?_
    refine lv_aload_n hx hb dX10_count_101 rfl (lv_at hl 0 rfl) ?_
    refine va_get (D := E.1) (ci := 8) (v := .ref (a0 24)) (C := RX10) (T := TX10) (N := 8) hx hb hts w2 hown hC.1 hP 0 rfl rfl 2 (by decide) w11 (fun _ h9 => h9) rfl dX10_count_102 ?_
    refine va_get (D := E.1) (ci := 0) (v := .int v0.2.2.1.2.2) (C := RX0) (T := TX0) (N := 3) hx hb hts w13 hown hC.1 hP 24 rfl rfl 2 (by decide) w12 (fun _ h9 => h9) rfl dX10_count_105 ?_
    cases Option.some.inj hf
    subst hQe
    exact en_i hx hb hr hlocks dX10_count_108
  have hf := it_f hf s8
  by_cases s9 : p1 = 6
  · have hf := it_t hf s9
    refine lv_tableIn (tgt := 109) (off := 108) hx hb dX10_count_1 (by rw [s9]; decide) (by rw [s9]; decide) (by rw [s9]; rfl) rfl ?_
    refine lv_aload_n hx hb dX10_count_109 rfl (lv_at hl 0 rfl) ?_
    refine va_get (D := E.1) (ci := 8) (v := .ref (a0 2)) (C := RX10) (T := TX10) (N := 8) hx hb hts w2 hown hC.1 hP 0 rfl rfl 1 (by decide) w14 (fun _ h9 => h9) rfl dX10_count_110 ?_
    refine va_get (D := E.1) (ci := 7) (v := .int v0.1.1.2) (C := RX9) (T := TX9) (N := 2) hx hb hts w16 hown hC.1 hP 2 rfl rfl 1 (by decide) w15 (fun _ h9 => h9) rfl dX10_count_113 ?_
    cases Option.some.inj hf
    subst hQe
    exact en_i hx hb hr hlocks dX10_count_116
  have hf := it_f hf s9
  refine lv_tableOut (tgt := 117) hx hb dX10_count_1 (sw_out (x := p1) 6 (by decide) (fun k hk => match k, hk with | 0, _ => s1 | 1, _ => s2 | 2, _ => s3 | 3, _ => s5 | 4, _ => s7 | 5, _ => s8 | 6, _ => s9 | k + 7, hk => absurd hk (by omega))) rfl ?_
  refine lv_ldc hx hb hown w17 dX10_count_117 ?_
  cases Option.some.inj hf
  subst hQe
  exact en_i hx hb hr hlocks dX10_count_119
