theorem perm_s {α : Type} (A B : List α) {C D R : List α} (h : C.Perm (D ++ R)) : (A ++ (B ++ C)).Perm ((A ++ (B ++ D)) ++ R) := by
  rw [List.append_assoc, List.append_assoc]
  exact (h.append_left B).append_left A
theorem perm_n {α : Type} (A B C D : List α) : ((A ++ (B ++ C)) ++ D).Perm ((A ++ (B ++ D)) ++ C) := by
  rw [List.append_assoc, List.append_assoc, List.append_assoc, List.append_assoc]
  exact (List.perm_append_comm.append_left B).append_left A
theorem bt_open {α β : Type} {a : α} {k : α → β} {x : β} (h : bt a k = x) : k a = x := h
set_option maxRecDepth 100000 in
theorem hxf : f_J7_fill_53178 150 z32 (-1) = some xf := by
  have h : (f_J7_fill_53178 150 z32 (-1)).isSome = true := by decide +kernel
  unfold xf
  cases e : f_J7_fill_53178 150 z32 (-1) with
  | none => rw [e] at h; cases h
  | some y => rfl
abbrev rmX0_keep : Room := { frames := 3, cells := 19, slots := 1854, locals := 102 }
theorem hdS_X0_keep : yX0_keep.cls ≠ "java/lang/invoke/MethodHandle" ∧ yX0_keep.cls ≠ "java/lang/invoke/VarHandle" ∧ (parseMethodDescriptor yX0_keep.desc).map (fun d => d.parameters.length) = some 1 := by decide +kernel
theorem hdV_X0_keep : yX0_keep.cls = RX0 ∧ yX0_keep.cls ≠ "java/lang/invoke/MethodHandle" ∧ yX0_keep.cls ≠ "java/lang/invoke/VarHandle" ∧ (parseMethodDescriptor yX0_keep.desc).map (fun d => d.parameters.length) = some 1 := ⟨rfl, hdS_X0_keep⟩
set_option maxHeartbeats 4000000 in
set_option maxRecDepth 100000 in
theorem c_X0_keep (l : Launch) (E : G0) (sz : Nat) (a : Nat → Nat) (db : Nat → Nat → Nat) (ac : ACT) (v : HS) (x : ACT) (hf : f_X0_keep ac v = some x) : Met l yX0_keep wsX0_keep rmX0_keep (va_Pc [.ref (a 0), .ref (a 2)] (PW E (wAK E a db ac v) sz)) (va_Qv (fun q : (Nat → Nat → Nat) × ACT => q.2 = x) (fun q t => va_P E.1 vwCl (wAK E a q.1 q.2 v) t.heap ∧ va_D (va_A (wAK E a db ac v) sz) (wAK E a q.1 q.2 v)) (va_A (wAK E a db ac v) sz)) 19 1854 (va_A (wAK E a db ac v) sz) := by
  refine Met.ofW (cc := cX0_keep) (maxL := 2) (ret := none) (by decide) rfl ?_
  intro p e s m args below meth c s₁ B hml hv
  obtain ⟨ha, hsz, hP, hD0, hC⟩ := hv
  have hx := B.exec
  have hb := B.bytes
  have hr := B.returns
  have hts := atoms_spec (ws := wsX0_keep) B.pre
  have hown : s.vm.findClass RX0 = some m.cls := findClass_of_methodNamed B.named
  have hlocks := B.notSynchronized
  subst hsz
  have hD := hD0.self (sz := s.heap.size)
  generalize hAe : va_A (wAK E a db ac v) s.heap.size = A at hD hC ⊢
  have hA : ∀ q : Nat, s.heap.size ≤ q → A q := fun q h => by rw [← hAe]; exact Or.inr h
  have hS : va_S A s.heap s.heap [] := va_S.rf
  have w1 : ∀ w ∈ wsX00, w ∈ wsX0_keep := in_pl 99 rfl
  have w2 : (Cond.fieldLink RX0 11 "GreatChunks$Acts" "before" "[LGreatChunks$House;").before args s = true := hts _ (List.mem_of_getElem? (i := 1) rfl)
  have w3 : (Cond.fieldLink RX0 17 "GreatChunks$Acts" "next" "I").before args s = true := hts _ (List.mem_of_getElem? (i := 2) rfl)
  have w4 : (Cond.fieldLink RX0 21 "GreatChunks$Acts" "kept" "I").before args s = true := hts _ (List.mem_of_getElem? (i := 6) rfl)
  have w5 : (Cond.methodLink RX0 29 Lib.Math.min.name).before args s = true := hts _ (List.mem_of_getElem? (i := 7) rfl)
  have w6 : (Cond.static Lib.Math.min.name).before args s = true := hts _ (List.mem_of_getElem? (i := 8) rfl)
  have w7 : (Cond.initialized "java/lang/Math").before args s = true := hts _ (List.mem_of_getElem? (i := 9) rfl)
  have w8 : (Cond.code Lib.Math.min.name Lib.Math.min.code 2 (some .int)).before args s = true := hts _ (List.mem_of_getElem? (i := 10) rfl)
  have w9 : (Cond.classLink RX0 9 RX5).before args s = true := hts _ (List.mem_of_getElem? (i := 3) rfl)
  have w10 : (Cond.instantiable RX5 9).before args s = true := hts _ (List.mem_of_getElem? (i := 4) rfl)
  have w11 : (Cond.initialized RX5).before args s = true := hts _ (List.mem_of_getElem? (i := 5) rfl)
  have w12 : ∀ w ∈ wsX50, w ∈ wsX0_keep := in_pl 102 rfl
  have w13 : (Cond.instanceMethod yX5_init).before args s = true := hts _ (List.mem_of_getElem? (i := 11) rfl)
  generalize hQe : MQ below (va_Qv (fun q : (Nat → Nat → Nat) × ACT => q.2 = x) (fun q t => va_P E.1 vwCl (wAK E a q.1 q.2 v) t.heap ∧ va_D A (wAK E a q.1 q.2 v)) A) args s 19 1854 A = Q
  refine st_W ha (Nat.le_of_ble_eq_true rfl) (fun ls hl => ?_)
  have hl : lv_has ls 2 [(0, .ref (a 0)), (1, .ref (a 2))] := hl
  unfold f_X0_keep at hf
  obtain ⟨hin, hf⟩ := gdI_some hf
  have hk6 : ac.2.1.toNatClampNeg < 6 := Nat.not_le.mp (fun q => hin (Or.inr q))
  obtain ⟨r1, e1, hf⟩ := bd_some hf
  have J28 : ∀ (b : Nat → Nat) (w : HS) (e1 : f_X5_become w v = some r1) (H : Heap) (locs : List Loc) (hP : va_P E.1 vwCl ((([(a 0, .inr (0, [.ref (a 1), .int ac.2.1, .int ac.2.2])), (a 1, .inl (E.2.1 3, 6, .inr (.inr (.inr (.inr (bfR (upO db ac.2.1.toNatClampNeg b) (upO ac.1 ac.2.1.toNatClampNeg (some w))))))))] : va_W) ++ (wHS E (fun k => a (k + 2)) v ++ wHS E b w)) ++ wDY E 6 db (upO ac.1 ac.2.1.toNatClampNeg none)) H) (hD : va_D A ((([(a 0, .inr (0, [.ref (a 1), .int ac.2.1, .int ac.2.2])), (a 1, .inl (E.2.1 3, 6, .inr (.inr (.inr (.inr (bfR (upO db ac.2.1.toNatClampNeg b) (upO ac.1 ac.2.1.toNatClampNeg (some w))))))))] : va_W) ++ (wHS E (fun k => a (k + 2)) v ++ wHS E b w)) ++ wDY E 6 db (upO ac.1 ac.2.1.toNatClampNeg none))) (hS : va_S A s.heap H locs), W p l e (headSpec wsX0_keep rmX0_keep).room s m args below meth c H locs 19 1854 Q (F0 m 28 ls []) := by
    intro b w e1 H locs hP hD hS
    have hbk : (bfR (upO db ac.2.1.toNatClampNeg b) (upO ac.1 ac.2.1.toNatClampNeg (some w))) ac.2.1.toNatClampNeg = some (b 0) := by rw [bfR_up]; exact if_pos rfl
    refine lv_aload_n hx hb dX0_keep_28 rfl (lv_at hl 0 rfl) ?_
    refine va_get (D := E.1) (ci := 0) (v := .ref (a 1)) (C := RX0) (T := TX0) (N := 3) hx hb hts w1 hown hC.1 hP 0 rfl rfl 0 (by decide) w2 (fun _ h9 => h9) rfl dX0_keep_29 ?_
    refine lv_aload_n hx hb dX0_keep_32 rfl (lv_at hl 0 rfl) ?_
    refine va_get (D := E.1) (ci := 0) (v := .int ac.2.1) (C := RX0) (T := TX0) (N := 3) hx hb hts w1 hown hC.1 hP 0 rfl rfl 1 (by decide) w3 (fun _ h9 => h9) rfl dX0_keep_33 ?_
    refine va_aldq hx hb hC.1 hP 1 3 rfl rfl hin dX0_keep_36 ?_
    rw [hbk]
    refine lv_aload_n hx hb dX0_keep_37 rfl (lv_at hl 1 rfl) ?_
    refine cqt_v (wc := (wHS E b w ++ wHS E (fun k => a (k + 2)) v)) hP hD hS hA [21, 22, 23, 24, 25, 26, 27, 28, 29, 30, 31, 32, 33, 34, 35, 36, 37, 38, 39, 2, 3, 4, 5, 6, 7, 8, 9, 10, 11, 12, 13, 14, 15, 16, 17, 18, 19, 20] [0, 1] (va_runV (As := [.ref (a 2)]) (rest := []) ⟨hx, hb, hml, hown, hts⟩ (c_X5_become l E H.size b w (fun k => a (k + 2)) v r1 e1) (cwV 1 hts gX0_keep_X5_become rfl rfl rfl hdV_X5_become ⟨Nat.le_of_ble_eq_true rfl, Nat.le_of_ble_eq_true rfl⟩) ⟨PW.blind, va_recv hC.1 hP (ci := 4) (q0 := 21) rfl rfl, PW.pre hC hS (hP.sub [21, 22, 23, 24, 25, 26, 27, 28, 29, 30, 31, 32, 33, 34, 35, 36, 37, 38, 39, 2, 3, 4, 5, 6, 7, 8, 9, 10, 11, 12, 13, 14, 15, 16, 17, 18, 19, 20] rfl) (hD.sub [21, 22, 23, 24, 25, 26, 27, 28, 29, 30, 31, 32, 33, 34, 35, 36, 37, 38, 39, 2, 3, 4, 5, 6, 7, 8, 9, 10, 11, 12, 13, 14, 15, 16, 17, 18, 19, 20] rfl rfl) (va_free hD hS hA [21, 22, 23, 24, 25, 26, 27, 28, 29, 30, 31, 32, 33, 34, 35, 36, 37, 38, 39, 2, 3, 4, 5, 6, 7, 8, 9, 10, 11, 12, 13, 14, 15, 16, 17, 18, 19, 20] rfl)⟩ rfl rfl hl.1 rfl (lv_room (Nat.le_of_ble_eq_true rfl)) dX0_keep_38 ⟨Nat.le_of_ble_eq_true rfl, Nat.le_of_ble_eq_true rfl⟩) 40 rfl (by decide +kernel) rfl ([(a 0, .inr (0, [.ref (a 1), .int ac.2.1, .int ac.2.2])), (a 1, .inl (E.2.1 3, 6, .inr (.inr (.inr (.inr (bfR (upO db ac.2.1.toNatClampNeg b) (upO ac.1 ac.2.1.toNatClampNeg (some w))))))))] ++ (wHS E (fun k => a (k + 2)) v ++ wHS E b r1)) rfl rfl (fun H locs hP hD hS => ?_)
    refine lv_aload_n hx hb dX0_keep_41 rfl (lv_at hl 0 rfl) ?_
    refine lv_aload_n hx hb dX0_keep_42 rfl (lv_at hl 0 rfl) ?_
    refine va_get (D := E.1) (ci := 0) (v := .int ac.2.1) (C := RX0) (T := TX0) (N := 3) hx hb hts w1 hown hC.1 hP 0 rfl rfl 1 (by decide) w3 (fun _ h9 => h9) rfl dX0_keep_43 ?_
    refine lv_iconst (v := 1) hx hb dX0_keep_46 rfl ?_
    refine lv_iadd hx hb dX0_keep_47 ?_
    refine lv_bipush (v := 6) hx hb dX0_keep_48 rfl ?_
    have J63 : ∀ (nx : Int32) (hn : nx = (if (6 : Int32) ≤ ac.2.1 + 1 then (0 : Int32) else ac.2.1 + 1)), W p l e (headSpec wsX0_keep rmX0_keep).room s m args below meth c H locs 19 1854 Q (F0 m 63 ls [.int nx, .ref (a 0)]) := by
      intro nx hn
      refine va_put (D := E.1) (ci := 0) (v := .int nx) (ty := .int) (C := RX0) (T := TX0) (N := 3) hx hb hts w1 tyX0 tyX0_ok nmX0 hown hC.1 hP hD hS 0 rfl rfl 1 (by decide) w3 (fun _ h9 => h9) rfl (by decide +kernel) rfl rfl (Nat.le_of_ble_eq_true rfl) dX0_keep_63 (fun H locs hP hD hS => ?_)
      have hP : va_P E.1 vwCl ((([(a 0, .inr (0, [.ref (a 1), .int nx, .int ac.2.2])), (a 1, .inl (E.2.1 3, 6, .inr (.inr (.inr (.inr (bfR (upO db ac.2.1.toNatClampNeg b) (upO ac.1 ac.2.1.toNatClampNeg (some w))))))))] : va_W) ++ (wHS E (fun k => a (k + 2)) v ++ wHS E b r1)) ++ wDY E 6 db (upO ac.1 ac.2.1.toNatClampNeg none)) H := hP
      have hD : va_D A ((([(a 0, .inr (0, [.ref (a 1), .int nx, .int ac.2.2])), (a 1, .inl (E.2.1 3, 6, .inr (.inr (.inr (.inr (bfR (upO db ac.2.1.toNatClampNeg b) (upO ac.1 ac.2.1.toNatClampNeg (some w))))))))] : va_W) ++ (wHS E (fun k => a (k + 2)) v ++ wHS E b r1)) ++ wDY E 6 db (upO ac.1 ac.2.1.toNatClampNeg none)) := hD
      refine lv_aload_n hx hb dX0_keep_66 rfl (lv_at hl 0 rfl) ?_
      refine lv_aload_n hx hb dX0_keep_67 rfl (lv_at hl 0 rfl) ?_
      refine va_get (D := E.1) (ci := 0) (v := .int ac.2.2) (C := RX0) (T := TX0) (N := 3) hx hb hts w1 hown hC.1 hP 0 rfl rfl 2 (by decide) w4 (fun _ h9 => h9) rfl dX0_keep_68 ?_
      refine lv_iconst (v := 1) hx hb dX0_keep_71 rfl ?_
      refine lv_iadd hx hb dX0_keep_72 ?_
      refine lv_bipush (v := 6) hx hb dX0_keep_73 rfl ?_
      refine va_mmin hx hb (by rw [hml]; exact hl.1.symm) hown w5 w6 w7 w8 (Nat.le_of_ble_eq_true rfl) (Nat.le_of_ble_eq_true rfl) (Nat.le_of_ble_eq_true rfl) (Nat.le_of_ble_eq_true rfl) dX0_keep_75 ?_
      refine va_put (D := E.1) (ci := 0) (v := .int (if (6 : Int32) < ac.2.2 + 1 then (6 : Int32) else ac.2.2 + 1)) (ty := .int) (C := RX0) (T := TX0) (N := 3) hx hb hts w1 tyX0 tyX0_ok nmX0 hown hC.1 hP hD hS 0 rfl rfl 2 (by decide) w4 (fun _ h9 => h9) rfl (by decide +kernel) rfl rfl (Nat.le_of_ble_eq_true rfl) dX0_keep_78 (fun H locs hP hD hS => ?_)
      have hP : va_P E.1 vwCl ((([(a 0, .inr (0, [.ref (a 1), .int nx, .int (if (6 : Int32) < ac.2.2 + 1 then (6 : Int32) else ac.2.2 + 1)])), (a 1, .inl (E.2.1 3, 6, .inr (.inr (.inr (.inr (bfR (upO db ac.2.1.toNatClampNeg b) (upO ac.1 ac.2.1.toNatClampNeg (some w))))))))] : va_W) ++ (wHS E (fun k => a (k + 2)) v ++ wHS E b r1)) ++ wDY E 6 db (upO ac.1 ac.2.1.toNatClampNeg none)) H := hP
      have hD : va_D A ((([(a 0, .inr (0, [.ref (a 1), .int nx, .int (if (6 : Int32) < ac.2.2 + 1 then (6 : Int32) else ac.2.2 + 1)])), (a 1, .inl (E.2.1 3, 6, .inr (.inr (.inr (.inr (bfR (upO db ac.2.1.toNatClampNeg b) (upO ac.1 ac.2.1.toNatClampNeg (some w))))))))] : va_W) ++ (wHS E (fun k => a (k + 2)) v ++ wHS E b r1)) ++ wDY E 6 db (upO ac.1 ac.2.1.toNatClampNeg none)) := hD
      subst hn
      cases Option.some.inj hf
      have hbe : bfR (upO db ac.2.1.toNatClampNeg b) (upO ac.1 ac.2.1.toNatClampNeg (some w)) = bfR (upO db ac.2.1.toNatClampNeg b) (upO ac.1 ac.2.1.toNatClampNeg (some r1)) := by rw [bfR_up, bfR_up]
      rw [hbe] at hP hD
      have hpm : ((([(a 0, .inr (0, [.ref (a 1), .int (if (6 : Int32) ≤ ac.2.1 + 1 then (0 : Int32) else ac.2.1 + 1), .int (if (6 : Int32) < ac.2.2 + 1 then (6 : Int32) else ac.2.2 + 1)])), (a 1, .inl (E.2.1 3, 6, .inr (.inr (.inr (.inr (bfR (upO db ac.2.1.toNatClampNeg b) (upO ac.1 ac.2.1.toNatClampNeg (some r1))))))))] : va_W) ++ (wHS E (fun k => a (k + 2)) v ++ wHS E b r1)) ++ wDY E 6 db (upO ac.1 ac.2.1.toNatClampNeg none)).Perm (wAK E a (upO db ac.2.1.toNatClampNeg b) (upO ac.1 ac.2.1.toNatClampNeg (some r1), (if (6 : Int32) ≤ ac.2.1 + 1 then (0 : Int32) else ac.2.1 + 1), (if (6 : Int32) < ac.2.2 + 1 then (6 : Int32) else ac.2.2 + 1)) v) := by
        exact (perm_s _ (wHS E (fun k => a (k + 2)) v) (wDY_perm (E := E) (da := db) (D := ac.1) hk6 b (some r1))).symm
      subst hQe
      exact W.vret hx hb hr (fun t ht _ => ⟨⟨(upO db ac.2.1.toNatClampNeg b, (upO ac.1 ac.2.1.toNatClampNeg (some r1), (if (6 : Int32) ≤ ac.2.1 + 1 then (0 : Int32) else ac.2.1 + 1), (if (6 : Int32) < ac.2.2 + 1 then (6 : Int32) else ac.2.2 + 1))), rfl, rfl, by rw [ht]; exact hP.perm hpm, hD.perm hpm⟩, hS.F ht⟩) hS.2.2 dX0_keep_81 hlocks
    refine lv_icmp_ge (tgt := 62) hx hb dX0_keep_50 rfl (fun c6 => ?_) (fun c6 => ?_)
    · refine lv_iconst (v := 0) hx hb dX0_keep_62 rfl ?_
      exact J63 0 (by rw [if_pos c6])
    · refine lv_aload_n hx hb dX0_keep_53 rfl (lv_at hl 0 rfl) ?_
      refine va_get (D := E.1) (ci := 0) (v := .int ac.2.1) (C := RX0) (T := TX0) (N := 3) hx hb hts w1 hown hC.1 hP 0 rfl rfl 1 (by decide) w3 (fun _ h9 => h9) rfl dX0_keep_54 ?_
      refine lv_iconst (v := 1) hx hb dX0_keep_57 rfl ?_
      refine lv_iadd hx hb dX0_keep_58 ?_
      refine lv_goto (tgt := 63) hx hb dX0_keep_59 rfl ?_
      exact J63 _ (by rw [if_neg c6])
  refine lv_aload_n hx hb dX0_keep_0 rfl (lv_at hl 0 rfl) ?_
  refine va_get (D := E.1) (ci := 0) (v := .ref (a 1)) (C := RX0) (T := TX0) (N := 3) hx hb hts w1 hown hC.1 hP 0 rfl rfl 0 (by decide) w2 (fun _ h9 => h9) rfl dX0_keep_1 ?_
  refine lv_aload_n hx hb dX0_keep_4 rfl (lv_at hl 0 rfl) ?_
  refine va_get (D := E.1) (ci := 0) (v := .int ac.2.1) (C := RX0) (T := TX0) (N := 3) hx hb hts w1 hown hC.1 hP 0 rfl rfl 1 (by decide) w3 (fun _ h9 => h9) rfl dX0_keep_5 ?_
  refine va_aldq hx hb hC.1 hP 1 3 rfl rfl hin dX0_keep_8 ?_
  cases hDk : ac.1 ac.2.1.toNatClampNeg with
  | some w =>
    have hbk : bfR db ac.1 ac.2.1.toNatClampNeg = some (db ac.2.1.toNatClampNeg 0) := by unfold bfR; rw [hDk]; rfl
    rw [hbk]
    refine lv_ifnonnull (tgt := 28) hx hb dX0_keep_9 rfl ?_
    rw [hDk] at e1
    have hfe : bfR db ac.1 = bfR (upO db ac.2.1.toNatClampNeg (db ac.2.1.toNatClampNeg)) (upO ac.1 ac.2.1.toNatClampNeg (some w)) := by rw [upO_id, bfR_same _ _ _ w w hDk]
    have hpm : (wAK E a db ac v).Perm ((([(a 0, .inr (0, [.ref (a 1), .int ac.2.1, .int ac.2.2])), (a 1, .inl (E.2.1 3, 6, .inr (.inr (.inr (.inr (bfR db ac.1))))))] : va_W) ++ (wHS E (fun k => a (k + 2)) v ++ wHS E (db ac.2.1.toNatClampNeg) w)) ++ wDY E 6 db (upO ac.1 ac.2.1.toNatClampNeg none)) := by
      have h9 := wDY_slot (E := E) (da := db) (D := ac.1) hk6
      rw [hDk] at h9
      exact perm_s _ (wHS E (fun k => a (k + 2)) v) h9
    have hP := hP.perm hpm
    have hD := hD.perm hpm
    rw [hfe] at hP hD
    exact W.widen (k := 19) (n := 1854) (Nat.le_of_ble_eq_true rfl) (Nat.le_of_ble_eq_true rfl) (J28 (db ac.2.1.toNatClampNeg) w e1 _ _ hP hD hS)
  | none =>
    have hbk : bfR db ac.1 ac.2.1.toNatClampNeg = none := by unfold bfR; rw [hDk]; rfl
    rw [hbk]
    refine lv_ifnonnullN hx hb dX0_keep_9 ?_
    rw [hDk] at e1
    refine lv_aload_n hx hb dX0_keep_12 rfl (lv_at hl 0 rfl) ?_
    refine va_get (D := E.1) (ci := 0) (v := .ref (a 1)) (C := RX0) (T := TX0) (N := 3) hx hb hts w1 hown hC.1 hP 0 rfl rfl 0 (by decide) w2 (fun _ h9 => h9) rfl dX0_keep_13 ?_
    refine lv_aload_n hx hb dX0_keep_16 rfl (lv_at hl 0 rfl) ?_
    refine va_get (D := E.1) (ci := 0) (v := .int ac.2.1) (C := RX0) (T := TX0) (N := 3) hx hb hts w1 hown hC.1 hP 0 rfl rfl 1 (by decide) w3 (fun _ h9 => h9) rfl dX0_keep_17 ?_
    refine va_new (ci := 4) (C := RX5) (T := TX5) (N := 9) (fs := [.int 0, .int 0, .int 0, .int 0, .int 0, .null, .null, .null, .null]) hx hb hts w12 tyX5 tyX5_ok hown w9 w10 w11 hC.1 hP hD hS hA rfl (by decide) (Nat.le_of_ble_eq_true rfl) (Nat.le_of_ble_eq_true rfl) dX0_keep_20 (fun q H hP hD hS => ?_)
    refine lv_dup hx hb dX0_keep_23 rfl ?_
    refine cp_v (wc := [(q, .inr (4, [.int 0, .int 0, .int 0, .int 0, .int 0, .null, .null, .null, .null]))]) (wf := (fun b => wHS E b (HS0 xf))) hP hD hS hA (va_runIN (As := []) (rest := [.ref q, .int ac.2.1, .ref (a 1)]) ⟨hx, hb, hml, hown, hts⟩ (c_X5_init l E H.size q xf hxf) ⟨va_cnB 0 hts gX0_keep_X5_init_n24 rfl rfl rfl (hC.2.1 (RX0, 24, yX5_init, RX10) (List.mem_of_getElem? (i := 10) rfl)) w11 hdS_X5_init ⟨Nat.le_of_ble_eq_true rfl, Nat.le_of_ble_eq_true rfl⟩, rfl, w13⟩ ⟨PW.blind, PW.pre hC hS (va_P.of (fun z hz => hP.mem (List.mem_append_right _ hz))) hD.right (va_freeR hD hS hA)⟩ rfl rfl hl.1 rfl (lv_room (Nat.le_of_ble_eq_true rfl)) dX0_keep_24 ⟨Nat.le_of_ble_eq_true rfl, Nat.le_of_ble_eq_true rfl⟩) (fun b H locs hb0 hP2 hD2 hS2 => ?_)
    subst hb0
    have hP := hP2
    have hD := hD2
    have hS := hS2
    have hpm : (wAK E a db ac v ++ wHS E b (HS0 xf)).Perm ((([(a 0, .inr (0, [.ref (a 1), .int ac.2.1, .int ac.2.2])), (a 1, .inl (E.2.1 3, 6, .inr (.inr (.inr (.inr (bfR db ac.1))))))] : va_W) ++ (wHS E (fun k => a (k + 2)) v ++ wHS E b (HS0 xf))) ++ wDY E 6 db ac.1) := by
      exact perm_n _ (wHS E (fun k => a (k + 2)) v) _ _
    have hP := hP.perm hpm
    have hD := hD.perm hpm
    refine va_astq hx hb hC.1 hP hD hS 1 3 21 4 (r := (RX5, TX5, 9)) rfl rfl rfl rfl hin dX0_keep_27 (fun H locs hP hD hS => ?_)
    have hrs : wDY E 6 db ac.1 = wDY E 6 db (upO ac.1 ac.2.1.toNatClampNeg none) := by rw [← hDk, upO_id]
    have hfe : va_up (bfR db ac.1) ac.2.1.toNatClampNeg (some (b 0)) = bfR (upO db ac.2.1.toNatClampNeg b) (upO ac.1 ac.2.1.toNatClampNeg (some (HS0 xf))) := by rw [bfR_up]
    have hP : va_P E.1 vwCl ((([(a 0, .inr (0, [.ref (a 1), .int ac.2.1, .int ac.2.2])), (a 1, .inl (E.2.1 3, 6, .inr (.inr (.inr (.inr (va_up (bfR db ac.1) ac.2.1.toNatClampNeg (some (b 0))))))))] : va_W) ++ (wHS E (fun k => a (k + 2)) v ++ wHS E b (HS0 xf))) ++ wDY E 6 db ac.1) H := hP
    have hD : va_D A ((([(a 0, .inr (0, [.ref (a 1), .int ac.2.1, .int ac.2.2])), (a 1, .inl (E.2.1 3, 6, .inr (.inr (.inr (.inr (va_up (bfR db ac.1) ac.2.1.toNatClampNeg (some (b 0))))))))] : va_W) ++ (wHS E (fun k => a (k + 2)) v ++ wHS E b (HS0 xf))) ++ wDY E 6 db ac.1) := hD
    rw [hfe, hrs] at hP hD
    exact J28 b (HS0 xf) e1 _ _ hP hD hS
abbrev rmX0_takeBack : Room := { frames := 3, cells := 0, slots := 0, locals := 102 }
theorem hdS_X0_takeBack : yX0_takeBack.cls ≠ "java/lang/invoke/MethodHandle" ∧ yX0_takeBack.cls ≠ "java/lang/invoke/VarHandle" ∧ (parseMethodDescriptor yX0_takeBack.desc).map (fun d => d.parameters.length) = some 1 := by decide +kernel
theorem hdV_X0_takeBack : yX0_takeBack.cls = RX0 ∧ yX0_takeBack.cls ≠ "java/lang/invoke/MethodHandle" ∧ yX0_takeBack.cls ≠ "java/lang/invoke/VarHandle" ∧ (parseMethodDescriptor yX0_takeBack.desc).map (fun d => d.parameters.length) = some 1 := ⟨rfl, hdS_X0_takeBack⟩
set_option maxHeartbeats 4000000 in
set_option maxRecDepth 100000 in
theorem c_X0_takeBack (l : Launch) (E : G0) (sz : Nat) (a : Nat → Nat) (db : Nat → Nat → Nat) (ac : ACT) (v : HS) (x : Bool × ACT × HS) (hf : f_X0_takeBack ac v = some x) : Met l yX0_takeBack wsX0_takeBack rmX0_takeBack (va_Pc [.ref (a 0), .ref (a 2)] (PW E (wAK E a db ac v) sz)) (va_Qi (fun r (q : (Nat → Nat → Nat) × ACT × HS) => r = bI x.1 ∧ q.2 = x.2) (fun q t => va_P E.1 vwCl (wAK E a q.1 q.2.1 q.2.2) t.heap ∧ va_D (va_A (wAK E a db ac v) sz) (wAK E a q.1 q.2.1 q.2.2)) (va_A (wAK E a db ac v) sz)) 0 0 (va_A (wAK E a db ac v) sz) := by
  refine Met.ofW (cc := cX0_takeBack) (maxL := 3) (ret := some .boolean) (by decide) rfl ?_
  intro p e s m args below meth c s₁ B hml hv
  obtain ⟨ha, hsz, hP, hD0, hC⟩ := hv
  have hx := B.exec
  have hb := B.bytes
  have hr := B.returns
  have hts := atoms_spec (ws := wsX0_takeBack) B.pre
  have hown : s.vm.findClass RX0 = some m.cls := findClass_of_methodNamed B.named
  have hlocks := B.notSynchronized
  subst hsz
  have hD := hD0.self (sz := s.heap.size)
  generalize hAe : va_A (wAK E a db ac v) s.heap.size = A at hD hC ⊢
  have hA : ∀ q : Nat, s.heap.size ≤ q → A q := fun q h => by rw [← hAe]; exact Or.inr h
  have hS : va_S A s.heap s.heap [] := va_S.rf
  have w1 : ∀ w ∈ wsX00, w ∈ wsX0_takeBack := in_pl 62 rfl
  have w2 : (Cond.fieldLink RX0 21 "GreatChunks$Acts" "kept" "I").before args s = true := hts _ (List.mem_of_getElem? (i := 2) rfl)
  have w3 : (Cond.fieldLink RX0 11 "GreatChunks$Acts" "before" "[LGreatChunks$House;").before args s = true := hts _ (List.mem_of_getElem? (i := 3) rfl)
  have w4 : (Cond.fieldLink RX0 17 "GreatChunks$Acts" "next" "I").before args s = true := hts _ (List.mem_of_getElem? (i := 1) rfl)
  generalize hQe : MQ below (va_Qi (fun r (q : (Nat → Nat → Nat) × ACT × HS) => r = bI x.1 ∧ q.2 = x.2) (fun q t => va_P E.1 vwCl (wAK E a q.1 q.2.1 q.2.2) t.heap ∧ va_D A (wAK E a q.1 q.2.1 q.2.2)) A) args s 0 0 A = Q
  refine st_W ha (Nat.le_of_ble_eq_true rfl) (fun ls hl => ?_)
  have hl : lv_has ls 3 [(0, .ref (a 0)), (1, .ref (a 2))] := hl
  unfold f_X0_takeBack at hf
  have hf := bt_open hf
  have J17 : ∀ (lt : Int32) (hn : lt = (if ac.2.1 ≤ 0 then (5 : Int32) else ac.2.1 - 1)), W p l e (headSpec wsX0_takeBack rmX0_takeBack).room s m args below meth c s.heap [] 0 0 Q (F0 m 17 ls [.int lt]) := by
    intro lt hn
    rw [← hn] at hf
    refine lv_istore_n (lv' := [(2, .int lt), (0, .ref (a 0)), (1, .ref (a 2))]) hx hb dX0_takeBack_17 rfl hl (by decide) rfl (fun ls hl => ?_)
    refine lv_aload_n hx hb dX0_takeBack_18 rfl (lv_at hl 1 rfl) ?_
    refine va_get (D := E.1) (ci := 0) (v := .int ac.2.2) (C := RX0) (T := TX0) (N := 3) hx hb hts w1 hown hC.1 hP 0 rfl rfl 2 (by decide) w2 (fun _ h9 => h9) rfl dX0_takeBack_19 ?_
    refine lv_if_eq (tgt := 34) hx hb dX0_takeBack_22 rfl (fun c1 => ?_) (fun c1 => ?_)
    · have hf := it_t hf c1
      refine lv_iconst (v := 0) hx hb dX0_takeBack_34 rfl ?_
      cases Option.some.inj hf
      subst hQe
      exact W.zret hx hb hr (bI_nar false) (fun t ht _ => ⟨⟨bI false, (db, ac, v), rfl, ⟨rfl, rfl⟩, by rw [ht]; exact hP, hD⟩, hS.F ht⟩) hS.2.2 dX0_takeBack_35 hlocks
    · have hf := it_f hf c1
      obtain ⟨hin, hf⟩ := gdI_some hf
      have hk6 : lt.toNatClampNeg < 6 := Nat.not_le.mp (fun q => hin (Or.inr q))
      refine lv_aload_n hx hb dX0_takeBack_25 rfl (lv_at hl 1 rfl) ?_
      refine va_get (D := E.1) (ci := 0) (v := .ref (a 1)) (C := RX0) (T := TX0) (N := 3) hx hb hts w1 hown hC.1 hP 0 rfl rfl 0 (by decide) w3 (fun _ h9 => h9) rfl dX0_takeBack_26 ?_
      refine lv_iload_n hx hb dX0_takeBack_29 rfl (lv_at hl 0 rfl) ?_
      refine va_aldq hx hb hC.1 hP 1 3 rfl rfl hin dX0_takeBack_30 ?_
      cases hDk : ac.1 lt.toNatClampNeg with
      | none =>
        have hbk : bfR db ac.1 lt.toNatClampNeg = none := by unfold bfR; rw [hDk]; rfl
        rw [hbk]
        rw [hDk] at hf
        refine lv_ifnonnullN hx hb dX0_takeBack_31 ?_
        refine lv_iconst (v := 0) hx hb dX0_takeBack_34 rfl ?_
        cases Option.some.inj hf
        subst hQe
        exact W.zret hx hb hr (bI_nar false) (fun t ht _ => ⟨⟨bI false, (db, ac, v), rfl, ⟨rfl, rfl⟩, by rw [ht]; exact hP, hD⟩, hS.F ht⟩) hS.2.2 dX0_takeBack_35 hlocks
      | some w =>
        have hbk : bfR db ac.1 lt.toNatClampNeg = some (db lt.toNatClampNeg 0) := by unfold bfR; rw [hDk]; rfl
        rw [hbk]
        rw [hDk] at hf
        obtain ⟨r1, e1, hf⟩ := bd_some hf
        refine lv_ifnonnull (tgt := 36) hx hb dX0_takeBack_31 rfl ?_
        have hpm : (wAK E a db ac v).Perm ((([(a 0, .inr (0, [.ref (a 1), .int ac.2.1, .int ac.2.2])), (a 1, .inl (E.2.1 3, 6, .inr (.inr (.inr (.inr (bfR db ac.1))))))] : va_W) ++ (wHS E (fun k => a (k + 2)) v ++ wHS E (db lt.toNatClampNeg) w)) ++ wDY E 6 db (upO ac.1 lt.toNatClampNeg none)) := by
          have h9 := wDY_slot (E := E) (da := db) (D := ac.1) hk6
          rw [hDk] at h9
          exact perm_s _ (wHS E (fun k => a (k + 2)) v) h9
        have hP := hP.perm hpm
        have hD := hD.perm hpm
        refine lv_aload_n hx hb dX0_takeBack_36 rfl (lv_at hl 1 rfl) ?_
        refine lv_iload_n hx hb dX0_takeBack_37 rfl (lv_at hl 0 rfl) ?_
        refine va_put (D := E.1) (ci := 0) (v := .int lt) (ty := .int) (C := RX0) (T := TX0) (N := 3) hx hb hts w1 tyX0 tyX0_ok nmX0 hown hC.1 hP hD hS 0 rfl rfl 1 (by decide) w4 (fun _ h9 => h9) rfl (by decide +kernel) rfl rfl (Nat.le_of_ble_eq_true rfl) dX0_takeBack_38 (fun H locs hP hD hS => ?_)
        have hP : va_P E.1 vwCl ((([(a 0, .inr (0, [.ref (a 1), .int lt, .int ac.2.2])), (a 1, .inl (E.2.1 3, 6, .inr (.inr (.inr (.inr (bfR db ac.1))))))] : va_W) ++ (wHS E (fun k => a (k + 2)) v ++ wHS E (db lt.toNatClampNeg) w)) ++ wDY E 6 db (upO ac.1 lt.toNatClampNeg none)) H := hP
        have hD : va_D A ((([(a 0, .inr (0, [.ref (a 1), .int lt, .int ac.2.2])), (a 1, .inl (E.2.1 3, 6, .inr (.inr (.inr (.inr (bfR db ac.1))))))] : va_W) ++ (wHS E (fun k => a (k + 2)) v ++ wHS E (db lt.toNatClampNeg) w)) ++ wDY E 6 db (upO ac.1 lt.toNatClampNeg none)) := hD
        refine lv_aload_n hx hb dX0_takeBack_41 rfl (lv_at hl 1 rfl) ?_
        refine lv_dup hx hb dX0_takeBack_42 rfl ?_
        refine va_get (D := E.1) (ci := 0) (v := .int ac.2.2) (C := RX0) (T := TX0) (N := 3) hx hb hts w1 hown hC.1 hP 0 rfl rfl 2 (by decide) w2 (fun _ h9 => h9) rfl dX0_takeBack_43 ?_
        refine lv_iconst (v := 1) hx hb dX0_takeBack_46 rfl ?_
        refine lv_isub hx hb dX0_takeBack_47 ?_
        refine va_put (D := E.1) (ci := 0) (v := .int (ac.2.2 - 1)) (ty := .int) (C := RX0) (T := TX0) (N := 3) hx hb hts w1 tyX0 tyX0_ok nmX0 hown hC.1 hP hD hS 0 rfl rfl 2 (by decide) w2 (fun _ h9 => h9) rfl (by decide +kernel) rfl rfl (Nat.le_of_ble_eq_true rfl) dX0_takeBack_48 (fun H locs hP hD hS => ?_)
        have hP : va_P E.1 vwCl ((([(a 0, .inr (0, [.ref (a 1), .int lt, .int (ac.2.2 - 1)])), (a 1, .inl (E.2.1 3, 6, .inr (.inr (.inr (.inr (bfR db ac.1))))))] : va_W) ++ (wHS E (fun k => a (k + 2)) v ++ wHS E (db lt.toNatClampNeg) w)) ++ wDY E 6 db (upO ac.1 lt.toNatClampNeg none)) H := hP
        have hD : va_D A ((([(a 0, .inr (0, [.ref (a 1), .int lt, .int (ac.2.2 - 1)])), (a 1, .inl (E.2.1 3, 6, .inr (.inr (.inr (.inr (bfR db ac.1))))))] : va_W) ++ (wHS E (fun k => a (k + 2)) v ++ wHS E (db lt.toNatClampNeg) w)) ++ wDY E 6 db (upO ac.1 lt.toNatClampNeg none)) := hD
        refine lv_aload_n hx hb dX0_takeBack_51 rfl (lv_at hl 2 rfl) ?_
        refine lv_aload_n hx hb dX0_takeBack_52 rfl (lv_at hl 1 rfl) ?_
        refine va_get (D := E.1) (ci := 0) (v := .ref (a 1)) (C := RX0) (T := TX0) (N := 3) hx hb hts w1 hown hC.1 hP 0 rfl rfl 0 (by decide) w3 (fun _ h9 => h9) rfl dX0_takeBack_53 ?_
        refine lv_iload_n hx hb dX0_takeBack_56 rfl (lv_at hl 0 rfl) ?_
        refine va_aldq hx hb hC.1 hP 1 3 rfl rfl hin dX0_takeBack_57 ?_
        rw [hbk]
        refine cqt_v (wc := (wHS E (fun k => a (k + 2)) v ++ wHS E (db lt.toNatClampNeg) w)) hP hD hS hA [2, 3, 4, 5, 6, 7, 8, 9, 10, 11, 12, 13, 14, 15, 16, 17, 18, 19, 20, 21, 22, 23, 24, 25, 26, 27, 28, 29, 30, 31, 32, 33, 34, 35, 36, 37, 38, 39] [0, 1] (va_runV (As := [.ref (db lt.toNatClampNeg 0)]) (rest := []) ⟨hx, hb, hml, hown, hts⟩ (c_X5_become l E H.size (fun k => a (k + 2)) v (db lt.toNatClampNeg) w r1 e1) (cwV 1 hts gX0_takeBack_X5_become rfl rfl rfl hdV_X5_become ⟨Nat.le_of_ble_eq_true rfl, Nat.le_of_ble_eq_true rfl⟩) ⟨PW.blind, va_recv hC.1 hP (ci := 4) (q0 := 2) rfl rfl, PW.pre hC hS (hP.sub [2, 3, 4, 5, 6, 7, 8, 9, 10, 11, 12, 13, 14, 15, 16, 17, 18, 19, 20, 21, 22, 23, 24, 25, 26, 27, 28, 29, 30, 31, 32, 33, 34, 35, 36, 37, 38, 39] rfl) (hD.sub [2, 3, 4, 5, 6, 7, 8, 9, 10, 11, 12, 13, 14, 15, 16, 17, 18, 19, 20, 21, 22, 23, 24, 25, 26, 27, 28, 29, 30, 31, 32, 33, 34, 35, 36, 37, 38, 39] rfl rfl) (va_free hD hS hA [2, 3, 4, 5, 6, 7, 8, 9, 10, 11, 12, 13, 14, 15, 16, 17, 18, 19, 20, 21, 22, 23, 24, 25, 26, 27, 28, 29, 30, 31, 32, 33, 34, 35, 36, 37, 38, 39] rfl)⟩ rfl rfl hl.1 rfl (lv_room (Nat.le_of_ble_eq_true rfl)) dX0_takeBack_58 ⟨Nat.le_of_ble_eq_true rfl, Nat.le_of_ble_eq_true rfl⟩) 40 rfl (by decide +kernel) rfl ([(a 0, .inr (0, [.ref (a 1), .int lt, .int (ac.2.2 - 1)])), (a 1, .inl (E.2.1 3, 6, .inr (.inr (.inr (.inr (bfR db ac.1))))))] ++ (wHS E (fun k => a (k + 2)) r1 ++ wHS E (db lt.toNatClampNeg) w)) rfl rfl (fun H locs hP hD hS => ?_)
        refine lv_iconst (v := 1) hx hb dX0_takeBack_61 rfl ?_
        have hpm : ((([(a 0, .inr (0, [.ref (a 1), .int lt, .int (ac.2.2 - 1)])), (a 1, .inl (E.2.1 3, 6, .inr (.inr (.inr (.inr (bfR db ac.1))))))] : va_W) ++ (wHS E (fun k => a (k + 2)) r1 ++ wHS E (db lt.toNatClampNeg) w)) ++ wDY E 6 db (upO ac.1 lt.toNatClampNeg none)).Perm (wAK E a db (ac.1, lt, ac.2.2 - 1) r1) := by
          have h9 := wDY_slot (E := E) (da := db) (D := ac.1) hk6
          rw [hDk] at h9
          exact (perm_s _ (wHS E (fun k => a (k + 2)) r1) h9).symm
        have hP := hP.perm hpm
        have hD := hD.perm hpm
        cases Option.some.inj hf
        subst hQe
        exact W.zret hx hb hr (bI_nar true) (fun t ht _ => ⟨⟨bI true, (db, (ac.1, lt, ac.2.2 - 1), r1), rfl, ⟨rfl, rfl⟩, by rw [ht]; exact hP, hD⟩, hS.F ht⟩) hS.2.2 dX0_takeBack_62 hlocks
  refine lv_aload_n hx hb dX0_takeBack_0 rfl (lv_at hl 0 rfl) ?_
  refine va_get (D := E.1) (ci := 0) (v := .int ac.2.1) (C := RX0) (T := TX0) (N := 3) hx hb hts w1 hown hC.1 hP 0 rfl rfl 1 (by decide) w4 (fun _ h9 => h9) rfl dX0_takeBack_1 ?_
  refine lv_if_le (tgt := 16) hx hb dX0_takeBack_4 rfl (fun c6 => ?_) (fun c6 => ?_)
  · refine lv_iconst (v := 5) hx hb dX0_takeBack_16 rfl ?_
    exact J17 5 (by rw [if_pos c6])
  · refine lv_aload_n hx hb dX0_takeBack_7 rfl (lv_at hl 0 rfl) ?_
    refine va_get (D := E.1) (ci := 0) (v := .int ac.2.1) (C := RX0) (T := TX0) (N := 3) hx hb hts w1 hown hC.1 hP 0 rfl rfl 1 (by decide) w4 (fun _ h9 => h9) rfl dX0_takeBack_8 ?_
    refine lv_iconst (v := 1) hx hb dX0_takeBack_11 rfl ?_
    refine lv_isub hx hb dX0_takeBack_12 ?_
    refine lv_goto (tgt := 17) hx hb dX0_takeBack_13 rfl ?_
    exact J17 _ (by rw [if_neg c6])
