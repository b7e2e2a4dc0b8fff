/-! X11_chunk -/
abbrev rmX11_chunk : Room := { frames := 4, cells := 0, slots := 0, locals := 90 }
theorem hdS_X11_chunk : yX11_chunk.cls ≠ "java/lang/invoke/MethodHandle" ∧ yX11_chunk.cls ≠ "java/lang/invoke/VarHandle" ∧ (parseMethodDescriptor yX11_chunk.desc).map (fun d => d.parameters.length) = some 2 := by decide +kernel
theorem hdV_X11_chunk : yX11_chunk.cls = RX11 ∧ yX11_chunk.cls ≠ "java/lang/invoke/MethodHandle" ∧ yX11_chunk.cls ≠ "java/lang/invoke/VarHandle" ∧ (parseMethodDescriptor yX11_chunk.desc).map (fun d => d.parameters.length) = some 2 := ⟨rfl, hdS_X11_chunk⟩
set_option maxHeartbeats 4000000 in
set_option maxRecDepth 100000 in
theorem c_X11_chunk (l : Launch) (E : G0) (a0 : Nat → Nat) (v0 : MD) (p1 : Int32) (p2 : Int32) (x : Int32) (hf : f_X11_chunk v0 p1 p2 = some x) : Met l yX11_chunk wsX11_chunk rmX11_chunk (va_Pc [.ref (a0 0), .int p1, .int p2] (PR E (wMD E a0 v0))) (vp_Si (fun r => r = x)) 0 0 (fun _ => False) := by
  refine Met.ofW (cc := cX11_chunk) (maxL := 3) (ret := some .int) (by decide) rfl ?_
  intro p e s m args below meth c s₁ B hml hv
  obtain ⟨ha, hP, hC⟩ := hv
  have hx := B.exec
  have hb := B.bytes
  have hr := B.returns
  have hts := atoms_spec (ws := wsX11_chunk) B.pre
  have hown : s.vm.findClass RX11 = some m.cls := findClass_of_methodNamed B.named
  have hlocks := B.notSynchronized
  have hS : va_S (fun _ => False) s.heap s.heap [] := va_S.rf
  have w1 : (Cond.constant RX11 235 (-1000001)).before args s = true := hts _ (List.mem_of_getElem? (i := 1) rfl)
  have w2 : (Cond.fieldLink RX11 7 "GreatChunksModel" "now" "[J").before args s = true := hts _ (List.mem_of_getElem? (i := 2) rfl)
  have w3 : ∀ w ∈ wsX110, w ∈ wsX11_chunk := in_pl 41 rfl
  have w4 : (Cond.constant RX11 186 (-1000000)).before args s = true := hts _ (List.mem_of_getElem? (i := 3) rfl)
  generalize hQe : MQ below (vp_Si (fun r => r = x)) args s 0 0 (fun _ => False) = Q
  refine st_W ha (Nat.le_of_ble_eq_true rfl) (fun ls hl => ?_)
  have hl : lv_has ls 3 [(0, .ref (a0 0)), (1, .int p1), (2, .int p2)] := hl
  unfold f_X11_chunk at hf
  refine lv_aload_n hx hb dX11_chunk_0 rfl (lv_at hl 0 rfl) ?_
  refine lv_iload_n hx hb dX11_chunk_1 rfl (lv_at hl 1 rfl) ?_
  obtain ⟨r1, e1, hf⟩ := bd_some hf
  refine cr_i (va_runV (As := [.int p1]) (rest := []) ⟨hx, hb, hml, hown, hts⟩ (c_X11_isChunk l E a0 v0 p1 r1 e1) (cwV 1 hts gX11_chunk_X11_isChunk rfl rfl rfl hdV_X11_isChunk ⟨Nat.le_of_ble_eq_true rfl, Nat.le_of_ble_eq_true rfl⟩) ⟨PR.blind, va_recv hC.1 hP (ci := 9) (q0 := 0) rfl rfl, PR.pre hC hS hP⟩ rfl rfl hl.1 rfl (lv_room (Nat.le_of_ble_eq_true rfl)) dX11_chunk_2 ⟨Nat.le_of_ble_eq_true rfl, Nat.le_of_ble_eq_true rfl⟩) ?_
  refine lv_if_ne (tgt := 11) hx hb dX11_chunk_5 rfl (fun c2 => ?_) (fun c2 => ?_)
  · have hf := it_f hf c2
    refine lv_iload_n hx hb dX11_chunk_11 rfl (lv_at hl 2 rfl) ?_
    by_cases s3 : p2 = 0
    · have hf := it_t hf s3
      refine lv_tableIn (tgt := 56) (off := 44) hx hb dX11_chunk_12 (by rw [s3]; decide) (by rw [s3]; decide) (by rw [s3]; rfl) rfl ?_
      refine lv_aload_n hx hb dX11_chunk_56 rfl (lv_at hl 0 rfl) ?_
      refine va_get (D := E.1) (ci := 9) (v := .ref (a0 1)) (C := RX11) (T := TX11) (N := 17) hx hb hts w3 hown hC.1 hP 0 rfl rfl 0 (by decide) w2 (fun _ h9 => h9) rfl dX11_chunk_57 ?_
      refine lv_bipush (v := 70) hx hb dX11_chunk_60 rfl ?_
      refine lv_iconst (v := 4) hx hb dX11_chunk_62 rfl ?_
      refine lv_iload_n hx hb dX11_chunk_63 rfl (lv_at hl 1 rfl) ?_
      refine lv_imul hx hb dX11_chunk_64 ?_
      refine lv_iadd hx hb dX11_chunk_65 ?_
      refine lv_iconst (v := 0) hx hb dX11_chunk_66 rfl ?_
      refine lv_iadd hx hb dX11_chunk_67 ?_
      obtain ⟨h4, hf⟩ := gdI_some hf
      refine va_lald hx hb hC.1 hP 1 1 rfl rfl h4 dX11_chunk_68 ?_
      refine lv_l2i hx hb dX11_chunk_69 rfl ?_
      cases Option.some.inj hf
      subst hQe
      exact en_i hx hb hr hlocks dX11_chunk_70
    have hf := it_f hf s3
    by_cases s5 : p2 = 1
    · have hf := it_t hf s5
      refine lv_tableIn (tgt := 71) (off := 59) hx hb dX11_chunk_12 (by rw [s5]; decide) (by rw [s5]; decide) (by rw [s5]; rfl) rfl ?_
      refine lv_aload_n hx hb dX11_chunk_71 rfl (lv_at hl 0 rfl) ?_
      refine va_get (D := E.1) (ci := 9) (v := .ref (a0 1)) (C := RX11) (T := TX11) (N := 17) hx hb hts w3 hown hC.1 hP 0 rfl rfl 0 (by decide) w2 (fun _ h9 => h9) rfl dX11_chunk_72 ?_
      refine lv_bipush (v := 70) hx hb dX11_chunk_75 rfl ?_
      refine lv_iconst (v := 4) hx hb dX11_chunk_77 rfl ?_
      refine lv_iload_n hx hb dX11_chunk_78 rfl (lv_at hl 1 rfl) ?_
      refine lv_imul hx hb dX11_chunk_79 ?_
      refine lv_iadd hx hb dX11_chunk_80 ?_
      refine lv_iconst (v := 1) hx hb dX11_chunk_81 rfl ?_
      refine lv_iadd hx hb dX11_chunk_82 ?_
      obtain ⟨h6, hf⟩ := gdI_some hf
      refine va_lald hx hb hC.1 hP 1 1 rfl rfl h6 dX11_chunk_83 ?_
      refine lv_l2i hx hb dX11_chunk_84 rfl ?_
      cases Option.some.inj hf
      subst hQe
      exact en_i hx hb hr hlocks dX11_chunk_85
    have hf := it_f hf s5
    by_cases s7 : p2 = 2
    · have hf := it_t hf s7
      refine lv_tableIn (tgt := 86) (off := 74) hx hb dX11_chunk_12 (by rw [s7]; decide) (by rw [s7]; decide) (by rw [s7]; rfl) rfl ?_
      refine lv_aload_n hx hb dX11_chunk_86 rfl (lv_at hl 0 rfl) ?_
      refine va_get (D := E.1) (ci := 9) (v := .ref (a0 1)) (C := RX11) (T := TX11) (N := 17) hx hb hts w3 hown hC.1 hP 0 rfl rfl 0 (by decide) w2 (fun _ h9 => h9) rfl dX11_chunk_87 ?_
      refine lv_iload_n hx hb dX11_chunk_90 rfl (lv_at hl 1 rfl) ?_
      obtain ⟨r8, e8, hf⟩ := bd_some hf
      refine cr_i (va_runS (As := [.ref (a0 1), .int p1]) (rest := []) ⟨hx, hb, hml, hown, hts⟩ (c_X11_holds l E (a0 1) v0.1 p1 r8 e8) (va_cwS 2 hts gX11_chunk_X11_holds rfl rfl rfl hdS_X11_holds ⟨Nat.le_of_ble_eq_true rfl, Nat.le_of_ble_eq_true rfl⟩) ⟨PR.blind, PR.pre hC hS (hP.sub [1] rfl)⟩ rfl rfl hl.1 rfl (lv_room (Nat.le_of_ble_eq_true rfl)) dX11_chunk_91 ⟨Nat.le_of_ble_eq_true rfl, Nat.le_of_ble_eq_true rfl⟩) ?_
      refine lv_if_eq (tgt := 114) hx hb dX11_chunk_94 rfl (fun c9 => ?_) (fun c9 => ?_)
      · have hf := it_t hf c9
        refine lv_ldc hx hb hown w4 dX11_chunk_114 ?_
        cases Option.some.inj hf
        subst hQe
        exact en_i hx hb hr hlocks dX11_chunk_116
      · have hf := it_f hf c9
        refine lv_aload_n hx hb dX11_chunk_97 rfl (lv_at hl 0 rfl) ?_
        refine va_get (D := E.1) (ci := 9) (v := .ref (a0 1)) (C := RX11) (T := TX11) (N := 17) hx hb hts w3 hown hC.1 hP 0 rfl rfl 0 (by decide) w2 (fun _ h9 => h9) rfl dX11_chunk_98 ?_
        refine lv_bipush (v := 70) hx hb dX11_chunk_101 rfl ?_
        refine lv_iconst (v := 4) hx hb dX11_chunk_103 rfl ?_
        refine lv_iload_n hx hb dX11_chunk_104 rfl (lv_at hl 1 rfl) ?_
        refine lv_imul hx hb dX11_chunk_105 ?_
        refine lv_iadd hx hb dX11_chunk_106 ?_
        refine lv_iconst (v := 2) hx hb dX11_chunk_107 rfl ?_
        refine lv_iadd hx hb dX11_chunk_108 ?_
        obtain ⟨h10, hf⟩ := gdI_some hf
        refine va_lald hx hb hC.1 hP 1 1 rfl rfl h10 dX11_chunk_109 ?_
        refine lv_l2i hx hb dX11_chunk_110 rfl ?_
        refine lv_goto (tgt := 116) hx hb dX11_chunk_111 rfl ?_
        cases Option.some.inj hf
        subst hQe
        exact en_i hx hb hr hlocks dX11_chunk_116
    have hf := it_f hf s7
    by_cases s11 : p2 = 3
    · have hf := it_t hf s11
      refine lv_tableIn (tgt := 117) (off := 105) hx hb dX11_chunk_12 (by rw [s11]; decide) (by rw [s11]; decide) (by rw [s11]; rfl) rfl ?_
      refine lv_aload_n hx hb dX11_chunk_117 rfl (lv_at hl 0 rfl) ?_
      refine va_get (D := E.1) (ci := 9) (v := .ref (a0 1)) (C := RX11) (T := TX11) (N := 17) hx hb hts w3 hown hC.1 hP 0 rfl rfl 0 (by decide) w2 (fun _ h9 => h9) rfl dX11_chunk_118 ?_
      refine lv_iload_n hx hb dX11_chunk_121 rfl (lv_at hl 1 rfl) ?_
      obtain ⟨r12, e12, hf⟩ := bd_some hf
      refine cr_i (va_runS (As := [.ref (a0 1), .int p1]) (rest := []) ⟨hx, hb, hml, hown, hts⟩ (c_X11_holds l E (a0 1) v0.1 p1 r12 e12) (va_cwS 2 hts gX11_chunk_X11_holds rfl rfl rfl hdS_X11_holds ⟨Nat.le_of_ble_eq_true rfl, Nat.le_of_ble_eq_true rfl⟩) ⟨PR.blind, PR.pre hC hS (hP.sub [1] rfl)⟩ rfl rfl hl.1 rfl (lv_room (Nat.le_of_ble_eq_true rfl)) dX11_chunk_122 ⟨Nat.le_of_ble_eq_true rfl, Nat.le_of_ble_eq_true rfl⟩) ?_
      refine lv_if_eq (tgt := 145) hx hb dX11_chunk_125 rfl (fun c13 => ?_) (fun c13 => ?_)
      · have hf := it_t hf c13
        refine lv_ldc hx hb hown w4 dX11_chunk_145 ?_
        cases Option.some.inj hf
        subst hQe
        exact en_i hx hb hr hlocks dX11_chunk_147
      · have hf := it_f hf c13
        refine lv_aload_n hx hb dX11_chunk_128 rfl (lv_at hl 0 rfl) ?_
        refine va_get (D := E.1) (ci := 9) (v := .ref (a0 1)) (C := RX11) (T := TX11) (N := 17) hx hb hts w3 hown hC.1 hP 0 rfl rfl 0 (by decide) w2 (fun _ h9 => h9) rfl dX11_chunk_129 ?_
        refine lv_bipush (v := 70) hx hb dX11_chunk_132 rfl ?_
        refine lv_iconst (v := 4) hx hb dX11_chunk_134 rfl ?_
        refine lv_iload_n hx hb dX11_chunk_135 rfl (lv_at hl 1 rfl) ?_
        refine lv_imul hx hb dX11_chunk_136 ?_
        refine lv_iadd hx hb dX11_chunk_137 ?_
        refine lv_iconst (v := 3) hx hb dX11_chunk_138 rfl ?_
        refine lv_iadd hx hb dX11_chunk_139 ?_
        obtain ⟨h14, hf⟩ := gdI_some hf
        refine va_lald hx hb hC.1 hP 1 1 rfl rfl h14 dX11_chunk_140 ?_
        refine lv_l2i hx hb dX11_chunk_141 rfl ?_
        refine lv_goto (tgt := 147) hx hb dX11_chunk_142 rfl ?_
        cases Option.some.inj hf
        subst hQe
        exact en_i hx hb hr hlocks dX11_chunk_147
    have hf := it_f hf s11
    by_cases s15 : p2 = 4
    · have hf := it_t hf s15
      refine lv_tableIn (tgt := 148) (off := 136) hx hb dX11_chunk_12 (by rw [s15]; decide) (by rw [s15]; decide) (by rw [s15]; rfl) rfl ?_
      refine lv_aload_n hx hb dX11_chunk_148 rfl (lv_at hl 0 rfl) ?_
      refine lv_iload_n hx hb dX11_chunk_149 rfl (lv_at hl 1 rfl) ?_
      refine lv_iconst (v := 1) hx hb dX11_chunk_150 rfl ?_
      obtain ⟨r16, e16, hf⟩ := bd_some hf
      refine cr_i (va_runV (As := [.int p1, .int (1 : Int32)]) (rest := []) ⟨hx, hb, hml, hown, hts⟩ (c_X11_thoseWith l E a0 v0 p1 (1 : Int32) r16 e16) (cwV 2 hts gX11_chunk_X11_thoseWith rfl rfl rfl hdV_X11_thoseWith ⟨Nat.le_of_ble_eq_true rfl, Nat.le_of_ble_eq_true rfl⟩) ⟨PR.blind, va_recv hC.1 hP (ci := 9) (q0 := 0) rfl rfl, PR.pre hC hS hP⟩ rfl rfl hl.1 rfl (lv_room (Nat.le_of_ble_eq_true rfl)) dX11_chunk_151 ⟨Nat.le_of_ble_eq_true rfl, Nat.le_of_ble_eq_true rfl⟩) ?_
      cases Option.some.inj hf
      subst hQe
      exact en_i hx hb hr hlocks dX11_chunk_154
    have hf := it_f hf s15
    by_cases s17 : p2 = 5
    · have hf := it_t hf s17
      refine lv_tableIn (tgt := 155) (off := 143) hx hb dX11_chunk_12 (by rw [s17]; decide) (by rw [s17]; decide) (by rw [s17]; rfl) rfl ?_
      refine lv_aload_n hx hb dX11_chunk_155 rfl (lv_at hl 0 rfl) ?_
      refine lv_iload_n hx hb dX11_chunk_156 rfl (lv_at hl 1 rfl) ?_
      refine lv_iconst (v := 0) hx hb dX11_chunk_157 rfl ?_
      obtain ⟨r18, e18, hf⟩ := bd_some hf
      refine cr_i (va_runV (As := [.int p1, .int (0 : Int32)]) (rest := []) ⟨hx, hb, hml, hown, hts⟩ (c_X11_thoseWith l E a0 v0 p1 (0 : Int32) r18 e18) (cwV 2 hts gX11_chunk_X11_thoseWith rfl rfl rfl hdV_X11_thoseWith ⟨Nat.le_of_ble_eq_true rfl, Nat.le_of_ble_eq_true rfl⟩) ⟨PR.blind, va_recv hC.1 hP (ci := 9) (q0 := 0) rfl rfl, PR.pre hC hS hP⟩ rfl rfl hl.1 rfl (lv_room (Nat.le_of_ble_eq_true rfl)) dX11_chunk_158 ⟨Nat.le_of_ble_eq_true rfl, Nat.le_of_ble_eq_true rfl⟩) ?_
      cases Option.some.inj hf
      subst hQe
      exact en_i hx hb hr hlocks dX11_chunk_161
    have hf := it_f hf s17
    by_cases s19 : p2 = 6
    · have hf := it_t hf s19
      refine lv_tableIn (tgt := 162) (off := 150) hx hb dX11_chunk_12 (by rw [s19]; decide) (by rw [s19]; decide) (by rw [s19]; rfl) rfl ?_
      refine lv_aload_n hx hb dX11_chunk_162 rfl (lv_at hl 0 rfl) ?_
      refine va_get (D := E.1) (ci := 9) (v := .ref (a0 1)) (C := RX11) (T := TX11) (N := 17) hx hb hts w3 hown hC.1 hP 0 rfl rfl 0 (by decide) w2 (fun _ h9 => h9) rfl dX11_chunk_163 ?_
      refine lv_iload_n hx hb dX11_chunk_166 rfl (lv_at hl 1 rfl) ?_
      obtain ⟨r20, e20, hf⟩ := bd_some hf
      refine cr_i (va_runS (As := [.ref (a0 1), .int p1]) (rest := []) ⟨hx, hb, hml, hown, hts⟩ (c_X11_ables l E (a0 1) v0.1 p1 r20 e20) (va_cwS 2 hts gX11_chunk_X11_ables rfl rfl rfl hdS_X11_ables ⟨Nat.le_of_ble_eq_true rfl, Nat.le_of_ble_eq_true rfl⟩) ⟨PR.blind, PR.pre hC hS (hP.sub [1] rfl)⟩ rfl rfl hl.1 rfl (lv_room (Nat.le_of_ble_eq_true rfl)) dX11_chunk_167 ⟨Nat.le_of_ble_eq_true rfl, Nat.le_of_ble_eq_true rfl⟩) ?_
      cases Option.some.inj hf
      subst hQe
      exact en_i hx hb hr hlocks dX11_chunk_170
    have hf := it_f hf s19
    refine lv_tableOut (tgt := 171) hx hb dX11_chunk_12 (sw_out (x := p2) 6 (by decide) (fun k hk => match k, hk with | 0, _ => s3 | 1, _ => s5 | 2, _ => s7 | 3, _ => s11 | 4, _ => s15 | 5, _ => s17 | 6, _ => s19 | k + 7, hk => absurd hk (by omega))) rfl ?_
    refine lv_ldc hx hb hown w1 dX11_chunk_171 ?_
    cases Option.some.inj hf
    subst hQe
    exact en_i hx hb hr hlocks dX11_chunk_173
  · have hf := it_t hf c2
    refine lv_ldc hx hb hown w1 dX11_chunk_8 ?_
    cases Option.some.inj hf
    subst hQe
    exact en_i hx hb hr hlocks dX11_chunk_10

/-! X11_file -/
abbrev rmX11_file : Room := { frames := 2, cells := 0, slots := 0, locals := 45 }
theorem hdS_X11_file : yX11_file.cls ≠ "java/lang/invoke/MethodHandle" ∧ yX11_file.cls ≠ "java/lang/invoke/VarHandle" ∧ (parseMethodDescriptor yX11_file.desc).map (fun d => d.parameters.length) = some 2 := by decide +kernel
theorem hdV_X11_file : yX11_file.cls = RX11 ∧ yX11_file.cls ≠ "java/lang/invoke/MethodHandle" ∧ yX11_file.cls ≠ "java/lang/invoke/VarHandle" ∧ (parseMethodDescriptor yX11_file.desc).map (fun d => d.parameters.length) = some 2 := ⟨rfl, hdS_X11_file⟩
set_option maxHeartbeats 4000000 in
set_option maxRecDepth 100000 in
theorem c_X11_file (l : Launch) (E : G0) (a0 : Nat → Nat) (v0 : MD) (p1 : Int32) (p2 : Int32) (x : Int32) (hf : f_X11_file v0 p1 p2 = some x) : Met l yX11_file wsX11_file rmX11_file (va_Pc [.ref (a0 0), .int p1, .int p2] (PR E (wMD E a0 v0))) (vp_Si (fun r => r = x)) 0 0 (fun _ => False) := by
  refine Met.ofW (cc := cX11_file) (maxL := 4) (ret := some .int) (by decide) rfl ?_
  intro p e s m args below meth c s₁ B hml hv
  obtain ⟨ha, hP, hC⟩ := hv
  have hx := B.exec
  have hb := B.bytes
  have hr := B.returns
  have hts := atoms_spec (ws := wsX11_file) B.pre
  have hown : s.vm.findClass RX11 = some m.cls := findClass_of_methodNamed B.named
  have hlocks := B.notSynchronized
  have hS : va_S (fun _ => False) s.heap s.heap [] := va_S.rf
  have w1 : (Cond.constant RX11 261 (-1000002)).before args s = true := hts _ (List.mem_of_getElem? (i := 1) rfl)
  have w2 : (Cond.constant RX11 235 (-1000001)).before args s = true := hts _ (List.mem_of_getElem? (i := 2) rfl)
  have w3 : (Cond.fieldLink RX11 7 "GreatChunksModel" "now" "[J").before args s = true := hts _ (List.mem_of_getElem? (i := 3) rfl)
  have w4 : ∀ w ∈ wsX110, w ∈ wsX11_file := in_pl 25 rfl
  have w5 : (Cond.constant RX11 186 (-1000000)).before args s = true := hts _ (List.mem_of_getElem? (i := 4) rfl)
  have w6 : (Cond.constantLong RX11 332 (10)).before args s = true := hts _ (List.mem_of_getElem? (i := 5) rfl)
  have w7 : (Cond.constantLong RX11 334 (13)).before args s = true := hts _ (List.mem_of_getElem? (i := 6) rfl)
  generalize hQe : MQ below (vp_Si (fun r => r = x)) args s 0 0 (fun _ => False) = Q
  refine st_W ha (Nat.le_of_ble_eq_true rfl) (fun ls hl => ?_)
  have hl : lv_has ls 4 [(0, .ref (a0 0)), (1, .int p1), (2, .int p2)] := hl
  unfold f_X11_file at hf
  refine lv_aload_n hx hb dX11_file_0 rfl (lv_at hl 0 rfl) ?_
  obtain ⟨r1, e1, hf⟩ := bd_some hf
  refine cr_i (va_runV (As := []) (rest := []) ⟨hx, hb, hml, hown, hts⟩ (c_X11_isHouse l E a0 v0 r1 e1) (cwV 0 hts gX11_file_X11_isHouse rfl rfl rfl hdV_X11_isHouse ⟨Nat.le_of_ble_eq_true rfl, Nat.le_of_ble_eq_true rfl⟩) ⟨PR.blind, va_recv hC.1 hP (ci := 9) (q0 := 0) rfl rfl, PR.pre hC hS hP⟩ rfl rfl hl.1 rfl (lv_room (Nat.le_of_ble_eq_true rfl)) dX11_file_1 ⟨Nat.le_of_ble_eq_true rfl, Nat.le_of_ble_eq_true rfl⟩) ?_
  refine lv_if_ne (tgt := 11) hx hb dX11_file_4 rfl (fun c2 => ?_) (fun c2 => ?_)
  · have hf := it_f hf c2
    refine lv_iload_n hx hb dX11_file_11 rfl (lv_at hl 1 rfl) ?_
    refine cr_i (va_runS (As := [.int p1]) (rest := []) ⟨hx, hb, hml, hown, hts⟩ (c_X11_isFile l E p1 _ rfl) (va_cwS 1 hts gX11_file_X11_isFile rfl rfl rfl hdS_X11_isFile ⟨Nat.le_of_ble_eq_true rfl, Nat.le_of_ble_eq_true rfl⟩) ⟨PR.blind, PR.pre hC hS (hP.sub [] rfl)⟩ rfl rfl hl.1 rfl (lv_room (Nat.le_of_ble_eq_true rfl)) dX11_file_12 ⟨Nat.le_of_ble_eq_true rfl, Nat.le_of_ble_eq_true rfl⟩) ?_
    refine lv_if_ne (tgt := 21) hx hb dX11_file_15 rfl (fun c3 => ?_) (fun c3 => ?_)
    · have hf := it_f hf c3
      refine lv_aload_n hx hb dX11_file_21 rfl (lv_at hl 0 rfl) ?_
      refine va_get (D := E.1) (ci := 9) (v := .ref (a0 1)) (C := RX11) (T := TX11) (N := 17) hx hb hts w4 hown hC.1 hP 0 rfl rfl 0 (by decide) w3 (fun _ h9 => h9) rfl dX11_file_22 ?_
      refine lv_bipush (v := 22) hx hb dX11_file_25 rfl ?_
      refine lv_bipush (v := 8) hx hb dX11_file_27 rfl ?_
      refine lv_iload_n hx hb dX11_file_29 rfl (lv_at hl 1 rfl) ?_
      refine lv_imul hx hb dX11_file_30 ?_
      refine lv_iadd hx hb dX11_file_31 ?_
      refine lv_iconst (v := 0) hx hb dX11_file_32 rfl ?_
      refine lv_iadd hx hb dX11_file_33 ?_
      obtain ⟨h4, hf⟩ := gdI_some hf
      refine va_lald hx hb hC.1 hP 1 1 rfl rfl h4 dX11_file_34 ?_
      refine lv_l2i hx hb dX11_file_35 rfl ?_
      refine lv_istore_n (lv' := [(3, .int ((v0.1 (((22 : Int32) + ((8 : Int32) * p1)) + (0 : Int32)).toNatClampNeg).toInt32)), (0, .ref (a0 0)), (1, .int p1), (2, .int p2)]) hx hb dX11_file_36 rfl hl (by decide) rfl (fun ls hl => ?_)
      refine lv_iload_n hx hb dX11_file_37 rfl (lv_at hl 3 rfl) ?_
      by_cases s5 : p2 = 0
      · have hf := it_t hf s5
        refine lv_tableIn (tgt := 68) (off := 30) hx hb dX11_file_38 (by rw [s5]; decide) (by rw [s5]; decide) (by rw [s5]; rfl) rfl ?_
        refine lv_iload_n hx hb dX11_file_68 rfl (lv_at hl 0 rfl) ?_
        cases Option.some.inj hf
        subst hQe
        exact en_i hx hb hr hlocks dX11_file_69
      have hf := it_f hf s5
      by_cases s6 : p2 = 1
      · have hf := it_t hf s6
        refine lv_tableIn (tgt := 70) (off := 32) hx hb dX11_file_38 (by rw [s6]; decide) (by rw [s6]; decide) (by rw [s6]; rfl) rfl ?_
        refine lv_iload_n hx hb dX11_file_70 rfl (lv_at hl 0 rfl) ?_
        refine lv_if_ne (tgt := 79) hx hb dX11_file_71 rfl (fun c7 => ?_) (fun c7 => ?_)
        · have hf := it_f hf c7
          refine lv_aload_n hx hb dX11_file_79 rfl (lv_at hl 1 rfl) ?_
          refine va_get (D := E.1) (ci := 9) (v := .ref (a0 1)) (C := RX11) (T := TX11) (N := 17) hx hb hts w4 hown hC.1 hP 0 rfl rfl 0 (by decide) w3 (fun _ h9 => h9) rfl dX11_file_80 ?_
          refine lv_bipush (v := 22) hx hb dX11_file_83 rfl ?_
          refine lv_bipush (v := 8) hx hb dX11_file_85 rfl ?_
          refine lv_iload_n hx hb dX11_file_87 rfl (lv_at hl 2 rfl) ?_
          refine lv_imul hx hb dX11_file_88 ?_
          refine lv_iadd hx hb dX11_file_89 ?_
          refine lv_iconst (v := 1) hx hb dX11_file_90 rfl ?_
          refine lv_iadd hx hb dX11_file_91 ?_
          obtain ⟨h8, hf⟩ := gdI_some hf
          refine va_lald hx hb hC.1 hP 1 1 rfl rfl h8 dX11_file_92 ?_
          refine lv_l2i hx hb dX11_file_93 rfl ?_
          cases Option.some.inj hf
          subst hQe
          exact en_i hx hb hr hlocks dX11_file_94
        · have hf := it_t hf c7
          refine lv_ldc hx hb hown w5 dX11_file_74 ?_
          refine lv_goto (tgt := 94) hx hb dX11_file_76 rfl ?_
          cases Option.some.inj hf
          subst hQe
          exact en_i hx hb hr hlocks dX11_file_94
      have hf := it_f hf s6
      by_cases s9 : p2 = 2
      · have hf := it_t hf s9
        refine lv_tableIn (tgt := 95) (off := 57) hx hb dX11_file_38 (by rw [s9]; decide) (by rw [s9]; decide) (by rw [s9]; rfl) rfl ?_
        refine lv_aload_n hx hb dX11_file_95 rfl (lv_at hl 1 rfl) ?_
        refine va_get (D := E.1) (ci := 9) (v := .ref (a0 1)) (C := RX11) (T := TX11) (N := 17) hx hb hts w4 hown hC.1 hP 0 rfl rfl 0 (by decide) w3 (fun _ h9 => h9) rfl dX11_file_96 ?_
        refine lv_iload_n hx hb dX11_file_99 rfl (lv_at hl 2 rfl) ?_
        obtain ⟨r10, e10, hf⟩ := bd_some hf
        refine cr_i (va_runS (As := [.ref (a0 1), .int p1]) (rest := []) ⟨hx, hb, hml, hown, hts⟩ (c_X11_many l E (a0 1) v0.1 p1 r10 e10) (va_cwS 2 hts gX11_file_X11_many rfl rfl rfl hdS_X11_many ⟨Nat.le_of_ble_eq_true rfl, Nat.le_of_ble_eq_true rfl⟩) ⟨PR.blind, PR.pre hC hS (hP.sub [1] rfl)⟩ rfl rfl hl.1 rfl (lv_room (Nat.le_of_ble_eq_true rfl)) dX11_file_100 ⟨Nat.le_of_ble_eq_true rfl, Nat.le_of_ble_eq_true rfl⟩) ?_
        cases Option.some.inj hf
        subst hQe
        exact en_i hx hb hr hlocks dX11_file_103
      have hf := it_f hf s9
      by_cases s11 : p2 = 3
      · have hf := it_t hf s11
        refine lv_tableIn (tgt := 104) (off := 66) hx hb dX11_file_38 (by rw [s11]; decide) (by rw [s11]; decide) (by rw [s11]; rfl) rfl ?_
        refine lv_iload_n hx hb dX11_file_104 rfl (lv_at hl 0 rfl) ?_
        refine lv_iconst (v := 2) hx hb dX11_file_105 rfl ?_
        refine lv_icmp_ne (tgt := 127) hx hb dX11_file_106 rfl (fun c12 => ?_) (fun c12 => ?_)
        · have hf := it_f hf c12
          refine lv_ldc hx hb hown w5 dX11_file_127 ?_
          cases Option.some.inj hf
          subst hQe
          exact en_i hx hb hr hlocks dX11_file_129
        · have hf := it_t hf c12
          refine lv_aload_n hx hb dX11_file_109 rfl (lv_at hl 1 rfl) ?_
          refine va_get (D := E.1) (ci := 9) (v := .ref (a0 1)) (C := RX11) (T := TX11) (N := 17) hx hb hts w4 hown hC.1 hP 0 rfl rfl 0 (by decide) w3 (fun _ h9 => h9) rfl dX11_file_110 ?_
          refine lv_bipush (v := 22) hx hb dX11_file_113 rfl ?_
          refine lv_bipush (v := 8) hx hb dX11_file_115 rfl ?_
          refine lv_iload_n hx hb dX11_file_117 rfl (lv_at hl 2 rfl) ?_
          refine lv_imul hx hb dX11_file_118 ?_
          refine lv_iadd hx hb dX11_file_119 ?_
          refine lv_iconst (v := 3) hx hb dX11_file_120 rfl ?_
          refine lv_iadd hx hb dX11_file_121 ?_
          obtain ⟨h13, hf⟩ := gdI_some hf
          refine va_lald hx hb hC.1 hP 1 1 rfl rfl h13 dX11_file_122 ?_
          refine lv_l2i hx hb dX11_file_123 rfl ?_
          refine lv_goto (tgt := 129) hx hb dX11_file_124 rfl ?_
          cases Option.some.inj hf
          subst hQe
          exact en_i hx hb hr hlocks dX11_file_129
      have hf := it_f hf s11
      refine lv_tableOut (tgt := 130) hx hb dX11_file_38 (sw_out (x := p2) 3 (by decide) (fun k hk => match k, hk with | 0, _ => s5 | 1, _ => s6 | 2, _ => s9 | 3, _ => s11 | k + 4, hk => absurd hk (by omega))) rfl ?_
      refine lv_iload_n hx hb dX11_file_130 rfl (lv_at hl 3 rfl) ?_
      refine lv_i2l hx hb dX11_file_131 rfl ?_
      refine lv_ldc2 hx hb hown w6 dX11_file_132 ?_
      refine lv_ldc2 hx hb hown w7 dX11_file_135 ?_
      refine cr_i (va_runS (As := [.long p2.toInt64, .long ((10) : Int64), .long ((13) : Int64)]) (rest := []) ⟨hx, hb, hml, hown, hts⟩ (c_X11_in l E p2.toInt64 ((10) : Int64) ((13) : Int64) _ rfl) (va_cwS 3 hts gX11_file_X11_in rfl rfl rfl hdS_X11_in ⟨Nat.le_of_ble_eq_true rfl, Nat.le_of_ble_eq_true rfl⟩) ⟨PR.blind, PR.pre hC hS (hP.sub [] rfl)⟩ rfl rfl hl.1 rfl (lv_room (Nat.le_of_ble_eq_true rfl)) dX11_file_138 ⟨Nat.le_of_ble_eq_true rfl, Nat.le_of_ble_eq_true rfl⟩) ?_
      refine lv_if_ne (tgt := 149) hx hb dX11_file_141 rfl (fun c14 => ?_) (fun c14 => ?_)
      · have hf := it_f hf c14
        refine lv_iload_n hx hb dX11_file_149 rfl (lv_at hl 3 rfl) ?_
        refine lv_bipush (v := 10) hx hb dX11_file_150 rfl ?_
        refine lv_isub hx hb dX11_file_152 ?_
        refine lv_aload_n hx hb dX11_file_153 rfl (lv_at hl 1 rfl) ?_
        refine va_get (D := E.1) (ci := 9) (v := .ref (a0 1)) (C := RX11) (T := TX11) (N := 17) hx hb hts w4 hown hC.1 hP 0 rfl rfl 0 (by decide) w3 (fun _ h9 => h9) rfl dX11_file_154 ?_
        refine lv_iload_n hx hb dX11_file_157 rfl (lv_at hl 2 rfl) ?_
        obtain ⟨r15, e15, hf⟩ := bd_some hf
        refine cr_i (va_runS (As := [.ref (a0 1), .int p1]) (rest := [.int (p2 - (10 : Int32))]) ⟨hx, hb, hml, hown, hts⟩ (c_X11_many l E (a0 1) v0.1 p1 r15 e15) (va_cwS 2 hts gX11_file_X11_many rfl rfl rfl hdS_X11_many ⟨Nat.le_of_ble_eq_true rfl, Nat.le_of_ble_eq_true rfl⟩) ⟨PR.blind, PR.pre hC hS (hP.sub [1] rfl)⟩ rfl rfl hl.1 rfl (lv_room (Nat.le_of_ble_eq_true rfl)) dX11_file_158 ⟨Nat.le_of_ble_eq_true rfl, Nat.le_of_ble_eq_true rfl⟩) ?_
        refine lv_icmp_ge (tgt := 179) hx hb dX11_file_161 rfl (fun c16 => ?_) (fun c16 => ?_)
        · have hf := it_t hf c16
          refine lv_ldc hx hb hown w5 dX11_file_179 ?_
          cases Option.some.inj hf
          subst hQe
          exact en_i hx hb hr hlocks dX11_file_181
        · have hf := it_f hf c16
          refine lv_aload_n hx hb dX11_file_164 rfl (lv_at hl 1 rfl) ?_
          refine va_get (D := E.1) (ci := 9) (v := .ref (a0 1)) (C := RX11) (T := TX11) (N := 17) hx hb hts w4 hown hC.1 hP 0 rfl rfl 0 (by decide) w3 (fun _ h9 => h9) rfl dX11_file_165 ?_
          refine lv_iload_n hx hb dX11_file_168 rfl (lv_at hl 2 rfl) ?_
          refine lv_iload_n hx hb dX11_file_169 rfl (lv_at hl 3 rfl) ?_
          refine lv_bipush (v := 10) hx hb dX11_file_170 rfl ?_
          refine lv_isub hx hb dX11_file_172 ?_
          obtain ⟨r17, e17, hf⟩ := bd_some hf
          refine cr_i (va_runS (As := [.ref (a0 1), .int p1, .int (p2 - (10 : Int32))]) (rest := []) ⟨hx, hb, hml, hown, hts⟩ (c_X11_chunkOf l E (a0 1) v0.1 p1 (p2 - (10 : Int32)) r17 e17) (va_cwS 3 hts gX11_file_X11_chunkOf rfl rfl rfl hdS_X11_chunkOf ⟨Nat.le_of_ble_eq_true rfl, Nat.le_of_ble_eq_true rfl⟩) ⟨PR.blind, PR.pre hC hS (hP.sub [1] rfl)⟩ rfl rfl hl.1 rfl (lv_room (Nat.le_of_ble_eq_true rfl)) dX11_file_173 ⟨Nat.le_of_ble_eq_true rfl, Nat.le_of_ble_eq_true rfl⟩) ?_
          refine lv_goto (tgt := 181) hx hb dX11_file_176 rfl ?_
          cases Option.some.inj hf
          subst hQe
          exact en_i hx hb hr hlocks dX11_file_181
      · have hf := it_t hf c14
        refine lv_ldc hx hb hown w2 dX11_file_144 ?_
        refine lv_goto (tgt := 181) hx hb dX11_file_146 rfl ?_
        cases Option.some.inj hf
        subst hQe
        exact en_i hx hb hr hlocks dX11_file_181
    · have hf := it_t hf c3
      refine lv_ldc hx hb hown w2 dX11_file_18 ?_
      cases Option.some.inj hf
      subst hQe
      exact en_i hx hb hr hlocks dX11_file_20
  · have hf := it_t hf c2
    refine lv_ldcw hx hb hown w1 dX11_file_7 ?_
    cases Option.some.inj hf
    subst hQe
    exact en_i hx hb hr hlocks dX11_file_10

/-! X11_told -/
abbrev rmX11_told : Room := { frames := 0, cells := 0, slots := 0, locals := 0 }
theorem hdS_X11_told : yX11_told.cls ≠ "java/lang/invoke/MethodHandle" ∧ yX11_told.cls ≠ "java/lang/invoke/VarHandle" ∧ (parseMethodDescriptor yX11_told.desc).map (fun d => d.parameters.length) = some 1 := by decide +kernel
set_option maxHeartbeats 4000000 in
set_option maxRecDepth 100000 in
theorem c_X11_told (l : Launch) (E : G0) (p0 : Int32) (x : Int32) (hf : f_X11_told p0 = x) : Met l yX11_told wsX11_told rmX11_told (va_Pc [.int p0] (PR E ([] : va_W))) (vp_Si (fun r => r = x)) 0 0 (fun _ => False) := by
  refine Met.ofW (cc := cX11_told) (maxL := 1) (ret := some .int) (by decide) rfl ?_
  intro p e s m args below meth c s₁ B hml hv
  obtain ⟨ha, hP, hC⟩ := hv
  have hx := B.exec
  have hb := B.bytes
  have hr := B.returns
  have hts := atoms_spec (ws := wsX11_told) B.pre
  have hown : s.vm.findClass RX11 = some m.cls := findClass_of_methodNamed B.named
  have hlocks := B.notSynchronized
  have hS : va_S (fun _ => False) s.heap s.heap [] := va_S.rf
  have w1 : (Cond.constant RX11 186 (-1000000)).before args s = true := hts _ (List.mem_of_getElem? (i := 1) rfl)
  generalize hQe : MQ below (vp_Si (fun r => r = x)) args s 0 0 (fun _ => False) = Q
  refine st_W ha (Nat.le_of_ble_eq_true rfl) (fun ls hl => ?_)
  have hl : lv_has ls 1 [(0, .int p0)] := hl
  unfold f_X11_told at hf
  refine lv_iload_n hx hb dX11_told_0 rfl (lv_at hl 0 rfl) ?_
  refine lv_if_ne (tgt := 9) hx hb dX11_told_1 rfl (fun c1 => ?_) (fun c1 => ?_)
  · have hf := it_f hf c1
    refine lv_iload_n hx hb dX11_told_9 rfl (lv_at hl 0 rfl) ?_
    refine lv_bipush (v := 27) hx hb dX11_told_10 rfl ?_
    refine lv_icmp_ne (tgt := 19) hx hb dX11_told_12 rfl (fun c2 => ?_) (fun c2 => ?_)
    · have hf := it_f hf c2
      refine lv_iload_n hx hb dX11_told_19 rfl (lv_at hl 0 rfl) ?_
      refine lv_bipush (v := 96) hx hb dX11_told_20 rfl ?_
      refine lv_iadd hx hb dX11_told_22 ?_
      subst hf
      subst hQe
      exact en_i hx hb hr hlocks dX11_told_23
    · have hf := it_t hf c2
      refine lv_iconst (v := 0) hx hb dX11_told_15 rfl ?_
      refine lv_goto (tgt := 23) hx hb dX11_told_16 rfl ?_
      subst hf
      subst hQe
      exact en_i hx hb hr hlocks dX11_told_23
  · have hf := it_t hf c1
    refine lv_ldc hx hb hown w1 dX11_told_4 ?_
    refine lv_goto (tgt := 23) hx hb dX11_told_6 rfl ?_
    subst hf
    subst hQe
    exact en_i hx hb hr hlocks dX11_told_23

/-! X11_part -/
abbrev rmX11_part : Room := { frames := 2, cells := 0, slots := 0, locals := 46 }
theorem hdS_X11_part : yX11_part.cls ≠ "java/lang/invoke/MethodHandle" ∧ yX11_part.cls ≠ "java/lang/invoke/VarHandle" ∧ (parseMethodDescriptor yX11_part.desc).map (fun d => d.parameters.length) = some 3 := by decide +kernel
theorem hdV_X11_part : yX11_part.cls = RX11 ∧ yX11_part.cls ≠ "java/lang/invoke/MethodHandle" ∧ yX11_part.cls ≠ "java/lang/invoke/VarHandle" ∧ (parseMethodDescriptor yX11_part.desc).map (fun d => d.parameters.length) = some 3 := ⟨rfl, hdS_X11_part⟩
set_option maxHeartbeats 4000000 in
set_option maxRecDepth 100000 in
theorem c_X11_part (l : Launch) (E : G0) (a0 : Nat → Nat) (v0 : MD) (p1 : Int32) (p2 : Int32) (p3 : Int32) (x : Int32) (hf : f_X11_part v0 p1 p2 p3 = some x) : Met l yX11_part wsX11_part rmX11_part (va_Pc [.ref (a0 0), .int p1, .int p2, .int p3] (PR E (wMD E a0 v0))) (vp_Si (fun r => r = x)) 0 0 (fun _ => False) := by
  refine Met.ofW (cc := cX11_part) (maxL := 6) (ret := some .int) (by decide) rfl ?_
  intro p e s m args below meth c s₁ B hml hv
  obtain ⟨ha, hP, hC⟩ := hv
  have hx := B.exec
  have hb := B.bytes
  have hr := B.returns
  have hts := atoms_spec (ws := wsX11_part) B.pre
  have hown : s.vm.findClass RX11 = some m.cls := findClass_of_methodNamed B.named
  have hlocks := B.notSynchronized
  have hS : va_S (fun _ => False) s.heap s.heap [] := va_S.rf
  have w1 : (Cond.constant RX11 235 (-1000001)).before args s = true := hts _ (List.mem_of_getElem? (i := 4) rfl)
  have w2 : (Cond.constantLong RX11 332 (10)).before args s = true := hts _ (List.mem_of_getElem? (i := 1) rfl)
  have w3 : (Cond.constantLong RX11 310 (9)).before args s = true := hts _ (List.mem_of_getElem? (i := 2) rfl)
  have w4 : (Cond.fieldLink RX11 7 "GreatChunksModel" "now" "[J").before args s = true := hts _ (List.mem_of_getElem? (i := 3) rfl)
  have w5 : ∀ w ∈ wsX110, w ∈ wsX11_part := in_pl 36 rfl
  have w6 : (Cond.constant RX11 186 (-1000000)).before args s = true := hts _ (List.mem_of_getElem? (i := 5) rfl)
  generalize hQe : MQ below (vp_Si (fun r => r = x)) args s 0 0 (fun _ => False) = Q
  refine st_W ha (Nat.le_of_ble_eq_true rfl) (fun ls hl => ?_)
  have hl : lv_has ls 6 [(0, .ref (a0 0)), (1, .int p1), (2, .int p2), (3, .int p3)] := hl
  unfold f_X11_part at hf
  refine lv_aload_n hx hb dX11_part_0 rfl (lv_at hl 0 rfl) ?_
  refine lv_iload_n hx hb dX11_part_1 rfl (lv_at hl 1 rfl) ?_
  obtain ⟨r1, e1, hf⟩ := bd_some hf
  refine cr_i (va_runV (As := [.int p1]) (rest := []) ⟨hx, hb, hml, hown, hts⟩ (c_X11_isServer l E a0 v0 p1 r1 e1) (cwV 1 hts gX11_part_X11_isServer rfl rfl rfl hdV_X11_isServer ⟨Nat.le_of_ble_eq_true rfl, Nat.le_of_ble_eq_true rfl⟩) ⟨PR.blind, va_recv hC.1 hP (ci := 9) (q0 := 0) rfl rfl, PR.pre hC hS hP⟩ rfl rfl hl.1 rfl (lv_room (Nat.le_of_ble_eq_true rfl)) dX11_part_2 ⟨Nat.le_of_ble_eq_true rfl, Nat.le_of_ble_eq_true rfl⟩) ?_
  refine lv_if_eq (tgt := 47) hx hb dX11_part_5 rfl (fun c2 => ?_) (fun c2 => ?_)
  · have hf := it_t hf c2
    refine lv_ldc hx hb hown w1 dX11_part_47 ?_
    cases Option.some.inj hf
    subst hQe
    exact en_i hx hb hr hlocks dX11_part_49
  · have hf := it_f hf c2
    refine lv_aload_n hx hb dX11_part_8 rfl (lv_at hl 0 rfl) ?_
    refine lv_iload_n hx hb dX11_part_9 rfl (lv_at hl 2 rfl) ?_
    obtain ⟨r3, e3, hf⟩ := bd_some hf
    refine cr_i (va_runV (As := [.int p2]) (rest := []) ⟨hx, hb, hml, hown, hts⟩ (c_X11_isChunk l E a0 v0 p2 r3 e3) (cwV 1 hts gX11_part_X11_isChunk rfl rfl rfl hdV_X11_isChunk ⟨Nat.le_of_ble_eq_true rfl, Nat.le_of_ble_eq_true rfl⟩) ⟨PR.blind, va_recv hC.1 hP (ci := 9) (q0 := 0) rfl rfl, PR.pre hC hS hP⟩ rfl rfl hl.1 rfl (lv_room (Nat.le_of_ble_eq_true rfl)) dX11_part_10 ⟨Nat.le_of_ble_eq_true rfl, Nat.le_of_ble_eq_true rfl⟩) ?_
    refine lv_if_eq (tgt := 47) hx hb dX11_part_13 rfl (fun c4 => ?_) (fun c4 => ?_)
    · have hf := it_t hf c4
      refine lv_ldc hx hb hown w1 dX11_part_47 ?_
      cases Option.some.inj hf
      subst hQe
      exact en_i hx hb hr hlocks dX11_part_49
    · have hf := it_f hf c4
      refine lv_iload_n hx hb dX11_part_16 rfl (lv_at hl 3 rfl) ?_
      refine lv_i2l hx hb dX11_part_17 rfl ?_
      refine lv_lconst (v := 0) hx hb dX11_part_18 rfl ?_
      refine lv_lconst (v := 1) hx hb dX11_part_19 rfl ?_
      refine cr_i (va_runS (As := [.long p3.toInt64, .long (0 : Int64), .long (1 : Int64)]) (rest := []) ⟨hx, hb, hml, hown, hts⟩ (c_X11_in l E p3.toInt64 (0 : Int64) (1 : Int64) _ rfl) (va_cwS 3 hts gX11_part_X11_in rfl rfl rfl hdS_X11_in ⟨Nat.le_of_ble_eq_true rfl, Nat.le_of_ble_eq_true rfl⟩) ⟨PR.blind, PR.pre hC hS (hP.sub [] rfl)⟩ rfl rfl hl.1 rfl (lv_room (Nat.le_of_ble_eq_true rfl)) dX11_part_20 ⟨Nat.le_of_ble_eq_true rfl, Nat.le_of_ble_eq_true rfl⟩) ?_
      obtain ⟨K5, hK5, hf⟩ := jn_some hf
      have J5 : ∀ (q5 : Unit) (hf : K5 q5 = some x), W p l e (headSpec wsX11_part rmX11_part).room s m args below meth c s.heap [] 0 0 Q (F0 m 50 ls []) := by
        intro q5 hf
        have hf := (hK5 q5).trans hf
        refine lv_aload_n hx hb dX11_part_50 rfl (lv_at hl 0 rfl) ?_
        refine va_get (D := E.1) (ci := 9) (v := .ref (a0 1)) (C := RX11) (T := TX11) (N := 17) hx hb hts w5 hown hC.1 hP 0 rfl rfl 0 (by decide) w4 (fun _ h9 => h9) rfl dX11_part_51 ?_
        refine lv_iload_n hx hb dX11_part_54 rfl (lv_at hl 2 rfl) ?_
        refine lv_iload_n hx hb dX11_part_55 rfl (lv_at hl 1 rfl) ?_
        obtain ⟨r6, e6, hf⟩ := bd_some hf
        refine cr_l (va_runS (As := [.ref (a0 1), .int p2, .int p1]) (rest := []) ⟨hx, hb, hml, hown, hts⟩ (c_X11_copy l E (a0 1) v0.1 p2 p1 r6 e6) (va_cwS 3 hts gX11_part_X11_copy rfl rfl rfl hdS_X11_copy ⟨Nat.le_of_ble_eq_true rfl, Nat.le_of_ble_eq_true rfl⟩) ⟨PR.blind, PR.pre hC hS (hP.sub [1] rfl)⟩ rfl rfl hl.1 rfl (lv_room (Nat.le_of_ble_eq_true rfl)) dX11_part_56 ⟨Nat.le_of_ble_eq_true rfl, Nat.le_of_ble_eq_true rfl⟩) ?_
        refine lv_lstore (lv' := [(4, .long r6), (0, .ref (a0 0)), (1, .int p1), (2, .int p2), (3, .int p3)]) hx hb dX11_part_59 hl (by decide) rfl (fun ls hl => ?_)
        refine lv_lload hx hb dX11_part_61 (lv_at hl 0 rfl) ?_
        refine lv_lconst (v := 0) hx hb dX11_part_63 rfl ?_
        refine W.lcmp hx hb dX11_part_64 ?_
        refine lv_if_ne (tgt := 71) hx hb dX11_part_65 rfl (fun c7 => ?_) (fun c7 => ?_)
        · have hf := it_f hf c7
          refine lv_iload_n hx hb dX11_part_71 rfl (lv_at hl 4 rfl) ?_
          refine lv_if_ne (tgt := 83) hx hb dX11_part_72 rfl (fun c8 => ?_) (fun c8 => ?_)
          · have hf := it_f hf c8
            refine lv_iload_n hx hb dX11_part_83 rfl (lv_at hl 4 rfl) ?_
            refine lv_iconst (v := 1) hx hb dX11_part_84 rfl ?_
            refine lv_icmp_ne (tgt := 96) hx hb dX11_part_85 rfl (fun c9 => ?_) (fun c9 => ?_)
            · have hf := it_f hf c9
              refine lv_lload hx hb dX11_part_96 (lv_at hl 0 rfl) ?_
              refine lv_iload_n hx hb dX11_part_98 rfl (lv_at hl 4 rfl) ?_
              refine lv_bipush (v := 10) hx hb dX11_part_99 rfl ?_
              refine lv_isub hx hb dX11_part_101 ?_
              refine cr_i (va_runS (As := [.long r6, .int (p3 - (10 : Int32))]) (rest := []) ⟨hx, hb, hml, hown, hts⟩ (c_X11_cell l E r6 (p3 - (10 : Int32)) _ rfl) (va_cwS 2 hts gX11_part_X11_cell rfl rfl rfl hdS_X11_cell ⟨Nat.le_of_ble_eq_true rfl, Nat.le_of_ble_eq_true rfl⟩) ⟨PR.blind, PR.pre hC hS (hP.sub [] rfl)⟩ rfl rfl hl.1 rfl (lv_room (Nat.le_of_ble_eq_true rfl)) dX11_part_102 ⟨Nat.le_of_ble_eq_true rfl, Nat.le_of_ble_eq_true rfl⟩) ?_
              refine cr_i (va_runS (As := [.int (f_X11_cell r6 (p3 - (10 : Int32)))]) (rest := []) ⟨hx, hb, hml, hown, hts⟩ (c_X11_told l E (f_X11_cell r6 (p3 - (10 : Int32))) _ rfl) (va_cwS 1 hts gX11_part_X11_told rfl rfl rfl hdS_X11_told ⟨Nat.le_of_ble_eq_true rfl, Nat.le_of_ble_eq_true rfl⟩) ⟨PR.blind, PR.pre hC hS (hP.sub [] rfl)⟩ rfl rfl hl.1 rfl (lv_room (Nat.le_of_ble_eq_true rfl)) dX11_part_105 ⟨Nat.le_of_ble_eq_true rfl, Nat.le_of_ble_eq_true rfl⟩) ?_
              cases Option.some.inj hf
              subst hQe
              exact en_i hx hb hr hlocks dX11_part_108
            · have hf := it_t hf c9
              refine lv_lload hx hb dX11_part_88 (lv_at hl 0 rfl) ?_
              refine cr_i (va_runS (As := [.long r6]) (rest := []) ⟨hx, hb, hml, hown, hts⟩ (c_X11_filled l E r6 _ rfl) (va_cwS 1 hts gX11_part_X11_filled rfl rfl rfl hdS_X11_filled ⟨Nat.le_of_ble_eq_true rfl, Nat.le_of_ble_eq_true rfl⟩) ⟨PR.blind, PR.pre hC hS (hP.sub [] rfl)⟩ rfl rfl hl.1 rfl (lv_room (Nat.le_of_ble_eq_true rfl)) dX11_part_90 ⟨Nat.le_of_ble_eq_true rfl, Nat.le_of_ble_eq_true rfl⟩) ?_
              refine lv_goto (tgt := 108) hx hb dX11_part_93 rfl ?_
              cases Option.some.inj hf
              subst hQe
              exact en_i hx hb hr hlocks dX11_part_108
          · have hf := it_t hf c8
            refine lv_lload hx hb dX11_part_75 (lv_at hl 0 rfl) ?_
            refine cr_i (va_runS (As := [.long r6]) (rest := []) ⟨hx, hb, hml, hown, hts⟩ (c_X11_version l E r6 _ rfl) (va_cwS 1 hts gX11_part_X11_version rfl rfl rfl hdS_X11_version ⟨Nat.le_of_ble_eq_true rfl, Nat.le_of_ble_eq_true rfl⟩) ⟨PR.blind, PR.pre hC hS (hP.sub [] rfl)⟩ rfl rfl hl.1 rfl (lv_room (Nat.le_of_ble_eq_true rfl)) dX11_part_77 ⟨Nat.le_of_ble_eq_true rfl, Nat.le_of_ble_eq_true rfl⟩) ?_
            refine lv_goto (tgt := 108) hx hb dX11_part_80 rfl ?_
            cases Option.some.inj hf
            subst hQe
            exact en_i hx hb hr hlocks dX11_part_108
        · have hf := it_t hf c7
          refine lv_ldc hx hb hown w6 dX11_part_68 ?_
          cases Option.some.inj hf
          subst hQe
          exact en_i hx hb hr hlocks dX11_part_70
      refine lv_if_ne (tgt := 50) hx hb dX11_part_23 rfl (fun c10 => ?_) (fun c10 => ?_)
      · have hf := it_f hf c10
        exact J5 () hf
      · have hf := it_t hf c10
        refine lv_iload_n hx hb dX11_part_26 rfl (lv_at hl 3 rfl) ?_
        refine lv_i2l hx hb dX11_part_27 rfl ?_
        refine lv_ldc2 hx hb hown w2 dX11_part_28 ?_
        refine lv_ldc2 hx hb hown w3 dX11_part_31 ?_
        refine lv_aload_n hx hb dX11_part_34 rfl (lv_at hl 0 rfl) ?_
        refine va_get (D := E.1) (ci := 9) (v := .ref (a0 1)) (C := RX11) (T := TX11) (N := 17) hx hb hts w5 hown hC.1 hP 0 rfl rfl 0 (by decide) w4 (fun _ h9 => h9) rfl dX11_part_35 ?_
        refine lv_iconst (v := 2) hx hb dX11_part_38 rfl ?_
        obtain ⟨h11, hf⟩ := gdI_some hf
        refine va_lald hx hb hC.1 hP 1 1 rfl rfl h11 dX11_part_39 ?_
        refine lv_ladd hx hb dX11_part_40 ?_
        refine cr_i (va_runS (As := [.long p3.toInt64, .long ((10) : Int64), .long (((9) : Int64) + (v0.1 (2 : Int32).toNatClampNeg))]) (rest := []) ⟨hx, hb, hml, hown, hts⟩ (c_X11_in l E p3.toInt64 ((10) : Int64) (((9) : Int64) + (v0.1 (2 : Int32).toNatClampNeg)) _ rfl) (va_cwS 3 hts gX11_part_X11_in rfl rfl rfl hdS_X11_in ⟨Nat.le_of_ble_eq_true rfl, Nat.le_of_ble_eq_true rfl⟩) ⟨PR.blind, PR.pre hC hS (hP.sub [] rfl)⟩ rfl rfl hl.1 rfl (lv_room (Nat.le_of_ble_eq_true rfl)) dX11_part_41 ⟨Nat.le_of_ble_eq_true rfl, Nat.le_of_ble_eq_true rfl⟩) ?_
        refine lv_if_ne (tgt := 50) hx hb dX11_part_44 rfl (fun c12 => ?_) (fun c12 => ?_)
        · have hf := it_f hf c12
          exact J5 () hf
        · have hf := it_t hf c12
          refine lv_ldc hx hb hown w1 dX11_part_47 ?_
          cases Option.some.inj hf
          subst hQe
          exact en_i hx hb hr hlocks dX11_part_49

/-! X11_read -/
abbrev rmX11_read : Room := { frames := 2, cells := 0, slots := 0, locals := 47 }
theorem hdS_X11_read : yX11_read.cls ≠ "java/lang/invoke/MethodHandle" ∧ yX11_read.cls ≠ "java/lang/invoke/VarHandle" ∧ (parseMethodDescriptor yX11_read.desc).map (fun d => d.parameters.length) = some 3 := by decide +kernel
theorem hdV_X11_read : yX11_read.cls = RX11 ∧ yX11_read.cls ≠ "java/lang/invoke/MethodHandle" ∧ yX11_read.cls ≠ "java/lang/invoke/VarHandle" ∧ (parseMethodDescriptor yX11_read.desc).map (fun d => d.parameters.length) = some 3 := ⟨rfl, hdS_X11_read⟩
set_option maxHeartbeats 4000000 in
set_option maxRecDepth 100000 in
theorem c_X11_read (l : Launch) (E : G0) (a0 : Nat → Nat) (v0 : MD) (p1 : Int32) (p2 : Int32) (p3 : Int32) (x : Int32) (hf : f_X11_read v0 p1 p2 p3 = some x) : Met l yX11_read wsX11_read rmX11_read (va_Pc [.ref (a0 0), .int p1, .int p2, .int p3] (PR E (wMD E a0 v0))) (vp_Si (fun r => r = x)) 0 0 (fun _ => False) := by
  refine Met.ofW (cc := cX11_read) (maxL := 7) (ret := some .int) (by decide) rfl ?_
  intro p e s m args below meth c s₁ B hml hv
  obtain ⟨ha, hP, hC⟩ := hv
  have hx := B.exec
  have hb := B.bytes
  have hr := B.returns
  have hts := atoms_spec (ws := wsX11_read) B.pre
  have hown : s.vm.findClass RX11 = some m.cls := findClass_of_methodNamed B.named
  have hlocks := B.notSynchronized
  have hS : va_S (fun _ => False) s.heap s.heap [] := va_S.rf
  have w1 : (Cond.constant RX11 261 (-1000002)).before args s = true := hts _ (List.mem_of_getElem? (i := 1) rfl)
  have w2 : (Cond.constant RX11 235 (-1000001)).before args s = true := hts _ (List.mem_of_getElem? (i := 2) rfl)
  have w3 : (Cond.fieldLink RX11 7 "GreatChunksModel" "now" "[J").before args s = true := hts _ (List.mem_of_getElem? (i := 3) rfl)
  have w4 : ∀ w ∈ wsX110, w ∈ wsX11_read := in_pl 57 rfl
  have w5 : (Cond.constant RX11 339 (-1000007)).before args s = true := hts _ (List.mem_of_getElem? (i := 4) rfl)
  have w6 : (Cond.constant RX11 186 (-1000000)).before args s = true := hts _ (List.mem_of_getElem? (i := 5) rfl)
  have w7 : (Cond.constant RX11 340 (-1000006)).before args s = true := hts _ (List.mem_of_getElem? (i := 6) rfl)
  generalize hQe : MQ below (vp_Si (fun r => r = x)) args s 0 0 (fun _ => False) = Q
  refine st_W ha (Nat.le_of_ble_eq_true rfl) (fun ls hl => ?_)
  have hl : lv_has ls 7 [(0, .ref (a0 0)), (1, .int p1), (2, .int p2), (3, .int p3)] := hl
  unfold f_X11_read at hf
  refine lv_aload_n hx hb dX11_read_0 rfl (lv_at hl 0 rfl) ?_
  obtain ⟨r1, e1, hf⟩ := bd_some hf
  refine cr_i (va_runV (As := []) (rest := []) ⟨hx, hb, hml, hown, hts⟩ (c_X11_isHouse l E a0 v0 r1 e1) (cwV 0 hts gX11_read_X11_isHouse rfl rfl rfl hdV_X11_isHouse ⟨Nat.le_of_ble_eq_true rfl, Nat.le_of_ble_eq_true rfl⟩) ⟨PR.blind, va_recv hC.1 hP (ci := 9) (q0 := 0) rfl rfl, PR.pre hC hS hP⟩ rfl rfl hl.1 rfl (lv_room (Nat.le_of_ble_eq_true rfl)) dX11_read_1 ⟨Nat.le_of_ble_eq_true rfl, Nat.le_of_ble_eq_true rfl⟩) ?_
  refine lv_if_ne (tgt := 11) hx hb dX11_read_4 rfl (fun c2 => ?_) (fun c2 => ?_)
  · have hf := it_f hf c2
    refine lv_iload_n hx hb dX11_read_11 rfl (lv_at hl 1 rfl) ?_
    refine cr_i (va_runS (As := [.int p1]) (rest := []) ⟨hx, hb, hml, hown, hts⟩ (c_X11_isFile l E p1 _ rfl) (va_cwS 1 hts gX11_read_X11_isFile rfl rfl rfl hdS_X11_isFile ⟨Nat.le_of_ble_eq_true rfl, Nat.le_of_ble_eq_true rfl⟩) ⟨PR.blind, PR.pre hC hS (hP.sub [] rfl)⟩ rfl rfl hl.1 rfl (lv_room (Nat.le_of_ble_eq_true rfl)) dX11_read_12 ⟨Nat.le_of_ble_eq_true rfl, Nat.le_of_ble_eq_true rfl⟩) ?_
    refine lv_if_eq (tgt := 26) hx hb dX11_read_15 rfl (fun c3 => ?_) (fun c3 => ?_)
    · have hf := it_t hf c3
      refine lv_ldc hx hb hown w2 dX11_read_26 ?_
      cases Option.some.inj hf
      subst hQe
      exact en_i hx hb hr hlocks dX11_read_28
    · have hf := it_f hf c3
      refine lv_aload_n hx hb dX11_read_18 rfl (lv_at hl 0 rfl) ?_
      refine lv_iload_n hx hb dX11_read_19 rfl (lv_at hl 3 rfl) ?_
      obtain ⟨r4, e4, hf⟩ := bd_some hf
      refine cr_i (va_runV (As := [.int p3]) (rest := []) ⟨hx, hb, hml, hown, hts⟩ (c_X11_isServer l E a0 v0 p3 r4 e4) (cwV 1 hts gX11_read_X11_isServer rfl rfl rfl hdV_X11_isServer ⟨Nat.le_of_ble_eq_true rfl, Nat.le_of_ble_eq_true rfl⟩) ⟨PR.blind, va_recv hC.1 hP (ci := 9) (q0 := 0) rfl rfl, PR.pre hC hS hP⟩ rfl rfl hl.1 rfl (lv_room (Nat.le_of_ble_eq_true rfl)) dX11_read_20 ⟨Nat.le_of_ble_eq_true rfl, Nat.le_of_ble_eq_true rfl⟩) ?_
      refine lv_if_ne (tgt := 29) hx hb dX11_read_23 rfl (fun c5 => ?_) (fun c5 => ?_)
      · have hf := it_f hf c5
        refine lv_aload_n hx hb dX11_read_29 rfl (lv_at hl 0 rfl) ?_
        refine lv_iload_n hx hb dX11_read_30 rfl (lv_at hl 1 rfl) ?_
        obtain ⟨r6, e6, hf⟩ := bd_some hf
        refine cr_i (va_runV (As := [.int p1]) (rest := []) ⟨hx, hb, hml, hown, hts⟩ (c_X11_isThere l E a0 v0 p1 r6 e6) (cwV 1 hts gX11_read_X11_isThere rfl rfl rfl hdV_X11_isThere ⟨Nat.le_of_ble_eq_true rfl, Nat.le_of_ble_eq_true rfl⟩) ⟨PR.blind, va_recv hC.1 hP (ci := 9) (q0 := 0) rfl rfl, PR.pre hC hS hP⟩ rfl rfl hl.1 rfl (lv_room (Nat.le_of_ble_eq_true rfl)) dX11_read_31 ⟨Nat.le_of_ble_eq_true rfl, Nat.le_of_ble_eq_true rfl⟩) ?_
        refine lv_if_ne (tgt := 41) hx hb dX11_read_34 rfl (fun c7 => ?_) (fun c7 => ?_)
        · have hf := it_f hf c7
          refine lv_aload_n hx hb dX11_read_41 rfl (lv_at hl 0 rfl) ?_
          refine lv_iload_n hx hb dX11_read_42 rfl (lv_at hl 1 rfl) ?_
          refine lv_iload_n hx hb dX11_read_43 rfl (lv_at hl 2 rfl) ?_
          obtain ⟨r8, e8, hf⟩ := bd_some hf
          refine cr_i (va_runV (As := [.int p1, .int p2]) (rest := []) ⟨hx, hb, hml, hown, hts⟩ (c_X11_isCell l E a0 v0 p1 p2 r8 e8) (cwV 2 hts gX11_read_X11_isCell rfl rfl rfl hdV_X11_isCell ⟨Nat.le_of_ble_eq_true rfl, Nat.le_of_ble_eq_true rfl⟩) ⟨PR.blind, va_recv hC.1 hP (ci := 9) (q0 := 0) rfl rfl, PR.pre hC hS hP⟩ rfl rfl hl.1 rfl (lv_room (Nat.le_of_ble_eq_true rfl)) dX11_read_44 ⟨Nat.le_of_ble_eq_true rfl, Nat.le_of_ble_eq_true rfl⟩) ?_
          refine lv_if_ne (tgt := 53) hx hb dX11_read_47 rfl (fun c9 => ?_) (fun c9 => ?_)
          · have hf := it_f hf c9
            refine lv_aload_n hx hb dX11_read_53 rfl (lv_at hl 0 rfl) ?_
            refine va_get (D := E.1) (ci := 9) (v := .ref (a0 1)) (C := RX11) (T := TX11) (N := 17) hx hb hts w4 hown hC.1 hP 0 rfl rfl 0 (by decide) w3 (fun _ h9 => h9) rfl dX11_read_54 ?_
            refine lv_iload_n hx hb dX11_read_57 rfl (lv_at hl 1 rfl) ?_
            refine lv_iload_n hx hb dX11_read_58 rfl (lv_at hl 2 rfl) ?_
            refine lv_aload_n hx hb dX11_read_59 rfl (lv_at hl 0 rfl) ?_
            refine va_get (D := E.1) (ci := 9) (v := .ref (a0 1)) (C := RX11) (T := TX11) (N := 17) hx hb hts w4 hown hC.1 hP 0 rfl rfl 0 (by decide) w3 (fun _ h9 => h9) rfl dX11_read_60 ?_
            refine lv_iconst (v := 2) hx hb dX11_read_63 rfl ?_
            obtain ⟨h10, hf⟩ := gdI_some hf
            refine va_lald hx hb hC.1 hP 1 1 rfl rfl h10 dX11_read_64 ?_
            refine lv_l2i hx hb dX11_read_65 rfl ?_
            obtain ⟨h11, hf⟩ := gdZ_some hf
            refine lv_idiv hx hb dX11_read_66 h11 ?_
            obtain ⟨r12, e12, hf⟩ := bd_some hf
            refine cr_i (va_runS (As := [.ref (a0 1), .int p1, .int (p2 / (v0.1 (2 : Int32).toNatClampNeg).toInt32)]) (rest := []) ⟨hx, hb, hml, hown, hts⟩ (c_X11_chunkOf l E (a0 1) v0.1 p1 (p2 / (v0.1 (2 : Int32).toNatClampNeg).toInt32) r12 e12) (va_cwS 3 hts gX11_read_X11_chunkOf rfl rfl rfl hdS_X11_chunkOf ⟨Nat.le_of_ble_eq_true rfl, Nat.le_of_ble_eq_true rfl⟩) ⟨PR.blind, PR.pre hC hS (hP.sub [1] rfl)⟩ rfl rfl hl.1 rfl (lv_room (Nat.le_of_ble_eq_true rfl)) dX11_read_67 ⟨Nat.le_of_ble_eq_true rfl, Nat.le_of_ble_eq_true rfl⟩) ?_
            refine lv_istore (lv' := [(4, .int r12), (0, .ref (a0 0)), (1, .int p1), (2, .int p2), (3, .int p3)]) hx hb dX11_read_70 hl (by decide) rfl (fun ls hl => ?_)
            refine lv_aload_n hx hb dX11_read_72 rfl (lv_at hl 1 rfl) ?_
            refine va_get (D := E.1) (ci := 9) (v := .ref (a0 1)) (C := RX11) (T := TX11) (N := 17) hx hb hts w4 hown hC.1 hP 0 rfl rfl 0 (by decide) w3 (fun _ h9 => h9) rfl dX11_read_73 ?_
            refine lv_iload_n hx hb dX11_read_76 rfl (lv_at hl 4 rfl) ?_
            obtain ⟨r13, e13, hf⟩ := bd_some hf
            refine cr_i (va_runS (As := [.ref (a0 1), .int p3]) (rest := []) ⟨hx, hb, hml, hown, hts⟩ (c_X11_isUp l E (a0 1) v0.1 p3 r13 e13) (va_cwS 2 hts gX11_read_X11_isUp rfl rfl rfl hdS_X11_isUp ⟨Nat.le_of_ble_eq_true rfl, Nat.le_of_ble_eq_true rfl⟩) ⟨PR.blind, PR.pre hC hS (hP.sub [1] rfl)⟩ rfl rfl hl.1 rfl (lv_room (Nat.le_of_ble_eq_true rfl)) dX11_read_77 ⟨Nat.le_of_ble_eq_true rfl, Nat.le_of_ble_eq_true rfl⟩) ?_
            refine lv_if_ne (tgt := 87) hx hb dX11_read_80 rfl (fun c14 => ?_) (fun c14 => ?_)
            · have hf := it_f hf c14
              refine lv_aload_n hx hb dX11_read_87 rfl (lv_at hl 1 rfl) ?_
              refine va_get (D := E.1) (ci := 9) (v := .ref (a0 1)) (C := RX11) (T := TX11) (N := 17) hx hb hts w4 hown hC.1 hP 0 rfl rfl 0 (by decide) w3 (fun _ h9 => h9) rfl dX11_read_88 ?_
              refine lv_iload hx hb dX11_read_91 (lv_at hl 0 rfl) ?_
              refine lv_iload_n hx hb dX11_read_93 rfl (lv_at hl 4 rfl) ?_
              obtain ⟨r15, e15, hf⟩ := bd_some hf
              refine cr_l (va_runS (As := [.ref (a0 1), .int r12, .int p3]) (rest := []) ⟨hx, hb, hml, hown, hts⟩ (c_X11_copy l E (a0 1) v0.1 r12 p3 r15 e15) (va_cwS 3 hts gX11_read_X11_copy rfl rfl rfl hdS_X11_copy ⟨Nat.le_of_ble_eq_true rfl, Nat.le_of_ble_eq_true rfl⟩) ⟨PR.blind, PR.pre hC hS (hP.sub [1] rfl)⟩ rfl rfl hl.1 rfl (lv_room (Nat.le_of_ble_eq_true rfl)) dX11_read_94 ⟨Nat.le_of_ble_eq_true rfl, Nat.le_of_ble_eq_true rfl⟩) ?_
              refine lv_lstore (lv' := [(5, .long r15), (4, .int r12), (0, .ref (a0 0)), (1, .int p1), (2, .int p2), (3, .int p3)]) hx hb dX11_read_97 hl (by decide) rfl (fun ls hl => ?_)
              refine lv_lload hx hb dX11_read_99 (lv_at hl 0 rfl) ?_
              refine lv_lconst (v := 0) hx hb dX11_read_101 rfl ?_
              refine W.lcmp hx hb dX11_read_102 ?_
              refine lv_if_ne (tgt := 111) hx hb dX11_read_103 rfl (fun c16 => ?_) (fun c16 => ?_)
              · have hf := it_f hf c16
                refine lv_aload_n hx hb dX11_read_111 rfl (lv_at hl 2 rfl) ?_
                refine va_get (D := E.1) (ci := 9) (v := .ref (a0 1)) (C := RX11) (T := TX11) (N := 17) hx hb hts w4 hown hC.1 hP 0 rfl rfl 0 (by decide) w3 (fun _ h9 => h9) rfl dX11_read_112 ?_
                refine lv_iload hx hb dX11_read_115 (lv_at hl 1 rfl) ?_
                refine lv_iload_n hx hb dX11_read_117 rfl (lv_at hl 5 rfl) ?_
                obtain ⟨r17, e17, hf⟩ := bd_some hf
                refine cr_i (va_runS (As := [.ref (a0 1), .int r12, .int p3]) (rest := []) ⟨hx, hb, hml, hown, hts⟩ (c_X11_isGood l E (a0 1) v0.1 r12 p3 r17 e17) (va_cwS 3 hts gX11_read_X11_isGood rfl rfl rfl hdS_X11_isGood ⟨Nat.le_of_ble_eq_true rfl, Nat.le_of_ble_eq_true rfl⟩) ⟨PR.blind, PR.pre hC hS (hP.sub [1] rfl)⟩ rfl rfl hl.1 rfl (lv_room (Nat.le_of_ble_eq_true rfl)) dX11_read_118 ⟨Nat.le_of_ble_eq_true rfl, Nat.le_of_ble_eq_true rfl⟩) ?_
                refine lv_if_ne (tgt := 130) hx hb dX11_read_121 rfl (fun c18 => ?_) (fun c18 => ?_)
                · have hf := it_f hf c18
                  refine lv_lload hx hb dX11_read_130 (lv_at hl 0 rfl) ?_
                  refine lv_iload_n hx hb dX11_read_132 rfl (lv_at hl 4 rfl) ?_
                  refine lv_aload_n hx hb dX11_read_133 rfl (lv_at hl 2 rfl) ?_
                  refine va_get (D := E.1) (ci := 9) (v := .ref (a0 1)) (C := RX11) (T := TX11) (N := 17) hx hb hts w4 hown hC.1 hP 0 rfl rfl 0 (by decide) w3 (fun _ h9 => h9) rfl dX11_read_134 ?_
                  refine lv_iconst (v := 2) hx hb dX11_read_137 rfl ?_
                  obtain ⟨h19, hf⟩ := gdI_some hf
                  refine va_lald hx hb hC.1 hP 1 1 rfl rfl h19 dX11_read_138 ?_
                  refine lv_l2i hx hb dX11_read_139 rfl ?_
                  obtain ⟨h20, hf⟩ := gdZ_some hf
                  refine lv_irem hx hb dX11_read_140 h20 ?_
                  refine cr_i (va_runS (As := [.long r15, .int (p2 - p2 / (v0.1 (2 : Int32).toNatClampNeg).toInt32 * (v0.1 (2 : Int32).toNatClampNeg).toInt32)]) (rest := []) ⟨hx, hb, hml, hown, hts⟩ (c_X11_cell l E r15 (p2 - p2 / (v0.1 (2 : Int32).toNatClampNeg).toInt32 * (v0.1 (2 : Int32).toNatClampNeg).toInt32) _ rfl) (va_cwS 2 hts gX11_read_X11_cell rfl rfl rfl hdS_X11_cell ⟨Nat.le_of_ble_eq_true rfl, Nat.le_of_ble_eq_true rfl⟩) ⟨PR.blind, PR.pre hC hS (hP.sub [] rfl)⟩ rfl rfl hl.1 rfl (lv_room (Nat.le_of_ble_eq_true rfl)) dX11_read_141 ⟨Nat.le_of_ble_eq_true rfl, Nat.le_of_ble_eq_true rfl⟩) ?_
                  refine cr_i (va_runS (As := [.int (f_X11_cell r15 (p2 - p2 / (v0.1 (2 : Int32).toNatClampNeg).toInt32 * (v0.1 (2 : Int32).toNatClampNeg).toInt32))]) (rest := []) ⟨hx, hb, hml, hown, hts⟩ (c_X11_told l E (f_X11_cell r15 (p2 - p2 / (v0.1 (2 : Int32).toNatClampNeg).toInt32 * (v0.1 (2 : Int32).toNatClampNeg).toInt32)) _ rfl) (va_cwS 1 hts gX11_read_X11_told rfl rfl rfl hdS_X11_told ⟨Nat.le_of_ble_eq_true rfl, Nat.le_of_ble_eq_true rfl⟩) ⟨PR.blind, PR.pre hC hS (hP.sub [] rfl)⟩ rfl rfl hl.1 rfl (lv_room (Nat.le_of_ble_eq_true rfl)) dX11_read_144 ⟨Nat.le_of_ble_eq_true rfl, Nat.le_of_ble_eq_true rfl⟩) ?_
                  cases Option.some.inj hf
                  subst hQe
                  exact en_i hx hb hr hlocks dX11_read_147
                · have hf := it_t hf c18
                  refine lv_ldcw hx hb hown w7 dX11_read_124 ?_
                  refine lv_goto (tgt := 147) hx hb dX11_read_127 rfl ?_
                  cases Option.some.inj hf
                  subst hQe
                  exact en_i hx hb hr hlocks dX11_read_147
              · have hf := it_t hf c16
                refine lv_ldc hx hb hown w6 dX11_read_106 ?_
                refine lv_goto (tgt := 147) hx hb dX11_read_108 rfl ?_
                cases Option.some.inj hf
                subst hQe
                exact en_i hx hb hr hlocks dX11_read_147
            · have hf := it_t hf c14
              refine lv_ldcw hx hb hown w5 dX11_read_83 ?_
              cases Option.some.inj hf
              subst hQe
              exact en_i hx hb hr hlocks dX11_read_86
          · have hf := it_t hf c9
            refine lv_ldc hx hb hown w2 dX11_read_50 ?_
            cases Option.some.inj hf
            subst hQe
            exact en_i hx hb hr hlocks dX11_read_52
        · have hf := it_t hf c7
          refine lv_ldcw hx hb hown w1 dX11_read_37 ?_
          cases Option.some.inj hf
          subst hQe
          exact en_i hx hb hr hlocks dX11_read_40
      · have hf := it_t hf c5
        refine lv_ldc hx hb hown w2 dX11_read_26 ?_
        cases Option.some.inj hf
        subst hQe
        exact en_i hx hb hr hlocks dX11_read_28
  · have hf := it_t hf c2
    refine lv_ldcw hx hb hown w1 dX11_read_7 ?_
    cases Option.some.inj hf
    subst hQe
    exact en_i hx hb hr hlocks dX11_read_10

/-! X11_foundIn -/
abbrev rmX11_foundIn : Room := { frames := 1, cells := 0, slots := 0, locals := 22 }
theorem hdS_X11_foundIn : yX11_foundIn.cls ≠ "java/lang/invoke/MethodHandle" ∧ yX11_foundIn.cls ≠ "java/lang/invoke/VarHandle" ∧ (parseMethodDescriptor yX11_foundIn.desc).map (fun d => d.parameters.length) = some 1 := by decide +kernel
theorem hdV_X11_foundIn : yX11_foundIn.cls = RX11 ∧ yX11_foundIn.cls ≠ "java/lang/invoke/MethodHandle" ∧ yX11_foundIn.cls ≠ "java/lang/invoke/VarHandle" ∧ (parseMethodDescriptor yX11_foundIn.desc).map (fun d => d.parameters.length) = some 1 := ⟨rfl, hdS_X11_foundIn⟩
set_option maxHeartbeats 4000000 in
set_option maxRecDepth 100000 in
theorem c_X11_foundIn (l : Launch) (E : G0) (a0 : Nat → Nat) (v0 : MD) (p1 : Int64) (x : Int32) (hf : f_X11_foundIn v0 p1 = some x) : Met l yX11_foundIn wsX11_foundIn rmX11_foundIn (va_Pc [.ref (a0 0), .long p1] (PR E (wMD E a0 v0))) (vp_Si (fun r => r = x)) 0 0 (fun _ => False) := by
  refine Met.ofW (cc := cX11_foundIn) (maxL := 7) (ret := some .int) (by decide) rfl ?_
  intro p e s m args below meth c s₁ B hml hv
  obtain ⟨ha, hP, hC⟩ := hv
  have hx := B.exec
  have hb := B.bytes
  have hr := B.returns
  have hts := atoms_spec (ws := wsX11_foundIn) B.pre
  have hown : s.vm.findClass RX11 = some m.cls := findClass_of_methodNamed B.named
  have hlocks := B.notSynchronized
  have hS : va_S (fun _ => False) s.heap s.heap [] := va_S.rf
  have w1 : (Cond.fieldLink RX11 143 "GreatChunksModel" "letters" "I").before args s = true := hts _ (List.mem_of_getElem? (i := 1) rfl)
  have w2 : ∀ w ∈ wsX110, w ∈ wsX11_foundIn := in_pl 9 rfl
  have w3 : (Cond.fieldLink RX11 7 "GreatChunksModel" "now" "[J").before args s = true := hts _ (List.mem_of_getElem? (i := 2) rfl)
  have w4 : (Cond.fieldLink RX11 30 "GreatChunksModel" "record" "[I").before args s = true := hts _ (List.mem_of_getElem? (i := 3) rfl)
  generalize hQe : MQ below (vp_Si (fun r => r = x)) args s 0 0 (fun _ => False) = Q
  refine st_W ha (Nat.le_of_ble_eq_true rfl) (fun ls hl => ?_)
  have hl : lv_has ls 7 [(0, .ref (a0 0)), (1, .long p1)] := hl
  unfold f_X11_foundIn at hf
  refine lv_iconst (v := 0) hx hb dX11_foundIn_0 rfl ?_
  refine lv_istore_n (lv' := [(3, .int (0 : Int32)), (0, .ref (a0 0)), (1, .long p1)]) hx hb dX11_foundIn_1 rfl hl (by decide) rfl (fun ls hl => ?_)
  refine lv_iconst (v := 0) hx hb dX11_foundIn_2 rfl ?_
  refine lv_istore (lv' := [(4, .int (0 : Int32)), (3, .int (0 : Int32)), (0, .ref (a0 0)), (1, .long p1)]) hx hb dX11_foundIn_3 hl (by decide) rfl (fun ls hl => ?_)
  obtain ⟨K1, hK1, hf⟩ := jn_some hf
  have J1 : ∀ (q1 : Int32 × Int32) (ls : Array Slot) (hl : lv_has ls 7 [(3, .int q1.1)]) (hf : K1 q1 = some x), W p l e (headSpec wsX11_foundIn rmX11_foundIn).room s m args below meth c s.heap [] 0 0 Q (F0 m 94 ls []) := by
    intro q1 ls hl hf
    have hf := (hK1 q1).trans hf
    refine lv_iload_n hx hb dX11_foundIn_94 rfl (lv_at hl 0 rfl) ?_
    cases Option.some.inj hf
    subst hQe
    exact en_i hx hb hr hlocks dX11_foundIn_95
  have L1 : ∀ (n : Nat) (q1 : Int32 × Int32) (ls : Array Slot) (hl : lv_has ls 7 [(0, .ref (a0 0)), (1, .long p1), (3, .int q1.1), (4, .int q1.2)]) (hf : lpF (bX11_foundIn_1 v0 p1 K1) n q1 = some x), W p l e (headSpec wsX11_foundIn rmX11_foundIn).room s m args below meth c s.heap [] 0 0 Q (F0 m 5 ls []) := by
    intro n
    induction n with
    | zero => intro q1 ls hl hf; exact (lpF_zero hf).elim
    | succ n ih1 =>
      intro q1 ls hl hf
      have hf := lpF_succ hf
      unfold bX11_foundIn_1 at hf
      refine lv_iload hx hb dX11_foundIn_5 (lv_at hl 3 rfl) ?_
      refine lv_aload_n hx hb dX11_foundIn_7 rfl (lv_at hl 0 rfl) ?_
      refine va_get (D := E.1) (ci := 9) (v := .int v0.2.2.2.2.2.2.2.2.2.2.2.2.2.2.2.2) (C := RX11) (T := TX11) (N := 17) hx hb hts w2 hown hC.1 hP 0 rfl rfl 16 (by decide) w1 (fun _ h9 => h9) rfl dX11_foundIn_8 ?_
      refine lv_iadd hx hb dX11_foundIn_11 ?_
      refine lv_i2l hx hb dX11_foundIn_12 rfl ?_
      refine lv_aload_n hx hb dX11_foundIn_13 rfl (lv_at hl 0 rfl) ?_
      refine va_get (D := E.1) (ci := 9) (v := .ref (a0 1)) (C := RX11) (T := TX11) (N := 17) hx hb hts w2 hown hC.1 hP 0 rfl rfl 0 (by decide) w3 (fun _ h9 => h9) rfl dX11_foundIn_14 ?_
      refine lv_iconst (v := 2) hx hb dX11_foundIn_17 rfl ?_
      obtain ⟨h2, hf⟩ := gdI_some hf
      refine va_lald hx hb hC.1 hP 1 1 rfl rfl h2 dX11_foundIn_18 ?_
      refine W.lcmp hx hb dX11_foundIn_19 ?_
      refine lv_if_gt (tgt := 94) hx hb dX11_foundIn_20 rfl (fun c3 => ?_) (fun c3 => ?_)
      · have hf := it_t hf c3
        exact J1 (q1.1, q1.2) ls (lv_sub hl [2] rfl) hf
      · have hf := it_f hf c3
        refine lv_iconst (v := 1) hx hb dX11_foundIn_23 rfl ?_
        refine lv_istore (lv' := [(5, .int (1 : Int32)), (0, .ref (a0 0)), (1, .long p1), (3, .int q1.1), (4, .int q1.2)]) hx hb dX11_foundIn_24 hl (by decide) rfl (fun ls hl => ?_)
        refine lv_iconst (v := 0) hx hb dX11_foundIn_26 rfl ?_
        refine lv_istore (lv' := [(6, .int (0 : Int32)), (5, .int (1 : Int32)), (0, .ref (a0 0)), (1, .long p1), (3, .int q1.1), (4, .int q1.2)]) hx hb dX11_foundIn_27 hl (by decide) rfl (fun ls hl => ?_)
        obtain ⟨K4, hK4, hf⟩ := jn_some hf
        have J4 : ∀ (q4 : Bool × Int32) (ls : Array Slot) (hl : lv_has ls 7 [(0, .ref (a0 0)), (1, .long p1), (3, .int q1.1), (4, .int q1.2), (5, .int (bI q4.1))]) (hf : K4 q4 = some x), W p l e (headSpec wsX11_foundIn rmX11_foundIn).room s m args below meth c s.heap [] 0 0 Q (F0 m 75 ls []) := by
          intro q4 ls hl hf
          have hf := (hK4 q4).trans hf
          refine lv_iload_n hx hb dX11_foundIn_75 rfl (lv_at hl 2 rfl) ?_
          refine lv_iload hx hb dX11_foundIn_76 (lv_at hl 4 rfl) ?_
          refine lv_if_eq (tgt := 85) hx hb dX11_foundIn_78 rfl (fun c5 => ?_) (fun c5 => ?_)
          · have hf := it_t hf c5
            refine lv_iconst (v := 0) hx hb dX11_foundIn_85 rfl ?_
            refine lv_iadd hx hb dX11_foundIn_86 ?_
            refine lv_istore_n (lv' := [(3, .int (q1.1 + (0 : Int32))), (0, .ref (a0 0)), (1, .long p1), (4, .int q1.2), (5, .int (bI q4.1))]) hx hb dX11_foundIn_87 rfl hl (by decide) rfl (fun ls hl => ?_)
            refine lv_iinc (v := (q1.2 + 1)) (lv' := [(4, .int (q1.2 + 1)), (3, .int (q1.1 + (0 : Int32))), (0, .ref (a0 0)), (1, .long p1), (5, .int (bI q4.1))]) hx hb dX11_foundIn_88 hl (k := 3) rfl rfl (by decide) rfl (fun ls hl => ?_)
            refine lv_goto (tgt := 5) hx hb dX11_foundIn_91 rfl ?_
            exact ih1 ((q1.1 + (0 : Int32)), (q1.2 + 1)) ls (lv_sub hl [2, 3, 1, 0] rfl) hf
          · have hf := it_f hf c5
            refine lv_iconst (v := 1) hx hb dX11_foundIn_81 rfl ?_
            refine lv_goto (tgt := 86) hx hb dX11_foundIn_82 rfl ?_
            refine lv_iadd hx hb dX11_foundIn_86 ?_
            refine lv_istore_n (lv' := [(3, .int (q1.1 + (1 : Int32))), (0, .ref (a0 0)), (1, .long p1), (4, .int q1.2), (5, .int (bI q4.1))]) hx hb dX11_foundIn_87 rfl hl (by decide) rfl (fun ls hl => ?_)
            refine lv_iinc (v := (q1.2 + 1)) (lv' := [(4, .int (q1.2 + 1)), (3, .int (q1.1 + (1 : Int32))), (0, .ref (a0 0)), (1, .long p1), (5, .int (bI q4.1))]) hx hb dX11_foundIn_88 hl (k := 3) rfl rfl (by decide) rfl (fun ls hl => ?_)
            refine lv_goto (tgt := 5) hx hb dX11_foundIn_91 rfl ?_
            exact ih1 ((q1.1 + (1 : Int32)), (q1.2 + 1)) ls (lv_sub hl [2, 3, 1, 0] rfl) hf
        have L4 : ∀ (n : Nat) (q4 : Bool × Int32) (ls : Array Slot) (hl : lv_has ls 7 [(0, .ref (a0 0)), (1, .long p1), (3, .int q1.1), (4, .int q1.2), (5, .int (bI q4.1)), (6, .int q4.2)]) (hf : lpF (bX11_foundIn_4 v0 p1 q1 K4) n q4 = some x), W p l e (headSpec wsX11_foundIn rmX11_foundIn).room s m args below meth c s.heap [] 0 0 Q (F0 m 29 ls []) := by
          intro n
          induction n with
          | zero => intro q4 ls hl hf; exact (lpF_zero hf).elim
          | succ n ih4 =>
            intro q4 ls hl hf
            have hf := lpF_succ hf
            unfold bX11_foundIn_4 at hf
            refine lv_iload hx hb dX11_foundIn_29 (lv_at hl 5 rfl) ?_
            refine lv_aload_n hx hb dX11_foundIn_31 rfl (lv_at hl 0 rfl) ?_
            refine va_get (D := E.1) (ci := 9) (v := .int v0.2.2.2.2.2.2.2.2.2.2.2.2.2.2.2.2) (C := RX11) (T := TX11) (N := 17) hx hb hts w2 hown hC.1 hP 0 rfl rfl 16 (by decide) w1 (fun _ h9 => h9) rfl dX11_foundIn_32 ?_
            refine lv_icmp_ge (tgt := 75) hx hb dX11_foundIn_35 rfl (fun c6 => ?_) (fun c6 => ?_)
            · have hf := it_t hf c6
              exact J4 (q4.1, q4.2) ls (lv_sub hl [0, 1, 2, 3, 4] rfl) hf
            · have hf := it_f hf c6
              refine lv_iload hx hb dX11_foundIn_38 (lv_at hl 4 rfl) ?_
              refine lv_if_eq (tgt := 66) hx hb dX11_foundIn_40 rfl (fun c7 => ?_) (fun c7 => ?_)
              · have hf := it_t hf c7
                refine lv_iconst (v := 0) hx hb dX11_foundIn_66 rfl ?_
                refine lv_istore (lv' := [(5, .int (0 : Int32)), (0, .ref (a0 0)), (1, .long p1), (3, .int q1.1), (4, .int q1.2), (6, .int q4.2)]) hx hb dX11_foundIn_67 hl (by decide) rfl (fun ls hl => ?_)
                refine lv_iinc (v := (q4.2 + 1)) (lv' := [(6, .int (q4.2 + 1)), (5, .int (0 : Int32)), (0, .ref (a0 0)), (1, .long p1), (3, .int q1.1), (4, .int q1.2)]) hx hb dX11_foundIn_69 hl (k := 5) rfl rfl (by decide) rfl (fun ls hl => ?_)
                refine lv_goto (tgt := 29) hx hb dX11_foundIn_72 rfl ?_
                exact ih4 (false, (q4.2 + 1)) ls (lv_sub hl [2, 3, 4, 5, 1, 0] rfl) hf
              · have hf := it_f hf c7
                refine lv_lload_n hx hb dX11_foundIn_43 rfl (lv_at hl 1 rfl) ?_
                refine lv_iload hx hb dX11_foundIn_44 (lv_at hl 3 rfl) ?_
                refine lv_iload hx hb dX11_foundIn_46 (lv_at hl 5 rfl) ?_
                refine lv_iadd hx hb dX11_foundIn_48 ?_
                refine cr_i (va_runS (As := [.long p1, .int (q1.2 + q4.2)]) (rest := []) ⟨hx, hb, hml, hown, hts⟩ (c_X11_cell l E p1 (q1.2 + q4.2) _ rfl) (va_cwS 2 hts gX11_foundIn_X11_cell rfl rfl rfl hdS_X11_cell ⟨Nat.le_of_ble_eq_true rfl, Nat.le_of_ble_eq_true rfl⟩) ⟨PR.blind, PR.pre hC hS (hP.sub [] rfl)⟩ rfl rfl hl.1 rfl (lv_room (Nat.le_of_ble_eq_true rfl)) dX11_foundIn_49 ⟨Nat.le_of_ble_eq_true rfl, Nat.le_of_ble_eq_true rfl⟩) ?_
                refine lv_aload_n hx hb dX11_foundIn_52 rfl (lv_at hl 0 rfl) ?_
                refine va_get (D := E.1) (ci := 9) (v := .ref (a0 7)) (C := RX11) (T := TX11) (N := 17) hx hb hts w2 hown hC.1 hP 0 rfl rfl 15 (by decide) w4 (fun _ h9 => h9) rfl dX11_foundIn_53 ?_
                refine lv_iload hx hb dX11_foundIn_56 (lv_at hl 5 rfl) ?_
                obtain ⟨h8, hf⟩ := gdI_some hf
                refine va_iald hx hb hC.1 hP 7 0 rfl rfl h8 dX11_foundIn_58 ?_
                refine lv_icmp_ne (tgt := 66) hx hb dX11_foundIn_59 rfl (fun c9 => ?_) (fun c9 => ?_)
                · have hf := it_f hf c9
                  refine lv_iconst (v := 0) hx hb dX11_foundIn_66 rfl ?_
                  refine lv_istore (lv' := [(5, .int (0 : Int32)), (0, .ref (a0 0)), (1, .long p1), (3, .int q1.1), (4, .int q1.2), (6, .int q4.2)]) hx hb dX11_foundIn_67 hl (by decide) rfl (fun ls hl => ?_)
                  refine lv_iinc (v := (q4.2 + 1)) (lv' := [(6, .int (q4.2 + 1)), (5, .int (0 : Int32)), (0, .ref (a0 0)), (1, .long p1), (3, .int q1.1), (4, .int q1.2)]) hx hb dX11_foundIn_69 hl (k := 5) rfl rfl (by decide) rfl (fun ls hl => ?_)
                  refine lv_goto (tgt := 29) hx hb dX11_foundIn_72 rfl ?_
                  exact ih4 (false, (q4.2 + 1)) ls (lv_sub hl [2, 3, 4, 5, 1, 0] rfl) hf
                · have hf := it_t hf c9
                  refine lv_iconst (v := 1) hx hb dX11_foundIn_62 rfl ?_
                  refine lv_goto (tgt := 67) hx hb dX11_foundIn_63 rfl ?_
                  refine lv_istore (lv' := [(5, .int (1 : Int32)), (0, .ref (a0 0)), (1, .long p1), (3, .int q1.1), (4, .int q1.2), (6, .int q4.2)]) hx hb dX11_foundIn_67 hl (by decide) rfl (fun ls hl => ?_)
                  refine lv_iinc (v := (q4.2 + 1)) (lv' := [(6, .int (q4.2 + 1)), (5, .int (1 : Int32)), (0, .ref (a0 0)), (1, .long p1), (3, .int q1.1), (4, .int q1.2)]) hx hb dX11_foundIn_69 hl (k := 5) rfl rfl (by decide) rfl (fun ls hl => ?_)
                  refine lv_goto (tgt := 29) hx hb dX11_foundIn_72 rfl ?_
                  exact ih4 (true, (q4.2 + 1)) ls (lv_sub hl [2, 3, 4, 5, 1, 0] rfl) hf
        exact L4 FU (true, (0 : Int32)) ls (lv_sub hl [2, 3, 4, 5, 1, 0] rfl) hf
  exact L1 FU ((0 : Int32), (0 : Int32)) ls (lv_sub hl [2, 3, 1, 0] rfl) hf

/-! X11_find -/
abbrev rmX11_find : Room := { frames := 4, cells := 0, slots := 0, locals := 89 }
theorem hdS_X11_find : yX11_find.cls ≠ "java/lang/invoke/MethodHandle" ∧ yX11_find.cls ≠ "java/lang/invoke/VarHandle" ∧ (parseMethodDescriptor yX11_find.desc).map (fun d => d.parameters.length) = some 1 := by decide +kernel
theorem hdV_X11_find : yX11_find.cls = RX11 ∧ yX11_find.cls ≠ "java/lang/invoke/MethodHandle" ∧ yX11_find.cls ≠ "java/lang/invoke/VarHandle" ∧ (parseMethodDescriptor yX11_find.desc).map (fun d => d.parameters.length) = some 1 := ⟨rfl, hdS_X11_find⟩
set_option maxHeartbeats 4000000 in
set_option maxRecDepth 100000 in
theorem c_X11_find (l : Launch) (E : G0) (sz : Nat) (a0 : Nat → Nat) (v0 : MD) (p1 : Int32) (x : Int32 × MD) (hf : f_X11_find v0 p1 = some x) : Met l yX11_find wsX11_find rmX11_find (va_Pc [.ref (a0 0), .int p1] (PW E (wMD E a0 v0) sz)) (va_Qi (fun r q => r = x.1 ∧ q = x.2) (fun q t => va_P E.1 vwCl ((fun q : MD => wMD E a0 q) q) t.heap ∧ va_D (va_A (wMD E a0 v0) sz) ((fun q : MD => wMD E a0 q) q)) (va_A (wMD E a0 v0) sz)) 0 0 (va_A (wMD E a0 v0) sz) := by
  refine Met.ofW (cc := cX11_find) (maxL := 7) (ret := some .int) (by decide) rfl ?_
  intro p e s m args below meth c s₁ B hml hv
  obtain ⟨ha, hsz, hP, hD0, hC⟩ := hv
  have hx := B.exec
  have hb := B.bytes
  have hr := B.returns
  have hts := atoms_spec (ws := wsX11_find) B.pre
  have hown : s.vm.findClass RX11 = some m.cls := findClass_of_methodNamed B.named
  have hlocks := B.notSynchronized
  subst hsz
  have hD := hD0.self (sz := s.heap.size)
  generalize hAe : va_A (wMD E a0 v0) s.heap.size = A at hD hC ⊢
  have hA : ∀ q : Nat, s.heap.size ≤ q → A q := fun q h => by rw [← hAe]; exact Or.inr h
  have hS : va_S A s.heap s.heap [] := va_S.rf
  have w1 : (Cond.constant RX11 235 (-1000001)).before args s = true := hts _ (List.mem_of_getElem? (i := 2) rfl)
  have w2 : (Cond.fieldLink RX11 7 "GreatChunksModel" "now" "[J").before args s = true := hts _ (List.mem_of_getElem? (i := 3) rfl)
  have w3 : ∀ w ∈ wsX110, w ∈ wsX11_find := in_pl 70 rfl
  have w4 : (Cond.constant RX11 107 (-1000004)).before args s = true := hts _ (List.mem_of_getElem? (i := 4) rfl)
  have w5 : (Cond.constant RX11 261 (-1000002)).before args s = true := hts _ (List.mem_of_getElem? (i := 1) rfl)
  generalize hQe : MQ below (va_Qi (fun r q => r = x.1 ∧ q = x.2) (fun q t => va_P E.1 vwCl ((fun q : MD => wMD E a0 q) q) t.heap ∧ va_D A ((fun q : MD => wMD E a0 q) q)) A) args s 0 0 A = Q
  refine st_W ha (Nat.le_of_ble_eq_true rfl) (fun ls hl => ?_)
  have hl : lv_has ls 7 [(0, .ref (a0 0)), (1, .int p1)] := hl
  unfold f_X11_find at hf
  refine lv_aload_n hx hb dX11_find_0 rfl (lv_at hl 0 rfl) ?_
  obtain ⟨r1, e1, hf⟩ := bd_some hf
  refine cq_i hP hD hS [0, 1, 2, 3, 4, 5, 6, 7] [] [0, 1, 2, 3, 4, 5, 6, 7] (va_free (wc := (wMD E a0 v0)) hD hS hA [0, 1, 2, 3, 4, 5, 6, 7] rfl) (va_runV (As := []) (rest := []) ⟨hx, hb, hml, hown, hts⟩ (c_X11_isRecord l E s.heap.size a0 v0 r1 e1) (cwV 0 hts gX11_find_X11_isRecord rfl rfl rfl hdV_X11_isRecord ⟨Nat.le_of_ble_eq_true rfl, Nat.le_of_ble_eq_true rfl⟩) ⟨PW.blind, va_recv hC.1 hP (ci := 9) (q0 := 0) rfl rfl, PW.pre hC hS hP hD (va_free hD hS hA [0, 1, 2, 3, 4, 5, 6, 7] rfl)⟩ rfl rfl hl.1 rfl (lv_room (Nat.le_of_ble_eq_true rfl)) dX11_find_1 ⟨Nat.le_of_ble_eq_true rfl, Nat.le_of_ble_eq_true rfl⟩) rfl rfl rfl rfl (wMD E a0 r1.2) rfl rfl (fun H locs hP hD hS => ?_)
  refine lv_istore_n (lv' := [(2, .int (bI r1.1)), (0, .ref (a0 0)), (1, .int p1)]) hx hb dX11_find_4 rfl hl (by decide) rfl (fun ls hl => ?_)
  refine lv_aload_n hx hb dX11_find_5 rfl (lv_at hl 1 rfl) ?_
  obtain ⟨r2, e2, hf⟩ := bd_some hf
  refine cr_i (va_runV (As := []) (rest := []) ⟨hx, hb, hml, hown, hts⟩ (c_X11_isHouse l E a0 r1.2 r2 e2) (cwV 0 hts gX11_find_X11_isHouse rfl rfl rfl hdV_X11_isHouse ⟨Nat.le_of_ble_eq_true rfl, Nat.le_of_ble_eq_true rfl⟩) ⟨PR.blind, va_recv hC.1 hP (ci := 9) (q0 := 0) rfl rfl, PR.pre hC hS hP⟩ rfl rfl hl.1 rfl (lv_room (Nat.le_of_ble_eq_true rfl)) dX11_find_6 ⟨Nat.le_of_ble_eq_true rfl, Nat.le_of_ble_eq_true rfl⟩) ?_
  refine lv_if_ne (tgt := 16) hx hb dX11_find_9 rfl (fun c3 => ?_) (fun c3 => ?_)
  · have hf := it_f hf c3
    refine lv_iload_n hx hb dX11_find_16 rfl (lv_at hl 2 rfl) ?_
    refine cr_i (va_runS (As := [.int p1]) (rest := []) ⟨hx, hb, hml, hown, hts⟩ (c_X11_isFile l E p1 _ rfl) (va_cwS 1 hts gX11_find_X11_isFile rfl rfl rfl hdS_X11_isFile ⟨Nat.le_of_ble_eq_true rfl, Nat.le_of_ble_eq_true rfl⟩) ⟨PR.blind, PR.pre hC hS (hP.sub [] rfl)⟩ rfl rfl hl.1 rfl (lv_room (Nat.le_of_ble_eq_true rfl)) dX11_find_17 ⟨Nat.le_of_ble_eq_true rfl, Nat.le_of_ble_eq_true rfl⟩) ?_
    refine lv_if_eq (tgt := 27) hx hb dX11_find_20 rfl (fun c4 => ?_) (fun c4 => ?_)
    · have hf := it_t hf c4
      refine lv_ldc hx hb hown w1 dX11_find_27 ?_
      cases Option.some.inj hf
      subst hQe
      exact ew_i (wf := (fun q : MD => wMD E a0 q)) hx hb hr hlocks hP hD hS dX11_find_29
    · have hf := it_f hf c4
      refine lv_iload_n hx hb dX11_find_23 rfl (lv_at hl 0 rfl) ?_
      refine lv_if_ne (tgt := 30) hx hb dX11_find_24 rfl (fun c5 => ?_) (fun c5 => ?_)
      · have hf := it_f hf c5
        refine lv_aload_n hx hb dX11_find_30 rfl (lv_at hl 1 rfl) ?_
        refine lv_iload_n hx hb dX11_find_31 rfl (lv_at hl 2 rfl) ?_
        obtain ⟨r6, e6, hf⟩ := bd_some hf
        refine cr_i (va_runV (As := [.int p1]) (rest := []) ⟨hx, hb, hml, hown, hts⟩ (c_X11_isThere l E a0 r1.2 p1 r6 e6) (cwV 1 hts gX11_find_X11_isThere rfl rfl rfl hdV_X11_isThere ⟨Nat.le_of_ble_eq_true rfl, Nat.le_of_ble_eq_true rfl⟩) ⟨PR.blind, va_recv hC.1 hP (ci := 9) (q0 := 0) rfl rfl, PR.pre hC hS hP⟩ rfl rfl hl.1 rfl (lv_room (Nat.le_of_ble_eq_true rfl)) dX11_find_32 ⟨Nat.le_of_ble_eq_true rfl, Nat.le_of_ble_eq_true rfl⟩) ?_
        refine lv_if_ne (tgt := 42) hx hb dX11_find_35 rfl (fun c7 => ?_) (fun c7 => ?_)
        · have hf := it_f hf c7
          refine lv_iconst (v := 0) hx hb dX11_find_42 rfl ?_
          refine lv_istore_n (lv' := [(3, .int (0 : Int32)), (2, .int (bI r1.1)), (0, .ref (a0 0)), (1, .int p1)]) hx hb dX11_find_43 rfl hl (by decide) rfl (fun ls hl => ?_)
          refine lv_iconst (v := 0) hx hb dX11_find_44 rfl ?_
          refine lv_istore (lv' := [(4, .int (0 : Int32)), (3, .int (0 : Int32)), (2, .int (bI r1.1)), (0, .ref (a0 0)), (1, .int p1)]) hx hb dX11_find_45 hl (by decide) rfl (fun ls hl => ?_)
          obtain ⟨K8, hK8, hf⟩ := jn_some hf
          have J8 : ∀ (q8 : Int32 × Int32) (ls : Array Slot) (hl : lv_has ls 7 [(3, .int q8.1)]) (hf : K8 q8 = some x), W p l e (headSpec wsX11_find rmX11_find).room s m args below meth c H locs 0 0 Q (F0 m 118 ls []) := by
            intro q8 ls hl hf
            have hf := (hK8 q8).trans hf
            refine lv_iload_n hx hb dX11_find_118 rfl (lv_at hl 0 rfl) ?_
            cases Option.some.inj hf
            subst hQe
            exact ew_i (wf := (fun q : MD => wMD E a0 q)) hx hb hr hlocks hP hD hS dX11_find_119
          have L8 : ∀ (n : Nat) (q8 : Int32 × Int32) (ls : Array Slot) (hl : lv_has ls 7 [(0, .ref (a0 0)), (1, .int p1), (3, .int q8.1), (4, .int q8.2)]) (hf : lpF (bX11_find_8 r1 p1 K8) n q8 = some x), W p l e (headSpec wsX11_find rmX11_find).room s m args below meth c H locs 0 0 Q (F0 m 47 ls []) := by
            intro n
            induction n with
            | zero => intro q8 ls hl hf; exact (lpF_zero hf).elim
            | succ n ih8 =>
              intro q8 ls hl hf
              have hf := lpF_succ hf
              unfold bX11_find_8 at hf
              refine lv_iload hx hb dX11_find_47 (lv_at hl 3 rfl) ?_
              refine lv_aload_n hx hb dX11_find_49 rfl (lv_at hl 0 rfl) ?_
              refine va_get (D := E.1) (ci := 9) (v := .ref (a0 1)) (C := RX11) (T := TX11) (N := 17) hx hb hts w3 hown hC.1 hP 0 rfl rfl 0 (by decide) w2 (fun _ h9 => h9) rfl dX11_find_50 ?_
              refine lv_iload_n hx hb dX11_find_53 rfl (lv_at hl 1 rfl) ?_
              obtain ⟨r9, e9, hf⟩ := bd_some hf
              refine cr_i (va_runS (As := [.ref (a0 1), .int p1]) (rest := [.int q8.2]) ⟨hx, hb, hml, hown, hts⟩ (c_X11_many l E (a0 1) r1.2.1 p1 r9 e9) (va_cwS 2 hts gX11_find_X11_many rfl rfl rfl hdS_X11_many ⟨Nat.le_of_ble_eq_true rfl, Nat.le_of_ble_eq_true rfl⟩) ⟨PR.blind, PR.pre hC hS (hP.sub [1] rfl)⟩ rfl rfl hl.1 rfl (lv_room (Nat.le_of_ble_eq_true rfl)) dX11_find_54 ⟨Nat.le_of_ble_eq_true rfl, Nat.le_of_ble_eq_true rfl⟩) ?_
              refine lv_icmp_ge (tgt := 118) hx hb dX11_find_57 rfl (fun c10 => ?_) (fun c10 => ?_)
              · have hf := it_t hf c10
                exact J8 (q8.1, q8.2) ls (lv_sub hl [2] rfl) hf
              · have hf := it_f hf c10
                refine lv_aload_n hx hb dX11_find_60 rfl (lv_at hl 0 rfl) ?_
                refine va_get (D := E.1) (ci := 9) (v := .ref (a0 1)) (C := RX11) (T := TX11) (N := 17) hx hb hts w3 hown hC.1 hP 0 rfl rfl 0 (by decide) w2 (fun _ h9 => h9) rfl dX11_find_61 ?_
                refine lv_iload_n hx hb dX11_find_64 rfl (lv_at hl 1 rfl) ?_
                refine lv_iload hx hb dX11_find_65 (lv_at hl 3 rfl) ?_
                obtain ⟨r11, e11, hf⟩ := bd_some hf
                refine cr_i (va_runS (As := [.ref (a0 1), .int p1, .int q8.2]) (rest := []) ⟨hx, hb, hml, hown, hts⟩ (c_X11_chunkOf l E (a0 1) r1.2.1 p1 q8.2 r11 e11) (va_cwS 3 hts gX11_find_X11_chunkOf rfl rfl rfl hdS_X11_chunkOf ⟨Nat.le_of_ble_eq_true rfl, Nat.le_of_ble_eq_true rfl⟩) ⟨PR.blind, PR.pre hC hS (hP.sub [1] rfl)⟩ rfl rfl hl.1 rfl (lv_room (Nat.le_of_ble_eq_true rfl)) dX11_find_67 ⟨Nat.le_of_ble_eq_true rfl, Nat.le_of_ble_eq_true rfl⟩) ?_
                refine lv_istore (lv' := [(5, .int r11), (0, .ref (a0 0)), (1, .int p1), (3, .int q8.1), (4, .int q8.2)]) hx hb dX11_find_70 hl (by decide) rfl (fun ls hl => ?_)
                refine lv_aload_n hx hb dX11_find_72 rfl (lv_at hl 1 rfl) ?_
                refine va_get (D := E.1) (ci := 9) (v := .ref (a0 1)) (C := RX11) (T := TX11) (N := 17) hx hb hts w3 hown hC.1 hP 0 rfl rfl 0 (by decide) w2 (fun _ h9 => h9) rfl dX11_find_73 ?_
                refine lv_iload hx hb dX11_find_76 (lv_at hl 0 rfl) ?_
                obtain ⟨r12, e12, hf⟩ := bd_some hf
                refine cr_i (va_runS (As := [.ref (a0 1), .int r11]) (rest := []) ⟨hx, hb, hml, hown, hts⟩ (c_X11_ables l E (a0 1) r1.2.1 r11 r12 e12) (va_cwS 2 hts gX11_find_X11_ables rfl rfl rfl hdS_X11_ables ⟨Nat.le_of_ble_eq_true rfl, Nat.le_of_ble_eq_true rfl⟩) ⟨PR.blind, PR.pre hC hS (hP.sub [1] rfl)⟩ rfl rfl hl.1 rfl (lv_room (Nat.le_of_ble_eq_true rfl)) dX11_find_78 ⟨Nat.le_of_ble_eq_true rfl, Nat.le_of_ble_eq_true rfl⟩) ?_
                refine lv_istore (lv' := [(6, .int r12), (5, .int r11), (0, .ref (a0 0)), (1, .int p1), (3, .int q8.1), (4, .int q8.2)]) hx hb dX11_find_81 hl (by decide) rfl (fun ls hl => ?_)
                refine lv_iload hx hb dX11_find_83 (lv_at hl 0 rfl) ?_
                refine lv_if_ne (tgt := 91) hx hb dX11_find_85 rfl (fun c13 => ?_) (fun c13 => ?_)
                · have hf := it_f hf c13
                  refine lv_iload_n hx hb dX11_find_91 rfl (lv_at hl 4 rfl) ?_
                  refine lv_aload_n hx hb dX11_find_92 rfl (lv_at hl 2 rfl) ?_
                  refine lv_aload_n hx hb dX11_find_93 rfl (lv_at hl 2 rfl) ?_
                  refine va_get (D := E.1) (ci := 9) (v := .ref (a0 1)) (C := RX11) (T := TX11) (N := 17) hx hb hts w3 hown hC.1 hP 0 rfl rfl 0 (by decide) w2 (fun _ h9 => h9) rfl dX11_find_94 ?_
                  refine lv_iload hx hb dX11_find_97 (lv_at hl 1 rfl) ?_
                  refine lv_iload hx hb dX11_find_99 (lv_at hl 0 rfl) ?_
                  obtain ⟨r14, e14, hf⟩ := bd_some hf
                  refine cr_i (va_runS (As := [.int r12]) (rest := [.int r11, .ref (a0 1), .ref (a0 0), .int q8.1]) ⟨hx, hb, hml, hown, hts⟩ (c_X11_least l E r12 r14 e14) (va_cwS 1 hts gX11_find_X11_least rfl rfl rfl hdS_X11_least ⟨Nat.le_of_ble_eq_true rfl, Nat.le_of_ble_eq_true rfl⟩) ⟨PR.blind, PR.pre hC hS (hP.sub [] rfl)⟩ rfl rfl hl.1 rfl (lv_room (Nat.le_of_ble_eq_true rfl)) dX11_find_101 ⟨Nat.le_of_ble_eq_true rfl, Nat.le_of_ble_eq_true rfl⟩) ?_
                  obtain ⟨r15, e15, hf⟩ := bd_some hf
                  refine cr_l (va_runS (As := [.ref (a0 1), .int r11, .int r14]) (rest := [.ref (a0 0), .int q8.1]) ⟨hx, hb, hml, hown, hts⟩ (c_X11_copy l E (a0 1) r1.2.1 r11 r14 r15 e15) (va_cwS 3 hts gX11_find_X11_copy rfl rfl rfl hdS_X11_copy ⟨Nat.le_of_ble_eq_true rfl, Nat.le_of_ble_eq_true rfl⟩) ⟨PR.blind, PR.pre hC hS (hP.sub [1] rfl)⟩ rfl rfl hl.1 rfl (lv_room (Nat.le_of_ble_eq_true rfl)) dX11_find_104 ⟨Nat.le_of_ble_eq_true rfl, Nat.le_of_ble_eq_true rfl⟩) ?_
                  obtain ⟨r16, e16, hf⟩ := bd_some hf
                  refine cr_i (va_runV (As := [.long r15]) (rest := [.int q8.1]) ⟨hx, hb, hml, hown, hts⟩ (c_X11_foundIn l E a0 r1.2 r15 r16 e16) (cwV 1 hts gX11_find_X11_foundIn rfl rfl rfl hdV_X11_foundIn ⟨Nat.le_of_ble_eq_true rfl, Nat.le_of_ble_eq_true rfl⟩) ⟨PR.blind, va_recv hC.1 hP (ci := 9) (q0 := 0) rfl rfl, PR.pre hC hS hP⟩ rfl rfl hl.1 rfl (lv_room (Nat.le_of_ble_eq_true rfl)) dX11_find_107 ⟨Nat.le_of_ble_eq_true rfl, Nat.le_of_ble_eq_true rfl⟩) ?_
                  refine lv_iadd hx hb dX11_find_110 ?_
                  refine lv_istore_n (lv' := [(3, .int (q8.1 + r16)), (6, .int r12), (5, .int r11), (0, .ref (a0 0)), (1, .int p1), (4, .int q8.2)]) hx hb dX11_find_111 rfl hl (by decide) rfl (fun ls hl => ?_)
                  refine lv_iinc (v := (q8.2 + 1)) (lv' := [(4, .int (q8.2 + 1)), (3, .int (q8.1 + r16)), (6, .int r12), (5, .int r11), (0, .ref (a0 0)), (1, .int p1)]) hx hb dX11_find_112 hl (k := 5) rfl rfl (by decide) rfl (fun ls hl => ?_)
                  refine lv_goto (tgt := 47) hx hb dX11_find_115 rfl ?_
                  exact ih8 ((q8.1 + r16), (q8.2 + 1)) ls (lv_sub hl [4, 5, 1, 0] rfl) hf
                · have hf := it_t hf c13
                  refine lv_ldc hx hb hown w4 dX11_find_88 ?_
                  cases Option.some.inj hf
                  subst hQe
                  exact ew_i (wf := (fun q : MD => wMD E a0 q)) hx hb hr hlocks hP hD hS dX11_find_90
          exact L8 FU ((0 : Int32), (0 : Int32)) ls (lv_sub hl [3, 4, 1, 0] rfl) hf
        · have hf := it_t hf c7
          refine lv_ldcw hx hb hown w5 dX11_find_38 ?_
          cases Option.some.inj hf
          subst hQe
          exact ew_i (wf := (fun q : MD => wMD E a0 q)) hx hb hr hlocks hP hD hS dX11_find_41
      · have hf := it_t hf c5
        refine lv_ldc hx hb hown w1 dX11_find_27 ?_
        cases Option.some.inj hf
        subst hQe
        exact ew_i (wf := (fun q : MD => wMD E a0 q)) hx hb hr hlocks hP hD hS dX11_find_29
  · have hf := it_t hf c3
    refine lv_ldcw hx hb hown w5 dX11_find_12 ?_
    cases Option.some.inj hf
    subst hQe
    exact ew_i (wf := (fun q : MD => wMD E a0 q)) hx hb hr hlocks hP hD hS dX11_find_15

/-! X11_cells -/
abbrev rmX11_cells : Room := { frames := 2, cells := 0, slots := 0, locals := 44 }
theorem hdS_X11_cells : yX11_cells.cls ≠ "java/lang/invoke/MethodHandle" ∧ yX11_cells.cls ≠ "java/lang/invoke/VarHandle" ∧ (parseMethodDescriptor yX11_cells.desc).map (fun d => d.parameters.length) = some 1 := by decide +kernel
theorem hdV_X11_cells : yX11_cells.cls = RX11 ∧ yX11_cells.cls ≠ "java/lang/invoke/MethodHandle" ∧ yX11_cells.cls ≠ "java/lang/invoke/VarHandle" ∧ (parseMethodDescriptor yX11_cells.desc).map (fun d => d.parameters.length) = some 1 := ⟨rfl, hdS_X11_cells⟩
set_option maxHeartbeats 4000000 in
set_option maxRecDepth 100000 in
theorem c_X11_cells (l : Launch) (E : G0) (a0 : Nat → Nat) (v0 : MD) (p1 : Int32) (x : Int32) (hf : f_X11_cells v0 p1 = some x) : Met l yX11_cells wsX11_cells rmX11_cells (va_Pc [.ref (a0 0), .int p1] (PR E (wMD E a0 v0))) (vp_Si (fun r => r = x)) 0 0 (fun _ => False) := by
  refine Met.ofW (cc := cX11_cells) (maxL := 6) (ret := some .int) (by decide) rfl ?_
  intro p e s m args below meth c s₁ B hml hv
  obtain ⟨ha, hP, hC⟩ := hv
  have hx := B.exec
  have hb := B.bytes
  have hr := B.returns
  have hts := atoms_spec (ws := wsX11_cells) B.pre
  have hown : s.vm.findClass RX11 = some m.cls := findClass_of_methodNamed B.named
  have hlocks := B.notSynchronized
  have hS : va_S (fun _ => False) s.heap s.heap [] := va_S.rf
  have w1 : (Cond.constantLong RX11 84 (5)).before args s = true := hts _ (List.mem_of_getElem? (i := 1) rfl)
  have w2 : (Cond.fieldLink RX11 7 "GreatChunksModel" "now" "[J").before args s = true := hts _ (List.mem_of_getElem? (i := 2) rfl)
  have w3 : ∀ w ∈ wsX110, w ∈ wsX11_cells := in_pl 18 rfl
  generalize hQe : MQ below (vp_Si (fun r => r = x)) args s 0 0 (fun _ => False) = Q
  refine st_W ha (Nat.le_of_ble_eq_true rfl) (fun ls hl => ?_)
  have hl : lv_has ls 6 [(0, .ref (a0 0)), (1, .int p1)] := hl
  unfold f_X11_cells at hf
  refine lv_iconst (v := 0) hx hb dX11_cells_0 rfl ?_
  refine lv_istore_n (lv' := [(2, .int (0 : Int32)), (0, .ref (a0 0)), (1, .int p1)]) hx hb dX11_cells_1 rfl hl (by decide) rfl (fun ls hl => ?_)
  refine lv_iconst (v := 0) hx hb dX11_cells_2 rfl ?_
  refine lv_istore_n (lv' := [(3, .int (0 : Int32)), (2, .int (0 : Int32)), (0, .ref (a0 0)), (1, .int p1)]) hx hb dX11_cells_3 rfl hl (by decide) rfl (fun ls hl => ?_)
  obtain ⟨K1, hK1, hf⟩ := jn_some hf
  have J1 : ∀ (q1 : Int32 × Int32) (ls : Array Slot) (hl : lv_has ls 6 [(2, .int q1.1)]) (hf : K1 q1 = some x), W p l e (headSpec wsX11_cells rmX11_cells).room s m args below meth c s.heap [] 0 0 Q (F0 m 124 ls []) := by
    intro q1 ls hl hf
    have hf := (hK1 q1).trans hf
    refine lv_iload_n hx hb dX11_cells_124 rfl (lv_at hl 0 rfl) ?_
    cases Option.some.inj hf
    subst hQe
    exact en_i hx hb hr hlocks dX11_cells_125
  have L1 : ∀ (n : Nat) (q1 : Int32 × Int32) (ls : Array Slot) (hl : lv_has ls 6 [(0, .ref (a0 0)), (1, .int p1), (2, .int q1.1), (3, .int q1.2)]) (hf : lpF (bX11_cells_1 v0 p1 K1) n q1 = some x), W p l e (headSpec wsX11_cells rmX11_cells).room s m args below meth c s.heap [] 0 0 Q (F0 m 4 ls []) := by
    intro n
    induction n with
    | zero => intro q1 ls hl hf; exact (lpF_zero hf).elim
    | succ n ih1 =>
      intro q1 ls hl hf
      have hf := lpF_succ hf
      unfold bX11_cells_1 at hf
      refine lv_iload_n hx hb dX11_cells_4 rfl (lv_at hl 3 rfl) ?_
      refine lv_i2l hx hb dX11_cells_5 rfl ?_
      refine lv_ldc2 hx hb hown w1 dX11_cells_6 ?_
      refine lv_aload_n hx hb dX11_cells_9 rfl (lv_at hl 0 rfl) ?_
      refine va_get (D := E.1) (ci := 9) (v := .ref (a0 1)) (C := RX11) (T := TX11) (N := 17) hx hb hts w3 hown hC.1 hP 0 rfl rfl 0 (by decide) w2 (fun _ h9 => h9) rfl dX11_cells_10 ?_
      refine lv_bipush (v := 6) hx hb dX11_cells_13 rfl ?_
      obtain ⟨h2, hf⟩ := gdI_some hf
      refine va_lald hx hb hC.1 hP 1 1 rfl rfl h2 dX11_cells_15 ?_
      refine lv_lmul hx hb dX11_cells_16 ?_
      refine W.lcmp hx hb dX11_cells_17 ?_
      refine lv_if_ge (tgt := 124) hx hb dX11_cells_18 rfl (fun c3 => ?_) (fun c3 => ?_)
      · have hf := it_t hf c3
        exact J1 (q1.1, q1.2) ls (lv_sub hl [2] rfl) hf
      · have hf := it_f hf c3
        refine lv_iconst (v := 0) hx hb dX11_cells_21 rfl ?_
        refine lv_istore (lv' := [(4, .int (0 : Int32)), (0, .ref (a0 0)), (1, .int p1), (2, .int q1.1), (3, .int q1.2)]) hx hb dX11_cells_22 hl (by decide) rfl (fun ls hl => ?_)
        obtain ⟨K4, hK4, hf⟩ := jn_some hf
        have J4 : ∀ (q4 : Int32 × Int32) (ls : Array Slot) (hl : lv_has ls 6 [(0, .ref (a0 0)), (1, .int p1), (2, .int q4.1), (3, .int q1.2)]) (hf : K4 q4 = some x), W p l e (headSpec wsX11_cells rmX11_cells).room s m args below meth c s.heap [] 0 0 Q (F0 m 118 ls []) := by
          intro q4 ls hl hf
          have hf := (hK4 q4).trans hf
          refine lv_iinc (v := (q1.2 + 1)) (lv' := [(3, .int (q1.2 + 1)), (0, .ref (a0 0)), (1, .int p1), (2, .int q4.1)]) hx hb dX11_cells_118 hl (k := 3) rfl rfl (by decide) rfl (fun ls hl => ?_)
          refine lv_goto (tgt := 4) hx hb dX11_cells_121 rfl ?_
          exact ih1 (q4.1, (q1.2 + 1)) ls (lv_sub hl [1, 2, 3, 0] rfl) hf
        have L4 : ∀ (n : Nat) (q4 : Int32 × Int32) (ls : Array Slot) (hl : lv_has ls 6 [(0, .ref (a0 0)), (1, .int p1), (2, .int q4.1), (3, .int q1.2), (4, .int q4.2)]) (hf : lpF (bX11_cells_4 v0 q1 p1 K4) n q4 = some x), W p l e (headSpec wsX11_cells rmX11_cells).room s m args below meth c s.heap [] 0 0 Q (F0 m 24 ls []) := by
          intro n
          induction n with
          | zero => intro q4 ls hl hf; exact (lpF_zero hf).elim
          | succ n ih4 =>
            intro q4 ls hl hf
            have hf := lpF_succ hf
            unfold bX11_cells_4 at hf
            refine lv_iload hx hb dX11_cells_24 (lv_at hl 4 rfl) ?_
            refine lv_i2l hx hb dX11_cells_26 rfl ?_
            refine lv_aload_n hx hb dX11_cells_27 rfl (lv_at hl 0 rfl) ?_
            refine va_get (D := E.1) (ci := 9) (v := .ref (a0 1)) (C := RX11) (T := TX11) (N := 17) hx hb hts w3 hown hC.1 hP 0 rfl rfl 0 (by decide) w2 (fun _ h9 => h9) rfl dX11_cells_28 ?_
            refine lv_iconst (v := 2) hx hb dX11_cells_31 rfl ?_
            obtain ⟨h5, hf⟩ := gdI_some hf
            refine va_lald hx hb hC.1 hP 1 1 rfl rfl h5 dX11_cells_32 ?_
            refine W.lcmp hx hb dX11_cells_33 ?_
            refine lv_if_ge (tgt := 118) hx hb dX11_cells_34 rfl (fun c6 => ?_) (fun c6 => ?_)
            · have hf := it_t hf c6
              exact J4 (q4.1, q4.2) ls (lv_sub hl [0, 1, 2, 3] rfl) hf
            · have hf := it_f hf c6
              refine lv_aload_n hx hb dX11_cells_37 rfl (lv_at hl 0 rfl) ?_
              refine va_get (D := E.1) (ci := 9) (v := .ref (a0 1)) (C := RX11) (T := TX11) (N := 17) hx hb hts w3 hown hC.1 hP 0 rfl rfl 0 (by decide) w2 (fun _ h9 => h9) rfl dX11_cells_38 ?_
              refine lv_iload_n hx hb dX11_cells_41 rfl (lv_at hl 3 rfl) ?_
              refine lv_iconst (v := 5) hx hb dX11_cells_42 rfl ?_
              obtain ⟨h7, hf⟩ := gdZ_some hf
              refine lv_idiv hx hb dX11_cells_43 h7 ?_
              refine lv_iload_n hx hb dX11_cells_44 rfl (lv_at hl 3 rfl) ?_
              refine lv_iconst (v := 5) hx hb dX11_cells_45 rfl ?_
              obtain ⟨h8, hf⟩ := gdZ_some hf
              refine lv_irem hx hb dX11_cells_46 h8 ?_
              obtain ⟨r9, e9, hf⟩ := bd_some hf
              refine cr_i (va_runS (As := [.ref (a0 1), .int (q1.2 / (5 : Int32)), .int (q1.2 - q1.2 / (5 : Int32) * (5 : Int32))]) (rest := []) ⟨hx, hb, hml, hown, hts⟩ (c_X11_isGood l E (a0 1) v0.1 (q1.2 / (5 : Int32)) (q1.2 - q1.2 / (5 : Int32) * (5 : Int32)) r9 e9) (va_cwS 3 hts gX11_cells_X11_isGood rfl rfl rfl hdS_X11_isGood ⟨Nat.le_of_ble_eq_true rfl, Nat.le_of_ble_eq_true rfl⟩) ⟨PR.blind, PR.pre hC hS (hP.sub [1] rfl)⟩ rfl rfl hl.1 rfl (lv_room (Nat.le_of_ble_eq_true rfl)) dX11_cells_47 ⟨Nat.le_of_ble_eq_true rfl, Nat.le_of_ble_eq_true rfl⟩) ?_
              refine lv_if_eq (tgt := 118) hx hb dX11_cells_50 rfl (fun c10 => ?_) (fun c10 => ?_)
              · have hf := it_t hf c10
                exact J4 (q4.1, q4.2) ls (lv_sub hl [0, 1, 2, 3] rfl) hf
              · have hf := it_f hf c10
                refine lv_aload_n hx hb dX11_cells_53 rfl (lv_at hl 0 rfl) ?_
                refine va_get (D := E.1) (ci := 9) (v := .ref (a0 1)) (C := RX11) (T := TX11) (N := 17) hx hb hts w3 hown hC.1 hP 0 rfl rfl 0 (by decide) w2 (fun _ h9 => h9) rfl dX11_cells_54 ?_
                refine lv_iload_n hx hb dX11_cells_57 rfl (lv_at hl 3 rfl) ?_
                refine lv_iconst (v := 5) hx hb dX11_cells_58 rfl ?_
                obtain ⟨h11, hf⟩ := gdZ_some hf
                refine lv_idiv hx hb dX11_cells_59 h11 ?_
                refine lv_iload_n hx hb dX11_cells_60 rfl (lv_at hl 3 rfl) ?_
                refine lv_iconst (v := 5) hx hb dX11_cells_61 rfl ?_
                obtain ⟨h12, hf⟩ := gdZ_some hf
                refine lv_irem hx hb dX11_cells_62 h12 ?_
                obtain ⟨r13, e13, hf⟩ := bd_some hf
                refine cr_l (va_runS (As := [.ref (a0 1), .int (q1.2 / (5 : Int32)), .int (q1.2 - q1.2 / (5 : Int32) * (5 : Int32))]) (rest := []) ⟨hx, hb, hml, hown, hts⟩ (c_X11_copy l E (a0 1) v0.1 (q1.2 / (5 : Int32)) (q1.2 - q1.2 / (5 : Int32) * (5 : Int32)) r13 e13) (va_cwS 3 hts gX11_cells_X11_copy rfl rfl rfl hdS_X11_copy ⟨Nat.le_of_ble_eq_true rfl, Nat.le_of_ble_eq_true rfl⟩) ⟨PR.blind, PR.pre hC hS (hP.sub [1] rfl)⟩ rfl rfl hl.1 rfl (lv_room (Nat.le_of_ble_eq_true rfl)) dX11_cells_63 ⟨Nat.le_of_ble_eq_true rfl, Nat.le_of_ble_eq_true rfl⟩) ?_
                refine lv_iload hx hb dX11_cells_66 (lv_at hl 4 rfl) ?_
                refine cr_i (va_runS (As := [.long r13, .int q4.2]) (rest := []) ⟨hx, hb, hml, hown, hts⟩ (c_X11_cell l E r13 q4.2 _ rfl) (va_cwS 2 hts gX11_cells_X11_cell rfl rfl rfl hdS_X11_cell ⟨Nat.le_of_ble_eq_true rfl, Nat.le_of_ble_eq_true rfl⟩) ⟨PR.blind, PR.pre hC hS (hP.sub [] rfl)⟩ rfl rfl hl.1 rfl (lv_room (Nat.le_of_ble_eq_true rfl)) dX11_cells_68 ⟨Nat.le_of_ble_eq_true rfl, Nat.le_of_ble_eq_true rfl⟩) ?_
                refine lv_istore (lv' := [(5, .int (f_X11_cell r13 q4.2)), (0, .ref (a0 0)), (1, .int p1), (2, .int q4.1), (3, .int q1.2), (4, .int q4.2)]) hx hb dX11_cells_71 hl (by decide) rfl (fun ls hl => ?_)
                refine lv_iload_n hx hb dX11_cells_73 rfl (lv_at hl 3 rfl) ?_
                refine lv_iload_n hx hb dX11_cells_74 rfl (lv_at hl 2 rfl) ?_
                refine lv_if_eq (tgt := 93) hx hb dX11_cells_75 rfl (fun c14 => ?_) (fun c14 => ?_)
                · have hf := it_t hf c14
                  refine lv_iload hx hb dX11_cells_93 (lv_at hl 0 rfl) ?_
                  refine lv_if_eq (tgt := 109) hx hb dX11_cells_95 rfl (fun c15 => ?_) (fun c15 => ?_)
                  · have hf := it_t hf c15
                    refine lv_iconst (v := 0) hx hb dX11_cells_109 rfl ?_
                    refine lv_iadd hx hb dX11_cells_110 ?_
                    refine lv_istore_n (lv' := [(2, .int (q4.1 + (0 : Int32))), (5, .int (f_X11_cell r13 q4.2)), (0, .ref (a0 0)), (1, .int p1), (3, .int q1.2), (4, .int q4.2)]) hx hb dX11_cells_111 rfl hl (by decide) rfl (fun ls hl => ?_)
                    refine lv_iinc (v := (q4.2 + 1)) (lv' := [(4, .int (q4.2 + 1)), (2, .int (q4.1 + (0 : Int32))), (5, .int (f_X11_cell r13 q4.2)), (0, .ref (a0 0)), (1, .int p1), (3, .int q1.2)]) hx hb dX11_cells_112 hl (k := 5) rfl rfl (by decide) rfl (fun ls hl => ?_)
                    refine lv_goto (tgt := 24) hx hb dX11_cells_115 rfl ?_
                    exact ih4 ((q4.1 + (0 : Int32)), (q4.2 + 1)) ls (lv_sub hl [3, 4, 1, 5, 0] rfl) hf
                  · have hf := it_f hf c15
                    refine lv_iload hx hb dX11_cells_98 (lv_at hl 0 rfl) ?_
                    refine lv_bipush (v := 27) hx hb dX11_cells_100 rfl ?_
                    refine lv_icmp_eq (tgt := 109) hx hb dX11_cells_102 rfl (fun c16 => ?_) (fun c16 => ?_)
                    · have hf := it_t hf c16
                      refine lv_iconst (v := 0) hx hb dX11_cells_109 rfl ?_
                      refine lv_iadd hx hb dX11_cells_110 ?_
                      refine lv_istore_n (lv' := [(2, .int (q4.1 + (0 : Int32))), (5, .int (f_X11_cell r13 q4.2)), (0, .ref (a0 0)), (1, .int p1), (3, .int q1.2), (4, .int q4.2)]) hx hb dX11_cells_111 rfl hl (by decide) rfl (fun ls hl => ?_)
                      refine lv_iinc (v := (q4.2 + 1)) (lv' := [(4, .int (q4.2 + 1)), (2, .int (q4.1 + (0 : Int32))), (5, .int (f_X11_cell r13 q4.2)), (0, .ref (a0 0)), (1, .int p1), (3, .int q1.2)]) hx hb dX11_cells_112 hl (k := 5) rfl rfl (by decide) rfl (fun ls hl => ?_)
                      refine lv_goto (tgt := 24) hx hb dX11_cells_115 rfl ?_
                      exact ih4 ((q4.1 + (0 : Int32)), (q4.2 + 1)) ls (lv_sub hl [3, 4, 1, 5, 0] rfl) hf
                    · have hf := it_f hf c16
                      refine lv_iconst (v := 1) hx hb dX11_cells_105 rfl ?_
                      refine lv_goto (tgt := 110) hx hb dX11_cells_106 rfl ?_
                      refine lv_iadd hx hb dX11_cells_110 ?_
                      refine lv_istore_n (lv' := [(2, .int (q4.1 + (1 : Int32))), (5, .int (f_X11_cell r13 q4.2)), (0, .ref (a0 0)), (1, .int p1), (3, .int q1.2), (4, .int q4.2)]) hx hb dX11_cells_111 rfl hl (by decide) rfl (fun ls hl => ?_)
                      refine lv_iinc (v := (q4.2 + 1)) (lv' := [(4, .int (q4.2 + 1)), (2, .int (q4.1 + (1 : Int32))), (5, .int (f_X11_cell r13 q4.2)), (0, .ref (a0 0)), (1, .int p1), (3, .int q1.2)]) hx hb dX11_cells_112 hl (k := 5) rfl rfl (by decide) rfl (fun ls hl => ?_)
                      refine lv_goto (tgt := 24) hx hb dX11_cells_115 rfl ?_
                      exact ih4 ((q4.1 + (1 : Int32)), (q4.2 + 1)) ls (lv_sub hl [3, 4, 1, 5, 0] rfl) hf
                · have hf := it_f hf c14
                  refine lv_iload hx hb dX11_cells_78 (lv_at hl 0 rfl) ?_
                  refine lv_bipush (v := 27) hx hb dX11_cells_80 rfl ?_
                  refine lv_icmp_ne (tgt := 89) hx hb dX11_cells_82 rfl (fun c17 => ?_) (fun c17 => ?_)
                  · have hf := it_f hf c17
                    refine lv_iconst (v := 0) hx hb dX11_cells_89 rfl ?_
                    refine lv_goto (tgt := 110) hx hb dX11_cells_90 rfl ?_
                    refine lv_iadd hx hb dX11_cells_110 ?_
                    refine lv_istore_n (lv' := [(2, .int (q4.1 + (0 : Int32))), (5, .int (f_X11_cell r13 q4.2)), (0, .ref (a0 0)), (1, .int p1), (3, .int q1.2), (4, .int q4.2)]) hx hb dX11_cells_111 rfl hl (by decide) rfl (fun ls hl => ?_)
                    refine lv_iinc (v := (q4.2 + 1)) (lv' := [(4, .int (q4.2 + 1)), (2, .int (q4.1 + (0 : Int32))), (5, .int (f_X11_cell r13 q4.2)), (0, .ref (a0 0)), (1, .int p1), (3, .int q1.2)]) hx hb dX11_cells_112 hl (k := 5) rfl rfl (by decide) rfl (fun ls hl => ?_)
                    refine lv_goto (tgt := 24) hx hb dX11_cells_115 rfl ?_
                    exact ih4 ((q4.1 + (0 : Int32)), (q4.2 + 1)) ls (lv_sub hl [3, 4, 1, 5, 0] rfl) hf
                  · have hf := it_t hf c17
                    refine lv_iconst (v := 1) hx hb dX11_cells_85 rfl ?_
                    refine lv_goto (tgt := 110) hx hb dX11_cells_86 rfl ?_
                    refine lv_iadd hx hb dX11_cells_110 ?_
                    refine lv_istore_n (lv' := [(2, .int (q4.1 + (1 : Int32))), (5, .int (f_X11_cell r13 q4.2)), (0, .ref (a0 0)), (1, .int p1), (3, .int q1.2), (4, .int q4.2)]) hx hb dX11_cells_111 rfl hl (by decide) rfl (fun ls hl => ?_)
                    refine lv_iinc (v := (q4.2 + 1)) (lv' := [(4, .int (q4.2 + 1)), (2, .int (q4.1 + (1 : Int32))), (5, .int (f_X11_cell r13 q4.2)), (0, .ref (a0 0)), (1, .int p1), (3, .int q1.2)]) hx hb dX11_cells_112 hl (k := 5) rfl rfl (by decide) rfl (fun ls hl => ?_)
                    refine lv_goto (tgt := 24) hx hb dX11_cells_115 rfl ?_
                    exact ih4 ((q4.1 + (1 : Int32)), (q4.2 + 1)) ls (lv_sub hl [3, 4, 1, 5, 0] rfl) hf
        exact L4 FU (q1.1, (0 : Int32)) ls (lv_sub hl [1, 2, 3, 4, 0] rfl) hf
  exact L1 FU ((0 : Int32), (0 : Int32)) ls (lv_sub hl [2, 3, 1, 0] rfl) hf

/-! X11_allLying -/
abbrev rmX11_allLying : Room := { frames := 2, cells := 0, slots := 0, locals := 45 }
theorem hdS_X11_allLying : yX11_allLying.cls ≠ "java/lang/invoke/MethodHandle" ∧ yX11_allLying.cls ≠ "java/lang/invoke/VarHandle" ∧ (parseMethodDescriptor yX11_allLying.desc).map (fun d => d.parameters.length) = some 1 := by decide +kernel
set_option maxHeartbeats 4000000 in
set_option maxRecDepth 100000 in
theorem c_X11_allLying (l : Launch) (E : G0) (a0 : Nat) (v0 : (Nat → Int64)) (x : Int32) (hf : f_X11_allLying v0 = some x) : Met l yX11_allLying wsX11_allLying rmX11_allLying (va_Pc [.ref a0] (PR E (wLA E a0 340 v0))) (vp_Si (fun r => r = x)) 0 0 (fun _ => False) := by
  refine Met.ofW (cc := cX11_allLying) (maxL := 3) (ret := some .int) (by decide) rfl ?_
  intro p e s m args below meth c s₁ B hml hv
  obtain ⟨ha, hP, hC⟩ := hv
  have hx := B.exec
  have hb := B.bytes
  have hr := B.returns
  have hts := atoms_spec (ws := wsX11_allLying) B.pre
  have hown : s.vm.findClass RX11 = some m.cls := findClass_of_methodNamed B.named
  have hlocks := B.notSynchronized
  have hS : va_S (fun _ => False) s.heap s.heap [] := va_S.rf
  generalize hQe : MQ below (vp_Si (fun r => r = x)) args s 0 0 (fun _ => False) = Q
  refine st_W ha (Nat.le_of_ble_eq_true rfl) (fun ls hl => ?_)
  have hl : lv_has ls 3 [(0, .ref a0)] := hl
  unfold f_X11_allLying at hf
  refine lv_iconst (v := 0) hx hb dX11_allLying_0 rfl ?_
  refine lv_istore_n (lv' := [(1, .int (0 : Int32)), (0, .ref a0)]) hx hb dX11_allLying_1 rfl hl (by decide) rfl (fun ls hl => ?_)
  refine lv_iconst (v := 0) hx hb dX11_allLying_2 rfl ?_
  refine lv_istore_n (lv' := [(2, .int (0 : Int32)), (1, .int (0 : Int32)), (0, .ref a0)]) hx hb dX11_allLying_3 rfl hl (by decide) rfl (fun ls hl => ?_)
  obtain ⟨K1, hK1, hf⟩ := jn_some hf
  have J1 : ∀ (q1 : Int32 × Int32) (ls : Array Slot) (hl : lv_has ls 3 [(1, .int q1.1)]) (hf : K1 q1 = some x), W p l e (headSpec wsX11_allLying rmX11_allLying).room s m args below meth c s.heap [] 0 0 Q (F0 m 27 ls []) := by
    intro q1 ls hl hf
    have hf := (hK1 q1).trans hf
    refine lv_iload_n hx hb dX11_allLying_27 rfl (lv_at hl 0 rfl) ?_
    cases Option.some.inj hf
    subst hQe
    exact en_i hx hb hr hlocks dX11_allLying_28
  have L1 : ∀ (n : Nat) (q1 : Int32 × Int32) (ls : Array Slot) (hl : lv_has ls 3 [(0, .ref a0), (1, .int q1.1), (2, .int q1.2)]) (hf : lpF (bX11_allLying_1 v0 K1) n q1 = some x), W p l e (headSpec wsX11_allLying rmX11_allLying).room s m args below meth c s.heap [] 0 0 Q (F0 m 4 ls []) := by
    intro n
    induction n with
    | zero => intro q1 ls hl hf; exact (lpF_zero hf).elim
    | succ n ih1 =>
      intro q1 ls hl hf
      have hf := lpF_succ hf
      unfold bX11_allLying_1 at hf
      refine lv_iload_n hx hb dX11_allLying_4 rfl (lv_at hl 2 rfl) ?_
      refine lv_i2l hx hb dX11_allLying_5 rfl ?_
      refine lv_aload_n hx hb dX11_allLying_6 rfl (lv_at hl 0 rfl) ?_
      refine lv_iconst (v := 0) hx hb dX11_allLying_7 rfl ?_
      obtain ⟨h2, hf⟩ := gdI_some hf
      refine va_lald hx hb hC.1 hP 0 1 rfl rfl h2 dX11_allLying_8 ?_
      refine W.lcmp hx hb dX11_allLying_9 ?_
      refine lv_if_ge (tgt := 27) hx hb dX11_allLying_10 rfl (fun c3 => ?_) (fun c3 => ?_)
      · have hf := it_t hf c3
        exact J1 (q1.1, q1.2) ls (lv_sub hl [1] rfl) hf
      · have hf := it_f hf c3
        refine lv_iload_n hx hb dX11_allLying_13 rfl (lv_at hl 1 rfl) ?_
        refine lv_aload_n hx hb dX11_allLying_14 rfl (lv_at hl 0 rfl) ?_
        refine lv_iload_n hx hb dX11_allLying_15 rfl (lv_at hl 2 rfl) ?_
        obtain ⟨r4, e4, hf⟩ := bd_some hf
        refine cr_i (va_runS (As := [.ref a0, .int q1.2]) (rest := [.int q1.1]) ⟨hx, hb, hml, hown, hts⟩ (c_X11_lying l E a0 v0 q1.2 r4 e4) (va_cwS 2 hts gX11_allLying_X11_lying rfl rfl rfl hdS_X11_lying ⟨Nat.le_of_ble_eq_true rfl, Nat.le_of_ble_eq_true rfl⟩) ⟨PR.blind, PR.pre hC hS hP⟩ rfl rfl hl.1 rfl (lv_room (Nat.le_of_ble_eq_true rfl)) dX11_allLying_16 ⟨Nat.le_of_ble_eq_true rfl, Nat.le_of_ble_eq_true rfl⟩) ?_
        refine lv_iadd hx hb dX11_allLying_19 ?_
        refine lv_istore_n (lv' := [(1, .int (q1.1 + r4)), (0, .ref a0), (2, .int q1.2)]) hx hb dX11_allLying_20 rfl hl (by decide) rfl (fun ls hl => ?_)
        refine lv_iinc (v := (q1.2 + 1)) (lv' := [(2, .int (q1.2 + 1)), (1, .int (q1.1 + r4)), (0, .ref a0)]) hx hb dX11_allLying_21 hl (k := 2) rfl rfl (by decide) rfl (fun ls hl => ?_)
        refine lv_goto (tgt := 4) hx hb dX11_allLying_24 rfl ?_
        exact ih1 ((q1.1 + r4), (q1.2 + 1)) ls (lv_sub hl [2, 1, 0] rfl) hf
  exact L1 FU ((0 : Int32), (0 : Int32)) ls (lv_sub hl [2, 1, 0] rfl) hf

/-! X11_stales -/
abbrev rmX11_stales : Room := { frames := 4, cells := 0, slots := 0, locals := 91 }
theorem hdS_X11_stales : yX11_stales.cls ≠ "java/lang/invoke/MethodHandle" ∧ yX11_stales.cls ≠ "java/lang/invoke/VarHandle" ∧ (parseMethodDescriptor yX11_stales.desc).map (fun d => d.parameters.length) = some 0 := by decide +kernel
theorem hdV_X11_stales : yX11_stales.cls = RX11 ∧ yX11_stales.cls ≠ "java/lang/invoke/MethodHandle" ∧ yX11_stales.cls ≠ "java/lang/invoke/VarHandle" ∧ (parseMethodDescriptor yX11_stales.desc).map (fun d => d.parameters.length) = some 0 := ⟨rfl, hdS_X11_stales⟩
set_option maxHeartbeats 4000000 in
set_option maxRecDepth 100000 in
theorem c_X11_stales (l : Launch) (E : G0) (a0 : Nat → Nat) (v0 : MD) (x : Int32) (hf : f_X11_stales v0 = some x) : Met l yX11_stales wsX11_stales rmX11_stales (va_Pc [.ref (a0 0)] (PR E (wMD E a0 v0))) (vp_Si (fun r => r = x)) 0 0 (fun _ => False) := by
  refine Met.ofW (cc := cX11_stales) (maxL := 3) (ret := some .int) (by decide) rfl ?_
  intro p e s m args below meth c s₁ B hml hv
  obtain ⟨ha, hP, hC⟩ := hv
  have hx := B.exec
  have hb := B.bytes
  have hr := B.returns
  have hts := atoms_spec (ws := wsX11_stales) B.pre
  have hown : s.vm.findClass RX11 = some m.cls := findClass_of_methodNamed B.named
  have hlocks := B.notSynchronized
  have hS : va_S (fun _ => False) s.heap s.heap [] := va_S.rf
  have w1 : (Cond.fieldLink RX11 7 "GreatChunksModel" "now" "[J").before args s = true := hts _ (List.mem_of_getElem? (i := 1) rfl)
  have w2 : ∀ w ∈ wsX110, w ∈ wsX11_stales := in_pl 20 rfl
  generalize hQe : MQ below (vp_Si (fun r => r = x)) args s 0 0 (fun _ => False) = Q
  refine st_W ha (Nat.le_of_ble_eq_true rfl) (fun ls hl => ?_)
  have hl : lv_has ls 3 [(0, .ref (a0 0))] := hl
  unfold f_X11_stales at hf
  refine lv_iconst (v := 0) hx hb dX11_stales_0 rfl ?_
  refine lv_istore_n (lv' := [(1, .int (0 : Int32)), (0, .ref (a0 0))]) hx hb dX11_stales_1 rfl hl (by decide) rfl (fun ls hl => ?_)
  refine lv_iconst (v := 0) hx hb dX11_stales_2 rfl ?_
  refine lv_istore_n (lv' := [(2, .int (0 : Int32)), (1, .int (0 : Int32)), (0, .ref (a0 0))]) hx hb dX11_stales_3 rfl hl (by decide) rfl (fun ls hl => ?_)
  obtain ⟨K1, hK1, hf⟩ := jn_some hf
  have J1 : ∀ (q1 : Int32 × Int32) (ls : Array Slot) (hl : lv_has ls 3 [(1, .int q1.1)]) (hf : K1 q1 = some x), W p l e (headSpec wsX11_stales rmX11_stales).room s m args below meth c s.heap [] 0 0 Q (F0 m 31 ls []) := by
    intro q1 ls hl hf
    have hf := (hK1 q1).trans hf
    refine lv_iload_n hx hb dX11_stales_31 rfl (lv_at hl 0 rfl) ?_
    cases Option.some.inj hf
    subst hQe
    exact en_i hx hb hr hlocks dX11_stales_32
  have L1 : ∀ (n : Nat) (q1 : Int32 × Int32) (ls : Array Slot) (hl : lv_has ls 3 [(0, .ref (a0 0)), (1, .int q1.1), (2, .int q1.2)]) (hf : lpF (bX11_stales_1 v0 K1) n q1 = some x), W p l e (headSpec wsX11_stales rmX11_stales).room s m args below meth c s.heap [] 0 0 Q (F0 m 4 ls []) := by
    intro n
    induction n with
    | zero => intro q1 ls hl hf; exact (lpF_zero hf).elim
    | succ n ih1 =>
      intro q1 ls hl hf
      have hf := lpF_succ hf
      unfold bX11_stales_1 at hf
      refine lv_iload_n hx hb dX11_stales_4 rfl (lv_at hl 2 rfl) ?_
      refine lv_i2l hx hb dX11_stales_5 rfl ?_
      refine lv_aload_n hx hb dX11_stales_6 rfl (lv_at hl 0 rfl) ?_
      refine va_get (D := E.1) (ci := 9) (v := .ref (a0 1)) (C := RX11) (T := TX11) (N := 17) hx hb hts w2 hown hC.1 hP 0 rfl rfl 0 (by decide) w1 (fun _ h9 => h9) rfl dX11_stales_7 ?_
      refine lv_iconst (v := 0) hx hb dX11_stales_10 rfl ?_
      obtain ⟨h2, hf⟩ := gdI_some hf
      refine va_lald hx hb hC.1 hP 1 1 rfl rfl h2 dX11_stales_11 ?_
      refine W.lcmp hx hb dX11_stales_12 ?_
      refine lv_if_ge (tgt := 31) hx hb dX11_stales_13 rfl (fun c3 => ?_) (fun c3 => ?_)
      · have hf := it_t hf c3
        exact J1 (q1.1, q1.2) ls (lv_sub hl [1] rfl) hf
      · have hf := it_f hf c3
        refine lv_iload_n hx hb dX11_stales_16 rfl (lv_at hl 1 rfl) ?_
        refine lv_aload_n hx hb dX11_stales_17 rfl (lv_at hl 0 rfl) ?_
        refine lv_iload_n hx hb dX11_stales_18 rfl (lv_at hl 2 rfl) ?_
        refine lv_iconst (v := 0) hx hb dX11_stales_19 rfl ?_
        obtain ⟨r4, e4, hf⟩ := bd_some hf
        refine cr_i (va_runV (As := [.int q1.2, .int (0 : Int32)]) (rest := [.int q1.1]) ⟨hx, hb, hml, hown, hts⟩ (c_X11_lyingAs l E a0 v0 q1.2 (0 : Int32) r4 e4) (cwV 2 hts gX11_stales_X11_lyingAs rfl rfl rfl hdV_X11_lyingAs ⟨Nat.le_of_ble_eq_true rfl, Nat.le_of_ble_eq_true rfl⟩) ⟨PR.blind, va_recv hC.1 hP (ci := 9) (q0 := 0) rfl rfl, PR.pre hC hS hP⟩ rfl rfl hl.1 rfl (lv_room (Nat.le_of_ble_eq_true rfl)) dX11_stales_20 ⟨Nat.le_of_ble_eq_true rfl, Nat.le_of_ble_eq_true rfl⟩) ?_
        refine lv_iadd hx hb dX11_stales_23 ?_
        refine lv_istore_n (lv' := [(1, .int (q1.1 + r4)), (0, .ref (a0 0)), (2, .int q1.2)]) hx hb dX11_stales_24 rfl hl (by decide) rfl (fun ls hl => ?_)
        refine lv_iinc (v := (q1.2 + 1)) (lv' := [(2, .int (q1.2 + 1)), (1, .int (q1.1 + r4)), (0, .ref (a0 0))]) hx hb dX11_stales_25 hl (k := 2) rfl rfl (by decide) rfl (fun ls hl => ?_)
        refine lv_goto (tgt := 4) hx hb dX11_stales_28 rfl ?_
        exact ih1 ((q1.1 + r4), (q1.2 + 1)) ls (lv_sub hl [2, 1, 0] rfl) hf
  exact L1 FU ((0 : Int32), (0 : Int32)) ls (lv_sub hl [2, 1, 0] rfl) hf

/-! X11_forgotten -/
abbrev rmX11_forgotten : Room := { frames := 0, cells := 0, slots := 0, locals := 0 }
theorem hdS_X11_forgotten : yX11_forgotten.cls ≠ "java/lang/invoke/MethodHandle" ∧ yX11_forgotten.cls ≠ "java/lang/invoke/VarHandle" ∧ (parseMethodDescriptor yX11_forgotten.desc).map (fun d => d.parameters.length) = some 0 := by decide +kernel
theorem hdV_X11_forgotten : yX11_forgotten.cls = RX11 ∧ yX11_forgotten.cls ≠ "java/lang/invoke/MethodHandle" ∧ yX11_forgotten.cls ≠ "java/lang/invoke/VarHandle" ∧ (parseMethodDescriptor yX11_forgotten.desc).map (fun d => d.parameters.length) = some 0 := ⟨rfl, hdS_X11_forgotten⟩
set_option maxHeartbeats 4000000 in
set_option maxRecDepth 100000 in
theorem c_X11_forgotten (l : Launch) (E : G0) (a0 : Nat → Nat) (v0 : MD) (x : Int32) (hf : f_X11_forgotten v0 = some x) : Met l yX11_forgotten wsX11_forgotten rmX11_forgotten (va_Pc [.ref (a0 0)] (PR E (wMD E a0 v0))) (vp_Si (fun r => r = x)) 0 0 (fun _ => False) := by
  refine Met.ofW (cc := cX11_forgotten) (maxL := 3) (ret := some .int) (by decide) rfl ?_
  intro p e s m args below meth c s₁ B hml hv
  obtain ⟨ha, hP, hC⟩ := hv
  have hx := B.exec
  have hb := B.bytes
  have hr := B.returns
  have hts := atoms_spec (ws := wsX11_forgotten) B.pre
  have hown : s.vm.findClass RX11 = some m.cls := findClass_of_methodNamed B.named
  have hlocks := B.notSynchronized
  have hS : va_S (fun _ => False) s.heap s.heap [] := va_S.rf
  have w1 : (Cond.fieldLink RX11 7 "GreatChunksModel" "now" "[J").before args s = true := hts _ (List.mem_of_getElem? (i := 1) rfl)
  have w2 : ∀ w ∈ wsX110, w ∈ wsX11_forgotten := in_pl 2 rfl
  generalize hQe : MQ below (vp_Si (fun r => r = x)) args s 0 0 (fun _ => False) = Q
  refine st_W ha (Nat.le_of_ble_eq_true rfl) (fun ls hl => ?_)
  have hl : lv_has ls 3 [(0, .ref (a0 0))] := hl
  unfold f_X11_forgotten at hf
  refine lv_iconst (v := 0) hx hb dX11_forgotten_0 rfl ?_
  refine lv_istore_n (lv' := [(1, .int (0 : Int32)), (0, .ref (a0 0))]) hx hb dX11_forgotten_1 rfl hl (by decide) rfl (fun ls hl => ?_)
  refine lv_iconst (v := 0) hx hb dX11_forgotten_2 rfl ?_
  refine lv_istore_n (lv' := [(2, .int (0 : Int32)), (1, .int (0 : Int32)), (0, .ref (a0 0))]) hx hb dX11_forgotten_3 rfl hl (by decide) rfl (fun ls hl => ?_)
  obtain ⟨K1, hK1, hf⟩ := jn_some hf
  have J1 : ∀ (q1 : Int32 × Int32) (ls : Array Slot) (hl : lv_has ls 3 [(1, .int q1.1)]) (hf : K1 q1 = some x), W p l e (headSpec wsX11_forgotten rmX11_forgotten).room s m args below meth c s.heap [] 0 0 Q (F0 m 49 ls []) := by
    intro q1 ls hl hf
    have hf := (hK1 q1).trans hf
    refine lv_iload_n hx hb dX11_forgotten_49 rfl (lv_at hl 0 rfl) ?_
    cases Option.some.inj hf
    subst hQe
    exact en_i hx hb hr hlocks dX11_forgotten_50
  have L1 : ∀ (n : Nat) (q1 : Int32 × Int32) (ls : Array Slot) (hl : lv_has ls 3 [(0, .ref (a0 0)), (1, .int q1.1), (2, .int q1.2)]) (hf : lpF (bX11_forgotten_1 v0 K1) n q1 = some x), W p l e (headSpec wsX11_forgotten rmX11_forgotten).room s m args below meth c s.heap [] 0 0 Q (F0 m 4 ls []) := by
    intro n
    induction n with
    | zero => intro q1 ls hl hf; exact (lpF_zero hf).elim
    | succ n ih1 =>
      intro q1 ls hl hf
      have hf := lpF_succ hf
      unfold bX11_forgotten_1 at hf
      refine lv_iload_n hx hb dX11_forgotten_4 rfl (lv_at hl 2 rfl) ?_
      refine lv_i2l hx hb dX11_forgotten_5 rfl ?_
      refine lv_aload_n hx hb dX11_forgotten_6 rfl (lv_at hl 0 rfl) ?_
      refine va_get (D := E.1) (ci := 9) (v := .ref (a0 1)) (C := RX11) (T := TX11) (N := 17) hx hb hts w2 hown hC.1 hP 0 rfl rfl 0 (by decide) w1 (fun _ h9 => h9) rfl dX11_forgotten_7 ?_
      refine lv_bipush (v := 6) hx hb dX11_forgotten_10 rfl ?_
      obtain ⟨h2, hf⟩ := gdI_some hf
      refine va_lald hx hb hC.1 hP 1 1 rfl rfl h2 dX11_forgotten_12 ?_
      refine W.lcmp hx hb dX11_forgotten_13 ?_
      refine lv_if_ge (tgt := 49) hx hb dX11_forgotten_14 rfl (fun c3 => ?_) (fun c3 => ?_)
      · have hf := it_t hf c3
        exact J1 (q1.1, q1.2) ls (lv_sub hl [1] rfl) hf
      · have hf := it_f hf c3
        refine lv_iload_n hx hb dX11_forgotten_17 rfl (lv_at hl 1 rfl) ?_
        refine lv_aload_n hx hb dX11_forgotten_18 rfl (lv_at hl 0 rfl) ?_
        refine va_get (D := E.1) (ci := 9) (v := .ref (a0 1)) (C := RX11) (T := TX11) (N := 17) hx hb hts w2 hown hC.1 hP 0 rfl rfl 0 (by decide) w1 (fun _ h9 => h9) rfl dX11_forgotten_19 ?_
        refine lv_bipush (v := 70) hx hb dX11_forgotten_22 rfl ?_
        refine lv_iconst (v := 4) hx hb dX11_forgotten_24 rfl ?_
        refine lv_iload_n hx hb dX11_forgotten_25 rfl (lv_at hl 2 rfl) ?_
        refine lv_imul hx hb dX11_forgotten_26 ?_
        refine lv_iadd hx hb dX11_forgotten_27 ?_
        refine lv_iconst (v := 1) hx hb dX11_forgotten_28 rfl ?_
        refine lv_iadd hx hb dX11_forgotten_29 ?_
        obtain ⟨h4, hf⟩ := gdI_some hf
        refine va_lald hx hb hC.1 hP 1 1 rfl rfl h4 dX11_forgotten_30 ?_
        refine lv_lconst (v := 0) hx hb dX11_forgotten_31 rfl ?_
        refine W.lcmp hx hb dX11_forgotten_32 ?_
        refine lv_if_ne (tgt := 40) hx hb dX11_forgotten_33 rfl (fun c5 => ?_) (fun c5 => ?_)
        · have hf := it_f hf c5
          refine lv_iconst (v := 0) hx hb dX11_forgotten_40 rfl ?_
          refine lv_iadd hx hb dX11_forgotten_41 ?_
          refine lv_istore_n (lv' := [(1, .int (q1.1 + (0 : Int32))), (0, .ref (a0 0)), (2, .int q1.2)]) hx hb dX11_forgotten_42 rfl hl (by decide) rfl (fun ls hl => ?_)
          refine lv_iinc (v := (q1.2 + 1)) (lv' := [(2, .int (q1.2 + 1)), (1, .int (q1.1 + (0 : Int32))), (0, .ref (a0 0))]) hx hb dX11_forgotten_43 hl (k := 2) rfl rfl (by decide) rfl (fun ls hl => ?_)
          refine lv_goto (tgt := 4) hx hb dX11_forgotten_46 rfl ?_
          exact ih1 ((q1.1 + (0 : Int32)), (q1.2 + 1)) ls (lv_sub hl [2, 1, 0] rfl) hf
        · have hf := it_t hf c5
          refine lv_iconst (v := 1) hx hb dX11_forgotten_36 rfl ?_
          refine lv_goto (tgt := 41) hx hb dX11_forgotten_37 rfl ?_
          refine lv_iadd hx hb dX11_forgotten_41 ?_
          refine lv_istore_n (lv' := [(1, .int (q1.1 + (1 : Int32))), (0, .ref (a0 0)), (2, .int q1.2)]) hx hb dX11_forgotten_42 rfl hl (by decide) rfl (fun ls hl => ?_)
          refine lv_iinc (v := (q1.2 + 1)) (lv' := [(2, .int (q1.2 + 1)), (1, .int (q1.1 + (1 : Int32))), (0, .ref (a0 0))]) hx hb dX11_forgotten_43 hl (k := 2) rfl rfl (by decide) rfl (fun ls hl => ?_)
          refine lv_goto (tgt := 4) hx hb dX11_forgotten_46 rfl ?_
          exact ih1 ((q1.1 + (1 : Int32)), (q1.2 + 1)) ls (lv_sub hl [2, 1, 0] rfl) hf
  exact L1 FU ((0 : Int32), (0 : Int32)) ls (lv_sub hl [2, 1, 0] rfl) hf

/-! X11_sums -/
abbrev rmX11_sums : Room := { frames := 5, cells := 0, slots := 0, locals := 113 }
theorem hdS_X11_sums : yX11_sums.cls ≠ "java/lang/invoke/MethodHandle" ∧ yX11_sums.cls ≠ "java/lang/invoke/VarHandle" ∧ (parseMethodDescriptor yX11_sums.desc).map (fun d => d.parameters.length) = some 1 := by decide +kernel
theorem hdV_X11_sums : yX11_sums.cls = RX11 ∧ yX11_sums.cls ≠ "java/lang/invoke/MethodHandle" ∧ yX11_sums.cls ≠ "java/lang/invoke/VarHandle" ∧ (parseMethodDescriptor yX11_sums.desc).map (fun d => d.parameters.length) = some 1 := ⟨rfl, hdS_X11_sums⟩
set_option maxHeartbeats 4000000 in
set_option maxRecDepth 100000 in
theorem c_X11_sums (l : Launch) (E : G0) (a0 : Nat → Nat) (v0 : MD) (p1 : Int32) (x : Int32) (hf : f_X11_sums v0 p1 = some x) : Met l yX11_sums wsX11_sums rmX11_sums (va_Pc [.ref (a0 0), .int p1] (PR E (wMD E a0 v0))) (vp_Si (fun r => r = x)) 0 0 (fun _ => False) := by
  refine Met.ofW (cc := cX11_sums) (maxL := 2) (ret := some .int) (by decide) rfl ?_
  intro p e s m args below meth c s₁ B hml hv
  obtain ⟨ha, hP, hC⟩ := hv
  have hx := B.exec
  have hb := B.bytes
  have hr := B.returns
  have hts := atoms_spec (ws := wsX11_sums) B.pre
  have hown : s.vm.findClass RX11 = some m.cls := findClass_of_methodNamed B.named
  have hlocks := B.notSynchronized
  have hS : va_S (fun _ => False) s.heap s.heap [] := va_S.rf
  have w1 : (Cond.constant RX11 261 (-1000002)).before args s = true := hts _ (List.mem_of_getElem? (i := 1) rfl)
  have w2 : (Cond.fieldLink RX11 7 "GreatChunksModel" "now" "[J").before args s = true := hts _ (List.mem_of_getElem? (i := 2) rfl)
  have w3 : ∀ w ∈ wsX110, w ∈ wsX11_sums := in_pl 49 rfl
  have w4 : (Cond.constant RX11 235 (-1000001)).before args s = true := hts _ (List.mem_of_getElem? (i := 3) rfl)
  generalize hQe : MQ below (vp_Si (fun r => r = x)) args s 0 0 (fun _ => False) = Q
  refine st_W ha (Nat.le_of_ble_eq_true rfl) (fun ls hl => ?_)
  have hl : lv_has ls 2 [(0, .ref (a0 0)), (1, .int p1)] := hl
  unfold f_X11_sums at hf
  refine lv_aload_n hx hb dX11_sums_0 rfl (lv_at hl 0 rfl) ?_
  obtain ⟨r1, e1, hf⟩ := bd_some hf
  refine cr_i (va_runV (As := []) (rest := []) ⟨hx, hb, hml, hown, hts⟩ (c_X11_isHouse l E a0 v0 r1 e1) (cwV 0 hts gX11_sums_X11_isHouse rfl rfl rfl hdV_X11_isHouse ⟨Nat.le_of_ble_eq_true rfl, Nat.le_of_ble_eq_true rfl⟩) ⟨PR.blind, va_recv hC.1 hP (ci := 9) (q0 := 0) rfl rfl, PR.pre hC hS hP⟩ rfl rfl hl.1 rfl (lv_room (Nat.le_of_ble_eq_true rfl)) dX11_sums_1 ⟨Nat.le_of_ble_eq_true rfl, Nat.le_of_ble_eq_true rfl⟩) ?_
  refine lv_if_ne (tgt := 11) hx hb dX11_sums_4 rfl (fun c2 => ?_) (fun c2 => ?_)
  · have hf := it_f hf c2
    refine lv_iload_n hx hb dX11_sums_11 rfl (lv_at hl 1 rfl) ?_
    by_cases s3 : p1 = 0
    · have hf := it_t hf s3
      refine lv_tableIn (tgt := 56) (off := 44) hx hb dX11_sums_12 (by rw [s3]; decide) (by rw [s3]; decide) (by rw [s3]; rfl) rfl ?_
      refine lv_aload_n hx hb dX11_sums_56 rfl (lv_at hl 0 rfl) ?_
      refine va_get (D := E.1) (ci := 9) (v := .ref (a0 1)) (C := RX11) (T := TX11) (N := 17) hx hb hts w3 hown hC.1 hP 0 rfl rfl 0 (by decide) w2 (fun _ h9 => h9) rfl dX11_sums_57 ?_
      refine lv_iconst (v := 5) hx hb dX11_sums_60 rfl ?_
      obtain ⟨h4, hf⟩ := gdI_some hf
      refine va_lald hx hb hC.1 hP 1 1 rfl rfl h4 dX11_sums_61 ?_
      refine lv_l2i hx hb dX11_sums_62 rfl ?_
      cases Option.some.inj hf
      subst hQe
      exact en_i hx hb hr hlocks dX11_sums_63
    have hf := it_f hf s3
    by_cases s5 : p1 = 1
    · have hf := it_t hf s5
      refine lv_tableIn (tgt := 64) (off := 52) hx hb dX11_sums_12 (by rw [s5]; decide) (by rw [s5]; decide) (by rw [s5]; rfl) rfl ?_
      refine lv_aload_n hx hb dX11_sums_64 rfl (lv_at hl 0 rfl) ?_
      refine va_get (D := E.1) (ci := 9) (v := .ref (a0 1)) (C := RX11) (T := TX11) (N := 17) hx hb hts w3 hown hC.1 hP 0 rfl rfl 0 (by decide) w2 (fun _ h9 => h9) rfl dX11_sums_65 ?_
      refine lv_bipush (v := 6) hx hb dX11_sums_68 rfl ?_
      obtain ⟨h6, hf⟩ := gdI_some hf
      refine va_lald hx hb hC.1 hP 1 1 rfl rfl h6 dX11_sums_70 ?_
      refine lv_l2i hx hb dX11_sums_71 rfl ?_
      cases Option.some.inj hf
      subst hQe
      exact en_i hx hb hr hlocks dX11_sums_72
    have hf := it_f hf s5
    by_cases s7 : p1 = 2
    · have hf := it_t hf s7
      refine lv_tableIn (tgt := 73) (off := 61) hx hb dX11_sums_12 (by rw [s7]; decide) (by rw [s7]; decide) (by rw [s7]; rfl) rfl ?_
      refine lv_aload_n hx hb dX11_sums_73 rfl (lv_at hl 0 rfl) ?_
      obtain ⟨r8, e8, hf⟩ := bd_some hf
      refine cr_i (va_runV (As := []) (rest := []) ⟨hx, hb, hml, hown, hts⟩ (c_X11_forgotten l E a0 v0 r8 e8) (cwV 0 hts gX11_sums_X11_forgotten rfl rfl rfl hdV_X11_forgotten ⟨Nat.le_of_ble_eq_true rfl, Nat.le_of_ble_eq_true rfl⟩) ⟨PR.blind, va_recv hC.1 hP (ci := 9) (q0 := 0) rfl rfl, PR.pre hC hS hP⟩ rfl rfl hl.1 rfl (lv_room (Nat.le_of_ble_eq_true rfl)) dX11_sums_74 ⟨Nat.le_of_ble_eq_true rfl, Nat.le_of_ble_eq_true rfl⟩) ?_
      cases Option.some.inj hf
      subst hQe
      exact en_i hx hb hr hlocks dX11_sums_77
    have hf := it_f hf s7
    by_cases s9 : p1 = 3
    · have hf := it_t hf s9
      refine lv_tableIn (tgt := 78) (off := 66) hx hb dX11_sums_12 (by rw [s9]; decide) (by rw [s9]; decide) (by rw [s9]; rfl) rfl ?_
      refine lv_aload_n hx hb dX11_sums_78 rfl (lv_at hl 0 rfl) ?_
      refine va_get (D := E.1) (ci := 9) (v := .ref (a0 1)) (C := RX11) (T := TX11) (N := 17) hx hb hts w3 hown hC.1 hP 0 rfl rfl 0 (by decide) w2 (fun _ h9 => h9) rfl dX11_sums_79 ?_
      obtain ⟨r10, e10, hf⟩ := bd_some hf
      refine cr_i (va_runS (As := [.ref (a0 1)]) (rest := []) ⟨hx, hb, hml, hown, hts⟩ (c_X11_allLying l E (a0 1) v0.1 r10 e10) (va_cwS 1 hts gX11_sums_X11_allLying rfl rfl rfl hdS_X11_allLying ⟨Nat.le_of_ble_eq_true rfl, Nat.le_of_ble_eq_true rfl⟩) ⟨PR.blind, PR.pre hC hS (hP.sub [1] rfl)⟩ rfl rfl hl.1 rfl (lv_room (Nat.le_of_ble_eq_true rfl)) dX11_sums_82 ⟨Nat.le_of_ble_eq_true rfl, Nat.le_of_ble_eq_true rfl⟩) ?_
      cases Option.some.inj hf
      subst hQe
      exact en_i hx hb hr hlocks dX11_sums_85
    have hf := it_f hf s9
    by_cases s11 : p1 = 4
    · have hf := it_t hf s11
      refine lv_tableIn (tgt := 86) (off := 74) hx hb dX11_sums_12 (by rw [s11]; decide) (by rw [s11]; decide) (by rw [s11]; rfl) rfl ?_
      refine lv_aload_n hx hb dX11_sums_86 rfl (lv_at hl 0 rfl) ?_
      obtain ⟨r12, e12, hf⟩ := bd_some hf
      refine cr_i (va_runV (As := []) (rest := []) ⟨hx, hb, hml, hown, hts⟩ (c_X11_stales l E a0 v0 r12 e12) (cwV 0 hts gX11_sums_X11_stales rfl rfl rfl hdV_X11_stales ⟨Nat.le_of_ble_eq_true rfl, Nat.le_of_ble_eq_true rfl⟩) ⟨PR.blind, va_recv hC.1 hP (ci := 9) (q0 := 0) rfl rfl, PR.pre hC hS hP⟩ rfl rfl hl.1 rfl (lv_room (Nat.le_of_ble_eq_true rfl)) dX11_sums_87 ⟨Nat.le_of_ble_eq_true rfl, Nat.le_of_ble_eq_true rfl⟩) ?_
      cases Option.some.inj hf
      subst hQe
      exact en_i hx hb hr hlocks dX11_sums_90
    have hf := it_f hf s11
    by_cases s13 : p1 = 5
    · have hf := it_t hf s13
      refine lv_tableIn (tgt := 91) (off := 79) hx hb dX11_sums_12 (by rw [s13]; decide) (by rw [s13]; decide) (by rw [s13]; rfl) rfl ?_
      refine lv_aload_n hx hb dX11_sums_91 rfl (lv_at hl 0 rfl) ?_
      refine lv_iconst (v := 0) hx hb dX11_sums_92 rfl ?_
      obtain ⟨r14, e14, hf⟩ := bd_some hf
      refine cr_i (va_runV (As := [.int (0 : Int32)]) (rest := []) ⟨hx, hb, hml, hown, hts⟩ (c_X11_cells l E a0 v0 (0 : Int32) r14 e14) (cwV 1 hts gX11_sums_X11_cells rfl rfl rfl hdV_X11_cells ⟨Nat.le_of_ble_eq_true rfl, Nat.le_of_ble_eq_true rfl⟩) ⟨PR.blind, va_recv hC.1 hP (ci := 9) (q0 := 0) rfl rfl, PR.pre hC hS hP⟩ rfl rfl hl.1 rfl (lv_room (Nat.le_of_ble_eq_true rfl)) dX11_sums_93 ⟨Nat.le_of_ble_eq_true rfl, Nat.le_of_ble_eq_true rfl⟩) ?_
      cases Option.some.inj hf
      subst hQe
      exact en_i hx hb hr hlocks dX11_sums_96
    have hf := it_f hf s13
    by_cases s15 : p1 = 6
    · have hf := it_t hf s15
      refine lv_tableIn (tgt := 97) (off := 85) hx hb dX11_sums_12 (by rw [s15]; decide) (by rw [s15]; decide) (by rw [s15]; rfl) rfl ?_
      refine lv_aload_n hx hb dX11_sums_97 rfl (lv_at hl 0 rfl) ?_
      refine lv_iconst (v := 1) hx hb dX11_sums_98 rfl ?_
      obtain ⟨r16, e16, hf⟩ := bd_some hf
      refine cr_i (va_runV (As := [.int (1 : Int32)]) (rest := []) ⟨hx, hb, hml, hown, hts⟩ (c_X11_cells l E a0 v0 (1 : Int32) r16 e16) (cwV 1 hts gX11_sums_X11_cells rfl rfl rfl hdV_X11_cells ⟨Nat.le_of_ble_eq_true rfl, Nat.le_of_ble_eq_true rfl⟩) ⟨PR.blind, va_recv hC.1 hP (ci := 9) (q0 := 0) rfl rfl, PR.pre hC hS hP⟩ rfl rfl hl.1 rfl (lv_room (Nat.le_of_ble_eq_true rfl)) dX11_sums_99 ⟨Nat.le_of_ble_eq_true rfl, Nat.le_of_ble_eq_true rfl⟩) ?_
      cases Option.some.inj hf
      subst hQe
      exact en_i hx hb hr hlocks dX11_sums_102
    have hf := it_f hf s15
    refine lv_tableOut (tgt := 103) hx hb dX11_sums_12 (sw_out (x := p1) 6 (by decide) (fun k hk => match k, hk with | 0, _ => s3 | 1, _ => s5 | 2, _ => s7 | 3, _ => s9 | 4, _ => s11 | 5, _ => s13 | 6, _ => s15 | k + 7, hk => absurd hk (by omega))) rfl ?_
    refine lv_ldc hx hb hown w4 dX11_sums_103 ?_
    cases Option.some.inj hf
    subst hQe
    exact en_i hx hb hr hlocks dX11_sums_105
  · have hf := it_t hf c2
    refine lv_ldcw hx hb hown w1 dX11_sums_7 ?_
    cases Option.some.inj hf
    subst hQe
    exact en_i hx hb hr hlocks dX11_sums_10

/-! X11_isOf -/
abbrev rmX11_isOf : Room := { frames := 0, cells := 0, slots := 0, locals := 0 }
theorem hdS_X11_isOf : yX11_isOf.cls ≠ "java/lang/invoke/MethodHandle" ∧ yX11_isOf.cls ≠ "java/lang/invoke/VarHandle" ∧ (parseMethodDescriptor yX11_isOf.desc).map (fun d => d.parameters.length) = some 2 := by decide +kernel
set_option maxHeartbeats 4000000 in
set_option maxRecDepth 100000 in
theorem c_X11_isOf (l : Launch) (E : G0) (p0 : Int64) (p1 : Int32) (x : Bool) (hf : f_X11_isOf p0 p1 = some x) : Met l yX11_isOf wsX11_isOf rmX11_isOf (va_Pc [.long p0, .int p1] (PR E ([] : va_W))) (vp_Si (fun r => r = bI x)) 0 0 (fun _ => False) := by
  refine Met.ofW (cc := cX11_isOf) (maxL := 3) (ret := some .boolean) (by decide) rfl ?_
  intro p e s m args below meth c s₁ B hml hv
  obtain ⟨ha, hP, hC⟩ := hv
  have hx := B.exec
  have hb := B.bytes
  have hr := B.returns
  have hts := atoms_spec (ws := wsX11_isOf) B.pre
  have hown : s.vm.findClass RX11 = some m.cls := findClass_of_methodNamed B.named
  have hlocks := B.notSynchronized
  have hS : va_S (fun _ => False) s.heap s.heap [] := va_S.rf
  have w1 : (Cond.constantLong RX11 88 (4)).before args s = true := hts _ (List.mem_of_getElem? (i := 1) rfl)
  have w2 : (Cond.constantLong RX11 84 (5)).before args s = true := hts _ (List.mem_of_getElem? (i := 2) rfl)
  generalize hQe : MQ below (vp_Si (fun r => r = bI x)) args s 0 0 (fun _ => False) = Q
  refine st_W ha (Nat.le_of_ble_eq_true rfl) (fun ls hl => ?_)
  have hl : lv_has ls 3 [(0, .long p0), (2, .int p1)] := hl
  unfold f_X11_isOf at hf
  refine lv_iload_n hx hb dX11_isOf_0 rfl (lv_at hl 1 rfl) ?_
  refine lv_if_eq (tgt := 37) hx hb dX11_isOf_1 rfl (fun c1 => ?_) (fun c1 => ?_)
  · have hf := it_t hf c1
    refine lv_iconst (v := 1) hx hb dX11_isOf_37 rfl ?_
    refine lv_goto (tgt := 42) hx hb dX11_isOf_38 rfl ?_
    cases Option.some.inj hf
    subst hQe
    exact en_z hx hb hr hlocks rfl dX11_isOf_42
  · have hf := it_f hf c1
    refine lv_lload_n hx hb dX11_isOf_4 rfl (lv_at hl 0 rfl) ?_
    refine lv_iload_n hx hb dX11_isOf_5 rfl (lv_at hl 1 rfl) ?_
    refine lv_i2l hx hb dX11_isOf_6 rfl ?_
    refine W.lcmp hx hb dX11_isOf_7 ?_
    refine lv_if_eq (tgt := 37) hx hb dX11_isOf_8 rfl (fun c2 => ?_) (fun c2 => ?_)
    · have hf := it_t hf c2
      refine lv_iconst (v := 1) hx hb dX11_isOf_37 rfl ?_
      refine lv_goto (tgt := 42) hx hb dX11_isOf_38 rfl ?_
      cases Option.some.inj hf
      subst hQe
      exact en_z hx hb hr hlocks rfl dX11_isOf_42
    · have hf := it_f hf c2
      refine lv_iload_n hx hb dX11_isOf_11 rfl (lv_at hl 1 rfl) ?_
      refine lv_iconst (v := 1) hx hb dX11_isOf_12 rfl ?_
      obtain ⟨K3, hK3, hf⟩ := jn_some hf
      have J3 : ∀ (q3 : Unit) (hf : K3 q3 = some x), W p l e (headSpec wsX11_isOf rmX11_isOf).room s m args below meth c s.heap [] 0 0 Q (F0 m 24 ls []) := by
        intro q3 hf
        have hf := (hK3 q3).trans hf
        refine lv_iload_n hx hb dX11_isOf_24 rfl (lv_at hl 1 rfl) ?_
        refine lv_iconst (v := 4) hx hb dX11_isOf_25 rfl ?_
        refine lv_icmp_ne (tgt := 41) hx hb dX11_isOf_26 rfl (fun c4 => ?_) (fun c4 => ?_)
        · have hf := it_f hf c4
          refine lv_iconst (v := 0) hx hb dX11_isOf_41 rfl ?_
          cases Option.some.inj hf
          subst hQe
          exact en_z hx hb hr hlocks rfl dX11_isOf_42
        · have hf := it_t hf c4
          refine lv_lload_n hx hb dX11_isOf_29 rfl (lv_at hl 0 rfl) ?_
          refine lv_ldc2 hx hb hown w2 dX11_isOf_30 ?_
          refine W.lcmp hx hb dX11_isOf_33 ?_
          refine lv_if_ne (tgt := 41) hx hb dX11_isOf_34 rfl (fun c5 => ?_) (fun c5 => ?_)
          · have hf := it_f hf c5
            refine lv_iconst (v := 0) hx hb dX11_isOf_41 rfl ?_
            cases Option.some.inj hf
            subst hQe
            exact en_z hx hb hr hlocks rfl dX11_isOf_42
          · have hf := it_t hf c5
            refine lv_iconst (v := 1) hx hb dX11_isOf_37 rfl ?_
            refine lv_goto (tgt := 42) hx hb dX11_isOf_38 rfl ?_
            cases Option.some.inj hf
            subst hQe
            exact en_z hx hb hr hlocks rfl dX11_isOf_42
      refine lv_icmp_ne (tgt := 24) hx hb dX11_isOf_13 rfl (fun c6 => ?_) (fun c6 => ?_)
      · have hf := it_f hf c6
        exact J3 () hf
      · have hf := it_t hf c6
        refine lv_lload_n hx hb dX11_isOf_16 rfl (lv_at hl 0 rfl) ?_
        refine lv_ldc2 hx hb hown w1 dX11_isOf_17 ?_
        refine W.lcmp hx hb dX11_isOf_20 ?_
        refine lv_if_lt (tgt := 37) hx hb dX11_isOf_21 rfl (fun c7 => ?_) (fun c7 => ?_)
        · have hf := it_t hf c7
          refine lv_iconst (v := 1) hx hb dX11_isOf_37 rfl ?_
          refine lv_goto (tgt := 42) hx hb dX11_isOf_38 rfl ?_
          cases Option.some.inj hf
          subst hQe
          exact en_z hx hb hr hlocks rfl dX11_isOf_42
        · have hf := it_f hf c7
          exact J3 () hf

/-! X11_as -/
abbrev rmX11_as : Room := { frames := 2, cells := 0, slots := 0, locals := 45 }
theorem hdS_X11_as : yX11_as.cls ≠ "java/lang/invoke/MethodHandle" ∧ yX11_as.cls ≠ "java/lang/invoke/VarHandle" ∧ (parseMethodDescriptor yX11_as.desc).map (fun d => d.parameters.length) = some 2 := by decide +kernel
theorem hdV_X11_as : yX11_as.cls = RX11 ∧ yX11_as.cls ≠ "java/lang/invoke/MethodHandle" ∧ yX11_as.cls ≠ "java/lang/invoke/VarHandle" ∧ (parseMethodDescriptor yX11_as.desc).map (fun d => d.parameters.length) = some 2 := ⟨rfl, hdS_X11_as⟩
set_option maxHeartbeats 4000000 in
set_option maxRecDepth 100000 in
theorem c_X11_as (l : Launch) (E : G0) (a0 : Nat → Nat) (v0 : MD) (p1 : Int32) (p2 : Int32) (x : Int32) (hf : f_X11_as v0 p1 p2 = some x) : Met l yX11_as wsX11_as rmX11_as (va_Pc [.ref (a0 0), .int p1, .int p2] (PR E (wMD E a0 v0))) (vp_Si (fun r => r = x)) 0 0 (fun _ => False) := by
  refine Met.ofW (cc := cX11_as) (maxL := 3) (ret := some .int) (by decide) rfl ?_
  intro p e s m args below meth c s₁ B hml hv
  obtain ⟨ha, hP, hC⟩ := hv
  have hx := B.exec
  have hb := B.bytes
  have hr := B.returns
  have hts := atoms_spec (ws := wsX11_as) B.pre
  have hown : s.vm.findClass RX11 = some m.cls := findClass_of_methodNamed B.named
  have hlocks := B.notSynchronized
  have hS : va_S (fun _ => False) s.heap s.heap [] := va_S.rf
  have w1 : (Cond.constant RX11 261 (-1000002)).before args s = true := hts _ (List.mem_of_getElem? (i := 1) rfl)
  have w2 : (Cond.constant RX11 235 (-1000001)).before args s = true := hts _ (List.mem_of_getElem? (i := 3) rfl)
  have w3 : (Cond.constantLong RX11 84 (5)).before args s = true := hts _ (List.mem_of_getElem? (i := 2) rfl)
  have w4 : (Cond.fieldLink RX11 7 "GreatChunksModel" "now" "[J").before args s = true := hts _ (List.mem_of_getElem? (i := 4) rfl)
  have w5 : ∀ w ∈ wsX110, w ∈ wsX11_as := in_pl 21 rfl
  have w6 : (Cond.constant RX11 186 (-1000000)).before args s = true := hts _ (List.mem_of_getElem? (i := 5) rfl)
  generalize hQe : MQ below (vp_Si (fun r => r = x)) args s 0 0 (fun _ => False) = Q
  refine st_W ha (Nat.le_of_ble_eq_true rfl) (fun ls hl => ?_)
  have hl : lv_has ls 3 [(0, .ref (a0 0)), (1, .int p1), (2, .int p2)] := hl
  unfold f_X11_as at hf
  refine lv_aload_n hx hb dX11_as_0 rfl (lv_at hl 0 rfl) ?_
  obtain ⟨r1, e1, hf⟩ := bd_some hf
  refine cr_i (va_runV (As := []) (rest := []) ⟨hx, hb, hml, hown, hts⟩ (c_X11_isHouse l E a0 v0 r1 e1) (cwV 0 hts gX11_as_X11_isHouse rfl rfl rfl hdV_X11_isHouse ⟨Nat.le_of_ble_eq_true rfl, Nat.le_of_ble_eq_true rfl⟩) ⟨PR.blind, va_recv hC.1 hP (ci := 9) (q0 := 0) rfl rfl, PR.pre hC hS hP⟩ rfl rfl hl.1 rfl (lv_room (Nat.le_of_ble_eq_true rfl)) dX11_as_1 ⟨Nat.le_of_ble_eq_true rfl, Nat.le_of_ble_eq_true rfl⟩) ?_
  refine lv_if_ne (tgt := 11) hx hb dX11_as_4 rfl (fun c2 => ?_) (fun c2 => ?_)
  · have hf := it_f hf c2
    refine lv_iload_n hx hb dX11_as_11 rfl (lv_at hl 1 rfl) ?_
    refine cr_i (va_runS (As := [.int p1]) (rest := []) ⟨hx, hb, hml, hown, hts⟩ (c_X11_isFile l E p1 _ rfl) (va_cwS 1 hts gX11_as_X11_isFile rfl rfl rfl hdS_X11_isFile ⟨Nat.le_of_ble_eq_true rfl, Nat.le_of_ble_eq_true rfl⟩) ⟨PR.blind, PR.pre hC hS (hP.sub [] rfl)⟩ rfl rfl hl.1 rfl (lv_room (Nat.le_of_ble_eq_true rfl)) dX11_as_12 ⟨Nat.le_of_ble_eq_true rfl, Nat.le_of_ble_eq_true rfl⟩) ?_
    refine lv_if_eq (tgt := 30) hx hb dX11_as_15 rfl (fun c3 => ?_) (fun c3 => ?_)
    · have hf := it_t hf c3
      refine lv_ldc hx hb hown w2 dX11_as_30 ?_
      cases Option.some.inj hf
      subst hQe
      exact en_i hx hb hr hlocks dX11_as_32
    · have hf := it_f hf c3
      refine lv_iload_n hx hb dX11_as_18 rfl (lv_at hl 2 rfl) ?_
      refine lv_i2l hx hb dX11_as_19 rfl ?_
      refine lv_lconst (v := 0) hx hb dX11_as_20 rfl ?_
      refine lv_ldc2 hx hb hown w3 dX11_as_21 ?_
      refine cr_i (va_runS (As := [.long p2.toInt64, .long (0 : Int64), .long ((5) : Int64)]) (rest := []) ⟨hx, hb, hml, hown, hts⟩ (c_X11_in l E p2.toInt64 (0 : Int64) ((5) : Int64) _ rfl) (va_cwS 3 hts gX11_as_X11_in rfl rfl rfl hdS_X11_in ⟨Nat.le_of_ble_eq_true rfl, Nat.le_of_ble_eq_true rfl⟩) ⟨PR.blind, PR.pre hC hS (hP.sub [] rfl)⟩ rfl rfl hl.1 rfl (lv_room (Nat.le_of_ble_eq_true rfl)) dX11_as_24 ⟨Nat.le_of_ble_eq_true rfl, Nat.le_of_ble_eq_true rfl⟩) ?_
      refine lv_if_ne (tgt := 33) hx hb dX11_as_27 rfl (fun c4 => ?_) (fun c4 => ?_)
      · have hf := it_f hf c4
        refine lv_aload_n hx hb dX11_as_33 rfl (lv_at hl 0 rfl) ?_
        refine va_get (D := E.1) (ci := 9) (v := .ref (a0 1)) (C := RX11) (T := TX11) (N := 17) hx hb hts w5 hown hC.1 hP 0 rfl rfl 0 (by decide) w4 (fun _ h9 => h9) rfl dX11_as_34 ?_
        refine lv_bipush (v := 22) hx hb dX11_as_37 rfl ?_
        refine lv_bipush (v := 8) hx hb dX11_as_39 rfl ?_
        refine lv_iload_n hx hb dX11_as_41 rfl (lv_at hl 1 rfl) ?_
        refine lv_imul hx hb dX11_as_42 ?_
        refine lv_iadd hx hb dX11_as_43 ?_
        refine lv_iconst (v := 0) hx hb dX11_as_44 rfl ?_
        refine lv_iadd hx hb dX11_as_45 ?_
        obtain ⟨h5, hf⟩ := gdI_some hf
        refine va_lald hx hb hC.1 hP 1 1 rfl rfl h5 dX11_as_46 ?_
        refine lv_lconst (v := 0) hx hb dX11_as_47 rfl ?_
        refine W.lcmp hx hb dX11_as_48 ?_
        refine lv_if_ne (tgt := 56) hx hb dX11_as_49 rfl (fun c6 => ?_) (fun c6 => ?_)
        · have hf := it_f hf c6
          refine lv_aload_n hx hb dX11_as_56 rfl (lv_at hl 0 rfl) ?_
          refine va_get (D := E.1) (ci := 9) (v := .ref (a0 1)) (C := RX11) (T := TX11) (N := 17) hx hb hts w5 hown hC.1 hP 0 rfl rfl 0 (by decide) w4 (fun _ h9 => h9) rfl dX11_as_57 ?_
          refine lv_bipush (v := 22) hx hb dX11_as_60 rfl ?_
          refine lv_bipush (v := 8) hx hb dX11_as_62 rfl ?_
          refine lv_iload_n hx hb dX11_as_64 rfl (lv_at hl 1 rfl) ?_
          refine lv_imul hx hb dX11_as_65 ?_
          refine lv_iadd hx hb dX11_as_66 ?_
          refine lv_iconst (v := 1) hx hb dX11_as_67 rfl ?_
          refine lv_iadd hx hb dX11_as_68 ?_
          obtain ⟨h7, hf⟩ := gdI_some hf
          refine va_lald hx hb hC.1 hP 1 1 rfl rfl h7 dX11_as_69 ?_
          refine lv_iload_n hx hb dX11_as_70 rfl (lv_at hl 2 rfl) ?_
          obtain ⟨r8, e8, hf⟩ := bd_some hf
          refine cr_i (va_runS (As := [.long (v0.1 (((22 : Int32) + ((8 : Int32) * p1)) + (1 : Int32)).toNatClampNeg), .int p2]) (rest := []) ⟨hx, hb, hml, hown, hts⟩ (c_X11_isOf l E (v0.1 (((22 : Int32) + ((8 : Int32) * p1)) + (1 : Int32)).toNatClampNeg) p2 r8 e8) (va_cwS 2 hts gX11_as_X11_isOf rfl rfl rfl hdS_X11_isOf ⟨Nat.le_of_ble_eq_true rfl, Nat.le_of_ble_eq_true rfl⟩) ⟨PR.blind, PR.pre hC hS (hP.sub [] rfl)⟩ rfl rfl hl.1 rfl (lv_room (Nat.le_of_ble_eq_true rfl)) dX11_as_71 ⟨Nat.le_of_ble_eq_true rfl, Nat.le_of_ble_eq_true rfl⟩) ?_
          refine lv_if_eq (tgt := 81) hx hb dX11_as_74 rfl (fun c9 => ?_) (fun c9 => ?_)
          · have hf := it_t hf c9
            refine lv_ldc hx hb hown w6 dX11_as_81 ?_
            cases Option.some.inj hf
            subst hQe
            exact en_i hx hb hr hlocks dX11_as_83
          · have hf := it_f hf c9
            refine lv_iload_n hx hb dX11_as_77 rfl (lv_at hl 1 rfl) ?_
            refine lv_goto (tgt := 83) hx hb dX11_as_78 rfl ?_
            cases Option.some.inj hf
            subst hQe
            exact en_i hx hb hr hlocks dX11_as_83
        · have hf := it_t hf c6
          refine lv_ldcw hx hb hown w1 dX11_as_52 ?_
          cases Option.some.inj hf
          subst hQe
          exact en_i hx hb hr hlocks dX11_as_55
      · have hf := it_t hf c4
        refine lv_ldc hx hb hown w2 dX11_as_30 ?_
        cases Option.some.inj hf
        subst hQe
        exact en_i hx hb hr hlocks dX11_as_32
  · have hf := it_t hf c2
    refine lv_ldcw hx hb hown w1 dX11_as_7 ?_
    cases Option.some.inj hf
    subst hQe
    exact en_i hx hb hr hlocks dX11_as_10

/-! X11_target -/
abbrev rmX11_target : Room := { frames := 5, cells := 0, slots := 0, locals := 114 }
theorem hdS_X11_target : yX11_target.cls ≠ "java/lang/invoke/MethodHandle" ∧ yX11_target.cls ≠ "java/lang/invoke/VarHandle" ∧ (parseMethodDescriptor yX11_target.desc).map (fun d => d.parameters.length) = some 1 := by decide +kernel
theorem hdV_X11_target : yX11_target.cls = RX11 ∧ yX11_target.cls ≠ "java/lang/invoke/MethodHandle" ∧ yX11_target.cls ≠ "java/lang/invoke/VarHandle" ∧ (parseMethodDescriptor yX11_target.desc).map (fun d => d.parameters.length) = some 1 := ⟨rfl, hdS_X11_target⟩
set_option maxHeartbeats 4000000 in
set_option maxRecDepth 100000 in
theorem c_X11_target (l : Launch) (E : G0) (a0 : Nat → Nat) (v0 : MD) (p1 : Int32) (x : Int32) (hf : f_X11_target v0 p1 = some x) : Met l yX11_target wsX11_target rmX11_target (va_Pc [.ref (a0 0), .int p1] (PR E (wMD E a0 v0))) (vp_Si (fun r => r = x)) 0 0 (fun _ => False) := by
  refine Met.ofW (cc := cX11_target) (maxL := 2) (ret := some .int) (by decide) rfl ?_
  intro p e s m args below meth c s₁ B hml hv
  obtain ⟨ha, hP, hC⟩ := hv
  have hx := B.exec
  have hb := B.bytes
  have hr := B.returns
  have hts := atoms_spec (ws := wsX11_target) B.pre
  have hown : s.vm.findClass RX11 = some m.cls := findClass_of_methodNamed B.named
  have hlocks := B.notSynchronized
  have hS : va_S (fun _ => False) s.heap s.heap [] := va_S.rf
  have w1 : (Cond.constant RX11 261 (-1000002)).before args s = true := hts _ (List.mem_of_getElem? (i := 1) rfl)
  have w2 : (Cond.constantLong RX11 84 (5)).before args s = true := hts _ (List.mem_of_getElem? (i := 2) rfl)
  have w3 : (Cond.constant RX11 235 (-1000001)).before args s = true := hts _ (List.mem_of_getElem? (i := 4) rfl)
  have w4 : (Cond.fieldLink RX11 7 "GreatChunksModel" "now" "[J").before args s = true := hts _ (List.mem_of_getElem? (i := 3) rfl)
  have w5 : ∀ w ∈ wsX110, w ∈ wsX11_target := in_pl 44 rfl
  generalize hQe : MQ below (vp_Si (fun r => r = x)) args s 0 0 (fun _ => False) = Q
  refine st_W ha (Nat.le_of_ble_eq_true rfl) (fun ls hl => ?_)
  have hl : lv_has ls 2 [(0, .ref (a0 0)), (1, .int p1)] := hl
  unfold f_X11_target at hf
  refine lv_aload_n hx hb dX11_target_0 rfl (lv_at hl 0 rfl) ?_
  obtain ⟨r1, e1, hf⟩ := bd_some hf
  refine cr_i (va_runV (As := []) (rest := []) ⟨hx, hb, hml, hown, hts⟩ (c_X11_isHouse l E a0 v0 r1 e1) (cwV 0 hts gX11_target_X11_isHouse rfl rfl rfl hdV_X11_isHouse ⟨Nat.le_of_ble_eq_true rfl, Nat.le_of_ble_eq_true rfl⟩) ⟨PR.blind, va_recv hC.1 hP (ci := 9) (q0 := 0) rfl rfl, PR.pre hC hS hP⟩ rfl rfl hl.1 rfl (lv_room (Nat.le_of_ble_eq_true rfl)) dX11_target_1 ⟨Nat.le_of_ble_eq_true rfl, Nat.le_of_ble_eq_true rfl⟩) ?_
  refine lv_if_ne (tgt := 11) hx hb dX11_target_4 rfl (fun c2 => ?_) (fun c2 => ?_)
  · have hf := it_f hf c2
    refine lv_iload_n hx hb dX11_target_11 rfl (lv_at hl 1 rfl) ?_
    refine lv_i2l hx hb dX11_target_12 rfl ?_
    refine lv_lconst (v := 1) hx hb dX11_target_13 rfl ?_
    refine lv_ldc2 hx hb hown w2 dX11_target_14 ?_
    refine cr_i (va_runS (As := [.long p1.toInt64, .long (1 : Int64), .long ((5) : Int64)]) (rest := []) ⟨hx, hb, hml, hown, hts⟩ (c_X11_in l E p1.toInt64 (1 : Int64) ((5) : Int64) _ rfl) (va_cwS 3 hts gX11_target_X11_in rfl rfl rfl hdS_X11_in ⟨Nat.le_of_ble_eq_true rfl, Nat.le_of_ble_eq_true rfl⟩) ⟨PR.blind, PR.pre hC hS (hP.sub [] rfl)⟩ rfl rfl hl.1 rfl (lv_room (Nat.le_of_ble_eq_true rfl)) dX11_target_17 ⟨Nat.le_of_ble_eq_true rfl, Nat.le_of_ble_eq_true rfl⟩) ?_
    refine lv_if_eq (tgt := 42) hx hb dX11_target_20 rfl (fun c3 => ?_) (fun c3 => ?_)
    · have hf := it_t hf c3
      refine lv_ldc hx hb hown w3 dX11_target_42 ?_
      cases Option.some.inj hf
      subst hQe
      exact en_i hx hb hr hlocks dX11_target_44
    · have hf := it_f hf c3
      refine lv_aload_n hx hb dX11_target_23 rfl (lv_at hl 0 rfl) ?_
      refine va_get (D := E.1) (ci := 9) (v := .ref (a0 1)) (C := RX11) (T := TX11) (N := 17) hx hb hts w5 hown hC.1 hP 0 rfl rfl 0 (by decide) w4 (fun _ h9 => h9) rfl dX11_target_24 ?_
      refine lv_aload_n hx hb dX11_target_27 rfl (lv_at hl 0 rfl) ?_
      refine va_get (D := E.1) (ci := 9) (v := .ref (a0 1)) (C := RX11) (T := TX11) (N := 17) hx hb hts w5 hown hC.1 hP 0 rfl rfl 0 (by decide) w4 (fun _ h9 => h9) rfl dX11_target_28 ?_
      refine lv_iload_n hx hb dX11_target_31 rfl (lv_at hl 1 rfl) ?_
      refine lv_i2l hx hb dX11_target_32 rfl ?_
      obtain ⟨r4, e4, hf⟩ := bd_some hf
      refine cr_i (va_runS (As := [.ref (a0 1), .long p1.toInt64]) (rest := [.ref (a0 1)]) ⟨hx, hb, hml, hown, hts⟩ (c_X11_wanted l E (a0 1) v0.1 p1.toInt64 r4 e4) (va_cwS 2 hts gX11_target_X11_wanted rfl rfl rfl hdS_X11_wanted ⟨Nat.le_of_ble_eq_true rfl, Nat.le_of_ble_eq_true rfl⟩) ⟨PR.blind, PR.pre hC hS (hP.sub [1] rfl)⟩ rfl rfl hl.1 rfl (lv_room (Nat.le_of_ble_eq_true rfl)) dX11_target_33 ⟨Nat.le_of_ble_eq_true rfl, Nat.le_of_ble_eq_true rfl⟩) ?_
      obtain ⟨r5, e5, hf⟩ := bd_some hf
      refine cr_i (va_runS (As := [.ref (a0 1), .int r4]) (rest := []) ⟨hx, hb, hml, hown, hts⟩ (c_X11_targets l E (a0 1) v0.1 r4 r5 e5) (va_cwS 2 hts gX11_target_X11_targets rfl rfl rfl hdS_X11_targets ⟨Nat.le_of_ble_eq_true rfl, Nat.le_of_ble_eq_true rfl⟩) ⟨PR.blind, PR.pre hC hS (hP.sub [1] rfl)⟩ rfl rfl hl.1 rfl (lv_room (Nat.le_of_ble_eq_true rfl)) dX11_target_36 ⟨Nat.le_of_ble_eq_true rfl, Nat.le_of_ble_eq_true rfl⟩) ?_
      refine lv_goto (tgt := 44) hx hb dX11_target_39 rfl ?_
      cases Option.some.inj hf
      subst hQe
      exact en_i hx hb hr hlocks dX11_target_44
  · have hf := it_t hf c2
    refine lv_ldcw hx hb hown w1 dX11_target_7 ?_
    cases Option.some.inj hf
    subst hQe
    exact en_i hx hb hr hlocks dX11_target_10

/-! X11_left -/
abbrev rmX11_left : Room := { frames := 4, cells := 0, slots := 0, locals := 90 }
theorem hdS_X11_left : yX11_left.cls ≠ "java/lang/invoke/MethodHandle" ∧ yX11_left.cls ≠ "java/lang/invoke/VarHandle" ∧ (parseMethodDescriptor yX11_left.desc).map (fun d => d.parameters.length) = some 1 := by decide +kernel
theorem hdV_X11_left : yX11_left.cls = RX11 ∧ yX11_left.cls ≠ "java/lang/invoke/MethodHandle" ∧ yX11_left.cls ≠ "java/lang/invoke/VarHandle" ∧ (parseMethodDescriptor yX11_left.desc).map (fun d => d.parameters.length) = some 1 := ⟨rfl, hdS_X11_left⟩
set_option maxHeartbeats 4000000 in
set_option maxRecDepth 100000 in
theorem c_X11_left (l : Launch) (E : G0) (a0 : Nat → Nat) (v0 : MD) (p1 : Int32) (x : Int32) (hf : f_X11_left v0 p1 = some x) : Met l yX11_left wsX11_left rmX11_left (va_Pc [.ref (a0 0), .int p1] (PR E (wMD E a0 v0))) (vp_Si (fun r => r = x)) 0 0 (fun _ => False) := by
  refine Met.ofW (cc := cX11_left) (maxL := 2) (ret := some .int) (by decide) rfl ?_
  intro p e s m args below meth c s₁ B hml hv
  obtain ⟨ha, hP, hC⟩ := hv
  have hx := B.exec
  have hb := B.bytes
  have hr := B.returns
  have hts := atoms_spec (ws := wsX11_left) B.pre
  have hown : s.vm.findClass RX11 = some m.cls := findClass_of_methodNamed B.named
  have hlocks := B.notSynchronized
  have hS : va_S (fun _ => False) s.heap s.heap [] := va_S.rf
  have w1 : (Cond.constant RX11 261 (-1000002)).before args s = true := hts _ (List.mem_of_getElem? (i := 1) rfl)
  have w2 : (Cond.constant RX11 235 (-1000001)).before args s = true := hts _ (List.mem_of_getElem? (i := 2) rfl)
  have w3 : (Cond.fieldLink RX11 7 "GreatChunksModel" "now" "[J").before args s = true := hts _ (List.mem_of_getElem? (i := 3) rfl)
  have w4 : ∀ w ∈ wsX110, w ∈ wsX11_left := in_pl 56 rfl
  have w5 : (Cond.constant RX11 186 (-1000000)).before args s = true := hts _ (List.mem_of_getElem? (i := 4) rfl)
  generalize hQe : MQ below (vp_Si (fun r => r = x)) args s 0 0 (fun _ => False) = Q
  refine st_W ha (Nat.le_of_ble_eq_true rfl) (fun ls hl => ?_)
  have hl : lv_has ls 2 [(0, .ref (a0 0)), (1, .int p1)] := hl
  unfold f_X11_left at hf
  refine lv_aload_n hx hb dX11_left_0 rfl (lv_at hl 0 rfl) ?_
  obtain ⟨r1, e1, hf⟩ := bd_some hf
  refine cr_i (va_runV (As := []) (rest := []) ⟨hx, hb, hml, hown, hts⟩ (c_X11_isHouse l E a0 v0 r1 e1) (cwV 0 hts gX11_left_X11_isHouse rfl rfl rfl hdV_X11_isHouse ⟨Nat.le_of_ble_eq_true rfl, Nat.le_of_ble_eq_true rfl⟩) ⟨PR.blind, va_recv hC.1 hP (ci := 9) (q0 := 0) rfl rfl, PR.pre hC hS hP⟩ rfl rfl hl.1 rfl (lv_room (Nat.le_of_ble_eq_true rfl)) dX11_left_1 ⟨Nat.le_of_ble_eq_true rfl, Nat.le_of_ble_eq_true rfl⟩) ?_
  refine lv_if_ne (tgt := 11) hx hb dX11_left_4 rfl (fun c2 => ?_) (fun c2 => ?_)
  · have hf := it_f hf c2
    refine lv_iload_n hx hb dX11_left_11 rfl (lv_at hl 1 rfl) ?_
    refine cr_i (va_runS (As := [.int p1]) (rest := []) ⟨hx, hb, hml, hown, hts⟩ (c_X11_isFile l E p1 _ rfl) (va_cwS 1 hts gX11_left_X11_isFile rfl rfl rfl hdS_X11_isFile ⟨Nat.le_of_ble_eq_true rfl, Nat.le_of_ble_eq_true rfl⟩) ⟨PR.blind, PR.pre hC hS (hP.sub [] rfl)⟩ rfl rfl hl.1 rfl (lv_room (Nat.le_of_ble_eq_true rfl)) dX11_left_12 ⟨Nat.le_of_ble_eq_true rfl, Nat.le_of_ble_eq_true rfl⟩) ?_
    refine lv_if_ne (tgt := 21) hx hb dX11_left_15 rfl (fun c3 => ?_) (fun c3 => ?_)
    · have hf := it_f hf c3
      refine lv_aload_n hx hb dX11_left_21 rfl (lv_at hl 0 rfl) ?_
      refine lv_iload_n hx hb dX11_left_22 rfl (lv_at hl 1 rfl) ?_
      obtain ⟨r4, e4, hf⟩ := bd_some hf
      refine cr_i (va_runV (As := [.int p1]) (rest := []) ⟨hx, hb, hml, hown, hts⟩ (c_X11_isThere l E a0 v0 p1 r4 e4) (cwV 1 hts gX11_left_X11_isThere rfl rfl rfl hdV_X11_isThere ⟨Nat.le_of_ble_eq_true rfl, Nat.le_of_ble_eq_true rfl⟩) ⟨PR.blind, va_recv hC.1 hP (ci := 9) (q0 := 0) rfl rfl, PR.pre hC hS hP⟩ rfl rfl hl.1 rfl (lv_room (Nat.le_of_ble_eq_true rfl)) dX11_left_23 ⟨Nat.le_of_ble_eq_true rfl, Nat.le_of_ble_eq_true rfl⟩) ?_
      refine lv_if_ne (tgt := 33) hx hb dX11_left_26 rfl (fun c5 => ?_) (fun c5 => ?_)
      · have hf := it_f hf c5
        refine lv_aload_n hx hb dX11_left_33 rfl (lv_at hl 0 rfl) ?_
        refine va_get (D := E.1) (ci := 9) (v := .ref (a0 1)) (C := RX11) (T := TX11) (N := 17) hx hb hts w4 hown hC.1 hP 0 rfl rfl 0 (by decide) w3 (fun _ h9 => h9) rfl dX11_left_34 ?_
        refine lv_iload_n hx hb dX11_left_37 rfl (lv_at hl 1 rfl) ?_
        obtain ⟨r6, e6, hf⟩ := bd_some hf
        refine cr_i (va_runS (As := [.ref (a0 1), .int p1]) (rest := []) ⟨hx, hb, hml, hown, hts⟩ (c_X11_many l E (a0 1) v0.1 p1 r6 e6) (va_cwS 2 hts gX11_left_X11_many rfl rfl rfl hdS_X11_many ⟨Nat.le_of_ble_eq_true rfl, Nat.le_of_ble_eq_true rfl⟩) ⟨PR.blind, PR.pre hC hS (hP.sub [1] rfl)⟩ rfl rfl hl.1 rfl (lv_room (Nat.le_of_ble_eq_true rfl)) dX11_left_38 ⟨Nat.le_of_ble_eq_true rfl, Nat.le_of_ble_eq_true rfl⟩) ?_
        refine lv_if_eq (tgt := 62) hx hb dX11_left_41 rfl (fun c7 => ?_) (fun c7 => ?_)
        · have hf := it_t hf c7
          refine lv_ldc hx hb hown w5 dX11_left_62 ?_
          cases Option.some.inj hf
          subst hQe
          exact en_i hx hb hr hlocks dX11_left_64
        · have hf := it_f hf c7
          refine lv_aload_n hx hb dX11_left_44 rfl (lv_at hl 0 rfl) ?_
          refine va_get (D := E.1) (ci := 9) (v := .ref (a0 1)) (C := RX11) (T := TX11) (N := 17) hx hb hts w4 hown hC.1 hP 0 rfl rfl 0 (by decide) w3 (fun _ h9 => h9) rfl dX11_left_45 ?_
          refine lv_aload_n hx hb dX11_left_48 rfl (lv_at hl 0 rfl) ?_
          refine va_get (D := E.1) (ci := 9) (v := .ref (a0 1)) (C := RX11) (T := TX11) (N := 17) hx hb hts w4 hown hC.1 hP 0 rfl rfl 0 (by decide) w3 (fun _ h9 => h9) rfl dX11_left_49 ?_
          refine lv_iload_n hx hb dX11_left_52 rfl (lv_at hl 1 rfl) ?_
          obtain ⟨r8, e8, hf⟩ := bd_some hf
          refine cr_i (va_runS (As := [.ref (a0 1), .int p1]) (rest := [.ref (a0 1)]) ⟨hx, hb, hml, hown, hts⟩ (c_X11_lastOf l E (a0 1) v0.1 p1 r8 e8) (va_cwS 2 hts gX11_left_X11_lastOf rfl rfl rfl hdS_X11_lastOf ⟨Nat.le_of_ble_eq_true rfl, Nat.le_of_ble_eq_true rfl⟩) ⟨PR.blind, PR.pre hC hS (hP.sub [1] rfl)⟩ rfl rfl hl.1 rfl (lv_room (Nat.le_of_ble_eq_true rfl)) dX11_left_53 ⟨Nat.le_of_ble_eq_true rfl, Nat.le_of_ble_eq_true rfl⟩) ?_
          obtain ⟨r9, e9, hf⟩ := bd_some hf
          refine cr_i (va_runS (As := [.ref (a0 1), .int r8]) (rest := []) ⟨hx, hb, hml, hown, hts⟩ (c_X11_ables l E (a0 1) v0.1 r8 r9 e9) (va_cwS 2 hts gX11_left_X11_ables rfl rfl rfl hdS_X11_ables ⟨Nat.le_of_ble_eq_true rfl, Nat.le_of_ble_eq_true rfl⟩) ⟨PR.blind, PR.pre hC hS (hP.sub [1] rfl)⟩ rfl rfl hl.1 rfl (lv_room (Nat.le_of_ble_eq_true rfl)) dX11_left_56 ⟨Nat.le_of_ble_eq_true rfl, Nat.le_of_ble_eq_true rfl⟩) ?_
          refine lv_if_ne (tgt := 65) hx hb dX11_left_59 rfl (fun c10 => ?_) (fun c10 => ?_)
          · have hf := it_f hf c10
            refine lv_aload_n hx hb dX11_left_65 rfl (lv_at hl 0 rfl) ?_
            refine va_get (D := E.1) (ci := 9) (v := .ref (a0 1)) (C := RX11) (T := TX11) (N := 17) hx hb hts w4 hown hC.1 hP 0 rfl rfl 0 (by decide) w3 (fun _ h9 => h9) rfl dX11_left_66 ?_
            refine lv_iconst (v := 2) hx hb dX11_left_69 rfl ?_
            obtain ⟨h11, hf⟩ := gdI_some hf
            refine va_lald hx hb hC.1 hP 1 1 rfl rfl h11 dX11_left_70 ?_
            refine lv_l2i hx hb dX11_left_71 rfl ?_
            refine lv_aload_n hx hb dX11_left_72 rfl (lv_at hl 0 rfl) ?_
            refine va_get (D := E.1) (ci := 9) (v := .ref (a0 1)) (C := RX11) (T := TX11) (N := 17) hx hb hts w4 hown hC.1 hP 0 rfl rfl 0 (by decide) w3 (fun _ h9 => h9) rfl dX11_left_73 ?_
            refine lv_aload_n hx hb dX11_left_76 rfl (lv_at hl 0 rfl) ?_
            refine va_get (D := E.1) (ci := 9) (v := .ref (a0 1)) (C := RX11) (T := TX11) (N := 17) hx hb hts w4 hown hC.1 hP 0 rfl rfl 0 (by decide) w3 (fun _ h9 => h9) rfl dX11_left_77 ?_
            refine lv_iload_n hx hb dX11_left_80 rfl (lv_at hl 1 rfl) ?_
            obtain ⟨r12, e12, hf⟩ := bd_some hf
            refine cr_i (va_runS (As := [.ref (a0 1), .int p1]) (rest := [.ref (a0 1), .int ((v0.1 (2 : Int32).toNatClampNeg).toInt32)]) ⟨hx, hb, hml, hown, hts⟩ (c_X11_lastOf l E (a0 1) v0.1 p1 r12 e12) (va_cwS 2 hts gX11_left_X11_lastOf rfl rfl rfl hdS_X11_lastOf ⟨Nat.le_of_ble_eq_true rfl, Nat.le_of_ble_eq_true rfl⟩) ⟨PR.blind, PR.pre hC hS (hP.sub [1] rfl)⟩ rfl rfl hl.1 rfl (lv_room (Nat.le_of_ble_eq_true rfl)) dX11_left_81 ⟨Nat.le_of_ble_eq_true rfl, Nat.le_of_ble_eq_true rfl⟩) ?_
            obtain ⟨r13, e13, hf⟩ := bd_some hf
            refine cr_i (va_runS (As := [.ref (a0 1), .int r12]) (rest := [.int ((v0.1 (2 : Int32).toNatClampNeg).toInt32)]) ⟨hx, hb, hml, hown, hts⟩ (c_X11_greatestFilled l E (a0 1) v0.1 r12 r13 e13) (va_cwS 2 hts gX11_left_X11_greatestFilled rfl rfl rfl hdS_X11_greatestFilled ⟨Nat.le_of_ble_eq_true rfl, Nat.le_of_ble_eq_true rfl⟩) ⟨PR.blind, PR.pre hC hS (hP.sub [1] rfl)⟩ rfl rfl hl.1 rfl (lv_room (Nat.le_of_ble_eq_true rfl)) dX11_left_84 ⟨Nat.le_of_ble_eq_true rfl, Nat.le_of_ble_eq_true rfl⟩) ?_
            refine lv_isub hx hb dX11_left_87 ?_
            cases Option.some.inj hf
            subst hQe
            exact en_i hx hb hr hlocks dX11_left_88
          · have hf := it_t hf c10
            refine lv_ldc hx hb hown w5 dX11_left_62 ?_
            cases Option.some.inj hf
            subst hQe
            exact en_i hx hb hr hlocks dX11_left_64
      · have hf := it_t hf c5
        refine lv_ldcw hx hb hown w1 dX11_left_29 ?_
        cases Option.some.inj hf
        subst hQe
        exact en_i hx hb hr hlocks dX11_left_32
    · have hf := it_t hf c3
      refine lv_ldc hx hb hown w2 dX11_left_18 ?_
      cases Option.some.inj hf
      subst hQe
      exact en_i hx hb hr hlocks dX11_left_20
  · have hf := it_t hf c2
    refine lv_ldcw hx hb hown w1 dX11_left_7 ?_
    cases Option.some.inj hf
    subst hQe
    exact en_i hx hb hr hlocks dX11_left_10

/-! X11_strength -/
abbrev rmX11_strength : Room := { frames := 4, cells := 0, slots := 0, locals := 89 }
theorem hdS_X11_strength : yX11_strength.cls ≠ "java/lang/invoke/MethodHandle" ∧ yX11_strength.cls ≠ "java/lang/invoke/VarHandle" ∧ (parseMethodDescriptor yX11_strength.desc).map (fun d => d.parameters.length) = some 1 := by decide +kernel
theorem hdV_X11_strength : yX11_strength.cls = RX11 ∧ yX11_strength.cls ≠ "java/lang/invoke/MethodHandle" ∧ yX11_strength.cls ≠ "java/lang/invoke/VarHandle" ∧ (parseMethodDescriptor yX11_strength.desc).map (fun d => d.parameters.length) = some 1 := ⟨rfl, hdS_X11_strength⟩
set_option maxHeartbeats 4000000 in
set_option maxRecDepth 100000 in
theorem c_X11_strength (l : Launch) (E : G0) (a0 : Nat → Nat) (v0 : MD) (p1 : Int32) (x : Int32) (hf : f_X11_strength v0 p1 = some x) : Met l yX11_strength wsX11_strength rmX11_strength (va_Pc [.ref (a0 0), .int p1] (PR E (wMD E a0 v0))) (vp_Si (fun r => r = x)) 0 0 (fun _ => False) := by
  refine Met.ofW (cc := cX11_strength) (maxL := 5) (ret := some .int) (by decide) rfl ?_
  intro p e s m args below meth c s₁ B hml hv
  obtain ⟨ha, hP, hC⟩ := hv
  have hx := B.exec
  have hb := B.bytes
  have hr := B.returns
  have hts := atoms_spec (ws := wsX11_strength) B.pre
  have hown : s.vm.findClass RX11 = some m.cls := findClass_of_methodNamed B.named
  have hlocks := B.notSynchronized
  have hS : va_S (fun _ => False) s.heap s.heap [] := va_S.rf
  have w1 : (Cond.constant RX11 261 (-1000002)).before args s = true := hts _ (List.mem_of_getElem? (i := 1) rfl)
  have w2 : (Cond.constant RX11 235 (-1000001)).before args s = true := hts _ (List.mem_of_getElem? (i := 2) rfl)
  have w3 : (Cond.fieldLink RX11 7 "GreatChunksModel" "now" "[J").before args s = true := hts _ (List.mem_of_getElem? (i := 3) rfl)
  have w4 : ∀ w ∈ wsX110, w ∈ wsX11_strength := in_pl 52 rfl
  have w5 : (Cond.constant RX11 186 (-1000000)).before args s = true := hts _ (List.mem_of_getElem? (i := 4) rfl)
  generalize hQe : MQ below (vp_Si (fun r => r = x)) args s 0 0 (fun _ => False) = Q
  refine st_W ha (Nat.le_of_ble_eq_true rfl) (fun ls hl => ?_)
  have hl : lv_has ls 5 [(0, .ref (a0 0)), (1, .int p1)] := hl
  unfold f_X11_strength at hf
  refine lv_aload_n hx hb dX11_strength_0 rfl (lv_at hl 0 rfl) ?_
  obtain ⟨r1, e1, hf⟩ := bd_some hf
  refine cr_i (va_runV (As := []) (rest := []) ⟨hx, hb, hml, hown, hts⟩ (c_X11_isHouse l E a0 v0 r1 e1) (cwV 0 hts gX11_strength_X11_isHouse rfl rfl rfl hdV_X11_isHouse ⟨Nat.le_of_ble_eq_true rfl, Nat.le_of_ble_eq_true rfl⟩) ⟨PR.blind, va_recv hC.1 hP (ci := 9) (q0 := 0) rfl rfl, PR.pre hC hS hP⟩ rfl rfl hl.1 rfl (lv_room (Nat.le_of_ble_eq_true rfl)) dX11_strength_1 ⟨Nat.le_of_ble_eq_true rfl, Nat.le_of_ble_eq_true rfl⟩) ?_
  refine lv_if_ne (tgt := 11) hx hb dX11_strength_4 rfl (fun c2 => ?_) (fun c2 => ?_)
  · have hf := it_f hf c2
    refine lv_iload_n hx hb dX11_strength_11 rfl (lv_at hl 1 rfl) ?_
    refine cr_i (va_runS (As := [.int p1]) (rest := []) ⟨hx, hb, hml, hown, hts⟩ (c_X11_isFile l E p1 _ rfl) (va_cwS 1 hts gX11_strength_X11_isFile rfl rfl rfl hdS_X11_isFile ⟨Nat.le_of_ble_eq_true rfl, Nat.le_of_ble_eq_true rfl⟩) ⟨PR.blind, PR.pre hC hS (hP.sub [] rfl)⟩ rfl rfl hl.1 rfl (lv_room (Nat.le_of_ble_eq_true rfl)) dX11_strength_12 ⟨Nat.le_of_ble_eq_true rfl, Nat.le_of_ble_eq_true rfl⟩) ?_
    refine lv_if_ne (tgt := 21) hx hb dX11_strength_15 rfl (fun c3 => ?_) (fun c3 => ?_)
    · have hf := it_f hf c3
      refine lv_aload_n hx hb dX11_strength_21 rfl (lv_at hl 0 rfl) ?_
      refine lv_iload_n hx hb dX11_strength_22 rfl (lv_at hl 1 rfl) ?_
      obtain ⟨r4, e4, hf⟩ := bd_some hf
      refine cr_i (va_runV (As := [.int p1]) (rest := []) ⟨hx, hb, hml, hown, hts⟩ (c_X11_isThere l E a0 v0 p1 r4 e4) (cwV 1 hts gX11_strength_X11_isThere rfl rfl rfl hdV_X11_isThere ⟨Nat.le_of_ble_eq_true rfl, Nat.le_of_ble_eq_true rfl⟩) ⟨PR.blind, va_recv hC.1 hP (ci := 9) (q0 := 0) rfl rfl, PR.pre hC hS hP⟩ rfl rfl hl.1 rfl (lv_room (Nat.le_of_ble_eq_true rfl)) dX11_strength_23 ⟨Nat.le_of_ble_eq_true rfl, Nat.le_of_ble_eq_true rfl⟩) ?_
      refine lv_if_ne (tgt := 33) hx hb dX11_strength_26 rfl (fun c5 => ?_) (fun c5 => ?_)
      · have hf := it_f hf c5
        refine lv_aload_n hx hb dX11_strength_33 rfl (lv_at hl 0 rfl) ?_
        refine va_get (D := E.1) (ci := 9) (v := .ref (a0 1)) (C := RX11) (T := TX11) (N := 17) hx hb hts w4 hown hC.1 hP 0 rfl rfl 0 (by decide) w3 (fun _ h9 => h9) rfl dX11_strength_34 ?_
        refine lv_iload_n hx hb dX11_strength_37 rfl (lv_at hl 1 rfl) ?_
        obtain ⟨r6, e6, hf⟩ := bd_some hf
        refine cr_i (va_runS (As := [.ref (a0 1), .int p1]) (rest := []) ⟨hx, hb, hml, hown, hts⟩ (c_X11_many l E (a0 1) v0.1 p1 r6 e6) (va_cwS 2 hts gX11_strength_X11_many rfl rfl rfl hdS_X11_many ⟨Nat.le_of_ble_eq_true rfl, Nat.le_of_ble_eq_true rfl⟩) ⟨PR.blind, PR.pre hC hS (hP.sub [1] rfl)⟩ rfl rfl hl.1 rfl (lv_room (Nat.le_of_ble_eq_true rfl)) dX11_strength_38 ⟨Nat.le_of_ble_eq_true rfl, Nat.le_of_ble_eq_true rfl⟩) ?_
        obtain ⟨q7, e7, hf⟩ := bt_eq hf
        have J7 : W p l e (headSpec wsX11_strength rmX11_strength).room s m args below meth c s.heap [] 0 0 Q (F0 m 50 ls [.int q7]) := by
          refine lv_istore_n (lv' := [(2, .int q7), (0, .ref (a0 0)), (1, .int p1)]) hx hb dX11_strength_50 rfl hl (by decide) rfl (fun ls hl => ?_)
          refine lv_iconst (v := 0) hx hb dX11_strength_51 rfl ?_
          refine lv_istore_n (lv' := [(3, .int (0 : Int32)), (2, .int q7), (0, .ref (a0 0)), (1, .int p1)]) hx hb dX11_strength_52 rfl hl (by decide) rfl (fun ls hl => ?_)
          obtain ⟨K8, hK8, hf⟩ := jn_some hf
          have J8 : ∀ (q8 : Int32 × Int32) (ls : Array Slot) (hl : lv_has ls 5 [(2, .int q8.1)]) (hf : K8 q8 = some x), W p l e (headSpec wsX11_strength rmX11_strength).room s m args below meth c s.heap [] 0 0 Q (F0 m 105 ls []) := by
            intro q8 ls hl hf
            have hf := (hK8 q8).trans hf
            refine lv_iload_n hx hb dX11_strength_105 rfl (lv_at hl 0 rfl) ?_
            refine lv_if_ne (tgt := 114) hx hb dX11_strength_106 rfl (fun c9 => ?_) (fun c9 => ?_)
            · have hf := it_f hf c9
              refine lv_iload_n hx hb dX11_strength_114 rfl (lv_at hl 0 rfl) ?_
              refine lv_iconst (v := 1) hx hb dX11_strength_115 rfl ?_
              refine lv_isub hx hb dX11_strength_116 ?_
              cases Option.some.inj hf
              subst hQe
              exact en_i hx hb hr hlocks dX11_strength_117
            · have hf := it_t hf c9
              refine lv_ldc hx hb hown w5 dX11_strength_109 ?_
              refine lv_goto (tgt := 117) hx hb dX11_strength_111 rfl ?_
              cases Option.some.inj hf
              subst hQe
              exact en_i hx hb hr hlocks dX11_strength_117
          have L8 : ∀ (n : Nat) (q8 : Int32 × Int32) (ls : Array Slot) (hl : lv_has ls 5 [(0, .ref (a0 0)), (1, .int p1), (2, .int q8.1), (3, .int q8.2)]) (hf : lpF (bX11_strength_8 v0 p1 K8) n q8 = some x), W p l e (headSpec wsX11_strength rmX11_strength).room s m args below meth c s.heap [] 0 0 Q (F0 m 53 ls []) := by
            intro n
            induction n with
            | zero => intro q8 ls hl hf; exact (lpF_zero hf).elim
            | succ n ih8 =>
              intro q8 ls hl hf
              have hf := lpF_succ hf
              unfold bX11_strength_8 at hf
              refine lv_iload_n hx hb dX11_strength_53 rfl (lv_at hl 3 rfl) ?_
              refine lv_aload_n hx hb dX11_strength_54 rfl (lv_at hl 0 rfl) ?_
              refine va_get (D := E.1) (ci := 9) (v := .ref (a0 1)) (C := RX11) (T := TX11) (N := 17) hx hb hts w4 hown hC.1 hP 0 rfl rfl 0 (by decide) w3 (fun _ h9 => h9) rfl dX11_strength_55 ?_
              refine lv_iload_n hx hb dX11_strength_58 rfl (lv_at hl 1 rfl) ?_
              obtain ⟨r10, e10, hf⟩ := bd_some hf
              refine cr_i (va_runS (As := [.ref (a0 1), .int p1]) (rest := [.int q8.2]) ⟨hx, hb, hml, hown, hts⟩ (c_X11_many l E (a0 1) v0.1 p1 r10 e10) (va_cwS 2 hts gX11_strength_X11_many rfl rfl rfl hdS_X11_many ⟨Nat.le_of_ble_eq_true rfl, Nat.le_of_ble_eq_true rfl⟩) ⟨PR.blind, PR.pre hC hS (hP.sub [1] rfl)⟩ rfl rfl hl.1 rfl (lv_room (Nat.le_of_ble_eq_true rfl)) dX11_strength_59 ⟨Nat.le_of_ble_eq_true rfl, Nat.le_of_ble_eq_true rfl⟩) ?_
              refine lv_icmp_ge (tgt := 105) hx hb dX11_strength_62 rfl (fun c11 => ?_) (fun c11 => ?_)
              · have hf := it_t hf c11
                exact J8 (q8.1, q8.2) ls (lv_sub hl [2] rfl) hf
              · have hf := it_f hf c11
                refine lv_aload_n hx hb dX11_strength_65 rfl (lv_at hl 0 rfl) ?_
                refine va_get (D := E.1) (ci := 9) (v := .ref (a0 1)) (C := RX11) (T := TX11) (N := 17) hx hb hts w4 hown hC.1 hP 0 rfl rfl 0 (by decide) w3 (fun _ h9 => h9) rfl dX11_strength_66 ?_
                refine lv_aload_n hx hb dX11_strength_69 rfl (lv_at hl 0 rfl) ?_
                refine va_get (D := E.1) (ci := 9) (v := .ref (a0 1)) (C := RX11) (T := TX11) (N := 17) hx hb hts w4 hown hC.1 hP 0 rfl rfl 0 (by decide) w3 (fun _ h9 => h9) rfl dX11_strength_70 ?_
                refine lv_iload_n hx hb dX11_strength_73 rfl (lv_at hl 1 rfl) ?_
                refine lv_iload_n hx hb dX11_strength_74 rfl (lv_at hl 3 rfl) ?_
                obtain ⟨r12, e12, hf⟩ := bd_some hf
                refine cr_i (va_runS (As := [.ref (a0 1), .int p1, .int q8.2]) (rest := [.ref (a0 1)]) ⟨hx, hb, hml, hown, hts⟩ (c_X11_chunkOf l E (a0 1) v0.1 p1 q8.2 r12 e12) (va_cwS 3 hts gX11_strength_X11_chunkOf rfl rfl rfl hdS_X11_chunkOf ⟨Nat.le_of_ble_eq_true rfl, Nat.le_of_ble_eq_true rfl⟩) ⟨PR.blind, PR.pre hC hS (hP.sub [1] rfl)⟩ rfl rfl hl.1 rfl (lv_room (Nat.le_of_ble_eq_true rfl)) dX11_strength_75 ⟨Nat.le_of_ble_eq_true rfl, Nat.le_of_ble_eq_true rfl⟩) ?_
                obtain ⟨r13, e13, hf⟩ := bd_some hf
                refine cr_i (va_runS (As := [.ref (a0 1), .int r12]) (rest := []) ⟨hx, hb, hml, hown, hts⟩ (c_X11_ables l E (a0 1) v0.1 r12 r13 e13) (va_cwS 2 hts gX11_strength_X11_ables rfl rfl rfl hdS_X11_ables ⟨Nat.le_of_ble_eq_true rfl, Nat.le_of_ble_eq_true rfl⟩) ⟨PR.blind, PR.pre hC hS (hP.sub [1] rfl)⟩ rfl rfl hl.1 rfl (lv_room (Nat.le_of_ble_eq_true rfl)) dX11_strength_78 ⟨Nat.le_of_ble_eq_true rfl, Nat.le_of_ble_eq_true rfl⟩) ?_
                obtain ⟨r14, e14, hf⟩ := bd_some hf
                refine cr_i (va_runS (As := [.int r13]) (rest := []) ⟨hx, hb, hml, hown, hts⟩ (c_X11_ones l E r13 r14 e14) (va_cwS 1 hts gX11_strength_X11_ones rfl rfl rfl hdS_X11_ones ⟨Nat.le_of_ble_eq_true rfl, Nat.le_of_ble_eq_true rfl⟩) ⟨PR.blind, PR.pre hC hS (hP.sub [] rfl)⟩ rfl rfl hl.1 rfl (lv_room (Nat.le_of_ble_eq_true rfl)) dX11_strength_81 ⟨Nat.le_of_ble_eq_true rfl, Nat.le_of_ble_eq_true rfl⟩) ?_
                refine lv_istore (lv' := [(4, .int r14), (0, .ref (a0 0)), (1, .int p1), (2, .int q8.1), (3, .int q8.2)]) hx hb dX11_strength_84 hl (by decide) rfl (fun ls hl => ?_)
                refine lv_iload hx hb dX11_strength_86 (lv_at hl 0 rfl) ?_
                refine lv_iload_n hx hb dX11_strength_88 rfl (lv_at hl 3 rfl) ?_
                refine lv_icmp_ge (tgt := 97) hx hb dX11_strength_89 rfl (fun c15 => ?_) (fun c15 => ?_)
                · have hf := it_t hf c15
                  refine lv_iload_n hx hb dX11_strength_97 rfl (lv_at hl 3 rfl) ?_
                  refine lv_istore_n (lv' := [(2, .int q8.1), (4, .int r14), (0, .ref (a0 0)), (1, .int p1), (3, .int q8.2)]) hx hb dX11_strength_98 rfl hl (by decide) rfl (fun ls hl => ?_)
                  refine lv_iinc (v := (q8.2 + 1)) (lv' := [(3, .int (q8.2 + 1)), (2, .int q8.1), (4, .int r14), (0, .ref (a0 0)), (1, .int p1)]) hx hb dX11_strength_99 hl (k := 4) rfl rfl (by decide) rfl (fun ls hl => ?_)
                  refine lv_goto (tgt := 53) hx hb dX11_strength_102 rfl ?_
                  exact ih8 (q8.1, (q8.2 + 1)) ls (lv_sub hl [3, 4, 1, 0] rfl) hf
                · have hf := it_f hf c15
                  refine lv_iload hx hb dX11_strength_92 (lv_at hl 0 rfl) ?_
                  refine lv_goto (tgt := 98) hx hb dX11_strength_94 rfl ?_
                  refine lv_istore_n (lv' := [(2, .int r14), (4, .int r14), (0, .ref (a0 0)), (1, .int p1), (3, .int q8.2)]) hx hb dX11_strength_98 rfl hl (by decide) rfl (fun ls hl => ?_)
                  refine lv_iinc (v := (q8.2 + 1)) (lv' := [(3, .int (q8.2 + 1)), (2, .int r14), (4, .int r14), (0, .ref (a0 0)), (1, .int p1)]) hx hb dX11_strength_99 hl (k := 4) rfl rfl (by decide) rfl (fun ls hl => ?_)
                  refine lv_goto (tgt := 53) hx hb dX11_strength_102 rfl ?_
                  exact ih8 (r14, (q8.2 + 1)) ls (lv_sub hl [3, 4, 1, 0] rfl) hf
          exact L8 FU (q7, (0 : Int32)) ls (lv_sub hl [2, 3, 1, 0] rfl) hf
        have hf := e7
        refine lv_if_ne (tgt := 48) hx hb dX11_strength_41 rfl (fun c16 => ?_) (fun c16 => ?_)
        · have hf := it_f hf c16
          refine lv_bipush (v := 9) hx hb dX11_strength_48 rfl ?_
          cases hf
          exact J7
        · have hf := it_t hf c16
          refine lv_iconst (v := 0) hx hb dX11_strength_44 rfl ?_
          refine lv_goto (tgt := 50) hx hb dX11_strength_45 rfl ?_
          cases hf
          exact J7
      · have hf := it_t hf c5
        refine lv_ldcw hx hb hown w1 dX11_strength_29 ?_
        cases Option.some.inj hf
        subst hQe
        exact en_i hx hb hr hlocks dX11_strength_32
    · have hf := it_t hf c3
      refine lv_ldc hx hb hown w2 dX11_strength_18 ?_
      cases Option.some.inj hf
      subst hQe
      exact en_i hx hb hr hlocks dX11_strength_20
  · have hf := it_t hf c2
    refine lv_ldcw hx hb hown w1 dX11_strength_7 ?_
    cases Option.some.inj hf
    subst hQe
    exact en_i hx hb hr hlocks dX11_strength_10

/-! X11_mends -/
abbrev rmX11_mends : Room := { frames := 5, cells := 0, slots := 0, locals := 111 }
theorem hdS_X11_mends : yX11_mends.cls ≠ "java/lang/invoke/MethodHandle" ∧ yX11_mends.cls ≠ "java/lang/invoke/VarHandle" ∧ (parseMethodDescriptor yX11_mends.desc).map (fun d => d.parameters.length) = some 0 := by decide +kernel
theorem hdV_X11_mends : yX11_mends.cls = RX11 ∧ yX11_mends.cls ≠ "java/lang/invoke/MethodHandle" ∧ yX11_mends.cls ≠ "java/lang/invoke/VarHandle" ∧ (parseMethodDescriptor yX11_mends.desc).map (fun d => d.parameters.length) = some 0 := ⟨rfl, hdS_X11_mends⟩
set_option maxHeartbeats 4000000 in
set_option maxRecDepth 100000 in
theorem c_X11_mends (l : Launch) (E : G0) (sz : Nat) (a0 : Nat → Nat) (v0 : MD) (x : Int32 × MD) (hf : f_X11_mends v0 = some x) : Met l yX11_mends wsX11_mends rmX11_mends (va_Pc [.ref (a0 0)] (PW E (wMD E a0 v0) sz)) (va_Qi (fun r q => r = x.1 ∧ q = x.2) (fun q t => va_P E.1 vwCl ((fun q : MD => wMD E a0 q) q) t.heap ∧ va_D (va_A (wMD E a0 v0) sz) ((fun q : MD => wMD E a0 q) q)) (va_A (wMD E a0 v0) sz)) 0 0 (va_A (wMD E a0 v0) sz) := by
  refine Met.ofW (cc := cX11_mends) (maxL := 3) (ret := some .int) (by decide) rfl ?_
  intro p e s m args below meth c s₁ B hml hv
  obtain ⟨ha, hsz, hP, hD0, hC⟩ := hv
  have hx := B.exec
  have hb := B.bytes
  have hr := B.returns
  have hts := atoms_spec (ws := wsX11_mends) B.pre
  have hown : s.vm.findClass RX11 = some m.cls := findClass_of_methodNamed B.named
  have hlocks := B.notSynchronized
  subst hsz
  have hD := hD0.self (sz := s.heap.size)
  generalize hAe : va_A (wMD E a0 v0) s.heap.size = A at hD hC ⊢
  have hA : ∀ q : Nat, s.heap.size ≤ q → A q := fun q h => by rw [← hAe]; exact Or.inr h
  have hS : va_S A s.heap s.heap [] := va_S.rf
  have w1 : (Cond.fieldLink RX11 13 "GreatChunksModel" "tried" "[J").before args s = true := hts _ (List.mem_of_getElem? (i := 2) rfl)
  have w2 : ∀ w ∈ wsX110, w ∈ wsX11_mends := in_pl 77 rfl
  have w3 : (Cond.constant RX11 186 (-1000000)).before args s = true := hts _ (List.mem_of_getElem? (i := 3) rfl)
  have w4 : (Cond.constant RX11 261 (-1000002)).before args s = true := hts _ (List.mem_of_getElem? (i := 1) rfl)
  generalize hQe : MQ below (va_Qi (fun r q => r = x.1 ∧ q = x.2) (fun q t => va_P E.1 vwCl ((fun q : MD => wMD E a0 q) q) t.heap ∧ va_D A ((fun q : MD => wMD E a0 q) q)) A) args s 0 0 A = Q
  refine st_W ha (Nat.le_of_ble_eq_true rfl) (fun ls hl => ?_)
  have hl : lv_has ls 3 [(0, .ref (a0 0))] := hl
  unfold f_X11_mends at hf
  refine lv_aload_n hx hb dX11_mends_0 rfl (lv_at hl 0 rfl) ?_
  obtain ⟨r1, e1, hf⟩ := bd_some hf
  refine cr_i (va_runV (As := []) (rest := []) ⟨hx, hb, hml, hown, hts⟩ (c_X11_isHouse l E a0 v0 r1 e1) (cwV 0 hts gX11_mends_X11_isHouse rfl rfl rfl hdV_X11_isHouse ⟨Nat.le_of_ble_eq_true rfl, Nat.le_of_ble_eq_true rfl⟩) ⟨PR.blind, va_recv hC.1 hP (ci := 9) (q0 := 0) rfl rfl, PR.pre hC hS hP⟩ rfl rfl hl.1 rfl (lv_room (Nat.le_of_ble_eq_true rfl)) dX11_mends_1 ⟨Nat.le_of_ble_eq_true rfl, Nat.le_of_ble_eq_true rfl⟩) ?_
  refine lv_if_ne (tgt := 11) hx hb dX11_mends_4 rfl (fun c2 => ?_) (fun c2 => ?_)
  · have hf := it_f hf c2
    refine lv_aload_n hx hb dX11_mends_11 rfl (lv_at hl 0 rfl) ?_
    obtain ⟨r3, e3, hf⟩ := bd_some hf
    refine cq_v hP hD hS [0, 1, 2, 3, 4, 5, 6, 7] [] [0, 1, 2, 3, 4, 5, 6, 7] (va_free (wc := (wMD E a0 v0)) hD hS hA [0, 1, 2, 3, 4, 5, 6, 7] rfl) (va_runV (As := []) (rest := []) ⟨hx, hb, hml, hown, hts⟩ (c_X11_tries l E s.heap.size a0 v0 r3 e3) (cwV 0 hts gX11_mends_X11_tries rfl rfl rfl hdV_X11_tries ⟨Nat.le_of_ble_eq_true rfl, Nat.le_of_ble_eq_true rfl⟩) ⟨PW.blind, va_recv hC.1 hP (ci := 9) (q0 := 0) rfl rfl, PW.pre hC hS hP hD (va_free hD hS hA [0, 1, 2, 3, 4, 5, 6, 7] rfl)⟩ rfl rfl hl.1 rfl (lv_room (Nat.le_of_ble_eq_true rfl)) dX11_mends_12 ⟨Nat.le_of_ble_eq_true rfl, Nat.le_of_ble_eq_true rfl⟩) rfl rfl rfl rfl (wMD E a0 r3) rfl rfl (fun H locs hP hD hS => ?_)
    refine lv_iconst (v := 0) hx hb dX11_mends_15 rfl ?_
    refine lv_istore_n (lv' := [(1, .int (0 : Int32)), (0, .ref (a0 0))]) hx hb dX11_mends_16 rfl hl (by decide) rfl (fun ls hl => ?_)
    refine lv_aload_n hx hb dX11_mends_17 rfl (lv_at hl 1 rfl) ?_
    refine va_get (D := E.1) (ci := 9) (v := .ref (a0 2)) (C := RX11) (T := TX11) (N := 17) hx hb hts w2 hown hC.1 hP 0 rfl rfl 1 (by decide) w1 (fun _ h9 => h9) rfl dX11_mends_18 ?_
    obtain ⟨r4, e4, hf⟩ := bd_some hf
    refine cr_i (va_runS (As := [.ref (a0 2)]) (rest := []) ⟨hx, hb, hml, hown, hts⟩ (c_X11_poor l E (a0 2) r3.2.1 r4 e4) (va_cwS 1 hts gX11_mends_X11_poor rfl rfl rfl hdS_X11_poor ⟨Nat.le_of_ble_eq_true rfl, Nat.le_of_ble_eq_true rfl⟩) ⟨PR.blind, PR.pre hC hS (hP.sub [2] rfl)⟩ rfl rfl hl.1 rfl (lv_room (Nat.le_of_ble_eq_true rfl)) dX11_mends_21 ⟨Nat.le_of_ble_eq_true rfl, Nat.le_of_ble_eq_true rfl⟩) ?_
    refine lv_istore_n (lv' := [(2, .int r4), (1, .int (0 : Int32)), (0, .ref (a0 0))]) hx hb dX11_mends_24 rfl hl (by decide) rfl (fun ls hl => ?_)
    obtain ⟨K5, hK5, hf⟩ := jn_some hf
    have J5 : ∀ (q5 : Int32 × Int32 × MD) (H : Heap) (locs : List Loc) (hP : va_P E.1 vwCl (wMD E a0 q5.2.2) H) (hD : va_D A (wMD E a0 q5.2.2)) (hS : va_S A s.heap H locs) (ls : Array Slot) (hl : lv_has ls 3 [(1, .int q5.1)]) (hf : K5 q5 = some x), W p l e (headSpec wsX11_mends rmX11_mends).room s m args below meth c H locs 0 0 Q (F0 m 53 ls []) := by
      intro q5 H locs hP hD hS ls hl hf
      have hf := (hK5 q5).trans hf
      refine lv_iload_n hx hb dX11_mends_53 rfl (lv_at hl 0 rfl) ?_
      cases Option.some.inj hf
      subst hQe
      exact ew_i (wf := (fun q : MD => wMD E a0 q)) hx hb hr hlocks hP hD hS dX11_mends_54
    have L5 : ∀ (n : Nat) (q5 : Int32 × Int32 × MD) (H : Heap) (locs : List Loc) (hP : va_P E.1 vwCl (wMD E a0 q5.2.2) H) (hD : va_D A (wMD E a0 q5.2.2)) (hS : va_S A s.heap H locs) (ls : Array Slot) (hl : lv_has ls 3 [(0, .ref (a0 0)), (1, .int q5.1), (2, .int q5.2.1)]) (hf : lpF (bX11_mends_5 K5) n q5 = some x), W p l e (headSpec wsX11_mends rmX11_mends).room s m args below meth c H locs 0 0 Q (F0 m 25 ls []) := by
      intro n
      induction n with
      | zero => intro q5 H locs hP hD hS ls hl hf; exact (lpF_zero hf).elim
      | succ n ih5 =>
        intro q5 H locs hP hD hS ls hl hf
        have hf := lpF_succ hf
        unfold bX11_mends_5 at hf
        refine lv_iload_n hx hb dX11_mends_25 rfl (lv_at hl 2 rfl) ?_
        refine lv_ldc hx hb hown w3 dX11_mends_26 ?_
        refine lv_icmp_eq (tgt := 53) hx hb dX11_mends_28 rfl (fun c6 => ?_) (fun c6 => ?_)
        · have hf := it_t hf c6
          exact J5 (q5.1, q5.2.1, q5.2.2) H locs hP hD hS ls (lv_sub hl [1] rfl) hf
        · have hf := it_f hf c6
          refine lv_aload_n hx hb dX11_mends_31 rfl (lv_at hl 0 rfl) ?_
          refine va_get (D := E.1) (ci := 9) (v := .ref (a0 2)) (C := RX11) (T := TX11) (N := 17) hx hb hts w2 hown hC.1 hP 0 rfl rfl 1 (by decide) w1 (fun _ h9 => h9) rfl dX11_mends_32 ?_
          refine lv_iload_n hx hb dX11_mends_35 rfl (lv_at hl 2 rfl) ?_
          obtain ⟨r7, e7, hf⟩ := bd_some hf
          refine cq_v hP hD hS [2] [0, 1, 3, 4, 5, 6, 7] [0, 1, 7, 2, 3, 4, 5, 6] (va_free (wc := (wLA E (a0 2) 340 q5.2.2.2.1)) hD hS hA [2] rfl) (va_runS (As := [.ref (a0 2), .int q5.2.1]) (rest := []) ⟨hx, hb, hml, hown, hts⟩ (c_X11_gives l E H.size (a0 2) q5.2.2.2.1 q5.2.1 r7 e7) (va_cwS 2 hts gX11_mends_X11_gives rfl rfl rfl hdS_X11_gives ⟨Nat.le_of_ble_eq_true rfl, Nat.le_of_ble_eq_true rfl⟩) ⟨PW.blind, PW.pre hC hS (hP.sub [2] rfl) (hD.sub [2] rfl rfl) (va_free hD hS hA [2] rfl)⟩ rfl rfl hl.1 rfl (lv_room (Nat.le_of_ble_eq_true rfl)) dX11_mends_36 ⟨Nat.le_of_ble_eq_true rfl, Nat.le_of_ble_eq_true rfl⟩) rfl rfl rfl rfl (wMD E a0 (q5.2.2.1, r7, q5.2.2.2.2.1, q5.2.2.2.2.2.1, q5.2.2.2.2.2.2.1, q5.2.2.2.2.2.2.2.1, q5.2.2.2.2.2.2.2.2.1, q5.2.2.2.2.2.2.2.2.2.1, q5.2.2.2.2.2.2.2.2.2.2.1, q5.2.2.2.2.2.2.2.2.2.2.2.1, q5.2.2.2.2.2.2.2.2.2.2.2.2.1, q5.2.2.2.2.2.2.2.2.2.2.2.2.2.1, q5.2.2.2.2.2.2.2.2.2.2.2.2.2.2.1, q5.2.2.2.2.2.2.2.2.2.2.2.2.2.2.2.1, q5.2.2.2.2.2.2.2.2.2.2.2.2.2.2.2.2.1, q5.2.2.2.2.2.2.2.2.2.2.2.2.2.2.2.2.2.1, q5.2.2.2.2.2.2.2.2.2.2.2.2.2.2.2.2.2.2)) rfl rfl (fun H locs hP hD hS => ?_)
          refine lv_iinc (v := (q5.1 + 1)) (lv' := [(1, .int (q5.1 + 1)), (0, .ref (a0 0)), (2, .int q5.2.1)]) hx hb dX11_mends_39 hl (k := 1) rfl rfl (by decide) rfl (fun ls hl => ?_)
          refine lv_aload_n hx hb dX11_mends_42 rfl (lv_at hl 1 rfl) ?_
          refine va_get (D := E.1) (ci := 9) (v := .ref (a0 2)) (C := RX11) (T := TX11) (N := 17) hx hb hts w2 hown hC.1 hP 0 rfl rfl 1 (by decide) w1 (fun _ h9 => h9) rfl dX11_mends_43 ?_
          obtain ⟨r8, e8, hf⟩ := bd_some hf
          refine cr_i (va_runS (As := [.ref (a0 2)]) (rest := []) ⟨hx, hb, hml, hown, hts⟩ (c_X11_poor l E (a0 2) r7 r8 e8) (va_cwS 1 hts gX11_mends_X11_poor rfl rfl rfl hdS_X11_poor ⟨Nat.le_of_ble_eq_true rfl, Nat.le_of_ble_eq_true rfl⟩) ⟨PR.blind, PR.pre hC hS (hP.sub [2] rfl)⟩ rfl rfl hl.1 rfl (lv_room (Nat.le_of_ble_eq_true rfl)) dX11_mends_46 ⟨Nat.le_of_ble_eq_true rfl, Nat.le_of_ble_eq_true rfl⟩) ?_
          refine lv_istore_n (lv' := [(2, .int r8), (1, .int (q5.1 + 1)), (0, .ref (a0 0))]) hx hb dX11_mends_49 rfl hl (by decide) rfl (fun ls hl => ?_)
          refine lv_goto (tgt := 25) hx hb dX11_mends_50 rfl ?_
          exact ih5 ((q5.1 + 1), r8, (q5.2.2.1, r7, q5.2.2.2.2.1, q5.2.2.2.2.2.1, q5.2.2.2.2.2.2.1, q5.2.2.2.2.2.2.2.1, q5.2.2.2.2.2.2.2.2.1, q5.2.2.2.2.2.2.2.2.2.1, q5.2.2.2.2.2.2.2.2.2.2.1, q5.2.2.2.2.2.2.2.2.2.2.2.1, q5.2.2.2.2.2.2.2.2.2.2.2.2.1, q5.2.2.2.2.2.2.2.2.2.2.2.2.2.1, q5.2.2.2.2.2.2.2.2.2.2.2.2.2.2.1, q5.2.2.2.2.2.2.2.2.2.2.2.2.2.2.2.1, q5.2.2.2.2.2.2.2.2.2.2.2.2.2.2.2.2.1, q5.2.2.2.2.2.2.2.2.2.2.2.2.2.2.2.2.2.1, q5.2.2.2.2.2.2.2.2.2.2.2.2.2.2.2.2.2.2)) H locs hP hD hS ls (lv_sub hl [2, 1, 0] rfl) hf
    exact L5 FU ((0 : Int32), r4, r3) H locs hP hD hS ls (lv_sub hl [2, 1, 0] rfl) hf
  · have hf := it_t hf c2
    refine lv_ldcw hx hb hown w4 dX11_mends_7 ?_
    cases Option.some.inj hf
    subst hQe
    exact ew_i (wf := (fun q : MD => wMD E a0 q)) hx hb hr hlocks hP hD hS dX11_mends_10

/-! X11_gcd -/
abbrev rmX11_gcd : Room := { frames := 0, cells := 0, slots := 0, locals := 0 }
theorem hdS_X11_gcd : yX11_gcd.cls ≠ "java/lang/invoke/MethodHandle" ∧ yX11_gcd.cls ≠ "java/lang/invoke/VarHandle" ∧ (parseMethodDescriptor yX11_gcd.desc).map (fun d => d.parameters.length) = some 2 := by decide +kernel
set_option maxHeartbeats 4000000 in
set_option maxRecDepth 100000 in
theorem c_X11_gcd (l : Launch) (E : G0) (p0 : Int64) (p1 : Int64) (x : Int64) (hf : f_X11_gcd p0 p1 = some x) : Met l yX11_gcd wsX11_gcd rmX11_gcd (va_Pc [.long p0, .long p1] (PR E ([] : va_W))) (vp_Sl (fun r => r = x)) 0 0 (fun _ => False) := by
  refine Met.ofW (cc := cX11_gcd) (maxL := 10) (ret := some .long) (by decide) rfl ?_
  intro p e s m args below meth c s₁ B hml hv
  obtain ⟨ha, hP, hC⟩ := hv
  have hx := B.exec
  have hb := B.bytes
  have hr := B.returns
  have hts := atoms_spec (ws := wsX11_gcd) B.pre
  have hown : s.vm.findClass RX11 = some m.cls := findClass_of_methodNamed B.named
  have hlocks := B.notSynchronized
  have hS : va_S (fun _ => False) s.heap s.heap [] := va_S.rf
  generalize hQe : MQ below (vp_Sl (fun r => r = x)) args s 0 0 (fun _ => False) = Q
  refine st_W ha (Nat.le_of_ble_eq_true rfl) (fun ls hl => ?_)
  have hl : lv_has ls 10 [(0, .long p0), (2, .long p1)] := hl
  unfold f_X11_gcd at hf
  refine lv_lload_n hx hb dX11_gcd_0 rfl (lv_at hl 0 rfl) ?_
  refine lv_lstore (lv' := [(4, .long p0), (0, .long p0), (2, .long p1)]) hx hb dX11_gcd_1 hl (by decide) rfl (fun ls hl => ?_)
  refine lv_lload_n hx hb dX11_gcd_3 rfl (lv_at hl 2 rfl) ?_
  refine lv_lstore (lv' := [(6, .long p1), (4, .long p0), (0, .long p0), (2, .long p1)]) hx hb dX11_gcd_4 hl (by decide) rfl (fun ls hl => ?_)
  obtain ⟨K1, hK1, hf⟩ := jn_some hf
  have J1 : ∀ (q1 : Int64 × Int64) (ls : Array Slot) (hl : lv_has ls 10 [(4, .long q1.1)]) (hf : K1 q1 = some x), W p l e (headSpec wsX11_gcd rmX11_gcd).room s m args below meth c s.heap [] 0 0 Q (F0 m 31 ls []) := by
    intro q1 ls hl hf
    have hf := (hK1 q1).trans hf
    refine lv_lload hx hb dX11_gcd_31 (lv_at hl 0 rfl) ?_
    cases Option.some.inj hf
    subst hQe
    exact en_l hx hb hr hlocks dX11_gcd_33
  have L1 : ∀ (n : Nat) (q1 : Int64 × Int64) (ls : Array Slot) (hl : lv_has ls 10 [(4, .long q1.1), (6, .long q1.2)]) (hf : lpF (bX11_gcd_1 K1) n q1 = some x), W p l e (headSpec wsX11_gcd rmX11_gcd).room s m args below meth c s.heap [] 0 0 Q (F0 m 6 ls []) := by
    intro n
    induction n with
    | zero => intro q1 ls hl hf; exact (lpF_zero hf).elim
    | succ n ih1 =>
      intro q1 ls hl hf
      have hf := lpF_succ hf
      unfold bX11_gcd_1 at hf
      refine lv_lload hx hb dX11_gcd_6 (lv_at hl 1 rfl) ?_
      refine lv_lconst (v := 0) hx hb dX11_gcd_8 rfl ?_
      refine W.lcmp hx hb dX11_gcd_9 ?_
      refine lv_if_eq (tgt := 31) hx hb dX11_gcd_10 rfl (fun c2 => ?_) (fun c2 => ?_)
      · have hf := it_t hf c2
        exact J1 (q1.1, q1.2) ls (lv_sub hl [0] rfl) hf
      · have hf := it_f hf c2
        refine lv_lload hx hb dX11_gcd_13 (lv_at hl 0 rfl) ?_
        refine lv_lload hx hb dX11_gcd_15 (lv_at hl 1 rfl) ?_
        obtain ⟨h3, hf⟩ := gdL_some hf
        refine lv_lrem hx hb dX11_gcd_17 h3 ?_
        refine lv_lstore (lv' := [(8, .long (q1.1 - q1.1 / q1.2 * q1.2)), (4, .long q1.1), (6, .long q1.2)]) hx hb dX11_gcd_18 hl (by decide) rfl (fun ls hl => ?_)
        refine lv_lload hx hb dX11_gcd_20 (lv_at hl 2 rfl) ?_
        refine lv_lstore (lv' := [(4, .long q1.2), (8, .long (q1.1 - q1.1 / q1.2 * q1.2)), (6, .long q1.2)]) hx hb dX11_gcd_22 hl (by decide) rfl (fun ls hl => ?_)
        refine lv_lload hx hb dX11_gcd_24 (lv_at hl 1 rfl) ?_
        refine lv_lstore (lv' := [(6, .long (q1.1 - q1.1 / q1.2 * q1.2)), (4, .long q1.2), (8, .long (q1.1 - q1.1 / q1.2 * q1.2))]) hx hb dX11_gcd_26 hl (by decide) rfl (fun ls hl => ?_)
        refine lv_goto (tgt := 6) hx hb dX11_gcd_28 rfl ?_
        exact ih1 (q1.2, (q1.1 - q1.1 / q1.2 * q1.2)) ls (lv_sub hl [1, 0] rfl) hf
  exact L1 FU (p0, p1) ls (lv_sub hl [1, 0] rfl) hf

/-! X11_isReadable -/
abbrev rmX11_isReadable : Room := { frames := 4, cells := 0, slots := 0, locals := 89 }
theorem hdS_X11_isReadable : yX11_isReadable.cls ≠ "java/lang/invoke/MethodHandle" ∧ yX11_isReadable.cls ≠ "java/lang/invoke/VarHandle" ∧ (parseMethodDescriptor yX11_isReadable.desc).map (fun d => d.parameters.length) = some 2 := by decide +kernel
theorem hdV_X11_isReadable : yX11_isReadable.cls = RX11 ∧ yX11_isReadable.cls ≠ "java/lang/invoke/MethodHandle" ∧ yX11_isReadable.cls ≠ "java/lang/invoke/VarHandle" ∧ (parseMethodDescriptor yX11_isReadable.desc).map (fun d => d.parameters.length) = some 2 := ⟨rfl, hdS_X11_isReadable⟩
set_option maxHeartbeats 4000000 in
set_option maxRecDepth 100000 in
theorem c_X11_isReadable (l : Launch) (E : G0) (a0 : Nat → Nat) (v0 : MD) (p1 : Int32) (p2 : Int32) (x : Bool) (hf : f_X11_isReadable v0 p1 p2 = some x) : Met l yX11_isReadable wsX11_isReadable rmX11_isReadable (va_Pc [.ref (a0 0), .int p1, .int p2] (PR E (wMD E a0 v0))) (vp_Si (fun r => r = bI x)) 0 0 (fun _ => False) := by
  refine Met.ofW (cc := cX11_isReadable) (maxL := 5) (ret := some .boolean) (by decide) rfl ?_
  intro p e s m args below meth c s₁ B hml hv
  obtain ⟨ha, hP, hC⟩ := hv
  have hx := B.exec
  have hb := B.bytes
  have hr := B.returns
  have hts := atoms_spec (ws := wsX11_isReadable) B.pre
  have hown : s.vm.findClass RX11 = some m.cls := findClass_of_methodNamed B.named
  have hlocks := B.notSynchronized
  have hS : va_S (fun _ => False) s.heap s.heap [] := va_S.rf
  have w1 : (Cond.fieldLink RX11 7 "GreatChunksModel" "now" "[J").before args s = true := hts _ (List.mem_of_getElem? (i := 1) rfl)
  have w2 : ∀ w ∈ wsX110, w ∈ wsX11_isReadable := in_pl 28 rfl
  generalize hQe : MQ below (vp_Si (fun r => r = bI x)) args s 0 0 (fun _ => False) = Q
  refine st_W ha (Nat.le_of_ble_eq_true rfl) (fun ls hl => ?_)
  have hl : lv_has ls 5 [(0, .ref (a0 0)), (1, .int p1), (2, .int p2)] := hl
  unfold f_X11_isReadable at hf
  refine lv_iconst (v := 1) hx hb dX11_isReadable_0 rfl ?_
  refine lv_istore_n (lv' := [(3, .int (1 : Int32)), (0, .ref (a0 0)), (1, .int p1), (2, .int p2)]) hx hb dX11_isReadable_1 rfl hl (by decide) rfl (fun ls hl => ?_)
  refine lv_iconst (v := 0) hx hb dX11_isReadable_2 rfl ?_
  refine lv_istore (lv' := [(4, .int (0 : Int32)), (3, .int (1 : Int32)), (0, .ref (a0 0)), (1, .int p1), (2, .int p2)]) hx hb dX11_isReadable_3 hl (by decide) rfl (fun ls hl => ?_)
  obtain ⟨K1, hK1, hf⟩ := jn_some hf
  have J1 : ∀ (q1 : Bool × Int32) (ls : Array Slot) (hl : lv_has ls 5 [(3, .int (bI q1.1))]) (hf : K1 q1 = some x), W p l e (headSpec wsX11_isReadable rmX11_isReadable).room s m args below meth c s.heap [] 0 0 Q (F0 m 58 ls []) := by
    intro q1 ls hl hf
    have hf := (hK1 q1).trans hf
    refine lv_iload_n hx hb dX11_isReadable_58 rfl (lv_at hl 0 rfl) ?_
    cases Option.some.inj hf
    subst hQe
    exact en_z hx hb hr hlocks rfl dX11_isReadable_59
  have L1 : ∀ (n : Nat) (q1 : Bool × Int32) (ls : Array Slot) (hl : lv_has ls 5 [(0, .ref (a0 0)), (1, .int p1), (2, .int p2), (3, .int (bI q1.1)), (4, .int q1.2)]) (hf : lpF (bX11_isReadable_1 v0 p1 p2 K1) n q1 = some x), W p l e (headSpec wsX11_isReadable rmX11_isReadable).room s m args below meth c s.heap [] 0 0 Q (F0 m 5 ls []) := by
    intro n
    induction n with
    | zero => intro q1 ls hl hf; exact (lpF_zero hf).elim
    | succ n ih1 =>
      intro q1 ls hl hf
      have hf := lpF_succ hf
      unfold bX11_isReadable_1 at hf
      refine lv_iload hx hb dX11_isReadable_5 (lv_at hl 4 rfl) ?_
      refine lv_aload_n hx hb dX11_isReadable_7 rfl (lv_at hl 0 rfl) ?_
      refine va_get (D := E.1) (ci := 9) (v := .ref (a0 1)) (C := RX11) (T := TX11) (N := 17) hx hb hts w2 hown hC.1 hP 0 rfl rfl 0 (by decide) w1 (fun _ h9 => h9) rfl dX11_isReadable_8 ?_
      refine lv_iload_n hx hb dX11_isReadable_11 rfl (lv_at hl 1 rfl) ?_
      obtain ⟨r2, e2, hf⟩ := bd_some hf
      refine cr_i (va_runS (As := [.ref (a0 1), .int p1]) (rest := [.int q1.2]) ⟨hx, hb, hml, hown, hts⟩ (c_X11_many l E (a0 1) v0.1 p1 r2 e2) (va_cwS 2 hts gX11_isReadable_X11_many rfl rfl rfl hdS_X11_many ⟨Nat.le_of_ble_eq_true rfl, Nat.le_of_ble_eq_true rfl⟩) ⟨PR.blind, PR.pre hC hS (hP.sub [1] rfl)⟩ rfl rfl hl.1 rfl (lv_room (Nat.le_of_ble_eq_true rfl)) dX11_isReadable_12 ⟨Nat.le_of_ble_eq_true rfl, Nat.le_of_ble_eq_true rfl⟩) ?_
      refine lv_icmp_ge (tgt := 58) hx hb dX11_isReadable_15 rfl (fun c3 => ?_) (fun c3 => ?_)
      · have hf := it_t hf c3
        exact J1 (q1.1, q1.2) ls (lv_sub hl [3] rfl) hf
      · have hf := it_f hf c3
        refine lv_iload_n hx hb dX11_isReadable_18 rfl (lv_at hl 3 rfl) ?_
        refine lv_if_eq (tgt := 50) hx hb dX11_isReadable_19 rfl (fun c4 => ?_) (fun c4 => ?_)
        · have hf := it_t hf c4
          refine lv_iconst (v := 0) hx hb dX11_isReadable_50 rfl ?_
          refine lv_istore_n (lv' := [(3, .int (0 : Int32)), (0, .ref (a0 0)), (1, .int p1), (2, .int p2), (4, .int q1.2)]) hx hb dX11_isReadable_51 rfl hl (by decide) rfl (fun ls hl => ?_)
          refine lv_iinc (v := (q1.2 + 1)) (lv' := [(4, .int (q1.2 + 1)), (3, .int (0 : Int32)), (0, .ref (a0 0)), (1, .int p1), (2, .int p2)]) hx hb dX11_isReadable_52 hl (k := 4) rfl rfl (by decide) rfl (fun ls hl => ?_)
          refine lv_goto (tgt := 5) hx hb dX11_isReadable_55 rfl ?_
          exact ih1 (false, (q1.2 + 1)) ls (lv_sub hl [2, 3, 4, 1, 0] rfl) hf
        · have hf := it_f hf c4
          refine lv_aload_n hx hb dX11_isReadable_22 rfl (lv_at hl 0 rfl) ?_
          refine va_get (D := E.1) (ci := 9) (v := .ref (a0 1)) (C := RX11) (T := TX11) (N := 17) hx hb hts w2 hown hC.1 hP 0 rfl rfl 0 (by decide) w1 (fun _ h9 => h9) rfl dX11_isReadable_23 ?_
          refine lv_aload_n hx hb dX11_isReadable_26 rfl (lv_at hl 0 rfl) ?_
          refine va_get (D := E.1) (ci := 9) (v := .ref (a0 1)) (C := RX11) (T := TX11) (N := 17) hx hb hts w2 hown hC.1 hP 0 rfl rfl 0 (by decide) w1 (fun _ h9 => h9) rfl dX11_isReadable_27 ?_
          refine lv_iload_n hx hb dX11_isReadable_30 rfl (lv_at hl 1 rfl) ?_
          refine lv_iload hx hb dX11_isReadable_31 (lv_at hl 4 rfl) ?_
          obtain ⟨r5, e5, hf⟩ := bd_some hf
          refine cr_i (va_runS (As := [.ref (a0 1), .int p1, .int q1.2]) (rest := [.ref (a0 1)]) ⟨hx, hb, hml, hown, hts⟩ (c_X11_chunkOf l E (a0 1) v0.1 p1 q1.2 r5 e5) (va_cwS 3 hts gX11_isReadable_X11_chunkOf rfl rfl rfl hdS_X11_chunkOf ⟨Nat.le_of_ble_eq_true rfl, Nat.le_of_ble_eq_true rfl⟩) ⟨PR.blind, PR.pre hC hS (hP.sub [1] rfl)⟩ rfl rfl hl.1 rfl (lv_room (Nat.le_of_ble_eq_true rfl)) dX11_isReadable_33 ⟨Nat.le_of_ble_eq_true rfl, Nat.le_of_ble_eq_true rfl⟩) ?_
          obtain ⟨r6, e6, hf⟩ := bd_some hf
          refine cr_i (va_runS (As := [.ref (a0 1), .int r5]) (rest := []) ⟨hx, hb, hml, hown, hts⟩ (c_X11_ables l E (a0 1) v0.1 r5 r6 e6) (va_cwS 2 hts gX11_isReadable_X11_ables rfl rfl rfl hdS_X11_ables ⟨Nat.le_of_ble_eq_true rfl, Nat.le_of_ble_eq_true rfl⟩) ⟨PR.blind, PR.pre hC hS (hP.sub [1] rfl)⟩ rfl rfl hl.1 rfl (lv_room (Nat.le_of_ble_eq_true rfl)) dX11_isReadable_36 ⟨Nat.le_of_ble_eq_true rfl, Nat.le_of_ble_eq_true rfl⟩) ?_
          refine lv_iload_n hx hb dX11_isReadable_39 rfl (lv_at hl 2 rfl) ?_
          refine lv_iconst (v := (-1)) hx hb dX11_isReadable_40 rfl ?_
          refine lv_ixor hx hb dX11_isReadable_41 ?_
          refine lv_iand hx hb dX11_isReadable_42 ?_
          refine lv_if_eq (tgt := 50) hx hb dX11_isReadable_43 rfl (fun c7 => ?_) (fun c7 => ?_)
          · have hf := it_t hf c7
            refine lv_iconst (v := 0) hx hb dX11_isReadable_50 rfl ?_
            refine lv_istore_n (lv' := [(3, .int (0 : Int32)), (0, .ref (a0 0)), (1, .int p1), (2, .int p2), (4, .int q1.2)]) hx hb dX11_isReadable_51 rfl hl (by decide) rfl (fun ls hl => ?_)
            refine lv_iinc (v := (q1.2 + 1)) (lv' := [(4, .int (q1.2 + 1)), (3, .int (0 : Int32)), (0, .ref (a0 0)), (1, .int p1), (2, .int p2)]) hx hb dX11_isReadable_52 hl (k := 4) rfl rfl (by decide) rfl (fun ls hl => ?_)
            refine lv_goto (tgt := 5) hx hb dX11_isReadable_55 rfl ?_
            exact ih1 (false, (q1.2 + 1)) ls (lv_sub hl [2, 3, 4, 1, 0] rfl) hf
          · have hf := it_f hf c7
            refine lv_iconst (v := 1) hx hb dX11_isReadable_46 rfl ?_
            refine lv_goto (tgt := 51) hx hb dX11_isReadable_47 rfl ?_
            refine lv_istore_n (lv' := [(3, .int (1 : Int32)), (0, .ref (a0 0)), (1, .int p1), (2, .int p2), (4, .int q1.2)]) hx hb dX11_isReadable_51 rfl hl (by decide) rfl (fun ls hl => ?_)
            refine lv_iinc (v := (q1.2 + 1)) (lv' := [(4, .int (q1.2 + 1)), (3, .int (1 : Int32)), (0, .ref (a0 0)), (1, .int p1), (2, .int p2)]) hx hb dX11_isReadable_52 hl (k := 4) rfl rfl (by decide) rfl (fun ls hl => ?_)
            refine lv_goto (tgt := 5) hx hb dX11_isReadable_55 rfl ?_
            exact ih1 (true, (q1.2 + 1)) ls (lv_sub hl [2, 3, 4, 1, 0] rfl) hf
  exact L1 FU (true, (0 : Int32)) ls (lv_sub hl [2, 3, 4, 1, 0] rfl) hf

/-! X11_odds -/
abbrev rmX11_odds : Room := { frames := 5, cells := 0, slots := 0, locals := 113 }
theorem hdS_X11_odds : yX11_odds.cls ≠ "java/lang/invoke/MethodHandle" ∧ yX11_odds.cls ≠ "java/lang/invoke/VarHandle" ∧ (parseMethodDescriptor yX11_odds.desc).map (fun d => d.parameters.length) = some 3 := by decide +kernel
theorem hdV_X11_odds : yX11_odds.cls = RX11 ∧ yX11_odds.cls ≠ "java/lang/invoke/MethodHandle" ∧ yX11_odds.cls ≠ "java/lang/invoke/VarHandle" ∧ (parseMethodDescriptor yX11_odds.desc).map (fun d => d.parameters.length) = some 3 := ⟨rfl, hdS_X11_odds⟩
set_option maxHeartbeats 4000000 in
set_option maxRecDepth 100000 in
theorem c_X11_odds (l : Launch) (E : G0) (a0 : Nat → Nat) (v0 : MD) (p1 : Int32) (p2 : Int32) (p3 : Int32) (x : Int64) (hf : f_X11_odds v0 p1 p2 p3 = some x) : Met l yX11_odds wsX11_odds rmX11_odds (va_Pc [.ref (a0 0), .int p1, .int p2, .int p3] (PR E (wMD E a0 v0))) (vp_Sl (fun r => r = x)) 0 0 (fun _ => False) := by
  refine Met.ofW (cc := cX11_odds) (maxL := 12) (ret := some .long) (by decide) rfl ?_
  intro p e s m args below meth c s₁ B hml hv
  obtain ⟨ha, hP, hC⟩ := hv
  have hx := B.exec
  have hb := B.bytes
  have hr := B.returns
  have hts := atoms_spec (ws := wsX11_odds) B.pre
  have hown : s.vm.findClass RX11 = some m.cls := findClass_of_methodNamed B.named
  have hlocks := B.notSynchronized
  have hS : va_S (fun _ => False) s.heap s.heap [] := va_S.rf
  have w1 : (Cond.constantLong RX11 364 (-1000002)).before args s = true := hts _ (List.mem_of_getElem? (i := 1) rfl)
  have w2 : (Cond.constantLong RX11 366 (-1000001)).before args s = true := hts _ (List.mem_of_getElem? (i := 3) rfl)
  have w3 : (Cond.constantLong RX11 332 (10)).before args s = true := hts _ (List.mem_of_getElem? (i := 2) rfl)
  have w4 : (Cond.fieldLink RX11 7 "GreatChunksModel" "now" "[J").before args s = true := hts _ (List.mem_of_getElem? (i := 4) rfl)
  have w5 : ∀ w ∈ wsX110, w ∈ wsX11_odds := in_pl 59 rfl
  generalize hQe : MQ below (vp_Sl (fun r => r = x)) args s 0 0 (fun _ => False) = Q
  refine st_W ha (Nat.le_of_ble_eq_true rfl) (fun ls hl => ?_)
  have hl : lv_has ls 12 [(0, .ref (a0 0)), (1, .int p1), (2, .int p2), (3, .int p3)] := hl
  unfold f_X11_odds at hf
  refine lv_aload_n hx hb dX11_odds_0 rfl (lv_at hl 0 rfl) ?_
  obtain ⟨r1, e1, hf⟩ := bd_some hf
  refine cr_i (va_runV (As := []) (rest := []) ⟨hx, hb, hml, hown, hts⟩ (c_X11_isHouse l E a0 v0 r1 e1) (cwV 0 hts gX11_odds_X11_isHouse rfl rfl rfl hdV_X11_isHouse ⟨Nat.le_of_ble_eq_true rfl, Nat.le_of_ble_eq_true rfl⟩) ⟨PR.blind, va_recv hC.1 hP (ci := 9) (q0 := 0) rfl rfl, PR.pre hC hS hP⟩ rfl rfl hl.1 rfl (lv_room (Nat.le_of_ble_eq_true rfl)) dX11_odds_1 ⟨Nat.le_of_ble_eq_true rfl, Nat.le_of_ble_eq_true rfl⟩) ?_
  refine lv_if_ne (tgt := 11) hx hb dX11_odds_4 rfl (fun c2 => ?_) (fun c2 => ?_)
  · have hf := it_f hf c2
    refine lv_iload_n hx hb dX11_odds_11 rfl (lv_at hl 1 rfl) ?_
    refine cr_i (va_runS (As := [.int p1]) (rest := []) ⟨hx, hb, hml, hown, hts⟩ (c_X11_isFile l E p1 _ rfl) (va_cwS 1 hts gX11_odds_X11_isFile rfl rfl rfl hdS_X11_isFile ⟨Nat.le_of_ble_eq_true rfl, Nat.le_of_ble_eq_true rfl⟩) ⟨PR.blind, PR.pre hC hS (hP.sub [] rfl)⟩ rfl rfl hl.1 rfl (lv_room (Nat.le_of_ble_eq_true rfl)) dX11_odds_12 ⟨Nat.le_of_ble_eq_true rfl, Nat.le_of_ble_eq_true rfl⟩) ?_
    refine lv_if_eq (tgt := 40) hx hb dX11_odds_15 rfl (fun c3 => ?_) (fun c3 => ?_)
    · have hf := it_t hf c3
      refine lv_ldc2 hx hb hown w2 dX11_odds_40 ?_
      cases Option.some.inj hf
      subst hQe
      exact en_l hx hb hr hlocks dX11_odds_43
    · have hf := it_f hf c3
      refine lv_iload_n hx hb dX11_odds_18 rfl (lv_at hl 2 rfl) ?_
      refine lv_i2l hx hb dX11_odds_19 rfl ?_
      refine lv_lconst (v := 0) hx hb dX11_odds_20 rfl ?_
      refine lv_ldc2 hx hb hown w3 dX11_odds_21 ?_
      refine cr_i (va_runS (As := [.long p2.toInt64, .long (0 : Int64), .long ((10) : Int64)]) (rest := []) ⟨hx, hb, hml, hown, hts⟩ (c_X11_in l E p2.toInt64 (0 : Int64) ((10) : Int64) _ rfl) (va_cwS 3 hts gX11_odds_X11_in rfl rfl rfl hdS_X11_in ⟨Nat.le_of_ble_eq_true rfl, Nat.le_of_ble_eq_true rfl⟩) ⟨PR.blind, PR.pre hC hS (hP.sub [] rfl)⟩ rfl rfl hl.1 rfl (lv_room (Nat.le_of_ble_eq_true rfl)) dX11_odds_24 ⟨Nat.le_of_ble_eq_true rfl, Nat.le_of_ble_eq_true rfl⟩) ?_
      refine lv_if_eq (tgt := 40) hx hb dX11_odds_27 rfl (fun c4 => ?_) (fun c4 => ?_)
      · have hf := it_t hf c4
        refine lv_ldc2 hx hb hown w2 dX11_odds_40 ?_
        cases Option.some.inj hf
        subst hQe
        exact en_l hx hb hr hlocks dX11_odds_43
      · have hf := it_f hf c4
        refine lv_iload_n hx hb dX11_odds_30 rfl (lv_at hl 3 rfl) ?_
        refine lv_i2l hx hb dX11_odds_31 rfl ?_
        refine lv_lconst (v := 0) hx hb dX11_odds_32 rfl ?_
        refine lv_lconst (v := 1) hx hb dX11_odds_33 rfl ?_
        refine cr_i (va_runS (As := [.long p3.toInt64, .long (0 : Int64), .long (1 : Int64)]) (rest := []) ⟨hx, hb, hml, hown, hts⟩ (c_X11_in l E p3.toInt64 (0 : Int64) (1 : Int64) _ rfl) (va_cwS 3 hts gX11_odds_X11_in rfl rfl rfl hdS_X11_in ⟨Nat.le_of_ble_eq_true rfl, Nat.le_of_ble_eq_true rfl⟩) ⟨PR.blind, PR.pre hC hS (hP.sub [] rfl)⟩ rfl rfl hl.1 rfl (lv_room (Nat.le_of_ble_eq_true rfl)) dX11_odds_34 ⟨Nat.le_of_ble_eq_true rfl, Nat.le_of_ble_eq_true rfl⟩) ?_
        refine lv_if_ne (tgt := 44) hx hb dX11_odds_37 rfl (fun c5 => ?_) (fun c5 => ?_)
        · have hf := it_f hf c5
          refine lv_aload_n hx hb dX11_odds_44 rfl (lv_at hl 0 rfl) ?_
          refine lv_iload_n hx hb dX11_odds_45 rfl (lv_at hl 1 rfl) ?_
          obtain ⟨r6, e6, hf⟩ := bd_some hf
          refine cr_i (va_runV (As := [.int p1]) (rest := []) ⟨hx, hb, hml, hown, hts⟩ (c_X11_isThere l E a0 v0 p1 r6 e6) (cwV 1 hts gX11_odds_X11_isThere rfl rfl rfl hdV_X11_isThere ⟨Nat.le_of_ble_eq_true rfl, Nat.le_of_ble_eq_true rfl⟩) ⟨PR.blind, va_recv hC.1 hP (ci := 9) (q0 := 0) rfl rfl, PR.pre hC hS hP⟩ rfl rfl hl.1 rfl (lv_room (Nat.le_of_ble_eq_true rfl)) dX11_odds_46 ⟨Nat.le_of_ble_eq_true rfl, Nat.le_of_ble_eq_true rfl⟩) ?_
          refine lv_if_ne (tgt := 56) hx hb dX11_odds_49 rfl (fun c7 => ?_) (fun c7 => ?_)
          · have hf := it_f hf c7
            refine lv_lconst (v := 0) hx hb dX11_odds_56 rfl ?_
            refine lv_lstore (lv' := [(4, .long (0 : Int64)), (0, .ref (a0 0)), (1, .int p1), (2, .int p2), (3, .int p3)]) hx hb dX11_odds_57 hl (by decide) rfl (fun ls hl => ?_)
            refine lv_lconst (v := 0) hx hb dX11_odds_59 rfl ?_
            refine lv_lstore (lv' := [(6, .long (0 : Int64)), (4, .long (0 : Int64)), (0, .ref (a0 0)), (1, .int p1), (2, .int p2), (3, .int p3)]) hx hb dX11_odds_60 hl (by decide) rfl (fun ls hl => ?_)
            refine lv_iconst (v := 0) hx hb dX11_odds_62 rfl ?_
            refine lv_istore (lv' := [(8, .int (0 : Int32)), (6, .long (0 : Int64)), (4, .long (0 : Int64)), (0, .ref (a0 0)), (1, .int p1), (2, .int p2), (3, .int p3)]) hx hb dX11_odds_63 hl (by decide) rfl (fun ls hl => ?_)
            obtain ⟨K8, hK8, hf⟩ := jn_some hf
            have J8 : ∀ (q8 : Int64 × Int64 × Int32) (ls : Array Slot) (hl : lv_has ls 12 [(3, .int p3), (4, .long q8.1), (6, .long q8.2.1)]) (hf : K8 q8 = some x), W p l e (headSpec wsX11_odds rmX11_odds).room s m args below meth c s.heap [] 0 0 Q (F0 m 183 ls []) := by
              intro q8 ls hl hf
              have hf := (hK8 q8).trans hf
              refine lv_iload_n hx hb dX11_odds_183 rfl (lv_at hl 0 rfl) ?_
              obtain ⟨q9, e9, hf⟩ := bt_eq hf
              have J9 : W p l e (headSpec wsX11_odds rmX11_odds).room s m args below meth c s.heap [] 0 0 Q (F0 m 194 ls [.long q9]) := by
                refine lv_lload hx hb dX11_odds_194 (lv_at hl 1 rfl) ?_
                refine lv_lload hx hb dX11_odds_196 (lv_at hl 2 rfl) ?_
                obtain ⟨r10, e10, hf⟩ := bd_some hf
                refine cr_l (va_runS (As := [.long q8.1, .long q8.2.1]) (rest := [.long q9]) ⟨hx, hb, hml, hown, hts⟩ (c_X11_gcd l E q8.1 q8.2.1 r10 e10) (va_cwS 2 hts gX11_odds_X11_gcd rfl rfl rfl hdS_X11_gcd ⟨Nat.le_of_ble_eq_true rfl, Nat.le_of_ble_eq_true rfl⟩) ⟨PR.blind, PR.pre hC hS (hP.sub [] rfl)⟩ rfl rfl hl.1 rfl (lv_room (Nat.le_of_ble_eq_true rfl)) dX11_odds_198 ⟨Nat.le_of_ble_eq_true rfl, Nat.le_of_ble_eq_true rfl⟩) ?_
                obtain ⟨h11, hf⟩ := gdL_some hf
                refine lv_ldiv hx hb dX11_odds_201 h11 ?_
                cases Option.some.inj hf
                subst hQe
                exact en_l hx hb hr hlocks dX11_odds_202
              have hf := e9
              refine lv_if_ne (tgt := 192) hx hb dX11_odds_184 rfl (fun c12 => ?_) (fun c12 => ?_)
              · have hf := it_f hf c12
                refine lv_lload hx hb dX11_odds_192 (lv_at hl 2 rfl) ?_
                cases hf
                exact J9
              · have hf := it_t hf c12
                refine lv_lload hx hb dX11_odds_187 (lv_at hl 1 rfl) ?_
                refine lv_goto (tgt := 194) hx hb dX11_odds_189 rfl ?_
                cases hf
                exact J9
            have L8 : ∀ (n : Nat) (q8 : Int64 × Int64 × Int32) (ls : Array Slot) (hl : lv_has ls 12 [(0, .ref (a0 0)), (1, .int p1), (2, .int p2), (3, .int p3), (4, .long q8.1), (6, .long q8.2.1), (8, .int q8.2.2)]) (hf : lpF (bX11_odds_8 v0 p1 p2 K8) n q8 = some x), W p l e (headSpec wsX11_odds rmX11_odds).room s m args below meth c s.heap [] 0 0 Q (F0 m 65 ls []) := by
              intro n
              induction n with
              | zero => intro q8 ls hl hf; exact (lpF_zero hf).elim
              | succ n ih8 =>
                intro q8 ls hl hf
                have hf := lpF_succ hf
                unfold bX11_odds_8 at hf
                refine lv_iload hx hb dX11_odds_65 (lv_at hl 6 rfl) ?_
                refine lv_bipush (v := 32) hx hb dX11_odds_67 rfl ?_
                refine lv_icmp_ge (tgt := 183) hx hb dX11_odds_69 rfl (fun c13 => ?_) (fun c13 => ?_)
                · have hf := it_t hf c13
                  exact J8 (q8.1, q8.2.1, q8.2.2) ls (lv_sub hl [3, 4, 5] rfl) hf
                · have hf := it_f hf c13
                  refine lv_iload hx hb dX11_odds_72 (lv_at hl 6 rfl) ?_
                  refine lv_aload_n hx hb dX11_odds_74 rfl (lv_at hl 0 rfl) ?_
                  refine va_get (D := E.1) (ci := 9) (v := .ref (a0 1)) (C := RX11) (T := TX11) (N := 17) hx hb hts w5 hown hC.1 hP 0 rfl rfl 0 (by decide) w4 (fun _ h9 => h9) rfl dX11_odds_75 ?_
                  obtain ⟨r14, e14, hf⟩ := bd_some hf
                  refine cr_i (va_runS (As := [.ref (a0 1)]) (rest := [.int q8.2.2]) ⟨hx, hb, hml, hown, hts⟩ (c_X11_ups l E (a0 1) v0.1 r14 e14) (va_cwS 1 hts gX11_odds_X11_ups rfl rfl rfl hdS_X11_ups ⟨Nat.le_of_ble_eq_true rfl, Nat.le_of_ble_eq_true rfl⟩) ⟨PR.blind, PR.pre hC hS (hP.sub [1] rfl)⟩ rfl rfl hl.1 rfl (lv_room (Nat.le_of_ble_eq_true rfl)) dX11_odds_78 ⟨Nat.le_of_ble_eq_true rfl, Nat.le_of_ble_eq_true rfl⟩) ?_
                  refine lv_iconst (v := (-1)) hx hb dX11_odds_81 rfl ?_
                  refine lv_ixor hx hb dX11_odds_82 ?_
                  refine lv_iand hx hb dX11_odds_83 ?_
                  refine lv_if_ne (tgt := 177) hx hb dX11_odds_84 rfl (fun c15 => ?_) (fun c15 => ?_)
                  · have hf := it_f hf c15
                    refine lv_iinc (v := (q8.2.2 + 1)) (lv' := [(8, .int (q8.2.2 + 1)), (0, .ref (a0 0)), (1, .int p1), (2, .int p2), (3, .int p3), (4, .long q8.1), (6, .long q8.2.1)]) hx hb dX11_odds_177 hl (k := 6) rfl rfl (by decide) rfl (fun ls hl => ?_)
                    refine lv_goto (tgt := 65) hx hb dX11_odds_180 rfl ?_
                    exact ih8 (q8.1, q8.2.1, (q8.2.2 + 1)) ls (lv_sub hl [1, 2, 3, 4, 5, 6, 0] rfl) hf
                  · have hf := it_t hf c15
                    refine lv_lconst (v := 1) hx hb dX11_odds_87 rfl ?_
                    refine lv_lstore (lv' := [(9, .long (1 : Int64)), (0, .ref (a0 0)), (1, .int p1), (2, .int p2), (3, .int p3), (4, .long q8.1), (6, .long q8.2.1), (8, .int q8.2.2)]) hx hb dX11_odds_88 hl (by decide) rfl (fun ls hl => ?_)
                    refine lv_iconst (v := 0) hx hb dX11_odds_90 rfl ?_
                    refine lv_istore (lv' := [(11, .int (0 : Int32)), (9, .long (1 : Int64)), (0, .ref (a0 0)), (1, .int p1), (2, .int p2), (3, .int p3), (4, .long q8.1), (6, .long q8.2.1), (8, .int q8.2.2)]) hx hb dX11_odds_91 hl (by decide) rfl (fun ls hl => ?_)
                    obtain ⟨K16, hK16, hf⟩ := jn_some hf
                    have J16 : ∀ (q16 : Int64 × Int32) (ls : Array Slot) (hl : lv_has ls 12 [(0, .ref (a0 0)), (1, .int p1), (2, .int p2), (3, .int p3), (4, .long q8.1), (6, .long q8.2.1), (8, .int q8.2.2), (9, .long q16.1)]) (hf : K16 q16 = some x), W p l e (headSpec wsX11_odds rmX11_odds).room s m args below meth c s.heap [] 0 0 Q (F0 m 149 ls []) := by
                      intro q16 ls hl hf
                      have hf := (hK16 q16).trans hf
                      refine lv_lload hx hb dX11_odds_149 (lv_at hl 5 rfl) ?_
                      refine lv_lload hx hb dX11_odds_151 (lv_at hl 7 rfl) ?_
                      refine lv_ladd hx hb dX11_odds_153 ?_
                      refine lv_lstore (lv' := [(6, .long (q8.2.1 + q16.1)), (0, .ref (a0 0)), (1, .int p1), (2, .int p2), (3, .int p3), (4, .long q8.1), (8, .int q8.2.2), (9, .long q16.1)]) hx hb dX11_odds_154 hl (by decide) rfl (fun ls hl => ?_)
                      refine lv_lload hx hb dX11_odds_156 (lv_at hl 5 rfl) ?_
                      refine lv_aload_n hx hb dX11_odds_158 rfl (lv_at hl 1 rfl) ?_
                      refine lv_iload_n hx hb dX11_odds_159 rfl (lv_at hl 2 rfl) ?_
                      refine lv_iload hx hb dX11_odds_160 (lv_at hl 6 rfl) ?_
                      obtain ⟨r17, e17, hf⟩ := bd_some hf
                      refine cr_i (va_runV (As := [.int p1, .int q8.2.2]) (rest := [.long q8.1]) ⟨hx, hb, hml, hown, hts⟩ (c_X11_isReadable l E a0 v0 p1 q8.2.2 r17 e17) (cwV 2 hts gX11_odds_X11_isReadable rfl rfl rfl hdV_X11_isReadable ⟨Nat.le_of_ble_eq_true rfl, Nat.le_of_ble_eq_true rfl⟩) ⟨PR.blind, va_recv hC.1 hP (ci := 9) (q0 := 0) rfl rfl, PR.pre hC hS hP⟩ rfl rfl hl.1 rfl (lv_room (Nat.le_of_ble_eq_true rfl)) dX11_odds_162 ⟨Nat.le_of_ble_eq_true rfl, Nat.le_of_ble_eq_true rfl⟩) ?_
                      refine lv_if_eq (tgt := 173) hx hb dX11_odds_165 rfl (fun c18 => ?_) (fun c18 => ?_)
                      · have hf := it_t hf c18
                        refine lv_lconst (v := 0) hx hb dX11_odds_173 rfl ?_
                        refine lv_ladd hx hb dX11_odds_174 ?_
                        refine lv_lstore (lv' := [(4, .long (q8.1 + (0 : Int64))), (6, .long (q8.2.1 + q16.1)), (0, .ref (a0 0)), (1, .int p1), (2, .int p2), (3, .int p3), (8, .int q8.2.2), (9, .long q16.1)]) hx hb dX11_odds_175 hl (by decide) rfl (fun ls hl => ?_)
                        refine lv_iinc (v := (q8.2.2 + 1)) (lv' := [(8, .int (q8.2.2 + 1)), (4, .long (q8.1 + (0 : Int64))), (6, .long (q8.2.1 + q16.1)), (0, .ref (a0 0)), (1, .int p1), (2, .int p2), (3, .int p3), (9, .long q16.1)]) hx hb dX11_odds_177 hl (k := 6) rfl rfl (by decide) rfl (fun ls hl => ?_)
                        refine lv_goto (tgt := 65) hx hb dX11_odds_180 rfl ?_
                        exact ih8 ((q8.1 + (0 : Int64)), (q8.2.1 + q16.1), (q8.2.2 + 1)) ls (lv_sub hl [3, 4, 5, 6, 1, 2, 0] rfl) hf
                      · have hf := it_f hf c18
                        refine lv_lload hx hb dX11_odds_168 (lv_at hl 7 rfl) ?_
                        refine lv_goto (tgt := 174) hx hb dX11_odds_170 rfl ?_
                        refine lv_ladd hx hb dX11_odds_174 ?_
                        refine lv_lstore (lv' := [(4, .long (q8.1 + q16.1)), (6, .long (q8.2.1 + q16.1)), (0, .ref (a0 0)), (1, .int p1), (2, .int p2), (3, .int p3), (8, .int q8.2.2), (9, .long q16.1)]) hx hb dX11_odds_175 hl (by decide) rfl (fun ls hl => ?_)
                        refine lv_iinc (v := (q8.2.2 + 1)) (lv' := [(8, .int (q8.2.2 + 1)), (4, .long (q8.1 + q16.1)), (6, .long (q8.2.1 + q16.1)), (0, .ref (a0 0)), (1, .int p1), (2, .int p2), (3, .int p3), (9, .long q16.1)]) hx hb dX11_odds_177 hl (k := 6) rfl rfl (by decide) rfl (fun ls hl => ?_)
                        refine lv_goto (tgt := 65) hx hb dX11_odds_180 rfl ?_
                        exact ih8 ((q8.1 + q16.1), (q8.2.1 + q16.1), (q8.2.2 + 1)) ls (lv_sub hl [3, 4, 5, 6, 1, 2, 0] rfl) hf
                    have L16 : ∀ (n : Nat) (q16 : Int64 × Int32) (ls : Array Slot) (hl : lv_has ls 12 [(0, .ref (a0 0)), (1, .int p1), (2, .int p2), (3, .int p3), (4, .long q8.1), (6, .long q8.2.1), (8, .int q8.2.2), (9, .long q16.1), (11, .int q16.2)]) (hf : lpF (bX11_odds_16 v0 q8 p2 K16) n q16 = some x), W p l e (headSpec wsX11_odds rmX11_odds).room s m args below meth c s.heap [] 0 0 Q (F0 m 93 ls []) := by
                      intro n
                      induction n with
                      | zero => intro q16 ls hl hf; exact (lpF_zero hf).elim
                      | succ n ih16 =>
                        intro q16 ls hl hf
                        have hf := lpF_succ hf
                        unfold bX11_odds_16 at hf
                        refine lv_iload hx hb dX11_odds_93 (lv_at hl 8 rfl) ?_
                        refine lv_iconst (v := 5) hx hb dX11_odds_95 rfl ?_
                        refine lv_icmp_ge (tgt := 149) hx hb dX11_odds_96 rfl (fun c19 => ?_) (fun c19 => ?_)
                        · have hf := it_t hf c19
                          exact J16 (q16.1, q16.2) ls (lv_sub hl [0, 1, 2, 3, 4, 5, 6, 7] rfl) hf
                        · have hf := it_f hf c19
                          refine lv_lload hx hb dX11_odds_99 (lv_at hl 7 rfl) ?_
                          refine lv_aload_n hx hb dX11_odds_101 rfl (lv_at hl 0 rfl) ?_
                          refine va_get (D := E.1) (ci := 9) (v := .ref (a0 1)) (C := RX11) (T := TX11) (N := 17) hx hb hts w5 hown hC.1 hP 0 rfl rfl 0 (by decide) w4 (fun _ h9 => h9) rfl dX11_odds_102 ?_
                          obtain ⟨r20, e20, hf⟩ := bd_some hf
                          refine cr_i (va_runS (As := [.ref (a0 1)]) (rest := [.long q16.1]) ⟨hx, hb, hml, hown, hts⟩ (c_X11_ups l E (a0 1) v0.1 r20 e20) (va_cwS 1 hts gX11_odds_X11_ups rfl rfl rfl hdS_X11_ups ⟨Nat.le_of_ble_eq_true rfl, Nat.le_of_ble_eq_true rfl⟩) ⟨PR.blind, PR.pre hC hS (hP.sub [1] rfl)⟩ rfl rfl hl.1 rfl (lv_room (Nat.le_of_ble_eq_true rfl)) dX11_odds_105 ⟨Nat.le_of_ble_eq_true rfl, Nat.le_of_ble_eq_true rfl⟩) ?_
                          refine lv_iload hx hb dX11_odds_108 (lv_at hl 8 rfl) ?_
                          refine cr_i (va_runS (As := [.int r20, .int q16.2]) (rest := [.long q16.1]) ⟨hx, hb, hml, hown, hts⟩ (c_X11_has l E r20 q16.2 _ rfl) (va_cwS 2 hts gX11_odds_X11_has rfl rfl rfl hdS_X11_has ⟨Nat.le_of_ble_eq_true rfl, Nat.le_of_ble_eq_true rfl⟩) ⟨PR.blind, PR.pre hC hS (hP.sub [] rfl)⟩ rfl rfl hl.1 rfl (lv_room (Nat.le_of_ble_eq_true rfl)) dX11_odds_110 ⟨Nat.le_of_ble_eq_true rfl, Nat.le_of_ble_eq_true rfl⟩) ?_
                          refine lv_if_ne (tgt := 120) hx hb dX11_odds_113 rfl (fun c21 => ?_) (fun c21 => ?_)
                          · have hf := it_f hf c21
                            refine lv_iload hx hb dX11_odds_120 (lv_at hl 6 rfl) ?_
                            refine lv_iload hx hb dX11_odds_122 (lv_at hl 8 rfl) ?_
                            refine cr_i (va_runS (As := [.int q8.2.2, .int q16.2]) (rest := [.long q16.1]) ⟨hx, hb, hml, hown, hts⟩ (c_X11_has l E q8.2.2 q16.2 _ rfl) (va_cwS 2 hts gX11_odds_X11_has rfl rfl rfl hdS_X11_has ⟨Nat.le_of_ble_eq_true rfl, Nat.le_of_ble_eq_true rfl⟩) ⟨PR.blind, PR.pre hC hS (hP.sub [] rfl)⟩ rfl rfl hl.1 rfl (lv_room (Nat.le_of_ble_eq_true rfl)) dX11_odds_124 ⟨Nat.le_of_ble_eq_true rfl, Nat.le_of_ble_eq_true rfl⟩) ?_
                            refine lv_if_eq (tgt := 135) hx hb dX11_odds_127 rfl (fun c22 => ?_) (fun c22 => ?_)
                            · have hf := it_t hf c22
                              refine lv_bipush (v := 10) hx hb dX11_odds_135 rfl ?_
                              refine lv_iload_n hx hb dX11_odds_137 rfl (lv_at hl 2 rfl) ?_
                              refine lv_isub hx hb dX11_odds_138 ?_
                              refine lv_i2l hx hb dX11_odds_139 rfl ?_
                              refine lv_lmul hx hb dX11_odds_140 ?_
                              refine lv_lstore (lv' := [(9, .long (q16.1 * ((10 : Int32) - p2).toInt64)), (0, .ref (a0 0)), (1, .int p1), (2, .int p2), (3, .int p3), (4, .long q8.1), (6, .long q8.2.1), (8, .int q8.2.2), (11, .int q16.2)]) hx hb dX11_odds_141 hl (by decide) rfl (fun ls hl => ?_)
                              refine lv_iinc (v := (q16.2 + 1)) (lv' := [(11, .int (q16.2 + 1)), (9, .long (q16.1 * ((10 : Int32) - p2).toInt64)), (0, .ref (a0 0)), (1, .int p1), (2, .int p2), (3, .int p3), (4, .long q8.1), (6, .long q8.2.1), (8, .int q8.2.2)]) hx hb dX11_odds_143 hl (k := 8) rfl rfl (by decide) rfl (fun ls hl => ?_)
                              refine lv_goto (tgt := 93) hx hb dX11_odds_146 rfl ?_
                              exact ih16 ((q16.1 * ((10 : Int32) - p2).toInt64), (q16.2 + 1)) ls (lv_sub hl [2, 3, 4, 5, 6, 7, 8, 1, 0] rfl) hf
                            · have hf := it_f hf c22
                              refine lv_iload_n hx hb dX11_odds_130 rfl (lv_at hl 2 rfl) ?_
                              refine lv_i2l hx hb dX11_odds_131 rfl ?_
                              refine lv_goto (tgt := 140) hx hb dX11_odds_132 rfl ?_
                              refine lv_lmul hx hb dX11_odds_140 ?_
                              refine lv_lstore (lv' := [(9, .long (q16.1 * p2.toInt64)), (0, .ref (a0 0)), (1, .int p1), (2, .int p2), (3, .int p3), (4, .long q8.1), (6, .long q8.2.1), (8, .int q8.2.2), (11, .int q16.2)]) hx hb dX11_odds_141 hl (by decide) rfl (fun ls hl => ?_)
                              refine lv_iinc (v := (q16.2 + 1)) (lv' := [(11, .int (q16.2 + 1)), (9, .long (q16.1 * p2.toInt64)), (0, .ref (a0 0)), (1, .int p1), (2, .int p2), (3, .int p3), (4, .long q8.1), (6, .long q8.2.1), (8, .int q8.2.2)]) hx hb dX11_odds_143 hl (k := 8) rfl rfl (by decide) rfl (fun ls hl => ?_)
                              refine lv_goto (tgt := 93) hx hb dX11_odds_146 rfl ?_
                              exact ih16 ((q16.1 * p2.toInt64), (q16.2 + 1)) ls (lv_sub hl [2, 3, 4, 5, 6, 7, 8, 1, 0] rfl) hf
                          · have hf := it_t hf c21
                            refine lv_lconst (v := 1) hx hb dX11_odds_116 rfl ?_
                            refine lv_goto (tgt := 140) hx hb dX11_odds_117 rfl ?_
                            refine lv_lmul hx hb dX11_odds_140 ?_
                            refine lv_lstore (lv' := [(9, .long (q16.1 * (1 : Int64))), (0, .ref (a0 0)), (1, .int p1), (2, .int p2), (3, .int p3), (4, .long q8.1), (6, .long q8.2.1), (8, .int q8.2.2), (11, .int q16.2)]) hx hb dX11_odds_141 hl (by decide) rfl (fun ls hl => ?_)
                            refine lv_iinc (v := (q16.2 + 1)) (lv' := [(11, .int (q16.2 + 1)), (9, .long (q16.1 * (1 : Int64))), (0, .ref (a0 0)), (1, .int p1), (2, .int p2), (3, .int p3), (4, .long q8.1), (6, .long q8.2.1), (8, .int q8.2.2)]) hx hb dX11_odds_143 hl (k := 8) rfl rfl (by decide) rfl (fun ls hl => ?_)
                            refine lv_goto (tgt := 93) hx hb dX11_odds_146 rfl ?_
                            exact ih16 ((q16.1 * (1 : Int64)), (q16.2 + 1)) ls (lv_sub hl [2, 3, 4, 5, 6, 7, 8, 1, 0] rfl) hf
                    exact L16 FU ((1 : Int64), (0 : Int32)) ls (lv_sub hl [2, 3, 4, 5, 6, 7, 8, 1, 0] rfl) hf
            exact L8 FU ((0 : Int64), (0 : Int64), (0 : Int32)) ls (lv_sub hl [3, 4, 5, 6, 2, 1, 0] rfl) hf
          · have hf := it_t hf c7
            refine lv_ldc2 hx hb hown w1 dX11_odds_52 ?_
            cases Option.some.inj hf
            subst hQe
            exact en_l hx hb hr hlocks dX11_odds_55
        · have hf := it_t hf c5
          refine lv_ldc2 hx hb hown w2 dX11_odds_40 ?_
          cases Option.some.inj hf
          subst hQe
          exact en_l hx hb hr hlocks dX11_odds_43
  · have hf := it_t hf c2
    refine lv_ldc2 hx hb hown w1 dX11_odds_7 ?_
    cases Option.some.inj hf
    subst hQe
    exact en_l hx hb hr hlocks dX11_odds_10

/-! X11_drawn -/
abbrev rmX11_drawn : Room := { frames := 7, cells := 0, slots := 0, locals := 164 }
theorem hdS_X11_drawn : yX11_drawn.cls ≠ "java/lang/invoke/MethodHandle" ∧ yX11_drawn.cls ≠ "java/lang/invoke/VarHandle" ∧ (parseMethodDescriptor yX11_drawn.desc).map (fun d => d.parameters.length) = some 3 := by decide +kernel
theorem hdV_X11_drawn : yX11_drawn.cls = RX11 ∧ yX11_drawn.cls ≠ "java/lang/invoke/MethodHandle" ∧ yX11_drawn.cls ≠ "java/lang/invoke/VarHandle" ∧ (parseMethodDescriptor yX11_drawn.desc).map (fun d => d.parameters.length) = some 3 := ⟨rfl, hdS_X11_drawn⟩
set_option maxHeartbeats 4000000 in
set_option maxRecDepth 100000 in
theorem c_X11_drawn (l : Launch) (E : G0) (sz : Nat) (a0 : Nat → Nat) (v0 : MD) (p1 : Int32) (p2 : Int32) (p3 : Int32) (x : Int32 × MD) (hf : f_X11_drawn v0 p1 p2 p3 = some x) : Met l yX11_drawn wsX11_drawn rmX11_drawn (va_Pc [.ref (a0 0), .int p1, .int p2, .int p3] (PW E (wMD E a0 v0) sz)) (va_Qi (fun r q => r = x.1 ∧ q = x.2) (fun q t => va_P E.1 vwCl ((fun q : MD => wMD E a0 q) q) t.heap ∧ va_D (va_A (wMD E a0 v0) sz) ((fun q : MD => wMD E a0 q) q)) (va_A (wMD E a0 v0) sz)) 0 0 (va_A (wMD E a0 v0) sz) := by
  refine Met.ofW (cc := cX11_drawn) (maxL := 11) (ret := some .int) (by decide) rfl ?_
  intro p e s m args below meth c s₁ B hml hv
  obtain ⟨ha, hsz, hP, hD0, hC⟩ := hv
  have hx := B.exec
  have hb := B.bytes
  have hr := B.returns
  have hts := atoms_spec (ws := wsX11_drawn) B.pre
  have hown : s.vm.findClass RX11 = some m.cls := findClass_of_methodNamed B.named
  have hlocks := B.notSynchronized
  subst hsz
  have hD := hD0.self (sz := s.heap.size)
  generalize hAe : va_A (wMD E a0 v0) s.heap.size = A at hD hC ⊢
  have hA : ∀ q : Nat, s.heap.size ≤ q → A q := fun q h => by rw [← hAe]; exact Or.inr h
  have hS : va_S A s.heap s.heap [] := va_S.rf
  have w1 : (Cond.constant RX11 261 (-1000002)).before args s = true := hts _ (List.mem_of_getElem? (i := 1) rfl)
  have w2 : (Cond.constantLong RX11 374 (12)).before args s = true := hts _ (List.mem_of_getElem? (i := 2) rfl)
  have w3 : (Cond.constant RX11 235 (-1000001)).before args s = true := hts _ (List.mem_of_getElem? (i := 5) rfl)
  have w4 : (Cond.constantLong RX11 376 (999999)).before args s = true := hts _ (List.mem_of_getElem? (i := 3) rfl)
  have w5 : (Cond.constantLong RX11 284 (2)).before args s = true := hts _ (List.mem_of_getElem? (i := 4) rfl)
  have w6 : (Cond.constantLong RX11 378 (16807)).before args s = true := hts _ (List.mem_of_getElem? (i := 6) rfl)
  have w7 : (Cond.constantLong RX11 380 (2147483647)).before args s = true := hts _ (List.mem_of_getElem? (i := 7) rfl)
  have w8 : (Cond.constantLong RX11 382 (128)).before args s = true := hts _ (List.mem_of_getElem? (i := 8) rfl)
  have w9 : (Cond.fieldLink RX11 13 "GreatChunksModel" "tried" "[J").before args s = true := hts _ (List.mem_of_getElem? (i := 9) rfl)
  have w10 : ∀ w ∈ wsX110, w ∈ wsX11_drawn := in_pl 152 rfl
  have w11 : (Cond.constantLong RX11 310 (9)).before args s = true := hts _ (List.mem_of_getElem? (i := 10) rfl)
  have w12 : (Cond.constantLong RX11 384 (6)).before args s = true := hts _ (List.mem_of_getElem? (i := 11) rfl)
  have w13 : (Cond.constantLong RX11 386 (8)).before args s = true := hts _ (List.mem_of_getElem? (i := 12) rfl)
  have w14 : (Cond.fieldLink RX11 143 "GreatChunksModel" "letters" "I").before args s = true := hts _ (List.mem_of_getElem? (i := 13) rfl)
  have w15 : (Cond.fieldLink RX11 30 "GreatChunksModel" "record" "[I").before args s = true := hts _ (List.mem_of_getElem? (i := 14) rfl)
  have w16 : (Cond.constantLong RX11 388 (64)).before args s = true := hts _ (List.mem_of_getElem? (i := 15) rfl)
  have w17 : (Cond.constantLong RX11 390 (26)).before args s = true := hts _ (List.mem_of_getElem? (i := 16) rfl)
  generalize hQe : MQ below (va_Qi (fun r q => r = x.1 ∧ q = x.2) (fun q t => va_P E.1 vwCl ((fun q : MD => wMD E a0 q) q) t.heap ∧ va_D A ((fun q : MD => wMD E a0 q) q)) A) args s 0 0 A = Q
  refine st_W ha (Nat.le_of_ble_eq_true rfl) (fun ls hl => ?_)
  have hl : lv_has ls 11 [(0, .ref (a0 0)), (1, .int p1), (2, .int p2), (3, .int p3)] := hl
  unfold f_X11_drawn at hf
  refine lv_aload_n hx hb dX11_drawn_0 rfl (lv_at hl 0 rfl) ?_
  obtain ⟨r1, e1, hf⟩ := bd_some hf
  refine cr_i (va_runV (As := []) (rest := []) ⟨hx, hb, hml, hown, hts⟩ (c_X11_isHouse l E a0 v0 r1 e1) (cwV 0 hts gX11_drawn_X11_isHouse rfl rfl rfl hdV_X11_isHouse ⟨Nat.le_of_ble_eq_true rfl, Nat.le_of_ble_eq_true rfl⟩) ⟨PR.blind, va_recv hC.1 hP (ci := 9) (q0 := 0) rfl rfl, PR.pre hC hS hP⟩ rfl rfl hl.1 rfl (lv_room (Nat.le_of_ble_eq_true rfl)) dX11_drawn_1 ⟨Nat.le_of_ble_eq_true rfl, Nat.le_of_ble_eq_true rfl⟩) ?_
  refine lv_if_ne (tgt := 11) hx hb dX11_drawn_4 rfl (fun c2 => ?_) (fun c2 => ?_)
  · have hf := it_f hf c2
    refine lv_iload_n hx hb dX11_drawn_11 rfl (lv_at hl 1 rfl) ?_
    refine lv_i2l hx hb dX11_drawn_12 rfl ?_
    refine lv_lconst (v := 0) hx hb dX11_drawn_13 rfl ?_
    refine lv_ldc2 hx hb hown w2 dX11_drawn_14 ?_
    refine cr_i (va_runS (As := [.long p1.toInt64, .long (0 : Int64), .long ((12) : Int64)]) (rest := []) ⟨hx, hb, hml, hown, hts⟩ (c_X11_in l E p1.toInt64 (0 : Int64) ((12) : Int64) _ rfl) (va_cwS 3 hts gX11_drawn_X11_in rfl rfl rfl hdS_X11_in ⟨Nat.le_of_ble_eq_true rfl, Nat.le_of_ble_eq_true rfl⟩) ⟨PR.blind, PR.pre hC hS (hP.sub [] rfl)⟩ rfl rfl hl.1 rfl (lv_room (Nat.le_of_ble_eq_true rfl)) dX11_drawn_17 ⟨Nat.le_of_ble_eq_true rfl, Nat.le_of_ble_eq_true rfl⟩) ?_
    refine lv_if_eq (tgt := 47) hx hb dX11_drawn_20 rfl (fun c3 => ?_) (fun c3 => ?_)
    · have hf := it_t hf c3
      refine lv_ldc hx hb hown w3 dX11_drawn_47 ?_
      cases Option.some.inj hf
      subst hQe
      exact ew_i (wf := (fun q : MD => wMD E a0 q)) hx hb hr hlocks hP hD hS dX11_drawn_49
    · have hf := it_f hf c3
      refine lv_iload_n hx hb dX11_drawn_23 rfl (lv_at hl 2 rfl) ?_
      refine lv_i2l hx hb dX11_drawn_24 rfl ?_
      refine lv_lconst (v := 1) hx hb dX11_drawn_25 rfl ?_
      refine lv_ldc2 hx hb hown w4 dX11_drawn_26 ?_
      refine cr_i (va_runS (As := [.long p2.toInt64, .long (1 : Int64), .long ((999999) : Int64)]) (rest := []) ⟨hx, hb, hml, hown, hts⟩ (c_X11_in l E p2.toInt64 (1 : Int64) ((999999) : Int64) _ rfl) (va_cwS 3 hts gX11_drawn_X11_in rfl rfl rfl hdS_X11_in ⟨Nat.le_of_ble_eq_true rfl, Nat.le_of_ble_eq_true rfl⟩) ⟨PR.blind, PR.pre hC hS (hP.sub [] rfl)⟩ rfl rfl hl.1 rfl (lv_room (Nat.le_of_ble_eq_true rfl)) dX11_drawn_29 ⟨Nat.le_of_ble_eq_true rfl, Nat.le_of_ble_eq_true rfl⟩) ?_
      refine lv_if_eq (tgt := 47) hx hb dX11_drawn_32 rfl (fun c4 => ?_) (fun c4 => ?_)
      · have hf := it_t hf c4
        refine lv_ldc hx hb hown w3 dX11_drawn_47 ?_
        cases Option.some.inj hf
        subst hQe
        exact ew_i (wf := (fun q : MD => wMD E a0 q)) hx hb hr hlocks hP hD hS dX11_drawn_49
      · have hf := it_f hf c4
        refine lv_iload_n hx hb dX11_drawn_35 rfl (lv_at hl 3 rfl) ?_
        refine lv_i2l hx hb dX11_drawn_36 rfl ?_
        refine lv_lconst (v := 0) hx hb dX11_drawn_37 rfl ?_
        refine lv_ldc2 hx hb hown w5 dX11_drawn_38 ?_
        refine cr_i (va_runS (As := [.long p3.toInt64, .long (0 : Int64), .long ((2) : Int64)]) (rest := []) ⟨hx, hb, hml, hown, hts⟩ (c_X11_in l E p3.toInt64 (0 : Int64) ((2) : Int64) _ rfl) (va_cwS 3 hts gX11_drawn_X11_in rfl rfl rfl hdS_X11_in ⟨Nat.le_of_ble_eq_true rfl, Nat.le_of_ble_eq_true rfl⟩) ⟨PR.blind, PR.pre hC hS (hP.sub [] rfl)⟩ rfl rfl hl.1 rfl (lv_room (Nat.le_of_ble_eq_true rfl)) dX11_drawn_41 ⟨Nat.le_of_ble_eq_true rfl, Nat.le_of_ble_eq_true rfl⟩) ?_
        refine lv_if_ne (tgt := 50) hx hb dX11_drawn_44 rfl (fun c5 => ?_) (fun c5 => ?_)
        · have hf := it_f hf c5
          refine lv_aload_n hx hb dX11_drawn_50 rfl (lv_at hl 0 rfl) ?_
          obtain ⟨r6, e6, hf⟩ := bd_some hf
          refine cq_v hP hD hS [0, 1, 2, 3, 4, 5, 6, 7] [] [0, 1, 2, 3, 4, 5, 6, 7] (va_free (wc := (wMD E a0 v0)) hD hS hA [0, 1, 2, 3, 4, 5, 6, 7] rfl) (va_runV (As := []) (rest := []) ⟨hx, hb, hml, hown, hts⟩ (c_X11_tries l E s.heap.size a0 v0 r6 e6) (cwV 0 hts gX11_drawn_X11_tries rfl rfl rfl hdV_X11_tries ⟨Nat.le_of_ble_eq_true rfl, Nat.le_of_ble_eq_true rfl⟩) ⟨PW.blind, va_recv hC.1 hP (ci := 9) (q0 := 0) rfl rfl, PW.pre hC hS hP hD (va_free hD hS hA [0, 1, 2, 3, 4, 5, 6, 7] rfl)⟩ rfl rfl hl.1 rfl (lv_room (Nat.le_of_ble_eq_true rfl)) dX11_drawn_51 ⟨Nat.le_of_ble_eq_true rfl, Nat.le_of_ble_eq_true rfl⟩) rfl rfl rfl rfl (wMD E a0 r6) rfl rfl (fun H locs hP hD hS => ?_)
          refine lv_iload_n hx hb dX11_drawn_54 rfl (lv_at hl 2 rfl) ?_
          refine lv_i2l hx hb dX11_drawn_55 rfl ?_
          refine lv_lstore (lv' := [(4, .long p2.toInt64), (0, .ref (a0 0)), (1, .int p1), (2, .int p2), (3, .int p3)]) hx hb dX11_drawn_56 hl (by decide) rfl (fun ls hl => ?_)
          refine lv_iconst (v := 0) hx hb dX11_drawn_58 rfl ?_
          refine lv_istore (lv' := [(6, .int (0 : Int32)), (4, .long p2.toInt64), (0, .ref (a0 0)), (1, .int p1), (2, .int p2), (3, .int p3)]) hx hb dX11_drawn_59 hl (by decide) rfl (fun ls hl => ?_)
          refine lv_iconst (v := 0) hx hb dX11_drawn_61 rfl ?_
          refine lv_istore (lv' := [(7, .int (0 : Int32)), (6, .int (0 : Int32)), (4, .long p2.toInt64), (0, .ref (a0 0)), (1, .int p1), (2, .int p2), (3, .int p3)]) hx hb dX11_drawn_62 hl (by decide) rfl (fun ls hl => ?_)
          obtain ⟨K7, hK7, hf⟩ := jn_some hf
          have J7 : ∀ (q7 : Int64 × Int32 × Int32 × MD) (H : Heap) (locs : List Loc) (hP : va_P E.1 vwCl (wMD E a0 q7.2.2.2) H) (hD : va_D A (wMD E a0 q7.2.2.2)) (hS : va_S A s.heap H locs) (ls : Array Slot) (hl : lv_has ls 11 [(0, .ref (a0 0)), (3, .int p3), (6, .int q7.2.1)]) (hf : K7 q7 = some x), W p l e (headSpec wsX11_drawn rmX11_drawn).room s m args below meth c H locs 0 0 Q (F0 m 250 ls []) := by
            intro q7 H locs hP hD hS ls hl hf
            have hf := (hK7 q7).trans hf
            refine lv_iload_n hx hb dX11_drawn_250 rfl (lv_at hl 1 rfl) ?_
            refine lv_if_ne (tgt := 259) hx hb dX11_drawn_251 rfl (fun c8 => ?_) (fun c8 => ?_)
            · have hf := it_f hf c8
              refine lv_iload_n hx hb dX11_drawn_259 rfl (lv_at hl 1 rfl) ?_
              refine lv_iconst (v := 1) hx hb dX11_drawn_260 rfl ?_
              refine lv_icmp_ne (tgt := 275) hx hb dX11_drawn_261 rfl (fun c9 => ?_) (fun c9 => ?_)
              · have hf := it_f hf c9
                refine lv_aload_n hx hb dX11_drawn_275 rfl (lv_at hl 0 rfl) ?_
                refine va_get (D := E.1) (ci := 9) (v := .ref (a0 2)) (C := RX11) (T := TX11) (N := 17) hx hb hts w10 hown hC.1 hP 0 rfl rfl 1 (by decide) w9 (fun _ h9 => h9) rfl dX11_drawn_276 ?_
                obtain ⟨r10, e10, hf⟩ := bd_some hf
                refine cr_i (va_runS (As := [.ref (a0 2)]) (rest := []) ⟨hx, hb, hml, hown, hts⟩ (c_X11_allLying l E (a0 2) q7.2.2.2.2.1 r10 e10) (va_cwS 1 hts gX11_drawn_X11_allLying rfl rfl rfl hdS_X11_allLying ⟨Nat.le_of_ble_eq_true rfl, Nat.le_of_ble_eq_true rfl⟩) ⟨PR.blind, PR.pre hC hS (hP.sub [2] rfl)⟩ rfl rfl hl.1 rfl (lv_room (Nat.le_of_ble_eq_true rfl)) dX11_drawn_279 ⟨Nat.le_of_ble_eq_true rfl, Nat.le_of_ble_eq_true rfl⟩) ?_
                cases Option.some.inj hf
                subst hQe
                exact ew_i (wf := (fun q : MD => wMD E a0 q)) hx hb hr hlocks hP hD hS dX11_drawn_282
              · have hf := it_t hf c9
                refine lv_aload_n hx hb dX11_drawn_264 rfl (lv_at hl 0 rfl) ?_
                refine va_get (D := E.1) (ci := 9) (v := .ref (a0 2)) (C := RX11) (T := TX11) (N := 17) hx hb hts w10 hown hC.1 hP 0 rfl rfl 1 (by decide) w9 (fun _ h9 => h9) rfl dX11_drawn_265 ?_
                refine lv_bipush (v := 6) hx hb dX11_drawn_268 rfl ?_
                obtain ⟨h11, hf⟩ := gdI_some hf
                refine va_lald hx hb hC.1 hP 2 1 rfl rfl h11 dX11_drawn_270 ?_
                refine lv_l2i hx hb dX11_drawn_271 rfl ?_
                refine lv_goto (tgt := 282) hx hb dX11_drawn_272 rfl ?_
                cases Option.some.inj hf
                subst hQe
                exact ew_i (wf := (fun q : MD => wMD E a0 q)) hx hb hr hlocks hP hD hS dX11_drawn_282
            · have hf := it_t hf c8
              refine lv_iload hx hb dX11_drawn_254 (lv_at hl 2 rfl) ?_
              refine lv_goto (tgt := 282) hx hb dX11_drawn_256 rfl ?_
              cases Option.some.inj hf
              subst hQe
              exact ew_i (wf := (fun q : MD => wMD E a0 q)) hx hb hr hlocks hP hD hS dX11_drawn_282
          have L7 : ∀ (n : Nat) (q7 : Int64 × Int32 × Int32 × MD) (H : Heap) (locs : List Loc) (hP : va_P E.1 vwCl (wMD E a0 q7.2.2.2) H) (hD : va_D A (wMD E a0 q7.2.2.2)) (hS : va_S A s.heap H locs) (ls : Array Slot) (hl : lv_has ls 11 [(0, .ref (a0 0)), (1, .int p1), (3, .int p3), (4, .long q7.1), (6, .int q7.2.1), (7, .int q7.2.2.1)]) (hf : lpF (bX11_drawn_7 p1 K7) n q7 = some x), W p l e (headSpec wsX11_drawn rmX11_drawn).room s m args below meth c H locs 0 0 Q (F0 m 64 ls []) := by
            intro n
            induction n with
            | zero => intro q7 H locs hP hD hS ls hl hf; exact (lpF_zero hf).elim
            | succ n ih7 =>
              intro q7 H locs hP hD hS ls hl hf
              have hf := lpF_succ hf
              unfold bX11_drawn_7 at hf
              refine lv_iload hx hb dX11_drawn_64 (lv_at hl 5 rfl) ?_
              refine lv_iload_n hx hb dX11_drawn_66 rfl (lv_at hl 1 rfl) ?_
              refine lv_icmp_ge (tgt := 250) hx hb dX11_drawn_67 rfl (fun c12 => ?_) (fun c12 => ?_)
              · have hf := it_t hf c12
                exact J7 (q7.1, q7.2.1, q7.2.2.1, q7.2.2.2) H locs hP hD hS ls (lv_sub hl [0, 2, 4] rfl) hf
              · have hf := it_f hf c12
                refine lv_lload hx hb dX11_drawn_70 (lv_at hl 3 rfl) ?_
                refine lv_ldc2 hx hb hown w6 dX11_drawn_72 ?_
                refine lv_lmul hx hb dX11_drawn_75 ?_
                refine lv_ldc2 hx hb hown w7 dX11_drawn_76 ?_
                obtain ⟨h13, hf⟩ := gdL_some hf
                refine lv_lrem hx hb dX11_drawn_79 h13 ?_
                refine lv_topl (fun r14 e14 => ?_)
                have hf := bt_nm hf e14
                refine lv_lstore (lv' := [(4, .long r14), (0, .ref (a0 0)), (1, .int p1), (3, .int p3), (6, .int q7.2.1), (7, .int q7.2.2.1)]) hx hb dX11_drawn_80 hl (by decide) rfl (fun ls hl => ?_)
                refine lv_bipush (v := 7) hx hb dX11_drawn_82 rfl ?_
                refine lv_iconst (v := 3) hx hb dX11_drawn_84 rfl ?_
                refine lv_lload hx hb dX11_drawn_85 (lv_at hl 0 rfl) ?_
                refine lv_ldc2 hx hb hown w8 dX11_drawn_87 ?_
                obtain ⟨h15, hf⟩ := gdL_some hf
                refine lv_ldiv hx hb dX11_drawn_90 h15 ?_
                refine lv_aload_n hx hb dX11_drawn_91 rfl (lv_at hl 1 rfl) ?_
                refine va_get (D := E.1) (ci := 9) (v := .ref (a0 2)) (C := RX11) (T := TX11) (N := 17) hx hb hts w10 hown hC.1 hP 0 rfl rfl 1 (by decide) w9 (fun _ h9 => h9) rfl dX11_drawn_92 ?_
                refine lv_iconst (v := 0) hx hb dX11_drawn_95 rfl ?_
                obtain ⟨h16, hf⟩ := gdI_some hf
                refine va_lald hx hb hC.1 hP 2 1 rfl rfl h16 dX11_drawn_96 ?_
                obtain ⟨h17, hf⟩ := gdL_some hf
                refine lv_lrem hx hb dX11_drawn_97 h17 ?_
                refine lv_l2i hx hb dX11_drawn_98 rfl ?_
                refine lv_imul hx hb dX11_drawn_99 ?_
                refine lv_iadd hx hb dX11_drawn_100 ?_
                refine lv_iconst (v := 2) hx hb dX11_drawn_101 rfl ?_
                refine lv_iadd hx hb dX11_drawn_102 ?_
                refine lv_topi (fun r18 e18 => ?_)
                have hf := bt_nm hf e18
                refine lv_istore (lv' := [(8, .int r18), (4, .long r14), (0, .ref (a0 0)), (1, .int p1), (3, .int p3), (6, .int q7.2.1), (7, .int q7.2.2.1)]) hx hb dX11_drawn_103 hl (by decide) rfl (fun ls hl => ?_)
                refine lv_aload_n hx hb dX11_drawn_105 rfl (lv_at hl 2 rfl) ?_
                refine va_get (D := E.1) (ci := 9) (v := .ref (a0 2)) (C := RX11) (T := TX11) (N := 17) hx hb hts w10 hown hC.1 hP 0 rfl rfl 1 (by decide) w9 (fun _ h9 => h9) rfl dX11_drawn_106 ?_
                refine lv_iload hx hb dX11_drawn_109 (lv_at hl 0 rfl) ?_
                refine lv_dup2_11 hx hb dX11_drawn_111 rfl rfl ?_
                obtain ⟨h19, hf⟩ := gdI_some hf
                refine va_lald hx hb hC.1 hP 2 1 rfl rfl h19 dX11_drawn_112 ?_
                refine lv_aload_n hx hb dX11_drawn_113 rfl (lv_at hl 2 rfl) ?_
                refine va_get (D := E.1) (ci := 9) (v := .ref (a0 2)) (C := RX11) (T := TX11) (N := 17) hx hb hts w10 hown hC.1 hP 0 rfl rfl 1 (by decide) w9 (fun _ h9 => h9) rfl dX11_drawn_114 ?_
                refine lv_iload hx hb dX11_drawn_117 (lv_at hl 0 rfl) ?_
                obtain ⟨h20, hf⟩ := gdI_some hf
                refine va_lald hx hb hC.1 hP 2 1 rfl rfl h20 dX11_drawn_119 ?_
                refine lv_ldc2 hx hb hown w11 dX11_drawn_120 ?_
                refine W.lcmp hx hb dX11_drawn_123 ?_
                obtain ⟨q21, e21, hf⟩ := bt_eq hf
                have J21 : W p l e (headSpec wsX11_drawn rmX11_drawn).room s m args below meth c H locs 0 0 Q (F0 m 132 ls [.long q21, .long (q7.2.2.2.2.1 r18.toNatClampNeg), .int r18, .ref (a0 2)]) := by
                  refine lv_ladd hx hb dX11_drawn_132 ?_
                  obtain ⟨h22, hf⟩ := gdI_some hf
                  refine va_last hx hb hC.1 hP hD hS 2 1 rfl rfl h22 dX11_drawn_133 (fun H locs hP hD hS => ?_)
                  have hP : va_P E.1 vwCl (wMD E a0 (q7.2.2.2.1, (vp_updL q7.2.2.2.2.1 r18.toNatClampNeg ((q7.2.2.2.2.1 r18.toNatClampNeg) + q21)), q7.2.2.2.2.2.1, q7.2.2.2.2.2.2.1, q7.2.2.2.2.2.2.2.1, q7.2.2.2.2.2.2.2.2.1, q7.2.2.2.2.2.2.2.2.2.1, q7.2.2.2.2.2.2.2.2.2.2.1, q7.2.2.2.2.2.2.2.2.2.2.2.1, q7.2.2.2.2.2.2.2.2.2.2.2.2.1, q7.2.2.2.2.2.2.2.2.2.2.2.2.2.1, q7.2.2.2.2.2.2.2.2.2.2.2.2.2.2.1, q7.2.2.2.2.2.2.2.2.2.2.2.2.2.2.2.1, q7.2.2.2.2.2.2.2.2.2.2.2.2.2.2.2.2.1, q7.2.2.2.2.2.2.2.2.2.2.2.2.2.2.2.2.2.1, q7.2.2.2.2.2.2.2.2.2.2.2.2.2.2.2.2.2.2.1, q7.2.2.2.2.2.2.2.2.2.2.2.2.2.2.2.2.2.2.2)) H := hP
                  have hD : va_D A (wMD E a0 (q7.2.2.2.1, (vp_updL q7.2.2.2.2.1 r18.toNatClampNeg ((q7.2.2.2.2.1 r18.toNatClampNeg) + q21)), q7.2.2.2.2.2.1, q7.2.2.2.2.2.2.1, q7.2.2.2.2.2.2.2.1, q7.2.2.2.2.2.2.2.2.1, q7.2.2.2.2.2.2.2.2.2.1, q7.2.2.2.2.2.2.2.2.2.2.1, q7.2.2.2.2.2.2.2.2.2.2.2.1, q7.2.2.2.2.2.2.2.2.2.2.2.2.1, q7.2.2.2.2.2.2.2.2.2.2.2.2.2.1, q7.2.2.2.2.2.2.2.2.2.2.2.2.2.2.1, q7.2.2.2.2.2.2.2.2.2.2.2.2.2.2.2.1, q7.2.2.2.2.2.2.2.2.2.2.2.2.2.2.2.2.1, q7.2.2.2.2.2.2.2.2.2.2.2.2.2.2.2.2.2.1, q7.2.2.2.2.2.2.2.2.2.2.2.2.2.2.2.2.2.2.1, q7.2.2.2.2.2.2.2.2.2.2.2.2.2.2.2.2.2.2.2)) := hD
                  refine lv_lload hx hb dX11_drawn_134 (lv_at hl 1 rfl) ?_
                  refine lv_ldc2 hx hb hown w12 dX11_drawn_136 ?_
                  obtain ⟨h23, hf⟩ := gdL_some hf
                  refine lv_lrem hx hb dX11_drawn_139 h23 ?_
                  refine lv_l2i hx hb dX11_drawn_140 rfl ?_
                  refine lv_topi (fun r24 e24 => ?_)
                  have hf := bt_nm hf e24
                  refine lv_istore (lv' := [(9, .int r24), (8, .int r18), (4, .long r14), (0, .ref (a0 0)), (1, .int p1), (3, .int p3), (6, .int q7.2.1), (7, .int q7.2.2.1)]) hx hb dX11_drawn_141 hl (by decide) rfl (fun ls hl => ?_)
                  refine lv_aload_n hx hb dX11_drawn_143 rfl (lv_at hl 3 rfl) ?_
                  refine va_get (D := E.1) (ci := 9) (v := .ref (a0 2)) (C := RX11) (T := TX11) (N := 17) hx hb hts w10 hown hC.1 hP 0 rfl rfl 1 (by decide) w9 (fun _ h9 => h9) rfl dX11_drawn_144 ?_
                  refine lv_bipush (v := 22) hx hb dX11_drawn_147 rfl ?_
                  refine lv_bipush (v := 8) hx hb dX11_drawn_149 rfl ?_
                  refine lv_iload hx hb dX11_drawn_151 (lv_at hl 0 rfl) ?_
                  refine lv_imul hx hb dX11_drawn_153 ?_
                  refine lv_iadd hx hb dX11_drawn_154 ?_
                  refine lv_iconst (v := 0) hx hb dX11_drawn_155 rfl ?_
                  refine lv_iadd hx hb dX11_drawn_156 ?_
                  obtain ⟨h25, hf⟩ := gdI_some hf
                  refine va_lald hx hb hC.1 hP 2 1 rfl rfl h25 dX11_drawn_157 ?_
                  refine lv_lconst (v := 1) hx hb dX11_drawn_158 rfl ?_
                  refine W.lcmp hx hb dX11_drawn_159 ?_
                  refine lv_if_ne (tgt := 244) hx hb dX11_drawn_160 rfl (fun c26 => ?_) (fun c26 => ?_)
                  · have hf := it_f hf c26
                    refine lv_iinc (v := (q7.2.2.1 + 1)) (lv' := [(7, .int (q7.2.2.1 + 1)), (9, .int r24), (8, .int r18), (4, .long r14), (0, .ref (a0 0)), (1, .int p1), (3, .int p3), (6, .int q7.2.1)]) hx hb dX11_drawn_244 hl (k := 7) rfl rfl (by decide) rfl (fun ls hl => ?_)
                    refine lv_goto (tgt := 64) hx hb dX11_drawn_247 rfl ?_
                    exact ih7 (r14, q7.2.1, (q7.2.2.1 + 1), (q7.2.2.2.1, (vp_updL q7.2.2.2.2.1 r18.toNatClampNeg ((q7.2.2.2.2.1 r18.toNatClampNeg) + q21)), q7.2.2.2.2.2.1, q7.2.2.2.2.2.2.1, q7.2.2.2.2.2.2.2.1, q7.2.2.2.2.2.2.2.2.1, q7.2.2.2.2.2.2.2.2.2.1, q7.2.2.2.2.2.2.2.2.2.2.1, q7.2.2.2.2.2.2.2.2.2.2.2.1, q7.2.2.2.2.2.2.2.2.2.2.2.2.1, q7.2.2.2.2.2.2.2.2.2.2.2.2.2.1, q7.2.2.2.2.2.2.2.2.2.2.2.2.2.2.1, q7.2.2.2.2.2.2.2.2.2.2.2.2.2.2.2.1, q7.2.2.2.2.2.2.2.2.2.2.2.2.2.2.2.2.1, q7.2.2.2.2.2.2.2.2.2.2.2.2.2.2.2.2.2.1, q7.2.2.2.2.2.2.2.2.2.2.2.2.2.2.2.2.2.2.1, q7.2.2.2.2.2.2.2.2.2.2.2.2.2.2.2.2.2.2.2)) H locs hP hD hS ls (lv_sub hl [4, 5, 6, 3, 7, 0] rfl) hf
                  · have hf := it_t hf c26
                    refine lv_aload_n hx hb dX11_drawn_163 rfl (lv_at hl 3 rfl) ?_
                    refine lv_iconst (v := 1) hx hb dX11_drawn_164 rfl ?_
                    refine lv_lload hx hb dX11_drawn_165 (lv_at hl 2 rfl) ?_
                    refine lv_ldc2 hx hb hown w13 dX11_drawn_167 ?_
                    obtain ⟨h27, hf⟩ := gdL_some hf
                    refine lv_ldiv hx hb dX11_drawn_170 h27 ?_
                    refine lv_aload_n hx hb dX11_drawn_171 rfl (lv_at hl 3 rfl) ?_
                    refine va_get (D := E.1) (ci := 9) (v := .ref (a0 2)) (C := RX11) (T := TX11) (N := 17) hx hb hts w10 hown hC.1 hP 0 rfl rfl 1 (by decide) w9 (fun _ h9 => h9) rfl dX11_drawn_172 ?_
                    refine lv_iconst (v := 2) hx hb dX11_drawn_175 rfl ?_
                    obtain ⟨h28, hf⟩ := gdI_some hf
                    refine va_lald hx hb hC.1 hP 2 1 rfl rfl h28 dX11_drawn_176 ?_
                    obtain ⟨h29, hf⟩ := gdL_some hf
                    refine lv_lrem hx hb dX11_drawn_177 h29 ?_
                    refine lv_l2i hx hb dX11_drawn_178 rfl ?_
                    refine lv_iadd hx hb dX11_drawn_179 ?_
                    refine va_put (D := E.1) (ci := 9) (v := .int ((1 : Int32) + ((r14 / ((8) : Int64)) - (r14 / ((8) : Int64)) / ((vp_updL q7.2.2.2.2.1 r18.toNatClampNeg ((q7.2.2.2.2.1 r18.toNatClampNeg) + q21)) (2 : Int32).toNatClampNeg) * ((vp_updL q7.2.2.2.2.1 r18.toNatClampNeg ((q7.2.2.2.2.1 r18.toNatClampNeg) + q21)) (2 : Int32).toNatClampNeg)).toInt32)) (ty := .int) (C := RX11) (T := TX11) (N := 17) hx hb hts w10 tyX11 tyX11_ok nmX11 hown hC.1 hP hD hS 0 rfl rfl 16 (by decide) w14 (fun _ h9 => h9) rfl (by decide +kernel) rfl rfl (Nat.le_of_ble_eq_true rfl) dX11_drawn_180 (fun H locs hP hD hS => ?_)
                    have hP : va_P E.1 vwCl (wMD E a0 (q7.2.2.2.1, (vp_updL q7.2.2.2.2.1 r18.toNatClampNeg ((q7.2.2.2.2.1 r18.toNatClampNeg) + q21)), q7.2.2.2.2.2.1, q7.2.2.2.2.2.2.1, q7.2.2.2.2.2.2.2.1, q7.2.2.2.2.2.2.2.2.1, q7.2.2.2.2.2.2.2.2.2.1, q7.2.2.2.2.2.2.2.2.2.2.1, q7.2.2.2.2.2.2.2.2.2.2.2.1, q7.2.2.2.2.2.2.2.2.2.2.2.2.1, q7.2.2.2.2.2.2.2.2.2.2.2.2.2.1, q7.2.2.2.2.2.2.2.2.2.2.2.2.2.2.1, q7.2.2.2.2.2.2.2.2.2.2.2.2.2.2.2.1, q7.2.2.2.2.2.2.2.2.2.2.2.2.2.2.2.2.1, q7.2.2.2.2.2.2.2.2.2.2.2.2.2.2.2.2.2.1, q7.2.2.2.2.2.2.2.2.2.2.2.2.2.2.2.2.2.2.1, ((1 : Int32) + ((r14 / ((8) : Int64)) - (r14 / ((8) : Int64)) / ((vp_updL q7.2.2.2.2.1 r18.toNatClampNeg ((q7.2.2.2.2.1 r18.toNatClampNeg) + q21)) (2 : Int32).toNatClampNeg) * ((vp_updL q7.2.2.2.2.1 r18.toNatClampNeg ((q7.2.2.2.2.1 r18.toNatClampNeg) + q21)) (2 : Int32).toNatClampNeg)).toInt32))) H := hP
                    have hD : va_D A (wMD E a0 (q7.2.2.2.1, (vp_updL q7.2.2.2.2.1 r18.toNatClampNeg ((q7.2.2.2.2.1 r18.toNatClampNeg) + q21)), q7.2.2.2.2.2.1, q7.2.2.2.2.2.2.1, q7.2.2.2.2.2.2.2.1, q7.2.2.2.2.2.2.2.2.1, q7.2.2.2.2.2.2.2.2.2.1, q7.2.2.2.2.2.2.2.2.2.2.1, q7.2.2.2.2.2.2.2.2.2.2.2.1, q7.2.2.2.2.2.2.2.2.2.2.2.2.1, q7.2.2.2.2.2.2.2.2.2.2.2.2.2.1, q7.2.2.2.2.2.2.2.2.2.2.2.2.2.2.1, q7.2.2.2.2.2.2.2.2.2.2.2.2.2.2.2.1, q7.2.2.2.2.2.2.2.2.2.2.2.2.2.2.2.2.1, q7.2.2.2.2.2.2.2.2.2.2.2.2.2.2.2.2.2.1, q7.2.2.2.2.2.2.2.2.2.2.2.2.2.2.2.2.2.2.1, ((1 : Int32) + ((r14 / ((8) : Int64)) - (r14 / ((8) : Int64)) / ((vp_updL q7.2.2.2.2.1 r18.toNatClampNeg ((q7.2.2.2.2.1 r18.toNatClampNeg) + q21)) (2 : Int32).toNatClampNeg) * ((vp_updL q7.2.2.2.2.1 r18.toNatClampNeg ((q7.2.2.2.2.1 r18.toNatClampNeg) + q21)) (2 : Int32).toNatClampNeg)).toInt32))) := hD
                    refine lv_iconst (v := 0) hx hb dX11_drawn_183 rfl ?_
                    refine lv_istore (lv' := [(10, .int (0 : Int32)), (9, .int r24), (8, .int r18), (4, .long r14), (0, .ref (a0 0)), (1, .int p1), (3, .int p3), (6, .int q7.2.1), (7, .int q7.2.2.1)]) hx hb dX11_drawn_184 hl (by decide) rfl (fun ls hl => ?_)
                    obtain ⟨K30, hK30, hf⟩ := jn_some hf
                    have J30 : ∀ (q30 : Int32 × MD) (H : Heap) (locs : List Loc) (hP : va_P E.1 vwCl (wMD E a0 q30.2) H) (hD : va_D A (wMD E a0 q30.2)) (hS : va_S A s.heap H locs) (ls : Array Slot) (hl : lv_has ls 11 [(0, .ref (a0 0)), (1, .int p1), (3, .int p3), (4, .long r14), (6, .int q7.2.1), (7, .int q7.2.2.1), (9, .int r24)]) (hf : K30 q30 = some x), W p l e (headSpec wsX11_drawn rmX11_drawn).room s m args below meth c H locs 0 0 Q (F0 m 221 ls []) := by
                      intro q30 H locs hP hD hS ls hl hf
                      have hf := (hK30 q30).trans hf
                      refine lv_iload hx hb dX11_drawn_221 (lv_at hl 4 rfl) ?_
                      refine lv_aload_n hx hb dX11_drawn_223 rfl (lv_at hl 0 rfl) ?_
                      refine lv_aload_n hx hb dX11_drawn_224 rfl (lv_at hl 0 rfl) ?_
                      refine va_get (D := E.1) (ci := 9) (v := .ref (a0 2)) (C := RX11) (T := TX11) (N := 17) hx hb hts w10 hown hC.1 hP 0 rfl rfl 1 (by decide) w9 (fun _ h9 => h9) rfl dX11_drawn_225 ?_
                      refine lv_iload hx hb dX11_drawn_228 (lv_at hl 6 rfl) ?_
                      obtain ⟨r31, e31, hf⟩ := bd_some hf
                      refine cq_i hP hD hS [0, 7, 2] [1, 3, 4, 5, 6] [5, 0, 7, 1, 2, 3, 4, 6] (va_free (wc := (wMR E a0 q30.2 ++ wLA E (a0 2) 340 q30.2.2.1)) hD hS hA [0, 7, 2] rfl) (va_runV (As := [.ref (a0 2), .int r24]) (rest := [.int q7.2.1]) ⟨hx, hb, hml, hown, hts⟩ (c_X11_appends l E H.size a0 q30.2 (a0 2) q30.2.2.1 r24 r31 e31) (cwV 2 hts gX11_drawn_X11_appends rfl rfl rfl hdV_X11_appends ⟨Nat.le_of_ble_eq_true rfl, Nat.le_of_ble_eq_true rfl⟩) ⟨PW.blind, va_recv hC.1 hP (ci := 9) (q0 := 0) rfl rfl, PW.pre hC hS (hP.sub [0, 7, 2] rfl) (hD.sub [0, 7, 2] rfl rfl) (va_free hD hS hA [0, 7, 2] rfl)⟩ rfl rfl hl.1 rfl (lv_room (Nat.le_of_ble_eq_true rfl)) dX11_drawn_230 ⟨Nat.le_of_ble_eq_true rfl, Nat.le_of_ble_eq_true rfl⟩) rfl rfl rfl rfl (wMD E a0 (q30.2.1, r31.2, q30.2.2.2.1, q30.2.2.2.2.1, q30.2.2.2.2.2.1, q30.2.2.2.2.2.2.1, q30.2.2.2.2.2.2.2.1, q30.2.2.2.2.2.2.2.2.1, q30.2.2.2.2.2.2.2.2.2.1, q30.2.2.2.2.2.2.2.2.2.2.1, q30.2.2.2.2.2.2.2.2.2.2.2.1, q30.2.2.2.2.2.2.2.2.2.2.2.2.1, q30.2.2.2.2.2.2.2.2.2.2.2.2.2.1, q30.2.2.2.2.2.2.2.2.2.2.2.2.2.2.1, q30.2.2.2.2.2.2.2.2.2.2.2.2.2.2.2.1, q30.2.2.2.2.2.2.2.2.2.2.2.2.2.2.2.2.1, q30.2.2.2.2.2.2.2.2.2.2.2.2.2.2.2.2.2)) rfl rfl (fun H locs hP hD hS => ?_)
                      refine lv_if_lt (tgt := 240) hx hb dX11_drawn_233 rfl (fun c32 => ?_) (fun c32 => ?_)
                      · have hf := it_t hf c32
                        refine lv_iconst (v := 0) hx hb dX11_drawn_240 rfl ?_
                        refine lv_iadd hx hb dX11_drawn_241 ?_
                        refine lv_istore (lv' := [(6, .int (q7.2.1 + (0 : Int32))), (0, .ref (a0 0)), (1, .int p1), (3, .int p3), (4, .long r14), (7, .int q7.2.2.1), (9, .int r24)]) hx hb dX11_drawn_242 hl (by decide) rfl (fun ls hl => ?_)
                        refine lv_iinc (v := (q7.2.2.1 + 1)) (lv' := [(7, .int (q7.2.2.1 + 1)), (6, .int (q7.2.1 + (0 : Int32))), (0, .ref (a0 0)), (1, .int p1), (3, .int p3), (4, .long r14), (9, .int r24)]) hx hb dX11_drawn_244 hl (k := 5) rfl rfl (by decide) rfl (fun ls hl => ?_)
                        refine lv_goto (tgt := 64) hx hb dX11_drawn_247 rfl ?_
                        exact ih7 (r14, (q7.2.1 + (0 : Int32)), (q7.2.2.1 + 1), (q30.2.1, r31.2, q30.2.2.2.1, q30.2.2.2.2.1, q30.2.2.2.2.2.1, q30.2.2.2.2.2.2.1, q30.2.2.2.2.2.2.2.1, q30.2.2.2.2.2.2.2.2.1, q30.2.2.2.2.2.2.2.2.2.1, q30.2.2.2.2.2.2.2.2.2.2.1, q30.2.2.2.2.2.2.2.2.2.2.2.1, q30.2.2.2.2.2.2.2.2.2.2.2.2.1, q30.2.2.2.2.2.2.2.2.2.2.2.2.2.1, q30.2.2.2.2.2.2.2.2.2.2.2.2.2.2.1, q30.2.2.2.2.2.2.2.2.2.2.2.2.2.2.2.1, q30.2.2.2.2.2.2.2.2.2.2.2.2.2.2.2.2.1, q30.2.2.2.2.2.2.2.2.2.2.2.2.2.2.2.2.2)) H locs hP hD hS ls (lv_sub hl [2, 3, 4, 5, 1, 0] rfl) hf
                      · have hf := it_f hf c32
                        refine lv_iconst (v := 1) hx hb dX11_drawn_236 rfl ?_
                        refine lv_goto (tgt := 241) hx hb dX11_drawn_237 rfl ?_
                        refine lv_iadd hx hb dX11_drawn_241 ?_
                        refine lv_istore (lv' := [(6, .int (q7.2.1 + (1 : Int32))), (0, .ref (a0 0)), (1, .int p1), (3, .int p3), (4, .long r14), (7, .int q7.2.2.1), (9, .int r24)]) hx hb dX11_drawn_242 hl (by decide) rfl (fun ls hl => ?_)
                        refine lv_iinc (v := (q7.2.2.1 + 1)) (lv' := [(7, .int (q7.2.2.1 + 1)), (6, .int (q7.2.1 + (1 : Int32))), (0, .ref (a0 0)), (1, .int p1), (3, .int p3), (4, .long r14), (9, .int r24)]) hx hb dX11_drawn_244 hl (k := 5) rfl rfl (by decide) rfl (fun ls hl => ?_)
                        refine lv_goto (tgt := 64) hx hb dX11_drawn_247 rfl ?_
                        exact ih7 (r14, (q7.2.1 + (1 : Int32)), (q7.2.2.1 + 1), (q30.2.1, r31.2, q30.2.2.2.1, q30.2.2.2.2.1, q30.2.2.2.2.2.1, q30.2.2.2.2.2.2.1, q30.2.2.2.2.2.2.2.1, q30.2.2.2.2.2.2.2.2.1, q30.2.2.2.2.2.2.2.2.2.1, q30.2.2.2.2.2.2.2.2.2.2.1, q30.2.2.2.2.2.2.2.2.2.2.2.1, q30.2.2.2.2.2.2.2.2.2.2.2.2.1, q30.2.2.2.2.2.2.2.2.2.2.2.2.2.1, q30.2.2.2.2.2.2.2.2.2.2.2.2.2.2.1, q30.2.2.2.2.2.2.2.2.2.2.2.2.2.2.2.1, q30.2.2.2.2.2.2.2.2.2.2.2.2.2.2.2.2.1, q30.2.2.2.2.2.2.2.2.2.2.2.2.2.2.2.2.2)) H locs hP hD hS ls (lv_sub hl [2, 3, 4, 5, 1, 0] rfl) hf
                    have L30 : ∀ (n : Nat) (q30 : Int32 × MD) (H : Heap) (locs : List Loc) (hP : va_P E.1 vwCl (wMD E a0 q30.2) H) (hD : va_D A (wMD E a0 q30.2)) (hS : va_S A s.heap H locs) (ls : Array Slot) (hl : lv_has ls 11 [(0, .ref (a0 0)), (1, .int p1), (3, .int p3), (4, .long r14), (6, .int q7.2.1), (7, .int q7.2.2.1), (9, .int r24), (10, .int q30.1)]) (hf : lpF (bX11_drawn_30 r14 K30) n q30 = some x), W p l e (headSpec wsX11_drawn rmX11_drawn).room s m args below meth c H locs 0 0 Q (F0 m 186 ls []) := by
                      intro n
                      induction n with
                      | zero => intro q30 H locs hP hD hS ls hl hf; exact (lpF_zero hf).elim
                      | succ n ih30 =>
                        intro q30 H locs hP hD hS ls hl hf
                        have hf := lpF_succ hf
                        unfold bX11_drawn_30 at hf
                        refine lv_iload hx hb dX11_drawn_186 (lv_at hl 7 rfl) ?_
                        refine lv_aload_n hx hb dX11_drawn_188 rfl (lv_at hl 0 rfl) ?_
                        refine va_get (D := E.1) (ci := 9) (v := .int q30.2.2.2.2.2.2.2.2.2.2.2.2.2.2.2.2.2) (C := RX11) (T := TX11) (N := 17) hx hb hts w10 hown hC.1 hP 0 rfl rfl 16 (by decide) w14 (fun _ h9 => h9) rfl dX11_drawn_189 ?_
                        refine lv_icmp_ge (tgt := 221) hx hb dX11_drawn_192 rfl (fun c33 => ?_) (fun c33 => ?_)
                        · have hf := it_t hf c33
                          exact J30 (q30.1, q30.2) H locs hP hD hS ls (lv_sub hl [0, 1, 2, 3, 4, 5, 6] rfl) hf
                        · have hf := it_f hf c33
                          refine lv_aload_n hx hb dX11_drawn_195 rfl (lv_at hl 0 rfl) ?_
                          refine va_get (D := E.1) (ci := 9) (v := .ref (a0 7)) (C := RX11) (T := TX11) (N := 17) hx hb hts w10 hown hC.1 hP 0 rfl rfl 15 (by decide) w15 (fun _ h9 => h9) rfl dX11_drawn_196 ?_
                          refine lv_iload hx hb dX11_drawn_199 (lv_at hl 7 rfl) ?_
                          refine lv_iconst (v := 1) hx hb dX11_drawn_201 rfl ?_
                          refine lv_lload hx hb dX11_drawn_202 (lv_at hl 3 rfl) ?_
                          refine lv_ldc2 hx hb hown w16 dX11_drawn_204 ?_
                          obtain ⟨h34, hf⟩ := gdL_some hf
                          refine lv_ldiv hx hb dX11_drawn_207 h34 ?_
                          refine lv_ldc2 hx hb hown w17 dX11_drawn_208 ?_
                          obtain ⟨h35, hf⟩ := gdL_some hf
                          refine lv_lrem hx hb dX11_drawn_211 h35 ?_
                          refine lv_l2i hx hb dX11_drawn_212 rfl ?_
                          refine lv_iadd hx hb dX11_drawn_213 ?_
                          obtain ⟨h36, hf⟩ := gdI_some hf
                          refine va_iast hx hb hC.1 hP hD hS 7 0 rfl rfl h36 dX11_drawn_214 (fun H locs hP hD hS => ?_)
                          have hP : va_P E.1 vwCl (wMD E a0 (q30.2.1, q30.2.2.1, q30.2.2.2.1, q30.2.2.2.2.1, q30.2.2.2.2.2.1, q30.2.2.2.2.2.2.1, q30.2.2.2.2.2.2.2.1, q30.2.2.2.2.2.2.2.2.1, q30.2.2.2.2.2.2.2.2.2.1, q30.2.2.2.2.2.2.2.2.2.2.1, q30.2.2.2.2.2.2.2.2.2.2.2.1, q30.2.2.2.2.2.2.2.2.2.2.2.2.1, q30.2.2.2.2.2.2.2.2.2.2.2.2.2.1, q30.2.2.2.2.2.2.2.2.2.2.2.2.2.2.1, q30.2.2.2.2.2.2.2.2.2.2.2.2.2.2.2.1, (upd q30.2.2.2.2.2.2.2.2.2.2.2.2.2.2.2.2.1 q30.1.toNatClampNeg ((1 : Int32) + ((r14 / ((64) : Int64)) - (r14 / ((64) : Int64)) / ((26) : Int64) * ((26) : Int64)).toInt32)), q30.2.2.2.2.2.2.2.2.2.2.2.2.2.2.2.2.2)) H := hP
                          have hD : va_D A (wMD E a0 (q30.2.1, q30.2.2.1, q30.2.2.2.1, q30.2.2.2.2.1, q30.2.2.2.2.2.1, q30.2.2.2.2.2.2.1, q30.2.2.2.2.2.2.2.1, q30.2.2.2.2.2.2.2.2.1, q30.2.2.2.2.2.2.2.2.2.1, q30.2.2.2.2.2.2.2.2.2.2.1, q30.2.2.2.2.2.2.2.2.2.2.2.1, q30.2.2.2.2.2.2.2.2.2.2.2.2.1, q30.2.2.2.2.2.2.2.2.2.2.2.2.2.1, q30.2.2.2.2.2.2.2.2.2.2.2.2.2.2.1, q30.2.2.2.2.2.2.2.2.2.2.2.2.2.2.2.1, (upd q30.2.2.2.2.2.2.2.2.2.2.2.2.2.2.2.2.1 q30.1.toNatClampNeg ((1 : Int32) + ((r14 / ((64) : Int64)) - (r14 / ((64) : Int64)) / ((26) : Int64) * ((26) : Int64)).toInt32)), q30.2.2.2.2.2.2.2.2.2.2.2.2.2.2.2.2.2)) := hD
                          refine lv_iinc (v := (q30.1 + 1)) (lv' := [(10, .int (q30.1 + 1)), (0, .ref (a0 0)), (1, .int p1), (3, .int p3), (4, .long r14), (6, .int q7.2.1), (7, .int q7.2.2.1), (9, .int r24)]) hx hb dX11_drawn_215 hl (k := 7) rfl rfl (by decide) rfl (fun ls hl => ?_)
                          refine lv_goto (tgt := 186) hx hb dX11_drawn_218 rfl ?_
                          exact ih30 ((q30.1 + 1), (q30.2.1, q30.2.2.1, q30.2.2.2.1, q30.2.2.2.2.1, q30.2.2.2.2.2.1, q30.2.2.2.2.2.2.1, q30.2.2.2.2.2.2.2.1, q30.2.2.2.2.2.2.2.2.1, q30.2.2.2.2.2.2.2.2.2.1, q30.2.2.2.2.2.2.2.2.2.2.1, q30.2.2.2.2.2.2.2.2.2.2.2.1, q30.2.2.2.2.2.2.2.2.2.2.2.2.1, q30.2.2.2.2.2.2.2.2.2.2.2.2.2.1, q30.2.2.2.2.2.2.2.2.2.2.2.2.2.2.1, q30.2.2.2.2.2.2.2.2.2.2.2.2.2.2.2.1, (upd q30.2.2.2.2.2.2.2.2.2.2.2.2.2.2.2.2.1 q30.1.toNatClampNeg ((1 : Int32) + ((r14 / ((64) : Int64)) - (r14 / ((64) : Int64)) / ((26) : Int64) * ((26) : Int64)).toInt32)), q30.2.2.2.2.2.2.2.2.2.2.2.2.2.2.2.2.2)) H locs hP hD hS ls (lv_sub hl [1, 2, 3, 4, 5, 6, 7, 0] rfl) hf
                    exact L30 FU ((0 : Int32), (q7.2.2.2.1, (vp_updL q7.2.2.2.2.1 r18.toNatClampNeg ((q7.2.2.2.2.1 r18.toNatClampNeg) + q21)), q7.2.2.2.2.2.1, q7.2.2.2.2.2.2.1, q7.2.2.2.2.2.2.2.1, q7.2.2.2.2.2.2.2.2.1, q7.2.2.2.2.2.2.2.2.2.1, q7.2.2.2.2.2.2.2.2.2.2.1, q7.2.2.2.2.2.2.2.2.2.2.2.1, q7.2.2.2.2.2.2.2.2.2.2.2.2.1, q7.2.2.2.2.2.2.2.2.2.2.2.2.2.1, q7.2.2.2.2.2.2.2.2.2.2.2.2.2.2.1, q7.2.2.2.2.2.2.2.2.2.2.2.2.2.2.2.1, q7.2.2.2.2.2.2.2.2.2.2.2.2.2.2.2.2.1, q7.2.2.2.2.2.2.2.2.2.2.2.2.2.2.2.2.2.1, q7.2.2.2.2.2.2.2.2.2.2.2.2.2.2.2.2.2.2.1, ((1 : Int32) + ((r14 / ((8) : Int64)) - (r14 / ((8) : Int64)) / ((vp_updL q7.2.2.2.2.1 r18.toNatClampNeg ((q7.2.2.2.2.1 r18.toNatClampNeg) + q21)) (2 : Int32).toNatClampNeg) * ((vp_updL q7.2.2.2.2.1 r18.toNatClampNeg ((q7.2.2.2.2.1 r18.toNatClampNeg) + q21)) (2 : Int32).toNatClampNeg)).toInt32))) H locs hP hD hS ls (lv_sub hl [4, 5, 6, 3, 7, 8, 1, 0] rfl) hf
                have hf := e21
                refine lv_if_ge (tgt := 131) hx hb dX11_drawn_124 rfl (fun c37 => ?_) (fun c37 => ?_)
                · have hf := it_t hf c37
                  refine lv_lconst (v := 0) hx hb dX11_drawn_131 rfl ?_
                  cases hf
                  exact J21
                · have hf := it_f hf c37
                  refine lv_lconst (v := 1) hx hb dX11_drawn_127 rfl ?_
                  refine lv_goto (tgt := 132) hx hb dX11_drawn_128 rfl ?_
                  cases hf
                  exact J21
          exact L7 FU (p2.toInt64, (0 : Int32), (0 : Int32), r6) H locs hP hD hS ls (lv_sub hl [3, 4, 6, 2, 1, 0] rfl) hf
        · have hf := it_t hf c5
          refine lv_ldc hx hb hown w3 dX11_drawn_47 ?_
          cases Option.some.inj hf
          subst hQe
          exact ew_i (wf := (fun q : MD => wMD E a0 q)) hx hb hr hlocks hP hD hS dX11_drawn_49
  · have hf := it_t hf c2
    refine lv_ldcw hx hb hown w1 dX11_drawn_7 ?_
    cases Option.some.inj hf
    subst hQe
    exact ew_i (wf := (fun q : MD => wMD E a0 q)) hx hb hr hlocks hP hD hS dX11_drawn_10
