/-! X11_puts -/
abbrev rmX11_puts : Room := { frames := 5, cells := 0, slots := 0, locals := 115 }
theorem hdS_X11_puts : yX11_puts.cls ≠ "java/lang/invoke/MethodHandle" ∧ yX11_puts.cls ≠ "java/lang/invoke/VarHandle" ∧ (parseMethodDescriptor yX11_puts.desc).map (fun d => d.parameters.length) = some 4 := by decide +kernel
set_option maxHeartbeats 4000000 in
set_option maxRecDepth 100000 in
theorem c_X11_puts (l : Launch) (E : G0) (sz : Nat) (a0 : Nat) (v0 : (Nat → Int64)) (p1 : Int32) (p2 : Int32) (p3 : Int32) (x : Int32 × (Nat → Int64)) (hf : f_X11_puts v0 p1 p2 p3 = some x) : Met l yX11_puts wsX11_puts rmX11_puts (va_Pc [.ref a0, .int p1, .int p2, .int p3] (PW E (wLA E a0 340 v0) sz)) (va_Qi (fun r q => r = x.1 ∧ q = x.2) (fun q t => va_P E.1 vwCl ((fun q : (Nat → Int64) => wLA E a0 340 q) q) t.heap ∧ va_D (va_A (wLA E a0 340 v0) sz) ((fun q : (Nat → Int64) => wLA E a0 340 q) q)) (va_A (wLA E a0 340 v0) sz)) 0 0 (va_A (wLA E a0 340 v0) sz) := by
  refine Met.ofW (cc := cX11_puts) (maxL := 14) (ret := some .int) (by decide) rfl ?_
  intro p e s m args below meth c s₁ B hml hv
  obtain ⟨ha, hsz, hP, hD0, hC⟩ := hv
  have hx := B.exec
  have hb := B.bytes
  have hr := B.returns
  have hts := atoms_spec (ws := wsX11_puts) B.pre
  have hown : s.vm.findClass RX11 = some m.cls := findClass_of_methodNamed B.named
  have hlocks := B.notSynchronized
  subst hsz
  have hD := hD0.self (sz := s.heap.size)
  generalize hAe : va_A (wLA E a0 340 v0) s.heap.size = A at hD hC ⊢
  have hA : ∀ q : Nat, s.heap.size ≤ q → A q := fun q h => by rw [← hAe]; exact Or.inr h
  have hS : va_S A s.heap s.heap [] := va_S.rf
  have w1 : (Cond.constant RX11 107 (-1000004)).before args s = true := hts _ (List.mem_of_getElem? (i := 1) rfl)
  generalize hQe : MQ below (va_Qi (fun r q => r = x.1 ∧ q = x.2) (fun q t => va_P E.1 vwCl ((fun q : (Nat → Int64) => wLA E a0 340 q) q) t.heap ∧ va_D A ((fun q : (Nat → Int64) => wLA E a0 340 q) q)) A) args s 0 0 A = Q
  refine st_W ha (Nat.le_of_ble_eq_true rfl) (fun ls hl => ?_)
  have hl : lv_has ls 14 [(0, .ref a0), (1, .int p1), (2, .int p2), (3, .int p3)] := hl
  unfold f_X11_puts at hf
  refine lv_iload_n hx hb dX11_puts_0 rfl (lv_at hl 2 rfl) ?_
  refine lv_aload_n hx hb dX11_puts_1 rfl (lv_at hl 0 rfl) ?_
  refine lv_iconst (v := 2) hx hb dX11_puts_2 rfl ?_
  obtain ⟨h1, hf⟩ := gdI_some hf
  refine va_lald hx hb hC.1 hP 0 1 rfl rfl h1 dX11_puts_3 ?_
  refine lv_l2i hx hb dX11_puts_4 rfl ?_
  obtain ⟨h2, hf⟩ := gdZ_some hf
  refine lv_idiv hx hb dX11_puts_5 h2 ?_
  refine lv_istore (lv' := [(4, .int (p2 / (v0 (2 : Int32).toNatClampNeg).toInt32)), (0, .ref a0), (1, .int p1), (2, .int p2), (3, .int p3)]) hx hb dX11_puts_6 hl (by decide) rfl (fun ls hl => ?_)
  refine lv_aload_n hx hb dX11_puts_8 rfl (lv_at hl 1 rfl) ?_
  refine lv_iload_n hx hb dX11_puts_9 rfl (lv_at hl 2 rfl) ?_
  refine lv_iload hx hb dX11_puts_10 (lv_at hl 0 rfl) ?_
  obtain ⟨r3, e3, hf⟩ := bd_some hf
  refine cq_i hP hD hS [0] [] [0] (va_free (wc := (wLA E a0 340 v0)) hD hS hA [0] rfl) (va_runS (As := [.ref a0, .int p1, .int (p2 / (v0 (2 : Int32).toNatClampNeg).toInt32)]) (rest := []) ⟨hx, hb, hml, hown, hts⟩ (c_X11_owns l E s.heap.size a0 v0 p1 (p2 / (v0 (2 : Int32).toNatClampNeg).toInt32) r3 e3) (va_cwS 3 hts gX11_puts_X11_owns rfl rfl rfl hdS_X11_owns ⟨Nat.le_of_ble_eq_true rfl, Nat.le_of_ble_eq_true rfl⟩) ⟨PW.blind, PW.pre hC hS hP hD (va_free hD hS hA [0] rfl)⟩ rfl rfl hl.1 rfl (lv_room (Nat.le_of_ble_eq_true rfl)) dX11_puts_12 ⟨Nat.le_of_ble_eq_true rfl, Nat.le_of_ble_eq_true rfl⟩) rfl rfl rfl rfl (wLA E a0 340 r3.2) rfl rfl (fun H locs hP hD hS => ?_)
  refine lv_istore (lv' := [(5, .int r3.1), (4, .int (p2 / (v0 (2 : Int32).toNatClampNeg).toInt32)), (0, .ref a0), (1, .int p1), (2, .int p2), (3, .int p3)]) hx hb dX11_puts_15 hl (by decide) rfl (fun ls hl => ?_)
  refine lv_aload_n hx hb dX11_puts_17 rfl (lv_at hl 2 rfl) ?_
  refine lv_iload_n hx hb dX11_puts_18 rfl (lv_at hl 3 rfl) ?_
  refine lv_iload hx hb dX11_puts_19 (lv_at hl 1 rfl) ?_
  obtain ⟨r4, e4, hf⟩ := bd_some hf
  refine cr_i (va_runS (As := [.ref a0, .int p1, .int (p2 / (v0 (2 : Int32).toNatClampNeg).toInt32)]) (rest := []) ⟨hx, hb, hml, hown, hts⟩ (c_X11_chunkOf l E a0 r3.2 p1 (p2 / (v0 (2 : Int32).toNatClampNeg).toInt32) r4 e4) (va_cwS 3 hts gX11_puts_X11_chunkOf rfl rfl rfl hdS_X11_chunkOf ⟨Nat.le_of_ble_eq_true rfl, Nat.le_of_ble_eq_true rfl⟩) ⟨PR.blind, PR.pre hC hS hP⟩ rfl rfl hl.1 rfl (lv_room (Nat.le_of_ble_eq_true rfl)) dX11_puts_21 ⟨Nat.le_of_ble_eq_true rfl, Nat.le_of_ble_eq_true rfl⟩) ?_
  refine lv_istore (lv' := [(6, .int r4), (5, .int r3.1), (4, .int (p2 / (v0 (2 : Int32).toNatClampNeg).toInt32)), (0, .ref a0), (1, .int p1), (2, .int p2), (3, .int p3)]) hx hb dX11_puts_24 hl (by decide) rfl (fun ls hl => ?_)
  refine lv_iload hx hb dX11_puts_26 (lv_at hl 1 rfl) ?_
  obtain ⟨q5, e5, hf⟩ := bd_some hf
  have J5 : ∀ (H : Heap) (locs : List Loc) (hP : va_P E.1 vwCl (wLA E a0 340 q5.2) H) (hD : va_D A (wLA E a0 340 q5.2)) (hS : va_S A s.heap H locs), W p l e (headSpec wsX11_puts rmX11_puts).room s m args below meth c H locs 0 0 Q (F0 m 42 ls [.int q5.1]) := by
    intro H locs hP hD hS
    refine lv_istore (lv' := [(5, .int q5.1), (6, .int r4), (4, .int (p2 / (v0 (2 : Int32).toNatClampNeg).toInt32)), (0, .ref a0), (1, .int p1), (2, .int p2), (3, .int p3)]) hx hb dX11_puts_42 hl (by decide) rfl (fun ls hl => ?_)
    refine lv_iload hx hb dX11_puts_44 (lv_at hl 0 rfl) ?_
    refine lv_if_eq (tgt := 52) hx hb dX11_puts_46 rfl (fun c6 => ?_) (fun c6 => ?_)
    · have hf := it_t hf c6
      refine lv_iconst (v := 0) hx hb dX11_puts_52 rfl ?_
      refine lv_istore (lv' := [(7, .int (0 : Int32)), (5, .int q5.1), (6, .int r4), (4, .int (p2 / (v0 (2 : Int32).toNatClampNeg).toInt32)), (0, .ref a0), (1, .int p1), (2, .int p2), (3, .int p3)]) hx hb dX11_puts_53 hl (by decide) rfl (fun ls hl => ?_)
      refine lv_iload_n hx hb dX11_puts_55 rfl (lv_at hl 6 rfl) ?_
      refine lv_aload_n hx hb dX11_puts_56 rfl (lv_at hl 4 rfl) ?_
      refine lv_iconst (v := 2) hx hb dX11_puts_57 rfl ?_
      obtain ⟨h7, hf⟩ := gdI_some hf
      refine va_lald hx hb hC.1 hP 0 1 rfl rfl h7 dX11_puts_58 ?_
      refine lv_l2i hx hb dX11_puts_59 rfl ?_
      obtain ⟨h8, hf⟩ := gdZ_some hf
      refine lv_irem hx hb dX11_puts_60 h8 ?_
      refine lv_istore (lv' := [(8, .int (p2 - p2 / (q5.2 (2 : Int32).toNatClampNeg).toInt32 * (q5.2 (2 : Int32).toNatClampNeg).toInt32)), (7, .int (0 : Int32)), (5, .int q5.1), (6, .int r4), (4, .int (p2 / (v0 (2 : Int32).toNatClampNeg).toInt32)), (0, .ref a0), (1, .int p1), (2, .int p2), (3, .int p3)]) hx hb dX11_puts_61 hl (by decide) rfl (fun ls hl => ?_)
      refine lv_aload_n hx hb dX11_puts_63 rfl (lv_at hl 5 rfl) ?_
      refine lv_iload hx hb dX11_puts_64 (lv_at hl 3 rfl) ?_
      obtain ⟨r9, e9, hf⟩ := bd_some hf
      refine cr_i (va_runS (As := [.ref a0, .int r4]) (rest := []) ⟨hx, hb, hml, hown, hts⟩ (c_X11_ables l E a0 q5.2 r4 r9 e9) (va_cwS 2 hts gX11_puts_X11_ables rfl rfl rfl hdS_X11_ables ⟨Nat.le_of_ble_eq_true rfl, Nat.le_of_ble_eq_true rfl⟩) ⟨PR.blind, PR.pre hC hS hP⟩ rfl rfl hl.1 rfl (lv_room (Nat.le_of_ble_eq_true rfl)) dX11_puts_66 ⟨Nat.le_of_ble_eq_true rfl, Nat.le_of_ble_eq_true rfl⟩) ?_
      refine lv_istore (lv' := [(9, .int r9), (8, .int (p2 - p2 / (q5.2 (2 : Int32).toNatClampNeg).toInt32 * (q5.2 (2 : Int32).toNatClampNeg).toInt32)), (7, .int (0 : Int32)), (5, .int q5.1), (6, .int r4), (4, .int (p2 / (v0 (2 : Int32).toNatClampNeg).toInt32)), (0, .ref a0), (1, .int p1), (2, .int p2), (3, .int p3)]) hx hb dX11_puts_69 hl (by decide) rfl (fun ls hl => ?_)
      refine lv_iconst (v := 0) hx hb dX11_puts_71 rfl ?_
      refine lv_istore (lv' := [(10, .int (0 : Int32)), (9, .int r9), (8, .int (p2 - p2 / (q5.2 (2 : Int32).toNatClampNeg).toInt32 * (q5.2 (2 : Int32).toNatClampNeg).toInt32)), (7, .int (0 : Int32)), (5, .int q5.1), (6, .int r4), (4, .int (p2 / (v0 (2 : Int32).toNatClampNeg).toInt32)), (0, .ref a0), (1, .int p1), (2, .int p2), (3, .int p3)]) hx hb dX11_puts_72 hl (by decide) rfl (fun ls hl => ?_)
      obtain ⟨K10, hK10, hf⟩ := jn_some hf
      have J10 : ∀ (q10 : Int32 × Int32 × (Nat → Int64)) (H : Heap) (locs : List Loc) (hP : va_P E.1 vwCl (wLA E a0 340 q10.2.2) H) (hD : va_D A (wLA E a0 340 q10.2.2)) (hS : va_S A s.heap H locs) (ls : Array Slot) (hl : lv_has ls 14 [(7, .int q10.1)]) (hf : K10 q10 = some x), W p l e (headSpec wsX11_puts rmX11_puts).room s m args below meth c H locs 0 0 Q (F0 m 200 ls []) := by
        intro q10 H locs hP hD hS ls hl hf
        have hf := (hK10 q10).trans hf
        refine lv_iload hx hb dX11_puts_200 (lv_at hl 0 rfl) ?_
        refine lv_if_ne (tgt := 210) hx hb dX11_puts_202 rfl (fun c11 => ?_) (fun c11 => ?_)
        · have hf := it_f hf c11
          refine lv_iload hx hb dX11_puts_210 (lv_at hl 0 rfl) ?_
          cases Option.some.inj hf
          subst hQe
          exact ew_i (wf := (fun q : (Nat → Int64) => wLA E a0 340 q)) hx hb hr hlocks hP hD hS dX11_puts_212
        · have hf := it_t hf c11
          refine lv_ldc hx hb hown w1 dX11_puts_205 ?_
          refine lv_goto (tgt := 212) hx hb dX11_puts_207 rfl ?_
          cases Option.some.inj hf
          subst hQe
          exact ew_i (wf := (fun q : (Nat → Int64) => wLA E a0 340 q)) hx hb hr hlocks hP hD hS dX11_puts_212
      have L10 : ∀ (n : Nat) (q10 : Int32 × Int32 × (Nat → Int64)) (H : Heap) (locs : List Loc) (hP : va_P E.1 vwCl (wLA E a0 340 q10.2.2) H) (hD : va_D A (wLA E a0 340 q10.2.2)) (hS : va_S A s.heap H locs) (ls : Array Slot) (hl : lv_has ls 14 [(0, .ref a0), (3, .int p3), (6, .int r4), (7, .int q10.1), (8, .int (p2 - p2 / (q5.2 (2 : Int32).toNatClampNeg).toInt32 * (q5.2 (2 : Int32).toNatClampNeg).toInt32)), (9, .int r9), (10, .int q10.2.1)]) (hf : lpF (bX11_puts_10 r9 r4 p2 q5 p3 K10) n q10 = some x), W p l e (headSpec wsX11_puts rmX11_puts).room s m args below meth c H locs 0 0 Q (F0 m 74 ls []) := by
        intro n
        induction n with
        | zero => intro q10 H locs hP hD hS ls hl hf; exact (lpF_zero hf).elim
        | succ n ih10 =>
          intro q10 H locs hP hD hS ls hl hf
          have hf := lpF_succ hf
          unfold bX11_puts_10 at hf
          refine lv_iload hx hb dX11_puts_74 (lv_at hl 6 rfl) ?_
          refine lv_iconst (v := 5) hx hb dX11_puts_76 rfl ?_
          refine lv_icmp_ge (tgt := 200) hx hb dX11_puts_77 rfl (fun c12 => ?_) (fun c12 => ?_)
          · have hf := it_t hf c12
            exact J10 (q10.1, q10.2.1, q10.2.2) H locs hP hD hS ls (lv_sub hl [3] rfl) hf
          · have hf := it_f hf c12
            refine lv_iload hx hb dX11_puts_80 (lv_at hl 5 rfl) ?_
            refine lv_iload hx hb dX11_puts_82 (lv_at hl 6 rfl) ?_
            refine cr_i (va_runS (As := [.int r9, .int q10.2.1]) (rest := []) ⟨hx, hb, hml, hown, hts⟩ (c_X11_has l E r9 q10.2.1 _ rfl) (va_cwS 2 hts gX11_puts_X11_has rfl rfl rfl hdS_X11_has ⟨Nat.le_of_ble_eq_true rfl, Nat.le_of_ble_eq_true rfl⟩) ⟨PR.blind, PR.pre hC hS (hP.sub [] rfl)⟩ rfl rfl hl.1 rfl (lv_room (Nat.le_of_ble_eq_true rfl)) dX11_puts_84 ⟨Nat.le_of_ble_eq_true rfl, Nat.le_of_ble_eq_true rfl⟩) ?_
            refine lv_if_eq (tgt := 194) hx hb dX11_puts_87 rfl (fun c13 => ?_) (fun c13 => ?_)
            · have hf := it_t hf c13
              refine lv_iinc (v := (q10.2.1 + 1)) (lv' := [(10, .int (q10.2.1 + 1)), (0, .ref a0), (3, .int p3), (6, .int r4), (7, .int q10.1), (8, .int (p2 - p2 / (q5.2 (2 : Int32).toNatClampNeg).toInt32 * (q5.2 (2 : Int32).toNatClampNeg).toInt32)), (9, .int r9)]) hx hb dX11_puts_194 hl (k := 6) rfl rfl (by decide) rfl (fun ls hl => ?_)
              refine lv_goto (tgt := 74) hx hb dX11_puts_197 rfl ?_
              exact ih10 (q10.1, (q10.2.1 + 1), q10.2.2) H locs hP hD hS ls (lv_sub hl [1, 2, 3, 4, 5, 6, 0] rfl) hf
            · have hf := it_f hf c13
              refine lv_aload_n hx hb dX11_puts_90 rfl (lv_at hl 0 rfl) ?_
              refine lv_iload hx hb dX11_puts_91 (lv_at hl 2 rfl) ?_
              refine lv_iload hx hb dX11_puts_93 (lv_at hl 6 rfl) ?_
              obtain ⟨r14, e14, hf⟩ := bd_some hf
              refine cr_l (va_runS (As := [.ref a0, .int r4, .int q10.2.1]) (rest := []) ⟨hx, hb, hml, hown, hts⟩ (c_X11_copy l E a0 q10.2.2 r4 q10.2.1 r14 e14) (va_cwS 3 hts gX11_puts_X11_copy rfl rfl rfl hdS_X11_copy ⟨Nat.le_of_ble_eq_true rfl, Nat.le_of_ble_eq_true rfl⟩) ⟨PR.blind, PR.pre hC hS hP⟩ rfl rfl hl.1 rfl (lv_room (Nat.le_of_ble_eq_true rfl)) dX11_puts_95 ⟨Nat.le_of_ble_eq_true rfl, Nat.le_of_ble_eq_true rfl⟩) ?_
              refine lv_lstore (lv' := [(11, .long r14), (0, .ref a0), (3, .int p3), (6, .int r4), (7, .int q10.1), (8, .int (p2 - p2 / (q5.2 (2 : Int32).toNatClampNeg).toInt32 * (q5.2 (2 : Int32).toNatClampNeg).toInt32)), (9, .int r9), (10, .int q10.2.1)]) hx hb dX11_puts_98 hl (by decide) rfl (fun ls hl => ?_)
              refine lv_aload_n hx hb dX11_puts_100 rfl (lv_at hl 1 rfl) ?_
              refine lv_iload hx hb dX11_puts_101 (lv_at hl 7 rfl) ?_
              obtain ⟨r15, e15, hf⟩ := bd_some hf
              refine cq_i hP hD hS [0] [] [0] (va_free (wc := (wLA E a0 340 q10.2.2)) hD hS hA [0] rfl) (va_runS (As := [.ref a0, .int q10.2.1]) (rest := []) ⟨hx, hb, hml, hown, hts⟩ (c_X11_fails l E H.size a0 q10.2.2 q10.2.1 r15 e15) (va_cwS 2 hts gX11_puts_X11_fails rfl rfl rfl hdS_X11_fails ⟨Nat.le_of_ble_eq_true rfl, Nat.le_of_ble_eq_true rfl⟩) ⟨PW.blind, PW.pre hC hS hP hD (va_free hD hS hA [0] rfl)⟩ rfl rfl hl.1 rfl (lv_room (Nat.le_of_ble_eq_true rfl)) dX11_puts_103 ⟨Nat.le_of_ble_eq_true rfl, Nat.le_of_ble_eq_true rfl⟩) rfl rfl rfl rfl (wLA E a0 340 r15.2) rfl rfl (fun H locs hP hD hS => ?_)
              refine lv_istore (lv' := [(13, .int (bI r15.1)), (11, .long r14), (0, .ref a0), (3, .int p3), (6, .int r4), (7, .int q10.1), (8, .int (p2 - p2 / (q5.2 (2 : Int32).toNatClampNeg).toInt32 * (q5.2 (2 : Int32).toNatClampNeg).toInt32)), (9, .int r9), (10, .int q10.2.1)]) hx hb dX11_puts_106 hl (by decide) rfl (fun ls hl => ?_)
              refine lv_iload hx hb dX11_puts_108 (lv_at hl 0 rfl) ?_
              obtain ⟨q16, e16, hf⟩ := bt_eq hf
              have J16 : W p l e (headSpec wsX11_puts rmX11_puts).room s m args below meth c H locs 0 0 Q (F0 m 134 ls [.long q16]) := by
                refine lv_lstore (lv' := [(11, .long q16), (13, .int (bI r15.1)), (0, .ref a0), (3, .int p3), (6, .int r4), (7, .int q10.1), (8, .int (p2 - p2 / (q5.2 (2 : Int32).toNatClampNeg).toInt32 * (q5.2 (2 : Int32).toNatClampNeg).toInt32)), (9, .int r9), (10, .int q10.2.1)]) hx hb dX11_puts_134 hl (by decide) rfl (fun ls hl => ?_)
                refine lv_aload_n hx hb dX11_puts_136 rfl (lv_at hl 2 rfl) ?_
                refine lv_sipush (v := 190) hx hb dX11_puts_137 rfl ?_
                refine lv_iconst (v := 5) hx hb dX11_puts_140 rfl ?_
                refine lv_iload hx hb dX11_puts_141 (lv_at hl 4 rfl) ?_
                refine lv_imul hx hb dX11_puts_143 ?_
                refine lv_iadd hx hb dX11_puts_144 ?_
                refine lv_iload hx hb dX11_puts_145 (lv_at hl 8 rfl) ?_
                refine lv_iadd hx hb dX11_puts_147 ?_
                refine lv_iload hx hb dX11_puts_148 (lv_at hl 1 rfl) ?_
                obtain ⟨q17, e17, hf⟩ := bt_eq hf
                have J17 : W p l e (headSpec wsX11_puts rmX11_puts).room s m args below meth c H locs 0 0 Q (F0 m 178 ls [.long q17, .int (((190 : Int32) + ((5 : Int32) * r4)) + q10.2.1), .ref a0]) := by
                  obtain ⟨h18, hf⟩ := gdI_some hf
                  refine va_last hx hb hC.1 hP hD hS 0 1 rfl rfl h18 dX11_puts_178 (fun H locs hP hD hS => ?_)
                  have hP : va_P E.1 vwCl (wLA E a0 340 (vp_updL r15.2 (((190 : Int32) + ((5 : Int32) * r4)) + q10.2.1).toNatClampNeg q17)) H := hP
                  have hD : va_D A (wLA E a0 340 (vp_updL r15.2 (((190 : Int32) + ((5 : Int32) * r4)) + q10.2.1).toNatClampNeg q17)) := hD
                  refine lv_iload hx hb dX11_puts_179 (lv_at hl 5 rfl) ?_
                  refine lv_iload hx hb dX11_puts_181 (lv_at hl 1 rfl) ?_
                  refine lv_if_eq (tgt := 190) hx hb dX11_puts_183 rfl (fun c19 => ?_) (fun c19 => ?_)
                  · have hf := it_t hf c19
                    refine lv_iconst (v := 1) hx hb dX11_puts_190 rfl ?_
                    refine lv_iadd hx hb dX11_puts_191 ?_
                    refine lv_istore (lv' := [(7, .int (q10.1 + (1 : Int32))), (11, .long q16), (13, .int (bI r15.1)), (0, .ref a0), (3, .int p3), (6, .int r4), (8, .int (p2 - p2 / (q5.2 (2 : Int32).toNatClampNeg).toInt32 * (q5.2 (2 : Int32).toNatClampNeg).toInt32)), (9, .int r9), (10, .int q10.2.1)]) hx hb dX11_puts_192 hl (by decide) rfl (fun ls hl => ?_)
                    refine lv_iinc (v := (q10.2.1 + 1)) (lv' := [(10, .int (q10.2.1 + 1)), (7, .int (q10.1 + (1 : Int32))), (11, .long q16), (13, .int (bI r15.1)), (0, .ref a0), (3, .int p3), (6, .int r4), (8, .int (p2 - p2 / (q5.2 (2 : Int32).toNatClampNeg).toInt32 * (q5.2 (2 : Int32).toNatClampNeg).toInt32)), (9, .int r9)]) hx hb dX11_puts_194 hl (k := 8) rfl rfl (by decide) rfl (fun ls hl => ?_)
                    refine lv_goto (tgt := 74) hx hb dX11_puts_197 rfl ?_
                    exact ih10 ((q10.1 + (1 : Int32)), (q10.2.1 + 1), (vp_updL r15.2 (((190 : Int32) + ((5 : Int32) * r4)) + q10.2.1).toNatClampNeg q17)) H locs hP hD hS ls (lv_sub hl [4, 5, 6, 1, 7, 8, 0] rfl) hf
                  · have hf := it_f hf c19
                    refine lv_iconst (v := 0) hx hb dX11_puts_186 rfl ?_
                    refine lv_goto (tgt := 191) hx hb dX11_puts_187 rfl ?_
                    refine lv_iadd hx hb dX11_puts_191 ?_
                    refine lv_istore (lv' := [(7, .int (q10.1 + (0 : Int32))), (11, .long q16), (13, .int (bI r15.1)), (0, .ref a0), (3, .int p3), (6, .int r4), (8, .int (p2 - p2 / (q5.2 (2 : Int32).toNatClampNeg).toInt32 * (q5.2 (2 : Int32).toNatClampNeg).toInt32)), (9, .int r9), (10, .int q10.2.1)]) hx hb dX11_puts_192 hl (by decide) rfl (fun ls hl => ?_)
                    refine lv_iinc (v := (q10.2.1 + 1)) (lv' := [(10, .int (q10.2.1 + 1)), (7, .int (q10.1 + (0 : Int32))), (11, .long q16), (13, .int (bI r15.1)), (0, .ref a0), (3, .int p3), (6, .int r4), (8, .int (p2 - p2 / (q5.2 (2 : Int32).toNatClampNeg).toInt32 * (q5.2 (2 : Int32).toNatClampNeg).toInt32)), (9, .int r9)]) hx hb dX11_puts_194 hl (k := 8) rfl rfl (by decide) rfl (fun ls hl => ?_)
                    refine lv_goto (tgt := 74) hx hb dX11_puts_197 rfl ?_
                    exact ih10 ((q10.1 + (0 : Int32)), (q10.2.1 + 1), (vp_updL r15.2 (((190 : Int32) + ((5 : Int32) * r4)) + q10.2.1).toNatClampNeg q17)) H locs hP hD hS ls (lv_sub hl [4, 5, 6, 1, 7, 8, 0] rfl) hf
                have hf := e17
                refine lv_if_ne (tgt := 163) hx hb dX11_puts_150 rfl (fun c20 => ?_) (fun c20 => ?_)
                · have hf := it_f hf c20
                  refine lv_lload hx hb dX11_puts_163 (lv_at hl 0 rfl) ?_
                  refine lv_goto (tgt := 178) hx hb dX11_puts_165 rfl ?_
                  cases hf
                  exact J17
                · have hf := it_t hf c20
                  refine lv_lload hx hb dX11_puts_153 (lv_at hl 0 rfl) ?_
                  refine cr_i (va_runS (As := [.long q16]) (rest := [.int (((190 : Int32) + ((5 : Int32) * r4)) + q10.2.1), .ref a0]) ⟨hx, hb, hml, hown, hts⟩ (c_X11_filled l E q16 _ rfl) (va_cwS 1 hts gX11_puts_X11_filled rfl rfl rfl hdS_X11_filled ⟨Nat.le_of_ble_eq_true rfl, Nat.le_of_ble_eq_true rfl⟩) ⟨PR.blind, PR.pre hC hS (hP.sub [] rfl)⟩ rfl rfl hl.1 rfl (lv_room (Nat.le_of_ble_eq_true rfl)) dX11_puts_155 ⟨Nat.le_of_ble_eq_true rfl, Nat.le_of_ble_eq_true rfl⟩) ?_
                  refine lv_iload hx hb dX11_puts_158 (lv_at hl 6 rfl) ?_
                  refine lv_icmp_le (tgt := 168) hx hb dX11_puts_160 rfl (fun c21 => ?_) (fun c21 => ?_)
                  · have hf := it_t hf c21
                    refine lv_lload hx hb dX11_puts_168 (lv_at hl 0 rfl) ?_
                    refine lv_iload hx hb dX11_puts_170 (lv_at hl 6 rfl) ?_
                    refine lv_iconst (v := 1) hx hb dX11_puts_172 rfl ?_
                    refine lv_iadd hx hb dX11_puts_173 ?_
                    refine lv_i2l hx hb dX11_puts_174 rfl ?_
                    refine cr_l (va_runS (As := [.long q16, .long (((p2 - p2 / (q5.2 (2 : Int32).toNatClampNeg).toInt32 * (q5.2 (2 : Int32).toNatClampNeg).toInt32) + (1 : Int32)).toInt64)]) (rest := [.int (((190 : Int32) + ((5 : Int32) * r4)) + q10.2.1), .ref a0]) ⟨hx, hb, hml, hown, hts⟩ (c_X11_withFilled l E q16 (((p2 - p2 / (q5.2 (2 : Int32).toNatClampNeg).toInt32 * (q5.2 (2 : Int32).toNatClampNeg).toInt32) + (1 : Int32)).toInt64) _ rfl) (va_cwS 2 hts gX11_puts_X11_withFilled rfl rfl rfl hdS_X11_withFilled ⟨Nat.le_of_ble_eq_true rfl, Nat.le_of_ble_eq_true rfl⟩) ⟨PR.blind, PR.pre hC hS (hP.sub [] rfl)⟩ rfl rfl hl.1 rfl (lv_room (Nat.le_of_ble_eq_true rfl)) dX11_puts_175 ⟨Nat.le_of_ble_eq_true rfl, Nat.le_of_ble_eq_true rfl⟩) ?_
                    cases hf
                    exact J17
                  · have hf := it_f hf c21
                    refine lv_lload hx hb dX11_puts_163 (lv_at hl 0 rfl) ?_
                    refine lv_goto (tgt := 178) hx hb dX11_puts_165 rfl ?_
                    cases hf
                    exact J17
              have hf := e16
              refine lv_if_eq (tgt := 122) hx hb dX11_puts_110 rfl (fun c22 => ?_) (fun c22 => ?_)
              · have hf := it_t hf c22
                refine lv_lload hx hb dX11_puts_122 (lv_at hl 1 rfl) ?_
                refine lv_iload hx hb dX11_puts_124 (lv_at hl 6 rfl) ?_
                refine lv_iload_n hx hb dX11_puts_126 rfl (lv_at hl 3 rfl) ?_
                refine lv_bipush (v := 96) hx hb dX11_puts_127 rfl ?_
                refine lv_isub hx hb dX11_puts_129 ?_
                refine lv_i2l hx hb dX11_puts_130 rfl ?_
                refine cr_l (va_runS (As := [.long r14, .int (p2 - p2 / (q5.2 (2 : Int32).toNatClampNeg).toInt32 * (q5.2 (2 : Int32).toNatClampNeg).toInt32), .long ((p3 - (96 : Int32)).toInt64)]) (rest := []) ⟨hx, hb, hml, hown, hts⟩ (c_X11_withCell l E r14 (p2 - p2 / (q5.2 (2 : Int32).toNatClampNeg).toInt32 * (q5.2 (2 : Int32).toNatClampNeg).toInt32) ((p3 - (96 : Int32)).toInt64) _ rfl) (va_cwS 3 hts gX11_puts_X11_withCell rfl rfl rfl hdS_X11_withCell ⟨Nat.le_of_ble_eq_true rfl, Nat.le_of_ble_eq_true rfl⟩) ⟨PR.blind, PR.pre hC hS (hP.sub [] rfl)⟩ rfl rfl hl.1 rfl (lv_room (Nat.le_of_ble_eq_true rfl)) dX11_puts_131 ⟨Nat.le_of_ble_eq_true rfl, Nat.le_of_ble_eq_true rfl⟩) ?_
                cases hf
                exact J16
              · have hf := it_f hf c22
                refine lv_lload hx hb dX11_puts_113 (lv_at hl 1 rfl) ?_
                refine lv_lconst (v := 0) hx hb dX11_puts_115 rfl ?_
                refine cr_l (va_runS (As := [.long r14, .long (0 : Int64)]) (rest := []) ⟨hx, hb, hml, hown, hts⟩ (c_X11_withVersion l E r14 (0 : Int64) _ rfl) (va_cwS 2 hts gX11_puts_X11_withVersion rfl rfl rfl hdS_X11_withVersion ⟨Nat.le_of_ble_eq_true rfl, Nat.le_of_ble_eq_true rfl⟩) ⟨PR.blind, PR.pre hC hS (hP.sub [] rfl)⟩ rfl rfl hl.1 rfl (lv_room (Nat.le_of_ble_eq_true rfl)) dX11_puts_116 ⟨Nat.le_of_ble_eq_true rfl, Nat.le_of_ble_eq_true rfl⟩) ?_
                refine lv_goto (tgt := 134) hx hb dX11_puts_119 rfl ?_
                cases hf
                exact J16
      exact L10 FU ((0 : Int32), (0 : Int32), q5.2) H locs hP hD hS ls (lv_sub hl [7, 10, 5, 3, 2, 1, 0] rfl) hf
    · have hf := it_f hf c6
      refine lv_iload hx hb dX11_puts_49 (lv_at hl 0 rfl) ?_
      cases Option.some.inj hf
      subst hQe
      exact ew_i (wf := (fun q : (Nat → Int64) => wLA E a0 340 q)) hx hb hr hlocks hP hD hS dX11_puts_51
  have hf := e5
  refine lv_if_ne (tgt := 40) hx hb dX11_puts_28 rfl (fun c23 => ?_) (fun c23 => ?_)
  · have hf := it_f hf c23
    refine lv_iload hx hb dX11_puts_40 (lv_at hl 1 rfl) ?_
    cases Option.some.inj hf
    exact J5 H locs hP hD hS
  · have hf := it_t hf c23
    refine lv_aload_n hx hb dX11_puts_31 rfl (lv_at hl 3 rfl) ?_
    refine lv_iload hx hb dX11_puts_32 (lv_at hl 0 rfl) ?_
    obtain ⟨r24, e24, hf⟩ := bd_some hf
    refine cq_i hP hD hS [0] [] [0] (va_free (wc := (wLA E a0 340 r3.2)) hD hS hA [0] rfl) (va_runS (As := [.ref a0, .int r4]) (rest := []) ⟨hx, hb, hml, hown, hts⟩ (c_X11_leases l E H.size a0 r3.2 r4 r24 e24) (va_cwS 2 hts gX11_puts_X11_leases rfl rfl rfl hdS_X11_leases ⟨Nat.le_of_ble_eq_true rfl, Nat.le_of_ble_eq_true rfl⟩) ⟨PW.blind, PW.pre hC hS hP hD (va_free hD hS hA [0] rfl)⟩ rfl rfl hl.1 rfl (lv_room (Nat.le_of_ble_eq_true rfl)) dX11_puts_34 ⟨Nat.le_of_ble_eq_true rfl, Nat.le_of_ble_eq_true rfl⟩) rfl rfl rfl rfl (wLA E a0 340 r24.2) rfl rfl (fun H locs hP hD hS => ?_)
    refine lv_goto (tgt := 42) hx hb dX11_puts_37 rfl ?_
    cases Option.some.inj hf
    exact J5 H locs hP hD hS

/-! X11_goes -/
abbrev rmX11_goes : Room := { frames := 1, cells := 0, slots := 0, locals := 22 }
theorem hdS_X11_goes : yX11_goes.cls ≠ "java/lang/invoke/MethodHandle" ∧ yX11_goes.cls ≠ "java/lang/invoke/VarHandle" ∧ (parseMethodDescriptor yX11_goes.desc).map (fun d => d.parameters.length) = some 2 := by decide +kernel
set_option maxHeartbeats 4000000 in
set_option maxRecDepth 100000 in
theorem c_X11_goes (l : Launch) (E : G0) (sz : Nat) (a0 : Nat) (v0 : (Nat → Int64)) (p1 : Int32) (x : (Nat → Int64)) (hf : f_X11_goes v0 p1 = some x) : Met l yX11_goes wsX11_goes rmX11_goes (va_Pc [.ref a0, .int p1] (PW E (wLA E a0 340 v0) sz)) (va_Qv (fun q => q = x) (fun q t => va_P E.1 vwCl ((fun q : (Nat → Int64) => wLA E a0 340 q) q) t.heap ∧ va_D (va_A (wLA E a0 340 v0) sz) ((fun q : (Nat → Int64) => wLA E a0 340 q) q)) (va_A (wLA E a0 340 v0) sz)) 0 0 (va_A (wLA E a0 340 v0) sz) := by
  refine Met.ofW (cc := cX11_goes) (maxL := 3) (ret := none) (by decide) rfl ?_
  intro p e s m args below meth c s₁ B hml hv
  obtain ⟨ha, hsz, hP, hD0, hC⟩ := hv
  have hx := B.exec
  have hb := B.bytes
  have hr := B.returns
  have hts := atoms_spec (ws := wsX11_goes) B.pre
  have hown : s.vm.findClass RX11 = some m.cls := findClass_of_methodNamed B.named
  have hlocks := B.notSynchronized
  subst hsz
  have hD := hD0.self (sz := s.heap.size)
  generalize hAe : va_A (wLA E a0 340 v0) s.heap.size = A at hD hC ⊢
  have hA : ∀ q : Nat, s.heap.size ≤ q → A q := fun q h => by rw [← hAe]; exact Or.inr h
  have hS : va_S A s.heap s.heap [] := va_S.rf
  generalize hQe : MQ below (va_Qv (fun q => q = x) (fun q t => va_P E.1 vwCl ((fun q : (Nat → Int64) => wLA E a0 340 q) q) t.heap ∧ va_D A ((fun q : (Nat → Int64) => wLA E a0 340 q) q)) A) args s 0 0 A = Q
  refine st_W ha (Nat.le_of_ble_eq_true rfl) (fun ls hl => ?_)
  have hl : lv_has ls 3 [(0, .ref a0), (1, .int p1)] := hl
  unfold f_X11_goes at hf
  refine lv_aload_n hx hb dX11_goes_0 rfl (lv_at hl 0 rfl) ?_
  refine lv_bipush (v := 22) hx hb dX11_goes_1 rfl ?_
  refine lv_bipush (v := 8) hx hb dX11_goes_3 rfl ?_
  refine lv_iload_n hx hb dX11_goes_5 rfl (lv_at hl 1 rfl) ?_
  refine lv_imul hx hb dX11_goes_6 ?_
  refine lv_iadd hx hb dX11_goes_7 ?_
  refine lv_iconst (v := 0) hx hb dX11_goes_8 rfl ?_
  refine lv_iadd hx hb dX11_goes_9 ?_
  refine lv_lconst (v := 0) hx hb dX11_goes_10 rfl ?_
  obtain ⟨h1, hf⟩ := gdI_some hf
  refine va_last hx hb hC.1 hP hD hS 0 1 rfl rfl h1 dX11_goes_11 (fun H locs hP hD hS => ?_)
  have hP : va_P E.1 vwCl (wLA E a0 340 (vp_updL v0 (((22 : Int32) + ((8 : Int32) * p1)) + (0 : Int32)).toNatClampNeg (0 : Int64))) H := hP
  have hD : va_D A (wLA E a0 340 (vp_updL v0 (((22 : Int32) + ((8 : Int32) * p1)) + (0 : Int32)).toNatClampNeg (0 : Int64))) := hD
  refine lv_iconst (v := 0) hx hb dX11_goes_12 rfl ?_
  refine lv_istore_n (lv' := [(2, .int (0 : Int32)), (0, .ref a0), (1, .int p1)]) hx hb dX11_goes_13 rfl hl (by decide) rfl (fun ls hl => ?_)
  obtain ⟨K2, hK2, hf⟩ := jn_some hf
  have J2 : ∀ (q2 : Int32 × (Nat → Int64)) (H : Heap) (locs : List Loc) (hP : va_P E.1 vwCl (wLA E a0 340 q2.2) H) (hD : va_D A (wLA E a0 340 q2.2)) (hS : va_S A s.heap H locs) (ls : Array Slot) (hl : lv_has ls 3 [(0, .ref a0), (1, .int p1)]) (hf : K2 q2 = some x), W p l e (headSpec wsX11_goes rmX11_goes).room s m args below meth c H locs 0 0 Q (F0 m 48 ls []) := by
    intro q2 H locs hP hD hS ls hl hf
    have hf := (hK2 q2).trans hf
    refine lv_aload_n hx hb dX11_goes_48 rfl (lv_at hl 0 rfl) ?_
    refine lv_bipush (v := 22) hx hb dX11_goes_49 rfl ?_
    refine lv_bipush (v := 8) hx hb dX11_goes_51 rfl ?_
    refine lv_iload_n hx hb dX11_goes_53 rfl (lv_at hl 1 rfl) ?_
    refine lv_imul hx hb dX11_goes_54 ?_
    refine lv_iadd hx hb dX11_goes_55 ?_
    refine lv_iconst (v := 2) hx hb dX11_goes_56 rfl ?_
    refine lv_iadd hx hb dX11_goes_57 ?_
    refine lv_lconst (v := 0) hx hb dX11_goes_58 rfl ?_
    obtain ⟨h3, hf⟩ := gdI_some hf
    refine va_last hx hb hC.1 hP hD hS 0 1 rfl rfl h3 dX11_goes_59 (fun H locs hP hD hS => ?_)
    have hP : va_P E.1 vwCl (wLA E a0 340 (vp_updL q2.2 (((22 : Int32) + ((8 : Int32) * p1)) + (2 : Int32)).toNatClampNeg (0 : Int64))) H := hP
    have hD : va_D A (wLA E a0 340 (vp_updL q2.2 (((22 : Int32) + ((8 : Int32) * p1)) + (2 : Int32)).toNatClampNeg (0 : Int64))) := hD
    cases Option.some.inj hf
    subst hQe
    exact ew_v (wf := (fun q : (Nat → Int64) => wLA E a0 340 q)) hx hb hr hlocks hP hD hS dX11_goes_60
  have L2 : ∀ (n : Nat) (q2 : Int32 × (Nat → Int64)) (H : Heap) (locs : List Loc) (hP : va_P E.1 vwCl (wLA E a0 340 q2.2) H) (hD : va_D A (wLA E a0 340 q2.2)) (hS : va_S A s.heap H locs) (ls : Array Slot) (hl : lv_has ls 3 [(0, .ref a0), (1, .int p1), (2, .int q2.1)]) (hf : lpF (bX11_goes_2 p1 K2) n q2 = some x), W p l e (headSpec wsX11_goes rmX11_goes).room s m args below meth c H locs 0 0 Q (F0 m 14 ls []) := by
    intro n
    induction n with
    | zero => intro q2 H locs hP hD hS ls hl hf; exact (lpF_zero hf).elim
    | succ n ih2 =>
      intro q2 H locs hP hD hS ls hl hf
      have hf := lpF_succ hf
      unfold bX11_goes_2 at hf
      refine lv_iload_n hx hb dX11_goes_14 rfl (lv_at hl 2 rfl) ?_
      refine lv_aload_n hx hb dX11_goes_15 rfl (lv_at hl 0 rfl) ?_
      refine lv_iload_n hx hb dX11_goes_16 rfl (lv_at hl 1 rfl) ?_
      obtain ⟨r4, e4, hf⟩ := bd_some hf
      refine cr_i (va_runS (As := [.ref a0, .int p1]) (rest := [.int q2.1]) ⟨hx, hb, hml, hown, hts⟩ (c_X11_many l E a0 q2.2 p1 r4 e4) (va_cwS 2 hts gX11_goes_X11_many rfl rfl rfl hdS_X11_many ⟨Nat.le_of_ble_eq_true rfl, Nat.le_of_ble_eq_true rfl⟩) ⟨PR.blind, PR.pre hC hS hP⟩ rfl rfl hl.1 rfl (lv_room (Nat.le_of_ble_eq_true rfl)) dX11_goes_17 ⟨Nat.le_of_ble_eq_true rfl, Nat.le_of_ble_eq_true rfl⟩) ?_
      refine lv_icmp_ge (tgt := 48) hx hb dX11_goes_20 rfl (fun c5 => ?_) (fun c5 => ?_)
      · have hf := it_t hf c5
        exact J2 (q2.1, q2.2) H locs hP hD hS ls (lv_sub hl [0, 1] rfl) hf
      · have hf := it_f hf c5
        refine lv_aload_n hx hb dX11_goes_23 rfl (lv_at hl 0 rfl) ?_
        refine lv_bipush (v := 70) hx hb dX11_goes_24 rfl ?_
        refine lv_iconst (v := 4) hx hb dX11_goes_26 rfl ?_
        refine lv_aload_n hx hb dX11_goes_27 rfl (lv_at hl 0 rfl) ?_
        refine lv_iload_n hx hb dX11_goes_28 rfl (lv_at hl 1 rfl) ?_
        refine lv_iload_n hx hb dX11_goes_29 rfl (lv_at hl 2 rfl) ?_
        obtain ⟨r6, e6, hf⟩ := bd_some hf
        refine cr_i (va_runS (As := [.ref a0, .int p1, .int q2.1]) (rest := [.int (4 : Int32), .int (70 : Int32), .ref a0]) ⟨hx, hb, hml, hown, hts⟩ (c_X11_chunkOf l E a0 q2.2 p1 q2.1 r6 e6) (va_cwS 3 hts gX11_goes_X11_chunkOf rfl rfl rfl hdS_X11_chunkOf ⟨Nat.le_of_ble_eq_true rfl, Nat.le_of_ble_eq_true rfl⟩) ⟨PR.blind, PR.pre hC hS hP⟩ rfl rfl hl.1 rfl (lv_room (Nat.le_of_ble_eq_true rfl)) dX11_goes_30 ⟨Nat.le_of_ble_eq_true rfl, Nat.le_of_ble_eq_true rfl⟩) ?_
        refine lv_imul hx hb dX11_goes_33 ?_
        refine lv_iadd hx hb dX11_goes_34 ?_
        refine lv_iconst (v := 1) hx hb dX11_goes_35 rfl ?_
        refine lv_iadd hx hb dX11_goes_36 ?_
        refine lv_dup2_11 hx hb dX11_goes_37 rfl rfl ?_
        obtain ⟨h7, hf⟩ := gdI_some hf
        refine va_lald hx hb hC.1 hP 0 1 rfl rfl h7 dX11_goes_38 ?_
        refine lv_lconst (v := 1) hx hb dX11_goes_39 rfl ?_
        refine lv_lsub hx hb dX11_goes_40 ?_
        obtain ⟨h8, hf⟩ := gdI_some hf
        refine va_last hx hb hC.1 hP hD hS 0 1 rfl rfl h8 dX11_goes_41 (fun H locs hP hD hS => ?_)
        have hP : va_P E.1 vwCl (wLA E a0 340 (vp_updL q2.2 (((70 : Int32) + ((4 : Int32) * r6)) + (1 : Int32)).toNatClampNeg ((q2.2 (((70 : Int32) + ((4 : Int32) * r6)) + (1 : Int32)).toNatClampNeg) - (1 : Int64)))) H := hP
        have hD : va_D A (wLA E a0 340 (vp_updL q2.2 (((70 : Int32) + ((4 : Int32) * r6)) + (1 : Int32)).toNatClampNeg ((q2.2 (((70 : Int32) + ((4 : Int32) * r6)) + (1 : Int32)).toNatClampNeg) - (1 : Int64)))) := hD
        refine lv_iinc (v := (q2.1 + 1)) (lv' := [(2, .int (q2.1 + 1)), (0, .ref a0), (1, .int p1)]) hx hb dX11_goes_42 hl (k := 2) rfl rfl (by decide) rfl (fun ls hl => ?_)
        refine lv_goto (tgt := 14) hx hb dX11_goes_45 rfl ?_
        exact ih2 ((q2.1 + 1), (vp_updL q2.2 (((70 : Int32) + ((4 : Int32) * r6)) + (1 : Int32)).toNatClampNeg ((q2.2 (((70 : Int32) + ((4 : Int32) * r6)) + (1 : Int32)).toNatClampNeg) - (1 : Int64)))) H locs hP hD hS ls (lv_sub hl [1, 2, 0] rfl) hf
  exact L2 FU ((0 : Int32), (vp_updL v0 (((22 : Int32) + ((8 : Int32) * p1)) + (0 : Int32)).toNatClampNeg (0 : Int64))) H locs hP hD hS ls (lv_sub hl [1, 2, 0] rfl) hf

/-! X11_wantedOf -/
abbrev rmX11_wantedOf : Room := { frames := 1, cells := 0, slots := 0, locals := 22 }
theorem hdS_X11_wantedOf : yX11_wantedOf.cls ≠ "java/lang/invoke/MethodHandle" ∧ yX11_wantedOf.cls ≠ "java/lang/invoke/VarHandle" ∧ (parseMethodDescriptor yX11_wantedOf.desc).map (fun d => d.parameters.length) = some 2 := by decide +kernel
set_option maxHeartbeats 4000000 in
set_option maxRecDepth 100000 in
theorem c_X11_wantedOf (l : Launch) (E : G0) (a0 : Nat) (v0 : (Nat → Int64)) (p1 : Int32) (x : Int32) (hf : f_X11_wantedOf v0 p1 = some x) : Met l yX11_wantedOf wsX11_wantedOf rmX11_wantedOf (va_Pc [.ref a0, .int p1] (PR E (wLA E a0 340 v0))) (vp_Si (fun r => r = x)) 0 0 (fun _ => False) := by
  refine Met.ofW (cc := cX11_wantedOf) (maxL := 6) (ret := some .int) (by decide) rfl ?_
  intro p e s m args below meth c s₁ B hml hv
  obtain ⟨ha, hP, hC⟩ := hv
  have hx := B.exec
  have hb := B.bytes
  have hr := B.returns
  have hts := atoms_spec (ws := wsX11_wantedOf) B.pre
  have hown : s.vm.findClass RX11 = some m.cls := findClass_of_methodNamed B.named
  have hlocks := B.notSynchronized
  have hS : va_S (fun _ => False) s.heap s.heap [] := va_S.rf
  generalize hQe : MQ below (vp_Si (fun r => r = x)) args s 0 0 (fun _ => False) = Q
  refine st_W ha (Nat.le_of_ble_eq_true rfl) (fun ls hl => ?_)
  have hl : lv_has ls 6 [(0, .ref a0), (1, .int p1)] := hl
  unfold f_X11_wantedOf at hf
  refine lv_iconst (v := 0) hx hb dX11_wantedOf_0 rfl ?_
  refine lv_istore_n (lv' := [(2, .int (0 : Int32)), (0, .ref a0), (1, .int p1)]) hx hb dX11_wantedOf_1 rfl hl (by decide) rfl (fun ls hl => ?_)
  refine lv_iconst (v := 0) hx hb dX11_wantedOf_2 rfl ?_
  refine lv_istore_n (lv' := [(3, .int (0 : Int32)), (2, .int (0 : Int32)), (0, .ref a0), (1, .int p1)]) hx hb dX11_wantedOf_3 rfl hl (by decide) rfl (fun ls hl => ?_)
  obtain ⟨K1, hK1, hf⟩ := jn_some hf
  have J1 : ∀ (q1 : Int32 × Int32) (ls : Array Slot) (hl : lv_has ls 6 [(2, .int q1.1)]) (hf : K1 q1 = some x), W p l e (headSpec wsX11_wantedOf rmX11_wantedOf).room s m args below meth c s.heap [] 0 0 Q (F0 m 96 ls []) := by
    intro q1 ls hl hf
    have hf := (hK1 q1).trans hf
    refine lv_iload_n hx hb dX11_wantedOf_96 rfl (lv_at hl 0 rfl) ?_
    cases Option.some.inj hf
    subst hQe
    exact en_i hx hb hr hlocks dX11_wantedOf_97
  have L1 : ∀ (n : Nat) (q1 : Int32 × Int32) (ls : Array Slot) (hl : lv_has ls 6 [(0, .ref a0), (1, .int p1), (2, .int q1.1), (3, .int q1.2)]) (hf : lpF (bX11_wantedOf_1 v0 p1 K1) n q1 = some x), W p l e (headSpec wsX11_wantedOf rmX11_wantedOf).room s m args below meth c s.heap [] 0 0 Q (F0 m 4 ls []) := by
    intro n
    induction n with
    | zero => intro q1 ls hl hf; exact (lpF_zero hf).elim
    | succ n ih1 =>
      intro q1 ls hl hf
      have hf := lpF_succ hf
      unfold bX11_wantedOf_1 at hf
      refine lv_iload_n hx hb dX11_wantedOf_4 rfl (lv_at hl 3 rfl) ?_
      refine lv_bipush (v := 6) hx hb dX11_wantedOf_5 rfl ?_
      refine lv_icmp_ge (tgt := 96) hx hb dX11_wantedOf_7 rfl (fun c2 => ?_) (fun c2 => ?_)
      · have hf := it_t hf c2
        exact J1 (q1.1, q1.2) ls (lv_sub hl [2] rfl) hf
      · have hf := it_f hf c2
        refine lv_iconst (v := 0) hx hb dX11_wantedOf_10 rfl ?_
        refine lv_istore (lv' := [(4, .int (0 : Int32)), (0, .ref a0), (1, .int p1), (2, .int q1.1), (3, .int q1.2)]) hx hb dX11_wantedOf_11 hl (by decide) rfl (fun ls hl => ?_)
        obtain ⟨K3, hK3, hf⟩ := jn_some hf
        have J3 : ∀ (q3 : Int32 × Int32) (ls : Array Slot) (hl : lv_has ls 6 [(0, .ref a0), (1, .int p1), (2, .int q3.1), (3, .int q1.2)]) (hf : K3 q3 = some x), W p l e (headSpec wsX11_wantedOf rmX11_wantedOf).room s m args below meth c s.heap [] 0 0 Q (F0 m 90 ls []) := by
          intro q3 ls hl hf
          have hf := (hK3 q3).trans hf
          refine lv_iinc (v := (q1.2 + 1)) (lv' := [(3, .int (q1.2 + 1)), (0, .ref a0), (1, .int p1), (2, .int q3.1)]) hx hb dX11_wantedOf_90 hl (k := 3) rfl rfl (by decide) rfl (fun ls hl => ?_)
          refine lv_goto (tgt := 4) hx hb dX11_wantedOf_93 rfl ?_
          exact ih1 (q3.1, (q1.2 + 1)) ls (lv_sub hl [1, 2, 3, 0] rfl) hf
        have L3 : ∀ (n : Nat) (q3 : Int32 × Int32) (ls : Array Slot) (hl : lv_has ls 6 [(0, .ref a0), (1, .int p1), (2, .int q3.1), (3, .int q1.2), (4, .int q3.2)]) (hf : lpF (bX11_wantedOf_3 v0 q1 p1 K3) n q3 = some x), W p l e (headSpec wsX11_wantedOf rmX11_wantedOf).room s m args below meth c s.heap [] 0 0 Q (F0 m 13 ls []) := by
          intro n
          induction n with
          | zero => intro q3 ls hl hf; exact (lpF_zero hf).elim
          | succ n ih3 =>
            intro q3 ls hl hf
            have hf := lpF_succ hf
            unfold bX11_wantedOf_3 at hf
            refine lv_iload hx hb dX11_wantedOf_13 (lv_at hl 4 rfl) ?_
            refine lv_aload_n hx hb dX11_wantedOf_15 rfl (lv_at hl 0 rfl) ?_
            refine lv_iload_n hx hb dX11_wantedOf_16 rfl (lv_at hl 3 rfl) ?_
            obtain ⟨r4, e4, hf⟩ := bd_some hf
            refine cr_i (va_runS (As := [.ref a0, .int q1.2]) (rest := [.int q3.2]) ⟨hx, hb, hml, hown, hts⟩ (c_X11_many l E a0 v0 q1.2 r4 e4) (va_cwS 2 hts gX11_wantedOf_X11_many rfl rfl rfl hdS_X11_many ⟨Nat.le_of_ble_eq_true rfl, Nat.le_of_ble_eq_true rfl⟩) ⟨PR.blind, PR.pre hC hS hP⟩ rfl rfl hl.1 rfl (lv_room (Nat.le_of_ble_eq_true rfl)) dX11_wantedOf_17 ⟨Nat.le_of_ble_eq_true rfl, Nat.le_of_ble_eq_true rfl⟩) ?_
            refine lv_icmp_ge (tgt := 90) hx hb dX11_wantedOf_20 rfl (fun c5 => ?_) (fun c5 => ?_)
            · have hf := it_t hf c5
              exact J3 (q3.1, q3.2) ls (lv_sub hl [0, 1, 2, 3] rfl) hf
            · have hf := it_f hf c5
              refine lv_aload_n hx hb dX11_wantedOf_23 rfl (lv_at hl 0 rfl) ?_
              refine lv_iload_n hx hb dX11_wantedOf_24 rfl (lv_at hl 3 rfl) ?_
              refine lv_iload hx hb dX11_wantedOf_25 (lv_at hl 4 rfl) ?_
              obtain ⟨r6, e6, hf⟩ := bd_some hf
              refine cr_i (va_runS (As := [.ref a0, .int q1.2, .int q3.2]) (rest := []) ⟨hx, hb, hml, hown, hts⟩ (c_X11_chunkOf l E a0 v0 q1.2 q3.2 r6 e6) (va_cwS 3 hts gX11_wantedOf_X11_chunkOf rfl rfl rfl hdS_X11_chunkOf ⟨Nat.le_of_ble_eq_true rfl, Nat.le_of_ble_eq_true rfl⟩) ⟨PR.blind, PR.pre hC hS hP⟩ rfl rfl hl.1 rfl (lv_room (Nat.le_of_ble_eq_true rfl)) dX11_wantedOf_27 ⟨Nat.le_of_ble_eq_true rfl, Nat.le_of_ble_eq_true rfl⟩) ?_
              refine lv_iload_n hx hb dX11_wantedOf_30 rfl (lv_at hl 1 rfl) ?_
              obtain ⟨q7, e7, hf⟩ := bd_some hf
              have J7 : W p l e (headSpec wsX11_wantedOf rmX11_wantedOf).room s m args below meth c s.heap [] 0 0 Q (F0 m 69 ls [.int q7]) := by
                refine lv_istore (lv' := [(5, .int q7), (0, .ref a0), (1, .int p1), (2, .int q3.1), (3, .int q1.2), (4, .int q3.2)]) hx hb dX11_wantedOf_69 hl (by decide) rfl (fun ls hl => ?_)
                refine lv_iload hx hb dX11_wantedOf_71 (lv_at hl 0 rfl) ?_
                refine lv_iload_n hx hb dX11_wantedOf_73 rfl (lv_at hl 3 rfl) ?_
                refine lv_icmp_le (tgt := 82) hx hb dX11_wantedOf_74 rfl (fun c8 => ?_) (fun c8 => ?_)
                · have hf := it_t hf c8
                  refine lv_iload_n hx hb dX11_wantedOf_82 rfl (lv_at hl 3 rfl) ?_
                  refine lv_istore_n (lv' := [(2, .int q3.1), (5, .int q7), (0, .ref a0), (1, .int p1), (3, .int q1.2), (4, .int q3.2)]) hx hb dX11_wantedOf_83 rfl hl (by decide) rfl (fun ls hl => ?_)
                  refine lv_iinc (v := (q3.2 + 1)) (lv' := [(4, .int (q3.2 + 1)), (2, .int q3.1), (5, .int q7), (0, .ref a0), (1, .int p1), (3, .int q1.2)]) hx hb dX11_wantedOf_84 hl (k := 5) rfl rfl (by decide) rfl (fun ls hl => ?_)
                  refine lv_goto (tgt := 13) hx hb dX11_wantedOf_87 rfl ?_
                  exact ih3 (q3.1, (q3.2 + 1)) ls (lv_sub hl [3, 4, 1, 5, 0] rfl) hf
                · have hf := it_f hf c8
                  refine lv_iload hx hb dX11_wantedOf_77 (lv_at hl 0 rfl) ?_
                  refine lv_goto (tgt := 83) hx hb dX11_wantedOf_79 rfl ?_
                  refine lv_istore_n (lv' := [(2, .int q7), (5, .int q7), (0, .ref a0), (1, .int p1), (3, .int q1.2), (4, .int q3.2)]) hx hb dX11_wantedOf_83 rfl hl (by decide) rfl (fun ls hl => ?_)
                  refine lv_iinc (v := (q3.2 + 1)) (lv' := [(4, .int (q3.2 + 1)), (2, .int q7), (5, .int q7), (0, .ref a0), (1, .int p1), (3, .int q1.2)]) hx hb dX11_wantedOf_84 hl (k := 5) rfl rfl (by decide) rfl (fun ls hl => ?_)
                  refine lv_goto (tgt := 13) hx hb dX11_wantedOf_87 rfl ?_
                  exact ih3 (q7, (q3.2 + 1)) ls (lv_sub hl [3, 4, 1, 5, 0] rfl) hf
              have hf := e7
              refine lv_icmp_ne (tgt := 68) hx hb dX11_wantedOf_31 rfl (fun c9 => ?_) (fun c9 => ?_)
              · have hf := it_f hf c9
                refine lv_iconst (v := 0) hx hb dX11_wantedOf_68 rfl ?_
                cases Option.some.inj hf
                exact J7
              · have hf := it_t hf c9
                refine lv_aload_n hx hb dX11_wantedOf_34 rfl (lv_at hl 0 rfl) ?_
                refine lv_bipush (v := 22) hx hb dX11_wantedOf_35 rfl ?_
                refine lv_bipush (v := 8) hx hb dX11_wantedOf_37 rfl ?_
                refine lv_iload_n hx hb dX11_wantedOf_39 rfl (lv_at hl 3 rfl) ?_
                refine lv_imul hx hb dX11_wantedOf_40 ?_
                refine lv_iadd hx hb dX11_wantedOf_41 ?_
                refine lv_iconst (v := 0) hx hb dX11_wantedOf_42 rfl ?_
                refine lv_iadd hx hb dX11_wantedOf_43 ?_
                obtain ⟨h10, hf⟩ := gdI_some hf
                refine va_lald hx hb hC.1 hP 0 1 rfl rfl h10 dX11_wantedOf_44 ?_
                refine lv_lconst (v := 0) hx hb dX11_wantedOf_45 rfl ?_
                refine W.lcmp hx hb dX11_wantedOf_46 ?_
                refine lv_if_eq (tgt := 68) hx hb dX11_wantedOf_47 rfl (fun c11 => ?_) (fun c11 => ?_)
                · have hf := it_t hf c11
                  refine lv_iconst (v := 0) hx hb dX11_wantedOf_68 rfl ?_
                  cases Option.some.inj hf
                  exact J7
                · have hf := it_f hf c11
                  refine lv_aload_n hx hb dX11_wantedOf_50 rfl (lv_at hl 0 rfl) ?_
                  refine lv_aload_n hx hb dX11_wantedOf_51 rfl (lv_at hl 0 rfl) ?_
                  refine lv_bipush (v := 22) hx hb dX11_wantedOf_52 rfl ?_
                  refine lv_bipush (v := 8) hx hb dX11_wantedOf_54 rfl ?_
                  refine lv_iload_n hx hb dX11_wantedOf_56 rfl (lv_at hl 3 rfl) ?_
                  refine lv_imul hx hb dX11_wantedOf_57 ?_
                  refine lv_iadd hx hb dX11_wantedOf_58 ?_
                  refine lv_iconst (v := 1) hx hb dX11_wantedOf_59 rfl ?_
                  refine lv_iadd hx hb dX11_wantedOf_60 ?_
                  obtain ⟨h12, hf⟩ := gdI_some hf
                  refine va_lald hx hb hC.1 hP 0 1 rfl rfl h12 dX11_wantedOf_61 ?_
                  obtain ⟨r13, e13, hf⟩ := bd_some hf
                  refine cr_i (va_runS (As := [.ref a0, .long (v0 (((22 : Int32) + ((8 : Int32) * q1.2)) + (1 : Int32)).toNatClampNeg)]) (rest := []) ⟨hx, hb, hml, hown, hts⟩ (c_X11_wanted l E a0 v0 (v0 (((22 : Int32) + ((8 : Int32) * q1.2)) + (1 : Int32)).toNatClampNeg) r13 e13) (va_cwS 2 hts gX11_wantedOf_X11_wanted rfl rfl rfl hdS_X11_wanted ⟨Nat.le_of_ble_eq_true rfl, Nat.le_of_ble_eq_true rfl⟩) ⟨PR.blind, PR.pre hC hS hP⟩ rfl rfl hl.1 rfl (lv_room (Nat.le_of_ble_eq_true rfl)) dX11_wantedOf_62 ⟨Nat.le_of_ble_eq_true rfl, Nat.le_of_ble_eq_true rfl⟩) ?_
                  refine lv_goto (tgt := 69) hx hb dX11_wantedOf_65 rfl ?_
                  cases Option.some.inj hf
                  exact J7
        exact L3 FU (q1.1, (0 : Int32)) ls (lv_sub hl [1, 2, 3, 4, 0] rfl) hf
  exact L1 FU ((0 : Int32), (0 : Int32)) ls (lv_sub hl [2, 3, 1, 0] rfl) hf

/-! X11_poor -/
abbrev rmX11_poor : Room := { frames := 4, cells := 0, slots := 0, locals := 89 }
theorem hdS_X11_poor : yX11_poor.cls ≠ "java/lang/invoke/MethodHandle" ∧ yX11_poor.cls ≠ "java/lang/invoke/VarHandle" ∧ (parseMethodDescriptor yX11_poor.desc).map (fun d => d.parameters.length) = some 1 := by decide +kernel
set_option maxHeartbeats 4000000 in
set_option maxRecDepth 100000 in
theorem c_X11_poor (l : Launch) (E : G0) (a0 : Nat) (v0 : (Nat → Int64)) (x : Int32) (hf : f_X11_poor v0 = some x) : Met l yX11_poor wsX11_poor rmX11_poor (va_Pc [.ref a0] (PR E (wLA E a0 340 v0))) (vp_Si (fun r => r = x)) 0 0 (fun _ => False) := by
  refine Met.ofW (cc := cX11_poor) (maxL := 3) (ret := some .int) (by decide) rfl ?_
  intro p e s m args below meth c s₁ B hml hv
  obtain ⟨ha, hP, hC⟩ := hv
  have hx := B.exec
  have hb := B.bytes
  have hr := B.returns
  have hts := atoms_spec (ws := wsX11_poor) B.pre
  have hown : s.vm.findClass RX11 = some m.cls := findClass_of_methodNamed B.named
  have hlocks := B.notSynchronized
  have hS : va_S (fun _ => False) s.heap s.heap [] := va_S.rf
  have w1 : (Cond.constant RX11 186 (-1000000)).before args s = true := hts _ (List.mem_of_getElem? (i := 1) rfl)
  generalize hQe : MQ below (vp_Si (fun r => r = x)) args s 0 0 (fun _ => False) = Q
  refine st_W ha (Nat.le_of_ble_eq_true rfl) (fun ls hl => ?_)
  have hl : lv_has ls 3 [(0, .ref a0)] := hl
  unfold f_X11_poor at hf
  refine lv_iconst (v := 0) hx hb dX11_poor_0 rfl ?_
  refine lv_istore_n (lv' := [(1, .int (0 : Int32)), (0, .ref a0)]) hx hb dX11_poor_1 rfl hl (by decide) rfl (fun ls hl => ?_)
  obtain ⟨K1, hK1, hf⟩ := jn_some hf
  have J1 : ∀ (q1 : Int32) (ls : Array Slot) (hl : lv_has ls 3 []) (hf : K1 q1 = some x), W p l e (headSpec wsX11_poor rmX11_poor).room s m args below meth c s.heap [] 0 0 Q (F0 m 68 ls []) := by
    intro q1 ls hl hf
    have hf := (hK1 q1).trans hf
    refine lv_ldc hx hb hown w1 dX11_poor_68 ?_
    cases Option.some.inj hf
    subst hQe
    exact en_i hx hb hr hlocks dX11_poor_70
  have L1 : ∀ (n : Nat) (q1 : Int32) (ls : Array Slot) (hl : lv_has ls 3 [(0, .ref a0), (1, .int q1)]) (hf : lpF (bX11_poor_1 v0 K1) n q1 = some x), W p l e (headSpec wsX11_poor rmX11_poor).room s m args below meth c s.heap [] 0 0 Q (F0 m 2 ls []) := by
    intro n
    induction n with
    | zero => intro q1 ls hl hf; exact (lpF_zero hf).elim
    | succ n ih1 =>
      intro q1 ls hl hf
      have hf := lpF_succ hf
      unfold bX11_poor_1 at hf
      refine lv_iload_n hx hb dX11_poor_2 rfl (lv_at hl 1 rfl) ?_
      refine lv_i2l hx hb dX11_poor_3 rfl ?_
      refine lv_aload_n hx hb dX11_poor_4 rfl (lv_at hl 0 rfl) ?_
      refine lv_bipush (v := 6) hx hb dX11_poor_5 rfl ?_
      obtain ⟨h2, hf⟩ := gdI_some hf
      refine va_lald hx hb hC.1 hP 0 1 rfl rfl h2 dX11_poor_7 ?_
      refine W.lcmp hx hb dX11_poor_8 ?_
      refine lv_if_ge (tgt := 68) hx hb dX11_poor_9 rfl (fun c3 => ?_) (fun c3 => ?_)
      · have hf := it_t hf c3
        exact J1 q1 ls (lv_sub hl [] rfl) hf
      · have hf := it_f hf c3
        refine lv_aload_n hx hb dX11_poor_12 rfl (lv_at hl 0 rfl) ?_
        refine lv_iload_n hx hb dX11_poor_13 rfl (lv_at hl 1 rfl) ?_
        obtain ⟨r4, e4, hf⟩ := bd_some hf
        refine cr_i (va_runS (As := [.ref a0, .int q1]) (rest := []) ⟨hx, hb, hml, hown, hts⟩ (c_X11_ables l E a0 v0 q1 r4 e4) (va_cwS 2 hts gX11_poor_X11_ables rfl rfl rfl hdS_X11_ables ⟨Nat.le_of_ble_eq_true rfl, Nat.le_of_ble_eq_true rfl⟩) ⟨PR.blind, PR.pre hC hS hP⟩ rfl rfl hl.1 rfl (lv_room (Nat.le_of_ble_eq_true rfl)) dX11_poor_14 ⟨Nat.le_of_ble_eq_true rfl, Nat.le_of_ble_eq_true rfl⟩) ?_
        refine lv_istore_n (lv' := [(2, .int r4), (0, .ref a0), (1, .int q1)]) hx hb dX11_poor_17 rfl hl (by decide) rfl (fun ls hl => ?_)
        refine lv_aload_n hx hb dX11_poor_18 rfl (lv_at hl 1 rfl) ?_
        refine lv_bipush (v := 70) hx hb dX11_poor_19 rfl ?_
        refine lv_iconst (v := 4) hx hb dX11_poor_21 rfl ?_
        refine lv_iload_n hx hb dX11_poor_22 rfl (lv_at hl 2 rfl) ?_
        refine lv_imul hx hb dX11_poor_23 ?_
        refine lv_iadd hx hb dX11_poor_24 ?_
        refine lv_iconst (v := 1) hx hb dX11_poor_25 rfl ?_
        refine lv_iadd hx hb dX11_poor_26 ?_
        obtain ⟨h5, hf⟩ := gdI_some hf
        refine va_lald hx hb hC.1 hP 0 1 rfl rfl h5 dX11_poor_27 ?_
        refine lv_lconst (v := 0) hx hb dX11_poor_28 rfl ?_
        refine W.lcmp hx hb dX11_poor_29 ?_
        refine lv_if_le (tgt := 62) hx hb dX11_poor_30 rfl (fun c6 => ?_) (fun c6 => ?_)
        · have hf := it_t hf c6
          refine lv_iinc (v := (q1 + 1)) (lv' := [(1, .int (q1 + 1)), (2, .int r4), (0, .ref a0)]) hx hb dX11_poor_62 hl (k := 2) rfl rfl (by decide) rfl (fun ls hl => ?_)
          refine lv_goto (tgt := 2) hx hb dX11_poor_65 rfl ?_
          exact ih1 (q1 + 1) ls (lv_sub hl [2, 0] rfl) hf
        · have hf := it_f hf c6
          refine lv_iload_n hx hb dX11_poor_33 rfl (lv_at hl 0 rfl) ?_
          refine lv_if_eq (tgt := 62) hx hb dX11_poor_34 rfl (fun c7 => ?_) (fun c7 => ?_)
          · have hf := it_t hf c7
            refine lv_iinc (v := (q1 + 1)) (lv' := [(1, .int (q1 + 1)), (2, .int r4), (0, .ref a0)]) hx hb dX11_poor_62 hl (k := 2) rfl rfl (by decide) rfl (fun ls hl => ?_)
            refine lv_goto (tgt := 2) hx hb dX11_poor_65 rfl ?_
            exact ih1 (q1 + 1) ls (lv_sub hl [2, 0] rfl) hf
          · have hf := it_f hf c7
            refine lv_iload_n hx hb dX11_poor_37 rfl (lv_at hl 0 rfl) ?_
            obtain ⟨r8, e8, hf⟩ := bd_some hf
            refine cr_i (va_runS (As := [.int r4]) (rest := []) ⟨hx, hb, hml, hown, hts⟩ (c_X11_ones l E r4 r8 e8) (va_cwS 1 hts gX11_poor_X11_ones rfl rfl rfl hdS_X11_ones ⟨Nat.le_of_ble_eq_true rfl, Nat.le_of_ble_eq_true rfl⟩) ⟨PR.blind, PR.pre hC hS (hP.sub [] rfl)⟩ rfl rfl hl.1 rfl (lv_room (Nat.le_of_ble_eq_true rfl)) dX11_poor_38 ⟨Nat.le_of_ble_eq_true rfl, Nat.le_of_ble_eq_true rfl⟩) ?_
            refine lv_aload_n hx hb dX11_poor_41 rfl (lv_at hl 1 rfl) ?_
            refine lv_iload_n hx hb dX11_poor_42 rfl (lv_at hl 2 rfl) ?_
            obtain ⟨r9, e9, hf⟩ := bd_some hf
            refine cr_i (va_runS (As := [.ref a0, .int q1]) (rest := [.int r8]) ⟨hx, hb, hml, hown, hts⟩ (c_X11_wantedOf l E a0 v0 q1 r9 e9) (va_cwS 2 hts gX11_poor_X11_wantedOf rfl rfl rfl hdS_X11_wantedOf ⟨Nat.le_of_ble_eq_true rfl, Nat.le_of_ble_eq_true rfl⟩) ⟨PR.blind, PR.pre hC hS hP⟩ rfl rfl hl.1 rfl (lv_room (Nat.le_of_ble_eq_true rfl)) dX11_poor_43 ⟨Nat.le_of_ble_eq_true rfl, Nat.le_of_ble_eq_true rfl⟩) ?_
            refine lv_icmp_ge (tgt := 62) hx hb dX11_poor_46 rfl (fun c10 => ?_) (fun c10 => ?_)
            · have hf := it_t hf c10
              refine lv_iinc (v := (q1 + 1)) (lv' := [(1, .int (q1 + 1)), (2, .int r4), (0, .ref a0)]) hx hb dX11_poor_62 hl (k := 2) rfl rfl (by decide) rfl (fun ls hl => ?_)
              refine lv_goto (tgt := 2) hx hb dX11_poor_65 rfl ?_
              exact ih1 (q1 + 1) ls (lv_sub hl [2, 0] rfl) hf
            · have hf := it_f hf c10
              refine lv_aload_n hx hb dX11_poor_49 rfl (lv_at hl 1 rfl) ?_
              obtain ⟨r11, e11, hf⟩ := bd_some hf
              refine cr_i (va_runS (As := [.ref a0]) (rest := []) ⟨hx, hb, hml, hown, hts⟩ (c_X11_ups l E a0 v0 r11 e11) (va_cwS 1 hts gX11_poor_X11_ups rfl rfl rfl hdS_X11_ups ⟨Nat.le_of_ble_eq_true rfl, Nat.le_of_ble_eq_true rfl⟩) ⟨PR.blind, PR.pre hC hS hP⟩ rfl rfl hl.1 rfl (lv_room (Nat.le_of_ble_eq_true rfl)) dX11_poor_50 ⟨Nat.le_of_ble_eq_true rfl, Nat.le_of_ble_eq_true rfl⟩) ?_
              refine lv_iload_n hx hb dX11_poor_53 rfl (lv_at hl 0 rfl) ?_
              refine lv_iconst (v := (-1)) hx hb dX11_poor_54 rfl ?_
              refine lv_ixor hx hb dX11_poor_55 ?_
              refine lv_iand hx hb dX11_poor_56 ?_
              refine lv_if_eq (tgt := 62) hx hb dX11_poor_57 rfl (fun c12 => ?_) (fun c12 => ?_)
              · have hf := it_t hf c12
                refine lv_iinc (v := (q1 + 1)) (lv' := [(1, .int (q1 + 1)), (2, .int r4), (0, .ref a0)]) hx hb dX11_poor_62 hl (k := 2) rfl rfl (by decide) rfl (fun ls hl => ?_)
                refine lv_goto (tgt := 2) hx hb dX11_poor_65 rfl ?_
                exact ih1 (q1 + 1) ls (lv_sub hl [2, 0] rfl) hf
              · have hf := it_f hf c12
                refine lv_iload_n hx hb dX11_poor_60 rfl (lv_at hl 2 rfl) ?_
                cases Option.some.inj hf
                subst hQe
                exact en_i hx hb hr hlocks dX11_poor_61
  exact L1 FU (0 : Int32) ls (lv_sub hl [1, 0] rfl) hf

/-! X11_gives -/
abbrev rmX11_gives : Room := { frames := 4, cells := 0, slots := 0, locals := 89 }
theorem hdS_X11_gives : yX11_gives.cls ≠ "java/lang/invoke/MethodHandle" ∧ yX11_gives.cls ≠ "java/lang/invoke/VarHandle" ∧ (parseMethodDescriptor yX11_gives.desc).map (fun d => d.parameters.length) = some 2 := by decide +kernel
set_option maxHeartbeats 4000000 in
set_option maxRecDepth 100000 in
theorem c_X11_gives (l : Launch) (E : G0) (sz : Nat) (a0 : Nat) (v0 : (Nat → Int64)) (p1 : Int32) (x : (Nat → Int64)) (hf : f_X11_gives v0 p1 = some x) : Met l yX11_gives wsX11_gives rmX11_gives (va_Pc [.ref a0, .int p1] (PW E (wLA E a0 340 v0) sz)) (va_Qv (fun q => q = x) (fun q t => va_P E.1 vwCl ((fun q : (Nat → Int64) => wLA E a0 340 q) q) t.heap ∧ va_D (va_A (wLA E a0 340 v0) sz) ((fun q : (Nat → Int64) => wLA E a0 340 q) q)) (va_A (wLA E a0 340 v0) sz)) 0 0 (va_A (wLA E a0 340 v0) sz) := by
  refine Met.ofW (cc := cX11_gives) (maxL := 3) (ret := none) (by decide) rfl ?_
  intro p e s m args below meth c s₁ B hml hv
  obtain ⟨ha, hsz, hP, hD0, hC⟩ := hv
  have hx := B.exec
  have hb := B.bytes
  have hr := B.returns
  have hts := atoms_spec (ws := wsX11_gives) B.pre
  have hown : s.vm.findClass RX11 = some m.cls := findClass_of_methodNamed B.named
  have hlocks := B.notSynchronized
  subst hsz
  have hD := hD0.self (sz := s.heap.size)
  generalize hAe : va_A (wLA E a0 340 v0) s.heap.size = A at hD hC ⊢
  have hA : ∀ q : Nat, s.heap.size ≤ q → A q := fun q h => by rw [← hAe]; exact Or.inr h
  have hS : va_S A s.heap s.heap [] := va_S.rf
  generalize hQe : MQ below (va_Qv (fun q => q = x) (fun q t => va_P E.1 vwCl ((fun q : (Nat → Int64) => wLA E a0 340 q) q) t.heap ∧ va_D A ((fun q : (Nat → Int64) => wLA E a0 340 q) q)) A) args s 0 0 A = Q
  refine st_W ha (Nat.le_of_ble_eq_true rfl) (fun ls hl => ?_)
  have hl : lv_has ls 3 [(0, .ref a0), (1, .int p1)] := hl
  unfold f_X11_gives at hf
  refine lv_aload_n hx hb dX11_gives_0 rfl (lv_at hl 0 rfl) ?_
  refine lv_iload_n hx hb dX11_gives_1 rfl (lv_at hl 1 rfl) ?_
  obtain ⟨r1, e1, hf⟩ := bd_some hf
  refine cr_i (va_runS (As := [.ref a0, .int p1]) (rest := []) ⟨hx, hb, hml, hown, hts⟩ (c_X11_ables l E a0 v0 p1 r1 e1) (va_cwS 2 hts gX11_gives_X11_ables rfl rfl rfl hdS_X11_ables ⟨Nat.le_of_ble_eq_true rfl, Nat.le_of_ble_eq_true rfl⟩) ⟨PR.blind, PR.pre hC hS hP⟩ rfl rfl hl.1 rfl (lv_room (Nat.le_of_ble_eq_true rfl)) dX11_gives_2 ⟨Nat.le_of_ble_eq_true rfl, Nat.le_of_ble_eq_true rfl⟩) ?_
  refine lv_istore_n (lv' := [(2, .int r1), (0, .ref a0), (1, .int p1)]) hx hb dX11_gives_5 rfl hl (by decide) rfl (fun ls hl => ?_)
  refine lv_aload_n hx hb dX11_gives_6 rfl (lv_at hl 1 rfl) ?_
  refine lv_sipush (v := 190) hx hb dX11_gives_7 rfl ?_
  refine lv_iconst (v := 5) hx hb dX11_gives_10 rfl ?_
  refine lv_iload_n hx hb dX11_gives_11 rfl (lv_at hl 2 rfl) ?_
  refine lv_imul hx hb dX11_gives_12 ?_
  refine lv_iadd hx hb dX11_gives_13 ?_
  refine lv_aload_n hx hb dX11_gives_14 rfl (lv_at hl 1 rfl) ?_
  refine lv_aload_n hx hb dX11_gives_15 rfl (lv_at hl 1 rfl) ?_
  obtain ⟨r2, e2, hf⟩ := bd_some hf
  refine cr_i (va_runS (As := [.ref a0]) (rest := [.ref a0, .int ((190 : Int32) + ((5 : Int32) * p1)), .ref a0]) ⟨hx, hb, hml, hown, hts⟩ (c_X11_ups l E a0 v0 r2 e2) (va_cwS 1 hts gX11_gives_X11_ups rfl rfl rfl hdS_X11_ups ⟨Nat.le_of_ble_eq_true rfl, Nat.le_of_ble_eq_true rfl⟩) ⟨PR.blind, PR.pre hC hS hP⟩ rfl rfl hl.1 rfl (lv_room (Nat.le_of_ble_eq_true rfl)) dX11_gives_16 ⟨Nat.le_of_ble_eq_true rfl, Nat.le_of_ble_eq_true rfl⟩) ?_
  refine lv_iload_n hx hb dX11_gives_19 rfl (lv_at hl 0 rfl) ?_
  refine lv_iconst (v := (-1)) hx hb dX11_gives_20 rfl ?_
  refine lv_ixor hx hb dX11_gives_21 ?_
  refine lv_iand hx hb dX11_gives_22 ?_
  obtain ⟨r3, e3, hf⟩ := bd_some hf
  refine cr_i (va_runS (As := [.ref a0, .int (r2 &&& (r1 ^^^ (-1 : Int32)))]) (rest := [.int ((190 : Int32) + ((5 : Int32) * p1)), .ref a0]) ⟨hx, hb, hml, hown, hts⟩ (c_X11_best l E a0 v0 (r2 &&& (r1 ^^^ (-1 : Int32))) r3 e3) (va_cwS 2 hts gX11_gives_X11_best rfl rfl rfl hdS_X11_best ⟨Nat.le_of_ble_eq_true rfl, Nat.le_of_ble_eq_true rfl⟩) ⟨PR.blind, PR.pre hC hS hP⟩ rfl rfl hl.1 rfl (lv_room (Nat.le_of_ble_eq_true rfl)) dX11_gives_23 ⟨Nat.le_of_ble_eq_true rfl, Nat.le_of_ble_eq_true rfl⟩) ?_
  refine lv_iadd hx hb dX11_gives_26 ?_
  refine lv_aload_n hx hb dX11_gives_27 rfl (lv_at hl 1 rfl) ?_
  refine lv_iload_n hx hb dX11_gives_28 rfl (lv_at hl 2 rfl) ?_
  refine lv_iload_n hx hb dX11_gives_29 rfl (lv_at hl 0 rfl) ?_
  obtain ⟨r4, e4, hf⟩ := bd_some hf
  refine cr_i (va_runS (As := [.int r1]) (rest := [.int p1, .ref a0, .int (((190 : Int32) + ((5 : Int32) * p1)) + r3), .ref a0]) ⟨hx, hb, hml, hown, hts⟩ (c_X11_least l E r1 r4 e4) (va_cwS 1 hts gX11_gives_X11_least rfl rfl rfl hdS_X11_least ⟨Nat.le_of_ble_eq_true rfl, Nat.le_of_ble_eq_true rfl⟩) ⟨PR.blind, PR.pre hC hS (hP.sub [] rfl)⟩ rfl rfl hl.1 rfl (lv_room (Nat.le_of_ble_eq_true rfl)) dX11_gives_30 ⟨Nat.le_of_ble_eq_true rfl, Nat.le_of_ble_eq_true rfl⟩) ?_
  obtain ⟨r5, e5, hf⟩ := bd_some hf
  refine cr_l (va_runS (As := [.ref a0, .int p1, .int r4]) (rest := [.int (((190 : Int32) + ((5 : Int32) * p1)) + r3), .ref a0]) ⟨hx, hb, hml, hown, hts⟩ (c_X11_copy l E a0 v0 p1 r4 r5 e5) (va_cwS 3 hts gX11_gives_X11_copy rfl rfl rfl hdS_X11_copy ⟨Nat.le_of_ble_eq_true rfl, Nat.le_of_ble_eq_true rfl⟩) ⟨PR.blind, PR.pre hC hS hP⟩ rfl rfl hl.1 rfl (lv_room (Nat.le_of_ble_eq_true rfl)) dX11_gives_33 ⟨Nat.le_of_ble_eq_true rfl, Nat.le_of_ble_eq_true rfl⟩) ?_
  obtain ⟨h6, hf⟩ := gdI_some hf
  refine va_last hx hb hC.1 hP hD hS 0 1 rfl rfl h6 dX11_gives_36 (fun H locs hP hD hS => ?_)
  have hP : va_P E.1 vwCl (wLA E a0 340 (vp_updL v0 (((190 : Int32) + ((5 : Int32) * p1)) + r3).toNatClampNeg r5)) H := hP
  have hD : va_D A (wLA E a0 340 (vp_updL v0 (((190 : Int32) + ((5 : Int32) * p1)) + r3).toNatClampNeg r5)) := hD
  cases Option.some.inj hf
  subst hQe
  exact ew_v (wf := (fun q : (Nat → Int64) => wLA E a0 340 q)) hx hb hr hlocks hP hD hS dX11_gives_37

/-! X11_byteAt -/
abbrev rmX11_byteAt : Room := { frames := 0, cells := 0, slots := 0, locals := 0 }
theorem hdS_X11_byteAt : yX11_byteAt.cls ≠ "java/lang/invoke/MethodHandle" ∧ yX11_byteAt.cls ≠ "java/lang/invoke/VarHandle" ∧ (parseMethodDescriptor yX11_byteAt.desc).map (fun d => d.parameters.length) = some 1 := by decide +kernel
theorem hdV_X11_byteAt : yX11_byteAt.cls = RX11 ∧ yX11_byteAt.cls ≠ "java/lang/invoke/MethodHandle" ∧ yX11_byteAt.cls ≠ "java/lang/invoke/VarHandle" ∧ (parseMethodDescriptor yX11_byteAt.desc).map (fun d => d.parameters.length) = some 1 := ⟨rfl, hdS_X11_byteAt⟩
set_option maxHeartbeats 4000000 in
set_option maxRecDepth 100000 in
theorem c_X11_byteAt (l : Launch) (E : G0) (a0 : Nat → Nat) (v0 : MD) (p1 : Int32) (x : Int32) (hf : f_X11_byteAt v0 p1 = some x) : Met l yX11_byteAt wsX11_byteAt rmX11_byteAt (va_Pc [.ref (a0 0), .int p1] (PR E (wMD E a0 v0))) (vp_Si (fun r => r = x)) 0 0 (fun _ => False) := by
  refine Met.ofW (cc := cX11_byteAt) (maxL := 2) (ret := some .int) (by decide) rfl ?_
  intro p e s m args below meth c s₁ B hml hv
  obtain ⟨ha, hP, hC⟩ := hv
  have hx := B.exec
  have hb := B.bytes
  have hr := B.returns
  have hts := atoms_spec (ws := wsX11_byteAt) B.pre
  have hown : s.vm.findClass RX11 = some m.cls := findClass_of_methodNamed B.named
  have hlocks := B.notSynchronized
  have hS : va_S (fun _ => False) s.heap s.heap [] := va_S.rf
  have w1 : (Cond.fieldLink RX11 187 "GreatChunksModel" "taped" "I").before args s = true := hts _ (List.mem_of_getElem? (i := 1) rfl)
  have w2 : ∀ w ∈ wsX110, w ∈ wsX11_byteAt := in_pl 3 rfl
  have w3 : (Cond.fieldLink RX11 26 "GreatChunksModel" "tape" "[I").before args s = true := hts _ (List.mem_of_getElem? (i := 2) rfl)
  generalize hQe : MQ below (vp_Si (fun r => r = x)) args s 0 0 (fun _ => False) = Q
  refine st_W ha (Nat.le_of_ble_eq_true rfl) (fun ls hl => ?_)
  have hl : lv_has ls 2 [(0, .ref (a0 0)), (1, .int p1)] := hl
  unfold f_X11_byteAt at hf
  refine lv_iload_n hx hb dX11_byteAt_0 rfl (lv_at hl 1 rfl) ?_
  refine lv_aload_n hx hb dX11_byteAt_1 rfl (lv_at hl 0 rfl) ?_
  refine va_get (D := E.1) (ci := 9) (v := .int v0.2.2.2.2.2.2.2.1) (C := RX11) (T := TX11) (N := 17) hx hb hts w2 hown hC.1 hP 0 rfl rfl 7 (by decide) w1 (fun _ h9 => h9) rfl dX11_byteAt_2 ?_
  refine lv_icmp_ge (tgt := 17) hx hb dX11_byteAt_5 rfl (fun c1 => ?_) (fun c1 => ?_)
  · have hf := it_t hf c1
    refine lv_iconst (v := (-1)) hx hb dX11_byteAt_17 rfl ?_
    cases Option.some.inj hf
    subst hQe
    exact en_i hx hb hr hlocks dX11_byteAt_18
  · have hf := it_f hf c1
    refine lv_aload_n hx hb dX11_byteAt_8 rfl (lv_at hl 0 rfl) ?_
    refine va_get (D := E.1) (ci := 9) (v := .ref (a0 6)) (C := RX11) (T := TX11) (N := 17) hx hb hts w2 hown hC.1 hP 0 rfl rfl 6 (by decide) w3 (fun _ h9 => h9) rfl dX11_byteAt_9 ?_
    refine lv_iload_n hx hb dX11_byteAt_12 rfl (lv_at hl 1 rfl) ?_
    obtain ⟨h2, hf⟩ := gdI_some hf
    refine va_iald hx hb hC.1 hP 6 0 rfl rfl h2 dX11_byteAt_13 ?_
    refine lv_goto (tgt := 18) hx hb dX11_byteAt_14 rfl ?_
    cases Option.some.inj hf
    subst hQe
    exact en_i hx hb hr hlocks dX11_byteAt_18

/-! X11_reads -/
abbrev rmX11_reads : Room := { frames := 1, cells := 0, slots := 0, locals := 25 }
theorem hdS_X11_reads : yX11_reads.cls ≠ "java/lang/invoke/MethodHandle" ∧ yX11_reads.cls ≠ "java/lang/invoke/VarHandle" ∧ (parseMethodDescriptor yX11_reads.desc).map (fun d => d.parameters.length) = some 0 := by decide +kernel
theorem hdV_X11_reads : yX11_reads.cls = RX11 ∧ yX11_reads.cls ≠ "java/lang/invoke/MethodHandle" ∧ yX11_reads.cls ≠ "java/lang/invoke/VarHandle" ∧ (parseMethodDescriptor yX11_reads.desc).map (fun d => d.parameters.length) = some 0 := ⟨rfl, hdS_X11_reads⟩
set_option maxHeartbeats 4000000 in
set_option maxRecDepth 100000 in
theorem c_X11_reads (l : Launch) (E : G0) (sz : Nat) (a0 : Nat → Nat) (v0 : MD) (x : MD) (hf : f_X11_reads v0 = some x) : Met l yX11_reads wsX11_reads rmX11_reads (va_Pc [.ref (a0 0)] (PW E (wMD E a0 v0) sz)) (va_Qv (fun q => q = x) (fun q t => va_P E.1 vwCl ((fun q : MD => wMD E a0 q) q) t.heap ∧ va_D (va_A (wMD E a0 v0) sz) ((fun q : MD => wMD E a0 q) q)) (va_A (wMD E a0 v0) sz)) 0 0 (va_A (wMD E a0 v0) sz) := by
  refine Met.ofW (cc := cX11_reads) (maxL := 2) (ret := none) (by decide) rfl ?_
  intro p e s m args below meth c s₁ B hml hv
  obtain ⟨ha, hsz, hP, hD0, hC⟩ := hv
  have hx := B.exec
  have hb := B.bytes
  have hr := B.returns
  have hts := atoms_spec (ws := wsX11_reads) B.pre
  have hown : s.vm.findClass RX11 = some m.cls := findClass_of_methodNamed B.named
  have hlocks := B.notSynchronized
  subst hsz
  have hD := hD0.self (sz := s.heap.size)
  generalize hAe : va_A (wMD E a0 v0) s.heap.size = A at hD hC ⊢
  have hA : ∀ q : Nat, s.heap.size ≤ q → A q := fun q h => by rw [← hAe]; exact Or.inr h
  have hS : va_S A s.heap s.heap [] := va_S.rf
  have w1 : (Cond.fieldLink RX11 190 "GreatChunksModel" "at" "I").before args s = true := hts _ (List.mem_of_getElem? (i := 1) rfl)
  have w2 : ∀ w ∈ wsX110, w ∈ wsX11_reads := in_pl 19 rfl
  have w3 : (Cond.fieldLink RX11 193 "GreatChunksModel" "start" "I").before args s = true := hts _ (List.mem_of_getElem? (i := 2) rfl)
  have w4 : (Cond.fieldLink RX11 199 "GreatChunksModel" "value" "I").before args s = true := hts _ (List.mem_of_getElem? (i := 3) rfl)
  have w5 : (Cond.constantLong RX11 202 (97)).before args s = true := hts _ (List.mem_of_getElem? (i := 4) rfl)
  have w6 : (Cond.constantLong RX11 204 (122)).before args s = true := hts _ (List.mem_of_getElem? (i := 5) rfl)
  have w7 : (Cond.constantLong RX11 210 (48)).before args s = true := hts _ (List.mem_of_getElem? (i := 6) rfl)
  have w8 : (Cond.constantLong RX11 212 (57)).before args s = true := hts _ (List.mem_of_getElem? (i := 7) rfl)
  have w9 : (Cond.fieldLink RX11 214 "GreatChunksModel" "token" "I").before args s = true := hts _ (List.mem_of_getElem? (i := 8) rfl)
  generalize hQe : MQ below (va_Qv (fun q => q = x) (fun q t => va_P E.1 vwCl ((fun q : MD => wMD E a0 q) q) t.heap ∧ va_D A ((fun q : MD => wMD E a0 q) q)) A) args s 0 0 A = Q
  refine st_W ha (Nat.le_of_ble_eq_true rfl) (fun ls hl => ?_)
  have hl : lv_has ls 2 [(0, .ref (a0 0))] := hl
  unfold f_X11_reads at hf
  refine lv_aload_n hx hb dX11_reads_0 rfl (lv_at hl 0 rfl) ?_
  refine lv_aload_n hx hb dX11_reads_1 rfl (lv_at hl 0 rfl) ?_
  refine va_get (D := E.1) (ci := 9) (v := .int v0.2.2.2.2.2.2.2.2.1) (C := RX11) (T := TX11) (N := 17) hx hb hts w2 hown hC.1 hP 0 rfl rfl 8 (by decide) w1 (fun _ h9 => h9) rfl dX11_reads_2 ?_
  refine va_put (D := E.1) (ci := 9) (v := .int v0.2.2.2.2.2.2.2.2.1) (ty := .int) (C := RX11) (T := TX11) (N := 17) hx hb hts w2 tyX11 tyX11_ok nmX11 hown hC.1 hP hD hS 0 rfl rfl 9 (by decide) w3 (fun _ h9 => h9) rfl (by decide +kernel) rfl rfl (Nat.le_of_ble_eq_true rfl) dX11_reads_5 (fun H locs hP hD hS => ?_)
  have hP : va_P E.1 vwCl (wMD E a0 (v0.1, v0.2.1, v0.2.2.1, v0.2.2.2.1, v0.2.2.2.2.1, v0.2.2.2.2.2.1, v0.2.2.2.2.2.2.1, v0.2.2.2.2.2.2.2.1, v0.2.2.2.2.2.2.2.2.1, v0.2.2.2.2.2.2.2.2.1, v0.2.2.2.2.2.2.2.2.2.2.1, v0.2.2.2.2.2.2.2.2.2.2.2.1, v0.2.2.2.2.2.2.2.2.2.2.2.2.1, v0.2.2.2.2.2.2.2.2.2.2.2.2.2.1, v0.2.2.2.2.2.2.2.2.2.2.2.2.2.2.1, v0.2.2.2.2.2.2.2.2.2.2.2.2.2.2.2.1, v0.2.2.2.2.2.2.2.2.2.2.2.2.2.2.2.2)) H := hP
  have hD : va_D A (wMD E a0 (v0.1, v0.2.1, v0.2.2.1, v0.2.2.2.1, v0.2.2.2.2.1, v0.2.2.2.2.2.1, v0.2.2.2.2.2.2.1, v0.2.2.2.2.2.2.2.1, v0.2.2.2.2.2.2.2.2.1, v0.2.2.2.2.2.2.2.2.1, v0.2.2.2.2.2.2.2.2.2.2.1, v0.2.2.2.2.2.2.2.2.2.2.2.1, v0.2.2.2.2.2.2.2.2.2.2.2.2.1, v0.2.2.2.2.2.2.2.2.2.2.2.2.2.1, v0.2.2.2.2.2.2.2.2.2.2.2.2.2.2.1, v0.2.2.2.2.2.2.2.2.2.2.2.2.2.2.2.1, v0.2.2.2.2.2.2.2.2.2.2.2.2.2.2.2.2)) := hD
  refine lv_aload_n hx hb dX11_reads_8 rfl (lv_at hl 0 rfl) ?_
  refine lv_aload_n hx hb dX11_reads_9 rfl (lv_at hl 0 rfl) ?_
  refine va_get (D := E.1) (ci := 9) (v := .int v0.2.2.2.2.2.2.2.2.1) (C := RX11) (T := TX11) (N := 17) hx hb hts w2 hown hC.1 hP 0 rfl rfl 8 (by decide) w1 (fun _ h9 => h9) rfl dX11_reads_10 ?_
  obtain ⟨r1, e1, hf⟩ := bd_some hf
  refine cr_i (va_runV (As := [.int v0.2.2.2.2.2.2.2.2.1]) (rest := []) ⟨hx, hb, hml, hown, hts⟩ (c_X11_byteAt l E a0 (v0.1, v0.2.1, v0.2.2.1, v0.2.2.2.1, v0.2.2.2.2.1, v0.2.2.2.2.2.1, v0.2.2.2.2.2.2.1, v0.2.2.2.2.2.2.2.1, v0.2.2.2.2.2.2.2.2.1, v0.2.2.2.2.2.2.2.2.1, v0.2.2.2.2.2.2.2.2.2.2.1, v0.2.2.2.2.2.2.2.2.2.2.2.1, v0.2.2.2.2.2.2.2.2.2.2.2.2.1, v0.2.2.2.2.2.2.2.2.2.2.2.2.2.1, v0.2.2.2.2.2.2.2.2.2.2.2.2.2.2.1, v0.2.2.2.2.2.2.2.2.2.2.2.2.2.2.2.1, v0.2.2.2.2.2.2.2.2.2.2.2.2.2.2.2.2) v0.2.2.2.2.2.2.2.2.1 r1 e1) (cwV 1 hts gX11_reads_X11_byteAt rfl rfl rfl hdV_X11_byteAt ⟨Nat.le_of_ble_eq_true rfl, Nat.le_of_ble_eq_true rfl⟩) ⟨PR.blind, va_recv hC.1 hP (ci := 9) (q0 := 0) rfl rfl, PR.pre hC hS hP⟩ rfl rfl hl.1 rfl (lv_room (Nat.le_of_ble_eq_true rfl)) dX11_reads_13 ⟨Nat.le_of_ble_eq_true rfl, Nat.le_of_ble_eq_true rfl⟩) ?_
  refine lv_istore_n (lv' := [(1, .int r1), (0, .ref (a0 0))]) hx hb dX11_reads_16 rfl hl (by decide) rfl (fun ls hl => ?_)
  refine lv_aload_n hx hb dX11_reads_17 rfl (lv_at hl 1 rfl) ?_
  refine lv_iload_n hx hb dX11_reads_18 rfl (lv_at hl 0 rfl) ?_
  refine va_put (D := E.1) (ci := 9) (v := .int r1) (ty := .int) (C := RX11) (T := TX11) (N := 17) hx hb hts w2 tyX11 tyX11_ok nmX11 hown hC.1 hP hD hS 0 rfl rfl 11 (by decide) w4 (fun _ h9 => h9) rfl (by decide +kernel) rfl rfl (Nat.le_of_ble_eq_true rfl) dX11_reads_19 (fun H locs hP hD hS => ?_)
  have hP : va_P E.1 vwCl (wMD E a0 (v0.1, v0.2.1, v0.2.2.1, v0.2.2.2.1, v0.2.2.2.2.1, v0.2.2.2.2.2.1, v0.2.2.2.2.2.2.1, v0.2.2.2.2.2.2.2.1, v0.2.2.2.2.2.2.2.2.1, v0.2.2.2.2.2.2.2.2.1, v0.2.2.2.2.2.2.2.2.2.2.1, r1, v0.2.2.2.2.2.2.2.2.2.2.2.2.1, v0.2.2.2.2.2.2.2.2.2.2.2.2.2.1, v0.2.2.2.2.2.2.2.2.2.2.2.2.2.2.1, v0.2.2.2.2.2.2.2.2.2.2.2.2.2.2.2.1, v0.2.2.2.2.2.2.2.2.2.2.2.2.2.2.2.2)) H := hP
  have hD : va_D A (wMD E a0 (v0.1, v0.2.1, v0.2.2.1, v0.2.2.2.1, v0.2.2.2.2.1, v0.2.2.2.2.2.1, v0.2.2.2.2.2.2.1, v0.2.2.2.2.2.2.2.1, v0.2.2.2.2.2.2.2.2.1, v0.2.2.2.2.2.2.2.2.1, v0.2.2.2.2.2.2.2.2.2.2.1, r1, v0.2.2.2.2.2.2.2.2.2.2.2.2.1, v0.2.2.2.2.2.2.2.2.2.2.2.2.2.1, v0.2.2.2.2.2.2.2.2.2.2.2.2.2.2.1, v0.2.2.2.2.2.2.2.2.2.2.2.2.2.2.2.1, v0.2.2.2.2.2.2.2.2.2.2.2.2.2.2.2.2)) := hD
  refine lv_aload_n hx hb dX11_reads_22 rfl (lv_at hl 1 rfl) ?_
  refine lv_dup hx hb dX11_reads_23 rfl ?_
  refine va_get (D := E.1) (ci := 9) (v := .int v0.2.2.2.2.2.2.2.2.1) (C := RX11) (T := TX11) (N := 17) hx hb hts w2 hown hC.1 hP 0 rfl rfl 8 (by decide) w1 (fun _ h9 => h9) rfl dX11_reads_24 ?_
  refine lv_iload_n hx hb dX11_reads_27 rfl (lv_at hl 0 rfl) ?_
  obtain ⟨q2, e2, hf⟩ := bt_eq hf
  have J2 : W p l e (headSpec wsX11_reads rmX11_reads).room s m args below meth c H locs 0 0 Q (F0 m 36 ls [.int (bI q2), .int v0.2.2.2.2.2.2.2.2.1, .ref (a0 0)]) := by
    refine lv_iadd hx hb dX11_reads_36 ?_
    refine va_put (D := E.1) (ci := 9) (v := .int (v0.2.2.2.2.2.2.2.2.1 + (bI q2))) (ty := .int) (C := RX11) (T := TX11) (N := 17) hx hb hts w2 tyX11 tyX11_ok nmX11 hown hC.1 hP hD hS 0 rfl rfl 8 (by decide) w1 (fun _ h9 => h9) rfl (by decide +kernel) rfl rfl (Nat.le_of_ble_eq_true rfl) dX11_reads_37 (fun H locs hP hD hS => ?_)
    have hP : va_P E.1 vwCl (wMD E a0 (v0.1, v0.2.1, v0.2.2.1, v0.2.2.2.1, v0.2.2.2.2.1, v0.2.2.2.2.2.1, v0.2.2.2.2.2.2.1, v0.2.2.2.2.2.2.2.1, (v0.2.2.2.2.2.2.2.2.1 + (bI q2)), v0.2.2.2.2.2.2.2.2.1, v0.2.2.2.2.2.2.2.2.2.2.1, r1, v0.2.2.2.2.2.2.2.2.2.2.2.2.1, v0.2.2.2.2.2.2.2.2.2.2.2.2.2.1, v0.2.2.2.2.2.2.2.2.2.2.2.2.2.2.1, v0.2.2.2.2.2.2.2.2.2.2.2.2.2.2.2.1, v0.2.2.2.2.2.2.2.2.2.2.2.2.2.2.2.2)) H := hP
    have hD : va_D A (wMD E a0 (v0.1, v0.2.1, v0.2.2.1, v0.2.2.2.1, v0.2.2.2.2.1, v0.2.2.2.2.2.1, v0.2.2.2.2.2.2.1, v0.2.2.2.2.2.2.2.1, (v0.2.2.2.2.2.2.2.2.1 + (bI q2)), v0.2.2.2.2.2.2.2.2.1, v0.2.2.2.2.2.2.2.2.2.2.1, r1, v0.2.2.2.2.2.2.2.2.2.2.2.2.1, v0.2.2.2.2.2.2.2.2.2.2.2.2.2.1, v0.2.2.2.2.2.2.2.2.2.2.2.2.2.2.1, v0.2.2.2.2.2.2.2.2.2.2.2.2.2.2.2.1, v0.2.2.2.2.2.2.2.2.2.2.2.2.2.2.2.2)) := hD
    refine lv_aload_n hx hb dX11_reads_40 rfl (lv_at hl 1 rfl) ?_
    refine lv_iload_n hx hb dX11_reads_41 rfl (lv_at hl 0 rfl) ?_
    obtain ⟨q3, e3, hf⟩ := bt_eq hf
    have J3 : W p l e (headSpec wsX11_reads rmX11_reads).room s m args below meth c H locs 0 0 Q (F0 m 102 ls [.int q3, .ref (a0 0)]) := by
      refine va_put (D := E.1) (ci := 9) (v := .int q3) (ty := .int) (C := RX11) (T := TX11) (N := 17) hx hb hts w2 tyX11 tyX11_ok nmX11 hown hC.1 hP hD hS 0 rfl rfl 10 (by decide) w9 (fun _ h9 => h9) rfl (by decide +kernel) rfl rfl (Nat.le_of_ble_eq_true rfl) dX11_reads_102 (fun H locs hP hD hS => ?_)
      have hP : va_P E.1 vwCl (wMD E a0 (v0.1, v0.2.1, v0.2.2.1, v0.2.2.2.1, v0.2.2.2.2.1, v0.2.2.2.2.2.1, v0.2.2.2.2.2.2.1, v0.2.2.2.2.2.2.2.1, (v0.2.2.2.2.2.2.2.2.1 + (bI q2)), v0.2.2.2.2.2.2.2.2.1, q3, r1, v0.2.2.2.2.2.2.2.2.2.2.2.2.1, v0.2.2.2.2.2.2.2.2.2.2.2.2.2.1, v0.2.2.2.2.2.2.2.2.2.2.2.2.2.2.1, v0.2.2.2.2.2.2.2.2.2.2.2.2.2.2.2.1, v0.2.2.2.2.2.2.2.2.2.2.2.2.2.2.2.2)) H := hP
      have hD : va_D A (wMD E a0 (v0.1, v0.2.1, v0.2.2.1, v0.2.2.2.1, v0.2.2.2.2.1, v0.2.2.2.2.2.1, v0.2.2.2.2.2.2.1, v0.2.2.2.2.2.2.2.1, (v0.2.2.2.2.2.2.2.2.1 + (bI q2)), v0.2.2.2.2.2.2.2.2.1, q3, r1, v0.2.2.2.2.2.2.2.2.2.2.2.2.1, v0.2.2.2.2.2.2.2.2.2.2.2.2.2.1, v0.2.2.2.2.2.2.2.2.2.2.2.2.2.2.1, v0.2.2.2.2.2.2.2.2.2.2.2.2.2.2.2.1, v0.2.2.2.2.2.2.2.2.2.2.2.2.2.2.2.2)) := hD
      refine lv_aload_n hx hb dX11_reads_105 rfl (lv_at hl 1 rfl) ?_
      refine va_get (D := E.1) (ci := 9) (v := .int q3) (C := RX11) (T := TX11) (N := 17) hx hb hts w2 hown hC.1 hP 0 rfl rfl 10 (by decide) w9 (fun _ h9 => h9) rfl dX11_reads_106 ?_
      refine lv_iconst (v := 2) hx hb dX11_reads_109 rfl ?_
      refine lv_icmp_ne (tgt := 220) hx hb dX11_reads_110 rfl (fun c4 => ?_) (fun c4 => ?_)
      · have hf := it_f hf c4
        cases Option.some.inj hf
        subst hQe
        exact ew_v (wf := (fun q : MD => wMD E a0 q)) hx hb hr hlocks hP hD hS dX11_reads_220
      · have hf := it_t hf c4
        refine lv_aload_n hx hb dX11_reads_113 rfl (lv_at hl 1 rfl) ?_
        refine lv_iload_n hx hb dX11_reads_114 rfl (lv_at hl 0 rfl) ?_
        refine lv_bipush (v := 48) hx hb dX11_reads_115 rfl ?_
        refine lv_isub hx hb dX11_reads_117 ?_
        refine va_put (D := E.1) (ci := 9) (v := .int (r1 - (48 : Int32))) (ty := .int) (C := RX11) (T := TX11) (N := 17) hx hb hts w2 tyX11 tyX11_ok nmX11 hown hC.1 hP hD hS 0 rfl rfl 11 (by decide) w4 (fun _ h9 => h9) rfl (by decide +kernel) rfl rfl (Nat.le_of_ble_eq_true rfl) dX11_reads_118 (fun H locs hP hD hS => ?_)
        have hP : va_P E.1 vwCl (wMD E a0 (v0.1, v0.2.1, v0.2.2.1, v0.2.2.2.1, v0.2.2.2.2.1, v0.2.2.2.2.2.1, v0.2.2.2.2.2.2.1, v0.2.2.2.2.2.2.2.1, (v0.2.2.2.2.2.2.2.2.1 + (bI q2)), v0.2.2.2.2.2.2.2.2.1, q3, (r1 - (48 : Int32)), v0.2.2.2.2.2.2.2.2.2.2.2.2.1, v0.2.2.2.2.2.2.2.2.2.2.2.2.2.1, v0.2.2.2.2.2.2.2.2.2.2.2.2.2.2.1, v0.2.2.2.2.2.2.2.2.2.2.2.2.2.2.2.1, v0.2.2.2.2.2.2.2.2.2.2.2.2.2.2.2.2)) H := hP
        have hD : va_D A (wMD E a0 (v0.1, v0.2.1, v0.2.2.1, v0.2.2.2.1, v0.2.2.2.2.1, v0.2.2.2.2.2.1, v0.2.2.2.2.2.2.1, v0.2.2.2.2.2.2.2.1, (v0.2.2.2.2.2.2.2.2.1 + (bI q2)), v0.2.2.2.2.2.2.2.2.1, q3, (r1 - (48 : Int32)), v0.2.2.2.2.2.2.2.2.2.2.2.2.1, v0.2.2.2.2.2.2.2.2.2.2.2.2.2.1, v0.2.2.2.2.2.2.2.2.2.2.2.2.2.2.1, v0.2.2.2.2.2.2.2.2.2.2.2.2.2.2.2.1, v0.2.2.2.2.2.2.2.2.2.2.2.2.2.2.2.2)) := hD
        obtain ⟨K5, hK5, hf⟩ := jn_some hf
        have J5 : ∀ (q5 : MD) (H : Heap) (locs : List Loc) (hP : va_P E.1 vwCl (wMD E a0 q5) H) (hD : va_D A (wMD E a0 q5)) (hS : va_S A s.heap H locs) (ls : Array Slot) (hl : lv_has ls 2 [(0, .ref (a0 0))]) (hf : K5 q5 = some x), W p l e (headSpec wsX11_reads rmX11_reads).room s m args below meth c H locs 0 0 Q (F0 m 198 ls []) := by
          intro q5 H locs hP hD hS ls hl hf
          have hf := (hK5 q5).trans hf
          refine lv_aload_n hx hb dX11_reads_198 rfl (lv_at hl 0 rfl) ?_
          refine lv_aload_n hx hb dX11_reads_199 rfl (lv_at hl 0 rfl) ?_
          refine va_get (D := E.1) (ci := 9) (v := .int q5.2.2.2.2.2.2.2.2.1) (C := RX11) (T := TX11) (N := 17) hx hb hts w2 hown hC.1 hP 0 rfl rfl 8 (by decide) w1 (fun _ h9 => h9) rfl dX11_reads_200 ?_
          refine lv_aload_n hx hb dX11_reads_203 rfl (lv_at hl 0 rfl) ?_
          refine va_get (D := E.1) (ci := 9) (v := .int q5.2.2.2.2.2.2.2.2.2.1) (C := RX11) (T := TX11) (N := 17) hx hb hts w2 hown hC.1 hP 0 rfl rfl 9 (by decide) w3 (fun _ h9 => h9) rfl dX11_reads_204 ?_
          refine lv_isub hx hb dX11_reads_207 ?_
          refine lv_iconst (v := 2) hx hb dX11_reads_208 rfl ?_
          obtain ⟨q6, e6, hf⟩ := bt_eq hf
          have J6 : W p l e (headSpec wsX11_reads rmX11_reads).room s m args below meth c H locs 0 0 Q (F0 m 217 ls [.int q6, .ref (a0 0)]) := by
            refine va_put (D := E.1) (ci := 9) (v := .int q6) (ty := .int) (C := RX11) (T := TX11) (N := 17) hx hb hts w2 tyX11 tyX11_ok nmX11 hown hC.1 hP hD hS 0 rfl rfl 10 (by decide) w9 (fun _ h9 => h9) rfl (by decide +kernel) rfl rfl (Nat.le_of_ble_eq_true rfl) dX11_reads_217 (fun H locs hP hD hS => ?_)
            have hP : va_P E.1 vwCl (wMD E a0 (q5.1, q5.2.1, q5.2.2.1, q5.2.2.2.1, q5.2.2.2.2.1, q5.2.2.2.2.2.1, q5.2.2.2.2.2.2.1, q5.2.2.2.2.2.2.2.1, q5.2.2.2.2.2.2.2.2.1, q5.2.2.2.2.2.2.2.2.2.1, q6, q5.2.2.2.2.2.2.2.2.2.2.2.1, q5.2.2.2.2.2.2.2.2.2.2.2.2.1, q5.2.2.2.2.2.2.2.2.2.2.2.2.2.1, q5.2.2.2.2.2.2.2.2.2.2.2.2.2.2.1, q5.2.2.2.2.2.2.2.2.2.2.2.2.2.2.2.1, q5.2.2.2.2.2.2.2.2.2.2.2.2.2.2.2.2)) H := hP
            have hD : va_D A (wMD E a0 (q5.1, q5.2.1, q5.2.2.1, q5.2.2.2.1, q5.2.2.2.2.1, q5.2.2.2.2.2.1, q5.2.2.2.2.2.2.1, q5.2.2.2.2.2.2.2.1, q5.2.2.2.2.2.2.2.2.1, q5.2.2.2.2.2.2.2.2.2.1, q6, q5.2.2.2.2.2.2.2.2.2.2.2.1, q5.2.2.2.2.2.2.2.2.2.2.2.2.1, q5.2.2.2.2.2.2.2.2.2.2.2.2.2.1, q5.2.2.2.2.2.2.2.2.2.2.2.2.2.2.1, q5.2.2.2.2.2.2.2.2.2.2.2.2.2.2.2.1, q5.2.2.2.2.2.2.2.2.2.2.2.2.2.2.2.2)) := hD
            cases Option.some.inj hf
            subst hQe
            exact ew_v (wf := (fun q : MD => wMD E a0 q)) hx hb hr hlocks hP hD hS dX11_reads_220
          have hf := e6
          refine lv_icmp_le (tgt := 216) hx hb dX11_reads_209 rfl (fun c7 => ?_) (fun c7 => ?_)
          · have hf := it_t hf c7
            refine lv_iconst (v := 2) hx hb dX11_reads_216 rfl ?_
            cases hf
            exact J6
          · have hf := it_f hf c7
            refine lv_iconst (v := 4) hx hb dX11_reads_212 rfl ?_
            refine lv_goto (tgt := 217) hx hb dX11_reads_213 rfl ?_
            cases hf
            exact J6
        have L5 : ∀ (n : Nat) (q5 : MD) (H : Heap) (locs : List Loc) (hP : va_P E.1 vwCl (wMD E a0 q5) H) (hD : va_D A (wMD E a0 q5)) (hS : va_S A s.heap H locs) (ls : Array Slot) (hl : lv_has ls 2 [(0, .ref (a0 0))]) (hf : lpF (bX11_reads_5 K5) n q5 = some x), W p l e (headSpec wsX11_reads rmX11_reads).room s m args below meth c H locs 0 0 Q (F0 m 121 ls []) := by
          intro n
          induction n with
          | zero => intro q5 H locs hP hD hS ls hl hf; exact (lpF_zero hf).elim
          | succ n ih5 =>
            intro q5 H locs hP hD hS ls hl hf
            have hf := lpF_succ hf
            unfold bX11_reads_5 at hf
            refine lv_aload_n hx hb dX11_reads_121 rfl (lv_at hl 0 rfl) ?_
            refine lv_aload_n hx hb dX11_reads_122 rfl (lv_at hl 0 rfl) ?_
            refine va_get (D := E.1) (ci := 9) (v := .int q5.2.2.2.2.2.2.2.2.1) (C := RX11) (T := TX11) (N := 17) hx hb hts w2 hown hC.1 hP 0 rfl rfl 8 (by decide) w1 (fun _ h9 => h9) rfl dX11_reads_123 ?_
            obtain ⟨r8, e8, hf⟩ := bd_some hf
            refine cr_i (va_runV (As := [.int q5.2.2.2.2.2.2.2.2.1]) (rest := []) ⟨hx, hb, hml, hown, hts⟩ (c_X11_byteAt l E a0 q5 q5.2.2.2.2.2.2.2.2.1 r8 e8) (cwV 1 hts gX11_reads_X11_byteAt rfl rfl rfl hdV_X11_byteAt ⟨Nat.le_of_ble_eq_true rfl, Nat.le_of_ble_eq_true rfl⟩) ⟨PR.blind, va_recv hC.1 hP (ci := 9) (q0 := 0) rfl rfl, PR.pre hC hS hP⟩ rfl rfl hl.1 rfl (lv_room (Nat.le_of_ble_eq_true rfl)) dX11_reads_126 ⟨Nat.le_of_ble_eq_true rfl, Nat.le_of_ble_eq_true rfl⟩) ?_
            refine lv_i2l hx hb dX11_reads_129 rfl ?_
            refine lv_ldc2 hx hb hown w7 dX11_reads_130 ?_
            refine lv_ldc2 hx hb hown w8 dX11_reads_133 ?_
            refine cr_i (va_runS (As := [.long r8.toInt64, .long ((48) : Int64), .long ((57) : Int64)]) (rest := []) ⟨hx, hb, hml, hown, hts⟩ (c_X11_in l E r8.toInt64 ((48) : Int64) ((57) : Int64) _ rfl) (va_cwS 3 hts gX11_reads_X11_in rfl rfl rfl hdS_X11_in ⟨Nat.le_of_ble_eq_true rfl, Nat.le_of_ble_eq_true rfl⟩) ⟨PR.blind, PR.pre hC hS (hP.sub [] rfl)⟩ rfl rfl hl.1 rfl (lv_room (Nat.le_of_ble_eq_true rfl)) dX11_reads_136 ⟨Nat.le_of_ble_eq_true rfl, Nat.le_of_ble_eq_true rfl⟩) ?_
            refine lv_if_eq (tgt := 198) hx hb dX11_reads_139 rfl (fun c9 => ?_) (fun c9 => ?_)
            · have hf := it_t hf c9
              exact J5 q5 H locs hP hD hS ls (lv_sub hl [0] rfl) hf
            · have hf := it_f hf c9
              refine lv_aload_n hx hb dX11_reads_142 rfl (lv_at hl 0 rfl) ?_
              refine lv_aload_n hx hb dX11_reads_143 rfl (lv_at hl 0 rfl) ?_
              refine va_get (D := E.1) (ci := 9) (v := .int q5.2.2.2.2.2.2.2.2.1) (C := RX11) (T := TX11) (N := 17) hx hb hts w2 hown hC.1 hP 0 rfl rfl 8 (by decide) w1 (fun _ h9 => h9) rfl dX11_reads_144 ?_
              refine lv_aload_n hx hb dX11_reads_147 rfl (lv_at hl 0 rfl) ?_
              refine va_get (D := E.1) (ci := 9) (v := .int q5.2.2.2.2.2.2.2.2.2.1) (C := RX11) (T := TX11) (N := 17) hx hb hts w2 hown hC.1 hP 0 rfl rfl 9 (by decide) w3 (fun _ h9 => h9) rfl dX11_reads_148 ?_
              refine lv_isub hx hb dX11_reads_151 ?_
              refine lv_iconst (v := 2) hx hb dX11_reads_152 rfl ?_
              obtain ⟨q10, e10, hf⟩ := bd_some hf
              have J10 : W p l e (headSpec wsX11_reads rmX11_reads).room s m args below meth c H locs 0 0 Q (F0 m 182 ls [.int q10, .ref (a0 0)]) := by
                refine va_put (D := E.1) (ci := 9) (v := .int q10) (ty := .int) (C := RX11) (T := TX11) (N := 17) hx hb hts w2 tyX11 tyX11_ok nmX11 hown hC.1 hP hD hS 0 rfl rfl 11 (by decide) w4 (fun _ h9 => h9) rfl (by decide +kernel) rfl rfl (Nat.le_of_ble_eq_true rfl) dX11_reads_182 (fun H locs hP hD hS => ?_)
                have hP : va_P E.1 vwCl (wMD E a0 (q5.1, q5.2.1, q5.2.2.1, q5.2.2.2.1, q5.2.2.2.2.1, q5.2.2.2.2.2.1, q5.2.2.2.2.2.2.1, q5.2.2.2.2.2.2.2.1, q5.2.2.2.2.2.2.2.2.1, q5.2.2.2.2.2.2.2.2.2.1, q5.2.2.2.2.2.2.2.2.2.2.1, q10, q5.2.2.2.2.2.2.2.2.2.2.2.2.1, q5.2.2.2.2.2.2.2.2.2.2.2.2.2.1, q5.2.2.2.2.2.2.2.2.2.2.2.2.2.2.1, q5.2.2.2.2.2.2.2.2.2.2.2.2.2.2.2.1, q5.2.2.2.2.2.2.2.2.2.2.2.2.2.2.2.2)) H := hP
                have hD : va_D A (wMD E a0 (q5.1, q5.2.1, q5.2.2.1, q5.2.2.2.1, q5.2.2.2.2.1, q5.2.2.2.2.2.1, q5.2.2.2.2.2.2.1, q5.2.2.2.2.2.2.2.1, q5.2.2.2.2.2.2.2.2.1, q5.2.2.2.2.2.2.2.2.2.1, q5.2.2.2.2.2.2.2.2.2.2.1, q10, q5.2.2.2.2.2.2.2.2.2.2.2.2.1, q5.2.2.2.2.2.2.2.2.2.2.2.2.2.1, q5.2.2.2.2.2.2.2.2.2.2.2.2.2.2.1, q5.2.2.2.2.2.2.2.2.2.2.2.2.2.2.2.1, q5.2.2.2.2.2.2.2.2.2.2.2.2.2.2.2.2)) := hD
                refine lv_aload_n hx hb dX11_reads_185 rfl (lv_at hl 0 rfl) ?_
                refine lv_dup hx hb dX11_reads_186 rfl ?_
                refine va_get (D := E.1) (ci := 9) (v := .int q5.2.2.2.2.2.2.2.2.1) (C := RX11) (T := TX11) (N := 17) hx hb hts w2 hown hC.1 hP 0 rfl rfl 8 (by decide) w1 (fun _ h9 => h9) rfl dX11_reads_187 ?_
                refine lv_iconst (v := 1) hx hb dX11_reads_190 rfl ?_
                refine lv_iadd hx hb dX11_reads_191 ?_
                refine va_put (D := E.1) (ci := 9) (v := .int (q5.2.2.2.2.2.2.2.2.1 + (1 : Int32))) (ty := .int) (C := RX11) (T := TX11) (N := 17) hx hb hts w2 tyX11 tyX11_ok nmX11 hown hC.1 hP hD hS 0 rfl rfl 8 (by decide) w1 (fun _ h9 => h9) rfl (by decide +kernel) rfl rfl (Nat.le_of_ble_eq_true rfl) dX11_reads_192 (fun H locs hP hD hS => ?_)
                have hP : va_P E.1 vwCl (wMD E a0 (q5.1, q5.2.1, q5.2.2.1, q5.2.2.2.1, q5.2.2.2.2.1, q5.2.2.2.2.2.1, q5.2.2.2.2.2.2.1, q5.2.2.2.2.2.2.2.1, (q5.2.2.2.2.2.2.2.2.1 + (1 : Int32)), q5.2.2.2.2.2.2.2.2.2.1, q5.2.2.2.2.2.2.2.2.2.2.1, q10, q5.2.2.2.2.2.2.2.2.2.2.2.2.1, q5.2.2.2.2.2.2.2.2.2.2.2.2.2.1, q5.2.2.2.2.2.2.2.2.2.2.2.2.2.2.1, q5.2.2.2.2.2.2.2.2.2.2.2.2.2.2.2.1, q5.2.2.2.2.2.2.2.2.2.2.2.2.2.2.2.2)) H := hP
                have hD : va_D A (wMD E a0 (q5.1, q5.2.1, q5.2.2.1, q5.2.2.2.1, q5.2.2.2.2.1, q5.2.2.2.2.2.1, q5.2.2.2.2.2.2.1, q5.2.2.2.2.2.2.2.1, (q5.2.2.2.2.2.2.2.2.1 + (1 : Int32)), q5.2.2.2.2.2.2.2.2.2.1, q5.2.2.2.2.2.2.2.2.2.2.1, q10, q5.2.2.2.2.2.2.2.2.2.2.2.2.1, q5.2.2.2.2.2.2.2.2.2.2.2.2.2.1, q5.2.2.2.2.2.2.2.2.2.2.2.2.2.2.1, q5.2.2.2.2.2.2.2.2.2.2.2.2.2.2.2.1, q5.2.2.2.2.2.2.2.2.2.2.2.2.2.2.2.2)) := hD
                refine lv_goto (tgt := 121) hx hb dX11_reads_195 rfl ?_
                exact ih5 (q5.1, q5.2.1, q5.2.2.1, q5.2.2.2.1, q5.2.2.2.2.1, q5.2.2.2.2.2.1, q5.2.2.2.2.2.2.1, q5.2.2.2.2.2.2.2.1, (q5.2.2.2.2.2.2.2.2.1 + (1 : Int32)), q5.2.2.2.2.2.2.2.2.2.1, q5.2.2.2.2.2.2.2.2.2.2.1, q10, q5.2.2.2.2.2.2.2.2.2.2.2.2.1, q5.2.2.2.2.2.2.2.2.2.2.2.2.2.1, q5.2.2.2.2.2.2.2.2.2.2.2.2.2.2.1, q5.2.2.2.2.2.2.2.2.2.2.2.2.2.2.2.1, q5.2.2.2.2.2.2.2.2.2.2.2.2.2.2.2.2) H locs hP hD hS ls (lv_sub hl [0] rfl) hf
              have hf := e10
              refine lv_icmp_ge (tgt := 178) hx hb dX11_reads_153 rfl (fun c11 => ?_) (fun c11 => ?_)
              · have hf := it_t hf c11
                refine lv_aload_n hx hb dX11_reads_178 rfl (lv_at hl 0 rfl) ?_
                refine va_get (D := E.1) (ci := 9) (v := .int q5.2.2.2.2.2.2.2.2.2.2.2.1) (C := RX11) (T := TX11) (N := 17) hx hb hts w2 hown hC.1 hP 0 rfl rfl 11 (by decide) w4 (fun _ h9 => h9) rfl dX11_reads_179 ?_
                cases Option.some.inj hf
                exact J10
              · have hf := it_f hf c11
                refine lv_bipush (v := 10) hx hb dX11_reads_156 rfl ?_
                refine lv_aload_n hx hb dX11_reads_158 rfl (lv_at hl 0 rfl) ?_
                refine va_get (D := E.1) (ci := 9) (v := .int q5.2.2.2.2.2.2.2.2.2.2.2.1) (C := RX11) (T := TX11) (N := 17) hx hb hts w2 hown hC.1 hP 0 rfl rfl 11 (by decide) w4 (fun _ h9 => h9) rfl dX11_reads_159 ?_
                refine lv_imul hx hb dX11_reads_162 ?_
                refine lv_aload_n hx hb dX11_reads_163 rfl (lv_at hl 0 rfl) ?_
                refine lv_aload_n hx hb dX11_reads_164 rfl (lv_at hl 0 rfl) ?_
                refine va_get (D := E.1) (ci := 9) (v := .int q5.2.2.2.2.2.2.2.2.1) (C := RX11) (T := TX11) (N := 17) hx hb hts w2 hown hC.1 hP 0 rfl rfl 8 (by decide) w1 (fun _ h9 => h9) rfl dX11_reads_165 ?_
                obtain ⟨r12, e12, hf⟩ := bd_some hf
                refine cr_i (va_runV (As := [.int q5.2.2.2.2.2.2.2.2.1]) (rest := [.int ((10 : Int32) * q5.2.2.2.2.2.2.2.2.2.2.2.1), .ref (a0 0)]) ⟨hx, hb, hml, hown, hts⟩ (c_X11_byteAt l E a0 q5 q5.2.2.2.2.2.2.2.2.1 r12 e12) (cwV 1 hts gX11_reads_X11_byteAt rfl rfl rfl hdV_X11_byteAt ⟨Nat.le_of_ble_eq_true rfl, Nat.le_of_ble_eq_true rfl⟩) ⟨PR.blind, va_recv hC.1 hP (ci := 9) (q0 := 0) rfl rfl, PR.pre hC hS hP⟩ rfl rfl hl.1 rfl (lv_room (Nat.le_of_ble_eq_true rfl)) dX11_reads_168 ⟨Nat.le_of_ble_eq_true rfl, Nat.le_of_ble_eq_true rfl⟩) ?_
                refine lv_iadd hx hb dX11_reads_171 ?_
                refine lv_bipush (v := 48) hx hb dX11_reads_172 rfl ?_
                refine lv_isub hx hb dX11_reads_174 ?_
                refine lv_goto (tgt := 182) hx hb dX11_reads_175 rfl ?_
                cases Option.some.inj hf
                exact J10
        exact L5 FU (v0.1, v0.2.1, v0.2.2.1, v0.2.2.2.1, v0.2.2.2.2.1, v0.2.2.2.2.2.1, v0.2.2.2.2.2.2.1, v0.2.2.2.2.2.2.2.1, (v0.2.2.2.2.2.2.2.2.1 + (bI q2)), v0.2.2.2.2.2.2.2.2.1, q3, (r1 - (48 : Int32)), v0.2.2.2.2.2.2.2.2.2.2.2.2.1, v0.2.2.2.2.2.2.2.2.2.2.2.2.2.1, v0.2.2.2.2.2.2.2.2.2.2.2.2.2.2.1, v0.2.2.2.2.2.2.2.2.2.2.2.2.2.2.2.1, v0.2.2.2.2.2.2.2.2.2.2.2.2.2.2.2.2) H locs hP hD hS ls (lv_sub hl [1] rfl) hf
    have hf := e3
    refine lv_if_ge (tgt := 49) hx hb dX11_reads_42 rfl (fun c13 => ?_) (fun c13 => ?_)
    · have hf := it_t hf c13
      refine lv_iload_n hx hb dX11_reads_49 rfl (lv_at hl 0 rfl) ?_
      refine lv_i2l hx hb dX11_reads_50 rfl ?_
      refine lv_ldc2 hx hb hown w5 dX11_reads_51 ?_
      refine lv_ldc2 hx hb hown w6 dX11_reads_54 ?_
      refine cr_i (va_runS (As := [.long r1.toInt64, .long ((97) : Int64), .long ((122) : Int64)]) (rest := [.ref (a0 0)]) ⟨hx, hb, hml, hown, hts⟩ (c_X11_in l E r1.toInt64 ((97) : Int64) ((122) : Int64) _ rfl) (va_cwS 3 hts gX11_reads_X11_in rfl rfl rfl hdS_X11_in ⟨Nat.le_of_ble_eq_true rfl, Nat.le_of_ble_eq_true rfl⟩) ⟨PR.blind, PR.pre hC hS (hP.sub [] rfl)⟩ rfl rfl hl.1 rfl (lv_room (Nat.le_of_ble_eq_true rfl)) dX11_reads_57 ⟨Nat.le_of_ble_eq_true rfl, Nat.le_of_ble_eq_true rfl⟩) ?_
      refine lv_if_eq (tgt := 67) hx hb dX11_reads_60 rfl (fun c14 => ?_) (fun c14 => ?_)
      · have hf := it_t hf c14
        refine lv_iload_n hx hb dX11_reads_67 rfl (lv_at hl 0 rfl) ?_
        refine lv_i2l hx hb dX11_reads_68 rfl ?_
        refine lv_ldc2 hx hb hown w7 dX11_reads_69 ?_
        refine lv_ldc2 hx hb hown w8 dX11_reads_72 ?_
        refine cr_i (va_runS (As := [.long r1.toInt64, .long ((48) : Int64), .long ((57) : Int64)]) (rest := [.ref (a0 0)]) ⟨hx, hb, hml, hown, hts⟩ (c_X11_in l E r1.toInt64 ((48) : Int64) ((57) : Int64) _ rfl) (va_cwS 3 hts gX11_reads_X11_in rfl rfl rfl hdS_X11_in ⟨Nat.le_of_ble_eq_true rfl, Nat.le_of_ble_eq_true rfl⟩) ⟨PR.blind, PR.pre hC hS (hP.sub [] rfl)⟩ rfl rfl hl.1 rfl (lv_room (Nat.le_of_ble_eq_true rfl)) dX11_reads_75 ⟨Nat.le_of_ble_eq_true rfl, Nat.le_of_ble_eq_true rfl⟩) ?_
        refine lv_if_eq (tgt := 85) hx hb dX11_reads_78 rfl (fun c15 => ?_) (fun c15 => ?_)
        · have hf := it_t hf c15
          refine lv_iload_n hx hb dX11_reads_85 rfl (lv_at hl 0 rfl) ?_
          refine lv_bipush (v := 44) hx hb dX11_reads_86 rfl ?_
          refine lv_icmp_eq (tgt := 97) hx hb dX11_reads_88 rfl (fun c16 => ?_) (fun c16 => ?_)
          · have hf := it_t hf c16
            refine lv_iconst (v := 3) hx hb dX11_reads_97 rfl ?_
            refine lv_goto (tgt := 102) hx hb dX11_reads_98 rfl ?_
            cases hf
            exact J3
          · have hf := it_f hf c16
            refine lv_iload_n hx hb dX11_reads_91 rfl (lv_at hl 0 rfl) ?_
            refine lv_bipush (v := 59) hx hb dX11_reads_92 rfl ?_
            refine lv_icmp_ne (tgt := 101) hx hb dX11_reads_94 rfl (fun c17 => ?_) (fun c17 => ?_)
            · have hf := it_f hf c17
              refine lv_iconst (v := 4) hx hb dX11_reads_101 rfl ?_
              cases hf
              exact J3
            · have hf := it_t hf c17
              refine lv_iconst (v := 3) hx hb dX11_reads_97 rfl ?_
              refine lv_goto (tgt := 102) hx hb dX11_reads_98 rfl ?_
              cases hf
              exact J3
        · have hf := it_f hf c15
          refine lv_iconst (v := 2) hx hb dX11_reads_81 rfl ?_
          refine lv_goto (tgt := 102) hx hb dX11_reads_82 rfl ?_
          cases hf
          exact J3
      · have hf := it_f hf c14
        refine lv_iconst (v := 1) hx hb dX11_reads_63 rfl ?_
        refine lv_goto (tgt := 102) hx hb dX11_reads_64 rfl ?_
        cases hf
        exact J3
    · have hf := it_f hf c13
      refine lv_iconst (v := 0) hx hb dX11_reads_45 rfl ?_
      refine lv_goto (tgt := 102) hx hb dX11_reads_46 rfl ?_
      cases hf
      exact J3
  have hf := e2
  refine lv_if_ge (tgt := 35) hx hb dX11_reads_28 rfl (fun c18 => ?_) (fun c18 => ?_)
  · have hf := it_t hf c18
    refine lv_iconst (v := 1) hx hb dX11_reads_35 rfl ?_
    cases hf
    exact J2
  · have hf := it_f hf c18
    refine lv_iconst (v := 0) hx hb dX11_reads_31 rfl ?_
    refine lv_goto (tgt := 36) hx hb dX11_reads_32 rfl ?_
    cases hf
    exact J2

/-! X11_bad -/
abbrev rmX11_bad : Room := { frames := 0, cells := 0, slots := 0, locals := 0 }
theorem hdS_X11_bad : yX11_bad.cls ≠ "java/lang/invoke/MethodHandle" ∧ yX11_bad.cls ≠ "java/lang/invoke/VarHandle" ∧ (parseMethodDescriptor yX11_bad.desc).map (fun d => d.parameters.length) = some 1 := by decide +kernel
theorem hdV_X11_bad : yX11_bad.cls = RX11 ∧ yX11_bad.cls ≠ "java/lang/invoke/MethodHandle" ∧ yX11_bad.cls ≠ "java/lang/invoke/VarHandle" ∧ (parseMethodDescriptor yX11_bad.desc).map (fun d => d.parameters.length) = some 1 := ⟨rfl, hdS_X11_bad⟩
set_option maxHeartbeats 4000000 in
set_option maxRecDepth 100000 in
theorem c_X11_bad (l : Launch) (E : G0) (sz : Nat) (a0 : Nat → Nat) (v0 : MD) (p1 : Int32) (x : MD) (hf : f_X11_bad v0 p1 = some x) : Met l yX11_bad wsX11_bad rmX11_bad (va_Pc [.ref (a0 0), .int p1] (PW E (wMD E a0 v0) sz)) (va_Qv (fun q => q = x) (fun q t => va_P E.1 vwCl ((fun q : MD => wMD E a0 q) q) t.heap ∧ va_D (va_A (wMD E a0 v0) sz) ((fun q : MD => wMD E a0 q) q)) (va_A (wMD E a0 v0) sz)) 0 0 (va_A (wMD E a0 v0) sz) := by
  refine Met.ofW (cc := cX11_bad) (maxL := 2) (ret := none) (by decide) rfl ?_
  intro p e s m args below meth c s₁ B hml hv
  obtain ⟨ha, hsz, hP, hD0, hC⟩ := hv
  have hx := B.exec
  have hb := B.bytes
  have hr := B.returns
  have hts := atoms_spec (ws := wsX11_bad) B.pre
  have hown : s.vm.findClass RX11 = some m.cls := findClass_of_methodNamed B.named
  have hlocks := B.notSynchronized
  subst hsz
  have hD := hD0.self (sz := s.heap.size)
  generalize hAe : va_A (wMD E a0 v0) s.heap.size = A at hD hC ⊢
  have hA : ∀ q : Nat, s.heap.size ≤ q → A q := fun q h => by rw [← hAe]; exact Or.inr h
  have hS : va_S A s.heap s.heap [] := va_S.rf
  have w1 : (Cond.fieldLink RX11 217 "GreatChunksModel" "fault" "I").before args s = true := hts _ (List.mem_of_getElem? (i := 1) rfl)
  have w2 : ∀ w ∈ wsX110, w ∈ wsX11_bad := in_pl 4 rfl
  have w3 : (Cond.fieldLink RX11 193 "GreatChunksModel" "start" "I").before args s = true := hts _ (List.mem_of_getElem? (i := 2) rfl)
  have w4 : (Cond.fieldLink RX11 220 "GreatChunksModel" "place" "I").before args s = true := hts _ (List.mem_of_getElem? (i := 3) rfl)
  generalize hQe : MQ below (va_Qv (fun q => q = x) (fun q t => va_P E.1 vwCl ((fun q : MD => wMD E a0 q) q) t.heap ∧ va_D A ((fun q : MD => wMD E a0 q) q)) A) args s 0 0 A = Q
  refine st_W ha (Nat.le_of_ble_eq_true rfl) (fun ls hl => ?_)
  have hl : lv_has ls 2 [(0, .ref (a0 0)), (1, .int p1)] := hl
  unfold f_X11_bad at hf
  refine lv_aload_n hx hb dX11_bad_0 rfl (lv_at hl 0 rfl) ?_
  refine va_get (D := E.1) (ci := 9) (v := .int v0.2.2.2.2.2.2.2.2.2.2.2.2.1) (C := RX11) (T := TX11) (N := 17) hx hb hts w2 hown hC.1 hP 0 rfl rfl 12 (by decide) w1 (fun _ h9 => h9) rfl dX11_bad_1 ?_
  refine lv_if_ne (tgt := 20) hx hb dX11_bad_4 rfl (fun c1 => ?_) (fun c1 => ?_)
  · have hf := it_f hf c1
    cases Option.some.inj hf
    subst hQe
    exact ew_v (wf := (fun q : MD => wMD E a0 q)) hx hb hr hlocks hP hD hS dX11_bad_20
  · have hf := it_t hf c1
    refine lv_aload_n hx hb dX11_bad_7 rfl (lv_at hl 0 rfl) ?_
    refine lv_iload_n hx hb dX11_bad_8 rfl (lv_at hl 1 rfl) ?_
    refine va_put (D := E.1) (ci := 9) (v := .int p1) (ty := .int) (C := RX11) (T := TX11) (N := 17) hx hb hts w2 tyX11 tyX11_ok nmX11 hown hC.1 hP hD hS 0 rfl rfl 12 (by decide) w1 (fun _ h9 => h9) rfl (by decide +kernel) rfl rfl (Nat.le_of_ble_eq_true rfl) dX11_bad_9 (fun H locs hP hD hS => ?_)
    have hP : va_P E.1 vwCl (wMD E a0 (v0.1, v0.2.1, v0.2.2.1, v0.2.2.2.1, v0.2.2.2.2.1, v0.2.2.2.2.2.1, v0.2.2.2.2.2.2.1, v0.2.2.2.2.2.2.2.1, v0.2.2.2.2.2.2.2.2.1, v0.2.2.2.2.2.2.2.2.2.1, v0.2.2.2.2.2.2.2.2.2.2.1, v0.2.2.2.2.2.2.2.2.2.2.2.1, p1, v0.2.2.2.2.2.2.2.2.2.2.2.2.2.1, v0.2.2.2.2.2.2.2.2.2.2.2.2.2.2.1, v0.2.2.2.2.2.2.2.2.2.2.2.2.2.2.2.1, v0.2.2.2.2.2.2.2.2.2.2.2.2.2.2.2.2)) H := hP
    have hD : va_D A (wMD E a0 (v0.1, v0.2.1, v0.2.2.1, v0.2.2.2.1, v0.2.2.2.2.1, v0.2.2.2.2.2.1, v0.2.2.2.2.2.2.1, v0.2.2.2.2.2.2.2.1, v0.2.2.2.2.2.2.2.2.1, v0.2.2.2.2.2.2.2.2.2.1, v0.2.2.2.2.2.2.2.2.2.2.1, v0.2.2.2.2.2.2.2.2.2.2.2.1, p1, v0.2.2.2.2.2.2.2.2.2.2.2.2.2.1, v0.2.2.2.2.2.2.2.2.2.2.2.2.2.2.1, v0.2.2.2.2.2.2.2.2.2.2.2.2.2.2.2.1, v0.2.2.2.2.2.2.2.2.2.2.2.2.2.2.2.2)) := hD
    refine lv_aload_n hx hb dX11_bad_12 rfl (lv_at hl 0 rfl) ?_
    refine lv_aload_n hx hb dX11_bad_13 rfl (lv_at hl 0 rfl) ?_
    refine va_get (D := E.1) (ci := 9) (v := .int v0.2.2.2.2.2.2.2.2.2.1) (C := RX11) (T := TX11) (N := 17) hx hb hts w2 hown hC.1 hP 0 rfl rfl 9 (by decide) w3 (fun _ h9 => h9) rfl dX11_bad_14 ?_
    refine va_put (D := E.1) (ci := 9) (v := .int v0.2.2.2.2.2.2.2.2.2.1) (ty := .int) (C := RX11) (T := TX11) (N := 17) hx hb hts w2 tyX11 tyX11_ok nmX11 hown hC.1 hP hD hS 0 rfl rfl 13 (by decide) w4 (fun _ h9 => h9) rfl (by decide +kernel) rfl rfl (Nat.le_of_ble_eq_true rfl) dX11_bad_17 (fun H locs hP hD hS => ?_)
    have hP : va_P E.1 vwCl (wMD E a0 (v0.1, v0.2.1, v0.2.2.1, v0.2.2.2.1, v0.2.2.2.2.1, v0.2.2.2.2.2.1, v0.2.2.2.2.2.2.1, v0.2.2.2.2.2.2.2.1, v0.2.2.2.2.2.2.2.2.1, v0.2.2.2.2.2.2.2.2.2.1, v0.2.2.2.2.2.2.2.2.2.2.1, v0.2.2.2.2.2.2.2.2.2.2.2.1, p1, v0.2.2.2.2.2.2.2.2.2.1, v0.2.2.2.2.2.2.2.2.2.2.2.2.2.2.1, v0.2.2.2.2.2.2.2.2.2.2.2.2.2.2.2.1, v0.2.2.2.2.2.2.2.2.2.2.2.2.2.2.2.2)) H := hP
    have hD : va_D A (wMD E a0 (v0.1, v0.2.1, v0.2.2.1, v0.2.2.2.1, v0.2.2.2.2.1, v0.2.2.2.2.2.1, v0.2.2.2.2.2.2.1, v0.2.2.2.2.2.2.2.1, v0.2.2.2.2.2.2.2.2.1, v0.2.2.2.2.2.2.2.2.2.1, v0.2.2.2.2.2.2.2.2.2.2.1, v0.2.2.2.2.2.2.2.2.2.2.2.1, p1, v0.2.2.2.2.2.2.2.2.2.1, v0.2.2.2.2.2.2.2.2.2.2.2.2.2.2.1, v0.2.2.2.2.2.2.2.2.2.2.2.2.2.2.2.1, v0.2.2.2.2.2.2.2.2.2.2.2.2.2.2.2.2)) := hD
    cases Option.some.inj hf
    subst hQe
    exact ew_v (wf := (fun q : MD => wMD E a0 q)) hx hb hr hlocks hP hD hS dX11_bad_20

/-! X11_goesOn -/
abbrev rmX11_goesOn : Room := { frames := 2, cells := 0, slots := 0, locals := 46 }
theorem hdS_X11_goesOn : yX11_goesOn.cls ≠ "java/lang/invoke/MethodHandle" ∧ yX11_goesOn.cls ≠ "java/lang/invoke/VarHandle" ∧ (parseMethodDescriptor yX11_goesOn.desc).map (fun d => d.parameters.length) = some 0 := by decide +kernel
theorem hdV_X11_goesOn : yX11_goesOn.cls = RX11 ∧ yX11_goesOn.cls ≠ "java/lang/invoke/MethodHandle" ∧ yX11_goesOn.cls ≠ "java/lang/invoke/VarHandle" ∧ (parseMethodDescriptor yX11_goesOn.desc).map (fun d => d.parameters.length) = some 0 := ⟨rfl, hdS_X11_goesOn⟩
set_option maxHeartbeats 4000000 in
set_option maxRecDepth 100000 in
theorem c_X11_goesOn (l : Launch) (E : G0) (sz : Nat) (a0 : Nat → Nat) (v0 : MD) (x : MD) (hf : f_X11_goesOn v0 = some x) : Met l yX11_goesOn wsX11_goesOn rmX11_goesOn (va_Pc [.ref (a0 0)] (PW E (wMD E a0 v0) sz)) (va_Qv (fun q => q = x) (fun q t => va_P E.1 vwCl ((fun q : MD => wMD E a0 q) q) t.heap ∧ va_D (va_A (wMD E a0 v0) sz) ((fun q : MD => wMD E a0 q) q)) (va_A (wMD E a0 v0) sz)) 0 0 (va_A (wMD E a0 v0) sz) := by
  refine Met.ofW (cc := cX11_goesOn) (maxL := 1) (ret := none) (by decide) rfl ?_
  intro p e s m args below meth c s₁ B hml hv
  obtain ⟨ha, hsz, hP, hD0, hC⟩ := hv
  have hx := B.exec
  have hb := B.bytes
  have hr := B.returns
  have hts := atoms_spec (ws := wsX11_goesOn) B.pre
  have hown : s.vm.findClass RX11 = some m.cls := findClass_of_methodNamed B.named
  have hlocks := B.notSynchronized
  subst hsz
  have hD := hD0.self (sz := s.heap.size)
  generalize hAe : va_A (wMD E a0 v0) s.heap.size = A at hD hC ⊢
  have hA : ∀ q : Nat, s.heap.size ≤ q → A q := fun q h => by rw [← hAe]; exact Or.inr h
  have hS : va_S A s.heap s.heap [] := va_S.rf
  have w1 : (Cond.fieldLink RX11 217 "GreatChunksModel" "fault" "I").before args s = true := hts _ (List.mem_of_getElem? (i := 1) rfl)
  have w2 : ∀ w ∈ wsX110, w ∈ wsX11_goesOn := in_pl 24 rfl
  generalize hQe : MQ below (va_Qv (fun q => q = x) (fun q t => va_P E.1 vwCl ((fun q : MD => wMD E a0 q) q) t.heap ∧ va_D A ((fun q : MD => wMD E a0 q) q)) A) args s 0 0 A = Q
  refine st_W ha (Nat.le_of_ble_eq_true rfl) (fun ls hl => ?_)
  have hl : lv_has ls 1 [(0, .ref (a0 0))] := hl
  unfold f_X11_goesOn at hf
  refine lv_aload_n hx hb dX11_goesOn_0 rfl (lv_at hl 0 rfl) ?_
  refine va_get (D := E.1) (ci := 9) (v := .int v0.2.2.2.2.2.2.2.2.2.2.2.2.1) (C := RX11) (T := TX11) (N := 17) hx hb hts w2 hown hC.1 hP 0 rfl rfl 12 (by decide) w1 (fun _ h9 => h9) rfl dX11_goesOn_1 ?_
  refine lv_if_ne (tgt := 11) hx hb dX11_goesOn_4 rfl (fun c1 => ?_) (fun c1 => ?_)
  · have hf := it_f hf c1
    cases Option.some.inj hf
    subst hQe
    exact ew_v (wf := (fun q : MD => wMD E a0 q)) hx hb hr hlocks hP hD hS dX11_goesOn_11
  · have hf := it_t hf c1
    refine lv_aload_n hx hb dX11_goesOn_7 rfl (lv_at hl 0 rfl) ?_
    obtain ⟨r2, e2, hf⟩ := bd_some hf
    refine cq_v hP hD hS [0, 1, 2, 3, 4, 5, 6, 7] [] [0, 1, 2, 3, 4, 5, 6, 7] (va_free (wc := (wMD E a0 v0)) hD hS hA [0, 1, 2, 3, 4, 5, 6, 7] rfl) (va_runV (As := []) (rest := []) ⟨hx, hb, hml, hown, hts⟩ (c_X11_reads l E s.heap.size a0 v0 r2 e2) (cwV 0 hts gX11_goesOn_X11_reads rfl rfl rfl hdV_X11_reads ⟨Nat.le_of_ble_eq_true rfl, Nat.le_of_ble_eq_true rfl⟩) ⟨PW.blind, va_recv hC.1 hP (ci := 9) (q0 := 0) rfl rfl, PW.pre hC hS hP hD (va_free hD hS hA [0, 1, 2, 3, 4, 5, 6, 7] rfl)⟩ rfl rfl hl.1 rfl (lv_room (Nat.le_of_ble_eq_true rfl)) dX11_goesOn_8 ⟨Nat.le_of_ble_eq_true rfl, Nat.le_of_ble_eq_true rfl⟩) rfl rfl rfl rfl (wMD E a0 r2) rfl rfl (fun H locs hP hD hS => ?_)
    cases Option.some.inj hf
    subst hQe
    exact ew_v (wf := (fun q : MD => wMD E a0 q)) hx hb hr hlocks hP hD hS dX11_goesOn_11

/-! X11_number -/
abbrev rmX11_number : Room := { frames := 3, cells := 0, slots := 0, locals := 66 }
theorem hdS_X11_number : yX11_number.cls ≠ "java/lang/invoke/MethodHandle" ∧ yX11_number.cls ≠ "java/lang/invoke/VarHandle" ∧ (parseMethodDescriptor yX11_number.desc).map (fun d => d.parameters.length) = some 2 := by decide +kernel
theorem hdV_X11_number : yX11_number.cls = RX11 ∧ yX11_number.cls ≠ "java/lang/invoke/MethodHandle" ∧ yX11_number.cls ≠ "java/lang/invoke/VarHandle" ∧ (parseMethodDescriptor yX11_number.desc).map (fun d => d.parameters.length) = some 2 := ⟨rfl, hdS_X11_number⟩
set_option maxHeartbeats 4000000 in
set_option maxRecDepth 100000 in
theorem c_X11_number (l : Launch) (E : G0) (sz : Nat) (a0 : Nat → Nat) (v0 : MD) (p1 : Int32) (p2 : Int32) (x : Int32 × MD) (hf : f_X11_number v0 p1 p2 = some x) : Met l yX11_number wsX11_number rmX11_number (va_Pc [.ref (a0 0), .int p1, .int p2] (PW E (wMD E a0 v0) sz)) (va_Qi (fun r q => r = x.1 ∧ q = x.2) (fun q t => va_P E.1 vwCl ((fun q : MD => wMD E a0 q) q) t.heap ∧ va_D (va_A (wMD E a0 v0) sz) ((fun q : MD => wMD E a0 q) q)) (va_A (wMD E a0 v0) sz)) 0 0 (va_A (wMD E a0 v0) sz) := by
  refine Met.ofW (cc := cX11_number) (maxL := 4) (ret := some .int) (by decide) rfl ?_
  intro p e s m args below meth c s₁ B hml hv
  obtain ⟨ha, hsz, hP, hD0, hC⟩ := hv
  have hx := B.exec
  have hb := B.bytes
  have hr := B.returns
  have hts := atoms_spec (ws := wsX11_number) B.pre
  have hown : s.vm.findClass RX11 = some m.cls := findClass_of_methodNamed B.named
  have hlocks := B.notSynchronized
  subst hsz
  have hD := hD0.self (sz := s.heap.size)
  generalize hAe : va_A (wMD E a0 v0) s.heap.size = A at hD hC ⊢
  have hA : ∀ q : Nat, s.heap.size ≤ q → A q := fun q h => by rw [← hAe]; exact Or.inr h
  have hS : va_S A s.heap s.heap [] := va_S.rf
  have w1 : (Cond.fieldLink RX11 214 "GreatChunksModel" "token" "I").before args s = true := hts _ (List.mem_of_getElem? (i := 1) rfl)
  have w2 : ∀ w ∈ wsX110, w ∈ wsX11_number := in_pl 33 rfl
  have w3 : (Cond.fieldLink RX11 199 "GreatChunksModel" "value" "I").before args s = true := hts _ (List.mem_of_getElem? (i := 2) rfl)
  have w4 : (Cond.fieldLink RX11 217 "GreatChunksModel" "fault" "I").before args s = true := hts _ (List.mem_of_getElem? (i := 3) rfl)
  generalize hQe : MQ below (va_Qi (fun r q => r = x.1 ∧ q = x.2) (fun q t => va_P E.1 vwCl ((fun q : MD => wMD E a0 q) q) t.heap ∧ va_D A ((fun q : MD => wMD E a0 q) q)) A) args s 0 0 A = Q
  refine st_W ha (Nat.le_of_ble_eq_true rfl) (fun ls hl => ?_)
  have hl : lv_has ls 4 [(0, .ref (a0 0)), (1, .int p1), (2, .int p2)] := hl
  unfold f_X11_number at hf
  refine lv_aload_n hx hb dX11_number_0 rfl (lv_at hl 0 rfl) ?_
  refine va_get (D := E.1) (ci := 9) (v := .int v0.2.2.2.2.2.2.2.2.2.2.1) (C := RX11) (T := TX11) (N := 17) hx hb hts w2 hown hC.1 hP 0 rfl rfl 10 (by decide) w1 (fun _ h9 => h9) rfl dX11_number_1 ?_
  refine lv_iconst (v := 2) hx hb dX11_number_4 rfl ?_
  obtain ⟨q1, e1, hf⟩ := bd_some hf
  have J1 : ∀ (H : Heap) (locs : List Loc) (hP : va_P E.1 vwCl (wMD E a0 q1) H) (hD : va_D A (wMD E a0 q1)) (hS : va_S A s.heap H locs), W p l e (headSpec wsX11_number rmX11_number).room s m args below meth c H locs 0 0 Q (F0 m 36 ls []) := by
    intro H locs hP hD hS
    refine lv_aload_n hx hb dX11_number_36 rfl (lv_at hl 0 rfl) ?_
    refine va_get (D := E.1) (ci := 9) (v := .int q1.2.2.2.2.2.2.2.2.2.2.2.2.1) (C := RX11) (T := TX11) (N := 17) hx hb hts w2 hown hC.1 hP 0 rfl rfl 12 (by decide) w4 (fun _ h9 => h9) rfl dX11_number_37 ?_
    obtain ⟨q2, e2, hf⟩ := bt_eq hf
    have J2 : W p l e (headSpec wsX11_number rmX11_number).room s m args below meth c H locs 0 0 Q (F0 m 51 ls [.int q2]) := by
      refine lv_istore_n (lv' := [(3, .int q2), (0, .ref (a0 0)), (1, .int p1), (2, .int p2)]) hx hb dX11_number_51 rfl hl (by decide) rfl (fun ls hl => ?_)
      refine lv_aload_n hx hb dX11_number_52 rfl (lv_at hl 1 rfl) ?_
      obtain ⟨r3, e3, hf⟩ := bd_some hf
      refine cq_v hP hD hS [0, 1, 2, 3, 4, 5, 6, 7] [] [0, 1, 2, 3, 4, 5, 6, 7] (va_free (wc := (wMD E a0 q1)) hD hS hA [0, 1, 2, 3, 4, 5, 6, 7] rfl) (va_runV (As := []) (rest := []) ⟨hx, hb, hml, hown, hts⟩ (c_X11_goesOn l E H.size a0 q1 r3 e3) (cwV 0 hts gX11_number_X11_goesOn rfl rfl rfl hdV_X11_goesOn ⟨Nat.le_of_ble_eq_true rfl, Nat.le_of_ble_eq_true rfl⟩) ⟨PW.blind, va_recv hC.1 hP (ci := 9) (q0 := 0) rfl rfl, PW.pre hC hS hP hD (va_free hD hS hA [0, 1, 2, 3, 4, 5, 6, 7] rfl)⟩ rfl rfl hl.1 rfl (lv_room (Nat.le_of_ble_eq_true rfl)) dX11_number_53 ⟨Nat.le_of_ble_eq_true rfl, Nat.le_of_ble_eq_true rfl⟩) rfl rfl rfl rfl (wMD E a0 r3) rfl rfl (fun H locs hP hD hS => ?_)
      refine lv_iload_n hx hb dX11_number_56 rfl (lv_at hl 0 rfl) ?_
      cases Option.some.inj hf
      subst hQe
      exact ew_i (wf := (fun q : MD => wMD E a0 q)) hx hb hr hlocks hP hD hS dX11_number_57
    have hf := e2
    refine lv_if_ne (tgt := 50) hx hb dX11_number_40 rfl (fun c4 => ?_) (fun c4 => ?_)
    · have hf := it_f hf c4
      refine lv_iload_n hx hb dX11_number_50 rfl (lv_at hl 1 rfl) ?_
      cases hf
      exact J2
    · have hf := it_t hf c4
      refine lv_aload_n hx hb dX11_number_43 rfl (lv_at hl 0 rfl) ?_
      refine va_get (D := E.1) (ci := 9) (v := .int q1.2.2.2.2.2.2.2.2.2.2.2.1) (C := RX11) (T := TX11) (N := 17) hx hb hts w2 hown hC.1 hP 0 rfl rfl 11 (by decide) w3 (fun _ h9 => h9) rfl dX11_number_44 ?_
      refine lv_goto (tgt := 51) hx hb dX11_number_47 rfl ?_
      cases hf
      exact J2
  have hf := e1
  refine lv_icmp_eq (tgt := 16) hx hb dX11_number_5 rfl (fun c5 => ?_) (fun c5 => ?_)
  · have hf := it_t hf c5
    refine lv_aload_n hx hb dX11_number_16 rfl (lv_at hl 0 rfl) ?_
    refine va_get (D := E.1) (ci := 9) (v := .int v0.2.2.2.2.2.2.2.2.2.2.2.1) (C := RX11) (T := TX11) (N := 17) hx hb hts w2 hown hC.1 hP 0 rfl rfl 11 (by decide) w3 (fun _ h9 => h9) rfl dX11_number_17 ?_
    refine lv_i2l hx hb dX11_number_20 rfl ?_
    refine lv_iload_n hx hb dX11_number_21 rfl (lv_at hl 1 rfl) ?_
    refine lv_i2l hx hb dX11_number_22 rfl ?_
    refine lv_iload_n hx hb dX11_number_23 rfl (lv_at hl 2 rfl) ?_
    refine lv_i2l hx hb dX11_number_24 rfl ?_
    refine cr_i (va_runS (As := [.long v0.2.2.2.2.2.2.2.2.2.2.2.1.toInt64, .long p1.toInt64, .long p2.toInt64]) (rest := []) ⟨hx, hb, hml, hown, hts⟩ (c_X11_in l E v0.2.2.2.2.2.2.2.2.2.2.2.1.toInt64 p1.toInt64 p2.toInt64 _ rfl) (va_cwS 3 hts gX11_number_X11_in rfl rfl rfl hdS_X11_in ⟨Nat.le_of_ble_eq_true rfl, Nat.le_of_ble_eq_true rfl⟩) ⟨PR.blind, PR.pre hC hS (hP.sub [] rfl)⟩ rfl rfl hl.1 rfl (lv_room (Nat.le_of_ble_eq_true rfl)) dX11_number_25 ⟨Nat.le_of_ble_eq_true rfl, Nat.le_of_ble_eq_true rfl⟩) ?_
    refine lv_if_ne (tgt := 36) hx hb dX11_number_28 rfl (fun c6 => ?_) (fun c6 => ?_)
    · have hf := it_f hf c6
      cases Option.some.inj hf
      exact J1 s.heap [] hP hD hS
    · have hf := it_t hf c6
      refine lv_aload_n hx hb dX11_number_31 rfl (lv_at hl 0 rfl) ?_
      refine lv_iconst (v := 2) hx hb dX11_number_32 rfl ?_
      obtain ⟨r7, e7, hf⟩ := bd_some hf
      refine cq_v hP hD hS [0, 1, 2, 3, 4, 5, 6, 7] [] [0, 1, 2, 3, 4, 5, 6, 7] (va_free (wc := (wMD E a0 v0)) hD hS hA [0, 1, 2, 3, 4, 5, 6, 7] rfl) (va_runV (As := [.int (2 : Int32)]) (rest := []) ⟨hx, hb, hml, hown, hts⟩ (c_X11_bad l E s.heap.size a0 v0 (2 : Int32) r7 e7) (cwV 1 hts gX11_number_X11_bad rfl rfl rfl hdV_X11_bad ⟨Nat.le_of_ble_eq_true rfl, Nat.le_of_ble_eq_true rfl⟩) ⟨PW.blind, va_recv hC.1 hP (ci := 9) (q0 := 0) rfl rfl, PW.pre hC hS hP hD (va_free hD hS hA [0, 1, 2, 3, 4, 5, 6, 7] rfl)⟩ rfl rfl hl.1 rfl (lv_room (Nat.le_of_ble_eq_true rfl)) dX11_number_33 ⟨Nat.le_of_ble_eq_true rfl, Nat.le_of_ble_eq_true rfl⟩) rfl rfl rfl rfl (wMD E a0 r7) rfl rfl (fun H locs hP hD hS => ?_)
      cases Option.some.inj hf
      exact J1 H locs hP hD hS
  · have hf := it_f hf c5
    refine lv_aload_n hx hb dX11_number_8 rfl (lv_at hl 0 rfl) ?_
    refine lv_iconst (v := 1) hx hb dX11_number_9 rfl ?_
    obtain ⟨r8, e8, hf⟩ := bd_some hf
    refine cq_v hP hD hS [0, 1, 2, 3, 4, 5, 6, 7] [] [0, 1, 2, 3, 4, 5, 6, 7] (va_free (wc := (wMD E a0 v0)) hD hS hA [0, 1, 2, 3, 4, 5, 6, 7] rfl) (va_runV (As := [.int (1 : Int32)]) (rest := []) ⟨hx, hb, hml, hown, hts⟩ (c_X11_bad l E s.heap.size a0 v0 (1 : Int32) r8 e8) (cwV 1 hts gX11_number_X11_bad rfl rfl rfl hdV_X11_bad ⟨Nat.le_of_ble_eq_true rfl, Nat.le_of_ble_eq_true rfl⟩) ⟨PW.blind, va_recv hC.1 hP (ci := 9) (q0 := 0) rfl rfl, PW.pre hC hS hP hD (va_free hD hS hA [0, 1, 2, 3, 4, 5, 6, 7] rfl)⟩ rfl rfl hl.1 rfl (lv_room (Nat.le_of_ble_eq_true rfl)) dX11_number_10 ⟨Nat.le_of_ble_eq_true rfl, Nat.le_of_ble_eq_true rfl⟩) rfl rfl rfl rfl (wMD E a0 r8) rfl rfl (fun H locs hP hD hS => ?_)
    refine lv_goto (tgt := 36) hx hb dX11_number_13 rfl ?_
    cases Option.some.inj hf
    exact J1 H locs hP hD hS

/-! X11_sign -/
abbrev rmX11_sign : Room := { frames := 3, cells := 0, slots := 0, locals := 66 }
theorem hdS_X11_sign : yX11_sign.cls ≠ "java/lang/invoke/MethodHandle" ∧ yX11_sign.cls ≠ "java/lang/invoke/VarHandle" ∧ (parseMethodDescriptor yX11_sign.desc).map (fun d => d.parameters.length) = some 1 := by decide +kernel
theorem hdV_X11_sign : yX11_sign.cls = RX11 ∧ yX11_sign.cls ≠ "java/lang/invoke/MethodHandle" ∧ yX11_sign.cls ≠ "java/lang/invoke/VarHandle" ∧ (parseMethodDescriptor yX11_sign.desc).map (fun d => d.parameters.length) = some 1 := ⟨rfl, hdS_X11_sign⟩
set_option maxHeartbeats 4000000 in
set_option maxRecDepth 100000 in
theorem c_X11_sign (l : Launch) (E : G0) (sz : Nat) (a0 : Nat → Nat) (v0 : MD) (p1 : Int32) (x : MD) (hf : f_X11_sign v0 p1 = some x) : Met l yX11_sign wsX11_sign rmX11_sign (va_Pc [.ref (a0 0), .int p1] (PW E (wMD E a0 v0) sz)) (va_Qv (fun q => q = x) (fun q t => va_P E.1 vwCl ((fun q : MD => wMD E a0 q) q) t.heap ∧ va_D (va_A (wMD E a0 v0) sz) ((fun q : MD => wMD E a0 q) q)) (va_A (wMD E a0 v0) sz)) 0 0 (va_A (wMD E a0 v0) sz) := by
  refine Met.ofW (cc := cX11_sign) (maxL := 2) (ret := none) (by decide) rfl ?_
  intro p e s m args below meth c s₁ B hml hv
  obtain ⟨ha, hsz, hP, hD0, hC⟩ := hv
  have hx := B.exec
  have hb := B.bytes
  have hr := B.returns
  have hts := atoms_spec (ws := wsX11_sign) B.pre
  have hown : s.vm.findClass RX11 = some m.cls := findClass_of_methodNamed B.named
  have hlocks := B.notSynchronized
  subst hsz
  have hD := hD0.self (sz := s.heap.size)
  generalize hAe : va_A (wMD E a0 v0) s.heap.size = A at hD hC ⊢
  have hA : ∀ q : Nat, s.heap.size ≤ q → A q := fun q h => by rw [← hAe]; exact Or.inr h
  have hS : va_S A s.heap s.heap [] := va_S.rf
  have w1 : (Cond.fieldLink RX11 214 "GreatChunksModel" "token" "I").before args s = true := hts _ (List.mem_of_getElem? (i := 1) rfl)
  have w2 : ∀ w ∈ wsX110, w ∈ wsX11_sign := in_pl 33 rfl
  have w3 : (Cond.fieldLink RX11 199 "GreatChunksModel" "value" "I").before args s = true := hts _ (List.mem_of_getElem? (i := 2) rfl)
  generalize hQe : MQ below (va_Qv (fun q => q = x) (fun q t => va_P E.1 vwCl ((fun q : MD => wMD E a0 q) q) t.heap ∧ va_D A ((fun q : MD => wMD E a0 q) q)) A) args s 0 0 A = Q
  refine st_W ha (Nat.le_of_ble_eq_true rfl) (fun ls hl => ?_)
  have hl : lv_has ls 2 [(0, .ref (a0 0)), (1, .int p1)] := hl
  unfold f_X11_sign at hf
  refine lv_aload_n hx hb dX11_sign_0 rfl (lv_at hl 0 rfl) ?_
  refine va_get (D := E.1) (ci := 9) (v := .int v0.2.2.2.2.2.2.2.2.2.2.1) (C := RX11) (T := TX11) (N := 17) hx hb hts w2 hown hC.1 hP 0 rfl rfl 10 (by decide) w1 (fun _ h9 => h9) rfl dX11_sign_1 ?_
  refine lv_iconst (v := 3) hx hb dX11_sign_4 rfl ?_
  obtain ⟨q1, e1, hf⟩ := bd_some hf
  have J1 : ∀ (H : Heap) (locs : List Loc) (hP : va_P E.1 vwCl (wMD E a0 q1) H) (hD : va_D A (wMD E a0 q1)) (hS : va_S A s.heap H locs), W p l e (headSpec wsX11_sign rmX11_sign).room s m args below meth c H locs 0 0 Q (F0 m 21 ls []) := by
    intro H locs hP hD hS
    refine lv_aload_n hx hb dX11_sign_21 rfl (lv_at hl 0 rfl) ?_
    obtain ⟨r2, e2, hf⟩ := bd_some hf
    refine cq_v hP hD hS [0, 1, 2, 3, 4, 5, 6, 7] [] [0, 1, 2, 3, 4, 5, 6, 7] (va_free (wc := (wMD E a0 q1)) hD hS hA [0, 1, 2, 3, 4, 5, 6, 7] rfl) (va_runV (As := []) (rest := []) ⟨hx, hb, hml, hown, hts⟩ (c_X11_goesOn l E H.size a0 q1 r2 e2) (cwV 0 hts gX11_sign_X11_goesOn rfl rfl rfl hdV_X11_goesOn ⟨Nat.le_of_ble_eq_true rfl, Nat.le_of_ble_eq_true rfl⟩) ⟨PW.blind, va_recv hC.1 hP (ci := 9) (q0 := 0) rfl rfl, PW.pre hC hS hP hD (va_free hD hS hA [0, 1, 2, 3, 4, 5, 6, 7] rfl)⟩ rfl rfl hl.1 rfl (lv_room (Nat.le_of_ble_eq_true rfl)) dX11_sign_22 ⟨Nat.le_of_ble_eq_true rfl, Nat.le_of_ble_eq_true rfl⟩) rfl rfl rfl rfl (wMD E a0 r2) rfl rfl (fun H locs hP hD hS => ?_)
    cases Option.some.inj hf
    subst hQe
    exact ew_v (wf := (fun q : MD => wMD E a0 q)) hx hb hr hlocks hP hD hS dX11_sign_25
  have hf := e1
  refine lv_icmp_ne (tgt := 16) hx hb dX11_sign_5 rfl (fun c3 => ?_) (fun c3 => ?_)
  · have hf := it_f hf c3
    refine lv_aload_n hx hb dX11_sign_16 rfl (lv_at hl 0 rfl) ?_
    refine lv_iconst (v := 1) hx hb dX11_sign_17 rfl ?_
    obtain ⟨r4, e4, hf⟩ := bd_some hf
    refine cq_v hP hD hS [0, 1, 2, 3, 4, 5, 6, 7] [] [0, 1, 2, 3, 4, 5, 6, 7] (va_free (wc := (wMD E a0 v0)) hD hS hA [0, 1, 2, 3, 4, 5, 6, 7] rfl) (va_runV (As := [.int (1 : Int32)]) (rest := []) ⟨hx, hb, hml, hown, hts⟩ (c_X11_bad l E s.heap.size a0 v0 (1 : Int32) r4 e4) (cwV 1 hts gX11_sign_X11_bad rfl rfl rfl hdV_X11_bad ⟨Nat.le_of_ble_eq_true rfl, Nat.le_of_ble_eq_true rfl⟩) ⟨PW.blind, va_recv hC.1 hP (ci := 9) (q0 := 0) rfl rfl, PW.pre hC hS hP hD (va_free hD hS hA [0, 1, 2, 3, 4, 5, 6, 7] rfl)⟩ rfl rfl hl.1 rfl (lv_room (Nat.le_of_ble_eq_true rfl)) dX11_sign_18 ⟨Nat.le_of_ble_eq_true rfl, Nat.le_of_ble_eq_true rfl⟩) rfl rfl rfl rfl (wMD E a0 r4) rfl rfl (fun H locs hP hD hS => ?_)
    cases Option.some.inj hf
    exact J1 H locs hP hD hS
  · have hf := it_t hf c3
    refine lv_aload_n hx hb dX11_sign_8 rfl (lv_at hl 0 rfl) ?_
    refine va_get (D := E.1) (ci := 9) (v := .int v0.2.2.2.2.2.2.2.2.2.2.2.1) (C := RX11) (T := TX11) (N := 17) hx hb hts w2 hown hC.1 hP 0 rfl rfl 11 (by decide) w3 (fun _ h9 => h9) rfl dX11_sign_9 ?_
    refine lv_iload_n hx hb dX11_sign_12 rfl (lv_at hl 1 rfl) ?_
    refine lv_icmp_eq (tgt := 21) hx hb dX11_sign_13 rfl (fun c5 => ?_) (fun c5 => ?_)
    · have hf := it_t hf c5
      cases Option.some.inj hf
      exact J1 s.heap [] hP hD hS
    · have hf := it_f hf c5
      refine lv_aload_n hx hb dX11_sign_16 rfl (lv_at hl 0 rfl) ?_
      refine lv_iconst (v := 1) hx hb dX11_sign_17 rfl ?_
      obtain ⟨r6, e6, hf⟩ := bd_some hf
      refine cq_v hP hD hS [0, 1, 2, 3, 4, 5, 6, 7] [] [0, 1, 2, 3, 4, 5, 6, 7] (va_free (wc := (wMD E a0 v0)) hD hS hA [0, 1, 2, 3, 4, 5, 6, 7] rfl) (va_runV (As := [.int (1 : Int32)]) (rest := []) ⟨hx, hb, hml, hown, hts⟩ (c_X11_bad l E s.heap.size a0 v0 (1 : Int32) r6 e6) (cwV 1 hts gX11_sign_X11_bad rfl rfl rfl hdV_X11_bad ⟨Nat.le_of_ble_eq_true rfl, Nat.le_of_ble_eq_true rfl⟩) ⟨PW.blind, va_recv hC.1 hP (ci := 9) (q0 := 0) rfl rfl, PW.pre hC hS hP hD (va_free hD hS hA [0, 1, 2, 3, 4, 5, 6, 7] rfl)⟩ rfl rfl hl.1 rfl (lv_room (Nat.le_of_ble_eq_true rfl)) dX11_sign_18 ⟨Nat.le_of_ble_eq_true rfl, Nat.le_of_ble_eq_true rfl⟩) rfl rfl rfl rfl (wMD E a0 r6) rfl rfl (fun H locs hP hD hS => ?_)
      cases Option.some.inj hf
      exact J1 H locs hP hD hS

/-! X11_isLetter -/
abbrev rmX11_isLetter : Room := { frames := 0, cells := 0, slots := 0, locals := 0 }
theorem hdS_X11_isLetter : yX11_isLetter.cls ≠ "java/lang/invoke/MethodHandle" ∧ yX11_isLetter.cls ≠ "java/lang/invoke/VarHandle" ∧ (parseMethodDescriptor yX11_isLetter.desc).map (fun d => d.parameters.length) = some 1 := by decide +kernel
theorem hdV_X11_isLetter : yX11_isLetter.cls = RX11 ∧ yX11_isLetter.cls ≠ "java/lang/invoke/MethodHandle" ∧ yX11_isLetter.cls ≠ "java/lang/invoke/VarHandle" ∧ (parseMethodDescriptor yX11_isLetter.desc).map (fun d => d.parameters.length) = some 1 := ⟨rfl, hdS_X11_isLetter⟩
set_option maxHeartbeats 4000000 in
set_option maxRecDepth 100000 in
theorem c_X11_isLetter (l : Launch) (E : G0) (a0 : Nat → Nat) (v0 : MD) (p1 : Int32) (x : Bool) (hf : f_X11_isLetter v0 p1 = x) : Met l yX11_isLetter wsX11_isLetter rmX11_isLetter (va_Pc [.ref (a0 0), .int p1] (PR E (wMD E a0 v0))) (vp_Si (fun r => r = bI x)) 0 0 (fun _ => False) := by
  refine Met.ofW (cc := cX11_isLetter) (maxL := 2) (ret := some .boolean) (by decide) rfl ?_
  intro p e s m args below meth c s₁ B hml hv
  obtain ⟨ha, hP, hC⟩ := hv
  have hx := B.exec
  have hb := B.bytes
  have hr := B.returns
  have hts := atoms_spec (ws := wsX11_isLetter) B.pre
  have hown : s.vm.findClass RX11 = some m.cls := findClass_of_methodNamed B.named
  have hlocks := B.notSynchronized
  have hS : va_S (fun _ => False) s.heap s.heap [] := va_S.rf
  have w1 : (Cond.fieldLink RX11 217 "GreatChunksModel" "fault" "I").before args s = true := hts _ (List.mem_of_getElem? (i := 1) rfl)
  have w2 : ∀ w ∈ wsX110, w ∈ wsX11_isLetter := in_pl 4 rfl
  have w3 : (Cond.fieldLink RX11 214 "GreatChunksModel" "token" "I").before args s = true := hts _ (List.mem_of_getElem? (i := 2) rfl)
  have w4 : (Cond.fieldLink RX11 199 "GreatChunksModel" "value" "I").before args s = true := hts _ (List.mem_of_getElem? (i := 3) rfl)
  generalize hQe : MQ below (vp_Si (fun r => r = bI x)) args s 0 0 (fun _ => False) = Q
  refine st_W ha (Nat.le_of_ble_eq_true rfl) (fun ls hl => ?_)
  have hl : lv_has ls 2 [(0, .ref (a0 0)), (1, .int p1)] := hl
  unfold f_X11_isLetter at hf
  refine lv_aload_n hx hb dX11_isLetter_0 rfl (lv_at hl 0 rfl) ?_
  refine va_get (D := E.1) (ci := 9) (v := .int v0.2.2.2.2.2.2.2.2.2.2.2.2.1) (C := RX11) (T := TX11) (N := 17) hx hb hts w2 hown hC.1 hP 0 rfl rfl 12 (by decide) w1 (fun _ h9 => h9) rfl dX11_isLetter_1 ?_
  refine lv_if_ne (tgt := 27) hx hb dX11_isLetter_4 rfl (fun c1 => ?_) (fun c1 => ?_)
  · have hf := it_f hf c1
    refine lv_iconst (v := 0) hx hb dX11_isLetter_27 rfl ?_
    subst hf
    subst hQe
    exact en_z hx hb hr hlocks rfl dX11_isLetter_28
  · have hf := it_t hf c1
    refine lv_aload_n hx hb dX11_isLetter_7 rfl (lv_at hl 0 rfl) ?_
    refine va_get (D := E.1) (ci := 9) (v := .int v0.2.2.2.2.2.2.2.2.2.2.1) (C := RX11) (T := TX11) (N := 17) hx hb hts w2 hown hC.1 hP 0 rfl rfl 10 (by decide) w3 (fun _ h9 => h9) rfl dX11_isLetter_8 ?_
    refine lv_iconst (v := 1) hx hb dX11_isLetter_11 rfl ?_
    refine lv_icmp_ne (tgt := 27) hx hb dX11_isLetter_12 rfl (fun c2 => ?_) (fun c2 => ?_)
    · have hf := it_f hf c2
      refine lv_iconst (v := 0) hx hb dX11_isLetter_27 rfl ?_
      subst hf
      subst hQe
      exact en_z hx hb hr hlocks rfl dX11_isLetter_28
    · have hf := it_t hf c2
      refine lv_aload_n hx hb dX11_isLetter_15 rfl (lv_at hl 0 rfl) ?_
      refine va_get (D := E.1) (ci := 9) (v := .int v0.2.2.2.2.2.2.2.2.2.2.2.1) (C := RX11) (T := TX11) (N := 17) hx hb hts w2 hown hC.1 hP 0 rfl rfl 11 (by decide) w4 (fun _ h9 => h9) rfl dX11_isLetter_16 ?_
      refine lv_iload_n hx hb dX11_isLetter_19 rfl (lv_at hl 1 rfl) ?_
      refine lv_icmp_ne (tgt := 27) hx hb dX11_isLetter_20 rfl (fun c3 => ?_) (fun c3 => ?_)
      · have hf := it_f hf c3
        refine lv_iconst (v := 0) hx hb dX11_isLetter_27 rfl ?_
        subst hf
        subst hQe
        exact en_z hx hb hr hlocks rfl dX11_isLetter_28
      · have hf := it_t hf c3
        refine lv_iconst (v := 1) hx hb dX11_isLetter_23 rfl ?_
        refine lv_goto (tgt := 28) hx hb dX11_isLetter_24 rfl ?_
        subst hf
        subst hQe
        exact en_z hx hb hr hlocks rfl dX11_isLetter_28

/-! X11_feed -/
abbrev rmX11_feed : Room := { frames := 1, cells := 0, slots := 0, locals := 25 }
theorem hdS_X11_feed : yX11_feed.cls ≠ "java/lang/invoke/MethodHandle" ∧ yX11_feed.cls ≠ "java/lang/invoke/VarHandle" ∧ (parseMethodDescriptor yX11_feed.desc).map (fun d => d.parameters.length) = some 1 := by decide +kernel
theorem hdV_X11_feed : yX11_feed.cls = RX11 ∧ yX11_feed.cls ≠ "java/lang/invoke/MethodHandle" ∧ yX11_feed.cls ≠ "java/lang/invoke/VarHandle" ∧ (parseMethodDescriptor yX11_feed.desc).map (fun d => d.parameters.length) = some 1 := ⟨rfl, hdS_X11_feed⟩
set_option maxHeartbeats 4000000 in
set_option maxRecDepth 100000 in
theorem c_X11_feed (l : Launch) (E : G0) (sz : Nat) (a0 : Nat → Nat) (v0 : MD) (p1 : Int32) (x : Int32 × MD) (hf : f_X11_feed v0 p1 = some x) : Met l yX11_feed wsX11_feed rmX11_feed (va_Pc [.ref (a0 0), .int p1] (PW E (wMD E a0 v0) sz)) (va_Qi (fun r q => r = x.1 ∧ q = x.2) (fun q t => va_P E.1 vwCl ((fun q : MD => wMD E a0 q) q) t.heap ∧ va_D (va_A (wMD E a0 v0) sz) ((fun q : MD => wMD E a0 q) q)) (va_A (wMD E a0 v0) sz)) 0 0 (va_A (wMD E a0 v0) sz) := by
  refine Met.ofW (cc := cX11_feed) (maxL := 2) (ret := some .int) (by decide) rfl ?_
  intro p e s m args below meth c s₁ B hml hv
  obtain ⟨ha, hsz, hP, hD0, hC⟩ := hv
  have hx := B.exec
  have hb := B.bytes
  have hr := B.returns
  have hts := atoms_spec (ws := wsX11_feed) B.pre
  have hown : s.vm.findClass RX11 = some m.cls := findClass_of_methodNamed B.named
  have hlocks := B.notSynchronized
  subst hsz
  have hD := hD0.self (sz := s.heap.size)
  generalize hAe : va_A (wMD E a0 v0) s.heap.size = A at hD hC ⊢
  have hA : ∀ q : Nat, s.heap.size ≤ q → A q := fun q h => by rw [← hAe]; exact Or.inr h
  have hS : va_S A s.heap s.heap [] := va_S.rf
  have w1 : (Cond.constantLong RX11 233 (255)).before args s = true := hts _ (List.mem_of_getElem? (i := 1) rfl)
  have w2 : (Cond.constant RX11 235 (-1000001)).before args s = true := hts _ (List.mem_of_getElem? (i := 2) rfl)
  have w3 : (Cond.fieldLink RX11 187 "GreatChunksModel" "taped" "I").before args s = true := hts _ (List.mem_of_getElem? (i := 3) rfl)
  have w4 : ∀ w ∈ wsX110, w ∈ wsX11_feed := in_pl 10 rfl
  have w5 : (Cond.constant RX11 106 (-1000003)).before args s = true := hts _ (List.mem_of_getElem? (i := 4) rfl)
  have w6 : (Cond.fieldLink RX11 26 "GreatChunksModel" "tape" "[I").before args s = true := hts _ (List.mem_of_getElem? (i := 5) rfl)
  generalize hQe : MQ below (va_Qi (fun r q => r = x.1 ∧ q = x.2) (fun q t => va_P E.1 vwCl ((fun q : MD => wMD E a0 q) q) t.heap ∧ va_D A ((fun q : MD => wMD E a0 q) q)) A) args s 0 0 A = Q
  refine st_W ha (Nat.le_of_ble_eq_true rfl) (fun ls hl => ?_)
  have hl : lv_has ls 2 [(0, .ref (a0 0)), (1, .int p1)] := hl
  unfold f_X11_feed at hf
  refine lv_iload_n hx hb dX11_feed_0 rfl (lv_at hl 1 rfl) ?_
  refine lv_i2l hx hb dX11_feed_1 rfl ?_
  refine lv_lconst (v := 0) hx hb dX11_feed_2 rfl ?_
  refine lv_ldc2 hx hb hown w1 dX11_feed_3 ?_
  refine cr_i (va_runS (As := [.long p1.toInt64, .long (0 : Int64), .long ((255) : Int64)]) (rest := []) ⟨hx, hb, hml, hown, hts⟩ (c_X11_in l E p1.toInt64 (0 : Int64) ((255) : Int64) _ rfl) (va_cwS 3 hts gX11_feed_X11_in rfl rfl rfl hdS_X11_in ⟨Nat.le_of_ble_eq_true rfl, Nat.le_of_ble_eq_true rfl⟩) ⟨PR.blind, PR.pre hC hS (hP.sub [] rfl)⟩ rfl rfl hl.1 rfl (lv_room (Nat.le_of_ble_eq_true rfl)) dX11_feed_6 ⟨Nat.le_of_ble_eq_true rfl, Nat.le_of_ble_eq_true rfl⟩) ?_
  refine lv_if_ne (tgt := 15) hx hb dX11_feed_9 rfl (fun c1 => ?_) (fun c1 => ?_)
  · have hf := it_f hf c1
    refine lv_aload_n hx hb dX11_feed_15 rfl (lv_at hl 0 rfl) ?_
    refine va_get (D := E.1) (ci := 9) (v := .int v0.2.2.2.2.2.2.2.1) (C := RX11) (T := TX11) (N := 17) hx hb hts w4 hown hC.1 hP 0 rfl rfl 7 (by decide) w3 (fun _ h9 => h9) rfl dX11_feed_16 ?_
    refine lv_bipush (v := 80) hx hb dX11_feed_19 rfl ?_
    refine lv_icmp_ne (tgt := 27) hx hb dX11_feed_21 rfl (fun c2 => ?_) (fun c2 => ?_)
    · have hf := it_f hf c2
      refine lv_aload_n hx hb dX11_feed_27 rfl (lv_at hl 0 rfl) ?_
      refine va_get (D := E.1) (ci := 9) (v := .ref (a0 6)) (C := RX11) (T := TX11) (N := 17) hx hb hts w4 hown hC.1 hP 0 rfl rfl 6 (by decide) w6 (fun _ h9 => h9) rfl dX11_feed_28 ?_
      refine lv_aload_n hx hb dX11_feed_31 rfl (lv_at hl 0 rfl) ?_
      refine va_get (D := E.1) (ci := 9) (v := .int v0.2.2.2.2.2.2.2.1) (C := RX11) (T := TX11) (N := 17) hx hb hts w4 hown hC.1 hP 0 rfl rfl 7 (by decide) w3 (fun _ h9 => h9) rfl dX11_feed_32 ?_
      refine lv_iload_n hx hb dX11_feed_35 rfl (lv_at hl 1 rfl) ?_
      obtain ⟨h3, hf⟩ := gdI_some hf
      refine va_iast hx hb hC.1 hP hD hS 6 0 rfl rfl h3 dX11_feed_36 (fun H locs hP hD hS => ?_)
      have hP : va_P E.1 vwCl (wMD E a0 (v0.1, v0.2.1, v0.2.2.1, v0.2.2.2.1, v0.2.2.2.2.1, v0.2.2.2.2.2.1, (upd v0.2.2.2.2.2.2.1 v0.2.2.2.2.2.2.2.1.toNatClampNeg p1), v0.2.2.2.2.2.2.2.1, v0.2.2.2.2.2.2.2.2.1, v0.2.2.2.2.2.2.2.2.2.1, v0.2.2.2.2.2.2.2.2.2.2.1, v0.2.2.2.2.2.2.2.2.2.2.2.1, v0.2.2.2.2.2.2.2.2.2.2.2.2.1, v0.2.2.2.2.2.2.2.2.2.2.2.2.2.1, v0.2.2.2.2.2.2.2.2.2.2.2.2.2.2.1, v0.2.2.2.2.2.2.2.2.2.2.2.2.2.2.2.1, v0.2.2.2.2.2.2.2.2.2.2.2.2.2.2.2.2)) H := hP
      have hD : va_D A (wMD E a0 (v0.1, v0.2.1, v0.2.2.1, v0.2.2.2.1, v0.2.2.2.2.1, v0.2.2.2.2.2.1, (upd v0.2.2.2.2.2.2.1 v0.2.2.2.2.2.2.2.1.toNatClampNeg p1), v0.2.2.2.2.2.2.2.1, v0.2.2.2.2.2.2.2.2.1, v0.2.2.2.2.2.2.2.2.2.1, v0.2.2.2.2.2.2.2.2.2.2.1, v0.2.2.2.2.2.2.2.2.2.2.2.1, v0.2.2.2.2.2.2.2.2.2.2.2.2.1, v0.2.2.2.2.2.2.2.2.2.2.2.2.2.1, v0.2.2.2.2.2.2.2.2.2.2.2.2.2.2.1, v0.2.2.2.2.2.2.2.2.2.2.2.2.2.2.2.1, v0.2.2.2.2.2.2.2.2.2.2.2.2.2.2.2.2)) := hD
      refine lv_aload_n hx hb dX11_feed_37 rfl (lv_at hl 0 rfl) ?_
      refine lv_dup hx hb dX11_feed_38 rfl ?_
      refine va_get (D := E.1) (ci := 9) (v := .int v0.2.2.2.2.2.2.2.1) (C := RX11) (T := TX11) (N := 17) hx hb hts w4 hown hC.1 hP 0 rfl rfl 7 (by decide) w3 (fun _ h9 => h9) rfl dX11_feed_39 ?_
      refine lv_iconst (v := 1) hx hb dX11_feed_42 rfl ?_
      refine lv_iadd hx hb dX11_feed_43 ?_
      refine va_put (D := E.1) (ci := 9) (v := .int (v0.2.2.2.2.2.2.2.1 + (1 : Int32))) (ty := .int) (C := RX11) (T := TX11) (N := 17) hx hb hts w4 tyX11 tyX11_ok nmX11 hown hC.1 hP hD hS 0 rfl rfl 7 (by decide) w3 (fun _ h9 => h9) rfl (by decide +kernel) rfl rfl (Nat.le_of_ble_eq_true rfl) dX11_feed_44 (fun H locs hP hD hS => ?_)
      have hP : va_P E.1 vwCl (wMD E a0 (v0.1, v0.2.1, v0.2.2.1, v0.2.2.2.1, v0.2.2.2.2.1, v0.2.2.2.2.2.1, (upd v0.2.2.2.2.2.2.1 v0.2.2.2.2.2.2.2.1.toNatClampNeg p1), (v0.2.2.2.2.2.2.2.1 + (1 : Int32)), v0.2.2.2.2.2.2.2.2.1, v0.2.2.2.2.2.2.2.2.2.1, v0.2.2.2.2.2.2.2.2.2.2.1, v0.2.2.2.2.2.2.2.2.2.2.2.1, v0.2.2.2.2.2.2.2.2.2.2.2.2.1, v0.2.2.2.2.2.2.2.2.2.2.2.2.2.1, v0.2.2.2.2.2.2.2.2.2.2.2.2.2.2.1, v0.2.2.2.2.2.2.2.2.2.2.2.2.2.2.2.1, v0.2.2.2.2.2.2.2.2.2.2.2.2.2.2.2.2)) H := hP
      have hD : va_D A (wMD E a0 (v0.1, v0.2.1, v0.2.2.1, v0.2.2.2.1, v0.2.2.2.2.1, v0.2.2.2.2.2.1, (upd v0.2.2.2.2.2.2.1 v0.2.2.2.2.2.2.2.1.toNatClampNeg p1), (v0.2.2.2.2.2.2.2.1 + (1 : Int32)), v0.2.2.2.2.2.2.2.2.1, v0.2.2.2.2.2.2.2.2.2.1, v0.2.2.2.2.2.2.2.2.2.2.1, v0.2.2.2.2.2.2.2.2.2.2.2.1, v0.2.2.2.2.2.2.2.2.2.2.2.2.1, v0.2.2.2.2.2.2.2.2.2.2.2.2.2.1, v0.2.2.2.2.2.2.2.2.2.2.2.2.2.2.1, v0.2.2.2.2.2.2.2.2.2.2.2.2.2.2.2.1, v0.2.2.2.2.2.2.2.2.2.2.2.2.2.2.2.2)) := hD
      refine lv_aload_n hx hb dX11_feed_47 rfl (lv_at hl 0 rfl) ?_
      refine va_get (D := E.1) (ci := 9) (v := .int (v0.2.2.2.2.2.2.2.1 + (1 : Int32))) (C := RX11) (T := TX11) (N := 17) hx hb hts w4 hown hC.1 hP 0 rfl rfl 7 (by decide) w3 (fun _ h9 => h9) rfl dX11_feed_48 ?_
      cases Option.some.inj hf
      subst hQe
      exact ew_i (wf := (fun q : MD => wMD E a0 q)) hx hb hr hlocks hP hD hS dX11_feed_51
    · have hf := it_t hf c2
      refine lv_ldc hx hb hown w5 dX11_feed_24 ?_
      cases Option.some.inj hf
      subst hQe
      exact ew_i (wf := (fun q : MD => wMD E a0 q)) hx hb hr hlocks hP hD hS dX11_feed_26
  · have hf := it_t hf c1
    refine lv_ldc hx hb hown w2 dX11_feed_12 ?_
    cases Option.some.inj hf
    subst hQe
    exact ew_i (wf := (fun q : MD => wMD E a0 q)) hx hb hr hlocks hP hD hS dX11_feed_14

/-! X11_readsServers -/
abbrev rmX11_readsServers : Room := { frames := 4, cells := 0, slots := 0, locals := 89 }
theorem hdS_X11_readsServers : yX11_readsServers.cls ≠ "java/lang/invoke/MethodHandle" ∧ yX11_readsServers.cls ≠ "java/lang/invoke/VarHandle" ∧ (parseMethodDescriptor yX11_readsServers.desc).map (fun d => d.parameters.length) = some 0 := by decide +kernel
theorem hdV_X11_readsServers : yX11_readsServers.cls = RX11 ∧ yX11_readsServers.cls ≠ "java/lang/invoke/MethodHandle" ∧ yX11_readsServers.cls ≠ "java/lang/invoke/VarHandle" ∧ (parseMethodDescriptor yX11_readsServers.desc).map (fun d => d.parameters.length) = some 0 := ⟨rfl, hdS_X11_readsServers⟩
set_option maxHeartbeats 4000000 in
set_option maxRecDepth 100000 in
theorem c_X11_readsServers (l : Launch) (E : G0) (sz : Nat) (a0 : Nat → Nat) (v0 : MD) (x : MD) (hf : f_X11_readsServers v0 = some x) : Met l yX11_readsServers wsX11_readsServers rmX11_readsServers (va_Pc [.ref (a0 0)] (PW E (wMD E a0 v0) sz)) (va_Qv (fun q => q = x) (fun q t => va_P E.1 vwCl ((fun q : MD => wMD E a0 q) q) t.heap ∧ va_D (va_A (wMD E a0 v0) sz) ((fun q : MD => wMD E a0 q) q)) (va_A (wMD E a0 v0) sz)) 0 0 (va_A (wMD E a0 v0) sz) := by
  refine Met.ofW (cc := cX11_readsServers) (maxL := 3) (ret := none) (by decide) rfl ?_
  intro p e s m args below meth c s₁ B hml hv
  obtain ⟨ha, hsz, hP, hD0, hC⟩ := hv
  have hx := B.exec
  have hb := B.bytes
  have hr := B.returns
  have hts := atoms_spec (ws := wsX11_readsServers) B.pre
  have hown : s.vm.findClass RX11 = some m.cls := findClass_of_methodNamed B.named
  have hlocks := B.notSynchronized
  subst hsz
  have hD := hD0.self (sz := s.heap.size)
  generalize hAe : va_A (wMD E a0 v0) s.heap.size = A at hD hC ⊢
  have hA : ∀ q : Nat, s.heap.size ≤ q → A q := fun q h => by rw [← hAe]; exact Or.inr h
  have hS : va_S A s.heap s.heap [] := va_S.rf
  have w1 : (Cond.fieldLink RX11 13 "GreatChunksModel" "tried" "[J").before args s = true := hts _ (List.mem_of_getElem? (i := 1) rfl)
  have w2 : ∀ w ∈ wsX110, w ∈ wsX11_readsServers := in_pl 46 rfl
  have w3 : (Cond.fieldLink RX11 217 "GreatChunksModel" "fault" "I").before args s = true := hts _ (List.mem_of_getElem? (i := 2) rfl)
  generalize hQe : MQ below (va_Qv (fun q => q = x) (fun q t => va_P E.1 vwCl ((fun q : MD => wMD E a0 q) q) t.heap ∧ va_D A ((fun q : MD => wMD E a0 q) q)) A) args s 0 0 A = Q
  refine st_W ha (Nat.le_of_ble_eq_true rfl) (fun ls hl => ?_)
  have hl : lv_has ls 3 [(0, .ref (a0 0))] := hl
  unfold f_X11_readsServers at hf
  refine lv_iconst (v := 0) hx hb dX11_readsServers_0 rfl ?_
  refine lv_istore_n (lv' := [(1, .int (0 : Int32)), (0, .ref (a0 0))]) hx hb dX11_readsServers_1 rfl hl (by decide) rfl (fun ls hl => ?_)
  obtain ⟨K1, hK1, hf⟩ := jn_some hf
  have J1 : ∀ (q1 : Int32 × MD) (H : Heap) (locs : List Loc) (hP : va_P E.1 vwCl (wMD E a0 q1.2) H) (hD : va_D A (wMD E a0 q1.2)) (hS : va_S A s.heap H locs) (ls : Array Slot) (hl : lv_has ls 3 []) (hf : K1 q1 = some x), W p l e (headSpec wsX11_readsServers rmX11_readsServers).room s m args below meth c H locs 0 0 Q (F0 m 74 ls []) := by
    intro q1 H locs hP hD hS ls hl hf
    have hf := (hK1 q1).trans hf
    cases Option.some.inj hf
    subst hQe
    exact ew_v (wf := (fun q : MD => wMD E a0 q)) hx hb hr hlocks hP hD hS dX11_readsServers_74
  have L1 : ∀ (n : Nat) (q1 : Int32 × MD) (H : Heap) (locs : List Loc) (hP : va_P E.1 vwCl (wMD E a0 q1.2) H) (hD : va_D A (wMD E a0 q1.2)) (hS : va_S A s.heap H locs) (ls : Array Slot) (hl : lv_has ls 3 [(0, .ref (a0 0)), (1, .int q1.1)]) (hf : lpF (bX11_readsServers_1 K1) n q1 = some x), W p l e (headSpec wsX11_readsServers rmX11_readsServers).room s m args below meth c H locs 0 0 Q (F0 m 2 ls []) := by
    intro n
    induction n with
    | zero => intro q1 H locs hP hD hS ls hl hf; exact (lpF_zero hf).elim
    | succ n ih1 =>
      intro q1 H locs hP hD hS ls hl hf
      have hf := lpF_succ hf
      unfold bX11_readsServers_1 at hf
      refine lv_aload_n hx hb dX11_readsServers_2 rfl (lv_at hl 0 rfl) ?_
      refine lv_bipush (v := 115) hx hb dX11_readsServers_3 rfl ?_
      refine cr_i (va_runV (As := [.int (115 : Int32)]) (rest := []) ⟨hx, hb, hml, hown, hts⟩ (c_X11_isLetter l E a0 q1.2 (115 : Int32) _ rfl) (cwV 1 hts gX11_readsServers_X11_isLetter rfl rfl rfl hdV_X11_isLetter ⟨Nat.le_of_ble_eq_true rfl, Nat.le_of_ble_eq_true rfl⟩) ⟨PR.blind, va_recv hC.1 hP (ci := 9) (q0 := 0) rfl rfl, PR.pre hC hS hP⟩ rfl rfl hl.1 rfl (lv_room (Nat.le_of_ble_eq_true rfl)) dX11_readsServers_5 ⟨Nat.le_of_ble_eq_true rfl, Nat.le_of_ble_eq_true rfl⟩) ?_
      refine lv_if_eq (tgt := 74) hx hb dX11_readsServers_8 rfl (fun c2 => ?_) (fun c2 => ?_)
      · have hf := it_t hf c2
        exact J1 (q1.1, q1.2) H locs hP hD hS ls (lv_sub hl [] rfl) hf
      · have hf := it_f hf c2
        refine lv_iload_n hx hb dX11_readsServers_11 rfl (lv_at hl 1 rfl) ?_
        refine lv_i2l hx hb dX11_readsServers_12 rfl ?_
        refine lv_aload_n hx hb dX11_readsServers_13 rfl (lv_at hl 0 rfl) ?_
        refine va_get (D := E.1) (ci := 9) (v := .ref (a0 2)) (C := RX11) (T := TX11) (N := 17) hx hb hts w2 hown hC.1 hP 0 rfl rfl 1 (by decide) w1 (fun _ h9 => h9) rfl dX11_readsServers_14 ?_
        refine lv_iconst (v := 0) hx hb dX11_readsServers_17 rfl ?_
        obtain ⟨h3, hf⟩ := gdI_some hf
        refine va_lald hx hb hC.1 hP 2 1 rfl rfl h3 dX11_readsServers_18 ?_
        refine W.lcmp hx hb dX11_readsServers_19 ?_
        obtain ⟨q4, e4, hf⟩ := bd_some hf
        have J4 : ∀ (H : Heap) (locs : List Loc) (hP : va_P E.1 vwCl (wMD E a0 q4) H) (hD : va_D A (wMD E a0 q4)) (hS : va_S A s.heap H locs), W p l e (headSpec wsX11_readsServers rmX11_readsServers).room s m args below meth c H locs 0 0 Q (F0 m 28 ls []) := by
          intro H locs hP hD hS
          refine lv_aload_n hx hb dX11_readsServers_28 rfl (lv_at hl 0 rfl) ?_
          obtain ⟨r5, e5, hf⟩ := bd_some hf
          refine cq_v hP hD hS [0, 1, 2, 3, 4, 5, 6, 7] [] [0, 1, 2, 3, 4, 5, 6, 7] (va_free (wc := (wMD E a0 q4)) hD hS hA [0, 1, 2, 3, 4, 5, 6, 7] rfl) (va_runV (As := []) (rest := []) ⟨hx, hb, hml, hown, hts⟩ (c_X11_goesOn l E H.size a0 q4 r5 e5) (cwV 0 hts gX11_readsServers_X11_goesOn rfl rfl rfl hdV_X11_goesOn ⟨Nat.le_of_ble_eq_true rfl, Nat.le_of_ble_eq_true rfl⟩) ⟨PW.blind, va_recv hC.1 hP (ci := 9) (q0 := 0) rfl rfl, PW.pre hC hS hP hD (va_free hD hS hA [0, 1, 2, 3, 4, 5, 6, 7] rfl)⟩ rfl rfl hl.1 rfl (lv_room (Nat.le_of_ble_eq_true rfl)) dX11_readsServers_29 ⟨Nat.le_of_ble_eq_true rfl, Nat.le_of_ble_eq_true rfl⟩) rfl rfl rfl rfl (wMD E a0 r5) rfl rfl (fun H locs hP hD hS => ?_)
          refine lv_aload_n hx hb dX11_readsServers_32 rfl (lv_at hl 0 rfl) ?_
          refine lv_iconst (v := 1) hx hb dX11_readsServers_33 rfl ?_
          refine lv_bipush (v := 9) hx hb dX11_readsServers_34 rfl ?_
          obtain ⟨r6, e6, hf⟩ := bd_some hf
          refine cq_i hP hD hS [0, 1, 2, 3, 4, 5, 6, 7] [] [0, 1, 2, 3, 4, 5, 6, 7] (va_free (wc := (wMD E a0 r5)) hD hS hA [0, 1, 2, 3, 4, 5, 6, 7] rfl) (va_runV (As := [.int (1 : Int32), .int (9 : Int32)]) (rest := []) ⟨hx, hb, hml, hown, hts⟩ (c_X11_number l E H.size a0 r5 (1 : Int32) (9 : Int32) r6 e6) (cwV 2 hts gX11_readsServers_X11_number rfl rfl rfl hdV_X11_number ⟨Nat.le_of_ble_eq_true rfl, Nat.le_of_ble_eq_true rfl⟩) ⟨PW.blind, va_recv hC.1 hP (ci := 9) (q0 := 0) rfl rfl, PW.pre hC hS hP hD (va_free hD hS hA [0, 1, 2, 3, 4, 5, 6, 7] rfl)⟩ rfl rfl hl.1 rfl (lv_room (Nat.le_of_ble_eq_true rfl)) dX11_readsServers_36 ⟨Nat.le_of_ble_eq_true rfl, Nat.le_of_ble_eq_true rfl⟩) rfl rfl rfl rfl (wMD E a0 r6.2) rfl rfl (fun H locs hP hD hS => ?_)
          refine lv_istore_n (lv' := [(2, .int r6.1), (0, .ref (a0 0)), (1, .int q1.1)]) hx hb dX11_readsServers_39 rfl hl (by decide) rfl (fun ls hl => ?_)
          refine lv_aload_n hx hb dX11_readsServers_40 rfl (lv_at hl 1 rfl) ?_
          refine lv_bipush (v := 59) hx hb dX11_readsServers_41 rfl ?_
          obtain ⟨r7, e7, hf⟩ := bd_some hf
          refine cq_v hP hD hS [0, 1, 2, 3, 4, 5, 6, 7] [] [0, 1, 2, 3, 4, 5, 6, 7] (va_free (wc := (wMD E a0 r6.2)) hD hS hA [0, 1, 2, 3, 4, 5, 6, 7] rfl) (va_runV (As := [.int (59 : Int32)]) (rest := []) ⟨hx, hb, hml, hown, hts⟩ (c_X11_sign l E H.size a0 r6.2 (59 : Int32) r7 e7) (cwV 1 hts gX11_readsServers_X11_sign rfl rfl rfl hdV_X11_sign ⟨Nat.le_of_ble_eq_true rfl, Nat.le_of_ble_eq_true rfl⟩) ⟨PW.blind, va_recv hC.1 hP (ci := 9) (q0 := 0) rfl rfl, PW.pre hC hS hP hD (va_free hD hS hA [0, 1, 2, 3, 4, 5, 6, 7] rfl)⟩ rfl rfl hl.1 rfl (lv_room (Nat.le_of_ble_eq_true rfl)) dX11_readsServers_43 ⟨Nat.le_of_ble_eq_true rfl, Nat.le_of_ble_eq_true rfl⟩) rfl rfl rfl rfl (wMD E a0 r7) rfl rfl (fun H locs hP hD hS => ?_)
          refine lv_aload_n hx hb dX11_readsServers_46 rfl (lv_at hl 1 rfl) ?_
          refine va_get (D := E.1) (ci := 9) (v := .int r7.2.2.2.2.2.2.2.2.2.2.2.2.1) (C := RX11) (T := TX11) (N := 17) hx hb hts w2 hown hC.1 hP 0 rfl rfl 12 (by decide) w3 (fun _ h9 => h9) rfl dX11_readsServers_47 ?_
          refine lv_if_ne (tgt := 71) hx hb dX11_readsServers_50 rfl (fun c8 => ?_) (fun c8 => ?_)
          · have hf := it_f hf c8
            refine lv_goto (tgt := 2) hx hb dX11_readsServers_71 rfl ?_
            exact ih1 (q1.1, r7) H locs hP hD hS ls (lv_sub hl [1, 2] rfl) hf
          · have hf := it_t hf c8
            refine lv_aload_n hx hb dX11_readsServers_53 rfl (lv_at hl 1 rfl) ?_
            refine va_get (D := E.1) (ci := 9) (v := .ref (a0 2)) (C := RX11) (T := TX11) (N := 17) hx hb hts w2 hown hC.1 hP 0 rfl rfl 1 (by decide) w1 (fun _ h9 => h9) rfl dX11_readsServers_54 ?_
            refine lv_bipush (v := 7) hx hb dX11_readsServers_57 rfl ?_
            refine lv_iconst (v := 3) hx hb dX11_readsServers_59 rfl ?_
            refine lv_iload_n hx hb dX11_readsServers_60 rfl (lv_at hl 2 rfl) ?_
            refine lv_imul hx hb dX11_readsServers_61 ?_
            refine lv_iadd hx hb dX11_readsServers_62 ?_
            refine lv_iconst (v := 1) hx hb dX11_readsServers_63 rfl ?_
            refine lv_iadd hx hb dX11_readsServers_64 ?_
            refine lv_iload_n hx hb dX11_readsServers_65 rfl (lv_at hl 0 rfl) ?_
            refine lv_i2l hx hb dX11_readsServers_66 rfl ?_
            obtain ⟨h9, hf⟩ := gdI_some hf
            refine va_last hx hb hC.1 hP hD hS 2 1 rfl rfl h9 dX11_readsServers_67 (fun H locs hP hD hS => ?_)
            have hP : va_P E.1 vwCl (wMD E a0 (r7.1, (vp_updL r7.2.1 (((7 : Int32) + ((3 : Int32) * q1.1)) + (1 : Int32)).toNatClampNeg r6.1.toInt64), r7.2.2.1, r7.2.2.2.1, r7.2.2.2.2.1, r7.2.2.2.2.2.1, r7.2.2.2.2.2.2.1, r7.2.2.2.2.2.2.2.1, r7.2.2.2.2.2.2.2.2.1, r7.2.2.2.2.2.2.2.2.2.1, r7.2.2.2.2.2.2.2.2.2.2.1, r7.2.2.2.2.2.2.2.2.2.2.2.1, r7.2.2.2.2.2.2.2.2.2.2.2.2.1, r7.2.2.2.2.2.2.2.2.2.2.2.2.2.1, r7.2.2.2.2.2.2.2.2.2.2.2.2.2.2.1, r7.2.2.2.2.2.2.2.2.2.2.2.2.2.2.2.1, r7.2.2.2.2.2.2.2.2.2.2.2.2.2.2.2.2)) H := hP
            have hD : va_D A (wMD E a0 (r7.1, (vp_updL r7.2.1 (((7 : Int32) + ((3 : Int32) * q1.1)) + (1 : Int32)).toNatClampNeg r6.1.toInt64), r7.2.2.1, r7.2.2.2.1, r7.2.2.2.2.1, r7.2.2.2.2.2.1, r7.2.2.2.2.2.2.1, r7.2.2.2.2.2.2.2.1, r7.2.2.2.2.2.2.2.2.1, r7.2.2.2.2.2.2.2.2.2.1, r7.2.2.2.2.2.2.2.2.2.2.1, r7.2.2.2.2.2.2.2.2.2.2.2.1, r7.2.2.2.2.2.2.2.2.2.2.2.2.1, r7.2.2.2.2.2.2.2.2.2.2.2.2.2.1, r7.2.2.2.2.2.2.2.2.2.2.2.2.2.2.1, r7.2.2.2.2.2.2.2.2.2.2.2.2.2.2.2.1, r7.2.2.2.2.2.2.2.2.2.2.2.2.2.2.2.2)) := hD
            refine lv_iinc (v := (q1.1 + 1)) (lv' := [(1, .int (q1.1 + 1)), (2, .int r6.1), (0, .ref (a0 0))]) hx hb dX11_readsServers_68 hl (k := 2) rfl rfl (by decide) rfl (fun ls hl => ?_)
            refine lv_goto (tgt := 2) hx hb dX11_readsServers_71 rfl ?_
            exact ih1 ((q1.1 + 1), (r7.1, (vp_updL r7.2.1 (((7 : Int32) + ((3 : Int32) * q1.1)) + (1 : Int32)).toNatClampNeg r6.1.toInt64), r7.2.2.1, r7.2.2.2.1, r7.2.2.2.2.1, r7.2.2.2.2.2.1, r7.2.2.2.2.2.2.1, r7.2.2.2.2.2.2.2.1, r7.2.2.2.2.2.2.2.2.1, r7.2.2.2.2.2.2.2.2.2.1, r7.2.2.2.2.2.2.2.2.2.2.1, r7.2.2.2.2.2.2.2.2.2.2.2.1, r7.2.2.2.2.2.2.2.2.2.2.2.2.1, r7.2.2.2.2.2.2.2.2.2.2.2.2.2.1, r7.2.2.2.2.2.2.2.2.2.2.2.2.2.2.1, r7.2.2.2.2.2.2.2.2.2.2.2.2.2.2.2.1, r7.2.2.2.2.2.2.2.2.2.2.2.2.2.2.2.2)) H locs hP hD hS ls (lv_sub hl [2, 0] rfl) hf
        have hf := e4
        refine lv_if_ne (tgt := 28) hx hb dX11_readsServers_20 rfl (fun c10 => ?_) (fun c10 => ?_)
        · have hf := it_f hf c10
          cases Option.some.inj hf
          exact J4 H locs hP hD hS
        · have hf := it_t hf c10
          refine lv_aload_n hx hb dX11_readsServers_23 rfl (lv_at hl 0 rfl) ?_
          refine lv_iconst (v := 3) hx hb dX11_readsServers_24 rfl ?_
          obtain ⟨r11, e11, hf⟩ := bd_some hf
          refine cq_v hP hD hS [0, 1, 2, 3, 4, 5, 6, 7] [] [0, 1, 2, 3, 4, 5, 6, 7] (va_free (wc := (wMD E a0 q1.2)) hD hS hA [0, 1, 2, 3, 4, 5, 6, 7] rfl) (va_runV (As := [.int (3 : Int32)]) (rest := []) ⟨hx, hb, hml, hown, hts⟩ (c_X11_bad l E H.size a0 q1.2 (3 : Int32) r11 e11) (cwV 1 hts gX11_readsServers_X11_bad rfl rfl rfl hdV_X11_bad ⟨Nat.le_of_ble_eq_true rfl, Nat.le_of_ble_eq_true rfl⟩) ⟨PW.blind, va_recv hC.1 hP (ci := 9) (q0 := 0) rfl rfl, PW.pre hC hS hP hD (va_free hD hS hA [0, 1, 2, 3, 4, 5, 6, 7] rfl)⟩ rfl rfl hl.1 rfl (lv_room (Nat.le_of_ble_eq_true rfl)) dX11_readsServers_25 ⟨Nat.le_of_ble_eq_true rfl, Nat.le_of_ble_eq_true rfl⟩) rfl rfl rfl rfl (wMD E a0 r11) rfl rfl (fun H locs hP hD hS => ?_)
          cases Option.some.inj hf
          exact J4 H locs hP hD hS
  exact L1 FU ((0 : Int32), v0) s.heap [] hP hD hS ls (lv_sub hl [1, 0] rfl) hf

/-! X11_readsFiles -/
abbrev rmX11_readsFiles : Room := { frames := 4, cells := 0, slots := 0, locals := 89 }
theorem hdS_X11_readsFiles : yX11_readsFiles.cls ≠ "java/lang/invoke/MethodHandle" ∧ yX11_readsFiles.cls ≠ "java/lang/invoke/VarHandle" ∧ (parseMethodDescriptor yX11_readsFiles.desc).map (fun d => d.parameters.length) = some 0 := by decide +kernel
theorem hdV_X11_readsFiles : yX11_readsFiles.cls = RX11 ∧ yX11_readsFiles.cls ≠ "java/lang/invoke/MethodHandle" ∧ yX11_readsFiles.cls ≠ "java/lang/invoke/VarHandle" ∧ (parseMethodDescriptor yX11_readsFiles.desc).map (fun d => d.parameters.length) = some 0 := ⟨rfl, hdS_X11_readsFiles⟩
set_option maxHeartbeats 4000000 in
set_option maxRecDepth 100000 in
theorem c_X11_readsFiles (l : Launch) (E : G0) (sz : Nat) (a0 : Nat → Nat) (v0 : MD) (x : Int32 × MD) (hf : f_X11_readsFiles v0 = some x) : Met l yX11_readsFiles wsX11_readsFiles rmX11_readsFiles (va_Pc [.ref (a0 0)] (PW E (wMD E a0 v0) sz)) (va_Qi (fun r q => r = x.1 ∧ q = x.2) (fun q t => va_P E.1 vwCl ((fun q : MD => wMD E a0 q) q) t.heap ∧ va_D (va_A (wMD E a0 v0) sz) ((fun q : MD => wMD E a0 q) q)) (va_A (wMD E a0 v0) sz)) 0 0 (va_A (wMD E a0 v0) sz) := by
  refine Met.ofW (cc := cX11_readsFiles) (maxL := 3) (ret := some .int) (by decide) rfl ?_
  intro p e s m args below meth c s₁ B hml hv
  obtain ⟨ha, hsz, hP, hD0, hC⟩ := hv
  have hx := B.exec
  have hb := B.bytes
  have hr := B.returns
  have hts := atoms_spec (ws := wsX11_readsFiles) B.pre
  have hown : s.vm.findClass RX11 = some m.cls := findClass_of_methodNamed B.named
  have hlocks := B.notSynchronized
  subst hsz
  have hD := hD0.self (sz := s.heap.size)
  generalize hAe : va_A (wMD E a0 v0) s.heap.size = A at hD hC ⊢
  have hA : ∀ q : Nat, s.heap.size ≤ q → A q := fun q h => by rw [← hAe]; exact Or.inr h
  have hS : va_S A s.heap s.heap [] := va_S.rf
  have w1 : (Cond.fieldLink RX11 217 "GreatChunksModel" "fault" "I").before args s = true := hts _ (List.mem_of_getElem? (i := 1) rfl)
  have w2 : ∀ w ∈ wsX110, w ∈ wsX11_readsFiles := in_pl 46 rfl
  have w3 : (Cond.fieldLink RX11 13 "GreatChunksModel" "tried" "[J").before args s = true := hts _ (List.mem_of_getElem? (i := 2) rfl)
  generalize hQe : MQ below (va_Qi (fun r q => r = x.1 ∧ q = x.2) (fun q t => va_P E.1 vwCl ((fun q : MD => wMD E a0 q) q) t.heap ∧ va_D A ((fun q : MD => wMD E a0 q) q)) A) args s 0 0 A = Q
  refine st_W ha (Nat.le_of_ble_eq_true rfl) (fun ls hl => ?_)
  have hl : lv_has ls 3 [(0, .ref (a0 0))] := hl
  unfold f_X11_readsFiles at hf
  refine lv_iconst (v := 0) hx hb dX11_readsFiles_0 rfl ?_
  refine lv_istore_n (lv' := [(1, .int (0 : Int32)), (0, .ref (a0 0))]) hx hb dX11_readsFiles_1 rfl hl (by decide) rfl (fun ls hl => ?_)
  obtain ⟨K1, hK1, hf⟩ := jn_some hf
  have J1 : ∀ (q1 : Int32 × MD) (H : Heap) (locs : List Loc) (hP : va_P E.1 vwCl (wMD E a0 q1.2) H) (hD : va_D A (wMD E a0 q1.2)) (hS : va_S A s.heap H locs) (ls : Array Slot) (hl : lv_has ls 3 [(1, .int q1.1)]) (hf : K1 q1 = some x), W p l e (headSpec wsX11_readsFiles rmX11_readsFiles).room s m args below meth c H locs 0 0 Q (F0 m 83 ls []) := by
    intro q1 H locs hP hD hS ls hl hf
    have hf := (hK1 q1).trans hf
    refine lv_iload_n hx hb dX11_readsFiles_83 rfl (lv_at hl 0 rfl) ?_
    cases Option.some.inj hf
    subst hQe
    exact ew_i (wf := (fun q : MD => wMD E a0 q)) hx hb hr hlocks hP hD hS dX11_readsFiles_84
  have L1 : ∀ (n : Nat) (q1 : Int32 × MD) (H : Heap) (locs : List Loc) (hP : va_P E.1 vwCl (wMD E a0 q1.2) H) (hD : va_D A (wMD E a0 q1.2)) (hS : va_S A s.heap H locs) (ls : Array Slot) (hl : lv_has ls 3 [(0, .ref (a0 0)), (1, .int q1.1)]) (hf : lpF (bX11_readsFiles_1 K1) n q1 = some x), W p l e (headSpec wsX11_readsFiles rmX11_readsFiles).room s m args below meth c H locs 0 0 Q (F0 m 2 ls []) := by
    intro n
    induction n with
    | zero => intro q1 H locs hP hD hS ls hl hf; exact (lpF_zero hf).elim
    | succ n ih1 =>
      intro q1 H locs hP hD hS ls hl hf
      have hf := lpF_succ hf
      unfold bX11_readsFiles_1 at hf
      refine lv_aload_n hx hb dX11_readsFiles_2 rfl (lv_at hl 0 rfl) ?_
      refine lv_bipush (v := 102) hx hb dX11_readsFiles_3 rfl ?_
      refine cr_i (va_runV (As := [.int (102 : Int32)]) (rest := []) ⟨hx, hb, hml, hown, hts⟩ (c_X11_isLetter l E a0 q1.2 (102 : Int32) _ rfl) (cwV 1 hts gX11_readsFiles_X11_isLetter rfl rfl rfl hdV_X11_isLetter ⟨Nat.le_of_ble_eq_true rfl, Nat.le_of_ble_eq_true rfl⟩) ⟨PR.blind, va_recv hC.1 hP (ci := 9) (q0 := 0) rfl rfl, PR.pre hC hS hP⟩ rfl rfl hl.1 rfl (lv_room (Nat.le_of_ble_eq_true rfl)) dX11_readsFiles_5 ⟨Nat.le_of_ble_eq_true rfl, Nat.le_of_ble_eq_true rfl⟩) ?_
      refine lv_if_eq (tgt := 83) hx hb dX11_readsFiles_8 rfl (fun c2 => ?_) (fun c2 => ?_)
      · have hf := it_t hf c2
        exact J1 (q1.1, q1.2) H locs hP hD hS ls (lv_sub hl [1] rfl) hf
      · have hf := it_f hf c2
        refine lv_iload_n hx hb dX11_readsFiles_11 rfl (lv_at hl 1 rfl) ?_
        refine lv_bipush (v := 6) hx hb dX11_readsFiles_12 rfl ?_
        obtain ⟨q3, e3, hf⟩ := bd_some hf
        have J3 : ∀ (H : Heap) (locs : List Loc) (hP : va_P E.1 vwCl (wMD E a0 q3) H) (hD : va_D A (wMD E a0 q3)) (hS : va_S A s.heap H locs), W p l e (headSpec wsX11_readsFiles rmX11_readsFiles).room s m args below meth c H locs 0 0 Q (F0 m 22 ls []) := by
          intro H locs hP hD hS
          refine lv_aload_n hx hb dX11_readsFiles_22 rfl (lv_at hl 0 rfl) ?_
          obtain ⟨r4, e4, hf⟩ := bd_some hf
          refine cq_v hP hD hS [0, 1, 2, 3, 4, 5, 6, 7] [] [0, 1, 2, 3, 4, 5, 6, 7] (va_free (wc := (wMD E a0 q3)) hD hS hA [0, 1, 2, 3, 4, 5, 6, 7] rfl) (va_runV (As := []) (rest := []) ⟨hx, hb, hml, hown, hts⟩ (c_X11_goesOn l E H.size a0 q3 r4 e4) (cwV 0 hts gX11_readsFiles_X11_goesOn rfl rfl rfl hdV_X11_goesOn ⟨Nat.le_of_ble_eq_true rfl, Nat.le_of_ble_eq_true rfl⟩) ⟨PW.blind, va_recv hC.1 hP (ci := 9) (q0 := 0) rfl rfl, PW.pre hC hS hP hD (va_free hD hS hA [0, 1, 2, 3, 4, 5, 6, 7] rfl)⟩ rfl rfl hl.1 rfl (lv_room (Nat.le_of_ble_eq_true rfl)) dX11_readsFiles_23 ⟨Nat.le_of_ble_eq_true rfl, Nat.le_of_ble_eq_true rfl⟩) rfl rfl rfl rfl (wMD E a0 r4) rfl rfl (fun H locs hP hD hS => ?_)
          refine lv_aload_n hx hb dX11_readsFiles_26 rfl (lv_at hl 0 rfl) ?_
          refine lv_iconst (v := 1) hx hb dX11_readsFiles_27 rfl ?_
          refine lv_iconst (v := 5) hx hb dX11_readsFiles_28 rfl ?_
          obtain ⟨r5, e5, hf⟩ := bd_some hf
          refine cq_i hP hD hS [0, 1, 2, 3, 4, 5, 6, 7] [] [0, 1, 2, 3, 4, 5, 6, 7] (va_free (wc := (wMD E a0 r4)) hD hS hA [0, 1, 2, 3, 4, 5, 6, 7] rfl) (va_runV (As := [.int (1 : Int32), .int (5 : Int32)]) (rest := []) ⟨hx, hb, hml, hown, hts⟩ (c_X11_number l E H.size a0 r4 (1 : Int32) (5 : Int32) r5 e5) (cwV 2 hts gX11_readsFiles_X11_number rfl rfl rfl hdV_X11_number ⟨Nat.le_of_ble_eq_true rfl, Nat.le_of_ble_eq_true rfl⟩) ⟨PW.blind, va_recv hC.1 hP (ci := 9) (q0 := 0) rfl rfl, PW.pre hC hS hP hD (va_free hD hS hA [0, 1, 2, 3, 4, 5, 6, 7] rfl)⟩ rfl rfl hl.1 rfl (lv_room (Nat.le_of_ble_eq_true rfl)) dX11_readsFiles_29 ⟨Nat.le_of_ble_eq_true rfl, Nat.le_of_ble_eq_true rfl⟩) rfl rfl rfl rfl (wMD E a0 r5.2) rfl rfl (fun H locs hP hD hS => ?_)
          refine lv_istore_n (lv' := [(2, .int r5.1), (0, .ref (a0 0)), (1, .int q1.1)]) hx hb dX11_readsFiles_32 rfl hl (by decide) rfl (fun ls hl => ?_)
          refine lv_aload_n hx hb dX11_readsFiles_33 rfl (lv_at hl 1 rfl) ?_
          refine lv_bipush (v := 59) hx hb dX11_readsFiles_34 rfl ?_
          obtain ⟨r6, e6, hf⟩ := bd_some hf
          refine cq_v hP hD hS [0, 1, 2, 3, 4, 5, 6, 7] [] [0, 1, 2, 3, 4, 5, 6, 7] (va_free (wc := (wMD E a0 r5.2)) hD hS hA [0, 1, 2, 3, 4, 5, 6, 7] rfl) (va_runV (As := [.int (59 : Int32)]) (rest := []) ⟨hx, hb, hml, hown, hts⟩ (c_X11_sign l E H.size a0 r5.2 (59 : Int32) r6 e6) (cwV 1 hts gX11_readsFiles_X11_sign rfl rfl rfl hdV_X11_sign ⟨Nat.le_of_ble_eq_true rfl, Nat.le_of_ble_eq_true rfl⟩) ⟨PW.blind, va_recv hC.1 hP (ci := 9) (q0 := 0) rfl rfl, PW.pre hC hS hP hD (va_free hD hS hA [0, 1, 2, 3, 4, 5, 6, 7] rfl)⟩ rfl rfl hl.1 rfl (lv_room (Nat.le_of_ble_eq_true rfl)) dX11_readsFiles_36 ⟨Nat.le_of_ble_eq_true rfl, Nat.le_of_ble_eq_true rfl⟩) rfl rfl rfl rfl (wMD E a0 r6) rfl rfl (fun H locs hP hD hS => ?_)
          refine lv_aload_n hx hb dX11_readsFiles_39 rfl (lv_at hl 1 rfl) ?_
          refine va_get (D := E.1) (ci := 9) (v := .int r6.2.2.2.2.2.2.2.2.2.2.2.2.1) (C := RX11) (T := TX11) (N := 17) hx hb hts w2 hown hC.1 hP 0 rfl rfl 12 (by decide) w1 (fun _ h9 => h9) rfl dX11_readsFiles_40 ?_
          refine lv_if_ne (tgt := 80) hx hb dX11_readsFiles_43 rfl (fun c7 => ?_) (fun c7 => ?_)
          · have hf := it_f hf c7
            refine lv_goto (tgt := 2) hx hb dX11_readsFiles_80 rfl ?_
            exact ih1 (q1.1, r6) H locs hP hD hS ls (lv_sub hl [1, 2] rfl) hf
          · have hf := it_t hf c7
            refine lv_aload_n hx hb dX11_readsFiles_46 rfl (lv_at hl 1 rfl) ?_
            refine va_get (D := E.1) (ci := 9) (v := .ref (a0 2)) (C := RX11) (T := TX11) (N := 17) hx hb hts w2 hown hC.1 hP 0 rfl rfl 1 (by decide) w3 (fun _ h9 => h9) rfl dX11_readsFiles_47 ?_
            refine lv_bipush (v := 22) hx hb dX11_readsFiles_50 rfl ?_
            refine lv_bipush (v := 8) hx hb dX11_readsFiles_52 rfl ?_
            refine lv_iload_n hx hb dX11_readsFiles_54 rfl (lv_at hl 2 rfl) ?_
            refine lv_imul hx hb dX11_readsFiles_55 ?_
            refine lv_iadd hx hb dX11_readsFiles_56 ?_
            refine lv_iconst (v := 0) hx hb dX11_readsFiles_57 rfl ?_
            refine lv_iadd hx hb dX11_readsFiles_58 ?_
            refine lv_lconst (v := 1) hx hb dX11_readsFiles_59 rfl ?_
            obtain ⟨h8, hf⟩ := gdI_some hf
            refine va_last hx hb hC.1 hP hD hS 2 1 rfl rfl h8 dX11_readsFiles_60 (fun H locs hP hD hS => ?_)
            have hP : va_P E.1 vwCl (wMD E a0 (r6.1, (vp_updL r6.2.1 (((22 : Int32) + ((8 : Int32) * q1.1)) + (0 : Int32)).toNatClampNeg (1 : Int64)), r6.2.2.1, r6.2.2.2.1, r6.2.2.2.2.1, r6.2.2.2.2.2.1, r6.2.2.2.2.2.2.1, r6.2.2.2.2.2.2.2.1, r6.2.2.2.2.2.2.2.2.1, r6.2.2.2.2.2.2.2.2.2.1, r6.2.2.2.2.2.2.2.2.2.2.1, r6.2.2.2.2.2.2.2.2.2.2.2.1, r6.2.2.2.2.2.2.2.2.2.2.2.2.1, r6.2.2.2.2.2.2.2.2.2.2.2.2.2.1, r6.2.2.2.2.2.2.2.2.2.2.2.2.2.2.1, r6.2.2.2.2.2.2.2.2.2.2.2.2.2.2.2.1, r6.2.2.2.2.2.2.2.2.2.2.2.2.2.2.2.2)) H := hP
            have hD : va_D A (wMD E a0 (r6.1, (vp_updL r6.2.1 (((22 : Int32) + ((8 : Int32) * q1.1)) + (0 : Int32)).toNatClampNeg (1 : Int64)), r6.2.2.1, r6.2.2.2.1, r6.2.2.2.2.1, r6.2.2.2.2.2.1, r6.2.2.2.2.2.2.1, r6.2.2.2.2.2.2.2.1, r6.2.2.2.2.2.2.2.2.1, r6.2.2.2.2.2.2.2.2.2.1, r6.2.2.2.2.2.2.2.2.2.2.1, r6.2.2.2.2.2.2.2.2.2.2.2.1, r6.2.2.2.2.2.2.2.2.2.2.2.2.1, r6.2.2.2.2.2.2.2.2.2.2.2.2.2.1, r6.2.2.2.2.2.2.2.2.2.2.2.2.2.2.1, r6.2.2.2.2.2.2.2.2.2.2.2.2.2.2.2.1, r6.2.2.2.2.2.2.2.2.2.2.2.2.2.2.2.2)) := hD
            refine lv_aload_n hx hb dX11_readsFiles_61 rfl (lv_at hl 1 rfl) ?_
            refine va_get (D := E.1) (ci := 9) (v := .ref (a0 2)) (C := RX11) (T := TX11) (N := 17) hx hb hts w2 hown hC.1 hP 0 rfl rfl 1 (by decide) w3 (fun _ h9 => h9) rfl dX11_readsFiles_62 ?_
            refine lv_bipush (v := 22) hx hb dX11_readsFiles_65 rfl ?_
            refine lv_bipush (v := 8) hx hb dX11_readsFiles_67 rfl ?_
            refine lv_iload_n hx hb dX11_readsFiles_69 rfl (lv_at hl 2 rfl) ?_
            refine lv_imul hx hb dX11_readsFiles_70 ?_
            refine lv_iadd hx hb dX11_readsFiles_71 ?_
            refine lv_iconst (v := 1) hx hb dX11_readsFiles_72 rfl ?_
            refine lv_iadd hx hb dX11_readsFiles_73 ?_
            refine lv_iload_n hx hb dX11_readsFiles_74 rfl (lv_at hl 0 rfl) ?_
            refine lv_i2l hx hb dX11_readsFiles_75 rfl ?_
            obtain ⟨h9, hf⟩ := gdI_some hf
            refine va_last hx hb hC.1 hP hD hS 2 1 rfl rfl h9 dX11_readsFiles_76 (fun H locs hP hD hS => ?_)
            have hP : va_P E.1 vwCl (wMD E a0 (r6.1, (vp_updL (vp_updL r6.2.1 (((22 : Int32) + ((8 : Int32) * q1.1)) + (0 : Int32)).toNatClampNeg (1 : Int64)) (((22 : Int32) + ((8 : Int32) * q1.1)) + (1 : Int32)).toNatClampNeg r5.1.toInt64), r6.2.2.1, r6.2.2.2.1, r6.2.2.2.2.1, r6.2.2.2.2.2.1, r6.2.2.2.2.2.2.1, r6.2.2.2.2.2.2.2.1, r6.2.2.2.2.2.2.2.2.1, r6.2.2.2.2.2.2.2.2.2.1, r6.2.2.2.2.2.2.2.2.2.2.1, r6.2.2.2.2.2.2.2.2.2.2.2.1, r6.2.2.2.2.2.2.2.2.2.2.2.2.1, r6.2.2.2.2.2.2.2.2.2.2.2.2.2.1, r6.2.2.2.2.2.2.2.2.2.2.2.2.2.2.1, r6.2.2.2.2.2.2.2.2.2.2.2.2.2.2.2.1, r6.2.2.2.2.2.2.2.2.2.2.2.2.2.2.2.2)) H := hP
            have hD : va_D A (wMD E a0 (r6.1, (vp_updL (vp_updL r6.2.1 (((22 : Int32) + ((8 : Int32) * q1.1)) + (0 : Int32)).toNatClampNeg (1 : Int64)) (((22 : Int32) + ((8 : Int32) * q1.1)) + (1 : Int32)).toNatClampNeg r5.1.toInt64), r6.2.2.1, r6.2.2.2.1, r6.2.2.2.2.1, r6.2.2.2.2.2.1, r6.2.2.2.2.2.2.1, r6.2.2.2.2.2.2.2.1, r6.2.2.2.2.2.2.2.2.1, r6.2.2.2.2.2.2.2.2.2.1, r6.2.2.2.2.2.2.2.2.2.2.1, r6.2.2.2.2.2.2.2.2.2.2.2.1, r6.2.2.2.2.2.2.2.2.2.2.2.2.1, r6.2.2.2.2.2.2.2.2.2.2.2.2.2.1, r6.2.2.2.2.2.2.2.2.2.2.2.2.2.2.1, r6.2.2.2.2.2.2.2.2.2.2.2.2.2.2.2.1, r6.2.2.2.2.2.2.2.2.2.2.2.2.2.2.2.2)) := hD
            refine lv_iinc (v := (q1.1 + 1)) (lv' := [(1, .int (q1.1 + 1)), (2, .int r5.1), (0, .ref (a0 0))]) hx hb dX11_readsFiles_77 hl (k := 2) rfl rfl (by decide) rfl (fun ls hl => ?_)
            refine lv_goto (tgt := 2) hx hb dX11_readsFiles_80 rfl ?_
            exact ih1 ((q1.1 + 1), (r6.1, (vp_updL (vp_updL r6.2.1 (((22 : Int32) + ((8 : Int32) * q1.1)) + (0 : Int32)).toNatClampNeg (1 : Int64)) (((22 : Int32) + ((8 : Int32) * q1.1)) + (1 : Int32)).toNatClampNeg r5.1.toInt64), r6.2.2.1, r6.2.2.2.1, r6.2.2.2.2.1, r6.2.2.2.2.2.1, r6.2.2.2.2.2.2.1, r6.2.2.2.2.2.2.2.1, r6.2.2.2.2.2.2.2.2.1, r6.2.2.2.2.2.2.2.2.2.1, r6.2.2.2.2.2.2.2.2.2.2.1, r6.2.2.2.2.2.2.2.2.2.2.2.1, r6.2.2.2.2.2.2.2.2.2.2.2.2.1, r6.2.2.2.2.2.2.2.2.2.2.2.2.2.1, r6.2.2.2.2.2.2.2.2.2.2.2.2.2.2.1, r6.2.2.2.2.2.2.2.2.2.2.2.2.2.2.2.1, r6.2.2.2.2.2.2.2.2.2.2.2.2.2.2.2.2)) H locs hP hD hS ls (lv_sub hl [2, 0] rfl) hf
        have hf := e3
        refine lv_icmp_ne (tgt := 22) hx hb dX11_readsFiles_14 rfl (fun c10 => ?_) (fun c10 => ?_)
        · have hf := it_f hf c10
          cases Option.some.inj hf
          exact J3 H locs hP hD hS
        · have hf := it_t hf c10
          refine lv_aload_n hx hb dX11_readsFiles_17 rfl (lv_at hl 0 rfl) ?_
          refine lv_iconst (v := 3) hx hb dX11_readsFiles_18 rfl ?_
          obtain ⟨r11, e11, hf⟩ := bd_some hf
          refine cq_v hP hD hS [0, 1, 2, 3, 4, 5, 6, 7] [] [0, 1, 2, 3, 4, 5, 6, 7] (va_free (wc := (wMD E a0 q1.2)) hD hS hA [0, 1, 2, 3, 4, 5, 6, 7] rfl) (va_runV (As := [.int (3 : Int32)]) (rest := []) ⟨hx, hb, hml, hown, hts⟩ (c_X11_bad l E H.size a0 q1.2 (3 : Int32) r11 e11) (cwV 1 hts gX11_readsFiles_X11_bad rfl rfl rfl hdV_X11_bad ⟨Nat.le_of_ble_eq_true rfl, Nat.le_of_ble_eq_true rfl⟩) ⟨PW.blind, va_recv hC.1 hP (ci := 9) (q0 := 0) rfl rfl, PW.pre hC hS hP hD (va_free hD hS hA [0, 1, 2, 3, 4, 5, 6, 7] rfl)⟩ rfl rfl hl.1 rfl (lv_room (Nat.le_of_ble_eq_true rfl)) dX11_readsFiles_19 ⟨Nat.le_of_ble_eq_true rfl, Nat.le_of_ble_eq_true rfl⟩) rfl rfl rfl rfl (wMD E a0 r11) rfl rfl (fun H locs hP hD hS => ?_)
          cases Option.some.inj hf
          exact J3 H locs hP hD hS
  exact L1 FU ((0 : Int32), v0) s.heap [] hP hD hS ls (lv_sub hl [1, 0] rfl) hf

/-! X11_house -/
abbrev rmX11_house : Room := { frames := 5, cells := 0, slots := 0, locals := 111 }
theorem hdS_X11_house : yX11_house.cls ≠ "java/lang/invoke/MethodHandle" ∧ yX11_house.cls ≠ "java/lang/invoke/VarHandle" ∧ (parseMethodDescriptor yX11_house.desc).map (fun d => d.parameters.length) = some 0 := by decide +kernel
theorem hdV_X11_house : yX11_house.cls = RX11 ∧ yX11_house.cls ≠ "java/lang/invoke/MethodHandle" ∧ yX11_house.cls ≠ "java/lang/invoke/VarHandle" ∧ (parseMethodDescriptor yX11_house.desc).map (fun d => d.parameters.length) = some 0 := ⟨rfl, hdS_X11_house⟩
set_option maxHeartbeats 4000000 in
set_option maxRecDepth 100000 in
theorem c_X11_house (l : Launch) (E : G0) (sz : Nat) (a0 : Nat → Nat) (v0 : MD) (x : Int32 × MD) (hf : f_X11_house v0 = some x) : Met l yX11_house wsX11_house rmX11_house (va_Pc [.ref (a0 0)] (PW E (wMD E a0 v0) sz)) (va_Qi (fun r q => r = x.1 ∧ q = x.2) (fun q t => va_P E.1 vwCl ((fun q : MD => wMD E a0 q) q) t.heap ∧ va_D (va_A (wMD E a0 v0) sz) ((fun q : MD => wMD E a0 q) q)) (va_A (wMD E a0 v0) sz)) 0 0 (va_A (wMD E a0 v0) sz) := by
  refine Met.ofW (cc := cX11_house) (maxL := 2) (ret := some .int) (by decide) rfl ?_
  intro p e s m args below meth c s₁ B hml hv
  obtain ⟨ha, hsz, hP, hD0, hC⟩ := hv
  have hx := B.exec
  have hb := B.bytes
  have hr := B.returns
  have hts := atoms_spec (ws := wsX11_house) B.pre
  have hown : s.vm.findClass RX11 = some m.cls := findClass_of_methodNamed B.named
  have hlocks := B.notSynchronized
  subst hsz
  have hD := hD0.self (sz := s.heap.size)
  generalize hAe : va_A (wMD E a0 v0) s.heap.size = A at hD hC ⊢
  have hA : ∀ q : Nat, s.heap.size ≤ q → A q := fun q h => by rw [← hAe]; exact Or.inr h
  have hS : va_S A s.heap s.heap [] := va_S.rf
  have w1 : (Cond.fieldLink RX11 13 "GreatChunksModel" "tried" "[J").before args s = true := hts _ (List.mem_of_getElem? (i := 1) rfl)
  have w2 : ∀ w ∈ wsX110, w ∈ wsX11_house := in_pl 61 rfl
  have w3 : (Cond.fieldLink RX11 190 "GreatChunksModel" "at" "I").before args s = true := hts _ (List.mem_of_getElem? (i := 2) rfl)
  have w4 : (Cond.fieldLink RX11 217 "GreatChunksModel" "fault" "I").before args s = true := hts _ (List.mem_of_getElem? (i := 3) rfl)
  have w5 : (Cond.fieldLink RX11 214 "GreatChunksModel" "token" "I").before args s = true := hts _ (List.mem_of_getElem? (i := 4) rfl)
  have w6 : (Cond.fieldLink RX11 187 "GreatChunksModel" "taped" "I").before args s = true := hts _ (List.mem_of_getElem? (i := 5) rfl)
  have w7 : (Cond.fieldLink RX11 7 "GreatChunksModel" "now" "[J").before args s = true := hts _ (List.mem_of_getElem? (i := 9) rfl)
  have w8 : (Cond.fieldLink RX11 258 "GreatChunksModel" "acts" "I").before args s = true := hts _ (List.mem_of_getElem? (i := 10) rfl)
  have w9 : (Cond.fieldLink RX11 254 "GreatChunksModel" "latest" "I").before args s = true := hts _ (List.mem_of_getElem? (i := 6) rfl)
  have w10 : (Cond.constant RX11 257 (-1000100)).before args s = true := hts _ (List.mem_of_getElem? (i := 7) rfl)
  have w11 : (Cond.fieldLink RX11 220 "GreatChunksModel" "place" "I").before args s = true := hts _ (List.mem_of_getElem? (i := 8) rfl)
  generalize hQe : MQ below (va_Qi (fun r q => r = x.1 ∧ q = x.2) (fun q t => va_P E.1 vwCl ((fun q : MD => wMD E a0 q) q) t.heap ∧ va_D A ((fun q : MD => wMD E a0 q) q)) A) args s 0 0 A = Q
  refine st_W ha (Nat.le_of_ble_eq_true rfl) (fun ls hl => ?_)
  have hl : lv_has ls 2 [(0, .ref (a0 0))] := hl
  unfold f_X11_house at hf
  refine lv_iconst (v := 0) hx hb dX11_house_0 rfl ?_
  refine lv_istore_n (lv' := [(1, .int (0 : Int32)), (0, .ref (a0 0))]) hx hb dX11_house_1 rfl hl (by decide) rfl (fun ls hl => ?_)
  obtain ⟨K1, hK1, hf⟩ := jn_some hf
  have J1 : ∀ (q1 : Int32 × MD) (H : Heap) (locs : List Loc) (hP : va_P E.1 vwCl (wMD E a0 q1.2) H) (hD : va_D A (wMD E a0 q1.2)) (hS : va_S A s.heap H locs) (ls : Array Slot) (hl : lv_has ls 2 [(0, .ref (a0 0))]) (hf : K1 q1 = some x), W p l e (headSpec wsX11_house rmX11_house).room s m args below meth c H locs 0 0 Q (F0 m 22 ls []) := by
    intro q1 H locs hP hD hS ls hl hf
    have hf := (hK1 q1).trans hf
    refine lv_aload_n hx hb dX11_house_22 rfl (lv_at hl 0 rfl) ?_
    refine lv_iconst (v := 0) hx hb dX11_house_23 rfl ?_
    refine va_put (D := E.1) (ci := 9) (v := .int (0 : Int32)) (ty := .int) (C := RX11) (T := TX11) (N := 17) hx hb hts w2 tyX11 tyX11_ok nmX11 hown hC.1 hP hD hS 0 rfl rfl 8 (by decide) w3 (fun _ h9 => h9) rfl (by decide +kernel) rfl rfl (Nat.le_of_ble_eq_true rfl) dX11_house_24 (fun H locs hP hD hS => ?_)
    have hP : va_P E.1 vwCl (wMD E a0 (q1.2.1, q1.2.2.1, q1.2.2.2.1, q1.2.2.2.2.1, q1.2.2.2.2.2.1, q1.2.2.2.2.2.2.1, q1.2.2.2.2.2.2.2.1, q1.2.2.2.2.2.2.2.2.1, (0 : Int32), q1.2.2.2.2.2.2.2.2.2.2.1, q1.2.2.2.2.2.2.2.2.2.2.2.1, q1.2.2.2.2.2.2.2.2.2.2.2.2.1, q1.2.2.2.2.2.2.2.2.2.2.2.2.2.1, q1.2.2.2.2.2.2.2.2.2.2.2.2.2.2.1, q1.2.2.2.2.2.2.2.2.2.2.2.2.2.2.2.1, q1.2.2.2.2.2.2.2.2.2.2.2.2.2.2.2.2.1, q1.2.2.2.2.2.2.2.2.2.2.2.2.2.2.2.2.2)) H := hP
    have hD : va_D A (wMD E a0 (q1.2.1, q1.2.2.1, q1.2.2.2.1, q1.2.2.2.2.1, q1.2.2.2.2.2.1, q1.2.2.2.2.2.2.1, q1.2.2.2.2.2.2.2.1, q1.2.2.2.2.2.2.2.2.1, (0 : Int32), q1.2.2.2.2.2.2.2.2.2.2.1, q1.2.2.2.2.2.2.2.2.2.2.2.1, q1.2.2.2.2.2.2.2.2.2.2.2.2.1, q1.2.2.2.2.2.2.2.2.2.2.2.2.2.1, q1.2.2.2.2.2.2.2.2.2.2.2.2.2.2.1, q1.2.2.2.2.2.2.2.2.2.2.2.2.2.2.2.1, q1.2.2.2.2.2.2.2.2.2.2.2.2.2.2.2.2.1, q1.2.2.2.2.2.2.2.2.2.2.2.2.2.2.2.2.2)) := hD
    refine lv_aload_n hx hb dX11_house_27 rfl (lv_at hl 0 rfl) ?_
    refine lv_iconst (v := 0) hx hb dX11_house_28 rfl ?_
    refine va_put (D := E.1) (ci := 9) (v := .int (0 : Int32)) (ty := .int) (C := RX11) (T := TX11) (N := 17) hx hb hts w2 tyX11 tyX11_ok nmX11 hown hC.1 hP hD hS 0 rfl rfl 12 (by decide) w4 (fun _ h9 => h9) rfl (by decide +kernel) rfl rfl (Nat.le_of_ble_eq_true rfl) dX11_house_29 (fun H locs hP hD hS => ?_)
    have hP : va_P E.1 vwCl (wMD E a0 (q1.2.1, q1.2.2.1, q1.2.2.2.1, q1.2.2.2.2.1, q1.2.2.2.2.2.1, q1.2.2.2.2.2.2.1, q1.2.2.2.2.2.2.2.1, q1.2.2.2.2.2.2.2.2.1, (0 : Int32), q1.2.2.2.2.2.2.2.2.2.2.1, q1.2.2.2.2.2.2.2.2.2.2.2.1, q1.2.2.2.2.2.2.2.2.2.2.2.2.1, (0 : Int32), q1.2.2.2.2.2.2.2.2.2.2.2.2.2.2.1, q1.2.2.2.2.2.2.2.2.2.2.2.2.2.2.2.1, q1.2.2.2.2.2.2.2.2.2.2.2.2.2.2.2.2.1, q1.2.2.2.2.2.2.2.2.2.2.2.2.2.2.2.2.2)) H := hP
    have hD : va_D A (wMD E a0 (q1.2.1, q1.2.2.1, q1.2.2.2.1, q1.2.2.2.2.1, q1.2.2.2.2.2.1, q1.2.2.2.2.2.2.1, q1.2.2.2.2.2.2.2.1, q1.2.2.2.2.2.2.2.2.1, (0 : Int32), q1.2.2.2.2.2.2.2.2.2.2.1, q1.2.2.2.2.2.2.2.2.2.2.2.1, q1.2.2.2.2.2.2.2.2.2.2.2.2.1, (0 : Int32), q1.2.2.2.2.2.2.2.2.2.2.2.2.2.2.1, q1.2.2.2.2.2.2.2.2.2.2.2.2.2.2.2.1, q1.2.2.2.2.2.2.2.2.2.2.2.2.2.2.2.2.1, q1.2.2.2.2.2.2.2.2.2.2.2.2.2.2.2.2.2)) := hD
    refine lv_aload_n hx hb dX11_house_32 rfl (lv_at hl 0 rfl) ?_
    obtain ⟨r2, e2, hf⟩ := bd_some hf
    refine cq_v hP hD hS [0, 1, 2, 3, 4, 5, 6, 7] [] [0, 1, 2, 3, 4, 5, 6, 7] (va_free (wc := (wMD E a0 (q1.2.1, q1.2.2.1, q1.2.2.2.1, q1.2.2.2.2.1, q1.2.2.2.2.2.1, q1.2.2.2.2.2.2.1, q1.2.2.2.2.2.2.2.1, q1.2.2.2.2.2.2.2.2.1, (0 : Int32), q1.2.2.2.2.2.2.2.2.2.2.1, q1.2.2.2.2.2.2.2.2.2.2.2.1, q1.2.2.2.2.2.2.2.2.2.2.2.2.1, (0 : Int32), q1.2.2.2.2.2.2.2.2.2.2.2.2.2.2.1, q1.2.2.2.2.2.2.2.2.2.2.2.2.2.2.2.1, q1.2.2.2.2.2.2.2.2.2.2.2.2.2.2.2.2.1, q1.2.2.2.2.2.2.2.2.2.2.2.2.2.2.2.2.2))) hD hS hA [0, 1, 2, 3, 4, 5, 6, 7] rfl) (va_runV (As := []) (rest := []) ⟨hx, hb, hml, hown, hts⟩ (c_X11_reads l E H.size a0 (q1.2.1, q1.2.2.1, q1.2.2.2.1, q1.2.2.2.2.1, q1.2.2.2.2.2.1, q1.2.2.2.2.2.2.1, q1.2.2.2.2.2.2.2.1, q1.2.2.2.2.2.2.2.2.1, (0 : Int32), q1.2.2.2.2.2.2.2.2.2.2.1, q1.2.2.2.2.2.2.2.2.2.2.2.1, q1.2.2.2.2.2.2.2.2.2.2.2.2.1, (0 : Int32), q1.2.2.2.2.2.2.2.2.2.2.2.2.2.2.1, q1.2.2.2.2.2.2.2.2.2.2.2.2.2.2.2.1, q1.2.2.2.2.2.2.2.2.2.2.2.2.2.2.2.2.1, q1.2.2.2.2.2.2.2.2.2.2.2.2.2.2.2.2.2) r2 e2) (cwV 0 hts gX11_house_X11_reads rfl rfl rfl hdV_X11_reads ⟨Nat.le_of_ble_eq_true rfl, Nat.le_of_ble_eq_true rfl⟩) ⟨PW.blind, va_recv hC.1 hP (ci := 9) (q0 := 0) rfl rfl, PW.pre hC hS hP hD (va_free hD hS hA [0, 1, 2, 3, 4, 5, 6, 7] rfl)⟩ rfl rfl hl.1 rfl (lv_room (Nat.le_of_ble_eq_true rfl)) dX11_house_33 ⟨Nat.le_of_ble_eq_true rfl, Nat.le_of_ble_eq_true rfl⟩) rfl rfl rfl rfl (wMD E a0 r2) rfl rfl (fun H locs hP hD hS => ?_)
    refine lv_aload_n hx hb dX11_house_36 rfl (lv_at hl 0 rfl) ?_
    refine lv_bipush (v := 104) hx hb dX11_house_37 rfl ?_
    refine cr_i (va_runV (As := [.int (104 : Int32)]) (rest := []) ⟨hx, hb, hml, hown, hts⟩ (c_X11_isLetter l E a0 r2 (104 : Int32) _ rfl) (cwV 1 hts gX11_house_X11_isLetter rfl rfl rfl hdV_X11_isLetter ⟨Nat.le_of_ble_eq_true rfl, Nat.le_of_ble_eq_true rfl⟩) ⟨PR.blind, va_recv hC.1 hP (ci := 9) (q0 := 0) rfl rfl, PR.pre hC hS hP⟩ rfl rfl hl.1 rfl (lv_room (Nat.le_of_ble_eq_true rfl)) dX11_house_39 ⟨Nat.le_of_ble_eq_true rfl, Nat.le_of_ble_eq_true rfl⟩) ?_
    obtain ⟨q3, e3, hf⟩ := bd_some hf
    have J3 : ∀ (H : Heap) (locs : List Loc) (hP : va_P E.1 vwCl (wMD E a0 q3) H) (hD : va_D A (wMD E a0 q3)) (hS : va_S A s.heap H locs), W p l e (headSpec wsX11_house rmX11_house).room s m args below meth c H locs 0 0 Q (F0 m 50 ls []) := by
      intro H locs hP hD hS
      refine lv_aload_n hx hb dX11_house_50 rfl (lv_at hl 0 rfl) ?_
      obtain ⟨r4, e4, hf⟩ := bd_some hf
      refine cq_v hP hD hS [0, 1, 2, 3, 4, 5, 6, 7] [] [0, 1, 2, 3, 4, 5, 6, 7] (va_free (wc := (wMD E a0 q3)) hD hS hA [0, 1, 2, 3, 4, 5, 6, 7] rfl) (va_runV (As := []) (rest := []) ⟨hx, hb, hml, hown, hts⟩ (c_X11_goesOn l E H.size a0 q3 r4 e4) (cwV 0 hts gX11_house_X11_goesOn rfl rfl rfl hdV_X11_goesOn ⟨Nat.le_of_ble_eq_true rfl, Nat.le_of_ble_eq_true rfl⟩) ⟨PW.blind, va_recv hC.1 hP (ci := 9) (q0 := 0) rfl rfl, PW.pre hC hS hP hD (va_free hD hS hA [0, 1, 2, 3, 4, 5, 6, 7] rfl)⟩ rfl rfl hl.1 rfl (lv_room (Nat.le_of_ble_eq_true rfl)) dX11_house_51 ⟨Nat.le_of_ble_eq_true rfl, Nat.le_of_ble_eq_true rfl⟩) rfl rfl rfl rfl (wMD E a0 r4) rfl rfl (fun H locs hP hD hS => ?_)
      refine lv_aload_n hx hb dX11_house_54 rfl (lv_at hl 0 rfl) ?_
      refine va_get (D := E.1) (ci := 9) (v := .ref (a0 2)) (C := RX11) (T := TX11) (N := 17) hx hb hts w2 hown hC.1 hP 0 rfl rfl 1 (by decide) w1 (fun _ h9 => h9) rfl dX11_house_55 ?_
      refine lv_iconst (v := 0) hx hb dX11_house_58 rfl ?_
      refine lv_aload_n hx hb dX11_house_59 rfl (lv_at hl 0 rfl) ?_
      refine lv_iconst (v := 2) hx hb dX11_house_60 rfl ?_
      refine lv_iconst (v := 5) hx hb dX11_house_61 rfl ?_
      obtain ⟨r5, e5, hf⟩ := bd_some hf
      refine cq_i hP hD hS [0, 1, 2, 3, 4, 5, 6, 7] [] [0, 1, 2, 3, 4, 5, 6, 7] (va_free (wc := (wMD E a0 r4)) hD hS hA [0, 1, 2, 3, 4, 5, 6, 7] rfl) (va_runV (As := [.int (2 : Int32), .int (5 : Int32)]) (rest := [.int (0 : Int32), .ref (a0 2)]) ⟨hx, hb, hml, hown, hts⟩ (c_X11_number l E H.size a0 r4 (2 : Int32) (5 : Int32) r5 e5) (cwV 2 hts gX11_house_X11_number rfl rfl rfl hdV_X11_number ⟨Nat.le_of_ble_eq_true rfl, Nat.le_of_ble_eq_true rfl⟩) ⟨PW.blind, va_recv hC.1 hP (ci := 9) (q0 := 0) rfl rfl, PW.pre hC hS hP hD (va_free hD hS hA [0, 1, 2, 3, 4, 5, 6, 7] rfl)⟩ rfl rfl hl.1 rfl (lv_room (Nat.le_of_ble_eq_true rfl)) dX11_house_62 ⟨Nat.le_of_ble_eq_true rfl, Nat.le_of_ble_eq_true rfl⟩) rfl rfl rfl rfl (wMD E a0 r5.2) rfl rfl (fun H locs hP hD hS => ?_)
      refine lv_i2l hx hb dX11_house_65 rfl ?_
      obtain ⟨h6, hf⟩ := gdI_some hf
      refine va_last hx hb hC.1 hP hD hS 2 1 rfl rfl h6 dX11_house_66 (fun H locs hP hD hS => ?_)
      have hP : va_P E.1 vwCl (wMD E a0 (r5.2.1, (vp_updL r5.2.2.1 (0 : Int32).toNatClampNeg r5.1.toInt64), r5.2.2.2.1, r5.2.2.2.2.1, r5.2.2.2.2.2.1, r5.2.2.2.2.2.2.1, r5.2.2.2.2.2.2.2.1, r5.2.2.2.2.2.2.2.2.1, r5.2.2.2.2.2.2.2.2.2.1, r5.2.2.2.2.2.2.2.2.2.2.1, r5.2.2.2.2.2.2.2.2.2.2.2.1, r5.2.2.2.2.2.2.2.2.2.2.2.2.1, r5.2.2.2.2.2.2.2.2.2.2.2.2.2.1, r5.2.2.2.2.2.2.2.2.2.2.2.2.2.2.1, r5.2.2.2.2.2.2.2.2.2.2.2.2.2.2.2.1, r5.2.2.2.2.2.2.2.2.2.2.2.2.2.2.2.2.1, r5.2.2.2.2.2.2.2.2.2.2.2.2.2.2.2.2.2)) H := hP
      have hD : va_D A (wMD E a0 (r5.2.1, (vp_updL r5.2.2.1 (0 : Int32).toNatClampNeg r5.1.toInt64), r5.2.2.2.1, r5.2.2.2.2.1, r5.2.2.2.2.2.1, r5.2.2.2.2.2.2.1, r5.2.2.2.2.2.2.2.1, r5.2.2.2.2.2.2.2.2.1, r5.2.2.2.2.2.2.2.2.2.1, r5.2.2.2.2.2.2.2.2.2.2.1, r5.2.2.2.2.2.2.2.2.2.2.2.1, r5.2.2.2.2.2.2.2.2.2.2.2.2.1, r5.2.2.2.2.2.2.2.2.2.2.2.2.2.1, r5.2.2.2.2.2.2.2.2.2.2.2.2.2.2.1, r5.2.2.2.2.2.2.2.2.2.2.2.2.2.2.2.1, r5.2.2.2.2.2.2.2.2.2.2.2.2.2.2.2.2.1, r5.2.2.2.2.2.2.2.2.2.2.2.2.2.2.2.2.2)) := hD
      refine lv_aload_n hx hb dX11_house_67 rfl (lv_at hl 0 rfl) ?_
      refine lv_bipush (v := 44) hx hb dX11_house_68 rfl ?_
      obtain ⟨r7, e7, hf⟩ := bd_some hf
      refine cq_v hP hD hS [0, 1, 2, 3, 4, 5, 6, 7] [] [0, 1, 2, 3, 4, 5, 6, 7] (va_free (wc := (wMD E a0 (r5.2.1, (vp_updL r5.2.2.1 (0 : Int32).toNatClampNeg r5.1.toInt64), r5.2.2.2.1, r5.2.2.2.2.1, r5.2.2.2.2.2.1, r5.2.2.2.2.2.2.1, r5.2.2.2.2.2.2.2.1, r5.2.2.2.2.2.2.2.2.1, r5.2.2.2.2.2.2.2.2.2.1, r5.2.2.2.2.2.2.2.2.2.2.1, r5.2.2.2.2.2.2.2.2.2.2.2.1, r5.2.2.2.2.2.2.2.2.2.2.2.2.1, r5.2.2.2.2.2.2.2.2.2.2.2.2.2.1, r5.2.2.2.2.2.2.2.2.2.2.2.2.2.2.1, r5.2.2.2.2.2.2.2.2.2.2.2.2.2.2.2.1, r5.2.2.2.2.2.2.2.2.2.2.2.2.2.2.2.2.1, r5.2.2.2.2.2.2.2.2.2.2.2.2.2.2.2.2.2))) hD hS hA [0, 1, 2, 3, 4, 5, 6, 7] rfl) (va_runV (As := [.int (44 : Int32)]) (rest := []) ⟨hx, hb, hml, hown, hts⟩ (c_X11_sign l E H.size a0 (r5.2.1, (vp_updL r5.2.2.1 (0 : Int32).toNatClampNeg r5.1.toInt64), r5.2.2.2.1, r5.2.2.2.2.1, r5.2.2.2.2.2.1, r5.2.2.2.2.2.2.1, r5.2.2.2.2.2.2.2.1, r5.2.2.2.2.2.2.2.2.1, r5.2.2.2.2.2.2.2.2.2.1, r5.2.2.2.2.2.2.2.2.2.2.1, r5.2.2.2.2.2.2.2.2.2.2.2.1, r5.2.2.2.2.2.2.2.2.2.2.2.2.1, r5.2.2.2.2.2.2.2.2.2.2.2.2.2.1, r5.2.2.2.2.2.2.2.2.2.2.2.2.2.2.1, r5.2.2.2.2.2.2.2.2.2.2.2.2.2.2.2.1, r5.2.2.2.2.2.2.2.2.2.2.2.2.2.2.2.2.1, r5.2.2.2.2.2.2.2.2.2.2.2.2.2.2.2.2.2) (44 : Int32) r7 e7) (cwV 1 hts gX11_house_X11_sign rfl rfl rfl hdV_X11_sign ⟨Nat.le_of_ble_eq_true rfl, Nat.le_of_ble_eq_true rfl⟩) ⟨PW.blind, va_recv hC.1 hP (ci := 9) (q0 := 0) rfl rfl, PW.pre hC hS hP hD (va_free hD hS hA [0, 1, 2, 3, 4, 5, 6, 7] rfl)⟩ rfl rfl hl.1 rfl (lv_room (Nat.le_of_ble_eq_true rfl)) dX11_house_70 ⟨Nat.le_of_ble_eq_true rfl, Nat.le_of_ble_eq_true rfl⟩) rfl rfl rfl rfl (wMD E a0 r7) rfl rfl (fun H locs hP hD hS => ?_)
      refine lv_aload_n hx hb dX11_house_73 rfl (lv_at hl 0 rfl) ?_
      refine va_get (D := E.1) (ci := 9) (v := .ref (a0 2)) (C := RX11) (T := TX11) (N := 17) hx hb hts w2 hown hC.1 hP 0 rfl rfl 1 (by decide) w1 (fun _ h9 => h9) rfl dX11_house_74 ?_
      refine lv_iconst (v := 1) hx hb dX11_house_77 rfl ?_
      refine lv_aload_n hx hb dX11_house_78 rfl (lv_at hl 0 rfl) ?_
      refine lv_iconst (v := 1) hx hb dX11_house_79 rfl ?_
      refine lv_iconst (v := 3) hx hb dX11_house_80 rfl ?_
      obtain ⟨r8, e8, hf⟩ := bd_some hf
      refine cq_i hP hD hS [0, 1, 2, 3, 4, 5, 6, 7] [] [0, 1, 2, 3, 4, 5, 6, 7] (va_free (wc := (wMD E a0 r7)) hD hS hA [0, 1, 2, 3, 4, 5, 6, 7] rfl) (va_runV (As := [.int (1 : Int32), .int (3 : Int32)]) (rest := [.int (1 : Int32), .ref (a0 2)]) ⟨hx, hb, hml, hown, hts⟩ (c_X11_number l E H.size a0 r7 (1 : Int32) (3 : Int32) r8 e8) (cwV 2 hts gX11_house_X11_number rfl rfl rfl hdV_X11_number ⟨Nat.le_of_ble_eq_true rfl, Nat.le_of_ble_eq_true rfl⟩) ⟨PW.blind, va_recv hC.1 hP (ci := 9) (q0 := 0) rfl rfl, PW.pre hC hS hP hD (va_free hD hS hA [0, 1, 2, 3, 4, 5, 6, 7] rfl)⟩ rfl rfl hl.1 rfl (lv_room (Nat.le_of_ble_eq_true rfl)) dX11_house_81 ⟨Nat.le_of_ble_eq_true rfl, Nat.le_of_ble_eq_true rfl⟩) rfl rfl rfl rfl (wMD E a0 r8.2) rfl rfl (fun H locs hP hD hS => ?_)
      refine lv_i2l hx hb dX11_house_84 rfl ?_
      obtain ⟨h9, hf⟩ := gdI_some hf
      refine va_last hx hb hC.1 hP hD hS 2 1 rfl rfl h9 dX11_house_85 (fun H locs hP hD hS => ?_)
      have hP : va_P E.1 vwCl (wMD E a0 (r8.2.1, (vp_updL r8.2.2.1 (1 : Int32).toNatClampNeg r8.1.toInt64), r8.2.2.2.1, r8.2.2.2.2.1, r8.2.2.2.2.2.1, r8.2.2.2.2.2.2.1, r8.2.2.2.2.2.2.2.1, r8.2.2.2.2.2.2.2.2.1, r8.2.2.2.2.2.2.2.2.2.1, r8.2.2.2.2.2.2.2.2.2.2.1, r8.2.2.2.2.2.2.2.2.2.2.2.1, r8.2.2.2.2.2.2.2.2.2.2.2.2.1, r8.2.2.2.2.2.2.2.2.2.2.2.2.2.1, r8.2.2.2.2.2.2.2.2.2.2.2.2.2.2.1, r8.2.2.2.2.2.2.2.2.2.2.2.2.2.2.2.1, r8.2.2.2.2.2.2.2.2.2.2.2.2.2.2.2.2.1, r8.2.2.2.2.2.2.2.2.2.2.2.2.2.2.2.2.2)) H := hP
      have hD : va_D A (wMD E a0 (r8.2.1, (vp_updL r8.2.2.1 (1 : Int32).toNatClampNeg r8.1.toInt64), r8.2.2.2.1, r8.2.2.2.2.1, r8.2.2.2.2.2.1, r8.2.2.2.2.2.2.1, r8.2.2.2.2.2.2.2.1, r8.2.2.2.2.2.2.2.2.1, r8.2.2.2.2.2.2.2.2.2.1, r8.2.2.2.2.2.2.2.2.2.2.1, r8.2.2.2.2.2.2.2.2.2.2.2.1, r8.2.2.2.2.2.2.2.2.2.2.2.2.1, r8.2.2.2.2.2.2.2.2.2.2.2.2.2.1, r8.2.2.2.2.2.2.2.2.2.2.2.2.2.2.1, r8.2.2.2.2.2.2.2.2.2.2.2.2.2.2.2.1, r8.2.2.2.2.2.2.2.2.2.2.2.2.2.2.2.2.1, r8.2.2.2.2.2.2.2.2.2.2.2.2.2.2.2.2.2)) := hD
      refine lv_aload_n hx hb dX11_house_86 rfl (lv_at hl 0 rfl) ?_
      refine lv_bipush (v := 44) hx hb dX11_house_87 rfl ?_
      obtain ⟨r10, e10, hf⟩ := bd_some hf
      refine cq_v hP hD hS [0, 1, 2, 3, 4, 5, 6, 7] [] [0, 1, 2, 3, 4, 5, 6, 7] (va_free (wc := (wMD E a0 (r8.2.1, (vp_updL r8.2.2.1 (1 : Int32).toNatClampNeg r8.1.toInt64), r8.2.2.2.1, r8.2.2.2.2.1, r8.2.2.2.2.2.1, r8.2.2.2.2.2.2.1, r8.2.2.2.2.2.2.2.1, r8.2.2.2.2.2.2.2.2.1, r8.2.2.2.2.2.2.2.2.2.1, r8.2.2.2.2.2.2.2.2.2.2.1, r8.2.2.2.2.2.2.2.2.2.2.2.1, r8.2.2.2.2.2.2.2.2.2.2.2.2.1, r8.2.2.2.2.2.2.2.2.2.2.2.2.2.1, r8.2.2.2.2.2.2.2.2.2.2.2.2.2.2.1, r8.2.2.2.2.2.2.2.2.2.2.2.2.2.2.2.1, r8.2.2.2.2.2.2.2.2.2.2.2.2.2.2.2.2.1, r8.2.2.2.2.2.2.2.2.2.2.2.2.2.2.2.2.2))) hD hS hA [0, 1, 2, 3, 4, 5, 6, 7] rfl) (va_runV (As := [.int (44 : Int32)]) (rest := []) ⟨hx, hb, hml, hown, hts⟩ (c_X11_sign l E H.size a0 (r8.2.1, (vp_updL r8.2.2.1 (1 : Int32).toNatClampNeg r8.1.toInt64), r8.2.2.2.1, r8.2.2.2.2.1, r8.2.2.2.2.2.1, r8.2.2.2.2.2.2.1, r8.2.2.2.2.2.2.2.1, r8.2.2.2.2.2.2.2.2.1, r8.2.2.2.2.2.2.2.2.2.1, r8.2.2.2.2.2.2.2.2.2.2.1, r8.2.2.2.2.2.2.2.2.2.2.2.1, r8.2.2.2.2.2.2.2.2.2.2.2.2.1, r8.2.2.2.2.2.2.2.2.2.2.2.2.2.1, r8.2.2.2.2.2.2.2.2.2.2.2.2.2.2.1, r8.2.2.2.2.2.2.2.2.2.2.2.2.2.2.2.1, r8.2.2.2.2.2.2.2.2.2.2.2.2.2.2.2.2.1, r8.2.2.2.2.2.2.2.2.2.2.2.2.2.2.2.2.2) (44 : Int32) r10 e10) (cwV 1 hts gX11_house_X11_sign rfl rfl rfl hdV_X11_sign ⟨Nat.le_of_ble_eq_true rfl, Nat.le_of_ble_eq_true rfl⟩) ⟨PW.blind, va_recv hC.1 hP (ci := 9) (q0 := 0) rfl rfl, PW.pre hC hS hP hD (va_free hD hS hA [0, 1, 2, 3, 4, 5, 6, 7] rfl)⟩ rfl rfl hl.1 rfl (lv_room (Nat.le_of_ble_eq_true rfl)) dX11_house_89 ⟨Nat.le_of_ble_eq_true rfl, Nat.le_of_ble_eq_true rfl⟩) rfl rfl rfl rfl (wMD E a0 r10) rfl rfl (fun H locs hP hD hS => ?_)
      refine lv_aload_n hx hb dX11_house_92 rfl (lv_at hl 0 rfl) ?_
      refine va_get (D := E.1) (ci := 9) (v := .ref (a0 2)) (C := RX11) (T := TX11) (N := 17) hx hb hts w2 hown hC.1 hP 0 rfl rfl 1 (by decide) w1 (fun _ h9 => h9) rfl dX11_house_93 ?_
      refine lv_iconst (v := 2) hx hb dX11_house_96 rfl ?_
      refine lv_aload_n hx hb dX11_house_97 rfl (lv_at hl 0 rfl) ?_
      refine lv_iconst (v := 4) hx hb dX11_house_98 rfl ?_
      refine lv_bipush (v := 9) hx hb dX11_house_99 rfl ?_
      obtain ⟨r11, e11, hf⟩ := bd_some hf
      refine cq_i hP hD hS [0, 1, 2, 3, 4, 5, 6, 7] [] [0, 1, 2, 3, 4, 5, 6, 7] (va_free (wc := (wMD E a0 r10)) hD hS hA [0, 1, 2, 3, 4, 5, 6, 7] rfl) (va_runV (As := [.int (4 : Int32), .int (9 : Int32)]) (rest := [.int (2 : Int32), .ref (a0 2)]) ⟨hx, hb, hml, hown, hts⟩ (c_X11_number l E H.size a0 r10 (4 : Int32) (9 : Int32) r11 e11) (cwV 2 hts gX11_house_X11_number rfl rfl rfl hdV_X11_number ⟨Nat.le_of_ble_eq_true rfl, Nat.le_of_ble_eq_true rfl⟩) ⟨PW.blind, va_recv hC.1 hP (ci := 9) (q0 := 0) rfl rfl, PW.pre hC hS hP hD (va_free hD hS hA [0, 1, 2, 3, 4, 5, 6, 7] rfl)⟩ rfl rfl hl.1 rfl (lv_room (Nat.le_of_ble_eq_true rfl)) dX11_house_101 ⟨Nat.le_of_ble_eq_true rfl, Nat.le_of_ble_eq_true rfl⟩) rfl rfl rfl rfl (wMD E a0 r11.2) rfl rfl (fun H locs hP hD hS => ?_)
      refine lv_i2l hx hb dX11_house_104 rfl ?_
      obtain ⟨h12, hf⟩ := gdI_some hf
      refine va_last hx hb hC.1 hP hD hS 2 1 rfl rfl h12 dX11_house_105 (fun H locs hP hD hS => ?_)
      have hP : va_P E.1 vwCl (wMD E a0 (r11.2.1, (vp_updL r11.2.2.1 (2 : Int32).toNatClampNeg r11.1.toInt64), r11.2.2.2.1, r11.2.2.2.2.1, r11.2.2.2.2.2.1, r11.2.2.2.2.2.2.1, r11.2.2.2.2.2.2.2.1, r11.2.2.2.2.2.2.2.2.1, r11.2.2.2.2.2.2.2.2.2.1, r11.2.2.2.2.2.2.2.2.2.2.1, r11.2.2.2.2.2.2.2.2.2.2.2.1, r11.2.2.2.2.2.2.2.2.2.2.2.2.1, r11.2.2.2.2.2.2.2.2.2.2.2.2.2.1, r11.2.2.2.2.2.2.2.2.2.2.2.2.2.2.1, r11.2.2.2.2.2.2.2.2.2.2.2.2.2.2.2.1, r11.2.2.2.2.2.2.2.2.2.2.2.2.2.2.2.2.1, r11.2.2.2.2.2.2.2.2.2.2.2.2.2.2.2.2.2)) H := hP
      have hD : va_D A (wMD E a0 (r11.2.1, (vp_updL r11.2.2.1 (2 : Int32).toNatClampNeg r11.1.toInt64), r11.2.2.2.1, r11.2.2.2.2.1, r11.2.2.2.2.2.1, r11.2.2.2.2.2.2.1, r11.2.2.2.2.2.2.2.1, r11.2.2.2.2.2.2.2.2.1, r11.2.2.2.2.2.2.2.2.2.1, r11.2.2.2.2.2.2.2.2.2.2.1, r11.2.2.2.2.2.2.2.2.2.2.2.1, r11.2.2.2.2.2.2.2.2.2.2.2.2.1, r11.2.2.2.2.2.2.2.2.2.2.2.2.2.1, r11.2.2.2.2.2.2.2.2.2.2.2.2.2.2.1, r11.2.2.2.2.2.2.2.2.2.2.2.2.2.2.2.1, r11.2.2.2.2.2.2.2.2.2.2.2.2.2.2.2.2.1, r11.2.2.2.2.2.2.2.2.2.2.2.2.2.2.2.2.2)) := hD
      refine lv_aload_n hx hb dX11_house_106 rfl (lv_at hl 0 rfl) ?_
      refine lv_bipush (v := 44) hx hb dX11_house_107 rfl ?_
      obtain ⟨r13, e13, hf⟩ := bd_some hf
      refine cq_v hP hD hS [0, 1, 2, 3, 4, 5, 6, 7] [] [0, 1, 2, 3, 4, 5, 6, 7] (va_free (wc := (wMD E a0 (r11.2.1, (vp_updL r11.2.2.1 (2 : Int32).toNatClampNeg r11.1.toInt64), r11.2.2.2.1, r11.2.2.2.2.1, r11.2.2.2.2.2.1, r11.2.2.2.2.2.2.1, r11.2.2.2.2.2.2.2.1, r11.2.2.2.2.2.2.2.2.1, r11.2.2.2.2.2.2.2.2.2.1, r11.2.2.2.2.2.2.2.2.2.2.1, r11.2.2.2.2.2.2.2.2.2.2.2.1, r11.2.2.2.2.2.2.2.2.2.2.2.2.1, r11.2.2.2.2.2.2.2.2.2.2.2.2.2.1, r11.2.2.2.2.2.2.2.2.2.2.2.2.2.2.1, r11.2.2.2.2.2.2.2.2.2.2.2.2.2.2.2.1, r11.2.2.2.2.2.2.2.2.2.2.2.2.2.2.2.2.1, r11.2.2.2.2.2.2.2.2.2.2.2.2.2.2.2.2.2))) hD hS hA [0, 1, 2, 3, 4, 5, 6, 7] rfl) (va_runV (As := [.int (44 : Int32)]) (rest := []) ⟨hx, hb, hml, hown, hts⟩ (c_X11_sign l E H.size a0 (r11.2.1, (vp_updL r11.2.2.1 (2 : Int32).toNatClampNeg r11.1.toInt64), r11.2.2.2.1, r11.2.2.2.2.1, r11.2.2.2.2.2.1, r11.2.2.2.2.2.2.1, r11.2.2.2.2.2.2.2.1, r11.2.2.2.2.2.2.2.2.1, r11.2.2.2.2.2.2.2.2.2.1, r11.2.2.2.2.2.2.2.2.2.2.1, r11.2.2.2.2.2.2.2.2.2.2.2.1, r11.2.2.2.2.2.2.2.2.2.2.2.2.1, r11.2.2.2.2.2.2.2.2.2.2.2.2.2.1, r11.2.2.2.2.2.2.2.2.2.2.2.2.2.2.1, r11.2.2.2.2.2.2.2.2.2.2.2.2.2.2.2.1, r11.2.2.2.2.2.2.2.2.2.2.2.2.2.2.2.2.1, r11.2.2.2.2.2.2.2.2.2.2.2.2.2.2.2.2.2) (44 : Int32) r13 e13) (cwV 1 hts gX11_house_X11_sign rfl rfl rfl hdV_X11_sign ⟨Nat.le_of_ble_eq_true rfl, Nat.le_of_ble_eq_true rfl⟩) ⟨PW.blind, va_recv hC.1 hP (ci := 9) (q0 := 0) rfl rfl, PW.pre hC hS hP hD (va_free hD hS hA [0, 1, 2, 3, 4, 5, 6, 7] rfl)⟩ rfl rfl hl.1 rfl (lv_room (Nat.le_of_ble_eq_true rfl)) dX11_house_109 ⟨Nat.le_of_ble_eq_true rfl, Nat.le_of_ble_eq_true rfl⟩) rfl rfl rfl rfl (wMD E a0 r13) rfl rfl (fun H locs hP hD hS => ?_)
      refine lv_aload_n hx hb dX11_house_112 rfl (lv_at hl 0 rfl) ?_
      refine va_get (D := E.1) (ci := 9) (v := .ref (a0 2)) (C := RX11) (T := TX11) (N := 17) hx hb hts w2 hown hC.1 hP 0 rfl rfl 1 (by decide) w1 (fun _ h9 => h9) rfl dX11_house_113 ?_
      refine lv_iconst (v := 3) hx hb dX11_house_116 rfl ?_
      refine lv_aload_n hx hb dX11_house_117 rfl (lv_at hl 0 rfl) ?_
      refine lv_iconst (v := 1) hx hb dX11_house_118 rfl ?_
      refine lv_bipush (v := 20) hx hb dX11_house_119 rfl ?_
      obtain ⟨r14, e14, hf⟩ := bd_some hf
      refine cq_i hP hD hS [0, 1, 2, 3, 4, 5, 6, 7] [] [0, 1, 2, 3, 4, 5, 6, 7] (va_free (wc := (wMD E a0 r13)) hD hS hA [0, 1, 2, 3, 4, 5, 6, 7] rfl) (va_runV (As := [.int (1 : Int32), .int (20 : Int32)]) (rest := [.int (3 : Int32), .ref (a0 2)]) ⟨hx, hb, hml, hown, hts⟩ (c_X11_number l E H.size a0 r13 (1 : Int32) (20 : Int32) r14 e14) (cwV 2 hts gX11_house_X11_number rfl rfl rfl hdV_X11_number ⟨Nat.le_of_ble_eq_true rfl, Nat.le_of_ble_eq_true rfl⟩) ⟨PW.blind, va_recv hC.1 hP (ci := 9) (q0 := 0) rfl rfl, PW.pre hC hS hP hD (va_free hD hS hA [0, 1, 2, 3, 4, 5, 6, 7] rfl)⟩ rfl rfl hl.1 rfl (lv_room (Nat.le_of_ble_eq_true rfl)) dX11_house_121 ⟨Nat.le_of_ble_eq_true rfl, Nat.le_of_ble_eq_true rfl⟩) rfl rfl rfl rfl (wMD E a0 r14.2) rfl rfl (fun H locs hP hD hS => ?_)
      refine lv_i2l hx hb dX11_house_124 rfl ?_
      obtain ⟨h15, hf⟩ := gdI_some hf
      refine va_last hx hb hC.1 hP hD hS 2 1 rfl rfl h15 dX11_house_125 (fun H locs hP hD hS => ?_)
      have hP : va_P E.1 vwCl (wMD E a0 (r14.2.1, (vp_updL r14.2.2.1 (3 : Int32).toNatClampNeg r14.1.toInt64), r14.2.2.2.1, r14.2.2.2.2.1, r14.2.2.2.2.2.1, r14.2.2.2.2.2.2.1, r14.2.2.2.2.2.2.2.1, r14.2.2.2.2.2.2.2.2.1, r14.2.2.2.2.2.2.2.2.2.1, r14.2.2.2.2.2.2.2.2.2.2.1, r14.2.2.2.2.2.2.2.2.2.2.2.1, r14.2.2.2.2.2.2.2.2.2.2.2.2.1, r14.2.2.2.2.2.2.2.2.2.2.2.2.2.1, r14.2.2.2.2.2.2.2.2.2.2.2.2.2.2.1, r14.2.2.2.2.2.2.2.2.2.2.2.2.2.2.2.1, r14.2.2.2.2.2.2.2.2.2.2.2.2.2.2.2.2.1, r14.2.2.2.2.2.2.2.2.2.2.2.2.2.2.2.2.2)) H := hP
      have hD : va_D A (wMD E a0 (r14.2.1, (vp_updL r14.2.2.1 (3 : Int32).toNatClampNeg r14.1.toInt64), r14.2.2.2.1, r14.2.2.2.2.1, r14.2.2.2.2.2.1, r14.2.2.2.2.2.2.1, r14.2.2.2.2.2.2.2.1, r14.2.2.2.2.2.2.2.2.1, r14.2.2.2.2.2.2.2.2.2.1, r14.2.2.2.2.2.2.2.2.2.2.1, r14.2.2.2.2.2.2.2.2.2.2.2.1, r14.2.2.2.2.2.2.2.2.2.2.2.2.1, r14.2.2.2.2.2.2.2.2.2.2.2.2.2.1, r14.2.2.2.2.2.2.2.2.2.2.2.2.2.2.1, r14.2.2.2.2.2.2.2.2.2.2.2.2.2.2.2.1, r14.2.2.2.2.2.2.2.2.2.2.2.2.2.2.2.2.1, r14.2.2.2.2.2.2.2.2.2.2.2.2.2.2.2.2.2)) := hD
      refine lv_aload_n hx hb dX11_house_126 rfl (lv_at hl 0 rfl) ?_
      refine lv_bipush (v := 44) hx hb dX11_house_127 rfl ?_
      obtain ⟨r16, e16, hf⟩ := bd_some hf
      refine cq_v hP hD hS [0, 1, 2, 3, 4, 5, 6, 7] [] [0, 1, 2, 3, 4, 5, 6, 7] (va_free (wc := (wMD E a0 (r14.2.1, (vp_updL r14.2.2.1 (3 : Int32).toNatClampNeg r14.1.toInt64), r14.2.2.2.1, r14.2.2.2.2.1, r14.2.2.2.2.2.1, r14.2.2.2.2.2.2.1, r14.2.2.2.2.2.2.2.1, r14.2.2.2.2.2.2.2.2.1, r14.2.2.2.2.2.2.2.2.2.1, r14.2.2.2.2.2.2.2.2.2.2.1, r14.2.2.2.2.2.2.2.2.2.2.2.1, r14.2.2.2.2.2.2.2.2.2.2.2.2.1, r14.2.2.2.2.2.2.2.2.2.2.2.2.2.1, r14.2.2.2.2.2.2.2.2.2.2.2.2.2.2.1, r14.2.2.2.2.2.2.2.2.2.2.2.2.2.2.2.1, r14.2.2.2.2.2.2.2.2.2.2.2.2.2.2.2.2.1, r14.2.2.2.2.2.2.2.2.2.2.2.2.2.2.2.2.2))) hD hS hA [0, 1, 2, 3, 4, 5, 6, 7] rfl) (va_runV (As := [.int (44 : Int32)]) (rest := []) ⟨hx, hb, hml, hown, hts⟩ (c_X11_sign l E H.size a0 (r14.2.1, (vp_updL r14.2.2.1 (3 : Int32).toNatClampNeg r14.1.toInt64), r14.2.2.2.1, r14.2.2.2.2.1, r14.2.2.2.2.2.1, r14.2.2.2.2.2.2.1, r14.2.2.2.2.2.2.2.1, r14.2.2.2.2.2.2.2.2.1, r14.2.2.2.2.2.2.2.2.2.1, r14.2.2.2.2.2.2.2.2.2.2.1, r14.2.2.2.2.2.2.2.2.2.2.2.1, r14.2.2.2.2.2.2.2.2.2.2.2.2.1, r14.2.2.2.2.2.2.2.2.2.2.2.2.2.1, r14.2.2.2.2.2.2.2.2.2.2.2.2.2.2.1, r14.2.2.2.2.2.2.2.2.2.2.2.2.2.2.2.1, r14.2.2.2.2.2.2.2.2.2.2.2.2.2.2.2.2.1, r14.2.2.2.2.2.2.2.2.2.2.2.2.2.2.2.2.2) (44 : Int32) r16 e16) (cwV 1 hts gX11_house_X11_sign rfl rfl rfl hdV_X11_sign ⟨Nat.le_of_ble_eq_true rfl, Nat.le_of_ble_eq_true rfl⟩) ⟨PW.blind, va_recv hC.1 hP (ci := 9) (q0 := 0) rfl rfl, PW.pre hC hS hP hD (va_free hD hS hA [0, 1, 2, 3, 4, 5, 6, 7] rfl)⟩ rfl rfl hl.1 rfl (lv_room (Nat.le_of_ble_eq_true rfl)) dX11_house_129 ⟨Nat.le_of_ble_eq_true rfl, Nat.le_of_ble_eq_true rfl⟩) rfl rfl rfl rfl (wMD E a0 r16) rfl rfl (fun H locs hP hD hS => ?_)
      refine lv_aload_n hx hb dX11_house_132 rfl (lv_at hl 0 rfl) ?_
      refine va_get (D := E.1) (ci := 9) (v := .ref (a0 2)) (C := RX11) (T := TX11) (N := 17) hx hb hts w2 hown hC.1 hP 0 rfl rfl 1 (by decide) w1 (fun _ h9 => h9) rfl dX11_house_133 ?_
      refine lv_iconst (v := 4) hx hb dX11_house_136 rfl ?_
      refine lv_aload_n hx hb dX11_house_137 rfl (lv_at hl 0 rfl) ?_
      refine lv_iconst (v := 0) hx hb dX11_house_138 rfl ?_
      refine lv_bipush (v := 20) hx hb dX11_house_139 rfl ?_
      obtain ⟨r17, e17, hf⟩ := bd_some hf
      refine cq_i hP hD hS [0, 1, 2, 3, 4, 5, 6, 7] [] [0, 1, 2, 3, 4, 5, 6, 7] (va_free (wc := (wMD E a0 r16)) hD hS hA [0, 1, 2, 3, 4, 5, 6, 7] rfl) (va_runV (As := [.int (0 : Int32), .int (20 : Int32)]) (rest := [.int (4 : Int32), .ref (a0 2)]) ⟨hx, hb, hml, hown, hts⟩ (c_X11_number l E H.size a0 r16 (0 : Int32) (20 : Int32) r17 e17) (cwV 2 hts gX11_house_X11_number rfl rfl rfl hdV_X11_number ⟨Nat.le_of_ble_eq_true rfl, Nat.le_of_ble_eq_true rfl⟩) ⟨PW.blind, va_recv hC.1 hP (ci := 9) (q0 := 0) rfl rfl, PW.pre hC hS hP hD (va_free hD hS hA [0, 1, 2, 3, 4, 5, 6, 7] rfl)⟩ rfl rfl hl.1 rfl (lv_room (Nat.le_of_ble_eq_true rfl)) dX11_house_141 ⟨Nat.le_of_ble_eq_true rfl, Nat.le_of_ble_eq_true rfl⟩) rfl rfl rfl rfl (wMD E a0 r17.2) rfl rfl (fun H locs hP hD hS => ?_)
      refine lv_i2l hx hb dX11_house_144 rfl ?_
      obtain ⟨h18, hf⟩ := gdI_some hf
      refine va_last hx hb hC.1 hP hD hS 2 1 rfl rfl h18 dX11_house_145 (fun H locs hP hD hS => ?_)
      have hP : va_P E.1 vwCl (wMD E a0 (r17.2.1, (vp_updL r17.2.2.1 (4 : Int32).toNatClampNeg r17.1.toInt64), r17.2.2.2.1, r17.2.2.2.2.1, r17.2.2.2.2.2.1, r17.2.2.2.2.2.2.1, r17.2.2.2.2.2.2.2.1, r17.2.2.2.2.2.2.2.2.1, r17.2.2.2.2.2.2.2.2.2.1, r17.2.2.2.2.2.2.2.2.2.2.1, r17.2.2.2.2.2.2.2.2.2.2.2.1, r17.2.2.2.2.2.2.2.2.2.2.2.2.1, r17.2.2.2.2.2.2.2.2.2.2.2.2.2.1, r17.2.2.2.2.2.2.2.2.2.2.2.2.2.2.1, r17.2.2.2.2.2.2.2.2.2.2.2.2.2.2.2.1, r17.2.2.2.2.2.2.2.2.2.2.2.2.2.2.2.2.1, r17.2.2.2.2.2.2.2.2.2.2.2.2.2.2.2.2.2)) H := hP
      have hD : va_D A (wMD E a0 (r17.2.1, (vp_updL r17.2.2.1 (4 : Int32).toNatClampNeg r17.1.toInt64), r17.2.2.2.1, r17.2.2.2.2.1, r17.2.2.2.2.2.1, r17.2.2.2.2.2.2.1, r17.2.2.2.2.2.2.2.1, r17.2.2.2.2.2.2.2.2.1, r17.2.2.2.2.2.2.2.2.2.1, r17.2.2.2.2.2.2.2.2.2.2.1, r17.2.2.2.2.2.2.2.2.2.2.2.1, r17.2.2.2.2.2.2.2.2.2.2.2.2.1, r17.2.2.2.2.2.2.2.2.2.2.2.2.2.1, r17.2.2.2.2.2.2.2.2.2.2.2.2.2.2.1, r17.2.2.2.2.2.2.2.2.2.2.2.2.2.2.2.1, r17.2.2.2.2.2.2.2.2.2.2.2.2.2.2.2.2.1, r17.2.2.2.2.2.2.2.2.2.2.2.2.2.2.2.2.2)) := hD
      refine lv_aload_n hx hb dX11_house_146 rfl (lv_at hl 0 rfl) ?_
      refine lv_bipush (v := 59) hx hb dX11_house_147 rfl ?_
      obtain ⟨r19, e19, hf⟩ := bd_some hf
      refine cq_v hP hD hS [0, 1, 2, 3, 4, 5, 6, 7] [] [0, 1, 2, 3, 4, 5, 6, 7] (va_free (wc := (wMD E a0 (r17.2.1, (vp_updL r17.2.2.1 (4 : Int32).toNatClampNeg r17.1.toInt64), r17.2.2.2.1, r17.2.2.2.2.1, r17.2.2.2.2.2.1, r17.2.2.2.2.2.2.1, r17.2.2.2.2.2.2.2.1, r17.2.2.2.2.2.2.2.2.1, r17.2.2.2.2.2.2.2.2.2.1, r17.2.2.2.2.2.2.2.2.2.2.1, r17.2.2.2.2.2.2.2.2.2.2.2.1, r17.2.2.2.2.2.2.2.2.2.2.2.2.1, r17.2.2.2.2.2.2.2.2.2.2.2.2.2.1, r17.2.2.2.2.2.2.2.2.2.2.2.2.2.2.1, r17.2.2.2.2.2.2.2.2.2.2.2.2.2.2.2.1, r17.2.2.2.2.2.2.2.2.2.2.2.2.2.2.2.2.1, r17.2.2.2.2.2.2.2.2.2.2.2.2.2.2.2.2.2))) hD hS hA [0, 1, 2, 3, 4, 5, 6, 7] rfl) (va_runV (As := [.int (59 : Int32)]) (rest := []) ⟨hx, hb, hml, hown, hts⟩ (c_X11_sign l E H.size a0 (r17.2.1, (vp_updL r17.2.2.1 (4 : Int32).toNatClampNeg r17.1.toInt64), r17.2.2.2.1, r17.2.2.2.2.1, r17.2.2.2.2.2.1, r17.2.2.2.2.2.2.1, r17.2.2.2.2.2.2.2.1, r17.2.2.2.2.2.2.2.2.1, r17.2.2.2.2.2.2.2.2.2.1, r17.2.2.2.2.2.2.2.2.2.2.1, r17.2.2.2.2.2.2.2.2.2.2.2.1, r17.2.2.2.2.2.2.2.2.2.2.2.2.1, r17.2.2.2.2.2.2.2.2.2.2.2.2.2.1, r17.2.2.2.2.2.2.2.2.2.2.2.2.2.2.1, r17.2.2.2.2.2.2.2.2.2.2.2.2.2.2.2.1, r17.2.2.2.2.2.2.2.2.2.2.2.2.2.2.2.2.1, r17.2.2.2.2.2.2.2.2.2.2.2.2.2.2.2.2.2) (59 : Int32) r19 e19) (cwV 1 hts gX11_house_X11_sign rfl rfl rfl hdV_X11_sign ⟨Nat.le_of_ble_eq_true rfl, Nat.le_of_ble_eq_true rfl⟩) ⟨PW.blind, va_recv hC.1 hP (ci := 9) (q0 := 0) rfl rfl, PW.pre hC hS hP hD (va_free hD hS hA [0, 1, 2, 3, 4, 5, 6, 7] rfl)⟩ rfl rfl hl.1 rfl (lv_room (Nat.le_of_ble_eq_true rfl)) dX11_house_149 ⟨Nat.le_of_ble_eq_true rfl, Nat.le_of_ble_eq_true rfl⟩) rfl rfl rfl rfl (wMD E a0 r19) rfl rfl (fun H locs hP hD hS => ?_)
      refine lv_iconst (v := 0) hx hb dX11_house_152 rfl ?_
      refine lv_istore_n (lv' := [(1, .int (0 : Int32)), (0, .ref (a0 0))]) hx hb dX11_house_153 rfl hl (by decide) rfl (fun ls hl => ?_)
      obtain ⟨K20, hK20, hf⟩ := jn_some hf
      have J20 : ∀ (q20 : Int32 × MD) (H : Heap) (locs : List Loc) (hP : va_P E.1 vwCl (wMD E a0 q20.2) H) (hD : va_D A (wMD E a0 q20.2)) (hS : va_S A s.heap H locs) (ls : Array Slot) (hl : lv_has ls 2 [(0, .ref (a0 0))]) (hf : K20 q20 = some x), W p l e (headSpec wsX11_house rmX11_house).room s m args below meth c H locs 0 0 Q (F0 m 200 ls []) := by
        intro q20 H locs hP hD hS ls hl hf
        have hf := (hK20 q20).trans hf
        refine lv_aload_n hx hb dX11_house_200 rfl (lv_at hl 0 rfl) ?_
        obtain ⟨r21, e21, hf⟩ := bd_some hf
        refine cq_v hP hD hS [0, 1, 2, 3, 4, 5, 6, 7] [] [0, 1, 2, 3, 4, 5, 6, 7] (va_free (wc := (wMD E a0 q20.2)) hD hS hA [0, 1, 2, 3, 4, 5, 6, 7] rfl) (va_runV (As := []) (rest := []) ⟨hx, hb, hml, hown, hts⟩ (c_X11_readsServers l E H.size a0 q20.2 r21 e21) (cwV 0 hts gX11_house_X11_readsServers rfl rfl rfl hdV_X11_readsServers ⟨Nat.le_of_ble_eq_true rfl, Nat.le_of_ble_eq_true rfl⟩) ⟨PW.blind, va_recv hC.1 hP (ci := 9) (q0 := 0) rfl rfl, PW.pre hC hS hP hD (va_free hD hS hA [0, 1, 2, 3, 4, 5, 6, 7] rfl)⟩ rfl rfl hl.1 rfl (lv_room (Nat.le_of_ble_eq_true rfl)) dX11_house_201 ⟨Nat.le_of_ble_eq_true rfl, Nat.le_of_ble_eq_true rfl⟩) rfl rfl rfl rfl (wMD E a0 r21) rfl rfl (fun H locs hP hD hS => ?_)
        refine lv_aload_n hx hb dX11_house_204 rfl (lv_at hl 0 rfl) ?_
        obtain ⟨r22, e22, hf⟩ := bd_some hf
        refine cq_i hP hD hS [0, 1, 2, 3, 4, 5, 6, 7] [] [0, 1, 2, 3, 4, 5, 6, 7] (va_free (wc := (wMD E a0 r21)) hD hS hA [0, 1, 2, 3, 4, 5, 6, 7] rfl) (va_runV (As := []) (rest := []) ⟨hx, hb, hml, hown, hts⟩ (c_X11_readsFiles l E H.size a0 r21 r22 e22) (cwV 0 hts gX11_house_X11_readsFiles rfl rfl rfl hdV_X11_readsFiles ⟨Nat.le_of_ble_eq_true rfl, Nat.le_of_ble_eq_true rfl⟩) ⟨PW.blind, va_recv hC.1 hP (ci := 9) (q0 := 0) rfl rfl, PW.pre hC hS hP hD (va_free hD hS hA [0, 1, 2, 3, 4, 5, 6, 7] rfl)⟩ rfl rfl hl.1 rfl (lv_room (Nat.le_of_ble_eq_true rfl)) dX11_house_205 ⟨Nat.le_of_ble_eq_true rfl, Nat.le_of_ble_eq_true rfl⟩) rfl rfl rfl rfl (wMD E a0 r22.2) rfl rfl (fun H locs hP hD hS => ?_)
        refine lv_istore_n (lv' := [(1, .int r22.1), (0, .ref (a0 0))]) hx hb dX11_house_208 rfl hl (by decide) rfl (fun ls hl => ?_)
        refine lv_aload_n hx hb dX11_house_209 rfl (lv_at hl 1 rfl) ?_
        refine va_get (D := E.1) (ci := 9) (v := .int r22.2.2.2.2.2.2.2.2.2.2.2.1) (C := RX11) (T := TX11) (N := 17) hx hb hts w2 hown hC.1 hP 0 rfl rfl 10 (by decide) w5 (fun _ h9 => h9) rfl dX11_house_210 ?_
        obtain ⟨q23, e23, hf⟩ := bd_some hf
        have J23 : ∀ (H : Heap) (locs : List Loc) (hP : va_P E.1 vwCl (wMD E a0 q23) H) (hD : va_D A (wMD E a0 q23)) (hS : va_S A s.heap H locs), W p l e (headSpec wsX11_house rmX11_house).room s m args below meth c H locs 0 0 Q (F0 m 221 ls []) := by
          intro H locs hP hD hS
          refine lv_aload_n hx hb dX11_house_221 rfl (lv_at hl 1 rfl) ?_
          refine lv_iconst (v := 0) hx hb dX11_house_222 rfl ?_
          refine va_put (D := E.1) (ci := 9) (v := .int (0 : Int32)) (ty := .int) (C := RX11) (T := TX11) (N := 17) hx hb hts w2 tyX11 tyX11_ok nmX11 hown hC.1 hP hD hS 0 rfl rfl 7 (by decide) w6 (fun _ h9 => h9) rfl (by decide +kernel) rfl rfl (Nat.le_of_ble_eq_true rfl) dX11_house_223 (fun H locs hP hD hS => ?_)
          have hP : va_P E.1 vwCl (wMD E a0 (q23.1, q23.2.1, q23.2.2.1, q23.2.2.2.1, q23.2.2.2.2.1, q23.2.2.2.2.2.1, q23.2.2.2.2.2.2.1, (0 : Int32), q23.2.2.2.2.2.2.2.2.1, q23.2.2.2.2.2.2.2.2.2.1, q23.2.2.2.2.2.2.2.2.2.2.1, q23.2.2.2.2.2.2.2.2.2.2.2.1, q23.2.2.2.2.2.2.2.2.2.2.2.2.1, q23.2.2.2.2.2.2.2.2.2.2.2.2.2.1, q23.2.2.2.2.2.2.2.2.2.2.2.2.2.2.1, q23.2.2.2.2.2.2.2.2.2.2.2.2.2.2.2.1, q23.2.2.2.2.2.2.2.2.2.2.2.2.2.2.2.2)) H := hP
          have hD : va_D A (wMD E a0 (q23.1, q23.2.1, q23.2.2.1, q23.2.2.2.1, q23.2.2.2.2.1, q23.2.2.2.2.2.1, q23.2.2.2.2.2.2.1, (0 : Int32), q23.2.2.2.2.2.2.2.2.1, q23.2.2.2.2.2.2.2.2.2.1, q23.2.2.2.2.2.2.2.2.2.2.1, q23.2.2.2.2.2.2.2.2.2.2.2.1, q23.2.2.2.2.2.2.2.2.2.2.2.2.1, q23.2.2.2.2.2.2.2.2.2.2.2.2.2.1, q23.2.2.2.2.2.2.2.2.2.2.2.2.2.2.1, q23.2.2.2.2.2.2.2.2.2.2.2.2.2.2.2.1, q23.2.2.2.2.2.2.2.2.2.2.2.2.2.2.2.2)) := hD
          refine lv_aload_n hx hb dX11_house_226 rfl (lv_at hl 1 rfl) ?_
          refine va_get (D := E.1) (ci := 9) (v := .int q23.2.2.2.2.2.2.2.2.2.2.2.2.1) (C := RX11) (T := TX11) (N := 17) hx hb hts w2 hown hC.1 hP 0 rfl rfl 12 (by decide) w4 (fun _ h9 => h9) rfl dX11_house_227 ?_
          refine lv_if_le (tgt := 250) hx hb dX11_house_230 rfl (fun c24 => ?_) (fun c24 => ?_)
          · have hf := it_t hf c24
            refine lv_aload_n hx hb dX11_house_250 rfl (lv_at hl 1 rfl) ?_
            refine va_get (D := E.1) (ci := 9) (v := .ref (a0 2)) (C := RX11) (T := TX11) (N := 17) hx hb hts w2 hown hC.1 hP 0 rfl rfl 1 (by decide) w1 (fun _ h9 => h9) rfl dX11_house_251 ?_
            refine lv_iconst (v := 0) hx hb dX11_house_254 rfl ?_
            refine lv_aload_n hx hb dX11_house_255 rfl (lv_at hl 1 rfl) ?_
            refine va_get (D := E.1) (ci := 9) (v := .ref (a0 1)) (C := RX11) (T := TX11) (N := 17) hx hb hts w2 hown hC.1 hP 0 rfl rfl 0 (by decide) w7 (fun _ h9 => h9) rfl dX11_house_256 ?_
            refine lv_iconst (v := 0) hx hb dX11_house_259 rfl ?_
            obtain ⟨r25, e25, hf⟩ := bd_some hf
            refine cq_v hP hD hS [2, 1] [0, 3, 4, 5, 6, 7] [0, 7, 6, 1, 2, 3, 4, 5] (va_free (wc := (wLA E (a0 2) 340 q23.2.1 ++ wLA E (a0 1) 340 q23.1)) hD hS hA [2, 1] rfl) (va_runS (As := [.ref (a0 2), .int (0 : Int32), .ref (a0 1), .int (0 : Int32)]) (rest := []) ⟨hx, hb, hml, hown, hts⟩ (c_X11_copies l E H.size (a0 2) 340 q23.2.1 (0 : Int32) (a0 1) 340 q23.1 (0 : Int32) r25 e25) (va_cwS 4 hts gX11_house_X11_copies rfl rfl rfl hdS_X11_copies ⟨Nat.le_of_ble_eq_true rfl, Nat.le_of_ble_eq_true rfl⟩) ⟨PW.blind, PW.pre hC hS (hP.sub [2, 1] rfl) (hD.sub [2, 1] rfl rfl) (va_free hD hS hA [2, 1] rfl)⟩ rfl rfl hl.1 rfl (lv_room (Nat.le_of_ble_eq_true rfl)) dX11_house_260 ⟨Nat.le_of_ble_eq_true rfl, Nat.le_of_ble_eq_true rfl⟩) rfl rfl rfl rfl (wMD E a0 (r25, q23.2.1, q23.2.2.1, q23.2.2.2.1, q23.2.2.2.2.1, q23.2.2.2.2.2.1, q23.2.2.2.2.2.2.1, (0 : Int32), q23.2.2.2.2.2.2.2.2.1, q23.2.2.2.2.2.2.2.2.2.1, q23.2.2.2.2.2.2.2.2.2.2.1, q23.2.2.2.2.2.2.2.2.2.2.2.1, q23.2.2.2.2.2.2.2.2.2.2.2.2.1, q23.2.2.2.2.2.2.2.2.2.2.2.2.2.1, q23.2.2.2.2.2.2.2.2.2.2.2.2.2.2.1, q23.2.2.2.2.2.2.2.2.2.2.2.2.2.2.2.1, q23.2.2.2.2.2.2.2.2.2.2.2.2.2.2.2.2)) rfl rfl (fun H locs hP hD hS => ?_)
            refine lv_aload_n hx hb dX11_house_263 rfl (lv_at hl 1 rfl) ?_
            refine lv_iconst (v := 0) hx hb dX11_house_264 rfl ?_
            refine va_put (D := E.1) (ci := 9) (v := .int (0 : Int32)) (ty := .int) (C := RX11) (T := TX11) (N := 17) hx hb hts w2 tyX11 tyX11_ok nmX11 hown hC.1 hP hD hS 0 rfl rfl 3 (by decide) w8 (fun _ h9 => h9) rfl (by decide +kernel) rfl rfl (Nat.le_of_ble_eq_true rfl) dX11_house_265 (fun H locs hP hD hS => ?_)
            have hP : va_P E.1 vwCl (wMD E a0 (r25, q23.2.1, q23.2.2.1, (0 : Int32), q23.2.2.2.2.1, q23.2.2.2.2.2.1, q23.2.2.2.2.2.2.1, (0 : Int32), q23.2.2.2.2.2.2.2.2.1, q23.2.2.2.2.2.2.2.2.2.1, q23.2.2.2.2.2.2.2.2.2.2.1, q23.2.2.2.2.2.2.2.2.2.2.2.1, q23.2.2.2.2.2.2.2.2.2.2.2.2.1, q23.2.2.2.2.2.2.2.2.2.2.2.2.2.1, q23.2.2.2.2.2.2.2.2.2.2.2.2.2.2.1, q23.2.2.2.2.2.2.2.2.2.2.2.2.2.2.2.1, q23.2.2.2.2.2.2.2.2.2.2.2.2.2.2.2.2)) H := hP
            have hD : va_D A (wMD E a0 (r25, q23.2.1, q23.2.2.1, (0 : Int32), q23.2.2.2.2.1, q23.2.2.2.2.2.1, q23.2.2.2.2.2.2.1, (0 : Int32), q23.2.2.2.2.2.2.2.2.1, q23.2.2.2.2.2.2.2.2.2.1, q23.2.2.2.2.2.2.2.2.2.2.1, q23.2.2.2.2.2.2.2.2.2.2.2.1, q23.2.2.2.2.2.2.2.2.2.2.2.2.1, q23.2.2.2.2.2.2.2.2.2.2.2.2.2.1, q23.2.2.2.2.2.2.2.2.2.2.2.2.2.2.1, q23.2.2.2.2.2.2.2.2.2.2.2.2.2.2.2.1, q23.2.2.2.2.2.2.2.2.2.2.2.2.2.2.2.2)) := hD
            refine lv_iload_n hx hb dX11_house_268 rfl (lv_at hl 0 rfl) ?_
            cases Option.some.inj hf
            subst hQe
            exact ew_i (wf := (fun q : MD => wMD E a0 q)) hx hb hr hlocks hP hD hS dX11_house_269
          · have hf := it_f hf c24
            refine lv_aload_n hx hb dX11_house_233 rfl (lv_at hl 1 rfl) ?_
            refine lv_aload_n hx hb dX11_house_234 rfl (lv_at hl 1 rfl) ?_
            refine va_get (D := E.1) (ci := 9) (v := .int q23.2.2.2.2.2.2.2.2.2.2.2.2.1) (C := RX11) (T := TX11) (N := 17) hx hb hts w2 hown hC.1 hP 0 rfl rfl 12 (by decide) w4 (fun _ h9 => h9) rfl dX11_house_235 ?_
            refine va_put (D := E.1) (ci := 9) (v := .int q23.2.2.2.2.2.2.2.2.2.2.2.2.1) (ty := .int) (C := RX11) (T := TX11) (N := 17) hx hb hts w2 tyX11 tyX11_ok nmX11 hown hC.1 hP hD hS 0 rfl rfl 14 (by decide) w9 (fun _ h9 => h9) rfl (by decide +kernel) rfl rfl (Nat.le_of_ble_eq_true rfl) dX11_house_238 (fun H locs hP hD hS => ?_)
            have hP : va_P E.1 vwCl (wMD E a0 (q23.1, q23.2.1, q23.2.2.1, q23.2.2.2.1, q23.2.2.2.2.1, q23.2.2.2.2.2.1, q23.2.2.2.2.2.2.1, (0 : Int32), q23.2.2.2.2.2.2.2.2.1, q23.2.2.2.2.2.2.2.2.2.1, q23.2.2.2.2.2.2.2.2.2.2.1, q23.2.2.2.2.2.2.2.2.2.2.2.1, q23.2.2.2.2.2.2.2.2.2.2.2.2.1, q23.2.2.2.2.2.2.2.2.2.2.2.2.2.1, q23.2.2.2.2.2.2.2.2.2.2.2.2.1, q23.2.2.2.2.2.2.2.2.2.2.2.2.2.2.2.1, q23.2.2.2.2.2.2.2.2.2.2.2.2.2.2.2.2)) H := hP
            have hD : va_D A (wMD E a0 (q23.1, q23.2.1, q23.2.2.1, q23.2.2.2.1, q23.2.2.2.2.1, q23.2.2.2.2.2.1, q23.2.2.2.2.2.2.1, (0 : Int32), q23.2.2.2.2.2.2.2.2.1, q23.2.2.2.2.2.2.2.2.2.1, q23.2.2.2.2.2.2.2.2.2.2.1, q23.2.2.2.2.2.2.2.2.2.2.2.1, q23.2.2.2.2.2.2.2.2.2.2.2.2.1, q23.2.2.2.2.2.2.2.2.2.2.2.2.2.1, q23.2.2.2.2.2.2.2.2.2.2.2.2.1, q23.2.2.2.2.2.2.2.2.2.2.2.2.2.2.2.1, q23.2.2.2.2.2.2.2.2.2.2.2.2.2.2.2.2)) := hD
            refine lv_ldcw hx hb hown w10 dX11_house_241 ?_
            refine lv_aload_n hx hb dX11_house_244 rfl (lv_at hl 1 rfl) ?_
            refine va_get (D := E.1) (ci := 9) (v := .int q23.2.2.2.2.2.2.2.2.2.2.2.2.2.1) (C := RX11) (T := TX11) (N := 17) hx hb hts w2 hown hC.1 hP 0 rfl rfl 13 (by decide) w11 (fun _ h9 => h9) rfl dX11_house_245 ?_
            refine lv_isub hx hb dX11_house_248 ?_
            cases Option.some.inj hf
            subst hQe
            exact ew_i (wf := (fun q : MD => wMD E a0 q)) hx hb hr hlocks hP hD hS dX11_house_249
        have hf := e23
        refine lv_if_eq (tgt := 221) hx hb dX11_house_213 rfl (fun c26 => ?_) (fun c26 => ?_)
        · have hf := it_t hf c26
          cases Option.some.inj hf
          exact J23 H locs hP hD hS
        · have hf := it_f hf c26
          refine lv_aload_n hx hb dX11_house_216 rfl (lv_at hl 1 rfl) ?_
          refine lv_iconst (v := 1) hx hb dX11_house_217 rfl ?_
          obtain ⟨r27, e27, hf⟩ := bd_some hf
          refine cq_v hP hD hS [0, 1, 2, 3, 4, 5, 6, 7] [] [0, 1, 2, 3, 4, 5, 6, 7] (va_free (wc := (wMD E a0 r22.2)) hD hS hA [0, 1, 2, 3, 4, 5, 6, 7] rfl) (va_runV (As := [.int (1 : Int32)]) (rest := []) ⟨hx, hb, hml, hown, hts⟩ (c_X11_bad l E H.size a0 r22.2 (1 : Int32) r27 e27) (cwV 1 hts gX11_house_X11_bad rfl rfl rfl hdV_X11_bad ⟨Nat.le_of_ble_eq_true rfl, Nat.le_of_ble_eq_true rfl⟩) ⟨PW.blind, va_recv hC.1 hP (ci := 9) (q0 := 0) rfl rfl, PW.pre hC hS hP hD (va_free hD hS hA [0, 1, 2, 3, 4, 5, 6, 7] rfl)⟩ rfl rfl hl.1 rfl (lv_room (Nat.le_of_ble_eq_true rfl)) dX11_house_218 ⟨Nat.le_of_ble_eq_true rfl, Nat.le_of_ble_eq_true rfl⟩) rfl rfl rfl rfl (wMD E a0 r27) rfl rfl (fun H locs hP hD hS => ?_)
          cases Option.some.inj hf
          exact J23 H locs hP hD hS
      have L20 : ∀ (n : Nat) (q20 : Int32 × MD) (H : Heap) (locs : List Loc) (hP : va_P E.1 vwCl (wMD E a0 q20.2) H) (hD : va_D A (wMD E a0 q20.2)) (hS : va_S A s.heap H locs) (ls : Array Slot) (hl : lv_has ls 2 [(0, .ref (a0 0)), (1, .int q20.1)]) (hf : lpF (bX11_house_20 K20) n q20 = some x), W p l e (headSpec wsX11_house rmX11_house).room s m args below meth c H locs 0 0 Q (F0 m 154 ls []) := by
        intro n
        induction n with
        | zero => intro q20 H locs hP hD hS ls hl hf; exact (lpF_zero hf).elim
        | succ n ih20 =>
          intro q20 H locs hP hD hS ls hl hf
          have hf := lpF_succ hf
          unfold bX11_house_20 at hf
          refine lv_iload_n hx hb dX11_house_154 rfl (lv_at hl 1 rfl) ?_
          refine lv_i2l hx hb dX11_house_155 rfl ?_
          refine lv_aload_n hx hb dX11_house_156 rfl (lv_at hl 0 rfl) ?_
          refine va_get (D := E.1) (ci := 9) (v := .ref (a0 2)) (C := RX11) (T := TX11) (N := 17) hx hb hts w2 hown hC.1 hP 0 rfl rfl 1 (by decide) w1 (fun _ h9 => h9) rfl dX11_house_157 ?_
          refine lv_iconst (v := 0) hx hb dX11_house_160 rfl ?_
          obtain ⟨h28, hf⟩ := gdI_some hf
          refine va_lald hx hb hC.1 hP 2 1 rfl rfl h28 dX11_house_161 ?_
          refine W.lcmp hx hb dX11_house_162 ?_
          refine lv_if_ge (tgt := 200) hx hb dX11_house_163 rfl (fun c29 => ?_) (fun c29 => ?_)
          · have hf := it_t hf c29
            exact J20 (q20.1, q20.2) H locs hP hD hS ls (lv_sub hl [0] rfl) hf
          · have hf := it_f hf c29
            refine lv_aload_n hx hb dX11_house_166 rfl (lv_at hl 0 rfl) ?_
            refine va_get (D := E.1) (ci := 9) (v := .ref (a0 2)) (C := RX11) (T := TX11) (N := 17) hx hb hts w2 hown hC.1 hP 0 rfl rfl 1 (by decide) w1 (fun _ h9 => h9) rfl dX11_house_167 ?_
            refine lv_bipush (v := 7) hx hb dX11_house_170 rfl ?_
            refine lv_iconst (v := 3) hx hb dX11_house_172 rfl ?_
            refine lv_iload_n hx hb dX11_house_173 rfl (lv_at hl 1 rfl) ?_
            refine lv_imul hx hb dX11_house_174 ?_
            refine lv_iadd hx hb dX11_house_175 ?_
            refine lv_iconst (v := 0) hx hb dX11_house_176 rfl ?_
            refine lv_iadd hx hb dX11_house_177 ?_
            refine lv_lconst (v := 1) hx hb dX11_house_178 rfl ?_
            obtain ⟨h30, hf⟩ := gdI_some hf
            refine va_last hx hb hC.1 hP hD hS 2 1 rfl rfl h30 dX11_house_179 (fun H locs hP hD hS => ?_)
            have hP : va_P E.1 vwCl (wMD E a0 (q20.2.1, (vp_updL q20.2.2.1 (((7 : Int32) + ((3 : Int32) * q20.1)) + (0 : Int32)).toNatClampNeg (1 : Int64)), q20.2.2.2.1, q20.2.2.2.2.1, q20.2.2.2.2.2.1, q20.2.2.2.2.2.2.1, q20.2.2.2.2.2.2.2.1, q20.2.2.2.2.2.2.2.2.1, q20.2.2.2.2.2.2.2.2.2.1, q20.2.2.2.2.2.2.2.2.2.2.1, q20.2.2.2.2.2.2.2.2.2.2.2.1, q20.2.2.2.2.2.2.2.2.2.2.2.2.1, q20.2.2.2.2.2.2.2.2.2.2.2.2.2.1, q20.2.2.2.2.2.2.2.2.2.2.2.2.2.2.1, q20.2.2.2.2.2.2.2.2.2.2.2.2.2.2.2.1, q20.2.2.2.2.2.2.2.2.2.2.2.2.2.2.2.2.1, q20.2.2.2.2.2.2.2.2.2.2.2.2.2.2.2.2.2)) H := hP
            have hD : va_D A (wMD E a0 (q20.2.1, (vp_updL q20.2.2.1 (((7 : Int32) + ((3 : Int32) * q20.1)) + (0 : Int32)).toNatClampNeg (1 : Int64)), q20.2.2.2.1, q20.2.2.2.2.1, q20.2.2.2.2.2.1, q20.2.2.2.2.2.2.1, q20.2.2.2.2.2.2.2.1, q20.2.2.2.2.2.2.2.2.1, q20.2.2.2.2.2.2.2.2.2.1, q20.2.2.2.2.2.2.2.2.2.2.1, q20.2.2.2.2.2.2.2.2.2.2.2.1, q20.2.2.2.2.2.2.2.2.2.2.2.2.1, q20.2.2.2.2.2.2.2.2.2.2.2.2.2.1, q20.2.2.2.2.2.2.2.2.2.2.2.2.2.2.1, q20.2.2.2.2.2.2.2.2.2.2.2.2.2.2.2.1, q20.2.2.2.2.2.2.2.2.2.2.2.2.2.2.2.2.1, q20.2.2.2.2.2.2.2.2.2.2.2.2.2.2.2.2.2)) := hD
            refine lv_aload_n hx hb dX11_house_180 rfl (lv_at hl 0 rfl) ?_
            refine va_get (D := E.1) (ci := 9) (v := .ref (a0 2)) (C := RX11) (T := TX11) (N := 17) hx hb hts w2 hown hC.1 hP 0 rfl rfl 1 (by decide) w1 (fun _ h9 => h9) rfl dX11_house_181 ?_
            refine lv_bipush (v := 7) hx hb dX11_house_184 rfl ?_
            refine lv_iconst (v := 3) hx hb dX11_house_186 rfl ?_
            refine lv_iload_n hx hb dX11_house_187 rfl (lv_at hl 1 rfl) ?_
            refine lv_imul hx hb dX11_house_188 ?_
            refine lv_iadd hx hb dX11_house_189 ?_
            refine lv_iconst (v := 1) hx hb dX11_house_190 rfl ?_
            refine lv_iadd hx hb dX11_house_191 ?_
            refine lv_lconst (v := 1) hx hb dX11_house_192 rfl ?_
            obtain ⟨h31, hf⟩ := gdI_some hf
            refine va_last hx hb hC.1 hP hD hS 2 1 rfl rfl h31 dX11_house_193 (fun H locs hP hD hS => ?_)
            have hP : va_P E.1 vwCl (wMD E a0 (q20.2.1, (vp_updL (vp_updL q20.2.2.1 (((7 : Int32) + ((3 : Int32) * q20.1)) + (0 : Int32)).toNatClampNeg (1 : Int64)) (((7 : Int32) + ((3 : Int32) * q20.1)) + (1 : Int32)).toNatClampNeg (1 : Int64)), q20.2.2.2.1, q20.2.2.2.2.1, q20.2.2.2.2.2.1, q20.2.2.2.2.2.2.1, q20.2.2.2.2.2.2.2.1, q20.2.2.2.2.2.2.2.2.1, q20.2.2.2.2.2.2.2.2.2.1, q20.2.2.2.2.2.2.2.2.2.2.1, q20.2.2.2.2.2.2.2.2.2.2.2.1, q20.2.2.2.2.2.2.2.2.2.2.2.2.1, q20.2.2.2.2.2.2.2.2.2.2.2.2.2.1, q20.2.2.2.2.2.2.2.2.2.2.2.2.2.2.1, q20.2.2.2.2.2.2.2.2.2.2.2.2.2.2.2.1, q20.2.2.2.2.2.2.2.2.2.2.2.2.2.2.2.2.1, q20.2.2.2.2.2.2.2.2.2.2.2.2.2.2.2.2.2)) H := hP
            have hD : va_D A (wMD E a0 (q20.2.1, (vp_updL (vp_updL q20.2.2.1 (((7 : Int32) + ((3 : Int32) * q20.1)) + (0 : Int32)).toNatClampNeg (1 : Int64)) (((7 : Int32) + ((3 : Int32) * q20.1)) + (1 : Int32)).toNatClampNeg (1 : Int64)), q20.2.2.2.1, q20.2.2.2.2.1, q20.2.2.2.2.2.1, q20.2.2.2.2.2.2.1, q20.2.2.2.2.2.2.2.1, q20.2.2.2.2.2.2.2.2.1, q20.2.2.2.2.2.2.2.2.2.1, q20.2.2.2.2.2.2.2.2.2.2.1, q20.2.2.2.2.2.2.2.2.2.2.2.1, q20.2.2.2.2.2.2.2.2.2.2.2.2.1, q20.2.2.2.2.2.2.2.2.2.2.2.2.2.1, q20.2.2.2.2.2.2.2.2.2.2.2.2.2.2.1, q20.2.2.2.2.2.2.2.2.2.2.2.2.2.2.2.1, q20.2.2.2.2.2.2.2.2.2.2.2.2.2.2.2.2.1, q20.2.2.2.2.2.2.2.2.2.2.2.2.2.2.2.2.2)) := hD
            refine lv_iinc (v := (q20.1 + 1)) (lv' := [(1, .int (q20.1 + 1)), (0, .ref (a0 0))]) hx hb dX11_house_194 hl (k := 1) rfl rfl (by decide) rfl (fun ls hl => ?_)
            refine lv_goto (tgt := 154) hx hb dX11_house_197 rfl ?_
            exact ih20 ((q20.1 + 1), (q20.2.1, (vp_updL (vp_updL q20.2.2.1 (((7 : Int32) + ((3 : Int32) * q20.1)) + (0 : Int32)).toNatClampNeg (1 : Int64)) (((7 : Int32) + ((3 : Int32) * q20.1)) + (1 : Int32)).toNatClampNeg (1 : Int64)), q20.2.2.2.1, q20.2.2.2.2.1, q20.2.2.2.2.2.1, q20.2.2.2.2.2.2.1, q20.2.2.2.2.2.2.2.1, q20.2.2.2.2.2.2.2.2.1, q20.2.2.2.2.2.2.2.2.2.1, q20.2.2.2.2.2.2.2.2.2.2.1, q20.2.2.2.2.2.2.2.2.2.2.2.1, q20.2.2.2.2.2.2.2.2.2.2.2.2.1, q20.2.2.2.2.2.2.2.2.2.2.2.2.2.1, q20.2.2.2.2.2.2.2.2.2.2.2.2.2.2.1, q20.2.2.2.2.2.2.2.2.2.2.2.2.2.2.2.1, q20.2.2.2.2.2.2.2.2.2.2.2.2.2.2.2.2.1, q20.2.2.2.2.2.2.2.2.2.2.2.2.2.2.2.2.2)) H locs hP hD hS ls (lv_sub hl [1, 0] rfl) hf
      exact L20 FU ((0 : Int32), r19) H locs hP hD hS ls (lv_sub hl [1, 0] rfl) hf
    have hf := e3
    refine lv_if_ne (tgt := 50) hx hb dX11_house_42 rfl (fun c32 => ?_) (fun c32 => ?_)
    · have hf := it_f hf c32
      cases Option.some.inj hf
      exact J3 H locs hP hD hS
    · have hf := it_t hf c32
      refine lv_aload_n hx hb dX11_house_45 rfl (lv_at hl 0 rfl) ?_
      refine lv_iconst (v := 1) hx hb dX11_house_46 rfl ?_
      obtain ⟨r33, e33, hf⟩ := bd_some hf
      refine cq_v hP hD hS [0, 1, 2, 3, 4, 5, 6, 7] [] [0, 1, 2, 3, 4, 5, 6, 7] (va_free (wc := (wMD E a0 r2)) hD hS hA [0, 1, 2, 3, 4, 5, 6, 7] rfl) (va_runV (As := [.int (1 : Int32)]) (rest := []) ⟨hx, hb, hml, hown, hts⟩ (c_X11_bad l E H.size a0 r2 (1 : Int32) r33 e33) (cwV 1 hts gX11_house_X11_bad rfl rfl rfl hdV_X11_bad ⟨Nat.le_of_ble_eq_true rfl, Nat.le_of_ble_eq_true rfl⟩) ⟨PW.blind, va_recv hC.1 hP (ci := 9) (q0 := 0) rfl rfl, PW.pre hC hS hP hD (va_free hD hS hA [0, 1, 2, 3, 4, 5, 6, 7] rfl)⟩ rfl rfl hl.1 rfl (lv_room (Nat.le_of_ble_eq_true rfl)) dX11_house_47 ⟨Nat.le_of_ble_eq_true rfl, Nat.le_of_ble_eq_true rfl⟩) rfl rfl rfl rfl (wMD E a0 r33) rfl rfl (fun H locs hP hD hS => ?_)
      cases Option.some.inj hf
      exact J3 H locs hP hD hS
  have L1 : ∀ (n : Nat) (q1 : Int32 × MD) (H : Heap) (locs : List Loc) (hP : va_P E.1 vwCl (wMD E a0 q1.2) H) (hD : va_D A (wMD E a0 q1.2)) (hS : va_S A s.heap H locs) (ls : Array Slot) (hl : lv_has ls 2 [(0, .ref (a0 0)), (1, .int q1.1)]) (hf : lpF (bX11_house_1 K1) n q1 = some x), W p l e (headSpec wsX11_house rmX11_house).room s m args below meth c H locs 0 0 Q (F0 m 2 ls []) := by
    intro n
    induction n with
    | zero => intro q1 H locs hP hD hS ls hl hf; exact (lpF_zero hf).elim
    | succ n ih1 =>
      intro q1 H locs hP hD hS ls hl hf
      have hf := lpF_succ hf
      unfold bX11_house_1 at hf
      refine lv_iload_n hx hb dX11_house_2 rfl (lv_at hl 1 rfl) ?_
      refine lv_sipush (v := 340) hx hb dX11_house_3 rfl ?_
      refine lv_icmp_ge (tgt := 22) hx hb dX11_house_6 rfl (fun c34 => ?_) (fun c34 => ?_)
      · have hf := it_t hf c34
        exact J1 (q1.1, q1.2) H locs hP hD hS ls (lv_sub hl [0] rfl) hf
      · have hf := it_f hf c34
        refine lv_aload_n hx hb dX11_house_9 rfl (lv_at hl 0 rfl) ?_
        refine va_get (D := E.1) (ci := 9) (v := .ref (a0 2)) (C := RX11) (T := TX11) (N := 17) hx hb hts w2 hown hC.1 hP 0 rfl rfl 1 (by decide) w1 (fun _ h9 => h9) rfl dX11_house_10 ?_
        refine lv_iload_n hx hb dX11_house_13 rfl (lv_at hl 1 rfl) ?_
        refine lv_lconst (v := 0) hx hb dX11_house_14 rfl ?_
        obtain ⟨h35, hf⟩ := gdI_some hf
        refine va_last hx hb hC.1 hP hD hS 2 1 rfl rfl h35 dX11_house_15 (fun H locs hP hD hS => ?_)
        have hP : va_P E.1 vwCl (wMD E a0 (q1.2.1, (vp_updL q1.2.2.1 q1.1.toNatClampNeg (0 : Int64)), q1.2.2.2.1, q1.2.2.2.2.1, q1.2.2.2.2.2.1, q1.2.2.2.2.2.2.1, q1.2.2.2.2.2.2.2.1, q1.2.2.2.2.2.2.2.2.1, q1.2.2.2.2.2.2.2.2.2.1, q1.2.2.2.2.2.2.2.2.2.2.1, q1.2.2.2.2.2.2.2.2.2.2.2.1, q1.2.2.2.2.2.2.2.2.2.2.2.2.1, q1.2.2.2.2.2.2.2.2.2.2.2.2.2.1, q1.2.2.2.2.2.2.2.2.2.2.2.2.2.2.1, q1.2.2.2.2.2.2.2.2.2.2.2.2.2.2.2.1, q1.2.2.2.2.2.2.2.2.2.2.2.2.2.2.2.2.1, q1.2.2.2.2.2.2.2.2.2.2.2.2.2.2.2.2.2)) H := hP
        have hD : va_D A (wMD E a0 (q1.2.1, (vp_updL q1.2.2.1 q1.1.toNatClampNeg (0 : Int64)), q1.2.2.2.1, q1.2.2.2.2.1, q1.2.2.2.2.2.1, q1.2.2.2.2.2.2.1, q1.2.2.2.2.2.2.2.1, q1.2.2.2.2.2.2.2.2.1, q1.2.2.2.2.2.2.2.2.2.1, q1.2.2.2.2.2.2.2.2.2.2.1, q1.2.2.2.2.2.2.2.2.2.2.2.1, q1.2.2.2.2.2.2.2.2.2.2.2.2.1, q1.2.2.2.2.2.2.2.2.2.2.2.2.2.1, q1.2.2.2.2.2.2.2.2.2.2.2.2.2.2.1, q1.2.2.2.2.2.2.2.2.2.2.2.2.2.2.2.1, q1.2.2.2.2.2.2.2.2.2.2.2.2.2.2.2.2.1, q1.2.2.2.2.2.2.2.2.2.2.2.2.2.2.2.2.2)) := hD
        refine lv_iinc (v := (q1.1 + 1)) (lv' := [(1, .int (q1.1 + 1)), (0, .ref (a0 0))]) hx hb dX11_house_16 hl (k := 1) rfl rfl (by decide) rfl (fun ls hl => ?_)
        refine lv_goto (tgt := 2) hx hb dX11_house_19 rfl ?_
        exact ih1 ((q1.1 + 1), (q1.2.1, (vp_updL q1.2.2.1 q1.1.toNatClampNeg (0 : Int64)), q1.2.2.2.1, q1.2.2.2.2.1, q1.2.2.2.2.2.1, q1.2.2.2.2.2.2.1, q1.2.2.2.2.2.2.2.1, q1.2.2.2.2.2.2.2.2.1, q1.2.2.2.2.2.2.2.2.2.1, q1.2.2.2.2.2.2.2.2.2.2.1, q1.2.2.2.2.2.2.2.2.2.2.2.1, q1.2.2.2.2.2.2.2.2.2.2.2.2.1, q1.2.2.2.2.2.2.2.2.2.2.2.2.2.1, q1.2.2.2.2.2.2.2.2.2.2.2.2.2.2.1, q1.2.2.2.2.2.2.2.2.2.2.2.2.2.2.2.1, q1.2.2.2.2.2.2.2.2.2.2.2.2.2.2.2.2.1, q1.2.2.2.2.2.2.2.2.2.2.2.2.2.2.2.2.2)) H locs hP hD hS ls (lv_sub hl [1, 0] rfl) hf
  exact L1 FU ((0 : Int32), v0) s.heap [] hP hD hS ls (lv_sub hl [1, 0] rfl) hf

/-! X11_fault -/
abbrev rmX11_fault : Room := { frames := 0, cells := 0, slots := 0, locals := 0 }
theorem hdS_X11_fault : yX11_fault.cls ≠ "java/lang/invoke/MethodHandle" ∧ yX11_fault.cls ≠ "java/lang/invoke/VarHandle" ∧ (parseMethodDescriptor yX11_fault.desc).map (fun d => d.parameters.length) = some 0 := by decide +kernel
theorem hdV_X11_fault : yX11_fault.cls = RX11 ∧ yX11_fault.cls ≠ "java/lang/invoke/MethodHandle" ∧ yX11_fault.cls ≠ "java/lang/invoke/VarHandle" ∧ (parseMethodDescriptor yX11_fault.desc).map (fun d => d.parameters.length) = some 0 := ⟨rfl, hdS_X11_fault⟩
set_option maxHeartbeats 4000000 in
set_option maxRecDepth 100000 in
theorem c_X11_fault (l : Launch) (E : G0) (a0 : Nat → Nat) (v0 : MD) (x : Int32) (hf : f_X11_fault v0 = x) : Met l yX11_fault wsX11_fault rmX11_fault (va_Pc [.ref (a0 0)] (PR E (wMD E a0 v0))) (vp_Si (fun r => r = x)) 0 0 (fun _ => False) := by
  refine Met.ofW (cc := cX11_fault) (maxL := 1) (ret := some .int) (by decide) rfl ?_
  intro p e s m args below meth c s₁ B hml hv
  obtain ⟨ha, hP, hC⟩ := hv
  have hx := B.exec
  have hb := B.bytes
  have hr := B.returns
  have hts := atoms_spec (ws := wsX11_fault) B.pre
  have hown : s.vm.findClass RX11 = some m.cls := findClass_of_methodNamed B.named
  have hlocks := B.notSynchronized
  have hS : va_S (fun _ => False) s.heap s.heap [] := va_S.rf
  have w1 : (Cond.fieldLink RX11 254 "GreatChunksModel" "latest" "I").before args s = true := hts _ (List.mem_of_getElem? (i := 1) rfl)
  have w2 : ∀ w ∈ wsX110, w ∈ wsX11_fault := in_pl 2 rfl
  generalize hQe : MQ below (vp_Si (fun r => r = x)) args s 0 0 (fun _ => False) = Q
  refine st_W ha (Nat.le_of_ble_eq_true rfl) (fun ls hl => ?_)
  have hl : lv_has ls 1 [(0, .ref (a0 0))] := hl
  unfold f_X11_fault at hf
  refine lv_aload_n hx hb dX11_fault_0 rfl (lv_at hl 0 rfl) ?_
  refine va_get (D := E.1) (ci := 9) (v := .int v0.2.2.2.2.2.2.2.2.2.2.2.2.2.2.1) (C := RX11) (T := TX11) (N := 17) hx hb hts w2 hown hC.1 hP 0 rfl rfl 14 (by decide) w1 (fun _ h9 => h9) rfl dX11_fault_1 ?_
  subst hf
  subst hQe
  exact en_i hx hb hr hlocks dX11_fault_4

/-! X11_notes -/
abbrev rmX11_notes : Room := { frames := 1, cells := 0, slots := 0, locals := 24 }
theorem hdS_X11_notes : yX11_notes.cls ≠ "java/lang/invoke/MethodHandle" ∧ yX11_notes.cls ≠ "java/lang/invoke/VarHandle" ∧ (parseMethodDescriptor yX11_notes.desc).map (fun d => d.parameters.length) = some 0 := by decide +kernel
theorem hdV_X11_notes : yX11_notes.cls = RX11 ∧ yX11_notes.cls ≠ "java/lang/invoke/MethodHandle" ∧ yX11_notes.cls ≠ "java/lang/invoke/VarHandle" ∧ (parseMethodDescriptor yX11_notes.desc).map (fun d => d.parameters.length) = some 0 := ⟨rfl, hdS_X11_notes⟩
set_option maxHeartbeats 4000000 in
set_option maxRecDepth 100000 in
theorem c_X11_notes (l : Launch) (E : G0) (sz : Nat) (a0 : Nat → Nat) (v0 : MD) (x : MD) (hf : f_X11_notes v0 = some x) : Met l yX11_notes wsX11_notes rmX11_notes (va_Pc [.ref (a0 0)] (PW E (wMD E a0 v0) sz)) (va_Qv (fun q => q = x) (fun q t => va_P E.1 vwCl ((fun q : MD => wMD E a0 q) q) t.heap ∧ va_D (va_A (wMD E a0 v0) sz) ((fun q : MD => wMD E a0 q) q)) (va_A (wMD E a0 v0) sz)) 0 0 (va_A (wMD E a0 v0) sz) := by
  refine Met.ofW (cc := cX11_notes) (maxL := 2) (ret := none) (by decide) rfl ?_
  intro p e s m args below meth c s₁ B hml hv
  obtain ⟨ha, hsz, hP, hD0, hC⟩ := hv
  have hx := B.exec
  have hb := B.bytes
  have hr := B.returns
  have hts := atoms_spec (ws := wsX11_notes) B.pre
  have hown : s.vm.findClass RX11 = some m.cls := findClass_of_methodNamed B.named
  have hlocks := B.notSynchronized
  subst hsz
  have hD := hD0.self (sz := s.heap.size)
  generalize hAe : va_A (wMD E a0 v0) s.heap.size = A at hD hC ⊢
  have hA : ∀ q : Nat, s.heap.size ≤ q → A q := fun q h => by rw [← hAe]; exact Or.inr h
  have hS : va_S A s.heap s.heap [] := va_S.rf
  have w1 : (Cond.fieldLink RX11 258 "GreatChunksModel" "acts" "I").before args s = true := hts _ (List.mem_of_getElem? (i := 1) rfl)
  have w2 : ∀ w ∈ wsX110, w ∈ wsX11_notes := in_pl 8 rfl
  have w3 : (Cond.fieldLink RX11 16 "GreatChunksModel" "past" "[J").before args s = true := hts _ (List.mem_of_getElem? (i := 2) rfl)
  have w4 : (Cond.fieldLink RX11 7 "GreatChunksModel" "now" "[J").before args s = true := hts _ (List.mem_of_getElem? (i := 3) rfl)
  generalize hQe : MQ below (va_Qv (fun q => q = x) (fun q t => va_P E.1 vwCl ((fun q : MD => wMD E a0 q) q) t.heap ∧ va_D A ((fun q : MD => wMD E a0 q) q)) A) args s 0 0 A = Q
  refine st_W ha (Nat.le_of_ble_eq_true rfl) (fun ls hl => ?_)
  have hl : lv_has ls 2 [(0, .ref (a0 0))] := hl
  unfold f_X11_notes at hf
  refine lv_aload_n hx hb dX11_notes_0 rfl (lv_at hl 0 rfl) ?_
  refine va_get (D := E.1) (ci := 9) (v := .int v0.2.2.2.1) (C := RX11) (T := TX11) (N := 17) hx hb hts w2 hown hC.1 hP 0 rfl rfl 3 (by decide) w1 (fun _ h9 => h9) rfl dX11_notes_1 ?_
  refine lv_bipush (v := 6) hx hb dX11_notes_4 rfl ?_
  obtain ⟨q1, e1, hf⟩ := bd_some hf
  have J1 : ∀ (H : Heap) (locs : List Loc) (hP : va_P E.1 vwCl (wMD E a0 q1) H) (hD : va_D A (wMD E a0 q1)) (hS : va_S A s.heap H locs) (ls : Array Slot) (hl : lv_has ls 2 [(0, .ref (a0 0))]), W p l e (headSpec wsX11_notes rmX11_notes).room s m args below meth c H locs 0 0 Q (F0 m 50 ls []) := by
    intro H locs hP hD hS ls hl
    refine lv_aload_n hx hb dX11_notes_50 rfl (lv_at hl 0 rfl) ?_
    refine va_get (D := E.1) (ci := 9) (v := .ref (a0 1)) (C := RX11) (T := TX11) (N := 17) hx hb hts w2 hown hC.1 hP 0 rfl rfl 0 (by decide) w4 (fun _ h9 => h9) rfl dX11_notes_51 ?_
    refine lv_iconst (v := 0) hx hb dX11_notes_54 rfl ?_
    refine lv_aload_n hx hb dX11_notes_55 rfl (lv_at hl 0 rfl) ?_
    refine va_get (D := E.1) (ci := 9) (v := .ref (a0 3)) (C := RX11) (T := TX11) (N := 17) hx hb hts w2 hown hC.1 hP 0 rfl rfl 2 (by decide) w3 (fun _ h9 => h9) rfl dX11_notes_56 ?_
    refine lv_sipush (v := 340) hx hb dX11_notes_59 rfl ?_
    refine lv_aload_n hx hb dX11_notes_62 rfl (lv_at hl 0 rfl) ?_
    refine va_get (D := E.1) (ci := 9) (v := .int q1.2.2.2.1) (C := RX11) (T := TX11) (N := 17) hx hb hts w2 hown hC.1 hP 0 rfl rfl 3 (by decide) w1 (fun _ h9 => h9) rfl dX11_notes_63 ?_
    refine lv_imul hx hb dX11_notes_66 ?_
    obtain ⟨r2, e2, hf⟩ := bd_some hf
    refine cq_v hP hD hS [1, 3] [0, 2, 4, 5, 6, 7] [0, 6, 1, 7, 2, 3, 4, 5] (va_free (wc := (wLA E (a0 1) 340 q1.1 ++ wLA E (a0 3) 2040 q1.2.2.1)) hD hS hA [1, 3] rfl) (va_runS (As := [.ref (a0 1), .int (0 : Int32), .ref (a0 3), .int ((340 : Int32) * q1.2.2.2.1)]) (rest := []) ⟨hx, hb, hml, hown, hts⟩ (c_X11_copies l E H.size (a0 1) 340 q1.1 (0 : Int32) (a0 3) 2040 q1.2.2.1 ((340 : Int32) * q1.2.2.2.1) r2 e2) (va_cwS 4 hts gX11_notes_X11_copies rfl rfl rfl hdS_X11_copies ⟨Nat.le_of_ble_eq_true rfl, Nat.le_of_ble_eq_true rfl⟩) ⟨PW.blind, PW.pre hC hS (hP.sub [1, 3] rfl) (hD.sub [1, 3] rfl rfl) (va_free hD hS hA [1, 3] rfl)⟩ rfl rfl hl.1 rfl (lv_room (Nat.le_of_ble_eq_true rfl)) dX11_notes_67 ⟨Nat.le_of_ble_eq_true rfl, Nat.le_of_ble_eq_true rfl⟩) rfl rfl rfl rfl (wMD E a0 (q1.1, q1.2.1, r2, q1.2.2.2.1, q1.2.2.2.2.1, q1.2.2.2.2.2.1, q1.2.2.2.2.2.2.1, q1.2.2.2.2.2.2.2.1, q1.2.2.2.2.2.2.2.2.1, q1.2.2.2.2.2.2.2.2.2.1, q1.2.2.2.2.2.2.2.2.2.2.1, q1.2.2.2.2.2.2.2.2.2.2.2.1, q1.2.2.2.2.2.2.2.2.2.2.2.2.1, q1.2.2.2.2.2.2.2.2.2.2.2.2.2.1, q1.2.2.2.2.2.2.2.2.2.2.2.2.2.2.1, q1.2.2.2.2.2.2.2.2.2.2.2.2.2.2.2.1, q1.2.2.2.2.2.2.2.2.2.2.2.2.2.2.2.2)) rfl rfl (fun H locs hP hD hS => ?_)
    refine lv_aload_n hx hb dX11_notes_70 rfl (lv_at hl 0 rfl) ?_
    refine lv_dup hx hb dX11_notes_71 rfl ?_
    refine va_get (D := E.1) (ci := 9) (v := .int q1.2.2.2.1) (C := RX11) (T := TX11) (N := 17) hx hb hts w2 hown hC.1 hP 0 rfl rfl 3 (by decide) w1 (fun _ h9 => h9) rfl dX11_notes_72 ?_
    refine lv_iconst (v := 1) hx hb dX11_notes_75 rfl ?_
    refine lv_iadd hx hb dX11_notes_76 ?_
    refine va_put (D := E.1) (ci := 9) (v := .int (q1.2.2.2.1 + (1 : Int32))) (ty := .int) (C := RX11) (T := TX11) (N := 17) hx hb hts w2 tyX11 tyX11_ok nmX11 hown hC.1 hP hD hS 0 rfl rfl 3 (by decide) w1 (fun _ h9 => h9) rfl (by decide +kernel) rfl rfl (Nat.le_of_ble_eq_true rfl) dX11_notes_77 (fun H locs hP hD hS => ?_)
    have hP : va_P E.1 vwCl (wMD E a0 (q1.1, q1.2.1, r2, (q1.2.2.2.1 + (1 : Int32)), q1.2.2.2.2.1, q1.2.2.2.2.2.1, q1.2.2.2.2.2.2.1, q1.2.2.2.2.2.2.2.1, q1.2.2.2.2.2.2.2.2.1, q1.2.2.2.2.2.2.2.2.2.1, q1.2.2.2.2.2.2.2.2.2.2.1, q1.2.2.2.2.2.2.2.2.2.2.2.1, q1.2.2.2.2.2.2.2.2.2.2.2.2.1, q1.2.2.2.2.2.2.2.2.2.2.2.2.2.1, q1.2.2.2.2.2.2.2.2.2.2.2.2.2.2.1, q1.2.2.2.2.2.2.2.2.2.2.2.2.2.2.2.1, q1.2.2.2.2.2.2.2.2.2.2.2.2.2.2.2.2)) H := hP
    have hD : va_D A (wMD E a0 (q1.1, q1.2.1, r2, (q1.2.2.2.1 + (1 : Int32)), q1.2.2.2.2.1, q1.2.2.2.2.2.1, q1.2.2.2.2.2.2.1, q1.2.2.2.2.2.2.2.1, q1.2.2.2.2.2.2.2.2.1, q1.2.2.2.2.2.2.2.2.2.1, q1.2.2.2.2.2.2.2.2.2.2.1, q1.2.2.2.2.2.2.2.2.2.2.2.1, q1.2.2.2.2.2.2.2.2.2.2.2.2.1, q1.2.2.2.2.2.2.2.2.2.2.2.2.2.1, q1.2.2.2.2.2.2.2.2.2.2.2.2.2.2.1, q1.2.2.2.2.2.2.2.2.2.2.2.2.2.2.2.1, q1.2.2.2.2.2.2.2.2.2.2.2.2.2.2.2.2)) := hD
    cases Option.some.inj hf
    subst hQe
    exact ew_v (wf := (fun q : MD => wMD E a0 q)) hx hb hr hlocks hP hD hS dX11_notes_80
  have hf := e1
  refine lv_icmp_ne (tgt := 50) hx hb dX11_notes_6 rfl (fun c3 => ?_) (fun c3 => ?_)
  · have hf := it_f hf c3
    cases Option.some.inj hf
    exact J1 s.heap [] hP hD hS ls (lv_sub hl [0] rfl)
  · have hf := it_t hf c3
    refine lv_iconst (v := 0) hx hb dX11_notes_9 rfl ?_
    refine lv_istore_n (lv' := [(1, .int (0 : Int32)), (0, .ref (a0 0))]) hx hb dX11_notes_10 rfl hl (by decide) rfl (fun ls hl => ?_)
    obtain ⟨K4, hK4, hf⟩ := jn_some hf
    have J4 : ∀ (q4 : Int32 × MD) (H : Heap) (locs : List Loc) (hP : va_P E.1 vwCl (wMD E a0 q4.2) H) (hD : va_D A (wMD E a0 q4.2)) (hS : va_S A s.heap H locs) (ls : Array Slot) (hl : lv_has ls 2 [(0, .ref (a0 0))]) (hf : K4 q4 = some q1), W p l e (headSpec wsX11_notes rmX11_notes).room s m args below meth c H locs 0 0 Q (F0 m 40 ls []) := by
      intro q4 H locs hP hD hS ls hl hf
      have hf := (hK4 q4).trans hf
      refine lv_aload_n hx hb dX11_notes_40 rfl (lv_at hl 0 rfl) ?_
      refine lv_dup hx hb dX11_notes_41 rfl ?_
      refine va_get (D := E.1) (ci := 9) (v := .int q4.2.2.2.2.1) (C := RX11) (T := TX11) (N := 17) hx hb hts w2 hown hC.1 hP 0 rfl rfl 3 (by decide) w1 (fun _ h9 => h9) rfl dX11_notes_42 ?_
      refine lv_iconst (v := 1) hx hb dX11_notes_45 rfl ?_
      refine lv_isub hx hb dX11_notes_46 ?_
      refine va_put (D := E.1) (ci := 9) (v := .int (q4.2.2.2.2.1 - (1 : Int32))) (ty := .int) (C := RX11) (T := TX11) (N := 17) hx hb hts w2 tyX11 tyX11_ok nmX11 hown hC.1 hP hD hS 0 rfl rfl 3 (by decide) w1 (fun _ h9 => h9) rfl (by decide +kernel) rfl rfl (Nat.le_of_ble_eq_true rfl) dX11_notes_47 (fun H locs hP hD hS => ?_)
      have hP : va_P E.1 vwCl (wMD E a0 (q4.2.1, q4.2.2.1, q4.2.2.2.1, (q4.2.2.2.2.1 - (1 : Int32)), q4.2.2.2.2.2.1, q4.2.2.2.2.2.2.1, q4.2.2.2.2.2.2.2.1, q4.2.2.2.2.2.2.2.2.1, q4.2.2.2.2.2.2.2.2.2.1, q4.2.2.2.2.2.2.2.2.2.2.1, q4.2.2.2.2.2.2.2.2.2.2.2.1, q4.2.2.2.2.2.2.2.2.2.2.2.2.1, q4.2.2.2.2.2.2.2.2.2.2.2.2.2.1, q4.2.2.2.2.2.2.2.2.2.2.2.2.2.2.1, q4.2.2.2.2.2.2.2.2.2.2.2.2.2.2.2.1, q4.2.2.2.2.2.2.2.2.2.2.2.2.2.2.2.2.1, q4.2.2.2.2.2.2.2.2.2.2.2.2.2.2.2.2.2)) H := hP
      have hD : va_D A (wMD E a0 (q4.2.1, q4.2.2.1, q4.2.2.2.1, (q4.2.2.2.2.1 - (1 : Int32)), q4.2.2.2.2.2.1, q4.2.2.2.2.2.2.1, q4.2.2.2.2.2.2.2.1, q4.2.2.2.2.2.2.2.2.1, q4.2.2.2.2.2.2.2.2.2.1, q4.2.2.2.2.2.2.2.2.2.2.1, q4.2.2.2.2.2.2.2.2.2.2.2.1, q4.2.2.2.2.2.2.2.2.2.2.2.2.1, q4.2.2.2.2.2.2.2.2.2.2.2.2.2.1, q4.2.2.2.2.2.2.2.2.2.2.2.2.2.2.1, q4.2.2.2.2.2.2.2.2.2.2.2.2.2.2.2.1, q4.2.2.2.2.2.2.2.2.2.2.2.2.2.2.2.2.1, q4.2.2.2.2.2.2.2.2.2.2.2.2.2.2.2.2.2)) := hD
      cases Option.some.inj hf
      exact J1 H locs hP hD hS ls (lv_sub hl [0] rfl)
    have L4 : ∀ (n : Nat) (q4 : Int32 × MD) (H : Heap) (locs : List Loc) (hP : va_P E.1 vwCl (wMD E a0 q4.2) H) (hD : va_D A (wMD E a0 q4.2)) (hS : va_S A s.heap H locs) (ls : Array Slot) (hl : lv_has ls 2 [(0, .ref (a0 0)), (1, .int q4.1)]) (hf : lpF (bX11_notes_4 K4) n q4 = some q1), W p l e (headSpec wsX11_notes rmX11_notes).room s m args below meth c H locs 0 0 Q (F0 m 11 ls []) := by
      intro n
      induction n with
      | zero => intro q4 H locs hP hD hS ls hl hf; exact (lpF_zero hf).elim
      | succ n ih4 =>
        intro q4 H locs hP hD hS ls hl hf
        have hf := lpF_succ hf
        unfold bX11_notes_4 at hf
        refine lv_iload_n hx hb dX11_notes_11 rfl (lv_at hl 1 rfl) ?_
        refine lv_sipush (v := 1700) hx hb dX11_notes_12 rfl ?_
        refine lv_icmp_ge (tgt := 40) hx hb dX11_notes_15 rfl (fun c5 => ?_) (fun c5 => ?_)
        · have hf := it_t hf c5
          exact J4 (q4.1, q4.2) H locs hP hD hS ls (lv_sub hl [0] rfl) hf
        · have hf := it_f hf c5
          refine lv_aload_n hx hb dX11_notes_18 rfl (lv_at hl 0 rfl) ?_
          refine va_get (D := E.1) (ci := 9) (v := .ref (a0 3)) (C := RX11) (T := TX11) (N := 17) hx hb hts w2 hown hC.1 hP 0 rfl rfl 2 (by decide) w3 (fun _ h9 => h9) rfl dX11_notes_19 ?_
          refine lv_iload_n hx hb dX11_notes_22 rfl (lv_at hl 1 rfl) ?_
          refine lv_aload_n hx hb dX11_notes_23 rfl (lv_at hl 0 rfl) ?_
          refine va_get (D := E.1) (ci := 9) (v := .ref (a0 3)) (C := RX11) (T := TX11) (N := 17) hx hb hts w2 hown hC.1 hP 0 rfl rfl 2 (by decide) w3 (fun _ h9 => h9) rfl dX11_notes_24 ?_
          refine lv_iload_n hx hb dX11_notes_27 rfl (lv_at hl 1 rfl) ?_
          refine lv_sipush (v := 340) hx hb dX11_notes_28 rfl ?_
          refine lv_iadd hx hb dX11_notes_31 ?_
          obtain ⟨h6, hf⟩ := gdI_some hf
          refine va_lald hx hb hC.1 hP 3 1 rfl rfl h6 dX11_notes_32 ?_
          obtain ⟨h7, hf⟩ := gdI_some hf
          refine va_last hx hb hC.1 hP hD hS 3 1 rfl rfl h7 dX11_notes_33 (fun H locs hP hD hS => ?_)
          have hP : va_P E.1 vwCl (wMD E a0 (q4.2.1, q4.2.2.1, (vp_updL q4.2.2.2.1 q4.1.toNatClampNeg (q4.2.2.2.1 (q4.1 + (340 : Int32)).toNatClampNeg)), q4.2.2.2.2.1, q4.2.2.2.2.2.1, q4.2.2.2.2.2.2.1, q4.2.2.2.2.2.2.2.1, q4.2.2.2.2.2.2.2.2.1, q4.2.2.2.2.2.2.2.2.2.1, q4.2.2.2.2.2.2.2.2.2.2.1, q4.2.2.2.2.2.2.2.2.2.2.2.1, q4.2.2.2.2.2.2.2.2.2.2.2.2.1, q4.2.2.2.2.2.2.2.2.2.2.2.2.2.1, q4.2.2.2.2.2.2.2.2.2.2.2.2.2.2.1, q4.2.2.2.2.2.2.2.2.2.2.2.2.2.2.2.1, q4.2.2.2.2.2.2.2.2.2.2.2.2.2.2.2.2.1, q4.2.2.2.2.2.2.2.2.2.2.2.2.2.2.2.2.2)) H := hP
          have hD : va_D A (wMD E a0 (q4.2.1, q4.2.2.1, (vp_updL q4.2.2.2.1 q4.1.toNatClampNeg (q4.2.2.2.1 (q4.1 + (340 : Int32)).toNatClampNeg)), q4.2.2.2.2.1, q4.2.2.2.2.2.1, q4.2.2.2.2.2.2.1, q4.2.2.2.2.2.2.2.1, q4.2.2.2.2.2.2.2.2.1, q4.2.2.2.2.2.2.2.2.2.1, q4.2.2.2.2.2.2.2.2.2.2.1, q4.2.2.2.2.2.2.2.2.2.2.2.1, q4.2.2.2.2.2.2.2.2.2.2.2.2.1, q4.2.2.2.2.2.2.2.2.2.2.2.2.2.1, q4.2.2.2.2.2.2.2.2.2.2.2.2.2.2.1, q4.2.2.2.2.2.2.2.2.2.2.2.2.2.2.2.1, q4.2.2.2.2.2.2.2.2.2.2.2.2.2.2.2.2.1, q4.2.2.2.2.2.2.2.2.2.2.2.2.2.2.2.2.2)) := hD
          refine lv_iinc (v := (q4.1 + 1)) (lv' := [(1, .int (q4.1 + 1)), (0, .ref (a0 0))]) hx hb dX11_notes_34 hl (k := 1) rfl rfl (by decide) rfl (fun ls hl => ?_)
          refine lv_goto (tgt := 11) hx hb dX11_notes_37 rfl ?_
          exact ih4 ((q4.1 + 1), (q4.2.1, q4.2.2.1, (vp_updL q4.2.2.2.1 q4.1.toNatClampNeg (q4.2.2.2.1 (q4.1 + (340 : Int32)).toNatClampNeg)), q4.2.2.2.2.1, q4.2.2.2.2.2.1, q4.2.2.2.2.2.2.1, q4.2.2.2.2.2.2.2.1, q4.2.2.2.2.2.2.2.2.1, q4.2.2.2.2.2.2.2.2.2.1, q4.2.2.2.2.2.2.2.2.2.2.1, q4.2.2.2.2.2.2.2.2.2.2.2.1, q4.2.2.2.2.2.2.2.2.2.2.2.2.1, q4.2.2.2.2.2.2.2.2.2.2.2.2.2.1, q4.2.2.2.2.2.2.2.2.2.2.2.2.2.2.1, q4.2.2.2.2.2.2.2.2.2.2.2.2.2.2.2.1, q4.2.2.2.2.2.2.2.2.2.2.2.2.2.2.2.2.1, q4.2.2.2.2.2.2.2.2.2.2.2.2.2.2.2.2.2)) H locs hP hD hS ls (lv_sub hl [1, 0] rfl) hf
    exact L4 FU ((0 : Int32), v0) s.heap [] hP hD hS ls (lv_sub hl [1, 0] rfl) hf

/-! X11_undo -/
abbrev rmX11_undo : Room := { frames := 1, cells := 0, slots := 0, locals := 24 }
theorem hdS_X11_undo : yX11_undo.cls ≠ "java/lang/invoke/MethodHandle" ∧ yX11_undo.cls ≠ "java/lang/invoke/VarHandle" ∧ (parseMethodDescriptor yX11_undo.desc).map (fun d => d.parameters.length) = some 0 := by decide +kernel
theorem hdV_X11_undo : yX11_undo.cls = RX11 ∧ yX11_undo.cls ≠ "java/lang/invoke/MethodHandle" ∧ yX11_undo.cls ≠ "java/lang/invoke/VarHandle" ∧ (parseMethodDescriptor yX11_undo.desc).map (fun d => d.parameters.length) = some 0 := ⟨rfl, hdS_X11_undo⟩
set_option maxHeartbeats 4000000 in
set_option maxRecDepth 100000 in
theorem c_X11_undo (l : Launch) (E : G0) (sz : Nat) (a0 : Nat → Nat) (v0 : MD) (x : Int32 × MD) (hf : f_X11_undo v0 = some x) : Met l yX11_undo wsX11_undo rmX11_undo (va_Pc [.ref (a0 0)] (PW E (wMD E a0 v0) sz)) (va_Qi (fun r q => r = x.1 ∧ q = x.2) (fun q t => va_P E.1 vwCl ((fun q : MD => wMD E a0 q) q) t.heap ∧ va_D (va_A (wMD E a0 v0) sz) ((fun q : MD => wMD E a0 q) q)) (va_A (wMD E a0 v0) sz)) 0 0 (va_A (wMD E a0 v0) sz) := by
  refine Met.ofW (cc := cX11_undo) (maxL := 1) (ret := some .int) (by decide) rfl ?_
  intro p e s m args below meth c s₁ B hml hv
  obtain ⟨ha, hsz, hP, hD0, hC⟩ := hv
  have hx := B.exec
  have hb := B.bytes
  have hr := B.returns
  have hts := atoms_spec (ws := wsX11_undo) B.pre
  have hown : s.vm.findClass RX11 = some m.cls := findClass_of_methodNamed B.named
  have hlocks := B.notSynchronized
  subst hsz
  have hD := hD0.self (sz := s.heap.size)
  generalize hAe : va_A (wMD E a0 v0) s.heap.size = A at hD hC ⊢
  have hA : ∀ q : Nat, s.heap.size ≤ q → A q := fun q h => by rw [← hAe]; exact Or.inr h
  have hS : va_S A s.heap s.heap [] := va_S.rf
  have w1 : (Cond.fieldLink RX11 258 "GreatChunksModel" "acts" "I").before args s = true := hts _ (List.mem_of_getElem? (i := 1) rfl)
  have w2 : ∀ w ∈ wsX110, w ∈ wsX11_undo := in_pl 9 rfl
  have w3 : (Cond.constant RX11 261 (-1000002)).before args s = true := hts _ (List.mem_of_getElem? (i := 2) rfl)
  have w4 : (Cond.fieldLink RX11 16 "GreatChunksModel" "past" "[J").before args s = true := hts _ (List.mem_of_getElem? (i := 3) rfl)
  have w5 : (Cond.fieldLink RX11 7 "GreatChunksModel" "now" "[J").before args s = true := hts _ (List.mem_of_getElem? (i := 4) rfl)
  generalize hQe : MQ below (va_Qi (fun r q => r = x.1 ∧ q = x.2) (fun q t => va_P E.1 vwCl ((fun q : MD => wMD E a0 q) q) t.heap ∧ va_D A ((fun q : MD => wMD E a0 q) q)) A) args s 0 0 A = Q
  refine st_W ha (Nat.le_of_ble_eq_true rfl) (fun ls hl => ?_)
  have hl : lv_has ls 1 [(0, .ref (a0 0))] := hl
  unfold f_X11_undo at hf
  refine lv_aload_n hx hb dX11_undo_0 rfl (lv_at hl 0 rfl) ?_
  refine va_get (D := E.1) (ci := 9) (v := .int v0.2.2.2.1) (C := RX11) (T := TX11) (N := 17) hx hb hts w2 hown hC.1 hP 0 rfl rfl 3 (by decide) w1 (fun _ h9 => h9) rfl dX11_undo_1 ?_
  refine lv_if_ne (tgt := 11) hx hb dX11_undo_4 rfl (fun c1 => ?_) (fun c1 => ?_)
  · have hf := it_f hf c1
    refine lv_aload_n hx hb dX11_undo_11 rfl (lv_at hl 0 rfl) ?_
    refine lv_dup hx hb dX11_undo_12 rfl ?_
    refine va_get (D := E.1) (ci := 9) (v := .int v0.2.2.2.1) (C := RX11) (T := TX11) (N := 17) hx hb hts w2 hown hC.1 hP 0 rfl rfl 3 (by decide) w1 (fun _ h9 => h9) rfl dX11_undo_13 ?_
    refine lv_iconst (v := 1) hx hb dX11_undo_16 rfl ?_
    refine lv_isub hx hb dX11_undo_17 ?_
    refine va_put (D := E.1) (ci := 9) (v := .int (v0.2.2.2.1 - (1 : Int32))) (ty := .int) (C := RX11) (T := TX11) (N := 17) hx hb hts w2 tyX11 tyX11_ok nmX11 hown hC.1 hP hD hS 0 rfl rfl 3 (by decide) w1 (fun _ h9 => h9) rfl (by decide +kernel) rfl rfl (Nat.le_of_ble_eq_true rfl) dX11_undo_18 (fun H locs hP hD hS => ?_)
    have hP : va_P E.1 vwCl (wMD E a0 (v0.1, v0.2.1, v0.2.2.1, (v0.2.2.2.1 - (1 : Int32)), v0.2.2.2.2.1, v0.2.2.2.2.2.1, v0.2.2.2.2.2.2.1, v0.2.2.2.2.2.2.2.1, v0.2.2.2.2.2.2.2.2.1, v0.2.2.2.2.2.2.2.2.2.1, v0.2.2.2.2.2.2.2.2.2.2.1, v0.2.2.2.2.2.2.2.2.2.2.2.1, v0.2.2.2.2.2.2.2.2.2.2.2.2.1, v0.2.2.2.2.2.2.2.2.2.2.2.2.2.1, v0.2.2.2.2.2.2.2.2.2.2.2.2.2.2.1, v0.2.2.2.2.2.2.2.2.2.2.2.2.2.2.2.1, v0.2.2.2.2.2.2.2.2.2.2.2.2.2.2.2.2)) H := hP
    have hD : va_D A (wMD E a0 (v0.1, v0.2.1, v0.2.2.1, (v0.2.2.2.1 - (1 : Int32)), v0.2.2.2.2.1, v0.2.2.2.2.2.1, v0.2.2.2.2.2.2.1, v0.2.2.2.2.2.2.2.1, v0.2.2.2.2.2.2.2.2.1, v0.2.2.2.2.2.2.2.2.2.1, v0.2.2.2.2.2.2.2.2.2.2.1, v0.2.2.2.2.2.2.2.2.2.2.2.1, v0.2.2.2.2.2.2.2.2.2.2.2.2.1, v0.2.2.2.2.2.2.2.2.2.2.2.2.2.1, v0.2.2.2.2.2.2.2.2.2.2.2.2.2.2.1, v0.2.2.2.2.2.2.2.2.2.2.2.2.2.2.2.1, v0.2.2.2.2.2.2.2.2.2.2.2.2.2.2.2.2)) := hD
    refine lv_aload_n hx hb dX11_undo_21 rfl (lv_at hl 0 rfl) ?_
    refine va_get (D := E.1) (ci := 9) (v := .ref (a0 3)) (C := RX11) (T := TX11) (N := 17) hx hb hts w2 hown hC.1 hP 0 rfl rfl 2 (by decide) w4 (fun _ h9 => h9) rfl dX11_undo_22 ?_
    refine lv_sipush (v := 340) hx hb dX11_undo_25 rfl ?_
    refine lv_aload_n hx hb dX11_undo_28 rfl (lv_at hl 0 rfl) ?_
    refine va_get (D := E.1) (ci := 9) (v := .int (v0.2.2.2.1 - (1 : Int32))) (C := RX11) (T := TX11) (N := 17) hx hb hts w2 hown hC.1 hP 0 rfl rfl 3 (by decide) w1 (fun _ h9 => h9) rfl dX11_undo_29 ?_
    refine lv_imul hx hb dX11_undo_32 ?_
    refine lv_aload_n hx hb dX11_undo_33 rfl (lv_at hl 0 rfl) ?_
    refine va_get (D := E.1) (ci := 9) (v := .ref (a0 1)) (C := RX11) (T := TX11) (N := 17) hx hb hts w2 hown hC.1 hP 0 rfl rfl 0 (by decide) w5 (fun _ h9 => h9) rfl dX11_undo_34 ?_
    refine lv_iconst (v := 0) hx hb dX11_undo_37 rfl ?_
    obtain ⟨r2, e2, hf⟩ := bd_some hf
    refine cq_v hP hD hS [3, 1] [0, 2, 4, 5, 6, 7] [0, 7, 1, 6, 2, 3, 4, 5] (va_free (wc := (wLA E (a0 3) 2040 v0.2.2.1 ++ wLA E (a0 1) 340 v0.1)) hD hS hA [3, 1] rfl) (va_runS (As := [.ref (a0 3), .int ((340 : Int32) * (v0.2.2.2.1 - (1 : Int32))), .ref (a0 1), .int (0 : Int32)]) (rest := []) ⟨hx, hb, hml, hown, hts⟩ (c_X11_copies l E H.size (a0 3) 2040 v0.2.2.1 ((340 : Int32) * (v0.2.2.2.1 - (1 : Int32))) (a0 1) 340 v0.1 (0 : Int32) r2 e2) (va_cwS 4 hts gX11_undo_X11_copies rfl rfl rfl hdS_X11_copies ⟨Nat.le_of_ble_eq_true rfl, Nat.le_of_ble_eq_true rfl⟩) ⟨PW.blind, PW.pre hC hS (hP.sub [3, 1] rfl) (hD.sub [3, 1] rfl rfl) (va_free hD hS hA [3, 1] rfl)⟩ rfl rfl hl.1 rfl (lv_room (Nat.le_of_ble_eq_true rfl)) dX11_undo_38 ⟨Nat.le_of_ble_eq_true rfl, Nat.le_of_ble_eq_true rfl⟩) rfl rfl rfl rfl (wMD E a0 (r2, v0.2.1, v0.2.2.1, (v0.2.2.2.1 - (1 : Int32)), v0.2.2.2.2.1, v0.2.2.2.2.2.1, v0.2.2.2.2.2.2.1, v0.2.2.2.2.2.2.2.1, v0.2.2.2.2.2.2.2.2.1, v0.2.2.2.2.2.2.2.2.2.1, v0.2.2.2.2.2.2.2.2.2.2.1, v0.2.2.2.2.2.2.2.2.2.2.2.1, v0.2.2.2.2.2.2.2.2.2.2.2.2.1, v0.2.2.2.2.2.2.2.2.2.2.2.2.2.1, v0.2.2.2.2.2.2.2.2.2.2.2.2.2.2.1, v0.2.2.2.2.2.2.2.2.2.2.2.2.2.2.2.1, v0.2.2.2.2.2.2.2.2.2.2.2.2.2.2.2.2)) rfl rfl (fun H locs hP hD hS => ?_)
    refine lv_aload_n hx hb dX11_undo_41 rfl (lv_at hl 0 rfl) ?_
    refine va_get (D := E.1) (ci := 9) (v := .int (v0.2.2.2.1 - (1 : Int32))) (C := RX11) (T := TX11) (N := 17) hx hb hts w2 hown hC.1 hP 0 rfl rfl 3 (by decide) w1 (fun _ h9 => h9) rfl dX11_undo_42 ?_
    cases Option.some.inj hf
    subst hQe
    exact ew_i (wf := (fun q : MD => wMD E a0 q)) hx hb hr hlocks hP hD hS dX11_undo_45
  · have hf := it_t hf c1
    refine lv_ldcw hx hb hown w3 dX11_undo_7 ?_
    cases Option.some.inj hf
    subst hQe
    exact ew_i (wf := (fun q : MD => wMD E a0 q)) hx hb hr hlocks hP hD hS dX11_undo_10
