theorem law_cmp (r : Int64) : lg_cmp r r = 0 := by unfold lg_cmp; simp
theorem law_i4 (n : Nat) : nI (4 * n) + 4 = nI (4 * (n + 1)) := by
  show nI (4 * n) + nI 4 = _
  rw [nI_add]
  rfl
theorem law_ix {L n : Nat} {i : Int32} (hL : L ≤ 2048) (hn : n ≤ 512) (hi : i = nI (4 * n)) (c0 : ¬ Int32.ofNat L - 4 < i) : 4 * n + 4 ≤ L ∧ vp_in i L ∧ vp_in (i + 1) L ∧ vp_in (i + 2) L ∧ vp_in (i + 3) L := by
  subst hi
  have h4 : 4 * n + 4 ≤ L := by
    apply Nat.le_of_not_lt
    intro hlt
    apply c0
    show nI L - nI 4 < nI (4 * n)
    rw [Int32.lt_iff_toInt_lt, pk_sub_toInt (by omega) (by omega), nI_toInt (by omega)]
    omega
  refine ⟨h4, vp_in_nI (by omega) (by omega), ?_, ?_, ?_⟩
  · show vp_in (nI (4 * n) + nI 1) L
    rw [nI_add]; exact vp_in_nI (by omega) (by omega)
  · show vp_in (nI (4 * n) + nI 2) L
    rw [nI_add]; exact vp_in_nI (by omega) (by omega)
  · show vp_in (nI (4 * n) + nI 3) L
    rw [nI_add]; exact vp_in_nI (by omega) (by omega)

set_option maxHeartbeats 40000000 in
set_option maxRecDepth 100000 in
theorem law_loop {p : Program} {l : Launch} {e : Env} {s : State} {m : MethodId} {below : List Frame} {meth : Method} {c : Code} {E : G0} {b L : Nat} {xs : Nat → Int32} (Sim : Nat → GC → MD → Prop) (h_feed : Ok_feed Sim) (h_house : Ok_house Sim) (h_fault : Ok_fault Sim) (h_undo : Ok_undo Sim) (h_create : Ok_create Sim) (h_append : Ok_append Sim) (h_put : Ok_put Sim) (h_both : Ok_both Sim) (h_remove : Ok_remove Sim) (h_bring : Ok_bring Sim) (h_tick : Ok_tick Sim) (h_down : Ok_down Sim) (h_up : Ok_up Sim) (h_spoil : Ok_spoil Sim) (h_beat : Ok_beat Sim) (h_mend : Ok_mend Sim) (h_server : Ok_server Sim) (h_chunk : Ok_chunk Sim) (h_file : Ok_file Sim) (h_part : Ok_part Sim) (h_read : Ok_read Sim) (h_find : Ok_find Sim) (h_sums : Ok_sums Sim) (h_as : Ok_as Sim) (h_target : Ok_target Sim) (h_left : Ok_left Sim) (h_strength : Ok_strength Sim) (h_mends : Ok_mends Sim) (h_odds : Ok_odds Sim) (h_drawn : Ok_drawn Sim) (h_image : Ok_image Sim) (h_restore : Ok_restore Sim) (h_count : Ok_count Sim) (h_none : ∀ (n : Nat) (g : GC) (md : MD), n < 512 → Sim n g md → Sim (n + 1) g md) (hL : L ≤ 2048) (C0 : lw_At p s m meth c b L xs) (hC : CX E (fun q : Nat => s.heap.size ≤ q) s s.heap) :
    ∀ (k n : Nat) (i : Int32), n ≤ 512 → 512 < n + k → i = nI (4 * n) → ∀ (g : GC) (md : MD), Sim n g md → ∀ (a aM : Nat → Nat) (db di : Nat → Nat → Nat) (H : Heap) (locs : List Loc), va_P E.1 vwCl (wMD E aM md ++ wGC E a db di g) H → va_D (fun q : Nat => s.heap.size ≤ q) (wMD E aM md ++ wGC E a db di g) → va_S (fun q : Nat => s.heap.size ≤ q) s.heap H locs → ∀ (ls : Array Slot), lv_has ls 4 [(0, .ref b), (1, .ref (a 0)), (2, .ref (aM 0)), (3, .int i)] → W p l e room_1 s m #[Value.ref b] below meth c H locs (60 + 20 * n) (8000 + 1859 * n) (lw_Z below #[Value.ref b] s) (F0 m 18 ls []) := by
  obtain ⟨hx, hb, hr, hml, hown, hts0, hX, hbl, hlocks, hgv⟩ := C0
  have hown : s.vm.findClass RL = some m.cls := hown
  have hts : ∀ w ∈ wsL_law, w.before #[Value.ref b] s = true := fun w h => hts0 w (wsL_law_in w h)
  have hA : ∀ q : Nat, s.heap.size ≤ q → (fun q : Nat => s.heap.size ≤ q) q := fun _ h => h
  have hbA : ¬ (fun q : Nat => s.heap.size ≤ q) b := Nat.not_le.mpr hbl
  intro k
  induction k with
  | zero => intro n i h1 h2; exact absurd h2 (by omega)
  | succ k ih =>
    intro n i hn hnk hi g md hsim a aM db di H locs hP hD hS ls hl
    refine lv_iload_n hx hb dL_law_18 rfl (lv_at hl 3 rfl) ?_
    refine lv_aload_n hx hb dL_law_19 rfl (lv_at hl 0 rfl) ?_
    refine va_slen hx hb hX hbl hbA hS dL_law_20 ?_
    refine lv_iconst (v := 4) hx hb dL_law_21 rfl ?_
    refine lv_isub hx hb dL_law_22 ?_
    refine lv_icmp_gt (tgt := 1066) hx hb dL_law_23 rfl (fun c0 => ?_) (fun c0 => ?_)
    · refine lv_iconst (v := 1) hx hb dL_law_1066 rfl ?_
      refine va_forget (fun q hq => hS.2.2 q hq) ?_
      refine W.widen (k := 600000) (n := 7302250) (by omega) (by omega) ?_
      exact lw_ret (d0 := s.drawn) (Drawn.sameBut.refl s.drawn lw_cs) hx hb hr hlocks dL_law_1067
    obtain ⟨h4, hin0, hin1, hin2, hin3⟩ := law_ix hL hn hi c0
    have hn1 : n < 512 := by omega
    have J : ∀ (g : GC) (md : MD) (hsim : Sim (n + 1) g md) (db di : Nat → Nat → Nat) (H : Heap) (locs : List Loc) (hP : va_P E.1 vwCl (wMD E aM md ++ wGC E a db di g) H) (hD : va_D (fun q : Nat => s.heap.size ≤ q) (wMD E aM md ++ wGC E a db di g)) (hS : va_S (fun q : Nat => s.heap.size ≤ q) s.heap H locs), W p l e room_1 s m #[Value.ref b] below meth c H locs (60 + 20 * (n + 1)) (8000 + 1859 * (n + 1)) (lw_Z below #[Value.ref b] s) (F0 m 1060 ls []) := by
      intro g md hsim db di H locs hP hD hS
      refine lv_iinc (v := i + 4) (lv' := [(3, .int (i + 4)), (0, .ref b), (1, .ref (a 0)), (2, .ref (aM 0))]) hx hb dL_law_1060 hl (k := 3) rfl rfl (by decide) rfl (fun ls hl => ?_)
      refine lv_goto (tgt := 18) hx hb dL_law_1063 rfl ?_
      exact ih (n + 1) (i + 4) (by omega) (by omega) (by rw [hi]; exact law_i4 n) g md hsim a aM db di H locs hP hD hS ls (lv_sub hl [1, 2, 3, 0] rfl)
    refine lv_aload_n hx hb dL_law_26 rfl (lv_at hl 0 rfl) ?_
    refine lv_iload_n hx hb dL_law_27 rfl (lv_at hl 3 rfl) ?_
    refine va_sld hx hb hX hbl hbA hS hin0 dL_law_28 ?_
    refine lv_bipush (v := 63) hx hb dL_law_29 rfl ?_
    refine lv_iand hx hb dL_law_31 ?_
    generalize xs i.toNatClampNeg &&& 63 = z
    by_cases s0 : z = 0
    · refine lv_tableIn (tgt := 180) (off := 148) hx hb dL_law_32 (by rw [s0]; decide) (by rw [s0]; decide) (by rw [s0]; rfl) rfl ?_
      obtain ⟨r, g1, md1, e1, e2, hsim1⟩ := h_feed n g md (xs (i + 1).toNatClampNeg) hn1 hsim
      refine lv_aload_n hx hb dL_law_180 rfl (lv_at hl 1 rfl) ?_
      refine lv_aload_n hx hb dL_law_181 rfl (lv_at hl 0 rfl) ?_
      refine lv_iload_n hx hb dL_law_182 rfl (lv_at hl 3 rfl) ?_
      refine lv_iconst (v := 1) hx hb dL_law_183 rfl ?_
      refine lv_iadd hx hb dL_law_184 ?_
      refine va_sld hx hb hX hbl hbA hS hin1 dL_law_185 ?_
      refine cp_i (wr := wMD E aM md) (wc := wGC E a db di g) (wf := (fun q : DA × GC => wGC E a q.1.1 q.1.2 q.2)) hP hD hS hA (va_runV (As := [.int (xs (i + 1).toNatClampNeg)]) (rest := []) ⟨hx, hb, hml, hown, hts⟩ (c_X10_feed l E H.size a db di g (xs (i + 1).toNatClampNeg) (r, g1) e1) (cwV 1 hts gL_law_X10_feed rfl rfl rfl hdV_X10_feed ⟨Nat.le_of_ble_eq_true rfl, Nat.le_of_ble_eq_true rfl⟩) ⟨PW.blind, va_recv hC.1 hP (ci := 8) (q0 := 8) rfl rfl, PW.pre hC hS (va_P.of (fun z hz => hP.mem (List.mem_append_right _ hz))) hD.right (va_freeR hD hS hA)⟩ rfl rfl hl.1 rfl (lv_room (Nat.le_of_ble_eq_true rfl)) dL_law_186 ⟨(by show _ ≤ 600000; omega), (by show _ ≤ 7302250; omega)⟩) (fun r9 u9 H locs hw hP hD hS => ?_)
      obtain ⟨⟨db, di⟩, u9⟩ := u9
      obtain ⟨hw1, hw2⟩ := hw
      have hw1 : r = r9 := hw1.symm
      have hw2 : g1 = u9 := hw2.symm
      subst hw1
      subst hw2
      refine lv_aload_n hx hb dL_law_189 rfl (lv_at hl 2 rfl) ?_
      refine lv_aload_n hx hb dL_law_190 rfl (lv_at hl 0 rfl) ?_
      refine lv_iload_n hx hb dL_law_191 rfl (lv_at hl 3 rfl) ?_
      refine lv_iconst (v := 1) hx hb dL_law_192 rfl ?_
      refine lv_iadd hx hb dL_law_193 ?_
      refine va_sld hx hb hX hbl hbA hS hin1 dL_law_194 ?_
      have hrm := va_recv hC.1 hP (ci := 9) (q0 := 0) rfl rfl
      have hP := hP.perm List.perm_append_comm
      have hD := hD.perm List.perm_append_comm
      refine cp_i (wr := wGC E a db di g1) (wc := wMD E aM md) (wf := (fun q : MD => wMD E aM q)) hP hD hS hA (va_runV (As := [.int (xs (i + 1).toNatClampNeg)]) (rest := [.int r]) ⟨hx, hb, hml, hown, hts⟩ (c_X11_feed l E H.size aM md (xs (i + 1).toNatClampNeg) (r, md1) e2) (cwV 1 hts gL_law_X11_feed rfl rfl rfl hdV_X11_feed ⟨Nat.le_of_ble_eq_true rfl, Nat.le_of_ble_eq_true rfl⟩) ⟨PW.blind, hrm, PW.pre hC hS (va_P.of (fun z hz => hP.mem (List.mem_append_right _ hz))) hD.right (va_freeR hD hS hA)⟩ rfl rfl hl.1 rfl (lv_room (Nat.le_of_ble_eq_true rfl)) dL_law_195 ⟨(by show _ ≤ 600000; omega), (by show _ ≤ 7302250; omega)⟩) (fun r9 u9 H locs hw hP hD hS => ?_)
      obtain ⟨hw1, hw2⟩ := hw
      have hw1 : r = r9 := hw1.symm
      have hw2 : md1 = u9 := hw2.symm
      subst hw1
      subst hw2
      have hP := hP.perm List.perm_append_comm
      have hD := hD.perm List.perm_append_comm
      refine lv_icmp_eq (tgt := 1060) hx hb dL_law_198 rfl (fun c9 => ?_) (fun c9 => absurd rfl c9)
      refine W.widen (k := 60 + 20 * (n + 1)) (n := 8000 + 1859 * (n + 1)) (by omega) (by omega) ?_
      exact J g1 md1 hsim1 db di H locs hP hD hS
    by_cases s1 : z = 1
    · refine lv_tableIn (tgt := 203) (off := 171) hx hb dL_law_32 (by rw [s1]; decide) (by rw [s1]; decide) (by rw [s1]; rfl) rfl ?_
      obtain ⟨r, g1, md1, e1, e2, hsim1⟩ := h_house n g md hn1 hsim
      refine lv_aload_n hx hb dL_law_203 rfl (lv_at hl 1 rfl) ?_
      refine cp_i (wr := wMD E aM md) (wc := wGC E a db di g) (wf := (fun q : DA × GC => wGC E a q.1.1 q.1.2 q.2)) hP hD hS hA (va_runV (As := []) (rest := []) ⟨hx, hb, hml, hown, hts⟩ (c_X10_house l E H.size a db di g (r, g1) e1) (cwV 0 hts gL_law_X10_house rfl rfl rfl hdV_X10_house ⟨Nat.le_of_ble_eq_true rfl, Nat.le_of_ble_eq_true rfl⟩) ⟨PW.blind, va_recv hC.1 hP (ci := 8) (q0 := 8) rfl rfl, PW.pre hC hS (va_P.of (fun z hz => hP.mem (List.mem_append_right _ hz))) hD.right (va_freeR hD hS hA)⟩ rfl rfl hl.1 rfl (lv_room (Nat.le_of_ble_eq_true rfl)) dL_law_204 ⟨(by show _ ≤ 600000; omega), (by show _ ≤ 7302250; omega)⟩) (fun r9 u9 H locs hw hP hD hS => ?_)
      obtain ⟨⟨db, di⟩, u9⟩ := u9
      obtain ⟨hw1, hw2⟩ := hw
      have hw1 : r = r9 := hw1.symm
      have hw2 : g1 = u9 := hw2.symm
      subst hw1
      subst hw2
      refine lv_aload_n hx hb dL_law_207 rfl (lv_at hl 2 rfl) ?_
      have hrm := va_recv hC.1 hP (ci := 9) (q0 := 0) rfl rfl
      have hP := hP.perm List.perm_append_comm
      have hD := hD.perm List.perm_append_comm
      refine cp_i (wr := wGC E a db di g1) (wc := wMD E aM md) (wf := (fun q : MD => wMD E aM q)) hP hD hS hA (va_runV (As := []) (rest := [.int r]) ⟨hx, hb, hml, hown, hts⟩ (c_X11_house l E H.size aM md (r, md1) e2) (cwV 0 hts gL_law_X11_house rfl rfl rfl hdV_X11_house ⟨Nat.le_of_ble_eq_true rfl, Nat.le_of_ble_eq_true rfl⟩) ⟨PW.blind, hrm, PW.pre hC hS (va_P.of (fun z hz => hP.mem (List.mem_append_right _ hz))) hD.right (va_freeR hD hS hA)⟩ rfl rfl hl.1 rfl (lv_room (Nat.le_of_ble_eq_true rfl)) dL_law_208 ⟨(by show _ ≤ 600000; omega), (by show _ ≤ 7302250; omega)⟩) (fun r9 u9 H locs hw hP hD hS => ?_)
      obtain ⟨hw1, hw2⟩ := hw
      have hw1 : r = r9 := hw1.symm
      have hw2 : md1 = u9 := hw2.symm
      subst hw1
      subst hw2
      have hP := hP.perm List.perm_append_comm
      have hD := hD.perm List.perm_append_comm
      refine lv_icmp_eq (tgt := 1060) hx hb dL_law_211 rfl (fun c9 => ?_) (fun c9 => absurd rfl c9)
      refine W.widen (k := 60 + 20 * (n + 1)) (n := 8000 + 1859 * (n + 1)) (by omega) (by omega) ?_
      exact J g1 md1 hsim1 db di H locs hP hD hS
    by_cases s2 : z = 2
    · refine lv_tableIn (tgt := 216) (off := 184) hx hb dL_law_32 (by rw [s2]; decide) (by rw [s2]; decide) (by rw [s2]; rfl) rfl ?_
      obtain ⟨r, e1, e2, hsim1⟩ := h_fault n g md hn1 hsim
      refine lv_aload_n hx hb dL_law_216 rfl (lv_at hl 1 rfl) ?_
      refine cr_i (va_runV (As := []) (rest := []) ⟨hx, hb, hml, hown, hts⟩ (c_X10_fault l E a db di g r e1) (cwV 0 hts gL_law_X10_fault rfl rfl rfl hdV_X10_fault ⟨Nat.le_of_ble_eq_true rfl, Nat.le_of_ble_eq_true rfl⟩) ⟨PR.blind, va_recv hC.1 hP (ci := 8) (q0 := 8) rfl rfl, PR.pre hC hS (va_P.of (fun z hz => hP.mem (List.mem_append_right _ hz)))⟩ rfl rfl hl.1 rfl (lv_room (Nat.le_of_ble_eq_true rfl)) dL_law_217 ⟨(by show _ ≤ 600000; omega), (by show _ ≤ 7302250; omega)⟩) ?_
      refine lv_aload_n hx hb dL_law_220 rfl (lv_at hl 2 rfl) ?_
      refine cr_i (va_runV (As := []) (rest := [.int r]) ⟨hx, hb, hml, hown, hts⟩ (c_X11_fault l E aM md r e2) (cwV 0 hts gL_law_X11_fault rfl rfl rfl hdV_X11_fault ⟨Nat.le_of_ble_eq_true rfl, Nat.le_of_ble_eq_true rfl⟩) ⟨PR.blind, va_recv hC.1 hP (ci := 9) (q0 := 0) rfl rfl, PR.pre hC hS (va_P.of (fun z hz => hP.mem (List.mem_append_left _ hz)))⟩ rfl rfl hl.1 rfl (lv_room (Nat.le_of_ble_eq_true rfl)) dL_law_221 ⟨(by show _ ≤ 600000; omega), (by show _ ≤ 7302250; omega)⟩) ?_
      refine lv_icmp_eq (tgt := 1060) hx hb dL_law_224 rfl (fun c9 => ?_) (fun c9 => absurd rfl c9)
      refine W.widen (k := 60 + 20 * (n + 1)) (n := 8000 + 1859 * (n + 1)) (by omega) (by omega) ?_
      exact J g md hsim1 db di H locs hP hD hS
    by_cases s3 : z = 3
    · refine lv_tableIn (tgt := 229) (off := 197) hx hb dL_law_32 (by rw [s3]; decide) (by rw [s3]; decide) (by rw [s3]; rfl) rfl ?_
      obtain ⟨r, g1, md1, e1, e2, hsim1⟩ := h_undo n g md hn1 hsim
      refine lv_aload_n hx hb dL_law_229 rfl (lv_at hl 1 rfl) ?_
      refine cp_i (wr := wMD E aM md) (wc := wGC E a db di g) (wf := (fun q : DA × GC => wGC E a q.1.1 q.1.2 q.2)) hP hD hS hA (va_runV (As := []) (rest := []) ⟨hx, hb, hml, hown, hts⟩ (c_X10_undo l E H.size a db di g (r, g1) e1) (cwV 0 hts gL_law_X10_undo rfl rfl rfl hdV_X10_undo ⟨Nat.le_of_ble_eq_true rfl, Nat.le_of_ble_eq_true rfl⟩) ⟨PW.blind, va_recv hC.1 hP (ci := 8) (q0 := 8) rfl rfl, PW.pre hC hS (va_P.of (fun z hz => hP.mem (List.mem_append_right _ hz))) hD.right (va_freeR hD hS hA)⟩ rfl rfl hl.1 rfl (lv_room (Nat.le_of_ble_eq_true rfl)) dL_law_230 ⟨(by show _ ≤ 600000; omega), (by show _ ≤ 7302250; omega)⟩) (fun r9 u9 H locs hw hP hD hS => ?_)
      obtain ⟨⟨db, di⟩, u9⟩ := u9
      obtain ⟨hw1, hw2⟩ := hw
      have hw1 : r = r9 := hw1.symm
      have hw2 : g1 = u9 := hw2.symm
      subst hw1
      subst hw2
      refine lv_aload_n hx hb dL_law_233 rfl (lv_at hl 2 rfl) ?_
      have hrm := va_recv hC.1 hP (ci := 9) (q0 := 0) rfl rfl
      have hP := hP.perm List.perm_append_comm
      have hD := hD.perm List.perm_append_comm
      refine cp_i (wr := wGC E a db di g1) (wc := wMD E aM md) (wf := (fun q : MD => wMD E aM q)) hP hD hS hA (va_runV (As := []) (rest := [.int r]) ⟨hx, hb, hml, hown, hts⟩ (c_X11_undo l E H.size aM md (r, md1) e2) (cwV 0 hts gL_law_X11_undo rfl rfl rfl hdV_X11_undo ⟨Nat.le_of_ble_eq_true rfl, Nat.le_of_ble_eq_true rfl⟩) ⟨PW.blind, hrm, PW.pre hC hS (va_P.of (fun z hz => hP.mem (List.mem_append_right _ hz))) hD.right (va_freeR hD hS hA)⟩ rfl rfl hl.1 rfl (lv_room (Nat.le_of_ble_eq_true rfl)) dL_law_234 ⟨(by show _ ≤ 600000; omega), (by show _ ≤ 7302250; omega)⟩) (fun r9 u9 H locs hw hP hD hS => ?_)
      obtain ⟨hw1, hw2⟩ := hw
      have hw1 : r = r9 := hw1.symm
      have hw2 : md1 = u9 := hw2.symm
      subst hw1
      subst hw2
      have hP := hP.perm List.perm_append_comm
      have hD := hD.perm List.perm_append_comm
      refine lv_icmp_eq (tgt := 1060) hx hb dL_law_237 rfl (fun c9 => ?_) (fun c9 => absurd rfl c9)
      refine W.widen (k := 60 + 20 * (n + 1)) (n := 8000 + 1859 * (n + 1)) (by omega) (by omega) ?_
      exact J g1 md1 hsim1 db di H locs hP hD hS
    by_cases s4 : z = 4
    · refine lv_tableIn (tgt := 242) (off := 210) hx hb dL_law_32 (by rw [s4]; decide) (by rw [s4]; decide) (by rw [s4]; rfl) rfl ?_
      obtain ⟨r, g1, md1, e1, e2, hsim1⟩ := h_create n g md (xs (i + 1).toNatClampNeg) (xs (i + 2).toNatClampNeg) hn1 hsim
      refine lv_aload_n hx hb dL_law_242 rfl (lv_at hl 1 rfl) ?_
      refine lv_aload_n hx hb dL_law_243 rfl (lv_at hl 0 rfl) ?_
      refine lv_iload_n hx hb dL_law_244 rfl (lv_at hl 3 rfl) ?_
      refine lv_iconst (v := 1) hx hb dL_law_245 rfl ?_
      refine lv_iadd hx hb dL_law_246 ?_
      refine va_sld hx hb hX hbl hbA hS hin1 dL_law_247 ?_
      refine lv_aload_n hx hb dL_law_248 rfl (lv_at hl 0 rfl) ?_
      refine lv_iload_n hx hb dL_law_249 rfl (lv_at hl 3 rfl) ?_
      refine lv_iconst (v := 2) hx hb dL_law_250 rfl ?_
      refine lv_iadd hx hb dL_law_251 ?_
      refine va_sld hx hb hX hbl hbA hS hin2 dL_law_252 ?_
      refine cp_i (wr := wMD E aM md) (wc := wGC E a db di g) (wf := (fun q : DA × GC => wGC E a q.1.1 q.1.2 q.2)) hP hD hS hA (va_runV (As := [.int (xs (i + 1).toNatClampNeg), .int (xs (i + 2).toNatClampNeg)]) (rest := []) ⟨hx, hb, hml, hown, hts⟩ (c_X10_create l E H.size a db di g (xs (i + 1).toNatClampNeg) (xs (i + 2).toNatClampNeg) (r, g1) e1) (cwV 2 hts gL_law_X10_create rfl rfl rfl hdV_X10_create ⟨Nat.le_of_ble_eq_true rfl, Nat.le_of_ble_eq_true rfl⟩) ⟨PW.blind, va_recv hC.1 hP (ci := 8) (q0 := 8) rfl rfl, PW.pre hC hS (va_P.of (fun z hz => hP.mem (List.mem_append_right _ hz))) hD.right (va_freeR hD hS hA)⟩ rfl rfl hl.1 rfl (lv_room (Nat.le_of_ble_eq_true rfl)) dL_law_253 ⟨(by show _ ≤ 600000; omega), (by show _ ≤ 7302250; omega)⟩) (fun r9 u9 H locs hw hP hD hS => ?_)
      obtain ⟨⟨db, di⟩, u9⟩ := u9
      obtain ⟨hw1, hw2⟩ := hw
      have hw1 : r = r9 := hw1.symm
      have hw2 : g1 = u9 := hw2.symm
      subst hw1
      subst hw2
      refine lv_aload_n hx hb dL_law_256 rfl (lv_at hl 2 rfl) ?_
      refine lv_aload_n hx hb dL_law_257 rfl (lv_at hl 0 rfl) ?_
      refine lv_iload_n hx hb dL_law_258 rfl (lv_at hl 3 rfl) ?_
      refine lv_iconst (v := 1) hx hb dL_law_259 rfl ?_
      refine lv_iadd hx hb dL_law_260 ?_
      refine va_sld hx hb hX hbl hbA hS hin1 dL_law_261 ?_
      refine lv_aload_n hx hb dL_law_262 rfl (lv_at hl 0 rfl) ?_
      refine lv_iload_n hx hb dL_law_263 rfl (lv_at hl 3 rfl) ?_
      refine lv_iconst (v := 2) hx hb dL_law_264 rfl ?_
      refine lv_iadd hx hb dL_law_265 ?_
      refine va_sld hx hb hX hbl hbA hS hin2 dL_law_266 ?_
      have hrm := va_recv hC.1 hP (ci := 9) (q0 := 0) rfl rfl
      have hP := hP.perm List.perm_append_comm
      have hD := hD.perm List.perm_append_comm
      refine cp_i (wr := wGC E a db di g1) (wc := wMD E aM md) (wf := (fun q : MD => wMD E aM q)) hP hD hS hA (va_runV (As := [.int (xs (i + 1).toNatClampNeg), .int (xs (i + 2).toNatClampNeg)]) (rest := [.int r]) ⟨hx, hb, hml, hown, hts⟩ (c_X11_create l E H.size aM md (xs (i + 1).toNatClampNeg) (xs (i + 2).toNatClampNeg) (r, md1) e2) (cwV 2 hts gL_law_X11_create rfl rfl rfl hdV_X11_create ⟨Nat.le_of_ble_eq_true rfl, Nat.le_of_ble_eq_true rfl⟩) ⟨PW.blind, hrm, PW.pre hC hS (va_P.of (fun z hz => hP.mem (List.mem_append_right _ hz))) hD.right (va_freeR hD hS hA)⟩ rfl rfl hl.1 rfl (lv_room (Nat.le_of_ble_eq_true rfl)) dL_law_267 ⟨(by show _ ≤ 600000; omega), (by show _ ≤ 7302250; omega)⟩) (fun r9 u9 H locs hw hP hD hS => ?_)
      obtain ⟨hw1, hw2⟩ := hw
      have hw1 : r = r9 := hw1.symm
      have hw2 : md1 = u9 := hw2.symm
      subst hw1
      subst hw2
      have hP := hP.perm List.perm_append_comm
      have hD := hD.perm List.perm_append_comm
      refine lv_icmp_eq (tgt := 1060) hx hb dL_law_270 rfl (fun c9 => ?_) (fun c9 => absurd rfl c9)
      refine W.widen (k := 60 + 20 * (n + 1)) (n := 8000 + 1859 * (n + 1)) (by omega) (by omega) ?_
      exact J g1 md1 hsim1 db di H locs hP hD hS
    by_cases s5 : z = 5
    · refine lv_tableIn (tgt := 275) (off := 243) hx hb dL_law_32 (by rw [s5]; decide) (by rw [s5]; decide) (by rw [s5]; rfl) rfl ?_
      obtain ⟨r, g1, md1, e1, e2, hsim1⟩ := h_append n g md (xs (i + 1).toNatClampNeg) hn1 hsim
      refine lv_aload_n hx hb dL_law_275 rfl (lv_at hl 1 rfl) ?_
      refine lv_aload_n hx hb dL_law_276 rfl (lv_at hl 0 rfl) ?_
      refine lv_iload_n hx hb dL_law_277 rfl (lv_at hl 3 rfl) ?_
      refine lv_iconst (v := 1) hx hb dL_law_278 rfl ?_
      refine lv_iadd hx hb dL_law_279 ?_
      refine va_sld hx hb hX hbl hbA hS hin1 dL_law_280 ?_
      refine cp_i (wr := wMD E aM md) (wc := wGC E a db di g) (wf := (fun q : DA × GC => wGC E a q.1.1 q.1.2 q.2)) hP hD hS hA (va_runV (As := [.int (xs (i + 1).toNatClampNeg)]) (rest := []) ⟨hx, hb, hml, hown, hts⟩ (c_X10_append l E H.size a db di g (xs (i + 1).toNatClampNeg) (r, g1) e1) (cwV 1 hts gL_law_X10_append rfl rfl rfl hdV_X10_append ⟨Nat.le_of_ble_eq_true rfl, Nat.le_of_ble_eq_true rfl⟩) ⟨PW.blind, va_recv hC.1 hP (ci := 8) (q0 := 8) rfl rfl, PW.pre hC hS (va_P.of (fun z hz => hP.mem (List.mem_append_right _ hz))) hD.right (va_freeR hD hS hA)⟩ rfl rfl hl.1 rfl (lv_room (Nat.le_of_ble_eq_true rfl)) dL_law_281 ⟨(by show _ ≤ 600000; omega), (by show _ ≤ 7302250; omega)⟩) (fun r9 u9 H locs hw hP hD hS => ?_)
      obtain ⟨⟨db, di⟩, u9⟩ := u9
      obtain ⟨hw1, hw2⟩ := hw
      have hw1 : r = r9 := hw1.symm
      have hw2 : g1 = u9 := hw2.symm
      subst hw1
      subst hw2
      refine lv_aload_n hx hb dL_law_284 rfl (lv_at hl 2 rfl) ?_
      refine lv_aload_n hx hb dL_law_285 rfl (lv_at hl 0 rfl) ?_
      refine lv_iload_n hx hb dL_law_286 rfl (lv_at hl 3 rfl) ?_
      refine lv_iconst (v := 1) hx hb dL_law_287 rfl ?_
      refine lv_iadd hx hb dL_law_288 ?_
      refine va_sld hx hb hX hbl hbA hS hin1 dL_law_289 ?_
      have hrm := va_recv hC.1 hP (ci := 9) (q0 := 0) rfl rfl
      have hP := hP.perm List.perm_append_comm
      have hD := hD.perm List.perm_append_comm
      refine cp_i (wr := wGC E a db di g1) (wc := wMD E aM md) (wf := (fun q : MD => wMD E aM q)) hP hD hS hA (va_runV (As := [.int (xs (i + 1).toNatClampNeg)]) (rest := [.int r]) ⟨hx, hb, hml, hown, hts⟩ (c_X11_append l E H.size aM md (xs (i + 1).toNatClampNeg) (r, md1) e2) (cwV 1 hts gL_law_X11_append rfl rfl rfl hdV_X11_append ⟨Nat.le_of_ble_eq_true rfl, Nat.le_of_ble_eq_true rfl⟩) ⟨PW.blind, hrm, PW.pre hC hS (va_P.of (fun z hz => hP.mem (List.mem_append_right _ hz))) hD.right (va_freeR hD hS hA)⟩ rfl rfl hl.1 rfl (lv_room (Nat.le_of_ble_eq_true rfl)) dL_law_290 ⟨(by show _ ≤ 600000; omega), (by show _ ≤ 7302250; omega)⟩) (fun r9 u9 H locs hw hP hD hS => ?_)
      obtain ⟨hw1, hw2⟩ := hw
      have hw1 : r = r9 := hw1.symm
      have hw2 : md1 = u9 := hw2.symm
      subst hw1
      subst hw2
      have hP := hP.perm List.perm_append_comm
      have hD := hD.perm List.perm_append_comm
      refine lv_icmp_eq (tgt := 1060) hx hb dL_law_293 rfl (fun c9 => ?_) (fun c9 => absurd rfl c9)
      refine W.widen (k := 60 + 20 * (n + 1)) (n := 8000 + 1859 * (n + 1)) (by omega) (by omega) ?_
      exact J g1 md1 hsim1 db di H locs hP hD hS
    by_cases s6 : z = 6
    · refine lv_tableIn (tgt := 298) (off := 266) hx hb dL_law_32 (by rw [s6]; decide) (by rw [s6]; decide) (by rw [s6]; rfl) rfl ?_
      obtain ⟨r, g1, md1, e1, e2, hsim1⟩ := h_put n g md (xs (i + 1).toNatClampNeg) (xs (i + 2).toNatClampNeg) (xs (i + 3).toNatClampNeg) hn1 hsim
      refine lv_aload_n hx hb dL_law_298 rfl (lv_at hl 1 rfl) ?_
      refine lv_aload_n hx hb dL_law_299 rfl (lv_at hl 0 rfl) ?_
      refine lv_iload_n hx hb dL_law_300 rfl (lv_at hl 3 rfl) ?_
      refine lv_iconst (v := 1) hx hb dL_law_301 rfl ?_
      refine lv_iadd hx hb dL_law_302 ?_
      refine va_sld hx hb hX hbl hbA hS hin1 dL_law_303 ?_
      refine lv_aload_n hx hb dL_law_304 rfl (lv_at hl 0 rfl) ?_
      refine lv_iload_n hx hb dL_law_305 rfl (lv_at hl 3 rfl) ?_
      refine lv_iconst (v := 2) hx hb dL_law_306 rfl ?_
      refine lv_iadd hx hb dL_law_307 ?_
      refine va_sld hx hb hX hbl hbA hS hin2 dL_law_308 ?_
      refine lv_aload_n hx hb dL_law_309 rfl (lv_at hl 0 rfl) ?_
      refine lv_iload_n hx hb dL_law_310 rfl (lv_at hl 3 rfl) ?_
      refine lv_iconst (v := 3) hx hb dL_law_311 rfl ?_
      refine lv_iadd hx hb dL_law_312 ?_
      refine va_sld hx hb hX hbl hbA hS hin3 dL_law_313 ?_
      refine cp_i (wr := wMD E aM md) (wc := wGC E a db di g) (wf := (fun q : DA × GC => wGC E a q.1.1 q.1.2 q.2)) hP hD hS hA (va_runV (As := [.int (xs (i + 1).toNatClampNeg), .int (xs (i + 2).toNatClampNeg), .int (xs (i + 3).toNatClampNeg)]) (rest := []) ⟨hx, hb, hml, hown, hts⟩ (c_X10_put l E H.size a db di g (xs (i + 1).toNatClampNeg) (xs (i + 2).toNatClampNeg) (xs (i + 3).toNatClampNeg) (r, g1) e1) (cwV 3 hts gL_law_X10_put rfl rfl rfl hdV_X10_put ⟨Nat.le_of_ble_eq_true rfl, Nat.le_of_ble_eq_true rfl⟩) ⟨PW.blind, va_recv hC.1 hP (ci := 8) (q0 := 8) rfl rfl, PW.pre hC hS (va_P.of (fun z hz => hP.mem (List.mem_append_right _ hz))) hD.right (va_freeR hD hS hA)⟩ rfl rfl hl.1 rfl (lv_room (Nat.le_of_ble_eq_true rfl)) dL_law_314 ⟨(by show _ ≤ 600000; omega), (by show _ ≤ 7302250; omega)⟩) (fun r9 u9 H locs hw hP hD hS => ?_)
      obtain ⟨⟨db, di⟩, u9⟩ := u9
      obtain ⟨hw1, hw2⟩ := hw
      have hw1 : r = r9 := hw1.symm
      have hw2 : g1 = u9 := hw2.symm
      subst hw1
      subst hw2
      refine lv_aload_n hx hb dL_law_317 rfl (lv_at hl 2 rfl) ?_
      refine lv_aload_n hx hb dL_law_318 rfl (lv_at hl 0 rfl) ?_
      refine lv_iload_n hx hb dL_law_319 rfl (lv_at hl 3 rfl) ?_
      refine lv_iconst (v := 1) hx hb dL_law_320 rfl ?_
      refine lv_iadd hx hb dL_law_321 ?_
      refine va_sld hx hb hX hbl hbA hS hin1 dL_law_322 ?_
      refine lv_aload_n hx hb dL_law_323 rfl (lv_at hl 0 rfl) ?_
      refine lv_iload_n hx hb dL_law_324 rfl (lv_at hl 3 rfl) ?_
      refine lv_iconst (v := 2) hx hb dL_law_325 rfl ?_
      refine lv_iadd hx hb dL_law_326 ?_
      refine va_sld hx hb hX hbl hbA hS hin2 dL_law_327 ?_
      refine lv_aload_n hx hb dL_law_328 rfl (lv_at hl 0 rfl) ?_
      refine lv_iload_n hx hb dL_law_329 rfl (lv_at hl 3 rfl) ?_
      refine lv_iconst (v := 3) hx hb dL_law_330 rfl ?_
      refine lv_iadd hx hb dL_law_331 ?_
      refine va_sld hx hb hX hbl hbA hS hin3 dL_law_332 ?_
      have hrm := va_recv hC.1 hP (ci := 9) (q0 := 0) rfl rfl
      have hP := hP.perm List.perm_append_comm
      have hD := hD.perm List.perm_append_comm
      refine cp_i (wr := wGC E a db di g1) (wc := wMD E aM md) (wf := (fun q : MD => wMD E aM q)) hP hD hS hA (va_runV (As := [.int (xs (i + 1).toNatClampNeg), .int (xs (i + 2).toNatClampNeg), .int (xs (i + 3).toNatClampNeg)]) (rest := [.int r]) ⟨hx, hb, hml, hown, hts⟩ (c_X11_put l E H.size aM md (xs (i + 1).toNatClampNeg) (xs (i + 2).toNatClampNeg) (xs (i + 3).toNatClampNeg) (r, md1) e2) (cwV 3 hts gL_law_X11_put rfl rfl rfl hdV_X11_put ⟨Nat.le_of_ble_eq_true rfl, Nat.le_of_ble_eq_true rfl⟩) ⟨PW.blind, hrm, PW.pre hC hS (va_P.of (fun z hz => hP.mem (List.mem_append_right _ hz))) hD.right (va_freeR hD hS hA)⟩ rfl rfl hl.1 rfl (lv_room (Nat.le_of_ble_eq_true rfl)) dL_law_333 ⟨(by show _ ≤ 600000; omega), (by show _ ≤ 7302250; omega)⟩) (fun r9 u9 H locs hw hP hD hS => ?_)
      obtain ⟨hw1, hw2⟩ := hw
      have hw1 : r = r9 := hw1.symm
      have hw2 : md1 = u9 := hw2.symm
      subst hw1
      subst hw2
      have hP := hP.perm List.perm_append_comm
      have hD := hD.perm List.perm_append_comm
      refine lv_icmp_eq (tgt := 1060) hx hb dL_law_336 rfl (fun c9 => ?_) (fun c9 => absurd rfl c9)
      refine W.widen (k := 60 + 20 * (n + 1)) (n := 8000 + 1859 * (n + 1)) (by omega) (by omega) ?_
      exact J g1 md1 hsim1 db di H locs hP hD hS
    by_cases s7 : z = 7
    · refine lv_tableIn (tgt := 341) (off := 309) hx hb dL_law_32 (by rw [s7]; decide) (by rw [s7]; decide) (by rw [s7]; rfl) rfl ?_
      obtain ⟨r, g1, md1, e1, e2, hsim1⟩ := h_both n g md (xs (i + 1).toNatClampNeg) (xs (i + 2).toNatClampNeg) hn1 hsim
      refine lv_aload_n hx hb dL_law_341 rfl (lv_at hl 1 rfl) ?_
      refine lv_aload_n hx hb dL_law_342 rfl (lv_at hl 0 rfl) ?_
      refine lv_iload_n hx hb dL_law_343 rfl (lv_at hl 3 rfl) ?_
      refine lv_iconst (v := 1) hx hb dL_law_344 rfl ?_
      refine lv_iadd hx hb dL_law_345 ?_
      refine va_sld hx hb hX hbl hbA hS hin1 dL_law_346 ?_
      refine lv_aload_n hx hb dL_law_347 rfl (lv_at hl 0 rfl) ?_
      refine lv_iload_n hx hb dL_law_348 rfl (lv_at hl 3 rfl) ?_
      refine lv_iconst (v := 2) hx hb dL_law_349 rfl ?_
      refine lv_iadd hx hb dL_law_350 ?_
      refine va_sld hx hb hX hbl hbA hS hin2 dL_law_351 ?_
      refine cp_i (wr := wMD E aM md) (wc := wGC E a db di g) (wf := (fun q : DA × GC => wGC E a q.1.1 q.1.2 q.2)) hP hD hS hA (va_runV (As := [.int (xs (i + 1).toNatClampNeg), .int (xs (i + 2).toNatClampNeg)]) (rest := []) ⟨hx, hb, hml, hown, hts⟩ (c_X10_both l E H.size a db di g (xs (i + 1).toNatClampNeg) (xs (i + 2).toNatClampNeg) (r, g1) e1) (cwV 2 hts gL_law_X10_both rfl rfl rfl hdV_X10_both ⟨Nat.le_of_ble_eq_true rfl, Nat.le_of_ble_eq_true rfl⟩) ⟨PW.blind, va_recv hC.1 hP (ci := 8) (q0 := 8) rfl rfl, PW.pre hC hS (va_P.of (fun z hz => hP.mem (List.mem_append_right _ hz))) hD.right (va_freeR hD hS hA)⟩ rfl rfl hl.1 rfl (lv_room (Nat.le_of_ble_eq_true rfl)) dL_law_352 ⟨(by show _ ≤ 600000; omega), (by show _ ≤ 7302250; omega)⟩) (fun r9 u9 H locs hw hP hD hS => ?_)
      obtain ⟨⟨db, di⟩, u9⟩ := u9
      obtain ⟨hw1, hw2⟩ := hw
      have hw1 : r = r9 := hw1.symm
      have hw2 : g1 = u9 := hw2.symm
      subst hw1
      subst hw2
      refine lv_aload_n hx hb dL_law_355 rfl (lv_at hl 2 rfl) ?_
      refine lv_aload_n hx hb dL_law_356 rfl (lv_at hl 0 rfl) ?_
      refine lv_iload_n hx hb dL_law_357 rfl (lv_at hl 3 rfl) ?_
      refine lv_iconst (v := 1) hx hb dL_law_358 rfl ?_
      refine lv_iadd hx hb dL_law_359 ?_
      refine va_sld hx hb hX hbl hbA hS hin1 dL_law_360 ?_
      refine lv_aload_n hx hb dL_law_361 rfl (lv_at hl 0 rfl) ?_
      refine lv_iload_n hx hb dL_law_362 rfl (lv_at hl 3 rfl) ?_
      refine lv_iconst (v := 2) hx hb dL_law_363 rfl ?_
      refine lv_iadd hx hb dL_law_364 ?_
      refine va_sld hx hb hX hbl hbA hS hin2 dL_law_365 ?_
      have hrm := va_recv hC.1 hP (ci := 9) (q0 := 0) rfl rfl
      have hP := hP.perm List.perm_append_comm
      have hD := hD.perm List.perm_append_comm
      refine cp_i (wr := wGC E a db di g1) (wc := wMD E aM md) (wf := (fun q : MD => wMD E aM q)) hP hD hS hA (va_runV (As := [.int (xs (i + 1).toNatClampNeg), .int (xs (i + 2).toNatClampNeg)]) (rest := [.int r]) ⟨hx, hb, hml, hown, hts⟩ (c_X11_both l E H.size aM md (xs (i + 1).toNatClampNeg) (xs (i + 2).toNatClampNeg) (r, md1) e2) (cwV 2 hts gL_law_X11_both rfl rfl rfl hdV_X11_both ⟨Nat.le_of_ble_eq_true rfl, Nat.le_of_ble_eq_true rfl⟩) ⟨PW.blind, hrm, PW.pre hC hS (va_P.of (fun z hz => hP.mem (List.mem_append_right _ hz))) hD.right (va_freeR hD hS hA)⟩ rfl rfl hl.1 rfl (lv_room (Nat.le_of_ble_eq_true rfl)) dL_law_366 ⟨(by show _ ≤ 600000; omega), (by show _ ≤ 7302250; omega)⟩) (fun r9 u9 H locs hw hP hD hS => ?_)
      obtain ⟨hw1, hw2⟩ := hw
      have hw1 : r = r9 := hw1.symm
      have hw2 : md1 = u9 := hw2.symm
      subst hw1
      subst hw2
      have hP := hP.perm List.perm_append_comm
      have hD := hD.perm List.perm_append_comm
      refine lv_icmp_eq (tgt := 1060) hx hb dL_law_369 rfl (fun c9 => ?_) (fun c9 => absurd rfl c9)
      refine W.widen (k := 60 + 20 * (n + 1)) (n := 8000 + 1859 * (n + 1)) (by omega) (by omega) ?_
      exact J g1 md1 hsim1 db di H locs hP hD hS
    by_cases s8 : z = 8
    · refine lv_tableIn (tgt := 374) (off := 342) hx hb dL_law_32 (by rw [s8]; decide) (by rw [s8]; decide) (by rw [s8]; rfl) rfl ?_
      obtain ⟨r, g1, md1, e1, e2, hsim1⟩ := h_remove n g md (xs (i + 1).toNatClampNeg) hn1 hsim
      refine lv_aload_n hx hb dL_law_374 rfl (lv_at hl 1 rfl) ?_
      refine lv_aload_n hx hb dL_law_375 rfl (lv_at hl 0 rfl) ?_
      refine lv_iload_n hx hb dL_law_376 rfl (lv_at hl 3 rfl) ?_
      refine lv_iconst (v := 1) hx hb dL_law_377 rfl ?_
      refine lv_iadd hx hb dL_law_378 ?_
      refine va_sld hx hb hX hbl hbA hS hin1 dL_law_379 ?_
      refine cp_i (wr := wMD E aM md) (wc := wGC E a db di g) (wf := (fun q : DA × GC => wGC E a q.1.1 q.1.2 q.2)) hP hD hS hA (va_runV (As := [.int (xs (i + 1).toNatClampNeg)]) (rest := []) ⟨hx, hb, hml, hown, hts⟩ (c_X10_remove l E H.size a db di g (xs (i + 1).toNatClampNeg) (r, g1) e1) (cwV 1 hts gL_law_X10_remove rfl rfl rfl hdV_X10_remove ⟨Nat.le_of_ble_eq_true rfl, Nat.le_of_ble_eq_true rfl⟩) ⟨PW.blind, va_recv hC.1 hP (ci := 8) (q0 := 8) rfl rfl, PW.pre hC hS (va_P.of (fun z hz => hP.mem (List.mem_append_right _ hz))) hD.right (va_freeR hD hS hA)⟩ rfl rfl hl.1 rfl (lv_room (Nat.le_of_ble_eq_true rfl)) dL_law_380 ⟨(by show _ ≤ 600000; omega), (by show _ ≤ 7302250; omega)⟩) (fun r9 u9 H locs hw hP hD hS => ?_)
      obtain ⟨⟨db, di⟩, u9⟩ := u9
      obtain ⟨hw1, hw2⟩ := hw
      have hw1 : r = r9 := hw1.symm
      have hw2 : g1 = u9 := hw2.symm
      subst hw1
      subst hw2
      refine lv_aload_n hx hb dL_law_383 rfl (lv_at hl 2 rfl) ?_
      refine lv_aload_n hx hb dL_law_384 rfl (lv_at hl 0 rfl) ?_
      refine lv_iload_n hx hb dL_law_385 rfl (lv_at hl 3 rfl) ?_
      refine lv_iconst (v := 1) hx hb dL_law_386 rfl ?_
      refine lv_iadd hx hb dL_law_387 ?_
      refine va_sld hx hb hX hbl hbA hS hin1 dL_law_388 ?_
      have hrm := va_recv hC.1 hP (ci := 9) (q0 := 0) rfl rfl
      have hP := hP.perm List.perm_append_comm
      have hD := hD.perm List.perm_append_comm
      refine cp_i (wr := wGC E a db di g1) (wc := wMD E aM md) (wf := (fun q : MD => wMD E aM q)) hP hD hS hA (va_runV (As := [.int (xs (i + 1).toNatClampNeg)]) (rest := [.int r]) ⟨hx, hb, hml, hown, hts⟩ (c_X11_remove l E H.size aM md (xs (i + 1).toNatClampNeg) (r, md1) e2) (cwV 1 hts gL_law_X11_remove rfl rfl rfl hdV_X11_remove ⟨Nat.le_of_ble_eq_true rfl, Nat.le_of_ble_eq_true rfl⟩) ⟨PW.blind, hrm, PW.pre hC hS (va_P.of (fun z hz => hP.mem (List.mem_append_right _ hz))) hD.right (va_freeR hD hS hA)⟩ rfl rfl hl.1 rfl (lv_room (Nat.le_of_ble_eq_true rfl)) dL_law_389 ⟨(by show _ ≤ 600000; omega), (by show _ ≤ 7302250; omega)⟩) (fun r9 u9 H locs hw hP hD hS => ?_)
      obtain ⟨hw1, hw2⟩ := hw
      have hw1 : r = r9 := hw1.symm
      have hw2 : md1 = u9 := hw2.symm
      subst hw1
      subst hw2
      have hP := hP.perm List.perm_append_comm
      have hD := hD.perm List.perm_append_comm
      refine lv_icmp_eq (tgt := 1060) hx hb dL_law_392 rfl (fun c9 => ?_) (fun c9 => absurd rfl c9)
      refine W.widen (k := 60 + 20 * (n + 1)) (n := 8000 + 1859 * (n + 1)) (by omega) (by omega) ?_
      exact J g1 md1 hsim1 db di H locs hP hD hS
    by_cases s9 : z = 9
    · refine lv_tableIn (tgt := 397) (off := 365) hx hb dL_law_32 (by rw [s9]; decide) (by rw [s9]; decide) (by rw [s9]; rfl) rfl ?_
      obtain ⟨r, g1, md1, e1, e2, hsim1⟩ := h_bring n g md (xs (i + 1).toNatClampNeg) hn1 hsim
      refine lv_aload_n hx hb dL_law_397 rfl (lv_at hl 1 rfl) ?_
      refine lv_aload_n hx hb dL_law_398 rfl (lv_at hl 0 rfl) ?_
      refine lv_iload_n hx hb dL_law_399 rfl (lv_at hl 3 rfl) ?_
      refine lv_iconst (v := 1) hx hb dL_law_400 rfl ?_
      refine lv_iadd hx hb dL_law_401 ?_
      refine va_sld hx hb hX hbl hbA hS hin1 dL_law_402 ?_
      refine cp_i (wr := wMD E aM md) (wc := wGC E a db di g) (wf := (fun q : DA × GC => wGC E a q.1.1 q.1.2 q.2)) hP hD hS hA (va_runV (As := [.int (xs (i + 1).toNatClampNeg)]) (rest := []) ⟨hx, hb, hml, hown, hts⟩ (c_X10_bring l E H.size a db di g (xs (i + 1).toNatClampNeg) (r, g1) e1) (cwV 1 hts gL_law_X10_bring rfl rfl rfl hdV_X10_bring ⟨Nat.le_of_ble_eq_true rfl, Nat.le_of_ble_eq_true rfl⟩) ⟨PW.blind, va_recv hC.1 hP (ci := 8) (q0 := 8) rfl rfl, PW.pre hC hS (va_P.of (fun z hz => hP.mem (List.mem_append_right _ hz))) hD.right (va_freeR hD hS hA)⟩ rfl rfl hl.1 rfl (lv_room (Nat.le_of_ble_eq_true rfl)) dL_law_403 ⟨(by show _ ≤ 600000; omega), (by show _ ≤ 7302250; omega)⟩) (fun r9 u9 H locs hw hP hD hS => ?_)
      obtain ⟨⟨db, di⟩, u9⟩ := u9
      obtain ⟨hw1, hw2⟩ := hw
      have hw1 : r = r9 := hw1.symm
      have hw2 : g1 = u9 := hw2.symm
      subst hw1
      subst hw2
      refine lv_aload_n hx hb dL_law_406 rfl (lv_at hl 2 rfl) ?_
      refine lv_aload_n hx hb dL_law_407 rfl (lv_at hl 0 rfl) ?_
      refine lv_iload_n hx hb dL_law_408 rfl (lv_at hl 3 rfl) ?_
      refine lv_iconst (v := 1) hx hb dL_law_409 rfl ?_
      refine lv_iadd hx hb dL_law_410 ?_
      refine va_sld hx hb hX hbl hbA hS hin1 dL_law_411 ?_
      have hrm := va_recv hC.1 hP (ci := 9) (q0 := 0) rfl rfl
      have hP := hP.perm List.perm_append_comm
      have hD := hD.perm List.perm_append_comm
      refine cp_i (wr := wGC E a db di g1) (wc := wMD E aM md) (wf := (fun q : MD => wMD E aM q)) hP hD hS hA (va_runV (As := [.int (xs (i + 1).toNatClampNeg)]) (rest := [.int r]) ⟨hx, hb, hml, hown, hts⟩ (c_X11_bring l E H.size aM md (xs (i + 1).toNatClampNeg) (r, md1) e2) (cwV 1 hts gL_law_X11_bring rfl rfl rfl hdV_X11_bring ⟨Nat.le_of_ble_eq_true rfl, Nat.le_of_ble_eq_true rfl⟩) ⟨PW.blind, hrm, PW.pre hC hS (va_P.of (fun z hz => hP.mem (List.mem_append_right _ hz))) hD.right (va_freeR hD hS hA)⟩ rfl rfl hl.1 rfl (lv_room (Nat.le_of_ble_eq_true rfl)) dL_law_412 ⟨(by show _ ≤ 600000; omega), (by show _ ≤ 7302250; omega)⟩) (fun r9 u9 H locs hw hP hD hS => ?_)
      obtain ⟨hw1, hw2⟩ := hw
      have hw1 : r = r9 := hw1.symm
      have hw2 : md1 = u9 := hw2.symm
      subst hw1
      subst hw2
      have hP := hP.perm List.perm_append_comm
      have hD := hD.perm List.perm_append_comm
      refine lv_icmp_eq (tgt := 1060) hx hb dL_law_415 rfl (fun c9 => ?_) (fun c9 => absurd rfl c9)
      refine W.widen (k := 60 + 20 * (n + 1)) (n := 8000 + 1859 * (n + 1)) (by omega) (by omega) ?_
      exact J g1 md1 hsim1 db di H locs hP hD hS
    by_cases s10 : z = 10
    · refine lv_tableIn (tgt := 420) (off := 388) hx hb dL_law_32 (by rw [s10]; decide) (by rw [s10]; decide) (by rw [s10]; rfl) rfl ?_
      obtain ⟨r, g1, md1, e1, e2, hsim1⟩ := h_tick n g md (xs (i + 1).toNatClampNeg) hn1 hsim
      refine lv_aload_n hx hb dL_law_420 rfl (lv_at hl 1 rfl) ?_
      refine lv_aload_n hx hb dL_law_421 rfl (lv_at hl 0 rfl) ?_
      refine lv_iload_n hx hb dL_law_422 rfl (lv_at hl 3 rfl) ?_
      refine lv_iconst (v := 1) hx hb dL_law_423 rfl ?_
      refine lv_iadd hx hb dL_law_424 ?_
      refine va_sld hx hb hX hbl hbA hS hin1 dL_law_425 ?_
      refine cp_i (wr := wMD E aM md) (wc := wGC E a db di g) (wf := (fun q : DA × GC => wGC E a q.1.1 q.1.2 q.2)) hP hD hS hA (va_runV (As := [.int (xs (i + 1).toNatClampNeg)]) (rest := []) ⟨hx, hb, hml, hown, hts⟩ (c_X10_tick l E H.size a db di g (xs (i + 1).toNatClampNeg) (r, g1) e1) (cwV 1 hts gL_law_X10_tick rfl rfl rfl hdV_X10_tick ⟨Nat.le_of_ble_eq_true rfl, Nat.le_of_ble_eq_true rfl⟩) ⟨PW.blind, va_recv hC.1 hP (ci := 8) (q0 := 8) rfl rfl, PW.pre hC hS (va_P.of (fun z hz => hP.mem (List.mem_append_right _ hz))) hD.right (va_freeR hD hS hA)⟩ rfl rfl hl.1 rfl (lv_room (Nat.le_of_ble_eq_true rfl)) dL_law_426 ⟨(by show _ ≤ 600000; omega), (by show _ ≤ 7302250; omega)⟩) (fun r9 u9 H locs hw hP hD hS => ?_)
      obtain ⟨⟨db, di⟩, u9⟩ := u9
      obtain ⟨hw1, hw2⟩ := hw
      have hw1 : r = r9 := hw1.symm
      have hw2 : g1 = u9 := hw2.symm
      subst hw1
      subst hw2
      refine lv_aload_n hx hb dL_law_429 rfl (lv_at hl 2 rfl) ?_
      refine lv_aload_n hx hb dL_law_430 rfl (lv_at hl 0 rfl) ?_
      refine lv_iload_n hx hb dL_law_431 rfl (lv_at hl 3 rfl) ?_
      refine lv_iconst (v := 1) hx hb dL_law_432 rfl ?_
      refine lv_iadd hx hb dL_law_433 ?_
      refine va_sld hx hb hX hbl hbA hS hin1 dL_law_434 ?_
      have hrm := va_recv hC.1 hP (ci := 9) (q0 := 0) rfl rfl
      have hP := hP.perm List.perm_append_comm
      have hD := hD.perm List.perm_append_comm
      refine cp_i (wr := wGC E a db di g1) (wc := wMD E aM md) (wf := (fun q : MD => wMD E aM q)) hP hD hS hA (va_runV (As := [.int (xs (i + 1).toNatClampNeg)]) (rest := [.int r]) ⟨hx, hb, hml, hown, hts⟩ (c_X11_tick l E H.size aM md (xs (i + 1).toNatClampNeg) (r, md1) e2) (cwV 1 hts gL_law_X11_tick rfl rfl rfl hdV_X11_tick ⟨Nat.le_of_ble_eq_true rfl, Nat.le_of_ble_eq_true rfl⟩) ⟨PW.blind, hrm, PW.pre hC hS (va_P.of (fun z hz => hP.mem (List.mem_append_right _ hz))) hD.right (va_freeR hD hS hA)⟩ rfl rfl hl.1 rfl (lv_room (Nat.le_of_ble_eq_true rfl)) dL_law_435 ⟨(by show _ ≤ 600000; omega), (by show _ ≤ 7302250; omega)⟩) (fun r9 u9 H locs hw hP hD hS => ?_)
      obtain ⟨hw1, hw2⟩ := hw
      have hw1 : r = r9 := hw1.symm
      have hw2 : md1 = u9 := hw2.symm
      subst hw1
      subst hw2
      have hP := hP.perm List.perm_append_comm
      have hD := hD.perm List.perm_append_comm
      refine lv_icmp_eq (tgt := 1060) hx hb dL_law_438 rfl (fun c9 => ?_) (fun c9 => absurd rfl c9)
      refine W.widen (k := 60 + 20 * (n + 1)) (n := 8000 + 1859 * (n + 1)) (by omega) (by omega) ?_
      exact J g1 md1 hsim1 db di H locs hP hD hS
    by_cases s11 : z = 11
    · refine lv_tableIn (tgt := 443) (off := 411) hx hb dL_law_32 (by rw [s11]; decide) (by rw [s11]; decide) (by rw [s11]; rfl) rfl ?_
      obtain ⟨r, g1, md1, e1, e2, hsim1⟩ := h_down n g md (xs (i + 1).toNatClampNeg) hn1 hsim
      refine lv_aload_n hx hb dL_law_443 rfl (lv_at hl 1 rfl) ?_
      refine lv_aload_n hx hb dL_law_444 rfl (lv_at hl 0 rfl) ?_
      refine lv_iload_n hx hb dL_law_445 rfl (lv_at hl 3 rfl) ?_
      refine lv_iconst (v := 1) hx hb dL_law_446 rfl ?_
      refine lv_iadd hx hb dL_law_447 ?_
      refine va_sld hx hb hX hbl hbA hS hin1 dL_law_448 ?_
      refine cp_i (wr := wMD E aM md) (wc := wGC E a db di g) (wf := (fun q : DA × GC => wGC E a q.1.1 q.1.2 q.2)) hP hD hS hA (va_runV (As := [.int (xs (i + 1).toNatClampNeg)]) (rest := []) ⟨hx, hb, hml, hown, hts⟩ (c_X10_down l E H.size a db di g (xs (i + 1).toNatClampNeg) (r, g1) e1) (cwV 1 hts gL_law_X10_down rfl rfl rfl hdV_X10_down ⟨Nat.le_of_ble_eq_true rfl, Nat.le_of_ble_eq_true rfl⟩) ⟨PW.blind, va_recv hC.1 hP (ci := 8) (q0 := 8) rfl rfl, PW.pre hC hS (va_P.of (fun z hz => hP.mem (List.mem_append_right _ hz))) hD.right (va_freeR hD hS hA)⟩ rfl rfl hl.1 rfl (lv_room (Nat.le_of_ble_eq_true rfl)) dL_law_449 ⟨(by show _ ≤ 600000; omega), (by show _ ≤ 7302250; omega)⟩) (fun r9 u9 H locs hw hP hD hS => ?_)
      obtain ⟨⟨db, di⟩, u9⟩ := u9
      obtain ⟨hw1, hw2⟩ := hw
      have hw1 : r = r9 := hw1.symm
      have hw2 : g1 = u9 := hw2.symm
      subst hw1
      subst hw2
      refine lv_aload_n hx hb dL_law_452 rfl (lv_at hl 2 rfl) ?_
      refine lv_aload_n hx hb dL_law_453 rfl (lv_at hl 0 rfl) ?_
      refine lv_iload_n hx hb dL_law_454 rfl (lv_at hl 3 rfl) ?_
      refine lv_iconst (v := 1) hx hb dL_law_455 rfl ?_
      refine lv_iadd hx hb dL_law_456 ?_
      refine va_sld hx hb hX hbl hbA hS hin1 dL_law_457 ?_
      have hrm := va_recv hC.1 hP (ci := 9) (q0 := 0) rfl rfl
      have hP := hP.perm List.perm_append_comm
      have hD := hD.perm List.perm_append_comm
      refine cp_i (wr := wGC E a db di g1) (wc := wMD E aM md) (wf := (fun q : MD => wMD E aM q)) hP hD hS hA (va_runV (As := [.int (xs (i + 1).toNatClampNeg)]) (rest := [.int r]) ⟨hx, hb, hml, hown, hts⟩ (c_X11_down l E H.size aM md (xs (i + 1).toNatClampNeg) (r, md1) e2) (cwV 1 hts gL_law_X11_down rfl rfl rfl hdV_X11_down ⟨Nat.le_of_ble_eq_true rfl, Nat.le_of_ble_eq_true rfl⟩) ⟨PW.blind, hrm, PW.pre hC hS (va_P.of (fun z hz => hP.mem (List.mem_append_right _ hz))) hD.right (va_freeR hD hS hA)⟩ rfl rfl hl.1 rfl (lv_room (Nat.le_of_ble_eq_true rfl)) dL_law_458 ⟨(by show _ ≤ 600000; omega), (by show _ ≤ 7302250; omega)⟩) (fun r9 u9 H locs hw hP hD hS => ?_)
      obtain ⟨hw1, hw2⟩ := hw
      have hw1 : r = r9 := hw1.symm
      have hw2 : md1 = u9 := hw2.symm
      subst hw1
      subst hw2
      have hP := hP.perm List.perm_append_comm
      have hD := hD.perm List.perm_append_comm
      refine lv_icmp_eq (tgt := 1060) hx hb dL_law_461 rfl (fun c9 => ?_) (fun c9 => absurd rfl c9)
      refine W.widen (k := 60 + 20 * (n + 1)) (n := 8000 + 1859 * (n + 1)) (by omega) (by omega) ?_
      exact J g1 md1 hsim1 db di H locs hP hD hS
    by_cases s12 : z = 12
    · refine lv_tableIn (tgt := 466) (off := 434) hx hb dL_law_32 (by rw [s12]; decide) (by rw [s12]; decide) (by rw [s12]; rfl) rfl ?_
      obtain ⟨r, g1, md1, e1, e2, hsim1⟩ := h_up n g md (xs (i + 1).toNatClampNeg) hn1 hsim
      refine lv_aload_n hx hb dL_law_466 rfl (lv_at hl 1 rfl) ?_
      refine lv_aload_n hx hb dL_law_467 rfl (lv_at hl 0 rfl) ?_
      refine lv_iload_n hx hb dL_law_468 rfl (lv_at hl 3 rfl) ?_
      refine lv_iconst (v := 1) hx hb dL_law_469 rfl ?_
      refine lv_iadd hx hb dL_law_470 ?_
      refine va_sld hx hb hX hbl hbA hS hin1 dL_law_471 ?_
      refine cp_i (wr := wMD E aM md) (wc := wGC E a db di g) (wf := (fun q : DA × GC => wGC E a q.1.1 q.1.2 q.2)) hP hD hS hA (va_runV (As := [.int (xs (i + 1).toNatClampNeg)]) (rest := []) ⟨hx, hb, hml, hown, hts⟩ (c_X10_up l E H.size a db di g (xs (i + 1).toNatClampNeg) (r, g1) e1) (cwV 1 hts gL_law_X10_up rfl rfl rfl hdV_X10_up ⟨Nat.le_of_ble_eq_true rfl, Nat.le_of_ble_eq_true rfl⟩) ⟨PW.blind, va_recv hC.1 hP (ci := 8) (q0 := 8) rfl rfl, PW.pre hC hS (va_P.of (fun z hz => hP.mem (List.mem_append_right _ hz))) hD.right (va_freeR hD hS hA)⟩ rfl rfl hl.1 rfl (lv_room (Nat.le_of_ble_eq_true rfl)) dL_law_472 ⟨(by show _ ≤ 600000; omega), (by show _ ≤ 7302250; omega)⟩) (fun r9 u9 H locs hw hP hD hS => ?_)
      obtain ⟨⟨db, di⟩, u9⟩ := u9
      obtain ⟨hw1, hw2⟩ := hw
      have hw1 : r = r9 := hw1.symm
      have hw2 : g1 = u9 := hw2.symm
      subst hw1
      subst hw2
      refine lv_aload_n hx hb dL_law_475 rfl (lv_at hl 2 rfl) ?_
      refine lv_aload_n hx hb dL_law_476 rfl (lv_at hl 0 rfl) ?_
      refine lv_iload_n hx hb dL_law_477 rfl (lv_at hl 3 rfl) ?_
      refine lv_iconst (v := 1) hx hb dL_law_478 rfl ?_
      refine lv_iadd hx hb dL_law_479 ?_
      refine va_sld hx hb hX hbl hbA hS hin1 dL_law_480 ?_
      have hrm := va_recv hC.1 hP (ci := 9) (q0 := 0) rfl rfl
      have hP := hP.perm List.perm_append_comm
      have hD := hD.perm List.perm_append_comm
      refine cp_i (wr := wGC E a db di g1) (wc := wMD E aM md) (wf := (fun q : MD => wMD E aM q)) hP hD hS hA (va_runV (As := [.int (xs (i + 1).toNatClampNeg)]) (rest := [.int r]) ⟨hx, hb, hml, hown, hts⟩ (c_X11_up l E H.size aM md (xs (i + 1).toNatClampNeg) (r, md1) e2) (cwV 1 hts gL_law_X11_up rfl rfl rfl hdV_X11_up ⟨Nat.le_of_ble_eq_true rfl, Nat.le_of_ble_eq_true rfl⟩) ⟨PW.blind, hrm, PW.pre hC hS (va_P.of (fun z hz => hP.mem (List.mem_append_right _ hz))) hD.right (va_freeR hD hS hA)⟩ rfl rfl hl.1 rfl (lv_room (Nat.le_of_ble_eq_true rfl)) dL_law_481 ⟨(by show _ ≤ 600000; omega), (by show _ ≤ 7302250; omega)⟩) (fun r9 u9 H locs hw hP hD hS => ?_)
      obtain ⟨hw1, hw2⟩ := hw
      have hw1 : r = r9 := hw1.symm
      have hw2 : md1 = u9 := hw2.symm
      subst hw1
      subst hw2
      have hP := hP.perm List.perm_append_comm
      have hD := hD.perm List.perm_append_comm
      refine lv_icmp_eq (tgt := 1060) hx hb dL_law_484 rfl (fun c9 => ?_) (fun c9 => absurd rfl c9)
      refine W.widen (k := 60 + 20 * (n + 1)) (n := 8000 + 1859 * (n + 1)) (by omega) (by omega) ?_
      exact J g1 md1 hsim1 db di H locs hP hD hS
    by_cases s13 : z = 13
    · refine lv_tableIn (tgt := 489) (off := 457) hx hb dL_law_32 (by rw [s13]; decide) (by rw [s13]; decide) (by rw [s13]; rfl) rfl ?_
      obtain ⟨r, g1, md1, e1, e2, hsim1⟩ := h_spoil n g md (xs (i + 1).toNatClampNeg) (xs (i + 2).toNatClampNeg) hn1 hsim
      refine lv_aload_n hx hb dL_law_489 rfl (lv_at hl 1 rfl) ?_
      refine lv_aload_n hx hb dL_law_490 rfl (lv_at hl 0 rfl) ?_
      refine lv_iload_n hx hb dL_law_491 rfl (lv_at hl 3 rfl) ?_
      refine lv_iconst (v := 1) hx hb dL_law_492 rfl ?_
      refine lv_iadd hx hb dL_law_493 ?_
      refine va_sld hx hb hX hbl hbA hS hin1 dL_law_494 ?_
      refine lv_aload_n hx hb dL_law_495 rfl (lv_at hl 0 rfl) ?_
      refine lv_iload_n hx hb dL_law_496 rfl (lv_at hl 3 rfl) ?_
      refine lv_iconst (v := 2) hx hb dL_law_497 rfl ?_
      refine lv_iadd hx hb dL_law_498 ?_
      refine va_sld hx hb hX hbl hbA hS hin2 dL_law_499 ?_
      refine cp_i (wr := wMD E aM md) (wc := wGC E a db di g) (wf := (fun q : DA × GC => wGC E a q.1.1 q.1.2 q.2)) hP hD hS hA (va_runV (As := [.int (xs (i + 1).toNatClampNeg), .int (xs (i + 2).toNatClampNeg)]) (rest := []) ⟨hx, hb, hml, hown, hts⟩ (c_X10_spoil l E H.size a db di g (xs (i + 1).toNatClampNeg) (xs (i + 2).toNatClampNeg) (r, g1) e1) (cwV 2 hts gL_law_X10_spoil rfl rfl rfl hdV_X10_spoil ⟨Nat.le_of_ble_eq_true rfl, Nat.le_of_ble_eq_true rfl⟩) ⟨PW.blind, va_recv hC.1 hP (ci := 8) (q0 := 8) rfl rfl, PW.pre hC hS (va_P.of (fun z hz => hP.mem (List.mem_append_right _ hz))) hD.right (va_freeR hD hS hA)⟩ rfl rfl hl.1 rfl (lv_room (Nat.le_of_ble_eq_true rfl)) dL_law_500 ⟨(by show _ ≤ 600000; omega), (by show _ ≤ 7302250; omega)⟩) (fun r9 u9 H locs hw hP hD hS => ?_)
      obtain ⟨⟨db, di⟩, u9⟩ := u9
      obtain ⟨hw1, hw2⟩ := hw
      have hw1 : r = r9 := hw1.symm
      have hw2 : g1 = u9 := hw2.symm
      subst hw1
      subst hw2
      refine lv_aload_n hx hb dL_law_503 rfl (lv_at hl 2 rfl) ?_
      refine lv_aload_n hx hb dL_law_504 rfl (lv_at hl 0 rfl) ?_
      refine lv_iload_n hx hb dL_law_505 rfl (lv_at hl 3 rfl) ?_
      refine lv_iconst (v := 1) hx hb dL_law_506 rfl ?_
      refine lv_iadd hx hb dL_law_507 ?_
      refine va_sld hx hb hX hbl hbA hS hin1 dL_law_508 ?_
      refine lv_aload_n hx hb dL_law_509 rfl (lv_at hl 0 rfl) ?_
      refine lv_iload_n hx hb dL_law_510 rfl (lv_at hl 3 rfl) ?_
      refine lv_iconst (v := 2) hx hb dL_law_511 rfl ?_
      refine lv_iadd hx hb dL_law_512 ?_
      refine va_sld hx hb hX hbl hbA hS hin2 dL_law_513 ?_
      have hrm := va_recv hC.1 hP (ci := 9) (q0 := 0) rfl rfl
      have hP := hP.perm List.perm_append_comm
      have hD := hD.perm List.perm_append_comm
      refine cp_i (wr := wGC E a db di g1) (wc := wMD E aM md) (wf := (fun q : MD => wMD E aM q)) hP hD hS hA (va_runV (As := [.int (xs (i + 1).toNatClampNeg), .int (xs (i + 2).toNatClampNeg)]) (rest := [.int r]) ⟨hx, hb, hml, hown, hts⟩ (c_X11_spoil l E H.size aM md (xs (i + 1).toNatClampNeg) (xs (i + 2).toNatClampNeg) (r, md1) e2) (cwV 2 hts gL_law_X11_spoil rfl rfl rfl hdV_X11_spoil ⟨Nat.le_of_ble_eq_true rfl, Nat.le_of_ble_eq_true rfl⟩) ⟨PW.blind, hrm, PW.pre hC hS (va_P.of (fun z hz => hP.mem (List.mem_append_right _ hz))) hD.right (va_freeR hD hS hA)⟩ rfl rfl hl.1 rfl (lv_room (Nat.le_of_ble_eq_true rfl)) dL_law_514 ⟨(by show _ ≤ 600000; omega), (by show _ ≤ 7302250; omega)⟩) (fun r9 u9 H locs hw hP hD hS => ?_)
      obtain ⟨hw1, hw2⟩ := hw
      have hw1 : r = r9 := hw1.symm
      have hw2 : md1 = u9 := hw2.symm
      subst hw1
      subst hw2
      have hP := hP.perm List.perm_append_comm
      have hD := hD.perm List.perm_append_comm
      refine lv_icmp_eq (tgt := 1060) hx hb dL_law_517 rfl (fun c9 => ?_) (fun c9 => absurd rfl c9)
      refine W.widen (k := 60 + 20 * (n + 1)) (n := 8000 + 1859 * (n + 1)) (by omega) (by omega) ?_
      exact J g1 md1 hsim1 db di H locs hP hD hS
    by_cases s14 : z = 14
    · refine lv_tableIn (tgt := 522) (off := 490) hx hb dL_law_32 (by rw [s14]; decide) (by rw [s14]; decide) (by rw [s14]; rfl) rfl ?_
      obtain ⟨r, g1, md1, e1, e2, hsim1⟩ := h_beat n g md (xs (i + 1).toNatClampNeg) hn1 hsim
      refine lv_aload_n hx hb dL_law_522 rfl (lv_at hl 1 rfl) ?_
      refine lv_aload_n hx hb dL_law_523 rfl (lv_at hl 0 rfl) ?_
      refine lv_iload_n hx hb dL_law_524 rfl (lv_at hl 3 rfl) ?_
      refine lv_iconst (v := 1) hx hb dL_law_525 rfl ?_
      refine lv_iadd hx hb dL_law_526 ?_
      refine va_sld hx hb hX hbl hbA hS hin1 dL_law_527 ?_
      refine cp_i (wr := wMD E aM md) (wc := wGC E a db di g) (wf := (fun q : DA × GC => wGC E a q.1.1 q.1.2 q.2)) hP hD hS hA (va_runV (As := [.int (xs (i + 1).toNatClampNeg)]) (rest := []) ⟨hx, hb, hml, hown, hts⟩ (c_X10_beat l E H.size a db di g (xs (i + 1).toNatClampNeg) (r, g1) e1) (cwV 1 hts gL_law_X10_beat rfl rfl rfl hdV_X10_beat ⟨Nat.le_of_ble_eq_true rfl, Nat.le_of_ble_eq_true rfl⟩) ⟨PW.blind, va_recv hC.1 hP (ci := 8) (q0 := 8) rfl rfl, PW.pre hC hS (va_P.of (fun z hz => hP.mem (List.mem_append_right _ hz))) hD.right (va_freeR hD hS hA)⟩ rfl rfl hl.1 rfl (lv_room (Nat.le_of_ble_eq_true rfl)) dL_law_528 ⟨(by show _ ≤ 600000; omega), (by show _ ≤ 7302250; omega)⟩) (fun r9 u9 H locs hw hP hD hS => ?_)
      obtain ⟨⟨db, di⟩, u9⟩ := u9
      obtain ⟨hw1, hw2⟩ := hw
      have hw1 : r = r9 := hw1.symm
      have hw2 : g1 = u9 := hw2.symm
      subst hw1
      subst hw2
      refine lv_aload_n hx hb dL_law_531 rfl (lv_at hl 2 rfl) ?_
      refine lv_aload_n hx hb dL_law_532 rfl (lv_at hl 0 rfl) ?_
      refine lv_iload_n hx hb dL_law_533 rfl (lv_at hl 3 rfl) ?_
      refine lv_iconst (v := 1) hx hb dL_law_534 rfl ?_
      refine lv_iadd hx hb dL_law_535 ?_
      refine va_sld hx hb hX hbl hbA hS hin1 dL_law_536 ?_
      have hrm := va_recv hC.1 hP (ci := 9) (q0 := 0) rfl rfl
      have hP := hP.perm List.perm_append_comm
      have hD := hD.perm List.perm_append_comm
      refine cp_i (wr := wGC E a db di g1) (wc := wMD E aM md) (wf := (fun q : MD => wMD E aM q)) hP hD hS hA (va_runV (As := [.int (xs (i + 1).toNatClampNeg)]) (rest := [.int r]) ⟨hx, hb, hml, hown, hts⟩ (c_X11_beat l E H.size aM md (xs (i + 1).toNatClampNeg) (r, md1) e2) (cwV 1 hts gL_law_X11_beat rfl rfl rfl hdV_X11_beat ⟨Nat.le_of_ble_eq_true rfl, Nat.le_of_ble_eq_true rfl⟩) ⟨PW.blind, hrm, PW.pre hC hS (va_P.of (fun z hz => hP.mem (List.mem_append_right _ hz))) hD.right (va_freeR hD hS hA)⟩ rfl rfl hl.1 rfl (lv_room (Nat.le_of_ble_eq_true rfl)) dL_law_537 ⟨(by show _ ≤ 600000; omega), (by show _ ≤ 7302250; omega)⟩) (fun r9 u9 H locs hw hP hD hS => ?_)
      obtain ⟨hw1, hw2⟩ := hw
      have hw1 : r = r9 := hw1.symm
      have hw2 : md1 = u9 := hw2.symm
      subst hw1
      subst hw2
      have hP := hP.perm List.perm_append_comm
      have hD := hD.perm List.perm_append_comm
      refine lv_icmp_eq (tgt := 1060) hx hb dL_law_540 rfl (fun c9 => ?_) (fun c9 => absurd rfl c9)
      refine W.widen (k := 60 + 20 * (n + 1)) (n := 8000 + 1859 * (n + 1)) (by omega) (by omega) ?_
      exact J g1 md1 hsim1 db di H locs hP hD hS
    by_cases s15 : z = 15
    · refine lv_tableIn (tgt := 545) (off := 513) hx hb dL_law_32 (by rw [s15]; decide) (by rw [s15]; decide) (by rw [s15]; rfl) rfl ?_
      obtain ⟨r, g1, md1, e1, e2, hsim1⟩ := h_mend n g md hn1 hsim
      refine lv_aload_n hx hb dL_law_545 rfl (lv_at hl 1 rfl) ?_
      refine cp_i (wr := wMD E aM md) (wc := wGC E a db di g) (wf := (fun q : DA × GC => wGC E a q.1.1 q.1.2 q.2)) hP hD hS hA (va_runV (As := []) (rest := []) ⟨hx, hb, hml, hown, hts⟩ (c_X10_mend l E H.size a db di g (r, g1) e1) (cwV 0 hts gL_law_X10_mend rfl rfl rfl hdV_X10_mend ⟨Nat.le_of_ble_eq_true rfl, Nat.le_of_ble_eq_true rfl⟩) ⟨PW.blind, va_recv hC.1 hP (ci := 8) (q0 := 8) rfl rfl, PW.pre hC hS (va_P.of (fun z hz => hP.mem (List.mem_append_right _ hz))) hD.right (va_freeR hD hS hA)⟩ rfl rfl hl.1 rfl (lv_room (Nat.le_of_ble_eq_true rfl)) dL_law_546 ⟨(by show _ ≤ 600000; omega), (by show _ ≤ 7302250; omega)⟩) (fun r9 u9 H locs hw hP hD hS => ?_)
      obtain ⟨⟨db, di⟩, u9⟩ := u9
      obtain ⟨hw1, hw2⟩ := hw
      have hw1 : r = r9 := hw1.symm
      have hw2 : g1 = u9 := hw2.symm
      subst hw1
      subst hw2
      refine lv_aload_n hx hb dL_law_549 rfl (lv_at hl 2 rfl) ?_
      have hrm := va_recv hC.1 hP (ci := 9) (q0 := 0) rfl rfl
      have hP := hP.perm List.perm_append_comm
      have hD := hD.perm List.perm_append_comm
      refine cp_i (wr := wGC E a db di g1) (wc := wMD E aM md) (wf := (fun q : MD => wMD E aM q)) hP hD hS hA (va_runV (As := []) (rest := [.int r]) ⟨hx, hb, hml, hown, hts⟩ (c_X11_mend l E H.size aM md (r, md1) e2) (cwV 0 hts gL_law_X11_mend rfl rfl rfl hdV_X11_mend ⟨Nat.le_of_ble_eq_true rfl, Nat.le_of_ble_eq_true rfl⟩) ⟨PW.blind, hrm, PW.pre hC hS (va_P.of (fun z hz => hP.mem (List.mem_append_right _ hz))) hD.right (va_freeR hD hS hA)⟩ rfl rfl hl.1 rfl (lv_room (Nat.le_of_ble_eq_true rfl)) dL_law_550 ⟨(by show _ ≤ 600000; omega), (by show _ ≤ 7302250; omega)⟩) (fun r9 u9 H locs hw hP hD hS => ?_)
      obtain ⟨hw1, hw2⟩ := hw
      have hw1 : r = r9 := hw1.symm
      have hw2 : md1 = u9 := hw2.symm
      subst hw1
      subst hw2
      have hP := hP.perm List.perm_append_comm
      have hD := hD.perm List.perm_append_comm
      refine lv_icmp_eq (tgt := 1060) hx hb dL_law_553 rfl (fun c9 => ?_) (fun c9 => absurd rfl c9)
      refine W.widen (k := 60 + 20 * (n + 1)) (n := 8000 + 1859 * (n + 1)) (by omega) (by omega) ?_
      exact J g1 md1 hsim1 db di H locs hP hD hS
    by_cases s16 : z = 16
    · refine lv_tableIn (tgt := 558) (off := 526) hx hb dL_law_32 (by rw [s16]; decide) (by rw [s16]; decide) (by rw [s16]; rfl) rfl ?_
      obtain ⟨r, e1, e2, hsim1⟩ := h_server n g md (xs (i + 1).toNatClampNeg) (xs (i + 2).toNatClampNeg) hn1 hsim
      refine lv_aload_n hx hb dL_law_558 rfl (lv_at hl 1 rfl) ?_
      refine lv_aload_n hx hb dL_law_559 rfl (lv_at hl 0 rfl) ?_
      refine lv_iload_n hx hb dL_law_560 rfl (lv_at hl 3 rfl) ?_
      refine lv_iconst (v := 1) hx hb dL_law_561 rfl ?_
      refine lv_iadd hx hb dL_law_562 ?_
      refine va_sld hx hb hX hbl hbA hS hin1 dL_law_563 ?_
      refine lv_aload_n hx hb dL_law_564 rfl (lv_at hl 0 rfl) ?_
      refine lv_iload_n hx hb dL_law_565 rfl (lv_at hl 3 rfl) ?_
      refine lv_iconst (v := 2) hx hb dL_law_566 rfl ?_
      refine lv_iadd hx hb dL_law_567 ?_
      refine va_sld hx hb hX hbl hbA hS hin2 dL_law_568 ?_
      refine cr_i (va_runV (As := [.int (xs (i + 1).toNatClampNeg), .int (xs (i + 2).toNatClampNeg)]) (rest := []) ⟨hx, hb, hml, hown, hts⟩ (c_X10_server l E a db di g (xs (i + 1).toNatClampNeg) (xs (i + 2).toNatClampNeg) r e1) (cwV 2 hts gL_law_X10_server rfl rfl rfl hdV_X10_server ⟨Nat.le_of_ble_eq_true rfl, Nat.le_of_ble_eq_true rfl⟩) ⟨PR.blind, va_recv hC.1 hP (ci := 8) (q0 := 8) rfl rfl, PR.pre hC hS (va_P.of (fun z hz => hP.mem (List.mem_append_right _ hz)))⟩ rfl rfl hl.1 rfl (lv_room (Nat.le_of_ble_eq_true rfl)) dL_law_569 ⟨(by show _ ≤ 600000; omega), (by show _ ≤ 7302250; omega)⟩) ?_
      refine lv_aload_n hx hb dL_law_572 rfl (lv_at hl 2 rfl) ?_
      refine lv_aload_n hx hb dL_law_573 rfl (lv_at hl 0 rfl) ?_
      refine lv_iload_n hx hb dL_law_574 rfl (lv_at hl 3 rfl) ?_
      refine lv_iconst (v := 1) hx hb dL_law_575 rfl ?_
      refine lv_iadd hx hb dL_law_576 ?_
      refine va_sld hx hb hX hbl hbA hS hin1 dL_law_577 ?_
      refine lv_aload_n hx hb dL_law_578 rfl (lv_at hl 0 rfl) ?_
      refine lv_iload_n hx hb dL_law_579 rfl (lv_at hl 3 rfl) ?_
      refine lv_iconst (v := 2) hx hb dL_law_580 rfl ?_
      refine lv_iadd hx hb dL_law_581 ?_
      refine va_sld hx hb hX hbl hbA hS hin2 dL_law_582 ?_
      refine cr_i (va_runV (As := [.int (xs (i + 1).toNatClampNeg), .int (xs (i + 2).toNatClampNeg)]) (rest := [.int r]) ⟨hx, hb, hml, hown, hts⟩ (c_X11_server l E aM md (xs (i + 1).toNatClampNeg) (xs (i + 2).toNatClampNeg) r e2) (cwV 2 hts gL_law_X11_server rfl rfl rfl hdV_X11_server ⟨Nat.le_of_ble_eq_true rfl, Nat.le_of_ble_eq_true rfl⟩) ⟨PR.blind, va_recv hC.1 hP (ci := 9) (q0 := 0) rfl rfl, PR.pre hC hS (va_P.of (fun z hz => hP.mem (List.mem_append_left _ hz)))⟩ rfl rfl hl.1 rfl (lv_room (Nat.le_of_ble_eq_true rfl)) dL_law_583 ⟨(by show _ ≤ 600000; omega), (by show _ ≤ 7302250; omega)⟩) ?_
      refine lv_icmp_eq (tgt := 1060) hx hb dL_law_586 rfl (fun c9 => ?_) (fun c9 => absurd rfl c9)
      refine W.widen (k := 60 + 20 * (n + 1)) (n := 8000 + 1859 * (n + 1)) (by omega) (by omega) ?_
      exact J g md hsim1 db di H locs hP hD hS
    by_cases s17 : z = 17
    · refine lv_tableIn (tgt := 591) (off := 559) hx hb dL_law_32 (by rw [s17]; decide) (by rw [s17]; decide) (by rw [s17]; rfl) rfl ?_
      obtain ⟨r, e1, e2, hsim1⟩ := h_chunk n g md (xs (i + 1).toNatClampNeg) (xs (i + 2).toNatClampNeg) hn1 hsim
      refine lv_aload_n hx hb dL_law_591 rfl (lv_at hl 1 rfl) ?_
      refine lv_aload_n hx hb dL_law_592 rfl (lv_at hl 0 rfl) ?_
      refine lv_iload_n hx hb dL_law_593 rfl (lv_at hl 3 rfl) ?_
      refine lv_iconst (v := 1) hx hb dL_law_594 rfl ?_
      refine lv_iadd hx hb dL_law_595 ?_
      refine va_sld hx hb hX hbl hbA hS hin1 dL_law_596 ?_
      refine lv_aload_n hx hb dL_law_597 rfl (lv_at hl 0 rfl) ?_
      refine lv_iload_n hx hb dL_law_598 rfl (lv_at hl 3 rfl) ?_
      refine lv_iconst (v := 2) hx hb dL_law_599 rfl ?_
      refine lv_iadd hx hb dL_law_600 ?_
      refine va_sld hx hb hX hbl hbA hS hin2 dL_law_601 ?_
      refine cr_i (va_runV (As := [.int (xs (i + 1).toNatClampNeg), .int (xs (i + 2).toNatClampNeg)]) (rest := []) ⟨hx, hb, hml, hown, hts⟩ (c_X10_chunk l E a db di g (xs (i + 1).toNatClampNeg) (xs (i + 2).toNatClampNeg) r e1) (cwV 2 hts gL_law_X10_chunk rfl rfl rfl hdV_X10_chunk ⟨Nat.le_of_ble_eq_true rfl, Nat.le_of_ble_eq_true rfl⟩) ⟨PR.blind, va_recv hC.1 hP (ci := 8) (q0 := 8) rfl rfl, PR.pre hC hS (va_P.of (fun z hz => hP.mem (List.mem_append_right _ hz)))⟩ rfl rfl hl.1 rfl (lv_room (Nat.le_of_ble_eq_true rfl)) dL_law_602 ⟨(by show _ ≤ 600000; omega), (by show _ ≤ 7302250; omega)⟩) ?_
      refine lv_aload_n hx hb dL_law_605 rfl (lv_at hl 2 rfl) ?_
      refine lv_aload_n hx hb dL_law_606 rfl (lv_at hl 0 rfl) ?_
      refine lv_iload_n hx hb dL_law_607 rfl (lv_at hl 3 rfl) ?_
      refine lv_iconst (v := 1) hx hb dL_law_608 rfl ?_
      refine lv_iadd hx hb dL_law_609 ?_
      refine va_sld hx hb hX hbl hbA hS hin1 dL_law_610 ?_
      refine lv_aload_n hx hb dL_law_611 rfl (lv_at hl 0 rfl) ?_
      refine lv_iload_n hx hb dL_law_612 rfl (lv_at hl 3 rfl) ?_
      refine lv_iconst (v := 2) hx hb dL_law_613 rfl ?_
      refine lv_iadd hx hb dL_law_614 ?_
      refine va_sld hx hb hX hbl hbA hS hin2 dL_law_615 ?_
      refine cr_i (va_runV (As := [.int (xs (i + 1).toNatClampNeg), .int (xs (i + 2).toNatClampNeg)]) (rest := [.int r]) ⟨hx, hb, hml, hown, hts⟩ (c_X11_chunk l E aM md (xs (i + 1).toNatClampNeg) (xs (i + 2).toNatClampNeg) r e2) (cwV 2 hts gL_law_X11_chunk rfl rfl rfl hdV_X11_chunk ⟨Nat.le_of_ble_eq_true rfl, Nat.le_of_ble_eq_true rfl⟩) ⟨PR.blind, va_recv hC.1 hP (ci := 9) (q0 := 0) rfl rfl, PR.pre hC hS (va_P.of (fun z hz => hP.mem (List.mem_append_left _ hz)))⟩ rfl rfl hl.1 rfl (lv_room (Nat.le_of_ble_eq_true rfl)) dL_law_616 ⟨(by show _ ≤ 600000; omega), (by show _ ≤ 7302250; omega)⟩) ?_
      refine lv_icmp_eq (tgt := 1060) hx hb dL_law_619 rfl (fun c9 => ?_) (fun c9 => absurd rfl c9)
      refine W.widen (k := 60 + 20 * (n + 1)) (n := 8000 + 1859 * (n + 1)) (by omega) (by omega) ?_
      exact J g md hsim1 db di H locs hP hD hS
    by_cases s18 : z = 18
    · refine lv_tableIn (tgt := 624) (off := 592) hx hb dL_law_32 (by rw [s18]; decide) (by rw [s18]; decide) (by rw [s18]; rfl) rfl ?_
      obtain ⟨r, e1, e2, hsim1⟩ := h_file n g md (xs (i + 1).toNatClampNeg) (xs (i + 2).toNatClampNeg) hn1 hsim
      refine lv_aload_n hx hb dL_law_624 rfl (lv_at hl 1 rfl) ?_
      refine lv_aload_n hx hb dL_law_625 rfl (lv_at hl 0 rfl) ?_
      refine lv_iload_n hx hb dL_law_626 rfl (lv_at hl 3 rfl) ?_
      refine lv_iconst (v := 1) hx hb dL_law_627 rfl ?_
      refine lv_iadd hx hb dL_law_628 ?_
      refine va_sld hx hb hX hbl hbA hS hin1 dL_law_629 ?_
      refine lv_aload_n hx hb dL_law_630 rfl (lv_at hl 0 rfl) ?_
      refine lv_iload_n hx hb dL_law_631 rfl (lv_at hl 3 rfl) ?_
      refine lv_iconst (v := 2) hx hb dL_law_632 rfl ?_
      refine lv_iadd hx hb dL_law_633 ?_
      refine va_sld hx hb hX hbl hbA hS hin2 dL_law_634 ?_
      refine cr_i (va_runV (As := [.int (xs (i + 1).toNatClampNeg), .int (xs (i + 2).toNatClampNeg)]) (rest := []) ⟨hx, hb, hml, hown, hts⟩ (c_X10_file l E a db di g (xs (i + 1).toNatClampNeg) (xs (i + 2).toNatClampNeg) r e1) (cwV 2 hts gL_law_X10_file rfl rfl rfl hdV_X10_file ⟨Nat.le_of_ble_eq_true rfl, Nat.le_of_ble_eq_true rfl⟩) ⟨PR.blind, va_recv hC.1 hP (ci := 8) (q0 := 8) rfl rfl, PR.pre hC hS (va_P.of (fun z hz => hP.mem (List.mem_append_right _ hz)))⟩ rfl rfl hl.1 rfl (lv_room (Nat.le_of_ble_eq_true rfl)) dL_law_635 ⟨(by show _ ≤ 600000; omega), (by show _ ≤ 7302250; omega)⟩) ?_
      refine lv_aload_n hx hb dL_law_638 rfl (lv_at hl 2 rfl) ?_
      refine lv_aload_n hx hb dL_law_639 rfl (lv_at hl 0 rfl) ?_
      refine lv_iload_n hx hb dL_law_640 rfl (lv_at hl 3 rfl) ?_
      refine lv_iconst (v := 1) hx hb dL_law_641 rfl ?_
      refine lv_iadd hx hb dL_law_642 ?_
      refine va_sld hx hb hX hbl hbA hS hin1 dL_law_643 ?_
      refine lv_aload_n hx hb dL_law_644 rfl (lv_at hl 0 rfl) ?_
      refine lv_iload_n hx hb dL_law_645 rfl (lv_at hl 3 rfl) ?_
      refine lv_iconst (v := 2) hx hb dL_law_646 rfl ?_
      refine lv_iadd hx hb dL_law_647 ?_
      refine va_sld hx hb hX hbl hbA hS hin2 dL_law_648 ?_
      refine cr_i (va_runV (As := [.int (xs (i + 1).toNatClampNeg), .int (xs (i + 2).toNatClampNeg)]) (rest := [.int r]) ⟨hx, hb, hml, hown, hts⟩ (c_X11_file l E aM md (xs (i + 1).toNatClampNeg) (xs (i + 2).toNatClampNeg) r e2) (cwV 2 hts gL_law_X11_file rfl rfl rfl hdV_X11_file ⟨Nat.le_of_ble_eq_true rfl, Nat.le_of_ble_eq_true rfl⟩) ⟨PR.blind, va_recv hC.1 hP (ci := 9) (q0 := 0) rfl rfl, PR.pre hC hS (va_P.of (fun z hz => hP.mem (List.mem_append_left _ hz)))⟩ rfl rfl hl.1 rfl (lv_room (Nat.le_of_ble_eq_true rfl)) dL_law_649 ⟨(by show _ ≤ 600000; omega), (by show _ ≤ 7302250; omega)⟩) ?_
      refine lv_icmp_eq (tgt := 1060) hx hb dL_law_652 rfl (fun c9 => ?_) (fun c9 => absurd rfl c9)
      refine W.widen (k := 60 + 20 * (n + 1)) (n := 8000 + 1859 * (n + 1)) (by omega) (by omega) ?_
      exact J g md hsim1 db di H locs hP hD hS
    by_cases s19 : z = 19
    · refine lv_tableIn (tgt := 657) (off := 625) hx hb dL_law_32 (by rw [s19]; decide) (by rw [s19]; decide) (by rw [s19]; rfl) rfl ?_
      obtain ⟨r, e1, e2, hsim1⟩ := h_part n g md (xs (i + 1).toNatClampNeg) (xs (i + 2).toNatClampNeg) (xs (i + 3).toNatClampNeg) hn1 hsim
      refine lv_aload_n hx hb dL_law_657 rfl (lv_at hl 1 rfl) ?_
      refine lv_aload_n hx hb dL_law_658 rfl (lv_at hl 0 rfl) ?_
      refine lv_iload_n hx hb dL_law_659 rfl (lv_at hl 3 rfl) ?_
      refine lv_iconst (v := 1) hx hb dL_law_660 rfl ?_
      refine lv_iadd hx hb dL_law_661 ?_
      refine va_sld hx hb hX hbl hbA hS hin1 dL_law_662 ?_
      refine lv_aload_n hx hb dL_law_663 rfl (lv_at hl 0 rfl) ?_
      refine lv_iload_n hx hb dL_law_664 rfl (lv_at hl 3 rfl) ?_
      refine lv_iconst (v := 2) hx hb dL_law_665 rfl ?_
      refine lv_iadd hx hb dL_law_666 ?_
      refine va_sld hx hb hX hbl hbA hS hin2 dL_law_667 ?_
      refine lv_aload_n hx hb dL_law_668 rfl (lv_at hl 0 rfl) ?_
      refine lv_iload_n hx hb dL_law_669 rfl (lv_at hl 3 rfl) ?_
      refine lv_iconst (v := 3) hx hb dL_law_670 rfl ?_
      refine lv_iadd hx hb dL_law_671 ?_
      refine va_sld hx hb hX hbl hbA hS hin3 dL_law_672 ?_
      refine cr_i (va_runV (As := [.int (xs (i + 1).toNatClampNeg), .int (xs (i + 2).toNatClampNeg), .int (xs (i + 3).toNatClampNeg)]) (rest := []) ⟨hx, hb, hml, hown, hts⟩ (c_X10_part l E a db di g (xs (i + 1).toNatClampNeg) (xs (i + 2).toNatClampNeg) (xs (i + 3).toNatClampNeg) r e1) (cwV 3 hts gL_law_X10_part rfl rfl rfl hdV_X10_part ⟨Nat.le_of_ble_eq_true rfl, Nat.le_of_ble_eq_true rfl⟩) ⟨PR.blind, va_recv hC.1 hP (ci := 8) (q0 := 8) rfl rfl, PR.pre hC hS (va_P.of (fun z hz => hP.mem (List.mem_append_right _ hz)))⟩ rfl rfl hl.1 rfl (lv_room (Nat.le_of_ble_eq_true rfl)) dL_law_673 ⟨(by show _ ≤ 600000; omega), (by show _ ≤ 7302250; omega)⟩) ?_
      refine lv_aload_n hx hb dL_law_676 rfl (lv_at hl 2 rfl) ?_
      refine lv_aload_n hx hb dL_law_677 rfl (lv_at hl 0 rfl) ?_
      refine lv_iload_n hx hb dL_law_678 rfl (lv_at hl 3 rfl) ?_
      refine lv_iconst (v := 1) hx hb dL_law_679 rfl ?_
      refine lv_iadd hx hb dL_law_680 ?_
      refine va_sld hx hb hX hbl hbA hS hin1 dL_law_681 ?_
      refine lv_aload_n hx hb dL_law_682 rfl (lv_at hl 0 rfl) ?_
      refine lv_iload_n hx hb dL_law_683 rfl (lv_at hl 3 rfl) ?_
      refine lv_iconst (v := 2) hx hb dL_law_684 rfl ?_
      refine lv_iadd hx hb dL_law_685 ?_
      refine va_sld hx hb hX hbl hbA hS hin2 dL_law_686 ?_
      refine lv_aload_n hx hb dL_law_687 rfl (lv_at hl 0 rfl) ?_
      refine lv_iload_n hx hb dL_law_688 rfl (lv_at hl 3 rfl) ?_
      refine lv_iconst (v := 3) hx hb dL_law_689 rfl ?_
      refine lv_iadd hx hb dL_law_690 ?_
      refine va_sld hx hb hX hbl hbA hS hin3 dL_law_691 ?_
      refine cr_i (va_runV (As := [.int (xs (i + 1).toNatClampNeg), .int (xs (i + 2).toNatClampNeg), .int (xs (i + 3).toNatClampNeg)]) (rest := [.int r]) ⟨hx, hb, hml, hown, hts⟩ (c_X11_part l E aM md (xs (i + 1).toNatClampNeg) (xs (i + 2).toNatClampNeg) (xs (i + 3).toNatClampNeg) r e2) (cwV 3 hts gL_law_X11_part rfl rfl rfl hdV_X11_part ⟨Nat.le_of_ble_eq_true rfl, Nat.le_of_ble_eq_true rfl⟩) ⟨PR.blind, va_recv hC.1 hP (ci := 9) (q0 := 0) rfl rfl, PR.pre hC hS (va_P.of (fun z hz => hP.mem (List.mem_append_left _ hz)))⟩ rfl rfl hl.1 rfl (lv_room (Nat.le_of_ble_eq_true rfl)) dL_law_692 ⟨(by show _ ≤ 600000; omega), (by show _ ≤ 7302250; omega)⟩) ?_
      refine lv_icmp_eq (tgt := 1060) hx hb dL_law_695 rfl (fun c9 => ?_) (fun c9 => absurd rfl c9)
      refine W.widen (k := 60 + 20 * (n + 1)) (n := 8000 + 1859 * (n + 1)) (by omega) (by omega) ?_
      exact J g md hsim1 db di H locs hP hD hS
    by_cases s20 : z = 20
    · refine lv_tableIn (tgt := 700) (off := 668) hx hb dL_law_32 (by rw [s20]; decide) (by rw [s20]; decide) (by rw [s20]; rfl) rfl ?_
      obtain ⟨r, e1, e2, hsim1⟩ := h_read n g md (xs (i + 1).toNatClampNeg) (xs (i + 2).toNatClampNeg) (xs (i + 3).toNatClampNeg) hn1 hsim
      refine lv_aload_n hx hb dL_law_700 rfl (lv_at hl 1 rfl) ?_
      refine lv_aload_n hx hb dL_law_701 rfl (lv_at hl 0 rfl) ?_
      refine lv_iload_n hx hb dL_law_702 rfl (lv_at hl 3 rfl) ?_
      refine lv_iconst (v := 1) hx hb dL_law_703 rfl ?_
      refine lv_iadd hx hb dL_law_704 ?_
      refine va_sld hx hb hX hbl hbA hS hin1 dL_law_705 ?_
      refine lv_aload_n hx hb dL_law_706 rfl (lv_at hl 0 rfl) ?_
      refine lv_iload_n hx hb dL_law_707 rfl (lv_at hl 3 rfl) ?_
      refine lv_iconst (v := 2) hx hb dL_law_708 rfl ?_
      refine lv_iadd hx hb dL_law_709 ?_
      refine va_sld hx hb hX hbl hbA hS hin2 dL_law_710 ?_
      refine lv_aload_n hx hb dL_law_711 rfl (lv_at hl 0 rfl) ?_
      refine lv_iload_n hx hb dL_law_712 rfl (lv_at hl 3 rfl) ?_
      refine lv_iconst (v := 3) hx hb dL_law_713 rfl ?_
      refine lv_iadd hx hb dL_law_714 ?_
      refine va_sld hx hb hX hbl hbA hS hin3 dL_law_715 ?_
      refine cr_i (va_runV (As := [.int (xs (i + 1).toNatClampNeg), .int (xs (i + 2).toNatClampNeg), .int (xs (i + 3).toNatClampNeg)]) (rest := []) ⟨hx, hb, hml, hown, hts⟩ (c_X10_read l E a db di g (xs (i + 1).toNatClampNeg) (xs (i + 2).toNatClampNeg) (xs (i + 3).toNatClampNeg) r e1) (cwV 3 hts gL_law_X10_read rfl rfl rfl hdV_X10_read ⟨Nat.le_of_ble_eq_true rfl, Nat.le_of_ble_eq_true rfl⟩) ⟨PR.blind, va_recv hC.1 hP (ci := 8) (q0 := 8) rfl rfl, PR.pre hC hS (va_P.of (fun z hz => hP.mem (List.mem_append_right _ hz)))⟩ rfl rfl hl.1 rfl (lv_room (Nat.le_of_ble_eq_true rfl)) dL_law_716 ⟨(by show _ ≤ 600000; omega), (by show _ ≤ 7302250; omega)⟩) ?_
      refine lv_aload_n hx hb dL_law_719 rfl (lv_at hl 2 rfl) ?_
      refine lv_aload_n hx hb dL_law_720 rfl (lv_at hl 0 rfl) ?_
      refine lv_iload_n hx hb dL_law_721 rfl (lv_at hl 3 rfl) ?_
      refine lv_iconst (v := 1) hx hb dL_law_722 rfl ?_
      refine lv_iadd hx hb dL_law_723 ?_
      refine va_sld hx hb hX hbl hbA hS hin1 dL_law_724 ?_
      refine lv_aload_n hx hb dL_law_725 rfl (lv_at hl 0 rfl) ?_
      refine lv_iload_n hx hb dL_law_726 rfl (lv_at hl 3 rfl) ?_
      refine lv_iconst (v := 2) hx hb dL_law_727 rfl ?_
      refine lv_iadd hx hb dL_law_728 ?_
      refine va_sld hx hb hX hbl hbA hS hin2 dL_law_729 ?_
      refine lv_aload_n hx hb dL_law_730 rfl (lv_at hl 0 rfl) ?_
      refine lv_iload_n hx hb dL_law_731 rfl (lv_at hl 3 rfl) ?_
      refine lv_iconst (v := 3) hx hb dL_law_732 rfl ?_
      refine lv_iadd hx hb dL_law_733 ?_
      refine va_sld hx hb hX hbl hbA hS hin3 dL_law_734 ?_
      refine cr_i (va_runV (As := [.int (xs (i + 1).toNatClampNeg), .int (xs (i + 2).toNatClampNeg), .int (xs (i + 3).toNatClampNeg)]) (rest := [.int r]) ⟨hx, hb, hml, hown, hts⟩ (c_X11_read l E aM md (xs (i + 1).toNatClampNeg) (xs (i + 2).toNatClampNeg) (xs (i + 3).toNatClampNeg) r e2) (cwV 3 hts gL_law_X11_read rfl rfl rfl hdV_X11_read ⟨Nat.le_of_ble_eq_true rfl, Nat.le_of_ble_eq_true rfl⟩) ⟨PR.blind, va_recv hC.1 hP (ci := 9) (q0 := 0) rfl rfl, PR.pre hC hS (va_P.of (fun z hz => hP.mem (List.mem_append_left _ hz)))⟩ rfl rfl hl.1 rfl (lv_room (Nat.le_of_ble_eq_true rfl)) dL_law_735 ⟨(by show _ ≤ 600000; omega), (by show _ ≤ 7302250; omega)⟩) ?_
      refine lv_icmp_eq (tgt := 1060) hx hb dL_law_738 rfl (fun c9 => ?_) (fun c9 => absurd rfl c9)
      refine W.widen (k := 60 + 20 * (n + 1)) (n := 8000 + 1859 * (n + 1)) (by omega) (by omega) ?_
      exact J g md hsim1 db di H locs hP hD hS
    by_cases s21 : z = 21
    · refine lv_tableIn (tgt := 743) (off := 711) hx hb dL_law_32 (by rw [s21]; decide) (by rw [s21]; decide) (by rw [s21]; rfl) rfl ?_
      obtain ⟨r, g1, md1, e1, e2, hsim1⟩ := h_find n g md (xs (i + 1).toNatClampNeg) hn1 hsim
      refine lv_aload_n hx hb dL_law_743 rfl (lv_at hl 1 rfl) ?_
      refine lv_aload_n hx hb dL_law_744 rfl (lv_at hl 0 rfl) ?_
      refine lv_iload_n hx hb dL_law_745 rfl (lv_at hl 3 rfl) ?_
      refine lv_iconst (v := 1) hx hb dL_law_746 rfl ?_
      refine lv_iadd hx hb dL_law_747 ?_
      refine va_sld hx hb hX hbl hbA hS hin1 dL_law_748 ?_
      refine cp_i (wr := wMD E aM md) (wc := wGC E a db di g) (wf := (fun q : DA × GC => wGC E a q.1.1 q.1.2 q.2)) hP hD hS hA (va_runV (As := [.int (xs (i + 1).toNatClampNeg)]) (rest := []) ⟨hx, hb, hml, hown, hts⟩ (c_X10_find l E H.size a db di g (xs (i + 1).toNatClampNeg) (r, g1) e1) (cwV 1 hts gL_law_X10_find rfl rfl rfl hdV_X10_find ⟨Nat.le_of_ble_eq_true rfl, Nat.le_of_ble_eq_true rfl⟩) ⟨PW.blind, va_recv hC.1 hP (ci := 8) (q0 := 8) rfl rfl, PW.pre hC hS (va_P.of (fun z hz => hP.mem (List.mem_append_right _ hz))) hD.right (va_freeR hD hS hA)⟩ rfl rfl hl.1 rfl (lv_room (Nat.le_of_ble_eq_true rfl)) dL_law_749 ⟨(by show _ ≤ 600000; omega), (by show _ ≤ 7302250; omega)⟩) (fun r9 u9 H locs hw hP hD hS => ?_)
      obtain ⟨⟨db, di⟩, u9⟩ := u9
      obtain ⟨hw1, hw2⟩ := hw
      have hw1 : r = r9 := hw1.symm
      have hw2 : g1 = u9 := hw2.symm
      subst hw1
      subst hw2
      refine lv_aload_n hx hb dL_law_752 rfl (lv_at hl 2 rfl) ?_
      refine lv_aload_n hx hb dL_law_753 rfl (lv_at hl 0 rfl) ?_
      refine lv_iload_n hx hb dL_law_754 rfl (lv_at hl 3 rfl) ?_
      refine lv_iconst (v := 1) hx hb dL_law_755 rfl ?_
      refine lv_iadd hx hb dL_law_756 ?_
      refine va_sld hx hb hX hbl hbA hS hin1 dL_law_757 ?_
      have hrm := va_recv hC.1 hP (ci := 9) (q0 := 0) rfl rfl
      have hP := hP.perm List.perm_append_comm
      have hD := hD.perm List.perm_append_comm
      refine cp_i (wr := wGC E a db di g1) (wc := wMD E aM md) (wf := (fun q : MD => wMD E aM q)) hP hD hS hA (va_runV (As := [.int (xs (i + 1).toNatClampNeg)]) (rest := [.int r]) ⟨hx, hb, hml, hown, hts⟩ (c_X11_find l E H.size aM md (xs (i + 1).toNatClampNeg) (r, md1) e2) (cwV 1 hts gL_law_X11_find rfl rfl rfl hdV_X11_find ⟨Nat.le_of_ble_eq_true rfl, Nat.le_of_ble_eq_true rfl⟩) ⟨PW.blind, hrm, PW.pre hC hS (va_P.of (fun z hz => hP.mem (List.mem_append_right _ hz))) hD.right (va_freeR hD hS hA)⟩ rfl rfl hl.1 rfl (lv_room (Nat.le_of_ble_eq_true rfl)) dL_law_758 ⟨(by show _ ≤ 600000; omega), (by show _ ≤ 7302250; omega)⟩) (fun r9 u9 H locs hw hP hD hS => ?_)
      obtain ⟨hw1, hw2⟩ := hw
      have hw1 : r = r9 := hw1.symm
      have hw2 : md1 = u9 := hw2.symm
      subst hw1
      subst hw2
      have hP := hP.perm List.perm_append_comm
      have hD := hD.perm List.perm_append_comm
      refine lv_icmp_eq (tgt := 1060) hx hb dL_law_761 rfl (fun c9 => ?_) (fun c9 => absurd rfl c9)
      refine W.widen (k := 60 + 20 * (n + 1)) (n := 8000 + 1859 * (n + 1)) (by omega) (by omega) ?_
      exact J g1 md1 hsim1 db di H locs hP hD hS
    by_cases s22 : z = 22
    · refine lv_tableIn (tgt := 766) (off := 734) hx hb dL_law_32 (by rw [s22]; decide) (by rw [s22]; decide) (by rw [s22]; rfl) rfl ?_
      obtain ⟨r, e1, e2, hsim1⟩ := h_sums n g md (xs (i + 1).toNatClampNeg) hn1 hsim
      refine lv_aload_n hx hb dL_law_766 rfl (lv_at hl 1 rfl) ?_
      refine lv_aload_n hx hb dL_law_767 rfl (lv_at hl 0 rfl) ?_
      refine lv_iload_n hx hb dL_law_768 rfl (lv_at hl 3 rfl) ?_
      refine lv_iconst (v := 1) hx hb dL_law_769 rfl ?_
      refine lv_iadd hx hb dL_law_770 ?_
      refine va_sld hx hb hX hbl hbA hS hin1 dL_law_771 ?_
      refine cr_i (va_runV (As := [.int (xs (i + 1).toNatClampNeg)]) (rest := []) ⟨hx, hb, hml, hown, hts⟩ (c_X10_sums l E a db di g (xs (i + 1).toNatClampNeg) r e1) (cwV 1 hts gL_law_X10_sums rfl rfl rfl hdV_X10_sums ⟨Nat.le_of_ble_eq_true rfl, Nat.le_of_ble_eq_true rfl⟩) ⟨PR.blind, va_recv hC.1 hP (ci := 8) (q0 := 8) rfl rfl, PR.pre hC hS (va_P.of (fun z hz => hP.mem (List.mem_append_right _ hz)))⟩ rfl rfl hl.1 rfl (lv_room (Nat.le_of_ble_eq_true rfl)) dL_law_772 ⟨(by show _ ≤ 600000; omega), (by show _ ≤ 7302250; omega)⟩) ?_
      refine lv_aload_n hx hb dL_law_775 rfl (lv_at hl 2 rfl) ?_
      refine lv_aload_n hx hb dL_law_776 rfl (lv_at hl 0 rfl) ?_
      refine lv_iload_n hx hb dL_law_777 rfl (lv_at hl 3 rfl) ?_
      refine lv_iconst (v := 1) hx hb dL_law_778 rfl ?_
      refine lv_iadd hx hb dL_law_779 ?_
      refine va_sld hx hb hX hbl hbA hS hin1 dL_law_780 ?_
      refine cr_i (va_runV (As := [.int (xs (i + 1).toNatClampNeg)]) (rest := [.int r]) ⟨hx, hb, hml, hown, hts⟩ (c_X11_sums l E aM md (xs (i + 1).toNatClampNeg) r e2) (cwV 1 hts gL_law_X11_sums rfl rfl rfl hdV_X11_sums ⟨Nat.le_of_ble_eq_true rfl, Nat.le_of_ble_eq_true rfl⟩) ⟨PR.blind, va_recv hC.1 hP (ci := 9) (q0 := 0) rfl rfl, PR.pre hC hS (va_P.of (fun z hz => hP.mem (List.mem_append_left _ hz)))⟩ rfl rfl hl.1 rfl (lv_room (Nat.le_of_ble_eq_true rfl)) dL_law_781 ⟨(by show _ ≤ 600000; omega), (by show _ ≤ 7302250; omega)⟩) ?_
      refine lv_icmp_eq (tgt := 1060) hx hb dL_law_784 rfl (fun c9 => ?_) (fun c9 => absurd rfl c9)
      refine W.widen (k := 60 + 20 * (n + 1)) (n := 8000 + 1859 * (n + 1)) (by omega) (by omega) ?_
      exact J g md hsim1 db di H locs hP hD hS
    by_cases s23 : z = 23
    · refine lv_tableIn (tgt := 789) (off := 757) hx hb dL_law_32 (by rw [s23]; decide) (by rw [s23]; decide) (by rw [s23]; rfl) rfl ?_
      obtain ⟨r, e1, e2, hsim1⟩ := h_as n g md (xs (i + 1).toNatClampNeg) (xs (i + 2).toNatClampNeg) hn1 hsim
      refine lv_aload_n hx hb dL_law_789 rfl (lv_at hl 1 rfl) ?_
      refine lv_aload_n hx hb dL_law_790 rfl (lv_at hl 0 rfl) ?_
      refine lv_iload_n hx hb dL_law_791 rfl (lv_at hl 3 rfl) ?_
      refine lv_iconst (v := 1) hx hb dL_law_792 rfl ?_
      refine lv_iadd hx hb dL_law_793 ?_
      refine va_sld hx hb hX hbl hbA hS hin1 dL_law_794 ?_
      refine lv_aload_n hx hb dL_law_795 rfl (lv_at hl 0 rfl) ?_
      refine lv_iload_n hx hb dL_law_796 rfl (lv_at hl 3 rfl) ?_
      refine lv_iconst (v := 2) hx hb dL_law_797 rfl ?_
      refine lv_iadd hx hb dL_law_798 ?_
      refine va_sld hx hb hX hbl hbA hS hin2 dL_law_799 ?_
      refine cr_i (va_runV (As := [.int (xs (i + 1).toNatClampNeg), .int (xs (i + 2).toNatClampNeg)]) (rest := []) ⟨hx, hb, hml, hown, hts⟩ (c_X10_as l E a db di g (xs (i + 1).toNatClampNeg) (xs (i + 2).toNatClampNeg) r e1) (cwV 2 hts gL_law_X10_as rfl rfl rfl hdV_X10_as ⟨Nat.le_of_ble_eq_true rfl, Nat.le_of_ble_eq_true rfl⟩) ⟨PR.blind, va_recv hC.1 hP (ci := 8) (q0 := 8) rfl rfl, PR.pre hC hS (va_P.of (fun z hz => hP.mem (List.mem_append_right _ hz)))⟩ rfl rfl hl.1 rfl (lv_room (Nat.le_of_ble_eq_true rfl)) dL_law_800 ⟨(by show _ ≤ 600000; omega), (by show _ ≤ 7302250; omega)⟩) ?_
      refine lv_aload_n hx hb dL_law_803 rfl (lv_at hl 2 rfl) ?_
      refine lv_aload_n hx hb dL_law_804 rfl (lv_at hl 0 rfl) ?_
      refine lv_iload_n hx hb dL_law_805 rfl (lv_at hl 3 rfl) ?_
      refine lv_iconst (v := 1) hx hb dL_law_806 rfl ?_
      refine lv_iadd hx hb dL_law_807 ?_
      refine va_sld hx hb hX hbl hbA hS hin1 dL_law_808 ?_
      refine lv_aload_n hx hb dL_law_809 rfl (lv_at hl 0 rfl) ?_
      refine lv_iload_n hx hb dL_law_810 rfl (lv_at hl 3 rfl) ?_
      refine lv_iconst (v := 2) hx hb dL_law_811 rfl ?_
      refine lv_iadd hx hb dL_law_812 ?_
      refine va_sld hx hb hX hbl hbA hS hin2 dL_law_813 ?_
      refine cr_i (va_runV (As := [.int (xs (i + 1).toNatClampNeg), .int (xs (i + 2).toNatClampNeg)]) (rest := [.int r]) ⟨hx, hb, hml, hown, hts⟩ (c_X11_as l E aM md (xs (i + 1).toNatClampNeg) (xs (i + 2).toNatClampNeg) r e2) (cwV 2 hts gL_law_X11_as rfl rfl rfl hdV_X11_as ⟨Nat.le_of_ble_eq_true rfl, Nat.le_of_ble_eq_true rfl⟩) ⟨PR.blind, va_recv hC.1 hP (ci := 9) (q0 := 0) rfl rfl, PR.pre hC hS (va_P.of (fun z hz => hP.mem (List.mem_append_left _ hz)))⟩ rfl rfl hl.1 rfl (lv_room (Nat.le_of_ble_eq_true rfl)) dL_law_814 ⟨(by show _ ≤ 600000; omega), (by show _ ≤ 7302250; omega)⟩) ?_
      refine lv_icmp_eq (tgt := 1060) hx hb dL_law_817 rfl (fun c9 => ?_) (fun c9 => absurd rfl c9)
      refine W.widen (k := 60 + 20 * (n + 1)) (n := 8000 + 1859 * (n + 1)) (by omega) (by omega) ?_
      exact J g md hsim1 db di H locs hP hD hS
    by_cases s24 : z = 24
    · refine lv_tableIn (tgt := 822) (off := 790) hx hb dL_law_32 (by rw [s24]; decide) (by rw [s24]; decide) (by rw [s24]; rfl) rfl ?_
      obtain ⟨r, e1, e2, hsim1⟩ := h_target n g md (xs (i + 1).toNatClampNeg) hn1 hsim
      refine lv_aload_n hx hb dL_law_822 rfl (lv_at hl 1 rfl) ?_
      refine lv_aload_n hx hb dL_law_823 rfl (lv_at hl 0 rfl) ?_
      refine lv_iload_n hx hb dL_law_824 rfl (lv_at hl 3 rfl) ?_
      refine lv_iconst (v := 1) hx hb dL_law_825 rfl ?_
      refine lv_iadd hx hb dL_law_826 ?_
      refine va_sld hx hb hX hbl hbA hS hin1 dL_law_827 ?_
      refine cr_i (va_runV (As := [.int (xs (i + 1).toNatClampNeg)]) (rest := []) ⟨hx, hb, hml, hown, hts⟩ (c_X10_target l E a db di g (xs (i + 1).toNatClampNeg) r e1) (cwV 1 hts gL_law_X10_target rfl rfl rfl hdV_X10_target ⟨Nat.le_of_ble_eq_true rfl, Nat.le_of_ble_eq_true rfl⟩) ⟨PR.blind, va_recv hC.1 hP (ci := 8) (q0 := 8) rfl rfl, PR.pre hC hS (va_P.of (fun z hz => hP.mem (List.mem_append_right _ hz)))⟩ rfl rfl hl.1 rfl (lv_room (Nat.le_of_ble_eq_true rfl)) dL_law_828 ⟨(by show _ ≤ 600000; omega), (by show _ ≤ 7302250; omega)⟩) ?_
      refine lv_aload_n hx hb dL_law_831 rfl (lv_at hl 2 rfl) ?_
      refine lv_aload_n hx hb dL_law_832 rfl (lv_at hl 0 rfl) ?_
      refine lv_iload_n hx hb dL_law_833 rfl (lv_at hl 3 rfl) ?_
      refine lv_iconst (v := 1) hx hb dL_law_834 rfl ?_
      refine lv_iadd hx hb dL_law_835 ?_
      refine va_sld hx hb hX hbl hbA hS hin1 dL_law_836 ?_
      refine cr_i (va_runV (As := [.int (xs (i + 1).toNatClampNeg)]) (rest := [.int r]) ⟨hx, hb, hml, hown, hts⟩ (c_X11_target l E aM md (xs (i + 1).toNatClampNeg) r e2) (cwV 1 hts gL_law_X11_target rfl rfl rfl hdV_X11_target ⟨Nat.le_of_ble_eq_true rfl, Nat.le_of_ble_eq_true rfl⟩) ⟨PR.blind, va_recv hC.1 hP (ci := 9) (q0 := 0) rfl rfl, PR.pre hC hS (va_P.of (fun z hz => hP.mem (List.mem_append_left _ hz)))⟩ rfl rfl hl.1 rfl (lv_room (Nat.le_of_ble_eq_true rfl)) dL_law_837 ⟨(by show _ ≤ 600000; omega), (by show _ ≤ 7302250; omega)⟩) ?_
      refine lv_icmp_eq (tgt := 1060) hx hb dL_law_840 rfl (fun c9 => ?_) (fun c9 => absurd rfl c9)
      refine W.widen (k := 60 + 20 * (n + 1)) (n := 8000 + 1859 * (n + 1)) (by omega) (by omega) ?_
      exact J g md hsim1 db di H locs hP hD hS
    by_cases s25 : z = 25
    · refine lv_tableIn (tgt := 845) (off := 813) hx hb dL_law_32 (by rw [s25]; decide) (by rw [s25]; decide) (by rw [s25]; rfl) rfl ?_
      obtain ⟨r, e1, e2, hsim1⟩ := h_left n g md (xs (i + 1).toNatClampNeg) hn1 hsim
      refine lv_aload_n hx hb dL_law_845 rfl (lv_at hl 1 rfl) ?_
      refine lv_aload_n hx hb dL_law_846 rfl (lv_at hl 0 rfl) ?_
      refine lv_iload_n hx hb dL_law_847 rfl (lv_at hl 3 rfl) ?_
      refine lv_iconst (v := 1) hx hb dL_law_848 rfl ?_
      refine lv_iadd hx hb dL_law_849 ?_
      refine va_sld hx hb hX hbl hbA hS hin1 dL_law_850 ?_
      refine cr_i (va_runV (As := [.int (xs (i + 1).toNatClampNeg)]) (rest := []) ⟨hx, hb, hml, hown, hts⟩ (c_X10_left l E a db di g (xs (i + 1).toNatClampNeg) r e1) (cwV 1 hts gL_law_X10_left rfl rfl rfl hdV_X10_left ⟨Nat.le_of_ble_eq_true rfl, Nat.le_of_ble_eq_true rfl⟩) ⟨PR.blind, va_recv hC.1 hP (ci := 8) (q0 := 8) rfl rfl, PR.pre hC hS (va_P.of (fun z hz => hP.mem (List.mem_append_right _ hz)))⟩ rfl rfl hl.1 rfl (lv_room (Nat.le_of_ble_eq_true rfl)) dL_law_851 ⟨(by show _ ≤ 600000; omega), (by show _ ≤ 7302250; omega)⟩) ?_
      refine lv_aload_n hx hb dL_law_854 rfl (lv_at hl 2 rfl) ?_
      refine lv_aload_n hx hb dL_law_855 rfl (lv_at hl 0 rfl) ?_
      refine lv_iload_n hx hb dL_law_856 rfl (lv_at hl 3 rfl) ?_
      refine lv_iconst (v := 1) hx hb dL_law_857 rfl ?_
      refine lv_iadd hx hb dL_law_858 ?_
      refine va_sld hx hb hX hbl hbA hS hin1 dL_law_859 ?_
      refine cr_i (va_runV (As := [.int (xs (i + 1).toNatClampNeg)]) (rest := [.int r]) ⟨hx, hb, hml, hown, hts⟩ (c_X11_left l E aM md (xs (i + 1).toNatClampNeg) r e2) (cwV 1 hts gL_law_X11_left rfl rfl rfl hdV_X11_left ⟨Nat.le_of_ble_eq_true rfl, Nat.le_of_ble_eq_true rfl⟩) ⟨PR.blind, va_recv hC.1 hP (ci := 9) (q0 := 0) rfl rfl, PR.pre hC hS (va_P.of (fun z hz => hP.mem (List.mem_append_left _ hz)))⟩ rfl rfl hl.1 rfl (lv_room (Nat.le_of_ble_eq_true rfl)) dL_law_860 ⟨(by show _ ≤ 600000; omega), (by show _ ≤ 7302250; omega)⟩) ?_
      refine lv_icmp_eq (tgt := 1060) hx hb dL_law_863 rfl (fun c9 => ?_) (fun c9 => absurd rfl c9)
      refine W.widen (k := 60 + 20 * (n + 1)) (n := 8000 + 1859 * (n + 1)) (by omega) (by omega) ?_
      exact J g md hsim1 db di H locs hP hD hS
    by_cases s26 : z = 26
    · refine lv_tableIn (tgt := 868) (off := 836) hx hb dL_law_32 (by rw [s26]; decide) (by rw [s26]; decide) (by rw [s26]; rfl) rfl ?_
      obtain ⟨r, e1, e2, hsim1⟩ := h_strength n g md (xs (i + 1).toNatClampNeg) hn1 hsim
      refine lv_aload_n hx hb dL_law_868 rfl (lv_at hl 1 rfl) ?_
      refine lv_aload_n hx hb dL_law_869 rfl (lv_at hl 0 rfl) ?_
      refine lv_iload_n hx hb dL_law_870 rfl (lv_at hl 3 rfl) ?_
      refine lv_iconst (v := 1) hx hb dL_law_871 rfl ?_
      refine lv_iadd hx hb dL_law_872 ?_
      refine va_sld hx hb hX hbl hbA hS hin1 dL_law_873 ?_
      refine cr_i (va_runV (As := [.int (xs (i + 1).toNatClampNeg)]) (rest := []) ⟨hx, hb, hml, hown, hts⟩ (c_X10_strength l E a db di g (xs (i + 1).toNatClampNeg) r e1) (cwV 1 hts gL_law_X10_strength rfl rfl rfl hdV_X10_strength ⟨Nat.le_of_ble_eq_true rfl, Nat.le_of_ble_eq_true rfl⟩) ⟨PR.blind, va_recv hC.1 hP (ci := 8) (q0 := 8) rfl rfl, PR.pre hC hS (va_P.of (fun z hz => hP.mem (List.mem_append_right _ hz)))⟩ rfl rfl hl.1 rfl (lv_room (Nat.le_of_ble_eq_true rfl)) dL_law_874 ⟨(by show _ ≤ 600000; omega), (by show _ ≤ 7302250; omega)⟩) ?_
      refine lv_aload_n hx hb dL_law_877 rfl (lv_at hl 2 rfl) ?_
      refine lv_aload_n hx hb dL_law_878 rfl (lv_at hl 0 rfl) ?_
      refine lv_iload_n hx hb dL_law_879 rfl (lv_at hl 3 rfl) ?_
      refine lv_iconst (v := 1) hx hb dL_law_880 rfl ?_
      refine lv_iadd hx hb dL_law_881 ?_
      refine va_sld hx hb hX hbl hbA hS hin1 dL_law_882 ?_
      refine cr_i (va_runV (As := [.int (xs (i + 1).toNatClampNeg)]) (rest := [.int r]) ⟨hx, hb, hml, hown, hts⟩ (c_X11_strength l E aM md (xs (i + 1).toNatClampNeg) r e2) (cwV 1 hts gL_law_X11_strength rfl rfl rfl hdV_X11_strength ⟨Nat.le_of_ble_eq_true rfl, Nat.le_of_ble_eq_true rfl⟩) ⟨PR.blind, va_recv hC.1 hP (ci := 9) (q0 := 0) rfl rfl, PR.pre hC hS (va_P.of (fun z hz => hP.mem (List.mem_append_left _ hz)))⟩ rfl rfl hl.1 rfl (lv_room (Nat.le_of_ble_eq_true rfl)) dL_law_883 ⟨(by show _ ≤ 600000; omega), (by show _ ≤ 7302250; omega)⟩) ?_
      refine lv_icmp_eq (tgt := 1060) hx hb dL_law_886 rfl (fun c9 => ?_) (fun c9 => absurd rfl c9)
      refine W.widen (k := 60 + 20 * (n + 1)) (n := 8000 + 1859 * (n + 1)) (by omega) (by omega) ?_
      exact J g md hsim1 db di H locs hP hD hS
    by_cases s27 : z = 27
    · refine lv_tableIn (tgt := 891) (off := 859) hx hb dL_law_32 (by rw [s27]; decide) (by rw [s27]; decide) (by rw [s27]; rfl) rfl ?_
      obtain ⟨r, g1, md1, e1, e2, hsim1⟩ := h_mends n g md hn1 hsim
      refine lv_aload_n hx hb dL_law_891 rfl (lv_at hl 1 rfl) ?_
      refine cp_i (wr := wMD E aM md) (wc := wGC E a db di g) (wf := (fun q : DA × GC => wGC E a q.1.1 q.1.2 q.2)) hP hD hS hA (va_runV (As := []) (rest := []) ⟨hx, hb, hml, hown, hts⟩ (c_X10_mends l E H.size a db di g (r, g1) e1) (cwV 0 hts gL_law_X10_mends rfl rfl rfl hdV_X10_mends ⟨Nat.le_of_ble_eq_true rfl, Nat.le_of_ble_eq_true rfl⟩) ⟨PW.blind, va_recv hC.1 hP (ci := 8) (q0 := 8) rfl rfl, PW.pre hC hS (va_P.of (fun z hz => hP.mem (List.mem_append_right _ hz))) hD.right (va_freeR hD hS hA)⟩ rfl rfl hl.1 rfl (lv_room (Nat.le_of_ble_eq_true rfl)) dL_law_892 ⟨(by show _ ≤ 600000; omega), (by show _ ≤ 7302250; omega)⟩) (fun r9 u9 H locs hw hP hD hS => ?_)
      obtain ⟨⟨db, di⟩, u9⟩ := u9
      obtain ⟨hw1, hw2⟩ := hw
      have hw1 : r = r9 := hw1.symm
      have hw2 : g1 = u9 := hw2.symm
      subst hw1
      subst hw2
      refine lv_aload_n hx hb dL_law_895 rfl (lv_at hl 2 rfl) ?_
      have hrm := va_recv hC.1 hP (ci := 9) (q0 := 0) rfl rfl
      have hP := hP.perm List.perm_append_comm
      have hD := hD.perm List.perm_append_comm
      refine cp_i (wr := wGC E a db di g1) (wc := wMD E aM md) (wf := (fun q : MD => wMD E aM q)) hP hD hS hA (va_runV (As := []) (rest := [.int r]) ⟨hx, hb, hml, hown, hts⟩ (c_X11_mends l E H.size aM md (r, md1) e2) (cwV 0 hts gL_law_X11_mends rfl rfl rfl hdV_X11_mends ⟨Nat.le_of_ble_eq_true rfl, Nat.le_of_ble_eq_true rfl⟩) ⟨PW.blind, hrm, PW.pre hC hS (va_P.of (fun z hz => hP.mem (List.mem_append_right _ hz))) hD.right (va_freeR hD hS hA)⟩ rfl rfl hl.1 rfl (lv_room (Nat.le_of_ble_eq_true rfl)) dL_law_896 ⟨(by show _ ≤ 600000; omega), (by show _ ≤ 7302250; omega)⟩) (fun r9 u9 H locs hw hP hD hS => ?_)
      obtain ⟨hw1, hw2⟩ := hw
      have hw1 : r = r9 := hw1.symm
      have hw2 : md1 = u9 := hw2.symm
      subst hw1
      subst hw2
      have hP := hP.perm List.perm_append_comm
      have hD := hD.perm List.perm_append_comm
      refine lv_icmp_eq (tgt := 1060) hx hb dL_law_899 rfl (fun c9 => ?_) (fun c9 => absurd rfl c9)
      refine W.widen (k := 60 + 20 * (n + 1)) (n := 8000 + 1859 * (n + 1)) (by omega) (by omega) ?_
      exact J g1 md1 hsim1 db di H locs hP hD hS
    by_cases s28 : z = 28
    · refine lv_tableIn (tgt := 904) (off := 872) hx hb dL_law_32 (by rw [s28]; decide) (by rw [s28]; decide) (by rw [s28]; rfl) rfl ?_
      obtain ⟨r, e1, e2, hsim1⟩ := h_odds n g md (xs (i + 1).toNatClampNeg) (xs (i + 2).toNatClampNeg) (xs (i + 3).toNatClampNeg) hn1 hsim
      refine lv_aload_n hx hb dL_law_904 rfl (lv_at hl 1 rfl) ?_
      refine lv_aload_n hx hb dL_law_905 rfl (lv_at hl 0 rfl) ?_
      refine lv_iload_n hx hb dL_law_906 rfl (lv_at hl 3 rfl) ?_
      refine lv_iconst (v := 1) hx hb dL_law_907 rfl ?_
      refine lv_iadd hx hb dL_law_908 ?_
      refine va_sld hx hb hX hbl hbA hS hin1 dL_law_909 ?_
      refine lv_aload_n hx hb dL_law_910 rfl (lv_at hl 0 rfl) ?_
      refine lv_iload_n hx hb dL_law_911 rfl (lv_at hl 3 rfl) ?_
      refine lv_iconst (v := 2) hx hb dL_law_912 rfl ?_
      refine lv_iadd hx hb dL_law_913 ?_
      refine va_sld hx hb hX hbl hbA hS hin2 dL_law_914 ?_
      refine lv_aload_n hx hb dL_law_915 rfl (lv_at hl 0 rfl) ?_
      refine lv_iload_n hx hb dL_law_916 rfl (lv_at hl 3 rfl) ?_
      refine lv_iconst (v := 3) hx hb dL_law_917 rfl ?_
      refine lv_iadd hx hb dL_law_918 ?_
      refine va_sld hx hb hX hbl hbA hS hin3 dL_law_919 ?_
      refine cr_l (va_runV (As := [.int (xs (i + 1).toNatClampNeg), .int (xs (i + 2).toNatClampNeg), .int (xs (i + 3).toNatClampNeg)]) (rest := []) ⟨hx, hb, hml, hown, hts⟩ (c_X10_odds l E a db di g (xs (i + 1).toNatClampNeg) (xs (i + 2).toNatClampNeg) (xs (i + 3).toNatClampNeg) r e1) (cwV 3 hts gL_law_X10_odds rfl rfl rfl hdV_X10_odds ⟨Nat.le_of_ble_eq_true rfl, Nat.le_of_ble_eq_true rfl⟩) ⟨PR.blind, va_recv hC.1 hP (ci := 8) (q0 := 8) rfl rfl, PR.pre hC hS (va_P.of (fun z hz => hP.mem (List.mem_append_right _ hz)))⟩ rfl rfl hl.1 rfl (lv_room (Nat.le_of_ble_eq_true rfl)) dL_law_920 ⟨(by show _ ≤ 600000; omega), (by show _ ≤ 7302250; omega)⟩) ?_
      refine lv_aload_n hx hb dL_law_923 rfl (lv_at hl 2 rfl) ?_
      refine lv_aload_n hx hb dL_law_924 rfl (lv_at hl 0 rfl) ?_
      refine lv_iload_n hx hb dL_law_925 rfl (lv_at hl 3 rfl) ?_
      refine lv_iconst (v := 1) hx hb dL_law_926 rfl ?_
      refine lv_iadd hx hb dL_law_927 ?_
      refine va_sld hx hb hX hbl hbA hS hin1 dL_law_928 ?_
      refine lv_aload_n hx hb dL_law_929 rfl (lv_at hl 0 rfl) ?_
      refine lv_iload_n hx hb dL_law_930 rfl (lv_at hl 3 rfl) ?_
      refine lv_iconst (v := 2) hx hb dL_law_931 rfl ?_
      refine lv_iadd hx hb dL_law_932 ?_
      refine va_sld hx hb hX hbl hbA hS hin2 dL_law_933 ?_
      refine lv_aload_n hx hb dL_law_934 rfl (lv_at hl 0 rfl) ?_
      refine lv_iload_n hx hb dL_law_935 rfl (lv_at hl 3 rfl) ?_
      refine lv_iconst (v := 3) hx hb dL_law_936 rfl ?_
      refine lv_iadd hx hb dL_law_937 ?_
      refine va_sld hx hb hX hbl hbA hS hin3 dL_law_938 ?_
      refine cr_l (va_runV (As := [.int (xs (i + 1).toNatClampNeg), .int (xs (i + 2).toNatClampNeg), .int (xs (i + 3).toNatClampNeg)]) (rest := [.long r]) ⟨hx, hb, hml, hown, hts⟩ (c_X11_odds l E aM md (xs (i + 1).toNatClampNeg) (xs (i + 2).toNatClampNeg) (xs (i + 3).toNatClampNeg) r e2) (cwV 3 hts gL_law_X11_odds rfl rfl rfl hdV_X11_odds ⟨Nat.le_of_ble_eq_true rfl, Nat.le_of_ble_eq_true rfl⟩) ⟨PR.blind, va_recv hC.1 hP (ci := 9) (q0 := 0) rfl rfl, PR.pre hC hS (va_P.of (fun z hz => hP.mem (List.mem_append_left _ hz)))⟩ rfl rfl hl.1 rfl (lv_room (Nat.le_of_ble_eq_true rfl)) dL_law_939 ⟨(by show _ ≤ 600000; omega), (by show _ ≤ 7302250; omega)⟩) ?_
      refine W.lcmp hx hb dL_law_942 ?_
      rw [law_cmp]
      refine lv_if_eq (tgt := 1060) hx hb dL_law_943 rfl (fun c9 => ?_) (fun c9 => absurd rfl c9)
      refine W.widen (k := 60 + 20 * (n + 1)) (n := 8000 + 1859 * (n + 1)) (by omega) (by omega) ?_
      exact J g md hsim1 db di H locs hP hD hS
    by_cases s29 : z = 29
    · refine lv_tableIn (tgt := 948) (off := 916) hx hb dL_law_32 (by rw [s29]; decide) (by rw [s29]; decide) (by rw [s29]; rfl) rfl ?_
      obtain ⟨r, g1, md1, e1, e2, hsim1⟩ := h_drawn n g md (xs (i + 1).toNatClampNeg) (xs (i + 2).toNatClampNeg) (xs (i + 3).toNatClampNeg) hn1 hsim
      refine lv_aload_n hx hb dL_law_948 rfl (lv_at hl 1 rfl) ?_
      refine lv_aload_n hx hb dL_law_949 rfl (lv_at hl 0 rfl) ?_
      refine lv_iload_n hx hb dL_law_950 rfl (lv_at hl 3 rfl) ?_
      refine lv_iconst (v := 1) hx hb dL_law_951 rfl ?_
      refine lv_iadd hx hb dL_law_952 ?_
      refine va_sld hx hb hX hbl hbA hS hin1 dL_law_953 ?_
      refine lv_aload_n hx hb dL_law_954 rfl (lv_at hl 0 rfl) ?_
      refine lv_iload_n hx hb dL_law_955 rfl (lv_at hl 3 rfl) ?_
      refine lv_iconst (v := 2) hx hb dL_law_956 rfl ?_
      refine lv_iadd hx hb dL_law_957 ?_
      refine va_sld hx hb hX hbl hbA hS hin2 dL_law_958 ?_
      refine lv_aload_n hx hb dL_law_959 rfl (lv_at hl 0 rfl) ?_
      refine lv_iload_n hx hb dL_law_960 rfl (lv_at hl 3 rfl) ?_
      refine lv_iconst (v := 3) hx hb dL_law_961 rfl ?_
      refine lv_iadd hx hb dL_law_962 ?_
      refine va_sld hx hb hX hbl hbA hS hin3 dL_law_963 ?_
      refine cp_i (wr := wMD E aM md) (wc := wGC E a db di g) (wf := (fun q : DA × GC => wGC E a q.1.1 q.1.2 q.2)) hP hD hS hA (va_runV (As := [.int (xs (i + 1).toNatClampNeg), .int (xs (i + 2).toNatClampNeg), .int (xs (i + 3).toNatClampNeg)]) (rest := []) ⟨hx, hb, hml, hown, hts⟩ (c_X10_drawn l E H.size a db di g (xs (i + 1).toNatClampNeg) (xs (i + 2).toNatClampNeg) (xs (i + 3).toNatClampNeg) (r, g1) e1) (cwV 3 hts gL_law_X10_drawn rfl rfl rfl hdV_X10_drawn ⟨Nat.le_of_ble_eq_true rfl, Nat.le_of_ble_eq_true rfl⟩) ⟨PW.blind, va_recv hC.1 hP (ci := 8) (q0 := 8) rfl rfl, PW.pre hC hS (va_P.of (fun z hz => hP.mem (List.mem_append_right _ hz))) hD.right (va_freeR hD hS hA)⟩ rfl rfl hl.1 rfl (lv_room (Nat.le_of_ble_eq_true rfl)) dL_law_964 ⟨(by show _ ≤ 600000; omega), (by show _ ≤ 7302250; omega)⟩) (fun r9 u9 H locs hw hP hD hS => ?_)
      obtain ⟨⟨db, di⟩, u9⟩ := u9
      obtain ⟨hw1, hw2⟩ := hw
      have hw1 : r = r9 := hw1.symm
      have hw2 : g1 = u9 := hw2.symm
      subst hw1
      subst hw2
      refine lv_aload_n hx hb dL_law_967 rfl (lv_at hl 2 rfl) ?_
      refine lv_aload_n hx hb dL_law_968 rfl (lv_at hl 0 rfl) ?_
      refine lv_iload_n hx hb dL_law_969 rfl (lv_at hl 3 rfl) ?_
      refine lv_iconst (v := 1) hx hb dL_law_970 rfl ?_
      refine lv_iadd hx hb dL_law_971 ?_
      refine va_sld hx hb hX hbl hbA hS hin1 dL_law_972 ?_
      refine lv_aload_n hx hb dL_law_973 rfl (lv_at hl 0 rfl) ?_
      refine lv_iload_n hx hb dL_law_974 rfl (lv_at hl 3 rfl) ?_
      refine lv_iconst (v := 2) hx hb dL_law_975 rfl ?_
      refine lv_iadd hx hb dL_law_976 ?_
      refine va_sld hx hb hX hbl hbA hS hin2 dL_law_977 ?_
      refine lv_aload_n hx hb dL_law_978 rfl (lv_at hl 0 rfl) ?_
      refine lv_iload_n hx hb dL_law_979 rfl (lv_at hl 3 rfl) ?_
      refine lv_iconst (v := 3) hx hb dL_law_980 rfl ?_
      refine lv_iadd hx hb dL_law_981 ?_
      refine va_sld hx hb hX hbl hbA hS hin3 dL_law_982 ?_
      have hrm := va_recv hC.1 hP (ci := 9) (q0 := 0) rfl rfl
      have hP := hP.perm List.perm_append_comm
      have hD := hD.perm List.perm_append_comm
      refine cp_i (wr := wGC E a db di g1) (wc := wMD E aM md) (wf := (fun q : MD => wMD E aM q)) hP hD hS hA (va_runV (As := [.int (xs (i + 1).toNatClampNeg), .int (xs (i + 2).toNatClampNeg), .int (xs (i + 3).toNatClampNeg)]) (rest := [.int r]) ⟨hx, hb, hml, hown, hts⟩ (c_X11_drawn l E H.size aM md (xs (i + 1).toNatClampNeg) (xs (i + 2).toNatClampNeg) (xs (i + 3).toNatClampNeg) (r, md1) e2) (cwV 3 hts gL_law_X11_drawn rfl rfl rfl hdV_X11_drawn ⟨Nat.le_of_ble_eq_true rfl, Nat.le_of_ble_eq_true rfl⟩) ⟨PW.blind, hrm, PW.pre hC hS (va_P.of (fun z hz => hP.mem (List.mem_append_right _ hz))) hD.right (va_freeR hD hS hA)⟩ rfl rfl hl.1 rfl (lv_room (Nat.le_of_ble_eq_true rfl)) dL_law_983 ⟨(by show _ ≤ 600000; omega), (by show _ ≤ 7302250; omega)⟩) (fun r9 u9 H locs hw hP hD hS => ?_)
      obtain ⟨hw1, hw2⟩ := hw
      have hw1 : r = r9 := hw1.symm
      have hw2 : md1 = u9 := hw2.symm
      subst hw1
      subst hw2
      have hP := hP.perm List.perm_append_comm
      have hD := hD.perm List.perm_append_comm
      refine lv_icmp_eq (tgt := 1060) hx hb dL_law_986 rfl (fun c9 => ?_) (fun c9 => absurd rfl c9)
      refine W.widen (k := 60 + 20 * (n + 1)) (n := 8000 + 1859 * (n + 1)) (by omega) (by omega) ?_
      exact J g1 md1 hsim1 db di H locs hP hD hS
    by_cases s30 : z = 30
    · refine lv_tableIn (tgt := 991) (off := 959) hx hb dL_law_32 (by rw [s30]; decide) (by rw [s30]; decide) (by rw [s30]; rfl) rfl ?_
      obtain ⟨r, g1, md1, e1, e2, hsim1⟩ := h_image n g md (xs (i + 1).toNatClampNeg) hn1 hsim
      refine lv_aload_n hx hb dL_law_991 rfl (lv_at hl 1 rfl) ?_
      refine lv_aload_n hx hb dL_law_992 rfl (lv_at hl 0 rfl) ?_
      refine lv_iload_n hx hb dL_law_993 rfl (lv_at hl 3 rfl) ?_
      refine lv_iconst (v := 1) hx hb dL_law_994 rfl ?_
      refine lv_iadd hx hb dL_law_995 ?_
      refine va_sld hx hb hX hbl hbA hS hin1 dL_law_996 ?_
      refine cp_i (wr := wMD E aM md) (wc := wGC E a db di g) (wf := (fun q : DA × GC => wGC E a q.1.1 q.1.2 q.2)) hP hD hS hA (va_runV (As := [.int (xs (i + 1).toNatClampNeg)]) (rest := []) ⟨hx, hb, hml, hown, hts⟩ (c_X10_image l E H.size a db di g (xs (i + 1).toNatClampNeg) (r, g1) e1) (cwV 1 hts gL_law_X10_image rfl rfl rfl hdV_X10_image ⟨Nat.le_of_ble_eq_true rfl, Nat.le_of_ble_eq_true rfl⟩) ⟨PW.blind, va_recv hC.1 hP (ci := 8) (q0 := 8) rfl rfl, PW.pre hC hS (va_P.of (fun z hz => hP.mem (List.mem_append_right _ hz))) hD.right (va_freeR hD hS hA)⟩ rfl rfl hl.1 rfl (lv_room (Nat.le_of_ble_eq_true rfl)) dL_law_997 ⟨(by show _ ≤ 600000; omega), (by show _ ≤ 7302250; omega)⟩) (fun r9 u9 H locs hw hP hD hS => ?_)
      obtain ⟨⟨db, di⟩, u9⟩ := u9
      obtain ⟨hw1, hw2⟩ := hw
      have hw1 : r = r9 := hw1.symm
      have hw2 : g1 = u9 := hw2.symm
      subst hw1
      subst hw2
      refine lv_aload_n hx hb dL_law_1000 rfl (lv_at hl 2 rfl) ?_
      refine lv_aload_n hx hb dL_law_1001 rfl (lv_at hl 0 rfl) ?_
      refine lv_iload_n hx hb dL_law_1002 rfl (lv_at hl 3 rfl) ?_
      refine lv_iconst (v := 1) hx hb dL_law_1003 rfl ?_
      refine lv_iadd hx hb dL_law_1004 ?_
      refine va_sld hx hb hX hbl hbA hS hin1 dL_law_1005 ?_
      have hrm := va_recv hC.1 hP (ci := 9) (q0 := 0) rfl rfl
      have hP := hP.perm List.perm_append_comm
      have hD := hD.perm List.perm_append_comm
      refine cp_i (wr := wGC E a db di g1) (wc := wMD E aM md) (wf := (fun q : MD => wMD E aM q)) hP hD hS hA (va_runV (As := [.int (xs (i + 1).toNatClampNeg)]) (rest := [.int r]) ⟨hx, hb, hml, hown, hts⟩ (c_X11_image l E H.size aM md (xs (i + 1).toNatClampNeg) (r, md1) e2) (cwV 1 hts gL_law_X11_image rfl rfl rfl hdV_X11_image ⟨Nat.le_of_ble_eq_true rfl, Nat.le_of_ble_eq_true rfl⟩) ⟨PW.blind, hrm, PW.pre hC hS (va_P.of (fun z hz => hP.mem (List.mem_append_right _ hz))) hD.right (va_freeR hD hS hA)⟩ rfl rfl hl.1 rfl (lv_room (Nat.le_of_ble_eq_true rfl)) dL_law_1006 ⟨(by show _ ≤ 600000; omega), (by show _ ≤ 7302250; omega)⟩) (fun r9 u9 H locs hw hP hD hS => ?_)
      obtain ⟨hw1, hw2⟩ := hw
      have hw1 : r = r9 := hw1.symm
      have hw2 : md1 = u9 := hw2.symm
      subst hw1
      subst hw2
      have hP := hP.perm List.perm_append_comm
      have hD := hD.perm List.perm_append_comm
      refine lv_icmp_eq (tgt := 1060) hx hb dL_law_1009 rfl (fun c9 => ?_) (fun c9 => absurd rfl c9)
      refine W.widen (k := 60 + 20 * (n + 1)) (n := 8000 + 1859 * (n + 1)) (by omega) (by omega) ?_
      exact J g1 md1 hsim1 db di H locs hP hD hS
    by_cases s31 : z = 31
    · refine lv_tableIn (tgt := 1014) (off := 982) hx hb dL_law_32 (by rw [s31]; decide) (by rw [s31]; decide) (by rw [s31]; rfl) rfl ?_
      obtain ⟨r, g1, md1, e1, e2, hsim1⟩ := h_restore n g md (xs (i + 1).toNatClampNeg) hn1 hsim
      refine lv_aload_n hx hb dL_law_1014 rfl (lv_at hl 1 rfl) ?_
      refine lv_aload_n hx hb dL_law_1015 rfl (lv_at hl 0 rfl) ?_
      refine lv_iload_n hx hb dL_law_1016 rfl (lv_at hl 3 rfl) ?_
      refine lv_iconst (v := 1) hx hb dL_law_1017 rfl ?_
      refine lv_iadd hx hb dL_law_1018 ?_
      refine va_sld hx hb hX hbl hbA hS hin1 dL_law_1019 ?_
      refine cp_i (wr := wMD E aM md) (wc := wGC E a db di g) (wf := (fun q : DA × GC => wGC E a q.1.1 q.1.2 q.2)) hP hD hS hA (va_runV (As := [.int (xs (i + 1).toNatClampNeg)]) (rest := []) ⟨hx, hb, hml, hown, hts⟩ (c_X10_restore l E H.size a db di g (xs (i + 1).toNatClampNeg) (r, g1) e1) (cwV 1 hts gL_law_X10_restore rfl rfl rfl hdV_X10_restore ⟨Nat.le_of_ble_eq_true rfl, Nat.le_of_ble_eq_true rfl⟩) ⟨PW.blind, va_recv hC.1 hP (ci := 8) (q0 := 8) rfl rfl, PW.pre hC hS (va_P.of (fun z hz => hP.mem (List.mem_append_right _ hz))) hD.right (va_freeR hD hS hA)⟩ rfl rfl hl.1 rfl (lv_room (Nat.le_of_ble_eq_true rfl)) dL_law_1020 ⟨(by show _ ≤ 600000; omega), (by show _ ≤ 7302250; omega)⟩) (fun r9 u9 H locs hw hP hD hS => ?_)
      obtain ⟨⟨db, di⟩, u9⟩ := u9
      obtain ⟨hw1, hw2⟩ := hw
      have hw1 : r = r9 := hw1.symm
      have hw2 : g1 = u9 := hw2.symm
      subst hw1
      subst hw2
      refine lv_aload_n hx hb dL_law_1023 rfl (lv_at hl 2 rfl) ?_
      refine lv_aload_n hx hb dL_law_1024 rfl (lv_at hl 0 rfl) ?_
      refine lv_iload_n hx hb dL_law_1025 rfl (lv_at hl 3 rfl) ?_
      refine lv_iconst (v := 1) hx hb dL_law_1026 rfl ?_
      refine lv_iadd hx hb dL_law_1027 ?_
      refine va_sld hx hb hX hbl hbA hS hin1 dL_law_1028 ?_
      have hrm := va_recv hC.1 hP (ci := 9) (q0 := 0) rfl rfl
      have hP := hP.perm List.perm_append_comm
      have hD := hD.perm List.perm_append_comm
      refine cp_i (wr := wGC E a db di g1) (wc := wMD E aM md) (wf := (fun q : MD => wMD E aM q)) hP hD hS hA (va_runV (As := [.int (xs (i + 1).toNatClampNeg)]) (rest := [.int r]) ⟨hx, hb, hml, hown, hts⟩ (c_X11_restore l E H.size aM md (xs (i + 1).toNatClampNeg) (r, md1) e2) (cwV 1 hts gL_law_X11_restore rfl rfl rfl hdV_X11_restore ⟨Nat.le_of_ble_eq_true rfl, Nat.le_of_ble_eq_true rfl⟩) ⟨PW.blind, hrm, PW.pre hC hS (va_P.of (fun z hz => hP.mem (List.mem_append_right _ hz))) hD.right (va_freeR hD hS hA)⟩ rfl rfl hl.1 rfl (lv_room (Nat.le_of_ble_eq_true rfl)) dL_law_1029 ⟨(by show _ ≤ 600000; omega), (by show _ ≤ 7302250; omega)⟩) (fun r9 u9 H locs hw hP hD hS => ?_)
      obtain ⟨hw1, hw2⟩ := hw
      have hw1 : r = r9 := hw1.symm
      have hw2 : md1 = u9 := hw2.symm
      subst hw1
      subst hw2
      have hP := hP.perm List.perm_append_comm
      have hD := hD.perm List.perm_append_comm
      refine lv_icmp_eq (tgt := 1060) hx hb dL_law_1032 rfl (fun c9 => ?_) (fun c9 => absurd rfl c9)
      refine W.widen (k := 60 + 20 * (n + 1)) (n := 8000 + 1859 * (n + 1)) (by omega) (by omega) ?_
      exact J g1 md1 hsim1 db di H locs hP hD hS
    by_cases s32 : z = 32
    · refine lv_tableIn (tgt := 1037) (off := 1005) hx hb dL_law_32 (by rw [s32]; decide) (by rw [s32]; decide) (by rw [s32]; rfl) rfl ?_
      obtain ⟨r, e1, e2, hsim1⟩ := h_count n g md (xs (i + 1).toNatClampNeg) hn1 hsim
      refine lv_aload_n hx hb dL_law_1037 rfl (lv_at hl 1 rfl) ?_
      refine lv_aload_n hx hb dL_law_1038 rfl (lv_at hl 0 rfl) ?_
      refine lv_iload_n hx hb dL_law_1039 rfl (lv_at hl 3 rfl) ?_
      refine lv_iconst (v := 1) hx hb dL_law_1040 rfl ?_
      refine lv_iadd hx hb dL_law_1041 ?_
      refine va_sld hx hb hX hbl hbA hS hin1 dL_law_1042 ?_
      refine cr_i (va_runV (As := [.int (xs (i + 1).toNatClampNeg)]) (rest := []) ⟨hx, hb, hml, hown, hts⟩ (c_X10_count l E a db di g (xs (i + 1).toNatClampNeg) r e1) (cwV 1 hts gL_law_X10_count rfl rfl rfl hdV_X10_count ⟨Nat.le_of_ble_eq_true rfl, Nat.le_of_ble_eq_true rfl⟩) ⟨PR.blind, va_recv hC.1 hP (ci := 8) (q0 := 8) rfl rfl, PR.pre hC hS (va_P.of (fun z hz => hP.mem (List.mem_append_right _ hz)))⟩ rfl rfl hl.1 rfl (lv_room (Nat.le_of_ble_eq_true rfl)) dL_law_1043 ⟨(by show _ ≤ 600000; omega), (by show _ ≤ 7302250; omega)⟩) ?_
      refine lv_aload_n hx hb dL_law_1046 rfl (lv_at hl 2 rfl) ?_
      refine lv_aload_n hx hb dL_law_1047 rfl (lv_at hl 0 rfl) ?_
      refine lv_iload_n hx hb dL_law_1048 rfl (lv_at hl 3 rfl) ?_
      refine lv_iconst (v := 1) hx hb dL_law_1049 rfl ?_
      refine lv_iadd hx hb dL_law_1050 ?_
      refine va_sld hx hb hX hbl hbA hS hin1 dL_law_1051 ?_
      refine cr_i (va_runV (As := [.int (xs (i + 1).toNatClampNeg)]) (rest := [.int r]) ⟨hx, hb, hml, hown, hts⟩ (c_X11_count l E aM md (xs (i + 1).toNatClampNeg) r e2) (cwV 1 hts gL_law_X11_count rfl rfl rfl hdV_X11_count ⟨Nat.le_of_ble_eq_true rfl, Nat.le_of_ble_eq_true rfl⟩) ⟨PR.blind, va_recv hC.1 hP (ci := 9) (q0 := 0) rfl rfl, PR.pre hC hS (va_P.of (fun z hz => hP.mem (List.mem_append_left _ hz)))⟩ rfl rfl hl.1 rfl (lv_room (Nat.le_of_ble_eq_true rfl)) dL_law_1052 ⟨(by show _ ≤ 600000; omega), (by show _ ≤ 7302250; omega)⟩) ?_
      refine lv_icmp_eq (tgt := 1060) hx hb dL_law_1055 rfl (fun c9 => ?_) (fun c9 => absurd rfl c9)
      refine W.widen (k := 60 + 20 * (n + 1)) (n := 8000 + 1859 * (n + 1)) (by omega) (by omega) ?_
      exact J g md hsim1 db di H locs hP hD hS
    refine lv_tableOut (tgt := 1060) hx hb dL_law_32 (sw_out (x := z) 32 (by decide) (fun k hk => match k, hk with | 0, _ => s0 | 1, _ => s1 | 2, _ => s2 | 3, _ => s3 | 4, _ => s4 | 5, _ => s5 | 6, _ => s6 | 7, _ => s7 | 8, _ => s8 | 9, _ => s9 | 10, _ => s10 | 11, _ => s11 | 12, _ => s12 | 13, _ => s13 | 14, _ => s14 | 15, _ => s15 | 16, _ => s16 | 17, _ => s17 | 18, _ => s18 | 19, _ => s19 | 20, _ => s20 | 21, _ => s21 | 22, _ => s22 | 23, _ => s23 | 24, _ => s24 | 25, _ => s25 | 26, _ => s26 | 27, _ => s27 | 28, _ => s28 | 29, _ => s29 | 30, _ => s30 | 31, _ => s31 | 32, _ => s32 | k + 33, hk => absurd hk (by omega))) rfl ?_
    refine W.widen (k := 60 + 20 * (n + 1)) (n := 8000 + 1859 * (n + 1)) (by omega) (by omega) ?_
    exact J g md (h_none n g md hn1 hsim) db di H locs hP hD hS
