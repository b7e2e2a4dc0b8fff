set_option maxHeartbeats 4000000 in
set_option maxRecDepth 100000 in
theorem law_start {p : Program} {e : Env} {s : State} {m : MethodId} {below : List Frame} {meth : Method} {c : Code} (l : Launch) {b L : Nat} {xs : Nat → Int32} (Sim : Nat → GC → MD → Prop) (h_feed : Ok_feed Sim) (h_house : Ok_house Sim) (h_fault : Ok_fault Sim) (h_undo : Ok_undo Sim) (h_create : Ok_create Sim) (h_append : Ok_append Sim) (h_put : Ok_put Sim) (h_both : Ok_both Sim) (h_remove : Ok_remove Sim) (h_bring : Ok_bring Sim) (h_tick : Ok_tick Sim) (h_down : Ok_down Sim) (h_up : Ok_up Sim) (h_spoil : Ok_spoil Sim) (h_beat : Ok_beat Sim) (h_mend : Ok_mend Sim) (h_server : Ok_server Sim) (h_chunk : Ok_chunk Sim) (h_file : Ok_file Sim) (h_part : Ok_part Sim) (h_read : Ok_read Sim) (h_find : Ok_find Sim) (h_sums : Ok_sums Sim) (h_as : Ok_as Sim) (h_target : Ok_target Sim) (h_left : Ok_left Sim) (h_strength : Ok_strength Sim) (h_mends : Ok_mends Sim) (h_odds : Ok_odds Sim) (h_drawn : Ok_drawn Sim) (h_image : Ok_image Sim) (h_restore : Ok_restore Sim) (h_count : Ok_count Sim) (h_none : ∀ (n : Nat) (g : GC) (md : MD), n < 512 → Sim n g md → Sim (n + 1) g md) (h_new : Sim 0 (GC0 xf) MD0) (hL : L ≤ 2048) (C0 : lw_At p s m meth c b L xs) : W p l e room_1 s m #[Value.ref b] below meth c s.heap [] 0 0 (lw_Z below #[Value.ref b] s) (entryFrame m ([Value.ref b] : List Value).toArray 4) := by
  obtain ⟨hx, hb, hr, hml, hown, hts0, hX, hbl, hlocks, hgv⟩ := id C0
  have hown : s.vm.findClass RL = some m.cls := hown
  have hts : ∀ w ∈ wsL_law, w.before #[Value.ref b] s = true := fun w h => hts0 w (wsL_law_in w h)
  obtain ⟨E, hC, hAO⟩ := law_ctx hts0 hgv
  have hA : ∀ q : Nat, s.heap.size ≤ q → (fun q : Nat => s.heap.size ≤ q) q := fun _ h => h
  have hS : va_S (fun q : Nat => s.heap.size ≤ q) s.heap s.heap [] := va_S.rf
  have hP : va_P E.1 vwCl [] s.heap := fun k q h => by simp at h
  have hD : va_D (fun q : Nat => s.heap.size ≤ q) [] := ⟨fun i j x y h => by simp at h, fun k q h => by simp at h⟩
  refine st_W (vs := [Value.ref b]) rfl (Nat.le_of_ble_eq_true rfl) (fun ls hl => ?_)
  have hl : lv_has ls 4 [(0, .ref b)] := hl
  refine va_new (ci := 8) (C := RX10) (T := TX10) (N := 8) (fs := [.null, .null, .null, .null, .null, .null, .int 0, .int 0]) hx hb hts0 inX10 tyX10 tyX10_ok hown (hts0 (.classLink RL 7 RX10) (List.mem_of_getElem? (i := 74) (by decide +kernel))) (hts0 (.instantiable RX10 8) (List.mem_of_getElem? (i := 75) (by decide +kernel))) (hts0 (.initialized RX10) (List.mem_of_getElem? (i := 58) (by decide +kernel))) hC.1 hP hD hS hA rfl (by decide) (Nat.le_of_ble_eq_true rfl) (Nat.le_of_ble_eq_true rfl) dL_law_0 (fun q H hP hD hS => ?_)
  refine lv_dup hx hb dL_law_3 rfl ?_
  refine cp_v (wr := []) (wc := [(q, .inr (8, [.null, .null, .null, .null, .null, .null, .int 0, .int 0]))]) (wf := (fun a => wGC E a (fun _ _ => 0) (fun _ _ => 0) (GC0 xf))) hP hD hS hA (va_runI (As := []) (rest := [.ref q]) ⟨hx, hb, hml, hown, hts⟩ (c_X10_init l E H.size q xf hxf) (cwI 0 hts gL_law_X10_init rfl rfl rfl (hts0 (.initialized RX10) (List.mem_of_getElem? (i := 58) (by decide +kernel))) (hts0 (.methodLink RL 9 yX10_init) (List.mem_of_getElem? (i := 76) (by decide +kernel))) (hts0 (.instanceMethod yX10_init) (List.mem_of_getElem? (i := 77) (by decide +kernel))) rfl hdS_X10_init ⟨Nat.le_of_ble_eq_true rfl, Nat.le_of_ble_eq_true rfl⟩) ⟨PWO.blind, PWO.pre hAO hC hS (va_P.of (fun z hz => hP.mem (List.mem_append_right _ hz))) hD.right (va_freeR hD hS hA)⟩ rfl rfl hl.1 rfl (lv_room (Nat.le_of_ble_eq_true rfl)) dL_law_4 ⟨Nat.le_of_ble_eq_true rfl, Nat.le_of_ble_eq_true rfl⟩) (fun a H locs hq0 hP2 hD2 hS2 => ?_)
  subst hq0
  have hP := hP2
  have hD := hD2
  have hS := hS2
  refine lv_astore_n (lv' := [(1, .ref (a 0)), (0, .ref b)]) hx hb dL_law_7 rfl hl (by decide) rfl (fun ls hl => ?_)
  refine va_new (ci := 9) (C := RX11) (T := TX11) (N := 17) (fs := [.null, .null, .null, .int 0, .null, .null, .null, .int 0, .int 0, .int 0, .int 0, .int 0, .int 0, .int 0, .int 0, .null, .int 0]) hx hb hts0 inX11 tyX11 tyX11_ok hown (hts0 (.classLink RL 10 RX11) (List.mem_of_getElem? (i := 1051) (by decide +kernel))) (hts0 (.instantiable RX11 17) (List.mem_of_getElem? (i := 1052) (by decide +kernel))) (hts0 (.initialized RX11) (List.mem_of_getElem? (i := 68) (by decide +kernel))) hC.1 hP hD hS hA rfl (by decide) (Nat.le_of_ble_eq_true rfl) (Nat.le_of_ble_eq_true rfl) dL_law_8 (fun q H hP hD hS => ?_)
  refine lv_dup hx hb dL_law_11 rfl ?_
  refine cp_v (wr := ([] ++ wGC E a (fun _ _ => 0) (fun _ _ => 0) (GC0 xf))) (wc := [(q, .inr (9, [.null, .null, .null, .int 0, .null, .null, .null, .int 0, .int 0, .int 0, .int 0, .int 0, .int 0, .int 0, .int 0, .null, .int 0]))]) (wf := (fun aM => wMD E aM MD0)) hP hD hS hA (va_runI (As := []) (rest := [.ref q]) ⟨hx, hb, hml, hown, hts⟩ (c_X11_init l E H.size q) (cwI 0 hts gL_law_X11_init rfl rfl rfl (hts0 (.initialized RX11) (List.mem_of_getElem? (i := 68) (by decide +kernel))) (hts0 (.methodLink RL 12 yX11_init) (List.mem_of_getElem? (i := 1053) (by decide +kernel))) (hts0 (.instanceMethod yX11_init) (List.mem_of_getElem? (i := 1054) (by decide +kernel))) rfl hdS_X11_init ⟨Nat.le_of_ble_eq_true rfl, Nat.le_of_ble_eq_true rfl⟩) ⟨PW.blind, PW.pre hC hS (va_P.of (fun z hz => hP.mem (List.mem_append_right _ hz))) hD.right (va_freeR hD hS hA)⟩ rfl rfl hl.1 rfl (lv_room (Nat.le_of_ble_eq_true rfl)) dL_law_12 ⟨Nat.le_of_ble_eq_true rfl, Nat.le_of_ble_eq_true rfl⟩) (fun aM H locs hq0 hP2 hD2 hS2 => ?_)
  subst hq0
  have hP := hP2
  have hD := hD2
  have hS := hS2
  refine lv_astore_n (lv' := [(2, .ref (aM 0)), (1, .ref (a 0)), (0, .ref b)]) hx hb dL_law_15 rfl hl (by decide) rfl (fun ls hl => ?_)
  refine lv_iconst (v := 0) hx hb dL_law_16 rfl ?_
  refine lv_istore_n (lv' := [(3, .int 0), (2, .ref (aM 0)), (1, .ref (a 0)), (0, .ref b)]) hx hb dL_law_17 rfl hl (by decide) rfl (fun ls hl => ?_)
  have hP := hP.perm List.perm_append_comm
  have hD := hD.perm List.perm_append_comm
  refine W.widen (k := 60 + 20 * 0) (n := 8000 + 1859 * 0) (Nat.le_of_ble_eq_true rfl) (Nat.le_of_ble_eq_true rfl) ?_
  exact law_loop Sim h_feed h_house h_fault h_undo h_create h_append h_put h_both h_remove h_bring h_tick h_down h_up h_spoil h_beat h_mend h_server h_chunk h_file h_part h_read h_find h_sums h_as h_target h_left h_strength h_mends h_odds h_drawn h_image h_restore h_count h_none hL C0 hC 513 0 0 (by omega) (by omega) rfl (GC0 xf) MD0 h_new a aM (fun _ _ => 0) (fun _ _ => 0) H locs hP hD hS ls (lv_sub hl [3, 2, 1, 0] rfl)
