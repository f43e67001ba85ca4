theorem m_8bcf01e9 : (.methodLink "StackHostModel" 514 y_M_fits : Cond) ∈ xt_tbl := xt_in (xt_t12 (List.mem_of_getElem? (i := 66) (by decide +kernel))) (by decide +kernel)
theorem m_58c1b06e : (.instanceMethod y_M_fits : Cond) ∈ xt_tbl := xt_in (xt_t12 (List.mem_of_getElem? (i := 68) (by decide +kernel))) (by decide +kernel)
theorem m_b1c8ece1 : (.selects "StackHostModel" y_M_fits y_M_fits : Cond) ∈ xt_tbl := xt_in (xt_v13 (q := (⟨"StackHostModel", "fits", "(IIII)Z"⟩, 97)) (List.mem_of_getElem? (i := 9) (by decide +kernel))) (by decide +kernel)
theorem m_f7d46fca : (.code y_M_fits b_M_fits 11 (some .boolean) : Cond) ∈ xt_tbl := xt_in (xt_t12 (List.mem_of_getElem? (i := 69) (by decide +kernel))) (by decide +kernel)
theorem m_2d987b1d : (.methodLink "StackHostModel" 499 y_M_isHost : Cond) ∈ xt_tbl := xt_in (xt_t12 (List.mem_of_getElem? (i := 33) (by decide +kernel))) (by decide +kernel)
theorem m_755840be : (.instanceMethod y_M_isHost : Cond) ∈ xt_tbl := xt_in (xt_t12 (List.mem_of_getElem? (i := 35) (by decide +kernel))) (by decide +kernel)
theorem m_341725e0 : (.selects "StackHostModel" y_M_isHost y_M_isHost : Cond) ∈ xt_tbl := xt_in (xt_v13 (q := (⟨"StackHostModel", "isHost", "(II)Z"⟩, 97)) (List.mem_of_getElem? (i := 1) (by decide +kernel))) (by decide +kernel)
theorem m_1141f1ce : (.code y_M_isHost b_M_isHost 3 (some .boolean) : Cond) ∈ xt_tbl := xt_in (xt_t12 (List.mem_of_getElem? (i := 36) (by decide +kernel))) (by decide +kernel)
theorem m_d2af11df : (.methodLink "StackHostModel" 505 y_M_instanceNamed : Cond) ∈ xt_tbl := xt_in (xt_t12 (List.mem_of_getElem? (i := 42) (by decide +kernel))) (by decide +kernel)
theorem m_3a4ee87f : (.instanceMethod y_M_instanceNamed : Cond) ∈ xt_tbl := xt_in (xt_t12 (List.mem_of_getElem? (i := 44) (by decide +kernel))) (by decide +kernel)
theorem m_b03ece31 : (.selects "StackHostModel" y_M_instanceNamed y_M_instanceNamed : Cond) ∈ xt_tbl := xt_in (xt_v13 (q := (⟨"StackHostModel", "instanceNamed", "(II)I"⟩, 97)) (List.mem_of_getElem? (i := 3) (by decide +kernel))) (by decide +kernel)
theorem m_38cc0777 : (.code y_M_instanceNamed b_M_instanceNamed 6 (some .int) : Cond) ∈ xt_tbl := xt_in (xt_t12 (List.mem_of_getElem? (i := 45) (by decide +kernel))) (by decide +kernel)
theorem m_45a45fd8 : (.methodLink "StackHostModel" 502 y_M_ofHost : Cond) ∈ xt_tbl := xt_in (xt_t12 (List.mem_of_getElem? (i := 37) (by decide +kernel))) (by decide +kernel)
theorem m_8a37fe91 : (.instanceMethod y_M_ofHost : Cond) ∈ xt_tbl := xt_in (xt_t12 (List.mem_of_getElem? (i := 39) (by decide +kernel))) (by decide +kernel)
theorem m_7ed22e70 : (.selects "StackHostModel" y_M_ofHost y_M_ofHost : Cond) ∈ xt_tbl := xt_in (xt_v13 (q := (⟨"StackHostModel", "ofHost", "(III)I"⟩, 97)) (List.mem_of_getElem? (i := 2) (by decide +kernel))) (by decide +kernel)
theorem m_51ba99a3 : (.code y_M_ofHost b_M_ofHost 7 (some .int) : Cond) ∈ xt_tbl := xt_in (xt_t12 (List.mem_of_getElem? (i := 40) (by decide +kernel))) (by decide +kernel)
theorem nm_M_fits : xt_nm y_M_fits 4 := ⟨by decide +kernel, by decide +kernel⟩
theorem nm_M_isHost : xt_nm y_M_isHost 2 := ⟨by decide +kernel, by decide +kernel⟩
theorem nm_M_instanceNamed : xt_nm y_M_instanceNamed 2 := ⟨by decide +kernel, by decide +kernel⟩
theorem nm_M_ofHost : xt_nm y_M_ofHost 3 := ⟨by decide +kernel, by decide +kernel⟩
set_option maxRecDepth 100000 in
def T_M_found : List (Nat × Instr × Nat) := [(0, .aload_n 0, 1), (1, .iload_n 1, 1), (2, .iload_n 2, 1), (3, .invokevirtual 327, 3), (6, .istore_n 3, 1), (7, .aload_n 0, 1), (8, .iload_n 1, 1), (9, .aload_n 0, 1), (10, .iload_n 1, 1), (11, .iconst 2, 1), (12, .iload_n 2, 1), (13, .invokevirtual 320, 3), (16, .invokevirtual 324, 3), (19, .aload_n 0, 1), (20, .invokevirtual 218, 3), (23, .l2i, 1), (24, .istore 4, 2), (26, .aload_n 0, 1), (27, .getfield 202, 3), (30, .istore 5, 2), (32, .iload 5, 2), (34, .iload 4, 2), (36, .iadd, 1), (37, .istore 6, 2), (39, .aload_n 0, 1), (40, .iload_n 1, 1), (41, .iload 6, 2), (43, .invokevirtual 324, 3), (46, .aload_n 0, 1), (47, .invokevirtual 218, 3), (50, .l2i, 1), (51, .istore 7, 2), (53, .aload_n 0, 1), (54, .getfield 202, 3), (57, .istore 8, 2), (59, .iconst 0, 1), (60, .istore 9, 2), (62, .aload_n 0, 1), (63, .iload 5, 2), (65, .iload 4, 2), (67, .invokevirtual 499, 3), (70, .ifCond .eq 16, 3), (73, .aload_n 0, 1), (74, .iload_n 1, 1), (75, .iload_n 3, 1), (76, .iload 6, 2), (78, .invokevirtual 502, 3), (81, .istore 9, 2), (83, .goto 100, 3), (86, .aload_n 0, 1), (87, .iload 5, 2), (89, .iload 4, 2), (91, .invokevirtual 505, 3), (94, .istore 10, 2), (96, .iload 10, 2), (98, .ifCond .ge 7, 3), (101, .iconst (-1), 1), (102, .goto 13, 3), (105, .aload_n 0, 1), (106, .iload 10, 2), (108, .iload 8, 2), (110, .iload 7, 2), (112, .invokevirtual 508, 3), (115, .istore 11, 2), (117, .iload 10, 2), (119, .ifCond .lt 8, 3), (122, .iload 11, 2), (124, .ifCond .ge 16, 3), (127, .iload 10, 2), (129, .ifCond .ge 8, 3), (132, .bipush (-41), 2), (134, .goto 5, 3), (137, .bipush (-42), 2), (139, .ireturn, 1), (140, .aload_n 0, 1), (141, .getfield 62, 3), (144, .iload 10, 2), (146, .iaload, 1), (147, .istore 12, 2), (149, .aload_n 0, 1), (150, .iload 12, 2), (152, .iload 11, 2), (154, .invokevirtual 486, 3), (157, .iload_n 3, 1), (158, .if_icmp .ne 21, 3), (161, .aload_n 0, 1), (162, .iload 10, 2), (164, .iload_n 3, 1), (165, .aload_n 0, 1), (166, .iload 12, 2), (168, .iload 11, 2), (170, .invokevirtual 511, 3), (173, .invokevirtual 479, 3), (176, .goto 5, 3), (179, .bipush (-43), 2), (181, .istore 9, 2), (183, .iload 9, 2), (185, .ifCond .ge 8, 3), (188, .iload 9, 2), (190, .goto 22, 3), (193, .aload_n 0, 1), (194, .iload_n 1, 1), (195, .iload_n 2, 1), (196, .iload_n 3, 1), (197, .iload 9, 2), (199, .invokevirtual 514, 3), (202, .ifCond .eq 8, 3), (205, .iload 9, 2), (207, .goto 5, 3), (210, .bipush (-43), 2), (212, .ireturn, 1)]
theorem D_M_found : ∀ q ∈ T_M_found, decode b_M_found q.1 = .ok (q.2.1, q.2.2) := by decide +kernel

set_option maxHeartbeats 4000000 in
set_option maxRecDepth 100000 in
theorem am_M_found_L212 (l : Launch) (hfl : l.flags = pinnedFlags ++ [noTraceFlag]) (D : va_G) (A : Nat → Prop) (σ MC MS : Nat) (h0 : xb_H) (Qr : Int32 → xb_H → Prop) (y0 : Int32) (h : xb_H) (hw : w_M_found_L212 Qr y0 h) : xb_am l D A σ 11 MC MS h0 (fun v h _ _ => ∃ r, v = some (.int r) ∧ Qr r h) (fun _ _ _ _ => False) y_M_found.cls y_M_found.name b_M_found 13 ([] : List ExceptionTableEntry) (some .int) 212 [] [.int y0] h 0 0 := by
  unfold w_M_found_L212 at hw
  intro p e s m args below meth c hC H locs ls k n hE hl hR hS hk hn
  obtain ⟨hx, hb, hown, hlocks, htab, hml, hr, hB, hA, hnm⟩ := id hC
  have hts := hB.1.1.at args
  exact xb_iret 0 0 hx hb hr hlocks (show k + 0 ≤ MC by omega) (show n + 0 ≤ MS by omega) hE hR hS (xb_d D_M_found 110 rfl) hw

set_option maxHeartbeats 4000000 in
set_option maxRecDepth 100000 in
theorem am_M_found_L183 (l : Launch) (hfl : l.flags = pinnedFlags ++ [noTraceFlag]) (D : va_G) (A : Nat → Prop) (σ MC MS : Nat) (h0 : xb_H) (Qr : Int32 → xb_H → Prop) (x0 : Nat) (x1 : Int32) (x2 : Int32) (x3 : Int32) (x9 : Int32) (h : xb_H) (hw : w_M_found_L183 Qr x0 x1 x2 x3 x9 h) : xb_am l D A σ 11 MC MS h0 (fun v h _ _ => ∃ r, v = some (.int r) ∧ Qr r h) (fun _ _ _ _ => False) y_M_found.cls y_M_found.name b_M_found 13 ([] : List ExceptionTableEntry) (some .int) 183 [(0, .ref x0), (1, .int x1), (2, .int x2), (3, .int x3), (9, .int x9)] [] h 0 0 := by
  unfold w_M_found_L183 at hw
  intro p e s m args below meth c hC H locs ls k n hE hl hR hS hk hn
  obtain ⟨hx, hb, hown, hlocks, htab, hml, hr, hB, hA, hnm⟩ := id hC
  have hts := hB.1.1.at args
  refine lv_iload hx hb (xb_d D_M_found 96 rfl) (lv_at hl 4 rfl) ?_
  refine lv_if_ge (tgt := 193) hx hb (xb_d D_M_found 97 rfl) rfl (fun hc1 => ?_) (fun hc1 => ?_)
  · have hw := hw.1 hc1
    refine lv_aload_n hx hb (xb_d D_M_found 100 rfl) rfl (lv_at hl 0 rfl) ?_
    refine lv_iload_n hx hb (xb_d D_M_found 101 rfl) rfl (lv_at hl 1 rfl) ?_
    refine lv_iload_n hx hb (xb_d D_M_found 102 rfl) rfl (lv_at hl 2 rfl) ?_
    refine lv_iload_n hx hb (xb_d D_M_found 103 rfl) rfl (lv_at hl 3 rfl) ?_
    refine lv_iload hx hb (xb_d D_M_found 104 rfl) (lv_at hl 4 rfl) ?_
    obtain ⟨hk2, hw⟩ := hw
    refine xb_call0 (D := D) (A := A) (σ := σ) (h := h) (d := 10) (maxL := 11) (rest := []) (av := [.ref x0, .int x1, .int x2, .int x3, .int x9]) (fun T hT X => by obtain ⟨cb9, ra9, rb9, rc9⟩ := xb_recv (ci := 8) hR rfl hk2 (by decide); exact xt_invV X hx hown (hts _ m_8bcf01e9) (hts _ m_58c1b06e) (hts _ m_b1c8ece1) (xt_sigOf (hts _ m_f7d46fca)) nm_M_fits (by rw [hT]; exact ra9) rb9 rc9 (g := F0 m 199 ls [.int x9, .int x3, .int x2, .int x1, .ref x0]) rfl (argsL := [.int x1, .int x2, .int x3, .int x9]) (rest := []) rfl rfl (by rw [hb]; exact (xb_d D_M_found 105 rfl))) (ok_M_fits l hfl D A σ x0 x1 x2 x3 x9 h _ hw) (hml.trans hl.1.symm) (by rw [hb]; exact (xb_d D_M_found 105 rfl)) (Nat.le_of_ble_eq_true rfl) (Nat.le_of_ble_eq_true rfl) (Nat.le_of_ble_eq_true rfl) (show k ≤ MC by omega) (show n ≤ MS by omega) (xt_w1 hB.1 m_f7d46fca) (xt_cdOf hB.1 m_f7d46fca) (hts _ m_d5ed7bed) hB hR hS hA (fun vv h3 H locs hq hEh3 hR hS => ?_)
    obtain ⟨r4, rfl, hw⟩ := hq
    have hw := hw hEh3
    have hE := hE.tr hEh3
    refine W.eq (g2 := F0 m 202 ls [.int r4]) rfl ?_
    refine lv_if_eq (tgt := 210) hx hb (xb_d D_M_found 106 rfl) rfl (fun hc5 => ?_) (fun hc5 => ?_)
    · have hw := hw.1 hc5
      refine lv_bipush (v := (-43)) hx hb (xb_d D_M_found 109 rfl) (by decide) ?_
      exact am_M_found_L212 l hfl D A σ MC MS h0 Qr (-43) h3 hw p e s m args below meth c hC H locs ls k n hE (lv_sub hl [] rfl) hR hS (by omega) (by omega)
    · have hw := hw.2 hc5
      refine lv_iload hx hb (xb_d D_M_found 107 rfl) (lv_at hl 4 rfl) ?_
      refine lv_goto (tgt := 212) hx hb (xb_d D_M_found 108 rfl) rfl ?_
      exact am_M_found_L212 l hfl D A σ MC MS h0 Qr x9 h3 hw p e s m args below meth c hC H locs ls k n hE (lv_sub hl [] rfl) hR hS (by omega) (by omega)
  · have hw := hw.2 hc1
    refine lv_iload hx hb (xb_d D_M_found 98 rfl) (lv_at hl 4 rfl) ?_
    refine lv_goto (tgt := 212) hx hb (xb_d D_M_found 99 rfl) rfl ?_
    exact am_M_found_L212 l hfl D A σ MC MS h0 Qr x9 h hw p e s m args below meth c hC H locs ls k n hE (lv_sub hl [] rfl) hR hS (by omega) (by omega)

set_option maxHeartbeats 4000000 in
set_option maxRecDepth 100000 in
theorem am_M_found_L181 (l : Launch) (hfl : l.flags = pinnedFlags ++ [noTraceFlag]) (D : va_G) (A : Nat → Prop) (σ MC MS : Nat) (h0 : xb_H) (Qr : Int32 → xb_H → Prop) (x0 : Nat) (x1 : Int32) (x2 : Int32) (x3 : Int32) (y0 : Int32) (h : xb_H) (hw : w_M_found_L181 Qr x0 x1 x2 x3 y0 h) : xb_am l D A σ 11 MC MS h0 (fun v h _ _ => ∃ r, v = some (.int r) ∧ Qr r h) (fun _ _ _ _ => False) y_M_found.cls y_M_found.name b_M_found 13 ([] : List ExceptionTableEntry) (some .int) 181 [(0, .ref x0), (1, .int x1), (2, .int x2), (3, .int x3)] [.int y0] h 0 0 := by
  unfold w_M_found_L181 at hw
  intro p e s m args below meth c hC H locs ls k n hE hl hR hS hk hn
  obtain ⟨hx, hb, hown, hlocks, htab, hml, hr, hB, hA, hnm⟩ := id hC
  have hts := hB.1.1.at args
  refine lv_istore hx hb (xb_d D_M_found 95 rfl) hl (by decide) rfl (fun ls hl => ?_)
  have hl : lv_has ls 13 [(9, .int y0), (0, .ref x0), (1, .int x1), (2, .int x2), (3, .int x3)] := hl
  exact am_M_found_L183 l hfl D A σ MC MS h0 Qr x0 x1 x2 x3 y0 h hw p e s m args below meth c hC H locs ls k n hE (lv_sub hl [1, 2, 3, 4, 0] rfl) hR hS (by omega) (by omega)

set_option maxHeartbeats 4000000 in
set_option maxRecDepth 100000 in
theorem am_M_found_L139 (l : Launch) (hfl : l.flags = pinnedFlags ++ [noTraceFlag]) (D : va_G) (A : Nat → Prop) (σ MC MS : Nat) (h0 : xb_H) (Qr : Int32 → xb_H → Prop) (y0 : Int32) (h : xb_H) (hw : w_M_found_L139 Qr y0 h) : xb_am l D A σ 11 MC MS h0 (fun v h _ _ => ∃ r, v = some (.int r) ∧ Qr r h) (fun _ _ _ _ => False) y_M_found.cls y_M_found.name b_M_found 13 ([] : List ExceptionTableEntry) (some .int) 139 [] [.int y0] h 0 0 := by
  unfold w_M_found_L139 at hw
  intro p e s m args below meth c hC H locs ls k n hE hl hR hS hk hn
  obtain ⟨hx, hb, hown, hlocks, htab, hml, hr, hB, hA, hnm⟩ := id hC
  have hts := hB.1.1.at args
  exact xb_iret 0 0 hx hb hr hlocks (show k + 0 ≤ MC by omega) (show n + 0 ≤ MS by omega) hE hR hS (xb_d D_M_found 73 rfl) hw

set_option maxHeartbeats 4000000 in
set_option maxRecDepth 100000 in
theorem am_M_found_L127 (l : Launch) (hfl : l.flags = pinnedFlags ++ [noTraceFlag]) (D : va_G) (A : Nat → Prop) (σ MC MS : Nat) (h0 : xb_H) (Qr : Int32 → xb_H → Prop) (x10 : Int32) (h : xb_H) (hw : w_M_found_L127 Qr x10 h) : xb_am l D A σ 11 MC MS h0 (fun v h _ _ => ∃ r, v = some (.int r) ∧ Qr r h) (fun _ _ _ _ => False) y_M_found.cls y_M_found.name b_M_found 13 ([] : List ExceptionTableEntry) (some .int) 127 [(10, .int x10)] [] h 0 0 := by
  unfold w_M_found_L127 at hw
  intro p e s m args below meth c hC H locs ls k n hE hl hR hS hk hn
  obtain ⟨hx, hb, hown, hlocks, htab, hml, hr, hB, hA, hnm⟩ := id hC
  have hts := hB.1.1.at args
  refine lv_iload hx hb (xb_d D_M_found 68 rfl) (lv_at hl 0 rfl) ?_
  refine lv_if_ge (tgt := 137) hx hb (xb_d D_M_found 69 rfl) rfl (fun hc1 => ?_) (fun hc1 => ?_)
  · have hw := hw.1 hc1
    refine lv_bipush (v := (-42)) hx hb (xb_d D_M_found 72 rfl) (by decide) ?_
    exact am_M_found_L139 l hfl D A σ MC MS h0 Qr (-42) h hw p e s m args below meth c hC H locs ls k n hE (lv_sub hl [] rfl) hR hS (by omega) (by omega)
  · have hw := hw.2 hc1
    refine lv_bipush (v := (-41)) hx hb (xb_d D_M_found 70 rfl) (by decide) ?_
    refine lv_goto (tgt := 139) hx hb (xb_d D_M_found 71 rfl) rfl ?_
    exact am_M_found_L139 l hfl D A σ MC MS h0 Qr (-41) h hw p e s m args below meth c hC H locs ls k n hE (lv_sub hl [] rfl) hR hS (by omega) (by omega)

set_option maxHeartbeats 4000000 in
set_option maxRecDepth 100000 in
theorem am_M_found_L115 (l : Launch) (hfl : l.flags = pinnedFlags ++ [noTraceFlag]) (D : va_G) (A : Nat → Prop) (σ MC MS : Nat) (h0 : xb_H) (Qr : Int32 → xb_H → Prop) (x0 : Nat) (x1 : Int32) (x2 : Int32) (x3 : Int32) (x10 : Int32) (y0 : Int32) (h : xb_H) (hw : w_M_found_L115 Qr x0 x1 x2 x3 x10 y0 h) : xb_am l D A σ 11 MC MS h0 (fun v h _ _ => ∃ r, v = some (.int r) ∧ Qr r h) (fun _ _ _ _ => False) y_M_found.cls y_M_found.name b_M_found 13 ([] : List ExceptionTableEntry) (some .int) 115 [(0, .ref x0), (1, .int x1), (2, .int x2), (3, .int x3), (10, .int x10)] [.int y0] h 0 0 := by
  unfold w_M_found_L115 at hw
  intro p e s m args below meth c hC H locs ls k n hE hl hR hS hk hn
  obtain ⟨hx, hb, hown, hlocks, htab, hml, hr, hB, hA, hnm⟩ := id hC
  have hts := hB.1.1.at args
  refine lv_istore hx hb (xb_d D_M_found 63 rfl) hl (by decide) rfl (fun ls hl => ?_)
  have hl : lv_has ls 13 [(11, .int y0), (0, .ref x0), (1, .int x1), (2, .int x2), (3, .int x3), (10, .int x10)] := hl
  refine lv_iload hx hb (xb_d D_M_found 64 rfl) (lv_at hl 5 rfl) ?_
  refine lv_if_lt (tgt := 127) hx hb (xb_d D_M_found 65 rfl) rfl (fun hc1 => ?_) (fun hc1 => ?_)
  · have hw := hw.1 hc1
    exact am_M_found_L127 l hfl D A σ MC MS h0 Qr x10 h hw p e s m args below meth c hC H locs ls k n hE (lv_sub hl [5] rfl) hR hS (by omega) (by omega)
  · have hw := hw.2 hc1
    refine lv_iload hx hb (xb_d D_M_found 66 rfl) (lv_at hl 0 rfl) ?_
    refine lv_if_ge (tgt := 140) hx hb (xb_d D_M_found 67 rfl) rfl (fun hc2 => ?_) (fun hc2 => ?_)
    · have hw := hw.1 hc2
      refine lv_aload_n hx hb (xb_d D_M_found 74 rfl) rfl (lv_at hl 1 rfl) ?_
      obtain ⟨hk3, hw⟩ := hw
      refine xb_getP (C := R_M) (T := F_M) (N := 97) hx hb 8 31 hts fin_M hown hR hk3 (by decide) rfl (by decide) rfl (hts _ m_691d5f47) (fun _ h9 => h9) (xb_d D_M_found 75 rfl) ?_
      obtain ⟨b4, eb4, hw⟩ := hw
      refine xb_some eb4 ?_
      refine lv_iload hx hb (xb_d D_M_found 76 rfl) (lv_at hl 5 rfl) ?_
      obtain ⟨hk6, hw⟩ := hw
      obtain ⟨hi5, hw⟩ := hw
      refine xb_iald hx hb hR hk6 hi5 (xb_d D_M_found 77 rfl) ?_
      obtain ⟨v7, ev7⟩ : ∃ x : Int32, x = (xb_i h b4 (Int32.toNatClampNeg x10)) := ⟨_, rfl⟩
      have hw := hw v7 ev7
      refine xt_numi (y := v7) ev7.symm ?_
      refine lv_istore hx hb (xb_d D_M_found 78 rfl) hl (by decide) rfl (fun ls hl => ?_)
      have hl : lv_has ls 13 [(12, .int v7), (11, .int y0), (0, .ref x0), (1, .int x1), (2, .int x2), (3, .int x3), (10, .int x10)] := hl
      refine lv_aload_n hx hb (xb_d D_M_found 79 rfl) rfl (lv_at hl 2 rfl) ?_
      refine lv_iload hx hb (xb_d D_M_found 80 rfl) (lv_at hl 0 rfl) ?_
      refine lv_iload hx hb (xb_d D_M_found 81 rfl) (lv_at hl 1 rfl) ?_
      refine xb_call0 (D := D) (A := A) (σ := σ) (h := h) (d := 6) (maxL := 3) (rest := []) (av := [.ref x0, .int v7, .int y0]) (fun T hT X => by obtain ⟨cb9, ra9, rb9, rc9⟩ := xb_recv (ci := 8) hR rfl hk3 (by decide); exact xt_invV X hx hown (hts _ m_c71d5853) (hts _ m_3fd4c934) (hts _ m_0b430860) (xt_sigOf (hts _ m_c14fc813)) nm_M_exportKind (by rw [hT]; exact ra9) rb9 rc9 (g := F0 m 154 ls [.int y0, .int v7, .ref x0]) rfl (argsL := [.int v7, .int y0]) (rest := []) rfl rfl (by rw [hb]; exact (xb_d D_M_found 82 rfl))) (ok_M_exportKind l hfl D A σ x0 v7 y0 h _ hw) (hml.trans hl.1.symm) (by rw [hb]; exact (xb_d D_M_found 82 rfl)) (Nat.le_of_ble_eq_true rfl) (Nat.le_of_ble_eq_true rfl) (Nat.le_of_ble_eq_true rfl) (show k ≤ MC by omega) (show n ≤ MS by omega) (xt_w1 hB.1 m_c14fc813) (xt_cdOf hB.1 m_c14fc813) (hts _ m_d5ed7bed) hB hR hS hA (fun vv h8 H locs hq hEh8 hR hS => ?_)
      obtain ⟨r9, rfl, hw⟩ := hq
      have hw := hw hEh8
      have hE := hE.tr hEh8
      refine W.eq (g2 := F0 m 157 ls [.int r9]) rfl ?_
      refine lv_iload_n hx hb (xb_d D_M_found 83 rfl) rfl (lv_at hl 5 rfl) ?_
      refine lv_icmp_ne (tgt := 179) hx hb (xb_d D_M_found 84 rfl) rfl (fun hc10 => ?_) (fun hc10 => ?_)
      · have hw := hw.1 hc10
        refine lv_bipush (v := (-43)) hx hb (xb_d D_M_found 94 rfl) (by decide) ?_
        exact am_M_found_L181 l hfl D A σ MC MS h0 Qr x0 x1 x2 x3 (-43) h8 hw p e s m args below meth c hC H locs ls k n hE (lv_sub hl [2, 3, 4, 5] rfl) hR hS (by omega) (by omega)
      · have hw := hw.2 hc10
        refine lv_aload_n hx hb (xb_d D_M_found 85 rfl) rfl (lv_at hl 2 rfl) ?_
        refine lv_iload hx hb (xb_d D_M_found 86 rfl) (lv_at hl 6 rfl) ?_
        refine lv_iload_n hx hb (xb_d D_M_found 87 rfl) rfl (lv_at hl 5 rfl) ?_
        refine lv_aload_n hx hb (xb_d D_M_found 88 rfl) rfl (lv_at hl 2 rfl) ?_
        refine lv_iload hx hb (xb_d D_M_found 89 rfl) (lv_at hl 0 rfl) ?_
        refine lv_iload hx hb (xb_d D_M_found 90 rfl) (lv_at hl 1 rfl) ?_
        have hk3 : xb_k h8 x0 = 9 := hEh8.k hk3
        refine xb_call0 (D := D) (A := A) (σ := σ) (h := h8) (d := 7) (maxL := 3) (rest := [.int x3, .int x10, .ref x0]) (av := [.ref x0, .int v7, .int y0]) (fun T hT X => by obtain ⟨cb9, ra9, rb9, rc9⟩ := xb_recv (ci := 8) hR rfl hk3 (by decide); exact xt_invV X hx hown (hts _ m_ffdcfbf2) (hts _ m_0d2cbdfc) (hts _ m_92840f1d) (xt_sigOf (hts _ m_9f02a356)) nm_M_exportNumber (by rw [hT]; exact ra9) rb9 rc9 (g := F0 m 170 ls [.int y0, .int v7, .ref x0, .int x3, .int x10, .ref x0]) rfl (argsL := [.int v7, .int y0]) (rest := [.int x3, .int x10, .ref x0]) rfl rfl (by rw [hb]; exact (xb_d D_M_found 91 rfl))) (ok_M_exportNumber l hfl D A σ x0 v7 y0 h8 _ hw) (hml.trans hl.1.symm) (by rw [hb]; exact (xb_d D_M_found 91 rfl)) (Nat.le_of_ble_eq_true rfl) (Nat.le_of_ble_eq_true rfl) (Nat.le_of_ble_eq_true rfl) (show k ≤ MC by omega) (show n ≤ MS by omega) (xt_w1 hB.1 m_9f02a356) (xt_cdOf hB.1 m_9f02a356) (hts _ m_d5ed7bed) hB hR hS hA (fun vv h11 H locs hq hEh11 hR hS => ?_)
        obtain ⟨r12, rfl, hw⟩ := hq
        have hw := hw hEh11
        have hE := hE.tr hEh11
        refine W.eq (g2 := F0 m 173 ls [.int r12, .int x3, .int x10, .ref x0]) rfl ?_
        have hk3 : xb_k h11 x0 = 9 := hEh11.k hk3
        refine xb_call0 (D := D) (A := A) (σ := σ) (h := h11) (d := 8) (maxL := 6) (rest := []) (av := [.ref x0, .int x10, .int x3, .int r12]) (fun T hT X => by obtain ⟨cb9, ra9, rb9, rc9⟩ := xb_recv (ci := 8) hR rfl hk3 (by decide); exact xt_invV X hx hown (hts _ m_5ec466f2) (hts _ m_f0f1d102) (hts _ m_cfa25922) (xt_sigOf (hts _ m_59347bba)) nm_M_meant (by rw [hT]; exact ra9) rb9 rc9 (g := F0 m 173 ls [.int r12, .int x3, .int x10, .ref x0]) rfl (argsL := [.int x10, .int x3, .int r12]) (rest := []) rfl rfl (by rw [hb]; exact (xb_d D_M_found 92 rfl))) (ok_M_meant l hfl D A σ x0 x10 x3 r12 h11 _ hw) (hml.trans hl.1.symm) (by rw [hb]; exact (xb_d D_M_found 92 rfl)) (Nat.le_of_ble_eq_true rfl) (Nat.le_of_ble_eq_true rfl) (Nat.le_of_ble_eq_true rfl) (show k ≤ MC by omega) (show n ≤ MS by omega) (xt_w1 hB.1 m_59347bba) (xt_cdOf hB.1 m_59347bba) (hts _ m_d5ed7bed) hB hR hS hA (fun vv h13 H locs hq hEh13 hR hS => ?_)
        obtain ⟨r14, rfl, hw⟩ := hq
        have hw := hw hEh13
        have hE := hE.tr hEh13
        refine W.eq (g2 := F0 m 176 ls [.int r14]) rfl ?_
        refine lv_goto (tgt := 181) hx hb (xb_d D_M_found 93 rfl) rfl ?_
        exact am_M_found_L181 l hfl D A σ MC MS h0 Qr x0 x1 x2 x3 r14 h13 hw p e s m args below meth c hC H locs ls k n hE (lv_sub hl [2, 3, 4, 5] rfl) hR hS (by omega) (by omega)
    · have hw := hw.2 hc2
      exact am_M_found_L127 l hfl D A σ MC MS h0 Qr x10 h hw p e s m args below meth c hC H locs ls k n hE (lv_sub hl [5] rfl) hR hS (by omega) (by omega)

set_option maxHeartbeats 4000000 in
set_option maxRecDepth 100000 in
theorem ok_M_found (l : Launch) (hfl : l.flags = pinnedFlags ++ [noTraceFlag]) (D : va_G) (A : Nat → Prop) (σ : Nat) (x0 : Nat) (x1 : Int32) (x2 : Int32) (h : xb_H) (Qr : Int32 → xb_H → Prop) (hw : w_M_found x0 x1 x2 h Qr) : xb_Met l y_M_found [.code y_M_found b_M_found 13 (some .int)] (xb_rm 11 0 0) (xb_Pc D A σ h [.ref x0, .int x1, .int x2]) (xb_Qc D A h 0 0 (fun v h _ _ => ∃ r, v = some (.int r) ∧ Qr r h) (fun _ _ _ _ => False)) A := by
  refine xb_ofAm (cc := b_M_found) (by decide) (Nat.le_of_ble_eq_true rfl) ?_
  unfold w_M_found at hw
  show xb_am l D A σ 11 0 0 h (fun v h _ _ => ∃ r, v = some (.int r) ∧ Qr r h) (fun _ _ _ _ => False) y_M_found.cls y_M_found.name b_M_found 13 ([] : List ExceptionTableEntry) (some .int) 0 [(0, .ref x0), (1, .int x1), (2, .int x2)] [] h 0 0
  obtain ⟨MC, hMC⟩ : ∃ x, x = 0 := ⟨_, rfl⟩
  obtain ⟨MS, hMS⟩ : ∃ x, x = 0 := ⟨_, rfl⟩
  rw [show xb_am l D A σ 11 0 0 = xb_am l D A σ 11 MC MS by rw [hMC, hMS]]
  obtain ⟨h0, hh0⟩ : ∃ x, x = h := ⟨_, rfl⟩
  rw [show xb_am l D A σ 11 MC MS h = xb_am l D A σ 11 MC MS h0 by rw [hh0]]
  intro p e s m args below meth c hC H locs ls k n hE hl hR hS hk hn
  obtain ⟨hx, hb, hown, hlocks, htab, hml, hr, hB, hA, hnm⟩ := id hC
  have hts := hB.1.1.at args
  refine lv_aload_n hx hb (xb_d D_M_found 0 rfl) rfl (lv_at hl 0 rfl) ?_
  refine lv_iload_n hx hb (xb_d D_M_found 1 rfl) rfl (lv_at hl 1 rfl) ?_
  refine lv_iload_n hx hb (xb_d D_M_found 2 rfl) rfl (lv_at hl 2 rfl) ?_
  obtain ⟨hk1, hw⟩ := hw
  refine xb_call0 (D := D) (A := A) (σ := σ) (h := h) (d := 6) (maxL := 3) (rest := []) (av := [.ref x0, .int x1, .int x2]) (fun T hT X => by obtain ⟨cb9, ra9, rb9, rc9⟩ := xb_recv (ci := 8) hR rfl hk1 (by decide); exact xt_invV X hx hown (hts _ m_eabb9d5c) (hts _ m_79671d92) (hts _ m_0429489b) (xt_sigOf (hts _ m_2f1c0a34)) nm_M_importAt (by rw [hT]; exact ra9) rb9 rc9 (g := F0 m 3 ls [.int x2, .int x1, .ref x0]) rfl (argsL := [.int x1, .int x2]) (rest := []) rfl rfl (by rw [hb]; exact (xb_d D_M_found 3 rfl))) (ok_M_importAt l hfl D A σ x0 x1 x2 h _ hw) (hml.trans hl.1.symm) (by rw [hb]; exact (xb_d D_M_found 3 rfl)) (Nat.le_of_ble_eq_true rfl) (Nat.le_of_ble_eq_true rfl) (Nat.le_of_ble_eq_true rfl) (show k ≤ MC by omega) (show n ≤ MS by omega) (xt_w1 hB.1 m_2f1c0a34) (xt_cdOf hB.1 m_2f1c0a34) (hts _ m_d5ed7bed) hB hR hS hA (fun vv h2 H locs hq hEh2 hR hS => ?_)
  obtain ⟨r3, rfl, hw⟩ := hq
  have hw := hw hEh2
  have hE := hE.tr hEh2
  refine W.eq (g2 := F0 m 6 ls [.int r3]) rfl ?_
  refine lv_istore_n hx hb (xb_d D_M_found 4 rfl) rfl hl (by decide) rfl (fun ls hl => ?_)
  have hl : lv_has ls 13 [(3, .int r3), (0, .ref x0), (1, .int x1), (2, .int x2)] := hl
  refine lv_aload_n hx hb (xb_d D_M_found 5 rfl) rfl (lv_at hl 1 rfl) ?_
  refine lv_iload_n hx hb (xb_d D_M_found 6 rfl) rfl (lv_at hl 2 rfl) ?_
  refine lv_aload_n hx hb (xb_d D_M_found 7 rfl) rfl (lv_at hl 1 rfl) ?_
  refine lv_iload_n hx hb (xb_d D_M_found 8 rfl) rfl (lv_at hl 2 rfl) ?_
  refine lv_iconst (v := 2) hx hb (xb_d D_M_found 9 rfl) (by decide) ?_
  refine lv_iload_n hx hb (xb_d D_M_found 10 rfl) rfl (lv_at hl 3 rfl) ?_
  have hk1 : xb_k h2 x0 = 9 := hEh2.k hk1
  refine xb_call0 (D := D) (A := A) (σ := σ) (h := h2) (d := 2) (maxL := 4) (rest := [.int x1, .ref x0]) (av := [.ref x0, .int x1, .int 2, .int x2]) (fun T hT X => by obtain ⟨cb9, ra9, rb9, rc9⟩ := xb_recv (ci := 8) hR rfl hk1 (by decide); exact xt_invV X hx hown (hts _ m_7f41753e) (hts _ m_8cdd7108) (hts _ m_e228318f) (xt_sigOf (hts _ m_89667ad5)) nm_M_placeOf (by rw [hT]; exact ra9) rb9 rc9 (g := F0 m 13 ls [.int x2, .int 2, .int x1, .ref x0, .int x1, .ref x0]) rfl (argsL := [.int x1, .int 2, .int x2]) (rest := [.int x1, .ref x0]) rfl rfl (by rw [hb]; exact (xb_d D_M_found 11 rfl))) (ok_M_placeOf l hfl D A σ x0 x1 2 x2 h2 _ hw) (hml.trans hl.1.symm) (by rw [hb]; exact (xb_d D_M_found 11 rfl)) (Nat.le_of_ble_eq_true rfl) (Nat.le_of_ble_eq_true rfl) (Nat.le_of_ble_eq_true rfl) (show k ≤ MC by omega) (show n ≤ MS by omega) (xt_w1 hB.1 m_89667ad5) (xt_cdOf hB.1 m_89667ad5) (hts _ m_d5ed7bed) hB hR hS hA (fun vv h4 H locs hq hEh4 hR hS => ?_)
  obtain ⟨r5, rfl, hw⟩ := hq
  have hw := hw hEh4
  have hE := hE.tr hEh4
  refine W.eq (g2 := F0 m 16 ls [.int r5, .int x1, .ref x0]) rfl ?_
  have hk1 : xb_k h4 x0 = 9 := hEh4.k hk1
  refine xb_call0 (D := D) (A := A) (σ := σ) (h := h4) (d := 2) (maxL := 3) (rest := []) (av := [.ref x0, .int x1, .int r5]) (fun T hT X => by obtain ⟨cb9, ra9, rb9, rc9⟩ := xb_recv (ci := 8) hR rfl hk1 (by decide); exact xt_invV X hx hown (hts _ m_bb531879) (hts _ m_4a6cd4a0) (hts _ m_d1c31e3c) (xt_sigOf (hts _ m_48217fba)) nm_M_go (by rw [hT]; exact ra9) rb9 rc9 (g := F0 m 16 ls [.int r5, .int x1, .ref x0]) rfl (argsL := [.int x1, .int r5]) (rest := []) rfl rfl (by rw [hb]; exact (xb_d D_M_found 12 rfl))) (ok_M_go l hfl D A σ x0 x1 r5 h4 _ hw) (hml.trans hl.1.symm) (by rw [hb]; exact (xb_d D_M_found 12 rfl)) (Nat.le_of_ble_eq_true rfl) (Nat.le_of_ble_eq_true rfl) (Nat.le_of_ble_eq_true rfl) (show k ≤ MC by omega) (show n ≤ MS by omega) (xt_w1 hB.1 m_48217fba) (xt_cdOf hB.1 m_48217fba) (hts _ m_d5ed7bed) hB hR hS hA (fun vv h6 H locs hq hEh6 hR hS => ?_)
  obtain ⟨rfl, hw⟩ := hq
  have hw := hw hEh6
  have hE := hE.tr hEh6
  refine W.eq (g2 := F0 m 19 ls []) rfl ?_
  refine lv_aload_n hx hb (xb_d D_M_found 13 rfl) rfl (lv_at hl 1 rfl) ?_
  have hk1 : xb_k h6 x0 = 9 := hEh6.k hk1
  refine xb_call0 (D := D) (A := A) (σ := σ) (h := h6) (d := 4) (maxL := 5) (rest := []) (av := [.ref x0]) (fun T hT X => by obtain ⟨cb9, ra9, rb9, rc9⟩ := xb_recv (ci := 8) hR rfl hk1 (by decide); exact xt_invV X hx hown (hts _ m_e991293f) (hts _ m_385a74b3) (hts _ m_c9fbcd02) (xt_sigOf (hts _ m_1f53f210)) nm_M_count (by rw [hT]; exact ra9) rb9 rc9 (g := F0 m 20 ls [.ref x0]) rfl (argsL := []) (rest := []) rfl rfl (by rw [hb]; exact (xb_d D_M_found 14 rfl))) (ok_M_count l hfl D A σ x0 h6 _ hw) (hml.trans hl.1.symm) (by rw [hb]; exact (xb_d D_M_found 14 rfl)) (Nat.le_of_ble_eq_true rfl) (Nat.le_of_ble_eq_true rfl) (Nat.le_of_ble_eq_true rfl) (show k ≤ MC by omega) (show n ≤ MS by omega) (xt_w1 hB.1 m_1f53f210) (xt_cdOf hB.1 m_1f53f210) (hts _ m_d5ed7bed) hB hR hS hA (fun vv h8 H locs hq hEh8 hR hS => ?_)
  obtain ⟨r9, rfl, hw⟩ := hq
  have hw := hw hEh8
  have hE := hE.tr hEh8
  refine W.eq (g2 := F0 m 23 ls [.long r9]) rfl ?_
  refine lv_l2i hx hb (xb_d D_M_found 15 rfl) rfl ?_
  obtain ⟨v10, ev10⟩ : ∃ x : Int32, x = (Int64.toInt32 r9) := ⟨_, rfl⟩
  have hw := hw v10 ev10
  refine xt_numi (y := v10) ev10.symm ?_
  refine lv_istore hx hb (xb_d D_M_found 16 rfl) hl (by decide) rfl (fun ls hl => ?_)
  have hl : lv_has ls 13 [(4, .int v10), (3, .int r3), (0, .ref x0), (1, .int x1), (2, .int x2)] := hl
  refine lv_aload_n hx hb (xb_d D_M_found 17 rfl) rfl (lv_at hl 2 rfl) ?_
  have hk1 : xb_k h8 x0 = 9 := hEh8.k hk1
  refine xb_getI (C := R_M) (T := F_M) (N := 97) hx hb 8 15 hts fin_M hown hR hk1 (by decide) rfl (by decide) rfl (hts _ m_6c2d27ad) (fun _ h9 => h9) (xb_d D_M_found 18 rfl) ?_
  obtain ⟨v11, ev11⟩ : ∃ x : Int32, x = (xb_i h8 x0 15) := ⟨_, rfl⟩
  have hw := hw v11 ev11
  refine xt_numi (y := v11) ev11.symm ?_
  refine lv_istore hx hb (xb_d D_M_found 19 rfl) hl (by decide) rfl (fun ls hl => ?_)
  have hl : lv_has ls 13 [(5, .int v11), (4, .int v10), (3, .int r3), (0, .ref x0), (1, .int x1), (2, .int x2)] := hl
  refine lv_iload hx hb (xb_d D_M_found 20 rfl) (lv_at hl 0 rfl) ?_
  refine lv_iload hx hb (xb_d D_M_found 21 rfl) (lv_at hl 1 rfl) ?_
  refine lv_iadd hx hb (xb_d D_M_found 22 rfl) ?_
  obtain ⟨v12, ev12⟩ : ∃ x : Int32, x = (v11 + v10) := ⟨_, rfl⟩
  have hw := hw v12 ev12
  refine xt_numi (y := v12) ev12.symm ?_
  refine lv_istore hx hb (xb_d D_M_found 23 rfl) hl (by decide) rfl (fun ls hl => ?_)
  have hl : lv_has ls 13 [(6, .int v12), (5, .int v11), (4, .int v10), (3, .int r3), (0, .ref x0), (1, .int x1), (2, .int x2)] := hl
  refine lv_aload_n hx hb (xb_d D_M_found 24 rfl) rfl (lv_at hl 4 rfl) ?_
  refine lv_iload_n hx hb (xb_d D_M_found 25 rfl) rfl (lv_at hl 5 rfl) ?_
  refine lv_iload hx hb (xb_d D_M_found 26 rfl) (lv_at hl 0 rfl) ?_
  refine xb_call0 (D := D) (A := A) (σ := σ) (h := h8) (d := 2) (maxL := 3) (rest := []) (av := [.ref x0, .int x1, .int v12]) (fun T hT X => by obtain ⟨cb9, ra9, rb9, rc9⟩ := xb_recv (ci := 8) hR rfl hk1 (by decide); exact xt_invV X hx hown (hts _ m_bb531879) (hts _ m_4a6cd4a0) (hts _ m_d1c31e3c) (xt_sigOf (hts _ m_48217fba)) nm_M_go (by rw [hT]; exact ra9) rb9 rc9 (g := F0 m 43 ls [.int v12, .int x1, .ref x0]) rfl (argsL := [.int x1, .int v12]) (rest := []) rfl rfl (by rw [hb]; exact (xb_d D_M_found 27 rfl))) (ok_M_go l hfl D A σ x0 x1 v12 h8 _ hw) (hml.trans hl.1.symm) (by rw [hb]; exact (xb_d D_M_found 27 rfl)) (Nat.le_of_ble_eq_true rfl) (Nat.le_of_ble_eq_true rfl) (Nat.le_of_ble_eq_true rfl) (show k ≤ MC by omega) (show n ≤ MS by omega) (xt_w1 hB.1 m_48217fba) (xt_cdOf hB.1 m_48217fba) (hts _ m_d5ed7bed) hB hR hS hA (fun vv h13 H locs hq hEh13 hR hS => ?_)
  obtain ⟨rfl, hw⟩ := hq
  have hw := hw hEh13
  have hE := hE.tr hEh13
  refine W.eq (g2 := F0 m 46 ls []) rfl ?_
  refine lv_aload_n hx hb (xb_d D_M_found 28 rfl) rfl (lv_at hl 4 rfl) ?_
  have hk1 : xb_k h13 x0 = 9 := hEh13.k hk1
  refine xb_call0 (D := D) (A := A) (σ := σ) (h := h13) (d := 4) (maxL := 5) (rest := []) (av := [.ref x0]) (fun T hT X => by obtain ⟨cb9, ra9, rb9, rc9⟩ := xb_recv (ci := 8) hR rfl hk1 (by decide); exact xt_invV X hx hown (hts _ m_e991293f) (hts _ m_385a74b3) (hts _ m_c9fbcd02) (xt_sigOf (hts _ m_1f53f210)) nm_M_count (by rw [hT]; exact ra9) rb9 rc9 (g := F0 m 47 ls [.ref x0]) rfl (argsL := []) (rest := []) rfl rfl (by rw [hb]; exact (xb_d D_M_found 29 rfl))) (ok_M_count l hfl D A σ x0 h13 _ hw) (hml.trans hl.1.symm) (by rw [hb]; exact (xb_d D_M_found 29 rfl)) (Nat.le_of_ble_eq_true rfl) (Nat.le_of_ble_eq_true rfl) (Nat.le_of_ble_eq_true rfl) (show k ≤ MC by omega) (show n ≤ MS by omega) (xt_w1 hB.1 m_1f53f210) (xt_cdOf hB.1 m_1f53f210) (hts _ m_d5ed7bed) hB hR hS hA (fun vv h15 H locs hq hEh15 hR hS => ?_)
  obtain ⟨r16, rfl, hw⟩ := hq
  have hw := hw hEh15
  have hE := hE.tr hEh15
  refine W.eq (g2 := F0 m 50 ls [.long r16]) rfl ?_
  refine lv_l2i hx hb (xb_d D_M_found 30 rfl) rfl ?_
  obtain ⟨v17, ev17⟩ : ∃ x : Int32, x = (Int64.toInt32 r16) := ⟨_, rfl⟩
  have hw := hw v17 ev17
  refine xt_numi (y := v17) ev17.symm ?_
  refine lv_istore hx hb (xb_d D_M_found 31 rfl) hl (by decide) rfl (fun ls hl => ?_)
  have hl : lv_has ls 13 [(7, .int v17), (6, .int v12), (5, .int v11), (4, .int v10), (3, .int r3), (0, .ref x0), (1, .int x1), (2, .int x2)] := hl
  refine lv_aload_n hx hb (xb_d D_M_found 32 rfl) rfl (lv_at hl 5 rfl) ?_
  have hk1 : xb_k h15 x0 = 9 := hEh15.k hk1
  refine xb_getI (C := R_M) (T := F_M) (N := 97) hx hb 8 15 hts fin_M hown hR hk1 (by decide) rfl (by decide) rfl (hts _ m_6c2d27ad) (fun _ h9 => h9) (xb_d D_M_found 33 rfl) ?_
  obtain ⟨v18, ev18⟩ : ∃ x : Int32, x = (xb_i h15 x0 15) := ⟨_, rfl⟩
  have hw := hw v18 ev18
  refine xt_numi (y := v18) ev18.symm ?_
  refine lv_istore hx hb (xb_d D_M_found 34 rfl) hl (by decide) rfl (fun ls hl => ?_)
  have hl : lv_has ls 13 [(8, .int v18), (7, .int v17), (6, .int v12), (5, .int v11), (4, .int v10), (3, .int r3), (0, .ref x0), (1, .int x1), (2, .int x2)] := hl
  refine lv_iconst (v := 0) hx hb (xb_d D_M_found 35 rfl) (by decide) ?_
  refine lv_istore hx hb (xb_d D_M_found 36 rfl) hl (by decide) rfl (fun ls hl => ?_)
  have hl : lv_has ls 13 [(9, .int 0), (8, .int v18), (7, .int v17), (6, .int v12), (5, .int v11), (4, .int v10), (3, .int r3), (0, .ref x0), (1, .int x1), (2, .int x2)] := hl
  refine lv_aload_n hx hb (xb_d D_M_found 37 rfl) rfl (lv_at hl 7 rfl) ?_
  refine lv_iload hx hb (xb_d D_M_found 38 rfl) (lv_at hl 4 rfl) ?_
  refine lv_iload hx hb (xb_d D_M_found 39 rfl) (lv_at hl 5 rfl) ?_
  refine xb_call0 (D := D) (A := A) (σ := σ) (h := h15) (d := 2) (maxL := 3) (rest := []) (av := [.ref x0, .int v11, .int v10]) (fun T hT X => by obtain ⟨cb9, ra9, rb9, rc9⟩ := xb_recv (ci := 8) hR rfl hk1 (by decide); exact xt_invV X hx hown (hts _ m_2d987b1d) (hts _ m_755840be) (hts _ m_341725e0) (xt_sigOf (hts _ m_1141f1ce)) nm_M_isHost (by rw [hT]; exact ra9) rb9 rc9 (g := F0 m 67 ls [.int v10, .int v11, .ref x0]) rfl (argsL := [.int v11, .int v10]) (rest := []) rfl rfl (by rw [hb]; exact (xb_d D_M_found 40 rfl))) (ok_M_isHost l hfl D A σ x0 v11 v10 h15 _ hw) (hml.trans hl.1.symm) (by rw [hb]; exact (xb_d D_M_found 40 rfl)) (Nat.le_of_ble_eq_true rfl) (Nat.le_of_ble_eq_true rfl) (Nat.le_of_ble_eq_true rfl) (show k ≤ MC by omega) (show n ≤ MS by omega) (xt_w1 hB.1 m_1141f1ce) (xt_cdOf hB.1 m_1141f1ce) (hts _ m_d5ed7bed) hB hR hS hA (fun vv h19 H locs hq hEh19 hR hS => ?_)
  obtain ⟨r20, rfl, hw⟩ := hq
  have hw := hw hEh19
  have hE := hE.tr hEh19
  refine W.eq (g2 := F0 m 70 ls [.int r20]) rfl ?_
  refine lv_if_eq (tgt := 86) hx hb (xb_d D_M_found 41 rfl) rfl (fun hc21 => ?_) (fun hc21 => ?_)
  · have hw := hw.1 hc21
    refine lv_aload_n hx hb (xb_d D_M_found 49 rfl) rfl (lv_at hl 7 rfl) ?_
    refine lv_iload hx hb (xb_d D_M_found 50 rfl) (lv_at hl 4 rfl) ?_
    refine lv_iload hx hb (xb_d D_M_found 51 rfl) (lv_at hl 5 rfl) ?_
    have hk1 : xb_k h19 x0 = 9 := hEh19.k hk1
    refine xb_call0 (D := D) (A := A) (σ := σ) (h := h19) (d := 2) (maxL := 6) (rest := []) (av := [.ref x0, .int v11, .int v10]) (fun T hT X => by obtain ⟨cb9, ra9, rb9, rc9⟩ := xb_recv (ci := 8) hR rfl hk1 (by decide); exact xt_invV X hx hown (hts _ m_d2af11df) (hts _ m_3a4ee87f) (hts _ m_b03ece31) (xt_sigOf (hts _ m_38cc0777)) nm_M_instanceNamed (by rw [hT]; exact ra9) rb9 rc9 (g := F0 m 91 ls [.int v10, .int v11, .ref x0]) rfl (argsL := [.int v11, .int v10]) (rest := []) rfl rfl (by rw [hb]; exact (xb_d D_M_found 52 rfl))) (ok_M_instanceNamed l hfl D A σ x0 v11 v10 h19 _ hw) (hml.trans hl.1.symm) (by rw [hb]; exact (xb_d D_M_found 52 rfl)) (Nat.le_of_ble_eq_true rfl) (Nat.le_of_ble_eq_true rfl) (Nat.le_of_ble_eq_true rfl) (show k ≤ MC by omega) (show n ≤ MS by omega) (xt_w1 hB.1 m_38cc0777) (xt_cdOf hB.1 m_38cc0777) (hts _ m_d5ed7bed) hB hR hS hA (fun vv h22 H locs hq hEh22 hR hS => ?_)
    obtain ⟨r23, rfl, hw⟩ := hq
    have hw := hw hEh22
    have hE := hE.tr hEh22
    refine W.eq (g2 := F0 m 94 ls [.int r23]) rfl ?_
    refine lv_istore hx hb (xb_d D_M_found 53 rfl) hl (by decide) rfl (fun ls hl => ?_)
    have hl : lv_has ls 13 [(10, .int r23), (9, .int 0), (8, .int v18), (7, .int v17), (6, .int v12), (5, .int v11), (4, .int v10), (3, .int r3), (0, .ref x0), (1, .int x1), (2, .int x2)] := hl
    refine lv_iload hx hb (xb_d D_M_found 54 rfl) (lv_at hl 0 rfl) ?_
    refine lv_if_ge (tgt := 105) hx hb (xb_d D_M_found 55 rfl) rfl (fun hc24 => ?_) (fun hc24 => ?_)
    · have hw := hw.1 hc24
      refine lv_aload_n hx hb (xb_d D_M_found 58 rfl) rfl (lv_at hl 8 rfl) ?_
      refine lv_iload hx hb (xb_d D_M_found 59 rfl) (lv_at hl 0 rfl) ?_
      refine lv_iload hx hb (xb_d D_M_found 60 rfl) (lv_at hl 2 rfl) ?_
      refine lv_iload hx hb (xb_d D_M_found 61 rfl) (lv_at hl 3 rfl) ?_
      have hk1 : xb_k h22 x0 = 9 := hEh22.k hk1
      refine xb_call0 (D := D) (A := A) (σ := σ) (h := h22) (d := 6) (maxL := 6) (rest := []) (av := [.ref x0, .int r23, .int v18, .int v17]) (fun T hT X => by obtain ⟨cb9, ra9, rb9, rc9⟩ := xb_recv (ci := 8) hR rfl hk1 (by decide); exact xt_invV X hx hown (hts _ m_ae35450b) (hts _ m_d0e07f44) (hts _ m_1f43b3bf) (xt_sigOf (hts _ m_6eaddeb7)) nm_M_exportNamed (by rw [hT]; exact ra9) rb9 rc9 (g := F0 m 112 ls [.int v17, .int v18, .int r23, .ref x0]) rfl (argsL := [.int r23, .int v18, .int v17]) (rest := []) rfl rfl (by rw [hb]; exact (xb_d D_M_found 62 rfl))) (ok_M_exportNamed l hfl D A σ x0 r23 v18 v17 h22 _ hw) (hml.trans hl.1.symm) (by rw [hb]; exact (xb_d D_M_found 62 rfl)) (Nat.le_of_ble_eq_true rfl) (Nat.le_of_ble_eq_true rfl) (Nat.le_of_ble_eq_true rfl) (show k ≤ MC by omega) (show n ≤ MS by omega) (xt_w1 hB.1 m_6eaddeb7) (xt_cdOf hB.1 m_6eaddeb7) (hts _ m_d5ed7bed) hB hR hS hA (fun vv h25 H locs hq hEh25 hR hS => ?_)
      obtain ⟨r26, rfl, hw⟩ := hq
      have hw := hw hEh25
      have hE := hE.tr hEh25
      refine W.eq (g2 := F0 m 115 ls [.int r26]) rfl ?_
      exact am_M_found_L115 l hfl D A σ MC MS h0 Qr x0 x1 x2 r3 r23 r26 h25 hw p e s m args below meth c hC H locs ls k n hE (lv_sub hl [8, 9, 10, 7, 0] rfl) hR hS (by omega) (by omega)
    · have hw := hw.2 hc24
      refine lv_iconst (v := (-1)) hx hb (xb_d D_M_found 56 rfl) (by decide) ?_
      refine lv_goto (tgt := 115) hx hb (xb_d D_M_found 57 rfl) rfl ?_
      exact am_M_found_L115 l hfl D A σ MC MS h0 Qr x0 x1 x2 r3 r23 (-1) h22 hw p e s m args below meth c hC H locs ls k n hE (lv_sub hl [8, 9, 10, 7, 0] rfl) hR hS (by omega) (by omega)
  · have hw := hw.2 hc21
    refine lv_aload_n hx hb (xb_d D_M_found 42 rfl) rfl (lv_at hl 7 rfl) ?_
    refine lv_iload_n hx hb (xb_d D_M_found 43 rfl) rfl (lv_at hl 8 rfl) ?_
    refine lv_iload_n hx hb (xb_d D_M_found 44 rfl) rfl (lv_at hl 6 rfl) ?_
    refine lv_iload hx hb (xb_d D_M_found 45 rfl) (lv_at hl 3 rfl) ?_
    have hk1 : xb_k h19 x0 = 9 := hEh19.k hk1
    refine xb_call0 (D := D) (A := A) (σ := σ) (h := h19) (d := 5) (maxL := 7) (rest := []) (av := [.ref x0, .int x1, .int r3, .int v12]) (fun T hT X => by obtain ⟨cb9, ra9, rb9, rc9⟩ := xb_recv (ci := 8) hR rfl hk1 (by decide); exact xt_invV X hx hown (hts _ m_45a45fd8) (hts _ m_8a37fe91) (hts _ m_7ed22e70) (xt_sigOf (hts _ m_51ba99a3)) nm_M_ofHost (by rw [hT]; exact ra9) rb9 rc9 (g := F0 m 78 ls [.int v12, .int r3, .int x1, .ref x0]) rfl (argsL := [.int x1, .int r3, .int v12]) (rest := []) rfl rfl (by rw [hb]; exact (xb_d D_M_found 46 rfl))) (ok_M_ofHost l hfl D A σ x0 x1 r3 v12 h19 _ hw) (hml.trans hl.1.symm) (by rw [hb]; exact (xb_d D_M_found 46 rfl)) (Nat.le_of_ble_eq_true rfl) (Nat.le_of_ble_eq_true rfl) (Nat.le_of_ble_eq_true rfl) (show k ≤ MC by omega) (show n ≤ MS by omega) (xt_w1 hB.1 m_51ba99a3) (xt_cdOf hB.1 m_51ba99a3) (hts _ m_d5ed7bed) hB hR hS hA (fun vv h27 H locs hq hEh27 hR hS => ?_)
    obtain ⟨r28, rfl, hw⟩ := hq
    have hw := hw hEh27
    have hE := hE.tr hEh27
    refine W.eq (g2 := F0 m 81 ls [.int r28]) rfl ?_
    refine lv_istore hx hb (xb_d D_M_found 47 rfl) hl (by decide) rfl (fun ls hl => ?_)
    have hl : lv_has ls 13 [(9, .int r28), (8, .int v18), (7, .int v17), (6, .int v12), (5, .int v11), (4, .int v10), (3, .int r3), (0, .ref x0), (1, .int x1), (2, .int x2)] := hl
    refine lv_goto (tgt := 183) hx hb (xb_d D_M_found 48 rfl) rfl ?_
    exact am_M_found_L183 l hfl D A σ MC MS h0 Qr x0 x1 x2 r3 r28 h27 hw p e s m args below meth c hC H locs ls k n hE (lv_sub hl [7, 8, 9, 6, 0] rfl) hR hS (by omega) (by omega)

theorem m_d5066722 : (.methodLink "StackHostModel" 703 y_M_isByte : Cond) ∈ xt_tbl := xt_in (xt_t13 (List.mem_of_getElem? (i := 190) (by decide +kernel))) (by decide +kernel)
theorem m_568c0520 : (.instanceMethod y_M_isByte : Cond) ∈ xt_tbl := xt_in (xt_t13 (List.mem_of_getElem? (i := 192) (by decide +kernel))) (by decide +kernel)
theorem m_3380c848 : (.selects "StackHostModel" y_M_isByte y_M_isByte : Cond) ∈ xt_tbl := xt_in (xt_v17 (q := (⟨"StackHostModel", "isByte", "(II)Z"⟩, 97)) (List.mem_of_getElem? (i := 13) (by decide +kernel))) (by decide +kernel)
theorem m_04243485 : (.code y_M_isByte b_M_isByte 4 (some .boolean) : Cond) ∈ xt_tbl := xt_in (xt_t13 (List.mem_of_getElem? (i := 193) (by decide +kernel))) (by decide +kernel)
theorem nm_M_isByte : xt_nm y_M_isByte 2 := ⟨by decide +kernel, by decide +kernel⟩
set_option maxRecDepth 100000 in
def T_M_peek : List (Nat × Instr × Nat) := [(0, .aload_n 0, 1), (1, .aload_n 0, 1), (2, .iload_n 1, 1), (3, .iload_n 2, 1), (4, .invokevirtual 703, 3), (7, .ifCond .eq 7, 3), (10, .iconst 0, 1), (11, .goto 4, 3), (14, .iconst 1, 1), (15, .putfield 189, 3), (18, .aload_n 0, 1), (19, .getfield 189, 3), (22, .ifCond .le 7, 3), (25, .iconst 0, 1), (26, .goto 15, 3), (29, .aload_n 0, 1), (30, .aload_n 0, 1), (31, .iload_n 1, 1), (32, .iconst 2, 1), (33, .invokevirtual 522, 3), (36, .iload_n 2, 1), (37, .i2l, 1), (38, .invokevirtual 694, 3), (41, .ireturn, 1)]
theorem D_M_peek : ∀ q ∈ T_M_peek, decode b_M_peek q.1 = .ok (q.2.1, q.2.2) := by decide +kernel

set_option maxHeartbeats 4000000 in
set_option maxRecDepth 100000 in
theorem am_M_peek_L41 (l : Launch) (hfl : l.flags = pinnedFlags ++ [noTraceFlag]) (D : va_G) (A : Nat → Prop) (σ MC MS : Nat) (h0 : xb_H) (Qr : Int32 → xb_H → Prop) (y0 : Int32) (h : xb_H) (hw : w_M_peek_L41 Qr y0 h) : xb_am l D A σ 11 MC MS h0 (fun v h _ _ => ∃ r, v = some (.int r) ∧ Qr r h) (fun _ _ _ _ => False) y_M_peek.cls y_M_peek.name b_M_peek 3 ([] : List ExceptionTableEntry) (some .int) 41 [] [.int y0] h 0 0 := by
  unfold w_M_peek_L41 at hw
  intro p e s m args below meth c hC H locs ls k n hE hl hR hS hk hn
  obtain ⟨hx, hb, hown, hlocks, htab, hml, hr, hB, hA, hnm⟩ := id hC
  have hts := hB.1.1.at args
  exact xb_iret 0 0 hx hb hr hlocks (show k + 0 ≤ MC by omega) (show n + 0 ≤ MS by omega) hE hR hS (xb_d D_M_peek 23 rfl) hw

set_option maxHeartbeats 4000000 in
set_option maxRecDepth 100000 in
theorem am_M_peek_L15 (l : Launch) (hfl : l.flags = pinnedFlags ++ [noTraceFlag]) (D : va_G) (A : Nat → Prop) (σ MC MS : Nat) (h0 : xb_H) (Qr : Int32 → xb_H → Prop) (x0 : Nat) (x1 : Int32) (x2 : Int32) (y0 : Int32) (y1 : Nat) (h : xb_H) (hw : w_M_peek_L15 Qr x0 x1 x2 y0 y1 h) : xb_am l D A σ 11 MC MS h0 (fun v h _ _ => ∃ r, v = some (.int r) ∧ Qr r h) (fun _ _ _ _ => False) y_M_peek.cls y_M_peek.name b_M_peek 3 ([] : List ExceptionTableEntry) (some .int) 15 [(0, .ref x0), (1, .int x1), (2, .int x2)] [.int y0, .ref y1] h 0 0 := by
  unfold w_M_peek_L15 at hw
  intro p e s m args below meth c hC H locs ls k n hE hl hR hS hk hn
  obtain ⟨hx, hb, hown, hlocks, htab, hml, hr, hB, hA, hnm⟩ := id hC
  have hts := hB.1.1.at args
  obtain ⟨hk1, hw⟩ := hw
  refine xb_putI (C := R_M) (T := F_M) (N := 97) (ty := .int) (x := y0) hx hb 8 0 hts fin_M t_M t_M_ok n_M hown hR hS hk1 (by decide) rfl (by decide) rfl (hts _ m_afabd6a0) (fun _ h9 => h9) rfl (by decide +kernel) rfl rfl (xb_d D_M_peek 9 rfl) (fun H locs hR hS => ?_)
  obtain ⟨h2, eh2⟩ : ∃ x : xb_H, x = xb_I h y1 0 y0 := ⟨_, rfl⟩
  rw [← eh2] at hR
  have hw := hw h2 eh2
  have hE : xb_ext h0 h2 := by rw [eh2]; exact hE
  refine lv_aload_n hx hb (xb_d D_M_peek 10 rfl) rfl (lv_at hl 0 rfl) ?_
  obtain ⟨hk3, hw⟩ := hw
  refine xb_getI (C := R_M) (T := F_M) (N := 97) hx hb 8 0 hts fin_M hown hR hk3 (by decide) rfl (by decide) rfl (hts _ m_afabd6a0) (fun _ h9 => h9) (xb_d D_M_peek 11 rfl) ?_
  refine lv_if_le (tgt := 29) hx hb (xb_d D_M_peek 12 rfl) rfl (fun hc4 => ?_) (fun hc4 => ?_)
  · have hw := hw.1 hc4
    refine lv_aload_n hx hb (xb_d D_M_peek 15 rfl) rfl (lv_at hl 0 rfl) ?_
    refine lv_aload_n hx hb (xb_d D_M_peek 16 rfl) rfl (lv_at hl 0 rfl) ?_
    refine lv_iload_n hx hb (xb_d D_M_peek 17 rfl) rfl (lv_at hl 1 rfl) ?_
    refine lv_iconst (v := 2) hx hb (xb_d D_M_peek 18 rfl) (by decide) ?_
    refine xb_call0 (D := D) (A := A) (σ := σ) (h := h2) (d := 9) (maxL := 3) (rest := [.ref x0]) (av := [.ref x0, .int x1, .int 2]) (fun T hT X => by obtain ⟨cb9, ra9, rb9, rc9⟩ := xb_recv (ci := 8) hR rfl hk3 (by decide); exact xt_invV X hx hown (hts _ m_392cec72) (hts _ m_982c4770) (hts _ m_e18e99cc) (xt_sigOf (hts _ m_3f9e55aa)) nm_M_only (by rw [hT]; exact ra9) rb9 rc9 (g := F0 m 33 ls [.int 2, .int x1, .ref x0, .ref x0]) rfl (argsL := [.int x1, .int 2]) (rest := [.ref x0]) rfl rfl (by rw [hb]; exact (xb_d D_M_peek 19 rfl))) (ok_M_only l hfl D A σ x0 x1 2 h2 _ hw) (hml.trans hl.1.symm) (by rw [hb]; exact (xb_d D_M_peek 19 rfl)) (Nat.le_of_ble_eq_true rfl) (Nat.le_of_ble_eq_true rfl) (Nat.le_of_ble_eq_true rfl) (show k ≤ MC by omega) (show n ≤ MS by omega) (xt_w1 hB.1 m_3f9e55aa) (xt_cdOf hB.1 m_3f9e55aa) (hts _ m_d5ed7bed) hB hR hS hA (fun vv h5 H locs hq hEh5 hR hS => ?_)
    obtain ⟨r6, rfl, hw⟩ := hq
    have hw := hw hEh5
    have hE := hE.tr hEh5
    refine W.eq (g2 := F0 m 36 ls [.int r6, .ref x0]) rfl ?_
    refine lv_iload_n hx hb (xb_d D_M_peek 20 rfl) rfl (lv_at hl 2 rfl) ?_
    refine lv_i2l hx hb (xb_d D_M_peek 21 rfl) rfl ?_
    have hk3 : xb_k h5 x0 = 9 := hEh5.k hk3
    refine xb_call0 (D := D) (A := A) (σ := σ) (h := h5) (d := 3) (maxL := 4) (rest := []) (av := [.ref x0, .int r6, .long (Int32.toInt64 x2)]) (fun T hT X => by obtain ⟨cb9, ra9, rb9, rc9⟩ := xb_recv (ci := 8) hR rfl hk3 (by decide); exact xt_invV X hx hown (hts _ m_7601d8c0) (hts _ m_db427bb0) (hts _ m_43ee10e5) (xt_sigOf (hts _ m_51efdffd)) nm_M_byteAt (by rw [hT]; exact ra9) rb9 rc9 (g := F0 m 38 ls [.long (Int32.toInt64 x2), .int r6, .ref x0]) rfl (argsL := [.int r6, .long (Int32.toInt64 x2)]) (rest := []) rfl rfl (by rw [hb]; exact (xb_d D_M_peek 22 rfl))) (ok_M_byteAt l hfl D A σ x0 r6 (Int32.toInt64 x2) h5 _ hw) (hml.trans hl.1.symm) (by rw [hb]; exact (xb_d D_M_peek 22 rfl)) (Nat.le_of_ble_eq_true rfl) (Nat.le_of_ble_eq_true rfl) (Nat.le_of_ble_eq_true rfl) (show k ≤ MC by omega) (show n ≤ MS by omega) (xt_w1 hB.1 m_51efdffd) (xt_cdOf hB.1 m_51efdffd) (hts _ m_d5ed7bed) hB hR hS hA (fun vv h7 H locs hq hEh7 hR hS => ?_)
    obtain ⟨r8, rfl, hw⟩ := hq
    have hw := hw hEh7
    have hE := hE.tr hEh7
    refine W.eq (g2 := F0 m 41 ls [.int r8]) rfl ?_
    exact am_M_peek_L41 l hfl D A σ MC MS h0 Qr r8 h7 hw p e s m args below meth c hC H locs ls k n hE (lv_sub hl [] rfl) hR hS (by omega) (by omega)
  · have hw := hw.2 hc4
    refine lv_iconst (v := 0) hx hb (xb_d D_M_peek 13 rfl) (by decide) ?_
    refine lv_goto (tgt := 41) hx hb (xb_d D_M_peek 14 rfl) rfl ?_
    exact am_M_peek_L41 l hfl D A σ MC MS h0 Qr 0 h2 hw p e s m args below meth c hC H locs ls k n hE (lv_sub hl [] rfl) hR hS (by omega) (by omega)

set_option maxHeartbeats 4000000 in
set_option maxRecDepth 100000 in
theorem ok_M_peek (l : Launch) (hfl : l.flags = pinnedFlags ++ [noTraceFlag]) (D : va_G) (A : Nat → Prop) (σ : Nat) (x0 : Nat) (x1 : Int32) (x2 : Int32) (h : xb_H) (Qr : Int32 → xb_H → Prop) (hw : w_M_peek x0 x1 x2 h Qr) : xb_Met l y_M_peek [.code y_M_peek b_M_peek 3 (some .int)] (xb_rm 11 0 0) (xb_Pc D A σ h [.ref x0, .int x1, .int x2]) (xb_Qc D A h 0 0 (fun v h _ _ => ∃ r, v = some (.int r) ∧ Qr r h) (fun _ _ _ _ => False)) A := by
  refine xb_ofAm (cc := b_M_peek) (by decide) (Nat.le_of_ble_eq_true rfl) ?_
  unfold w_M_peek at hw
  show xb_am l D A σ 11 0 0 h (fun v h _ _ => ∃ r, v = some (.int r) ∧ Qr r h) (fun _ _ _ _ => False) y_M_peek.cls y_M_peek.name b_M_peek 3 ([] : List ExceptionTableEntry) (some .int) 0 [(0, .ref x0), (1, .int x1), (2, .int x2)] [] h 0 0
  obtain ⟨MC, hMC⟩ : ∃ x, x = 0 := ⟨_, rfl⟩
  obtain ⟨MS, hMS⟩ : ∃ x, x = 0 := ⟨_, rfl⟩
  rw [show xb_am l D A σ 11 0 0 = xb_am l D A σ 11 MC MS by rw [hMC, hMS]]
  obtain ⟨h0, hh0⟩ : ∃ x, x = h := ⟨_, rfl⟩
  rw [show xb_am l D A σ 11 MC MS h = xb_am l D A σ 11 MC MS h0 by rw [hh0]]
  intro p e s m args below meth c hC H locs ls k n hE hl hR hS hk hn
  obtain ⟨hx, hb, hown, hlocks, htab, hml, hr, hB, hA, hnm⟩ := id hC
  have hts := hB.1.1.at args
  refine lv_aload_n hx hb (xb_d D_M_peek 0 rfl) rfl (lv_at hl 0 rfl) ?_
  refine lv_aload_n hx hb (xb_d D_M_peek 1 rfl) rfl (lv_at hl 0 rfl) ?_
  refine lv_iload_n hx hb (xb_d D_M_peek 2 rfl) rfl (lv_at hl 1 rfl) ?_
  refine lv_iload_n hx hb (xb_d D_M_peek 3 rfl) rfl (lv_at hl 2 rfl) ?_
  obtain ⟨hk1, hw⟩ := hw
  refine xb_call0 (D := D) (A := A) (σ := σ) (h := h) (d := 10) (maxL := 4) (rest := [.ref x0]) (av := [.ref x0, .int x1, .int x2]) (fun T hT X => by obtain ⟨cb9, ra9, rb9, rc9⟩ := xb_recv (ci := 8) hR rfl hk1 (by decide); exact xt_invV X hx hown (hts _ m_d5066722) (hts _ m_568c0520) (hts _ m_3380c848) (xt_sigOf (hts _ m_04243485)) nm_M_isByte (by rw [hT]; exact ra9) rb9 rc9 (g := F0 m 4 ls [.int x2, .int x1, .ref x0, .ref x0]) rfl (argsL := [.int x1, .int x2]) (rest := [.ref x0]) rfl rfl (by rw [hb]; exact (xb_d D_M_peek 4 rfl))) (ok_M_isByte l hfl D A σ x0 x1 x2 h _ hw) (hml.trans hl.1.symm) (by rw [hb]; exact (xb_d D_M_peek 4 rfl)) (Nat.le_of_ble_eq_true rfl) (Nat.le_of_ble_eq_true rfl) (Nat.le_of_ble_eq_true rfl) (show k ≤ MC by omega) (show n ≤ MS by omega) (xt_w1 hB.1 m_04243485) (xt_cdOf hB.1 m_04243485) (hts _ m_d5ed7bed) hB hR hS hA (fun vv h2 H locs hq hEh2 hR hS => ?_)
  obtain ⟨r3, rfl, hw⟩ := hq
  have hw := hw hEh2
  have hE := hE.tr hEh2
  refine W.eq (g2 := F0 m 7 ls [.int r3, .ref x0]) rfl ?_
  refine lv_if_eq (tgt := 14) hx hb (xb_d D_M_peek 5 rfl) rfl (fun hc4 => ?_) (fun hc4 => ?_)
  · have hw := hw.1 hc4
    refine lv_iconst (v := 1) hx hb (xb_d D_M_peek 8 rfl) (by decide) ?_
    exact am_M_peek_L15 l hfl D A σ MC MS h0 Qr x0 x1 x2 1 x0 h2 hw p e s m args below meth c hC H locs ls k n hE (lv_sub hl [0, 1, 2] rfl) hR hS (by omega) (by omega)
  · have hw := hw.2 hc4
    refine lv_iconst (v := 0) hx hb (xb_d D_M_peek 6 rfl) (by decide) ?_
    refine lv_goto (tgt := 15) hx hb (xb_d D_M_peek 7 rfl) rfl ?_
    exact am_M_peek_L15 l hfl D A σ MC MS h0 Qr x0 x1 x2 0 x0 h2 hw p e s m args below meth c hC H locs ls k n hE (lv_sub hl [0, 1, 2] rfl) hR hS (by omega) (by omega)

set_option maxRecDepth 100000 in
def T_M_poke : List (Nat × Instr × Nat) := [(0, .aload_n 0, 1), (1, .aload_n 0, 1), (2, .iload_n 1, 1), (3, .iload_n 2, 1), (4, .invokevirtual 703, 3), (7, .ifCond .eq 7, 3), (10, .iconst 0, 1), (11, .goto 4, 3), (14, .iconst 1, 1), (15, .putfield 189, 3), (18, .aload_n 0, 1), (19, .getfield 189, 3), (22, .ifCond .ne 16, 3), (25, .aload_n 0, 1), (26, .aload_n 0, 1), (27, .iload_n 1, 1), (28, .iconst 2, 1), (29, .invokevirtual 522, 3), (32, .iload_n 2, 1), (33, .i2l, 1), (34, .iload_n 3, 1), (35, .invokevirtual 531, 3), (38, .return_, 1)]
theorem D_M_poke : ∀ q ∈ T_M_poke, decode b_M_poke q.1 = .ok (q.2.1, q.2.2) := by decide +kernel

set_option maxHeartbeats 4000000 in
set_option maxRecDepth 100000 in
theorem am_M_poke_L38 (l : Launch) (hfl : l.flags = pinnedFlags ++ [noTraceFlag]) (D : va_G) (A : Nat → Prop) (σ MC MS : Nat) (h0 : xb_H) (Qr : xb_H → Prop) (h : xb_H) (hw : w_M_poke_L38 Qr h) : xb_am l D A σ 11 MC MS h0 (fun v h _ _ => v = none ∧ Qr h) (fun _ _ _ _ => False) y_M_poke.cls y_M_poke.name b_M_poke 4 ([] : List ExceptionTableEntry) none 38 [] [] h 0 0 := by
  unfold w_M_poke_L38 at hw
  intro p e s m args below meth c hC H locs ls k n hE hl hR hS hk hn
  obtain ⟨hx, hb, hown, hlocks, htab, hml, hr, hB, hA, hnm⟩ := id hC
  have hts := hB.1.1.at args
  exact xb_vret 0 0 hx hb hr hlocks (show k + 0 ≤ MC by omega) (show n + 0 ≤ MS by omega) hE hR hS (xb_d D_M_poke 22 rfl) hw

set_option maxHeartbeats 4000000 in
set_option maxRecDepth 100000 in
theorem am_M_poke_L15 (l : Launch) (hfl : l.flags = pinnedFlags ++ [noTraceFlag]) (D : va_G) (A : Nat → Prop) (σ MC MS : Nat) (h0 : xb_H) (Qr : xb_H → Prop) (x0 : Nat) (x1 : Int32) (x2 : Int32) (x3 : Int32) (y0 : Int32) (y1 : Nat) (h : xb_H) (hw : w_M_poke_L15 Qr x0 x1 x2 x3 y0 y1 h) : xb_am l D A σ 11 MC MS h0 (fun v h _ _ => v = none ∧ Qr h) (fun _ _ _ _ => False) y_M_poke.cls y_M_poke.name b_M_poke 4 ([] : List ExceptionTableEntry) none 15 [(0, .ref x0), (1, .int x1), (2, .int x2), (3, .int x3)] [.int y0, .ref y1] h 0 0 := by
  unfold w_M_poke_L15 at hw
  intro p e s m args below meth c hC H locs ls k n hE hl hR hS hk hn
  obtain ⟨hx, hb, hown, hlocks, htab, hml, hr, hB, hA, hnm⟩ := id hC
  have hts := hB.1.1.at args
  obtain ⟨hk1, hw⟩ := hw
  refine xb_putI (C := R_M) (T := F_M) (N := 97) (ty := .int) (x := y0) hx hb 8 0 hts fin_M t_M t_M_ok n_M hown hR hS hk1 (by decide) rfl (by decide) rfl (hts _ m_afabd6a0) (fun _ h9 => h9) rfl (by decide +kernel) rfl rfl (xb_d D_M_poke 9 rfl) (fun H locs hR hS => ?_)
  obtain ⟨h2, eh2⟩ : ∃ x : xb_H, x = xb_I h y1 0 y0 := ⟨_, rfl⟩
  rw [← eh2] at hR
  have hw := hw h2 eh2
  have hE : xb_ext h0 h2 := by rw [eh2]; exact hE
  refine lv_aload_n hx hb (xb_d D_M_poke 10 rfl) rfl (lv_at hl 0 rfl) ?_
  obtain ⟨hk3, hw⟩ := hw
  refine xb_getI (C := R_M) (T := F_M) (N := 97) hx hb 8 0 hts fin_M hown hR hk3 (by decide) rfl (by decide) rfl (hts _ m_afabd6a0) (fun _ h9 => h9) (xb_d D_M_poke 11 rfl) ?_
  refine lv_if_ne (tgt := 38) hx hb (xb_d D_M_poke 12 rfl) rfl (fun hc4 => ?_) (fun hc4 => ?_)
  · have hw := hw.1 hc4
    exact am_M_poke_L38 l hfl D A σ MC MS h0 Qr h2 hw p e s m args below meth c hC H locs ls k n hE (lv_sub hl [] rfl) hR hS (by omega) (by omega)
  · have hw := hw.2 hc4
    refine lv_aload_n hx hb (xb_d D_M_poke 13 rfl) rfl (lv_at hl 0 rfl) ?_
    refine lv_aload_n hx hb (xb_d D_M_poke 14 rfl) rfl (lv_at hl 0 rfl) ?_
    refine lv_iload_n hx hb (xb_d D_M_poke 15 rfl) rfl (lv_at hl 1 rfl) ?_
    refine lv_iconst (v := 2) hx hb (xb_d D_M_poke 16 rfl) (by decide) ?_
    refine xb_call0 (D := D) (A := A) (σ := σ) (h := h2) (d := 9) (maxL := 3) (rest := [.ref x0]) (av := [.ref x0, .int x1, .int 2]) (fun T hT X => by obtain ⟨cb9, ra9, rb9, rc9⟩ := xb_recv (ci := 8) hR rfl hk3 (by decide); exact xt_invV X hx hown (hts _ m_392cec72) (hts _ m_982c4770) (hts _ m_e18e99cc) (xt_sigOf (hts _ m_3f9e55aa)) nm_M_only (by rw [hT]; exact ra9) rb9 rc9 (g := F0 m 29 ls [.int 2, .int x1, .ref x0, .ref x0]) rfl (argsL := [.int x1, .int 2]) (rest := [.ref x0]) rfl rfl (by rw [hb]; exact (xb_d D_M_poke 17 rfl))) (ok_M_only l hfl D A σ x0 x1 2 h2 _ hw) (hml.trans hl.1.symm) (by rw [hb]; exact (xb_d D_M_poke 17 rfl)) (Nat.le_of_ble_eq_true rfl) (Nat.le_of_ble_eq_true rfl) (Nat.le_of_ble_eq_true rfl) (show k ≤ MC by omega) (show n ≤ MS by omega) (xt_w1 hB.1 m_3f9e55aa) (xt_cdOf hB.1 m_3f9e55aa) (hts _ m_d5ed7bed) hB hR hS hA (fun vv h5 H locs hq hEh5 hR hS => ?_)
    obtain ⟨r6, rfl, hw⟩ := hq
    have hw := hw hEh5
    have hE := hE.tr hEh5
    refine W.eq (g2 := F0 m 32 ls [.int r6, .ref x0]) rfl ?_
    refine lv_iload_n hx hb (xb_d D_M_poke 18 rfl) rfl (lv_at hl 2 rfl) ?_
    refine lv_i2l hx hb (xb_d D_M_poke 19 rfl) rfl ?_
    refine lv_iload_n hx hb (xb_d D_M_poke 20 rfl) rfl (lv_at hl 3 rfl) ?_
    have hk3 : xb_k h5 x0 = 9 := hEh5.k hk3
    refine xb_call0 (D := D) (A := A) (σ := σ) (h := h5) (d := 3) (maxL := 5) (rest := []) (av := [.ref x0, .int r6, .long (Int32.toInt64 x2), .int x3]) (fun T hT X => by obtain ⟨cb9, ra9, rb9, rc9⟩ := xb_recv (ci := 8) hR rfl hk3 (by decide); exact xt_invV X hx hown (hts _ m_272de6ed) (hts _ m_ac860a0e) (hts _ m_c2d1fdae) (xt_sigOf (hts _ m_cf5c56c3)) nm_M_storeByte (by rw [hT]; exact ra9) rb9 rc9 (g := F0 m 35 ls [.int x3, .long (Int32.toInt64 x2), .int r6, .ref x0]) rfl (argsL := [.int r6, .long (Int32.toInt64 x2), .int x3]) (rest := []) rfl rfl (by rw [hb]; exact (xb_d D_M_poke 21 rfl))) (ok_M_storeByte l hfl D A σ x0 r6 (Int32.toInt64 x2) x3 h5 _ hw) (hml.trans hl.1.symm) (by rw [hb]; exact (xb_d D_M_poke 21 rfl)) (Nat.le_of_ble_eq_true rfl) (Nat.le_of_ble_eq_true rfl) (Nat.le_of_ble_eq_true rfl) (show k ≤ MC by omega) (show n ≤ MS by omega) (xt_w1 hB.1 m_cf5c56c3) (xt_cdOf hB.1 m_cf5c56c3) (hts _ m_d5ed7bed) hB hR hS hA (fun vv h7 H locs hq hEh7 hR hS => ?_)
    obtain ⟨rfl, hw⟩ := hq
    have hw := hw hEh7
    have hE := hE.tr hEh7
    refine W.eq (g2 := F0 m 38 ls []) rfl ?_
    exact am_M_poke_L38 l hfl D A σ MC MS h0 Qr h7 hw p e s m args below meth c hC H locs ls k n hE (lv_sub hl [] rfl) hR hS (by omega) (by omega)

set_option maxHeartbeats 4000000 in
set_option maxRecDepth 100000 in
theorem ok_M_poke (l : Launch) (hfl : l.flags = pinnedFlags ++ [noTraceFlag]) (D : va_G) (A : Nat → Prop) (σ : Nat) (x0 : Nat) (x1 : Int32) (x2 : Int32) (x3 : Int32) (h : xb_H) (Qr : xb_H → Prop) (hw : w_M_poke x0 x1 x2 x3 h Qr) : xb_Met l y_M_poke [.code y_M_poke b_M_poke 4 none] (xb_rm 11 0 0) (xb_Pc D A σ h [.ref x0, .int x1, .int x2, .int x3]) (xb_Qc D A h 0 0 (fun v h _ _ => v = none ∧ Qr h) (fun _ _ _ _ => False)) A := by
  refine xb_ofAm (cc := b_M_poke) (by decide) (Nat.le_of_ble_eq_true rfl) ?_
  unfold w_M_poke at hw
  show xb_am l D A σ 11 0 0 h (fun v h _ _ => v = none ∧ Qr h) (fun _ _ _ _ => False) y_M_poke.cls y_M_poke.name b_M_poke 4 ([] : List ExceptionTableEntry) none 0 [(0, .ref x0), (1, .int x1), (2, .int x2), (3, .int x3)] [] h 0 0
  obtain ⟨MC, hMC⟩ : ∃ x, x = 0 := ⟨_, rfl⟩
  obtain ⟨MS, hMS⟩ : ∃ x, x = 0 := ⟨_, rfl⟩
  rw [show xb_am l D A σ 11 0 0 = xb_am l D A σ 11 MC MS by rw [hMC, hMS]]
  obtain ⟨h0, hh0⟩ : ∃ x, x = h := ⟨_, rfl⟩
  rw [show xb_am l D A σ 11 MC MS h = xb_am l D A σ 11 MC MS h0 by rw [hh0]]
  intro p e s m args below meth c hC H locs ls k n hE hl hR hS hk hn
  obtain ⟨hx, hb, hown, hlocks, htab, hml, hr, hB, hA, hnm⟩ := id hC
  have hts := hB.1.1.at args
  refine lv_aload_n hx hb (xb_d D_M_poke 0 rfl) rfl (lv_at hl 0 rfl) ?_
  refine lv_aload_n hx hb (xb_d D_M_poke 1 rfl) rfl (lv_at hl 0 rfl) ?_
  refine lv_iload_n hx hb (xb_d D_M_poke 2 rfl) rfl (lv_at hl 1 rfl) ?_
  refine lv_iload_n hx hb (xb_d D_M_poke 3 rfl) rfl (lv_at hl 2 rfl) ?_
  obtain ⟨hk1, hw⟩ := hw
  refine xb_call0 (D := D) (A := A) (σ := σ) (h := h) (d := 10) (maxL := 4) (rest := [.ref x0]) (av := [.ref x0, .int x1, .int x2]) (fun T hT X => by obtain ⟨cb9, ra9, rb9, rc9⟩ := xb_recv (ci := 8) hR rfl hk1 (by decide); exact xt_invV X hx hown (hts _ m_d5066722) (hts _ m_568c0520) (hts _ m_3380c848) (xt_sigOf (hts _ m_04243485)) nm_M_isByte (by rw [hT]; exact ra9) rb9 rc9 (g := F0 m 4 ls [.int x2, .int x1, .ref x0, .ref x0]) rfl (argsL := [.int x1, .int x2]) (rest := [.ref x0]) rfl rfl (by rw [hb]; exact (xb_d D_M_poke 4 rfl))) (ok_M_isByte l hfl D A σ x0 x1 x2 h _ hw) (hml.trans hl.1.symm) (by rw [hb]; exact (xb_d D_M_poke 4 rfl)) (Nat.le_of_ble_eq_true rfl) (Nat.le_of_ble_eq_true rfl) (Nat.le_of_ble_eq_true rfl) (show k ≤ MC by omega) (show n ≤ MS by omega) (xt_w1 hB.1 m_04243485) (xt_cdOf hB.1 m_04243485) (hts _ m_d5ed7bed) hB hR hS hA (fun vv h2 H locs hq hEh2 hR hS => ?_)
  obtain ⟨r3, rfl, hw⟩ := hq
  have hw := hw hEh2
  have hE := hE.tr hEh2
  refine W.eq (g2 := F0 m 7 ls [.int r3, .ref x0]) rfl ?_
  refine lv_if_eq (tgt := 14) hx hb (xb_d D_M_poke 5 rfl) rfl (fun hc4 => ?_) (fun hc4 => ?_)
  · have hw := hw.1 hc4
    refine lv_iconst (v := 1) hx hb (xb_d D_M_poke 8 rfl) (by decide) ?_
    exact am_M_poke_L15 l hfl D A σ MC MS h0 Qr x0 x1 x2 x3 1 x0 h2 hw p e s m args below meth c hC H locs ls k n hE (lv_sub hl [0, 1, 2, 3] rfl) hR hS (by omega) (by omega)
  · have hw := hw.2 hc4
    refine lv_iconst (v := 0) hx hb (xb_d D_M_poke 6 rfl) (by decide) ?_
    refine lv_goto (tgt := 15) hx hb (xb_d D_M_poke 7 rfl) rfl ?_
    exact am_M_poke_L15 l hfl D A σ MC MS h0 Qr x0 x1 x2 x3 0 x0 h2 hw p e s m args below meth c hC H locs ls k n hE (lv_sub hl [0, 1, 2, 3] rfl) hR hS (by omega) (by omega)

theorem m_e37969c9 : (.methodLink "StackHostModel" 304 y_M_section : Cond) ∈ xt_tbl := xt_in (xt_t10 (List.mem_of_getElem? (i := 222) (by decide +kernel))) (by decide +kernel)
theorem m_4c0d48c0 : (.instanceMethod y_M_section : Cond) ∈ xt_tbl := xt_in (xt_t10 (List.mem_of_getElem? (i := 224) (by decide +kernel))) (by decide +kernel)
theorem m_f37779d0 : (.selects "StackHostModel" y_M_section y_M_section : Cond) ∈ xt_tbl := xt_in (xt_v9 (q := (⟨"StackHostModel", "section", "(I)V"⟩, 97)) (List.mem_of_getElem? (i := 6) (by decide +kernel))) (by decide +kernel)
theorem m_1e65be52 : (.code y_M_section b_M_section 7 none : Cond) ∈ xt_tbl := xt_in (xt_t10 (List.mem_of_getElem? (i := 225) (by decide +kernel))) (by decide +kernel)
theorem nm_M_section : xt_nm y_M_section 1 := ⟨by decide +kernel, by decide +kernel⟩
set_option maxRecDepth 100000 in
def T_M_readModule : List (Nat × Instr × Nat) := [(0, .bipush 8, 2), (2, .newarray .int, 2), (4, .dup, 1), (5, .iconst 0, 1), (6, .iconst 0, 1), (7, .iastore, 1), (8, .dup, 1), (9, .iconst 1, 1), (10, .bipush 97, 2), (12, .iastore, 1), (13, .dup, 1), (14, .iconst 2, 1), (15, .bipush 115, 2), (17, .iastore, 1), (18, .dup, 1), (19, .iconst 3, 1), (20, .bipush 109, 2), (22, .iastore, 1), (23, .dup, 1), (24, .iconst 4, 1), (25, .iconst 1, 1), (26, .iastore, 1), (27, .dup, 1), (28, .iconst 5, 1), (29, .iconst 0, 1), (30, .iastore, 1), (31, .dup, 1), (32, .bipush 6, 2), (34, .iconst 0, 1), (35, .iastore, 1), (36, .dup, 1), (37, .bipush 7, 2), (39, .iconst 0, 1), (40, .iastore, 1), (41, .astore_n 2, 1), (42, .iconst 0, 1), (43, .istore_n 3, 1), (44, .iload_n 3, 1), (45, .bipush 8, 2), (47, .if_icmp .ge 51, 3), (50, .aload_n 0, 1), (51, .getfield 196, 3), (54, .iload_n 3, 1), (55, .iadd, 1), (56, .iload_n 1, 1), (57, .if_icmp .ge 24, 3), (60, .aload_n 0, 1), (61, .getfield 14, 3), (64, .aload_n 0, 1), (65, .getfield 196, 3), (68, .iload_n 3, 1), (69, .iadd, 1), (70, .baload, 1), (71, .sipush 255, 3), (74, .iand, 1), (75, .aload_n 2, 1), (76, .iload_n 3, 1), (77, .iaload, 1), (78, .if_icmp .eq 14, 3), (81, .aload_n 0, 1), (82, .iconst 1, 1), (83, .aload_n 0, 1), (84, .getfield 196, 3), (87, .iload_n 3, 1), (88, .iadd, 1), (89, .invokevirtual 208, 3), (92, .iinc 3 1, 3), (95, .goto (-51), 3), (98, .aload_n 0, 1), (99, .aload_n 0, 1), (100, .getfield 196, 3), (103, .bipush 8, 2), (105, .iadd, 1), (106, .putfield 202, 3), (109, .iconst 0, 1), (110, .istore_n 3, 1), (111, .aload_n 0, 1), (112, .getfield 193, 3), (115, .ifCond .ne 166, 3), (118, .aload_n 0, 1), (119, .getfield 202, 3), (122, .iload_n 1, 1), (123, .if_icmp .ge 158, 3), (126, .aload_n 0, 1), (127, .getfield 202, 3), (130, .istore 4, 2), (132, .aload_n 0, 1), (133, .iload_n 1, 1), (134, .putfield 205, 3), (137, .aload_n 0, 1), (138, .invokevirtual 212, 3), (141, .istore 5, 2), (143, .iload 5, 2), (145, .bipush 11, 2), (147, .if_icmp .le 13, 3), (150, .aload_n 0, 1), (151, .iconst 5, 1), (152, .iload 4, 2), (154, .invokevirtual 208, 3), (157, .goto 22, 3), (160, .iload 5, 2), (162, .ifCond .le 17, 3), (165, .iload 5, 2), (167, .iload_n 3, 1), (168, .if_icmp .gt 11, 3), (171, .aload_n 0, 1), (172, .bipush 6, 2), (174, .iload 4, 2), (176, .invokevirtual 208, 3), (179, .aload_n 0, 1), (180, .getfield 193, 3), (183, .ifCond .ne 10, 3), (186, .aload_n 0, 1), (187, .invokevirtual 218, 3), (190, .goto 4, 3), (193, .lconst 0, 1), (194, .lstore 6, 2), (196, .aload_n 0, 1), (197, .getfield 193, 3), (200, .ifCond .ne 22, 3), (203, .lload 6, 2), (205, .iload_n 1, 1), (206, .aload_n 0, 1), (207, .getfield 202, 3), (210, .isub, 1), (211, .i2l, 1), (212, .lcmp, 1), (213, .ifCond .le 9, 3), (216, .aload_n 0, 1), (217, .iconst 2, 1), (218, .iload_n 1, 1), (219, .invokevirtual 208, 3), (222, .aload_n 0, 1), (223, .getfield 193, 3), (226, .ifCond .ne 52, 3), (229, .aload_n 0, 1), (230, .aload_n 0, 1), (231, .getfield 202, 3), (234, .lload 6, 2), (236, .l2i, 1), (237, .iadd, 1), (238, .putfield 205, 3), (241, .aload_n 0, 1), (242, .getfield 24, 3), (245, .bipush 12, 2), (247, .aload_n 0, 1), (248, .getfield 275, 3), (251, .imul, 1), (252, .iload 5, 2), (254, .iadd, 1), (255, .aload_n 0, 1), (256, .getfield 272, 3), (259, .iastore, 1), (260, .aload_n 0, 1), (261, .iload 5, 2), (263, .invokevirtual 304, 3), (266, .iload 5, 2), (268, .ifCond .le 8, 3), (271, .iload 5, 2), (273, .goto 4, 3), (276, .iload_n 3, 1), (277, .istore_n 3, 1), (278, .goto (-167), 3), (281, .aload_n 0, 1), (282, .getfield 193, 3), (285, .ifCond .ne 42, 3), (288, .aload_n 0, 1), (289, .getfield 27, 3), (292, .bipush 12, 2), (294, .aload_n 0, 1), (295, .getfield 275, 3), (298, .imul, 1), (299, .bipush 10, 2), (301, .iadd, 1), (302, .iaload, 1), (303, .aload_n 0, 1), (304, .getfield 27, 3), (307, .bipush 12, 2), (309, .aload_n 0, 1), (310, .getfield 275, 3), (313, .imul, 1), (314, .iconst 3, 1), (315, .iadd, 1), (316, .iaload, 1), (317, .if_icmp .eq 10, 3), (320, .aload_n 0, 1), (321, .bipush 8, 2), (323, .iload_n 1, 1), (324, .invokevirtual 208, 3), (327, .return_, 1)]
theorem D_M_readModule : ∀ q ∈ T_M_readModule, decode b_M_readModule q.1 = .ok (q.2.1, q.2.2) := by decide +kernel

set_option maxHeartbeats 4000000 in
set_option maxRecDepth 100000 in
theorem am_M_readModule_L327 (l : Launch) (hfl : l.flags = pinnedFlags ++ [noTraceFlag]) (D : va_G) (A : Nat → Prop) (σ MC MS : Nat) (h0 : xb_H) (Qr : xb_H → Nat → Nat → Prop) (h : xb_H) (bc : Nat) (bs : Nat) (hw : w_M_readModule_L327 Qr h bc bs) : xb_am l D A σ 11 MC MS h0 (fun v h bc bs => v = none ∧ Qr h bc bs) (fun _ _ _ _ => False) y_M_readModule.cls y_M_readModule.name b_M_readModule 8 ([] : List ExceptionTableEntry) none 327 [] [] h bc bs := by
  unfold w_M_readModule_L327 at hw
  intro p e s m args below meth c hC H locs ls k n hE hl hR hS hk hn
  obtain ⟨hx, hb, hown, hlocks, htab, hml, hr, hB, hA, hnm⟩ := id hC
  have hts := hB.1.1.at args
  exact xb_vret bc bs hx hb hr hlocks (show k + bc ≤ MC by omega) (show n + bs ≤ MS by omega) hE hR hS (xb_d D_M_readModule 189 rfl) hw

set_option maxHeartbeats 4000000 in
set_option maxRecDepth 100000 in
theorem am_M_readModule_L281 (l : Launch) (hfl : l.flags = pinnedFlags ++ [noTraceFlag]) (D : va_G) (A : Nat → Prop) (σ MC MS : Nat) (h0 : xb_H) (Qr : xb_H → Nat → Nat → Prop) (x0 : Nat) (x1 : Int32) (h : xb_H) (bc : Nat) (bs : Nat) (hw : w_M_readModule_L281 Qr x0 x1 h bc bs) : xb_am l D A σ 11 MC MS h0 (fun v h bc bs => v = none ∧ Qr h bc bs) (fun _ _ _ _ => False) y_M_readModule.cls y_M_readModule.name b_M_readModule 8 ([] : List ExceptionTableEntry) none 281 [(0, .ref x0), (1, .int x1)] [] h bc bs := by
  unfold w_M_readModule_L281 at hw
  intro p e s m args below meth c hC H locs ls k n hE hl hR hS hk hn
  obtain ⟨hx, hb, hown, hlocks, htab, hml, hr, hB, hA, hnm⟩ := id hC
  have hts := hB.1.1.at args
  refine lv_aload_n hx hb (xb_d D_M_readModule 163 rfl) rfl (lv_at hl 0 rfl) ?_
  obtain ⟨hk1, hw⟩ := hw
  refine xb_getI (C := R_M) (T := F_M) (N := 97) hx hb 8 17 hts fin_M hown hR hk1 (by decide) rfl (by decide) rfl (hts _ m_ff69da61) (fun _ h9 => h9) (xb_d D_M_readModule 164 rfl) ?_
  refine lv_if_ne (tgt := 327) hx hb (xb_d D_M_readModule 165 rfl) rfl (fun hc2 => ?_) (fun hc2 => ?_)
  · have hw := hw.1 hc2
    exact am_M_readModule_L327 l hfl D A σ MC MS h0 Qr h bc bs hw p e s m args below meth c hC H locs ls k n hE (lv_sub hl [] rfl) hR hS (by omega) (by omega)
  · have hw := hw.2 hc2
    refine lv_aload_n hx hb (xb_d D_M_readModule 166 rfl) rfl (lv_at hl 0 rfl) ?_
    refine xb_getP (C := R_M) (T := F_M) (N := 97) hx hb 8 9 hts fin_M hown hR hk1 (by decide) rfl (by decide) rfl (hts _ m_fea26463) (fun _ h9 => h9) (xb_d D_M_readModule 167 rfl) ?_
    obtain ⟨b3, eb3, hw⟩ := hw
    refine xb_some eb3 ?_
    refine lv_bipush (v := 12) hx hb (xb_d D_M_readModule 168 rfl) (by decide) ?_
    refine lv_aload_n hx hb (xb_d D_M_readModule 169 rfl) rfl (lv_at hl 0 rfl) ?_
    refine xb_getI (C := R_M) (T := F_M) (N := 97) hx hb 8 5 hts fin_M hown hR hk1 (by decide) rfl (by decide) rfl (hts _ m_b0f42f6b) (fun _ h9 => h9) (xb_d D_M_readModule 170 rfl) ?_
    refine lv_imul hx hb (xb_d D_M_readModule 171 rfl) ?_
    refine lv_bipush (v := 10) hx hb (xb_d D_M_readModule 172 rfl) (by decide) ?_
    refine lv_iadd hx hb (xb_d D_M_readModule 173 rfl) ?_
    obtain ⟨hk5, hw⟩ := hw
    obtain ⟨hi4, hw⟩ := hw
    refine xb_iald hx hb hR hk5 hi4 (xb_d D_M_readModule 174 rfl) ?_
    refine lv_aload_n hx hb (xb_d D_M_readModule 175 rfl) rfl (lv_at hl 0 rfl) ?_
    refine xb_getP (C := R_M) (T := F_M) (N := 97) hx hb 8 9 hts fin_M hown hR hk1 (by decide) rfl (by decide) rfl (hts _ m_fea26463) (fun _ h9 => h9) (xb_d D_M_readModule 176 rfl) ?_
    obtain ⟨b6, eb6, hw⟩ := hw
    refine xb_some eb6 ?_
    refine lv_bipush (v := 12) hx hb (xb_d D_M_readModule 177 rfl) (by decide) ?_
    refine lv_aload_n hx hb (xb_d D_M_readModule 178 rfl) rfl (lv_at hl 0 rfl) ?_
    refine xb_getI (C := R_M) (T := F_M) (N := 97) hx hb 8 5 hts fin_M hown hR hk1 (by decide) rfl (by decide) rfl (hts _ m_b0f42f6b) (fun _ h9 => h9) (xb_d D_M_readModule 179 rfl) ?_
    refine lv_imul hx hb (xb_d D_M_readModule 180 rfl) ?_
    refine lv_iconst (v := 3) hx hb (xb_d D_M_readModule 181 rfl) (by decide) ?_
    refine lv_iadd hx hb (xb_d D_M_readModule 182 rfl) ?_
    obtain ⟨hk8, hw⟩ := hw
    obtain ⟨hi7, hw⟩ := hw
    refine xb_iald hx hb hR hk8 hi7 (xb_d D_M_readModule 183 rfl) ?_
    refine lv_icmp_eq (tgt := 327) hx hb (xb_d D_M_readModule 184 rfl) rfl (fun hc9 => ?_) (fun hc9 => ?_)
    · have hw := hw.1 hc9
      exact am_M_readModule_L327 l hfl D A σ MC MS h0 Qr h bc bs hw p e s m args below meth c hC H locs ls k n hE (lv_sub hl [] rfl) hR hS (by omega) (by omega)
    · have hw := hw.2 hc9
      refine lv_aload_n hx hb (xb_d D_M_readModule 185 rfl) rfl (lv_at hl 0 rfl) ?_
      refine lv_bipush (v := 8) hx hb (xb_d D_M_readModule 186 rfl) (by decide) ?_
      refine lv_iload_n hx hb (xb_d D_M_readModule 187 rfl) rfl (lv_at hl 1 rfl) ?_
      refine xb_call0 (D := D) (A := A) (σ := σ) (h := h) (d := 2) (maxL := 3) (rest := []) (av := [.ref x0, .int 8, .int x1]) (fun T hT X => by obtain ⟨cb9, ra9, rb9, rc9⟩ := xb_recv (ci := 8) hR rfl hk1 (by decide); exact xt_invV X hx hown (hts _ m_939052ad) (hts _ m_29cc8c73) (hts _ m_3b1ac7ab) (xt_sigOf (hts _ m_8f062ecd)) nm_M_fail (by rw [hT]; exact ra9) rb9 rc9 (g := F0 m 324 ls [.int x1, .int 8, .ref x0]) rfl (argsL := [.int 8, .int x1]) (rest := []) rfl rfl (by rw [hb]; exact (xb_d D_M_readModule 188 rfl))) (ok_M_fail l hfl D A σ x0 8 x1 h _ hw) (hml.trans hl.1.symm) (by rw [hb]; exact (xb_d D_M_readModule 188 rfl)) (Nat.le_of_ble_eq_true rfl) (Nat.le_of_ble_eq_true rfl) (Nat.le_of_ble_eq_true rfl) (show k ≤ MC by omega) (show n ≤ MS by omega) (xt_w1 hB.1 m_8f062ecd) (xt_cdOf hB.1 m_8f062ecd) (hts _ m_d5ed7bed) hB hR hS hA (fun vv h10 H locs hq hEh10 hR hS => ?_)
      obtain ⟨rfl, hw⟩ := hq
      have hw := hw hEh10
      have hE := hE.tr hEh10
      refine W.eq (g2 := F0 m 327 ls []) rfl ?_
      exact am_M_readModule_L327 l hfl D A σ MC MS h0 Qr h10 bc bs hw p e s m args below meth c hC H locs ls k n hE (lv_sub hl [] rfl) hR hS (by omega) (by omega)

set_option maxHeartbeats 4000000 in
set_option maxRecDepth 100000 in
theorem am_M_readModule_L278 (l : Launch) (hfl : l.flags = pinnedFlags ++ [noTraceFlag]) (D : va_G) (A : Nat → Prop) (σ MC MS : Nat) (h0 : xb_H) (Qr : xb_H → Nat → Nat → Prop) (K111 : Nat → Int32 → Int32 → xb_H → Nat → Nat → Prop) (hK111 : ∀ (x0 : Nat) (x1 : Int32) (x3 : Int32) (h : xb_H) (bc : Nat) (bs : Nat), K111 x0 x1 x3 h bc bs → xb_am l D A σ 11 MC MS h0 (fun v h bc bs => v = none ∧ Qr h bc bs) (fun _ _ _ _ => False) y_M_readModule.cls y_M_readModule.name b_M_readModule 8 ([] : List ExceptionTableEntry) none 111 [(0, .ref x0), (1, .int x1), (3, .int x3)] [] h bc bs) (x0 : Nat) (x1 : Int32) (x3 : Int32) (h : xb_H) (bc : Nat) (bs : Nat) (hw : w_M_readModule_L278 K111 Qr x0 x1 x3 h bc bs) : xb_am l D A σ 11 MC MS h0 (fun v h bc bs => v = none ∧ Qr h bc bs) (fun _ _ _ _ => False) y_M_readModule.cls y_M_readModule.name b_M_readModule 8 ([] : List ExceptionTableEntry) none 278 [(0, .ref x0), (1, .int x1), (3, .int x3)] [] h bc bs := by
  unfold w_M_readModule_L278 at hw
  intro p e s m args below meth c hC H locs ls k n hE hl hR hS hk hn
  obtain ⟨hx, hb, hown, hlocks, htab, hml, hr, hB, hA, hnm⟩ := id hC
  have hts := hB.1.1.at args
  refine lv_goto (tgt := 111) hx hb (xb_d D_M_readModule 162 rfl) rfl ?_
  exact hK111 x0 x1 x3 h bc bs hw p e s m args below meth c hC H locs ls k n hE (lv_sub hl [0, 1, 2] rfl) hR hS (by omega) (by omega)

set_option maxHeartbeats 4000000 in
set_option maxRecDepth 100000 in
theorem am_M_readModule_L277 (l : Launch) (hfl : l.flags = pinnedFlags ++ [noTraceFlag]) (D : va_G) (A : Nat → Prop) (σ MC MS : Nat) (h0 : xb_H) (Qr : xb_H → Nat → Nat → Prop) (K111 : Nat → Int32 → Int32 → xb_H → Nat → Nat → Prop) (hK111 : ∀ (x0 : Nat) (x1 : Int32) (x3 : Int32) (h : xb_H) (bc : Nat) (bs : Nat), K111 x0 x1 x3 h bc bs → xb_am l D A σ 11 MC MS h0 (fun v h bc bs => v = none ∧ Qr h bc bs) (fun _ _ _ _ => False) y_M_readModule.cls y_M_readModule.name b_M_readModule 8 ([] : List ExceptionTableEntry) none 111 [(0, .ref x0), (1, .int x1), (3, .int x3)] [] h bc bs) (x0 : Nat) (x1 : Int32) (y0 : Int32) (h : xb_H) (bc : Nat) (bs : Nat) (hw : w_M_readModule_L277 K111 Qr x0 x1 y0 h bc bs) : xb_am l D A σ 11 MC MS h0 (fun v h bc bs => v = none ∧ Qr h bc bs) (fun _ _ _ _ => False) y_M_readModule.cls y_M_readModule.name b_M_readModule 8 ([] : List ExceptionTableEntry) none 277 [(0, .ref x0), (1, .int x1)] [.int y0] h bc bs := by
  unfold w_M_readModule_L277 at hw
  intro p e s m args below meth c hC H locs ls k n hE hl hR hS hk hn
  obtain ⟨hx, hb, hown, hlocks, htab, hml, hr, hB, hA, hnm⟩ := id hC
  have hts := hB.1.1.at args
  refine lv_istore_n hx hb (xb_d D_M_readModule 161 rfl) rfl hl (by decide) rfl (fun ls hl => ?_)
  have hl : lv_has ls 8 [(3, .int y0), (0, .ref x0), (1, .int x1)] := hl
  exact am_M_readModule_L278 l hfl D A σ MC MS h0 Qr K111 hK111 x0 x1 y0 h bc bs hw p e s m args below meth c hC H locs ls k n hE (lv_sub hl [1, 2, 0] rfl) hR hS (by omega) (by omega)

set_option maxHeartbeats 4000000 in
set_option maxRecDepth 100000 in
theorem am_M_readModule_L222 (l : Launch) (hfl : l.flags = pinnedFlags ++ [noTraceFlag]) (D : va_G) (A : Nat → Prop) (σ MC MS : Nat) (h0 : xb_H) (Qr : xb_H → Nat → Nat → Prop) (K111 : Nat → Int32 → Int32 → xb_H → Nat → Nat → Prop) (hK111 : ∀ (x0 : Nat) (x1 : Int32) (x3 : Int32) (h : xb_H) (bc : Nat) (bs : Nat), K111 x0 x1 x3 h bc bs → xb_am l D A σ 11 MC MS h0 (fun v h bc bs => v = none ∧ Qr h bc bs) (fun _ _ _ _ => False) y_M_readModule.cls y_M_readModule.name b_M_readModule 8 ([] : List ExceptionTableEntry) none 111 [(0, .ref x0), (1, .int x1), (3, .int x3)] [] h bc bs) (x0 : Nat) (x1 : Int32) (x3 : Int32) (x5 : Int32) (x6 : Int64) (h : xb_H) (bc : Nat) (bs : Nat) (hw : w_M_readModule_L222 K111 Qr x0 x1 x3 x5 x6 h bc bs) : xb_am l D A σ 11 MC MS h0 (fun v h bc bs => v = none ∧ Qr h bc bs) (fun _ _ _ _ => False) y_M_readModule.cls y_M_readModule.name b_M_readModule 8 ([] : List ExceptionTableEntry) none 222 [(0, .ref x0), (1, .int x1), (3, .int x3), (5, .int x5), (6, .long x6)] [] h bc bs := by
  unfold w_M_readModule_L222 at hw
  intro p e s m args below meth c hC H locs ls k n hE hl hR hS hk hn
  obtain ⟨hx, hb, hown, hlocks, htab, hml, hr, hB, hA, hnm⟩ := id hC
  have hts := hB.1.1.at args
  refine lv_aload_n hx hb (xb_d D_M_readModule 132 rfl) rfl (lv_at hl 0 rfl) ?_
  obtain ⟨hk1, hw⟩ := hw
  refine xb_getI (C := R_M) (T := F_M) (N := 97) hx hb 8 17 hts fin_M hown hR hk1 (by decide) rfl (by decide) rfl (hts _ m_ff69da61) (fun _ h9 => h9) (xb_d D_M_readModule 133 rfl) ?_
  refine lv_if_ne (tgt := 278) hx hb (xb_d D_M_readModule 134 rfl) rfl (fun hc2 => ?_) (fun hc2 => ?_)
  · have hw := hw.1 hc2
    exact am_M_readModule_L278 l hfl D A σ MC MS h0 Qr K111 hK111 x0 x1 x3 h bc bs hw p e s m args below meth c hC H locs ls k n hE (lv_sub hl [0, 1, 2] rfl) hR hS (by omega) (by omega)
  · have hw := hw.2 hc2
    refine lv_aload_n hx hb (xb_d D_M_readModule 135 rfl) rfl (lv_at hl 0 rfl) ?_
    refine lv_aload_n hx hb (xb_d D_M_readModule 136 rfl) rfl (lv_at hl 0 rfl) ?_
    refine xb_getI (C := R_M) (T := F_M) (N := 97) hx hb 8 15 hts fin_M hown hR hk1 (by decide) rfl (by decide) rfl (hts _ m_6c2d27ad) (fun _ h9 => h9) (xb_d D_M_readModule 137 rfl) ?_
    refine lv_lload hx hb (xb_d D_M_readModule 138 rfl) (lv_at hl 4 rfl) ?_
    refine lv_l2i hx hb (xb_d D_M_readModule 139 rfl) rfl ?_
    refine lv_iadd hx hb (xb_d D_M_readModule 140 rfl) ?_
    refine xb_putI (C := R_M) (T := F_M) (N := 97) (ty := .int) (x := ((xb_i h x0 15) + (Int64.toInt32 x6))) hx hb 8 16 hts fin_M t_M t_M_ok n_M hown hR hS hk1 (by decide) rfl (by decide) rfl (hts _ m_48124c81) (fun _ h9 => h9) rfl (by decide +kernel) rfl rfl (xb_d D_M_readModule 141 rfl) (fun H locs hR hS => ?_)
    obtain ⟨h3, eh3⟩ : ∃ x : xb_H, x = xb_I h x0 16 ((xb_i h x0 15) + (Int64.toInt32 x6)) := ⟨_, rfl⟩
    rw [← eh3] at hR
    have hw := hw h3 eh3
    have hE : xb_ext h0 h3 := by rw [eh3]; exact hE
    refine lv_aload_n hx hb (xb_d D_M_readModule 142 rfl) rfl (lv_at hl 0 rfl) ?_
    have hk1 : xb_k h3 x0 = 9 := by rw [eh3]; exact hk1
    refine xb_getP (C := R_M) (T := F_M) (N := 97) hx hb 8 8 hts fin_M hown hR hk1 (by decide) rfl (by decide) rfl (hts _ m_7cc4ea11) (fun _ h9 => h9) (xb_d D_M_readModule 143 rfl) ?_
    obtain ⟨b4, eb4, hw⟩ := hw
    refine xb_some eb4 ?_
    refine lv_bipush (v := 12) hx hb (xb_d D_M_readModule 144 rfl) (by decide) ?_
    refine lv_aload_n hx hb (xb_d D_M_readModule 145 rfl) rfl (lv_at hl 0 rfl) ?_
    refine xb_getI (C := R_M) (T := F_M) (N := 97) hx hb 8 5 hts fin_M hown hR hk1 (by decide) rfl (by decide) rfl (hts _ m_b0f42f6b) (fun _ h9 => h9) (xb_d D_M_readModule 146 rfl) ?_
    refine lv_imul hx hb (xb_d D_M_readModule 147 rfl) ?_
    refine lv_iload hx hb (xb_d D_M_readModule 148 rfl) (lv_at hl 3 rfl) ?_
    refine lv_iadd hx hb (xb_d D_M_readModule 149 rfl) ?_
    refine lv_aload_n hx hb (xb_d D_M_readModule 150 rfl) rfl (lv_at hl 0 rfl) ?_
    refine xb_getI (C := R_M) (T := F_M) (N := 97) hx hb 8 13 hts fin_M hown hR hk1 (by decide) rfl (by decide) rfl (hts _ m_d9ebb8df) (fun _ h9 => h9) (xb_d D_M_readModule 151 rfl) ?_
    obtain ⟨hk5, hw⟩ := hw
    obtain ⟨hi6, hw⟩ := hw
    refine xb_iast hx hb hR hS hk5 hi6 (xb_d D_M_readModule 152 rfl) (fun H locs hR hS => ?_)
    obtain ⟨h7, eh7⟩ : ∃ x : xb_H, x = xb_I h3 b4 (Int32.toNatClampNeg ((12 * (xb_i h3 x0 5)) + x5)) (xb_i h3 x0 13) := ⟨_, rfl⟩
    rw [← eh7] at hR
    have hw := hw h7 eh7
    have hE : xb_ext h0 h7 := by rw [eh7]; exact hE
    refine lv_aload_n hx hb (xb_d D_M_readModule 153 rfl) rfl (lv_at hl 0 rfl) ?_
    refine lv_iload hx hb (xb_d D_M_readModule 154 rfl) (lv_at hl 3 rfl) ?_
    have hk1 : xb_k h7 x0 = 9 := by rw [eh7]; exact hk1
    refine xb_call (D := D) (A := A) (σ := σ) (h := h7) (d := 10) (mc := bc) (ms := bs) (maxL := 7) (rest := []) (av := [.ref x0, .int x5]) (fun T hT X => by obtain ⟨cb9, ra9, rb9, rc9⟩ := xb_recv (ci := 8) hR rfl hk1 (by decide); exact xt_invV X hx hown (hts _ m_e37969c9) (hts _ m_4c0d48c0) (hts _ m_f37779d0) (xt_sigOf (hts _ m_1e65be52)) nm_M_section (by rw [hT]; exact ra9) rb9 rc9 (g := F0 m 263 ls [.int x5, .ref x0]) rfl (argsL := [.int x5]) (rest := []) rfl rfl (by rw [hb]; exact (xb_d D_M_readModule 155 rfl))) (ok_M_section l hfl D A σ x0 x5 h7 bc bs _ hw) (hml.trans hl.1.symm) (by rw [hb]; exact (xb_d D_M_readModule 155 rfl)) (Nat.le_of_ble_eq_true rfl) (Nat.le_of_ble_eq_true rfl) (Nat.le_of_ble_eq_true rfl) (show k + bc ≤ MC by omega) (show n + bs ≤ MS by omega) (xt_w1 hB.1 m_1e65be52) (xt_cdOf hB.1 m_1e65be52) (hts _ m_d5ed7bed) hB hR hS hA (fun vv h8 bc9 bs9 kk9 nn9 H locs hk9 hn9 hq hEh8 hR hS => ?_) (fun XX ax h8 bc9 bs9 kk9 nn9 H locs hk9 hn9 hq hEh8 hex hR hS => ?_)
    · obtain ⟨rfl, hw⟩ := hq
      have hw := hw hEh8
      have hE := hE.tr hEh8
      refine W.eq (g2 := F0 m 266 ls []) rfl ?_
      refine lv_iload hx hb (xb_d D_M_readModule 156 rfl) (lv_at hl 3 rfl) ?_
      refine lv_if_le (tgt := 276) hx hb (xb_d D_M_readModule 157 rfl) rfl (fun hc10 => ?_) (fun hc10 => ?_)
      · have hw := hw.1 hc10
        refine lv_iload_n hx hb (xb_d D_M_readModule 160 rfl) rfl (lv_at hl 2 rfl) ?_
        exact am_M_readModule_L277 l hfl D A σ MC MS h0 Qr K111 hK111 x0 x1 x3 h8 bc9 bs9 hw p e s m args below meth c hC H locs ls (k + kk9) (n + nn9) hE (lv_sub hl [0, 1] rfl) hR hS (by omega) (by omega)
      · have hw := hw.2 hc10
        refine lv_iload hx hb (xb_d D_M_readModule 158 rfl) (lv_at hl 3 rfl) ?_
        refine lv_goto (tgt := 277) hx hb (xb_d D_M_readModule 159 rfl) rfl ?_
        exact am_M_readModule_L277 l hfl D A σ MC MS h0 Qr K111 hK111 x0 x1 x5 h8 bc9 bs9 hw p e s m args below meth c hC H locs ls (k + kk9) (n + nn9) hE (lv_sub hl [0, 1] rfl) hR hS (by omega) (by omega)
    · exact False.elim hq

set_option maxHeartbeats 4000000 in
set_option maxRecDepth 100000 in
theorem am_M_readModule_L194 (l : Launch) (hfl : l.flags = pinnedFlags ++ [noTraceFlag]) (D : va_G) (A : Nat → Prop) (σ MC MS : Nat) (h0 : xb_H) (Qr : xb_H → Nat → Nat → Prop) (K111 : Nat → Int32 → Int32 → xb_H → Nat → Nat → Prop) (hK111 : ∀ (x0 : Nat) (x1 : Int32) (x3 : Int32) (h : xb_H) (bc : Nat) (bs : Nat), K111 x0 x1 x3 h bc bs → xb_am l D A σ 11 MC MS h0 (fun v h bc bs => v = none ∧ Qr h bc bs) (fun _ _ _ _ => False) y_M_readModule.cls y_M_readModule.name b_M_readModule 8 ([] : List ExceptionTableEntry) none 111 [(0, .ref x0), (1, .int x1), (3, .int x3)] [] h bc bs) (x0 : Nat) (x1 : Int32) (x3 : Int32) (x5 : Int32) (y0 : Int64) (h : xb_H) (bc : Nat) (bs : Nat) (hw : w_M_readModule_L194 K111 Qr x0 x1 x3 x5 y0 h bc bs) : xb_am l D A σ 11 MC MS h0 (fun v h bc bs => v = none ∧ Qr h bc bs) (fun _ _ _ _ => False) y_M_readModule.cls y_M_readModule.name b_M_readModule 8 ([] : List ExceptionTableEntry) none 194 [(0, .ref x0), (1, .int x1), (3, .int x3), (5, .int x5)] [.long y0] h bc bs := by
  unfold w_M_readModule_L194 at hw
  intro p e s m args below meth c hC H locs ls k n hE hl hR hS hk hn
  obtain ⟨hx, hb, hown, hlocks, htab, hml, hr, hB, hA, hnm⟩ := id hC
  have hts := hB.1.1.at args
  refine lv_lstore hx hb (xb_d D_M_readModule 116 rfl) hl (by decide) rfl (fun ls hl => ?_)
  have hl : lv_has ls 8 [(6, .long y0), (0, .ref x0), (1, .int x1), (3, .int x3), (5, .int x5)] := hl
  refine lv_aload_n hx hb (xb_d D_M_readModule 117 rfl) rfl (lv_at hl 1 rfl) ?_
  obtain ⟨hk1, hw⟩ := hw
  refine xb_getI (C := R_M) (T := F_M) (N := 97) hx hb 8 17 hts fin_M hown hR hk1 (by decide) rfl (by decide) rfl (hts _ m_ff69da61) (fun _ h9 => h9) (xb_d D_M_readModule 118 rfl) ?_
  refine lv_if_ne (tgt := 222) hx hb (xb_d D_M_readModule 119 rfl) rfl (fun hc2 => ?_) (fun hc2 => ?_)
  · have hw := hw.1 hc2
    exact am_M_readModule_L222 l hfl D A σ MC MS h0 Qr K111 hK111 x0 x1 x3 x5 y0 h bc bs hw p e s m args below meth c hC H locs ls k n hE (lv_sub hl [1, 2, 3, 4, 0] rfl) hR hS (by omega) (by omega)
  · have hw := hw.2 hc2
    refine lv_lload hx hb (xb_d D_M_readModule 120 rfl) (lv_at hl 0 rfl) ?_
    refine lv_iload_n hx hb (xb_d D_M_readModule 121 rfl) rfl (lv_at hl 2 rfl) ?_
    refine lv_aload_n hx hb (xb_d D_M_readModule 122 rfl) rfl (lv_at hl 1 rfl) ?_
    refine xb_getI (C := R_M) (T := F_M) (N := 97) hx hb 8 15 hts fin_M hown hR hk1 (by decide) rfl (by decide) rfl (hts _ m_6c2d27ad) (fun _ h9 => h9) (xb_d D_M_readModule 123 rfl) ?_
    refine lv_isub hx hb (xb_d D_M_readModule 124 rfl) ?_
    refine lv_i2l hx hb (xb_d D_M_readModule 125 rfl) rfl ?_
    refine xb_lc_le (tgt := 222) hx hb (xb_d D_M_readModule 126 rfl) (xb_d D_M_readModule 127 rfl) rfl (fun hc3 => ?_) (fun hc3 => ?_)
    · have hw := hw.1 hc3
      exact am_M_readModule_L222 l hfl D A σ MC MS h0 Qr K111 hK111 x0 x1 x3 x5 y0 h bc bs hw p e s m args below meth c hC H locs ls k n hE (lv_sub hl [1, 2, 3, 4, 0] rfl) hR hS (by omega) (by omega)
    · have hw := hw.2 hc3
      refine lv_aload_n hx hb (xb_d D_M_readModule 128 rfl) rfl (lv_at hl 1 rfl) ?_
      refine lv_iconst (v := 2) hx hb (xb_d D_M_readModule 129 rfl) (by decide) ?_
      refine lv_iload_n hx hb (xb_d D_M_readModule 130 rfl) rfl (lv_at hl 2 rfl) ?_
      refine xb_call0 (D := D) (A := A) (σ := σ) (h := h) (d := 2) (maxL := 3) (rest := []) (av := [.ref x0, .int 2, .int x1]) (fun T hT X => by obtain ⟨cb9, ra9, rb9, rc9⟩ := xb_recv (ci := 8) hR rfl hk1 (by decide); exact xt_invV X hx hown (hts _ m_939052ad) (hts _ m_29cc8c73) (hts _ m_3b1ac7ab) (xt_sigOf (hts _ m_8f062ecd)) nm_M_fail (by rw [hT]; exact ra9) rb9 rc9 (g := F0 m 219 ls [.int x1, .int 2, .ref x0]) rfl (argsL := [.int 2, .int x1]) (rest := []) rfl rfl (by rw [hb]; exact (xb_d D_M_readModule 131 rfl))) (ok_M_fail l hfl D A σ x0 2 x1 h _ hw) (hml.trans hl.1.symm) (by rw [hb]; exact (xb_d D_M_readModule 131 rfl)) (Nat.le_of_ble_eq_true rfl) (Nat.le_of_ble_eq_true rfl) (Nat.le_of_ble_eq_true rfl) (show k ≤ MC by omega) (show n ≤ MS by omega) (xt_w1 hB.1 m_8f062ecd) (xt_cdOf hB.1 m_8f062ecd) (hts _ m_d5ed7bed) hB hR hS hA (fun vv h4 H locs hq hEh4 hR hS => ?_)
      obtain ⟨rfl, hw⟩ := hq
      have hw := hw hEh4
      have hE := hE.tr hEh4
      refine W.eq (g2 := F0 m 222 ls []) rfl ?_
      exact am_M_readModule_L222 l hfl D A σ MC MS h0 Qr K111 hK111 x0 x1 x3 x5 y0 h4 bc bs hw p e s m args below meth c hC H locs ls k n hE (lv_sub hl [1, 2, 3, 4, 0] rfl) hR hS (by omega) (by omega)

set_option maxHeartbeats 4000000 in
set_option maxRecDepth 100000 in
theorem am_M_readModule_L179 (l : Launch) (hfl : l.flags = pinnedFlags ++ [noTraceFlag]) (D : va_G) (A : Nat → Prop) (σ MC MS : Nat) (h0 : xb_H) (Qr : xb_H → Nat → Nat → Prop) (K111 : Nat → Int32 → Int32 → xb_H → Nat → Nat → Prop) (hK111 : ∀ (x0 : Nat) (x1 : Int32) (x3 : Int32) (h : xb_H) (bc : Nat) (bs : Nat), K111 x0 x1 x3 h bc bs → xb_am l D A σ 11 MC MS h0 (fun v h bc bs => v = none ∧ Qr h bc bs) (fun _ _ _ _ => False) y_M_readModule.cls y_M_readModule.name b_M_readModule 8 ([] : List ExceptionTableEntry) none 111 [(0, .ref x0), (1, .int x1), (3, .int x3)] [] h bc bs) (x0 : Nat) (x1 : Int32) (x3 : Int32) (x5 : Int32) (h : xb_H) (bc : Nat) (bs : Nat) (hw : w_M_readModule_L179 K111 Qr x0 x1 x3 x5 h bc bs) : xb_am l D A σ 11 MC MS h0 (fun v h bc bs => v = none ∧ Qr h bc bs) (fun _ _ _ _ => False) y_M_readModule.cls y_M_readModule.name b_M_readModule 8 ([] : List ExceptionTableEntry) none 179 [(0, .ref x0), (1, .int x1), (3, .int x3), (5, .int x5)] [] h bc bs := by
  unfold w_M_readModule_L179 at hw
  intro p e s m args below meth c hC H locs ls k n hE hl hR hS hk hn
  obtain ⟨hx, hb, hown, hlocks, htab, hml, hr, hB, hA, hnm⟩ := id hC
  have hts := hB.1.1.at args
  refine lv_aload_n hx hb (xb_d D_M_readModule 109 rfl) rfl (lv_at hl 0 rfl) ?_
  obtain ⟨hk1, hw⟩ := hw
  refine xb_getI (C := R_M) (T := F_M) (N := 97) hx hb 8 17 hts fin_M hown hR hk1 (by decide) rfl (by decide) rfl (hts _ m_ff69da61) (fun _ h9 => h9) (xb_d D_M_readModule 110 rfl) ?_
  refine lv_if_ne (tgt := 193) hx hb (xb_d D_M_readModule 111 rfl) rfl (fun hc2 => ?_) (fun hc2 => ?_)
  · have hw := hw.1 hc2
    refine lv_lconst (v := 0) hx hb (xb_d D_M_readModule 115 rfl) (by decide) ?_
    exact am_M_readModule_L194 l hfl D A σ MC MS h0 Qr K111 hK111 x0 x1 x3 x5 0 h bc bs hw p e s m args below meth c hC H locs ls k n hE (lv_sub hl [0, 1, 2, 3] rfl) hR hS (by omega) (by omega)
  · have hw := hw.2 hc2
    refine lv_aload_n hx hb (xb_d D_M_readModule 112 rfl) rfl (lv_at hl 0 rfl) ?_
    refine xb_call0 (D := D) (A := A) (σ := σ) (h := h) (d := 4) (maxL := 5) (rest := []) (av := [.ref x0]) (fun T hT X => by obtain ⟨cb9, ra9, rb9, rc9⟩ := xb_recv (ci := 8) hR rfl hk1 (by decide); exact xt_invV X hx hown (hts _ m_e991293f) (hts _ m_385a74b3) (hts _ m_c9fbcd02) (xt_sigOf (hts _ m_1f53f210)) nm_M_count (by rw [hT]; exact ra9) rb9 rc9 (g := F0 m 187 ls [.ref x0]) rfl (argsL := []) (rest := []) rfl rfl (by rw [hb]; exact (xb_d D_M_readModule 113 rfl))) (ok_M_count l hfl D A σ x0 h _ hw) (hml.trans hl.1.symm) (by rw [hb]; exact (xb_d D_M_readModule 113 rfl)) (Nat.le_of_ble_eq_true rfl) (Nat.le_of_ble_eq_true rfl) (Nat.le_of_ble_eq_true rfl) (show k ≤ MC by omega) (show n ≤ MS by omega) (xt_w1 hB.1 m_1f53f210) (xt_cdOf hB.1 m_1f53f210) (hts _ m_d5ed7bed) hB hR hS hA (fun vv h3 H locs hq hEh3 hR hS => ?_)
    obtain ⟨r4, rfl, hw⟩ := hq
    have hw := hw hEh3
    have hE := hE.tr hEh3
    refine W.eq (g2 := F0 m 190 ls [.long r4]) rfl ?_
    refine lv_goto (tgt := 194) hx hb (xb_d D_M_readModule 114 rfl) rfl ?_
    exact am_M_readModule_L194 l hfl D A σ MC MS h0 Qr K111 hK111 x0 x1 x3 x5 r4 h3 bc bs hw p e s m args below meth c hC H locs ls k n hE (lv_sub hl [0, 1, 2, 3] rfl) hR hS (by omega) (by omega)

set_option maxHeartbeats 4000000 in
set_option maxRecDepth 100000 in
theorem am_M_readModule_L111 (l : Launch) (hfl : l.flags = pinnedFlags ++ [noTraceFlag]) (D : va_G) (A : Nat → Prop) (σ MC MS : Nat) (h0 : xb_H) (Qr : xb_H → Nat → Nat → Prop) (n9 : Nat) : ∀ (x0 : Nat) (x1 : Int32) (x3 : Int32) (h : xb_H) (bc : Nat) (bs : Nat), w_M_readModule_L111 Qr n9 x0 x1 x3 h bc bs → xb_am l D A σ 11 MC MS h0 (fun v h bc bs => v = none ∧ Qr h bc bs) (fun _ _ _ _ => False) y_M_readModule.cls y_M_readModule.name b_M_readModule 8 ([] : List ExceptionTableEntry) none 111 [(0, .ref x0), (1, .int x1), (3, .int x3)] [] h bc bs := by
  induction n9 with
  | zero => intro x0 x1 x3 h bc bs hw; exact False.elim hw
  | succ n9 ih =>
    intro x0 x1 x3 h bc bs hw
    unfold w_M_readModule_L111 at hw
    intro p e s m args below meth c hC H locs ls k n hE hl hR hS hk hn
    obtain ⟨hx, hb, hown, hlocks, htab, hml, hr, hB, hA, hnm⟩ := id hC
    have hts := hB.1.1.at args
    refine lv_aload_n hx hb (xb_d D_M_readModule 76 rfl) rfl (lv_at hl 0 rfl) ?_
    obtain ⟨hk1, hw⟩ := hw
    refine xb_getI (C := R_M) (T := F_M) (N := 97) hx hb 8 17 hts fin_M hown hR hk1 (by decide) rfl (by decide) rfl (hts _ m_ff69da61) (fun _ h9 => h9) (xb_d D_M_readModule 77 rfl) ?_
    refine lv_if_ne (tgt := 281) hx hb (xb_d D_M_readModule 78 rfl) rfl (fun hc2 => ?_) (fun hc2 => ?_)
    · have hw := hw.1 hc2
      exact am_M_readModule_L281 l hfl D A σ MC MS h0 Qr x0 x1 h bc bs hw p e s m args below meth c hC H locs ls k n hE (lv_sub hl [0, 1] rfl) hR hS (by omega) (by omega)
    · have hw := hw.2 hc2
      refine lv_aload_n hx hb (xb_d D_M_readModule 79 rfl) rfl (lv_at hl 0 rfl) ?_
      refine xb_getI (C := R_M) (T := F_M) (N := 97) hx hb 8 15 hts fin_M hown hR hk1 (by decide) rfl (by decide) rfl (hts _ m_6c2d27ad) (fun _ h9 => h9) (xb_d D_M_readModule 80 rfl) ?_
      refine lv_iload_n hx hb (xb_d D_M_readModule 81 rfl) rfl (lv_at hl 1 rfl) ?_
      refine lv_icmp_ge (tgt := 281) hx hb (xb_d D_M_readModule 82 rfl) rfl (fun hc3 => ?_) (fun hc3 => ?_)
      · have hw := hw.1 hc3
        exact am_M_readModule_L281 l hfl D A σ MC MS h0 Qr x0 x1 h bc bs hw p e s m args below meth c hC H locs ls k n hE (lv_sub hl [0, 1] rfl) hR hS (by omega) (by omega)
      · have hw := hw.2 hc3
        refine lv_aload_n hx hb (xb_d D_M_readModule 83 rfl) rfl (lv_at hl 0 rfl) ?_
        refine xb_getI (C := R_M) (T := F_M) (N := 97) hx hb 8 15 hts fin_M hown hR hk1 (by decide) rfl (by decide) rfl (hts _ m_6c2d27ad) (fun _ h9 => h9) (xb_d D_M_readModule 84 rfl) ?_
        obtain ⟨v4, ev4⟩ : ∃ x : Int32, x = (xb_i h x0 15) := ⟨_, rfl⟩
        have hw := hw v4 ev4
        refine xt_numi (y := v4) ev4.symm ?_
        refine lv_istore hx hb (xb_d D_M_readModule 85 rfl) hl (by decide) rfl (fun ls hl => ?_)
        have hl : lv_has ls 8 [(4, .int v4), (0, .ref x0), (1, .int x1), (3, .int x3)] := hl
        refine lv_aload_n hx hb (xb_d D_M_readModule 86 rfl) rfl (lv_at hl 1 rfl) ?_
        refine lv_iload_n hx hb (xb_d D_M_readModule 87 rfl) rfl (lv_at hl 2 rfl) ?_
        refine xb_putI (C := R_M) (T := F_M) (N := 97) (ty := .int) (x := x1) hx hb 8 16 hts fin_M t_M t_M_ok n_M hown hR hS hk1 (by decide) rfl (by decide) rfl (hts _ m_48124c81) (fun _ h9 => h9) rfl (by decide +kernel) rfl rfl (xb_d D_M_readModule 88 rfl) (fun H locs hR hS => ?_)
        obtain ⟨h5, eh5⟩ : ∃ x : xb_H, x = xb_I h x0 16 x1 := ⟨_, rfl⟩
        rw [← eh5] at hR
        have hw := hw h5 eh5
        have hE : xb_ext h0 h5 := by rw [eh5]; exact hE
        refine lv_aload_n hx hb (xb_d D_M_readModule 89 rfl) rfl (lv_at hl 1 rfl) ?_
        have hk1 : xb_k h5 x0 = 9 := by rw [eh5]; exact hk1
        refine xb_call0 (D := D) (A := A) (σ := σ) (h := h5) (d := 3) (maxL := 2) (rest := []) (av := [.ref x0]) (fun T hT X => by obtain ⟨cb9, ra9, rb9, rc9⟩ := xb_recv (ci := 8) hR rfl hk1 (by decide); exact xt_invV X hx hown (hts _ m_0e978570) (hts _ m_40099f98) (hts _ m_a7dbfd07) (xt_sigOf (hts _ m_0af1ec6a)) nm_M_next (by rw [hT]; exact ra9) rb9 rc9 (g := F0 m 138 ls [.ref x0]) rfl (argsL := []) (rest := []) rfl rfl (by rw [hb]; exact (xb_d D_M_readModule 90 rfl))) (ok_M_next l hfl D A σ x0 h5 _ hw) (hml.trans hl.1.symm) (by rw [hb]; exact (xb_d D_M_readModule 90 rfl)) (Nat.le_of_ble_eq_true rfl) (Nat.le_of_ble_eq_true rfl) (Nat.le_of_ble_eq_true rfl) (show k ≤ MC by omega) (show n ≤ MS by omega) (xt_w1 hB.1 m_0af1ec6a) (xt_cdOf hB.1 m_0af1ec6a) (hts _ m_d5ed7bed) hB hR hS hA (fun vv h6 H locs hq hEh6 hR hS => ?_)
        obtain ⟨r7, rfl, hw⟩ := hq
        have hw := hw hEh6
        have hE := hE.tr hEh6
        refine W.eq (g2 := F0 m 141 ls [.int r7]) rfl ?_
        refine lv_istore hx hb (xb_d D_M_readModule 91 rfl) hl (by decide) rfl (fun ls hl => ?_)
        have hl : lv_has ls 8 [(5, .int r7), (4, .int v4), (0, .ref x0), (1, .int x1), (3, .int x3)] := hl
        refine lv_iload hx hb (xb_d D_M_readModule 92 rfl) (lv_at hl 0 rfl) ?_
        refine lv_bipush (v := 11) hx hb (xb_d D_M_readModule 93 rfl) (by decide) ?_
        refine lv_icmp_le (tgt := 160) hx hb (xb_d D_M_readModule 94 rfl) rfl (fun hc8 => ?_) (fun hc8 => ?_)
        · have hw := hw.1 hc8
          refine lv_iload hx hb (xb_d D_M_readModule 100 rfl) (lv_at hl 0 rfl) ?_
          refine lv_if_le (tgt := 179) hx hb (xb_d D_M_readModule 101 rfl) rfl (fun hc9 => ?_) (fun hc9 => ?_)
          · have hw := hw.1 hc9
            exact am_M_readModule_L179 l hfl D A σ MC MS h0 Qr (w_M_readModule_L111 Qr n9) ih x0 x1 x3 r7 h6 bc bs hw p e s m args below meth c hC H locs ls k n hE (lv_sub hl [2, 3, 4, 0] rfl) hR hS (by omega) (by omega)
          · have hw := hw.2 hc9
            refine lv_iload hx hb (xb_d D_M_readModule 102 rfl) (lv_at hl 0 rfl) ?_
            refine lv_iload_n hx hb (xb_d D_M_readModule 103 rfl) rfl (lv_at hl 4 rfl) ?_
            refine lv_icmp_gt (tgt := 179) hx hb (xb_d D_M_readModule 104 rfl) rfl (fun hc10 => ?_) (fun hc10 => ?_)
            · have hw := hw.1 hc10
              exact am_M_readModule_L179 l hfl D A σ MC MS h0 Qr (w_M_readModule_L111 Qr n9) ih x0 x1 x3 r7 h6 bc bs hw p e s m args below meth c hC H locs ls k n hE (lv_sub hl [2, 3, 4, 0] rfl) hR hS (by omega) (by omega)
            · have hw := hw.2 hc10
              refine lv_aload_n hx hb (xb_d D_M_readModule 105 rfl) rfl (lv_at hl 2 rfl) ?_
              refine lv_bipush (v := 6) hx hb (xb_d D_M_readModule 106 rfl) (by decide) ?_
              refine lv_iload hx hb (xb_d D_M_readModule 107 rfl) (lv_at hl 1 rfl) ?_
              have hk1 : xb_k h6 x0 = 9 := hEh6.k hk1
              refine xb_call0 (D := D) (A := A) (σ := σ) (h := h6) (d := 2) (maxL := 3) (rest := []) (av := [.ref x0, .int 6, .int v4]) (fun T hT X => by obtain ⟨cb9, ra9, rb9, rc9⟩ := xb_recv (ci := 8) hR rfl hk1 (by decide); exact xt_invV X hx hown (hts _ m_939052ad) (hts _ m_29cc8c73) (hts _ m_3b1ac7ab) (xt_sigOf (hts _ m_8f062ecd)) nm_M_fail (by rw [hT]; exact ra9) rb9 rc9 (g := F0 m 176 ls [.int v4, .int 6, .ref x0]) rfl (argsL := [.int 6, .int v4]) (rest := []) rfl rfl (by rw [hb]; exact (xb_d D_M_readModule 108 rfl))) (ok_M_fail l hfl D A σ x0 6 v4 h6 _ hw) (hml.trans hl.1.symm) (by rw [hb]; exact (xb_d D_M_readModule 108 rfl)) (Nat.le_of_ble_eq_true rfl) (Nat.le_of_ble_eq_true rfl) (Nat.le_of_ble_eq_true rfl) (show k ≤ MC by omega) (show n ≤ MS by omega) (xt_w1 hB.1 m_8f062ecd) (xt_cdOf hB.1 m_8f062ecd) (hts _ m_d5ed7bed) hB hR hS hA (fun vv h11 H locs hq hEh11 hR hS => ?_)
              obtain ⟨rfl, hw⟩ := hq
              have hw := hw hEh11
              have hE := hE.tr hEh11
              refine W.eq (g2 := F0 m 179 ls []) rfl ?_
              exact am_M_readModule_L179 l hfl D A σ MC MS h0 Qr (w_M_readModule_L111 Qr n9) ih x0 x1 x3 r7 h11 bc bs hw p e s m args below meth c hC H locs ls k n hE (lv_sub hl [2, 3, 4, 0] rfl) hR hS (by omega) (by omega)
        · have hw := hw.2 hc8
          refine lv_aload_n hx hb (xb_d D_M_readModule 95 rfl) rfl (lv_at hl 2 rfl) ?_
          refine lv_iconst (v := 5) hx hb (xb_d D_M_readModule 96 rfl) (by decide) ?_
          refine lv_iload hx hb (xb_d D_M_readModule 97 rfl) (lv_at hl 1 rfl) ?_
          have hk1 : xb_k h6 x0 = 9 := hEh6.k hk1
          refine xb_call0 (D := D) (A := A) (σ := σ) (h := h6) (d := 2) (maxL := 3) (rest := []) (av := [.ref x0, .int 5, .int v4]) (fun T hT X => by obtain ⟨cb9, ra9, rb9, rc9⟩ := xb_recv (ci := 8) hR rfl hk1 (by decide); exact xt_invV X hx hown (hts _ m_939052ad) (hts _ m_29cc8c73) (hts _ m_3b1ac7ab) (xt_sigOf (hts _ m_8f062ecd)) nm_M_fail (by rw [hT]; exact ra9) rb9 rc9 (g := F0 m 154 ls [.int v4, .int 5, .ref x0]) rfl (argsL := [.int 5, .int v4]) (rest := []) rfl rfl (by rw [hb]; exact (xb_d D_M_readModule 98 rfl))) (ok_M_fail l hfl D A σ x0 5 v4 h6 _ hw) (hml.trans hl.1.symm) (by rw [hb]; exact (xb_d D_M_readModule 98 rfl)) (Nat.le_of_ble_eq_true rfl) (Nat.le_of_ble_eq_true rfl) (Nat.le_of_ble_eq_true rfl) (show k ≤ MC by omega) (show n ≤ MS by omega) (xt_w1 hB.1 m_8f062ecd) (xt_cdOf hB.1 m_8f062ecd) (hts _ m_d5ed7bed) hB hR hS hA (fun vv h13 H locs hq hEh13 hR hS => ?_)
          obtain ⟨rfl, hw⟩ := hq
          have hw := hw hEh13
          have hE := hE.tr hEh13
          refine W.eq (g2 := F0 m 157 ls []) rfl ?_
          refine lv_goto (tgt := 179) hx hb (xb_d D_M_readModule 99 rfl) rfl ?_
          exact am_M_readModule_L179 l hfl D A σ MC MS h0 Qr (w_M_readModule_L111 Qr n9) ih x0 x1 x3 r7 h13 bc bs hw p e s m args below meth c hC H locs ls k n hE (lv_sub hl [2, 3, 4, 0] rfl) hR hS (by omega) (by omega)

set_option maxHeartbeats 4000000 in
set_option maxRecDepth 100000 in
theorem am_M_readModule_L92 (l : Launch) (hfl : l.flags = pinnedFlags ++ [noTraceFlag]) (D : va_G) (A : Nat → Prop) (σ MC MS : Nat) (h0 : xb_H) (Qr : xb_H → Nat → Nat → Prop) (K44 : Nat → Int32 → Nat → Int32 → xb_H → Nat → Nat → Prop) (hK44 : ∀ (x0 : Nat) (x1 : Int32) (x2 : Nat) (x3 : Int32) (h : xb_H) (bc : Nat) (bs : Nat), K44 x0 x1 x2 x3 h bc bs → xb_am l D A σ 11 MC MS h0 (fun v h bc bs => v = none ∧ Qr h bc bs) (fun _ _ _ _ => False) y_M_readModule.cls y_M_readModule.name b_M_readModule 8 ([] : List ExceptionTableEntry) none 44 [(0, .ref x0), (1, .int x1), (2, .ref x2), (3, .int x3)] [] h bc bs) (x0 : Nat) (x1 : Int32) (x2 : Nat) (x3 : Int32) (h : xb_H) (bc : Nat) (bs : Nat) (hw : w_M_readModule_L92 K44 Qr x0 x1 x2 x3 h bc bs) : xb_am l D A σ 11 MC MS h0 (fun v h bc bs => v = none ∧ Qr h bc bs) (fun _ _ _ _ => False) y_M_readModule.cls y_M_readModule.name b_M_readModule 8 ([] : List ExceptionTableEntry) none 92 [(0, .ref x0), (1, .int x1), (2, .ref x2), (3, .int x3)] [] h bc bs := by
  unfold w_M_readModule_L92 at hw
  intro p e s m args below meth c hC H locs ls k n hE hl hR hS hk hn
  obtain ⟨hx, hb, hown, hlocks, htab, hml, hr, hB, hA, hnm⟩ := id hC
  have hts := hB.1.1.at args
  refine lv_iinc (v := (x3 + 1)) (k := 3) hx hb (xb_d D_M_readModule 66 rfl) hl rfl (by first | rfl | decide) (by decide) rfl (fun ls hl => ?_)
  have hl : lv_has ls 8 [(3, .int (x3 + 1)), (0, .ref x0), (1, .int x1), (2, .ref x2)] := hl
  refine lv_goto (tgt := 44) hx hb (xb_d D_M_readModule 67 rfl) rfl ?_
  exact hK44 x0 x1 x2 (x3 + 1) h bc bs hw p e s m args below meth c hC H locs ls k n hE (lv_sub hl [1, 2, 3, 0] rfl) hR hS (by omega) (by omega)

set_option maxHeartbeats 4000000 in
set_option maxRecDepth 100000 in
theorem am_M_readModule_L81 (l : Launch) (hfl : l.flags = pinnedFlags ++ [noTraceFlag]) (D : va_G) (A : Nat → Prop) (σ MC MS : Nat) (h0 : xb_H) (Qr : xb_H → Nat → Nat → Prop) (K44 : Nat → Int32 → Nat → Int32 → xb_H → Nat → Nat → Prop) (hK44 : ∀ (x0 : Nat) (x1 : Int32) (x2 : Nat) (x3 : Int32) (h : xb_H) (bc : Nat) (bs : Nat), K44 x0 x1 x2 x3 h bc bs → xb_am l D A σ 11 MC MS h0 (fun v h bc bs => v = none ∧ Qr h bc bs) (fun _ _ _ _ => False) y_M_readModule.cls y_M_readModule.name b_M_readModule 8 ([] : List ExceptionTableEntry) none 44 [(0, .ref x0), (1, .int x1), (2, .ref x2), (3, .int x3)] [] h bc bs) (x0 : Nat) (x1 : Int32) (x2 : Nat) (x3 : Int32) (h : xb_H) (bc : Nat) (bs : Nat) (hw : w_M_readModule_L81 K44 Qr x0 x1 x2 x3 h bc bs) : xb_am l D A σ 11 MC MS h0 (fun v h bc bs => v = none ∧ Qr h bc bs) (fun _ _ _ _ => False) y_M_readModule.cls y_M_readModule.name b_M_readModule 8 ([] : List ExceptionTableEntry) none 81 [(0, .ref x0), (1, .int x1), (2, .ref x2), (3, .int x3)] [] h bc bs := by
  unfold w_M_readModule_L81 at hw
  intro p e s m args below meth c hC H locs ls k n hE hl hR hS hk hn
  obtain ⟨hx, hb, hown, hlocks, htab, hml, hr, hB, hA, hnm⟩ := id hC
  have hts := hB.1.1.at args
  refine lv_aload_n hx hb (xb_d D_M_readModule 59 rfl) rfl (lv_at hl 0 rfl) ?_
  refine lv_iconst (v := 1) hx hb (xb_d D_M_readModule 60 rfl) (by decide) ?_
  refine lv_aload_n hx hb (xb_d D_M_readModule 61 rfl) rfl (lv_at hl 0 rfl) ?_
  obtain ⟨hk1, hw⟩ := hw
  refine xb_getI (C := R_M) (T := F_M) (N := 97) hx hb 8 14 hts fin_M hown hR hk1 (by decide) rfl (by decide) rfl (hts _ m_a8fce005) (fun _ h9 => h9) (xb_d D_M_readModule 62 rfl) ?_
  refine lv_iload_n hx hb (xb_d D_M_readModule 63 rfl) rfl (lv_at hl 3 rfl) ?_
  refine lv_iadd hx hb (xb_d D_M_readModule 64 rfl) ?_
  refine xb_call0 (D := D) (A := A) (σ := σ) (h := h) (d := 2) (maxL := 3) (rest := []) (av := [.ref x0, .int 1, .int ((xb_i h x0 14) + x3)]) (fun T hT X => by obtain ⟨cb9, ra9, rb9, rc9⟩ := xb_recv (ci := 8) hR rfl hk1 (by decide); exact xt_invV X hx hown (hts _ m_939052ad) (hts _ m_29cc8c73) (hts _ m_3b1ac7ab) (xt_sigOf (hts _ m_8f062ecd)) nm_M_fail (by rw [hT]; exact ra9) rb9 rc9 (g := F0 m 89 ls [.int ((xb_i h x0 14) + x3), .int 1, .ref x0]) rfl (argsL := [.int 1, .int ((xb_i h x0 14) + x3)]) (rest := []) rfl rfl (by rw [hb]; exact (xb_d D_M_readModule 65 rfl))) (ok_M_fail l hfl D A σ x0 1 ((xb_i h x0 14) + x3) h _ hw) (hml.trans hl.1.symm) (by rw [hb]; exact (xb_d D_M_readModule 65 rfl)) (Nat.le_of_ble_eq_true rfl) (Nat.le_of_ble_eq_true rfl) (Nat.le_of_ble_eq_true rfl) (show k ≤ MC by omega) (show n ≤ MS by omega) (xt_w1 hB.1 m_8f062ecd) (xt_cdOf hB.1 m_8f062ecd) (hts _ m_d5ed7bed) hB hR hS hA (fun vv h2 H locs hq hEh2 hR hS => ?_)
  obtain ⟨rfl, hw⟩ := hq
  have hw := hw hEh2
  have hE := hE.tr hEh2
  refine W.eq (g2 := F0 m 92 ls []) rfl ?_
  exact am_M_readModule_L92 l hfl D A σ MC MS h0 Qr K44 hK44 x0 x1 x2 x3 h2 bc bs hw p e s m args below meth c hC H locs ls k n hE (lv_sub hl [0, 1, 2, 3] rfl) hR hS (by omega) (by omega)

set_option maxHeartbeats 4000000 in
set_option maxRecDepth 100000 in
theorem am_M_readModule_L44 (l : Launch) (hfl : l.flags = pinnedFlags ++ [noTraceFlag]) (D : va_G) (A : Nat → Prop) (σ MC MS : Nat) (h0 : xb_H) (Qr : xb_H → Nat → Nat → Prop) (n9 : Nat) : ∀ (x0 : Nat) (x1 : Int32) (x2 : Nat) (x3 : Int32) (h : xb_H) (bc : Nat) (bs : Nat), w_M_readModule_L44 Qr n9 x0 x1 x2 x3 h bc bs → xb_am l D A σ 11 MC MS h0 (fun v h bc bs => v = none ∧ Qr h bc bs) (fun _ _ _ _ => False) y_M_readModule.cls y_M_readModule.name b_M_readModule 8 ([] : List ExceptionTableEntry) none 44 [(0, .ref x0), (1, .int x1), (2, .ref x2), (3, .int x3)] [] h bc bs := by
  induction n9 with
  | zero => intro x0 x1 x2 x3 h bc bs hw; exact False.elim hw
  | succ n9 ih =>
    intro x0 x1 x2 x3 h bc bs hw
    unfold w_M_readModule_L44 at hw
    intro p e s m args below meth c hC H locs ls k n hE hl hR hS hk hn
    obtain ⟨hx, hb, hown, hlocks, htab, hml, hr, hB, hA, hnm⟩ := id hC
    have hts := hB.1.1.at args
    refine lv_iload_n hx hb (xb_d D_M_readModule 37 rfl) rfl (lv_at hl 3 rfl) ?_
    refine lv_bipush (v := 8) hx hb (xb_d D_M_readModule 38 rfl) (by decide) ?_
    refine lv_icmp_ge (tgt := 98) hx hb (xb_d D_M_readModule 39 rfl) rfl (fun hc1 => ?_) (fun hc1 => ?_)
    · have hw := hw.1 hc1
      refine lv_aload_n hx hb (xb_d D_M_readModule 68 rfl) rfl (lv_at hl 0 rfl) ?_
      refine lv_aload_n hx hb (xb_d D_M_readModule 69 rfl) rfl (lv_at hl 0 rfl) ?_
      obtain ⟨hk2, hw⟩ := hw
      refine xb_getI (C := R_M) (T := F_M) (N := 97) hx hb 8 14 hts fin_M hown hR hk2 (by decide) rfl (by decide) rfl (hts _ m_a8fce005) (fun _ h9 => h9) (xb_d D_M_readModule 70 rfl) ?_
      refine lv_bipush (v := 8) hx hb (xb_d D_M_readModule 71 rfl) (by decide) ?_
      refine lv_iadd hx hb (xb_d D_M_readModule 72 rfl) ?_
      refine xb_putI (C := R_M) (T := F_M) (N := 97) (ty := .int) (x := ((xb_i h x0 14) + 8)) hx hb 8 15 hts fin_M t_M t_M_ok n_M hown hR hS hk2 (by decide) rfl (by decide) rfl (hts _ m_6c2d27ad) (fun _ h9 => h9) rfl (by decide +kernel) rfl rfl (xb_d D_M_readModule 73 rfl) (fun H locs hR hS => ?_)
      obtain ⟨h3, eh3⟩ : ∃ x : xb_H, x = xb_I h x0 15 ((xb_i h x0 14) + 8) := ⟨_, rfl⟩
      rw [← eh3] at hR
      have hw := hw h3 eh3
      have hE : xb_ext h0 h3 := by rw [eh3]; exact hE
      refine lv_iconst (v := 0) hx hb (xb_d D_M_readModule 74 rfl) (by decide) ?_
      refine lv_istore_n hx hb (xb_d D_M_readModule 75 rfl) rfl hl (by decide) rfl (fun ls hl => ?_)
      have hl : lv_has ls 8 [(3, .int 0), (0, .ref x0), (1, .int x1), (2, .ref x2)] := hl
      obtain ⟨n8, hw⟩ := hw
      exact am_M_readModule_L111 l hfl D A σ MC MS h0 Qr n8 x0 x1 0 h3 bc bs hw p e s m args below meth c hC H locs ls k n hE (lv_sub hl [1, 2, 0] rfl) hR hS (by omega) (by omega)
    · have hw := hw.2 hc1
      refine lv_aload_n hx hb (xb_d D_M_readModule 40 rfl) rfl (lv_at hl 0 rfl) ?_
      obtain ⟨hk4, hw⟩ := hw
      refine xb_getI (C := R_M) (T := F_M) (N := 97) hx hb 8 14 hts fin_M hown hR hk4 (by decide) rfl (by decide) rfl (hts _ m_a8fce005) (fun _ h9 => h9) (xb_d D_M_readModule 41 rfl) ?_
      refine lv_iload_n hx hb (xb_d D_M_readModule 42 rfl) rfl (lv_at hl 3 rfl) ?_
      refine lv_iadd hx hb (xb_d D_M_readModule 43 rfl) ?_
      refine lv_iload_n hx hb (xb_d D_M_readModule 44 rfl) rfl (lv_at hl 1 rfl) ?_
      refine lv_icmp_ge (tgt := 81) hx hb (xb_d D_M_readModule 45 rfl) rfl (fun hc5 => ?_) (fun hc5 => ?_)
      · have hw := hw.1 hc5
        exact am_M_readModule_L81 l hfl D A σ MC MS h0 Qr (w_M_readModule_L44 Qr n9) ih x0 x1 x2 x3 h bc bs hw p e s m args below meth c hC H locs ls k n hE (lv_sub hl [0, 1, 2, 3] rfl) hR hS (by omega) (by omega)
      · have hw := hw.2 hc5
        refine lv_aload_n hx hb (xb_d D_M_readModule 46 rfl) rfl (lv_at hl 0 rfl) ?_
        refine xb_getP (C := R_M) (T := F_M) (N := 97) hx hb 8 3 hts fin_M hown hR hk4 (by decide) rfl (by decide) rfl (hts _ m_4f0568af) (fun _ h9 => h9) (xb_d D_M_readModule 47 rfl) ?_
        obtain ⟨b6, eb6, hw⟩ := hw
        refine xb_some eb6 ?_
        refine lv_aload_n hx hb (xb_d D_M_readModule 48 rfl) rfl (lv_at hl 0 rfl) ?_
        refine xb_getI (C := R_M) (T := F_M) (N := 97) hx hb 8 14 hts fin_M hown hR hk4 (by decide) rfl (by decide) rfl (hts _ m_a8fce005) (fun _ h9 => h9) (xb_d D_M_readModule 49 rfl) ?_
        refine lv_iload_n hx hb (xb_d D_M_readModule 50 rfl) rfl (lv_at hl 3 rfl) ?_
        refine lv_iadd hx hb (xb_d D_M_readModule 51 rfl) ?_
        obtain ⟨hk8, hw⟩ := hw
        obtain ⟨hi7, hw⟩ := hw
        refine xb_bald hx hb hR hk8 hi7 (xb_d D_M_readModule 52 rfl) ?_
        refine lv_sipush (v := 255) hx hb (xb_d D_M_readModule 53 rfl) (by decide) ?_
        refine lv_iand hx hb (xb_d D_M_readModule 54 rfl) ?_
        refine lv_aload_n hx hb (xb_d D_M_readModule 55 rfl) rfl (lv_at hl 2 rfl) ?_
        refine lv_iload_n hx hb (xb_d D_M_readModule 56 rfl) rfl (lv_at hl 3 rfl) ?_
        obtain ⟨hk10, hw⟩ := hw
        obtain ⟨hi9, hw⟩ := hw
        refine xb_iald hx hb hR hk10 hi9 (xb_d D_M_readModule 57 rfl) ?_
        refine lv_icmp_eq (tgt := 92) hx hb (xb_d D_M_readModule 58 rfl) rfl (fun hc11 => ?_) (fun hc11 => ?_)
        · have hw := hw.1 hc11
          exact am_M_readModule_L92 l hfl D A σ MC MS h0 Qr (w_M_readModule_L44 Qr n9) ih x0 x1 x2 x3 h bc bs hw p e s m args below meth c hC H locs ls k n hE (lv_sub hl [0, 1, 2, 3] rfl) hR hS (by omega) (by omega)
        · have hw := hw.2 hc11
          exact am_M_readModule_L81 l hfl D A σ MC MS h0 Qr (w_M_readModule_L44 Qr n9) ih x0 x1 x2 x3 h bc bs hw p e s m args below meth c hC H locs ls k n hE (lv_sub hl [0, 1, 2, 3] rfl) hR hS (by omega) (by omega)

set_option maxHeartbeats 4000000 in
set_option maxRecDepth 100000 in
theorem ok_M_readModule (l : Launch) (hfl : l.flags = pinnedFlags ++ [noTraceFlag]) (D : va_G) (A : Nat → Prop) (σ : Nat) (x0 : Nat) (x1 : Int32) (h : xb_H) (bc : Nat) (bs : Nat) (Qr : xb_H → Nat → Nat → Prop) (hw : w_M_readModule x0 x1 h bc bs Qr) : xb_Met l y_M_readModule [.code y_M_readModule b_M_readModule 8 none] (xb_rm 11 bc bs) (xb_Pc D A σ h [.ref x0, .int x1]) (xb_Qc D A h bc bs (fun v h bc bs => v = none ∧ Qr h bc bs) (fun _ _ _ _ => False)) A := by
  refine xb_ofAm (cc := b_M_readModule) (by decide) (Nat.le_of_ble_eq_true rfl) ?_
  unfold w_M_readModule at hw
  show xb_am l D A σ 11 bc bs h (fun v h bc bs => v = none ∧ Qr h bc bs) (fun _ _ _ _ => False) y_M_readModule.cls y_M_readModule.name b_M_readModule 8 ([] : List ExceptionTableEntry) none 0 [(0, .ref x0), (1, .int x1)] [] h bc bs
  obtain ⟨MC, hMC⟩ : ∃ x, x = bc := ⟨_, rfl⟩
  obtain ⟨MS, hMS⟩ : ∃ x, x = bs := ⟨_, rfl⟩
  rw [show xb_am l D A σ 11 bc bs = xb_am l D A σ 11 MC MS by rw [hMC, hMS]]
  obtain ⟨h0, hh0⟩ : ∃ x, x = h := ⟨_, rfl⟩
  rw [show xb_am l D A σ 11 MC MS h = xb_am l D A σ 11 MC MS h0 by rw [hh0]]
  intro p e s m args below meth c hC H locs ls k n hE hl hR hS hk hn
  obtain ⟨hx, hb, hown, hlocks, htab, hml, hr, hB, hA, hnm⟩ := id hC
  have hts := hB.1.1.at args
  refine lv_bipush (v := 8) hx hb (xb_d D_M_readModule 0 rfl) (by decide) ?_
  obtain ⟨hcq1, hsq1, hw⟩ := hw
  have enq1 : (8 : Int32).toNatClampNeg = 8 := by decide
  refine xb_newa_i hx hb (hts _ m_d160d5ac) hR hS hA (by decide) (by decide +kernel) (show k + 1 ≤ MC by omega) (show n + _ ≤ MS by rw [enq1]; omega) (xb_d D_M_readModule 1 rfl) (fun q1 H hqq1 hR hS => ?_)
  rw [enq1] at hR ⊢
  have hw := hw q1 hqq1
  obtain ⟨h2, eh2⟩ : ∃ x : xb_H, x = xb_new h q1 102 8 := ⟨_, rfl⟩
  rw [← eh2] at hR
  have hw := hw h2 eh2
  have hE : xb_ext h0 h2 := by rw [eh2]; exact hE.new _ _ hqq1
  have hk3 : xb_k h2 q1 = 102 := by rw [eh2]; exact xb_new_k _ _ _ _
  refine lv_dup hx hb (xb_d D_M_readModule 2 rfl) rfl ?_
  refine lv_iconst (v := 0) hx hb (xb_d D_M_readModule 3 rfl) (by decide) ?_
  refine lv_iconst (v := 0) hx hb (xb_d D_M_readModule 4 rfl) (by decide) ?_
  obtain ⟨hi4, hw⟩ := hw
  refine xb_iast hx hb hR hS hk3 hi4 (xb_d D_M_readModule 5 rfl) (fun H locs hR hS => ?_)
  obtain ⟨h5, eh5⟩ : ∃ x : xb_H, x = xb_I h2 q1 (Int32.toNatClampNeg 0) 0 := ⟨_, rfl⟩
  rw [← eh5] at hR
  have hw := hw h5 eh5
  have hE : xb_ext h0 h5 := by rw [eh5]; exact hE
  refine lv_dup hx hb (xb_d D_M_readModule 6 rfl) rfl ?_
  refine lv_iconst (v := 1) hx hb (xb_d D_M_readModule 7 rfl) (by decide) ?_
  refine lv_bipush (v := 97) hx hb (xb_d D_M_readModule 8 rfl) (by decide) ?_
  have hk3 : xb_k h5 q1 = 102 := by rw [eh5]; exact hk3
  obtain ⟨hi6, hw⟩ := hw
  refine xb_iast hx hb hR hS hk3 hi6 (xb_d D_M_readModule 9 rfl) (fun H locs hR hS => ?_)
  obtain ⟨h7, eh7⟩ : ∃ x : xb_H, x = xb_I h5 q1 (Int32.toNatClampNeg 1) 97 := ⟨_, rfl⟩
  rw [← eh7] at hR
  have hw := hw h7 eh7
  have hE : xb_ext h0 h7 := by rw [eh7]; exact hE
  refine lv_dup hx hb (xb_d D_M_readModule 10 rfl) rfl ?_
  refine lv_iconst (v := 2) hx hb (xb_d D_M_readModule 11 rfl) (by decide) ?_
  refine lv_bipush (v := 115) hx hb (xb_d D_M_readModule 12 rfl) (by decide) ?_
  have hk3 : xb_k h7 q1 = 102 := by rw [eh7]; exact hk3
  obtain ⟨hi8, hw⟩ := hw
  refine xb_iast hx hb hR hS hk3 hi8 (xb_d D_M_readModule 13 rfl) (fun H locs hR hS => ?_)
  obtain ⟨h9, eh9⟩ : ∃ x : xb_H, x = xb_I h7 q1 (Int32.toNatClampNeg 2) 115 := ⟨_, rfl⟩
  rw [← eh9] at hR
  have hw := hw h9 eh9
  have hE : xb_ext h0 h9 := by rw [eh9]; exact hE
  refine lv_dup hx hb (xb_d D_M_readModule 14 rfl) rfl ?_
  refine lv_iconst (v := 3) hx hb (xb_d D_M_readModule 15 rfl) (by decide) ?_
  refine lv_bipush (v := 109) hx hb (xb_d D_M_readModule 16 rfl) (by decide) ?_
  have hk3 : xb_k h9 q1 = 102 := by rw [eh9]; exact hk3
  obtain ⟨hi10, hw⟩ := hw
  refine xb_iast hx hb hR hS hk3 hi10 (xb_d D_M_readModule 17 rfl) (fun H locs hR hS => ?_)
  obtain ⟨h11, eh11⟩ : ∃ x : xb_H, x = xb_I h9 q1 (Int32.toNatClampNeg 3) 109 := ⟨_, rfl⟩
  rw [← eh11] at hR
  have hw := hw h11 eh11
  have hE : xb_ext h0 h11 := by rw [eh11]; exact hE
  refine lv_dup hx hb (xb_d D_M_readModule 18 rfl) rfl ?_
  refine lv_iconst (v := 4) hx hb (xb_d D_M_readModule 19 rfl) (by decide) ?_
  refine lv_iconst (v := 1) hx hb (xb_d D_M_readModule 20 rfl) (by decide) ?_
  have hk3 : xb_k h11 q1 = 102 := by rw [eh11]; exact hk3
  obtain ⟨hi12, hw⟩ := hw
  refine xb_iast hx hb hR hS hk3 hi12 (xb_d D_M_readModule 21 rfl) (fun H locs hR hS => ?_)
  obtain ⟨h13, eh13⟩ : ∃ x : xb_H, x = xb_I h11 q1 (Int32.toNatClampNeg 4) 1 := ⟨_, rfl⟩
  rw [← eh13] at hR
  have hw := hw h13 eh13
  have hE : xb_ext h0 h13 := by rw [eh13]; exact hE
  refine lv_dup hx hb (xb_d D_M_readModule 22 rfl) rfl ?_
  refine lv_iconst (v := 5) hx hb (xb_d D_M_readModule 23 rfl) (by decide) ?_
  refine lv_iconst (v := 0) hx hb (xb_d D_M_readModule 24 rfl) (by decide) ?_
  have hk3 : xb_k h13 q1 = 102 := by rw [eh13]; exact hk3
  obtain ⟨hi14, hw⟩ := hw
  refine xb_iast hx hb hR hS hk3 hi14 (xb_d D_M_readModule 25 rfl) (fun H locs hR hS => ?_)
  obtain ⟨h15, eh15⟩ : ∃ x : xb_H, x = xb_I h13 q1 (Int32.toNatClampNeg 5) 0 := ⟨_, rfl⟩
  rw [← eh15] at hR
  have hw := hw h15 eh15
  have hE : xb_ext h0 h15 := by rw [eh15]; exact hE
  refine lv_dup hx hb (xb_d D_M_readModule 26 rfl) rfl ?_
  refine lv_bipush (v := 6) hx hb (xb_d D_M_readModule 27 rfl) (by decide) ?_
  refine lv_iconst (v := 0) hx hb (xb_d D_M_readModule 28 rfl) (by decide) ?_
  have hk3 : xb_k h15 q1 = 102 := by rw [eh15]; exact hk3
  obtain ⟨hi16, hw⟩ := hw
  refine xb_iast hx hb hR hS hk3 hi16 (xb_d D_M_readModule 29 rfl) (fun H locs hR hS => ?_)
  obtain ⟨h17, eh17⟩ : ∃ x : xb_H, x = xb_I h15 q1 (Int32.toNatClampNeg 6) 0 := ⟨_, rfl⟩
  rw [← eh17] at hR
  have hw := hw h17 eh17
  have hE : xb_ext h0 h17 := by rw [eh17]; exact hE
  refine lv_dup hx hb (xb_d D_M_readModule 30 rfl) rfl ?_
  refine lv_bipush (v := 7) hx hb (xb_d D_M_readModule 31 rfl) (by decide) ?_
  refine lv_iconst (v := 0) hx hb (xb_d D_M_readModule 32 rfl) (by decide) ?_
  have hk3 : xb_k h17 q1 = 102 := by rw [eh17]; exact hk3
  obtain ⟨hi18, hw⟩ := hw
  refine xb_iast hx hb hR hS hk3 hi18 (xb_d D_M_readModule 33 rfl) (fun H locs hR hS => ?_)
  obtain ⟨h19, eh19⟩ : ∃ x : xb_H, x = xb_I h17 q1 (Int32.toNatClampNeg 7) 0 := ⟨_, rfl⟩
  rw [← eh19] at hR
  have hw := hw h19 eh19
  have hE : xb_ext h0 h19 := by rw [eh19]; exact hE
  refine lv_astore_n hx hb (xb_d D_M_readModule 34 rfl) rfl hl (by decide) rfl (fun ls hl => ?_)
  have hl : lv_has ls 8 [(2, .ref q1), (0, .ref x0), (1, .int x1)] := hl
  refine lv_iconst (v := 0) hx hb (xb_d D_M_readModule 35 rfl) (by decide) ?_
  refine lv_istore_n hx hb (xb_d D_M_readModule 36 rfl) rfl hl (by decide) rfl (fun ls hl => ?_)
  have hl : lv_has ls 8 [(3, .int 0), (2, .ref q1), (0, .ref x0), (1, .int x1)] := hl
  obtain ⟨n8, hw⟩ := hw
  exact am_M_readModule_L44 l hfl D A σ MC MS h0 Qr n8 x0 x1 q1 0 h19 (bc - 1) (bs - 8) hw p e s m args below meth c hC H locs ls (k + 1) (n + 8) hE (lv_sub hl [2, 3, 1, 0] rfl) hR hS (by omega) (by omega)

theorem m_10645790 : (.methodLink "StackHostModel" 422 y_M_checkInstruction : Cond) ∈ xt_tbl := xt_in (xt_t11 (List.mem_of_getElem? (i := 157) (by decide +kernel))) (by decide +kernel)
theorem m_2345321f : (.instanceMethod y_M_checkInstruction : Cond) ∈ xt_tbl := xt_in (xt_t11 (List.mem_of_getElem? (i := 159) (by decide +kernel))) (by decide +kernel)
theorem m_a4ac972c : (.selects "StackHostModel" y_M_checkInstruction y_M_checkInstruction : Cond) ∈ xt_tbl := xt_in (xt_v11 (q := (⟨"StackHostModel", "checkInstruction", "(II)V"⟩, 97)) (List.mem_of_getElem? (i := 15) (by decide +kernel))) (by decide +kernel)
theorem m_9ed4e436 : (.code y_M_checkInstruction b_M_checkInstruction 4 none : Cond) ∈ xt_tbl := xt_in (xt_t11 (List.mem_of_getElem? (i := 160) (by decide +kernel))) (by decide +kernel)
theorem nm_M_checkInstruction : xt_nm y_M_checkInstruction 2 := ⟨by decide +kernel, by decide +kernel⟩
set_option maxRecDepth 100000 in
def T_M_checkBody : List (Nat × Instr × Nat) := [(0, .aload_n 0, 1), (1, .iload_n 1, 1), (2, .aload_n 0, 1), (3, .getfield 30, 3), (6, .iconst 4, 1), (7, .iload_n 1, 1), (8, .imul, 1), (9, .iaload, 1), (10, .iload_n 2, 1), (11, .iadd, 1), (12, .invokevirtual 369, 3), (15, .istore_n 3, 1), (16, .aload_n 0, 1), (17, .iload_n 1, 1), (18, .iload_n 3, 1), (19, .invokevirtual 336, 3), (22, .istore 4, 2), (24, .aload_n 0, 1), (25, .iload_n 1, 1), (26, .aload_n 0, 1), (27, .iload_n 1, 1), (28, .bipush 10, 2), (30, .iload_n 2, 1), (31, .invokevirtual 320, 3), (34, .invokevirtual 324, 3), (37, .aload_n 0, 1), (38, .invokevirtual 218, 3), (41, .pop2, 1), (42, .aload_n 0, 1), (43, .iload_n 1, 1), (44, .iload_n 3, 1), (45, .invokevirtual 415, 3), (48, .aload_n 0, 1), (49, .iconst 0, 1), (50, .putfield 390, 3), (53, .aload_n 0, 1), (54, .iconst 0, 1), (55, .putfield 393, 3), (58, .aload_n 0, 1), (59, .iconst 0, 1), (60, .putfield 396, 3), (63, .aload_n 0, 1), (64, .iconst 0, 1), (65, .iload 4, 2), (67, .iload 4, 2), (69, .invokevirtual 418, 3), (72, .aload_n 0, 1), (73, .getfield 396, 3), (76, .ifCond .le 64, 3), (79, .aload_n 0, 1), (80, .getfield 193, 3), (83, .ifCond .ne 57, 3), (86, .aload_n 0, 1), (87, .aload_n 0, 1), (88, .getfield 202, 3), (91, .putfield 399, 3), (94, .aload_n 0, 1), (95, .invokevirtual 212, 3), (98, .istore 5, 2), (100, .aload_n 0, 1), (101, .getfield 202, 3), (104, .istore 6, 2), (106, .aload_n 0, 1), (107, .iload_n 1, 1), (108, .iload 5, 2), (110, .invokevirtual 422, 3), (113, .aload_n 0, 1), (114, .getfield 193, 3), (117, .ifCond .ne 20, 3), (120, .aload_n 0, 1), (121, .iload_n 1, 1), (122, .iload 6, 2), (124, .invokevirtual 324, 3), (127, .aload_n 0, 1), (128, .iload 5, 2), (130, .aload_n 0, 1), (131, .getfield 399, 3), (134, .invokevirtual 259, 3), (137, .goto (-65), 3), (140, .aload_n 0, 1), (141, .getfield 36, 3), (144, .aload_n 0, 1), (145, .getfield 24, 3), (148, .bipush 12, 2), (150, .iload_n 1, 1), (151, .imul, 1), (152, .bipush 10, 2), (154, .iadd, 1), (155, .iaload, 1), (156, .iload_n 2, 1), (157, .iadd, 1), (158, .aload_n 0, 1), (159, .getfield 393, 3), (162, .iastore, 1), (163, .return_, 1)]
theorem D_M_checkBody : ∀ q ∈ T_M_checkBody, decode b_M_checkBody q.1 = .ok (q.2.1, q.2.2) := by decide +kernel

set_option maxHeartbeats 4000000 in
set_option maxRecDepth 100000 in
theorem am_M_checkBody_L140 (l : Launch) (hfl : l.flags = pinnedFlags ++ [noTraceFlag]) (D : va_G) (A : Nat → Prop) (σ MC MS : Nat) (h0 : xb_H) (Qr : xb_H → Prop) (x0 : Nat) (x1 : Int32) (x2 : Int32) (h : xb_H) (hw : w_M_checkBody_L140 Qr x0 x1 x2 h) : xb_am l D A σ 12 MC MS h0 (fun v h _ _ => v = none ∧ Qr h) (fun _ _ _ _ => False) y_M_checkBody.cls y_M_checkBody.name b_M_checkBody 7 ([] : List ExceptionTableEntry) none 140 [(0, .ref x0), (1, .int x1), (2, .int x2)] [] h 0 0 := by
  unfold w_M_checkBody_L140 at hw
  intro p e s m args below meth c hC H locs ls k n hE hl hR hS hk hn
  obtain ⟨hx, hb, hown, hlocks, htab, hml, hr, hB, hA, hnm⟩ := id hC
  have hts := hB.1.1.at args
  refine lv_aload_n hx hb (xb_d D_M_checkBody 79 rfl) rfl (lv_at hl 0 rfl) ?_
  obtain ⟨hk1, hw⟩ := hw
  refine xb_getP (C := R_M) (T := F_M) (N := 97) hx hb 8 12 hts fin_M hown hR hk1 (by decide) rfl (by decide) rfl (hts _ m_82208c1c) (fun _ h9 => h9) (xb_d D_M_checkBody 80 rfl) ?_
  obtain ⟨b2, eb2, hw⟩ := hw
  refine xb_some eb2 ?_
  refine lv_aload_n hx hb (xb_d D_M_checkBody 81 rfl) rfl (lv_at hl 0 rfl) ?_
  refine xb_getP (C := R_M) (T := F_M) (N := 97) hx hb 8 8 hts fin_M hown hR hk1 (by decide) rfl (by decide) rfl (hts _ m_7cc4ea11) (fun _ h9 => h9) (xb_d D_M_checkBody 82 rfl) ?_
  obtain ⟨b3, eb3, hw⟩ := hw
  refine xb_some eb3 ?_
  refine lv_bipush (v := 12) hx hb (xb_d D_M_checkBody 83 rfl) (by decide) ?_
  refine lv_iload_n hx hb (xb_d D_M_checkBody 84 rfl) rfl (lv_at hl 1 rfl) ?_
  refine lv_imul hx hb (xb_d D_M_checkBody 85 rfl) ?_
  refine lv_bipush (v := 10) hx hb (xb_d D_M_checkBody 86 rfl) (by decide) ?_
  refine lv_iadd hx hb (xb_d D_M_checkBody 87 rfl) ?_
  obtain ⟨hk5, hw⟩ := hw
  obtain ⟨hi4, hw⟩ := hw
  refine xb_iald hx hb hR hk5 hi4 (xb_d D_M_checkBody 88 rfl) ?_
  refine lv_iload_n hx hb (xb_d D_M_checkBody 89 rfl) rfl (lv_at hl 2 rfl) ?_
  refine lv_iadd hx hb (xb_d D_M_checkBody 90 rfl) ?_
  refine lv_aload_n hx hb (xb_d D_M_checkBody 91 rfl) rfl (lv_at hl 0 rfl) ?_
  refine xb_getI (C := R_M) (T := F_M) (N := 97) hx hb 8 23 hts fin_M hown hR hk1 (by decide) rfl (by decide) rfl (hts _ m_bee2a5e5) (fun _ h9 => h9) (xb_d D_M_checkBody 92 rfl) ?_
  obtain ⟨hk6, hw⟩ := hw
  obtain ⟨hi7, hw⟩ := hw
  refine xb_iast hx hb hR hS hk6 hi7 (xb_d D_M_checkBody 93 rfl) (fun H locs hR hS => ?_)
  obtain ⟨h8, eh8⟩ : ∃ x : xb_H, x = xb_I h b2 (Int32.toNatClampNeg ((xb_i h b3 (Int32.toNatClampNeg ((12 * x1) + 10))) + x2)) (xb_i h x0 23) := ⟨_, rfl⟩
  rw [← eh8] at hR
  have hw := hw h8 eh8
  have hE : xb_ext h0 h8 := by rw [eh8]; exact hE
  exact xb_vret 0 0 hx hb hr hlocks (show k + 0 ≤ MC by omega) (show n + 0 ≤ MS by omega) hE hR hS (xb_d D_M_checkBody 94 rfl) hw

set_option maxHeartbeats 4000000 in
set_option maxRecDepth 100000 in
theorem am_M_checkBody_L137 (l : Launch) (hfl : l.flags = pinnedFlags ++ [noTraceFlag]) (D : va_G) (A : Nat → Prop) (σ MC MS : Nat) (h0 : xb_H) (Qr : xb_H → Prop) (K72 : Nat → Int32 → Int32 → xb_H → Prop) (hK72 : ∀ (x0 : Nat) (x1 : Int32) (x2 : Int32) (h : xb_H), K72 x0 x1 x2 h → xb_am l D A σ 12 MC MS h0 (fun v h _ _ => v = none ∧ Qr h) (fun _ _ _ _ => False) y_M_checkBody.cls y_M_checkBody.name b_M_checkBody 7 ([] : List ExceptionTableEntry) none 72 [(0, .ref x0), (1, .int x1), (2, .int x2)] [] h 0 0) (x0 : Nat) (x1 : Int32) (x2 : Int32) (h : xb_H) (hw : w_M_checkBody_L137 K72 Qr x0 x1 x2 h) : xb_am l D A σ 12 MC MS h0 (fun v h _ _ => v = none ∧ Qr h) (fun _ _ _ _ => False) y_M_checkBody.cls y_M_checkBody.name b_M_checkBody 7 ([] : List ExceptionTableEntry) none 137 [(0, .ref x0), (1, .int x1), (2, .int x2)] [] h 0 0 := by
  unfold w_M_checkBody_L137 at hw
  intro p e s m args below meth c hC H locs ls k n hE hl hR hS hk hn
  obtain ⟨hx, hb, hown, hlocks, htab, hml, hr, hB, hA, hnm⟩ := id hC
  have hts := hB.1.1.at args
  refine lv_goto (tgt := 72) hx hb (xb_d D_M_checkBody 78 rfl) rfl ?_
  exact hK72 x0 x1 x2 h hw p e s m args below meth c hC H locs ls k n hE (lv_sub hl [0, 1, 2] rfl) hR hS (by omega) (by omega)

set_option maxHeartbeats 4000000 in
set_option maxRecDepth 100000 in
theorem am_M_checkBody_L72 (l : Launch) (hfl : l.flags = pinnedFlags ++ [noTraceFlag]) (D : va_G) (A : Nat → Prop) (σ MC MS : Nat) (h0 : xb_H) (Qr : xb_H → Prop) (n9 : Nat) : ∀ (x0 : Nat) (x1 : Int32) (x2 : Int32) (h : xb_H), w_M_checkBody_L72 Qr n9 x0 x1 x2 h → xb_am l D A σ 12 MC MS h0 (fun v h _ _ => v = none ∧ Qr h) (fun _ _ _ _ => False) y_M_checkBody.cls y_M_checkBody.name b_M_checkBody 7 ([] : List ExceptionTableEntry) none 72 [(0, .ref x0), (1, .int x1), (2, .int x2)] [] h 0 0 := by
  induction n9 with
  | zero => intro x0 x1 x2 h hw; exact False.elim hw
  | succ n9 ih =>
    intro x0 x1 x2 h hw
    unfold w_M_checkBody_L72 at hw
    intro p e s m args below meth c hC H locs ls k n hE hl hR hS hk hn
    obtain ⟨hx, hb, hown, hlocks, htab, hml, hr, hB, hA, hnm⟩ := id hC
    have hts := hB.1.1.at args
    refine lv_aload_n hx hb (xb_d D_M_checkBody 46 rfl) rfl (lv_at hl 0 rfl) ?_
    obtain ⟨hk1, hw⟩ := hw
    refine xb_getI (C := R_M) (T := F_M) (N := 97) hx hb 8 29 hts fin_M hown hR hk1 (by decide) rfl (by decide) rfl (hts _ m_1024c20b) (fun _ h9 => h9) (xb_d D_M_checkBody 47 rfl) ?_
    refine lv_if_le (tgt := 140) hx hb (xb_d D_M_checkBody 48 rfl) rfl (fun hc2 => ?_) (fun hc2 => ?_)
    · have hw := hw.1 hc2
      exact am_M_checkBody_L140 l hfl D A σ MC MS h0 Qr x0 x1 x2 h hw p e s m args below meth c hC H locs ls k n hE (lv_sub hl [0, 1, 2] rfl) hR hS (by omega) (by omega)
    · have hw := hw.2 hc2
      refine lv_aload_n hx hb (xb_d D_M_checkBody 49 rfl) rfl (lv_at hl 0 rfl) ?_
      refine xb_getI (C := R_M) (T := F_M) (N := 97) hx hb 8 17 hts fin_M hown hR hk1 (by decide) rfl (by decide) rfl (hts _ m_ff69da61) (fun _ h9 => h9) (xb_d D_M_checkBody 50 rfl) ?_
      refine lv_if_ne (tgt := 140) hx hb (xb_d D_M_checkBody 51 rfl) rfl (fun hc3 => ?_) (fun hc3 => ?_)
      · have hw := hw.1 hc3
        exact am_M_checkBody_L140 l hfl D A σ MC MS h0 Qr x0 x1 x2 h hw p e s m args below meth c hC H locs ls k n hE (lv_sub hl [0, 1, 2] rfl) hR hS (by omega) (by omega)
      · have hw := hw.2 hc3
        refine lv_aload_n hx hb (xb_d D_M_checkBody 52 rfl) rfl (lv_at hl 0 rfl) ?_
        refine lv_aload_n hx hb (xb_d D_M_checkBody 53 rfl) rfl (lv_at hl 0 rfl) ?_
        refine xb_getI (C := R_M) (T := F_M) (N := 97) hx hb 8 15 hts fin_M hown hR hk1 (by decide) rfl (by decide) rfl (hts _ m_6c2d27ad) (fun _ h9 => h9) (xb_d D_M_checkBody 54 rfl) ?_
        refine xb_putI (C := R_M) (T := F_M) (N := 97) (ty := .int) (x := (xb_i h x0 15)) hx hb 8 92 hts fin_M t_M t_M_ok n_M hown hR hS hk1 (by decide) rfl (by decide) rfl (hts _ m_14c0c52c) (fun _ h9 => h9) rfl (by decide +kernel) rfl rfl (xb_d D_M_checkBody 55 rfl) (fun H locs hR hS => ?_)
        obtain ⟨h4, eh4⟩ : ∃ x : xb_H, x = xb_I h x0 92 (xb_i h x0 15) := ⟨_, rfl⟩
        rw [← eh4] at hR
        have hw := hw h4 eh4
        have hE : xb_ext h0 h4 := by rw [eh4]; exact hE
        refine lv_aload_n hx hb (xb_d D_M_checkBody 56 rfl) rfl (lv_at hl 0 rfl) ?_
        have hk1 : xb_k h4 x0 = 9 := by rw [eh4]; exact hk1
        refine xb_call0 (D := D) (A := A) (σ := σ) (h := h4) (d := 3) (maxL := 2) (rest := []) (av := [.ref x0]) (fun T hT X => by obtain ⟨cb9, ra9, rb9, rc9⟩ := xb_recv (ci := 8) hR rfl hk1 (by decide); exact xt_invV X hx hown (hts _ m_0e978570) (hts _ m_40099f98) (hts _ m_a7dbfd07) (xt_sigOf (hts _ m_0af1ec6a)) nm_M_next (by rw [hT]; exact ra9) rb9 rc9 (g := F0 m 95 ls [.ref x0]) rfl (argsL := []) (rest := []) rfl rfl (by rw [hb]; exact (xb_d D_M_checkBody 57 rfl))) (ok_M_next l hfl D A σ x0 h4 _ hw) (hml.trans hl.1.symm) (by rw [hb]; exact (xb_d D_M_checkBody 57 rfl)) (Nat.le_of_ble_eq_true rfl) (Nat.le_of_ble_eq_true rfl) (Nat.le_of_ble_eq_true rfl) (show k ≤ MC by omega) (show n ≤ MS by omega) (xt_w1 hB.1 m_0af1ec6a) (xt_cdOf hB.1 m_0af1ec6a) (hts _ m_d5ed7bed) hB hR hS hA (fun vv h5 H locs hq hEh5 hR hS => ?_)
        obtain ⟨r6, rfl, hw⟩ := hq
        have hw := hw hEh5
        have hE := hE.tr hEh5
        refine W.eq (g2 := F0 m 98 ls [.int r6]) rfl ?_
        refine lv_istore hx hb (xb_d D_M_checkBody 58 rfl) hl (by decide) rfl (fun ls hl => ?_)
        have hl : lv_has ls 7 [(5, .int r6), (0, .ref x0), (1, .int x1), (2, .int x2)] := hl
        refine lv_aload_n hx hb (xb_d D_M_checkBody 59 rfl) rfl (lv_at hl 1 rfl) ?_
        have hk1 : xb_k h5 x0 = 9 := hEh5.k hk1
        refine xb_getI (C := R_M) (T := F_M) (N := 97) hx hb 8 15 hts fin_M hown hR hk1 (by decide) rfl (by decide) rfl (hts _ m_6c2d27ad) (fun _ h9 => h9) (xb_d D_M_checkBody 60 rfl) ?_
        obtain ⟨v7, ev7⟩ : ∃ x : Int32, x = (xb_i h5 x0 15) := ⟨_, rfl⟩
        have hw := hw v7 ev7
        refine xt_numi (y := v7) ev7.symm ?_
        refine lv_istore hx hb (xb_d D_M_checkBody 61 rfl) hl (by decide) rfl (fun ls hl => ?_)
        have hl : lv_has ls 7 [(6, .int v7), (5, .int r6), (0, .ref x0), (1, .int x1), (2, .int x2)] := hl
        refine lv_aload_n hx hb (xb_d D_M_checkBody 62 rfl) rfl (lv_at hl 2 rfl) ?_
        refine lv_iload_n hx hb (xb_d D_M_checkBody 63 rfl) rfl (lv_at hl 3 rfl) ?_
        refine lv_iload hx hb (xb_d D_M_checkBody 64 rfl) (lv_at hl 1 rfl) ?_
        refine xb_call0 (D := D) (A := A) (σ := σ) (h := h5) (d := 11) (maxL := 4) (rest := []) (av := [.ref x0, .int x1, .int r6]) (fun T hT X => by obtain ⟨cb9, ra9, rb9, rc9⟩ := xb_recv (ci := 8) hR rfl hk1 (by decide); exact xt_invV X hx hown (hts _ m_10645790) (hts _ m_2345321f) (hts _ m_a4ac972c) (xt_sigOf (hts _ m_9ed4e436)) nm_M_checkInstruction (by rw [hT]; exact ra9) rb9 rc9 (g := F0 m 110 ls [.int r6, .int x1, .ref x0]) rfl (argsL := [.int x1, .int r6]) (rest := []) rfl rfl (by rw [hb]; exact (xb_d D_M_checkBody 65 rfl))) (ok_M_checkInstruction l hfl D A σ x0 x1 r6 h5 _ hw) (hml.trans hl.1.symm) (by rw [hb]; exact (xb_d D_M_checkBody 65 rfl)) (Nat.le_of_ble_eq_true rfl) (Nat.le_of_ble_eq_true rfl) (Nat.le_of_ble_eq_true rfl) (show k ≤ MC by omega) (show n ≤ MS by omega) (xt_w1 hB.1 m_9ed4e436) (xt_cdOf hB.1 m_9ed4e436) (hts _ m_d5ed7bed) hB hR hS hA (fun vv h8 H locs hq hEh8 hR hS => ?_)
        obtain ⟨rfl, hw⟩ := hq
        have hw := hw hEh8
        have hE := hE.tr hEh8
        refine W.eq (g2 := F0 m 113 ls []) rfl ?_
        refine lv_aload_n hx hb (xb_d D_M_checkBody 66 rfl) rfl (lv_at hl 2 rfl) ?_
        have hk1 : xb_k h8 x0 = 9 := hEh8.k hk1
        refine xb_getI (C := R_M) (T := F_M) (N := 97) hx hb 8 17 hts fin_M hown hR hk1 (by decide) rfl (by decide) rfl (hts _ m_ff69da61) (fun _ h9 => h9) (xb_d D_M_checkBody 67 rfl) ?_
        refine lv_if_ne (tgt := 137) hx hb (xb_d D_M_checkBody 68 rfl) rfl (fun hc10 => ?_) (fun hc10 => ?_)
        · have hw := hw.1 hc10
          exact am_M_checkBody_L137 l hfl D A σ MC MS h0 Qr (w_M_checkBody_L72 Qr n9) ih x0 x1 x2 h8 hw p e s m args below meth c hC H locs ls k n hE (lv_sub hl [2, 3, 4] rfl) hR hS (by omega) (by omega)
        · have hw := hw.2 hc10
          refine lv_aload_n hx hb (xb_d D_M_checkBody 69 rfl) rfl (lv_at hl 2 rfl) ?_
          refine lv_iload_n hx hb (xb_d D_M_checkBody 70 rfl) rfl (lv_at hl 3 rfl) ?_
          refine lv_iload hx hb (xb_d D_M_checkBody 71 rfl) (lv_at hl 0 rfl) ?_
          refine xb_call0 (D := D) (A := A) (σ := σ) (h := h8) (d := 2) (maxL := 3) (rest := []) (av := [.ref x0, .int x1, .int v7]) (fun T hT X => by obtain ⟨cb9, ra9, rb9, rc9⟩ := xb_recv (ci := 8) hR rfl hk1 (by decide); exact xt_invV X hx hown (hts _ m_bb531879) (hts _ m_4a6cd4a0) (hts _ m_d1c31e3c) (xt_sigOf (hts _ m_48217fba)) nm_M_go (by rw [hT]; exact ra9) rb9 rc9 (g := F0 m 124 ls [.int v7, .int x1, .ref x0]) rfl (argsL := [.int x1, .int v7]) (rest := []) rfl rfl (by rw [hb]; exact (xb_d D_M_checkBody 72 rfl))) (ok_M_go l hfl D A σ x0 x1 v7 h8 _ hw) (hml.trans hl.1.symm) (by rw [hb]; exact (xb_d D_M_checkBody 72 rfl)) (Nat.le_of_ble_eq_true rfl) (Nat.le_of_ble_eq_true rfl) (Nat.le_of_ble_eq_true rfl) (show k ≤ MC by omega) (show n ≤ MS by omega) (xt_w1 hB.1 m_48217fba) (xt_cdOf hB.1 m_48217fba) (hts _ m_d5ed7bed) hB hR hS hA (fun vv h11 H locs hq hEh11 hR hS => ?_)
          obtain ⟨rfl, hw⟩ := hq
          have hw := hw hEh11
          have hE := hE.tr hEh11
          refine W.eq (g2 := F0 m 127 ls []) rfl ?_
          refine lv_aload_n hx hb (xb_d D_M_checkBody 73 rfl) rfl (lv_at hl 2 rfl) ?_
          refine lv_iload hx hb (xb_d D_M_checkBody 74 rfl) (lv_at hl 1 rfl) ?_
          refine lv_aload_n hx hb (xb_d D_M_checkBody 75 rfl) rfl (lv_at hl 2 rfl) ?_
          have hk1 : xb_k h11 x0 = 9 := hEh11.k hk1
          refine xb_getI (C := R_M) (T := F_M) (N := 97) hx hb 8 92 hts fin_M hown hR hk1 (by decide) rfl (by decide) rfl (hts _ m_14c0c52c) (fun _ h9 => h9) (xb_d D_M_checkBody 76 rfl) ?_
          refine xb_call0 (D := D) (A := A) (σ := σ) (h := h11) (d := 6) (maxL := 4) (rest := []) (av := [.ref x0, .int r6, .int (xb_i h11 x0 92)]) (fun T hT X => by obtain ⟨cb9, ra9, rb9, rc9⟩ := xb_recv (ci := 8) hR rfl hk1 (by decide); exact xt_invV X hx hown (hts _ m_9a2ddc48) (hts _ m_7986a93e) (hts _ m_abba4888) (xt_sigOf (hts _ m_a433953a)) nm_M_written (by rw [hT]; exact ra9) rb9 rc9 (g := F0 m 134 ls [.int (xb_i h11 x0 92), .int r6, .ref x0]) rfl (argsL := [.int r6, .int (xb_i h11 x0 92)]) (rest := []) rfl rfl (by rw [hb]; exact (xb_d D_M_checkBody 77 rfl))) (ok_M_written l hfl D A σ x0 r6 (xb_i h11 x0 92) h11 _ hw) (hml.trans hl.1.symm) (by rw [hb]; exact (xb_d D_M_checkBody 77 rfl)) (Nat.le_of_ble_eq_true rfl) (Nat.le_of_ble_eq_true rfl) (Nat.le_of_ble_eq_true rfl) (show k ≤ MC by omega) (show n ≤ MS by omega) (xt_w1 hB.1 m_a433953a) (xt_cdOf hB.1 m_a433953a) (hts _ m_d5ed7bed) hB hR hS hA (fun vv h13 H locs hq hEh13 hR hS => ?_)
          obtain ⟨rfl, hw⟩ := hq
          have hw := hw hEh13
          have hE := hE.tr hEh13
          refine W.eq (g2 := F0 m 137 ls []) rfl ?_
          exact am_M_checkBody_L137 l hfl D A σ MC MS h0 Qr (w_M_checkBody_L72 Qr n9) ih x0 x1 x2 h13 hw p e s m args below meth c hC H locs ls k n hE (lv_sub hl [2, 3, 4] rfl) hR hS (by omega) (by omega)

set_option maxHeartbeats 4000000 in
set_option maxRecDepth 100000 in
theorem ok_M_checkBody (l : Launch) (hfl : l.flags = pinnedFlags ++ [noTraceFlag]) (D : va_G) (A : Nat → Prop) (σ : Nat) (x0 : Nat) (x1 : Int32) (x2 : Int32) (h : xb_H) (Qr : xb_H → Prop) (hw : w_M_checkBody x0 x1 x2 h Qr) : xb_Met l y_M_checkBody [.code y_M_checkBody b_M_checkBody 7 none] (xb_rm 12 0 0) (xb_Pc D A σ h [.ref x0, .int x1, .int x2]) (xb_Qc D A h 0 0 (fun v h _ _ => v = none ∧ Qr h) (fun _ _ _ _ => False)) A := by
  refine xb_ofAm (cc := b_M_checkBody) (by decide) (Nat.le_of_ble_eq_true rfl) ?_
  unfold w_M_checkBody at hw
  show xb_am l D A σ 12 0 0 h (fun v h _ _ => v = none ∧ Qr h) (fun _ _ _ _ => False) y_M_checkBody.cls y_M_checkBody.name b_M_checkBody 7 ([] : List ExceptionTableEntry) none 0 [(0, .ref x0), (1, .int x1), (2, .int x2)] [] h 0 0
  obtain ⟨MC, hMC⟩ : ∃ x, x = 0 := ⟨_, rfl⟩
  obtain ⟨MS, hMS⟩ : ∃ x, x = 0 := ⟨_, rfl⟩
  rw [show xb_am l D A σ 12 0 0 = xb_am l D A σ 12 MC MS by rw [hMC, hMS]]
  obtain ⟨h0, hh0⟩ : ∃ x, x = h := ⟨_, rfl⟩
  rw [show xb_am l D A σ 12 MC MS h = xb_am l D A σ 12 MC MS h0 by rw [hh0]]
  intro p e s m args below meth c hC H locs ls k n hE hl hR hS hk hn
  obtain ⟨hx, hb, hown, hlocks, htab, hml, hr, hB, hA, hnm⟩ := id hC
  have hts := hB.1.1.at args
  refine lv_aload_n hx hb (xb_d D_M_checkBody 0 rfl) rfl (lv_at hl 0 rfl) ?_
  refine lv_iload_n hx hb (xb_d D_M_checkBody 1 rfl) rfl (lv_at hl 1 rfl) ?_
  refine lv_aload_n hx hb (xb_d D_M_checkBody 2 rfl) rfl (lv_at hl 0 rfl) ?_
  obtain ⟨hk1, hw⟩ := hw
  refine xb_getP (C := R_M) (T := F_M) (N := 97) hx hb 8 10 hts fin_M hown hR hk1 (by decide) rfl (by decide) rfl (hts _ m_01d0d957) (fun _ h9 => h9) (xb_d D_M_checkBody 3 rfl) ?_
  obtain ⟨b2, eb2, hw⟩ := hw
  refine xb_some eb2 ?_
  refine lv_iconst (v := 4) hx hb (xb_d D_M_checkBody 4 rfl) (by decide) ?_
  refine lv_iload_n hx hb (xb_d D_M_checkBody 5 rfl) rfl (lv_at hl 1 rfl) ?_
  refine lv_imul hx hb (xb_d D_M_checkBody 6 rfl) ?_
  obtain ⟨hk4, hw⟩ := hw
  obtain ⟨hi3, hw⟩ := hw
  refine xb_iald hx hb hR hk4 hi3 (xb_d D_M_checkBody 7 rfl) ?_
  refine lv_iload_n hx hb (xb_d D_M_checkBody 8 rfl) rfl (lv_at hl 2 rfl) ?_
  refine lv_iadd hx hb (xb_d D_M_checkBody 9 rfl) ?_
  refine xb_call0 (D := D) (A := A) (σ := σ) (h := h) (d := 8) (maxL := 4) (rest := []) (av := [.ref x0, .int x1, .int ((xb_i h b2 (Int32.toNatClampNeg (4 * x1))) + x2)]) (fun T hT X => by obtain ⟨cb9, ra9, rb9, rc9⟩ := xb_recv (ci := 8) hR rfl hk1 (by decide); exact xt_invV X hx hown (hts _ m_1d203cc1) (hts _ m_0a0483ac) (hts _ m_42615324) (xt_sigOf (hts _ m_44f87caf)) nm_M_typeOf (by rw [hT]; exact ra9) rb9 rc9 (g := F0 m 12 ls [.int ((xb_i h b2 (Int32.toNatClampNeg (4 * x1))) + x2), .int x1, .ref x0]) rfl (argsL := [.int x1, .int ((xb_i h b2 (Int32.toNatClampNeg (4 * x1))) + x2)]) (rest := []) rfl rfl (by rw [hb]; exact (xb_d D_M_checkBody 10 rfl))) (ok_M_typeOf l hfl D A σ x0 x1 ((xb_i h b2 (Int32.toNatClampNeg (4 * x1))) + x2) h _ hw) (hml.trans hl.1.symm) (by rw [hb]; exact (xb_d D_M_checkBody 10 rfl)) (Nat.le_of_ble_eq_true rfl) (Nat.le_of_ble_eq_true rfl) (Nat.le_of_ble_eq_true rfl) (show k ≤ MC by omega) (show n ≤ MS by omega) (xt_w1 hB.1 m_44f87caf) (xt_cdOf hB.1 m_44f87caf) (hts _ m_d5ed7bed) hB hR hS hA (fun vv h5 H locs hq hEh5 hR hS => ?_)
  obtain ⟨r6, rfl, hw⟩ := hq
  have hw := hw hEh5
  have hE := hE.tr hEh5
  refine W.eq (g2 := F0 m 15 ls [.int r6]) rfl ?_
  refine lv_istore_n hx hb (xb_d D_M_checkBody 11 rfl) rfl hl (by decide) rfl (fun ls hl => ?_)
  have hl : lv_has ls 7 [(3, .int r6), (0, .ref x0), (1, .int x1), (2, .int x2)] := hl
  refine lv_aload_n hx hb (xb_d D_M_checkBody 12 rfl) rfl (lv_at hl 1 rfl) ?_
  refine lv_iload_n hx hb (xb_d D_M_checkBody 13 rfl) rfl (lv_at hl 2 rfl) ?_
  refine lv_iload_n hx hb (xb_d D_M_checkBody 14 rfl) rfl (lv_at hl 0 rfl) ?_
  have hk1 : xb_k h5 x0 = 9 := hEh5.k hk1
  refine xb_call0 (D := D) (A := A) (σ := σ) (h := h5) (d := 6) (maxL := 4) (rest := []) (av := [.ref x0, .int x1, .int r6]) (fun T hT X => by obtain ⟨cb9, ra9, rb9, rc9⟩ := xb_recv (ci := 8) hR rfl hk1 (by decide); exact xt_invV X hx hown (hts _ m_bd023100) (hts _ m_d08a9c75) (hts _ m_9ac7cfcb) (xt_sigOf (hts _ m_9dee8e5c)) nm_M_resultOf (by rw [hT]; exact ra9) rb9 rc9 (g := F0 m 19 ls [.int r6, .int x1, .ref x0]) rfl (argsL := [.int x1, .int r6]) (rest := []) rfl rfl (by rw [hb]; exact (xb_d D_M_checkBody 15 rfl))) (ok_M_resultOf l hfl D A σ x0 x1 r6 h5 _ hw) (hml.trans hl.1.symm) (by rw [hb]; exact (xb_d D_M_checkBody 15 rfl)) (Nat.le_of_ble_eq_true rfl) (Nat.le_of_ble_eq_true rfl) (Nat.le_of_ble_eq_true rfl) (show k ≤ MC by omega) (show n ≤ MS by omega) (xt_w1 hB.1 m_9dee8e5c) (xt_cdOf hB.1 m_9dee8e5c) (hts _ m_d5ed7bed) hB hR hS hA (fun vv h7 H locs hq hEh7 hR hS => ?_)
  obtain ⟨r8, rfl, hw⟩ := hq
  have hw := hw hEh7
  have hE := hE.tr hEh7
  refine W.eq (g2 := F0 m 22 ls [.int r8]) rfl ?_
  refine lv_istore hx hb (xb_d D_M_checkBody 16 rfl) hl (by decide) rfl (fun ls hl => ?_)
  have hl : lv_has ls 7 [(4, .int r8), (3, .int r6), (0, .ref x0), (1, .int x1), (2, .int x2)] := hl
  refine lv_aload_n hx hb (xb_d D_M_checkBody 17 rfl) rfl (lv_at hl 2 rfl) ?_
  refine lv_iload_n hx hb (xb_d D_M_checkBody 18 rfl) rfl (lv_at hl 3 rfl) ?_
  refine lv_aload_n hx hb (xb_d D_M_checkBody 19 rfl) rfl (lv_at hl 2 rfl) ?_
  refine lv_iload_n hx hb (xb_d D_M_checkBody 20 rfl) rfl (lv_at hl 3 rfl) ?_
  refine lv_bipush (v := 10) hx hb (xb_d D_M_checkBody 21 rfl) (by decide) ?_
  refine lv_iload_n hx hb (xb_d D_M_checkBody 22 rfl) rfl (lv_at hl 4 rfl) ?_
  have hk1 : xb_k h7 x0 = 9 := hEh7.k hk1
  refine xb_call0 (D := D) (A := A) (σ := σ) (h := h7) (d := 2) (maxL := 4) (rest := [.int x1, .ref x0]) (av := [.ref x0, .int x1, .int 10, .int x2]) (fun T hT X => by obtain ⟨cb9, ra9, rb9, rc9⟩ := xb_recv (ci := 8) hR rfl hk1 (by decide); exact xt_invV X hx hown (hts _ m_7f41753e) (hts _ m_8cdd7108) (hts _ m_e228318f) (xt_sigOf (hts _ m_89667ad5)) nm_M_placeOf (by rw [hT]; exact ra9) rb9 rc9 (g := F0 m 31 ls [.int x2, .int 10, .int x1, .ref x0, .int x1, .ref x0]) rfl (argsL := [.int x1, .int 10, .int x2]) (rest := [.int x1, .ref x0]) rfl rfl (by rw [hb]; exact (xb_d D_M_checkBody 23 rfl))) (ok_M_placeOf l hfl D A σ x0 x1 10 x2 h7 _ hw) (hml.trans hl.1.symm) (by rw [hb]; exact (xb_d D_M_checkBody 23 rfl)) (Nat.le_of_ble_eq_true rfl) (Nat.le_of_ble_eq_true rfl) (Nat.le_of_ble_eq_true rfl) (show k ≤ MC by omega) (show n ≤ MS by omega) (xt_w1 hB.1 m_89667ad5) (xt_cdOf hB.1 m_89667ad5) (hts _ m_d5ed7bed) hB hR hS hA (fun vv h9 H locs hq hEh9 hR hS => ?_)
  obtain ⟨r10, rfl, hw⟩ := hq
  have hw := hw hEh9
  have hE := hE.tr hEh9
  refine W.eq (g2 := F0 m 34 ls [.int r10, .int x1, .ref x0]) rfl ?_
  have hk1 : xb_k h9 x0 = 9 := hEh9.k hk1
  refine xb_call0 (D := D) (A := A) (σ := σ) (h := h9) (d := 2) (maxL := 3) (rest := []) (av := [.ref x0, .int x1, .int r10]) (fun T hT X => by obtain ⟨cb9, ra9, rb9, rc9⟩ := xb_recv (ci := 8) hR rfl hk1 (by decide); exact xt_invV X hx hown (hts _ m_bb531879) (hts _ m_4a6cd4a0) (hts _ m_d1c31e3c) (xt_sigOf (hts _ m_48217fba)) nm_M_go (by rw [hT]; exact ra9) rb9 rc9 (g := F0 m 34 ls [.int r10, .int x1, .ref x0]) rfl (argsL := [.int x1, .int r10]) (rest := []) rfl rfl (by rw [hb]; exact (xb_d D_M_checkBody 24 rfl))) (ok_M_go l hfl D A σ x0 x1 r10 h9 _ hw) (hml.trans hl.1.symm) (by rw [hb]; exact (xb_d D_M_checkBody 24 rfl)) (Nat.le_of_ble_eq_true rfl) (Nat.le_of_ble_eq_true rfl) (Nat.le_of_ble_eq_true rfl) (show k ≤ MC by omega) (show n ≤ MS by omega) (xt_w1 hB.1 m_48217fba) (xt_cdOf hB.1 m_48217fba) (hts _ m_d5ed7bed) hB hR hS hA (fun vv h11 H locs hq hEh11 hR hS => ?_)
  obtain ⟨rfl, hw⟩ := hq
  have hw := hw hEh11
  have hE := hE.tr hEh11
  refine W.eq (g2 := F0 m 37 ls []) rfl ?_
  refine lv_aload_n hx hb (xb_d D_M_checkBody 25 rfl) rfl (lv_at hl 2 rfl) ?_
  have hk1 : xb_k h11 x0 = 9 := hEh11.k hk1
  refine xb_call0 (D := D) (A := A) (σ := σ) (h := h11) (d := 4) (maxL := 5) (rest := []) (av := [.ref x0]) (fun T hT X => by obtain ⟨cb9, ra9, rb9, rc9⟩ := xb_recv (ci := 8) hR rfl hk1 (by decide); exact xt_invV X hx hown (hts _ m_e991293f) (hts _ m_385a74b3) (hts _ m_c9fbcd02) (xt_sigOf (hts _ m_1f53f210)) nm_M_count (by rw [hT]; exact ra9) rb9 rc9 (g := F0 m 38 ls [.ref x0]) rfl (argsL := []) (rest := []) rfl rfl (by rw [hb]; exact (xb_d D_M_checkBody 26 rfl))) (ok_M_count l hfl D A σ x0 h11 _ hw) (hml.trans hl.1.symm) (by rw [hb]; exact (xb_d D_M_checkBody 26 rfl)) (Nat.le_of_ble_eq_true rfl) (Nat.le_of_ble_eq_true rfl) (Nat.le_of_ble_eq_true rfl) (show k ≤ MC by omega) (show n ≤ MS by omega) (xt_w1 hB.1 m_1f53f210) (xt_cdOf hB.1 m_1f53f210) (hts _ m_d5ed7bed) hB hR hS hA (fun vv h13 H locs hq hEh13 hR hS => ?_)
  obtain ⟨r14, rfl, hw⟩ := hq
  have hw := hw hEh13
  have hE := hE.tr hEh13
  refine W.eq (g2 := F0 m 41 ls [.long r14]) rfl ?_
  refine lv_pop2_2 hx hb (xb_d D_M_checkBody 27 rfl) rfl ?_
  refine lv_aload_n hx hb (xb_d D_M_checkBody 28 rfl) rfl (lv_at hl 2 rfl) ?_
  refine lv_iload_n hx hb (xb_d D_M_checkBody 29 rfl) rfl (lv_at hl 3 rfl) ?_
  refine lv_iload_n hx hb (xb_d D_M_checkBody 30 rfl) rfl (lv_at hl 1 rfl) ?_
  have hk1 : xb_k h13 x0 = 9 := hEh13.k hk1
  refine xb_call0 (D := D) (A := A) (σ := σ) (h := h13) (d := 7) (maxL := 13) (rest := []) (av := [.ref x0, .int x1, .int r6]) (fun T hT X => by obtain ⟨cb9, ra9, rb9, rc9⟩ := xb_recv (ci := 8) hR rfl hk1 (by decide); exact xt_invV X hx hown (hts _ m_7c6bb5af) (hts _ m_b69b5f3a) (hts _ m_73be75cf) (xt_sigOf (hts _ m_abfe1d28)) nm_M_readLocals (by rw [hT]; exact ra9) rb9 rc9 (g := F0 m 45 ls [.int r6, .int x1, .ref x0]) rfl (argsL := [.int x1, .int r6]) (rest := []) rfl rfl (by rw [hb]; exact (xb_d D_M_checkBody 31 rfl))) (ok_M_readLocals l hfl D A σ x0 x1 r6 h13 _ hw) (hml.trans hl.1.symm) (by rw [hb]; exact (xb_d D_M_checkBody 31 rfl)) (Nat.le_of_ble_eq_true rfl) (Nat.le_of_ble_eq_true rfl) (Nat.le_of_ble_eq_true rfl) (show k ≤ MC by omega) (show n ≤ MS by omega) (xt_w1 hB.1 m_abfe1d28) (xt_cdOf hB.1 m_abfe1d28) (hts _ m_d5ed7bed) hB hR hS hA (fun vv h15 H locs hq hEh15 hR hS => ?_)
  obtain ⟨rfl, hw⟩ := hq
  have hw := hw hEh15
  have hE := hE.tr hEh15
  refine W.eq (g2 := F0 m 48 ls []) rfl ?_
  refine lv_aload_n hx hb (xb_d D_M_checkBody 32 rfl) rfl (lv_at hl 2 rfl) ?_
  refine lv_iconst (v := 0) hx hb (xb_d D_M_checkBody 33 rfl) (by decide) ?_
  have hk1 : xb_k h15 x0 = 9 := hEh15.k hk1
  refine xb_putI (C := R_M) (T := F_M) (N := 97) (ty := .int) (x := 0) hx hb 8 22 hts fin_M t_M t_M_ok n_M hown hR hS hk1 (by decide) rfl (by decide) rfl (hts _ m_01d0a072) (fun _ h9 => h9) rfl (by decide +kernel) rfl rfl (xb_d D_M_checkBody 34 rfl) (fun H locs hR hS => ?_)
  obtain ⟨h17, eh17⟩ : ∃ x : xb_H, x = xb_I h15 x0 22 0 := ⟨_, rfl⟩
  rw [← eh17] at hR
  have hw := hw h17 eh17
  have hE : xb_ext h0 h17 := by rw [eh17]; exact hE
  refine lv_aload_n hx hb (xb_d D_M_checkBody 35 rfl) rfl (lv_at hl 2 rfl) ?_
  refine lv_iconst (v := 0) hx hb (xb_d D_M_checkBody 36 rfl) (by decide) ?_
  have hk1 : xb_k h17 x0 = 9 := by rw [eh17]; exact hk1
  refine xb_putI (C := R_M) (T := F_M) (N := 97) (ty := .int) (x := 0) hx hb 8 23 hts fin_M t_M t_M_ok n_M hown hR hS hk1 (by decide) rfl (by decide) rfl (hts _ m_bee2a5e5) (fun _ h9 => h9) rfl (by decide +kernel) rfl rfl (xb_d D_M_checkBody 37 rfl) (fun H locs hR hS => ?_)
  obtain ⟨h18, eh18⟩ : ∃ x : xb_H, x = xb_I h17 x0 23 0 := ⟨_, rfl⟩
  rw [← eh18] at hR
  have hw := hw h18 eh18
  have hE : xb_ext h0 h18 := by rw [eh18]; exact hE
  refine lv_aload_n hx hb (xb_d D_M_checkBody 38 rfl) rfl (lv_at hl 2 rfl) ?_
  refine lv_iconst (v := 0) hx hb (xb_d D_M_checkBody 39 rfl) (by decide) ?_
  have hk1 : xb_k h18 x0 = 9 := by rw [eh18]; exact hk1
  refine xb_putI (C := R_M) (T := F_M) (N := 97) (ty := .int) (x := 0) hx hb 8 29 hts fin_M t_M t_M_ok n_M hown hR hS hk1 (by decide) rfl (by decide) rfl (hts _ m_1024c20b) (fun _ h9 => h9) rfl (by decide +kernel) rfl rfl (xb_d D_M_checkBody 40 rfl) (fun H locs hR hS => ?_)
  obtain ⟨h19, eh19⟩ : ∃ x : xb_H, x = xb_I h18 x0 29 0 := ⟨_, rfl⟩
  rw [← eh19] at hR
  have hw := hw h19 eh19
  have hE : xb_ext h0 h19 := by rw [eh19]; exact hE
  refine lv_aload_n hx hb (xb_d D_M_checkBody 41 rfl) rfl (lv_at hl 2 rfl) ?_
  refine lv_iconst (v := 0) hx hb (xb_d D_M_checkBody 42 rfl) (by decide) ?_
  refine lv_iload hx hb (xb_d D_M_checkBody 43 rfl) (lv_at hl 0 rfl) ?_
  refine lv_iload hx hb (xb_d D_M_checkBody 44 rfl) (lv_at hl 0 rfl) ?_
  have hk1 : xb_k h19 x0 = 9 := by rw [eh19]; exact hk1
  refine xb_call0 (D := D) (A := A) (σ := σ) (h := h19) (d := 2) (maxL := 4) (rest := []) (av := [.ref x0, .int 0, .int r8, .int r8]) (fun T hT X => by obtain ⟨cb9, ra9, rb9, rc9⟩ := xb_recv (ci := 8) hR rfl hk1 (by decide); exact xt_invV X hx hown (hts _ m_0edb37db) (hts _ m_fa0a7aa5) (hts _ m_543d90fc) (xt_sigOf (hts _ m_1218889d)) nm_M_begin (by rw [hT]; exact ra9) rb9 rc9 (g := F0 m 69 ls [.int r8, .int r8, .int 0, .ref x0]) rfl (argsL := [.int 0, .int r8, .int r8]) (rest := []) rfl rfl (by rw [hb]; exact (xb_d D_M_checkBody 45 rfl))) (ok_M_begin l hfl D A σ x0 0 r8 r8 h19 _ hw) (hml.trans hl.1.symm) (by rw [hb]; exact (xb_d D_M_checkBody 45 rfl)) (Nat.le_of_ble_eq_true rfl) (Nat.le_of_ble_eq_true rfl) (Nat.le_of_ble_eq_true rfl) (show k ≤ MC by omega) (show n ≤ MS by omega) (xt_w1 hB.1 m_1218889d) (xt_cdOf hB.1 m_1218889d) (hts _ m_d5ed7bed) hB hR hS hA (fun vv h20 H locs hq hEh20 hR hS => ?_)
  obtain ⟨rfl, hw⟩ := hq
  have hw := hw hEh20
  have hE := hE.tr hEh20
  refine W.eq (g2 := F0 m 72 ls []) rfl ?_
  obtain ⟨n8, hw⟩ := hw
  exact am_M_checkBody_L72 l hfl D A σ MC MS h0 Qr n8 x0 x1 x2 h20 hw p e s m args below meth c hC H locs ls k n hE (lv_sub hl [2, 3, 4] rfl) hR hS (by omega) (by omega)

