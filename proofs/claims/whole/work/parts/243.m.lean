theorem m_2c44277c : (.methodLink "StackHostModel" 342 y_M_variableTypeOf : Cond) ∈ xt_tbl := xt_in (xt_t11 (List.mem_of_getElem? (i := 105) (by decide +kernel))) (by decide +kernel)
theorem m_c17c7356 : (.instanceMethod y_M_variableTypeOf : Cond) ∈ xt_tbl := xt_in (xt_t11 (List.mem_of_getElem? (i := 107) (by decide +kernel))) (by decide +kernel)
theorem m_60ae6cf3 : (.selects "StackHostModel" y_M_variableTypeOf y_M_variableTypeOf : Cond) ∈ xt_tbl := xt_in (xt_v11 (q := (⟨"StackHostModel", "variableTypeOf", "(II)I"⟩, 97)) (List.mem_of_getElem? (i := 2) (by decide +kernel))) (by decide +kernel)
theorem m_f93068de : (.code y_M_variableTypeOf b_M_variableTypeOf 4 (some .int) : Cond) ∈ xt_tbl := xt_in (xt_t11 (List.mem_of_getElem? (i := 108) (by decide +kernel))) (by decide +kernel)
theorem nm_M_variableTypeOf : xt_nm y_M_variableTypeOf 2 := ⟨by decide +kernel, by decide +kernel⟩
set_option maxRecDepth 100000 in
def T_M_changes : List (Nat × Instr × Nat) := [(0, .aload_n 0, 1), (1, .iload_n 1, 1), (2, .iload_n 2, 1), (3, .invokevirtual 342, 3), (6, .pop, 1), (7, .aload_n 0, 1), (8, .invokevirtual 212, 3), (11, .iconst 1, 1), (12, .if_icmp .ne 7, 3), (15, .iconst 1, 1), (16, .goto 4, 3), (19, .iconst 0, 1), (20, .ireturn, 1)]
theorem D_M_changes : ∀ q ∈ T_M_changes, decode b_M_changes q.1 = .ok (q.2.1, q.2.2) := by decide +kernel

set_option maxHeartbeats 4000000 in
set_option maxRecDepth 100000 in
theorem am_M_changes_L20 (l : Launch) (hfl : l.flags = pinnedFlags ++ [noTraceFlag]) (D : va_G) (A : Nat → Prop) (σ MC MS : Nat) (h0 : xb_H) (Qr : Int32 → xb_H → Prop) (y0 : Int32) (h : xb_H) (hw : w_M_changes_L20 Qr y0 h) : xb_am l D A σ 9 MC MS h0 (fun v h _ _ => ∃ r, v = some (.int r) ∧ Qr r h) (fun _ _ _ _ => False) y_M_changes.cls y_M_changes.name b_M_changes 3 ([] : List ExceptionTableEntry) (some .boolean) 20 [] [.int y0] h 0 0 := by
  unfold w_M_changes_L20 at hw
  intro p e s m args below meth c hC H locs ls k n hE hl hR hS hk hn
  obtain ⟨hx, hb, hown, hlocks, htab, hml, hr, hB, hA, hnm⟩ := id hC
  have hts := hB.1.1.at args
  exact xb_zret 0 0 hx hb hr hlocks (show k + 0 ≤ MC by omega) (show n + 0 ≤ MS by omega) hw.1 hE hR hS (xb_d D_M_changes 12 rfl) hw.2

set_option maxHeartbeats 4000000 in
set_option maxRecDepth 100000 in
theorem ok_M_changes (l : Launch) (hfl : l.flags = pinnedFlags ++ [noTraceFlag]) (D : va_G) (A : Nat → Prop) (σ : Nat) (x0 : Nat) (x1 : Int32) (x2 : Int32) (h : xb_H) (Qr : Int32 → xb_H → Prop) (hw : w_M_changes x0 x1 x2 h Qr) : xb_Met l y_M_changes [.code y_M_changes b_M_changes 3 (some .boolean)] (xb_rm 9 0 0) (xb_Pc D A σ h [.ref x0, .int x1, .int x2]) (xb_Qc D A h 0 0 (fun v h _ _ => ∃ r, v = some (.int r) ∧ Qr r h) (fun _ _ _ _ => False)) A := by
  refine xb_ofAm (cc := b_M_changes) (by decide) (Nat.le_of_ble_eq_true rfl) ?_
  unfold w_M_changes at hw
  show xb_am l D A σ 9 0 0 h (fun v h _ _ => ∃ r, v = some (.int r) ∧ Qr r h) (fun _ _ _ _ => False) y_M_changes.cls y_M_changes.name b_M_changes 3 ([] : List ExceptionTableEntry) (some .boolean) 0 [(0, .ref x0), (1, .int x1), (2, .int x2)] [] h 0 0
  obtain ⟨MC, hMC⟩ : ∃ x, x = 0 := ⟨_, rfl⟩
  obtain ⟨MS, hMS⟩ : ∃ x, x = 0 := ⟨_, rfl⟩
  rw [show xb_am l D A σ 9 0 0 = xb_am l D A σ 9 MC MS by rw [hMC, hMS]]
  obtain ⟨h0, hh0⟩ : ∃ x, x = h := ⟨_, rfl⟩
  rw [show xb_am l D A σ 9 MC MS h = xb_am l D A σ 9 MC MS h0 by rw [hh0]]
  intro p e s m args below meth c hC H locs ls k n hE hl hR hS hk hn
  obtain ⟨hx, hb, hown, hlocks, htab, hml, hr, hB, hA, hnm⟩ := id hC
  have hts := hB.1.1.at args
  refine lv_aload_n hx hb (xb_d D_M_changes 0 rfl) rfl (lv_at hl 0 rfl) ?_
  refine lv_iload_n hx hb (xb_d D_M_changes 1 rfl) rfl (lv_at hl 1 rfl) ?_
  refine lv_iload_n hx hb (xb_d D_M_changes 2 rfl) rfl (lv_at hl 2 rfl) ?_
  obtain ⟨hk1, hw⟩ := hw
  refine xb_call0 (D := D) (A := A) (σ := σ) (h := h) (d := 8) (maxL := 4) (rest := []) (av := [.ref x0, .int x1, .int x2]) (fun T hT X => by obtain ⟨cb9, ra9, rb9, rc9⟩ := xb_recv (ci := 8) hR rfl hk1 (by decide); exact xt_invV X hx hown (hts _ m_2c44277c) (hts _ m_c17c7356) (hts _ m_60ae6cf3) (xt_sigOf (hts _ m_f93068de)) nm_M_variableTypeOf (by rw [hT]; exact ra9) rb9 rc9 (g := F0 m 3 ls [.int x2, .int x1, .ref x0]) rfl (argsL := [.int x1, .int x2]) (rest := []) rfl rfl (by rw [hb]; exact (xb_d D_M_changes 3 rfl))) (ok_M_variableTypeOf l hfl D A σ x0 x1 x2 h _ hw) (hml.trans hl.1.symm) (by rw [hb]; exact (xb_d D_M_changes 3 rfl)) (Nat.le_of_ble_eq_true rfl) (Nat.le_of_ble_eq_true rfl) (Nat.le_of_ble_eq_true rfl) (show k ≤ MC by omega) (show n ≤ MS by omega) (xt_w1 hB.1 m_f93068de) (xt_cdOf hB.1 m_f93068de) (hts _ m_d5ed7bed) hB hR hS hA (fun vv h2 H locs hq hEh2 hR hS => ?_)
  obtain ⟨r3, rfl, hw⟩ := hq
  have hw := hw hEh2
  have hE := hE.tr hEh2
  refine W.eq (g2 := F0 m 6 ls [.int r3]) rfl ?_
  refine lv_pop hx hb (xb_d D_M_changes 4 rfl) rfl ?_
  refine lv_aload_n hx hb (xb_d D_M_changes 5 rfl) rfl (lv_at hl 0 rfl) ?_
  have hk1 : xb_k h2 x0 = 9 := hEh2.k hk1
  refine xb_call0 (D := D) (A := A) (σ := σ) (h := h2) (d := 3) (maxL := 2) (rest := []) (av := [.ref x0]) (fun T hT X => by obtain ⟨cb9, ra9, rb9, rc9⟩ := xb_recv (ci := 8) hR rfl hk1 (by decide); exact xt_invV X hx hown (hts _ m_0e978570) (hts _ m_40099f98) (hts _ m_a7dbfd07) (xt_sigOf (hts _ m_0af1ec6a)) nm_M_next (by rw [hT]; exact ra9) rb9 rc9 (g := F0 m 8 ls [.ref x0]) rfl (argsL := []) (rest := []) rfl rfl (by rw [hb]; exact (xb_d D_M_changes 6 rfl))) (ok_M_next l hfl D A σ x0 h2 _ hw) (hml.trans hl.1.symm) (by rw [hb]; exact (xb_d D_M_changes 6 rfl)) (Nat.le_of_ble_eq_true rfl) (Nat.le_of_ble_eq_true rfl) (Nat.le_of_ble_eq_true rfl) (show k ≤ MC by omega) (show n ≤ MS by omega) (xt_w1 hB.1 m_0af1ec6a) (xt_cdOf hB.1 m_0af1ec6a) (hts _ m_d5ed7bed) hB hR hS hA (fun vv h4 H locs hq hEh4 hR hS => ?_)
  obtain ⟨r5, rfl, hw⟩ := hq
  have hw := hw hEh4
  have hE := hE.tr hEh4
  refine W.eq (g2 := F0 m 11 ls [.int r5]) rfl ?_
  refine lv_iconst (v := 1) hx hb (xb_d D_M_changes 7 rfl) (by decide) ?_
  refine lv_icmp_ne (tgt := 19) hx hb (xb_d D_M_changes 8 rfl) rfl (fun hc6 => ?_) (fun hc6 => ?_)
  · have hw := hw.1 hc6
    refine lv_iconst (v := 0) hx hb (xb_d D_M_changes 11 rfl) (by decide) ?_
    exact am_M_changes_L20 l hfl D A σ MC MS h0 Qr 0 h4 hw p e s m args below meth c hC H locs ls k n hE (lv_sub hl [] rfl) hR hS (by omega) (by omega)
  · have hw := hw.2 hc6
    refine lv_iconst (v := 1) hx hb (xb_d D_M_changes 9 rfl) (by decide) ?_
    refine lv_goto (tgt := 20) hx hb (xb_d D_M_changes 10 rfl) rfl ?_
    exact am_M_changes_L20 l hfl D A σ MC MS h0 Qr 1 h4 hw p e s m args below meth c hC H locs ls k n hE (lv_sub hl [] rfl) hR hS (by omega) (by omega)

theorem m_e1a5a131 : (.methodLink "StackHostModel" 451 y_M_takeParameters : Cond) ∈ xt_tbl := xt_in (xt_t11 (List.mem_of_getElem? (i := 205) (by decide +kernel))) (by decide +kernel)
theorem m_0ad78cc3 : (.instanceMethod y_M_takeParameters : Cond) ∈ xt_tbl := xt_in (xt_t11 (List.mem_of_getElem? (i := 207) (by decide +kernel))) (by decide +kernel)
theorem m_a45a720b : (.selects "StackHostModel" y_M_takeParameters y_M_takeParameters : Cond) ∈ xt_tbl := xt_in (xt_v12 (q := (⟨"StackHostModel", "takeParameters", "(II)V"⟩, 97)) (List.mem_of_getElem? (i := 6) (by decide +kernel))) (by decide +kernel)
theorem m_38627b0b : (.code y_M_takeParameters b_M_takeParameters 4 none : Cond) ∈ xt_tbl := xt_in (xt_t11 (List.mem_of_getElem? (i := 208) (by decide +kernel))) (by decide +kernel)
theorem m_1d203cc1 : (.methodLink "StackHostModel" 369 y_M_typeOf : Cond) ∈ xt_tbl := xt_in (xt_t11 (List.mem_of_getElem? (i := 129) (by decide +kernel))) (by decide +kernel)
theorem m_0a0483ac : (.instanceMethod y_M_typeOf : Cond) ∈ xt_tbl := xt_in (xt_t11 (List.mem_of_getElem? (i := 131) (by decide +kernel))) (by decide +kernel)
theorem m_42615324 : (.selects "StackHostModel" y_M_typeOf y_M_typeOf : Cond) ∈ xt_tbl := xt_in (xt_v11 (q := (⟨"StackHostModel", "typeOf", "(II)I"⟩, 97)) (List.mem_of_getElem? (i := 8) (by decide +kernel))) (by decide +kernel)
theorem m_44f87caf : (.code y_M_typeOf b_M_typeOf 4 (some .int) : Cond) ∈ xt_tbl := xt_in (xt_t11 (List.mem_of_getElem? (i := 132) (by decide +kernel))) (by decide +kernel)
theorem nm_M_takeParameters : xt_nm y_M_takeParameters 2 := ⟨by decide +kernel, by decide +kernel⟩
theorem nm_M_typeOf : xt_nm y_M_typeOf 2 := ⟨by decide +kernel, by decide +kernel⟩
set_option maxRecDepth 100000 in
def T_M_checkCalls : List (Nat × Instr × Nat) := [(0, .iload_n 2, 1), (1, .bipush 16, 2), (3, .if_icmp .ne 67, 3), (6, .aload_n 0, 1), (7, .invokevirtual 218, 3), (10, .lstore_n 3, 1), (11, .aload_n 0, 1), (12, .lload_n 3, 1), (13, .aload_n 0, 1), (14, .iload_n 1, 1), (15, .iconst 0, 1), (16, .invokevirtual 362, 3), (19, .lcmp, 1), (20, .ifCond .ge 7, 3), (23, .iconst 1, 1), (24, .goto 4, 3), (27, .iconst 0, 1), (28, .bipush 20, 2), (30, .invokevirtual 408, 3), (33, .aload_n 0, 1), (34, .getfield 193, 3), (37, .ifCond .ne 30, 3), (40, .aload_n 0, 1), (41, .iload_n 1, 1), (42, .lload_n 3, 1), (43, .l2i, 1), (44, .invokevirtual 369, 3), (47, .istore 5, 2), (49, .aload_n 0, 1), (50, .iload_n 1, 1), (51, .iload 5, 2), (53, .invokevirtual 451, 3), (56, .aload_n 0, 1), (57, .aload_n 0, 1), (58, .iload_n 1, 1), (59, .iload 5, 2), (61, .invokevirtual 336, 3), (64, .invokevirtual 454, 3), (67, .goto 143, 3), (70, .iload_n 2, 1), (71, .bipush 17, 2), (73, .if_icmp .ne 88, 3), (76, .aload_n 0, 1), (77, .invokevirtual 218, 3), (80, .lstore_n 3, 1), (81, .aload_n 0, 1), (82, .aload_n 0, 1), (83, .iload_n 1, 1), (84, .iconst 1, 1), (85, .invokevirtual 362, 3), (88, .lconst 0, 1), (89, .lcmp, 1), (90, .ifCond .le 7, 3), (93, .iconst 1, 1), (94, .goto 4, 3), (97, .iconst 0, 1), (98, .bipush 20, 2), (100, .invokevirtual 408, 3), (103, .aload_n 0, 1), (104, .lload_n 3, 1), (105, .aload_n 0, 1), (106, .iload_n 1, 1), (107, .iconst 1, 1), (108, .invokevirtual 316, 3), (111, .i2l, 1), (112, .lcmp, 1), (113, .ifCond .ge 7, 3), (116, .iconst 1, 1), (117, .goto 4, 3), (120, .iconst 0, 1), (121, .bipush 20, 2), (123, .invokevirtual 408, 3), (126, .aload_n 0, 1), (127, .bipush 127, 2), (129, .invokevirtual 402, 3), (132, .pop, 1), (133, .aload_n 0, 1), (134, .getfield 193, 3), (137, .ifCond .ne 21, 3), (140, .aload_n 0, 1), (141, .iload_n 1, 1), (142, .lload_n 3, 1), (143, .l2i, 1), (144, .invokevirtual 451, 3), (147, .aload_n 0, 1), (148, .aload_n 0, 1), (149, .iload_n 1, 1), (150, .lload_n 3, 1), (151, .l2i, 1), (152, .invokevirtual 336, 3), (155, .invokevirtual 454, 3), (158, .goto 52, 3), (161, .iload_n 2, 1), (162, .bipush 26, 2), (164, .if_icmp .ne 12, 3), (167, .aload_n 0, 1), (168, .iconst 0, 1), (169, .invokevirtual 402, 3), (172, .pop, 1), (173, .goto 37, 3), (176, .aload_n 0, 1), (177, .bipush 127, 2), (179, .invokevirtual 402, 3), (182, .pop, 1), (183, .aload_n 0, 1), (184, .iconst 0, 1), (185, .invokevirtual 402, 3), (188, .istore_n 3, 1), (189, .aload_n 0, 1), (190, .iload_n 3, 1), (191, .invokevirtual 402, 3), (194, .istore 4, 2), (196, .aload_n 0, 1), (197, .iload_n 3, 1), (198, .ifCond .ne 8, 3), (201, .iload 4, 2), (203, .goto 4, 3), (206, .iload_n 3, 1), (207, .invokevirtual 405, 3), (210, .return_, 1)]
theorem D_M_checkCalls : ∀ q ∈ T_M_checkCalls, decode b_M_checkCalls q.1 = .ok (q.2.1, q.2.2) := by decide +kernel

set_option maxHeartbeats 4000000 in
set_option maxRecDepth 100000 in
theorem am_M_checkCalls_L210 (l : Launch) (hfl : l.flags = pinnedFlags ++ [noTraceFlag]) (D : va_G) (A : Nat → Prop) (σ MC MS : Nat) (h0 : xb_H) (Qr : xb_H → Prop) (h : xb_H) (hw : w_M_checkCalls_L210 Qr h) : xb_am l D A σ 9 MC MS h0 (fun v h _ _ => v = none ∧ Qr h) (fun _ _ _ _ => False) y_M_checkCalls.cls y_M_checkCalls.name b_M_checkCalls 6 ([] : List ExceptionTableEntry) none 210 [] [] h 0 0 := by
  unfold w_M_checkCalls_L210 at hw
  intro p e s m args below meth c hC H locs ls k n hE hl hR hS hk hn
  obtain ⟨hx, hb, hown, hlocks, htab, hml, hr, hB, hA, hnm⟩ := id hC
  have hts := hB.1.1.at args
  exact xb_vret 0 0 hx hb hr hlocks (show k + 0 ≤ MC by omega) (show n + 0 ≤ MS by omega) hE hR hS (xb_d D_M_checkCalls 119 rfl) hw

set_option maxHeartbeats 4000000 in
set_option maxRecDepth 100000 in
theorem am_M_checkCalls_L207 (l : Launch) (hfl : l.flags = pinnedFlags ++ [noTraceFlag]) (D : va_G) (A : Nat → Prop) (σ MC MS : Nat) (h0 : xb_H) (Qr : xb_H → Prop) (y0 : Int32) (y1 : Nat) (h : xb_H) (hw : w_M_checkCalls_L207 Qr y0 y1 h) : xb_am l D A σ 9 MC MS h0 (fun v h _ _ => v = none ∧ Qr h) (fun _ _ _ _ => False) y_M_checkCalls.cls y_M_checkCalls.name b_M_checkCalls 6 ([] : List ExceptionTableEntry) none 207 [] [.int y0, .ref y1] h 0 0 := by
  unfold w_M_checkCalls_L207 at hw
  intro p e s m args below meth c hC H locs ls k n hE hl hR hS hk hn
  obtain ⟨hx, hb, hown, hlocks, htab, hml, hr, hB, hA, hnm⟩ := id hC
  have hts := hB.1.1.at args
  obtain ⟨hk1, hw⟩ := hw
  refine xb_call0 (D := D) (A := A) (σ := σ) (h := h) (d := 2) (maxL := 2) (rest := []) (av := [.ref y1, .int y0]) (fun T hT X => by obtain ⟨cb9, ra9, rb9, rc9⟩ := xb_recv (ci := 8) hR rfl hk1 (by decide); exact xt_invV X hx hown (hts _ m_3308f884) (hts _ m_052429f9) (hts _ m_8c0b8095) (xt_sigOf (hts _ m_98c8d9b3)) nm_M_put (by rw [hT]; exact ra9) rb9 rc9 (g := F0 m 207 ls [.int y0, .ref y1]) rfl (argsL := [.int y0]) (rest := []) rfl rfl (by rw [hb]; exact (xb_d D_M_checkCalls 118 rfl))) (ok_M_put l hfl D A σ y1 y0 h _ hw) (hml.trans hl.1.symm) (by rw [hb]; exact (xb_d D_M_checkCalls 118 rfl)) (Nat.le_of_ble_eq_true rfl) (Nat.le_of_ble_eq_true rfl) (Nat.le_of_ble_eq_true rfl) (show k ≤ MC by omega) (show n ≤ MS by omega) (xt_w1 hB.1 m_98c8d9b3) (xt_cdOf hB.1 m_98c8d9b3) (hts _ m_d5ed7bed) hB hR hS hA (fun vv h2 H locs hq hEh2 hR hS => ?_)
  obtain ⟨rfl, hw⟩ := hq
  have hw := hw hEh2
  have hE := hE.tr hEh2
  refine W.eq (g2 := F0 m 210 ls []) rfl ?_
  exact am_M_checkCalls_L210 l hfl D A σ MC MS h0 Qr h2 hw p e s m args below meth c hC H locs ls k n hE (lv_sub hl [] rfl) hR hS (by omega) (by omega)

set_option maxHeartbeats 4000000 in
set_option maxRecDepth 100000 in
theorem am_M_checkCalls_L158 (l : Launch) (hfl : l.flags = pinnedFlags ++ [noTraceFlag]) (D : va_G) (A : Nat → Prop) (σ MC MS : Nat) (h0 : xb_H) (Qr : xb_H → Prop) (h : xb_H) (hw : w_M_checkCalls_L158 Qr h) : xb_am l D A σ 9 MC MS h0 (fun v h _ _ => v = none ∧ Qr h) (fun _ _ _ _ => False) y_M_checkCalls.cls y_M_checkCalls.name b_M_checkCalls 6 ([] : List ExceptionTableEntry) none 158 [] [] h 0 0 := by
  unfold w_M_checkCalls_L158 at hw
  intro p e s m args below meth c hC H locs ls k n hE hl hR hS hk hn
  obtain ⟨hx, hb, hown, hlocks, htab, hml, hr, hB, hA, hnm⟩ := id hC
  have hts := hB.1.1.at args
  refine lv_goto (tgt := 210) hx hb (xb_d D_M_checkCalls 91 rfl) rfl ?_
  exact am_M_checkCalls_L210 l hfl D A σ MC MS h0 Qr h hw p e s m args below meth c hC H locs ls k n hE (lv_sub hl [] rfl) hR hS (by omega) (by omega)

set_option maxHeartbeats 4000000 in
set_option maxRecDepth 100000 in
theorem am_M_checkCalls_L121 (l : Launch) (hfl : l.flags = pinnedFlags ++ [noTraceFlag]) (D : va_G) (A : Nat → Prop) (σ MC MS : Nat) (h0 : xb_H) (Qr : xb_H → Prop) (x0 : Nat) (x1 : Int32) (x3 : Int64) (y0 : Int32) (y1 : Nat) (h : xb_H) (hw : w_M_checkCalls_L121 Qr x0 x1 x3 y0 y1 h) : xb_am l D A σ 9 MC MS h0 (fun v h _ _ => v = none ∧ Qr h) (fun _ _ _ _ => False) y_M_checkCalls.cls y_M_checkCalls.name b_M_checkCalls 6 ([] : List ExceptionTableEntry) none 121 [(0, .ref x0), (1, .int x1), (3, .long x3)] [.int y0, .ref y1] h 0 0 := by
  unfold w_M_checkCalls_L121 at hw
  intro p e s m args below meth c hC H locs ls k n hE hl hR hS hk hn
  obtain ⟨hx, hb, hown, hlocks, htab, hml, hr, hB, hA, hnm⟩ := id hC
  have hts := hB.1.1.at args
  refine lv_bipush (v := 20) hx hb (xb_d D_M_checkCalls 70 rfl) (by decide) ?_
  obtain ⟨hk1, hw⟩ := hw
  refine xb_call0 (D := D) (A := A) (σ := σ) (h := h) (d := 3) (maxL := 3) (rest := []) (av := [.ref y1, .int y0, .int 20]) (fun T hT X => by obtain ⟨cb9, ra9, rb9, rc9⟩ := xb_recv (ci := 8) hR rfl hk1 (by decide); exact xt_invV X hx hown (hts _ m_3b351fe6) (hts _ m_c9ff1909) (hts _ m_4d34701a) (xt_sigOf (hts _ m_c5aab6b8)) nm_M_need (by rw [hT]; exact ra9) rb9 rc9 (g := F0 m 123 ls [.int 20, .int y0, .ref y1]) rfl (argsL := [.int y0, .int 20]) (rest := []) rfl rfl (by rw [hb]; exact (xb_d D_M_checkCalls 71 rfl))) (ok_M_need l hfl D A σ y1 y0 20 h _ hw) (hml.trans hl.1.symm) (by rw [hb]; exact (xb_d D_M_checkCalls 71 rfl)) (Nat.le_of_ble_eq_true rfl) (Nat.le_of_ble_eq_true rfl) (Nat.le_of_ble_eq_true rfl) (show k ≤ MC by omega) (show n ≤ MS by omega) (xt_w1 hB.1 m_c5aab6b8) (xt_cdOf hB.1 m_c5aab6b8) (hts _ m_d5ed7bed) hB hR hS hA (fun vv h2 H locs hq hEh2 hR hS => ?_)
  obtain ⟨rfl, hw⟩ := hq
  have hw := hw hEh2
  have hE := hE.tr hEh2
  refine W.eq (g2 := F0 m 126 ls []) rfl ?_
  refine lv_aload_n hx hb (xb_d D_M_checkCalls 72 rfl) rfl (lv_at hl 0 rfl) ?_
  refine lv_bipush (v := 127) hx hb (xb_d D_M_checkCalls 73 rfl) (by decide) ?_
  obtain ⟨hk4, hw⟩ := hw
  refine xb_call0 (D := D) (A := A) (σ := σ) (h := h2) (d := 3) (maxL := 3) (rest := []) (av := [.ref x0, .int 127]) (fun T hT X => by obtain ⟨cb9, ra9, rb9, rc9⟩ := xb_recv (ci := 8) hR rfl hk4 (by decide); exact xt_invV X hx hown (hts _ m_4290bf91) (hts _ m_641dba55) (hts _ m_286bb193) (xt_sigOf (hts _ m_8ef3c792)) nm_M_take (by rw [hT]; exact ra9) rb9 rc9 (g := F0 m 129 ls [.int 127, .ref x0]) rfl (argsL := [.int 127]) (rest := []) rfl rfl (by rw [hb]; exact (xb_d D_M_checkCalls 74 rfl))) (ok_M_take l hfl D A σ x0 127 h2 _ hw) (hml.trans hl.1.symm) (by rw [hb]; exact (xb_d D_M_checkCalls 74 rfl)) (Nat.le_of_ble_eq_true rfl) (Nat.le_of_ble_eq_true rfl) (Nat.le_of_ble_eq_true rfl) (show k ≤ MC by omega) (show n ≤ MS by omega) (xt_w1 hB.1 m_8ef3c792) (xt_cdOf hB.1 m_8ef3c792) (hts _ m_d5ed7bed) hB hR hS hA (fun vv h5 H locs hq hEh5 hR hS => ?_)
  obtain ⟨r6, rfl, hw⟩ := hq
  have hw := hw hEh5
  have hE := hE.tr hEh5
  refine W.eq (g2 := F0 m 132 ls [.int r6]) rfl ?_
  refine lv_pop hx hb (xb_d D_M_checkCalls 75 rfl) rfl ?_
  refine lv_aload_n hx hb (xb_d D_M_checkCalls 76 rfl) rfl (lv_at hl 0 rfl) ?_
  have hk4 : xb_k h5 x0 = 9 := hEh5.k hk4
  refine xb_getI (C := R_M) (T := F_M) (N := 97) hx hb 8 17 hts fin_M hown hR hk4 (by decide) rfl (by decide) rfl (hts _ m_ff69da61) (fun _ h9 => h9) (xb_d D_M_checkCalls 77 rfl) ?_
  refine lv_if_ne (tgt := 158) hx hb (xb_d D_M_checkCalls 78 rfl) rfl (fun hc7 => ?_) (fun hc7 => ?_)
  · have hw := hw.1 hc7
    exact am_M_checkCalls_L158 l hfl D A σ MC MS h0 Qr h5 hw p e s m args below meth c hC H locs ls k n hE (lv_sub hl [] rfl) hR hS (by omega) (by omega)
  · have hw := hw.2 hc7
    refine lv_aload_n hx hb (xb_d D_M_checkCalls 79 rfl) rfl (lv_at hl 0 rfl) ?_
    refine lv_iload_n hx hb (xb_d D_M_checkCalls 80 rfl) rfl (lv_at hl 1 rfl) ?_
    refine lv_lload_n hx hb (xb_d D_M_checkCalls 81 rfl) rfl (lv_at hl 2 rfl) ?_
    refine lv_l2i hx hb (xb_d D_M_checkCalls 82 rfl) rfl ?_
    refine xb_call0 (D := D) (A := A) (σ := σ) (h := h5) (d := 7) (maxL := 4) (rest := []) (av := [.ref x0, .int x1, .int (Int64.toInt32 x3)]) (fun T hT X => by obtain ⟨cb9, ra9, rb9, rc9⟩ := xb_recv (ci := 8) hR rfl hk4 (by decide); exact xt_invV X hx hown (hts _ m_e1a5a131) (hts _ m_0ad78cc3) (hts _ m_a45a720b) (xt_sigOf (hts _ m_38627b0b)) nm_M_takeParameters (by rw [hT]; exact ra9) rb9 rc9 (g := F0 m 144 ls [.int (Int64.toInt32 x3), .int x1, .ref x0]) rfl (argsL := [.int x1, .int (Int64.toInt32 x3)]) (rest := []) rfl rfl (by rw [hb]; exact (xb_d D_M_checkCalls 83 rfl))) (ok_M_takeParameters l hfl D A σ x0 x1 (Int64.toInt32 x3) h5 _ hw) (hml.trans hl.1.symm) (by rw [hb]; exact (xb_d D_M_checkCalls 83 rfl)) (Nat.le_of_ble_eq_true rfl) (Nat.le_of_ble_eq_true rfl) (Nat.le_of_ble_eq_true rfl) (show k ≤ MC by omega) (show n ≤ MS by omega) (xt_w1 hB.1 m_38627b0b) (xt_cdOf hB.1 m_38627b0b) (hts _ m_d5ed7bed) hB hR hS hA (fun vv h8 H locs hq hEh8 hR hS => ?_)
    obtain ⟨rfl, hw⟩ := hq
    have hw := hw hEh8
    have hE := hE.tr hEh8
    refine W.eq (g2 := F0 m 147 ls []) rfl ?_
    refine lv_aload_n hx hb (xb_d D_M_checkCalls 84 rfl) rfl (lv_at hl 0 rfl) ?_
    refine lv_aload_n hx hb (xb_d D_M_checkCalls 85 rfl) rfl (lv_at hl 0 rfl) ?_
    refine lv_iload_n hx hb (xb_d D_M_checkCalls 86 rfl) rfl (lv_at hl 1 rfl) ?_
    refine lv_lload_n hx hb (xb_d D_M_checkCalls 87 rfl) rfl (lv_at hl 2 rfl) ?_
    refine lv_l2i hx hb (xb_d D_M_checkCalls 88 rfl) rfl ?_
    have hk4 : xb_k h8 x0 = 9 := hEh8.k hk4
    refine xb_call0 (D := D) (A := A) (σ := σ) (h := h8) (d := 6) (maxL := 4) (rest := [.ref x0]) (av := [.ref x0, .int x1, .int (Int64.toInt32 x3)]) (fun T hT X => by obtain ⟨cb9, ra9, rb9, rc9⟩ := xb_recv (ci := 8) hR rfl hk4 (by decide); exact xt_invV X hx hown (hts _ m_bd023100) (hts _ m_d08a9c75) (hts _ m_9ac7cfcb) (xt_sigOf (hts _ m_9dee8e5c)) nm_M_resultOf (by rw [hT]; exact ra9) rb9 rc9 (g := F0 m 152 ls [.int (Int64.toInt32 x3), .int x1, .ref x0, .ref x0]) rfl (argsL := [.int x1, .int (Int64.toInt32 x3)]) (rest := [.ref x0]) rfl rfl (by rw [hb]; exact (xb_d D_M_checkCalls 89 rfl))) (ok_M_resultOf l hfl D A σ x0 x1 (Int64.toInt32 x3) h8 _ hw) (hml.trans hl.1.symm) (by rw [hb]; exact (xb_d D_M_checkCalls 89 rfl)) (Nat.le_of_ble_eq_true rfl) (Nat.le_of_ble_eq_true rfl) (Nat.le_of_ble_eq_true rfl) (show k ≤ MC by omega) (show n ≤ MS by omega) (xt_w1 hB.1 m_9dee8e5c) (xt_cdOf hB.1 m_9dee8e5c) (hts _ m_d5ed7bed) hB hR hS hA (fun vv h10 H locs hq hEh10 hR hS => ?_)
    obtain ⟨r11, rfl, hw⟩ := hq
    have hw := hw hEh10
    have hE := hE.tr hEh10
    refine W.eq (g2 := F0 m 155 ls [.int r11, .ref x0]) rfl ?_
    have hk4 : xb_k h10 x0 = 9 := hEh10.k hk4
    refine xb_call0 (D := D) (A := A) (σ := σ) (h := h10) (d := 3) (maxL := 2) (rest := []) (av := [.ref x0, .int r11]) (fun T hT X => by obtain ⟨cb9, ra9, rb9, rc9⟩ := xb_recv (ci := 8) hR rfl hk4 (by decide); exact xt_invV X hx hown (hts _ m_62eb1e15) (hts _ m_3d82cebb) (hts _ m_d25c631d) (xt_sigOf (hts _ m_4191cbea)) nm_M_putResult (by rw [hT]; exact ra9) rb9 rc9 (g := F0 m 155 ls [.int r11, .ref x0]) rfl (argsL := [.int r11]) (rest := []) rfl rfl (by rw [hb]; exact (xb_d D_M_checkCalls 90 rfl))) (ok_M_putResult l hfl D A σ x0 r11 h10 _ hw) (hml.trans hl.1.symm) (by rw [hb]; exact (xb_d D_M_checkCalls 90 rfl)) (Nat.le_of_ble_eq_true rfl) (Nat.le_of_ble_eq_true rfl) (Nat.le_of_ble_eq_true rfl) (show k ≤ MC by omega) (show n ≤ MS by omega) (xt_w1 hB.1 m_4191cbea) (xt_cdOf hB.1 m_4191cbea) (hts _ m_d5ed7bed) hB hR hS hA (fun vv h12 H locs hq hEh12 hR hS => ?_)
    obtain ⟨rfl, hw⟩ := hq
    have hw := hw hEh12
    have hE := hE.tr hEh12
    refine W.eq (g2 := F0 m 158 ls []) rfl ?_
    exact am_M_checkCalls_L158 l hfl D A σ MC MS h0 Qr h12 hw p e s m args below meth c hC H locs ls k n hE (lv_sub hl [] rfl) hR hS (by omega) (by omega)

set_option maxHeartbeats 4000000 in
set_option maxRecDepth 100000 in
theorem am_M_checkCalls_L98 (l : Launch) (hfl : l.flags = pinnedFlags ++ [noTraceFlag]) (D : va_G) (A : Nat → Prop) (σ MC MS : Nat) (h0 : xb_H) (Qr : xb_H → Prop) (x0 : Nat) (x1 : Int32) (x3 : Int64) (y0 : Int32) (y1 : Nat) (h : xb_H) (hw : w_M_checkCalls_L98 Qr x0 x1 x3 y0 y1 h) : xb_am l D A σ 9 MC MS h0 (fun v h _ _ => v = none ∧ Qr h) (fun _ _ _ _ => False) y_M_checkCalls.cls y_M_checkCalls.name b_M_checkCalls 6 ([] : List ExceptionTableEntry) none 98 [(0, .ref x0), (1, .int x1), (3, .long x3)] [.int y0, .ref y1] h 0 0 := by
  unfold w_M_checkCalls_L98 at hw
  intro p e s m args below meth c hC H locs ls k n hE hl hR hS hk hn
  obtain ⟨hx, hb, hown, hlocks, htab, hml, hr, hB, hA, hnm⟩ := id hC
  have hts := hB.1.1.at args
  refine lv_bipush (v := 20) hx hb (xb_d D_M_checkCalls 56 rfl) (by decide) ?_
  obtain ⟨hk1, hw⟩ := hw
  refine xb_call0 (D := D) (A := A) (σ := σ) (h := h) (d := 3) (maxL := 3) (rest := []) (av := [.ref y1, .int y0, .int 20]) (fun T hT X => by obtain ⟨cb9, ra9, rb9, rc9⟩ := xb_recv (ci := 8) hR rfl hk1 (by decide); exact xt_invV X hx hown (hts _ m_3b351fe6) (hts _ m_c9ff1909) (hts _ m_4d34701a) (xt_sigOf (hts _ m_c5aab6b8)) nm_M_need (by rw [hT]; exact ra9) rb9 rc9 (g := F0 m 100 ls [.int 20, .int y0, .ref y1]) rfl (argsL := [.int y0, .int 20]) (rest := []) rfl rfl (by rw [hb]; exact (xb_d D_M_checkCalls 57 rfl))) (ok_M_need l hfl D A σ y1 y0 20 h _ hw) (hml.trans hl.1.symm) (by rw [hb]; exact (xb_d D_M_checkCalls 57 rfl)) (Nat.le_of_ble_eq_true rfl) (Nat.le_of_ble_eq_true rfl) (Nat.le_of_ble_eq_true rfl) (show k ≤ MC by omega) (show n ≤ MS by omega) (xt_w1 hB.1 m_c5aab6b8) (xt_cdOf hB.1 m_c5aab6b8) (hts _ m_d5ed7bed) hB hR hS hA (fun vv h2 H locs hq hEh2 hR hS => ?_)
  obtain ⟨rfl, hw⟩ := hq
  have hw := hw hEh2
  have hE := hE.tr hEh2
  refine W.eq (g2 := F0 m 103 ls []) rfl ?_
  refine lv_aload_n hx hb (xb_d D_M_checkCalls 58 rfl) rfl (lv_at hl 0 rfl) ?_
  refine lv_lload_n hx hb (xb_d D_M_checkCalls 59 rfl) rfl (lv_at hl 2 rfl) ?_
  refine lv_aload_n hx hb (xb_d D_M_checkCalls 60 rfl) rfl (lv_at hl 0 rfl) ?_
  refine lv_iload_n hx hb (xb_d D_M_checkCalls 61 rfl) rfl (lv_at hl 1 rfl) ?_
  refine lv_iconst (v := 1) hx hb (xb_d D_M_checkCalls 62 rfl) (by decide) ?_
  obtain ⟨hk4, hw⟩ := hw
  refine xb_call0 (D := D) (A := A) (σ := σ) (h := h2) (d := 2) (maxL := 3) (rest := [.long x3, .ref x0]) (av := [.ref x0, .int x1, .int 1]) (fun T hT X => by obtain ⟨cb9, ra9, rb9, rc9⟩ := xb_recv (ci := 8) hR rfl hk4 (by decide); exact xt_invV X hx hown (hts _ m_b47f62c2) (hts _ m_9f071faf) (hts _ m_e1bb5c84) (xt_sigOf (hts _ m_3a6212d6)) nm_M_manyOf (by rw [hT]; exact ra9) rb9 rc9 (g := F0 m 108 ls [.int 1, .int x1, .ref x0, .long x3, .ref x0]) rfl (argsL := [.int x1, .int 1]) (rest := [.long x3, .ref x0]) rfl rfl (by rw [hb]; exact (xb_d D_M_checkCalls 63 rfl))) (ok_M_manyOf l hfl D A σ x0 x1 1 h2 _ hw) (hml.trans hl.1.symm) (by rw [hb]; exact (xb_d D_M_checkCalls 63 rfl)) (Nat.le_of_ble_eq_true rfl) (Nat.le_of_ble_eq_true rfl) (Nat.le_of_ble_eq_true rfl) (show k ≤ MC by omega) (show n ≤ MS by omega) (xt_w1 hB.1 m_3a6212d6) (xt_cdOf hB.1 m_3a6212d6) (hts _ m_d5ed7bed) hB hR hS hA (fun vv h5 H locs hq hEh5 hR hS => ?_)
  obtain ⟨r6, rfl, hw⟩ := hq
  have hw := hw hEh5
  have hE := hE.tr hEh5
  refine W.eq (g2 := F0 m 111 ls [.int r6, .long x3, .ref x0]) rfl ?_
  refine lv_i2l hx hb (xb_d D_M_checkCalls 64 rfl) rfl ?_
  refine xb_lc_ge (tgt := 120) hx hb (xb_d D_M_checkCalls 65 rfl) (xb_d D_M_checkCalls 66 rfl) rfl (fun hc7 => ?_) (fun hc7 => ?_)
  · have hw := hw.1 hc7
    refine lv_iconst (v := 0) hx hb (xb_d D_M_checkCalls 69 rfl) (by decide) ?_
    exact am_M_checkCalls_L121 l hfl D A σ MC MS h0 Qr x0 x1 x3 0 x0 h5 hw p e s m args below meth c hC H locs ls k n hE (lv_sub hl [0, 1, 2] rfl) hR hS (by omega) (by omega)
  · have hw := hw.2 hc7
    refine lv_iconst (v := 1) hx hb (xb_d D_M_checkCalls 67 rfl) (by decide) ?_
    refine lv_goto (tgt := 121) hx hb (xb_d D_M_checkCalls 68 rfl) rfl ?_
    exact am_M_checkCalls_L121 l hfl D A σ MC MS h0 Qr x0 x1 x3 1 x0 h5 hw p e s m args below meth c hC H locs ls k n hE (lv_sub hl [0, 1, 2] rfl) hR hS (by omega) (by omega)

set_option maxHeartbeats 4000000 in
set_option maxRecDepth 100000 in
theorem am_M_checkCalls_L67 (l : Launch) (hfl : l.flags = pinnedFlags ++ [noTraceFlag]) (D : va_G) (A : Nat → Prop) (σ MC MS : Nat) (h0 : xb_H) (Qr : xb_H → Prop) (h : xb_H) (hw : w_M_checkCalls_L67 Qr h) : xb_am l D A σ 9 MC MS h0 (fun v h _ _ => v = none ∧ Qr h) (fun _ _ _ _ => False) y_M_checkCalls.cls y_M_checkCalls.name b_M_checkCalls 6 ([] : List ExceptionTableEntry) none 67 [] [] h 0 0 := by
  unfold w_M_checkCalls_L67 at hw
  intro p e s m args below meth c hC H locs ls k n hE hl hR hS hk hn
  obtain ⟨hx, hb, hown, hlocks, htab, hml, hr, hB, hA, hnm⟩ := id hC
  have hts := hB.1.1.at args
  refine lv_goto (tgt := 210) hx hb (xb_d D_M_checkCalls 38 rfl) rfl ?_
  exact am_M_checkCalls_L210 l hfl D A σ MC MS h0 Qr h hw p e s m args below meth c hC H locs ls k n hE (lv_sub hl [] rfl) hR hS (by omega) (by omega)

set_option maxHeartbeats 4000000 in
set_option maxRecDepth 100000 in
theorem am_M_checkCalls_L28 (l : Launch) (hfl : l.flags = pinnedFlags ++ [noTraceFlag]) (D : va_G) (A : Nat → Prop) (σ MC MS : Nat) (h0 : xb_H) (Qr : xb_H → Prop) (x0 : Nat) (x1 : Int32) (x3 : Int64) (y0 : Int32) (y1 : Nat) (h : xb_H) (hw : w_M_checkCalls_L28 Qr x0 x1 x3 y0 y1 h) : xb_am l D A σ 9 MC MS h0 (fun v h _ _ => v = none ∧ Qr h) (fun _ _ _ _ => False) y_M_checkCalls.cls y_M_checkCalls.name b_M_checkCalls 6 ([] : List ExceptionTableEntry) none 28 [(0, .ref x0), (1, .int x1), (3, .long x3)] [.int y0, .ref y1] h 0 0 := by
  unfold w_M_checkCalls_L28 at hw
  intro p e s m args below meth c hC H locs ls k n hE hl hR hS hk hn
  obtain ⟨hx, hb, hown, hlocks, htab, hml, hr, hB, hA, hnm⟩ := id hC
  have hts := hB.1.1.at args
  refine lv_bipush (v := 20) hx hb (xb_d D_M_checkCalls 17 rfl) (by decide) ?_
  obtain ⟨hk1, hw⟩ := hw
  refine xb_call0 (D := D) (A := A) (σ := σ) (h := h) (d := 3) (maxL := 3) (rest := []) (av := [.ref y1, .int y0, .int 20]) (fun T hT X => by obtain ⟨cb9, ra9, rb9, rc9⟩ := xb_recv (ci := 8) hR rfl hk1 (by decide); exact xt_invV X hx hown (hts _ m_3b351fe6) (hts _ m_c9ff1909) (hts _ m_4d34701a) (xt_sigOf (hts _ m_c5aab6b8)) nm_M_need (by rw [hT]; exact ra9) rb9 rc9 (g := F0 m 30 ls [.int 20, .int y0, .ref y1]) rfl (argsL := [.int y0, .int 20]) (rest := []) rfl rfl (by rw [hb]; exact (xb_d D_M_checkCalls 18 rfl))) (ok_M_need l hfl D A σ y1 y0 20 h _ hw) (hml.trans hl.1.symm) (by rw [hb]; exact (xb_d D_M_checkCalls 18 rfl)) (Nat.le_of_ble_eq_true rfl) (Nat.le_of_ble_eq_true rfl) (Nat.le_of_ble_eq_true rfl) (show k ≤ MC by omega) (show n ≤ MS by omega) (xt_w1 hB.1 m_c5aab6b8) (xt_cdOf hB.1 m_c5aab6b8) (hts _ m_d5ed7bed) hB hR hS hA (fun vv h2 H locs hq hEh2 hR hS => ?_)
  obtain ⟨rfl, hw⟩ := hq
  have hw := hw hEh2
  have hE := hE.tr hEh2
  refine W.eq (g2 := F0 m 33 ls []) rfl ?_
  refine lv_aload_n hx hb (xb_d D_M_checkCalls 19 rfl) rfl (lv_at hl 0 rfl) ?_
  obtain ⟨hk4, hw⟩ := hw
  refine xb_getI (C := R_M) (T := F_M) (N := 97) hx hb 8 17 hts fin_M hown hR hk4 (by decide) rfl (by decide) rfl (hts _ m_ff69da61) (fun _ h9 => h9) (xb_d D_M_checkCalls 20 rfl) ?_
  refine lv_if_ne (tgt := 67) hx hb (xb_d D_M_checkCalls 21 rfl) rfl (fun hc5 => ?_) (fun hc5 => ?_)
  · have hw := hw.1 hc5
    exact am_M_checkCalls_L67 l hfl D A σ MC MS h0 Qr h2 hw p e s m args below meth c hC H locs ls k n hE (lv_sub hl [] rfl) hR hS (by omega) (by omega)
  · have hw := hw.2 hc5
    refine lv_aload_n hx hb (xb_d D_M_checkCalls 22 rfl) rfl (lv_at hl 0 rfl) ?_
    refine lv_iload_n hx hb (xb_d D_M_checkCalls 23 rfl) rfl (lv_at hl 1 rfl) ?_
    refine lv_lload_n hx hb (xb_d D_M_checkCalls 24 rfl) rfl (lv_at hl 2 rfl) ?_
    refine lv_l2i hx hb (xb_d D_M_checkCalls 25 rfl) rfl ?_
    refine xb_call0 (D := D) (A := A) (σ := σ) (h := h2) (d := 8) (maxL := 4) (rest := []) (av := [.ref x0, .int x1, .int (Int64.toInt32 x3)]) (fun T hT X => by obtain ⟨cb9, ra9, rb9, rc9⟩ := xb_recv (ci := 8) hR rfl hk4 (by decide); exact xt_invV X hx hown (hts _ m_1d203cc1) (hts _ m_0a0483ac) (hts _ m_42615324) (xt_sigOf (hts _ m_44f87caf)) nm_M_typeOf (by rw [hT]; exact ra9) rb9 rc9 (g := F0 m 44 ls [.int (Int64.toInt32 x3), .int x1, .ref x0]) rfl (argsL := [.int x1, .int (Int64.toInt32 x3)]) (rest := []) rfl rfl (by rw [hb]; exact (xb_d D_M_checkCalls 26 rfl))) (ok_M_typeOf l hfl D A σ x0 x1 (Int64.toInt32 x3) h2 _ hw) (hml.trans hl.1.symm) (by rw [hb]; exact (xb_d D_M_checkCalls 26 rfl)) (Nat.le_of_ble_eq_true rfl) (Nat.le_of_ble_eq_true rfl) (Nat.le_of_ble_eq_true rfl) (show k ≤ MC by omega) (show n ≤ MS by omega) (xt_w1 hB.1 m_44f87caf) (xt_cdOf hB.1 m_44f87caf) (hts _ m_d5ed7bed) hB hR hS hA (fun vv h6 H locs hq hEh6 hR hS => ?_)
    obtain ⟨r7, rfl, hw⟩ := hq
    have hw := hw hEh6
    have hE := hE.tr hEh6
    refine W.eq (g2 := F0 m 47 ls [.int r7]) rfl ?_
    refine lv_istore hx hb (xb_d D_M_checkCalls 27 rfl) hl (by decide) rfl (fun ls hl => ?_)
    have hl : lv_has ls 6 [(5, .int r7), (0, .ref x0), (1, .int x1), (3, .long x3)] := hl
    refine lv_aload_n hx hb (xb_d D_M_checkCalls 28 rfl) rfl (lv_at hl 1 rfl) ?_
    refine lv_iload_n hx hb (xb_d D_M_checkCalls 29 rfl) rfl (lv_at hl 2 rfl) ?_
    refine lv_iload hx hb (xb_d D_M_checkCalls 30 rfl) (lv_at hl 0 rfl) ?_
    have hk4 : xb_k h6 x0 = 9 := hEh6.k hk4
    refine xb_call0 (D := D) (A := A) (σ := σ) (h := h6) (d := 7) (maxL := 4) (rest := []) (av := [.ref x0, .int x1, .int r7]) (fun T hT X => by obtain ⟨cb9, ra9, rb9, rc9⟩ := xb_recv (ci := 8) hR rfl hk4 (by decide); exact xt_invV X hx hown (hts _ m_e1a5a131) (hts _ m_0ad78cc3) (hts _ m_a45a720b) (xt_sigOf (hts _ m_38627b0b)) nm_M_takeParameters (by rw [hT]; exact ra9) rb9 rc9 (g := F0 m 53 ls [.int r7, .int x1, .ref x0]) rfl (argsL := [.int x1, .int r7]) (rest := []) rfl rfl (by rw [hb]; exact (xb_d D_M_checkCalls 31 rfl))) (ok_M_takeParameters l hfl D A σ x0 x1 r7 h6 _ hw) (hml.trans hl.1.symm) (by rw [hb]; exact (xb_d D_M_checkCalls 31 rfl)) (Nat.le_of_ble_eq_true rfl) (Nat.le_of_ble_eq_true rfl) (Nat.le_of_ble_eq_true rfl) (show k ≤ MC by omega) (show n ≤ MS by omega) (xt_w1 hB.1 m_38627b0b) (xt_cdOf hB.1 m_38627b0b) (hts _ m_d5ed7bed) hB hR hS hA (fun vv h8 H locs hq hEh8 hR hS => ?_)
    obtain ⟨rfl, hw⟩ := hq
    have hw := hw hEh8
    have hE := hE.tr hEh8
    refine W.eq (g2 := F0 m 56 ls []) rfl ?_
    refine lv_aload_n hx hb (xb_d D_M_checkCalls 32 rfl) rfl (lv_at hl 1 rfl) ?_
    refine lv_aload_n hx hb (xb_d D_M_checkCalls 33 rfl) rfl (lv_at hl 1 rfl) ?_
    refine lv_iload_n hx hb (xb_d D_M_checkCalls 34 rfl) rfl (lv_at hl 2 rfl) ?_
    refine lv_iload hx hb (xb_d D_M_checkCalls 35 rfl) (lv_at hl 0 rfl) ?_
    have hk4 : xb_k h8 x0 = 9 := hEh8.k hk4
    refine xb_call0 (D := D) (A := A) (σ := σ) (h := h8) (d := 6) (maxL := 4) (rest := [.ref x0]) (av := [.ref x0, .int x1, .int r7]) (fun T hT X => by obtain ⟨cb9, ra9, rb9, rc9⟩ := xb_recv (ci := 8) hR rfl hk4 (by decide); exact xt_invV X hx hown (hts _ m_bd023100) (hts _ m_d08a9c75) (hts _ m_9ac7cfcb) (xt_sigOf (hts _ m_9dee8e5c)) nm_M_resultOf (by rw [hT]; exact ra9) rb9 rc9 (g := F0 m 61 ls [.int r7, .int x1, .ref x0, .ref x0]) rfl (argsL := [.int x1, .int r7]) (rest := [.ref x0]) rfl rfl (by rw [hb]; exact (xb_d D_M_checkCalls 36 rfl))) (ok_M_resultOf l hfl D A σ x0 x1 r7 h8 _ hw) (hml.trans hl.1.symm) (by rw [hb]; exact (xb_d D_M_checkCalls 36 rfl)) (Nat.le_of_ble_eq_true rfl) (Nat.le_of_ble_eq_true rfl) (Nat.le_of_ble_eq_true rfl) (show k ≤ MC by omega) (show n ≤ MS by omega) (xt_w1 hB.1 m_9dee8e5c) (xt_cdOf hB.1 m_9dee8e5c) (hts _ m_d5ed7bed) hB hR hS hA (fun vv h10 H locs hq hEh10 hR hS => ?_)
    obtain ⟨r11, rfl, hw⟩ := hq
    have hw := hw hEh10
    have hE := hE.tr hEh10
    refine W.eq (g2 := F0 m 64 ls [.int r11, .ref x0]) rfl ?_
    have hk4 : xb_k h10 x0 = 9 := hEh10.k hk4
    refine xb_call0 (D := D) (A := A) (σ := σ) (h := h10) (d := 3) (maxL := 2) (rest := []) (av := [.ref x0, .int r11]) (fun T hT X => by obtain ⟨cb9, ra9, rb9, rc9⟩ := xb_recv (ci := 8) hR rfl hk4 (by decide); exact xt_invV X hx hown (hts _ m_62eb1e15) (hts _ m_3d82cebb) (hts _ m_d25c631d) (xt_sigOf (hts _ m_4191cbea)) nm_M_putResult (by rw [hT]; exact ra9) rb9 rc9 (g := F0 m 64 ls [.int r11, .ref x0]) rfl (argsL := [.int r11]) (rest := []) rfl rfl (by rw [hb]; exact (xb_d D_M_checkCalls 37 rfl))) (ok_M_putResult l hfl D A σ x0 r11 h10 _ hw) (hml.trans hl.1.symm) (by rw [hb]; exact (xb_d D_M_checkCalls 37 rfl)) (Nat.le_of_ble_eq_true rfl) (Nat.le_of_ble_eq_true rfl) (Nat.le_of_ble_eq_true rfl) (show k ≤ MC by omega) (show n ≤ MS by omega) (xt_w1 hB.1 m_4191cbea) (xt_cdOf hB.1 m_4191cbea) (hts _ m_d5ed7bed) hB hR hS hA (fun vv h12 H locs hq hEh12 hR hS => ?_)
    obtain ⟨rfl, hw⟩ := hq
    have hw := hw hEh12
    have hE := hE.tr hEh12
    refine W.eq (g2 := F0 m 67 ls []) rfl ?_
    exact am_M_checkCalls_L67 l hfl D A σ MC MS h0 Qr h12 hw p e s m args below meth c hC H locs ls k n hE (lv_sub hl [] rfl) hR hS (by omega) (by omega)

set_option maxHeartbeats 4000000 in
set_option maxRecDepth 100000 in
theorem ok_M_checkCalls (l : Launch) (hfl : l.flags = pinnedFlags ++ [noTraceFlag]) (D : va_G) (A : Nat → Prop) (σ : Nat) (x0 : Nat) (x1 : Int32) (x2 : Int32) (h : xb_H) (Qr : xb_H → Prop) (hw : w_M_checkCalls x0 x1 x2 h Qr) : xb_Met l y_M_checkCalls [.code y_M_checkCalls b_M_checkCalls 6 none] (xb_rm 9 0 0) (xb_Pc D A σ h [.ref x0, .int x1, .int x2]) (xb_Qc D A h 0 0 (fun v h _ _ => v = none ∧ Qr h) (fun _ _ _ _ => False)) A := by
  refine xb_ofAm (cc := b_M_checkCalls) (by decide) (Nat.le_of_ble_eq_true rfl) ?_
  unfold w_M_checkCalls at hw
  show xb_am l D A σ 9 0 0 h (fun v h _ _ => v = none ∧ Qr h) (fun _ _ _ _ => False) y_M_checkCalls.cls y_M_checkCalls.name b_M_checkCalls 6 ([] : List ExceptionTableEntry) none 0 [(0, .ref x0), (1, .int x1), (2, .int x2)] [] h 0 0
  obtain ⟨MC, hMC⟩ : ∃ x, x = 0 := ⟨_, rfl⟩
  obtain ⟨MS, hMS⟩ : ∃ x, x = 0 := ⟨_, rfl⟩
  rw [show xb_am l D A σ 9 0 0 = xb_am l D A σ 9 MC MS by rw [hMC, hMS]]
  obtain ⟨h0, hh0⟩ : ∃ x, x = h := ⟨_, rfl⟩
  rw [show xb_am l D A σ 9 MC MS h = xb_am l D A σ 9 MC MS h0 by rw [hh0]]
  intro p e s m args below meth c hC H locs ls k n hE hl hR hS hk hn
  obtain ⟨hx, hb, hown, hlocks, htab, hml, hr, hB, hA, hnm⟩ := id hC
  have hts := hB.1.1.at args
  refine lv_iload_n hx hb (xb_d D_M_checkCalls 0 rfl) rfl (lv_at hl 2 rfl) ?_
  refine lv_bipush (v := 16) hx hb (xb_d D_M_checkCalls 1 rfl) (by decide) ?_
  refine lv_icmp_ne (tgt := 70) hx hb (xb_d D_M_checkCalls 2 rfl) rfl (fun hc1 => ?_) (fun hc1 => ?_)
  · have hw := hw.1 hc1
    refine lv_iload_n hx hb (xb_d D_M_checkCalls 39 rfl) rfl (lv_at hl 2 rfl) ?_
    refine lv_bipush (v := 17) hx hb (xb_d D_M_checkCalls 40 rfl) (by decide) ?_
    refine lv_icmp_ne (tgt := 161) hx hb (xb_d D_M_checkCalls 41 rfl) rfl (fun hc2 => ?_) (fun hc2 => ?_)
    · have hw := hw.1 hc2
      refine lv_iload_n hx hb (xb_d D_M_checkCalls 92 rfl) rfl (lv_at hl 2 rfl) ?_
      refine lv_bipush (v := 26) hx hb (xb_d D_M_checkCalls 93 rfl) (by decide) ?_
      refine lv_icmp_ne (tgt := 176) hx hb (xb_d D_M_checkCalls 94 rfl) rfl (fun hc3 => ?_) (fun hc3 => ?_)
      · have hw := hw.1 hc3
        refine lv_aload_n hx hb (xb_d D_M_checkCalls 100 rfl) rfl (lv_at hl 0 rfl) ?_
        refine lv_bipush (v := 127) hx hb (xb_d D_M_checkCalls 101 rfl) (by decide) ?_
        obtain ⟨hk4, hw⟩ := hw
        refine xb_call0 (D := D) (A := A) (σ := σ) (h := h) (d := 3) (maxL := 3) (rest := []) (av := [.ref x0, .int 127]) (fun T hT X => by obtain ⟨cb9, ra9, rb9, rc9⟩ := xb_recv (ci := 8) hR rfl hk4 (by decide); exact xt_invV X hx hown (hts _ m_4290bf91) (hts _ m_641dba55) (hts _ m_286bb193) (xt_sigOf (hts _ m_8ef3c792)) nm_M_take (by rw [hT]; exact ra9) rb9 rc9 (g := F0 m 179 ls [.int 127, .ref x0]) rfl (argsL := [.int 127]) (rest := []) rfl rfl (by rw [hb]; exact (xb_d D_M_checkCalls 102 rfl))) (ok_M_take l hfl D A σ x0 127 h _ hw) (hml.trans hl.1.symm) (by rw [hb]; exact (xb_d D_M_checkCalls 102 rfl)) (Nat.le_of_ble_eq_true rfl) (Nat.le_of_ble_eq_true rfl) (Nat.le_of_ble_eq_true rfl) (show k ≤ MC by omega) (show n ≤ MS by omega) (xt_w1 hB.1 m_8ef3c792) (xt_cdOf hB.1 m_8ef3c792) (hts _ m_d5ed7bed) hB hR hS hA (fun vv h5 H locs hq hEh5 hR hS => ?_)
        obtain ⟨r6, rfl, hw⟩ := hq
        have hw := hw hEh5
        have hE := hE.tr hEh5
        refine W.eq (g2 := F0 m 182 ls [.int r6]) rfl ?_
        refine lv_pop hx hb (xb_d D_M_checkCalls 103 rfl) rfl ?_
        refine lv_aload_n hx hb (xb_d D_M_checkCalls 104 rfl) rfl (lv_at hl 0 rfl) ?_
        refine lv_iconst (v := 0) hx hb (xb_d D_M_checkCalls 105 rfl) (by decide) ?_
        have hk4 : xb_k h5 x0 = 9 := hEh5.k hk4
        refine xb_call0 (D := D) (A := A) (σ := σ) (h := h5) (d := 3) (maxL := 3) (rest := []) (av := [.ref x0, .int 0]) (fun T hT X => by obtain ⟨cb9, ra9, rb9, rc9⟩ := xb_recv (ci := 8) hR rfl hk4 (by decide); exact xt_invV X hx hown (hts _ m_4290bf91) (hts _ m_641dba55) (hts _ m_286bb193) (xt_sigOf (hts _ m_8ef3c792)) nm_M_take (by rw [hT]; exact ra9) rb9 rc9 (g := F0 m 185 ls [.int 0, .ref x0]) rfl (argsL := [.int 0]) (rest := []) rfl rfl (by rw [hb]; exact (xb_d D_M_checkCalls 106 rfl))) (ok_M_take l hfl D A σ x0 0 h5 _ hw) (hml.trans hl.1.symm) (by rw [hb]; exact (xb_d D_M_checkCalls 106 rfl)) (Nat.le_of_ble_eq_true rfl) (Nat.le_of_ble_eq_true rfl) (Nat.le_of_ble_eq_true rfl) (show k ≤ MC by omega) (show n ≤ MS by omega) (xt_w1 hB.1 m_8ef3c792) (xt_cdOf hB.1 m_8ef3c792) (hts _ m_d5ed7bed) hB hR hS hA (fun vv h7 H locs hq hEh7 hR hS => ?_)
        obtain ⟨r8, rfl, hw⟩ := hq
        have hw := hw hEh7
        have hE := hE.tr hEh7
        refine W.eq (g2 := F0 m 188 ls [.int r8]) rfl ?_
        refine lv_istore_n hx hb (xb_d D_M_checkCalls 107 rfl) rfl hl (by decide) rfl (fun ls hl => ?_)
        have hl : lv_has ls 6 [(3, .int r8), (0, .ref x0), (1, .int x1), (2, .int x2)] := hl
        refine lv_aload_n hx hb (xb_d D_M_checkCalls 108 rfl) rfl (lv_at hl 1 rfl) ?_
        refine lv_iload_n hx hb (xb_d D_M_checkCalls 109 rfl) rfl (lv_at hl 0 rfl) ?_
        have hk4 : xb_k h7 x0 = 9 := hEh7.k hk4
        refine xb_call0 (D := D) (A := A) (σ := σ) (h := h7) (d := 3) (maxL := 3) (rest := []) (av := [.ref x0, .int r8]) (fun T hT X => by obtain ⟨cb9, ra9, rb9, rc9⟩ := xb_recv (ci := 8) hR rfl hk4 (by decide); exact xt_invV X hx hown (hts _ m_4290bf91) (hts _ m_641dba55) (hts _ m_286bb193) (xt_sigOf (hts _ m_8ef3c792)) nm_M_take (by rw [hT]; exact ra9) rb9 rc9 (g := F0 m 191 ls [.int r8, .ref x0]) rfl (argsL := [.int r8]) (rest := []) rfl rfl (by rw [hb]; exact (xb_d D_M_checkCalls 110 rfl))) (ok_M_take l hfl D A σ x0 r8 h7 _ hw) (hml.trans hl.1.symm) (by rw [hb]; exact (xb_d D_M_checkCalls 110 rfl)) (Nat.le_of_ble_eq_true rfl) (Nat.le_of_ble_eq_true rfl) (Nat.le_of_ble_eq_true rfl) (show k ≤ MC by omega) (show n ≤ MS by omega) (xt_w1 hB.1 m_8ef3c792) (xt_cdOf hB.1 m_8ef3c792) (hts _ m_d5ed7bed) hB hR hS hA (fun vv h9 H locs hq hEh9 hR hS => ?_)
        obtain ⟨r10, rfl, hw⟩ := hq
        have hw := hw hEh9
        have hE := hE.tr hEh9
        refine W.eq (g2 := F0 m 194 ls [.int r10]) rfl ?_
        refine lv_istore hx hb (xb_d D_M_checkCalls 111 rfl) hl (by decide) rfl (fun ls hl => ?_)
        have hl : lv_has ls 6 [(4, .int r10), (3, .int r8), (0, .ref x0), (1, .int x1), (2, .int x2)] := hl
        refine lv_aload_n hx hb (xb_d D_M_checkCalls 112 rfl) rfl (lv_at hl 2 rfl) ?_
        refine lv_iload_n hx hb (xb_d D_M_checkCalls 113 rfl) rfl (lv_at hl 1 rfl) ?_
        refine lv_if_ne (tgt := 206) hx hb (xb_d D_M_checkCalls 114 rfl) rfl (fun hc11 => ?_) (fun hc11 => ?_)
        · have hw := hw.1 hc11
          refine lv_iload_n hx hb (xb_d D_M_checkCalls 117 rfl) rfl (lv_at hl 1 rfl) ?_
          exact am_M_checkCalls_L207 l hfl D A σ MC MS h0 Qr r8 x0 h9 hw p e s m args below meth c hC H locs ls k n hE (lv_sub hl [] rfl) hR hS (by omega) (by omega)
        · have hw := hw.2 hc11
          refine lv_iload hx hb (xb_d D_M_checkCalls 115 rfl) (lv_at hl 0 rfl) ?_
          refine lv_goto (tgt := 207) hx hb (xb_d D_M_checkCalls 116 rfl) rfl ?_
          exact am_M_checkCalls_L207 l hfl D A σ MC MS h0 Qr r10 x0 h9 hw p e s m args below meth c hC H locs ls k n hE (lv_sub hl [] rfl) hR hS (by omega) (by omega)
      · have hw := hw.2 hc3
        refine lv_aload_n hx hb (xb_d D_M_checkCalls 95 rfl) rfl (lv_at hl 0 rfl) ?_
        refine lv_iconst (v := 0) hx hb (xb_d D_M_checkCalls 96 rfl) (by decide) ?_
        obtain ⟨hk12, hw⟩ := hw
        refine xb_call0 (D := D) (A := A) (σ := σ) (h := h) (d := 3) (maxL := 3) (rest := []) (av := [.ref x0, .int 0]) (fun T hT X => by obtain ⟨cb9, ra9, rb9, rc9⟩ := xb_recv (ci := 8) hR rfl hk12 (by decide); exact xt_invV X hx hown (hts _ m_4290bf91) (hts _ m_641dba55) (hts _ m_286bb193) (xt_sigOf (hts _ m_8ef3c792)) nm_M_take (by rw [hT]; exact ra9) rb9 rc9 (g := F0 m 169 ls [.int 0, .ref x0]) rfl (argsL := [.int 0]) (rest := []) rfl rfl (by rw [hb]; exact (xb_d D_M_checkCalls 97 rfl))) (ok_M_take l hfl D A σ x0 0 h _ hw) (hml.trans hl.1.symm) (by rw [hb]; exact (xb_d D_M_checkCalls 97 rfl)) (Nat.le_of_ble_eq_true rfl) (Nat.le_of_ble_eq_true rfl) (Nat.le_of_ble_eq_true rfl) (show k ≤ MC by omega) (show n ≤ MS by omega) (xt_w1 hB.1 m_8ef3c792) (xt_cdOf hB.1 m_8ef3c792) (hts _ m_d5ed7bed) hB hR hS hA (fun vv h13 H locs hq hEh13 hR hS => ?_)
        obtain ⟨r14, rfl, hw⟩ := hq
        have hw := hw hEh13
        have hE := hE.tr hEh13
        refine W.eq (g2 := F0 m 172 ls [.int r14]) rfl ?_
        refine lv_pop hx hb (xb_d D_M_checkCalls 98 rfl) rfl ?_
        refine lv_goto (tgt := 210) hx hb (xb_d D_M_checkCalls 99 rfl) rfl ?_
        exact am_M_checkCalls_L210 l hfl D A σ MC MS h0 Qr h13 hw p e s m args below meth c hC H locs ls k n hE (lv_sub hl [] rfl) hR hS (by omega) (by omega)
    · have hw := hw.2 hc2
      refine lv_aload_n hx hb (xb_d D_M_checkCalls 42 rfl) rfl (lv_at hl 0 rfl) ?_
      obtain ⟨hk15, hw⟩ := hw
      refine xb_call0 (D := D) (A := A) (σ := σ) (h := h) (d := 4) (maxL := 5) (rest := []) (av := [.ref x0]) (fun T hT X => by obtain ⟨cb9, ra9, rb9, rc9⟩ := xb_recv (ci := 8) hR rfl hk15 (by decide); exact xt_invV X hx hown (hts _ m_e991293f) (hts _ m_385a74b3) (hts _ m_c9fbcd02) (xt_sigOf (hts _ m_1f53f210)) nm_M_count (by rw [hT]; exact ra9) rb9 rc9 (g := F0 m 77 ls [.ref x0]) rfl (argsL := []) (rest := []) rfl rfl (by rw [hb]; exact (xb_d D_M_checkCalls 43 rfl))) (ok_M_count l hfl D A σ x0 h _ hw) (hml.trans hl.1.symm) (by rw [hb]; exact (xb_d D_M_checkCalls 43 rfl)) (Nat.le_of_ble_eq_true rfl) (Nat.le_of_ble_eq_true rfl) (Nat.le_of_ble_eq_true rfl) (show k ≤ MC by omega) (show n ≤ MS by omega) (xt_w1 hB.1 m_1f53f210) (xt_cdOf hB.1 m_1f53f210) (hts _ m_d5ed7bed) hB hR hS hA (fun vv h16 H locs hq hEh16 hR hS => ?_)
      obtain ⟨r17, rfl, hw⟩ := hq
      have hw := hw hEh16
      have hE := hE.tr hEh16
      refine W.eq (g2 := F0 m 80 ls [.long r17]) rfl ?_
      refine lv_lstore_n hx hb (xb_d D_M_checkCalls 44 rfl) rfl hl (by decide) rfl (fun ls hl => ?_)
      have hl : lv_has ls 6 [(3, .long r17), (0, .ref x0), (1, .int x1), (2, .int x2)] := hl
      refine lv_aload_n hx hb (xb_d D_M_checkCalls 45 rfl) rfl (lv_at hl 1 rfl) ?_
      refine lv_aload_n hx hb (xb_d D_M_checkCalls 46 rfl) rfl (lv_at hl 1 rfl) ?_
      refine lv_iload_n hx hb (xb_d D_M_checkCalls 47 rfl) rfl (lv_at hl 2 rfl) ?_
      refine lv_iconst (v := 1) hx hb (xb_d D_M_checkCalls 48 rfl) (by decide) ?_
      have hk15 : xb_k h16 x0 = 9 := hEh16.k hk15
      refine xb_call0 (D := D) (A := A) (σ := σ) (h := h16) (d := 3) (maxL := 3) (rest := [.ref x0]) (av := [.ref x0, .int x1, .int 1]) (fun T hT X => by obtain ⟨cb9, ra9, rb9, rc9⟩ := xb_recv (ci := 8) hR rfl hk15 (by decide); exact xt_invV X hx hown (hts _ m_940fb65e) (hts _ m_342c0f16) (hts _ m_c0324d76) (xt_sigOf (hts _ m_feaaa075)) nm_M_total (by rw [hT]; exact ra9) rb9 rc9 (g := F0 m 85 ls [.int 1, .int x1, .ref x0, .ref x0]) rfl (argsL := [.int x1, .int 1]) (rest := [.ref x0]) rfl rfl (by rw [hb]; exact (xb_d D_M_checkCalls 49 rfl))) (ok_M_total l hfl D A σ x0 x1 1 h16 _ hw) (hml.trans hl.1.symm) (by rw [hb]; exact (xb_d D_M_checkCalls 49 rfl)) (Nat.le_of_ble_eq_true rfl) (Nat.le_of_ble_eq_true rfl) (Nat.le_of_ble_eq_true rfl) (show k ≤ MC by omega) (show n ≤ MS by omega) (xt_w1 hB.1 m_feaaa075) (xt_cdOf hB.1 m_feaaa075) (hts _ m_d5ed7bed) hB hR hS hA (fun vv h18 H locs hq hEh18 hR hS => ?_)
      obtain ⟨r19, rfl, hw⟩ := hq
      have hw := hw hEh18
      have hE := hE.tr hEh18
      refine W.eq (g2 := F0 m 88 ls [.long r19, .ref x0]) rfl ?_
      refine lv_lconst (v := 0) hx hb (xb_d D_M_checkCalls 50 rfl) (by decide) ?_
      refine xb_lc_le (tgt := 97) hx hb (xb_d D_M_checkCalls 51 rfl) (xb_d D_M_checkCalls 52 rfl) rfl (fun hc20 => ?_) (fun hc20 => ?_)
      · have hw := hw.1 hc20
        refine lv_iconst (v := 0) hx hb (xb_d D_M_checkCalls 55 rfl) (by decide) ?_
        exact am_M_checkCalls_L98 l hfl D A σ MC MS h0 Qr x0 x1 r17 0 x0 h18 hw p e s m args below meth c hC H locs ls k n hE (lv_sub hl [1, 2, 0] rfl) hR hS (by omega) (by omega)
      · have hw := hw.2 hc20
        refine lv_iconst (v := 1) hx hb (xb_d D_M_checkCalls 53 rfl) (by decide) ?_
        refine lv_goto (tgt := 98) hx hb (xb_d D_M_checkCalls 54 rfl) rfl ?_
        exact am_M_checkCalls_L98 l hfl D A σ MC MS h0 Qr x0 x1 r17 1 x0 h18 hw p e s m args below meth c hC H locs ls k n hE (lv_sub hl [1, 2, 0] rfl) hR hS (by omega) (by omega)
  · have hw := hw.2 hc1
    refine lv_aload_n hx hb (xb_d D_M_checkCalls 3 rfl) rfl (lv_at hl 0 rfl) ?_
    obtain ⟨hk21, hw⟩ := hw
    refine xb_call0 (D := D) (A := A) (σ := σ) (h := h) (d := 4) (maxL := 5) (rest := []) (av := [.ref x0]) (fun T hT X => by obtain ⟨cb9, ra9, rb9, rc9⟩ := xb_recv (ci := 8) hR rfl hk21 (by decide); exact xt_invV X hx hown (hts _ m_e991293f) (hts _ m_385a74b3) (hts _ m_c9fbcd02) (xt_sigOf (hts _ m_1f53f210)) nm_M_count (by rw [hT]; exact ra9) rb9 rc9 (g := F0 m 7 ls [.ref x0]) rfl (argsL := []) (rest := []) rfl rfl (by rw [hb]; exact (xb_d D_M_checkCalls 4 rfl))) (ok_M_count l hfl D A σ x0 h _ hw) (hml.trans hl.1.symm) (by rw [hb]; exact (xb_d D_M_checkCalls 4 rfl)) (Nat.le_of_ble_eq_true rfl) (Nat.le_of_ble_eq_true rfl) (Nat.le_of_ble_eq_true rfl) (show k ≤ MC by omega) (show n ≤ MS by omega) (xt_w1 hB.1 m_1f53f210) (xt_cdOf hB.1 m_1f53f210) (hts _ m_d5ed7bed) hB hR hS hA (fun vv h22 H locs hq hEh22 hR hS => ?_)
    obtain ⟨r23, rfl, hw⟩ := hq
    have hw := hw hEh22
    have hE := hE.tr hEh22
    refine W.eq (g2 := F0 m 10 ls [.long r23]) rfl ?_
    refine lv_lstore_n hx hb (xb_d D_M_checkCalls 5 rfl) rfl hl (by decide) rfl (fun ls hl => ?_)
    have hl : lv_has ls 6 [(3, .long r23), (0, .ref x0), (1, .int x1), (2, .int x2)] := hl
    refine lv_aload_n hx hb (xb_d D_M_checkCalls 6 rfl) rfl (lv_at hl 1 rfl) ?_
    refine lv_lload_n hx hb (xb_d D_M_checkCalls 7 rfl) rfl (lv_at hl 0 rfl) ?_
    refine lv_aload_n hx hb (xb_d D_M_checkCalls 8 rfl) rfl (lv_at hl 1 rfl) ?_
    refine lv_iload_n hx hb (xb_d D_M_checkCalls 9 rfl) rfl (lv_at hl 2 rfl) ?_
    refine lv_iconst (v := 0) hx hb (xb_d D_M_checkCalls 10 rfl) (by decide) ?_
    have hk21 : xb_k h22 x0 = 9 := hEh22.k hk21
    refine xb_call0 (D := D) (A := A) (σ := σ) (h := h22) (d := 3) (maxL := 3) (rest := [.long r23, .ref x0]) (av := [.ref x0, .int x1, .int 0]) (fun T hT X => by obtain ⟨cb9, ra9, rb9, rc9⟩ := xb_recv (ci := 8) hR rfl hk21 (by decide); exact xt_invV X hx hown (hts _ m_940fb65e) (hts _ m_342c0f16) (hts _ m_c0324d76) (xt_sigOf (hts _ m_feaaa075)) nm_M_total (by rw [hT]; exact ra9) rb9 rc9 (g := F0 m 16 ls [.int 0, .int x1, .ref x0, .long r23, .ref x0]) rfl (argsL := [.int x1, .int 0]) (rest := [.long r23, .ref x0]) rfl rfl (by rw [hb]; exact (xb_d D_M_checkCalls 11 rfl))) (ok_M_total l hfl D A σ x0 x1 0 h22 _ hw) (hml.trans hl.1.symm) (by rw [hb]; exact (xb_d D_M_checkCalls 11 rfl)) (Nat.le_of_ble_eq_true rfl) (Nat.le_of_ble_eq_true rfl) (Nat.le_of_ble_eq_true rfl) (show k ≤ MC by omega) (show n ≤ MS by omega) (xt_w1 hB.1 m_feaaa075) (xt_cdOf hB.1 m_feaaa075) (hts _ m_d5ed7bed) hB hR hS hA (fun vv h24 H locs hq hEh24 hR hS => ?_)
    obtain ⟨r25, rfl, hw⟩ := hq
    have hw := hw hEh24
    have hE := hE.tr hEh24
    refine W.eq (g2 := F0 m 19 ls [.long r25, .long r23, .ref x0]) rfl ?_
    refine xb_lc_ge (tgt := 27) hx hb (xb_d D_M_checkCalls 12 rfl) (xb_d D_M_checkCalls 13 rfl) rfl (fun hc26 => ?_) (fun hc26 => ?_)
    · have hw := hw.1 hc26
      refine lv_iconst (v := 0) hx hb (xb_d D_M_checkCalls 16 rfl) (by decide) ?_
      exact am_M_checkCalls_L28 l hfl D A σ MC MS h0 Qr x0 x1 r23 0 x0 h24 hw p e s m args below meth c hC H locs ls k n hE (lv_sub hl [1, 2, 0] rfl) hR hS (by omega) (by omega)
    · have hw := hw.2 hc26
      refine lv_iconst (v := 1) hx hb (xb_d D_M_checkCalls 14 rfl) (by decide) ?_
      refine lv_goto (tgt := 28) hx hb (xb_d D_M_checkCalls 15 rfl) rfl ?_
      exact am_M_checkCalls_L28 l hfl D A σ MC MS h0 Qr x0 x1 r23 1 x0 h24 hw p e s m args below meth c hC H locs ls k n hE (lv_sub hl [1, 2, 0] rfl) hR hS (by omega) (by omega)

set_option maxRecDepth 100000 in
def T_M_checkStart : List (Nat × Instr × Nat) := [(0, .aload_n 0, 1), (1, .iload_n 1, 1), (2, .bipush 8, 2), (4, .invokevirtual 316, 3), (7, .ifCond .ne 4, 3), (10, .return_, 1), (11, .aload_n 0, 1), (12, .iload_n 1, 1), (13, .bipush 8, 2), (15, .iconst 0, 1), (16, .invokevirtual 320, 3), (19, .istore_n 2, 1), (20, .aload_n 0, 1), (21, .iload_n 1, 1), (22, .iload_n 2, 1), (23, .invokevirtual 324, 3), (26, .aload_n 0, 1), (27, .invokevirtual 218, 3), (30, .lstore_n 3, 1), (31, .lload_n 3, 1), (32, .aload_n 0, 1), (33, .iload_n 1, 1), (34, .iconst 0, 1), (35, .invokevirtual 362, 3), (38, .lcmp, 1), (39, .ifCond .lt 13, 3), (42, .aload_n 0, 1), (43, .bipush 20, 2), (45, .iload_n 2, 1), (46, .invokevirtual 208, 3), (49, .goto 53, 3), (52, .aload_n 0, 1), (53, .iload_n 1, 1), (54, .lload_n 3, 1), (55, .l2i, 1), (56, .invokevirtual 369, 3), (59, .istore 5, 2), (61, .aload_n 0, 1), (62, .iload_n 1, 1), (63, .iload 5, 2), (65, .invokevirtual 333, 3), (68, .ifCond .ne 19, 3), (71, .aload_n 0, 1), (72, .iload_n 1, 1), (73, .iload 5, 2), (75, .invokevirtual 336, 3), (78, .bipush 64, 2), (80, .if_icmp .ne 7, 3), (83, .iconst 1, 1), (84, .goto 4, 3), (87, .iconst 0, 1), (88, .istore 6, 2), (90, .iload 6, 2), (92, .ifCond .ne 10, 3), (95, .aload_n 0, 1), (96, .bipush 21, 2), (98, .iload_n 2, 1), (99, .invokevirtual 208, 3), (102, .return_, 1)]
theorem D_M_checkStart : ∀ q ∈ T_M_checkStart, decode b_M_checkStart q.1 = .ok (q.2.1, q.2.2) := by decide +kernel

set_option maxHeartbeats 4000000 in
set_option maxRecDepth 100000 in
theorem am_M_checkStart_L102 (l : Launch) (hfl : l.flags = pinnedFlags ++ [noTraceFlag]) (D : va_G) (A : Nat → Prop) (σ MC MS : Nat) (h0 : xb_H) (Qr : xb_H → Prop) (h : xb_H) (hw : w_M_checkStart_L102 Qr h) : xb_am l D A σ 9 MC MS h0 (fun v h _ _ => v = none ∧ Qr h) (fun _ _ _ _ => False) y_M_checkStart.cls y_M_checkStart.name b_M_checkStart 7 ([] : List ExceptionTableEntry) none 102 [] [] h 0 0 := by
  unfold w_M_checkStart_L102 at hw
  intro p e s m args below meth c hC H locs ls k n hE hl hR hS hk hn
  obtain ⟨hx, hb, hown, hlocks, htab, hml, hr, hB, hA, hnm⟩ := id hC
  have hts := hB.1.1.at args
  exact xb_vret 0 0 hx hb hr hlocks (show k + 0 ≤ MC by omega) (show n + 0 ≤ MS by omega) hE hR hS (xb_d D_M_checkStart 58 rfl) hw

set_option maxHeartbeats 4000000 in
set_option maxRecDepth 100000 in
theorem am_M_checkStart_L88 (l : Launch) (hfl : l.flags = pinnedFlags ++ [noTraceFlag]) (D : va_G) (A : Nat → Prop) (σ MC MS : Nat) (h0 : xb_H) (Qr : xb_H → Prop) (x0 : Nat) (x2 : Int32) (y0 : Int32) (h : xb_H) (hw : w_M_checkStart_L88 Qr x0 x2 y0 h) : xb_am l D A σ 9 MC MS h0 (fun v h _ _ => v = none ∧ Qr h) (fun _ _ _ _ => False) y_M_checkStart.cls y_M_checkStart.name b_M_checkStart 7 ([] : List ExceptionTableEntry) none 88 [(0, .ref x0), (2, .int x2)] [.int y0] h 0 0 := by
  unfold w_M_checkStart_L88 at hw
  intro p e s m args below meth c hC H locs ls k n hE hl hR hS hk hn
  obtain ⟨hx, hb, hown, hlocks, htab, hml, hr, hB, hA, hnm⟩ := id hC
  have hts := hB.1.1.at args
  refine lv_istore hx hb (xb_d D_M_checkStart 51 rfl) hl (by decide) rfl (fun ls hl => ?_)
  have hl : lv_has ls 7 [(6, .int y0), (0, .ref x0), (2, .int x2)] := hl
  refine lv_iload hx hb (xb_d D_M_checkStart 52 rfl) (lv_at hl 0 rfl) ?_
  refine lv_if_ne (tgt := 102) hx hb (xb_d D_M_checkStart 53 rfl) rfl (fun hc1 => ?_) (fun hc1 => ?_)
  · have hw := hw.1 hc1
    exact am_M_checkStart_L102 l hfl D A σ MC MS h0 Qr h hw p e s m args below meth c hC H locs ls k n hE (lv_sub hl [] rfl) hR hS (by omega) (by omega)
  · have hw := hw.2 hc1
    refine lv_aload_n hx hb (xb_d D_M_checkStart 54 rfl) rfl (lv_at hl 1 rfl) ?_
    refine lv_bipush (v := 21) hx hb (xb_d D_M_checkStart 55 rfl) (by decide) ?_
    refine lv_iload_n hx hb (xb_d D_M_checkStart 56 rfl) rfl (lv_at hl 2 rfl) ?_
    obtain ⟨hk2, hw⟩ := hw
    refine xb_call0 (D := D) (A := A) (σ := σ) (h := h) (d := 2) (maxL := 3) (rest := []) (av := [.ref x0, .int 21, .int x2]) (fun T hT X => by obtain ⟨cb9, ra9, rb9, rc9⟩ := xb_recv (ci := 8) hR rfl hk2 (by decide); exact xt_invV X hx hown (hts _ m_939052ad) (hts _ m_29cc8c73) (hts _ m_3b1ac7ab) (xt_sigOf (hts _ m_8f062ecd)) nm_M_fail (by rw [hT]; exact ra9) rb9 rc9 (g := F0 m 99 ls [.int x2, .int 21, .ref x0]) rfl (argsL := [.int 21, .int x2]) (rest := []) rfl rfl (by rw [hb]; exact (xb_d D_M_checkStart 57 rfl))) (ok_M_fail l hfl D A σ x0 21 x2 h _ hw) (hml.trans hl.1.symm) (by rw [hb]; exact (xb_d D_M_checkStart 57 rfl)) (Nat.le_of_ble_eq_true rfl) (Nat.le_of_ble_eq_true rfl) (Nat.le_of_ble_eq_true rfl) (show k ≤ MC by omega) (show n ≤ MS by omega) (xt_w1 hB.1 m_8f062ecd) (xt_cdOf hB.1 m_8f062ecd) (hts _ m_d5ed7bed) hB hR hS hA (fun vv h3 H locs hq hEh3 hR hS => ?_)
    obtain ⟨rfl, hw⟩ := hq
    have hw := hw hEh3
    have hE := hE.tr hEh3
    refine W.eq (g2 := F0 m 102 ls []) rfl ?_
    exact am_M_checkStart_L102 l hfl D A σ MC MS h0 Qr h3 hw p e s m args below meth c hC H locs ls k n hE (lv_sub hl [] rfl) hR hS (by omega) (by omega)

set_option maxHeartbeats 4000000 in
set_option maxRecDepth 100000 in
theorem am_M_checkStart_L87 (l : Launch) (hfl : l.flags = pinnedFlags ++ [noTraceFlag]) (D : va_G) (A : Nat → Prop) (σ MC MS : Nat) (h0 : xb_H) (Qr : xb_H → Prop) (x0 : Nat) (x2 : Int32) (h : xb_H) (hw : w_M_checkStart_L87 Qr x0 x2 h) : xb_am l D A σ 9 MC MS h0 (fun v h _ _ => v = none ∧ Qr h) (fun _ _ _ _ => False) y_M_checkStart.cls y_M_checkStart.name b_M_checkStart 7 ([] : List ExceptionTableEntry) none 87 [(0, .ref x0), (2, .int x2)] [] h 0 0 := by
  unfold w_M_checkStart_L87 at hw
  intro p e s m args below meth c hC H locs ls k n hE hl hR hS hk hn
  obtain ⟨hx, hb, hown, hlocks, htab, hml, hr, hB, hA, hnm⟩ := id hC
  have hts := hB.1.1.at args
  refine lv_iconst (v := 0) hx hb (xb_d D_M_checkStart 50 rfl) (by decide) ?_
  exact am_M_checkStart_L88 l hfl D A σ MC MS h0 Qr x0 x2 0 h hw p e s m args below meth c hC H locs ls k n hE (lv_sub hl [0, 1] rfl) hR hS (by omega) (by omega)

set_option maxHeartbeats 4000000 in
set_option maxRecDepth 100000 in
theorem ok_M_checkStart (l : Launch) (hfl : l.flags = pinnedFlags ++ [noTraceFlag]) (D : va_G) (A : Nat → Prop) (σ : Nat) (x0 : Nat) (x1 : Int32) (h : xb_H) (Qr : xb_H → Prop) (hw : w_M_checkStart x0 x1 h Qr) : xb_Met l y_M_checkStart [.code y_M_checkStart b_M_checkStart 7 none] (xb_rm 9 0 0) (xb_Pc D A σ h [.ref x0, .int x1]) (xb_Qc D A h 0 0 (fun v h _ _ => v = none ∧ Qr h) (fun _ _ _ _ => False)) A := by
  refine xb_ofAm (cc := b_M_checkStart) (by decide) (Nat.le_of_ble_eq_true rfl) ?_
  unfold w_M_checkStart at hw
  show xb_am l D A σ 9 0 0 h (fun v h _ _ => v = none ∧ Qr h) (fun _ _ _ _ => False) y_M_checkStart.cls y_M_checkStart.name b_M_checkStart 7 ([] : List ExceptionTableEntry) none 0 [(0, .ref x0), (1, .int x1)] [] h 0 0
  obtain ⟨MC, hMC⟩ : ∃ x, x = 0 := ⟨_, rfl⟩
  obtain ⟨MS, hMS⟩ : ∃ x, x = 0 := ⟨_, rfl⟩
  rw [show xb_am l D A σ 9 0 0 = xb_am l D A σ 9 MC MS by rw [hMC, hMS]]
  obtain ⟨h0, hh0⟩ : ∃ x, x = h := ⟨_, rfl⟩
  rw [show xb_am l D A σ 9 MC MS h = xb_am l D A σ 9 MC MS h0 by rw [hh0]]
  intro p e s m args below meth c hC H locs ls k n hE hl hR hS hk hn
  obtain ⟨hx, hb, hown, hlocks, htab, hml, hr, hB, hA, hnm⟩ := id hC
  have hts := hB.1.1.at args
  refine lv_aload_n hx hb (xb_d D_M_checkStart 0 rfl) rfl (lv_at hl 0 rfl) ?_
  refine lv_iload_n hx hb (xb_d D_M_checkStart 1 rfl) rfl (lv_at hl 1 rfl) ?_
  refine lv_bipush (v := 8) hx hb (xb_d D_M_checkStart 2 rfl) (by decide) ?_
  obtain ⟨hk1, hw⟩ := hw
  refine xb_call0 (D := D) (A := A) (σ := σ) (h := h) (d := 2) (maxL := 3) (rest := []) (av := [.ref x0, .int x1, .int 8]) (fun T hT X => by obtain ⟨cb9, ra9, rb9, rc9⟩ := xb_recv (ci := 8) hR rfl hk1 (by decide); exact xt_invV X hx hown (hts _ m_b47f62c2) (hts _ m_9f071faf) (hts _ m_e1bb5c84) (xt_sigOf (hts _ m_3a6212d6)) nm_M_manyOf (by rw [hT]; exact ra9) rb9 rc9 (g := F0 m 4 ls [.int 8, .int x1, .ref x0]) rfl (argsL := [.int x1, .int 8]) (rest := []) rfl rfl (by rw [hb]; exact (xb_d D_M_checkStart 3 rfl))) (ok_M_manyOf l hfl D A σ x0 x1 8 h _ hw) (hml.trans hl.1.symm) (by rw [hb]; exact (xb_d D_M_checkStart 3 rfl)) (Nat.le_of_ble_eq_true rfl) (Nat.le_of_ble_eq_true rfl) (Nat.le_of_ble_eq_true rfl) (show k ≤ MC by omega) (show n ≤ MS by omega) (xt_w1 hB.1 m_3a6212d6) (xt_cdOf hB.1 m_3a6212d6) (hts _ m_d5ed7bed) hB hR hS hA (fun vv h2 H locs hq hEh2 hR hS => ?_)
  obtain ⟨r3, rfl, hw⟩ := hq
  have hw := hw hEh2
  have hE := hE.tr hEh2
  refine W.eq (g2 := F0 m 7 ls [.int r3]) rfl ?_
  refine lv_if_ne (tgt := 11) hx hb (xb_d D_M_checkStart 4 rfl) rfl (fun hc4 => ?_) (fun hc4 => ?_)
  · have hw := hw.1 hc4
    refine lv_aload_n hx hb (xb_d D_M_checkStart 6 rfl) rfl (lv_at hl 0 rfl) ?_
    refine lv_iload_n hx hb (xb_d D_M_checkStart 7 rfl) rfl (lv_at hl 1 rfl) ?_
    refine lv_bipush (v := 8) hx hb (xb_d D_M_checkStart 8 rfl) (by decide) ?_
    refine lv_iconst (v := 0) hx hb (xb_d D_M_checkStart 9 rfl) (by decide) ?_
    have hk1 : xb_k h2 x0 = 9 := hEh2.k hk1
    refine xb_call0 (D := D) (A := A) (σ := σ) (h := h2) (d := 2) (maxL := 4) (rest := []) (av := [.ref x0, .int x1, .int 8, .int 0]) (fun T hT X => by obtain ⟨cb9, ra9, rb9, rc9⟩ := xb_recv (ci := 8) hR rfl hk1 (by decide); exact xt_invV X hx hown (hts _ m_7f41753e) (hts _ m_8cdd7108) (hts _ m_e228318f) (xt_sigOf (hts _ m_89667ad5)) nm_M_placeOf (by rw [hT]; exact ra9) rb9 rc9 (g := F0 m 16 ls [.int 0, .int 8, .int x1, .ref x0]) rfl (argsL := [.int x1, .int 8, .int 0]) (rest := []) rfl rfl (by rw [hb]; exact (xb_d D_M_checkStart 10 rfl))) (ok_M_placeOf l hfl D A σ x0 x1 8 0 h2 _ hw) (hml.trans hl.1.symm) (by rw [hb]; exact (xb_d D_M_checkStart 10 rfl)) (Nat.le_of_ble_eq_true rfl) (Nat.le_of_ble_eq_true rfl) (Nat.le_of_ble_eq_true rfl) (show k ≤ MC by omega) (show n ≤ MS by omega) (xt_w1 hB.1 m_89667ad5) (xt_cdOf hB.1 m_89667ad5) (hts _ m_d5ed7bed) hB hR hS hA (fun vv h5 H locs hq hEh5 hR hS => ?_)
    obtain ⟨r6, rfl, hw⟩ := hq
    have hw := hw hEh5
    have hE := hE.tr hEh5
    refine W.eq (g2 := F0 m 19 ls [.int r6]) rfl ?_
    refine lv_istore_n hx hb (xb_d D_M_checkStart 11 rfl) rfl hl (by decide) rfl (fun ls hl => ?_)
    have hl : lv_has ls 7 [(2, .int r6), (0, .ref x0), (1, .int x1)] := hl
    refine lv_aload_n hx hb (xb_d D_M_checkStart 12 rfl) rfl (lv_at hl 1 rfl) ?_
    refine lv_iload_n hx hb (xb_d D_M_checkStart 13 rfl) rfl (lv_at hl 2 rfl) ?_
    refine lv_iload_n hx hb (xb_d D_M_checkStart 14 rfl) rfl (lv_at hl 0 rfl) ?_
    have hk1 : xb_k h5 x0 = 9 := hEh5.k hk1
    refine xb_call0 (D := D) (A := A) (σ := σ) (h := h5) (d := 2) (maxL := 3) (rest := []) (av := [.ref x0, .int x1, .int r6]) (fun T hT X => by obtain ⟨cb9, ra9, rb9, rc9⟩ := xb_recv (ci := 8) hR rfl hk1 (by decide); exact xt_invV X hx hown (hts _ m_bb531879) (hts _ m_4a6cd4a0) (hts _ m_d1c31e3c) (xt_sigOf (hts _ m_48217fba)) nm_M_go (by rw [hT]; exact ra9) rb9 rc9 (g := F0 m 23 ls [.int r6, .int x1, .ref x0]) rfl (argsL := [.int x1, .int r6]) (rest := []) rfl rfl (by rw [hb]; exact (xb_d D_M_checkStart 15 rfl))) (ok_M_go l hfl D A σ x0 x1 r6 h5 _ hw) (hml.trans hl.1.symm) (by rw [hb]; exact (xb_d D_M_checkStart 15 rfl)) (Nat.le_of_ble_eq_true rfl) (Nat.le_of_ble_eq_true rfl) (Nat.le_of_ble_eq_true rfl) (show k ≤ MC by omega) (show n ≤ MS by omega) (xt_w1 hB.1 m_48217fba) (xt_cdOf hB.1 m_48217fba) (hts _ m_d5ed7bed) hB hR hS hA (fun vv h7 H locs hq hEh7 hR hS => ?_)
    obtain ⟨rfl, hw⟩ := hq
    have hw := hw hEh7
    have hE := hE.tr hEh7
    refine W.eq (g2 := F0 m 26 ls []) rfl ?_
    refine lv_aload_n hx hb (xb_d D_M_checkStart 16 rfl) rfl (lv_at hl 1 rfl) ?_
    have hk1 : xb_k h7 x0 = 9 := hEh7.k hk1
    refine xb_call0 (D := D) (A := A) (σ := σ) (h := h7) (d := 4) (maxL := 5) (rest := []) (av := [.ref x0]) (fun T hT X => by obtain ⟨cb9, ra9, rb9, rc9⟩ := xb_recv (ci := 8) hR rfl hk1 (by decide); exact xt_invV X hx hown (hts _ m_e991293f) (hts _ m_385a74b3) (hts _ m_c9fbcd02) (xt_sigOf (hts _ m_1f53f210)) nm_M_count (by rw [hT]; exact ra9) rb9 rc9 (g := F0 m 27 ls [.ref x0]) rfl (argsL := []) (rest := []) rfl rfl (by rw [hb]; exact (xb_d D_M_checkStart 17 rfl))) (ok_M_count l hfl D A σ x0 h7 _ hw) (hml.trans hl.1.symm) (by rw [hb]; exact (xb_d D_M_checkStart 17 rfl)) (Nat.le_of_ble_eq_true rfl) (Nat.le_of_ble_eq_true rfl) (Nat.le_of_ble_eq_true rfl) (show k ≤ MC by omega) (show n ≤ MS by omega) (xt_w1 hB.1 m_1f53f210) (xt_cdOf hB.1 m_1f53f210) (hts _ m_d5ed7bed) hB hR hS hA (fun vv h9 H locs hq hEh9 hR hS => ?_)
    obtain ⟨r10, rfl, hw⟩ := hq
    have hw := hw hEh9
    have hE := hE.tr hEh9
    refine W.eq (g2 := F0 m 30 ls [.long r10]) rfl ?_
    refine lv_lstore_n hx hb (xb_d D_M_checkStart 18 rfl) rfl hl (by decide) rfl (fun ls hl => ?_)
    have hl : lv_has ls 7 [(3, .long r10), (2, .int r6), (0, .ref x0), (1, .int x1)] := hl
    refine lv_lload_n hx hb (xb_d D_M_checkStart 19 rfl) rfl (lv_at hl 0 rfl) ?_
    refine lv_aload_n hx hb (xb_d D_M_checkStart 20 rfl) rfl (lv_at hl 2 rfl) ?_
    refine lv_iload_n hx hb (xb_d D_M_checkStart 21 rfl) rfl (lv_at hl 3 rfl) ?_
    refine lv_iconst (v := 0) hx hb (xb_d D_M_checkStart 22 rfl) (by decide) ?_
    have hk1 : xb_k h9 x0 = 9 := hEh9.k hk1
    refine xb_call0 (D := D) (A := A) (σ := σ) (h := h9) (d := 3) (maxL := 3) (rest := [.long r10]) (av := [.ref x0, .int x1, .int 0]) (fun T hT X => by obtain ⟨cb9, ra9, rb9, rc9⟩ := xb_recv (ci := 8) hR rfl hk1 (by decide); exact xt_invV X hx hown (hts _ m_940fb65e) (hts _ m_342c0f16) (hts _ m_c0324d76) (xt_sigOf (hts _ m_feaaa075)) nm_M_total (by rw [hT]; exact ra9) rb9 rc9 (g := F0 m 35 ls [.int 0, .int x1, .ref x0, .long r10]) rfl (argsL := [.int x1, .int 0]) (rest := [.long r10]) rfl rfl (by rw [hb]; exact (xb_d D_M_checkStart 23 rfl))) (ok_M_total l hfl D A σ x0 x1 0 h9 _ hw) (hml.trans hl.1.symm) (by rw [hb]; exact (xb_d D_M_checkStart 23 rfl)) (Nat.le_of_ble_eq_true rfl) (Nat.le_of_ble_eq_true rfl) (Nat.le_of_ble_eq_true rfl) (show k ≤ MC by omega) (show n ≤ MS by omega) (xt_w1 hB.1 m_feaaa075) (xt_cdOf hB.1 m_feaaa075) (hts _ m_d5ed7bed) hB hR hS hA (fun vv h11 H locs hq hEh11 hR hS => ?_)
    obtain ⟨r12, rfl, hw⟩ := hq
    have hw := hw hEh11
    have hE := hE.tr hEh11
    refine W.eq (g2 := F0 m 38 ls [.long r12, .long r10]) rfl ?_
    refine xb_lc_lt (tgt := 52) hx hb (xb_d D_M_checkStart 24 rfl) (xb_d D_M_checkStart 25 rfl) rfl (fun hc13 => ?_) (fun hc13 => ?_)
    · have hw := hw.1 hc13
      refine lv_aload_n hx hb (xb_d D_M_checkStart 31 rfl) rfl (lv_at hl 2 rfl) ?_
      refine lv_iload_n hx hb (xb_d D_M_checkStart 32 rfl) rfl (lv_at hl 3 rfl) ?_
      refine lv_lload_n hx hb (xb_d D_M_checkStart 33 rfl) rfl (lv_at hl 0 rfl) ?_
      refine lv_l2i hx hb (xb_d D_M_checkStart 34 rfl) rfl ?_
      have hk1 : xb_k h11 x0 = 9 := hEh11.k hk1
      refine xb_call0 (D := D) (A := A) (σ := σ) (h := h11) (d := 8) (maxL := 4) (rest := []) (av := [.ref x0, .int x1, .int (Int64.toInt32 r10)]) (fun T hT X => by obtain ⟨cb9, ra9, rb9, rc9⟩ := xb_recv (ci := 8) hR rfl hk1 (by decide); exact xt_invV X hx hown (hts _ m_1d203cc1) (hts _ m_0a0483ac) (hts _ m_42615324) (xt_sigOf (hts _ m_44f87caf)) nm_M_typeOf (by rw [hT]; exact ra9) rb9 rc9 (g := F0 m 56 ls [.int (Int64.toInt32 r10), .int x1, .ref x0]) rfl (argsL := [.int x1, .int (Int64.toInt32 r10)]) (rest := []) rfl rfl (by rw [hb]; exact (xb_d D_M_checkStart 35 rfl))) (ok_M_typeOf l hfl D A σ x0 x1 (Int64.toInt32 r10) h11 _ hw) (hml.trans hl.1.symm) (by rw [hb]; exact (xb_d D_M_checkStart 35 rfl)) (Nat.le_of_ble_eq_true rfl) (Nat.le_of_ble_eq_true rfl) (Nat.le_of_ble_eq_true rfl) (show k ≤ MC by omega) (show n ≤ MS by omega) (xt_w1 hB.1 m_44f87caf) (xt_cdOf hB.1 m_44f87caf) (hts _ m_d5ed7bed) hB hR hS hA (fun vv h14 H locs hq hEh14 hR hS => ?_)
      obtain ⟨r15, rfl, hw⟩ := hq
      have hw := hw hEh14
      have hE := hE.tr hEh14
      refine W.eq (g2 := F0 m 59 ls [.int r15]) rfl ?_
      refine lv_istore hx hb (xb_d D_M_checkStart 36 rfl) hl (by decide) rfl (fun ls hl => ?_)
      have hl : lv_has ls 7 [(5, .int r15), (3, .long r10), (2, .int r6), (0, .ref x0), (1, .int x1)] := hl
      refine lv_aload_n hx hb (xb_d D_M_checkStart 37 rfl) rfl (lv_at hl 3 rfl) ?_
      refine lv_iload_n hx hb (xb_d D_M_checkStart 38 rfl) rfl (lv_at hl 4 rfl) ?_
      refine lv_iload hx hb (xb_d D_M_checkStart 39 rfl) (lv_at hl 0 rfl) ?_
      have hk1 : xb_k h14 x0 = 9 := hEh14.k hk1
      refine xb_call0 (D := D) (A := A) (σ := σ) (h := h14) (d := 5) (maxL := 3) (rest := []) (av := [.ref x0, .int x1, .int r15]) (fun T hT X => by obtain ⟨cb9, ra9, rb9, rc9⟩ := xb_recv (ci := 8) hR rfl hk1 (by decide); exact xt_invV X hx hown (hts _ m_4fd64ef0) (hts _ m_2eb48211) (hts _ m_ff1f4a94) (xt_sigOf (hts _ m_2faa0c5c)) nm_M_parameters (by rw [hT]; exact ra9) rb9 rc9 (g := F0 m 65 ls [.int r15, .int x1, .ref x0]) rfl (argsL := [.int x1, .int r15]) (rest := []) rfl rfl (by rw [hb]; exact (xb_d D_M_checkStart 40 rfl))) (ok_M_parameters l hfl D A σ x0 x1 r15 h14 _ hw) (hml.trans hl.1.symm) (by rw [hb]; exact (xb_d D_M_checkStart 40 rfl)) (Nat.le_of_ble_eq_true rfl) (Nat.le_of_ble_eq_true rfl) (Nat.le_of_ble_eq_true rfl) (show k ≤ MC by omega) (show n ≤ MS by omega) (xt_w1 hB.1 m_2faa0c5c) (xt_cdOf hB.1 m_2faa0c5c) (hts _ m_d5ed7bed) hB hR hS hA (fun vv h16 H locs hq hEh16 hR hS => ?_)
      obtain ⟨r17, rfl, hw⟩ := hq
      have hw := hw hEh16
      have hE := hE.tr hEh16
      refine W.eq (g2 := F0 m 68 ls [.int r17]) rfl ?_
      refine lv_if_ne (tgt := 87) hx hb (xb_d D_M_checkStart 41 rfl) rfl (fun hc18 => ?_) (fun hc18 => ?_)
      · have hw := hw.1 hc18
        exact am_M_checkStart_L87 l hfl D A σ MC MS h0 Qr x0 r6 h16 hw p e s m args below meth c hC H locs ls k n hE (lv_sub hl [3, 2] rfl) hR hS (by omega) (by omega)
      · have hw := hw.2 hc18
        refine lv_aload_n hx hb (xb_d D_M_checkStart 42 rfl) rfl (lv_at hl 3 rfl) ?_
        refine lv_iload_n hx hb (xb_d D_M_checkStart 43 rfl) rfl (lv_at hl 4 rfl) ?_
        refine lv_iload hx hb (xb_d D_M_checkStart 44 rfl) (lv_at hl 0 rfl) ?_
        have hk1 : xb_k h16 x0 = 9 := hEh16.k hk1
        refine xb_call0 (D := D) (A := A) (σ := σ) (h := h16) (d := 6) (maxL := 4) (rest := []) (av := [.ref x0, .int x1, .int r15]) (fun T hT X => by obtain ⟨cb9, ra9, rb9, rc9⟩ := xb_recv (ci := 8) hR rfl hk1 (by decide); exact xt_invV X hx hown (hts _ m_bd023100) (hts _ m_d08a9c75) (hts _ m_9ac7cfcb) (xt_sigOf (hts _ m_9dee8e5c)) nm_M_resultOf (by rw [hT]; exact ra9) rb9 rc9 (g := F0 m 75 ls [.int r15, .int x1, .ref x0]) rfl (argsL := [.int x1, .int r15]) (rest := []) rfl rfl (by rw [hb]; exact (xb_d D_M_checkStart 45 rfl))) (ok_M_resultOf l hfl D A σ x0 x1 r15 h16 _ hw) (hml.trans hl.1.symm) (by rw [hb]; exact (xb_d D_M_checkStart 45 rfl)) (Nat.le_of_ble_eq_true rfl) (Nat.le_of_ble_eq_true rfl) (Nat.le_of_ble_eq_true rfl) (show k ≤ MC by omega) (show n ≤ MS by omega) (xt_w1 hB.1 m_9dee8e5c) (xt_cdOf hB.1 m_9dee8e5c) (hts _ m_d5ed7bed) hB hR hS hA (fun vv h19 H locs hq hEh19 hR hS => ?_)
        obtain ⟨r20, rfl, hw⟩ := hq
        have hw := hw hEh19
        have hE := hE.tr hEh19
        refine W.eq (g2 := F0 m 78 ls [.int r20]) rfl ?_
        refine lv_bipush (v := 64) hx hb (xb_d D_M_checkStart 46 rfl) (by decide) ?_
        refine lv_icmp_ne (tgt := 87) hx hb (xb_d D_M_checkStart 47 rfl) rfl (fun hc21 => ?_) (fun hc21 => ?_)
        · have hw := hw.1 hc21
          exact am_M_checkStart_L87 l hfl D A σ MC MS h0 Qr x0 r6 h19 hw p e s m args below meth c hC H locs ls k n hE (lv_sub hl [3, 2] rfl) hR hS (by omega) (by omega)
        · have hw := hw.2 hc21
          refine lv_iconst (v := 1) hx hb (xb_d D_M_checkStart 48 rfl) (by decide) ?_
          refine lv_goto (tgt := 88) hx hb (xb_d D_M_checkStart 49 rfl) rfl ?_
          exact am_M_checkStart_L88 l hfl D A σ MC MS h0 Qr x0 r6 1 h19 hw p e s m args below meth c hC H locs ls k n hE (lv_sub hl [3, 2] rfl) hR hS (by omega) (by omega)
    · have hw := hw.2 hc13
      refine lv_aload_n hx hb (xb_d D_M_checkStart 26 rfl) rfl (lv_at hl 2 rfl) ?_
      refine lv_bipush (v := 20) hx hb (xb_d D_M_checkStart 27 rfl) (by decide) ?_
      refine lv_iload_n hx hb (xb_d D_M_checkStart 28 rfl) rfl (lv_at hl 1 rfl) ?_
      have hk1 : xb_k h11 x0 = 9 := hEh11.k hk1
      refine xb_call0 (D := D) (A := A) (σ := σ) (h := h11) (d := 2) (maxL := 3) (rest := []) (av := [.ref x0, .int 20, .int r6]) (fun T hT X => by obtain ⟨cb9, ra9, rb9, rc9⟩ := xb_recv (ci := 8) hR rfl hk1 (by decide); exact xt_invV X hx hown (hts _ m_939052ad) (hts _ m_29cc8c73) (hts _ m_3b1ac7ab) (xt_sigOf (hts _ m_8f062ecd)) nm_M_fail (by rw [hT]; exact ra9) rb9 rc9 (g := F0 m 46 ls [.int r6, .int 20, .ref x0]) rfl (argsL := [.int 20, .int r6]) (rest := []) rfl rfl (by rw [hb]; exact (xb_d D_M_checkStart 29 rfl))) (ok_M_fail l hfl D A σ x0 20 r6 h11 _ hw) (hml.trans hl.1.symm) (by rw [hb]; exact (xb_d D_M_checkStart 29 rfl)) (Nat.le_of_ble_eq_true rfl) (Nat.le_of_ble_eq_true rfl) (Nat.le_of_ble_eq_true rfl) (show k ≤ MC by omega) (show n ≤ MS by omega) (xt_w1 hB.1 m_8f062ecd) (xt_cdOf hB.1 m_8f062ecd) (hts _ m_d5ed7bed) hB hR hS hA (fun vv h22 H locs hq hEh22 hR hS => ?_)
      obtain ⟨rfl, hw⟩ := hq
      have hw := hw hEh22
      have hE := hE.tr hEh22
      refine W.eq (g2 := F0 m 49 ls []) rfl ?_
      refine lv_goto (tgt := 102) hx hb (xb_d D_M_checkStart 30 rfl) rfl ?_
      exact am_M_checkStart_L102 l hfl D A σ MC MS h0 Qr h22 hw p e s m args below meth c hC H locs ls k n hE (lv_sub hl [] rfl) hR hS (by omega) (by omega)
  · have hw := hw.2 hc4
    exact xb_vret 0 0 hx hb hr hlocks (show k + 0 ≤ MC by omega) (show n + 0 ≤ MS by omega) hE hR hS (xb_d D_M_checkStart 5 rfl) hw

theorem m_5ec466f2 : (.methodLink "StackHostModel" 479 y_M_meant : Cond) ∈ xt_tbl := xt_in (xt_t12 (List.mem_of_getElem? (i := 62) (by decide +kernel))) (by decide +kernel)
theorem m_f0f1d102 : (.instanceMethod y_M_meant : Cond) ∈ xt_tbl := xt_in (xt_t12 (List.mem_of_getElem? (i := 64) (by decide +kernel))) (by decide +kernel)
theorem m_cfa25922 : (.selects "StackHostModel" y_M_meant y_M_meant : Cond) ∈ xt_tbl := xt_in (xt_v13 (q := (⟨"StackHostModel", "meant", "(III)I"⟩, 97)) (List.mem_of_getElem? (i := 8) (by decide +kernel))) (by decide +kernel)
theorem m_59347bba : (.code y_M_meant b_M_meant 6 (some .int) : Cond) ∈ xt_tbl := xt_in (xt_t12 (List.mem_of_getElem? (i := 65) (by decide +kernel))) (by decide +kernel)
theorem nm_M_meant : xt_nm y_M_meant 3 := ⟨by decide +kernel, by decide +kernel⟩
set_option maxRecDepth 100000 in
def T_M_constant : List (Nat × Instr × Nat) := [(0, .aload_n 0, 1), (1, .invokevirtual 212, 3), (4, .istore_n 2, 1), (5, .lconst 0, 1), (6, .lstore_n 3, 1), (7, .iload_n 2, 1), (8, .bipush 35, 2), (10, .if_icmp .ne 49, 3), (13, .aload_n 0, 1), (14, .invokevirtual 218, 3), (17, .l2i, 1), (18, .istore 5, 2), (20, .aload_n 0, 1), (21, .getfield 202, 3), (24, .istore 6, 2), (26, .aload_n 0, 1), (27, .getfield 62, 3), (30, .iload_n 1, 1), (31, .iaload, 1), (32, .istore 7, 2), (34, .aload_n 0, 1), (35, .getfield 130, 3), (38, .aload_n 0, 1), (39, .iload_n 1, 1), (40, .iconst 3, 1), (41, .iload 5, 2), (43, .invokevirtual 479, 3), (46, .laload, 1), (47, .lstore_n 3, 1), (48, .aload_n 0, 1), (49, .iload 7, 2), (51, .iload 6, 2), (53, .invokevirtual 324, 3), (56, .goto 86, 3), (59, .iload_n 2, 1), (60, .bipush 66, 2), (62, .if_icmp .gt 40, 3), (65, .aload_n 0, 1), (66, .iload_n 2, 1), (67, .bipush 65, 2), (69, .if_icmp .ne 8, 3), (72, .bipush 32, 2), (74, .goto 5, 3), (77, .bipush 64, 2), (79, .invokevirtual 247, 3), (82, .lstore_n 3, 1), (83, .iload_n 2, 1), (84, .bipush 65, 2), (86, .if_icmp .ne 11, 3), (89, .lload_n 3, 1), (90, .ldc2_w 517, 3), (93, .land, 1), (94, .goto 4, 3), (97, .lload_n 3, 1), (98, .lstore_n 3, 1), (99, .goto 43, 3), (102, .iconst 0, 1), (103, .istore 5, 2), (105, .iload 5, 2), (107, .iload_n 2, 1), (108, .bipush 67, 2), (110, .if_icmp .ne 7, 3), (113, .iconst 4, 1), (114, .goto 5, 3), (117, .bipush 8, 2), (119, .if_icmp .ge 23, 3), (122, .lload_n 3, 1), (123, .aload_n 0, 1), (124, .invokevirtual 212, 3), (127, .i2l, 1), (128, .bipush 8, 2), (130, .iload 5, 2), (132, .imul, 1), (133, .lshl, 1), (134, .lor, 1), (135, .lstore_n 3, 1), (136, .iinc 5 1, 3), (139, .goto (-34), 3), (142, .aload_n 0, 1), (143, .invokevirtual 212, 3), (146, .pop, 1), (147, .lload_n 3, 1), (148, .lreturn, 1)]
theorem D_M_constant : ∀ q ∈ T_M_constant, decode b_M_constant q.1 = .ok (q.2.1, q.2.2) := by decide +kernel

set_option maxHeartbeats 4000000 in
set_option maxRecDepth 100000 in
theorem am_M_constant_L142 (l : Launch) (hfl : l.flags = pinnedFlags ++ [noTraceFlag]) (D : va_G) (A : Nat → Prop) (σ MC MS : Nat) (h0 : xb_H) (Qr : Int64 → xb_H → Prop) (x0 : Nat) (x3 : Int64) (h : xb_H) (hw : w_M_constant_L142 Qr x0 x3 h) : xb_am l D A σ 9 MC MS h0 (fun v h _ _ => ∃ r, v = some (.long r) ∧ Qr r h) (fun _ _ _ _ => False) y_M_constant.cls y_M_constant.name b_M_constant 8 ([] : List ExceptionTableEntry) (some .long) 142 [(0, .ref x0), (3, .long x3)] [] h 0 0 := by
  unfold w_M_constant_L142 at hw
  intro p e s m args below meth c hC H locs ls k n hE hl hR hS hk hn
  obtain ⟨hx, hb, hown, hlocks, htab, hml, hr, hB, hA, hnm⟩ := id hC
  have hts := hB.1.1.at args
  refine lv_aload_n hx hb (xb_d D_M_constant 78 rfl) rfl (lv_at hl 0 rfl) ?_
  obtain ⟨hk1, hw⟩ := hw
  refine xb_call0 (D := D) (A := A) (σ := σ) (h := h) (d := 3) (maxL := 2) (rest := []) (av := [.ref x0]) (fun T hT X => by obtain ⟨cb9, ra9, rb9, rc9⟩ := xb_recv (ci := 8) hR rfl hk1 (by decide); exact xt_invV X hx hown (hts _ m_0e978570) (hts _ m_40099f98) (hts _ m_a7dbfd07) (xt_sigOf (hts _ m_0af1ec6a)) nm_M_next (by rw [hT]; exact ra9) rb9 rc9 (g := F0 m 143 ls [.ref x0]) rfl (argsL := []) (rest := []) rfl rfl (by rw [hb]; exact (xb_d D_M_constant 79 rfl))) (ok_M_next l hfl D A σ x0 h _ hw) (hml.trans hl.1.symm) (by rw [hb]; exact (xb_d D_M_constant 79 rfl)) (Nat.le_of_ble_eq_true rfl) (Nat.le_of_ble_eq_true rfl) (Nat.le_of_ble_eq_true rfl) (show k ≤ MC by omega) (show n ≤ MS by omega) (xt_w1 hB.1 m_0af1ec6a) (xt_cdOf hB.1 m_0af1ec6a) (hts _ m_d5ed7bed) hB hR hS hA (fun vv h2 H locs hq hEh2 hR hS => ?_)
  obtain ⟨r3, rfl, hw⟩ := hq
  have hw := hw hEh2
  have hE := hE.tr hEh2
  refine W.eq (g2 := F0 m 146 ls [.int r3]) rfl ?_
  refine lv_pop hx hb (xb_d D_M_constant 80 rfl) rfl ?_
  refine lv_lload_n hx hb (xb_d D_M_constant 81 rfl) rfl (lv_at hl 1 rfl) ?_
  exact xb_lret 0 0 hx hb hr hlocks (show k + 0 ≤ MC by omega) (show n + 0 ≤ MS by omega) hE hR hS (xb_d D_M_constant 82 rfl) hw

set_option maxHeartbeats 4000000 in
set_option maxRecDepth 100000 in
theorem am_M_constant_L119 (l : Launch) (hfl : l.flags = pinnedFlags ++ [noTraceFlag]) (D : va_G) (A : Nat → Prop) (σ MC MS : Nat) (h0 : xb_H) (Qr : Int64 → xb_H → Prop) (K105 : Nat → Int32 → Int64 → Int32 → xb_H → Prop) (hK105 : ∀ (x0 : Nat) (x2 : Int32) (x3 : Int64) (x5 : Int32) (h : xb_H), K105 x0 x2 x3 x5 h → xb_am l D A σ 9 MC MS h0 (fun v h _ _ => ∃ r, v = some (.long r) ∧ Qr r h) (fun _ _ _ _ => False) y_M_constant.cls y_M_constant.name b_M_constant 8 ([] : List ExceptionTableEntry) (some .long) 105 [(0, .ref x0), (2, .int x2), (3, .long x3), (5, .int x5)] [] h 0 0) (x0 : Nat) (x2 : Int32) (x3 : Int64) (x5 : Int32) (y0 : Int32) (y1 : Int32) (h : xb_H) (hw : w_M_constant_L119 K105 Qr x0 x2 x3 x5 y0 y1 h) : xb_am l D A σ 9 MC MS h0 (fun v h _ _ => ∃ r, v = some (.long r) ∧ Qr r h) (fun _ _ _ _ => False) y_M_constant.cls y_M_constant.name b_M_constant 8 ([] : List ExceptionTableEntry) (some .long) 119 [(0, .ref x0), (2, .int x2), (3, .long x3), (5, .int x5)] [.int y0, .int y1] h 0 0 := by
  unfold w_M_constant_L119 at hw
  intro p e s m args below meth c hC H locs ls k n hE hl hR hS hk hn
  obtain ⟨hx, hb, hown, hlocks, htab, hml, hr, hB, hA, hnm⟩ := id hC
  have hts := hB.1.1.at args
  refine lv_icmp_ge (tgt := 142) hx hb (xb_d D_M_constant 65 rfl) rfl (fun hc1 => ?_) (fun hc1 => ?_)
  · have hw := hw.1 hc1
    exact am_M_constant_L142 l hfl D A σ MC MS h0 Qr x0 x3 h hw p e s m args below meth c hC H locs ls k n hE (lv_sub hl [0, 2] rfl) hR hS (by omega) (by omega)
  · have hw := hw.2 hc1
    refine lv_lload_n hx hb (xb_d D_M_constant 66 rfl) rfl (lv_at hl 2 rfl) ?_
    refine lv_aload_n hx hb (xb_d D_M_constant 67 rfl) rfl (lv_at hl 0 rfl) ?_
    obtain ⟨hk2, hw⟩ := hw
    refine xb_call0 (D := D) (A := A) (σ := σ) (h := h) (d := 3) (maxL := 2) (rest := [.long x3]) (av := [.ref x0]) (fun T hT X => by obtain ⟨cb9, ra9, rb9, rc9⟩ := xb_recv (ci := 8) hR rfl hk2 (by decide); exact xt_invV X hx hown (hts _ m_0e978570) (hts _ m_40099f98) (hts _ m_a7dbfd07) (xt_sigOf (hts _ m_0af1ec6a)) nm_M_next (by rw [hT]; exact ra9) rb9 rc9 (g := F0 m 124 ls [.ref x0, .long x3]) rfl (argsL := []) (rest := [.long x3]) rfl rfl (by rw [hb]; exact (xb_d D_M_constant 68 rfl))) (ok_M_next l hfl D A σ x0 h _ hw) (hml.trans hl.1.symm) (by rw [hb]; exact (xb_d D_M_constant 68 rfl)) (Nat.le_of_ble_eq_true rfl) (Nat.le_of_ble_eq_true rfl) (Nat.le_of_ble_eq_true rfl) (show k ≤ MC by omega) (show n ≤ MS by omega) (xt_w1 hB.1 m_0af1ec6a) (xt_cdOf hB.1 m_0af1ec6a) (hts _ m_d5ed7bed) hB hR hS hA (fun vv h3 H locs hq hEh3 hR hS => ?_)
    obtain ⟨r4, rfl, hw⟩ := hq
    have hw := hw hEh3
    have hE := hE.tr hEh3
    refine W.eq (g2 := F0 m 127 ls [.int r4, .long x3]) rfl ?_
    refine lv_i2l hx hb (xb_d D_M_constant 69 rfl) rfl ?_
    refine lv_bipush (v := 8) hx hb (xb_d D_M_constant 70 rfl) (by decide) ?_
    refine lv_iload hx hb (xb_d D_M_constant 71 rfl) (lv_at hl 3 rfl) ?_
    refine lv_imul hx hb (xb_d D_M_constant 72 rfl) ?_
    refine lv_lshl (v := (xb_lshl (Int32.toInt64 r4) (8 * x5))) hx hb (xb_d D_M_constant 73 rfl) rfl ?_
    refine lv_lor hx hb (xb_d D_M_constant 74 rfl) ?_
    obtain ⟨v5, ev5⟩ : ∃ x : Int64, x = (x3 ||| (xb_lshl (Int32.toInt64 r4) (8 * x5))) := ⟨_, rfl⟩
    have hw := hw v5 ev5
    refine xt_numl (y := v5) ev5.symm ?_
    refine lv_lstore_n hx hb (xb_d D_M_constant 75 rfl) rfl hl (by decide) rfl (fun ls hl => ?_)
    have hl : lv_has ls 8 [(3, .long v5), (0, .ref x0), (2, .int x2), (5, .int x5)] := hl
    refine lv_iinc (v := (x5 + 1)) (k := 3) hx hb (xb_d D_M_constant 76 rfl) hl rfl (by first | rfl | decide) (by decide) rfl (fun ls hl => ?_)
    have hl : lv_has ls 8 [(5, .int (x5 + 1)), (3, .long v5), (0, .ref x0), (2, .int x2)] := hl
    refine lv_goto (tgt := 105) hx hb (xb_d D_M_constant 77 rfl) rfl ?_
    exact hK105 x0 x2 v5 (x5 + 1) h3 hw p e s m args below meth c hC H locs ls k n hE (lv_sub hl [2, 3, 1, 0] rfl) hR hS (by omega) (by omega)

set_option maxHeartbeats 4000000 in
set_option maxRecDepth 100000 in
theorem am_M_constant_L105 (l : Launch) (hfl : l.flags = pinnedFlags ++ [noTraceFlag]) (D : va_G) (A : Nat → Prop) (σ MC MS : Nat) (h0 : xb_H) (Qr : Int64 → xb_H → Prop) (n9 : Nat) : ∀ (x0 : Nat) (x2 : Int32) (x3 : Int64) (x5 : Int32) (h : xb_H), w_M_constant_L105 Qr n9 x0 x2 x3 x5 h → xb_am l D A σ 9 MC MS h0 (fun v h _ _ => ∃ r, v = some (.long r) ∧ Qr r h) (fun _ _ _ _ => False) y_M_constant.cls y_M_constant.name b_M_constant 8 ([] : List ExceptionTableEntry) (some .long) 105 [(0, .ref x0), (2, .int x2), (3, .long x3), (5, .int x5)] [] h 0 0 := by
  induction n9 with
  | zero => intro x0 x2 x3 x5 h hw; exact False.elim hw
  | succ n9 ih =>
    intro x0 x2 x3 x5 h hw
    unfold w_M_constant_L105 at hw
    intro p e s m args below meth c hC H locs ls k n hE hl hR hS hk hn
    obtain ⟨hx, hb, hown, hlocks, htab, hml, hr, hB, hA, hnm⟩ := id hC
    have hts := hB.1.1.at args
    refine lv_iload hx hb (xb_d D_M_constant 58 rfl) (lv_at hl 3 rfl) ?_
    refine lv_iload_n hx hb (xb_d D_M_constant 59 rfl) rfl (lv_at hl 1 rfl) ?_
    refine lv_bipush (v := 67) hx hb (xb_d D_M_constant 60 rfl) (by decide) ?_
    refine lv_icmp_ne (tgt := 117) hx hb (xb_d D_M_constant 61 rfl) rfl (fun hc1 => ?_) (fun hc1 => ?_)
    · have hw := hw.1 hc1
      refine lv_bipush (v := 8) hx hb (xb_d D_M_constant 64 rfl) (by decide) ?_
      exact am_M_constant_L119 l hfl D A σ MC MS h0 Qr (w_M_constant_L105 Qr n9) ih x0 x2 x3 x5 8 x5 h hw p e s m args below meth c hC H locs ls k n hE (lv_sub hl [0, 1, 2, 3] rfl) hR hS (by omega) (by omega)
    · have hw := hw.2 hc1
      refine lv_iconst (v := 4) hx hb (xb_d D_M_constant 62 rfl) (by decide) ?_
      refine lv_goto (tgt := 119) hx hb (xb_d D_M_constant 63 rfl) rfl ?_
      exact am_M_constant_L119 l hfl D A σ MC MS h0 Qr (w_M_constant_L105 Qr n9) ih x0 x2 x3 x5 4 x5 h hw p e s m args below meth c hC H locs ls k n hE (lv_sub hl [0, 1, 2, 3] rfl) hR hS (by omega) (by omega)

set_option maxHeartbeats 4000000 in
set_option maxRecDepth 100000 in
theorem am_M_constant_L98 (l : Launch) (hfl : l.flags = pinnedFlags ++ [noTraceFlag]) (D : va_G) (A : Nat → Prop) (σ MC MS : Nat) (h0 : xb_H) (Qr : Int64 → xb_H → Prop) (x0 : Nat) (y0 : Int64) (h : xb_H) (hw : w_M_constant_L98 Qr x0 y0 h) : xb_am l D A σ 9 MC MS h0 (fun v h _ _ => ∃ r, v = some (.long r) ∧ Qr r h) (fun _ _ _ _ => False) y_M_constant.cls y_M_constant.name b_M_constant 8 ([] : List ExceptionTableEntry) (some .long) 98 [(0, .ref x0)] [.long y0] h 0 0 := by
  unfold w_M_constant_L98 at hw
  intro p e s m args below meth c hC H locs ls k n hE hl hR hS hk hn
  obtain ⟨hx, hb, hown, hlocks, htab, hml, hr, hB, hA, hnm⟩ := id hC
  have hts := hB.1.1.at args
  refine lv_lstore_n hx hb (xb_d D_M_constant 54 rfl) rfl hl (by decide) rfl (fun ls hl => ?_)
  have hl : lv_has ls 8 [(3, .long y0), (0, .ref x0)] := hl
  refine lv_goto (tgt := 142) hx hb (xb_d D_M_constant 55 rfl) rfl ?_
  exact am_M_constant_L142 l hfl D A σ MC MS h0 Qr x0 y0 h hw p e s m args below meth c hC H locs ls k n hE (lv_sub hl [1, 0] rfl) hR hS (by omega) (by omega)

set_option maxHeartbeats 4000000 in
set_option maxRecDepth 100000 in
theorem am_M_constant_L79 (l : Launch) (hfl : l.flags = pinnedFlags ++ [noTraceFlag]) (D : va_G) (A : Nat → Prop) (σ MC MS : Nat) (h0 : xb_H) (Qr : Int64 → xb_H → Prop) (x0 : Nat) (x2 : Int32) (y0 : Int32) (y1 : Nat) (h : xb_H) (hw : w_M_constant_L79 Qr x0 x2 y0 y1 h) : xb_am l D A σ 9 MC MS h0 (fun v h _ _ => ∃ r, v = some (.long r) ∧ Qr r h) (fun _ _ _ _ => False) y_M_constant.cls y_M_constant.name b_M_constant 8 ([] : List ExceptionTableEntry) (some .long) 79 [(0, .ref x0), (2, .int x2)] [.int y0, .ref y1] h 0 0 := by
  unfold w_M_constant_L79 at hw
  intro p e s m args below meth c hC H locs ls k n hE hl hR hS hk hn
  obtain ⟨hx, hb, hown, hlocks, htab, hml, hr, hB, hA, hnm⟩ := id hC
  have hts := hB.1.1.at args
  obtain ⟨hk1, hw⟩ := hw
  refine xb_call0 (D := D) (A := A) (σ := σ) (h := h) (d := 4) (maxL := 9) (rest := []) (av := [.ref y1, .int y0]) (fun T hT X => by obtain ⟨cb9, ra9, rb9, rc9⟩ := xb_recv (ci := 8) hR rfl hk1 (by decide); exact xt_invV X hx hown (hts _ m_535a6d0d) (hts _ m_4743d60a) (hts _ m_7572e2cf) (xt_sigOf (hts _ m_5f545e80)) nm_M_signed (by rw [hT]; exact ra9) rb9 rc9 (g := F0 m 79 ls [.int y0, .ref y1]) rfl (argsL := [.int y0]) (rest := []) rfl rfl (by rw [hb]; exact (xb_d D_M_constant 44 rfl))) (ok_M_signed l hfl D A σ y1 y0 h _ hw) (hml.trans hl.1.symm) (by rw [hb]; exact (xb_d D_M_constant 44 rfl)) (Nat.le_of_ble_eq_true rfl) (Nat.le_of_ble_eq_true rfl) (Nat.le_of_ble_eq_true rfl) (show k ≤ MC by omega) (show n ≤ MS by omega) (xt_w1 hB.1 m_5f545e80) (xt_cdOf hB.1 m_5f545e80) (hts _ m_d5ed7bed) hB hR hS hA (fun vv h2 H locs hq hEh2 hR hS => ?_)
  obtain ⟨r3, rfl, hw⟩ := hq
  have hw := hw hEh2
  have hE := hE.tr hEh2
  refine W.eq (g2 := F0 m 82 ls [.long r3]) rfl ?_
  refine lv_lstore_n hx hb (xb_d D_M_constant 45 rfl) rfl hl (by decide) rfl (fun ls hl => ?_)
  have hl : lv_has ls 8 [(3, .long r3), (0, .ref x0), (2, .int x2)] := hl
  refine lv_iload_n hx hb (xb_d D_M_constant 46 rfl) rfl (lv_at hl 2 rfl) ?_
  refine lv_bipush (v := 65) hx hb (xb_d D_M_constant 47 rfl) (by decide) ?_
  refine lv_icmp_ne (tgt := 97) hx hb (xb_d D_M_constant 48 rfl) rfl (fun hc4 => ?_) (fun hc4 => ?_)
  · have hw := hw.1 hc4
    refine lv_lload_n hx hb (xb_d D_M_constant 53 rfl) rfl (lv_at hl 0 rfl) ?_
    exact am_M_constant_L98 l hfl D A σ MC MS h0 Qr x0 r3 h2 hw p e s m args below meth c hC H locs ls k n hE (lv_sub hl [1] rfl) hR hS (by omega) (by omega)
  · have hw := hw.2 hc4
    refine lv_lload_n hx hb (xb_d D_M_constant 49 rfl) rfl (lv_at hl 0 rfl) ?_
    refine lv_ldc2 (v := 4294967295) hx hb hown (hts _ m_92d51c6a) (xb_d D_M_constant 50 rfl) ?_
    refine lv_land hx hb (xb_d D_M_constant 51 rfl) ?_
    refine lv_goto (tgt := 98) hx hb (xb_d D_M_constant 52 rfl) rfl ?_
    exact am_M_constant_L98 l hfl D A σ MC MS h0 Qr x0 (r3 &&& 4294967295) h2 hw p e s m args below meth c hC H locs ls k n hE (lv_sub hl [1] rfl) hR hS (by omega) (by omega)

set_option maxHeartbeats 4000000 in
set_option maxRecDepth 100000 in
theorem ok_M_constant (l : Launch) (hfl : l.flags = pinnedFlags ++ [noTraceFlag]) (D : va_G) (A : Nat → Prop) (σ : Nat) (x0 : Nat) (x1 : Int32) (h : xb_H) (Qr : Int64 → xb_H → Prop) (hw : w_M_constant x0 x1 h Qr) : xb_Met l y_M_constant [.code y_M_constant b_M_constant 8 (some .long)] (xb_rm 9 0 0) (xb_Pc D A σ h [.ref x0, .int x1]) (xb_Qc D A h 0 0 (fun v h _ _ => ∃ r, v = some (.long r) ∧ Qr r h) (fun _ _ _ _ => False)) A := by
  refine xb_ofAm (cc := b_M_constant) (by decide) (Nat.le_of_ble_eq_true rfl) ?_
  unfold w_M_constant at hw
  show xb_am l D A σ 9 0 0 h (fun v h _ _ => ∃ r, v = some (.long r) ∧ Qr r h) (fun _ _ _ _ => False) y_M_constant.cls y_M_constant.name b_M_constant 8 ([] : List ExceptionTableEntry) (some .long) 0 [(0, .ref x0), (1, .int x1)] [] h 0 0
  obtain ⟨MC, hMC⟩ : ∃ x, x = 0 := ⟨_, rfl⟩
  obtain ⟨MS, hMS⟩ : ∃ x, x = 0 := ⟨_, rfl⟩
  rw [show xb_am l D A σ 9 0 0 = xb_am l D A σ 9 MC MS by rw [hMC, hMS]]
  obtain ⟨h0, hh0⟩ : ∃ x, x = h := ⟨_, rfl⟩
  rw [show xb_am l D A σ 9 MC MS h = xb_am l D A σ 9 MC MS h0 by rw [hh0]]
  intro p e s m args below meth c hC H locs ls k n hE hl hR hS hk hn
  obtain ⟨hx, hb, hown, hlocks, htab, hml, hr, hB, hA, hnm⟩ := id hC
  have hts := hB.1.1.at args
  refine lv_aload_n hx hb (xb_d D_M_constant 0 rfl) rfl (lv_at hl 0 rfl) ?_
  obtain ⟨hk1, hw⟩ := hw
  refine xb_call0 (D := D) (A := A) (σ := σ) (h := h) (d := 3) (maxL := 2) (rest := []) (av := [.ref x0]) (fun T hT X => by obtain ⟨cb9, ra9, rb9, rc9⟩ := xb_recv (ci := 8) hR rfl hk1 (by decide); exact xt_invV X hx hown (hts _ m_0e978570) (hts _ m_40099f98) (hts _ m_a7dbfd07) (xt_sigOf (hts _ m_0af1ec6a)) nm_M_next (by rw [hT]; exact ra9) rb9 rc9 (g := F0 m 1 ls [.ref x0]) rfl (argsL := []) (rest := []) rfl rfl (by rw [hb]; exact (xb_d D_M_constant 1 rfl))) (ok_M_next l hfl D A σ x0 h _ hw) (hml.trans hl.1.symm) (by rw [hb]; exact (xb_d D_M_constant 1 rfl)) (Nat.le_of_ble_eq_true rfl) (Nat.le_of_ble_eq_true rfl) (Nat.le_of_ble_eq_true rfl) (show k ≤ MC by omega) (show n ≤ MS by omega) (xt_w1 hB.1 m_0af1ec6a) (xt_cdOf hB.1 m_0af1ec6a) (hts _ m_d5ed7bed) hB hR hS hA (fun vv h2 H locs hq hEh2 hR hS => ?_)
  obtain ⟨r3, rfl, hw⟩ := hq
  have hw := hw hEh2
  have hE := hE.tr hEh2
  refine W.eq (g2 := F0 m 4 ls [.int r3]) rfl ?_
  refine lv_istore_n hx hb (xb_d D_M_constant 2 rfl) rfl hl (by decide) rfl (fun ls hl => ?_)
  have hl : lv_has ls 8 [(2, .int r3), (0, .ref x0), (1, .int x1)] := hl
  refine lv_lconst (v := 0) hx hb (xb_d D_M_constant 3 rfl) (by decide) ?_
  refine lv_lstore_n hx hb (xb_d D_M_constant 4 rfl) rfl hl (by decide) rfl (fun ls hl => ?_)
  have hl : lv_has ls 8 [(3, .long 0), (2, .int r3), (0, .ref x0), (1, .int x1)] := hl
  refine lv_iload_n hx hb (xb_d D_M_constant 5 rfl) rfl (lv_at hl 1 rfl) ?_
  refine lv_bipush (v := 35) hx hb (xb_d D_M_constant 6 rfl) (by decide) ?_
  refine lv_icmp_ne (tgt := 59) hx hb (xb_d D_M_constant 7 rfl) rfl (fun hc4 => ?_) (fun hc4 => ?_)
  · have hw := hw.1 hc4
    refine lv_iload_n hx hb (xb_d D_M_constant 34 rfl) rfl (lv_at hl 1 rfl) ?_
    refine lv_bipush (v := 66) hx hb (xb_d D_M_constant 35 rfl) (by decide) ?_
    refine lv_icmp_gt (tgt := 102) hx hb (xb_d D_M_constant 36 rfl) rfl (fun hc5 => ?_) (fun hc5 => ?_)
    · have hw := hw.1 hc5
      refine lv_iconst (v := 0) hx hb (xb_d D_M_constant 56 rfl) (by decide) ?_
      refine lv_istore hx hb (xb_d D_M_constant 57 rfl) hl (by decide) rfl (fun ls hl => ?_)
      have hl : lv_has ls 8 [(5, .int 0), (3, .long 0), (2, .int r3), (0, .ref x0), (1, .int x1)] := hl
      obtain ⟨n8, hw⟩ := hw
      exact am_M_constant_L105 l hfl D A σ MC MS h0 Qr n8 x0 r3 0 0 h2 hw p e s m args below meth c hC H locs ls k n hE (lv_sub hl [3, 2, 1, 0] rfl) hR hS (by omega) (by omega)
    · have hw := hw.2 hc5
      refine lv_aload_n hx hb (xb_d D_M_constant 37 rfl) rfl (lv_at hl 2 rfl) ?_
      refine lv_iload_n hx hb (xb_d D_M_constant 38 rfl) rfl (lv_at hl 1 rfl) ?_
      refine lv_bipush (v := 65) hx hb (xb_d D_M_constant 39 rfl) (by decide) ?_
      refine lv_icmp_ne (tgt := 77) hx hb (xb_d D_M_constant 40 rfl) rfl (fun hc6 => ?_) (fun hc6 => ?_)
      · have hw := hw.1 hc6
        refine lv_bipush (v := 64) hx hb (xb_d D_M_constant 43 rfl) (by decide) ?_
        exact am_M_constant_L79 l hfl D A σ MC MS h0 Qr x0 r3 64 x0 h2 hw p e s m args below meth c hC H locs ls k n hE (lv_sub hl [2, 1] rfl) hR hS (by omega) (by omega)
      · have hw := hw.2 hc6
        refine lv_bipush (v := 32) hx hb (xb_d D_M_constant 41 rfl) (by decide) ?_
        refine lv_goto (tgt := 79) hx hb (xb_d D_M_constant 42 rfl) rfl ?_
        exact am_M_constant_L79 l hfl D A σ MC MS h0 Qr x0 r3 32 x0 h2 hw p e s m args below meth c hC H locs ls k n hE (lv_sub hl [2, 1] rfl) hR hS (by omega) (by omega)
  · have hw := hw.2 hc4
    refine lv_aload_n hx hb (xb_d D_M_constant 8 rfl) rfl (lv_at hl 2 rfl) ?_
    have hk1 : xb_k h2 x0 = 9 := hEh2.k hk1
    refine xb_call0 (D := D) (A := A) (σ := σ) (h := h2) (d := 4) (maxL := 5) (rest := []) (av := [.ref x0]) (fun T hT X => by obtain ⟨cb9, ra9, rb9, rc9⟩ := xb_recv (ci := 8) hR rfl hk1 (by decide); exact xt_invV X hx hown (hts _ m_e991293f) (hts _ m_385a74b3) (hts _ m_c9fbcd02) (xt_sigOf (hts _ m_1f53f210)) nm_M_count (by rw [hT]; exact ra9) rb9 rc9 (g := F0 m 14 ls [.ref x0]) rfl (argsL := []) (rest := []) rfl rfl (by rw [hb]; exact (xb_d D_M_constant 9 rfl))) (ok_M_count l hfl D A σ x0 h2 _ hw) (hml.trans hl.1.symm) (by rw [hb]; exact (xb_d D_M_constant 9 rfl)) (Nat.le_of_ble_eq_true rfl) (Nat.le_of_ble_eq_true rfl) (Nat.le_of_ble_eq_true rfl) (show k ≤ MC by omega) (show n ≤ MS by omega) (xt_w1 hB.1 m_1f53f210) (xt_cdOf hB.1 m_1f53f210) (hts _ m_d5ed7bed) hB hR hS hA (fun vv h7 H locs hq hEh7 hR hS => ?_)
    obtain ⟨r8, rfl, hw⟩ := hq
    have hw := hw hEh7
    have hE := hE.tr hEh7
    refine W.eq (g2 := F0 m 17 ls [.long r8]) rfl ?_
    refine lv_l2i hx hb (xb_d D_M_constant 10 rfl) rfl ?_
    obtain ⟨v9, ev9⟩ : ∃ x : Int32, x = (Int64.toInt32 r8) := ⟨_, rfl⟩
    have hw := hw v9 ev9
    refine xt_numi (y := v9) ev9.symm ?_
    refine lv_istore hx hb (xb_d D_M_constant 11 rfl) hl (by decide) rfl (fun ls hl => ?_)
    have hl : lv_has ls 8 [(5, .int v9), (3, .long 0), (2, .int r3), (0, .ref x0), (1, .int x1)] := hl
    refine lv_aload_n hx hb (xb_d D_M_constant 12 rfl) rfl (lv_at hl 3 rfl) ?_
    have hk1 : xb_k h7 x0 = 9 := hEh7.k hk1
    refine xb_getI (C := R_M) (T := F_M) (N := 97) hx hb 8 15 hts fin_M hown hR hk1 (by decide) rfl (by decide) rfl (hts _ m_6c2d27ad) (fun _ h9 => h9) (xb_d D_M_constant 13 rfl) ?_
    obtain ⟨v10, ev10⟩ : ∃ x : Int32, x = (xb_i h7 x0 15) := ⟨_, rfl⟩
    have hw := hw v10 ev10
    refine xt_numi (y := v10) ev10.symm ?_
    refine lv_istore hx hb (xb_d D_M_constant 14 rfl) hl (by decide) rfl (fun ls hl => ?_)
    have hl : lv_has ls 8 [(6, .int v10), (5, .int v9), (3, .long 0), (2, .int r3), (0, .ref x0), (1, .int x1)] := hl
    refine lv_aload_n hx hb (xb_d D_M_constant 15 rfl) rfl (lv_at hl 4 rfl) ?_
    refine xb_getP (C := R_M) (T := F_M) (N := 97) hx hb 8 31 hts fin_M hown hR hk1 (by decide) rfl (by decide) rfl (hts _ m_691d5f47) (fun _ h9 => h9) (xb_d D_M_constant 16 rfl) ?_
    obtain ⟨b11, eb11, hw⟩ := hw
    refine xb_some eb11 ?_
    refine lv_iload_n hx hb (xb_d D_M_constant 17 rfl) rfl (lv_at hl 5 rfl) ?_
    obtain ⟨hk13, hw⟩ := hw
    obtain ⟨hi12, hw⟩ := hw
    refine xb_iald hx hb hR hk13 hi12 (xb_d D_M_constant 18 rfl) ?_
    obtain ⟨v14, ev14⟩ : ∃ x : Int32, x = (xb_i h7 b11 (Int32.toNatClampNeg x1)) := ⟨_, rfl⟩
    have hw := hw v14 ev14
    refine xt_numi (y := v14) ev14.symm ?_
    refine lv_istore hx hb (xb_d D_M_constant 19 rfl) hl (by decide) rfl (fun ls hl => ?_)
    have hl : lv_has ls 8 [(7, .int v14), (6, .int v10), (5, .int v9), (3, .long 0), (2, .int r3), (0, .ref x0), (1, .int x1)] := hl
    refine lv_aload_n hx hb (xb_d D_M_constant 20 rfl) rfl (lv_at hl 5 rfl) ?_
    refine xb_getP (C := R_M) (T := F_M) (N := 97) hx hb 8 61 hts fin_M hown hR hk1 (by decide) rfl (by decide) rfl (hts _ m_418ce3a7) (fun _ h9 => h9) (xb_d D_M_constant 21 rfl) ?_
    obtain ⟨b15, eb15, hw⟩ := hw
    refine xb_some eb15 ?_
    refine lv_aload_n hx hb (xb_d D_M_constant 22 rfl) rfl (lv_at hl 5 rfl) ?_
    refine lv_iload_n hx hb (xb_d D_M_constant 23 rfl) rfl (lv_at hl 6 rfl) ?_
    refine lv_iconst (v := 3) hx hb (xb_d D_M_constant 24 rfl) (by decide) ?_
    refine lv_iload hx hb (xb_d D_M_constant 25 rfl) (lv_at hl 2 rfl) ?_
    refine xb_call0 (D := D) (A := A) (σ := σ) (h := h7) (d := 8) (maxL := 6) (rest := [.ref b15]) (av := [.ref x0, .int x1, .int 3, .int v9]) (fun T hT X => by obtain ⟨cb9, ra9, rb9, rc9⟩ := xb_recv (ci := 8) hR rfl hk1 (by decide); exact xt_invV X hx hown (hts _ m_5ec466f2) (hts _ m_f0f1d102) (hts _ m_cfa25922) (xt_sigOf (hts _ m_59347bba)) nm_M_meant (by rw [hT]; exact ra9) rb9 rc9 (g := F0 m 43 ls [.int v9, .int 3, .int x1, .ref x0, .ref b15]) rfl (argsL := [.int x1, .int 3, .int v9]) (rest := [.ref b15]) rfl rfl (by rw [hb]; exact (xb_d D_M_constant 26 rfl))) (ok_M_meant l hfl D A σ x0 x1 3 v9 h7 _ hw) (hml.trans hl.1.symm) (by rw [hb]; exact (xb_d D_M_constant 26 rfl)) (Nat.le_of_ble_eq_true rfl) (Nat.le_of_ble_eq_true rfl) (Nat.le_of_ble_eq_true rfl) (show k ≤ MC by omega) (show n ≤ MS by omega) (xt_w1 hB.1 m_59347bba) (xt_cdOf hB.1 m_59347bba) (hts _ m_d5ed7bed) hB hR hS hA (fun vv h16 H locs hq hEh16 hR hS => ?_)
    obtain ⟨r17, rfl, hw⟩ := hq
    have hw := hw hEh16
    have hE := hE.tr hEh16
    refine W.eq (g2 := F0 m 46 ls [.int r17, .ref b15]) rfl ?_
    obtain ⟨hk19, hw⟩ := hw
    obtain ⟨hi18, hw⟩ := hw
    refine xb_lald hx hb hR hk19 hi18 (xb_d D_M_constant 27 rfl) ?_
    obtain ⟨v20, ev20⟩ : ∃ x : Int64, x = (xb_l h16 b15 (Int32.toNatClampNeg r17)) := ⟨_, rfl⟩
    have hw := hw v20 ev20
    refine xt_numl (y := v20) ev20.symm ?_
    refine lv_lstore_n hx hb (xb_d D_M_constant 28 rfl) rfl hl (by decide) rfl (fun ls hl => ?_)
    have hl : lv_has ls 8 [(3, .long v20), (7, .int v14), (6, .int v10), (5, .int v9), (2, .int r3), (0, .ref x0), (1, .int x1)] := hl
    refine lv_aload_n hx hb (xb_d D_M_constant 29 rfl) rfl (lv_at hl 5 rfl) ?_
    refine lv_iload hx hb (xb_d D_M_constant 30 rfl) (lv_at hl 1 rfl) ?_
    refine lv_iload hx hb (xb_d D_M_constant 31 rfl) (lv_at hl 2 rfl) ?_
    have hk1 : xb_k h16 x0 = 9 := hEh16.k hk1
    refine xb_call0 (D := D) (A := A) (σ := σ) (h := h16) (d := 2) (maxL := 3) (rest := []) (av := [.ref x0, .int v14, .int v10]) (fun T hT X => by obtain ⟨cb9, ra9, rb9, rc9⟩ := xb_recv (ci := 8) hR rfl hk1 (by decide); exact xt_invV X hx hown (hts _ m_bb531879) (hts _ m_4a6cd4a0) (hts _ m_d1c31e3c) (xt_sigOf (hts _ m_48217fba)) nm_M_go (by rw [hT]; exact ra9) rb9 rc9 (g := F0 m 53 ls [.int v10, .int v14, .ref x0]) rfl (argsL := [.int v14, .int v10]) (rest := []) rfl rfl (by rw [hb]; exact (xb_d D_M_constant 32 rfl))) (ok_M_go l hfl D A σ x0 v14 v10 h16 _ hw) (hml.trans hl.1.symm) (by rw [hb]; exact (xb_d D_M_constant 32 rfl)) (Nat.le_of_ble_eq_true rfl) (Nat.le_of_ble_eq_true rfl) (Nat.le_of_ble_eq_true rfl) (show k ≤ MC by omega) (show n ≤ MS by omega) (xt_w1 hB.1 m_48217fba) (xt_cdOf hB.1 m_48217fba) (hts _ m_d5ed7bed) hB hR hS hA (fun vv h21 H locs hq hEh21 hR hS => ?_)
    obtain ⟨rfl, hw⟩ := hq
    have hw := hw hEh21
    have hE := hE.tr hEh21
    refine W.eq (g2 := F0 m 56 ls []) rfl ?_
    refine lv_goto (tgt := 142) hx hb (xb_d D_M_constant 33 rfl) rfl ?_
    exact am_M_constant_L142 l hfl D A σ MC MS h0 Qr x0 v20 h21 hw p e s m args below meth c hC H locs ls k n hE (lv_sub hl [5, 0] rfl) hR hS (by omega) (by omega)

theorem m_14d7039e : (.methodLink "StackHostModel" 490 y_M_sameType : Cond) ∈ xt_tbl := xt_in (xt_t12 (List.mem_of_getElem? (i := 74) (by decide +kernel))) (by decide +kernel)
theorem m_3d0481d0 : (.instanceMethod y_M_sameType : Cond) ∈ xt_tbl := xt_in (xt_t12 (List.mem_of_getElem? (i := 76) (by decide +kernel))) (by decide +kernel)
theorem m_3b112efa : (.selects "StackHostModel" y_M_sameType y_M_sameType : Cond) ∈ xt_tbl := xt_in (xt_v13 (q := (⟨"StackHostModel", "sameType", "(IIII)Z"⟩, 97)) (List.mem_of_getElem? (i := 11) (by decide +kernel))) (by decide +kernel)
theorem m_369f88c3 : (.code y_M_sameType b_M_sameType 8 (some .boolean) : Cond) ∈ xt_tbl := xt_in (xt_t12 (List.mem_of_getElem? (i := 77) (by decide +kernel))) (by decide +kernel)
theorem nm_M_sameType : xt_nm y_M_sameType 4 := ⟨by decide +kernel, by decide +kernel⟩
set_option maxRecDepth 100000 in
def T_M_hasType : List (Nat × Instr × Nat) := [(0, .iload_n 1, 1), (1, .ldc_w 489, 3), (4, .if_icmp .lt 48, 3), (7, .aload_n 0, 1), (8, .iload_n 2, 1), (9, .iload_n 3, 1), (10, .invokevirtual 333, 3), (13, .iconst 1, 1), (14, .if_icmp .ne 36, 3), (17, .aload_n 0, 1), (18, .iload_n 2, 1), (19, .iload_n 3, 1), (20, .iconst 0, 1), (21, .invokevirtual 339, 3), (24, .bipush 127, 2), (26, .iload_n 1, 1), (27, .ldc_w 489, 3), (30, .isub, 1), (31, .isub, 1), (32, .if_icmp .ne 18, 3), (35, .aload_n 0, 1), (36, .iload_n 2, 1), (37, .iload_n 3, 1), (38, .invokevirtual 336, 3), (41, .bipush 64, 2), (43, .if_icmp .ne 7, 3), (46, .iconst 1, 1), (47, .goto 4, 3), (50, .iconst 0, 1), (51, .ireturn, 1), (52, .aload_n 0, 1), (53, .getfield 62, 3), (56, .aload_n 0, 1), (57, .getfield 92, 3), (60, .iload_n 1, 1), (61, .iaload, 1), (62, .iaload, 1), (63, .istore 4, 2), (65, .aload_n 0, 1), (66, .iload_n 2, 1), (67, .iload_n 3, 1), (68, .iload 4, 2), (70, .aload_n 0, 1), (71, .iload 4, 2), (73, .aload_n 0, 1), (74, .getfield 30, 3), (77, .iconst 4, 1), (78, .iload 4, 2), (80, .imul, 1), (81, .iaload, 1), (82, .aload_n 0, 1), (83, .getfield 95, 3), (86, .iload_n 1, 1), (87, .iaload, 1), (88, .iadd, 1), (89, .invokevirtual 369, 3), (92, .invokevirtual 490, 3), (95, .ireturn, 1)]
theorem D_M_hasType : ∀ q ∈ T_M_hasType, decode b_M_hasType q.1 = .ok (q.2.1, q.2.2) := by decide +kernel

set_option maxHeartbeats 4000000 in
set_option maxRecDepth 100000 in
theorem am_M_hasType_L51 (l : Launch) (hfl : l.flags = pinnedFlags ++ [noTraceFlag]) (D : va_G) (A : Nat → Prop) (σ MC MS : Nat) (h0 : xb_H) (Qr : Int32 → xb_H → Prop) (y0 : Int32) (h : xb_H) (hw : w_M_hasType_L51 Qr y0 h) : xb_am l D A σ 9 MC MS h0 (fun v h _ _ => ∃ r, v = some (.int r) ∧ Qr r h) (fun _ _ _ _ => False) y_M_hasType.cls y_M_hasType.name b_M_hasType 5 ([] : List ExceptionTableEntry) (some .boolean) 51 [] [.int y0] h 0 0 := by
  unfold w_M_hasType_L51 at hw
  intro p e s m args below meth c hC H locs ls k n hE hl hR hS hk hn
  obtain ⟨hx, hb, hown, hlocks, htab, hml, hr, hB, hA, hnm⟩ := id hC
  have hts := hB.1.1.at args
  exact xb_zret 0 0 hx hb hr hlocks (show k + 0 ≤ MC by omega) (show n + 0 ≤ MS by omega) hw.1 hE hR hS (xb_d D_M_hasType 29 rfl) hw.2

set_option maxHeartbeats 4000000 in
set_option maxRecDepth 100000 in
theorem am_M_hasType_L50 (l : Launch) (hfl : l.flags = pinnedFlags ++ [noTraceFlag]) (D : va_G) (A : Nat → Prop) (σ MC MS : Nat) (h0 : xb_H) (Qr : Int32 → xb_H → Prop) (h : xb_H) (hw : w_M_hasType_L50 Qr h) : xb_am l D A σ 9 MC MS h0 (fun v h _ _ => ∃ r, v = some (.int r) ∧ Qr r h) (fun _ _ _ _ => False) y_M_hasType.cls y_M_hasType.name b_M_hasType 5 ([] : List ExceptionTableEntry) (some .boolean) 50 [] [] h 0 0 := by
  unfold w_M_hasType_L50 at hw
  intro p e s m args below meth c hC H locs ls k n hE hl hR hS hk hn
  obtain ⟨hx, hb, hown, hlocks, htab, hml, hr, hB, hA, hnm⟩ := id hC
  have hts := hB.1.1.at args
  refine lv_iconst (v := 0) hx hb (xb_d D_M_hasType 28 rfl) (by decide) ?_
  exact am_M_hasType_L51 l hfl D A σ MC MS h0 Qr 0 h hw p e s m args below meth c hC H locs ls k n hE (lv_sub hl [] rfl) hR hS (by omega) (by omega)

set_option maxHeartbeats 4000000 in
set_option maxRecDepth 100000 in
theorem ok_M_hasType (l : Launch) (hfl : l.flags = pinnedFlags ++ [noTraceFlag]) (D : va_G) (A : Nat → Prop) (σ : Nat) (x0 : Nat) (x1 : Int32) (x2 : Int32) (x3 : Int32) (h : xb_H) (Qr : Int32 → xb_H → Prop) (hw : w_M_hasType x0 x1 x2 x3 h Qr) : xb_Met l y_M_hasType [.code y_M_hasType b_M_hasType 5 (some .boolean)] (xb_rm 9 0 0) (xb_Pc D A σ h [.ref x0, .int x1, .int x2, .int x3]) (xb_Qc D A h 0 0 (fun v h _ _ => ∃ r, v = some (.int r) ∧ Qr r h) (fun _ _ _ _ => False)) A := by
  refine xb_ofAm (cc := b_M_hasType) (by decide) (Nat.le_of_ble_eq_true rfl) ?_
  unfold w_M_hasType at hw
  show xb_am l D A σ 9 0 0 h (fun v h _ _ => ∃ r, v = some (.int r) ∧ Qr r h) (fun _ _ _ _ => False) y_M_hasType.cls y_M_hasType.name b_M_hasType 5 ([] : List ExceptionTableEntry) (some .boolean) 0 [(0, .ref x0), (1, .int x1), (2, .int x2), (3, .int x3)] [] h 0 0
  obtain ⟨MC, hMC⟩ : ∃ x, x = 0 := ⟨_, rfl⟩
  obtain ⟨MS, hMS⟩ : ∃ x, x = 0 := ⟨_, rfl⟩
  rw [show xb_am l D A σ 9 0 0 = xb_am l D A σ 9 MC MS by rw [hMC, hMS]]
  obtain ⟨h0, hh0⟩ : ∃ x, x = h := ⟨_, rfl⟩
  rw [show xb_am l D A σ 9 MC MS h = xb_am l D A σ 9 MC MS h0 by rw [hh0]]
  intro p e s m args below meth c hC H locs ls k n hE hl hR hS hk hn
  obtain ⟨hx, hb, hown, hlocks, htab, hml, hr, hB, hA, hnm⟩ := id hC
  have hts := hB.1.1.at args
  refine lv_iload_n hx hb (xb_d D_M_hasType 0 rfl) rfl (lv_at hl 1 rfl) ?_
  refine lv_ldcw (v := 100000) hx hb hown (hts _ m_0517c3da) (xb_d D_M_hasType 1 rfl) ?_
  refine lv_icmp_lt (tgt := 52) hx hb (xb_d D_M_hasType 2 rfl) rfl (fun hc1 => ?_) (fun hc1 => ?_)
  · have hw := hw.1 hc1
    refine lv_aload_n hx hb (xb_d D_M_hasType 30 rfl) rfl (lv_at hl 0 rfl) ?_
    obtain ⟨hk2, hw⟩ := hw
    refine xb_getP (C := R_M) (T := F_M) (N := 97) hx hb 8 31 hts fin_M hown hR hk2 (by decide) rfl (by decide) rfl (hts _ m_691d5f47) (fun _ h9 => h9) (xb_d D_M_hasType 31 rfl) ?_
    obtain ⟨b3, eb3, hw⟩ := hw
    refine xb_some eb3 ?_
    refine lv_aload_n hx hb (xb_d D_M_hasType 32 rfl) rfl (lv_at hl 0 rfl) ?_
    refine xb_getP (C := R_M) (T := F_M) (N := 97) hx hb 8 44 hts fin_M hown hR hk2 (by decide) rfl (by decide) rfl (hts _ m_ad0cc5a3) (fun _ h9 => h9) (xb_d D_M_hasType 33 rfl) ?_
    obtain ⟨b4, eb4, hw⟩ := hw
    refine xb_some eb4 ?_
    refine lv_iload_n hx hb (xb_d D_M_hasType 34 rfl) rfl (lv_at hl 1 rfl) ?_
    obtain ⟨hk6, hw⟩ := hw
    obtain ⟨hi5, hw⟩ := hw
    refine xb_iald hx hb hR hk6 hi5 (xb_d D_M_hasType 35 rfl) ?_
    obtain ⟨hk8, hw⟩ := hw
    obtain ⟨hi7, hw⟩ := hw
    refine xb_iald hx hb hR hk8 hi7 (xb_d D_M_hasType 36 rfl) ?_
    obtain ⟨v9, ev9⟩ : ∃ x : Int32, x = (xb_i h b3 (Int32.toNatClampNeg (xb_i h b4 (Int32.toNatClampNeg x1)))) := ⟨_, rfl⟩
    have hw := hw v9 ev9
    refine xt_numi (y := v9) ev9.symm ?_
    refine lv_istore hx hb (xb_d D_M_hasType 37 rfl) hl (by decide) rfl (fun ls hl => ?_)
    have hl : lv_has ls 5 [(4, .int v9), (0, .ref x0), (1, .int x1), (2, .int x2), (3, .int x3)] := hl
    refine lv_aload_n hx hb (xb_d D_M_hasType 38 rfl) rfl (lv_at hl 1 rfl) ?_
    refine lv_iload_n hx hb (xb_d D_M_hasType 39 rfl) rfl (lv_at hl 3 rfl) ?_
    refine lv_iload_n hx hb (xb_d D_M_hasType 40 rfl) rfl (lv_at hl 4 rfl) ?_
    refine lv_iload hx hb (xb_d D_M_hasType 41 rfl) (lv_at hl 0 rfl) ?_
    refine lv_aload_n hx hb (xb_d D_M_hasType 42 rfl) rfl (lv_at hl 1 rfl) ?_
    refine lv_iload hx hb (xb_d D_M_hasType 43 rfl) (lv_at hl 0 rfl) ?_
    refine lv_aload_n hx hb (xb_d D_M_hasType 44 rfl) rfl (lv_at hl 1 rfl) ?_
    refine xb_getP (C := R_M) (T := F_M) (N := 97) hx hb 8 10 hts fin_M hown hR hk2 (by decide) rfl (by decide) rfl (hts _ m_01d0d957) (fun _ h9 => h9) (xb_d D_M_hasType 45 rfl) ?_
    obtain ⟨b10, eb10, hw⟩ := hw
    refine xb_some eb10 ?_
    refine lv_iconst (v := 4) hx hb (xb_d D_M_hasType 46 rfl) (by decide) ?_
    refine lv_iload hx hb (xb_d D_M_hasType 47 rfl) (lv_at hl 0 rfl) ?_
    refine lv_imul hx hb (xb_d D_M_hasType 48 rfl) ?_
    obtain ⟨hk12, hw⟩ := hw
    obtain ⟨hi11, hw⟩ := hw
    refine xb_iald hx hb hR hk12 hi11 (xb_d D_M_hasType 49 rfl) ?_
    refine lv_aload_n hx hb (xb_d D_M_hasType 50 rfl) rfl (lv_at hl 1 rfl) ?_
    refine xb_getP (C := R_M) (T := F_M) (N := 97) hx hb 8 45 hts fin_M hown hR hk2 (by decide) rfl (by decide) rfl (hts _ m_4c98e665) (fun _ h9 => h9) (xb_d D_M_hasType 51 rfl) ?_
    obtain ⟨b13, eb13, hw⟩ := hw
    refine xb_some eb13 ?_
    refine lv_iload_n hx hb (xb_d D_M_hasType 52 rfl) rfl (lv_at hl 2 rfl) ?_
    obtain ⟨hk15, hw⟩ := hw
    obtain ⟨hi14, hw⟩ := hw
    refine xb_iald hx hb hR hk15 hi14 (xb_d D_M_hasType 53 rfl) ?_
    refine lv_iadd hx hb (xb_d D_M_hasType 54 rfl) ?_
    refine xb_call0 (D := D) (A := A) (σ := σ) (h := h) (d := 8) (maxL := 4) (rest := [.int v9, .int x3, .int x2, .ref x0]) (av := [.ref x0, .int v9, .int ((xb_i h b10 (Int32.toNatClampNeg (4 * v9))) + (xb_i h b13 (Int32.toNatClampNeg x1)))]) (fun T hT X => by obtain ⟨cb9, ra9, rb9, rc9⟩ := xb_recv (ci := 8) hR rfl hk2 (by decide); exact xt_invV X hx hown (hts _ m_1d203cc1) (hts _ m_0a0483ac) (hts _ m_42615324) (xt_sigOf (hts _ m_44f87caf)) nm_M_typeOf (by rw [hT]; exact ra9) rb9 rc9 (g := F0 m 89 ls [.int ((xb_i h b10 (Int32.toNatClampNeg (4 * v9))) + (xb_i h b13 (Int32.toNatClampNeg x1))), .int v9, .ref x0, .int v9, .int x3, .int x2, .ref x0]) rfl (argsL := [.int v9, .int ((xb_i h b10 (Int32.toNatClampNeg (4 * v9))) + (xb_i h b13 (Int32.toNatClampNeg x1)))]) (rest := [.int v9, .int x3, .int x2, .ref x0]) rfl rfl (by rw [hb]; exact (xb_d D_M_hasType 55 rfl))) (ok_M_typeOf l hfl D A σ x0 v9 ((xb_i h b10 (Int32.toNatClampNeg (4 * v9))) + (xb_i h b13 (Int32.toNatClampNeg x1))) h _ hw) (hml.trans hl.1.symm) (by rw [hb]; exact (xb_d D_M_hasType 55 rfl)) (Nat.le_of_ble_eq_true rfl) (Nat.le_of_ble_eq_true rfl) (Nat.le_of_ble_eq_true rfl) (show k ≤ MC by omega) (show n ≤ MS by omega) (xt_w1 hB.1 m_44f87caf) (xt_cdOf hB.1 m_44f87caf) (hts _ m_d5ed7bed) hB hR hS hA (fun vv h16 H locs hq hEh16 hR hS => ?_)
    obtain ⟨r17, rfl, hw⟩ := hq
    have hw := hw hEh16
    have hE := hE.tr hEh16
    refine W.eq (g2 := F0 m 92 ls [.int r17, .int v9, .int x3, .int x2, .ref x0]) rfl ?_
    have hk2 : xb_k h16 x0 = 9 := hEh16.k hk2
    refine xb_call0 (D := D) (A := A) (σ := σ) (h := h16) (d := 7) (maxL := 8) (rest := []) (av := [.ref x0, .int x2, .int x3, .int v9, .int r17]) (fun T hT X => by obtain ⟨cb9, ra9, rb9, rc9⟩ := xb_recv (ci := 8) hR rfl hk2 (by decide); exact xt_invV X hx hown (hts _ m_14d7039e) (hts _ m_3d0481d0) (hts _ m_3b112efa) (xt_sigOf (hts _ m_369f88c3)) nm_M_sameType (by rw [hT]; exact ra9) rb9 rc9 (g := F0 m 92 ls [.int r17, .int v9, .int x3, .int x2, .ref x0]) rfl (argsL := [.int x2, .int x3, .int v9, .int r17]) (rest := []) rfl rfl (by rw [hb]; exact (xb_d D_M_hasType 56 rfl))) (ok_M_sameType l hfl D A σ x0 x2 x3 v9 r17 h16 _ hw) (hml.trans hl.1.symm) (by rw [hb]; exact (xb_d D_M_hasType 56 rfl)) (Nat.le_of_ble_eq_true rfl) (Nat.le_of_ble_eq_true rfl) (Nat.le_of_ble_eq_true rfl) (show k ≤ MC by omega) (show n ≤ MS by omega) (xt_w1 hB.1 m_369f88c3) (xt_cdOf hB.1 m_369f88c3) (hts _ m_d5ed7bed) hB hR hS hA (fun vv h18 H locs hq hEh18 hR hS => ?_)
    obtain ⟨r19, rfl, hw⟩ := hq
    have hw := hw hEh18
    have hE := hE.tr hEh18
    refine W.eq (g2 := F0 m 95 ls [.int r19]) rfl ?_
    exact xb_zret 0 0 hx hb hr hlocks (show k + 0 ≤ MC by omega) (show n + 0 ≤ MS by omega) hw.1 hE hR hS (xb_d D_M_hasType 57 rfl) hw.2
  · have hw := hw.2 hc1
    refine lv_aload_n hx hb (xb_d D_M_hasType 3 rfl) rfl (lv_at hl 0 rfl) ?_
    refine lv_iload_n hx hb (xb_d D_M_hasType 4 rfl) rfl (lv_at hl 2 rfl) ?_
    refine lv_iload_n hx hb (xb_d D_M_hasType 5 rfl) rfl (lv_at hl 3 rfl) ?_
    obtain ⟨hk20, hw⟩ := hw
    refine xb_call0 (D := D) (A := A) (σ := σ) (h := h) (d := 5) (maxL := 3) (rest := []) (av := [.ref x0, .int x2, .int x3]) (fun T hT X => by obtain ⟨cb9, ra9, rb9, rc9⟩ := xb_recv (ci := 8) hR rfl hk20 (by decide); exact xt_invV X hx hown (hts _ m_4fd64ef0) (hts _ m_2eb48211) (hts _ m_ff1f4a94) (xt_sigOf (hts _ m_2faa0c5c)) nm_M_parameters (by rw [hT]; exact ra9) rb9 rc9 (g := F0 m 10 ls [.int x3, .int x2, .ref x0]) rfl (argsL := [.int x2, .int x3]) (rest := []) rfl rfl (by rw [hb]; exact (xb_d D_M_hasType 6 rfl))) (ok_M_parameters l hfl D A σ x0 x2 x3 h _ hw) (hml.trans hl.1.symm) (by rw [hb]; exact (xb_d D_M_hasType 6 rfl)) (Nat.le_of_ble_eq_true rfl) (Nat.le_of_ble_eq_true rfl) (Nat.le_of_ble_eq_true rfl) (show k ≤ MC by omega) (show n ≤ MS by omega) (xt_w1 hB.1 m_2faa0c5c) (xt_cdOf hB.1 m_2faa0c5c) (hts _ m_d5ed7bed) hB hR hS hA (fun vv h21 H locs hq hEh21 hR hS => ?_)
    obtain ⟨r22, rfl, hw⟩ := hq
    have hw := hw hEh21
    have hE := hE.tr hEh21
    refine W.eq (g2 := F0 m 13 ls [.int r22]) rfl ?_
    refine lv_iconst (v := 1) hx hb (xb_d D_M_hasType 7 rfl) (by decide) ?_
    refine lv_icmp_ne (tgt := 50) hx hb (xb_d D_M_hasType 8 rfl) rfl (fun hc23 => ?_) (fun hc23 => ?_)
    · have hw := hw.1 hc23
      exact am_M_hasType_L50 l hfl D A σ MC MS h0 Qr h21 hw p e s m args below meth c hC H locs ls k n hE (lv_sub hl [] rfl) hR hS (by omega) (by omega)
    · have hw := hw.2 hc23
      refine lv_aload_n hx hb (xb_d D_M_hasType 9 rfl) rfl (lv_at hl 0 rfl) ?_
      refine lv_iload_n hx hb (xb_d D_M_hasType 10 rfl) rfl (lv_at hl 2 rfl) ?_
      refine lv_iload_n hx hb (xb_d D_M_hasType 11 rfl) rfl (lv_at hl 3 rfl) ?_
      refine lv_iconst (v := 0) hx hb (xb_d D_M_hasType 12 rfl) (by decide) ?_
      have hk20 : xb_k h21 x0 = 9 := hEh21.k hk20
      refine xb_call0 (D := D) (A := A) (σ := σ) (h := h21) (d := 6) (maxL := 5) (rest := []) (av := [.ref x0, .int x2, .int x3, .int 0]) (fun T hT X => by obtain ⟨cb9, ra9, rb9, rc9⟩ := xb_recv (ci := 8) hR rfl hk20 (by decide); exact xt_invV X hx hown (hts _ m_6138b594) (hts _ m_177929d7) (hts _ m_ef9b6e50) (xt_sigOf (hts _ m_9ea8a027)) nm_M_parameter (by rw [hT]; exact ra9) rb9 rc9 (g := F0 m 21 ls [.int 0, .int x3, .int x2, .ref x0]) rfl (argsL := [.int x2, .int x3, .int 0]) (rest := []) rfl rfl (by rw [hb]; exact (xb_d D_M_hasType 13 rfl))) (ok_M_parameter l hfl D A σ x0 x2 x3 0 h21 _ hw) (hml.trans hl.1.symm) (by rw [hb]; exact (xb_d D_M_hasType 13 rfl)) (Nat.le_of_ble_eq_true rfl) (Nat.le_of_ble_eq_true rfl) (Nat.le_of_ble_eq_true rfl) (show k ≤ MC by omega) (show n ≤ MS by omega) (xt_w1 hB.1 m_9ea8a027) (xt_cdOf hB.1 m_9ea8a027) (hts _ m_d5ed7bed) hB hR hS hA (fun vv h24 H locs hq hEh24 hR hS => ?_)
      obtain ⟨r25, rfl, hw⟩ := hq
      have hw := hw hEh24
      have hE := hE.tr hEh24
      refine W.eq (g2 := F0 m 24 ls [.int r25]) rfl ?_
      refine lv_bipush (v := 127) hx hb (xb_d D_M_hasType 14 rfl) (by decide) ?_
      refine lv_iload_n hx hb (xb_d D_M_hasType 15 rfl) rfl (lv_at hl 1 rfl) ?_
      refine lv_ldcw (v := 100000) hx hb hown (hts _ m_0517c3da) (xb_d D_M_hasType 16 rfl) ?_
      refine lv_isub hx hb (xb_d D_M_hasType 17 rfl) ?_
      refine lv_isub hx hb (xb_d D_M_hasType 18 rfl) ?_
      refine lv_icmp_ne (tgt := 50) hx hb (xb_d D_M_hasType 19 rfl) rfl (fun hc26 => ?_) (fun hc26 => ?_)
      · have hw := hw.1 hc26
        exact am_M_hasType_L50 l hfl D A σ MC MS h0 Qr h24 hw p e s m args below meth c hC H locs ls k n hE (lv_sub hl [] rfl) hR hS (by omega) (by omega)
      · have hw := hw.2 hc26
        refine lv_aload_n hx hb (xb_d D_M_hasType 20 rfl) rfl (lv_at hl 0 rfl) ?_
        refine lv_iload_n hx hb (xb_d D_M_hasType 21 rfl) rfl (lv_at hl 2 rfl) ?_
        refine lv_iload_n hx hb (xb_d D_M_hasType 22 rfl) rfl (lv_at hl 3 rfl) ?_
        have hk20 : xb_k h24 x0 = 9 := hEh24.k hk20
        refine xb_call0 (D := D) (A := A) (σ := σ) (h := h24) (d := 6) (maxL := 4) (rest := []) (av := [.ref x0, .int x2, .int x3]) (fun T hT X => by obtain ⟨cb9, ra9, rb9, rc9⟩ := xb_recv (ci := 8) hR rfl hk20 (by decide); exact xt_invV X hx hown (hts _ m_bd023100) (hts _ m_d08a9c75) (hts _ m_9ac7cfcb) (xt_sigOf (hts _ m_9dee8e5c)) nm_M_resultOf (by rw [hT]; exact ra9) rb9 rc9 (g := F0 m 38 ls [.int x3, .int x2, .ref x0]) rfl (argsL := [.int x2, .int x3]) (rest := []) rfl rfl (by rw [hb]; exact (xb_d D_M_hasType 23 rfl))) (ok_M_resultOf l hfl D A σ x0 x2 x3 h24 _ hw) (hml.trans hl.1.symm) (by rw [hb]; exact (xb_d D_M_hasType 23 rfl)) (Nat.le_of_ble_eq_true rfl) (Nat.le_of_ble_eq_true rfl) (Nat.le_of_ble_eq_true rfl) (show k ≤ MC by omega) (show n ≤ MS by omega) (xt_w1 hB.1 m_9dee8e5c) (xt_cdOf hB.1 m_9dee8e5c) (hts _ m_d5ed7bed) hB hR hS hA (fun vv h27 H locs hq hEh27 hR hS => ?_)
        obtain ⟨r28, rfl, hw⟩ := hq
        have hw := hw hEh27
        have hE := hE.tr hEh27
        refine W.eq (g2 := F0 m 41 ls [.int r28]) rfl ?_
        refine lv_bipush (v := 64) hx hb (xb_d D_M_hasType 24 rfl) (by decide) ?_
        refine lv_icmp_ne (tgt := 50) hx hb (xb_d D_M_hasType 25 rfl) rfl (fun hc29 => ?_) (fun hc29 => ?_)
        · have hw := hw.1 hc29
          exact am_M_hasType_L50 l hfl D A σ MC MS h0 Qr h27 hw p e s m args below meth c hC H locs ls k n hE (lv_sub hl [] rfl) hR hS (by omega) (by omega)
        · have hw := hw.2 hc29
          refine lv_iconst (v := 1) hx hb (xb_d D_M_hasType 26 rfl) (by decide) ?_
          refine lv_goto (tgt := 51) hx hb (xb_d D_M_hasType 27 rfl) rfl ?_
          exact am_M_hasType_L51 l hfl D A σ MC MS h0 Qr 1 h27 hw p e s m args below meth c hC H locs ls k n hE (lv_sub hl [] rfl) hR hS (by omega) (by omega)

set_option maxRecDepth 100000 in
def T_M_ofPlace : List (Nat × Instr × Nat) := [(0, .aload_n 0, 1), (1, .invokevirtual 218, 3), (4, .l2i, 1), (5, .istore 4, 2), (7, .iload_n 3, 1), (8, .bipush 35, 2), (10, .if_icmp .lt 77, 3), (13, .aload_n 0, 1), (14, .getfield 202, 3), (17, .istore 5, 2), (19, .aload_n 0, 1), (20, .iload_n 2, 1), (21, .iconst 3, 1), (22, .iload 4, 2), (24, .invokevirtual 479, 3), (27, .istore 6, 2), (29, .aload_n 0, 1), (30, .aload_n 0, 1), (31, .getfield 62, 3), (34, .iload_n 2, 1), (35, .iaload, 1), (36, .iload 5, 2), (38, .invokevirtual 324, 3), (41, .iload_n 3, 1), (42, .bipush 35, 2), (44, .if_icmp .ne 24, 3), (47, .aload_n 0, 1), (48, .aload_n 0, 1), (49, .getfield 130, 3), (52, .iload 6, 2), (54, .laload, 1), (55, .aload_n 0, 1), (56, .getfield 124, 3), (59, .iload 6, 2), (61, .iaload, 1), (62, .invokevirtual 628, 3), (65, .goto 21, 3), (68, .aload_n 0, 1), (69, .getfield 130, 3), (72, .iload 6, 2), (74, .aload_n 0, 1), (75, .aload_n 0, 1), (76, .getfield 124, 3), (79, .iload 6, 2), (81, .iaload, 1), (82, .invokevirtual 634, 3), (85, .lastore, 1), (86, .return_, 1), (87, .iload 4, 2), (89, .ifCond .lt 18, 3), (92, .iload 4, 2), (94, .aload_n 0, 1), (95, .getfield 148, 3), (98, .iload_n 1, 1), (99, .iaload, 1), (100, .if_icmp .ge 7, 3), (103, .iconst 1, 1), (104, .goto 4, 3), (107, .iconst 0, 1), (108, .istore 5, 2), (110, .aload_n 0, 1), (111, .aload_n 0, 1), (112, .getfield 613, 3), (115, .ifCond .ne 8, 3), (118, .iload 5, 2), (120, .ifCond .ne 7, 3), (123, .iconst 1, 1), (124, .goto 4, 3), (127, .iconst 0, 1), (128, .putfield 613, 3), (131, .iload 5, 2), (133, .ifCond .eq 15, 3), (136, .aload_n 0, 1), (137, .getfield 145, 3), (140, .iload_n 1, 1), (141, .iaload, 1), (142, .iload 4, 2), (144, .iadd, 1), (145, .goto 9, 3), (148, .aload_n 0, 1), (149, .getfield 145, 3), (152, .iload_n 1, 1), (153, .iaload, 1), (154, .istore 6, 2), (156, .iload_n 3, 1), (157, .bipush 32, 2), (159, .if_icmp .ne 22, 3), (162, .aload_n 0, 1), (163, .aload_n 0, 1), (164, .getfield 154, 3), (167, .iload 6, 2), (169, .laload, 1), (170, .aload_n 0, 1), (171, .getfield 157, 3), (174, .iload 6, 2), (176, .baload, 1), (177, .invokevirtual 628, 3), (180, .return_, 1), (181, .aload_n 0, 1), (182, .aload_n 0, 1), (183, .getfield 157, 3), (186, .iload 6, 2), (188, .baload, 1), (189, .invokevirtual 634, 3), (192, .lstore 7, 2), (194, .aload_n 0, 1), (195, .getfield 154, 3), (198, .iload 6, 2), (200, .lload 7, 2), (202, .lastore, 1), (203, .iload_n 3, 1), (204, .bipush 34, 2), (206, .if_icmp .ne 16, 3), (209, .aload_n 0, 1), (210, .lload 7, 2), (212, .aload_n 0, 1), (213, .getfield 157, 3), (216, .iload 6, 2), (218, .baload, 1), (219, .invokevirtual 628, 3), (222, .return_, 1)]
theorem D_M_ofPlace : ∀ q ∈ T_M_ofPlace, decode b_M_ofPlace q.1 = .ok (q.2.1, q.2.2) := by decide +kernel

set_option maxHeartbeats 4000000 in
set_option maxRecDepth 100000 in
theorem am_M_ofPlace_L222 (l : Launch) (hfl : l.flags = pinnedFlags ++ [noTraceFlag]) (D : va_G) (A : Nat → Prop) (σ MC MS : Nat) (h0 : xb_H) (Qr : xb_H → Prop) (h : xb_H) (hw : w_M_ofPlace_L222 Qr h) : xb_am l D A σ 9 MC MS h0 (fun v h _ _ => v = none ∧ Qr h) (fun _ _ _ _ => False) y_M_ofPlace.cls y_M_ofPlace.name b_M_ofPlace 9 ([] : List ExceptionTableEntry) none 222 [] [] h 0 0 := by
  unfold w_M_ofPlace_L222 at hw
  intro p e s m args below meth c hC H locs ls k n hE hl hR hS hk hn
  obtain ⟨hx, hb, hown, hlocks, htab, hml, hr, hB, hA, hnm⟩ := id hC
  have hts := hB.1.1.at args
  exact xb_vret 0 0 hx hb hr hlocks (show k + 0 ≤ MC by omega) (show n + 0 ≤ MS by omega) hE hR hS (xb_d D_M_ofPlace 120 rfl) hw

set_option maxHeartbeats 4000000 in
set_option maxRecDepth 100000 in
theorem am_M_ofPlace_L154 (l : Launch) (hfl : l.flags = pinnedFlags ++ [noTraceFlag]) (D : va_G) (A : Nat → Prop) (σ MC MS : Nat) (h0 : xb_H) (Qr : xb_H → Prop) (x0 : Nat) (x3 : Int32) (y0 : Int32) (h : xb_H) (hw : w_M_ofPlace_L154 Qr x0 x3 y0 h) : xb_am l D A σ 9 MC MS h0 (fun v h _ _ => v = none ∧ Qr h) (fun _ _ _ _ => False) y_M_ofPlace.cls y_M_ofPlace.name b_M_ofPlace 9 ([] : List ExceptionTableEntry) none 154 [(0, .ref x0), (3, .int x3)] [.int y0] h 0 0 := by
  unfold w_M_ofPlace_L154 at hw
  intro p e s m args below meth c hC H locs ls k n hE hl hR hS hk hn
  obtain ⟨hx, hb, hown, hlocks, htab, hml, hr, hB, hA, hnm⟩ := id hC
  have hts := hB.1.1.at args
  refine lv_istore hx hb (xb_d D_M_ofPlace 83 rfl) hl (by decide) rfl (fun ls hl => ?_)
  have hl : lv_has ls 9 [(6, .int y0), (0, .ref x0), (3, .int x3)] := hl
  refine lv_iload_n hx hb (xb_d D_M_ofPlace 84 rfl) rfl (lv_at hl 2 rfl) ?_
  refine lv_bipush (v := 32) hx hb (xb_d D_M_ofPlace 85 rfl) (by decide) ?_
  refine lv_icmp_ne (tgt := 181) hx hb (xb_d D_M_ofPlace 86 rfl) rfl (fun hc1 => ?_) (fun hc1 => ?_)
  · have hw := hw.1 hc1
    refine lv_aload_n hx hb (xb_d D_M_ofPlace 98 rfl) rfl (lv_at hl 1 rfl) ?_
    refine lv_aload_n hx hb (xb_d D_M_ofPlace 99 rfl) rfl (lv_at hl 1 rfl) ?_
    obtain ⟨hk2, hw⟩ := hw
    refine xb_getP (C := R_M) (T := F_M) (N := 97) hx hb 8 75 hts fin_M hown hR hk2 (by decide) rfl (by decide) rfl (hts _ m_6b215119) (fun _ h9 => h9) (xb_d D_M_ofPlace 100 rfl) ?_
    obtain ⟨b3, eb3, hw⟩ := hw
    refine xb_some eb3 ?_
    refine lv_iload hx hb (xb_d D_M_ofPlace 101 rfl) (lv_at hl 0 rfl) ?_
    obtain ⟨hk5, hw⟩ := hw
    obtain ⟨hi4, hw⟩ := hw
    refine xb_bald hx hb hR hk5 hi4 (xb_d D_M_ofPlace 102 rfl) ?_
    refine xb_call0 (D := D) (A := A) (σ := σ) (h := h) (d := 2) (maxL := 2) (rest := []) (av := [.ref x0, .int (xb_i h b3 (Int32.toNatClampNeg y0))]) (fun T hT X => by obtain ⟨cb9, ra9, rb9, rc9⟩ := xb_recv (ci := 8) hR rfl hk2 (by decide); exact xt_invV X hx hown (hts _ m_ce40dc40) (hts _ m_c3a002b8) (hts _ m_395c99b5) (xt_sigOf (hts _ m_1ea89357)) nm_M_pop (by rw [hT]; exact ra9) rb9 rc9 (g := F0 m 189 ls [.int (xb_i h b3 (Int32.toNatClampNeg y0)), .ref x0]) rfl (argsL := [.int (xb_i h b3 (Int32.toNatClampNeg y0))]) (rest := []) rfl rfl (by rw [hb]; exact (xb_d D_M_ofPlace 103 rfl))) (ok_M_pop l hfl D A σ x0 (xb_i h b3 (Int32.toNatClampNeg y0)) h _ hw) (hml.trans hl.1.symm) (by rw [hb]; exact (xb_d D_M_ofPlace 103 rfl)) (Nat.le_of_ble_eq_true rfl) (Nat.le_of_ble_eq_true rfl) (Nat.le_of_ble_eq_true rfl) (show k ≤ MC by omega) (show n ≤ MS by omega) (xt_w1 hB.1 m_1ea89357) (xt_cdOf hB.1 m_1ea89357) (hts _ m_d5ed7bed) hB hR hS hA (fun vv h6 H locs hq hEh6 hR hS => ?_)
    obtain ⟨r7, rfl, hw⟩ := hq
    have hw := hw hEh6
    have hE := hE.tr hEh6
    refine W.eq (g2 := F0 m 192 ls [.long r7]) rfl ?_
    refine lv_lstore hx hb (xb_d D_M_ofPlace 104 rfl) hl (by decide) rfl (fun ls hl => ?_)
    have hl : lv_has ls 9 [(7, .long r7), (6, .int y0), (0, .ref x0), (3, .int x3)] := hl
    refine lv_aload_n hx hb (xb_d D_M_ofPlace 105 rfl) rfl (lv_at hl 2 rfl) ?_
    have hk2 : xb_k h6 x0 = 9 := hEh6.k hk2
    refine xb_getP (C := R_M) (T := F_M) (N := 97) hx hb 8 74 hts fin_M hown hR hk2 (by decide) rfl (by decide) rfl (hts _ m_f82105f7) (fun _ h9 => h9) (xb_d D_M_ofPlace 106 rfl) ?_
    obtain ⟨b8, eb8, hw⟩ := hw
    refine xb_some eb8 ?_
    refine lv_iload hx hb (xb_d D_M_ofPlace 107 rfl) (lv_at hl 1 rfl) ?_
    refine lv_lload hx hb (xb_d D_M_ofPlace 108 rfl) (lv_at hl 0 rfl) ?_
    obtain ⟨hk9, hw⟩ := hw
    obtain ⟨hi10, hw⟩ := hw
    refine xb_last hx hb hR hS hk9 hi10 (xb_d D_M_ofPlace 109 rfl) (fun H locs hR hS => ?_)
    obtain ⟨h11, eh11⟩ : ∃ x : xb_H, x = xb_L h6 b8 (Int32.toNatClampNeg y0) r7 := ⟨_, rfl⟩
    rw [← eh11] at hR
    have hw := hw h11 eh11
    have hE : xb_ext h0 h11 := by rw [eh11]; exact hE
    refine lv_iload_n hx hb (xb_d D_M_ofPlace 110 rfl) rfl (lv_at hl 3 rfl) ?_
    refine lv_bipush (v := 34) hx hb (xb_d D_M_ofPlace 111 rfl) (by decide) ?_
    refine lv_icmp_ne (tgt := 222) hx hb (xb_d D_M_ofPlace 112 rfl) rfl (fun hc12 => ?_) (fun hc12 => ?_)
    · have hw := hw.1 hc12
      exact am_M_ofPlace_L222 l hfl D A σ MC MS h0 Qr h11 hw p e s m args below meth c hC H locs ls k n hE (lv_sub hl [] rfl) hR hS (by omega) (by omega)
    · have hw := hw.2 hc12
      refine lv_aload_n hx hb (xb_d D_M_ofPlace 113 rfl) rfl (lv_at hl 2 rfl) ?_
      refine lv_lload hx hb (xb_d D_M_ofPlace 114 rfl) (lv_at hl 0 rfl) ?_
      refine lv_aload_n hx hb (xb_d D_M_ofPlace 115 rfl) rfl (lv_at hl 2 rfl) ?_
      have hk2 : xb_k h11 x0 = 9 := by rw [eh11]; exact hk2
      refine xb_getP (C := R_M) (T := F_M) (N := 97) hx hb 8 75 hts fin_M hown hR hk2 (by decide) rfl (by decide) rfl (hts _ m_6b215119) (fun _ h9 => h9) (xb_d D_M_ofPlace 116 rfl) ?_
      obtain ⟨b13, eb13, hw⟩ := hw
      refine xb_some eb13 ?_
      refine lv_iload hx hb (xb_d D_M_ofPlace 117 rfl) (lv_at hl 1 rfl) ?_
      obtain ⟨hk15, hw⟩ := hw
      obtain ⟨hi14, hw⟩ := hw
      refine xb_bald hx hb hR hk15 hi14 (xb_d D_M_ofPlace 118 rfl) ?_
      refine xb_call0 (D := D) (A := A) (σ := σ) (h := h11) (d := 2) (maxL := 4) (rest := []) (av := [.ref x0, .long r7, .int (xb_i h11 b13 (Int32.toNatClampNeg y0))]) (fun T hT X => by obtain ⟨cb9, ra9, rb9, rc9⟩ := xb_recv (ci := 8) hR rfl hk2 (by decide); exact xt_invV X hx hown (hts _ m_1dd22d11) (hts _ m_e8ae1713) (hts _ m_973b740a) (xt_sigOf (hts _ m_a0d5a63e)) nm_M_add (by rw [hT]; exact ra9) rb9 rc9 (g := F0 m 219 ls [.int (xb_i h11 b13 (Int32.toNatClampNeg y0)), .long r7, .ref x0]) rfl (argsL := [.long r7, .int (xb_i h11 b13 (Int32.toNatClampNeg y0))]) (rest := []) rfl rfl (by rw [hb]; exact (xb_d D_M_ofPlace 119 rfl))) (ok_M_add l hfl D A σ x0 r7 (xb_i h11 b13 (Int32.toNatClampNeg y0)) h11 _ hw) (hml.trans hl.1.symm) (by rw [hb]; exact (xb_d D_M_ofPlace 119 rfl)) (Nat.le_of_ble_eq_true rfl) (Nat.le_of_ble_eq_true rfl) (Nat.le_of_ble_eq_true rfl) (show k ≤ MC by omega) (show n ≤ MS by omega) (xt_w1 hB.1 m_a0d5a63e) (xt_cdOf hB.1 m_a0d5a63e) (hts _ m_d5ed7bed) hB hR hS hA (fun vv h16 H locs hq hEh16 hR hS => ?_)
      obtain ⟨rfl, hw⟩ := hq
      have hw := hw hEh16
      have hE := hE.tr hEh16
      refine W.eq (g2 := F0 m 222 ls []) rfl ?_
      exact am_M_ofPlace_L222 l hfl D A σ MC MS h0 Qr h16 hw p e s m args below meth c hC H locs ls k n hE (lv_sub hl [] rfl) hR hS (by omega) (by omega)
  · have hw := hw.2 hc1
    refine lv_aload_n hx hb (xb_d D_M_ofPlace 87 rfl) rfl (lv_at hl 1 rfl) ?_
    refine lv_aload_n hx hb (xb_d D_M_ofPlace 88 rfl) rfl (lv_at hl 1 rfl) ?_
    obtain ⟨hk18, hw⟩ := hw
    refine xb_getP (C := R_M) (T := F_M) (N := 97) hx hb 8 74 hts fin_M hown hR hk18 (by decide) rfl (by decide) rfl (hts _ m_f82105f7) (fun _ h9 => h9) (xb_d D_M_ofPlace 89 rfl) ?_
    obtain ⟨b19, eb19, hw⟩ := hw
    refine xb_some eb19 ?_
    refine lv_iload hx hb (xb_d D_M_ofPlace 90 rfl) (lv_at hl 0 rfl) ?_
    obtain ⟨hk21, hw⟩ := hw
    obtain ⟨hi20, hw⟩ := hw
    refine xb_lald hx hb hR hk21 hi20 (xb_d D_M_ofPlace 91 rfl) ?_
    refine lv_aload_n hx hb (xb_d D_M_ofPlace 92 rfl) rfl (lv_at hl 1 rfl) ?_
    refine xb_getP (C := R_M) (T := F_M) (N := 97) hx hb 8 75 hts fin_M hown hR hk18 (by decide) rfl (by decide) rfl (hts _ m_6b215119) (fun _ h9 => h9) (xb_d D_M_ofPlace 93 rfl) ?_
    obtain ⟨b22, eb22, hw⟩ := hw
    refine xb_some eb22 ?_
    refine lv_iload hx hb (xb_d D_M_ofPlace 94 rfl) (lv_at hl 0 rfl) ?_
    obtain ⟨hk24, hw⟩ := hw
    obtain ⟨hi23, hw⟩ := hw
    refine xb_bald hx hb hR hk24 hi23 (xb_d D_M_ofPlace 95 rfl) ?_
    refine xb_call0 (D := D) (A := A) (σ := σ) (h := h) (d := 2) (maxL := 4) (rest := []) (av := [.ref x0, .long (xb_l h b19 (Int32.toNatClampNeg y0)), .int (xb_i h b22 (Int32.toNatClampNeg y0))]) (fun T hT X => by obtain ⟨cb9, ra9, rb9, rc9⟩ := xb_recv (ci := 8) hR rfl hk18 (by decide); exact xt_invV X hx hown (hts _ m_1dd22d11) (hts _ m_e8ae1713) (hts _ m_973b740a) (xt_sigOf (hts _ m_a0d5a63e)) nm_M_add (by rw [hT]; exact ra9) rb9 rc9 (g := F0 m 177 ls [.int (xb_i h b22 (Int32.toNatClampNeg y0)), .long (xb_l h b19 (Int32.toNatClampNeg y0)), .ref x0]) rfl (argsL := [.long (xb_l h b19 (Int32.toNatClampNeg y0)), .int (xb_i h b22 (Int32.toNatClampNeg y0))]) (rest := []) rfl rfl (by rw [hb]; exact (xb_d D_M_ofPlace 96 rfl))) (ok_M_add l hfl D A σ x0 (xb_l h b19 (Int32.toNatClampNeg y0)) (xb_i h b22 (Int32.toNatClampNeg y0)) h _ hw) (hml.trans hl.1.symm) (by rw [hb]; exact (xb_d D_M_ofPlace 96 rfl)) (Nat.le_of_ble_eq_true rfl) (Nat.le_of_ble_eq_true rfl) (Nat.le_of_ble_eq_true rfl) (show k ≤ MC by omega) (show n ≤ MS by omega) (xt_w1 hB.1 m_a0d5a63e) (xt_cdOf hB.1 m_a0d5a63e) (hts _ m_d5ed7bed) hB hR hS hA (fun vv h25 H locs hq hEh25 hR hS => ?_)
    obtain ⟨rfl, hw⟩ := hq
    have hw := hw hEh25
    have hE := hE.tr hEh25
    refine W.eq (g2 := F0 m 180 ls []) rfl ?_
    exact xb_vret 0 0 hx hb hr hlocks (show k + 0 ≤ MC by omega) (show n + 0 ≤ MS by omega) hE hR hS (xb_d D_M_ofPlace 97 rfl) hw

set_option maxHeartbeats 4000000 in
set_option maxRecDepth 100000 in
theorem am_M_ofPlace_L128 (l : Launch) (hfl : l.flags = pinnedFlags ++ [noTraceFlag]) (D : va_G) (A : Nat → Prop) (σ MC MS : Nat) (h0 : xb_H) (Qr : xb_H → Prop) (x0 : Nat) (x1 : Int32) (x3 : Int32) (x4 : Int32) (x5 : Int32) (y0 : Int32) (y1 : Nat) (h : xb_H) (hw : w_M_ofPlace_L128 Qr x0 x1 x3 x4 x5 y0 y1 h) : xb_am l D A σ 9 MC MS h0 (fun v h _ _ => v = none ∧ Qr h) (fun _ _ _ _ => False) y_M_ofPlace.cls y_M_ofPlace.name b_M_ofPlace 9 ([] : List ExceptionTableEntry) none 128 [(0, .ref x0), (1, .int x1), (3, .int x3), (4, .int x4), (5, .int x5)] [.int y0, .ref y1] h 0 0 := by
  unfold w_M_ofPlace_L128 at hw
  intro p e s m args below meth c hC H locs ls k n hE hl hR hS hk hn
  obtain ⟨hx, hb, hown, hlocks, htab, hml, hr, hB, hA, hnm⟩ := id hC
  have hts := hB.1.1.at args
  obtain ⟨hk1, hw⟩ := hw
  obtain ⟨hz2, hw⟩ := hw
  refine xb_putI (C := R_M) (T := F_M) (N := 97) (ty := .boolean) (x := y0) hx hb 8 94 hts fin_M t_M t_M_ok n_M hown hR hS hk1 (by decide) rfl (by decide) rfl (hts _ m_8158dce5) (fun _ h9 => h9) rfl (by decide +kernel) (xb_bn hz2).1 (xb_bn hz2).2 (xb_d D_M_ofPlace 69 rfl) (fun H locs hR hS => ?_)
  obtain ⟨h3, eh3⟩ : ∃ x : xb_H, x = xb_I h y1 94 y0 := ⟨_, rfl⟩
  rw [← eh3] at hR
  have hw := hw h3 eh3
  have hE : xb_ext h0 h3 := by rw [eh3]; exact hE
  refine lv_iload hx hb (xb_d D_M_ofPlace 70 rfl) (lv_at hl 4 rfl) ?_
  refine lv_if_eq (tgt := 148) hx hb (xb_d D_M_ofPlace 71 rfl) rfl (fun hc4 => ?_) (fun hc4 => ?_)
  · have hw := hw.1 hc4
    refine lv_aload_n hx hb (xb_d D_M_ofPlace 79 rfl) rfl (lv_at hl 0 rfl) ?_
    obtain ⟨hk5, hw⟩ := hw
    refine xb_getP (C := R_M) (T := F_M) (N := 97) hx hb 8 71 hts fin_M hown hR hk5 (by decide) rfl (by decide) rfl (hts _ m_fa00c728) (fun _ h9 => h9) (xb_d D_M_ofPlace 80 rfl) ?_
    obtain ⟨b6, eb6, hw⟩ := hw
    refine xb_some eb6 ?_
    refine lv_iload_n hx hb (xb_d D_M_ofPlace 81 rfl) rfl (lv_at hl 1 rfl) ?_
    obtain ⟨hk8, hw⟩ := hw
    obtain ⟨hi7, hw⟩ := hw
    refine xb_iald hx hb hR hk8 hi7 (xb_d D_M_ofPlace 82 rfl) ?_
    exact am_M_ofPlace_L154 l hfl D A σ MC MS h0 Qr x0 x3 (xb_i h3 b6 (Int32.toNatClampNeg x1)) h3 hw p e s m args below meth c hC H locs ls k n hE (lv_sub hl [0, 2] rfl) hR hS (by omega) (by omega)
  · have hw := hw.2 hc4
    refine lv_aload_n hx hb (xb_d D_M_ofPlace 72 rfl) rfl (lv_at hl 0 rfl) ?_
    obtain ⟨hk9, hw⟩ := hw
    refine xb_getP (C := R_M) (T := F_M) (N := 97) hx hb 8 71 hts fin_M hown hR hk9 (by decide) rfl (by decide) rfl (hts _ m_fa00c728) (fun _ h9 => h9) (xb_d D_M_ofPlace 73 rfl) ?_
    obtain ⟨b10, eb10, hw⟩ := hw
    refine xb_some eb10 ?_
    refine lv_iload_n hx hb (xb_d D_M_ofPlace 74 rfl) rfl (lv_at hl 1 rfl) ?_
    obtain ⟨hk12, hw⟩ := hw
    obtain ⟨hi11, hw⟩ := hw
    refine xb_iald hx hb hR hk12 hi11 (xb_d D_M_ofPlace 75 rfl) ?_
    refine lv_iload hx hb (xb_d D_M_ofPlace 76 rfl) (lv_at hl 3 rfl) ?_
    refine lv_iadd hx hb (xb_d D_M_ofPlace 77 rfl) ?_
    refine lv_goto (tgt := 154) hx hb (xb_d D_M_ofPlace 78 rfl) rfl ?_
    exact am_M_ofPlace_L154 l hfl D A σ MC MS h0 Qr x0 x3 ((xb_i h3 b10 (Int32.toNatClampNeg x1)) + x4) h3 hw p e s m args below meth c hC H locs ls k n hE (lv_sub hl [0, 2] rfl) hR hS (by omega) (by omega)

set_option maxHeartbeats 4000000 in
set_option maxRecDepth 100000 in
theorem am_M_ofPlace_L123 (l : Launch) (hfl : l.flags = pinnedFlags ++ [noTraceFlag]) (D : va_G) (A : Nat → Prop) (σ MC MS : Nat) (h0 : xb_H) (Qr : xb_H → Prop) (x0 : Nat) (x1 : Int32) (x3 : Int32) (x4 : Int32) (x5 : Int32) (y0 : Nat) (h : xb_H) (hw : w_M_ofPlace_L123 Qr x0 x1 x3 x4 x5 y0 h) : xb_am l D A σ 9 MC MS h0 (fun v h _ _ => v = none ∧ Qr h) (fun _ _ _ _ => False) y_M_ofPlace.cls y_M_ofPlace.name b_M_ofPlace 9 ([] : List ExceptionTableEntry) none 123 [(0, .ref x0), (1, .int x1), (3, .int x3), (4, .int x4), (5, .int x5)] [.ref y0] h 0 0 := by
  unfold w_M_ofPlace_L123 at hw
  intro p e s m args below meth c hC H locs ls k n hE hl hR hS hk hn
  obtain ⟨hx, hb, hown, hlocks, htab, hml, hr, hB, hA, hnm⟩ := id hC
  have hts := hB.1.1.at args
  refine lv_iconst (v := 1) hx hb (xb_d D_M_ofPlace 66 rfl) (by decide) ?_
  refine lv_goto (tgt := 128) hx hb (xb_d D_M_ofPlace 67 rfl) rfl ?_
  exact am_M_ofPlace_L128 l hfl D A σ MC MS h0 Qr x0 x1 x3 x4 x5 1 y0 h hw p e s m args below meth c hC H locs ls k n hE (lv_sub hl [0, 1, 2, 3, 4] rfl) hR hS (by omega) (by omega)

set_option maxHeartbeats 4000000 in
set_option maxRecDepth 100000 in
theorem am_M_ofPlace_L108 (l : Launch) (hfl : l.flags = pinnedFlags ++ [noTraceFlag]) (D : va_G) (A : Nat → Prop) (σ MC MS : Nat) (h0 : xb_H) (Qr : xb_H → Prop) (x0 : Nat) (x1 : Int32) (x3 : Int32) (x4 : Int32) (y0 : Int32) (h : xb_H) (hw : w_M_ofPlace_L108 Qr x0 x1 x3 x4 y0 h) : xb_am l D A σ 9 MC MS h0 (fun v h _ _ => v = none ∧ Qr h) (fun _ _ _ _ => False) y_M_ofPlace.cls y_M_ofPlace.name b_M_ofPlace 9 ([] : List ExceptionTableEntry) none 108 [(0, .ref x0), (1, .int x1), (3, .int x3), (4, .int x4)] [.int y0] h 0 0 := by
  unfold w_M_ofPlace_L108 at hw
  intro p e s m args below meth c hC H locs ls k n hE hl hR hS hk hn
  obtain ⟨hx, hb, hown, hlocks, htab, hml, hr, hB, hA, hnm⟩ := id hC
  have hts := hB.1.1.at args
  refine lv_istore hx hb (xb_d D_M_ofPlace 59 rfl) hl (by decide) rfl (fun ls hl => ?_)
  have hl : lv_has ls 9 [(5, .int y0), (0, .ref x0), (1, .int x1), (3, .int x3), (4, .int x4)] := hl
  refine lv_aload_n hx hb (xb_d D_M_ofPlace 60 rfl) rfl (lv_at hl 1 rfl) ?_
  refine lv_aload_n hx hb (xb_d D_M_ofPlace 61 rfl) rfl (lv_at hl 1 rfl) ?_
  obtain ⟨hk1, hw⟩ := hw
  refine xb_getI (C := R_M) (T := F_M) (N := 97) hx hb 8 94 hts fin_M hown hR hk1 (by decide) rfl (by decide) rfl (hts _ m_8158dce5) (fun _ h9 => h9) (xb_d D_M_ofPlace 62 rfl) ?_
  refine lv_if_ne (tgt := 123) hx hb (xb_d D_M_ofPlace 63 rfl) rfl (fun hc2 => ?_) (fun hc2 => ?_)
  · have hw := hw.1 hc2
    exact am_M_ofPlace_L123 l hfl D A σ MC MS h0 Qr x0 x1 x3 x4 y0 x0 h hw p e s m args below meth c hC H locs ls k n hE (lv_sub hl [1, 2, 3, 4, 0] rfl) hR hS (by omega) (by omega)
  · have hw := hw.2 hc2
    refine lv_iload hx hb (xb_d D_M_ofPlace 64 rfl) (lv_at hl 0 rfl) ?_
    refine lv_if_ne (tgt := 127) hx hb (xb_d D_M_ofPlace 65 rfl) rfl (fun hc3 => ?_) (fun hc3 => ?_)
    · have hw := hw.1 hc3
      refine lv_iconst (v := 0) hx hb (xb_d D_M_ofPlace 68 rfl) (by decide) ?_
      exact am_M_ofPlace_L128 l hfl D A σ MC MS h0 Qr x0 x1 x3 x4 y0 0 x0 h hw p e s m args below meth c hC H locs ls k n hE (lv_sub hl [1, 2, 3, 4, 0] rfl) hR hS (by omega) (by omega)
    · have hw := hw.2 hc3
      exact am_M_ofPlace_L123 l hfl D A σ MC MS h0 Qr x0 x1 x3 x4 y0 x0 h hw p e s m args below meth c hC H locs ls k n hE (lv_sub hl [1, 2, 3, 4, 0] rfl) hR hS (by omega) (by omega)

set_option maxHeartbeats 4000000 in
set_option maxRecDepth 100000 in
theorem am_M_ofPlace_L107 (l : Launch) (hfl : l.flags = pinnedFlags ++ [noTraceFlag]) (D : va_G) (A : Nat → Prop) (σ MC MS : Nat) (h0 : xb_H) (Qr : xb_H → Prop) (x0 : Nat) (x1 : Int32) (x3 : Int32) (x4 : Int32) (h : xb_H) (hw : w_M_ofPlace_L107 Qr x0 x1 x3 x4 h) : xb_am l D A σ 9 MC MS h0 (fun v h _ _ => v = none ∧ Qr h) (fun _ _ _ _ => False) y_M_ofPlace.cls y_M_ofPlace.name b_M_ofPlace 9 ([] : List ExceptionTableEntry) none 107 [(0, .ref x0), (1, .int x1), (3, .int x3), (4, .int x4)] [] h 0 0 := by
  unfold w_M_ofPlace_L107 at hw
  intro p e s m args below meth c hC H locs ls k n hE hl hR hS hk hn
  obtain ⟨hx, hb, hown, hlocks, htab, hml, hr, hB, hA, hnm⟩ := id hC
  have hts := hB.1.1.at args
  refine lv_iconst (v := 0) hx hb (xb_d D_M_ofPlace 58 rfl) (by decide) ?_
  exact am_M_ofPlace_L108 l hfl D A σ MC MS h0 Qr x0 x1 x3 x4 0 h hw p e s m args below meth c hC H locs ls k n hE (lv_sub hl [0, 1, 2, 3] rfl) hR hS (by omega) (by omega)

set_option maxHeartbeats 4000000 in
set_option maxRecDepth 100000 in
theorem am_M_ofPlace_L86 (l : Launch) (hfl : l.flags = pinnedFlags ++ [noTraceFlag]) (D : va_G) (A : Nat → Prop) (σ MC MS : Nat) (h0 : xb_H) (Qr : xb_H → Prop) (h : xb_H) (hw : w_M_ofPlace_L86 Qr h) : xb_am l D A σ 9 MC MS h0 (fun v h _ _ => v = none ∧ Qr h) (fun _ _ _ _ => False) y_M_ofPlace.cls y_M_ofPlace.name b_M_ofPlace 9 ([] : List ExceptionTableEntry) none 86 [] [] h 0 0 := by
  unfold w_M_ofPlace_L86 at hw
  intro p e s m args below meth c hC H locs ls k n hE hl hR hS hk hn
  obtain ⟨hx, hb, hown, hlocks, htab, hml, hr, hB, hA, hnm⟩ := id hC
  have hts := hB.1.1.at args
  exact xb_vret 0 0 hx hb hr hlocks (show k + 0 ≤ MC by omega) (show n + 0 ≤ MS by omega) hE hR hS (xb_d D_M_ofPlace 47 rfl) hw

set_option maxHeartbeats 4000000 in
set_option maxRecDepth 100000 in
theorem ok_M_ofPlace (l : Launch) (hfl : l.flags = pinnedFlags ++ [noTraceFlag]) (D : va_G) (A : Nat → Prop) (σ : Nat) (x0 : Nat) (x1 : Int32) (x2 : Int32) (x3 : Int32) (h : xb_H) (Qr : xb_H → Prop) (hw : w_M_ofPlace x0 x1 x2 x3 h Qr) : xb_Met l y_M_ofPlace [.code y_M_ofPlace b_M_ofPlace 9 none] (xb_rm 9 0 0) (xb_Pc D A σ h [.ref x0, .int x1, .int x2, .int x3]) (xb_Qc D A h 0 0 (fun v h _ _ => v = none ∧ Qr h) (fun _ _ _ _ => False)) A := by
  refine xb_ofAm (cc := b_M_ofPlace) (by decide) (Nat.le_of_ble_eq_true rfl) ?_
  unfold w_M_ofPlace at hw
  show xb_am l D A σ 9 0 0 h (fun v h _ _ => v = none ∧ Qr h) (fun _ _ _ _ => False) y_M_ofPlace.cls y_M_ofPlace.name b_M_ofPlace 9 ([] : List ExceptionTableEntry) none 0 [(0, .ref x0), (1, .int x1), (2, .int x2), (3, .int x3)] [] h 0 0
  obtain ⟨MC, hMC⟩ : ∃ x, x = 0 := ⟨_, rfl⟩
  obtain ⟨MS, hMS⟩ : ∃ x, x = 0 := ⟨_, rfl⟩
  rw [show xb_am l D A σ 9 0 0 = xb_am l D A σ 9 MC MS by rw [hMC, hMS]]
  obtain ⟨h0, hh0⟩ : ∃ x, x = h := ⟨_, rfl⟩
  rw [show xb_am l D A σ 9 MC MS h = xb_am l D A σ 9 MC MS h0 by rw [hh0]]
  intro p e s m args below meth c hC H locs ls k n hE hl hR hS hk hn
  obtain ⟨hx, hb, hown, hlocks, htab, hml, hr, hB, hA, hnm⟩ := id hC
  have hts := hB.1.1.at args
  refine lv_aload_n hx hb (xb_d D_M_ofPlace 0 rfl) rfl (lv_at hl 0 rfl) ?_
  obtain ⟨hk1, hw⟩ := hw
  refine xb_call0 (D := D) (A := A) (σ := σ) (h := h) (d := 4) (maxL := 5) (rest := []) (av := [.ref x0]) (fun T hT X => by obtain ⟨cb9, ra9, rb9, rc9⟩ := xb_recv (ci := 8) hR rfl hk1 (by decide); exact xt_invV X hx hown (hts _ m_e991293f) (hts _ m_385a74b3) (hts _ m_c9fbcd02) (xt_sigOf (hts _ m_1f53f210)) nm_M_count (by rw [hT]; exact ra9) rb9 rc9 (g := F0 m 1 ls [.ref x0]) rfl (argsL := []) (rest := []) rfl rfl (by rw [hb]; exact (xb_d D_M_ofPlace 1 rfl))) (ok_M_count l hfl D A σ x0 h _ hw) (hml.trans hl.1.symm) (by rw [hb]; exact (xb_d D_M_ofPlace 1 rfl)) (Nat.le_of_ble_eq_true rfl) (Nat.le_of_ble_eq_true rfl) (Nat.le_of_ble_eq_true rfl) (show k ≤ MC by omega) (show n ≤ MS by omega) (xt_w1 hB.1 m_1f53f210) (xt_cdOf hB.1 m_1f53f210) (hts _ m_d5ed7bed) hB hR hS hA (fun vv h2 H locs hq hEh2 hR hS => ?_)
  obtain ⟨r3, rfl, hw⟩ := hq
  have hw := hw hEh2
  have hE := hE.tr hEh2
  refine W.eq (g2 := F0 m 4 ls [.long r3]) rfl ?_
  refine lv_l2i hx hb (xb_d D_M_ofPlace 2 rfl) rfl ?_
  obtain ⟨v4, ev4⟩ : ∃ x : Int32, x = (Int64.toInt32 r3) := ⟨_, rfl⟩
  have hw := hw v4 ev4
  refine xt_numi (y := v4) ev4.symm ?_
  refine lv_istore hx hb (xb_d D_M_ofPlace 3 rfl) hl (by decide) rfl (fun ls hl => ?_)
  have hl : lv_has ls 9 [(4, .int v4), (0, .ref x0), (1, .int x1), (2, .int x2), (3, .int x3)] := hl
  refine lv_iload_n hx hb (xb_d D_M_ofPlace 4 rfl) rfl (lv_at hl 4 rfl) ?_
  refine lv_bipush (v := 35) hx hb (xb_d D_M_ofPlace 5 rfl) (by decide) ?_
  refine lv_icmp_lt (tgt := 87) hx hb (xb_d D_M_ofPlace 6 rfl) rfl (fun hc5 => ?_) (fun hc5 => ?_)
  · have hw := hw.1 hc5
    refine lv_iload hx hb (xb_d D_M_ofPlace 48 rfl) (lv_at hl 0 rfl) ?_
    refine lv_if_lt (tgt := 107) hx hb (xb_d D_M_ofPlace 49 rfl) rfl (fun hc6 => ?_) (fun hc6 => ?_)
    · have hw := hw.1 hc6
      exact am_M_ofPlace_L107 l hfl D A σ MC MS h0 Qr x0 x1 x3 v4 h2 hw p e s m args below meth c hC H locs ls k n hE (lv_sub hl [1, 2, 4, 0] rfl) hR hS (by omega) (by omega)
    · have hw := hw.2 hc6
      refine lv_iload hx hb (xb_d D_M_ofPlace 50 rfl) (lv_at hl 0 rfl) ?_
      refine lv_aload_n hx hb (xb_d D_M_ofPlace 51 rfl) rfl (lv_at hl 1 rfl) ?_
      have hk1 : xb_k h2 x0 = 9 := hEh2.k hk1
      refine xb_getP (C := R_M) (T := F_M) (N := 97) hx hb 8 72 hts fin_M hown hR hk1 (by decide) rfl (by decide) rfl (hts _ m_a9102de0) (fun _ h9 => h9) (xb_d D_M_ofPlace 52 rfl) ?_
      obtain ⟨b7, eb7, hw⟩ := hw
      refine xb_some eb7 ?_
      refine lv_iload_n hx hb (xb_d D_M_ofPlace 53 rfl) rfl (lv_at hl 2 rfl) ?_
      obtain ⟨hk9, hw⟩ := hw
      obtain ⟨hi8, hw⟩ := hw
      refine xb_iald hx hb hR hk9 hi8 (xb_d D_M_ofPlace 54 rfl) ?_
      refine lv_icmp_ge (tgt := 107) hx hb (xb_d D_M_ofPlace 55 rfl) rfl (fun hc10 => ?_) (fun hc10 => ?_)
      · have hw := hw.1 hc10
        exact am_M_ofPlace_L107 l hfl D A σ MC MS h0 Qr x0 x1 x3 v4 h2 hw p e s m args below meth c hC H locs ls k n hE (lv_sub hl [1, 2, 4, 0] rfl) hR hS (by omega) (by omega)
      · have hw := hw.2 hc10
        refine lv_iconst (v := 1) hx hb (xb_d D_M_ofPlace 56 rfl) (by decide) ?_
        refine lv_goto (tgt := 108) hx hb (xb_d D_M_ofPlace 57 rfl) rfl ?_
        exact am_M_ofPlace_L108 l hfl D A σ MC MS h0 Qr x0 x1 x3 v4 1 h2 hw p e s m args below meth c hC H locs ls k n hE (lv_sub hl [1, 2, 4, 0] rfl) hR hS (by omega) (by omega)
  · have hw := hw.2 hc5
    refine lv_aload_n hx hb (xb_d D_M_ofPlace 7 rfl) rfl (lv_at hl 1 rfl) ?_
    have hk1 : xb_k h2 x0 = 9 := hEh2.k hk1
    refine xb_getI (C := R_M) (T := F_M) (N := 97) hx hb 8 15 hts fin_M hown hR hk1 (by decide) rfl (by decide) rfl (hts _ m_6c2d27ad) (fun _ h9 => h9) (xb_d D_M_ofPlace 8 rfl) ?_
    obtain ⟨v11, ev11⟩ : ∃ x : Int32, x = (xb_i h2 x0 15) := ⟨_, rfl⟩
    have hw := hw v11 ev11
    refine xt_numi (y := v11) ev11.symm ?_
    refine lv_istore hx hb (xb_d D_M_ofPlace 9 rfl) hl (by decide) rfl (fun ls hl => ?_)
    have hl : lv_has ls 9 [(5, .int v11), (4, .int v4), (0, .ref x0), (1, .int x1), (2, .int x2), (3, .int x3)] := hl
    refine lv_aload_n hx hb (xb_d D_M_ofPlace 10 rfl) rfl (lv_at hl 2 rfl) ?_
    refine lv_iload_n hx hb (xb_d D_M_ofPlace 11 rfl) rfl (lv_at hl 4 rfl) ?_
    refine lv_iconst (v := 3) hx hb (xb_d D_M_ofPlace 12 rfl) (by decide) ?_
    refine lv_iload hx hb (xb_d D_M_ofPlace 13 rfl) (lv_at hl 1 rfl) ?_
    refine xb_call0 (D := D) (A := A) (σ := σ) (h := h2) (d := 8) (maxL := 6) (rest := []) (av := [.ref x0, .int x2, .int 3, .int v4]) (fun T hT X => by obtain ⟨cb9, ra9, rb9, rc9⟩ := xb_recv (ci := 8) hR rfl hk1 (by decide); exact xt_invV X hx hown (hts _ m_5ec466f2) (hts _ m_f0f1d102) (hts _ m_cfa25922) (xt_sigOf (hts _ m_59347bba)) nm_M_meant (by rw [hT]; exact ra9) rb9 rc9 (g := F0 m 24 ls [.int v4, .int 3, .int x2, .ref x0]) rfl (argsL := [.int x2, .int 3, .int v4]) (rest := []) rfl rfl (by rw [hb]; exact (xb_d D_M_ofPlace 14 rfl))) (ok_M_meant l hfl D A σ x0 x2 3 v4 h2 _ hw) (hml.trans hl.1.symm) (by rw [hb]; exact (xb_d D_M_ofPlace 14 rfl)) (Nat.le_of_ble_eq_true rfl) (Nat.le_of_ble_eq_true rfl) (Nat.le_of_ble_eq_true rfl) (show k ≤ MC by omega) (show n ≤ MS by omega) (xt_w1 hB.1 m_59347bba) (xt_cdOf hB.1 m_59347bba) (hts _ m_d5ed7bed) hB hR hS hA (fun vv h12 H locs hq hEh12 hR hS => ?_)
    obtain ⟨r13, rfl, hw⟩ := hq
    have hw := hw hEh12
    have hE := hE.tr hEh12
    refine W.eq (g2 := F0 m 27 ls [.int r13]) rfl ?_
    refine lv_istore hx hb (xb_d D_M_ofPlace 15 rfl) hl (by decide) rfl (fun ls hl => ?_)
    have hl : lv_has ls 9 [(6, .int r13), (5, .int v11), (4, .int v4), (0, .ref x0), (1, .int x1), (2, .int x2), (3, .int x3)] := hl
    refine lv_aload_n hx hb (xb_d D_M_ofPlace 16 rfl) rfl (lv_at hl 3 rfl) ?_
    refine lv_aload_n hx hb (xb_d D_M_ofPlace 17 rfl) rfl (lv_at hl 3 rfl) ?_
    have hk1 : xb_k h12 x0 = 9 := hEh12.k hk1
    refine xb_getP (C := R_M) (T := F_M) (N := 97) hx hb 8 31 hts fin_M hown hR hk1 (by decide) rfl (by decide) rfl (hts _ m_691d5f47) (fun _ h9 => h9) (xb_d D_M_ofPlace 18 rfl) ?_
    obtain ⟨b14, eb14, hw⟩ := hw
    refine xb_some eb14 ?_
    refine lv_iload_n hx hb (xb_d D_M_ofPlace 19 rfl) rfl (lv_at hl 5 rfl) ?_
    obtain ⟨hk16, hw⟩ := hw
    obtain ⟨hi15, hw⟩ := hw
    refine xb_iald hx hb hR hk16 hi15 (xb_d D_M_ofPlace 20 rfl) ?_
    refine lv_iload hx hb (xb_d D_M_ofPlace 21 rfl) (lv_at hl 1 rfl) ?_
    refine xb_call0 (D := D) (A := A) (σ := σ) (h := h12) (d := 2) (maxL := 3) (rest := []) (av := [.ref x0, .int (xb_i h12 b14 (Int32.toNatClampNeg x2)), .int v11]) (fun T hT X => by obtain ⟨cb9, ra9, rb9, rc9⟩ := xb_recv (ci := 8) hR rfl hk1 (by decide); exact xt_invV X hx hown (hts _ m_bb531879) (hts _ m_4a6cd4a0) (hts _ m_d1c31e3c) (xt_sigOf (hts _ m_48217fba)) nm_M_go (by rw [hT]; exact ra9) rb9 rc9 (g := F0 m 38 ls [.int v11, .int (xb_i h12 b14 (Int32.toNatClampNeg x2)), .ref x0]) rfl (argsL := [.int (xb_i h12 b14 (Int32.toNatClampNeg x2)), .int v11]) (rest := []) rfl rfl (by rw [hb]; exact (xb_d D_M_ofPlace 22 rfl))) (ok_M_go l hfl D A σ x0 (xb_i h12 b14 (Int32.toNatClampNeg x2)) v11 h12 _ hw) (hml.trans hl.1.symm) (by rw [hb]; exact (xb_d D_M_ofPlace 22 rfl)) (Nat.le_of_ble_eq_true rfl) (Nat.le_of_ble_eq_true rfl) (Nat.le_of_ble_eq_true rfl) (show k ≤ MC by omega) (show n ≤ MS by omega) (xt_w1 hB.1 m_48217fba) (xt_cdOf hB.1 m_48217fba) (hts _ m_d5ed7bed) hB hR hS hA (fun vv h17 H locs hq hEh17 hR hS => ?_)
    obtain ⟨rfl, hw⟩ := hq
    have hw := hw hEh17
    have hE := hE.tr hEh17
    refine W.eq (g2 := F0 m 41 ls []) rfl ?_
    refine lv_iload_n hx hb (xb_d D_M_ofPlace 23 rfl) rfl (lv_at hl 6 rfl) ?_
    refine lv_bipush (v := 35) hx hb (xb_d D_M_ofPlace 24 rfl) (by decide) ?_
    refine lv_icmp_ne (tgt := 68) hx hb (xb_d D_M_ofPlace 25 rfl) rfl (fun hc19 => ?_) (fun hc19 => ?_)
    · have hw := hw.1 hc19
      refine lv_aload_n hx hb (xb_d D_M_ofPlace 37 rfl) rfl (lv_at hl 3 rfl) ?_
      have hk1 : xb_k h17 x0 = 9 := hEh17.k hk1
      refine xb_getP (C := R_M) (T := F_M) (N := 97) hx hb 8 61 hts fin_M hown hR hk1 (by decide) rfl (by decide) rfl (hts _ m_418ce3a7) (fun _ h9 => h9) (xb_d D_M_ofPlace 38 rfl) ?_
      obtain ⟨b20, eb20, hw⟩ := hw
      refine xb_some eb20 ?_
      refine lv_iload hx hb (xb_d D_M_ofPlace 39 rfl) (lv_at hl 0 rfl) ?_
      refine lv_aload_n hx hb (xb_d D_M_ofPlace 40 rfl) rfl (lv_at hl 3 rfl) ?_
      refine lv_aload_n hx hb (xb_d D_M_ofPlace 41 rfl) rfl (lv_at hl 3 rfl) ?_
      refine xb_getP (C := R_M) (T := F_M) (N := 97) hx hb 8 59 hts fin_M hown hR hk1 (by decide) rfl (by decide) rfl (hts _ m_3369fcb7) (fun _ h9 => h9) (xb_d D_M_ofPlace 42 rfl) ?_
      obtain ⟨b21, eb21, hw⟩ := hw
      refine xb_some eb21 ?_
      refine lv_iload hx hb (xb_d D_M_ofPlace 43 rfl) (lv_at hl 0 rfl) ?_
      obtain ⟨hk23, hw⟩ := hw
      obtain ⟨hi22, hw⟩ := hw
      refine xb_iald hx hb hR hk23 hi22 (xb_d D_M_ofPlace 44 rfl) ?_
      refine xb_call0 (D := D) (A := A) (σ := σ) (h := h17) (d := 2) (maxL := 2) (rest := [.int r13, .ref b20]) (av := [.ref x0, .int (xb_i h17 b21 (Int32.toNatClampNeg r13))]) (fun T hT X => by obtain ⟨cb9, ra9, rb9, rc9⟩ := xb_recv (ci := 8) hR rfl hk1 (by decide); exact xt_invV X hx hown (hts _ m_ce40dc40) (hts _ m_c3a002b8) (hts _ m_395c99b5) (xt_sigOf (hts _ m_1ea89357)) nm_M_pop (by rw [hT]; exact ra9) rb9 rc9 (g := F0 m 82 ls [.int (xb_i h17 b21 (Int32.toNatClampNeg r13)), .ref x0, .int r13, .ref b20]) rfl (argsL := [.int (xb_i h17 b21 (Int32.toNatClampNeg r13))]) (rest := [.int r13, .ref b20]) rfl rfl (by rw [hb]; exact (xb_d D_M_ofPlace 45 rfl))) (ok_M_pop l hfl D A σ x0 (xb_i h17 b21 (Int32.toNatClampNeg r13)) h17 _ hw) (hml.trans hl.1.symm) (by rw [hb]; exact (xb_d D_M_ofPlace 45 rfl)) (Nat.le_of_ble_eq_true rfl) (Nat.le_of_ble_eq_true rfl) (Nat.le_of_ble_eq_true rfl) (show k ≤ MC by omega) (show n ≤ MS by omega) (xt_w1 hB.1 m_1ea89357) (xt_cdOf hB.1 m_1ea89357) (hts _ m_d5ed7bed) hB hR hS hA (fun vv h24 H locs hq hEh24 hR hS => ?_)
      obtain ⟨r25, rfl, hw⟩ := hq
      have hw := hw hEh24
      have hE := hE.tr hEh24
      refine W.eq (g2 := F0 m 85 ls [.long r25, .int r13, .ref b20]) rfl ?_
      obtain ⟨hk26, hw⟩ := hw
      obtain ⟨hi27, hw⟩ := hw
      refine xb_last hx hb hR hS hk26 hi27 (xb_d D_M_ofPlace 46 rfl) (fun H locs hR hS => ?_)
      obtain ⟨h28, eh28⟩ : ∃ x : xb_H, x = xb_L h24 b20 (Int32.toNatClampNeg r13) r25 := ⟨_, rfl⟩
      rw [← eh28] at hR
      have hw := hw h28 eh28
      have hE : xb_ext h0 h28 := by rw [eh28]; exact hE
      exact am_M_ofPlace_L86 l hfl D A σ MC MS h0 Qr h28 hw p e s m args below meth c hC H locs ls k n hE (lv_sub hl [] rfl) hR hS (by omega) (by omega)
    · have hw := hw.2 hc19
      refine lv_aload_n hx hb (xb_d D_M_ofPlace 26 rfl) rfl (lv_at hl 3 rfl) ?_
      refine lv_aload_n hx hb (xb_d D_M_ofPlace 27 rfl) rfl (lv_at hl 3 rfl) ?_
      have hk1 : xb_k h17 x0 = 9 := hEh17.k hk1
      refine xb_getP (C := R_M) (T := F_M) (N := 97) hx hb 8 61 hts fin_M hown hR hk1 (by decide) rfl (by decide) rfl (hts _ m_418ce3a7) (fun _ h9 => h9) (xb_d D_M_ofPlace 28 rfl) ?_
      obtain ⟨b29, eb29, hw⟩ := hw
      refine xb_some eb29 ?_
      refine lv_iload hx hb (xb_d D_M_ofPlace 29 rfl) (lv_at hl 0 rfl) ?_
      obtain ⟨hk31, hw⟩ := hw
      obtain ⟨hi30, hw⟩ := hw
      refine xb_lald hx hb hR hk31 hi30 (xb_d D_M_ofPlace 30 rfl) ?_
      refine lv_aload_n hx hb (xb_d D_M_ofPlace 31 rfl) rfl (lv_at hl 3 rfl) ?_
      refine xb_getP (C := R_M) (T := F_M) (N := 97) hx hb 8 59 hts fin_M hown hR hk1 (by decide) rfl (by decide) rfl (hts _ m_3369fcb7) (fun _ h9 => h9) (xb_d D_M_ofPlace 32 rfl) ?_
      obtain ⟨b32, eb32, hw⟩ := hw
      refine xb_some eb32 ?_
      refine lv_iload hx hb (xb_d D_M_ofPlace 33 rfl) (lv_at hl 0 rfl) ?_
      obtain ⟨hk34, hw⟩ := hw
      obtain ⟨hi33, hw⟩ := hw
      refine xb_iald hx hb hR hk34 hi33 (xb_d D_M_ofPlace 34 rfl) ?_
      refine xb_call0 (D := D) (A := A) (σ := σ) (h := h17) (d := 2) (maxL := 4) (rest := []) (av := [.ref x0, .long (xb_l h17 b29 (Int32.toNatClampNeg r13)), .int (xb_i h17 b32 (Int32.toNatClampNeg r13))]) (fun T hT X => by obtain ⟨cb9, ra9, rb9, rc9⟩ := xb_recv (ci := 8) hR rfl hk1 (by decide); exact xt_invV X hx hown (hts _ m_1dd22d11) (hts _ m_e8ae1713) (hts _ m_973b740a) (xt_sigOf (hts _ m_a0d5a63e)) nm_M_add (by rw [hT]; exact ra9) rb9 rc9 (g := F0 m 62 ls [.int (xb_i h17 b32 (Int32.toNatClampNeg r13)), .long (xb_l h17 b29 (Int32.toNatClampNeg r13)), .ref x0]) rfl (argsL := [.long (xb_l h17 b29 (Int32.toNatClampNeg r13)), .int (xb_i h17 b32 (Int32.toNatClampNeg r13))]) (rest := []) rfl rfl (by rw [hb]; exact (xb_d D_M_ofPlace 35 rfl))) (ok_M_add l hfl D A σ x0 (xb_l h17 b29 (Int32.toNatClampNeg r13)) (xb_i h17 b32 (Int32.toNatClampNeg r13)) h17 _ hw) (hml.trans hl.1.symm) (by rw [hb]; exact (xb_d D_M_ofPlace 35 rfl)) (Nat.le_of_ble_eq_true rfl) (Nat.le_of_ble_eq_true rfl) (Nat.le_of_ble_eq_true rfl) (show k ≤ MC by omega) (show n ≤ MS by omega) (xt_w1 hB.1 m_a0d5a63e) (xt_cdOf hB.1 m_a0d5a63e) (hts _ m_d5ed7bed) hB hR hS hA (fun vv h35 H locs hq hEh35 hR hS => ?_)
      obtain ⟨rfl, hw⟩ := hq
      have hw := hw hEh35
      have hE := hE.tr hEh35
      refine W.eq (g2 := F0 m 65 ls []) rfl ?_
      refine lv_goto (tgt := 86) hx hb (xb_d D_M_ofPlace 36 rfl) rfl ?_
      exact am_M_ofPlace_L86 l hfl D A σ MC MS h0 Qr h35 hw p e s m args below meth c hC H locs ls k n hE (lv_sub hl [] rfl) hR hS (by omega) (by omega)

set_option maxRecDepth 100000 in
def T_M_only : List (Nat × Instr × Nat) := [(0, .aload_n 0, 1), (1, .aload_n 0, 1), (2, .getfield 62, 3), (5, .iload_n 1, 1), (6, .iaload, 1), (7, .iload_n 2, 1), (8, .invokevirtual 362, 3), (11, .lconst 0, 1), (12, .lcmp, 1), (13, .ifCond .ne 7, 3), (16, .iconst (-1), 1), (17, .goto 10, 3), (20, .aload_n 0, 1), (21, .iload_n 1, 1), (22, .iload_n 2, 1), (23, .iconst 0, 1), (24, .invokevirtual 479, 3), (27, .ireturn, 1)]
theorem D_M_only : ∀ q ∈ T_M_only, decode b_M_only q.1 = .ok (q.2.1, q.2.2) := by decide +kernel

set_option maxHeartbeats 4000000 in
set_option maxRecDepth 100000 in
theorem am_M_only_L27 (l : Launch) (hfl : l.flags = pinnedFlags ++ [noTraceFlag]) (D : va_G) (A : Nat → Prop) (σ MC MS : Nat) (h0 : xb_H) (Qr : Int32 → xb_H → Prop) (y0 : Int32) (h : xb_H) (hw : w_M_only_L27 Qr y0 h) : xb_am l D A σ 9 MC MS h0 (fun v h _ _ => ∃ r, v = some (.int r) ∧ Qr r h) (fun _ _ _ _ => False) y_M_only.cls y_M_only.name b_M_only 3 ([] : List ExceptionTableEntry) (some .int) 27 [] [.int y0] h 0 0 := by
  unfold w_M_only_L27 at hw
  intro p e s m args below meth c hC H locs ls k n hE hl hR hS hk hn
  obtain ⟨hx, hb, hown, hlocks, htab, hml, hr, hB, hA, hnm⟩ := id hC
  have hts := hB.1.1.at args
  exact xb_iret 0 0 hx hb hr hlocks (show k + 0 ≤ MC by omega) (show n + 0 ≤ MS by omega) hE hR hS (xb_d D_M_only 17 rfl) hw

set_option maxHeartbeats 4000000 in
set_option maxRecDepth 100000 in
theorem ok_M_only (l : Launch) (hfl : l.flags = pinnedFlags ++ [noTraceFlag]) (D : va_G) (A : Nat → Prop) (σ : Nat) (x0 : Nat) (x1 : Int32) (x2 : Int32) (h : xb_H) (Qr : Int32 → xb_H → Prop) (hw : w_M_only x0 x1 x2 h Qr) : xb_Met l y_M_only [.code y_M_only b_M_only 3 (some .int)] (xb_rm 9 0 0) (xb_Pc D A σ h [.ref x0, .int x1, .int x2]) (xb_Qc D A h 0 0 (fun v h _ _ => ∃ r, v = some (.int r) ∧ Qr r h) (fun _ _ _ _ => False)) A := by
  refine xb_ofAm (cc := b_M_only) (by decide) (Nat.le_of_ble_eq_true rfl) ?_
  unfold w_M_only at hw
  show xb_am l D A σ 9 0 0 h (fun v h _ _ => ∃ r, v = some (.int r) ∧ Qr r h) (fun _ _ _ _ => False) y_M_only.cls y_M_only.name b_M_only 3 ([] : List ExceptionTableEntry) (some .int) 0 [(0, .ref x0), (1, .int x1), (2, .int x2)] [] h 0 0
  obtain ⟨MC, hMC⟩ : ∃ x, x = 0 := ⟨_, rfl⟩
  obtain ⟨MS, hMS⟩ : ∃ x, x = 0 := ⟨_, rfl⟩
  rw [show xb_am l D A σ 9 0 0 = xb_am l D A σ 9 MC MS by rw [hMC, hMS]]
  obtain ⟨h0, hh0⟩ : ∃ x, x = h := ⟨_, rfl⟩
  rw [show xb_am l D A σ 9 MC MS h = xb_am l D A σ 9 MC MS h0 by rw [hh0]]
  intro p e s m args below meth c hC H locs ls k n hE hl hR hS hk hn
  obtain ⟨hx, hb, hown, hlocks, htab, hml, hr, hB, hA, hnm⟩ := id hC
  have hts := hB.1.1.at args
  refine lv_aload_n hx hb (xb_d D_M_only 0 rfl) rfl (lv_at hl 0 rfl) ?_
  refine lv_aload_n hx hb (xb_d D_M_only 1 rfl) rfl (lv_at hl 0 rfl) ?_
  obtain ⟨hk1, hw⟩ := hw
  refine xb_getP (C := R_M) (T := F_M) (N := 97) hx hb 8 31 hts fin_M hown hR hk1 (by decide) rfl (by decide) rfl (hts _ m_691d5f47) (fun _ h9 => h9) (xb_d D_M_only 2 rfl) ?_
  obtain ⟨b2, eb2, hw⟩ := hw
  refine xb_some eb2 ?_
  refine lv_iload_n hx hb (xb_d D_M_only 3 rfl) rfl (lv_at hl 1 rfl) ?_
  obtain ⟨hk4, hw⟩ := hw
  obtain ⟨hi3, hw⟩ := hw
  refine xb_iald hx hb hR hk4 hi3 (xb_d D_M_only 4 rfl) ?_
  refine lv_iload_n hx hb (xb_d D_M_only 5 rfl) rfl (lv_at hl 2 rfl) ?_
  refine xb_call0 (D := D) (A := A) (σ := σ) (h := h) (d := 3) (maxL := 3) (rest := []) (av := [.ref x0, .int (xb_i h b2 (Int32.toNatClampNeg x1)), .int x2]) (fun T hT X => by obtain ⟨cb9, ra9, rb9, rc9⟩ := xb_recv (ci := 8) hR rfl hk1 (by decide); exact xt_invV X hx hown (hts _ m_940fb65e) (hts _ m_342c0f16) (hts _ m_c0324d76) (xt_sigOf (hts _ m_feaaa075)) nm_M_total (by rw [hT]; exact ra9) rb9 rc9 (g := F0 m 8 ls [.int x2, .int (xb_i h b2 (Int32.toNatClampNeg x1)), .ref x0]) rfl (argsL := [.int (xb_i h b2 (Int32.toNatClampNeg x1)), .int x2]) (rest := []) rfl rfl (by rw [hb]; exact (xb_d D_M_only 6 rfl))) (ok_M_total l hfl D A σ x0 (xb_i h b2 (Int32.toNatClampNeg x1)) x2 h _ hw) (hml.trans hl.1.symm) (by rw [hb]; exact (xb_d D_M_only 6 rfl)) (Nat.le_of_ble_eq_true rfl) (Nat.le_of_ble_eq_true rfl) (Nat.le_of_ble_eq_true rfl) (show k ≤ MC by omega) (show n ≤ MS by omega) (xt_w1 hB.1 m_feaaa075) (xt_cdOf hB.1 m_feaaa075) (hts _ m_d5ed7bed) hB hR hS hA (fun vv h5 H locs hq hEh5 hR hS => ?_)
  obtain ⟨r6, rfl, hw⟩ := hq
  have hw := hw hEh5
  have hE := hE.tr hEh5
  refine W.eq (g2 := F0 m 11 ls [.long r6]) rfl ?_
  refine lv_lconst (v := 0) hx hb (xb_d D_M_only 7 rfl) (by decide) ?_
  refine xb_lc_ne (tgt := 20) hx hb (xb_d D_M_only 8 rfl) (xb_d D_M_only 9 rfl) rfl (fun hc7 => ?_) (fun hc7 => ?_)
  · have hw := hw.1 hc7
    refine lv_aload_n hx hb (xb_d D_M_only 12 rfl) rfl (lv_at hl 0 rfl) ?_
    refine lv_iload_n hx hb (xb_d D_M_only 13 rfl) rfl (lv_at hl 1 rfl) ?_
    refine lv_iload_n hx hb (xb_d D_M_only 14 rfl) rfl (lv_at hl 2 rfl) ?_
    refine lv_iconst (v := 0) hx hb (xb_d D_M_only 15 rfl) (by decide) ?_
    have hk1 : xb_k h5 x0 = 9 := hEh5.k hk1
    refine xb_call0 (D := D) (A := A) (σ := σ) (h := h5) (d := 8) (maxL := 6) (rest := []) (av := [.ref x0, .int x1, .int x2, .int 0]) (fun T hT X => by obtain ⟨cb9, ra9, rb9, rc9⟩ := xb_recv (ci := 8) hR rfl hk1 (by decide); exact xt_invV X hx hown (hts _ m_5ec466f2) (hts _ m_f0f1d102) (hts _ m_cfa25922) (xt_sigOf (hts _ m_59347bba)) nm_M_meant (by rw [hT]; exact ra9) rb9 rc9 (g := F0 m 24 ls [.int 0, .int x2, .int x1, .ref x0]) rfl (argsL := [.int x1, .int x2, .int 0]) (rest := []) rfl rfl (by rw [hb]; exact (xb_d D_M_only 16 rfl))) (ok_M_meant l hfl D A σ x0 x1 x2 0 h5 _ hw) (hml.trans hl.1.symm) (by rw [hb]; exact (xb_d D_M_only 16 rfl)) (Nat.le_of_ble_eq_true rfl) (Nat.le_of_ble_eq_true rfl) (Nat.le_of_ble_eq_true rfl) (show k ≤ MC by omega) (show n ≤ MS by omega) (xt_w1 hB.1 m_59347bba) (xt_cdOf hB.1 m_59347bba) (hts _ m_d5ed7bed) hB hR hS hA (fun vv h8 H locs hq hEh8 hR hS => ?_)
    obtain ⟨r9, rfl, hw⟩ := hq
    have hw := hw hEh8
    have hE := hE.tr hEh8
    refine W.eq (g2 := F0 m 27 ls [.int r9]) rfl ?_
    exact am_M_only_L27 l hfl D A σ MC MS h0 Qr r9 h8 hw p e s m args below meth c hC H locs ls k n hE (lv_sub hl [] rfl) hR hS (by omega) (by omega)
  · have hw := hw.2 hc7
    refine lv_iconst (v := (-1)) hx hb (xb_d D_M_only 10 rfl) (by decide) ?_
    refine lv_goto (tgt := 27) hx hb (xb_d D_M_only 11 rfl) rfl ?_
    exact am_M_only_L27 l hfl D A σ MC MS h0 Qr (-1) h5 hw p e s m args below meth c hC H locs ls k n hE (lv_sub hl [] rfl) hR hS (by omega) (by omega)

